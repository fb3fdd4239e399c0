variable {tt : QQ}
theorem dX5_advance_0 : decode cX5_advance 0 = .ok (.aload_n 0, 1) := by decide +kernel
theorem dX5_advance_1 : decode cX5_advance 1 = .ok (.getfield 35, 3) := by decide +kernel
theorem dX5_advance_4 : decode cX5_advance 4 = .ok (.ifCond .eq 4, 3) := by decide +kernel
theorem dX5_advance_7 : decode cX5_advance 7 = .ok (.return_, 1) := by decide +kernel
theorem dX5_advance_8 : decode cX5_advance 8 = .ok (.aload_n 0, 1) := by decide +kernel
theorem dX5_advance_9 : decode cX5_advance 9 = .ok (.aload_n 0, 1) := by decide +kernel
theorem dX5_advance_10 : decode cX5_advance 10 = .ok (.getfield 44, 3) := by decide +kernel
theorem dX5_advance_13 : decode cX5_advance 13 = .ok (.putfield 63, 3) := by decide +kernel
theorem dX5_advance_16 : decode cX5_advance 16 = .ok (.aload_n 0, 1) := by decide +kernel
theorem dX5_advance_17 : decode cX5_advance 17 = .ok (.getfield 63, 3) := by decide +kernel
theorem dX5_advance_20 : decode cX5_advance 20 = .ok (.aload_n 0, 1) := by decide +kernel
theorem dX5_advance_21 : decode cX5_advance 21 = .ok (.getfield 41, 3) := by decide +kernel
theorem dX5_advance_24 : decode cX5_advance 24 = .ok (.if_icmp .ge 44, 3) := by decide +kernel
theorem dX5_advance_27 : decode cX5_advance 27 = .ok (.aload_n 0, 1) := by decide +kernel
theorem dX5_advance_28 : decode cX5_advance 28 = .ok (.getfield 9, 3) := by decide +kernel
theorem dX5_advance_31 : decode cX5_advance 31 = .ok (.aload_n 0, 1) := by decide +kernel
theorem dX5_advance_32 : decode cX5_advance 32 = .ok (.getfield 63, 3) := by decide +kernel
theorem dX5_advance_35 : decode cX5_advance 35 = .ok (.baload, 1) := by decide +kernel
theorem dX5_advance_36 : decode cX5_advance 36 = .ok (.bipush 32, 2) := by decide +kernel
theorem dX5_advance_38 : decode cX5_advance 38 = .ok (.if_icmp .eq 17, 3) := by decide +kernel
theorem dX5_advance_41 : decode cX5_advance 41 = .ok (.aload_n 0, 1) := by decide +kernel
theorem dX5_advance_42 : decode cX5_advance 42 = .ok (.getfield 9, 3) := by decide +kernel
theorem dX5_advance_45 : decode cX5_advance 45 = .ok (.aload_n 0, 1) := by decide +kernel
theorem dX5_advance_46 : decode cX5_advance 46 = .ok (.getfield 63, 3) := by decide +kernel
theorem dX5_advance_49 : decode cX5_advance 49 = .ok (.baload, 1) := by decide +kernel
theorem dX5_advance_50 : decode cX5_advance 50 = .ok (.bipush 10, 2) := by decide +kernel
theorem dX5_advance_52 : decode cX5_advance 52 = .ok (.if_icmp .ne 16, 3) := by decide +kernel
theorem dX5_advance_55 : decode cX5_advance 55 = .ok (.aload_n 0, 1) := by decide +kernel
theorem dX5_advance_56 : decode cX5_advance 56 = .ok (.dup, 1) := by decide +kernel
theorem dX5_advance_57 : decode cX5_advance 57 = .ok (.getfield 63, 3) := by decide +kernel
theorem dX5_advance_60 : decode cX5_advance 60 = .ok (.iconst 1, 1) := by decide +kernel
theorem dX5_advance_61 : decode cX5_advance 61 = .ok (.iadd, 1) := by decide +kernel
theorem dX5_advance_62 : decode cX5_advance 62 = .ok (.putfield 63, 3) := by decide +kernel
theorem dX5_advance_65 : decode cX5_advance 65 = .ok (.goto (-49), 3) := by decide +kernel
theorem dX5_advance_68 : decode cX5_advance 68 = .ok (.aload_n 0, 1) := by decide +kernel
theorem dX5_advance_69 : decode cX5_advance 69 = .ok (.aload_n 0, 1) := by decide +kernel
theorem dX5_advance_70 : decode cX5_advance 70 = .ok (.getfield 63, 3) := by decide +kernel
theorem dX5_advance_73 : decode cX5_advance 73 = .ok (.putfield 44, 3) := by decide +kernel
theorem dX5_advance_76 : decode cX5_advance 76 = .ok (.aload_n 0, 1) := by decide +kernel
theorem dX5_advance_77 : decode cX5_advance 77 = .ok (.getfield 63, 3) := by decide +kernel
theorem dX5_advance_80 : decode cX5_advance 80 = .ok (.aload_n 0, 1) := by decide +kernel
theorem dX5_advance_81 : decode cX5_advance 81 = .ok (.getfield 41, 3) := by decide +kernel
theorem dX5_advance_84 : decode cX5_advance 84 = .ok (.if_icmp .lt 11, 3) := by decide +kernel
theorem dX5_advance_87 : decode cX5_advance 87 = .ok (.aload_n 0, 1) := by decide +kernel
theorem dX5_advance_88 : decode cX5_advance 88 = .ok (.iconst 0, 1) := by decide +kernel
theorem dX5_advance_89 : decode cX5_advance 89 = .ok (.putfield 50, 3) := by decide +kernel
theorem dX5_advance_92 : decode cX5_advance 92 = .ok (.goto 216, 3) := by decide +kernel
theorem dX5_advance_95 : decode cX5_advance 95 = .ok (.aload_n 0, 1) := by decide +kernel
theorem dX5_advance_96 : decode cX5_advance 96 = .ok (.aload_n 0, 1) := by decide +kernel
theorem dX5_advance_97 : decode cX5_advance 97 = .ok (.getfield 63, 3) := by decide +kernel
theorem dX5_advance_100 : decode cX5_advance 100 = .ok (.invokevirtual 66, 3) := by decide +kernel
theorem dX5_advance_103 : decode cX5_advance 103 = .ok (.ifCond .eq 43, 3) := by decide +kernel
theorem dX5_advance_106 : decode cX5_advance 106 = .ok (.aload_n 0, 1) := by decide +kernel
theorem dX5_advance_107 : decode cX5_advance 107 = .ok (.iconst 1, 1) := by decide +kernel
theorem dX5_advance_108 : decode cX5_advance 108 = .ok (.putfield 50, 3) := by decide +kernel
theorem dX5_advance_111 : decode cX5_advance 111 = .ok (.aload_n 0, 1) := by decide +kernel
theorem dX5_advance_112 : decode cX5_advance 112 = .ok (.getfield 44, 3) := by decide +kernel
theorem dX5_advance_115 : decode cX5_advance 115 = .ok (.aload_n 0, 1) := by decide +kernel
theorem dX5_advance_116 : decode cX5_advance 116 = .ok (.getfield 41, 3) := by decide +kernel
theorem dX5_advance_119 : decode cX5_advance 119 = .ok (.if_icmp .ge 189, 3) := by decide +kernel
theorem dX5_advance_122 : decode cX5_advance 122 = .ok (.aload_n 0, 1) := by decide +kernel
theorem dX5_advance_123 : decode cX5_advance 123 = .ok (.aload_n 0, 1) := by decide +kernel
theorem dX5_advance_124 : decode cX5_advance 124 = .ok (.getfield 44, 3) := by decide +kernel
theorem dX5_advance_127 : decode cX5_advance 127 = .ok (.invokevirtual 66, 3) := by decide +kernel
theorem dX5_advance_130 : decode cX5_advance 130 = .ok (.ifCond .eq 178, 3) := by decide +kernel
theorem dX5_advance_133 : decode cX5_advance 133 = .ok (.aload_n 0, 1) := by decide +kernel
theorem dX5_advance_134 : decode cX5_advance 134 = .ok (.dup, 1) := by decide +kernel
theorem dX5_advance_135 : decode cX5_advance 135 = .ok (.getfield 44, 3) := by decide +kernel
theorem dX5_advance_138 : decode cX5_advance 138 = .ok (.iconst 1, 1) := by decide +kernel
theorem dX5_advance_139 : decode cX5_advance 139 = .ok (.iadd, 1) := by decide +kernel
theorem dX5_advance_140 : decode cX5_advance 140 = .ok (.putfield 44, 3) := by decide +kernel
theorem dX5_advance_143 : decode cX5_advance 143 = .ok (.goto (-32), 3) := by decide +kernel
theorem dX5_advance_146 : decode cX5_advance 146 = .ok (.aload_n 0, 1) := by decide +kernel
theorem dX5_advance_147 : decode cX5_advance 147 = .ok (.aload_n 0, 1) := by decide +kernel
theorem dX5_advance_148 : decode cX5_advance 148 = .ok (.getfield 63, 3) := by decide +kernel
theorem dX5_advance_151 : decode cX5_advance 151 = .ok (.invokevirtual 70, 3) := by decide +kernel
theorem dX5_advance_154 : decode cX5_advance 154 = .ok (.ifCond .eq 93, 3) := by decide +kernel
theorem dX5_advance_157 : decode cX5_advance 157 = .ok (.aload_n 0, 1) := by decide +kernel
theorem dX5_advance_158 : decode cX5_advance 158 = .ok (.iconst 2, 1) := by decide +kernel
theorem dX5_advance_159 : decode cX5_advance 159 = .ok (.putfield 50, 3) := by decide +kernel
theorem dX5_advance_162 : decode cX5_advance 162 = .ok (.aload_n 0, 1) := by decide +kernel
theorem dX5_advance_163 : decode cX5_advance 163 = .ok (.iconst 0, 1) := by decide +kernel
theorem dX5_advance_164 : decode cX5_advance 164 = .ok (.putfield 73, 3) := by decide +kernel
theorem dX5_advance_167 : decode cX5_advance 167 = .ok (.aload_n 0, 1) := by decide +kernel
theorem dX5_advance_168 : decode cX5_advance 168 = .ok (.getfield 44, 3) := by decide +kernel
theorem dX5_advance_171 : decode cX5_advance 171 = .ok (.aload_n 0, 1) := by decide +kernel
theorem dX5_advance_172 : decode cX5_advance 172 = .ok (.getfield 41, 3) := by decide +kernel
theorem dX5_advance_175 : decode cX5_advance 175 = .ok (.if_icmp .ge 51, 3) := by decide +kernel
theorem dX5_advance_178 : decode cX5_advance 178 = .ok (.aload_n 0, 1) := by decide +kernel
theorem dX5_advance_179 : decode cX5_advance 179 = .ok (.aload_n 0, 1) := by decide +kernel
theorem dX5_advance_180 : decode cX5_advance 180 = .ok (.getfield 44, 3) := by decide +kernel
theorem dX5_advance_183 : decode cX5_advance 183 = .ok (.invokevirtual 70, 3) := by decide +kernel
theorem dX5_advance_186 : decode cX5_advance 186 = .ok (.ifCond .eq 40, 3) := by decide +kernel
theorem dX5_advance_189 : decode cX5_advance 189 = .ok (.aload_n 0, 1) := by decide +kernel
theorem dX5_advance_190 : decode cX5_advance 190 = .ok (.aload_n 0, 1) := by decide +kernel
theorem dX5_advance_191 : decode cX5_advance 191 = .ok (.getfield 73, 3) := by decide +kernel
theorem dX5_advance_194 : decode cX5_advance 194 = .ok (.bipush 10, 2) := by decide +kernel
theorem dX5_advance_196 : decode cX5_advance 196 = .ok (.imul, 1) := by decide +kernel
theorem dX5_advance_197 : decode cX5_advance 197 = .ok (.aload_n 0, 1) := by decide +kernel
theorem dX5_advance_198 : decode cX5_advance 198 = .ok (.getfield 9, 3) := by decide +kernel
theorem dX5_advance_201 : decode cX5_advance 201 = .ok (.aload_n 0, 1) := by decide +kernel
theorem dX5_advance_202 : decode cX5_advance 202 = .ok (.getfield 44, 3) := by decide +kernel
theorem dX5_advance_205 : decode cX5_advance 205 = .ok (.baload, 1) := by decide +kernel
theorem dX5_advance_206 : decode cX5_advance 206 = .ok (.iadd, 1) := by decide +kernel
theorem dX5_advance_207 : decode cX5_advance 207 = .ok (.bipush 48, 2) := by decide +kernel
theorem dX5_advance_209 : decode cX5_advance 209 = .ok (.isub, 1) := by decide +kernel
theorem dX5_advance_210 : decode cX5_advance 210 = .ok (.putfield 73, 3) := by decide +kernel
theorem dX5_advance_213 : decode cX5_advance 213 = .ok (.aload_n 0, 1) := by decide +kernel
theorem dX5_advance_214 : decode cX5_advance 214 = .ok (.dup, 1) := by decide +kernel
theorem dX5_advance_215 : decode cX5_advance 215 = .ok (.getfield 44, 3) := by decide +kernel
theorem dX5_advance_218 : decode cX5_advance 218 = .ok (.iconst 1, 1) := by decide +kernel
theorem dX5_advance_219 : decode cX5_advance 219 = .ok (.iadd, 1) := by decide +kernel
theorem dX5_advance_220 : decode cX5_advance 220 = .ok (.putfield 44, 3) := by decide +kernel
theorem dX5_advance_223 : decode cX5_advance 223 = .ok (.goto (-56), 3) := by decide +kernel
theorem dX5_advance_226 : decode cX5_advance 226 = .ok (.aload_n 0, 1) := by decide +kernel
theorem dX5_advance_227 : decode cX5_advance 227 = .ok (.getfield 44, 3) := by decide +kernel
theorem dX5_advance_230 : decode cX5_advance 230 = .ok (.aload_n 0, 1) := by decide +kernel
theorem dX5_advance_231 : decode cX5_advance 231 = .ok (.getfield 63, 3) := by decide +kernel
theorem dX5_advance_234 : decode cX5_advance 234 = .ok (.isub, 1) := by decide +kernel
theorem dX5_advance_235 : decode cX5_advance 235 = .ok (.iconst 3, 1) := by decide +kernel
theorem dX5_advance_236 : decode cX5_advance 236 = .ok (.if_icmp .le 72, 3) := by decide +kernel
theorem dX5_advance_239 : decode cX5_advance 239 = .ok (.aload_n 0, 1) := by decide +kernel
theorem dX5_advance_240 : decode cX5_advance 240 = .ok (.iconst 1, 1) := by decide +kernel
theorem dX5_advance_241 : decode cX5_advance 241 = .ok (.invokevirtual 76, 3) := by decide +kernel
theorem dX5_advance_244 : decode cX5_advance 244 = .ok (.goto 64, 3) := by decide +kernel
theorem dX5_advance_247 : decode cX5_advance 247 = .ok (.aload_n 0, 1) := by decide +kernel
theorem dX5_advance_248 : decode cX5_advance 248 = .ok (.getfield 9, 3) := by decide +kernel
theorem dX5_advance_251 : decode cX5_advance 251 = .ok (.aload_n 0, 1) := by decide +kernel
theorem dX5_advance_252 : decode cX5_advance 252 = .ok (.getfield 63, 3) := by decide +kernel
theorem dX5_advance_255 : decode cX5_advance 255 = .ok (.baload, 1) := by decide +kernel
theorem dX5_advance_256 : decode cX5_advance 256 = .ok (.ifCond .le 47, 3) := by decide +kernel
theorem dX5_advance_259 : decode cX5_advance 259 = .ok (.ldc 80, 2) := by decide +kernel
theorem dX5_advance_261 : decode cX5_advance 261 = .ok (.aload_n 0, 1) := by decide +kernel
theorem dX5_advance_262 : decode cX5_advance 262 = .ok (.getfield 9, 3) := by decide +kernel
theorem dX5_advance_265 : decode cX5_advance 265 = .ok (.aload_n 0, 1) := by decide +kernel
theorem dX5_advance_266 : decode cX5_advance 266 = .ok (.getfield 63, 3) := by decide +kernel
theorem dX5_advance_269 : decode cX5_advance 269 = .ok (.baload, 1) := by decide +kernel
theorem dX5_advance_270 : decode cX5_advance 270 = .ok (.i2c, 1) := by decide +kernel
theorem dX5_advance_271 : decode cX5_advance 271 = .ok (.invokevirtual 82, 3) := by decide +kernel
theorem dX5_advance_274 : decode cX5_advance 274 = .ok (.ifCond .lt 29, 3) := by decide +kernel
theorem dX5_advance_277 : decode cX5_advance 277 = .ok (.aload_n 0, 1) := by decide +kernel
theorem dX5_advance_278 : decode cX5_advance 278 = .ok (.aload_n 0, 1) := by decide +kernel
theorem dX5_advance_279 : decode cX5_advance 279 = .ok (.getfield 9, 3) := by decide +kernel
theorem dX5_advance_282 : decode cX5_advance 282 = .ok (.aload_n 0, 1) := by decide +kernel
theorem dX5_advance_283 : decode cX5_advance 283 = .ok (.getfield 63, 3) := by decide +kernel
theorem dX5_advance_286 : decode cX5_advance 286 = .ok (.baload, 1) := by decide +kernel
theorem dX5_advance_287 : decode cX5_advance 287 = .ok (.putfield 50, 3) := by decide +kernel
theorem dX5_advance_290 : decode cX5_advance 290 = .ok (.aload_n 0, 1) := by decide +kernel
theorem dX5_advance_291 : decode cX5_advance 291 = .ok (.dup, 1) := by decide +kernel
theorem dX5_advance_292 : decode cX5_advance 292 = .ok (.getfield 44, 3) := by decide +kernel
theorem dX5_advance_295 : decode cX5_advance 295 = .ok (.iconst 1, 1) := by decide +kernel
theorem dX5_advance_296 : decode cX5_advance 296 = .ok (.iadd, 1) := by decide +kernel
theorem dX5_advance_297 : decode cX5_advance 297 = .ok (.putfield 44, 3) := by decide +kernel
theorem dX5_advance_300 : decode cX5_advance 300 = .ok (.goto 8, 3) := by decide +kernel
theorem dX5_advance_303 : decode cX5_advance 303 = .ok (.aload_n 0, 1) := by decide +kernel
theorem dX5_advance_304 : decode cX5_advance 304 = .ok (.iconst 1, 1) := by decide +kernel
theorem dX5_advance_305 : decode cX5_advance 305 = .ok (.invokevirtual 76, 3) := by decide +kernel
theorem dX5_advance_308 : decode cX5_advance 308 = .ok (.return_, 1) := by decide +kernel
theorem dX5_bounded_0 : decode cX5_bounded 0 = .ok (.aload_n 0, 1) := by decide +kernel
theorem dX5_bounded_1 : decode cX5_bounded 1 = .ok (.getfield 50, 3) := by decide +kernel
theorem dX5_bounded_4 : decode cX5_bounded 4 = .ok (.iconst 2, 1) := by decide +kernel
theorem dX5_bounded_5 : decode cX5_bounded 5 = .ok (.if_icmp .eq 10, 3) := by decide +kernel
theorem dX5_bounded_8 : decode cX5_bounded 8 = .ok (.aload_n 0, 1) := by decide +kernel
theorem dX5_bounded_9 : decode cX5_bounded 9 = .ok (.iconst 2, 1) := by decide +kernel
theorem dX5_bounded_10 : decode cX5_bounded 10 = .ok (.invokevirtual 76, 3) := by decide +kernel
theorem dX5_bounded_13 : decode cX5_bounded 13 = .ok (.iload_n 1, 1) := by decide +kernel
theorem dX5_bounded_14 : decode cX5_bounded 14 = .ok (.ireturn, 1) := by decide +kernel
theorem dX5_bounded_15 : decode cX5_bounded 15 = .ok (.aload_n 0, 1) := by decide +kernel
theorem dX5_bounded_16 : decode cX5_bounded 16 = .ok (.getfield 73, 3) := by decide +kernel
theorem dX5_bounded_19 : decode cX5_bounded 19 = .ok (.iload_n 1, 1) := by decide +kernel
theorem dX5_bounded_20 : decode cX5_bounded 20 = .ok (.if_icmp .lt 11, 3) := by decide +kernel
theorem dX5_bounded_23 : decode cX5_bounded 23 = .ok (.aload_n 0, 1) := by decide +kernel
theorem dX5_bounded_24 : decode cX5_bounded 24 = .ok (.getfield 73, 3) := by decide +kernel
theorem dX5_bounded_27 : decode cX5_bounded 27 = .ok (.iload_n 2, 1) := by decide +kernel
theorem dX5_bounded_28 : decode cX5_bounded 28 = .ok (.if_icmp .le 10, 3) := by decide +kernel
theorem dX5_bounded_31 : decode cX5_bounded 31 = .ok (.aload_n 0, 1) := by decide +kernel
theorem dX5_bounded_32 : decode cX5_bounded 32 = .ok (.iconst 3, 1) := by decide +kernel
theorem dX5_bounded_33 : decode cX5_bounded 33 = .ok (.invokevirtual 76, 3) := by decide +kernel
theorem dX5_bounded_36 : decode cX5_bounded 36 = .ok (.iload_n 1, 1) := by decide +kernel
theorem dX5_bounded_37 : decode cX5_bounded 37 = .ok (.ireturn, 1) := by decide +kernel
theorem dX5_bounded_38 : decode cX5_bounded 38 = .ok (.aload_n 0, 1) := by decide +kernel
theorem dX5_bounded_39 : decode cX5_bounded 39 = .ok (.getfield 73, 3) := by decide +kernel
theorem dX5_bounded_42 : decode cX5_bounded 42 = .ok (.istore_n 3, 1) := by decide +kernel
theorem dX5_bounded_43 : decode cX5_bounded 43 = .ok (.aload_n 0, 1) := by decide +kernel
theorem dX5_bounded_44 : decode cX5_bounded 44 = .ok (.invokevirtual 47, 3) := by decide +kernel
theorem dX5_bounded_47 : decode cX5_bounded 47 = .ok (.iload_n 3, 1) := by decide +kernel
theorem dX5_bounded_48 : decode cX5_bounded 48 = .ok (.ireturn, 1) := by decide +kernel
theorem dX5_fail_0 : decode cX5_fail 0 = .ok (.aload_n 0, 1) := by decide +kernel
theorem dX5_fail_1 : decode cX5_fail 1 = .ok (.getfield 35, 3) := by decide +kernel
theorem dX5_fail_4 : decode cX5_fail 4 = .ok (.ifCond .ne 16, 3) := by decide +kernel
theorem dX5_fail_7 : decode cX5_fail 7 = .ok (.aload_n 0, 1) := by decide +kernel
theorem dX5_fail_8 : decode cX5_fail 8 = .ok (.iload_n 1, 1) := by decide +kernel
theorem dX5_fail_9 : decode cX5_fail 9 = .ok (.putfield 35, 3) := by decide +kernel
theorem dX5_fail_12 : decode cX5_fail 12 = .ok (.aload_n 0, 1) := by decide +kernel
theorem dX5_fail_13 : decode cX5_fail 13 = .ok (.aload_n 0, 1) := by decide +kernel
theorem dX5_fail_14 : decode cX5_fail 14 = .ok (.getfield 63, 3) := by decide +kernel
theorem dX5_fail_17 : decode cX5_fail 17 = .ok (.putfield 15, 3) := by decide +kernel
theorem dX5_fail_20 : decode cX5_fail 20 = .ok (.aload_n 0, 1) := by decide +kernel
theorem dX5_fail_21 : decode cX5_fail 21 = .ok (.iconst 0, 1) := by decide +kernel
theorem dX5_fail_22 : decode cX5_fail 22 = .ok (.putfield 50, 3) := by decide +kernel
theorem dX5_fail_25 : decode cX5_fail 25 = .ok (.return_, 1) := by decide +kernel
theorem dX5_faultKind_0 : decode cX5_faultKind 0 = .ok (.aload_n 0, 1) := by decide +kernel
theorem dX5_faultKind_1 : decode cX5_faultKind 1 = .ok (.getfield 35, 3) := by decide +kernel
theorem dX5_faultKind_4 : decode cX5_faultKind 4 = .ok (.ireturn, 1) := by decide +kernel
theorem dX5_faultPlace_0 : decode cX5_faultPlace 0 = .ok (.aload_n 0, 1) := by decide +kernel
theorem dX5_faultPlace_1 : decode cX5_faultPlace 1 = .ok (.getfield 15, 3) := by decide +kernel
theorem dX5_faultPlace_4 : decode cX5_faultPlace 4 = .ok (.ireturn, 1) := by decide +kernel
theorem dX5_fed_0 : decode cX5_fed 0 = .ok (.aload_n 0, 1) := by decide +kernel
theorem dX5_fed_1 : decode cX5_fed 1 = .ok (.getfield 32, 3) := by decide +kernel
theorem dX5_fed_4 : decode cX5_fed 4 = .ok (.ireturn, 1) := by decide +kernel
theorem dX5_hasRoom_0 : decode cX5_hasRoom 0 = .ok (.aload_n 0, 1) := by decide +kernel
theorem dX5_hasRoom_1 : decode cX5_hasRoom 1 = .ok (.getfield 32, 3) := by decide +kernel
theorem dX5_hasRoom_4 : decode cX5_hasRoom 4 = .ok (.bipush 20, 2) := by decide +kernel
theorem dX5_hasRoom_6 : decode cX5_hasRoom 6 = .ok (.iadd, 1) := by decide +kernel
theorem dX5_hasRoom_7 : decode cX5_hasRoom 7 = .ok (.sipush 900, 3) := by decide +kernel
theorem dX5_hasRoom_10 : decode cX5_hasRoom 10 = .ok (.if_icmp .gt 7, 3) := by decide +kernel
theorem dX5_hasRoom_13 : decode cX5_hasRoom 13 = .ok (.iconst 1, 1) := by decide +kernel
theorem dX5_hasRoom_14 : decode cX5_hasRoom 14 = .ok (.goto 4, 3) := by decide +kernel
theorem dX5_hasRoom_17 : decode cX5_hasRoom 17 = .ok (.iconst 0, 1) := by decide +kernel
theorem dX5_hasRoom_18 : decode cX5_hasRoom 18 = .ok (.ireturn, 1) := by decide +kernel
theorem dX5_isDigit_0 : decode cX5_isDigit 0 = .ok (.aload_n 0, 1) := by decide +kernel
theorem dX5_isDigit_1 : decode cX5_isDigit 1 = .ok (.getfield 9, 3) := by decide +kernel
theorem dX5_isDigit_4 : decode cX5_isDigit 4 = .ok (.iload_n 1, 1) := by decide +kernel
theorem dX5_isDigit_5 : decode cX5_isDigit 5 = .ok (.baload, 1) := by decide +kernel
theorem dX5_isDigit_6 : decode cX5_isDigit 6 = .ok (.bipush 48, 2) := by decide +kernel
theorem dX5_isDigit_8 : decode cX5_isDigit 8 = .ok (.if_icmp .lt 18, 3) := by decide +kernel
theorem dX5_isDigit_11 : decode cX5_isDigit 11 = .ok (.aload_n 0, 1) := by decide +kernel
theorem dX5_isDigit_12 : decode cX5_isDigit 12 = .ok (.getfield 9, 3) := by decide +kernel
theorem dX5_isDigit_15 : decode cX5_isDigit 15 = .ok (.iload_n 1, 1) := by decide +kernel
theorem dX5_isDigit_16 : decode cX5_isDigit 16 = .ok (.baload, 1) := by decide +kernel
theorem dX5_isDigit_17 : decode cX5_isDigit 17 = .ok (.bipush 57, 2) := by decide +kernel
theorem dX5_isDigit_19 : decode cX5_isDigit 19 = .ok (.if_icmp .gt 7, 3) := by decide +kernel
theorem dX5_isDigit_22 : decode cX5_isDigit 22 = .ok (.iconst 1, 1) := by decide +kernel
theorem dX5_isDigit_23 : decode cX5_isDigit 23 = .ok (.goto 4, 3) := by decide +kernel
theorem dX5_isDigit_26 : decode cX5_isDigit 26 = .ok (.iconst 0, 1) := by decide +kernel
theorem dX5_isDigit_27 : decode cX5_isDigit 27 = .ok (.ireturn, 1) := by decide +kernel
theorem dX5_isSmall_0 : decode cX5_isSmall 0 = .ok (.aload_n 0, 1) := by decide +kernel
theorem dX5_isSmall_1 : decode cX5_isSmall 1 = .ok (.getfield 9, 3) := by decide +kernel
theorem dX5_isSmall_4 : decode cX5_isSmall 4 = .ok (.iload_n 1, 1) := by decide +kernel
theorem dX5_isSmall_5 : decode cX5_isSmall 5 = .ok (.baload, 1) := by decide +kernel
theorem dX5_isSmall_6 : decode cX5_isSmall 6 = .ok (.bipush 97, 2) := by decide +kernel
theorem dX5_isSmall_8 : decode cX5_isSmall 8 = .ok (.if_icmp .lt 18, 3) := by decide +kernel
theorem dX5_isSmall_11 : decode cX5_isSmall 11 = .ok (.aload_n 0, 1) := by decide +kernel
theorem dX5_isSmall_12 : decode cX5_isSmall 12 = .ok (.getfield 9, 3) := by decide +kernel
theorem dX5_isSmall_15 : decode cX5_isSmall 15 = .ok (.iload_n 1, 1) := by decide +kernel
theorem dX5_isSmall_16 : decode cX5_isSmall 16 = .ok (.baload, 1) := by decide +kernel
theorem dX5_isSmall_17 : decode cX5_isSmall 17 = .ok (.bipush 122, 2) := by decide +kernel
theorem dX5_isSmall_19 : decode cX5_isSmall 19 = .ok (.if_icmp .gt 7, 3) := by decide +kernel
theorem dX5_isSmall_22 : decode cX5_isSmall 22 = .ok (.iconst 1, 1) := by decide +kernel
theorem dX5_isSmall_23 : decode cX5_isSmall 23 = .ok (.goto 4, 3) := by decide +kernel
theorem dX5_isSmall_26 : decode cX5_isSmall 26 = .ok (.iconst 0, 1) := by decide +kernel
theorem dX5_isSmall_27 : decode cX5_isSmall 27 = .ok (.ireturn, 1) := by decide +kernel
theorem dX5_isWord_0 : decode cX5_isWord 0 = .ok (.aload_n 0, 1) := by decide +kernel
theorem dX5_isWord_1 : decode cX5_isWord 1 = .ok (.getfield 50, 3) := by decide +kernel
theorem dX5_isWord_4 : decode cX5_isWord 4 = .ok (.iconst 1, 1) := by decide +kernel
theorem dX5_isWord_5 : decode cX5_isWord 5 = .ok (.if_icmp .ne 19, 3) := by decide +kernel
theorem dX5_isWord_8 : decode cX5_isWord 8 = .ok (.aload_n 0, 1) := by decide +kernel
theorem dX5_isWord_9 : decode cX5_isWord 9 = .ok (.getfield 44, 3) := by decide +kernel
theorem dX5_isWord_12 : decode cX5_isWord 12 = .ok (.aload_n 0, 1) := by decide +kernel
theorem dX5_isWord_13 : decode cX5_isWord 13 = .ok (.getfield 63, 3) := by decide +kernel
theorem dX5_isWord_16 : decode cX5_isWord 16 = .ok (.isub, 1) := by decide +kernel
theorem dX5_isWord_17 : decode cX5_isWord 17 = .ok (.aload_n 1, 1) := by decide +kernel
theorem dX5_isWord_18 : decode cX5_isWord 18 = .ok (.invokevirtual 88, 3) := by decide +kernel
theorem dX5_isWord_21 : decode cX5_isWord 21 = .ok (.if_icmp .eq 5, 3) := by decide +kernel
theorem dX5_isWord_24 : decode cX5_isWord 24 = .ok (.iconst 0, 1) := by decide +kernel
theorem dX5_isWord_25 : decode cX5_isWord 25 = .ok (.ireturn, 1) := by decide +kernel
theorem dX5_isWord_26 : decode cX5_isWord 26 = .ok (.iconst 0, 1) := by decide +kernel
theorem dX5_isWord_27 : decode cX5_isWord 27 = .ok (.istore_n 2, 1) := by decide +kernel
theorem dX5_isWord_28 : decode cX5_isWord 28 = .ok (.iload_n 2, 1) := by decide +kernel
theorem dX5_isWord_29 : decode cX5_isWord 29 = .ok (.aload_n 1, 1) := by decide +kernel
theorem dX5_isWord_30 : decode cX5_isWord 30 = .ok (.invokevirtual 88, 3) := by decide +kernel
theorem dX5_isWord_33 : decode cX5_isWord 33 = .ok (.if_icmp .ge 30, 3) := by decide +kernel
theorem dX5_isWord_36 : decode cX5_isWord 36 = .ok (.aload_n 0, 1) := by decide +kernel
theorem dX5_isWord_37 : decode cX5_isWord 37 = .ok (.getfield 9, 3) := by decide +kernel
theorem dX5_isWord_40 : decode cX5_isWord 40 = .ok (.aload_n 0, 1) := by decide +kernel
theorem dX5_isWord_41 : decode cX5_isWord 41 = .ok (.getfield 63, 3) := by decide +kernel
theorem dX5_isWord_44 : decode cX5_isWord 44 = .ok (.iload_n 2, 1) := by decide +kernel
theorem dX5_isWord_45 : decode cX5_isWord 45 = .ok (.iadd, 1) := by decide +kernel
theorem dX5_isWord_46 : decode cX5_isWord 46 = .ok (.baload, 1) := by decide +kernel
theorem dX5_isWord_47 : decode cX5_isWord 47 = .ok (.aload_n 1, 1) := by decide +kernel
theorem dX5_isWord_48 : decode cX5_isWord 48 = .ok (.iload_n 2, 1) := by decide +kernel
theorem dX5_isWord_49 : decode cX5_isWord 49 = .ok (.invokevirtual 91, 3) := by decide +kernel
theorem dX5_isWord_52 : decode cX5_isWord 52 = .ok (.if_icmp .eq 5, 3) := by decide +kernel
theorem dX5_isWord_55 : decode cX5_isWord 55 = .ok (.iconst 0, 1) := by decide +kernel
theorem dX5_isWord_56 : decode cX5_isWord 56 = .ok (.ireturn, 1) := by decide +kernel
theorem dX5_isWord_57 : decode cX5_isWord 57 = .ok (.iinc 2 1, 3) := by decide +kernel
theorem dX5_isWord_60 : decode cX5_isWord 60 = .ok (.goto (-32), 3) := by decide +kernel
theorem dX5_isWord_63 : decode cX5_isWord 63 = .ok (.iconst 1, 1) := by decide +kernel
theorem dX5_isWord_64 : decode cX5_isWord 64 = .ok (.ireturn, 1) := by decide +kernel
theorem dX5_put_0 : decode cX5_put 0 = .ok (.bipush 24, 2) := by decide +kernel
theorem dX5_put_2 : decode cX5_put 2 = .ok (.istore_n 2, 1) := by decide +kernel
theorem dX5_put_3 : decode cX5_put 3 = .ok (.iload_n 2, 1) := by decide +kernel
theorem dX5_put_4 : decode cX5_put 4 = .ok (.ifCond .lt 42, 3) := by decide +kernel
theorem dX5_put_7 : decode cX5_put 7 = .ok (.aload_n 0, 1) := by decide +kernel
theorem dX5_put_8 : decode cX5_put 8 = .ok (.getfield 32, 3) := by decide +kernel
theorem dX5_put_11 : decode cX5_put 11 = .ok (.sipush 900, 3) := by decide +kernel
theorem dX5_put_14 : decode cX5_put 14 = .ok (.if_icmp .ge 32, 3) := by decide +kernel
theorem dX5_put_17 : decode cX5_put 17 = .ok (.aload_n 0, 1) := by decide +kernel
theorem dX5_put_18 : decode cX5_put 18 = .ok (.getfield 9, 3) := by decide +kernel
theorem dX5_put_21 : decode cX5_put 21 = .ok (.aload_n 0, 1) := by decide +kernel
theorem dX5_put_22 : decode cX5_put 22 = .ok (.getfield 32, 3) := by decide +kernel
theorem dX5_put_25 : decode cX5_put 25 = .ok (.iload_n 1, 1) := by decide +kernel
theorem dX5_put_26 : decode cX5_put 26 = .ok (.iload_n 2, 1) := by decide +kernel
theorem dX5_put_27 : decode cX5_put 27 = .ok (.ishr, 1) := by decide +kernel
theorem dX5_put_28 : decode cX5_put 28 = .ok (.i2b, 1) := by decide +kernel
theorem dX5_put_29 : decode cX5_put 29 = .ok (.bastore, 1) := by decide +kernel
theorem dX5_put_30 : decode cX5_put 30 = .ok (.aload_n 0, 1) := by decide +kernel
theorem dX5_put_31 : decode cX5_put 31 = .ok (.dup, 1) := by decide +kernel
theorem dX5_put_32 : decode cX5_put 32 = .ok (.getfield 32, 3) := by decide +kernel
theorem dX5_put_35 : decode cX5_put 35 = .ok (.iconst 1, 1) := by decide +kernel
theorem dX5_put_36 : decode cX5_put 36 = .ok (.iadd, 1) := by decide +kernel
theorem dX5_put_37 : decode cX5_put 37 = .ok (.putfield 32, 3) := by decide +kernel
theorem dX5_put_40 : decode cX5_put 40 = .ok (.iinc 2 (-8), 3) := by decide +kernel
theorem dX5_put_43 : decode cX5_put 43 = .ok (.goto (-40), 3) := by decide +kernel
theorem dX5_put_46 : decode cX5_put 46 = .ok (.return_, 1) := by decide +kernel
theorem dX5_sign_0 : decode cX5_sign 0 = .ok (.aload_n 0, 1) := by decide +kernel
theorem dX5_sign_1 : decode cX5_sign 1 = .ok (.getfield 50, 3) := by decide +kernel
theorem dX5_sign_4 : decode cX5_sign 4 = .ok (.iload_n 1, 1) := by decide +kernel
theorem dX5_sign_5 : decode cX5_sign 5 = .ok (.if_icmp .ne 10, 3) := by decide +kernel
theorem dX5_sign_8 : decode cX5_sign 8 = .ok (.aload_n 0, 1) := by decide +kernel
theorem dX5_sign_9 : decode cX5_sign 9 = .ok (.invokevirtual 47, 3) := by decide +kernel
theorem dX5_sign_12 : decode cX5_sign 12 = .ok (.goto 8, 3) := by decide +kernel
theorem dX5_sign_15 : decode cX5_sign 15 = .ok (.aload_n 0, 1) := by decide +kernel
theorem dX5_sign_16 : decode cX5_sign 16 = .ok (.iconst 2, 1) := by decide +kernel
theorem dX5_sign_17 : decode cX5_sign 17 = .ok (.invokevirtual 76, 3) := by decide +kernel
theorem dX5_sign_20 : decode cX5_sign 20 = .ok (.return_, 1) := by decide +kernel
theorem o22_1 {x0 x1 : Int} (h0 : 0 ≤ x0) (h1 : x0 ≤ 900) (h2 : x1 = 20) (h3 : -2147483648 ≤ x0) (h4 : x0 ≤ 2147483647) (h5 : -2147483648 ≤ x1) (h6 : x1 ≤ 2147483647) : -2147483648 ≤ x0 + x1 := by omega
theorem o22_2 {x0 x1 : Int} (h0 : 0 ≤ x0) (h1 : x0 ≤ 900) (h2 : x1 = 20) (h3 : -2147483648 ≤ x0) (h4 : x0 ≤ 2147483647) (h5 : -2147483648 ≤ x1) (h6 : x1 ≤ 2147483647) : x0 + x1 ≤ 2147483647 := by omega
theorem o22_3 {x0 : Int} (h0 : x0 = 0) : 0 ≤ x0 := by omega
theorem o22_4 {x0 : Int} (h0 : x0 = 0) : x0 ≤ 1 := by omega
theorem o22_5 {x0 : Int} (h0 : x0 = 1) : 0 ≤ x0 := by omega
theorem o22_6 {x0 : Int} (h0 : x0 = 1) : x0 ≤ 1 := by omega
theorem o22_7 {x0 : Int} (h0 : 0 ≤ x0) (h1 : x0 ≤ 900) : 0 ≤ x0 := by omega
theorem o22_8 {x0 : Int} (h0 : 0 ≤ x0) (h1 : x0 ≤ 900) : x0 ≤ 900 := by omega
theorem o22_9 {x0 : Int} (h0 : (-8) ≤ x0) (h1 : x0 ≤ 24) (h2 : x0 - (-8) < 0) : False := by omega
theorem o22_10 {x0 x1 x2 : Int} (h0 : 0 ≤ x1) (h1 : x1 ≤ 900) (h2 : x2 = 900) (h3 : x1 < x2) (h4 : 0 ≤ x0) (h5 : x0 ≤ 900) (h6 : x0 = x1) : 0 ≤ x0 := by omega
theorem o22_11 {x0 x1 x2 : Int} (h0 : 0 ≤ x1) (h1 : x1 ≤ 900) (h2 : x2 = 900) (h3 : x1 < x2) (h4 : 0 ≤ x0) (h5 : x0 ≤ 900) (h6 : x0 = x1) : x0 < (900 : Nat) := by omega
theorem o22_12 {x0 x1 x2 x3 x4 : Int} (h0 : 0 ≤ x2) (h1 : x2 ≤ 900) (h2 : x3 = 900) (h3 : x2 < x3) (h4 : 0 ≤ x4) (h5 : x4 ≤ 900) (h6 : x4 = x2) (h7 : 0 ≤ x0) (h8 : x0 ≤ 900) (h9 : x0 = x2) (h10 : x1 = 1) (h11 : -2147483648 ≤ x0) (h12 : x0 ≤ 2147483647) (h13 : -2147483648 ≤ x1) (h14 : x1 ≤ 2147483647) (h15 : -2147483648 ≤ x2) (h16 : x2 ≤ 2147483647) (h17 : -2147483648 ≤ x3) (h18 : x3 ≤ 2147483647) (h19 : -2147483648 ≤ x4) (h20 : x4 ≤ 2147483647) : -2147483648 ≤ x0 + x1 := by omega
theorem o22_13 {x0 x1 x2 x3 x4 : Int} (h0 : 0 ≤ x2) (h1 : x2 ≤ 900) (h2 : x3 = 900) (h3 : x2 < x3) (h4 : 0 ≤ x4) (h5 : x4 ≤ 900) (h6 : x4 = x2) (h7 : 0 ≤ x0) (h8 : x0 ≤ 900) (h9 : x0 = x2) (h10 : x1 = 1) (h11 : -2147483648 ≤ x0) (h12 : x0 ≤ 2147483647) (h13 : -2147483648 ≤ x1) (h14 : x1 ≤ 2147483647) (h15 : -2147483648 ≤ x2) (h16 : x2 ≤ 2147483647) (h17 : -2147483648 ≤ x3) (h18 : x3 ≤ 2147483647) (h19 : -2147483648 ≤ x4) (h20 : x4 ≤ 2147483647) : x0 + x1 ≤ 2147483647 := by omega
theorem o22_14 {x0 x1 x2 x3 x4 x5 : Int} (h0 : 0 ≤ x1) (h1 : x1 ≤ 900) (h2 : x2 = 900) (h3 : x1 < x2) (h4 : 0 ≤ x3) (h5 : x3 ≤ 900) (h6 : x3 = x1) (h7 : 0 ≤ x4) (h8 : x4 ≤ 900) (h9 : x4 = x1) (h10 : x5 = 1) (h11 : x0 = x4 + x5) : 0 ≤ x0 := by omega
theorem o22_15 {x0 x1 x2 x3 x4 x5 : Int} (h0 : 0 ≤ x1) (h1 : x1 ≤ 900) (h2 : x2 = 900) (h3 : x1 < x2) (h4 : 0 ≤ x3) (h5 : x3 ≤ 900) (h6 : x3 = x1) (h7 : 0 ≤ x4) (h8 : x4 ≤ 900) (h9 : x4 = x1) (h10 : x5 = 1) (h11 : x0 = x4 + x5) : x0 ≤ 900 := by omega
theorem o22_16 {x0 : Int} {x1 : Nat} (h0 : (-8) ≤ x0) (h1 : x0 ≤ 24) (h2 : x0 - (-8) < ((x1 + 1 : Nat) : Int)) (h3 : 0 ≤ x0) (h4 : -2147483648 ≤ x0) (h5 : x0 ≤ 2147483647) : -2147483648 ≤ x0 + (-8) := by omega
theorem o22_17 {x0 : Int} {x1 : Nat} (h0 : (-8) ≤ x0) (h1 : x0 ≤ 24) (h2 : x0 - (-8) < ((x1 + 1 : Nat) : Int)) (h3 : 0 ≤ x0) (h4 : -2147483648 ≤ x0) (h5 : x0 ≤ 2147483647) : x0 + (-8) ≤ 2147483647 := by omega
theorem o22_18 {x0 x2 : Int} {x1 : Nat} (h0 : (-8) ≤ x2) (h1 : x2 ≤ 24) (h2 : x2 - (-8) < ((x1 + 1 : Nat) : Int)) (h3 : 0 ≤ x2) (h4 : x0 = x2 + (-8)) : x0 - (-8) < (x1 : Int) := by omega
theorem o22_19 {x0 x1 : Int} {x2 : Nat} (h0 : (-8) ≤ x1) (h1 : x1 ≤ 24) (h2 : x1 - (-8) < ((x2 + 1 : Nat) : Int)) (h3 : 0 ≤ x1) (h4 : x0 = x1 + (-8)) : (-8) ≤ x0 := by omega
theorem o22_20 {x0 x1 : Int} {x2 : Nat} (h0 : (-8) ≤ x1) (h1 : x1 ≤ 24) (h2 : x1 - (-8) < ((x2 + 1 : Nat) : Int)) (h3 : 0 ≤ x1) (h4 : x0 = x1 + (-8)) : x0 ≤ 24 := by omega
theorem o22_21 {x0 : Int} (h0 : x0 = 24) : x0 - (-8) < (((x0 - (-8) + 1).toNat : Nat) : Int) := by omega
theorem o22_22 {x0 : Int} (h0 : x0 = 24) : (-8) ≤ x0 := by omega
theorem o22_23 {x0 : Int} (h0 : x0 = 24) : x0 ≤ 24 := by omega
theorem o22_24 {x0 : Int} (h0 : 0 ≤ x0) (h1 : x0 ≤ 899) : 0 ≤ x0 := by omega
theorem o22_25 {x0 : Int} (h0 : 0 ≤ x0) (h1 : x0 ≤ 899) : x0 < (900 : Nat) := by omega
theorem o22_26 {x0 : Int} (h0 : 0 ≤ x0) (h1 : x0 ≤ 900) (h2 : 900 - x0 < 0) : False := by omega
theorem o22_27 {x0 x1 x3 x4 : Int} {x2 : Nat} (h0 : 0 ≤ x1) (h1 : x1 ≤ 900) (h2 : 900 - x1 < ((x2 + 1 : Nat) : Int)) (h3 : 0 ≤ x3) (h4 : x3 ≤ 900) (h5 : x3 = x1) (h6 : 0 ≤ x4) (h7 : x4 ≤ 900) (h8 : x4 ≤ x3) (h9 : 0 ≤ x0) (h10 : x0 ≤ 900) (h11 : x0 = x1) : 0 ≤ x0 := by omega
theorem o22_28 {x0 x1 x3 x4 : Int} {x2 : Nat} (h0 : 0 ≤ x1) (h1 : x1 ≤ 900) (h2 : 900 - x1 < ((x2 + 1 : Nat) : Int)) (h3 : 0 ≤ x3) (h4 : x3 ≤ 900) (h5 : x3 = x1) (h6 : 0 ≤ x4) (h7 : x4 ≤ 900) (h8 : x4 ≤ x3) (h9 : 0 ≤ x0) (h10 : x0 ≤ 900) (h11 : x0 = x1) : x0 ≤ 900 := by omega
theorem o22_29 {x0 x1 x3 x4 x5 x6 x7 : Int} {x2 : Nat} (h0 : 0 ≤ x1) (h1 : x1 ≤ 900) (h2 : 900 - x1 < ((x2 + 1 : Nat) : Int)) (h3 : 0 ≤ x3) (h4 : x3 ≤ 900) (h5 : x3 = x1) (h6 : 0 ≤ x4) (h7 : x4 ≤ 900) (h8 : x4 ≤ x3) (h9 : 0 ≤ x5) (h10 : x5 ≤ 900) (h11 : x5 = x1) (h12 : 0 ≤ x6) (h13 : x6 ≤ 900) (h14 : x6 = x1) (h15 : 0 ≤ x7) (h16 : x7 ≤ 900) (h17 : x7 = x4) (h18 : x6 < x7) (h19 : 0 ≤ x0) (h20 : x0 ≤ 900) (h21 : x0 = x1) : 0 ≤ x0 := by omega
theorem o22_30 {x0 x1 x3 x4 x5 x6 x7 : Int} {x2 : Nat} (h0 : 0 ≤ x1) (h1 : x1 ≤ 900) (h2 : 900 - x1 < ((x2 + 1 : Nat) : Int)) (h3 : 0 ≤ x3) (h4 : x3 ≤ 900) (h5 : x3 = x1) (h6 : 0 ≤ x4) (h7 : x4 ≤ 900) (h8 : x4 ≤ x3) (h9 : 0 ≤ x5) (h10 : x5 ≤ 900) (h11 : x5 = x1) (h12 : 0 ≤ x6) (h13 : x6 ≤ 900) (h14 : x6 = x1) (h15 : 0 ≤ x7) (h16 : x7 ≤ 900) (h17 : x7 = x4) (h18 : x6 < x7) (h19 : 0 ≤ x0) (h20 : x0 ≤ 900) (h21 : x0 = x1) : x0 ≤ 899 := by omega
theorem o22_31 {x0 x1 x3 x4 x5 x6 x7 x8 : Int} {x2 : Nat} (h0 : 0 ≤ x1) (h1 : x1 ≤ 900) (h2 : 900 - x1 < ((x2 + 1 : Nat) : Int)) (h3 : 0 ≤ x3) (h4 : x3 ≤ 900) (h5 : x3 = x1) (h6 : 0 ≤ x4) (h7 : x4 ≤ 900) (h8 : x4 ≤ x3) (h9 : 0 ≤ x5) (h10 : x5 ≤ 900) (h11 : x5 = x1) (h12 : 0 ≤ x6) (h13 : x6 ≤ 900) (h14 : x6 = x1) (h15 : 0 ≤ x7) (h16 : x7 ≤ 900) (h17 : x7 = x4) (h18 : x6 < x7) (h19 : 0 ≤ x8) (h20 : x8 ≤ 900) (h21 : x8 = x1) (h22 : 0 ≤ x0) (h23 : x0 ≤ 900) (h24 : x0 = x1) : 0 ≤ x0 := by omega
theorem o22_32 {x0 x1 x3 x4 x5 x6 x7 x8 : Int} {x2 : Nat} (h0 : 0 ≤ x1) (h1 : x1 ≤ 900) (h2 : 900 - x1 < ((x2 + 1 : Nat) : Int)) (h3 : 0 ≤ x3) (h4 : x3 ≤ 900) (h5 : x3 = x1) (h6 : 0 ≤ x4) (h7 : x4 ≤ 900) (h8 : x4 ≤ x3) (h9 : 0 ≤ x5) (h10 : x5 ≤ 900) (h11 : x5 = x1) (h12 : 0 ≤ x6) (h13 : x6 ≤ 900) (h14 : x6 = x1) (h15 : 0 ≤ x7) (h16 : x7 ≤ 900) (h17 : x7 = x4) (h18 : x6 < x7) (h19 : 0 ≤ x8) (h20 : x8 ≤ 900) (h21 : x8 = x1) (h22 : 0 ≤ x0) (h23 : x0 ≤ 900) (h24 : x0 = x1) : x0 ≤ 899 := by omega
theorem o22_33 {x0 x1 x3 x4 x5 x6 x7 x8 x9 : Int} {x2 : Nat} (h0 : 0 ≤ x1) (h1 : x1 ≤ 900) (h2 : 900 - x1 < ((x2 + 1 : Nat) : Int)) (h3 : 0 ≤ x3) (h4 : x3 ≤ 900) (h5 : x3 = x1) (h6 : 0 ≤ x4) (h7 : x4 ≤ 900) (h8 : x4 ≤ x3) (h9 : 0 ≤ x5) (h10 : x5 ≤ 900) (h11 : x5 = x1) (h12 : 0 ≤ x6) (h13 : x6 ≤ 900) (h14 : x6 = x1) (h15 : 0 ≤ x7) (h16 : x7 ≤ 900) (h17 : x7 = x4) (h18 : x6 < x7) (h19 : 0 ≤ x8) (h20 : x8 ≤ 900) (h21 : x8 = x1) (h22 : 0 ≤ x9) (h23 : x9 ≤ 900) (h24 : x9 = x1) (h25 : 0 ≤ x0) (h26 : x0 ≤ 900) (h27 : x0 = x1) : 0 ≤ x0 := by omega
theorem o22_34 {x0 x1 x3 x4 x5 x6 x7 x8 x9 : Int} {x2 : Nat} (h0 : 0 ≤ x1) (h1 : x1 ≤ 900) (h2 : 900 - x1 < ((x2 + 1 : Nat) : Int)) (h3 : 0 ≤ x3) (h4 : x3 ≤ 900) (h5 : x3 = x1) (h6 : 0 ≤ x4) (h7 : x4 ≤ 900) (h8 : x4 ≤ x3) (h9 : 0 ≤ x5) (h10 : x5 ≤ 900) (h11 : x5 = x1) (h12 : 0 ≤ x6) (h13 : x6 ≤ 900) (h14 : x6 = x1) (h15 : 0 ≤ x7) (h16 : x7 ≤ 900) (h17 : x7 = x4) (h18 : x6 < x7) (h19 : 0 ≤ x8) (h20 : x8 ≤ 900) (h21 : x8 = x1) (h22 : 0 ≤ x9) (h23 : x9 ≤ 900) (h24 : x9 = x1) (h25 : 0 ≤ x0) (h26 : x0 ≤ 900) (h27 : x0 = x1) : x0 < (900 : Nat) := by omega
theorem o22_35 {x0 x1 x3 x4 x5 x6 x7 x8 x9 x10 : Int} {x2 : Nat} (h0 : 0 ≤ x1) (h1 : x1 ≤ 900) (h2 : 900 - x1 < ((x2 + 1 : Nat) : Int)) (h3 : 0 ≤ x3) (h4 : x3 ≤ 900) (h5 : x3 = x1) (h6 : 0 ≤ x4) (h7 : x4 ≤ 900) (h8 : x4 ≤ x3) (h9 : 0 ≤ x5) (h10 : x5 ≤ 900) (h11 : x5 = x1) (h12 : 0 ≤ x6) (h13 : x6 ≤ 900) (h14 : x6 = x1) (h15 : 0 ≤ x7) (h16 : x7 ≤ 900) (h17 : x7 = x4) (h18 : x6 < x7) (h19 : 0 ≤ x8) (h20 : x8 ≤ 900) (h21 : x8 = x1) (h22 : 0 ≤ x9) (h23 : x9 ≤ 900) (h24 : x9 = x1) (h25 : 0 ≤ x10) (h26 : x10 ≤ 900) (h27 : x10 = x1) (h28 : 0 ≤ x0) (h29 : x0 ≤ 900) (h30 : x0 = x1) : 0 ≤ x0 := by omega
theorem o22_36 {x0 x1 x3 x4 x5 x6 x7 x8 x9 x10 : Int} {x2 : Nat} (h0 : 0 ≤ x1) (h1 : x1 ≤ 900) (h2 : 900 - x1 < ((x2 + 1 : Nat) : Int)) (h3 : 0 ≤ x3) (h4 : x3 ≤ 900) (h5 : x3 = x1) (h6 : 0 ≤ x4) (h7 : x4 ≤ 900) (h8 : x4 ≤ x3) (h9 : 0 ≤ x5) (h10 : x5 ≤ 900) (h11 : x5 = x1) (h12 : 0 ≤ x6) (h13 : x6 ≤ 900) (h14 : x6 = x1) (h15 : 0 ≤ x7) (h16 : x7 ≤ 900) (h17 : x7 = x4) (h18 : x6 < x7) (h19 : 0 ≤ x8) (h20 : x8 ≤ 900) (h21 : x8 = x1) (h22 : 0 ≤ x9) (h23 : x9 ≤ 900) (h24 : x9 = x1) (h25 : 0 ≤ x10) (h26 : x10 ≤ 900) (h27 : x10 = x1) (h28 : 0 ≤ x0) (h29 : x0 ≤ 900) (h30 : x0 = x1) : x0 < (900 : Nat) := by omega
theorem o22_37 {x0 x1 x3 x4 x5 x6 x7 x8 x9 x10 x11 : Int} {x2 : Nat} (h0 : 0 ≤ x1) (h1 : x1 ≤ 900) (h2 : 900 - x1 < ((x2 + 1 : Nat) : Int)) (h3 : 0 ≤ x3) (h4 : x3 ≤ 900) (h5 : x3 = x1) (h6 : 0 ≤ x4) (h7 : x4 ≤ 900) (h8 : x4 ≤ x3) (h9 : 0 ≤ x5) (h10 : x5 ≤ 900) (h11 : x5 = x1) (h12 : 0 ≤ x6) (h13 : x6 ≤ 900) (h14 : x6 = x1) (h15 : 0 ≤ x7) (h16 : x7 ≤ 900) (h17 : x7 = x4) (h18 : x6 < x7) (h19 : 0 ≤ x8) (h20 : x8 ≤ 900) (h21 : x8 = x1) (h22 : 0 ≤ x9) (h23 : x9 ≤ 900) (h24 : x9 = x1) (h25 : 0 ≤ x10) (h26 : x10 ≤ 900) (h27 : x10 = x1) (h28 : 0 ≤ x11) (h29 : x11 ≤ 900) (h30 : x11 = x1) (h31 : 0 ≤ x0) (h32 : x0 ≤ 900) (h33 : x0 = x1) : 0 ≤ x0 := by omega
theorem o22_38 {x0 x1 x3 x4 x5 x6 x7 x8 x9 x10 x11 : Int} {x2 : Nat} (h0 : 0 ≤ x1) (h1 : x1 ≤ 900) (h2 : 900 - x1 < ((x2 + 1 : Nat) : Int)) (h3 : 0 ≤ x3) (h4 : x3 ≤ 900) (h5 : x3 = x1) (h6 : 0 ≤ x4) (h7 : x4 ≤ 900) (h8 : x4 ≤ x3) (h9 : 0 ≤ x5) (h10 : x5 ≤ 900) (h11 : x5 = x1) (h12 : 0 ≤ x6) (h13 : x6 ≤ 900) (h14 : x6 = x1) (h15 : 0 ≤ x7) (h16 : x7 ≤ 900) (h17 : x7 = x4) (h18 : x6 < x7) (h19 : 0 ≤ x8) (h20 : x8 ≤ 900) (h21 : x8 = x1) (h22 : 0 ≤ x9) (h23 : x9 ≤ 900) (h24 : x9 = x1) (h25 : 0 ≤ x10) (h26 : x10 ≤ 900) (h27 : x10 = x1) (h28 : 0 ≤ x11) (h29 : x11 ≤ 900) (h30 : x11 = x1) (h31 : 0 ≤ x0) (h32 : x0 ≤ 900) (h33 : x0 = x1) : x0 < (900 : Nat) := by omega
theorem o22_39 {x0 x1 x2 x4 x5 x6 x7 x8 x9 x10 x11 x12 x13 : Int} {x3 : Nat} (h0 : 0 ≤ x2) (h1 : x2 ≤ 900) (h2 : 900 - x2 < ((x3 + 1 : Nat) : Int)) (h3 : 0 ≤ x4) (h4 : x4 ≤ 900) (h5 : x4 = x2) (h6 : 0 ≤ x5) (h7 : x5 ≤ 900) (h8 : x5 ≤ x4) (h9 : 0 ≤ x6) (h10 : x6 ≤ 900) (h11 : x6 = x2) (h12 : 0 ≤ x7) (h13 : x7 ≤ 900) (h14 : x7 = x2) (h15 : 0 ≤ x8) (h16 : x8 ≤ 900) (h17 : x8 = x5) (h18 : x7 < x8) (h19 : 0 ≤ x9) (h20 : x9 ≤ 900) (h21 : x9 = x2) (h22 : 0 ≤ x10) (h23 : x10 ≤ 900) (h24 : x10 = x2) (h25 : 0 ≤ x11) (h26 : x11 ≤ 900) (h27 : x11 = x2) (h28 : 0 ≤ x12) (h29 : x12 ≤ 900) (h30 : x12 = x2) (h31 : 0 ≤ x13) (h32 : x13 ≤ 900) (h33 : x13 = x2) (h34 : 0 ≤ x0) (h35 : x0 ≤ 900) (h36 : x0 = x6) (h37 : x1 = 1) (h38 : -2147483648 ≤ x0) (h39 : x0 ≤ 2147483647) (h40 : -2147483648 ≤ x1) (h41 : x1 ≤ 2147483647) (h42 : -2147483648 ≤ x2) (h43 : x2 ≤ 2147483647) (h44 : -2147483648 ≤ x4) (h45 : x4 ≤ 2147483647) (h46 : -2147483648 ≤ x5) (h47 : x5 ≤ 2147483647) (h48 : -2147483648 ≤ x6) (h49 : x6 ≤ 2147483647) (h50 : -2147483648 ≤ x7) (h51 : x7 ≤ 2147483647) (h52 : -2147483648 ≤ x8) (h53 : x8 ≤ 2147483647) (h54 : -2147483648 ≤ x9) (h55 : x9 ≤ 2147483647) (h56 : -2147483648 ≤ x10) (h57 : x10 ≤ 2147483647) (h58 : -2147483648 ≤ x11) (h59 : x11 ≤ 2147483647) (h60 : -2147483648 ≤ x12) (h61 : x12 ≤ 2147483647) (h62 : -2147483648 ≤ x13) (h63 : x13 ≤ 2147483647) : -2147483648 ≤ x0 + x1 := by omega
theorem o22_40 {x0 x1 x2 x4 x5 x6 x7 x8 x9 x10 x11 x12 x13 : Int} {x3 : Nat} (h0 : 0 ≤ x2) (h1 : x2 ≤ 900) (h2 : 900 - x2 < ((x3 + 1 : Nat) : Int)) (h3 : 0 ≤ x4) (h4 : x4 ≤ 900) (h5 : x4 = x2) (h6 : 0 ≤ x5) (h7 : x5 ≤ 900) (h8 : x5 ≤ x4) (h9 : 0 ≤ x6) (h10 : x6 ≤ 900) (h11 : x6 = x2) (h12 : 0 ≤ x7) (h13 : x7 ≤ 900) (h14 : x7 = x2) (h15 : 0 ≤ x8) (h16 : x8 ≤ 900) (h17 : x8 = x5) (h18 : x7 < x8) (h19 : 0 ≤ x9) (h20 : x9 ≤ 900) (h21 : x9 = x2) (h22 : 0 ≤ x10) (h23 : x10 ≤ 900) (h24 : x10 = x2) (h25 : 0 ≤ x11) (h26 : x11 ≤ 900) (h27 : x11 = x2) (h28 : 0 ≤ x12) (h29 : x12 ≤ 900) (h30 : x12 = x2) (h31 : 0 ≤ x13) (h32 : x13 ≤ 900) (h33 : x13 = x2) (h34 : 0 ≤ x0) (h35 : x0 ≤ 900) (h36 : x0 = x6) (h37 : x1 = 1) (h38 : -2147483648 ≤ x0) (h39 : x0 ≤ 2147483647) (h40 : -2147483648 ≤ x1) (h41 : x1 ≤ 2147483647) (h42 : -2147483648 ≤ x2) (h43 : x2 ≤ 2147483647) (h44 : -2147483648 ≤ x4) (h45 : x4 ≤ 2147483647) (h46 : -2147483648 ≤ x5) (h47 : x5 ≤ 2147483647) (h48 : -2147483648 ≤ x6) (h49 : x6 ≤ 2147483647) (h50 : -2147483648 ≤ x7) (h51 : x7 ≤ 2147483647) (h52 : -2147483648 ≤ x8) (h53 : x8 ≤ 2147483647) (h54 : -2147483648 ≤ x9) (h55 : x9 ≤ 2147483647) (h56 : -2147483648 ≤ x10) (h57 : x10 ≤ 2147483647) (h58 : -2147483648 ≤ x11) (h59 : x11 ≤ 2147483647) (h60 : -2147483648 ≤ x12) (h61 : x12 ≤ 2147483647) (h62 : -2147483648 ≤ x13) (h63 : x13 ≤ 2147483647) : x0 + x1 ≤ 2147483647 := by omega
theorem o22_41 {x0 x1 x3 x4 x5 x6 x7 x8 x9 x10 x11 x12 x13 x14 : Int} {x2 : Nat} (h0 : 0 ≤ x1) (h1 : x1 ≤ 900) (h2 : 900 - x1 < ((x2 + 1 : Nat) : Int)) (h3 : 0 ≤ x3) (h4 : x3 ≤ 900) (h5 : x3 = x1) (h6 : 0 ≤ x4) (h7 : x4 ≤ 900) (h8 : x4 ≤ x3) (h9 : 0 ≤ x5) (h10 : x5 ≤ 900) (h11 : x5 = x1) (h12 : 0 ≤ x6) (h13 : x6 ≤ 900) (h14 : x6 = x1) (h15 : 0 ≤ x7) (h16 : x7 ≤ 900) (h17 : x7 = x4) (h18 : x6 < x7) (h19 : 0 ≤ x8) (h20 : x8 ≤ 900) (h21 : x8 = x1) (h22 : 0 ≤ x9) (h23 : x9 ≤ 900) (h24 : x9 = x1) (h25 : 0 ≤ x10) (h26 : x10 ≤ 900) (h27 : x10 = x1) (h28 : 0 ≤ x11) (h29 : x11 ≤ 900) (h30 : x11 = x1) (h31 : 0 ≤ x12) (h32 : x12 ≤ 900) (h33 : x12 = x1) (h34 : 0 ≤ x13) (h35 : x13 ≤ 900) (h36 : x13 = x5) (h37 : x14 = 1) (h38 : x0 = x13 + x14) : 0 ≤ x0 := by omega
theorem o22_42 {x0 x1 x3 x4 x5 x6 x7 x8 x9 x10 x11 x12 x13 x14 : Int} {x2 : Nat} (h0 : 0 ≤ x1) (h1 : x1 ≤ 900) (h2 : 900 - x1 < ((x2 + 1 : Nat) : Int)) (h3 : 0 ≤ x3) (h4 : x3 ≤ 900) (h5 : x3 = x1) (h6 : 0 ≤ x4) (h7 : x4 ≤ 900) (h8 : x4 ≤ x3) (h9 : 0 ≤ x5) (h10 : x5 ≤ 900) (h11 : x5 = x1) (h12 : 0 ≤ x6) (h13 : x6 ≤ 900) (h14 : x6 = x1) (h15 : 0 ≤ x7) (h16 : x7 ≤ 900) (h17 : x7 = x4) (h18 : x6 < x7) (h19 : 0 ≤ x8) (h20 : x8 ≤ 900) (h21 : x8 = x1) (h22 : 0 ≤ x9) (h23 : x9 ≤ 900) (h24 : x9 = x1) (h25 : 0 ≤ x10) (h26 : x10 ≤ 900) (h27 : x10 = x1) (h28 : 0 ≤ x11) (h29 : x11 ≤ 900) (h30 : x11 = x1) (h31 : 0 ≤ x12) (h32 : x12 ≤ 900) (h33 : x12 = x1) (h34 : 0 ≤ x13) (h35 : x13 ≤ 900) (h36 : x13 = x5) (h37 : x14 = 1) (h38 : x0 = x13 + x14) : x0 ≤ 900 := by omega
theorem o22_43 {x0 x1 x2 x4 x5 : Int} {x3 : Nat} (h0 : 0 ≤ x2) (h1 : x2 ≤ 900) (h2 : 900 - x2 < ((x3 + 1 : Nat) : Int)) (h3 : 0 ≤ x4) (h4 : x4 ≤ 900) (h5 : x4 = x2) (h6 : 0 ≤ x5) (h7 : x5 ≤ 900) (h8 : x5 ≤ x4) (h9 : 0 ≤ x0) (h10 : x0 ≤ 900) (h11 : x0 = x2) (h12 : 0 ≤ x1) (h13 : x1 ≤ 900) (h14 : -2147483648 ≤ x0) (h15 : x0 ≤ 2147483647) (h16 : -2147483648 ≤ x1) (h17 : x1 ≤ 2147483647) (h18 : -2147483648 ≤ x2) (h19 : x2 ≤ 2147483647) (h20 : -2147483648 ≤ x4) (h21 : x4 ≤ 2147483647) (h22 : -2147483648 ≤ x5) (h23 : x5 ≤ 2147483647) : -2147483648 ≤ x0 - x1 := by omega
theorem o22_44 {x0 x1 x2 x4 x5 : Int} {x3 : Nat} (h0 : 0 ≤ x2) (h1 : x2 ≤ 900) (h2 : 900 - x2 < ((x3 + 1 : Nat) : Int)) (h3 : 0 ≤ x4) (h4 : x4 ≤ 900) (h5 : x4 = x2) (h6 : 0 ≤ x5) (h7 : x5 ≤ 900) (h8 : x5 ≤ x4) (h9 : 0 ≤ x0) (h10 : x0 ≤ 900) (h11 : x0 = x2) (h12 : 0 ≤ x1) (h13 : x1 ≤ 900) (h14 : -2147483648 ≤ x0) (h15 : x0 ≤ 2147483647) (h16 : -2147483648 ≤ x1) (h17 : x1 ≤ 2147483647) (h18 : -2147483648 ≤ x2) (h19 : x2 ≤ 2147483647) (h20 : -2147483648 ≤ x4) (h21 : x4 ≤ 2147483647) (h22 : -2147483648 ≤ x5) (h23 : x5 ≤ 2147483647) : x0 - x1 ≤ 2147483647 := by omega
theorem o22_45 {x0 x1 x3 x4 : Int} {x2 : Nat} (h0 : 0 ≤ x1) (h1 : x1 ≤ 900) (h2 : 900 - x1 < ((x2 + 1 : Nat) : Int)) (h3 : 0 ≤ x3) (h4 : x3 ≤ 900) (h5 : x3 = x1) (h6 : 0 ≤ x4) (h7 : x4 ≤ 900) (h8 : x3 < x4) (h9 : 0 ≤ x0) (h10 : x0 ≤ 900) (h11 : x0 = x1) : 0 ≤ x0 := by omega
theorem o22_46 {x0 x1 x3 x4 : Int} {x2 : Nat} (h0 : 0 ≤ x1) (h1 : x1 ≤ 900) (h2 : 900 - x1 < ((x2 + 1 : Nat) : Int)) (h3 : 0 ≤ x3) (h4 : x3 ≤ 900) (h5 : x3 = x1) (h6 : 0 ≤ x4) (h7 : x4 ≤ 900) (h8 : x3 < x4) (h9 : 0 ≤ x0) (h10 : x0 ≤ 900) (h11 : x0 = x1) : x0 ≤ 899 := by omega
theorem o22_47 {x0 x1 x2 x4 x5 x6 : Int} {x3 : Nat} (h0 : 0 ≤ x2) (h1 : x2 ≤ 900) (h2 : 900 - x2 < ((x3 + 1 : Nat) : Int)) (h3 : 0 ≤ x4) (h4 : x4 ≤ 900) (h5 : x4 = x2) (h6 : 0 ≤ x5) (h7 : x5 ≤ 900) (h8 : x4 < x5) (h9 : 0 ≤ x6) (h10 : x6 ≤ 900) (h11 : x6 = x2) (h12 : 0 ≤ x0) (h13 : x0 ≤ 900) (h14 : x0 = x2) (h15 : 0 ≤ x1) (h16 : x1 ≤ 900) (h17 : -2147483648 ≤ x0) (h18 : x0 ≤ 2147483647) (h19 : -2147483648 ≤ x1) (h20 : x1 ≤ 2147483647) (h21 : -2147483648 ≤ x2) (h22 : x2 ≤ 2147483647) (h23 : -2147483648 ≤ x4) (h24 : x4 ≤ 2147483647) (h25 : -2147483648 ≤ x5) (h26 : x5 ≤ 2147483647) (h27 : -2147483648 ≤ x6) (h28 : x6 ≤ 2147483647) : -2147483648 ≤ x0 - x1 := by omega
theorem o22_48 {x0 x1 x2 x4 x5 x6 : Int} {x3 : Nat} (h0 : 0 ≤ x2) (h1 : x2 ≤ 900) (h2 : 900 - x2 < ((x3 + 1 : Nat) : Int)) (h3 : 0 ≤ x4) (h4 : x4 ≤ 900) (h5 : x4 = x2) (h6 : 0 ≤ x5) (h7 : x5 ≤ 900) (h8 : x4 < x5) (h9 : 0 ≤ x6) (h10 : x6 ≤ 900) (h11 : x6 = x2) (h12 : 0 ≤ x0) (h13 : x0 ≤ 900) (h14 : x0 = x2) (h15 : 0 ≤ x1) (h16 : x1 ≤ 900) (h17 : -2147483648 ≤ x0) (h18 : x0 ≤ 2147483647) (h19 : -2147483648 ≤ x1) (h20 : x1 ≤ 2147483647) (h21 : -2147483648 ≤ x2) (h22 : x2 ≤ 2147483647) (h23 : -2147483648 ≤ x4) (h24 : x4 ≤ 2147483647) (h25 : -2147483648 ≤ x5) (h26 : x5 ≤ 2147483647) (h27 : -2147483648 ≤ x6) (h28 : x6 ≤ 2147483647) : x0 - x1 ≤ 2147483647 := by omega
theorem o22_49 {x0 x1 x3 x4 x5 : Int} {x2 : Nat} (h0 : 0 ≤ x1) (h1 : x1 ≤ 900) (h2 : 900 - x1 < ((x2 + 1 : Nat) : Int)) (h3 : 0 ≤ x3) (h4 : x3 ≤ 900) (h5 : x3 = x1) (h6 : 0 ≤ x4) (h7 : x4 ≤ 900) (h8 : x3 < x4) (h9 : 0 ≤ x5) (h10 : x5 ≤ 900) (h11 : x5 = x1) (h12 : 0 ≤ x0) (h13 : x0 ≤ 900) (h14 : x0 = x1) : 0 ≤ x0 := by omega
theorem o22_50 {x0 x1 x3 x4 x5 : Int} {x2 : Nat} (h0 : 0 ≤ x1) (h1 : x1 ≤ 900) (h2 : 900 - x1 < ((x2 + 1 : Nat) : Int)) (h3 : 0 ≤ x3) (h4 : x3 ≤ 900) (h5 : x3 = x1) (h6 : 0 ≤ x4) (h7 : x4 ≤ 900) (h8 : x3 < x4) (h9 : 0 ≤ x5) (h10 : x5 ≤ 900) (h11 : x5 = x1) (h12 : 0 ≤ x0) (h13 : x0 ≤ 900) (h14 : x0 = x1) : x0 < (900 : Nat) := by omega
theorem o22_51 {x0 x1 x2 x4 x5 x6 x7 : Int} {x3 : Nat} (h0 : 0 ≤ x2) (h1 : x2 ≤ 900) (h2 : 900 - x2 < ((x3 + 1 : Nat) : Int)) (h3 : 0 ≤ x4) (h4 : x4 ≤ 900) (h5 : x4 = x2) (h6 : 0 ≤ x5) (h7 : x5 ≤ 900) (h8 : x4 < x5) (h9 : 0 ≤ x6) (h10 : x6 ≤ 900) (h11 : x6 = x2) (h12 : 0 ≤ x7) (h13 : x7 ≤ 900) (h14 : x7 = x2) (h15 : 0 ≤ x0) (h16 : x0 ≤ 900) (h17 : x0 = x2) (h18 : x1 = 1) (h19 : -2147483648 ≤ x0) (h20 : x0 ≤ 2147483647) (h21 : -2147483648 ≤ x1) (h22 : x1 ≤ 2147483647) (h23 : -2147483648 ≤ x2) (h24 : x2 ≤ 2147483647) (h25 : -2147483648 ≤ x4) (h26 : x4 ≤ 2147483647) (h27 : -2147483648 ≤ x5) (h28 : x5 ≤ 2147483647) (h29 : -2147483648 ≤ x6) (h30 : x6 ≤ 2147483647) (h31 : -2147483648 ≤ x7) (h32 : x7 ≤ 2147483647) : -2147483648 ≤ x0 + x1 := by omega
theorem o22_52 {x0 x1 x2 x4 x5 x6 x7 : Int} {x3 : Nat} (h0 : 0 ≤ x2) (h1 : x2 ≤ 900) (h2 : 900 - x2 < ((x3 + 1 : Nat) : Int)) (h3 : 0 ≤ x4) (h4 : x4 ≤ 900) (h5 : x4 = x2) (h6 : 0 ≤ x5) (h7 : x5 ≤ 900) (h8 : x4 < x5) (h9 : 0 ≤ x6) (h10 : x6 ≤ 900) (h11 : x6 = x2) (h12 : 0 ≤ x7) (h13 : x7 ≤ 900) (h14 : x7 = x2) (h15 : 0 ≤ x0) (h16 : x0 ≤ 900) (h17 : x0 = x2) (h18 : x1 = 1) (h19 : -2147483648 ≤ x0) (h20 : x0 ≤ 2147483647) (h21 : -2147483648 ≤ x1) (h22 : x1 ≤ 2147483647) (h23 : -2147483648 ≤ x2) (h24 : x2 ≤ 2147483647) (h25 : -2147483648 ≤ x4) (h26 : x4 ≤ 2147483647) (h27 : -2147483648 ≤ x5) (h28 : x5 ≤ 2147483647) (h29 : -2147483648 ≤ x6) (h30 : x6 ≤ 2147483647) (h31 : -2147483648 ≤ x7) (h32 : x7 ≤ 2147483647) : x0 + x1 ≤ 2147483647 := by omega
theorem o22_53 {x0 x1 x3 x4 x5 x6 x7 x8 : Int} {x2 : Nat} (h0 : 0 ≤ x1) (h1 : x1 ≤ 900) (h2 : 900 - x1 < ((x2 + 1 : Nat) : Int)) (h3 : 0 ≤ x3) (h4 : x3 ≤ 900) (h5 : x3 = x1) (h6 : 0 ≤ x4) (h7 : x4 ≤ 900) (h8 : x3 < x4) (h9 : 0 ≤ x5) (h10 : x5 ≤ 900) (h11 : x5 = x1) (h12 : 0 ≤ x6) (h13 : x6 ≤ 900) (h14 : x6 = x1) (h15 : 0 ≤ x7) (h16 : x7 ≤ 900) (h17 : x7 = x1) (h18 : x8 = 1) (h19 : x0 = x7 + x8) : 0 ≤ x0 := by omega
theorem o22_54 {x0 x1 x3 x4 x5 x6 x7 x8 : Int} {x2 : Nat} (h0 : 0 ≤ x1) (h1 : x1 ≤ 900) (h2 : 900 - x1 < ((x2 + 1 : Nat) : Int)) (h3 : 0 ≤ x3) (h4 : x3 ≤ 900) (h5 : x3 = x1) (h6 : 0 ≤ x4) (h7 : x4 ≤ 900) (h8 : x3 < x4) (h9 : 0 ≤ x5) (h10 : x5 ≤ 900) (h11 : x5 = x1) (h12 : 0 ≤ x6) (h13 : x6 ≤ 900) (h14 : x6 = x1) (h15 : 0 ≤ x7) (h16 : x7 ≤ 900) (h17 : x7 = x1) (h18 : x8 = 1) (h19 : x0 = x7 + x8) : x0 ≤ 900 := by omega
theorem o22_55 {x0 x2 x3 x4 x5 x6 x7 x8 : Int} {x1 : Nat} (h0 : 0 ≤ x2) (h1 : x2 ≤ 900) (h2 : 900 - x2 < ((x1 + 1 : Nat) : Int)) (h3 : 0 ≤ x3) (h4 : x3 ≤ 900) (h5 : x3 = x2) (h6 : 0 ≤ x4) (h7 : x4 ≤ 900) (h8 : x3 < x4) (h9 : 0 ≤ x5) (h10 : x5 ≤ 900) (h11 : x5 = x2) (h12 : 0 ≤ x6) (h13 : x6 ≤ 900) (h14 : x6 = x2) (h15 : 0 ≤ x7) (h16 : x7 ≤ 900) (h17 : x7 = x2) (h18 : x8 = 1) (h19 : x0 = x7 + x8) : 900 - x0 < (x1 : Int) := by omega
theorem o22_56 {x0 x1 x3 x4 x5 x6 x7 x8 : Int} {x2 : Nat} (h0 : 0 ≤ x1) (h1 : x1 ≤ 900) (h2 : 900 - x1 < ((x2 + 1 : Nat) : Int)) (h3 : 0 ≤ x3) (h4 : x3 ≤ 900) (h5 : x3 = x1) (h6 : 0 ≤ x4) (h7 : x4 ≤ 900) (h8 : x4 ≤ x3) (h9 : 0 ≤ x0) (h10 : x0 ≤ 900) (h11 : x0 = x1) (h12 : 0 ≤ x5) (h13 : x5 ≤ 900) (h14 : x5 = x1) (h15 : 0 ≤ x6) (h16 : x6 ≤ 900) (h17 : x6 = x4) (h18 : x5 < x6) (h19 : 0 ≤ x7) (h20 : x7 ≤ 900) (h21 : x7 = x1) (h22 : 0 ≤ x8) (h23 : x8 ≤ 900) (h24 : x8 = x1) : 900 - x0 < (((900 - x0 + 1).toNat : Nat) : Int) := by omega
theorem o22_57 {x0 x1 x3 x4 x5 x6 x7 x8 : Int} {x2 : Nat} (h0 : 0 ≤ x1) (h1 : x1 ≤ 900) (h2 : 900 - x1 < ((x2 + 1 : Nat) : Int)) (h3 : 0 ≤ x3) (h4 : x3 ≤ 900) (h5 : x3 = x1) (h6 : 0 ≤ x4) (h7 : x4 ≤ 900) (h8 : x4 ≤ x3) (h9 : 0 ≤ x0) (h10 : x0 ≤ 900) (h11 : x0 = x1) (h12 : 0 ≤ x5) (h13 : x5 ≤ 900) (h14 : x5 = x1) (h15 : 0 ≤ x6) (h16 : x6 ≤ 900) (h17 : x6 = x4) (h18 : x5 < x6) (h19 : 0 ≤ x7) (h20 : x7 ≤ 900) (h21 : x7 = x1) (h22 : 0 ≤ x8) (h23 : x8 ≤ 900) (h24 : x8 = x1) : 0 ≤ x0 := by omega
theorem o22_58 {x0 x1 x3 x4 x5 x6 x7 x8 : Int} {x2 : Nat} (h0 : 0 ≤ x1) (h1 : x1 ≤ 900) (h2 : 900 - x1 < ((x2 + 1 : Nat) : Int)) (h3 : 0 ≤ x3) (h4 : x3 ≤ 900) (h5 : x3 = x1) (h6 : 0 ≤ x4) (h7 : x4 ≤ 900) (h8 : x4 ≤ x3) (h9 : 0 ≤ x0) (h10 : x0 ≤ 900) (h11 : x0 = x1) (h12 : 0 ≤ x5) (h13 : x5 ≤ 900) (h14 : x5 = x1) (h15 : 0 ≤ x6) (h16 : x6 ≤ 900) (h17 : x6 = x4) (h18 : x5 < x6) (h19 : 0 ≤ x7) (h20 : x7 ≤ 900) (h21 : x7 = x1) (h22 : 0 ≤ x8) (h23 : x8 ≤ 900) (h24 : x8 = x1) : x0 ≤ 900 := by omega
theorem o22_59 {x0 x1 x2 x4 x5 x6 : Int} {x3 : Nat} (h0 : 0 ≤ x2) (h1 : x2 ≤ 900) (h2 : 900 - x2 < ((x3 + 1 : Nat) : Int)) (h3 : 0 ≤ x4) (h4 : x4 ≤ 900) (h5 : x4 = x2) (h6 : 0 ≤ x5) (h7 : x5 ≤ 900) (h8 : x4 < x5) (h9 : 0 ≤ x6) (h10 : x6 ≤ 900) (h11 : x6 = x2) (h12 : 0 ≤ x0) (h13 : x0 ≤ 900) (h14 : x0 = x2) (h15 : x1 = 1) (h16 : -2147483648 ≤ x0) (h17 : x0 ≤ 2147483647) (h18 : -2147483648 ≤ x1) (h19 : x1 ≤ 2147483647) (h20 : -2147483648 ≤ x2) (h21 : x2 ≤ 2147483647) (h22 : -2147483648 ≤ x4) (h23 : x4 ≤ 2147483647) (h24 : -2147483648 ≤ x5) (h25 : x5 ≤ 2147483647) (h26 : -2147483648 ≤ x6) (h27 : x6 ≤ 2147483647) : -2147483648 ≤ x0 + x1 := by omega
theorem o22_60 {x0 x1 x2 x4 x5 x6 : Int} {x3 : Nat} (h0 : 0 ≤ x2) (h1 : x2 ≤ 900) (h2 : 900 - x2 < ((x3 + 1 : Nat) : Int)) (h3 : 0 ≤ x4) (h4 : x4 ≤ 900) (h5 : x4 = x2) (h6 : 0 ≤ x5) (h7 : x5 ≤ 900) (h8 : x4 < x5) (h9 : 0 ≤ x6) (h10 : x6 ≤ 900) (h11 : x6 = x2) (h12 : 0 ≤ x0) (h13 : x0 ≤ 900) (h14 : x0 = x2) (h15 : x1 = 1) (h16 : -2147483648 ≤ x0) (h17 : x0 ≤ 2147483647) (h18 : -2147483648 ≤ x1) (h19 : x1 ≤ 2147483647) (h20 : -2147483648 ≤ x2) (h21 : x2 ≤ 2147483647) (h22 : -2147483648 ≤ x4) (h23 : x4 ≤ 2147483647) (h24 : -2147483648 ≤ x5) (h25 : x5 ≤ 2147483647) (h26 : -2147483648 ≤ x6) (h27 : x6 ≤ 2147483647) : x0 + x1 ≤ 2147483647 := by omega
theorem o22_61 {x0 x1 x3 x4 x5 x6 x7 : Int} {x2 : Nat} (h0 : 0 ≤ x1) (h1 : x1 ≤ 900) (h2 : 900 - x1 < ((x2 + 1 : Nat) : Int)) (h3 : 0 ≤ x3) (h4 : x3 ≤ 900) (h5 : x3 = x1) (h6 : 0 ≤ x4) (h7 : x4 ≤ 900) (h8 : x3 < x4) (h9 : 0 ≤ x5) (h10 : x5 ≤ 900) (h11 : x5 = x1) (h12 : 0 ≤ x6) (h13 : x6 ≤ 900) (h14 : x6 = x1) (h15 : x7 = 1) (h16 : x0 = x6 + x7) : 0 ≤ x0 := by omega
theorem o22_62 {x0 x1 x3 x4 x5 x6 x7 : Int} {x2 : Nat} (h0 : 0 ≤ x1) (h1 : x1 ≤ 900) (h2 : 900 - x1 < ((x2 + 1 : Nat) : Int)) (h3 : 0 ≤ x3) (h4 : x3 ≤ 900) (h5 : x3 = x1) (h6 : 0 ≤ x4) (h7 : x4 ≤ 900) (h8 : x3 < x4) (h9 : 0 ≤ x5) (h10 : x5 ≤ 900) (h11 : x5 = x1) (h12 : 0 ≤ x6) (h13 : x6 ≤ 900) (h14 : x6 = x1) (h15 : x7 = 1) (h16 : x0 = x6 + x7) : x0 ≤ 900 := by omega
theorem o22_63 {x0 x2 x3 x4 x5 x6 x7 : Int} {x1 : Nat} (h0 : 0 ≤ x2) (h1 : x2 ≤ 900) (h2 : 900 - x2 < ((x1 + 1 : Nat) : Int)) (h3 : 0 ≤ x3) (h4 : x3 ≤ 900) (h5 : x3 = x2) (h6 : 0 ≤ x4) (h7 : x4 ≤ 900) (h8 : x3 < x4) (h9 : 0 ≤ x5) (h10 : x5 ≤ 900) (h11 : x5 = x2) (h12 : 0 ≤ x6) (h13 : x6 ≤ 900) (h14 : x6 = x2) (h15 : x7 = 1) (h16 : x0 = x6 + x7) : 900 - x0 < (x1 : Int) := by omega
theorem o22_64 {x0 x1 x3 x4 x5 x6 x7 : Int} {x2 : Nat} (h0 : 0 ≤ x1) (h1 : x1 ≤ 900) (h2 : 900 - x1 < ((x2 + 1 : Nat) : Int)) (h3 : 0 ≤ x3) (h4 : x3 ≤ 900) (h5 : x3 = x1) (h6 : 0 ≤ x4) (h7 : x4 ≤ 900) (h8 : x4 ≤ x3) (h9 : 0 ≤ x0) (h10 : x0 ≤ 900) (h11 : x0 = x1) (h12 : 0 ≤ x5) (h13 : x5 ≤ 900) (h14 : x5 = x1) (h15 : 0 ≤ x6) (h16 : x6 ≤ 900) (h17 : x6 = x4) (h18 : x5 < x6) (h19 : 0 ≤ x7) (h20 : x7 ≤ 900) (h21 : x7 = x1) : 900 - x0 < (((900 - x0 + 1).toNat : Nat) : Int) := by omega
theorem o22_65 {x0 x1 x3 x4 x5 x6 x7 : Int} {x2 : Nat} (h0 : 0 ≤ x1) (h1 : x1 ≤ 900) (h2 : 900 - x1 < ((x2 + 1 : Nat) : Int)) (h3 : 0 ≤ x3) (h4 : x3 ≤ 900) (h5 : x3 = x1) (h6 : 0 ≤ x4) (h7 : x4 ≤ 900) (h8 : x4 ≤ x3) (h9 : 0 ≤ x0) (h10 : x0 ≤ 900) (h11 : x0 = x1) (h12 : 0 ≤ x5) (h13 : x5 ≤ 900) (h14 : x5 = x1) (h15 : 0 ≤ x6) (h16 : x6 ≤ 900) (h17 : x6 = x4) (h18 : x5 < x6) (h19 : 0 ≤ x7) (h20 : x7 ≤ 900) (h21 : x7 = x1) : 0 ≤ x0 := by omega
theorem o22_66 {x0 x1 x3 x4 x5 x6 x7 : Int} {x2 : Nat} (h0 : 0 ≤ x1) (h1 : x1 ≤ 900) (h2 : 900 - x1 < ((x2 + 1 : Nat) : Int)) (h3 : 0 ≤ x3) (h4 : x3 ≤ 900) (h5 : x3 = x1) (h6 : 0 ≤ x4) (h7 : x4 ≤ 900) (h8 : x4 ≤ x3) (h9 : 0 ≤ x0) (h10 : x0 ≤ 900) (h11 : x0 = x1) (h12 : 0 ≤ x5) (h13 : x5 ≤ 900) (h14 : x5 = x1) (h15 : 0 ≤ x6) (h16 : x6 ≤ 900) (h17 : x6 = x4) (h18 : x5 < x6) (h19 : 0 ≤ x7) (h20 : x7 ≤ 900) (h21 : x7 = x1) : x0 ≤ 900 := by omega
theorem o22_67 {x0 x1 x3 x4 : Int} {x2 : Nat} (h0 : 0 ≤ x1) (h1 : x1 ≤ 900) (h2 : 900 - x1 < ((x2 + 1 : Nat) : Int)) (h3 : 0 ≤ x3) (h4 : x3 ≤ 900) (h5 : x3 = x1) (h6 : 0 ≤ x4) (h7 : x4 ≤ 900) (h8 : x3 < x4) (h9 : 0 ≤ x0) (h10 : x0 ≤ 900) (h11 : x0 = x1) : x0 < (900 : Nat) := by omega
theorem o22_68 {x0 x1 x3 x4 x5 x6 : Int} {x2 : Nat} (h0 : 0 ≤ x1) (h1 : x1 ≤ 900) (h2 : 900 - x1 < ((x2 + 1 : Nat) : Int)) (h3 : 0 ≤ x3) (h4 : x3 ≤ 900) (h5 : x3 = x1) (h6 : 0 ≤ x4) (h7 : x4 ≤ 900) (h8 : x3 < x4) (h9 : 0 ≤ x5) (h10 : x5 ≤ 900) (h11 : x5 = x1) (h12 : 0 ≤ x6) (h13 : x6 ≤ 900) (h14 : x6 = x1) (h15 : 0 ≤ x0) (h16 : x0 ≤ 900) (h17 : x0 = x1) : 0 ≤ x0 := by omega
theorem o22_69 {x0 x1 x3 x4 x5 x6 : Int} {x2 : Nat} (h0 : 0 ≤ x1) (h1 : x1 ≤ 900) (h2 : 900 - x1 < ((x2 + 1 : Nat) : Int)) (h3 : 0 ≤ x3) (h4 : x3 ≤ 900) (h5 : x3 = x1) (h6 : 0 ≤ x4) (h7 : x4 ≤ 900) (h8 : x3 < x4) (h9 : 0 ≤ x5) (h10 : x5 ≤ 900) (h11 : x5 = x1) (h12 : 0 ≤ x6) (h13 : x6 ≤ 900) (h14 : x6 = x1) (h15 : 0 ≤ x0) (h16 : x0 ≤ 900) (h17 : x0 = x1) : x0 ≤ 900 := by omega
theorem o22_70 {x0 x1 x3 x4 x5 x6 x7 x8 x9 : Int} {x2 : Nat} (h0 : 0 ≤ x1) (h1 : x1 ≤ 900) (h2 : 900 - x1 < ((x2 + 1 : Nat) : Int)) (h3 : 0 ≤ x3) (h4 : x3 ≤ 900) (h5 : x3 = x1) (h6 : 0 ≤ x4) (h7 : x4 ≤ 900) (h8 : x3 < x4) (h9 : 0 ≤ x5) (h10 : x5 ≤ 900) (h11 : x5 = x1) (h12 : 0 ≤ x6) (h13 : x6 ≤ 900) (h14 : x6 = x1) (h15 : 0 ≤ x7) (h16 : x7 ≤ 900) (h17 : x7 = x1) (h18 : 0 ≤ x8) (h19 : x8 ≤ 900) (h20 : x8 = x1) (h21 : 0 ≤ x9) (h22 : x9 ≤ 900) (h23 : x9 = x4) (h24 : x8 < x9) (h25 : 0 ≤ x0) (h26 : x0 ≤ 900) (h27 : x0 = x1) : 0 ≤ x0 := by omega
theorem o22_71 {x0 x1 x3 x4 x5 x6 x7 x8 x9 : Int} {x2 : Nat} (h0 : 0 ≤ x1) (h1 : x1 ≤ 900) (h2 : 900 - x1 < ((x2 + 1 : Nat) : Int)) (h3 : 0 ≤ x3) (h4 : x3 ≤ 900) (h5 : x3 = x1) (h6 : 0 ≤ x4) (h7 : x4 ≤ 900) (h8 : x3 < x4) (h9 : 0 ≤ x5) (h10 : x5 ≤ 900) (h11 : x5 = x1) (h12 : 0 ≤ x6) (h13 : x6 ≤ 900) (h14 : x6 = x1) (h15 : 0 ≤ x7) (h16 : x7 ≤ 900) (h17 : x7 = x1) (h18 : 0 ≤ x8) (h19 : x8 ≤ 900) (h20 : x8 = x1) (h21 : 0 ≤ x9) (h22 : x9 ≤ 900) (h23 : x9 = x4) (h24 : x8 < x9) (h25 : 0 ≤ x0) (h26 : x0 ≤ 900) (h27 : x0 = x1) : x0 ≤ 899 := by omega
theorem o22_72 {x0 x1 x3 x4 x5 x6 x7 x8 x9 x10 : Int} {x2 : Nat} (h0 : 0 ≤ x1) (h1 : x1 ≤ 900) (h2 : 900 - x1 < ((x2 + 1 : Nat) : Int)) (h3 : 0 ≤ x3) (h4 : x3 ≤ 900) (h5 : x3 = x1) (h6 : 0 ≤ x4) (h7 : x4 ≤ 900) (h8 : x3 < x4) (h9 : 0 ≤ x5) (h10 : x5 ≤ 900) (h11 : x5 = x1) (h12 : 0 ≤ x6) (h13 : x6 ≤ 900) (h14 : x6 = x1) (h15 : 0 ≤ x7) (h16 : x7 ≤ 900) (h17 : x7 = x1) (h18 : 0 ≤ x8) (h19 : x8 ≤ 900) (h20 : x8 = x1) (h21 : 0 ≤ x9) (h22 : x9 ≤ 900) (h23 : x9 = x4) (h24 : x8 < x9) (h25 : 0 ≤ x10) (h26 : x10 ≤ 900) (h27 : x10 = x1) (h28 : 0 ≤ x0) (h29 : x0 ≤ 900) (h30 : x0 = x1) : 0 ≤ x0 := by omega
theorem o22_73 {x0 x1 x3 x4 x5 x6 x7 x8 x9 x10 : Int} {x2 : Nat} (h0 : 0 ≤ x1) (h1 : x1 ≤ 900) (h2 : 900 - x1 < ((x2 + 1 : Nat) : Int)) (h3 : 0 ≤ x3) (h4 : x3 ≤ 900) (h5 : x3 = x1) (h6 : 0 ≤ x4) (h7 : x4 ≤ 900) (h8 : x3 < x4) (h9 : 0 ≤ x5) (h10 : x5 ≤ 900) (h11 : x5 = x1) (h12 : 0 ≤ x6) (h13 : x6 ≤ 900) (h14 : x6 = x1) (h15 : 0 ≤ x7) (h16 : x7 ≤ 900) (h17 : x7 = x1) (h18 : 0 ≤ x8) (h19 : x8 ≤ 900) (h20 : x8 = x1) (h21 : 0 ≤ x9) (h22 : x9 ≤ 900) (h23 : x9 = x4) (h24 : x8 < x9) (h25 : 0 ≤ x10) (h26 : x10 ≤ 900) (h27 : x10 = x1) (h28 : 0 ≤ x0) (h29 : x0 ≤ 900) (h30 : x0 = x1) : x0 ≤ 899 := by omega
theorem o22_74 {x0 x1 x3 x4 x5 x6 x7 x8 x9 x10 x11 : Int} {x2 : Nat} (h0 : 0 ≤ x1) (h1 : x1 ≤ 900) (h2 : 900 - x1 < ((x2 + 1 : Nat) : Int)) (h3 : 0 ≤ x3) (h4 : x3 ≤ 900) (h5 : x3 = x1) (h6 : 0 ≤ x4) (h7 : x4 ≤ 900) (h8 : x3 < x4) (h9 : 0 ≤ x5) (h10 : x5 ≤ 900) (h11 : x5 = x1) (h12 : 0 ≤ x6) (h13 : x6 ≤ 900) (h14 : x6 = x1) (h15 : 0 ≤ x7) (h16 : x7 ≤ 900) (h17 : x7 = x1) (h18 : 0 ≤ x8) (h19 : x8 ≤ 900) (h20 : x8 = x1) (h21 : 0 ≤ x9) (h22 : x9 ≤ 900) (h23 : x9 = x4) (h24 : x8 < x9) (h25 : 0 ≤ x10) (h26 : x10 ≤ 900) (h27 : x10 = x1) (h28 : 0 ≤ x11) (h29 : x11 ≤ 900) (h30 : x11 = x1) (h31 : 0 ≤ x0) (h32 : x0 ≤ 900) (h33 : x0 = x1) : 0 ≤ x0 := by omega
theorem o22_75 {x0 x1 x3 x4 x5 x6 x7 x8 x9 x10 x11 : Int} {x2 : Nat} (h0 : 0 ≤ x1) (h1 : x1 ≤ 900) (h2 : 900 - x1 < ((x2 + 1 : Nat) : Int)) (h3 : 0 ≤ x3) (h4 : x3 ≤ 900) (h5 : x3 = x1) (h6 : 0 ≤ x4) (h7 : x4 ≤ 900) (h8 : x3 < x4) (h9 : 0 ≤ x5) (h10 : x5 ≤ 900) (h11 : x5 = x1) (h12 : 0 ≤ x6) (h13 : x6 ≤ 900) (h14 : x6 = x1) (h15 : 0 ≤ x7) (h16 : x7 ≤ 900) (h17 : x7 = x1) (h18 : 0 ≤ x8) (h19 : x8 ≤ 900) (h20 : x8 = x1) (h21 : 0 ≤ x9) (h22 : x9 ≤ 900) (h23 : x9 = x4) (h24 : x8 < x9) (h25 : 0 ≤ x10) (h26 : x10 ≤ 900) (h27 : x10 = x1) (h28 : 0 ≤ x11) (h29 : x11 ≤ 900) (h30 : x11 = x1) (h31 : 0 ≤ x0) (h32 : x0 ≤ 900) (h33 : x0 = x1) : x0 < (900 : Nat) := by omega
theorem o22_76 {x0 x1 x3 x4 x5 x6 x7 x8 x9 x10 x11 x12 : Int} {x2 : Nat} (h0 : 0 ≤ x1) (h1 : x1 ≤ 900) (h2 : 900 - x1 < ((x2 + 1 : Nat) : Int)) (h3 : 0 ≤ x3) (h4 : x3 ≤ 900) (h5 : x3 = x1) (h6 : 0 ≤ x4) (h7 : x4 ≤ 900) (h8 : x3 < x4) (h9 : 0 ≤ x5) (h10 : x5 ≤ 900) (h11 : x5 = x1) (h12 : 0 ≤ x6) (h13 : x6 ≤ 900) (h14 : x6 = x1) (h15 : 0 ≤ x7) (h16 : x7 ≤ 900) (h17 : x7 = x1) (h18 : 0 ≤ x8) (h19 : x8 ≤ 900) (h20 : x8 = x1) (h21 : 0 ≤ x9) (h22 : x9 ≤ 900) (h23 : x9 = x4) (h24 : x8 < x9) (h25 : 0 ≤ x10) (h26 : x10 ≤ 900) (h27 : x10 = x1) (h28 : 0 ≤ x11) (h29 : x11 ≤ 900) (h30 : x11 = x1) (h31 : 0 ≤ x12) (h32 : x12 ≤ 900) (h33 : x12 = x1) (h34 : 0 ≤ x0) (h35 : x0 ≤ 900) (h36 : x0 = x1) : 0 ≤ x0 := by omega
theorem o22_77 {x0 x1 x3 x4 x5 x6 x7 x8 x9 x10 x11 x12 : Int} {x2 : Nat} (h0 : 0 ≤ x1) (h1 : x1 ≤ 900) (h2 : 900 - x1 < ((x2 + 1 : Nat) : Int)) (h3 : 0 ≤ x3) (h4 : x3 ≤ 900) (h5 : x3 = x1) (h6 : 0 ≤ x4) (h7 : x4 ≤ 900) (h8 : x3 < x4) (h9 : 0 ≤ x5) (h10 : x5 ≤ 900) (h11 : x5 = x1) (h12 : 0 ≤ x6) (h13 : x6 ≤ 900) (h14 : x6 = x1) (h15 : 0 ≤ x7) (h16 : x7 ≤ 900) (h17 : x7 = x1) (h18 : 0 ≤ x8) (h19 : x8 ≤ 900) (h20 : x8 = x1) (h21 : 0 ≤ x9) (h22 : x9 ≤ 900) (h23 : x9 = x4) (h24 : x8 < x9) (h25 : 0 ≤ x10) (h26 : x10 ≤ 900) (h27 : x10 = x1) (h28 : 0 ≤ x11) (h29 : x11 ≤ 900) (h30 : x11 = x1) (h31 : 0 ≤ x12) (h32 : x12 ≤ 900) (h33 : x12 = x1) (h34 : 0 ≤ x0) (h35 : x0 ≤ 900) (h36 : x0 = x1) : x0 < (900 : Nat) := by omega
theorem o22_78 {x0 x1 x3 x4 x5 x6 x7 x8 x9 x10 x11 x12 x13 : Int} {x2 : Nat} (h0 : 0 ≤ x1) (h1 : x1 ≤ 900) (h2 : 900 - x1 < ((x2 + 1 : Nat) : Int)) (h3 : 0 ≤ x3) (h4 : x3 ≤ 900) (h5 : x3 = x1) (h6 : 0 ≤ x4) (h7 : x4 ≤ 900) (h8 : x3 < x4) (h9 : 0 ≤ x5) (h10 : x5 ≤ 900) (h11 : x5 = x1) (h12 : 0 ≤ x6) (h13 : x6 ≤ 900) (h14 : x6 = x1) (h15 : 0 ≤ x7) (h16 : x7 ≤ 900) (h17 : x7 = x1) (h18 : 0 ≤ x8) (h19 : x8 ≤ 900) (h20 : x8 = x1) (h21 : 0 ≤ x9) (h22 : x9 ≤ 900) (h23 : x9 = x4) (h24 : x8 < x9) (h25 : 0 ≤ x10) (h26 : x10 ≤ 900) (h27 : x10 = x1) (h28 : 0 ≤ x11) (h29 : x11 ≤ 900) (h30 : x11 = x1) (h31 : 0 ≤ x12) (h32 : x12 ≤ 900) (h33 : x12 = x1) (h34 : 0 ≤ x13) (h35 : x13 ≤ 900) (h36 : x13 = x1) (h37 : 0 ≤ x0) (h38 : x0 ≤ 900) (h39 : x0 = x1) : 0 ≤ x0 := by omega
theorem o22_79 {x0 x1 x3 x4 x5 x6 x7 x8 x9 x10 x11 x12 x13 : Int} {x2 : Nat} (h0 : 0 ≤ x1) (h1 : x1 ≤ 900) (h2 : 900 - x1 < ((x2 + 1 : Nat) : Int)) (h3 : 0 ≤ x3) (h4 : x3 ≤ 900) (h5 : x3 = x1) (h6 : 0 ≤ x4) (h7 : x4 ≤ 900) (h8 : x3 < x4) (h9 : 0 ≤ x5) (h10 : x5 ≤ 900) (h11 : x5 = x1) (h12 : 0 ≤ x6) (h13 : x6 ≤ 900) (h14 : x6 = x1) (h15 : 0 ≤ x7) (h16 : x7 ≤ 900) (h17 : x7 = x1) (h18 : 0 ≤ x8) (h19 : x8 ≤ 900) (h20 : x8 = x1) (h21 : 0 ≤ x9) (h22 : x9 ≤ 900) (h23 : x9 = x4) (h24 : x8 < x9) (h25 : 0 ≤ x10) (h26 : x10 ≤ 900) (h27 : x10 = x1) (h28 : 0 ≤ x11) (h29 : x11 ≤ 900) (h30 : x11 = x1) (h31 : 0 ≤ x12) (h32 : x12 ≤ 900) (h33 : x12 = x1) (h34 : 0 ≤ x13) (h35 : x13 ≤ 900) (h36 : x13 = x1) (h37 : 0 ≤ x0) (h38 : x0 ≤ 900) (h39 : x0 = x1) : x0 < (900 : Nat) := by omega
theorem o22_80 {x0 x1 x2 x4 x5 x6 x7 x8 x9 x10 x11 x12 x13 x14 x15 : Int} {x3 : Nat} (h0 : 0 ≤ x2) (h1 : x2 ≤ 900) (h2 : 900 - x2 < ((x3 + 1 : Nat) : Int)) (h3 : 0 ≤ x4) (h4 : x4 ≤ 900) (h5 : x4 = x2) (h6 : 0 ≤ x5) (h7 : x5 ≤ 900) (h8 : x4 < x5) (h9 : 0 ≤ x6) (h10 : x6 ≤ 900) (h11 : x6 = x2) (h12 : 0 ≤ x7) (h13 : x7 ≤ 900) (h14 : x7 = x2) (h15 : 0 ≤ x8) (h16 : x8 ≤ 900) (h17 : x8 = x2) (h18 : 0 ≤ x9) (h19 : x9 ≤ 900) (h20 : x9 = x2) (h21 : 0 ≤ x10) (h22 : x10 ≤ 900) (h23 : x10 = x5) (h24 : x9 < x10) (h25 : 0 ≤ x11) (h26 : x11 ≤ 900) (h27 : x11 = x2) (h28 : 0 ≤ x12) (h29 : x12 ≤ 900) (h30 : x12 = x2) (h31 : 0 ≤ x13) (h32 : x13 ≤ 900) (h33 : x13 = x2) (h34 : 0 ≤ x14) (h35 : x14 ≤ 900) (h36 : x14 = x2) (h37 : 0 ≤ x15) (h38 : x15 ≤ 900) (h39 : x15 = x2) (h40 : 0 ≤ x0) (h41 : x0 ≤ 900) (h42 : x0 = x8) (h43 : x1 = 1) (h44 : -2147483648 ≤ x0) (h45 : x0 ≤ 2147483647) (h46 : -2147483648 ≤ x1) (h47 : x1 ≤ 2147483647) (h48 : -2147483648 ≤ x2) (h49 : x2 ≤ 2147483647) (h50 : -2147483648 ≤ x4) (h51 : x4 ≤ 2147483647) (h52 : -2147483648 ≤ x5) (h53 : x5 ≤ 2147483647) (h54 : -2147483648 ≤ x6) (h55 : x6 ≤ 2147483647) (h56 : -2147483648 ≤ x7) (h57 : x7 ≤ 2147483647) (h58 : -2147483648 ≤ x8) (h59 : x8 ≤ 2147483647) (h60 : -2147483648 ≤ x9) (h61 : x9 ≤ 2147483647) (h62 : -2147483648 ≤ x10) (h63 : x10 ≤ 2147483647) (h64 : -2147483648 ≤ x11) (h65 : x11 ≤ 2147483647) (h66 : -2147483648 ≤ x12) (h67 : x12 ≤ 2147483647) (h68 : -2147483648 ≤ x13) (h69 : x13 ≤ 2147483647) (h70 : -2147483648 ≤ x14) (h71 : x14 ≤ 2147483647) (h72 : -2147483648 ≤ x15) (h73 : x15 ≤ 2147483647) : -2147483648 ≤ x0 + x1 := by omega
theorem o22_81 {x0 x1 x2 x4 x5 x6 x7 x8 x9 x10 x11 x12 x13 x14 x15 : Int} {x3 : Nat} (h0 : 0 ≤ x2) (h1 : x2 ≤ 900) (h2 : 900 - x2 < ((x3 + 1 : Nat) : Int)) (h3 : 0 ≤ x4) (h4 : x4 ≤ 900) (h5 : x4 = x2) (h6 : 0 ≤ x5) (h7 : x5 ≤ 900) (h8 : x4 < x5) (h9 : 0 ≤ x6) (h10 : x6 ≤ 900) (h11 : x6 = x2) (h12 : 0 ≤ x7) (h13 : x7 ≤ 900) (h14 : x7 = x2) (h15 : 0 ≤ x8) (h16 : x8 ≤ 900) (h17 : x8 = x2) (h18 : 0 ≤ x9) (h19 : x9 ≤ 900) (h20 : x9 = x2) (h21 : 0 ≤ x10) (h22 : x10 ≤ 900) (h23 : x10 = x5) (h24 : x9 < x10) (h25 : 0 ≤ x11) (h26 : x11 ≤ 900) (h27 : x11 = x2) (h28 : 0 ≤ x12) (h29 : x12 ≤ 900) (h30 : x12 = x2) (h31 : 0 ≤ x13) (h32 : x13 ≤ 900) (h33 : x13 = x2) (h34 : 0 ≤ x14) (h35 : x14 ≤ 900) (h36 : x14 = x2) (h37 : 0 ≤ x15) (h38 : x15 ≤ 900) (h39 : x15 = x2) (h40 : 0 ≤ x0) (h41 : x0 ≤ 900) (h42 : x0 = x8) (h43 : x1 = 1) (h44 : -2147483648 ≤ x0) (h45 : x0 ≤ 2147483647) (h46 : -2147483648 ≤ x1) (h47 : x1 ≤ 2147483647) (h48 : -2147483648 ≤ x2) (h49 : x2 ≤ 2147483647) (h50 : -2147483648 ≤ x4) (h51 : x4 ≤ 2147483647) (h52 : -2147483648 ≤ x5) (h53 : x5 ≤ 2147483647) (h54 : -2147483648 ≤ x6) (h55 : x6 ≤ 2147483647) (h56 : -2147483648 ≤ x7) (h57 : x7 ≤ 2147483647) (h58 : -2147483648 ≤ x8) (h59 : x8 ≤ 2147483647) (h60 : -2147483648 ≤ x9) (h61 : x9 ≤ 2147483647) (h62 : -2147483648 ≤ x10) (h63 : x10 ≤ 2147483647) (h64 : -2147483648 ≤ x11) (h65 : x11 ≤ 2147483647) (h66 : -2147483648 ≤ x12) (h67 : x12 ≤ 2147483647) (h68 : -2147483648 ≤ x13) (h69 : x13 ≤ 2147483647) (h70 : -2147483648 ≤ x14) (h71 : x14 ≤ 2147483647) (h72 : -2147483648 ≤ x15) (h73 : x15 ≤ 2147483647) : x0 + x1 ≤ 2147483647 := by omega
theorem o22_82 {x0 x1 x3 x4 x5 x6 x7 x8 x9 x10 x11 x12 x13 x14 x15 x16 : Int} {x2 : Nat} (h0 : 0 ≤ x1) (h1 : x1 ≤ 900) (h2 : 900 - x1 < ((x2 + 1 : Nat) : Int)) (h3 : 0 ≤ x3) (h4 : x3 ≤ 900) (h5 : x3 = x1) (h6 : 0 ≤ x4) (h7 : x4 ≤ 900) (h8 : x3 < x4) (h9 : 0 ≤ x5) (h10 : x5 ≤ 900) (h11 : x5 = x1) (h12 : 0 ≤ x6) (h13 : x6 ≤ 900) (h14 : x6 = x1) (h15 : 0 ≤ x7) (h16 : x7 ≤ 900) (h17 : x7 = x1) (h18 : 0 ≤ x8) (h19 : x8 ≤ 900) (h20 : x8 = x1) (h21 : 0 ≤ x9) (h22 : x9 ≤ 900) (h23 : x9 = x4) (h24 : x8 < x9) (h25 : 0 ≤ x10) (h26 : x10 ≤ 900) (h27 : x10 = x1) (h28 : 0 ≤ x11) (h29 : x11 ≤ 900) (h30 : x11 = x1) (h31 : 0 ≤ x12) (h32 : x12 ≤ 900) (h33 : x12 = x1) (h34 : 0 ≤ x13) (h35 : x13 ≤ 900) (h36 : x13 = x1) (h37 : 0 ≤ x14) (h38 : x14 ≤ 900) (h39 : x14 = x1) (h40 : 0 ≤ x15) (h41 : x15 ≤ 900) (h42 : x15 = x7) (h43 : x16 = 1) (h44 : x0 = x15 + x16) : 0 ≤ x0 := by omega
theorem o22_83 {x0 x1 x3 x4 x5 x6 x7 x8 x9 x10 x11 x12 x13 x14 x15 x16 : Int} {x2 : Nat} (h0 : 0 ≤ x1) (h1 : x1 ≤ 900) (h2 : 900 - x1 < ((x2 + 1 : Nat) : Int)) (h3 : 0 ≤ x3) (h4 : x3 ≤ 900) (h5 : x3 = x1) (h6 : 0 ≤ x4) (h7 : x4 ≤ 900) (h8 : x3 < x4) (h9 : 0 ≤ x5) (h10 : x5 ≤ 900) (h11 : x5 = x1) (h12 : 0 ≤ x6) (h13 : x6 ≤ 900) (h14 : x6 = x1) (h15 : 0 ≤ x7) (h16 : x7 ≤ 900) (h17 : x7 = x1) (h18 : 0 ≤ x8) (h19 : x8 ≤ 900) (h20 : x8 = x1) (h21 : 0 ≤ x9) (h22 : x9 ≤ 900) (h23 : x9 = x4) (h24 : x8 < x9) (h25 : 0 ≤ x10) (h26 : x10 ≤ 900) (h27 : x10 = x1) (h28 : 0 ≤ x11) (h29 : x11 ≤ 900) (h30 : x11 = x1) (h31 : 0 ≤ x12) (h32 : x12 ≤ 900) (h33 : x12 = x1) (h34 : 0 ≤ x13) (h35 : x13 ≤ 900) (h36 : x13 = x1) (h37 : 0 ≤ x14) (h38 : x14 ≤ 900) (h39 : x14 = x1) (h40 : 0 ≤ x15) (h41 : x15 ≤ 900) (h42 : x15 = x7) (h43 : x16 = 1) (h44 : x0 = x15 + x16) : x0 ≤ 900 := by omega
theorem o22_84 {x0 x1 x3 x4 x5 x6 x7 x8 x9 x10 : Int} {x2 : Nat} (h0 : 0 ≤ x1) (h1 : x1 ≤ 900) (h2 : 900 - x1 < ((x2 + 1 : Nat) : Int)) (h3 : 0 ≤ x3) (h4 : x3 ≤ 900) (h5 : x3 = x1) (h6 : 0 ≤ x4) (h7 : x4 ≤ 900) (h8 : x3 < x4) (h9 : 0 ≤ x5) (h10 : x5 ≤ 900) (h11 : x5 = x1) (h12 : 0 ≤ x6) (h13 : x6 ≤ 900) (h14 : x6 = x1) (h15 : 0 ≤ x0) (h16 : x0 ≤ 900) (h17 : x0 = x1) (h18 : 0 ≤ x7) (h19 : x7 ≤ 900) (h20 : x7 = x1) (h21 : 0 ≤ x8) (h22 : x8 ≤ 900) (h23 : x8 = x4) (h24 : x7 < x8) (h25 : 0 ≤ x9) (h26 : x9 ≤ 900) (h27 : x9 = x1) (h28 : 0 ≤ x10) (h29 : x10 ≤ 900) (h30 : x10 = x1) : 900 - x0 < (((900 - x0 + 1).toNat : Nat) : Int) := by omega
theorem o22_85 {x0 x1 x3 x4 x5 x6 x7 x8 x9 x10 : Int} {x2 : Nat} (h0 : 0 ≤ x1) (h1 : x1 ≤ 900) (h2 : 900 - x1 < ((x2 + 1 : Nat) : Int)) (h3 : 0 ≤ x3) (h4 : x3 ≤ 900) (h5 : x3 = x1) (h6 : 0 ≤ x4) (h7 : x4 ≤ 900) (h8 : x3 < x4) (h9 : 0 ≤ x5) (h10 : x5 ≤ 900) (h11 : x5 = x1) (h12 : 0 ≤ x6) (h13 : x6 ≤ 900) (h14 : x6 = x1) (h15 : 0 ≤ x0) (h16 : x0 ≤ 900) (h17 : x0 = x1) (h18 : 0 ≤ x7) (h19 : x7 ≤ 900) (h20 : x7 = x1) (h21 : 0 ≤ x8) (h22 : x8 ≤ 900) (h23 : x8 = x4) (h24 : x7 < x8) (h25 : 0 ≤ x9) (h26 : x9 ≤ 900) (h27 : x9 = x1) (h28 : 0 ≤ x10) (h29 : x10 ≤ 900) (h30 : x10 = x1) : 0 ≤ x0 := by omega
theorem o22_86 {x0 x1 x3 x4 x5 x6 x7 x8 x9 x10 : Int} {x2 : Nat} (h0 : 0 ≤ x1) (h1 : x1 ≤ 900) (h2 : 900 - x1 < ((x2 + 1 : Nat) : Int)) (h3 : 0 ≤ x3) (h4 : x3 ≤ 900) (h5 : x3 = x1) (h6 : 0 ≤ x4) (h7 : x4 ≤ 900) (h8 : x3 < x4) (h9 : 0 ≤ x5) (h10 : x5 ≤ 900) (h11 : x5 = x1) (h12 : 0 ≤ x6) (h13 : x6 ≤ 900) (h14 : x6 = x1) (h15 : 0 ≤ x0) (h16 : x0 ≤ 900) (h17 : x0 = x1) (h18 : 0 ≤ x7) (h19 : x7 ≤ 900) (h20 : x7 = x1) (h21 : 0 ≤ x8) (h22 : x8 ≤ 900) (h23 : x8 = x4) (h24 : x7 < x8) (h25 : 0 ≤ x9) (h26 : x9 ≤ 900) (h27 : x9 = x1) (h28 : 0 ≤ x10) (h29 : x10 ≤ 900) (h30 : x10 = x1) : x0 ≤ 900 := by omega
theorem o22_87 {x0 x1 x3 x4 x5 x6 x7 x8 x9 : Int} {x2 : Nat} (h0 : 0 ≤ x1) (h1 : x1 ≤ 900) (h2 : 900 - x1 < ((x2 + 1 : Nat) : Int)) (h3 : 0 ≤ x3) (h4 : x3 ≤ 900) (h5 : x3 = x1) (h6 : 0 ≤ x4) (h7 : x4 ≤ 900) (h8 : x3 < x4) (h9 : 0 ≤ x5) (h10 : x5 ≤ 900) (h11 : x5 = x1) (h12 : 0 ≤ x6) (h13 : x6 ≤ 900) (h14 : x6 = x1) (h15 : 0 ≤ x0) (h16 : x0 ≤ 900) (h17 : x0 = x1) (h18 : 0 ≤ x7) (h19 : x7 ≤ 900) (h20 : x7 = x1) (h21 : 0 ≤ x8) (h22 : x8 ≤ 900) (h23 : x8 = x4) (h24 : x7 < x8) (h25 : 0 ≤ x9) (h26 : x9 ≤ 900) (h27 : x9 = x1) : 900 - x0 < (((900 - x0 + 1).toNat : Nat) : Int) := by omega
theorem o22_88 {x0 x1 x3 x4 x5 x6 x7 x8 x9 : Int} {x2 : Nat} (h0 : 0 ≤ x1) (h1 : x1 ≤ 900) (h2 : 900 - x1 < ((x2 + 1 : Nat) : Int)) (h3 : 0 ≤ x3) (h4 : x3 ≤ 900) (h5 : x3 = x1) (h6 : 0 ≤ x4) (h7 : x4 ≤ 900) (h8 : x3 < x4) (h9 : 0 ≤ x5) (h10 : x5 ≤ 900) (h11 : x5 = x1) (h12 : 0 ≤ x6) (h13 : x6 ≤ 900) (h14 : x6 = x1) (h15 : 0 ≤ x0) (h16 : x0 ≤ 900) (h17 : x0 = x1) (h18 : 0 ≤ x7) (h19 : x7 ≤ 900) (h20 : x7 = x1) (h21 : 0 ≤ x8) (h22 : x8 ≤ 900) (h23 : x8 = x4) (h24 : x7 < x8) (h25 : 0 ≤ x9) (h26 : x9 ≤ 900) (h27 : x9 = x1) : 0 ≤ x0 := by omega
theorem o22_89 {x0 x1 x3 x4 x5 x6 x7 x8 x9 : Int} {x2 : Nat} (h0 : 0 ≤ x1) (h1 : x1 ≤ 900) (h2 : 900 - x1 < ((x2 + 1 : Nat) : Int)) (h3 : 0 ≤ x3) (h4 : x3 ≤ 900) (h5 : x3 = x1) (h6 : 0 ≤ x4) (h7 : x4 ≤ 900) (h8 : x3 < x4) (h9 : 0 ≤ x5) (h10 : x5 ≤ 900) (h11 : x5 = x1) (h12 : 0 ≤ x6) (h13 : x6 ≤ 900) (h14 : x6 = x1) (h15 : 0 ≤ x0) (h16 : x0 ≤ 900) (h17 : x0 = x1) (h18 : 0 ≤ x7) (h19 : x7 ≤ 900) (h20 : x7 = x1) (h21 : 0 ≤ x8) (h22 : x8 ≤ 900) (h23 : x8 = x4) (h24 : x7 < x8) (h25 : 0 ≤ x9) (h26 : x9 ≤ 900) (h27 : x9 = x1) : x0 ≤ 900 := by omega
theorem o22_90 {x0 : Int} (h0 : 0 ≤ x0) (h1 : x0 ≤ 900) : 900 - x0 < (((900 - x0 + 1).toNat : Nat) : Int) := by omega
theorem o22_91 {x0 x1 : Int} (h0 : 0 ≤ x0) (h1 : x0 ≤ 900) (h2 : 0 ≤ x1) (h3 : x1 ≤ 900) (h4 : -2147483648 ≤ x0) (h5 : x0 ≤ 2147483647) (h6 : -2147483648 ≤ x1) (h7 : x1 ≤ 2147483647) : -2147483648 ≤ x0 - x1 := by omega
theorem o22_92 {x0 x1 : Int} (h0 : 0 ≤ x0) (h1 : x0 ≤ 900) (h2 : 0 ≤ x1) (h3 : x1 ≤ 900) (h4 : -2147483648 ≤ x0) (h5 : x0 ≤ 2147483647) (h6 : -2147483648 ≤ x1) (h7 : x1 ≤ 2147483647) : x0 - x1 ≤ 2147483647 := by omega
theorem o22_93 {x0 : Int} (h0 : 0 ≤ x0) (h1 : x0 ≤ 102) (h2 : 102 - x0 < 0) : False := by omega
theorem o22_94 {x0 x1 x3 x4 x5 x6 x8 : Int} {x2 x7 : Nat} (h0 : strLen.getD x2 0 ≤ 102) (h1 : 0 ≤ x3) (h2 : x3 ≤ 900) (h3 : 0 ≤ x4) (h4 : x4 ≤ 900) (h5 : x5 = x3 - x4) (h6 : 0 ≤ x6) (h7 : x6 ≤ 102) (h8 : x6 = ((strLen.getD x2 0 : Nat) : Int)) (h9 : x5 = x6) (h10 : 0 ≤ x1) (h11 : x1 ≤ 102) (h12 : 102 - x1 < ((x7 + 1 : Nat) : Int)) (h13 : 0 ≤ x8) (h14 : x8 ≤ 102) (h15 : x8 = ((strLen.getD x2 0 : Nat) : Int)) (h16 : x1 < x8) (h17 : 0 ≤ x0) (h18 : x0 ≤ 900) (h19 : x0 = x4) (h20 : -2147483648 ≤ x0) (h21 : x0 ≤ 2147483647) (h22 : -2147483648 ≤ x1) (h23 : x1 ≤ 2147483647) (h24 : -2147483648 ≤ x3) (h25 : x3 ≤ 2147483647) (h26 : -2147483648 ≤ x4) (h27 : x4 ≤ 2147483647) (h28 : -2147483648 ≤ x5) (h29 : x5 ≤ 2147483647) (h30 : -2147483648 ≤ x6) (h31 : x6 ≤ 2147483647) (h32 : -2147483648 ≤ x8) (h33 : x8 ≤ 2147483647) : -2147483648 ≤ x0 + x1 := by omega
theorem o22_95 {x0 x1 x3 x4 x5 x6 x8 : Int} {x2 x7 : Nat} (h0 : strLen.getD x2 0 ≤ 102) (h1 : 0 ≤ x3) (h2 : x3 ≤ 900) (h3 : 0 ≤ x4) (h4 : x4 ≤ 900) (h5 : x5 = x3 - x4) (h6 : 0 ≤ x6) (h7 : x6 ≤ 102) (h8 : x6 = ((strLen.getD x2 0 : Nat) : Int)) (h9 : x5 = x6) (h10 : 0 ≤ x1) (h11 : x1 ≤ 102) (h12 : 102 - x1 < ((x7 + 1 : Nat) : Int)) (h13 : 0 ≤ x8) (h14 : x8 ≤ 102) (h15 : x8 = ((strLen.getD x2 0 : Nat) : Int)) (h16 : x1 < x8) (h17 : 0 ≤ x0) (h18 : x0 ≤ 900) (h19 : x0 = x4) (h20 : -2147483648 ≤ x0) (h21 : x0 ≤ 2147483647) (h22 : -2147483648 ≤ x1) (h23 : x1 ≤ 2147483647) (h24 : -2147483648 ≤ x3) (h25 : x3 ≤ 2147483647) (h26 : -2147483648 ≤ x4) (h27 : x4 ≤ 2147483647) (h28 : -2147483648 ≤ x5) (h29 : x5 ≤ 2147483647) (h30 : -2147483648 ≤ x6) (h31 : x6 ≤ 2147483647) (h32 : -2147483648 ≤ x8) (h33 : x8 ≤ 2147483647) : x0 + x1 ≤ 2147483647 := by omega
theorem o22_96 {x0 x2 x3 x4 x5 x6 x8 x9 : Int} {x1 x7 : Nat} (h0 : strLen.getD x1 0 ≤ 102) (h1 : 0 ≤ x2) (h2 : x2 ≤ 900) (h3 : 0 ≤ x3) (h4 : x3 ≤ 900) (h5 : x4 = x2 - x3) (h6 : 0 ≤ x5) (h7 : x5 ≤ 102) (h8 : x5 = ((strLen.getD x1 0 : Nat) : Int)) (h9 : x4 = x5) (h10 : 0 ≤ x6) (h11 : x6 ≤ 102) (h12 : 102 - x6 < ((x7 + 1 : Nat) : Int)) (h13 : 0 ≤ x8) (h14 : x8 ≤ 102) (h15 : x8 = ((strLen.getD x1 0 : Nat) : Int)) (h16 : x6 < x8) (h17 : 0 ≤ x9) (h18 : x9 ≤ 900) (h19 : x9 = x3) (h20 : x0 = x9 + x6) : 0 ≤ x0 := by omega
theorem o22_97 {x0 x2 x3 x4 x5 x6 x8 x9 : Int} {x1 x7 : Nat} (h0 : strLen.getD x1 0 ≤ 102) (h1 : 0 ≤ x2) (h2 : x2 ≤ 900) (h3 : 0 ≤ x3) (h4 : x3 ≤ 900) (h5 : x4 = x2 - x3) (h6 : 0 ≤ x5) (h7 : x5 ≤ 102) (h8 : x5 = ((strLen.getD x1 0 : Nat) : Int)) (h9 : x4 = x5) (h10 : 0 ≤ x6) (h11 : x6 ≤ 102) (h12 : 102 - x6 < ((x7 + 1 : Nat) : Int)) (h13 : 0 ≤ x8) (h14 : x8 ≤ 102) (h15 : x8 = ((strLen.getD x1 0 : Nat) : Int)) (h16 : x6 < x8) (h17 : 0 ≤ x9) (h18 : x9 ≤ 900) (h19 : x9 = x3) (h20 : x0 = x9 + x6) : x0 < (900 : Nat) := by omega
theorem o22_98 {x0 x2 x3 x4 x5 x7 x8 x9 : Int} {x1 x6 : Nat} (h0 : strLen.getD x1 0 ≤ 102) (h1 : 0 ≤ x2) (h2 : x2 ≤ 900) (h3 : 0 ≤ x3) (h4 : x3 ≤ 900) (h5 : x4 = x2 - x3) (h6 : 0 ≤ x5) (h7 : x5 ≤ 102) (h8 : x5 = ((strLen.getD x1 0 : Nat) : Int)) (h9 : x4 = x5) (h10 : 0 ≤ x0) (h11 : x0 ≤ 102) (h12 : 102 - x0 < ((x6 + 1 : Nat) : Int)) (h13 : 0 ≤ x7) (h14 : x7 ≤ 102) (h15 : x7 = ((strLen.getD x1 0 : Nat) : Int)) (h16 : x0 < x7) (h17 : 0 ≤ x8) (h18 : x8 ≤ 900) (h19 : x8 = x3) (h20 : x9 = x8 + x0) : 0 ≤ x0 := by omega
theorem o22_99 {x0 x2 x3 x4 x5 x7 x8 x9 : Int} {x1 x6 : Nat} (h0 : strLen.getD x1 0 ≤ 102) (h1 : 0 ≤ x2) (h2 : x2 ≤ 900) (h3 : 0 ≤ x3) (h4 : x3 ≤ 900) (h5 : x4 = x2 - x3) (h6 : 0 ≤ x5) (h7 : x5 ≤ 102) (h8 : x5 = ((strLen.getD x1 0 : Nat) : Int)) (h9 : x4 = x5) (h10 : 0 ≤ x0) (h11 : x0 ≤ 102) (h12 : 102 - x0 < ((x6 + 1 : Nat) : Int)) (h13 : 0 ≤ x7) (h14 : x7 ≤ 102) (h15 : x7 = ((strLen.getD x1 0 : Nat) : Int)) (h16 : x0 < x7) (h17 : 0 ≤ x8) (h18 : x8 ≤ 900) (h19 : x8 = x3) (h20 : x9 = x8 + x0) : x0 < ((strLen.getD x1 0 : Nat) : Int) := by omega
theorem o22_100 {x0 x2 x3 x4 x5 x7 x8 x9 : Int} {x1 x6 : Nat} (h0 : strLen.getD x1 0 ≤ 102) (h1 : 0 ≤ x2) (h2 : x2 ≤ 900) (h3 : 0 ≤ x3) (h4 : x3 ≤ 900) (h5 : x4 = x2 - x3) (h6 : 0 ≤ x5) (h7 : x5 ≤ 102) (h8 : x5 = ((strLen.getD x1 0 : Nat) : Int)) (h9 : x4 = x5) (h10 : 0 ≤ x0) (h11 : x0 ≤ 102) (h12 : 102 - x0 < ((x6 + 1 : Nat) : Int)) (h13 : 0 ≤ x7) (h14 : x7 ≤ 102) (h15 : x7 = ((strLen.getD x1 0 : Nat) : Int)) (h16 : x0 < x7) (h17 : 0 ≤ x8) (h18 : x8 ≤ 900) (h19 : x8 = x3) (h20 : x9 = x8 + x0) (h21 : -2147483648 ≤ x0) (h22 : x0 ≤ 2147483647) (h23 : -2147483648 ≤ x2) (h24 : x2 ≤ 2147483647) (h25 : -2147483648 ≤ x3) (h26 : x3 ≤ 2147483647) (h27 : -2147483648 ≤ x4) (h28 : x4 ≤ 2147483647) (h29 : -2147483648 ≤ x5) (h30 : x5 ≤ 2147483647) (h31 : -2147483648 ≤ x7) (h32 : x7 ≤ 2147483647) (h33 : -2147483648 ≤ x8) (h34 : x8 ≤ 2147483647) (h35 : -2147483648 ≤ x9) (h36 : x9 ≤ 2147483647) : -2147483648 ≤ x0 + 1 := by omega
theorem o22_101 {x0 x2 x3 x4 x5 x7 x8 x9 : Int} {x1 x6 : Nat} (h0 : strLen.getD x1 0 ≤ 102) (h1 : 0 ≤ x2) (h2 : x2 ≤ 900) (h3 : 0 ≤ x3) (h4 : x3 ≤ 900) (h5 : x4 = x2 - x3) (h6 : 0 ≤ x5) (h7 : x5 ≤ 102) (h8 : x5 = ((strLen.getD x1 0 : Nat) : Int)) (h9 : x4 = x5) (h10 : 0 ≤ x0) (h11 : x0 ≤ 102) (h12 : 102 - x0 < ((x6 + 1 : Nat) : Int)) (h13 : 0 ≤ x7) (h14 : x7 ≤ 102) (h15 : x7 = ((strLen.getD x1 0 : Nat) : Int)) (h16 : x0 < x7) (h17 : 0 ≤ x8) (h18 : x8 ≤ 900) (h19 : x8 = x3) (h20 : x9 = x8 + x0) (h21 : -2147483648 ≤ x0) (h22 : x0 ≤ 2147483647) (h23 : -2147483648 ≤ x2) (h24 : x2 ≤ 2147483647) (h25 : -2147483648 ≤ x3) (h26 : x3 ≤ 2147483647) (h27 : -2147483648 ≤ x4) (h28 : x4 ≤ 2147483647) (h29 : -2147483648 ≤ x5) (h30 : x5 ≤ 2147483647) (h31 : -2147483648 ≤ x7) (h32 : x7 ≤ 2147483647) (h33 : -2147483648 ≤ x8) (h34 : x8 ≤ 2147483647) (h35 : -2147483648 ≤ x9) (h36 : x9 ≤ 2147483647) : x0 + 1 ≤ 2147483647 := by omega
theorem o22_102 {x0 x3 x4 x5 x6 x7 x8 x9 x10 : Int} {x1 x2 : Nat} (h0 : strLen.getD x2 0 ≤ 102) (h1 : 0 ≤ x3) (h2 : x3 ≤ 900) (h3 : 0 ≤ x4) (h4 : x4 ≤ 900) (h5 : x5 = x3 - x4) (h6 : 0 ≤ x6) (h7 : x6 ≤ 102) (h8 : x6 = ((strLen.getD x2 0 : Nat) : Int)) (h9 : x5 = x6) (h10 : 0 ≤ x7) (h11 : x7 ≤ 102) (h12 : 102 - x7 < ((x1 + 1 : Nat) : Int)) (h13 : 0 ≤ x8) (h14 : x8 ≤ 102) (h15 : x8 = ((strLen.getD x2 0 : Nat) : Int)) (h16 : x7 < x8) (h17 : 0 ≤ x9) (h18 : x9 ≤ 900) (h19 : x9 = x4) (h20 : x10 = x9 + x7) (h21 : x0 = x7 + 1) : 102 - x0 < (x1 : Int) := by omega
theorem o22_103 {x0 x2 x3 x4 x5 x6 x8 x9 x10 : Int} {x1 x7 : Nat} (h0 : strLen.getD x1 0 ≤ 102) (h1 : 0 ≤ x2) (h2 : x2 ≤ 900) (h3 : 0 ≤ x3) (h4 : x3 ≤ 900) (h5 : x4 = x2 - x3) (h6 : 0 ≤ x5) (h7 : x5 ≤ 102) (h8 : x5 = ((strLen.getD x1 0 : Nat) : Int)) (h9 : x4 = x5) (h10 : 0 ≤ x6) (h11 : x6 ≤ 102) (h12 : 102 - x6 < ((x7 + 1 : Nat) : Int)) (h13 : 0 ≤ x8) (h14 : x8 ≤ 102) (h15 : x8 = ((strLen.getD x1 0 : Nat) : Int)) (h16 : x6 < x8) (h17 : 0 ≤ x9) (h18 : x9 ≤ 900) (h19 : x9 = x3) (h20 : x10 = x9 + x6) (h21 : x0 = x6 + 1) : 0 ≤ x0 := by omega
theorem o22_104 {x0 x2 x3 x4 x5 x6 x8 x9 x10 : Int} {x1 x7 : Nat} (h0 : strLen.getD x1 0 ≤ 102) (h1 : 0 ≤ x2) (h2 : x2 ≤ 900) (h3 : 0 ≤ x3) (h4 : x3 ≤ 900) (h5 : x4 = x2 - x3) (h6 : 0 ≤ x5) (h7 : x5 ≤ 102) (h8 : x5 = ((strLen.getD x1 0 : Nat) : Int)) (h9 : x4 = x5) (h10 : 0 ≤ x6) (h11 : x6 ≤ 102) (h12 : 102 - x6 < ((x7 + 1 : Nat) : Int)) (h13 : 0 ≤ x8) (h14 : x8 ≤ 102) (h15 : x8 = ((strLen.getD x1 0 : Nat) : Int)) (h16 : x6 < x8) (h17 : 0 ≤ x9) (h18 : x9 ≤ 900) (h19 : x9 = x3) (h20 : x10 = x9 + x6) (h21 : x0 = x6 + 1) : x0 ≤ 102 := by omega
theorem o22_105 {x0 : Int} (h0 : x0 = 0) : 102 - x0 < (((102 - x0 + 1).toNat : Nat) : Int) := by omega
theorem o22_106 {x0 : Int} (h0 : x0 = 0) : x0 ≤ 102 := by omega
theorem o22_107 {x0 x1 : Int} (h0 : 2 ≤ x0) (h1 : x0 ≤ 2) (h2 : x1 < x0) : 2 ≤ x0 := by omega
theorem o22_108 {x0 x1 : Int} (h0 : 2 ≤ x0) (h1 : x0 ≤ 2) (h2 : x1 < x0) : x0 ≤ 5 := by omega
theorem o22_109 {x0 x1 x2 x3 x4 : Int} (h0 : 2 ≤ x1) (h1 : x1 ≤ 2) (h2 : 5 ≤ x2) (h3 : x2 ≤ 5) (h4 : x1 ≤ x3) (h5 : x4 = x3) (h6 : x4 ≤ x2) (h7 : x0 = x3) : 2 ≤ x0 := by omega
theorem o22_110 {x0 x1 x2 x3 x4 : Int} (h0 : 2 ≤ x1) (h1 : x1 ≤ 2) (h2 : 5 ≤ x2) (h3 : x2 ≤ 5) (h4 : x1 ≤ x3) (h5 : x4 = x3) (h6 : x4 ≤ x2) (h7 : x0 = x3) : x0 ≤ 5 := by omega
theorem o22_111 {x0 x1 x2 x3 : Int} (h0 : 2 ≤ x0) (h1 : x0 ≤ 2) (h2 : 5 ≤ x1) (h3 : x1 ≤ 5) (h4 : x0 ≤ x2) (h5 : x3 = x2) (h6 : x1 < x3) : 2 ≤ x0 := by omega
theorem o22_112 {x0 x1 x2 x3 : Int} (h0 : 2 ≤ x0) (h1 : x0 ≤ 2) (h2 : 5 ≤ x1) (h3 : x1 ≤ 5) (h4 : x0 ≤ x2) (h5 : x3 = x2) (h6 : x1 < x3) : x0 ≤ 5 := by omega
theorem o22_113 {x0 : Int} (h0 : 2 ≤ x0) (h1 : x0 ≤ 2) : 2 ≤ x0 := by omega
theorem o22_114 {x0 : Int} (h0 : 2 ≤ x0) (h1 : x0 ≤ 2) : x0 ≤ 5 := by omega
theorem o22_115 {x0 x1 : Int} (h0 : 0 ≤ x0) (h1 : x0 ≤ 0) (h2 : x1 < x0) : 0 ≤ x0 := by omega
theorem o22_116 {x0 x1 : Int} (h0 : 0 ≤ x0) (h1 : x0 ≤ 0) (h2 : x1 < x0) : x0 ≤ 3 := by omega
theorem o22_117 {x0 x1 x2 x3 x4 : Int} (h0 : 0 ≤ x1) (h1 : x1 ≤ 0) (h2 : 3 ≤ x2) (h3 : x2 ≤ 3) (h4 : x1 ≤ x3) (h5 : x4 = x3) (h6 : x4 ≤ x2) (h7 : x0 = x3) : 0 ≤ x0 := by omega
theorem o22_118 {x0 x1 x2 x3 x4 : Int} (h0 : 0 ≤ x1) (h1 : x1 ≤ 0) (h2 : 3 ≤ x2) (h3 : x2 ≤ 3) (h4 : x1 ≤ x3) (h5 : x4 = x3) (h6 : x4 ≤ x2) (h7 : x0 = x3) : x0 ≤ 3 := by omega
theorem o22_119 {x0 x1 x2 x3 : Int} (h0 : 0 ≤ x0) (h1 : x0 ≤ 0) (h2 : 3 ≤ x1) (h3 : x1 ≤ 3) (h4 : x0 ≤ x2) (h5 : x3 = x2) (h6 : x1 < x3) : 0 ≤ x0 := by omega
theorem o22_120 {x0 x1 x2 x3 : Int} (h0 : 0 ≤ x0) (h1 : x0 ≤ 0) (h2 : 3 ≤ x1) (h3 : x1 ≤ 3) (h4 : x0 ≤ x2) (h5 : x3 = x2) (h6 : x1 < x3) : x0 ≤ 3 := by omega
theorem o22_121 {x0 : Int} (h0 : 0 ≤ x0) (h1 : x0 ≤ 0) : 0 ≤ x0 := by omega
theorem o22_122 {x0 : Int} (h0 : 0 ≤ x0) (h1 : x0 ≤ 0) : x0 ≤ 3 := by omega
theorem o22_123 {x0 x1 : Int} (h0 : 0 ≤ x0) (h1 : x0 ≤ 0) (h2 : x1 < x0) : x0 ≤ 99 := by omega
theorem o22_124 {x0 x1 x2 x3 x4 : Int} (h0 : 0 ≤ x1) (h1 : x1 ≤ 0) (h2 : 99 ≤ x2) (h3 : x2 ≤ 99) (h4 : x1 ≤ x3) (h5 : x4 = x3) (h6 : x4 ≤ x2) (h7 : x0 = x3) : 0 ≤ x0 := by omega
theorem o22_125 {x0 x1 x2 x3 x4 : Int} (h0 : 0 ≤ x1) (h1 : x1 ≤ 0) (h2 : 99 ≤ x2) (h3 : x2 ≤ 99) (h4 : x1 ≤ x3) (h5 : x4 = x3) (h6 : x4 ≤ x2) (h7 : x0 = x3) : x0 ≤ 99 := by omega
theorem o22_126 {x0 x1 x2 x3 : Int} (h0 : 0 ≤ x0) (h1 : x0 ≤ 0) (h2 : 99 ≤ x1) (h3 : x1 ≤ 99) (h4 : x0 ≤ x2) (h5 : x3 = x2) (h6 : x1 < x3) : 0 ≤ x0 := by omega
theorem o22_127 {x0 x1 x2 x3 : Int} (h0 : 0 ≤ x0) (h1 : x0 ≤ 0) (h2 : 99 ≤ x1) (h3 : x1 ≤ 99) (h4 : x0 ≤ x2) (h5 : x3 = x2) (h6 : x1 < x3) : x0 ≤ 99 := by omega
theorem o22_128 {x0 : Int} (h0 : 0 ≤ x0) (h1 : x0 ≤ 0) : x0 ≤ 99 := by omega
theorem o22_129 {x0 x1 : Int} (h0 : 0 ≤ x0) (h1 : x0 ≤ 0) (h2 : x1 < x0) : x0 ≤ 999 := by omega
theorem o22_130 {x0 x1 x2 x3 x4 : Int} (h0 : 0 ≤ x1) (h1 : x1 ≤ 0) (h2 : 999 ≤ x2) (h3 : x2 ≤ 999) (h4 : x1 ≤ x3) (h5 : x4 = x3) (h6 : x4 ≤ x2) (h7 : x0 = x3) : 0 ≤ x0 := by omega
theorem o22_131 {x0 x1 x2 x3 x4 : Int} (h0 : 0 ≤ x1) (h1 : x1 ≤ 0) (h2 : 999 ≤ x2) (h3 : x2 ≤ 999) (h4 : x1 ≤ x3) (h5 : x4 = x3) (h6 : x4 ≤ x2) (h7 : x0 = x3) : x0 ≤ 999 := by omega
theorem o22_132 {x0 x1 x2 x3 : Int} (h0 : 0 ≤ x0) (h1 : x0 ≤ 0) (h2 : 999 ≤ x1) (h3 : x1 ≤ 999) (h4 : x0 ≤ x2) (h5 : x3 = x2) (h6 : x1 < x3) : 0 ≤ x0 := by omega
theorem o22_133 {x0 x1 x2 x3 : Int} (h0 : 0 ≤ x0) (h1 : x0 ≤ 0) (h2 : 999 ≤ x1) (h3 : x1 ≤ 999) (h4 : x0 ≤ x2) (h5 : x3 = x2) (h6 : x1 < x3) : x0 ≤ 999 := by omega
theorem o22_134 {x0 : Int} (h0 : 0 ≤ x0) (h1 : x0 ≤ 0) : x0 ≤ 999 := by omega
theorem o22_135 {x0 x1 : Int} (h0 : 0 ≤ x0) (h1 : x0 ≤ 0) (h2 : x1 < x0) : x0 ≤ 4 := by omega
theorem o22_136 {x0 x1 x2 x3 x4 : Int} (h0 : 0 ≤ x1) (h1 : x1 ≤ 0) (h2 : (-1) ≤ x2) (h3 : x2 ≤ 4) (h4 : x1 ≤ x3) (h5 : x4 = x3) (h6 : x4 ≤ x2) (h7 : x0 = x3) : 0 ≤ x0 := by omega
theorem o22_137 {x0 x1 x2 x3 x4 : Int} (h0 : 0 ≤ x1) (h1 : x1 ≤ 0) (h2 : (-1) ≤ x2) (h3 : x2 ≤ 4) (h4 : x1 ≤ x3) (h5 : x4 = x3) (h6 : x4 ≤ x2) (h7 : x0 = x3) : x0 ≤ 4 := by omega
theorem o22_138 {x0 x1 x2 x3 : Int} (h0 : 0 ≤ x0) (h1 : x0 ≤ 0) (h2 : (-1) ≤ x1) (h3 : x1 ≤ 4) (h4 : x0 ≤ x2) (h5 : x3 = x2) (h6 : x1 < x3) : 0 ≤ x0 := by omega
theorem o22_139 {x0 x1 x2 x3 : Int} (h0 : 0 ≤ x0) (h1 : x0 ≤ 0) (h2 : (-1) ≤ x1) (h3 : x1 ≤ 4) (h4 : x0 ≤ x2) (h5 : x3 = x2) (h6 : x1 < x3) : x0 ≤ 4 := by omega
theorem o22_140 {x0 : Int} (h0 : 0 ≤ x0) (h1 : x0 ≤ 0) : x0 ≤ 4 := by omega
set_option maxHeartbeats 4000000 in
set_option maxRecDepth 100000 in
theorem c_X5_hasRoom (l : Launch) (G : GG) (Z : RZ) (ad : Nat → Nat) (ws0 : va_W) (hT : Ty G (SC tt) ad ws0) : Mq l yX5_hasRoom cX5_hasRoom 1 (some .boolean) 1 G Z [.ref (ad 77)] ws0 (PI G (SC tt) ad [] ws0 (fun r u => (0 ≤ r.toInt) ∧ (r.toInt ≤ 1))) := by
  refine Mq.start (by decide) (Nat.le_of_ble_eq_true rfl) ?_
  intro p e s m below meth c A ls C0 hZ h hl
  have hl : lv_has ls 1 [(0, .ref (ad 77))] := hl
  have h : Wt G (SC tt) ad A s s.heap [] ws0 := ⟨h, hT⟩
  obtain ⟨args, hargs⟩ : ∃ z, z = ([.ref (ad 77)] : List Value).toArray := ⟨_, rfl⟩
  rw [← hargs] at C0 ⊢
  have C0 : Cx p s m args meth c RX5 cX5_hasRoom 1 (some .boolean) := C0
  obtain ⟨Q, hQ⟩ : ∃ z, z = MQ below ((PI G (SC tt) ad [] ws0 (fun r u => (0 ≤ r.toInt) ∧ (r.toInt ≤ 1))) A) args s 0 0 A := ⟨_, rfl⟩
  rw [← hQ]
  refine lv_aload_n C0.1 C0.2.1 dX5_hasRoom_0 rfl (lv_at hl 0 rfl) ?_
  refine tg_X5_fed C0 h kSC_77 q_372 dX5_hasRoom_1 (fun v_1 e_2 e_3 e_4 => ?_)
  refine y_c2 (n := 20) C0 (by decide) dX5_hasRoom_4 (fun v_5 e_6 => ?_)
  refine y_add C0 (o22_1 e_3 e_4 e_6 (le_min v_1) (le_max v_1) (le_min v_5) (le_max v_5)) (o22_2 e_3 e_4 e_6 (le_min v_1) (le_max v_1) (le_min v_5) (le_max v_5)) dX5_hasRoom_6 (fun v_7 e_8 => ?_)
  refine y_c3 (n := 900) C0 (by decide) dX5_hasRoom_7 (fun v_9 e_10 => ?_)
  refine y_icmp_gt (tgt := 17) C0 dX5_hasRoom_10 (by decide) (fun c_11 => ?_) (fun c_11 => ?_)
  · -- 10
    refine y_c1 (n := 0) C0 (by decide) dX5_hasRoom_17 (fun v_12 e_13 => ?_)
    rw [hQ]
    exact y_zret C0 h (o22_3 e_13) (o22_4 e_13) Fr.rf ⟨(o22_3 e_13), (o22_4 e_13)⟩ dX5_hasRoom_18
  · -- 10
    refine y_c1 (n := 1) C0 (by decide) dX5_hasRoom_13 (fun v_14 e_15 => ?_)
    refine lv_goto (tgt := 18) C0.1 C0.2.1 dX5_hasRoom_14 (by decide) ?_
    rw [hQ]
    exact y_zret C0 h (o22_5 e_15) (o22_6 e_15) Fr.rf ⟨(o22_5 e_15), (o22_6 e_15)⟩ dX5_hasRoom_18
set_option maxHeartbeats 4000000 in
set_option maxRecDepth 100000 in
theorem c_X5_fed (l : Launch) (G : GG) (Z : RZ) (ad : Nat → Nat) (ws0 : va_W) (hT : Ty G (SC tt) ad ws0) : Mq l yX5_fed cX5_fed 1 (some .int) 1 G Z [.ref (ad 77)] ws0 (PI G (SC tt) ad [] ws0 (fun r u => (0 ≤ r.toInt) ∧ (r.toInt ≤ 900))) := by
  refine Mq.start (by decide) (Nat.le_of_ble_eq_true rfl) ?_
  intro p e s m below meth c A ls C0 hZ h hl
  have hl : lv_has ls 1 [(0, .ref (ad 77))] := hl
  have h : Wt G (SC tt) ad A s s.heap [] ws0 := ⟨h, hT⟩
  obtain ⟨args, hargs⟩ : ∃ z, z = ([.ref (ad 77)] : List Value).toArray := ⟨_, rfl⟩
  rw [← hargs] at C0 ⊢
  have C0 : Cx p s m args meth c RX5 cX5_fed 1 (some .int) := C0
  obtain ⟨Q, hQ⟩ : ∃ z, z = MQ below ((PI G (SC tt) ad [] ws0 (fun r u => (0 ≤ r.toInt) ∧ (r.toInt ≤ 900))) A) args s 0 0 A := ⟨_, rfl⟩
  rw [← hQ]
  refine lv_aload_n C0.1 C0.2.1 dX5_fed_0 rfl (lv_at hl 0 rfl) ?_
  refine tg_X5_fed C0 h kSC_77 q_372 dX5_fed_1 (fun v_1 e_2 e_3 e_4 => ?_)
  rw [hQ]
  exact y_iret C0 h Fr.rf ⟨(o22_7 e_3 e_4), (o22_8 e_3 e_4)⟩ dX5_fed_4
set_option maxHeartbeats 4000000 in
set_option maxRecDepth 100000 in
theorem c_X5_faultKind (l : Launch) (G : GG) (Z : RZ) (ad : Nat → Nat) (ws0 : va_W) (hT : Ty G (SC tt) ad ws0) : Mq l yX5_faultKind cX5_faultKind 1 (some .int) 1 G Z [.ref (ad 77)] ws0 (PI G (SC tt) ad [] ws0 (fun r u => True)) := by
  refine Mq.start (by decide) (Nat.le_of_ble_eq_true rfl) ?_
  intro p e s m below meth c A ls C0 hZ h hl
  have hl : lv_has ls 1 [(0, .ref (ad 77))] := hl
  have h : Wt G (SC tt) ad A s s.heap [] ws0 := ⟨h, hT⟩
  obtain ⟨args, hargs⟩ : ∃ z, z = ([.ref (ad 77)] : List Value).toArray := ⟨_, rfl⟩
  rw [← hargs] at C0 ⊢
  have C0 : Cx p s m args meth c RX5 cX5_faultKind 1 (some .int) := C0
  obtain ⟨Q, hQ⟩ : ∃ z, z = MQ below ((PI G (SC tt) ad [] ws0 (fun r u => True)) A) args s 0 0 A := ⟨_, rfl⟩
  rw [← hQ]
  refine lv_aload_n C0.1 C0.2.1 dX5_faultKind_0 rfl (lv_at hl 0 rfl) ?_
  refine tg_X5_fault C0 h kSC_77 q_378 dX5_faultKind_1 (fun v_1 e_2 e_3 e_4 => ?_)
  rw [hQ]
  exact y_iret C0 h Fr.rf trivial dX5_faultKind_4
set_option maxHeartbeats 4000000 in
set_option maxRecDepth 100000 in
theorem c_X5_faultPlace (l : Launch) (G : GG) (Z : RZ) (ad : Nat → Nat) (ws0 : va_W) (hT : Ty G (SC tt) ad ws0) : Mq l yX5_faultPlace cX5_faultPlace 1 (some .int) 1 G Z [.ref (ad 77)] ws0 (PI G (SC tt) ad [] ws0 (fun r u => True)) := by
  refine Mq.start (by decide) (Nat.le_of_ble_eq_true rfl) ?_
  intro p e s m below meth c A ls C0 hZ h hl
  have hl : lv_has ls 1 [(0, .ref (ad 77))] := hl
  have h : Wt G (SC tt) ad A s s.heap [] ws0 := ⟨h, hT⟩
  obtain ⟨args, hargs⟩ : ∃ z, z = ([.ref (ad 77)] : List Value).toArray := ⟨_, rfl⟩
  rw [← hargs] at C0 ⊢
  have C0 : Cx p s m args meth c RX5 cX5_faultPlace 1 (some .int) := C0
  obtain ⟨Q, hQ⟩ : ∃ z, z = MQ below ((PI G (SC tt) ad [] ws0 (fun r u => True)) A) args s 0 0 A := ⟨_, rfl⟩
  rw [← hQ]
  refine lv_aload_n C0.1 C0.2.1 dX5_faultPlace_0 rfl (lv_at hl 0 rfl) ?_
  refine tg_X5_place C0 h kSC_77 q_379 dX5_faultPlace_1 (fun v_1 e_2 e_3 e_4 => ?_)
  rw [hQ]
  exact y_iret C0 h Fr.rf trivial dX5_faultPlace_4
set_option maxHeartbeats 4000000 in
set_option maxRecDepth 100000 in
theorem c_X5_put (l : Launch) (G : GG) (Z : RZ) (ad : Nat → Nat) (ws0 : va_W) (hT : Ty G (SC q0) ad ws0) (a1 : Int32) : Mq l yX5_put cX5_put 3 none 1 G Z [.ref (ad 77), .int a1] ws0 (PV G (SC q0) ad [16, 17] ws0 (fun u => True)) := by
  refine Mq.start (by decide) (Nat.le_of_ble_eq_true rfl) ?_
  intro p e s m below meth c A ls C0 hZ h hl
  have hl : lv_has ls 3 [(0, .ref (ad 77)), (1, .int a1)] := hl
  have h : Wt G (SC q0) ad A s s.heap [] ws0 := ⟨h, hT⟩
  obtain ⟨args, hargs⟩ : ∃ z, z = ([.ref (ad 77), .int a1] : List Value).toArray := ⟨_, rfl⟩
  rw [← hargs] at C0 ⊢
  have C0 : Cx p s m args meth c RX5 cX5_put 3 none := C0
  obtain ⟨Q, hQ⟩ : ∃ z, z = MQ below ((PV G (SC q0) ad [16, 17] ws0 (fun u => True)) A) args s 0 0 A := ⟨_, rfl⟩
  rw [← hQ]
  refine y_c2 (n := 24) C0 (by decide) dX5_put_0 (fun v_1 e_2 => ?_)
  refine lv_istore_n (lv' := [(2, .int v_1), (0, .ref (ad 77)), (1, .int a1)]) C0.1 C0.2.1 dX5_put_2 rfl hl (by decide) rfl (fun ls hl => ?_)
  have lp_6 : ∀ (n_8 : Nat) (x2_3 : Int32) (H : Heap) (locs : List Loc) (ls : Array Slot) (ws_4 : va_W), x2_3.toInt - (-8) < (n_8 : Int) → (-8) ≤ x2_3.toInt → x2_3.toInt ≤ 24 → Wt G (SC q0) ad A s H locs ws_4 → Fr (SC q0) [16, 17] ws0 ws_4 → lv_has ls 3 [(2, .int x2_3), (0, .ref (ad 77)), (1, .int a1)] → W p l e (rmd 1 0 0) s m args below meth c H locs 0 0 Q (F0 m 3 ls []) := by
    intro n_8
    induction n_8 with
    | zero => intro x2_3 H locs ls ws_4 hn_9 b_10 b_11 h hF_5 hl; exact ((o22_9 b_10 b_11 hn_9)).elim
    | succ n_8 ih_7 =>
      intro x2_3 H locs ls ws_4 hn_9 b_10 b_11 h hF_5 hl
      refine lv_iload_n C0.1 C0.2.1 dX5_put_3 rfl (lv_at hl 0 rfl) ?_
      refine y_if_lt (tgt := 46) C0 dX5_put_4 (by decide) (fun c_12 => ?_) (fun c_12 => ?_)
      · -- 4
        rw [hQ]
        exact y_vret C0 h hF_5 trivial dX5_put_46
      · -- 4
        refine lv_aload_n C0.1 C0.2.1 dX5_put_7 rfl (lv_at hl 1 rfl) ?_
        refine tg_X5_fed C0 h kSC_77 q_372 dX5_put_8 (fun v_13 e_14 e_15 e_16 => ?_)
        refine y_c3 (n := 900) C0 (by decide) dX5_put_11 (fun v_17 e_18 => ?_)
        refine y_icmp_ge (tgt := 46) C0 dX5_put_14 (by decide) (fun c_19 => ?_) (fun c_19 => ?_)
        · -- 14
          rw [hQ]
          exact y_vret C0 h hF_5 trivial dX5_put_46
        · -- 14
          refine lv_aload_n C0.1 C0.2.1 dX5_put_17 rfl (lv_at hl 1 rfl) ?_
          refine tg_X5_tape C0 h kSC_77 q_371 dX5_put_18 ?_
          refine lv_aload_n C0.1 C0.2.1 dX5_put_21 rfl (lv_at hl 1 rfl) ?_
          refine tg_X5_fed C0 h kSC_77 q_372 dX5_put_22 (fun v_20 e_21 e_22 e_23 => ?_)
          have q_24 : v_20.toInt = v_13.toInt := congrArg Int32.toInt (e_21.symm.trans (Eq.trans rfl e_14))
          refine lv_iload_n C0.1 C0.2.1 dX5_put_25 rfl (lv_at hl 2 rfl) ?_
          refine lv_iload_n C0.1 C0.2.1 dX5_put_26 rfl (lv_at hl 0 rfl) ?_
          refine y_ishrU C0 dX5_put_27 (fun v_25 => ?_)
          refine y_i2b C0 dX5_put_28 (fun v_26 e_27 e_28 => ?_)
          refine y_bast C0 h kSC_78 rfl (by decide) (o22_10 e_15 e_16 e_18 c_19 e_22 e_23 q_24) (o22_11 e_15 e_16 e_18 c_19 e_22 e_23 q_24) (by decide) (by decide) dX5_put_29 (fun H locs ws_29 h u_30 => ?_)
          refine lv_aload_n C0.1 C0.2.1 dX5_put_30 rfl (lv_at hl 1 rfl) ?_
          refine lv_dup C0.1 C0.2.1 dX5_put_31 rfl ?_
          refine tg_X5_fed C0 h kSC_77 q_372 dX5_put_32 (fun v_31 e_32 e_33 e_34 => ?_)
          have q_35 : v_31.toInt = v_13.toInt := congrArg Int32.toInt (e_32.symm.trans (Eq.trans (fI_of (u_30.1 77 (kd_ne (S := SC q0) kSC_77 kSC_78 (by decide)))) e_14))
          refine y_c1 (n := 1) C0 (by decide) dX5_put_35 (fun v_36 e_37 => ?_)
          refine y_add C0 (o22_12 e_15 e_16 e_18 c_19 e_22 e_23 q_24 e_33 e_34 q_35 e_37 (le_min v_31) (le_max v_31) (le_min v_36) (le_max v_36) (le_min v_13) (le_max v_13) (le_min v_17) (le_max v_17) (le_min v_20) (le_max v_20)) (o22_13 e_15 e_16 e_18 c_19 e_22 e_23 q_24 e_33 e_34 q_35 e_37 (le_min v_31) (le_max v_31) (le_min v_36) (le_max v_36) (le_min v_13) (le_max v_13) (le_min v_17) (le_max v_17) (le_min v_20) (le_max v_20)) dX5_put_36 (fun v_38 e_39 => ?_)
          refine tp_X5_fed C0 h kSC_77 q_372 (o22_14 e_15 e_16 e_18 c_19 e_22 e_23 q_24 e_33 e_34 q_35 e_37 e_39) (o22_15 e_15 e_16 e_18 c_19 e_22 e_23 q_24 e_33 e_34 q_35 e_37 e_39) dX5_put_37 (fun H locs ws_40 h u_41 => ?_)
          refine y_inc (kp := 0) (n := (-8)) (fun v_42 => [(2, .int v_42), (0, .ref (ad 77)), (1, .int a1)]) C0 hl rfl (by decide) (by decide) (fun _ => rfl) (o22_16 b_10 b_11 hn_9 c_12 (le_min x2_3) (le_max x2_3)) (o22_17 b_10 b_11 hn_9 c_12 (le_min x2_3) (le_max x2_3)) dX5_put_40 (fun v_42 ls e_43 hl => ?_)
          refine lv_goto (tgt := 3) C0.1 C0.2.1 dX5_put_43 (by decide) ?_
          exact ih_7 v_42 _ _ _ _ (o22_18 b_10 b_11 hn_9 c_12 e_43) (o22_19 b_10 b_11 hn_9 c_12 e_43) (o22_20 b_10 b_11 hn_9 c_12 e_43) h (Fr.tr (Fr.tr hF_5 (Fr.up u_30.1 kSC_78 (by decide))) (Fr.up u_41.1 kSC_77 (by decide))) (lv_sub hl [0, 1, 2] rfl)
  exact lp_6 ((v_1.toInt - (-8) + 1).toNat) v_1 _ _ _ _ (o22_21 e_2) (o22_22 e_2) (o22_23 e_2) h Fr.rf (lv_sub hl [0, 1, 2] rfl)
set_option maxHeartbeats 4000000 in
set_option maxRecDepth 100000 in
theorem c_X5_fail (l : Launch) (G : GG) (Z : RZ) (ad : Nat → Nat) (ws0 : va_W) (hT : Ty G (SC tt) ad ws0) (a1 : Int32) : Mq l yX5_fail cX5_fail 2 none 1 G Z [.ref (ad 77), .int a1] ws0 (PV G (SC tt) ad [16] ws0 (fun u => True)) := by
  refine Mq.start (by decide) (Nat.le_of_ble_eq_true rfl) ?_
  intro p e s m below meth c A ls C0 hZ h hl
  have hl : lv_has ls 2 [(0, .ref (ad 77)), (1, .int a1)] := hl
  have h : Wt G (SC tt) ad A s s.heap [] ws0 := ⟨h, hT⟩
  obtain ⟨args, hargs⟩ : ∃ z, z = ([.ref (ad 77), .int a1] : List Value).toArray := ⟨_, rfl⟩
  rw [← hargs] at C0 ⊢
  have C0 : Cx p s m args meth c RX5 cX5_fail 2 none := C0
  obtain ⟨Q, hQ⟩ : ∃ z, z = MQ below ((PV G (SC tt) ad [16] ws0 (fun u => True)) A) args s 0 0 A := ⟨_, rfl⟩
  rw [← hQ]
  refine lv_aload_n C0.1 C0.2.1 dX5_fail_0 rfl (lv_at hl 0 rfl) ?_
  refine tg_X5_fault C0 h kSC_77 q_378 dX5_fail_1 (fun v_1 e_2 e_3 e_4 => ?_)
  refine y_if_ne (tgt := 20) C0 dX5_fail_4 (by decide) (fun c_5 => ?_) (fun c_5 => ?_)
  · -- 4
    refine lv_aload_n C0.1 C0.2.1 dX5_fail_20 rfl (lv_at hl 0 rfl) ?_
    refine y_c1 (n := 0) C0 (by decide) dX5_fail_21 (fun v_6 e_7 => ?_)
    refine tp_X5_kind C0 h kSC_77 q_374 (le_min v_6) (le_max v_6) dX5_fail_22 (fun H locs ws_8 h u_9 => ?_)
    rw [hQ]
    exact y_vret C0 h (Fr.up u_9.1 kSC_77 (by decide)) trivial dX5_fail_25
  · -- 4
    refine lv_aload_n C0.1 C0.2.1 dX5_fail_7 rfl (lv_at hl 0 rfl) ?_
    refine lv_iload_n C0.1 C0.2.1 dX5_fail_8 rfl (lv_at hl 1 rfl) ?_
    refine tp_X5_fault C0 h kSC_77 q_378 (le_min a1) (le_max a1) dX5_fail_9 (fun H locs ws_10 h u_11 => ?_)
    refine lv_aload_n C0.1 C0.2.1 dX5_fail_12 rfl (lv_at hl 0 rfl) ?_
    refine lv_aload_n C0.1 C0.2.1 dX5_fail_13 rfl (lv_at hl 0 rfl) ?_
    refine tg_X5_start C0 h kSC_77 q_375 dX5_fail_14 (fun v_12 e_13 e_14 e_15 => ?_)
    refine tp_X5_place C0 h kSC_77 q_379 (le_min v_12) (le_max v_12) dX5_fail_17 (fun H locs ws_16 h u_17 => ?_)
    refine lv_aload_n C0.1 C0.2.1 dX5_fail_20 rfl (lv_at hl 0 rfl) ?_
    refine y_c1 (n := 0) C0 (by decide) dX5_fail_21 (fun v_18 e_19 => ?_)
    refine tp_X5_kind C0 h kSC_77 q_374 (le_min v_18) (le_max v_18) dX5_fail_22 (fun H locs ws_20 h u_21 => ?_)
    rw [hQ]
    exact y_vret C0 h (Fr.tr (Fr.tr (Fr.up u_11.1 kSC_77 (by decide)) (Fr.up u_17.1 kSC_77 (by decide))) (Fr.up u_21.1 kSC_77 (by decide))) trivial dX5_fail_25
set_option maxHeartbeats 4000000 in
set_option maxRecDepth 100000 in
theorem c_X5_isSmall (l : Launch) (G : GG) (Z : RZ) (ad : Nat → Nat) (ws0 : va_W) (hT : Ty G (SC tt) ad ws0) (a1 : Int32) (l1 : 0 ≤ a1.toInt) (u1 : a1.toInt ≤ 899) : Mq l yX5_isSmall cX5_isSmall 2 (some .boolean) 1 G Z [.ref (ad 77), .int a1] ws0 (PI G (SC tt) ad [] ws0 (fun r u => (0 ≤ r.toInt) ∧ (r.toInt ≤ 1))) := by
  refine Mq.start (by decide) (Nat.le_of_ble_eq_true rfl) ?_
  intro p e s m below meth c A ls C0 hZ h hl
  have hl : lv_has ls 2 [(0, .ref (ad 77)), (1, .int a1)] := hl
  have h : Wt G (SC tt) ad A s s.heap [] ws0 := ⟨h, hT⟩
  obtain ⟨args, hargs⟩ : ∃ z, z = ([.ref (ad 77), .int a1] : List Value).toArray := ⟨_, rfl⟩
  rw [← hargs] at C0 ⊢
  have C0 : Cx p s m args meth c RX5 cX5_isSmall 2 (some .boolean) := C0
  obtain ⟨Q, hQ⟩ : ∃ z, z = MQ below ((PI G (SC tt) ad [] ws0 (fun r u => (0 ≤ r.toInt) ∧ (r.toInt ≤ 1))) A) args s 0 0 A := ⟨_, rfl⟩
  rw [← hQ]
  refine lv_aload_n C0.1 C0.2.1 dX5_isSmall_0 rfl (lv_at hl 0 rfl) ?_
  refine tg_X5_tape C0 h kSC_77 q_371 dX5_isSmall_1 ?_
  refine lv_iload_n C0.1 C0.2.1 dX5_isSmall_4 rfl (lv_at hl 1 rfl) ?_
  refine y_bald C0 h kSC_78 rfl (by decide) (o22_24 l1 u1) (o22_25 l1 u1) dX5_isSmall_5 (fun v_1 e_2 e_3 e_4 => ?_)
  refine y_c2 (n := 97) C0 (by decide) dX5_isSmall_6 (fun v_5 e_6 => ?_)
  refine y_icmp_lt (tgt := 26) C0 dX5_isSmall_8 (by decide) (fun c_7 => ?_) (fun c_7 => ?_)
  · -- 8
    refine y_c1 (n := 0) C0 (by decide) dX5_isSmall_26 (fun v_8 e_9 => ?_)
    rw [hQ]
    exact y_zret C0 h (o22_3 e_9) (o22_4 e_9) Fr.rf ⟨(o22_3 e_9), (o22_4 e_9)⟩ dX5_isSmall_27
  · -- 8
    refine lv_aload_n C0.1 C0.2.1 dX5_isSmall_11 rfl (lv_at hl 0 rfl) ?_
    refine tg_X5_tape C0 h kSC_77 q_371 dX5_isSmall_12 ?_
    refine lv_iload_n C0.1 C0.2.1 dX5_isSmall_15 rfl (lv_at hl 1 rfl) ?_
    refine y_bald C0 h kSC_78 rfl (by decide) (o22_24 l1 u1) (o22_25 l1 u1) dX5_isSmall_16 (fun v_10 e_11 e_12 e_13 => ?_)
    have q_14 : v_10.toInt = v_1.toInt := congrArg Int32.toInt (e_11.symm.trans (Eq.trans rfl e_2))
    refine y_c2 (n := 122) C0 (by decide) dX5_isSmall_17 (fun v_15 e_16 => ?_)
    refine y_icmp_gt (tgt := 26) C0 dX5_isSmall_19 (by decide) (fun c_17 => ?_) (fun c_17 => ?_)
    · -- 19
      refine y_c1 (n := 0) C0 (by decide) dX5_isSmall_26 (fun v_18 e_19 => ?_)
      rw [hQ]
      exact y_zret C0 h (o22_3 e_19) (o22_4 e_19) Fr.rf ⟨(o22_3 e_19), (o22_4 e_19)⟩ dX5_isSmall_27
    · -- 19
      refine y_c1 (n := 1) C0 (by decide) dX5_isSmall_22 (fun v_20 e_21 => ?_)
      refine lv_goto (tgt := 27) C0.1 C0.2.1 dX5_isSmall_23 (by decide) ?_
      rw [hQ]
      exact y_zret C0 h (o22_5 e_21) (o22_6 e_21) Fr.rf ⟨(o22_5 e_21), (o22_6 e_21)⟩ dX5_isSmall_27
set_option maxHeartbeats 4000000 in
set_option maxRecDepth 100000 in
theorem c_X5_isDigit (l : Launch) (G : GG) (Z : RZ) (ad : Nat → Nat) (ws0 : va_W) (hT : Ty G (SC tt) ad ws0) (a1 : Int32) (l1 : 0 ≤ a1.toInt) (u1 : a1.toInt ≤ 899) : Mq l yX5_isDigit cX5_isDigit 2 (some .boolean) 1 G Z [.ref (ad 77), .int a1] ws0 (PI G (SC tt) ad [] ws0 (fun r u => (0 ≤ r.toInt) ∧ (r.toInt ≤ 1))) := by
  refine Mq.start (by decide) (Nat.le_of_ble_eq_true rfl) ?_
  intro p e s m below meth c A ls C0 hZ h hl
  have hl : lv_has ls 2 [(0, .ref (ad 77)), (1, .int a1)] := hl
  have h : Wt G (SC tt) ad A s s.heap [] ws0 := ⟨h, hT⟩
  obtain ⟨args, hargs⟩ : ∃ z, z = ([.ref (ad 77), .int a1] : List Value).toArray := ⟨_, rfl⟩
  rw [← hargs] at C0 ⊢
  have C0 : Cx p s m args meth c RX5 cX5_isDigit 2 (some .boolean) := C0
  obtain ⟨Q, hQ⟩ : ∃ z, z = MQ below ((PI G (SC tt) ad [] ws0 (fun r u => (0 ≤ r.toInt) ∧ (r.toInt ≤ 1))) A) args s 0 0 A := ⟨_, rfl⟩
  rw [← hQ]
  refine lv_aload_n C0.1 C0.2.1 dX5_isDigit_0 rfl (lv_at hl 0 rfl) ?_
  refine tg_X5_tape C0 h kSC_77 q_371 dX5_isDigit_1 ?_
  refine lv_iload_n C0.1 C0.2.1 dX5_isDigit_4 rfl (lv_at hl 1 rfl) ?_
  refine y_bald C0 h kSC_78 rfl (by decide) (o22_24 l1 u1) (o22_25 l1 u1) dX5_isDigit_5 (fun v_1 e_2 e_3 e_4 => ?_)
  refine y_c2 (n := 48) C0 (by decide) dX5_isDigit_6 (fun v_5 e_6 => ?_)
  refine y_icmp_lt (tgt := 26) C0 dX5_isDigit_8 (by decide) (fun c_7 => ?_) (fun c_7 => ?_)
  · -- 8
    refine y_c1 (n := 0) C0 (by decide) dX5_isDigit_26 (fun v_8 e_9 => ?_)
    rw [hQ]
    exact y_zret C0 h (o22_3 e_9) (o22_4 e_9) Fr.rf ⟨(o22_3 e_9), (o22_4 e_9)⟩ dX5_isDigit_27
  · -- 8
    refine lv_aload_n C0.1 C0.2.1 dX5_isDigit_11 rfl (lv_at hl 0 rfl) ?_
    refine tg_X5_tape C0 h kSC_77 q_371 dX5_isDigit_12 ?_
    refine lv_iload_n C0.1 C0.2.1 dX5_isDigit_15 rfl (lv_at hl 1 rfl) ?_
    refine y_bald C0 h kSC_78 rfl (by decide) (o22_24 l1 u1) (o22_25 l1 u1) dX5_isDigit_16 (fun v_10 e_11 e_12 e_13 => ?_)
    have q_14 : v_10.toInt = v_1.toInt := congrArg Int32.toInt (e_11.symm.trans (Eq.trans rfl e_2))
    refine y_c2 (n := 57) C0 (by decide) dX5_isDigit_17 (fun v_15 e_16 => ?_)
    refine y_icmp_gt (tgt := 26) C0 dX5_isDigit_19 (by decide) (fun c_17 => ?_) (fun c_17 => ?_)
    · -- 19
      refine y_c1 (n := 0) C0 (by decide) dX5_isDigit_26 (fun v_18 e_19 => ?_)
      rw [hQ]
      exact y_zret C0 h (o22_3 e_19) (o22_4 e_19) Fr.rf ⟨(o22_3 e_19), (o22_4 e_19)⟩ dX5_isDigit_27
    · -- 19
      refine y_c1 (n := 1) C0 (by decide) dX5_isDigit_22 (fun v_20 e_21 => ?_)
      refine lv_goto (tgt := 27) C0.1 C0.2.1 dX5_isDigit_23 (by decide) ?_
      rw [hQ]
      exact y_zret C0 h (o22_5 e_21) (o22_6 e_21) Fr.rf ⟨(o22_5 e_21), (o22_6 e_21)⟩ dX5_isDigit_27
set_option maxHeartbeats 4000000 in
set_option maxRecDepth 100000 in
theorem c_X5_advance (l : Launch) (G : GG) (Z : RZ) (ad : Nat → Nat) (ws0 : va_W) (hT : Ty G (SC tt) ad ws0) : Mq l yX5_advance cX5_advance 1 none 5 G Z [.ref (ad 77)] ws0 (PV G (SC tt) ad [16] ws0 (fun u => True)) := by
  refine Mq.start (by decide) (Nat.le_of_ble_eq_true rfl) ?_
  intro p e s m below meth c A ls C0 hZ h hl
  have hl : lv_has ls 1 [(0, .ref (ad 77))] := hl
  have h : Wt G (SC tt) ad A s s.heap [] ws0 := ⟨h, hT⟩
  obtain ⟨args, hargs⟩ : ∃ z, z = ([.ref (ad 77)] : List Value).toArray := ⟨_, rfl⟩
  rw [← hargs] at C0 ⊢
  have C0 : Cx p s m args meth c RX5 cX5_advance 1 none := C0
  obtain ⟨Q, hQ⟩ : ∃ z, z = MQ below ((PV G (SC tt) ad [16] ws0 (fun u => True)) A) args s 0 0 A := ⟨_, rfl⟩
  rw [← hQ]
  refine lv_aload_n C0.1 C0.2.1 dX5_advance_0 rfl (lv_at hl 0 rfl) ?_
  refine tg_X5_fault C0 h kSC_77 q_378 dX5_advance_1 (fun v_1 e_2 e_3 e_4 => ?_)
  refine y_if_eq (tgt := 8) C0 dX5_advance_4 (by decide) (fun c_5 => ?_) (fun c_5 => ?_)
  · -- 4
    refine lv_aload_n C0.1 C0.2.1 dX5_advance_8 rfl (lv_at hl 0 rfl) ?_
    refine lv_aload_n C0.1 C0.2.1 dX5_advance_9 rfl (lv_at hl 0 rfl) ?_
    refine tg_X5_end C0 h kSC_77 q_376 dX5_advance_10 (fun v_6 e_7 e_8 e_9 => ?_)
    refine tp_X5_start C0 h kSC_77 q_375 (o22_7 e_8 e_9) (o22_8 e_8 e_9) dX5_advance_13 (fun H locs ws_10 h u_11 => ?_)
    have lp_14 : ∀ (n_16 : Nat) (f_18 : Int32) (H : Heap) (locs : List Loc) (ls : Array Slot) (ws_12 : va_W), 900 - f_18.toInt < (n_16 : Int) → 0 ≤ f_18.toInt → f_18.toInt ≤ 900 → fI ws_12 77 5 = f_18 → Wt G (SC tt) ad A s H locs ws_12 → Fr (SC tt) [16] ws_10 ws_12 → lv_has ls 1 [(0, .ref (ad 77))] → W p l e (rmd 5 0 0) s m args below meth c H locs 0 0 Q (F0 m 16 ls []) := by
      intro n_16
      induction n_16 with
      | zero => intro f_18 H locs ls ws_12 hn_17 b_20 b_21 e_19 h hF_13 hl; exact ((o22_26 b_20 b_21 hn_17)).elim
      | succ n_16 ih_15 =>
        intro f_18 H locs ls ws_12 hn_17 b_20 b_21 e_19 h hF_13 hl
        refine lv_aload_n C0.1 C0.2.1 dX5_advance_16 rfl (lv_at hl 0 rfl) ?_
        refine tg_X5_start C0 h kSC_77 q_375 dX5_advance_17 (fun v_22 e_23 e_24 e_25 => ?_)
        have q_26 : v_22.toInt = f_18.toInt := congrArg Int32.toInt (e_23.symm.trans (Eq.trans rfl e_19))
        refine lv_aload_n C0.1 C0.2.1 dX5_advance_20 rfl (lv_at hl 0 rfl) ?_
        refine tg_X5_length C0 h kSC_77 q_373 dX5_advance_21 (fun v_27 e_28 e_29 e_30 => ?_)
        refine y_icmp_ge (tgt := 68) C0 dX5_advance_24 (by decide) (fun c_31 => ?_) (fun c_31 => ?_)
        · -- 24
          refine lv_aload_n C0.1 C0.2.1 dX5_advance_68 rfl (lv_at hl 0 rfl) ?_
          refine lv_aload_n C0.1 C0.2.1 dX5_advance_69 rfl (lv_at hl 0 rfl) ?_
          refine tg_X5_start C0 h kSC_77 q_375 dX5_advance_70 (fun v_32 e_33 e_34 e_35 => ?_)
          have q_36 : v_32.toInt = f_18.toInt := congrArg Int32.toInt (e_33.symm.trans (Eq.trans rfl e_19))
          refine tp_X5_end C0 h kSC_77 q_376 (o22_27 b_20 b_21 hn_17 e_24 e_25 q_26 e_29 e_30 c_31 e_34 e_35 q_36) (o22_28 b_20 b_21 hn_17 e_24 e_25 q_26 e_29 e_30 c_31 e_34 e_35 q_36) dX5_advance_73 (fun H locs ws_37 h u_38 => ?_)
          refine lv_aload_n C0.1 C0.2.1 dX5_advance_76 rfl (lv_at hl 0 rfl) ?_
          refine tg_X5_start C0 h kSC_77 q_375 dX5_advance_77 (fun v_39 e_40 e_41 e_42 => ?_)
          have q_43 : v_39.toInt = f_18.toInt := congrArg Int32.toInt (e_40.symm.trans (Eq.trans (u_38.2.2 5 (by decide)) e_19))
          refine lv_aload_n C0.1 C0.2.1 dX5_advance_80 rfl (lv_at hl 0 rfl) ?_
          refine tg_X5_length C0 h kSC_77 q_373 dX5_advance_81 (fun v_44 e_45 e_46 e_47 => ?_)
          have q_48 : v_44.toInt = v_27.toInt := congrArg Int32.toInt (e_45.symm.trans (Eq.trans (u_38.2.2 3 (by decide)) e_28))
          refine y_icmp_lt (tgt := 95) C0 dX5_advance_84 (by decide) (fun c_49 => ?_) (fun c_49 => ?_)
          · -- 84
            refine lv_aload_n C0.1 C0.2.1 dX5_advance_95 rfl (lv_at hl 0 rfl) ?_
            refine lv_aload_n C0.1 C0.2.1 dX5_advance_96 rfl (lv_at hl 0 rfl) ?_
            refine tg_X5_start C0 h kSC_77 q_375 dX5_advance_97 (fun v_50 e_51 e_52 e_53 => ?_)
            have q_54 : v_50.toInt = f_18.toInt := congrArg Int32.toInt (e_51.symm.trans (Eq.trans (u_38.2.2 5 (by decide)) e_19))
            refine y_ci h (y_rV (As := [.int v_50]) (rest := []) C0 hZ h (c_X5_isSmall l G Z ad _ h.2 v_50 (o22_29 b_20 b_21 hn_17 e_24 e_25 q_26 e_29 e_30 c_31 e_34 e_35 q_36 e_41 e_42 q_43 e_46 e_47 q_48 c_49 e_52 e_53 q_54) (o22_30 b_20 b_21 hn_17 e_24 e_25 q_26 e_29 e_30 c_31 e_34 e_35 q_36 e_41 e_42 q_43 e_46 e_47 q_48 c_49 e_52 e_53 q_54)) k_X5_isSmall q_620 q_1 q_618 kSC_77 rfl rfl rfl hl.1 rfl rfl (Nat.le_of_ble_eq_true rfl) dX5_advance_100 ⟨Nat.le_of_ble_eq_true rfl, Nat.le_of_ble_eq_true rfl⟩ ⟨Nat.le_of_ble_eq_true rfl, Nat.le_of_ble_eq_true rfl⟩) (fun r_58 H locs ws_55 h u_56 p_57 => ?_)
            obtain ⟨e_59, e_60⟩ := p_57
            refine y_if_eq (tgt := 146) C0 dX5_advance_103 (by decide) (fun c_61 => ?_) (fun c_61 => ?_)
            · -- 103
              refine lv_aload_n C0.1 C0.2.1 dX5_advance_146 rfl (lv_at hl 0 rfl) ?_
              refine lv_aload_n C0.1 C0.2.1 dX5_advance_147 rfl (lv_at hl 0 rfl) ?_
              refine tg_X5_start C0 h kSC_77 q_375 dX5_advance_148 (fun v_62 e_63 e_64 e_65 => ?_)
              have q_66 : v_62.toInt = f_18.toInt := congrArg Int32.toInt (e_63.symm.trans (Eq.trans (Eq.trans (Fr.fI u_56 kSC_77 (by decide)) (u_38.2.2 5 (by decide))) e_19))
              refine y_ci h (y_rV (As := [.int v_62]) (rest := []) C0 hZ h (c_X5_isDigit l G Z ad _ h.2 v_62 (o22_31 b_20 b_21 hn_17 e_24 e_25 q_26 e_29 e_30 c_31 e_34 e_35 q_36 e_41 e_42 q_43 e_46 e_47 q_48 c_49 e_52 e_53 q_54 e_64 e_65 q_66) (o22_32 b_20 b_21 hn_17 e_24 e_25 q_26 e_29 e_30 c_31 e_34 e_35 q_36 e_41 e_42 q_43 e_46 e_47 q_48 c_49 e_52 e_53 q_54 e_64 e_65 q_66)) k_X5_isDigit q_624 q_2 q_622 kSC_77 rfl rfl rfl hl.1 rfl rfl (Nat.le_of_ble_eq_true rfl) dX5_advance_151 ⟨Nat.le_of_ble_eq_true rfl, Nat.le_of_ble_eq_true rfl⟩ ⟨Nat.le_of_ble_eq_true rfl, Nat.le_of_ble_eq_true rfl⟩) (fun r_70 H locs ws_67 h u_68 p_69 => ?_)
              obtain ⟨e_71, e_72⟩ := p_69
              refine y_if_eq (tgt := 247) C0 dX5_advance_154 (by decide) (fun c_73 => ?_) (fun c_73 => ?_)
              · -- 154
                refine lv_aload_n C0.1 C0.2.1 dX5_advance_247 rfl (lv_at hl 0 rfl) ?_
                refine tg_X5_tape C0 h kSC_77 q_371 dX5_advance_248 ?_
                refine lv_aload_n C0.1 C0.2.1 dX5_advance_251 rfl (lv_at hl 0 rfl) ?_
                refine tg_X5_start C0 h kSC_77 q_375 dX5_advance_252 (fun v_74 e_75 e_76 e_77 => ?_)
                have q_78 : v_74.toInt = f_18.toInt := congrArg Int32.toInt (e_75.symm.trans (Eq.trans (Eq.trans (Fr.fI u_68 kSC_77 (by decide)) (Eq.trans (Fr.fI u_56 kSC_77 (by decide)) (u_38.2.2 5 (by decide)))) e_19))
                refine y_bald C0 h kSC_78 rfl (by decide) (o22_33 b_20 b_21 hn_17 e_24 e_25 q_26 e_29 e_30 c_31 e_34 e_35 q_36 e_41 e_42 q_43 e_46 e_47 q_48 c_49 e_52 e_53 q_54 e_64 e_65 q_66 e_76 e_77 q_78) (o22_34 b_20 b_21 hn_17 e_24 e_25 q_26 e_29 e_30 c_31 e_34 e_35 q_36 e_41 e_42 q_43 e_46 e_47 q_48 c_49 e_52 e_53 q_54 e_64 e_65 q_66 e_76 e_77 q_78) dX5_advance_255 (fun v_79 e_80 e_81 e_82 => ?_)
                refine y_if_le (tgt := 303) C0 dX5_advance_256 (by decide) (fun c_83 => ?_) (fun c_83 => ?_)
                · -- 256
                  refine lv_aload_n C0.1 C0.2.1 dX5_advance_303 rfl (lv_at hl 0 rfl) ?_
                  refine y_c1 (n := 1) C0 (by decide) dX5_advance_304 (fun v_84 e_85 => ?_)
                  refine y_cv h (y_rV (As := [.int v_84]) (rest := []) C0 hZ h (c_X5_fail l G Z ad _ h.2 v_84) k_X5_fail q_628 q_3 q_626 kSC_77 rfl rfl rfl hl.1 rfl rfl (Nat.le_of_ble_eq_true rfl) dX5_advance_305 ⟨Nat.le_of_ble_eq_true rfl, Nat.le_of_ble_eq_true rfl⟩ ⟨Nat.le_of_ble_eq_true rfl, Nat.le_of_ble_eq_true rfl⟩) (fun H locs ws_86 h u_87 p_88 => ?_)
                  rw [hQ]
                  exact y_vret C0 h (Fr.tr (Fr.tr (Fr.tr (Fr.tr (Fr.tr (Fr.up u_11.1 kSC_77 (by decide)) hF_13) (Fr.up u_38.1 kSC_77 (by decide))) (Fr.mono u_56 (by decide))) (Fr.mono u_68 (by decide))) u_87) trivial dX5_advance_308
                · -- 256
                  refine va_ldcS C0.1 C0.2.1 C0.2.2.2.1 (sr_0 hZ) dX5_advance_259 ?_
                  refine lv_aload_n C0.1 C0.2.1 dX5_advance_261 rfl (lv_at hl 0 rfl) ?_
                  refine tg_X5_tape C0 h kSC_77 q_371 dX5_advance_262 ?_
                  refine lv_aload_n C0.1 C0.2.1 dX5_advance_265 rfl (lv_at hl 0 rfl) ?_
                  refine tg_X5_start C0 h kSC_77 q_375 dX5_advance_266 (fun v_89 e_90 e_91 e_92 => ?_)
                  have q_93 : v_89.toInt = f_18.toInt := congrArg Int32.toInt (e_90.symm.trans (Eq.trans (Eq.trans (Fr.fI u_68 kSC_77 (by decide)) (Eq.trans (Fr.fI u_56 kSC_77 (by decide)) (u_38.2.2 5 (by decide)))) e_19))
                  refine y_bald C0 h kSC_78 rfl (by decide) (o22_35 b_20 b_21 hn_17 e_24 e_25 q_26 e_29 e_30 c_31 e_34 e_35 q_36 e_41 e_42 q_43 e_46 e_47 q_48 c_49 e_52 e_53 q_54 e_64 e_65 q_66 e_76 e_77 q_78 e_91 e_92 q_93) (o22_36 b_20 b_21 hn_17 e_24 e_25 q_26 e_29 e_30 c_31 e_34 e_35 q_36 e_41 e_42 q_43 e_46 e_47 q_48 c_49 e_52 e_53 q_54 e_64 e_65 q_66 e_76 e_77 q_78 e_91 e_92 q_93) dX5_advance_269 (fun v_94 e_95 e_96 e_97 => ?_)
                  refine y_i2c C0 dX5_advance_270 (fun v_98 e_99 e_100 => ?_)
                  refine y_ci h (y_rT (As := [.int v_98]) (rest := []) C0 hZ h (c_J0_indexOf_0f7a4 l G Z ad _ h.2 0 (by decide) v_98) k_J0_indexOf_0f7a4 q_632 q_633 q_631 (by decide) rfl hl.1 rfl rfl (Nat.le_of_ble_eq_true rfl) dX5_advance_271 ⟨Nat.le_of_ble_eq_true rfl, Nat.le_of_ble_eq_true rfl⟩ ⟨Nat.le_of_ble_eq_true rfl, Nat.le_of_ble_eq_true rfl⟩) (fun r_104 H locs ws_101 h u_102 p_103 => ?_)
                  obtain ⟨e_105, e_106⟩ := p_103
                  refine y_if_lt (tgt := 303) C0 dX5_advance_274 (by decide) (fun c_107 => ?_) (fun c_107 => ?_)
                  · -- 274
                    refine lv_aload_n C0.1 C0.2.1 dX5_advance_303 rfl (lv_at hl 0 rfl) ?_
                    refine y_c1 (n := 1) C0 (by decide) dX5_advance_304 (fun v_108 e_109 => ?_)
                    refine y_cv h (y_rV (As := [.int v_108]) (rest := []) C0 hZ h (c_X5_fail l G Z ad _ h.2 v_108) k_X5_fail q_628 q_3 q_626 kSC_77 rfl rfl rfl hl.1 rfl rfl (Nat.le_of_ble_eq_true rfl) dX5_advance_305 ⟨Nat.le_of_ble_eq_true rfl, Nat.le_of_ble_eq_true rfl⟩ ⟨Nat.le_of_ble_eq_true rfl, Nat.le_of_ble_eq_true rfl⟩) (fun H locs ws_110 h u_111 p_112 => ?_)
                    rw [hQ]
                    exact y_vret C0 h (Fr.tr (Fr.tr (Fr.tr (Fr.tr (Fr.tr (Fr.tr (Fr.up u_11.1 kSC_77 (by decide)) hF_13) (Fr.up u_38.1 kSC_77 (by decide))) (Fr.mono u_56 (by decide))) (Fr.mono u_68 (by decide))) (Fr.mono u_102 (by decide))) u_111) trivial dX5_advance_308
                  · -- 274
                    refine lv_aload_n C0.1 C0.2.1 dX5_advance_277 rfl (lv_at hl 0 rfl) ?_
                    refine lv_aload_n C0.1 C0.2.1 dX5_advance_278 rfl (lv_at hl 0 rfl) ?_
                    refine tg_X5_tape C0 h kSC_77 q_371 dX5_advance_279 ?_
                    refine lv_aload_n C0.1 C0.2.1 dX5_advance_282 rfl (lv_at hl 0 rfl) ?_
                    refine tg_X5_start C0 h kSC_77 q_375 dX5_advance_283 (fun v_113 e_114 e_115 e_116 => ?_)
                    have q_117 : v_113.toInt = f_18.toInt := congrArg Int32.toInt (e_114.symm.trans (Eq.trans (Eq.trans (Fr.fI u_102 kSC_77 (by decide)) (Eq.trans (Fr.fI u_68 kSC_77 (by decide)) (Eq.trans (Fr.fI u_56 kSC_77 (by decide)) (u_38.2.2 5 (by decide))))) e_19))
                    refine y_bald C0 h kSC_78 rfl (by decide) (o22_37 b_20 b_21 hn_17 e_24 e_25 q_26 e_29 e_30 c_31 e_34 e_35 q_36 e_41 e_42 q_43 e_46 e_47 q_48 c_49 e_52 e_53 q_54 e_64 e_65 q_66 e_76 e_77 q_78 e_91 e_92 q_93 e_115 e_116 q_117) (o22_38 b_20 b_21 hn_17 e_24 e_25 q_26 e_29 e_30 c_31 e_34 e_35 q_36 e_41 e_42 q_43 e_46 e_47 q_48 c_49 e_52 e_53 q_54 e_64 e_65 q_66 e_76 e_77 q_78 e_91 e_92 q_93 e_115 e_116 q_117) dX5_advance_286 (fun v_118 e_119 e_120 e_121 => ?_)
                    refine tp_X5_kind C0 h kSC_77 q_374 (le_min v_118) (le_max v_118) dX5_advance_287 (fun H locs ws_122 h u_123 => ?_)
                    refine lv_aload_n C0.1 C0.2.1 dX5_advance_290 rfl (lv_at hl 0 rfl) ?_
                    refine lv_dup C0.1 C0.2.1 dX5_advance_291 rfl ?_
                    refine tg_X5_end C0 h kSC_77 q_376 dX5_advance_292 (fun v_124 e_125 e_126 e_127 => ?_)
                    have q_128 : v_124.toInt = v_32.toInt := congrArg Int32.toInt (e_125.symm.trans (Eq.trans (Eq.trans (u_123.2.2 6 (by decide)) (Eq.trans (Fr.fI u_102 kSC_77 (by decide)) (Eq.trans (Fr.fI u_68 kSC_77 (by decide)) (Fr.fI u_56 kSC_77 (by decide))))) u_38.2.1))
                    refine y_c1 (n := 1) C0 (by decide) dX5_advance_295 (fun v_129 e_130 => ?_)
                    refine y_add C0 (o22_39 b_20 b_21 hn_17 e_24 e_25 q_26 e_29 e_30 c_31 e_34 e_35 q_36 e_41 e_42 q_43 e_46 e_47 q_48 c_49 e_52 e_53 q_54 e_64 e_65 q_66 e_76 e_77 q_78 e_91 e_92 q_93 e_115 e_116 q_117 e_126 e_127 q_128 e_130 (le_min v_124) (le_max v_124) (le_min v_129) (le_max v_129) (le_min f_18) (le_max f_18) (le_min v_22) (le_max v_22) (le_min v_27) (le_max v_27) (le_min v_32) (le_max v_32) (le_min v_39) (le_max v_39) (le_min v_44) (le_max v_44) (le_min v_50) (le_max v_50) (le_min v_62) (le_max v_62) (le_min v_74) (le_max v_74) (le_min v_89) (le_max v_89) (le_min v_113) (le_max v_113)) (o22_40 b_20 b_21 hn_17 e_24 e_25 q_26 e_29 e_30 c_31 e_34 e_35 q_36 e_41 e_42 q_43 e_46 e_47 q_48 c_49 e_52 e_53 q_54 e_64 e_65 q_66 e_76 e_77 q_78 e_91 e_92 q_93 e_115 e_116 q_117 e_126 e_127 q_128 e_130 (le_min v_124) (le_max v_124) (le_min v_129) (le_max v_129) (le_min f_18) (le_max f_18) (le_min v_22) (le_max v_22) (le_min v_27) (le_max v_27) (le_min v_32) (le_max v_32) (le_min v_39) (le_max v_39) (le_min v_44) (le_max v_44) (le_min v_50) (le_max v_50) (le_min v_62) (le_max v_62) (le_min v_74) (le_max v_74) (le_min v_89) (le_max v_89) (le_min v_113) (le_max v_113)) dX5_advance_296 (fun v_131 e_132 => ?_)
                    refine tp_X5_end C0 h kSC_77 q_376 (o22_41 b_20 b_21 hn_17 e_24 e_25 q_26 e_29 e_30 c_31 e_34 e_35 q_36 e_41 e_42 q_43 e_46 e_47 q_48 c_49 e_52 e_53 q_54 e_64 e_65 q_66 e_76 e_77 q_78 e_91 e_92 q_93 e_115 e_116 q_117 e_126 e_127 q_128 e_130 e_132) (o22_42 b_20 b_21 hn_17 e_24 e_25 q_26 e_29 e_30 c_31 e_34 e_35 q_36 e_41 e_42 q_43 e_46 e_47 q_48 c_49 e_52 e_53 q_54 e_64 e_65 q_66 e_76 e_77 q_78 e_91 e_92 q_93 e_115 e_116 q_117 e_126 e_127 q_128 e_130 e_132) dX5_advance_297 (fun H locs ws_133 h u_134 => ?_)
                    refine lv_goto (tgt := 308) C0.1 C0.2.1 dX5_advance_300 (by decide) ?_
                    rw [hQ]
                    exact y_vret C0 h (Fr.tr (Fr.tr (Fr.tr (Fr.tr (Fr.tr (Fr.tr (Fr.tr (Fr.up u_11.1 kSC_77 (by decide)) hF_13) (Fr.up u_38.1 kSC_77 (by decide))) (Fr.mono u_56 (by decide))) (Fr.mono u_68 (by decide))) (Fr.mono u_102 (by decide))) (Fr.up u_123.1 kSC_77 (by decide))) (Fr.up u_134.1 kSC_77 (by decide))) trivial dX5_advance_308
              · -- 154
                refine lv_aload_n C0.1 C0.2.1 dX5_advance_157 rfl (lv_at hl 0 rfl) ?_
                refine y_c1 (n := 2) C0 (by decide) dX5_advance_158 (fun v_135 e_136 => ?_)
                refine tp_X5_kind C0 h kSC_77 q_374 (le_min v_135) (le_max v_135) dX5_advance_159 (fun H locs ws_137 h u_138 => ?_)
                refine lv_aload_n C0.1 C0.2.1 dX5_advance_162 rfl (lv_at hl 0 rfl) ?_
                refine y_c1 (n := 0) C0 (by decide) dX5_advance_163 (fun v_139 e_140 => ?_)
                refine tp_X5_number C0 h kSC_77 q_377 (le_min v_139) (le_max v_139) dX5_advance_164 (fun H locs ws_141 h u_142 => ?_)
                have lp_145 : ∀ (n_147 : Nat) (f_149 : Int32) (H : Heap) (locs : List Loc) (ls : Array Slot) (ws_143 : va_W), 900 - f_149.toInt < (n_147 : Int) → 0 ≤ f_149.toInt → f_149.toInt ≤ 900 → fI ws_143 77 6 = f_149 → Wt G (SC tt) ad A s H locs ws_143 → Fr (SC tt) [16] ws_141 ws_143 → lv_has ls 1 [(0, .ref (ad 77))] → W p l e (rmd 5 0 0) s m args below meth c H locs 0 0 Q (F0 m 167 ls []) := by
                  intro n_147
                  induction n_147 with
                  | zero => intro f_149 H locs ls ws_143 hn_148 b_151 b_152 e_150 h hF_144 hl; exact ((o22_26 b_151 b_152 hn_148)).elim
                  | succ n_147 ih_146 =>
                    intro f_149 H locs ls ws_143 hn_148 b_151 b_152 e_150 h hF_144 hl
                    refine lv_aload_n C0.1 C0.2.1 dX5_advance_167 rfl (lv_at hl 0 rfl) ?_
                    refine tg_X5_end C0 h kSC_77 q_376 dX5_advance_168 (fun v_153 e_154 e_155 e_156 => ?_)
                    have q_157 : v_153.toInt = f_149.toInt := congrArg Int32.toInt (e_154.symm.trans (Eq.trans rfl e_150))
                    refine lv_aload_n C0.1 C0.2.1 dX5_advance_171 rfl (lv_at hl 0 rfl) ?_
                    refine tg_X5_length C0 h kSC_77 q_373 dX5_advance_172 (fun v_158 e_159 e_160 e_161 => ?_)
                    refine y_icmp_ge (tgt := 226) C0 dX5_advance_175 (by decide) (fun c_162 => ?_) (fun c_162 => ?_)
                    · -- 175
                      refine lv_aload_n C0.1 C0.2.1 dX5_advance_226 rfl (lv_at hl 0 rfl) ?_
                      refine tg_X5_end C0 h kSC_77 q_376 dX5_advance_227 (fun v_163 e_164 e_165 e_166 => ?_)
                      have q_167 : v_163.toInt = f_149.toInt := congrArg Int32.toInt (e_164.symm.trans (Eq.trans rfl e_150))
                      refine lv_aload_n C0.1 C0.2.1 dX5_advance_230 rfl (lv_at hl 0 rfl) ?_
                      refine tg_X5_start C0 h kSC_77 q_375 dX5_advance_231 (fun v_168 e_169 e_170 e_171 => ?_)
                      refine y_sub C0 (o22_43 b_151 b_152 hn_148 e_155 e_156 q_157 e_160 e_161 c_162 e_165 e_166 q_167 e_170 e_171 (le_min v_163) (le_max v_163) (le_min v_168) (le_max v_168) (le_min f_149) (le_max f_149) (le_min v_153) (le_max v_153) (le_min v_158) (le_max v_158)) (o22_44 b_151 b_152 hn_148 e_155 e_156 q_157 e_160 e_161 c_162 e_165 e_166 q_167 e_170 e_171 (le_min v_163) (le_max v_163) (le_min v_168) (le_max v_168) (le_min f_149) (le_max f_149) (le_min v_153) (le_max v_153) (le_min v_158) (le_max v_158)) dX5_advance_234 (fun v_172 e_173 => ?_)
                      refine y_c1 (n := 3) C0 (by decide) dX5_advance_235 (fun v_174 e_175 => ?_)
                      refine y_icmp_le (tgt := 308) C0 dX5_advance_236 (by decide) (fun c_176 => ?_) (fun c_176 => ?_)
                      · -- 236
                        rw [hQ]
                        exact y_vret C0 h (Fr.tr (Fr.tr (Fr.tr (Fr.tr (Fr.tr (Fr.tr (Fr.tr (Fr.up u_11.1 kSC_77 (by decide)) hF_13) (Fr.up u_38.1 kSC_77 (by decide))) (Fr.mono u_56 (by decide))) (Fr.mono u_68 (by decide))) (Fr.up u_138.1 kSC_77 (by decide))) (Fr.up u_142.1 kSC_77 (by decide))) hF_144) trivial dX5_advance_308
                      · -- 236
                        refine lv_aload_n C0.1 C0.2.1 dX5_advance_239 rfl (lv_at hl 0 rfl) ?_
                        refine y_c1 (n := 1) C0 (by decide) dX5_advance_240 (fun v_177 e_178 => ?_)
                        refine y_cv h (y_rV (As := [.int v_177]) (rest := []) C0 hZ h (c_X5_fail l G Z ad _ h.2 v_177) k_X5_fail q_628 q_3 q_626 kSC_77 rfl rfl rfl hl.1 rfl rfl (Nat.le_of_ble_eq_true rfl) dX5_advance_241 ⟨Nat.le_of_ble_eq_true rfl, Nat.le_of_ble_eq_true rfl⟩ ⟨Nat.le_of_ble_eq_true rfl, Nat.le_of_ble_eq_true rfl⟩) (fun H locs ws_179 h u_180 p_181 => ?_)
                        refine lv_goto (tgt := 308) C0.1 C0.2.1 dX5_advance_244 (by decide) ?_
                        rw [hQ]
                        exact y_vret C0 h (Fr.tr (Fr.tr (Fr.tr (Fr.tr (Fr.tr (Fr.tr (Fr.tr (Fr.tr (Fr.up u_11.1 kSC_77 (by decide)) hF_13) (Fr.up u_38.1 kSC_77 (by decide))) (Fr.mono u_56 (by decide))) (Fr.mono u_68 (by decide))) (Fr.up u_138.1 kSC_77 (by decide))) (Fr.up u_142.1 kSC_77 (by decide))) hF_144) u_180) trivial dX5_advance_308
                    · -- 175
                      refine lv_aload_n C0.1 C0.2.1 dX5_advance_178 rfl (lv_at hl 0 rfl) ?_
                      refine lv_aload_n C0.1 C0.2.1 dX5_advance_179 rfl (lv_at hl 0 rfl) ?_
                      refine tg_X5_end C0 h kSC_77 q_376 dX5_advance_180 (fun v_182 e_183 e_184 e_185 => ?_)
                      have q_186 : v_182.toInt = f_149.toInt := congrArg Int32.toInt (e_183.symm.trans (Eq.trans rfl e_150))
                      refine y_ci h (y_rV (As := [.int v_182]) (rest := []) C0 hZ h (c_X5_isDigit l G Z ad _ h.2 v_182 (o22_45 b_151 b_152 hn_148 e_155 e_156 q_157 e_160 e_161 c_162 e_184 e_185 q_186) (o22_46 b_151 b_152 hn_148 e_155 e_156 q_157 e_160 e_161 c_162 e_184 e_185 q_186)) k_X5_isDigit q_624 q_2 q_622 kSC_77 rfl rfl rfl hl.1 rfl rfl (Nat.le_of_ble_eq_true rfl) dX5_advance_183 ⟨Nat.le_of_ble_eq_true rfl, Nat.le_of_ble_eq_true rfl⟩ ⟨Nat.le_of_ble_eq_true rfl, Nat.le_of_ble_eq_true rfl⟩) (fun r_190 H locs ws_187 h u_188 p_189 => ?_)
                      obtain ⟨e_191, e_192⟩ := p_189
                      refine y_if_eq (tgt := 226) C0 dX5_advance_186 (by decide) (fun c_193 => ?_) (fun c_193 => ?_)
                      · -- 186
                        refine lv_aload_n C0.1 C0.2.1 dX5_advance_226 rfl (lv_at hl 0 rfl) ?_
                        refine tg_X5_end C0 h kSC_77 q_376 dX5_advance_227 (fun v_194 e_195 e_196 e_197 => ?_)
                        have q_198 : v_194.toInt = f_149.toInt := congrArg Int32.toInt (e_195.symm.trans (Eq.trans (Fr.fI u_188 kSC_77 (by decide)) e_150))
                        refine lv_aload_n C0.1 C0.2.1 dX5_advance_230 rfl (lv_at hl 0 rfl) ?_
                        refine tg_X5_start C0 h kSC_77 q_375 dX5_advance_231 (fun v_199 e_200 e_201 e_202 => ?_)
                        refine y_sub C0 (o22_47 b_151 b_152 hn_148 e_155 e_156 q_157 e_160 e_161 c_162 e_184 e_185 q_186 e_196 e_197 q_198 e_201 e_202 (le_min v_194) (le_max v_194) (le_min v_199) (le_max v_199) (le_min f_149) (le_max f_149) (le_min v_153) (le_max v_153) (le_min v_158) (le_max v_158) (le_min v_182) (le_max v_182)) (o22_48 b_151 b_152 hn_148 e_155 e_156 q_157 e_160 e_161 c_162 e_184 e_185 q_186 e_196 e_197 q_198 e_201 e_202 (le_min v_194) (le_max v_194) (le_min v_199) (le_max v_199) (le_min f_149) (le_max f_149) (le_min v_153) (le_max v_153) (le_min v_158) (le_max v_158) (le_min v_182) (le_max v_182)) dX5_advance_234 (fun v_203 e_204 => ?_)
                        refine y_c1 (n := 3) C0 (by decide) dX5_advance_235 (fun v_205 e_206 => ?_)
                        refine y_icmp_le (tgt := 308) C0 dX5_advance_236 (by decide) (fun c_207 => ?_) (fun c_207 => ?_)
                        · -- 236
                          rw [hQ]
                          exact y_vret C0 h (Fr.tr (Fr.tr (Fr.tr (Fr.tr (Fr.tr (Fr.tr (Fr.tr (Fr.tr (Fr.up u_11.1 kSC_77 (by decide)) hF_13) (Fr.up u_38.1 kSC_77 (by decide))) (Fr.mono u_56 (by decide))) (Fr.mono u_68 (by decide))) (Fr.up u_138.1 kSC_77 (by decide))) (Fr.up u_142.1 kSC_77 (by decide))) hF_144) (Fr.mono u_188 (by decide))) trivial dX5_advance_308
                        · -- 236
                          refine lv_aload_n C0.1 C0.2.1 dX5_advance_239 rfl (lv_at hl 0 rfl) ?_
                          refine y_c1 (n := 1) C0 (by decide) dX5_advance_240 (fun v_208 e_209 => ?_)
                          refine y_cv h (y_rV (As := [.int v_208]) (rest := []) C0 hZ h (c_X5_fail l G Z ad _ h.2 v_208) k_X5_fail q_628 q_3 q_626 kSC_77 rfl rfl rfl hl.1 rfl rfl (Nat.le_of_ble_eq_true rfl) dX5_advance_241 ⟨Nat.le_of_ble_eq_true rfl, Nat.le_of_ble_eq_true rfl⟩ ⟨Nat.le_of_ble_eq_true rfl, Nat.le_of_ble_eq_true rfl⟩) (fun H locs ws_210 h u_211 p_212 => ?_)
                          refine lv_goto (tgt := 308) C0.1 C0.2.1 dX5_advance_244 (by decide) ?_
                          rw [hQ]
                          exact y_vret C0 h (Fr.tr (Fr.tr (Fr.tr (Fr.tr (Fr.tr (Fr.tr (Fr.tr (Fr.tr (Fr.tr (Fr.up u_11.1 kSC_77 (by decide)) hF_13) (Fr.up u_38.1 kSC_77 (by decide))) (Fr.mono u_56 (by decide))) (Fr.mono u_68 (by decide))) (Fr.up u_138.1 kSC_77 (by decide))) (Fr.up u_142.1 kSC_77 (by decide))) hF_144) (Fr.mono u_188 (by decide))) u_211) trivial dX5_advance_308
                      · -- 186
                        refine lv_aload_n C0.1 C0.2.1 dX5_advance_189 rfl (lv_at hl 0 rfl) ?_
                        refine lv_aload_n C0.1 C0.2.1 dX5_advance_190 rfl (lv_at hl 0 rfl) ?_
                        refine tg_X5_number C0 h kSC_77 q_377 dX5_advance_191 (fun v_213 e_214 e_215 e_216 => ?_)
                        refine y_c2 (n := 10) C0 (by decide) dX5_advance_194 (fun v_217 e_218 => ?_)
                        refine y_imulU C0 dX5_advance_196 (fun v_219 => ?_)
                        refine lv_aload_n C0.1 C0.2.1 dX5_advance_197 rfl (lv_at hl 0 rfl) ?_
                        refine tg_X5_tape C0 h kSC_77 q_371 dX5_advance_198 ?_
                        refine lv_aload_n C0.1 C0.2.1 dX5_advance_201 rfl (lv_at hl 0 rfl) ?_
                        refine tg_X5_end C0 h kSC_77 q_376 dX5_advance_202 (fun v_220 e_221 e_222 e_223 => ?_)
                        have q_224 : v_220.toInt = f_149.toInt := congrArg Int32.toInt (e_221.symm.trans (Eq.trans (Fr.fI u_188 kSC_77 (by decide)) e_150))
                        refine y_bald C0 h kSC_78 rfl (by decide) (o22_49 b_151 b_152 hn_148 e_155 e_156 q_157 e_160 e_161 c_162 e_184 e_185 q_186 e_222 e_223 q_224) (o22_50 b_151 b_152 hn_148 e_155 e_156 q_157 e_160 e_161 c_162 e_184 e_185 q_186 e_222 e_223 q_224) dX5_advance_205 (fun v_225 e_226 e_227 e_228 => ?_)
                        refine y_iaddU C0 dX5_advance_206 (fun v_229 => ?_)
                        refine y_c2 (n := 48) C0 (by decide) dX5_advance_207 (fun v_230 e_231 => ?_)
                        refine y_isubU C0 dX5_advance_209 (fun v_232 => ?_)
                        refine tp_X5_number C0 h kSC_77 q_377 (le_min v_232) (le_max v_232) dX5_advance_210 (fun H locs ws_233 h u_234 => ?_)
                        refine lv_aload_n C0.1 C0.2.1 dX5_advance_213 rfl (lv_at hl 0 rfl) ?_
                        refine lv_dup C0.1 C0.2.1 dX5_advance_214 rfl ?_
                        refine tg_X5_end C0 h kSC_77 q_376 dX5_advance_215 (fun v_235 e_236 e_237 e_238 => ?_)
                        have q_239 : v_235.toInt = f_149.toInt := congrArg Int32.toInt (e_236.symm.trans (Eq.trans (Eq.trans (u_234.2.2 6 (by decide)) (Fr.fI u_188 kSC_77 (by decide))) e_150))
                        refine y_c1 (n := 1) C0 (by decide) dX5_advance_218 (fun v_240 e_241 => ?_)
                        refine y_add C0 (o22_51 b_151 b_152 hn_148 e_155 e_156 q_157 e_160 e_161 c_162 e_184 e_185 q_186 e_222 e_223 q_224 e_237 e_238 q_239 e_241 (le_min v_235) (le_max v_235) (le_min v_240) (le_max v_240) (le_min f_149) (le_max f_149) (le_min v_153) (le_max v_153) (le_min v_158) (le_max v_158) (le_min v_182) (le_max v_182) (le_min v_220) (le_max v_220)) (o22_52 b_151 b_152 hn_148 e_155 e_156 q_157 e_160 e_161 c_162 e_184 e_185 q_186 e_222 e_223 q_224 e_237 e_238 q_239 e_241 (le_min v_235) (le_max v_235) (le_min v_240) (le_max v_240) (le_min f_149) (le_max f_149) (le_min v_153) (le_max v_153) (le_min v_158) (le_max v_158) (le_min v_182) (le_max v_182) (le_min v_220) (le_max v_220)) dX5_advance_219 (fun v_242 e_243 => ?_)
                        refine tp_X5_end C0 h kSC_77 q_376 (o22_53 b_151 b_152 hn_148 e_155 e_156 q_157 e_160 e_161 c_162 e_184 e_185 q_186 e_222 e_223 q_224 e_237 e_238 q_239 e_241 e_243) (o22_54 b_151 b_152 hn_148 e_155 e_156 q_157 e_160 e_161 c_162 e_184 e_185 q_186 e_222 e_223 q_224 e_237 e_238 q_239 e_241 e_243) dX5_advance_220 (fun H locs ws_244 h u_245 => ?_)
                        refine lv_goto (tgt := 167) C0.1 C0.2.1 dX5_advance_223 (by decide) ?_
                        exact ih_146 v_242 _ _ _ _ (o22_55 b_151 b_152 hn_148 e_155 e_156 q_157 e_160 e_161 c_162 e_184 e_185 q_186 e_222 e_223 q_224 e_237 e_238 q_239 e_241 e_243) (o22_53 b_151 b_152 hn_148 e_155 e_156 q_157 e_160 e_161 c_162 e_184 e_185 q_186 e_222 e_223 q_224 e_237 e_238 q_239 e_241 e_243) (o22_54 b_151 b_152 hn_148 e_155 e_156 q_157 e_160 e_161 c_162 e_184 e_185 q_186 e_222 e_223 q_224 e_237 e_238 q_239 e_241 e_243) (Eq.trans rfl u_245.2.1) h (Fr.tr (Fr.tr (Fr.tr hF_144 (Fr.mono u_188 (by decide))) (Fr.up u_234.1 kSC_77 (by decide))) (Fr.up u_245.1 kSC_77 (by decide))) (lv_sub hl [0] rfl)
                exact lp_145 ((900 - v_32.toInt + 1).toNat) v_32 _ _ _ _ (o22_56 b_20 b_21 hn_17 e_24 e_25 q_26 e_29 e_30 c_31 e_34 e_35 q_36 e_41 e_42 q_43 e_46 e_47 q_48 c_49 e_52 e_53 q_54 e_64 e_65 q_66) (o22_57 b_20 b_21 hn_17 e_24 e_25 q_26 e_29 e_30 c_31 e_34 e_35 q_36 e_41 e_42 q_43 e_46 e_47 q_48 c_49 e_52 e_53 q_54 e_64 e_65 q_66) (o22_58 b_20 b_21 hn_17 e_24 e_25 q_26 e_29 e_30 c_31 e_34 e_35 q_36 e_41 e_42 q_43 e_46 e_47 q_48 c_49 e_52 e_53 q_54 e_64 e_65 q_66) (Eq.trans (Eq.trans (u_142.2.2 6 (by decide)) (Eq.trans (u_138.2.2 6 (by decide)) (Eq.trans (Fr.fI u_68 kSC_77 (by decide)) (Fr.fI u_56 kSC_77 (by decide))))) u_38.2.1) h Fr.rf (lv_sub hl [0] rfl)
            · -- 103
              refine lv_aload_n C0.1 C0.2.1 dX5_advance_106 rfl (lv_at hl 0 rfl) ?_
              refine y_c1 (n := 1) C0 (by decide) dX5_advance_107 (fun v_246 e_247 => ?_)
              refine tp_X5_kind C0 h kSC_77 q_374 (le_min v_246) (le_max v_246) dX5_advance_108 (fun H locs ws_248 h u_249 => ?_)
              have lp_252 : ∀ (n_254 : Nat) (f_256 : Int32) (H : Heap) (locs : List Loc) (ls : Array Slot) (ws_250 : va_W), 900 - f_256.toInt < (n_254 : Int) → 0 ≤ f_256.toInt → f_256.toInt ≤ 900 → fI ws_250 77 6 = f_256 → Wt G (SC tt) ad A s H locs ws_250 → Fr (SC tt) [16] ws_248 ws_250 → lv_has ls 1 [(0, .ref (ad 77))] → W p l e (rmd 5 0 0) s m args below meth c H locs 0 0 Q (F0 m 111 ls []) := by
                intro n_254
                induction n_254 with
                | zero => intro f_256 H locs ls ws_250 hn_255 b_258 b_259 e_257 h hF_251 hl; exact ((o22_26 b_258 b_259 hn_255)).elim
                | succ n_254 ih_253 =>
                  intro f_256 H locs ls ws_250 hn_255 b_258 b_259 e_257 h hF_251 hl
                  refine lv_aload_n C0.1 C0.2.1 dX5_advance_111 rfl (lv_at hl 0 rfl) ?_
                  refine tg_X5_end C0 h kSC_77 q_376 dX5_advance_112 (fun v_260 e_261 e_262 e_263 => ?_)
                  have q_264 : v_260.toInt = f_256.toInt := congrArg Int32.toInt (e_261.symm.trans (Eq.trans rfl e_257))
                  refine lv_aload_n C0.1 C0.2.1 dX5_advance_115 rfl (lv_at hl 0 rfl) ?_
                  refine tg_X5_length C0 h kSC_77 q_373 dX5_advance_116 (fun v_265 e_266 e_267 e_268 => ?_)
                  refine y_icmp_ge (tgt := 308) C0 dX5_advance_119 (by decide) (fun c_269 => ?_) (fun c_269 => ?_)
                  · -- 119
                    rw [hQ]
                    exact y_vret C0 h (Fr.tr (Fr.tr (Fr.tr (Fr.tr (Fr.tr (Fr.up u_11.1 kSC_77 (by decide)) hF_13) (Fr.up u_38.1 kSC_77 (by decide))) (Fr.mono u_56 (by decide))) (Fr.up u_249.1 kSC_77 (by decide))) hF_251) trivial dX5_advance_308
                  · -- 119
                    refine lv_aload_n C0.1 C0.2.1 dX5_advance_122 rfl (lv_at hl 0 rfl) ?_
                    refine lv_aload_n C0.1 C0.2.1 dX5_advance_123 rfl (lv_at hl 0 rfl) ?_
                    refine tg_X5_end C0 h kSC_77 q_376 dX5_advance_124 (fun v_270 e_271 e_272 e_273 => ?_)
                    have q_274 : v_270.toInt = f_256.toInt := congrArg Int32.toInt (e_271.symm.trans (Eq.trans rfl e_257))
                    refine y_ci h (y_rV (As := [.int v_270]) (rest := []) C0 hZ h (c_X5_isSmall l G Z ad _ h.2 v_270 (o22_45 b_258 b_259 hn_255 e_262 e_263 q_264 e_267 e_268 c_269 e_272 e_273 q_274) (o22_46 b_258 b_259 hn_255 e_262 e_263 q_264 e_267 e_268 c_269 e_272 e_273 q_274)) k_X5_isSmall q_620 q_1 q_618 kSC_77 rfl rfl rfl hl.1 rfl rfl (Nat.le_of_ble_eq_true rfl) dX5_advance_127 ⟨Nat.le_of_ble_eq_true rfl, Nat.le_of_ble_eq_true rfl⟩ ⟨Nat.le_of_ble_eq_true rfl, Nat.le_of_ble_eq_true rfl⟩) (fun r_278 H locs ws_275 h u_276 p_277 => ?_)
                    obtain ⟨e_279, e_280⟩ := p_277
                    refine y_if_eq (tgt := 308) C0 dX5_advance_130 (by decide) (fun c_281 => ?_) (fun c_281 => ?_)
                    · -- 130
                      rw [hQ]
                      exact y_vret C0 h (Fr.tr (Fr.tr (Fr.tr (Fr.tr (Fr.tr (Fr.tr (Fr.up u_11.1 kSC_77 (by decide)) hF_13) (Fr.up u_38.1 kSC_77 (by decide))) (Fr.mono u_56 (by decide))) (Fr.up u_249.1 kSC_77 (by decide))) hF_251) (Fr.mono u_276 (by decide))) trivial dX5_advance_308
                    · -- 130
                      refine lv_aload_n C0.1 C0.2.1 dX5_advance_133 rfl (lv_at hl 0 rfl) ?_
                      refine lv_dup C0.1 C0.2.1 dX5_advance_134 rfl ?_
                      refine tg_X5_end C0 h kSC_77 q_376 dX5_advance_135 (fun v_282 e_283 e_284 e_285 => ?_)
                      have q_286 : v_282.toInt = f_256.toInt := congrArg Int32.toInt (e_283.symm.trans (Eq.trans (Fr.fI u_276 kSC_77 (by decide)) e_257))
                      refine y_c1 (n := 1) C0 (by decide) dX5_advance_138 (fun v_287 e_288 => ?_)
                      refine y_add C0 (o22_59 b_258 b_259 hn_255 e_262 e_263 q_264 e_267 e_268 c_269 e_272 e_273 q_274 e_284 e_285 q_286 e_288 (le_min v_282) (le_max v_282) (le_min v_287) (le_max v_287) (le_min f_256) (le_max f_256) (le_min v_260) (le_max v_260) (le_min v_265) (le_max v_265) (le_min v_270) (le_max v_270)) (o22_60 b_258 b_259 hn_255 e_262 e_263 q_264 e_267 e_268 c_269 e_272 e_273 q_274 e_284 e_285 q_286 e_288 (le_min v_282) (le_max v_282) (le_min v_287) (le_max v_287) (le_min f_256) (le_max f_256) (le_min v_260) (le_max v_260) (le_min v_265) (le_max v_265) (le_min v_270) (le_max v_270)) dX5_advance_139 (fun v_289 e_290 => ?_)
                      refine tp_X5_end C0 h kSC_77 q_376 (o22_61 b_258 b_259 hn_255 e_262 e_263 q_264 e_267 e_268 c_269 e_272 e_273 q_274 e_284 e_285 q_286 e_288 e_290) (o22_62 b_258 b_259 hn_255 e_262 e_263 q_264 e_267 e_268 c_269 e_272 e_273 q_274 e_284 e_285 q_286 e_288 e_290) dX5_advance_140 (fun H locs ws_291 h u_292 => ?_)
                      refine lv_goto (tgt := 111) C0.1 C0.2.1 dX5_advance_143 (by decide) ?_
                      exact ih_253 v_289 _ _ _ _ (o22_63 b_258 b_259 hn_255 e_262 e_263 q_264 e_267 e_268 c_269 e_272 e_273 q_274 e_284 e_285 q_286 e_288 e_290) (o22_61 b_258 b_259 hn_255 e_262 e_263 q_264 e_267 e_268 c_269 e_272 e_273 q_274 e_284 e_285 q_286 e_288 e_290) (o22_62 b_258 b_259 hn_255 e_262 e_263 q_264 e_267 e_268 c_269 e_272 e_273 q_274 e_284 e_285 q_286 e_288 e_290) (Eq.trans rfl u_292.2.1) h (Fr.tr (Fr.tr hF_251 (Fr.mono u_276 (by decide))) (Fr.up u_292.1 kSC_77 (by decide))) (lv_sub hl [0] rfl)
              exact lp_252 ((900 - v_32.toInt + 1).toNat) v_32 _ _ _ _ (o22_64 b_20 b_21 hn_17 e_24 e_25 q_26 e_29 e_30 c_31 e_34 e_35 q_36 e_41 e_42 q_43 e_46 e_47 q_48 c_49 e_52 e_53 q_54) (o22_65 b_20 b_21 hn_17 e_24 e_25 q_26 e_29 e_30 c_31 e_34 e_35 q_36 e_41 e_42 q_43 e_46 e_47 q_48 c_49 e_52 e_53 q_54) (o22_66 b_20 b_21 hn_17 e_24 e_25 q_26 e_29 e_30 c_31 e_34 e_35 q_36 e_41 e_42 q_43 e_46 e_47 q_48 c_49 e_52 e_53 q_54) (Eq.trans (Eq.trans (u_249.2.2 6 (by decide)) (Fr.fI u_56 kSC_77 (by decide))) u_38.2.1) h Fr.rf (lv_sub hl [0] rfl)
          · -- 84
            refine lv_aload_n C0.1 C0.2.1 dX5_advance_87 rfl (lv_at hl 0 rfl) ?_
            refine y_c1 (n := 0) C0 (by decide) dX5_advance_88 (fun v_293 e_294 => ?_)
            refine tp_X5_kind C0 h kSC_77 q_374 (le_min v_293) (le_max v_293) dX5_advance_89 (fun H locs ws_295 h u_296 => ?_)
            refine lv_goto (tgt := 308) C0.1 C0.2.1 dX5_advance_92 (by decide) ?_
            rw [hQ]
            exact y_vret C0 h (Fr.tr (Fr.tr (Fr.tr (Fr.up u_11.1 kSC_77 (by decide)) hF_13) (Fr.up u_38.1 kSC_77 (by decide))) (Fr.up u_296.1 kSC_77 (by decide))) trivial dX5_advance_308
        · -- 24
          refine lv_aload_n C0.1 C0.2.1 dX5_advance_27 rfl (lv_at hl 0 rfl) ?_
          refine tg_X5_tape C0 h kSC_77 q_371 dX5_advance_28 ?_
          refine lv_aload_n C0.1 C0.2.1 dX5_advance_31 rfl (lv_at hl 0 rfl) ?_
          refine tg_X5_start C0 h kSC_77 q_375 dX5_advance_32 (fun v_297 e_298 e_299 e_300 => ?_)
          have q_301 : v_297.toInt = f_18.toInt := congrArg Int32.toInt (e_298.symm.trans (Eq.trans rfl e_19))
          refine y_bald C0 h kSC_78 rfl (by decide) (o22_45 b_20 b_21 hn_17 e_24 e_25 q_26 e_29 e_30 c_31 e_299 e_300 q_301) (o22_67 b_20 b_21 hn_17 e_24 e_25 q_26 e_29 e_30 c_31 e_299 e_300 q_301) dX5_advance_35 (fun v_302 e_303 e_304 e_305 => ?_)
          refine y_c2 (n := 32) C0 (by decide) dX5_advance_36 (fun v_306 e_307 => ?_)
          refine y_icmp_eq (tgt := 55) C0 dX5_advance_38 (by decide) (fun c_308 => ?_) (fun c_308 => ?_)
          · -- 38
            refine lv_aload_n C0.1 C0.2.1 dX5_advance_55 rfl (lv_at hl 0 rfl) ?_
            refine lv_dup C0.1 C0.2.1 dX5_advance_56 rfl ?_
            refine tg_X5_start C0 h kSC_77 q_375 dX5_advance_57 (fun v_309 e_310 e_311 e_312 => ?_)
            have q_313 : v_309.toInt = f_18.toInt := congrArg Int32.toInt (e_310.symm.trans (Eq.trans rfl e_19))
            refine y_c1 (n := 1) C0 (by decide) dX5_advance_60 (fun v_314 e_315 => ?_)
            refine y_add C0 (o22_59 b_20 b_21 hn_17 e_24 e_25 q_26 e_29 e_30 c_31 e_299 e_300 q_301 e_311 e_312 q_313 e_315 (le_min v_309) (le_max v_309) (le_min v_314) (le_max v_314) (le_min f_18) (le_max f_18) (le_min v_22) (le_max v_22) (le_min v_27) (le_max v_27) (le_min v_297) (le_max v_297)) (o22_60 b_20 b_21 hn_17 e_24 e_25 q_26 e_29 e_30 c_31 e_299 e_300 q_301 e_311 e_312 q_313 e_315 (le_min v_309) (le_max v_309) (le_min v_314) (le_max v_314) (le_min f_18) (le_max f_18) (le_min v_22) (le_max v_22) (le_min v_27) (le_max v_27) (le_min v_297) (le_max v_297)) dX5_advance_61 (fun v_316 e_317 => ?_)
            refine tp_X5_start C0 h kSC_77 q_375 (o22_61 b_20 b_21 hn_17 e_24 e_25 q_26 e_29 e_30 c_31 e_299 e_300 q_301 e_311 e_312 q_313 e_315 e_317) (o22_62 b_20 b_21 hn_17 e_24 e_25 q_26 e_29 e_30 c_31 e_299 e_300 q_301 e_311 e_312 q_313 e_315 e_317) dX5_advance_62 (fun H locs ws_318 h u_319 => ?_)
            refine lv_goto (tgt := 16) C0.1 C0.2.1 dX5_advance_65 (by decide) ?_
            exact ih_15 v_316 _ _ _ _ (o22_63 b_20 b_21 hn_17 e_24 e_25 q_26 e_29 e_30 c_31 e_299 e_300 q_301 e_311 e_312 q_313 e_315 e_317) (o22_61 b_20 b_21 hn_17 e_24 e_25 q_26 e_29 e_30 c_31 e_299 e_300 q_301 e_311 e_312 q_313 e_315 e_317) (o22_62 b_20 b_21 hn_17 e_24 e_25 q_26 e_29 e_30 c_31 e_299 e_300 q_301 e_311 e_312 q_313 e_315 e_317) (Eq.trans rfl u_319.2.1) h (Fr.tr hF_13 (Fr.up u_319.1 kSC_77 (by decide))) (lv_sub hl [0] rfl)
          · -- 38
            refine lv_aload_n C0.1 C0.2.1 dX5_advance_41 rfl (lv_at hl 0 rfl) ?_
            refine tg_X5_tape C0 h kSC_77 q_371 dX5_advance_42 ?_
            refine lv_aload_n C0.1 C0.2.1 dX5_advance_45 rfl (lv_at hl 0 rfl) ?_
            refine tg_X5_start C0 h kSC_77 q_375 dX5_advance_46 (fun v_320 e_321 e_322 e_323 => ?_)
            have q_324 : v_320.toInt = f_18.toInt := congrArg Int32.toInt (e_321.symm.trans (Eq.trans rfl e_19))
            refine y_bald C0 h kSC_78 rfl (by decide) (o22_49 b_20 b_21 hn_17 e_24 e_25 q_26 e_29 e_30 c_31 e_299 e_300 q_301 e_322 e_323 q_324) (o22_50 b_20 b_21 hn_17 e_24 e_25 q_26 e_29 e_30 c_31 e_299 e_300 q_301 e_322 e_323 q_324) dX5_advance_49 (fun v_325 e_326 e_327 e_328 => ?_)
            refine y_c2 (n := 10) C0 (by decide) dX5_advance_50 (fun v_329 e_330 => ?_)
            refine y_icmp_ne (tgt := 68) C0 dX5_advance_52 (by decide) (fun c_331 => ?_) (fun c_331 => ?_)
            · -- 52
              refine lv_aload_n C0.1 C0.2.1 dX5_advance_68 rfl (lv_at hl 0 rfl) ?_
              refine lv_aload_n C0.1 C0.2.1 dX5_advance_69 rfl (lv_at hl 0 rfl) ?_
              refine tg_X5_start C0 h kSC_77 q_375 dX5_advance_70 (fun v_332 e_333 e_334 e_335 => ?_)
              have q_336 : v_332.toInt = f_18.toInt := congrArg Int32.toInt (e_333.symm.trans (Eq.trans rfl e_19))
              refine tp_X5_end C0 h kSC_77 q_376 (o22_68 b_20 b_21 hn_17 e_24 e_25 q_26 e_29 e_30 c_31 e_299 e_300 q_301 e_322 e_323 q_324 e_334 e_335 q_336) (o22_69 b_20 b_21 hn_17 e_24 e_25 q_26 e_29 e_30 c_31 e_299 e_300 q_301 e_322 e_323 q_324 e_334 e_335 q_336) dX5_advance_73 (fun H locs ws_337 h u_338 => ?_)
              refine lv_aload_n C0.1 C0.2.1 dX5_advance_76 rfl (lv_at hl 0 rfl) ?_
              refine tg_X5_start C0 h kSC_77 q_375 dX5_advance_77 (fun v_339 e_340 e_341 e_342 => ?_)
              have q_343 : v_339.toInt = f_18.toInt := congrArg Int32.toInt (e_340.symm.trans (Eq.trans (u_338.2.2 5 (by decide)) e_19))
              refine lv_aload_n C0.1 C0.2.1 dX5_advance_80 rfl (lv_at hl 0 rfl) ?_
              refine tg_X5_length C0 h kSC_77 q_373 dX5_advance_81 (fun v_344 e_345 e_346 e_347 => ?_)
              have q_348 : v_344.toInt = v_27.toInt := congrArg Int32.toInt (e_345.symm.trans (Eq.trans (u_338.2.2 3 (by decide)) e_28))
              refine y_icmp_lt (tgt := 95) C0 dX5_advance_84 (by decide) (fun c_349 => ?_) (fun c_349 => ?_)
              · -- 84
                refine lv_aload_n C0.1 C0.2.1 dX5_advance_95 rfl (lv_at hl 0 rfl) ?_
                refine lv_aload_n C0.1 C0.2.1 dX5_advance_96 rfl (lv_at hl 0 rfl) ?_
                refine tg_X5_start C0 h kSC_77 q_375 dX5_advance_97 (fun v_350 e_351 e_352 e_353 => ?_)
                have q_354 : v_350.toInt = f_18.toInt := congrArg Int32.toInt (e_351.symm.trans (Eq.trans (u_338.2.2 5 (by decide)) e_19))
                refine y_ci h (y_rV (As := [.int v_350]) (rest := []) C0 hZ h (c_X5_isSmall l G Z ad _ h.2 v_350 (o22_70 b_20 b_21 hn_17 e_24 e_25 q_26 e_29 e_30 c_31 e_299 e_300 q_301 e_322 e_323 q_324 e_334 e_335 q_336 e_341 e_342 q_343 e_346 e_347 q_348 c_349 e_352 e_353 q_354) (o22_71 b_20 b_21 hn_17 e_24 e_25 q_26 e_29 e_30 c_31 e_299 e_300 q_301 e_322 e_323 q_324 e_334 e_335 q_336 e_341 e_342 q_343 e_346 e_347 q_348 c_349 e_352 e_353 q_354)) k_X5_isSmall q_620 q_1 q_618 kSC_77 rfl rfl rfl hl.1 rfl rfl (Nat.le_of_ble_eq_true rfl) dX5_advance_100 ⟨Nat.le_of_ble_eq_true rfl, Nat.le_of_ble_eq_true rfl⟩ ⟨Nat.le_of_ble_eq_true rfl, Nat.le_of_ble_eq_true rfl⟩) (fun r_358 H locs ws_355 h u_356 p_357 => ?_)
                obtain ⟨e_359, e_360⟩ := p_357
                refine y_if_eq (tgt := 146) C0 dX5_advance_103 (by decide) (fun c_361 => ?_) (fun c_361 => ?_)
                · -- 103
                  refine lv_aload_n C0.1 C0.2.1 dX5_advance_146 rfl (lv_at hl 0 rfl) ?_
                  refine lv_aload_n C0.1 C0.2.1 dX5_advance_147 rfl (lv_at hl 0 rfl) ?_
                  refine tg_X5_start C0 h kSC_77 q_375 dX5_advance_148 (fun v_362 e_363 e_364 e_365 => ?_)
                  have q_366 : v_362.toInt = f_18.toInt := congrArg Int32.toInt (e_363.symm.trans (Eq.trans (Eq.trans (Fr.fI u_356 kSC_77 (by decide)) (u_338.2.2 5 (by decide))) e_19))
                  refine y_ci h (y_rV (As := [.int v_362]) (rest := []) C0 hZ h (c_X5_isDigit l G Z ad _ h.2 v_362 (o22_72 b_20 b_21 hn_17 e_24 e_25 q_26 e_29 e_30 c_31 e_299 e_300 q_301 e_322 e_323 q_324 e_334 e_335 q_336 e_341 e_342 q_343 e_346 e_347 q_348 c_349 e_352 e_353 q_354 e_364 e_365 q_366) (o22_73 b_20 b_21 hn_17 e_24 e_25 q_26 e_29 e_30 c_31 e_299 e_300 q_301 e_322 e_323 q_324 e_334 e_335 q_336 e_341 e_342 q_343 e_346 e_347 q_348 c_349 e_352 e_353 q_354 e_364 e_365 q_366)) k_X5_isDigit q_624 q_2 q_622 kSC_77 rfl rfl rfl hl.1 rfl rfl (Nat.le_of_ble_eq_true rfl) dX5_advance_151 ⟨Nat.le_of_ble_eq_true rfl, Nat.le_of_ble_eq_true rfl⟩ ⟨Nat.le_of_ble_eq_true rfl, Nat.le_of_ble_eq_true rfl⟩) (fun r_370 H locs ws_367 h u_368 p_369 => ?_)
                  obtain ⟨e_371, e_372⟩ := p_369
                  refine y_if_eq (tgt := 247) C0 dX5_advance_154 (by decide) (fun c_373 => ?_) (fun c_373 => ?_)
                  · -- 154
                    refine lv_aload_n C0.1 C0.2.1 dX5_advance_247 rfl (lv_at hl 0 rfl) ?_
                    refine tg_X5_tape C0 h kSC_77 q_371 dX5_advance_248 ?_
                    refine lv_aload_n C0.1 C0.2.1 dX5_advance_251 rfl (lv_at hl 0 rfl) ?_
                    refine tg_X5_start C0 h kSC_77 q_375 dX5_advance_252 (fun v_374 e_375 e_376 e_377 => ?_)
                    have q_378 : v_374.toInt = f_18.toInt := congrArg Int32.toInt (e_375.symm.trans (Eq.trans (Eq.trans (Fr.fI u_368 kSC_77 (by decide)) (Eq.trans (Fr.fI u_356 kSC_77 (by decide)) (u_338.2.2 5 (by decide)))) e_19))
                    refine y_bald C0 h kSC_78 rfl (by decide) (o22_74 b_20 b_21 hn_17 e_24 e_25 q_26 e_29 e_30 c_31 e_299 e_300 q_301 e_322 e_323 q_324 e_334 e_335 q_336 e_341 e_342 q_343 e_346 e_347 q_348 c_349 e_352 e_353 q_354 e_364 e_365 q_366 e_376 e_377 q_378) (o22_75 b_20 b_21 hn_17 e_24 e_25 q_26 e_29 e_30 c_31 e_299 e_300 q_301 e_322 e_323 q_324 e_334 e_335 q_336 e_341 e_342 q_343 e_346 e_347 q_348 c_349 e_352 e_353 q_354 e_364 e_365 q_366 e_376 e_377 q_378) dX5_advance_255 (fun v_379 e_380 e_381 e_382 => ?_)
                    refine y_if_le (tgt := 303) C0 dX5_advance_256 (by decide) (fun c_383 => ?_) (fun c_383 => ?_)
                    · -- 256
                      refine lv_aload_n C0.1 C0.2.1 dX5_advance_303 rfl (lv_at hl 0 rfl) ?_
                      refine y_c1 (n := 1) C0 (by decide) dX5_advance_304 (fun v_384 e_385 => ?_)
                      refine y_cv h (y_rV (As := [.int v_384]) (rest := []) C0 hZ h (c_X5_fail l G Z ad _ h.2 v_384) k_X5_fail q_628 q_3 q_626 kSC_77 rfl rfl rfl hl.1 rfl rfl (Nat.le_of_ble_eq_true rfl) dX5_advance_305 ⟨Nat.le_of_ble_eq_true rfl, Nat.le_of_ble_eq_true rfl⟩ ⟨Nat.le_of_ble_eq_true rfl, Nat.le_of_ble_eq_true rfl⟩) (fun H locs ws_386 h u_387 p_388 => ?_)
                      rw [hQ]
                      exact y_vret C0 h (Fr.tr (Fr.tr (Fr.tr (Fr.tr (Fr.tr (Fr.up u_11.1 kSC_77 (by decide)) hF_13) (Fr.up u_338.1 kSC_77 (by decide))) (Fr.mono u_356 (by decide))) (Fr.mono u_368 (by decide))) u_387) trivial dX5_advance_308
                    · -- 256
                      refine va_ldcS C0.1 C0.2.1 C0.2.2.2.1 (sr_0 hZ) dX5_advance_259 ?_
                      refine lv_aload_n C0.1 C0.2.1 dX5_advance_261 rfl (lv_at hl 0 rfl) ?_
                      refine tg_X5_tape C0 h kSC_77 q_371 dX5_advance_262 ?_
                      refine lv_aload_n C0.1 C0.2.1 dX5_advance_265 rfl (lv_at hl 0 rfl) ?_
                      refine tg_X5_start C0 h kSC_77 q_375 dX5_advance_266 (fun v_389 e_390 e_391 e_392 => ?_)
                      have q_393 : v_389.toInt = f_18.toInt := congrArg Int32.toInt (e_390.symm.trans (Eq.trans (Eq.trans (Fr.fI u_368 kSC_77 (by decide)) (Eq.trans (Fr.fI u_356 kSC_77 (by decide)) (u_338.2.2 5 (by decide)))) e_19))
                      refine y_bald C0 h kSC_78 rfl (by decide) (o22_76 b_20 b_21 hn_17 e_24 e_25 q_26 e_29 e_30 c_31 e_299 e_300 q_301 e_322 e_323 q_324 e_334 e_335 q_336 e_341 e_342 q_343 e_346 e_347 q_348 c_349 e_352 e_353 q_354 e_364 e_365 q_366 e_376 e_377 q_378 e_391 e_392 q_393) (o22_77 b_20 b_21 hn_17 e_24 e_25 q_26 e_29 e_30 c_31 e_299 e_300 q_301 e_322 e_323 q_324 e_334 e_335 q_336 e_341 e_342 q_343 e_346 e_347 q_348 c_349 e_352 e_353 q_354 e_364 e_365 q_366 e_376 e_377 q_378 e_391 e_392 q_393) dX5_advance_269 (fun v_394 e_395 e_396 e_397 => ?_)
                      refine y_i2c C0 dX5_advance_270 (fun v_398 e_399 e_400 => ?_)
                      refine y_ci h (y_rT (As := [.int v_398]) (rest := []) C0 hZ h (c_J0_indexOf_0f7a4 l G Z ad _ h.2 0 (by decide) v_398) k_J0_indexOf_0f7a4 q_632 q_633 q_631 (by decide) rfl hl.1 rfl rfl (Nat.le_of_ble_eq_true rfl) dX5_advance_271 ⟨Nat.le_of_ble_eq_true rfl, Nat.le_of_ble_eq_true rfl⟩ ⟨Nat.le_of_ble_eq_true rfl, Nat.le_of_ble_eq_true rfl⟩) (fun r_404 H locs ws_401 h u_402 p_403 => ?_)
                      obtain ⟨e_405, e_406⟩ := p_403
                      refine y_if_lt (tgt := 303) C0 dX5_advance_274 (by decide) (fun c_407 => ?_) (fun c_407 => ?_)
                      · -- 274
                        refine lv_aload_n C0.1 C0.2.1 dX5_advance_303 rfl (lv_at hl 0 rfl) ?_
                        refine y_c1 (n := 1) C0 (by decide) dX5_advance_304 (fun v_408 e_409 => ?_)
                        refine y_cv h (y_rV (As := [.int v_408]) (rest := []) C0 hZ h (c_X5_fail l G Z ad _ h.2 v_408) k_X5_fail q_628 q_3 q_626 kSC_77 rfl rfl rfl hl.1 rfl rfl (Nat.le_of_ble_eq_true rfl) dX5_advance_305 ⟨Nat.le_of_ble_eq_true rfl, Nat.le_of_ble_eq_true rfl⟩ ⟨Nat.le_of_ble_eq_true rfl, Nat.le_of_ble_eq_true rfl⟩) (fun H locs ws_410 h u_411 p_412 => ?_)
                        rw [hQ]
                        exact y_vret C0 h (Fr.tr (Fr.tr (Fr.tr (Fr.tr (Fr.tr (Fr.tr (Fr.up u_11.1 kSC_77 (by decide)) hF_13) (Fr.up u_338.1 kSC_77 (by decide))) (Fr.mono u_356 (by decide))) (Fr.mono u_368 (by decide))) (Fr.mono u_402 (by decide))) u_411) trivial dX5_advance_308
                      · -- 274
                        refine lv_aload_n C0.1 C0.2.1 dX5_advance_277 rfl (lv_at hl 0 rfl) ?_
                        refine lv_aload_n C0.1 C0.2.1 dX5_advance_278 rfl (lv_at hl 0 rfl) ?_
                        refine tg_X5_tape C0 h kSC_77 q_371 dX5_advance_279 ?_
                        refine lv_aload_n C0.1 C0.2.1 dX5_advance_282 rfl (lv_at hl 0 rfl) ?_
                        refine tg_X5_start C0 h kSC_77 q_375 dX5_advance_283 (fun v_413 e_414 e_415 e_416 => ?_)
                        have q_417 : v_413.toInt = f_18.toInt := congrArg Int32.toInt (e_414.symm.trans (Eq.trans (Eq.trans (Fr.fI u_402 kSC_77 (by decide)) (Eq.trans (Fr.fI u_368 kSC_77 (by decide)) (Eq.trans (Fr.fI u_356 kSC_77 (by decide)) (u_338.2.2 5 (by decide))))) e_19))
                        refine y_bald C0 h kSC_78 rfl (by decide) (o22_78 b_20 b_21 hn_17 e_24 e_25 q_26 e_29 e_30 c_31 e_299 e_300 q_301 e_322 e_323 q_324 e_334 e_335 q_336 e_341 e_342 q_343 e_346 e_347 q_348 c_349 e_352 e_353 q_354 e_364 e_365 q_366 e_376 e_377 q_378 e_391 e_392 q_393 e_415 e_416 q_417) (o22_79 b_20 b_21 hn_17 e_24 e_25 q_26 e_29 e_30 c_31 e_299 e_300 q_301 e_322 e_323 q_324 e_334 e_335 q_336 e_341 e_342 q_343 e_346 e_347 q_348 c_349 e_352 e_353 q_354 e_364 e_365 q_366 e_376 e_377 q_378 e_391 e_392 q_393 e_415 e_416 q_417) dX5_advance_286 (fun v_418 e_419 e_420 e_421 => ?_)
                        refine tp_X5_kind C0 h kSC_77 q_374 (le_min v_418) (le_max v_418) dX5_advance_287 (fun H locs ws_422 h u_423 => ?_)
                        refine lv_aload_n C0.1 C0.2.1 dX5_advance_290 rfl (lv_at hl 0 rfl) ?_
                        refine lv_dup C0.1 C0.2.1 dX5_advance_291 rfl ?_
                        refine tg_X5_end C0 h kSC_77 q_376 dX5_advance_292 (fun v_424 e_425 e_426 e_427 => ?_)
                        have q_428 : v_424.toInt = v_332.toInt := congrArg Int32.toInt (e_425.symm.trans (Eq.trans (Eq.trans (u_423.2.2 6 (by decide)) (Eq.trans (Fr.fI u_402 kSC_77 (by decide)) (Eq.trans (Fr.fI u_368 kSC_77 (by decide)) (Fr.fI u_356 kSC_77 (by decide))))) u_338.2.1))
                        refine y_c1 (n := 1) C0 (by decide) dX5_advance_295 (fun v_429 e_430 => ?_)
                        refine y_add C0 (o22_80 b_20 b_21 hn_17 e_24 e_25 q_26 e_29 e_30 c_31 e_299 e_300 q_301 e_322 e_323 q_324 e_334 e_335 q_336 e_341 e_342 q_343 e_346 e_347 q_348 c_349 e_352 e_353 q_354 e_364 e_365 q_366 e_376 e_377 q_378 e_391 e_392 q_393 e_415 e_416 q_417 e_426 e_427 q_428 e_430 (le_min v_424) (le_max v_424) (le_min v_429) (le_max v_429) (le_min f_18) (le_max f_18) (le_min v_22) (le_max v_22) (le_min v_27) (le_max v_27) (le_min v_297) (le_max v_297) (le_min v_320) (le_max v_320) (le_min v_332) (le_max v_332) (le_min v_339) (le_max v_339) (le_min v_344) (le_max v_344) (le_min v_350) (le_max v_350) (le_min v_362) (le_max v_362) (le_min v_374) (le_max v_374) (le_min v_389) (le_max v_389) (le_min v_413) (le_max v_413)) (o22_81 b_20 b_21 hn_17 e_24 e_25 q_26 e_29 e_30 c_31 e_299 e_300 q_301 e_322 e_323 q_324 e_334 e_335 q_336 e_341 e_342 q_343 e_346 e_347 q_348 c_349 e_352 e_353 q_354 e_364 e_365 q_366 e_376 e_377 q_378 e_391 e_392 q_393 e_415 e_416 q_417 e_426 e_427 q_428 e_430 (le_min v_424) (le_max v_424) (le_min v_429) (le_max v_429) (le_min f_18) (le_max f_18) (le_min v_22) (le_max v_22) (le_min v_27) (le_max v_27) (le_min v_297) (le_max v_297) (le_min v_320) (le_max v_320) (le_min v_332) (le_max v_332) (le_min v_339) (le_max v_339) (le_min v_344) (le_max v_344) (le_min v_350) (le_max v_350) (le_min v_362) (le_max v_362) (le_min v_374) (le_max v_374) (le_min v_389) (le_max v_389) (le_min v_413) (le_max v_413)) dX5_advance_296 (fun v_431 e_432 => ?_)
                        refine tp_X5_end C0 h kSC_77 q_376 (o22_82 b_20 b_21 hn_17 e_24 e_25 q_26 e_29 e_30 c_31 e_299 e_300 q_301 e_322 e_323 q_324 e_334 e_335 q_336 e_341 e_342 q_343 e_346 e_347 q_348 c_349 e_352 e_353 q_354 e_364 e_365 q_366 e_376 e_377 q_378 e_391 e_392 q_393 e_415 e_416 q_417 e_426 e_427 q_428 e_430 e_432) (o22_83 b_20 b_21 hn_17 e_24 e_25 q_26 e_29 e_30 c_31 e_299 e_300 q_301 e_322 e_323 q_324 e_334 e_335 q_336 e_341 e_342 q_343 e_346 e_347 q_348 c_349 e_352 e_353 q_354 e_364 e_365 q_366 e_376 e_377 q_378 e_391 e_392 q_393 e_415 e_416 q_417 e_426 e_427 q_428 e_430 e_432) dX5_advance_297 (fun H locs ws_433 h u_434 => ?_)
                        refine lv_goto (tgt := 308) C0.1 C0.2.1 dX5_advance_300 (by decide) ?_
                        rw [hQ]
                        exact y_vret C0 h (Fr.tr (Fr.tr (Fr.tr (Fr.tr (Fr.tr (Fr.tr (Fr.tr (Fr.up u_11.1 kSC_77 (by decide)) hF_13) (Fr.up u_338.1 kSC_77 (by decide))) (Fr.mono u_356 (by decide))) (Fr.mono u_368 (by decide))) (Fr.mono u_402 (by decide))) (Fr.up u_423.1 kSC_77 (by decide))) (Fr.up u_434.1 kSC_77 (by decide))) trivial dX5_advance_308
                  · -- 154
                    refine lv_aload_n C0.1 C0.2.1 dX5_advance_157 rfl (lv_at hl 0 rfl) ?_
                    refine y_c1 (n := 2) C0 (by decide) dX5_advance_158 (fun v_435 e_436 => ?_)
                    refine tp_X5_kind C0 h kSC_77 q_374 (le_min v_435) (le_max v_435) dX5_advance_159 (fun H locs ws_437 h u_438 => ?_)
                    refine lv_aload_n C0.1 C0.2.1 dX5_advance_162 rfl (lv_at hl 0 rfl) ?_
                    refine y_c1 (n := 0) C0 (by decide) dX5_advance_163 (fun v_439 e_440 => ?_)
                    refine tp_X5_number C0 h kSC_77 q_377 (le_min v_439) (le_max v_439) dX5_advance_164 (fun H locs ws_441 h u_442 => ?_)
                    have lp_445 : ∀ (n_447 : Nat) (f_449 : Int32) (H : Heap) (locs : List Loc) (ls : Array Slot) (ws_443 : va_W), 900 - f_449.toInt < (n_447 : Int) → 0 ≤ f_449.toInt → f_449.toInt ≤ 900 → fI ws_443 77 6 = f_449 → Wt G (SC tt) ad A s H locs ws_443 → Fr (SC tt) [16] ws_441 ws_443 → lv_has ls 1 [(0, .ref (ad 77))] → W p l e (rmd 5 0 0) s m args below meth c H locs 0 0 Q (F0 m 167 ls []) := by
                      intro n_447
                      induction n_447 with
                      | zero => intro f_449 H locs ls ws_443 hn_448 b_451 b_452 e_450 h hF_444 hl; exact ((o22_26 b_451 b_452 hn_448)).elim
                      | succ n_447 ih_446 =>
                        intro f_449 H locs ls ws_443 hn_448 b_451 b_452 e_450 h hF_444 hl
                        refine lv_aload_n C0.1 C0.2.1 dX5_advance_167 rfl (lv_at hl 0 rfl) ?_
                        refine tg_X5_end C0 h kSC_77 q_376 dX5_advance_168 (fun v_453 e_454 e_455 e_456 => ?_)
                        have q_457 : v_453.toInt = f_449.toInt := congrArg Int32.toInt (e_454.symm.trans (Eq.trans rfl e_450))
                        refine lv_aload_n C0.1 C0.2.1 dX5_advance_171 rfl (lv_at hl 0 rfl) ?_
                        refine tg_X5_length C0 h kSC_77 q_373 dX5_advance_172 (fun v_458 e_459 e_460 e_461 => ?_)
                        refine y_icmp_ge (tgt := 226) C0 dX5_advance_175 (by decide) (fun c_462 => ?_) (fun c_462 => ?_)
                        · -- 175
                          refine lv_aload_n C0.1 C0.2.1 dX5_advance_226 rfl (lv_at hl 0 rfl) ?_
                          refine tg_X5_end C0 h kSC_77 q_376 dX5_advance_227 (fun v_463 e_464 e_465 e_466 => ?_)
                          have q_467 : v_463.toInt = f_449.toInt := congrArg Int32.toInt (e_464.symm.trans (Eq.trans rfl e_450))
                          refine lv_aload_n C0.1 C0.2.1 dX5_advance_230 rfl (lv_at hl 0 rfl) ?_
                          refine tg_X5_start C0 h kSC_77 q_375 dX5_advance_231 (fun v_468 e_469 e_470 e_471 => ?_)
                          refine y_sub C0 (o22_43 b_451 b_452 hn_448 e_455 e_456 q_457 e_460 e_461 c_462 e_465 e_466 q_467 e_470 e_471 (le_min v_463) (le_max v_463) (le_min v_468) (le_max v_468) (le_min f_449) (le_max f_449) (le_min v_453) (le_max v_453) (le_min v_458) (le_max v_458)) (o22_44 b_451 b_452 hn_448 e_455 e_456 q_457 e_460 e_461 c_462 e_465 e_466 q_467 e_470 e_471 (le_min v_463) (le_max v_463) (le_min v_468) (le_max v_468) (le_min f_449) (le_max f_449) (le_min v_453) (le_max v_453) (le_min v_458) (le_max v_458)) dX5_advance_234 (fun v_472 e_473 => ?_)
                          refine y_c1 (n := 3) C0 (by decide) dX5_advance_235 (fun v_474 e_475 => ?_)
                          refine y_icmp_le (tgt := 308) C0 dX5_advance_236 (by decide) (fun c_476 => ?_) (fun c_476 => ?_)
                          · -- 236
                            rw [hQ]
                            exact y_vret C0 h (Fr.tr (Fr.tr (Fr.tr (Fr.tr (Fr.tr (Fr.tr (Fr.tr (Fr.up u_11.1 kSC_77 (by decide)) hF_13) (Fr.up u_338.1 kSC_77 (by decide))) (Fr.mono u_356 (by decide))) (Fr.mono u_368 (by decide))) (Fr.up u_438.1 kSC_77 (by decide))) (Fr.up u_442.1 kSC_77 (by decide))) hF_444) trivial dX5_advance_308
                          · -- 236
                            refine lv_aload_n C0.1 C0.2.1 dX5_advance_239 rfl (lv_at hl 0 rfl) ?_
                            refine y_c1 (n := 1) C0 (by decide) dX5_advance_240 (fun v_477 e_478 => ?_)
                            refine y_cv h (y_rV (As := [.int v_477]) (rest := []) C0 hZ h (c_X5_fail l G Z ad _ h.2 v_477) k_X5_fail q_628 q_3 q_626 kSC_77 rfl rfl rfl hl.1 rfl rfl (Nat.le_of_ble_eq_true rfl) dX5_advance_241 ⟨Nat.le_of_ble_eq_true rfl, Nat.le_of_ble_eq_true rfl⟩ ⟨Nat.le_of_ble_eq_true rfl, Nat.le_of_ble_eq_true rfl⟩) (fun H locs ws_479 h u_480 p_481 => ?_)
                            refine lv_goto (tgt := 308) C0.1 C0.2.1 dX5_advance_244 (by decide) ?_
                            rw [hQ]
                            exact y_vret C0 h (Fr.tr (Fr.tr (Fr.tr (Fr.tr (Fr.tr (Fr.tr (Fr.tr (Fr.tr (Fr.up u_11.1 kSC_77 (by decide)) hF_13) (Fr.up u_338.1 kSC_77 (by decide))) (Fr.mono u_356 (by decide))) (Fr.mono u_368 (by decide))) (Fr.up u_438.1 kSC_77 (by decide))) (Fr.up u_442.1 kSC_77 (by decide))) hF_444) u_480) trivial dX5_advance_308
                        · -- 175
                          refine lv_aload_n C0.1 C0.2.1 dX5_advance_178 rfl (lv_at hl 0 rfl) ?_
                          refine lv_aload_n C0.1 C0.2.1 dX5_advance_179 rfl (lv_at hl 0 rfl) ?_
                          refine tg_X5_end C0 h kSC_77 q_376 dX5_advance_180 (fun v_482 e_483 e_484 e_485 => ?_)
                          have q_486 : v_482.toInt = f_449.toInt := congrArg Int32.toInt (e_483.symm.trans (Eq.trans rfl e_450))
                          refine y_ci h (y_rV (As := [.int v_482]) (rest := []) C0 hZ h (c_X5_isDigit l G Z ad _ h.2 v_482 (o22_45 b_451 b_452 hn_448 e_455 e_456 q_457 e_460 e_461 c_462 e_484 e_485 q_486) (o22_46 b_451 b_452 hn_448 e_455 e_456 q_457 e_460 e_461 c_462 e_484 e_485 q_486)) k_X5_isDigit q_624 q_2 q_622 kSC_77 rfl rfl rfl hl.1 rfl rfl (Nat.le_of_ble_eq_true rfl) dX5_advance_183 ⟨Nat.le_of_ble_eq_true rfl, Nat.le_of_ble_eq_true rfl⟩ ⟨Nat.le_of_ble_eq_true rfl, Nat.le_of_ble_eq_true rfl⟩) (fun r_490 H locs ws_487 h u_488 p_489 => ?_)
                          obtain ⟨e_491, e_492⟩ := p_489
                          refine y_if_eq (tgt := 226) C0 dX5_advance_186 (by decide) (fun c_493 => ?_) (fun c_493 => ?_)
                          · -- 186
                            refine lv_aload_n C0.1 C0.2.1 dX5_advance_226 rfl (lv_at hl 0 rfl) ?_
                            refine tg_X5_end C0 h kSC_77 q_376 dX5_advance_227 (fun v_494 e_495 e_496 e_497 => ?_)
                            have q_498 : v_494.toInt = f_449.toInt := congrArg Int32.toInt (e_495.symm.trans (Eq.trans (Fr.fI u_488 kSC_77 (by decide)) e_450))
                            refine lv_aload_n C0.1 C0.2.1 dX5_advance_230 rfl (lv_at hl 0 rfl) ?_
                            refine tg_X5_start C0 h kSC_77 q_375 dX5_advance_231 (fun v_499 e_500 e_501 e_502 => ?_)
                            refine y_sub C0 (o22_47 b_451 b_452 hn_448 e_455 e_456 q_457 e_460 e_461 c_462 e_484 e_485 q_486 e_496 e_497 q_498 e_501 e_502 (le_min v_494) (le_max v_494) (le_min v_499) (le_max v_499) (le_min f_449) (le_max f_449) (le_min v_453) (le_max v_453) (le_min v_458) (le_max v_458) (le_min v_482) (le_max v_482)) (o22_48 b_451 b_452 hn_448 e_455 e_456 q_457 e_460 e_461 c_462 e_484 e_485 q_486 e_496 e_497 q_498 e_501 e_502 (le_min v_494) (le_max v_494) (le_min v_499) (le_max v_499) (le_min f_449) (le_max f_449) (le_min v_453) (le_max v_453) (le_min v_458) (le_max v_458) (le_min v_482) (le_max v_482)) dX5_advance_234 (fun v_503 e_504 => ?_)
                            refine y_c1 (n := 3) C0 (by decide) dX5_advance_235 (fun v_505 e_506 => ?_)
                            refine y_icmp_le (tgt := 308) C0 dX5_advance_236 (by decide) (fun c_507 => ?_) (fun c_507 => ?_)
                            · -- 236
                              rw [hQ]
                              exact y_vret C0 h (Fr.tr (Fr.tr (Fr.tr (Fr.tr (Fr.tr (Fr.tr (Fr.tr (Fr.tr (Fr.up u_11.1 kSC_77 (by decide)) hF_13) (Fr.up u_338.1 kSC_77 (by decide))) (Fr.mono u_356 (by decide))) (Fr.mono u_368 (by decide))) (Fr.up u_438.1 kSC_77 (by decide))) (Fr.up u_442.1 kSC_77 (by decide))) hF_444) (Fr.mono u_488 (by decide))) trivial dX5_advance_308
                            · -- 236
                              refine lv_aload_n C0.1 C0.2.1 dX5_advance_239 rfl (lv_at hl 0 rfl) ?_
                              refine y_c1 (n := 1) C0 (by decide) dX5_advance_240 (fun v_508 e_509 => ?_)
                              refine y_cv h (y_rV (As := [.int v_508]) (rest := []) C0 hZ h (c_X5_fail l G Z ad _ h.2 v_508) k_X5_fail q_628 q_3 q_626 kSC_77 rfl rfl rfl hl.1 rfl rfl (Nat.le_of_ble_eq_true rfl) dX5_advance_241 ⟨Nat.le_of_ble_eq_true rfl, Nat.le_of_ble_eq_true rfl⟩ ⟨Nat.le_of_ble_eq_true rfl, Nat.le_of_ble_eq_true rfl⟩) (fun H locs ws_510 h u_511 p_512 => ?_)
                              refine lv_goto (tgt := 308) C0.1 C0.2.1 dX5_advance_244 (by decide) ?_
                              rw [hQ]
                              exact y_vret C0 h (Fr.tr (Fr.tr (Fr.tr (Fr.tr (Fr.tr (Fr.tr (Fr.tr (Fr.tr (Fr.tr (Fr.up u_11.1 kSC_77 (by decide)) hF_13) (Fr.up u_338.1 kSC_77 (by decide))) (Fr.mono u_356 (by decide))) (Fr.mono u_368 (by decide))) (Fr.up u_438.1 kSC_77 (by decide))) (Fr.up u_442.1 kSC_77 (by decide))) hF_444) (Fr.mono u_488 (by decide))) u_511) trivial dX5_advance_308
                          · -- 186
                            refine lv_aload_n C0.1 C0.2.1 dX5_advance_189 rfl (lv_at hl 0 rfl) ?_
                            refine lv_aload_n C0.1 C0.2.1 dX5_advance_190 rfl (lv_at hl 0 rfl) ?_
                            refine tg_X5_number C0 h kSC_77 q_377 dX5_advance_191 (fun v_513 e_514 e_515 e_516 => ?_)
                            refine y_c2 (n := 10) C0 (by decide) dX5_advance_194 (fun v_517 e_518 => ?_)
                            refine y_imulU C0 dX5_advance_196 (fun v_519 => ?_)
                            refine lv_aload_n C0.1 C0.2.1 dX5_advance_197 rfl (lv_at hl 0 rfl) ?_
                            refine tg_X5_tape C0 h kSC_77 q_371 dX5_advance_198 ?_
                            refine lv_aload_n C0.1 C0.2.1 dX5_advance_201 rfl (lv_at hl 0 rfl) ?_
                            refine tg_X5_end C0 h kSC_77 q_376 dX5_advance_202 (fun v_520 e_521 e_522 e_523 => ?_)
                            have q_524 : v_520.toInt = f_449.toInt := congrArg Int32.toInt (e_521.symm.trans (Eq.trans (Fr.fI u_488 kSC_77 (by decide)) e_450))
                            refine y_bald C0 h kSC_78 rfl (by decide) (o22_49 b_451 b_452 hn_448 e_455 e_456 q_457 e_460 e_461 c_462 e_484 e_485 q_486 e_522 e_523 q_524) (o22_50 b_451 b_452 hn_448 e_455 e_456 q_457 e_460 e_461 c_462 e_484 e_485 q_486 e_522 e_523 q_524) dX5_advance_205 (fun v_525 e_526 e_527 e_528 => ?_)
                            refine y_iaddU C0 dX5_advance_206 (fun v_529 => ?_)
                            refine y_c2 (n := 48) C0 (by decide) dX5_advance_207 (fun v_530 e_531 => ?_)
                            refine y_isubU C0 dX5_advance_209 (fun v_532 => ?_)
                            refine tp_X5_number C0 h kSC_77 q_377 (le_min v_532) (le_max v_532) dX5_advance_210 (fun H locs ws_533 h u_534 => ?_)
                            refine lv_aload_n C0.1 C0.2.1 dX5_advance_213 rfl (lv_at hl 0 rfl) ?_
                            refine lv_dup C0.1 C0.2.1 dX5_advance_214 rfl ?_
                            refine tg_X5_end C0 h kSC_77 q_376 dX5_advance_215 (fun v_535 e_536 e_537 e_538 => ?_)
                            have q_539 : v_535.toInt = f_449.toInt := congrArg Int32.toInt (e_536.symm.trans (Eq.trans (Eq.trans (u_534.2.2 6 (by decide)) (Fr.fI u_488 kSC_77 (by decide))) e_450))
                            refine y_c1 (n := 1) C0 (by decide) dX5_advance_218 (fun v_540 e_541 => ?_)
                            refine y_add C0 (o22_51 b_451 b_452 hn_448 e_455 e_456 q_457 e_460 e_461 c_462 e_484 e_485 q_486 e_522 e_523 q_524 e_537 e_538 q_539 e_541 (le_min v_535) (le_max v_535) (le_min v_540) (le_max v_540) (le_min f_449) (le_max f_449) (le_min v_453) (le_max v_453) (le_min v_458) (le_max v_458) (le_min v_482) (le_max v_482) (le_min v_520) (le_max v_520)) (o22_52 b_451 b_452 hn_448 e_455 e_456 q_457 e_460 e_461 c_462 e_484 e_485 q_486 e_522 e_523 q_524 e_537 e_538 q_539 e_541 (le_min v_535) (le_max v_535) (le_min v_540) (le_max v_540) (le_min f_449) (le_max f_449) (le_min v_453) (le_max v_453) (le_min v_458) (le_max v_458) (le_min v_482) (le_max v_482) (le_min v_520) (le_max v_520)) dX5_advance_219 (fun v_542 e_543 => ?_)
                            refine tp_X5_end C0 h kSC_77 q_376 (o22_53 b_451 b_452 hn_448 e_455 e_456 q_457 e_460 e_461 c_462 e_484 e_485 q_486 e_522 e_523 q_524 e_537 e_538 q_539 e_541 e_543) (o22_54 b_451 b_452 hn_448 e_455 e_456 q_457 e_460 e_461 c_462 e_484 e_485 q_486 e_522 e_523 q_524 e_537 e_538 q_539 e_541 e_543) dX5_advance_220 (fun H locs ws_544 h u_545 => ?_)
                            refine lv_goto (tgt := 167) C0.1 C0.2.1 dX5_advance_223 (by decide) ?_
                            exact ih_446 v_542 _ _ _ _ (o22_55 b_451 b_452 hn_448 e_455 e_456 q_457 e_460 e_461 c_462 e_484 e_485 q_486 e_522 e_523 q_524 e_537 e_538 q_539 e_541 e_543) (o22_53 b_451 b_452 hn_448 e_455 e_456 q_457 e_460 e_461 c_462 e_484 e_485 q_486 e_522 e_523 q_524 e_537 e_538 q_539 e_541 e_543) (o22_54 b_451 b_452 hn_448 e_455 e_456 q_457 e_460 e_461 c_462 e_484 e_485 q_486 e_522 e_523 q_524 e_537 e_538 q_539 e_541 e_543) (Eq.trans rfl u_545.2.1) h (Fr.tr (Fr.tr (Fr.tr hF_444 (Fr.mono u_488 (by decide))) (Fr.up u_534.1 kSC_77 (by decide))) (Fr.up u_545.1 kSC_77 (by decide))) (lv_sub hl [0] rfl)
                    exact lp_445 ((900 - v_332.toInt + 1).toNat) v_332 _ _ _ _ (o22_84 b_20 b_21 hn_17 e_24 e_25 q_26 e_29 e_30 c_31 e_299 e_300 q_301 e_322 e_323 q_324 e_334 e_335 q_336 e_341 e_342 q_343 e_346 e_347 q_348 c_349 e_352 e_353 q_354 e_364 e_365 q_366) (o22_85 b_20 b_21 hn_17 e_24 e_25 q_26 e_29 e_30 c_31 e_299 e_300 q_301 e_322 e_323 q_324 e_334 e_335 q_336 e_341 e_342 q_343 e_346 e_347 q_348 c_349 e_352 e_353 q_354 e_364 e_365 q_366) (o22_86 b_20 b_21 hn_17 e_24 e_25 q_26 e_29 e_30 c_31 e_299 e_300 q_301 e_322 e_323 q_324 e_334 e_335 q_336 e_341 e_342 q_343 e_346 e_347 q_348 c_349 e_352 e_353 q_354 e_364 e_365 q_366) (Eq.trans (Eq.trans (u_442.2.2 6 (by decide)) (Eq.trans (u_438.2.2 6 (by decide)) (Eq.trans (Fr.fI u_368 kSC_77 (by decide)) (Fr.fI u_356 kSC_77 (by decide))))) u_338.2.1) h Fr.rf (lv_sub hl [0] rfl)
                · -- 103
                  refine lv_aload_n C0.1 C0.2.1 dX5_advance_106 rfl (lv_at hl 0 rfl) ?_
                  refine y_c1 (n := 1) C0 (by decide) dX5_advance_107 (fun v_546 e_547 => ?_)
                  refine tp_X5_kind C0 h kSC_77 q_374 (le_min v_546) (le_max v_546) dX5_advance_108 (fun H locs ws_548 h u_549 => ?_)
                  have lp_552 : ∀ (n_554 : Nat) (f_556 : Int32) (H : Heap) (locs : List Loc) (ls : Array Slot) (ws_550 : va_W), 900 - f_556.toInt < (n_554 : Int) → 0 ≤ f_556.toInt → f_556.toInt ≤ 900 → fI ws_550 77 6 = f_556 → Wt G (SC tt) ad A s H locs ws_550 → Fr (SC tt) [16] ws_548 ws_550 → lv_has ls 1 [(0, .ref (ad 77))] → W p l e (rmd 5 0 0) s m args below meth c H locs 0 0 Q (F0 m 111 ls []) := by
                    intro n_554
                    induction n_554 with
                    | zero => intro f_556 H locs ls ws_550 hn_555 b_558 b_559 e_557 h hF_551 hl; exact ((o22_26 b_558 b_559 hn_555)).elim
                    | succ n_554 ih_553 =>
                      intro f_556 H locs ls ws_550 hn_555 b_558 b_559 e_557 h hF_551 hl
                      refine lv_aload_n C0.1 C0.2.1 dX5_advance_111 rfl (lv_at hl 0 rfl) ?_
                      refine tg_X5_end C0 h kSC_77 q_376 dX5_advance_112 (fun v_560 e_561 e_562 e_563 => ?_)
                      have q_564 : v_560.toInt = f_556.toInt := congrArg Int32.toInt (e_561.symm.trans (Eq.trans rfl e_557))
                      refine lv_aload_n C0.1 C0.2.1 dX5_advance_115 rfl (lv_at hl 0 rfl) ?_
                      refine tg_X5_length C0 h kSC_77 q_373 dX5_advance_116 (fun v_565 e_566 e_567 e_568 => ?_)
                      refine y_icmp_ge (tgt := 308) C0 dX5_advance_119 (by decide) (fun c_569 => ?_) (fun c_569 => ?_)
                      · -- 119
                        rw [hQ]
                        exact y_vret C0 h (Fr.tr (Fr.tr (Fr.tr (Fr.tr (Fr.tr (Fr.up u_11.1 kSC_77 (by decide)) hF_13) (Fr.up u_338.1 kSC_77 (by decide))) (Fr.mono u_356 (by decide))) (Fr.up u_549.1 kSC_77 (by decide))) hF_551) trivial dX5_advance_308
                      · -- 119
                        refine lv_aload_n C0.1 C0.2.1 dX5_advance_122 rfl (lv_at hl 0 rfl) ?_
                        refine lv_aload_n C0.1 C0.2.1 dX5_advance_123 rfl (lv_at hl 0 rfl) ?_
                        refine tg_X5_end C0 h kSC_77 q_376 dX5_advance_124 (fun v_570 e_571 e_572 e_573 => ?_)
                        have q_574 : v_570.toInt = f_556.toInt := congrArg Int32.toInt (e_571.symm.trans (Eq.trans rfl e_557))
                        refine y_ci h (y_rV (As := [.int v_570]) (rest := []) C0 hZ h (c_X5_isSmall l G Z ad _ h.2 v_570 (o22_45 b_558 b_559 hn_555 e_562 e_563 q_564 e_567 e_568 c_569 e_572 e_573 q_574) (o22_46 b_558 b_559 hn_555 e_562 e_563 q_564 e_567 e_568 c_569 e_572 e_573 q_574)) k_X5_isSmall q_620 q_1 q_618 kSC_77 rfl rfl rfl hl.1 rfl rfl (Nat.le_of_ble_eq_true rfl) dX5_advance_127 ⟨Nat.le_of_ble_eq_true rfl, Nat.le_of_ble_eq_true rfl⟩ ⟨Nat.le_of_ble_eq_true rfl, Nat.le_of_ble_eq_true rfl⟩) (fun r_578 H locs ws_575 h u_576 p_577 => ?_)
                        obtain ⟨e_579, e_580⟩ := p_577
                        refine y_if_eq (tgt := 308) C0 dX5_advance_130 (by decide) (fun c_581 => ?_) (fun c_581 => ?_)
                        · -- 130
                          rw [hQ]
                          exact y_vret C0 h (Fr.tr (Fr.tr (Fr.tr (Fr.tr (Fr.tr (Fr.tr (Fr.up u_11.1 kSC_77 (by decide)) hF_13) (Fr.up u_338.1 kSC_77 (by decide))) (Fr.mono u_356 (by decide))) (Fr.up u_549.1 kSC_77 (by decide))) hF_551) (Fr.mono u_576 (by decide))) trivial dX5_advance_308
                        · -- 130
                          refine lv_aload_n C0.1 C0.2.1 dX5_advance_133 rfl (lv_at hl 0 rfl) ?_
                          refine lv_dup C0.1 C0.2.1 dX5_advance_134 rfl ?_
                          refine tg_X5_end C0 h kSC_77 q_376 dX5_advance_135 (fun v_582 e_583 e_584 e_585 => ?_)
                          have q_586 : v_582.toInt = f_556.toInt := congrArg Int32.toInt (e_583.symm.trans (Eq.trans (Fr.fI u_576 kSC_77 (by decide)) e_557))
                          refine y_c1 (n := 1) C0 (by decide) dX5_advance_138 (fun v_587 e_588 => ?_)
                          refine y_add C0 (o22_59 b_558 b_559 hn_555 e_562 e_563 q_564 e_567 e_568 c_569 e_572 e_573 q_574 e_584 e_585 q_586 e_588 (le_min v_582) (le_max v_582) (le_min v_587) (le_max v_587) (le_min f_556) (le_max f_556) (le_min v_560) (le_max v_560) (le_min v_565) (le_max v_565) (le_min v_570) (le_max v_570)) (o22_60 b_558 b_559 hn_555 e_562 e_563 q_564 e_567 e_568 c_569 e_572 e_573 q_574 e_584 e_585 q_586 e_588 (le_min v_582) (le_max v_582) (le_min v_587) (le_max v_587) (le_min f_556) (le_max f_556) (le_min v_560) (le_max v_560) (le_min v_565) (le_max v_565) (le_min v_570) (le_max v_570)) dX5_advance_139 (fun v_589 e_590 => ?_)
                          refine tp_X5_end C0 h kSC_77 q_376 (o22_61 b_558 b_559 hn_555 e_562 e_563 q_564 e_567 e_568 c_569 e_572 e_573 q_574 e_584 e_585 q_586 e_588 e_590) (o22_62 b_558 b_559 hn_555 e_562 e_563 q_564 e_567 e_568 c_569 e_572 e_573 q_574 e_584 e_585 q_586 e_588 e_590) dX5_advance_140 (fun H locs ws_591 h u_592 => ?_)
                          refine lv_goto (tgt := 111) C0.1 C0.2.1 dX5_advance_143 (by decide) ?_
                          exact ih_553 v_589 _ _ _ _ (o22_63 b_558 b_559 hn_555 e_562 e_563 q_564 e_567 e_568 c_569 e_572 e_573 q_574 e_584 e_585 q_586 e_588 e_590) (o22_61 b_558 b_559 hn_555 e_562 e_563 q_564 e_567 e_568 c_569 e_572 e_573 q_574 e_584 e_585 q_586 e_588 e_590) (o22_62 b_558 b_559 hn_555 e_562 e_563 q_564 e_567 e_568 c_569 e_572 e_573 q_574 e_584 e_585 q_586 e_588 e_590) (Eq.trans rfl u_592.2.1) h (Fr.tr (Fr.tr hF_551 (Fr.mono u_576 (by decide))) (Fr.up u_592.1 kSC_77 (by decide))) (lv_sub hl [0] rfl)
                  exact lp_552 ((900 - v_332.toInt + 1).toNat) v_332 _ _ _ _ (o22_87 b_20 b_21 hn_17 e_24 e_25 q_26 e_29 e_30 c_31 e_299 e_300 q_301 e_322 e_323 q_324 e_334 e_335 q_336 e_341 e_342 q_343 e_346 e_347 q_348 c_349 e_352 e_353 q_354) (o22_88 b_20 b_21 hn_17 e_24 e_25 q_26 e_29 e_30 c_31 e_299 e_300 q_301 e_322 e_323 q_324 e_334 e_335 q_336 e_341 e_342 q_343 e_346 e_347 q_348 c_349 e_352 e_353 q_354) (o22_89 b_20 b_21 hn_17 e_24 e_25 q_26 e_29 e_30 c_31 e_299 e_300 q_301 e_322 e_323 q_324 e_334 e_335 q_336 e_341 e_342 q_343 e_346 e_347 q_348 c_349 e_352 e_353 q_354) (Eq.trans (Eq.trans (u_549.2.2 6 (by decide)) (Fr.fI u_356 kSC_77 (by decide))) u_338.2.1) h Fr.rf (lv_sub hl [0] rfl)
              · -- 84
                refine lv_aload_n C0.1 C0.2.1 dX5_advance_87 rfl (lv_at hl 0 rfl) ?_
                refine y_c1 (n := 0) C0 (by decide) dX5_advance_88 (fun v_593 e_594 => ?_)
                refine tp_X5_kind C0 h kSC_77 q_374 (le_min v_593) (le_max v_593) dX5_advance_89 (fun H locs ws_595 h u_596 => ?_)
                refine lv_goto (tgt := 308) C0.1 C0.2.1 dX5_advance_92 (by decide) ?_
                rw [hQ]
                exact y_vret C0 h (Fr.tr (Fr.tr (Fr.tr (Fr.up u_11.1 kSC_77 (by decide)) hF_13) (Fr.up u_338.1 kSC_77 (by decide))) (Fr.up u_596.1 kSC_77 (by decide))) trivial dX5_advance_308
            · -- 52
              refine lv_aload_n C0.1 C0.2.1 dX5_advance_55 rfl (lv_at hl 0 rfl) ?_
              refine lv_dup C0.1 C0.2.1 dX5_advance_56 rfl ?_
              refine tg_X5_start C0 h kSC_77 q_375 dX5_advance_57 (fun v_597 e_598 e_599 e_600 => ?_)
              have q_601 : v_597.toInt = f_18.toInt := congrArg Int32.toInt (e_598.symm.trans (Eq.trans rfl e_19))
              refine y_c1 (n := 1) C0 (by decide) dX5_advance_60 (fun v_602 e_603 => ?_)
              refine y_add C0 (o22_51 b_20 b_21 hn_17 e_24 e_25 q_26 e_29 e_30 c_31 e_299 e_300 q_301 e_322 e_323 q_324 e_599 e_600 q_601 e_603 (le_min v_597) (le_max v_597) (le_min v_602) (le_max v_602) (le_min f_18) (le_max f_18) (le_min v_22) (le_max v_22) (le_min v_27) (le_max v_27) (le_min v_297) (le_max v_297) (le_min v_320) (le_max v_320)) (o22_52 b_20 b_21 hn_17 e_24 e_25 q_26 e_29 e_30 c_31 e_299 e_300 q_301 e_322 e_323 q_324 e_599 e_600 q_601 e_603 (le_min v_597) (le_max v_597) (le_min v_602) (le_max v_602) (le_min f_18) (le_max f_18) (le_min v_22) (le_max v_22) (le_min v_27) (le_max v_27) (le_min v_297) (le_max v_297) (le_min v_320) (le_max v_320)) dX5_advance_61 (fun v_604 e_605 => ?_)
              refine tp_X5_start C0 h kSC_77 q_375 (o22_53 b_20 b_21 hn_17 e_24 e_25 q_26 e_29 e_30 c_31 e_299 e_300 q_301 e_322 e_323 q_324 e_599 e_600 q_601 e_603 e_605) (o22_54 b_20 b_21 hn_17 e_24 e_25 q_26 e_29 e_30 c_31 e_299 e_300 q_301 e_322 e_323 q_324 e_599 e_600 q_601 e_603 e_605) dX5_advance_62 (fun H locs ws_606 h u_607 => ?_)
              refine lv_goto (tgt := 16) C0.1 C0.2.1 dX5_advance_65 (by decide) ?_
              exact ih_15 v_604 _ _ _ _ (o22_55 b_20 b_21 hn_17 e_24 e_25 q_26 e_29 e_30 c_31 e_299 e_300 q_301 e_322 e_323 q_324 e_599 e_600 q_601 e_603 e_605) (o22_53 b_20 b_21 hn_17 e_24 e_25 q_26 e_29 e_30 c_31 e_299 e_300 q_301 e_322 e_323 q_324 e_599 e_600 q_601 e_603 e_605) (o22_54 b_20 b_21 hn_17 e_24 e_25 q_26 e_29 e_30 c_31 e_299 e_300 q_301 e_322 e_323 q_324 e_599 e_600 q_601 e_603 e_605) (Eq.trans rfl u_607.2.1) h (Fr.tr hF_13 (Fr.up u_607.1 kSC_77 (by decide))) (lv_sub hl [0] rfl)
    exact lp_14 ((900 - v_6.toInt + 1).toNat) v_6 _ _ _ _ (o22_90 e_8 e_9) (o22_7 e_8 e_9) (o22_8 e_8 e_9) (Eq.trans rfl u_11.2.1) h Fr.rf (lv_sub hl [0] rfl)
  · -- 4
    rw [hQ]
    exact y_vret C0 h Fr.rf trivial dX5_advance_7
set_option maxHeartbeats 4000000 in
set_option maxRecDepth 100000 in
theorem c_X5_isWord (l : Launch) (G : GG) (Z : RZ) (ad : Nat → Nat) (ws0 : va_W) (hT : Ty G (SC tt) ad ws0) (k1 : Nat) (hsk1 : k1 < 23) : Mq l yX5_isWord cX5_isWord 3 (some .boolean) 5 G Z [.ref (ad 77), .ref (Z.2.1 k1)] ws0 (PI G (SC tt) ad [] ws0 (fun r u => (0 ≤ r.toInt) ∧ (r.toInt ≤ 1))) := by
  refine Mq.start (by decide) (Nat.le_of_ble_eq_true rfl) ?_
  intro p e s m below meth c A ls C0 hZ h hl
  have hl : lv_has ls 3 [(0, .ref (ad 77)), (1, .ref (Z.2.1 k1))] := hl
  have h : Wt G (SC tt) ad A s s.heap [] ws0 := ⟨h, hT⟩
  obtain ⟨args, hargs⟩ : ∃ z, z = ([.ref (ad 77), .ref (Z.2.1 k1)] : List Value).toArray := ⟨_, rfl⟩
  rw [← hargs] at C0 ⊢
  have C0 : Cx p s m args meth c RX5 cX5_isWord 3 (some .boolean) := C0
  obtain ⟨Q, hQ⟩ : ∃ z, z = MQ below ((PI G (SC tt) ad [] ws0 (fun r u => (0 ≤ r.toInt) ∧ (r.toInt ≤ 1))) A) args s 0 0 A := ⟨_, rfl⟩
  rw [← hQ]
  refine lv_aload_n C0.1 C0.2.1 dX5_isWord_0 rfl (lv_at hl 0 rfl) ?_
  refine tg_X5_kind C0 h kSC_77 q_374 dX5_isWord_1 (fun v_1 e_2 e_3 e_4 => ?_)
  refine y_c1 (n := 1) C0 (by decide) dX5_isWord_4 (fun v_5 e_6 => ?_)
  refine y_icmp_ne (tgt := 24) C0 dX5_isWord_5 (by decide) (fun c_7 => ?_) (fun c_7 => ?_)
  · -- 5
    refine y_c1 (n := 0) C0 (by decide) dX5_isWord_24 (fun v_8 e_9 => ?_)
    rw [hQ]
    exact y_zret C0 h (o22_3 e_9) (o22_4 e_9) Fr.rf ⟨(o22_3 e_9), (o22_4 e_9)⟩ dX5_isWord_25
  · -- 5
    refine lv_aload_n C0.1 C0.2.1 dX5_isWord_8 rfl (lv_at hl 0 rfl) ?_
    refine tg_X5_end C0 h kSC_77 q_376 dX5_isWord_9 (fun v_10 e_11 e_12 e_13 => ?_)
    refine lv_aload_n C0.1 C0.2.1 dX5_isWord_12 rfl (lv_at hl 0 rfl) ?_
    refine tg_X5_start C0 h kSC_77 q_375 dX5_isWord_13 (fun v_14 e_15 e_16 e_17 => ?_)
    refine y_sub C0 (o22_91 e_12 e_13 e_16 e_17 (le_min v_10) (le_max v_10) (le_min v_14) (le_max v_14)) (o22_92 e_12 e_13 e_16 e_17 (le_min v_10) (le_max v_10) (le_min v_14) (le_max v_14)) dX5_isWord_16 (fun v_18 e_19 => ?_)
    refine lv_aload_n C0.1 C0.2.1 dX5_isWord_17 rfl (lv_at hl 1 rfl) ?_
    refine y_ci h (y_rT (As := []) (rest := [.int v_18]) C0 hZ h (c_J0_length_8abf5 l G Z ad _ h.2 k1 hsk1) k_J0_length_8abf5 q_646 q_647 q_726 hsk1 rfl hl.1 rfl rfl (Nat.le_of_ble_eq_true rfl) dX5_isWord_18 ⟨Nat.le_of_ble_eq_true rfl, Nat.le_of_ble_eq_true rfl⟩ ⟨Nat.le_of_ble_eq_true rfl, Nat.le_of_ble_eq_true rfl⟩) (fun r_23 H locs ws_20 h u_21 p_22 => ?_)
    obtain ⟨e_24, e_25, e_26⟩ := p_22
    refine y_icmp_eq (tgt := 26) C0 dX5_isWord_21 (by decide) (fun c_27 => ?_) (fun c_27 => ?_)
    · -- 21
      refine y_c1 (n := 0) C0 (by decide) dX5_isWord_26 (fun v_28 e_29 => ?_)
      refine lv_istore_n (lv' := [(2, .int v_28), (0, .ref (ad 77)), (1, .ref (Z.2.1 k1))]) C0.1 C0.2.1 dX5_isWord_27 rfl hl (by decide) rfl (fun ls hl => ?_)
      have lp_33 : ∀ (n_35 : Nat) (x2_30 : Int32) (H : Heap) (locs : List Loc) (ls : Array Slot) (ws_31 : va_W), 102 - x2_30.toInt < (n_35 : Int) → 0 ≤ x2_30.toInt → x2_30.toInt ≤ 102 → Wt G (SC tt) ad A s H locs ws_31 → Fr (SC tt) [] ws_20 ws_31 → lv_has ls 3 [(2, .int x2_30), (0, .ref (ad 77)), (1, .ref (Z.2.1 k1))] → W p l e (rmd 5 0 0) s m args below meth c H locs 0 0 Q (F0 m 28 ls []) := by
        intro n_35
        induction n_35 with
        | zero => intro x2_30 H locs ls ws_31 hn_36 b_37 b_38 h hF_32 hl; exact ((o22_93 b_37 b_38 hn_36)).elim
        | succ n_35 ih_34 =>
          intro x2_30 H locs ls ws_31 hn_36 b_37 b_38 h hF_32 hl
          refine lv_iload_n C0.1 C0.2.1 dX5_isWord_28 rfl (lv_at hl 0 rfl) ?_
          refine lv_aload_n C0.1 C0.2.1 dX5_isWord_29 rfl (lv_at hl 2 rfl) ?_
          refine y_ci h (y_rT (As := []) (rest := [.int x2_30]) C0 hZ h (c_J0_length_8abf5 l G Z ad _ h.2 k1 hsk1) k_J0_length_8abf5 q_646 q_647 q_726 hsk1 rfl hl.1 rfl rfl (Nat.le_of_ble_eq_true rfl) dX5_isWord_30 ⟨Nat.le_of_ble_eq_true rfl, Nat.le_of_ble_eq_true rfl⟩ ⟨Nat.le_of_ble_eq_true rfl, Nat.le_of_ble_eq_true rfl⟩) (fun r_42 H locs ws_39 h u_40 p_41 => ?_)
          obtain ⟨e_43, e_44, e_45⟩ := p_41
          refine y_icmp_ge (tgt := 63) C0 dX5_isWord_33 (by decide) (fun c_46 => ?_) (fun c_46 => ?_)
          · -- 33
            refine y_c1 (n := 1) C0 (by decide) dX5_isWord_63 (fun v_47 e_48 => ?_)
            rw [hQ]
            exact y_zret C0 h (o22_5 e_48) (o22_6 e_48) (Fr.tr (Fr.tr u_21 hF_32) u_40) ⟨(o22_5 e_48), (o22_6 e_48)⟩ dX5_isWord_64
          · -- 33
            refine lv_aload_n C0.1 C0.2.1 dX5_isWord_36 rfl (lv_at hl 1 rfl) ?_
            refine tg_X5_tape C0 h kSC_77 q_371 dX5_isWord_37 ?_
            refine lv_aload_n C0.1 C0.2.1 dX5_isWord_40 rfl (lv_at hl 1 rfl) ?_
            refine tg_X5_start C0 h kSC_77 q_375 dX5_isWord_41 (fun v_49 e_50 e_51 e_52 => ?_)
            have q_53 : v_49.toInt = v_14.toInt := congrArg Int32.toInt (e_50.symm.trans (Eq.trans (Eq.trans (Fr.fI u_40 kSC_77 (by decide)) (Eq.trans (Fr.fI hF_32 kSC_77 (by decide)) (Fr.fI u_21 kSC_77 (by decide)))) e_15))
            refine lv_iload_n C0.1 C0.2.1 dX5_isWord_44 rfl (lv_at hl 0 rfl) ?_
            refine y_add C0 (o22_94 (strLen_le k1) e_12 e_13 e_16 e_17 e_19 e_24 e_25 e_26 c_27 b_37 b_38 hn_36 e_43 e_44 e_45 c_46 e_51 e_52 q_53 (le_min v_49) (le_max v_49) (le_min x2_30) (le_max x2_30) (le_min v_10) (le_max v_10) (le_min v_14) (le_max v_14) (le_min v_18) (le_max v_18) (le_min r_23) (le_max r_23) (le_min r_42) (le_max r_42)) (o22_95 (strLen_le k1) e_12 e_13 e_16 e_17 e_19 e_24 e_25 e_26 c_27 b_37 b_38 hn_36 e_43 e_44 e_45 c_46 e_51 e_52 q_53 (le_min v_49) (le_max v_49) (le_min x2_30) (le_max x2_30) (le_min v_10) (le_max v_10) (le_min v_14) (le_max v_14) (le_min v_18) (le_max v_18) (le_min r_23) (le_max r_23) (le_min r_42) (le_max r_42)) dX5_isWord_45 (fun v_54 e_55 => ?_)
            refine y_bald C0 h kSC_78 rfl (by decide) (o22_96 (strLen_le k1) e_12 e_13 e_16 e_17 e_19 e_24 e_25 e_26 c_27 b_37 b_38 hn_36 e_43 e_44 e_45 c_46 e_51 e_52 q_53 e_55) (o22_97 (strLen_le k1) e_12 e_13 e_16 e_17 e_19 e_24 e_25 e_26 c_27 b_37 b_38 hn_36 e_43 e_44 e_45 c_46 e_51 e_52 q_53 e_55) dX5_isWord_46 (fun v_56 e_57 e_58 e_59 => ?_)
            refine lv_aload_n C0.1 C0.2.1 dX5_isWord_47 rfl (lv_at hl 2 rfl) ?_
            refine lv_iload_n C0.1 C0.2.1 dX5_isWord_48 rfl (lv_at hl 0 rfl) ?_
            refine y_ci h (y_rT (As := [.int x2_30]) (rest := [.int v_56]) C0 hZ h (c_J0_charAt_5068e l G Z ad _ h.2 k1 hsk1 x2_30 (o22_98 (strLen_le k1) e_12 e_13 e_16 e_17 e_19 e_24 e_25 e_26 c_27 b_37 b_38 hn_36 e_43 e_44 e_45 c_46 e_51 e_52 q_53 e_55) (o22_99 (strLen_le k1) e_12 e_13 e_16 e_17 e_19 e_24 e_25 e_26 c_27 b_37 b_38 hn_36 e_43 e_44 e_45 c_46 e_51 e_52 q_53 e_55)) k_J0_charAt_5068e q_728 q_729 q_727 hsk1 rfl hl.1 rfl rfl (Nat.le_of_ble_eq_true rfl) dX5_isWord_49 ⟨Nat.le_of_ble_eq_true rfl, Nat.le_of_ble_eq_true rfl⟩ ⟨Nat.le_of_ble_eq_true rfl, Nat.le_of_ble_eq_true rfl⟩) (fun r_63 H locs ws_60 h u_61 p_62 => ?_)
            obtain ⟨e_64, e_65⟩ := p_62
            refine y_icmp_eq (tgt := 57) C0 dX5_isWord_52 (by decide) (fun c_66 => ?_) (fun c_66 => ?_)
            · -- 52
              refine y_inc (kp := 0) (n := 1) (fun v_67 => [(2, .int v_67), (0, .ref (ad 77)), (1, .ref (Z.2.1 k1))]) C0 hl rfl (by decide) (by decide) (fun _ => rfl) (o22_100 (strLen_le k1) e_12 e_13 e_16 e_17 e_19 e_24 e_25 e_26 c_27 b_37 b_38 hn_36 e_43 e_44 e_45 c_46 e_51 e_52 q_53 e_55 (le_min x2_30) (le_max x2_30) (le_min v_10) (le_max v_10) (le_min v_14) (le_max v_14) (le_min v_18) (le_max v_18) (le_min r_23) (le_max r_23) (le_min r_42) (le_max r_42) (le_min v_49) (le_max v_49) (le_min v_54) (le_max v_54)) (o22_101 (strLen_le k1) e_12 e_13 e_16 e_17 e_19 e_24 e_25 e_26 c_27 b_37 b_38 hn_36 e_43 e_44 e_45 c_46 e_51 e_52 q_53 e_55 (le_min x2_30) (le_max x2_30) (le_min v_10) (le_max v_10) (le_min v_14) (le_max v_14) (le_min v_18) (le_max v_18) (le_min r_23) (le_max r_23) (le_min r_42) (le_max r_42) (le_min v_49) (le_max v_49) (le_min v_54) (le_max v_54)) dX5_isWord_57 (fun v_67 ls e_68 hl => ?_)
              refine lv_goto (tgt := 28) C0.1 C0.2.1 dX5_isWord_60 (by decide) ?_
              exact ih_34 v_67 _ _ _ _ (o22_102 (strLen_le k1) e_12 e_13 e_16 e_17 e_19 e_24 e_25 e_26 c_27 b_37 b_38 hn_36 e_43 e_44 e_45 c_46 e_51 e_52 q_53 e_55 e_68) (o22_103 (strLen_le k1) e_12 e_13 e_16 e_17 e_19 e_24 e_25 e_26 c_27 b_37 b_38 hn_36 e_43 e_44 e_45 c_46 e_51 e_52 q_53 e_55 e_68) (o22_104 (strLen_le k1) e_12 e_13 e_16 e_17 e_19 e_24 e_25 e_26 c_27 b_37 b_38 hn_36 e_43 e_44 e_45 c_46 e_51 e_52 q_53 e_55 e_68) h (Fr.tr (Fr.tr hF_32 u_40) u_61) (lv_sub hl [0, 1, 2] rfl)
            · -- 52
              refine y_c1 (n := 0) C0 (by decide) dX5_isWord_55 (fun v_69 e_70 => ?_)
              rw [hQ]
              exact y_zret C0 h (o22_3 e_70) (o22_4 e_70) (Fr.tr (Fr.tr (Fr.tr u_21 hF_32) u_40) u_61) ⟨(o22_3 e_70), (o22_4 e_70)⟩ dX5_isWord_56
      exact lp_33 ((102 - v_28.toInt + 1).toNat) v_28 _ _ _ _ (o22_105 e_29) (o22_3 e_29) (o22_106 e_29) h Fr.rf (lv_sub hl [0, 1, 2] rfl)
    · -- 21
      refine y_c1 (n := 0) C0 (by decide) dX5_isWord_24 (fun v_71 e_72 => ?_)
      rw [hQ]
      exact y_zret C0 h (o22_3 e_72) (o22_4 e_72) u_21 ⟨(o22_3 e_72), (o22_4 e_72)⟩ dX5_isWord_25
set_option maxHeartbeats 4000000 in
set_option maxRecDepth 100000 in
theorem c_X5_sign (l : Launch) (G : GG) (Z : RZ) (ad : Nat → Nat) (ws0 : va_W) (hT : Ty G (SC tt) ad ws0) (a1 : Int32) (l1 : 0 ≤ a1.toInt) (u1 : a1.toInt ≤ 65535) : Mq l yX5_sign cX5_sign 2 none 6 G Z [.ref (ad 77), .int a1] ws0 (PV G (SC tt) ad [16] ws0 (fun u => True)) := by
  refine Mq.start (by decide) (Nat.le_of_ble_eq_true rfl) ?_
  intro p e s m below meth c A ls C0 hZ h hl
  have hl : lv_has ls 2 [(0, .ref (ad 77)), (1, .int a1)] := hl
  have h : Wt G (SC tt) ad A s s.heap [] ws0 := ⟨h, hT⟩
  obtain ⟨args, hargs⟩ : ∃ z, z = ([.ref (ad 77), .int a1] : List Value).toArray := ⟨_, rfl⟩
  rw [← hargs] at C0 ⊢
  have C0 : Cx p s m args meth c RX5 cX5_sign 2 none := C0
  obtain ⟨Q, hQ⟩ : ∃ z, z = MQ below ((PV G (SC tt) ad [16] ws0 (fun u => True)) A) args s 0 0 A := ⟨_, rfl⟩
  rw [← hQ]
  refine lv_aload_n C0.1 C0.2.1 dX5_sign_0 rfl (lv_at hl 0 rfl) ?_
  refine tg_X5_kind C0 h kSC_77 q_374 dX5_sign_1 (fun v_1 e_2 e_3 e_4 => ?_)
  refine lv_iload_n C0.1 C0.2.1 dX5_sign_4 rfl (lv_at hl 1 rfl) ?_
  refine y_icmp_ne (tgt := 15) C0 dX5_sign_5 (by decide) (fun c_5 => ?_) (fun c_5 => ?_)
  · -- 5
    refine lv_aload_n C0.1 C0.2.1 dX5_sign_15 rfl (lv_at hl 0 rfl) ?_
    refine y_c1 (n := 2) C0 (by decide) dX5_sign_16 (fun v_6 e_7 => ?_)
    refine y_cv h (y_rV (As := [.int v_6]) (rest := []) C0 hZ h (c_X5_fail l G Z ad _ h.2 v_6) k_X5_fail q_628 q_3 q_626 kSC_77 rfl rfl rfl hl.1 rfl rfl (Nat.le_of_ble_eq_true rfl) dX5_sign_17 ⟨Nat.le_of_ble_eq_true rfl, Nat.le_of_ble_eq_true rfl⟩ ⟨Nat.le_of_ble_eq_true rfl, Nat.le_of_ble_eq_true rfl⟩) (fun H locs ws_8 h u_9 p_10 => ?_)
    rw [hQ]
    exact y_vret C0 h u_9 trivial dX5_sign_20
  · -- 5
    refine lv_aload_n C0.1 C0.2.1 dX5_sign_8 rfl (lv_at hl 0 rfl) ?_
    refine y_cv h (y_rV (As := []) (rest := []) C0 hZ h (c_X5_advance l G Z ad _ h.2) k_X5_advance q_616 q_0 q_614 kSC_77 rfl rfl rfl hl.1 rfl rfl (Nat.le_of_ble_eq_true rfl) dX5_sign_9 ⟨Nat.le_of_ble_eq_true rfl, Nat.le_of_ble_eq_true rfl⟩ ⟨Nat.le_of_ble_eq_true rfl, Nat.le_of_ble_eq_true rfl⟩) (fun H locs ws_11 h u_12 p_13 => ?_)
    refine lv_goto (tgt := 20) C0.1 C0.2.1 dX5_sign_12 (by decide) ?_
    rw [hQ]
    exact y_vret C0 h u_12 trivial dX5_sign_20
set_option maxHeartbeats 4000000 in
set_option maxRecDepth 100000 in
theorem c_X5_boundeda (l : Launch) (G : GG) (Z : RZ) (ad : Nat → Nat) (ws0 : va_W) (hT : Ty G (SC tt) ad ws0) (a1 : Int32) (a2 : Int32) (l1 : 2 ≤ a1.toInt) (u1 : a1.toInt ≤ 2) (l2 : 5 ≤ a2.toInt) (u2 : a2.toInt ≤ 5) : Mq l yX5_bounded cX5_bounded 4 (some .int) 6 G Z [.ref (ad 77), .int a1, .int a2] ws0 (PI G (SC tt) ad [16] ws0 (fun r u => (2 ≤ r.toInt) ∧ (r.toInt ≤ 5))) := by
  refine Mq.start (by decide) (Nat.le_of_ble_eq_true rfl) ?_
  intro p e s m below meth c A ls C0 hZ h hl
  have hl : lv_has ls 4 [(0, .ref (ad 77)), (1, .int a1), (2, .int a2)] := hl
  have h : Wt G (SC tt) ad A s s.heap [] ws0 := ⟨h, hT⟩
  obtain ⟨args, hargs⟩ : ∃ z, z = ([.ref (ad 77), .int a1, .int a2] : List Value).toArray := ⟨_, rfl⟩
  rw [← hargs] at C0 ⊢
  have C0 : Cx p s m args meth c RX5 cX5_bounded 4 (some .int) := C0
  obtain ⟨Q, hQ⟩ : ∃ z, z = MQ below ((PI G (SC tt) ad [16] ws0 (fun r u => (2 ≤ r.toInt) ∧ (r.toInt ≤ 5))) A) args s 0 0 A := ⟨_, rfl⟩
  rw [← hQ]
  refine lv_aload_n C0.1 C0.2.1 dX5_bounded_0 rfl (lv_at hl 0 rfl) ?_
  refine tg_X5_kind C0 h kSC_77 q_374 dX5_bounded_1 (fun v_1 e_2 e_3 e_4 => ?_)
  refine y_c1 (n := 2) C0 (by decide) dX5_bounded_4 (fun v_5 e_6 => ?_)
  refine y_icmp_eq (tgt := 15) C0 dX5_bounded_5 (by decide) (fun c_7 => ?_) (fun c_7 => ?_)
  · -- 5
    refine lv_aload_n C0.1 C0.2.1 dX5_bounded_15 rfl (lv_at hl 0 rfl) ?_
    refine tg_X5_number C0 h kSC_77 q_377 dX5_bounded_16 (fun v_8 e_9 e_10 e_11 => ?_)
    refine lv_iload_n C0.1 C0.2.1 dX5_bounded_19 rfl (lv_at hl 1 rfl) ?_
    refine y_icmp_lt (tgt := 31) C0 dX5_bounded_20 (by decide) (fun c_12 => ?_) (fun c_12 => ?_)
    · -- 20
      refine lv_aload_n C0.1 C0.2.1 dX5_bounded_31 rfl (lv_at hl 0 rfl) ?_
      refine y_c1 (n := 3) C0 (by decide) dX5_bounded_32 (fun v_13 e_14 => ?_)
      refine y_cv h (y_rV (As := [.int v_13]) (rest := []) C0 hZ h (c_X5_fail l G Z ad _ h.2 v_13) k_X5_fail q_628 q_3 q_626 kSC_77 rfl rfl rfl hl.1 rfl rfl (Nat.le_of_ble_eq_true rfl) dX5_bounded_33 ⟨Nat.le_of_ble_eq_true rfl, Nat.le_of_ble_eq_true rfl⟩ ⟨Nat.le_of_ble_eq_true rfl, Nat.le_of_ble_eq_true rfl⟩) (fun H locs ws_15 h u_16 p_17 => ?_)
      refine lv_iload_n C0.1 C0.2.1 dX5_bounded_36 rfl (lv_at hl 1 rfl) ?_
      rw [hQ]
      exact y_iret C0 h u_16 ⟨(o22_107 l1 u1 c_12), (o22_108 l1 u1 c_12)⟩ dX5_bounded_37
    · -- 20
      refine lv_aload_n C0.1 C0.2.1 dX5_bounded_23 rfl (lv_at hl 0 rfl) ?_
      refine tg_X5_number C0 h kSC_77 q_377 dX5_bounded_24 (fun v_18 e_19 e_20 e_21 => ?_)
      have q_22 : v_18.toInt = v_8.toInt := congrArg Int32.toInt (e_19.symm.trans (Eq.trans rfl e_9))
      refine lv_iload_n C0.1 C0.2.1 dX5_bounded_27 rfl (lv_at hl 2 rfl) ?_
      refine y_icmp_le (tgt := 38) C0 dX5_bounded_28 (by decide) (fun c_23 => ?_) (fun c_23 => ?_)
      · -- 28
        refine lv_aload_n C0.1 C0.2.1 dX5_bounded_38 rfl (lv_at hl 0 rfl) ?_
        refine tg_X5_number C0 h kSC_77 q_377 dX5_bounded_39 (fun v_24 e_25 e_26 e_27 => ?_)
        have q_28 : v_24.toInt = v_8.toInt := congrArg Int32.toInt (e_25.symm.trans (Eq.trans rfl e_9))
        refine lv_istore_n (lv' := [(3, .int v_24), (0, .ref (ad 77)), (1, .int a1), (2, .int a2)]) C0.1 C0.2.1 dX5_bounded_42 rfl hl (by decide) rfl (fun ls hl => ?_)
        refine lv_aload_n C0.1 C0.2.1 dX5_bounded_43 rfl (lv_at hl 1 rfl) ?_
        refine y_cv h (y_rV (As := []) (rest := []) C0 hZ h (c_X5_advance l G Z ad _ h.2) k_X5_advance q_616 q_0 q_614 kSC_77 rfl rfl rfl hl.1 rfl rfl (Nat.le_of_ble_eq_true rfl) dX5_bounded_44 ⟨Nat.le_of_ble_eq_true rfl, Nat.le_of_ble_eq_true rfl⟩ ⟨Nat.le_of_ble_eq_true rfl, Nat.le_of_ble_eq_true rfl⟩) (fun H locs ws_29 h u_30 p_31 => ?_)
        refine lv_iload_n C0.1 C0.2.1 dX5_bounded_47 rfl (lv_at hl 0 rfl) ?_
        rw [hQ]
        exact y_iret C0 h u_30 ⟨(o22_109 l1 u1 l2 u2 c_12 q_22 c_23 q_28), (o22_110 l1 u1 l2 u2 c_12 q_22 c_23 q_28)⟩ dX5_bounded_48
      · -- 28
        refine lv_aload_n C0.1 C0.2.1 dX5_bounded_31 rfl (lv_at hl 0 rfl) ?_
        refine y_c1 (n := 3) C0 (by decide) dX5_bounded_32 (fun v_32 e_33 => ?_)
        refine y_cv h (y_rV (As := [.int v_32]) (rest := []) C0 hZ h (c_X5_fail l G Z ad _ h.2 v_32) k_X5_fail q_628 q_3 q_626 kSC_77 rfl rfl rfl hl.1 rfl rfl (Nat.le_of_ble_eq_true rfl) dX5_bounded_33 ⟨Nat.le_of_ble_eq_true rfl, Nat.le_of_ble_eq_true rfl⟩ ⟨Nat.le_of_ble_eq_true rfl, Nat.le_of_ble_eq_true rfl⟩) (fun H locs ws_34 h u_35 p_36 => ?_)
        refine lv_iload_n C0.1 C0.2.1 dX5_bounded_36 rfl (lv_at hl 1 rfl) ?_
        rw [hQ]
        exact y_iret C0 h u_35 ⟨(o22_111 l1 u1 l2 u2 c_12 q_22 c_23), (o22_112 l1 u1 l2 u2 c_12 q_22 c_23)⟩ dX5_bounded_37
  · -- 5
    refine lv_aload_n C0.1 C0.2.1 dX5_bounded_8 rfl (lv_at hl 0 rfl) ?_
    refine y_c1 (n := 2) C0 (by decide) dX5_bounded_9 (fun v_37 e_38 => ?_)
    refine y_cv h (y_rV (As := [.int v_37]) (rest := []) C0 hZ h (c_X5_fail l G Z ad _ h.2 v_37) k_X5_fail q_628 q_3 q_626 kSC_77 rfl rfl rfl hl.1 rfl rfl (Nat.le_of_ble_eq_true rfl) dX5_bounded_10 ⟨Nat.le_of_ble_eq_true rfl, Nat.le_of_ble_eq_true rfl⟩ ⟨Nat.le_of_ble_eq_true rfl, Nat.le_of_ble_eq_true rfl⟩) (fun H locs ws_39 h u_40 p_41 => ?_)
    refine lv_iload_n C0.1 C0.2.1 dX5_bounded_13 rfl (lv_at hl 1 rfl) ?_
    rw [hQ]
    exact y_iret C0 h u_40 ⟨(o22_113 l1 u1), (o22_114 l1 u1)⟩ dX5_bounded_14
set_option maxHeartbeats 4000000 in
set_option maxRecDepth 100000 in
theorem c_X5_boundedc (l : Launch) (G : GG) (Z : RZ) (ad : Nat → Nat) (ws0 : va_W) (hT : Ty G (SC tt) ad ws0) (a1 : Int32) (a2 : Int32) (l1 : 0 ≤ a1.toInt) (u1 : a1.toInt ≤ 0) (l2 : 3 ≤ a2.toInt) (u2 : a2.toInt ≤ 3) : Mq l yX5_bounded cX5_bounded 4 (some .int) 6 G Z [.ref (ad 77), .int a1, .int a2] ws0 (PI G (SC tt) ad [16] ws0 (fun r u => (0 ≤ r.toInt) ∧ (r.toInt ≤ 3))) := by
  refine Mq.start (by decide) (Nat.le_of_ble_eq_true rfl) ?_
  intro p e s m below meth c A ls C0 hZ h hl
  have hl : lv_has ls 4 [(0, .ref (ad 77)), (1, .int a1), (2, .int a2)] := hl
  have h : Wt G (SC tt) ad A s s.heap [] ws0 := ⟨h, hT⟩
  obtain ⟨args, hargs⟩ : ∃ z, z = ([.ref (ad 77), .int a1, .int a2] : List Value).toArray := ⟨_, rfl⟩
  rw [← hargs] at C0 ⊢
  have C0 : Cx p s m args meth c RX5 cX5_bounded 4 (some .int) := C0
  obtain ⟨Q, hQ⟩ : ∃ z, z = MQ below ((PI G (SC tt) ad [16] ws0 (fun r u => (0 ≤ r.toInt) ∧ (r.toInt ≤ 3))) A) args s 0 0 A := ⟨_, rfl⟩
  rw [← hQ]
  refine lv_aload_n C0.1 C0.2.1 dX5_bounded_0 rfl (lv_at hl 0 rfl) ?_
  refine tg_X5_kind C0 h kSC_77 q_374 dX5_bounded_1 (fun v_1 e_2 e_3 e_4 => ?_)
  refine y_c1 (n := 2) C0 (by decide) dX5_bounded_4 (fun v_5 e_6 => ?_)
  refine y_icmp_eq (tgt := 15) C0 dX5_bounded_5 (by decide) (fun c_7 => ?_) (fun c_7 => ?_)
  · -- 5
    refine lv_aload_n C0.1 C0.2.1 dX5_bounded_15 rfl (lv_at hl 0 rfl) ?_
    refine tg_X5_number C0 h kSC_77 q_377 dX5_bounded_16 (fun v_8 e_9 e_10 e_11 => ?_)
    refine lv_iload_n C0.1 C0.2.1 dX5_bounded_19 rfl (lv_at hl 1 rfl) ?_
    refine y_icmp_lt (tgt := 31) C0 dX5_bounded_20 (by decide) (fun c_12 => ?_) (fun c_12 => ?_)
    · -- 20
      refine lv_aload_n C0.1 C0.2.1 dX5_bounded_31 rfl (lv_at hl 0 rfl) ?_
      refine y_c1 (n := 3) C0 (by decide) dX5_bounded_32 (fun v_13 e_14 => ?_)
      refine y_cv h (y_rV (As := [.int v_13]) (rest := []) C0 hZ h (c_X5_fail l G Z ad _ h.2 v_13) k_X5_fail q_628 q_3 q_626 kSC_77 rfl rfl rfl hl.1 rfl rfl (Nat.le_of_ble_eq_true rfl) dX5_bounded_33 ⟨Nat.le_of_ble_eq_true rfl, Nat.le_of_ble_eq_true rfl⟩ ⟨Nat.le_of_ble_eq_true rfl, Nat.le_of_ble_eq_true rfl⟩) (fun H locs ws_15 h u_16 p_17 => ?_)
      refine lv_iload_n C0.1 C0.2.1 dX5_bounded_36 rfl (lv_at hl 1 rfl) ?_
      rw [hQ]
      exact y_iret C0 h u_16 ⟨(o22_115 l1 u1 c_12), (o22_116 l1 u1 c_12)⟩ dX5_bounded_37
    · -- 20
      refine lv_aload_n C0.1 C0.2.1 dX5_bounded_23 rfl (lv_at hl 0 rfl) ?_
      refine tg_X5_number C0 h kSC_77 q_377 dX5_bounded_24 (fun v_18 e_19 e_20 e_21 => ?_)
      have q_22 : v_18.toInt = v_8.toInt := congrArg Int32.toInt (e_19.symm.trans (Eq.trans rfl e_9))
      refine lv_iload_n C0.1 C0.2.1 dX5_bounded_27 rfl (lv_at hl 2 rfl) ?_
      refine y_icmp_le (tgt := 38) C0 dX5_bounded_28 (by decide) (fun c_23 => ?_) (fun c_23 => ?_)
      · -- 28
        refine lv_aload_n C0.1 C0.2.1 dX5_bounded_38 rfl (lv_at hl 0 rfl) ?_
        refine tg_X5_number C0 h kSC_77 q_377 dX5_bounded_39 (fun v_24 e_25 e_26 e_27 => ?_)
        have q_28 : v_24.toInt = v_8.toInt := congrArg Int32.toInt (e_25.symm.trans (Eq.trans rfl e_9))
        refine lv_istore_n (lv' := [(3, .int v_24), (0, .ref (ad 77)), (1, .int a1), (2, .int a2)]) C0.1 C0.2.1 dX5_bounded_42 rfl hl (by decide) rfl (fun ls hl => ?_)
        refine lv_aload_n C0.1 C0.2.1 dX5_bounded_43 rfl (lv_at hl 1 rfl) ?_
        refine y_cv h (y_rV (As := []) (rest := []) C0 hZ h (c_X5_advance l G Z ad _ h.2) k_X5_advance q_616 q_0 q_614 kSC_77 rfl rfl rfl hl.1 rfl rfl (Nat.le_of_ble_eq_true rfl) dX5_bounded_44 ⟨Nat.le_of_ble_eq_true rfl, Nat.le_of_ble_eq_true rfl⟩ ⟨Nat.le_of_ble_eq_true rfl, Nat.le_of_ble_eq_true rfl⟩) (fun H locs ws_29 h u_30 p_31 => ?_)
        refine lv_iload_n C0.1 C0.2.1 dX5_bounded_47 rfl (lv_at hl 0 rfl) ?_
        rw [hQ]
        exact y_iret C0 h u_30 ⟨(o22_117 l1 u1 l2 u2 c_12 q_22 c_23 q_28), (o22_118 l1 u1 l2 u2 c_12 q_22 c_23 q_28)⟩ dX5_bounded_48
      · -- 28
        refine lv_aload_n C0.1 C0.2.1 dX5_bounded_31 rfl (lv_at hl 0 rfl) ?_
        refine y_c1 (n := 3) C0 (by decide) dX5_bounded_32 (fun v_32 e_33 => ?_)
        refine y_cv h (y_rV (As := [.int v_32]) (rest := []) C0 hZ h (c_X5_fail l G Z ad _ h.2 v_32) k_X5_fail q_628 q_3 q_626 kSC_77 rfl rfl rfl hl.1 rfl rfl (Nat.le_of_ble_eq_true rfl) dX5_bounded_33 ⟨Nat.le_of_ble_eq_true rfl, Nat.le_of_ble_eq_true rfl⟩ ⟨Nat.le_of_ble_eq_true rfl, Nat.le_of_ble_eq_true rfl⟩) (fun H locs ws_34 h u_35 p_36 => ?_)
        refine lv_iload_n C0.1 C0.2.1 dX5_bounded_36 rfl (lv_at hl 1 rfl) ?_
        rw [hQ]
        exact y_iret C0 h u_35 ⟨(o22_119 l1 u1 l2 u2 c_12 q_22 c_23), (o22_120 l1 u1 l2 u2 c_12 q_22 c_23)⟩ dX5_bounded_37
  · -- 5
    refine lv_aload_n C0.1 C0.2.1 dX5_bounded_8 rfl (lv_at hl 0 rfl) ?_
    refine y_c1 (n := 2) C0 (by decide) dX5_bounded_9 (fun v_37 e_38 => ?_)
    refine y_cv h (y_rV (As := [.int v_37]) (rest := []) C0 hZ h (c_X5_fail l G Z ad _ h.2 v_37) k_X5_fail q_628 q_3 q_626 kSC_77 rfl rfl rfl hl.1 rfl rfl (Nat.le_of_ble_eq_true rfl) dX5_bounded_10 ⟨Nat.le_of_ble_eq_true rfl, Nat.le_of_ble_eq_true rfl⟩ ⟨Nat.le_of_ble_eq_true rfl, Nat.le_of_ble_eq_true rfl⟩) (fun H locs ws_39 h u_40 p_41 => ?_)
    refine lv_iload_n C0.1 C0.2.1 dX5_bounded_13 rfl (lv_at hl 1 rfl) ?_
    rw [hQ]
    exact y_iret C0 h u_40 ⟨(o22_121 l1 u1), (o22_122 l1 u1)⟩ dX5_bounded_14
set_option maxHeartbeats 4000000 in
set_option maxRecDepth 100000 in
theorem c_X5_boundedd (l : Launch) (G : GG) (Z : RZ) (ad : Nat → Nat) (ws0 : va_W) (hT : Ty G (SC tt) ad ws0) (a1 : Int32) (a2 : Int32) (l1 : 0 ≤ a1.toInt) (u1 : a1.toInt ≤ 0) (l2 : 99 ≤ a2.toInt) (u2 : a2.toInt ≤ 99) : Mq l yX5_bounded cX5_bounded 4 (some .int) 6 G Z [.ref (ad 77), .int a1, .int a2] ws0 (PI G (SC tt) ad [16] ws0 (fun r u => (0 ≤ r.toInt) ∧ (r.toInt ≤ 99))) := by
  refine Mq.start (by decide) (Nat.le_of_ble_eq_true rfl) ?_
  intro p e s m below meth c A ls C0 hZ h hl
  have hl : lv_has ls 4 [(0, .ref (ad 77)), (1, .int a1), (2, .int a2)] := hl
  have h : Wt G (SC tt) ad A s s.heap [] ws0 := ⟨h, hT⟩
  obtain ⟨args, hargs⟩ : ∃ z, z = ([.ref (ad 77), .int a1, .int a2] : List Value).toArray := ⟨_, rfl⟩
  rw [← hargs] at C0 ⊢
  have C0 : Cx p s m args meth c RX5 cX5_bounded 4 (some .int) := C0
  obtain ⟨Q, hQ⟩ : ∃ z, z = MQ below ((PI G (SC tt) ad [16] ws0 (fun r u => (0 ≤ r.toInt) ∧ (r.toInt ≤ 99))) A) args s 0 0 A := ⟨_, rfl⟩
  rw [← hQ]
  refine lv_aload_n C0.1 C0.2.1 dX5_bounded_0 rfl (lv_at hl 0 rfl) ?_
  refine tg_X5_kind C0 h kSC_77 q_374 dX5_bounded_1 (fun v_1 e_2 e_3 e_4 => ?_)
  refine y_c1 (n := 2) C0 (by decide) dX5_bounded_4 (fun v_5 e_6 => ?_)
  refine y_icmp_eq (tgt := 15) C0 dX5_bounded_5 (by decide) (fun c_7 => ?_) (fun c_7 => ?_)
  · -- 5
    refine lv_aload_n C0.1 C0.2.1 dX5_bounded_15 rfl (lv_at hl 0 rfl) ?_
    refine tg_X5_number C0 h kSC_77 q_377 dX5_bounded_16 (fun v_8 e_9 e_10 e_11 => ?_)
    refine lv_iload_n C0.1 C0.2.1 dX5_bounded_19 rfl (lv_at hl 1 rfl) ?_
    refine y_icmp_lt (tgt := 31) C0 dX5_bounded_20 (by decide) (fun c_12 => ?_) (fun c_12 => ?_)
    · -- 20
      refine lv_aload_n C0.1 C0.2.1 dX5_bounded_31 rfl (lv_at hl 0 rfl) ?_
      refine y_c1 (n := 3) C0 (by decide) dX5_bounded_32 (fun v_13 e_14 => ?_)
      refine y_cv h (y_rV (As := [.int v_13]) (rest := []) C0 hZ h (c_X5_fail l G Z ad _ h.2 v_13) k_X5_fail q_628 q_3 q_626 kSC_77 rfl rfl rfl hl.1 rfl rfl (Nat.le_of_ble_eq_true rfl) dX5_bounded_33 ⟨Nat.le_of_ble_eq_true rfl, Nat.le_of_ble_eq_true rfl⟩ ⟨Nat.le_of_ble_eq_true rfl, Nat.le_of_ble_eq_true rfl⟩) (fun H locs ws_15 h u_16 p_17 => ?_)
      refine lv_iload_n C0.1 C0.2.1 dX5_bounded_36 rfl (lv_at hl 1 rfl) ?_
      rw [hQ]
      exact y_iret C0 h u_16 ⟨(o22_115 l1 u1 c_12), (o22_123 l1 u1 c_12)⟩ dX5_bounded_37
    · -- 20
      refine lv_aload_n C0.1 C0.2.1 dX5_bounded_23 rfl (lv_at hl 0 rfl) ?_
      refine tg_X5_number C0 h kSC_77 q_377 dX5_bounded_24 (fun v_18 e_19 e_20 e_21 => ?_)
      have q_22 : v_18.toInt = v_8.toInt := congrArg Int32.toInt (e_19.symm.trans (Eq.trans rfl e_9))
      refine lv_iload_n C0.1 C0.2.1 dX5_bounded_27 rfl (lv_at hl 2 rfl) ?_
      refine y_icmp_le (tgt := 38) C0 dX5_bounded_28 (by decide) (fun c_23 => ?_) (fun c_23 => ?_)
      · -- 28
        refine lv_aload_n C0.1 C0.2.1 dX5_bounded_38 rfl (lv_at hl 0 rfl) ?_
        refine tg_X5_number C0 h kSC_77 q_377 dX5_bounded_39 (fun v_24 e_25 e_26 e_27 => ?_)
        have q_28 : v_24.toInt = v_8.toInt := congrArg Int32.toInt (e_25.symm.trans (Eq.trans rfl e_9))
        refine lv_istore_n (lv' := [(3, .int v_24), (0, .ref (ad 77)), (1, .int a1), (2, .int a2)]) C0.1 C0.2.1 dX5_bounded_42 rfl hl (by decide) rfl (fun ls hl => ?_)
        refine lv_aload_n C0.1 C0.2.1 dX5_bounded_43 rfl (lv_at hl 1 rfl) ?_
        refine y_cv h (y_rV (As := []) (rest := []) C0 hZ h (c_X5_advance l G Z ad _ h.2) k_X5_advance q_616 q_0 q_614 kSC_77 rfl rfl rfl hl.1 rfl rfl (Nat.le_of_ble_eq_true rfl) dX5_bounded_44 ⟨Nat.le_of_ble_eq_true rfl, Nat.le_of_ble_eq_true rfl⟩ ⟨Nat.le_of_ble_eq_true rfl, Nat.le_of_ble_eq_true rfl⟩) (fun H locs ws_29 h u_30 p_31 => ?_)
        refine lv_iload_n C0.1 C0.2.1 dX5_bounded_47 rfl (lv_at hl 0 rfl) ?_
        rw [hQ]
        exact y_iret C0 h u_30 ⟨(o22_124 l1 u1 l2 u2 c_12 q_22 c_23 q_28), (o22_125 l1 u1 l2 u2 c_12 q_22 c_23 q_28)⟩ dX5_bounded_48
      · -- 28
        refine lv_aload_n C0.1 C0.2.1 dX5_bounded_31 rfl (lv_at hl 0 rfl) ?_
        refine y_c1 (n := 3) C0 (by decide) dX5_bounded_32 (fun v_32 e_33 => ?_)
        refine y_cv h (y_rV (As := [.int v_32]) (rest := []) C0 hZ h (c_X5_fail l G Z ad _ h.2 v_32) k_X5_fail q_628 q_3 q_626 kSC_77 rfl rfl rfl hl.1 rfl rfl (Nat.le_of_ble_eq_true rfl) dX5_bounded_33 ⟨Nat.le_of_ble_eq_true rfl, Nat.le_of_ble_eq_true rfl⟩ ⟨Nat.le_of_ble_eq_true rfl, Nat.le_of_ble_eq_true rfl⟩) (fun H locs ws_34 h u_35 p_36 => ?_)
        refine lv_iload_n C0.1 C0.2.1 dX5_bounded_36 rfl (lv_at hl 1 rfl) ?_
        rw [hQ]
        exact y_iret C0 h u_35 ⟨(o22_126 l1 u1 l2 u2 c_12 q_22 c_23), (o22_127 l1 u1 l2 u2 c_12 q_22 c_23)⟩ dX5_bounded_37
  · -- 5
    refine lv_aload_n C0.1 C0.2.1 dX5_bounded_8 rfl (lv_at hl 0 rfl) ?_
    refine y_c1 (n := 2) C0 (by decide) dX5_bounded_9 (fun v_37 e_38 => ?_)
    refine y_cv h (y_rV (As := [.int v_37]) (rest := []) C0 hZ h (c_X5_fail l G Z ad _ h.2 v_37) k_X5_fail q_628 q_3 q_626 kSC_77 rfl rfl rfl hl.1 rfl rfl (Nat.le_of_ble_eq_true rfl) dX5_bounded_10 ⟨Nat.le_of_ble_eq_true rfl, Nat.le_of_ble_eq_true rfl⟩ ⟨Nat.le_of_ble_eq_true rfl, Nat.le_of_ble_eq_true rfl⟩) (fun H locs ws_39 h u_40 p_41 => ?_)
    refine lv_iload_n C0.1 C0.2.1 dX5_bounded_13 rfl (lv_at hl 1 rfl) ?_
    rw [hQ]
    exact y_iret C0 h u_40 ⟨(o22_121 l1 u1), (o22_128 l1 u1)⟩ dX5_bounded_14
set_option maxHeartbeats 4000000 in
set_option maxRecDepth 100000 in
theorem c_X5_boundede (l : Launch) (G : GG) (Z : RZ) (ad : Nat → Nat) (ws0 : va_W) (hT : Ty G (SC tt) ad ws0) (a1 : Int32) (a2 : Int32) (l1 : 0 ≤ a1.toInt) (u1 : a1.toInt ≤ 0) (l2 : 999 ≤ a2.toInt) (u2 : a2.toInt ≤ 999) : Mq l yX5_bounded cX5_bounded 4 (some .int) 6 G Z [.ref (ad 77), .int a1, .int a2] ws0 (PI G (SC tt) ad [16] ws0 (fun r u => (0 ≤ r.toInt) ∧ (r.toInt ≤ 999))) := by
  refine Mq.start (by decide) (Nat.le_of_ble_eq_true rfl) ?_
  intro p e s m below meth c A ls C0 hZ h hl
  have hl : lv_has ls 4 [(0, .ref (ad 77)), (1, .int a1), (2, .int a2)] := hl
  have h : Wt G (SC tt) ad A s s.heap [] ws0 := ⟨h, hT⟩
  obtain ⟨args, hargs⟩ : ∃ z, z = ([.ref (ad 77), .int a1, .int a2] : List Value).toArray := ⟨_, rfl⟩
  rw [← hargs] at C0 ⊢
  have C0 : Cx p s m args meth c RX5 cX5_bounded 4 (some .int) := C0
  obtain ⟨Q, hQ⟩ : ∃ z, z = MQ below ((PI G (SC tt) ad [16] ws0 (fun r u => (0 ≤ r.toInt) ∧ (r.toInt ≤ 999))) A) args s 0 0 A := ⟨_, rfl⟩
  rw [← hQ]
  refine lv_aload_n C0.1 C0.2.1 dX5_bounded_0 rfl (lv_at hl 0 rfl) ?_
  refine tg_X5_kind C0 h kSC_77 q_374 dX5_bounded_1 (fun v_1 e_2 e_3 e_4 => ?_)
  refine y_c1 (n := 2) C0 (by decide) dX5_bounded_4 (fun v_5 e_6 => ?_)
  refine y_icmp_eq (tgt := 15) C0 dX5_bounded_5 (by decide) (fun c_7 => ?_) (fun c_7 => ?_)
  · -- 5
    refine lv_aload_n C0.1 C0.2.1 dX5_bounded_15 rfl (lv_at hl 0 rfl) ?_
    refine tg_X5_number C0 h kSC_77 q_377 dX5_bounded_16 (fun v_8 e_9 e_10 e_11 => ?_)
    refine lv_iload_n C0.1 C0.2.1 dX5_bounded_19 rfl (lv_at hl 1 rfl) ?_
    refine y_icmp_lt (tgt := 31) C0 dX5_bounded_20 (by decide) (fun c_12 => ?_) (fun c_12 => ?_)
    · -- 20
      refine lv_aload_n C0.1 C0.2.1 dX5_bounded_31 rfl (lv_at hl 0 rfl) ?_
      refine y_c1 (n := 3) C0 (by decide) dX5_bounded_32 (fun v_13 e_14 => ?_)
      refine y_cv h (y_rV (As := [.int v_13]) (rest := []) C0 hZ h (c_X5_fail l G Z ad _ h.2 v_13) k_X5_fail q_628 q_3 q_626 kSC_77 rfl rfl rfl hl.1 rfl rfl (Nat.le_of_ble_eq_true rfl) dX5_bounded_33 ⟨Nat.le_of_ble_eq_true rfl, Nat.le_of_ble_eq_true rfl⟩ ⟨Nat.le_of_ble_eq_true rfl, Nat.le_of_ble_eq_true rfl⟩) (fun H locs ws_15 h u_16 p_17 => ?_)
      refine lv_iload_n C0.1 C0.2.1 dX5_bounded_36 rfl (lv_at hl 1 rfl) ?_
      rw [hQ]
      exact y_iret C0 h u_16 ⟨(o22_115 l1 u1 c_12), (o22_129 l1 u1 c_12)⟩ dX5_bounded_37
    · -- 20
      refine lv_aload_n C0.1 C0.2.1 dX5_bounded_23 rfl (lv_at hl 0 rfl) ?_
      refine tg_X5_number C0 h kSC_77 q_377 dX5_bounded_24 (fun v_18 e_19 e_20 e_21 => ?_)
      have q_22 : v_18.toInt = v_8.toInt := congrArg Int32.toInt (e_19.symm.trans (Eq.trans rfl e_9))
      refine lv_iload_n C0.1 C0.2.1 dX5_bounded_27 rfl (lv_at hl 2 rfl) ?_
      refine y_icmp_le (tgt := 38) C0 dX5_bounded_28 (by decide) (fun c_23 => ?_) (fun c_23 => ?_)
      · -- 28
        refine lv_aload_n C0.1 C0.2.1 dX5_bounded_38 rfl (lv_at hl 0 rfl) ?_
        refine tg_X5_number C0 h kSC_77 q_377 dX5_bounded_39 (fun v_24 e_25 e_26 e_27 => ?_)
        have q_28 : v_24.toInt = v_8.toInt := congrArg Int32.toInt (e_25.symm.trans (Eq.trans rfl e_9))
        refine lv_istore_n (lv' := [(3, .int v_24), (0, .ref (ad 77)), (1, .int a1), (2, .int a2)]) C0.1 C0.2.1 dX5_bounded_42 rfl hl (by decide) rfl (fun ls hl => ?_)
        refine lv_aload_n C0.1 C0.2.1 dX5_bounded_43 rfl (lv_at hl 1 rfl) ?_
        refine y_cv h (y_rV (As := []) (rest := []) C0 hZ h (c_X5_advance l G Z ad _ h.2) k_X5_advance q_616 q_0 q_614 kSC_77 rfl rfl rfl hl.1 rfl rfl (Nat.le_of_ble_eq_true rfl) dX5_bounded_44 ⟨Nat.le_of_ble_eq_true rfl, Nat.le_of_ble_eq_true rfl⟩ ⟨Nat.le_of_ble_eq_true rfl, Nat.le_of_ble_eq_true rfl⟩) (fun H locs ws_29 h u_30 p_31 => ?_)
        refine lv_iload_n C0.1 C0.2.1 dX5_bounded_47 rfl (lv_at hl 0 rfl) ?_
        rw [hQ]
        exact y_iret C0 h u_30 ⟨(o22_130 l1 u1 l2 u2 c_12 q_22 c_23 q_28), (o22_131 l1 u1 l2 u2 c_12 q_22 c_23 q_28)⟩ dX5_bounded_48
      · -- 28
        refine lv_aload_n C0.1 C0.2.1 dX5_bounded_31 rfl (lv_at hl 0 rfl) ?_
        refine y_c1 (n := 3) C0 (by decide) dX5_bounded_32 (fun v_32 e_33 => ?_)
        refine y_cv h (y_rV (As := [.int v_32]) (rest := []) C0 hZ h (c_X5_fail l G Z ad _ h.2 v_32) k_X5_fail q_628 q_3 q_626 kSC_77 rfl rfl rfl hl.1 rfl rfl (Nat.le_of_ble_eq_true rfl) dX5_bounded_33 ⟨Nat.le_of_ble_eq_true rfl, Nat.le_of_ble_eq_true rfl⟩ ⟨Nat.le_of_ble_eq_true rfl, Nat.le_of_ble_eq_true rfl⟩) (fun H locs ws_34 h u_35 p_36 => ?_)
        refine lv_iload_n C0.1 C0.2.1 dX5_bounded_36 rfl (lv_at hl 1 rfl) ?_
        rw [hQ]
        exact y_iret C0 h u_35 ⟨(o22_132 l1 u1 l2 u2 c_12 q_22 c_23), (o22_133 l1 u1 l2 u2 c_12 q_22 c_23)⟩ dX5_bounded_37
  · -- 5
    refine lv_aload_n C0.1 C0.2.1 dX5_bounded_8 rfl (lv_at hl 0 rfl) ?_
    refine y_c1 (n := 2) C0 (by decide) dX5_bounded_9 (fun v_37 e_38 => ?_)
    refine y_cv h (y_rV (As := [.int v_37]) (rest := []) C0 hZ h (c_X5_fail l G Z ad _ h.2 v_37) k_X5_fail q_628 q_3 q_626 kSC_77 rfl rfl rfl hl.1 rfl rfl (Nat.le_of_ble_eq_true rfl) dX5_bounded_10 ⟨Nat.le_of_ble_eq_true rfl, Nat.le_of_ble_eq_true rfl⟩ ⟨Nat.le_of_ble_eq_true rfl, Nat.le_of_ble_eq_true rfl⟩) (fun H locs ws_39 h u_40 p_41 => ?_)
    refine lv_iload_n C0.1 C0.2.1 dX5_bounded_13 rfl (lv_at hl 1 rfl) ?_
    rw [hQ]
    exact y_iret C0 h u_40 ⟨(o22_121 l1 u1), (o22_134 l1 u1)⟩ dX5_bounded_14
set_option maxHeartbeats 4000000 in
set_option maxRecDepth 100000 in
theorem c_X5_boundedb (l : Launch) (G : GG) (Z : RZ) (ad : Nat → Nat) (ws0 : va_W) (hT : Ty G (SC tt) ad ws0) (a1 : Int32) (a2 : Int32) (l1 : 0 ≤ a1.toInt) (u1 : a1.toInt ≤ 0) (l2 : (-1) ≤ a2.toInt) (u2 : a2.toInt ≤ 4) : Mq l yX5_bounded cX5_bounded 4 (some .int) 6 G Z [.ref (ad 77), .int a1, .int a2] ws0 (PI G (SC tt) ad [16] ws0 (fun r u => (0 ≤ r.toInt) ∧ (r.toInt ≤ 4))) := by
  refine Mq.start (by decide) (Nat.le_of_ble_eq_true rfl) ?_
  intro p e s m below meth c A ls C0 hZ h hl
  have hl : lv_has ls 4 [(0, .ref (ad 77)), (1, .int a1), (2, .int a2)] := hl
  have h : Wt G (SC tt) ad A s s.heap [] ws0 := ⟨h, hT⟩
  obtain ⟨args, hargs⟩ : ∃ z, z = ([.ref (ad 77), .int a1, .int a2] : List Value).toArray := ⟨_, rfl⟩
  rw [← hargs] at C0 ⊢
  have C0 : Cx p s m args meth c RX5 cX5_bounded 4 (some .int) := C0
  obtain ⟨Q, hQ⟩ : ∃ z, z = MQ below ((PI G (SC tt) ad [16] ws0 (fun r u => (0 ≤ r.toInt) ∧ (r.toInt ≤ 4))) A) args s 0 0 A := ⟨_, rfl⟩
  rw [← hQ]
  refine lv_aload_n C0.1 C0.2.1 dX5_bounded_0 rfl (lv_at hl 0 rfl) ?_
  refine tg_X5_kind C0 h kSC_77 q_374 dX5_bounded_1 (fun v_1 e_2 e_3 e_4 => ?_)
  refine y_c1 (n := 2) C0 (by decide) dX5_bounded_4 (fun v_5 e_6 => ?_)
  refine y_icmp_eq (tgt := 15) C0 dX5_bounded_5 (by decide) (fun c_7 => ?_) (fun c_7 => ?_)
  · -- 5
    refine lv_aload_n C0.1 C0.2.1 dX5_bounded_15 rfl (lv_at hl 0 rfl) ?_
    refine tg_X5_number C0 h kSC_77 q_377 dX5_bounded_16 (fun v_8 e_9 e_10 e_11 => ?_)
    refine lv_iload_n C0.1 C0.2.1 dX5_bounded_19 rfl (lv_at hl 1 rfl) ?_
    refine y_icmp_lt (tgt := 31) C0 dX5_bounded_20 (by decide) (fun c_12 => ?_) (fun c_12 => ?_)
    · -- 20
      refine lv_aload_n C0.1 C0.2.1 dX5_bounded_31 rfl (lv_at hl 0 rfl) ?_
      refine y_c1 (n := 3) C0 (by decide) dX5_bounded_32 (fun v_13 e_14 => ?_)
      refine y_cv h (y_rV (As := [.int v_13]) (rest := []) C0 hZ h (c_X5_fail l G Z ad _ h.2 v_13) k_X5_fail q_628 q_3 q_626 kSC_77 rfl rfl rfl hl.1 rfl rfl (Nat.le_of_ble_eq_true rfl) dX5_bounded_33 ⟨Nat.le_of_ble_eq_true rfl, Nat.le_of_ble_eq_true rfl⟩ ⟨Nat.le_of_ble_eq_true rfl, Nat.le_of_ble_eq_true rfl⟩) (fun H locs ws_15 h u_16 p_17 => ?_)
      refine lv_iload_n C0.1 C0.2.1 dX5_bounded_36 rfl (lv_at hl 1 rfl) ?_
      rw [hQ]
      exact y_iret C0 h u_16 ⟨(o22_115 l1 u1 c_12), (o22_135 l1 u1 c_12)⟩ dX5_bounded_37
    · -- 20
      refine lv_aload_n C0.1 C0.2.1 dX5_bounded_23 rfl (lv_at hl 0 rfl) ?_
      refine tg_X5_number C0 h kSC_77 q_377 dX5_bounded_24 (fun v_18 e_19 e_20 e_21 => ?_)
      have q_22 : v_18.toInt = v_8.toInt := congrArg Int32.toInt (e_19.symm.trans (Eq.trans rfl e_9))
      refine lv_iload_n C0.1 C0.2.1 dX5_bounded_27 rfl (lv_at hl 2 rfl) ?_
      refine y_icmp_le (tgt := 38) C0 dX5_bounded_28 (by decide) (fun c_23 => ?_) (fun c_23 => ?_)
      · -- 28
        refine lv_aload_n C0.1 C0.2.1 dX5_bounded_38 rfl (lv_at hl 0 rfl) ?_
        refine tg_X5_number C0 h kSC_77 q_377 dX5_bounded_39 (fun v_24 e_25 e_26 e_27 => ?_)
        have q_28 : v_24.toInt = v_8.toInt := congrArg Int32.toInt (e_25.symm.trans (Eq.trans rfl e_9))
        refine lv_istore_n (lv' := [(3, .int v_24), (0, .ref (ad 77)), (1, .int a1), (2, .int a2)]) C0.1 C0.2.1 dX5_bounded_42 rfl hl (by decide) rfl (fun ls hl => ?_)
        refine lv_aload_n C0.1 C0.2.1 dX5_bounded_43 rfl (lv_at hl 1 rfl) ?_
        refine y_cv h (y_rV (As := []) (rest := []) C0 hZ h (c_X5_advance l G Z ad _ h.2) k_X5_advance q_616 q_0 q_614 kSC_77 rfl rfl rfl hl.1 rfl rfl (Nat.le_of_ble_eq_true rfl) dX5_bounded_44 ⟨Nat.le_of_ble_eq_true rfl, Nat.le_of_ble_eq_true rfl⟩ ⟨Nat.le_of_ble_eq_true rfl, Nat.le_of_ble_eq_true rfl⟩) (fun H locs ws_29 h u_30 p_31 => ?_)
        refine lv_iload_n C0.1 C0.2.1 dX5_bounded_47 rfl (lv_at hl 0 rfl) ?_
        rw [hQ]
        exact y_iret C0 h u_30 ⟨(o22_136 l1 u1 l2 u2 c_12 q_22 c_23 q_28), (o22_137 l1 u1 l2 u2 c_12 q_22 c_23 q_28)⟩ dX5_bounded_48
      · -- 28
        refine lv_aload_n C0.1 C0.2.1 dX5_bounded_31 rfl (lv_at hl 0 rfl) ?_
        refine y_c1 (n := 3) C0 (by decide) dX5_bounded_32 (fun v_32 e_33 => ?_)
        refine y_cv h (y_rV (As := [.int v_32]) (rest := []) C0 hZ h (c_X5_fail l G Z ad _ h.2 v_32) k_X5_fail q_628 q_3 q_626 kSC_77 rfl rfl rfl hl.1 rfl rfl (Nat.le_of_ble_eq_true rfl) dX5_bounded_33 ⟨Nat.le_of_ble_eq_true rfl, Nat.le_of_ble_eq_true rfl⟩ ⟨Nat.le_of_ble_eq_true rfl, Nat.le_of_ble_eq_true rfl⟩) (fun H locs ws_34 h u_35 p_36 => ?_)
        refine lv_iload_n C0.1 C0.2.1 dX5_bounded_36 rfl (lv_at hl 1 rfl) ?_
        rw [hQ]
        exact y_iret C0 h u_35 ⟨(o22_138 l1 u1 l2 u2 c_12 q_22 c_23), (o22_139 l1 u1 l2 u2 c_12 q_22 c_23)⟩ dX5_bounded_37
  · -- 5
    refine lv_aload_n C0.1 C0.2.1 dX5_bounded_8 rfl (lv_at hl 0 rfl) ?_
    refine y_c1 (n := 2) C0 (by decide) dX5_bounded_9 (fun v_37 e_38 => ?_)
    refine y_cv h (y_rV (As := [.int v_37]) (rest := []) C0 hZ h (c_X5_fail l G Z ad _ h.2 v_37) k_X5_fail q_628 q_3 q_626 kSC_77 rfl rfl rfl hl.1 rfl rfl (Nat.le_of_ble_eq_true rfl) dX5_bounded_10 ⟨Nat.le_of_ble_eq_true rfl, Nat.le_of_ble_eq_true rfl⟩ ⟨Nat.le_of_ble_eq_true rfl, Nat.le_of_ble_eq_true rfl⟩) (fun H locs ws_39 h u_40 p_41 => ?_)
    refine lv_iload_n C0.1 C0.2.1 dX5_bounded_13 rfl (lv_at hl 1 rfl) ?_
    rw [hQ]
    exact y_iret C0 h u_40 ⟨(o22_121 l1 u1), (o22_140 l1 u1)⟩ dX5_bounded_14
