variable {tt : QQ}
theorem dX4_add_0 : decode cX4_add 0 = .ok (.aload_n 0, 1) := by decide +kernel
theorem dX4_add_1 : decode cX4_add 1 = .ok (.getfield 21, 3) := by decide +kernel
theorem dX4_add_4 : decode cX4_add 4 = .ok (.aload_n 0, 1) := by decide +kernel
theorem dX4_add_5 : decode cX4_add 5 = .ok (.getfield 9, 3) := by decide +kernel
theorem dX4_add_8 : decode cX4_add 8 = .ok (.arraylength, 1) := by decide +kernel
theorem dX4_add_9 : decode cX4_add 9 = .ok (.if_icmp .ge 23, 3) := by decide +kernel
theorem dX4_add_12 : decode cX4_add 12 = .ok (.aload_n 0, 1) := by decide +kernel
theorem dX4_add_13 : decode cX4_add 13 = .ok (.getfield 9, 3) := by decide +kernel
theorem dX4_add_16 : decode cX4_add 16 = .ok (.aload_n 0, 1) := by decide +kernel
theorem dX4_add_17 : decode cX4_add 17 = .ok (.getfield 21, 3) := by decide +kernel
theorem dX4_add_20 : decode cX4_add 20 = .ok (.iload_n 1, 1) := by decide +kernel
theorem dX4_add_21 : decode cX4_add 21 = .ok (.iastore, 1) := by decide +kernel
theorem dX4_add_22 : decode cX4_add 22 = .ok (.aload_n 0, 1) := by decide +kernel
theorem dX4_add_23 : decode cX4_add 23 = .ok (.dup, 1) := by decide +kernel
theorem dX4_add_24 : decode cX4_add 24 = .ok (.getfield 21, 3) := by decide +kernel
theorem dX4_add_27 : decode cX4_add 27 = .ok (.iconst 1, 1) := by decide +kernel
theorem dX4_add_28 : decode cX4_add 28 = .ok (.iadd, 1) := by decide +kernel
theorem dX4_add_29 : decode cX4_add 29 = .ok (.putfield 21, 3) := by decide +kernel
theorem dX4_add_32 : decode cX4_add 32 = .ok (.iload_n 1, 1) := by decide +kernel
theorem dX4_add_33 : decode cX4_add 33 = .ok (.sipush 1000, 3) := by decide +kernel
theorem dX4_add_36 : decode cX4_add 36 = .ok (.if_icmp .lt 26, 3) := by decide +kernel
theorem dX4_add_39 : decode cX4_add 39 = .ok (.iload_n 1, 1) := by decide +kernel
theorem dX4_add_40 : decode cX4_add 40 = .ok (.sipush 1005, 3) := by decide +kernel
theorem dX4_add_43 : decode cX4_add 43 = .ok (.if_icmp .gt 19, 3) := by decide +kernel
theorem dX4_add_46 : decode cX4_add 46 = .ok (.aload_n 0, 1) := by decide +kernel
theorem dX4_add_47 : decode cX4_add 47 = .ok (.dup, 1) := by decide +kernel
theorem dX4_add_48 : decode cX4_add 48 = .ok (.getfield 25, 3) := by decide +kernel
theorem dX4_add_51 : decode cX4_add 51 = .ok (.iconst 1, 1) := by decide +kernel
theorem dX4_add_52 : decode cX4_add 52 = .ok (.iload_n 1, 1) := by decide +kernel
theorem dX4_add_53 : decode cX4_add 53 = .ok (.sipush 1000, 3) := by decide +kernel
theorem dX4_add_56 : decode cX4_add 56 = .ok (.isub, 1) := by decide +kernel
theorem dX4_add_57 : decode cX4_add 57 = .ok (.ishl, 1) := by decide +kernel
theorem dX4_add_58 : decode cX4_add 58 = .ok (.ior, 1) := by decide +kernel
theorem dX4_add_59 : decode cX4_add 59 = .ok (.putfield 25, 3) := by decide +kernel
theorem dX4_add_62 : decode cX4_add 62 = .ok (.return_, 1) := by decide +kernel
theorem dX4_asks_0 : decode cX4_asks 0 = .ok (.aload_n 0, 1) := by decide +kernel
theorem dX4_asks_1 : decode cX4_asks 1 = .ok (.getfield 25, 3) := by decide +kernel
theorem dX4_asks_4 : decode cX4_asks 4 = .ok (.iload_n 1, 1) := by decide +kernel
theorem dX4_asks_5 : decode cX4_asks 5 = .ok (.sipush 1000, 3) := by decide +kernel
theorem dX4_asks_8 : decode cX4_asks 8 = .ok (.isub, 1) := by decide +kernel
theorem dX4_asks_9 : decode cX4_asks 9 = .ok (.ishr, 1) := by decide +kernel
theorem dX4_asks_10 : decode cX4_asks 10 = .ok (.iconst 1, 1) := by decide +kernel
theorem dX4_asks_11 : decode cX4_asks 11 = .ok (.iand, 1) := by decide +kernel
theorem dX4_asks_12 : decode cX4_asks 12 = .ok (.ifCond .eq 7, 3) := by decide +kernel
theorem dX4_asks_15 : decode cX4_asks 15 = .ok (.iconst 1, 1) := by decide +kernel
theorem dX4_asks_16 : decode cX4_asks 16 = .ok (.goto 4, 3) := by decide +kernel
theorem dX4_asks_19 : decode cX4_asks 19 = .ok (.iconst 0, 1) := by decide +kernel
theorem dX4_asks_20 : decode cX4_asks 20 = .ok (.ireturn, 1) := by decide +kernel
theorem dX4_clear_0 : decode cX4_clear 0 = .ok (.aload_n 0, 1) := by decide +kernel
theorem dX4_clear_1 : decode cX4_clear 1 = .ok (.iconst 0, 1) := by decide +kernel
theorem dX4_clear_2 : decode cX4_clear 2 = .ok (.putfield 21, 3) := by decide +kernel
theorem dX4_clear_5 : decode cX4_clear 5 = .ok (.aload_n 0, 1) := by decide +kernel
theorem dX4_clear_6 : decode cX4_clear 6 = .ok (.iconst 0, 1) := by decide +kernel
theorem dX4_clear_7 : decode cX4_clear 7 = .ok (.putfield 25, 3) := by decide +kernel
theorem dX4_clear_10 : decode cX4_clear 10 = .ok (.return_, 1) := by decide +kernel
theorem dX4_copy_0 : decode cX4_copy 0 = .ok (.aload_n 0, 1) := by decide +kernel
theorem dX4_copy_1 : decode cX4_copy 1 = .ok (.aload_n 1, 1) := by decide +kernel
theorem dX4_copy_2 : decode cX4_copy 2 = .ok (.getfield 21, 3) := by decide +kernel
theorem dX4_copy_5 : decode cX4_copy 5 = .ok (.putfield 21, 3) := by decide +kernel
theorem dX4_copy_8 : decode cX4_copy 8 = .ok (.aload_n 0, 1) := by decide +kernel
theorem dX4_copy_9 : decode cX4_copy 9 = .ok (.aload_n 1, 1) := by decide +kernel
theorem dX4_copy_10 : decode cX4_copy 10 = .ok (.getfield 25, 3) := by decide +kernel
theorem dX4_copy_13 : decode cX4_copy 13 = .ok (.putfield 25, 3) := by decide +kernel
theorem dX4_copy_16 : decode cX4_copy 16 = .ok (.aload_n 1, 1) := by decide +kernel
theorem dX4_copy_17 : decode cX4_copy 17 = .ok (.getfield 9, 3) := by decide +kernel
theorem dX4_copy_20 : decode cX4_copy 20 = .ok (.iconst 0, 1) := by decide +kernel
theorem dX4_copy_21 : decode cX4_copy 21 = .ok (.aload_n 0, 1) := by decide +kernel
theorem dX4_copy_22 : decode cX4_copy 22 = .ok (.getfield 9, 3) := by decide +kernel
theorem dX4_copy_25 : decode cX4_copy 25 = .ok (.iconst 0, 1) := by decide +kernel
theorem dX4_copy_26 : decode cX4_copy 26 = .ok (.aload_n 0, 1) := by decide +kernel
theorem dX4_copy_27 : decode cX4_copy 27 = .ok (.getfield 21, 3) := by decide +kernel
theorem dX4_copy_30 : decode cX4_copy 30 = .ok (.invokestatic 32, 3) := by decide +kernel
theorem dX4_copy_33 : decode cX4_copy 33 = .ok (.return_, 1) := by decide +kernel
theorem dX4_firstHeadLike_0 : decode cX4_firstHeadLike 0 = .ok (.aload_n 0, 1) := by decide +kernel
theorem dX4_firstHeadLike_1 : decode cX4_firstHeadLike 1 = .ok (.sipush 1005, 3) := by decide +kernel
theorem dX4_firstHeadLike_4 : decode cX4_firstHeadLike 4 = .ok (.invokevirtual 28, 3) := by decide +kernel
theorem dX4_firstHeadLike_7 : decode cX4_firstHeadLike 7 = .ok (.ifCond .eq 7, 3) := by decide +kernel
theorem dX4_firstHeadLike_10 : decode cX4_firstHeadLike 10 = .ok (.iload_n 1, 1) := by decide +kernel
theorem dX4_firstHeadLike_11 : decode cX4_firstHeadLike 11 = .ok (.goto 4, 3) := by decide +kernel
theorem dX4_firstHeadLike_14 : decode cX4_firstHeadLike 14 = .ok (.iconst 0, 1) := by decide +kernel
theorem dX4_firstHeadLike_15 : decode cX4_firstHeadLike 15 = .ok (.ireturn, 1) := by decide +kernel
theorem dX4_firstLike_0 : decode cX4_firstLike 0 = .ok (.aload_n 0, 1) := by decide +kernel
theorem dX4_firstLike_1 : decode cX4_firstLike 1 = .ok (.sipush 1003, 3) := by decide +kernel
theorem dX4_firstLike_4 : decode cX4_firstLike 4 = .ok (.invokevirtual 28, 3) := by decide +kernel
theorem dX4_firstLike_7 : decode cX4_firstLike 7 = .ok (.ifCond .eq 7, 3) := by decide +kernel
theorem dX4_firstLike_10 : decode cX4_firstLike 10 = .ok (.iload_n 1, 1) := by decide +kernel
theorem dX4_firstLike_11 : decode cX4_firstLike 11 = .ok (.goto 21, 3) := by decide +kernel
theorem dX4_firstLike_14 : decode cX4_firstLike 14 = .ok (.aload_n 0, 1) := by decide +kernel
theorem dX4_firstLike_15 : decode cX4_firstLike 15 = .ok (.sipush 1002, 3) := by decide +kernel
theorem dX4_firstLike_18 : decode cX4_firstLike 18 = .ok (.invokevirtual 28, 3) := by decide +kernel
theorem dX4_firstLike_21 : decode cX4_firstLike 21 = .ok (.ifCond .eq 10, 3) := by decide +kernel
theorem dX4_firstLike_24 : decode cX4_firstLike 24 = .ok (.iload_n 1, 1) := by decide +kernel
theorem dX4_firstLike_25 : decode cX4_firstLike 25 = .ok (.bipush 24, 2) := by decide +kernel
theorem dX4_firstLike_27 : decode cX4_firstLike 27 = .ok (.irem, 1) := by decide +kernel
theorem dX4_firstLike_28 : decode cX4_firstLike 28 = .ok (.goto 4, 3) := by decide +kernel
theorem dX4_firstLike_31 : decode cX4_firstLike 31 = .ok (.iconst 0, 1) := by decide +kernel
theorem dX4_firstLike_32 : decode cX4_firstLike 32 = .ok (.ireturn, 1) := by decide +kernel
theorem dX4_isTold_0 : decode cX4_isTold 0 = .ok (.aload_n 0, 1) := by decide +kernel
theorem dX4_isTold_1 : decode cX4_isTold 1 = .ok (.getfield 21, 3) := by decide +kernel
theorem dX4_isTold_4 : decode cX4_isTold 4 = .ok (.ifCond .le 7, 3) := by decide +kernel
theorem dX4_isTold_7 : decode cX4_isTold 7 = .ok (.iconst 1, 1) := by decide +kernel
theorem dX4_isTold_8 : decode cX4_isTold 8 = .ok (.goto 4, 3) := by decide +kernel
theorem dX4_isTold_11 : decode cX4_isTold 11 = .ok (.iconst 0, 1) := by decide +kernel
theorem dX4_isTold_12 : decode cX4_isTold 12 = .ok (.ireturn, 1) := by decide +kernel
theorem dX4_value_0 : decode cX4_value 0 = .ok (.aload_n 0, 1) := by decide +kernel
theorem dX4_value_1 : decode cX4_value 1 = .ok (.getfield 18, 3) := by decide +kernel
theorem dX4_value_4 : decode cX4_value 4 = .ok (.iconst 0, 1) := by decide +kernel
theorem dX4_value_5 : decode cX4_value 5 = .ok (.iload_n 1, 1) := by decide +kernel
theorem dX4_value_6 : decode cX4_value 6 = .ok (.iastore, 1) := by decide +kernel
theorem dX4_value_7 : decode cX4_value 7 = .ok (.aload_n 0, 1) := by decide +kernel
theorem dX4_value_8 : decode cX4_value 8 = .ok (.getfield 18, 3) := by decide +kernel
theorem dX4_value_11 : decode cX4_value 11 = .ok (.iconst 1, 1) := by decide +kernel
theorem dX4_value_12 : decode cX4_value 12 = .ok (.iload_n 2, 1) := by decide +kernel
theorem dX4_value_13 : decode cX4_value 13 = .ok (.iastore, 1) := by decide +kernel
theorem dX4_value_14 : decode cX4_value 14 = .ok (.aload_n 0, 1) := by decide +kernel
theorem dX4_value_15 : decode cX4_value 15 = .ok (.getfield 18, 3) := by decide +kernel
theorem dX4_value_18 : decode cX4_value 18 = .ok (.iconst 2, 1) := by decide +kernel
theorem dX4_value_19 : decode cX4_value 19 = .ok (.iload_n 3, 1) := by decide +kernel
theorem dX4_value_20 : decode cX4_value 20 = .ok (.bipush 24, 2) := by decide +kernel
theorem dX4_value_22 : decode cX4_value 22 = .ok (.irem, 1) := by decide +kernel
theorem dX4_value_23 : decode cX4_value 23 = .ok (.iastore, 1) := by decide +kernel
theorem dX4_value_24 : decode cX4_value 24 = .ok (.aload_n 0, 1) := by decide +kernel
theorem dX4_value_25 : decode cX4_value 25 = .ok (.getfield 18, 3) := by decide +kernel
theorem dX4_value_28 : decode cX4_value 28 = .ok (.iconst 3, 1) := by decide +kernel
theorem dX4_value_29 : decode cX4_value 29 = .ok (.iload_n 3, 1) := by decide +kernel
theorem dX4_value_30 : decode cX4_value 30 = .ok (.bipush 24, 2) := by decide +kernel
theorem dX4_value_32 : decode cX4_value 32 = .ok (.idiv, 1) := by decide +kernel
theorem dX4_value_33 : decode cX4_value 33 = .ok (.iastore, 1) := by decide +kernel
theorem dX4_value_34 : decode cX4_value 34 = .ok (.aload_n 0, 1) := by decide +kernel
theorem dX4_value_35 : decode cX4_value 35 = .ok (.getfield 18, 3) := by decide +kernel
theorem dX4_value_38 : decode cX4_value 38 = .ok (.iconst 4, 1) := by decide +kernel
theorem dX4_value_39 : decode cX4_value 39 = .ok (.iload 4, 2) := by decide +kernel
theorem dX4_value_41 : decode cX4_value 41 = .ok (.iastore, 1) := by decide +kernel
theorem dX4_value_42 : decode cX4_value 42 = .ok (.aload_n 0, 1) := by decide +kernel
theorem dX4_value_43 : decode cX4_value 43 = .ok (.getfield 18, 3) := by decide +kernel
theorem dX4_value_46 : decode cX4_value 46 = .ok (.iconst 5, 1) := by decide +kernel
theorem dX4_value_47 : decode cX4_value 47 = .ok (.iload 5, 2) := by decide +kernel
theorem dX4_value_49 : decode cX4_value 49 = .ok (.iastore, 1) := by decide +kernel
theorem dX4_value_50 : decode cX4_value 50 = .ok (.iconst 0, 1) := by decide +kernel
theorem dX4_value_51 : decode cX4_value 51 = .ok (.istore 6, 2) := by decide +kernel
theorem dX4_value_53 : decode cX4_value 53 = .ok (.iconst 0, 1) := by decide +kernel
theorem dX4_value_54 : decode cX4_value 54 = .ok (.istore 7, 2) := by decide +kernel
theorem dX4_value_56 : decode cX4_value 56 = .ok (.iload 7, 2) := by decide +kernel
theorem dX4_value_58 : decode cX4_value 58 = .ok (.aload_n 0, 1) := by decide +kernel
theorem dX4_value_59 : decode cX4_value 59 = .ok (.getfield 21, 3) := by decide +kernel
theorem dX4_value_62 : decode cX4_value 62 = .ok (.if_icmp .ge 285, 3) := by decide +kernel
theorem dX4_value_65 : decode cX4_value 65 = .ok (.aload_n 0, 1) := by decide +kernel
theorem dX4_value_66 : decode cX4_value 66 = .ok (.getfield 9, 3) := by decide +kernel
theorem dX4_value_69 : decode cX4_value 69 = .ok (.iload 7, 2) := by decide +kernel
theorem dX4_value_71 : decode cX4_value 71 = .ok (.iaload, 1) := by decide +kernel
theorem dX4_value_72 : decode cX4_value 72 = .ok (.istore 8, 2) := by decide +kernel
theorem dX4_value_74 : decode cX4_value 74 = .ok (.iload 8, 2) := by decide +kernel
theorem dX4_value_76 : decode cX4_value 76 = .ok (.sipush 2000, 3) := by decide +kernel
theorem dX4_value_79 : decode cX4_value 79 = .ok (.if_icmp .ge 58, 3) := by decide +kernel
theorem dX4_value_82 : decode cX4_value 82 = .ok (.iload 6, 2) := by decide +kernel
theorem dX4_value_84 : decode cX4_value 84 = .ok (.aload_n 0, 1) := by decide +kernel
theorem dX4_value_85 : decode cX4_value 85 = .ok (.getfield 15, 3) := by decide +kernel
theorem dX4_value_88 : decode cX4_value 88 = .ok (.arraylength, 1) := by decide +kernel
theorem dX4_value_89 : decode cX4_value 89 = .ok (.if_icmp .ge 252, 3) := by decide +kernel
theorem dX4_value_92 : decode cX4_value 92 = .ok (.aload_n 0, 1) := by decide +kernel
theorem dX4_value_93 : decode cX4_value 93 = .ok (.getfield 15, 3) := by decide +kernel
theorem dX4_value_96 : decode cX4_value 96 = .ok (.iload 6, 2) := by decide +kernel
theorem dX4_value_98 : decode cX4_value 98 = .ok (.iload 8, 2) := by decide +kernel
theorem dX4_value_100 : decode cX4_value 100 = .ok (.sipush 1000, 3) := by decide +kernel
theorem dX4_value_103 : decode cX4_value 103 = .ok (.if_icmp .lt 25, 3) := by decide +kernel
theorem dX4_value_106 : decode cX4_value 106 = .ok (.iload 8, 2) := by decide +kernel
theorem dX4_value_108 : decode cX4_value 108 = .ok (.sipush 1005, 3) := by decide +kernel
theorem dX4_value_111 : decode cX4_value 111 = .ok (.if_icmp .gt 17, 3) := by decide +kernel
theorem dX4_value_114 : decode cX4_value 114 = .ok (.aload_n 0, 1) := by decide +kernel
theorem dX4_value_115 : decode cX4_value 115 = .ok (.getfield 18, 3) := by decide +kernel
theorem dX4_value_118 : decode cX4_value 118 = .ok (.iload 8, 2) := by decide +kernel
theorem dX4_value_120 : decode cX4_value 120 = .ok (.sipush 1000, 3) := by decide +kernel
theorem dX4_value_123 : decode cX4_value 123 = .ok (.isub, 1) := by decide +kernel
theorem dX4_value_124 : decode cX4_value 124 = .ok (.iaload, 1) := by decide +kernel
theorem dX4_value_125 : decode cX4_value 125 = .ok (.goto 5, 3) := by decide +kernel
theorem dX4_value_128 : decode cX4_value 128 = .ok (.iload 8, 2) := by decide +kernel
theorem dX4_value_130 : decode cX4_value 130 = .ok (.iastore, 1) := by decide +kernel
theorem dX4_value_131 : decode cX4_value 131 = .ok (.iinc 6 1, 3) := by decide +kernel
theorem dX4_value_134 : decode cX4_value 134 = .ok (.goto 207, 3) := by decide +kernel
theorem dX4_value_137 : decode cX4_value 137 = .ok (.iload 6, 2) := by decide +kernel
theorem dX4_value_139 : decode cX4_value 139 = .ok (.iconst 2, 1) := by decide +kernel
theorem dX4_value_140 : decode cX4_value 140 = .ok (.if_icmp .ge 6, 3) := by decide +kernel
theorem dX4_value_143 : decode cX4_value 143 = .ok (.goto 198, 3) := by decide +kernel
theorem dX4_value_146 : decode cX4_value 146 = .ok (.iinc 6 (-1), 3) := by decide +kernel
theorem dX4_value_149 : decode cX4_value 149 = .ok (.aload_n 0, 1) := by decide +kernel
theorem dX4_value_150 : decode cX4_value 150 = .ok (.getfield 15, 3) := by decide +kernel
theorem dX4_value_153 : decode cX4_value 153 = .ok (.iload 6, 2) := by decide +kernel
theorem dX4_value_155 : decode cX4_value 155 = .ok (.iconst 1, 1) := by decide +kernel
theorem dX4_value_156 : decode cX4_value 156 = .ok (.isub, 1) := by decide +kernel
theorem dX4_value_157 : decode cX4_value 157 = .ok (.iaload, 1) := by decide +kernel
theorem dX4_value_158 : decode cX4_value 158 = .ok (.i2l, 1) := by decide +kernel
theorem dX4_value_159 : decode cX4_value 159 = .ok (.lstore 9, 2) := by decide +kernel
theorem dX4_value_161 : decode cX4_value 161 = .ok (.aload_n 0, 1) := by decide +kernel
theorem dX4_value_162 : decode cX4_value 162 = .ok (.getfield 15, 3) := by decide +kernel
theorem dX4_value_165 : decode cX4_value 165 = .ok (.iload 6, 2) := by decide +kernel
theorem dX4_value_167 : decode cX4_value 167 = .ok (.iaload, 1) := by decide +kernel
theorem dX4_value_168 : decode cX4_value 168 = .ok (.i2l, 1) := by decide +kernel
theorem dX4_value_169 : decode cX4_value 169 = .ok (.lstore 11, 2) := by decide +kernel
theorem dX4_value_171 : decode cX4_value 171 = .ok (.iload 8, 2) := by decide +kernel
theorem dX4_value_173 : decode cX4_value 173 = .ok (.tableswitch 137 2000 2006 #[43, 53, 63, 73, 91, 109, 127], 43) := by decide +kernel
theorem dX4_value_216 : decode cX4_value 216 = .ok (.lload 9, 2) := by decide +kernel
theorem dX4_value_218 : decode cX4_value 218 = .ok (.lload 11, 2) := by decide +kernel
theorem dX4_value_220 : decode cX4_value 220 = .ok (.ladd, 1) := by decide +kernel
theorem dX4_value_221 : decode cX4_value 221 = .ok (.lstore 13, 2) := by decide +kernel
theorem dX4_value_223 : decode cX4_value 223 = .ok (.goto 94, 3) := by decide +kernel
theorem dX4_value_226 : decode cX4_value 226 = .ok (.lload 9, 2) := by decide +kernel
theorem dX4_value_228 : decode cX4_value 228 = .ok (.lload 11, 2) := by decide +kernel
theorem dX4_value_230 : decode cX4_value 230 = .ok (.lsub, 1) := by decide +kernel
theorem dX4_value_231 : decode cX4_value 231 = .ok (.lstore 13, 2) := by decide +kernel
theorem dX4_value_233 : decode cX4_value 233 = .ok (.goto 84, 3) := by decide +kernel
theorem dX4_value_236 : decode cX4_value 236 = .ok (.lload 9, 2) := by decide +kernel
theorem dX4_value_238 : decode cX4_value 238 = .ok (.lload 11, 2) := by decide +kernel
theorem dX4_value_240 : decode cX4_value 240 = .ok (.lmul, 1) := by decide +kernel
theorem dX4_value_241 : decode cX4_value 241 = .ok (.lstore 13, 2) := by decide +kernel
theorem dX4_value_243 : decode cX4_value 243 = .ok (.goto 74, 3) := by decide +kernel
theorem dX4_value_246 : decode cX4_value 246 = .ok (.lload 9, 2) := by decide +kernel
theorem dX4_value_248 : decode cX4_value 248 = .ok (.lload 11, 2) := by decide +kernel
theorem dX4_value_250 : decode cX4_value 250 = .ok (.lcmp, 1) := by decide +kernel
theorem dX4_value_251 : decode cX4_value 251 = .ok (.ifCond .ne 7, 3) := by decide +kernel
theorem dX4_value_254 : decode cX4_value 254 = .ok (.lconst 1, 1) := by decide +kernel
theorem dX4_value_255 : decode cX4_value 255 = .ok (.goto 4, 3) := by decide +kernel
theorem dX4_value_258 : decode cX4_value 258 = .ok (.lconst 0, 1) := by decide +kernel
theorem dX4_value_259 : decode cX4_value 259 = .ok (.lstore 13, 2) := by decide +kernel
theorem dX4_value_261 : decode cX4_value 261 = .ok (.goto 56, 3) := by decide +kernel
theorem dX4_value_264 : decode cX4_value 264 = .ok (.lload 9, 2) := by decide +kernel
theorem dX4_value_266 : decode cX4_value 266 = .ok (.lload 11, 2) := by decide +kernel
theorem dX4_value_268 : decode cX4_value 268 = .ok (.lcmp, 1) := by decide +kernel
theorem dX4_value_269 : decode cX4_value 269 = .ok (.ifCond .ge 7, 3) := by decide +kernel
theorem dX4_value_272 : decode cX4_value 272 = .ok (.lconst 1, 1) := by decide +kernel
theorem dX4_value_273 : decode cX4_value 273 = .ok (.goto 4, 3) := by decide +kernel
theorem dX4_value_276 : decode cX4_value 276 = .ok (.lconst 0, 1) := by decide +kernel
theorem dX4_value_277 : decode cX4_value 277 = .ok (.lstore 13, 2) := by decide +kernel
theorem dX4_value_279 : decode cX4_value 279 = .ok (.goto 38, 3) := by decide +kernel
theorem dX4_value_282 : decode cX4_value 282 = .ok (.lload 9, 2) := by decide +kernel
theorem dX4_value_284 : decode cX4_value 284 = .ok (.lload 11, 2) := by decide +kernel
theorem dX4_value_286 : decode cX4_value 286 = .ok (.lcmp, 1) := by decide +kernel
theorem dX4_value_287 : decode cX4_value 287 = .ok (.ifCond .le 7, 3) := by decide +kernel
theorem dX4_value_290 : decode cX4_value 290 = .ok (.lconst 1, 1) := by decide +kernel
theorem dX4_value_291 : decode cX4_value 291 = .ok (.goto 4, 3) := by decide +kernel
theorem dX4_value_294 : decode cX4_value 294 = .ok (.lconst 0, 1) := by decide +kernel
theorem dX4_value_295 : decode cX4_value 295 = .ok (.lstore 13, 2) := by decide +kernel
theorem dX4_value_297 : decode cX4_value 297 = .ok (.goto 20, 3) := by decide +kernel
theorem dX4_value_300 : decode cX4_value 300 = .ok (.lload 9, 2) := by decide +kernel
theorem dX4_value_302 : decode cX4_value 302 = .ok (.lload 11, 2) := by decide +kernel
theorem dX4_value_304 : decode cX4_value 304 = .ok (.land, 1) := by decide +kernel
theorem dX4_value_305 : decode cX4_value 305 = .ok (.lstore 13, 2) := by decide +kernel
theorem dX4_value_307 : decode cX4_value 307 = .ok (.goto 10, 3) := by decide +kernel
theorem dX4_value_310 : decode cX4_value 310 = .ok (.lload 9, 2) := by decide +kernel
theorem dX4_value_312 : decode cX4_value 312 = .ok (.lload 11, 2) := by decide +kernel
theorem dX4_value_314 : decode cX4_value 314 = .ok (.lor, 1) := by decide +kernel
theorem dX4_value_315 : decode cX4_value 315 = .ok (.lstore 13, 2) := by decide +kernel
theorem dX4_value_317 : decode cX4_value 317 = .ok (.aload_n 0, 1) := by decide +kernel
theorem dX4_value_318 : decode cX4_value 318 = .ok (.getfield 15, 3) := by decide +kernel
theorem dX4_value_321 : decode cX4_value 321 = .ok (.iload 6, 2) := by decide +kernel
theorem dX4_value_323 : decode cX4_value 323 = .ok (.iconst 1, 1) := by decide +kernel
theorem dX4_value_324 : decode cX4_value 324 = .ok (.isub, 1) := by decide +kernel
theorem dX4_value_325 : decode cX4_value 325 = .ok (.ldc2_w 38, 3) := by decide +kernel
theorem dX4_value_328 : decode cX4_value 328 = .ok (.ldc2_w 40, 3) := by decide +kernel
theorem dX4_value_331 : decode cX4_value 331 = .ok (.lload 13, 2) := by decide +kernel
theorem dX4_value_333 : decode cX4_value 333 = .ok (.invokestatic 42, 3) := by decide +kernel
theorem dX4_value_336 : decode cX4_value 336 = .ok (.invokestatic 48, 3) := by decide +kernel
theorem dX4_value_339 : decode cX4_value 339 = .ok (.l2i, 1) := by decide +kernel
theorem dX4_value_340 : decode cX4_value 340 = .ok (.iastore, 1) := by decide +kernel
theorem dX4_value_341 : decode cX4_value 341 = .ok (.iinc 7 1, 3) := by decide +kernel
theorem dX4_value_344 : decode cX4_value 344 = .ok (.goto (-288), 3) := by decide +kernel
theorem dX4_value_347 : decode cX4_value 347 = .ok (.aload_n 0, 1) := by decide +kernel
theorem dX4_value_348 : decode cX4_value 348 = .ok (.getfield 15, 3) := by decide +kernel
theorem dX4_value_351 : decode cX4_value 351 = .ok (.iconst 0, 1) := by decide +kernel
theorem dX4_value_352 : decode cX4_value 352 = .ok (.iaload, 1) := by decide +kernel
theorem dX4_value_353 : decode cX4_value 353 = .ok (.ireturn, 1) := by decide +kernel
theorem o10_1 {x0 : Int} (h0 : x0 = 0) : 0 ≤ x0 := by omega
theorem o10_2 {x0 : Int} (h0 : x0 = 0) : x0 ≤ 900 := by omega
theorem o10_3 {x0 : Int} (h0 : x0 = 0) : x0 ≤ 1 := by omega
theorem o10_4 {x0 : Int} (h0 : x0 = 1) : 0 ≤ x0 := by omega
theorem o10_5 {x0 : Int} (h0 : x0 = 1) : x0 ≤ 1 := by omega
theorem o10_6 {x0 x1 x2 x3 : Int} (h0 : x2 = 1000) (h1 : x2 ≤ x0) (h2 : x3 = 1005) (h3 : x0 ≤ x3) (h4 : x1 = 1000) (h5 : -2147483648 ≤ x0) (h6 : x0 ≤ 2147483647) (h7 : -2147483648 ≤ x1) (h8 : x1 ≤ 2147483647) (h9 : -2147483648 ≤ x2) (h10 : x2 ≤ 2147483647) (h11 : -2147483648 ≤ x3) (h12 : x3 ≤ 2147483647) : -2147483648 ≤ x0 - x1 := by omega
theorem o10_7 {x0 x1 x2 x3 : Int} (h0 : x2 = 1000) (h1 : x2 ≤ x0) (h2 : x3 = 1005) (h3 : x0 ≤ x3) (h4 : x1 = 1000) (h5 : -2147483648 ≤ x0) (h6 : x0 ≤ 2147483647) (h7 : -2147483648 ≤ x1) (h8 : x1 ≤ 2147483647) (h9 : -2147483648 ≤ x2) (h10 : x2 ≤ 2147483647) (h11 : -2147483648 ≤ x3) (h12 : x3 ≤ 2147483647) : x0 - x1 ≤ 2147483647 := by omega
theorem o10_8 {x0 x1 x2 : Int} (h0 : 0 ≤ x1) (h1 : x1 ≤ 900) (h2 : x2 = (900 : Nat)) (h3 : x1 < x2) (h4 : 0 ≤ x0) (h5 : x0 ≤ 900) (h6 : x0 = x1) : 0 ≤ x0 := by omega
theorem o10_9 {x0 x1 x2 : Int} (h0 : 0 ≤ x1) (h1 : x1 ≤ 900) (h2 : x2 = (900 : Nat)) (h3 : x1 < x2) (h4 : 0 ≤ x0) (h5 : x0 ≤ 900) (h6 : x0 = x1) : x0 < (900 : Nat) := by omega
theorem o10_10 {x0 x1 x2 x3 x4 : Int} (h0 : 0 ≤ x2) (h1 : x2 ≤ 900) (h2 : x3 = (900 : Nat)) (h3 : x2 < x3) (h4 : 0 ≤ x4) (h5 : x4 ≤ 900) (h6 : x4 = x2) (h7 : 0 ≤ x0) (h8 : x0 ≤ 900) (h9 : x0 = x2) (h10 : x1 = 1) (h11 : -2147483648 ≤ x0) (h12 : x0 ≤ 2147483647) (h13 : -2147483648 ≤ x1) (h14 : x1 ≤ 2147483647) (h15 : -2147483648 ≤ x2) (h16 : x2 ≤ 2147483647) (h17 : -2147483648 ≤ x3) (h18 : x3 ≤ 2147483647) (h19 : -2147483648 ≤ x4) (h20 : x4 ≤ 2147483647) : -2147483648 ≤ x0 + x1 := by omega
theorem o10_11 {x0 x1 x2 x3 x4 : Int} (h0 : 0 ≤ x2) (h1 : x2 ≤ 900) (h2 : x3 = (900 : Nat)) (h3 : x2 < x3) (h4 : 0 ≤ x4) (h5 : x4 ≤ 900) (h6 : x4 = x2) (h7 : 0 ≤ x0) (h8 : x0 ≤ 900) (h9 : x0 = x2) (h10 : x1 = 1) (h11 : -2147483648 ≤ x0) (h12 : x0 ≤ 2147483647) (h13 : -2147483648 ≤ x1) (h14 : x1 ≤ 2147483647) (h15 : -2147483648 ≤ x2) (h16 : x2 ≤ 2147483647) (h17 : -2147483648 ≤ x3) (h18 : x3 ≤ 2147483647) (h19 : -2147483648 ≤ x4) (h20 : x4 ≤ 2147483647) : x0 + x1 ≤ 2147483647 := by omega
theorem o10_12 {x0 x1 x2 x3 x4 x5 : Int} (h0 : 0 ≤ x1) (h1 : x1 ≤ 900) (h2 : x2 = (900 : Nat)) (h3 : x1 < x2) (h4 : 0 ≤ x3) (h5 : x3 ≤ 900) (h6 : x3 = x1) (h7 : 0 ≤ x4) (h8 : x4 ≤ 900) (h9 : x4 = x1) (h10 : x5 = 1) (h11 : x0 = x4 + x5) : 0 ≤ x0 := by omega
theorem o10_13 {x0 x1 x2 x3 x4 x5 : Int} (h0 : 0 ≤ x1) (h1 : x1 ≤ 900) (h2 : x2 = (900 : Nat)) (h3 : x1 < x2) (h4 : 0 ≤ x3) (h5 : x3 ≤ 900) (h6 : x3 = x1) (h7 : 0 ≤ x4) (h8 : x4 ≤ 900) (h9 : x4 = x1) (h10 : x5 = 1) (h11 : x0 = x4 + x5) : x0 ≤ 900 := by omega
theorem o10_14 {x0 : Int} (h0 : x0 = 1) : x0 = 1 := by omega
theorem o10_15 {x0 : Int} (h0 : x0 = 0) : x0 ≤ 239 := by omega
theorem o10_16 {x0 : Int} (h0 : x0 = 24) : x0 = 24 := by omega
theorem o10_17 {x0 : Int} (h0 : 0 ≤ x0) (h1 : x0 ≤ 239) : 0 ≤ x0 := by omega
theorem o10_18 {x0 x1 : Int} (h0 : 0 ≤ x1) (h1 : x1 ≤ 239) (h2 : x0 = x1 % 24) : 0 ≤ x0 := by omega
theorem o10_19 {x0 x1 : Int} (h0 : 0 ≤ x1) (h1 : x1 ≤ 239) (h2 : x0 = x1 % 24) : x0 ≤ 239 := by omega
theorem o10_20 {x0 : Int} (h0 : 0 ≤ x0) (h1 : x0 ≤ 239) : x0 ≤ 239 := by omega
theorem o10_21 {x0 : Int} (h0 : x0 = 0) : x0 ≤ 3 := by omega
theorem o10_22 {x0 : Int} (h0 : 0 ≤ x0) (h1 : x0 ≤ 3) : 0 ≤ x0 := by omega
theorem o10_23 {x0 : Int} (h0 : 0 ≤ x0) (h1 : x0 ≤ 3) : x0 ≤ 3 := by omega
theorem o10_24 {x0 : Int} (h0 : 0 ≤ x0) (h1 : x0 ≤ 900) : 0 ≤ x0 := by omega
theorem o10_25 {x0 : Int} (h0 : 0 ≤ x0) (h1 : x0 ≤ 900) : x0 ≤ 900 := by omega
theorem o10_26 {x0 : Int} (h0 : x0 = 0) : x0 = 0 := by omega
theorem o10_27 {x0 x1 : Int} (h0 : 0 ≤ x1) (h1 : x1 ≤ 900) (h2 : 0 ≤ x0) (h3 : x0 ≤ 900) (h4 : x0 = x1) : 0 ≤ x0 := by omega
theorem o10_28 {x0 x1 : Int} (h0 : 0 ≤ x1) (h1 : x1 ≤ 900) (h2 : 0 ≤ x0) (h3 : x0 ≤ 900) (h4 : x0 = x1) : x0 ≤ (900 : Nat) := by omega
theorem o10_29 {x0 : Int} (h0 : x0 = 0) : x0 < (6 : Nat) := by omega
theorem o10_30 {x0 : Int} (h0 : x0 = 1) : x0 < (6 : Nat) := by omega
theorem o10_31 {x0 : Int} (h0 : x0 = 24) : x0 ≠ 0 := by omega
theorem o10_32 {x0 : Int} (h0 : x0 = 2) : 0 ≤ x0 := by omega
theorem o10_33 {x0 : Int} (h0 : x0 = 2) : x0 < (6 : Nat) := by omega
theorem o10_34 {x0 : Int} (h0 : x0 = 3) : 0 ≤ x0 := by omega
theorem o10_35 {x0 : Int} (h0 : x0 = 3) : x0 < (6 : Nat) := by omega
theorem o10_36 {x0 : Int} (h0 : x0 = 4) : 0 ≤ x0 := by omega
theorem o10_37 {x0 : Int} (h0 : x0 = 4) : x0 < (6 : Nat) := by omega
theorem o10_38 {x0 : Int} (h0 : x0 = 5) : 0 ≤ x0 := by omega
theorem o10_39 {x0 : Int} (h0 : x0 = 5) : x0 < (6 : Nat) := by omega
theorem o10_40 {x0 : Int} (h0 : 0 ≤ x0) (h1 : x0 ≤ 900) (h2 : 900 - x0 < 0) : False := by omega
theorem o10_41 {x0 : Int} (h0 : x0 = 0) : x0 < (64 : Nat) := by omega
theorem o10_42 {x0 x2 : Int} {x1 : Nat} (h0 : 0 ≤ x0) (h1 : x0 ≤ 900) (h2 : 900 - x0 < ((x1 + 1 : Nat) : Int)) (h3 : 0 ≤ x2) (h4 : x2 ≤ 900) (h5 : x0 < x2) : 0 ≤ x0 := by omega
theorem o10_43 {x0 x2 : Int} {x1 : Nat} (h0 : 0 ≤ x0) (h1 : x0 ≤ 900) (h2 : 900 - x0 < ((x1 + 1 : Nat) : Int)) (h3 : 0 ≤ x2) (h4 : x2 ≤ 900) (h5 : x0 < x2) : x0 < (900 : Nat) := by omega
theorem o10_44 {x0 x1 : Int} (h0 : 0 ≤ x0) (h1 : x0 ≤ 64) (h2 : x1 = 2) (h3 : x1 ≤ x0) (h4 : -2147483648 ≤ x0) (h5 : x0 ≤ 2147483647) (h6 : -2147483648 ≤ x1) (h7 : x1 ≤ 2147483647) : -2147483648 ≤ x0 + (-1) := by omega
theorem o10_45 {x0 x1 : Int} (h0 : 0 ≤ x0) (h1 : x0 ≤ 64) (h2 : x1 = 2) (h3 : x1 ≤ x0) (h4 : -2147483648 ≤ x0) (h5 : x0 ≤ 2147483647) (h6 : -2147483648 ≤ x1) (h7 : x1 ≤ 2147483647) : x0 + (-1) ≤ 2147483647 := by omega
theorem o10_46 {x0 x1 x2 x3 : Int} (h0 : 0 ≤ x2) (h1 : x2 ≤ 64) (h2 : x3 = 2) (h3 : x3 ≤ x2) (h4 : x0 = x2 + (-1)) (h5 : x1 = 1) (h6 : -2147483648 ≤ x0) (h7 : x0 ≤ 2147483647) (h8 : -2147483648 ≤ x1) (h9 : x1 ≤ 2147483647) (h10 : -2147483648 ≤ x2) (h11 : x2 ≤ 2147483647) (h12 : -2147483648 ≤ x3) (h13 : x3 ≤ 2147483647) : -2147483648 ≤ x0 - x1 := by omega
theorem o10_47 {x0 x1 x2 x3 : Int} (h0 : 0 ≤ x2) (h1 : x2 ≤ 64) (h2 : x3 = 2) (h3 : x3 ≤ x2) (h4 : x0 = x2 + (-1)) (h5 : x1 = 1) (h6 : -2147483648 ≤ x0) (h7 : x0 ≤ 2147483647) (h8 : -2147483648 ≤ x1) (h9 : x1 ≤ 2147483647) (h10 : -2147483648 ≤ x2) (h11 : x2 ≤ 2147483647) (h12 : -2147483648 ≤ x3) (h13 : x3 ≤ 2147483647) : x0 - x1 ≤ 2147483647 := by omega
theorem o10_48 {x0 x1 x2 x3 x4 : Int} (h0 : 0 ≤ x1) (h1 : x1 ≤ 64) (h2 : x2 = 2) (h3 : x2 ≤ x1) (h4 : x3 = x1 + (-1)) (h5 : x4 = 1) (h6 : x0 = x3 - x4) : 0 ≤ x0 := by omega
theorem o10_49 {x0 x1 x2 x3 x4 : Int} (h0 : 0 ≤ x1) (h1 : x1 ≤ 64) (h2 : x2 = 2) (h3 : x2 ≤ x1) (h4 : x3 = x1 + (-1)) (h5 : x4 = 1) (h6 : x0 = x3 - x4) : x0 < (64 : Nat) := by omega
theorem o10_50 {x0 x1 x2 x3 x4 : Int} (h0 : 0 ≤ x1) (h1 : x1 ≤ 64) (h2 : x2 = 2) (h3 : x2 ≤ x1) (h4 : x0 = x1 + (-1)) (h5 : x3 = 1) (h6 : x4 = x0 - x3) : 0 ≤ x0 := by omega
theorem o10_51 {x0 x1 x2 x3 x4 : Int} (h0 : 0 ≤ x1) (h1 : x1 ≤ 64) (h2 : x2 = 2) (h3 : x2 ≤ x1) (h4 : x0 = x1 + (-1)) (h5 : x3 = 1) (h6 : x4 = x0 - x3) : x0 < (64 : Nat) := by omega
theorem o10_52 {x0 x1 x2 x3 x4 x5 : Int} (h0 : 0 ≤ x2) (h1 : x2 ≤ 64) (h2 : x3 = 2) (h3 : x3 ≤ x2) (h4 : x0 = x2 + (-1)) (h5 : x4 = 1) (h6 : x5 = x0 - x4) (h7 : x1 = 1) (h8 : -2147483648 ≤ x0) (h9 : x0 ≤ 2147483647) (h10 : -2147483648 ≤ x1) (h11 : x1 ≤ 2147483647) (h12 : -2147483648 ≤ x2) (h13 : x2 ≤ 2147483647) (h14 : -2147483648 ≤ x3) (h15 : x3 ≤ 2147483647) (h16 : -2147483648 ≤ x4) (h17 : x4 ≤ 2147483647) (h18 : -2147483648 ≤ x5) (h19 : x5 ≤ 2147483647) : -2147483648 ≤ x0 - x1 := by omega
theorem o10_53 {x0 x1 x2 x3 x4 x5 : Int} (h0 : 0 ≤ x2) (h1 : x2 ≤ 64) (h2 : x3 = 2) (h3 : x3 ≤ x2) (h4 : x0 = x2 + (-1)) (h5 : x4 = 1) (h6 : x5 = x0 - x4) (h7 : x1 = 1) (h8 : -2147483648 ≤ x0) (h9 : x0 ≤ 2147483647) (h10 : -2147483648 ≤ x1) (h11 : x1 ≤ 2147483647) (h12 : -2147483648 ≤ x2) (h13 : x2 ≤ 2147483647) (h14 : -2147483648 ≤ x3) (h15 : x3 ≤ 2147483647) (h16 : -2147483648 ≤ x4) (h17 : x4 ≤ 2147483647) (h18 : -2147483648 ≤ x5) (h19 : x5 ≤ 2147483647) : x0 - x1 ≤ 2147483647 := by omega
theorem o10_54 {x0 x1 x2 x3 x4 x5 x6 : Int} (h0 : 0 ≤ x1) (h1 : x1 ≤ 64) (h2 : x2 = 2) (h3 : x2 ≤ x1) (h4 : x3 = x1 + (-1)) (h5 : x4 = 1) (h6 : x5 = x3 - x4) (h7 : x6 = 1) (h8 : x0 = x3 - x6) : 0 ≤ x0 := by omega
theorem o10_55 {x0 x1 x2 x3 x4 x5 x6 : Int} (h0 : 0 ≤ x1) (h1 : x1 ≤ 64) (h2 : x2 = 2) (h3 : x2 ≤ x1) (h4 : x3 = x1 + (-1)) (h5 : x4 = 1) (h6 : x5 = x3 - x4) (h7 : x6 = 1) (h8 : x0 = x3 - x6) : x0 < (64 : Nat) := by omega
theorem o10_56 {x0 x2 : Int} {x1 : Nat} (h0 : 0 ≤ x0) (h1 : x0 ≤ 900) (h2 : 900 - x0 < ((x1 + 1 : Nat) : Int)) (h3 : 0 ≤ x2) (h4 : x2 ≤ 900) (h5 : x0 < x2) (h6 : -2147483648 ≤ x0) (h7 : x0 ≤ 2147483647) (h8 : -2147483648 ≤ x2) (h9 : x2 ≤ 2147483647) : -2147483648 ≤ x0 + 1 := by omega
theorem o10_57 {x0 x2 : Int} {x1 : Nat} (h0 : 0 ≤ x0) (h1 : x0 ≤ 900) (h2 : 900 - x0 < ((x1 + 1 : Nat) : Int)) (h3 : 0 ≤ x2) (h4 : x2 ≤ 900) (h5 : x0 < x2) (h6 : -2147483648 ≤ x0) (h7 : x0 ≤ 2147483647) (h8 : -2147483648 ≤ x2) (h9 : x2 ≤ 2147483647) : x0 + 1 ≤ 2147483647 := by omega
theorem o10_58 {x0 x2 x3 : Int} {x1 : Nat} (h0 : 0 ≤ x2) (h1 : x2 ≤ 900) (h2 : 900 - x2 < ((x1 + 1 : Nat) : Int)) (h3 : 0 ≤ x3) (h4 : x3 ≤ 900) (h5 : x2 < x3) (h6 : x0 = x2 + 1) : 900 - x0 < (x1 : Int) := by omega
theorem o10_59 {x0 x1 x3 : Int} {x2 : Nat} (h0 : 0 ≤ x1) (h1 : x1 ≤ 900) (h2 : 900 - x1 < ((x2 + 1 : Nat) : Int)) (h3 : 0 ≤ x3) (h4 : x3 ≤ 900) (h5 : x1 < x3) (h6 : x0 = x1 + 1) : 0 ≤ x0 := by omega
theorem o10_60 {x0 x1 x3 : Int} {x2 : Nat} (h0 : 0 ≤ x1) (h1 : x1 ≤ 900) (h2 : 900 - x1 < ((x2 + 1 : Nat) : Int)) (h3 : 0 ≤ x3) (h4 : x3 ≤ 900) (h5 : x1 < x3) (h6 : x0 = x1 + 1) : x0 ≤ 900 := by omega
theorem o10_61 {x0 x1 x2 x3 x4 x5 x6 : Int} (h0 : 0 ≤ x1) (h1 : x1 ≤ 64) (h2 : x2 = 2) (h3 : x2 ≤ x1) (h4 : x0 = x1 + (-1)) (h5 : x3 = 1) (h6 : x4 = x0 - x3) (h7 : x5 = 1) (h8 : x6 = x0 - x5) : 0 ≤ x0 := by omega
theorem o10_62 {x0 x1 x2 x3 x4 x5 x6 : Int} (h0 : 0 ≤ x1) (h1 : x1 ≤ 64) (h2 : x2 = 2) (h3 : x2 ≤ x1) (h4 : x0 = x1 + (-1)) (h5 : x3 = 1) (h6 : x4 = x0 - x3) (h7 : x5 = 1) (h8 : x6 = x0 - x5) : x0 ≤ 64 := by omega
theorem o10_63 {x0 x1 : Int} (h0 : 0 ≤ x0) (h1 : x0 ≤ 64) (h2 : x1 = 2) (h3 : x0 < x1) : 0 ≤ x0 := by omega
theorem o10_64 {x0 x1 : Int} (h0 : 0 ≤ x0) (h1 : x0 ≤ 64) (h2 : x1 = 2) (h3 : x0 < x1) : x0 ≤ 64 := by omega
theorem o10_65 {x0 x1 : Int} (h0 : 0 ≤ x0) (h1 : x0 ≤ 64) (h2 : x1 = (64 : Nat)) (h3 : x1 ≤ x0) : 0 ≤ x0 := by omega
theorem o10_66 {x0 x1 : Int} (h0 : 0 ≤ x0) (h1 : x0 ≤ 64) (h2 : x1 = (64 : Nat)) (h3 : x1 ≤ x0) : x0 ≤ 64 := by omega
theorem o10_67 {x0 x1 : Int} (h0 : 0 ≤ x0) (h1 : x0 ≤ 64) (h2 : x1 = (64 : Nat)) (h3 : x0 < x1) : 0 ≤ x0 := by omega
theorem o10_68 {x0 x1 : Int} (h0 : 0 ≤ x0) (h1 : x0 ≤ 64) (h2 : x1 = (64 : Nat)) (h3 : x0 < x1) : x0 < (64 : Nat) := by omega
theorem o10_69 {x0 x1 : Int} (h0 : 0 ≤ x0) (h1 : x0 ≤ 64) (h2 : x1 = (64 : Nat)) (h3 : x0 < x1) (h4 : -2147483648 ≤ x0) (h5 : x0 ≤ 2147483647) (h6 : -2147483648 ≤ x1) (h7 : x1 ≤ 2147483647) : -2147483648 ≤ x0 + 1 := by omega
theorem o10_70 {x0 x1 : Int} (h0 : 0 ≤ x0) (h1 : x0 ≤ 64) (h2 : x1 = (64 : Nat)) (h3 : x0 < x1) (h4 : -2147483648 ≤ x0) (h5 : x0 ≤ 2147483647) (h6 : -2147483648 ≤ x1) (h7 : x1 ≤ 2147483647) : x0 + 1 ≤ 2147483647 := by omega
theorem o10_71 {x0 x1 x2 : Int} (h0 : 0 ≤ x1) (h1 : x1 ≤ 64) (h2 : x2 = (64 : Nat)) (h3 : x1 < x2) (h4 : x0 = x1 + 1) : 0 ≤ x0 := by omega
theorem o10_72 {x0 x1 x2 : Int} (h0 : 0 ≤ x1) (h1 : x1 ≤ 64) (h2 : x2 = (64 : Nat)) (h3 : x1 < x2) (h4 : x0 = x1 + 1) : x0 ≤ 64 := by omega
theorem o10_73 {x0 x1 x2 x3 x4 : Int} (h0 : x2 = 2000) (h1 : x0 < x2) (h2 : x3 = 1000) (h3 : x3 ≤ x0) (h4 : x4 = 1005) (h5 : x0 ≤ x4) (h6 : x1 = 1000) (h7 : -2147483648 ≤ x0) (h8 : x0 ≤ 2147483647) (h9 : -2147483648 ≤ x1) (h10 : x1 ≤ 2147483647) (h11 : -2147483648 ≤ x2) (h12 : x2 ≤ 2147483647) (h13 : -2147483648 ≤ x3) (h14 : x3 ≤ 2147483647) (h15 : -2147483648 ≤ x4) (h16 : x4 ≤ 2147483647) : -2147483648 ≤ x0 - x1 := by omega
theorem o10_74 {x0 x1 x2 x3 x4 : Int} (h0 : x2 = 2000) (h1 : x0 < x2) (h2 : x3 = 1000) (h3 : x3 ≤ x0) (h4 : x4 = 1005) (h5 : x0 ≤ x4) (h6 : x1 = 1000) (h7 : -2147483648 ≤ x0) (h8 : x0 ≤ 2147483647) (h9 : -2147483648 ≤ x1) (h10 : x1 ≤ 2147483647) (h11 : -2147483648 ≤ x2) (h12 : x2 ≤ 2147483647) (h13 : -2147483648 ≤ x3) (h14 : x3 ≤ 2147483647) (h15 : -2147483648 ≤ x4) (h16 : x4 ≤ 2147483647) : x0 - x1 ≤ 2147483647 := by omega
theorem o10_75 {x0 x1 x2 x3 x4 x5 : Int} (h0 : x1 = 2000) (h1 : x2 < x1) (h2 : x3 = 1000) (h3 : x3 ≤ x2) (h4 : x4 = 1005) (h5 : x2 ≤ x4) (h6 : x5 = 1000) (h7 : x0 = x2 - x5) : 0 ≤ x0 := by omega
theorem o10_76 {x0 x1 x2 x3 x4 x5 : Int} (h0 : x1 = 2000) (h1 : x2 < x1) (h2 : x3 = 1000) (h3 : x3 ≤ x2) (h4 : x4 = 1005) (h5 : x2 ≤ x4) (h6 : x5 = 1000) (h7 : x0 = x2 - x5) : x0 < (6 : Nat) := by omega
theorem o10_77 {x0 : Int} (h0 : x0 = 0) : 900 - x0 < (((900 - x0 + 1).toNat : Nat) : Int) := by omega
theorem o10_78 {x0 : Int} (h0 : x0 = 0) : x0 ≤ 64 := by omega
set_option maxHeartbeats 4000000 in
set_option maxRecDepth 100000 in
theorem c_X4_clear (l : Launch) (G : GG) (Z : RZ) (ad : Nat → Nat) (ws0 : va_W) (hT : Ty G (SC tt) ad ws0) (i0 : Nat) (hi0 : Kd (SC tt) i0 2) : Mq l yX4_clear cX4_clear 1 none 1 G Z [.ref (ad i0)] ws0 (PV G (SC tt) ad [2] ws0 (fun u => True)) := by
  refine Mq.start (by decide) (Nat.le_of_ble_eq_true rfl) ?_
  intro p e s m below meth c A ls C0 hZ h hl
  have hl : lv_has ls 1 [(0, .ref (ad i0))] := hl
  have h : Wt G (SC tt) ad A s s.heap [] ws0 := ⟨h, hT⟩
  obtain ⟨args, hargs⟩ : ∃ z, z = ([.ref (ad i0)] : List Value).toArray := ⟨_, rfl⟩
  rw [← hargs] at C0 ⊢
  have C0 : Cx p s m args meth c RX4 cX4_clear 1 none := C0
  obtain ⟨Q, hQ⟩ : ∃ z, z = MQ below ((PV G (SC tt) ad [2] ws0 (fun u => True)) A) args s 0 0 A := ⟨_, rfl⟩
  rw [← hQ]
  refine lv_aload_n C0.1 C0.2.1 dX4_clear_0 rfl (lv_at hl 0 rfl) ?_
  refine y_c1 (n := 0) C0 (by decide) dX4_clear_1 (fun v_1 e_2 => ?_)
  refine tp_X4_size C0 h hi0 q_170 (o10_1 e_2) (o10_2 e_2) dX4_clear_2 (fun H locs ws_3 h u_4 => ?_)
  refine lv_aload_n C0.1 C0.2.1 dX4_clear_5 rfl (lv_at hl 0 rfl) ?_
  refine y_c1 (n := 0) C0 (by decide) dX4_clear_6 (fun v_5 e_6 => ?_)
  refine tp_X4_named C0 h hi0 q_171 (le_min v_5) (le_max v_5) dX4_clear_7 (fun H locs ws_7 h u_8 => ?_)
  rw [hQ]
  exact y_vret C0 h (Fr.tr (Fr.up u_4.1 hi0 (by decide)) (Fr.up u_8.1 hi0 (by decide))) trivial dX4_clear_10
set_option maxHeartbeats 4000000 in
set_option maxRecDepth 100000 in
theorem c_X4_isTold (l : Launch) (G : GG) (Z : RZ) (ad : Nat → Nat) (ws0 : va_W) (hT : Ty G (SC tt) ad ws0) (i0 : Nat) (hi0 : Kd (SC tt) i0 2) : Mq l yX4_isTold cX4_isTold 1 (some .boolean) 1 G Z [.ref (ad i0)] ws0 (PI G (SC tt) ad [] ws0 (fun r u => (0 ≤ r.toInt) ∧ (r.toInt ≤ 1))) := by
  refine Mq.start (by decide) (Nat.le_of_ble_eq_true rfl) ?_
  intro p e s m below meth c A ls C0 hZ h hl
  have hl : lv_has ls 1 [(0, .ref (ad i0))] := hl
  have h : Wt G (SC tt) ad A s s.heap [] ws0 := ⟨h, hT⟩
  obtain ⟨args, hargs⟩ : ∃ z, z = ([.ref (ad i0)] : List Value).toArray := ⟨_, rfl⟩
  rw [← hargs] at C0 ⊢
  have C0 : Cx p s m args meth c RX4 cX4_isTold 1 (some .boolean) := C0
  obtain ⟨Q, hQ⟩ : ∃ z, z = MQ below ((PI G (SC tt) ad [] ws0 (fun r u => (0 ≤ r.toInt) ∧ (r.toInt ≤ 1))) A) args s 0 0 A := ⟨_, rfl⟩
  rw [← hQ]
  refine lv_aload_n C0.1 C0.2.1 dX4_isTold_0 rfl (lv_at hl 0 rfl) ?_
  refine tg_X4_size C0 h hi0 q_170 dX4_isTold_1 (fun v_1 e_2 e_3 e_4 => ?_)
  refine y_if_le (tgt := 11) C0 dX4_isTold_4 (by decide) (fun c_5 => ?_) (fun c_5 => ?_)
  · -- 4
    refine y_c1 (n := 0) C0 (by decide) dX4_isTold_11 (fun v_6 e_7 => ?_)
    rw [hQ]
    exact y_zret C0 h (o10_1 e_7) (o10_3 e_7) Fr.rf ⟨(o10_1 e_7), (o10_3 e_7)⟩ dX4_isTold_12
  · -- 4
    refine y_c1 (n := 1) C0 (by decide) dX4_isTold_7 (fun v_8 e_9 => ?_)
    refine lv_goto (tgt := 12) C0.1 C0.2.1 dX4_isTold_8 (by decide) ?_
    rw [hQ]
    exact y_zret C0 h (o10_4 e_9) (o10_5 e_9) Fr.rf ⟨(o10_4 e_9), (o10_5 e_9)⟩ dX4_isTold_12
set_option maxHeartbeats 4000000 in
set_option maxRecDepth 100000 in
theorem c_X4_add (l : Launch) (G : GG) (Z : RZ) (ad : Nat → Nat) (ws0 : va_W) (hT : Ty G (SC tt) ad ws0) (i0 : Nat) (hi0 : Kd (SC tt) i0 2) (a1 : Int32) : Mq l yX4_add cX4_add 2 none 1 G Z [.ref (ad i0), .int a1] ws0 (PV G (SC tt) ad [2, 3] ws0 (fun u => True)) := by
  refine Mq.start (by decide) (Nat.le_of_ble_eq_true rfl) ?_
  intro p e s m below meth c A ls C0 hZ h hl
  have hl : lv_has ls 2 [(0, .ref (ad i0)), (1, .int a1)] := hl
  have h : Wt G (SC tt) ad A s s.heap [] ws0 := ⟨h, hT⟩
  obtain ⟨args, hargs⟩ : ∃ z, z = ([.ref (ad i0), .int a1] : List Value).toArray := ⟨_, rfl⟩
  rw [← hargs] at C0 ⊢
  have C0 : Cx p s m args meth c RX4 cX4_add 2 none := C0
  obtain ⟨Q, hQ⟩ : ∃ z, z = MQ below ((PV G (SC tt) ad [2, 3] ws0 (fun u => True)) A) args s 0 0 A := ⟨_, rfl⟩
  rw [← hQ]
  refine lv_aload_n C0.1 C0.2.1 dX4_add_0 rfl (lv_at hl 0 rfl) ?_
  refine tg_X4_size C0 h hi0 q_170 dX4_add_1 (fun v_1 e_2 e_3 e_4 => ?_)
  refine lv_aload_n C0.1 C0.2.1 dX4_add_4 rfl (lv_at hl 0 rfl) ?_
  refine tg_X4_code C0 h hi0 q_167 dX4_add_5 ?_
  refine y_alenI (cA := G.2 0) C0 h (rSC_2_1 hi0) rfl rfl (by decide) dX4_add_8 (fun v_5 e_6 => ?_)
  refine y_icmp_ge (tgt := 32) C0 dX4_add_9 (by decide) (fun c_7 => ?_) (fun c_7 => ?_)
  · -- 9
    refine lv_iload_n C0.1 C0.2.1 dX4_add_32 rfl (lv_at hl 1 rfl) ?_
    refine y_c3 (n := 1000) C0 (by decide) dX4_add_33 (fun v_8 e_9 => ?_)
    refine y_icmp_lt (tgt := 62) C0 dX4_add_36 (by decide) (fun c_10 => ?_) (fun c_10 => ?_)
    · -- 36
      rw [hQ]
      exact y_vret C0 h Fr.rf trivial dX4_add_62
    · -- 36
      refine lv_iload_n C0.1 C0.2.1 dX4_add_39 rfl (lv_at hl 1 rfl) ?_
      refine y_c3 (n := 1005) C0 (by decide) dX4_add_40 (fun v_11 e_12 => ?_)
      refine y_icmp_gt (tgt := 62) C0 dX4_add_43 (by decide) (fun c_13 => ?_) (fun c_13 => ?_)
      · -- 43
        rw [hQ]
        exact y_vret C0 h Fr.rf trivial dX4_add_62
      · -- 43
        refine lv_aload_n C0.1 C0.2.1 dX4_add_46 rfl (lv_at hl 0 rfl) ?_
        refine lv_dup C0.1 C0.2.1 dX4_add_47 rfl ?_
        refine tg_X4_named C0 h hi0 q_171 dX4_add_48 (fun v_14 e_15 e_16 e_17 => ?_)
        refine y_c1 (n := 1) C0 (by decide) dX4_add_51 (fun v_18 e_19 => ?_)
        refine lv_iload_n C0.1 C0.2.1 dX4_add_52 rfl (lv_at hl 1 rfl) ?_
        refine y_c3 (n := 1000) C0 (by decide) dX4_add_53 (fun v_20 e_21 => ?_)
        refine y_sub C0 (o10_6 e_9 c_10 e_12 c_13 e_21 (le_min a1) (le_max a1) (le_min v_20) (le_max v_20) (le_min v_8) (le_max v_8) (le_min v_11) (le_max v_11)) (o10_7 e_9 c_10 e_12 c_13 e_21 (le_min a1) (le_max a1) (le_min v_20) (le_max v_20) (le_min v_8) (le_max v_8) (le_min v_11) (le_max v_11)) dX4_add_56 (fun v_22 e_23 => ?_)
        refine y_ishlU C0 dX4_add_57 (fun v_24 => ?_)
        refine y_iorU C0 dX4_add_58 (fun v_25 => ?_)
        refine tp_X4_named C0 h hi0 q_171 (le_min v_25) (le_max v_25) dX4_add_59 (fun H locs ws_26 h u_27 => ?_)
        rw [hQ]
        exact y_vret C0 h (Fr.up u_27.1 hi0 (by decide)) trivial dX4_add_62
  · -- 9
    refine lv_aload_n C0.1 C0.2.1 dX4_add_12 rfl (lv_at hl 0 rfl) ?_
    refine tg_X4_code C0 h hi0 q_167 dX4_add_13 ?_
    refine lv_aload_n C0.1 C0.2.1 dX4_add_16 rfl (lv_at hl 0 rfl) ?_
    refine tg_X4_size C0 h hi0 q_170 dX4_add_17 (fun v_28 e_29 e_30 e_31 => ?_)
    have q_32 : v_28.toInt = v_1.toInt := congrArg Int32.toInt (e_29.symm.trans (Eq.trans rfl e_2))
    refine lv_iload_n C0.1 C0.2.1 dX4_add_20 rfl (lv_at hl 1 rfl) ?_
    refine y_iast C0 h (rSC_2_1 hi0) rfl (by decide) (o10_8 e_3 e_4 e_6 c_7 e_30 e_31 q_32) (o10_9 e_3 e_4 e_6 c_7 e_30 e_31 q_32) (le_min a1) (le_max a1) dX4_add_21 (fun H locs ws_33 h u_34 => ?_)
    refine lv_aload_n C0.1 C0.2.1 dX4_add_22 rfl (lv_at hl 0 rfl) ?_
    refine lv_dup C0.1 C0.2.1 dX4_add_23 rfl ?_
    refine tg_X4_size C0 h hi0 q_170 dX4_add_24 (fun v_35 e_36 e_37 e_38 => ?_)
    have q_39 : v_35.toInt = v_1.toInt := congrArg Int32.toInt (e_36.symm.trans (Eq.trans (fI_of (u_34.1 i0 (kd_ne hi0 (rSC_2_1 hi0) (by decide)))) e_2))
    refine y_c1 (n := 1) C0 (by decide) dX4_add_27 (fun v_40 e_41 => ?_)
    refine y_add C0 (o10_10 e_3 e_4 e_6 c_7 e_30 e_31 q_32 e_37 e_38 q_39 e_41 (le_min v_35) (le_max v_35) (le_min v_40) (le_max v_40) (le_min v_1) (le_max v_1) (le_min v_5) (le_max v_5) (le_min v_28) (le_max v_28)) (o10_11 e_3 e_4 e_6 c_7 e_30 e_31 q_32 e_37 e_38 q_39 e_41 (le_min v_35) (le_max v_35) (le_min v_40) (le_max v_40) (le_min v_1) (le_max v_1) (le_min v_5) (le_max v_5) (le_min v_28) (le_max v_28)) dX4_add_28 (fun v_42 e_43 => ?_)
    refine tp_X4_size C0 h hi0 q_170 (o10_12 e_3 e_4 e_6 c_7 e_30 e_31 q_32 e_37 e_38 q_39 e_41 e_43) (o10_13 e_3 e_4 e_6 c_7 e_30 e_31 q_32 e_37 e_38 q_39 e_41 e_43) dX4_add_29 (fun H locs ws_44 h u_45 => ?_)
    refine lv_iload_n C0.1 C0.2.1 dX4_add_32 rfl (lv_at hl 1 rfl) ?_
    refine y_c3 (n := 1000) C0 (by decide) dX4_add_33 (fun v_46 e_47 => ?_)
    refine y_icmp_lt (tgt := 62) C0 dX4_add_36 (by decide) (fun c_48 => ?_) (fun c_48 => ?_)
    · -- 36
      rw [hQ]
      exact y_vret C0 h (Fr.tr (Fr.up u_34.1 (rSC_2_1 hi0) (by decide)) (Fr.up u_45.1 hi0 (by decide))) trivial dX4_add_62
    · -- 36
      refine lv_iload_n C0.1 C0.2.1 dX4_add_39 rfl (lv_at hl 1 rfl) ?_
      refine y_c3 (n := 1005) C0 (by decide) dX4_add_40 (fun v_49 e_50 => ?_)
      refine y_icmp_gt (tgt := 62) C0 dX4_add_43 (by decide) (fun c_51 => ?_) (fun c_51 => ?_)
      · -- 43
        rw [hQ]
        exact y_vret C0 h (Fr.tr (Fr.up u_34.1 (rSC_2_1 hi0) (by decide)) (Fr.up u_45.1 hi0 (by decide))) trivial dX4_add_62
      · -- 43
        refine lv_aload_n C0.1 C0.2.1 dX4_add_46 rfl (lv_at hl 0 rfl) ?_
        refine lv_dup C0.1 C0.2.1 dX4_add_47 rfl ?_
        refine tg_X4_named C0 h hi0 q_171 dX4_add_48 (fun v_52 e_53 e_54 e_55 => ?_)
        refine y_c1 (n := 1) C0 (by decide) dX4_add_51 (fun v_56 e_57 => ?_)
        refine lv_iload_n C0.1 C0.2.1 dX4_add_52 rfl (lv_at hl 1 rfl) ?_
        refine y_c3 (n := 1000) C0 (by decide) dX4_add_53 (fun v_58 e_59 => ?_)
        refine y_sub C0 (o10_6 e_47 c_48 e_50 c_51 e_59 (le_min a1) (le_max a1) (le_min v_58) (le_max v_58) (le_min v_46) (le_max v_46) (le_min v_49) (le_max v_49)) (o10_7 e_47 c_48 e_50 c_51 e_59 (le_min a1) (le_max a1) (le_min v_58) (le_max v_58) (le_min v_46) (le_max v_46) (le_min v_49) (le_max v_49)) dX4_add_56 (fun v_60 e_61 => ?_)
        refine y_ishlU C0 dX4_add_57 (fun v_62 => ?_)
        refine y_iorU C0 dX4_add_58 (fun v_63 => ?_)
        refine tp_X4_named C0 h hi0 q_171 (le_min v_63) (le_max v_63) dX4_add_59 (fun H locs ws_64 h u_65 => ?_)
        rw [hQ]
        exact y_vret C0 h (Fr.tr (Fr.tr (Fr.up u_34.1 (rSC_2_1 hi0) (by decide)) (Fr.up u_45.1 hi0 (by decide))) (Fr.up u_65.1 hi0 (by decide))) trivial dX4_add_62
set_option maxHeartbeats 4000000 in
set_option maxRecDepth 100000 in
theorem c_X4_asks (l : Launch) (G : GG) (Z : RZ) (ad : Nat → Nat) (ws0 : va_W) (hT : Ty G (SC tt) ad ws0) (i0 : Nat) (hi0 : Kd (SC tt) i0 2) (a1 : Int32) : Mq l yX4_asks cX4_asks 2 (some .boolean) 1 G Z [.ref (ad i0), .int a1] ws0 (PI G (SC tt) ad [] ws0 (fun r u => (0 ≤ r.toInt) ∧ (r.toInt ≤ 1))) := by
  refine Mq.start (by decide) (Nat.le_of_ble_eq_true rfl) ?_
  intro p e s m below meth c A ls C0 hZ h hl
  have hl : lv_has ls 2 [(0, .ref (ad i0)), (1, .int a1)] := hl
  have h : Wt G (SC tt) ad A s s.heap [] ws0 := ⟨h, hT⟩
  obtain ⟨args, hargs⟩ : ∃ z, z = ([.ref (ad i0), .int a1] : List Value).toArray := ⟨_, rfl⟩
  rw [← hargs] at C0 ⊢
  have C0 : Cx p s m args meth c RX4 cX4_asks 2 (some .boolean) := C0
  obtain ⟨Q, hQ⟩ : ∃ z, z = MQ below ((PI G (SC tt) ad [] ws0 (fun r u => (0 ≤ r.toInt) ∧ (r.toInt ≤ 1))) A) args s 0 0 A := ⟨_, rfl⟩
  rw [← hQ]
  refine lv_aload_n C0.1 C0.2.1 dX4_asks_0 rfl (lv_at hl 0 rfl) ?_
  refine tg_X4_named C0 h hi0 q_171 dX4_asks_1 (fun v_1 e_2 e_3 e_4 => ?_)
  refine lv_iload_n C0.1 C0.2.1 dX4_asks_4 rfl (lv_at hl 1 rfl) ?_
  refine y_c3 (n := 1000) C0 (by decide) dX4_asks_5 (fun v_5 e_6 => ?_)
  refine y_isubU C0 dX4_asks_8 (fun v_7 => ?_)
  refine y_ishrU C0 dX4_asks_9 (fun v_8 => ?_)
  refine y_c1 (n := 1) C0 (by decide) dX4_asks_10 (fun v_9 e_10 => ?_)
  refine y_and 1 1 (n := 1) C0 (Eq.trans (o10_14 e_10) (by decide)) (by decide) (by decide) (by decide) dX4_asks_11 (fun v_11 e_12 e_13 => ?_)
  refine y_if_eq (tgt := 19) C0 dX4_asks_12 (by decide) (fun c_14 => ?_) (fun c_14 => ?_)
  · -- 12
    refine y_c1 (n := 0) C0 (by decide) dX4_asks_19 (fun v_15 e_16 => ?_)
    rw [hQ]
    exact y_zret C0 h (o10_1 e_16) (o10_3 e_16) Fr.rf ⟨(o10_1 e_16), (o10_3 e_16)⟩ dX4_asks_20
  · -- 12
    refine y_c1 (n := 1) C0 (by decide) dX4_asks_15 (fun v_17 e_18 => ?_)
    refine lv_goto (tgt := 20) C0.1 C0.2.1 dX4_asks_16 (by decide) ?_
    rw [hQ]
    exact y_zret C0 h (o10_4 e_18) (o10_5 e_18) Fr.rf ⟨(o10_4 e_18), (o10_5 e_18)⟩ dX4_asks_20
set_option maxHeartbeats 4000000 in
set_option maxRecDepth 100000 in
theorem c_X4_firstLikeN (l : Launch) (G : GG) (Z : RZ) (ad : Nat → Nat) (ws0 : va_W) (hT : Ty G (SC tt) ad ws0) (i0 : Nat) (hi0 : Kd (SC tt) i0 2) (a1 : Int32) (l1 : 0 ≤ a1.toInt) (u1 : a1.toInt ≤ 239) : Mq l yX4_firstLike cX4_firstLike 2 (some .int) 2 G Z [.ref (ad i0), .int a1] ws0 (PI G (SC tt) ad [] ws0 (fun r u => (0 ≤ r.toInt) ∧ (r.toInt ≤ 239))) := by
  refine Mq.start (by decide) (Nat.le_of_ble_eq_true rfl) ?_
  intro p e s m below meth c A ls C0 hZ h hl
  have hl : lv_has ls 2 [(0, .ref (ad i0)), (1, .int a1)] := hl
  have h : Wt G (SC tt) ad A s s.heap [] ws0 := ⟨h, hT⟩
  obtain ⟨args, hargs⟩ : ∃ z, z = ([.ref (ad i0), .int a1] : List Value).toArray := ⟨_, rfl⟩
  rw [← hargs] at C0 ⊢
  have C0 : Cx p s m args meth c RX4 cX4_firstLike 2 (some .int) := C0
  obtain ⟨Q, hQ⟩ : ∃ z, z = MQ below ((PI G (SC tt) ad [] ws0 (fun r u => (0 ≤ r.toInt) ∧ (r.toInt ≤ 239))) A) args s 0 0 A := ⟨_, rfl⟩
  rw [← hQ]
  refine lv_aload_n C0.1 C0.2.1 dX4_firstLike_0 rfl (lv_at hl 0 rfl) ?_
  refine y_c3 (n := 1003) C0 (by decide) dX4_firstLike_1 (fun v_1 e_2 => ?_)
  refine y_ci h (y_rV (As := [.int v_1]) (rest := []) C0 hZ h (c_X4_asks l G Z ad _ h.2 i0 hi0 v_1) k_X4_asks q_1127 q_38 q_1125 hi0 rfl rfl rfl hl.1 rfl rfl (Nat.le_of_ble_eq_true rfl) dX4_firstLike_4 ⟨Nat.le_of_ble_eq_true rfl, Nat.le_of_ble_eq_true rfl⟩ ⟨Nat.le_of_ble_eq_true rfl, Nat.le_of_ble_eq_true rfl⟩) (fun r_6 H locs ws_3 h u_4 p_5 => ?_)
  obtain ⟨e_7, e_8⟩ := p_5
  refine y_if_eq (tgt := 14) C0 dX4_firstLike_7 (by decide) (fun c_9 => ?_) (fun c_9 => ?_)
  · -- 7
    refine lv_aload_n C0.1 C0.2.1 dX4_firstLike_14 rfl (lv_at hl 0 rfl) ?_
    refine y_c3 (n := 1002) C0 (by decide) dX4_firstLike_15 (fun v_10 e_11 => ?_)
    refine y_ci h (y_rV (As := [.int v_10]) (rest := []) C0 hZ h (c_X4_asks l G Z ad _ h.2 i0 hi0 v_10) k_X4_asks q_1127 q_38 q_1125 hi0 rfl rfl rfl hl.1 rfl rfl (Nat.le_of_ble_eq_true rfl) dX4_firstLike_18 ⟨Nat.le_of_ble_eq_true rfl, Nat.le_of_ble_eq_true rfl⟩ ⟨Nat.le_of_ble_eq_true rfl, Nat.le_of_ble_eq_true rfl⟩) (fun r_15 H locs ws_12 h u_13 p_14 => ?_)
    obtain ⟨e_16, e_17⟩ := p_14
    refine y_if_eq (tgt := 31) C0 dX4_firstLike_21 (by decide) (fun c_18 => ?_) (fun c_18 => ?_)
    · -- 21
      refine y_c1 (n := 0) C0 (by decide) dX4_firstLike_31 (fun v_19 e_20 => ?_)
      rw [hQ]
      exact y_iret C0 h (Fr.tr u_4 u_13) ⟨(o10_1 e_20), (o10_15 e_20)⟩ dX4_firstLike_32
    · -- 21
      refine lv_iload_n C0.1 C0.2.1 dX4_firstLike_24 rfl (lv_at hl 1 rfl) ?_
      refine y_c2 (n := 24) C0 (by decide) dX4_firstLike_25 (fun v_21 e_22 => ?_)
      refine y_remc (n := 24) C0 (o10_16 e_22) (by decide) (o10_17 l1 u1) dX4_firstLike_27 (fun v_23 e_24 => ?_)
      refine lv_goto (tgt := 32) C0.1 C0.2.1 dX4_firstLike_28 (by decide) ?_
      rw [hQ]
      exact y_iret C0 h (Fr.tr u_4 u_13) ⟨(o10_18 l1 u1 e_24), (o10_19 l1 u1 e_24)⟩ dX4_firstLike_32
  · -- 7
    refine lv_iload_n C0.1 C0.2.1 dX4_firstLike_10 rfl (lv_at hl 1 rfl) ?_
    refine lv_goto (tgt := 32) C0.1 C0.2.1 dX4_firstLike_11 (by decide) ?_
    rw [hQ]
    exact y_iret C0 h u_4 ⟨(o10_17 l1 u1), (o10_20 l1 u1)⟩ dX4_firstLike_32
set_option maxHeartbeats 4000000 in
set_option maxRecDepth 100000 in
theorem c_X4_firstHeadLike (l : Launch) (G : GG) (Z : RZ) (ad : Nat → Nat) (ws0 : va_W) (hT : Ty G (SC tt) ad ws0) (i0 : Nat) (hi0 : Kd (SC tt) i0 2) (a1 : Int32) (l1 : 0 ≤ a1.toInt) (u1 : a1.toInt ≤ 3) : Mq l yX4_firstHeadLike cX4_firstHeadLike 2 (some .int) 2 G Z [.ref (ad i0), .int a1] ws0 (PI G (SC tt) ad [] ws0 (fun r u => (0 ≤ r.toInt) ∧ (r.toInt ≤ 3))) := by
  refine Mq.start (by decide) (Nat.le_of_ble_eq_true rfl) ?_
  intro p e s m below meth c A ls C0 hZ h hl
  have hl : lv_has ls 2 [(0, .ref (ad i0)), (1, .int a1)] := hl
  have h : Wt G (SC tt) ad A s s.heap [] ws0 := ⟨h, hT⟩
  obtain ⟨args, hargs⟩ : ∃ z, z = ([.ref (ad i0), .int a1] : List Value).toArray := ⟨_, rfl⟩
  rw [← hargs] at C0 ⊢
  have C0 : Cx p s m args meth c RX4 cX4_firstHeadLike 2 (some .int) := C0
  obtain ⟨Q, hQ⟩ : ∃ z, z = MQ below ((PI G (SC tt) ad [] ws0 (fun r u => (0 ≤ r.toInt) ∧ (r.toInt ≤ 3))) A) args s 0 0 A := ⟨_, rfl⟩
  rw [← hQ]
  refine lv_aload_n C0.1 C0.2.1 dX4_firstHeadLike_0 rfl (lv_at hl 0 rfl) ?_
  refine y_c3 (n := 1005) C0 (by decide) dX4_firstHeadLike_1 (fun v_1 e_2 => ?_)
  refine y_ci h (y_rV (As := [.int v_1]) (rest := []) C0 hZ h (c_X4_asks l G Z ad _ h.2 i0 hi0 v_1) k_X4_asks q_1127 q_38 q_1125 hi0 rfl rfl rfl hl.1 rfl rfl (Nat.le_of_ble_eq_true rfl) dX4_firstHeadLike_4 ⟨Nat.le_of_ble_eq_true rfl, Nat.le_of_ble_eq_true rfl⟩ ⟨Nat.le_of_ble_eq_true rfl, Nat.le_of_ble_eq_true rfl⟩) (fun r_6 H locs ws_3 h u_4 p_5 => ?_)
  obtain ⟨e_7, e_8⟩ := p_5
  refine y_if_eq (tgt := 14) C0 dX4_firstHeadLike_7 (by decide) (fun c_9 => ?_) (fun c_9 => ?_)
  · -- 7
    refine y_c1 (n := 0) C0 (by decide) dX4_firstHeadLike_14 (fun v_10 e_11 => ?_)
    rw [hQ]
    exact y_iret C0 h u_4 ⟨(o10_1 e_11), (o10_21 e_11)⟩ dX4_firstHeadLike_15
  · -- 7
    refine lv_iload_n C0.1 C0.2.1 dX4_firstHeadLike_10 rfl (lv_at hl 1 rfl) ?_
    refine lv_goto (tgt := 15) C0.1 C0.2.1 dX4_firstHeadLike_11 (by decide) ?_
    rw [hQ]
    exact y_iret C0 h u_4 ⟨(o10_22 l1 u1), (o10_23 l1 u1)⟩ dX4_firstHeadLike_15
set_option maxHeartbeats 4000000 in
set_option maxRecDepth 100000 in
theorem c_X4_copy (l : Launch) (G : GG) (Z : RZ) (ad : Nat → Nat) (ws0 : va_W) (hT : Ty G (SC tt) ad ws0) (i0 : Nat) (hi0 : Kd (SC tt) i0 2) (i1 : Nat) (hi1 : Kd (SC tt) i1 2) : Mq l yX4_copy cX4_copy 2 none 1 G Z [.ref (ad i0), .ref (ad i1)] ws0 (PV G (SC tt) ad [2, 3] ws0 (fun u => True)) := by
  refine Mq.start (by decide) (Nat.le_of_ble_eq_true rfl) ?_
  intro p e s m below meth c A ls C0 hZ h hl
  have hl : lv_has ls 2 [(0, .ref (ad i0)), (1, .ref (ad i1))] := hl
  have h : Wt G (SC tt) ad A s s.heap [] ws0 := ⟨h, hT⟩
  obtain ⟨args, hargs⟩ : ∃ z, z = ([.ref (ad i0), .ref (ad i1)] : List Value).toArray := ⟨_, rfl⟩
  rw [← hargs] at C0 ⊢
  have C0 : Cx p s m args meth c RX4 cX4_copy 2 none := C0
  obtain ⟨Q, hQ⟩ : ∃ z, z = MQ below ((PV G (SC tt) ad [2, 3] ws0 (fun u => True)) A) args s 0 0 A := ⟨_, rfl⟩
  rw [← hQ]
  refine lv_aload_n C0.1 C0.2.1 dX4_copy_0 rfl (lv_at hl 0 rfl) ?_
  refine lv_aload_n C0.1 C0.2.1 dX4_copy_1 rfl (lv_at hl 1 rfl) ?_
  refine tg_X4_size C0 h hi1 q_170 dX4_copy_2 (fun v_1 e_2 e_3 e_4 => ?_)
  refine tp_X4_size C0 h hi0 q_170 (o10_24 e_3 e_4) (o10_25 e_3 e_4) dX4_copy_5 (fun H locs ws_5 h u_6 => ?_)
  refine lv_aload_n C0.1 C0.2.1 dX4_copy_8 rfl (lv_at hl 0 rfl) ?_
  refine lv_aload_n C0.1 C0.2.1 dX4_copy_9 rfl (lv_at hl 1 rfl) ?_
  refine tg_X4_named C0 h hi1 q_171 dX4_copy_10 (fun v_7 e_8 e_9 e_10 => ?_)
  refine tp_X4_named C0 h hi0 q_171 (le_min v_7) (le_max v_7) dX4_copy_13 (fun H locs ws_11 h u_12 => ?_)
  refine lv_aload_n C0.1 C0.2.1 dX4_copy_16 rfl (lv_at hl 1 rfl) ?_
  refine tg_X4_code C0 h hi1 q_167 dX4_copy_17 ?_
  refine y_c1 (n := 0) C0 (by decide) dX4_copy_20 (fun v_13 e_14 => ?_)
  refine lv_aload_n C0.1 C0.2.1 dX4_copy_21 rfl (lv_at hl 0 rfl) ?_
  refine tg_X4_code C0 h hi0 q_167 dX4_copy_22 ?_
  refine y_c1 (n := 0) C0 (by decide) dX4_copy_25 (fun v_15 e_16 => ?_)
  refine lv_aload_n C0.1 C0.2.1 dX4_copy_26 rfl (lv_at hl 0 rfl) ?_
  refine tg_X4_size C0 h hi0 q_170 dX4_copy_27 (fun v_17 e_18 e_19 e_20 => ?_)
  have q_21 : v_17.toInt = v_1.toInt := congrArg Int32.toInt (e_18.symm.trans (Eq.trans (u_12.2.2 3 (by decide)) u_6.2.1))
  refine y_copy C0 h hl.1 (rSC_2_1 hi1) (rSC_2_1 hi0) rfl rfl q_864 q_866 q_865 q_145 (o10_26 e_14) (o10_26 e_16) (o10_27 e_3 e_4 e_19 e_20 q_21) (o10_28 e_3 e_4 e_19 e_20 q_21) (o10_28 e_3 e_4 e_19 e_20 q_21) (fun _ _ => ⟨by decide, by decide⟩) (Nat.le_of_ble_eq_true rfl) (Nat.le_of_ble_eq_true rfl) dX4_copy_30 (fun H locs ws_22 h u_23 c_24 c_25 => ?_)
  rw [hQ]
  exact y_vret C0 h (Fr.tr (Fr.tr (Fr.up u_6.1 hi0 (by decide)) (Fr.up u_12.1 hi0 (by decide))) (Fr.up u_23 (rSC_2_1 hi0) (by decide))) trivial dX4_copy_33
set_option maxHeartbeats 4000000 in
set_option maxRecDepth 100000 in
theorem c_X4_value (l : Launch) (G : GG) (Z : RZ) (ad : Nat → Nat) (ws0 : va_W) (hT : Ty G (SC tt) ad ws0) (i0 : Nat) (hi0 : Kd (SC tt) i0 2) (a1 : Int32) (a2 : Int32) (a3 : Int32) (a4 : Int32) (a5 : Int32) : Mq l yX4_value cX4_value 15 (some .int) 1 G Z [.ref (ad i0), .int a1, .int a2, .int a3, .int a4, .int a5] ws0 (PI G (SC tt) ad [4, 5] ws0 (fun r u => True)) := by
  refine Mq.start (by decide) (Nat.le_of_ble_eq_true rfl) ?_
  intro p e s m below meth c A ls C0 hZ h hl
  have hl : lv_has ls 15 [(0, .ref (ad i0)), (1, .int a1), (2, .int a2), (3, .int a3), (4, .int a4), (5, .int a5)] := hl
  have h : Wt G (SC tt) ad A s s.heap [] ws0 := ⟨h, hT⟩
  obtain ⟨args, hargs⟩ : ∃ z, z = ([.ref (ad i0), .int a1, .int a2, .int a3, .int a4, .int a5] : List Value).toArray := ⟨_, rfl⟩
  rw [← hargs] at C0 ⊢
  have C0 : Cx p s m args meth c RX4 cX4_value 15 (some .int) := C0
  obtain ⟨Q, hQ⟩ : ∃ z, z = MQ below ((PI G (SC tt) ad [4, 5] ws0 (fun r u => True)) A) args s 0 0 A := ⟨_, rfl⟩
  rw [← hQ]
  refine lv_aload_n C0.1 C0.2.1 dX4_value_0 rfl (lv_at hl 0 rfl) ?_
  refine tg_X4_names C0 h hi0 q_169 dX4_value_1 ?_
  refine y_c1 (n := 0) C0 (by decide) dX4_value_4 (fun v_1 e_2 => ?_)
  refine lv_iload_n C0.1 C0.2.1 dX4_value_5 rfl (lv_at hl 1 rfl) ?_
  refine y_iast C0 h (rSC_2_3 hi0) rfl (by decide) (o10_1 e_2) (o10_29 e_2) (le_min a1) (le_max a1) dX4_value_6 (fun H locs ws_3 h u_4 => ?_)
  refine lv_aload_n C0.1 C0.2.1 dX4_value_7 rfl (lv_at hl 0 rfl) ?_
  refine tg_X4_names C0 h hi0 q_169 dX4_value_8 ?_
  refine y_c1 (n := 1) C0 (by decide) dX4_value_11 (fun v_5 e_6 => ?_)
  refine lv_iload_n C0.1 C0.2.1 dX4_value_12 rfl (lv_at hl 2 rfl) ?_
  refine y_iast C0 h (rSC_2_3 hi0) rfl (by decide) (o10_4 e_6) (o10_30 e_6) (le_min a2) (le_max a2) dX4_value_13 (fun H locs ws_7 h u_8 => ?_)
  refine lv_aload_n C0.1 C0.2.1 dX4_value_14 rfl (lv_at hl 0 rfl) ?_
  refine tg_X4_names C0 h hi0 q_169 dX4_value_15 ?_
  refine y_c1 (n := 2) C0 (by decide) dX4_value_18 (fun v_9 e_10 => ?_)
  refine lv_iload_n C0.1 C0.2.1 dX4_value_19 rfl (lv_at hl 3 rfl) ?_
  refine y_c2 (n := 24) C0 (by decide) dX4_value_20 (fun v_11 e_12 => ?_)
  refine y_remU C0 (o10_31 e_12) dX4_value_22 (fun v_13 => ?_)
  refine y_iast C0 h (rSC_2_3 hi0) rfl (by decide) (o10_32 e_10) (o10_33 e_10) (le_min v_13) (le_max v_13) dX4_value_23 (fun H locs ws_14 h u_15 => ?_)
  refine lv_aload_n C0.1 C0.2.1 dX4_value_24 rfl (lv_at hl 0 rfl) ?_
  refine tg_X4_names C0 h hi0 q_169 dX4_value_25 ?_
  refine y_c1 (n := 3) C0 (by decide) dX4_value_28 (fun v_16 e_17 => ?_)
  refine lv_iload_n C0.1 C0.2.1 dX4_value_29 rfl (lv_at hl 3 rfl) ?_
  refine y_c2 (n := 24) C0 (by decide) dX4_value_30 (fun v_18 e_19 => ?_)
  refine y_divU C0 (o10_31 e_19) dX4_value_32 (fun v_20 => ?_)
  refine y_iast C0 h (rSC_2_3 hi0) rfl (by decide) (o10_34 e_17) (o10_35 e_17) (le_min v_20) (le_max v_20) dX4_value_33 (fun H locs ws_21 h u_22 => ?_)
  refine lv_aload_n C0.1 C0.2.1 dX4_value_34 rfl (lv_at hl 0 rfl) ?_
  refine tg_X4_names C0 h hi0 q_169 dX4_value_35 ?_
  refine y_c1 (n := 4) C0 (by decide) dX4_value_38 (fun v_23 e_24 => ?_)
  refine lv_iload C0.1 C0.2.1 dX4_value_39 (lv_at hl 4 rfl) ?_
  refine y_iast C0 h (rSC_2_3 hi0) rfl (by decide) (o10_36 e_24) (o10_37 e_24) (le_min a4) (le_max a4) dX4_value_41 (fun H locs ws_25 h u_26 => ?_)
  refine lv_aload_n C0.1 C0.2.1 dX4_value_42 rfl (lv_at hl 0 rfl) ?_
  refine tg_X4_names C0 h hi0 q_169 dX4_value_43 ?_
  refine y_c1 (n := 5) C0 (by decide) dX4_value_46 (fun v_27 e_28 => ?_)
  refine lv_iload C0.1 C0.2.1 dX4_value_47 (lv_at hl 5 rfl) ?_
  refine y_iast C0 h (rSC_2_3 hi0) rfl (by decide) (o10_38 e_28) (o10_39 e_28) (le_min a5) (le_max a5) dX4_value_49 (fun H locs ws_29 h u_30 => ?_)
  refine y_c1 (n := 0) C0 (by decide) dX4_value_50 (fun v_31 e_32 => ?_)
  refine lv_istore (lv' := [(6, .int v_31), (0, .ref (ad i0)), (1, .int a1), (2, .int a2), (3, .int a3), (4, .int a4), (5, .int a5)]) C0.1 C0.2.1 dX4_value_51 hl (by decide) rfl (fun ls hl => ?_)
  refine y_c1 (n := 0) C0 (by decide) dX4_value_53 (fun v_33 e_34 => ?_)
  refine lv_istore (lv' := [(7, .int v_33), (6, .int v_31), (0, .ref (ad i0)), (1, .int a1), (2, .int a2), (3, .int a3), (4, .int a4), (5, .int a5)]) C0.1 C0.2.1 dX4_value_54 hl (by decide) rfl (fun ls hl => ?_)
  have lp_39 : ∀ (n_41 : Nat) (x7_35 : Int32) (x6_36 : Int32) (H : Heap) (locs : List Loc) (ls : Array Slot) (ws_37 : va_W), 900 - x7_35.toInt < (n_41 : Int) → 0 ≤ x7_35.toInt → x7_35.toInt ≤ 900 → 0 ≤ x6_36.toInt → x6_36.toInt ≤ 64 → Wt G (SC tt) ad A s H locs ws_37 → Fr (SC tt) [4] ws_29 ws_37 → lv_has ls 15 [(7, .int x7_35), (6, .int x6_36), (0, .ref (ad i0)), (1, .int a1), (2, .int a2), (3, .int a3), (4, .int a4), (5, .int a5)] → W p l e (rmd 1 0 0) s m args below meth c H locs 0 0 Q (F0 m 56 ls []) := by
    intro n_41
    induction n_41 with
    | zero => intro x7_35 x6_36 H locs ls ws_37 hn_42 b_43 b_44 b_45 b_46 h hF_38 hl; exact ((o10_40 b_43 b_44 hn_42)).elim
    | succ n_41 ih_40 =>
      intro x7_35 x6_36 H locs ls ws_37 hn_42 b_43 b_44 b_45 b_46 h hF_38 hl
      refine lv_iload C0.1 C0.2.1 dX4_value_56 (lv_at hl 0 rfl) ?_
      refine lv_aload_n C0.1 C0.2.1 dX4_value_58 rfl (lv_at hl 2 rfl) ?_
      refine tg_X4_size C0 h hi0 q_170 dX4_value_59 (fun v_47 e_48 e_49 e_50 => ?_)
      refine y_icmp_ge (tgt := 347) C0 dX4_value_62 (by decide) (fun c_51 => ?_) (fun c_51 => ?_)
      · -- 62
        refine lv_aload_n C0.1 C0.2.1 dX4_value_347 rfl (lv_at hl 2 rfl) ?_
        refine tg_X4_stack C0 h hi0 q_168 dX4_value_348 ?_
        refine y_c1 (n := 0) C0 (by decide) dX4_value_351 (fun v_52 e_53 => ?_)
        refine y_iald C0 h (rSC_2_2 hi0) rfl (by decide) (o10_1 e_53) (o10_41 e_53) dX4_value_352 (fun v_54 e_55 e_56 e_57 => ?_)
        rw [hQ]
        exact y_iret C0 h (Fr.tr (Fr.tr (Fr.tr (Fr.tr (Fr.tr (Fr.tr (Fr.up u_4.1 (rSC_2_3 hi0) (by decide)) (Fr.up u_8.1 (rSC_2_3 hi0) (by decide))) (Fr.up u_15.1 (rSC_2_3 hi0) (by decide))) (Fr.up u_22.1 (rSC_2_3 hi0) (by decide))) (Fr.up u_26.1 (rSC_2_3 hi0) (by decide))) (Fr.up u_30.1 (rSC_2_3 hi0) (by decide))) (Fr.mono hF_38 (by decide))) trivial dX4_value_353
      · -- 62
        refine lv_aload_n C0.1 C0.2.1 dX4_value_65 rfl (lv_at hl 2 rfl) ?_
        refine tg_X4_code C0 h hi0 q_167 dX4_value_66 ?_
        refine lv_iload C0.1 C0.2.1 dX4_value_69 (lv_at hl 0 rfl) ?_
        refine y_iald C0 h (rSC_2_1 hi0) rfl (by decide) (o10_42 b_43 b_44 hn_42 e_49 e_50 c_51) (o10_43 b_43 b_44 hn_42 e_49 e_50 c_51) dX4_value_71 (fun v_58 e_59 e_60 e_61 => ?_)
        refine lv_istore (lv' := [(8, .int v_58), (7, .int x7_35), (6, .int x6_36), (0, .ref (ad i0)), (1, .int a1), (2, .int a2), (3, .int a3), (4, .int a4), (5, .int a5)]) C0.1 C0.2.1 dX4_value_72 hl (by decide) rfl (fun ls hl => ?_)
        refine lv_iload C0.1 C0.2.1 dX4_value_74 (lv_at hl 0 rfl) ?_
        refine y_c3 (n := 2000) C0 (by decide) dX4_value_76 (fun v_62 e_63 => ?_)
        refine y_icmp_ge (tgt := 137) C0 dX4_value_79 (by decide) (fun c_64 => ?_) (fun c_64 => ?_)
        · -- 79
          refine lv_iload C0.1 C0.2.1 dX4_value_137 (lv_at hl 2 rfl) ?_
          refine y_c1 (n := 2) C0 (by decide) dX4_value_139 (fun v_65 e_66 => ?_)
          refine y_icmp_ge (tgt := 146) C0 dX4_value_140 (by decide) (fun c_67 => ?_) (fun c_67 => ?_)
          · -- 140
            refine y_inc (kp := 2) (n := (-1)) (fun v_68 => [(6, .int v_68), (8, .int v_58), (7, .int x7_35), (0, .ref (ad i0)), (1, .int a1), (2, .int a2), (3, .int a3), (4, .int a4), (5, .int a5)]) C0 hl rfl (by decide) (by decide) (fun _ => rfl) (o10_44 b_45 b_46 e_66 c_67 (le_min x6_36) (le_max x6_36) (le_min v_65) (le_max v_65)) (o10_45 b_45 b_46 e_66 c_67 (le_min x6_36) (le_max x6_36) (le_min v_65) (le_max v_65)) dX4_value_146 (fun v_68 ls e_69 hl => ?_)
            refine lv_aload_n C0.1 C0.2.1 dX4_value_149 rfl (lv_at hl 3 rfl) ?_
            refine tg_X4_stack C0 h hi0 q_168 dX4_value_150 ?_
            refine lv_iload C0.1 C0.2.1 dX4_value_153 (lv_at hl 0 rfl) ?_
            refine y_c1 (n := 1) C0 (by decide) dX4_value_155 (fun v_70 e_71 => ?_)
            refine y_sub C0 (o10_46 b_45 b_46 e_66 c_67 e_69 e_71 (le_min v_68) (le_max v_68) (le_min v_70) (le_max v_70) (le_min x6_36) (le_max x6_36) (le_min v_65) (le_max v_65)) (o10_47 b_45 b_46 e_66 c_67 e_69 e_71 (le_min v_68) (le_max v_68) (le_min v_70) (le_max v_70) (le_min x6_36) (le_max x6_36) (le_min v_65) (le_max v_65)) dX4_value_156 (fun v_72 e_73 => ?_)
            refine y_iald C0 h (rSC_2_2 hi0) rfl (by decide) (o10_48 b_45 b_46 e_66 c_67 e_69 e_71 e_73) (o10_49 b_45 b_46 e_66 c_67 e_69 e_71 e_73) dX4_value_157 (fun v_74 e_75 e_76 e_77 => ?_)
            refine y_i2l C0 dX4_value_158 (fun w_78 e_79 => ?_)
            refine lv_lstore (lv' := [(9, .long w_78), (6, .int v_68), (8, .int v_58), (7, .int x7_35), (0, .ref (ad i0)), (1, .int a1), (2, .int a2), (3, .int a3), (4, .int a4), (5, .int a5)]) C0.1 C0.2.1 dX4_value_159 hl (by decide) rfl (fun ls hl => ?_)
            refine lv_aload_n C0.1 C0.2.1 dX4_value_161 rfl (lv_at hl 4 rfl) ?_
            refine tg_X4_stack C0 h hi0 q_168 dX4_value_162 ?_
            refine lv_iload C0.1 C0.2.1 dX4_value_165 (lv_at hl 1 rfl) ?_
            refine y_iald C0 h (rSC_2_2 hi0) rfl (by decide) (o10_50 b_45 b_46 e_66 c_67 e_69 e_71 e_73) (o10_51 b_45 b_46 e_66 c_67 e_69 e_71 e_73) dX4_value_167 (fun v_80 e_81 e_82 e_83 => ?_)
            refine y_i2l C0 dX4_value_168 (fun w_84 e_85 => ?_)
            refine lv_lstore (lv' := [(11, .long w_84), (9, .long w_78), (6, .int v_68), (8, .int v_58), (7, .int x7_35), (0, .ref (ad i0)), (1, .int a1), (2, .int a2), (3, .int a3), (4, .int a4), (5, .int a5)]) C0.1 C0.2.1 dX4_value_169 hl (by decide) rfl (fun ls hl => ?_)
            refine lv_iload C0.1 C0.2.1 dX4_value_171 (lv_at hl 3 rfl) ?_
            by_cases sw_86 : v_58.toInt < 2000 ∨ 2006 < v_58.toInt
            · refine lv_tableOut (tgt := 310) C0.1 C0.2.1 dX4_value_173 sw_86 (by decide) ?_
              refine lv_lload C0.1 C0.2.1 dX4_value_310 (lv_at hl 1 rfl) ?_
              refine lv_lload C0.1 C0.2.1 dX4_value_312 (lv_at hl 0 rfl) ?_
              refine y_lorU C0 dX4_value_314 (fun w_87 => ?_)
              refine lv_lstore (lv' := [(13, .long w_87), (11, .long w_84), (9, .long w_78), (6, .int v_68), (8, .int v_58), (7, .int x7_35), (0, .ref (ad i0)), (1, .int a1), (2, .int a2), (3, .int a3), (4, .int a4), (5, .int a5)]) C0.1 C0.2.1 dX4_value_315 hl (by decide) rfl (fun ls hl => ?_)
              refine lv_aload_n C0.1 C0.2.1 dX4_value_317 rfl (lv_at hl 6 rfl) ?_
              refine tg_X4_stack C0 h hi0 q_168 dX4_value_318 ?_
              refine lv_iload C0.1 C0.2.1 dX4_value_321 (lv_at hl 3 rfl) ?_
              refine y_c1 (n := 1) C0 (by decide) dX4_value_323 (fun v_88 e_89 => ?_)
              refine y_sub C0 (o10_52 b_45 b_46 e_66 c_67 e_69 e_71 e_73 e_89 (le_min v_68) (le_max v_68) (le_min v_88) (le_max v_88) (le_min x6_36) (le_max x6_36) (le_min v_65) (le_max v_65) (le_min v_70) (le_max v_70) (le_min v_72) (le_max v_72)) (o10_53 b_45 b_46 e_66 c_67 e_69 e_71 e_73 e_89 (le_min v_68) (le_max v_68) (le_min v_88) (le_max v_88) (le_min x6_36) (le_max x6_36) (le_min v_65) (le_max v_65) (le_min v_70) (le_max v_70) (le_min v_72) (le_max v_72)) dX4_value_324 (fun v_90 e_91 => ?_)
              refine y_lc2 (n := (-1000000)) C0 q_938 (by decide) dX4_value_325 (fun w_92 e_93 => ?_)
              refine y_lc2 (n := 1000000) C0 q_939 (by decide) dX4_value_328 (fun w_94 e_95 => ?_)
              refine lv_lload C0.1 C0.2.1 dX4_value_331 (lv_at hl 0 rfl) ?_
              refine m_mminL C0 hl.1 q_940 q_941 q_141 q_942 (Nat.le_of_ble_eq_true rfl) (Nat.le_of_ble_eq_true rfl) (Nat.le_of_ble_eq_true rfl) (Nat.le_of_ble_eq_true rfl) dX4_value_333 (fun w_96 => ?_)
              refine m_mmaxL C0 hl.1 q_943 q_944 q_141 q_945 (Nat.le_of_ble_eq_true rfl) (Nat.le_of_ble_eq_true rfl) (Nat.le_of_ble_eq_true rfl) (Nat.le_of_ble_eq_true rfl) dX4_value_336 (fun w_97 => ?_)
              refine y_l2iU C0 dX4_value_339 (fun v_98 => ?_)
              refine y_iast C0 h (rSC_2_2 hi0) rfl (by decide) (o10_54 b_45 b_46 e_66 c_67 e_69 e_71 e_73 e_89 e_91) (o10_55 b_45 b_46 e_66 c_67 e_69 e_71 e_73 e_89 e_91) (le_min v_98) (le_max v_98) dX4_value_340 (fun H locs ws_99 h u_100 => ?_)
              refine y_inc (kp := 5) (n := 1) (fun v_101 => [(7, .int v_101), (13, .long w_87), (11, .long w_84), (9, .long w_78), (6, .int v_68), (8, .int v_58), (0, .ref (ad i0)), (1, .int a1), (2, .int a2), (3, .int a3), (4, .int a4), (5, .int a5)]) C0 hl rfl (by decide) (by decide) (fun _ => rfl) (o10_56 b_43 b_44 hn_42 e_49 e_50 c_51 (le_min x7_35) (le_max x7_35) (le_min v_47) (le_max v_47)) (o10_57 b_43 b_44 hn_42 e_49 e_50 c_51 (le_min x7_35) (le_max x7_35) (le_min v_47) (le_max v_47)) dX4_value_341 (fun v_101 ls e_102 hl => ?_)
              refine lv_goto (tgt := 56) C0.1 C0.2.1 dX4_value_344 (by decide) ?_
              exact ih_40 v_101 v_68 _ _ _ _ (o10_58 b_43 b_44 hn_42 e_49 e_50 c_51 e_102) (o10_59 b_43 b_44 hn_42 e_49 e_50 c_51 e_102) (o10_60 b_43 b_44 hn_42 e_49 e_50 c_51 e_102) (o10_61 b_45 b_46 e_66 c_67 e_69 e_71 e_73 e_89 e_91) (o10_62 b_45 b_46 e_66 c_67 e_69 e_71 e_73 e_89 e_91) h (Fr.tr hF_38 (Fr.up u_100.1 (rSC_2_2 hi0) (by decide))) (lv_sub hl [0, 4, 6, 7, 8, 9, 10, 11] rfl)
            · obtain ⟨sw_861, sw_862⟩ := not_or.mp sw_86
              rcases (show v_58.toInt = 2000 ∨ v_58.toInt = 2001 ∨ v_58.toInt = 2002 ∨ v_58.toInt = 2003 ∨ v_58.toInt = 2004 ∨ v_58.toInt = 2005 ∨ v_58.toInt = 2006 by omega) with sw_864 | sw_864 | sw_864 | sw_864 | sw_864 | sw_864 | sw_864
              · refine lv_tableIn (off := 43) (tgt := 216) C0.1 C0.2.1 dX4_value_173 sw_861 sw_862 (by rw [sw_864]; rfl) (by decide) ?_
                refine lv_lload C0.1 C0.2.1 dX4_value_216 (lv_at hl 1 rfl) ?_
                refine lv_lload C0.1 C0.2.1 dX4_value_218 (lv_at hl 0 rfl) ?_
                refine y_laddU C0 dX4_value_220 (fun w_103 => ?_)
                refine lv_lstore (lv' := [(13, .long w_103), (11, .long w_84), (9, .long w_78), (6, .int v_68), (8, .int v_58), (7, .int x7_35), (0, .ref (ad i0)), (1, .int a1), (2, .int a2), (3, .int a3), (4, .int a4), (5, .int a5)]) C0.1 C0.2.1 dX4_value_221 hl (by decide) rfl (fun ls hl => ?_)
                refine lv_goto (tgt := 317) C0.1 C0.2.1 dX4_value_223 (by decide) ?_
                refine lv_aload_n C0.1 C0.2.1 dX4_value_317 rfl (lv_at hl 6 rfl) ?_
                refine tg_X4_stack C0 h hi0 q_168 dX4_value_318 ?_
                refine lv_iload C0.1 C0.2.1 dX4_value_321 (lv_at hl 3 rfl) ?_
                refine y_c1 (n := 1) C0 (by decide) dX4_value_323 (fun v_104 e_105 => ?_)
                refine y_sub C0 (o10_52 b_45 b_46 e_66 c_67 e_69 e_71 e_73 e_105 (le_min v_68) (le_max v_68) (le_min v_104) (le_max v_104) (le_min x6_36) (le_max x6_36) (le_min v_65) (le_max v_65) (le_min v_70) (le_max v_70) (le_min v_72) (le_max v_72)) (o10_53 b_45 b_46 e_66 c_67 e_69 e_71 e_73 e_105 (le_min v_68) (le_max v_68) (le_min v_104) (le_max v_104) (le_min x6_36) (le_max x6_36) (le_min v_65) (le_max v_65) (le_min v_70) (le_max v_70) (le_min v_72) (le_max v_72)) dX4_value_324 (fun v_106 e_107 => ?_)
                refine y_lc2 (n := (-1000000)) C0 q_938 (by decide) dX4_value_325 (fun w_108 e_109 => ?_)
                refine y_lc2 (n := 1000000) C0 q_939 (by decide) dX4_value_328 (fun w_110 e_111 => ?_)
                refine lv_lload C0.1 C0.2.1 dX4_value_331 (lv_at hl 0 rfl) ?_
                refine m_mminL C0 hl.1 q_940 q_941 q_141 q_942 (Nat.le_of_ble_eq_true rfl) (Nat.le_of_ble_eq_true rfl) (Nat.le_of_ble_eq_true rfl) (Nat.le_of_ble_eq_true rfl) dX4_value_333 (fun w_112 => ?_)
                refine m_mmaxL C0 hl.1 q_943 q_944 q_141 q_945 (Nat.le_of_ble_eq_true rfl) (Nat.le_of_ble_eq_true rfl) (Nat.le_of_ble_eq_true rfl) (Nat.le_of_ble_eq_true rfl) dX4_value_336 (fun w_113 => ?_)
                refine y_l2iU C0 dX4_value_339 (fun v_114 => ?_)
                refine y_iast C0 h (rSC_2_2 hi0) rfl (by decide) (o10_54 b_45 b_46 e_66 c_67 e_69 e_71 e_73 e_105 e_107) (o10_55 b_45 b_46 e_66 c_67 e_69 e_71 e_73 e_105 e_107) (le_min v_114) (le_max v_114) dX4_value_340 (fun H locs ws_115 h u_116 => ?_)
                refine y_inc (kp := 5) (n := 1) (fun v_117 => [(7, .int v_117), (13, .long w_103), (11, .long w_84), (9, .long w_78), (6, .int v_68), (8, .int v_58), (0, .ref (ad i0)), (1, .int a1), (2, .int a2), (3, .int a3), (4, .int a4), (5, .int a5)]) C0 hl rfl (by decide) (by decide) (fun _ => rfl) (o10_56 b_43 b_44 hn_42 e_49 e_50 c_51 (le_min x7_35) (le_max x7_35) (le_min v_47) (le_max v_47)) (o10_57 b_43 b_44 hn_42 e_49 e_50 c_51 (le_min x7_35) (le_max x7_35) (le_min v_47) (le_max v_47)) dX4_value_341 (fun v_117 ls e_118 hl => ?_)
                refine lv_goto (tgt := 56) C0.1 C0.2.1 dX4_value_344 (by decide) ?_
                exact ih_40 v_117 v_68 _ _ _ _ (o10_58 b_43 b_44 hn_42 e_49 e_50 c_51 e_118) (o10_59 b_43 b_44 hn_42 e_49 e_50 c_51 e_118) (o10_60 b_43 b_44 hn_42 e_49 e_50 c_51 e_118) (o10_61 b_45 b_46 e_66 c_67 e_69 e_71 e_73 e_105 e_107) (o10_62 b_45 b_46 e_66 c_67 e_69 e_71 e_73 e_105 e_107) h (Fr.tr hF_38 (Fr.up u_116.1 (rSC_2_2 hi0) (by decide))) (lv_sub hl [0, 4, 6, 7, 8, 9, 10, 11] rfl)
              · refine lv_tableIn (off := 53) (tgt := 226) C0.1 C0.2.1 dX4_value_173 sw_861 sw_862 (by rw [sw_864]; rfl) (by decide) ?_
                refine lv_lload C0.1 C0.2.1 dX4_value_226 (lv_at hl 1 rfl) ?_
                refine lv_lload C0.1 C0.2.1 dX4_value_228 (lv_at hl 0 rfl) ?_
                refine y_lsubU C0 dX4_value_230 (fun w_119 => ?_)
                refine lv_lstore (lv' := [(13, .long w_119), (11, .long w_84), (9, .long w_78), (6, .int v_68), (8, .int v_58), (7, .int x7_35), (0, .ref (ad i0)), (1, .int a1), (2, .int a2), (3, .int a3), (4, .int a4), (5, .int a5)]) C0.1 C0.2.1 dX4_value_231 hl (by decide) rfl (fun ls hl => ?_)
                refine lv_goto (tgt := 317) C0.1 C0.2.1 dX4_value_233 (by decide) ?_
                refine lv_aload_n C0.1 C0.2.1 dX4_value_317 rfl (lv_at hl 6 rfl) ?_
                refine tg_X4_stack C0 h hi0 q_168 dX4_value_318 ?_
                refine lv_iload C0.1 C0.2.1 dX4_value_321 (lv_at hl 3 rfl) ?_
                refine y_c1 (n := 1) C0 (by decide) dX4_value_323 (fun v_120 e_121 => ?_)
                refine y_sub C0 (o10_52 b_45 b_46 e_66 c_67 e_69 e_71 e_73 e_121 (le_min v_68) (le_max v_68) (le_min v_120) (le_max v_120) (le_min x6_36) (le_max x6_36) (le_min v_65) (le_max v_65) (le_min v_70) (le_max v_70) (le_min v_72) (le_max v_72)) (o10_53 b_45 b_46 e_66 c_67 e_69 e_71 e_73 e_121 (le_min v_68) (le_max v_68) (le_min v_120) (le_max v_120) (le_min x6_36) (le_max x6_36) (le_min v_65) (le_max v_65) (le_min v_70) (le_max v_70) (le_min v_72) (le_max v_72)) dX4_value_324 (fun v_122 e_123 => ?_)
                refine y_lc2 (n := (-1000000)) C0 q_938 (by decide) dX4_value_325 (fun w_124 e_125 => ?_)
                refine y_lc2 (n := 1000000) C0 q_939 (by decide) dX4_value_328 (fun w_126 e_127 => ?_)
                refine lv_lload C0.1 C0.2.1 dX4_value_331 (lv_at hl 0 rfl) ?_
                refine m_mminL C0 hl.1 q_940 q_941 q_141 q_942 (Nat.le_of_ble_eq_true rfl) (Nat.le_of_ble_eq_true rfl) (Nat.le_of_ble_eq_true rfl) (Nat.le_of_ble_eq_true rfl) dX4_value_333 (fun w_128 => ?_)
                refine m_mmaxL C0 hl.1 q_943 q_944 q_141 q_945 (Nat.le_of_ble_eq_true rfl) (Nat.le_of_ble_eq_true rfl) (Nat.le_of_ble_eq_true rfl) (Nat.le_of_ble_eq_true rfl) dX4_value_336 (fun w_129 => ?_)
                refine y_l2iU C0 dX4_value_339 (fun v_130 => ?_)
                refine y_iast C0 h (rSC_2_2 hi0) rfl (by decide) (o10_54 b_45 b_46 e_66 c_67 e_69 e_71 e_73 e_121 e_123) (o10_55 b_45 b_46 e_66 c_67 e_69 e_71 e_73 e_121 e_123) (le_min v_130) (le_max v_130) dX4_value_340 (fun H locs ws_131 h u_132 => ?_)
                refine y_inc (kp := 5) (n := 1) (fun v_133 => [(7, .int v_133), (13, .long w_119), (11, .long w_84), (9, .long w_78), (6, .int v_68), (8, .int v_58), (0, .ref (ad i0)), (1, .int a1), (2, .int a2), (3, .int a3), (4, .int a4), (5, .int a5)]) C0 hl rfl (by decide) (by decide) (fun _ => rfl) (o10_56 b_43 b_44 hn_42 e_49 e_50 c_51 (le_min x7_35) (le_max x7_35) (le_min v_47) (le_max v_47)) (o10_57 b_43 b_44 hn_42 e_49 e_50 c_51 (le_min x7_35) (le_max x7_35) (le_min v_47) (le_max v_47)) dX4_value_341 (fun v_133 ls e_134 hl => ?_)
                refine lv_goto (tgt := 56) C0.1 C0.2.1 dX4_value_344 (by decide) ?_
                exact ih_40 v_133 v_68 _ _ _ _ (o10_58 b_43 b_44 hn_42 e_49 e_50 c_51 e_134) (o10_59 b_43 b_44 hn_42 e_49 e_50 c_51 e_134) (o10_60 b_43 b_44 hn_42 e_49 e_50 c_51 e_134) (o10_61 b_45 b_46 e_66 c_67 e_69 e_71 e_73 e_121 e_123) (o10_62 b_45 b_46 e_66 c_67 e_69 e_71 e_73 e_121 e_123) h (Fr.tr hF_38 (Fr.up u_132.1 (rSC_2_2 hi0) (by decide))) (lv_sub hl [0, 4, 6, 7, 8, 9, 10, 11] rfl)
              · refine lv_tableIn (off := 63) (tgt := 236) C0.1 C0.2.1 dX4_value_173 sw_861 sw_862 (by rw [sw_864]; rfl) (by decide) ?_
                refine lv_lload C0.1 C0.2.1 dX4_value_236 (lv_at hl 1 rfl) ?_
                refine lv_lload C0.1 C0.2.1 dX4_value_238 (lv_at hl 0 rfl) ?_
                refine y_lmulU C0 dX4_value_240 (fun w_135 => ?_)
                refine lv_lstore (lv' := [(13, .long w_135), (11, .long w_84), (9, .long w_78), (6, .int v_68), (8, .int v_58), (7, .int x7_35), (0, .ref (ad i0)), (1, .int a1), (2, .int a2), (3, .int a3), (4, .int a4), (5, .int a5)]) C0.1 C0.2.1 dX4_value_241 hl (by decide) rfl (fun ls hl => ?_)
                refine lv_goto (tgt := 317) C0.1 C0.2.1 dX4_value_243 (by decide) ?_
                refine lv_aload_n C0.1 C0.2.1 dX4_value_317 rfl (lv_at hl 6 rfl) ?_
                refine tg_X4_stack C0 h hi0 q_168 dX4_value_318 ?_
                refine lv_iload C0.1 C0.2.1 dX4_value_321 (lv_at hl 3 rfl) ?_
                refine y_c1 (n := 1) C0 (by decide) dX4_value_323 (fun v_136 e_137 => ?_)
                refine y_sub C0 (o10_52 b_45 b_46 e_66 c_67 e_69 e_71 e_73 e_137 (le_min v_68) (le_max v_68) (le_min v_136) (le_max v_136) (le_min x6_36) (le_max x6_36) (le_min v_65) (le_max v_65) (le_min v_70) (le_max v_70) (le_min v_72) (le_max v_72)) (o10_53 b_45 b_46 e_66 c_67 e_69 e_71 e_73 e_137 (le_min v_68) (le_max v_68) (le_min v_136) (le_max v_136) (le_min x6_36) (le_max x6_36) (le_min v_65) (le_max v_65) (le_min v_70) (le_max v_70) (le_min v_72) (le_max v_72)) dX4_value_324 (fun v_138 e_139 => ?_)
                refine y_lc2 (n := (-1000000)) C0 q_938 (by decide) dX4_value_325 (fun w_140 e_141 => ?_)
                refine y_lc2 (n := 1000000) C0 q_939 (by decide) dX4_value_328 (fun w_142 e_143 => ?_)
                refine lv_lload C0.1 C0.2.1 dX4_value_331 (lv_at hl 0 rfl) ?_
                refine m_mminL C0 hl.1 q_940 q_941 q_141 q_942 (Nat.le_of_ble_eq_true rfl) (Nat.le_of_ble_eq_true rfl) (Nat.le_of_ble_eq_true rfl) (Nat.le_of_ble_eq_true rfl) dX4_value_333 (fun w_144 => ?_)
                refine m_mmaxL C0 hl.1 q_943 q_944 q_141 q_945 (Nat.le_of_ble_eq_true rfl) (Nat.le_of_ble_eq_true rfl) (Nat.le_of_ble_eq_true rfl) (Nat.le_of_ble_eq_true rfl) dX4_value_336 (fun w_145 => ?_)
                refine y_l2iU C0 dX4_value_339 (fun v_146 => ?_)
                refine y_iast C0 h (rSC_2_2 hi0) rfl (by decide) (o10_54 b_45 b_46 e_66 c_67 e_69 e_71 e_73 e_137 e_139) (o10_55 b_45 b_46 e_66 c_67 e_69 e_71 e_73 e_137 e_139) (le_min v_146) (le_max v_146) dX4_value_340 (fun H locs ws_147 h u_148 => ?_)
                refine y_inc (kp := 5) (n := 1) (fun v_149 => [(7, .int v_149), (13, .long w_135), (11, .long w_84), (9, .long w_78), (6, .int v_68), (8, .int v_58), (0, .ref (ad i0)), (1, .int a1), (2, .int a2), (3, .int a3), (4, .int a4), (5, .int a5)]) C0 hl rfl (by decide) (by decide) (fun _ => rfl) (o10_56 b_43 b_44 hn_42 e_49 e_50 c_51 (le_min x7_35) (le_max x7_35) (le_min v_47) (le_max v_47)) (o10_57 b_43 b_44 hn_42 e_49 e_50 c_51 (le_min x7_35) (le_max x7_35) (le_min v_47) (le_max v_47)) dX4_value_341 (fun v_149 ls e_150 hl => ?_)
                refine lv_goto (tgt := 56) C0.1 C0.2.1 dX4_value_344 (by decide) ?_
                exact ih_40 v_149 v_68 _ _ _ _ (o10_58 b_43 b_44 hn_42 e_49 e_50 c_51 e_150) (o10_59 b_43 b_44 hn_42 e_49 e_50 c_51 e_150) (o10_60 b_43 b_44 hn_42 e_49 e_50 c_51 e_150) (o10_61 b_45 b_46 e_66 c_67 e_69 e_71 e_73 e_137 e_139) (o10_62 b_45 b_46 e_66 c_67 e_69 e_71 e_73 e_137 e_139) h (Fr.tr hF_38 (Fr.up u_148.1 (rSC_2_2 hi0) (by decide))) (lv_sub hl [0, 4, 6, 7, 8, 9, 10, 11] rfl)
              · refine lv_tableIn (off := 73) (tgt := 246) C0.1 C0.2.1 dX4_value_173 sw_861 sw_862 (by rw [sw_864]; rfl) (by decide) ?_
                refine lv_lload C0.1 C0.2.1 dX4_value_246 (lv_at hl 1 rfl) ?_
                refine lv_lload C0.1 C0.2.1 dX4_value_248 (lv_at hl 0 rfl) ?_
                refine y_lcmp C0 dX4_value_250 (fun v_151 e_152 => ?_)
                refine y_if_ne (tgt := 258) C0 dX4_value_251 (by decide) (fun c_153 => ?_) (fun c_153 => ?_)
                · -- 251
                  refine y_lc (v := 0) C0 (by decide) dX4_value_258 (fun w_154 e_155 => ?_)
                  refine lv_lstore (lv' := [(13, .long w_154), (11, .long w_84), (9, .long w_78), (6, .int v_68), (8, .int v_58), (7, .int x7_35), (0, .ref (ad i0)), (1, .int a1), (2, .int a2), (3, .int a3), (4, .int a4), (5, .int a5)]) C0.1 C0.2.1 dX4_value_259 hl (by decide) rfl (fun ls hl => ?_)
                  refine lv_goto (tgt := 317) C0.1 C0.2.1 dX4_value_261 (by decide) ?_
                  refine lv_aload_n C0.1 C0.2.1 dX4_value_317 rfl (lv_at hl 6 rfl) ?_
                  refine tg_X4_stack C0 h hi0 q_168 dX4_value_318 ?_
                  refine lv_iload C0.1 C0.2.1 dX4_value_321 (lv_at hl 3 rfl) ?_
                  refine y_c1 (n := 1) C0 (by decide) dX4_value_323 (fun v_156 e_157 => ?_)
                  refine y_sub C0 (o10_52 b_45 b_46 e_66 c_67 e_69 e_71 e_73 e_157 (le_min v_68) (le_max v_68) (le_min v_156) (le_max v_156) (le_min x6_36) (le_max x6_36) (le_min v_65) (le_max v_65) (le_min v_70) (le_max v_70) (le_min v_72) (le_max v_72)) (o10_53 b_45 b_46 e_66 c_67 e_69 e_71 e_73 e_157 (le_min v_68) (le_max v_68) (le_min v_156) (le_max v_156) (le_min x6_36) (le_max x6_36) (le_min v_65) (le_max v_65) (le_min v_70) (le_max v_70) (le_min v_72) (le_max v_72)) dX4_value_324 (fun v_158 e_159 => ?_)
                  refine y_lc2 (n := (-1000000)) C0 q_938 (by decide) dX4_value_325 (fun w_160 e_161 => ?_)
                  refine y_lc2 (n := 1000000) C0 q_939 (by decide) dX4_value_328 (fun w_162 e_163 => ?_)
                  refine lv_lload C0.1 C0.2.1 dX4_value_331 (lv_at hl 0 rfl) ?_
                  refine m_mminL C0 hl.1 q_940 q_941 q_141 q_942 (Nat.le_of_ble_eq_true rfl) (Nat.le_of_ble_eq_true rfl) (Nat.le_of_ble_eq_true rfl) (Nat.le_of_ble_eq_true rfl) dX4_value_333 (fun w_164 => ?_)
                  refine m_mmaxL C0 hl.1 q_943 q_944 q_141 q_945 (Nat.le_of_ble_eq_true rfl) (Nat.le_of_ble_eq_true rfl) (Nat.le_of_ble_eq_true rfl) (Nat.le_of_ble_eq_true rfl) dX4_value_336 (fun w_165 => ?_)
                  refine y_l2iU C0 dX4_value_339 (fun v_166 => ?_)
                  refine y_iast C0 h (rSC_2_2 hi0) rfl (by decide) (o10_54 b_45 b_46 e_66 c_67 e_69 e_71 e_73 e_157 e_159) (o10_55 b_45 b_46 e_66 c_67 e_69 e_71 e_73 e_157 e_159) (le_min v_166) (le_max v_166) dX4_value_340 (fun H locs ws_167 h u_168 => ?_)
                  refine y_inc (kp := 5) (n := 1) (fun v_169 => [(7, .int v_169), (13, .long w_154), (11, .long w_84), (9, .long w_78), (6, .int v_68), (8, .int v_58), (0, .ref (ad i0)), (1, .int a1), (2, .int a2), (3, .int a3), (4, .int a4), (5, .int a5)]) C0 hl rfl (by decide) (by decide) (fun _ => rfl) (o10_56 b_43 b_44 hn_42 e_49 e_50 c_51 (le_min x7_35) (le_max x7_35) (le_min v_47) (le_max v_47)) (o10_57 b_43 b_44 hn_42 e_49 e_50 c_51 (le_min x7_35) (le_max x7_35) (le_min v_47) (le_max v_47)) dX4_value_341 (fun v_169 ls e_170 hl => ?_)
                  refine lv_goto (tgt := 56) C0.1 C0.2.1 dX4_value_344 (by decide) ?_
                  exact ih_40 v_169 v_68 _ _ _ _ (o10_58 b_43 b_44 hn_42 e_49 e_50 c_51 e_170) (o10_59 b_43 b_44 hn_42 e_49 e_50 c_51 e_170) (o10_60 b_43 b_44 hn_42 e_49 e_50 c_51 e_170) (o10_61 b_45 b_46 e_66 c_67 e_69 e_71 e_73 e_157 e_159) (o10_62 b_45 b_46 e_66 c_67 e_69 e_71 e_73 e_157 e_159) h (Fr.tr hF_38 (Fr.up u_168.1 (rSC_2_2 hi0) (by decide))) (lv_sub hl [0, 4, 6, 7, 8, 9, 10, 11] rfl)
                · -- 251
                  refine y_lc (v := 1) C0 (by decide) dX4_value_254 (fun w_171 e_172 => ?_)
                  refine lv_goto (tgt := 259) C0.1 C0.2.1 dX4_value_255 (by decide) ?_
                  refine lv_lstore (lv' := [(13, .long w_171), (11, .long w_84), (9, .long w_78), (6, .int v_68), (8, .int v_58), (7, .int x7_35), (0, .ref (ad i0)), (1, .int a1), (2, .int a2), (3, .int a3), (4, .int a4), (5, .int a5)]) C0.1 C0.2.1 dX4_value_259 hl (by decide) rfl (fun ls hl => ?_)
                  refine lv_goto (tgt := 317) C0.1 C0.2.1 dX4_value_261 (by decide) ?_
                  refine lv_aload_n C0.1 C0.2.1 dX4_value_317 rfl (lv_at hl 6 rfl) ?_
                  refine tg_X4_stack C0 h hi0 q_168 dX4_value_318 ?_
                  refine lv_iload C0.1 C0.2.1 dX4_value_321 (lv_at hl 3 rfl) ?_
                  refine y_c1 (n := 1) C0 (by decide) dX4_value_323 (fun v_173 e_174 => ?_)
                  refine y_sub C0 (o10_52 b_45 b_46 e_66 c_67 e_69 e_71 e_73 e_174 (le_min v_68) (le_max v_68) (le_min v_173) (le_max v_173) (le_min x6_36) (le_max x6_36) (le_min v_65) (le_max v_65) (le_min v_70) (le_max v_70) (le_min v_72) (le_max v_72)) (o10_53 b_45 b_46 e_66 c_67 e_69 e_71 e_73 e_174 (le_min v_68) (le_max v_68) (le_min v_173) (le_max v_173) (le_min x6_36) (le_max x6_36) (le_min v_65) (le_max v_65) (le_min v_70) (le_max v_70) (le_min v_72) (le_max v_72)) dX4_value_324 (fun v_175 e_176 => ?_)
                  refine y_lc2 (n := (-1000000)) C0 q_938 (by decide) dX4_value_325 (fun w_177 e_178 => ?_)
                  refine y_lc2 (n := 1000000) C0 q_939 (by decide) dX4_value_328 (fun w_179 e_180 => ?_)
                  refine lv_lload C0.1 C0.2.1 dX4_value_331 (lv_at hl 0 rfl) ?_
                  refine m_mminL C0 hl.1 q_940 q_941 q_141 q_942 (Nat.le_of_ble_eq_true rfl) (Nat.le_of_ble_eq_true rfl) (Nat.le_of_ble_eq_true rfl) (Nat.le_of_ble_eq_true rfl) dX4_value_333 (fun w_181 => ?_)
                  refine m_mmaxL C0 hl.1 q_943 q_944 q_141 q_945 (Nat.le_of_ble_eq_true rfl) (Nat.le_of_ble_eq_true rfl) (Nat.le_of_ble_eq_true rfl) (Nat.le_of_ble_eq_true rfl) dX4_value_336 (fun w_182 => ?_)
                  refine y_l2iU C0 dX4_value_339 (fun v_183 => ?_)
                  refine y_iast C0 h (rSC_2_2 hi0) rfl (by decide) (o10_54 b_45 b_46 e_66 c_67 e_69 e_71 e_73 e_174 e_176) (o10_55 b_45 b_46 e_66 c_67 e_69 e_71 e_73 e_174 e_176) (le_min v_183) (le_max v_183) dX4_value_340 (fun H locs ws_184 h u_185 => ?_)
                  refine y_inc (kp := 5) (n := 1) (fun v_186 => [(7, .int v_186), (13, .long w_171), (11, .long w_84), (9, .long w_78), (6, .int v_68), (8, .int v_58), (0, .ref (ad i0)), (1, .int a1), (2, .int a2), (3, .int a3), (4, .int a4), (5, .int a5)]) C0 hl rfl (by decide) (by decide) (fun _ => rfl) (o10_56 b_43 b_44 hn_42 e_49 e_50 c_51 (le_min x7_35) (le_max x7_35) (le_min v_47) (le_max v_47)) (o10_57 b_43 b_44 hn_42 e_49 e_50 c_51 (le_min x7_35) (le_max x7_35) (le_min v_47) (le_max v_47)) dX4_value_341 (fun v_186 ls e_187 hl => ?_)
                  refine lv_goto (tgt := 56) C0.1 C0.2.1 dX4_value_344 (by decide) ?_
                  exact ih_40 v_186 v_68 _ _ _ _ (o10_58 b_43 b_44 hn_42 e_49 e_50 c_51 e_187) (o10_59 b_43 b_44 hn_42 e_49 e_50 c_51 e_187) (o10_60 b_43 b_44 hn_42 e_49 e_50 c_51 e_187) (o10_61 b_45 b_46 e_66 c_67 e_69 e_71 e_73 e_174 e_176) (o10_62 b_45 b_46 e_66 c_67 e_69 e_71 e_73 e_174 e_176) h (Fr.tr hF_38 (Fr.up u_185.1 (rSC_2_2 hi0) (by decide))) (lv_sub hl [0, 4, 6, 7, 8, 9, 10, 11] rfl)
              · refine lv_tableIn (off := 91) (tgt := 264) C0.1 C0.2.1 dX4_value_173 sw_861 sw_862 (by rw [sw_864]; rfl) (by decide) ?_
                refine lv_lload C0.1 C0.2.1 dX4_value_264 (lv_at hl 1 rfl) ?_
                refine lv_lload C0.1 C0.2.1 dX4_value_266 (lv_at hl 0 rfl) ?_
                refine y_lcmp C0 dX4_value_268 (fun v_188 e_189 => ?_)
                refine y_if_ge (tgt := 276) C0 dX4_value_269 (by decide) (fun c_190 => ?_) (fun c_190 => ?_)
                · -- 269
                  refine y_lc (v := 0) C0 (by decide) dX4_value_276 (fun w_191 e_192 => ?_)
                  refine lv_lstore (lv' := [(13, .long w_191), (11, .long w_84), (9, .long w_78), (6, .int v_68), (8, .int v_58), (7, .int x7_35), (0, .ref (ad i0)), (1, .int a1), (2, .int a2), (3, .int a3), (4, .int a4), (5, .int a5)]) C0.1 C0.2.1 dX4_value_277 hl (by decide) rfl (fun ls hl => ?_)
                  refine lv_goto (tgt := 317) C0.1 C0.2.1 dX4_value_279 (by decide) ?_
                  refine lv_aload_n C0.1 C0.2.1 dX4_value_317 rfl (lv_at hl 6 rfl) ?_
                  refine tg_X4_stack C0 h hi0 q_168 dX4_value_318 ?_
                  refine lv_iload C0.1 C0.2.1 dX4_value_321 (lv_at hl 3 rfl) ?_
                  refine y_c1 (n := 1) C0 (by decide) dX4_value_323 (fun v_193 e_194 => ?_)
                  refine y_sub C0 (o10_52 b_45 b_46 e_66 c_67 e_69 e_71 e_73 e_194 (le_min v_68) (le_max v_68) (le_min v_193) (le_max v_193) (le_min x6_36) (le_max x6_36) (le_min v_65) (le_max v_65) (le_min v_70) (le_max v_70) (le_min v_72) (le_max v_72)) (o10_53 b_45 b_46 e_66 c_67 e_69 e_71 e_73 e_194 (le_min v_68) (le_max v_68) (le_min v_193) (le_max v_193) (le_min x6_36) (le_max x6_36) (le_min v_65) (le_max v_65) (le_min v_70) (le_max v_70) (le_min v_72) (le_max v_72)) dX4_value_324 (fun v_195 e_196 => ?_)
                  refine y_lc2 (n := (-1000000)) C0 q_938 (by decide) dX4_value_325 (fun w_197 e_198 => ?_)
                  refine y_lc2 (n := 1000000) C0 q_939 (by decide) dX4_value_328 (fun w_199 e_200 => ?_)
                  refine lv_lload C0.1 C0.2.1 dX4_value_331 (lv_at hl 0 rfl) ?_
                  refine m_mminL C0 hl.1 q_940 q_941 q_141 q_942 (Nat.le_of_ble_eq_true rfl) (Nat.le_of_ble_eq_true rfl) (Nat.le_of_ble_eq_true rfl) (Nat.le_of_ble_eq_true rfl) dX4_value_333 (fun w_201 => ?_)
                  refine m_mmaxL C0 hl.1 q_943 q_944 q_141 q_945 (Nat.le_of_ble_eq_true rfl) (Nat.le_of_ble_eq_true rfl) (Nat.le_of_ble_eq_true rfl) (Nat.le_of_ble_eq_true rfl) dX4_value_336 (fun w_202 => ?_)
                  refine y_l2iU C0 dX4_value_339 (fun v_203 => ?_)
                  refine y_iast C0 h (rSC_2_2 hi0) rfl (by decide) (o10_54 b_45 b_46 e_66 c_67 e_69 e_71 e_73 e_194 e_196) (o10_55 b_45 b_46 e_66 c_67 e_69 e_71 e_73 e_194 e_196) (le_min v_203) (le_max v_203) dX4_value_340 (fun H locs ws_204 h u_205 => ?_)
                  refine y_inc (kp := 5) (n := 1) (fun v_206 => [(7, .int v_206), (13, .long w_191), (11, .long w_84), (9, .long w_78), (6, .int v_68), (8, .int v_58), (0, .ref (ad i0)), (1, .int a1), (2, .int a2), (3, .int a3), (4, .int a4), (5, .int a5)]) C0 hl rfl (by decide) (by decide) (fun _ => rfl) (o10_56 b_43 b_44 hn_42 e_49 e_50 c_51 (le_min x7_35) (le_max x7_35) (le_min v_47) (le_max v_47)) (o10_57 b_43 b_44 hn_42 e_49 e_50 c_51 (le_min x7_35) (le_max x7_35) (le_min v_47) (le_max v_47)) dX4_value_341 (fun v_206 ls e_207 hl => ?_)
                  refine lv_goto (tgt := 56) C0.1 C0.2.1 dX4_value_344 (by decide) ?_
                  exact ih_40 v_206 v_68 _ _ _ _ (o10_58 b_43 b_44 hn_42 e_49 e_50 c_51 e_207) (o10_59 b_43 b_44 hn_42 e_49 e_50 c_51 e_207) (o10_60 b_43 b_44 hn_42 e_49 e_50 c_51 e_207) (o10_61 b_45 b_46 e_66 c_67 e_69 e_71 e_73 e_194 e_196) (o10_62 b_45 b_46 e_66 c_67 e_69 e_71 e_73 e_194 e_196) h (Fr.tr hF_38 (Fr.up u_205.1 (rSC_2_2 hi0) (by decide))) (lv_sub hl [0, 4, 6, 7, 8, 9, 10, 11] rfl)
                · -- 269
                  refine y_lc (v := 1) C0 (by decide) dX4_value_272 (fun w_208 e_209 => ?_)
                  refine lv_goto (tgt := 277) C0.1 C0.2.1 dX4_value_273 (by decide) ?_
                  refine lv_lstore (lv' := [(13, .long w_208), (11, .long w_84), (9, .long w_78), (6, .int v_68), (8, .int v_58), (7, .int x7_35), (0, .ref (ad i0)), (1, .int a1), (2, .int a2), (3, .int a3), (4, .int a4), (5, .int a5)]) C0.1 C0.2.1 dX4_value_277 hl (by decide) rfl (fun ls hl => ?_)
                  refine lv_goto (tgt := 317) C0.1 C0.2.1 dX4_value_279 (by decide) ?_
                  refine lv_aload_n C0.1 C0.2.1 dX4_value_317 rfl (lv_at hl 6 rfl) ?_
                  refine tg_X4_stack C0 h hi0 q_168 dX4_value_318 ?_
                  refine lv_iload C0.1 C0.2.1 dX4_value_321 (lv_at hl 3 rfl) ?_
                  refine y_c1 (n := 1) C0 (by decide) dX4_value_323 (fun v_210 e_211 => ?_)
                  refine y_sub C0 (o10_52 b_45 b_46 e_66 c_67 e_69 e_71 e_73 e_211 (le_min v_68) (le_max v_68) (le_min v_210) (le_max v_210) (le_min x6_36) (le_max x6_36) (le_min v_65) (le_max v_65) (le_min v_70) (le_max v_70) (le_min v_72) (le_max v_72)) (o10_53 b_45 b_46 e_66 c_67 e_69 e_71 e_73 e_211 (le_min v_68) (le_max v_68) (le_min v_210) (le_max v_210) (le_min x6_36) (le_max x6_36) (le_min v_65) (le_max v_65) (le_min v_70) (le_max v_70) (le_min v_72) (le_max v_72)) dX4_value_324 (fun v_212 e_213 => ?_)
                  refine y_lc2 (n := (-1000000)) C0 q_938 (by decide) dX4_value_325 (fun w_214 e_215 => ?_)
                  refine y_lc2 (n := 1000000) C0 q_939 (by decide) dX4_value_328 (fun w_216 e_217 => ?_)
                  refine lv_lload C0.1 C0.2.1 dX4_value_331 (lv_at hl 0 rfl) ?_
                  refine m_mminL C0 hl.1 q_940 q_941 q_141 q_942 (Nat.le_of_ble_eq_true rfl) (Nat.le_of_ble_eq_true rfl) (Nat.le_of_ble_eq_true rfl) (Nat.le_of_ble_eq_true rfl) dX4_value_333 (fun w_218 => ?_)
                  refine m_mmaxL C0 hl.1 q_943 q_944 q_141 q_945 (Nat.le_of_ble_eq_true rfl) (Nat.le_of_ble_eq_true rfl) (Nat.le_of_ble_eq_true rfl) (Nat.le_of_ble_eq_true rfl) dX4_value_336 (fun w_219 => ?_)
                  refine y_l2iU C0 dX4_value_339 (fun v_220 => ?_)
                  refine y_iast C0 h (rSC_2_2 hi0) rfl (by decide) (o10_54 b_45 b_46 e_66 c_67 e_69 e_71 e_73 e_211 e_213) (o10_55 b_45 b_46 e_66 c_67 e_69 e_71 e_73 e_211 e_213) (le_min v_220) (le_max v_220) dX4_value_340 (fun H locs ws_221 h u_222 => ?_)
                  refine y_inc (kp := 5) (n := 1) (fun v_223 => [(7, .int v_223), (13, .long w_208), (11, .long w_84), (9, .long w_78), (6, .int v_68), (8, .int v_58), (0, .ref (ad i0)), (1, .int a1), (2, .int a2), (3, .int a3), (4, .int a4), (5, .int a5)]) C0 hl rfl (by decide) (by decide) (fun _ => rfl) (o10_56 b_43 b_44 hn_42 e_49 e_50 c_51 (le_min x7_35) (le_max x7_35) (le_min v_47) (le_max v_47)) (o10_57 b_43 b_44 hn_42 e_49 e_50 c_51 (le_min x7_35) (le_max x7_35) (le_min v_47) (le_max v_47)) dX4_value_341 (fun v_223 ls e_224 hl => ?_)
                  refine lv_goto (tgt := 56) C0.1 C0.2.1 dX4_value_344 (by decide) ?_
                  exact ih_40 v_223 v_68 _ _ _ _ (o10_58 b_43 b_44 hn_42 e_49 e_50 c_51 e_224) (o10_59 b_43 b_44 hn_42 e_49 e_50 c_51 e_224) (o10_60 b_43 b_44 hn_42 e_49 e_50 c_51 e_224) (o10_61 b_45 b_46 e_66 c_67 e_69 e_71 e_73 e_211 e_213) (o10_62 b_45 b_46 e_66 c_67 e_69 e_71 e_73 e_211 e_213) h (Fr.tr hF_38 (Fr.up u_222.1 (rSC_2_2 hi0) (by decide))) (lv_sub hl [0, 4, 6, 7, 8, 9, 10, 11] rfl)
              · refine lv_tableIn (off := 109) (tgt := 282) C0.1 C0.2.1 dX4_value_173 sw_861 sw_862 (by rw [sw_864]; rfl) (by decide) ?_
                refine lv_lload C0.1 C0.2.1 dX4_value_282 (lv_at hl 1 rfl) ?_
                refine lv_lload C0.1 C0.2.1 dX4_value_284 (lv_at hl 0 rfl) ?_
                refine y_lcmp C0 dX4_value_286 (fun v_225 e_226 => ?_)
                refine y_if_le (tgt := 294) C0 dX4_value_287 (by decide) (fun c_227 => ?_) (fun c_227 => ?_)
                · -- 287
                  refine y_lc (v := 0) C0 (by decide) dX4_value_294 (fun w_228 e_229 => ?_)
                  refine lv_lstore (lv' := [(13, .long w_228), (11, .long w_84), (9, .long w_78), (6, .int v_68), (8, .int v_58), (7, .int x7_35), (0, .ref (ad i0)), (1, .int a1), (2, .int a2), (3, .int a3), (4, .int a4), (5, .int a5)]) C0.1 C0.2.1 dX4_value_295 hl (by decide) rfl (fun ls hl => ?_)
                  refine lv_goto (tgt := 317) C0.1 C0.2.1 dX4_value_297 (by decide) ?_
                  refine lv_aload_n C0.1 C0.2.1 dX4_value_317 rfl (lv_at hl 6 rfl) ?_
                  refine tg_X4_stack C0 h hi0 q_168 dX4_value_318 ?_
                  refine lv_iload C0.1 C0.2.1 dX4_value_321 (lv_at hl 3 rfl) ?_
                  refine y_c1 (n := 1) C0 (by decide) dX4_value_323 (fun v_230 e_231 => ?_)
                  refine y_sub C0 (o10_52 b_45 b_46 e_66 c_67 e_69 e_71 e_73 e_231 (le_min v_68) (le_max v_68) (le_min v_230) (le_max v_230) (le_min x6_36) (le_max x6_36) (le_min v_65) (le_max v_65) (le_min v_70) (le_max v_70) (le_min v_72) (le_max v_72)) (o10_53 b_45 b_46 e_66 c_67 e_69 e_71 e_73 e_231 (le_min v_68) (le_max v_68) (le_min v_230) (le_max v_230) (le_min x6_36) (le_max x6_36) (le_min v_65) (le_max v_65) (le_min v_70) (le_max v_70) (le_min v_72) (le_max v_72)) dX4_value_324 (fun v_232 e_233 => ?_)
                  refine y_lc2 (n := (-1000000)) C0 q_938 (by decide) dX4_value_325 (fun w_234 e_235 => ?_)
                  refine y_lc2 (n := 1000000) C0 q_939 (by decide) dX4_value_328 (fun w_236 e_237 => ?_)
                  refine lv_lload C0.1 C0.2.1 dX4_value_331 (lv_at hl 0 rfl) ?_
                  refine m_mminL C0 hl.1 q_940 q_941 q_141 q_942 (Nat.le_of_ble_eq_true rfl) (Nat.le_of_ble_eq_true rfl) (Nat.le_of_ble_eq_true rfl) (Nat.le_of_ble_eq_true rfl) dX4_value_333 (fun w_238 => ?_)
                  refine m_mmaxL C0 hl.1 q_943 q_944 q_141 q_945 (Nat.le_of_ble_eq_true rfl) (Nat.le_of_ble_eq_true rfl) (Nat.le_of_ble_eq_true rfl) (Nat.le_of_ble_eq_true rfl) dX4_value_336 (fun w_239 => ?_)
                  refine y_l2iU C0 dX4_value_339 (fun v_240 => ?_)
                  refine y_iast C0 h (rSC_2_2 hi0) rfl (by decide) (o10_54 b_45 b_46 e_66 c_67 e_69 e_71 e_73 e_231 e_233) (o10_55 b_45 b_46 e_66 c_67 e_69 e_71 e_73 e_231 e_233) (le_min v_240) (le_max v_240) dX4_value_340 (fun H locs ws_241 h u_242 => ?_)
                  refine y_inc (kp := 5) (n := 1) (fun v_243 => [(7, .int v_243), (13, .long w_228), (11, .long w_84), (9, .long w_78), (6, .int v_68), (8, .int v_58), (0, .ref (ad i0)), (1, .int a1), (2, .int a2), (3, .int a3), (4, .int a4), (5, .int a5)]) C0 hl rfl (by decide) (by decide) (fun _ => rfl) (o10_56 b_43 b_44 hn_42 e_49 e_50 c_51 (le_min x7_35) (le_max x7_35) (le_min v_47) (le_max v_47)) (o10_57 b_43 b_44 hn_42 e_49 e_50 c_51 (le_min x7_35) (le_max x7_35) (le_min v_47) (le_max v_47)) dX4_value_341 (fun v_243 ls e_244 hl => ?_)
                  refine lv_goto (tgt := 56) C0.1 C0.2.1 dX4_value_344 (by decide) ?_
                  exact ih_40 v_243 v_68 _ _ _ _ (o10_58 b_43 b_44 hn_42 e_49 e_50 c_51 e_244) (o10_59 b_43 b_44 hn_42 e_49 e_50 c_51 e_244) (o10_60 b_43 b_44 hn_42 e_49 e_50 c_51 e_244) (o10_61 b_45 b_46 e_66 c_67 e_69 e_71 e_73 e_231 e_233) (o10_62 b_45 b_46 e_66 c_67 e_69 e_71 e_73 e_231 e_233) h (Fr.tr hF_38 (Fr.up u_242.1 (rSC_2_2 hi0) (by decide))) (lv_sub hl [0, 4, 6, 7, 8, 9, 10, 11] rfl)
                · -- 287
                  refine y_lc (v := 1) C0 (by decide) dX4_value_290 (fun w_245 e_246 => ?_)
                  refine lv_goto (tgt := 295) C0.1 C0.2.1 dX4_value_291 (by decide) ?_
                  refine lv_lstore (lv' := [(13, .long w_245), (11, .long w_84), (9, .long w_78), (6, .int v_68), (8, .int v_58), (7, .int x7_35), (0, .ref (ad i0)), (1, .int a1), (2, .int a2), (3, .int a3), (4, .int a4), (5, .int a5)]) C0.1 C0.2.1 dX4_value_295 hl (by decide) rfl (fun ls hl => ?_)
                  refine lv_goto (tgt := 317) C0.1 C0.2.1 dX4_value_297 (by decide) ?_
                  refine lv_aload_n C0.1 C0.2.1 dX4_value_317 rfl (lv_at hl 6 rfl) ?_
                  refine tg_X4_stack C0 h hi0 q_168 dX4_value_318 ?_
                  refine lv_iload C0.1 C0.2.1 dX4_value_321 (lv_at hl 3 rfl) ?_
                  refine y_c1 (n := 1) C0 (by decide) dX4_value_323 (fun v_247 e_248 => ?_)
                  refine y_sub C0 (o10_52 b_45 b_46 e_66 c_67 e_69 e_71 e_73 e_248 (le_min v_68) (le_max v_68) (le_min v_247) (le_max v_247) (le_min x6_36) (le_max x6_36) (le_min v_65) (le_max v_65) (le_min v_70) (le_max v_70) (le_min v_72) (le_max v_72)) (o10_53 b_45 b_46 e_66 c_67 e_69 e_71 e_73 e_248 (le_min v_68) (le_max v_68) (le_min v_247) (le_max v_247) (le_min x6_36) (le_max x6_36) (le_min v_65) (le_max v_65) (le_min v_70) (le_max v_70) (le_min v_72) (le_max v_72)) dX4_value_324 (fun v_249 e_250 => ?_)
                  refine y_lc2 (n := (-1000000)) C0 q_938 (by decide) dX4_value_325 (fun w_251 e_252 => ?_)
                  refine y_lc2 (n := 1000000) C0 q_939 (by decide) dX4_value_328 (fun w_253 e_254 => ?_)
                  refine lv_lload C0.1 C0.2.1 dX4_value_331 (lv_at hl 0 rfl) ?_
                  refine m_mminL C0 hl.1 q_940 q_941 q_141 q_942 (Nat.le_of_ble_eq_true rfl) (Nat.le_of_ble_eq_true rfl) (Nat.le_of_ble_eq_true rfl) (Nat.le_of_ble_eq_true rfl) dX4_value_333 (fun w_255 => ?_)
                  refine m_mmaxL C0 hl.1 q_943 q_944 q_141 q_945 (Nat.le_of_ble_eq_true rfl) (Nat.le_of_ble_eq_true rfl) (Nat.le_of_ble_eq_true rfl) (Nat.le_of_ble_eq_true rfl) dX4_value_336 (fun w_256 => ?_)
                  refine y_l2iU C0 dX4_value_339 (fun v_257 => ?_)
                  refine y_iast C0 h (rSC_2_2 hi0) rfl (by decide) (o10_54 b_45 b_46 e_66 c_67 e_69 e_71 e_73 e_248 e_250) (o10_55 b_45 b_46 e_66 c_67 e_69 e_71 e_73 e_248 e_250) (le_min v_257) (le_max v_257) dX4_value_340 (fun H locs ws_258 h u_259 => ?_)
                  refine y_inc (kp := 5) (n := 1) (fun v_260 => [(7, .int v_260), (13, .long w_245), (11, .long w_84), (9, .long w_78), (6, .int v_68), (8, .int v_58), (0, .ref (ad i0)), (1, .int a1), (2, .int a2), (3, .int a3), (4, .int a4), (5, .int a5)]) C0 hl rfl (by decide) (by decide) (fun _ => rfl) (o10_56 b_43 b_44 hn_42 e_49 e_50 c_51 (le_min x7_35) (le_max x7_35) (le_min v_47) (le_max v_47)) (o10_57 b_43 b_44 hn_42 e_49 e_50 c_51 (le_min x7_35) (le_max x7_35) (le_min v_47) (le_max v_47)) dX4_value_341 (fun v_260 ls e_261 hl => ?_)
                  refine lv_goto (tgt := 56) C0.1 C0.2.1 dX4_value_344 (by decide) ?_
                  exact ih_40 v_260 v_68 _ _ _ _ (o10_58 b_43 b_44 hn_42 e_49 e_50 c_51 e_261) (o10_59 b_43 b_44 hn_42 e_49 e_50 c_51 e_261) (o10_60 b_43 b_44 hn_42 e_49 e_50 c_51 e_261) (o10_61 b_45 b_46 e_66 c_67 e_69 e_71 e_73 e_248 e_250) (o10_62 b_45 b_46 e_66 c_67 e_69 e_71 e_73 e_248 e_250) h (Fr.tr hF_38 (Fr.up u_259.1 (rSC_2_2 hi0) (by decide))) (lv_sub hl [0, 4, 6, 7, 8, 9, 10, 11] rfl)
              · refine lv_tableIn (off := 127) (tgt := 300) C0.1 C0.2.1 dX4_value_173 sw_861 sw_862 (by rw [sw_864]; rfl) (by decide) ?_
                refine lv_lload C0.1 C0.2.1 dX4_value_300 (lv_at hl 1 rfl) ?_
                refine lv_lload C0.1 C0.2.1 dX4_value_302 (lv_at hl 0 rfl) ?_
                refine y_landU C0 dX4_value_304 (fun w_262 => ?_)
                refine lv_lstore (lv' := [(13, .long w_262), (11, .long w_84), (9, .long w_78), (6, .int v_68), (8, .int v_58), (7, .int x7_35), (0, .ref (ad i0)), (1, .int a1), (2, .int a2), (3, .int a3), (4, .int a4), (5, .int a5)]) C0.1 C0.2.1 dX4_value_305 hl (by decide) rfl (fun ls hl => ?_)
                refine lv_goto (tgt := 317) C0.1 C0.2.1 dX4_value_307 (by decide) ?_
                refine lv_aload_n C0.1 C0.2.1 dX4_value_317 rfl (lv_at hl 6 rfl) ?_
                refine tg_X4_stack C0 h hi0 q_168 dX4_value_318 ?_
                refine lv_iload C0.1 C0.2.1 dX4_value_321 (lv_at hl 3 rfl) ?_
                refine y_c1 (n := 1) C0 (by decide) dX4_value_323 (fun v_263 e_264 => ?_)
                refine y_sub C0 (o10_52 b_45 b_46 e_66 c_67 e_69 e_71 e_73 e_264 (le_min v_68) (le_max v_68) (le_min v_263) (le_max v_263) (le_min x6_36) (le_max x6_36) (le_min v_65) (le_max v_65) (le_min v_70) (le_max v_70) (le_min v_72) (le_max v_72)) (o10_53 b_45 b_46 e_66 c_67 e_69 e_71 e_73 e_264 (le_min v_68) (le_max v_68) (le_min v_263) (le_max v_263) (le_min x6_36) (le_max x6_36) (le_min v_65) (le_max v_65) (le_min v_70) (le_max v_70) (le_min v_72) (le_max v_72)) dX4_value_324 (fun v_265 e_266 => ?_)
                refine y_lc2 (n := (-1000000)) C0 q_938 (by decide) dX4_value_325 (fun w_267 e_268 => ?_)
                refine y_lc2 (n := 1000000) C0 q_939 (by decide) dX4_value_328 (fun w_269 e_270 => ?_)
                refine lv_lload C0.1 C0.2.1 dX4_value_331 (lv_at hl 0 rfl) ?_
                refine m_mminL C0 hl.1 q_940 q_941 q_141 q_942 (Nat.le_of_ble_eq_true rfl) (Nat.le_of_ble_eq_true rfl) (Nat.le_of_ble_eq_true rfl) (Nat.le_of_ble_eq_true rfl) dX4_value_333 (fun w_271 => ?_)
                refine m_mmaxL C0 hl.1 q_943 q_944 q_141 q_945 (Nat.le_of_ble_eq_true rfl) (Nat.le_of_ble_eq_true rfl) (Nat.le_of_ble_eq_true rfl) (Nat.le_of_ble_eq_true rfl) dX4_value_336 (fun w_272 => ?_)
                refine y_l2iU C0 dX4_value_339 (fun v_273 => ?_)
                refine y_iast C0 h (rSC_2_2 hi0) rfl (by decide) (o10_54 b_45 b_46 e_66 c_67 e_69 e_71 e_73 e_264 e_266) (o10_55 b_45 b_46 e_66 c_67 e_69 e_71 e_73 e_264 e_266) (le_min v_273) (le_max v_273) dX4_value_340 (fun H locs ws_274 h u_275 => ?_)
                refine y_inc (kp := 5) (n := 1) (fun v_276 => [(7, .int v_276), (13, .long w_262), (11, .long w_84), (9, .long w_78), (6, .int v_68), (8, .int v_58), (0, .ref (ad i0)), (1, .int a1), (2, .int a2), (3, .int a3), (4, .int a4), (5, .int a5)]) C0 hl rfl (by decide) (by decide) (fun _ => rfl) (o10_56 b_43 b_44 hn_42 e_49 e_50 c_51 (le_min x7_35) (le_max x7_35) (le_min v_47) (le_max v_47)) (o10_57 b_43 b_44 hn_42 e_49 e_50 c_51 (le_min x7_35) (le_max x7_35) (le_min v_47) (le_max v_47)) dX4_value_341 (fun v_276 ls e_277 hl => ?_)
                refine lv_goto (tgt := 56) C0.1 C0.2.1 dX4_value_344 (by decide) ?_
                exact ih_40 v_276 v_68 _ _ _ _ (o10_58 b_43 b_44 hn_42 e_49 e_50 c_51 e_277) (o10_59 b_43 b_44 hn_42 e_49 e_50 c_51 e_277) (o10_60 b_43 b_44 hn_42 e_49 e_50 c_51 e_277) (o10_61 b_45 b_46 e_66 c_67 e_69 e_71 e_73 e_264 e_266) (o10_62 b_45 b_46 e_66 c_67 e_69 e_71 e_73 e_264 e_266) h (Fr.tr hF_38 (Fr.up u_275.1 (rSC_2_2 hi0) (by decide))) (lv_sub hl [0, 4, 6, 7, 8, 9, 10, 11] rfl)
          · -- 140
            refine lv_goto (tgt := 341) C0.1 C0.2.1 dX4_value_143 (by decide) ?_
            refine y_inc (kp := 1) (n := 1) (fun v_278 => [(7, .int v_278), (8, .int v_58), (6, .int x6_36), (0, .ref (ad i0)), (1, .int a1), (2, .int a2), (3, .int a3), (4, .int a4), (5, .int a5)]) C0 hl rfl (by decide) (by decide) (fun _ => rfl) (o10_56 b_43 b_44 hn_42 e_49 e_50 c_51 (le_min x7_35) (le_max x7_35) (le_min v_47) (le_max v_47)) (o10_57 b_43 b_44 hn_42 e_49 e_50 c_51 (le_min x7_35) (le_max x7_35) (le_min v_47) (le_max v_47)) dX4_value_341 (fun v_278 ls e_279 hl => ?_)
            refine lv_goto (tgt := 56) C0.1 C0.2.1 dX4_value_344 (by decide) ?_
            exact ih_40 v_278 x6_36 _ _ _ _ (o10_58 b_43 b_44 hn_42 e_49 e_50 c_51 e_279) (o10_59 b_43 b_44 hn_42 e_49 e_50 c_51 e_279) (o10_60 b_43 b_44 hn_42 e_49 e_50 c_51 e_279) (o10_63 b_45 b_46 e_66 c_67) (o10_64 b_45 b_46 e_66 c_67) h hF_38 (lv_sub hl [0, 2, 3, 4, 5, 6, 7, 8] rfl)
        · -- 79
          refine lv_iload C0.1 C0.2.1 dX4_value_82 (lv_at hl 2 rfl) ?_
          refine lv_aload_n C0.1 C0.2.1 dX4_value_84 rfl (lv_at hl 3 rfl) ?_
          refine tg_X4_stack C0 h hi0 q_168 dX4_value_85 ?_
          refine y_alenI (cA := G.2 0) C0 h (rSC_2_2 hi0) rfl rfl (by decide) dX4_value_88 (fun v_280 e_281 => ?_)
          refine y_icmp_ge (tgt := 341) C0 dX4_value_89 (by decide) (fun c_282 => ?_) (fun c_282 => ?_)
          · -- 89
            refine y_inc (kp := 1) (n := 1) (fun v_283 => [(7, .int v_283), (8, .int v_58), (6, .int x6_36), (0, .ref (ad i0)), (1, .int a1), (2, .int a2), (3, .int a3), (4, .int a4), (5, .int a5)]) C0 hl rfl (by decide) (by decide) (fun _ => rfl) (o10_56 b_43 b_44 hn_42 e_49 e_50 c_51 (le_min x7_35) (le_max x7_35) (le_min v_47) (le_max v_47)) (o10_57 b_43 b_44 hn_42 e_49 e_50 c_51 (le_min x7_35) (le_max x7_35) (le_min v_47) (le_max v_47)) dX4_value_341 (fun v_283 ls e_284 hl => ?_)
            refine lv_goto (tgt := 56) C0.1 C0.2.1 dX4_value_344 (by decide) ?_
            exact ih_40 v_283 x6_36 _ _ _ _ (o10_58 b_43 b_44 hn_42 e_49 e_50 c_51 e_284) (o10_59 b_43 b_44 hn_42 e_49 e_50 c_51 e_284) (o10_60 b_43 b_44 hn_42 e_49 e_50 c_51 e_284) (o10_65 b_45 b_46 e_281 c_282) (o10_66 b_45 b_46 e_281 c_282) h hF_38 (lv_sub hl [0, 2, 3, 4, 5, 6, 7, 8] rfl)
          · -- 89
            refine lv_aload_n C0.1 C0.2.1 dX4_value_92 rfl (lv_at hl 3 rfl) ?_
            refine tg_X4_stack C0 h hi0 q_168 dX4_value_93 ?_
            refine lv_iload C0.1 C0.2.1 dX4_value_96 (lv_at hl 2 rfl) ?_
            refine lv_iload C0.1 C0.2.1 dX4_value_98 (lv_at hl 0 rfl) ?_
            refine y_c3 (n := 1000) C0 (by decide) dX4_value_100 (fun v_285 e_286 => ?_)
            refine y_icmp_lt (tgt := 128) C0 dX4_value_103 (by decide) (fun c_287 => ?_) (fun c_287 => ?_)
            · -- 103
              refine lv_iload C0.1 C0.2.1 dX4_value_128 (lv_at hl 0 rfl) ?_
              refine y_iast C0 h (rSC_2_2 hi0) rfl (by decide) (o10_67 b_45 b_46 e_281 c_282) (o10_68 b_45 b_46 e_281 c_282) (le_min v_58) (le_max v_58) dX4_value_130 (fun H locs ws_288 h u_289 => ?_)
              refine y_inc (kp := 2) (n := 1) (fun v_290 => [(6, .int v_290), (8, .int v_58), (7, .int x7_35), (0, .ref (ad i0)), (1, .int a1), (2, .int a2), (3, .int a3), (4, .int a4), (5, .int a5)]) C0 hl rfl (by decide) (by decide) (fun _ => rfl) (o10_69 b_45 b_46 e_281 c_282 (le_min x6_36) (le_max x6_36) (le_min v_280) (le_max v_280)) (o10_70 b_45 b_46 e_281 c_282 (le_min x6_36) (le_max x6_36) (le_min v_280) (le_max v_280)) dX4_value_131 (fun v_290 ls e_291 hl => ?_)
              refine lv_goto (tgt := 341) C0.1 C0.2.1 dX4_value_134 (by decide) ?_
              refine y_inc (kp := 2) (n := 1) (fun v_292 => [(7, .int v_292), (6, .int v_290), (8, .int v_58), (0, .ref (ad i0)), (1, .int a1), (2, .int a2), (3, .int a3), (4, .int a4), (5, .int a5)]) C0 hl rfl (by decide) (by decide) (fun _ => rfl) (o10_56 b_43 b_44 hn_42 e_49 e_50 c_51 (le_min x7_35) (le_max x7_35) (le_min v_47) (le_max v_47)) (o10_57 b_43 b_44 hn_42 e_49 e_50 c_51 (le_min x7_35) (le_max x7_35) (le_min v_47) (le_max v_47)) dX4_value_341 (fun v_292 ls e_293 hl => ?_)
              refine lv_goto (tgt := 56) C0.1 C0.2.1 dX4_value_344 (by decide) ?_
              exact ih_40 v_292 v_290 _ _ _ _ (o10_58 b_43 b_44 hn_42 e_49 e_50 c_51 e_293) (o10_59 b_43 b_44 hn_42 e_49 e_50 c_51 e_293) (o10_60 b_43 b_44 hn_42 e_49 e_50 c_51 e_293) (o10_71 b_45 b_46 e_281 c_282 e_291) (o10_72 b_45 b_46 e_281 c_282 e_291) h (Fr.tr hF_38 (Fr.up u_289.1 (rSC_2_2 hi0) (by decide))) (lv_sub hl [0, 1, 3, 4, 5, 6, 7, 8] rfl)
            · -- 103
              refine lv_iload C0.1 C0.2.1 dX4_value_106 (lv_at hl 0 rfl) ?_
              refine y_c3 (n := 1005) C0 (by decide) dX4_value_108 (fun v_294 e_295 => ?_)
              refine y_icmp_gt (tgt := 128) C0 dX4_value_111 (by decide) (fun c_296 => ?_) (fun c_296 => ?_)
              · -- 111
                refine lv_iload C0.1 C0.2.1 dX4_value_128 (lv_at hl 0 rfl) ?_
                refine y_iast C0 h (rSC_2_2 hi0) rfl (by decide) (o10_67 b_45 b_46 e_281 c_282) (o10_68 b_45 b_46 e_281 c_282) (le_min v_58) (le_max v_58) dX4_value_130 (fun H locs ws_297 h u_298 => ?_)
                refine y_inc (kp := 2) (n := 1) (fun v_299 => [(6, .int v_299), (8, .int v_58), (7, .int x7_35), (0, .ref (ad i0)), (1, .int a1), (2, .int a2), (3, .int a3), (4, .int a4), (5, .int a5)]) C0 hl rfl (by decide) (by decide) (fun _ => rfl) (o10_69 b_45 b_46 e_281 c_282 (le_min x6_36) (le_max x6_36) (le_min v_280) (le_max v_280)) (o10_70 b_45 b_46 e_281 c_282 (le_min x6_36) (le_max x6_36) (le_min v_280) (le_max v_280)) dX4_value_131 (fun v_299 ls e_300 hl => ?_)
                refine lv_goto (tgt := 341) C0.1 C0.2.1 dX4_value_134 (by decide) ?_
                refine y_inc (kp := 2) (n := 1) (fun v_301 => [(7, .int v_301), (6, .int v_299), (8, .int v_58), (0, .ref (ad i0)), (1, .int a1), (2, .int a2), (3, .int a3), (4, .int a4), (5, .int a5)]) C0 hl rfl (by decide) (by decide) (fun _ => rfl) (o10_56 b_43 b_44 hn_42 e_49 e_50 c_51 (le_min x7_35) (le_max x7_35) (le_min v_47) (le_max v_47)) (o10_57 b_43 b_44 hn_42 e_49 e_50 c_51 (le_min x7_35) (le_max x7_35) (le_min v_47) (le_max v_47)) dX4_value_341 (fun v_301 ls e_302 hl => ?_)
                refine lv_goto (tgt := 56) C0.1 C0.2.1 dX4_value_344 (by decide) ?_
                exact ih_40 v_301 v_299 _ _ _ _ (o10_58 b_43 b_44 hn_42 e_49 e_50 c_51 e_302) (o10_59 b_43 b_44 hn_42 e_49 e_50 c_51 e_302) (o10_60 b_43 b_44 hn_42 e_49 e_50 c_51 e_302) (o10_71 b_45 b_46 e_281 c_282 e_300) (o10_72 b_45 b_46 e_281 c_282 e_300) h (Fr.tr hF_38 (Fr.up u_298.1 (rSC_2_2 hi0) (by decide))) (lv_sub hl [0, 1, 3, 4, 5, 6, 7, 8] rfl)
              · -- 111
                refine lv_aload_n C0.1 C0.2.1 dX4_value_114 rfl (lv_at hl 3 rfl) ?_
                refine tg_X4_names C0 h hi0 q_169 dX4_value_115 ?_
                refine lv_iload C0.1 C0.2.1 dX4_value_118 (lv_at hl 0 rfl) ?_
                refine y_c3 (n := 1000) C0 (by decide) dX4_value_120 (fun v_303 e_304 => ?_)
                refine y_sub C0 (o10_73 e_63 c_64 e_286 c_287 e_295 c_296 e_304 (le_min v_58) (le_max v_58) (le_min v_303) (le_max v_303) (le_min v_62) (le_max v_62) (le_min v_285) (le_max v_285) (le_min v_294) (le_max v_294)) (o10_74 e_63 c_64 e_286 c_287 e_295 c_296 e_304 (le_min v_58) (le_max v_58) (le_min v_303) (le_max v_303) (le_min v_62) (le_max v_62) (le_min v_285) (le_max v_285) (le_min v_294) (le_max v_294)) dX4_value_123 (fun v_305 e_306 => ?_)
                refine y_iald C0 h (rSC_2_3 hi0) rfl (by decide) (o10_75 e_63 c_64 e_286 c_287 e_295 c_296 e_304 e_306) (o10_76 e_63 c_64 e_286 c_287 e_295 c_296 e_304 e_306) dX4_value_124 (fun v_307 e_308 e_309 e_310 => ?_)
                refine lv_goto (tgt := 130) C0.1 C0.2.1 dX4_value_125 (by decide) ?_
                refine y_iast C0 h (rSC_2_2 hi0) rfl (by decide) (o10_67 b_45 b_46 e_281 c_282) (o10_68 b_45 b_46 e_281 c_282) (le_min v_307) (le_max v_307) dX4_value_130 (fun H locs ws_311 h u_312 => ?_)
                refine y_inc (kp := 2) (n := 1) (fun v_313 => [(6, .int v_313), (8, .int v_58), (7, .int x7_35), (0, .ref (ad i0)), (1, .int a1), (2, .int a2), (3, .int a3), (4, .int a4), (5, .int a5)]) C0 hl rfl (by decide) (by decide) (fun _ => rfl) (o10_69 b_45 b_46 e_281 c_282 (le_min x6_36) (le_max x6_36) (le_min v_280) (le_max v_280)) (o10_70 b_45 b_46 e_281 c_282 (le_min x6_36) (le_max x6_36) (le_min v_280) (le_max v_280)) dX4_value_131 (fun v_313 ls e_314 hl => ?_)
                refine lv_goto (tgt := 341) C0.1 C0.2.1 dX4_value_134 (by decide) ?_
                refine y_inc (kp := 2) (n := 1) (fun v_315 => [(7, .int v_315), (6, .int v_313), (8, .int v_58), (0, .ref (ad i0)), (1, .int a1), (2, .int a2), (3, .int a3), (4, .int a4), (5, .int a5)]) C0 hl rfl (by decide) (by decide) (fun _ => rfl) (o10_56 b_43 b_44 hn_42 e_49 e_50 c_51 (le_min x7_35) (le_max x7_35) (le_min v_47) (le_max v_47)) (o10_57 b_43 b_44 hn_42 e_49 e_50 c_51 (le_min x7_35) (le_max x7_35) (le_min v_47) (le_max v_47)) dX4_value_341 (fun v_315 ls e_316 hl => ?_)
                refine lv_goto (tgt := 56) C0.1 C0.2.1 dX4_value_344 (by decide) ?_
                exact ih_40 v_315 v_313 _ _ _ _ (o10_58 b_43 b_44 hn_42 e_49 e_50 c_51 e_316) (o10_59 b_43 b_44 hn_42 e_49 e_50 c_51 e_316) (o10_60 b_43 b_44 hn_42 e_49 e_50 c_51 e_316) (o10_71 b_45 b_46 e_281 c_282 e_314) (o10_72 b_45 b_46 e_281 c_282 e_314) h (Fr.tr hF_38 (Fr.up u_312.1 (rSC_2_2 hi0) (by decide))) (lv_sub hl [0, 1, 3, 4, 5, 6, 7, 8] rfl)
  exact lp_39 ((900 - v_33.toInt + 1).toNat) v_33 v_31 _ _ _ _ (o10_77 e_34) (o10_1 e_34) (o10_2 e_34) (o10_1 e_32) (o10_78 e_32) h Fr.rf (lv_sub hl [0, 1, 2, 3, 4, 5, 6, 7] rfl)
