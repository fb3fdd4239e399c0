theorem dX4_add_0 : decode cX4_add 0 = .ok (.aload_n 0, 1) := by decide +kernel
theorem dX4_add_1 : decode cX4_add 1 = .ok (.getfield 21, 3) := by decide +kernel
theorem dX4_add_4 : decode cX4_add 4 = .ok (.aload_n 0, 1) := by decide +kernel
theorem dX4_add_5 : decode cX4_add 5 = .ok (.getfield 9, 3) := by decide +kernel
theorem dX4_add_8 : decode cX4_add 8 = .ok (.arraylength, 1) := by decide +kernel
theorem dX4_add_9 : decode cX4_add 9 = .ok (.if_icmp .ge 23, 3) := by decide +kernel
theorem dX4_add_12 : decode cX4_add 12 = .ok (.aload_n 0, 1) := by decide +kernel
theorem dX4_add_13 : decode cX4_add 13 = .ok (.getfield 9, 3) := by decide +kernel
theorem dX4_add_16 : decode cX4_add 16 = .ok (.aload_n 0, 1) := by decide +kernel
theorem dX4_add_17 : decode cX4_add 17 = .ok (.getfield 21, 3) := by decide +kernel
theorem dX4_add_20 : decode cX4_add 20 = .ok (.iload_n 1, 1) := by decide +kernel
theorem dX4_add_21 : decode cX4_add 21 = .ok (.iastore, 1) := by decide +kernel
theorem dX4_add_22 : decode cX4_add 22 = .ok (.aload_n 0, 1) := by decide +kernel
theorem dX4_add_23 : decode cX4_add 23 = .ok (.dup, 1) := by decide +kernel
theorem dX4_add_24 : decode cX4_add 24 = .ok (.getfield 21, 3) := by decide +kernel
theorem dX4_add_27 : decode cX4_add 27 = .ok (.iconst 1, 1) := by decide +kernel
theorem dX4_add_28 : decode cX4_add 28 = .ok (.iadd, 1) := by decide +kernel
theorem dX4_add_29 : decode cX4_add 29 = .ok (.putfield 21, 3) := by decide +kernel
theorem dX4_add_32 : decode cX4_add 32 = .ok (.iload_n 1, 1) := by decide +kernel
theorem dX4_add_33 : decode cX4_add 33 = .ok (.sipush 1000, 3) := by decide +kernel
theorem dX4_add_36 : decode cX4_add 36 = .ok (.if_icmp .lt 26, 3) := by decide +kernel
theorem dX4_add_39 : decode cX4_add 39 = .ok (.iload_n 1, 1) := by decide +kernel
theorem dX4_add_40 : decode cX4_add 40 = .ok (.sipush 1005, 3) := by decide +kernel
theorem dX4_add_43 : decode cX4_add 43 = .ok (.if_icmp .gt 19, 3) := by decide +kernel
theorem dX4_add_46 : decode cX4_add 46 = .ok (.aload_n 0, 1) := by decide +kernel
theorem dX4_add_47 : decode cX4_add 47 = .ok (.dup, 1) := by decide +kernel
theorem dX4_add_48 : decode cX4_add 48 = .ok (.getfield 25, 3) := by decide +kernel
theorem dX4_add_51 : decode cX4_add 51 = .ok (.iconst 1, 1) := by decide +kernel
theorem dX4_add_52 : decode cX4_add 52 = .ok (.iload_n 1, 1) := by decide +kernel
theorem dX4_add_53 : decode cX4_add 53 = .ok (.sipush 1000, 3) := by decide +kernel
theorem dX4_add_56 : decode cX4_add 56 = .ok (.isub, 1) := by decide +kernel
theorem dX4_add_57 : decode cX4_add 57 = .ok (.ishl, 1) := by decide +kernel
theorem dX4_add_58 : decode cX4_add 58 = .ok (.ior, 1) := by decide +kernel
theorem dX4_add_59 : decode cX4_add 59 = .ok (.putfield 25, 3) := by decide +kernel
theorem dX4_add_62 : decode cX4_add 62 = .ok (.return_, 1) := by decide +kernel
theorem dX4_asks_0 : decode cX4_asks 0 = .ok (.aload_n 0, 1) := by decide +kernel
theorem dX4_asks_1 : decode cX4_asks 1 = .ok (.getfield 25, 3) := by decide +kernel
theorem dX4_asks_4 : decode cX4_asks 4 = .ok (.iload_n 1, 1) := by decide +kernel
theorem dX4_asks_5 : decode cX4_asks 5 = .ok (.sipush 1000, 3) := by decide +kernel
theorem dX4_asks_8 : decode cX4_asks 8 = .ok (.isub, 1) := by decide +kernel
theorem dX4_asks_9 : decode cX4_asks 9 = .ok (.ishr, 1) := by decide +kernel
theorem dX4_asks_10 : decode cX4_asks 10 = .ok (.iconst 1, 1) := by decide +kernel
theorem dX4_asks_11 : decode cX4_asks 11 = .ok (.iand, 1) := by decide +kernel
theorem dX4_asks_12 : decode cX4_asks 12 = .ok (.ifCond .eq 7, 3) := by decide +kernel
theorem dX4_asks_15 : decode cX4_asks 15 = .ok (.iconst 1, 1) := by decide +kernel
theorem dX4_asks_16 : decode cX4_asks 16 = .ok (.goto 4, 3) := by decide +kernel
theorem dX4_asks_19 : decode cX4_asks 19 = .ok (.iconst 0, 1) := by decide +kernel
theorem dX4_asks_20 : decode cX4_asks 20 = .ok (.ireturn, 1) := by decide +kernel
theorem dX4_clear_0 : decode cX4_clear 0 = .ok (.aload_n 0, 1) := by decide +kernel
theorem dX4_clear_1 : decode cX4_clear 1 = .ok (.iconst 0, 1) := by decide +kernel
theorem dX4_clear_2 : decode cX4_clear 2 = .ok (.putfield 21, 3) := by decide +kernel
theorem dX4_clear_5 : decode cX4_clear 5 = .ok (.aload_n 0, 1) := by decide +kernel
theorem dX4_clear_6 : decode cX4_clear 6 = .ok (.iconst 0, 1) := by decide +kernel
theorem dX4_clear_7 : decode cX4_clear 7 = .ok (.putfield 25, 3) := by decide +kernel
theorem dX4_clear_10 : decode cX4_clear 10 = .ok (.return_, 1) := by decide +kernel
theorem dX4_copy_0 : decode cX4_copy 0 = .ok (.aload_n 0, 1) := by decide +kernel
theorem dX4_copy_1 : decode cX4_copy 1 = .ok (.aload_n 1, 1) := by decide +kernel
theorem dX4_copy_2 : decode cX4_copy 2 = .ok (.getfield 21, 3) := by decide +kernel
theorem dX4_copy_5 : decode cX4_copy 5 = .ok (.putfield 21, 3) := by decide +kernel
theorem dX4_copy_8 : decode cX4_copy 8 = .ok (.aload_n 0, 1) := by decide +kernel
theorem dX4_copy_9 : decode cX4_copy 9 = .ok (.aload_n 1, 1) := by decide +kernel
theorem dX4_copy_10 : decode cX4_copy 10 = .ok (.getfield 25, 3) := by decide +kernel
theorem dX4_copy_13 : decode cX4_copy 13 = .ok (.putfield 25, 3) := by decide +kernel
theorem dX4_copy_16 : decode cX4_copy 16 = .ok (.aload_n 1, 1) := by decide +kernel
theorem dX4_copy_17 : decode cX4_copy 17 = .ok (.getfield 9, 3) := by decide +kernel
theorem dX4_copy_20 : decode cX4_copy 20 = .ok (.iconst 0, 1) := by decide +kernel
theorem dX4_copy_21 : decode cX4_copy 21 = .ok (.aload_n 0, 1) := by decide +kernel
theorem dX4_copy_22 : decode cX4_copy 22 = .ok (.getfield 9, 3) := by decide +kernel
theorem dX4_copy_25 : decode cX4_copy 25 = .ok (.iconst 0, 1) := by decide +kernel
theorem dX4_copy_26 : decode cX4_copy 26 = .ok (.aload_n 0, 1) := by decide +kernel
theorem dX4_copy_27 : decode cX4_copy 27 = .ok (.getfield 21, 3) := by decide +kernel
theorem dX4_copy_30 : decode cX4_copy 30 = .ok (.invokestatic 32, 3) := by decide +kernel
theorem dX4_copy_33 : decode cX4_copy 33 = .ok (.return_, 1) := by decide +kernel
theorem dX4_firstHeadLike_0 : decode cX4_firstHeadLike 0 = .ok (.aload_n 0, 1) := by decide +kernel
theorem dX4_firstHeadLike_1 : decode cX4_firstHeadLike 1 = .ok (.sipush 1005, 3) := by decide +kernel
theorem dX4_firstHeadLike_4 : decode cX4_firstHeadLike 4 = .ok (.invokevirtual 28, 3) := by decide +kernel
theorem dX4_firstHeadLike_7 : decode cX4_firstHeadLike 7 = .ok (.ifCond .eq 7, 3) := by decide +kernel
theorem dX4_firstHeadLike_10 : decode cX4_firstHeadLike 10 = .ok (.iload_n 1, 1) := by decide +kernel
theorem dX4_firstHeadLike_11 : decode cX4_firstHeadLike 11 = .ok (.goto 4, 3) := by decide +kernel
theorem dX4_firstHeadLike_14 : decode cX4_firstHeadLike 14 = .ok (.iconst 0, 1) := by decide +kernel
theorem dX4_firstHeadLike_15 : decode cX4_firstHeadLike 15 = .ok (.ireturn, 1) := by decide +kernel
theorem dX4_firstLike_0 : decode cX4_firstLike 0 = .ok (.aload_n 0, 1) := by decide +kernel
theorem dX4_firstLike_1 : decode cX4_firstLike 1 = .ok (.sipush 1003, 3) := by decide +kernel
theorem dX4_firstLike_4 : decode cX4_firstLike 4 = .ok (.invokevirtual 28, 3) := by decide +kernel
theorem dX4_firstLike_7 : decode cX4_firstLike 7 = .ok (.ifCond .eq 7, 3) := by decide +kernel
theorem dX4_firstLike_10 : decode cX4_firstLike 10 = .ok (.iload_n 1, 1) := by decide +kernel
theorem dX4_firstLike_11 : decode cX4_firstLike 11 = .ok (.goto 21, 3) := by decide +kernel
theorem dX4_firstLike_14 : decode cX4_firstLike 14 = .ok (.aload_n 0, 1) := by decide +kernel
theorem dX4_firstLike_15 : decode cX4_firstLike 15 = .ok (.sipush 1002, 3) := by decide +kernel
theorem dX4_firstLike_18 : decode cX4_firstLike 18 = .ok (.invokevirtual 28, 3) := by decide +kernel
theorem dX4_firstLike_21 : decode cX4_firstLike 21 = .ok (.ifCond .eq 10, 3) := by decide +kernel
theorem dX4_firstLike_24 : decode cX4_firstLike 24 = .ok (.iload_n 1, 1) := by decide +kernel
theorem dX4_firstLike_25 : decode cX4_firstLike 25 = .ok (.bipush 24, 2) := by decide +kernel
theorem dX4_firstLike_27 : decode cX4_firstLike 27 = .ok (.irem, 1) := by decide +kernel
theorem dX4_firstLike_28 : decode cX4_firstLike 28 = .ok (.goto 4, 3) := by decide +kernel
theorem dX4_firstLike_31 : decode cX4_firstLike 31 = .ok (.iconst 0, 1) := by decide +kernel
theorem dX4_firstLike_32 : decode cX4_firstLike 32 = .ok (.ireturn, 1) := by decide +kernel
theorem dX4_isTold_0 : decode cX4_isTold 0 = .ok (.aload_n 0, 1) := by decide +kernel
theorem dX4_isTold_1 : decode cX4_isTold 1 = .ok (.getfield 21, 3) := by decide +kernel
theorem dX4_isTold_4 : decode cX4_isTold 4 = .ok (.ifCond .le 7, 3) := by decide +kernel
theorem dX4_isTold_7 : decode cX4_isTold 7 = .ok (.iconst 1, 1) := by decide +kernel
theorem dX4_isTold_8 : decode cX4_isTold 8 = .ok (.goto 4, 3) := by decide +kernel
theorem dX4_isTold_11 : decode cX4_isTold 11 = .ok (.iconst 0, 1) := by decide +kernel
theorem dX4_isTold_12 : decode cX4_isTold 12 = .ok (.ireturn, 1) := by decide +kernel
theorem dX4_value_0 : decode cX4_value 0 = .ok (.aload_n 0, 1) := by decide +kernel
theorem dX4_value_1 : decode cX4_value 1 = .ok (.getfield 18, 3) := by decide +kernel
theorem dX4_value_4 : decode cX4_value 4 = .ok (.iconst 0, 1) := by decide +kernel
theorem dX4_value_5 : decode cX4_value 5 = .ok (.iload_n 1, 1) := by decide +kernel
theorem dX4_value_6 : decode cX4_value 6 = .ok (.iastore, 1) := by decide +kernel
theorem dX4_value_7 : decode cX4_value 7 = .ok (.aload_n 0, 1) := by decide +kernel
theorem dX4_value_8 : decode cX4_value 8 = .ok (.getfield 18, 3) := by decide +kernel
theorem dX4_value_11 : decode cX4_value 11 = .ok (.iconst 1, 1) := by decide +kernel
theorem dX4_value_12 : decode cX4_value 12 = .ok (.iload_n 2, 1) := by decide +kernel
theorem dX4_value_13 : decode cX4_value 13 = .ok (.iastore, 1) := by decide +kernel
theorem dX4_value_14 : decode cX4_value 14 = .ok (.aload_n 0, 1) := by decide +kernel
theorem dX4_value_15 : decode cX4_value 15 = .ok (.getfield 18, 3) := by decide +kernel
theorem dX4_value_18 : decode cX4_value 18 = .ok (.iconst 2, 1) := by decide +kernel
theorem dX4_value_19 : decode cX4_value 19 = .ok (.iload_n 3, 1) := by decide +kernel
theorem dX4_value_20 : decode cX4_value 20 = .ok (.bipush 24, 2) := by decide +kernel
theorem dX4_value_22 : decode cX4_value 22 = .ok (.irem, 1) := by decide +kernel
theorem dX4_value_23 : decode cX4_value 23 = .ok (.iastore, 1) := by decide +kernel
theorem dX4_value_24 : decode cX4_value 24 = .ok (.aload_n 0, 1) := by decide +kernel
theorem dX4_value_25 : decode cX4_value 25 = .ok (.getfield 18, 3) := by decide +kernel
theorem dX4_value_28 : decode cX4_value 28 = .ok (.iconst 3, 1) := by decide +kernel
theorem dX4_value_29 : decode cX4_value 29 = .ok (.iload_n 3, 1) := by decide +kernel
theorem dX4_value_30 : decode cX4_value 30 = .ok (.bipush 24, 2) := by decide +kernel
theorem dX4_value_32 : decode cX4_value 32 = .ok (.idiv, 1) := by decide +kernel
theorem dX4_value_33 : decode cX4_value 33 = .ok (.iastore, 1) := by decide +kernel
theorem dX4_value_34 : decode cX4_value 34 = .ok (.aload_n 0, 1) := by decide +kernel
theorem dX4_value_35 : decode cX4_value 35 = .ok (.getfield 18, 3) := by decide +kernel
theorem dX4_value_38 : decode cX4_value 38 = .ok (.iconst 4, 1) := by decide +kernel
theorem dX4_value_39 : decode cX4_value 39 = .ok (.iload 4, 2) := by decide +kernel
theorem dX4_value_41 : decode cX4_value 41 = .ok (.iastore, 1) := by decide +kernel
theorem dX4_value_42 : decode cX4_value 42 = .ok (.aload_n 0, 1) := by decide +kernel
theorem dX4_value_43 : decode cX4_value 43 = .ok (.getfield 18, 3) := by decide +kernel
theorem dX4_value_46 : decode cX4_value 46 = .ok (.iconst 5, 1) := by decide +kernel
theorem dX4_value_47 : decode cX4_value 47 = .ok (.iload 5, 2) := by decide +kernel
theorem dX4_value_49 : decode cX4_value 49 = .ok (.iastore, 1) := by decide +kernel
theorem dX4_value_50 : decode cX4_value 50 = .ok (.iconst 0, 1) := by decide +kernel
theorem dX4_value_51 : decode cX4_value 51 = .ok (.istore 6, 2) := by decide +kernel
theorem dX4_value_53 : decode cX4_value 53 = .ok (.iconst 0, 1) := by decide +kernel
theorem dX4_value_54 : decode cX4_value 54 = .ok (.istore 7, 2) := by decide +kernel
theorem dX4_value_56 : decode cX4_value 56 = .ok (.iload 7, 2) := by decide +kernel
theorem dX4_value_58 : decode cX4_value 58 = .ok (.aload_n 0, 1) := by decide +kernel
theorem dX4_value_59 : decode cX4_value 59 = .ok (.getfield 21, 3) := by decide +kernel
theorem dX4_value_62 : decode cX4_value 62 = .ok (.if_icmp .ge 285, 3) := by decide +kernel
theorem dX4_value_65 : decode cX4_value 65 = .ok (.aload_n 0, 1) := by decide +kernel
theorem dX4_value_66 : decode cX4_value 66 = .ok (.getfield 9, 3) := by decide +kernel
theorem dX4_value_69 : decode cX4_value 69 = .ok (.iload 7, 2) := by decide +kernel
theorem dX4_value_71 : decode cX4_value 71 = .ok (.iaload, 1) := by decide +kernel
theorem dX4_value_72 : decode cX4_value 72 = .ok (.istore 8, 2) := by decide +kernel
theorem dX4_value_74 : decode cX4_value 74 = .ok (.iload 8, 2) := by decide +kernel
theorem dX4_value_76 : decode cX4_value 76 = .ok (.sipush 2000, 3) := by decide +kernel
theorem dX4_value_79 : decode cX4_value 79 = .ok (.if_icmp .ge 58, 3) := by decide +kernel
theorem dX4_value_82 : decode cX4_value 82 = .ok (.iload 6, 2) := by decide +kernel
theorem dX4_value_84 : decode cX4_value 84 = .ok (.aload_n 0, 1) := by decide +kernel
theorem dX4_value_85 : decode cX4_value 85 = .ok (.getfield 15, 3) := by decide +kernel
theorem dX4_value_88 : decode cX4_value 88 = .ok (.arraylength, 1) := by decide +kernel
theorem dX4_value_89 : decode cX4_value 89 = .ok (.if_icmp .ge 252, 3) := by decide +kernel
theorem dX4_value_92 : decode cX4_value 92 = .ok (.aload_n 0, 1) := by decide +kernel
theorem dX4_value_93 : decode cX4_value 93 = .ok (.getfield 15, 3) := by decide +kernel
theorem dX4_value_96 : decode cX4_value 96 = .ok (.iload 6, 2) := by decide +kernel
theorem dX4_value_98 : decode cX4_value 98 = .ok (.iload 8, 2) := by decide +kernel
theorem dX4_value_100 : decode cX4_value 100 = .ok (.sipush 1000, 3) := by decide +kernel
theorem dX4_value_103 : decode cX4_value 103 = .ok (.if_icmp .lt 25, 3) := by decide +kernel
theorem dX4_value_106 : decode cX4_value 106 = .ok (.iload 8, 2) := by decide +kernel
theorem dX4_value_108 : decode cX4_value 108 = .ok (.sipush 1005, 3) := by decide +kernel
theorem dX4_value_111 : decode cX4_value 111 = .ok (.if_icmp .gt 17, 3) := by decide +kernel
theorem dX4_value_114 : decode cX4_value 114 = .ok (.aload_n 0, 1) := by decide +kernel
theorem dX4_value_115 : decode cX4_value 115 = .ok (.getfield 18, 3) := by decide +kernel
theorem dX4_value_118 : decode cX4_value 118 = .ok (.iload 8, 2) := by decide +kernel
theorem dX4_value_120 : decode cX4_value 120 = .ok (.sipush 1000, 3) := by decide +kernel
theorem dX4_value_123 : decode cX4_value 123 = .ok (.isub, 1) := by decide +kernel
theorem dX4_value_124 : decode cX4_value 124 = .ok (.iaload, 1) := by decide +kernel
theorem dX4_value_125 : decode cX4_value 125 = .ok (.goto 5, 3) := by decide +kernel
theorem dX4_value_128 : decode cX4_value 128 = .ok (.iload 8, 2) := by decide +kernel
theorem dX4_value_130 : decode cX4_value 130 = .ok (.iastore, 1) := by decide +kernel
theorem dX4_value_131 : decode cX4_value 131 = .ok (.iinc 6 1, 3) := by decide +kernel
theorem dX4_value_134 : decode cX4_value 134 = .ok (.goto 207, 3) := by decide +kernel
theorem dX4_value_137 : decode cX4_value 137 = .ok (.iload 6, 2) := by decide +kernel
theorem dX4_value_139 : decode cX4_value 139 = .ok (.iconst 2, 1) := by decide +kernel
theorem dX4_value_140 : decode cX4_value 140 = .ok (.if_icmp .ge 6, 3) := by decide +kernel
theorem dX4_value_143 : decode cX4_value 143 = .ok (.goto 198, 3) := by decide +kernel
theorem dX4_value_146 : decode cX4_value 146 = .ok (.iinc 6 (-1), 3) := by decide +kernel
theorem dX4_value_149 : decode cX4_value 149 = .ok (.aload_n 0, 1) := by decide +kernel
theorem dX4_value_150 : decode cX4_value 150 = .ok (.getfield 15, 3) := by decide +kernel
theorem dX4_value_153 : decode cX4_value 153 = .ok (.iload 6, 2) := by decide +kernel
theorem dX4_value_155 : decode cX4_value 155 = .ok (.iconst 1, 1) := by decide +kernel
theorem dX4_value_156 : decode cX4_value 156 = .ok (.isub, 1) := by decide +kernel
theorem dX4_value_157 : decode cX4_value 157 = .ok (.iaload, 1) := by decide +kernel
theorem dX4_value_158 : decode cX4_value 158 = .ok (.i2l, 1) := by decide +kernel
theorem dX4_value_159 : decode cX4_value 159 = .ok (.lstore 9, 2) := by decide +kernel
theorem dX4_value_161 : decode cX4_value 161 = .ok (.aload_n 0, 1) := by decide +kernel
theorem dX4_value_162 : decode cX4_value 162 = .ok (.getfield 15, 3) := by decide +kernel
theorem dX4_value_165 : decode cX4_value 165 = .ok (.iload 6, 2) := by decide +kernel
theorem dX4_value_167 : decode cX4_value 167 = .ok (.iaload, 1) := by decide +kernel
theorem dX4_value_168 : decode cX4_value 168 = .ok (.i2l, 1) := by decide +kernel
theorem dX4_value_169 : decode cX4_value 169 = .ok (.lstore 11, 2) := by decide +kernel
theorem dX4_value_171 : decode cX4_value 171 = .ok (.iload 8, 2) := by decide +kernel
theorem dX4_value_173 : decode cX4_value 173 = .ok (.tableswitch 137 2000 2006 #[43, 53, 63, 73, 91, 109, 127], 43) := by decide +kernel
theorem dX4_value_216 : decode cX4_value 216 = .ok (.lload 9, 2) := by decide +kernel
theorem dX4_value_218 : decode cX4_value 218 = .ok (.lload 11, 2) := by decide +kernel
theorem dX4_value_220 : decode cX4_value 220 = .ok (.ladd, 1) := by decide +kernel
theorem dX4_value_221 : decode cX4_value 221 = .ok (.lstore 13, 2) := by decide +kernel
theorem dX4_value_223 : decode cX4_value 223 = .ok (.goto 94, 3) := by decide +kernel
theorem dX4_value_226 : decode cX4_value 226 = .ok (.lload 9, 2) := by decide +kernel
theorem dX4_value_228 : decode cX4_value 228 = .ok (.lload 11, 2) := by decide +kernel
theorem dX4_value_230 : decode cX4_value 230 = .ok (.lsub, 1) := by decide +kernel
theorem dX4_value_231 : decode cX4_value 231 = .ok (.lstore 13, 2) := by decide +kernel
theorem dX4_value_233 : decode cX4_value 233 = .ok (.goto 84, 3) := by decide +kernel
theorem dX4_value_236 : decode cX4_value 236 = .ok (.lload 9, 2) := by decide +kernel
theorem dX4_value_238 : decode cX4_value 238 = .ok (.lload 11, 2) := by decide +kernel
theorem dX4_value_240 : decode cX4_value 240 = .ok (.lmul, 1) := by decide +kernel
theorem dX4_value_241 : decode cX4_value 241 = .ok (.lstore 13, 2) := by decide +kernel
theorem dX4_value_243 : decode cX4_value 243 = .ok (.goto 74, 3) := by decide +kernel
theorem dX4_value_246 : decode cX4_value 246 = .ok (.lload 9, 2) := by decide +kernel
theorem dX4_value_248 : decode cX4_value 248 = .ok (.lload 11, 2) := by decide +kernel
theorem dX4_value_250 : decode cX4_value 250 = .ok (.lcmp, 1) := by decide +kernel
theorem dX4_value_251 : decode cX4_value 251 = .ok (.ifCond .ne 7, 3) := by decide +kernel
theorem dX4_value_254 : decode cX4_value 254 = .ok (.lconst 1, 1) := by decide +kernel
theorem dX4_value_255 : decode cX4_value 255 = .ok (.goto 4, 3) := by decide +kernel
theorem dX4_value_258 : decode cX4_value 258 = .ok (.lconst 0, 1) := by decide +kernel
theorem dX4_value_259 : decode cX4_value 259 = .ok (.lstore 13, 2) := by decide +kernel
theorem dX4_value_261 : decode cX4_value 261 = .ok (.goto 56, 3) := by decide +kernel
theorem dX4_value_264 : decode cX4_value 264 = .ok (.lload 9, 2) := by decide +kernel
theorem dX4_value_266 : decode cX4_value 266 = .ok (.lload 11, 2) := by decide +kernel
theorem dX4_value_268 : decode cX4_value 268 = .ok (.lcmp, 1) := by decide +kernel
theorem dX4_value_269 : decode cX4_value 269 = .ok (.ifCond .ge 7, 3) := by decide +kernel
theorem dX4_value_272 : decode cX4_value 272 = .ok (.lconst 1, 1) := by decide +kernel
theorem dX4_value_273 : decode cX4_value 273 = .ok (.goto 4, 3) := by decide +kernel
theorem dX4_value_276 : decode cX4_value 276 = .ok (.lconst 0, 1) := by decide +kernel
theorem dX4_value_277 : decode cX4_value 277 = .ok (.lstore 13, 2) := by decide +kernel
theorem dX4_value_279 : decode cX4_value 279 = .ok (.goto 38, 3) := by decide +kernel
theorem dX4_value_282 : decode cX4_value 282 = .ok (.lload 9, 2) := by decide +kernel
theorem dX4_value_284 : decode cX4_value 284 = .ok (.lload 11, 2) := by decide +kernel
theorem dX4_value_286 : decode cX4_value 286 = .ok (.lcmp, 1) := by decide +kernel
theorem dX4_value_287 : decode cX4_value 287 = .ok (.ifCond .le 7, 3) := by decide +kernel
theorem dX4_value_290 : decode cX4_value 290 = .ok (.lconst 1, 1) := by decide +kernel
theorem dX4_value_291 : decode cX4_value 291 = .ok (.goto 4, 3) := by decide +kernel
theorem dX4_value_294 : decode cX4_value 294 = .ok (.lconst 0, 1) := by decide +kernel
theorem dX4_value_295 : decode cX4_value 295 = .ok (.lstore 13, 2) := by decide +kernel
theorem dX4_value_297 : decode cX4_value 297 = .ok (.goto 20, 3) := by decide +kernel
theorem dX4_value_300 : decode cX4_value 300 = .ok (.lload 9, 2) := by decide +kernel
theorem dX4_value_302 : decode cX4_value 302 = .ok (.lload 11, 2) := by decide +kernel
theorem dX4_value_304 : decode cX4_value 304 = .ok (.land, 1) := by decide +kernel
theorem dX4_value_305 : decode cX4_value 305 = .ok (.lstore 13, 2) := by decide +kernel
theorem dX4_value_307 : decode cX4_value 307 = .ok (.goto 10, 3) := by decide +kernel
theorem dX4_value_310 : decode cX4_value 310 = .ok (.lload 9, 2) := by decide +kernel
theorem dX4_value_312 : decode cX4_value 312 = .ok (.lload 11, 2) := by decide +kernel
theorem dX4_value_314 : decode cX4_value 314 = .ok (.lor, 1) := by decide +kernel
theorem dX4_value_315 : decode cX4_value 315 = .ok (.lstore 13, 2) := by decide +kernel
theorem dX4_value_317 : decode cX4_value 317 = .ok (.aload_n 0, 1) := by decide +kernel
theorem dX4_value_318 : decode cX4_value 318 = .ok (.getfield 15, 3) := by decide +kernel
theorem dX4_value_321 : decode cX4_value 321 = .ok (.iload 6, 2) := by decide +kernel
theorem dX4_value_323 : decode cX4_value 323 = .ok (.iconst 1, 1) := by decide +kernel
theorem dX4_value_324 : decode cX4_value 324 = .ok (.isub, 1) := by decide +kernel
theorem dX4_value_325 : decode cX4_value 325 = .ok (.ldc2_w 38, 3) := by decide +kernel
theorem dX4_value_328 : decode cX4_value 328 = .ok (.ldc2_w 40, 3) := by decide +kernel
theorem dX4_value_331 : decode cX4_value 331 = .ok (.lload 13, 2) := by decide +kernel
theorem dX4_value_333 : decode cX4_value 333 = .ok (.invokestatic 42, 3) := by decide +kernel
theorem dX4_value_336 : decode cX4_value 336 = .ok (.invokestatic 48, 3) := by decide +kernel
theorem dX4_value_339 : decode cX4_value 339 = .ok (.l2i, 1) := by decide +kernel
theorem dX4_value_340 : decode cX4_value 340 = .ok (.iastore, 1) := by decide +kernel
theorem dX4_value_341 : decode cX4_value 341 = .ok (.iinc 7 1, 3) := by decide +kernel
theorem dX4_value_344 : decode cX4_value 344 = .ok (.goto (-288), 3) := by decide +kernel
theorem dX4_value_347 : decode cX4_value 347 = .ok (.aload_n 0, 1) := by decide +kernel
theorem dX4_value_348 : decode cX4_value 348 = .ok (.getfield 15, 3) := by decide +kernel
theorem dX4_value_351 : decode cX4_value 351 = .ok (.iconst 0, 1) := by decide +kernel
theorem dX4_value_352 : decode cX4_value 352 = .ok (.iaload, 1) := by decide +kernel
theorem dX4_value_353 : decode cX4_value 353 = .ok (.ireturn, 1) := by decide +kernel
theorem o10_1 {x0 : Int} (h0 : x0 = 0) : 0 ≤ x0 := by omega
theorem o10_2 {x0 : Int} (h0 : x0 = 0) : x0 ≤ 900 := by omega
theorem o10_3 {x0 : Int} (h0 : x0 = 0) : x0 ≤ 1 := by omega
theorem o10_4 {x0 : Int} (h0 : x0 = 1) : 0 ≤ x0 := by omega
theorem o10_5 {x0 : Int} (h0 : x0 = 1) : x0 ≤ 1 := by omega
theorem o10_6 {x0 : Int} (h0 : x0 = (900 : Nat)) : x0 = 900 := by omega
theorem o10_7 {x0 x1 : Int} (h0 : 0 ≤ x0) (h1 : x0 ≤ 900) (h2 : x1 = (900 : Nat)) (h3 : x1 ≤ x0) : ¬ x0 < 900 := by omega
theorem o10_8 {x0 x1 : Int} (h0 : 0 ≤ x0) (h1 : x0 ≤ 900) (h2 : x1 = (900 : Nat)) (h3 : x0 < x1) : x0 < 900 := by omega
theorem o10_9 {x0 : Int} (h0 : x0 = 1000) : x0 = 1000 := by omega
theorem o10_10 {x0 x1 : Int} (h0 : x1 = 1000) (h1 : x0 < x1) : x0 < 1000 := by omega
theorem o10_11 {x0 x1 : Int} (h0 : x1 = 1000) (h1 : x1 ≤ x0) : ¬ x0 < 1000 := by omega
theorem o10_12 {x0 : Int} (h0 : x0 = 1005) : x0 = 1005 := by omega
theorem o10_13 {x0 x1 x2 : Int} (h0 : x1 = 1000) (h1 : x1 ≤ x0) (h2 : x2 = 1005) (h3 : x2 < x0) : 1005 < x0 := by omega
theorem o10_14 {x0 x1 x2 : Int} (h0 : x1 = 1000) (h1 : x1 ≤ x0) (h2 : x2 = 1005) (h3 : x0 ≤ x2) : ¬ 1005 < x0 := by omega
theorem o10_15 {x0 x1 x2 x3 : Int} (h0 : x2 = 1000) (h1 : x2 ≤ x0) (h2 : x3 = 1005) (h3 : x0 ≤ x3) (h4 : x1 = 1000) (h5 : -2147483648 ≤ x0) (h6 : x0 ≤ 2147483647) (h7 : -2147483648 ≤ x1) (h8 : x1 ≤ 2147483647) (h9 : -2147483648 ≤ x2) (h10 : x2 ≤ 2147483647) (h11 : -2147483648 ≤ x3) (h12 : x3 ≤ 2147483647) : -2147483648 ≤ x0 - x1 := by omega
theorem o10_16 {x0 x1 x2 x3 : Int} (h0 : x2 = 1000) (h1 : x2 ≤ x0) (h2 : x3 = 1005) (h3 : x0 ≤ x3) (h4 : x1 = 1000) (h5 : -2147483648 ≤ x0) (h6 : x0 ≤ 2147483647) (h7 : -2147483648 ≤ x1) (h8 : x1 ≤ 2147483647) (h9 : -2147483648 ≤ x2) (h10 : x2 ≤ 2147483647) (h11 : -2147483648 ≤ x3) (h12 : x3 ≤ 2147483647) : x0 - x1 ≤ 2147483647 := by omega
theorem o10_17 {x0 x1 x2 : Int} (h0 : 0 ≤ x1) (h1 : x1 ≤ 900) (h2 : x2 = (900 : Nat)) (h3 : x1 < x2) (h4 : 0 ≤ x0) (h5 : x0 ≤ 900) (h6 : x0 = x1) : 0 ≤ x0 := by omega
theorem o10_18 {x0 x1 x2 : Int} (h0 : 0 ≤ x1) (h1 : x1 ≤ 900) (h2 : x2 = (900 : Nat)) (h3 : x1 < x2) (h4 : 0 ≤ x0) (h5 : x0 ≤ 900) (h6 : x0 = x1) : x0 < (900 : Nat) := by omega
theorem o10_19 {x0 x1 x2 x3 x4 : Int} (h0 : 0 ≤ x2) (h1 : x2 ≤ 900) (h2 : x3 = (900 : Nat)) (h3 : x2 < x3) (h4 : 0 ≤ x4) (h5 : x4 ≤ 900) (h6 : x4 = x2) (h7 : 0 ≤ x0) (h8 : x0 ≤ 900) (h9 : x0 = x2) (h10 : x1 = 1) (h11 : -2147483648 ≤ x0) (h12 : x0 ≤ 2147483647) (h13 : -2147483648 ≤ x1) (h14 : x1 ≤ 2147483647) (h15 : -2147483648 ≤ x2) (h16 : x2 ≤ 2147483647) (h17 : -2147483648 ≤ x3) (h18 : x3 ≤ 2147483647) (h19 : -2147483648 ≤ x4) (h20 : x4 ≤ 2147483647) : -2147483648 ≤ x0 + x1 := by omega
theorem o10_20 {x0 x1 x2 x3 x4 : Int} (h0 : 0 ≤ x2) (h1 : x2 ≤ 900) (h2 : x3 = (900 : Nat)) (h3 : x2 < x3) (h4 : 0 ≤ x4) (h5 : x4 ≤ 900) (h6 : x4 = x2) (h7 : 0 ≤ x0) (h8 : x0 ≤ 900) (h9 : x0 = x2) (h10 : x1 = 1) (h11 : -2147483648 ≤ x0) (h12 : x0 ≤ 2147483647) (h13 : -2147483648 ≤ x1) (h14 : x1 ≤ 2147483647) (h15 : -2147483648 ≤ x2) (h16 : x2 ≤ 2147483647) (h17 : -2147483648 ≤ x3) (h18 : x3 ≤ 2147483647) (h19 : -2147483648 ≤ x4) (h20 : x4 ≤ 2147483647) : x0 + x1 ≤ 2147483647 := by omega
theorem o10_21 {x0 x1 x2 x3 x4 x5 : Int} (h0 : 0 ≤ x1) (h1 : x1 ≤ 900) (h2 : x2 = (900 : Nat)) (h3 : x1 < x2) (h4 : 0 ≤ x3) (h5 : x3 ≤ 900) (h6 : x3 = x1) (h7 : 0 ≤ x4) (h8 : x4 ≤ 900) (h9 : x4 = x1) (h10 : x5 = 1) (h11 : x0 = x4 + x5) : 0 ≤ x0 := by omega
theorem o10_22 {x0 x1 x2 x3 x4 x5 : Int} (h0 : 0 ≤ x1) (h1 : x1 ≤ 900) (h2 : x2 = (900 : Nat)) (h3 : x1 < x2) (h4 : 0 ≤ x3) (h5 : x3 ≤ 900) (h6 : x3 = x1) (h7 : 0 ≤ x4) (h8 : x4 ≤ 900) (h9 : x4 = x1) (h10 : x5 = 1) (h11 : x0 = x4 + x5) : x0 ≤ 900 := by omega
theorem o10_23 {x0 : Int} (h0 : x0 = 1) : x0 = 1 := by omega
theorem o10_24 {x0 : Int} (h0 : x0 = 0) : x0 ≤ 239 := by omega
theorem o10_25 {x0 : Int} (h0 : x0 = 24) : x0 = 24 := by omega
theorem o10_26 {x0 : Int} (h0 : 0 ≤ x0) (h1 : x0 ≤ 239) : 0 ≤ x0 := by omega
theorem o10_27 {x0 x1 : Int} (h0 : 0 ≤ x1) (h1 : x1 ≤ 239) (h2 : x0 = x1 % 24) : 0 ≤ x0 := by omega
theorem o10_28 {x0 x1 : Int} (h0 : 0 ≤ x1) (h1 : x1 ≤ 239) (h2 : x0 = x1 % 24) : x0 ≤ 239 := by omega
theorem o10_29 {x0 : Int} (h0 : 0 ≤ x0) (h1 : x0 ≤ 239) : x0 ≤ 239 := by omega
theorem o10_30 {x0 : Int} (h0 : x0 = 0) : x0 ≤ 3 := by omega
theorem o10_31 {x0 : Int} (h0 : 0 ≤ x0) (h1 : x0 ≤ 3) : 0 ≤ x0 := by omega
theorem o10_32 {x0 : Int} (h0 : 0 ≤ x0) (h1 : x0 ≤ 3) : x0 ≤ 3 := by omega
theorem o10_33 {x0 : Int} (h0 : 0 ≤ x0) (h1 : x0 ≤ 900) : 0 ≤ x0 := by omega
theorem o10_34 {x0 : Int} (h0 : 0 ≤ x0) (h1 : x0 ≤ 900) : x0 ≤ 900 := by omega
theorem o10_35 {x0 : Int} (h0 : x0 = 0) : x0 = 0 := by omega
theorem o10_36 {x0 x1 : Int} (h0 : 0 ≤ x1) (h1 : x1 ≤ 900) (h2 : 0 ≤ x0) (h3 : x0 ≤ 900) (h4 : x0 = x1) : 0 ≤ x0 := by omega
theorem o10_37 {x0 x1 : Int} (h0 : 0 ≤ x1) (h1 : x1 ≤ 900) (h2 : 0 ≤ x0) (h3 : x0 ≤ 900) (h4 : x0 = x1) : x0 ≤ (900 : Nat) := by omega
theorem o10_38 {x0 : Int} (h0 : x0 = 0) : x0 < (6 : Nat) := by omega
theorem o10_39 {x0 : Int} (h0 : x0 = 1) : x0 < (6 : Nat) := by omega
theorem o10_40 {x0 : Int} (h0 : x0 = 24) : x0 ≠ 0 := by omega
theorem o10_41 {x0 : Int} (h0 : x0 = 2) : 0 ≤ x0 := by omega
theorem o10_42 {x0 : Int} (h0 : x0 = 2) : x0 < (6 : Nat) := by omega
theorem o10_43 {x0 : Int} (h0 : x0 = 3) : 0 ≤ x0 := by omega
theorem o10_44 {x0 : Int} (h0 : x0 = 3) : x0 < (6 : Nat) := by omega
theorem o10_45 {x0 : Int} (h0 : x0 = 4) : 0 ≤ x0 := by omega
theorem o10_46 {x0 : Int} (h0 : x0 = 4) : x0 < (6 : Nat) := by omega
theorem o10_47 {x0 : Int} (h0 : x0 = 5) : 0 ≤ x0 := by omega
theorem o10_48 {x0 : Int} (h0 : x0 = 5) : x0 < (6 : Nat) := by omega
theorem o10_49 {x0 : Int} (h0 : 0 ≤ x0) (h1 : x0 ≤ 900) (h2 : 900 - x0 < 0) : False := by omega
theorem o10_50 {x0 : Int} (h0 : x0 = 0) : x0 < (64 : Nat) := by omega
theorem o10_51 {x0 x2 : Int} {x1 : Nat} (h0 : 0 ≤ x0) (h1 : x0 ≤ 900) (h2 : 900 - x0 < ((x1 + 1 : Nat) : Int)) (h3 : 0 ≤ x2) (h4 : x2 ≤ 900) (h5 : x0 < x2) : 0 ≤ x0 := by omega
theorem o10_52 {x0 x2 : Int} {x1 : Nat} (h0 : 0 ≤ x0) (h1 : x0 ≤ 900) (h2 : 900 - x0 < ((x1 + 1 : Nat) : Int)) (h3 : 0 ≤ x2) (h4 : x2 ≤ 900) (h5 : x0 < x2) : x0 < (900 : Nat) := by omega
theorem o10_53 {x0 : Int} (h0 : x0 = 2000) : x0 = 2000 := by omega
theorem o10_54 {x0 x1 : Int} (h0 : x1 = 2000) (h1 : x1 ≤ x0) : ¬ x0 < 2000 := by omega
theorem o10_55 {x0 x1 : Int} (h0 : x1 = 2000) (h1 : x0 < x1) : x0 < 2000 := by omega
theorem o10_56 {x0 : Int} (h0 : x0 = 2) : x0 = 2 := by omega
theorem o10_57 {x0 x1 : Int} (h0 : 0 ≤ x0) (h1 : x0 ≤ 64) (h2 : x1 = 2) (h3 : x1 ≤ x0) : ¬ x0 < 2 := by omega
theorem o10_58 {x0 x1 : Int} (h0 : 0 ≤ x0) (h1 : x0 ≤ 64) (h2 : x1 = 2) (h3 : x0 < x1) : x0 < 2 := by omega
theorem o10_59 {x0 x1 : Int} (h0 : 0 ≤ x0) (h1 : x0 ≤ 64) (h2 : x1 = 2) (h3 : x1 ≤ x0) (h4 : -2147483648 ≤ x0) (h5 : x0 ≤ 2147483647) (h6 : -2147483648 ≤ x1) (h7 : x1 ≤ 2147483647) : -2147483648 ≤ x0 + (-1) := by omega
theorem o10_60 {x0 x1 : Int} (h0 : 0 ≤ x0) (h1 : x0 ≤ 64) (h2 : x1 = 2) (h3 : x1 ≤ x0) (h4 : -2147483648 ≤ x0) (h5 : x0 ≤ 2147483647) (h6 : -2147483648 ≤ x1) (h7 : x1 ≤ 2147483647) : x0 + (-1) ≤ 2147483647 := by omega
theorem o10_61 {x0 x1 x2 x3 : Int} (h0 : 0 ≤ x2) (h1 : x2 ≤ 64) (h2 : x3 = 2) (h3 : x3 ≤ x2) (h4 : x0 = x2 + (-1)) (h5 : x1 = 1) (h6 : -2147483648 ≤ x0) (h7 : x0 ≤ 2147483647) (h8 : -2147483648 ≤ x1) (h9 : x1 ≤ 2147483647) (h10 : -2147483648 ≤ x2) (h11 : x2 ≤ 2147483647) (h12 : -2147483648 ≤ x3) (h13 : x3 ≤ 2147483647) : -2147483648 ≤ x0 - x1 := by omega
theorem o10_62 {x0 x1 x2 x3 : Int} (h0 : 0 ≤ x2) (h1 : x2 ≤ 64) (h2 : x3 = 2) (h3 : x3 ≤ x2) (h4 : x0 = x2 + (-1)) (h5 : x1 = 1) (h6 : -2147483648 ≤ x0) (h7 : x0 ≤ 2147483647) (h8 : -2147483648 ≤ x1) (h9 : x1 ≤ 2147483647) (h10 : -2147483648 ≤ x2) (h11 : x2 ≤ 2147483647) (h12 : -2147483648 ≤ x3) (h13 : x3 ≤ 2147483647) : x0 - x1 ≤ 2147483647 := by omega
theorem o10_63 {x0 x1 x2 x3 x4 : Int} (h0 : 0 ≤ x1) (h1 : x1 ≤ 64) (h2 : x2 = 2) (h3 : x2 ≤ x1) (h4 : x3 = x1 + (-1)) (h5 : x4 = 1) (h6 : x0 = x3 - x4) : 0 ≤ x0 := by omega
theorem o10_64 {x0 x1 x2 x3 x4 : Int} (h0 : 0 ≤ x1) (h1 : x1 ≤ 64) (h2 : x2 = 2) (h3 : x2 ≤ x1) (h4 : x3 = x1 + (-1)) (h5 : x4 = 1) (h6 : x0 = x3 - x4) : x0 < (64 : Nat) := by omega
theorem o10_65 {x0 x1 x2 x3 x4 : Int} (h0 : 0 ≤ x1) (h1 : x1 ≤ 64) (h2 : x2 = 2) (h3 : x2 ≤ x1) (h4 : x0 = x1 + (-1)) (h5 : x3 = 1) (h6 : x4 = x0 - x3) : 0 ≤ x0 := by omega
theorem o10_66 {x0 x1 x2 x3 x4 : Int} (h0 : 0 ≤ x1) (h1 : x1 ≤ 64) (h2 : x2 = 2) (h3 : x2 ≤ x1) (h4 : x0 = x1 + (-1)) (h5 : x3 = 1) (h6 : x4 = x0 - x3) : x0 < (64 : Nat) := by omega
theorem o10_67 {x0 x1 x2 x3 x4 x5 : Int} (h0 : 0 ≤ x2) (h1 : x2 ≤ 64) (h2 : x3 = 2) (h3 : x3 ≤ x2) (h4 : x0 = x2 + (-1)) (h5 : x4 = 1) (h6 : x5 = x0 - x4) (h7 : x1 = 1) (h8 : -2147483648 ≤ x0) (h9 : x0 ≤ 2147483647) (h10 : -2147483648 ≤ x1) (h11 : x1 ≤ 2147483647) (h12 : -2147483648 ≤ x2) (h13 : x2 ≤ 2147483647) (h14 : -2147483648 ≤ x3) (h15 : x3 ≤ 2147483647) (h16 : -2147483648 ≤ x4) (h17 : x4 ≤ 2147483647) (h18 : -2147483648 ≤ x5) (h19 : x5 ≤ 2147483647) : -2147483648 ≤ x0 - x1 := by omega
theorem o10_68 {x0 x1 x2 x3 x4 x5 : Int} (h0 : 0 ≤ x2) (h1 : x2 ≤ 64) (h2 : x3 = 2) (h3 : x3 ≤ x2) (h4 : x0 = x2 + (-1)) (h5 : x4 = 1) (h6 : x5 = x0 - x4) (h7 : x1 = 1) (h8 : -2147483648 ≤ x0) (h9 : x0 ≤ 2147483647) (h10 : -2147483648 ≤ x1) (h11 : x1 ≤ 2147483647) (h12 : -2147483648 ≤ x2) (h13 : x2 ≤ 2147483647) (h14 : -2147483648 ≤ x3) (h15 : x3 ≤ 2147483647) (h16 : -2147483648 ≤ x4) (h17 : x4 ≤ 2147483647) (h18 : -2147483648 ≤ x5) (h19 : x5 ≤ 2147483647) : x0 - x1 ≤ 2147483647 := by omega
theorem o10_69 {x0 x1 x2 x3 x4 x5 x6 : Int} (h0 : 0 ≤ x1) (h1 : x1 ≤ 64) (h2 : x2 = 2) (h3 : x2 ≤ x1) (h4 : x3 = x1 + (-1)) (h5 : x4 = 1) (h6 : x5 = x3 - x4) (h7 : x6 = 1) (h8 : x0 = x3 - x6) : 0 ≤ x0 := by omega
theorem o10_70 {x0 x1 x2 x3 x4 x5 x6 : Int} (h0 : 0 ≤ x1) (h1 : x1 ≤ 64) (h2 : x2 = 2) (h3 : x2 ≤ x1) (h4 : x3 = x1 + (-1)) (h5 : x4 = 1) (h6 : x5 = x3 - x4) (h7 : x6 = 1) (h8 : x0 = x3 - x6) : x0 < (64 : Nat) := by omega
theorem o10_71 {x0 x2 : Int} {x1 : Nat} (h0 : 0 ≤ x0) (h1 : x0 ≤ 900) (h2 : 900 - x0 < ((x1 + 1 : Nat) : Int)) (h3 : 0 ≤ x2) (h4 : x2 ≤ 900) (h5 : x0 < x2) (h6 : -2147483648 ≤ x0) (h7 : x0 ≤ 2147483647) (h8 : -2147483648 ≤ x2) (h9 : x2 ≤ 2147483647) : -2147483648 ≤ x0 + 1 := by omega
theorem o10_72 {x0 x2 : Int} {x1 : Nat} (h0 : 0 ≤ x0) (h1 : x0 ≤ 900) (h2 : 900 - x0 < ((x1 + 1 : Nat) : Int)) (h3 : 0 ≤ x2) (h4 : x2 ≤ 900) (h5 : x0 < x2) (h6 : -2147483648 ≤ x0) (h7 : x0 ≤ 2147483647) (h8 : -2147483648 ≤ x2) (h9 : x2 ≤ 2147483647) : x0 + 1 ≤ 2147483647 := by omega
theorem o10_73 {x0 x2 x3 : Int} {x1 : Nat} (h0 : 0 ≤ x2) (h1 : x2 ≤ 900) (h2 : 900 - x2 < ((x1 + 1 : Nat) : Int)) (h3 : 0 ≤ x3) (h4 : x3 ≤ 900) (h5 : x2 < x3) (h6 : x0 = x2 + 1) : 900 - x0 < (x1 : Int) := by omega
theorem o10_74 {x0 x1 x3 : Int} {x2 : Nat} (h0 : 0 ≤ x1) (h1 : x1 ≤ 900) (h2 : 900 - x1 < ((x2 + 1 : Nat) : Int)) (h3 : 0 ≤ x3) (h4 : x3 ≤ 900) (h5 : x1 < x3) (h6 : x0 = x1 + 1) : 0 ≤ x0 := by omega
theorem o10_75 {x0 x1 x3 : Int} {x2 : Nat} (h0 : 0 ≤ x1) (h1 : x1 ≤ 900) (h2 : 900 - x1 < ((x2 + 1 : Nat) : Int)) (h3 : 0 ≤ x3) (h4 : x3 ≤ 900) (h5 : x1 < x3) (h6 : x0 = x1 + 1) : x0 ≤ 900 := by omega
theorem o10_76 {x0 x1 x2 x3 x4 x5 x6 : Int} (h0 : 0 ≤ x1) (h1 : x1 ≤ 64) (h2 : x2 = 2) (h3 : x2 ≤ x1) (h4 : x0 = x1 + (-1)) (h5 : x3 = 1) (h6 : x4 = x0 - x3) (h7 : x5 = 1) (h8 : x6 = x0 - x5) : 0 ≤ x0 := by omega
theorem o10_77 {x0 x1 x2 x3 x4 x5 x6 : Int} (h0 : 0 ≤ x1) (h1 : x1 ≤ 64) (h2 : x2 = 2) (h3 : x2 ≤ x1) (h4 : x0 = x1 + (-1)) (h5 : x3 = 1) (h6 : x4 = x0 - x3) (h7 : x5 = 1) (h8 : x6 = x0 - x5) : x0 ≤ 64 := by omega
theorem o10_78 {x0 x1 : Int} (h0 : 0 ≤ x0) (h1 : x0 ≤ 64) (h2 : x1 = 2) (h3 : x0 < x1) : 0 ≤ x0 := by omega
theorem o10_79 {x0 x1 : Int} (h0 : 0 ≤ x0) (h1 : x0 ≤ 64) (h2 : x1 = 2) (h3 : x0 < x1) : x0 ≤ 64 := by omega
theorem o10_80 {x0 : Int} (h0 : x0 = (64 : Nat)) : x0 = 64 := by omega
theorem o10_81 {x0 x1 : Int} (h0 : 0 ≤ x0) (h1 : x0 ≤ 64) (h2 : x1 = (64 : Nat)) (h3 : x1 ≤ x0) : ¬ x0 < 64 := by omega
theorem o10_82 {x0 x1 : Int} (h0 : 0 ≤ x0) (h1 : x0 ≤ 64) (h2 : x1 = (64 : Nat)) (h3 : x0 < x1) : x0 < 64 := by omega
theorem o10_83 {x0 x1 : Int} (h0 : 0 ≤ x0) (h1 : x0 ≤ 64) (h2 : x1 = (64 : Nat)) (h3 : x1 ≤ x0) : 0 ≤ x0 := by omega
theorem o10_84 {x0 x1 : Int} (h0 : 0 ≤ x0) (h1 : x0 ≤ 64) (h2 : x1 = (64 : Nat)) (h3 : x1 ≤ x0) : x0 ≤ 64 := by omega
theorem o10_85 {x0 x1 : Int} (h0 : 0 ≤ x0) (h1 : x0 ≤ 64) (h2 : x1 = (64 : Nat)) (h3 : x1 ≤ x0) : x0 = 64 := by omega
theorem o10_86 {x0 x1 x2 : Int} (h0 : x1 = 2000) (h1 : x0 < x1) (h2 : x2 = 1000) (h3 : x0 < x2) : x0 < 1000 := by omega
theorem o10_87 {x0 x1 x2 : Int} (h0 : x1 = 2000) (h1 : x0 < x1) (h2 : x2 = 1000) (h3 : x2 ≤ x0) : ¬ x0 < 1000 := by omega
theorem o10_88 {x0 x1 : Int} (h0 : 0 ≤ x0) (h1 : x0 ≤ 64) (h2 : x1 = (64 : Nat)) (h3 : x0 < x1) : 0 ≤ x0 := by omega
theorem o10_89 {x0 x1 : Int} (h0 : 0 ≤ x0) (h1 : x0 ≤ 64) (h2 : x1 = (64 : Nat)) (h3 : x0 < x1) : x0 < (64 : Nat) := by omega
theorem o10_90 {x0 x1 : Int} (h0 : 0 ≤ x0) (h1 : x0 ≤ 64) (h2 : x1 = (64 : Nat)) (h3 : x0 < x1) (h4 : -2147483648 ≤ x0) (h5 : x0 ≤ 2147483647) (h6 : -2147483648 ≤ x1) (h7 : x1 ≤ 2147483647) : -2147483648 ≤ x0 + 1 := by omega
theorem o10_91 {x0 x1 : Int} (h0 : 0 ≤ x0) (h1 : x0 ≤ 64) (h2 : x1 = (64 : Nat)) (h3 : x0 < x1) (h4 : -2147483648 ≤ x0) (h5 : x0 ≤ 2147483647) (h6 : -2147483648 ≤ x1) (h7 : x1 ≤ 2147483647) : x0 + 1 ≤ 2147483647 := by omega
theorem o10_92 {x0 x1 x2 : Int} (h0 : 0 ≤ x1) (h1 : x1 ≤ 64) (h2 : x2 = (64 : Nat)) (h3 : x1 < x2) (h4 : x0 = x1 + 1) : 0 ≤ x0 := by omega
theorem o10_93 {x0 x1 x2 : Int} (h0 : 0 ≤ x1) (h1 : x1 ≤ 64) (h2 : x2 = (64 : Nat)) (h3 : x1 < x2) (h4 : x0 = x1 + 1) : x0 ≤ 64 := by omega
theorem o10_94 {x0 x1 x2 x3 : Int} (h0 : x1 = 2000) (h1 : x0 < x1) (h2 : x2 = 1000) (h3 : x2 ≤ x0) (h4 : x3 = 1005) (h5 : x3 < x0) : 1005 < x0 := by omega
theorem o10_95 {x0 x1 x2 x3 : Int} (h0 : x1 = 2000) (h1 : x0 < x1) (h2 : x2 = 1000) (h3 : x2 ≤ x0) (h4 : x3 = 1005) (h5 : x0 ≤ x3) : ¬ 1005 < x0 := by omega
theorem o10_96 {x0 x1 x2 x3 x4 : Int} (h0 : x2 = 2000) (h1 : x0 < x2) (h2 : x3 = 1000) (h3 : x3 ≤ x0) (h4 : x4 = 1005) (h5 : x0 ≤ x4) (h6 : x1 = 1000) (h7 : -2147483648 ≤ x0) (h8 : x0 ≤ 2147483647) (h9 : -2147483648 ≤ x1) (h10 : x1 ≤ 2147483647) (h11 : -2147483648 ≤ x2) (h12 : x2 ≤ 2147483647) (h13 : -2147483648 ≤ x3) (h14 : x3 ≤ 2147483647) (h15 : -2147483648 ≤ x4) (h16 : x4 ≤ 2147483647) : -2147483648 ≤ x0 - x1 := by omega
theorem o10_97 {x0 x1 x2 x3 x4 : Int} (h0 : x2 = 2000) (h1 : x0 < x2) (h2 : x3 = 1000) (h3 : x3 ≤ x0) (h4 : x4 = 1005) (h5 : x0 ≤ x4) (h6 : x1 = 1000) (h7 : -2147483648 ≤ x0) (h8 : x0 ≤ 2147483647) (h9 : -2147483648 ≤ x1) (h10 : x1 ≤ 2147483647) (h11 : -2147483648 ≤ x2) (h12 : x2 ≤ 2147483647) (h13 : -2147483648 ≤ x3) (h14 : x3 ≤ 2147483647) (h15 : -2147483648 ≤ x4) (h16 : x4 ≤ 2147483647) : x0 - x1 ≤ 2147483647 := by omega
theorem o10_98 {x0 x1 x2 x3 x4 x5 : Int} (h0 : x1 = 2000) (h1 : x2 < x1) (h2 : x3 = 1000) (h3 : x3 ≤ x2) (h4 : x4 = 1005) (h5 : x2 ≤ x4) (h6 : x5 = 1000) (h7 : x0 = x2 - x5) : 0 ≤ x0 := by omega
theorem o10_99 {x0 x1 x2 x3 x4 x5 : Int} (h0 : x1 = 2000) (h1 : x2 < x1) (h2 : x3 = 1000) (h3 : x3 ≤ x2) (h4 : x4 = 1005) (h5 : x2 ≤ x4) (h6 : x5 = 1000) (h7 : x0 = x2 - x5) : x0 < (6 : Nat) := by omega
theorem o10_100 {x0 : Int} (h0 : x0 = 0) : 900 - x0 < (((900 - x0 + 1).toNat : Nat) : Int) := by omega
theorem o10_101 {x0 : Int} (h0 : x0 = 0) : x0 ≤ 64 := by omega
noncomputable def g2w_X4_clear (s : XS) : XR := (s, 0)
noncomputable def g1w_X4_clear (s : XS) (i0 : Nat) : XR := g2w_X4_clear (xup s 0 i0 4 0)
noncomputable def f_X4_clear (s : XS) (i0 : Nat) : XR := g1w_X4_clear (xup s 0 i0 3 0) i0
set_option maxHeartbeats 4000000 in
set_option maxRecDepth 100000 in
theorem c_X4_clear (l : Launch) (G : GG) (Z : RZ) (ad : Nat → Nat) (ws0 : va_W) (hT : Ty G SC ad ws0) (i0 : Nat) (hi0 : Kd SC i0 2) : Mq l yX4_clear cX4_clear 1 none 1 G Z [.ref (ad i0)] ws0 (PV G SC ad [2] ws0 (fun u => (xso SC ad u = (f_X4_clear (xso SC ad ws0) i0).1))) := by
  refine Mq.start (by decide) (Nat.le_of_ble_eq_true rfl) ?_
  intro p e s m below meth c A ls C0 hZ h hl
  have hl : lv_has ls 1 [(0, .ref (ad i0))] := hl
  have h : Wt G SC ad A s s.heap [] ws0 := ⟨h, hT⟩
  obtain ⟨args, hargs⟩ : ∃ z, z = ([.ref (ad i0)] : List Value).toArray := ⟨_, rfl⟩
  rw [← hargs] at C0 ⊢
  have C0 : Cx p s m args meth c RX4 cX4_clear 1 none := C0
  obtain ⟨Q, hQ⟩ : ∃ z, z = MQ below ((PV G SC ad [2] ws0 (fun u => (xso SC ad u = (f_X4_clear (xso SC ad ws0) i0).1))) A) args s 0 0 A := ⟨_, rfl⟩
  rw [← hQ]
  obtain ⟨FT, hFT⟩ : ∃ z, z = f_X4_clear (xso SC ad ws0) i0 := ⟨_, rfl⟩
  have HE : FT = f_X4_clear (xso SC ad ws0) i0 := hFT
  refine lv_aload_n C0.1 C0.2.1 dX4_clear_0 rfl (lv_at hl 0 rfl) ?_
  refine y_c1 (n := 0) C0 (by decide) dX4_clear_1 (fun v_1 e_2 => ?_)
  refine tp_X4_size C0 h hi0 q_170 (o10_1 e_2) (o10_2 e_2) dX4_clear_2 (fun H locs ws_3 h u_4 Xu_4 => ?_)
  replace HE : FT = g1w_X4_clear (xso SC ad ws_3) i0 := HE.trans (by rw [Xu_4, e_2]; rfl)
  refine lv_aload_n C0.1 C0.2.1 dX4_clear_5 rfl (lv_at hl 0 rfl) ?_
  refine y_c1 (n := 0) C0 (by decide) dX4_clear_6 (fun v_5 e_6 => ?_)
  refine tp_X4_named C0 h hi0 q_171 (le_min v_5) (le_max v_5) dX4_clear_7 (fun H locs ws_7 h u_8 Xu_8 => ?_)
  replace HE : FT = g2w_X4_clear (xso SC ad ws_7) := HE.trans (by rw [Xu_8, e_6]; rfl)
  replace HE : FT = ((xso SC ad ws_7), 0) := HE.trans rfl
  rw [hQ]
  exact y_vret C0 h (Fr.tr (Fr.up u_4.1 hi0 (by decide)) (Fr.up u_8.1 hi0 (by decide))) (congrArg Prod.fst (HE.symm.trans hFT)) dX4_clear_10
noncomputable def g2_X4_isTold (s : XS) : XR := (s, 0)
noncomputable def g3_X4_isTold (s : XS) : XR := (s, 1)
noncomputable def g1b_X4_isTold (s : XS) (v_1 : Int) : XR := if 0 < v_1 then g3_X4_isTold s else g2_X4_isTold s
noncomputable def f_X4_isTold (s : XS) (i0 : Nat) : XR := g1b_X4_isTold s ((s 0 i0 3))
set_option maxHeartbeats 4000000 in
set_option maxRecDepth 100000 in
theorem c_X4_isTold (l : Launch) (G : GG) (Z : RZ) (ad : Nat → Nat) (ws0 : va_W) (hT : Ty G SC ad ws0) (i0 : Nat) (hi0 : Kd SC i0 2) : Mq l yX4_isTold cX4_isTold 1 (some .boolean) 1 G Z [.ref (ad i0)] ws0 (PI G SC ad [] ws0 (fun r u => (xso SC ad u = (f_X4_isTold (xso SC ad ws0) i0).1) ∧ (r.toInt = (f_X4_isTold (xso SC ad ws0) i0).2) ∧ (0 ≤ r.toInt) ∧ (r.toInt ≤ 1))) := by
  refine Mq.start (by decide) (Nat.le_of_ble_eq_true rfl) ?_
  intro p e s m below meth c A ls C0 hZ h hl
  have hl : lv_has ls 1 [(0, .ref (ad i0))] := hl
  have h : Wt G SC ad A s s.heap [] ws0 := ⟨h, hT⟩
  obtain ⟨args, hargs⟩ : ∃ z, z = ([.ref (ad i0)] : List Value).toArray := ⟨_, rfl⟩
  rw [← hargs] at C0 ⊢
  have C0 : Cx p s m args meth c RX4 cX4_isTold 1 (some .boolean) := C0
  obtain ⟨Q, hQ⟩ : ∃ z, z = MQ below ((PI G SC ad [] ws0 (fun r u => (xso SC ad u = (f_X4_isTold (xso SC ad ws0) i0).1) ∧ (r.toInt = (f_X4_isTold (xso SC ad ws0) i0).2) ∧ (0 ≤ r.toInt) ∧ (r.toInt ≤ 1))) A) args s 0 0 A := ⟨_, rfl⟩
  rw [← hQ]
  obtain ⟨FT, hFT⟩ : ∃ z, z = f_X4_isTold (xso SC ad ws0) i0 := ⟨_, rfl⟩
  have HE : FT = f_X4_isTold (xso SC ad ws0) i0 := hFT
  refine lv_aload_n C0.1 C0.2.1 dX4_isTold_0 rfl (lv_at hl 0 rfl) ?_
  refine tg_X4_size C0 h hi0 q_170 dX4_isTold_1 (fun v_1 e_2 e_3 e_4 => ?_)
  replace HE : FT = g1b_X4_isTold (xso SC ad ws0) v_1.toInt := HE.trans (by rw [(xg0 e_2 : v_1.toInt = (xso SC ad ws0) 0 i0 3)]; rfl)
  refine y_if_le (tgt := 11) C0 dX4_isTold_4 (by decide) (fun c_5 => ?_) (fun c_5 => ?_)
  · -- 4
    replace HE : FT = g2_X4_isTold (xso SC ad ws0) := HE.trans (if_neg (Int.not_lt.mpr c_5))
    refine y_c1 (n := 0) C0 (by decide) dX4_isTold_11 (fun v_6 e_7 => ?_)
    replace HE : FT = ((xso SC ad ws0), v_6.toInt) := HE.trans (by rw [e_7]; rfl)
    rw [hQ]
    exact y_zret C0 h (o10_1 e_7) (o10_3 e_7) Fr.rf ⟨(congrArg Prod.fst (HE.symm.trans hFT)), (congrArg Prod.snd (HE.symm.trans hFT)), (o10_1 e_7), (o10_3 e_7)⟩ dX4_isTold_12
  · -- 4
    replace HE : FT = g3_X4_isTold (xso SC ad ws0) := HE.trans (if_pos c_5)
    refine y_c1 (n := 1) C0 (by decide) dX4_isTold_7 (fun v_8 e_9 => ?_)
    refine lv_goto (tgt := 12) C0.1 C0.2.1 dX4_isTold_8 (by decide) ?_
    replace HE : FT = ((xso SC ad ws0), v_8.toInt) := HE.trans (by rw [e_9]; rfl)
    rw [hQ]
    exact y_zret C0 h (o10_4 e_9) (o10_5 e_9) Fr.rf ⟨(congrArg Prod.fst (HE.symm.trans hFT)), (congrArg Prod.snd (HE.symm.trans hFT)), (o10_4 e_9), (o10_5 e_9)⟩ dX4_isTold_12
noncomputable def g5_X4_add (s : XS) : XR := (s, 0)
noncomputable def g8_X4_add (s : XS) : XR := (s, 0)
noncomputable def g10w_X4_add (s : XS) : XR := (s, 0)
noncomputable def g9_X4_add (s : XS) (i0 : Nat) (a1 : Int) : XR := g10w_X4_add (xup s 0 i0 4 (Xior (s 0 i0 4) (Xishl 1 (a1 - 1000))))
noncomputable def g7b_X4_add (s : XS) (a1 : Int) (i0 : Nat) : XR := if 1005 < a1 then g8_X4_add s else g9_X4_add s i0 a1
noncomputable def g6_X4_add (s : XS) (i0 : Nat) (a1 : Int) : XR := g7b_X4_add s a1 i0
noncomputable def g4b_X4_add (s : XS) (a1 : Int) (i0 : Nat) : XR := if a1 < 1000 then g5_X4_add s else g6_X4_add s i0 a1
noncomputable def g2_X4_add (s : XS) (i0 : Nat) (a1 : Int) : XR := g4b_X4_add s a1 i0
noncomputable def g14_X4_add (s : XS) : XR := (s, 0)
noncomputable def g17_X4_add (s : XS) : XR := (s, 0)
noncomputable def g19w_X4_add (s : XS) : XR := (s, 0)
noncomputable def g18_X4_add (s : XS) (i0 : Nat) (a1 : Int) : XR := g19w_X4_add (xup s 0 i0 4 (Xior (s 0 i0 4) (Xishl 1 (a1 - 1000))))
noncomputable def g16b_X4_add (s : XS) (a1 : Int) (i0 : Nat) : XR := if 1005 < a1 then g17_X4_add s else g18_X4_add s i0 a1
noncomputable def g15_X4_add (s : XS) (i0 : Nat) (a1 : Int) : XR := g16b_X4_add s a1 i0
noncomputable def g13b_X4_add (s : XS) (a1 : Int) (i0 : Nat) : XR := if a1 < 1000 then g14_X4_add s else g15_X4_add s i0 a1
noncomputable def g12w_X4_add (s : XS) (i0 : Nat) (a1 : Int) : XR := g13b_X4_add s a1 i0
noncomputable def g11w_X4_add (s : XS) (i0 : Nat) (a1 : Int) : XR := g12w_X4_add (xup s 0 i0 3 ((s 0 i0 3) + 1)) i0 a1
noncomputable def g3_X4_add (s : XS) (i0 : Nat) (a1 : Int) : XR := g11w_X4_add (xup s 1 (i0 + 1) (Int.toNat (s 0 i0 3)) (a1)) i0 a1
noncomputable def g1b_X4_add (s : XS) (v_1 : Int) (i0 : Nat) (a1 : Int) : XR := if v_1 < 900 then g3_X4_add s i0 a1 else g2_X4_add s i0 a1
noncomputable def f_X4_add (s : XS) (i0 : Nat) (a1 : Int) : XR := g1b_X4_add s ((s 0 i0 3)) i0 a1
set_option maxHeartbeats 4000000 in
set_option maxRecDepth 100000 in
theorem c_X4_add (l : Launch) (G : GG) (Z : RZ) (ad : Nat → Nat) (ws0 : va_W) (hT : Ty G SC ad ws0) (i0 : Nat) (hi0 : Kd SC i0 2) (a1 : Int32) : Mq l yX4_add cX4_add 2 none 1 G Z [.ref (ad i0), .int a1] ws0 (PV G SC ad [2, 3] ws0 (fun u => (xso SC ad u = (f_X4_add (xso SC ad ws0) i0 a1.toInt).1))) := by
  refine Mq.start (by decide) (Nat.le_of_ble_eq_true rfl) ?_
  intro p e s m below meth c A ls C0 hZ h hl
  have hl : lv_has ls 2 [(0, .ref (ad i0)), (1, .int a1)] := hl
  have h : Wt G SC ad A s s.heap [] ws0 := ⟨h, hT⟩
  obtain ⟨args, hargs⟩ : ∃ z, z = ([.ref (ad i0), .int a1] : List Value).toArray := ⟨_, rfl⟩
  rw [← hargs] at C0 ⊢
  have C0 : Cx p s m args meth c RX4 cX4_add 2 none := C0
  obtain ⟨Q, hQ⟩ : ∃ z, z = MQ below ((PV G SC ad [2, 3] ws0 (fun u => (xso SC ad u = (f_X4_add (xso SC ad ws0) i0 a1.toInt).1))) A) args s 0 0 A := ⟨_, rfl⟩
  rw [← hQ]
  obtain ⟨FT, hFT⟩ : ∃ z, z = f_X4_add (xso SC ad ws0) i0 a1.toInt := ⟨_, rfl⟩
  have HE : FT = f_X4_add (xso SC ad ws0) i0 a1.toInt := hFT
  refine lv_aload_n C0.1 C0.2.1 dX4_add_0 rfl (lv_at hl 0 rfl) ?_
  refine tg_X4_size C0 h hi0 q_170 dX4_add_1 (fun v_1 e_2 e_3 e_4 => ?_)
  refine lv_aload_n C0.1 C0.2.1 dX4_add_4 rfl (lv_at hl 0 rfl) ?_
  refine tg_X4_code C0 h hi0 q_167 dX4_add_5 ?_
  refine y_alenI (cA := G.2 0) C0 h (rSC_2_1 hi0) rfl rfl (by decide) dX4_add_8 (fun v_5 e_6 => ?_)
  replace HE : FT = g1b_X4_add (xso SC ad ws0) v_1.toInt i0 a1.toInt := HE.trans (by rw [(xg0 e_2 : v_1.toInt = (xso SC ad ws0) 0 i0 3)]; rfl)
  refine y_icmp_ge (tgt := 32) C0 dX4_add_9 (by decide) (fun c_7 => ?_) (fun c_7 => ?_)
  · -- 9
    replace HE : FT = g2_X4_add (xso SC ad ws0) i0 a1.toInt := HE.trans (if_neg (o10_7 e_3 e_4 e_6 c_7))
    refine lv_iload_n C0.1 C0.2.1 dX4_add_32 rfl (lv_at hl 1 rfl) ?_
    refine y_c3 (n := 1000) C0 (by decide) dX4_add_33 (fun v_8 e_9 => ?_)
    replace HE : FT = g4b_X4_add (xso SC ad ws0) a1.toInt i0 := HE.trans rfl
    refine y_icmp_lt (tgt := 62) C0 dX4_add_36 (by decide) (fun c_10 => ?_) (fun c_10 => ?_)
    · -- 36
      replace HE : FT = g5_X4_add (xso SC ad ws0) := HE.trans (if_pos (o10_10 e_9 c_10))
      replace HE : FT = ((xso SC ad ws0), 0) := HE.trans rfl
      rw [hQ]
      exact y_vret C0 h Fr.rf (congrArg Prod.fst (HE.symm.trans hFT)) dX4_add_62
    · -- 36
      replace HE : FT = g6_X4_add (xso SC ad ws0) i0 a1.toInt := HE.trans (if_neg (o10_11 e_9 c_10))
      refine lv_iload_n C0.1 C0.2.1 dX4_add_39 rfl (lv_at hl 1 rfl) ?_
      refine y_c3 (n := 1005) C0 (by decide) dX4_add_40 (fun v_11 e_12 => ?_)
      replace HE : FT = g7b_X4_add (xso SC ad ws0) a1.toInt i0 := HE.trans rfl
      refine y_icmp_gt (tgt := 62) C0 dX4_add_43 (by decide) (fun c_13 => ?_) (fun c_13 => ?_)
      · -- 43
        replace HE : FT = g8_X4_add (xso SC ad ws0) := HE.trans (if_pos (o10_13 e_9 c_10 e_12 c_13))
        replace HE : FT = ((xso SC ad ws0), 0) := HE.trans rfl
        rw [hQ]
        exact y_vret C0 h Fr.rf (congrArg Prod.fst (HE.symm.trans hFT)) dX4_add_62
      · -- 43
        replace HE : FT = g9_X4_add (xso SC ad ws0) i0 a1.toInt := HE.trans (if_neg (o10_14 e_9 c_10 e_12 c_13))
        refine lv_aload_n C0.1 C0.2.1 dX4_add_46 rfl (lv_at hl 0 rfl) ?_
        refine lv_dup C0.1 C0.2.1 dX4_add_47 rfl ?_
        refine tg_X4_named C0 h hi0 q_171 dX4_add_48 (fun v_14 e_15 e_16 e_17 => ?_)
        refine y_c1 (n := 1) C0 (by decide) dX4_add_51 (fun v_18 e_19 => ?_)
        refine lv_iload_n C0.1 C0.2.1 dX4_add_52 rfl (lv_at hl 1 rfl) ?_
        refine y_c3 (n := 1000) C0 (by decide) dX4_add_53 (fun v_20 e_21 => ?_)
        refine y_sub C0 (o10_15 e_9 c_10 e_12 c_13 e_21 (le_min a1) (le_max a1) (le_min v_20) (le_max v_20) (le_min v_8) (le_max v_8) (le_min v_11) (le_max v_11)) (o10_16 e_9 c_10 e_12 c_13 e_21 (le_min a1) (le_max a1) (le_min v_20) (le_max v_20) (le_min v_8) (le_max v_8) (le_min v_11) (le_max v_11)) dX4_add_56 (fun v_22 e_23 => ?_)
        refine xr_ishl C0 dX4_add_57 (fun v_24 e_25 => ?_)
        refine xr_ior C0 dX4_add_58 (fun v_26 e_27 => ?_)
        refine tp_X4_named C0 h hi0 q_171 (le_min v_26) (le_max v_26) dX4_add_59 (fun H locs ws_28 h u_29 Xu_29 => ?_)
        replace HE : FT = g10w_X4_add (xso SC ad ws_28) := HE.trans (by rw [Xu_29, e_27, e_25, e_23, e_21, e_19, (xg0 e_15 : v_14.toInt = (xso SC ad ws0) 0 i0 4)]; rfl)
        replace HE : FT = ((xso SC ad ws_28), 0) := HE.trans rfl
        rw [hQ]
        exact y_vret C0 h (Fr.up u_29.1 hi0 (by decide)) (congrArg Prod.fst (HE.symm.trans hFT)) dX4_add_62
  · -- 9
    replace HE : FT = g3_X4_add (xso SC ad ws0) i0 a1.toInt := HE.trans (if_pos (o10_8 e_3 e_4 e_6 c_7))
    refine lv_aload_n C0.1 C0.2.1 dX4_add_12 rfl (lv_at hl 0 rfl) ?_
    refine tg_X4_code C0 h hi0 q_167 dX4_add_13 ?_
    refine lv_aload_n C0.1 C0.2.1 dX4_add_16 rfl (lv_at hl 0 rfl) ?_
    refine tg_X4_size C0 h hi0 q_170 dX4_add_17 (fun v_30 e_31 e_32 e_33 => ?_)
    have qh_34 : v_30.toInt = v_1.toInt := congrArg Int32.toInt (e_31.symm.trans (Eq.trans rfl e_2))
    refine lv_iload_n C0.1 C0.2.1 dX4_add_20 rfl (lv_at hl 1 rfl) ?_
    have hO_37 := h.2
    refine y_iast C0 h (rSC_2_1 hi0) rfl (by decide) (o10_17 e_3 e_4 e_6 c_7 e_32 e_33 qh_34) (o10_18 e_3 e_4 e_6 c_7 e_32 e_33 qh_34) (le_min a1) (le_max a1) dX4_add_21 (fun H locs ws_35 h u_36 => ?_)
    replace HE : FT = g11w_X4_add (xso SC ad ws_35) i0 a1.toInt := HE.trans (by rw [(xso_A (i := i0 + 1) hO_37 h.2 (rSC_2_1 hi0) rfl u_36), (xg0 e_31 : v_30.toInt = (xso SC ad ws0) 0 i0 3)]; rfl)
    refine lv_aload_n C0.1 C0.2.1 dX4_add_22 rfl (lv_at hl 0 rfl) ?_
    refine lv_dup C0.1 C0.2.1 dX4_add_23 rfl ?_
    refine tg_X4_size C0 h hi0 q_170 dX4_add_24 (fun v_38 e_39 e_40 e_41 => ?_)
    have qh_42 : v_38.toInt = v_1.toInt := congrArg Int32.toInt (e_39.symm.trans (Eq.trans (fI_of (u_36.1 i0 (kd_ne hi0 (rSC_2_1 hi0) (by decide)))) e_2))
    refine y_c1 (n := 1) C0 (by decide) dX4_add_27 (fun v_43 e_44 => ?_)
    refine y_add C0 (o10_19 e_3 e_4 e_6 c_7 e_32 e_33 qh_34 e_40 e_41 qh_42 e_44 (le_min v_38) (le_max v_38) (le_min v_43) (le_max v_43) (le_min v_1) (le_max v_1) (le_min v_5) (le_max v_5) (le_min v_30) (le_max v_30)) (o10_20 e_3 e_4 e_6 c_7 e_32 e_33 qh_34 e_40 e_41 qh_42 e_44 (le_min v_38) (le_max v_38) (le_min v_43) (le_max v_43) (le_min v_1) (le_max v_1) (le_min v_5) (le_max v_5) (le_min v_30) (le_max v_30)) dX4_add_28 (fun v_45 e_46 => ?_)
    refine tp_X4_size C0 h hi0 q_170 (o10_21 e_3 e_4 e_6 c_7 e_32 e_33 qh_34 e_40 e_41 qh_42 e_44 e_46) (o10_22 e_3 e_4 e_6 c_7 e_32 e_33 qh_34 e_40 e_41 qh_42 e_44 e_46) dX4_add_29 (fun H locs ws_47 h u_48 Xu_48 => ?_)
    replace HE : FT = g12w_X4_add (xso SC ad ws_47) i0 a1.toInt := HE.trans (by rw [Xu_48, e_46, e_44, (xg0 e_39 : v_38.toInt = (xso SC ad ws_35) 0 i0 3)]; rfl)
    refine lv_iload_n C0.1 C0.2.1 dX4_add_32 rfl (lv_at hl 1 rfl) ?_
    refine y_c3 (n := 1000) C0 (by decide) dX4_add_33 (fun v_49 e_50 => ?_)
    replace HE : FT = g13b_X4_add (xso SC ad ws_47) a1.toInt i0 := HE.trans rfl
    refine y_icmp_lt (tgt := 62) C0 dX4_add_36 (by decide) (fun c_51 => ?_) (fun c_51 => ?_)
    · -- 36
      replace HE : FT = g14_X4_add (xso SC ad ws_47) := HE.trans (if_pos (o10_10 e_50 c_51))
      replace HE : FT = ((xso SC ad ws_47), 0) := HE.trans rfl
      rw [hQ]
      exact y_vret C0 h (Fr.tr (Fr.up u_36.1 (rSC_2_1 hi0) (by decide)) (Fr.up u_48.1 hi0 (by decide))) (congrArg Prod.fst (HE.symm.trans hFT)) dX4_add_62
    · -- 36
      replace HE : FT = g15_X4_add (xso SC ad ws_47) i0 a1.toInt := HE.trans (if_neg (o10_11 e_50 c_51))
      refine lv_iload_n C0.1 C0.2.1 dX4_add_39 rfl (lv_at hl 1 rfl) ?_
      refine y_c3 (n := 1005) C0 (by decide) dX4_add_40 (fun v_52 e_53 => ?_)
      replace HE : FT = g16b_X4_add (xso SC ad ws_47) a1.toInt i0 := HE.trans rfl
      refine y_icmp_gt (tgt := 62) C0 dX4_add_43 (by decide) (fun c_54 => ?_) (fun c_54 => ?_)
      · -- 43
        replace HE : FT = g17_X4_add (xso SC ad ws_47) := HE.trans (if_pos (o10_13 e_50 c_51 e_53 c_54))
        replace HE : FT = ((xso SC ad ws_47), 0) := HE.trans rfl
        rw [hQ]
        exact y_vret C0 h (Fr.tr (Fr.up u_36.1 (rSC_2_1 hi0) (by decide)) (Fr.up u_48.1 hi0 (by decide))) (congrArg Prod.fst (HE.symm.trans hFT)) dX4_add_62
      · -- 43
        replace HE : FT = g18_X4_add (xso SC ad ws_47) i0 a1.toInt := HE.trans (if_neg (o10_14 e_50 c_51 e_53 c_54))
        refine lv_aload_n C0.1 C0.2.1 dX4_add_46 rfl (lv_at hl 0 rfl) ?_
        refine lv_dup C0.1 C0.2.1 dX4_add_47 rfl ?_
        refine tg_X4_named C0 h hi0 q_171 dX4_add_48 (fun v_55 e_56 e_57 e_58 => ?_)
        refine y_c1 (n := 1) C0 (by decide) dX4_add_51 (fun v_59 e_60 => ?_)
        refine lv_iload_n C0.1 C0.2.1 dX4_add_52 rfl (lv_at hl 1 rfl) ?_
        refine y_c3 (n := 1000) C0 (by decide) dX4_add_53 (fun v_61 e_62 => ?_)
        refine y_sub C0 (o10_15 e_50 c_51 e_53 c_54 e_62 (le_min a1) (le_max a1) (le_min v_61) (le_max v_61) (le_min v_49) (le_max v_49) (le_min v_52) (le_max v_52)) (o10_16 e_50 c_51 e_53 c_54 e_62 (le_min a1) (le_max a1) (le_min v_61) (le_max v_61) (le_min v_49) (le_max v_49) (le_min v_52) (le_max v_52)) dX4_add_56 (fun v_63 e_64 => ?_)
        refine xr_ishl C0 dX4_add_57 (fun v_65 e_66 => ?_)
        refine xr_ior C0 dX4_add_58 (fun v_67 e_68 => ?_)
        refine tp_X4_named C0 h hi0 q_171 (le_min v_67) (le_max v_67) dX4_add_59 (fun H locs ws_69 h u_70 Xu_70 => ?_)
        replace HE : FT = g19w_X4_add (xso SC ad ws_69) := HE.trans (by rw [Xu_70, e_68, e_66, e_64, e_62, e_60, (xg0 e_56 : v_55.toInt = (xso SC ad ws_47) 0 i0 4)]; rfl)
        replace HE : FT = ((xso SC ad ws_69), 0) := HE.trans rfl
        rw [hQ]
        exact y_vret C0 h (Fr.tr (Fr.tr (Fr.up u_36.1 (rSC_2_1 hi0) (by decide)) (Fr.up u_48.1 hi0 (by decide))) (Fr.up u_70.1 hi0 (by decide))) (congrArg Prod.fst (HE.symm.trans hFT)) dX4_add_62
noncomputable def g2_X4_asks (s : XS) : XR := (s, 0)
noncomputable def g3_X4_asks (s : XS) : XR := (s, 1)
noncomputable def g1b_X4_asks (s : XS) (v_13 : Int) : XR := if v_13 = 0 then g2_X4_asks s else g3_X4_asks s
noncomputable def f_X4_asks (s : XS) (i0 : Nat) (a1 : Int) : XR := g1b_X4_asks s ((Xiand (Xishr (s 0 i0 4) (Xisub a1 1000)) 1))
set_option maxHeartbeats 4000000 in
set_option maxRecDepth 100000 in
theorem c_X4_asks (l : Launch) (G : GG) (Z : RZ) (ad : Nat → Nat) (ws0 : va_W) (hT : Ty G SC ad ws0) (i0 : Nat) (hi0 : Kd SC i0 2) (a1 : Int32) : Mq l yX4_asks cX4_asks 2 (some .boolean) 1 G Z [.ref (ad i0), .int a1] ws0 (PI G SC ad [] ws0 (fun r u => (xso SC ad u = (f_X4_asks (xso SC ad ws0) i0 a1.toInt).1) ∧ (r.toInt = (f_X4_asks (xso SC ad ws0) i0 a1.toInt).2) ∧ (0 ≤ r.toInt) ∧ (r.toInt ≤ 1))) := by
  refine Mq.start (by decide) (Nat.le_of_ble_eq_true rfl) ?_
  intro p e s m below meth c A ls C0 hZ h hl
  have hl : lv_has ls 2 [(0, .ref (ad i0)), (1, .int a1)] := hl
  have h : Wt G SC ad A s s.heap [] ws0 := ⟨h, hT⟩
  obtain ⟨args, hargs⟩ : ∃ z, z = ([.ref (ad i0), .int a1] : List Value).toArray := ⟨_, rfl⟩
  rw [← hargs] at C0 ⊢
  have C0 : Cx p s m args meth c RX4 cX4_asks 2 (some .boolean) := C0
  obtain ⟨Q, hQ⟩ : ∃ z, z = MQ below ((PI G SC ad [] ws0 (fun r u => (xso SC ad u = (f_X4_asks (xso SC ad ws0) i0 a1.toInt).1) ∧ (r.toInt = (f_X4_asks (xso SC ad ws0) i0 a1.toInt).2) ∧ (0 ≤ r.toInt) ∧ (r.toInt ≤ 1))) A) args s 0 0 A := ⟨_, rfl⟩
  rw [← hQ]
  obtain ⟨FT, hFT⟩ : ∃ z, z = f_X4_asks (xso SC ad ws0) i0 a1.toInt := ⟨_, rfl⟩
  have HE : FT = f_X4_asks (xso SC ad ws0) i0 a1.toInt := hFT
  refine lv_aload_n C0.1 C0.2.1 dX4_asks_0 rfl (lv_at hl 0 rfl) ?_
  refine tg_X4_named C0 h hi0 q_171 dX4_asks_1 (fun v_1 e_2 e_3 e_4 => ?_)
  refine lv_iload_n C0.1 C0.2.1 dX4_asks_4 rfl (lv_at hl 1 rfl) ?_
  refine y_c3 (n := 1000) C0 (by decide) dX4_asks_5 (fun v_5 e_6 => ?_)
  refine xr_isub C0 dX4_asks_8 (fun v_7 e_8 => ?_)
  refine xr_ishr C0 dX4_asks_9 (fun v_9 e_10 => ?_)
  refine y_c1 (n := 1) C0 (by decide) dX4_asks_10 (fun v_11 e_12 => ?_)
  refine xr_iand C0 dX4_asks_11 (fun v_13 e_14 => ?_)
  replace HE : FT = g1b_X4_asks (xso SC ad ws0) v_13.toInt := HE.trans (by rw [e_14, e_12, e_10, e_8, e_6, (xg0 e_2 : v_1.toInt = (xso SC ad ws0) 0 i0 4)]; rfl)
  refine y_if_eq (tgt := 19) C0 dX4_asks_12 (by decide) (fun c_15 => ?_) (fun c_15 => ?_)
  · -- 12
    replace HE : FT = g2_X4_asks (xso SC ad ws0) := HE.trans (if_pos c_15)
    refine y_c1 (n := 0) C0 (by decide) dX4_asks_19 (fun v_16 e_17 => ?_)
    replace HE : FT = ((xso SC ad ws0), v_16.toInt) := HE.trans (by rw [e_17]; rfl)
    rw [hQ]
    exact y_zret C0 h (o10_1 e_17) (o10_3 e_17) Fr.rf ⟨(congrArg Prod.fst (HE.symm.trans hFT)), (congrArg Prod.snd (HE.symm.trans hFT)), (o10_1 e_17), (o10_3 e_17)⟩ dX4_asks_20
  · -- 12
    replace HE : FT = g3_X4_asks (xso SC ad ws0) := HE.trans (if_neg c_15)
    refine y_c1 (n := 1) C0 (by decide) dX4_asks_15 (fun v_18 e_19 => ?_)
    refine lv_goto (tgt := 20) C0.1 C0.2.1 dX4_asks_16 (by decide) ?_
    replace HE : FT = ((xso SC ad ws0), v_18.toInt) := HE.trans (by rw [e_19]; rfl)
    rw [hQ]
    exact y_zret C0 h (o10_4 e_19) (o10_5 e_19) Fr.rf ⟨(congrArg Prod.fst (HE.symm.trans hFT)), (congrArg Prod.snd (HE.symm.trans hFT)), (o10_4 e_19), (o10_5 e_19)⟩ dX4_asks_20
noncomputable def g7_X4_firstLikeN (s : XS) : XR := (s, 0)
noncomputable def g8_X4_firstLikeN (s : XS) (a1 : Int) : XR := (s, (a1 % 24))
noncomputable def g6b_X4_firstLikeN (s : XS) (r_17 : Int) (a1 : Int) : XR := if r_17 = 0 then g7_X4_firstLikeN s else g8_X4_firstLikeN s a1
noncomputable def g5c_X4_firstLikeN (s : XS) (r_17 : Int) (a1 : Int) : XR := g6b_X4_firstLikeN s r_17 a1
noncomputable def g3_X4_firstLikeN (s : XS) (i0 : Nat) (a1 : Int) : XR := g5c_X4_firstLikeN ((f_X4_asks s i0 1002).1) (((f_X4_asks s i0 1002).2)) a1
noncomputable def g4_X4_firstLikeN (s : XS) (a1 : Int) : XR := (s, a1)
noncomputable def g2b_X4_firstLikeN (s : XS) (r_6 : Int) (i0 : Nat) (a1 : Int) : XR := if r_6 = 0 then g3_X4_firstLikeN s i0 a1 else g4_X4_firstLikeN s a1
noncomputable def g1c_X4_firstLikeN (s : XS) (r_6 : Int) (i0 : Nat) (a1 : Int) : XR := g2b_X4_firstLikeN s r_6 i0 a1
noncomputable def f_X4_firstLikeN (s : XS) (i0 : Nat) (a1 : Int) : XR := g1c_X4_firstLikeN ((f_X4_asks s i0 1003).1) (((f_X4_asks s i0 1003).2)) i0 a1
set_option maxHeartbeats 4000000 in
set_option maxRecDepth 100000 in
theorem c_X4_firstLikeN (l : Launch) (G : GG) (Z : RZ) (ad : Nat → Nat) (ws0 : va_W) (hT : Ty G SC ad ws0) (i0 : Nat) (hi0 : Kd SC i0 2) (a1 : Int32) (l1 : 0 ≤ a1.toInt) (u1 : a1.toInt ≤ 239) : Mq l yX4_firstLike cX4_firstLike 2 (some .int) 2 G Z [.ref (ad i0), .int a1] ws0 (PI G SC ad [] ws0 (fun r u => (xso SC ad u = (f_X4_firstLikeN (xso SC ad ws0) i0 a1.toInt).1) ∧ (r.toInt = (f_X4_firstLikeN (xso SC ad ws0) i0 a1.toInt).2) ∧ (0 ≤ r.toInt) ∧ (r.toInt ≤ 239))) := by
  refine Mq.start (by decide) (Nat.le_of_ble_eq_true rfl) ?_
  intro p e s m below meth c A ls C0 hZ h hl
  have hl : lv_has ls 2 [(0, .ref (ad i0)), (1, .int a1)] := hl
  have h : Wt G SC ad A s s.heap [] ws0 := ⟨h, hT⟩
  obtain ⟨args, hargs⟩ : ∃ z, z = ([.ref (ad i0), .int a1] : List Value).toArray := ⟨_, rfl⟩
  rw [← hargs] at C0 ⊢
  have C0 : Cx p s m args meth c RX4 cX4_firstLike 2 (some .int) := C0
  obtain ⟨Q, hQ⟩ : ∃ z, z = MQ below ((PI G SC ad [] ws0 (fun r u => (xso SC ad u = (f_X4_firstLikeN (xso SC ad ws0) i0 a1.toInt).1) ∧ (r.toInt = (f_X4_firstLikeN (xso SC ad ws0) i0 a1.toInt).2) ∧ (0 ≤ r.toInt) ∧ (r.toInt ≤ 239))) A) args s 0 0 A := ⟨_, rfl⟩
  rw [← hQ]
  obtain ⟨FT, hFT⟩ : ∃ z, z = f_X4_firstLikeN (xso SC ad ws0) i0 a1.toInt := ⟨_, rfl⟩
  have HE : FT = f_X4_firstLikeN (xso SC ad ws0) i0 a1.toInt := hFT
  refine lv_aload_n C0.1 C0.2.1 dX4_firstLike_0 rfl (lv_at hl 0 rfl) ?_
  refine y_c3 (n := 1003) C0 (by decide) dX4_firstLike_1 (fun v_1 e_2 => ?_)
  refine y_ci h (y_rV (As := [.int v_1]) (rest := []) C0 hZ h (c_X4_asks l G Z ad _ h.2 i0 hi0 v_1) k_X4_asks q_1127 q_38 q_1125 hi0 rfl rfl rfl hl.1 rfl rfl (Nat.le_of_ble_eq_true rfl) dX4_firstLike_4 ⟨Nat.le_of_ble_eq_true rfl, Nat.le_of_ble_eq_true rfl⟩ ⟨Nat.le_of_ble_eq_true rfl, Nat.le_of_ble_eq_true rfl⟩) (fun r_6 H locs ws_3 h u_4 p_5 => ?_)
  obtain ⟨e_7, e_8, e_9, e_10⟩ := p_5
  replace HE : FT = g1c_X4_firstLikeN (xso SC ad ws_3) r_6.toInt i0 a1.toInt := HE.trans (by rw [e_7, e_8, e_2]; rfl)
  replace HE : FT = g2b_X4_firstLikeN (xso SC ad ws_3) r_6.toInt i0 a1.toInt := HE.trans rfl
  refine y_if_eq (tgt := 14) C0 dX4_firstLike_7 (by decide) (fun c_11 => ?_) (fun c_11 => ?_)
  · -- 7
    replace HE : FT = g3_X4_firstLikeN (xso SC ad ws_3) i0 a1.toInt := HE.trans (if_pos c_11)
    refine lv_aload_n C0.1 C0.2.1 dX4_firstLike_14 rfl (lv_at hl 0 rfl) ?_
    refine y_c3 (n := 1002) C0 (by decide) dX4_firstLike_15 (fun v_12 e_13 => ?_)
    refine y_ci h (y_rV (As := [.int v_12]) (rest := []) C0 hZ h (c_X4_asks l G Z ad _ h.2 i0 hi0 v_12) k_X4_asks q_1127 q_38 q_1125 hi0 rfl rfl rfl hl.1 rfl rfl (Nat.le_of_ble_eq_true rfl) dX4_firstLike_18 ⟨Nat.le_of_ble_eq_true rfl, Nat.le_of_ble_eq_true rfl⟩ ⟨Nat.le_of_ble_eq_true rfl, Nat.le_of_ble_eq_true rfl⟩) (fun r_17 H locs ws_14 h u_15 p_16 => ?_)
    obtain ⟨e_18, e_19, e_20, e_21⟩ := p_16
    replace HE : FT = g5c_X4_firstLikeN (xso SC ad ws_14) r_17.toInt a1.toInt := HE.trans (by rw [e_18, e_19, e_13]; rfl)
    replace HE : FT = g6b_X4_firstLikeN (xso SC ad ws_14) r_17.toInt a1.toInt := HE.trans rfl
    refine y_if_eq (tgt := 31) C0 dX4_firstLike_21 (by decide) (fun c_22 => ?_) (fun c_22 => ?_)
    · -- 21
      replace HE : FT = g7_X4_firstLikeN (xso SC ad ws_14) := HE.trans (if_pos c_22)
      refine y_c1 (n := 0) C0 (by decide) dX4_firstLike_31 (fun v_23 e_24 => ?_)
      replace HE : FT = ((xso SC ad ws_14), v_23.toInt) := HE.trans (by rw [e_24]; rfl)
      rw [hQ]
      exact y_iret C0 h (Fr.tr u_4 u_15) ⟨(congrArg Prod.fst (HE.symm.trans hFT)), (congrArg Prod.snd (HE.symm.trans hFT)), (o10_1 e_24), (o10_24 e_24)⟩ dX4_firstLike_32
    · -- 21
      replace HE : FT = g8_X4_firstLikeN (xso SC ad ws_14) a1.toInt := HE.trans (if_neg c_22)
      refine lv_iload_n C0.1 C0.2.1 dX4_firstLike_24 rfl (lv_at hl 1 rfl) ?_
      refine y_c2 (n := 24) C0 (by decide) dX4_firstLike_25 (fun v_25 e_26 => ?_)
      refine y_remc (n := 24) C0 (o10_25 e_26) (by decide) (o10_26 l1 u1) dX4_firstLike_27 (fun v_27 e_28 => ?_)
      refine lv_goto (tgt := 32) C0.1 C0.2.1 dX4_firstLike_28 (by decide) ?_
      replace HE : FT = ((xso SC ad ws_14), v_27.toInt) := HE.trans (by rw [e_28]; rfl)
      rw [hQ]
      exact y_iret C0 h (Fr.tr u_4 u_15) ⟨(congrArg Prod.fst (HE.symm.trans hFT)), (congrArg Prod.snd (HE.symm.trans hFT)), (o10_27 l1 u1 e_28), (o10_28 l1 u1 e_28)⟩ dX4_firstLike_32
  · -- 7
    replace HE : FT = g4_X4_firstLikeN (xso SC ad ws_3) a1.toInt := HE.trans (if_neg c_11)
    refine lv_iload_n C0.1 C0.2.1 dX4_firstLike_10 rfl (lv_at hl 1 rfl) ?_
    refine lv_goto (tgt := 32) C0.1 C0.2.1 dX4_firstLike_11 (by decide) ?_
    replace HE : FT = ((xso SC ad ws_3), a1.toInt) := HE.trans rfl
    rw [hQ]
    exact y_iret C0 h u_4 ⟨(congrArg Prod.fst (HE.symm.trans hFT)), (congrArg Prod.snd (HE.symm.trans hFT)), (o10_26 l1 u1), (o10_29 l1 u1)⟩ dX4_firstLike_32
noncomputable def g3_X4_firstHeadLike (s : XS) : XR := (s, 0)
noncomputable def g4_X4_firstHeadLike (s : XS) (a1 : Int) : XR := (s, a1)
noncomputable def g2b_X4_firstHeadLike (s : XS) (r_6 : Int) (a1 : Int) : XR := if r_6 = 0 then g3_X4_firstHeadLike s else g4_X4_firstHeadLike s a1
noncomputable def g1c_X4_firstHeadLike (s : XS) (r_6 : Int) (a1 : Int) : XR := g2b_X4_firstHeadLike s r_6 a1
noncomputable def f_X4_firstHeadLike (s : XS) (i0 : Nat) (a1 : Int) : XR := g1c_X4_firstHeadLike ((f_X4_asks s i0 1005).1) (((f_X4_asks s i0 1005).2)) a1
set_option maxHeartbeats 4000000 in
set_option maxRecDepth 100000 in
theorem c_X4_firstHeadLike (l : Launch) (G : GG) (Z : RZ) (ad : Nat → Nat) (ws0 : va_W) (hT : Ty G SC ad ws0) (i0 : Nat) (hi0 : Kd SC i0 2) (a1 : Int32) (l1 : 0 ≤ a1.toInt) (u1 : a1.toInt ≤ 3) : Mq l yX4_firstHeadLike cX4_firstHeadLike 2 (some .int) 2 G Z [.ref (ad i0), .int a1] ws0 (PI G SC ad [] ws0 (fun r u => (xso SC ad u = (f_X4_firstHeadLike (xso SC ad ws0) i0 a1.toInt).1) ∧ (r.toInt = (f_X4_firstHeadLike (xso SC ad ws0) i0 a1.toInt).2) ∧ (0 ≤ r.toInt) ∧ (r.toInt ≤ 3))) := by
  refine Mq.start (by decide) (Nat.le_of_ble_eq_true rfl) ?_
  intro p e s m below meth c A ls C0 hZ h hl
  have hl : lv_has ls 2 [(0, .ref (ad i0)), (1, .int a1)] := hl
  have h : Wt G SC ad A s s.heap [] ws0 := ⟨h, hT⟩
  obtain ⟨args, hargs⟩ : ∃ z, z = ([.ref (ad i0), .int a1] : List Value).toArray := ⟨_, rfl⟩
  rw [← hargs] at C0 ⊢
  have C0 : Cx p s m args meth c RX4 cX4_firstHeadLike 2 (some .int) := C0
  obtain ⟨Q, hQ⟩ : ∃ z, z = MQ below ((PI G SC ad [] ws0 (fun r u => (xso SC ad u = (f_X4_firstHeadLike (xso SC ad ws0) i0 a1.toInt).1) ∧ (r.toInt = (f_X4_firstHeadLike (xso SC ad ws0) i0 a1.toInt).2) ∧ (0 ≤ r.toInt) ∧ (r.toInt ≤ 3))) A) args s 0 0 A := ⟨_, rfl⟩
  rw [← hQ]
  obtain ⟨FT, hFT⟩ : ∃ z, z = f_X4_firstHeadLike (xso SC ad ws0) i0 a1.toInt := ⟨_, rfl⟩
  have HE : FT = f_X4_firstHeadLike (xso SC ad ws0) i0 a1.toInt := hFT
  refine lv_aload_n C0.1 C0.2.1 dX4_firstHeadLike_0 rfl (lv_at hl 0 rfl) ?_
  refine y_c3 (n := 1005) C0 (by decide) dX4_firstHeadLike_1 (fun v_1 e_2 => ?_)
  refine y_ci h (y_rV (As := [.int v_1]) (rest := []) C0 hZ h (c_X4_asks l G Z ad _ h.2 i0 hi0 v_1) k_X4_asks q_1127 q_38 q_1125 hi0 rfl rfl rfl hl.1 rfl rfl (Nat.le_of_ble_eq_true rfl) dX4_firstHeadLike_4 ⟨Nat.le_of_ble_eq_true rfl, Nat.le_of_ble_eq_true rfl⟩ ⟨Nat.le_of_ble_eq_true rfl, Nat.le_of_ble_eq_true rfl⟩) (fun r_6 H locs ws_3 h u_4 p_5 => ?_)
  obtain ⟨e_7, e_8, e_9, e_10⟩ := p_5
  replace HE : FT = g1c_X4_firstHeadLike (xso SC ad ws_3) r_6.toInt a1.toInt := HE.trans (by rw [e_7, e_8, e_2]; rfl)
  replace HE : FT = g2b_X4_firstHeadLike (xso SC ad ws_3) r_6.toInt a1.toInt := HE.trans rfl
  refine y_if_eq (tgt := 14) C0 dX4_firstHeadLike_7 (by decide) (fun c_11 => ?_) (fun c_11 => ?_)
  · -- 7
    replace HE : FT = g3_X4_firstHeadLike (xso SC ad ws_3) := HE.trans (if_pos c_11)
    refine y_c1 (n := 0) C0 (by decide) dX4_firstHeadLike_14 (fun v_12 e_13 => ?_)
    replace HE : FT = ((xso SC ad ws_3), v_12.toInt) := HE.trans (by rw [e_13]; rfl)
    rw [hQ]
    exact y_iret C0 h u_4 ⟨(congrArg Prod.fst (HE.symm.trans hFT)), (congrArg Prod.snd (HE.symm.trans hFT)), (o10_1 e_13), (o10_30 e_13)⟩ dX4_firstHeadLike_15
  · -- 7
    replace HE : FT = g4_X4_firstHeadLike (xso SC ad ws_3) a1.toInt := HE.trans (if_neg c_11)
    refine lv_iload_n C0.1 C0.2.1 dX4_firstHeadLike_10 rfl (lv_at hl 1 rfl) ?_
    refine lv_goto (tgt := 15) C0.1 C0.2.1 dX4_firstHeadLike_11 (by decide) ?_
    replace HE : FT = ((xso SC ad ws_3), a1.toInt) := HE.trans rfl
    rw [hQ]
    exact y_iret C0 h u_4 ⟨(congrArg Prod.fst (HE.symm.trans hFT)), (congrArg Prod.snd (HE.symm.trans hFT)), (o10_31 l1 u1), (o10_32 l1 u1)⟩ dX4_firstHeadLike_15
noncomputable def g3w_X4_copy (s : XS) : XR := (s, 0)
noncomputable def g2w_X4_copy (s : XS) (i0 : Nat) (i1 : Nat) : XR := g3w_X4_copy (xcp s (i1 + 1) (i0 + 1) (s 0 i0 3))
noncomputable def g1w_X4_copy (s : XS) (i0 : Nat) (i1 : Nat) : XR := g2w_X4_copy (xup s 0 i0 4 (s 0 i1 4)) i0 i1
noncomputable def f_X4_copy (s : XS) (i0 : Nat) (i1 : Nat) : XR := g1w_X4_copy (xup s 0 i0 3 (s 0 i1 3)) i0 i1
set_option maxHeartbeats 4000000 in
set_option maxRecDepth 100000 in
theorem c_X4_copy (l : Launch) (G : GG) (Z : RZ) (ad : Nat → Nat) (ws0 : va_W) (hT : Ty G SC ad ws0) (i0 : Nat) (hi0 : Kd SC i0 2) (i1 : Nat) (hi1 : Kd SC i1 2) : Mq l yX4_copy cX4_copy 2 none 1 G Z [.ref (ad i0), .ref (ad i1)] ws0 (PV G SC ad [2, 3] ws0 (fun u => (xso SC ad u = (f_X4_copy (xso SC ad ws0) i0 i1).1))) := by
  refine Mq.start (by decide) (Nat.le_of_ble_eq_true rfl) ?_
  intro p e s m below meth c A ls C0 hZ h hl
  have hl : lv_has ls 2 [(0, .ref (ad i0)), (1, .ref (ad i1))] := hl
  have h : Wt G SC ad A s s.heap [] ws0 := ⟨h, hT⟩
  obtain ⟨args, hargs⟩ : ∃ z, z = ([.ref (ad i0), .ref (ad i1)] : List Value).toArray := ⟨_, rfl⟩
  rw [← hargs] at C0 ⊢
  have C0 : Cx p s m args meth c RX4 cX4_copy 2 none := C0
  obtain ⟨Q, hQ⟩ : ∃ z, z = MQ below ((PV G SC ad [2, 3] ws0 (fun u => (xso SC ad u = (f_X4_copy (xso SC ad ws0) i0 i1).1))) A) args s 0 0 A := ⟨_, rfl⟩
  rw [← hQ]
  obtain ⟨FT, hFT⟩ : ∃ z, z = f_X4_copy (xso SC ad ws0) i0 i1 := ⟨_, rfl⟩
  have HE : FT = f_X4_copy (xso SC ad ws0) i0 i1 := hFT
  refine lv_aload_n C0.1 C0.2.1 dX4_copy_0 rfl (lv_at hl 0 rfl) ?_
  refine lv_aload_n C0.1 C0.2.1 dX4_copy_1 rfl (lv_at hl 1 rfl) ?_
  refine tg_X4_size C0 h hi1 q_170 dX4_copy_2 (fun v_1 e_2 e_3 e_4 => ?_)
  refine tp_X4_size C0 h hi0 q_170 (o10_33 e_3 e_4) (o10_34 e_3 e_4) dX4_copy_5 (fun H locs ws_5 h u_6 Xu_6 => ?_)
  replace HE : FT = g1w_X4_copy (xso SC ad ws_5) i0 i1 := HE.trans (by rw [Xu_6, (xg0 e_2 : v_1.toInt = (xso SC ad ws0) 0 i1 3)]; rfl)
  refine lv_aload_n C0.1 C0.2.1 dX4_copy_8 rfl (lv_at hl 0 rfl) ?_
  refine lv_aload_n C0.1 C0.2.1 dX4_copy_9 rfl (lv_at hl 1 rfl) ?_
  refine tg_X4_named C0 h hi1 q_171 dX4_copy_10 (fun v_7 e_8 e_9 e_10 => ?_)
  refine tp_X4_named C0 h hi0 q_171 (le_min v_7) (le_max v_7) dX4_copy_13 (fun H locs ws_11 h u_12 Xu_12 => ?_)
  replace HE : FT = g2w_X4_copy (xso SC ad ws_11) i0 i1 := HE.trans (by rw [Xu_12, (xg0 e_8 : v_7.toInt = (xso SC ad ws_5) 0 i1 4)]; rfl)
  refine lv_aload_n C0.1 C0.2.1 dX4_copy_16 rfl (lv_at hl 1 rfl) ?_
  refine tg_X4_code C0 h hi1 q_167 dX4_copy_17 ?_
  refine y_c1 (n := 0) C0 (by decide) dX4_copy_20 (fun v_13 e_14 => ?_)
  refine lv_aload_n C0.1 C0.2.1 dX4_copy_21 rfl (lv_at hl 0 rfl) ?_
  refine tg_X4_code C0 h hi0 q_167 dX4_copy_22 ?_
  refine y_c1 (n := 0) C0 (by decide) dX4_copy_25 (fun v_15 e_16 => ?_)
  refine lv_aload_n C0.1 C0.2.1 dX4_copy_26 rfl (lv_at hl 0 rfl) ?_
  refine tg_X4_size C0 h hi0 q_170 dX4_copy_27 (fun v_17 e_18 e_19 e_20 => ?_)
  have qh_21 : v_17.toInt = v_1.toInt := congrArg Int32.toInt (e_18.symm.trans (Eq.trans (u_12.2.2 3 (by decide)) u_6.2.1))
  have hO_26 := h.2
  refine y_copy C0 h hl.1 (rSC_2_1 hi1) (rSC_2_1 hi0) rfl rfl q_864 q_866 q_865 q_145 (o10_35 e_14) (o10_35 e_16) (o10_36 e_3 e_4 e_19 e_20 qh_21) (o10_37 e_3 e_4 e_19 e_20 qh_21) (o10_37 e_3 e_4 e_19 e_20 qh_21) (fun _ _ => ⟨by decide, by decide⟩) (Nat.le_of_ble_eq_true rfl) (Nat.le_of_ble_eq_true rfl) dX4_copy_30 (fun H locs ws_22 h u_23 c_24 c_25 => ?_)
  replace HE : FT = g3w_X4_copy (xso SC ad ws_22) := HE.trans (by rw [(xso_C (i := i0 + 1) (j := i1 + 1) hO_26 h.2 (rSC_2_1 hi0) rfl u_23 c_24 c_25), (xg0 e_18 : v_17.toInt = (xso SC ad ws_11) 0 i0 3)]; rfl)
  replace HE : FT = ((xso SC ad ws_22), 0) := HE.trans rfl
  rw [hQ]
  exact y_vret C0 h (Fr.tr (Fr.tr (Fr.up u_6.1 hi0 (by decide)) (Fr.up u_12.1 hi0 (by decide))) (Fr.up u_23 (rSC_2_1 hi0) (by decide))) (congrArg Prod.fst (HE.symm.trans hFT)) dX4_copy_33
noncomputable def g10_X4_value (s : XS) (i0 : Nat) : XR := (s, (s 1 (i0 + 2) (Int.toNat 0)))
noncomputable def g20w_X4_value (R56 : XS → Nat → Int → Int → XR) (s : XS) (i0 : Nat) (v_76 : Int) (x7_43 : Int) : XR := R56 s i0 v_76 ((x7_43 + 1))
noncomputable def g19_X4_value (R56 : XS → Nat → Int → Int → XR) (s : XS) (i0 : Nat) (v_76 : Int) (x7_43 : Int) (w_86 : Int) (w_92 : Int) : XR := g20w_X4_value R56 (xup s 1 (i0 + 2) (Int.toNat (v_76 - 1)) ((Xl2i (max ((-1000000)) (min 1000000 (Xlor w_86 w_92)))))) i0 v_76 x7_43
noncomputable def g22w_X4_value (R56 : XS → Nat → Int → Int → XR) (s : XS) (i0 : Nat) (v_76 : Int) (x7_43 : Int) : XR := R56 s i0 v_76 ((x7_43 + 1))
noncomputable def g21_X4_value (R56 : XS → Nat → Int → Int → XR) (s : XS) (i0 : Nat) (v_76 : Int) (x7_43 : Int) (w_86 : Int) (w_92 : Int) : XR := g22w_X4_value R56 (xup s 1 (i0 + 2) (Int.toNat (v_76 - 1)) ((Xl2i (max ((-1000000)) (min 1000000 (Xladd w_86 w_92)))))) i0 v_76 x7_43
noncomputable def g24w_X4_value (R56 : XS → Nat → Int → Int → XR) (s : XS) (i0 : Nat) (v_76 : Int) (x7_43 : Int) : XR := R56 s i0 v_76 ((x7_43 + 1))
noncomputable def g23_X4_value (R56 : XS → Nat → Int → Int → XR) (s : XS) (i0 : Nat) (v_76 : Int) (x7_43 : Int) (w_86 : Int) (w_92 : Int) : XR := g24w_X4_value R56 (xup s 1 (i0 + 2) (Int.toNat (v_76 - 1)) ((Xl2i (max ((-1000000)) (min 1000000 (Xlsub w_86 w_92)))))) i0 v_76 x7_43
noncomputable def g26w_X4_value (R56 : XS → Nat → Int → Int → XR) (s : XS) (i0 : Nat) (v_76 : Int) (x7_43 : Int) : XR := R56 s i0 v_76 ((x7_43 + 1))
noncomputable def g25_X4_value (R56 : XS → Nat → Int → Int → XR) (s : XS) (i0 : Nat) (v_76 : Int) (x7_43 : Int) (w_86 : Int) (w_92 : Int) : XR := g26w_X4_value R56 (xup s 1 (i0 + 2) (Int.toNat (v_76 - 1)) ((Xl2i (max ((-1000000)) (min 1000000 (Xlmul w_86 w_92)))))) i0 v_76 x7_43
noncomputable def g31w_X4_value (R56 : XS → Nat → Int → Int → XR) (s : XS) (i0 : Nat) (v_76 : Int) (x7_43 : Int) : XR := R56 s i0 v_76 ((x7_43 + 1))
noncomputable def g29_X4_value (R56 : XS → Nat → Int → Int → XR) (s : XS) (i0 : Nat) (v_76 : Int) (x7_43 : Int) : XR := g31w_X4_value R56 (xup s 1 (i0 + 2) (Int.toNat (v_76 - 1)) ((Xl2i (max ((-1000000)) (min 1000000 0))))) i0 v_76 x7_43
noncomputable def g32w_X4_value (R56 : XS → Nat → Int → Int → XR) (s : XS) (i0 : Nat) (v_76 : Int) (x7_43 : Int) : XR := R56 s i0 v_76 ((x7_43 + 1))
noncomputable def g30_X4_value (R56 : XS → Nat → Int → Int → XR) (s : XS) (i0 : Nat) (v_76 : Int) (x7_43 : Int) : XR := g32w_X4_value R56 (xup s 1 (i0 + 2) (Int.toNat (v_76 - 1)) ((Xl2i (max ((-1000000)) (min 1000000 1))))) i0 v_76 x7_43
noncomputable def g28b_X4_value (R56 : XS → Nat → Int → Int → XR) (s : XS) (v_179 : Int) (i0 : Nat) (v_76 : Int) (x7_43 : Int) : XR := if v_179 = 0 then g30_X4_value R56 s i0 v_76 x7_43 else g29_X4_value R56 s i0 v_76 x7_43
noncomputable def g27_X4_value (R56 : XS → Nat → Int → Int → XR) (s : XS) (i0 : Nat) (v_76 : Int) (x7_43 : Int) (w_86 : Int) (w_92 : Int) : XR := g28b_X4_value R56 s ((Xcmp w_86 w_92)) i0 v_76 x7_43
noncomputable def g37w_X4_value (R56 : XS → Nat → Int → Int → XR) (s : XS) (i0 : Nat) (v_76 : Int) (x7_43 : Int) : XR := R56 s i0 v_76 ((x7_43 + 1))
noncomputable def g35_X4_value (R56 : XS → Nat → Int → Int → XR) (s : XS) (i0 : Nat) (v_76 : Int) (x7_43 : Int) : XR := g37w_X4_value R56 (xup s 1 (i0 + 2) (Int.toNat (v_76 - 1)) ((Xl2i (max ((-1000000)) (min 1000000 0))))) i0 v_76 x7_43
noncomputable def g38w_X4_value (R56 : XS → Nat → Int → Int → XR) (s : XS) (i0 : Nat) (v_76 : Int) (x7_43 : Int) : XR := R56 s i0 v_76 ((x7_43 + 1))
noncomputable def g36_X4_value (R56 : XS → Nat → Int → Int → XR) (s : XS) (i0 : Nat) (v_76 : Int) (x7_43 : Int) : XR := g38w_X4_value R56 (xup s 1 (i0 + 2) (Int.toNat (v_76 - 1)) ((Xl2i (max ((-1000000)) (min 1000000 1))))) i0 v_76 x7_43
noncomputable def g34b_X4_value (R56 : XS → Nat → Int → Int → XR) (s : XS) (v_224 : Int) (i0 : Nat) (v_76 : Int) (x7_43 : Int) : XR := if v_224 < 0 then g36_X4_value R56 s i0 v_76 x7_43 else g35_X4_value R56 s i0 v_76 x7_43
noncomputable def g33_X4_value (R56 : XS → Nat → Int → Int → XR) (s : XS) (i0 : Nat) (v_76 : Int) (x7_43 : Int) (w_86 : Int) (w_92 : Int) : XR := g34b_X4_value R56 s ((Xcmp w_86 w_92)) i0 v_76 x7_43
noncomputable def g43w_X4_value (R56 : XS → Nat → Int → Int → XR) (s : XS) (i0 : Nat) (v_76 : Int) (x7_43 : Int) : XR := R56 s i0 v_76 ((x7_43 + 1))
noncomputable def g41_X4_value (R56 : XS → Nat → Int → Int → XR) (s : XS) (i0 : Nat) (v_76 : Int) (x7_43 : Int) : XR := g43w_X4_value R56 (xup s 1 (i0 + 2) (Int.toNat (v_76 - 1)) ((Xl2i (max ((-1000000)) (min 1000000 0))))) i0 v_76 x7_43
noncomputable def g44w_X4_value (R56 : XS → Nat → Int → Int → XR) (s : XS) (i0 : Nat) (v_76 : Int) (x7_43 : Int) : XR := R56 s i0 v_76 ((x7_43 + 1))
noncomputable def g42_X4_value (R56 : XS → Nat → Int → Int → XR) (s : XS) (i0 : Nat) (v_76 : Int) (x7_43 : Int) : XR := g44w_X4_value R56 (xup s 1 (i0 + 2) (Int.toNat (v_76 - 1)) ((Xl2i (max ((-1000000)) (min 1000000 1))))) i0 v_76 x7_43
noncomputable def g40b_X4_value (R56 : XS → Nat → Int → Int → XR) (s : XS) (v_269 : Int) (i0 : Nat) (v_76 : Int) (x7_43 : Int) : XR := if 0 < v_269 then g42_X4_value R56 s i0 v_76 x7_43 else g41_X4_value R56 s i0 v_76 x7_43
noncomputable def g39_X4_value (R56 : XS → Nat → Int → Int → XR) (s : XS) (i0 : Nat) (v_76 : Int) (x7_43 : Int) (w_86 : Int) (w_92 : Int) : XR := g40b_X4_value R56 s ((Xcmp w_86 w_92)) i0 v_76 x7_43
noncomputable def g46w_X4_value (R56 : XS → Nat → Int → Int → XR) (s : XS) (i0 : Nat) (v_76 : Int) (x7_43 : Int) : XR := R56 s i0 v_76 ((x7_43 + 1))
noncomputable def g45_X4_value (R56 : XS → Nat → Int → Int → XR) (s : XS) (i0 : Nat) (v_76 : Int) (x7_43 : Int) (w_86 : Int) (w_92 : Int) : XR := g46w_X4_value R56 (xup s 1 (i0 + 2) (Int.toNat (v_76 - 1)) ((Xl2i (max ((-1000000)) (min 1000000 (Xland w_86 w_92)))))) i0 v_76 x7_43
noncomputable def g18s_X4_value (R56 : XS → Nat → Int → Int → XR) (s : XS) (v_66 : Int) (i0 : Nat) (v_76 : Int) (x7_43 : Int) (w_86 : Int) (w_92 : Int) : XR := if v_66 < 2000 ∨ 2006 < v_66 then g19_X4_value R56 s i0 v_76 x7_43 w_86 w_92 else if v_66 = 2000 then g21_X4_value R56 s i0 v_76 x7_43 w_86 w_92 else if v_66 = 2001 then g23_X4_value R56 s i0 v_76 x7_43 w_86 w_92 else if v_66 = 2002 then g25_X4_value R56 s i0 v_76 x7_43 w_86 w_92 else if v_66 = 2003 then g27_X4_value R56 s i0 v_76 x7_43 w_86 w_92 else if v_66 = 2004 then g33_X4_value R56 s i0 v_76 x7_43 w_86 w_92 else if v_66 = 2005 then g39_X4_value R56 s i0 v_76 x7_43 w_86 w_92 else if v_66 = 2006 then g45_X4_value R56 s i0 v_76 x7_43 w_86 w_92 else (s, 0)
noncomputable def g16_X4_value (R56 : XS → Nat → Int → Int → XR) (s : XS) (i0 : Nat) (x6_44 : Int) (x7_43 : Int) (v_66 : Int) : XR := g18s_X4_value R56 s v_66 i0 ((x6_44 + (-1))) x7_43 (((s 1 (i0 + 2) (Int.toNat ((x6_44 + (-1)) - 1))))) (((s 1 (i0 + 2) (Int.toNat (x6_44 + (-1))))))
noncomputable def g17_X4_value (R56 : XS → Nat → Int → Int → XR) (s : XS) (i0 : Nat) (x6_44 : Int) (x7_43 : Int) : XR := R56 s i0 x6_44 ((x7_43 + 1))
noncomputable def g15b_X4_value (R56 : XS → Nat → Int → Int → XR) (s : XS) (x6_44 : Int) (i0 : Nat) (x7_43 : Int) (v_66 : Int) : XR := if x6_44 < 2 then g17_X4_value R56 s i0 x6_44 x7_43 else g16_X4_value R56 s i0 x6_44 x7_43 v_66
noncomputable def g13_X4_value (R56 : XS → Nat → Int → Int → XR) (s : XS) (i0 : Nat) (x6_44 : Int) (x7_43 : Int) (v_66 : Int) : XR := g15b_X4_value R56 s x6_44 i0 x7_43 v_66
noncomputable def g48_X4_value (R56 : XS → Nat → Int → Int → XR) (s : XS) (i0 : Nat) (x7_43 : Int) : XR := R56 s i0 64 ((x7_43 + 1))
noncomputable def g53w_X4_value (R56 : XS → Nat → Int → Int → XR) (s : XS) (i0 : Nat) (x6_44 : Int) (x7_43 : Int) : XR := R56 s i0 ((x6_44 + 1)) ((x7_43 + 1))
noncomputable def g51_X4_value (R56 : XS → Nat → Int → Int → XR) (s : XS) (x6_44 : Int) (i0 : Nat) (x7_43 : Int) (v_66 : Int) : XR := g53w_X4_value R56 (xup s 1 (i0 + 2) (Int.toNat x6_44) (v_66)) i0 x6_44 x7_43
noncomputable def g57w_X4_value (R56 : XS → Nat → Int → Int → XR) (s : XS) (i0 : Nat) (x6_44 : Int) (x7_43 : Int) : XR := R56 s i0 ((x6_44 + 1)) ((x7_43 + 1))
noncomputable def g55_X4_value (R56 : XS → Nat → Int → Int → XR) (s : XS) (x6_44 : Int) (i0 : Nat) (x7_43 : Int) (v_66 : Int) : XR := g57w_X4_value R56 (xup s 1 (i0 + 2) (Int.toNat x6_44) (v_66)) i0 x6_44 x7_43
noncomputable def g58w_X4_value (R56 : XS → Nat → Int → Int → XR) (s : XS) (i0 : Nat) (x6_44 : Int) (x7_43 : Int) : XR := R56 s i0 ((x6_44 + 1)) ((x7_43 + 1))
noncomputable def g56_X4_value (R56 : XS → Nat → Int → Int → XR) (s : XS) (x6_44 : Int) (i0 : Nat) (x7_43 : Int) (v_66 : Int) : XR := g58w_X4_value R56 (xup s 1 (i0 + 2) (Int.toNat x6_44) ((s 1 (i0 + 3) (Int.toNat (v_66 - 1000))))) i0 x6_44 x7_43
noncomputable def g54b_X4_value (R56 : XS → Nat → Int → Int → XR) (s : XS) (v_66 : Int) (x6_44 : Int) (i0 : Nat) (x7_43 : Int) : XR := if 1005 < v_66 then g55_X4_value R56 s x6_44 i0 x7_43 v_66 else g56_X4_value R56 s x6_44 i0 x7_43 v_66
noncomputable def g52_X4_value (R56 : XS → Nat → Int → Int → XR) (s : XS) (x6_44 : Int) (i0 : Nat) (x7_43 : Int) (v_66 : Int) : XR := g54b_X4_value R56 s v_66 x6_44 i0 x7_43
noncomputable def g50b_X4_value (R56 : XS → Nat → Int → Int → XR) (s : XS) (v_66 : Int) (x6_44 : Int) (i0 : Nat) (x7_43 : Int) : XR := if v_66 < 1000 then g51_X4_value R56 s x6_44 i0 x7_43 v_66 else g52_X4_value R56 s x6_44 i0 x7_43 v_66
noncomputable def g49_X4_value (R56 : XS → Nat → Int → Int → XR) (s : XS) (i0 : Nat) (x6_44 : Int) (x7_43 : Int) (v_66 : Int) : XR := g50b_X4_value R56 s v_66 x6_44 i0 x7_43
noncomputable def g47b_X4_value (R56 : XS → Nat → Int → Int → XR) (s : XS) (x6_44 : Int) (i0 : Nat) (x7_43 : Int) (v_66 : Int) : XR := if x6_44 < 64 then g49_X4_value R56 s i0 x6_44 x7_43 v_66 else g48_X4_value R56 s i0 x7_43
noncomputable def g14_X4_value (R56 : XS → Nat → Int → Int → XR) (s : XS) (i0 : Nat) (x6_44 : Int) (x7_43 : Int) (v_66 : Int) : XR := g47b_X4_value R56 s x6_44 i0 x7_43 v_66
noncomputable def g12b_X4_value (R56 : XS → Nat → Int → Int → XR) (s : XS) (v_66 : Int) (i0 : Nat) (x6_44 : Int) (x7_43 : Int) : XR := if v_66 < 2000 then g14_X4_value R56 s i0 x6_44 x7_43 v_66 else g13_X4_value R56 s i0 x6_44 x7_43 v_66
noncomputable def g11_X4_value (R56 : XS → Nat → Int → Int → XR) (s : XS) (i0 : Nat) (x6_44 : Int) (x7_43 : Int) : XR := g12b_X4_value R56 s ((s 1 (i0 + 1) (Int.toNat x7_43))) i0 x6_44 x7_43
noncomputable def g9b_X4_value (R56 : XS → Nat → Int → Int → XR) (s : XS) (v_55 : Int) (x7_43 : Int) (i0 : Nat) (x6_44 : Int) : XR := if x7_43 < v_55 then g11_X4_value R56 s i0 x6_44 x7_43 else g10_X4_value s i0
noncomputable def g8l_X4_value (R56 : XS → Nat → Int → Int → XR) (s : XS) (i0 : Nat) (x6_44 : Int) (x7_43 : Int) : XR := g9b_X4_value R56 s ((s 0 i0 3)) x7_43 i0 x6_44
noncomputable def L7_X4_value (n : Nat) : XS → Nat → Int → Int → XR := Nat.rec (motive := fun _ => XS → Nat → Int → Int → XR) (fun s _ _ _ => (s, 0)) (fun _ R56 => g8l_X4_value R56) n
noncomputable def g6w_X4_value (s : XS) (i0 : Nat) : XR := L7_X4_value (Int.toNat (900 - 0 + 1)) s i0 0 0
noncomputable def g5w_X4_value (s : XS) (i0 : Nat) (a5 : Int) : XR := g6w_X4_value (xup s 1 (i0 + 3) (Int.toNat 5) (a5)) i0
noncomputable def g4w_X4_value (s : XS) (i0 : Nat) (a4 : Int) (a5 : Int) : XR := g5w_X4_value (xup s 1 (i0 + 3) (Int.toNat 4) (a4)) i0 a5
noncomputable def g3w_X4_value (s : XS) (i0 : Nat) (a3 : Int) (a4 : Int) (a5 : Int) : XR := g4w_X4_value (xup s 1 (i0 + 3) (Int.toNat 3) ((Xidiv a3 24))) i0 a4 a5
noncomputable def g2w_X4_value (s : XS) (i0 : Nat) (a3 : Int) (a4 : Int) (a5 : Int) : XR := g3w_X4_value (xup s 1 (i0 + 3) (Int.toNat 2) ((Xirem a3 24))) i0 a3 a4 a5
noncomputable def g1w_X4_value (s : XS) (i0 : Nat) (a2 : Int) (a3 : Int) (a4 : Int) (a5 : Int) : XR := g2w_X4_value (xup s 1 (i0 + 3) (Int.toNat 1) (a2)) i0 a3 a4 a5
noncomputable def f_X4_value (s : XS) (i0 : Nat) (a1 : Int) (a2 : Int) (a3 : Int) (a4 : Int) (a5 : Int) : XR := g1w_X4_value (xup s 1 (i0 + 3) (Int.toNat 0) (a1)) i0 a2 a3 a4 a5
set_option maxHeartbeats 4000000 in
set_option maxRecDepth 100000 in
theorem c_X4_value (l : Launch) (G : GG) (Z : RZ) (ad : Nat → Nat) (ws0 : va_W) (hT : Ty G SC ad ws0) (i0 : Nat) (hi0 : Kd SC i0 2) (a1 : Int32) (a2 : Int32) (a3 : Int32) (a4 : Int32) (a5 : Int32) : Mq l yX4_value cX4_value 15 (some .int) 1 G Z [.ref (ad i0), .int a1, .int a2, .int a3, .int a4, .int a5] ws0 (PI G SC ad [4, 5] ws0 (fun r u => (xso SC ad u = (f_X4_value (xso SC ad ws0) i0 a1.toInt a2.toInt a3.toInt a4.toInt a5.toInt).1) ∧ (r.toInt = (f_X4_value (xso SC ad ws0) i0 a1.toInt a2.toInt a3.toInt a4.toInt a5.toInt).2))) := by
  refine Mq.start (by decide) (Nat.le_of_ble_eq_true rfl) ?_
  intro p e s m below meth c A ls C0 hZ h hl
  have hl : lv_has ls 15 [(0, .ref (ad i0)), (1, .int a1), (2, .int a2), (3, .int a3), (4, .int a4), (5, .int a5)] := hl
  have h : Wt G SC ad A s s.heap [] ws0 := ⟨h, hT⟩
  obtain ⟨args, hargs⟩ : ∃ z, z = ([.ref (ad i0), .int a1, .int a2, .int a3, .int a4, .int a5] : List Value).toArray := ⟨_, rfl⟩
  rw [← hargs] at C0 ⊢
  have C0 : Cx p s m args meth c RX4 cX4_value 15 (some .int) := C0
  obtain ⟨Q, hQ⟩ : ∃ z, z = MQ below ((PI G SC ad [4, 5] ws0 (fun r u => (xso SC ad u = (f_X4_value (xso SC ad ws0) i0 a1.toInt a2.toInt a3.toInt a4.toInt a5.toInt).1) ∧ (r.toInt = (f_X4_value (xso SC ad ws0) i0 a1.toInt a2.toInt a3.toInt a4.toInt a5.toInt).2))) A) args s 0 0 A := ⟨_, rfl⟩
  rw [← hQ]
  obtain ⟨FT, hFT⟩ : ∃ z, z = f_X4_value (xso SC ad ws0) i0 a1.toInt a2.toInt a3.toInt a4.toInt a5.toInt := ⟨_, rfl⟩
  have HE : FT = f_X4_value (xso SC ad ws0) i0 a1.toInt a2.toInt a3.toInt a4.toInt a5.toInt := hFT
  refine lv_aload_n C0.1 C0.2.1 dX4_value_0 rfl (lv_at hl 0 rfl) ?_
  refine tg_X4_names C0 h hi0 q_169 dX4_value_1 ?_
  refine y_c1 (n := 0) C0 (by decide) dX4_value_4 (fun v_1 e_2 => ?_)
  refine lv_iload_n C0.1 C0.2.1 dX4_value_5 rfl (lv_at hl 1 rfl) ?_
  have hO_5 := h.2
  refine y_iast C0 h (rSC_2_3 hi0) rfl (by decide) (o10_1 e_2) (o10_38 e_2) (le_min a1) (le_max a1) dX4_value_6 (fun H locs ws_3 h u_4 => ?_)
  replace HE : FT = g1w_X4_value (xso SC ad ws_3) i0 a2.toInt a3.toInt a4.toInt a5.toInt := HE.trans (by rw [(xso_A (i := i0 + 3) hO_5 h.2 (rSC_2_3 hi0) rfl u_4), e_2]; rfl)
  refine lv_aload_n C0.1 C0.2.1 dX4_value_7 rfl (lv_at hl 0 rfl) ?_
  refine tg_X4_names C0 h hi0 q_169 dX4_value_8 ?_
  refine y_c1 (n := 1) C0 (by decide) dX4_value_11 (fun v_6 e_7 => ?_)
  refine lv_iload_n C0.1 C0.2.1 dX4_value_12 rfl (lv_at hl 2 rfl) ?_
  have hO_10 := h.2
  refine y_iast C0 h (rSC_2_3 hi0) rfl (by decide) (o10_4 e_7) (o10_39 e_7) (le_min a2) (le_max a2) dX4_value_13 (fun H locs ws_8 h u_9 => ?_)
  replace HE : FT = g2w_X4_value (xso SC ad ws_8) i0 a3.toInt a4.toInt a5.toInt := HE.trans (by rw [(xso_A (i := i0 + 3) hO_10 h.2 (rSC_2_3 hi0) rfl u_9), e_7]; rfl)
  refine lv_aload_n C0.1 C0.2.1 dX4_value_14 rfl (lv_at hl 0 rfl) ?_
  refine tg_X4_names C0 h hi0 q_169 dX4_value_15 ?_
  refine y_c1 (n := 2) C0 (by decide) dX4_value_18 (fun v_11 e_12 => ?_)
  refine lv_iload_n C0.1 C0.2.1 dX4_value_19 rfl (lv_at hl 3 rfl) ?_
  refine y_c2 (n := 24) C0 (by decide) dX4_value_20 (fun v_13 e_14 => ?_)
  refine xr_irem C0 (o10_40 e_14) dX4_value_22 (fun v_15 e_16 => ?_)
  have hO_19 := h.2
  refine y_iast C0 h (rSC_2_3 hi0) rfl (by decide) (o10_41 e_12) (o10_42 e_12) (le_min v_15) (le_max v_15) dX4_value_23 (fun H locs ws_17 h u_18 => ?_)
  replace HE : FT = g3w_X4_value (xso SC ad ws_17) i0 a3.toInt a4.toInt a5.toInt := HE.trans (by rw [(xso_A (i := i0 + 3) hO_19 h.2 (rSC_2_3 hi0) rfl u_18), e_16, e_14, e_12]; rfl)
  refine lv_aload_n C0.1 C0.2.1 dX4_value_24 rfl (lv_at hl 0 rfl) ?_
  refine tg_X4_names C0 h hi0 q_169 dX4_value_25 ?_
  refine y_c1 (n := 3) C0 (by decide) dX4_value_28 (fun v_20 e_21 => ?_)
  refine lv_iload_n C0.1 C0.2.1 dX4_value_29 rfl (lv_at hl 3 rfl) ?_
  refine y_c2 (n := 24) C0 (by decide) dX4_value_30 (fun v_22 e_23 => ?_)
  refine xr_idiv C0 (o10_40 e_23) dX4_value_32 (fun v_24 e_25 => ?_)
  have hO_28 := h.2
  refine y_iast C0 h (rSC_2_3 hi0) rfl (by decide) (o10_43 e_21) (o10_44 e_21) (le_min v_24) (le_max v_24) dX4_value_33 (fun H locs ws_26 h u_27 => ?_)
  replace HE : FT = g4w_X4_value (xso SC ad ws_26) i0 a4.toInt a5.toInt := HE.trans (by rw [(xso_A (i := i0 + 3) hO_28 h.2 (rSC_2_3 hi0) rfl u_27), e_25, e_23, e_21]; rfl)
  refine lv_aload_n C0.1 C0.2.1 dX4_value_34 rfl (lv_at hl 0 rfl) ?_
  refine tg_X4_names C0 h hi0 q_169 dX4_value_35 ?_
  refine y_c1 (n := 4) C0 (by decide) dX4_value_38 (fun v_29 e_30 => ?_)
  refine lv_iload C0.1 C0.2.1 dX4_value_39 (lv_at hl 4 rfl) ?_
  have hO_33 := h.2
  refine y_iast C0 h (rSC_2_3 hi0) rfl (by decide) (o10_45 e_30) (o10_46 e_30) (le_min a4) (le_max a4) dX4_value_41 (fun H locs ws_31 h u_32 => ?_)
  replace HE : FT = g5w_X4_value (xso SC ad ws_31) i0 a5.toInt := HE.trans (by rw [(xso_A (i := i0 + 3) hO_33 h.2 (rSC_2_3 hi0) rfl u_32), e_30]; rfl)
  refine lv_aload_n C0.1 C0.2.1 dX4_value_42 rfl (lv_at hl 0 rfl) ?_
  refine tg_X4_names C0 h hi0 q_169 dX4_value_43 ?_
  refine y_c1 (n := 5) C0 (by decide) dX4_value_46 (fun v_34 e_35 => ?_)
  refine lv_iload C0.1 C0.2.1 dX4_value_47 (lv_at hl 5 rfl) ?_
  have hO_38 := h.2
  refine y_iast C0 h (rSC_2_3 hi0) rfl (by decide) (o10_47 e_35) (o10_48 e_35) (le_min a5) (le_max a5) dX4_value_49 (fun H locs ws_36 h u_37 => ?_)
  replace HE : FT = g6w_X4_value (xso SC ad ws_36) i0 := HE.trans (by rw [(xso_A (i := i0 + 3) hO_38 h.2 (rSC_2_3 hi0) rfl u_37), e_35]; rfl)
  refine y_c1 (n := 0) C0 (by decide) dX4_value_50 (fun v_39 e_40 => ?_)
  refine lv_istore (lv' := [(6, .int v_39), (0, .ref (ad i0)), (1, .int a1), (2, .int a2), (3, .int a3), (4, .int a4), (5, .int a5)]) C0.1 C0.2.1 dX4_value_51 hl (by decide) rfl (fun ls hl => ?_)
  refine y_c1 (n := 0) C0 (by decide) dX4_value_53 (fun v_41 e_42 => ?_)
  refine lv_istore (lv' := [(7, .int v_41), (6, .int v_39), (0, .ref (ad i0)), (1, .int a1), (2, .int a2), (3, .int a3), (4, .int a4), (5, .int a5)]) C0.1 C0.2.1 dX4_value_54 hl (by decide) rfl (fun ls hl => ?_)
  have lp_47 : ∀ (n_49 : Nat) (x7_43 : Int32) (x6_44 : Int32) (H : Heap) (locs : List Loc) (ls : Array Slot) (ws_45 : va_W), 900 - x7_43.toInt < (n_49 : Int) → 0 ≤ x7_43.toInt → x7_43.toInt ≤ 900 → 0 ≤ x6_44.toInt → x6_44.toInt ≤ 64 → (FT = L7_X4_value n_49 (xso SC ad ws_45) i0 x6_44.toInt x7_43.toInt) → Wt G SC ad A s H locs ws_45 → Fr SC [4] ws_36 ws_45 → lv_has ls 15 [(7, .int x7_43), (6, .int x6_44), (0, .ref (ad i0)), (1, .int a1), (2, .int a2), (3, .int a3), (4, .int a4), (5, .int a5)] → W p l e (rmd 1 0 0) s m args below meth c H locs 0 0 Q (F0 m 56 ls []) := by
    intro n_49
    induction n_49 with
    | zero => intro x7_43 x6_44 H locs ls ws_45 hn_50 b_51 b_52 b_53 b_54 HE h hF_46 hl; exact ((o10_49 b_51 b_52 hn_50)).elim
    | succ n_49 ih_48 =>
      intro x7_43 x6_44 H locs ls ws_45 hn_50 b_51 b_52 b_53 b_54 HE h hF_46 hl
      obtain ⟨R56, hR56⟩ : ∃ z, z = L7_X4_value n_49 := ⟨_, rfl⟩
      replace HE : FT = g8l_X4_value R56 (xso SC ad ws_45) i0 x6_44.toInt x7_43.toInt := HE.trans (by rw [hR56]; rfl)
      refine lv_iload C0.1 C0.2.1 dX4_value_56 (lv_at hl 0 rfl) ?_
      refine lv_aload_n C0.1 C0.2.1 dX4_value_58 rfl (lv_at hl 2 rfl) ?_
      refine tg_X4_size C0 h hi0 q_170 dX4_value_59 (fun v_55 e_56 e_57 e_58 => ?_)
      replace HE : FT = g9b_X4_value R56 (xso SC ad ws_45) v_55.toInt x7_43.toInt i0 x6_44.toInt := HE.trans (by rw [(xg0 e_56 : v_55.toInt = (xso SC ad ws_45) 0 i0 3)]; rfl)
      refine y_icmp_ge (tgt := 347) C0 dX4_value_62 (by decide) (fun c_59 => ?_) (fun c_59 => ?_)
      · -- 62
        replace HE : FT = g10_X4_value (xso SC ad ws_45) i0 := HE.trans (if_neg (Int.not_lt.mpr c_59))
        refine lv_aload_n C0.1 C0.2.1 dX4_value_347 rfl (lv_at hl 2 rfl) ?_
        refine tg_X4_stack C0 h hi0 q_168 dX4_value_348 ?_
        refine y_c1 (n := 0) C0 (by decide) dX4_value_351 (fun v_60 e_61 => ?_)
        refine y_iald C0 h (rSC_2_2 hi0) rfl (by decide) (o10_1 e_61) (o10_50 e_61) dX4_value_352 (fun v_62 e_63 e_64 e_65 => ?_)
        replace HE : FT = ((xso SC ad ws_45), v_62.toInt) := HE.trans (by rw [(xg1 e_63 : v_62.toInt = (xso SC ad ws_45) 1 (i0 + 2) v_60.toInt.toNat), e_61]; rfl)
        rw [hQ]
        exact y_iret C0 h (Fr.tr (Fr.tr (Fr.tr (Fr.tr (Fr.tr (Fr.tr (Fr.up u_4.1 (rSC_2_3 hi0) (by decide)) (Fr.up u_9.1 (rSC_2_3 hi0) (by decide))) (Fr.up u_18.1 (rSC_2_3 hi0) (by decide))) (Fr.up u_27.1 (rSC_2_3 hi0) (by decide))) (Fr.up u_32.1 (rSC_2_3 hi0) (by decide))) (Fr.up u_37.1 (rSC_2_3 hi0) (by decide))) (Fr.mono hF_46 (by decide))) ⟨(congrArg Prod.fst (HE.symm.trans hFT)), (congrArg Prod.snd (HE.symm.trans hFT))⟩ dX4_value_353
      · -- 62
        replace HE : FT = g11_X4_value R56 (xso SC ad ws_45) i0 x6_44.toInt x7_43.toInt := HE.trans (if_pos c_59)
        refine lv_aload_n C0.1 C0.2.1 dX4_value_65 rfl (lv_at hl 2 rfl) ?_
        refine tg_X4_code C0 h hi0 q_167 dX4_value_66 ?_
        refine lv_iload C0.1 C0.2.1 dX4_value_69 (lv_at hl 0 rfl) ?_
        refine y_iald C0 h (rSC_2_1 hi0) rfl (by decide) (o10_51 b_51 b_52 hn_50 e_57 e_58 c_59) (o10_52 b_51 b_52 hn_50 e_57 e_58 c_59) dX4_value_71 (fun v_66 e_67 e_68 e_69 => ?_)
        refine lv_istore (lv' := [(8, .int v_66), (7, .int x7_43), (6, .int x6_44), (0, .ref (ad i0)), (1, .int a1), (2, .int a2), (3, .int a3), (4, .int a4), (5, .int a5)]) C0.1 C0.2.1 dX4_value_72 hl (by decide) rfl (fun ls hl => ?_)
        refine lv_iload C0.1 C0.2.1 dX4_value_74 (lv_at hl 0 rfl) ?_
        refine y_c3 (n := 2000) C0 (by decide) dX4_value_76 (fun v_70 e_71 => ?_)
        replace HE : FT = g12b_X4_value R56 (xso SC ad ws_45) v_66.toInt i0 x6_44.toInt x7_43.toInt := HE.trans (by rw [(xg1 e_67 : v_66.toInt = (xso SC ad ws_45) 1 (i0 + 1) x7_43.toInt.toNat)]; rfl)
        refine y_icmp_ge (tgt := 137) C0 dX4_value_79 (by decide) (fun c_72 => ?_) (fun c_72 => ?_)
        · -- 79
          replace HE : FT = g13_X4_value R56 (xso SC ad ws_45) i0 x6_44.toInt x7_43.toInt v_66.toInt := HE.trans (if_neg (o10_54 e_71 c_72))
          refine lv_iload C0.1 C0.2.1 dX4_value_137 (lv_at hl 2 rfl) ?_
          refine y_c1 (n := 2) C0 (by decide) dX4_value_139 (fun v_73 e_74 => ?_)
          replace HE : FT = g15b_X4_value R56 (xso SC ad ws_45) x6_44.toInt i0 x7_43.toInt v_66.toInt := HE.trans rfl
          refine y_icmp_ge (tgt := 146) C0 dX4_value_140 (by decide) (fun c_75 => ?_) (fun c_75 => ?_)
          · -- 140
            replace HE : FT = g16_X4_value R56 (xso SC ad ws_45) i0 x6_44.toInt x7_43.toInt v_66.toInt := HE.trans (if_neg (o10_57 b_53 b_54 e_74 c_75))
            refine y_inc (kp := 2) (n := (-1)) (fun v_76 => [(6, .int v_76), (8, .int v_66), (7, .int x7_43), (0, .ref (ad i0)), (1, .int a1), (2, .int a2), (3, .int a3), (4, .int a4), (5, .int a5)]) C0 hl rfl (by decide) (by decide) (fun _ => rfl) (o10_59 b_53 b_54 e_74 c_75 (le_min x6_44) (le_max x6_44) (le_min v_73) (le_max v_73)) (o10_60 b_53 b_54 e_74 c_75 (le_min x6_44) (le_max x6_44) (le_min v_73) (le_max v_73)) dX4_value_146 (fun v_76 ls e_77 hl => ?_)
            refine lv_aload_n C0.1 C0.2.1 dX4_value_149 rfl (lv_at hl 3 rfl) ?_
            refine tg_X4_stack C0 h hi0 q_168 dX4_value_150 ?_
            refine lv_iload C0.1 C0.2.1 dX4_value_153 (lv_at hl 0 rfl) ?_
            refine y_c1 (n := 1) C0 (by decide) dX4_value_155 (fun v_78 e_79 => ?_)
            refine y_sub C0 (o10_61 b_53 b_54 e_74 c_75 e_77 e_79 (le_min v_76) (le_max v_76) (le_min v_78) (le_max v_78) (le_min x6_44) (le_max x6_44) (le_min v_73) (le_max v_73)) (o10_62 b_53 b_54 e_74 c_75 e_77 e_79 (le_min v_76) (le_max v_76) (le_min v_78) (le_max v_78) (le_min x6_44) (le_max x6_44) (le_min v_73) (le_max v_73)) dX4_value_156 (fun v_80 e_81 => ?_)
            refine y_iald C0 h (rSC_2_2 hi0) rfl (by decide) (o10_63 b_53 b_54 e_74 c_75 e_77 e_79 e_81) (o10_64 b_53 b_54 e_74 c_75 e_77 e_79 e_81) dX4_value_157 (fun v_82 e_83 e_84 e_85 => ?_)
            refine y_i2l C0 dX4_value_158 (fun w_86 e_87 => ?_)
            refine lv_lstore (lv' := [(9, .long w_86), (6, .int v_76), (8, .int v_66), (7, .int x7_43), (0, .ref (ad i0)), (1, .int a1), (2, .int a2), (3, .int a3), (4, .int a4), (5, .int a5)]) C0.1 C0.2.1 dX4_value_159 hl (by decide) rfl (fun ls hl => ?_)
            refine lv_aload_n C0.1 C0.2.1 dX4_value_161 rfl (lv_at hl 4 rfl) ?_
            refine tg_X4_stack C0 h hi0 q_168 dX4_value_162 ?_
            refine lv_iload C0.1 C0.2.1 dX4_value_165 (lv_at hl 1 rfl) ?_
            refine y_iald C0 h (rSC_2_2 hi0) rfl (by decide) (o10_65 b_53 b_54 e_74 c_75 e_77 e_79 e_81) (o10_66 b_53 b_54 e_74 c_75 e_77 e_79 e_81) dX4_value_167 (fun v_88 e_89 e_90 e_91 => ?_)
            refine y_i2l C0 dX4_value_168 (fun w_92 e_93 => ?_)
            refine lv_lstore (lv' := [(11, .long w_92), (9, .long w_86), (6, .int v_76), (8, .int v_66), (7, .int x7_43), (0, .ref (ad i0)), (1, .int a1), (2, .int a2), (3, .int a3), (4, .int a4), (5, .int a5)]) C0.1 C0.2.1 dX4_value_169 hl (by decide) rfl (fun ls hl => ?_)
            refine lv_iload C0.1 C0.2.1 dX4_value_171 (lv_at hl 3 rfl) ?_
            replace HE : FT = g18s_X4_value R56 (xso SC ad ws_45) v_66.toInt i0 v_76.toInt x7_43.toInt w_86.toInt w_92.toInt := HE.trans (by rw [e_93, (xg1 e_89 : v_88.toInt = (xso SC ad ws_45) 1 (i0 + 2) v_76.toInt.toNat), e_87, (xg1 e_83 : v_82.toInt = (xso SC ad ws_45) 1 (i0 + 2) v_80.toInt.toNat), e_81, e_79, e_77]; rfl)
            by_cases sw_94 : v_66.toInt < 2000 ∨ 2006 < v_66.toInt
            · refine lv_tableOut (tgt := 310) C0.1 C0.2.1 dX4_value_173 sw_94 (by decide) ?_
              replace HE : FT = g19_X4_value R56 (xso SC ad ws_45) i0 v_76.toInt x7_43.toInt w_86.toInt w_92.toInt := HE.trans (if_pos sw_94)
              refine lv_lload C0.1 C0.2.1 dX4_value_310 (lv_at hl 1 rfl) ?_
              refine lv_lload C0.1 C0.2.1 dX4_value_312 (lv_at hl 0 rfl) ?_
              refine xr_lor C0 dX4_value_314 (fun w_95 e_96 => ?_)
              refine lv_lstore (lv' := [(13, .long w_95), (11, .long w_92), (9, .long w_86), (6, .int v_76), (8, .int v_66), (7, .int x7_43), (0, .ref (ad i0)), (1, .int a1), (2, .int a2), (3, .int a3), (4, .int a4), (5, .int a5)]) C0.1 C0.2.1 dX4_value_315 hl (by decide) rfl (fun ls hl => ?_)
              refine lv_aload_n C0.1 C0.2.1 dX4_value_317 rfl (lv_at hl 6 rfl) ?_
              refine tg_X4_stack C0 h hi0 q_168 dX4_value_318 ?_
              refine lv_iload C0.1 C0.2.1 dX4_value_321 (lv_at hl 3 rfl) ?_
              refine y_c1 (n := 1) C0 (by decide) dX4_value_323 (fun v_97 e_98 => ?_)
              refine y_sub C0 (o10_67 b_53 b_54 e_74 c_75 e_77 e_79 e_81 e_98 (le_min v_76) (le_max v_76) (le_min v_97) (le_max v_97) (le_min x6_44) (le_max x6_44) (le_min v_73) (le_max v_73) (le_min v_78) (le_max v_78) (le_min v_80) (le_max v_80)) (o10_68 b_53 b_54 e_74 c_75 e_77 e_79 e_81 e_98 (le_min v_76) (le_max v_76) (le_min v_97) (le_max v_97) (le_min x6_44) (le_max x6_44) (le_min v_73) (le_max v_73) (le_min v_78) (le_max v_78) (le_min v_80) (le_max v_80)) dX4_value_324 (fun v_99 e_100 => ?_)
              refine y_lc2 (n := (-1000000)) C0 q_938 (by decide) dX4_value_325 (fun w_101 e_102 => ?_)
              refine y_lc2 (n := 1000000) C0 q_939 (by decide) dX4_value_328 (fun w_103 e_104 => ?_)
              refine lv_lload C0.1 C0.2.1 dX4_value_331 (lv_at hl 0 rfl) ?_
              refine xr_mminL C0 hl.1 q_940 q_941 q_141 q_942 (Nat.le_of_ble_eq_true rfl) (Nat.le_of_ble_eq_true rfl) (Nat.le_of_ble_eq_true rfl) (Nat.le_of_ble_eq_true rfl) dX4_value_333 (fun w_105 e_106 => ?_)
              refine xr_mmaxL C0 hl.1 q_943 q_944 q_141 q_945 (Nat.le_of_ble_eq_true rfl) (Nat.le_of_ble_eq_true rfl) (Nat.le_of_ble_eq_true rfl) (Nat.le_of_ble_eq_true rfl) dX4_value_336 (fun w_107 e_108 => ?_)
              refine xr_l2i C0 dX4_value_339 (fun v_109 e_110 => ?_)
              have hO_113 := h.2
              refine y_iast C0 h (rSC_2_2 hi0) rfl (by decide) (o10_69 b_53 b_54 e_74 c_75 e_77 e_79 e_81 e_98 e_100) (o10_70 b_53 b_54 e_74 c_75 e_77 e_79 e_81 e_98 e_100) (le_min v_109) (le_max v_109) dX4_value_340 (fun H locs ws_111 h u_112 => ?_)
              replace HE : FT = g20w_X4_value R56 (xso SC ad ws_111) i0 v_76.toInt x7_43.toInt := HE.trans (by rw [(xso_A (i := i0 + 2) hO_113 h.2 (rSC_2_2 hi0) rfl u_112), e_110, e_108, e_106, e_96, e_104, e_102, e_100, e_98]; rfl)
              refine y_inc (kp := 5) (n := 1) (fun v_114 => [(7, .int v_114), (13, .long w_95), (11, .long w_92), (9, .long w_86), (6, .int v_76), (8, .int v_66), (0, .ref (ad i0)), (1, .int a1), (2, .int a2), (3, .int a3), (4, .int a4), (5, .int a5)]) C0 hl rfl (by decide) (by decide) (fun _ => rfl) (o10_71 b_51 b_52 hn_50 e_57 e_58 c_59 (le_min x7_43) (le_max x7_43) (le_min v_55) (le_max v_55)) (o10_72 b_51 b_52 hn_50 e_57 e_58 c_59 (le_min x7_43) (le_max x7_43) (le_min v_55) (le_max v_55)) dX4_value_341 (fun v_114 ls e_115 hl => ?_)
              refine lv_goto (tgt := 56) C0.1 C0.2.1 dX4_value_344 (by decide) ?_
              exact ih_48 v_114 v_76 _ _ _ _ (o10_73 b_51 b_52 hn_50 e_57 e_58 c_59 e_115) (o10_74 b_51 b_52 hn_50 e_57 e_58 c_59 e_115) (o10_75 b_51 b_52 hn_50 e_57 e_58 c_59 e_115) (o10_76 b_53 b_54 e_74 c_75 e_77 e_79 e_81 e_98 e_100) (o10_77 b_53 b_54 e_74 c_75 e_77 e_79 e_81 e_98 e_100) (((show FT = R56 (xso SC ad ws_111) i0 v_76.toInt v_114.toInt from HE.trans (by rw [e_115]; rfl)).trans (by rw [hR56]))) h (Fr.tr hF_46 (Fr.up u_112.1 (rSC_2_2 hi0) (by decide))) (lv_sub hl [0, 4, 6, 7, 8, 9, 10, 11] rfl)
            · obtain ⟨sw_941, sw_942⟩ := not_or.mp sw_94
              rcases (show v_66.toInt = 2000 ∨ v_66.toInt = 2001 ∨ v_66.toInt = 2002 ∨ v_66.toInt = 2003 ∨ v_66.toInt = 2004 ∨ v_66.toInt = 2005 ∨ v_66.toInt = 2006 by omega) with sw_944 | sw_944 | sw_944 | sw_944 | sw_944 | sw_944 | sw_944
              · refine lv_tableIn (off := 43) (tgt := 216) C0.1 C0.2.1 dX4_value_173 sw_941 sw_942 (by rw [sw_944]; rfl) (by decide) ?_
                replace HE : FT = g21_X4_value R56 (xso SC ad ws_45) i0 v_76.toInt x7_43.toInt w_86.toInt w_92.toInt := HE.trans ((if_neg (not_or.mpr ⟨sw_941, sw_942⟩)).trans (if_pos sw_944))
                refine lv_lload C0.1 C0.2.1 dX4_value_216 (lv_at hl 1 rfl) ?_
                refine lv_lload C0.1 C0.2.1 dX4_value_218 (lv_at hl 0 rfl) ?_
                refine xr_ladd C0 dX4_value_220 (fun w_116 e_117 => ?_)
                refine lv_lstore (lv' := [(13, .long w_116), (11, .long w_92), (9, .long w_86), (6, .int v_76), (8, .int v_66), (7, .int x7_43), (0, .ref (ad i0)), (1, .int a1), (2, .int a2), (3, .int a3), (4, .int a4), (5, .int a5)]) C0.1 C0.2.1 dX4_value_221 hl (by decide) rfl (fun ls hl => ?_)
                refine lv_goto (tgt := 317) C0.1 C0.2.1 dX4_value_223 (by decide) ?_
                refine lv_aload_n C0.1 C0.2.1 dX4_value_317 rfl (lv_at hl 6 rfl) ?_
                refine tg_X4_stack C0 h hi0 q_168 dX4_value_318 ?_
                refine lv_iload C0.1 C0.2.1 dX4_value_321 (lv_at hl 3 rfl) ?_
                refine y_c1 (n := 1) C0 (by decide) dX4_value_323 (fun v_118 e_119 => ?_)
                refine y_sub C0 (o10_67 b_53 b_54 e_74 c_75 e_77 e_79 e_81 e_119 (le_min v_76) (le_max v_76) (le_min v_118) (le_max v_118) (le_min x6_44) (le_max x6_44) (le_min v_73) (le_max v_73) (le_min v_78) (le_max v_78) (le_min v_80) (le_max v_80)) (o10_68 b_53 b_54 e_74 c_75 e_77 e_79 e_81 e_119 (le_min v_76) (le_max v_76) (le_min v_118) (le_max v_118) (le_min x6_44) (le_max x6_44) (le_min v_73) (le_max v_73) (le_min v_78) (le_max v_78) (le_min v_80) (le_max v_80)) dX4_value_324 (fun v_120 e_121 => ?_)
                refine y_lc2 (n := (-1000000)) C0 q_938 (by decide) dX4_value_325 (fun w_122 e_123 => ?_)
                refine y_lc2 (n := 1000000) C0 q_939 (by decide) dX4_value_328 (fun w_124 e_125 => ?_)
                refine lv_lload C0.1 C0.2.1 dX4_value_331 (lv_at hl 0 rfl) ?_
                refine xr_mminL C0 hl.1 q_940 q_941 q_141 q_942 (Nat.le_of_ble_eq_true rfl) (Nat.le_of_ble_eq_true rfl) (Nat.le_of_ble_eq_true rfl) (Nat.le_of_ble_eq_true rfl) dX4_value_333 (fun w_126 e_127 => ?_)
                refine xr_mmaxL C0 hl.1 q_943 q_944 q_141 q_945 (Nat.le_of_ble_eq_true rfl) (Nat.le_of_ble_eq_true rfl) (Nat.le_of_ble_eq_true rfl) (Nat.le_of_ble_eq_true rfl) dX4_value_336 (fun w_128 e_129 => ?_)
                refine xr_l2i C0 dX4_value_339 (fun v_130 e_131 => ?_)
                have hO_134 := h.2
                refine y_iast C0 h (rSC_2_2 hi0) rfl (by decide) (o10_69 b_53 b_54 e_74 c_75 e_77 e_79 e_81 e_119 e_121) (o10_70 b_53 b_54 e_74 c_75 e_77 e_79 e_81 e_119 e_121) (le_min v_130) (le_max v_130) dX4_value_340 (fun H locs ws_132 h u_133 => ?_)
                replace HE : FT = g22w_X4_value R56 (xso SC ad ws_132) i0 v_76.toInt x7_43.toInt := HE.trans (by rw [(xso_A (i := i0 + 2) hO_134 h.2 (rSC_2_2 hi0) rfl u_133), e_131, e_129, e_127, e_117, e_125, e_123, e_121, e_119]; rfl)
                refine y_inc (kp := 5) (n := 1) (fun v_135 => [(7, .int v_135), (13, .long w_116), (11, .long w_92), (9, .long w_86), (6, .int v_76), (8, .int v_66), (0, .ref (ad i0)), (1, .int a1), (2, .int a2), (3, .int a3), (4, .int a4), (5, .int a5)]) C0 hl rfl (by decide) (by decide) (fun _ => rfl) (o10_71 b_51 b_52 hn_50 e_57 e_58 c_59 (le_min x7_43) (le_max x7_43) (le_min v_55) (le_max v_55)) (o10_72 b_51 b_52 hn_50 e_57 e_58 c_59 (le_min x7_43) (le_max x7_43) (le_min v_55) (le_max v_55)) dX4_value_341 (fun v_135 ls e_136 hl => ?_)
                refine lv_goto (tgt := 56) C0.1 C0.2.1 dX4_value_344 (by decide) ?_
                exact ih_48 v_135 v_76 _ _ _ _ (o10_73 b_51 b_52 hn_50 e_57 e_58 c_59 e_136) (o10_74 b_51 b_52 hn_50 e_57 e_58 c_59 e_136) (o10_75 b_51 b_52 hn_50 e_57 e_58 c_59 e_136) (o10_76 b_53 b_54 e_74 c_75 e_77 e_79 e_81 e_119 e_121) (o10_77 b_53 b_54 e_74 c_75 e_77 e_79 e_81 e_119 e_121) (((show FT = R56 (xso SC ad ws_132) i0 v_76.toInt v_135.toInt from HE.trans (by rw [e_136]; rfl)).trans (by rw [hR56]))) h (Fr.tr hF_46 (Fr.up u_133.1 (rSC_2_2 hi0) (by decide))) (lv_sub hl [0, 4, 6, 7, 8, 9, 10, 11] rfl)
              · refine lv_tableIn (off := 53) (tgt := 226) C0.1 C0.2.1 dX4_value_173 sw_941 sw_942 (by rw [sw_944]; rfl) (by decide) ?_
                replace HE : FT = g23_X4_value R56 (xso SC ad ws_45) i0 v_76.toInt x7_43.toInt w_86.toInt w_92.toInt := HE.trans ((if_neg (not_or.mpr ⟨sw_941, sw_942⟩)).trans ((if_neg (fun q => absurd (sw_944.symm.trans q) (by decide))).trans (if_pos sw_944)))
                refine lv_lload C0.1 C0.2.1 dX4_value_226 (lv_at hl 1 rfl) ?_
                refine lv_lload C0.1 C0.2.1 dX4_value_228 (lv_at hl 0 rfl) ?_
                refine xr_lsub C0 dX4_value_230 (fun w_137 e_138 => ?_)
                refine lv_lstore (lv' := [(13, .long w_137), (11, .long w_92), (9, .long w_86), (6, .int v_76), (8, .int v_66), (7, .int x7_43), (0, .ref (ad i0)), (1, .int a1), (2, .int a2), (3, .int a3), (4, .int a4), (5, .int a5)]) C0.1 C0.2.1 dX4_value_231 hl (by decide) rfl (fun ls hl => ?_)
                refine lv_goto (tgt := 317) C0.1 C0.2.1 dX4_value_233 (by decide) ?_
                refine lv_aload_n C0.1 C0.2.1 dX4_value_317 rfl (lv_at hl 6 rfl) ?_
                refine tg_X4_stack C0 h hi0 q_168 dX4_value_318 ?_
                refine lv_iload C0.1 C0.2.1 dX4_value_321 (lv_at hl 3 rfl) ?_
                refine y_c1 (n := 1) C0 (by decide) dX4_value_323 (fun v_139 e_140 => ?_)
                refine y_sub C0 (o10_67 b_53 b_54 e_74 c_75 e_77 e_79 e_81 e_140 (le_min v_76) (le_max v_76) (le_min v_139) (le_max v_139) (le_min x6_44) (le_max x6_44) (le_min v_73) (le_max v_73) (le_min v_78) (le_max v_78) (le_min v_80) (le_max v_80)) (o10_68 b_53 b_54 e_74 c_75 e_77 e_79 e_81 e_140 (le_min v_76) (le_max v_76) (le_min v_139) (le_max v_139) (le_min x6_44) (le_max x6_44) (le_min v_73) (le_max v_73) (le_min v_78) (le_max v_78) (le_min v_80) (le_max v_80)) dX4_value_324 (fun v_141 e_142 => ?_)
                refine y_lc2 (n := (-1000000)) C0 q_938 (by decide) dX4_value_325 (fun w_143 e_144 => ?_)
                refine y_lc2 (n := 1000000) C0 q_939 (by decide) dX4_value_328 (fun w_145 e_146 => ?_)
                refine lv_lload C0.1 C0.2.1 dX4_value_331 (lv_at hl 0 rfl) ?_
                refine xr_mminL C0 hl.1 q_940 q_941 q_141 q_942 (Nat.le_of_ble_eq_true rfl) (Nat.le_of_ble_eq_true rfl) (Nat.le_of_ble_eq_true rfl) (Nat.le_of_ble_eq_true rfl) dX4_value_333 (fun w_147 e_148 => ?_)
                refine xr_mmaxL C0 hl.1 q_943 q_944 q_141 q_945 (Nat.le_of_ble_eq_true rfl) (Nat.le_of_ble_eq_true rfl) (Nat.le_of_ble_eq_true rfl) (Nat.le_of_ble_eq_true rfl) dX4_value_336 (fun w_149 e_150 => ?_)
                refine xr_l2i C0 dX4_value_339 (fun v_151 e_152 => ?_)
                have hO_155 := h.2
                refine y_iast C0 h (rSC_2_2 hi0) rfl (by decide) (o10_69 b_53 b_54 e_74 c_75 e_77 e_79 e_81 e_140 e_142) (o10_70 b_53 b_54 e_74 c_75 e_77 e_79 e_81 e_140 e_142) (le_min v_151) (le_max v_151) dX4_value_340 (fun H locs ws_153 h u_154 => ?_)
                replace HE : FT = g24w_X4_value R56 (xso SC ad ws_153) i0 v_76.toInt x7_43.toInt := HE.trans (by rw [(xso_A (i := i0 + 2) hO_155 h.2 (rSC_2_2 hi0) rfl u_154), e_152, e_150, e_148, e_138, e_146, e_144, e_142, e_140]; rfl)
                refine y_inc (kp := 5) (n := 1) (fun v_156 => [(7, .int v_156), (13, .long w_137), (11, .long w_92), (9, .long w_86), (6, .int v_76), (8, .int v_66), (0, .ref (ad i0)), (1, .int a1), (2, .int a2), (3, .int a3), (4, .int a4), (5, .int a5)]) C0 hl rfl (by decide) (by decide) (fun _ => rfl) (o10_71 b_51 b_52 hn_50 e_57 e_58 c_59 (le_min x7_43) (le_max x7_43) (le_min v_55) (le_max v_55)) (o10_72 b_51 b_52 hn_50 e_57 e_58 c_59 (le_min x7_43) (le_max x7_43) (le_min v_55) (le_max v_55)) dX4_value_341 (fun v_156 ls e_157 hl => ?_)
                refine lv_goto (tgt := 56) C0.1 C0.2.1 dX4_value_344 (by decide) ?_
                exact ih_48 v_156 v_76 _ _ _ _ (o10_73 b_51 b_52 hn_50 e_57 e_58 c_59 e_157) (o10_74 b_51 b_52 hn_50 e_57 e_58 c_59 e_157) (o10_75 b_51 b_52 hn_50 e_57 e_58 c_59 e_157) (o10_76 b_53 b_54 e_74 c_75 e_77 e_79 e_81 e_140 e_142) (o10_77 b_53 b_54 e_74 c_75 e_77 e_79 e_81 e_140 e_142) (((show FT = R56 (xso SC ad ws_153) i0 v_76.toInt v_156.toInt from HE.trans (by rw [e_157]; rfl)).trans (by rw [hR56]))) h (Fr.tr hF_46 (Fr.up u_154.1 (rSC_2_2 hi0) (by decide))) (lv_sub hl [0, 4, 6, 7, 8, 9, 10, 11] rfl)
              · refine lv_tableIn (off := 63) (tgt := 236) C0.1 C0.2.1 dX4_value_173 sw_941 sw_942 (by rw [sw_944]; rfl) (by decide) ?_
                replace HE : FT = g25_X4_value R56 (xso SC ad ws_45) i0 v_76.toInt x7_43.toInt w_86.toInt w_92.toInt := HE.trans ((if_neg (not_or.mpr ⟨sw_941, sw_942⟩)).trans ((if_neg (fun q => absurd (sw_944.symm.trans q) (by decide))).trans ((if_neg (fun q => absurd (sw_944.symm.trans q) (by decide))).trans (if_pos sw_944))))
                refine lv_lload C0.1 C0.2.1 dX4_value_236 (lv_at hl 1 rfl) ?_
                refine lv_lload C0.1 C0.2.1 dX4_value_238 (lv_at hl 0 rfl) ?_
                refine xr_lmul C0 dX4_value_240 (fun w_158 e_159 => ?_)
                refine lv_lstore (lv' := [(13, .long w_158), (11, .long w_92), (9, .long w_86), (6, .int v_76), (8, .int v_66), (7, .int x7_43), (0, .ref (ad i0)), (1, .int a1), (2, .int a2), (3, .int a3), (4, .int a4), (5, .int a5)]) C0.1 C0.2.1 dX4_value_241 hl (by decide) rfl (fun ls hl => ?_)
                refine lv_goto (tgt := 317) C0.1 C0.2.1 dX4_value_243 (by decide) ?_
                refine lv_aload_n C0.1 C0.2.1 dX4_value_317 rfl (lv_at hl 6 rfl) ?_
                refine tg_X4_stack C0 h hi0 q_168 dX4_value_318 ?_
                refine lv_iload C0.1 C0.2.1 dX4_value_321 (lv_at hl 3 rfl) ?_
                refine y_c1 (n := 1) C0 (by decide) dX4_value_323 (fun v_160 e_161 => ?_)
                refine y_sub C0 (o10_67 b_53 b_54 e_74 c_75 e_77 e_79 e_81 e_161 (le_min v_76) (le_max v_76) (le_min v_160) (le_max v_160) (le_min x6_44) (le_max x6_44) (le_min v_73) (le_max v_73) (le_min v_78) (le_max v_78) (le_min v_80) (le_max v_80)) (o10_68 b_53 b_54 e_74 c_75 e_77 e_79 e_81 e_161 (le_min v_76) (le_max v_76) (le_min v_160) (le_max v_160) (le_min x6_44) (le_max x6_44) (le_min v_73) (le_max v_73) (le_min v_78) (le_max v_78) (le_min v_80) (le_max v_80)) dX4_value_324 (fun v_162 e_163 => ?_)
                refine y_lc2 (n := (-1000000)) C0 q_938 (by decide) dX4_value_325 (fun w_164 e_165 => ?_)
                refine y_lc2 (n := 1000000) C0 q_939 (by decide) dX4_value_328 (fun w_166 e_167 => ?_)
                refine lv_lload C0.1 C0.2.1 dX4_value_331 (lv_at hl 0 rfl) ?_
                refine xr_mminL C0 hl.1 q_940 q_941 q_141 q_942 (Nat.le_of_ble_eq_true rfl) (Nat.le_of_ble_eq_true rfl) (Nat.le_of_ble_eq_true rfl) (Nat.le_of_ble_eq_true rfl) dX4_value_333 (fun w_168 e_169 => ?_)
                refine xr_mmaxL C0 hl.1 q_943 q_944 q_141 q_945 (Nat.le_of_ble_eq_true rfl) (Nat.le_of_ble_eq_true rfl) (Nat.le_of_ble_eq_true rfl) (Nat.le_of_ble_eq_true rfl) dX4_value_336 (fun w_170 e_171 => ?_)
                refine xr_l2i C0 dX4_value_339 (fun v_172 e_173 => ?_)
                have hO_176 := h.2
                refine y_iast C0 h (rSC_2_2 hi0) rfl (by decide) (o10_69 b_53 b_54 e_74 c_75 e_77 e_79 e_81 e_161 e_163) (o10_70 b_53 b_54 e_74 c_75 e_77 e_79 e_81 e_161 e_163) (le_min v_172) (le_max v_172) dX4_value_340 (fun H locs ws_174 h u_175 => ?_)
                replace HE : FT = g26w_X4_value R56 (xso SC ad ws_174) i0 v_76.toInt x7_43.toInt := HE.trans (by rw [(xso_A (i := i0 + 2) hO_176 h.2 (rSC_2_2 hi0) rfl u_175), e_173, e_171, e_169, e_159, e_167, e_165, e_163, e_161]; rfl)
                refine y_inc (kp := 5) (n := 1) (fun v_177 => [(7, .int v_177), (13, .long w_158), (11, .long w_92), (9, .long w_86), (6, .int v_76), (8, .int v_66), (0, .ref (ad i0)), (1, .int a1), (2, .int a2), (3, .int a3), (4, .int a4), (5, .int a5)]) C0 hl rfl (by decide) (by decide) (fun _ => rfl) (o10_71 b_51 b_52 hn_50 e_57 e_58 c_59 (le_min x7_43) (le_max x7_43) (le_min v_55) (le_max v_55)) (o10_72 b_51 b_52 hn_50 e_57 e_58 c_59 (le_min x7_43) (le_max x7_43) (le_min v_55) (le_max v_55)) dX4_value_341 (fun v_177 ls e_178 hl => ?_)
                refine lv_goto (tgt := 56) C0.1 C0.2.1 dX4_value_344 (by decide) ?_
                exact ih_48 v_177 v_76 _ _ _ _ (o10_73 b_51 b_52 hn_50 e_57 e_58 c_59 e_178) (o10_74 b_51 b_52 hn_50 e_57 e_58 c_59 e_178) (o10_75 b_51 b_52 hn_50 e_57 e_58 c_59 e_178) (o10_76 b_53 b_54 e_74 c_75 e_77 e_79 e_81 e_161 e_163) (o10_77 b_53 b_54 e_74 c_75 e_77 e_79 e_81 e_161 e_163) (((show FT = R56 (xso SC ad ws_174) i0 v_76.toInt v_177.toInt from HE.trans (by rw [e_178]; rfl)).trans (by rw [hR56]))) h (Fr.tr hF_46 (Fr.up u_175.1 (rSC_2_2 hi0) (by decide))) (lv_sub hl [0, 4, 6, 7, 8, 9, 10, 11] rfl)
              · refine lv_tableIn (off := 73) (tgt := 246) C0.1 C0.2.1 dX4_value_173 sw_941 sw_942 (by rw [sw_944]; rfl) (by decide) ?_
                replace HE : FT = g27_X4_value R56 (xso SC ad ws_45) i0 v_76.toInt x7_43.toInt w_86.toInt w_92.toInt := HE.trans ((if_neg (not_or.mpr ⟨sw_941, sw_942⟩)).trans ((if_neg (fun q => absurd (sw_944.symm.trans q) (by decide))).trans ((if_neg (fun q => absurd (sw_944.symm.trans q) (by decide))).trans ((if_neg (fun q => absurd (sw_944.symm.trans q) (by decide))).trans (if_pos sw_944)))))
                refine lv_lload C0.1 C0.2.1 dX4_value_246 (lv_at hl 1 rfl) ?_
                refine lv_lload C0.1 C0.2.1 dX4_value_248 (lv_at hl 0 rfl) ?_
                refine y_lcmp C0 dX4_value_250 (fun v_179 e_180 => ?_)
                replace HE : FT = g28b_X4_value R56 (xso SC ad ws_45) v_179.toInt i0 v_76.toInt x7_43.toInt := HE.trans (by rw [(ix_cmp e_180)]; rfl)
                refine y_if_ne (tgt := 258) C0 dX4_value_251 (by decide) (fun c_181 => ?_) (fun c_181 => ?_)
                · -- 251
                  replace HE : FT = g29_X4_value R56 (xso SC ad ws_45) i0 v_76.toInt x7_43.toInt := HE.trans (if_neg c_181)
                  refine y_lc (v := 0) C0 (by decide) dX4_value_258 (fun w_182 e_183 => ?_)
                  refine lv_lstore (lv' := [(13, .long w_182), (11, .long w_92), (9, .long w_86), (6, .int v_76), (8, .int v_66), (7, .int x7_43), (0, .ref (ad i0)), (1, .int a1), (2, .int a2), (3, .int a3), (4, .int a4), (5, .int a5)]) C0.1 C0.2.1 dX4_value_259 hl (by decide) rfl (fun ls hl => ?_)
                  refine lv_goto (tgt := 317) C0.1 C0.2.1 dX4_value_261 (by decide) ?_
                  refine lv_aload_n C0.1 C0.2.1 dX4_value_317 rfl (lv_at hl 6 rfl) ?_
                  refine tg_X4_stack C0 h hi0 q_168 dX4_value_318 ?_
                  refine lv_iload C0.1 C0.2.1 dX4_value_321 (lv_at hl 3 rfl) ?_
                  refine y_c1 (n := 1) C0 (by decide) dX4_value_323 (fun v_184 e_185 => ?_)
                  refine y_sub C0 (o10_67 b_53 b_54 e_74 c_75 e_77 e_79 e_81 e_185 (le_min v_76) (le_max v_76) (le_min v_184) (le_max v_184) (le_min x6_44) (le_max x6_44) (le_min v_73) (le_max v_73) (le_min v_78) (le_max v_78) (le_min v_80) (le_max v_80)) (o10_68 b_53 b_54 e_74 c_75 e_77 e_79 e_81 e_185 (le_min v_76) (le_max v_76) (le_min v_184) (le_max v_184) (le_min x6_44) (le_max x6_44) (le_min v_73) (le_max v_73) (le_min v_78) (le_max v_78) (le_min v_80) (le_max v_80)) dX4_value_324 (fun v_186 e_187 => ?_)
                  refine y_lc2 (n := (-1000000)) C0 q_938 (by decide) dX4_value_325 (fun w_188 e_189 => ?_)
                  refine y_lc2 (n := 1000000) C0 q_939 (by decide) dX4_value_328 (fun w_190 e_191 => ?_)
                  refine lv_lload C0.1 C0.2.1 dX4_value_331 (lv_at hl 0 rfl) ?_
                  refine xr_mminL C0 hl.1 q_940 q_941 q_141 q_942 (Nat.le_of_ble_eq_true rfl) (Nat.le_of_ble_eq_true rfl) (Nat.le_of_ble_eq_true rfl) (Nat.le_of_ble_eq_true rfl) dX4_value_333 (fun w_192 e_193 => ?_)
                  refine xr_mmaxL C0 hl.1 q_943 q_944 q_141 q_945 (Nat.le_of_ble_eq_true rfl) (Nat.le_of_ble_eq_true rfl) (Nat.le_of_ble_eq_true rfl) (Nat.le_of_ble_eq_true rfl) dX4_value_336 (fun w_194 e_195 => ?_)
                  refine xr_l2i C0 dX4_value_339 (fun v_196 e_197 => ?_)
                  have hO_200 := h.2
                  refine y_iast C0 h (rSC_2_2 hi0) rfl (by decide) (o10_69 b_53 b_54 e_74 c_75 e_77 e_79 e_81 e_185 e_187) (o10_70 b_53 b_54 e_74 c_75 e_77 e_79 e_81 e_185 e_187) (le_min v_196) (le_max v_196) dX4_value_340 (fun H locs ws_198 h u_199 => ?_)
                  replace HE : FT = g31w_X4_value R56 (xso SC ad ws_198) i0 v_76.toInt x7_43.toInt := HE.trans (by rw [(xso_A (i := i0 + 2) hO_200 h.2 (rSC_2_2 hi0) rfl u_199), e_197, e_195, e_193, e_183, e_191, e_189, e_187, e_185]; rfl)
                  refine y_inc (kp := 5) (n := 1) (fun v_201 => [(7, .int v_201), (13, .long w_182), (11, .long w_92), (9, .long w_86), (6, .int v_76), (8, .int v_66), (0, .ref (ad i0)), (1, .int a1), (2, .int a2), (3, .int a3), (4, .int a4), (5, .int a5)]) C0 hl rfl (by decide) (by decide) (fun _ => rfl) (o10_71 b_51 b_52 hn_50 e_57 e_58 c_59 (le_min x7_43) (le_max x7_43) (le_min v_55) (le_max v_55)) (o10_72 b_51 b_52 hn_50 e_57 e_58 c_59 (le_min x7_43) (le_max x7_43) (le_min v_55) (le_max v_55)) dX4_value_341 (fun v_201 ls e_202 hl => ?_)
                  refine lv_goto (tgt := 56) C0.1 C0.2.1 dX4_value_344 (by decide) ?_
                  exact ih_48 v_201 v_76 _ _ _ _ (o10_73 b_51 b_52 hn_50 e_57 e_58 c_59 e_202) (o10_74 b_51 b_52 hn_50 e_57 e_58 c_59 e_202) (o10_75 b_51 b_52 hn_50 e_57 e_58 c_59 e_202) (o10_76 b_53 b_54 e_74 c_75 e_77 e_79 e_81 e_185 e_187) (o10_77 b_53 b_54 e_74 c_75 e_77 e_79 e_81 e_185 e_187) (((show FT = R56 (xso SC ad ws_198) i0 v_76.toInt v_201.toInt from HE.trans (by rw [e_202]; rfl)).trans (by rw [hR56]))) h (Fr.tr hF_46 (Fr.up u_199.1 (rSC_2_2 hi0) (by decide))) (lv_sub hl [0, 4, 6, 7, 8, 9, 10, 11] rfl)
                · -- 251
                  replace HE : FT = g30_X4_value R56 (xso SC ad ws_45) i0 v_76.toInt x7_43.toInt := HE.trans (if_pos c_181)
                  refine y_lc (v := 1) C0 (by decide) dX4_value_254 (fun w_203 e_204 => ?_)
                  refine lv_goto (tgt := 259) C0.1 C0.2.1 dX4_value_255 (by decide) ?_
                  refine lv_lstore (lv' := [(13, .long w_203), (11, .long w_92), (9, .long w_86), (6, .int v_76), (8, .int v_66), (7, .int x7_43), (0, .ref (ad i0)), (1, .int a1), (2, .int a2), (3, .int a3), (4, .int a4), (5, .int a5)]) C0.1 C0.2.1 dX4_value_259 hl (by decide) rfl (fun ls hl => ?_)
                  refine lv_goto (tgt := 317) C0.1 C0.2.1 dX4_value_261 (by decide) ?_
                  refine lv_aload_n C0.1 C0.2.1 dX4_value_317 rfl (lv_at hl 6 rfl) ?_
                  refine tg_X4_stack C0 h hi0 q_168 dX4_value_318 ?_
                  refine lv_iload C0.1 C0.2.1 dX4_value_321 (lv_at hl 3 rfl) ?_
                  refine y_c1 (n := 1) C0 (by decide) dX4_value_323 (fun v_205 e_206 => ?_)
                  refine y_sub C0 (o10_67 b_53 b_54 e_74 c_75 e_77 e_79 e_81 e_206 (le_min v_76) (le_max v_76) (le_min v_205) (le_max v_205) (le_min x6_44) (le_max x6_44) (le_min v_73) (le_max v_73) (le_min v_78) (le_max v_78) (le_min v_80) (le_max v_80)) (o10_68 b_53 b_54 e_74 c_75 e_77 e_79 e_81 e_206 (le_min v_76) (le_max v_76) (le_min v_205) (le_max v_205) (le_min x6_44) (le_max x6_44) (le_min v_73) (le_max v_73) (le_min v_78) (le_max v_78) (le_min v_80) (le_max v_80)) dX4_value_324 (fun v_207 e_208 => ?_)
                  refine y_lc2 (n := (-1000000)) C0 q_938 (by decide) dX4_value_325 (fun w_209 e_210 => ?_)
                  refine y_lc2 (n := 1000000) C0 q_939 (by decide) dX4_value_328 (fun w_211 e_212 => ?_)
                  refine lv_lload C0.1 C0.2.1 dX4_value_331 (lv_at hl 0 rfl) ?_
                  refine xr_mminL C0 hl.1 q_940 q_941 q_141 q_942 (Nat.le_of_ble_eq_true rfl) (Nat.le_of_ble_eq_true rfl) (Nat.le_of_ble_eq_true rfl) (Nat.le_of_ble_eq_true rfl) dX4_value_333 (fun w_213 e_214 => ?_)
                  refine xr_mmaxL C0 hl.1 q_943 q_944 q_141 q_945 (Nat.le_of_ble_eq_true rfl) (Nat.le_of_ble_eq_true rfl) (Nat.le_of_ble_eq_true rfl) (Nat.le_of_ble_eq_true rfl) dX4_value_336 (fun w_215 e_216 => ?_)
                  refine xr_l2i C0 dX4_value_339 (fun v_217 e_218 => ?_)
                  have hO_221 := h.2
                  refine y_iast C0 h (rSC_2_2 hi0) rfl (by decide) (o10_69 b_53 b_54 e_74 c_75 e_77 e_79 e_81 e_206 e_208) (o10_70 b_53 b_54 e_74 c_75 e_77 e_79 e_81 e_206 e_208) (le_min v_217) (le_max v_217) dX4_value_340 (fun H locs ws_219 h u_220 => ?_)
                  replace HE : FT = g32w_X4_value R56 (xso SC ad ws_219) i0 v_76.toInt x7_43.toInt := HE.trans (by rw [(xso_A (i := i0 + 2) hO_221 h.2 (rSC_2_2 hi0) rfl u_220), e_218, e_216, e_214, e_204, e_212, e_210, e_208, e_206]; rfl)
                  refine y_inc (kp := 5) (n := 1) (fun v_222 => [(7, .int v_222), (13, .long w_203), (11, .long w_92), (9, .long w_86), (6, .int v_76), (8, .int v_66), (0, .ref (ad i0)), (1, .int a1), (2, .int a2), (3, .int a3), (4, .int a4), (5, .int a5)]) C0 hl rfl (by decide) (by decide) (fun _ => rfl) (o10_71 b_51 b_52 hn_50 e_57 e_58 c_59 (le_min x7_43) (le_max x7_43) (le_min v_55) (le_max v_55)) (o10_72 b_51 b_52 hn_50 e_57 e_58 c_59 (le_min x7_43) (le_max x7_43) (le_min v_55) (le_max v_55)) dX4_value_341 (fun v_222 ls e_223 hl => ?_)
                  refine lv_goto (tgt := 56) C0.1 C0.2.1 dX4_value_344 (by decide) ?_
                  exact ih_48 v_222 v_76 _ _ _ _ (o10_73 b_51 b_52 hn_50 e_57 e_58 c_59 e_223) (o10_74 b_51 b_52 hn_50 e_57 e_58 c_59 e_223) (o10_75 b_51 b_52 hn_50 e_57 e_58 c_59 e_223) (o10_76 b_53 b_54 e_74 c_75 e_77 e_79 e_81 e_206 e_208) (o10_77 b_53 b_54 e_74 c_75 e_77 e_79 e_81 e_206 e_208) (((show FT = R56 (xso SC ad ws_219) i0 v_76.toInt v_222.toInt from HE.trans (by rw [e_223]; rfl)).trans (by rw [hR56]))) h (Fr.tr hF_46 (Fr.up u_220.1 (rSC_2_2 hi0) (by decide))) (lv_sub hl [0, 4, 6, 7, 8, 9, 10, 11] rfl)
              · refine lv_tableIn (off := 91) (tgt := 264) C0.1 C0.2.1 dX4_value_173 sw_941 sw_942 (by rw [sw_944]; rfl) (by decide) ?_
                replace HE : FT = g33_X4_value R56 (xso SC ad ws_45) i0 v_76.toInt x7_43.toInt w_86.toInt w_92.toInt := HE.trans ((if_neg (not_or.mpr ⟨sw_941, sw_942⟩)).trans ((if_neg (fun q => absurd (sw_944.symm.trans q) (by decide))).trans ((if_neg (fun q => absurd (sw_944.symm.trans q) (by decide))).trans ((if_neg (fun q => absurd (sw_944.symm.trans q) (by decide))).trans ((if_neg (fun q => absurd (sw_944.symm.trans q) (by decide))).trans (if_pos sw_944))))))
                refine lv_lload C0.1 C0.2.1 dX4_value_264 (lv_at hl 1 rfl) ?_
                refine lv_lload C0.1 C0.2.1 dX4_value_266 (lv_at hl 0 rfl) ?_
                refine y_lcmp C0 dX4_value_268 (fun v_224 e_225 => ?_)
                replace HE : FT = g34b_X4_value R56 (xso SC ad ws_45) v_224.toInt i0 v_76.toInt x7_43.toInt := HE.trans (by rw [(ix_cmp e_225)]; rfl)
                refine y_if_ge (tgt := 276) C0 dX4_value_269 (by decide) (fun c_226 => ?_) (fun c_226 => ?_)
                · -- 269
                  replace HE : FT = g35_X4_value R56 (xso SC ad ws_45) i0 v_76.toInt x7_43.toInt := HE.trans (if_neg (Int.not_lt.mpr c_226))
                  refine y_lc (v := 0) C0 (by decide) dX4_value_276 (fun w_227 e_228 => ?_)
                  refine lv_lstore (lv' := [(13, .long w_227), (11, .long w_92), (9, .long w_86), (6, .int v_76), (8, .int v_66), (7, .int x7_43), (0, .ref (ad i0)), (1, .int a1), (2, .int a2), (3, .int a3), (4, .int a4), (5, .int a5)]) C0.1 C0.2.1 dX4_value_277 hl (by decide) rfl (fun ls hl => ?_)
                  refine lv_goto (tgt := 317) C0.1 C0.2.1 dX4_value_279 (by decide) ?_
                  refine lv_aload_n C0.1 C0.2.1 dX4_value_317 rfl (lv_at hl 6 rfl) ?_
                  refine tg_X4_stack C0 h hi0 q_168 dX4_value_318 ?_
                  refine lv_iload C0.1 C0.2.1 dX4_value_321 (lv_at hl 3 rfl) ?_
                  refine y_c1 (n := 1) C0 (by decide) dX4_value_323 (fun v_229 e_230 => ?_)
                  refine y_sub C0 (o10_67 b_53 b_54 e_74 c_75 e_77 e_79 e_81 e_230 (le_min v_76) (le_max v_76) (le_min v_229) (le_max v_229) (le_min x6_44) (le_max x6_44) (le_min v_73) (le_max v_73) (le_min v_78) (le_max v_78) (le_min v_80) (le_max v_80)) (o10_68 b_53 b_54 e_74 c_75 e_77 e_79 e_81 e_230 (le_min v_76) (le_max v_76) (le_min v_229) (le_max v_229) (le_min x6_44) (le_max x6_44) (le_min v_73) (le_max v_73) (le_min v_78) (le_max v_78) (le_min v_80) (le_max v_80)) dX4_value_324 (fun v_231 e_232 => ?_)
                  refine y_lc2 (n := (-1000000)) C0 q_938 (by decide) dX4_value_325 (fun w_233 e_234 => ?_)
                  refine y_lc2 (n := 1000000) C0 q_939 (by decide) dX4_value_328 (fun w_235 e_236 => ?_)
                  refine lv_lload C0.1 C0.2.1 dX4_value_331 (lv_at hl 0 rfl) ?_
                  refine xr_mminL C0 hl.1 q_940 q_941 q_141 q_942 (Nat.le_of_ble_eq_true rfl) (Nat.le_of_ble_eq_true rfl) (Nat.le_of_ble_eq_true rfl) (Nat.le_of_ble_eq_true rfl) dX4_value_333 (fun w_237 e_238 => ?_)
                  refine xr_mmaxL C0 hl.1 q_943 q_944 q_141 q_945 (Nat.le_of_ble_eq_true rfl) (Nat.le_of_ble_eq_true rfl) (Nat.le_of_ble_eq_true rfl) (Nat.le_of_ble_eq_true rfl) dX4_value_336 (fun w_239 e_240 => ?_)
                  refine xr_l2i C0 dX4_value_339 (fun v_241 e_242 => ?_)
                  have hO_245 := h.2
                  refine y_iast C0 h (rSC_2_2 hi0) rfl (by decide) (o10_69 b_53 b_54 e_74 c_75 e_77 e_79 e_81 e_230 e_232) (o10_70 b_53 b_54 e_74 c_75 e_77 e_79 e_81 e_230 e_232) (le_min v_241) (le_max v_241) dX4_value_340 (fun H locs ws_243 h u_244 => ?_)
                  replace HE : FT = g37w_X4_value R56 (xso SC ad ws_243) i0 v_76.toInt x7_43.toInt := HE.trans (by rw [(xso_A (i := i0 + 2) hO_245 h.2 (rSC_2_2 hi0) rfl u_244), e_242, e_240, e_238, e_228, e_236, e_234, e_232, e_230]; rfl)
                  refine y_inc (kp := 5) (n := 1) (fun v_246 => [(7, .int v_246), (13, .long w_227), (11, .long w_92), (9, .long w_86), (6, .int v_76), (8, .int v_66), (0, .ref (ad i0)), (1, .int a1), (2, .int a2), (3, .int a3), (4, .int a4), (5, .int a5)]) C0 hl rfl (by decide) (by decide) (fun _ => rfl) (o10_71 b_51 b_52 hn_50 e_57 e_58 c_59 (le_min x7_43) (le_max x7_43) (le_min v_55) (le_max v_55)) (o10_72 b_51 b_52 hn_50 e_57 e_58 c_59 (le_min x7_43) (le_max x7_43) (le_min v_55) (le_max v_55)) dX4_value_341 (fun v_246 ls e_247 hl => ?_)
                  refine lv_goto (tgt := 56) C0.1 C0.2.1 dX4_value_344 (by decide) ?_
                  exact ih_48 v_246 v_76 _ _ _ _ (o10_73 b_51 b_52 hn_50 e_57 e_58 c_59 e_247) (o10_74 b_51 b_52 hn_50 e_57 e_58 c_59 e_247) (o10_75 b_51 b_52 hn_50 e_57 e_58 c_59 e_247) (o10_76 b_53 b_54 e_74 c_75 e_77 e_79 e_81 e_230 e_232) (o10_77 b_53 b_54 e_74 c_75 e_77 e_79 e_81 e_230 e_232) (((show FT = R56 (xso SC ad ws_243) i0 v_76.toInt v_246.toInt from HE.trans (by rw [e_247]; rfl)).trans (by rw [hR56]))) h (Fr.tr hF_46 (Fr.up u_244.1 (rSC_2_2 hi0) (by decide))) (lv_sub hl [0, 4, 6, 7, 8, 9, 10, 11] rfl)
                · -- 269
                  replace HE : FT = g36_X4_value R56 (xso SC ad ws_45) i0 v_76.toInt x7_43.toInt := HE.trans (if_pos c_226)
                  refine y_lc (v := 1) C0 (by decide) dX4_value_272 (fun w_248 e_249 => ?_)
                  refine lv_goto (tgt := 277) C0.1 C0.2.1 dX4_value_273 (by decide) ?_
                  refine lv_lstore (lv' := [(13, .long w_248), (11, .long w_92), (9, .long w_86), (6, .int v_76), (8, .int v_66), (7, .int x7_43), (0, .ref (ad i0)), (1, .int a1), (2, .int a2), (3, .int a3), (4, .int a4), (5, .int a5)]) C0.1 C0.2.1 dX4_value_277 hl (by decide) rfl (fun ls hl => ?_)
                  refine lv_goto (tgt := 317) C0.1 C0.2.1 dX4_value_279 (by decide) ?_
                  refine lv_aload_n C0.1 C0.2.1 dX4_value_317 rfl (lv_at hl 6 rfl) ?_
                  refine tg_X4_stack C0 h hi0 q_168 dX4_value_318 ?_
                  refine lv_iload C0.1 C0.2.1 dX4_value_321 (lv_at hl 3 rfl) ?_
                  refine y_c1 (n := 1) C0 (by decide) dX4_value_323 (fun v_250 e_251 => ?_)
                  refine y_sub C0 (o10_67 b_53 b_54 e_74 c_75 e_77 e_79 e_81 e_251 (le_min v_76) (le_max v_76) (le_min v_250) (le_max v_250) (le_min x6_44) (le_max x6_44) (le_min v_73) (le_max v_73) (le_min v_78) (le_max v_78) (le_min v_80) (le_max v_80)) (o10_68 b_53 b_54 e_74 c_75 e_77 e_79 e_81 e_251 (le_min v_76) (le_max v_76) (le_min v_250) (le_max v_250) (le_min x6_44) (le_max x6_44) (le_min v_73) (le_max v_73) (le_min v_78) (le_max v_78) (le_min v_80) (le_max v_80)) dX4_value_324 (fun v_252 e_253 => ?_)
                  refine y_lc2 (n := (-1000000)) C0 q_938 (by decide) dX4_value_325 (fun w_254 e_255 => ?_)
                  refine y_lc2 (n := 1000000) C0 q_939 (by decide) dX4_value_328 (fun w_256 e_257 => ?_)
                  refine lv_lload C0.1 C0.2.1 dX4_value_331 (lv_at hl 0 rfl) ?_
                  refine xr_mminL C0 hl.1 q_940 q_941 q_141 q_942 (Nat.le_of_ble_eq_true rfl) (Nat.le_of_ble_eq_true rfl) (Nat.le_of_ble_eq_true rfl) (Nat.le_of_ble_eq_true rfl) dX4_value_333 (fun w_258 e_259 => ?_)
                  refine xr_mmaxL C0 hl.1 q_943 q_944 q_141 q_945 (Nat.le_of_ble_eq_true rfl) (Nat.le_of_ble_eq_true rfl) (Nat.le_of_ble_eq_true rfl) (Nat.le_of_ble_eq_true rfl) dX4_value_336 (fun w_260 e_261 => ?_)
                  refine xr_l2i C0 dX4_value_339 (fun v_262 e_263 => ?_)
                  have hO_266 := h.2
                  refine y_iast C0 h (rSC_2_2 hi0) rfl (by decide) (o10_69 b_53 b_54 e_74 c_75 e_77 e_79 e_81 e_251 e_253) (o10_70 b_53 b_54 e_74 c_75 e_77 e_79 e_81 e_251 e_253) (le_min v_262) (le_max v_262) dX4_value_340 (fun H locs ws_264 h u_265 => ?_)
                  replace HE : FT = g38w_X4_value R56 (xso SC ad ws_264) i0 v_76.toInt x7_43.toInt := HE.trans (by rw [(xso_A (i := i0 + 2) hO_266 h.2 (rSC_2_2 hi0) rfl u_265), e_263, e_261, e_259, e_249, e_257, e_255, e_253, e_251]; rfl)
                  refine y_inc (kp := 5) (n := 1) (fun v_267 => [(7, .int v_267), (13, .long w_248), (11, .long w_92), (9, .long w_86), (6, .int v_76), (8, .int v_66), (0, .ref (ad i0)), (1, .int a1), (2, .int a2), (3, .int a3), (4, .int a4), (5, .int a5)]) C0 hl rfl (by decide) (by decide) (fun _ => rfl) (o10_71 b_51 b_52 hn_50 e_57 e_58 c_59 (le_min x7_43) (le_max x7_43) (le_min v_55) (le_max v_55)) (o10_72 b_51 b_52 hn_50 e_57 e_58 c_59 (le_min x7_43) (le_max x7_43) (le_min v_55) (le_max v_55)) dX4_value_341 (fun v_267 ls e_268 hl => ?_)
                  refine lv_goto (tgt := 56) C0.1 C0.2.1 dX4_value_344 (by decide) ?_
                  exact ih_48 v_267 v_76 _ _ _ _ (o10_73 b_51 b_52 hn_50 e_57 e_58 c_59 e_268) (o10_74 b_51 b_52 hn_50 e_57 e_58 c_59 e_268) (o10_75 b_51 b_52 hn_50 e_57 e_58 c_59 e_268) (o10_76 b_53 b_54 e_74 c_75 e_77 e_79 e_81 e_251 e_253) (o10_77 b_53 b_54 e_74 c_75 e_77 e_79 e_81 e_251 e_253) (((show FT = R56 (xso SC ad ws_264) i0 v_76.toInt v_267.toInt from HE.trans (by rw [e_268]; rfl)).trans (by rw [hR56]))) h (Fr.tr hF_46 (Fr.up u_265.1 (rSC_2_2 hi0) (by decide))) (lv_sub hl [0, 4, 6, 7, 8, 9, 10, 11] rfl)
              · refine lv_tableIn (off := 109) (tgt := 282) C0.1 C0.2.1 dX4_value_173 sw_941 sw_942 (by rw [sw_944]; rfl) (by decide) ?_
                replace HE : FT = g39_X4_value R56 (xso SC ad ws_45) i0 v_76.toInt x7_43.toInt w_86.toInt w_92.toInt := HE.trans ((if_neg (not_or.mpr ⟨sw_941, sw_942⟩)).trans ((if_neg (fun q => absurd (sw_944.symm.trans q) (by decide))).trans ((if_neg (fun q => absurd (sw_944.symm.trans q) (by decide))).trans ((if_neg (fun q => absurd (sw_944.symm.trans q) (by decide))).trans ((if_neg (fun q => absurd (sw_944.symm.trans q) (by decide))).trans ((if_neg (fun q => absurd (sw_944.symm.trans q) (by decide))).trans (if_pos sw_944)))))))
                refine lv_lload C0.1 C0.2.1 dX4_value_282 (lv_at hl 1 rfl) ?_
                refine lv_lload C0.1 C0.2.1 dX4_value_284 (lv_at hl 0 rfl) ?_
                refine y_lcmp C0 dX4_value_286 (fun v_269 e_270 => ?_)
                replace HE : FT = g40b_X4_value R56 (xso SC ad ws_45) v_269.toInt i0 v_76.toInt x7_43.toInt := HE.trans (by rw [(ix_cmp e_270)]; rfl)
                refine y_if_le (tgt := 294) C0 dX4_value_287 (by decide) (fun c_271 => ?_) (fun c_271 => ?_)
                · -- 287
                  replace HE : FT = g41_X4_value R56 (xso SC ad ws_45) i0 v_76.toInt x7_43.toInt := HE.trans (if_neg (Int.not_lt.mpr c_271))
                  refine y_lc (v := 0) C0 (by decide) dX4_value_294 (fun w_272 e_273 => ?_)
                  refine lv_lstore (lv' := [(13, .long w_272), (11, .long w_92), (9, .long w_86), (6, .int v_76), (8, .int v_66), (7, .int x7_43), (0, .ref (ad i0)), (1, .int a1), (2, .int a2), (3, .int a3), (4, .int a4), (5, .int a5)]) C0.1 C0.2.1 dX4_value_295 hl (by decide) rfl (fun ls hl => ?_)
                  refine lv_goto (tgt := 317) C0.1 C0.2.1 dX4_value_297 (by decide) ?_
                  refine lv_aload_n C0.1 C0.2.1 dX4_value_317 rfl (lv_at hl 6 rfl) ?_
                  refine tg_X4_stack C0 h hi0 q_168 dX4_value_318 ?_
                  refine lv_iload C0.1 C0.2.1 dX4_value_321 (lv_at hl 3 rfl) ?_
                  refine y_c1 (n := 1) C0 (by decide) dX4_value_323 (fun v_274 e_275 => ?_)
                  refine y_sub C0 (o10_67 b_53 b_54 e_74 c_75 e_77 e_79 e_81 e_275 (le_min v_76) (le_max v_76) (le_min v_274) (le_max v_274) (le_min x6_44) (le_max x6_44) (le_min v_73) (le_max v_73) (le_min v_78) (le_max v_78) (le_min v_80) (le_max v_80)) (o10_68 b_53 b_54 e_74 c_75 e_77 e_79 e_81 e_275 (le_min v_76) (le_max v_76) (le_min v_274) (le_max v_274) (le_min x6_44) (le_max x6_44) (le_min v_73) (le_max v_73) (le_min v_78) (le_max v_78) (le_min v_80) (le_max v_80)) dX4_value_324 (fun v_276 e_277 => ?_)
                  refine y_lc2 (n := (-1000000)) C0 q_938 (by decide) dX4_value_325 (fun w_278 e_279 => ?_)
                  refine y_lc2 (n := 1000000) C0 q_939 (by decide) dX4_value_328 (fun w_280 e_281 => ?_)
                  refine lv_lload C0.1 C0.2.1 dX4_value_331 (lv_at hl 0 rfl) ?_
                  refine xr_mminL C0 hl.1 q_940 q_941 q_141 q_942 (Nat.le_of_ble_eq_true rfl) (Nat.le_of_ble_eq_true rfl) (Nat.le_of_ble_eq_true rfl) (Nat.le_of_ble_eq_true rfl) dX4_value_333 (fun w_282 e_283 => ?_)
                  refine xr_mmaxL C0 hl.1 q_943 q_944 q_141 q_945 (Nat.le_of_ble_eq_true rfl) (Nat.le_of_ble_eq_true rfl) (Nat.le_of_ble_eq_true rfl) (Nat.le_of_ble_eq_true rfl) dX4_value_336 (fun w_284 e_285 => ?_)
                  refine xr_l2i C0 dX4_value_339 (fun v_286 e_287 => ?_)
                  have hO_290 := h.2
                  refine y_iast C0 h (rSC_2_2 hi0) rfl (by decide) (o10_69 b_53 b_54 e_74 c_75 e_77 e_79 e_81 e_275 e_277) (o10_70 b_53 b_54 e_74 c_75 e_77 e_79 e_81 e_275 e_277) (le_min v_286) (le_max v_286) dX4_value_340 (fun H locs ws_288 h u_289 => ?_)
                  replace HE : FT = g43w_X4_value R56 (xso SC ad ws_288) i0 v_76.toInt x7_43.toInt := HE.trans (by rw [(xso_A (i := i0 + 2) hO_290 h.2 (rSC_2_2 hi0) rfl u_289), e_287, e_285, e_283, e_273, e_281, e_279, e_277, e_275]; rfl)
                  refine y_inc (kp := 5) (n := 1) (fun v_291 => [(7, .int v_291), (13, .long w_272), (11, .long w_92), (9, .long w_86), (6, .int v_76), (8, .int v_66), (0, .ref (ad i0)), (1, .int a1), (2, .int a2), (3, .int a3), (4, .int a4), (5, .int a5)]) C0 hl rfl (by decide) (by decide) (fun _ => rfl) (o10_71 b_51 b_52 hn_50 e_57 e_58 c_59 (le_min x7_43) (le_max x7_43) (le_min v_55) (le_max v_55)) (o10_72 b_51 b_52 hn_50 e_57 e_58 c_59 (le_min x7_43) (le_max x7_43) (le_min v_55) (le_max v_55)) dX4_value_341 (fun v_291 ls e_292 hl => ?_)
                  refine lv_goto (tgt := 56) C0.1 C0.2.1 dX4_value_344 (by decide) ?_
                  exact ih_48 v_291 v_76 _ _ _ _ (o10_73 b_51 b_52 hn_50 e_57 e_58 c_59 e_292) (o10_74 b_51 b_52 hn_50 e_57 e_58 c_59 e_292) (o10_75 b_51 b_52 hn_50 e_57 e_58 c_59 e_292) (o10_76 b_53 b_54 e_74 c_75 e_77 e_79 e_81 e_275 e_277) (o10_77 b_53 b_54 e_74 c_75 e_77 e_79 e_81 e_275 e_277) (((show FT = R56 (xso SC ad ws_288) i0 v_76.toInt v_291.toInt from HE.trans (by rw [e_292]; rfl)).trans (by rw [hR56]))) h (Fr.tr hF_46 (Fr.up u_289.1 (rSC_2_2 hi0) (by decide))) (lv_sub hl [0, 4, 6, 7, 8, 9, 10, 11] rfl)
                · -- 287
                  replace HE : FT = g42_X4_value R56 (xso SC ad ws_45) i0 v_76.toInt x7_43.toInt := HE.trans (if_pos c_271)
                  refine y_lc (v := 1) C0 (by decide) dX4_value_290 (fun w_293 e_294 => ?_)
                  refine lv_goto (tgt := 295) C0.1 C0.2.1 dX4_value_291 (by decide) ?_
                  refine lv_lstore (lv' := [(13, .long w_293), (11, .long w_92), (9, .long w_86), (6, .int v_76), (8, .int v_66), (7, .int x7_43), (0, .ref (ad i0)), (1, .int a1), (2, .int a2), (3, .int a3), (4, .int a4), (5, .int a5)]) C0.1 C0.2.1 dX4_value_295 hl (by decide) rfl (fun ls hl => ?_)
                  refine lv_goto (tgt := 317) C0.1 C0.2.1 dX4_value_297 (by decide) ?_
                  refine lv_aload_n C0.1 C0.2.1 dX4_value_317 rfl (lv_at hl 6 rfl) ?_
                  refine tg_X4_stack C0 h hi0 q_168 dX4_value_318 ?_
                  refine lv_iload C0.1 C0.2.1 dX4_value_321 (lv_at hl 3 rfl) ?_
                  refine y_c1 (n := 1) C0 (by decide) dX4_value_323 (fun v_295 e_296 => ?_)
                  refine y_sub C0 (o10_67 b_53 b_54 e_74 c_75 e_77 e_79 e_81 e_296 (le_min v_76) (le_max v_76) (le_min v_295) (le_max v_295) (le_min x6_44) (le_max x6_44) (le_min v_73) (le_max v_73) (le_min v_78) (le_max v_78) (le_min v_80) (le_max v_80)) (o10_68 b_53 b_54 e_74 c_75 e_77 e_79 e_81 e_296 (le_min v_76) (le_max v_76) (le_min v_295) (le_max v_295) (le_min x6_44) (le_max x6_44) (le_min v_73) (le_max v_73) (le_min v_78) (le_max v_78) (le_min v_80) (le_max v_80)) dX4_value_324 (fun v_297 e_298 => ?_)
                  refine y_lc2 (n := (-1000000)) C0 q_938 (by decide) dX4_value_325 (fun w_299 e_300 => ?_)
                  refine y_lc2 (n := 1000000) C0 q_939 (by decide) dX4_value_328 (fun w_301 e_302 => ?_)
                  refine lv_lload C0.1 C0.2.1 dX4_value_331 (lv_at hl 0 rfl) ?_
                  refine xr_mminL C0 hl.1 q_940 q_941 q_141 q_942 (Nat.le_of_ble_eq_true rfl) (Nat.le_of_ble_eq_true rfl) (Nat.le_of_ble_eq_true rfl) (Nat.le_of_ble_eq_true rfl) dX4_value_333 (fun w_303 e_304 => ?_)
                  refine xr_mmaxL C0 hl.1 q_943 q_944 q_141 q_945 (Nat.le_of_ble_eq_true rfl) (Nat.le_of_ble_eq_true rfl) (Nat.le_of_ble_eq_true rfl) (Nat.le_of_ble_eq_true rfl) dX4_value_336 (fun w_305 e_306 => ?_)
                  refine xr_l2i C0 dX4_value_339 (fun v_307 e_308 => ?_)
                  have hO_311 := h.2
                  refine y_iast C0 h (rSC_2_2 hi0) rfl (by decide) (o10_69 b_53 b_54 e_74 c_75 e_77 e_79 e_81 e_296 e_298) (o10_70 b_53 b_54 e_74 c_75 e_77 e_79 e_81 e_296 e_298) (le_min v_307) (le_max v_307) dX4_value_340 (fun H locs ws_309 h u_310 => ?_)
                  replace HE : FT = g44w_X4_value R56 (xso SC ad ws_309) i0 v_76.toInt x7_43.toInt := HE.trans (by rw [(xso_A (i := i0 + 2) hO_311 h.2 (rSC_2_2 hi0) rfl u_310), e_308, e_306, e_304, e_294, e_302, e_300, e_298, e_296]; rfl)
                  refine y_inc (kp := 5) (n := 1) (fun v_312 => [(7, .int v_312), (13, .long w_293), (11, .long w_92), (9, .long w_86), (6, .int v_76), (8, .int v_66), (0, .ref (ad i0)), (1, .int a1), (2, .int a2), (3, .int a3), (4, .int a4), (5, .int a5)]) C0 hl rfl (by decide) (by decide) (fun _ => rfl) (o10_71 b_51 b_52 hn_50 e_57 e_58 c_59 (le_min x7_43) (le_max x7_43) (le_min v_55) (le_max v_55)) (o10_72 b_51 b_52 hn_50 e_57 e_58 c_59 (le_min x7_43) (le_max x7_43) (le_min v_55) (le_max v_55)) dX4_value_341 (fun v_312 ls e_313 hl => ?_)
                  refine lv_goto (tgt := 56) C0.1 C0.2.1 dX4_value_344 (by decide) ?_
                  exact ih_48 v_312 v_76 _ _ _ _ (o10_73 b_51 b_52 hn_50 e_57 e_58 c_59 e_313) (o10_74 b_51 b_52 hn_50 e_57 e_58 c_59 e_313) (o10_75 b_51 b_52 hn_50 e_57 e_58 c_59 e_313) (o10_76 b_53 b_54 e_74 c_75 e_77 e_79 e_81 e_296 e_298) (o10_77 b_53 b_54 e_74 c_75 e_77 e_79 e_81 e_296 e_298) (((show FT = R56 (xso SC ad ws_309) i0 v_76.toInt v_312.toInt from HE.trans (by rw [e_313]; rfl)).trans (by rw [hR56]))) h (Fr.tr hF_46 (Fr.up u_310.1 (rSC_2_2 hi0) (by decide))) (lv_sub hl [0, 4, 6, 7, 8, 9, 10, 11] rfl)
              · refine lv_tableIn (off := 127) (tgt := 300) C0.1 C0.2.1 dX4_value_173 sw_941 sw_942 (by rw [sw_944]; rfl) (by decide) ?_
                replace HE : FT = g45_X4_value R56 (xso SC ad ws_45) i0 v_76.toInt x7_43.toInt w_86.toInt w_92.toInt := HE.trans ((if_neg (not_or.mpr ⟨sw_941, sw_942⟩)).trans ((if_neg (fun q => absurd (sw_944.symm.trans q) (by decide))).trans ((if_neg (fun q => absurd (sw_944.symm.trans q) (by decide))).trans ((if_neg (fun q => absurd (sw_944.symm.trans q) (by decide))).trans ((if_neg (fun q => absurd (sw_944.symm.trans q) (by decide))).trans ((if_neg (fun q => absurd (sw_944.symm.trans q) (by decide))).trans ((if_neg (fun q => absurd (sw_944.symm.trans q) (by decide))).trans (if_pos sw_944))))))))
                refine lv_lload C0.1 C0.2.1 dX4_value_300 (lv_at hl 1 rfl) ?_
                refine lv_lload C0.1 C0.2.1 dX4_value_302 (lv_at hl 0 rfl) ?_
                refine xr_land C0 dX4_value_304 (fun w_314 e_315 => ?_)
                refine lv_lstore (lv' := [(13, .long w_314), (11, .long w_92), (9, .long w_86), (6, .int v_76), (8, .int v_66), (7, .int x7_43), (0, .ref (ad i0)), (1, .int a1), (2, .int a2), (3, .int a3), (4, .int a4), (5, .int a5)]) C0.1 C0.2.1 dX4_value_305 hl (by decide) rfl (fun ls hl => ?_)
                refine lv_goto (tgt := 317) C0.1 C0.2.1 dX4_value_307 (by decide) ?_
                refine lv_aload_n C0.1 C0.2.1 dX4_value_317 rfl (lv_at hl 6 rfl) ?_
                refine tg_X4_stack C0 h hi0 q_168 dX4_value_318 ?_
                refine lv_iload C0.1 C0.2.1 dX4_value_321 (lv_at hl 3 rfl) ?_
                refine y_c1 (n := 1) C0 (by decide) dX4_value_323 (fun v_316 e_317 => ?_)
                refine y_sub C0 (o10_67 b_53 b_54 e_74 c_75 e_77 e_79 e_81 e_317 (le_min v_76) (le_max v_76) (le_min v_316) (le_max v_316) (le_min x6_44) (le_max x6_44) (le_min v_73) (le_max v_73) (le_min v_78) (le_max v_78) (le_min v_80) (le_max v_80)) (o10_68 b_53 b_54 e_74 c_75 e_77 e_79 e_81 e_317 (le_min v_76) (le_max v_76) (le_min v_316) (le_max v_316) (le_min x6_44) (le_max x6_44) (le_min v_73) (le_max v_73) (le_min v_78) (le_max v_78) (le_min v_80) (le_max v_80)) dX4_value_324 (fun v_318 e_319 => ?_)
                refine y_lc2 (n := (-1000000)) C0 q_938 (by decide) dX4_value_325 (fun w_320 e_321 => ?_)
                refine y_lc2 (n := 1000000) C0 q_939 (by decide) dX4_value_328 (fun w_322 e_323 => ?_)
                refine lv_lload C0.1 C0.2.1 dX4_value_331 (lv_at hl 0 rfl) ?_
                refine xr_mminL C0 hl.1 q_940 q_941 q_141 q_942 (Nat.le_of_ble_eq_true rfl) (Nat.le_of_ble_eq_true rfl) (Nat.le_of_ble_eq_true rfl) (Nat.le_of_ble_eq_true rfl) dX4_value_333 (fun w_324 e_325 => ?_)
                refine xr_mmaxL C0 hl.1 q_943 q_944 q_141 q_945 (Nat.le_of_ble_eq_true rfl) (Nat.le_of_ble_eq_true rfl) (Nat.le_of_ble_eq_true rfl) (Nat.le_of_ble_eq_true rfl) dX4_value_336 (fun w_326 e_327 => ?_)
                refine xr_l2i C0 dX4_value_339 (fun v_328 e_329 => ?_)
                have hO_332 := h.2
                refine y_iast C0 h (rSC_2_2 hi0) rfl (by decide) (o10_69 b_53 b_54 e_74 c_75 e_77 e_79 e_81 e_317 e_319) (o10_70 b_53 b_54 e_74 c_75 e_77 e_79 e_81 e_317 e_319) (le_min v_328) (le_max v_328) dX4_value_340 (fun H locs ws_330 h u_331 => ?_)
                replace HE : FT = g46w_X4_value R56 (xso SC ad ws_330) i0 v_76.toInt x7_43.toInt := HE.trans (by rw [(xso_A (i := i0 + 2) hO_332 h.2 (rSC_2_2 hi0) rfl u_331), e_329, e_327, e_325, e_315, e_323, e_321, e_319, e_317]; rfl)
                refine y_inc (kp := 5) (n := 1) (fun v_333 => [(7, .int v_333), (13, .long w_314), (11, .long w_92), (9, .long w_86), (6, .int v_76), (8, .int v_66), (0, .ref (ad i0)), (1, .int a1), (2, .int a2), (3, .int a3), (4, .int a4), (5, .int a5)]) C0 hl rfl (by decide) (by decide) (fun _ => rfl) (o10_71 b_51 b_52 hn_50 e_57 e_58 c_59 (le_min x7_43) (le_max x7_43) (le_min v_55) (le_max v_55)) (o10_72 b_51 b_52 hn_50 e_57 e_58 c_59 (le_min x7_43) (le_max x7_43) (le_min v_55) (le_max v_55)) dX4_value_341 (fun v_333 ls e_334 hl => ?_)
                refine lv_goto (tgt := 56) C0.1 C0.2.1 dX4_value_344 (by decide) ?_
                exact ih_48 v_333 v_76 _ _ _ _ (o10_73 b_51 b_52 hn_50 e_57 e_58 c_59 e_334) (o10_74 b_51 b_52 hn_50 e_57 e_58 c_59 e_334) (o10_75 b_51 b_52 hn_50 e_57 e_58 c_59 e_334) (o10_76 b_53 b_54 e_74 c_75 e_77 e_79 e_81 e_317 e_319) (o10_77 b_53 b_54 e_74 c_75 e_77 e_79 e_81 e_317 e_319) (((show FT = R56 (xso SC ad ws_330) i0 v_76.toInt v_333.toInt from HE.trans (by rw [e_334]; rfl)).trans (by rw [hR56]))) h (Fr.tr hF_46 (Fr.up u_331.1 (rSC_2_2 hi0) (by decide))) (lv_sub hl [0, 4, 6, 7, 8, 9, 10, 11] rfl)
          · -- 140
            replace HE : FT = g17_X4_value R56 (xso SC ad ws_45) i0 x6_44.toInt x7_43.toInt := HE.trans (if_pos (o10_58 b_53 b_54 e_74 c_75))
            refine lv_goto (tgt := 341) C0.1 C0.2.1 dX4_value_143 (by decide) ?_
            refine y_inc (kp := 1) (n := 1) (fun v_335 => [(7, .int v_335), (8, .int v_66), (6, .int x6_44), (0, .ref (ad i0)), (1, .int a1), (2, .int a2), (3, .int a3), (4, .int a4), (5, .int a5)]) C0 hl rfl (by decide) (by decide) (fun _ => rfl) (o10_71 b_51 b_52 hn_50 e_57 e_58 c_59 (le_min x7_43) (le_max x7_43) (le_min v_55) (le_max v_55)) (o10_72 b_51 b_52 hn_50 e_57 e_58 c_59 (le_min x7_43) (le_max x7_43) (le_min v_55) (le_max v_55)) dX4_value_341 (fun v_335 ls e_336 hl => ?_)
            refine lv_goto (tgt := 56) C0.1 C0.2.1 dX4_value_344 (by decide) ?_
            exact ih_48 v_335 x6_44 _ _ _ _ (o10_73 b_51 b_52 hn_50 e_57 e_58 c_59 e_336) (o10_74 b_51 b_52 hn_50 e_57 e_58 c_59 e_336) (o10_75 b_51 b_52 hn_50 e_57 e_58 c_59 e_336) (o10_78 b_53 b_54 e_74 c_75) (o10_79 b_53 b_54 e_74 c_75) (((show FT = R56 (xso SC ad ws_45) i0 x6_44.toInt v_335.toInt from HE.trans (by rw [e_336]; rfl)).trans (by rw [hR56]))) h hF_46 (lv_sub hl [0, 2, 3, 4, 5, 6, 7, 8] rfl)
        · -- 79
          replace HE : FT = g14_X4_value R56 (xso SC ad ws_45) i0 x6_44.toInt x7_43.toInt v_66.toInt := HE.trans (if_pos (o10_55 e_71 c_72))
          refine lv_iload C0.1 C0.2.1 dX4_value_82 (lv_at hl 2 rfl) ?_
          refine lv_aload_n C0.1 C0.2.1 dX4_value_84 rfl (lv_at hl 3 rfl) ?_
          refine tg_X4_stack C0 h hi0 q_168 dX4_value_85 ?_
          refine y_alenI (cA := G.2 0) C0 h (rSC_2_2 hi0) rfl rfl (by decide) dX4_value_88 (fun v_337 e_338 => ?_)
          replace HE : FT = g47b_X4_value R56 (xso SC ad ws_45) x6_44.toInt i0 x7_43.toInt v_66.toInt := HE.trans rfl
          refine y_icmp_ge (tgt := 341) C0 dX4_value_89 (by decide) (fun c_339 => ?_) (fun c_339 => ?_)
          · -- 89
            replace HE : FT = g48_X4_value R56 (xso SC ad ws_45) i0 x7_43.toInt := HE.trans (if_neg (o10_81 b_53 b_54 e_338 c_339))
            refine y_inc (kp := 1) (n := 1) (fun v_340 => [(7, .int v_340), (8, .int v_66), (6, .int x6_44), (0, .ref (ad i0)), (1, .int a1), (2, .int a2), (3, .int a3), (4, .int a4), (5, .int a5)]) C0 hl rfl (by decide) (by decide) (fun _ => rfl) (o10_71 b_51 b_52 hn_50 e_57 e_58 c_59 (le_min x7_43) (le_max x7_43) (le_min v_55) (le_max v_55)) (o10_72 b_51 b_52 hn_50 e_57 e_58 c_59 (le_min x7_43) (le_max x7_43) (le_min v_55) (le_max v_55)) dX4_value_341 (fun v_340 ls e_341 hl => ?_)
            refine lv_goto (tgt := 56) C0.1 C0.2.1 dX4_value_344 (by decide) ?_
            exact ih_48 v_340 x6_44 _ _ _ _ (o10_73 b_51 b_52 hn_50 e_57 e_58 c_59 e_341) (o10_74 b_51 b_52 hn_50 e_57 e_58 c_59 e_341) (o10_75 b_51 b_52 hn_50 e_57 e_58 c_59 e_341) (o10_83 b_53 b_54 e_338 c_339) (o10_84 b_53 b_54 e_338 c_339) (((show FT = R56 (xso SC ad ws_45) i0 x6_44.toInt v_340.toInt from HE.trans (by rw [e_341, (o10_85 b_53 b_54 e_338 c_339)]; rfl)).trans (by rw [hR56]))) h hF_46 (lv_sub hl [0, 2, 3, 4, 5, 6, 7, 8] rfl)
          · -- 89
            replace HE : FT = g49_X4_value R56 (xso SC ad ws_45) i0 x6_44.toInt x7_43.toInt v_66.toInt := HE.trans (if_pos (o10_82 b_53 b_54 e_338 c_339))
            refine lv_aload_n C0.1 C0.2.1 dX4_value_92 rfl (lv_at hl 3 rfl) ?_
            refine tg_X4_stack C0 h hi0 q_168 dX4_value_93 ?_
            refine lv_iload C0.1 C0.2.1 dX4_value_96 (lv_at hl 2 rfl) ?_
            refine lv_iload C0.1 C0.2.1 dX4_value_98 (lv_at hl 0 rfl) ?_
            refine y_c3 (n := 1000) C0 (by decide) dX4_value_100 (fun v_342 e_343 => ?_)
            replace HE : FT = g50b_X4_value R56 (xso SC ad ws_45) v_66.toInt x6_44.toInt i0 x7_43.toInt := HE.trans rfl
            refine y_icmp_lt (tgt := 128) C0 dX4_value_103 (by decide) (fun c_344 => ?_) (fun c_344 => ?_)
            · -- 103
              replace HE : FT = g51_X4_value R56 (xso SC ad ws_45) x6_44.toInt i0 x7_43.toInt v_66.toInt := HE.trans (if_pos (o10_86 e_71 c_72 e_343 c_344))
              refine lv_iload C0.1 C0.2.1 dX4_value_128 (lv_at hl 0 rfl) ?_
              have hO_347 := h.2
              refine y_iast C0 h (rSC_2_2 hi0) rfl (by decide) (o10_88 b_53 b_54 e_338 c_339) (o10_89 b_53 b_54 e_338 c_339) (le_min v_66) (le_max v_66) dX4_value_130 (fun H locs ws_345 h u_346 => ?_)
              replace HE : FT = g53w_X4_value R56 (xso SC ad ws_345) i0 x6_44.toInt x7_43.toInt := HE.trans (by rw [(xso_A (i := i0 + 2) hO_347 h.2 (rSC_2_2 hi0) rfl u_346)]; rfl)
              refine y_inc (kp := 2) (n := 1) (fun v_348 => [(6, .int v_348), (8, .int v_66), (7, .int x7_43), (0, .ref (ad i0)), (1, .int a1), (2, .int a2), (3, .int a3), (4, .int a4), (5, .int a5)]) C0 hl rfl (by decide) (by decide) (fun _ => rfl) (o10_90 b_53 b_54 e_338 c_339 (le_min x6_44) (le_max x6_44) (le_min v_337) (le_max v_337)) (o10_91 b_53 b_54 e_338 c_339 (le_min x6_44) (le_max x6_44) (le_min v_337) (le_max v_337)) dX4_value_131 (fun v_348 ls e_349 hl => ?_)
              refine lv_goto (tgt := 341) C0.1 C0.2.1 dX4_value_134 (by decide) ?_
              refine y_inc (kp := 2) (n := 1) (fun v_350 => [(7, .int v_350), (6, .int v_348), (8, .int v_66), (0, .ref (ad i0)), (1, .int a1), (2, .int a2), (3, .int a3), (4, .int a4), (5, .int a5)]) C0 hl rfl (by decide) (by decide) (fun _ => rfl) (o10_71 b_51 b_52 hn_50 e_57 e_58 c_59 (le_min x7_43) (le_max x7_43) (le_min v_55) (le_max v_55)) (o10_72 b_51 b_52 hn_50 e_57 e_58 c_59 (le_min x7_43) (le_max x7_43) (le_min v_55) (le_max v_55)) dX4_value_341 (fun v_350 ls e_351 hl => ?_)
              refine lv_goto (tgt := 56) C0.1 C0.2.1 dX4_value_344 (by decide) ?_
              exact ih_48 v_350 v_348 _ _ _ _ (o10_73 b_51 b_52 hn_50 e_57 e_58 c_59 e_351) (o10_74 b_51 b_52 hn_50 e_57 e_58 c_59 e_351) (o10_75 b_51 b_52 hn_50 e_57 e_58 c_59 e_351) (o10_92 b_53 b_54 e_338 c_339 e_349) (o10_93 b_53 b_54 e_338 c_339 e_349) (((show FT = R56 (xso SC ad ws_345) i0 v_348.toInt v_350.toInt from HE.trans (by rw [e_351, e_349]; rfl)).trans (by rw [hR56]))) h (Fr.tr hF_46 (Fr.up u_346.1 (rSC_2_2 hi0) (by decide))) (lv_sub hl [0, 1, 3, 4, 5, 6, 7, 8] rfl)
            · -- 103
              replace HE : FT = g52_X4_value R56 (xso SC ad ws_45) x6_44.toInt i0 x7_43.toInt v_66.toInt := HE.trans (if_neg (o10_87 e_71 c_72 e_343 c_344))
              refine lv_iload C0.1 C0.2.1 dX4_value_106 (lv_at hl 0 rfl) ?_
              refine y_c3 (n := 1005) C0 (by decide) dX4_value_108 (fun v_352 e_353 => ?_)
              replace HE : FT = g54b_X4_value R56 (xso SC ad ws_45) v_66.toInt x6_44.toInt i0 x7_43.toInt := HE.trans rfl
              refine y_icmp_gt (tgt := 128) C0 dX4_value_111 (by decide) (fun c_354 => ?_) (fun c_354 => ?_)
              · -- 111
                replace HE : FT = g55_X4_value R56 (xso SC ad ws_45) x6_44.toInt i0 x7_43.toInt v_66.toInt := HE.trans (if_pos (o10_94 e_71 c_72 e_343 c_344 e_353 c_354))
                refine lv_iload C0.1 C0.2.1 dX4_value_128 (lv_at hl 0 rfl) ?_
                have hO_357 := h.2
                refine y_iast C0 h (rSC_2_2 hi0) rfl (by decide) (o10_88 b_53 b_54 e_338 c_339) (o10_89 b_53 b_54 e_338 c_339) (le_min v_66) (le_max v_66) dX4_value_130 (fun H locs ws_355 h u_356 => ?_)
                replace HE : FT = g57w_X4_value R56 (xso SC ad ws_355) i0 x6_44.toInt x7_43.toInt := HE.trans (by rw [(xso_A (i := i0 + 2) hO_357 h.2 (rSC_2_2 hi0) rfl u_356)]; rfl)
                refine y_inc (kp := 2) (n := 1) (fun v_358 => [(6, .int v_358), (8, .int v_66), (7, .int x7_43), (0, .ref (ad i0)), (1, .int a1), (2, .int a2), (3, .int a3), (4, .int a4), (5, .int a5)]) C0 hl rfl (by decide) (by decide) (fun _ => rfl) (o10_90 b_53 b_54 e_338 c_339 (le_min x6_44) (le_max x6_44) (le_min v_337) (le_max v_337)) (o10_91 b_53 b_54 e_338 c_339 (le_min x6_44) (le_max x6_44) (le_min v_337) (le_max v_337)) dX4_value_131 (fun v_358 ls e_359 hl => ?_)
                refine lv_goto (tgt := 341) C0.1 C0.2.1 dX4_value_134 (by decide) ?_
                refine y_inc (kp := 2) (n := 1) (fun v_360 => [(7, .int v_360), (6, .int v_358), (8, .int v_66), (0, .ref (ad i0)), (1, .int a1), (2, .int a2), (3, .int a3), (4, .int a4), (5, .int a5)]) C0 hl rfl (by decide) (by decide) (fun _ => rfl) (o10_71 b_51 b_52 hn_50 e_57 e_58 c_59 (le_min x7_43) (le_max x7_43) (le_min v_55) (le_max v_55)) (o10_72 b_51 b_52 hn_50 e_57 e_58 c_59 (le_min x7_43) (le_max x7_43) (le_min v_55) (le_max v_55)) dX4_value_341 (fun v_360 ls e_361 hl => ?_)
                refine lv_goto (tgt := 56) C0.1 C0.2.1 dX4_value_344 (by decide) ?_
                exact ih_48 v_360 v_358 _ _ _ _ (o10_73 b_51 b_52 hn_50 e_57 e_58 c_59 e_361) (o10_74 b_51 b_52 hn_50 e_57 e_58 c_59 e_361) (o10_75 b_51 b_52 hn_50 e_57 e_58 c_59 e_361) (o10_92 b_53 b_54 e_338 c_339 e_359) (o10_93 b_53 b_54 e_338 c_339 e_359) (((show FT = R56 (xso SC ad ws_355) i0 v_358.toInt v_360.toInt from HE.trans (by rw [e_361, e_359]; rfl)).trans (by rw [hR56]))) h (Fr.tr hF_46 (Fr.up u_356.1 (rSC_2_2 hi0) (by decide))) (lv_sub hl [0, 1, 3, 4, 5, 6, 7, 8] rfl)
              · -- 111
                replace HE : FT = g56_X4_value R56 (xso SC ad ws_45) x6_44.toInt i0 x7_43.toInt v_66.toInt := HE.trans (if_neg (o10_95 e_71 c_72 e_343 c_344 e_353 c_354))
                refine lv_aload_n C0.1 C0.2.1 dX4_value_114 rfl (lv_at hl 3 rfl) ?_
                refine tg_X4_names C0 h hi0 q_169 dX4_value_115 ?_
                refine lv_iload C0.1 C0.2.1 dX4_value_118 (lv_at hl 0 rfl) ?_
                refine y_c3 (n := 1000) C0 (by decide) dX4_value_120 (fun v_362 e_363 => ?_)
                refine y_sub C0 (o10_96 e_71 c_72 e_343 c_344 e_353 c_354 e_363 (le_min v_66) (le_max v_66) (le_min v_362) (le_max v_362) (le_min v_70) (le_max v_70) (le_min v_342) (le_max v_342) (le_min v_352) (le_max v_352)) (o10_97 e_71 c_72 e_343 c_344 e_353 c_354 e_363 (le_min v_66) (le_max v_66) (le_min v_362) (le_max v_362) (le_min v_70) (le_max v_70) (le_min v_342) (le_max v_342) (le_min v_352) (le_max v_352)) dX4_value_123 (fun v_364 e_365 => ?_)
                refine y_iald C0 h (rSC_2_3 hi0) rfl (by decide) (o10_98 e_71 c_72 e_343 c_344 e_353 c_354 e_363 e_365) (o10_99 e_71 c_72 e_343 c_344 e_353 c_354 e_363 e_365) dX4_value_124 (fun v_366 e_367 e_368 e_369 => ?_)
                refine lv_goto (tgt := 130) C0.1 C0.2.1 dX4_value_125 (by decide) ?_
                have hO_372 := h.2
                refine y_iast C0 h (rSC_2_2 hi0) rfl (by decide) (o10_88 b_53 b_54 e_338 c_339) (o10_89 b_53 b_54 e_338 c_339) (le_min v_366) (le_max v_366) dX4_value_130 (fun H locs ws_370 h u_371 => ?_)
                replace HE : FT = g58w_X4_value R56 (xso SC ad ws_370) i0 x6_44.toInt x7_43.toInt := HE.trans (by rw [(xso_A (i := i0 + 2) hO_372 h.2 (rSC_2_2 hi0) rfl u_371), (xg1 e_367 : v_366.toInt = (xso SC ad ws_45) 1 (i0 + 3) v_364.toInt.toNat), e_365, e_363]; rfl)
                refine y_inc (kp := 2) (n := 1) (fun v_373 => [(6, .int v_373), (8, .int v_66), (7, .int x7_43), (0, .ref (ad i0)), (1, .int a1), (2, .int a2), (3, .int a3), (4, .int a4), (5, .int a5)]) C0 hl rfl (by decide) (by decide) (fun _ => rfl) (o10_90 b_53 b_54 e_338 c_339 (le_min x6_44) (le_max x6_44) (le_min v_337) (le_max v_337)) (o10_91 b_53 b_54 e_338 c_339 (le_min x6_44) (le_max x6_44) (le_min v_337) (le_max v_337)) dX4_value_131 (fun v_373 ls e_374 hl => ?_)
                refine lv_goto (tgt := 341) C0.1 C0.2.1 dX4_value_134 (by decide) ?_
                refine y_inc (kp := 2) (n := 1) (fun v_375 => [(7, .int v_375), (6, .int v_373), (8, .int v_66), (0, .ref (ad i0)), (1, .int a1), (2, .int a2), (3, .int a3), (4, .int a4), (5, .int a5)]) C0 hl rfl (by decide) (by decide) (fun _ => rfl) (o10_71 b_51 b_52 hn_50 e_57 e_58 c_59 (le_min x7_43) (le_max x7_43) (le_min v_55) (le_max v_55)) (o10_72 b_51 b_52 hn_50 e_57 e_58 c_59 (le_min x7_43) (le_max x7_43) (le_min v_55) (le_max v_55)) dX4_value_341 (fun v_375 ls e_376 hl => ?_)
                refine lv_goto (tgt := 56) C0.1 C0.2.1 dX4_value_344 (by decide) ?_
                exact ih_48 v_375 v_373 _ _ _ _ (o10_73 b_51 b_52 hn_50 e_57 e_58 c_59 e_376) (o10_74 b_51 b_52 hn_50 e_57 e_58 c_59 e_376) (o10_75 b_51 b_52 hn_50 e_57 e_58 c_59 e_376) (o10_92 b_53 b_54 e_338 c_339 e_374) (o10_93 b_53 b_54 e_338 c_339 e_374) (((show FT = R56 (xso SC ad ws_370) i0 v_373.toInt v_375.toInt from HE.trans (by rw [e_376, e_374]; rfl)).trans (by rw [hR56]))) h (Fr.tr hF_46 (Fr.up u_371.1 (rSC_2_2 hi0) (by decide))) (lv_sub hl [0, 1, 3, 4, 5, 6, 7, 8] rfl)
  exact lp_47 ((900 - v_41.toInt + 1).toNat) v_41 v_39 _ _ _ _ (o10_100 e_42) (o10_1 e_42) (o10_2 e_42) (o10_1 e_40) (o10_101 e_40) ((show FT = L7_X4_value (Int.toNat (900 - v_41.toInt + 1)) (xso SC ad ws_36) i0 v_39.toInt v_41.toInt from HE.trans (by rw [e_42, e_40]; rfl))) h Fr.rf (lv_sub hl [0, 1, 2, 3, 4, 5, 6, 7] rfl)
