theorem dX2_allowing_0 : decode cX2_allowing 0 = .ok (.aload_n 0, 1) := by decide +kernel
theorem dX2_allowing_1 : decode cX2_allowing 1 = .ok (.getfield 21, 3) := by decide +kernel
theorem dX2_allowing_4 : decode cX2_allowing 4 = .ok (.getfield 48, 3) := by decide +kernel
theorem dX2_allowing_7 : decode cX2_allowing 7 = .ok (.astore 4, 2) := by decide +kernel
theorem dX2_allowing_9 : decode cX2_allowing 9 = .ok (.aload 4, 2) := by decide +kernel
theorem dX2_allowing_11 : decode cX2_allowing 11 = .ok (.invokevirtual 52, 3) := by decide +kernel
theorem dX2_allowing_14 : decode cX2_allowing 14 = .ok (.ifCond .eq 13, 3) := by decide +kernel
theorem dX2_allowing_17 : decode cX2_allowing 17 = .ok (.aload_n 0, 1) := by decide +kernel
theorem dX2_allowing_18 : decode cX2_allowing 18 = .ok (.getfield 21, 3) := by decide +kernel
theorem dX2_allowing_21 : decode cX2_allowing 21 = .ok (.getfield 58, 3) := by decide +kernel
theorem dX2_allowing_24 : decode cX2_allowing 24 = .ok (.ifCond .gt 5, 3) := by decide +kernel
theorem dX2_allowing_27 : decode cX2_allowing 27 = .ok (.iload_n 3, 1) := by decide +kernel
theorem dX2_allowing_28 : decode cX2_allowing 28 = .ok (.ireturn, 1) := by decide +kernel
theorem dX2_allowing_29 : decode cX2_allowing 29 = .ok (.aload_n 0, 1) := by decide +kernel
theorem dX2_allowing_30 : decode cX2_allowing 30 = .ok (.iload_n 1, 1) := by decide +kernel
theorem dX2_allowing_31 : decode cX2_allowing 31 = .ok (.invokevirtual 44, 3) := by decide +kernel
theorem dX2_allowing_34 : decode cX2_allowing 34 = .ok (.iconst 4, 1) := by decide +kernel
theorem dX2_allowing_35 : decode cX2_allowing 35 = .ok (.aload 4, 2) := by decide +kernel
theorem dX2_allowing_37 : decode cX2_allowing 37 = .ok (.iload_n 1, 1) := by decide +kernel
theorem dX2_allowing_38 : decode cX2_allowing 38 = .ok (.invokevirtual 61, 3) := by decide +kernel
theorem dX2_allowing_41 : decode cX2_allowing 41 = .ok (.imul, 1) := by decide +kernel
theorem dX2_allowing_42 : decode cX2_allowing 42 = .ok (.aload 4, 2) := by decide +kernel
theorem dX2_allowing_44 : decode cX2_allowing 44 = .ok (.iload_n 2, 1) := by decide +kernel
theorem dX2_allowing_45 : decode cX2_allowing 45 = .ok (.invokevirtual 64, 3) := by decide +kernel
theorem dX2_allowing_48 : decode cX2_allowing 48 = .ok (.iadd, 1) := by decide +kernel
theorem dX2_allowing_49 : decode cX2_allowing 49 = .ok (.istore 5, 2) := by decide +kernel
theorem dX2_allowing_51 : decode cX2_allowing 51 = .ok (.iload_n 3, 1) := by decide +kernel
theorem dX2_allowing_52 : decode cX2_allowing 52 = .ok (.aload_n 0, 1) := by decide +kernel
theorem dX2_allowing_53 : decode cX2_allowing 53 = .ok (.getfield 15, 3) := by decide +kernel
theorem dX2_allowing_56 : decode cX2_allowing 56 = .ok (.iload 5, 2) := by decide +kernel
theorem dX2_allowing_58 : decode cX2_allowing 58 = .ok (.iaload, 1) := by decide +kernel
theorem dX2_allowing_59 : decode cX2_allowing 59 = .ok (.iconst (-1), 1) := by decide +kernel
theorem dX2_allowing_60 : decode cX2_allowing 60 = .ok (.ixor, 1) := by decide +kernel
theorem dX2_allowing_61 : decode cX2_allowing 61 = .ok (.iand, 1) := by decide +kernel
theorem dX2_allowing_62 : decode cX2_allowing 62 = .ok (.istore 6, 2) := by decide +kernel
theorem dX2_allowing_64 : decode cX2_allowing 64 = .ok (.iconst 0, 1) := by decide +kernel
theorem dX2_allowing_65 : decode cX2_allowing 65 = .ok (.istore 7, 2) := by decide +kernel
theorem dX2_allowing_67 : decode cX2_allowing 67 = .ok (.iload 7, 2) := by decide +kernel
theorem dX2_allowing_69 : decode cX2_allowing 69 = .ok (.bipush 25, 2) := by decide +kernel
theorem dX2_allowing_71 : decode cX2_allowing 71 = .ok (.if_icmp .ge 95, 3) := by decide +kernel
theorem dX2_allowing_74 : decode cX2_allowing 74 = .ok (.iload 6, 2) := by decide +kernel
theorem dX2_allowing_76 : decode cX2_allowing 76 = .ok (.iload 7, 2) := by decide +kernel
theorem dX2_allowing_78 : decode cX2_allowing 78 = .ok (.ishr, 1) := by decide +kernel
theorem dX2_allowing_79 : decode cX2_allowing 79 = .ok (.ifCond .eq 87, 3) := by decide +kernel
theorem dX2_allowing_82 : decode cX2_allowing 82 = .ok (.iload 6, 2) := by decide +kernel
theorem dX2_allowing_84 : decode cX2_allowing 84 = .ok (.iload 7, 2) := by decide +kernel
theorem dX2_allowing_86 : decode cX2_allowing 86 = .ok (.ishr, 1) := by decide +kernel
theorem dX2_allowing_87 : decode cX2_allowing 87 = .ok (.iconst 1, 1) := by decide +kernel
theorem dX2_allowing_88 : decode cX2_allowing 88 = .ok (.iand, 1) := by decide +kernel
theorem dX2_allowing_89 : decode cX2_allowing 89 = .ok (.ifCond .eq 71, 3) := by decide +kernel
theorem dX2_allowing_92 : decode cX2_allowing 92 = .ok (.aload 4, 2) := by decide +kernel
theorem dX2_allowing_94 : decode cX2_allowing 94 = .ok (.iload 7, 2) := by decide +kernel
theorem dX2_allowing_96 : decode cX2_allowing 96 = .ok (.aload_n 0, 1) := by decide +kernel
theorem dX2_allowing_97 : decode cX2_allowing 97 = .ok (.getfield 21, 3) := by decide +kernel
theorem dX2_allowing_100 : decode cX2_allowing 100 = .ok (.getfield 58, 3) := by decide +kernel
theorem dX2_allowing_103 : decode cX2_allowing 103 = .ok (.irem, 1) := by decide +kernel
theorem dX2_allowing_104 : decode cX2_allowing 104 = .ok (.iload 7, 2) := by decide +kernel
theorem dX2_allowing_106 : decode cX2_allowing 106 = .ok (.aload_n 0, 1) := by decide +kernel
theorem dX2_allowing_107 : decode cX2_allowing 107 = .ok (.getfield 21, 3) := by decide +kernel
theorem dX2_allowing_110 : decode cX2_allowing 110 = .ok (.getfield 58, 3) := by decide +kernel
theorem dX2_allowing_113 : decode cX2_allowing 113 = .ok (.idiv, 1) := by decide +kernel
theorem dX2_allowing_114 : decode cX2_allowing 114 = .ok (.aload_n 0, 1) := by decide +kernel
theorem dX2_allowing_115 : decode cX2_allowing 115 = .ok (.getfield 21, 3) := by decide +kernel
theorem dX2_allowing_118 : decode cX2_allowing 118 = .ok (.getfield 29, 3) := by decide +kernel
theorem dX2_allowing_121 : decode cX2_allowing 121 = .ok (.getfield 35, 3) := by decide +kernel
theorem dX2_allowing_124 : decode cX2_allowing 124 = .ok (.iload_n 1, 1) := by decide +kernel
theorem dX2_allowing_125 : decode cX2_allowing 125 = .ok (.iadd, 1) := by decide +kernel
theorem dX2_allowing_126 : decode cX2_allowing 126 = .ok (.aload_n 0, 1) := by decide +kernel
theorem dX2_allowing_127 : decode cX2_allowing 127 = .ok (.getfield 21, 3) := by decide +kernel
theorem dX2_allowing_130 : decode cX2_allowing 130 = .ok (.getfield 29, 3) := by decide +kernel
theorem dX2_allowing_133 : decode cX2_allowing 133 = .ok (.getfield 67, 3) := by decide +kernel
theorem dX2_allowing_136 : decode cX2_allowing 136 = .ok (.iload 7, 2) := by decide +kernel
theorem dX2_allowing_138 : decode cX2_allowing 138 = .ok (.iaload, 1) := by decide +kernel
theorem dX2_allowing_139 : decode cX2_allowing 139 = .ok (.iload_n 2, 1) := by decide +kernel
theorem dX2_allowing_140 : decode cX2_allowing 140 = .ok (.invokevirtual 70, 3) := by decide +kernel
theorem dX2_allowing_143 : decode cX2_allowing 143 = .ok (.ifCond .eq 17, 3) := by decide +kernel
theorem dX2_allowing_146 : decode cX2_allowing 146 = .ok (.aload_n 0, 1) := by decide +kernel
theorem dX2_allowing_147 : decode cX2_allowing 147 = .ok (.getfield 18, 3) := by decide +kernel
theorem dX2_allowing_150 : decode cX2_allowing 150 = .ok (.iload 5, 2) := by decide +kernel
theorem dX2_allowing_152 : decode cX2_allowing 152 = .ok (.dup2, 1) := by decide +kernel
theorem dX2_allowing_153 : decode cX2_allowing 153 = .ok (.iaload, 1) := by decide +kernel
theorem dX2_allowing_154 : decode cX2_allowing 154 = .ok (.iconst 1, 1) := by decide +kernel
theorem dX2_allowing_155 : decode cX2_allowing 155 = .ok (.iload 7, 2) := by decide +kernel
theorem dX2_allowing_157 : decode cX2_allowing 157 = .ok (.ishl, 1) := by decide +kernel
theorem dX2_allowing_158 : decode cX2_allowing 158 = .ok (.ior, 1) := by decide +kernel
theorem dX2_allowing_159 : decode cX2_allowing 159 = .ok (.iastore, 1) := by decide +kernel
theorem dX2_allowing_160 : decode cX2_allowing 160 = .ok (.iinc 7 1, 3) := by decide +kernel
theorem dX2_allowing_163 : decode cX2_allowing 163 = .ok (.goto (-96), 3) := by decide +kernel
theorem dX2_allowing_166 : decode cX2_allowing 166 = .ok (.aload_n 0, 1) := by decide +kernel
theorem dX2_allowing_167 : decode cX2_allowing 167 = .ok (.getfield 15, 3) := by decide +kernel
theorem dX2_allowing_170 : decode cX2_allowing 170 = .ok (.iload 5, 2) := by decide +kernel
theorem dX2_allowing_172 : decode cX2_allowing 172 = .ok (.dup2, 1) := by decide +kernel
theorem dX2_allowing_173 : decode cX2_allowing 173 = .ok (.iaload, 1) := by decide +kernel
theorem dX2_allowing_174 : decode cX2_allowing 174 = .ok (.iload_n 3, 1) := by decide +kernel
theorem dX2_allowing_175 : decode cX2_allowing 175 = .ok (.ior, 1) := by decide +kernel
theorem dX2_allowing_176 : decode cX2_allowing 176 = .ok (.iastore, 1) := by decide +kernel
theorem dX2_allowing_177 : decode cX2_allowing 177 = .ok (.iload_n 3, 1) := by decide +kernel
theorem dX2_allowing_178 : decode cX2_allowing 178 = .ok (.aload_n 0, 1) := by decide +kernel
theorem dX2_allowing_179 : decode cX2_allowing 179 = .ok (.getfield 18, 3) := by decide +kernel
theorem dX2_allowing_182 : decode cX2_allowing 182 = .ok (.iload 5, 2) := by decide +kernel
theorem dX2_allowing_184 : decode cX2_allowing 184 = .ok (.iaload, 1) := by decide +kernel
theorem dX2_allowing_185 : decode cX2_allowing 185 = .ok (.iand, 1) := by decide +kernel
theorem dX2_allowing_186 : decode cX2_allowing 186 = .ok (.ireturn, 1) := by decide +kernel
theorem dX2_beginUpTo_0 : decode cX2_beginUpTo 0 = .ok (.aload_n 0, 1) := by decide +kernel
theorem dX2_beginUpTo_1 : decode cX2_beginUpTo 1 = .ok (.getfield 25, 3) := by decide +kernel
theorem dX2_beginUpTo_4 : decode cX2_beginUpTo 4 = .ok (.iload_n 1, 1) := by decide +kernel
theorem dX2_beginUpTo_5 : decode cX2_beginUpTo 5 = .ok (.if_icmp .gt 88, 3) := by decide +kernel
theorem dX2_beginUpTo_8 : decode cX2_beginUpTo 8 = .ok (.aload_n 0, 1) := by decide +kernel
theorem dX2_beginUpTo_9 : decode cX2_beginUpTo 9 = .ok (.getfield 11, 3) := by decide +kernel
theorem dX2_beginUpTo_12 : decode cX2_beginUpTo 12 = .ok (.aload_n 0, 1) := by decide +kernel
theorem dX2_beginUpTo_13 : decode cX2_beginUpTo 13 = .ok (.getfield 25, 3) := by decide +kernel
theorem dX2_beginUpTo_16 : decode cX2_beginUpTo 16 = .ok (.aload_n 0, 1) := by decide +kernel
theorem dX2_beginUpTo_17 : decode cX2_beginUpTo 17 = .ok (.getfield 21, 3) := by decide +kernel
theorem dX2_beginUpTo_20 : decode cX2_beginUpTo 20 = .ok (.aload_n 0, 1) := by decide +kernel
theorem dX2_beginUpTo_21 : decode cX2_beginUpTo 21 = .ok (.getfield 21, 3) := by decide +kernel
theorem dX2_beginUpTo_24 : decode cX2_beginUpTo 24 = .ok (.getfield 29, 3) := by decide +kernel
theorem dX2_beginUpTo_27 : decode cX2_beginUpTo 27 = .ok (.getfield 35, 3) := by decide +kernel
theorem dX2_beginUpTo_30 : decode cX2_beginUpTo 30 = .ok (.aload_n 0, 1) := by decide +kernel
theorem dX2_beginUpTo_31 : decode cX2_beginUpTo 31 = .ok (.getfield 25, 3) := by decide +kernel
theorem dX2_beginUpTo_34 : decode cX2_beginUpTo 34 = .ok (.iadd, 1) := by decide +kernel
theorem dX2_beginUpTo_35 : decode cX2_beginUpTo 35 = .ok (.invokevirtual 40, 3) := by decide +kernel
theorem dX2_beginUpTo_38 : decode cX2_beginUpTo 38 = .ok (.iastore, 1) := by decide +kernel
theorem dX2_beginUpTo_39 : decode cX2_beginUpTo 39 = .ok (.iconst 0, 1) := by decide +kernel
theorem dX2_beginUpTo_40 : decode cX2_beginUpTo 40 = .ok (.istore_n 2, 1) := by decide +kernel
theorem dX2_beginUpTo_41 : decode cX2_beginUpTo 41 = .ok (.iload_n 2, 1) := by decide +kernel
theorem dX2_beginUpTo_42 : decode cX2_beginUpTo 42 = .ok (.iconst 4, 1) := by decide +kernel
theorem dX2_beginUpTo_43 : decode cX2_beginUpTo 43 = .ok (.if_icmp .ge 37, 3) := by decide +kernel
theorem dX2_beginUpTo_46 : decode cX2_beginUpTo 46 = .ok (.aload_n 0, 1) := by decide +kernel
theorem dX2_beginUpTo_47 : decode cX2_beginUpTo 47 = .ok (.getfield 15, 3) := by decide +kernel
theorem dX2_beginUpTo_50 : decode cX2_beginUpTo 50 = .ok (.iconst 4, 1) := by decide +kernel
theorem dX2_beginUpTo_51 : decode cX2_beginUpTo 51 = .ok (.aload_n 0, 1) := by decide +kernel
theorem dX2_beginUpTo_52 : decode cX2_beginUpTo 52 = .ok (.getfield 25, 3) := by decide +kernel
theorem dX2_beginUpTo_55 : decode cX2_beginUpTo 55 = .ok (.imul, 1) := by decide +kernel
theorem dX2_beginUpTo_56 : decode cX2_beginUpTo 56 = .ok (.iload_n 2, 1) := by decide +kernel
theorem dX2_beginUpTo_57 : decode cX2_beginUpTo 57 = .ok (.iadd, 1) := by decide +kernel
theorem dX2_beginUpTo_58 : decode cX2_beginUpTo 58 = .ok (.iconst 0, 1) := by decide +kernel
theorem dX2_beginUpTo_59 : decode cX2_beginUpTo 59 = .ok (.iastore, 1) := by decide +kernel
theorem dX2_beginUpTo_60 : decode cX2_beginUpTo 60 = .ok (.aload_n 0, 1) := by decide +kernel
theorem dX2_beginUpTo_61 : decode cX2_beginUpTo 61 = .ok (.getfield 18, 3) := by decide +kernel
theorem dX2_beginUpTo_64 : decode cX2_beginUpTo 64 = .ok (.iconst 4, 1) := by decide +kernel
theorem dX2_beginUpTo_65 : decode cX2_beginUpTo 65 = .ok (.aload_n 0, 1) := by decide +kernel
theorem dX2_beginUpTo_66 : decode cX2_beginUpTo 66 = .ok (.getfield 25, 3) := by decide +kernel
theorem dX2_beginUpTo_69 : decode cX2_beginUpTo 69 = .ok (.imul, 1) := by decide +kernel
theorem dX2_beginUpTo_70 : decode cX2_beginUpTo 70 = .ok (.iload_n 2, 1) := by decide +kernel
theorem dX2_beginUpTo_71 : decode cX2_beginUpTo 71 = .ok (.iadd, 1) := by decide +kernel
theorem dX2_beginUpTo_72 : decode cX2_beginUpTo 72 = .ok (.iconst 0, 1) := by decide +kernel
theorem dX2_beginUpTo_73 : decode cX2_beginUpTo 73 = .ok (.iastore, 1) := by decide +kernel
theorem dX2_beginUpTo_74 : decode cX2_beginUpTo 74 = .ok (.iinc 2 1, 3) := by decide +kernel
theorem dX2_beginUpTo_77 : decode cX2_beginUpTo 77 = .ok (.goto (-36), 3) := by decide +kernel
theorem dX2_beginUpTo_80 : decode cX2_beginUpTo 80 = .ok (.aload_n 0, 1) := by decide +kernel
theorem dX2_beginUpTo_81 : decode cX2_beginUpTo 81 = .ok (.dup, 1) := by decide +kernel
theorem dX2_beginUpTo_82 : decode cX2_beginUpTo 82 = .ok (.getfield 25, 3) := by decide +kernel
theorem dX2_beginUpTo_85 : decode cX2_beginUpTo 85 = .ok (.iconst 1, 1) := by decide +kernel
theorem dX2_beginUpTo_86 : decode cX2_beginUpTo 86 = .ok (.iadd, 1) := by decide +kernel
theorem dX2_beginUpTo_87 : decode cX2_beginUpTo 87 = .ok (.putfield 25, 3) := by decide +kernel
theorem dX2_beginUpTo_90 : decode cX2_beginUpTo 90 = .ok (.goto (-90), 3) := by decide +kernel
theorem dX2_beginUpTo_93 : decode cX2_beginUpTo 93 = .ok (.return_, 1) := by decide +kernel
theorem dX2_forget_0 : decode cX2_forget 0 = .ok (.aload_n 0, 1) := by decide +kernel
theorem dX2_forget_1 : decode cX2_forget 1 = .ok (.iconst 0, 1) := by decide +kernel
theorem dX2_forget_2 : decode cX2_forget 2 = .ok (.putfield 25, 3) := by decide +kernel
theorem dX2_forget_5 : decode cX2_forget 5 = .ok (.return_, 1) := by decide +kernel
theorem dX2_freeAt_0 : decode cX2_freeAt 0 = .ok (.aload_n 0, 1) := by decide +kernel
theorem dX2_freeAt_1 : decode cX2_freeAt 1 = .ok (.iload_n 1, 1) := by decide +kernel
theorem dX2_freeAt_2 : decode cX2_freeAt 2 = .ok (.invokevirtual 44, 3) := by decide +kernel
theorem dX2_freeAt_5 : decode cX2_freeAt 5 = .ok (.aload_n 0, 1) := by decide +kernel
theorem dX2_freeAt_6 : decode cX2_freeAt 6 = .ok (.getfield 11, 3) := by decide +kernel
theorem dX2_freeAt_9 : decode cX2_freeAt 9 = .ok (.iload_n 1, 1) := by decide +kernel
theorem dX2_freeAt_10 : decode cX2_freeAt 10 = .ok (.iaload, 1) := by decide +kernel
theorem dX2_freeAt_11 : decode cX2_freeAt 11 = .ok (.ireturn, 1) := by decide +kernel
theorem dX2_lefts_0 : decode cX2_lefts 0 = .ok (.iload_n 3, 1) := by decide +kernel
theorem dX2_lefts_1 : decode cX2_lefts 1 = .ok (.iconst 2, 1) := by decide +kernel
theorem dX2_lefts_2 : decode cX2_lefts 2 = .ok (.if_icmp .ge 5, 3) := by decide +kernel
theorem dX2_lefts_5 : decode cX2_lefts 5 = .ok (.iconst 0, 1) := by decide +kernel
theorem dX2_lefts_6 : decode cX2_lefts 6 = .ok (.ireturn, 1) := by decide +kernel
theorem dX2_lefts_7 : decode cX2_lefts 7 = .ok (.iload_n 2, 1) := by decide +kernel
theorem dX2_lefts_8 : decode cX2_lefts 8 = .ok (.iconst 2, 1) := by decide +kernel
theorem dX2_lefts_9 : decode cX2_lefts 9 = .ok (.ishr, 1) := by decide +kernel
theorem dX2_lefts_10 : decode cX2_lefts 10 = .ok (.istore 4, 2) := by decide +kernel
theorem dX2_lefts_12 : decode cX2_lefts 12 = .ok (.aload_n 0, 1) := by decide +kernel
theorem dX2_lefts_13 : decode cX2_lefts 13 = .ok (.iload_n 1, 1) := by decide +kernel
theorem dX2_lefts_14 : decode cX2_lefts 14 = .ok (.iload_n 2, 1) := by decide +kernel
theorem dX2_lefts_15 : decode cX2_lefts 15 = .ok (.getstatic 74, 3) := by decide +kernel
theorem dX2_lefts_18 : decode cX2_lefts 18 = .ok (.iload_n 3, 1) := by decide +kernel
theorem dX2_lefts_19 : decode cX2_lefts 19 = .ok (.iaload, 1) := by decide +kernel
theorem dX2_lefts_20 : decode cX2_lefts 20 = .ok (.iadd, 1) := by decide +kernel
theorem dX2_lefts_21 : decode cX2_lefts 21 = .ok (.iconst 3, 1) := by decide +kernel
theorem dX2_lefts_22 : decode cX2_lefts 22 = .ok (.iand, 1) := by decide +kernel
theorem dX2_lefts_23 : decode cX2_lefts 23 = .ok (.iconst 1, 1) := by decide +kernel
theorem dX2_lefts_24 : decode cX2_lefts 24 = .ok (.iload 4, 2) := by decide +kernel
theorem dX2_lefts_26 : decode cX2_lefts 26 = .ok (.ishl, 1) := by decide +kernel
theorem dX2_lefts_27 : decode cX2_lefts 27 = .ok (.invokevirtual 77, 3) := by decide +kernel
theorem dX2_lefts_30 : decode cX2_lefts 30 = .ok (.ifCond .ne 5, 3) := by decide +kernel
theorem dX2_lefts_33 : decode cX2_lefts 33 = .ok (.iconst (-1), 1) := by decide +kernel
theorem dX2_lefts_34 : decode cX2_lefts 34 = .ok (.ireturn, 1) := by decide +kernel
theorem dX2_lefts_35 : decode cX2_lefts 35 = .ok (.aload_n 0, 1) := by decide +kernel
theorem dX2_lefts_36 : decode cX2_lefts 36 = .ok (.iload_n 1, 1) := by decide +kernel
theorem dX2_lefts_37 : decode cX2_lefts 37 = .ok (.invokevirtual 81, 3) := by decide +kernel
theorem dX2_lefts_40 : decode cX2_lefts 40 = .ok (.iload 4, 2) := by decide +kernel
theorem dX2_lefts_42 : decode cX2_lefts 42 = .ok (.ishr, 1) := by decide +kernel
theorem dX2_lefts_43 : decode cX2_lefts 43 = .ok (.iconst 1, 1) := by decide +kernel
theorem dX2_lefts_44 : decode cX2_lefts 44 = .ok (.iand, 1) := by decide +kernel
theorem dX2_lefts_45 : decode cX2_lefts 45 = .ok (.ifCond .eq 7, 3) := by decide +kernel
theorem dX2_lefts_48 : decode cX2_lefts 48 = .ok (.iconst 0, 1) := by decide +kernel
theorem dX2_lefts_49 : decode cX2_lefts 49 = .ok (.goto 6, 3) := by decide +kernel
theorem dX2_lefts_52 : decode cX2_lefts 52 = .ok (.iload_n 3, 1) := by decide +kernel
theorem dX2_lefts_53 : decode cX2_lefts 53 = .ok (.iconst 1, 1) := by decide +kernel
theorem dX2_lefts_54 : decode cX2_lefts 54 = .ok (.isub, 1) := by decide +kernel
theorem dX2_lefts_55 : decode cX2_lefts 55 = .ok (.ireturn, 1) := by decide +kernel
theorem dX8_anyHeading_0 : decode cX8_anyHeading 0 = .ok (.iconst 4, 1) := by decide +kernel
theorem dX8_anyHeading_1 : decode cX8_anyHeading 1 = .ok (.iload_n 1, 1) := by decide +kernel
theorem dX8_anyHeading_2 : decode cX8_anyHeading 2 = .ok (.imul, 1) := by decide +kernel
theorem dX8_anyHeading_3 : decode cX8_anyHeading 3 = .ok (.istore_n 2, 1) := by decide +kernel
theorem dX8_anyHeading_4 : decode cX8_anyHeading 4 = .ok (.aload_n 0, 1) := by decide +kernel
theorem dX8_anyHeading_5 : decode cX8_anyHeading 5 = .ok (.getfield 11, 3) := by decide +kernel
theorem dX8_anyHeading_8 : decode cX8_anyHeading 8 = .ok (.iload_n 2, 1) := by decide +kernel
theorem dX8_anyHeading_9 : decode cX8_anyHeading 9 = .ok (.iaload, 1) := by decide +kernel
theorem dX8_anyHeading_10 : decode cX8_anyHeading 10 = .ok (.aload_n 0, 1) := by decide +kernel
theorem dX8_anyHeading_11 : decode cX8_anyHeading 11 = .ok (.getfield 11, 3) := by decide +kernel
theorem dX8_anyHeading_14 : decode cX8_anyHeading 14 = .ok (.iload_n 2, 1) := by decide +kernel
theorem dX8_anyHeading_15 : decode cX8_anyHeading 15 = .ok (.iconst 1, 1) := by decide +kernel
theorem dX8_anyHeading_16 : decode cX8_anyHeading 16 = .ok (.iadd, 1) := by decide +kernel
theorem dX8_anyHeading_17 : decode cX8_anyHeading 17 = .ok (.iaload, 1) := by decide +kernel
theorem dX8_anyHeading_18 : decode cX8_anyHeading 18 = .ok (.ior, 1) := by decide +kernel
theorem dX8_anyHeading_19 : decode cX8_anyHeading 19 = .ok (.aload_n 0, 1) := by decide +kernel
theorem dX8_anyHeading_20 : decode cX8_anyHeading 20 = .ok (.getfield 11, 3) := by decide +kernel
theorem dX8_anyHeading_23 : decode cX8_anyHeading 23 = .ok (.iload_n 2, 1) := by decide +kernel
theorem dX8_anyHeading_24 : decode cX8_anyHeading 24 = .ok (.iconst 2, 1) := by decide +kernel
theorem dX8_anyHeading_25 : decode cX8_anyHeading 25 = .ok (.iadd, 1) := by decide +kernel
theorem dX8_anyHeading_26 : decode cX8_anyHeading 26 = .ok (.iaload, 1) := by decide +kernel
theorem dX8_anyHeading_27 : decode cX8_anyHeading 27 = .ok (.ior, 1) := by decide +kernel
theorem dX8_anyHeading_28 : decode cX8_anyHeading 28 = .ok (.aload_n 0, 1) := by decide +kernel
theorem dX8_anyHeading_29 : decode cX8_anyHeading 29 = .ok (.getfield 11, 3) := by decide +kernel
theorem dX8_anyHeading_32 : decode cX8_anyHeading 32 = .ok (.iload_n 2, 1) := by decide +kernel
theorem dX8_anyHeading_33 : decode cX8_anyHeading 33 = .ok (.iconst 3, 1) := by decide +kernel
theorem dX8_anyHeading_34 : decode cX8_anyHeading 34 = .ok (.iadd, 1) := by decide +kernel
theorem dX8_anyHeading_35 : decode cX8_anyHeading 35 = .ok (.iaload, 1) := by decide +kernel
theorem dX8_anyHeading_36 : decode cX8_anyHeading 36 = .ok (.ior, 1) := by decide +kernel
theorem dX8_anyHeading_37 : decode cX8_anyHeading 37 = .ok (.ireturn, 1) := by decide +kernel
theorem dX8_begin_0 : decode cX8_begin 0 = .ok (.iconst 0, 1) := by decide +kernel
theorem dX8_begin_1 : decode cX8_begin 1 = .ok (.istore_n 2, 1) := by decide +kernel
theorem dX8_begin_2 : decode cX8_begin 2 = .ok (.iload_n 2, 1) := by decide +kernel
theorem dX8_begin_3 : decode cX8_begin 3 = .ok (.iconst 4, 1) := by decide +kernel
theorem dX8_begin_4 : decode cX8_begin 4 = .ok (.aload_n 0, 1) := by decide +kernel
theorem dX8_begin_5 : decode cX8_begin 5 = .ok (.getfield 29, 3) := by decide +kernel
theorem dX8_begin_8 : decode cX8_begin 8 = .ok (.imul, 1) := by decide +kernel
theorem dX8_begin_9 : decode cX8_begin 9 = .ok (.iconst 4, 1) := by decide +kernel
theorem dX8_begin_10 : decode cX8_begin 10 = .ok (.iadd, 1) := by decide +kernel
theorem dX8_begin_11 : decode cX8_begin 11 = .ok (.if_icmp .ge 16, 3) := by decide +kernel
theorem dX8_begin_14 : decode cX8_begin 14 = .ok (.aload_n 0, 1) := by decide +kernel
theorem dX8_begin_15 : decode cX8_begin 15 = .ok (.getfield 11, 3) := by decide +kernel
theorem dX8_begin_18 : decode cX8_begin 18 = .ok (.iload_n 2, 1) := by decide +kernel
theorem dX8_begin_19 : decode cX8_begin 19 = .ok (.iconst 0, 1) := by decide +kernel
theorem dX8_begin_20 : decode cX8_begin 20 = .ok (.iastore, 1) := by decide +kernel
theorem dX8_begin_21 : decode cX8_begin 21 = .ok (.iinc 2 1, 3) := by decide +kernel
theorem dX8_begin_24 : decode cX8_begin 24 = .ok (.goto (-22), 3) := by decide +kernel
theorem dX8_begin_27 : decode cX8_begin 27 = .ok (.aload_n 0, 1) := by decide +kernel
theorem dX8_begin_28 : decode cX8_begin 28 = .ok (.iconst 0, 1) := by decide +kernel
theorem dX8_begin_29 : decode cX8_begin 29 = .ok (.putfield 29, 3) := by decide +kernel
theorem dX8_begin_32 : decode cX8_begin 32 = .ok (.aload_n 0, 1) := by decide +kernel
theorem dX8_begin_33 : decode cX8_begin 33 = .ok (.getfield 11, 3) := by decide +kernel
theorem dX8_begin_36 : decode cX8_begin 36 = .ok (.iload_n 1, 1) := by decide +kernel
theorem dX8_begin_37 : decode cX8_begin 37 = .ok (.iconst 3, 1) := by decide +kernel
theorem dX8_begin_38 : decode cX8_begin 38 = .ok (.iand, 1) := by decide +kernel
theorem dX8_begin_39 : decode cX8_begin 39 = .ok (.iconst 1, 1) := by decide +kernel
theorem dX8_begin_40 : decode cX8_begin 40 = .ok (.iload_n 1, 1) := by decide +kernel
theorem dX8_begin_41 : decode cX8_begin 41 = .ok (.iconst 2, 1) := by decide +kernel
theorem dX8_begin_42 : decode cX8_begin 42 = .ok (.ishr, 1) := by decide +kernel
theorem dX8_begin_43 : decode cX8_begin 43 = .ok (.ishl, 1) := by decide +kernel
theorem dX8_begin_44 : decode cX8_begin 44 = .ok (.iastore, 1) := by decide +kernel
theorem dX8_begin_45 : decode cX8_begin 45 = .ok (.return_, 1) := by decide +kernel
theorem dX8_change_0 : decode cX8_change 0 = .ok (.aload_n 0, 1) := by decide +kernel
theorem dX8_change_1 : decode cX8_change 1 = .ok (.getfield 11, 3) := by decide +kernel
theorem dX8_change_4 : decode cX8_change 4 = .ok (.astore_n 2, 1) := by decide +kernel
theorem dX8_change_5 : decode cX8_change 5 = .ok (.aload_n 0, 1) := by decide +kernel
theorem dX8_change_6 : decode cX8_change 6 = .ok (.aload_n 0, 1) := by decide +kernel
theorem dX8_change_7 : decode cX8_change 7 = .ok (.getfield 15, 3) := by decide +kernel
theorem dX8_change_10 : decode cX8_change 10 = .ok (.putfield 11, 3) := by decide +kernel
theorem dX8_change_13 : decode cX8_change 13 = .ok (.aload_n 0, 1) := by decide +kernel
theorem dX8_change_14 : decode cX8_change 14 = .ok (.aload_n 2, 1) := by decide +kernel
theorem dX8_change_15 : decode cX8_change 15 = .ok (.putfield 15, 3) := by decide +kernel
theorem dX8_change_18 : decode cX8_change 18 = .ok (.iconst 0, 1) := by decide +kernel
theorem dX8_change_19 : decode cX8_change 19 = .ok (.istore_n 3, 1) := by decide +kernel
theorem dX8_change_20 : decode cX8_change 20 = .ok (.iload_n 3, 1) := by decide +kernel
theorem dX8_change_21 : decode cX8_change 21 = .ok (.iconst 4, 1) := by decide +kernel
theorem dX8_change_22 : decode cX8_change 22 = .ok (.aload_n 0, 1) := by decide +kernel
theorem dX8_change_23 : decode cX8_change 23 = .ok (.getfield 29, 3) := by decide +kernel
theorem dX8_change_26 : decode cX8_change 26 = .ok (.imul, 1) := by decide +kernel
theorem dX8_change_27 : decode cX8_change 27 = .ok (.iconst 4, 1) := by decide +kernel
theorem dX8_change_28 : decode cX8_change 28 = .ok (.iadd, 1) := by decide +kernel
theorem dX8_change_29 : decode cX8_change 29 = .ok (.if_icmp .ge 16, 3) := by decide +kernel
theorem dX8_change_32 : decode cX8_change 32 = .ok (.aload_n 0, 1) := by decide +kernel
theorem dX8_change_33 : decode cX8_change 33 = .ok (.getfield 15, 3) := by decide +kernel
theorem dX8_change_36 : decode cX8_change 36 = .ok (.iload_n 3, 1) := by decide +kernel
theorem dX8_change_37 : decode cX8_change 37 = .ok (.iconst 0, 1) := by decide +kernel
theorem dX8_change_38 : decode cX8_change 38 = .ok (.iastore, 1) := by decide +kernel
theorem dX8_change_39 : decode cX8_change 39 = .ok (.iinc 3 1, 3) := by decide +kernel
theorem dX8_change_42 : decode cX8_change 42 = .ok (.goto (-22), 3) := by decide +kernel
theorem dX8_change_45 : decode cX8_change 45 = .ok (.aload_n 0, 1) := by decide +kernel
theorem dX8_change_46 : decode cX8_change 46 = .ok (.iload_n 1, 1) := by decide +kernel
theorem dX8_change_47 : decode cX8_change 47 = .ok (.putfield 29, 3) := by decide +kernel
theorem dX8_change_50 : decode cX8_change 50 = .ok (.return_, 1) := by decide +kernel
theorem dX8_cornersToFree_0 : decode cX8_cornersToFree 0 = .ok (.aload_n 0, 1) := by decide +kernel
theorem dX8_cornersToFree_1 : decode cX8_cornersToFree 1 = .ok (.getfield 21, 3) := by decide +kernel
theorem dX8_cornersToFree_4 : decode cX8_cornersToFree 4 = .ok (.invokevirtual 105, 3) := by decide +kernel
theorem dX8_cornersToFree_7 : decode cX8_cornersToFree 7 = .ok (.istore 4, 2) := by decide +kernel
theorem dX8_cornersToFree_9 : decode cX8_cornersToFree 9 = .ok (.aload_n 0, 1) := by decide +kernel
theorem dX8_cornersToFree_10 : decode cX8_cornersToFree 10 = .ok (.iload_n 1, 1) := by decide +kernel
theorem dX8_cornersToFree_11 : decode cX8_cornersToFree 11 = .ok (.iload_n 2, 1) := by decide +kernel
theorem dX8_cornersToFree_12 : decode cX8_cornersToFree 12 = .ok (.iconst 0, 1) := by decide +kernel
theorem dX8_cornersToFree_13 : decode cX8_cornersToFree 13 = .ok (.iload_n 3, 1) := by decide +kernel
theorem dX8_cornersToFree_14 : decode cX8_cornersToFree 14 = .ok (.iconst 0, 1) := by decide +kernel
theorem dX8_cornersToFree_15 : decode cX8_cornersToFree 15 = .ok (.invokevirtual 109, 3) := by decide +kernel
theorem dX8_cornersToFree_18 : decode cX8_cornersToFree 18 = .ok (.ifCond .lt 5, 3) := by decide +kernel
theorem dX8_cornersToFree_21 : decode cX8_cornersToFree 21 = .ok (.iconst 0, 1) := by decide +kernel
theorem dX8_cornersToFree_22 : decode cX8_cornersToFree 22 = .ok (.ireturn, 1) := by decide +kernel
theorem dX8_cornersToFree_23 : decode cX8_cornersToFree 23 = .ok (.aload_n 0, 1) := by decide +kernel
theorem dX8_cornersToFree_24 : decode cX8_cornersToFree 24 = .ok (.iload_n 1, 1) := by decide +kernel
theorem dX8_cornersToFree_25 : decode cX8_cornersToFree 25 = .ok (.iload_n 2, 1) := by decide +kernel
theorem dX8_cornersToFree_26 : decode cX8_cornersToFree 26 = .ok (.iconst 0, 1) := by decide +kernel
theorem dX8_cornersToFree_27 : decode cX8_cornersToFree 27 = .ok (.iload_n 3, 1) := by decide +kernel
theorem dX8_cornersToFree_28 : decode cX8_cornersToFree 28 = .ok (.iconst 1, 1) := by decide +kernel
theorem dX8_cornersToFree_29 : decode cX8_cornersToFree 29 = .ok (.iload 4, 2) := by decide +kernel
theorem dX8_cornersToFree_31 : decode cX8_cornersToFree 31 = .ok (.ishl, 1) := by decide +kernel
theorem dX8_cornersToFree_32 : decode cX8_cornersToFree 32 = .ok (.iconst 1, 1) := by decide +kernel
theorem dX8_cornersToFree_33 : decode cX8_cornersToFree 33 = .ok (.isub, 1) := by decide +kernel
theorem dX8_cornersToFree_34 : decode cX8_cornersToFree 34 = .ok (.invokevirtual 109, 3) := by decide +kernel
theorem dX8_cornersToFree_37 : decode cX8_cornersToFree 37 = .ok (.ifCond .ge 5, 3) := by decide +kernel
theorem dX8_cornersToFree_40 : decode cX8_cornersToFree 40 = .ok (.iconst (-1), 1) := by decide +kernel
theorem dX8_cornersToFree_41 : decode cX8_cornersToFree 41 = .ok (.ireturn, 1) := by decide +kernel
theorem dX8_cornersToFree_42 : decode cX8_cornersToFree 42 = .ok (.iconst 0, 1) := by decide +kernel
theorem dX8_cornersToFree_43 : decode cX8_cornersToFree 43 = .ok (.istore 5, 2) := by decide +kernel
theorem dX8_cornersToFree_45 : decode cX8_cornersToFree 45 = .ok (.iload 5, 2) := by decide +kernel
theorem dX8_cornersToFree_47 : decode cX8_cornersToFree 47 = .ok (.iload 4, 2) := by decide +kernel
theorem dX8_cornersToFree_49 : decode cX8_cornersToFree 49 = .ok (.if_icmp .ge 29, 3) := by decide +kernel
theorem dX8_cornersToFree_52 : decode cX8_cornersToFree 52 = .ok (.aload_n 0, 1) := by decide +kernel
theorem dX8_cornersToFree_53 : decode cX8_cornersToFree 53 = .ok (.iload_n 1, 1) := by decide +kernel
theorem dX8_cornersToFree_54 : decode cX8_cornersToFree 54 = .ok (.iload_n 2, 1) := by decide +kernel
theorem dX8_cornersToFree_55 : decode cX8_cornersToFree 55 = .ok (.iconst 0, 1) := by decide +kernel
theorem dX8_cornersToFree_56 : decode cX8_cornersToFree 56 = .ok (.iload_n 3, 1) := by decide +kernel
theorem dX8_cornersToFree_57 : decode cX8_cornersToFree 57 = .ok (.iconst 1, 1) := by decide +kernel
theorem dX8_cornersToFree_58 : decode cX8_cornersToFree 58 = .ok (.iload 5, 2) := by decide +kernel
theorem dX8_cornersToFree_60 : decode cX8_cornersToFree 60 = .ok (.ishl, 1) := by decide +kernel
theorem dX8_cornersToFree_61 : decode cX8_cornersToFree 61 = .ok (.invokevirtual 109, 3) := by decide +kernel
theorem dX8_cornersToFree_64 : decode cX8_cornersToFree 64 = .ok (.ifCond .lt 8, 3) := by decide +kernel
theorem dX8_cornersToFree_67 : decode cX8_cornersToFree 67 = .ok (.iconst 1, 1) := by decide +kernel
theorem dX8_cornersToFree_68 : decode cX8_cornersToFree 68 = .ok (.iload 5, 2) := by decide +kernel
theorem dX8_cornersToFree_70 : decode cX8_cornersToFree 70 = .ok (.ishl, 1) := by decide +kernel
theorem dX8_cornersToFree_71 : decode cX8_cornersToFree 71 = .ok (.ireturn, 1) := by decide +kernel
theorem dX8_cornersToFree_72 : decode cX8_cornersToFree 72 = .ok (.iinc 5 1, 3) := by decide +kernel
theorem dX8_cornersToFree_75 : decode cX8_cornersToFree 75 = .ok (.goto (-30), 3) := by decide +kernel
theorem dX8_cornersToFree_78 : decode cX8_cornersToFree 78 = .ok (.iconst 1, 1) := by decide +kernel
theorem dX8_cornersToFree_79 : decode cX8_cornersToFree 79 = .ok (.istore 5, 2) := by decide +kernel
theorem dX8_cornersToFree_81 : decode cX8_cornersToFree 81 = .ok (.iload 5, 2) := by decide +kernel
theorem dX8_cornersToFree_83 : decode cX8_cornersToFree 83 = .ok (.iload 4, 2) := by decide +kernel
theorem dX8_cornersToFree_85 : decode cX8_cornersToFree 85 = .ok (.if_icmp .ge 55, 3) := by decide +kernel
theorem dX8_cornersToFree_88 : decode cX8_cornersToFree 88 = .ok (.iconst 0, 1) := by decide +kernel
theorem dX8_cornersToFree_89 : decode cX8_cornersToFree 89 = .ok (.istore 6, 2) := by decide +kernel
theorem dX8_cornersToFree_91 : decode cX8_cornersToFree 91 = .ok (.iload 6, 2) := by decide +kernel
theorem dX8_cornersToFree_93 : decode cX8_cornersToFree 93 = .ok (.iload 5, 2) := by decide +kernel
theorem dX8_cornersToFree_95 : decode cX8_cornersToFree 95 = .ok (.if_icmp .ge 39, 3) := by decide +kernel
theorem dX8_cornersToFree_98 : decode cX8_cornersToFree 98 = .ok (.aload_n 0, 1) := by decide +kernel
theorem dX8_cornersToFree_99 : decode cX8_cornersToFree 99 = .ok (.iload_n 1, 1) := by decide +kernel
theorem dX8_cornersToFree_100 : decode cX8_cornersToFree 100 = .ok (.iload_n 2, 1) := by decide +kernel
theorem dX8_cornersToFree_101 : decode cX8_cornersToFree 101 = .ok (.iconst 0, 1) := by decide +kernel
theorem dX8_cornersToFree_102 : decode cX8_cornersToFree 102 = .ok (.iload_n 3, 1) := by decide +kernel
theorem dX8_cornersToFree_103 : decode cX8_cornersToFree 103 = .ok (.iconst 1, 1) := by decide +kernel
theorem dX8_cornersToFree_104 : decode cX8_cornersToFree 104 = .ok (.iload 6, 2) := by decide +kernel
theorem dX8_cornersToFree_106 : decode cX8_cornersToFree 106 = .ok (.ishl, 1) := by decide +kernel
theorem dX8_cornersToFree_107 : decode cX8_cornersToFree 107 = .ok (.iconst 1, 1) := by decide +kernel
theorem dX8_cornersToFree_108 : decode cX8_cornersToFree 108 = .ok (.iload 5, 2) := by decide +kernel
theorem dX8_cornersToFree_110 : decode cX8_cornersToFree 110 = .ok (.ishl, 1) := by decide +kernel
theorem dX8_cornersToFree_111 : decode cX8_cornersToFree 111 = .ok (.ior, 1) := by decide +kernel
theorem dX8_cornersToFree_112 : decode cX8_cornersToFree 112 = .ok (.invokevirtual 109, 3) := by decide +kernel
theorem dX8_cornersToFree_115 : decode cX8_cornersToFree 115 = .ok (.ifCond .lt 13, 3) := by decide +kernel
theorem dX8_cornersToFree_118 : decode cX8_cornersToFree 118 = .ok (.iconst 1, 1) := by decide +kernel
theorem dX8_cornersToFree_119 : decode cX8_cornersToFree 119 = .ok (.iload 6, 2) := by decide +kernel
theorem dX8_cornersToFree_121 : decode cX8_cornersToFree 121 = .ok (.ishl, 1) := by decide +kernel
theorem dX8_cornersToFree_122 : decode cX8_cornersToFree 122 = .ok (.iconst 1, 1) := by decide +kernel
theorem dX8_cornersToFree_123 : decode cX8_cornersToFree 123 = .ok (.iload 5, 2) := by decide +kernel
theorem dX8_cornersToFree_125 : decode cX8_cornersToFree 125 = .ok (.ishl, 1) := by decide +kernel
theorem dX8_cornersToFree_126 : decode cX8_cornersToFree 126 = .ok (.ior, 1) := by decide +kernel
theorem dX8_cornersToFree_127 : decode cX8_cornersToFree 127 = .ok (.ireturn, 1) := by decide +kernel
theorem dX8_cornersToFree_128 : decode cX8_cornersToFree 128 = .ok (.iinc 6 1, 3) := by decide +kernel
theorem dX8_cornersToFree_131 : decode cX8_cornersToFree 131 = .ok (.goto (-40), 3) := by decide +kernel
theorem dX8_cornersToFree_134 : decode cX8_cornersToFree 134 = .ok (.iinc 5 1, 3) := by decide +kernel
theorem dX8_cornersToFree_137 : decode cX8_cornersToFree 137 = .ok (.goto (-56), 3) := by decide +kernel
theorem dX8_cornersToFree_140 : decode cX8_cornersToFree 140 = .ok (.iconst (-1), 1) := by decide +kernel
theorem dX8_cornersToFree_141 : decode cX8_cornersToFree 141 = .ok (.ireturn, 1) := by decide +kernel
theorem dX8_fewestLefts_0 : decode cX8_fewestLefts 0 = .ok (.aload_n 0, 1) := by decide +kernel
theorem dX8_fewestLefts_1 : decode cX8_fewestLefts 1 = .ok (.iload_n 1, 1) := by decide +kernel
theorem dX8_fewestLefts_2 : decode cX8_fewestLefts 2 = .ok (.invokevirtual 80, 3) := by decide +kernel
theorem dX8_fewestLefts_5 : decode cX8_fewestLefts 5 = .ok (.iconst (-1), 1) := by decide +kernel
theorem dX8_fewestLefts_6 : decode cX8_fewestLefts 6 = .ok (.istore 6, 2) := by decide +kernel
theorem dX8_fewestLefts_8 : decode cX8_fewestLefts 8 = .ok (.bipush 120, 2) := by decide +kernel
theorem dX8_fewestLefts_10 : decode cX8_fewestLefts 10 = .ok (.istore 7, 2) := by decide +kernel
theorem dX8_fewestLefts_12 : decode cX8_fewestLefts 12 = .ok (.iconst 0, 1) := by decide +kernel
theorem dX8_fewestLefts_13 : decode cX8_fewestLefts 13 = .ok (.istore 8, 2) := by decide +kernel
theorem dX8_fewestLefts_15 : decode cX8_fewestLefts 15 = .ok (.iload 8, 2) := by decide +kernel
theorem dX8_fewestLefts_17 : decode cX8_fewestLefts 17 = .ok (.iload 4, 2) := by decide +kernel
theorem dX8_fewestLefts_19 : decode cX8_fewestLefts 19 = .ok (.if_icmp .gt 68, 3) := by decide +kernel
theorem dX8_fewestLefts_22 : decode cX8_fewestLefts 22 = .ok (.iload 7, 2) := by decide +kernel
theorem dX8_fewestLefts_24 : decode cX8_fewestLefts 24 = .ok (.ifCond .lt 63, 3) := by decide +kernel
theorem dX8_fewestLefts_27 : decode cX8_fewestLefts 27 = .ok (.aload_n 0, 1) := by decide +kernel
theorem dX8_fewestLefts_28 : decode cX8_fewestLefts 28 = .ok (.iload_n 3, 1) := by decide +kernel
theorem dX8_fewestLefts_29 : decode cX8_fewestLefts 29 = .ok (.iload 7, 2) := by decide +kernel
theorem dX8_fewestLefts_31 : decode cX8_fewestLefts 31 = .ok (.invokevirtual 83, 3) := by decide +kernel
theorem dX8_fewestLefts_34 : decode cX8_fewestLefts 34 = .ok (.istore 9, 2) := by decide +kernel
theorem dX8_fewestLefts_36 : decode cX8_fewestLefts 36 = .ok (.iload 9, 2) := by decide +kernel
theorem dX8_fewestLefts_38 : decode cX8_fewestLefts 38 = .ok (.ifCond .lt 19, 3) := by decide +kernel
theorem dX8_fewestLefts_41 : decode cX8_fewestLefts 41 = .ok (.iload 9, 2) := by decide +kernel
theorem dX8_fewestLefts_43 : decode cX8_fewestLefts 43 = .ok (.istore 6, 2) := by decide +kernel
theorem dX8_fewestLefts_45 : decode cX8_fewestLefts 45 = .ok (.aload_n 0, 1) := by decide +kernel
theorem dX8_fewestLefts_46 : decode cX8_fewestLefts 46 = .ok (.iload 8, 2) := by decide +kernel
theorem dX8_fewestLefts_48 : decode cX8_fewestLefts 48 = .ok (.putfield 90, 3) := by decide +kernel
theorem dX8_fewestLefts_51 : decode cX8_fewestLefts 51 = .ok (.iload 9, 2) := by decide +kernel
theorem dX8_fewestLefts_53 : decode cX8_fewestLefts 53 = .ok (.iconst 1, 1) := by decide +kernel
theorem dX8_fewestLefts_54 : decode cX8_fewestLefts 54 = .ok (.isub, 1) := by decide +kernel
theorem dX8_fewestLefts_55 : decode cX8_fewestLefts 55 = .ok (.istore 7, 2) := by decide +kernel
theorem dX8_fewestLefts_57 : decode cX8_fewestLefts 57 = .ok (.iload 8, 2) := by decide +kernel
theorem dX8_fewestLefts_59 : decode cX8_fewestLefts 59 = .ok (.iload 4, 2) := by decide +kernel
theorem dX8_fewestLefts_61 : decode cX8_fewestLefts 61 = .ok (.if_icmp .ge 20, 3) := by decide +kernel
theorem dX8_fewestLefts_64 : decode cX8_fewestLefts 64 = .ok (.iload 7, 2) := by decide +kernel
theorem dX8_fewestLefts_66 : decode cX8_fewestLefts 66 = .ok (.ifCond .lt 15, 3) := by decide +kernel
theorem dX8_fewestLefts_69 : decode cX8_fewestLefts 69 = .ok (.aload_n 0, 1) := by decide +kernel
theorem dX8_fewestLefts_70 : decode cX8_fewestLefts 70 = .ok (.iload_n 2, 1) := by decide +kernel
theorem dX8_fewestLefts_71 : decode cX8_fewestLefts 71 = .ok (.iload 8, 2) := by decide +kernel
theorem dX8_fewestLefts_73 : decode cX8_fewestLefts 73 = .ok (.iadd, 1) := by decide +kernel
theorem dX8_fewestLefts_74 : decode cX8_fewestLefts 74 = .ok (.iload 5, 2) := by decide +kernel
theorem dX8_fewestLefts_76 : decode cX8_fewestLefts 76 = .ok (.iload 7, 2) := by decide +kernel
theorem dX8_fewestLefts_78 : decode cX8_fewestLefts 78 = .ok (.invokevirtual 86, 3) := by decide +kernel
theorem dX8_fewestLefts_81 : decode cX8_fewestLefts 81 = .ok (.iinc 8 1, 3) := by decide +kernel
theorem dX8_fewestLefts_84 : decode cX8_fewestLefts 84 = .ok (.goto (-69), 3) := by decide +kernel
theorem dX8_fewestLefts_87 : decode cX8_fewestLefts 87 = .ok (.iload 6, 2) := by decide +kernel
theorem dX8_fewestLefts_89 : decode cX8_fewestLefts 89 = .ok (.ireturn, 1) := by decide +kernel
theorem dX8_fewestStreets_0 : decode cX8_fewestStreets 0 = .ok (.aload_n 0, 1) := by decide +kernel
theorem dX8_fewestStreets_1 : decode cX8_fewestStreets 1 = .ok (.iload_n 1, 1) := by decide +kernel
theorem dX8_fewestStreets_2 : decode cX8_fewestStreets 2 = .ok (.invokevirtual 80, 3) := by decide +kernel
theorem dX8_fewestStreets_5 : decode cX8_fewestStreets 5 = .ok (.iconst 0, 1) := by decide +kernel
theorem dX8_fewestStreets_6 : decode cX8_fewestStreets 6 = .ok (.istore 6, 2) := by decide +kernel
theorem dX8_fewestStreets_8 : decode cX8_fewestStreets 8 = .ok (.iload 6, 2) := by decide +kernel
theorem dX8_fewestStreets_10 : decode cX8_fewestStreets 10 = .ok (.iload 4, 2) := by decide +kernel
theorem dX8_fewestStreets_12 : decode cX8_fewestStreets 12 = .ok (.if_icmp .gt 37, 3) := by decide +kernel
theorem dX8_fewestStreets_15 : decode cX8_fewestStreets 15 = .ok (.aload_n 0, 1) := by decide +kernel
theorem dX8_fewestStreets_16 : decode cX8_fewestStreets 16 = .ok (.iload_n 2, 1) := by decide +kernel
theorem dX8_fewestStreets_17 : decode cX8_fewestStreets 17 = .ok (.iload_n 3, 1) := by decide +kernel
theorem dX8_fewestStreets_18 : decode cX8_fewestStreets 18 = .ok (.invokevirtual 83, 3) := by decide +kernel
theorem dX8_fewestStreets_21 : decode cX8_fewestStreets 21 = .ok (.ifCond .lt 6, 3) := by decide +kernel
theorem dX8_fewestStreets_24 : decode cX8_fewestStreets 24 = .ok (.iload 6, 2) := by decide +kernel
theorem dX8_fewestStreets_26 : decode cX8_fewestStreets 26 = .ok (.ireturn, 1) := by decide +kernel
theorem dX8_fewestStreets_27 : decode cX8_fewestStreets 27 = .ok (.iload 6, 2) := by decide +kernel
theorem dX8_fewestStreets_29 : decode cX8_fewestStreets 29 = .ok (.iload 4, 2) := by decide +kernel
theorem dX8_fewestStreets_31 : decode cX8_fewestStreets 31 = .ok (.if_icmp .ge 12, 3) := by decide +kernel
theorem dX8_fewestStreets_34 : decode cX8_fewestStreets 34 = .ok (.aload_n 0, 1) := by decide +kernel
theorem dX8_fewestStreets_35 : decode cX8_fewestStreets 35 = .ok (.iload 6, 2) := by decide +kernel
theorem dX8_fewestStreets_37 : decode cX8_fewestStreets 37 = .ok (.iload 5, 2) := by decide +kernel
theorem dX8_fewestStreets_39 : decode cX8_fewestStreets 39 = .ok (.iload_n 3, 1) := by decide +kernel
theorem dX8_fewestStreets_40 : decode cX8_fewestStreets 40 = .ok (.invokevirtual 86, 3) := by decide +kernel
theorem dX8_fewestStreets_43 : decode cX8_fewestStreets 43 = .ok (.iinc 6 1, 3) := by decide +kernel
theorem dX8_fewestStreets_46 : decode cX8_fewestStreets 46 = .ok (.goto (-38), 3) := by decide +kernel
theorem dX8_fewestStreets_49 : decode cX8_fewestStreets 49 = .ok (.iconst (-1), 1) := by decide +kernel
theorem dX8_fewestStreets_50 : decode cX8_fewestStreets 50 = .ok (.ireturn, 1) := by decide +kernel
theorem dX8_goByLeft_0 : decode cX8_goByLeft 0 = .ok (.iconst 0, 1) := by decide +kernel
theorem dX8_goByLeft_1 : decode cX8_goByLeft 1 = .ok (.istore 6, 2) := by decide +kernel
theorem dX8_goByLeft_3 : decode cX8_goByLeft 3 = .ok (.iload 6, 2) := by decide +kernel
theorem dX8_goByLeft_5 : decode cX8_goByLeft 5 = .ok (.iconst 4, 1) := by decide +kernel
theorem dX8_goByLeft_6 : decode cX8_goByLeft 6 = .ok (.if_icmp .ge 85, 3) := by decide +kernel
theorem dX8_goByLeft_9 : decode cX8_goByLeft 9 = .ok (.iload 6, 2) := by decide +kernel
theorem dX8_goByLeft_11 : decode cX8_goByLeft 11 = .ok (.getstatic 44, 3) := by decide +kernel
theorem dX8_goByLeft_14 : decode cX8_goByLeft 14 = .ok (.iload_n 2, 1) := by decide +kernel
theorem dX8_goByLeft_15 : decode cX8_goByLeft 15 = .ok (.iaload, 1) := by decide +kernel
theorem dX8_goByLeft_16 : decode cX8_goByLeft 16 = .ok (.iadd, 1) := by decide +kernel
theorem dX8_goByLeft_17 : decode cX8_goByLeft 17 = .ok (.iconst 3, 1) := by decide +kernel
theorem dX8_goByLeft_18 : decode cX8_goByLeft 18 = .ok (.iand, 1) := by decide +kernel
theorem dX8_goByLeft_19 : decode cX8_goByLeft 19 = .ok (.istore 7, 2) := by decide +kernel
theorem dX8_goByLeft_21 : decode cX8_goByLeft 21 = .ok (.aload_n 0, 1) := by decide +kernel
theorem dX8_goByLeft_22 : decode cX8_goByLeft 22 = .ok (.getfield 11, 3) := by decide +kernel
theorem dX8_goByLeft_25 : decode cX8_goByLeft 25 = .ok (.iload_n 3, 1) := by decide +kernel
theorem dX8_goByLeft_26 : decode cX8_goByLeft 26 = .ok (.iload 6, 2) := by decide +kernel
theorem dX8_goByLeft_28 : decode cX8_goByLeft 28 = .ok (.iadd, 1) := by decide +kernel
theorem dX8_goByLeft_29 : decode cX8_goByLeft 29 = .ok (.iaload, 1) := by decide +kernel
theorem dX8_goByLeft_30 : decode cX8_goByLeft 30 = .ok (.iload 4, 2) := by decide +kernel
theorem dX8_goByLeft_32 : decode cX8_goByLeft 32 = .ok (.iand, 1) := by decide +kernel
theorem dX8_goByLeft_33 : decode cX8_goByLeft 33 = .ok (.aload_n 0, 1) := by decide +kernel
theorem dX8_goByLeft_34 : decode cX8_goByLeft 34 = .ok (.getfield 21, 3) := by decide +kernel
theorem dX8_goByLeft_37 : decode cX8_goByLeft 37 = .ok (.getfield 47, 3) := by decide +kernel
theorem dX8_goByLeft_40 : decode cX8_goByLeft 40 = .ok (.iload 7, 2) := by decide +kernel
theorem dX8_goByLeft_42 : decode cX8_goByLeft 42 = .ok (.iaload, 1) := by decide +kernel
theorem dX8_goByLeft_43 : decode cX8_goByLeft 43 = .ok (.iand, 1) := by decide +kernel
theorem dX8_goByLeft_44 : decode cX8_goByLeft 44 = .ok (.istore 8, 2) := by decide +kernel
theorem dX8_goByLeft_46 : decode cX8_goByLeft 46 = .ok (.iload 8, 2) := by decide +kernel
theorem dX8_goByLeft_48 : decode cX8_goByLeft 48 = .ok (.ifCond .eq 37, 3) := by decide +kernel
theorem dX8_goByLeft_51 : decode cX8_goByLeft 51 = .ok (.aload_n 0, 1) := by decide +kernel
theorem dX8_goByLeft_52 : decode cX8_goByLeft 52 = .ok (.getfield 15, 3) := by decide +kernel
theorem dX8_goByLeft_55 : decode cX8_goByLeft 55 = .ok (.iload 5, 2) := by decide +kernel
theorem dX8_goByLeft_57 : decode cX8_goByLeft 57 = .ok (.iload 7, 2) := by decide +kernel
theorem dX8_goByLeft_59 : decode cX8_goByLeft 59 = .ok (.iadd, 1) := by decide +kernel
theorem dX8_goByLeft_60 : decode cX8_goByLeft 60 = .ok (.dup2, 1) := by decide +kernel
theorem dX8_goByLeft_61 : decode cX8_goByLeft 61 = .ok (.iaload, 1) := by decide +kernel
theorem dX8_goByLeft_62 : decode cX8_goByLeft 62 = .ok (.aload_n 0, 1) := by decide +kernel
theorem dX8_goByLeft_63 : decode cX8_goByLeft 63 = .ok (.getfield 21, 3) := by decide +kernel
theorem dX8_goByLeft_66 : decode cX8_goByLeft 66 = .ok (.aload_n 0, 1) := by decide +kernel
theorem dX8_goByLeft_67 : decode cX8_goByLeft 67 = .ok (.getfield 25, 3) := by decide +kernel
theorem dX8_goByLeft_70 : decode cX8_goByLeft 70 = .ok (.iload_n 1, 1) := by decide +kernel
theorem dX8_goByLeft_71 : decode cX8_goByLeft 71 = .ok (.iload 7, 2) := by decide +kernel
theorem dX8_goByLeft_73 : decode cX8_goByLeft 73 = .ok (.iload 8, 2) := by decide +kernel
theorem dX8_goByLeft_75 : decode cX8_goByLeft 75 = .ok (.invokevirtual 50, 3) := by decide +kernel
theorem dX8_goByLeft_78 : decode cX8_goByLeft 78 = .ok (.iload 7, 2) := by decide +kernel
theorem dX8_goByLeft_80 : decode cX8_goByLeft 80 = .ok (.invokevirtual 39, 3) := by decide +kernel
theorem dX8_goByLeft_83 : decode cX8_goByLeft 83 = .ok (.ior, 1) := by decide +kernel
theorem dX8_goByLeft_84 : decode cX8_goByLeft 84 = .ok (.iastore, 1) := by decide +kernel
theorem dX8_goByLeft_85 : decode cX8_goByLeft 85 = .ok (.iinc 6 1, 3) := by decide +kernel
theorem dX8_goByLeft_88 : decode cX8_goByLeft 88 = .ok (.goto (-85), 3) := by decide +kernel
theorem dX8_goByLeft_91 : decode cX8_goByLeft 91 = .ok (.return_, 1) := by decide +kernel
theorem dX8_goByRights_0 : decode cX8_goByRights 0 = .ok (.iconst 0, 1) := by decide +kernel
theorem dX8_goByRights_1 : decode cX8_goByRights 1 = .ok (.istore_n 2, 1) := by decide +kernel
theorem dX8_goByRights_2 : decode cX8_goByRights 2 = .ok (.iload_n 2, 1) := by decide +kernel
theorem dX8_goByRights_3 : decode cX8_goByRights 3 = .ok (.iconst 4, 1) := by decide +kernel
theorem dX8_goByRights_4 : decode cX8_goByRights 4 = .ok (.if_icmp .ge 71, 3) := by decide +kernel
theorem dX8_goByRights_7 : decode cX8_goByRights 7 = .ok (.aload_n 0, 1) := by decide +kernel
theorem dX8_goByRights_8 : decode cX8_goByRights 8 = .ok (.getfield 11, 3) := by decide +kernel
theorem dX8_goByRights_11 : decode cX8_goByRights 11 = .ok (.iload_n 1, 1) := by decide +kernel
theorem dX8_goByRights_12 : decode cX8_goByRights 12 = .ok (.iload_n 2, 1) := by decide +kernel
theorem dX8_goByRights_13 : decode cX8_goByRights 13 = .ok (.iadd, 1) := by decide +kernel
theorem dX8_goByRights_14 : decode cX8_goByRights 14 = .ok (.iaload, 1) := by decide +kernel
theorem dX8_goByRights_15 : decode cX8_goByRights 15 = .ok (.istore_n 3, 1) := by decide +kernel
theorem dX8_goByRights_16 : decode cX8_goByRights 16 = .ok (.iload_n 3, 1) := by decide +kernel
theorem dX8_goByRights_17 : decode cX8_goByRights 17 = .ok (.ifCond .eq 52, 3) := by decide +kernel
theorem dX8_goByRights_20 : decode cX8_goByRights 20 = .ok (.iload_n 2, 1) := by decide +kernel
theorem dX8_goByRights_21 : decode cX8_goByRights 21 = .ok (.iconst 1, 1) := by decide +kernel
theorem dX8_goByRights_22 : decode cX8_goByRights 22 = .ok (.iadd, 1) := by decide +kernel
theorem dX8_goByRights_23 : decode cX8_goByRights 23 = .ok (.iconst 3, 1) := by decide +kernel
theorem dX8_goByRights_24 : decode cX8_goByRights 24 = .ok (.iand, 1) := by decide +kernel
theorem dX8_goByRights_25 : decode cX8_goByRights 25 = .ok (.istore 4, 2) := by decide +kernel
theorem dX8_goByRights_27 : decode cX8_goByRights 27 = .ok (.aload_n 0, 1) := by decide +kernel
theorem dX8_goByRights_28 : decode cX8_goByRights 28 = .ok (.getfield 15, 3) := by decide +kernel
theorem dX8_goByRights_31 : decode cX8_goByRights 31 = .ok (.iload_n 1, 1) := by decide +kernel
theorem dX8_goByRights_32 : decode cX8_goByRights 32 = .ok (.iload_n 2, 1) := by decide +kernel
theorem dX8_goByRights_33 : decode cX8_goByRights 33 = .ok (.iadd, 1) := by decide +kernel
theorem dX8_goByRights_34 : decode cX8_goByRights 34 = .ok (.dup2, 1) := by decide +kernel
theorem dX8_goByRights_35 : decode cX8_goByRights 35 = .ok (.iaload, 1) := by decide +kernel
theorem dX8_goByRights_36 : decode cX8_goByRights 36 = .ok (.aload_n 0, 1) := by decide +kernel
theorem dX8_goByRights_37 : decode cX8_goByRights 37 = .ok (.getfield 21, 3) := by decide +kernel
theorem dX8_goByRights_40 : decode cX8_goByRights 40 = .ok (.iload_n 3, 1) := by decide +kernel
theorem dX8_goByRights_41 : decode cX8_goByRights 41 = .ok (.iload_n 2, 1) := by decide +kernel
theorem dX8_goByRights_42 : decode cX8_goByRights 42 = .ok (.invokevirtual 39, 3) := by decide +kernel
theorem dX8_goByRights_45 : decode cX8_goByRights 45 = .ok (.ior, 1) := by decide +kernel
theorem dX8_goByRights_46 : decode cX8_goByRights 46 = .ok (.iastore, 1) := by decide +kernel
theorem dX8_goByRights_47 : decode cX8_goByRights 47 = .ok (.aload_n 0, 1) := by decide +kernel
theorem dX8_goByRights_48 : decode cX8_goByRights 48 = .ok (.getfield 15, 3) := by decide +kernel
theorem dX8_goByRights_51 : decode cX8_goByRights 51 = .ok (.iload_n 1, 1) := by decide +kernel
theorem dX8_goByRights_52 : decode cX8_goByRights 52 = .ok (.iload 4, 2) := by decide +kernel
theorem dX8_goByRights_54 : decode cX8_goByRights 54 = .ok (.iadd, 1) := by decide +kernel
theorem dX8_goByRights_55 : decode cX8_goByRights 55 = .ok (.dup2, 1) := by decide +kernel
theorem dX8_goByRights_56 : decode cX8_goByRights 56 = .ok (.iaload, 1) := by decide +kernel
theorem dX8_goByRights_57 : decode cX8_goByRights 57 = .ok (.aload_n 0, 1) := by decide +kernel
theorem dX8_goByRights_58 : decode cX8_goByRights 58 = .ok (.getfield 21, 3) := by decide +kernel
theorem dX8_goByRights_61 : decode cX8_goByRights 61 = .ok (.iload_n 3, 1) := by decide +kernel
theorem dX8_goByRights_62 : decode cX8_goByRights 62 = .ok (.iload 4, 2) := by decide +kernel
theorem dX8_goByRights_64 : decode cX8_goByRights 64 = .ok (.invokevirtual 39, 3) := by decide +kernel
theorem dX8_goByRights_67 : decode cX8_goByRights 67 = .ok (.ior, 1) := by decide +kernel
theorem dX8_goByRights_68 : decode cX8_goByRights 68 = .ok (.iastore, 1) := by decide +kernel
theorem dX8_goByRights_69 : decode cX8_goByRights 69 = .ok (.iinc 2 1, 3) := by decide +kernel
theorem dX8_goByRights_72 : decode cX8_goByRights 72 = .ok (.goto (-70), 3) := by decide +kernel
theorem dX8_goByRights_75 : decode cX8_goByRights 75 = .ok (.return_, 1) := by decide +kernel
theorem dX8_goLeaving_0 : decode cX8_goLeaving 0 = .ok (.aload 4, 2) := by decide +kernel
theorem dX8_goLeaving_2 : decode cX8_goLeaving 2 = .ok (.iload_n 2, 1) := by decide +kernel
theorem dX8_goLeaving_3 : decode cX8_goLeaving 3 = .ok (.invokevirtual 122, 3) := by decide +kernel
theorem dX8_goLeaving_6 : decode cX8_goLeaving 6 = .ok (.istore 5, 2) := by decide +kernel
theorem dX8_goLeaving_8 : decode cX8_goLeaving 8 = .ok (.iload 5, 2) := by decide +kernel
theorem dX8_goLeaving_10 : decode cX8_goLeaving 10 = .ok (.ifCond .ge 4, 3) := by decide +kernel
theorem dX8_goLeaving_13 : decode cX8_goLeaving 13 = .ok (.return_, 1) := by decide +kernel
theorem dX8_goLeaving_14 : decode cX8_goLeaving 14 = .ok (.iconst 1, 1) := by decide +kernel
theorem dX8_goLeaving_15 : decode cX8_goLeaving 15 = .ok (.iload 5, 2) := by decide +kernel
theorem dX8_goLeaving_17 : decode cX8_goLeaving 17 = .ok (.ishl, 1) := by decide +kernel
theorem dX8_goLeaving_18 : decode cX8_goLeaving 18 = .ok (.iload_n 3, 1) := by decide +kernel
theorem dX8_goLeaving_19 : decode cX8_goLeaving 19 = .ok (.iconst (-1), 1) := by decide +kernel
theorem dX8_goLeaving_20 : decode cX8_goLeaving 20 = .ok (.ixor, 1) := by decide +kernel
theorem dX8_goLeaving_21 : decode cX8_goLeaving 21 = .ok (.iand, 1) := by decide +kernel
theorem dX8_goLeaving_22 : decode cX8_goLeaving 22 = .ok (.istore 6, 2) := by decide +kernel
theorem dX8_goLeaving_24 : decode cX8_goLeaving 24 = .ok (.aload_n 0, 1) := by decide +kernel
theorem dX8_goLeaving_25 : decode cX8_goLeaving 25 = .ok (.iload_n 1, 1) := by decide +kernel
theorem dX8_goLeaving_26 : decode cX8_goLeaving 26 = .ok (.iconst 2, 1) := by decide +kernel
theorem dX8_goLeaving_27 : decode cX8_goLeaving 27 = .ok (.iconst 4, 1) := by decide +kernel
theorem dX8_goLeaving_28 : decode cX8_goLeaving 28 = .ok (.iload_n 2, 1) := by decide +kernel
theorem dX8_goLeaving_29 : decode cX8_goLeaving 29 = .ok (.imul, 1) := by decide +kernel
theorem dX8_goLeaving_30 : decode cX8_goLeaving 30 = .ok (.iload 6, 2) := by decide +kernel
theorem dX8_goLeaving_32 : decode cX8_goLeaving 32 = .ok (.iconst 4, 1) := by decide +kernel
theorem dX8_goLeaving_33 : decode cX8_goLeaving 33 = .ok (.iload_n 2, 1) := by decide +kernel
theorem dX8_goLeaving_34 : decode cX8_goLeaving 34 = .ok (.imul, 1) := by decide +kernel
theorem dX8_goLeaving_35 : decode cX8_goLeaving 35 = .ok (.iconst 4, 1) := by decide +kernel
theorem dX8_goLeaving_36 : decode cX8_goLeaving 36 = .ok (.iadd, 1) := by decide +kernel
theorem dX8_goLeaving_37 : decode cX8_goLeaving 37 = .ok (.invokevirtual 64, 3) := by decide +kernel
theorem dX8_goLeaving_40 : decode cX8_goLeaving 40 = .ok (.aload 4, 2) := by decide +kernel
theorem dX8_goLeaving_42 : decode cX8_goLeaving 42 = .ok (.iload_n 2, 1) := by decide +kernel
theorem dX8_goLeaving_43 : decode cX8_goLeaving 43 = .ok (.iconst 1, 1) := by decide +kernel
theorem dX8_goLeaving_44 : decode cX8_goLeaving 44 = .ok (.iadd, 1) := by decide +kernel
theorem dX8_goLeaving_45 : decode cX8_goLeaving 45 = .ok (.invokevirtual 122, 3) := by decide +kernel
theorem dX8_goLeaving_48 : decode cX8_goLeaving 48 = .ok (.iload 5, 2) := by decide +kernel
theorem dX8_goLeaving_50 : decode cX8_goLeaving 50 = .ok (.if_icmp .ne 20, 3) := by decide +kernel
theorem dX8_goLeaving_53 : decode cX8_goLeaving 53 = .ok (.aload_n 0, 1) := by decide +kernel
theorem dX8_goLeaving_54 : decode cX8_goLeaving 54 = .ok (.iload_n 1, 1) := by decide +kernel
theorem dX8_goLeaving_55 : decode cX8_goLeaving 55 = .ok (.iconst 3, 1) := by decide +kernel
theorem dX8_goLeaving_56 : decode cX8_goLeaving 56 = .ok (.iconst 4, 1) := by decide +kernel
theorem dX8_goLeaving_57 : decode cX8_goLeaving 57 = .ok (.iload_n 2, 1) := by decide +kernel
theorem dX8_goLeaving_58 : decode cX8_goLeaving 58 = .ok (.imul, 1) := by decide +kernel
theorem dX8_goLeaving_59 : decode cX8_goLeaving 59 = .ok (.iload 6, 2) := by decide +kernel
theorem dX8_goLeaving_61 : decode cX8_goLeaving 61 = .ok (.iconst 4, 1) := by decide +kernel
theorem dX8_goLeaving_62 : decode cX8_goLeaving 62 = .ok (.iload_n 2, 1) := by decide +kernel
theorem dX8_goLeaving_63 : decode cX8_goLeaving 63 = .ok (.imul, 1) := by decide +kernel
theorem dX8_goLeaving_64 : decode cX8_goLeaving 64 = .ok (.bipush 8, 2) := by decide +kernel
theorem dX8_goLeaving_66 : decode cX8_goLeaving 66 = .ok (.iadd, 1) := by decide +kernel
theorem dX8_goLeaving_67 : decode cX8_goLeaving 67 = .ok (.invokevirtual 64, 3) := by decide +kernel
theorem dX8_goLeaving_70 : decode cX8_goLeaving 70 = .ok (.return_, 1) := by decide +kernel
theorem dX8_goOn_0 : decode cX8_goOn 0 = .ok (.aload_n 0, 1) := by decide +kernel
theorem dX8_goOn_1 : decode cX8_goOn 1 = .ok (.getfield 25, 3) := by decide +kernel
theorem dX8_goOn_4 : decode cX8_goOn 4 = .ok (.iload_n 1, 1) := by decide +kernel
theorem dX8_goOn_5 : decode cX8_goOn 5 = .ok (.invokevirtual 56, 3) := by decide +kernel
theorem dX8_goOn_8 : decode cX8_goOn 8 = .ok (.iload_n 2, 1) := by decide +kernel
theorem dX8_goOn_9 : decode cX8_goOn 9 = .ok (.ior, 1) := by decide +kernel
theorem dX8_goOn_10 : decode cX8_goOn 10 = .ok (.istore 4, 2) := by decide +kernel
theorem dX8_goOn_12 : decode cX8_goOn 12 = .ok (.iconst 0, 1) := by decide +kernel
theorem dX8_goOn_13 : decode cX8_goOn 13 = .ok (.istore 5, 2) := by decide +kernel
theorem dX8_goOn_15 : decode cX8_goOn 15 = .ok (.iload 5, 2) := by decide +kernel
theorem dX8_goOn_17 : decode cX8_goOn 17 = .ok (.aload_n 0, 1) := by decide +kernel
theorem dX8_goOn_18 : decode cX8_goOn 18 = .ok (.getfield 29, 3) := by decide +kernel
theorem dX8_goOn_21 : decode cX8_goOn 21 = .ok (.if_icmp .gt 88, 3) := by decide +kernel
theorem dX8_goOn_24 : decode cX8_goOn 24 = .ok (.iload 5, 2) := by decide +kernel
theorem dX8_goOn_26 : decode cX8_goOn 26 = .ok (.iload_n 3, 1) := by decide +kernel
theorem dX8_goOn_27 : decode cX8_goOn 27 = .ok (.if_icmp .gt 82, 3) := by decide +kernel
theorem dX8_goOn_30 : decode cX8_goOn 30 = .ok (.iconst 4, 1) := by decide +kernel
theorem dX8_goOn_31 : decode cX8_goOn 31 = .ok (.iload 5, 2) := by decide +kernel
theorem dX8_goOn_33 : decode cX8_goOn 33 = .ok (.imul, 1) := by decide +kernel
theorem dX8_goOn_34 : decode cX8_goOn 34 = .ok (.istore 6, 2) := by decide +kernel
theorem dX8_goOn_36 : decode cX8_goOn 36 = .ok (.aload_n 0, 1) := by decide +kernel
theorem dX8_goOn_37 : decode cX8_goOn 37 = .ok (.iload 6, 2) := by decide +kernel
theorem dX8_goOn_39 : decode cX8_goOn 39 = .ok (.invokevirtual 60, 3) := by decide +kernel
theorem dX8_goOn_42 : decode cX8_goOn 42 = .ok (.iconst 2, 1) := by decide +kernel
theorem dX8_goOn_43 : decode cX8_goOn 43 = .ok (.istore 7, 2) := by decide +kernel
theorem dX8_goOn_45 : decode cX8_goOn 45 = .ok (.iload 7, 2) := by decide +kernel
theorem dX8_goOn_47 : decode cX8_goOn 47 = .ok (.iconst 4, 1) := by decide +kernel
theorem dX8_goOn_48 : decode cX8_goOn 48 = .ok (.if_icmp .ge 55, 3) := by decide +kernel
theorem dX8_goOn_51 : decode cX8_goOn 51 = .ok (.aload_n 0, 1) := by decide +kernel
theorem dX8_goOn_52 : decode cX8_goOn 52 = .ok (.iload_n 1, 1) := by decide +kernel
theorem dX8_goOn_53 : decode cX8_goOn 53 = .ok (.iload 7, 2) := by decide +kernel
theorem dX8_goOn_55 : decode cX8_goOn 55 = .ok (.iload 6, 2) := by decide +kernel
theorem dX8_goOn_57 : decode cX8_goOn 57 = .ok (.iload 4, 2) := by decide +kernel
theorem dX8_goOn_59 : decode cX8_goOn 59 = .ok (.iload 6, 2) := by decide +kernel
theorem dX8_goOn_61 : decode cX8_goOn 61 = .ok (.invokevirtual 64, 3) := by decide +kernel
theorem dX8_goOn_64 : decode cX8_goOn 64 = .ok (.iload 5, 2) := by decide +kernel
theorem dX8_goOn_66 : decode cX8_goOn 66 = .ok (.iload 7, 2) := by decide +kernel
theorem dX8_goOn_68 : decode cX8_goOn 68 = .ok (.iadd, 1) := by decide +kernel
theorem dX8_goOn_69 : decode cX8_goOn 69 = .ok (.iconst 1, 1) := by decide +kernel
theorem dX8_goOn_70 : decode cX8_goOn 70 = .ok (.isub, 1) := by decide +kernel
theorem dX8_goOn_71 : decode cX8_goOn 71 = .ok (.iload_n 3, 1) := by decide +kernel
theorem dX8_goOn_72 : decode cX8_goOn 72 = .ok (.if_icmp .gt 25, 3) := by decide +kernel
theorem dX8_goOn_75 : decode cX8_goOn 75 = .ok (.aload_n 0, 1) := by decide +kernel
theorem dX8_goOn_76 : decode cX8_goOn 76 = .ok (.iload_n 1, 1) := by decide +kernel
theorem dX8_goOn_77 : decode cX8_goOn 77 = .ok (.iload 7, 2) := by decide +kernel
theorem dX8_goOn_79 : decode cX8_goOn 79 = .ok (.iload 6, 2) := by decide +kernel
theorem dX8_goOn_81 : decode cX8_goOn 81 = .ok (.iload 4, 2) := by decide +kernel
theorem dX8_goOn_83 : decode cX8_goOn 83 = .ok (.iconst (-1), 1) := by decide +kernel
theorem dX8_goOn_84 : decode cX8_goOn 84 = .ok (.ixor, 1) := by decide +kernel
theorem dX8_goOn_85 : decode cX8_goOn 85 = .ok (.iload 6, 2) := by decide +kernel
theorem dX8_goOn_87 : decode cX8_goOn 87 = .ok (.iconst 4, 1) := by decide +kernel
theorem dX8_goOn_88 : decode cX8_goOn 88 = .ok (.iload 7, 2) := by decide +kernel
theorem dX8_goOn_90 : decode cX8_goOn 90 = .ok (.iconst 1, 1) := by decide +kernel
theorem dX8_goOn_91 : decode cX8_goOn 91 = .ok (.isub, 1) := by decide +kernel
theorem dX8_goOn_92 : decode cX8_goOn 92 = .ok (.imul, 1) := by decide +kernel
theorem dX8_goOn_93 : decode cX8_goOn 93 = .ok (.iadd, 1) := by decide +kernel
theorem dX8_goOn_94 : decode cX8_goOn 94 = .ok (.invokevirtual 64, 3) := by decide +kernel
theorem dX8_goOn_97 : decode cX8_goOn 97 = .ok (.iinc 7 1, 3) := by decide +kernel
theorem dX8_goOn_100 : decode cX8_goOn 100 = .ok (.goto (-55), 3) := by decide +kernel
theorem dX8_goOn_103 : decode cX8_goOn 103 = .ok (.iinc 5 1, 3) := by decide +kernel
theorem dX8_goOn_106 : decode cX8_goOn 106 = .ok (.goto (-91), 3) := by decide +kernel
theorem dX8_goOn_109 : decode cX8_goOn 109 = .ok (.aload_n 0, 1) := by decide +kernel
theorem dX8_goOn_110 : decode cX8_goOn 110 = .ok (.aload_n 0, 1) := by decide +kernel
theorem dX8_goOn_111 : decode cX8_goOn 111 = .ok (.getfield 29, 3) := by decide +kernel
theorem dX8_goOn_114 : decode cX8_goOn 114 = .ok (.iconst 2, 1) := by decide +kernel
theorem dX8_goOn_115 : decode cX8_goOn 115 = .ok (.iadd, 1) := by decide +kernel
theorem dX8_goOn_116 : decode cX8_goOn 116 = .ok (.iload_n 3, 1) := by decide +kernel
theorem dX8_goOn_117 : decode cX8_goOn 117 = .ok (.invokestatic 68, 3) := by decide +kernel
theorem dX8_goOn_120 : decode cX8_goOn 120 = .ok (.invokevirtual 71, 3) := by decide +kernel
theorem dX8_goOn_123 : decode cX8_goOn 123 = .ok (.aload_n 0, 1) := by decide +kernel
theorem dX8_goOn_124 : decode cX8_goOn 124 = .ok (.invokevirtual 74, 3) := by decide +kernel
theorem dX8_goOn_127 : decode cX8_goOn 127 = .ok (.return_, 1) := by decide +kernel
theorem dX8_leastForAll_0 : decode cX8_leastForAll 0 = .ok (.aload_n 0, 1) := by decide +kernel
theorem dX8_leastForAll_1 : decode cX8_leastForAll 1 = .ok (.iload_n 1, 1) := by decide +kernel
theorem dX8_leastForAll_2 : decode cX8_leastForAll 2 = .ok (.bipush 120, 2) := by decide +kernel
theorem dX8_leastForAll_4 : decode cX8_leastForAll 4 = .ok (.invokevirtual 98, 3) := by decide +kernel
theorem dX8_leastForAll_7 : decode cX8_leastForAll 7 = .ok (.iconst 0, 1) := by decide +kernel
theorem dX8_leastForAll_8 : decode cX8_leastForAll 8 = .ok (.istore_n 2, 1) := by decide +kernel
theorem dX8_leastForAll_9 : decode cX8_leastForAll 9 = .ok (.iconst 0, 1) := by decide +kernel
theorem dX8_leastForAll_10 : decode cX8_leastForAll 10 = .ok (.istore_n 3, 1) := by decide +kernel
theorem dX8_leastForAll_11 : decode cX8_leastForAll 11 = .ok (.iconst 0, 1) := by decide +kernel
theorem dX8_leastForAll_12 : decode cX8_leastForAll 12 = .ok (.istore 4, 2) := by decide +kernel
theorem dX8_leastForAll_14 : decode cX8_leastForAll 14 = .ok (.iload 4, 2) := by decide +kernel
theorem dX8_leastForAll_16 : decode cX8_leastForAll 16 = .ok (.bipush 120, 2) := by decide +kernel
theorem dX8_leastForAll_18 : decode cX8_leastForAll 18 = .ok (.if_icmp .gt 36, 3) := by decide +kernel
theorem dX8_leastForAll_21 : decode cX8_leastForAll 21 = .ok (.aload_n 0, 1) := by decide +kernel
theorem dX8_leastForAll_22 : decode cX8_leastForAll 22 = .ok (.getfield 18, 3) := by decide +kernel
theorem dX8_leastForAll_25 : decode cX8_leastForAll 25 = .ok (.iload 4, 2) := by decide +kernel
theorem dX8_leastForAll_27 : decode cX8_leastForAll 27 = .ok (.iaload, 1) := by decide +kernel
theorem dX8_leastForAll_28 : decode cX8_leastForAll 28 = .ok (.iload_n 2, 1) := by decide +kernel
theorem dX8_leastForAll_29 : decode cX8_leastForAll 29 = .ok (.iconst (-1), 1) := by decide +kernel
theorem dX8_leastForAll_30 : decode cX8_leastForAll 30 = .ok (.ixor, 1) := by decide +kernel
theorem dX8_leastForAll_31 : decode cX8_leastForAll 31 = .ok (.iand, 1) := by decide +kernel
theorem dX8_leastForAll_32 : decode cX8_leastForAll 32 = .ok (.ifCond .eq 16, 3) := by decide +kernel
theorem dX8_leastForAll_35 : decode cX8_leastForAll 35 = .ok (.iload_n 2, 1) := by decide +kernel
theorem dX8_leastForAll_36 : decode cX8_leastForAll 36 = .ok (.aload_n 0, 1) := by decide +kernel
theorem dX8_leastForAll_37 : decode cX8_leastForAll 37 = .ok (.getfield 18, 3) := by decide +kernel
theorem dX8_leastForAll_40 : decode cX8_leastForAll 40 = .ok (.iload 4, 2) := by decide +kernel
theorem dX8_leastForAll_42 : decode cX8_leastForAll 42 = .ok (.iaload, 1) := by decide +kernel
theorem dX8_leastForAll_43 : decode cX8_leastForAll 43 = .ok (.ior, 1) := by decide +kernel
theorem dX8_leastForAll_44 : decode cX8_leastForAll 44 = .ok (.istore_n 2, 1) := by decide +kernel
theorem dX8_leastForAll_45 : decode cX8_leastForAll 45 = .ok (.iload 4, 2) := by decide +kernel
theorem dX8_leastForAll_47 : decode cX8_leastForAll 47 = .ok (.istore_n 3, 1) := by decide +kernel
theorem dX8_leastForAll_48 : decode cX8_leastForAll 48 = .ok (.iinc 4 1, 3) := by decide +kernel
theorem dX8_leastForAll_51 : decode cX8_leastForAll 51 = .ok (.goto (-37), 3) := by decide +kernel
theorem dX8_leastForAll_54 : decode cX8_leastForAll 54 = .ok (.iload_n 3, 1) := by decide +kernel
theorem dX8_leastForAll_55 : decode cX8_leastForAll 55 = .ok (.ireturn, 1) := by decide +kernel
theorem dX8_leftByRights_0 : decode cX8_leftByRights 0 = .ok (.aload_n 0, 1) := by decide +kernel
theorem dX8_leftByRights_1 : decode cX8_leftByRights 1 = .ok (.getfield 21, 3) := by decide +kernel
theorem dX8_leftByRights_4 : decode cX8_leftByRights 4 = .ok (.iload_n 1, 1) := by decide +kernel
theorem dX8_leftByRights_5 : decode cX8_leftByRights 5 = .ok (.iconst 2, 1) := by decide +kernel
theorem dX8_leftByRights_6 : decode cX8_leftByRights 6 = .ok (.ishr, 1) := by decide +kernel
theorem dX8_leftByRights_7 : decode cX8_leftByRights 7 = .ok (.iload_n 1, 1) := by decide +kernel
theorem dX8_leftByRights_8 : decode cX8_leftByRights 8 = .ok (.iconst 3, 1) := by decide +kernel
theorem dX8_leftByRights_9 : decode cX8_leftByRights 9 = .ok (.iadd, 1) := by decide +kernel
theorem dX8_leftByRights_10 : decode cX8_leftByRights 10 = .ok (.iconst 3, 1) := by decide +kernel
theorem dX8_leftByRights_11 : decode cX8_leftByRights 11 = .ok (.iand, 1) := by decide +kernel
theorem dX8_leftByRights_12 : decode cX8_leftByRights 12 = .ok (.invokevirtual 102, 3) := by decide +kernel
theorem dX8_leftByRights_15 : decode cX8_leftByRights 15 = .ok (.istore_n 2, 1) := by decide +kernel
theorem dX8_leftByRights_16 : decode cX8_leftByRights 16 = .ok (.iload_n 2, 1) := by decide +kernel
theorem dX8_leftByRights_17 : decode cX8_leftByRights 17 = .ok (.ifCond .ge 5, 3) := by decide +kernel
theorem dX8_leftByRights_20 : decode cX8_leftByRights 20 = .ok (.iconst (-1), 1) := by decide +kernel
theorem dX8_leftByRights_21 : decode cX8_leftByRights 21 = .ok (.ireturn, 1) := by decide +kernel
theorem dX8_leftByRights_22 : decode cX8_leftByRights 22 = .ok (.aload_n 0, 1) := by decide +kernel
theorem dX8_leftByRights_23 : decode cX8_leftByRights 23 = .ok (.iload_n 1, 1) := by decide +kernel
theorem dX8_leftByRights_24 : decode cX8_leftByRights 24 = .ok (.invokevirtual 80, 3) := by decide +kernel
theorem dX8_leftByRights_27 : decode cX8_leftByRights 27 = .ok (.iconst 1, 1) := by decide +kernel
theorem dX8_leftByRights_28 : decode cX8_leftByRights 28 = .ok (.istore_n 3, 1) := by decide +kernel
theorem dX8_leftByRights_29 : decode cX8_leftByRights 29 = .ok (.iload_n 3, 1) := by decide +kernel
theorem dX8_leftByRights_30 : decode cX8_leftByRights 30 = .ok (.bipush 60, 2) := by decide +kernel
theorem dX8_leftByRights_32 : decode cX8_leftByRights 32 = .ok (.if_icmp .gt 33, 3) := by decide +kernel
theorem dX8_leftByRights_35 : decode cX8_leftByRights 35 = .ok (.aload_n 0, 1) := by decide +kernel
theorem dX8_leftByRights_36 : decode cX8_leftByRights 36 = .ok (.iconst 0, 1) := by decide +kernel
theorem dX8_leftByRights_37 : decode cX8_leftByRights 37 = .ok (.invokevirtual 60, 3) := by decide +kernel
theorem dX8_leftByRights_40 : decode cX8_leftByRights 40 = .ok (.aload_n 0, 1) := by decide +kernel
theorem dX8_leftByRights_41 : decode cX8_leftByRights 41 = .ok (.iconst 0, 1) := by decide +kernel
theorem dX8_leftByRights_42 : decode cX8_leftByRights 42 = .ok (.invokevirtual 71, 3) := by decide +kernel
theorem dX8_leftByRights_45 : decode cX8_leftByRights 45 = .ok (.aload_n 0, 1) := by decide +kernel
theorem dX8_leftByRights_46 : decode cX8_leftByRights 46 = .ok (.iconst 0, 1) := by decide +kernel
theorem dX8_leftByRights_47 : decode cX8_leftByRights 47 = .ok (.invokevirtual 77, 3) := by decide +kernel
theorem dX8_leftByRights_50 : decode cX8_leftByRights 50 = .ok (.iload_n 2, 1) := by decide +kernel
theorem dX8_leftByRights_51 : decode cX8_leftByRights 51 = .ok (.ishr, 1) := by decide +kernel
theorem dX8_leftByRights_52 : decode cX8_leftByRights 52 = .ok (.iconst 1, 1) := by decide +kernel
theorem dX8_leftByRights_53 : decode cX8_leftByRights 53 = .ok (.iand, 1) := by decide +kernel
theorem dX8_leftByRights_54 : decode cX8_leftByRights 54 = .ok (.ifCond .eq 5, 3) := by decide +kernel
theorem dX8_leftByRights_57 : decode cX8_leftByRights 57 = .ok (.iload_n 3, 1) := by decide +kernel
theorem dX8_leftByRights_58 : decode cX8_leftByRights 58 = .ok (.ireturn, 1) := by decide +kernel
theorem dX8_leftByRights_59 : decode cX8_leftByRights 59 = .ok (.iinc 3 1, 3) := by decide +kernel
theorem dX8_leftByRights_62 : decode cX8_leftByRights 62 = .ok (.goto (-33), 3) := by decide +kernel
theorem dX8_leftByRights_65 : decode cX8_leftByRights 65 = .ok (.iconst (-1), 1) := by decide +kernel
theorem dX8_leftByRights_66 : decode cX8_leftByRights 66 = .ok (.ireturn, 1) := by decide +kernel
theorem dX8_lowest_0 : decode cX8_lowest 0 = .ok (.iconst 0, 1) := by decide +kernel
theorem dX8_lowest_1 : decode cX8_lowest 1 = .ok (.istore_n 3, 1) := by decide +kernel
theorem dX8_lowest_2 : decode cX8_lowest 2 = .ok (.iload_n 3, 1) := by decide +kernel
theorem dX8_lowest_3 : decode cX8_lowest 3 = .ok (.aload_n 0, 1) := by decide +kernel
theorem dX8_lowest_4 : decode cX8_lowest 4 = .ok (.getfield 29, 3) := by decide +kernel
theorem dX8_lowest_7 : decode cX8_lowest 7 = .ok (.if_icmp .gt 28, 3) := by decide +kernel
theorem dX8_lowest_10 : decode cX8_lowest 10 = .ok (.iload_n 3, 1) := by decide +kernel
theorem dX8_lowest_11 : decode cX8_lowest 11 = .ok (.iload_n 2, 1) := by decide +kernel
theorem dX8_lowest_12 : decode cX8_lowest 12 = .ok (.if_icmp .gt 23, 3) := by decide +kernel
theorem dX8_lowest_15 : decode cX8_lowest 15 = .ok (.aload_n 0, 1) := by decide +kernel
theorem dX8_lowest_16 : decode cX8_lowest 16 = .ok (.iload_n 3, 1) := by decide +kernel
theorem dX8_lowest_17 : decode cX8_lowest 17 = .ok (.invokevirtual 77, 3) := by decide +kernel
theorem dX8_lowest_20 : decode cX8_lowest 20 = .ok (.iload_n 1, 1) := by decide +kernel
theorem dX8_lowest_21 : decode cX8_lowest 21 = .ok (.ishr, 1) := by decide +kernel
theorem dX8_lowest_22 : decode cX8_lowest 22 = .ok (.iconst 1, 1) := by decide +kernel
theorem dX8_lowest_23 : decode cX8_lowest 23 = .ok (.iand, 1) := by decide +kernel
theorem dX8_lowest_24 : decode cX8_lowest 24 = .ok (.ifCond .eq 5, 3) := by decide +kernel
theorem dX8_lowest_27 : decode cX8_lowest 27 = .ok (.iload_n 3, 1) := by decide +kernel
theorem dX8_lowest_28 : decode cX8_lowest 28 = .ok (.ireturn, 1) := by decide +kernel
theorem dX8_lowest_29 : decode cX8_lowest 29 = .ok (.iinc 3 1, 3) := by decide +kernel
theorem dX8_lowest_32 : decode cX8_lowest 32 = .ok (.goto (-30), 3) := by decide +kernel
theorem dX8_lowest_35 : decode cX8_lowest 35 = .ok (.iconst (-1), 1) := by decide +kernel
theorem dX8_lowest_36 : decode cX8_lowest 36 = .ok (.ireturn, 1) := by decide +kernel
theorem dX8_reachable_0 : decode cX8_reachable 0 = .ok (.aload_n 0, 1) := by decide +kernel
theorem dX8_reachable_1 : decode cX8_reachable 1 = .ok (.iload_n 1, 1) := by decide +kernel
theorem dX8_reachable_2 : decode cX8_reachable 2 = .ok (.iload_n 2, 1) := by decide +kernel
theorem dX8_reachable_3 : decode cX8_reachable 3 = .ok (.invokevirtual 98, 3) := by decide +kernel
theorem dX8_reachable_6 : decode cX8_reachable 6 = .ok (.iconst 0, 1) := by decide +kernel
theorem dX8_reachable_7 : decode cX8_reachable 7 = .ok (.istore_n 3, 1) := by decide +kernel
theorem dX8_reachable_8 : decode cX8_reachable 8 = .ok (.iconst 0, 1) := by decide +kernel
theorem dX8_reachable_9 : decode cX8_reachable 9 = .ok (.istore 4, 2) := by decide +kernel
theorem dX8_reachable_11 : decode cX8_reachable 11 = .ok (.iload 4, 2) := by decide +kernel
theorem dX8_reachable_13 : decode cX8_reachable 13 = .ok (.iload_n 2, 1) := by decide +kernel
theorem dX8_reachable_14 : decode cX8_reachable 14 = .ok (.if_icmp .gt 19, 3) := by decide +kernel
theorem dX8_reachable_17 : decode cX8_reachable 17 = .ok (.iload_n 3, 1) := by decide +kernel
theorem dX8_reachable_18 : decode cX8_reachable 18 = .ok (.aload_n 0, 1) := by decide +kernel
theorem dX8_reachable_19 : decode cX8_reachable 19 = .ok (.getfield 18, 3) := by decide +kernel
theorem dX8_reachable_22 : decode cX8_reachable 22 = .ok (.iload 4, 2) := by decide +kernel
theorem dX8_reachable_24 : decode cX8_reachable 24 = .ok (.iaload, 1) := by decide +kernel
theorem dX8_reachable_25 : decode cX8_reachable 25 = .ok (.ior, 1) := by decide +kernel
theorem dX8_reachable_26 : decode cX8_reachable 26 = .ok (.istore_n 3, 1) := by decide +kernel
theorem dX8_reachable_27 : decode cX8_reachable 27 = .ok (.iinc 4 1, 3) := by decide +kernel
theorem dX8_reachable_30 : decode cX8_reachable 30 = .ok (.goto (-19), 3) := by decide +kernel
theorem dX8_reachable_33 : decode cX8_reachable 33 = .ok (.iload_n 3, 1) := by decide +kernel
theorem dX8_reachable_34 : decode cX8_reachable 34 = .ok (.ireturn, 1) := by decide +kernel
theorem dX8_streets_0 : decode cX8_streets 0 = .ok (.aload_n 0, 1) := by decide +kernel
theorem dX8_streets_1 : decode cX8_streets 1 = .ok (.getfield 90, 3) := by decide +kernel
theorem dX8_streets_4 : decode cX8_streets 4 = .ok (.ireturn, 1) := by decide +kernel
theorem dX8_survey_0 : decode cX8_survey 0 = .ok (.aload_n 0, 1) := by decide +kernel
theorem dX8_survey_1 : decode cX8_survey 1 = .ok (.getfield 18, 3) := by decide +kernel
theorem dX8_survey_4 : decode cX8_survey 4 = .ok (.iconst 0, 1) := by decide +kernel
theorem dX8_survey_5 : decode cX8_survey 5 = .ok (.invokestatic 92, 3) := by decide +kernel
theorem dX8_survey_8 : decode cX8_survey 8 = .ok (.aload_n 0, 1) := by decide +kernel
theorem dX8_survey_9 : decode cX8_survey 9 = .ok (.iload_n 1, 1) := by decide +kernel
theorem dX8_survey_10 : decode cX8_survey 10 = .ok (.invokevirtual 80, 3) := by decide +kernel
theorem dX8_survey_13 : decode cX8_survey 13 = .ok (.iconst 0, 1) := by decide +kernel
theorem dX8_survey_14 : decode cX8_survey 14 = .ok (.istore_n 3, 1) := by decide +kernel
theorem dX8_survey_15 : decode cX8_survey 15 = .ok (.iload_n 3, 1) := by decide +kernel
theorem dX8_survey_16 : decode cX8_survey 16 = .ok (.bipush 60, 2) := by decide +kernel
theorem dX8_survey_18 : decode cX8_survey 18 = .ok (.if_icmp .gt 56, 3) := by decide +kernel
theorem dX8_survey_21 : decode cX8_survey 21 = .ok (.iconst 0, 1) := by decide +kernel
theorem dX8_survey_22 : decode cX8_survey 22 = .ok (.istore 4, 2) := by decide +kernel
theorem dX8_survey_24 : decode cX8_survey 24 = .ok (.iload 4, 2) := by decide +kernel
theorem dX8_survey_26 : decode cX8_survey 26 = .ok (.aload_n 0, 1) := by decide +kernel
theorem dX8_survey_27 : decode cX8_survey 27 = .ok (.getfield 29, 3) := by decide +kernel
theorem dX8_survey_30 : decode cX8_survey 30 = .ok (.if_icmp .gt 25, 3) := by decide +kernel
theorem dX8_survey_33 : decode cX8_survey 33 = .ok (.aload_n 0, 1) := by decide +kernel
theorem dX8_survey_34 : decode cX8_survey 34 = .ok (.getfield 18, 3) := by decide +kernel
theorem dX8_survey_37 : decode cX8_survey 37 = .ok (.iload 4, 2) := by decide +kernel
theorem dX8_survey_39 : decode cX8_survey 39 = .ok (.dup2, 1) := by decide +kernel
theorem dX8_survey_40 : decode cX8_survey 40 = .ok (.iaload, 1) := by decide +kernel
theorem dX8_survey_41 : decode cX8_survey 41 = .ok (.aload_n 0, 1) := by decide +kernel
theorem dX8_survey_42 : decode cX8_survey 42 = .ok (.iload 4, 2) := by decide +kernel
theorem dX8_survey_44 : decode cX8_survey 44 = .ok (.invokevirtual 77, 3) := by decide +kernel
theorem dX8_survey_47 : decode cX8_survey 47 = .ok (.ior, 1) := by decide +kernel
theorem dX8_survey_48 : decode cX8_survey 48 = .ok (.iastore, 1) := by decide +kernel
theorem dX8_survey_49 : decode cX8_survey 49 = .ok (.iinc 4 1, 3) := by decide +kernel
theorem dX8_survey_52 : decode cX8_survey 52 = .ok (.goto (-28), 3) := by decide +kernel
theorem dX8_survey_55 : decode cX8_survey 55 = .ok (.iload_n 3, 1) := by decide +kernel
theorem dX8_survey_56 : decode cX8_survey 56 = .ok (.bipush 60, 2) := by decide +kernel
theorem dX8_survey_58 : decode cX8_survey 58 = .ok (.if_icmp .ge 10, 3) := by decide +kernel
theorem dX8_survey_61 : decode cX8_survey 61 = .ok (.aload_n 0, 1) := by decide +kernel
theorem dX8_survey_62 : decode cX8_survey 62 = .ok (.iload_n 3, 1) := by decide +kernel
theorem dX8_survey_63 : decode cX8_survey 63 = .ok (.iconst 0, 1) := by decide +kernel
theorem dX8_survey_64 : decode cX8_survey 64 = .ok (.iload_n 2, 1) := by decide +kernel
theorem dX8_survey_65 : decode cX8_survey 65 = .ok (.invokevirtual 86, 3) := by decide +kernel
theorem dX8_survey_68 : decode cX8_survey 68 = .ok (.iinc 3 1, 3) := by decide +kernel
theorem dX8_survey_71 : decode cX8_survey 71 = .ok (.goto (-56), 3) := by decide +kernel
theorem dX8_survey_74 : decode cX8_survey 74 = .ok (.return_, 1) := by decide +kernel
theorem dX8_thin_0 : decode cX8_thin 0 = .ok (.iconst 0, 1) := by decide +kernel
theorem dX8_thin_1 : decode cX8_thin 1 = .ok (.istore_n 1, 1) := by decide +kernel
theorem dX8_thin_2 : decode cX8_thin 2 = .ok (.iconst 0, 1) := by decide +kernel
theorem dX8_thin_3 : decode cX8_thin 3 = .ok (.istore_n 2, 1) := by decide +kernel
theorem dX8_thin_4 : decode cX8_thin 4 = .ok (.iload_n 2, 1) := by decide +kernel
theorem dX8_thin_5 : decode cX8_thin 5 = .ok (.iconst 4, 1) := by decide +kernel
theorem dX8_thin_6 : decode cX8_thin 6 = .ok (.if_icmp .ge 76, 3) := by decide +kernel
theorem dX8_thin_9 : decode cX8_thin 9 = .ok (.iconst 0, 1) := by decide +kernel
theorem dX8_thin_10 : decode cX8_thin 10 = .ok (.istore_n 3, 1) := by decide +kernel
theorem dX8_thin_11 : decode cX8_thin 11 = .ok (.iconst 0, 1) := by decide +kernel
theorem dX8_thin_12 : decode cX8_thin 12 = .ok (.istore 4, 2) := by decide +kernel
theorem dX8_thin_14 : decode cX8_thin 14 = .ok (.iload 4, 2) := by decide +kernel
theorem dX8_thin_16 : decode cX8_thin 16 = .ok (.aload_n 0, 1) := by decide +kernel
theorem dX8_thin_17 : decode cX8_thin 17 = .ok (.getfield 29, 3) := by decide +kernel
theorem dX8_thin_20 : decode cX8_thin 20 = .ok (.if_icmp .gt 56, 3) := by decide +kernel
theorem dX8_thin_23 : decode cX8_thin 23 = .ok (.aload_n 0, 1) := by decide +kernel
theorem dX8_thin_24 : decode cX8_thin 24 = .ok (.getfield 11, 3) := by decide +kernel
theorem dX8_thin_27 : decode cX8_thin 27 = .ok (.iconst 4, 1) := by decide +kernel
theorem dX8_thin_28 : decode cX8_thin 28 = .ok (.iload 4, 2) := by decide +kernel
theorem dX8_thin_30 : decode cX8_thin 30 = .ok (.imul, 1) := by decide +kernel
theorem dX8_thin_31 : decode cX8_thin 31 = .ok (.iload_n 2, 1) := by decide +kernel
theorem dX8_thin_32 : decode cX8_thin 32 = .ok (.iadd, 1) := by decide +kernel
theorem dX8_thin_33 : decode cX8_thin 33 = .ok (.iaload, 1) := by decide +kernel
theorem dX8_thin_34 : decode cX8_thin 34 = .ok (.iload_n 3, 1) := by decide +kernel
theorem dX8_thin_35 : decode cX8_thin 35 = .ok (.iconst (-1), 1) := by decide +kernel
theorem dX8_thin_36 : decode cX8_thin 36 = .ok (.ixor, 1) := by decide +kernel
theorem dX8_thin_37 : decode cX8_thin 37 = .ok (.iand, 1) := by decide +kernel
theorem dX8_thin_38 : decode cX8_thin 38 = .ok (.istore 5, 2) := by decide +kernel
theorem dX8_thin_40 : decode cX8_thin 40 = .ok (.aload_n 0, 1) := by decide +kernel
theorem dX8_thin_41 : decode cX8_thin 41 = .ok (.getfield 11, 3) := by decide +kernel
theorem dX8_thin_44 : decode cX8_thin 44 = .ok (.iconst 4, 1) := by decide +kernel
theorem dX8_thin_45 : decode cX8_thin 45 = .ok (.iload 4, 2) := by decide +kernel
theorem dX8_thin_47 : decode cX8_thin 47 = .ok (.imul, 1) := by decide +kernel
theorem dX8_thin_48 : decode cX8_thin 48 = .ok (.iload_n 2, 1) := by decide +kernel
theorem dX8_thin_49 : decode cX8_thin 49 = .ok (.iadd, 1) := by decide +kernel
theorem dX8_thin_50 : decode cX8_thin 50 = .ok (.iload 5, 2) := by decide +kernel
theorem dX8_thin_52 : decode cX8_thin 52 = .ok (.iastore, 1) := by decide +kernel
theorem dX8_thin_53 : decode cX8_thin 53 = .ok (.iload 5, 2) := by decide +kernel
theorem dX8_thin_55 : decode cX8_thin 55 = .ok (.ifCond .eq 15, 3) := by decide +kernel
theorem dX8_thin_58 : decode cX8_thin 58 = .ok (.iload_n 3, 1) := by decide +kernel
theorem dX8_thin_59 : decode cX8_thin 59 = .ok (.iload 5, 2) := by decide +kernel
theorem dX8_thin_61 : decode cX8_thin 61 = .ok (.ior, 1) := by decide +kernel
theorem dX8_thin_62 : decode cX8_thin 62 = .ok (.istore_n 3, 1) := by decide +kernel
theorem dX8_thin_63 : decode cX8_thin 63 = .ok (.iload_n 1, 1) := by decide +kernel
theorem dX8_thin_64 : decode cX8_thin 64 = .ok (.iload 4, 2) := by decide +kernel
theorem dX8_thin_66 : decode cX8_thin 66 = .ok (.invokestatic 33, 3) := by decide +kernel
theorem dX8_thin_69 : decode cX8_thin 69 = .ok (.istore_n 1, 1) := by decide +kernel
theorem dX8_thin_70 : decode cX8_thin 70 = .ok (.iinc 4 1, 3) := by decide +kernel
theorem dX8_thin_73 : decode cX8_thin 73 = .ok (.goto (-59), 3) := by decide +kernel
theorem dX8_thin_76 : decode cX8_thin 76 = .ok (.iinc 2 1, 3) := by decide +kernel
theorem dX8_thin_79 : decode cX8_thin 79 = .ok (.goto (-75), 3) := by decide +kernel
theorem dX8_thin_82 : decode cX8_thin 82 = .ok (.aload_n 0, 1) := by decide +kernel
theorem dX8_thin_83 : decode cX8_thin 83 = .ok (.iload_n 1, 1) := by decide +kernel
theorem dX8_thin_84 : decode cX8_thin 84 = .ok (.putfield 29, 3) := by decide +kernel
theorem dX8_thin_87 : decode cX8_thin 87 = .ok (.return_, 1) := by decide +kernel
theorem dX8_whereByEnvelopes_0 : decode cX8_whereByEnvelopes 0 = .ok (.aload_n 2, 1) := by decide +kernel
theorem dX8_whereByEnvelopes_1 : decode cX8_whereByEnvelopes 1 = .ok (.getfield 113, 3) := by decide +kernel
theorem dX8_whereByEnvelopes_4 : decode cX8_whereByEnvelopes 4 = .ok (.istore 4, 2) := by decide +kernel
theorem dX8_whereByEnvelopes_6 : decode cX8_whereByEnvelopes 6 = .ok (.aload_n 0, 1) := by decide +kernel
theorem dX8_whereByEnvelopes_7 : decode cX8_whereByEnvelopes 7 = .ok (.iload_n 1, 1) := by decide +kernel
theorem dX8_whereByEnvelopes_8 : decode cX8_whereByEnvelopes 8 = .ok (.invokevirtual 80, 3) := by decide +kernel
theorem dX8_whereByEnvelopes_11 : decode cX8_whereByEnvelopes 11 = .ok (.iconst 0, 1) := by decide +kernel
theorem dX8_whereByEnvelopes_12 : decode cX8_whereByEnvelopes 12 = .ok (.istore 5, 2) := by decide +kernel
theorem dX8_whereByEnvelopes_14 : decode cX8_whereByEnvelopes 14 = .ok (.iload 5, 2) := by decide +kernel
theorem dX8_whereByEnvelopes_16 : decode cX8_whereByEnvelopes 16 = .ok (.iload_n 3, 1) := by decide +kernel
theorem dX8_whereByEnvelopes_17 : decode cX8_whereByEnvelopes 17 = .ok (.if_icmp .ge 106, 3) := by decide +kernel
theorem dX8_whereByEnvelopes_20 : decode cX8_whereByEnvelopes 20 = .ok (.aload_n 0, 1) := by decide +kernel
theorem dX8_whereByEnvelopes_21 : decode cX8_whereByEnvelopes 21 = .ok (.getfield 25, 3) := by decide +kernel
theorem dX8_whereByEnvelopes_24 : decode cX8_whereByEnvelopes 24 = .ok (.iload 5, 2) := by decide +kernel
theorem dX8_whereByEnvelopes_26 : decode cX8_whereByEnvelopes 26 = .ok (.invokevirtual 56, 3) := by decide +kernel
theorem dX8_whereByEnvelopes_29 : decode cX8_whereByEnvelopes 29 = .ok (.istore 6, 2) := by decide +kernel
theorem dX8_whereByEnvelopes_31 : decode cX8_whereByEnvelopes 31 = .ok (.iconst 0, 1) := by decide +kernel
theorem dX8_whereByEnvelopes_32 : decode cX8_whereByEnvelopes 32 = .ok (.istore 7, 2) := by decide +kernel
theorem dX8_whereByEnvelopes_34 : decode cX8_whereByEnvelopes 34 = .ok (.iload 7, 2) := by decide +kernel
theorem dX8_whereByEnvelopes_36 : decode cX8_whereByEnvelopes 36 = .ok (.aload_n 0, 1) := by decide +kernel
theorem dX8_whereByEnvelopes_37 : decode cX8_whereByEnvelopes 37 = .ok (.getfield 29, 3) := by decide +kernel
theorem dX8_whereByEnvelopes_40 : decode cX8_whereByEnvelopes 40 = .ok (.if_icmp .gt 62, 3) := by decide +kernel
theorem dX8_whereByEnvelopes_43 : decode cX8_whereByEnvelopes 43 = .ok (.aload_n 0, 1) := by decide +kernel
theorem dX8_whereByEnvelopes_44 : decode cX8_whereByEnvelopes 44 = .ok (.iconst 4, 1) := by decide +kernel
theorem dX8_whereByEnvelopes_45 : decode cX8_whereByEnvelopes 45 = .ok (.iload 7, 2) := by decide +kernel
theorem dX8_whereByEnvelopes_47 : decode cX8_whereByEnvelopes 47 = .ok (.imul, 1) := by decide +kernel
theorem dX8_whereByEnvelopes_48 : decode cX8_whereByEnvelopes 48 = .ok (.invokevirtual 60, 3) := by decide +kernel
theorem dX8_whereByEnvelopes_51 : decode cX8_whereByEnvelopes 51 = .ok (.aload_n 0, 1) := by decide +kernel
theorem dX8_whereByEnvelopes_52 : decode cX8_whereByEnvelopes 52 = .ok (.iload 5, 2) := by decide +kernel
theorem dX8_whereByEnvelopes_54 : decode cX8_whereByEnvelopes 54 = .ok (.iconst 2, 1) := by decide +kernel
theorem dX8_whereByEnvelopes_55 : decode cX8_whereByEnvelopes 55 = .ok (.iconst 4, 1) := by decide +kernel
theorem dX8_whereByEnvelopes_56 : decode cX8_whereByEnvelopes 56 = .ok (.iload 7, 2) := by decide +kernel
theorem dX8_whereByEnvelopes_58 : decode cX8_whereByEnvelopes 58 = .ok (.imul, 1) := by decide +kernel
theorem dX8_whereByEnvelopes_59 : decode cX8_whereByEnvelopes 59 = .ok (.iload 6, 2) := by decide +kernel
theorem dX8_whereByEnvelopes_61 : decode cX8_whereByEnvelopes 61 = .ok (.iconst 4, 1) := by decide +kernel
theorem dX8_whereByEnvelopes_62 : decode cX8_whereByEnvelopes 62 = .ok (.iload 7, 2) := by decide +kernel
theorem dX8_whereByEnvelopes_64 : decode cX8_whereByEnvelopes 64 = .ok (.imul, 1) := by decide +kernel
theorem dX8_whereByEnvelopes_65 : decode cX8_whereByEnvelopes 65 = .ok (.invokevirtual 64, 3) := by decide +kernel
theorem dX8_whereByEnvelopes_68 : decode cX8_whereByEnvelopes 68 = .ok (.aload_n 0, 1) := by decide +kernel
theorem dX8_whereByEnvelopes_69 : decode cX8_whereByEnvelopes 69 = .ok (.iload 5, 2) := by decide +kernel
theorem dX8_whereByEnvelopes_71 : decode cX8_whereByEnvelopes 71 = .ok (.iconst 3, 1) := by decide +kernel
theorem dX8_whereByEnvelopes_72 : decode cX8_whereByEnvelopes 72 = .ok (.iconst 4, 1) := by decide +kernel
theorem dX8_whereByEnvelopes_73 : decode cX8_whereByEnvelopes 73 = .ok (.iload 7, 2) := by decide +kernel
theorem dX8_whereByEnvelopes_75 : decode cX8_whereByEnvelopes 75 = .ok (.imul, 1) := by decide +kernel
theorem dX8_whereByEnvelopes_76 : decode cX8_whereByEnvelopes 76 = .ok (.iload 6, 2) := by decide +kernel
theorem dX8_whereByEnvelopes_78 : decode cX8_whereByEnvelopes 78 = .ok (.iconst 4, 1) := by decide +kernel
theorem dX8_whereByEnvelopes_79 : decode cX8_whereByEnvelopes 79 = .ok (.iload 7, 2) := by decide +kernel
theorem dX8_whereByEnvelopes_81 : decode cX8_whereByEnvelopes 81 = .ok (.imul, 1) := by decide +kernel
theorem dX8_whereByEnvelopes_82 : decode cX8_whereByEnvelopes 82 = .ok (.invokevirtual 64, 3) := by decide +kernel
theorem dX8_whereByEnvelopes_85 : decode cX8_whereByEnvelopes 85 = .ok (.aload_n 0, 1) := by decide +kernel
theorem dX8_whereByEnvelopes_86 : decode cX8_whereByEnvelopes 86 = .ok (.iload 5, 2) := by decide +kernel
theorem dX8_whereByEnvelopes_88 : decode cX8_whereByEnvelopes 88 = .ok (.iload 7, 2) := by decide +kernel
theorem dX8_whereByEnvelopes_90 : decode cX8_whereByEnvelopes 90 = .ok (.iload 6, 2) := by decide +kernel
theorem dX8_whereByEnvelopes_92 : decode cX8_whereByEnvelopes 92 = .ok (.aload_n 2, 1) := by decide +kernel
theorem dX8_whereByEnvelopes_93 : decode cX8_whereByEnvelopes 93 = .ok (.invokevirtual 118, 3) := by decide +kernel
theorem dX8_whereByEnvelopes_96 : decode cX8_whereByEnvelopes 96 = .ok (.iinc 7 1, 3) := by decide +kernel
theorem dX8_whereByEnvelopes_99 : decode cX8_whereByEnvelopes 99 = .ok (.goto (-65), 3) := by decide +kernel
theorem dX8_whereByEnvelopes_102 : decode cX8_whereByEnvelopes 102 = .ok (.aload_n 0, 1) := by decide +kernel
theorem dX8_whereByEnvelopes_103 : decode cX8_whereByEnvelopes 103 = .ok (.aload_n 0, 1) := by decide +kernel
theorem dX8_whereByEnvelopes_104 : decode cX8_whereByEnvelopes 104 = .ok (.getfield 29, 3) := by decide +kernel
theorem dX8_whereByEnvelopes_107 : decode cX8_whereByEnvelopes 107 = .ok (.iconst 2, 1) := by decide +kernel
theorem dX8_whereByEnvelopes_108 : decode cX8_whereByEnvelopes 108 = .ok (.iadd, 1) := by decide +kernel
theorem dX8_whereByEnvelopes_109 : decode cX8_whereByEnvelopes 109 = .ok (.iload 4, 2) := by decide +kernel
theorem dX8_whereByEnvelopes_111 : decode cX8_whereByEnvelopes 111 = .ok (.invokestatic 68, 3) := by decide +kernel
theorem dX8_whereByEnvelopes_114 : decode cX8_whereByEnvelopes 114 = .ok (.invokevirtual 71, 3) := by decide +kernel
theorem dX8_whereByEnvelopes_117 : decode cX8_whereByEnvelopes 117 = .ok (.iinc 5 1, 3) := by decide +kernel
theorem dX8_whereByEnvelopes_120 : decode cX8_whereByEnvelopes 120 = .ok (.goto (-106), 3) := by decide +kernel
theorem dX8_whereByEnvelopes_123 : decode cX8_whereByEnvelopes 123 = .ok (.aload_n 0, 1) := by decide +kernel
theorem dX8_whereByEnvelopes_124 : decode cX8_whereByEnvelopes 124 = .ok (.getfield 29, 3) := by decide +kernel
theorem dX8_whereByEnvelopes_127 : decode cX8_whereByEnvelopes 127 = .ok (.iload 4, 2) := by decide +kernel
theorem dX8_whereByEnvelopes_129 : decode cX8_whereByEnvelopes 129 = .ok (.if_icmp .ne 12, 3) := by decide +kernel
theorem dX8_whereByEnvelopes_132 : decode cX8_whereByEnvelopes 132 = .ok (.aload_n 0, 1) := by decide +kernel
theorem dX8_whereByEnvelopes_133 : decode cX8_whereByEnvelopes 133 = .ok (.iload 4, 2) := by decide +kernel
theorem dX8_whereByEnvelopes_135 : decode cX8_whereByEnvelopes 135 = .ok (.invokevirtual 77, 3) := by decide +kernel
theorem dX8_whereByEnvelopes_138 : decode cX8_whereByEnvelopes 138 = .ok (.goto 4, 3) := by decide +kernel
theorem dX8_whereByEnvelopes_141 : decode cX8_whereByEnvelopes 141 = .ok (.iconst 0, 1) := by decide +kernel
theorem dX8_whereByEnvelopes_142 : decode cX8_whereByEnvelopes 142 = .ok (.ireturn, 1) := by decide +kernel
theorem o18_1 {x0 : Int} (h0 : x0 = 0) : 0 ≤ x0 := by omega
theorem o18_2 {x0 : Int} (h0 : x0 = 0) : x0 ≤ 240 := by omega
theorem o18_3 {x0 : Int} (h0 : 0 ≤ x0) (h1 : x0 ≤ 240) (h2 : 240 - x0 < 0) : False := by omega
theorem o18_4 {x0 x1 x2 x4 x5 : Int} {x3 : Nat} (h0 : 0 ≤ x1) (h1 : x1 ≤ 239) (h2 : 0 ≤ x2) (h3 : x2 ≤ 240) (h4 : 240 - x2 < ((x3 + 1 : Nat) : Int)) (h5 : 0 ≤ x4) (h6 : x4 ≤ 240) (h7 : x4 = x2) (h8 : x4 ≤ x1) (h9 : 0 ≤ x0) (h10 : x0 ≤ 240) (h11 : x0 = x2) (h12 : 0 ≤ x5) (h13 : x5 ≤ 240) (h14 : x5 = x2) : 0 ≤ x0 := by omega
theorem o18_5 {x0 x1 x2 x4 x5 : Int} {x3 : Nat} (h0 : 0 ≤ x1) (h1 : x1 ≤ 239) (h2 : 0 ≤ x2) (h3 : x2 ≤ 240) (h4 : 240 - x2 < ((x3 + 1 : Nat) : Int)) (h5 : 0 ≤ x4) (h6 : x4 ≤ 240) (h7 : x4 = x2) (h8 : x4 ≤ x1) (h9 : 0 ≤ x0) (h10 : x0 ≤ 240) (h11 : x0 = x2) (h12 : 0 ≤ x5) (h13 : x5 ≤ 240) (h14 : x5 = x2) : x0 < (240 : Nat) := by omega
theorem o18_6 {x0 : Int} (h0 : 0 ≤ x0) (h1 : x0 ≤ 4) (h2 : 4 - x0 < 0) : False := by omega
theorem o18_7 {x0 : Int} (h0 : x0 = 4) : x0 = 4 := by omega
theorem o18_8 {x0 x2 : Int} {x1 : Nat} (h0 : 0 ≤ x0) (h1 : x0 ≤ 4) (h2 : 4 - x0 < ((x1 + 1 : Nat) : Int)) (h3 : x2 = 4) (h4 : x2 ≤ x0) : ¬ x0 < 4 := by omega
theorem o18_9 {x0 x2 : Int} {x1 : Nat} (h0 : 0 ≤ x0) (h1 : x0 ≤ 4) (h2 : 4 - x0 < ((x1 + 1 : Nat) : Int)) (h3 : x2 = 4) (h4 : x0 < x2) : x0 < 4 := by omega
theorem o18_10 {x0 x1 x2 x3 x5 x6 x7 : Int} {x4 : Nat} (h0 : 0 ≤ x2) (h1 : x2 ≤ 239) (h2 : 0 ≤ x3) (h3 : x3 ≤ 240) (h4 : 240 - x3 < ((x4 + 1 : Nat) : Int)) (h5 : 0 ≤ x5) (h6 : x5 ≤ 240) (h7 : x5 = x3) (h8 : x5 ≤ x2) (h9 : 0 ≤ x6) (h10 : x6 ≤ 240) (h11 : x6 = x3) (h12 : 0 ≤ x7) (h13 : x7 ≤ 240) (h14 : x7 = x3) (h15 : 0 ≤ x0) (h16 : x0 ≤ 240) (h17 : x0 = x3) (h18 : x1 = 1) (h19 : -2147483648 ≤ x0) (h20 : x0 ≤ 2147483647) (h21 : -2147483648 ≤ x1) (h22 : x1 ≤ 2147483647) (h23 : -2147483648 ≤ x2) (h24 : x2 ≤ 2147483647) (h25 : -2147483648 ≤ x3) (h26 : x3 ≤ 2147483647) (h27 : -2147483648 ≤ x5) (h28 : x5 ≤ 2147483647) (h29 : -2147483648 ≤ x6) (h30 : x6 ≤ 2147483647) (h31 : -2147483648 ≤ x7) (h32 : x7 ≤ 2147483647) : -2147483648 ≤ x0 + x1 := by omega
theorem o18_11 {x0 x1 x2 x3 x5 x6 x7 : Int} {x4 : Nat} (h0 : 0 ≤ x2) (h1 : x2 ≤ 239) (h2 : 0 ≤ x3) (h3 : x3 ≤ 240) (h4 : 240 - x3 < ((x4 + 1 : Nat) : Int)) (h5 : 0 ≤ x5) (h6 : x5 ≤ 240) (h7 : x5 = x3) (h8 : x5 ≤ x2) (h9 : 0 ≤ x6) (h10 : x6 ≤ 240) (h11 : x6 = x3) (h12 : 0 ≤ x7) (h13 : x7 ≤ 240) (h14 : x7 = x3) (h15 : 0 ≤ x0) (h16 : x0 ≤ 240) (h17 : x0 = x3) (h18 : x1 = 1) (h19 : -2147483648 ≤ x0) (h20 : x0 ≤ 2147483647) (h21 : -2147483648 ≤ x1) (h22 : x1 ≤ 2147483647) (h23 : -2147483648 ≤ x2) (h24 : x2 ≤ 2147483647) (h25 : -2147483648 ≤ x3) (h26 : x3 ≤ 2147483647) (h27 : -2147483648 ≤ x5) (h28 : x5 ≤ 2147483647) (h29 : -2147483648 ≤ x6) (h30 : x6 ≤ 2147483647) (h31 : -2147483648 ≤ x7) (h32 : x7 ≤ 2147483647) : x0 + x1 ≤ 2147483647 := by omega
theorem o18_12 {x0 x1 x2 x4 x5 x6 x7 x8 : Int} {x3 : Nat} (h0 : 0 ≤ x1) (h1 : x1 ≤ 239) (h2 : 0 ≤ x2) (h3 : x2 ≤ 240) (h4 : 240 - x2 < ((x3 + 1 : Nat) : Int)) (h5 : 0 ≤ x4) (h6 : x4 ≤ 240) (h7 : x4 = x2) (h8 : x4 ≤ x1) (h9 : 0 ≤ x5) (h10 : x5 ≤ 240) (h11 : x5 = x2) (h12 : 0 ≤ x6) (h13 : x6 ≤ 240) (h14 : x6 = x2) (h15 : 0 ≤ x7) (h16 : x7 ≤ 240) (h17 : x7 = x2) (h18 : x8 = 1) (h19 : x0 = x7 + x8) : 0 ≤ x0 := by omega
theorem o18_13 {x0 x1 x2 x4 x5 x6 x7 x8 : Int} {x3 : Nat} (h0 : 0 ≤ x1) (h1 : x1 ≤ 239) (h2 : 0 ≤ x2) (h3 : x2 ≤ 240) (h4 : 240 - x2 < ((x3 + 1 : Nat) : Int)) (h5 : 0 ≤ x4) (h6 : x4 ≤ 240) (h7 : x4 = x2) (h8 : x4 ≤ x1) (h9 : 0 ≤ x5) (h10 : x5 ≤ 240) (h11 : x5 = x2) (h12 : 0 ≤ x6) (h13 : x6 ≤ 240) (h14 : x6 = x2) (h15 : 0 ≤ x7) (h16 : x7 ≤ 240) (h17 : x7 = x2) (h18 : x8 = 1) (h19 : x0 = x7 + x8) : x0 ≤ 240 := by omega
theorem o18_14 {x0 x2 x3 x4 x5 x6 x7 x8 : Int} {x1 : Nat} (h0 : 0 ≤ x2) (h1 : x2 ≤ 239) (h2 : 0 ≤ x3) (h3 : x3 ≤ 240) (h4 : 240 - x3 < ((x1 + 1 : Nat) : Int)) (h5 : 0 ≤ x4) (h6 : x4 ≤ 240) (h7 : x4 = x3) (h8 : x4 ≤ x2) (h9 : 0 ≤ x5) (h10 : x5 ≤ 240) (h11 : x5 = x3) (h12 : 0 ≤ x6) (h13 : x6 ≤ 240) (h14 : x6 = x3) (h15 : 0 ≤ x7) (h16 : x7 ≤ 240) (h17 : x7 = x3) (h18 : x8 = 1) (h19 : x0 = x7 + x8) : 240 - x0 < (x1 : Int) := by omega
theorem o18_15 {x0 x1 x2 x4 x5 x6 : Int} {x3 : Nat} (h0 : 0 ≤ x1) (h1 : x1 ≤ 239) (h2 : 0 ≤ x2) (h3 : x2 ≤ 240) (h4 : 240 - x2 < ((x3 + 1 : Nat) : Int)) (h5 : 0 ≤ x4) (h6 : x4 ≤ 240) (h7 : x4 = x2) (h8 : x4 ≤ x1) (h9 : 0 ≤ x5) (h10 : x5 ≤ 240) (h11 : x5 = x2) (h12 : 0 ≤ x6) (h13 : x6 ≤ 240) (h14 : x6 = x2) (h15 : 0 ≤ x0) (h16 : x0 ≤ 240) (h17 : x0 = x2) (h18 : -2147483648 ≤ x0) (h19 : x0 ≤ 2147483647) (h20 : -2147483648 ≤ x1) (h21 : x1 ≤ 2147483647) (h22 : -2147483648 ≤ x2) (h23 : x2 ≤ 2147483647) (h24 : -2147483648 ≤ x4) (h25 : x4 ≤ 2147483647) (h26 : -2147483648 ≤ x5) (h27 : x5 ≤ 2147483647) (h28 : -2147483648 ≤ x6) (h29 : x6 ≤ 2147483647) : -2147483648 ≤ 4 * x0 := by omega
theorem o18_16 {x0 x1 x2 x4 x5 x6 : Int} {x3 : Nat} (h0 : 0 ≤ x1) (h1 : x1 ≤ 239) (h2 : 0 ≤ x2) (h3 : x2 ≤ 240) (h4 : 240 - x2 < ((x3 + 1 : Nat) : Int)) (h5 : 0 ≤ x4) (h6 : x4 ≤ 240) (h7 : x4 = x2) (h8 : x4 ≤ x1) (h9 : 0 ≤ x5) (h10 : x5 ≤ 240) (h11 : x5 = x2) (h12 : 0 ≤ x6) (h13 : x6 ≤ 240) (h14 : x6 = x2) (h15 : 0 ≤ x0) (h16 : x0 ≤ 240) (h17 : x0 = x2) (h18 : -2147483648 ≤ x0) (h19 : x0 ≤ 2147483647) (h20 : -2147483648 ≤ x1) (h21 : x1 ≤ 2147483647) (h22 : -2147483648 ≤ x2) (h23 : x2 ≤ 2147483647) (h24 : -2147483648 ≤ x4) (h25 : x4 ≤ 2147483647) (h26 : -2147483648 ≤ x5) (h27 : x5 ≤ 2147483647) (h28 : -2147483648 ≤ x6) (h29 : x6 ≤ 2147483647) : 4 * x0 ≤ 2147483647 := by omega
theorem o18_17 {x0 x1 x2 x3 x5 x6 x7 x9 x10 : Int} {x4 x8 : Nat} (h0 : 0 ≤ x2) (h1 : x2 ≤ 239) (h2 : 0 ≤ x3) (h3 : x3 ≤ 240) (h4 : 240 - x3 < ((x4 + 1 : Nat) : Int)) (h5 : 0 ≤ x5) (h6 : x5 ≤ 240) (h7 : x5 = x3) (h8 : x5 ≤ x2) (h9 : 0 ≤ x6) (h10 : x6 ≤ 240) (h11 : x6 = x3) (h12 : 0 ≤ x7) (h13 : x7 ≤ 240) (h14 : x7 = x3) (h15 : 0 ≤ x1) (h16 : x1 ≤ 4) (h17 : 4 - x1 < ((x8 + 1 : Nat) : Int)) (h18 : x9 = 4) (h19 : x1 < x9) (h20 : 0 ≤ x10) (h21 : x10 ≤ 240) (h22 : x10 = x3) (h23 : x0 = 4 * x10) (h24 : -2147483648 ≤ x0) (h25 : x0 ≤ 2147483647) (h26 : -2147483648 ≤ x1) (h27 : x1 ≤ 2147483647) (h28 : -2147483648 ≤ x2) (h29 : x2 ≤ 2147483647) (h30 : -2147483648 ≤ x3) (h31 : x3 ≤ 2147483647) (h32 : -2147483648 ≤ x5) (h33 : x5 ≤ 2147483647) (h34 : -2147483648 ≤ x6) (h35 : x6 ≤ 2147483647) (h36 : -2147483648 ≤ x7) (h37 : x7 ≤ 2147483647) (h38 : -2147483648 ≤ x9) (h39 : x9 ≤ 2147483647) (h40 : -2147483648 ≤ x10) (h41 : x10 ≤ 2147483647) : -2147483648 ≤ x0 + x1 := by omega
theorem o18_18 {x0 x1 x2 x3 x5 x6 x7 x9 x10 : Int} {x4 x8 : Nat} (h0 : 0 ≤ x2) (h1 : x2 ≤ 239) (h2 : 0 ≤ x3) (h3 : x3 ≤ 240) (h4 : 240 - x3 < ((x4 + 1 : Nat) : Int)) (h5 : 0 ≤ x5) (h6 : x5 ≤ 240) (h7 : x5 = x3) (h8 : x5 ≤ x2) (h9 : 0 ≤ x6) (h10 : x6 ≤ 240) (h11 : x6 = x3) (h12 : 0 ≤ x7) (h13 : x7 ≤ 240) (h14 : x7 = x3) (h15 : 0 ≤ x1) (h16 : x1 ≤ 4) (h17 : 4 - x1 < ((x8 + 1 : Nat) : Int)) (h18 : x9 = 4) (h19 : x1 < x9) (h20 : 0 ≤ x10) (h21 : x10 ≤ 240) (h22 : x10 = x3) (h23 : x0 = 4 * x10) (h24 : -2147483648 ≤ x0) (h25 : x0 ≤ 2147483647) (h26 : -2147483648 ≤ x1) (h27 : x1 ≤ 2147483647) (h28 : -2147483648 ≤ x2) (h29 : x2 ≤ 2147483647) (h30 : -2147483648 ≤ x3) (h31 : x3 ≤ 2147483647) (h32 : -2147483648 ≤ x5) (h33 : x5 ≤ 2147483647) (h34 : -2147483648 ≤ x6) (h35 : x6 ≤ 2147483647) (h36 : -2147483648 ≤ x7) (h37 : x7 ≤ 2147483647) (h38 : -2147483648 ≤ x9) (h39 : x9 ≤ 2147483647) (h40 : -2147483648 ≤ x10) (h41 : x10 ≤ 2147483647) : x0 + x1 ≤ 2147483647 := by omega
theorem o18_19 {x0 x1 x2 x4 x5 x6 x7 x9 x10 x11 : Int} {x3 x8 : Nat} (h0 : 0 ≤ x1) (h1 : x1 ≤ 239) (h2 : 0 ≤ x2) (h3 : x2 ≤ 240) (h4 : 240 - x2 < ((x3 + 1 : Nat) : Int)) (h5 : 0 ≤ x4) (h6 : x4 ≤ 240) (h7 : x4 = x2) (h8 : x4 ≤ x1) (h9 : 0 ≤ x5) (h10 : x5 ≤ 240) (h11 : x5 = x2) (h12 : 0 ≤ x6) (h13 : x6 ≤ 240) (h14 : x6 = x2) (h15 : 0 ≤ x7) (h16 : x7 ≤ 4) (h17 : 4 - x7 < ((x8 + 1 : Nat) : Int)) (h18 : x9 = 4) (h19 : x7 < x9) (h20 : 0 ≤ x10) (h21 : x10 ≤ 240) (h22 : x10 = x2) (h23 : x11 = 4 * x10) (h24 : x0 = x11 + x7) : 0 ≤ x0 := by omega
theorem o18_20 {x0 x1 x2 x4 x5 x6 x7 x9 x10 x11 : Int} {x3 x8 : Nat} (h0 : 0 ≤ x1) (h1 : x1 ≤ 239) (h2 : 0 ≤ x2) (h3 : x2 ≤ 240) (h4 : 240 - x2 < ((x3 + 1 : Nat) : Int)) (h5 : 0 ≤ x4) (h6 : x4 ≤ 240) (h7 : x4 = x2) (h8 : x4 ≤ x1) (h9 : 0 ≤ x5) (h10 : x5 ≤ 240) (h11 : x5 = x2) (h12 : 0 ≤ x6) (h13 : x6 ≤ 240) (h14 : x6 = x2) (h15 : 0 ≤ x7) (h16 : x7 ≤ 4) (h17 : 4 - x7 < ((x8 + 1 : Nat) : Int)) (h18 : x9 = 4) (h19 : x7 < x9) (h20 : 0 ≤ x10) (h21 : x10 ≤ 240) (h22 : x10 = x2) (h23 : x11 = 4 * x10) (h24 : x0 = x11 + x7) : x0 < (960 : Nat) := by omega
theorem o18_21 {x0 x1 x2 x4 x5 x6 x7 x9 x10 x11 x12 : Int} {x3 x8 : Nat} (h0 : 0 ≤ x1) (h1 : x1 ≤ 239) (h2 : 0 ≤ x2) (h3 : x2 ≤ 240) (h4 : 240 - x2 < ((x3 + 1 : Nat) : Int)) (h5 : 0 ≤ x4) (h6 : x4 ≤ 240) (h7 : x4 = x2) (h8 : x4 ≤ x1) (h9 : 0 ≤ x5) (h10 : x5 ≤ 240) (h11 : x5 = x2) (h12 : 0 ≤ x6) (h13 : x6 ≤ 240) (h14 : x6 = x2) (h15 : 0 ≤ x7) (h16 : x7 ≤ 4) (h17 : 4 - x7 < ((x8 + 1 : Nat) : Int)) (h18 : x9 = 4) (h19 : x7 < x9) (h20 : 0 ≤ x10) (h21 : x10 ≤ 240) (h22 : x10 = x2) (h23 : x11 = 4 * x10) (h24 : x12 = x11 + x7) (h25 : 0 ≤ x0) (h26 : x0 ≤ 240) (h27 : x0 = x2) (h28 : -2147483648 ≤ x0) (h29 : x0 ≤ 2147483647) (h30 : -2147483648 ≤ x1) (h31 : x1 ≤ 2147483647) (h32 : -2147483648 ≤ x2) (h33 : x2 ≤ 2147483647) (h34 : -2147483648 ≤ x4) (h35 : x4 ≤ 2147483647) (h36 : -2147483648 ≤ x5) (h37 : x5 ≤ 2147483647) (h38 : -2147483648 ≤ x6) (h39 : x6 ≤ 2147483647) (h40 : -2147483648 ≤ x7) (h41 : x7 ≤ 2147483647) (h42 : -2147483648 ≤ x9) (h43 : x9 ≤ 2147483647) (h44 : -2147483648 ≤ x10) (h45 : x10 ≤ 2147483647) (h46 : -2147483648 ≤ x11) (h47 : x11 ≤ 2147483647) (h48 : -2147483648 ≤ x12) (h49 : x12 ≤ 2147483647) : -2147483648 ≤ 4 * x0 := by omega
theorem o18_22 {x0 x1 x2 x4 x5 x6 x7 x9 x10 x11 x12 : Int} {x3 x8 : Nat} (h0 : 0 ≤ x1) (h1 : x1 ≤ 239) (h2 : 0 ≤ x2) (h3 : x2 ≤ 240) (h4 : 240 - x2 < ((x3 + 1 : Nat) : Int)) (h5 : 0 ≤ x4) (h6 : x4 ≤ 240) (h7 : x4 = x2) (h8 : x4 ≤ x1) (h9 : 0 ≤ x5) (h10 : x5 ≤ 240) (h11 : x5 = x2) (h12 : 0 ≤ x6) (h13 : x6 ≤ 240) (h14 : x6 = x2) (h15 : 0 ≤ x7) (h16 : x7 ≤ 4) (h17 : 4 - x7 < ((x8 + 1 : Nat) : Int)) (h18 : x9 = 4) (h19 : x7 < x9) (h20 : 0 ≤ x10) (h21 : x10 ≤ 240) (h22 : x10 = x2) (h23 : x11 = 4 * x10) (h24 : x12 = x11 + x7) (h25 : 0 ≤ x0) (h26 : x0 ≤ 240) (h27 : x0 = x2) (h28 : -2147483648 ≤ x0) (h29 : x0 ≤ 2147483647) (h30 : -2147483648 ≤ x1) (h31 : x1 ≤ 2147483647) (h32 : -2147483648 ≤ x2) (h33 : x2 ≤ 2147483647) (h34 : -2147483648 ≤ x4) (h35 : x4 ≤ 2147483647) (h36 : -2147483648 ≤ x5) (h37 : x5 ≤ 2147483647) (h38 : -2147483648 ≤ x6) (h39 : x6 ≤ 2147483647) (h40 : -2147483648 ≤ x7) (h41 : x7 ≤ 2147483647) (h42 : -2147483648 ≤ x9) (h43 : x9 ≤ 2147483647) (h44 : -2147483648 ≤ x10) (h45 : x10 ≤ 2147483647) (h46 : -2147483648 ≤ x11) (h47 : x11 ≤ 2147483647) (h48 : -2147483648 ≤ x12) (h49 : x12 ≤ 2147483647) : 4 * x0 ≤ 2147483647 := by omega
theorem o18_23 {x0 x1 x2 x3 x5 x6 x7 x9 x10 x11 x12 x13 : Int} {x4 x8 : Nat} (h0 : 0 ≤ x2) (h1 : x2 ≤ 239) (h2 : 0 ≤ x3) (h3 : x3 ≤ 240) (h4 : 240 - x3 < ((x4 + 1 : Nat) : Int)) (h5 : 0 ≤ x5) (h6 : x5 ≤ 240) (h7 : x5 = x3) (h8 : x5 ≤ x2) (h9 : 0 ≤ x6) (h10 : x6 ≤ 240) (h11 : x6 = x3) (h12 : 0 ≤ x7) (h13 : x7 ≤ 240) (h14 : x7 = x3) (h15 : 0 ≤ x1) (h16 : x1 ≤ 4) (h17 : 4 - x1 < ((x8 + 1 : Nat) : Int)) (h18 : x9 = 4) (h19 : x1 < x9) (h20 : 0 ≤ x10) (h21 : x10 ≤ 240) (h22 : x10 = x3) (h23 : x11 = 4 * x10) (h24 : x12 = x11 + x1) (h25 : 0 ≤ x13) (h26 : x13 ≤ 240) (h27 : x13 = x3) (h28 : x0 = 4 * x13) (h29 : -2147483648 ≤ x0) (h30 : x0 ≤ 2147483647) (h31 : -2147483648 ≤ x1) (h32 : x1 ≤ 2147483647) (h33 : -2147483648 ≤ x2) (h34 : x2 ≤ 2147483647) (h35 : -2147483648 ≤ x3) (h36 : x3 ≤ 2147483647) (h37 : -2147483648 ≤ x5) (h38 : x5 ≤ 2147483647) (h39 : -2147483648 ≤ x6) (h40 : x6 ≤ 2147483647) (h41 : -2147483648 ≤ x7) (h42 : x7 ≤ 2147483647) (h43 : -2147483648 ≤ x9) (h44 : x9 ≤ 2147483647) (h45 : -2147483648 ≤ x10) (h46 : x10 ≤ 2147483647) (h47 : -2147483648 ≤ x11) (h48 : x11 ≤ 2147483647) (h49 : -2147483648 ≤ x12) (h50 : x12 ≤ 2147483647) (h51 : -2147483648 ≤ x13) (h52 : x13 ≤ 2147483647) : -2147483648 ≤ x0 + x1 := by omega
theorem o18_24 {x0 x1 x2 x3 x5 x6 x7 x9 x10 x11 x12 x13 : Int} {x4 x8 : Nat} (h0 : 0 ≤ x2) (h1 : x2 ≤ 239) (h2 : 0 ≤ x3) (h3 : x3 ≤ 240) (h4 : 240 - x3 < ((x4 + 1 : Nat) : Int)) (h5 : 0 ≤ x5) (h6 : x5 ≤ 240) (h7 : x5 = x3) (h8 : x5 ≤ x2) (h9 : 0 ≤ x6) (h10 : x6 ≤ 240) (h11 : x6 = x3) (h12 : 0 ≤ x7) (h13 : x7 ≤ 240) (h14 : x7 = x3) (h15 : 0 ≤ x1) (h16 : x1 ≤ 4) (h17 : 4 - x1 < ((x8 + 1 : Nat) : Int)) (h18 : x9 = 4) (h19 : x1 < x9) (h20 : 0 ≤ x10) (h21 : x10 ≤ 240) (h22 : x10 = x3) (h23 : x11 = 4 * x10) (h24 : x12 = x11 + x1) (h25 : 0 ≤ x13) (h26 : x13 ≤ 240) (h27 : x13 = x3) (h28 : x0 = 4 * x13) (h29 : -2147483648 ≤ x0) (h30 : x0 ≤ 2147483647) (h31 : -2147483648 ≤ x1) (h32 : x1 ≤ 2147483647) (h33 : -2147483648 ≤ x2) (h34 : x2 ≤ 2147483647) (h35 : -2147483648 ≤ x3) (h36 : x3 ≤ 2147483647) (h37 : -2147483648 ≤ x5) (h38 : x5 ≤ 2147483647) (h39 : -2147483648 ≤ x6) (h40 : x6 ≤ 2147483647) (h41 : -2147483648 ≤ x7) (h42 : x7 ≤ 2147483647) (h43 : -2147483648 ≤ x9) (h44 : x9 ≤ 2147483647) (h45 : -2147483648 ≤ x10) (h46 : x10 ≤ 2147483647) (h47 : -2147483648 ≤ x11) (h48 : x11 ≤ 2147483647) (h49 : -2147483648 ≤ x12) (h50 : x12 ≤ 2147483647) (h51 : -2147483648 ≤ x13) (h52 : x13 ≤ 2147483647) : x0 + x1 ≤ 2147483647 := by omega
theorem o18_25 {x0 x1 x2 x4 x5 x6 x7 x9 x10 x11 x12 x13 x14 : Int} {x3 x8 : Nat} (h0 : 0 ≤ x1) (h1 : x1 ≤ 239) (h2 : 0 ≤ x2) (h3 : x2 ≤ 240) (h4 : 240 - x2 < ((x3 + 1 : Nat) : Int)) (h5 : 0 ≤ x4) (h6 : x4 ≤ 240) (h7 : x4 = x2) (h8 : x4 ≤ x1) (h9 : 0 ≤ x5) (h10 : x5 ≤ 240) (h11 : x5 = x2) (h12 : 0 ≤ x6) (h13 : x6 ≤ 240) (h14 : x6 = x2) (h15 : 0 ≤ x7) (h16 : x7 ≤ 4) (h17 : 4 - x7 < ((x8 + 1 : Nat) : Int)) (h18 : x9 = 4) (h19 : x7 < x9) (h20 : 0 ≤ x10) (h21 : x10 ≤ 240) (h22 : x10 = x2) (h23 : x11 = 4 * x10) (h24 : x12 = x11 + x7) (h25 : 0 ≤ x13) (h26 : x13 ≤ 240) (h27 : x13 = x2) (h28 : x14 = 4 * x13) (h29 : x0 = x14 + x7) : 0 ≤ x0 := by omega
theorem o18_26 {x0 x1 x2 x4 x5 x6 x7 x9 x10 x11 x12 x13 x14 : Int} {x3 x8 : Nat} (h0 : 0 ≤ x1) (h1 : x1 ≤ 239) (h2 : 0 ≤ x2) (h3 : x2 ≤ 240) (h4 : 240 - x2 < ((x3 + 1 : Nat) : Int)) (h5 : 0 ≤ x4) (h6 : x4 ≤ 240) (h7 : x4 = x2) (h8 : x4 ≤ x1) (h9 : 0 ≤ x5) (h10 : x5 ≤ 240) (h11 : x5 = x2) (h12 : 0 ≤ x6) (h13 : x6 ≤ 240) (h14 : x6 = x2) (h15 : 0 ≤ x7) (h16 : x7 ≤ 4) (h17 : 4 - x7 < ((x8 + 1 : Nat) : Int)) (h18 : x9 = 4) (h19 : x7 < x9) (h20 : 0 ≤ x10) (h21 : x10 ≤ 240) (h22 : x10 = x2) (h23 : x11 = 4 * x10) (h24 : x12 = x11 + x7) (h25 : 0 ≤ x13) (h26 : x13 ≤ 240) (h27 : x13 = x2) (h28 : x14 = 4 * x13) (h29 : x0 = x14 + x7) : x0 < (960 : Nat) := by omega
theorem o18_27 {x0 x1 x2 x4 x5 x6 x8 x9 x10 x11 x12 x13 x14 : Int} {x3 x7 : Nat} (h0 : 0 ≤ x1) (h1 : x1 ≤ 239) (h2 : 0 ≤ x2) (h3 : x2 ≤ 240) (h4 : 240 - x2 < ((x3 + 1 : Nat) : Int)) (h5 : 0 ≤ x4) (h6 : x4 ≤ 240) (h7 : x4 = x2) (h8 : x4 ≤ x1) (h9 : 0 ≤ x5) (h10 : x5 ≤ 240) (h11 : x5 = x2) (h12 : 0 ≤ x6) (h13 : x6 ≤ 240) (h14 : x6 = x2) (h15 : 0 ≤ x0) (h16 : x0 ≤ 4) (h17 : 4 - x0 < ((x7 + 1 : Nat) : Int)) (h18 : x8 = 4) (h19 : x0 < x8) (h20 : 0 ≤ x9) (h21 : x9 ≤ 240) (h22 : x9 = x2) (h23 : x10 = 4 * x9) (h24 : x11 = x10 + x0) (h25 : 0 ≤ x12) (h26 : x12 ≤ 240) (h27 : x12 = x2) (h28 : x13 = 4 * x12) (h29 : x14 = x13 + x0) (h30 : -2147483648 ≤ x0) (h31 : x0 ≤ 2147483647) (h32 : -2147483648 ≤ x1) (h33 : x1 ≤ 2147483647) (h34 : -2147483648 ≤ x2) (h35 : x2 ≤ 2147483647) (h36 : -2147483648 ≤ x4) (h37 : x4 ≤ 2147483647) (h38 : -2147483648 ≤ x5) (h39 : x5 ≤ 2147483647) (h40 : -2147483648 ≤ x6) (h41 : x6 ≤ 2147483647) (h42 : -2147483648 ≤ x8) (h43 : x8 ≤ 2147483647) (h44 : -2147483648 ≤ x9) (h45 : x9 ≤ 2147483647) (h46 : -2147483648 ≤ x10) (h47 : x10 ≤ 2147483647) (h48 : -2147483648 ≤ x11) (h49 : x11 ≤ 2147483647) (h50 : -2147483648 ≤ x12) (h51 : x12 ≤ 2147483647) (h52 : -2147483648 ≤ x13) (h53 : x13 ≤ 2147483647) (h54 : -2147483648 ≤ x14) (h55 : x14 ≤ 2147483647) : -2147483648 ≤ x0 + 1 := by omega
theorem o18_28 {x0 x1 x2 x4 x5 x6 x8 x9 x10 x11 x12 x13 x14 : Int} {x3 x7 : Nat} (h0 : 0 ≤ x1) (h1 : x1 ≤ 239) (h2 : 0 ≤ x2) (h3 : x2 ≤ 240) (h4 : 240 - x2 < ((x3 + 1 : Nat) : Int)) (h5 : 0 ≤ x4) (h6 : x4 ≤ 240) (h7 : x4 = x2) (h8 : x4 ≤ x1) (h9 : 0 ≤ x5) (h10 : x5 ≤ 240) (h11 : x5 = x2) (h12 : 0 ≤ x6) (h13 : x6 ≤ 240) (h14 : x6 = x2) (h15 : 0 ≤ x0) (h16 : x0 ≤ 4) (h17 : 4 - x0 < ((x7 + 1 : Nat) : Int)) (h18 : x8 = 4) (h19 : x0 < x8) (h20 : 0 ≤ x9) (h21 : x9 ≤ 240) (h22 : x9 = x2) (h23 : x10 = 4 * x9) (h24 : x11 = x10 + x0) (h25 : 0 ≤ x12) (h26 : x12 ≤ 240) (h27 : x12 = x2) (h28 : x13 = 4 * x12) (h29 : x14 = x13 + x0) (h30 : -2147483648 ≤ x0) (h31 : x0 ≤ 2147483647) (h32 : -2147483648 ≤ x1) (h33 : x1 ≤ 2147483647) (h34 : -2147483648 ≤ x2) (h35 : x2 ≤ 2147483647) (h36 : -2147483648 ≤ x4) (h37 : x4 ≤ 2147483647) (h38 : -2147483648 ≤ x5) (h39 : x5 ≤ 2147483647) (h40 : -2147483648 ≤ x6) (h41 : x6 ≤ 2147483647) (h42 : -2147483648 ≤ x8) (h43 : x8 ≤ 2147483647) (h44 : -2147483648 ≤ x9) (h45 : x9 ≤ 2147483647) (h46 : -2147483648 ≤ x10) (h47 : x10 ≤ 2147483647) (h48 : -2147483648 ≤ x11) (h49 : x11 ≤ 2147483647) (h50 : -2147483648 ≤ x12) (h51 : x12 ≤ 2147483647) (h52 : -2147483648 ≤ x13) (h53 : x13 ≤ 2147483647) (h54 : -2147483648 ≤ x14) (h55 : x14 ≤ 2147483647) : x0 + 1 ≤ 2147483647 := by omega
theorem o18_29 {x0 x2 x3 x5 x6 x7 x8 x9 x10 x11 x12 x13 x14 x15 : Int} {x1 x4 : Nat} (h0 : 0 ≤ x2) (h1 : x2 ≤ 239) (h2 : 0 ≤ x3) (h3 : x3 ≤ 240) (h4 : 240 - x3 < ((x4 + 1 : Nat) : Int)) (h5 : 0 ≤ x5) (h6 : x5 ≤ 240) (h7 : x5 = x3) (h8 : x5 ≤ x2) (h9 : 0 ≤ x6) (h10 : x6 ≤ 240) (h11 : x6 = x3) (h12 : 0 ≤ x7) (h13 : x7 ≤ 240) (h14 : x7 = x3) (h15 : 0 ≤ x8) (h16 : x8 ≤ 4) (h17 : 4 - x8 < ((x1 + 1 : Nat) : Int)) (h18 : x9 = 4) (h19 : x8 < x9) (h20 : 0 ≤ x10) (h21 : x10 ≤ 240) (h22 : x10 = x3) (h23 : x11 = 4 * x10) (h24 : x12 = x11 + x8) (h25 : 0 ≤ x13) (h26 : x13 ≤ 240) (h27 : x13 = x3) (h28 : x14 = 4 * x13) (h29 : x15 = x14 + x8) (h30 : x0 = x8 + 1) : 4 - x0 < (x1 : Int) := by omega
theorem o18_30 {x0 x1 x2 x4 x5 x6 x7 x9 x10 x11 x12 x13 x14 x15 : Int} {x3 x8 : Nat} (h0 : 0 ≤ x1) (h1 : x1 ≤ 239) (h2 : 0 ≤ x2) (h3 : x2 ≤ 240) (h4 : 240 - x2 < ((x3 + 1 : Nat) : Int)) (h5 : 0 ≤ x4) (h6 : x4 ≤ 240) (h7 : x4 = x2) (h8 : x4 ≤ x1) (h9 : 0 ≤ x5) (h10 : x5 ≤ 240) (h11 : x5 = x2) (h12 : 0 ≤ x6) (h13 : x6 ≤ 240) (h14 : x6 = x2) (h15 : 0 ≤ x7) (h16 : x7 ≤ 4) (h17 : 4 - x7 < ((x8 + 1 : Nat) : Int)) (h18 : x9 = 4) (h19 : x7 < x9) (h20 : 0 ≤ x10) (h21 : x10 ≤ 240) (h22 : x10 = x2) (h23 : x11 = 4 * x10) (h24 : x12 = x11 + x7) (h25 : 0 ≤ x13) (h26 : x13 ≤ 240) (h27 : x13 = x2) (h28 : x14 = 4 * x13) (h29 : x15 = x14 + x7) (h30 : x0 = x7 + 1) : 0 ≤ x0 := by omega
theorem o18_31 {x0 x1 x2 x4 x5 x6 x7 x9 x10 x11 x12 x13 x14 x15 : Int} {x3 x8 : Nat} (h0 : 0 ≤ x1) (h1 : x1 ≤ 239) (h2 : 0 ≤ x2) (h3 : x2 ≤ 240) (h4 : 240 - x2 < ((x3 + 1 : Nat) : Int)) (h5 : 0 ≤ x4) (h6 : x4 ≤ 240) (h7 : x4 = x2) (h8 : x4 ≤ x1) (h9 : 0 ≤ x5) (h10 : x5 ≤ 240) (h11 : x5 = x2) (h12 : 0 ≤ x6) (h13 : x6 ≤ 240) (h14 : x6 = x2) (h15 : 0 ≤ x7) (h16 : x7 ≤ 4) (h17 : 4 - x7 < ((x8 + 1 : Nat) : Int)) (h18 : x9 = 4) (h19 : x7 < x9) (h20 : 0 ≤ x10) (h21 : x10 ≤ 240) (h22 : x10 = x2) (h23 : x11 = 4 * x10) (h24 : x12 = x11 + x7) (h25 : 0 ≤ x13) (h26 : x13 ≤ 240) (h27 : x13 = x2) (h28 : x14 = 4 * x13) (h29 : x15 = x14 + x7) (h30 : x0 = x7 + 1) : x0 ≤ 4 := by omega
theorem o18_32 {x0 : Int} (h0 : x0 = 0) : 4 - x0 < (((4 - x0 + 1).toNat : Nat) : Int) := by omega
theorem o18_33 {x0 : Int} (h0 : x0 = 0) : x0 ≤ 4 := by omega
theorem o18_34 {x0 : Int} (h0 : 0 ≤ x0) (h1 : x0 ≤ 240) : 240 - x0 < (((240 - x0 + 1).toNat : Nat) : Int) := by omega
theorem o18_35 {x0 : Int} (h0 : 0 ≤ x0) (h1 : x0 ≤ 240) : 0 ≤ x0 := by omega
theorem o18_36 {x0 : Int} (h0 : 0 ≤ x0) (h1 : x0 ≤ 240) : x0 ≤ 240 := by omega
theorem o18_37 {x0 : Int} (h0 : 0 ≤ x0) (h1 : x0 ≤ 239) : 0 ≤ x0 := by omega
theorem o18_38 {x0 : Int} (h0 : 0 ≤ x0) (h1 : x0 ≤ 239) : x0 ≤ 239 := by omega
theorem o18_39 {x0 : Int} (h0 : 0 ≤ x0) (h1 : x0 ≤ 239) : x0 < (240 : Nat) := by omega
theorem o18_40 {x0 : Int} (h0 : 0 ≤ x0) (h1 : x0 ≤ 239) (h2 : -2147483648 ≤ x0) (h3 : x0 ≤ 2147483647) : -2147483648 ≤ 4 * x0 := by omega
theorem o18_41 {x0 : Int} (h0 : 0 ≤ x0) (h1 : x0 ≤ 239) (h2 : -2147483648 ≤ x0) (h3 : x0 ≤ 2147483647) : 4 * x0 ≤ 2147483647 := by omega
theorem o18_42 {x0 : Int} (h0 : 0 ≤ x0) (h1 : x0 ≤ 3) : 0 ≤ x0 := by omega
theorem o18_43 {x0 : Int} (h0 : 0 ≤ x0) (h1 : x0 ≤ 3) : x0 ≤ 3 := by omega
theorem o18_44 {x0 x1 x2 : Int} (h0 : 0 ≤ x2) (h1 : x2 ≤ 239) (h2 : x0 = 4 * x2) (h3 : 0 ≤ x1) (h4 : x1 ≤ 3) (h5 : -2147483648 ≤ x0) (h6 : x0 ≤ 2147483647) (h7 : -2147483648 ≤ x1) (h8 : x1 ≤ 2147483647) (h9 : -2147483648 ≤ x2) (h10 : x2 ≤ 2147483647) : -2147483648 ≤ x0 + x1 := by omega
theorem o18_45 {x0 x1 x2 : Int} (h0 : 0 ≤ x2) (h1 : x2 ≤ 239) (h2 : x0 = 4 * x2) (h3 : 0 ≤ x1) (h4 : x1 ≤ 3) (h5 : -2147483648 ≤ x0) (h6 : x0 ≤ 2147483647) (h7 : -2147483648 ≤ x1) (h8 : x1 ≤ 2147483647) (h9 : -2147483648 ≤ x2) (h10 : x2 ≤ 2147483647) : x0 + x1 ≤ 2147483647 := by omega
theorem o18_46 {x0 x1 x2 x3 : Int} (h0 : 0 ≤ x1) (h1 : x1 ≤ 239) (h2 : x2 = 4 * x1) (h3 : 0 ≤ x3) (h4 : x3 ≤ 3) (h5 : x0 = x2 + x3) : 0 ≤ x0 := by omega
theorem o18_47 {x0 x1 x2 x3 : Int} (h0 : 0 ≤ x1) (h1 : x1 ≤ 239) (h2 : x2 = 4 * x1) (h3 : 0 ≤ x3) (h4 : x3 ≤ 3) (h5 : x0 = x2 + x3) : x0 < (960 : Nat) := by omega
theorem o18_48 {x0 : Int} (h0 : 0 ≤ x0) (h1 : x0 ≤ 25) (h2 : 25 - x0 < 0) : False := by omega
theorem o18_49 {x0 : Int} (h0 : x0 = 25) : x0 = 25 := by omega
theorem o18_50 {x0 x2 : Int} {x1 : Nat} (h0 : 0 ≤ x0) (h1 : x0 ≤ 25) (h2 : 25 - x0 < ((x1 + 1 : Nat) : Int)) (h3 : x2 = 25) (h4 : x2 ≤ x0) : ¬ x0 < 25 := by omega
theorem o18_51 {x0 x2 : Int} {x1 : Nat} (h0 : 0 ≤ x0) (h1 : x0 ≤ 25) (h2 : 25 - x0 < ((x1 + 1 : Nat) : Int)) (h3 : x2 = 25) (h4 : x0 < x2) : x0 < 25 := by omega
theorem o18_52 {x0 : Int} (h0 : x0 = 1) : x0 = 1 := by omega
theorem o18_53 {x0 x2 : Int} {x1 : Nat} (h0 : 0 ≤ x0) (h1 : x0 ≤ 25) (h2 : 25 - x0 < ((x1 + 1 : Nat) : Int)) (h3 : x2 = 25) (h4 : x0 < x2) (h5 : -2147483648 ≤ x0) (h6 : x0 ≤ 2147483647) (h7 : -2147483648 ≤ x2) (h8 : x2 ≤ 2147483647) : -2147483648 ≤ x0 + 1 := by omega
theorem o18_54 {x0 x2 : Int} {x1 : Nat} (h0 : 0 ≤ x0) (h1 : x0 ≤ 25) (h2 : 25 - x0 < ((x1 + 1 : Nat) : Int)) (h3 : x2 = 25) (h4 : x0 < x2) (h5 : -2147483648 ≤ x0) (h6 : x0 ≤ 2147483647) (h7 : -2147483648 ≤ x2) (h8 : x2 ≤ 2147483647) : x0 + 1 ≤ 2147483647 := by omega
theorem o18_55 {x0 x2 x3 : Int} {x1 : Nat} (h0 : 0 ≤ x2) (h1 : x2 ≤ 25) (h2 : 25 - x2 < ((x1 + 1 : Nat) : Int)) (h3 : x3 = 25) (h4 : x2 < x3) (h5 : x0 = x2 + 1) : 25 - x0 < (x1 : Int) := by omega
theorem o18_56 {x0 x1 x3 : Int} {x2 : Nat} (h0 : 0 ≤ x1) (h1 : x1 ≤ 25) (h2 : 25 - x1 < ((x2 + 1 : Nat) : Int)) (h3 : x3 = 25) (h4 : x1 < x3) (h5 : x0 = x1 + 1) : 0 ≤ x0 := by omega
theorem o18_57 {x0 x1 x3 : Int} {x2 : Nat} (h0 : 0 ≤ x1) (h1 : x1 ≤ 25) (h2 : 25 - x1 < ((x2 + 1 : Nat) : Int)) (h3 : x3 = 25) (h4 : x1 < x3) (h5 : x0 = x1 + 1) : x0 ≤ 25 := by omega
theorem o18_58 {x0 x1 : Int} (h0 : 0 ≤ x1) (h1 : x1 ≤ 5) (h2 : 0 < x1) (h3 : 0 ≤ x0) (h4 : x0 ≤ 5) (h5 : x0 = x1) : 0 < x0 := by omega
theorem o18_59 {x0 x2 : Int} {x1 : Nat} (h0 : 0 ≤ x0) (h1 : x0 ≤ 25) (h2 : 25 - x0 < ((x1 + 1 : Nat) : Int)) (h3 : x2 = 25) (h4 : x0 < x2) : 0 ≤ x0 := by omega
theorem o18_60 {x0 x1 x2 x4 x5 x6 : Int} {x3 : Nat} (h0 : 0 ≤ x1) (h1 : x1 ≤ 5) (h2 : 0 < x1) (h3 : 0 ≤ x2) (h4 : x2 ≤ 25) (h5 : 25 - x2 < ((x3 + 1 : Nat) : Int)) (h6 : x4 = 25) (h7 : x2 < x4) (h8 : 0 ≤ x5) (h9 : x5 ≤ 5) (h10 : x5 = x1) (h11 : x6 = x2 % x5) (h12 : 0 ≤ x6) (h13 : x6 < x5) (h14 : 0 ≤ x0) (h15 : x0 ≤ 5) (h16 : x0 = x1) : 0 < x0 := by omega
theorem o18_61 {x0 x1 x3 x4 x5 x6 : Int} {x2 : Nat} (h0 : 0 ≤ x1) (h1 : x1 ≤ 5) (h2 : 0 < x1) (h3 : 0 ≤ x0) (h4 : x0 ≤ 25) (h5 : 25 - x0 < ((x2 + 1 : Nat) : Int)) (h6 : x3 = 25) (h7 : x0 < x3) (h8 : 0 ≤ x4) (h9 : x4 ≤ 5) (h10 : x4 = x1) (h11 : x5 = x0 % x4) (h12 : 0 ≤ x5) (h13 : x5 < x4) (h14 : 0 ≤ x6) (h15 : x6 ≤ 5) (h16 : x6 = x1) : 0 ≤ x0 := by omega
theorem o18_62 {x0 x1 x3 x4 x5 x6 x7 : Int} {x2 : Nat} (h0 : 0 ≤ x1) (h1 : x1 ≤ 5) (h2 : 0 < x1) (h3 : 0 ≤ x0) (h4 : x0 ≤ 25) (h5 : 25 - x0 < ((x2 + 1 : Nat) : Int)) (h6 : x3 = 25) (h7 : x0 < x3) (h8 : 0 ≤ x4) (h9 : x4 ≤ 5) (h10 : x4 = x1) (h11 : x5 = x0 % x4) (h12 : 0 ≤ x5) (h13 : x5 < x4) (h14 : 0 ≤ x6) (h15 : x6 ≤ 5) (h16 : x6 = x1) (h17 : x7 = x0 / x6) (h18 : 0 ≤ x7) (h19 : x7 ≤ x0) : 0 ≤ x0 := by omega
theorem o18_63 {x0 x1 x3 x4 x5 x6 x7 : Int} {x2 : Nat} (h0 : 0 ≤ x1) (h1 : x1 ≤ 5) (h2 : 0 < x1) (h3 : 0 ≤ x0) (h4 : x0 ≤ 25) (h5 : 25 - x0 < ((x2 + 1 : Nat) : Int)) (h6 : x3 = 25) (h7 : x0 < x3) (h8 : 0 ≤ x4) (h9 : x4 ≤ 5) (h10 : x4 = x1) (h11 : x5 = x0 % x4) (h12 : 0 ≤ x5) (h13 : x5 < x4) (h14 : 0 ≤ x6) (h15 : x6 ≤ 5) (h16 : x6 = x1) (h17 : x7 = x0 / x6) (h18 : 0 ≤ x7) (h19 : x7 ≤ x0) : x0 < (25 : Nat) := by omega
theorem o18_64 {x0 x1 x3 x4 x5 x6 x7 : Int} {x2 : Nat} (h0 : 0 ≤ x1) (h1 : x1 ≤ 5) (h2 : 0 < x1) (h3 : 0 ≤ x0) (h4 : x0 ≤ 25) (h5 : 25 - x0 < ((x2 + 1 : Nat) : Int)) (h6 : x3 = 25) (h7 : x0 < x3) (h8 : 0 ≤ x4) (h9 : x4 ≤ 5) (h10 : x4 = x1) (h11 : x5 = x0 % x4) (h12 : 0 ≤ x5) (h13 : x5 < x4) (h14 : 0 ≤ x6) (h15 : x6 ≤ 5) (h16 : x6 = x1) (h17 : x7 = x0 / x6) (h18 : 0 ≤ x7) (h19 : x7 ≤ x0) (h20 : -2147483648 ≤ x0) (h21 : x0 ≤ 2147483647) (h22 : -2147483648 ≤ x1) (h23 : x1 ≤ 2147483647) (h24 : -2147483648 ≤ x3) (h25 : x3 ≤ 2147483647) (h26 : -2147483648 ≤ x4) (h27 : x4 ≤ 2147483647) (h28 : -2147483648 ≤ x5) (h29 : x5 ≤ 2147483647) (h30 : -2147483648 ≤ x6) (h31 : x6 ≤ 2147483647) (h32 : -2147483648 ≤ x7) (h33 : x7 ≤ 2147483647) : -2147483648 ≤ x0 + 1 := by omega
theorem o18_65 {x0 x1 x3 x4 x5 x6 x7 : Int} {x2 : Nat} (h0 : 0 ≤ x1) (h1 : x1 ≤ 5) (h2 : 0 < x1) (h3 : 0 ≤ x0) (h4 : x0 ≤ 25) (h5 : 25 - x0 < ((x2 + 1 : Nat) : Int)) (h6 : x3 = 25) (h7 : x0 < x3) (h8 : 0 ≤ x4) (h9 : x4 ≤ 5) (h10 : x4 = x1) (h11 : x5 = x0 % x4) (h12 : 0 ≤ x5) (h13 : x5 < x4) (h14 : 0 ≤ x6) (h15 : x6 ≤ 5) (h16 : x6 = x1) (h17 : x7 = x0 / x6) (h18 : 0 ≤ x7) (h19 : x7 ≤ x0) (h20 : -2147483648 ≤ x0) (h21 : x0 ≤ 2147483647) (h22 : -2147483648 ≤ x1) (h23 : x1 ≤ 2147483647) (h24 : -2147483648 ≤ x3) (h25 : x3 ≤ 2147483647) (h26 : -2147483648 ≤ x4) (h27 : x4 ≤ 2147483647) (h28 : -2147483648 ≤ x5) (h29 : x5 ≤ 2147483647) (h30 : -2147483648 ≤ x6) (h31 : x6 ≤ 2147483647) (h32 : -2147483648 ≤ x7) (h33 : x7 ≤ 2147483647) : x0 + 1 ≤ 2147483647 := by omega
theorem o18_66 {x0 x2 x3 x4 x5 x6 x7 x8 : Int} {x1 : Nat} (h0 : 0 ≤ x2) (h1 : x2 ≤ 5) (h2 : 0 < x2) (h3 : 0 ≤ x3) (h4 : x3 ≤ 25) (h5 : 25 - x3 < ((x1 + 1 : Nat) : Int)) (h6 : x4 = 25) (h7 : x3 < x4) (h8 : 0 ≤ x5) (h9 : x5 ≤ 5) (h10 : x5 = x2) (h11 : x6 = x3 % x5) (h12 : 0 ≤ x6) (h13 : x6 < x5) (h14 : 0 ≤ x7) (h15 : x7 ≤ 5) (h16 : x7 = x2) (h17 : x8 = x3 / x7) (h18 : 0 ≤ x8) (h19 : x8 ≤ x3) (h20 : x0 = x3 + 1) : 25 - x0 < (x1 : Int) := by omega
theorem o18_67 {x0 x1 x2 x4 x5 x6 x7 x8 : Int} {x3 : Nat} (h0 : 0 ≤ x1) (h1 : x1 ≤ 5) (h2 : 0 < x1) (h3 : 0 ≤ x2) (h4 : x2 ≤ 25) (h5 : 25 - x2 < ((x3 + 1 : Nat) : Int)) (h6 : x4 = 25) (h7 : x2 < x4) (h8 : 0 ≤ x5) (h9 : x5 ≤ 5) (h10 : x5 = x1) (h11 : x6 = x2 % x5) (h12 : 0 ≤ x6) (h13 : x6 < x5) (h14 : 0 ≤ x7) (h15 : x7 ≤ 5) (h16 : x7 = x1) (h17 : x8 = x2 / x7) (h18 : 0 ≤ x8) (h19 : x8 ≤ x2) (h20 : x0 = x2 + 1) : 0 ≤ x0 := by omega
theorem o18_68 {x0 x1 x2 x4 x5 x6 x7 x8 : Int} {x3 : Nat} (h0 : 0 ≤ x1) (h1 : x1 ≤ 5) (h2 : 0 < x1) (h3 : 0 ≤ x2) (h4 : x2 ≤ 25) (h5 : 25 - x2 < ((x3 + 1 : Nat) : Int)) (h6 : x4 = 25) (h7 : x2 < x4) (h8 : 0 ≤ x5) (h9 : x5 ≤ 5) (h10 : x5 = x1) (h11 : x6 = x2 % x5) (h12 : 0 ≤ x6) (h13 : x6 < x5) (h14 : 0 ≤ x7) (h15 : x7 ≤ 5) (h16 : x7 = x1) (h17 : x8 = x2 / x7) (h18 : 0 ≤ x8) (h19 : x8 ≤ x2) (h20 : x0 = x2 + 1) : x0 ≤ 25 := by omega
theorem o18_69 {x0 : Int} (h0 : x0 = 0) : 25 - x0 < (((25 - x0 + 1).toNat : Nat) : Int) := by omega
theorem o18_70 {x0 : Int} (h0 : x0 = 0) : x0 ≤ 25 := by omega
theorem o18_71 {x0 : Int} (h0 : x0 = 2) : x0 = 2 := by omega
theorem o18_72 {x0 x1 : Int} (h0 : 0 ≤ x0) (h1 : x0 ≤ 3) (h2 : x1 = 2) (h3 : x1 ≤ x0) : ¬ x0 < 2 := by omega
theorem o18_73 {x0 x1 : Int} (h0 : 0 ≤ x0) (h1 : x0 ≤ 3) (h2 : x1 = 2) (h3 : x0 < x1) : x0 < 2 := by omega
theorem o18_74 {x0 x1 : Int} (h0 : 0 ≤ x0) (h1 : x0 ≤ 3) (h2 : x1 = 2) (h3 : x1 ≤ x0) : 0 ≤ x0 := by omega
theorem o18_75 {x0 x1 : Int} (h0 : 0 ≤ x0) (h1 : x0 ≤ 3) (h2 : x1 = 2) (h3 : x1 ≤ x0) : x0 < 4 := by omega
theorem o18_76 {x0 x1 x2 : Int} (h0 : 0 ≤ x0) (h1 : x0 ≤ 99) (h2 : x2 = x0 / 4) (h3 : 0 ≤ x1) (h4 : x1 ≤ 3) (h5 : -2147483648 ≤ x0) (h6 : x0 ≤ 2147483647) (h7 : -2147483648 ≤ x1) (h8 : x1 ≤ 2147483647) (h9 : -2147483648 ≤ x2) (h10 : x2 ≤ 2147483647) : -2147483648 ≤ x0 + x1 := by omega
theorem o18_77 {x0 x1 x2 : Int} (h0 : 0 ≤ x0) (h1 : x0 ≤ 99) (h2 : x2 = x0 / 4) (h3 : 0 ≤ x1) (h4 : x1 ≤ 3) (h5 : -2147483648 ≤ x0) (h6 : x0 ≤ 2147483647) (h7 : -2147483648 ≤ x1) (h8 : x1 ≤ 2147483647) (h9 : -2147483648 ≤ x2) (h10 : x2 ≤ 2147483647) : x0 + x1 ≤ 2147483647 := by omega
theorem o18_78 {x0 : Int} (h0 : x0 = 3) : x0 = 3 := by omega
theorem o18_79 {x0 x1 x2 : Int} (h0 : 0 ≤ x0) (h1 : x0 ≤ 3) (h2 : x2 = 2) (h3 : x2 ≤ x0) (h4 : x1 = 1) (h5 : -2147483648 ≤ x0) (h6 : x0 ≤ 2147483647) (h7 : -2147483648 ≤ x1) (h8 : x1 ≤ 2147483647) (h9 : -2147483648 ≤ x2) (h10 : x2 ≤ 2147483647) : -2147483648 ≤ x0 - x1 := by omega
theorem o18_80 {x0 x1 x2 : Int} (h0 : 0 ≤ x0) (h1 : x0 ≤ 3) (h2 : x2 = 2) (h3 : x2 ≤ x0) (h4 : x1 = 1) (h5 : -2147483648 ≤ x0) (h6 : x0 ≤ 2147483647) (h7 : -2147483648 ≤ x1) (h8 : x1 ≤ 2147483647) (h9 : -2147483648 ≤ x2) (h10 : x2 ≤ 2147483647) : x0 - x1 ≤ 2147483647 := by omega
theorem o18_81 {x0 x1 x2 x3 : Int} (h0 : 0 ≤ x1) (h1 : x1 ≤ 3) (h2 : x2 = 2) (h3 : x2 ≤ x1) (h4 : x3 = 1) (h5 : x0 = x1 - x3) : (-1) ≤ x0 := by omega
theorem o18_82 {x0 x1 x2 x3 : Int} (h0 : 0 ≤ x1) (h1 : x1 ≤ 3) (h2 : x2 = 2) (h3 : x2 ≤ x1) (h4 : x3 = 1) (h5 : x0 = x1 - x3) : x0 ≤ 2 := by omega
theorem o18_83 {x0 : Int} (h0 : x0 = 0) : (-1) ≤ x0 := by omega
theorem o18_84 {x0 : Int} (h0 : x0 = 0) : x0 ≤ 2 := by omega
theorem o18_85 {x0 : Int} (h0 : x0 = (-1)) : (-1) ≤ x0 := by omega
theorem o18_86 {x0 : Int} (h0 : x0 = (-1)) : x0 ≤ 2 := by omega
theorem o18_87 {x0 : Int} (h0 : 0 ≤ x0) (h1 : x0 ≤ 484) (h2 : 484 - x0 < 0) : False := by omega
theorem o18_88 {x0 : Int} (h0 : 0 ≤ x0) (h1 : x0 ≤ 120) (h2 : -2147483648 ≤ x0) (h3 : x0 ≤ 2147483647) : -2147483648 ≤ 4 * x0 := by omega
theorem o18_89 {x0 : Int} (h0 : 0 ≤ x0) (h1 : x0 ≤ 120) (h2 : -2147483648 ≤ x0) (h3 : x0 ≤ 2147483647) : 4 * x0 ≤ 2147483647 := by omega
theorem o18_90 {x0 x1 x2 : Int} (h0 : 0 ≤ x2) (h1 : x2 ≤ 120) (h2 : x0 = 4 * x2) (h3 : x1 = 4) (h4 : -2147483648 ≤ x0) (h5 : x0 ≤ 2147483647) (h6 : -2147483648 ≤ x1) (h7 : x1 ≤ 2147483647) (h8 : -2147483648 ≤ x2) (h9 : x2 ≤ 2147483647) : -2147483648 ≤ x0 + x1 := by omega
theorem o18_91 {x0 x1 x2 : Int} (h0 : 0 ≤ x2) (h1 : x2 ≤ 120) (h2 : x0 = 4 * x2) (h3 : x1 = 4) (h4 : -2147483648 ≤ x0) (h5 : x0 ≤ 2147483647) (h6 : -2147483648 ≤ x1) (h7 : x1 ≤ 2147483647) (h8 : -2147483648 ≤ x2) (h9 : x2 ≤ 2147483647) : x0 + x1 ≤ 2147483647 := by omega
theorem o18_92 {x0 : Int} (h0 : x0 = 0) : x0 ≤ 120 := by omega
theorem o18_93 {x0 : Int} (h0 : 0 ≤ x0) (h1 : x0 ≤ 3) : x0 < (484 : Nat) := by omega
theorem o18_94 {x0 : Int} (h0 : x0 = 0) : x0 ≤ 0 := by omega
theorem o18_95 {x0 x2 x3 x4 x5 : Int} {x1 : Nat} (h0 : 0 ≤ x0) (h1 : x0 ≤ 484) (h2 : 484 - x0 < ((x1 + 1 : Nat) : Int)) (h3 : 0 ≤ x2) (h4 : x2 ≤ 120) (h5 : x3 = 4 * x2) (h6 : x4 = 4) (h7 : x5 = x3 + x4) (h8 : x0 < x5) : 0 ≤ x0 := by omega
theorem o18_96 {x0 x2 x3 x4 x5 : Int} {x1 : Nat} (h0 : 0 ≤ x0) (h1 : x0 ≤ 484) (h2 : 484 - x0 < ((x1 + 1 : Nat) : Int)) (h3 : 0 ≤ x2) (h4 : x2 ≤ 120) (h5 : x3 = 4 * x2) (h6 : x4 = 4) (h7 : x5 = x3 + x4) (h8 : x0 < x5) : x0 < (484 : Nat) := by omega
theorem o18_97 {x0 x2 x3 x4 x5 : Int} {x1 : Nat} (h0 : 0 ≤ x0) (h1 : x0 ≤ 484) (h2 : 484 - x0 < ((x1 + 1 : Nat) : Int)) (h3 : 0 ≤ x2) (h4 : x2 ≤ 120) (h5 : x3 = 4 * x2) (h6 : x4 = 4) (h7 : x5 = x3 + x4) (h8 : x0 < x5) (h9 : -2147483648 ≤ x0) (h10 : x0 ≤ 2147483647) (h11 : -2147483648 ≤ x2) (h12 : x2 ≤ 2147483647) (h13 : -2147483648 ≤ x3) (h14 : x3 ≤ 2147483647) (h15 : -2147483648 ≤ x4) (h16 : x4 ≤ 2147483647) (h17 : -2147483648 ≤ x5) (h18 : x5 ≤ 2147483647) : -2147483648 ≤ x0 + 1 := by omega
theorem o18_98 {x0 x2 x3 x4 x5 : Int} {x1 : Nat} (h0 : 0 ≤ x0) (h1 : x0 ≤ 484) (h2 : 484 - x0 < ((x1 + 1 : Nat) : Int)) (h3 : 0 ≤ x2) (h4 : x2 ≤ 120) (h5 : x3 = 4 * x2) (h6 : x4 = 4) (h7 : x5 = x3 + x4) (h8 : x0 < x5) (h9 : -2147483648 ≤ x0) (h10 : x0 ≤ 2147483647) (h11 : -2147483648 ≤ x2) (h12 : x2 ≤ 2147483647) (h13 : -2147483648 ≤ x3) (h14 : x3 ≤ 2147483647) (h15 : -2147483648 ≤ x4) (h16 : x4 ≤ 2147483647) (h17 : -2147483648 ≤ x5) (h18 : x5 ≤ 2147483647) : x0 + 1 ≤ 2147483647 := by omega
theorem o18_99 {x0 x2 x3 x4 x5 x6 : Int} {x1 : Nat} (h0 : 0 ≤ x2) (h1 : x2 ≤ 484) (h2 : 484 - x2 < ((x1 + 1 : Nat) : Int)) (h3 : 0 ≤ x3) (h4 : x3 ≤ 120) (h5 : x4 = 4 * x3) (h6 : x5 = 4) (h7 : x6 = x4 + x5) (h8 : x2 < x6) (h9 : x0 = x2 + 1) : 484 - x0 < (x1 : Int) := by omega
theorem o18_100 {x0 x1 x3 x4 x5 x6 : Int} {x2 : Nat} (h0 : 0 ≤ x1) (h1 : x1 ≤ 484) (h2 : 484 - x1 < ((x2 + 1 : Nat) : Int)) (h3 : 0 ≤ x3) (h4 : x3 ≤ 120) (h5 : x4 = 4 * x3) (h6 : x5 = 4) (h7 : x6 = x4 + x5) (h8 : x1 < x6) (h9 : x0 = x1 + 1) : 0 ≤ x0 := by omega
theorem o18_101 {x0 x1 x3 x4 x5 x6 : Int} {x2 : Nat} (h0 : 0 ≤ x1) (h1 : x1 ≤ 484) (h2 : 484 - x1 < ((x2 + 1 : Nat) : Int)) (h3 : 0 ≤ x3) (h4 : x3 ≤ 120) (h5 : x4 = 4 * x3) (h6 : x5 = 4) (h7 : x6 = x4 + x5) (h8 : x1 < x6) (h9 : x0 = x1 + 1) : x0 ≤ 484 := by omega
theorem o18_102 {x0 : Int} (h0 : x0 = 0) : 484 - x0 < (((484 - x0 + 1).toNat : Nat) : Int) := by omega
theorem o18_103 {x0 : Int} (h0 : x0 = 0) : x0 ≤ 484 := by omega
theorem o18_104 {x0 : Int} (h0 : 0 ≤ x0) (h1 : x0 ≤ 120) : 0 ≤ x0 := by omega
theorem o18_105 {x0 : Int} (h0 : 0 ≤ x0) (h1 : x0 ≤ 120) : x0 ≤ 120 := by omega
theorem o18_106 {x0 : Int} (h0 : 0 ≤ x0) (h1 : x0 ≤ 121) (h2 : 121 - x0 < 0) : False := by omega
theorem o18_107 {x0 x2 : Int} {x1 : Nat} (h0 : 0 ≤ x0) (h1 : x0 ≤ 4) (h2 : 4 - x0 < ((x1 + 1 : Nat) : Int)) (h3 : x2 = 4) (h4 : x0 < x2) (h5 : -2147483648 ≤ x0) (h6 : x0 ≤ 2147483647) (h7 : -2147483648 ≤ x2) (h8 : x2 ≤ 2147483647) : -2147483648 ≤ x0 + 1 := by omega
theorem o18_108 {x0 x2 : Int} {x1 : Nat} (h0 : 0 ≤ x0) (h1 : x0 ≤ 4) (h2 : 4 - x0 < ((x1 + 1 : Nat) : Int)) (h3 : x2 = 4) (h4 : x0 < x2) (h5 : -2147483648 ≤ x0) (h6 : x0 ≤ 2147483647) (h7 : -2147483648 ≤ x2) (h8 : x2 ≤ 2147483647) : x0 + 1 ≤ 2147483647 := by omega
theorem o18_109 {x0 x2 x3 : Int} {x1 : Nat} (h0 : 0 ≤ x2) (h1 : x2 ≤ 4) (h2 : 4 - x2 < ((x1 + 1 : Nat) : Int)) (h3 : x3 = 4) (h4 : x2 < x3) (h5 : x0 = x2 + 1) : 4 - x0 < (x1 : Int) := by omega
theorem o18_110 {x0 x1 x3 : Int} {x2 : Nat} (h0 : 0 ≤ x1) (h1 : x1 ≤ 4) (h2 : 4 - x1 < ((x2 + 1 : Nat) : Int)) (h3 : x3 = 4) (h4 : x1 < x3) (h5 : x0 = x1 + 1) : 0 ≤ x0 := by omega
theorem o18_111 {x0 x1 x3 : Int} {x2 : Nat} (h0 : 0 ≤ x1) (h1 : x1 ≤ 4) (h2 : 4 - x1 < ((x2 + 1 : Nat) : Int)) (h3 : x3 = 4) (h4 : x1 < x3) (h5 : x0 = x1 + 1) : x0 ≤ 4 := by omega
theorem o18_112 {x0 x2 : Int} {x1 : Nat} (h0 : 0 ≤ x0) (h1 : x0 ≤ 121) (h2 : 121 - x0 < ((x1 + 1 : Nat) : Int)) (h3 : 0 ≤ x2) (h4 : x2 ≤ 120) (h5 : x0 ≤ x2) (h6 : -2147483648 ≤ x0) (h7 : x0 ≤ 2147483647) (h8 : -2147483648 ≤ x2) (h9 : x2 ≤ 2147483647) : -2147483648 ≤ 4 * x0 := by omega
theorem o18_113 {x0 x2 : Int} {x1 : Nat} (h0 : 0 ≤ x0) (h1 : x0 ≤ 121) (h2 : 121 - x0 < ((x1 + 1 : Nat) : Int)) (h3 : 0 ≤ x2) (h4 : x2 ≤ 120) (h5 : x0 ≤ x2) (h6 : -2147483648 ≤ x0) (h7 : x0 ≤ 2147483647) (h8 : -2147483648 ≤ x2) (h9 : x2 ≤ 2147483647) : 4 * x0 ≤ 2147483647 := by omega
theorem o18_114 {x0 x1 x3 x4 x6 : Int} {x2 x5 : Nat} (h0 : 0 ≤ x1) (h1 : x1 ≤ 4) (h2 : 4 - x1 < ((x2 + 1 : Nat) : Int)) (h3 : x3 = 4) (h4 : x1 < x3) (h5 : 0 ≤ x4) (h6 : x4 ≤ 121) (h7 : 121 - x4 < ((x5 + 1 : Nat) : Int)) (h8 : 0 ≤ x6) (h9 : x6 ≤ 120) (h10 : x4 ≤ x6) (h11 : x0 = 4 * x4) (h12 : -2147483648 ≤ x0) (h13 : x0 ≤ 2147483647) (h14 : -2147483648 ≤ x1) (h15 : x1 ≤ 2147483647) (h16 : -2147483648 ≤ x3) (h17 : x3 ≤ 2147483647) (h18 : -2147483648 ≤ x4) (h19 : x4 ≤ 2147483647) (h20 : -2147483648 ≤ x6) (h21 : x6 ≤ 2147483647) : -2147483648 ≤ x0 + x1 := by omega
theorem o18_115 {x0 x1 x3 x4 x6 : Int} {x2 x5 : Nat} (h0 : 0 ≤ x1) (h1 : x1 ≤ 4) (h2 : 4 - x1 < ((x2 + 1 : Nat) : Int)) (h3 : x3 = 4) (h4 : x1 < x3) (h5 : 0 ≤ x4) (h6 : x4 ≤ 121) (h7 : 121 - x4 < ((x5 + 1 : Nat) : Int)) (h8 : 0 ≤ x6) (h9 : x6 ≤ 120) (h10 : x4 ≤ x6) (h11 : x0 = 4 * x4) (h12 : -2147483648 ≤ x0) (h13 : x0 ≤ 2147483647) (h14 : -2147483648 ≤ x1) (h15 : x1 ≤ 2147483647) (h16 : -2147483648 ≤ x3) (h17 : x3 ≤ 2147483647) (h18 : -2147483648 ≤ x4) (h19 : x4 ≤ 2147483647) (h20 : -2147483648 ≤ x6) (h21 : x6 ≤ 2147483647) : x0 + x1 ≤ 2147483647 := by omega
theorem o18_116 {x0 x1 x3 x4 x6 x7 : Int} {x2 x5 : Nat} (h0 : 0 ≤ x1) (h1 : x1 ≤ 4) (h2 : 4 - x1 < ((x2 + 1 : Nat) : Int)) (h3 : x3 = 4) (h4 : x1 < x3) (h5 : 0 ≤ x4) (h6 : x4 ≤ 121) (h7 : 121 - x4 < ((x5 + 1 : Nat) : Int)) (h8 : 0 ≤ x6) (h9 : x6 ≤ 120) (h10 : x4 ≤ x6) (h11 : x7 = 4 * x4) (h12 : x0 = x7 + x1) : 0 ≤ x0 := by omega
theorem o18_117 {x0 x1 x3 x4 x6 x7 : Int} {x2 x5 : Nat} (h0 : 0 ≤ x1) (h1 : x1 ≤ 4) (h2 : 4 - x1 < ((x2 + 1 : Nat) : Int)) (h3 : x3 = 4) (h4 : x1 < x3) (h5 : 0 ≤ x4) (h6 : x4 ≤ 121) (h7 : 121 - x4 < ((x5 + 1 : Nat) : Int)) (h8 : 0 ≤ x6) (h9 : x6 ≤ 120) (h10 : x4 ≤ x6) (h11 : x7 = 4 * x4) (h12 : x0 = x7 + x1) : x0 < (484 : Nat) := by omega
theorem o18_118 {x0 x1 x3 x5 x6 x7 : Int} {x2 x4 : Nat} (h0 : 0 ≤ x1) (h1 : x1 ≤ 4) (h2 : 4 - x1 < ((x2 + 1 : Nat) : Int)) (h3 : x3 = 4) (h4 : x1 < x3) (h5 : 0 ≤ x0) (h6 : x0 ≤ 121) (h7 : 121 - x0 < ((x4 + 1 : Nat) : Int)) (h8 : 0 ≤ x5) (h9 : x5 ≤ 120) (h10 : x0 ≤ x5) (h11 : x6 = 4 * x0) (h12 : x7 = x6 + x1) (h13 : -2147483648 ≤ x0) (h14 : x0 ≤ 2147483647) (h15 : -2147483648 ≤ x1) (h16 : x1 ≤ 2147483647) (h17 : -2147483648 ≤ x3) (h18 : x3 ≤ 2147483647) (h19 : -2147483648 ≤ x5) (h20 : x5 ≤ 2147483647) (h21 : -2147483648 ≤ x6) (h22 : x6 ≤ 2147483647) (h23 : -2147483648 ≤ x7) (h24 : x7 ≤ 2147483647) : -2147483648 ≤ 4 * x0 := by omega
theorem o18_119 {x0 x1 x3 x5 x6 x7 : Int} {x2 x4 : Nat} (h0 : 0 ≤ x1) (h1 : x1 ≤ 4) (h2 : 4 - x1 < ((x2 + 1 : Nat) : Int)) (h3 : x3 = 4) (h4 : x1 < x3) (h5 : 0 ≤ x0) (h6 : x0 ≤ 121) (h7 : 121 - x0 < ((x4 + 1 : Nat) : Int)) (h8 : 0 ≤ x5) (h9 : x5 ≤ 120) (h10 : x0 ≤ x5) (h11 : x6 = 4 * x0) (h12 : x7 = x6 + x1) (h13 : -2147483648 ≤ x0) (h14 : x0 ≤ 2147483647) (h15 : -2147483648 ≤ x1) (h16 : x1 ≤ 2147483647) (h17 : -2147483648 ≤ x3) (h18 : x3 ≤ 2147483647) (h19 : -2147483648 ≤ x5) (h20 : x5 ≤ 2147483647) (h21 : -2147483648 ≤ x6) (h22 : x6 ≤ 2147483647) (h23 : -2147483648 ≤ x7) (h24 : x7 ≤ 2147483647) : 4 * x0 ≤ 2147483647 := by omega
theorem o18_120 {x0 x1 x3 x4 x6 x7 x8 : Int} {x2 x5 : Nat} (h0 : 0 ≤ x1) (h1 : x1 ≤ 4) (h2 : 4 - x1 < ((x2 + 1 : Nat) : Int)) (h3 : x3 = 4) (h4 : x1 < x3) (h5 : 0 ≤ x4) (h6 : x4 ≤ 121) (h7 : 121 - x4 < ((x5 + 1 : Nat) : Int)) (h8 : 0 ≤ x6) (h9 : x6 ≤ 120) (h10 : x4 ≤ x6) (h11 : x7 = 4 * x4) (h12 : x8 = x7 + x1) (h13 : x0 = 4 * x4) (h14 : -2147483648 ≤ x0) (h15 : x0 ≤ 2147483647) (h16 : -2147483648 ≤ x1) (h17 : x1 ≤ 2147483647) (h18 : -2147483648 ≤ x3) (h19 : x3 ≤ 2147483647) (h20 : -2147483648 ≤ x4) (h21 : x4 ≤ 2147483647) (h22 : -2147483648 ≤ x6) (h23 : x6 ≤ 2147483647) (h24 : -2147483648 ≤ x7) (h25 : x7 ≤ 2147483647) (h26 : -2147483648 ≤ x8) (h27 : x8 ≤ 2147483647) : -2147483648 ≤ x0 + x1 := by omega
theorem o18_121 {x0 x1 x3 x4 x6 x7 x8 : Int} {x2 x5 : Nat} (h0 : 0 ≤ x1) (h1 : x1 ≤ 4) (h2 : 4 - x1 < ((x2 + 1 : Nat) : Int)) (h3 : x3 = 4) (h4 : x1 < x3) (h5 : 0 ≤ x4) (h6 : x4 ≤ 121) (h7 : 121 - x4 < ((x5 + 1 : Nat) : Int)) (h8 : 0 ≤ x6) (h9 : x6 ≤ 120) (h10 : x4 ≤ x6) (h11 : x7 = 4 * x4) (h12 : x8 = x7 + x1) (h13 : x0 = 4 * x4) (h14 : -2147483648 ≤ x0) (h15 : x0 ≤ 2147483647) (h16 : -2147483648 ≤ x1) (h17 : x1 ≤ 2147483647) (h18 : -2147483648 ≤ x3) (h19 : x3 ≤ 2147483647) (h20 : -2147483648 ≤ x4) (h21 : x4 ≤ 2147483647) (h22 : -2147483648 ≤ x6) (h23 : x6 ≤ 2147483647) (h24 : -2147483648 ≤ x7) (h25 : x7 ≤ 2147483647) (h26 : -2147483648 ≤ x8) (h27 : x8 ≤ 2147483647) : x0 + x1 ≤ 2147483647 := by omega
theorem o18_122 {x0 x1 x3 x4 x6 x7 x8 x9 : Int} {x2 x5 : Nat} (h0 : 0 ≤ x1) (h1 : x1 ≤ 4) (h2 : 4 - x1 < ((x2 + 1 : Nat) : Int)) (h3 : x3 = 4) (h4 : x1 < x3) (h5 : 0 ≤ x4) (h6 : x4 ≤ 121) (h7 : 121 - x4 < ((x5 + 1 : Nat) : Int)) (h8 : 0 ≤ x6) (h9 : x6 ≤ 120) (h10 : x4 ≤ x6) (h11 : x7 = 4 * x4) (h12 : x8 = x7 + x1) (h13 : x9 = 4 * x4) (h14 : x0 = x9 + x1) : 0 ≤ x0 := by omega
theorem o18_123 {x0 x1 x3 x4 x6 x7 x8 x9 : Int} {x2 x5 : Nat} (h0 : 0 ≤ x1) (h1 : x1 ≤ 4) (h2 : 4 - x1 < ((x2 + 1 : Nat) : Int)) (h3 : x3 = 4) (h4 : x1 < x3) (h5 : 0 ≤ x4) (h6 : x4 ≤ 121) (h7 : 121 - x4 < ((x5 + 1 : Nat) : Int)) (h8 : 0 ≤ x6) (h9 : x6 ≤ 120) (h10 : x4 ≤ x6) (h11 : x7 = 4 * x4) (h12 : x8 = x7 + x1) (h13 : x9 = 4 * x4) (h14 : x0 = x9 + x1) : x0 < (484 : Nat) := by omega
theorem o18_124 {x0 x1 x3 x5 x6 x7 x8 x9 : Int} {x2 x4 : Nat} (h0 : 0 ≤ x1) (h1 : x1 ≤ 4) (h2 : 4 - x1 < ((x2 + 1 : Nat) : Int)) (h3 : x3 = 4) (h4 : x1 < x3) (h5 : 0 ≤ x0) (h6 : x0 ≤ 121) (h7 : 121 - x0 < ((x4 + 1 : Nat) : Int)) (h8 : 0 ≤ x5) (h9 : x5 ≤ 120) (h10 : x0 ≤ x5) (h11 : x6 = 4 * x0) (h12 : x7 = x6 + x1) (h13 : x8 = 4 * x0) (h14 : x9 = x8 + x1) (h15 : -2147483648 ≤ x0) (h16 : x0 ≤ 2147483647) (h17 : -2147483648 ≤ x1) (h18 : x1 ≤ 2147483647) (h19 : -2147483648 ≤ x3) (h20 : x3 ≤ 2147483647) (h21 : -2147483648 ≤ x5) (h22 : x5 ≤ 2147483647) (h23 : -2147483648 ≤ x6) (h24 : x6 ≤ 2147483647) (h25 : -2147483648 ≤ x7) (h26 : x7 ≤ 2147483647) (h27 : -2147483648 ≤ x8) (h28 : x8 ≤ 2147483647) (h29 : -2147483648 ≤ x9) (h30 : x9 ≤ 2147483647) : -2147483648 ≤ x0 + 1 := by omega
theorem o18_125 {x0 x1 x3 x5 x6 x7 x8 x9 : Int} {x2 x4 : Nat} (h0 : 0 ≤ x1) (h1 : x1 ≤ 4) (h2 : 4 - x1 < ((x2 + 1 : Nat) : Int)) (h3 : x3 = 4) (h4 : x1 < x3) (h5 : 0 ≤ x0) (h6 : x0 ≤ 121) (h7 : 121 - x0 < ((x4 + 1 : Nat) : Int)) (h8 : 0 ≤ x5) (h9 : x5 ≤ 120) (h10 : x0 ≤ x5) (h11 : x6 = 4 * x0) (h12 : x7 = x6 + x1) (h13 : x8 = 4 * x0) (h14 : x9 = x8 + x1) (h15 : -2147483648 ≤ x0) (h16 : x0 ≤ 2147483647) (h17 : -2147483648 ≤ x1) (h18 : x1 ≤ 2147483647) (h19 : -2147483648 ≤ x3) (h20 : x3 ≤ 2147483647) (h21 : -2147483648 ≤ x5) (h22 : x5 ≤ 2147483647) (h23 : -2147483648 ≤ x6) (h24 : x6 ≤ 2147483647) (h25 : -2147483648 ≤ x7) (h26 : x7 ≤ 2147483647) (h27 : -2147483648 ≤ x8) (h28 : x8 ≤ 2147483647) (h29 : -2147483648 ≤ x9) (h30 : x9 ≤ 2147483647) : x0 + 1 ≤ 2147483647 := by omega
theorem o18_126 {x0 x2 x4 x5 x6 x7 x8 x9 x10 : Int} {x1 x3 : Nat} (h0 : 0 ≤ x2) (h1 : x2 ≤ 4) (h2 : 4 - x2 < ((x3 + 1 : Nat) : Int)) (h3 : x4 = 4) (h4 : x2 < x4) (h5 : 0 ≤ x5) (h6 : x5 ≤ 121) (h7 : 121 - x5 < ((x1 + 1 : Nat) : Int)) (h8 : 0 ≤ x6) (h9 : x6 ≤ 120) (h10 : x5 ≤ x6) (h11 : x7 = 4 * x5) (h12 : x8 = x7 + x2) (h13 : x9 = 4 * x5) (h14 : x10 = x9 + x2) (h15 : x0 = x5 + 1) : 121 - x0 < (x1 : Int) := by omega
theorem o18_127 {x0 x1 x3 x4 x6 x7 x8 x9 x10 : Int} {x2 x5 : Nat} (h0 : 0 ≤ x1) (h1 : x1 ≤ 4) (h2 : 4 - x1 < ((x2 + 1 : Nat) : Int)) (h3 : x3 = 4) (h4 : x1 < x3) (h5 : 0 ≤ x4) (h6 : x4 ≤ 121) (h7 : 121 - x4 < ((x5 + 1 : Nat) : Int)) (h8 : 0 ≤ x6) (h9 : x6 ≤ 120) (h10 : x4 ≤ x6) (h11 : x7 = 4 * x4) (h12 : x8 = x7 + x1) (h13 : x9 = 4 * x4) (h14 : x10 = x9 + x1) (h15 : x0 = x4 + 1) : 0 ≤ x0 := by omega
theorem o18_128 {x0 x1 x3 x4 x6 x7 x8 x9 x10 : Int} {x2 x5 : Nat} (h0 : 0 ≤ x1) (h1 : x1 ≤ 4) (h2 : 4 - x1 < ((x2 + 1 : Nat) : Int)) (h3 : x3 = 4) (h4 : x1 < x3) (h5 : 0 ≤ x4) (h6 : x4 ≤ 121) (h7 : 121 - x4 < ((x5 + 1 : Nat) : Int)) (h8 : 0 ≤ x6) (h9 : x6 ≤ 120) (h10 : x4 ≤ x6) (h11 : x7 = 4 * x4) (h12 : x8 = x7 + x1) (h13 : x9 = 4 * x4) (h14 : x10 = x9 + x1) (h15 : x0 = x4 + 1) : x0 ≤ 121 := by omega
theorem o18_129 {x0 x1 x3 x4 x6 x7 x8 x9 x10 x11 : Int} {x2 x5 : Nat} (h0 : 0 ≤ x1) (h1 : x1 ≤ 4) (h2 : 4 - x1 < ((x2 + 1 : Nat) : Int)) (h3 : x3 = 4) (h4 : x1 < x3) (h5 : 0 ≤ x0) (h6 : x0 ≤ 121) (h7 : 0 ≤ x4) (h8 : x4 ≤ 120) (h9 : 121 - x0 < ((x5 + 1 : Nat) : Int)) (h10 : 0 ≤ x6) (h11 : x6 ≤ 120) (h12 : x0 ≤ x6) (h13 : x7 = 4 * x0) (h14 : x8 = x7 + x1) (h15 : x9 = 4 * x0) (h16 : x10 = x9 + x1) (h17 : (x11 = x4 ∧ x0 ≤ x4) ∨ (x11 = x0 ∧ x4 ≤ x0)) (h18 : -2147483648 ≤ x0) (h19 : x0 ≤ 2147483647) (h20 : -2147483648 ≤ x1) (h21 : x1 ≤ 2147483647) (h22 : -2147483648 ≤ x3) (h23 : x3 ≤ 2147483647) (h24 : -2147483648 ≤ x4) (h25 : x4 ≤ 2147483647) (h26 : -2147483648 ≤ x6) (h27 : x6 ≤ 2147483647) (h28 : -2147483648 ≤ x7) (h29 : x7 ≤ 2147483647) (h30 : -2147483648 ≤ x8) (h31 : x8 ≤ 2147483647) (h32 : -2147483648 ≤ x9) (h33 : x9 ≤ 2147483647) (h34 : -2147483648 ≤ x10) (h35 : x10 ≤ 2147483647) (h36 : -2147483648 ≤ x11) (h37 : x11 ≤ 2147483647) : -2147483648 ≤ x0 + 1 := by omega
theorem o18_130 {x0 x1 x3 x4 x6 x7 x8 x9 x10 x11 : Int} {x2 x5 : Nat} (h0 : 0 ≤ x1) (h1 : x1 ≤ 4) (h2 : 4 - x1 < ((x2 + 1 : Nat) : Int)) (h3 : x3 = 4) (h4 : x1 < x3) (h5 : 0 ≤ x0) (h6 : x0 ≤ 121) (h7 : 0 ≤ x4) (h8 : x4 ≤ 120) (h9 : 121 - x0 < ((x5 + 1 : Nat) : Int)) (h10 : 0 ≤ x6) (h11 : x6 ≤ 120) (h12 : x0 ≤ x6) (h13 : x7 = 4 * x0) (h14 : x8 = x7 + x1) (h15 : x9 = 4 * x0) (h16 : x10 = x9 + x1) (h17 : (x11 = x4 ∧ x0 ≤ x4) ∨ (x11 = x0 ∧ x4 ≤ x0)) (h18 : -2147483648 ≤ x0) (h19 : x0 ≤ 2147483647) (h20 : -2147483648 ≤ x1) (h21 : x1 ≤ 2147483647) (h22 : -2147483648 ≤ x3) (h23 : x3 ≤ 2147483647) (h24 : -2147483648 ≤ x4) (h25 : x4 ≤ 2147483647) (h26 : -2147483648 ≤ x6) (h27 : x6 ≤ 2147483647) (h28 : -2147483648 ≤ x7) (h29 : x7 ≤ 2147483647) (h30 : -2147483648 ≤ x8) (h31 : x8 ≤ 2147483647) (h32 : -2147483648 ≤ x9) (h33 : x9 ≤ 2147483647) (h34 : -2147483648 ≤ x10) (h35 : x10 ≤ 2147483647) (h36 : -2147483648 ≤ x11) (h37 : x11 ≤ 2147483647) : x0 + 1 ≤ 2147483647 := by omega
theorem o18_131 {x0 x2 x4 x5 x6 x7 x8 x9 x10 x11 x12 : Int} {x1 x3 : Nat} (h0 : 0 ≤ x2) (h1 : x2 ≤ 4) (h2 : 4 - x2 < ((x3 + 1 : Nat) : Int)) (h3 : x4 = 4) (h4 : x2 < x4) (h5 : 0 ≤ x5) (h6 : x5 ≤ 121) (h7 : 0 ≤ x6) (h8 : x6 ≤ 120) (h9 : 121 - x5 < ((x1 + 1 : Nat) : Int)) (h10 : 0 ≤ x7) (h11 : x7 ≤ 120) (h12 : x5 ≤ x7) (h13 : x8 = 4 * x5) (h14 : x9 = x8 + x2) (h15 : x10 = 4 * x5) (h16 : x11 = x10 + x2) (h17 : (x12 = x6 ∧ x5 ≤ x6) ∨ (x12 = x5 ∧ x6 ≤ x5)) (h18 : x0 = x5 + 1) : 121 - x0 < (x1 : Int) := by omega
theorem o18_132 {x0 x1 x3 x4 x5 x7 x8 x9 x10 x11 x12 : Int} {x2 x6 : Nat} (h0 : 0 ≤ x1) (h1 : x1 ≤ 4) (h2 : 4 - x1 < ((x2 + 1 : Nat) : Int)) (h3 : x3 = 4) (h4 : x1 < x3) (h5 : 0 ≤ x4) (h6 : x4 ≤ 121) (h7 : 0 ≤ x5) (h8 : x5 ≤ 120) (h9 : 121 - x4 < ((x6 + 1 : Nat) : Int)) (h10 : 0 ≤ x7) (h11 : x7 ≤ 120) (h12 : x4 ≤ x7) (h13 : x8 = 4 * x4) (h14 : x9 = x8 + x1) (h15 : x10 = 4 * x4) (h16 : x11 = x10 + x1) (h17 : (x12 = x5 ∧ x4 ≤ x5) ∨ (x12 = x4 ∧ x5 ≤ x4)) (h18 : x0 = x4 + 1) : 0 ≤ x0 := by omega
theorem o18_133 {x0 x1 x3 x4 x5 x7 x8 x9 x10 x11 x12 : Int} {x2 x6 : Nat} (h0 : 0 ≤ x1) (h1 : x1 ≤ 4) (h2 : 4 - x1 < ((x2 + 1 : Nat) : Int)) (h3 : x3 = 4) (h4 : x1 < x3) (h5 : 0 ≤ x4) (h6 : x4 ≤ 121) (h7 : 0 ≤ x5) (h8 : x5 ≤ 120) (h9 : 121 - x4 < ((x6 + 1 : Nat) : Int)) (h10 : 0 ≤ x7) (h11 : x7 ≤ 120) (h12 : x4 ≤ x7) (h13 : x8 = 4 * x4) (h14 : x9 = x8 + x1) (h15 : x10 = 4 * x4) (h16 : x11 = x10 + x1) (h17 : (x12 = x5 ∧ x4 ≤ x5) ∨ (x12 = x4 ∧ x5 ≤ x4)) (h18 : x0 = x4 + 1) : x0 ≤ 121 := by omega
theorem o18_134 {x0 x1 x3 x4 x5 x7 x8 x9 x10 x11 x12 : Int} {x2 x6 : Nat} (h0 : 0 ≤ x1) (h1 : x1 ≤ 4) (h2 : 4 - x1 < ((x2 + 1 : Nat) : Int)) (h3 : x3 = 4) (h4 : x1 < x3) (h5 : 0 ≤ x4) (h6 : x4 ≤ 121) (h7 : 0 ≤ x5) (h8 : x5 ≤ 120) (h9 : 121 - x4 < ((x6 + 1 : Nat) : Int)) (h10 : 0 ≤ x7) (h11 : x7 ≤ 120) (h12 : x4 ≤ x7) (h13 : x8 = 4 * x4) (h14 : x9 = x8 + x1) (h15 : x10 = 4 * x4) (h16 : x11 = x10 + x1) (h17 : (x0 = x5 ∧ x4 ≤ x5) ∨ (x0 = x4 ∧ x5 ≤ x4)) (h18 : x12 = x4 + 1) : 0 ≤ x0 := by omega
theorem o18_135 {x0 x1 x3 x4 x5 x7 x8 x9 x10 x11 x12 : Int} {x2 x6 : Nat} (h0 : 0 ≤ x1) (h1 : x1 ≤ 4) (h2 : 4 - x1 < ((x2 + 1 : Nat) : Int)) (h3 : x3 = 4) (h4 : x1 < x3) (h5 : 0 ≤ x4) (h6 : x4 ≤ 121) (h7 : 0 ≤ x5) (h8 : x5 ≤ 120) (h9 : 121 - x4 < ((x6 + 1 : Nat) : Int)) (h10 : 0 ≤ x7) (h11 : x7 ≤ 120) (h12 : x4 ≤ x7) (h13 : x8 = 4 * x4) (h14 : x9 = x8 + x1) (h15 : x10 = 4 * x4) (h16 : x11 = x10 + x1) (h17 : (x0 = x5 ∧ x4 ≤ x5) ∨ (x0 = x4 ∧ x5 ≤ x4)) (h18 : x12 = x4 + 1) : x0 ≤ 120 := by omega
theorem o18_136 {x0 : Int} (h0 : x0 = 0) : 121 - x0 < (((121 - x0 + 1).toNat : Nat) : Int) := by omega
theorem o18_137 {x0 : Int} (h0 : x0 = 0) : x0 ≤ 121 := by omega
theorem o18_138 {x0 x1 : Int} (h0 : 0 ≤ x1) (h1 : x1 ≤ 120) (h2 : x0 = 4 * x1) : 0 ≤ x0 := by omega
theorem o18_139 {x0 x1 : Int} (h0 : 0 ≤ x1) (h1 : x1 ≤ 120) (h2 : x0 = 4 * x1) : x0 < (484 : Nat) := by omega
theorem o18_140 {x0 x1 x2 : Int} (h0 : 0 ≤ x2) (h1 : x2 ≤ 120) (h2 : x0 = 4 * x2) (h3 : x1 = 1) (h4 : -2147483648 ≤ x0) (h5 : x0 ≤ 2147483647) (h6 : -2147483648 ≤ x1) (h7 : x1 ≤ 2147483647) (h8 : -2147483648 ≤ x2) (h9 : x2 ≤ 2147483647) : -2147483648 ≤ x0 + x1 := by omega
theorem o18_141 {x0 x1 x2 : Int} (h0 : 0 ≤ x2) (h1 : x2 ≤ 120) (h2 : x0 = 4 * x2) (h3 : x1 = 1) (h4 : -2147483648 ≤ x0) (h5 : x0 ≤ 2147483647) (h6 : -2147483648 ≤ x1) (h7 : x1 ≤ 2147483647) (h8 : -2147483648 ≤ x2) (h9 : x2 ≤ 2147483647) : x0 + x1 ≤ 2147483647 := by omega
theorem o18_142 {x0 x1 x2 x3 : Int} (h0 : 0 ≤ x1) (h1 : x1 ≤ 120) (h2 : x2 = 4 * x1) (h3 : x3 = 1) (h4 : x0 = x2 + x3) : 0 ≤ x0 := by omega
theorem o18_143 {x0 x1 x2 x3 : Int} (h0 : 0 ≤ x1) (h1 : x1 ≤ 120) (h2 : x2 = 4 * x1) (h3 : x3 = 1) (h4 : x0 = x2 + x3) : x0 < (484 : Nat) := by omega
theorem o18_144 {x0 x1 x2 x3 x4 : Int} (h0 : 0 ≤ x2) (h1 : x2 ≤ 120) (h2 : x0 = 4 * x2) (h3 : x3 = 1) (h4 : x4 = x0 + x3) (h5 : x1 = 2) (h6 : -2147483648 ≤ x0) (h7 : x0 ≤ 2147483647) (h8 : -2147483648 ≤ x1) (h9 : x1 ≤ 2147483647) (h10 : -2147483648 ≤ x2) (h11 : x2 ≤ 2147483647) (h12 : -2147483648 ≤ x3) (h13 : x3 ≤ 2147483647) (h14 : -2147483648 ≤ x4) (h15 : x4 ≤ 2147483647) : -2147483648 ≤ x0 + x1 := by omega
theorem o18_145 {x0 x1 x2 x3 x4 : Int} (h0 : 0 ≤ x2) (h1 : x2 ≤ 120) (h2 : x0 = 4 * x2) (h3 : x3 = 1) (h4 : x4 = x0 + x3) (h5 : x1 = 2) (h6 : -2147483648 ≤ x0) (h7 : x0 ≤ 2147483647) (h8 : -2147483648 ≤ x1) (h9 : x1 ≤ 2147483647) (h10 : -2147483648 ≤ x2) (h11 : x2 ≤ 2147483647) (h12 : -2147483648 ≤ x3) (h13 : x3 ≤ 2147483647) (h14 : -2147483648 ≤ x4) (h15 : x4 ≤ 2147483647) : x0 + x1 ≤ 2147483647 := by omega
theorem o18_146 {x0 x1 x2 x3 x4 x5 : Int} (h0 : 0 ≤ x1) (h1 : x1 ≤ 120) (h2 : x2 = 4 * x1) (h3 : x3 = 1) (h4 : x4 = x2 + x3) (h5 : x5 = 2) (h6 : x0 = x2 + x5) : 0 ≤ x0 := by omega
theorem o18_147 {x0 x1 x2 x3 x4 x5 : Int} (h0 : 0 ≤ x1) (h1 : x1 ≤ 120) (h2 : x2 = 4 * x1) (h3 : x3 = 1) (h4 : x4 = x2 + x3) (h5 : x5 = 2) (h6 : x0 = x2 + x5) : x0 < (484 : Nat) := by omega
theorem o18_148 {x0 x1 x2 x3 x4 x5 x6 : Int} (h0 : 0 ≤ x2) (h1 : x2 ≤ 120) (h2 : x0 = 4 * x2) (h3 : x3 = 1) (h4 : x4 = x0 + x3) (h5 : x5 = 2) (h6 : x6 = x0 + x5) (h7 : x1 = 3) (h8 : -2147483648 ≤ x0) (h9 : x0 ≤ 2147483647) (h10 : -2147483648 ≤ x1) (h11 : x1 ≤ 2147483647) (h12 : -2147483648 ≤ x2) (h13 : x2 ≤ 2147483647) (h14 : -2147483648 ≤ x3) (h15 : x3 ≤ 2147483647) (h16 : -2147483648 ≤ x4) (h17 : x4 ≤ 2147483647) (h18 : -2147483648 ≤ x5) (h19 : x5 ≤ 2147483647) (h20 : -2147483648 ≤ x6) (h21 : x6 ≤ 2147483647) : -2147483648 ≤ x0 + x1 := by omega
theorem o18_149 {x0 x1 x2 x3 x4 x5 x6 : Int} (h0 : 0 ≤ x2) (h1 : x2 ≤ 120) (h2 : x0 = 4 * x2) (h3 : x3 = 1) (h4 : x4 = x0 + x3) (h5 : x5 = 2) (h6 : x6 = x0 + x5) (h7 : x1 = 3) (h8 : -2147483648 ≤ x0) (h9 : x0 ≤ 2147483647) (h10 : -2147483648 ≤ x1) (h11 : x1 ≤ 2147483647) (h12 : -2147483648 ≤ x2) (h13 : x2 ≤ 2147483647) (h14 : -2147483648 ≤ x3) (h15 : x3 ≤ 2147483647) (h16 : -2147483648 ≤ x4) (h17 : x4 ≤ 2147483647) (h18 : -2147483648 ≤ x5) (h19 : x5 ≤ 2147483647) (h20 : -2147483648 ≤ x6) (h21 : x6 ≤ 2147483647) : x0 + x1 ≤ 2147483647 := by omega
theorem o18_150 {x0 x1 x2 x3 x4 x5 x6 x7 : Int} (h0 : 0 ≤ x1) (h1 : x1 ≤ 120) (h2 : x2 = 4 * x1) (h3 : x3 = 1) (h4 : x4 = x2 + x3) (h5 : x5 = 2) (h6 : x6 = x2 + x5) (h7 : x7 = 3) (h8 : x0 = x2 + x7) : 0 ≤ x0 := by omega
theorem o18_151 {x0 x1 x2 x3 x4 x5 x6 x7 : Int} (h0 : 0 ≤ x1) (h1 : x1 ≤ 120) (h2 : x2 = 4 * x1) (h3 : x3 = 1) (h4 : x4 = x2 + x3) (h5 : x5 = 2) (h6 : x6 = x2 + x5) (h7 : x7 = 3) (h8 : x0 = x2 + x7) : x0 < (484 : Nat) := by omega
theorem o18_152 {x0 x1 x3 : Int} {x2 : Nat} (h0 : 0 ≤ x0) (h1 : x0 ≤ 480) (h2 : 0 ≤ x1) (h3 : x1 ≤ 4) (h4 : 4 - x1 < ((x2 + 1 : Nat) : Int)) (h5 : x3 = 4) (h6 : x1 < x3) (h7 : -2147483648 ≤ x0) (h8 : x0 ≤ 2147483647) (h9 : -2147483648 ≤ x1) (h10 : x1 ≤ 2147483647) (h11 : -2147483648 ≤ x3) (h12 : x3 ≤ 2147483647) : -2147483648 ≤ x0 + x1 := by omega
theorem o18_153 {x0 x1 x3 : Int} {x2 : Nat} (h0 : 0 ≤ x0) (h1 : x0 ≤ 480) (h2 : 0 ≤ x1) (h3 : x1 ≤ 4) (h4 : 4 - x1 < ((x2 + 1 : Nat) : Int)) (h5 : x3 = 4) (h6 : x1 < x3) (h7 : -2147483648 ≤ x0) (h8 : x0 ≤ 2147483647) (h9 : -2147483648 ≤ x1) (h10 : x1 ≤ 2147483647) (h11 : -2147483648 ≤ x3) (h12 : x3 ≤ 2147483647) : x0 + x1 ≤ 2147483647 := by omega
theorem o18_154 {x0 x1 x2 x4 : Int} {x3 : Nat} (h0 : 0 ≤ x1) (h1 : x1 ≤ 480) (h2 : 0 ≤ x2) (h3 : x2 ≤ 4) (h4 : 4 - x2 < ((x3 + 1 : Nat) : Int)) (h5 : x4 = 4) (h6 : x2 < x4) (h7 : x0 = x1 + x2) : 0 ≤ x0 := by omega
theorem o18_155 {x0 x1 x2 x4 : Int} {x3 : Nat} (h0 : 0 ≤ x1) (h1 : x1 ≤ 480) (h2 : 0 ≤ x2) (h3 : x2 ≤ 4) (h4 : 4 - x2 < ((x3 + 1 : Nat) : Int)) (h5 : x4 = 4) (h6 : x2 < x4) (h7 : x0 = x1 + x2) : x0 < (484 : Nat) := by omega
theorem o18_156 {x0 x1 x3 x4 : Int} {x2 : Nat} (h0 : 0 ≤ x1) (h1 : x1 ≤ 480) (h2 : 0 ≤ x0) (h3 : x0 ≤ 4) (h4 : 4 - x0 < ((x2 + 1 : Nat) : Int)) (h5 : x3 = 4) (h6 : x0 < x3) (h7 : x4 = x1 + x0) (h8 : -2147483648 ≤ x0) (h9 : x0 ≤ 2147483647) (h10 : -2147483648 ≤ x1) (h11 : x1 ≤ 2147483647) (h12 : -2147483648 ≤ x3) (h13 : x3 ≤ 2147483647) (h14 : -2147483648 ≤ x4) (h15 : x4 ≤ 2147483647) : -2147483648 ≤ x0 + 1 := by omega
theorem o18_157 {x0 x1 x3 x4 : Int} {x2 : Nat} (h0 : 0 ≤ x1) (h1 : x1 ≤ 480) (h2 : 0 ≤ x0) (h3 : x0 ≤ 4) (h4 : 4 - x0 < ((x2 + 1 : Nat) : Int)) (h5 : x3 = 4) (h6 : x0 < x3) (h7 : x4 = x1 + x0) (h8 : -2147483648 ≤ x0) (h9 : x0 ≤ 2147483647) (h10 : -2147483648 ≤ x1) (h11 : x1 ≤ 2147483647) (h12 : -2147483648 ≤ x3) (h13 : x3 ≤ 2147483647) (h14 : -2147483648 ≤ x4) (h15 : x4 ≤ 2147483647) : x0 + 1 ≤ 2147483647 := by omega
theorem o18_158 {x0 x2 x3 x4 x5 : Int} {x1 : Nat} (h0 : 0 ≤ x2) (h1 : x2 ≤ 480) (h2 : 0 ≤ x3) (h3 : x3 ≤ 4) (h4 : 4 - x3 < ((x1 + 1 : Nat) : Int)) (h5 : x4 = 4) (h6 : x3 < x4) (h7 : x5 = x2 + x3) (h8 : x0 = x3 + 1) : 4 - x0 < (x1 : Int) := by omega
theorem o18_159 {x0 x1 x2 x4 x5 : Int} {x3 : Nat} (h0 : 0 ≤ x1) (h1 : x1 ≤ 480) (h2 : 0 ≤ x2) (h3 : x2 ≤ 4) (h4 : 4 - x2 < ((x3 + 1 : Nat) : Int)) (h5 : x4 = 4) (h6 : x2 < x4) (h7 : x5 = x1 + x2) (h8 : x0 = x2 + 1) : 0 ≤ x0 := by omega
theorem o18_160 {x0 x1 x2 x4 x5 : Int} {x3 : Nat} (h0 : 0 ≤ x1) (h1 : x1 ≤ 480) (h2 : 0 ≤ x2) (h3 : x2 ≤ 4) (h4 : 4 - x2 < ((x3 + 1 : Nat) : Int)) (h5 : x4 = 4) (h6 : x2 < x4) (h7 : x5 = x1 + x2) (h8 : x0 = x2 + 1) : x0 ≤ 4 := by omega
theorem o18_161 {x0 x1 x2 x4 x5 : Int} {x3 : Nat} (h0 : 0 ≤ x2) (h1 : x2 ≤ 480) (h2 : 0 ≤ x0) (h3 : x0 ≤ 4) (h4 : 4 - x0 < ((x3 + 1 : Nat) : Int)) (h5 : x4 = 4) (h6 : x0 < x4) (h7 : x5 = x2 + x0) (h8 : x1 = 1) (h9 : -2147483648 ≤ x0) (h10 : x0 ≤ 2147483647) (h11 : -2147483648 ≤ x1) (h12 : x1 ≤ 2147483647) (h13 : -2147483648 ≤ x2) (h14 : x2 ≤ 2147483647) (h15 : -2147483648 ≤ x4) (h16 : x4 ≤ 2147483647) (h17 : -2147483648 ≤ x5) (h18 : x5 ≤ 2147483647) : -2147483648 ≤ x0 + x1 := by omega
theorem o18_162 {x0 x1 x2 x4 x5 : Int} {x3 : Nat} (h0 : 0 ≤ x2) (h1 : x2 ≤ 480) (h2 : 0 ≤ x0) (h3 : x0 ≤ 4) (h4 : 4 - x0 < ((x3 + 1 : Nat) : Int)) (h5 : x4 = 4) (h6 : x0 < x4) (h7 : x5 = x2 + x0) (h8 : x1 = 1) (h9 : -2147483648 ≤ x0) (h10 : x0 ≤ 2147483647) (h11 : -2147483648 ≤ x1) (h12 : x1 ≤ 2147483647) (h13 : -2147483648 ≤ x2) (h14 : x2 ≤ 2147483647) (h15 : -2147483648 ≤ x4) (h16 : x4 ≤ 2147483647) (h17 : -2147483648 ≤ x5) (h18 : x5 ≤ 2147483647) : x0 + x1 ≤ 2147483647 := by omega
theorem o18_163 {x0 x1 x3 x4 x5 x6 : Int} {x2 : Nat} (h0 : 0 ≤ x0) (h1 : x0 ≤ 480) (h2 : 0 ≤ x1) (h3 : x1 ≤ 4) (h4 : 4 - x1 < ((x2 + 1 : Nat) : Int)) (h5 : x3 = 4) (h6 : x1 < x3) (h7 : x4 = x0 + x1) (h8 : x5 = 1) (h9 : x6 = x1 + x5) (h10 : -2147483648 ≤ x0) (h11 : x0 ≤ 2147483647) (h12 : -2147483648 ≤ x1) (h13 : x1 ≤ 2147483647) (h14 : -2147483648 ≤ x3) (h15 : x3 ≤ 2147483647) (h16 : -2147483648 ≤ x4) (h17 : x4 ≤ 2147483647) (h18 : -2147483648 ≤ x5) (h19 : x5 ≤ 2147483647) (h20 : -2147483648 ≤ x6) (h21 : x6 ≤ 2147483647) : -2147483648 ≤ x0 + x1 := by omega
theorem o18_164 {x0 x1 x3 x4 x5 x6 : Int} {x2 : Nat} (h0 : 0 ≤ x0) (h1 : x0 ≤ 480) (h2 : 0 ≤ x1) (h3 : x1 ≤ 4) (h4 : 4 - x1 < ((x2 + 1 : Nat) : Int)) (h5 : x3 = 4) (h6 : x1 < x3) (h7 : x4 = x0 + x1) (h8 : x5 = 1) (h9 : x6 = x1 + x5) (h10 : -2147483648 ≤ x0) (h11 : x0 ≤ 2147483647) (h12 : -2147483648 ≤ x1) (h13 : x1 ≤ 2147483647) (h14 : -2147483648 ≤ x3) (h15 : x3 ≤ 2147483647) (h16 : -2147483648 ≤ x4) (h17 : x4 ≤ 2147483647) (h18 : -2147483648 ≤ x5) (h19 : x5 ≤ 2147483647) (h20 : -2147483648 ≤ x6) (h21 : x6 ≤ 2147483647) : x0 + x1 ≤ 2147483647 := by omega
theorem o18_165 {x0 x1 x2 x4 x5 x6 x7 : Int} {x3 : Nat} (h0 : 0 ≤ x1) (h1 : x1 ≤ 480) (h2 : 0 ≤ x2) (h3 : x2 ≤ 4) (h4 : 4 - x2 < ((x3 + 1 : Nat) : Int)) (h5 : x4 = 4) (h6 : x2 < x4) (h7 : x5 = x1 + x2) (h8 : x6 = 1) (h9 : x7 = x2 + x6) (h10 : x0 = x1 + x2) : 0 ≤ x0 := by omega
theorem o18_166 {x0 x1 x2 x4 x5 x6 x7 : Int} {x3 : Nat} (h0 : 0 ≤ x1) (h1 : x1 ≤ 480) (h2 : 0 ≤ x2) (h3 : x2 ≤ 4) (h4 : 4 - x2 < ((x3 + 1 : Nat) : Int)) (h5 : x4 = 4) (h6 : x2 < x4) (h7 : x5 = x1 + x2) (h8 : x6 = 1) (h9 : x7 = x2 + x6) (h10 : x0 = x1 + x2) : x0 < (484 : Nat) := by omega
theorem o18_167 {x0 x1 x3 x4 x5 x6 x7 : Int} {x2 : Nat} (h0 : 0 ≤ x1) (h1 : x1 ≤ 480) (h2 : 0 ≤ x0) (h3 : x0 ≤ 4) (h4 : 4 - x0 < ((x2 + 1 : Nat) : Int)) (h5 : x3 = 4) (h6 : x0 < x3) (h7 : x4 = x1 + x0) (h8 : x5 = 1) (h9 : x6 = x0 + x5) (h10 : x7 = x1 + x0) : 0 ≤ x0 := by omega
theorem o18_168 {x0 x1 x3 x4 x5 x6 x7 : Int} {x2 : Nat} (h0 : 0 ≤ x1) (h1 : x1 ≤ 480) (h2 : 0 ≤ x0) (h3 : x0 ≤ 4) (h4 : 4 - x0 < ((x2 + 1 : Nat) : Int)) (h5 : x3 = 4) (h6 : x0 < x3) (h7 : x4 = x1 + x0) (h8 : x5 = 1) (h9 : x6 = x0 + x5) (h10 : x7 = x1 + x0) : x0 ≤ 3 := by omega
theorem o18_169 {x0 x1 x2 x4 x5 x6 x7 x8 : Int} {x3 : Nat} (h0 : 0 ≤ x0) (h1 : x0 ≤ 480) (h2 : 0 ≤ x2) (h3 : x2 ≤ 4) (h4 : 4 - x2 < ((x3 + 1 : Nat) : Int)) (h5 : x4 = 4) (h6 : x2 < x4) (h7 : x5 = x0 + x2) (h8 : x6 = 1) (h9 : x7 = x2 + x6) (h10 : 0 ≤ x1) (h11 : x1 ≤ 3) (h12 : x8 = x0 + x2) (h13 : -2147483648 ≤ x0) (h14 : x0 ≤ 2147483647) (h15 : -2147483648 ≤ x1) (h16 : x1 ≤ 2147483647) (h17 : -2147483648 ≤ x2) (h18 : x2 ≤ 2147483647) (h19 : -2147483648 ≤ x4) (h20 : x4 ≤ 2147483647) (h21 : -2147483648 ≤ x5) (h22 : x5 ≤ 2147483647) (h23 : -2147483648 ≤ x6) (h24 : x6 ≤ 2147483647) (h25 : -2147483648 ≤ x7) (h26 : x7 ≤ 2147483647) (h27 : -2147483648 ≤ x8) (h28 : x8 ≤ 2147483647) : -2147483648 ≤ x0 + x1 := by omega
theorem o18_170 {x0 x1 x2 x4 x5 x6 x7 x8 : Int} {x3 : Nat} (h0 : 0 ≤ x0) (h1 : x0 ≤ 480) (h2 : 0 ≤ x2) (h3 : x2 ≤ 4) (h4 : 4 - x2 < ((x3 + 1 : Nat) : Int)) (h5 : x4 = 4) (h6 : x2 < x4) (h7 : x5 = x0 + x2) (h8 : x6 = 1) (h9 : x7 = x2 + x6) (h10 : 0 ≤ x1) (h11 : x1 ≤ 3) (h12 : x8 = x0 + x2) (h13 : -2147483648 ≤ x0) (h14 : x0 ≤ 2147483647) (h15 : -2147483648 ≤ x1) (h16 : x1 ≤ 2147483647) (h17 : -2147483648 ≤ x2) (h18 : x2 ≤ 2147483647) (h19 : -2147483648 ≤ x4) (h20 : x4 ≤ 2147483647) (h21 : -2147483648 ≤ x5) (h22 : x5 ≤ 2147483647) (h23 : -2147483648 ≤ x6) (h24 : x6 ≤ 2147483647) (h25 : -2147483648 ≤ x7) (h26 : x7 ≤ 2147483647) (h27 : -2147483648 ≤ x8) (h28 : x8 ≤ 2147483647) : x0 + x1 ≤ 2147483647 := by omega
theorem o18_171 {x0 x1 x2 x4 x5 x6 x7 x8 x9 : Int} {x3 : Nat} (h0 : 0 ≤ x1) (h1 : x1 ≤ 480) (h2 : 0 ≤ x2) (h3 : x2 ≤ 4) (h4 : 4 - x2 < ((x3 + 1 : Nat) : Int)) (h5 : x4 = 4) (h6 : x2 < x4) (h7 : x5 = x1 + x2) (h8 : x6 = 1) (h9 : x7 = x2 + x6) (h10 : 0 ≤ x8) (h11 : x8 ≤ 3) (h12 : x9 = x1 + x2) (h13 : x0 = x1 + x8) : 0 ≤ x0 := by omega
theorem o18_172 {x0 x1 x2 x4 x5 x6 x7 x8 x9 : Int} {x3 : Nat} (h0 : 0 ≤ x1) (h1 : x1 ≤ 480) (h2 : 0 ≤ x2) (h3 : x2 ≤ 4) (h4 : 4 - x2 < ((x3 + 1 : Nat) : Int)) (h5 : x4 = 4) (h6 : x2 < x4) (h7 : x5 = x1 + x2) (h8 : x6 = 1) (h9 : x7 = x2 + x6) (h10 : 0 ≤ x8) (h11 : x8 ≤ 3) (h12 : x9 = x1 + x2) (h13 : x0 = x1 + x8) : x0 < (484 : Nat) := by omega
theorem o18_173 {x0 x1 x2 x4 x5 x6 x7 x8 x9 : Int} {x3 : Nat} (h0 : 0 ≤ x1) (h1 : x1 ≤ 480) (h2 : 0 ≤ x2) (h3 : x2 ≤ 4) (h4 : 4 - x2 < ((x3 + 1 : Nat) : Int)) (h5 : x4 = 4) (h6 : x2 < x4) (h7 : x5 = x1 + x2) (h8 : x6 = 1) (h9 : x7 = x2 + x6) (h10 : 0 ≤ x0) (h11 : x0 ≤ 3) (h12 : x8 = x1 + x2) (h13 : x9 = x1 + x0) : 0 ≤ x0 := by omega
theorem o18_174 {x0 x1 x2 x4 x5 x6 x7 x8 x9 : Int} {x3 : Nat} (h0 : 0 ≤ x1) (h1 : x1 ≤ 480) (h2 : 0 ≤ x2) (h3 : x2 ≤ 4) (h4 : 4 - x2 < ((x3 + 1 : Nat) : Int)) (h5 : x4 = 4) (h6 : x2 < x4) (h7 : x5 = x1 + x2) (h8 : x6 = 1) (h9 : x7 = x2 + x6) (h10 : 0 ≤ x0) (h11 : x0 ≤ 3) (h12 : x8 = x1 + x2) (h13 : x9 = x1 + x0) : x0 ≤ 3 := by omega
theorem o18_175 {x0 x1 x3 x4 x5 x6 x7 x8 x9 : Int} {x2 : Nat} (h0 : 0 ≤ x1) (h1 : x1 ≤ 480) (h2 : 0 ≤ x0) (h3 : x0 ≤ 4) (h4 : 4 - x0 < ((x2 + 1 : Nat) : Int)) (h5 : x3 = 4) (h6 : x0 < x3) (h7 : x4 = x1 + x0) (h8 : x5 = 1) (h9 : x6 = x0 + x5) (h10 : 0 ≤ x7) (h11 : x7 ≤ 3) (h12 : x8 = x1 + x0) (h13 : x9 = x1 + x7) (h14 : -2147483648 ≤ x0) (h15 : x0 ≤ 2147483647) (h16 : -2147483648 ≤ x1) (h17 : x1 ≤ 2147483647) (h18 : -2147483648 ≤ x3) (h19 : x3 ≤ 2147483647) (h20 : -2147483648 ≤ x4) (h21 : x4 ≤ 2147483647) (h22 : -2147483648 ≤ x5) (h23 : x5 ≤ 2147483647) (h24 : -2147483648 ≤ x6) (h25 : x6 ≤ 2147483647) (h26 : -2147483648 ≤ x7) (h27 : x7 ≤ 2147483647) (h28 : -2147483648 ≤ x8) (h29 : x8 ≤ 2147483647) (h30 : -2147483648 ≤ x9) (h31 : x9 ≤ 2147483647) : -2147483648 ≤ x0 + 1 := by omega
theorem o18_176 {x0 x1 x3 x4 x5 x6 x7 x8 x9 : Int} {x2 : Nat} (h0 : 0 ≤ x1) (h1 : x1 ≤ 480) (h2 : 0 ≤ x0) (h3 : x0 ≤ 4) (h4 : 4 - x0 < ((x2 + 1 : Nat) : Int)) (h5 : x3 = 4) (h6 : x0 < x3) (h7 : x4 = x1 + x0) (h8 : x5 = 1) (h9 : x6 = x0 + x5) (h10 : 0 ≤ x7) (h11 : x7 ≤ 3) (h12 : x8 = x1 + x0) (h13 : x9 = x1 + x7) (h14 : -2147483648 ≤ x0) (h15 : x0 ≤ 2147483647) (h16 : -2147483648 ≤ x1) (h17 : x1 ≤ 2147483647) (h18 : -2147483648 ≤ x3) (h19 : x3 ≤ 2147483647) (h20 : -2147483648 ≤ x4) (h21 : x4 ≤ 2147483647) (h22 : -2147483648 ≤ x5) (h23 : x5 ≤ 2147483647) (h24 : -2147483648 ≤ x6) (h25 : x6 ≤ 2147483647) (h26 : -2147483648 ≤ x7) (h27 : x7 ≤ 2147483647) (h28 : -2147483648 ≤ x8) (h29 : x8 ≤ 2147483647) (h30 : -2147483648 ≤ x9) (h31 : x9 ≤ 2147483647) : x0 + 1 ≤ 2147483647 := by omega
theorem o18_177 {x0 x2 x3 x4 x5 x6 x7 x8 x9 x10 : Int} {x1 : Nat} (h0 : 0 ≤ x2) (h1 : x2 ≤ 480) (h2 : 0 ≤ x3) (h3 : x3 ≤ 4) (h4 : 4 - x3 < ((x1 + 1 : Nat) : Int)) (h5 : x4 = 4) (h6 : x3 < x4) (h7 : x5 = x2 + x3) (h8 : x6 = 1) (h9 : x7 = x3 + x6) (h10 : 0 ≤ x8) (h11 : x8 ≤ 3) (h12 : x9 = x2 + x3) (h13 : x10 = x2 + x8) (h14 : x0 = x3 + 1) : 4 - x0 < (x1 : Int) := by omega
theorem o18_178 {x0 x1 x2 x4 x5 x6 x7 x8 x9 x10 : Int} {x3 : Nat} (h0 : 0 ≤ x1) (h1 : x1 ≤ 480) (h2 : 0 ≤ x2) (h3 : x2 ≤ 4) (h4 : 4 - x2 < ((x3 + 1 : Nat) : Int)) (h5 : x4 = 4) (h6 : x2 < x4) (h7 : x5 = x1 + x2) (h8 : x6 = 1) (h9 : x7 = x2 + x6) (h10 : 0 ≤ x8) (h11 : x8 ≤ 3) (h12 : x9 = x1 + x2) (h13 : x10 = x1 + x8) (h14 : x0 = x2 + 1) : 0 ≤ x0 := by omega
theorem o18_179 {x0 x1 x2 x4 x5 x6 x7 x8 x9 x10 : Int} {x3 : Nat} (h0 : 0 ≤ x1) (h1 : x1 ≤ 480) (h2 : 0 ≤ x2) (h3 : x2 ≤ 4) (h4 : 4 - x2 < ((x3 + 1 : Nat) : Int)) (h5 : x4 = 4) (h6 : x2 < x4) (h7 : x5 = x1 + x2) (h8 : x6 = 1) (h9 : x7 = x2 + x6) (h10 : 0 ≤ x8) (h11 : x8 ≤ 3) (h12 : x9 = x1 + x2) (h13 : x10 = x1 + x8) (h14 : x0 = x2 + 1) : x0 ≤ 4 := by omega
theorem o18_180 {x0 : Int} (h0 : 2 ≤ x0) (h1 : x0 ≤ 3) : 0 ≤ x0 := by omega
theorem o18_181 {x0 : Int} (h0 : 2 ≤ x0) (h1 : x0 ≤ 3) : x0 < 4 := by omega
theorem o18_182 {x0 x1 x3 : Int} {x2 : Nat} (h0 : 0 ≤ x0) (h1 : x0 ≤ 4) (h2 : 4 - x0 < ((x2 + 1 : Nat) : Int)) (h3 : x3 = 4) (h4 : x0 < x3) (h5 : 0 ≤ x1) (h6 : x1 ≤ 3) (h7 : -2147483648 ≤ x0) (h8 : x0 ≤ 2147483647) (h9 : -2147483648 ≤ x1) (h10 : x1 ≤ 2147483647) (h11 : -2147483648 ≤ x3) (h12 : x3 ≤ 2147483647) : -2147483648 ≤ x0 + x1 := by omega
theorem o18_183 {x0 x1 x3 : Int} {x2 : Nat} (h0 : 0 ≤ x0) (h1 : x0 ≤ 4) (h2 : 4 - x0 < ((x2 + 1 : Nat) : Int)) (h3 : x3 = 4) (h4 : x0 < x3) (h5 : 0 ≤ x1) (h6 : x1 ≤ 3) (h7 : -2147483648 ≤ x0) (h8 : x0 ≤ 2147483647) (h9 : -2147483648 ≤ x1) (h10 : x1 ≤ 2147483647) (h11 : -2147483648 ≤ x3) (h12 : x3 ≤ 2147483647) : x0 + x1 ≤ 2147483647 := by omega
theorem o18_184 {x0 x1 x3 x4 x5 : Int} {x2 : Nat} (h0 : 0 ≤ x0) (h1 : x0 ≤ 480) (h2 : 0 ≤ x1) (h3 : x1 ≤ 4) (h4 : 4 - x1 < ((x2 + 1 : Nat) : Int)) (h5 : x3 = 4) (h6 : x1 < x3) (h7 : 0 ≤ x4) (h8 : x4 ≤ 3) (h9 : x5 = x1 + x4) (h10 : -2147483648 ≤ x0) (h11 : x0 ≤ 2147483647) (h12 : -2147483648 ≤ x1) (h13 : x1 ≤ 2147483647) (h14 : -2147483648 ≤ x3) (h15 : x3 ≤ 2147483647) (h16 : -2147483648 ≤ x4) (h17 : x4 ≤ 2147483647) (h18 : -2147483648 ≤ x5) (h19 : x5 ≤ 2147483647) : -2147483648 ≤ x0 + x1 := by omega
theorem o18_185 {x0 x1 x3 x4 x5 : Int} {x2 : Nat} (h0 : 0 ≤ x0) (h1 : x0 ≤ 480) (h2 : 0 ≤ x1) (h3 : x1 ≤ 4) (h4 : 4 - x1 < ((x2 + 1 : Nat) : Int)) (h5 : x3 = 4) (h6 : x1 < x3) (h7 : 0 ≤ x4) (h8 : x4 ≤ 3) (h9 : x5 = x1 + x4) (h10 : -2147483648 ≤ x0) (h11 : x0 ≤ 2147483647) (h12 : -2147483648 ≤ x1) (h13 : x1 ≤ 2147483647) (h14 : -2147483648 ≤ x3) (h15 : x3 ≤ 2147483647) (h16 : -2147483648 ≤ x4) (h17 : x4 ≤ 2147483647) (h18 : -2147483648 ≤ x5) (h19 : x5 ≤ 2147483647) : x0 + x1 ≤ 2147483647 := by omega
theorem o18_186 {x0 x1 x2 x4 x5 x6 : Int} {x3 : Nat} (h0 : 0 ≤ x1) (h1 : x1 ≤ 480) (h2 : 0 ≤ x2) (h3 : x2 ≤ 4) (h4 : 4 - x2 < ((x3 + 1 : Nat) : Int)) (h5 : x4 = 4) (h6 : x2 < x4) (h7 : 0 ≤ x5) (h8 : x5 ≤ 3) (h9 : x6 = x2 + x5) (h10 : x0 = x1 + x2) : 0 ≤ x0 := by omega
theorem o18_187 {x0 x1 x2 x4 x5 x6 : Int} {x3 : Nat} (h0 : 0 ≤ x1) (h1 : x1 ≤ 480) (h2 : 0 ≤ x2) (h3 : x2 ≤ 4) (h4 : 4 - x2 < ((x3 + 1 : Nat) : Int)) (h5 : x4 = 4) (h6 : x2 < x4) (h7 : 0 ≤ x5) (h8 : x5 ≤ 3) (h9 : x6 = x2 + x5) (h10 : x0 = x1 + x2) : x0 < (484 : Nat) := by omega
theorem o18_188 {x0 : Int} (h0 : 0 ≤ x0) (h1 : x0 ≤ 3) : x0 < (4 : Nat) := by omega
theorem o18_189 {x0 x1 x3 x4 x5 x6 : Int} {x2 : Nat} (h0 : 0 ≤ x1) (h1 : x1 ≤ 480) (h2 : 0 ≤ x0) (h3 : x0 ≤ 4) (h4 : 4 - x0 < ((x2 + 1 : Nat) : Int)) (h5 : x3 = 4) (h6 : x0 < x3) (h7 : 0 ≤ x4) (h8 : x4 ≤ 3) (h9 : x5 = x0 + x4) (h10 : x6 = x1 + x0) (h11 : -2147483648 ≤ x0) (h12 : x0 ≤ 2147483647) (h13 : -2147483648 ≤ x1) (h14 : x1 ≤ 2147483647) (h15 : -2147483648 ≤ x3) (h16 : x3 ≤ 2147483647) (h17 : -2147483648 ≤ x4) (h18 : x4 ≤ 2147483647) (h19 : -2147483648 ≤ x5) (h20 : x5 ≤ 2147483647) (h21 : -2147483648 ≤ x6) (h22 : x6 ≤ 2147483647) : -2147483648 ≤ x0 + 1 := by omega
theorem o18_190 {x0 x1 x3 x4 x5 x6 : Int} {x2 : Nat} (h0 : 0 ≤ x1) (h1 : x1 ≤ 480) (h2 : 0 ≤ x0) (h3 : x0 ≤ 4) (h4 : 4 - x0 < ((x2 + 1 : Nat) : Int)) (h5 : x3 = 4) (h6 : x0 < x3) (h7 : 0 ≤ x4) (h8 : x4 ≤ 3) (h9 : x5 = x0 + x4) (h10 : x6 = x1 + x0) (h11 : -2147483648 ≤ x0) (h12 : x0 ≤ 2147483647) (h13 : -2147483648 ≤ x1) (h14 : x1 ≤ 2147483647) (h15 : -2147483648 ≤ x3) (h16 : x3 ≤ 2147483647) (h17 : -2147483648 ≤ x4) (h18 : x4 ≤ 2147483647) (h19 : -2147483648 ≤ x5) (h20 : x5 ≤ 2147483647) (h21 : -2147483648 ≤ x6) (h22 : x6 ≤ 2147483647) : x0 + 1 ≤ 2147483647 := by omega
theorem o18_191 {x0 x2 x3 x4 x5 x6 x7 : Int} {x1 : Nat} (h0 : 0 ≤ x2) (h1 : x2 ≤ 480) (h2 : 0 ≤ x3) (h3 : x3 ≤ 4) (h4 : 4 - x3 < ((x1 + 1 : Nat) : Int)) (h5 : x4 = 4) (h6 : x3 < x4) (h7 : 0 ≤ x5) (h8 : x5 ≤ 3) (h9 : x6 = x3 + x5) (h10 : x7 = x2 + x3) (h11 : x0 = x3 + 1) : 4 - x0 < (x1 : Int) := by omega
theorem o18_192 {x0 x1 x2 x4 x5 x6 x7 : Int} {x3 : Nat} (h0 : 0 ≤ x1) (h1 : x1 ≤ 480) (h2 : 0 ≤ x2) (h3 : x2 ≤ 4) (h4 : 4 - x2 < ((x3 + 1 : Nat) : Int)) (h5 : x4 = 4) (h6 : x2 < x4) (h7 : 0 ≤ x5) (h8 : x5 ≤ 3) (h9 : x6 = x2 + x5) (h10 : x7 = x1 + x2) (h11 : x0 = x2 + 1) : 0 ≤ x0 := by omega
theorem o18_193 {x0 x1 x2 x4 x5 x6 x7 : Int} {x3 : Nat} (h0 : 0 ≤ x1) (h1 : x1 ≤ 480) (h2 : 0 ≤ x2) (h3 : x2 ≤ 4) (h4 : 4 - x2 < ((x3 + 1 : Nat) : Int)) (h5 : x4 = 4) (h6 : x2 < x4) (h7 : 0 ≤ x5) (h8 : x5 ≤ 3) (h9 : x6 = x2 + x5) (h10 : x7 = x1 + x2) (h11 : x0 = x2 + 1) : x0 ≤ 4 := by omega
theorem o18_194 {x0 x1 : Int} (h0 : 0 ≤ x0) (h1 : x0 ≤ 480) (h2 : 0 ≤ x1) (h3 : x1 ≤ 3) (h4 : -2147483648 ≤ x0) (h5 : x0 ≤ 2147483647) (h6 : -2147483648 ≤ x1) (h7 : x1 ≤ 2147483647) : -2147483648 ≤ x0 + x1 := by omega
theorem o18_195 {x0 x1 : Int} (h0 : 0 ≤ x0) (h1 : x0 ≤ 480) (h2 : 0 ≤ x1) (h3 : x1 ≤ 3) (h4 : -2147483648 ≤ x0) (h5 : x0 ≤ 2147483647) (h6 : -2147483648 ≤ x1) (h7 : x1 ≤ 2147483647) : x0 + x1 ≤ 2147483647 := by omega
theorem o18_196 {x0 x1 x2 : Int} (h0 : 0 ≤ x1) (h1 : x1 ≤ 480) (h2 : 0 ≤ x2) (h3 : x2 ≤ 3) (h4 : x0 = x1 + x2) : 0 ≤ x0 := by omega
theorem o18_197 {x0 x1 x2 : Int} (h0 : 0 ≤ x1) (h1 : x1 ≤ 480) (h2 : 0 ≤ x2) (h3 : x2 ≤ 3) (h4 : x0 = x1 + x2) : x0 < (484 : Nat) := by omega
theorem o18_198 {x0 x1 x2 : Int} (h0 : 0 ≤ x1) (h1 : x1 ≤ 480) (h2 : 0 ≤ x0) (h3 : x0 ≤ 3) (h4 : x2 = x1 + x0) : 0 ≤ x0 := by omega
theorem o18_199 {x0 x1 x2 : Int} (h0 : 0 ≤ x1) (h1 : x1 ≤ 480) (h2 : 0 ≤ x0) (h3 : x0 ≤ 3) (h4 : x2 = x1 + x0) : x0 ≤ 3 := by omega
theorem o18_200 {x0 x1 x2 x4 : Int} {x3 : Nat} (h0 : 0 ≤ x2) (h1 : x2 ≤ 121) (h2 : 121 - x2 < ((x3 + 1 : Nat) : Int)) (h3 : 0 ≤ x4) (h4 : x4 ≤ 120) (h5 : x4 < x2) (h6 : 0 ≤ x0) (h7 : x0 ≤ 120) (h8 : x0 = x4) (h9 : x1 = 2) (h10 : -2147483648 ≤ x0) (h11 : x0 ≤ 2147483647) (h12 : -2147483648 ≤ x1) (h13 : x1 ≤ 2147483647) (h14 : -2147483648 ≤ x2) (h15 : x2 ≤ 2147483647) (h16 : -2147483648 ≤ x4) (h17 : x4 ≤ 2147483647) : -2147483648 ≤ x0 + x1 := by omega
theorem o18_201 {x0 x1 x2 x4 : Int} {x3 : Nat} (h0 : 0 ≤ x2) (h1 : x2 ≤ 121) (h2 : 121 - x2 < ((x3 + 1 : Nat) : Int)) (h3 : 0 ≤ x4) (h4 : x4 ≤ 120) (h5 : x4 < x2) (h6 : 0 ≤ x0) (h7 : x0 ≤ 120) (h8 : x0 = x4) (h9 : x1 = 2) (h10 : -2147483648 ≤ x0) (h11 : x0 ≤ 2147483647) (h12 : -2147483648 ≤ x1) (h13 : x1 ≤ 2147483647) (h14 : -2147483648 ≤ x2) (h15 : x2 ≤ 2147483647) (h16 : -2147483648 ≤ x4) (h17 : x4 ≤ 2147483647) : x0 + x1 ≤ 2147483647 := by omega
theorem o18_202 {x0 x1 x2 x4 x5 x6 x7 : Int} {x3 : Nat} (h0 : 0 ≤ x1) (h1 : x1 ≤ 120) (h2 : 0 ≤ x2) (h3 : x2 ≤ 121) (h4 : 121 - x2 < ((x3 + 1 : Nat) : Int)) (h5 : 0 ≤ x4) (h6 : x4 ≤ 120) (h7 : x4 < x2) (h8 : 0 ≤ x5) (h9 : x5 ≤ 120) (h10 : x5 = x4) (h11 : x6 = 2) (h12 : x7 = x5 + x6) (h13 : (x0 = x7 ∧ x7 ≤ x1) ∨ (x0 = x1 ∧ x1 ≤ x7)) : 0 ≤ x0 := by omega
theorem o18_203 {x0 x1 x2 x4 x5 x6 x7 : Int} {x3 : Nat} (h0 : 0 ≤ x1) (h1 : x1 ≤ 120) (h2 : 0 ≤ x2) (h3 : x2 ≤ 121) (h4 : 121 - x2 < ((x3 + 1 : Nat) : Int)) (h5 : 0 ≤ x4) (h6 : x4 ≤ 120) (h7 : x4 < x2) (h8 : 0 ≤ x5) (h9 : x5 ≤ 120) (h10 : x5 = x4) (h11 : x6 = 2) (h12 : x7 = x5 + x6) (h13 : (x0 = x7 ∧ x7 ≤ x1) ∨ (x0 = x1 ∧ x1 ≤ x7)) : x0 ≤ 120 := by omega
theorem o18_204 {x0 x1 x2 x3 x5 : Int} {x4 : Nat} (h0 : 0 ≤ x2) (h1 : x2 ≤ 120) (h2 : 0 ≤ x3) (h3 : x3 ≤ 121) (h4 : 121 - x3 < ((x4 + 1 : Nat) : Int)) (h5 : 0 ≤ x5) (h6 : x5 ≤ 120) (h7 : x3 ≤ x5) (h8 : x2 < x3) (h9 : 0 ≤ x0) (h10 : x0 ≤ 120) (h11 : x0 = x5) (h12 : x1 = 2) (h13 : -2147483648 ≤ x0) (h14 : x0 ≤ 2147483647) (h15 : -2147483648 ≤ x1) (h16 : x1 ≤ 2147483647) (h17 : -2147483648 ≤ x2) (h18 : x2 ≤ 2147483647) (h19 : -2147483648 ≤ x3) (h20 : x3 ≤ 2147483647) (h21 : -2147483648 ≤ x5) (h22 : x5 ≤ 2147483647) : -2147483648 ≤ x0 + x1 := by omega
theorem o18_205 {x0 x1 x2 x3 x5 : Int} {x4 : Nat} (h0 : 0 ≤ x2) (h1 : x2 ≤ 120) (h2 : 0 ≤ x3) (h3 : x3 ≤ 121) (h4 : 121 - x3 < ((x4 + 1 : Nat) : Int)) (h5 : 0 ≤ x5) (h6 : x5 ≤ 120) (h7 : x3 ≤ x5) (h8 : x2 < x3) (h9 : 0 ≤ x0) (h10 : x0 ≤ 120) (h11 : x0 = x5) (h12 : x1 = 2) (h13 : -2147483648 ≤ x0) (h14 : x0 ≤ 2147483647) (h15 : -2147483648 ≤ x1) (h16 : x1 ≤ 2147483647) (h17 : -2147483648 ≤ x2) (h18 : x2 ≤ 2147483647) (h19 : -2147483648 ≤ x3) (h20 : x3 ≤ 2147483647) (h21 : -2147483648 ≤ x5) (h22 : x5 ≤ 2147483647) : x0 + x1 ≤ 2147483647 := by omega
theorem o18_206 {x0 x1 x2 x4 x5 x6 x7 : Int} {x3 : Nat} (h0 : 0 ≤ x1) (h1 : x1 ≤ 120) (h2 : 0 ≤ x2) (h3 : x2 ≤ 121) (h4 : 121 - x2 < ((x3 + 1 : Nat) : Int)) (h5 : 0 ≤ x4) (h6 : x4 ≤ 120) (h7 : x2 ≤ x4) (h8 : x1 < x2) (h9 : 0 ≤ x5) (h10 : x5 ≤ 120) (h11 : x5 = x4) (h12 : x6 = 2) (h13 : x7 = x5 + x6) (h14 : (x0 = x7 ∧ x7 ≤ x1) ∨ (x0 = x1 ∧ x1 ≤ x7)) : 0 ≤ x0 := by omega
theorem o18_207 {x0 x1 x2 x4 x5 x6 x7 : Int} {x3 : Nat} (h0 : 0 ≤ x1) (h1 : x1 ≤ 120) (h2 : 0 ≤ x2) (h3 : x2 ≤ 121) (h4 : 121 - x2 < ((x3 + 1 : Nat) : Int)) (h5 : 0 ≤ x4) (h6 : x4 ≤ 120) (h7 : x2 ≤ x4) (h8 : x1 < x2) (h9 : 0 ≤ x5) (h10 : x5 ≤ 120) (h11 : x5 = x4) (h12 : x6 = 2) (h13 : x7 = x5 + x6) (h14 : (x0 = x7 ∧ x7 ≤ x1) ∨ (x0 = x1 ∧ x1 ≤ x7)) : x0 ≤ 120 := by omega
theorem o18_208 {x0 x1 x3 : Int} {x2 : Nat} (h0 : 0 ≤ x1) (h1 : x1 ≤ 120) (h2 : 0 ≤ x0) (h3 : x0 ≤ 121) (h4 : 121 - x0 < ((x2 + 1 : Nat) : Int)) (h5 : 0 ≤ x3) (h6 : x3 ≤ 120) (h7 : x0 ≤ x3) (h8 : x0 ≤ x1) (h9 : -2147483648 ≤ x0) (h10 : x0 ≤ 2147483647) (h11 : -2147483648 ≤ x1) (h12 : x1 ≤ 2147483647) (h13 : -2147483648 ≤ x3) (h14 : x3 ≤ 2147483647) : -2147483648 ≤ 4 * x0 := by omega
theorem o18_209 {x0 x1 x3 : Int} {x2 : Nat} (h0 : 0 ≤ x1) (h1 : x1 ≤ 120) (h2 : 0 ≤ x0) (h3 : x0 ≤ 121) (h4 : 121 - x0 < ((x2 + 1 : Nat) : Int)) (h5 : 0 ≤ x3) (h6 : x3 ≤ 120) (h7 : x0 ≤ x3) (h8 : x0 ≤ x1) (h9 : -2147483648 ≤ x0) (h10 : x0 ≤ 2147483647) (h11 : -2147483648 ≤ x1) (h12 : x1 ≤ 2147483647) (h13 : -2147483648 ≤ x3) (h14 : x3 ≤ 2147483647) : 4 * x0 ≤ 2147483647 := by omega
theorem o18_210 {x0 x1 x2 x4 : Int} {x3 : Nat} (h0 : 0 ≤ x1) (h1 : x1 ≤ 120) (h2 : 0 ≤ x2) (h3 : x2 ≤ 121) (h4 : 121 - x2 < ((x3 + 1 : Nat) : Int)) (h5 : 0 ≤ x4) (h6 : x4 ≤ 120) (h7 : x2 ≤ x4) (h8 : x2 ≤ x1) (h9 : x0 = 4 * x2) : 0 ≤ x0 := by omega
theorem o18_211 {x0 x1 x2 x4 : Int} {x3 : Nat} (h0 : 0 ≤ x1) (h1 : x1 ≤ 120) (h2 : 0 ≤ x2) (h3 : x2 ≤ 121) (h4 : 121 - x2 < ((x3 + 1 : Nat) : Int)) (h5 : 0 ≤ x4) (h6 : x4 ≤ 120) (h7 : x2 ≤ x4) (h8 : x2 ≤ x1) (h9 : x0 = 4 * x2) : x0 ≤ 480 := by omega
theorem o18_212 {x0 : Int} (h0 : 2 ≤ x0) (h1 : x0 ≤ 4) (h2 : 4 - x0 < 0) : False := by omega
theorem o18_213 {x0 x2 : Int} {x1 : Nat} (h0 : 2 ≤ x0) (h1 : x0 ≤ 4) (h2 : 4 - x0 < ((x1 + 1 : Nat) : Int)) (h3 : x2 = 4) (h4 : x2 ≤ x0) : ¬ x0 < 4 := by omega
theorem o18_214 {x0 x2 : Int} {x1 : Nat} (h0 : 2 ≤ x0) (h1 : x0 ≤ 4) (h2 : 4 - x0 < ((x1 + 1 : Nat) : Int)) (h3 : x2 = 4) (h4 : x0 < x2) : x0 < 4 := by omega
theorem o18_215 {x0 x1 x3 x4 : Int} {x2 : Nat} (h0 : 0 ≤ x1) (h1 : x1 ≤ 120) (h2 : 0 ≤ x0) (h3 : x0 ≤ 121) (h4 : 121 - x0 < ((x2 + 1 : Nat) : Int)) (h5 : 0 ≤ x3) (h6 : x3 ≤ 120) (h7 : x0 ≤ x3) (h8 : x0 ≤ x1) (h9 : x4 = 4 * x0) (h10 : -2147483648 ≤ x0) (h11 : x0 ≤ 2147483647) (h12 : -2147483648 ≤ x1) (h13 : x1 ≤ 2147483647) (h14 : -2147483648 ≤ x3) (h15 : x3 ≤ 2147483647) (h16 : -2147483648 ≤ x4) (h17 : x4 ≤ 2147483647) : -2147483648 ≤ x0 + 1 := by omega
theorem o18_216 {x0 x1 x3 x4 : Int} {x2 : Nat} (h0 : 0 ≤ x1) (h1 : x1 ≤ 120) (h2 : 0 ≤ x0) (h3 : x0 ≤ 121) (h4 : 121 - x0 < ((x2 + 1 : Nat) : Int)) (h5 : 0 ≤ x3) (h6 : x3 ≤ 120) (h7 : x0 ≤ x3) (h8 : x0 ≤ x1) (h9 : x4 = 4 * x0) (h10 : -2147483648 ≤ x0) (h11 : x0 ≤ 2147483647) (h12 : -2147483648 ≤ x1) (h13 : x1 ≤ 2147483647) (h14 : -2147483648 ≤ x3) (h15 : x3 ≤ 2147483647) (h16 : -2147483648 ≤ x4) (h17 : x4 ≤ 2147483647) : x0 + 1 ≤ 2147483647 := by omega
theorem o18_217 {x0 x2 x3 x4 x5 : Int} {x1 : Nat} (h0 : 0 ≤ x2) (h1 : x2 ≤ 120) (h2 : 0 ≤ x3) (h3 : x3 ≤ 121) (h4 : 121 - x3 < ((x1 + 1 : Nat) : Int)) (h5 : 0 ≤ x4) (h6 : x4 ≤ 120) (h7 : x3 ≤ x4) (h8 : x3 ≤ x2) (h9 : x5 = 4 * x3) (h10 : x0 = x3 + 1) : 121 - x0 < (x1 : Int) := by omega
theorem o18_218 {x0 x1 x2 x4 x5 : Int} {x3 : Nat} (h0 : 0 ≤ x1) (h1 : x1 ≤ 120) (h2 : 0 ≤ x2) (h3 : x2 ≤ 121) (h4 : 121 - x2 < ((x3 + 1 : Nat) : Int)) (h5 : 0 ≤ x4) (h6 : x4 ≤ 120) (h7 : x2 ≤ x4) (h8 : x2 ≤ x1) (h9 : x5 = 4 * x2) (h10 : x0 = x2 + 1) : 0 ≤ x0 := by omega
theorem o18_219 {x0 x1 x2 x4 x5 : Int} {x3 : Nat} (h0 : 0 ≤ x1) (h1 : x1 ≤ 120) (h2 : 0 ≤ x2) (h3 : x2 ≤ 121) (h4 : 121 - x2 < ((x3 + 1 : Nat) : Int)) (h5 : 0 ≤ x4) (h6 : x4 ≤ 120) (h7 : x2 ≤ x4) (h8 : x2 ≤ x1) (h9 : x5 = 4 * x2) (h10 : x0 = x2 + 1) : x0 ≤ 121 := by omega
theorem o18_220 {x0 x2 : Int} {x1 : Nat} (h0 : 2 ≤ x0) (h1 : x0 ≤ 4) (h2 : 4 - x0 < ((x1 + 1 : Nat) : Int)) (h3 : x2 = 4) (h4 : x0 < x2) : 2 ≤ x0 := by omega
theorem o18_221 {x0 x2 : Int} {x1 : Nat} (h0 : 2 ≤ x0) (h1 : x0 ≤ 4) (h2 : 4 - x0 < ((x1 + 1 : Nat) : Int)) (h3 : x2 = 4) (h4 : x0 < x2) : x0 ≤ 3 := by omega
theorem o18_222 {x0 x1 x2 x4 x5 x7 : Int} {x3 x6 : Nat} (h0 : 0 ≤ x2) (h1 : x2 ≤ 120) (h2 : 0 ≤ x0) (h3 : x0 ≤ 121) (h4 : 121 - x0 < ((x3 + 1 : Nat) : Int)) (h5 : 0 ≤ x4) (h6 : x4 ≤ 120) (h7 : x0 ≤ x4) (h8 : x0 ≤ x2) (h9 : x5 = 4 * x0) (h10 : 2 ≤ x1) (h11 : x1 ≤ 4) (h12 : 4 - x1 < ((x6 + 1 : Nat) : Int)) (h13 : x7 = 4) (h14 : x1 < x7) (h15 : -2147483648 ≤ x0) (h16 : x0 ≤ 2147483647) (h17 : -2147483648 ≤ x1) (h18 : x1 ≤ 2147483647) (h19 : -2147483648 ≤ x2) (h20 : x2 ≤ 2147483647) (h21 : -2147483648 ≤ x4) (h22 : x4 ≤ 2147483647) (h23 : -2147483648 ≤ x5) (h24 : x5 ≤ 2147483647) (h25 : -2147483648 ≤ x7) (h26 : x7 ≤ 2147483647) : -2147483648 ≤ x0 + x1 := by omega
theorem o18_223 {x0 x1 x2 x4 x5 x7 : Int} {x3 x6 : Nat} (h0 : 0 ≤ x2) (h1 : x2 ≤ 120) (h2 : 0 ≤ x0) (h3 : x0 ≤ 121) (h4 : 121 - x0 < ((x3 + 1 : Nat) : Int)) (h5 : 0 ≤ x4) (h6 : x4 ≤ 120) (h7 : x0 ≤ x4) (h8 : x0 ≤ x2) (h9 : x5 = 4 * x0) (h10 : 2 ≤ x1) (h11 : x1 ≤ 4) (h12 : 4 - x1 < ((x6 + 1 : Nat) : Int)) (h13 : x7 = 4) (h14 : x1 < x7) (h15 : -2147483648 ≤ x0) (h16 : x0 ≤ 2147483647) (h17 : -2147483648 ≤ x1) (h18 : x1 ≤ 2147483647) (h19 : -2147483648 ≤ x2) (h20 : x2 ≤ 2147483647) (h21 : -2147483648 ≤ x4) (h22 : x4 ≤ 2147483647) (h23 : -2147483648 ≤ x5) (h24 : x5 ≤ 2147483647) (h25 : -2147483648 ≤ x7) (h26 : x7 ≤ 2147483647) : x0 + x1 ≤ 2147483647 := by omega
theorem o18_224 {x0 x1 x2 x3 x5 x6 x7 x9 : Int} {x4 x8 : Nat} (h0 : 0 ≤ x2) (h1 : x2 ≤ 120) (h2 : 0 ≤ x3) (h3 : x3 ≤ 121) (h4 : 121 - x3 < ((x4 + 1 : Nat) : Int)) (h5 : 0 ≤ x5) (h6 : x5 ≤ 120) (h7 : x3 ≤ x5) (h8 : x3 ≤ x2) (h9 : x6 = 4 * x3) (h10 : 2 ≤ x7) (h11 : x7 ≤ 4) (h12 : 4 - x7 < ((x8 + 1 : Nat) : Int)) (h13 : x9 = 4) (h14 : x7 < x9) (h15 : x0 = x3 + x7) (h16 : x1 = 1) (h17 : -2147483648 ≤ x0) (h18 : x0 ≤ 2147483647) (h19 : -2147483648 ≤ x1) (h20 : x1 ≤ 2147483647) (h21 : -2147483648 ≤ x2) (h22 : x2 ≤ 2147483647) (h23 : -2147483648 ≤ x3) (h24 : x3 ≤ 2147483647) (h25 : -2147483648 ≤ x5) (h26 : x5 ≤ 2147483647) (h27 : -2147483648 ≤ x6) (h28 : x6 ≤ 2147483647) (h29 : -2147483648 ≤ x7) (h30 : x7 ≤ 2147483647) (h31 : -2147483648 ≤ x9) (h32 : x9 ≤ 2147483647) : -2147483648 ≤ x0 - x1 := by omega
theorem o18_225 {x0 x1 x2 x3 x5 x6 x7 x9 : Int} {x4 x8 : Nat} (h0 : 0 ≤ x2) (h1 : x2 ≤ 120) (h2 : 0 ≤ x3) (h3 : x3 ≤ 121) (h4 : 121 - x3 < ((x4 + 1 : Nat) : Int)) (h5 : 0 ≤ x5) (h6 : x5 ≤ 120) (h7 : x3 ≤ x5) (h8 : x3 ≤ x2) (h9 : x6 = 4 * x3) (h10 : 2 ≤ x7) (h11 : x7 ≤ 4) (h12 : 4 - x7 < ((x8 + 1 : Nat) : Int)) (h13 : x9 = 4) (h14 : x7 < x9) (h15 : x0 = x3 + x7) (h16 : x1 = 1) (h17 : -2147483648 ≤ x0) (h18 : x0 ≤ 2147483647) (h19 : -2147483648 ≤ x1) (h20 : x1 ≤ 2147483647) (h21 : -2147483648 ≤ x2) (h22 : x2 ≤ 2147483647) (h23 : -2147483648 ≤ x3) (h24 : x3 ≤ 2147483647) (h25 : -2147483648 ≤ x5) (h26 : x5 ≤ 2147483647) (h27 : -2147483648 ≤ x6) (h28 : x6 ≤ 2147483647) (h29 : -2147483648 ≤ x7) (h30 : x7 ≤ 2147483647) (h31 : -2147483648 ≤ x9) (h32 : x9 ≤ 2147483647) : x0 - x1 ≤ 2147483647 := by omega
theorem o18_226 {x0 x1 x2 x4 x5 x7 x8 x9 x10 : Int} {x3 x6 : Nat} (h0 : 0 ≤ x1) (h1 : x1 ≤ 120) (h2 : 0 ≤ x2) (h3 : x2 ≤ 121) (h4 : 121 - x2 < ((x3 + 1 : Nat) : Int)) (h5 : 0 ≤ x4) (h6 : x4 ≤ 120) (h7 : x2 ≤ x4) (h8 : x2 ≤ x1) (h9 : x5 = 4 * x2) (h10 : 2 ≤ x0) (h11 : x0 ≤ 4) (h12 : 4 - x0 < ((x6 + 1 : Nat) : Int)) (h13 : x7 = 4) (h14 : x0 < x7) (h15 : x8 = x2 + x0) (h16 : x9 = 1) (h17 : x10 = x8 - x9) (h18 : x1 < x10) (h19 : -2147483648 ≤ x0) (h20 : x0 ≤ 2147483647) (h21 : -2147483648 ≤ x1) (h22 : x1 ≤ 2147483647) (h23 : -2147483648 ≤ x2) (h24 : x2 ≤ 2147483647) (h25 : -2147483648 ≤ x4) (h26 : x4 ≤ 2147483647) (h27 : -2147483648 ≤ x5) (h28 : x5 ≤ 2147483647) (h29 : -2147483648 ≤ x7) (h30 : x7 ≤ 2147483647) (h31 : -2147483648 ≤ x8) (h32 : x8 ≤ 2147483647) (h33 : -2147483648 ≤ x9) (h34 : x9 ≤ 2147483647) (h35 : -2147483648 ≤ x10) (h36 : x10 ≤ 2147483647) : -2147483648 ≤ x0 + 1 := by omega
theorem o18_227 {x0 x1 x2 x4 x5 x7 x8 x9 x10 : Int} {x3 x6 : Nat} (h0 : 0 ≤ x1) (h1 : x1 ≤ 120) (h2 : 0 ≤ x2) (h3 : x2 ≤ 121) (h4 : 121 - x2 < ((x3 + 1 : Nat) : Int)) (h5 : 0 ≤ x4) (h6 : x4 ≤ 120) (h7 : x2 ≤ x4) (h8 : x2 ≤ x1) (h9 : x5 = 4 * x2) (h10 : 2 ≤ x0) (h11 : x0 ≤ 4) (h12 : 4 - x0 < ((x6 + 1 : Nat) : Int)) (h13 : x7 = 4) (h14 : x0 < x7) (h15 : x8 = x2 + x0) (h16 : x9 = 1) (h17 : x10 = x8 - x9) (h18 : x1 < x10) (h19 : -2147483648 ≤ x0) (h20 : x0 ≤ 2147483647) (h21 : -2147483648 ≤ x1) (h22 : x1 ≤ 2147483647) (h23 : -2147483648 ≤ x2) (h24 : x2 ≤ 2147483647) (h25 : -2147483648 ≤ x4) (h26 : x4 ≤ 2147483647) (h27 : -2147483648 ≤ x5) (h28 : x5 ≤ 2147483647) (h29 : -2147483648 ≤ x7) (h30 : x7 ≤ 2147483647) (h31 : -2147483648 ≤ x8) (h32 : x8 ≤ 2147483647) (h33 : -2147483648 ≤ x9) (h34 : x9 ≤ 2147483647) (h35 : -2147483648 ≤ x10) (h36 : x10 ≤ 2147483647) : x0 + 1 ≤ 2147483647 := by omega
theorem o18_228 {x0 x2 x3 x5 x6 x7 x8 x9 x10 x11 : Int} {x1 x4 : Nat} (h0 : 0 ≤ x2) (h1 : x2 ≤ 120) (h2 : 0 ≤ x3) (h3 : x3 ≤ 121) (h4 : 121 - x3 < ((x4 + 1 : Nat) : Int)) (h5 : 0 ≤ x5) (h6 : x5 ≤ 120) (h7 : x3 ≤ x5) (h8 : x3 ≤ x2) (h9 : x6 = 4 * x3) (h10 : 2 ≤ x7) (h11 : x7 ≤ 4) (h12 : 4 - x7 < ((x1 + 1 : Nat) : Int)) (h13 : x8 = 4) (h14 : x7 < x8) (h15 : x9 = x3 + x7) (h16 : x10 = 1) (h17 : x11 = x9 - x10) (h18 : x2 < x11) (h19 : x0 = x7 + 1) : 4 - x0 < (x1 : Int) := by omega
theorem o18_229 {x0 x1 x2 x4 x5 x6 x8 x9 x10 x11 : Int} {x3 x7 : Nat} (h0 : 0 ≤ x1) (h1 : x1 ≤ 120) (h2 : 0 ≤ x2) (h3 : x2 ≤ 121) (h4 : 121 - x2 < ((x3 + 1 : Nat) : Int)) (h5 : 0 ≤ x4) (h6 : x4 ≤ 120) (h7 : x2 ≤ x4) (h8 : x2 ≤ x1) (h9 : x5 = 4 * x2) (h10 : 2 ≤ x6) (h11 : x6 ≤ 4) (h12 : 4 - x6 < ((x7 + 1 : Nat) : Int)) (h13 : x8 = 4) (h14 : x6 < x8) (h15 : x9 = x2 + x6) (h16 : x10 = 1) (h17 : x11 = x9 - x10) (h18 : x1 < x11) (h19 : x0 = x6 + 1) : 2 ≤ x0 := by omega
theorem o18_230 {x0 x1 x2 x4 x5 x6 x8 x9 x10 x11 : Int} {x3 x7 : Nat} (h0 : 0 ≤ x1) (h1 : x1 ≤ 120) (h2 : 0 ≤ x2) (h3 : x2 ≤ 121) (h4 : 121 - x2 < ((x3 + 1 : Nat) : Int)) (h5 : 0 ≤ x4) (h6 : x4 ≤ 120) (h7 : x2 ≤ x4) (h8 : x2 ≤ x1) (h9 : x5 = 4 * x2) (h10 : 2 ≤ x6) (h11 : x6 ≤ 4) (h12 : 4 - x6 < ((x7 + 1 : Nat) : Int)) (h13 : x8 = 4) (h14 : x6 < x8) (h15 : x9 = x2 + x6) (h16 : x10 = 1) (h17 : x11 = x9 - x10) (h18 : x1 < x11) (h19 : x0 = x6 + 1) : x0 ≤ 4 := by omega
theorem o18_231 {x0 x1 x2 x3 x5 x6 x8 x9 x10 x11 : Int} {x4 x7 : Nat} (h0 : 0 ≤ x2) (h1 : x2 ≤ 120) (h2 : 0 ≤ x3) (h3 : x3 ≤ 121) (h4 : 121 - x3 < ((x4 + 1 : Nat) : Int)) (h5 : 0 ≤ x5) (h6 : x5 ≤ 120) (h7 : x3 ≤ x5) (h8 : x3 ≤ x2) (h9 : x6 = 4 * x3) (h10 : 2 ≤ x0) (h11 : x0 ≤ 4) (h12 : 4 - x0 < ((x7 + 1 : Nat) : Int)) (h13 : x8 = 4) (h14 : x0 < x8) (h15 : x9 = x3 + x0) (h16 : x10 = 1) (h17 : x11 = x9 - x10) (h18 : x11 ≤ x2) (h19 : x1 = 1) (h20 : -2147483648 ≤ x0) (h21 : x0 ≤ 2147483647) (h22 : -2147483648 ≤ x1) (h23 : x1 ≤ 2147483647) (h24 : -2147483648 ≤ x2) (h25 : x2 ≤ 2147483647) (h26 : -2147483648 ≤ x3) (h27 : x3 ≤ 2147483647) (h28 : -2147483648 ≤ x5) (h29 : x5 ≤ 2147483647) (h30 : -2147483648 ≤ x6) (h31 : x6 ≤ 2147483647) (h32 : -2147483648 ≤ x8) (h33 : x8 ≤ 2147483647) (h34 : -2147483648 ≤ x9) (h35 : x9 ≤ 2147483647) (h36 : -2147483648 ≤ x10) (h37 : x10 ≤ 2147483647) (h38 : -2147483648 ≤ x11) (h39 : x11 ≤ 2147483647) : -2147483648 ≤ x0 - x1 := by omega
theorem o18_232 {x0 x1 x2 x3 x5 x6 x8 x9 x10 x11 : Int} {x4 x7 : Nat} (h0 : 0 ≤ x2) (h1 : x2 ≤ 120) (h2 : 0 ≤ x3) (h3 : x3 ≤ 121) (h4 : 121 - x3 < ((x4 + 1 : Nat) : Int)) (h5 : 0 ≤ x5) (h6 : x5 ≤ 120) (h7 : x3 ≤ x5) (h8 : x3 ≤ x2) (h9 : x6 = 4 * x3) (h10 : 2 ≤ x0) (h11 : x0 ≤ 4) (h12 : 4 - x0 < ((x7 + 1 : Nat) : Int)) (h13 : x8 = 4) (h14 : x0 < x8) (h15 : x9 = x3 + x0) (h16 : x10 = 1) (h17 : x11 = x9 - x10) (h18 : x11 ≤ x2) (h19 : x1 = 1) (h20 : -2147483648 ≤ x0) (h21 : x0 ≤ 2147483647) (h22 : -2147483648 ≤ x1) (h23 : x1 ≤ 2147483647) (h24 : -2147483648 ≤ x2) (h25 : x2 ≤ 2147483647) (h26 : -2147483648 ≤ x3) (h27 : x3 ≤ 2147483647) (h28 : -2147483648 ≤ x5) (h29 : x5 ≤ 2147483647) (h30 : -2147483648 ≤ x6) (h31 : x6 ≤ 2147483647) (h32 : -2147483648 ≤ x8) (h33 : x8 ≤ 2147483647) (h34 : -2147483648 ≤ x9) (h35 : x9 ≤ 2147483647) (h36 : -2147483648 ≤ x10) (h37 : x10 ≤ 2147483647) (h38 : -2147483648 ≤ x11) (h39 : x11 ≤ 2147483647) : x0 - x1 ≤ 2147483647 := by omega
theorem o18_233 {x0 x1 x2 x4 x5 x6 x8 x9 x10 x11 x12 : Int} {x3 x7 : Nat} (h0 : 0 ≤ x1) (h1 : x1 ≤ 120) (h2 : 0 ≤ x2) (h3 : x2 ≤ 121) (h4 : 121 - x2 < ((x3 + 1 : Nat) : Int)) (h5 : 0 ≤ x4) (h6 : x4 ≤ 120) (h7 : x2 ≤ x4) (h8 : x2 ≤ x1) (h9 : x5 = 4 * x2) (h10 : 2 ≤ x6) (h11 : x6 ≤ 4) (h12 : 4 - x6 < ((x7 + 1 : Nat) : Int)) (h13 : x8 = 4) (h14 : x6 < x8) (h15 : x9 = x2 + x6) (h16 : x10 = 1) (h17 : x11 = x9 - x10) (h18 : x11 ≤ x1) (h19 : x12 = 1) (h20 : x0 = x6 - x12) (h21 : -2147483648 ≤ x0) (h22 : x0 ≤ 2147483647) (h23 : -2147483648 ≤ x1) (h24 : x1 ≤ 2147483647) (h25 : -2147483648 ≤ x2) (h26 : x2 ≤ 2147483647) (h27 : -2147483648 ≤ x4) (h28 : x4 ≤ 2147483647) (h29 : -2147483648 ≤ x5) (h30 : x5 ≤ 2147483647) (h31 : -2147483648 ≤ x6) (h32 : x6 ≤ 2147483647) (h33 : -2147483648 ≤ x8) (h34 : x8 ≤ 2147483647) (h35 : -2147483648 ≤ x9) (h36 : x9 ≤ 2147483647) (h37 : -2147483648 ≤ x10) (h38 : x10 ≤ 2147483647) (h39 : -2147483648 ≤ x11) (h40 : x11 ≤ 2147483647) (h41 : -2147483648 ≤ x12) (h42 : x12 ≤ 2147483647) : -2147483648 ≤ 4 * x0 := by omega
theorem o18_234 {x0 x1 x2 x4 x5 x6 x8 x9 x10 x11 x12 : Int} {x3 x7 : Nat} (h0 : 0 ≤ x1) (h1 : x1 ≤ 120) (h2 : 0 ≤ x2) (h3 : x2 ≤ 121) (h4 : 121 - x2 < ((x3 + 1 : Nat) : Int)) (h5 : 0 ≤ x4) (h6 : x4 ≤ 120) (h7 : x2 ≤ x4) (h8 : x2 ≤ x1) (h9 : x5 = 4 * x2) (h10 : 2 ≤ x6) (h11 : x6 ≤ 4) (h12 : 4 - x6 < ((x7 + 1 : Nat) : Int)) (h13 : x8 = 4) (h14 : x6 < x8) (h15 : x9 = x2 + x6) (h16 : x10 = 1) (h17 : x11 = x9 - x10) (h18 : x11 ≤ x1) (h19 : x12 = 1) (h20 : x0 = x6 - x12) (h21 : -2147483648 ≤ x0) (h22 : x0 ≤ 2147483647) (h23 : -2147483648 ≤ x1) (h24 : x1 ≤ 2147483647) (h25 : -2147483648 ≤ x2) (h26 : x2 ≤ 2147483647) (h27 : -2147483648 ≤ x4) (h28 : x4 ≤ 2147483647) (h29 : -2147483648 ≤ x5) (h30 : x5 ≤ 2147483647) (h31 : -2147483648 ≤ x6) (h32 : x6 ≤ 2147483647) (h33 : -2147483648 ≤ x8) (h34 : x8 ≤ 2147483647) (h35 : -2147483648 ≤ x9) (h36 : x9 ≤ 2147483647) (h37 : -2147483648 ≤ x10) (h38 : x10 ≤ 2147483647) (h39 : -2147483648 ≤ x11) (h40 : x11 ≤ 2147483647) (h41 : -2147483648 ≤ x12) (h42 : x12 ≤ 2147483647) : 4 * x0 ≤ 2147483647 := by omega
theorem o18_235 {x0 x1 x2 x3 x5 x6 x8 x9 x10 x11 x12 x13 : Int} {x4 x7 : Nat} (h0 : 0 ≤ x2) (h1 : x2 ≤ 120) (h2 : 0 ≤ x3) (h3 : x3 ≤ 121) (h4 : 121 - x3 < ((x4 + 1 : Nat) : Int)) (h5 : 0 ≤ x5) (h6 : x5 ≤ 120) (h7 : x3 ≤ x5) (h8 : x3 ≤ x2) (h9 : x0 = 4 * x3) (h10 : 2 ≤ x6) (h11 : x6 ≤ 4) (h12 : 4 - x6 < ((x7 + 1 : Nat) : Int)) (h13 : x8 = 4) (h14 : x6 < x8) (h15 : x9 = x3 + x6) (h16 : x10 = 1) (h17 : x11 = x9 - x10) (h18 : x11 ≤ x2) (h19 : x12 = 1) (h20 : x13 = x6 - x12) (h21 : x1 = 4 * x13) (h22 : -2147483648 ≤ x0) (h23 : x0 ≤ 2147483647) (h24 : -2147483648 ≤ x1) (h25 : x1 ≤ 2147483647) (h26 : -2147483648 ≤ x2) (h27 : x2 ≤ 2147483647) (h28 : -2147483648 ≤ x3) (h29 : x3 ≤ 2147483647) (h30 : -2147483648 ≤ x5) (h31 : x5 ≤ 2147483647) (h32 : -2147483648 ≤ x6) (h33 : x6 ≤ 2147483647) (h34 : -2147483648 ≤ x8) (h35 : x8 ≤ 2147483647) (h36 : -2147483648 ≤ x9) (h37 : x9 ≤ 2147483647) (h38 : -2147483648 ≤ x10) (h39 : x10 ≤ 2147483647) (h40 : -2147483648 ≤ x11) (h41 : x11 ≤ 2147483647) (h42 : -2147483648 ≤ x12) (h43 : x12 ≤ 2147483647) (h44 : -2147483648 ≤ x13) (h45 : x13 ≤ 2147483647) : -2147483648 ≤ x0 + x1 := by omega
theorem o18_236 {x0 x1 x2 x3 x5 x6 x8 x9 x10 x11 x12 x13 : Int} {x4 x7 : Nat} (h0 : 0 ≤ x2) (h1 : x2 ≤ 120) (h2 : 0 ≤ x3) (h3 : x3 ≤ 121) (h4 : 121 - x3 < ((x4 + 1 : Nat) : Int)) (h5 : 0 ≤ x5) (h6 : x5 ≤ 120) (h7 : x3 ≤ x5) (h8 : x3 ≤ x2) (h9 : x0 = 4 * x3) (h10 : 2 ≤ x6) (h11 : x6 ≤ 4) (h12 : 4 - x6 < ((x7 + 1 : Nat) : Int)) (h13 : x8 = 4) (h14 : x6 < x8) (h15 : x9 = x3 + x6) (h16 : x10 = 1) (h17 : x11 = x9 - x10) (h18 : x11 ≤ x2) (h19 : x12 = 1) (h20 : x13 = x6 - x12) (h21 : x1 = 4 * x13) (h22 : -2147483648 ≤ x0) (h23 : x0 ≤ 2147483647) (h24 : -2147483648 ≤ x1) (h25 : x1 ≤ 2147483647) (h26 : -2147483648 ≤ x2) (h27 : x2 ≤ 2147483647) (h28 : -2147483648 ≤ x3) (h29 : x3 ≤ 2147483647) (h30 : -2147483648 ≤ x5) (h31 : x5 ≤ 2147483647) (h32 : -2147483648 ≤ x6) (h33 : x6 ≤ 2147483647) (h34 : -2147483648 ≤ x8) (h35 : x8 ≤ 2147483647) (h36 : -2147483648 ≤ x9) (h37 : x9 ≤ 2147483647) (h38 : -2147483648 ≤ x10) (h39 : x10 ≤ 2147483647) (h40 : -2147483648 ≤ x11) (h41 : x11 ≤ 2147483647) (h42 : -2147483648 ≤ x12) (h43 : x12 ≤ 2147483647) (h44 : -2147483648 ≤ x13) (h45 : x13 ≤ 2147483647) : x0 + x1 ≤ 2147483647 := by omega
theorem o18_237 {x0 x1 x2 x4 x5 x7 x8 x9 x10 x11 x12 x13 x14 : Int} {x3 x6 : Nat} (h0 : 0 ≤ x1) (h1 : x1 ≤ 120) (h2 : 0 ≤ x2) (h3 : x2 ≤ 121) (h4 : 121 - x2 < ((x3 + 1 : Nat) : Int)) (h5 : 0 ≤ x4) (h6 : x4 ≤ 120) (h7 : x2 ≤ x4) (h8 : x2 ≤ x1) (h9 : x5 = 4 * x2) (h10 : 2 ≤ x0) (h11 : x0 ≤ 4) (h12 : 4 - x0 < ((x6 + 1 : Nat) : Int)) (h13 : x7 = 4) (h14 : x0 < x7) (h15 : x8 = x2 + x0) (h16 : x9 = 1) (h17 : x10 = x8 - x9) (h18 : x10 ≤ x1) (h19 : x11 = 1) (h20 : x12 = x0 - x11) (h21 : x13 = 4 * x12) (h22 : x14 = x5 + x13) : 2 ≤ x0 := by omega
theorem o18_238 {x0 x1 x2 x4 x5 x7 x8 x9 x10 x11 x12 x13 x14 : Int} {x3 x6 : Nat} (h0 : 0 ≤ x1) (h1 : x1 ≤ 120) (h2 : 0 ≤ x2) (h3 : x2 ≤ 121) (h4 : 121 - x2 < ((x3 + 1 : Nat) : Int)) (h5 : 0 ≤ x4) (h6 : x4 ≤ 120) (h7 : x2 ≤ x4) (h8 : x2 ≤ x1) (h9 : x5 = 4 * x2) (h10 : 2 ≤ x0) (h11 : x0 ≤ 4) (h12 : 4 - x0 < ((x6 + 1 : Nat) : Int)) (h13 : x7 = 4) (h14 : x0 < x7) (h15 : x8 = x2 + x0) (h16 : x9 = 1) (h17 : x10 = x8 - x9) (h18 : x10 ≤ x1) (h19 : x11 = 1) (h20 : x12 = x0 - x11) (h21 : x13 = 4 * x12) (h22 : x14 = x5 + x13) : x0 ≤ 3 := by omega
theorem o18_239 {x0 x1 x2 x4 x5 x7 x8 x9 x10 x11 x12 x13 x14 : Int} {x3 x6 : Nat} (h0 : 0 ≤ x1) (h1 : x1 ≤ 120) (h2 : 0 ≤ x2) (h3 : x2 ≤ 121) (h4 : 121 - x2 < ((x3 + 1 : Nat) : Int)) (h5 : 0 ≤ x4) (h6 : x4 ≤ 120) (h7 : x2 ≤ x4) (h8 : x2 ≤ x1) (h9 : x0 = 4 * x2) (h10 : 2 ≤ x5) (h11 : x5 ≤ 4) (h12 : 4 - x5 < ((x6 + 1 : Nat) : Int)) (h13 : x7 = 4) (h14 : x5 < x7) (h15 : x8 = x2 + x5) (h16 : x9 = 1) (h17 : x10 = x8 - x9) (h18 : x10 ≤ x1) (h19 : x11 = 1) (h20 : x12 = x5 - x11) (h21 : x13 = 4 * x12) (h22 : x14 = x0 + x13) : 0 ≤ x0 := by omega
theorem o18_240 {x0 x1 x2 x4 x5 x7 x8 x9 x10 x11 x12 x13 x14 : Int} {x3 x6 : Nat} (h0 : 0 ≤ x1) (h1 : x1 ≤ 120) (h2 : 0 ≤ x2) (h3 : x2 ≤ 121) (h4 : 121 - x2 < ((x3 + 1 : Nat) : Int)) (h5 : 0 ≤ x4) (h6 : x4 ≤ 120) (h7 : x2 ≤ x4) (h8 : x2 ≤ x1) (h9 : x0 = 4 * x2) (h10 : 2 ≤ x5) (h11 : x5 ≤ 4) (h12 : 4 - x5 < ((x6 + 1 : Nat) : Int)) (h13 : x7 = 4) (h14 : x5 < x7) (h15 : x8 = x2 + x5) (h16 : x9 = 1) (h17 : x10 = x8 - x9) (h18 : x10 ≤ x1) (h19 : x11 = 1) (h20 : x12 = x5 - x11) (h21 : x13 = 4 * x12) (h22 : x14 = x0 + x13) : x0 ≤ 480 := by omega
theorem o18_241 {x0 x1 x2 x4 x5 x6 x8 x9 x10 x11 x12 x13 x14 : Int} {x3 x7 : Nat} (h0 : 0 ≤ x1) (h1 : x1 ≤ 120) (h2 : 0 ≤ x2) (h3 : x2 ≤ 121) (h4 : 121 - x2 < ((x3 + 1 : Nat) : Int)) (h5 : 0 ≤ x4) (h6 : x4 ≤ 120) (h7 : x2 ≤ x4) (h8 : x2 ≤ x1) (h9 : x5 = 4 * x2) (h10 : 2 ≤ x6) (h11 : x6 ≤ 4) (h12 : 4 - x6 < ((x7 + 1 : Nat) : Int)) (h13 : x8 = 4) (h14 : x6 < x8) (h15 : x9 = x2 + x6) (h16 : x10 = 1) (h17 : x11 = x9 - x10) (h18 : x11 ≤ x1) (h19 : x12 = 1) (h20 : x13 = x6 - x12) (h21 : x14 = 4 * x13) (h22 : x0 = x5 + x14) : 0 ≤ x0 := by omega
theorem o18_242 {x0 x1 x2 x4 x5 x6 x8 x9 x10 x11 x12 x13 x14 : Int} {x3 x7 : Nat} (h0 : 0 ≤ x1) (h1 : x1 ≤ 120) (h2 : 0 ≤ x2) (h3 : x2 ≤ 121) (h4 : 121 - x2 < ((x3 + 1 : Nat) : Int)) (h5 : 0 ≤ x4) (h6 : x4 ≤ 120) (h7 : x2 ≤ x4) (h8 : x2 ≤ x1) (h9 : x5 = 4 * x2) (h10 : 2 ≤ x6) (h11 : x6 ≤ 4) (h12 : 4 - x6 < ((x7 + 1 : Nat) : Int)) (h13 : x8 = 4) (h14 : x6 < x8) (h15 : x9 = x2 + x6) (h16 : x10 = 1) (h17 : x11 = x9 - x10) (h18 : x11 ≤ x1) (h19 : x12 = 1) (h20 : x13 = x6 - x12) (h21 : x14 = 4 * x13) (h22 : x0 = x5 + x14) : x0 ≤ 480 := by omega
theorem o18_243 {x0 x1 x2 x4 x5 x7 x8 x9 x10 x11 x12 x13 x14 : Int} {x3 x6 : Nat} (h0 : 0 ≤ x1) (h1 : x1 ≤ 120) (h2 : 0 ≤ x2) (h3 : x2 ≤ 121) (h4 : 121 - x2 < ((x3 + 1 : Nat) : Int)) (h5 : 0 ≤ x4) (h6 : x4 ≤ 120) (h7 : x2 ≤ x4) (h8 : x2 ≤ x1) (h9 : x5 = 4 * x2) (h10 : 2 ≤ x0) (h11 : x0 ≤ 4) (h12 : 4 - x0 < ((x6 + 1 : Nat) : Int)) (h13 : x7 = 4) (h14 : x0 < x7) (h15 : x8 = x2 + x0) (h16 : x9 = 1) (h17 : x10 = x8 - x9) (h18 : x10 ≤ x1) (h19 : x11 = 1) (h20 : x12 = x0 - x11) (h21 : x13 = 4 * x12) (h22 : x14 = x5 + x13) (h23 : -2147483648 ≤ x0) (h24 : x0 ≤ 2147483647) (h25 : -2147483648 ≤ x1) (h26 : x1 ≤ 2147483647) (h27 : -2147483648 ≤ x2) (h28 : x2 ≤ 2147483647) (h29 : -2147483648 ≤ x4) (h30 : x4 ≤ 2147483647) (h31 : -2147483648 ≤ x5) (h32 : x5 ≤ 2147483647) (h33 : -2147483648 ≤ x7) (h34 : x7 ≤ 2147483647) (h35 : -2147483648 ≤ x8) (h36 : x8 ≤ 2147483647) (h37 : -2147483648 ≤ x9) (h38 : x9 ≤ 2147483647) (h39 : -2147483648 ≤ x10) (h40 : x10 ≤ 2147483647) (h41 : -2147483648 ≤ x11) (h42 : x11 ≤ 2147483647) (h43 : -2147483648 ≤ x12) (h44 : x12 ≤ 2147483647) (h45 : -2147483648 ≤ x13) (h46 : x13 ≤ 2147483647) (h47 : -2147483648 ≤ x14) (h48 : x14 ≤ 2147483647) : -2147483648 ≤ x0 + 1 := by omega
theorem o18_244 {x0 x1 x2 x4 x5 x7 x8 x9 x10 x11 x12 x13 x14 : Int} {x3 x6 : Nat} (h0 : 0 ≤ x1) (h1 : x1 ≤ 120) (h2 : 0 ≤ x2) (h3 : x2 ≤ 121) (h4 : 121 - x2 < ((x3 + 1 : Nat) : Int)) (h5 : 0 ≤ x4) (h6 : x4 ≤ 120) (h7 : x2 ≤ x4) (h8 : x2 ≤ x1) (h9 : x5 = 4 * x2) (h10 : 2 ≤ x0) (h11 : x0 ≤ 4) (h12 : 4 - x0 < ((x6 + 1 : Nat) : Int)) (h13 : x7 = 4) (h14 : x0 < x7) (h15 : x8 = x2 + x0) (h16 : x9 = 1) (h17 : x10 = x8 - x9) (h18 : x10 ≤ x1) (h19 : x11 = 1) (h20 : x12 = x0 - x11) (h21 : x13 = 4 * x12) (h22 : x14 = x5 + x13) (h23 : -2147483648 ≤ x0) (h24 : x0 ≤ 2147483647) (h25 : -2147483648 ≤ x1) (h26 : x1 ≤ 2147483647) (h27 : -2147483648 ≤ x2) (h28 : x2 ≤ 2147483647) (h29 : -2147483648 ≤ x4) (h30 : x4 ≤ 2147483647) (h31 : -2147483648 ≤ x5) (h32 : x5 ≤ 2147483647) (h33 : -2147483648 ≤ x7) (h34 : x7 ≤ 2147483647) (h35 : -2147483648 ≤ x8) (h36 : x8 ≤ 2147483647) (h37 : -2147483648 ≤ x9) (h38 : x9 ≤ 2147483647) (h39 : -2147483648 ≤ x10) (h40 : x10 ≤ 2147483647) (h41 : -2147483648 ≤ x11) (h42 : x11 ≤ 2147483647) (h43 : -2147483648 ≤ x12) (h44 : x12 ≤ 2147483647) (h45 : -2147483648 ≤ x13) (h46 : x13 ≤ 2147483647) (h47 : -2147483648 ≤ x14) (h48 : x14 ≤ 2147483647) : x0 + 1 ≤ 2147483647 := by omega
theorem o18_245 {x0 x2 x3 x5 x6 x7 x8 x9 x10 x11 x12 x13 x14 x15 : Int} {x1 x4 : Nat} (h0 : 0 ≤ x2) (h1 : x2 ≤ 120) (h2 : 0 ≤ x3) (h3 : x3 ≤ 121) (h4 : 121 - x3 < ((x4 + 1 : Nat) : Int)) (h5 : 0 ≤ x5) (h6 : x5 ≤ 120) (h7 : x3 ≤ x5) (h8 : x3 ≤ x2) (h9 : x6 = 4 * x3) (h10 : 2 ≤ x7) (h11 : x7 ≤ 4) (h12 : 4 - x7 < ((x1 + 1 : Nat) : Int)) (h13 : x8 = 4) (h14 : x7 < x8) (h15 : x9 = x3 + x7) (h16 : x10 = 1) (h17 : x11 = x9 - x10) (h18 : x11 ≤ x2) (h19 : x12 = 1) (h20 : x13 = x7 - x12) (h21 : x14 = 4 * x13) (h22 : x15 = x6 + x14) (h23 : x0 = x7 + 1) : 4 - x0 < (x1 : Int) := by omega
theorem o18_246 {x0 x1 x2 x4 x5 x6 x8 x9 x10 x11 x12 x13 x14 x15 : Int} {x3 x7 : Nat} (h0 : 0 ≤ x1) (h1 : x1 ≤ 120) (h2 : 0 ≤ x2) (h3 : x2 ≤ 121) (h4 : 121 - x2 < ((x3 + 1 : Nat) : Int)) (h5 : 0 ≤ x4) (h6 : x4 ≤ 120) (h7 : x2 ≤ x4) (h8 : x2 ≤ x1) (h9 : x5 = 4 * x2) (h10 : 2 ≤ x6) (h11 : x6 ≤ 4) (h12 : 4 - x6 < ((x7 + 1 : Nat) : Int)) (h13 : x8 = 4) (h14 : x6 < x8) (h15 : x9 = x2 + x6) (h16 : x10 = 1) (h17 : x11 = x9 - x10) (h18 : x11 ≤ x1) (h19 : x12 = 1) (h20 : x13 = x6 - x12) (h21 : x14 = 4 * x13) (h22 : x15 = x5 + x14) (h23 : x0 = x6 + 1) : 2 ≤ x0 := by omega
theorem o18_247 {x0 x1 x2 x4 x5 x6 x8 x9 x10 x11 x12 x13 x14 x15 : Int} {x3 x7 : Nat} (h0 : 0 ≤ x1) (h1 : x1 ≤ 120) (h2 : 0 ≤ x2) (h3 : x2 ≤ 121) (h4 : 121 - x2 < ((x3 + 1 : Nat) : Int)) (h5 : 0 ≤ x4) (h6 : x4 ≤ 120) (h7 : x2 ≤ x4) (h8 : x2 ≤ x1) (h9 : x5 = 4 * x2) (h10 : 2 ≤ x6) (h11 : x6 ≤ 4) (h12 : 4 - x6 < ((x7 + 1 : Nat) : Int)) (h13 : x8 = 4) (h14 : x6 < x8) (h15 : x9 = x2 + x6) (h16 : x10 = 1) (h17 : x11 = x9 - x10) (h18 : x11 ≤ x1) (h19 : x12 = 1) (h20 : x13 = x6 - x12) (h21 : x14 = 4 * x13) (h22 : x15 = x5 + x14) (h23 : x0 = x6 + 1) : x0 ≤ 4 := by omega
theorem o18_248 {x0 : Int} (h0 : x0 = 2) : 4 - x0 < (((4 - x0 + 1).toNat : Nat) : Int) := by omega
theorem o18_249 {x0 : Int} (h0 : x0 = 2) : 2 ≤ x0 := by omega
theorem o18_250 {x0 : Int} (h0 : x0 = 2) : x0 ≤ 4 := by omega
theorem o18_251 {x0 : Int} (h0 : x0 = (-1)) : x0 ≤ 120 := by omega
theorem o18_252 {x0 x1 x3 : Int} {x2 : Nat} (h0 : 0 ≤ x1) (h1 : x1 ≤ 120) (h2 : 0 ≤ x0) (h3 : x0 ≤ 121) (h4 : 121 - x0 < ((x2 + 1 : Nat) : Int)) (h5 : 0 ≤ x3) (h6 : x3 ≤ 120) (h7 : x0 ≤ x3) (h8 : x0 ≤ x1) : 0 ≤ x0 := by omega
theorem o18_253 {x0 x1 x3 : Int} {x2 : Nat} (h0 : 0 ≤ x1) (h1 : x1 ≤ 120) (h2 : 0 ≤ x0) (h3 : x0 ≤ 121) (h4 : 121 - x0 < ((x2 + 1 : Nat) : Int)) (h5 : 0 ≤ x3) (h6 : x3 ≤ 120) (h7 : x0 ≤ x3) (h8 : x0 ≤ x1) : x0 ≤ 120 := by omega
theorem o18_254 {x0 x1 x3 : Int} {x2 : Nat} (h0 : 0 ≤ x1) (h1 : x1 ≤ 120) (h2 : 0 ≤ x0) (h3 : x0 ≤ 121) (h4 : 121 - x0 < ((x2 + 1 : Nat) : Int)) (h5 : 0 ≤ x3) (h6 : x3 ≤ 120) (h7 : x0 ≤ x3) (h8 : x0 ≤ x1) (h9 : -2147483648 ≤ x0) (h10 : x0 ≤ 2147483647) (h11 : -2147483648 ≤ x1) (h12 : x1 ≤ 2147483647) (h13 : -2147483648 ≤ x3) (h14 : x3 ≤ 2147483647) : -2147483648 ≤ x0 + 1 := by omega
theorem o18_255 {x0 x1 x3 : Int} {x2 : Nat} (h0 : 0 ≤ x1) (h1 : x1 ≤ 120) (h2 : 0 ≤ x0) (h3 : x0 ≤ 121) (h4 : 121 - x0 < ((x2 + 1 : Nat) : Int)) (h5 : 0 ≤ x3) (h6 : x3 ≤ 120) (h7 : x0 ≤ x3) (h8 : x0 ≤ x1) (h9 : -2147483648 ≤ x0) (h10 : x0 ≤ 2147483647) (h11 : -2147483648 ≤ x1) (h12 : x1 ≤ 2147483647) (h13 : -2147483648 ≤ x3) (h14 : x3 ≤ 2147483647) : x0 + 1 ≤ 2147483647 := by omega
theorem o18_256 {x0 x2 x3 x4 : Int} {x1 : Nat} (h0 : 0 ≤ x2) (h1 : x2 ≤ 120) (h2 : 0 ≤ x3) (h3 : x3 ≤ 121) (h4 : 121 - x3 < ((x1 + 1 : Nat) : Int)) (h5 : 0 ≤ x4) (h6 : x4 ≤ 120) (h7 : x3 ≤ x4) (h8 : x3 ≤ x2) (h9 : x0 = x3 + 1) : 121 - x0 < (x1 : Int) := by omega
theorem o18_257 {x0 x1 x2 x4 : Int} {x3 : Nat} (h0 : 0 ≤ x1) (h1 : x1 ≤ 120) (h2 : 0 ≤ x2) (h3 : x2 ≤ 121) (h4 : 121 - x2 < ((x3 + 1 : Nat) : Int)) (h5 : 0 ≤ x4) (h6 : x4 ≤ 120) (h7 : x2 ≤ x4) (h8 : x2 ≤ x1) (h9 : x0 = x2 + 1) : 0 ≤ x0 := by omega
theorem o18_258 {x0 x1 x2 x4 : Int} {x3 : Nat} (h0 : 0 ≤ x1) (h1 : x1 ≤ 120) (h2 : 0 ≤ x2) (h3 : x2 ≤ 121) (h4 : 121 - x2 < ((x3 + 1 : Nat) : Int)) (h5 : 0 ≤ x4) (h6 : x4 ≤ 120) (h7 : x2 ≤ x4) (h8 : x2 ≤ x1) (h9 : x0 = x2 + 1) : x0 ≤ 121 := by omega
theorem o18_259 {x0 x1 x3 : Int} {x2 : Nat} (h0 : 0 ≤ x1) (h1 : x1 ≤ 120) (h2 : 0 ≤ x0) (h3 : x0 ≤ 121) (h4 : 121 - x0 < ((x2 + 1 : Nat) : Int)) (h5 : 0 ≤ x3) (h6 : x3 ≤ 120) (h7 : x0 ≤ x3) (h8 : x0 ≤ x1) : (-1) ≤ x0 := by omega
theorem o18_260 {x0 : Int} (h0 : 0 ≤ x0) (h1 : x0 ≤ 99) : 0 ≤ x0 := by omega
theorem o18_261 {x0 : Int} (h0 : 0 ≤ x0) (h1 : x0 ≤ 99) : x0 ≤ 99 := by omega
theorem o18_262 {x0 : Int} (h0 : 0 ≤ x0) (h1 : x0 ≤ 61) (h2 : 61 - x0 < 0) : False := by omega
theorem o18_263 {x0 : Int} (h0 : x0 = (-1)) : x0 ≤ 60 := by omega
theorem o18_264 {x0 x1 : Int} {x2 : Nat} (h0 : 0 ≤ x1) (h1 : x1 ≤ 60) (h2 : 0 ≤ x0) (h3 : x0 ≤ 61) (h4 : 61 - x0 < ((x2 + 1 : Nat) : Int)) (h5 : x0 ≤ x1) (h6 : x1 ≤ x0) (h7 : -2147483648 ≤ x0) (h8 : x0 ≤ 2147483647) (h9 : -2147483648 ≤ x1) (h10 : x1 ≤ 2147483647) : -2147483648 ≤ x0 + 1 := by omega
theorem o18_265 {x0 x1 : Int} {x2 : Nat} (h0 : 0 ≤ x1) (h1 : x1 ≤ 60) (h2 : 0 ≤ x0) (h3 : x0 ≤ 61) (h4 : 61 - x0 < ((x2 + 1 : Nat) : Int)) (h5 : x0 ≤ x1) (h6 : x1 ≤ x0) (h7 : -2147483648 ≤ x0) (h8 : x0 ≤ 2147483647) (h9 : -2147483648 ≤ x1) (h10 : x1 ≤ 2147483647) : x0 + 1 ≤ 2147483647 := by omega
theorem o18_266 {x0 x2 x3 : Int} {x1 : Nat} (h0 : 0 ≤ x2) (h1 : x2 ≤ 60) (h2 : 0 ≤ x3) (h3 : x3 ≤ 61) (h4 : 61 - x3 < ((x1 + 1 : Nat) : Int)) (h5 : x3 ≤ x2) (h6 : x2 ≤ x3) (h7 : x0 = x3 + 1) : 61 - x0 < (x1 : Int) := by omega
theorem o18_267 {x0 x1 x2 : Int} {x3 : Nat} (h0 : 0 ≤ x1) (h1 : x1 ≤ 60) (h2 : 0 ≤ x2) (h3 : x2 ≤ 61) (h4 : 61 - x2 < ((x3 + 1 : Nat) : Int)) (h5 : x2 ≤ x1) (h6 : x1 ≤ x2) (h7 : x0 = x2 + 1) : 0 ≤ x0 := by omega
theorem o18_268 {x0 x1 x2 : Int} {x3 : Nat} (h0 : 0 ≤ x1) (h1 : x1 ≤ 60) (h2 : 0 ≤ x2) (h3 : x2 ≤ 61) (h4 : 61 - x2 < ((x3 + 1 : Nat) : Int)) (h5 : x2 ≤ x1) (h6 : x1 ≤ x2) (h7 : x0 = x2 + 1) : x0 ≤ 61 := by omega
theorem o18_269 {x0 x1 : Int} {x2 : Nat} (h0 : 0 ≤ x1) (h1 : x1 ≤ 60) (h2 : 0 ≤ x0) (h3 : x0 ≤ 61) (h4 : 61 - x0 < ((x2 + 1 : Nat) : Int)) (h5 : x0 ≤ x1) (h6 : x0 < x1) : 0 ≤ x0 := by omega
theorem o18_270 {x0 x1 : Int} {x2 : Nat} (h0 : 0 ≤ x1) (h1 : x1 ≤ 60) (h2 : 0 ≤ x0) (h3 : x0 ≤ 61) (h4 : 61 - x0 < ((x2 + 1 : Nat) : Int)) (h5 : x0 ≤ x1) (h6 : x0 < x1) : x0 ≤ 239 := by omega
theorem o18_271 {x0 x1 : Int} {x2 : Nat} (h0 : 0 ≤ x1) (h1 : x1 ≤ 60) (h2 : 0 ≤ x0) (h3 : x0 ≤ 61) (h4 : 61 - x0 < ((x2 + 1 : Nat) : Int)) (h5 : x0 ≤ x1) (h6 : x0 < x1) (h7 : -2147483648 ≤ x0) (h8 : x0 ≤ 2147483647) (h9 : -2147483648 ≤ x1) (h10 : x1 ≤ 2147483647) : -2147483648 ≤ x0 + 1 := by omega
theorem o18_272 {x0 x1 : Int} {x2 : Nat} (h0 : 0 ≤ x1) (h1 : x1 ≤ 60) (h2 : 0 ≤ x0) (h3 : x0 ≤ 61) (h4 : 61 - x0 < ((x2 + 1 : Nat) : Int)) (h5 : x0 ≤ x1) (h6 : x0 < x1) (h7 : -2147483648 ≤ x0) (h8 : x0 ≤ 2147483647) (h9 : -2147483648 ≤ x1) (h10 : x1 ≤ 2147483647) : x0 + 1 ≤ 2147483647 := by omega
theorem o18_273 {x0 x2 x3 : Int} {x1 : Nat} (h0 : 0 ≤ x2) (h1 : x2 ≤ 60) (h2 : 0 ≤ x3) (h3 : x3 ≤ 61) (h4 : 61 - x3 < ((x1 + 1 : Nat) : Int)) (h5 : x3 ≤ x2) (h6 : x3 < x2) (h7 : x0 = x3 + 1) : 61 - x0 < (x1 : Int) := by omega
theorem o18_274 {x0 x1 x2 : Int} {x3 : Nat} (h0 : 0 ≤ x1) (h1 : x1 ≤ 60) (h2 : 0 ≤ x2) (h3 : x2 ≤ 61) (h4 : 61 - x2 < ((x3 + 1 : Nat) : Int)) (h5 : x2 ≤ x1) (h6 : x2 < x1) (h7 : x0 = x2 + 1) : 0 ≤ x0 := by omega
theorem o18_275 {x0 x1 x2 : Int} {x3 : Nat} (h0 : 0 ≤ x1) (h1 : x1 ≤ 60) (h2 : 0 ≤ x2) (h3 : x2 ≤ 61) (h4 : 61 - x2 < ((x3 + 1 : Nat) : Int)) (h5 : x2 ≤ x1) (h6 : x2 < x1) (h7 : x0 = x2 + 1) : x0 ≤ 61 := by omega
theorem o18_276 {x0 x1 : Int} {x2 : Nat} (h0 : 0 ≤ x1) (h1 : x1 ≤ 60) (h2 : 0 ≤ x0) (h3 : x0 ≤ 61) (h4 : 61 - x0 < ((x2 + 1 : Nat) : Int)) (h5 : x0 ≤ x1) : (-1) ≤ x0 := by omega
theorem o18_277 {x0 x1 : Int} {x2 : Nat} (h0 : 0 ≤ x1) (h1 : x1 ≤ 60) (h2 : 0 ≤ x0) (h3 : x0 ≤ 61) (h4 : 61 - x0 < ((x2 + 1 : Nat) : Int)) (h5 : x0 ≤ x1) : x0 ≤ 60 := by omega
theorem o18_278 {x0 : Int} (h0 : x0 = 0) : 61 - x0 < (((61 - x0 + 1).toNat : Nat) : Int) := by omega
theorem o18_279 {x0 : Int} (h0 : x0 = 0) : x0 ≤ 61 := by omega
theorem o18_280 {x0 : Int} (h0 : (-1) ≤ x0) (h1 : x0 ≤ 120) : (-1) ≤ x0 := by omega
theorem o18_281 {x0 : Int} (h0 : (-1) ≤ x0) (h1 : x0 ≤ 120) : x0 ≤ 120 := by omega
theorem o18_282 {x0 : Int} (h0 : (-1) ≤ x0) (h1 : x0 ≤ 120) (h2 : 0 ≤ x0) : 0 ≤ x0 := by omega
theorem o18_283 {x0 : Int} (h0 : (-1) ≤ x0) (h1 : x0 ≤ 120) (h2 : 0 ≤ x0) : x0 ≤ 120 := by omega
theorem o18_284 {x0 : Int} (h0 : (-1) ≤ x0) (h1 : x0 ≤ 120) (h2 : 0 ≤ x0) : (-1) ≤ x0 := by omega
theorem o18_285 {x0 : Int} (h0 : (-1) ≤ x0) (h1 : x0 ≤ 120) (h2 : 0 ≤ x0) (h3 : x0 < 0) : False := by omega
theorem o18_286 {x0 x1 x2 : Int} {x3 : Nat} (h0 : 0 ≤ x0) (h1 : x0 ≤ 180) (h2 : 0 ≤ x2) (h3 : x2 ≤ 60) (h4 : 0 ≤ x1) (h5 : x1 ≤ 61) (h6 : 61 - x1 < ((x3 + 1 : Nat) : Int)) (h7 : x1 ≤ x2) (h8 : x1 < x2) (h9 : -2147483648 ≤ x0) (h10 : x0 ≤ 2147483647) (h11 : -2147483648 ≤ x1) (h12 : x1 ≤ 2147483647) (h13 : -2147483648 ≤ x2) (h14 : x2 ≤ 2147483647) : -2147483648 ≤ x0 + x1 := by omega
theorem o18_287 {x0 x1 x2 : Int} {x3 : Nat} (h0 : 0 ≤ x0) (h1 : x0 ≤ 180) (h2 : 0 ≤ x2) (h3 : x2 ≤ 60) (h4 : 0 ≤ x1) (h5 : x1 ≤ 61) (h6 : 61 - x1 < ((x3 + 1 : Nat) : Int)) (h7 : x1 ≤ x2) (h8 : x1 < x2) (h9 : -2147483648 ≤ x0) (h10 : x0 ≤ 2147483647) (h11 : -2147483648 ≤ x1) (h12 : x1 ≤ 2147483647) (h13 : -2147483648 ≤ x2) (h14 : x2 ≤ 2147483647) : x0 + x1 ≤ 2147483647 := by omega
theorem o18_288 {x0 x1 x2 x3 : Int} {x4 : Nat} (h0 : 0 ≤ x1) (h1 : x1 ≤ 180) (h2 : 0 ≤ x2) (h3 : x2 ≤ 60) (h4 : 0 ≤ x3) (h5 : x3 ≤ 61) (h6 : 61 - x3 < ((x4 + 1 : Nat) : Int)) (h7 : x3 ≤ x2) (h8 : x3 < x2) (h9 : x0 = x1 + x3) : 0 ≤ x0 := by omega
theorem o18_289 {x0 x1 x2 x3 : Int} {x4 : Nat} (h0 : 0 ≤ x1) (h1 : x1 ≤ 180) (h2 : 0 ≤ x2) (h3 : x2 ≤ 60) (h4 : 0 ≤ x3) (h5 : x3 ≤ 61) (h6 : 61 - x3 < ((x4 + 1 : Nat) : Int)) (h7 : x3 ≤ x2) (h8 : x3 < x2) (h9 : x0 = x1 + x3) : x0 ≤ 239 := by omega
theorem o18_290 {x0 x1 x2 x4 : Int} {x3 : Nat} (h0 : 0 ≤ x1) (h1 : x1 ≤ 180) (h2 : 0 ≤ x2) (h3 : x2 ≤ 60) (h4 : 0 ≤ x0) (h5 : x0 ≤ 61) (h6 : 61 - x0 < ((x3 + 1 : Nat) : Int)) (h7 : x0 ≤ x2) (h8 : x0 < x2) (h9 : x4 = x1 + x0) (h10 : -2147483648 ≤ x0) (h11 : x0 ≤ 2147483647) (h12 : -2147483648 ≤ x1) (h13 : x1 ≤ 2147483647) (h14 : -2147483648 ≤ x2) (h15 : x2 ≤ 2147483647) (h16 : -2147483648 ≤ x4) (h17 : x4 ≤ 2147483647) : -2147483648 ≤ x0 + 1 := by omega
theorem o18_291 {x0 x1 x2 x4 : Int} {x3 : Nat} (h0 : 0 ≤ x1) (h1 : x1 ≤ 180) (h2 : 0 ≤ x2) (h3 : x2 ≤ 60) (h4 : 0 ≤ x0) (h5 : x0 ≤ 61) (h6 : 61 - x0 < ((x3 + 1 : Nat) : Int)) (h7 : x0 ≤ x2) (h8 : x0 < x2) (h9 : x4 = x1 + x0) (h10 : -2147483648 ≤ x0) (h11 : x0 ≤ 2147483647) (h12 : -2147483648 ≤ x1) (h13 : x1 ≤ 2147483647) (h14 : -2147483648 ≤ x2) (h15 : x2 ≤ 2147483647) (h16 : -2147483648 ≤ x4) (h17 : x4 ≤ 2147483647) : x0 + 1 ≤ 2147483647 := by omega
theorem o18_292 {x0 x2 x3 x4 x5 : Int} {x1 : Nat} (h0 : 0 ≤ x2) (h1 : x2 ≤ 180) (h2 : 0 ≤ x3) (h3 : x3 ≤ 60) (h4 : 0 ≤ x4) (h5 : x4 ≤ 61) (h6 : 61 - x4 < ((x1 + 1 : Nat) : Int)) (h7 : x4 ≤ x3) (h8 : x4 < x3) (h9 : x5 = x2 + x4) (h10 : x0 = x4 + 1) : 61 - x0 < (x1 : Int) := by omega
theorem o18_293 {x0 x1 x2 x3 x5 : Int} {x4 : Nat} (h0 : 0 ≤ x1) (h1 : x1 ≤ 180) (h2 : 0 ≤ x2) (h3 : x2 ≤ 60) (h4 : 0 ≤ x3) (h5 : x3 ≤ 61) (h6 : 61 - x3 < ((x4 + 1 : Nat) : Int)) (h7 : x3 ≤ x2) (h8 : x3 < x2) (h9 : x5 = x1 + x3) (h10 : x0 = x3 + 1) : 0 ≤ x0 := by omega
theorem o18_294 {x0 x1 x2 x3 x5 : Int} {x4 : Nat} (h0 : 0 ≤ x1) (h1 : x1 ≤ 180) (h2 : 0 ≤ x2) (h3 : x2 ≤ 60) (h4 : 0 ≤ x3) (h5 : x3 ≤ 61) (h6 : 61 - x3 < ((x4 + 1 : Nat) : Int)) (h7 : x3 ≤ x2) (h8 : x3 < x2) (h9 : x5 = x1 + x3) (h10 : x0 = x3 + 1) : x0 ≤ 61 := by omega
theorem o18_295 {x0 x1 : Int} {x2 : Nat} (h0 : 0 ≤ x1) (h1 : x1 ≤ 60) (h2 : 0 ≤ x0) (h3 : x0 ≤ 61) (h4 : 61 - x0 < ((x2 + 1 : Nat) : Int)) (h5 : x0 ≤ x1) : 0 ≤ x0 := by omega
theorem o18_296 {x0 x1 : Int} (h0 : (-1) ≤ x0) (h1 : x0 ≤ 120) (h2 : 0 ≤ x0) (h3 : x1 = 1) (h4 : -2147483648 ≤ x0) (h5 : x0 ≤ 2147483647) (h6 : -2147483648 ≤ x1) (h7 : x1 ≤ 2147483647) : -2147483648 ≤ x0 - x1 := by omega
theorem o18_297 {x0 x1 : Int} (h0 : (-1) ≤ x0) (h1 : x0 ≤ 120) (h2 : 0 ≤ x0) (h3 : x1 = 1) (h4 : -2147483648 ≤ x0) (h5 : x0 ≤ 2147483647) (h6 : -2147483648 ≤ x1) (h7 : x1 ≤ 2147483647) : x0 - x1 ≤ 2147483647 := by omega
theorem o18_298 {x0 x1 x2 : Int} (h0 : (-1) ≤ x1) (h1 : x1 ≤ 120) (h2 : 0 ≤ x1) (h3 : x2 = 1) (h4 : x0 = x1 - x2) : (-1) ≤ x0 := by omega
theorem o18_299 {x0 x1 x2 : Int} (h0 : (-1) ≤ x1) (h1 : x1 ≤ 120) (h2 : 0 ≤ x1) (h3 : x2 = 1) (h4 : x0 = x1 - x2) : x0 ≤ 120 := by omega
theorem o18_300 {x0 x1 x2 : Int} (h0 : (-1) ≤ x0) (h1 : x0 ≤ 120) (h2 : 0 ≤ x0) (h3 : x1 = 1) (h4 : x2 = x0 - x1) : (-1) ≤ x0 := by omega
theorem o18_301 {x0 x1 x2 : Int} (h0 : (-1) ≤ x0) (h1 : x0 ≤ 120) (h2 : 0 ≤ x0) (h3 : x1 = 1) (h4 : x2 = x0 - x1) : x0 ≤ 120 := by omega
theorem o18_302 {x0 x1 x2 : Int} (h0 : (-1) ≤ x1) (h1 : x1 ≤ 120) (h2 : 0 ≤ x1) (h3 : x2 = 1) (h4 : x0 = x1 - x2) (h5 : x0 < 0) : (-1) ≤ x0 := by omega
theorem o18_303 {x0 x1 x2 : Int} (h0 : (-1) ≤ x1) (h1 : x1 ≤ 120) (h2 : 0 ≤ x1) (h3 : x2 = 1) (h4 : x0 = x1 - x2) (h5 : x0 < 0) : x0 ≤ 120 := by omega
theorem o18_304 {x0 x1 x2 : Int} (h0 : (-1) ≤ x0) (h1 : x0 ≤ 120) (h2 : 0 ≤ x0) (h3 : x1 = 1) (h4 : x2 = x0 - x1) (h5 : x2 < 0) : (-1) ≤ x0 := by omega
theorem o18_305 {x0 x1 x2 : Int} (h0 : (-1) ≤ x0) (h1 : x0 ≤ 120) (h2 : 0 ≤ x0) (h3 : x1 = 1) (h4 : x2 = x0 - x1) (h5 : x2 < 0) : x0 ≤ 120 := by omega
theorem o18_306 {x0 x1 x2 : Int} (h0 : (-1) ≤ x0) (h1 : x0 ≤ 120) (h2 : 0 ≤ x0) (h3 : x1 = 1) (h4 : x2 = x0 - x1) (h5 : x2 < 0) : x0 = 0 := by omega
theorem o18_307 {x0 x1 x2 : Int} (h0 : (-1) ≤ x1) (h1 : x1 ≤ 120) (h2 : 0 ≤ x1) (h3 : x2 = 1) (h4 : x0 = x1 - x2) (h5 : x0 < 0) : x0 = (-1) := by omega
theorem o18_308 {x0 x1 x2 : Int} (h0 : (-1) ≤ x1) (h1 : x1 ≤ 120) (h2 : 0 ≤ x1) (h3 : x2 = 1) (h4 : x0 = x1 - x2) (h5 : 0 ≤ x0) : 0 ≤ x0 := by omega
theorem o18_309 {x0 x1 x2 : Int} (h0 : (-1) ≤ x1) (h1 : x1 ≤ 120) (h2 : 0 ≤ x1) (h3 : x2 = 1) (h4 : x0 = x1 - x2) (h5 : 0 ≤ x0) : x0 ≤ 120 := by omega
theorem o18_310 {x0 x1 x2 : Int} (h0 : (-1) ≤ x1) (h1 : x1 ≤ 120) (h2 : 0 ≤ x1) (h3 : x2 = 1) (h4 : x0 = x1 - x2) (h5 : 0 ≤ x0) : (-1) ≤ x0 := by omega
theorem o18_311 {x0 x1 x2 : Int} (h0 : (-1) ≤ x0) (h1 : x0 ≤ 120) (h2 : 0 ≤ x0) (h3 : x1 = 1) (h4 : x2 = x0 - x1) (h5 : 0 ≤ x2) : (-1) ≤ x0 := by omega
theorem o18_312 {x0 x1 x2 : Int} (h0 : (-1) ≤ x0) (h1 : x0 ≤ 120) (h2 : 0 ≤ x0) (h3 : x1 = 1) (h4 : x2 = x0 - x1) (h5 : 0 ≤ x2) : x0 ≤ 120 := by omega
theorem o18_313 {x0 : Int} (h0 : x0 = 120) : (-1) ≤ x0 := by omega
theorem o18_314 {x0 : Int} (h0 : x0 = 120) : x0 ≤ 120 := by omega
theorem o18_315 {x0 : Int} (h0 : 0 ≤ x0) (h1 : x0 ≤ 60) : 0 ≤ x0 := by omega
theorem o18_316 {x0 : Int} (h0 : 0 ≤ x0) (h1 : x0 ≤ 60) : x0 ≤ 60 := by omega
theorem o18_317 {x0 : Int} (h0 : x0 = 60) : x0 = 60 := by omega
theorem o18_318 {x0 x2 : Int} {x1 : Nat} (h0 : 0 ≤ x0) (h1 : x0 ≤ 61) (h2 : 61 - x0 < ((x1 + 1 : Nat) : Int)) (h3 : x2 = 60) (h4 : x2 < x0) : 60 < x0 := by omega
theorem o18_319 {x0 x2 : Int} {x1 : Nat} (h0 : 0 ≤ x0) (h1 : x0 ≤ 61) (h2 : 61 - x0 < ((x1 + 1 : Nat) : Int)) (h3 : x2 = 60) (h4 : x0 ≤ x2) : ¬ 60 < x0 := by omega
theorem o18_320 {x0 x2 x3 : Int} {x1 : Nat} (h0 : 0 ≤ x0) (h1 : x0 ≤ 61) (h2 : 61 - x0 < ((x1 + 1 : Nat) : Int)) (h3 : x2 = 60) (h4 : x0 ≤ x2) (h5 : x3 = 60) (h6 : x3 ≤ x0) : ¬ x0 < 60 := by omega
theorem o18_321 {x0 x2 x3 : Int} {x1 : Nat} (h0 : 0 ≤ x0) (h1 : x0 ≤ 61) (h2 : 61 - x0 < ((x1 + 1 : Nat) : Int)) (h3 : x2 = 60) (h4 : x0 ≤ x2) (h5 : x3 = 60) (h6 : x0 < x3) : x0 < 60 := by omega
theorem o18_322 {x0 x2 x3 : Int} {x1 : Nat} (h0 : 0 ≤ x0) (h1 : x0 ≤ 61) (h2 : 61 - x0 < ((x1 + 1 : Nat) : Int)) (h3 : x2 = 60) (h4 : x0 ≤ x2) (h5 : x3 = 60) (h6 : x3 ≤ x0) (h7 : -2147483648 ≤ x0) (h8 : x0 ≤ 2147483647) (h9 : -2147483648 ≤ x2) (h10 : x2 ≤ 2147483647) (h11 : -2147483648 ≤ x3) (h12 : x3 ≤ 2147483647) : -2147483648 ≤ x0 + 1 := by omega
theorem o18_323 {x0 x2 x3 : Int} {x1 : Nat} (h0 : 0 ≤ x0) (h1 : x0 ≤ 61) (h2 : 61 - x0 < ((x1 + 1 : Nat) : Int)) (h3 : x2 = 60) (h4 : x0 ≤ x2) (h5 : x3 = 60) (h6 : x3 ≤ x0) (h7 : -2147483648 ≤ x0) (h8 : x0 ≤ 2147483647) (h9 : -2147483648 ≤ x2) (h10 : x2 ≤ 2147483647) (h11 : -2147483648 ≤ x3) (h12 : x3 ≤ 2147483647) : x0 + 1 ≤ 2147483647 := by omega
theorem o18_324 {x0 x2 x3 x4 : Int} {x1 : Nat} (h0 : 0 ≤ x2) (h1 : x2 ≤ 61) (h2 : 61 - x2 < ((x1 + 1 : Nat) : Int)) (h3 : x3 = 60) (h4 : x2 ≤ x3) (h5 : x4 = 60) (h6 : x4 ≤ x2) (h7 : x0 = x2 + 1) : 61 - x0 < (x1 : Int) := by omega
theorem o18_325 {x0 x1 x3 x4 : Int} {x2 : Nat} (h0 : 0 ≤ x1) (h1 : x1 ≤ 61) (h2 : 61 - x1 < ((x2 + 1 : Nat) : Int)) (h3 : x3 = 60) (h4 : x1 ≤ x3) (h5 : x4 = 60) (h6 : x4 ≤ x1) (h7 : x0 = x1 + 1) : 0 ≤ x0 := by omega
theorem o18_326 {x0 x1 x3 x4 : Int} {x2 : Nat} (h0 : 0 ≤ x1) (h1 : x1 ≤ 61) (h2 : 61 - x1 < ((x2 + 1 : Nat) : Int)) (h3 : x3 = 60) (h4 : x1 ≤ x3) (h5 : x4 = 60) (h6 : x4 ≤ x1) (h7 : x0 = x1 + 1) : x0 ≤ 61 := by omega
theorem o18_327 {x0 x2 x3 x4 : Int} {x1 : Nat} (h0 : 0 ≤ x0) (h1 : x0 ≤ 61) (h2 : 61 - x0 < ((x1 + 1 : Nat) : Int)) (h3 : x2 = 60) (h4 : x0 ≤ x2) (h5 : x3 = 60) (h6 : x3 ≤ x0) (h7 : x4 = x0 + 1) : x0 = 60 := by omega
theorem o18_328 {x0 x2 x3 : Int} {x1 : Nat} (h0 : 0 ≤ x0) (h1 : x0 ≤ 61) (h2 : 61 - x0 < ((x1 + 1 : Nat) : Int)) (h3 : x2 = 60) (h4 : x0 ≤ x2) (h5 : x3 = 60) (h6 : x0 < x3) : 0 ≤ x0 := by omega
theorem o18_329 {x0 x2 x3 : Int} {x1 : Nat} (h0 : 0 ≤ x0) (h1 : x0 ≤ 61) (h2 : 61 - x0 < ((x1 + 1 : Nat) : Int)) (h3 : x2 = 60) (h4 : x0 ≤ x2) (h5 : x3 = 60) (h6 : x0 < x3) : x0 ≤ 239 := by omega
theorem o18_330 {x0 x2 x3 : Int} {x1 : Nat} (h0 : 0 ≤ x0) (h1 : x0 ≤ 61) (h2 : 61 - x0 < ((x1 + 1 : Nat) : Int)) (h3 : x2 = 60) (h4 : x0 ≤ x2) (h5 : x3 = 60) (h6 : x0 < x3) (h7 : -2147483648 ≤ x0) (h8 : x0 ≤ 2147483647) (h9 : -2147483648 ≤ x2) (h10 : x2 ≤ 2147483647) (h11 : -2147483648 ≤ x3) (h12 : x3 ≤ 2147483647) : -2147483648 ≤ x0 + 1 := by omega
theorem o18_331 {x0 x2 x3 : Int} {x1 : Nat} (h0 : 0 ≤ x0) (h1 : x0 ≤ 61) (h2 : 61 - x0 < ((x1 + 1 : Nat) : Int)) (h3 : x2 = 60) (h4 : x0 ≤ x2) (h5 : x3 = 60) (h6 : x0 < x3) (h7 : -2147483648 ≤ x0) (h8 : x0 ≤ 2147483647) (h9 : -2147483648 ≤ x2) (h10 : x2 ≤ 2147483647) (h11 : -2147483648 ≤ x3) (h12 : x3 ≤ 2147483647) : x0 + 1 ≤ 2147483647 := by omega
theorem o18_332 {x0 x2 x3 x4 : Int} {x1 : Nat} (h0 : 0 ≤ x2) (h1 : x2 ≤ 61) (h2 : 61 - x2 < ((x1 + 1 : Nat) : Int)) (h3 : x3 = 60) (h4 : x2 ≤ x3) (h5 : x4 = 60) (h6 : x2 < x4) (h7 : x0 = x2 + 1) : 61 - x0 < (x1 : Int) := by omega
theorem o18_333 {x0 x1 x3 x4 : Int} {x2 : Nat} (h0 : 0 ≤ x1) (h1 : x1 ≤ 61) (h2 : 61 - x1 < ((x2 + 1 : Nat) : Int)) (h3 : x3 = 60) (h4 : x1 ≤ x3) (h5 : x4 = 60) (h6 : x1 < x4) (h7 : x0 = x1 + 1) : 0 ≤ x0 := by omega
theorem o18_334 {x0 x1 x3 x4 : Int} {x2 : Nat} (h0 : 0 ≤ x1) (h1 : x1 ≤ 61) (h2 : 61 - x1 < ((x2 + 1 : Nat) : Int)) (h3 : x3 = 60) (h4 : x1 ≤ x3) (h5 : x4 = 60) (h6 : x1 < x4) (h7 : x0 = x1 + 1) : x0 ≤ 61 := by omega
theorem o18_335 {x0 x2 : Int} {x1 : Nat} (h0 : 0 ≤ x0) (h1 : x0 ≤ 121) (h2 : 121 - x0 < ((x1 + 1 : Nat) : Int)) (h3 : 0 ≤ x2) (h4 : x2 ≤ 120) (h5 : x0 ≤ x2) : 0 ≤ x0 := by omega
theorem o18_336 {x0 x2 : Int} {x1 : Nat} (h0 : 0 ≤ x0) (h1 : x0 ≤ 121) (h2 : 121 - x0 < ((x1 + 1 : Nat) : Int)) (h3 : 0 ≤ x2) (h4 : x2 ≤ 120) (h5 : x0 ≤ x2) : x0 < (121 : Nat) := by omega
theorem o18_337 {x0 x2 : Int} {x1 : Nat} (h0 : 0 ≤ x0) (h1 : x0 ≤ 121) (h2 : 121 - x0 < ((x1 + 1 : Nat) : Int)) (h3 : 0 ≤ x2) (h4 : x2 ≤ 120) (h5 : x0 ≤ x2) : x0 ≤ 120 := by omega
theorem o18_338 {x0 x2 : Int} {x1 : Nat} (h0 : 0 ≤ x0) (h1 : x0 ≤ 121) (h2 : 121 - x0 < ((x1 + 1 : Nat) : Int)) (h3 : 0 ≤ x2) (h4 : x2 ≤ 120) (h5 : x0 ≤ x2) (h6 : -2147483648 ≤ x0) (h7 : x0 ≤ 2147483647) (h8 : -2147483648 ≤ x2) (h9 : x2 ≤ 2147483647) : -2147483648 ≤ x0 + 1 := by omega
theorem o18_339 {x0 x2 : Int} {x1 : Nat} (h0 : 0 ≤ x0) (h1 : x0 ≤ 121) (h2 : 121 - x0 < ((x1 + 1 : Nat) : Int)) (h3 : 0 ≤ x2) (h4 : x2 ≤ 120) (h5 : x0 ≤ x2) (h6 : -2147483648 ≤ x0) (h7 : x0 ≤ 2147483647) (h8 : -2147483648 ≤ x2) (h9 : x2 ≤ 2147483647) : x0 + 1 ≤ 2147483647 := by omega
theorem o18_340 {x0 x2 x3 : Int} {x1 : Nat} (h0 : 0 ≤ x2) (h1 : x2 ≤ 121) (h2 : 121 - x2 < ((x1 + 1 : Nat) : Int)) (h3 : 0 ≤ x3) (h4 : x3 ≤ 120) (h5 : x2 ≤ x3) (h6 : x0 = x2 + 1) : 121 - x0 < (x1 : Int) := by omega
theorem o18_341 {x0 x1 x3 : Int} {x2 : Nat} (h0 : 0 ≤ x1) (h1 : x1 ≤ 121) (h2 : 121 - x1 < ((x2 + 1 : Nat) : Int)) (h3 : 0 ≤ x3) (h4 : x3 ≤ 120) (h5 : x1 ≤ x3) (h6 : x0 = x1 + 1) : 0 ≤ x0 := by omega
theorem o18_342 {x0 x1 x3 : Int} {x2 : Nat} (h0 : 0 ≤ x1) (h1 : x1 ≤ 121) (h2 : 121 - x1 < ((x2 + 1 : Nat) : Int)) (h3 : 0 ≤ x3) (h4 : x3 ≤ 120) (h5 : x1 ≤ x3) (h6 : x0 = x1 + 1) : x0 ≤ 121 := by omega
theorem o18_343 {x0 x1 : Int} {x2 : Nat} (h0 : 0 ≤ x1) (h1 : x1 ≤ 120) (h2 : 0 ≤ x0) (h3 : x0 ≤ 121) (h4 : 121 - x0 < ((x2 + 1 : Nat) : Int)) (h5 : x0 ≤ x1) : 0 ≤ x0 := by omega
theorem o18_344 {x0 x1 : Int} {x2 : Nat} (h0 : 0 ≤ x1) (h1 : x1 ≤ 120) (h2 : 0 ≤ x0) (h3 : x0 ≤ 121) (h4 : 121 - x0 < ((x2 + 1 : Nat) : Int)) (h5 : x0 ≤ x1) : x0 < (121 : Nat) := by omega
theorem o18_345 {x0 x1 : Int} {x2 : Nat} (h0 : 0 ≤ x1) (h1 : x1 ≤ 120) (h2 : 0 ≤ x0) (h3 : x0 ≤ 121) (h4 : 121 - x0 < ((x2 + 1 : Nat) : Int)) (h5 : x0 ≤ x1) (h6 : -2147483648 ≤ x0) (h7 : x0 ≤ 2147483647) (h8 : -2147483648 ≤ x1) (h9 : x1 ≤ 2147483647) : -2147483648 ≤ x0 + 1 := by omega
theorem o18_346 {x0 x1 : Int} {x2 : Nat} (h0 : 0 ≤ x1) (h1 : x1 ≤ 120) (h2 : 0 ≤ x0) (h3 : x0 ≤ 121) (h4 : 121 - x0 < ((x2 + 1 : Nat) : Int)) (h5 : x0 ≤ x1) (h6 : -2147483648 ≤ x0) (h7 : x0 ≤ 2147483647) (h8 : -2147483648 ≤ x1) (h9 : x1 ≤ 2147483647) : x0 + 1 ≤ 2147483647 := by omega
theorem o18_347 {x0 x2 x3 : Int} {x1 : Nat} (h0 : 0 ≤ x2) (h1 : x2 ≤ 120) (h2 : 0 ≤ x3) (h3 : x3 ≤ 121) (h4 : 121 - x3 < ((x1 + 1 : Nat) : Int)) (h5 : x3 ≤ x2) (h6 : x0 = x3 + 1) : 121 - x0 < (x1 : Int) := by omega
theorem o18_348 {x0 x1 x2 : Int} {x3 : Nat} (h0 : 0 ≤ x1) (h1 : x1 ≤ 120) (h2 : 0 ≤ x2) (h3 : x2 ≤ 121) (h4 : 121 - x2 < ((x3 + 1 : Nat) : Int)) (h5 : x2 ≤ x1) (h6 : x0 = x2 + 1) : 0 ≤ x0 := by omega
theorem o18_349 {x0 x1 x2 : Int} {x3 : Nat} (h0 : 0 ≤ x1) (h1 : x1 ≤ 120) (h2 : 0 ≤ x2) (h3 : x2 ≤ 121) (h4 : 121 - x2 < ((x3 + 1 : Nat) : Int)) (h5 : x2 ≤ x1) (h6 : x0 = x2 + 1) : x0 ≤ 121 := by omega
theorem o18_350 {x0 : Int} (h0 : x0 = 120) : 0 ≤ x0 := by omega
theorem o18_351 {x0 : Int} (h0 : x0 = 120) : x0 = 120 := by omega
theorem o18_352 {x0 x2 : Int} {x1 : Nat} (h0 : 0 ≤ x0) (h1 : x0 ≤ 121) (h2 : 121 - x0 < ((x1 + 1 : Nat) : Int)) (h3 : x2 = 120) (h4 : x2 < x0) : 120 < x0 := by omega
theorem o18_353 {x0 x2 : Int} {x1 : Nat} (h0 : 0 ≤ x0) (h1 : x0 ≤ 121) (h2 : 121 - x0 < ((x1 + 1 : Nat) : Int)) (h3 : x2 = 120) (h4 : x0 ≤ x2) : ¬ 120 < x0 := by omega
theorem o18_354 {x0 x2 : Int} {x1 : Nat} (h0 : 0 ≤ x0) (h1 : x0 ≤ 121) (h2 : 121 - x0 < ((x1 + 1 : Nat) : Int)) (h3 : x2 = 120) (h4 : x0 ≤ x2) : 0 ≤ x0 := by omega
theorem o18_355 {x0 x2 : Int} {x1 : Nat} (h0 : 0 ≤ x0) (h1 : x0 ≤ 121) (h2 : 121 - x0 < ((x1 + 1 : Nat) : Int)) (h3 : x2 = 120) (h4 : x0 ≤ x2) : x0 < (121 : Nat) := by omega
theorem o18_356 {x0 x2 : Int} {x1 : Nat} (h0 : 0 ≤ x0) (h1 : x0 ≤ 121) (h2 : 121 - x0 < ((x1 + 1 : Nat) : Int)) (h3 : x2 = 120) (h4 : x0 ≤ x2) (h5 : -2147483648 ≤ x0) (h6 : x0 ≤ 2147483647) (h7 : -2147483648 ≤ x2) (h8 : x2 ≤ 2147483647) : -2147483648 ≤ x0 + 1 := by omega
theorem o18_357 {x0 x2 : Int} {x1 : Nat} (h0 : 0 ≤ x0) (h1 : x0 ≤ 121) (h2 : 121 - x0 < ((x1 + 1 : Nat) : Int)) (h3 : x2 = 120) (h4 : x0 ≤ x2) (h5 : -2147483648 ≤ x0) (h6 : x0 ≤ 2147483647) (h7 : -2147483648 ≤ x2) (h8 : x2 ≤ 2147483647) : x0 + 1 ≤ 2147483647 := by omega
theorem o18_358 {x0 x2 x3 : Int} {x1 : Nat} (h0 : 0 ≤ x2) (h1 : x2 ≤ 121) (h2 : 121 - x2 < ((x1 + 1 : Nat) : Int)) (h3 : x3 = 120) (h4 : x2 ≤ x3) (h5 : x0 = x2 + 1) : 121 - x0 < (x1 : Int) := by omega
theorem o18_359 {x0 x1 x3 : Int} {x2 : Nat} (h0 : 0 ≤ x1) (h1 : x1 ≤ 121) (h2 : 121 - x1 < ((x2 + 1 : Nat) : Int)) (h3 : x3 = 120) (h4 : x1 ≤ x3) (h5 : x0 = x1 + 1) : 0 ≤ x0 := by omega
theorem o18_360 {x0 x1 x3 : Int} {x2 : Nat} (h0 : 0 ≤ x1) (h1 : x1 ≤ 121) (h2 : 121 - x1 < ((x2 + 1 : Nat) : Int)) (h3 : x3 = 120) (h4 : x1 ≤ x3) (h5 : x0 = x1 + 1) : x0 ≤ 121 := by omega
theorem o18_361 {x0 x2 x3 : Int} {x1 : Nat} (h0 : 0 ≤ x0) (h1 : x0 ≤ 121) (h2 : 121 - x0 < ((x1 + 1 : Nat) : Int)) (h3 : x2 = 120) (h4 : x0 ≤ x2) (h5 : x3 = x0 + 1) : 0 ≤ x0 := by omega
theorem o18_362 {x0 x2 x3 : Int} {x1 : Nat} (h0 : 0 ≤ x0) (h1 : x0 ≤ 121) (h2 : 121 - x0 < ((x1 + 1 : Nat) : Int)) (h3 : x2 = 120) (h4 : x0 ≤ x2) (h5 : x3 = x0 + 1) : x0 ≤ 120 := by omega
theorem o18_363 {x0 x1 x2 : Int} (h0 : 0 ≤ x0) (h1 : x0 ≤ 99) (h2 : x2 = x0 / 4) (h3 : x1 = 3) (h4 : -2147483648 ≤ x0) (h5 : x0 ≤ 2147483647) (h6 : -2147483648 ≤ x1) (h7 : x1 ≤ 2147483647) (h8 : -2147483648 ≤ x2) (h9 : x2 ≤ 2147483647) : -2147483648 ≤ x0 + x1 := by omega
theorem o18_364 {x0 x1 x2 : Int} (h0 : 0 ≤ x0) (h1 : x0 ≤ 99) (h2 : x2 = x0 / 4) (h3 : x1 = 3) (h4 : -2147483648 ≤ x0) (h5 : x0 ≤ 2147483647) (h6 : -2147483648 ≤ x1) (h7 : x1 ≤ 2147483647) (h8 : -2147483648 ≤ x2) (h9 : x2 ≤ 2147483647) : x0 + x1 ≤ 2147483647 := by omega
theorem o18_365 {x0 x1 x2 x3 : Int} (h0 : 0 ≤ x1) (h1 : x1 ≤ 99) (h2 : x0 = x1 / 4) (h3 : x2 = 3) (h4 : x3 = x1 + x2) : 0 ≤ x0 := by omega
theorem o18_366 {x0 x1 x2 x3 : Int} (h0 : 0 ≤ x1) (h1 : x1 ≤ 99) (h2 : x0 = x1 / 4) (h3 : x2 = 3) (h4 : x3 = x1 + x2) : x0 ≤ 24 := by omega
theorem o18_367 {x0 x1 x2 x3 : Int} (h0 : 0 ≤ x0) (h1 : x0 ≤ 99) (h2 : x1 = x0 / 4) (h3 : x2 = 3) (h4 : x3 = x0 + x2) : 0 ≤ x0 := by omega
theorem o18_368 {x0 x1 x2 x3 : Int} (h0 : 0 ≤ x0) (h1 : x0 ≤ 99) (h2 : x1 = x0 / 4) (h3 : x2 = 3) (h4 : x3 = x0 + x2) : x0 ≤ 99 := by omega
theorem o18_369 {x0 : Int} (h0 : 1 ≤ x0) (h1 : x0 ≤ 61) (h2 : 61 - x0 < 0) : False := by omega
theorem o18_370 {x0 x2 : Int} {x1 : Nat} (h0 : 1 ≤ x0) (h1 : x0 ≤ 61) (h2 : 61 - x0 < ((x1 + 1 : Nat) : Int)) (h3 : x2 = 60) (h4 : x2 < x0) : 60 < x0 := by omega
theorem o18_371 {x0 x2 : Int} {x1 : Nat} (h0 : 1 ≤ x0) (h1 : x0 ≤ 61) (h2 : 61 - x0 < ((x1 + 1 : Nat) : Int)) (h3 : x2 = 60) (h4 : x0 ≤ x2) : ¬ 60 < x0 := by omega
theorem o18_372 {x0 : Int} (h0 : x0 = 0) : x0 ≤ 480 := by omega
theorem o18_373 {x0 x2 : Int} {x1 : Nat} (h0 : 1 ≤ x0) (h1 : x0 ≤ 61) (h2 : 61 - x0 < ((x1 + 1 : Nat) : Int)) (h3 : x2 = 60) (h4 : x0 ≤ x2) (h5 : -2147483648 ≤ x0) (h6 : x0 ≤ 2147483647) (h7 : -2147483648 ≤ x2) (h8 : x2 ≤ 2147483647) : -2147483648 ≤ x0 + 1 := by omega
theorem o18_374 {x0 x2 : Int} {x1 : Nat} (h0 : 1 ≤ x0) (h1 : x0 ≤ 61) (h2 : 61 - x0 < ((x1 + 1 : Nat) : Int)) (h3 : x2 = 60) (h4 : x0 ≤ x2) (h5 : -2147483648 ≤ x0) (h6 : x0 ≤ 2147483647) (h7 : -2147483648 ≤ x2) (h8 : x2 ≤ 2147483647) : x0 + 1 ≤ 2147483647 := by omega
theorem o18_375 {x0 x2 x3 : Int} {x1 : Nat} (h0 : 1 ≤ x2) (h1 : x2 ≤ 61) (h2 : 61 - x2 < ((x1 + 1 : Nat) : Int)) (h3 : x3 = 60) (h4 : x2 ≤ x3) (h5 : x0 = x2 + 1) : 61 - x0 < (x1 : Int) := by omega
theorem o18_376 {x0 x1 x3 : Int} {x2 : Nat} (h0 : 1 ≤ x1) (h1 : x1 ≤ 61) (h2 : 61 - x1 < ((x2 + 1 : Nat) : Int)) (h3 : x3 = 60) (h4 : x1 ≤ x3) (h5 : x0 = x1 + 1) : 1 ≤ x0 := by omega
theorem o18_377 {x0 x1 x3 : Int} {x2 : Nat} (h0 : 1 ≤ x1) (h1 : x1 ≤ 61) (h2 : 61 - x1 < ((x2 + 1 : Nat) : Int)) (h3 : x3 = 60) (h4 : x1 ≤ x3) (h5 : x0 = x1 + 1) : x0 ≤ 61 := by omega
theorem o18_378 {x0 x2 : Int} {x1 : Nat} (h0 : 1 ≤ x0) (h1 : x0 ≤ 61) (h2 : 61 - x0 < ((x1 + 1 : Nat) : Int)) (h3 : x2 = 60) (h4 : x0 ≤ x2) : (-1) ≤ x0 := by omega
theorem o18_379 {x0 x2 : Int} {x1 : Nat} (h0 : 1 ≤ x0) (h1 : x0 ≤ 61) (h2 : 61 - x0 < ((x1 + 1 : Nat) : Int)) (h3 : x2 = 60) (h4 : x0 ≤ x2) : x0 ≤ 60 := by omega
theorem o18_380 {x0 : Int} (h0 : x0 = 1) : 61 - x0 < (((61 - x0 + 1).toNat : Nat) : Int) := by omega
theorem o18_381 {x0 : Int} (h0 : x0 = 1) : 1 ≤ x0 := by omega
theorem o18_382 {x0 : Int} (h0 : x0 = 1) : x0 ≤ 61 := by omega
theorem o18_383 {x0 : Int} (h0 : 0 ≤ x0) (h1 : x0 ≤ 30) : 0 ≤ x0 := by omega
theorem o18_384 {x0 : Int} (h0 : 0 ≤ x0) (h1 : x0 ≤ 30) : x0 ≤ 60 := by omega
theorem o18_385 {x0 : Int} (h0 : 1 ≤ x0) (h1 : x0 ≤ 25) (h2 : 25 - x0 < 0) : False := by omega
theorem o18_386 {x0 : Int} (h0 : 0 ≤ x0) (h1 : x0 ≤ 24) (h2 : 24 - x0 < 0) : False := by omega
theorem o18_387 {x0 x1 x2 x5 : Int} {x3 x4 x6 : Nat} (h0 : 0 ≤ x1) (h1 : x1 ≤ 25) (h2 : 0 ≤ x2) (h3 : x2 ≤ 25) (h4 : 25 - x2 < ((x3 + 1 : Nat) : Int)) (h5 : x1 ≤ x2) (h6 : 1 ≤ x0) (h7 : x0 ≤ 25) (h8 : 25 - x0 < ((x4 + 1 : Nat) : Int)) (h9 : x0 < x1) (h10 : 0 ≤ x5) (h11 : x5 ≤ 24) (h12 : 24 - x5 < ((x6 + 1 : Nat) : Int)) (h13 : x0 ≤ x5) (h14 : -2147483648 ≤ x0) (h15 : x0 ≤ 2147483647) (h16 : -2147483648 ≤ x1) (h17 : x1 ≤ 2147483647) (h18 : -2147483648 ≤ x2) (h19 : x2 ≤ 2147483647) (h20 : -2147483648 ≤ x5) (h21 : x5 ≤ 2147483647) : -2147483648 ≤ x0 + 1 := by omega
theorem o18_388 {x0 x1 x2 x5 : Int} {x3 x4 x6 : Nat} (h0 : 0 ≤ x1) (h1 : x1 ≤ 25) (h2 : 0 ≤ x2) (h3 : x2 ≤ 25) (h4 : 25 - x2 < ((x3 + 1 : Nat) : Int)) (h5 : x1 ≤ x2) (h6 : 1 ≤ x0) (h7 : x0 ≤ 25) (h8 : 25 - x0 < ((x4 + 1 : Nat) : Int)) (h9 : x0 < x1) (h10 : 0 ≤ x5) (h11 : x5 ≤ 24) (h12 : 24 - x5 < ((x6 + 1 : Nat) : Int)) (h13 : x0 ≤ x5) (h14 : -2147483648 ≤ x0) (h15 : x0 ≤ 2147483647) (h16 : -2147483648 ≤ x1) (h17 : x1 ≤ 2147483647) (h18 : -2147483648 ≤ x2) (h19 : x2 ≤ 2147483647) (h20 : -2147483648 ≤ x5) (h21 : x5 ≤ 2147483647) : x0 + 1 ≤ 2147483647 := by omega
theorem o18_389 {x0 x2 x3 x5 x6 : Int} {x1 x4 x7 : Nat} (h0 : 0 ≤ x2) (h1 : x2 ≤ 25) (h2 : 0 ≤ x3) (h3 : x3 ≤ 25) (h4 : 25 - x3 < ((x4 + 1 : Nat) : Int)) (h5 : x2 ≤ x3) (h6 : 1 ≤ x5) (h7 : x5 ≤ 25) (h8 : 25 - x5 < ((x1 + 1 : Nat) : Int)) (h9 : x5 < x2) (h10 : 0 ≤ x6) (h11 : x6 ≤ 24) (h12 : 24 - x6 < ((x7 + 1 : Nat) : Int)) (h13 : x5 ≤ x6) (h14 : x0 = x5 + 1) : 25 - x0 < (x1 : Int) := by omega
theorem o18_390 {x0 x1 x2 x4 x6 : Int} {x3 x5 x7 : Nat} (h0 : 0 ≤ x1) (h1 : x1 ≤ 25) (h2 : 0 ≤ x2) (h3 : x2 ≤ 25) (h4 : 25 - x2 < ((x3 + 1 : Nat) : Int)) (h5 : x1 ≤ x2) (h6 : 1 ≤ x4) (h7 : x4 ≤ 25) (h8 : 25 - x4 < ((x5 + 1 : Nat) : Int)) (h9 : x4 < x1) (h10 : 0 ≤ x6) (h11 : x6 ≤ 24) (h12 : 24 - x6 < ((x7 + 1 : Nat) : Int)) (h13 : x4 ≤ x6) (h14 : x0 = x4 + 1) : 1 ≤ x0 := by omega
theorem o18_391 {x0 x1 x2 x4 x6 : Int} {x3 x5 x7 : Nat} (h0 : 0 ≤ x1) (h1 : x1 ≤ 25) (h2 : 0 ≤ x2) (h3 : x2 ≤ 25) (h4 : 25 - x2 < ((x3 + 1 : Nat) : Int)) (h5 : x1 ≤ x2) (h6 : 1 ≤ x4) (h7 : x4 ≤ 25) (h8 : 25 - x4 < ((x5 + 1 : Nat) : Int)) (h9 : x4 < x1) (h10 : 0 ≤ x6) (h11 : x6 ≤ 24) (h12 : 24 - x6 < ((x7 + 1 : Nat) : Int)) (h13 : x4 ≤ x6) (h14 : x0 = x4 + 1) : x0 ≤ 25 := by omega
theorem o18_392 {x0 x1 x2 x4 : Int} {x3 x5 x6 : Nat} (h0 : 0 ≤ x1) (h1 : x1 ≤ 25) (h2 : 0 ≤ x2) (h3 : x2 ≤ 25) (h4 : 25 - x2 < ((x3 + 1 : Nat) : Int)) (h5 : x1 ≤ x2) (h6 : 1 ≤ x4) (h7 : x4 ≤ 25) (h8 : 25 - x4 < ((x5 + 1 : Nat) : Int)) (h9 : x4 < x1) (h10 : 0 ≤ x0) (h11 : x0 ≤ 24) (h12 : 24 - x0 < ((x6 + 1 : Nat) : Int)) (h13 : x0 < x4) (h14 : -2147483648 ≤ x0) (h15 : x0 ≤ 2147483647) (h16 : -2147483648 ≤ x1) (h17 : x1 ≤ 2147483647) (h18 : -2147483648 ≤ x2) (h19 : x2 ≤ 2147483647) (h20 : -2147483648 ≤ x4) (h21 : x4 ≤ 2147483647) : -2147483648 ≤ x0 + 1 := by omega
theorem o18_393 {x0 x1 x2 x4 : Int} {x3 x5 x6 : Nat} (h0 : 0 ≤ x1) (h1 : x1 ≤ 25) (h2 : 0 ≤ x2) (h3 : x2 ≤ 25) (h4 : 25 - x2 < ((x3 + 1 : Nat) : Int)) (h5 : x1 ≤ x2) (h6 : 1 ≤ x4) (h7 : x4 ≤ 25) (h8 : 25 - x4 < ((x5 + 1 : Nat) : Int)) (h9 : x4 < x1) (h10 : 0 ≤ x0) (h11 : x0 ≤ 24) (h12 : 24 - x0 < ((x6 + 1 : Nat) : Int)) (h13 : x0 < x4) (h14 : -2147483648 ≤ x0) (h15 : x0 ≤ 2147483647) (h16 : -2147483648 ≤ x1) (h17 : x1 ≤ 2147483647) (h18 : -2147483648 ≤ x2) (h19 : x2 ≤ 2147483647) (h20 : -2147483648 ≤ x4) (h21 : x4 ≤ 2147483647) : x0 + 1 ≤ 2147483647 := by omega
theorem o18_394 {x0 x2 x3 x5 x7 : Int} {x1 x4 x6 : Nat} (h0 : 0 ≤ x2) (h1 : x2 ≤ 25) (h2 : 0 ≤ x3) (h3 : x3 ≤ 25) (h4 : 25 - x3 < ((x4 + 1 : Nat) : Int)) (h5 : x2 ≤ x3) (h6 : 1 ≤ x5) (h7 : x5 ≤ 25) (h8 : 25 - x5 < ((x6 + 1 : Nat) : Int)) (h9 : x5 < x2) (h10 : 0 ≤ x7) (h11 : x7 ≤ 24) (h12 : 24 - x7 < ((x1 + 1 : Nat) : Int)) (h13 : x7 < x5) (h14 : x0 = x7 + 1) : 24 - x0 < (x1 : Int) := by omega
theorem o18_395 {x0 x1 x2 x4 x6 : Int} {x3 x5 x7 : Nat} (h0 : 0 ≤ x1) (h1 : x1 ≤ 25) (h2 : 0 ≤ x2) (h3 : x2 ≤ 25) (h4 : 25 - x2 < ((x3 + 1 : Nat) : Int)) (h5 : x1 ≤ x2) (h6 : 1 ≤ x4) (h7 : x4 ≤ 25) (h8 : 25 - x4 < ((x5 + 1 : Nat) : Int)) (h9 : x4 < x1) (h10 : 0 ≤ x6) (h11 : x6 ≤ 24) (h12 : 24 - x6 < ((x7 + 1 : Nat) : Int)) (h13 : x6 < x4) (h14 : x0 = x6 + 1) : 0 ≤ x0 := by omega
theorem o18_396 {x0 x1 x2 x4 x6 : Int} {x3 x5 x7 : Nat} (h0 : 0 ≤ x1) (h1 : x1 ≤ 25) (h2 : 0 ≤ x2) (h3 : x2 ≤ 25) (h4 : 25 - x2 < ((x3 + 1 : Nat) : Int)) (h5 : x1 ≤ x2) (h6 : 1 ≤ x4) (h7 : x4 ≤ 25) (h8 : 25 - x4 < ((x5 + 1 : Nat) : Int)) (h9 : x4 < x1) (h10 : 0 ≤ x6) (h11 : x6 ≤ 24) (h12 : 24 - x6 < ((x7 + 1 : Nat) : Int)) (h13 : x6 < x4) (h14 : x0 = x6 + 1) : x0 ≤ 24 := by omega
theorem o18_397 {x0 : Int} (h0 : x0 = 0) : 24 - x0 < (((24 - x0 + 1).toNat : Nat) : Int) := by omega
theorem o18_398 {x0 : Int} (h0 : x0 = 0) : x0 ≤ 24 := by omega
theorem o18_399 {x0 : Int} (h0 : x0 = 1) : 25 - x0 < (((25 - x0 + 1).toNat : Nat) : Int) := by omega
theorem o18_400 {x0 : Int} (h0 : x0 = 1) : x0 ≤ 25 := by omega
theorem o18_401 {x0 x1 : Int} {x2 : Nat} (h0 : 0 ≤ x1) (h1 : x1 ≤ 25) (h2 : 0 ≤ x0) (h3 : x0 ≤ 25) (h4 : 25 - x0 < ((x2 + 1 : Nat) : Int)) (h5 : x0 < x1) (h6 : -2147483648 ≤ x0) (h7 : x0 ≤ 2147483647) (h8 : -2147483648 ≤ x1) (h9 : x1 ≤ 2147483647) : -2147483648 ≤ x0 + 1 := by omega
theorem o18_402 {x0 x1 : Int} {x2 : Nat} (h0 : 0 ≤ x1) (h1 : x1 ≤ 25) (h2 : 0 ≤ x0) (h3 : x0 ≤ 25) (h4 : 25 - x0 < ((x2 + 1 : Nat) : Int)) (h5 : x0 < x1) (h6 : -2147483648 ≤ x0) (h7 : x0 ≤ 2147483647) (h8 : -2147483648 ≤ x1) (h9 : x1 ≤ 2147483647) : x0 + 1 ≤ 2147483647 := by omega
theorem o18_403 {x0 x2 x3 : Int} {x1 : Nat} (h0 : 0 ≤ x2) (h1 : x2 ≤ 25) (h2 : 0 ≤ x3) (h3 : x3 ≤ 25) (h4 : 25 - x3 < ((x1 + 1 : Nat) : Int)) (h5 : x3 < x2) (h6 : x0 = x3 + 1) : 25 - x0 < (x1 : Int) := by omega
theorem o18_404 {x0 x1 x2 : Int} {x3 : Nat} (h0 : 0 ≤ x1) (h1 : x1 ≤ 25) (h2 : 0 ≤ x2) (h3 : x2 ≤ 25) (h4 : 25 - x2 < ((x3 + 1 : Nat) : Int)) (h5 : x2 < x1) (h6 : x0 = x2 + 1) : 0 ≤ x0 := by omega
theorem o18_405 {x0 x1 x2 : Int} {x3 : Nat} (h0 : 0 ≤ x1) (h1 : x1 ≤ 25) (h2 : 0 ≤ x2) (h3 : x2 ≤ 25) (h4 : 25 - x2 < ((x3 + 1 : Nat) : Int)) (h5 : x2 < x1) (h6 : x0 = x2 + 1) : x0 ≤ 25 := by omega
theorem o18_406 {x0 : Int} (h0 : 0 ≤ x0) (h1 : x0 ≤ 10) (h2 : -2147483648 ≤ x0) (h3 : x0 ≤ 2147483647) : -2147483648 ≤ 4 * x0 := by omega
theorem o18_407 {x0 : Int} (h0 : 0 ≤ x0) (h1 : x0 ≤ 10) (h2 : -2147483648 ≤ x0) (h3 : x0 ≤ 2147483647) : 4 * x0 ≤ 2147483647 := by omega
theorem o18_408 {x0 x1 : Int} (h0 : 0 ≤ x0) (h1 : x0 ≤ 10) (h2 : x1 = 4 * x0) (h3 : -2147483648 ≤ x0) (h4 : x0 ≤ 2147483647) (h5 : -2147483648 ≤ x1) (h6 : x1 ≤ 2147483647) : -2147483648 ≤ 4 * x0 := by omega
theorem o18_409 {x0 x1 : Int} (h0 : 0 ≤ x0) (h1 : x0 ≤ 10) (h2 : x1 = 4 * x0) (h3 : -2147483648 ≤ x0) (h4 : x0 ≤ 2147483647) (h5 : -2147483648 ≤ x1) (h6 : x1 ≤ 2147483647) : 4 * x0 ≤ 2147483647 := by omega
theorem o18_410 {x0 x1 x2 x3 : Int} (h0 : 0 ≤ x2) (h1 : x2 ≤ 10) (h2 : x3 = 4 * x2) (h3 : x0 = 4 * x2) (h4 : x1 = 4) (h5 : -2147483648 ≤ x0) (h6 : x0 ≤ 2147483647) (h7 : -2147483648 ≤ x1) (h8 : x1 ≤ 2147483647) (h9 : -2147483648 ≤ x2) (h10 : x2 ≤ 2147483647) (h11 : -2147483648 ≤ x3) (h12 : x3 ≤ 2147483647) : -2147483648 ≤ x0 + x1 := by omega
theorem o18_411 {x0 x1 x2 x3 : Int} (h0 : 0 ≤ x2) (h1 : x2 ≤ 10) (h2 : x3 = 4 * x2) (h3 : x0 = 4 * x2) (h4 : x1 = 4) (h5 : -2147483648 ≤ x0) (h6 : x0 ≤ 2147483647) (h7 : -2147483648 ≤ x1) (h8 : x1 ≤ 2147483647) (h9 : -2147483648 ≤ x2) (h10 : x2 ≤ 2147483647) (h11 : -2147483648 ≤ x3) (h12 : x3 ≤ 2147483647) : x0 + x1 ≤ 2147483647 := by omega
theorem o18_412 {x0 : Int} (h0 : x0 = 2) : x0 ≤ 3 := by omega
theorem o18_413 {x0 x1 x2 x3 x4 : Int} (h0 : 0 ≤ x1) (h1 : x1 ≤ 10) (h2 : x0 = 4 * x1) (h3 : x2 = 4 * x1) (h4 : x3 = 4) (h5 : x4 = x2 + x3) : 0 ≤ x0 := by omega
theorem o18_414 {x0 x1 x2 x3 x4 : Int} (h0 : 0 ≤ x1) (h1 : x1 ≤ 10) (h2 : x0 = 4 * x1) (h3 : x2 = 4 * x1) (h4 : x3 = 4) (h5 : x4 = x2 + x3) : x0 ≤ 480 := by omega
theorem o18_415 {x0 x1 x2 x3 x4 : Int} (h0 : 0 ≤ x1) (h1 : x1 ≤ 10) (h2 : x2 = 4 * x1) (h3 : x3 = 4 * x1) (h4 : x4 = 4) (h5 : x0 = x3 + x4) : 0 ≤ x0 := by omega
theorem o18_416 {x0 x1 x2 x3 x4 : Int} (h0 : 0 ≤ x1) (h1 : x1 ≤ 10) (h2 : x2 = 4 * x1) (h3 : x3 = 4 * x1) (h4 : x4 = 4) (h5 : x0 = x3 + x4) : x0 ≤ 480 := by omega
theorem o18_417 {x0 x1 x2 x3 x4 x5 : Int} (h0 : 0 ≤ x0) (h1 : x0 ≤ 10) (h2 : x2 = 4 * x0) (h3 : x3 = 4 * x0) (h4 : x4 = 4) (h5 : x5 = x3 + x4) (h6 : x1 = 1) (h7 : -2147483648 ≤ x0) (h8 : x0 ≤ 2147483647) (h9 : -2147483648 ≤ x1) (h10 : x1 ≤ 2147483647) (h11 : -2147483648 ≤ x2) (h12 : x2 ≤ 2147483647) (h13 : -2147483648 ≤ x3) (h14 : x3 ≤ 2147483647) (h15 : -2147483648 ≤ x4) (h16 : x4 ≤ 2147483647) (h17 : -2147483648 ≤ x5) (h18 : x5 ≤ 2147483647) : -2147483648 ≤ x0 + x1 := by omega
theorem o18_418 {x0 x1 x2 x3 x4 x5 : Int} (h0 : 0 ≤ x0) (h1 : x0 ≤ 10) (h2 : x2 = 4 * x0) (h3 : x3 = 4 * x0) (h4 : x4 = 4) (h5 : x5 = x3 + x4) (h6 : x1 = 1) (h7 : -2147483648 ≤ x0) (h8 : x0 ≤ 2147483647) (h9 : -2147483648 ≤ x1) (h10 : x1 ≤ 2147483647) (h11 : -2147483648 ≤ x2) (h12 : x2 ≤ 2147483647) (h13 : -2147483648 ≤ x3) (h14 : x3 ≤ 2147483647) (h15 : -2147483648 ≤ x4) (h16 : x4 ≤ 2147483647) (h17 : -2147483648 ≤ x5) (h18 : x5 ≤ 2147483647) : x0 + x1 ≤ 2147483647 := by omega
theorem o18_419 {x0 x1 x2 x3 x4 x5 x6 : Int} (h0 : 0 ≤ x0) (h1 : x0 ≤ 10) (h2 : x1 = 4 * x0) (h3 : x2 = 4 * x0) (h4 : x3 = 4) (h5 : x4 = x2 + x3) (h6 : x5 = 1) (h7 : x6 = x0 + x5) (h8 : -2147483648 ≤ x0) (h9 : x0 ≤ 2147483647) (h10 : -2147483648 ≤ x1) (h11 : x1 ≤ 2147483647) (h12 : -2147483648 ≤ x2) (h13 : x2 ≤ 2147483647) (h14 : -2147483648 ≤ x3) (h15 : x3 ≤ 2147483647) (h16 : -2147483648 ≤ x4) (h17 : x4 ≤ 2147483647) (h18 : -2147483648 ≤ x5) (h19 : x5 ≤ 2147483647) (h20 : -2147483648 ≤ x6) (h21 : x6 ≤ 2147483647) : -2147483648 ≤ 4 * x0 := by omega
theorem o18_420 {x0 x1 x2 x3 x4 x5 x6 : Int} (h0 : 0 ≤ x0) (h1 : x0 ≤ 10) (h2 : x1 = 4 * x0) (h3 : x2 = 4 * x0) (h4 : x3 = 4) (h5 : x4 = x2 + x3) (h6 : x5 = 1) (h7 : x6 = x0 + x5) (h8 : -2147483648 ≤ x0) (h9 : x0 ≤ 2147483647) (h10 : -2147483648 ≤ x1) (h11 : x1 ≤ 2147483647) (h12 : -2147483648 ≤ x2) (h13 : x2 ≤ 2147483647) (h14 : -2147483648 ≤ x3) (h15 : x3 ≤ 2147483647) (h16 : -2147483648 ≤ x4) (h17 : x4 ≤ 2147483647) (h18 : -2147483648 ≤ x5) (h19 : x5 ≤ 2147483647) (h20 : -2147483648 ≤ x6) (h21 : x6 ≤ 2147483647) : 4 * x0 ≤ 2147483647 := by omega
theorem o18_421 {x0 x1 x2 x3 x4 x5 x6 x7 : Int} (h0 : 0 ≤ x0) (h1 : x0 ≤ 10) (h2 : x1 = 4 * x0) (h3 : x2 = 4 * x0) (h4 : x3 = 4) (h5 : x4 = x2 + x3) (h6 : x5 = 1) (h7 : x6 = x0 + x5) (h8 : x7 = 4 * x0) (h9 : -2147483648 ≤ x0) (h10 : x0 ≤ 2147483647) (h11 : -2147483648 ≤ x1) (h12 : x1 ≤ 2147483647) (h13 : -2147483648 ≤ x2) (h14 : x2 ≤ 2147483647) (h15 : -2147483648 ≤ x3) (h16 : x3 ≤ 2147483647) (h17 : -2147483648 ≤ x4) (h18 : x4 ≤ 2147483647) (h19 : -2147483648 ≤ x5) (h20 : x5 ≤ 2147483647) (h21 : -2147483648 ≤ x6) (h22 : x6 ≤ 2147483647) (h23 : -2147483648 ≤ x7) (h24 : x7 ≤ 2147483647) : -2147483648 ≤ 4 * x0 := by omega
theorem o18_422 {x0 x1 x2 x3 x4 x5 x6 x7 : Int} (h0 : 0 ≤ x0) (h1 : x0 ≤ 10) (h2 : x1 = 4 * x0) (h3 : x2 = 4 * x0) (h4 : x3 = 4) (h5 : x4 = x2 + x3) (h6 : x5 = 1) (h7 : x6 = x0 + x5) (h8 : x7 = 4 * x0) (h9 : -2147483648 ≤ x0) (h10 : x0 ≤ 2147483647) (h11 : -2147483648 ≤ x1) (h12 : x1 ≤ 2147483647) (h13 : -2147483648 ≤ x2) (h14 : x2 ≤ 2147483647) (h15 : -2147483648 ≤ x3) (h16 : x3 ≤ 2147483647) (h17 : -2147483648 ≤ x4) (h18 : x4 ≤ 2147483647) (h19 : -2147483648 ≤ x5) (h20 : x5 ≤ 2147483647) (h21 : -2147483648 ≤ x6) (h22 : x6 ≤ 2147483647) (h23 : -2147483648 ≤ x7) (h24 : x7 ≤ 2147483647) : 4 * x0 ≤ 2147483647 := by omega
theorem o18_423 {x0 x1 x2 x3 x4 x5 x6 x7 x8 x9 : Int} (h0 : 0 ≤ x2) (h1 : x2 ≤ 10) (h2 : x3 = 4 * x2) (h3 : x4 = 4 * x2) (h4 : x5 = 4) (h5 : x6 = x4 + x5) (h6 : x7 = 1) (h7 : x8 = x2 + x7) (h8 : x9 = 4 * x2) (h9 : x0 = 4 * x2) (h10 : x1 = 8) (h11 : -2147483648 ≤ x0) (h12 : x0 ≤ 2147483647) (h13 : -2147483648 ≤ x1) (h14 : x1 ≤ 2147483647) (h15 : -2147483648 ≤ x2) (h16 : x2 ≤ 2147483647) (h17 : -2147483648 ≤ x3) (h18 : x3 ≤ 2147483647) (h19 : -2147483648 ≤ x4) (h20 : x4 ≤ 2147483647) (h21 : -2147483648 ≤ x5) (h22 : x5 ≤ 2147483647) (h23 : -2147483648 ≤ x6) (h24 : x6 ≤ 2147483647) (h25 : -2147483648 ≤ x7) (h26 : x7 ≤ 2147483647) (h27 : -2147483648 ≤ x8) (h28 : x8 ≤ 2147483647) (h29 : -2147483648 ≤ x9) (h30 : x9 ≤ 2147483647) : -2147483648 ≤ x0 + x1 := by omega
theorem o18_424 {x0 x1 x2 x3 x4 x5 x6 x7 x8 x9 : Int} (h0 : 0 ≤ x2) (h1 : x2 ≤ 10) (h2 : x3 = 4 * x2) (h3 : x4 = 4 * x2) (h4 : x5 = 4) (h5 : x6 = x4 + x5) (h6 : x7 = 1) (h7 : x8 = x2 + x7) (h8 : x9 = 4 * x2) (h9 : x0 = 4 * x2) (h10 : x1 = 8) (h11 : -2147483648 ≤ x0) (h12 : x0 ≤ 2147483647) (h13 : -2147483648 ≤ x1) (h14 : x1 ≤ 2147483647) (h15 : -2147483648 ≤ x2) (h16 : x2 ≤ 2147483647) (h17 : -2147483648 ≤ x3) (h18 : x3 ≤ 2147483647) (h19 : -2147483648 ≤ x4) (h20 : x4 ≤ 2147483647) (h21 : -2147483648 ≤ x5) (h22 : x5 ≤ 2147483647) (h23 : -2147483648 ≤ x6) (h24 : x6 ≤ 2147483647) (h25 : -2147483648 ≤ x7) (h26 : x7 ≤ 2147483647) (h27 : -2147483648 ≤ x8) (h28 : x8 ≤ 2147483647) (h29 : -2147483648 ≤ x9) (h30 : x9 ≤ 2147483647) : x0 + x1 ≤ 2147483647 := by omega
theorem o18_425 {x0 : Int} (h0 : x0 = 3) : 2 ≤ x0 := by omega
theorem o18_426 {x0 : Int} (h0 : x0 = 3) : x0 ≤ 3 := by omega
theorem o18_427 {x0 x1 x2 x3 x4 x5 x6 x7 x8 x9 x10 : Int} (h0 : 0 ≤ x1) (h1 : x1 ≤ 10) (h2 : x2 = 4 * x1) (h3 : x3 = 4 * x1) (h4 : x4 = 4) (h5 : x5 = x3 + x4) (h6 : x6 = 1) (h7 : x7 = x1 + x6) (h8 : x0 = 4 * x1) (h9 : x8 = 4 * x1) (h10 : x9 = 8) (h11 : x10 = x8 + x9) : 0 ≤ x0 := by omega
theorem o18_428 {x0 x1 x2 x3 x4 x5 x6 x7 x8 x9 x10 : Int} (h0 : 0 ≤ x1) (h1 : x1 ≤ 10) (h2 : x2 = 4 * x1) (h3 : x3 = 4 * x1) (h4 : x4 = 4) (h5 : x5 = x3 + x4) (h6 : x6 = 1) (h7 : x7 = x1 + x6) (h8 : x0 = 4 * x1) (h9 : x8 = 4 * x1) (h10 : x9 = 8) (h11 : x10 = x8 + x9) : x0 ≤ 480 := by omega
theorem o18_429 {x0 x1 x2 x3 x4 x5 x6 x7 x8 x9 x10 : Int} (h0 : 0 ≤ x1) (h1 : x1 ≤ 10) (h2 : x2 = 4 * x1) (h3 : x3 = 4 * x1) (h4 : x4 = 4) (h5 : x5 = x3 + x4) (h6 : x6 = 1) (h7 : x7 = x1 + x6) (h8 : x8 = 4 * x1) (h9 : x9 = 4 * x1) (h10 : x10 = 8) (h11 : x0 = x9 + x10) : 0 ≤ x0 := by omega
theorem o18_430 {x0 x1 x2 x3 x4 x5 x6 x7 x8 x9 x10 : Int} (h0 : 0 ≤ x1) (h1 : x1 ≤ 10) (h2 : x2 = 4 * x1) (h3 : x3 = 4 * x1) (h4 : x4 = 4) (h5 : x5 = x3 + x4) (h6 : x6 = 1) (h7 : x7 = x1 + x6) (h8 : x8 = 4 * x1) (h9 : x9 = 4 * x1) (h10 : x10 = 8) (h11 : x0 = x9 + x10) : x0 ≤ 480 := by omega
theorem o18_431 {x0 : Int} (h0 : 0 ≤ x0) (h1 : x0 ≤ 30) (h2 : 30 - x0 < 0) : False := by omega
theorem o18_432 {x0 x1 x2 x3 : Int} (h0 : 0 ≤ x1) (h1 : x1 ≤ 10) (h2 : (-1) ≤ x0) (h3 : x0 ≤ 40) (h4 : x0 = x1) (h5 : 0 ≤ x2) (h6 : x2 ≤ 10) (h7 : 0 ≤ x3) (h8 : x3 ≤ 120) (h9 : x3 = x2) (h10 : x3 = x0) : 0 ≤ x0 := by omega
theorem o18_433 {x0 x1 x2 x3 : Int} (h0 : 0 ≤ x1) (h1 : x1 ≤ 10) (h2 : (-1) ≤ x0) (h3 : x0 ≤ 40) (h4 : x0 = x1) (h5 : 0 ≤ x2) (h6 : x2 ≤ 10) (h7 : 0 ≤ x3) (h8 : x3 ≤ 120) (h9 : x3 = x2) (h10 : x3 = x0) : x0 ≤ 120 := by omega
theorem o18_434 {x0 x1 : Int} {x2 : Nat} (h0 : 0 ≤ x1) (h1 : x1 ≤ 30) (h2 : 0 ≤ x0) (h3 : x0 ≤ 30) (h4 : 30 - x0 < ((x2 + 1 : Nat) : Int)) (h5 : x0 < x1) : 0 ≤ x0 := by omega
theorem o18_435 {x0 x1 : Int} {x2 : Nat} (h0 : 0 ≤ x1) (h1 : x1 ≤ 30) (h2 : 0 ≤ x0) (h3 : x0 ≤ 30) (h4 : 30 - x0 < ((x2 + 1 : Nat) : Int)) (h5 : x0 < x1) : x0 ≤ 239 := by omega
theorem o18_436 {x0 : Int} (h0 : 0 ≤ x0) (h1 : x0 ≤ 11) (h2 : 11 - x0 < 0) : False := by omega
theorem o18_437 {x0 x1 x2 x3 x5 : Int} {x4 : Nat} (h0 : 0 ≤ x2) (h1 : x2 ≤ 10) (h2 : 0 ≤ x3) (h3 : x3 ≤ 11) (h4 : 11 - x3 < ((x4 + 1 : Nat) : Int)) (h5 : 0 ≤ x5) (h6 : x5 ≤ 120) (h7 : x5 = x2) (h8 : x5 < x3) (h9 : 0 ≤ x0) (h10 : x0 ≤ 120) (h11 : x0 = x2) (h12 : x1 = 2) (h13 : -2147483648 ≤ x0) (h14 : x0 ≤ 2147483647) (h15 : -2147483648 ≤ x1) (h16 : x1 ≤ 2147483647) (h17 : -2147483648 ≤ x2) (h18 : x2 ≤ 2147483647) (h19 : -2147483648 ≤ x3) (h20 : x3 ≤ 2147483647) (h21 : -2147483648 ≤ x5) (h22 : x5 ≤ 2147483647) : -2147483648 ≤ x0 + x1 := by omega
theorem o18_438 {x0 x1 x2 x3 x5 : Int} {x4 : Nat} (h0 : 0 ≤ x2) (h1 : x2 ≤ 10) (h2 : 0 ≤ x3) (h3 : x3 ≤ 11) (h4 : 11 - x3 < ((x4 + 1 : Nat) : Int)) (h5 : 0 ≤ x5) (h6 : x5 ≤ 120) (h7 : x5 = x2) (h8 : x5 < x3) (h9 : 0 ≤ x0) (h10 : x0 ≤ 120) (h11 : x0 = x2) (h12 : x1 = 2) (h13 : -2147483648 ≤ x0) (h14 : x0 ≤ 2147483647) (h15 : -2147483648 ≤ x1) (h16 : x1 ≤ 2147483647) (h17 : -2147483648 ≤ x2) (h18 : x2 ≤ 2147483647) (h19 : -2147483648 ≤ x3) (h20 : x3 ≤ 2147483647) (h21 : -2147483648 ≤ x5) (h22 : x5 ≤ 2147483647) : x0 + x1 ≤ 2147483647 := by omega
theorem o18_439 {x0 x1 x2 x3 x4 x6 x7 x8 x9 : Int} {x5 : Nat} (h0 : 0 ≤ x1) (h1 : x1 ≤ 10) (h2 : (-1) ≤ x2) (h3 : x2 ≤ 40) (h4 : x2 = x1) (h5 : 0 ≤ x3) (h6 : x3 ≤ 10) (h7 : 0 ≤ x4) (h8 : x4 ≤ 11) (h9 : 11 - x4 < ((x5 + 1 : Nat) : Int)) (h10 : 0 ≤ x6) (h11 : x6 ≤ 120) (h12 : x6 = x3) (h13 : x6 < x4) (h14 : 0 ≤ x7) (h15 : x7 ≤ 120) (h16 : x7 = x3) (h17 : x8 = 2) (h18 : x9 = x7 + x8) (h19 : (x0 = x9 ∧ x9 ≤ x2) ∨ (x0 = x2 ∧ x2 ≤ x9)) : 0 ≤ x0 := by omega
theorem o18_440 {x0 x1 x2 x3 x4 x6 x7 x8 x9 : Int} {x5 : Nat} (h0 : 0 ≤ x1) (h1 : x1 ≤ 10) (h2 : (-1) ≤ x2) (h3 : x2 ≤ 40) (h4 : x2 = x1) (h5 : 0 ≤ x3) (h6 : x3 ≤ 10) (h7 : 0 ≤ x4) (h8 : x4 ≤ 11) (h9 : 11 - x4 < ((x5 + 1 : Nat) : Int)) (h10 : 0 ≤ x6) (h11 : x6 ≤ 120) (h12 : x6 = x3) (h13 : x6 < x4) (h14 : 0 ≤ x7) (h15 : x7 ≤ 120) (h16 : x7 = x3) (h17 : x8 = 2) (h18 : x9 = x7 + x8) (h19 : (x0 = x9 ∧ x9 ≤ x2) ∨ (x0 = x2 ∧ x2 ≤ x9)) : x0 ≤ 120 := by omega
theorem o18_441 {x0 x1 : Int} {x2 : Nat} (h0 : 0 ≤ x1) (h1 : x1 ≤ 30) (h2 : 0 ≤ x0) (h3 : x0 ≤ 30) (h4 : 30 - x0 < ((x2 + 1 : Nat) : Int)) (h5 : x0 < x1) (h6 : -2147483648 ≤ x0) (h7 : x0 ≤ 2147483647) (h8 : -2147483648 ≤ x1) (h9 : x1 ≤ 2147483647) : -2147483648 ≤ x0 + 1 := by omega
theorem o18_442 {x0 x1 : Int} {x2 : Nat} (h0 : 0 ≤ x1) (h1 : x1 ≤ 30) (h2 : 0 ≤ x0) (h3 : x0 ≤ 30) (h4 : 30 - x0 < ((x2 + 1 : Nat) : Int)) (h5 : x0 < x1) (h6 : -2147483648 ≤ x0) (h7 : x0 ≤ 2147483647) (h8 : -2147483648 ≤ x1) (h9 : x1 ≤ 2147483647) : x0 + 1 ≤ 2147483647 := by omega
theorem o18_443 {x0 x2 x3 : Int} {x1 : Nat} (h0 : 0 ≤ x2) (h1 : x2 ≤ 30) (h2 : 0 ≤ x3) (h3 : x3 ≤ 30) (h4 : 30 - x3 < ((x1 + 1 : Nat) : Int)) (h5 : x3 < x2) (h6 : x0 = x3 + 1) : 30 - x0 < (x1 : Int) := by omega
theorem o18_444 {x0 x1 x2 : Int} {x3 : Nat} (h0 : 0 ≤ x1) (h1 : x1 ≤ 30) (h2 : 0 ≤ x2) (h3 : x2 ≤ 30) (h4 : 30 - x2 < ((x3 + 1 : Nat) : Int)) (h5 : x2 < x1) (h6 : x0 = x2 + 1) : 0 ≤ x0 := by omega
theorem o18_445 {x0 x1 x2 : Int} {x3 : Nat} (h0 : 0 ≤ x1) (h1 : x1 ≤ 30) (h2 : 0 ≤ x2) (h3 : x2 ≤ 30) (h4 : 30 - x2 < ((x3 + 1 : Nat) : Int)) (h5 : x2 < x1) (h6 : x0 = x2 + 1) : x0 ≤ 30 := by omega
theorem o18_446 {x0 x1 x2 x3 x4 x6 x7 x8 x9 : Int} {x5 : Nat} (h0 : 0 ≤ x1) (h1 : x1 ≤ 10) (h2 : (-1) ≤ x2) (h3 : x2 ≤ 40) (h4 : x2 = x1) (h5 : 0 ≤ x3) (h6 : x3 ≤ 10) (h7 : 0 ≤ x4) (h8 : x4 ≤ 11) (h9 : 11 - x4 < ((x5 + 1 : Nat) : Int)) (h10 : 0 ≤ x6) (h11 : x6 ≤ 120) (h12 : x6 = x3) (h13 : x6 < x4) (h14 : 0 ≤ x7) (h15 : x7 ≤ 120) (h16 : x7 = x3) (h17 : x8 = 2) (h18 : x9 = x7 + x8) (h19 : (x0 = x9 ∧ x9 ≤ x2) ∨ (x0 = x2 ∧ x2 ≤ x9)) : x0 ≤ 10 := by omega
theorem o18_447 {x0 x1 x3 : Int} {x2 : Nat} (h0 : 0 ≤ x1) (h1 : x1 ≤ 10) (h2 : 0 ≤ x0) (h3 : x0 ≤ 11) (h4 : 11 - x0 < ((x2 + 1 : Nat) : Int)) (h5 : 0 ≤ x3) (h6 : x3 ≤ 120) (h7 : x3 = x1) (h8 : x0 ≤ x3) (h9 : -2147483648 ≤ x0) (h10 : x0 ≤ 2147483647) (h11 : -2147483648 ≤ x1) (h12 : x1 ≤ 2147483647) (h13 : -2147483648 ≤ x3) (h14 : x3 ≤ 2147483647) : -2147483648 ≤ 4 * x0 := by omega
theorem o18_448 {x0 x1 x3 : Int} {x2 : Nat} (h0 : 0 ≤ x1) (h1 : x1 ≤ 10) (h2 : 0 ≤ x0) (h3 : x0 ≤ 11) (h4 : 11 - x0 < ((x2 + 1 : Nat) : Int)) (h5 : 0 ≤ x3) (h6 : x3 ≤ 120) (h7 : x3 = x1) (h8 : x0 ≤ x3) (h9 : -2147483648 ≤ x0) (h10 : x0 ≤ 2147483647) (h11 : -2147483648 ≤ x1) (h12 : x1 ≤ 2147483647) (h13 : -2147483648 ≤ x3) (h14 : x3 ≤ 2147483647) : 4 * x0 ≤ 2147483647 := by omega
theorem o18_449 {x0 x1 x2 x4 : Int} {x3 : Nat} (h0 : 0 ≤ x1) (h1 : x1 ≤ 10) (h2 : 0 ≤ x2) (h3 : x2 ≤ 11) (h4 : 11 - x2 < ((x3 + 1 : Nat) : Int)) (h5 : 0 ≤ x4) (h6 : x4 ≤ 120) (h7 : x4 = x1) (h8 : x2 ≤ x4) (h9 : x0 = 4 * x2) : 0 ≤ x0 := by omega
theorem o18_450 {x0 x1 x2 x4 : Int} {x3 : Nat} (h0 : 0 ≤ x1) (h1 : x1 ≤ 10) (h2 : 0 ≤ x2) (h3 : x2 ≤ 11) (h4 : 11 - x2 < ((x3 + 1 : Nat) : Int)) (h5 : 0 ≤ x4) (h6 : x4 ≤ 120) (h7 : x4 = x1) (h8 : x2 ≤ x4) (h9 : x0 = 4 * x2) : x0 ≤ 480 := by omega
theorem o18_451 {x0 x1 x3 x4 : Int} {x2 : Nat} (h0 : 0 ≤ x1) (h1 : x1 ≤ 10) (h2 : 0 ≤ x0) (h3 : x0 ≤ 11) (h4 : 11 - x0 < ((x2 + 1 : Nat) : Int)) (h5 : 0 ≤ x3) (h6 : x3 ≤ 120) (h7 : x3 = x1) (h8 : x0 ≤ x3) (h9 : x4 = 4 * x0) (h10 : -2147483648 ≤ x0) (h11 : x0 ≤ 2147483647) (h12 : -2147483648 ≤ x1) (h13 : x1 ≤ 2147483647) (h14 : -2147483648 ≤ x3) (h15 : x3 ≤ 2147483647) (h16 : -2147483648 ≤ x4) (h17 : x4 ≤ 2147483647) : -2147483648 ≤ 4 * x0 := by omega
theorem o18_452 {x0 x1 x3 x4 : Int} {x2 : Nat} (h0 : 0 ≤ x1) (h1 : x1 ≤ 10) (h2 : 0 ≤ x0) (h3 : x0 ≤ 11) (h4 : 11 - x0 < ((x2 + 1 : Nat) : Int)) (h5 : 0 ≤ x3) (h6 : x3 ≤ 120) (h7 : x3 = x1) (h8 : x0 ≤ x3) (h9 : x4 = 4 * x0) (h10 : -2147483648 ≤ x0) (h11 : x0 ≤ 2147483647) (h12 : -2147483648 ≤ x1) (h13 : x1 ≤ 2147483647) (h14 : -2147483648 ≤ x3) (h15 : x3 ≤ 2147483647) (h16 : -2147483648 ≤ x4) (h17 : x4 ≤ 2147483647) : 4 * x0 ≤ 2147483647 := by omega
theorem o18_453 {x0 x1 x3 x4 x5 : Int} {x2 : Nat} (h0 : 0 ≤ x1) (h1 : x1 ≤ 10) (h2 : 0 ≤ x0) (h3 : x0 ≤ 11) (h4 : 11 - x0 < ((x2 + 1 : Nat) : Int)) (h5 : 0 ≤ x3) (h6 : x3 ≤ 120) (h7 : x3 = x1) (h8 : x0 ≤ x3) (h9 : x4 = 4 * x0) (h10 : x5 = 4 * x0) (h11 : -2147483648 ≤ x0) (h12 : x0 ≤ 2147483647) (h13 : -2147483648 ≤ x1) (h14 : x1 ≤ 2147483647) (h15 : -2147483648 ≤ x3) (h16 : x3 ≤ 2147483647) (h17 : -2147483648 ≤ x4) (h18 : x4 ≤ 2147483647) (h19 : -2147483648 ≤ x5) (h20 : x5 ≤ 2147483647) : -2147483648 ≤ 4 * x0 := by omega
theorem o18_454 {x0 x1 x3 x4 x5 : Int} {x2 : Nat} (h0 : 0 ≤ x1) (h1 : x1 ≤ 10) (h2 : 0 ≤ x0) (h3 : x0 ≤ 11) (h4 : 11 - x0 < ((x2 + 1 : Nat) : Int)) (h5 : 0 ≤ x3) (h6 : x3 ≤ 120) (h7 : x3 = x1) (h8 : x0 ≤ x3) (h9 : x4 = 4 * x0) (h10 : x5 = 4 * x0) (h11 : -2147483648 ≤ x0) (h12 : x0 ≤ 2147483647) (h13 : -2147483648 ≤ x1) (h14 : x1 ≤ 2147483647) (h15 : -2147483648 ≤ x3) (h16 : x3 ≤ 2147483647) (h17 : -2147483648 ≤ x4) (h18 : x4 ≤ 2147483647) (h19 : -2147483648 ≤ x5) (h20 : x5 ≤ 2147483647) : 4 * x0 ≤ 2147483647 := by omega
theorem o18_455 {x0 x1 x2 x4 x5 x6 : Int} {x3 : Nat} (h0 : 0 ≤ x1) (h1 : x1 ≤ 10) (h2 : 0 ≤ x2) (h3 : x2 ≤ 11) (h4 : 11 - x2 < ((x3 + 1 : Nat) : Int)) (h5 : 0 ≤ x4) (h6 : x4 ≤ 120) (h7 : x4 = x1) (h8 : x2 ≤ x4) (h9 : x5 = 4 * x2) (h10 : x0 = 4 * x2) (h11 : x6 = 4 * x2) : 0 ≤ x0 := by omega
theorem o18_456 {x0 x1 x2 x4 x5 x6 : Int} {x3 : Nat} (h0 : 0 ≤ x1) (h1 : x1 ≤ 10) (h2 : 0 ≤ x2) (h3 : x2 ≤ 11) (h4 : 11 - x2 < ((x3 + 1 : Nat) : Int)) (h5 : 0 ≤ x4) (h6 : x4 ≤ 120) (h7 : x4 = x1) (h8 : x2 ≤ x4) (h9 : x5 = 4 * x2) (h10 : x0 = 4 * x2) (h11 : x6 = 4 * x2) : x0 ≤ 480 := by omega
theorem o18_457 {x0 x1 x2 x4 x5 x6 : Int} {x3 : Nat} (h0 : 0 ≤ x1) (h1 : x1 ≤ 10) (h2 : 0 ≤ x2) (h3 : x2 ≤ 11) (h4 : 11 - x2 < ((x3 + 1 : Nat) : Int)) (h5 : 0 ≤ x4) (h6 : x4 ≤ 120) (h7 : x4 = x1) (h8 : x2 ≤ x4) (h9 : x5 = 4 * x2) (h10 : x6 = 4 * x2) (h11 : x0 = 4 * x2) : 0 ≤ x0 := by omega
theorem o18_458 {x0 x1 x2 x4 x5 x6 : Int} {x3 : Nat} (h0 : 0 ≤ x1) (h1 : x1 ≤ 10) (h2 : 0 ≤ x2) (h3 : x2 ≤ 11) (h4 : 11 - x2 < ((x3 + 1 : Nat) : Int)) (h5 : 0 ≤ x4) (h6 : x4 ≤ 120) (h7 : x4 = x1) (h8 : x2 ≤ x4) (h9 : x5 = 4 * x2) (h10 : x6 = 4 * x2) (h11 : x0 = 4 * x2) : x0 ≤ 480 := by omega
theorem o18_459 {x0 x1 x3 x4 x5 x6 : Int} {x2 : Nat} (h0 : 0 ≤ x1) (h1 : x1 ≤ 10) (h2 : 0 ≤ x0) (h3 : x0 ≤ 11) (h4 : 11 - x0 < ((x2 + 1 : Nat) : Int)) (h5 : 0 ≤ x3) (h6 : x3 ≤ 120) (h7 : x3 = x1) (h8 : x0 ≤ x3) (h9 : x4 = 4 * x0) (h10 : x5 = 4 * x0) (h11 : x6 = 4 * x0) (h12 : -2147483648 ≤ x0) (h13 : x0 ≤ 2147483647) (h14 : -2147483648 ≤ x1) (h15 : x1 ≤ 2147483647) (h16 : -2147483648 ≤ x3) (h17 : x3 ≤ 2147483647) (h18 : -2147483648 ≤ x4) (h19 : x4 ≤ 2147483647) (h20 : -2147483648 ≤ x5) (h21 : x5 ≤ 2147483647) (h22 : -2147483648 ≤ x6) (h23 : x6 ≤ 2147483647) : -2147483648 ≤ 4 * x0 := by omega
theorem o18_460 {x0 x1 x3 x4 x5 x6 : Int} {x2 : Nat} (h0 : 0 ≤ x1) (h1 : x1 ≤ 10) (h2 : 0 ≤ x0) (h3 : x0 ≤ 11) (h4 : 11 - x0 < ((x2 + 1 : Nat) : Int)) (h5 : 0 ≤ x3) (h6 : x3 ≤ 120) (h7 : x3 = x1) (h8 : x0 ≤ x3) (h9 : x4 = 4 * x0) (h10 : x5 = 4 * x0) (h11 : x6 = 4 * x0) (h12 : -2147483648 ≤ x0) (h13 : x0 ≤ 2147483647) (h14 : -2147483648 ≤ x1) (h15 : x1 ≤ 2147483647) (h16 : -2147483648 ≤ x3) (h17 : x3 ≤ 2147483647) (h18 : -2147483648 ≤ x4) (h19 : x4 ≤ 2147483647) (h20 : -2147483648 ≤ x5) (h21 : x5 ≤ 2147483647) (h22 : -2147483648 ≤ x6) (h23 : x6 ≤ 2147483647) : 4 * x0 ≤ 2147483647 := by omega
theorem o18_461 {x0 x1 x3 x4 x5 x6 x7 : Int} {x2 : Nat} (h0 : 0 ≤ x1) (h1 : x1 ≤ 10) (h2 : 0 ≤ x0) (h3 : x0 ≤ 11) (h4 : 11 - x0 < ((x2 + 1 : Nat) : Int)) (h5 : 0 ≤ x3) (h6 : x3 ≤ 120) (h7 : x3 = x1) (h8 : x0 ≤ x3) (h9 : x4 = 4 * x0) (h10 : x5 = 4 * x0) (h11 : x6 = 4 * x0) (h12 : x7 = 4 * x0) (h13 : -2147483648 ≤ x0) (h14 : x0 ≤ 2147483647) (h15 : -2147483648 ≤ x1) (h16 : x1 ≤ 2147483647) (h17 : -2147483648 ≤ x3) (h18 : x3 ≤ 2147483647) (h19 : -2147483648 ≤ x4) (h20 : x4 ≤ 2147483647) (h21 : -2147483648 ≤ x5) (h22 : x5 ≤ 2147483647) (h23 : -2147483648 ≤ x6) (h24 : x6 ≤ 2147483647) (h25 : -2147483648 ≤ x7) (h26 : x7 ≤ 2147483647) : -2147483648 ≤ 4 * x0 := by omega
theorem o18_462 {x0 x1 x3 x4 x5 x6 x7 : Int} {x2 : Nat} (h0 : 0 ≤ x1) (h1 : x1 ≤ 10) (h2 : 0 ≤ x0) (h3 : x0 ≤ 11) (h4 : 11 - x0 < ((x2 + 1 : Nat) : Int)) (h5 : 0 ≤ x3) (h6 : x3 ≤ 120) (h7 : x3 = x1) (h8 : x0 ≤ x3) (h9 : x4 = 4 * x0) (h10 : x5 = 4 * x0) (h11 : x6 = 4 * x0) (h12 : x7 = 4 * x0) (h13 : -2147483648 ≤ x0) (h14 : x0 ≤ 2147483647) (h15 : -2147483648 ≤ x1) (h16 : x1 ≤ 2147483647) (h17 : -2147483648 ≤ x3) (h18 : x3 ≤ 2147483647) (h19 : -2147483648 ≤ x4) (h20 : x4 ≤ 2147483647) (h21 : -2147483648 ≤ x5) (h22 : x5 ≤ 2147483647) (h23 : -2147483648 ≤ x6) (h24 : x6 ≤ 2147483647) (h25 : -2147483648 ≤ x7) (h26 : x7 ≤ 2147483647) : 4 * x0 ≤ 2147483647 := by omega
theorem o18_463 {x0 x1 x2 x4 x5 x6 x7 x8 : Int} {x3 : Nat} (h0 : 0 ≤ x1) (h1 : x1 ≤ 10) (h2 : 0 ≤ x2) (h3 : x2 ≤ 11) (h4 : 11 - x2 < ((x3 + 1 : Nat) : Int)) (h5 : 0 ≤ x4) (h6 : x4 ≤ 120) (h7 : x4 = x1) (h8 : x2 ≤ x4) (h9 : x5 = 4 * x2) (h10 : x6 = 4 * x2) (h11 : x7 = 4 * x2) (h12 : x0 = 4 * x2) (h13 : x8 = 4 * x2) : 0 ≤ x0 := by omega
theorem o18_464 {x0 x1 x2 x4 x5 x6 x7 x8 : Int} {x3 : Nat} (h0 : 0 ≤ x1) (h1 : x1 ≤ 10) (h2 : 0 ≤ x2) (h3 : x2 ≤ 11) (h4 : 11 - x2 < ((x3 + 1 : Nat) : Int)) (h5 : 0 ≤ x4) (h6 : x4 ≤ 120) (h7 : x4 = x1) (h8 : x2 ≤ x4) (h9 : x5 = 4 * x2) (h10 : x6 = 4 * x2) (h11 : x7 = 4 * x2) (h12 : x0 = 4 * x2) (h13 : x8 = 4 * x2) : x0 ≤ 480 := by omega
theorem o18_465 {x0 x1 x2 x4 x5 x6 x7 x8 : Int} {x3 : Nat} (h0 : 0 ≤ x1) (h1 : x1 ≤ 10) (h2 : 0 ≤ x2) (h3 : x2 ≤ 11) (h4 : 11 - x2 < ((x3 + 1 : Nat) : Int)) (h5 : 0 ≤ x4) (h6 : x4 ≤ 120) (h7 : x4 = x1) (h8 : x2 ≤ x4) (h9 : x5 = 4 * x2) (h10 : x6 = 4 * x2) (h11 : x7 = 4 * x2) (h12 : x8 = 4 * x2) (h13 : x0 = 4 * x2) : 0 ≤ x0 := by omega
theorem o18_466 {x0 x1 x2 x4 x5 x6 x7 x8 : Int} {x3 : Nat} (h0 : 0 ≤ x1) (h1 : x1 ≤ 10) (h2 : 0 ≤ x2) (h3 : x2 ≤ 11) (h4 : 11 - x2 < ((x3 + 1 : Nat) : Int)) (h5 : 0 ≤ x4) (h6 : x4 ≤ 120) (h7 : x4 = x1) (h8 : x2 ≤ x4) (h9 : x5 = 4 * x2) (h10 : x6 = 4 * x2) (h11 : x7 = 4 * x2) (h12 : x8 = 4 * x2) (h13 : x0 = 4 * x2) : x0 ≤ 480 := by omega
theorem o18_467 {x0 x1 x3 x4 x5 x6 x7 x8 : Int} {x2 : Nat} (h0 : 0 ≤ x1) (h1 : x1 ≤ 10) (h2 : 0 ≤ x0) (h3 : x0 ≤ 11) (h4 : 11 - x0 < ((x2 + 1 : Nat) : Int)) (h5 : 0 ≤ x3) (h6 : x3 ≤ 120) (h7 : x3 = x1) (h8 : x0 ≤ x3) (h9 : x4 = 4 * x0) (h10 : x5 = 4 * x0) (h11 : x6 = 4 * x0) (h12 : x7 = 4 * x0) (h13 : x8 = 4 * x0) : 0 ≤ x0 := by omega
theorem o18_468 {x0 x1 x3 x4 x5 x6 x7 x8 : Int} {x2 : Nat} (h0 : 0 ≤ x1) (h1 : x1 ≤ 10) (h2 : 0 ≤ x0) (h3 : x0 ≤ 11) (h4 : 11 - x0 < ((x2 + 1 : Nat) : Int)) (h5 : 0 ≤ x3) (h6 : x3 ≤ 120) (h7 : x3 = x1) (h8 : x0 ≤ x3) (h9 : x4 = 4 * x0) (h10 : x5 = 4 * x0) (h11 : x6 = 4 * x0) (h12 : x7 = 4 * x0) (h13 : x8 = 4 * x0) : x0 ≤ 10 := by omega
theorem o18_469 {x0 x1 x3 x4 x5 x6 x7 x8 : Int} {x2 : Nat} (h0 : 0 ≤ x1) (h1 : x1 ≤ 10) (h2 : 0 ≤ x0) (h3 : x0 ≤ 11) (h4 : 11 - x0 < ((x2 + 1 : Nat) : Int)) (h5 : 0 ≤ x3) (h6 : x3 ≤ 120) (h7 : x3 = x1) (h8 : x0 ≤ x3) (h9 : x4 = 4 * x0) (h10 : x5 = 4 * x0) (h11 : x6 = 4 * x0) (h12 : x7 = 4 * x0) (h13 : x8 = 4 * x0) (h14 : -2147483648 ≤ x0) (h15 : x0 ≤ 2147483647) (h16 : -2147483648 ≤ x1) (h17 : x1 ≤ 2147483647) (h18 : -2147483648 ≤ x3) (h19 : x3 ≤ 2147483647) (h20 : -2147483648 ≤ x4) (h21 : x4 ≤ 2147483647) (h22 : -2147483648 ≤ x5) (h23 : x5 ≤ 2147483647) (h24 : -2147483648 ≤ x6) (h25 : x6 ≤ 2147483647) (h26 : -2147483648 ≤ x7) (h27 : x7 ≤ 2147483647) (h28 : -2147483648 ≤ x8) (h29 : x8 ≤ 2147483647) : -2147483648 ≤ x0 + 1 := by omega
theorem o18_470 {x0 x1 x3 x4 x5 x6 x7 x8 : Int} {x2 : Nat} (h0 : 0 ≤ x1) (h1 : x1 ≤ 10) (h2 : 0 ≤ x0) (h3 : x0 ≤ 11) (h4 : 11 - x0 < ((x2 + 1 : Nat) : Int)) (h5 : 0 ≤ x3) (h6 : x3 ≤ 120) (h7 : x3 = x1) (h8 : x0 ≤ x3) (h9 : x4 = 4 * x0) (h10 : x5 = 4 * x0) (h11 : x6 = 4 * x0) (h12 : x7 = 4 * x0) (h13 : x8 = 4 * x0) (h14 : -2147483648 ≤ x0) (h15 : x0 ≤ 2147483647) (h16 : -2147483648 ≤ x1) (h17 : x1 ≤ 2147483647) (h18 : -2147483648 ≤ x3) (h19 : x3 ≤ 2147483647) (h20 : -2147483648 ≤ x4) (h21 : x4 ≤ 2147483647) (h22 : -2147483648 ≤ x5) (h23 : x5 ≤ 2147483647) (h24 : -2147483648 ≤ x6) (h25 : x6 ≤ 2147483647) (h26 : -2147483648 ≤ x7) (h27 : x7 ≤ 2147483647) (h28 : -2147483648 ≤ x8) (h29 : x8 ≤ 2147483647) : x0 + 1 ≤ 2147483647 := by omega
theorem o18_471 {x0 x2 x3 x4 x5 x6 x7 x8 x9 : Int} {x1 : Nat} (h0 : 0 ≤ x2) (h1 : x2 ≤ 10) (h2 : 0 ≤ x3) (h3 : x3 ≤ 11) (h4 : 11 - x3 < ((x1 + 1 : Nat) : Int)) (h5 : 0 ≤ x4) (h6 : x4 ≤ 120) (h7 : x4 = x2) (h8 : x3 ≤ x4) (h9 : x5 = 4 * x3) (h10 : x6 = 4 * x3) (h11 : x7 = 4 * x3) (h12 : x8 = 4 * x3) (h13 : x9 = 4 * x3) (h14 : x0 = x3 + 1) : 11 - x0 < (x1 : Int) := by omega
theorem o18_472 {x0 x1 x2 x4 x5 x6 x7 x8 x9 : Int} {x3 : Nat} (h0 : 0 ≤ x1) (h1 : x1 ≤ 10) (h2 : 0 ≤ x2) (h3 : x2 ≤ 11) (h4 : 11 - x2 < ((x3 + 1 : Nat) : Int)) (h5 : 0 ≤ x4) (h6 : x4 ≤ 120) (h7 : x4 = x1) (h8 : x2 ≤ x4) (h9 : x5 = 4 * x2) (h10 : x6 = 4 * x2) (h11 : x7 = 4 * x2) (h12 : x8 = 4 * x2) (h13 : x9 = 4 * x2) (h14 : x0 = x2 + 1) : 0 ≤ x0 := by omega
theorem o18_473 {x0 x1 x2 x4 x5 x6 x7 x8 x9 : Int} {x3 : Nat} (h0 : 0 ≤ x1) (h1 : x1 ≤ 10) (h2 : 0 ≤ x2) (h3 : x2 ≤ 11) (h4 : 11 - x2 < ((x3 + 1 : Nat) : Int)) (h5 : 0 ≤ x4) (h6 : x4 ≤ 120) (h7 : x4 = x1) (h8 : x2 ≤ x4) (h9 : x5 = 4 * x2) (h10 : x6 = 4 * x2) (h11 : x7 = 4 * x2) (h12 : x8 = 4 * x2) (h13 : x9 = 4 * x2) (h14 : x0 = x2 + 1) : x0 ≤ 11 := by omega
theorem o18_474 {x0 : Int} (h0 : x0 = 0) : 11 - x0 < (((11 - x0 + 1).toNat : Nat) : Int) := by omega
theorem o18_475 {x0 : Int} (h0 : x0 = 0) : x0 ≤ 11 := by omega
theorem o18_476 {x0 : Int} (h0 : x0 = 0) : 30 - x0 < (((30 - x0 + 1).toNat : Nat) : Int) := by omega
theorem o18_477 {x0 : Int} (h0 : x0 = 0) : x0 ≤ 30 := by omega
theorem o18_478 {x0 : Int} (h0 : 0 ≤ x0) (h1 : x0 ≤ 0) : 0 ≤ x0 := by omega
theorem o18_479 {x0 : Int} (h0 : 0 ≤ x0) (h1 : x0 ≤ 0) : x0 ≤ 10 := by omega
noncomputable def g1w_X2_forget (s : XS) : XR := (s, 0)
noncomputable def f_X2_forget (s : XS) : XR := g1w_X2_forget (xup s 0 79 4 0)
set_option maxHeartbeats 4000000 in
set_option maxRecDepth 100000 in
theorem c_X2_forget (l : Launch) (G : GG) (Z : RZ) (ad : Nat → Nat) (ws0 : va_W) (hT : Ty G SC ad ws0) : Mq l yX2_forget cX2_forget 1 none 1 G Z [.ref (ad 79)] ws0 (PV G SC ad [18] ws0 (fun u => (xso SC ad u = (f_X2_forget (xso SC ad ws0)).1))) := by
  refine Mq.start (by decide) (Nat.le_of_ble_eq_true rfl) ?_
  intro p e s m below meth c A ls C0 hZ h hl
  have hl : lv_has ls 1 [(0, .ref (ad 79))] := hl
  have h : Wt G SC ad A s s.heap [] ws0 := ⟨h, hT⟩
  obtain ⟨args, hargs⟩ : ∃ z, z = ([.ref (ad 79)] : List Value).toArray := ⟨_, rfl⟩
  rw [← hargs] at C0 ⊢
  have C0 : Cx p s m args meth c RX2 cX2_forget 1 none := C0
  obtain ⟨Q, hQ⟩ : ∃ z, z = MQ below ((PV G SC ad [18] ws0 (fun u => (xso SC ad u = (f_X2_forget (xso SC ad ws0)).1))) A) args s 0 0 A := ⟨_, rfl⟩
  rw [← hQ]
  obtain ⟨FT, hFT⟩ : ∃ z, z = f_X2_forget (xso SC ad ws0) := ⟨_, rfl⟩
  have HE : FT = f_X2_forget (xso SC ad ws0) := hFT
  refine lv_aload_n C0.1 C0.2.1 dX2_forget_0 rfl (lv_at hl 0 rfl) ?_
  refine y_c1 (n := 0) C0 (by decide) dX2_forget_1 (fun v_1 e_2 => ?_)
  refine tp_X2_begun C0 h kSC_79 q_296 (o18_1 e_2) (o18_2 e_2) dX2_forget_2 (fun H locs ws_3 h u_4 Xu_4 => ?_)
  replace HE : FT = g1w_X2_forget (xso SC ad ws_3) := HE.trans (by rw [Xu_4, e_2]; rfl)
  replace HE : FT = ((xso SC ad ws_3), 0) := HE.trans rfl
  rw [hQ]
  exact y_vret C0 h (Fr.up u_4.1 kSC_79 (by decide)) (congrArg Prod.fst (HE.symm.trans hFT)) dX2_forget_5
noncomputable def g4_X2_beginUpTo (s : XS) : XR := (s, 0)
noncomputable def g13w_X2_beginUpTo (R0 : XS → Int → XR) (s : XS) (a1 : Int) : XR := R0 s a1
noncomputable def g11_X2_beginUpTo (R0 : XS → Int → XR) (s : XS) (a1 : Int) : XR := g13w_X2_beginUpTo R0 (xup s 0 79 4 ((s 0 79 4) + 1)) a1
noncomputable def g15w_X2_beginUpTo (R0 : XS → Int → XR) (R41 : XS → Int → Int → XR) (s : XS) (a1 : Int) (x2_44 : Int) : XR := R41 s a1 ((x2_44 + 1))
noncomputable def g14w_X2_beginUpTo (R0 : XS → Int → XR) (R41 : XS → Int → Int → XR) (s : XS) (a1 : Int) (x2_44 : Int) : XR := g15w_X2_beginUpTo R0 R41 (xup s 1 82 (Int.toNat ((4 * (s 0 79 4)) + x2_44)) (0)) a1 x2_44
noncomputable def g12_X2_beginUpTo (R0 : XS → Int → XR) (R41 : XS → Int → Int → XR) (s : XS) (a1 : Int) (x2_44 : Int) : XR := g14w_X2_beginUpTo R0 R41 (xup s 1 81 (Int.toNat ((4 * (s 0 79 4)) + x2_44)) (0)) a1 x2_44
noncomputable def g10b_X2_beginUpTo (R0 : XS → Int → XR) (R41 : XS → Int → Int → XR) (s : XS) (x2_44 : Int) (a1 : Int) : XR := if x2_44 < 4 then g12_X2_beginUpTo R0 R41 s a1 x2_44 else g11_X2_beginUpTo R0 s a1
noncomputable def g9l_X2_beginUpTo (R0 : XS → Int → XR) (R41 : XS → Int → Int → XR) (s : XS) (a1 : Int) (x2_44 : Int) : XR := g10b_X2_beginUpTo R0 R41 s x2_44 a1
noncomputable def L8_X2_beginUpTo (R0 : XS → Int → XR) (n : Nat) : XS → Int → Int → XR := Nat.rec (motive := fun _ => XS → Int → Int → XR) (fun s _ _ => (s, 0)) (fun _ R41 => g9l_X2_beginUpTo R0 R41) n
noncomputable def g7w_X2_beginUpTo (R0 : XS → Int → XR) (s : XS) (a1 : Int) : XR := L8_X2_beginUpTo R0 (Int.toNat (4 - 0 + 1)) s a1 0
noncomputable def g6c_X2_beginUpTo (R0 : XS → Int → XR) (s : XS) (r_36 : Int) (v_17 : Int) (a1 : Int) : XR := g7w_X2_beginUpTo R0 (xup s 1 80 (Int.toNat v_17) (r_36)) a1
noncomputable def g5_X2_beginUpTo (R0 : XS → Int → XR) (s : XS) (a1 : Int) : XR := g6c_X2_beginUpTo R0 ((f_X0_freeBits s 1 (Xiadd (s 0 10 8) (s 0 79 4))).1) (((f_X0_freeBits s 1 (Xiadd (s 0 10 8) (s 0 79 4))).2)) ((s 0 79 4)) a1
noncomputable def g3b_X2_beginUpTo (R0 : XS → Int → XR) (s : XS) (a1 : Int) (v_11 : Int) : XR := if a1 < v_11 then g4_X2_beginUpTo s else g5_X2_beginUpTo R0 s a1
noncomputable def g2l_X2_beginUpTo (R0 : XS → Int → XR) (s : XS) (a1 : Int) : XR := g3b_X2_beginUpTo R0 s a1 ((s 0 79 4))
noncomputable def L1_X2_beginUpTo (n : Nat) : XS → Int → XR := Nat.rec (motive := fun _ => XS → Int → XR) (fun s _ => (s, 0)) (fun _ R0 => g2l_X2_beginUpTo R0) n
noncomputable def f_X2_beginUpTo (s : XS) (a1 : Int) : XR := L1_X2_beginUpTo (Int.toNat (240 - (s 0 79 4) + 1)) s a1
set_option maxHeartbeats 4000000 in
set_option maxRecDepth 100000 in
theorem c_X2_beginUpTo (l : Launch) (G : GG) (Z : RZ) (ad : Nat → Nat) (ws0 : va_W) (hT : Ty G SC ad ws0) (a1 : Int32) (l1 : 0 ≤ a1.toInt) (u1 : a1.toInt ≤ 239) : Mq l yX2_beginUpTo cX2_beginUpTo 3 none 2 G Z [.ref (ad 79), .int a1] ws0 (PV G SC ad [18, 19, 20, 21] ws0 (fun u => (xso SC ad u = (f_X2_beginUpTo (xso SC ad ws0) a1.toInt).1))) := by
  refine Mq.start (by decide) (Nat.le_of_ble_eq_true rfl) ?_
  intro p e s m below meth c A ls C0 hZ h hl
  have hl : lv_has ls 3 [(0, .ref (ad 79)), (1, .int a1)] := hl
  have h : Wt G SC ad A s s.heap [] ws0 := ⟨h, hT⟩
  obtain ⟨args, hargs⟩ : ∃ z, z = ([.ref (ad 79), .int a1] : List Value).toArray := ⟨_, rfl⟩
  rw [← hargs] at C0 ⊢
  have C0 : Cx p s m args meth c RX2 cX2_beginUpTo 3 none := C0
  obtain ⟨Q, hQ⟩ : ∃ z, z = MQ below ((PV G SC ad [18, 19, 20, 21] ws0 (fun u => (xso SC ad u = (f_X2_beginUpTo (xso SC ad ws0) a1.toInt).1))) A) args s 0 0 A := ⟨_, rfl⟩
  rw [← hQ]
  obtain ⟨FT, hFT⟩ : ∃ z, z = f_X2_beginUpTo (xso SC ad ws0) a1.toInt := ⟨_, rfl⟩
  have HE : FT = f_X2_beginUpTo (xso SC ad ws0) a1.toInt := hFT
  have lp_3 : ∀ (n_5 : Nat) (f_7 : Int32) (H : Heap) (locs : List Loc) (ls : Array Slot) (ws_1 : va_W), 240 - f_7.toInt < (n_5 : Int) → 0 ≤ f_7.toInt → f_7.toInt ≤ 240 → (FT = L1_X2_beginUpTo n_5 (xso SC ad ws_1) a1.toInt) → fI ws_1 79 4 = f_7 → Wt G SC ad A s H locs ws_1 → Fr SC [18, 19, 20, 21] ws0 ws_1 → lv_has ls 3 [(0, .ref (ad 79)), (1, .int a1)] → W p l e (rmd 2 0 0) s m args below meth c H locs 0 0 Q (F0 m 0 ls []) := by
    intro n_5
    induction n_5 with
    | zero => intro f_7 H locs ls ws_1 hn_6 b_9 b_10 HE e_8 h hF_2 hl; exact ((o18_3 b_9 b_10 hn_6)).elim
    | succ n_5 ih_4 =>
      intro f_7 H locs ls ws_1 hn_6 b_9 b_10 HE e_8 h hF_2 hl
      obtain ⟨R0, hR0⟩ : ∃ z, z = L1_X2_beginUpTo n_5 := ⟨_, rfl⟩
      replace HE : FT = g2l_X2_beginUpTo R0 (xso SC ad ws_1) a1.toInt := HE.trans (by rw [hR0]; rfl)
      refine lv_aload_n C0.1 C0.2.1 dX2_beginUpTo_0 rfl (lv_at hl 0 rfl) ?_
      refine tg_X2_begun C0 h kSC_79 q_296 dX2_beginUpTo_1 (fun v_11 e_12 e_13 e_14 => ?_)
      have qh_15 : v_11.toInt = f_7.toInt := congrArg Int32.toInt (e_12.symm.trans (Eq.trans rfl e_8))
      refine lv_iload_n C0.1 C0.2.1 dX2_beginUpTo_4 rfl (lv_at hl 1 rfl) ?_
      replace HE : FT = g3b_X2_beginUpTo R0 (xso SC ad ws_1) a1.toInt v_11.toInt := HE.trans (by rw [(xg0 e_12 : v_11.toInt = (xso SC ad ws_1) 0 79 4)]; rfl)
      refine y_icmp_gt (tgt := 93) C0 dX2_beginUpTo_5 (by decide) (fun c_16 => ?_) (fun c_16 => ?_)
      · -- 5
        replace HE : FT = g4_X2_beginUpTo (xso SC ad ws_1) := HE.trans (if_pos c_16)
        replace HE : FT = ((xso SC ad ws_1), 0) := HE.trans rfl
        rw [hQ]
        exact y_vret C0 h hF_2 (congrArg Prod.fst (HE.symm.trans hFT)) dX2_beginUpTo_93
      · -- 5
        replace HE : FT = g5_X2_beginUpTo R0 (xso SC ad ws_1) a1.toInt := HE.trans (if_neg (Int.not_lt.mpr c_16))
        refine lv_aload_n C0.1 C0.2.1 dX2_beginUpTo_8 rfl (lv_at hl 0 rfl) ?_
        refine tg_X2_free C0 h kSC_79 q_293 dX2_beginUpTo_9 ?_
        refine lv_aload_n C0.1 C0.2.1 dX2_beginUpTo_12 rfl (lv_at hl 0 rfl) ?_
        refine tg_X2_begun C0 h kSC_79 q_296 dX2_beginUpTo_13 (fun v_17 e_18 e_19 e_20 => ?_)
        have qh_21 : v_17.toInt = f_7.toInt := congrArg Int32.toInt (e_18.symm.trans (Eq.trans rfl e_8))
        refine lv_aload_n C0.1 C0.2.1 dX2_beginUpTo_16 rfl (lv_at hl 0 rfl) ?_
        refine tg_X2_city C0 h kSC_79 q_292 dX2_beginUpTo_17 ?_
        refine lv_aload_n C0.1 C0.2.1 dX2_beginUpTo_20 rfl (lv_at hl 0 rfl) ?_
        refine tg_X2_city C0 h kSC_79 q_292 dX2_beginUpTo_21 ?_
        refine tg_X0_folk C0 h kSC_1 q_248 dX2_beginUpTo_24 ?_
        refine tg_X1_hours C0 h kSC_10 q_218 dX2_beginUpTo_27 (fun v_22 e_23 e_24 e_25 => ?_)
        refine lv_aload_n C0.1 C0.2.1 dX2_beginUpTo_30 rfl (lv_at hl 0 rfl) ?_
        refine tg_X2_begun C0 h kSC_79 q_296 dX2_beginUpTo_31 (fun v_26 e_27 e_28 e_29 => ?_)
        have qh_30 : v_26.toInt = f_7.toInt := congrArg Int32.toInt (e_27.symm.trans (Eq.trans rfl e_8))
        refine xr_iadd C0 dX2_beginUpTo_34 (fun v_31 e_32 => ?_)
        refine y_ci h (y_rV (As := [.int v_31]) (rest := [.int v_17, .ref (ad 80)]) C0 hZ h (c_X0_freeBits l G Z ad _ h.2 1 kSC_1 v_31) k_X0_freeBits q_948 q_949 q_1102 kSC_1 rfl rfl rfl hl.1 rfl rfl (Nat.le_of_ble_eq_true rfl) dX2_beginUpTo_35 ⟨Nat.le_of_ble_eq_true rfl, Nat.le_of_ble_eq_true rfl⟩ ⟨Nat.le_of_ble_eq_true rfl, Nat.le_of_ble_eq_true rfl⟩) (fun r_36 H locs ws_33 h u_34 p_35 => ?_)
        obtain ⟨e_37, e_38⟩ := p_35
        replace HE : FT = g6c_X2_beginUpTo R0 (xso SC ad ws_33) r_36.toInt v_17.toInt a1.toInt := HE.trans (by rw [e_37, (xg0 e_18 : v_17.toInt = (xso SC ad ws_1) 0 79 4), e_38, e_32, (xg0 e_27 : v_26.toInt = (xso SC ad ws_1) 0 79 4), (xg0 e_23 : v_22.toInt = (xso SC ad ws_1) 0 10 8)]; rfl)
        have hO_41 := h.2
        refine y_iast C0 h kSC_80 rfl (by decide) (o18_4 l1 u1 b_9 b_10 hn_6 e_13 e_14 qh_15 c_16 e_19 e_20 qh_21 e_28 e_29 qh_30) (o18_5 l1 u1 b_9 b_10 hn_6 e_13 e_14 qh_15 c_16 e_19 e_20 qh_21 e_28 e_29 qh_30) (le_min r_36) (le_max r_36) dX2_beginUpTo_38 (fun H locs ws_39 h u_40 => ?_)
        replace HE : FT = g7w_X2_beginUpTo R0 (xso SC ad ws_39) a1.toInt := HE.trans (by rw [(xso_A (i := 80) hO_41 h.2 kSC_80 rfl u_40)]; rfl)
        refine y_c1 (n := 0) C0 (by decide) dX2_beginUpTo_39 (fun v_42 e_43 => ?_)
        refine lv_istore_n (lv' := [(2, .int v_42), (0, .ref (ad 79)), (1, .int a1)]) C0.1 C0.2.1 dX2_beginUpTo_40 rfl hl (by decide) rfl (fun ls hl => ?_)
        have lp_47 : ∀ (n_49 : Nat) (x2_44 : Int32) (H : Heap) (locs : List Loc) (ls : Array Slot) (ws_45 : va_W), 4 - x2_44.toInt < (n_49 : Int) → 0 ≤ x2_44.toInt → x2_44.toInt ≤ 4 → (FT = L8_X2_beginUpTo R0 n_49 (xso SC ad ws_45) a1.toInt x2_44.toInt) → Wt G SC ad A s H locs ws_45 → Fr SC [20, 21] ws_39 ws_45 → lv_has ls 3 [(2, .int x2_44), (0, .ref (ad 79)), (1, .int a1)] → W p l e (rmd 2 0 0) s m args below meth c H locs 0 0 Q (F0 m 41 ls []) := by
          intro n_49
          induction n_49 with
          | zero => intro x2_44 H locs ls ws_45 hn_50 b_51 b_52 HE h hF_46 hl; exact ((o18_6 b_51 b_52 hn_50)).elim
          | succ n_49 ih_48 =>
            intro x2_44 H locs ls ws_45 hn_50 b_51 b_52 HE h hF_46 hl
            obtain ⟨R41, hR41⟩ : ∃ z, z = L8_X2_beginUpTo R0 n_49 := ⟨_, rfl⟩
            replace HE : FT = g9l_X2_beginUpTo R0 R41 (xso SC ad ws_45) a1.toInt x2_44.toInt := HE.trans (by rw [hR41]; rfl)
            refine lv_iload_n C0.1 C0.2.1 dX2_beginUpTo_41 rfl (lv_at hl 0 rfl) ?_
            refine y_c1 (n := 4) C0 (by decide) dX2_beginUpTo_42 (fun v_53 e_54 => ?_)
            replace HE : FT = g10b_X2_beginUpTo R0 R41 (xso SC ad ws_45) x2_44.toInt a1.toInt := HE.trans rfl
            refine y_icmp_ge (tgt := 80) C0 dX2_beginUpTo_43 (by decide) (fun c_55 => ?_) (fun c_55 => ?_)
            · -- 43
              replace HE : FT = g11_X2_beginUpTo R0 (xso SC ad ws_45) a1.toInt := HE.trans (if_neg (o18_8 b_51 b_52 hn_50 e_54 c_55))
              refine lv_aload_n C0.1 C0.2.1 dX2_beginUpTo_80 rfl (lv_at hl 1 rfl) ?_
              refine lv_dup C0.1 C0.2.1 dX2_beginUpTo_81 rfl ?_
              refine tg_X2_begun C0 h kSC_79 q_296 dX2_beginUpTo_82 (fun v_56 e_57 e_58 e_59 => ?_)
              have qh_60 : v_56.toInt = f_7.toInt := congrArg Int32.toInt (e_57.symm.trans (Eq.trans (Eq.trans (Fr.fI hF_46 kSC_79 (by decide)) (Eq.trans (fI_of (u_40.1 79 (kd_ne kSC_79 kSC_80 (by decide)))) (Fr.fI u_34 kSC_79 (by decide)))) e_8))
              refine y_c1 (n := 1) C0 (by decide) dX2_beginUpTo_85 (fun v_61 e_62 => ?_)
              refine y_add C0 (o18_10 l1 u1 b_9 b_10 hn_6 e_13 e_14 qh_15 c_16 e_19 e_20 qh_21 e_28 e_29 qh_30 e_58 e_59 qh_60 e_62 (le_min v_56) (le_max v_56) (le_min v_61) (le_max v_61) (le_min a1) (le_max a1) (le_min f_7) (le_max f_7) (le_min v_11) (le_max v_11) (le_min v_17) (le_max v_17) (le_min v_26) (le_max v_26)) (o18_11 l1 u1 b_9 b_10 hn_6 e_13 e_14 qh_15 c_16 e_19 e_20 qh_21 e_28 e_29 qh_30 e_58 e_59 qh_60 e_62 (le_min v_56) (le_max v_56) (le_min v_61) (le_max v_61) (le_min a1) (le_max a1) (le_min f_7) (le_max f_7) (le_min v_11) (le_max v_11) (le_min v_17) (le_max v_17) (le_min v_26) (le_max v_26)) dX2_beginUpTo_86 (fun v_63 e_64 => ?_)
              refine tp_X2_begun C0 h kSC_79 q_296 (o18_12 l1 u1 b_9 b_10 hn_6 e_13 e_14 qh_15 c_16 e_19 e_20 qh_21 e_28 e_29 qh_30 e_58 e_59 qh_60 e_62 e_64) (o18_13 l1 u1 b_9 b_10 hn_6 e_13 e_14 qh_15 c_16 e_19 e_20 qh_21 e_28 e_29 qh_30 e_58 e_59 qh_60 e_62 e_64) dX2_beginUpTo_87 (fun H locs ws_65 h u_66 Xu_66 => ?_)
              replace HE : FT = g13w_X2_beginUpTo R0 (xso SC ad ws_65) a1.toInt := HE.trans (by rw [Xu_66, e_64, e_62, (xg0 e_57 : v_56.toInt = (xso SC ad ws_45) 0 79 4)]; rfl)
              refine lv_goto (tgt := 0) C0.1 C0.2.1 dX2_beginUpTo_90 (by decide) ?_
              exact ih_4 v_63 _ _ _ _ (o18_14 l1 u1 b_9 b_10 hn_6 e_13 e_14 qh_15 c_16 e_19 e_20 qh_21 e_28 e_29 qh_30 e_58 e_59 qh_60 e_62 e_64) (o18_12 l1 u1 b_9 b_10 hn_6 e_13 e_14 qh_15 c_16 e_19 e_20 qh_21 e_28 e_29 qh_30 e_58 e_59 qh_60 e_62 e_64) (o18_13 l1 u1 b_9 b_10 hn_6 e_13 e_14 qh_15 c_16 e_19 e_20 qh_21 e_28 e_29 qh_30 e_58 e_59 qh_60 e_62 e_64) (((show FT = R0 (xso SC ad ws_65) a1.toInt from HE.trans rfl).trans (by rw [hR0]))) (Eq.trans rfl u_66.2.1) h (Fr.tr (Fr.tr (Fr.tr (Fr.tr hF_2 (Fr.mono u_34 (by decide))) (Fr.up u_40.1 kSC_80 (by decide))) (Fr.mono hF_46 (by decide))) (Fr.up u_66.1 kSC_79 (by decide))) (lv_sub hl [1, 2] rfl)
            · -- 43
              replace HE : FT = g12_X2_beginUpTo R0 R41 (xso SC ad ws_45) a1.toInt x2_44.toInt := HE.trans (if_pos (o18_9 b_51 b_52 hn_50 e_54 c_55))
              refine lv_aload_n C0.1 C0.2.1 dX2_beginUpTo_46 rfl (lv_at hl 1 rfl) ?_
              refine tg_X2_asked C0 h kSC_79 q_294 dX2_beginUpTo_47 ?_
              refine y_c1 (n := 4) C0 (by decide) dX2_beginUpTo_50 (fun v_67 e_68 => ?_)
              refine lv_aload_n C0.1 C0.2.1 dX2_beginUpTo_51 rfl (lv_at hl 1 rfl) ?_
              refine tg_X2_begun C0 h kSC_79 q_296 dX2_beginUpTo_52 (fun v_69 e_70 e_71 e_72 => ?_)
              have qh_73 : v_69.toInt = f_7.toInt := congrArg Int32.toInt (e_70.symm.trans (Eq.trans (Eq.trans (Fr.fI hF_46 kSC_79 (by decide)) (Eq.trans (fI_of (u_40.1 79 (kd_ne kSC_79 kSC_80 (by decide)))) (Fr.fI u_34 kSC_79 (by decide)))) e_8))
              refine y_cmul (n := 4) C0 (o18_7 e_68) (o18_15 l1 u1 b_9 b_10 hn_6 e_13 e_14 qh_15 c_16 e_19 e_20 qh_21 e_28 e_29 qh_30 e_71 e_72 qh_73 (le_min v_69) (le_max v_69) (le_min a1) (le_max a1) (le_min f_7) (le_max f_7) (le_min v_11) (le_max v_11) (le_min v_17) (le_max v_17) (le_min v_26) (le_max v_26)) (o18_16 l1 u1 b_9 b_10 hn_6 e_13 e_14 qh_15 c_16 e_19 e_20 qh_21 e_28 e_29 qh_30 e_71 e_72 qh_73 (le_min v_69) (le_max v_69) (le_min a1) (le_max a1) (le_min f_7) (le_max f_7) (le_min v_11) (le_max v_11) (le_min v_17) (le_max v_17) (le_min v_26) (le_max v_26)) dX2_beginUpTo_55 (fun v_74 e_75 => ?_)
              refine lv_iload_n C0.1 C0.2.1 dX2_beginUpTo_56 rfl (lv_at hl 0 rfl) ?_
              refine y_add C0 (o18_17 l1 u1 b_9 b_10 hn_6 e_13 e_14 qh_15 c_16 e_19 e_20 qh_21 e_28 e_29 qh_30 b_51 b_52 hn_50 e_54 c_55 e_71 e_72 qh_73 e_75 (le_min v_74) (le_max v_74) (le_min x2_44) (le_max x2_44) (le_min a1) (le_max a1) (le_min f_7) (le_max f_7) (le_min v_11) (le_max v_11) (le_min v_17) (le_max v_17) (le_min v_26) (le_max v_26) (le_min v_53) (le_max v_53) (le_min v_69) (le_max v_69)) (o18_18 l1 u1 b_9 b_10 hn_6 e_13 e_14 qh_15 c_16 e_19 e_20 qh_21 e_28 e_29 qh_30 b_51 b_52 hn_50 e_54 c_55 e_71 e_72 qh_73 e_75 (le_min v_74) (le_max v_74) (le_min x2_44) (le_max x2_44) (le_min a1) (le_max a1) (le_min f_7) (le_max f_7) (le_min v_11) (le_max v_11) (le_min v_17) (le_max v_17) (le_min v_26) (le_max v_26) (le_min v_53) (le_max v_53) (le_min v_69) (le_max v_69)) dX2_beginUpTo_57 (fun v_76 e_77 => ?_)
              refine y_c1 (n := 0) C0 (by decide) dX2_beginUpTo_58 (fun v_78 e_79 => ?_)
              have hO_82 := h.2
              refine y_iast C0 h kSC_81 rfl (by decide) (o18_19 l1 u1 b_9 b_10 hn_6 e_13 e_14 qh_15 c_16 e_19 e_20 qh_21 e_28 e_29 qh_30 b_51 b_52 hn_50 e_54 c_55 e_71 e_72 qh_73 e_75 e_77) (o18_20 l1 u1 b_9 b_10 hn_6 e_13 e_14 qh_15 c_16 e_19 e_20 qh_21 e_28 e_29 qh_30 b_51 b_52 hn_50 e_54 c_55 e_71 e_72 qh_73 e_75 e_77) (le_min v_78) (le_max v_78) dX2_beginUpTo_59 (fun H locs ws_80 h u_81 => ?_)
              replace HE : FT = g14w_X2_beginUpTo R0 R41 (xso SC ad ws_80) a1.toInt x2_44.toInt := HE.trans (by rw [(xso_A (i := 81) hO_82 h.2 kSC_81 rfl u_81), e_79, e_77, e_75, (xg0 e_70 : v_69.toInt = (xso SC ad ws_45) 0 79 4)]; rfl)
              refine lv_aload_n C0.1 C0.2.1 dX2_beginUpTo_60 rfl (lv_at hl 1 rfl) ?_
              refine tg_X2_allowed C0 h kSC_79 q_295 dX2_beginUpTo_61 ?_
              refine y_c1 (n := 4) C0 (by decide) dX2_beginUpTo_64 (fun v_83 e_84 => ?_)
              refine lv_aload_n C0.1 C0.2.1 dX2_beginUpTo_65 rfl (lv_at hl 1 rfl) ?_
              refine tg_X2_begun C0 h kSC_79 q_296 dX2_beginUpTo_66 (fun v_85 e_86 e_87 e_88 => ?_)
              have qh_89 : v_85.toInt = f_7.toInt := congrArg Int32.toInt (e_86.symm.trans (Eq.trans (Eq.trans (fI_of (u_81.1 79 (kd_ne kSC_79 kSC_81 (by decide)))) (Eq.trans (Fr.fI hF_46 kSC_79 (by decide)) (Eq.trans (fI_of (u_40.1 79 (kd_ne kSC_79 kSC_80 (by decide)))) (Fr.fI u_34 kSC_79 (by decide))))) e_8))
              refine y_cmul (n := 4) C0 (o18_7 e_84) (o18_21 l1 u1 b_9 b_10 hn_6 e_13 e_14 qh_15 c_16 e_19 e_20 qh_21 e_28 e_29 qh_30 b_51 b_52 hn_50 e_54 c_55 e_71 e_72 qh_73 e_75 e_77 e_87 e_88 qh_89 (le_min v_85) (le_max v_85) (le_min a1) (le_max a1) (le_min f_7) (le_max f_7) (le_min v_11) (le_max v_11) (le_min v_17) (le_max v_17) (le_min v_26) (le_max v_26) (le_min x2_44) (le_max x2_44) (le_min v_53) (le_max v_53) (le_min v_69) (le_max v_69) (le_min v_74) (le_max v_74) (le_min v_76) (le_max v_76)) (o18_22 l1 u1 b_9 b_10 hn_6 e_13 e_14 qh_15 c_16 e_19 e_20 qh_21 e_28 e_29 qh_30 b_51 b_52 hn_50 e_54 c_55 e_71 e_72 qh_73 e_75 e_77 e_87 e_88 qh_89 (le_min v_85) (le_max v_85) (le_min a1) (le_max a1) (le_min f_7) (le_max f_7) (le_min v_11) (le_max v_11) (le_min v_17) (le_max v_17) (le_min v_26) (le_max v_26) (le_min x2_44) (le_max x2_44) (le_min v_53) (le_max v_53) (le_min v_69) (le_max v_69) (le_min v_74) (le_max v_74) (le_min v_76) (le_max v_76)) dX2_beginUpTo_69 (fun v_90 e_91 => ?_)
              refine lv_iload_n C0.1 C0.2.1 dX2_beginUpTo_70 rfl (lv_at hl 0 rfl) ?_
              refine y_add C0 (o18_23 l1 u1 b_9 b_10 hn_6 e_13 e_14 qh_15 c_16 e_19 e_20 qh_21 e_28 e_29 qh_30 b_51 b_52 hn_50 e_54 c_55 e_71 e_72 qh_73 e_75 e_77 e_87 e_88 qh_89 e_91 (le_min v_90) (le_max v_90) (le_min x2_44) (le_max x2_44) (le_min a1) (le_max a1) (le_min f_7) (le_max f_7) (le_min v_11) (le_max v_11) (le_min v_17) (le_max v_17) (le_min v_26) (le_max v_26) (le_min v_53) (le_max v_53) (le_min v_69) (le_max v_69) (le_min v_74) (le_max v_74) (le_min v_76) (le_max v_76) (le_min v_85) (le_max v_85)) (o18_24 l1 u1 b_9 b_10 hn_6 e_13 e_14 qh_15 c_16 e_19 e_20 qh_21 e_28 e_29 qh_30 b_51 b_52 hn_50 e_54 c_55 e_71 e_72 qh_73 e_75 e_77 e_87 e_88 qh_89 e_91 (le_min v_90) (le_max v_90) (le_min x2_44) (le_max x2_44) (le_min a1) (le_max a1) (le_min f_7) (le_max f_7) (le_min v_11) (le_max v_11) (le_min v_17) (le_max v_17) (le_min v_26) (le_max v_26) (le_min v_53) (le_max v_53) (le_min v_69) (le_max v_69) (le_min v_74) (le_max v_74) (le_min v_76) (le_max v_76) (le_min v_85) (le_max v_85)) dX2_beginUpTo_71 (fun v_92 e_93 => ?_)
              refine y_c1 (n := 0) C0 (by decide) dX2_beginUpTo_72 (fun v_94 e_95 => ?_)
              have hO_98 := h.2
              refine y_iast C0 h kSC_82 rfl (by decide) (o18_25 l1 u1 b_9 b_10 hn_6 e_13 e_14 qh_15 c_16 e_19 e_20 qh_21 e_28 e_29 qh_30 b_51 b_52 hn_50 e_54 c_55 e_71 e_72 qh_73 e_75 e_77 e_87 e_88 qh_89 e_91 e_93) (o18_26 l1 u1 b_9 b_10 hn_6 e_13 e_14 qh_15 c_16 e_19 e_20 qh_21 e_28 e_29 qh_30 b_51 b_52 hn_50 e_54 c_55 e_71 e_72 qh_73 e_75 e_77 e_87 e_88 qh_89 e_91 e_93) (le_min v_94) (le_max v_94) dX2_beginUpTo_73 (fun H locs ws_96 h u_97 => ?_)
              replace HE : FT = g15w_X2_beginUpTo R0 R41 (xso SC ad ws_96) a1.toInt x2_44.toInt := HE.trans (by rw [(xso_A (i := 82) hO_98 h.2 kSC_82 rfl u_97), e_95, e_93, e_91, (xg0 e_86 : v_85.toInt = (xso SC ad ws_80) 0 79 4)]; rfl)
              refine y_inc (kp := 0) (n := 1) (fun v_99 => [(2, .int v_99), (0, .ref (ad 79)), (1, .int a1)]) C0 hl rfl (by decide) (by decide) (fun _ => rfl) (o18_27 l1 u1 b_9 b_10 hn_6 e_13 e_14 qh_15 c_16 e_19 e_20 qh_21 e_28 e_29 qh_30 b_51 b_52 hn_50 e_54 c_55 e_71 e_72 qh_73 e_75 e_77 e_87 e_88 qh_89 e_91 e_93 (le_min x2_44) (le_max x2_44) (le_min a1) (le_max a1) (le_min f_7) (le_max f_7) (le_min v_11) (le_max v_11) (le_min v_17) (le_max v_17) (le_min v_26) (le_max v_26) (le_min v_53) (le_max v_53) (le_min v_69) (le_max v_69) (le_min v_74) (le_max v_74) (le_min v_76) (le_max v_76) (le_min v_85) (le_max v_85) (le_min v_90) (le_max v_90) (le_min v_92) (le_max v_92)) (o18_28 l1 u1 b_9 b_10 hn_6 e_13 e_14 qh_15 c_16 e_19 e_20 qh_21 e_28 e_29 qh_30 b_51 b_52 hn_50 e_54 c_55 e_71 e_72 qh_73 e_75 e_77 e_87 e_88 qh_89 e_91 e_93 (le_min x2_44) (le_max x2_44) (le_min a1) (le_max a1) (le_min f_7) (le_max f_7) (le_min v_11) (le_max v_11) (le_min v_17) (le_max v_17) (le_min v_26) (le_max v_26) (le_min v_53) (le_max v_53) (le_min v_69) (le_max v_69) (le_min v_74) (le_max v_74) (le_min v_76) (le_max v_76) (le_min v_85) (le_max v_85) (le_min v_90) (le_max v_90) (le_min v_92) (le_max v_92)) dX2_beginUpTo_74 (fun v_99 ls e_100 hl => ?_)
              refine lv_goto (tgt := 41) C0.1 C0.2.1 dX2_beginUpTo_77 (by decide) ?_
              exact ih_48 v_99 _ _ _ _ (o18_29 l1 u1 b_9 b_10 hn_6 e_13 e_14 qh_15 c_16 e_19 e_20 qh_21 e_28 e_29 qh_30 b_51 b_52 hn_50 e_54 c_55 e_71 e_72 qh_73 e_75 e_77 e_87 e_88 qh_89 e_91 e_93 e_100) (o18_30 l1 u1 b_9 b_10 hn_6 e_13 e_14 qh_15 c_16 e_19 e_20 qh_21 e_28 e_29 qh_30 b_51 b_52 hn_50 e_54 c_55 e_71 e_72 qh_73 e_75 e_77 e_87 e_88 qh_89 e_91 e_93 e_100) (o18_31 l1 u1 b_9 b_10 hn_6 e_13 e_14 qh_15 c_16 e_19 e_20 qh_21 e_28 e_29 qh_30 b_51 b_52 hn_50 e_54 c_55 e_71 e_72 qh_73 e_75 e_77 e_87 e_88 qh_89 e_91 e_93 e_100) (((show FT = R41 (xso SC ad ws_96) a1.toInt v_99.toInt from HE.trans (by rw [e_100]; rfl)).trans (by rw [hR41]))) h (Fr.tr (Fr.tr hF_46 (Fr.up u_81.1 kSC_81 (by decide))) (Fr.up u_97.1 kSC_82 (by decide))) (lv_sub hl [0, 1, 2] rfl)
        exact lp_47 ((4 - v_42.toInt + 1).toNat) v_42 _ _ _ _ (o18_32 e_43) (o18_1 e_43) (o18_33 e_43) ((show FT = L8_X2_beginUpTo R0 (Int.toNat (4 - v_42.toInt + 1)) (xso SC ad ws_39) a1.toInt v_42.toInt from HE.trans (by rw [e_43]; rfl))) h Fr.rf (lv_sub hl [0, 1, 2] rfl)
  obtain ⟨f_101, e_102⟩ : ∃ v, fI ws0 79 4 = v := ⟨_, rfl⟩
  have b_103 := ty_fI (k := 4) h.2 kSC_79 rfl rfl
  rw [e_102] at b_103
  exact lp_3 ((240 - f_101.toInt + 1).toNat) f_101 _ _ _ _ (o18_34 b_103.1 b_103.2) (o18_35 b_103.1 b_103.2) (o18_36 b_103.1 b_103.2) ((show FT = L1_X2_beginUpTo (Int.toNat (240 - f_101.toInt + 1)) (xso SC ad ws0) a1.toInt from HE.trans (by rw [(xg0 ((Eq.trans rfl e_102)) : f_101.toInt = (xso SC ad ws0) 0 79 4)]; rfl))) e_102 h Fr.rf (lv_sub hl [0, 1] rfl)
noncomputable def g1c_X2_freeAt (s : XS) (a1 : Int) : XR := (s, (s 1 80 (Int.toNat a1)))
noncomputable def f_X2_freeAt (s : XS) (a1 : Int) : XR := g1c_X2_freeAt ((f_X2_beginUpTo s a1).1) a1
set_option maxHeartbeats 4000000 in
set_option maxRecDepth 100000 in
theorem c_X2_freeAt (l : Launch) (G : GG) (Z : RZ) (ad : Nat → Nat) (ws0 : va_W) (hT : Ty G SC ad ws0) (a1 : Int32) (l1 : 0 ≤ a1.toInt) (u1 : a1.toInt ≤ 239) : Mq l yX2_freeAt cX2_freeAt 2 (some .int) 3 G Z [.ref (ad 79), .int a1] ws0 (PI G SC ad [18, 19, 20, 21] ws0 (fun r u => (xso SC ad u = (f_X2_freeAt (xso SC ad ws0) a1.toInt).1) ∧ (r.toInt = (f_X2_freeAt (xso SC ad ws0) a1.toInt).2))) := by
  refine Mq.start (by decide) (Nat.le_of_ble_eq_true rfl) ?_
  intro p e s m below meth c A ls C0 hZ h hl
  have hl : lv_has ls 2 [(0, .ref (ad 79)), (1, .int a1)] := hl
  have h : Wt G SC ad A s s.heap [] ws0 := ⟨h, hT⟩
  obtain ⟨args, hargs⟩ : ∃ z, z = ([.ref (ad 79), .int a1] : List Value).toArray := ⟨_, rfl⟩
  rw [← hargs] at C0 ⊢
  have C0 : Cx p s m args meth c RX2 cX2_freeAt 2 (some .int) := C0
  obtain ⟨Q, hQ⟩ : ∃ z, z = MQ below ((PI G SC ad [18, 19, 20, 21] ws0 (fun r u => (xso SC ad u = (f_X2_freeAt (xso SC ad ws0) a1.toInt).1) ∧ (r.toInt = (f_X2_freeAt (xso SC ad ws0) a1.toInt).2))) A) args s 0 0 A := ⟨_, rfl⟩
  rw [← hQ]
  obtain ⟨FT, hFT⟩ : ∃ z, z = f_X2_freeAt (xso SC ad ws0) a1.toInt := ⟨_, rfl⟩
  have HE : FT = f_X2_freeAt (xso SC ad ws0) a1.toInt := hFT
  refine lv_aload_n C0.1 C0.2.1 dX2_freeAt_0 rfl (lv_at hl 0 rfl) ?_
  refine lv_iload_n C0.1 C0.2.1 dX2_freeAt_1 rfl (lv_at hl 1 rfl) ?_
  refine y_cv h (y_rV (As := [.int a1]) (rest := []) C0 hZ h (c_X2_beginUpTo l G Z ad _ h.2 a1 (o18_37 l1 u1) (o18_38 l1 u1)) k_X2_beginUpTo q_1100 q_35 q_1098 kSC_79 rfl rfl rfl hl.1 rfl rfl (Nat.le_of_ble_eq_true rfl) dX2_freeAt_2 ⟨Nat.le_of_ble_eq_true rfl, Nat.le_of_ble_eq_true rfl⟩ ⟨Nat.le_of_ble_eq_true rfl, Nat.le_of_ble_eq_true rfl⟩) (fun H locs ws_1 h u_2 p_3 => ?_)
  have e_4 := p_3
  replace HE : FT = g1c_X2_freeAt (xso SC ad ws_1) a1.toInt := HE.trans (by rw [e_4]; rfl)
  refine lv_aload_n C0.1 C0.2.1 dX2_freeAt_5 rfl (lv_at hl 0 rfl) ?_
  refine tg_X2_free C0 h kSC_79 q_293 dX2_freeAt_6 ?_
  refine lv_iload_n C0.1 C0.2.1 dX2_freeAt_9 rfl (lv_at hl 1 rfl) ?_
  refine y_iald C0 h kSC_80 rfl (by decide) (o18_37 l1 u1) (o18_39 l1 u1) dX2_freeAt_10 (fun v_5 e_6 e_7 e_8 => ?_)
  replace HE : FT = ((xso SC ad ws_1), v_5.toInt) := HE.trans (by rw [(xg1 e_6 : v_5.toInt = (xso SC ad ws_1) 1 80 a1.toInt.toNat)]; rfl)
  rw [hQ]
  exact y_iret C0 h u_2 ⟨(congrArg Prod.fst (HE.symm.trans hFT)), (congrArg Prod.snd (HE.symm.trans hFT))⟩ dX2_freeAt_11
noncomputable def g3_X2_allowing (s : XS) (a3 : Int) : XR := (s, a3)
noncomputable def g16w_X2_allowing (s : XS) (a3 : Int) (v_39 : Int) : XR := (s, (Xiand a3 (s 1 82 (Int.toNat v_39))))
noncomputable def g14_X2_allowing (s : XS) (a3 : Int) (v_39 : Int) : XR := g16w_X2_allowing (xup s 1 81 (Int.toNat v_39) ((Xior (s 1 81 (Int.toNat v_39)) a3))) a3 v_39
noncomputable def g20w_X2_allowing (s : XS) (a3 : Int) (v_39 : Int) : XR := (s, (Xiand a3 (s 1 82 (Int.toNat v_39))))
noncomputable def g18_X2_allowing (s : XS) (a3 : Int) (v_39 : Int) : XR := g20w_X2_allowing (xup s 1 81 (Int.toNat v_39) ((Xior (s 1 81 (Int.toNat v_39)) a3))) a3 v_39
noncomputable def g22_X2_allowing (R67 : XS → Int → Int → Int → Int → Int → Int → XR) (s : XS) (a1 : Int) (a2 : Int) (a3 : Int) (v_39 : Int) (v_49 : Int) (x7_53 : Int) : XR := R67 s a1 a2 a3 v_39 v_49 ((x7_53 + 1))
noncomputable def g26_X2_allowing (R67 : XS → Int → Int → Int → Int → Int → Int → XR) (s : XS) (a1 : Int) (a2 : Int) (a3 : Int) (v_39 : Int) (v_49 : Int) (x7_53 : Int) : XR := R67 s a1 a2 a3 v_39 v_49 ((x7_53 + 1))
noncomputable def g28w_X2_allowing (R67 : XS → Int → Int → Int → Int → Int → Int → XR) (s : XS) (a1 : Int) (a2 : Int) (a3 : Int) (v_39 : Int) (v_49 : Int) (x7_53 : Int) : XR := R67 s a1 a2 a3 v_39 v_49 ((x7_53 + 1))
noncomputable def g27_X2_allowing (R67 : XS → Int → Int → Int → Int → Int → Int → XR) (s : XS) (a1 : Int) (a2 : Int) (a3 : Int) (v_39 : Int) (v_49 : Int) (x7_53 : Int) : XR := g28w_X2_allowing R67 (xup s 1 82 (Int.toNat v_39) ((Xior (s 1 82 (Int.toNat v_39)) (Xishl 1 x7_53)))) a1 a2 a3 v_39 v_49 x7_53
noncomputable def g25b_X2_allowing (R67 : XS → Int → Int → Int → Int → Int → Int → XR) (s : XS) (r_140 : Int) (a1 : Int) (a2 : Int) (a3 : Int) (v_39 : Int) (v_49 : Int) (x7_53 : Int) : XR := if r_140 = 0 then g26_X2_allowing R67 s a1 a2 a3 v_39 v_49 x7_53 else g27_X2_allowing R67 s a1 a2 a3 v_39 v_49 x7_53
noncomputable def g24c_X2_allowing (R67 : XS → Int → Int → Int → Int → Int → Int → XR) (s : XS) (r_140 : Int) (a1 : Int) (a2 : Int) (a3 : Int) (v_39 : Int) (v_49 : Int) (x7_53 : Int) : XR := g25b_X2_allowing R67 s r_140 a1 a2 a3 v_39 v_49 x7_53
noncomputable def g23_X2_allowing (R67 : XS → Int → Int → Int → Int → Int → Int → XR) (s : XS) (a1 : Int) (a2 : Int) (a3 : Int) (v_39 : Int) (v_49 : Int) (x7_53 : Int) : XR := g24c_X2_allowing R67 ((f_X4_value s 6 (x7_53 % (s 0 1 5)) (x7_53 / (s 0 1 5)) (Xiadd (s 0 10 8) a1) (s 1 16 (Int.toNat x7_53)) a2).1) (((f_X4_value s 6 (x7_53 % (s 0 1 5)) (x7_53 / (s 0 1 5)) (Xiadd (s 0 10 8) a1) (s 1 16 (Int.toNat x7_53)) a2).2)) a1 a2 a3 v_39 v_49 x7_53
noncomputable def g21b_X2_allowing (R67 : XS → Int → Int → Int → Int → Int → Int → XR) (s : XS) (v_104 : Int) (a1 : Int) (a2 : Int) (a3 : Int) (v_39 : Int) (v_49 : Int) (x7_53 : Int) : XR := if v_104 = 0 then g22_X2_allowing R67 s a1 a2 a3 v_39 v_49 x7_53 else g23_X2_allowing R67 s a1 a2 a3 v_39 v_49 x7_53
noncomputable def g19_X2_allowing (R67 : XS → Int → Int → Int → Int → Int → Int → XR) (s : XS) (a1 : Int) (a2 : Int) (a3 : Int) (v_39 : Int) (v_49 : Int) (x7_53 : Int) : XR := g21b_X2_allowing R67 s ((Xiand (Xishr v_49 x7_53) 1)) a1 a2 a3 v_39 v_49 x7_53
noncomputable def g17b_X2_allowing (R67 : XS → Int → Int → Int → Int → Int → Int → XR) (s : XS) (v_81 : Int) (a1 : Int) (a2 : Int) (a3 : Int) (v_39 : Int) (v_49 : Int) (x7_53 : Int) : XR := if v_81 = 0 then g18_X2_allowing s a3 v_39 else g19_X2_allowing R67 s a1 a2 a3 v_39 v_49 x7_53
noncomputable def g15_X2_allowing (R67 : XS → Int → Int → Int → Int → Int → Int → XR) (s : XS) (a1 : Int) (a2 : Int) (a3 : Int) (v_39 : Int) (v_49 : Int) (x7_53 : Int) : XR := g17b_X2_allowing R67 s ((Xishr v_49 x7_53)) a1 a2 a3 v_39 v_49 x7_53
noncomputable def g13b_X2_allowing (R67 : XS → Int → Int → Int → Int → Int → Int → XR) (s : XS) (x7_53 : Int) (a1 : Int) (a2 : Int) (a3 : Int) (v_39 : Int) (v_49 : Int) : XR := if x7_53 < 25 then g15_X2_allowing R67 s a1 a2 a3 v_39 v_49 x7_53 else g14_X2_allowing s a3 v_39
noncomputable def g12l_X2_allowing (R67 : XS → Int → Int → Int → Int → Int → Int → XR) (s : XS) (a1 : Int) (a2 : Int) (a3 : Int) (v_39 : Int) (v_49 : Int) (x7_53 : Int) : XR := g13b_X2_allowing R67 s x7_53 a1 a2 a3 v_39 v_49
noncomputable def L11_X2_allowing (n : Nat) : XS → Int → Int → Int → Int → Int → Int → XR := Nat.rec (motive := fun _ => XS → Int → Int → Int → Int → Int → Int → XR) (fun s _ _ _ _ _ _ => (s, 0)) (fun _ R67 => g12l_X2_allowing R67) n
noncomputable def g10c_X2_allowing (s : XS) (r_34 : Int) (v_29 : Int) (a1 : Int) (a2 : Int) (a3 : Int) : XR := L11_X2_allowing (Int.toNat (25 - 0 + 1)) s a1 a2 a3 ((v_29 + r_34)) ((Xiand a3 (Xixor (s 1 81 (Int.toNat (v_29 + r_34))) ((-1))))) 0
noncomputable def g9c_X2_allowing (s : XS) (r_24 : Int) (a1 : Int) (a2 : Int) (a3 : Int) : XR := g10c_X2_allowing ((f_X4_firstHeadLike s 6 a2).1) (((f_X4_firstHeadLike s 6 a2).2)) ((4 * r_24)) a1 a2 a3
noncomputable def g8c_X2_allowing (s : XS) (a1 : Int) (a2 : Int) (a3 : Int) : XR := g9c_X2_allowing ((f_X4_firstLikeN s 6 a1).1) (((f_X4_firstLikeN s 6 a1).2)) a1 a2 a3
noncomputable def g6_X2_allowing (s : XS) (a1 : Int) (a2 : Int) (a3 : Int) : XR := g8c_X2_allowing ((f_X2_beginUpTo s a1).1) a1 a2 a3
noncomputable def g7_X2_allowing (s : XS) (a3 : Int) : XR := (s, a3)
noncomputable def g5b_X2_allowing (s : XS) (v_10 : Int) (a1 : Int) (a2 : Int) (a3 : Int) : XR := if 0 < v_10 then g6_X2_allowing s a1 a2 a3 else g7_X2_allowing s a3
noncomputable def g4_X2_allowing (s : XS) (a1 : Int) (a2 : Int) (a3 : Int) : XR := g5b_X2_allowing s ((s 0 1 5)) a1 a2 a3
noncomputable def g2b_X2_allowing (s : XS) (r_4 : Int) (a1 : Int) (a2 : Int) (a3 : Int) : XR := if r_4 = 0 then g3_X2_allowing s a3 else g4_X2_allowing s a1 a2 a3
noncomputable def g1c_X2_allowing (s : XS) (r_4 : Int) (a1 : Int) (a2 : Int) (a3 : Int) : XR := g2b_X2_allowing s r_4 a1 a2 a3
noncomputable def f_X2_allowing (s : XS) (a1 : Int) (a2 : Int) (a3 : Int) : XR := g1c_X2_allowing ((f_X4_isTold s 6).1) (((f_X4_isTold s 6).2)) a1 a2 a3
set_option maxHeartbeats 4000000 in
set_option maxRecDepth 100000 in
theorem c_X2_allowing (l : Launch) (G : GG) (Z : RZ) (ad : Nat → Nat) (ws0 : va_W) (hT : Ty G SC ad ws0) (a1 : Int32) (a2 : Int32) (a3 : Int32) (l1 : 0 ≤ a1.toInt) (u1 : a1.toInt ≤ 239) (l2 : 0 ≤ a2.toInt) (u2 : a2.toInt ≤ 3) : Mq l yX2_allowing cX2_allowing 8 (some .int) 3 G Z [.ref (ad 79), .int a1, .int a2, .int a3] ws0 (PI G SC ad [4, 5, 18, 19, 20, 21] ws0 (fun r u => (xso SC ad u = (f_X2_allowing (xso SC ad ws0) a1.toInt a2.toInt a3.toInt).1) ∧ (r.toInt = (f_X2_allowing (xso SC ad ws0) a1.toInt a2.toInt a3.toInt).2))) := by
  refine Mq.start (by decide) (Nat.le_of_ble_eq_true rfl) ?_
  intro p e s m below meth c A ls C0 hZ h hl
  have hl : lv_has ls 8 [(0, .ref (ad 79)), (1, .int a1), (2, .int a2), (3, .int a3)] := hl
  have h : Wt G SC ad A s s.heap [] ws0 := ⟨h, hT⟩
  obtain ⟨args, hargs⟩ : ∃ z, z = ([.ref (ad 79), .int a1, .int a2, .int a3] : List Value).toArray := ⟨_, rfl⟩
  rw [← hargs] at C0 ⊢
  have C0 : Cx p s m args meth c RX2 cX2_allowing 8 (some .int) := C0
  obtain ⟨Q, hQ⟩ : ∃ z, z = MQ below ((PI G SC ad [4, 5, 18, 19, 20, 21] ws0 (fun r u => (xso SC ad u = (f_X2_allowing (xso SC ad ws0) a1.toInt a2.toInt a3.toInt).1) ∧ (r.toInt = (f_X2_allowing (xso SC ad ws0) a1.toInt a2.toInt a3.toInt).2))) A) args s 0 0 A := ⟨_, rfl⟩
  rw [← hQ]
  obtain ⟨FT, hFT⟩ : ∃ z, z = f_X2_allowing (xso SC ad ws0) a1.toInt a2.toInt a3.toInt := ⟨_, rfl⟩
  have HE : FT = f_X2_allowing (xso SC ad ws0) a1.toInt a2.toInt a3.toInt := hFT
  refine lv_aload_n C0.1 C0.2.1 dX2_allowing_0 rfl (lv_at hl 0 rfl) ?_
  refine tg_X2_city C0 h kSC_79 q_292 dX2_allowing_1 ?_
  refine tg_X0_mayLaw C0 h kSC_1 q_245 dX2_allowing_4 ?_
  refine lv_astore (lv' := [(4, .ref (ad 6)), (0, .ref (ad 79)), (1, .int a1), (2, .int a2), (3, .int a3)]) C0.1 C0.2.1 dX2_allowing_7 hl (by decide) rfl (fun ls hl => ?_)
  refine lv_aload C0.1 C0.2.1 dX2_allowing_9 (lv_at hl 0 rfl) ?_
  refine y_ci h (y_rV (As := []) (rest := []) C0 hZ h (c_X4_isTold l G Z ad _ h.2 6 kSC_6) k_X4_isTold q_931 q_932 q_1120 kSC_6 rfl rfl rfl hl.1 rfl rfl (Nat.le_of_ble_eq_true rfl) dX2_allowing_11 ⟨Nat.le_of_ble_eq_true rfl, Nat.le_of_ble_eq_true rfl⟩ ⟨Nat.le_of_ble_eq_true rfl, Nat.le_of_ble_eq_true rfl⟩) (fun r_4 H locs ws_1 h u_2 p_3 => ?_)
  obtain ⟨e_5, e_6, e_7, e_8⟩ := p_3
  replace HE : FT = g1c_X2_allowing (xso SC ad ws_1) r_4.toInt a1.toInt a2.toInt a3.toInt := HE.trans (by rw [e_5, e_6]; rfl)
  replace HE : FT = g2b_X2_allowing (xso SC ad ws_1) r_4.toInt a1.toInt a2.toInt a3.toInt := HE.trans rfl
  refine y_if_eq (tgt := 27) C0 dX2_allowing_14 (by decide) (fun c_9 => ?_) (fun c_9 => ?_)
  · -- 14
    replace HE : FT = g3_X2_allowing (xso SC ad ws_1) a3.toInt := HE.trans (if_pos c_9)
    refine lv_iload_n C0.1 C0.2.1 dX2_allowing_27 rfl (lv_at hl 4 rfl) ?_
    replace HE : FT = ((xso SC ad ws_1), a3.toInt) := HE.trans rfl
    rw [hQ]
    exact y_iret C0 h (Fr.mono u_2 (by decide)) ⟨(congrArg Prod.fst (HE.symm.trans hFT)), (congrArg Prod.snd (HE.symm.trans hFT))⟩ dX2_allowing_28
  · -- 14
    replace HE : FT = g4_X2_allowing (xso SC ad ws_1) a1.toInt a2.toInt a3.toInt := HE.trans (if_neg c_9)
    refine lv_aload_n C0.1 C0.2.1 dX2_allowing_17 rfl (lv_at hl 1 rfl) ?_
    refine tg_X2_city C0 h kSC_79 q_292 dX2_allowing_18 ?_
    refine tg_X0_wide C0 h kSC_1 q_257 dX2_allowing_21 (fun v_10 e_11 e_12 e_13 => ?_)
    replace HE : FT = g5b_X2_allowing (xso SC ad ws_1) v_10.toInt a1.toInt a2.toInt a3.toInt := HE.trans (by rw [(xg0 e_11 : v_10.toInt = (xso SC ad ws_1) 0 1 5)]; rfl)
    refine y_if_gt (tgt := 29) C0 dX2_allowing_24 (by decide) (fun c_14 => ?_) (fun c_14 => ?_)
    · -- 24
      replace HE : FT = g6_X2_allowing (xso SC ad ws_1) a1.toInt a2.toInt a3.toInt := HE.trans (if_pos c_14)
      refine lv_aload_n C0.1 C0.2.1 dX2_allowing_29 rfl (lv_at hl 1 rfl) ?_
      refine lv_iload_n C0.1 C0.2.1 dX2_allowing_30 rfl (lv_at hl 2 rfl) ?_
      refine y_cv h (y_rV (As := [.int a1]) (rest := []) C0 hZ h (c_X2_beginUpTo l G Z ad _ h.2 a1 (o18_37 l1 u1) (o18_38 l1 u1)) k_X2_beginUpTo q_1100 q_35 q_1098 kSC_79 rfl rfl rfl hl.1 rfl rfl (Nat.le_of_ble_eq_true rfl) dX2_allowing_31 ⟨Nat.le_of_ble_eq_true rfl, Nat.le_of_ble_eq_true rfl⟩ ⟨Nat.le_of_ble_eq_true rfl, Nat.le_of_ble_eq_true rfl⟩) (fun H locs ws_15 h u_16 p_17 => ?_)
      have e_18 := p_17
      replace HE : FT = g8c_X2_allowing (xso SC ad ws_15) a1.toInt a2.toInt a3.toInt := HE.trans (by rw [e_18]; rfl)
      refine y_c1 (n := 4) C0 (by decide) dX2_allowing_34 (fun v_19 e_20 => ?_)
      refine lv_aload C0.1 C0.2.1 dX2_allowing_35 (lv_at hl 0 rfl) ?_
      refine lv_iload_n C0.1 C0.2.1 dX2_allowing_37 rfl (lv_at hl 2 rfl) ?_
      refine y_ci h (y_rV (As := [.int a1]) (rest := [.int v_19]) C0 hZ h (c_X4_firstLikeN l G Z ad _ h.2 6 kSC_6 a1 (o18_37 l1 u1) (o18_38 l1 u1)) k_X4_firstLike q_1122 q_1123 q_1121 kSC_6 rfl rfl rfl hl.1 rfl rfl (Nat.le_of_ble_eq_true rfl) dX2_allowing_38 ⟨Nat.le_of_ble_eq_true rfl, Nat.le_of_ble_eq_true rfl⟩ ⟨Nat.le_of_ble_eq_true rfl, Nat.le_of_ble_eq_true rfl⟩) (fun r_24 H locs ws_21 h u_22 p_23 => ?_)
      obtain ⟨e_25, e_26, e_27, e_28⟩ := p_23
      replace HE : FT = g9c_X2_allowing (xso SC ad ws_21) r_24.toInt a1.toInt a2.toInt a3.toInt := HE.trans (by rw [e_25, e_26]; rfl)
      refine y_cmul (n := 4) C0 (o18_7 e_20) (o18_40 e_27 e_28 (le_min r_24) (le_max r_24)) (o18_41 e_27 e_28 (le_min r_24) (le_max r_24)) dX2_allowing_41 (fun v_29 e_30 => ?_)
      refine lv_aload C0.1 C0.2.1 dX2_allowing_42 (lv_at hl 0 rfl) ?_
      refine lv_iload_n C0.1 C0.2.1 dX2_allowing_44 rfl (lv_at hl 3 rfl) ?_
      refine y_ci h (y_rV (As := [.int a2]) (rest := [.int v_29]) C0 hZ h (c_X4_firstHeadLike l G Z ad _ h.2 6 kSC_6 a2 (o18_42 l2 u2) (o18_43 l2 u2)) k_X4_firstHeadLike q_1130 q_1131 q_1129 kSC_6 rfl rfl rfl hl.1 rfl rfl (Nat.le_of_ble_eq_true rfl) dX2_allowing_45 ⟨Nat.le_of_ble_eq_true rfl, Nat.le_of_ble_eq_true rfl⟩ ⟨Nat.le_of_ble_eq_true rfl, Nat.le_of_ble_eq_true rfl⟩) (fun r_34 H locs ws_31 h u_32 p_33 => ?_)
      obtain ⟨e_35, e_36, e_37, e_38⟩ := p_33
      replace HE : FT = g10c_X2_allowing (xso SC ad ws_31) r_34.toInt v_29.toInt a1.toInt a2.toInt a3.toInt := HE.trans (by rw [e_35, e_30, e_36]; rfl)
      refine y_add C0 (o18_44 e_27 e_28 e_30 e_37 e_38 (le_min v_29) (le_max v_29) (le_min r_34) (le_max r_34) (le_min r_24) (le_max r_24)) (o18_45 e_27 e_28 e_30 e_37 e_38 (le_min v_29) (le_max v_29) (le_min r_34) (le_max r_34) (le_min r_24) (le_max r_24)) dX2_allowing_48 (fun v_39 e_40 => ?_)
      refine lv_istore (lv' := [(5, .int v_39), (4, .ref (ad 6)), (0, .ref (ad 79)), (1, .int a1), (2, .int a2), (3, .int a3)]) C0.1 C0.2.1 dX2_allowing_49 hl (by decide) rfl (fun ls hl => ?_)
      refine lv_iload_n C0.1 C0.2.1 dX2_allowing_51 rfl (lv_at hl 5 rfl) ?_
      refine lv_aload_n C0.1 C0.2.1 dX2_allowing_52 rfl (lv_at hl 2 rfl) ?_
      refine tg_X2_asked C0 h kSC_79 q_294 dX2_allowing_53 ?_
      refine lv_iload C0.1 C0.2.1 dX2_allowing_56 (lv_at hl 0 rfl) ?_
      refine y_iald C0 h kSC_81 rfl (by decide) (o18_46 e_27 e_28 e_30 e_37 e_38 e_40) (o18_47 e_27 e_28 e_30 e_37 e_38 e_40) dX2_allowing_58 (fun v_41 e_42 e_43 e_44 => ?_)
      refine y_c1 (n := (-1)) C0 (by decide) dX2_allowing_59 (fun v_45 e_46 => ?_)
      refine xr_ixor C0 dX2_allowing_60 (fun v_47 e_48 => ?_)
      refine xr_iand C0 dX2_allowing_61 (fun v_49 e_50 => ?_)
      refine lv_istore (lv' := [(6, .int v_49), (5, .int v_39), (4, .ref (ad 6)), (0, .ref (ad 79)), (1, .int a1), (2, .int a2), (3, .int a3)]) C0.1 C0.2.1 dX2_allowing_62 hl (by decide) rfl (fun ls hl => ?_)
      refine y_c1 (n := 0) C0 (by decide) dX2_allowing_64 (fun v_51 e_52 => ?_)
      refine lv_istore (lv' := [(7, .int v_51), (6, .int v_49), (5, .int v_39), (4, .ref (ad 6)), (0, .ref (ad 79)), (1, .int a1), (2, .int a2), (3, .int a3)]) C0.1 C0.2.1 dX2_allowing_65 hl (by decide) rfl (fun ls hl => ?_)
      have lp_56 : ∀ (n_58 : Nat) (x7_53 : Int32) (H : Heap) (locs : List Loc) (ls : Array Slot) (ws_54 : va_W), 25 - x7_53.toInt < (n_58 : Int) → 0 ≤ x7_53.toInt → x7_53.toInt ≤ 25 → (FT = L11_X2_allowing n_58 (xso SC ad ws_54) a1.toInt a2.toInt a3.toInt v_39.toInt v_49.toInt x7_53.toInt) → Wt G SC ad A s H locs ws_54 → Fr SC [4, 5, 21] ws_31 ws_54 → lv_has ls 8 [(7, .int x7_53), (6, .int v_49), (5, .int v_39), (4, .ref (ad 6)), (0, .ref (ad 79)), (1, .int a1), (2, .int a2), (3, .int a3)] → W p l e (rmd 3 0 0) s m args below meth c H locs 0 0 Q (F0 m 67 ls []) := by
        intro n_58
        induction n_58 with
        | zero => intro x7_53 H locs ls ws_54 hn_59 b_60 b_61 HE h hF_55 hl; exact ((o18_48 b_60 b_61 hn_59)).elim
        | succ n_58 ih_57 =>
          intro x7_53 H locs ls ws_54 hn_59 b_60 b_61 HE h hF_55 hl
          obtain ⟨R67, hR67⟩ : ∃ z, z = L11_X2_allowing n_58 := ⟨_, rfl⟩
          replace HE : FT = g12l_X2_allowing R67 (xso SC ad ws_54) a1.toInt a2.toInt a3.toInt v_39.toInt v_49.toInt x7_53.toInt := HE.trans (by rw [hR67]; rfl)
          refine lv_iload C0.1 C0.2.1 dX2_allowing_67 (lv_at hl 0 rfl) ?_
          refine y_c2 (n := 25) C0 (by decide) dX2_allowing_69 (fun v_62 e_63 => ?_)
          replace HE : FT = g13b_X2_allowing R67 (xso SC ad ws_54) x7_53.toInt a1.toInt a2.toInt a3.toInt v_39.toInt v_49.toInt := HE.trans rfl
          refine y_icmp_ge (tgt := 166) C0 dX2_allowing_71 (by decide) (fun c_64 => ?_) (fun c_64 => ?_)
          · -- 71
            replace HE : FT = g14_X2_allowing (xso SC ad ws_54) a3.toInt v_39.toInt := HE.trans (if_neg (o18_50 b_60 b_61 hn_59 e_63 c_64))
            refine lv_aload_n C0.1 C0.2.1 dX2_allowing_166 rfl (lv_at hl 4 rfl) ?_
            refine tg_X2_asked C0 h kSC_79 q_294 dX2_allowing_167 ?_
            refine lv_iload C0.1 C0.2.1 dX2_allowing_170 (lv_at hl 2 rfl) ?_
            refine lv_dup2_11 C0.1 C0.2.1 dX2_allowing_172 rfl rfl ?_
            refine y_iald C0 h kSC_81 rfl (by decide) (o18_46 e_27 e_28 e_30 e_37 e_38 e_40) (o18_47 e_27 e_28 e_30 e_37 e_38 e_40) dX2_allowing_173 (fun v_65 e_66 e_67 e_68 => ?_)
            have qh_69 : v_65.toInt = v_41.toInt := congrArg Int32.toInt (e_66.symm.trans (Eq.trans (Fr.aI hF_55 kSC_81 (by decide)) e_42))
            refine lv_iload_n C0.1 C0.2.1 dX2_allowing_174 rfl (lv_at hl 7 rfl) ?_
            refine xr_ior C0 dX2_allowing_175 (fun v_70 e_71 => ?_)
            have hO_74 := h.2
            refine y_iast C0 h kSC_81 rfl (by decide) (o18_46 e_27 e_28 e_30 e_37 e_38 e_40) (o18_47 e_27 e_28 e_30 e_37 e_38 e_40) (le_min v_70) (le_max v_70) dX2_allowing_176 (fun H locs ws_72 h u_73 => ?_)
            replace HE : FT = g16w_X2_allowing (xso SC ad ws_72) a3.toInt v_39.toInt := HE.trans (by rw [(xso_A (i := 81) hO_74 h.2 kSC_81 rfl u_73), e_71, (xg1 e_66 : v_65.toInt = (xso SC ad ws_54) 1 81 v_39.toInt.toNat)]; rfl)
            refine lv_iload_n C0.1 C0.2.1 dX2_allowing_177 rfl (lv_at hl 7 rfl) ?_
            refine lv_aload_n C0.1 C0.2.1 dX2_allowing_178 rfl (lv_at hl 4 rfl) ?_
            refine tg_X2_allowed C0 h kSC_79 q_295 dX2_allowing_179 ?_
            refine lv_iload C0.1 C0.2.1 dX2_allowing_182 (lv_at hl 2 rfl) ?_
            refine y_iald C0 h kSC_82 rfl (by decide) (o18_46 e_27 e_28 e_30 e_37 e_38 e_40) (o18_47 e_27 e_28 e_30 e_37 e_38 e_40) dX2_allowing_184 (fun v_75 e_76 e_77 e_78 => ?_)
            refine xr_iand C0 dX2_allowing_185 (fun v_79 e_80 => ?_)
            replace HE : FT = ((xso SC ad ws_72), v_79.toInt) := HE.trans (by rw [e_80, (xg1 e_76 : v_75.toInt = (xso SC ad ws_72) 1 82 v_39.toInt.toNat)]; rfl)
            rw [hQ]
            exact y_iret C0 h (Fr.tr (Fr.tr (Fr.tr (Fr.tr (Fr.tr (Fr.mono u_2 (by decide)) (Fr.mono u_16 (by decide))) (Fr.mono u_22 (by decide))) (Fr.mono u_32 (by decide))) (Fr.mono hF_55 (by decide))) (Fr.up u_73.1 kSC_81 (by decide))) ⟨(congrArg Prod.fst (HE.symm.trans hFT)), (congrArg Prod.snd (HE.symm.trans hFT))⟩ dX2_allowing_186
          · -- 71
            replace HE : FT = g15_X2_allowing R67 (xso SC ad ws_54) a1.toInt a2.toInt a3.toInt v_39.toInt v_49.toInt x7_53.toInt := HE.trans (if_pos (o18_51 b_60 b_61 hn_59 e_63 c_64))
            refine lv_iload C0.1 C0.2.1 dX2_allowing_74 (lv_at hl 1 rfl) ?_
            refine lv_iload C0.1 C0.2.1 dX2_allowing_76 (lv_at hl 0 rfl) ?_
            refine xr_ishr C0 dX2_allowing_78 (fun v_81 e_82 => ?_)
            replace HE : FT = g17b_X2_allowing R67 (xso SC ad ws_54) v_81.toInt a1.toInt a2.toInt a3.toInt v_39.toInt v_49.toInt x7_53.toInt := HE.trans (by rw [e_82]; rfl)
            refine y_if_eq (tgt := 166) C0 dX2_allowing_79 (by decide) (fun c_83 => ?_) (fun c_83 => ?_)
            · -- 79
              replace HE : FT = g18_X2_allowing (xso SC ad ws_54) a3.toInt v_39.toInt := HE.trans (if_pos c_83)
              refine lv_aload_n C0.1 C0.2.1 dX2_allowing_166 rfl (lv_at hl 4 rfl) ?_
              refine tg_X2_asked C0 h kSC_79 q_294 dX2_allowing_167 ?_
              refine lv_iload C0.1 C0.2.1 dX2_allowing_170 (lv_at hl 2 rfl) ?_
              refine lv_dup2_11 C0.1 C0.2.1 dX2_allowing_172 rfl rfl ?_
              refine y_iald C0 h kSC_81 rfl (by decide) (o18_46 e_27 e_28 e_30 e_37 e_38 e_40) (o18_47 e_27 e_28 e_30 e_37 e_38 e_40) dX2_allowing_173 (fun v_84 e_85 e_86 e_87 => ?_)
              have qh_88 : v_84.toInt = v_41.toInt := congrArg Int32.toInt (e_85.symm.trans (Eq.trans (Fr.aI hF_55 kSC_81 (by decide)) e_42))
              refine lv_iload_n C0.1 C0.2.1 dX2_allowing_174 rfl (lv_at hl 7 rfl) ?_
              refine xr_ior C0 dX2_allowing_175 (fun v_89 e_90 => ?_)
              have hO_93 := h.2
              refine y_iast C0 h kSC_81 rfl (by decide) (o18_46 e_27 e_28 e_30 e_37 e_38 e_40) (o18_47 e_27 e_28 e_30 e_37 e_38 e_40) (le_min v_89) (le_max v_89) dX2_allowing_176 (fun H locs ws_91 h u_92 => ?_)
              replace HE : FT = g20w_X2_allowing (xso SC ad ws_91) a3.toInt v_39.toInt := HE.trans (by rw [(xso_A (i := 81) hO_93 h.2 kSC_81 rfl u_92), e_90, (xg1 e_85 : v_84.toInt = (xso SC ad ws_54) 1 81 v_39.toInt.toNat)]; rfl)
              refine lv_iload_n C0.1 C0.2.1 dX2_allowing_177 rfl (lv_at hl 7 rfl) ?_
              refine lv_aload_n C0.1 C0.2.1 dX2_allowing_178 rfl (lv_at hl 4 rfl) ?_
              refine tg_X2_allowed C0 h kSC_79 q_295 dX2_allowing_179 ?_
              refine lv_iload C0.1 C0.2.1 dX2_allowing_182 (lv_at hl 2 rfl) ?_
              refine y_iald C0 h kSC_82 rfl (by decide) (o18_46 e_27 e_28 e_30 e_37 e_38 e_40) (o18_47 e_27 e_28 e_30 e_37 e_38 e_40) dX2_allowing_184 (fun v_94 e_95 e_96 e_97 => ?_)
              refine xr_iand C0 dX2_allowing_185 (fun v_98 e_99 => ?_)
              replace HE : FT = ((xso SC ad ws_91), v_98.toInt) := HE.trans (by rw [e_99, (xg1 e_95 : v_94.toInt = (xso SC ad ws_91) 1 82 v_39.toInt.toNat)]; rfl)
              rw [hQ]
              exact y_iret C0 h (Fr.tr (Fr.tr (Fr.tr (Fr.tr (Fr.tr (Fr.mono u_2 (by decide)) (Fr.mono u_16 (by decide))) (Fr.mono u_22 (by decide))) (Fr.mono u_32 (by decide))) (Fr.mono hF_55 (by decide))) (Fr.up u_92.1 kSC_81 (by decide))) ⟨(congrArg Prod.fst (HE.symm.trans hFT)), (congrArg Prod.snd (HE.symm.trans hFT))⟩ dX2_allowing_186
            · -- 79
              replace HE : FT = g19_X2_allowing R67 (xso SC ad ws_54) a1.toInt a2.toInt a3.toInt v_39.toInt v_49.toInt x7_53.toInt := HE.trans (if_neg c_83)
              refine lv_iload C0.1 C0.2.1 dX2_allowing_82 (lv_at hl 1 rfl) ?_
              refine lv_iload C0.1 C0.2.1 dX2_allowing_84 (lv_at hl 0 rfl) ?_
              refine xr_ishr C0 dX2_allowing_86 (fun v_100 e_101 => ?_)
              refine y_c1 (n := 1) C0 (by decide) dX2_allowing_87 (fun v_102 e_103 => ?_)
              refine xr_iand C0 dX2_allowing_88 (fun v_104 e_105 => ?_)
              replace HE : FT = g21b_X2_allowing R67 (xso SC ad ws_54) v_104.toInt a1.toInt a2.toInt a3.toInt v_39.toInt v_49.toInt x7_53.toInt := HE.trans (by rw [e_105, e_103, e_101]; rfl)
              refine y_if_eq (tgt := 160) C0 dX2_allowing_89 (by decide) (fun c_106 => ?_) (fun c_106 => ?_)
              · -- 89
                replace HE : FT = g22_X2_allowing R67 (xso SC ad ws_54) a1.toInt a2.toInt a3.toInt v_39.toInt v_49.toInt x7_53.toInt := HE.trans (if_pos c_106)
                refine y_inc (kp := 0) (n := 1) (fun v_107 => [(7, .int v_107), (6, .int v_49), (5, .int v_39), (4, .ref (ad 6)), (0, .ref (ad 79)), (1, .int a1), (2, .int a2), (3, .int a3)]) C0 hl rfl (by decide) (by decide) (fun _ => rfl) (o18_53 b_60 b_61 hn_59 e_63 c_64 (le_min x7_53) (le_max x7_53) (le_min v_62) (le_max v_62)) (o18_54 b_60 b_61 hn_59 e_63 c_64 (le_min x7_53) (le_max x7_53) (le_min v_62) (le_max v_62)) dX2_allowing_160 (fun v_107 ls e_108 hl => ?_)
                refine lv_goto (tgt := 67) C0.1 C0.2.1 dX2_allowing_163 (by decide) ?_
                exact ih_57 v_107 _ _ _ _ (o18_55 b_60 b_61 hn_59 e_63 c_64 e_108) (o18_56 b_60 b_61 hn_59 e_63 c_64 e_108) (o18_57 b_60 b_61 hn_59 e_63 c_64 e_108) (((show FT = R67 (xso SC ad ws_54) a1.toInt a2.toInt a3.toInt v_39.toInt v_49.toInt v_107.toInt from HE.trans (by rw [e_108]; rfl)).trans (by rw [hR67]))) h hF_55 (lv_sub hl [0, 1, 2, 3, 4, 5, 6, 7] rfl)
              · -- 89
                replace HE : FT = g23_X2_allowing R67 (xso SC ad ws_54) a1.toInt a2.toInt a3.toInt v_39.toInt v_49.toInt x7_53.toInt := HE.trans (if_neg c_106)
                refine lv_aload C0.1 C0.2.1 dX2_allowing_92 (lv_at hl 3 rfl) ?_
                refine lv_iload C0.1 C0.2.1 dX2_allowing_94 (lv_at hl 0 rfl) ?_
                refine lv_aload_n C0.1 C0.2.1 dX2_allowing_96 rfl (lv_at hl 4 rfl) ?_
                refine tg_X2_city C0 h kSC_79 q_292 dX2_allowing_97 ?_
                refine tg_X0_wide C0 h kSC_1 q_257 dX2_allowing_100 (fun v_109 e_110 e_111 e_112 => ?_)
                have qh_113 : v_109.toInt = v_10.toInt := congrArg Int32.toInt (e_110.symm.trans (Eq.trans (Eq.trans (Fr.fI hF_55 kSC_1 (by decide)) (Eq.trans (Fr.fI u_32 kSC_1 (by decide)) (Eq.trans (Fr.fI u_22 kSC_1 (by decide)) (Fr.fI u_16 kSC_1 (by decide))))) e_11))
                refine y_remXm C0 (o18_58 e_12 e_13 c_14 e_111 e_112 qh_113) (o18_59 b_60 b_61 hn_59 e_63 c_64) dX2_allowing_103 (fun v_114 e_115 e_116 e_117 => ?_)
                refine lv_iload C0.1 C0.2.1 dX2_allowing_104 (lv_at hl 0 rfl) ?_
                refine lv_aload_n C0.1 C0.2.1 dX2_allowing_106 rfl (lv_at hl 4 rfl) ?_
                refine tg_X2_city C0 h kSC_79 q_292 dX2_allowing_107 ?_
                refine tg_X0_wide C0 h kSC_1 q_257 dX2_allowing_110 (fun v_118 e_119 e_120 e_121 => ?_)
                have qh_122 : v_118.toInt = v_10.toInt := congrArg Int32.toInt (e_119.symm.trans (Eq.trans (Eq.trans (Fr.fI hF_55 kSC_1 (by decide)) (Eq.trans (Fr.fI u_32 kSC_1 (by decide)) (Eq.trans (Fr.fI u_22 kSC_1 (by decide)) (Fr.fI u_16 kSC_1 (by decide))))) e_11))
                refine y_divXm C0 (o18_60 e_12 e_13 c_14 b_60 b_61 hn_59 e_63 c_64 e_111 e_112 qh_113 e_115 e_116 e_117 e_120 e_121 qh_122) (o18_61 e_12 e_13 c_14 b_60 b_61 hn_59 e_63 c_64 e_111 e_112 qh_113 e_115 e_116 e_117 e_120 e_121 qh_122) dX2_allowing_113 (fun v_123 e_124 e_125 e_126 => ?_)
                refine lv_aload_n C0.1 C0.2.1 dX2_allowing_114 rfl (lv_at hl 4 rfl) ?_
                refine tg_X2_city C0 h kSC_79 q_292 dX2_allowing_115 ?_
                refine tg_X0_folk C0 h kSC_1 q_248 dX2_allowing_118 ?_
                refine tg_X1_hours C0 h kSC_10 q_218 dX2_allowing_121 (fun v_127 e_128 e_129 e_130 => ?_)
                refine lv_iload_n C0.1 C0.2.1 dX2_allowing_124 rfl (lv_at hl 5 rfl) ?_
                refine xr_iadd C0 dX2_allowing_125 (fun v_131 e_132 => ?_)
                refine lv_aload_n C0.1 C0.2.1 dX2_allowing_126 rfl (lv_at hl 4 rfl) ?_
                refine tg_X2_city C0 h kSC_79 q_292 dX2_allowing_127 ?_
                refine tg_X0_folk C0 h kSC_1 q_248 dX2_allowing_130 ?_
                refine tg_X1_sold C0 h kSC_10 q_206 dX2_allowing_133 ?_
                refine lv_iload C0.1 C0.2.1 dX2_allowing_136 (lv_at hl 0 rfl) ?_
                refine y_iald C0 h kSC_16 rfl (by decide) (o18_62 e_12 e_13 c_14 b_60 b_61 hn_59 e_63 c_64 e_111 e_112 qh_113 e_115 e_116 e_117 e_120 e_121 qh_122 e_124 e_125 e_126) (o18_63 e_12 e_13 c_14 b_60 b_61 hn_59 e_63 c_64 e_111 e_112 qh_113 e_115 e_116 e_117 e_120 e_121 qh_122 e_124 e_125 e_126) dX2_allowing_138 (fun v_133 e_134 e_135 e_136 => ?_)
                refine lv_iload_n C0.1 C0.2.1 dX2_allowing_139 rfl (lv_at hl 6 rfl) ?_
                refine y_ci h (y_rV (As := [.int v_114, .int v_123, .int v_131, .int v_133, .int a2]) (rest := []) C0 hZ h (c_X4_value l G Z ad _ h.2 6 kSC_6 v_114 v_123 v_131 v_133 a2) k_X4_value q_935 q_936 q_1133 kSC_6 rfl rfl rfl hl.1 rfl rfl (Nat.le_of_ble_eq_true rfl) dX2_allowing_140 ⟨Nat.le_of_ble_eq_true rfl, Nat.le_of_ble_eq_true rfl⟩ ⟨Nat.le_of_ble_eq_true rfl, Nat.le_of_ble_eq_true rfl⟩) (fun r_140 H locs ws_137 h u_138 p_139 => ?_)
                obtain ⟨e_141, e_142⟩ := p_139
                replace HE : FT = g24c_X2_allowing R67 (xso SC ad ws_137) r_140.toInt a1.toInt a2.toInt a3.toInt v_39.toInt v_49.toInt x7_53.toInt := HE.trans (by rw [e_141, e_142, (xg1 e_134 : v_133.toInt = (xso SC ad ws_54) 1 16 x7_53.toInt.toNat), e_132, (xg0 e_128 : v_127.toInt = (xso SC ad ws_54) 0 10 8), e_124, (xg0 e_119 : v_118.toInt = (xso SC ad ws_54) 0 1 5), e_115, (xg0 e_110 : v_109.toInt = (xso SC ad ws_54) 0 1 5)]; rfl)
                replace HE : FT = g25b_X2_allowing R67 (xso SC ad ws_137) r_140.toInt a1.toInt a2.toInt a3.toInt v_39.toInt v_49.toInt x7_53.toInt := HE.trans rfl
                refine y_if_eq (tgt := 160) C0 dX2_allowing_143 (by decide) (fun c_143 => ?_) (fun c_143 => ?_)
                · -- 143
                  replace HE : FT = g26_X2_allowing R67 (xso SC ad ws_137) a1.toInt a2.toInt a3.toInt v_39.toInt v_49.toInt x7_53.toInt := HE.trans (if_pos c_143)
                  refine y_inc (kp := 0) (n := 1) (fun v_144 => [(7, .int v_144), (6, .int v_49), (5, .int v_39), (4, .ref (ad 6)), (0, .ref (ad 79)), (1, .int a1), (2, .int a2), (3, .int a3)]) C0 hl rfl (by decide) (by decide) (fun _ => rfl) (o18_64 e_12 e_13 c_14 b_60 b_61 hn_59 e_63 c_64 e_111 e_112 qh_113 e_115 e_116 e_117 e_120 e_121 qh_122 e_124 e_125 e_126 (le_min x7_53) (le_max x7_53) (le_min v_10) (le_max v_10) (le_min v_62) (le_max v_62) (le_min v_109) (le_max v_109) (le_min v_114) (le_max v_114) (le_min v_118) (le_max v_118) (le_min v_123) (le_max v_123)) (o18_65 e_12 e_13 c_14 b_60 b_61 hn_59 e_63 c_64 e_111 e_112 qh_113 e_115 e_116 e_117 e_120 e_121 qh_122 e_124 e_125 e_126 (le_min x7_53) (le_max x7_53) (le_min v_10) (le_max v_10) (le_min v_62) (le_max v_62) (le_min v_109) (le_max v_109) (le_min v_114) (le_max v_114) (le_min v_118) (le_max v_118) (le_min v_123) (le_max v_123)) dX2_allowing_160 (fun v_144 ls e_145 hl => ?_)
                  refine lv_goto (tgt := 67) C0.1 C0.2.1 dX2_allowing_163 (by decide) ?_
                  exact ih_57 v_144 _ _ _ _ (o18_66 e_12 e_13 c_14 b_60 b_61 hn_59 e_63 c_64 e_111 e_112 qh_113 e_115 e_116 e_117 e_120 e_121 qh_122 e_124 e_125 e_126 e_145) (o18_67 e_12 e_13 c_14 b_60 b_61 hn_59 e_63 c_64 e_111 e_112 qh_113 e_115 e_116 e_117 e_120 e_121 qh_122 e_124 e_125 e_126 e_145) (o18_68 e_12 e_13 c_14 b_60 b_61 hn_59 e_63 c_64 e_111 e_112 qh_113 e_115 e_116 e_117 e_120 e_121 qh_122 e_124 e_125 e_126 e_145) (((show FT = R67 (xso SC ad ws_137) a1.toInt a2.toInt a3.toInt v_39.toInt v_49.toInt v_144.toInt from HE.trans (by rw [e_145]; rfl)).trans (by rw [hR67]))) h (Fr.tr hF_55 (Fr.mono u_138 (by decide))) (lv_sub hl [0, 1, 2, 3, 4, 5, 6, 7] rfl)
                · -- 143
                  replace HE : FT = g27_X2_allowing R67 (xso SC ad ws_137) a1.toInt a2.toInt a3.toInt v_39.toInt v_49.toInt x7_53.toInt := HE.trans (if_neg c_143)
                  refine lv_aload_n C0.1 C0.2.1 dX2_allowing_146 rfl (lv_at hl 4 rfl) ?_
                  refine tg_X2_allowed C0 h kSC_79 q_295 dX2_allowing_147 ?_
                  refine lv_iload C0.1 C0.2.1 dX2_allowing_150 (lv_at hl 2 rfl) ?_
                  refine lv_dup2_11 C0.1 C0.2.1 dX2_allowing_152 rfl rfl ?_
                  refine y_iald C0 h kSC_82 rfl (by decide) (o18_46 e_27 e_28 e_30 e_37 e_38 e_40) (o18_47 e_27 e_28 e_30 e_37 e_38 e_40) dX2_allowing_153 (fun v_146 e_147 e_148 e_149 => ?_)
                  refine y_c1 (n := 1) C0 (by decide) dX2_allowing_154 (fun v_150 e_151 => ?_)
                  refine lv_iload C0.1 C0.2.1 dX2_allowing_155 (lv_at hl 0 rfl) ?_
                  refine xr_ishl C0 dX2_allowing_157 (fun v_152 e_153 => ?_)
                  refine xr_ior C0 dX2_allowing_158 (fun v_154 e_155 => ?_)
                  have hO_158 := h.2
                  refine y_iast C0 h kSC_82 rfl (by decide) (o18_46 e_27 e_28 e_30 e_37 e_38 e_40) (o18_47 e_27 e_28 e_30 e_37 e_38 e_40) (le_min v_154) (le_max v_154) dX2_allowing_159 (fun H locs ws_156 h u_157 => ?_)
                  replace HE : FT = g28w_X2_allowing R67 (xso SC ad ws_156) a1.toInt a2.toInt a3.toInt v_39.toInt v_49.toInt x7_53.toInt := HE.trans (by rw [(xso_A (i := 82) hO_158 h.2 kSC_82 rfl u_157), e_155, e_153, e_151, (xg1 e_147 : v_146.toInt = (xso SC ad ws_137) 1 82 v_39.toInt.toNat)]; rfl)
                  refine y_inc (kp := 0) (n := 1) (fun v_159 => [(7, .int v_159), (6, .int v_49), (5, .int v_39), (4, .ref (ad 6)), (0, .ref (ad 79)), (1, .int a1), (2, .int a2), (3, .int a3)]) C0 hl rfl (by decide) (by decide) (fun _ => rfl) (o18_64 e_12 e_13 c_14 b_60 b_61 hn_59 e_63 c_64 e_111 e_112 qh_113 e_115 e_116 e_117 e_120 e_121 qh_122 e_124 e_125 e_126 (le_min x7_53) (le_max x7_53) (le_min v_10) (le_max v_10) (le_min v_62) (le_max v_62) (le_min v_109) (le_max v_109) (le_min v_114) (le_max v_114) (le_min v_118) (le_max v_118) (le_min v_123) (le_max v_123)) (o18_65 e_12 e_13 c_14 b_60 b_61 hn_59 e_63 c_64 e_111 e_112 qh_113 e_115 e_116 e_117 e_120 e_121 qh_122 e_124 e_125 e_126 (le_min x7_53) (le_max x7_53) (le_min v_10) (le_max v_10) (le_min v_62) (le_max v_62) (le_min v_109) (le_max v_109) (le_min v_114) (le_max v_114) (le_min v_118) (le_max v_118) (le_min v_123) (le_max v_123)) dX2_allowing_160 (fun v_159 ls e_160 hl => ?_)
                  refine lv_goto (tgt := 67) C0.1 C0.2.1 dX2_allowing_163 (by decide) ?_
                  exact ih_57 v_159 _ _ _ _ (o18_66 e_12 e_13 c_14 b_60 b_61 hn_59 e_63 c_64 e_111 e_112 qh_113 e_115 e_116 e_117 e_120 e_121 qh_122 e_124 e_125 e_126 e_160) (o18_67 e_12 e_13 c_14 b_60 b_61 hn_59 e_63 c_64 e_111 e_112 qh_113 e_115 e_116 e_117 e_120 e_121 qh_122 e_124 e_125 e_126 e_160) (o18_68 e_12 e_13 c_14 b_60 b_61 hn_59 e_63 c_64 e_111 e_112 qh_113 e_115 e_116 e_117 e_120 e_121 qh_122 e_124 e_125 e_126 e_160) (((show FT = R67 (xso SC ad ws_156) a1.toInt a2.toInt a3.toInt v_39.toInt v_49.toInt v_159.toInt from HE.trans (by rw [e_160]; rfl)).trans (by rw [hR67]))) h (Fr.tr (Fr.tr hF_55 (Fr.mono u_138 (by decide))) (Fr.up u_157.1 kSC_82 (by decide))) (lv_sub hl [0, 1, 2, 3, 4, 5, 6, 7] rfl)
      exact lp_56 ((25 - v_51.toInt + 1).toNat) v_51 _ _ _ _ (o18_69 e_52) (o18_1 e_52) (o18_70 e_52) ((show FT = L11_X2_allowing (Int.toNat (25 - v_51.toInt + 1)) (xso SC ad ws_31) a1.toInt a2.toInt a3.toInt v_39.toInt v_49.toInt v_51.toInt from HE.trans (by rw [e_52, e_50, e_48, e_46, (xg1 e_42 : v_41.toInt = (xso SC ad ws_31) 1 81 v_39.toInt.toNat), e_40]; rfl))) h Fr.rf (lv_sub hl [0, 1, 2, 3, 4, 5, 6, 7] rfl)
    · -- 24
      replace HE : FT = g7_X2_allowing (xso SC ad ws_1) a3.toInt := HE.trans (if_neg (Int.not_lt.mpr c_14))
      refine lv_iload_n C0.1 C0.2.1 dX2_allowing_27 rfl (lv_at hl 4 rfl) ?_
      replace HE : FT = ((xso SC ad ws_1), a3.toInt) := HE.trans rfl
      rw [hQ]
      exact y_iret C0 h (Fr.mono u_2 (by decide)) ⟨(congrArg Prod.fst (HE.symm.trans hFT)), (congrArg Prod.snd (HE.symm.trans hFT))⟩ dX2_allowing_28
noncomputable def g10_X2_lefts (s : XS) (a3 : Int) : XR := (s, (a3 - 1))
noncomputable def g11_X2_lefts (s : XS) : XR := (s, 0)
noncomputable def g9b_X2_lefts (s : XS) (v_39 : Int) (a3 : Int) : XR := if v_39 = 0 then g10_X2_lefts s a3 else g11_X2_lefts s
noncomputable def g8c_X2_lefts (s : XS) (r_32 : Int) (a3 : Int) (v_6 : Int) : XR := g9b_X2_lefts s ((Xiand (Xishr r_32 v_6) 1)) a3
noncomputable def g6_X2_lefts (s : XS) (a1 : Int) (a3 : Int) (v_6 : Int) : XR := g8c_X2_lefts ((f_X2_freeAt s a1).1) (((f_X2_freeAt s a1).2)) a3 v_6
noncomputable def g7_X2_lefts (s : XS) : XR := (s, ((-1)))
noncomputable def g5b_X2_lefts (s : XS) (r_25 : Int) (a1 : Int) (a3 : Int) (v_6 : Int) : XR := if r_25 = 0 then g7_X2_lefts s else g6_X2_lefts s a1 a3 v_6
noncomputable def g4c_X2_lefts (s : XS) (r_25 : Int) (a1 : Int) (a3 : Int) (v_6 : Int) : XR := g5b_X2_lefts s r_25 a1 a3 v_6
noncomputable def g2_X2_lefts (s : XS) (a1 : Int) (a2 : Int) (a3 : Int) : XR := g4c_X2_lefts ((f_X2_allowing s a1 (Xiand (a2 + ((tTurn (Int.toNat a3)).toInt)) 3) (Xishl 1 (a2 / 4))).1) (((f_X2_allowing s a1 (Xiand (a2 + ((tTurn (Int.toNat a3)).toInt)) 3) (Xishl 1 (a2 / 4))).2)) a1 a3 ((a2 / 4))
noncomputable def g3_X2_lefts (s : XS) : XR := (s, 0)
noncomputable def g1b_X2_lefts (s : XS) (a3 : Int) (a1 : Int) (a2 : Int) : XR := if a3 < 2 then g3_X2_lefts s else g2_X2_lefts s a1 a2 a3
noncomputable def f_X2_lefts (s : XS) (a1 : Int) (a2 : Int) (a3 : Int) : XR := g1b_X2_lefts s a3 a1 a2
set_option maxHeartbeats 4000000 in
set_option maxRecDepth 100000 in
theorem c_X2_lefts (l : Launch) (G : GG) (Z : RZ) (ad : Nat → Nat) (ws0 : va_W) (hT : Ty G SC ad ws0) (a1 : Int32) (a2 : Int32) (a3 : Int32) (l1 : 0 ≤ a1.toInt) (u1 : a1.toInt ≤ 239) (l2 : 0 ≤ a2.toInt) (u2 : a2.toInt ≤ 99) (l3 : 0 ≤ a3.toInt) (u3 : a3.toInt ≤ 3) : Mq l yX2_lefts cX2_lefts 5 (some .int) 4 G Z [.ref (ad 79), .int a1, .int a2, .int a3] ws0 (PI G SC ad [4, 5, 18, 19, 20, 21] ws0 (fun r u => (xso SC ad u = (f_X2_lefts (xso SC ad ws0) a1.toInt a2.toInt a3.toInt).1) ∧ (r.toInt = (f_X2_lefts (xso SC ad ws0) a1.toInt a2.toInt a3.toInt).2) ∧ ((-1) ≤ r.toInt) ∧ (r.toInt ≤ 2))) := by
  refine Mq.start (by decide) (Nat.le_of_ble_eq_true rfl) ?_
  intro p e s m below meth c A ls C0 hZ h hl
  have hl : lv_has ls 5 [(0, .ref (ad 79)), (1, .int a1), (2, .int a2), (3, .int a3)] := hl
  have h : Wt G SC ad A s s.heap [] ws0 := ⟨h, hT⟩
  obtain ⟨args, hargs⟩ : ∃ z, z = ([.ref (ad 79), .int a1, .int a2, .int a3] : List Value).toArray := ⟨_, rfl⟩
  rw [← hargs] at C0 ⊢
  have C0 : Cx p s m args meth c RX2 cX2_lefts 5 (some .int) := C0
  obtain ⟨Q, hQ⟩ : ∃ z, z = MQ below ((PI G SC ad [4, 5, 18, 19, 20, 21] ws0 (fun r u => (xso SC ad u = (f_X2_lefts (xso SC ad ws0) a1.toInt a2.toInt a3.toInt).1) ∧ (r.toInt = (f_X2_lefts (xso SC ad ws0) a1.toInt a2.toInt a3.toInt).2) ∧ ((-1) ≤ r.toInt) ∧ (r.toInt ≤ 2))) A) args s 0 0 A := ⟨_, rfl⟩
  rw [← hQ]
  obtain ⟨FT, hFT⟩ : ∃ z, z = f_X2_lefts (xso SC ad ws0) a1.toInt a2.toInt a3.toInt := ⟨_, rfl⟩
  have HE : FT = f_X2_lefts (xso SC ad ws0) a1.toInt a2.toInt a3.toInt := hFT
  refine lv_iload_n C0.1 C0.2.1 dX2_lefts_0 rfl (lv_at hl 3 rfl) ?_
  refine y_c1 (n := 2) C0 (by decide) dX2_lefts_1 (fun v_1 e_2 => ?_)
  replace HE : FT = g1b_X2_lefts (xso SC ad ws0) a3.toInt a1.toInt a2.toInt := HE.trans rfl
  refine y_icmp_ge (tgt := 7) C0 dX2_lefts_2 (by decide) (fun c_3 => ?_) (fun c_3 => ?_)
  · -- 2
    replace HE : FT = g2_X2_lefts (xso SC ad ws0) a1.toInt a2.toInt a3.toInt := HE.trans (if_neg (o18_72 l3 u3 e_2 c_3))
    refine lv_iload_n C0.1 C0.2.1 dX2_lefts_7 rfl (lv_at hl 2 rfl) ?_
    refine y_c1 (n := 2) C0 (by decide) dX2_lefts_8 (fun v_4 e_5 => ?_)
    refine y_shr 2 2 (n := 4) C0 (Eq.trans (o18_71 e_5) (by decide)) (by decide) (by decide) dX2_lefts_9 (fun v_6 e_7 => ?_)
    refine lv_istore (lv' := [(4, .int v_6), (0, .ref (ad 79)), (1, .int a1), (2, .int a2), (3, .int a3)]) C0.1 C0.2.1 dX2_lefts_10 hl (by decide) rfl (fun ls hl => ?_)
    refine lv_aload_n C0.1 C0.2.1 dX2_lefts_12 rfl (lv_at hl 1 rfl) ?_
    refine lv_iload_n C0.1 C0.2.1 dX2_lefts_13 rfl (lv_at hl 2 rfl) ?_
    refine lv_iload_n C0.1 C0.2.1 dX2_lefts_14 rfl (lv_at hl 3 rfl) ?_
    refine y_turned C0 hZ h hZ.2.2.2.2.2.2.2 dX2_lefts_15 ?_
    refine lv_iload_n C0.1 C0.2.1 dX2_lefts_18 rfl (lv_at hl 4 rfl) ?_
    refine y_tald C0 hZ h (o18_74 l3 u3 e_2 c_3) (o18_75 l3 u3 e_2 c_3) dX2_lefts_19 (fun v_11 e_8 e_9 e_10 => ?_)
    refine y_add C0 (o18_76 l2 u2 e_7 e_9 e_10 (le_min a2) (le_max a2) (le_min v_11) (le_max v_11) (le_min v_6) (le_max v_6)) (o18_77 l2 u2 e_7 e_9 e_10 (le_min a2) (le_max a2) (le_min v_11) (le_max v_11) (le_min v_6) (le_max v_6)) dX2_lefts_20 (fun v_12 e_13 => ?_)
    refine y_c1 (n := 3) C0 (by decide) dX2_lefts_21 (fun v_14 e_15 => ?_)
    refine xr_iand C0 dX2_lefts_22 (fun v_16 e_17 => ?_)
    refine y_c1 (n := 1) C0 (by decide) dX2_lefts_23 (fun v_18 e_19 => ?_)
    refine lv_iload C0.1 C0.2.1 dX2_lefts_24 (lv_at hl 0 rfl) ?_
    refine xr_ishl C0 dX2_lefts_26 (fun v_20 e_21 => ?_)
    refine y_ci h (y_rV (As := [.int a1, .int v_16, .int v_20]) (rest := []) C0 hZ h (c_X2_allowing l G Z ad _ h.2 a1 v_16 v_20 (o18_37 l1 u1) (o18_38 l1 u1) (o18_42 (xb_and 3 2 (n := 3) e_17 (Eq.trans (o18_78 e_15) (by decide)) (by decide) (by decide) (by decide)).1 (xb_and 3 2 (n := 3) e_17 (Eq.trans (o18_78 e_15) (by decide)) (by decide) (by decide) (by decide)).2) (o18_43 (xb_and 3 2 (n := 3) e_17 (Eq.trans (o18_78 e_15) (by decide)) (by decide) (by decide) (by decide)).1 (xb_and 3 2 (n := 3) e_17 (Eq.trans (o18_78 e_15) (by decide)) (by decide) (by decide) (by decide)).2)) k_X2_allowing q_1117 q_1118 q_1188 kSC_79 rfl rfl rfl hl.1 rfl rfl (Nat.le_of_ble_eq_true rfl) dX2_lefts_27 ⟨Nat.le_of_ble_eq_true rfl, Nat.le_of_ble_eq_true rfl⟩ ⟨Nat.le_of_ble_eq_true rfl, Nat.le_of_ble_eq_true rfl⟩) (fun r_25 H locs ws_22 h u_23 p_24 => ?_)
    obtain ⟨e_26, e_27⟩ := p_24
    replace HE : FT = g4c_X2_lefts (xso SC ad ws_22) r_25.toInt a1.toInt a3.toInt v_6.toInt := HE.trans (by rw [e_26, e_27, e_21, e_7, e_19, e_17, e_15, e_13, (congrArg Int32.toInt e_8)]; rfl)
    replace HE : FT = g5b_X2_lefts (xso SC ad ws_22) r_25.toInt a1.toInt a3.toInt v_6.toInt := HE.trans rfl
    refine y_if_ne (tgt := 35) C0 dX2_lefts_30 (by decide) (fun c_28 => ?_) (fun c_28 => ?_)
    · -- 30
      replace HE : FT = g6_X2_lefts (xso SC ad ws_22) a1.toInt a3.toInt v_6.toInt := HE.trans (if_neg c_28)
      refine lv_aload_n C0.1 C0.2.1 dX2_lefts_35 rfl (lv_at hl 1 rfl) ?_
      refine lv_iload_n C0.1 C0.2.1 dX2_lefts_36 rfl (lv_at hl 2 rfl) ?_
      refine y_ci h (y_rV (As := [.int a1]) (rest := []) C0 hZ h (c_X2_freeAt l G Z ad _ h.2 a1 (o18_37 l1 u1) (o18_38 l1 u1)) k_X2_freeAt q_1095 q_1096 q_1189 kSC_79 rfl rfl rfl hl.1 rfl rfl (Nat.le_of_ble_eq_true rfl) dX2_lefts_37 ⟨Nat.le_of_ble_eq_true rfl, Nat.le_of_ble_eq_true rfl⟩ ⟨Nat.le_of_ble_eq_true rfl, Nat.le_of_ble_eq_true rfl⟩) (fun r_32 H locs ws_29 h u_30 p_31 => ?_)
      obtain ⟨e_33, e_34⟩ := p_31
      replace HE : FT = g8c_X2_lefts (xso SC ad ws_29) r_32.toInt a3.toInt v_6.toInt := HE.trans (by rw [e_33, e_34]; rfl)
      refine lv_iload C0.1 C0.2.1 dX2_lefts_40 (lv_at hl 0 rfl) ?_
      refine xr_ishr C0 dX2_lefts_42 (fun v_35 e_36 => ?_)
      refine y_c1 (n := 1) C0 (by decide) dX2_lefts_43 (fun v_37 e_38 => ?_)
      refine xr_iand C0 dX2_lefts_44 (fun v_39 e_40 => ?_)
      replace HE : FT = g9b_X2_lefts (xso SC ad ws_29) v_39.toInt a3.toInt := HE.trans (by rw [e_40, e_38, e_36]; rfl)
      refine y_if_eq (tgt := 52) C0 dX2_lefts_45 (by decide) (fun c_41 => ?_) (fun c_41 => ?_)
      · -- 45
        replace HE : FT = g10_X2_lefts (xso SC ad ws_29) a3.toInt := HE.trans (if_pos c_41)
        refine lv_iload_n C0.1 C0.2.1 dX2_lefts_52 rfl (lv_at hl 4 rfl) ?_
        refine y_c1 (n := 1) C0 (by decide) dX2_lefts_53 (fun v_42 e_43 => ?_)
        refine y_sub C0 (o18_79 l3 u3 e_2 c_3 e_43 (le_min a3) (le_max a3) (le_min v_42) (le_max v_42) (le_min v_1) (le_max v_1)) (o18_80 l3 u3 e_2 c_3 e_43 (le_min a3) (le_max a3) (le_min v_42) (le_max v_42) (le_min v_1) (le_max v_1)) dX2_lefts_54 (fun v_44 e_45 => ?_)
        replace HE : FT = ((xso SC ad ws_29), v_44.toInt) := HE.trans (by rw [e_45, e_43]; rfl)
        rw [hQ]
        exact y_iret C0 h (Fr.tr u_23 (Fr.mono u_30 (by decide))) ⟨(congrArg Prod.fst (HE.symm.trans hFT)), (congrArg Prod.snd (HE.symm.trans hFT)), (o18_81 l3 u3 e_2 c_3 e_43 e_45), (o18_82 l3 u3 e_2 c_3 e_43 e_45)⟩ dX2_lefts_55
      · -- 45
        replace HE : FT = g11_X2_lefts (xso SC ad ws_29) := HE.trans (if_neg c_41)
        refine y_c1 (n := 0) C0 (by decide) dX2_lefts_48 (fun v_46 e_47 => ?_)
        refine lv_goto (tgt := 55) C0.1 C0.2.1 dX2_lefts_49 (by decide) ?_
        replace HE : FT = ((xso SC ad ws_29), v_46.toInt) := HE.trans (by rw [e_47]; rfl)
        rw [hQ]
        exact y_iret C0 h (Fr.tr u_23 (Fr.mono u_30 (by decide))) ⟨(congrArg Prod.fst (HE.symm.trans hFT)), (congrArg Prod.snd (HE.symm.trans hFT)), (o18_83 e_47), (o18_84 e_47)⟩ dX2_lefts_55
    · -- 30
      replace HE : FT = g7_X2_lefts (xso SC ad ws_22) := HE.trans (if_pos c_28)
      refine y_c1 (n := (-1)) C0 (by decide) dX2_lefts_33 (fun v_48 e_49 => ?_)
      replace HE : FT = ((xso SC ad ws_22), v_48.toInt) := HE.trans (by rw [e_49]; rfl)
      rw [hQ]
      exact y_iret C0 h u_23 ⟨(congrArg Prod.fst (HE.symm.trans hFT)), (congrArg Prod.snd (HE.symm.trans hFT)), (o18_85 e_49), (o18_86 e_49)⟩ dX2_lefts_34
  · -- 2
    replace HE : FT = g3_X2_lefts (xso SC ad ws0) := HE.trans (if_pos (o18_73 l3 u3 e_2 c_3))
    refine y_c1 (n := 0) C0 (by decide) dX2_lefts_5 (fun v_50 e_51 => ?_)
    replace HE : FT = ((xso SC ad ws0), v_50.toInt) := HE.trans (by rw [e_51]; rfl)
    rw [hQ]
    exact y_iret C0 h Fr.rf ⟨(congrArg Prod.fst (HE.symm.trans hFT)), (congrArg Prod.snd (HE.symm.trans hFT)), (o18_83 e_51), (o18_84 e_51)⟩ dX2_lefts_6
noncomputable def g7w_X8_begin (s : XS) : XR := (s, 0)
noncomputable def g6w_X8_begin (s : XS) (a1 : Int) : XR := g7w_X8_begin (xup s 1 (Int.toNat (s 3 83 2)) (Int.toNat (Xiand a1 3)) ((Xishl 1 (a1 / 4))))
noncomputable def g4_X8_begin (s : XS) (a1 : Int) : XR := g6w_X8_begin (xup s 0 83 4 0) a1
noncomputable def g8w_X8_begin (R2 : XS → Int → Int → XR) (s : XS) (a1 : Int) (x2_3 : Int) : XR := R2 s a1 ((x2_3 + 1))
noncomputable def g5_X8_begin (R2 : XS → Int → Int → XR) (s : XS) (a1 : Int) (x2_3 : Int) : XR := g8w_X8_begin R2 (xup s 1 (Int.toNat (s 3 83 2)) (Int.toNat x2_3) (0)) a1 x2_3
noncomputable def g3b_X8_begin (R2 : XS → Int → Int → XR) (s : XS) (v_22 : Int) (x2_3 : Int) (a1 : Int) : XR := if x2_3 < v_22 then g5_X8_begin R2 s a1 x2_3 else g4_X8_begin s a1
noncomputable def g2l_X8_begin (R2 : XS → Int → Int → XR) (s : XS) (a1 : Int) (x2_3 : Int) : XR := g3b_X8_begin R2 s (((4 * (s 0 83 4)) + 4)) x2_3 a1
noncomputable def L1_X8_begin (n : Nat) : XS → Int → Int → XR := Nat.rec (motive := fun _ => XS → Int → Int → XR) (fun s _ _ => (s, 0)) (fun _ R2 => g2l_X8_begin R2) n
noncomputable def f_X8_begin (s : XS) (a1 : Int) : XR := L1_X8_begin (Int.toNat (484 - 0 + 1)) s a1 0
set_option maxHeartbeats 4000000 in
set_option maxRecDepth 100000 in
theorem c_X8_begin (l : Launch) (G : GG) (Z : RZ) (ad : Nat → Nat) (ws0 : va_W) (hT : Ty G SC ad ws0) (a1 : Int32) (l1 : 0 ≤ a1.toInt) (u1 : a1.toInt ≤ 99) : Mq l yX8_begin cX8_begin 3 none 1 G Z [.ref (ad 83), .int a1] ws0 (PV G SC ad [22, 23] ws0 (fun u => (xso SC ad u = (f_X8_begin (xso SC ad ws0) a1.toInt).1) ∧ (0 ≤ (fI u 83 4).toInt ∧ (fI u 83 4).toInt ≤ 0))) := by
  refine Mq.start (by decide) (Nat.le_of_ble_eq_true rfl) ?_
  intro p e s m below meth c A ls C0 hZ h hl
  have hl : lv_has ls 3 [(0, .ref (ad 83)), (1, .int a1)] := hl
  have h : Wt G SC ad A s s.heap [] ws0 := ⟨h, hT⟩
  obtain ⟨args, hargs⟩ : ∃ z, z = ([.ref (ad 83), .int a1] : List Value).toArray := ⟨_, rfl⟩
  rw [← hargs] at C0 ⊢
  have C0 : Cx p s m args meth c RX8 cX8_begin 3 none := C0
  obtain ⟨Q, hQ⟩ : ∃ z, z = MQ below ((PV G SC ad [22, 23] ws0 (fun u => (xso SC ad u = (f_X8_begin (xso SC ad ws0) a1.toInt).1) ∧ (0 ≤ (fI u 83 4).toInt ∧ (fI u 83 4).toInt ≤ 0))) A) args s 0 0 A := ⟨_, rfl⟩
  rw [← hQ]
  obtain ⟨FT, hFT⟩ : ∃ z, z = f_X8_begin (xso SC ad ws0) a1.toInt := ⟨_, rfl⟩
  have HE : FT = f_X8_begin (xso SC ad ws0) a1.toInt := hFT
  refine y_c1 (n := 0) C0 (by decide) dX8_begin_0 (fun v_1 e_2 => ?_)
  refine lv_istore_n (lv' := [(2, .int v_1), (0, .ref (ad 83)), (1, .int a1)]) C0.1 C0.2.1 dX8_begin_1 rfl hl (by decide) rfl (fun ls hl => ?_)
  have lp_6 : ∀ (n_8 : Nat) (x2_3 : Int32) (H : Heap) (locs : List Loc) (ls : Array Slot) (ws_4 : va_W), 484 - x2_3.toInt < (n_8 : Int) → 0 ≤ x2_3.toInt → x2_3.toInt ≤ 484 → (FT = L1_X8_begin n_8 (xso SC ad ws_4) a1.toInt x2_3.toInt) → Wt G SC ad A s H locs ws_4 → Fr SC [23] ws0 ws_4 → lv_has ls 3 [(2, .int x2_3), (0, .ref (ad 83)), (1, .int a1)] → W p l e (rmd 1 0 0) s m args below meth c H locs 0 0 Q (F0 m 2 ls []) := by
    intro n_8
    induction n_8 with
    | zero => intro x2_3 H locs ls ws_4 hn_9 b_10 b_11 HE h hF_5 hl; exact ((o18_87 b_10 b_11 hn_9)).elim
    | succ n_8 ih_7 =>
      intro x2_3 H locs ls ws_4 hn_9 b_10 b_11 HE h hF_5 hl
      obtain ⟨R2, hR2⟩ : ∃ z, z = L1_X8_begin n_8 := ⟨_, rfl⟩
      replace HE : FT = g2l_X8_begin R2 (xso SC ad ws_4) a1.toInt x2_3.toInt := HE.trans (by rw [hR2]; rfl)
      refine lv_iload_n C0.1 C0.2.1 dX8_begin_2 rfl (lv_at hl 0 rfl) ?_
      refine y_c1 (n := 4) C0 (by decide) dX8_begin_3 (fun v_12 e_13 => ?_)
      refine lv_aload_n C0.1 C0.2.1 dX8_begin_4 rfl (lv_at hl 1 rfl) ?_
      refine tg_X8_top C0 h kSC_83 q_318 dX8_begin_5 (fun v_14 e_15 e_16 e_17 => ?_)
      refine y_cmul (n := 4) C0 (o18_7 e_13) (o18_88 e_16 e_17 (le_min v_14) (le_max v_14)) (o18_89 e_16 e_17 (le_min v_14) (le_max v_14)) dX8_begin_8 (fun v_18 e_19 => ?_)
      refine y_c1 (n := 4) C0 (by decide) dX8_begin_9 (fun v_20 e_21 => ?_)
      refine y_add C0 (o18_90 e_16 e_17 e_19 e_21 (le_min v_18) (le_max v_18) (le_min v_20) (le_max v_20) (le_min v_14) (le_max v_14)) (o18_91 e_16 e_17 e_19 e_21 (le_min v_18) (le_max v_18) (le_min v_20) (le_max v_20) (le_min v_14) (le_max v_14)) dX8_begin_10 (fun v_22 e_23 => ?_)
      replace HE : FT = g3b_X8_begin R2 (xso SC ad ws_4) v_22.toInt x2_3.toInt a1.toInt := HE.trans (by rw [e_23, e_21, e_19, (xg0 e_15 : v_14.toInt = (xso SC ad ws_4) 0 83 4)]; rfl)
      refine y_icmp_ge (tgt := 27) C0 dX8_begin_11 (by decide) (fun c_24 => ?_) (fun c_24 => ?_)
      · -- 11
        replace HE : FT = g4_X8_begin (xso SC ad ws_4) a1.toInt := HE.trans (if_neg (Int.not_lt.mpr c_24))
        refine lv_aload_n C0.1 C0.2.1 dX8_begin_27 rfl (lv_at hl 1 rfl) ?_
        refine y_c1 (n := 0) C0 (by decide) dX8_begin_28 (fun v_25 e_26 => ?_)
        refine tp_X8_top C0 h kSC_83 q_318 (o18_1 e_26) (o18_92 e_26) dX8_begin_29 (fun H locs ws_27 h u_28 Xu_28 => ?_)
        replace HE : FT = g6w_X8_begin (xso SC ad ws_27) a1.toInt := HE.trans (by rw [Xu_28, e_26]; rfl)
        refine lv_aload_n C0.1 C0.2.1 dX8_begin_32 rfl (lv_at hl 1 rfl) ?_
        refine tg_X8_sets C0 h kSC_83 q_316 dX8_begin_33 (fun i_29 hi_29 ei_29 => ?_)
        refine lv_iload_n C0.1 C0.2.1 dX8_begin_36 rfl (lv_at hl 2 rfl) ?_
        refine y_c1 (n := 3) C0 (by decide) dX8_begin_37 (fun v_30 e_31 => ?_)
        refine xr_iand C0 dX8_begin_38 (fun v_32 e_33 => ?_)
        refine y_c1 (n := 1) C0 (by decide) dX8_begin_39 (fun v_34 e_35 => ?_)
        refine lv_iload_n C0.1 C0.2.1 dX8_begin_40 rfl (lv_at hl 2 rfl) ?_
        refine y_c1 (n := 2) C0 (by decide) dX8_begin_41 (fun v_36 e_37 => ?_)
        refine y_shr 2 2 (n := 4) C0 (Eq.trans (o18_71 e_37) (by decide)) (by decide) (by decide) dX8_begin_42 (fun v_38 e_39 => ?_)
        refine xr_ishl C0 dX8_begin_43 (fun v_40 e_41 => ?_)
        have hO_44 := h.2
        refine y_iast C0 h hi_29 rfl (by decide) (o18_42 (xb_and 3 2 (n := 3) e_33 (Eq.trans (o18_78 e_31) (by decide)) (by decide) (by decide) (by decide)).1 (xb_and 3 2 (n := 3) e_33 (Eq.trans (o18_78 e_31) (by decide)) (by decide) (by decide) (by decide)).2) (o18_93 (xb_and 3 2 (n := 3) e_33 (Eq.trans (o18_78 e_31) (by decide)) (by decide) (by decide) (by decide)).1 (xb_and 3 2 (n := 3) e_33 (Eq.trans (o18_78 e_31) (by decide)) (by decide) (by decide) (by decide)).2) (le_min v_40) (le_max v_40) dX8_begin_44 (fun H locs ws_42 h u_43 => ?_)
        replace HE : FT = g7w_X8_begin (xso SC ad ws_42) := HE.trans (by rw [(xso_A (i := i_29) hO_44 h.2 hi_29 rfl u_43), e_41, e_39, e_35, e_33, e_31, ei_29]; rfl)
        replace HE : FT = ((xso SC ad ws_42), 0) := HE.trans rfl
        rw [hQ]
        exact y_vret C0 h (Fr.tr (Fr.tr (Fr.mono hF_5 (by decide)) (Fr.up u_28.1 kSC_83 (by decide))) (Fr.up u_43.1 hi_29 (by decide))) ⟨(congrArg Prod.fst (HE.symm.trans hFT)), ⟨fbd_lo (Eq.trans (fI_of (u_43.1 83 (kd_ne kSC_83 hi_29 (by decide)))) u_28.2.1) (o18_1 e_26), fbd_hi (Eq.trans (fI_of (u_43.1 83 (kd_ne kSC_83 hi_29 (by decide)))) u_28.2.1) (o18_94 e_26)⟩⟩ dX8_begin_45
      · -- 11
        replace HE : FT = g5_X8_begin R2 (xso SC ad ws_4) a1.toInt x2_3.toInt := HE.trans (if_pos c_24)
        refine lv_aload_n C0.1 C0.2.1 dX8_begin_14 rfl (lv_at hl 1 rfl) ?_
        refine tg_X8_sets C0 h kSC_83 q_316 dX8_begin_15 (fun i_45 hi_45 ei_45 => ?_)
        refine lv_iload_n C0.1 C0.2.1 dX8_begin_18 rfl (lv_at hl 0 rfl) ?_
        refine y_c1 (n := 0) C0 (by decide) dX8_begin_19 (fun v_46 e_47 => ?_)
        have hO_50 := h.2
        refine y_iast C0 h hi_45 rfl (by decide) (o18_95 b_10 b_11 hn_9 e_16 e_17 e_19 e_21 e_23 c_24) (o18_96 b_10 b_11 hn_9 e_16 e_17 e_19 e_21 e_23 c_24) (le_min v_46) (le_max v_46) dX8_begin_20 (fun H locs ws_48 h u_49 => ?_)
        replace HE : FT = g8w_X8_begin R2 (xso SC ad ws_48) a1.toInt x2_3.toInt := HE.trans (by rw [(xso_A (i := i_45) hO_50 h.2 hi_45 rfl u_49), e_47, ei_45]; rfl)
        refine y_inc (kp := 0) (n := 1) (fun v_51 => [(2, .int v_51), (0, .ref (ad 83)), (1, .int a1)]) C0 hl rfl (by decide) (by decide) (fun _ => rfl) (o18_97 b_10 b_11 hn_9 e_16 e_17 e_19 e_21 e_23 c_24 (le_min x2_3) (le_max x2_3) (le_min v_14) (le_max v_14) (le_min v_18) (le_max v_18) (le_min v_20) (le_max v_20) (le_min v_22) (le_max v_22)) (o18_98 b_10 b_11 hn_9 e_16 e_17 e_19 e_21 e_23 c_24 (le_min x2_3) (le_max x2_3) (le_min v_14) (le_max v_14) (le_min v_18) (le_max v_18) (le_min v_20) (le_max v_20) (le_min v_22) (le_max v_22)) dX8_begin_21 (fun v_51 ls e_52 hl => ?_)
        refine lv_goto (tgt := 2) C0.1 C0.2.1 dX8_begin_24 (by decide) ?_
        exact ih_7 v_51 _ _ _ _ (o18_99 b_10 b_11 hn_9 e_16 e_17 e_19 e_21 e_23 c_24 e_52) (o18_100 b_10 b_11 hn_9 e_16 e_17 e_19 e_21 e_23 c_24 e_52) (o18_101 b_10 b_11 hn_9 e_16 e_17 e_19 e_21 e_23 c_24 e_52) (((show FT = R2 (xso SC ad ws_48) a1.toInt v_51.toInt from HE.trans (by rw [e_52]; rfl)).trans (by rw [hR2]))) h (Fr.tr hF_5 (Fr.up u_49.1 hi_45 (by decide))) (lv_sub hl [0, 1, 2] rfl)
  exact lp_6 ((484 - v_1.toInt + 1).toNat) v_1 _ _ _ _ (o18_102 e_2) (o18_1 e_2) (o18_103 e_2) ((show FT = L1_X8_begin (Int.toNat (484 - v_1.toInt + 1)) (xso SC ad ws0) a1.toInt v_1.toInt from HE.trans (by rw [e_2]; rfl))) h Fr.rf (lv_sub hl [0, 1, 2] rfl)
noncomputable def g8w_X8_change (s : XS) : XR := (s, 0)
noncomputable def g6_X8_change (s : XS) (a1 : Int) : XR := g8w_X8_change (xup s 0 83 4 a1)
noncomputable def g9w_X8_change (R20 : XS → Int → Int → XR) (s : XS) (a1 : Int) (x3_9 : Int) : XR := R20 s a1 ((x3_9 + 1))
noncomputable def g7_X8_change (R20 : XS → Int → Int → XR) (s : XS) (a1 : Int) (x3_9 : Int) : XR := g9w_X8_change R20 (xup s 1 (Int.toNat (s 3 83 3)) (Int.toNat x3_9) (0)) a1 x3_9
noncomputable def g5b_X8_change (R20 : XS → Int → Int → XR) (s : XS) (v_28 : Int) (x3_9 : Int) (a1 : Int) : XR := if x3_9 < v_28 then g7_X8_change R20 s a1 x3_9 else g6_X8_change s a1
noncomputable def g4l_X8_change (R20 : XS → Int → Int → XR) (s : XS) (a1 : Int) (x3_9 : Int) : XR := g5b_X8_change R20 s (((4 * (s 0 83 4)) + 4)) x3_9 a1
noncomputable def L3_X8_change (n : Nat) : XS → Int → Int → XR := Nat.rec (motive := fun _ => XS → Int → Int → XR) (fun s _ _ => (s, 0)) (fun _ R20 => g4l_X8_change R20) n
noncomputable def g2w_X8_change (s : XS) (a1 : Int) : XR := L3_X8_change (Int.toNat (484 - 0 + 1)) s a1 0
noncomputable def g1w_X8_change (s : XS) (a1 : Int) (i_1 : Nat) : XR := g2w_X8_change (xup s 3 83 3 (((i_1) : Nat) : Int)) a1
noncomputable def f_X8_change (s : XS) (a1 : Int) : XR := g1w_X8_change (xup s 3 83 2 ((((Int.toNat (s 3 83 3))) : Nat) : Int)) a1 ((Int.toNat (s 3 83 2)))
set_option maxHeartbeats 4000000 in
set_option maxRecDepth 100000 in
theorem c_X8_change (l : Launch) (G : GG) (Z : RZ) (ad : Nat → Nat) (ws0 : va_W) (hT : Ty G SC ad ws0) (a1 : Int32) (l1 : 0 ≤ a1.toInt) (u1 : a1.toInt ≤ 120) : Mq l yX8_change cX8_change 4 none 1 G Z [.ref (ad 83), .int a1] ws0 (PV G SC ad [22, 23] ws0 (fun u => (xso SC ad u = (f_X8_change (xso SC ad ws0) a1.toInt).1) ∧ (fI u 83 4 = a1))) := by
  refine Mq.start (by decide) (Nat.le_of_ble_eq_true rfl) ?_
  intro p e s m below meth c A ls C0 hZ h hl
  have hl : lv_has ls 4 [(0, .ref (ad 83)), (1, .int a1)] := hl
  have h : Wt G SC ad A s s.heap [] ws0 := ⟨h, hT⟩
  obtain ⟨args, hargs⟩ : ∃ z, z = ([.ref (ad 83), .int a1] : List Value).toArray := ⟨_, rfl⟩
  rw [← hargs] at C0 ⊢
  have C0 : Cx p s m args meth c RX8 cX8_change 4 none := C0
  obtain ⟨Q, hQ⟩ : ∃ z, z = MQ below ((PV G SC ad [22, 23] ws0 (fun u => (xso SC ad u = (f_X8_change (xso SC ad ws0) a1.toInt).1) ∧ (fI u 83 4 = a1))) A) args s 0 0 A := ⟨_, rfl⟩
  rw [← hQ]
  obtain ⟨FT, hFT⟩ : ∃ z, z = f_X8_change (xso SC ad ws0) a1.toInt := ⟨_, rfl⟩
  have HE : FT = f_X8_change (xso SC ad ws0) a1.toInt := hFT
  refine lv_aload_n C0.1 C0.2.1 dX8_change_0 rfl (lv_at hl 0 rfl) ?_
  refine tg_X8_sets C0 h kSC_83 q_316 dX8_change_1 (fun i_1 hi_1 ei_1 => ?_)
  refine lv_astore_n (lv' := [(2, .ref (ad i_1)), (0, .ref (ad 83)), (1, .int a1)]) C0.1 C0.2.1 dX8_change_4 rfl hl (by decide) rfl (fun ls hl => ?_)
  refine lv_aload_n C0.1 C0.2.1 dX8_change_5 rfl (lv_at hl 1 rfl) ?_
  refine lv_aload_n C0.1 C0.2.1 dX8_change_6 rfl (lv_at hl 1 rfl) ?_
  refine tg_X8_nexts C0 h kSC_83 q_317 dX8_change_7 (fun i_2 hi_2 ei_2 => ?_)
  refine tp_X8_sets C0 h kSC_83 q_316 hi_2 dX8_change_10 (fun H locs ws_3 h u_4 Xu_4 => ?_)
  replace HE : FT = g1w_X8_change (xso SC ad ws_3) a1.toInt i_1 := HE.trans (by rw [Xu_4, ei_2, ei_1]; rfl)
  refine lv_aload_n C0.1 C0.2.1 dX8_change_13 rfl (lv_at hl 1 rfl) ?_
  refine lv_aload_n C0.1 C0.2.1 dX8_change_14 rfl (lv_at hl 0 rfl) ?_
  refine tp_X8_nexts C0 h kSC_83 q_317 hi_1 dX8_change_15 (fun H locs ws_5 h u_6 Xu_6 => ?_)
  replace HE : FT = g2w_X8_change (xso SC ad ws_5) a1.toInt := HE.trans (by rw [Xu_6]; rfl)
  refine y_c1 (n := 0) C0 (by decide) dX8_change_18 (fun v_7 e_8 => ?_)
  refine lv_istore_n (lv' := [(3, .int v_7), (2, .ref (ad i_1)), (0, .ref (ad 83)), (1, .int a1)]) C0.1 C0.2.1 dX8_change_19 rfl hl (by decide) rfl (fun ls hl => ?_)
  have lp_12 : ∀ (n_14 : Nat) (x3_9 : Int32) (H : Heap) (locs : List Loc) (ls : Array Slot) (ws_10 : va_W), 484 - x3_9.toInt < (n_14 : Int) → 0 ≤ x3_9.toInt → x3_9.toInt ≤ 484 → (FT = L3_X8_change n_14 (xso SC ad ws_10) a1.toInt x3_9.toInt) → Wt G SC ad A s H locs ws_10 → Fr SC [23] ws_5 ws_10 → lv_has ls 4 [(3, .int x3_9), (2, .ref (ad i_1)), (0, .ref (ad 83)), (1, .int a1)] → W p l e (rmd 1 0 0) s m args below meth c H locs 0 0 Q (F0 m 20 ls []) := by
    intro n_14
    induction n_14 with
    | zero => intro x3_9 H locs ls ws_10 hn_15 b_16 b_17 HE h hF_11 hl; exact ((o18_87 b_16 b_17 hn_15)).elim
    | succ n_14 ih_13 =>
      intro x3_9 H locs ls ws_10 hn_15 b_16 b_17 HE h hF_11 hl
      obtain ⟨R20, hR20⟩ : ∃ z, z = L3_X8_change n_14 := ⟨_, rfl⟩
      replace HE : FT = g4l_X8_change R20 (xso SC ad ws_10) a1.toInt x3_9.toInt := HE.trans (by rw [hR20]; rfl)
      refine lv_iload_n C0.1 C0.2.1 dX8_change_20 rfl (lv_at hl 0 rfl) ?_
      refine y_c1 (n := 4) C0 (by decide) dX8_change_21 (fun v_18 e_19 => ?_)
      refine lv_aload_n C0.1 C0.2.1 dX8_change_22 rfl (lv_at hl 2 rfl) ?_
      refine tg_X8_top C0 h kSC_83 q_318 dX8_change_23 (fun v_20 e_21 e_22 e_23 => ?_)
      refine y_cmul (n := 4) C0 (o18_7 e_19) (o18_88 e_22 e_23 (le_min v_20) (le_max v_20)) (o18_89 e_22 e_23 (le_min v_20) (le_max v_20)) dX8_change_26 (fun v_24 e_25 => ?_)
      refine y_c1 (n := 4) C0 (by decide) dX8_change_27 (fun v_26 e_27 => ?_)
      refine y_add C0 (o18_90 e_22 e_23 e_25 e_27 (le_min v_24) (le_max v_24) (le_min v_26) (le_max v_26) (le_min v_20) (le_max v_20)) (o18_91 e_22 e_23 e_25 e_27 (le_min v_24) (le_max v_24) (le_min v_26) (le_max v_26) (le_min v_20) (le_max v_20)) dX8_change_28 (fun v_28 e_29 => ?_)
      replace HE : FT = g5b_X8_change R20 (xso SC ad ws_10) v_28.toInt x3_9.toInt a1.toInt := HE.trans (by rw [e_29, e_27, e_25, (xg0 e_21 : v_20.toInt = (xso SC ad ws_10) 0 83 4)]; rfl)
      refine y_icmp_ge (tgt := 45) C0 dX8_change_29 (by decide) (fun c_30 => ?_) (fun c_30 => ?_)
      · -- 29
        replace HE : FT = g6_X8_change (xso SC ad ws_10) a1.toInt := HE.trans (if_neg (Int.not_lt.mpr c_30))
        refine lv_aload_n C0.1 C0.2.1 dX8_change_45 rfl (lv_at hl 2 rfl) ?_
        refine lv_iload_n C0.1 C0.2.1 dX8_change_46 rfl (lv_at hl 3 rfl) ?_
        refine tp_X8_top C0 h kSC_83 q_318 (o18_104 l1 u1) (o18_105 l1 u1) dX8_change_47 (fun H locs ws_31 h u_32 Xu_32 => ?_)
        replace HE : FT = g8w_X8_change (xso SC ad ws_31) := HE.trans (by rw [Xu_32]; rfl)
        replace HE : FT = ((xso SC ad ws_31), 0) := HE.trans rfl
        rw [hQ]
        exact y_vret C0 h (Fr.tr (Fr.tr (Fr.tr (Fr.up u_4.1 kSC_83 (by decide)) (Fr.up u_6.1 kSC_83 (by decide))) (Fr.mono hF_11 (by decide))) (Fr.up u_32.1 kSC_83 (by decide))) ⟨(congrArg Prod.fst (HE.symm.trans hFT)), (Eq.trans rfl u_32.2.1)⟩ dX8_change_50
      · -- 29
        replace HE : FT = g7_X8_change R20 (xso SC ad ws_10) a1.toInt x3_9.toInt := HE.trans (if_pos c_30)
        refine lv_aload_n C0.1 C0.2.1 dX8_change_32 rfl (lv_at hl 2 rfl) ?_
        refine tg_X8_nexts C0 h kSC_83 q_317 dX8_change_33 (fun i_33 hi_33 ei_33 => ?_)
        refine lv_iload_n C0.1 C0.2.1 dX8_change_36 rfl (lv_at hl 0 rfl) ?_
        refine y_c1 (n := 0) C0 (by decide) dX8_change_37 (fun v_34 e_35 => ?_)
        have hO_38 := h.2
        refine y_iast C0 h hi_33 rfl (by decide) (o18_95 b_16 b_17 hn_15 e_22 e_23 e_25 e_27 e_29 c_30) (o18_96 b_16 b_17 hn_15 e_22 e_23 e_25 e_27 e_29 c_30) (le_min v_34) (le_max v_34) dX8_change_38 (fun H locs ws_36 h u_37 => ?_)
        replace HE : FT = g9w_X8_change R20 (xso SC ad ws_36) a1.toInt x3_9.toInt := HE.trans (by rw [(xso_A (i := i_33) hO_38 h.2 hi_33 rfl u_37), e_35, ei_33]; rfl)
        refine y_inc (kp := 0) (n := 1) (fun v_39 => [(3, .int v_39), (2, .ref (ad i_1)), (0, .ref (ad 83)), (1, .int a1)]) C0 hl rfl (by decide) (by decide) (fun _ => rfl) (o18_97 b_16 b_17 hn_15 e_22 e_23 e_25 e_27 e_29 c_30 (le_min x3_9) (le_max x3_9) (le_min v_20) (le_max v_20) (le_min v_24) (le_max v_24) (le_min v_26) (le_max v_26) (le_min v_28) (le_max v_28)) (o18_98 b_16 b_17 hn_15 e_22 e_23 e_25 e_27 e_29 c_30 (le_min x3_9) (le_max x3_9) (le_min v_20) (le_max v_20) (le_min v_24) (le_max v_24) (le_min v_26) (le_max v_26) (le_min v_28) (le_max v_28)) dX8_change_39 (fun v_39 ls e_40 hl => ?_)
        refine lv_goto (tgt := 20) C0.1 C0.2.1 dX8_change_42 (by decide) ?_
        exact ih_13 v_39 _ _ _ _ (o18_99 b_16 b_17 hn_15 e_22 e_23 e_25 e_27 e_29 c_30 e_40) (o18_100 b_16 b_17 hn_15 e_22 e_23 e_25 e_27 e_29 c_30 e_40) (o18_101 b_16 b_17 hn_15 e_22 e_23 e_25 e_27 e_29 c_30 e_40) (((show FT = R20 (xso SC ad ws_36) a1.toInt v_39.toInt from HE.trans (by rw [e_40]; rfl)).trans (by rw [hR20]))) h (Fr.tr hF_11 (Fr.up u_37.1 hi_33 (by decide))) (lv_sub hl [0, 1, 2, 3] rfl)
  exact lp_12 ((484 - v_7.toInt + 1).toNat) v_7 _ _ _ _ (o18_102 e_8) (o18_1 e_8) (o18_103 e_8) ((show FT = L3_X8_change (Int.toNat (484 - v_7.toInt + 1)) (xso SC ad ws_5) a1.toInt v_7.toInt from HE.trans (by rw [e_8]; rfl))) h Fr.rf (lv_sub hl [0, 1, 2, 3] rfl)
noncomputable def g6w_X8_thin (s : XS) : XR := (s, 0)
noncomputable def g4_X8_thin (s : XS) (x1_6 : Int) : XR := g6w_X8_thin (xup s 0 83 4 x1_6)
noncomputable def g10_X8_thin (R4 : XS → Int → Int → XR) (s : XS) (x1_28 : Int) (x2_5 : Int) : XR := R4 s x1_28 ((x2_5 + 1))
noncomputable def g14_X8_thin (R4 : XS → Int → Int → XR) (R14 : XS → Int → Int → Int → Int → XR) (s : XS) (x1_28 : Int) (x2_5 : Int) (x3_27 : Int) (x4_26 : Int) : XR := R14 s x1_28 x2_5 x3_27 ((x4_26 + 1))
noncomputable def g15_X8_thin (R4 : XS → Int → Int → XR) (R14 : XS → Int → Int → Int → Int → XR) (s : XS) (x1_28 : Int) (x2_5 : Int) (x3_27 : Int) (x4_26 : Int) (v_61 : Int) : XR := R14 s ((max x1_28 x4_26)) x2_5 ((Xior x3_27 v_61)) ((x4_26 + 1))
noncomputable def g13b_X8_thin (R4 : XS → Int → Int → XR) (R14 : XS → Int → Int → Int → Int → XR) (s : XS) (v_61 : Int) (x1_28 : Int) (x2_5 : Int) (x3_27 : Int) (x4_26 : Int) : XR := if v_61 = 0 then g14_X8_thin R4 R14 s x1_28 x2_5 x3_27 x4_26 else g15_X8_thin R4 R14 s x1_28 x2_5 x3_27 x4_26 v_61
noncomputable def g12w_X8_thin (R4 : XS → Int → Int → XR) (R14 : XS → Int → Int → Int → Int → XR) (s : XS) (x1_28 : Int) (x2_5 : Int) (x3_27 : Int) (x4_26 : Int) (v_61 : Int) : XR := g13b_X8_thin R4 R14 s v_61 x1_28 x2_5 x3_27 x4_26
noncomputable def g11_X8_thin (R4 : XS → Int → Int → XR) (R14 : XS → Int → Int → Int → Int → XR) (s : XS) (x1_28 : Int) (x2_5 : Int) (x3_27 : Int) (x4_26 : Int) : XR := g12w_X8_thin R4 R14 (xup s 1 (Int.toNat (s 3 83 2)) (Int.toNat ((4 * x4_26) + x2_5)) ((Xiand (s 1 (Int.toNat (s 3 83 2)) (Int.toNat ((4 * x4_26) + x2_5))) (Xixor x3_27 ((-1)))))) x1_28 x2_5 x3_27 x4_26 ((Xiand (s 1 (Int.toNat (s 3 83 2)) (Int.toNat ((4 * x4_26) + x2_5))) (Xixor x3_27 ((-1)))))
noncomputable def g9b_X8_thin (R4 : XS → Int → Int → XR) (R14 : XS → Int → Int → Int → Int → XR) (s : XS) (v_39 : Int) (x4_26 : Int) (x1_28 : Int) (x2_5 : Int) (x3_27 : Int) : XR := if v_39 < x4_26 then g10_X8_thin R4 s x1_28 x2_5 else g11_X8_thin R4 R14 s x1_28 x2_5 x3_27 x4_26
noncomputable def g8l_X8_thin (R4 : XS → Int → Int → XR) (R14 : XS → Int → Int → Int → Int → XR) (s : XS) (x1_28 : Int) (x2_5 : Int) (x3_27 : Int) (x4_26 : Int) : XR := g9b_X8_thin R4 R14 s ((s 0 83 4)) x4_26 x1_28 x2_5 x3_27
noncomputable def L7_X8_thin (R4 : XS → Int → Int → XR) (n : Nat) : XS → Int → Int → Int → Int → XR := Nat.rec (motive := fun _ => XS → Int → Int → Int → Int → XR) (fun s _ _ _ _ => (s, 0)) (fun _ R14 => g8l_X8_thin R4 R14) n
noncomputable def g5_X8_thin (R4 : XS → Int → Int → XR) (s : XS) (x1_6 : Int) (x2_5 : Int) : XR := L7_X8_thin R4 (Int.toNat (121 - 0 + 1)) s x1_6 x2_5 0 0
noncomputable def g3b_X8_thin (R4 : XS → Int → Int → XR) (s : XS) (x2_5 : Int) (x1_6 : Int) : XR := if x2_5 < 4 then g5_X8_thin R4 s x1_6 x2_5 else g4_X8_thin s x1_6
noncomputable def g2l_X8_thin (R4 : XS → Int → Int → XR) (s : XS) (x1_6 : Int) (x2_5 : Int) : XR := g3b_X8_thin R4 s x2_5 x1_6
noncomputable def L1_X8_thin (n : Nat) : XS → Int → Int → XR := Nat.rec (motive := fun _ => XS → Int → Int → XR) (fun s _ _ => (s, 0)) (fun _ R4 => g2l_X8_thin R4) n
noncomputable def f_X8_thin (s : XS) : XR := L1_X8_thin (Int.toNat (4 - 0 + 1)) s 0 0
set_option maxHeartbeats 4000000 in
set_option maxRecDepth 100000 in
theorem c_X8_thin (l : Launch) (G : GG) (Z : RZ) (ad : Nat → Nat) (ws0 : va_W) (hT : Ty G SC ad ws0) : Mq l yX8_thin cX8_thin 6 none 1 G Z [.ref (ad 83)] ws0 (PV G SC ad [22, 23] ws0 (fun u => (xso SC ad u = (f_X8_thin (xso SC ad ws0)).1))) := by
  refine Mq.start (by decide) (Nat.le_of_ble_eq_true rfl) ?_
  intro p e s m below meth c A ls C0 hZ h hl
  have hl : lv_has ls 6 [(0, .ref (ad 83))] := hl
  have h : Wt G SC ad A s s.heap [] ws0 := ⟨h, hT⟩
  obtain ⟨args, hargs⟩ : ∃ z, z = ([.ref (ad 83)] : List Value).toArray := ⟨_, rfl⟩
  rw [← hargs] at C0 ⊢
  have C0 : Cx p s m args meth c RX8 cX8_thin 6 none := C0
  obtain ⟨Q, hQ⟩ : ∃ z, z = MQ below ((PV G SC ad [22, 23] ws0 (fun u => (xso SC ad u = (f_X8_thin (xso SC ad ws0)).1))) A) args s 0 0 A := ⟨_, rfl⟩
  rw [← hQ]
  obtain ⟨FT, hFT⟩ : ∃ z, z = f_X8_thin (xso SC ad ws0) := ⟨_, rfl⟩
  have HE : FT = f_X8_thin (xso SC ad ws0) := hFT
  refine y_c1 (n := 0) C0 (by decide) dX8_thin_0 (fun v_1 e_2 => ?_)
  refine lv_istore_n (lv' := [(1, .int v_1), (0, .ref (ad 83))]) C0.1 C0.2.1 dX8_thin_1 rfl hl (by decide) rfl (fun ls hl => ?_)
  refine y_c1 (n := 0) C0 (by decide) dX8_thin_2 (fun v_3 e_4 => ?_)
  refine lv_istore_n (lv' := [(2, .int v_3), (1, .int v_1), (0, .ref (ad 83))]) C0.1 C0.2.1 dX8_thin_3 rfl hl (by decide) rfl (fun ls hl => ?_)
  have lp_9 : ∀ (n_11 : Nat) (x2_5 : Int32) (x1_6 : Int32) (H : Heap) (locs : List Loc) (ls : Array Slot) (ws_7 : va_W), 4 - x2_5.toInt < (n_11 : Int) → 0 ≤ x2_5.toInt → x2_5.toInt ≤ 4 → 0 ≤ x1_6.toInt → x1_6.toInt ≤ 120 → (FT = L1_X8_thin n_11 (xso SC ad ws_7) x1_6.toInt x2_5.toInt) → Wt G SC ad A s H locs ws_7 → Fr SC [23] ws0 ws_7 → lv_has ls 6 [(2, .int x2_5), (1, .int x1_6), (0, .ref (ad 83))] → W p l e (rmd 1 0 0) s m args below meth c H locs 0 0 Q (F0 m 4 ls []) := by
    intro n_11
    induction n_11 with
    | zero => intro x2_5 x1_6 H locs ls ws_7 hn_12 b_13 b_14 b_15 b_16 HE h hF_8 hl; exact ((o18_6 b_13 b_14 hn_12)).elim
    | succ n_11 ih_10 =>
      intro x2_5 x1_6 H locs ls ws_7 hn_12 b_13 b_14 b_15 b_16 HE h hF_8 hl
      obtain ⟨R4, hR4⟩ : ∃ z, z = L1_X8_thin n_11 := ⟨_, rfl⟩
      replace HE : FT = g2l_X8_thin R4 (xso SC ad ws_7) x1_6.toInt x2_5.toInt := HE.trans (by rw [hR4]; rfl)
      refine lv_iload_n C0.1 C0.2.1 dX8_thin_4 rfl (lv_at hl 0 rfl) ?_
      refine y_c1 (n := 4) C0 (by decide) dX8_thin_5 (fun v_17 e_18 => ?_)
      replace HE : FT = g3b_X8_thin R4 (xso SC ad ws_7) x2_5.toInt x1_6.toInt := HE.trans rfl
      refine y_icmp_ge (tgt := 82) C0 dX8_thin_6 (by decide) (fun c_19 => ?_) (fun c_19 => ?_)
      · -- 6
        replace HE : FT = g4_X8_thin (xso SC ad ws_7) x1_6.toInt := HE.trans (if_neg (o18_8 b_13 b_14 hn_12 e_18 c_19))
        refine lv_aload_n C0.1 C0.2.1 dX8_thin_82 rfl (lv_at hl 2 rfl) ?_
        refine lv_iload_n C0.1 C0.2.1 dX8_thin_83 rfl (lv_at hl 1 rfl) ?_
        refine tp_X8_top C0 h kSC_83 q_318 (o18_104 b_15 b_16) (o18_105 b_15 b_16) dX8_thin_84 (fun H locs ws_20 h u_21 Xu_21 => ?_)
        replace HE : FT = g6w_X8_thin (xso SC ad ws_20) := HE.trans (by rw [Xu_21]; rfl)
        replace HE : FT = ((xso SC ad ws_20), 0) := HE.trans rfl
        rw [hQ]
        exact y_vret C0 h (Fr.tr (Fr.mono hF_8 (by decide)) (Fr.up u_21.1 kSC_83 (by decide))) (congrArg Prod.fst (HE.symm.trans hFT)) dX8_thin_87
      · -- 6
        replace HE : FT = g5_X8_thin R4 (xso SC ad ws_7) x1_6.toInt x2_5.toInt := HE.trans (if_pos (o18_9 b_13 b_14 hn_12 e_18 c_19))
        refine y_c1 (n := 0) C0 (by decide) dX8_thin_9 (fun v_22 e_23 => ?_)
        refine lv_istore_n (lv' := [(3, .int v_22), (2, .int x2_5), (1, .int x1_6), (0, .ref (ad 83))]) C0.1 C0.2.1 dX8_thin_10 rfl hl (by decide) rfl (fun ls hl => ?_)
        refine y_c1 (n := 0) C0 (by decide) dX8_thin_11 (fun v_24 e_25 => ?_)
        refine lv_istore (lv' := [(4, .int v_24), (3, .int v_22), (2, .int x2_5), (1, .int x1_6), (0, .ref (ad 83))]) C0.1 C0.2.1 dX8_thin_12 hl (by decide) rfl (fun ls hl => ?_)
        have lp_31 : ∀ (n_33 : Nat) (x4_26 : Int32) (x3_27 : Int32) (x1_28 : Int32) (H : Heap) (locs : List Loc) (ls : Array Slot) (ws_29 : va_W), 121 - x4_26.toInt < (n_33 : Int) → 0 ≤ x4_26.toInt → x4_26.toInt ≤ 121 → 0 ≤ x1_28.toInt → x1_28.toInt ≤ 120 → (FT = L7_X8_thin R4 n_33 (xso SC ad ws_29) x1_28.toInt x2_5.toInt x3_27.toInt x4_26.toInt) → Wt G SC ad A s H locs ws_29 → Fr SC [23] ws_7 ws_29 → lv_has ls 6 [(4, .int x4_26), (3, .int x3_27), (2, .int x2_5), (1, .int x1_28), (0, .ref (ad 83))] → W p l e (rmd 1 0 0) s m args below meth c H locs 0 0 Q (F0 m 14 ls []) := by
          intro n_33
          induction n_33 with
          | zero => intro x4_26 x3_27 x1_28 H locs ls ws_29 hn_34 b_35 b_36 b_37 b_38 HE h hF_30 hl; exact ((o18_106 b_35 b_36 hn_34)).elim
          | succ n_33 ih_32 =>
            intro x4_26 x3_27 x1_28 H locs ls ws_29 hn_34 b_35 b_36 b_37 b_38 HE h hF_30 hl
            obtain ⟨R14, hR14⟩ : ∃ z, z = L7_X8_thin R4 n_33 := ⟨_, rfl⟩
            replace HE : FT = g8l_X8_thin R4 R14 (xso SC ad ws_29) x1_28.toInt x2_5.toInt x3_27.toInt x4_26.toInt := HE.trans (by rw [hR14]; rfl)
            refine lv_iload C0.1 C0.2.1 dX8_thin_14 (lv_at hl 0 rfl) ?_
            refine lv_aload_n C0.1 C0.2.1 dX8_thin_16 rfl (lv_at hl 4 rfl) ?_
            refine tg_X8_top C0 h kSC_83 q_318 dX8_thin_17 (fun v_39 e_40 e_41 e_42 => ?_)
            replace HE : FT = g9b_X8_thin R4 R14 (xso SC ad ws_29) v_39.toInt x4_26.toInt x1_28.toInt x2_5.toInt x3_27.toInt := HE.trans (by rw [(xg0 e_40 : v_39.toInt = (xso SC ad ws_29) 0 83 4)]; rfl)
            refine y_icmp_gt (tgt := 76) C0 dX8_thin_20 (by decide) (fun c_43 => ?_) (fun c_43 => ?_)
            · -- 20
              replace HE : FT = g10_X8_thin R4 (xso SC ad ws_29) x1_28.toInt x2_5.toInt := HE.trans (if_pos c_43)
              refine y_inc (kp := 2) (n := 1) (fun v_44 => [(2, .int v_44), (4, .int x4_26), (3, .int x3_27), (1, .int x1_28), (0, .ref (ad 83))]) C0 hl rfl (by decide) (by decide) (fun _ => rfl) (o18_107 b_13 b_14 hn_12 e_18 c_19 (le_min x2_5) (le_max x2_5) (le_min v_17) (le_max v_17)) (o18_108 b_13 b_14 hn_12 e_18 c_19 (le_min x2_5) (le_max x2_5) (le_min v_17) (le_max v_17)) dX8_thin_76 (fun v_44 ls e_45 hl => ?_)
              refine lv_goto (tgt := 4) C0.1 C0.2.1 dX8_thin_79 (by decide) ?_
              exact ih_10 v_44 x1_28 _ _ _ _ (o18_109 b_13 b_14 hn_12 e_18 c_19 e_45) (o18_110 b_13 b_14 hn_12 e_18 c_19 e_45) (o18_111 b_13 b_14 hn_12 e_18 c_19 e_45) (o18_104 b_37 b_38) (o18_105 b_37 b_38) (((show FT = R4 (xso SC ad ws_29) x1_28.toInt v_44.toInt from HE.trans (by rw [e_45]; rfl)).trans (by rw [hR4]))) h (Fr.tr hF_8 hF_30) (lv_sub hl [0, 3, 4] rfl)
            · -- 20
              replace HE : FT = g11_X8_thin R4 R14 (xso SC ad ws_29) x1_28.toInt x2_5.toInt x3_27.toInt x4_26.toInt := HE.trans (if_neg (Int.not_lt.mpr c_43))
              refine lv_aload_n C0.1 C0.2.1 dX8_thin_23 rfl (lv_at hl 4 rfl) ?_
              refine tg_X8_sets C0 h kSC_83 q_316 dX8_thin_24 (fun i_46 hi_46 ei_46 => ?_)
              refine y_c1 (n := 4) C0 (by decide) dX8_thin_27 (fun v_47 e_48 => ?_)
              refine lv_iload C0.1 C0.2.1 dX8_thin_28 (lv_at hl 0 rfl) ?_
              refine y_cmul (n := 4) C0 (o18_7 e_48) (o18_112 b_35 b_36 hn_34 e_41 e_42 c_43 (le_min x4_26) (le_max x4_26) (le_min v_39) (le_max v_39)) (o18_113 b_35 b_36 hn_34 e_41 e_42 c_43 (le_min x4_26) (le_max x4_26) (le_min v_39) (le_max v_39)) dX8_thin_30 (fun v_49 e_50 => ?_)
              refine lv_iload_n C0.1 C0.2.1 dX8_thin_31 rfl (lv_at hl 2 rfl) ?_
              refine y_add C0 (o18_114 b_13 b_14 hn_12 e_18 c_19 b_35 b_36 hn_34 e_41 e_42 c_43 e_50 (le_min v_49) (le_max v_49) (le_min x2_5) (le_max x2_5) (le_min v_17) (le_max v_17) (le_min x4_26) (le_max x4_26) (le_min v_39) (le_max v_39)) (o18_115 b_13 b_14 hn_12 e_18 c_19 b_35 b_36 hn_34 e_41 e_42 c_43 e_50 (le_min v_49) (le_max v_49) (le_min x2_5) (le_max x2_5) (le_min v_17) (le_max v_17) (le_min x4_26) (le_max x4_26) (le_min v_39) (le_max v_39)) dX8_thin_32 (fun v_51 e_52 => ?_)
              refine y_iald C0 h hi_46 rfl (by decide) (o18_116 b_13 b_14 hn_12 e_18 c_19 b_35 b_36 hn_34 e_41 e_42 c_43 e_50 e_52) (o18_117 b_13 b_14 hn_12 e_18 c_19 b_35 b_36 hn_34 e_41 e_42 c_43 e_50 e_52) dX8_thin_33 (fun v_53 e_54 e_55 e_56 => ?_)
              refine lv_iload_n C0.1 C0.2.1 dX8_thin_34 rfl (lv_at hl 1 rfl) ?_
              refine y_c1 (n := (-1)) C0 (by decide) dX8_thin_35 (fun v_57 e_58 => ?_)
              refine xr_ixor C0 dX8_thin_36 (fun v_59 e_60 => ?_)
              refine xr_iand C0 dX8_thin_37 (fun v_61 e_62 => ?_)
              refine lv_istore (lv' := [(5, .int v_61), (4, .int x4_26), (3, .int x3_27), (2, .int x2_5), (1, .int x1_28), (0, .ref (ad 83))]) C0.1 C0.2.1 dX8_thin_38 hl (by decide) rfl (fun ls hl => ?_)
              refine lv_aload_n C0.1 C0.2.1 dX8_thin_40 rfl (lv_at hl 5 rfl) ?_
              refine tg_X8_sets C0 h kSC_83 q_316 dX8_thin_41 (fun i_63 hi_63 ei_63 => ?_)
              refine y_c1 (n := 4) C0 (by decide) dX8_thin_44 (fun v_64 e_65 => ?_)
              refine lv_iload C0.1 C0.2.1 dX8_thin_45 (lv_at hl 1 rfl) ?_
              refine y_cmul (n := 4) C0 (o18_7 e_65) (o18_118 b_13 b_14 hn_12 e_18 c_19 b_35 b_36 hn_34 e_41 e_42 c_43 e_50 e_52 (le_min x4_26) (le_max x4_26) (le_min x2_5) (le_max x2_5) (le_min v_17) (le_max v_17) (le_min v_39) (le_max v_39) (le_min v_49) (le_max v_49) (le_min v_51) (le_max v_51)) (o18_119 b_13 b_14 hn_12 e_18 c_19 b_35 b_36 hn_34 e_41 e_42 c_43 e_50 e_52 (le_min x4_26) (le_max x4_26) (le_min x2_5) (le_max x2_5) (le_min v_17) (le_max v_17) (le_min v_39) (le_max v_39) (le_min v_49) (le_max v_49) (le_min v_51) (le_max v_51)) dX8_thin_47 (fun v_66 e_67 => ?_)
              refine lv_iload_n C0.1 C0.2.1 dX8_thin_48 rfl (lv_at hl 3 rfl) ?_
              refine y_add C0 (o18_120 b_13 b_14 hn_12 e_18 c_19 b_35 b_36 hn_34 e_41 e_42 c_43 e_50 e_52 e_67 (le_min v_66) (le_max v_66) (le_min x2_5) (le_max x2_5) (le_min v_17) (le_max v_17) (le_min x4_26) (le_max x4_26) (le_min v_39) (le_max v_39) (le_min v_49) (le_max v_49) (le_min v_51) (le_max v_51)) (o18_121 b_13 b_14 hn_12 e_18 c_19 b_35 b_36 hn_34 e_41 e_42 c_43 e_50 e_52 e_67 (le_min v_66) (le_max v_66) (le_min x2_5) (le_max x2_5) (le_min v_17) (le_max v_17) (le_min x4_26) (le_max x4_26) (le_min v_39) (le_max v_39) (le_min v_49) (le_max v_49) (le_min v_51) (le_max v_51)) dX8_thin_49 (fun v_68 e_69 => ?_)
              refine lv_iload C0.1 C0.2.1 dX8_thin_50 (lv_at hl 0 rfl) ?_
              have hO_72 := h.2
              refine y_iast C0 h hi_63 rfl (by decide) (o18_122 b_13 b_14 hn_12 e_18 c_19 b_35 b_36 hn_34 e_41 e_42 c_43 e_50 e_52 e_67 e_69) (o18_123 b_13 b_14 hn_12 e_18 c_19 b_35 b_36 hn_34 e_41 e_42 c_43 e_50 e_52 e_67 e_69) (le_min v_61) (le_max v_61) dX8_thin_52 (fun H locs ws_70 h u_71 => ?_)
              replace HE : FT = g12w_X8_thin R4 R14 (xso SC ad ws_70) x1_28.toInt x2_5.toInt x3_27.toInt x4_26.toInt v_61.toInt := HE.trans (by rw [(xso_A (i := i_63) hO_72 h.2 hi_63 rfl u_71), e_69, e_67, ei_63, e_62, e_60, e_58, (xg1 e_54 : v_53.toInt = (xso SC ad ws_29) 1 i_46 v_51.toInt.toNat), e_52, e_50, ei_46]; rfl)
              refine lv_iload C0.1 C0.2.1 dX8_thin_53 (lv_at hl 0 rfl) ?_
              replace HE : FT = g13b_X8_thin R4 R14 (xso SC ad ws_70) v_61.toInt x1_28.toInt x2_5.toInt x3_27.toInt x4_26.toInt := HE.trans rfl
              refine y_if_eq (tgt := 70) C0 dX8_thin_55 (by decide) (fun c_73 => ?_) (fun c_73 => ?_)
              · -- 55
                replace HE : FT = g14_X8_thin R4 R14 (xso SC ad ws_70) x1_28.toInt x2_5.toInt x3_27.toInt x4_26.toInt := HE.trans (if_pos c_73)
                refine y_inc (kp := 1) (n := 1) (fun v_74 => [(4, .int v_74), (5, .int v_61), (3, .int x3_27), (2, .int x2_5), (1, .int x1_28), (0, .ref (ad 83))]) C0 hl rfl (by decide) (by decide) (fun _ => rfl) (o18_124 b_13 b_14 hn_12 e_18 c_19 b_35 b_36 hn_34 e_41 e_42 c_43 e_50 e_52 e_67 e_69 (le_min x4_26) (le_max x4_26) (le_min x2_5) (le_max x2_5) (le_min v_17) (le_max v_17) (le_min v_39) (le_max v_39) (le_min v_49) (le_max v_49) (le_min v_51) (le_max v_51) (le_min v_66) (le_max v_66) (le_min v_68) (le_max v_68)) (o18_125 b_13 b_14 hn_12 e_18 c_19 b_35 b_36 hn_34 e_41 e_42 c_43 e_50 e_52 e_67 e_69 (le_min x4_26) (le_max x4_26) (le_min x2_5) (le_max x2_5) (le_min v_17) (le_max v_17) (le_min v_39) (le_max v_39) (le_min v_49) (le_max v_49) (le_min v_51) (le_max v_51) (le_min v_66) (le_max v_66) (le_min v_68) (le_max v_68)) dX8_thin_70 (fun v_74 ls e_75 hl => ?_)
                refine lv_goto (tgt := 14) C0.1 C0.2.1 dX8_thin_73 (by decide) ?_
                exact ih_32 v_74 x3_27 x1_28 _ _ _ _ (o18_126 b_13 b_14 hn_12 e_18 c_19 b_35 b_36 hn_34 e_41 e_42 c_43 e_50 e_52 e_67 e_69 e_75) (o18_127 b_13 b_14 hn_12 e_18 c_19 b_35 b_36 hn_34 e_41 e_42 c_43 e_50 e_52 e_67 e_69 e_75) (o18_128 b_13 b_14 hn_12 e_18 c_19 b_35 b_36 hn_34 e_41 e_42 c_43 e_50 e_52 e_67 e_69 e_75) (o18_104 b_37 b_38) (o18_105 b_37 b_38) (((show FT = R14 (xso SC ad ws_70) x1_28.toInt x2_5.toInt x3_27.toInt v_74.toInt from HE.trans (by rw [e_75]; rfl)).trans (by rw [hR14]))) h (Fr.tr hF_30 (Fr.up u_71.1 hi_63 (by decide))) (lv_sub hl [0, 2, 3, 4, 5] rfl)
              · -- 55
                replace HE : FT = g15_X8_thin R4 R14 (xso SC ad ws_70) x1_28.toInt x2_5.toInt x3_27.toInt x4_26.toInt v_61.toInt := HE.trans (if_neg c_73)
                refine lv_iload_n C0.1 C0.2.1 dX8_thin_58 rfl (lv_at hl 2 rfl) ?_
                refine lv_iload C0.1 C0.2.1 dX8_thin_59 (lv_at hl 0 rfl) ?_
                refine xr_ior C0 dX8_thin_61 (fun v_76 e_77 => ?_)
                refine lv_istore_n (lv' := [(3, .int v_76), (5, .int v_61), (4, .int x4_26), (2, .int x2_5), (1, .int x1_28), (0, .ref (ad 83))]) C0.1 C0.2.1 dX8_thin_62 rfl hl (by decide) rfl (fun ls hl => ?_)
                refine lv_iload_n C0.1 C0.2.1 dX8_thin_63 rfl (lv_at hl 4 rfl) ?_
                refine lv_iload C0.1 C0.2.1 dX8_thin_64 (lv_at hl 2 rfl) ?_
                refine y_max C0 hl.1 q_1143 q_660 q_141 q_661 (Nat.le_of_ble_eq_true rfl) (Nat.le_of_ble_eq_true rfl) (Nat.le_of_ble_eq_true rfl) (Nat.le_of_ble_eq_true rfl) dX8_thin_66 (fun v_78 e_79 => ?_)
                refine lv_istore_n (lv' := [(1, .int v_78), (3, .int v_76), (5, .int v_61), (4, .int x4_26), (2, .int x2_5), (0, .ref (ad 83))]) C0.1 C0.2.1 dX8_thin_69 rfl hl (by decide) rfl (fun ls hl => ?_)
                refine y_inc (kp := 3) (n := 1) (fun v_80 => [(4, .int v_80), (1, .int v_78), (3, .int v_76), (5, .int v_61), (2, .int x2_5), (0, .ref (ad 83))]) C0 hl rfl (by decide) (by decide) (fun _ => rfl) (o18_129 b_13 b_14 hn_12 e_18 c_19 b_35 b_36 b_37 b_38 hn_34 e_41 e_42 c_43 e_50 e_52 e_67 e_69 e_79 (le_min x4_26) (le_max x4_26) (le_min x2_5) (le_max x2_5) (le_min v_17) (le_max v_17) (le_min x1_28) (le_max x1_28) (le_min v_39) (le_max v_39) (le_min v_49) (le_max v_49) (le_min v_51) (le_max v_51) (le_min v_66) (le_max v_66) (le_min v_68) (le_max v_68) (le_min v_78) (le_max v_78)) (o18_130 b_13 b_14 hn_12 e_18 c_19 b_35 b_36 b_37 b_38 hn_34 e_41 e_42 c_43 e_50 e_52 e_67 e_69 e_79 (le_min x4_26) (le_max x4_26) (le_min x2_5) (le_max x2_5) (le_min v_17) (le_max v_17) (le_min x1_28) (le_max x1_28) (le_min v_39) (le_max v_39) (le_min v_49) (le_max v_49) (le_min v_51) (le_max v_51) (le_min v_66) (le_max v_66) (le_min v_68) (le_max v_68) (le_min v_78) (le_max v_78)) dX8_thin_70 (fun v_80 ls e_81 hl => ?_)
                refine lv_goto (tgt := 14) C0.1 C0.2.1 dX8_thin_73 (by decide) ?_
                exact ih_32 v_80 v_76 v_78 _ _ _ _ (o18_131 b_13 b_14 hn_12 e_18 c_19 b_35 b_36 b_37 b_38 hn_34 e_41 e_42 c_43 e_50 e_52 e_67 e_69 e_79 e_81) (o18_132 b_13 b_14 hn_12 e_18 c_19 b_35 b_36 b_37 b_38 hn_34 e_41 e_42 c_43 e_50 e_52 e_67 e_69 e_79 e_81) (o18_133 b_13 b_14 hn_12 e_18 c_19 b_35 b_36 b_37 b_38 hn_34 e_41 e_42 c_43 e_50 e_52 e_67 e_69 e_79 e_81) (o18_134 b_13 b_14 hn_12 e_18 c_19 b_35 b_36 b_37 b_38 hn_34 e_41 e_42 c_43 e_50 e_52 e_67 e_69 e_79 e_81) (o18_135 b_13 b_14 hn_12 e_18 c_19 b_35 b_36 b_37 b_38 hn_34 e_41 e_42 c_43 e_50 e_52 e_67 e_69 e_79 e_81) (((show FT = R14 (xso SC ad ws_70) v_78.toInt x2_5.toInt v_76.toInt v_80.toInt from HE.trans (by rw [e_81, e_77, (ix_max e_79)]; rfl)).trans (by rw [hR14]))) h (Fr.tr hF_30 (Fr.up u_71.1 hi_63 (by decide))) (lv_sub hl [0, 2, 4, 1, 5] rfl)
        exact lp_31 ((121 - v_24.toInt + 1).toNat) v_24 v_22 x1_6 _ _ _ _ (o18_136 e_25) (o18_1 e_25) (o18_137 e_25) (o18_104 b_15 b_16) (o18_105 b_15 b_16) ((show FT = L7_X8_thin R4 (Int.toNat (121 - v_24.toInt + 1)) (xso SC ad ws_7) x1_6.toInt x2_5.toInt v_22.toInt v_24.toInt from HE.trans (by rw [e_25, e_23]; rfl))) h Fr.rf (lv_sub hl [0, 1, 2, 3, 4] rfl)
  exact lp_9 ((4 - v_3.toInt + 1).toNat) v_3 v_1 _ _ _ _ (o18_32 e_4) (o18_1 e_4) (o18_33 e_4) (o18_1 e_2) (o18_92 e_2) ((show FT = L1_X8_thin (Int.toNat (4 - v_3.toInt + 1)) (xso SC ad ws0) v_1.toInt v_3.toInt from HE.trans (by rw [e_4, e_2]; rfl))) h Fr.rf (lv_sub hl [0, 1, 2] rfl)
noncomputable def f_X8_anyHeading (s : XS) (a1 : Int) : XR := (s, (Xior (Xior (Xior (s 1 (Int.toNat (s 3 83 2)) (Int.toNat (4 * a1))) (s 1 (Int.toNat (s 3 83 2)) (Int.toNat ((4 * a1) + 1)))) (s 1 (Int.toNat (s 3 83 2)) (Int.toNat ((4 * a1) + 2)))) (s 1 (Int.toNat (s 3 83 2)) (Int.toNat ((4 * a1) + 3)))))
set_option maxHeartbeats 4000000 in
set_option maxRecDepth 100000 in
theorem c_X8_anyHeading (l : Launch) (G : GG) (Z : RZ) (ad : Nat → Nat) (ws0 : va_W) (hT : Ty G SC ad ws0) (a1 : Int32) (l1 : 0 ≤ a1.toInt) (u1 : a1.toInt ≤ 120) : Mq l yX8_anyHeading cX8_anyHeading 3 (some .int) 1 G Z [.ref (ad 83), .int a1] ws0 (PI G SC ad [] ws0 (fun r u => (xso SC ad u = (f_X8_anyHeading (xso SC ad ws0) a1.toInt).1) ∧ (r.toInt = (f_X8_anyHeading (xso SC ad ws0) a1.toInt).2))) := by
  refine Mq.start (by decide) (Nat.le_of_ble_eq_true rfl) ?_
  intro p e s m below meth c A ls C0 hZ h hl
  have hl : lv_has ls 3 [(0, .ref (ad 83)), (1, .int a1)] := hl
  have h : Wt G SC ad A s s.heap [] ws0 := ⟨h, hT⟩
  obtain ⟨args, hargs⟩ : ∃ z, z = ([.ref (ad 83), .int a1] : List Value).toArray := ⟨_, rfl⟩
  rw [← hargs] at C0 ⊢
  have C0 : Cx p s m args meth c RX8 cX8_anyHeading 3 (some .int) := C0
  obtain ⟨Q, hQ⟩ : ∃ z, z = MQ below ((PI G SC ad [] ws0 (fun r u => (xso SC ad u = (f_X8_anyHeading (xso SC ad ws0) a1.toInt).1) ∧ (r.toInt = (f_X8_anyHeading (xso SC ad ws0) a1.toInt).2))) A) args s 0 0 A := ⟨_, rfl⟩
  rw [← hQ]
  obtain ⟨FT, hFT⟩ : ∃ z, z = f_X8_anyHeading (xso SC ad ws0) a1.toInt := ⟨_, rfl⟩
  have HE : FT = f_X8_anyHeading (xso SC ad ws0) a1.toInt := hFT
  refine y_c1 (n := 4) C0 (by decide) dX8_anyHeading_0 (fun v_1 e_2 => ?_)
  refine lv_iload_n C0.1 C0.2.1 dX8_anyHeading_1 rfl (lv_at hl 1 rfl) ?_
  refine y_cmul (n := 4) C0 (o18_7 e_2) (o18_88 l1 u1 (le_min a1) (le_max a1)) (o18_89 l1 u1 (le_min a1) (le_max a1)) dX8_anyHeading_2 (fun v_3 e_4 => ?_)
  refine lv_istore_n (lv' := [(2, .int v_3), (0, .ref (ad 83)), (1, .int a1)]) C0.1 C0.2.1 dX8_anyHeading_3 rfl hl (by decide) rfl (fun ls hl => ?_)
  refine lv_aload_n C0.1 C0.2.1 dX8_anyHeading_4 rfl (lv_at hl 1 rfl) ?_
  refine tg_X8_sets C0 h kSC_83 q_316 dX8_anyHeading_5 (fun i_5 hi_5 ei_5 => ?_)
  refine lv_iload_n C0.1 C0.2.1 dX8_anyHeading_8 rfl (lv_at hl 0 rfl) ?_
  refine y_iald C0 h hi_5 rfl (by decide) (o18_138 l1 u1 e_4) (o18_139 l1 u1 e_4) dX8_anyHeading_9 (fun v_6 e_7 e_8 e_9 => ?_)
  refine lv_aload_n C0.1 C0.2.1 dX8_anyHeading_10 rfl (lv_at hl 1 rfl) ?_
  refine tg_X8_sets C0 h kSC_83 q_316 dX8_anyHeading_11 (fun i_10 hi_10 ei_10 => ?_)
  refine lv_iload_n C0.1 C0.2.1 dX8_anyHeading_14 rfl (lv_at hl 0 rfl) ?_
  refine y_c1 (n := 1) C0 (by decide) dX8_anyHeading_15 (fun v_11 e_12 => ?_)
  refine y_add C0 (o18_140 l1 u1 e_4 e_12 (le_min v_3) (le_max v_3) (le_min v_11) (le_max v_11) (le_min a1) (le_max a1)) (o18_141 l1 u1 e_4 e_12 (le_min v_3) (le_max v_3) (le_min v_11) (le_max v_11) (le_min a1) (le_max a1)) dX8_anyHeading_16 (fun v_13 e_14 => ?_)
  refine y_iald C0 h hi_10 rfl (by decide) (o18_142 l1 u1 e_4 e_12 e_14) (o18_143 l1 u1 e_4 e_12 e_14) dX8_anyHeading_17 (fun v_15 e_16 e_17 e_18 => ?_)
  refine xr_ior C0 dX8_anyHeading_18 (fun v_19 e_20 => ?_)
  refine lv_aload_n C0.1 C0.2.1 dX8_anyHeading_19 rfl (lv_at hl 1 rfl) ?_
  refine tg_X8_sets C0 h kSC_83 q_316 dX8_anyHeading_20 (fun i_21 hi_21 ei_21 => ?_)
  refine lv_iload_n C0.1 C0.2.1 dX8_anyHeading_23 rfl (lv_at hl 0 rfl) ?_
  refine y_c1 (n := 2) C0 (by decide) dX8_anyHeading_24 (fun v_22 e_23 => ?_)
  refine y_add C0 (o18_144 l1 u1 e_4 e_12 e_14 e_23 (le_min v_3) (le_max v_3) (le_min v_22) (le_max v_22) (le_min a1) (le_max a1) (le_min v_11) (le_max v_11) (le_min v_13) (le_max v_13)) (o18_145 l1 u1 e_4 e_12 e_14 e_23 (le_min v_3) (le_max v_3) (le_min v_22) (le_max v_22) (le_min a1) (le_max a1) (le_min v_11) (le_max v_11) (le_min v_13) (le_max v_13)) dX8_anyHeading_25 (fun v_24 e_25 => ?_)
  refine y_iald C0 h hi_21 rfl (by decide) (o18_146 l1 u1 e_4 e_12 e_14 e_23 e_25) (o18_147 l1 u1 e_4 e_12 e_14 e_23 e_25) dX8_anyHeading_26 (fun v_26 e_27 e_28 e_29 => ?_)
  refine xr_ior C0 dX8_anyHeading_27 (fun v_30 e_31 => ?_)
  refine lv_aload_n C0.1 C0.2.1 dX8_anyHeading_28 rfl (lv_at hl 1 rfl) ?_
  refine tg_X8_sets C0 h kSC_83 q_316 dX8_anyHeading_29 (fun i_32 hi_32 ei_32 => ?_)
  refine lv_iload_n C0.1 C0.2.1 dX8_anyHeading_32 rfl (lv_at hl 0 rfl) ?_
  refine y_c1 (n := 3) C0 (by decide) dX8_anyHeading_33 (fun v_33 e_34 => ?_)
  refine y_add C0 (o18_148 l1 u1 e_4 e_12 e_14 e_23 e_25 e_34 (le_min v_3) (le_max v_3) (le_min v_33) (le_max v_33) (le_min a1) (le_max a1) (le_min v_11) (le_max v_11) (le_min v_13) (le_max v_13) (le_min v_22) (le_max v_22) (le_min v_24) (le_max v_24)) (o18_149 l1 u1 e_4 e_12 e_14 e_23 e_25 e_34 (le_min v_3) (le_max v_3) (le_min v_33) (le_max v_33) (le_min a1) (le_max a1) (le_min v_11) (le_max v_11) (le_min v_13) (le_max v_13) (le_min v_22) (le_max v_22) (le_min v_24) (le_max v_24)) dX8_anyHeading_34 (fun v_35 e_36 => ?_)
  refine y_iald C0 h hi_32 rfl (by decide) (o18_150 l1 u1 e_4 e_12 e_14 e_23 e_25 e_34 e_36) (o18_151 l1 u1 e_4 e_12 e_14 e_23 e_25 e_34 e_36) dX8_anyHeading_35 (fun v_37 e_38 e_39 e_40 => ?_)
  refine xr_ior C0 dX8_anyHeading_36 (fun v_41 e_42 => ?_)
  replace HE : FT = ((xso SC ad ws0), v_41.toInt) := HE.trans (by rw [e_42, (xg1 e_38 : v_37.toInt = (xso SC ad ws0) 1 i_32 v_35.toInt.toNat), e_36, e_34, ei_32, e_31, (xg1 e_27 : v_26.toInt = (xso SC ad ws0) 1 i_21 v_24.toInt.toNat), e_25, e_23, ei_21, e_20, (xg1 e_16 : v_15.toInt = (xso SC ad ws0) 1 i_10 v_13.toInt.toNat), e_14, e_12, ei_10, (xg1 e_7 : v_6.toInt = (xso SC ad ws0) 1 i_5 v_3.toInt.toNat), e_4, ei_5]; rfl)
  rw [hQ]
  exact y_iret C0 h Fr.rf ⟨(congrArg Prod.fst (HE.symm.trans hFT)), (congrArg Prod.snd (HE.symm.trans hFT))⟩ dX8_anyHeading_37
noncomputable def g4_X8_goByRights (s : XS) : XR := (s, 0)
noncomputable def g7_X8_goByRights (R2 : XS → Int → Int → XR) (s : XS) (a1 : Int) (x2_3 : Int) : XR := R2 s a1 ((x2_3 + 1))
noncomputable def g12w_X8_goByRights (R2 : XS → Int → Int → XR) (s : XS) (a1 : Int) (x2_3 : Int) : XR := R2 s a1 ((x2_3 + 1))
noncomputable def g11c_X8_goByRights (R2 : XS → Int → Int → XR) (s : XS) (r_61 : Int) (v_54 : Int) (v_52 : Int) (i_51 : Nat) (a1 : Int) (x2_3 : Int) : XR := g12w_X8_goByRights R2 (xup s 1 i_51 (Int.toNat v_52) ((Xior v_54 r_61))) a1 x2_3
noncomputable def g10w_X8_goByRights (R2 : XS → Int → Int → XR) (s : XS) (a1 : Int) (x2_3 : Int) (v_18 : Int) (v_31 : Int) : XR := g11c_X8_goByRights R2 ((f_X0_moved s 1 v_18 v_31).1) (((f_X0_moved s 1 v_18 v_31).2)) ((s 1 (Int.toNat (s 3 83 3)) (Int.toNat (a1 + v_31)))) ((a1 + v_31)) ((Int.toNat (s 3 83 3))) a1 x2_3
noncomputable def g9c_X8_goByRights (R2 : XS → Int → Int → XR) (s : XS) (r_43 : Int) (v_36 : Int) (v_34 : Int) (i_33 : Nat) (a1 : Int) (x2_3 : Int) (v_18 : Int) (v_31 : Int) : XR := g10w_X8_goByRights R2 (xup s 1 i_33 (Int.toNat v_34) ((Xior v_36 r_43))) a1 x2_3 v_18 v_31
noncomputable def g8_X8_goByRights (R2 : XS → Int → Int → XR) (s : XS) (a1 : Int) (x2_3 : Int) (v_18 : Int) : XR := g9c_X8_goByRights R2 ((f_X0_moved s 1 v_18 x2_3).1) (((f_X0_moved s 1 v_18 x2_3).2)) ((s 1 (Int.toNat (s 3 83 3)) (Int.toNat (a1 + x2_3)))) ((a1 + x2_3)) ((Int.toNat (s 3 83 3))) a1 x2_3 v_18 ((Xiand (x2_3 + 1) 3))
noncomputable def g6b_X8_goByRights (R2 : XS → Int → Int → XR) (s : XS) (v_18 : Int) (a1 : Int) (x2_3 : Int) : XR := if v_18 = 0 then g7_X8_goByRights R2 s a1 x2_3 else g8_X8_goByRights R2 s a1 x2_3 v_18
noncomputable def g5_X8_goByRights (R2 : XS → Int → Int → XR) (s : XS) (a1 : Int) (x2_3 : Int) : XR := g6b_X8_goByRights R2 s ((s 1 (Int.toNat (s 3 83 2)) (Int.toNat (a1 + x2_3)))) a1 x2_3
noncomputable def g3b_X8_goByRights (R2 : XS → Int → Int → XR) (s : XS) (x2_3 : Int) (a1 : Int) : XR := if x2_3 < 4 then g5_X8_goByRights R2 s a1 x2_3 else g4_X8_goByRights s
noncomputable def g2l_X8_goByRights (R2 : XS → Int → Int → XR) (s : XS) (a1 : Int) (x2_3 : Int) : XR := g3b_X8_goByRights R2 s x2_3 a1
noncomputable def L1_X8_goByRights (n : Nat) : XS → Int → Int → XR := Nat.rec (motive := fun _ => XS → Int → Int → XR) (fun s _ _ => (s, 0)) (fun _ R2 => g2l_X8_goByRights R2) n
noncomputable def f_X8_goByRights (s : XS) (a1 : Int) : XR := L1_X8_goByRights (Int.toNat (4 - 0 + 1)) s a1 0
set_option maxHeartbeats 4000000 in
set_option maxRecDepth 100000 in
theorem c_X8_goByRights (l : Launch) (G : GG) (Z : RZ) (ad : Nat → Nat) (ws0 : va_W) (hT : Ty G SC ad ws0) (a1 : Int32) (l1 : 0 ≤ a1.toInt) (u1 : a1.toInt ≤ 480) : Mq l yX8_goByRights cX8_goByRights 5 none 2 G Z [.ref (ad 83), .int a1] ws0 (PV G SC ad [23] ws0 (fun u => (xso SC ad u = (f_X8_goByRights (xso SC ad ws0) a1.toInt).1))) := by
  refine Mq.start (by decide) (Nat.le_of_ble_eq_true rfl) ?_
  intro p e s m below meth c A ls C0 hZ h hl
  have hl : lv_has ls 5 [(0, .ref (ad 83)), (1, .int a1)] := hl
  have h : Wt G SC ad A s s.heap [] ws0 := ⟨h, hT⟩
  obtain ⟨args, hargs⟩ : ∃ z, z = ([.ref (ad 83), .int a1] : List Value).toArray := ⟨_, rfl⟩
  rw [← hargs] at C0 ⊢
  have C0 : Cx p s m args meth c RX8 cX8_goByRights 5 none := C0
  obtain ⟨Q, hQ⟩ : ∃ z, z = MQ below ((PV G SC ad [23] ws0 (fun u => (xso SC ad u = (f_X8_goByRights (xso SC ad ws0) a1.toInt).1))) A) args s 0 0 A := ⟨_, rfl⟩
  rw [← hQ]
  obtain ⟨FT, hFT⟩ : ∃ z, z = f_X8_goByRights (xso SC ad ws0) a1.toInt := ⟨_, rfl⟩
  have HE : FT = f_X8_goByRights (xso SC ad ws0) a1.toInt := hFT
  refine y_c1 (n := 0) C0 (by decide) dX8_goByRights_0 (fun v_1 e_2 => ?_)
  refine lv_istore_n (lv' := [(2, .int v_1), (0, .ref (ad 83)), (1, .int a1)]) C0.1 C0.2.1 dX8_goByRights_1 rfl hl (by decide) rfl (fun ls hl => ?_)
  have lp_6 : ∀ (n_8 : Nat) (x2_3 : Int32) (H : Heap) (locs : List Loc) (ls : Array Slot) (ws_4 : va_W), 4 - x2_3.toInt < (n_8 : Int) → 0 ≤ x2_3.toInt → x2_3.toInt ≤ 4 → (FT = L1_X8_goByRights n_8 (xso SC ad ws_4) a1.toInt x2_3.toInt) → Wt G SC ad A s H locs ws_4 → Fr SC [23] ws0 ws_4 → lv_has ls 5 [(2, .int x2_3), (0, .ref (ad 83)), (1, .int a1)] → W p l e (rmd 2 0 0) s m args below meth c H locs 0 0 Q (F0 m 2 ls []) := by
    intro n_8
    induction n_8 with
    | zero => intro x2_3 H locs ls ws_4 hn_9 b_10 b_11 HE h hF_5 hl; exact ((o18_6 b_10 b_11 hn_9)).elim
    | succ n_8 ih_7 =>
      intro x2_3 H locs ls ws_4 hn_9 b_10 b_11 HE h hF_5 hl
      obtain ⟨R2, hR2⟩ : ∃ z, z = L1_X8_goByRights n_8 := ⟨_, rfl⟩
      replace HE : FT = g2l_X8_goByRights R2 (xso SC ad ws_4) a1.toInt x2_3.toInt := HE.trans (by rw [hR2]; rfl)
      refine lv_iload_n C0.1 C0.2.1 dX8_goByRights_2 rfl (lv_at hl 0 rfl) ?_
      refine y_c1 (n := 4) C0 (by decide) dX8_goByRights_3 (fun v_12 e_13 => ?_)
      replace HE : FT = g3b_X8_goByRights R2 (xso SC ad ws_4) x2_3.toInt a1.toInt := HE.trans rfl
      refine y_icmp_ge (tgt := 75) C0 dX8_goByRights_4 (by decide) (fun c_14 => ?_) (fun c_14 => ?_)
      · -- 4
        replace HE : FT = g4_X8_goByRights (xso SC ad ws_4) := HE.trans (if_neg (o18_8 b_10 b_11 hn_9 e_13 c_14))
        replace HE : FT = ((xso SC ad ws_4), 0) := HE.trans rfl
        rw [hQ]
        exact y_vret C0 h hF_5 (congrArg Prod.fst (HE.symm.trans hFT)) dX8_goByRights_75
      · -- 4
        replace HE : FT = g5_X8_goByRights R2 (xso SC ad ws_4) a1.toInt x2_3.toInt := HE.trans (if_pos (o18_9 b_10 b_11 hn_9 e_13 c_14))
        refine lv_aload_n C0.1 C0.2.1 dX8_goByRights_7 rfl (lv_at hl 1 rfl) ?_
        refine tg_X8_sets C0 h kSC_83 q_316 dX8_goByRights_8 (fun i_15 hi_15 ei_15 => ?_)
        refine lv_iload_n C0.1 C0.2.1 dX8_goByRights_11 rfl (lv_at hl 2 rfl) ?_
        refine lv_iload_n C0.1 C0.2.1 dX8_goByRights_12 rfl (lv_at hl 0 rfl) ?_
        refine y_add C0 (o18_152 l1 u1 b_10 b_11 hn_9 e_13 c_14 (le_min a1) (le_max a1) (le_min x2_3) (le_max x2_3) (le_min v_12) (le_max v_12)) (o18_153 l1 u1 b_10 b_11 hn_9 e_13 c_14 (le_min a1) (le_max a1) (le_min x2_3) (le_max x2_3) (le_min v_12) (le_max v_12)) dX8_goByRights_13 (fun v_16 e_17 => ?_)
        refine y_iald C0 h hi_15 rfl (by decide) (o18_154 l1 u1 b_10 b_11 hn_9 e_13 c_14 e_17) (o18_155 l1 u1 b_10 b_11 hn_9 e_13 c_14 e_17) dX8_goByRights_14 (fun v_18 e_19 e_20 e_21 => ?_)
        refine lv_istore_n (lv' := [(3, .int v_18), (2, .int x2_3), (0, .ref (ad 83)), (1, .int a1)]) C0.1 C0.2.1 dX8_goByRights_15 rfl hl (by decide) rfl (fun ls hl => ?_)
        refine lv_iload_n C0.1 C0.2.1 dX8_goByRights_16 rfl (lv_at hl 0 rfl) ?_
        replace HE : FT = g6b_X8_goByRights R2 (xso SC ad ws_4) v_18.toInt a1.toInt x2_3.toInt := HE.trans (by rw [(xg1 e_19 : v_18.toInt = (xso SC ad ws_4) 1 i_15 v_16.toInt.toNat), e_17, ei_15]; rfl)
        refine y_if_eq (tgt := 69) C0 dX8_goByRights_17 (by decide) (fun c_22 => ?_) (fun c_22 => ?_)
        · -- 17
          replace HE : FT = g7_X8_goByRights R2 (xso SC ad ws_4) a1.toInt x2_3.toInt := HE.trans (if_pos c_22)
          refine y_inc (kp := 1) (n := 1) (fun v_23 => [(2, .int v_23), (3, .int v_18), (0, .ref (ad 83)), (1, .int a1)]) C0 hl rfl (by decide) (by decide) (fun _ => rfl) (o18_156 l1 u1 b_10 b_11 hn_9 e_13 c_14 e_17 (le_min x2_3) (le_max x2_3) (le_min a1) (le_max a1) (le_min v_12) (le_max v_12) (le_min v_16) (le_max v_16)) (o18_157 l1 u1 b_10 b_11 hn_9 e_13 c_14 e_17 (le_min x2_3) (le_max x2_3) (le_min a1) (le_max a1) (le_min v_12) (le_max v_12) (le_min v_16) (le_max v_16)) dX8_goByRights_69 (fun v_23 ls e_24 hl => ?_)
          refine lv_goto (tgt := 2) C0.1 C0.2.1 dX8_goByRights_72 (by decide) ?_
          exact ih_7 v_23 _ _ _ _ (o18_158 l1 u1 b_10 b_11 hn_9 e_13 c_14 e_17 e_24) (o18_159 l1 u1 b_10 b_11 hn_9 e_13 c_14 e_17 e_24) (o18_160 l1 u1 b_10 b_11 hn_9 e_13 c_14 e_17 e_24) (((show FT = R2 (xso SC ad ws_4) a1.toInt v_23.toInt from HE.trans (by rw [e_24]; rfl)).trans (by rw [hR2]))) h hF_5 (lv_sub hl [0, 2, 3] rfl)
        · -- 17
          replace HE : FT = g8_X8_goByRights R2 (xso SC ad ws_4) a1.toInt x2_3.toInt v_18.toInt := HE.trans (if_neg c_22)
          refine lv_iload_n C0.1 C0.2.1 dX8_goByRights_20 rfl (lv_at hl 1 rfl) ?_
          refine y_c1 (n := 1) C0 (by decide) dX8_goByRights_21 (fun v_25 e_26 => ?_)
          refine y_add C0 (o18_161 l1 u1 b_10 b_11 hn_9 e_13 c_14 e_17 e_26 (le_min x2_3) (le_max x2_3) (le_min v_25) (le_max v_25) (le_min a1) (le_max a1) (le_min v_12) (le_max v_12) (le_min v_16) (le_max v_16)) (o18_162 l1 u1 b_10 b_11 hn_9 e_13 c_14 e_17 e_26 (le_min x2_3) (le_max x2_3) (le_min v_25) (le_max v_25) (le_min a1) (le_max a1) (le_min v_12) (le_max v_12) (le_min v_16) (le_max v_16)) dX8_goByRights_22 (fun v_27 e_28 => ?_)
          refine y_c1 (n := 3) C0 (by decide) dX8_goByRights_23 (fun v_29 e_30 => ?_)
          refine xr_iand C0 dX8_goByRights_24 (fun v_31 e_32 => ?_)
          refine lv_istore (lv' := [(4, .int v_31), (3, .int v_18), (2, .int x2_3), (0, .ref (ad 83)), (1, .int a1)]) C0.1 C0.2.1 dX8_goByRights_25 hl (by decide) rfl (fun ls hl => ?_)
          refine lv_aload_n C0.1 C0.2.1 dX8_goByRights_27 rfl (lv_at hl 3 rfl) ?_
          refine tg_X8_nexts C0 h kSC_83 q_317 dX8_goByRights_28 (fun i_33 hi_33 ei_33 => ?_)
          refine lv_iload_n C0.1 C0.2.1 dX8_goByRights_31 rfl (lv_at hl 4 rfl) ?_
          refine lv_iload_n C0.1 C0.2.1 dX8_goByRights_32 rfl (lv_at hl 2 rfl) ?_
          refine y_add C0 (o18_163 l1 u1 b_10 b_11 hn_9 e_13 c_14 e_17 e_26 e_28 (le_min a1) (le_max a1) (le_min x2_3) (le_max x2_3) (le_min v_12) (le_max v_12) (le_min v_16) (le_max v_16) (le_min v_25) (le_max v_25) (le_min v_27) (le_max v_27)) (o18_164 l1 u1 b_10 b_11 hn_9 e_13 c_14 e_17 e_26 e_28 (le_min a1) (le_max a1) (le_min x2_3) (le_max x2_3) (le_min v_12) (le_max v_12) (le_min v_16) (le_max v_16) (le_min v_25) (le_max v_25) (le_min v_27) (le_max v_27)) dX8_goByRights_33 (fun v_34 e_35 => ?_)
          refine lv_dup2_11 C0.1 C0.2.1 dX8_goByRights_34 rfl rfl ?_
          refine y_iald C0 h hi_33 rfl (by decide) (o18_165 l1 u1 b_10 b_11 hn_9 e_13 c_14 e_17 e_26 e_28 e_35) (o18_166 l1 u1 b_10 b_11 hn_9 e_13 c_14 e_17 e_26 e_28 e_35) dX8_goByRights_35 (fun v_36 e_37 e_38 e_39 => ?_)
          refine lv_aload_n C0.1 C0.2.1 dX8_goByRights_36 rfl (lv_at hl 3 rfl) ?_
          refine tg_X8_city C0 h kSC_83 q_314 dX8_goByRights_37 ?_
          refine lv_iload_n C0.1 C0.2.1 dX8_goByRights_40 rfl (lv_at hl 1 rfl) ?_
          refine lv_iload_n C0.1 C0.2.1 dX8_goByRights_41 rfl (lv_at hl 2 rfl) ?_
          refine y_ci h (y_rV (As := [.int v_18, .int x2_3]) (rest := [.int v_36, .int v_34, .ref (ad i_33)]) C0 hZ h (c_X0_moved l G Z ad _ h.2 1 kSC_1 v_18 x2_3 (o18_167 l1 u1 b_10 b_11 hn_9 e_13 c_14 e_17 e_26 e_28 e_35) (o18_168 l1 u1 b_10 b_11 hn_9 e_13 c_14 e_17 e_26 e_28 e_35)) k_X0_moved q_1108 q_1109 q_1107 kSC_1 rfl rfl rfl hl.1 rfl rfl (Nat.le_of_ble_eq_true rfl) dX8_goByRights_42 ⟨Nat.le_of_ble_eq_true rfl, Nat.le_of_ble_eq_true rfl⟩ ⟨Nat.le_of_ble_eq_true rfl, Nat.le_of_ble_eq_true rfl⟩) (fun r_43 H locs ws_40 h u_41 p_42 => ?_)
          obtain ⟨e_44, e_45⟩ := p_42
          replace HE : FT = g9c_X8_goByRights R2 (xso SC ad ws_40) r_43.toInt v_36.toInt v_34.toInt i_33 a1.toInt x2_3.toInt v_18.toInt v_31.toInt := HE.trans (by rw [e_44, e_32, e_30, e_28, e_26, (xg1 e_37 : v_36.toInt = (xso SC ad ws_4) 1 i_33 v_34.toInt.toNat), e_35, ei_33, e_45]; rfl)
          refine xr_ior C0 dX8_goByRights_45 (fun v_46 e_47 => ?_)
          have hO_50 := h.2
          refine y_iast C0 h hi_33 rfl (by decide) (o18_165 l1 u1 b_10 b_11 hn_9 e_13 c_14 e_17 e_26 e_28 e_35) (o18_166 l1 u1 b_10 b_11 hn_9 e_13 c_14 e_17 e_26 e_28 e_35) (le_min v_46) (le_max v_46) dX8_goByRights_46 (fun H locs ws_48 h u_49 => ?_)
          replace HE : FT = g10w_X8_goByRights R2 (xso SC ad ws_48) a1.toInt x2_3.toInt v_18.toInt v_31.toInt := HE.trans (by rw [(xso_A (i := i_33) hO_50 h.2 hi_33 rfl u_49), e_47]; rfl)
          refine lv_aload_n C0.1 C0.2.1 dX8_goByRights_47 rfl (lv_at hl 3 rfl) ?_
          refine tg_X8_nexts C0 h kSC_83 q_317 dX8_goByRights_48 (fun i_51 hi_51 ei_51 => ?_)
          refine lv_iload_n C0.1 C0.2.1 dX8_goByRights_51 rfl (lv_at hl 4 rfl) ?_
          refine lv_iload C0.1 C0.2.1 dX8_goByRights_52 (lv_at hl 0 rfl) ?_
          refine y_add C0 (o18_169 l1 u1 b_10 b_11 hn_9 e_13 c_14 e_17 e_26 e_28 (xb_and 3 2 (n := 3) e_32 (Eq.trans (o18_78 e_30) (by decide)) (by decide) (by decide) (by decide)).1 (xb_and 3 2 (n := 3) e_32 (Eq.trans (o18_78 e_30) (by decide)) (by decide) (by decide) (by decide)).2 e_35 (le_min a1) (le_max a1) (le_min v_31) (le_max v_31) (le_min x2_3) (le_max x2_3) (le_min v_12) (le_max v_12) (le_min v_16) (le_max v_16) (le_min v_25) (le_max v_25) (le_min v_27) (le_max v_27) (le_min v_34) (le_max v_34)) (o18_170 l1 u1 b_10 b_11 hn_9 e_13 c_14 e_17 e_26 e_28 (xb_and 3 2 (n := 3) e_32 (Eq.trans (o18_78 e_30) (by decide)) (by decide) (by decide) (by decide)).1 (xb_and 3 2 (n := 3) e_32 (Eq.trans (o18_78 e_30) (by decide)) (by decide) (by decide) (by decide)).2 e_35 (le_min a1) (le_max a1) (le_min v_31) (le_max v_31) (le_min x2_3) (le_max x2_3) (le_min v_12) (le_max v_12) (le_min v_16) (le_max v_16) (le_min v_25) (le_max v_25) (le_min v_27) (le_max v_27) (le_min v_34) (le_max v_34)) dX8_goByRights_54 (fun v_52 e_53 => ?_)
          refine lv_dup2_11 C0.1 C0.2.1 dX8_goByRights_55 rfl rfl ?_
          refine y_iald C0 h hi_51 rfl (by decide) (o18_171 l1 u1 b_10 b_11 hn_9 e_13 c_14 e_17 e_26 e_28 (xb_and 3 2 (n := 3) e_32 (Eq.trans (o18_78 e_30) (by decide)) (by decide) (by decide) (by decide)).1 (xb_and 3 2 (n := 3) e_32 (Eq.trans (o18_78 e_30) (by decide)) (by decide) (by decide) (by decide)).2 e_35 e_53) (o18_172 l1 u1 b_10 b_11 hn_9 e_13 c_14 e_17 e_26 e_28 (xb_and 3 2 (n := 3) e_32 (Eq.trans (o18_78 e_30) (by decide)) (by decide) (by decide) (by decide)).1 (xb_and 3 2 (n := 3) e_32 (Eq.trans (o18_78 e_30) (by decide)) (by decide) (by decide) (by decide)).2 e_35 e_53) dX8_goByRights_56 (fun v_54 e_55 e_56 e_57 => ?_)
          refine lv_aload_n C0.1 C0.2.1 dX8_goByRights_57 rfl (lv_at hl 3 rfl) ?_
          refine tg_X8_city C0 h kSC_83 q_314 dX8_goByRights_58 ?_
          refine lv_iload_n C0.1 C0.2.1 dX8_goByRights_61 rfl (lv_at hl 1 rfl) ?_
          refine lv_iload C0.1 C0.2.1 dX8_goByRights_62 (lv_at hl 0 rfl) ?_
          refine y_ci h (y_rV (As := [.int v_18, .int v_31]) (rest := [.int v_54, .int v_52, .ref (ad i_51)]) C0 hZ h (c_X0_moved l G Z ad _ h.2 1 kSC_1 v_18 v_31 (o18_173 l1 u1 b_10 b_11 hn_9 e_13 c_14 e_17 e_26 e_28 (xb_and 3 2 (n := 3) e_32 (Eq.trans (o18_78 e_30) (by decide)) (by decide) (by decide) (by decide)).1 (xb_and 3 2 (n := 3) e_32 (Eq.trans (o18_78 e_30) (by decide)) (by decide) (by decide) (by decide)).2 e_35 e_53) (o18_174 l1 u1 b_10 b_11 hn_9 e_13 c_14 e_17 e_26 e_28 (xb_and 3 2 (n := 3) e_32 (Eq.trans (o18_78 e_30) (by decide)) (by decide) (by decide) (by decide)).1 (xb_and 3 2 (n := 3) e_32 (Eq.trans (o18_78 e_30) (by decide)) (by decide) (by decide) (by decide)).2 e_35 e_53)) k_X0_moved q_1108 q_1109 q_1107 kSC_1 rfl rfl rfl hl.1 rfl rfl (Nat.le_of_ble_eq_true rfl) dX8_goByRights_64 ⟨Nat.le_of_ble_eq_true rfl, Nat.le_of_ble_eq_true rfl⟩ ⟨Nat.le_of_ble_eq_true rfl, Nat.le_of_ble_eq_true rfl⟩) (fun r_61 H locs ws_58 h u_59 p_60 => ?_)
          obtain ⟨e_62, e_63⟩ := p_60
          replace HE : FT = g11c_X8_goByRights R2 (xso SC ad ws_58) r_61.toInt v_54.toInt v_52.toInt i_51 a1.toInt x2_3.toInt := HE.trans (by rw [e_62, (xg1 e_55 : v_54.toInt = (xso SC ad ws_48) 1 i_51 v_52.toInt.toNat), e_53, ei_51, e_63]; rfl)
          refine xr_ior C0 dX8_goByRights_67 (fun v_64 e_65 => ?_)
          have hO_68 := h.2
          refine y_iast C0 h hi_51 rfl (by decide) (o18_171 l1 u1 b_10 b_11 hn_9 e_13 c_14 e_17 e_26 e_28 (xb_and 3 2 (n := 3) e_32 (Eq.trans (o18_78 e_30) (by decide)) (by decide) (by decide) (by decide)).1 (xb_and 3 2 (n := 3) e_32 (Eq.trans (o18_78 e_30) (by decide)) (by decide) (by decide) (by decide)).2 e_35 e_53) (o18_172 l1 u1 b_10 b_11 hn_9 e_13 c_14 e_17 e_26 e_28 (xb_and 3 2 (n := 3) e_32 (Eq.trans (o18_78 e_30) (by decide)) (by decide) (by decide) (by decide)).1 (xb_and 3 2 (n := 3) e_32 (Eq.trans (o18_78 e_30) (by decide)) (by decide) (by decide) (by decide)).2 e_35 e_53) (le_min v_64) (le_max v_64) dX8_goByRights_68 (fun H locs ws_66 h u_67 => ?_)
          replace HE : FT = g12w_X8_goByRights R2 (xso SC ad ws_66) a1.toInt x2_3.toInt := HE.trans (by rw [(xso_A (i := i_51) hO_68 h.2 hi_51 rfl u_67), e_65]; rfl)
          refine y_inc (kp := 2) (n := 1) (fun v_69 => [(2, .int v_69), (4, .int v_31), (3, .int v_18), (0, .ref (ad 83)), (1, .int a1)]) C0 hl rfl (by decide) (by decide) (fun _ => rfl) (o18_175 l1 u1 b_10 b_11 hn_9 e_13 c_14 e_17 e_26 e_28 (xb_and 3 2 (n := 3) e_32 (Eq.trans (o18_78 e_30) (by decide)) (by decide) (by decide) (by decide)).1 (xb_and 3 2 (n := 3) e_32 (Eq.trans (o18_78 e_30) (by decide)) (by decide) (by decide) (by decide)).2 e_35 e_53 (le_min x2_3) (le_max x2_3) (le_min a1) (le_max a1) (le_min v_12) (le_max v_12) (le_min v_16) (le_max v_16) (le_min v_25) (le_max v_25) (le_min v_27) (le_max v_27) (le_min v_31) (le_max v_31) (le_min v_34) (le_max v_34) (le_min v_52) (le_max v_52)) (o18_176 l1 u1 b_10 b_11 hn_9 e_13 c_14 e_17 e_26 e_28 (xb_and 3 2 (n := 3) e_32 (Eq.trans (o18_78 e_30) (by decide)) (by decide) (by decide) (by decide)).1 (xb_and 3 2 (n := 3) e_32 (Eq.trans (o18_78 e_30) (by decide)) (by decide) (by decide) (by decide)).2 e_35 e_53 (le_min x2_3) (le_max x2_3) (le_min a1) (le_max a1) (le_min v_12) (le_max v_12) (le_min v_16) (le_max v_16) (le_min v_25) (le_max v_25) (le_min v_27) (le_max v_27) (le_min v_31) (le_max v_31) (le_min v_34) (le_max v_34) (le_min v_52) (le_max v_52)) dX8_goByRights_69 (fun v_69 ls e_70 hl => ?_)
          refine lv_goto (tgt := 2) C0.1 C0.2.1 dX8_goByRights_72 (by decide) ?_
          exact ih_7 v_69 _ _ _ _ (o18_177 l1 u1 b_10 b_11 hn_9 e_13 c_14 e_17 e_26 e_28 (xb_and 3 2 (n := 3) e_32 (Eq.trans (o18_78 e_30) (by decide)) (by decide) (by decide) (by decide)).1 (xb_and 3 2 (n := 3) e_32 (Eq.trans (o18_78 e_30) (by decide)) (by decide) (by decide) (by decide)).2 e_35 e_53 e_70) (o18_178 l1 u1 b_10 b_11 hn_9 e_13 c_14 e_17 e_26 e_28 (xb_and 3 2 (n := 3) e_32 (Eq.trans (o18_78 e_30) (by decide)) (by decide) (by decide) (by decide)).1 (xb_and 3 2 (n := 3) e_32 (Eq.trans (o18_78 e_30) (by decide)) (by decide) (by decide) (by decide)).2 e_35 e_53 e_70) (o18_179 l1 u1 b_10 b_11 hn_9 e_13 c_14 e_17 e_26 e_28 (xb_and 3 2 (n := 3) e_32 (Eq.trans (o18_78 e_30) (by decide)) (by decide) (by decide) (by decide)).1 (xb_and 3 2 (n := 3) e_32 (Eq.trans (o18_78 e_30) (by decide)) (by decide) (by decide) (by decide)).2 e_35 e_53 e_70) (((show FT = R2 (xso SC ad ws_66) a1.toInt v_69.toInt from HE.trans (by rw [e_70]; rfl)).trans (by rw [hR2]))) h (Fr.tr (Fr.tr (Fr.tr (Fr.tr hF_5 (Fr.mono u_41 (by decide))) (Fr.up u_49.1 hi_33 (by decide))) (Fr.mono u_59 (by decide))) (Fr.up u_67.1 hi_51 (by decide))) (lv_sub hl [0, 3, 4] rfl)
  exact lp_6 ((4 - v_1.toInt + 1).toNat) v_1 _ _ _ _ (o18_32 e_2) (o18_1 e_2) (o18_33 e_2) ((show FT = L1_X8_goByRights (Int.toNat (4 - v_1.toInt + 1)) (xso SC ad ws0) a1.toInt v_1.toInt from HE.trans (by rw [e_2]; rfl))) h Fr.rf (lv_sub hl [0, 1, 2] rfl)
noncomputable def g4_X8_goByLeft (s : XS) : XR := (s, 0)
noncomputable def g7_X8_goByLeft (R3 : XS → Int → Int → Int → Int → Int → Int → XR) (s : XS) (a1 : Int) (a2 : Int) (a3 : Int) (a4 : Int) (a5 : Int) (x6_3 : Int) : XR := R3 s a1 a2 a3 a4 a5 ((x6_3 + 1))
noncomputable def g11w_X8_goByLeft (R3 : XS → Int → Int → Int → Int → Int → Int → XR) (s : XS) (a1 : Int) (a2 : Int) (a3 : Int) (a4 : Int) (a5 : Int) (x6_3 : Int) : XR := R3 s a1 a2 a3 a4 a5 ((x6_3 + 1))
noncomputable def g10c_X8_goByLeft (R3 : XS → Int → Int → Int → Int → Int → Int → XR) (s : XS) (r_59 : Int) (v_46 : Int) (v_44 : Int) (i_43 : Nat) (a1 : Int) (a2 : Int) (a3 : Int) (a4 : Int) (a5 : Int) (x6_3 : Int) : XR := g11w_X8_goByLeft R3 (xup s 1 i_43 (Int.toNat v_44) ((Xior v_46 r_59))) a1 a2 a3 a4 a5 x6_3
noncomputable def g9c_X8_goByLeft (R3 : XS → Int → Int → Int → Int → Int → Int → XR) (s : XS) (r_53 : Int) (v_46 : Int) (v_44 : Int) (i_43 : Nat) (a1 : Int) (a2 : Int) (a3 : Int) (a4 : Int) (a5 : Int) (x6_3 : Int) (v_23 : Int) : XR := g10c_X8_goByLeft R3 ((f_X0_moved s 1 r_53 v_23).1) (((f_X0_moved s 1 r_53 v_23).2)) v_46 v_44 i_43 a1 a2 a3 a4 a5 x6_3
noncomputable def g8_X8_goByLeft (R3 : XS → Int → Int → Int → Int → Int → Int → XR) (s : XS) (a1 : Int) (a2 : Int) (a3 : Int) (a4 : Int) (a5 : Int) (x6_3 : Int) (v_23 : Int) (v_38 : Int) : XR := g9c_X8_goByLeft R3 ((f_X2_allowing s a1 v_23 v_38).1) (((f_X2_allowing s a1 v_23 v_38).2)) ((s 1 (Int.toNat (s 3 83 3)) (Int.toNat (a5 + v_23)))) ((a5 + v_23)) ((Int.toNat (s 3 83 3))) a1 a2 a3 a4 a5 x6_3 v_23
noncomputable def g6b_X8_goByLeft (R3 : XS → Int → Int → Int → Int → Int → Int → XR) (s : XS) (v_38 : Int) (a1 : Int) (a2 : Int) (a3 : Int) (a4 : Int) (a5 : Int) (x6_3 : Int) (v_23 : Int) : XR := if v_38 = 0 then g7_X8_goByLeft R3 s a1 a2 a3 a4 a5 x6_3 else g8_X8_goByLeft R3 s a1 a2 a3 a4 a5 x6_3 v_23 v_38
noncomputable def g5_X8_goByLeft (R3 : XS → Int → Int → Int → Int → Int → Int → XR) (s : XS) (a1 : Int) (a2 : Int) (a3 : Int) (a4 : Int) (a5 : Int) (x6_3 : Int) : XR := g6b_X8_goByLeft R3 s ((Xiand (Xiand (s 1 (Int.toNat (s 3 83 2)) (Int.toNat (a3 + x6_3))) a4) (s 1 18 (Int.toNat (Xiand (x6_3 + ((tTurn (Int.toNat a2)).toInt)) 3))))) a1 a2 a3 a4 a5 x6_3 ((Xiand (x6_3 + ((tTurn (Int.toNat a2)).toInt)) 3))
noncomputable def g3b_X8_goByLeft (R3 : XS → Int → Int → Int → Int → Int → Int → XR) (s : XS) (x6_3 : Int) (a1 : Int) (a2 : Int) (a3 : Int) (a4 : Int) (a5 : Int) : XR := if x6_3 < 4 then g5_X8_goByLeft R3 s a1 a2 a3 a4 a5 x6_3 else g4_X8_goByLeft s
noncomputable def g2l_X8_goByLeft (R3 : XS → Int → Int → Int → Int → Int → Int → XR) (s : XS) (a1 : Int) (a2 : Int) (a3 : Int) (a4 : Int) (a5 : Int) (x6_3 : Int) : XR := g3b_X8_goByLeft R3 s x6_3 a1 a2 a3 a4 a5
noncomputable def L1_X8_goByLeft (n : Nat) : XS → Int → Int → Int → Int → Int → Int → XR := Nat.rec (motive := fun _ => XS → Int → Int → Int → Int → Int → Int → XR) (fun s _ _ _ _ _ _ => (s, 0)) (fun _ R3 => g2l_X8_goByLeft R3) n
noncomputable def f_X8_goByLeft (s : XS) (a1 : Int) (a2 : Int) (a3 : Int) (a4 : Int) (a5 : Int) : XR := L1_X8_goByLeft (Int.toNat (4 - 0 + 1)) s a1 a2 a3 a4 a5 0
set_option maxHeartbeats 4000000 in
set_option maxRecDepth 100000 in
theorem c_X8_goByLeft (l : Launch) (G : GG) (Z : RZ) (ad : Nat → Nat) (ws0 : va_W) (hT : Ty G SC ad ws0) (a1 : Int32) (a2 : Int32) (a3 : Int32) (a4 : Int32) (a5 : Int32) (l1 : 0 ≤ a1.toInt) (u1 : a1.toInt ≤ 239) (l2 : 2 ≤ a2.toInt) (u2 : a2.toInt ≤ 3) (l3 : 0 ≤ a3.toInt) (u3 : a3.toInt ≤ 480) (l5 : 0 ≤ a5.toInt) (u5 : a5.toInt ≤ 480) : Mq l yX8_goByLeft cX8_goByLeft 9 none 4 G Z [.ref (ad 83), .int a1, .int a2, .int a3, .int a4, .int a5] ws0 (PV G SC ad [4, 5, 18, 19, 20, 21, 23] ws0 (fun u => (xso SC ad u = (f_X8_goByLeft (xso SC ad ws0) a1.toInt a2.toInt a3.toInt a4.toInt a5.toInt).1))) := by
  refine Mq.start (by decide) (Nat.le_of_ble_eq_true rfl) ?_
  intro p e s m below meth c A ls C0 hZ h hl
  have hl : lv_has ls 9 [(0, .ref (ad 83)), (1, .int a1), (2, .int a2), (3, .int a3), (4, .int a4), (5, .int a5)] := hl
  have h : Wt G SC ad A s s.heap [] ws0 := ⟨h, hT⟩
  obtain ⟨args, hargs⟩ : ∃ z, z = ([.ref (ad 83), .int a1, .int a2, .int a3, .int a4, .int a5] : List Value).toArray := ⟨_, rfl⟩
  rw [← hargs] at C0 ⊢
  have C0 : Cx p s m args meth c RX8 cX8_goByLeft 9 none := C0
  obtain ⟨Q, hQ⟩ : ∃ z, z = MQ below ((PV G SC ad [4, 5, 18, 19, 20, 21, 23] ws0 (fun u => (xso SC ad u = (f_X8_goByLeft (xso SC ad ws0) a1.toInt a2.toInt a3.toInt a4.toInt a5.toInt).1))) A) args s 0 0 A := ⟨_, rfl⟩
  rw [← hQ]
  obtain ⟨FT, hFT⟩ : ∃ z, z = f_X8_goByLeft (xso SC ad ws0) a1.toInt a2.toInt a3.toInt a4.toInt a5.toInt := ⟨_, rfl⟩
  have HE : FT = f_X8_goByLeft (xso SC ad ws0) a1.toInt a2.toInt a3.toInt a4.toInt a5.toInt := hFT
  refine y_c1 (n := 0) C0 (by decide) dX8_goByLeft_0 (fun v_1 e_2 => ?_)
  refine lv_istore (lv' := [(6, .int v_1), (0, .ref (ad 83)), (1, .int a1), (2, .int a2), (3, .int a3), (4, .int a4), (5, .int a5)]) C0.1 C0.2.1 dX8_goByLeft_1 hl (by decide) rfl (fun ls hl => ?_)
  have lp_6 : ∀ (n_8 : Nat) (x6_3 : Int32) (H : Heap) (locs : List Loc) (ls : Array Slot) (ws_4 : va_W), 4 - x6_3.toInt < (n_8 : Int) → 0 ≤ x6_3.toInt → x6_3.toInt ≤ 4 → (FT = L1_X8_goByLeft n_8 (xso SC ad ws_4) a1.toInt a2.toInt a3.toInt a4.toInt a5.toInt x6_3.toInt) → Wt G SC ad A s H locs ws_4 → Fr SC [4, 5, 18, 19, 20, 21, 23] ws0 ws_4 → lv_has ls 9 [(6, .int x6_3), (0, .ref (ad 83)), (1, .int a1), (2, .int a2), (3, .int a3), (4, .int a4), (5, .int a5)] → W p l e (rmd 4 0 0) s m args below meth c H locs 0 0 Q (F0 m 3 ls []) := by
    intro n_8
    induction n_8 with
    | zero => intro x6_3 H locs ls ws_4 hn_9 b_10 b_11 HE h hF_5 hl; exact ((o18_6 b_10 b_11 hn_9)).elim
    | succ n_8 ih_7 =>
      intro x6_3 H locs ls ws_4 hn_9 b_10 b_11 HE h hF_5 hl
      obtain ⟨R3, hR3⟩ : ∃ z, z = L1_X8_goByLeft n_8 := ⟨_, rfl⟩
      replace HE : FT = g2l_X8_goByLeft R3 (xso SC ad ws_4) a1.toInt a2.toInt a3.toInt a4.toInt a5.toInt x6_3.toInt := HE.trans (by rw [hR3]; rfl)
      refine lv_iload C0.1 C0.2.1 dX8_goByLeft_3 (lv_at hl 0 rfl) ?_
      refine y_c1 (n := 4) C0 (by decide) dX8_goByLeft_5 (fun v_12 e_13 => ?_)
      replace HE : FT = g3b_X8_goByLeft R3 (xso SC ad ws_4) x6_3.toInt a1.toInt a2.toInt a3.toInt a4.toInt a5.toInt := HE.trans rfl
      refine y_icmp_ge (tgt := 91) C0 dX8_goByLeft_6 (by decide) (fun c_14 => ?_) (fun c_14 => ?_)
      · -- 6
        replace HE : FT = g4_X8_goByLeft (xso SC ad ws_4) := HE.trans (if_neg (o18_8 b_10 b_11 hn_9 e_13 c_14))
        replace HE : FT = ((xso SC ad ws_4), 0) := HE.trans rfl
        rw [hQ]
        exact y_vret C0 h hF_5 (congrArg Prod.fst (HE.symm.trans hFT)) dX8_goByLeft_91
      · -- 6
        replace HE : FT = g5_X8_goByLeft R3 (xso SC ad ws_4) a1.toInt a2.toInt a3.toInt a4.toInt a5.toInt x6_3.toInt := HE.trans (if_pos (o18_9 b_10 b_11 hn_9 e_13 c_14))
        refine lv_iload C0.1 C0.2.1 dX8_goByLeft_9 (lv_at hl 0 rfl) ?_
        refine y_turned C0 hZ h hZ.2.2.2.2.2.2.1 dX8_goByLeft_11 ?_
        refine lv_iload_n C0.1 C0.2.1 dX8_goByLeft_14 rfl (lv_at hl 3 rfl) ?_
        refine y_tald C0 hZ h (o18_180 l2 u2) (o18_181 l2 u2) dX8_goByLeft_15 (fun v_18 e_15 e_16 e_17 => ?_)
        refine y_add C0 (o18_182 b_10 b_11 hn_9 e_13 c_14 e_16 e_17 (le_min x6_3) (le_max x6_3) (le_min v_18) (le_max v_18) (le_min v_12) (le_max v_12)) (o18_183 b_10 b_11 hn_9 e_13 c_14 e_16 e_17 (le_min x6_3) (le_max x6_3) (le_min v_18) (le_max v_18) (le_min v_12) (le_max v_12)) dX8_goByLeft_16 (fun v_19 e_20 => ?_)
        refine y_c1 (n := 3) C0 (by decide) dX8_goByLeft_17 (fun v_21 e_22 => ?_)
        refine xr_iand C0 dX8_goByLeft_18 (fun v_23 e_24 => ?_)
        refine lv_istore (lv' := [(7, .int v_23), (6, .int x6_3), (0, .ref (ad 83)), (1, .int a1), (2, .int a2), (3, .int a3), (4, .int a4), (5, .int a5)]) C0.1 C0.2.1 dX8_goByLeft_19 hl (by decide) rfl (fun ls hl => ?_)
        refine lv_aload_n C0.1 C0.2.1 dX8_goByLeft_21 rfl (lv_at hl 2 rfl) ?_
        refine tg_X8_sets C0 h kSC_83 q_316 dX8_goByLeft_22 (fun i_25 hi_25 ei_25 => ?_)
        refine lv_iload_n C0.1 C0.2.1 dX8_goByLeft_25 rfl (lv_at hl 5 rfl) ?_
        refine lv_iload C0.1 C0.2.1 dX8_goByLeft_26 (lv_at hl 1 rfl) ?_
        refine y_add C0 (o18_184 l3 u3 b_10 b_11 hn_9 e_13 c_14 e_16 e_17 e_20 (le_min a3) (le_max a3) (le_min x6_3) (le_max x6_3) (le_min v_12) (le_max v_12) (le_min v_18) (le_max v_18) (le_min v_19) (le_max v_19)) (o18_185 l3 u3 b_10 b_11 hn_9 e_13 c_14 e_16 e_17 e_20 (le_min a3) (le_max a3) (le_min x6_3) (le_max x6_3) (le_min v_12) (le_max v_12) (le_min v_18) (le_max v_18) (le_min v_19) (le_max v_19)) dX8_goByLeft_28 (fun v_26 e_27 => ?_)
        refine y_iald C0 h hi_25 rfl (by decide) (o18_186 l3 u3 b_10 b_11 hn_9 e_13 c_14 e_16 e_17 e_20 e_27) (o18_187 l3 u3 b_10 b_11 hn_9 e_13 c_14 e_16 e_17 e_20 e_27) dX8_goByLeft_29 (fun v_28 e_29 e_30 e_31 => ?_)
        refine lv_iload C0.1 C0.2.1 dX8_goByLeft_30 (lv_at hl 6 rfl) ?_
        refine xr_iand C0 dX8_goByLeft_32 (fun v_32 e_33 => ?_)
        refine lv_aload_n C0.1 C0.2.1 dX8_goByLeft_33 rfl (lv_at hl 2 rfl) ?_
        refine tg_X8_city C0 h kSC_83 q_314 dX8_goByLeft_34 ?_
        refine tg_X0_streets C0 h kSC_1 q_254 dX8_goByLeft_37 ?_
        refine lv_iload C0.1 C0.2.1 dX8_goByLeft_40 (lv_at hl 0 rfl) ?_
        refine y_iald C0 h kSC_18 rfl (by decide) (o18_42 (xb_and 3 2 (n := 3) e_24 (Eq.trans (o18_78 e_22) (by decide)) (by decide) (by decide) (by decide)).1 (xb_and 3 2 (n := 3) e_24 (Eq.trans (o18_78 e_22) (by decide)) (by decide) (by decide) (by decide)).2) (o18_188 (xb_and 3 2 (n := 3) e_24 (Eq.trans (o18_78 e_22) (by decide)) (by decide) (by decide) (by decide)).1 (xb_and 3 2 (n := 3) e_24 (Eq.trans (o18_78 e_22) (by decide)) (by decide) (by decide) (by decide)).2) dX8_goByLeft_42 (fun v_34 e_35 e_36 e_37 => ?_)
        refine xr_iand C0 dX8_goByLeft_43 (fun v_38 e_39 => ?_)
        refine lv_istore (lv' := [(8, .int v_38), (7, .int v_23), (6, .int x6_3), (0, .ref (ad 83)), (1, .int a1), (2, .int a2), (3, .int a3), (4, .int a4), (5, .int a5)]) C0.1 C0.2.1 dX8_goByLeft_44 hl (by decide) rfl (fun ls hl => ?_)
        refine lv_iload C0.1 C0.2.1 dX8_goByLeft_46 (lv_at hl 0 rfl) ?_
        replace HE : FT = g6b_X8_goByLeft R3 (xso SC ad ws_4) v_38.toInt a1.toInt a2.toInt a3.toInt a4.toInt a5.toInt x6_3.toInt v_23.toInt := HE.trans (by rw [e_39, (xg1 e_35 : v_34.toInt = (xso SC ad ws_4) 1 18 v_23.toInt.toNat), e_24, e_22, e_20, (congrArg Int32.toInt e_15), e_33, (xg1 e_29 : v_28.toInt = (xso SC ad ws_4) 1 i_25 v_26.toInt.toNat), e_27, ei_25]; rfl)
        refine y_if_eq (tgt := 85) C0 dX8_goByLeft_48 (by decide) (fun c_40 => ?_) (fun c_40 => ?_)
        · -- 48
          replace HE : FT = g7_X8_goByLeft R3 (xso SC ad ws_4) a1.toInt a2.toInt a3.toInt a4.toInt a5.toInt x6_3.toInt := HE.trans (if_pos c_40)
          refine y_inc (kp := 2) (n := 1) (fun v_41 => [(6, .int v_41), (8, .int v_38), (7, .int v_23), (0, .ref (ad 83)), (1, .int a1), (2, .int a2), (3, .int a3), (4, .int a4), (5, .int a5)]) C0 hl rfl (by decide) (by decide) (fun _ => rfl) (o18_189 l3 u3 b_10 b_11 hn_9 e_13 c_14 e_16 e_17 e_20 e_27 (le_min x6_3) (le_max x6_3) (le_min a3) (le_max a3) (le_min v_12) (le_max v_12) (le_min v_18) (le_max v_18) (le_min v_19) (le_max v_19) (le_min v_26) (le_max v_26)) (o18_190 l3 u3 b_10 b_11 hn_9 e_13 c_14 e_16 e_17 e_20 e_27 (le_min x6_3) (le_max x6_3) (le_min a3) (le_max a3) (le_min v_12) (le_max v_12) (le_min v_18) (le_max v_18) (le_min v_19) (le_max v_19) (le_min v_26) (le_max v_26)) dX8_goByLeft_85 (fun v_41 ls e_42 hl => ?_)
          refine lv_goto (tgt := 3) C0.1 C0.2.1 dX8_goByLeft_88 (by decide) ?_
          exact ih_7 v_41 _ _ _ _ (o18_191 l3 u3 b_10 b_11 hn_9 e_13 c_14 e_16 e_17 e_20 e_27 e_42) (o18_192 l3 u3 b_10 b_11 hn_9 e_13 c_14 e_16 e_17 e_20 e_27 e_42) (o18_193 l3 u3 b_10 b_11 hn_9 e_13 c_14 e_16 e_17 e_20 e_27 e_42) (((show FT = R3 (xso SC ad ws_4) a1.toInt a2.toInt a3.toInt a4.toInt a5.toInt v_41.toInt from HE.trans (by rw [e_42]; rfl)).trans (by rw [hR3]))) h hF_5 (lv_sub hl [0, 3, 4, 5, 6, 7, 8] rfl)
        · -- 48
          replace HE : FT = g8_X8_goByLeft R3 (xso SC ad ws_4) a1.toInt a2.toInt a3.toInt a4.toInt a5.toInt x6_3.toInt v_23.toInt v_38.toInt := HE.trans (if_neg c_40)
          refine lv_aload_n C0.1 C0.2.1 dX8_goByLeft_51 rfl (lv_at hl 3 rfl) ?_
          refine tg_X8_nexts C0 h kSC_83 q_317 dX8_goByLeft_52 (fun i_43 hi_43 ei_43 => ?_)
          refine lv_iload C0.1 C0.2.1 dX8_goByLeft_55 (lv_at hl 8 rfl) ?_
          refine lv_iload C0.1 C0.2.1 dX8_goByLeft_57 (lv_at hl 1 rfl) ?_
          refine y_add C0 (o18_194 l5 u5 (xb_and 3 2 (n := 3) e_24 (Eq.trans (o18_78 e_22) (by decide)) (by decide) (by decide) (by decide)).1 (xb_and 3 2 (n := 3) e_24 (Eq.trans (o18_78 e_22) (by decide)) (by decide) (by decide) (by decide)).2 (le_min a5) (le_max a5) (le_min v_23) (le_max v_23)) (o18_195 l5 u5 (xb_and 3 2 (n := 3) e_24 (Eq.trans (o18_78 e_22) (by decide)) (by decide) (by decide) (by decide)).1 (xb_and 3 2 (n := 3) e_24 (Eq.trans (o18_78 e_22) (by decide)) (by decide) (by decide) (by decide)).2 (le_min a5) (le_max a5) (le_min v_23) (le_max v_23)) dX8_goByLeft_59 (fun v_44 e_45 => ?_)
          refine lv_dup2_11 C0.1 C0.2.1 dX8_goByLeft_60 rfl rfl ?_
          refine y_iald C0 h hi_43 rfl (by decide) (o18_196 l5 u5 (xb_and 3 2 (n := 3) e_24 (Eq.trans (o18_78 e_22) (by decide)) (by decide) (by decide) (by decide)).1 (xb_and 3 2 (n := 3) e_24 (Eq.trans (o18_78 e_22) (by decide)) (by decide) (by decide) (by decide)).2 e_45) (o18_197 l5 u5 (xb_and 3 2 (n := 3) e_24 (Eq.trans (o18_78 e_22) (by decide)) (by decide) (by decide) (by decide)).1 (xb_and 3 2 (n := 3) e_24 (Eq.trans (o18_78 e_22) (by decide)) (by decide) (by decide) (by decide)).2 e_45) dX8_goByLeft_61 (fun v_46 e_47 e_48 e_49 => ?_)
          refine lv_aload_n C0.1 C0.2.1 dX8_goByLeft_62 rfl (lv_at hl 3 rfl) ?_
          refine tg_X8_city C0 h kSC_83 q_314 dX8_goByLeft_63 ?_
          refine lv_aload_n C0.1 C0.2.1 dX8_goByLeft_66 rfl (lv_at hl 3 rfl) ?_
          refine tg_X8_forecast C0 h kSC_83 q_315 dX8_goByLeft_67 ?_
          refine lv_iload_n C0.1 C0.2.1 dX8_goByLeft_70 rfl (lv_at hl 4 rfl) ?_
          refine lv_iload C0.1 C0.2.1 dX8_goByLeft_71 (lv_at hl 1 rfl) ?_
          refine lv_iload C0.1 C0.2.1 dX8_goByLeft_73 (lv_at hl 0 rfl) ?_
          refine y_ci h (y_rV (As := [.int a1, .int v_23, .int v_38]) (rest := [.ref (ad 1), .int v_46, .int v_44, .ref (ad i_43)]) C0 hZ h (c_X2_allowing l G Z ad _ h.2 a1 v_23 v_38 (o18_37 l1 u1) (o18_38 l1 u1) (o18_198 l5 u5 (xb_and 3 2 (n := 3) e_24 (Eq.trans (o18_78 e_22) (by decide)) (by decide) (by decide) (by decide)).1 (xb_and 3 2 (n := 3) e_24 (Eq.trans (o18_78 e_22) (by decide)) (by decide) (by decide) (by decide)).2 e_45) (o18_199 l5 u5 (xb_and 3 2 (n := 3) e_24 (Eq.trans (o18_78 e_22) (by decide)) (by decide) (by decide) (by decide)).1 (xb_and 3 2 (n := 3) e_24 (Eq.trans (o18_78 e_22) (by decide)) (by decide) (by decide) (by decide)).2 e_45)) k_X2_allowing q_1117 q_1118 q_1116 kSC_79 rfl rfl rfl hl.1 rfl rfl (Nat.le_of_ble_eq_true rfl) dX8_goByLeft_75 ⟨Nat.le_of_ble_eq_true rfl, Nat.le_of_ble_eq_true rfl⟩ ⟨Nat.le_of_ble_eq_true rfl, Nat.le_of_ble_eq_true rfl⟩) (fun r_53 H locs ws_50 h u_51 p_52 => ?_)
          obtain ⟨e_54, e_55⟩ := p_52
          replace HE : FT = g9c_X8_goByLeft R3 (xso SC ad ws_50) r_53.toInt v_46.toInt v_44.toInt i_43 a1.toInt a2.toInt a3.toInt a4.toInt a5.toInt x6_3.toInt v_23.toInt := HE.trans (by rw [e_54, (xg1 e_47 : v_46.toInt = (xso SC ad ws_4) 1 i_43 v_44.toInt.toNat), e_45, ei_43, e_55]; rfl)
          refine lv_iload C0.1 C0.2.1 dX8_goByLeft_78 (lv_at hl 1 rfl) ?_
          refine y_ci h (y_rV (As := [.int r_53, .int v_23]) (rest := [.int v_46, .int v_44, .ref (ad i_43)]) C0 hZ h (c_X0_moved l G Z ad _ h.2 1 kSC_1 r_53 v_23 (o18_198 l5 u5 (xb_and 3 2 (n := 3) e_24 (Eq.trans (o18_78 e_22) (by decide)) (by decide) (by decide) (by decide)).1 (xb_and 3 2 (n := 3) e_24 (Eq.trans (o18_78 e_22) (by decide)) (by decide) (by decide) (by decide)).2 e_45) (o18_199 l5 u5 (xb_and 3 2 (n := 3) e_24 (Eq.trans (o18_78 e_22) (by decide)) (by decide) (by decide) (by decide)).1 (xb_and 3 2 (n := 3) e_24 (Eq.trans (o18_78 e_22) (by decide)) (by decide) (by decide) (by decide)).2 e_45)) k_X0_moved q_1108 q_1109 q_1107 kSC_1 rfl rfl rfl hl.1 rfl rfl (Nat.le_of_ble_eq_true rfl) dX8_goByLeft_80 ⟨Nat.le_of_ble_eq_true rfl, Nat.le_of_ble_eq_true rfl⟩ ⟨Nat.le_of_ble_eq_true rfl, Nat.le_of_ble_eq_true rfl⟩) (fun r_59 H locs ws_56 h u_57 p_58 => ?_)
          obtain ⟨e_60, e_61⟩ := p_58
          replace HE : FT = g10c_X8_goByLeft R3 (xso SC ad ws_56) r_59.toInt v_46.toInt v_44.toInt i_43 a1.toInt a2.toInt a3.toInt a4.toInt a5.toInt x6_3.toInt := HE.trans (by rw [e_60, e_61]; rfl)
          refine xr_ior C0 dX8_goByLeft_83 (fun v_62 e_63 => ?_)
          have hO_66 := h.2
          refine y_iast C0 h hi_43 rfl (by decide) (o18_196 l5 u5 (xb_and 3 2 (n := 3) e_24 (Eq.trans (o18_78 e_22) (by decide)) (by decide) (by decide) (by decide)).1 (xb_and 3 2 (n := 3) e_24 (Eq.trans (o18_78 e_22) (by decide)) (by decide) (by decide) (by decide)).2 e_45) (o18_197 l5 u5 (xb_and 3 2 (n := 3) e_24 (Eq.trans (o18_78 e_22) (by decide)) (by decide) (by decide) (by decide)).1 (xb_and 3 2 (n := 3) e_24 (Eq.trans (o18_78 e_22) (by decide)) (by decide) (by decide) (by decide)).2 e_45) (le_min v_62) (le_max v_62) dX8_goByLeft_84 (fun H locs ws_64 h u_65 => ?_)
          replace HE : FT = g11w_X8_goByLeft R3 (xso SC ad ws_64) a1.toInt a2.toInt a3.toInt a4.toInt a5.toInt x6_3.toInt := HE.trans (by rw [(xso_A (i := i_43) hO_66 h.2 hi_43 rfl u_65), e_63]; rfl)
          refine y_inc (kp := 2) (n := 1) (fun v_67 => [(6, .int v_67), (8, .int v_38), (7, .int v_23), (0, .ref (ad 83)), (1, .int a1), (2, .int a2), (3, .int a3), (4, .int a4), (5, .int a5)]) C0 hl rfl (by decide) (by decide) (fun _ => rfl) (o18_189 l3 u3 b_10 b_11 hn_9 e_13 c_14 e_16 e_17 e_20 e_27 (le_min x6_3) (le_max x6_3) (le_min a3) (le_max a3) (le_min v_12) (le_max v_12) (le_min v_18) (le_max v_18) (le_min v_19) (le_max v_19) (le_min v_26) (le_max v_26)) (o18_190 l3 u3 b_10 b_11 hn_9 e_13 c_14 e_16 e_17 e_20 e_27 (le_min x6_3) (le_max x6_3) (le_min a3) (le_max a3) (le_min v_12) (le_max v_12) (le_min v_18) (le_max v_18) (le_min v_19) (le_max v_19) (le_min v_26) (le_max v_26)) dX8_goByLeft_85 (fun v_67 ls e_68 hl => ?_)
          refine lv_goto (tgt := 3) C0.1 C0.2.1 dX8_goByLeft_88 (by decide) ?_
          exact ih_7 v_67 _ _ _ _ (o18_191 l3 u3 b_10 b_11 hn_9 e_13 c_14 e_16 e_17 e_20 e_27 e_68) (o18_192 l3 u3 b_10 b_11 hn_9 e_13 c_14 e_16 e_17 e_20 e_27 e_68) (o18_193 l3 u3 b_10 b_11 hn_9 e_13 c_14 e_16 e_17 e_20 e_27 e_68) (((show FT = R3 (xso SC ad ws_64) a1.toInt a2.toInt a3.toInt a4.toInt a5.toInt v_67.toInt from HE.trans (by rw [e_68]; rfl)).trans (by rw [hR3]))) h (Fr.tr (Fr.tr (Fr.tr hF_5 (Fr.mono u_51 (by decide))) (Fr.mono u_57 (by decide))) (Fr.up u_65.1 hi_43 (by decide))) (lv_sub hl [0, 3, 4, 5, 6, 7, 8] rfl)
  exact lp_6 ((4 - v_1.toInt + 1).toNat) v_1 _ _ _ _ (o18_32 e_2) (o18_1 e_2) (o18_33 e_2) ((show FT = L1_X8_goByLeft (Int.toNat (4 - v_1.toInt + 1)) (xso SC ad ws0) a1.toInt a2.toInt a3.toInt a4.toInt a5.toInt v_1.toInt from HE.trans (by rw [e_2]; rfl))) h Fr.rf (lv_sub hl [0, 1, 2, 3, 4, 5, 6] rfl)
noncomputable def g8c_X8_goOn (s : XS) : XR := (s, 0)
noncomputable def g7c_X8_goOn (s : XS) : XR := g8c_X8_goOn ((f_X8_thin s).1)
noncomputable def g5_X8_goOn (s : XS) (a3 : Int) : XR := g7c_X8_goOn ((f_X8_change s (min ((s 0 83 4) + 2) a3)).1)
noncomputable def g13c_X8_goOn (s : XS) : XR := (s, 0)
noncomputable def g12c_X8_goOn (s : XS) : XR := g13c_X8_goOn ((f_X8_thin s).1)
noncomputable def g10_X8_goOn (s : XS) (a3 : Int) : XR := g12c_X8_goOn ((f_X8_change s (min ((s 0 83 4) + 2) a3)).1)
noncomputable def g18_X8_goOn (R15 : XS → Int → Int → Int → Int → XR) (s : XS) (a1 : Int) (a3 : Int) (v_7 : Int) (x5_11 : Int) : XR := R15 s a1 a3 v_7 ((x5_11 + 1))
noncomputable def g22_X8_goOn (R15 : XS → Int → Int → Int → Int → XR) (R45 : XS → Int → Int → Int → Int → Int → Int → XR) (s : XS) (a1 : Int) (a3 : Int) (v_7 : Int) (x5_11 : Int) (v_68 : Int) (x7_76 : Int) : XR := R45 s a1 a3 v_7 x5_11 v_68 ((x7_76 + 1))
noncomputable def g24c_X8_goOn (R15 : XS → Int → Int → Int → Int → XR) (R45 : XS → Int → Int → Int → Int → Int → Int → XR) (s : XS) (a1 : Int) (a3 : Int) (v_7 : Int) (x5_11 : Int) (v_68 : Int) (x7_76 : Int) : XR := R45 s a1 a3 v_7 x5_11 v_68 ((x7_76 + 1))
noncomputable def g23_X8_goOn (R15 : XS → Int → Int → Int → Int → XR) (R45 : XS → Int → Int → Int → Int → Int → Int → XR) (s : XS) (a1 : Int) (a3 : Int) (v_7 : Int) (x5_11 : Int) (v_68 : Int) (x7_76 : Int) : XR := g24c_X8_goOn R15 R45 ((f_X8_goByLeft s a1 x7_76 v_68 (Xixor v_7 ((-1))) (v_68 + (4 * (x7_76 - 1)))).1) a1 a3 v_7 x5_11 v_68 x7_76
noncomputable def g21b_X8_goOn (R15 : XS → Int → Int → Int → Int → XR) (R45 : XS → Int → Int → Int → Int → Int → Int → XR) (s : XS) (a3 : Int) (v_98 : Int) (a1 : Int) (v_7 : Int) (x5_11 : Int) (v_68 : Int) (x7_76 : Int) : XR := if a3 < v_98 then g22_X8_goOn R15 R45 s a1 a3 v_7 x5_11 v_68 x7_76 else g23_X8_goOn R15 R45 s a1 a3 v_7 x5_11 v_68 x7_76
noncomputable def g20c_X8_goOn (R15 : XS → Int → Int → Int → Int → XR) (R45 : XS → Int → Int → Int → Int → Int → Int → XR) (s : XS) (a1 : Int) (a3 : Int) (v_7 : Int) (x5_11 : Int) (v_68 : Int) (x7_76 : Int) : XR := g21b_X8_goOn R15 R45 s a3 (((x5_11 + x7_76) - 1)) a1 v_7 x5_11 v_68 x7_76
noncomputable def g19_X8_goOn (R15 : XS → Int → Int → Int → Int → XR) (R45 : XS → Int → Int → Int → Int → Int → Int → XR) (s : XS) (a1 : Int) (a3 : Int) (v_7 : Int) (x5_11 : Int) (v_68 : Int) (x7_76 : Int) : XR := g20c_X8_goOn R15 R45 ((f_X8_goByLeft s a1 x7_76 v_68 v_7 v_68).1) a1 a3 v_7 x5_11 v_68 x7_76
noncomputable def g17b_X8_goOn (R15 : XS → Int → Int → Int → Int → XR) (R45 : XS → Int → Int → Int → Int → Int → Int → XR) (s : XS) (x7_76 : Int) (a1 : Int) (a3 : Int) (v_7 : Int) (x5_11 : Int) (v_68 : Int) : XR := if x7_76 < 4 then g19_X8_goOn R15 R45 s a1 a3 v_7 x5_11 v_68 x7_76 else g18_X8_goOn R15 s a1 a3 v_7 x5_11
noncomputable def g16l_X8_goOn (R15 : XS → Int → Int → Int → Int → XR) (R45 : XS → Int → Int → Int → Int → Int → Int → XR) (s : XS) (a1 : Int) (a3 : Int) (v_7 : Int) (x5_11 : Int) (v_68 : Int) (x7_76 : Int) : XR := g17b_X8_goOn R15 R45 s x7_76 a1 a3 v_7 x5_11 v_68
noncomputable def L15_X8_goOn (R15 : XS → Int → Int → Int → Int → XR) (n : Nat) : XS → Int → Int → Int → Int → Int → Int → XR := Nat.rec (motive := fun _ => XS → Int → Int → Int → Int → Int → Int → XR) (fun s _ _ _ _ _ _ => (s, 0)) (fun _ R45 => g16l_X8_goOn R15 R45) n
noncomputable def g14c_X8_goOn (R15 : XS → Int → Int → Int → Int → XR) (s : XS) (a1 : Int) (a3 : Int) (v_7 : Int) (x5_11 : Int) (v_68 : Int) : XR := L15_X8_goOn R15 (Int.toNat (4 - 2 + 1)) s a1 a3 v_7 x5_11 v_68 2
noncomputable def g11_X8_goOn (R15 : XS → Int → Int → Int → Int → XR) (s : XS) (a1 : Int) (a3 : Int) (v_7 : Int) (x5_11 : Int) : XR := g14c_X8_goOn R15 ((f_X8_goByRights s (4 * x5_11)).1) a1 a3 v_7 x5_11 ((4 * x5_11))
noncomputable def g9b_X8_goOn (R15 : XS → Int → Int → Int → Int → XR) (s : XS) (a3 : Int) (x5_11 : Int) (a1 : Int) (v_7 : Int) : XR := if a3 < x5_11 then g10_X8_goOn s a3 else g11_X8_goOn R15 s a1 a3 v_7 x5_11
noncomputable def g6_X8_goOn (R15 : XS → Int → Int → Int → Int → XR) (s : XS) (a1 : Int) (a3 : Int) (v_7 : Int) (x5_11 : Int) : XR := g9b_X8_goOn R15 s a3 x5_11 a1 v_7
noncomputable def g4b_X8_goOn (R15 : XS → Int → Int → Int → Int → XR) (s : XS) (v_20 : Int) (x5_11 : Int) (a1 : Int) (a3 : Int) (v_7 : Int) : XR := if v_20 < x5_11 then g5_X8_goOn s a3 else g6_X8_goOn R15 s a1 a3 v_7 x5_11
noncomputable def g3l_X8_goOn (R15 : XS → Int → Int → Int → Int → XR) (s : XS) (a1 : Int) (a3 : Int) (v_7 : Int) (x5_11 : Int) : XR := g4b_X8_goOn R15 s ((s 0 83 4)) x5_11 a1 a3 v_7
noncomputable def L2_X8_goOn (n : Nat) : XS → Int → Int → Int → Int → XR := Nat.rec (motive := fun _ => XS → Int → Int → Int → Int → XR) (fun s _ _ _ _ => (s, 0)) (fun _ R15 => g3l_X8_goOn R15) n
noncomputable def g1c_X8_goOn (s : XS) (r_4 : Int) (a1 : Int) (a2 : Int) (a3 : Int) : XR := L2_X8_goOn (Int.toNat (121 - 0 + 1)) s a1 a3 ((Xior r_4 a2)) 0
noncomputable def f_X8_goOn (s : XS) (a1 : Int) (a2 : Int) (a3 : Int) : XR := g1c_X8_goOn ((f_X2_freeAt s a1).1) (((f_X2_freeAt s a1).2)) a1 a2 a3
set_option maxHeartbeats 4000000 in
set_option maxRecDepth 100000 in
theorem c_X8_goOn (l : Launch) (G : GG) (Z : RZ) (ad : Nat → Nat) (ws0 : va_W) (hT : Ty G SC ad ws0) (a1 : Int32) (a2 : Int32) (a3 : Int32) (l1 : 0 ≤ a1.toInt) (u1 : a1.toInt ≤ 239) (l3 : 0 ≤ a3.toInt) (u3 : a3.toInt ≤ 120) : Mq l yX8_goOn cX8_goOn 8 none 5 G Z [.ref (ad 83), .int a1, .int a2, .int a3] ws0 (PV G SC ad [4, 5, 18, 19, 20, 21, 22, 23] ws0 (fun u => (xso SC ad u = (f_X8_goOn (xso SC ad ws0) a1.toInt a2.toInt a3.toInt).1))) := by
  refine Mq.start (by decide) (Nat.le_of_ble_eq_true rfl) ?_
  intro p e s m below meth c A ls C0 hZ h hl
  have hl : lv_has ls 8 [(0, .ref (ad 83)), (1, .int a1), (2, .int a2), (3, .int a3)] := hl
  have h : Wt G SC ad A s s.heap [] ws0 := ⟨h, hT⟩
  obtain ⟨args, hargs⟩ : ∃ z, z = ([.ref (ad 83), .int a1, .int a2, .int a3] : List Value).toArray := ⟨_, rfl⟩
  rw [← hargs] at C0 ⊢
  have C0 : Cx p s m args meth c RX8 cX8_goOn 8 none := C0
  obtain ⟨Q, hQ⟩ : ∃ z, z = MQ below ((PV G SC ad [4, 5, 18, 19, 20, 21, 22, 23] ws0 (fun u => (xso SC ad u = (f_X8_goOn (xso SC ad ws0) a1.toInt a2.toInt a3.toInt).1))) A) args s 0 0 A := ⟨_, rfl⟩
  rw [← hQ]
  obtain ⟨FT, hFT⟩ : ∃ z, z = f_X8_goOn (xso SC ad ws0) a1.toInt a2.toInt a3.toInt := ⟨_, rfl⟩
  have HE : FT = f_X8_goOn (xso SC ad ws0) a1.toInt a2.toInt a3.toInt := hFT
  refine lv_aload_n C0.1 C0.2.1 dX8_goOn_0 rfl (lv_at hl 0 rfl) ?_
  refine tg_X8_forecast C0 h kSC_83 q_315 dX8_goOn_1 ?_
  refine lv_iload_n C0.1 C0.2.1 dX8_goOn_4 rfl (lv_at hl 1 rfl) ?_
  refine y_ci h (y_rV (As := [.int a1]) (rest := []) C0 hZ h (c_X2_freeAt l G Z ad _ h.2 a1 (o18_37 l1 u1) (o18_38 l1 u1)) k_X2_freeAt q_1095 q_1096 q_1094 kSC_79 rfl rfl rfl hl.1 rfl rfl (Nat.le_of_ble_eq_true rfl) dX8_goOn_5 ⟨Nat.le_of_ble_eq_true rfl, Nat.le_of_ble_eq_true rfl⟩ ⟨Nat.le_of_ble_eq_true rfl, Nat.le_of_ble_eq_true rfl⟩) (fun r_4 H locs ws_1 h u_2 p_3 => ?_)
  obtain ⟨e_5, e_6⟩ := p_3
  replace HE : FT = g1c_X8_goOn (xso SC ad ws_1) r_4.toInt a1.toInt a2.toInt a3.toInt := HE.trans (by rw [e_5, e_6]; rfl)
  refine lv_iload_n C0.1 C0.2.1 dX8_goOn_8 rfl (lv_at hl 2 rfl) ?_
  refine xr_ior C0 dX8_goOn_9 (fun v_7 e_8 => ?_)
  refine lv_istore (lv' := [(4, .int v_7), (0, .ref (ad 83)), (1, .int a1), (2, .int a2), (3, .int a3)]) C0.1 C0.2.1 dX8_goOn_10 hl (by decide) rfl (fun ls hl => ?_)
  refine y_c1 (n := 0) C0 (by decide) dX8_goOn_12 (fun v_9 e_10 => ?_)
  refine lv_istore (lv' := [(5, .int v_9), (4, .int v_7), (0, .ref (ad 83)), (1, .int a1), (2, .int a2), (3, .int a3)]) C0.1 C0.2.1 dX8_goOn_13 hl (by decide) rfl (fun ls hl => ?_)
  have lp_14 : ∀ (n_16 : Nat) (x5_11 : Int32) (H : Heap) (locs : List Loc) (ls : Array Slot) (ws_12 : va_W), 121 - x5_11.toInt < (n_16 : Int) → 0 ≤ x5_11.toInt → x5_11.toInt ≤ 121 → (FT = L2_X8_goOn n_16 (xso SC ad ws_12) a1.toInt a3.toInt v_7.toInt x5_11.toInt) → Wt G SC ad A s H locs ws_12 → Fr SC [4, 5, 18, 19, 20, 21, 23] ws_1 ws_12 → lv_has ls 8 [(5, .int x5_11), (4, .int v_7), (0, .ref (ad 83)), (1, .int a1), (2, .int a2), (3, .int a3)] → W p l e (rmd 5 0 0) s m args below meth c H locs 0 0 Q (F0 m 15 ls []) := by
    intro n_16
    induction n_16 with
    | zero => intro x5_11 H locs ls ws_12 hn_17 b_18 b_19 HE h hF_13 hl; exact ((o18_106 b_18 b_19 hn_17)).elim
    | succ n_16 ih_15 =>
      intro x5_11 H locs ls ws_12 hn_17 b_18 b_19 HE h hF_13 hl
      obtain ⟨R15, hR15⟩ : ∃ z, z = L2_X8_goOn n_16 := ⟨_, rfl⟩
      replace HE : FT = g3l_X8_goOn R15 (xso SC ad ws_12) a1.toInt a3.toInt v_7.toInt x5_11.toInt := HE.trans (by rw [hR15]; rfl)
      refine lv_iload C0.1 C0.2.1 dX8_goOn_15 (lv_at hl 0 rfl) ?_
      refine lv_aload_n C0.1 C0.2.1 dX8_goOn_17 rfl (lv_at hl 2 rfl) ?_
      refine tg_X8_top C0 h kSC_83 q_318 dX8_goOn_18 (fun v_20 e_21 e_22 e_23 => ?_)
      replace HE : FT = g4b_X8_goOn R15 (xso SC ad ws_12) v_20.toInt x5_11.toInt a1.toInt a3.toInt v_7.toInt := HE.trans (by rw [(xg0 e_21 : v_20.toInt = (xso SC ad ws_12) 0 83 4)]; rfl)
      refine y_icmp_gt (tgt := 109) C0 dX8_goOn_21 (by decide) (fun c_24 => ?_) (fun c_24 => ?_)
      · -- 21
        replace HE : FT = g5_X8_goOn (xso SC ad ws_12) a3.toInt := HE.trans (if_pos c_24)
        refine lv_aload_n C0.1 C0.2.1 dX8_goOn_109 rfl (lv_at hl 2 rfl) ?_
        refine lv_aload_n C0.1 C0.2.1 dX8_goOn_110 rfl (lv_at hl 2 rfl) ?_
        refine tg_X8_top C0 h kSC_83 q_318 dX8_goOn_111 (fun v_25 e_26 e_27 e_28 => ?_)
        have qh_29 : v_25.toInt = v_20.toInt := congrArg Int32.toInt (e_26.symm.trans (Eq.trans rfl e_21))
        refine y_c1 (n := 2) C0 (by decide) dX8_goOn_114 (fun v_30 e_31 => ?_)
        refine y_add C0 (o18_200 b_18 b_19 hn_17 e_22 e_23 c_24 e_27 e_28 qh_29 e_31 (le_min v_25) (le_max v_25) (le_min v_30) (le_max v_30) (le_min x5_11) (le_max x5_11) (le_min v_20) (le_max v_20)) (o18_201 b_18 b_19 hn_17 e_22 e_23 c_24 e_27 e_28 qh_29 e_31 (le_min v_25) (le_max v_25) (le_min v_30) (le_max v_30) (le_min x5_11) (le_max x5_11) (le_min v_20) (le_max v_20)) dX8_goOn_115 (fun v_32 e_33 => ?_)
        refine lv_iload_n C0.1 C0.2.1 dX8_goOn_116 rfl (lv_at hl 5 rfl) ?_
        refine y_min C0 hl.1 q_1134 q_663 q_141 q_664 (Nat.le_of_ble_eq_true rfl) (Nat.le_of_ble_eq_true rfl) (Nat.le_of_ble_eq_true rfl) (Nat.le_of_ble_eq_true rfl) dX8_goOn_117 (fun v_34 e_35 => ?_)
        refine y_cv h (y_rV (As := [.int v_34]) (rest := []) C0 hZ h (c_X8_change l G Z ad _ h.2 v_34 (o18_202 l3 u3 b_18 b_19 hn_17 e_22 e_23 c_24 e_27 e_28 qh_29 e_31 e_33 e_35) (o18_203 l3 u3 b_18 b_19 hn_17 e_22 e_23 c_24 e_27 e_28 qh_29 e_31 e_33 e_35)) k_X8_change q_1137 q_39 q_1135 kSC_83 rfl rfl rfl hl.1 rfl rfl (Nat.le_of_ble_eq_true rfl) dX8_goOn_120 ⟨Nat.le_of_ble_eq_true rfl, Nat.le_of_ble_eq_true rfl⟩ ⟨Nat.le_of_ble_eq_true rfl, Nat.le_of_ble_eq_true rfl⟩) (fun H locs ws_36 h u_37 p_38 => ?_)
        obtain ⟨e_39, e_40⟩ := p_38
        replace HE : FT = g7c_X8_goOn (xso SC ad ws_36) := HE.trans (by rw [e_39, (ix_min e_35), e_33, e_31, (xg0 e_26 : v_25.toInt = (xso SC ad ws_12) 0 83 4)]; rfl)
        refine lv_aload_n C0.1 C0.2.1 dX8_goOn_123 rfl (lv_at hl 2 rfl) ?_
        refine y_cv h (y_rV (As := []) (rest := []) C0 hZ h (c_X8_thin l G Z ad _ h.2) k_X8_thin q_1141 q_40 q_1139 kSC_83 rfl rfl rfl hl.1 rfl rfl (Nat.le_of_ble_eq_true rfl) dX8_goOn_124 ⟨Nat.le_of_ble_eq_true rfl, Nat.le_of_ble_eq_true rfl⟩ ⟨Nat.le_of_ble_eq_true rfl, Nat.le_of_ble_eq_true rfl⟩) (fun H locs ws_41 h u_42 p_43 => ?_)
        have e_44 := p_43
        replace HE : FT = g8c_X8_goOn (xso SC ad ws_41) := HE.trans (by rw [e_44]; rfl)
        replace HE : FT = ((xso SC ad ws_41), 0) := HE.trans rfl
        rw [hQ]
        exact y_vret C0 h (Fr.tr (Fr.tr (Fr.tr (Fr.mono u_2 (by decide)) (Fr.mono hF_13 (by decide))) (Fr.mono u_37 (by decide))) (Fr.mono u_42 (by decide))) (congrArg Prod.fst (HE.symm.trans hFT)) dX8_goOn_127
      · -- 21
        replace HE : FT = g6_X8_goOn R15 (xso SC ad ws_12) a1.toInt a3.toInt v_7.toInt x5_11.toInt := HE.trans (if_neg (Int.not_lt.mpr c_24))
        refine lv_iload C0.1 C0.2.1 dX8_goOn_24 (lv_at hl 0 rfl) ?_
        refine lv_iload_n C0.1 C0.2.1 dX8_goOn_26 rfl (lv_at hl 5 rfl) ?_
        replace HE : FT = g9b_X8_goOn R15 (xso SC ad ws_12) a3.toInt x5_11.toInt a1.toInt v_7.toInt := HE.trans rfl
        refine y_icmp_gt (tgt := 109) C0 dX8_goOn_27 (by decide) (fun c_45 => ?_) (fun c_45 => ?_)
        · -- 27
          replace HE : FT = g10_X8_goOn (xso SC ad ws_12) a3.toInt := HE.trans (if_pos c_45)
          refine lv_aload_n C0.1 C0.2.1 dX8_goOn_109 rfl (lv_at hl 2 rfl) ?_
          refine lv_aload_n C0.1 C0.2.1 dX8_goOn_110 rfl (lv_at hl 2 rfl) ?_
          refine tg_X8_top C0 h kSC_83 q_318 dX8_goOn_111 (fun v_46 e_47 e_48 e_49 => ?_)
          have qh_50 : v_46.toInt = v_20.toInt := congrArg Int32.toInt (e_47.symm.trans (Eq.trans rfl e_21))
          refine y_c1 (n := 2) C0 (by decide) dX8_goOn_114 (fun v_51 e_52 => ?_)
          refine y_add C0 (o18_204 l3 u3 b_18 b_19 hn_17 e_22 e_23 c_24 c_45 e_48 e_49 qh_50 e_52 (le_min v_46) (le_max v_46) (le_min v_51) (le_max v_51) (le_min a3) (le_max a3) (le_min x5_11) (le_max x5_11) (le_min v_20) (le_max v_20)) (o18_205 l3 u3 b_18 b_19 hn_17 e_22 e_23 c_24 c_45 e_48 e_49 qh_50 e_52 (le_min v_46) (le_max v_46) (le_min v_51) (le_max v_51) (le_min a3) (le_max a3) (le_min x5_11) (le_max x5_11) (le_min v_20) (le_max v_20)) dX8_goOn_115 (fun v_53 e_54 => ?_)
          refine lv_iload_n C0.1 C0.2.1 dX8_goOn_116 rfl (lv_at hl 5 rfl) ?_
          refine y_min C0 hl.1 q_1134 q_663 q_141 q_664 (Nat.le_of_ble_eq_true rfl) (Nat.le_of_ble_eq_true rfl) (Nat.le_of_ble_eq_true rfl) (Nat.le_of_ble_eq_true rfl) dX8_goOn_117 (fun v_55 e_56 => ?_)
          refine y_cv h (y_rV (As := [.int v_55]) (rest := []) C0 hZ h (c_X8_change l G Z ad _ h.2 v_55 (o18_206 l3 u3 b_18 b_19 hn_17 e_22 e_23 c_24 c_45 e_48 e_49 qh_50 e_52 e_54 e_56) (o18_207 l3 u3 b_18 b_19 hn_17 e_22 e_23 c_24 c_45 e_48 e_49 qh_50 e_52 e_54 e_56)) k_X8_change q_1137 q_39 q_1135 kSC_83 rfl rfl rfl hl.1 rfl rfl (Nat.le_of_ble_eq_true rfl) dX8_goOn_120 ⟨Nat.le_of_ble_eq_true rfl, Nat.le_of_ble_eq_true rfl⟩ ⟨Nat.le_of_ble_eq_true rfl, Nat.le_of_ble_eq_true rfl⟩) (fun H locs ws_57 h u_58 p_59 => ?_)
          obtain ⟨e_60, e_61⟩ := p_59
          replace HE : FT = g12c_X8_goOn (xso SC ad ws_57) := HE.trans (by rw [e_60, (ix_min e_56), e_54, e_52, (xg0 e_47 : v_46.toInt = (xso SC ad ws_12) 0 83 4)]; rfl)
          refine lv_aload_n C0.1 C0.2.1 dX8_goOn_123 rfl (lv_at hl 2 rfl) ?_
          refine y_cv h (y_rV (As := []) (rest := []) C0 hZ h (c_X8_thin l G Z ad _ h.2) k_X8_thin q_1141 q_40 q_1139 kSC_83 rfl rfl rfl hl.1 rfl rfl (Nat.le_of_ble_eq_true rfl) dX8_goOn_124 ⟨Nat.le_of_ble_eq_true rfl, Nat.le_of_ble_eq_true rfl⟩ ⟨Nat.le_of_ble_eq_true rfl, Nat.le_of_ble_eq_true rfl⟩) (fun H locs ws_62 h u_63 p_64 => ?_)
          have e_65 := p_64
          replace HE : FT = g13c_X8_goOn (xso SC ad ws_62) := HE.trans (by rw [e_65]; rfl)
          replace HE : FT = ((xso SC ad ws_62), 0) := HE.trans rfl
          rw [hQ]
          exact y_vret C0 h (Fr.tr (Fr.tr (Fr.tr (Fr.mono u_2 (by decide)) (Fr.mono hF_13 (by decide))) (Fr.mono u_58 (by decide))) (Fr.mono u_63 (by decide))) (congrArg Prod.fst (HE.symm.trans hFT)) dX8_goOn_127
        · -- 27
          replace HE : FT = g11_X8_goOn R15 (xso SC ad ws_12) a1.toInt a3.toInt v_7.toInt x5_11.toInt := HE.trans (if_neg (Int.not_lt.mpr c_45))
          refine y_c1 (n := 4) C0 (by decide) dX8_goOn_30 (fun v_66 e_67 => ?_)
          refine lv_iload C0.1 C0.2.1 dX8_goOn_31 (lv_at hl 0 rfl) ?_
          refine y_cmul (n := 4) C0 (o18_7 e_67) (o18_208 l3 u3 b_18 b_19 hn_17 e_22 e_23 c_24 c_45 (le_min x5_11) (le_max x5_11) (le_min a3) (le_max a3) (le_min v_20) (le_max v_20)) (o18_209 l3 u3 b_18 b_19 hn_17 e_22 e_23 c_24 c_45 (le_min x5_11) (le_max x5_11) (le_min a3) (le_max a3) (le_min v_20) (le_max v_20)) dX8_goOn_33 (fun v_68 e_69 => ?_)
          refine lv_istore (lv' := [(6, .int v_68), (5, .int x5_11), (4, .int v_7), (0, .ref (ad 83)), (1, .int a1), (2, .int a2), (3, .int a3)]) C0.1 C0.2.1 dX8_goOn_34 hl (by decide) rfl (fun ls hl => ?_)
          refine lv_aload_n C0.1 C0.2.1 dX8_goOn_36 rfl (lv_at hl 3 rfl) ?_
          refine lv_iload C0.1 C0.2.1 dX8_goOn_37 (lv_at hl 0 rfl) ?_
          refine y_cv h (y_rV (As := [.int v_68]) (rest := []) C0 hZ h (c_X8_goByRights l G Z ad _ h.2 v_68 (o18_210 l3 u3 b_18 b_19 hn_17 e_22 e_23 c_24 c_45 e_69) (o18_211 l3 u3 b_18 b_19 hn_17 e_22 e_23 c_24 c_45 e_69)) k_X8_goByRights q_1105 q_36 q_1103 kSC_83 rfl rfl rfl hl.1 rfl rfl (Nat.le_of_ble_eq_true rfl) dX8_goOn_39 ⟨Nat.le_of_ble_eq_true rfl, Nat.le_of_ble_eq_true rfl⟩ ⟨Nat.le_of_ble_eq_true rfl, Nat.le_of_ble_eq_true rfl⟩) (fun H locs ws_70 h u_71 p_72 => ?_)
          have e_73 := p_72
          replace HE : FT = g14c_X8_goOn R15 (xso SC ad ws_70) a1.toInt a3.toInt v_7.toInt x5_11.toInt v_68.toInt := HE.trans (by rw [e_73, e_69]; rfl)
          refine y_c1 (n := 2) C0 (by decide) dX8_goOn_42 (fun v_74 e_75 => ?_)
          refine lv_istore (lv' := [(7, .int v_74), (6, .int v_68), (5, .int x5_11), (4, .int v_7), (0, .ref (ad 83)), (1, .int a1), (2, .int a2), (3, .int a3)]) C0.1 C0.2.1 dX8_goOn_43 hl (by decide) rfl (fun ls hl => ?_)
          have lp_79 : ∀ (n_81 : Nat) (x7_76 : Int32) (H : Heap) (locs : List Loc) (ls : Array Slot) (ws_77 : va_W), 4 - x7_76.toInt < (n_81 : Int) → 2 ≤ x7_76.toInt → x7_76.toInt ≤ 4 → (FT = L15_X8_goOn R15 n_81 (xso SC ad ws_77) a1.toInt a3.toInt v_7.toInt x5_11.toInt v_68.toInt x7_76.toInt) → Wt G SC ad A s H locs ws_77 → Fr SC [4, 5, 18, 19, 20, 21, 23] ws_70 ws_77 → lv_has ls 8 [(7, .int x7_76), (6, .int v_68), (5, .int x5_11), (4, .int v_7), (0, .ref (ad 83)), (1, .int a1), (2, .int a2), (3, .int a3)] → W p l e (rmd 5 0 0) s m args below meth c H locs 0 0 Q (F0 m 45 ls []) := by
            intro n_81
            induction n_81 with
            | zero => intro x7_76 H locs ls ws_77 hn_82 b_83 b_84 HE h hF_78 hl; exact ((o18_212 b_83 b_84 hn_82)).elim
            | succ n_81 ih_80 =>
              intro x7_76 H locs ls ws_77 hn_82 b_83 b_84 HE h hF_78 hl
              obtain ⟨R45, hR45⟩ : ∃ z, z = L15_X8_goOn R15 n_81 := ⟨_, rfl⟩
              replace HE : FT = g16l_X8_goOn R15 R45 (xso SC ad ws_77) a1.toInt a3.toInt v_7.toInt x5_11.toInt v_68.toInt x7_76.toInt := HE.trans (by rw [hR45]; rfl)
              refine lv_iload C0.1 C0.2.1 dX8_goOn_45 (lv_at hl 0 rfl) ?_
              refine y_c1 (n := 4) C0 (by decide) dX8_goOn_47 (fun v_85 e_86 => ?_)
              replace HE : FT = g17b_X8_goOn R15 R45 (xso SC ad ws_77) x7_76.toInt a1.toInt a3.toInt v_7.toInt x5_11.toInt v_68.toInt := HE.trans rfl
              refine y_icmp_ge (tgt := 103) C0 dX8_goOn_48 (by decide) (fun c_87 => ?_) (fun c_87 => ?_)
              · -- 48
                replace HE : FT = g18_X8_goOn R15 (xso SC ad ws_77) a1.toInt a3.toInt v_7.toInt x5_11.toInt := HE.trans (if_neg (o18_213 b_83 b_84 hn_82 e_86 c_87))
                refine y_inc (kp := 2) (n := 1) (fun v_88 => [(5, .int v_88), (7, .int x7_76), (6, .int v_68), (4, .int v_7), (0, .ref (ad 83)), (1, .int a1), (2, .int a2), (3, .int a3)]) C0 hl rfl (by decide) (by decide) (fun _ => rfl) (o18_215 l3 u3 b_18 b_19 hn_17 e_22 e_23 c_24 c_45 e_69 (le_min x5_11) (le_max x5_11) (le_min a3) (le_max a3) (le_min v_20) (le_max v_20) (le_min v_68) (le_max v_68)) (o18_216 l3 u3 b_18 b_19 hn_17 e_22 e_23 c_24 c_45 e_69 (le_min x5_11) (le_max x5_11) (le_min a3) (le_max a3) (le_min v_20) (le_max v_20) (le_min v_68) (le_max v_68)) dX8_goOn_103 (fun v_88 ls e_89 hl => ?_)
                refine lv_goto (tgt := 15) C0.1 C0.2.1 dX8_goOn_106 (by decide) ?_
                exact ih_15 v_88 _ _ _ _ (o18_217 l3 u3 b_18 b_19 hn_17 e_22 e_23 c_24 c_45 e_69 e_89) (o18_218 l3 u3 b_18 b_19 hn_17 e_22 e_23 c_24 c_45 e_69 e_89) (o18_219 l3 u3 b_18 b_19 hn_17 e_22 e_23 c_24 c_45 e_69 e_89) (((show FT = R15 (xso SC ad ws_77) a1.toInt a3.toInt v_7.toInt v_88.toInt from HE.trans (by rw [e_89]; rfl)).trans (by rw [hR15]))) h (Fr.tr (Fr.tr hF_13 (Fr.mono u_71 (by decide))) hF_78) (lv_sub hl [0, 3, 4, 5, 6, 7] rfl)
              · -- 48
                replace HE : FT = g19_X8_goOn R15 R45 (xso SC ad ws_77) a1.toInt a3.toInt v_7.toInt x5_11.toInt v_68.toInt x7_76.toInt := HE.trans (if_pos (o18_214 b_83 b_84 hn_82 e_86 c_87))
                refine lv_aload_n C0.1 C0.2.1 dX8_goOn_51 rfl (lv_at hl 4 rfl) ?_
                refine lv_iload_n C0.1 C0.2.1 dX8_goOn_52 rfl (lv_at hl 5 rfl) ?_
                refine lv_iload C0.1 C0.2.1 dX8_goOn_53 (lv_at hl 0 rfl) ?_
                refine lv_iload C0.1 C0.2.1 dX8_goOn_55 (lv_at hl 1 rfl) ?_
                refine lv_iload C0.1 C0.2.1 dX8_goOn_57 (lv_at hl 3 rfl) ?_
                refine lv_iload C0.1 C0.2.1 dX8_goOn_59 (lv_at hl 1 rfl) ?_
                refine y_cv h (y_rV (As := [.int a1, .int x7_76, .int v_68, .int v_7, .int v_68]) (rest := []) C0 hZ h (c_X8_goByLeft l G Z ad _ h.2 a1 x7_76 v_68 v_7 v_68 (o18_37 l1 u1) (o18_38 l1 u1) (o18_220 b_83 b_84 hn_82 e_86 c_87) (o18_221 b_83 b_84 hn_82 e_86 c_87) (o18_210 l3 u3 b_18 b_19 hn_17 e_22 e_23 c_24 c_45 e_69) (o18_211 l3 u3 b_18 b_19 hn_17 e_22 e_23 c_24 c_45 e_69) (o18_210 l3 u3 b_18 b_19 hn_17 e_22 e_23 c_24 c_45 e_69) (o18_211 l3 u3 b_18 b_19 hn_17 e_22 e_23 c_24 c_45 e_69)) k_X8_goByLeft q_1113 q_37 q_1111 kSC_83 rfl rfl rfl hl.1 rfl rfl (Nat.le_of_ble_eq_true rfl) dX8_goOn_61 ⟨Nat.le_of_ble_eq_true rfl, Nat.le_of_ble_eq_true rfl⟩ ⟨Nat.le_of_ble_eq_true rfl, Nat.le_of_ble_eq_true rfl⟩) (fun H locs ws_90 h u_91 p_92 => ?_)
                have e_93 := p_92
                replace HE : FT = g20c_X8_goOn R15 R45 (xso SC ad ws_90) a1.toInt a3.toInt v_7.toInt x5_11.toInt v_68.toInt x7_76.toInt := HE.trans (by rw [e_93]; rfl)
                refine lv_iload C0.1 C0.2.1 dX8_goOn_64 (lv_at hl 2 rfl) ?_
                refine lv_iload C0.1 C0.2.1 dX8_goOn_66 (lv_at hl 0 rfl) ?_
                refine y_add C0 (o18_222 l3 u3 b_18 b_19 hn_17 e_22 e_23 c_24 c_45 e_69 b_83 b_84 hn_82 e_86 c_87 (le_min x5_11) (le_max x5_11) (le_min x7_76) (le_max x7_76) (le_min a3) (le_max a3) (le_min v_20) (le_max v_20) (le_min v_68) (le_max v_68) (le_min v_85) (le_max v_85)) (o18_223 l3 u3 b_18 b_19 hn_17 e_22 e_23 c_24 c_45 e_69 b_83 b_84 hn_82 e_86 c_87 (le_min x5_11) (le_max x5_11) (le_min x7_76) (le_max x7_76) (le_min a3) (le_max a3) (le_min v_20) (le_max v_20) (le_min v_68) (le_max v_68) (le_min v_85) (le_max v_85)) dX8_goOn_68 (fun v_94 e_95 => ?_)
                refine y_c1 (n := 1) C0 (by decide) dX8_goOn_69 (fun v_96 e_97 => ?_)
                refine y_sub C0 (o18_224 l3 u3 b_18 b_19 hn_17 e_22 e_23 c_24 c_45 e_69 b_83 b_84 hn_82 e_86 c_87 e_95 e_97 (le_min v_94) (le_max v_94) (le_min v_96) (le_max v_96) (le_min a3) (le_max a3) (le_min x5_11) (le_max x5_11) (le_min v_20) (le_max v_20) (le_min v_68) (le_max v_68) (le_min x7_76) (le_max x7_76) (le_min v_85) (le_max v_85)) (o18_225 l3 u3 b_18 b_19 hn_17 e_22 e_23 c_24 c_45 e_69 b_83 b_84 hn_82 e_86 c_87 e_95 e_97 (le_min v_94) (le_max v_94) (le_min v_96) (le_max v_96) (le_min a3) (le_max a3) (le_min x5_11) (le_max x5_11) (le_min v_20) (le_max v_20) (le_min v_68) (le_max v_68) (le_min x7_76) (le_max x7_76) (le_min v_85) (le_max v_85)) dX8_goOn_70 (fun v_98 e_99 => ?_)
                refine lv_iload_n C0.1 C0.2.1 dX8_goOn_71 rfl (lv_at hl 7 rfl) ?_
                replace HE : FT = g21b_X8_goOn R15 R45 (xso SC ad ws_90) a3.toInt v_98.toInt a1.toInt v_7.toInt x5_11.toInt v_68.toInt x7_76.toInt := HE.trans (by rw [e_99, e_97, e_95]; rfl)
                refine y_icmp_gt (tgt := 97) C0 dX8_goOn_72 (by decide) (fun c_100 => ?_) (fun c_100 => ?_)
                · -- 72
                  replace HE : FT = g22_X8_goOn R15 R45 (xso SC ad ws_90) a1.toInt a3.toInt v_7.toInt x5_11.toInt v_68.toInt x7_76.toInt := HE.trans (if_pos c_100)
                  refine y_inc (kp := 0) (n := 1) (fun v_101 => [(7, .int v_101), (6, .int v_68), (5, .int x5_11), (4, .int v_7), (0, .ref (ad 83)), (1, .int a1), (2, .int a2), (3, .int a3)]) C0 hl rfl (by decide) (by decide) (fun _ => rfl) (o18_226 l3 u3 b_18 b_19 hn_17 e_22 e_23 c_24 c_45 e_69 b_83 b_84 hn_82 e_86 c_87 e_95 e_97 e_99 c_100 (le_min x7_76) (le_max x7_76) (le_min a3) (le_max a3) (le_min x5_11) (le_max x5_11) (le_min v_20) (le_max v_20) (le_min v_68) (le_max v_68) (le_min v_85) (le_max v_85) (le_min v_94) (le_max v_94) (le_min v_96) (le_max v_96) (le_min v_98) (le_max v_98)) (o18_227 l3 u3 b_18 b_19 hn_17 e_22 e_23 c_24 c_45 e_69 b_83 b_84 hn_82 e_86 c_87 e_95 e_97 e_99 c_100 (le_min x7_76) (le_max x7_76) (le_min a3) (le_max a3) (le_min x5_11) (le_max x5_11) (le_min v_20) (le_max v_20) (le_min v_68) (le_max v_68) (le_min v_85) (le_max v_85) (le_min v_94) (le_max v_94) (le_min v_96) (le_max v_96) (le_min v_98) (le_max v_98)) dX8_goOn_97 (fun v_101 ls e_102 hl => ?_)
                  refine lv_goto (tgt := 45) C0.1 C0.2.1 dX8_goOn_100 (by decide) ?_
                  exact ih_80 v_101 _ _ _ _ (o18_228 l3 u3 b_18 b_19 hn_17 e_22 e_23 c_24 c_45 e_69 b_83 b_84 hn_82 e_86 c_87 e_95 e_97 e_99 c_100 e_102) (o18_229 l3 u3 b_18 b_19 hn_17 e_22 e_23 c_24 c_45 e_69 b_83 b_84 hn_82 e_86 c_87 e_95 e_97 e_99 c_100 e_102) (o18_230 l3 u3 b_18 b_19 hn_17 e_22 e_23 c_24 c_45 e_69 b_83 b_84 hn_82 e_86 c_87 e_95 e_97 e_99 c_100 e_102) (((show FT = R45 (xso SC ad ws_90) a1.toInt a3.toInt v_7.toInt x5_11.toInt v_68.toInt v_101.toInt from HE.trans (by rw [e_102]; rfl)).trans (by rw [hR45]))) h (Fr.tr hF_78 u_91) (lv_sub hl [0, 1, 2, 3, 4, 5, 6, 7] rfl)
                · -- 72
                  replace HE : FT = g23_X8_goOn R15 R45 (xso SC ad ws_90) a1.toInt a3.toInt v_7.toInt x5_11.toInt v_68.toInt x7_76.toInt := HE.trans (if_neg (Int.not_lt.mpr c_100))
                  refine lv_aload_n C0.1 C0.2.1 dX8_goOn_75 rfl (lv_at hl 4 rfl) ?_
                  refine lv_iload_n C0.1 C0.2.1 dX8_goOn_76 rfl (lv_at hl 5 rfl) ?_
                  refine lv_iload C0.1 C0.2.1 dX8_goOn_77 (lv_at hl 0 rfl) ?_
                  refine lv_iload C0.1 C0.2.1 dX8_goOn_79 (lv_at hl 1 rfl) ?_
                  refine lv_iload C0.1 C0.2.1 dX8_goOn_81 (lv_at hl 3 rfl) ?_
                  refine y_c1 (n := (-1)) C0 (by decide) dX8_goOn_83 (fun v_103 e_104 => ?_)
                  refine xr_ixor C0 dX8_goOn_84 (fun v_105 e_106 => ?_)
                  refine lv_iload C0.1 C0.2.1 dX8_goOn_85 (lv_at hl 1 rfl) ?_
                  refine y_c1 (n := 4) C0 (by decide) dX8_goOn_87 (fun v_107 e_108 => ?_)
                  refine lv_iload C0.1 C0.2.1 dX8_goOn_88 (lv_at hl 0 rfl) ?_
                  refine y_c1 (n := 1) C0 (by decide) dX8_goOn_90 (fun v_109 e_110 => ?_)
                  refine y_sub C0 (o18_231 l3 u3 b_18 b_19 hn_17 e_22 e_23 c_24 c_45 e_69 b_83 b_84 hn_82 e_86 c_87 e_95 e_97 e_99 c_100 e_110 (le_min x7_76) (le_max x7_76) (le_min v_109) (le_max v_109) (le_min a3) (le_max a3) (le_min x5_11) (le_max x5_11) (le_min v_20) (le_max v_20) (le_min v_68) (le_max v_68) (le_min v_85) (le_max v_85) (le_min v_94) (le_max v_94) (le_min v_96) (le_max v_96) (le_min v_98) (le_max v_98)) (o18_232 l3 u3 b_18 b_19 hn_17 e_22 e_23 c_24 c_45 e_69 b_83 b_84 hn_82 e_86 c_87 e_95 e_97 e_99 c_100 e_110 (le_min x7_76) (le_max x7_76) (le_min v_109) (le_max v_109) (le_min a3) (le_max a3) (le_min x5_11) (le_max x5_11) (le_min v_20) (le_max v_20) (le_min v_68) (le_max v_68) (le_min v_85) (le_max v_85) (le_min v_94) (le_max v_94) (le_min v_96) (le_max v_96) (le_min v_98) (le_max v_98)) dX8_goOn_91 (fun v_111 e_112 => ?_)
                  refine y_cmul (n := 4) C0 (o18_7 e_108) (o18_233 l3 u3 b_18 b_19 hn_17 e_22 e_23 c_24 c_45 e_69 b_83 b_84 hn_82 e_86 c_87 e_95 e_97 e_99 c_100 e_110 e_112 (le_min v_111) (le_max v_111) (le_min a3) (le_max a3) (le_min x5_11) (le_max x5_11) (le_min v_20) (le_max v_20) (le_min v_68) (le_max v_68) (le_min x7_76) (le_max x7_76) (le_min v_85) (le_max v_85) (le_min v_94) (le_max v_94) (le_min v_96) (le_max v_96) (le_min v_98) (le_max v_98) (le_min v_109) (le_max v_109)) (o18_234 l3 u3 b_18 b_19 hn_17 e_22 e_23 c_24 c_45 e_69 b_83 b_84 hn_82 e_86 c_87 e_95 e_97 e_99 c_100 e_110 e_112 (le_min v_111) (le_max v_111) (le_min a3) (le_max a3) (le_min x5_11) (le_max x5_11) (le_min v_20) (le_max v_20) (le_min v_68) (le_max v_68) (le_min x7_76) (le_max x7_76) (le_min v_85) (le_max v_85) (le_min v_94) (le_max v_94) (le_min v_96) (le_max v_96) (le_min v_98) (le_max v_98) (le_min v_109) (le_max v_109)) dX8_goOn_92 (fun v_113 e_114 => ?_)
                  refine y_add C0 (o18_235 l3 u3 b_18 b_19 hn_17 e_22 e_23 c_24 c_45 e_69 b_83 b_84 hn_82 e_86 c_87 e_95 e_97 e_99 c_100 e_110 e_112 e_114 (le_min v_68) (le_max v_68) (le_min v_113) (le_max v_113) (le_min a3) (le_max a3) (le_min x5_11) (le_max x5_11) (le_min v_20) (le_max v_20) (le_min x7_76) (le_max x7_76) (le_min v_85) (le_max v_85) (le_min v_94) (le_max v_94) (le_min v_96) (le_max v_96) (le_min v_98) (le_max v_98) (le_min v_109) (le_max v_109) (le_min v_111) (le_max v_111)) (o18_236 l3 u3 b_18 b_19 hn_17 e_22 e_23 c_24 c_45 e_69 b_83 b_84 hn_82 e_86 c_87 e_95 e_97 e_99 c_100 e_110 e_112 e_114 (le_min v_68) (le_max v_68) (le_min v_113) (le_max v_113) (le_min a3) (le_max a3) (le_min x5_11) (le_max x5_11) (le_min v_20) (le_max v_20) (le_min x7_76) (le_max x7_76) (le_min v_85) (le_max v_85) (le_min v_94) (le_max v_94) (le_min v_96) (le_max v_96) (le_min v_98) (le_max v_98) (le_min v_109) (le_max v_109) (le_min v_111) (le_max v_111)) dX8_goOn_93 (fun v_115 e_116 => ?_)
                  refine y_cv h (y_rV (As := [.int a1, .int x7_76, .int v_68, .int v_105, .int v_115]) (rest := []) C0 hZ h (c_X8_goByLeft l G Z ad _ h.2 a1 x7_76 v_68 v_105 v_115 (o18_37 l1 u1) (o18_38 l1 u1) (o18_237 l3 u3 b_18 b_19 hn_17 e_22 e_23 c_24 c_45 e_69 b_83 b_84 hn_82 e_86 c_87 e_95 e_97 e_99 c_100 e_110 e_112 e_114 e_116) (o18_238 l3 u3 b_18 b_19 hn_17 e_22 e_23 c_24 c_45 e_69 b_83 b_84 hn_82 e_86 c_87 e_95 e_97 e_99 c_100 e_110 e_112 e_114 e_116) (o18_239 l3 u3 b_18 b_19 hn_17 e_22 e_23 c_24 c_45 e_69 b_83 b_84 hn_82 e_86 c_87 e_95 e_97 e_99 c_100 e_110 e_112 e_114 e_116) (o18_240 l3 u3 b_18 b_19 hn_17 e_22 e_23 c_24 c_45 e_69 b_83 b_84 hn_82 e_86 c_87 e_95 e_97 e_99 c_100 e_110 e_112 e_114 e_116) (o18_241 l3 u3 b_18 b_19 hn_17 e_22 e_23 c_24 c_45 e_69 b_83 b_84 hn_82 e_86 c_87 e_95 e_97 e_99 c_100 e_110 e_112 e_114 e_116) (o18_242 l3 u3 b_18 b_19 hn_17 e_22 e_23 c_24 c_45 e_69 b_83 b_84 hn_82 e_86 c_87 e_95 e_97 e_99 c_100 e_110 e_112 e_114 e_116)) k_X8_goByLeft q_1113 q_37 q_1111 kSC_83 rfl rfl rfl hl.1 rfl rfl (Nat.le_of_ble_eq_true rfl) dX8_goOn_94 ⟨Nat.le_of_ble_eq_true rfl, Nat.le_of_ble_eq_true rfl⟩ ⟨Nat.le_of_ble_eq_true rfl, Nat.le_of_ble_eq_true rfl⟩) (fun H locs ws_117 h u_118 p_119 => ?_)
                  have e_120 := p_119
                  replace HE : FT = g24c_X8_goOn R15 R45 (xso SC ad ws_117) a1.toInt a3.toInt v_7.toInt x5_11.toInt v_68.toInt x7_76.toInt := HE.trans (by rw [e_120, e_116, e_114, e_112, e_110, e_106, e_104]; rfl)
                  refine y_inc (kp := 0) (n := 1) (fun v_121 => [(7, .int v_121), (6, .int v_68), (5, .int x5_11), (4, .int v_7), (0, .ref (ad 83)), (1, .int a1), (2, .int a2), (3, .int a3)]) C0 hl rfl (by decide) (by decide) (fun _ => rfl) (o18_243 l3 u3 b_18 b_19 hn_17 e_22 e_23 c_24 c_45 e_69 b_83 b_84 hn_82 e_86 c_87 e_95 e_97 e_99 c_100 e_110 e_112 e_114 e_116 (le_min x7_76) (le_max x7_76) (le_min a3) (le_max a3) (le_min x5_11) (le_max x5_11) (le_min v_20) (le_max v_20) (le_min v_68) (le_max v_68) (le_min v_85) (le_max v_85) (le_min v_94) (le_max v_94) (le_min v_96) (le_max v_96) (le_min v_98) (le_max v_98) (le_min v_109) (le_max v_109) (le_min v_111) (le_max v_111) (le_min v_113) (le_max v_113) (le_min v_115) (le_max v_115)) (o18_244 l3 u3 b_18 b_19 hn_17 e_22 e_23 c_24 c_45 e_69 b_83 b_84 hn_82 e_86 c_87 e_95 e_97 e_99 c_100 e_110 e_112 e_114 e_116 (le_min x7_76) (le_max x7_76) (le_min a3) (le_max a3) (le_min x5_11) (le_max x5_11) (le_min v_20) (le_max v_20) (le_min v_68) (le_max v_68) (le_min v_85) (le_max v_85) (le_min v_94) (le_max v_94) (le_min v_96) (le_max v_96) (le_min v_98) (le_max v_98) (le_min v_109) (le_max v_109) (le_min v_111) (le_max v_111) (le_min v_113) (le_max v_113) (le_min v_115) (le_max v_115)) dX8_goOn_97 (fun v_121 ls e_122 hl => ?_)
                  refine lv_goto (tgt := 45) C0.1 C0.2.1 dX8_goOn_100 (by decide) ?_
                  exact ih_80 v_121 _ _ _ _ (o18_245 l3 u3 b_18 b_19 hn_17 e_22 e_23 c_24 c_45 e_69 b_83 b_84 hn_82 e_86 c_87 e_95 e_97 e_99 c_100 e_110 e_112 e_114 e_116 e_122) (o18_246 l3 u3 b_18 b_19 hn_17 e_22 e_23 c_24 c_45 e_69 b_83 b_84 hn_82 e_86 c_87 e_95 e_97 e_99 c_100 e_110 e_112 e_114 e_116 e_122) (o18_247 l3 u3 b_18 b_19 hn_17 e_22 e_23 c_24 c_45 e_69 b_83 b_84 hn_82 e_86 c_87 e_95 e_97 e_99 c_100 e_110 e_112 e_114 e_116 e_122) (((show FT = R45 (xso SC ad ws_117) a1.toInt a3.toInt v_7.toInt x5_11.toInt v_68.toInt v_121.toInt from HE.trans (by rw [e_122]; rfl)).trans (by rw [hR45]))) h (Fr.tr (Fr.tr hF_78 u_91) u_118) (lv_sub hl [0, 1, 2, 3, 4, 5, 6, 7] rfl)
          exact lp_79 ((4 - v_74.toInt + 1).toNat) v_74 _ _ _ _ (o18_248 e_75) (o18_249 e_75) (o18_250 e_75) ((show FT = L15_X8_goOn R15 (Int.toNat (4 - v_74.toInt + 1)) (xso SC ad ws_70) a1.toInt a3.toInt v_7.toInt x5_11.toInt v_68.toInt v_74.toInt from HE.trans (by rw [e_75]; rfl))) h Fr.rf (lv_sub hl [0, 1, 2, 3, 4, 5, 6, 7] rfl)
  exact lp_14 ((121 - v_9.toInt + 1).toNat) v_9 _ _ _ _ (o18_136 e_10) (o18_1 e_10) (o18_137 e_10) ((show FT = L2_X8_goOn (Int.toNat (121 - v_9.toInt + 1)) (xso SC ad ws_1) a1.toInt a3.toInt v_7.toInt v_9.toInt from HE.trans (by rw [e_10, e_8]; rfl))) h Fr.rf (lv_sub hl [0, 1, 2, 3, 4, 5] rfl)
noncomputable def g4_X8_lowest (s : XS) : XR := (s, ((-1)))
noncomputable def g7_X8_lowest (s : XS) : XR := (s, ((-1)))
noncomputable def g11_X8_lowest (R2 : XS → Int → Int → Int → XR) (s : XS) (a1 : Int) (a2 : Int) (x3_3 : Int) : XR := R2 s a1 a2 ((x3_3 + 1))
noncomputable def g12_X8_lowest (s : XS) (x3_3 : Int) : XR := (s, x3_3)
noncomputable def g10b_X8_lowest (R2 : XS → Int → Int → Int → XR) (s : XS) (v_32 : Int) (a1 : Int) (a2 : Int) (x3_3 : Int) : XR := if v_32 = 0 then g11_X8_lowest R2 s a1 a2 x3_3 else g12_X8_lowest s x3_3
noncomputable def g9c_X8_lowest (R2 : XS → Int → Int → Int → XR) (s : XS) (r_25 : Int) (a1 : Int) (a2 : Int) (x3_3 : Int) : XR := g10b_X8_lowest R2 s ((Xiand (Xishr r_25 a1) 1)) a1 a2 x3_3
noncomputable def g8_X8_lowest (R2 : XS → Int → Int → Int → XR) (s : XS) (a1 : Int) (a2 : Int) (x3_3 : Int) : XR := g9c_X8_lowest R2 ((f_X8_anyHeading s x3_3).1) (((f_X8_anyHeading s x3_3).2)) a1 a2 x3_3
noncomputable def g6b_X8_lowest (R2 : XS → Int → Int → Int → XR) (s : XS) (a2 : Int) (x3_3 : Int) (a1 : Int) : XR := if a2 < x3_3 then g7_X8_lowest s else g8_X8_lowest R2 s a1 a2 x3_3
noncomputable def g5_X8_lowest (R2 : XS → Int → Int → Int → XR) (s : XS) (a1 : Int) (a2 : Int) (x3_3 : Int) : XR := g6b_X8_lowest R2 s a2 x3_3 a1
noncomputable def g3b_X8_lowest (R2 : XS → Int → Int → Int → XR) (s : XS) (v_12 : Int) (x3_3 : Int) (a1 : Int) (a2 : Int) : XR := if v_12 < x3_3 then g4_X8_lowest s else g5_X8_lowest R2 s a1 a2 x3_3
noncomputable def g2l_X8_lowest (R2 : XS → Int → Int → Int → XR) (s : XS) (a1 : Int) (a2 : Int) (x3_3 : Int) : XR := g3b_X8_lowest R2 s ((s 0 83 4)) x3_3 a1 a2
noncomputable def L1_X8_lowest (n : Nat) : XS → Int → Int → Int → XR := Nat.rec (motive := fun _ => XS → Int → Int → Int → XR) (fun s _ _ _ => (s, 0)) (fun _ R2 => g2l_X8_lowest R2) n
noncomputable def f_X8_lowest (s : XS) (a1 : Int) (a2 : Int) : XR := L1_X8_lowest (Int.toNat (121 - 0 + 1)) s a1 a2 0
set_option maxHeartbeats 4000000 in
set_option maxRecDepth 100000 in
theorem c_X8_lowest (l : Launch) (G : GG) (Z : RZ) (ad : Nat → Nat) (ws0 : va_W) (hT : Ty G SC ad ws0) (a1 : Int32) (a2 : Int32) (l2 : 0 ≤ a2.toInt) (u2 : a2.toInt ≤ 120) : Mq l yX8_lowest cX8_lowest 4 (some .int) 2 G Z [.ref (ad 83), .int a1, .int a2] ws0 (PI G SC ad [] ws0 (fun r u => (xso SC ad u = (f_X8_lowest (xso SC ad ws0) a1.toInt a2.toInt).1) ∧ (r.toInt = (f_X8_lowest (xso SC ad ws0) a1.toInt a2.toInt).2) ∧ ((-1) ≤ r.toInt) ∧ (r.toInt ≤ 120))) := by
  refine Mq.start (by decide) (Nat.le_of_ble_eq_true rfl) ?_
  intro p e s m below meth c A ls C0 hZ h hl
  have hl : lv_has ls 4 [(0, .ref (ad 83)), (1, .int a1), (2, .int a2)] := hl
  have h : Wt G SC ad A s s.heap [] ws0 := ⟨h, hT⟩
  obtain ⟨args, hargs⟩ : ∃ z, z = ([.ref (ad 83), .int a1, .int a2] : List Value).toArray := ⟨_, rfl⟩
  rw [← hargs] at C0 ⊢
  have C0 : Cx p s m args meth c RX8 cX8_lowest 4 (some .int) := C0
  obtain ⟨Q, hQ⟩ : ∃ z, z = MQ below ((PI G SC ad [] ws0 (fun r u => (xso SC ad u = (f_X8_lowest (xso SC ad ws0) a1.toInt a2.toInt).1) ∧ (r.toInt = (f_X8_lowest (xso SC ad ws0) a1.toInt a2.toInt).2) ∧ ((-1) ≤ r.toInt) ∧ (r.toInt ≤ 120))) A) args s 0 0 A := ⟨_, rfl⟩
  rw [← hQ]
  obtain ⟨FT, hFT⟩ : ∃ z, z = f_X8_lowest (xso SC ad ws0) a1.toInt a2.toInt := ⟨_, rfl⟩
  have HE : FT = f_X8_lowest (xso SC ad ws0) a1.toInt a2.toInt := hFT
  refine y_c1 (n := 0) C0 (by decide) dX8_lowest_0 (fun v_1 e_2 => ?_)
  refine lv_istore_n (lv' := [(3, .int v_1), (0, .ref (ad 83)), (1, .int a1), (2, .int a2)]) C0.1 C0.2.1 dX8_lowest_1 rfl hl (by decide) rfl (fun ls hl => ?_)
  have lp_6 : ∀ (n_8 : Nat) (x3_3 : Int32) (H : Heap) (locs : List Loc) (ls : Array Slot) (ws_4 : va_W), 121 - x3_3.toInt < (n_8 : Int) → 0 ≤ x3_3.toInt → x3_3.toInt ≤ 121 → (FT = L1_X8_lowest n_8 (xso SC ad ws_4) a1.toInt a2.toInt x3_3.toInt) → Wt G SC ad A s H locs ws_4 → Fr SC [] ws0 ws_4 → lv_has ls 4 [(3, .int x3_3), (0, .ref (ad 83)), (1, .int a1), (2, .int a2)] → W p l e (rmd 2 0 0) s m args below meth c H locs 0 0 Q (F0 m 2 ls []) := by
    intro n_8
    induction n_8 with
    | zero => intro x3_3 H locs ls ws_4 hn_9 b_10 b_11 HE h hF_5 hl; exact ((o18_106 b_10 b_11 hn_9)).elim
    | succ n_8 ih_7 =>
      intro x3_3 H locs ls ws_4 hn_9 b_10 b_11 HE h hF_5 hl
      obtain ⟨R2, hR2⟩ : ∃ z, z = L1_X8_lowest n_8 := ⟨_, rfl⟩
      replace HE : FT = g2l_X8_lowest R2 (xso SC ad ws_4) a1.toInt a2.toInt x3_3.toInt := HE.trans (by rw [hR2]; rfl)
      refine lv_iload_n C0.1 C0.2.1 dX8_lowest_2 rfl (lv_at hl 0 rfl) ?_
      refine lv_aload_n C0.1 C0.2.1 dX8_lowest_3 rfl (lv_at hl 1 rfl) ?_
      refine tg_X8_top C0 h kSC_83 q_318 dX8_lowest_4 (fun v_12 e_13 e_14 e_15 => ?_)
      replace HE : FT = g3b_X8_lowest R2 (xso SC ad ws_4) v_12.toInt x3_3.toInt a1.toInt a2.toInt := HE.trans (by rw [(xg0 e_13 : v_12.toInt = (xso SC ad ws_4) 0 83 4)]; rfl)
      refine y_icmp_gt (tgt := 35) C0 dX8_lowest_7 (by decide) (fun c_16 => ?_) (fun c_16 => ?_)
      · -- 7
        replace HE : FT = g4_X8_lowest (xso SC ad ws_4) := HE.trans (if_pos c_16)
        refine y_c1 (n := (-1)) C0 (by decide) dX8_lowest_35 (fun v_17 e_18 => ?_)
        replace HE : FT = ((xso SC ad ws_4), v_17.toInt) := HE.trans (by rw [e_18]; rfl)
        rw [hQ]
        exact y_iret C0 h hF_5 ⟨(congrArg Prod.fst (HE.symm.trans hFT)), (congrArg Prod.snd (HE.symm.trans hFT)), (o18_85 e_18), (o18_251 e_18)⟩ dX8_lowest_36
      · -- 7
        replace HE : FT = g5_X8_lowest R2 (xso SC ad ws_4) a1.toInt a2.toInt x3_3.toInt := HE.trans (if_neg (Int.not_lt.mpr c_16))
        refine lv_iload_n C0.1 C0.2.1 dX8_lowest_10 rfl (lv_at hl 0 rfl) ?_
        refine lv_iload_n C0.1 C0.2.1 dX8_lowest_11 rfl (lv_at hl 3 rfl) ?_
        replace HE : FT = g6b_X8_lowest R2 (xso SC ad ws_4) a2.toInt x3_3.toInt a1.toInt := HE.trans rfl
        refine y_icmp_gt (tgt := 35) C0 dX8_lowest_12 (by decide) (fun c_19 => ?_) (fun c_19 => ?_)
        · -- 12
          replace HE : FT = g7_X8_lowest (xso SC ad ws_4) := HE.trans (if_pos c_19)
          refine y_c1 (n := (-1)) C0 (by decide) dX8_lowest_35 (fun v_20 e_21 => ?_)
          replace HE : FT = ((xso SC ad ws_4), v_20.toInt) := HE.trans (by rw [e_21]; rfl)
          rw [hQ]
          exact y_iret C0 h hF_5 ⟨(congrArg Prod.fst (HE.symm.trans hFT)), (congrArg Prod.snd (HE.symm.trans hFT)), (o18_85 e_21), (o18_251 e_21)⟩ dX8_lowest_36
        · -- 12
          replace HE : FT = g8_X8_lowest R2 (xso SC ad ws_4) a1.toInt a2.toInt x3_3.toInt := HE.trans (if_neg (Int.not_lt.mpr c_19))
          refine lv_aload_n C0.1 C0.2.1 dX8_lowest_15 rfl (lv_at hl 1 rfl) ?_
          refine lv_iload_n C0.1 C0.2.1 dX8_lowest_16 rfl (lv_at hl 0 rfl) ?_
          refine y_ci h (y_rV (As := [.int x3_3]) (rest := []) C0 hZ h (c_X8_anyHeading l G Z ad _ h.2 x3_3 (o18_252 l2 u2 b_10 b_11 hn_9 e_14 e_15 c_16 c_19) (o18_253 l2 u2 b_10 b_11 hn_9 e_14 e_15 c_16 c_19)) k_X8_anyHeading q_1088 q_33 q_1086 kSC_83 rfl rfl rfl hl.1 rfl rfl (Nat.le_of_ble_eq_true rfl) dX8_lowest_17 ⟨Nat.le_of_ble_eq_true rfl, Nat.le_of_ble_eq_true rfl⟩ ⟨Nat.le_of_ble_eq_true rfl, Nat.le_of_ble_eq_true rfl⟩) (fun r_25 H locs ws_22 h u_23 p_24 => ?_)
          obtain ⟨e_26, e_27⟩ := p_24
          replace HE : FT = g9c_X8_lowest R2 (xso SC ad ws_22) r_25.toInt a1.toInt a2.toInt x3_3.toInt := HE.trans (by rw [e_26, e_27]; rfl)
          refine lv_iload_n C0.1 C0.2.1 dX8_lowest_20 rfl (lv_at hl 2 rfl) ?_
          refine xr_ishr C0 dX8_lowest_21 (fun v_28 e_29 => ?_)
          refine y_c1 (n := 1) C0 (by decide) dX8_lowest_22 (fun v_30 e_31 => ?_)
          refine xr_iand C0 dX8_lowest_23 (fun v_32 e_33 => ?_)
          replace HE : FT = g10b_X8_lowest R2 (xso SC ad ws_22) v_32.toInt a1.toInt a2.toInt x3_3.toInt := HE.trans (by rw [e_33, e_31, e_29]; rfl)
          refine y_if_eq (tgt := 29) C0 dX8_lowest_24 (by decide) (fun c_34 => ?_) (fun c_34 => ?_)
          · -- 24
            replace HE : FT = g11_X8_lowest R2 (xso SC ad ws_22) a1.toInt a2.toInt x3_3.toInt := HE.trans (if_pos c_34)
            refine y_inc (kp := 0) (n := 1) (fun v_35 => [(3, .int v_35), (0, .ref (ad 83)), (1, .int a1), (2, .int a2)]) C0 hl rfl (by decide) (by decide) (fun _ => rfl) (o18_254 l2 u2 b_10 b_11 hn_9 e_14 e_15 c_16 c_19 (le_min x3_3) (le_max x3_3) (le_min a2) (le_max a2) (le_min v_12) (le_max v_12)) (o18_255 l2 u2 b_10 b_11 hn_9 e_14 e_15 c_16 c_19 (le_min x3_3) (le_max x3_3) (le_min a2) (le_max a2) (le_min v_12) (le_max v_12)) dX8_lowest_29 (fun v_35 ls e_36 hl => ?_)
            refine lv_goto (tgt := 2) C0.1 C0.2.1 dX8_lowest_32 (by decide) ?_
            exact ih_7 v_35 _ _ _ _ (o18_256 l2 u2 b_10 b_11 hn_9 e_14 e_15 c_16 c_19 e_36) (o18_257 l2 u2 b_10 b_11 hn_9 e_14 e_15 c_16 c_19 e_36) (o18_258 l2 u2 b_10 b_11 hn_9 e_14 e_15 c_16 c_19 e_36) (((show FT = R2 (xso SC ad ws_22) a1.toInt a2.toInt v_35.toInt from HE.trans (by rw [e_36]; rfl)).trans (by rw [hR2]))) h (Fr.tr hF_5 u_23) (lv_sub hl [0, 1, 2, 3] rfl)
          · -- 24
            replace HE : FT = g12_X8_lowest (xso SC ad ws_22) x3_3.toInt := HE.trans (if_neg c_34)
            refine lv_iload_n C0.1 C0.2.1 dX8_lowest_27 rfl (lv_at hl 0 rfl) ?_
            replace HE : FT = ((xso SC ad ws_22), x3_3.toInt) := HE.trans rfl
            rw [hQ]
            exact y_iret C0 h (Fr.tr hF_5 u_23) ⟨(congrArg Prod.fst (HE.symm.trans hFT)), (congrArg Prod.snd (HE.symm.trans hFT)), (o18_259 l2 u2 b_10 b_11 hn_9 e_14 e_15 c_16 c_19), (o18_253 l2 u2 b_10 b_11 hn_9 e_14 e_15 c_16 c_19)⟩ dX8_lowest_28
  exact lp_6 ((121 - v_1.toInt + 1).toNat) v_1 _ _ _ _ (o18_136 e_2) (o18_1 e_2) (o18_137 e_2) ((show FT = L1_X8_lowest (Int.toNat (121 - v_1.toInt + 1)) (xso SC ad ws0) a1.toInt a2.toInt v_1.toInt from HE.trans (by rw [e_2]; rfl))) h Fr.rf (lv_sub hl [0, 1, 2, 3] rfl)
noncomputable def g5_X8_fewestStreets (s : XS) : XR := (s, ((-1)))
noncomputable def g12_X8_fewestStreets (R8 : XS → Int → Int → Int → Int → Int → XR) (s : XS) (a2 : Int) (a3 : Int) (a4 : Int) (a5 : Int) (x6_10 : Int) : XR := R8 s a2 a3 a4 a5 ((x6_10 + 1))
noncomputable def g14c_X8_fewestStreets (R8 : XS → Int → Int → Int → Int → Int → XR) (s : XS) (a2 : Int) (a3 : Int) (a4 : Int) (a5 : Int) (x6_10 : Int) : XR := R8 s a2 a3 a4 a5 ((x6_10 + 1))
noncomputable def g13_X8_fewestStreets (R8 : XS → Int → Int → Int → Int → Int → XR) (s : XS) (a2 : Int) (a3 : Int) (a4 : Int) (a5 : Int) (x6_10 : Int) : XR := g14c_X8_fewestStreets R8 ((f_X8_goOn s x6_10 a5 a3).1) a2 a3 a4 a5 x6_10
noncomputable def g11b_X8_fewestStreets (R8 : XS → Int → Int → Int → Int → Int → XR) (s : XS) (a4 : Int) (x6_10 : Int) (a2 : Int) (a3 : Int) (a5 : Int) : XR := if x6_10 < a4 then g13_X8_fewestStreets R8 s a2 a3 a4 a5 x6_10 else g12_X8_fewestStreets R8 s a2 a3 a4 a5 x6_10
noncomputable def g9_X8_fewestStreets (R8 : XS → Int → Int → Int → Int → Int → XR) (s : XS) (a2 : Int) (a3 : Int) (a4 : Int) (a5 : Int) (x6_10 : Int) : XR := g11b_X8_fewestStreets R8 s a4 x6_10 a2 a3 a5
noncomputable def g10_X8_fewestStreets (s : XS) (x6_10 : Int) : XR := (s, x6_10)
noncomputable def g8b_X8_fewestStreets (R8 : XS → Int → Int → Int → Int → Int → XR) (s : XS) (r_25 : Int) (a2 : Int) (a3 : Int) (a4 : Int) (a5 : Int) (x6_10 : Int) : XR := if r_25 < 0 then g9_X8_fewestStreets R8 s a2 a3 a4 a5 x6_10 else g10_X8_fewestStreets s x6_10
noncomputable def g7c_X8_fewestStreets (R8 : XS → Int → Int → Int → Int → Int → XR) (s : XS) (r_25 : Int) (a2 : Int) (a3 : Int) (a4 : Int) (a5 : Int) (x6_10 : Int) : XR := g8b_X8_fewestStreets R8 s r_25 a2 a3 a4 a5 x6_10
noncomputable def g6_X8_fewestStreets (R8 : XS → Int → Int → Int → Int → Int → XR) (s : XS) (a2 : Int) (a3 : Int) (a4 : Int) (a5 : Int) (x6_10 : Int) : XR := g7c_X8_fewestStreets R8 ((f_X8_lowest s a2 a3).1) (((f_X8_lowest s a2 a3).2)) a2 a3 a4 a5 x6_10
noncomputable def g4b_X8_fewestStreets (R8 : XS → Int → Int → Int → Int → Int → XR) (s : XS) (a4 : Int) (x6_10 : Int) (a2 : Int) (a3 : Int) (a5 : Int) : XR := if a4 < x6_10 then g5_X8_fewestStreets s else g6_X8_fewestStreets R8 s a2 a3 a4 a5 x6_10
noncomputable def g3l_X8_fewestStreets (R8 : XS → Int → Int → Int → Int → Int → XR) (s : XS) (a2 : Int) (a3 : Int) (a4 : Int) (a5 : Int) (x6_10 : Int) : XR := g4b_X8_fewestStreets R8 s a4 x6_10 a2 a3 a5
noncomputable def L2_X8_fewestStreets (n : Nat) : XS → Int → Int → Int → Int → Int → XR := Nat.rec (motive := fun _ => XS → Int → Int → Int → Int → Int → XR) (fun s _ _ _ _ _ => (s, 0)) (fun _ R8 => g3l_X8_fewestStreets R8) n
noncomputable def g1c_X8_fewestStreets (s : XS) (a2 : Int) (a3 : Int) (a4 : Int) (a5 : Int) : XR := L2_X8_fewestStreets (Int.toNat (61 - 0 + 1)) s a2 a3 a4 a5 0
noncomputable def f_X8_fewestStreets (s : XS) (a1 : Int) (a2 : Int) (a3 : Int) (a4 : Int) (a5 : Int) : XR := g1c_X8_fewestStreets ((f_X8_begin s a1).1) a2 a3 a4 a5
set_option maxHeartbeats 4000000 in
set_option maxRecDepth 100000 in
theorem c_X8_fewestStreets (l : Launch) (G : GG) (Z : RZ) (ad : Nat → Nat) (ws0 : va_W) (hT : Ty G SC ad ws0) (a1 : Int32) (a2 : Int32) (a3 : Int32) (a4 : Int32) (a5 : Int32) (l1 : 0 ≤ a1.toInt) (u1 : a1.toInt ≤ 99) (l3 : 0 ≤ a3.toInt) (u3 : a3.toInt ≤ 120) (l4 : 0 ≤ a4.toInt) (u4 : a4.toInt ≤ 60) : Mq l yX8_fewestStreets cX8_fewestStreets 7 (some .int) 6 G Z [.ref (ad 83), .int a1, .int a2, .int a3, .int a4, .int a5] ws0 (PI G SC ad [4, 5, 18, 19, 20, 21, 22, 23] ws0 (fun r u => (xso SC ad u = (f_X8_fewestStreets (xso SC ad ws0) a1.toInt a2.toInt a3.toInt a4.toInt a5.toInt).1) ∧ (r.toInt = (f_X8_fewestStreets (xso SC ad ws0) a1.toInt a2.toInt a3.toInt a4.toInt a5.toInt).2) ∧ ((-1) ≤ r.toInt) ∧ (r.toInt ≤ 60))) := by
  refine Mq.start (by decide) (Nat.le_of_ble_eq_true rfl) ?_
  intro p e s m below meth c A ls C0 hZ h hl
  have hl : lv_has ls 7 [(0, .ref (ad 83)), (1, .int a1), (2, .int a2), (3, .int a3), (4, .int a4), (5, .int a5)] := hl
  have h : Wt G SC ad A s s.heap [] ws0 := ⟨h, hT⟩
  obtain ⟨args, hargs⟩ : ∃ z, z = ([.ref (ad 83), .int a1, .int a2, .int a3, .int a4, .int a5] : List Value).toArray := ⟨_, rfl⟩
  rw [← hargs] at C0 ⊢
  have C0 : Cx p s m args meth c RX8 cX8_fewestStreets 7 (some .int) := C0
  obtain ⟨Q, hQ⟩ : ∃ z, z = MQ below ((PI G SC ad [4, 5, 18, 19, 20, 21, 22, 23] ws0 (fun r u => (xso SC ad u = (f_X8_fewestStreets (xso SC ad ws0) a1.toInt a2.toInt a3.toInt a4.toInt a5.toInt).1) ∧ (r.toInt = (f_X8_fewestStreets (xso SC ad ws0) a1.toInt a2.toInt a3.toInt a4.toInt a5.toInt).2) ∧ ((-1) ≤ r.toInt) ∧ (r.toInt ≤ 60))) A) args s 0 0 A := ⟨_, rfl⟩
  rw [← hQ]
  obtain ⟨FT, hFT⟩ : ∃ z, z = f_X8_fewestStreets (xso SC ad ws0) a1.toInt a2.toInt a3.toInt a4.toInt a5.toInt := ⟨_, rfl⟩
  have HE : FT = f_X8_fewestStreets (xso SC ad ws0) a1.toInt a2.toInt a3.toInt a4.toInt a5.toInt := hFT
  refine lv_aload_n C0.1 C0.2.1 dX8_fewestStreets_0 rfl (lv_at hl 0 rfl) ?_
  refine lv_iload_n C0.1 C0.2.1 dX8_fewestStreets_1 rfl (lv_at hl 1 rfl) ?_
  refine y_cv h (y_rV (As := [.int a1]) (rest := []) C0 hZ h (c_X8_begin l G Z ad _ h.2 a1 (o18_260 l1 u1) (o18_261 l1 u1)) k_X8_begin q_1080 q_31 q_1078 kSC_83 rfl rfl rfl hl.1 rfl rfl (Nat.le_of_ble_eq_true rfl) dX8_fewestStreets_2 ⟨Nat.le_of_ble_eq_true rfl, Nat.le_of_ble_eq_true rfl⟩ ⟨Nat.le_of_ble_eq_true rfl, Nat.le_of_ble_eq_true rfl⟩) (fun H locs ws_1 h u_2 p_3 => ?_)
  obtain ⟨e_4, e_5⟩ := p_3
  obtain ⟨f_6, e_7⟩ : ∃ v, fI ws_1 83 4 = v := ⟨_, rfl⟩
  rw [e_7] at e_5
  replace HE : FT = g1c_X8_fewestStreets (xso SC ad ws_1) a2.toInt a3.toInt a4.toInt a5.toInt := HE.trans (by rw [e_4]; rfl)
  refine y_c1 (n := 0) C0 (by decide) dX8_fewestStreets_5 (fun v_8 e_9 => ?_)
  refine lv_istore (lv' := [(6, .int v_8), (0, .ref (ad 83)), (1, .int a1), (2, .int a2), (3, .int a3), (4, .int a4), (5, .int a5)]) C0.1 C0.2.1 dX8_fewestStreets_6 hl (by decide) rfl (fun ls hl => ?_)
  have lp_13 : ∀ (n_15 : Nat) (x6_10 : Int32) (H : Heap) (locs : List Loc) (ls : Array Slot) (ws_11 : va_W), 61 - x6_10.toInt < (n_15 : Int) → 0 ≤ x6_10.toInt → x6_10.toInt ≤ 61 → (FT = L2_X8_fewestStreets n_15 (xso SC ad ws_11) a2.toInt a3.toInt a4.toInt a5.toInt x6_10.toInt) → Wt G SC ad A s H locs ws_11 → Fr SC [4, 5, 18, 19, 20, 21, 22, 23] ws_1 ws_11 → lv_has ls 7 [(6, .int x6_10), (0, .ref (ad 83)), (1, .int a1), (2, .int a2), (3, .int a3), (4, .int a4), (5, .int a5)] → W p l e (rmd 6 0 0) s m args below meth c H locs 0 0 Q (F0 m 8 ls []) := by
    intro n_15
    induction n_15 with
    | zero => intro x6_10 H locs ls ws_11 hn_16 b_17 b_18 HE h hF_12 hl; exact ((o18_262 b_17 b_18 hn_16)).elim
    | succ n_15 ih_14 =>
      intro x6_10 H locs ls ws_11 hn_16 b_17 b_18 HE h hF_12 hl
      obtain ⟨R8, hR8⟩ : ∃ z, z = L2_X8_fewestStreets n_15 := ⟨_, rfl⟩
      replace HE : FT = g3l_X8_fewestStreets R8 (xso SC ad ws_11) a2.toInt a3.toInt a4.toInt a5.toInt x6_10.toInt := HE.trans (by rw [hR8]; rfl)
      refine lv_iload C0.1 C0.2.1 dX8_fewestStreets_8 (lv_at hl 0 rfl) ?_
      refine lv_iload C0.1 C0.2.1 dX8_fewestStreets_10 (lv_at hl 5 rfl) ?_
      replace HE : FT = g4b_X8_fewestStreets R8 (xso SC ad ws_11) a4.toInt x6_10.toInt a2.toInt a3.toInt a5.toInt := HE.trans rfl
      refine y_icmp_gt (tgt := 49) C0 dX8_fewestStreets_12 (by decide) (fun c_19 => ?_) (fun c_19 => ?_)
      · -- 12
        replace HE : FT = g5_X8_fewestStreets (xso SC ad ws_11) := HE.trans (if_pos c_19)
        refine y_c1 (n := (-1)) C0 (by decide) dX8_fewestStreets_49 (fun v_20 e_21 => ?_)
        replace HE : FT = ((xso SC ad ws_11), v_20.toInt) := HE.trans (by rw [e_21]; rfl)
        rw [hQ]
        exact y_iret C0 h (Fr.tr (Fr.mono u_2 (by decide)) hF_12) ⟨(congrArg Prod.fst (HE.symm.trans hFT)), (congrArg Prod.snd (HE.symm.trans hFT)), (o18_85 e_21), (o18_263 e_21)⟩ dX8_fewestStreets_50
      · -- 12
        replace HE : FT = g6_X8_fewestStreets R8 (xso SC ad ws_11) a2.toInt a3.toInt a4.toInt a5.toInt x6_10.toInt := HE.trans (if_neg (Int.not_lt.mpr c_19))
        refine lv_aload_n C0.1 C0.2.1 dX8_fewestStreets_15 rfl (lv_at hl 1 rfl) ?_
        refine lv_iload_n C0.1 C0.2.1 dX8_fewestStreets_16 rfl (lv_at hl 3 rfl) ?_
        refine lv_iload_n C0.1 C0.2.1 dX8_fewestStreets_17 rfl (lv_at hl 4 rfl) ?_
        refine y_ci h (y_rV (As := [.int a2, .int a3]) (rest := []) C0 hZ h (c_X8_lowest l G Z ad _ h.2 a2 a3 (o18_104 l3 u3) (o18_105 l3 u3)) k_X8_lowest q_1084 q_32 q_1082 kSC_83 rfl rfl rfl hl.1 rfl rfl (Nat.le_of_ble_eq_true rfl) dX8_fewestStreets_18 ⟨Nat.le_of_ble_eq_true rfl, Nat.le_of_ble_eq_true rfl⟩ ⟨Nat.le_of_ble_eq_true rfl, Nat.le_of_ble_eq_true rfl⟩) (fun r_25 H locs ws_22 h u_23 p_24 => ?_)
        obtain ⟨e_26, e_27, e_28, e_29⟩ := p_24
        replace HE : FT = g7c_X8_fewestStreets R8 (xso SC ad ws_22) r_25.toInt a2.toInt a3.toInt a4.toInt a5.toInt x6_10.toInt := HE.trans (by rw [e_26, e_27]; rfl)
        replace HE : FT = g8b_X8_fewestStreets R8 (xso SC ad ws_22) r_25.toInt a2.toInt a3.toInt a4.toInt a5.toInt x6_10.toInt := HE.trans rfl
        refine y_if_lt (tgt := 27) C0 dX8_fewestStreets_21 (by decide) (fun c_30 => ?_) (fun c_30 => ?_)
        · -- 21
          replace HE : FT = g9_X8_fewestStreets R8 (xso SC ad ws_22) a2.toInt a3.toInt a4.toInt a5.toInt x6_10.toInt := HE.trans (if_pos c_30)
          refine lv_iload C0.1 C0.2.1 dX8_fewestStreets_27 (lv_at hl 0 rfl) ?_
          refine lv_iload C0.1 C0.2.1 dX8_fewestStreets_29 (lv_at hl 5 rfl) ?_
          replace HE : FT = g11b_X8_fewestStreets R8 (xso SC ad ws_22) a4.toInt x6_10.toInt a2.toInt a3.toInt a5.toInt := HE.trans rfl
          refine y_icmp_ge (tgt := 43) C0 dX8_fewestStreets_31 (by decide) (fun c_31 => ?_) (fun c_31 => ?_)
          · -- 31
            replace HE : FT = g12_X8_fewestStreets R8 (xso SC ad ws_22) a2.toInt a3.toInt a4.toInt a5.toInt x6_10.toInt := HE.trans (if_neg (Int.not_lt.mpr c_31))
            refine y_inc (kp := 0) (n := 1) (fun v_32 => [(6, .int v_32), (0, .ref (ad 83)), (1, .int a1), (2, .int a2), (3, .int a3), (4, .int a4), (5, .int a5)]) C0 hl rfl (by decide) (by decide) (fun _ => rfl) (o18_264 l4 u4 b_17 b_18 hn_16 c_19 c_31 (le_min x6_10) (le_max x6_10) (le_min a4) (le_max a4)) (o18_265 l4 u4 b_17 b_18 hn_16 c_19 c_31 (le_min x6_10) (le_max x6_10) (le_min a4) (le_max a4)) dX8_fewestStreets_43 (fun v_32 ls e_33 hl => ?_)
            refine lv_goto (tgt := 8) C0.1 C0.2.1 dX8_fewestStreets_46 (by decide) ?_
            exact ih_14 v_32 _ _ _ _ (o18_266 l4 u4 b_17 b_18 hn_16 c_19 c_31 e_33) (o18_267 l4 u4 b_17 b_18 hn_16 c_19 c_31 e_33) (o18_268 l4 u4 b_17 b_18 hn_16 c_19 c_31 e_33) (((show FT = R8 (xso SC ad ws_22) a2.toInt a3.toInt a4.toInt a5.toInt v_32.toInt from HE.trans (by rw [e_33]; rfl)).trans (by rw [hR8]))) h (Fr.tr hF_12 (Fr.mono u_23 (by decide))) (lv_sub hl [0, 1, 2, 3, 4, 5, 6] rfl)
          · -- 31
            replace HE : FT = g13_X8_fewestStreets R8 (xso SC ad ws_22) a2.toInt a3.toInt a4.toInt a5.toInt x6_10.toInt := HE.trans (if_pos c_31)
            refine lv_aload_n C0.1 C0.2.1 dX8_fewestStreets_34 rfl (lv_at hl 1 rfl) ?_
            refine lv_iload C0.1 C0.2.1 dX8_fewestStreets_35 (lv_at hl 0 rfl) ?_
            refine lv_iload C0.1 C0.2.1 dX8_fewestStreets_37 (lv_at hl 6 rfl) ?_
            refine lv_iload_n C0.1 C0.2.1 dX8_fewestStreets_39 rfl (lv_at hl 4 rfl) ?_
            refine y_cv h (y_rV (As := [.int x6_10, .int a5, .int a3]) (rest := []) C0 hZ h (c_X8_goOn l G Z ad _ h.2 x6_10 a5 a3 (o18_269 l4 u4 b_17 b_18 hn_16 c_19 c_31) (o18_270 l4 u4 b_17 b_18 hn_16 c_19 c_31) (o18_104 l3 u3) (o18_105 l3 u3)) k_X8_goOn q_1092 q_34 q_1090 kSC_83 rfl rfl rfl hl.1 rfl rfl (Nat.le_of_ble_eq_true rfl) dX8_fewestStreets_40 ⟨Nat.le_of_ble_eq_true rfl, Nat.le_of_ble_eq_true rfl⟩ ⟨Nat.le_of_ble_eq_true rfl, Nat.le_of_ble_eq_true rfl⟩) (fun H locs ws_34 h u_35 p_36 => ?_)
            have e_37 := p_36
            replace HE : FT = g14c_X8_fewestStreets R8 (xso SC ad ws_34) a2.toInt a3.toInt a4.toInt a5.toInt x6_10.toInt := HE.trans (by rw [e_37]; rfl)
            refine y_inc (kp := 0) (n := 1) (fun v_38 => [(6, .int v_38), (0, .ref (ad 83)), (1, .int a1), (2, .int a2), (3, .int a3), (4, .int a4), (5, .int a5)]) C0 hl rfl (by decide) (by decide) (fun _ => rfl) (o18_271 l4 u4 b_17 b_18 hn_16 c_19 c_31 (le_min x6_10) (le_max x6_10) (le_min a4) (le_max a4)) (o18_272 l4 u4 b_17 b_18 hn_16 c_19 c_31 (le_min x6_10) (le_max x6_10) (le_min a4) (le_max a4)) dX8_fewestStreets_43 (fun v_38 ls e_39 hl => ?_)
            refine lv_goto (tgt := 8) C0.1 C0.2.1 dX8_fewestStreets_46 (by decide) ?_
            exact ih_14 v_38 _ _ _ _ (o18_273 l4 u4 b_17 b_18 hn_16 c_19 c_31 e_39) (o18_274 l4 u4 b_17 b_18 hn_16 c_19 c_31 e_39) (o18_275 l4 u4 b_17 b_18 hn_16 c_19 c_31 e_39) (((show FT = R8 (xso SC ad ws_34) a2.toInt a3.toInt a4.toInt a5.toInt v_38.toInt from HE.trans (by rw [e_39]; rfl)).trans (by rw [hR8]))) h (Fr.tr (Fr.tr hF_12 (Fr.mono u_23 (by decide))) u_35) (lv_sub hl [0, 1, 2, 3, 4, 5, 6] rfl)
        · -- 21
          replace HE : FT = g10_X8_fewestStreets (xso SC ad ws_22) x6_10.toInt := HE.trans (if_neg (Int.not_lt.mpr c_30))
          refine lv_iload C0.1 C0.2.1 dX8_fewestStreets_24 (lv_at hl 0 rfl) ?_
          replace HE : FT = ((xso SC ad ws_22), x6_10.toInt) := HE.trans rfl
          rw [hQ]
          exact y_iret C0 h (Fr.tr (Fr.tr (Fr.mono u_2 (by decide)) hF_12) (Fr.mono u_23 (by decide))) ⟨(congrArg Prod.fst (HE.symm.trans hFT)), (congrArg Prod.snd (HE.symm.trans hFT)), (o18_276 l4 u4 b_17 b_18 hn_16 c_19), (o18_277 l4 u4 b_17 b_18 hn_16 c_19)⟩ dX8_fewestStreets_26
  exact lp_13 ((61 - v_8.toInt + 1).toNat) v_8 _ _ _ _ (o18_278 e_9) (o18_1 e_9) (o18_279 e_9) ((show FT = L2_X8_fewestStreets (Int.toNat (61 - v_8.toInt + 1)) (xso SC ad ws_1) a2.toInt a3.toInt a4.toInt a5.toInt v_8.toInt from HE.trans (by rw [e_9]; rfl))) h Fr.rf (lv_sub hl [0, 1, 2, 3, 4, 5, 6] rfl)
noncomputable def g5_X8_fewestLefts (s : XS) (x6_16 : Int) : XR := (s, x6_16)
noncomputable def g8_X8_fewestLefts (s : XS) (x6_16 : Int) : XR := (s, x6_16)
noncomputable def g15_X8_fewestLefts (R15 : XS → Int → Int → Int → Int → Int → Int → Int → XR) (s : XS) (a2 : Int) (a3 : Int) (a4 : Int) (a5 : Int) (x6_16 : Int) (x7_15 : Int) (x8_14 : Int) : XR := R15 s a2 a3 a4 a5 x6_16 x7_15 ((x8_14 + 1))
noncomputable def g17c_X8_fewestLefts (R15 : XS → Int → Int → Int → Int → Int → Int → Int → XR) (s : XS) (a2 : Int) (a3 : Int) (a4 : Int) (a5 : Int) (x6_16 : Int) (x7_15 : Int) (x8_14 : Int) : XR := R15 s a2 a3 a4 a5 x6_16 x7_15 ((x8_14 + 1))
noncomputable def g16_X8_fewestLefts (R15 : XS → Int → Int → Int → Int → Int → Int → Int → XR) (s : XS) (a2 : Int) (a3 : Int) (a4 : Int) (a5 : Int) (x6_16 : Int) (x7_15 : Int) (x8_14 : Int) : XR := g17c_X8_fewestLefts R15 ((f_X8_goOn s (a2 + x8_14) a5 x7_15).1) a2 a3 a4 a5 x6_16 x7_15 x8_14
noncomputable def g14b_X8_fewestLefts (R15 : XS → Int → Int → Int → Int → Int → Int → Int → XR) (s : XS) (a4 : Int) (x8_14 : Int) (a2 : Int) (a3 : Int) (a5 : Int) (x6_16 : Int) (x7_15 : Int) : XR := if x8_14 < a4 then g16_X8_fewestLefts R15 s a2 a3 a4 a5 x6_16 x7_15 x8_14 else g15_X8_fewestLefts R15 s a2 a3 a4 a5 x6_16 x7_15 x8_14
noncomputable def g12_X8_fewestLefts (R15 : XS → Int → Int → Int → Int → Int → Int → Int → XR) (s : XS) (a2 : Int) (a3 : Int) (a4 : Int) (a5 : Int) (x6_16 : Int) (x7_15 : Int) (x8_14 : Int) : XR := g14b_X8_fewestLefts R15 s a4 x8_14 a2 a3 a5 x6_16 x7_15
noncomputable def g20_X8_fewestLefts (R15 : XS → Int → Int → Int → Int → Int → Int → Int → XR) (s : XS) (a2 : Int) (a3 : Int) (a4 : Int) (a5 : Int) (r_34 : Int) (v_56 : Int) (x8_14 : Int) : XR := R15 s a2 a3 a4 a5 r_34 v_56 ((x8_14 + 1))
noncomputable def g23_X8_fewestLefts (R15 : XS → Int → Int → Int → Int → Int → Int → Int → XR) (s : XS) (a2 : Int) (a3 : Int) (a4 : Int) (a5 : Int) (x8_14 : Int) : XR := R15 s a2 a3 a4 a5 0 (((-1))) ((x8_14 + 1))
noncomputable def g25c_X8_fewestLefts (R15 : XS → Int → Int → Int → Int → Int → Int → Int → XR) (s : XS) (a2 : Int) (a3 : Int) (a4 : Int) (a5 : Int) (r_34 : Int) (v_56 : Int) (x8_14 : Int) : XR := R15 s a2 a3 a4 a5 r_34 v_56 ((x8_14 + 1))
noncomputable def g24_X8_fewestLefts (R15 : XS → Int → Int → Int → Int → Int → Int → Int → XR) (s : XS) (a2 : Int) (a3 : Int) (a4 : Int) (a5 : Int) (r_34 : Int) (v_56 : Int) (x8_14 : Int) : XR := g25c_X8_fewestLefts R15 ((f_X8_goOn s (a2 + x8_14) a5 v_56).1) a2 a3 a4 a5 r_34 v_56 x8_14
noncomputable def g22b_X8_fewestLefts (R15 : XS → Int → Int → Int → Int → Int → Int → Int → XR) (s : XS) (v_56 : Int) (a2 : Int) (a3 : Int) (a4 : Int) (a5 : Int) (r_34 : Int) (x8_14 : Int) : XR := if v_56 < 0 then g23_X8_fewestLefts R15 s a2 a3 a4 a5 x8_14 else g24_X8_fewestLefts R15 s a2 a3 a4 a5 r_34 v_56 x8_14
noncomputable def g21_X8_fewestLefts (R15 : XS → Int → Int → Int → Int → Int → Int → Int → XR) (s : XS) (a2 : Int) (a3 : Int) (a4 : Int) (a5 : Int) (r_34 : Int) (v_56 : Int) (x8_14 : Int) : XR := g22b_X8_fewestLefts R15 s v_56 a2 a3 a4 a5 r_34 x8_14
noncomputable def g19b_X8_fewestLefts (R15 : XS → Int → Int → Int → Int → Int → Int → Int → XR) (s : XS) (a4 : Int) (x8_14 : Int) (a2 : Int) (a3 : Int) (a5 : Int) (r_34 : Int) (v_56 : Int) : XR := if x8_14 < a4 then g21_X8_fewestLefts R15 s a2 a3 a4 a5 r_34 v_56 x8_14 else g20_X8_fewestLefts R15 s a2 a3 a4 a5 r_34 v_56 x8_14
noncomputable def g18w_X8_fewestLefts (R15 : XS → Int → Int → Int → Int → Int → Int → Int → XR) (s : XS) (a2 : Int) (a3 : Int) (a4 : Int) (a5 : Int) (r_34 : Int) (x8_14 : Int) : XR := g19b_X8_fewestLefts R15 s a4 x8_14 a2 a3 a5 r_34 ((r_34 - 1))
noncomputable def g13_X8_fewestLefts (R15 : XS → Int → Int → Int → Int → Int → Int → Int → XR) (s : XS) (a2 : Int) (a3 : Int) (a4 : Int) (a5 : Int) (x8_14 : Int) (r_34 : Int) : XR := g18w_X8_fewestLefts R15 (xup s 0 83 5 x8_14) a2 a3 a4 a5 r_34 x8_14
noncomputable def g11b_X8_fewestLefts (R15 : XS → Int → Int → Int → Int → Int → Int → Int → XR) (s : XS) (r_34 : Int) (a2 : Int) (a3 : Int) (a4 : Int) (a5 : Int) (x6_16 : Int) (x7_15 : Int) (x8_14 : Int) : XR := if r_34 < 0 then g12_X8_fewestLefts R15 s a2 a3 a4 a5 x6_16 x7_15 x8_14 else g13_X8_fewestLefts R15 s a2 a3 a4 a5 x8_14 r_34
noncomputable def g10c_X8_fewestLefts (R15 : XS → Int → Int → Int → Int → Int → Int → Int → XR) (s : XS) (r_34 : Int) (a2 : Int) (a3 : Int) (a4 : Int) (a5 : Int) (x6_16 : Int) (x7_15 : Int) (x8_14 : Int) : XR := g11b_X8_fewestLefts R15 s r_34 a2 a3 a4 a5 x6_16 x7_15 x8_14
noncomputable def g9_X8_fewestLefts (R15 : XS → Int → Int → Int → Int → Int → Int → Int → XR) (s : XS) (a2 : Int) (a3 : Int) (a4 : Int) (a5 : Int) (x6_16 : Int) (x7_15 : Int) (x8_14 : Int) : XR := g10c_X8_fewestLefts R15 ((f_X8_lowest s a3 x7_15).1) (((f_X8_lowest s a3 x7_15).2)) a2 a3 a4 a5 x6_16 x7_15 x8_14
noncomputable def g7b_X8_fewestLefts (R15 : XS → Int → Int → Int → Int → Int → Int → Int → XR) (s : XS) (x7_15 : Int) (a2 : Int) (a3 : Int) (a4 : Int) (a5 : Int) (x6_16 : Int) (x8_14 : Int) : XR := if x7_15 < 0 then g8_X8_fewestLefts s x6_16 else g9_X8_fewestLefts R15 s a2 a3 a4 a5 x6_16 x7_15 x8_14
noncomputable def g6_X8_fewestLefts (R15 : XS → Int → Int → Int → Int → Int → Int → Int → XR) (s : XS) (a2 : Int) (a3 : Int) (a4 : Int) (a5 : Int) (x6_16 : Int) (x7_15 : Int) (x8_14 : Int) : XR := g7b_X8_fewestLefts R15 s x7_15 a2 a3 a4 a5 x6_16 x8_14
noncomputable def g4b_X8_fewestLefts (R15 : XS → Int → Int → Int → Int → Int → Int → Int → XR) (s : XS) (a4 : Int) (x8_14 : Int) (a2 : Int) (a3 : Int) (a5 : Int) (x6_16 : Int) (x7_15 : Int) : XR := if a4 < x8_14 then g5_X8_fewestLefts s x6_16 else g6_X8_fewestLefts R15 s a2 a3 a4 a5 x6_16 x7_15 x8_14
noncomputable def g3l_X8_fewestLefts (R15 : XS → Int → Int → Int → Int → Int → Int → Int → XR) (s : XS) (a2 : Int) (a3 : Int) (a4 : Int) (a5 : Int) (x6_16 : Int) (x7_15 : Int) (x8_14 : Int) : XR := g4b_X8_fewestLefts R15 s a4 x8_14 a2 a3 a5 x6_16 x7_15
noncomputable def L2_X8_fewestLefts (n : Nat) : XS → Int → Int → Int → Int → Int → Int → Int → XR := Nat.rec (motive := fun _ => XS → Int → Int → Int → Int → Int → Int → Int → XR) (fun s _ _ _ _ _ _ _ => (s, 0)) (fun _ R15 => g3l_X8_fewestLefts R15) n
noncomputable def g1c_X8_fewestLefts (s : XS) (a2 : Int) (a3 : Int) (a4 : Int) (a5 : Int) : XR := L2_X8_fewestLefts (Int.toNat (61 - 0 + 1)) s a2 a3 a4 a5 (((-1))) 120 0
noncomputable def f_X8_fewestLefts (s : XS) (a1 : Int) (a2 : Int) (a3 : Int) (a4 : Int) (a5 : Int) : XR := g1c_X8_fewestLefts ((f_X8_begin s a1).1) a2 a3 a4 a5
set_option maxHeartbeats 4000000 in
set_option maxRecDepth 100000 in
theorem c_X8_fewestLefts (l : Launch) (G : GG) (Z : RZ) (ad : Nat → Nat) (ws0 : va_W) (hT : Ty G SC ad ws0) (a1 : Int32) (a2 : Int32) (a3 : Int32) (a4 : Int32) (a5 : Int32) (l1 : 0 ≤ a1.toInt) (u1 : a1.toInt ≤ 99) (l2 : 0 ≤ a2.toInt) (u2 : a2.toInt ≤ 180) (l4 : 0 ≤ a4.toInt) (u4 : a4.toInt ≤ 60) : Mq l yX8_fewestLefts cX8_fewestLefts 10 (some .int) 6 G Z [.ref (ad 83), .int a1, .int a2, .int a3, .int a4, .int a5] ws0 (PI G SC ad [4, 5, 18, 19, 20, 21, 22, 23] ws0 (fun r u => (xso SC ad u = (f_X8_fewestLefts (xso SC ad ws0) a1.toInt a2.toInt a3.toInt a4.toInt a5.toInt).1) ∧ (r.toInt = (f_X8_fewestLefts (xso SC ad ws0) a1.toInt a2.toInt a3.toInt a4.toInt a5.toInt).2) ∧ ((-1) ≤ r.toInt) ∧ (r.toInt ≤ 120))) := by
  refine Mq.start (by decide) (Nat.le_of_ble_eq_true rfl) ?_
  intro p e s m below meth c A ls C0 hZ h hl
  have hl : lv_has ls 10 [(0, .ref (ad 83)), (1, .int a1), (2, .int a2), (3, .int a3), (4, .int a4), (5, .int a5)] := hl
  have h : Wt G SC ad A s s.heap [] ws0 := ⟨h, hT⟩
  obtain ⟨args, hargs⟩ : ∃ z, z = ([.ref (ad 83), .int a1, .int a2, .int a3, .int a4, .int a5] : List Value).toArray := ⟨_, rfl⟩
  rw [← hargs] at C0 ⊢
  have C0 : Cx p s m args meth c RX8 cX8_fewestLefts 10 (some .int) := C0
  obtain ⟨Q, hQ⟩ : ∃ z, z = MQ below ((PI G SC ad [4, 5, 18, 19, 20, 21, 22, 23] ws0 (fun r u => (xso SC ad u = (f_X8_fewestLefts (xso SC ad ws0) a1.toInt a2.toInt a3.toInt a4.toInt a5.toInt).1) ∧ (r.toInt = (f_X8_fewestLefts (xso SC ad ws0) a1.toInt a2.toInt a3.toInt a4.toInt a5.toInt).2) ∧ ((-1) ≤ r.toInt) ∧ (r.toInt ≤ 120))) A) args s 0 0 A := ⟨_, rfl⟩
  rw [← hQ]
  obtain ⟨FT, hFT⟩ : ∃ z, z = f_X8_fewestLefts (xso SC ad ws0) a1.toInt a2.toInt a3.toInt a4.toInt a5.toInt := ⟨_, rfl⟩
  have HE : FT = f_X8_fewestLefts (xso SC ad ws0) a1.toInt a2.toInt a3.toInt a4.toInt a5.toInt := hFT
  refine lv_aload_n C0.1 C0.2.1 dX8_fewestLefts_0 rfl (lv_at hl 0 rfl) ?_
  refine lv_iload_n C0.1 C0.2.1 dX8_fewestLefts_1 rfl (lv_at hl 1 rfl) ?_
  refine y_cv h (y_rV (As := [.int a1]) (rest := []) C0 hZ h (c_X8_begin l G Z ad _ h.2 a1 (o18_260 l1 u1) (o18_261 l1 u1)) k_X8_begin q_1080 q_31 q_1078 kSC_83 rfl rfl rfl hl.1 rfl rfl (Nat.le_of_ble_eq_true rfl) dX8_fewestLefts_2 ⟨Nat.le_of_ble_eq_true rfl, Nat.le_of_ble_eq_true rfl⟩ ⟨Nat.le_of_ble_eq_true rfl, Nat.le_of_ble_eq_true rfl⟩) (fun H locs ws_1 h u_2 p_3 => ?_)
  obtain ⟨e_4, e_5⟩ := p_3
  obtain ⟨f_6, e_7⟩ : ∃ v, fI ws_1 83 4 = v := ⟨_, rfl⟩
  rw [e_7] at e_5
  replace HE : FT = g1c_X8_fewestLefts (xso SC ad ws_1) a2.toInt a3.toInt a4.toInt a5.toInt := HE.trans (by rw [e_4]; rfl)
  refine y_c1 (n := (-1)) C0 (by decide) dX8_fewestLefts_5 (fun v_8 e_9 => ?_)
  refine lv_istore (lv' := [(6, .int v_8), (0, .ref (ad 83)), (1, .int a1), (2, .int a2), (3, .int a3), (4, .int a4), (5, .int a5)]) C0.1 C0.2.1 dX8_fewestLefts_6 hl (by decide) rfl (fun ls hl => ?_)
  refine y_c2 (n := 120) C0 (by decide) dX8_fewestLefts_8 (fun v_10 e_11 => ?_)
  refine lv_istore (lv' := [(7, .int v_10), (6, .int v_8), (0, .ref (ad 83)), (1, .int a1), (2, .int a2), (3, .int a3), (4, .int a4), (5, .int a5)]) C0.1 C0.2.1 dX8_fewestLefts_10 hl (by decide) rfl (fun ls hl => ?_)
  refine y_c1 (n := 0) C0 (by decide) dX8_fewestLefts_12 (fun v_12 e_13 => ?_)
  refine lv_istore (lv' := [(8, .int v_12), (7, .int v_10), (6, .int v_8), (0, .ref (ad 83)), (1, .int a1), (2, .int a2), (3, .int a3), (4, .int a4), (5, .int a5)]) C0.1 C0.2.1 dX8_fewestLefts_13 hl (by decide) rfl (fun ls hl => ?_)
  have lp_19 : ∀ (n_21 : Nat) (x8_14 : Int32) (x7_15 : Int32) (x6_16 : Int32) (H : Heap) (locs : List Loc) (ls : Array Slot) (ws_17 : va_W), 61 - x8_14.toInt < (n_21 : Int) → 0 ≤ x8_14.toInt → x8_14.toInt ≤ 61 → (-1) ≤ x7_15.toInt → x7_15.toInt ≤ 120 → (-1) ≤ x6_16.toInt → x6_16.toInt ≤ 120 → (FT = L2_X8_fewestLefts n_21 (xso SC ad ws_17) a2.toInt a3.toInt a4.toInt a5.toInt x6_16.toInt x7_15.toInt x8_14.toInt) → Wt G SC ad A s H locs ws_17 → Fr SC [4, 5, 18, 19, 20, 21, 22, 23] ws_1 ws_17 → lv_has ls 10 [(8, .int x8_14), (7, .int x7_15), (6, .int x6_16), (0, .ref (ad 83)), (1, .int a1), (2, .int a2), (3, .int a3), (4, .int a4), (5, .int a5)] → W p l e (rmd 6 0 0) s m args below meth c H locs 0 0 Q (F0 m 15 ls []) := by
    intro n_21
    induction n_21 with
    | zero => intro x8_14 x7_15 x6_16 H locs ls ws_17 hn_22 b_23 b_24 b_25 b_26 b_27 b_28 HE h hF_18 hl; exact ((o18_262 b_23 b_24 hn_22)).elim
    | succ n_21 ih_20 =>
      intro x8_14 x7_15 x6_16 H locs ls ws_17 hn_22 b_23 b_24 b_25 b_26 b_27 b_28 HE h hF_18 hl
      obtain ⟨R15, hR15⟩ : ∃ z, z = L2_X8_fewestLefts n_21 := ⟨_, rfl⟩
      replace HE : FT = g3l_X8_fewestLefts R15 (xso SC ad ws_17) a2.toInt a3.toInt a4.toInt a5.toInt x6_16.toInt x7_15.toInt x8_14.toInt := HE.trans (by rw [hR15]; rfl)
      refine lv_iload C0.1 C0.2.1 dX8_fewestLefts_15 (lv_at hl 0 rfl) ?_
      refine lv_iload C0.1 C0.2.1 dX8_fewestLefts_17 (lv_at hl 7 rfl) ?_
      replace HE : FT = g4b_X8_fewestLefts R15 (xso SC ad ws_17) a4.toInt x8_14.toInt a2.toInt a3.toInt a5.toInt x6_16.toInt x7_15.toInt := HE.trans rfl
      refine y_icmp_gt (tgt := 87) C0 dX8_fewestLefts_19 (by decide) (fun c_29 => ?_) (fun c_29 => ?_)
      · -- 19
        replace HE : FT = g5_X8_fewestLefts (xso SC ad ws_17) x6_16.toInt := HE.trans (if_pos c_29)
        refine lv_iload C0.1 C0.2.1 dX8_fewestLefts_87 (lv_at hl 2 rfl) ?_
        replace HE : FT = ((xso SC ad ws_17), x6_16.toInt) := HE.trans rfl
        rw [hQ]
        exact y_iret C0 h (Fr.tr (Fr.mono u_2 (by decide)) hF_18) ⟨(congrArg Prod.fst (HE.symm.trans hFT)), (congrArg Prod.snd (HE.symm.trans hFT)), (o18_280 b_27 b_28), (o18_281 b_27 b_28)⟩ dX8_fewestLefts_89
      · -- 19
        replace HE : FT = g6_X8_fewestLefts R15 (xso SC ad ws_17) a2.toInt a3.toInt a4.toInt a5.toInt x6_16.toInt x7_15.toInt x8_14.toInt := HE.trans (if_neg (Int.not_lt.mpr c_29))
        refine lv_iload C0.1 C0.2.1 dX8_fewestLefts_22 (lv_at hl 1 rfl) ?_
        replace HE : FT = g7b_X8_fewestLefts R15 (xso SC ad ws_17) x7_15.toInt a2.toInt a3.toInt a4.toInt a5.toInt x6_16.toInt x8_14.toInt := HE.trans rfl
        refine y_if_lt (tgt := 87) C0 dX8_fewestLefts_24 (by decide) (fun c_30 => ?_) (fun c_30 => ?_)
        · -- 24
          replace HE : FT = g8_X8_fewestLefts (xso SC ad ws_17) x6_16.toInt := HE.trans (if_pos c_30)
          refine lv_iload C0.1 C0.2.1 dX8_fewestLefts_87 (lv_at hl 2 rfl) ?_
          replace HE : FT = ((xso SC ad ws_17), x6_16.toInt) := HE.trans rfl
          rw [hQ]
          exact y_iret C0 h (Fr.tr (Fr.mono u_2 (by decide)) hF_18) ⟨(congrArg Prod.fst (HE.symm.trans hFT)), (congrArg Prod.snd (HE.symm.trans hFT)), (o18_280 b_27 b_28), (o18_281 b_27 b_28)⟩ dX8_fewestLefts_89
        · -- 24
          replace HE : FT = g9_X8_fewestLefts R15 (xso SC ad ws_17) a2.toInt a3.toInt a4.toInt a5.toInt x6_16.toInt x7_15.toInt x8_14.toInt := HE.trans (if_neg (Int.not_lt.mpr c_30))
          refine lv_aload_n C0.1 C0.2.1 dX8_fewestLefts_27 rfl (lv_at hl 3 rfl) ?_
          refine lv_iload_n C0.1 C0.2.1 dX8_fewestLefts_28 rfl (lv_at hl 6 rfl) ?_
          refine lv_iload C0.1 C0.2.1 dX8_fewestLefts_29 (lv_at hl 1 rfl) ?_
          refine y_ci h (y_rV (As := [.int a3, .int x7_15]) (rest := []) C0 hZ h (c_X8_lowest l G Z ad _ h.2 a3 x7_15 (o18_282 b_25 b_26 c_30) (o18_283 b_25 b_26 c_30)) k_X8_lowest q_1084 q_32 q_1082 kSC_83 rfl rfl rfl hl.1 rfl rfl (Nat.le_of_ble_eq_true rfl) dX8_fewestLefts_31 ⟨Nat.le_of_ble_eq_true rfl, Nat.le_of_ble_eq_true rfl⟩ ⟨Nat.le_of_ble_eq_true rfl, Nat.le_of_ble_eq_true rfl⟩) (fun r_34 H locs ws_31 h u_32 p_33 => ?_)
          obtain ⟨e_35, e_36, e_37, e_38⟩ := p_33
          replace HE : FT = g10c_X8_fewestLefts R15 (xso SC ad ws_31) r_34.toInt a2.toInt a3.toInt a4.toInt a5.toInt x6_16.toInt x7_15.toInt x8_14.toInt := HE.trans (by rw [e_35, e_36]; rfl)
          refine lv_istore (lv' := [(9, .int r_34), (8, .int x8_14), (7, .int x7_15), (6, .int x6_16), (0, .ref (ad 83)), (1, .int a1), (2, .int a2), (3, .int a3), (4, .int a4), (5, .int a5)]) C0.1 C0.2.1 dX8_fewestLefts_34 hl (by decide) rfl (fun ls hl => ?_)
          refine lv_iload C0.1 C0.2.1 dX8_fewestLefts_36 (lv_at hl 0 rfl) ?_
          replace HE : FT = g11b_X8_fewestLefts R15 (xso SC ad ws_31) r_34.toInt a2.toInt a3.toInt a4.toInt a5.toInt x6_16.toInt x7_15.toInt x8_14.toInt := HE.trans rfl
          refine y_if_lt (tgt := 57) C0 dX8_fewestLefts_38 (by decide) (fun c_39 => ?_) (fun c_39 => ?_)
          · -- 38
            replace HE : FT = g12_X8_fewestLefts R15 (xso SC ad ws_31) a2.toInt a3.toInt a4.toInt a5.toInt x6_16.toInt x7_15.toInt x8_14.toInt := HE.trans (if_pos c_39)
            refine lv_iload C0.1 C0.2.1 dX8_fewestLefts_57 (lv_at hl 1 rfl) ?_
            refine lv_iload C0.1 C0.2.1 dX8_fewestLefts_59 (lv_at hl 8 rfl) ?_
            replace HE : FT = g14b_X8_fewestLefts R15 (xso SC ad ws_31) a4.toInt x8_14.toInt a2.toInt a3.toInt a5.toInt x6_16.toInt x7_15.toInt := HE.trans rfl
            refine y_icmp_ge (tgt := 81) C0 dX8_fewestLefts_61 (by decide) (fun c_40 => ?_) (fun c_40 => ?_)
            · -- 61
              replace HE : FT = g15_X8_fewestLefts R15 (xso SC ad ws_31) a2.toInt a3.toInt a4.toInt a5.toInt x6_16.toInt x7_15.toInt x8_14.toInt := HE.trans (if_neg (Int.not_lt.mpr c_40))
              refine y_inc (kp := 1) (n := 1) (fun v_41 => [(8, .int v_41), (9, .int r_34), (7, .int x7_15), (6, .int x6_16), (0, .ref (ad 83)), (1, .int a1), (2, .int a2), (3, .int a3), (4, .int a4), (5, .int a5)]) C0 hl rfl (by decide) (by decide) (fun _ => rfl) (o18_264 l4 u4 b_23 b_24 hn_22 c_29 c_40 (le_min x8_14) (le_max x8_14) (le_min a4) (le_max a4)) (o18_265 l4 u4 b_23 b_24 hn_22 c_29 c_40 (le_min x8_14) (le_max x8_14) (le_min a4) (le_max a4)) dX8_fewestLefts_81 (fun v_41 ls e_42 hl => ?_)
              refine lv_goto (tgt := 15) C0.1 C0.2.1 dX8_fewestLefts_84 (by decide) ?_
              exact ih_20 v_41 x7_15 x6_16 _ _ _ _ (o18_266 l4 u4 b_23 b_24 hn_22 c_29 c_40 e_42) (o18_267 l4 u4 b_23 b_24 hn_22 c_29 c_40 e_42) (o18_268 l4 u4 b_23 b_24 hn_22 c_29 c_40 e_42) (o18_284 b_25 b_26 c_30) (o18_283 b_25 b_26 c_30) (o18_280 b_27 b_28) (o18_281 b_27 b_28) (((show FT = R15 (xso SC ad ws_31) a2.toInt a3.toInt a4.toInt a5.toInt x6_16.toInt x7_15.toInt v_41.toInt from HE.trans (by rw [e_42]; rfl)).trans (by rw [hR15]))) h (Fr.tr hF_18 (Fr.mono u_32 (by decide))) (lv_sub hl [0, 2, 3, 4, 5, 6, 7, 8, 9] rfl)
            · -- 61
              replace HE : FT = g16_X8_fewestLefts R15 (xso SC ad ws_31) a2.toInt a3.toInt a4.toInt a5.toInt x6_16.toInt x7_15.toInt x8_14.toInt := HE.trans (if_pos c_40)
              refine lv_iload C0.1 C0.2.1 dX8_fewestLefts_64 (lv_at hl 2 rfl) ?_
              refine y_if_lt (tgt := 81) C0 dX8_fewestLefts_66 (by decide) (fun c_43 => ((o18_285 b_25 b_26 c_30 c_43)).elim) (fun c_43 => ?_)
              refine lv_aload_n C0.1 C0.2.1 dX8_fewestLefts_69 rfl (lv_at hl 4 rfl) ?_
              refine lv_iload_n C0.1 C0.2.1 dX8_fewestLefts_70 rfl (lv_at hl 6 rfl) ?_
              refine lv_iload C0.1 C0.2.1 dX8_fewestLefts_71 (lv_at hl 1 rfl) ?_
              refine y_add C0 (o18_286 l2 u2 l4 u4 b_23 b_24 hn_22 c_29 c_40 (le_min a2) (le_max a2) (le_min x8_14) (le_max x8_14) (le_min a4) (le_max a4)) (o18_287 l2 u2 l4 u4 b_23 b_24 hn_22 c_29 c_40 (le_min a2) (le_max a2) (le_min x8_14) (le_max x8_14) (le_min a4) (le_max a4)) dX8_fewestLefts_73 (fun v_44 e_45 => ?_)
              refine lv_iload C0.1 C0.2.1 dX8_fewestLefts_74 (lv_at hl 9 rfl) ?_
              refine lv_iload C0.1 C0.2.1 dX8_fewestLefts_76 (lv_at hl 2 rfl) ?_
              refine y_cv h (y_rV (As := [.int v_44, .int a5, .int x7_15]) (rest := []) C0 hZ h (c_X8_goOn l G Z ad _ h.2 v_44 a5 x7_15 (o18_288 l2 u2 l4 u4 b_23 b_24 hn_22 c_29 c_40 e_45) (o18_289 l2 u2 l4 u4 b_23 b_24 hn_22 c_29 c_40 e_45) (o18_282 b_25 b_26 c_30) (o18_283 b_25 b_26 c_30)) k_X8_goOn q_1092 q_34 q_1090 kSC_83 rfl rfl rfl hl.1 rfl rfl (Nat.le_of_ble_eq_true rfl) dX8_fewestLefts_78 ⟨Nat.le_of_ble_eq_true rfl, Nat.le_of_ble_eq_true rfl⟩ ⟨Nat.le_of_ble_eq_true rfl, Nat.le_of_ble_eq_true rfl⟩) (fun H locs ws_46 h u_47 p_48 => ?_)
              have e_49 := p_48
              replace HE : FT = g17c_X8_fewestLefts R15 (xso SC ad ws_46) a2.toInt a3.toInt a4.toInt a5.toInt x6_16.toInt x7_15.toInt x8_14.toInt := HE.trans (by rw [e_49, e_45]; rfl)
              refine y_inc (kp := 1) (n := 1) (fun v_50 => [(8, .int v_50), (9, .int r_34), (7, .int x7_15), (6, .int x6_16), (0, .ref (ad 83)), (1, .int a1), (2, .int a2), (3, .int a3), (4, .int a4), (5, .int a5)]) C0 hl rfl (by decide) (by decide) (fun _ => rfl) (o18_290 l2 u2 l4 u4 b_23 b_24 hn_22 c_29 c_40 e_45 (le_min x8_14) (le_max x8_14) (le_min a2) (le_max a2) (le_min a4) (le_max a4) (le_min v_44) (le_max v_44)) (o18_291 l2 u2 l4 u4 b_23 b_24 hn_22 c_29 c_40 e_45 (le_min x8_14) (le_max x8_14) (le_min a2) (le_max a2) (le_min a4) (le_max a4) (le_min v_44) (le_max v_44)) dX8_fewestLefts_81 (fun v_50 ls e_51 hl => ?_)
              refine lv_goto (tgt := 15) C0.1 C0.2.1 dX8_fewestLefts_84 (by decide) ?_
              exact ih_20 v_50 x7_15 x6_16 _ _ _ _ (o18_292 l2 u2 l4 u4 b_23 b_24 hn_22 c_29 c_40 e_45 e_51) (o18_293 l2 u2 l4 u4 b_23 b_24 hn_22 c_29 c_40 e_45 e_51) (o18_294 l2 u2 l4 u4 b_23 b_24 hn_22 c_29 c_40 e_45 e_51) (o18_284 b_25 b_26 c_30) (o18_283 b_25 b_26 c_30) (o18_280 b_27 b_28) (o18_281 b_27 b_28) (((show FT = R15 (xso SC ad ws_46) a2.toInt a3.toInt a4.toInt a5.toInt x6_16.toInt x7_15.toInt v_50.toInt from HE.trans (by rw [e_51]; rfl)).trans (by rw [hR15]))) h (Fr.tr (Fr.tr hF_18 (Fr.mono u_32 (by decide))) u_47) (lv_sub hl [0, 2, 3, 4, 5, 6, 7, 8, 9] rfl)
          · -- 38
            replace HE : FT = g13_X8_fewestLefts R15 (xso SC ad ws_31) a2.toInt a3.toInt a4.toInt a5.toInt x8_14.toInt r_34.toInt := HE.trans (if_neg (Int.not_lt.mpr c_39))
            refine lv_iload C0.1 C0.2.1 dX8_fewestLefts_41 (lv_at hl 0 rfl) ?_
            refine lv_istore (lv' := [(6, .int r_34), (9, .int r_34), (8, .int x8_14), (7, .int x7_15), (0, .ref (ad 83)), (1, .int a1), (2, .int a2), (3, .int a3), (4, .int a4), (5, .int a5)]) C0.1 C0.2.1 dX8_fewestLefts_43 hl (by decide) rfl (fun ls hl => ?_)
            refine lv_aload_n C0.1 C0.2.1 dX8_fewestLefts_45 rfl (lv_at hl 4 rfl) ?_
            refine lv_iload C0.1 C0.2.1 dX8_fewestLefts_46 (lv_at hl 2 rfl) ?_
            refine tp_X8_streets C0 h kSC_83 q_319 (o18_295 l4 u4 b_23 b_24 hn_22 c_29) (o18_277 l4 u4 b_23 b_24 hn_22 c_29) dX8_fewestLefts_48 (fun H locs ws_52 h u_53 Xu_53 => ?_)
            replace HE : FT = g18w_X8_fewestLefts R15 (xso SC ad ws_52) a2.toInt a3.toInt a4.toInt a5.toInt r_34.toInt x8_14.toInt := HE.trans (by rw [Xu_53]; rfl)
            refine lv_iload C0.1 C0.2.1 dX8_fewestLefts_51 (lv_at hl 1 rfl) ?_
            refine y_c1 (n := 1) C0 (by decide) dX8_fewestLefts_53 (fun v_54 e_55 => ?_)
            refine y_sub C0 (o18_296 e_37 e_38 c_39 e_55 (le_min r_34) (le_max r_34) (le_min v_54) (le_max v_54)) (o18_297 e_37 e_38 c_39 e_55 (le_min r_34) (le_max r_34) (le_min v_54) (le_max v_54)) dX8_fewestLefts_54 (fun v_56 e_57 => ?_)
            refine lv_istore (lv' := [(7, .int v_56), (6, .int r_34), (9, .int r_34), (8, .int x8_14), (0, .ref (ad 83)), (1, .int a1), (2, .int a2), (3, .int a3), (4, .int a4), (5, .int a5)]) C0.1 C0.2.1 dX8_fewestLefts_55 hl (by decide) rfl (fun ls hl => ?_)
            refine lv_iload C0.1 C0.2.1 dX8_fewestLefts_57 (lv_at hl 3 rfl) ?_
            refine lv_iload C0.1 C0.2.1 dX8_fewestLefts_59 (lv_at hl 8 rfl) ?_
            replace HE : FT = g19b_X8_fewestLefts R15 (xso SC ad ws_52) a4.toInt x8_14.toInt a2.toInt a3.toInt a5.toInt r_34.toInt v_56.toInt := HE.trans (by rw [e_57, e_55]; rfl)
            refine y_icmp_ge (tgt := 81) C0 dX8_fewestLefts_61 (by decide) (fun c_58 => ?_) (fun c_58 => ?_)
            · -- 61
              replace HE : FT = g20_X8_fewestLefts R15 (xso SC ad ws_52) a2.toInt a3.toInt a4.toInt a5.toInt r_34.toInt v_56.toInt x8_14.toInt := HE.trans (if_neg (Int.not_lt.mpr c_58))
              refine y_inc (kp := 3) (n := 1) (fun v_59 => [(8, .int v_59), (7, .int v_56), (6, .int r_34), (9, .int r_34), (0, .ref (ad 83)), (1, .int a1), (2, .int a2), (3, .int a3), (4, .int a4), (5, .int a5)]) C0 hl rfl (by decide) (by decide) (fun _ => rfl) (o18_264 l4 u4 b_23 b_24 hn_22 c_29 c_58 (le_min x8_14) (le_max x8_14) (le_min a4) (le_max a4)) (o18_265 l4 u4 b_23 b_24 hn_22 c_29 c_58 (le_min x8_14) (le_max x8_14) (le_min a4) (le_max a4)) dX8_fewestLefts_81 (fun v_59 ls e_60 hl => ?_)
              refine lv_goto (tgt := 15) C0.1 C0.2.1 dX8_fewestLefts_84 (by decide) ?_
              exact ih_20 v_59 v_56 r_34 _ _ _ _ (o18_266 l4 u4 b_23 b_24 hn_22 c_29 c_58 e_60) (o18_267 l4 u4 b_23 b_24 hn_22 c_29 c_58 e_60) (o18_268 l4 u4 b_23 b_24 hn_22 c_29 c_58 e_60) (o18_298 e_37 e_38 c_39 e_55 e_57) (o18_299 e_37 e_38 c_39 e_55 e_57) (o18_300 e_37 e_38 c_39 e_55 e_57) (o18_301 e_37 e_38 c_39 e_55 e_57) (((show FT = R15 (xso SC ad ws_52) a2.toInt a3.toInt a4.toInt a5.toInt r_34.toInt v_56.toInt v_59.toInt from HE.trans (by rw [e_60]; rfl)).trans (by rw [hR15]))) h (Fr.tr (Fr.tr hF_18 (Fr.mono u_32 (by decide))) (Fr.up u_53.1 kSC_83 (by decide))) (lv_sub hl [0, 1, 2, 4, 5, 6, 7, 8, 9] rfl)
            · -- 61
              replace HE : FT = g21_X8_fewestLefts R15 (xso SC ad ws_52) a2.toInt a3.toInt a4.toInt a5.toInt r_34.toInt v_56.toInt x8_14.toInt := HE.trans (if_pos c_58)
              refine lv_iload C0.1 C0.2.1 dX8_fewestLefts_64 (lv_at hl 0 rfl) ?_
              replace HE : FT = g22b_X8_fewestLefts R15 (xso SC ad ws_52) v_56.toInt a2.toInt a3.toInt a4.toInt a5.toInt r_34.toInt x8_14.toInt := HE.trans rfl
              refine y_if_lt (tgt := 81) C0 dX8_fewestLefts_66 (by decide) (fun c_61 => ?_) (fun c_61 => ?_)
              · -- 66
                replace HE : FT = g23_X8_fewestLefts R15 (xso SC ad ws_52) a2.toInt a3.toInt a4.toInt a5.toInt x8_14.toInt := HE.trans (if_pos c_61)
                refine y_inc (kp := 3) (n := 1) (fun v_62 => [(8, .int v_62), (7, .int v_56), (6, .int r_34), (9, .int r_34), (0, .ref (ad 83)), (1, .int a1), (2, .int a2), (3, .int a3), (4, .int a4), (5, .int a5)]) C0 hl rfl (by decide) (by decide) (fun _ => rfl) (o18_271 l4 u4 b_23 b_24 hn_22 c_29 c_58 (le_min x8_14) (le_max x8_14) (le_min a4) (le_max a4)) (o18_272 l4 u4 b_23 b_24 hn_22 c_29 c_58 (le_min x8_14) (le_max x8_14) (le_min a4) (le_max a4)) dX8_fewestLefts_81 (fun v_62 ls e_63 hl => ?_)
                refine lv_goto (tgt := 15) C0.1 C0.2.1 dX8_fewestLefts_84 (by decide) ?_
                exact ih_20 v_62 v_56 r_34 _ _ _ _ (o18_273 l4 u4 b_23 b_24 hn_22 c_29 c_58 e_63) (o18_274 l4 u4 b_23 b_24 hn_22 c_29 c_58 e_63) (o18_275 l4 u4 b_23 b_24 hn_22 c_29 c_58 e_63) (o18_302 e_37 e_38 c_39 e_55 e_57 c_61) (o18_303 e_37 e_38 c_39 e_55 e_57 c_61) (o18_304 e_37 e_38 c_39 e_55 e_57 c_61) (o18_305 e_37 e_38 c_39 e_55 e_57 c_61) (((show FT = R15 (xso SC ad ws_52) a2.toInt a3.toInt a4.toInt a5.toInt r_34.toInt v_56.toInt v_62.toInt from HE.trans (by rw [e_63, (o18_307 e_37 e_38 c_39 e_55 e_57 c_61), (o18_306 e_37 e_38 c_39 e_55 e_57 c_61)]; rfl)).trans (by rw [hR15]))) h (Fr.tr (Fr.tr hF_18 (Fr.mono u_32 (by decide))) (Fr.up u_53.1 kSC_83 (by decide))) (lv_sub hl [0, 1, 2, 4, 5, 6, 7, 8, 9] rfl)
              · -- 66
                replace HE : FT = g24_X8_fewestLefts R15 (xso SC ad ws_52) a2.toInt a3.toInt a4.toInt a5.toInt r_34.toInt v_56.toInt x8_14.toInt := HE.trans (if_neg (Int.not_lt.mpr c_61))
                refine lv_aload_n C0.1 C0.2.1 dX8_fewestLefts_69 rfl (lv_at hl 4 rfl) ?_
                refine lv_iload_n C0.1 C0.2.1 dX8_fewestLefts_70 rfl (lv_at hl 6 rfl) ?_
                refine lv_iload C0.1 C0.2.1 dX8_fewestLefts_71 (lv_at hl 3 rfl) ?_
                refine y_add C0 (o18_286 l2 u2 l4 u4 b_23 b_24 hn_22 c_29 c_58 (le_min a2) (le_max a2) (le_min x8_14) (le_max x8_14) (le_min a4) (le_max a4)) (o18_287 l2 u2 l4 u4 b_23 b_24 hn_22 c_29 c_58 (le_min a2) (le_max a2) (le_min x8_14) (le_max x8_14) (le_min a4) (le_max a4)) dX8_fewestLefts_73 (fun v_64 e_65 => ?_)
                refine lv_iload C0.1 C0.2.1 dX8_fewestLefts_74 (lv_at hl 9 rfl) ?_
                refine lv_iload C0.1 C0.2.1 dX8_fewestLefts_76 (lv_at hl 0 rfl) ?_
                refine y_cv h (y_rV (As := [.int v_64, .int a5, .int v_56]) (rest := []) C0 hZ h (c_X8_goOn l G Z ad _ h.2 v_64 a5 v_56 (o18_288 l2 u2 l4 u4 b_23 b_24 hn_22 c_29 c_58 e_65) (o18_289 l2 u2 l4 u4 b_23 b_24 hn_22 c_29 c_58 e_65) (o18_308 e_37 e_38 c_39 e_55 e_57 c_61) (o18_309 e_37 e_38 c_39 e_55 e_57 c_61)) k_X8_goOn q_1092 q_34 q_1090 kSC_83 rfl rfl rfl hl.1 rfl rfl (Nat.le_of_ble_eq_true rfl) dX8_fewestLefts_78 ⟨Nat.le_of_ble_eq_true rfl, Nat.le_of_ble_eq_true rfl⟩ ⟨Nat.le_of_ble_eq_true rfl, Nat.le_of_ble_eq_true rfl⟩) (fun H locs ws_66 h u_67 p_68 => ?_)
                have e_69 := p_68
                replace HE : FT = g25c_X8_fewestLefts R15 (xso SC ad ws_66) a2.toInt a3.toInt a4.toInt a5.toInt r_34.toInt v_56.toInt x8_14.toInt := HE.trans (by rw [e_69, e_65]; rfl)
                refine y_inc (kp := 3) (n := 1) (fun v_70 => [(8, .int v_70), (7, .int v_56), (6, .int r_34), (9, .int r_34), (0, .ref (ad 83)), (1, .int a1), (2, .int a2), (3, .int a3), (4, .int a4), (5, .int a5)]) C0 hl rfl (by decide) (by decide) (fun _ => rfl) (o18_290 l2 u2 l4 u4 b_23 b_24 hn_22 c_29 c_58 e_65 (le_min x8_14) (le_max x8_14) (le_min a2) (le_max a2) (le_min a4) (le_max a4) (le_min v_64) (le_max v_64)) (o18_291 l2 u2 l4 u4 b_23 b_24 hn_22 c_29 c_58 e_65 (le_min x8_14) (le_max x8_14) (le_min a2) (le_max a2) (le_min a4) (le_max a4) (le_min v_64) (le_max v_64)) dX8_fewestLefts_81 (fun v_70 ls e_71 hl => ?_)
                refine lv_goto (tgt := 15) C0.1 C0.2.1 dX8_fewestLefts_84 (by decide) ?_
                exact ih_20 v_70 v_56 r_34 _ _ _ _ (o18_292 l2 u2 l4 u4 b_23 b_24 hn_22 c_29 c_58 e_65 e_71) (o18_293 l2 u2 l4 u4 b_23 b_24 hn_22 c_29 c_58 e_65 e_71) (o18_294 l2 u2 l4 u4 b_23 b_24 hn_22 c_29 c_58 e_65 e_71) (o18_310 e_37 e_38 c_39 e_55 e_57 c_61) (o18_309 e_37 e_38 c_39 e_55 e_57 c_61) (o18_311 e_37 e_38 c_39 e_55 e_57 c_61) (o18_312 e_37 e_38 c_39 e_55 e_57 c_61) (((show FT = R15 (xso SC ad ws_66) a2.toInt a3.toInt a4.toInt a5.toInt r_34.toInt v_56.toInt v_70.toInt from HE.trans (by rw [e_71]; rfl)).trans (by rw [hR15]))) h (Fr.tr (Fr.tr (Fr.tr hF_18 (Fr.mono u_32 (by decide))) (Fr.up u_53.1 kSC_83 (by decide))) u_67) (lv_sub hl [0, 1, 2, 4, 5, 6, 7, 8, 9] rfl)
  exact lp_19 ((61 - v_12.toInt + 1).toNat) v_12 v_10 v_8 _ _ _ _ (o18_278 e_13) (o18_1 e_13) (o18_279 e_13) (o18_313 e_11) (o18_314 e_11) (o18_85 e_9) (o18_251 e_9) ((show FT = L2_X8_fewestLefts (Int.toNat (61 - v_12.toInt + 1)) (xso SC ad ws_1) a2.toInt a3.toInt a4.toInt a5.toInt v_8.toInt v_10.toInt v_12.toInt from HE.trans (by rw [e_13, e_11, e_9]; rfl))) h Fr.rf (lv_sub hl [0, 1, 2, 3, 4, 5, 6, 7, 8] rfl)
noncomputable def f_X8_streets (s : XS) : XR := (s, (s 0 83 5))
set_option maxHeartbeats 4000000 in
set_option maxRecDepth 100000 in
theorem c_X8_streets (l : Launch) (G : GG) (Z : RZ) (ad : Nat → Nat) (ws0 : va_W) (hT : Ty G SC ad ws0) : Mq l yX8_streets cX8_streets 1 (some .int) 1 G Z [.ref (ad 83)] ws0 (PI G SC ad [] ws0 (fun r u => (xso SC ad u = (f_X8_streets (xso SC ad ws0)).1) ∧ (r.toInt = (f_X8_streets (xso SC ad ws0)).2) ∧ (0 ≤ r.toInt) ∧ (r.toInt ≤ 60))) := by
  refine Mq.start (by decide) (Nat.le_of_ble_eq_true rfl) ?_
  intro p e s m below meth c A ls C0 hZ h hl
  have hl : lv_has ls 1 [(0, .ref (ad 83))] := hl
  have h : Wt G SC ad A s s.heap [] ws0 := ⟨h, hT⟩
  obtain ⟨args, hargs⟩ : ∃ z, z = ([.ref (ad 83)] : List Value).toArray := ⟨_, rfl⟩
  rw [← hargs] at C0 ⊢
  have C0 : Cx p s m args meth c RX8 cX8_streets 1 (some .int) := C0
  obtain ⟨Q, hQ⟩ : ∃ z, z = MQ below ((PI G SC ad [] ws0 (fun r u => (xso SC ad u = (f_X8_streets (xso SC ad ws0)).1) ∧ (r.toInt = (f_X8_streets (xso SC ad ws0)).2) ∧ (0 ≤ r.toInt) ∧ (r.toInt ≤ 60))) A) args s 0 0 A := ⟨_, rfl⟩
  rw [← hQ]
  obtain ⟨FT, hFT⟩ : ∃ z, z = f_X8_streets (xso SC ad ws0) := ⟨_, rfl⟩
  have HE : FT = f_X8_streets (xso SC ad ws0) := hFT
  refine lv_aload_n C0.1 C0.2.1 dX8_streets_0 rfl (lv_at hl 0 rfl) ?_
  refine tg_X8_streets C0 h kSC_83 q_319 dX8_streets_1 (fun v_1 e_2 e_3 e_4 => ?_)
  replace HE : FT = ((xso SC ad ws0), v_1.toInt) := HE.trans (by rw [(xg0 e_2 : v_1.toInt = (xso SC ad ws0) 0 83 5)]; rfl)
  rw [hQ]
  exact y_iret C0 h Fr.rf ⟨(congrArg Prod.fst (HE.symm.trans hFT)), (congrArg Prod.snd (HE.symm.trans hFT)), (o18_315 e_3 e_4), (o18_316 e_3 e_4)⟩ dX8_streets_4
noncomputable def g6_X8_survey (s : XS) : XR := (s, 0)
noncomputable def g14_X8_survey (R15 : XS → Int → Int → XR) (s : XS) (a2 : Int) : XR := R15 s a2 ((60 + 1))
noncomputable def g16c_X8_survey (R15 : XS → Int → Int → XR) (s : XS) (a2 : Int) (x3_16 : Int) : XR := R15 s a2 ((x3_16 + 1))
noncomputable def g15_X8_survey (R15 : XS → Int → Int → XR) (s : XS) (a2 : Int) (x3_16 : Int) : XR := g16c_X8_survey R15 ((f_X8_goOn s x3_16 0 a2).1) a2 x3_16
noncomputable def g13b_X8_survey (R15 : XS → Int → Int → XR) (s : XS) (x3_16 : Int) (a2 : Int) : XR := if x3_16 < 60 then g15_X8_survey R15 s a2 x3_16 else g14_X8_survey R15 s a2
noncomputable def g11_X8_survey (R15 : XS → Int → Int → XR) (s : XS) (a2 : Int) (x3_16 : Int) : XR := g13b_X8_survey R15 s x3_16 a2
noncomputable def g18w_X8_survey (R15 : XS → Int → Int → XR) (R24 : XS → Int → Int → Int → XR) (s : XS) (a2 : Int) (x3_16 : Int) (x4_30 : Int) : XR := R24 s a2 x3_16 ((x4_30 + 1))
noncomputable def g17c_X8_survey (R15 : XS → Int → Int → XR) (R24 : XS → Int → Int → Int → XR) (s : XS) (r_64 : Int) (v_57 : Int) (x4_30 : Int) (a2 : Int) (x3_16 : Int) : XR := g18w_X8_survey R15 R24 (xup s 1 86 (Int.toNat x4_30) ((Xior v_57 r_64))) a2 x3_16 x4_30
noncomputable def g12_X8_survey (R15 : XS → Int → Int → XR) (R24 : XS → Int → Int → Int → XR) (s : XS) (a2 : Int) (x3_16 : Int) (x4_30 : Int) : XR := g17c_X8_survey R15 R24 ((f_X8_anyHeading s x4_30).1) (((f_X8_anyHeading s x4_30).2)) ((s 1 86 (Int.toNat x4_30))) x4_30 a2 x3_16
noncomputable def g10b_X8_survey (R15 : XS → Int → Int → XR) (R24 : XS → Int → Int → Int → XR) (s : XS) (v_39 : Int) (x4_30 : Int) (a2 : Int) (x3_16 : Int) : XR := if v_39 < x4_30 then g11_X8_survey R15 s a2 x3_16 else g12_X8_survey R15 R24 s a2 x3_16 x4_30
noncomputable def g9l_X8_survey (R15 : XS → Int → Int → XR) (R24 : XS → Int → Int → Int → XR) (s : XS) (a2 : Int) (x3_16 : Int) (x4_30 : Int) : XR := g10b_X8_survey R15 R24 s ((s 0 83 4)) x4_30 a2 x3_16
noncomputable def L8_X8_survey (R15 : XS → Int → Int → XR) (n : Nat) : XS → Int → Int → Int → XR := Nat.rec (motive := fun _ => XS → Int → Int → Int → XR) (fun s _ _ _ => (s, 0)) (fun _ R24 => g9l_X8_survey R15 R24) n
noncomputable def g7_X8_survey (R15 : XS → Int → Int → XR) (s : XS) (a2 : Int) (x3_16 : Int) : XR := L8_X8_survey R15 (Int.toNat (121 - 0 + 1)) s a2 x3_16 0
noncomputable def g5b_X8_survey (R15 : XS → Int → Int → XR) (s : XS) (x3_16 : Int) (a2 : Int) : XR := if 60 < x3_16 then g6_X8_survey s else g7_X8_survey R15 s a2 x3_16
noncomputable def g4l_X8_survey (R15 : XS → Int → Int → XR) (s : XS) (a2 : Int) (x3_16 : Int) : XR := g5b_X8_survey R15 s x3_16 a2
noncomputable def L3_X8_survey (n : Nat) : XS → Int → Int → XR := Nat.rec (motive := fun _ => XS → Int → Int → XR) (fun s _ _ => (s, 0)) (fun _ R15 => g4l_X8_survey R15) n
noncomputable def g2c_X8_survey (s : XS) (a2 : Int) : XR := L3_X8_survey (Int.toNat (61 - 0 + 1)) s a2 0
noncomputable def g1c_X8_survey (s : XS) (a1 : Int) (a2 : Int) : XR := g2c_X8_survey ((f_X8_begin s a1).1) a2
noncomputable def f_X8_survey (s : XS) (a1 : Int) (a2 : Int) : XR := g1c_X8_survey ((f_J7_fill_53178_24 s 86 0).1) a1 a2
set_option maxHeartbeats 4000000 in
set_option maxRecDepth 100000 in
theorem c_X8_survey (l : Launch) (G : GG) (Z : RZ) (ad : Nat → Nat) (ws0 : va_W) (hT : Ty G SC ad ws0) (a1 : Int32) (a2 : Int32) (l1 : 0 ≤ a1.toInt) (u1 : a1.toInt ≤ 99) (l2 : 0 ≤ a2.toInt) (u2 : a2.toInt ≤ 120) : Mq l yX8_survey cX8_survey 5 none 6 G Z [.ref (ad 83), .int a1, .int a2] ws0 (PV G SC ad [4, 5, 18, 19, 20, 21, 22, 23, 24] ws0 (fun u => (xso SC ad u = (f_X8_survey (xso SC ad ws0) a1.toInt a2.toInt).1))) := by
  refine Mq.start (by decide) (Nat.le_of_ble_eq_true rfl) ?_
  intro p e s m below meth c A ls C0 hZ h hl
  have hl : lv_has ls 5 [(0, .ref (ad 83)), (1, .int a1), (2, .int a2)] := hl
  have h : Wt G SC ad A s s.heap [] ws0 := ⟨h, hT⟩
  obtain ⟨args, hargs⟩ : ∃ z, z = ([.ref (ad 83), .int a1, .int a2] : List Value).toArray := ⟨_, rfl⟩
  rw [← hargs] at C0 ⊢
  have C0 : Cx p s m args meth c RX8 cX8_survey 5 none := C0
  obtain ⟨Q, hQ⟩ : ∃ z, z = MQ below ((PV G SC ad [4, 5, 18, 19, 20, 21, 22, 23, 24] ws0 (fun u => (xso SC ad u = (f_X8_survey (xso SC ad ws0) a1.toInt a2.toInt).1))) A) args s 0 0 A := ⟨_, rfl⟩
  rw [← hQ]
  obtain ⟨FT, hFT⟩ : ∃ z, z = f_X8_survey (xso SC ad ws0) a1.toInt a2.toInt := ⟨_, rfl⟩
  have HE : FT = f_X8_survey (xso SC ad ws0) a1.toInt a2.toInt := hFT
  refine lv_aload_n C0.1 C0.2.1 dX8_survey_0 rfl (lv_at hl 0 rfl) ?_
  refine tg_X8_reached C0 h kSC_83 q_320 dX8_survey_1 ?_
  refine y_c1 (n := 0) C0 (by decide) dX8_survey_4 (fun v_1 e_2 => ?_)
  refine y_cv h (y_rS (As := [.ref (ad 86), .int v_1]) (rest := []) C0 hZ h (c_J7_fill_53178_24 l G Z ad _ h.2 86 kSC_86 v_1) k_J7_fill_53178 q_611 q_1256 hl.1 rfl rfl (Nat.le_of_ble_eq_true rfl) dX8_survey_5 ⟨Nat.le_of_ble_eq_true rfl, Nat.le_of_ble_eq_true rfl⟩ ⟨Nat.le_of_ble_eq_true rfl, Nat.le_of_ble_eq_true rfl⟩) (fun H locs ws_3 h u_4 p_5 => ?_)
  have e_6 := p_5
  replace HE : FT = g1c_X8_survey (xso SC ad ws_3) a1.toInt a2.toInt := HE.trans (by rw [e_6, e_2]; rfl)
  refine lv_aload_n C0.1 C0.2.1 dX8_survey_8 rfl (lv_at hl 0 rfl) ?_
  refine lv_iload_n C0.1 C0.2.1 dX8_survey_9 rfl (lv_at hl 1 rfl) ?_
  refine y_cv h (y_rV (As := [.int a1]) (rest := []) C0 hZ h (c_X8_begin l G Z ad _ h.2 a1 (o18_260 l1 u1) (o18_261 l1 u1)) k_X8_begin q_1080 q_31 q_1078 kSC_83 rfl rfl rfl hl.1 rfl rfl (Nat.le_of_ble_eq_true rfl) dX8_survey_10 ⟨Nat.le_of_ble_eq_true rfl, Nat.le_of_ble_eq_true rfl⟩ ⟨Nat.le_of_ble_eq_true rfl, Nat.le_of_ble_eq_true rfl⟩) (fun H locs ws_7 h u_8 p_9 => ?_)
  obtain ⟨e_10, e_11⟩ := p_9
  obtain ⟨f_12, e_13⟩ : ∃ v, fI ws_7 83 4 = v := ⟨_, rfl⟩
  rw [e_13] at e_11
  replace HE : FT = g2c_X8_survey (xso SC ad ws_7) a2.toInt := HE.trans (by rw [e_10]; rfl)
  refine y_c1 (n := 0) C0 (by decide) dX8_survey_13 (fun v_14 e_15 => ?_)
  refine lv_istore_n (lv' := [(3, .int v_14), (0, .ref (ad 83)), (1, .int a1), (2, .int a2)]) C0.1 C0.2.1 dX8_survey_14 rfl hl (by decide) rfl (fun ls hl => ?_)
  have lp_19 : ∀ (n_21 : Nat) (x3_16 : Int32) (H : Heap) (locs : List Loc) (ls : Array Slot) (ws_17 : va_W), 61 - x3_16.toInt < (n_21 : Int) → 0 ≤ x3_16.toInt → x3_16.toInt ≤ 61 → (FT = L3_X8_survey n_21 (xso SC ad ws_17) a2.toInt x3_16.toInt) → Wt G SC ad A s H locs ws_17 → Fr SC [4, 5, 18, 19, 20, 21, 22, 23, 24] ws_7 ws_17 → lv_has ls 5 [(3, .int x3_16), (0, .ref (ad 83)), (1, .int a1), (2, .int a2)] → W p l e (rmd 6 0 0) s m args below meth c H locs 0 0 Q (F0 m 15 ls []) := by
    intro n_21
    induction n_21 with
    | zero => intro x3_16 H locs ls ws_17 hn_22 b_23 b_24 HE h hF_18 hl; exact ((o18_262 b_23 b_24 hn_22)).elim
    | succ n_21 ih_20 =>
      intro x3_16 H locs ls ws_17 hn_22 b_23 b_24 HE h hF_18 hl
      obtain ⟨R15, hR15⟩ : ∃ z, z = L3_X8_survey n_21 := ⟨_, rfl⟩
      replace HE : FT = g4l_X8_survey R15 (xso SC ad ws_17) a2.toInt x3_16.toInt := HE.trans (by rw [hR15]; rfl)
      refine lv_iload_n C0.1 C0.2.1 dX8_survey_15 rfl (lv_at hl 0 rfl) ?_
      refine y_c2 (n := 60) C0 (by decide) dX8_survey_16 (fun v_25 e_26 => ?_)
      replace HE : FT = g5b_X8_survey R15 (xso SC ad ws_17) x3_16.toInt a2.toInt := HE.trans rfl
      refine y_icmp_gt (tgt := 74) C0 dX8_survey_18 (by decide) (fun c_27 => ?_) (fun c_27 => ?_)
      · -- 18
        replace HE : FT = g6_X8_survey (xso SC ad ws_17) := HE.trans (if_pos (o18_318 b_23 b_24 hn_22 e_26 c_27))
        replace HE : FT = ((xso SC ad ws_17), 0) := HE.trans rfl
        rw [hQ]
        exact y_vret C0 h (Fr.tr (Fr.tr (Fr.mono u_4 (by decide)) (Fr.mono u_8 (by decide))) hF_18) (congrArg Prod.fst (HE.symm.trans hFT)) dX8_survey_74
      · -- 18
        replace HE : FT = g7_X8_survey R15 (xso SC ad ws_17) a2.toInt x3_16.toInt := HE.trans (if_neg (o18_319 b_23 b_24 hn_22 e_26 c_27))
        refine y_c1 (n := 0) C0 (by decide) dX8_survey_21 (fun v_28 e_29 => ?_)
        refine lv_istore (lv' := [(4, .int v_28), (3, .int x3_16), (0, .ref (ad 83)), (1, .int a1), (2, .int a2)]) C0.1 C0.2.1 dX8_survey_22 hl (by decide) rfl (fun ls hl => ?_)
        have lp_33 : ∀ (n_35 : Nat) (x4_30 : Int32) (H : Heap) (locs : List Loc) (ls : Array Slot) (ws_31 : va_W), 121 - x4_30.toInt < (n_35 : Int) → 0 ≤ x4_30.toInt → x4_30.toInt ≤ 121 → (FT = L8_X8_survey R15 n_35 (xso SC ad ws_31) a2.toInt x3_16.toInt x4_30.toInt) → Wt G SC ad A s H locs ws_31 → Fr SC [24] ws_17 ws_31 → lv_has ls 5 [(4, .int x4_30), (3, .int x3_16), (0, .ref (ad 83)), (1, .int a1), (2, .int a2)] → W p l e (rmd 6 0 0) s m args below meth c H locs 0 0 Q (F0 m 24 ls []) := by
          intro n_35
          induction n_35 with
          | zero => intro x4_30 H locs ls ws_31 hn_36 b_37 b_38 HE h hF_32 hl; exact ((o18_106 b_37 b_38 hn_36)).elim
          | succ n_35 ih_34 =>
            intro x4_30 H locs ls ws_31 hn_36 b_37 b_38 HE h hF_32 hl
            obtain ⟨R24, hR24⟩ : ∃ z, z = L8_X8_survey R15 n_35 := ⟨_, rfl⟩
            replace HE : FT = g9l_X8_survey R15 R24 (xso SC ad ws_31) a2.toInt x3_16.toInt x4_30.toInt := HE.trans (by rw [hR24]; rfl)
            refine lv_iload C0.1 C0.2.1 dX8_survey_24 (lv_at hl 0 rfl) ?_
            refine lv_aload_n C0.1 C0.2.1 dX8_survey_26 rfl (lv_at hl 2 rfl) ?_
            refine tg_X8_top C0 h kSC_83 q_318 dX8_survey_27 (fun v_39 e_40 e_41 e_42 => ?_)
            replace HE : FT = g10b_X8_survey R15 R24 (xso SC ad ws_31) v_39.toInt x4_30.toInt a2.toInt x3_16.toInt := HE.trans (by rw [(xg0 e_40 : v_39.toInt = (xso SC ad ws_31) 0 83 4)]; rfl)
            refine y_icmp_gt (tgt := 55) C0 dX8_survey_30 (by decide) (fun c_43 => ?_) (fun c_43 => ?_)
            · -- 30
              replace HE : FT = g11_X8_survey R15 (xso SC ad ws_31) a2.toInt x3_16.toInt := HE.trans (if_pos c_43)
              refine lv_iload_n C0.1 C0.2.1 dX8_survey_55 rfl (lv_at hl 1 rfl) ?_
              refine y_c2 (n := 60) C0 (by decide) dX8_survey_56 (fun v_44 e_45 => ?_)
              replace HE : FT = g13b_X8_survey R15 (xso SC ad ws_31) x3_16.toInt a2.toInt := HE.trans rfl
              refine y_icmp_ge (tgt := 68) C0 dX8_survey_58 (by decide) (fun c_46 => ?_) (fun c_46 => ?_)
              · -- 58
                replace HE : FT = g14_X8_survey R15 (xso SC ad ws_31) a2.toInt := HE.trans (if_neg (o18_320 b_23 b_24 hn_22 e_26 c_27 e_45 c_46))
                refine y_inc (kp := 1) (n := 1) (fun v_47 => [(3, .int v_47), (4, .int x4_30), (0, .ref (ad 83)), (1, .int a1), (2, .int a2)]) C0 hl rfl (by decide) (by decide) (fun _ => rfl) (o18_322 b_23 b_24 hn_22 e_26 c_27 e_45 c_46 (le_min x3_16) (le_max x3_16) (le_min v_25) (le_max v_25) (le_min v_44) (le_max v_44)) (o18_323 b_23 b_24 hn_22 e_26 c_27 e_45 c_46 (le_min x3_16) (le_max x3_16) (le_min v_25) (le_max v_25) (le_min v_44) (le_max v_44)) dX8_survey_68 (fun v_47 ls e_48 hl => ?_)
                refine lv_goto (tgt := 15) C0.1 C0.2.1 dX8_survey_71 (by decide) ?_
                exact ih_20 v_47 _ _ _ _ (o18_324 b_23 b_24 hn_22 e_26 c_27 e_45 c_46 e_48) (o18_325 b_23 b_24 hn_22 e_26 c_27 e_45 c_46 e_48) (o18_326 b_23 b_24 hn_22 e_26 c_27 e_45 c_46 e_48) (((show FT = R15 (xso SC ad ws_31) a2.toInt v_47.toInt from HE.trans (by rw [e_48, (o18_327 b_23 b_24 hn_22 e_26 c_27 e_45 c_46 e_48)]; rfl)).trans (by rw [hR15]))) h (Fr.tr hF_18 (Fr.mono hF_32 (by decide))) (lv_sub hl [0, 2, 3, 4] rfl)
              · -- 58
                replace HE : FT = g15_X8_survey R15 (xso SC ad ws_31) a2.toInt x3_16.toInt := HE.trans (if_pos (o18_321 b_23 b_24 hn_22 e_26 c_27 e_45 c_46))
                refine lv_aload_n C0.1 C0.2.1 dX8_survey_61 rfl (lv_at hl 2 rfl) ?_
                refine lv_iload_n C0.1 C0.2.1 dX8_survey_62 rfl (lv_at hl 1 rfl) ?_
                refine y_c1 (n := 0) C0 (by decide) dX8_survey_63 (fun v_49 e_50 => ?_)
                refine lv_iload_n C0.1 C0.2.1 dX8_survey_64 rfl (lv_at hl 4 rfl) ?_
                refine y_cv h (y_rV (As := [.int x3_16, .int v_49, .int a2]) (rest := []) C0 hZ h (c_X8_goOn l G Z ad _ h.2 x3_16 v_49 a2 (o18_328 b_23 b_24 hn_22 e_26 c_27 e_45 c_46) (o18_329 b_23 b_24 hn_22 e_26 c_27 e_45 c_46) (o18_104 l2 u2) (o18_105 l2 u2)) k_X8_goOn q_1092 q_34 q_1090 kSC_83 rfl rfl rfl hl.1 rfl rfl (Nat.le_of_ble_eq_true rfl) dX8_survey_65 ⟨Nat.le_of_ble_eq_true rfl, Nat.le_of_ble_eq_true rfl⟩ ⟨Nat.le_of_ble_eq_true rfl, Nat.le_of_ble_eq_true rfl⟩) (fun H locs ws_51 h u_52 p_53 => ?_)
                have e_54 := p_53
                replace HE : FT = g16c_X8_survey R15 (xso SC ad ws_51) a2.toInt x3_16.toInt := HE.trans (by rw [e_54, e_50]; rfl)
                refine y_inc (kp := 1) (n := 1) (fun v_55 => [(3, .int v_55), (4, .int x4_30), (0, .ref (ad 83)), (1, .int a1), (2, .int a2)]) C0 hl rfl (by decide) (by decide) (fun _ => rfl) (o18_330 b_23 b_24 hn_22 e_26 c_27 e_45 c_46 (le_min x3_16) (le_max x3_16) (le_min v_25) (le_max v_25) (le_min v_44) (le_max v_44)) (o18_331 b_23 b_24 hn_22 e_26 c_27 e_45 c_46 (le_min x3_16) (le_max x3_16) (le_min v_25) (le_max v_25) (le_min v_44) (le_max v_44)) dX8_survey_68 (fun v_55 ls e_56 hl => ?_)
                refine lv_goto (tgt := 15) C0.1 C0.2.1 dX8_survey_71 (by decide) ?_
                exact ih_20 v_55 _ _ _ _ (o18_332 b_23 b_24 hn_22 e_26 c_27 e_45 c_46 e_56) (o18_333 b_23 b_24 hn_22 e_26 c_27 e_45 c_46 e_56) (o18_334 b_23 b_24 hn_22 e_26 c_27 e_45 c_46 e_56) (((show FT = R15 (xso SC ad ws_51) a2.toInt v_55.toInt from HE.trans (by rw [e_56]; rfl)).trans (by rw [hR15]))) h (Fr.tr (Fr.tr hF_18 (Fr.mono hF_32 (by decide))) (Fr.mono u_52 (by decide))) (lv_sub hl [0, 2, 3, 4] rfl)
            · -- 30
              replace HE : FT = g12_X8_survey R15 R24 (xso SC ad ws_31) a2.toInt x3_16.toInt x4_30.toInt := HE.trans (if_neg (Int.not_lt.mpr c_43))
              refine lv_aload_n C0.1 C0.2.1 dX8_survey_33 rfl (lv_at hl 2 rfl) ?_
              refine tg_X8_reached C0 h kSC_83 q_320 dX8_survey_34 ?_
              refine lv_iload C0.1 C0.2.1 dX8_survey_37 (lv_at hl 0 rfl) ?_
              refine lv_dup2_11 C0.1 C0.2.1 dX8_survey_39 rfl rfl ?_
              refine y_iald C0 h kSC_86 rfl (by decide) (o18_335 b_37 b_38 hn_36 e_41 e_42 c_43) (o18_336 b_37 b_38 hn_36 e_41 e_42 c_43) dX8_survey_40 (fun v_57 e_58 e_59 e_60 => ?_)
              refine lv_aload_n C0.1 C0.2.1 dX8_survey_41 rfl (lv_at hl 2 rfl) ?_
              refine lv_iload C0.1 C0.2.1 dX8_survey_42 (lv_at hl 0 rfl) ?_
              refine y_ci h (y_rV (As := [.int x4_30]) (rest := [.int v_57, .int x4_30, .ref (ad 86)]) C0 hZ h (c_X8_anyHeading l G Z ad _ h.2 x4_30 (o18_335 b_37 b_38 hn_36 e_41 e_42 c_43) (o18_337 b_37 b_38 hn_36 e_41 e_42 c_43)) k_X8_anyHeading q_1088 q_33 q_1086 kSC_83 rfl rfl rfl hl.1 rfl rfl (Nat.le_of_ble_eq_true rfl) dX8_survey_44 ⟨Nat.le_of_ble_eq_true rfl, Nat.le_of_ble_eq_true rfl⟩ ⟨Nat.le_of_ble_eq_true rfl, Nat.le_of_ble_eq_true rfl⟩) (fun r_64 H locs ws_61 h u_62 p_63 => ?_)
              obtain ⟨e_65, e_66⟩ := p_63
              replace HE : FT = g17c_X8_survey R15 R24 (xso SC ad ws_61) r_64.toInt v_57.toInt x4_30.toInt a2.toInt x3_16.toInt := HE.trans (by rw [e_65, (xg1 e_58 : v_57.toInt = (xso SC ad ws_31) 1 86 x4_30.toInt.toNat), e_66]; rfl)
              refine xr_ior C0 dX8_survey_47 (fun v_67 e_68 => ?_)
              have hO_71 := h.2
              refine y_iast C0 h kSC_86 rfl (by decide) (o18_335 b_37 b_38 hn_36 e_41 e_42 c_43) (o18_336 b_37 b_38 hn_36 e_41 e_42 c_43) (le_min v_67) (le_max v_67) dX8_survey_48 (fun H locs ws_69 h u_70 => ?_)
              replace HE : FT = g18w_X8_survey R15 R24 (xso SC ad ws_69) a2.toInt x3_16.toInt x4_30.toInt := HE.trans (by rw [(xso_A (i := 86) hO_71 h.2 kSC_86 rfl u_70), e_68]; rfl)
              refine y_inc (kp := 0) (n := 1) (fun v_72 => [(4, .int v_72), (3, .int x3_16), (0, .ref (ad 83)), (1, .int a1), (2, .int a2)]) C0 hl rfl (by decide) (by decide) (fun _ => rfl) (o18_338 b_37 b_38 hn_36 e_41 e_42 c_43 (le_min x4_30) (le_max x4_30) (le_min v_39) (le_max v_39)) (o18_339 b_37 b_38 hn_36 e_41 e_42 c_43 (le_min x4_30) (le_max x4_30) (le_min v_39) (le_max v_39)) dX8_survey_49 (fun v_72 ls e_73 hl => ?_)
              refine lv_goto (tgt := 24) C0.1 C0.2.1 dX8_survey_52 (by decide) ?_
              exact ih_34 v_72 _ _ _ _ (o18_340 b_37 b_38 hn_36 e_41 e_42 c_43 e_73) (o18_341 b_37 b_38 hn_36 e_41 e_42 c_43 e_73) (o18_342 b_37 b_38 hn_36 e_41 e_42 c_43 e_73) (((show FT = R24 (xso SC ad ws_69) a2.toInt x3_16.toInt v_72.toInt from HE.trans (by rw [e_73]; rfl)).trans (by rw [hR24]))) h (Fr.tr (Fr.tr hF_32 (Fr.mono u_62 (by decide))) (Fr.up u_70.1 kSC_86 (by decide))) (lv_sub hl [0, 1, 2, 3, 4] rfl)
        exact lp_33 ((121 - v_28.toInt + 1).toNat) v_28 _ _ _ _ (o18_136 e_29) (o18_1 e_29) (o18_137 e_29) ((show FT = L8_X8_survey R15 (Int.toNat (121 - v_28.toInt + 1)) (xso SC ad ws_17) a2.toInt x3_16.toInt v_28.toInt from HE.trans (by rw [e_29]; rfl))) h Fr.rf (lv_sub hl [0, 1, 2, 3, 4] rfl)
  exact lp_19 ((61 - v_14.toInt + 1).toNat) v_14 _ _ _ _ (o18_278 e_15) (o18_1 e_15) (o18_279 e_15) ((show FT = L3_X8_survey (Int.toNat (61 - v_14.toInt + 1)) (xso SC ad ws_7) a2.toInt v_14.toInt from HE.trans (by rw [e_15]; rfl))) h Fr.rf (lv_sub hl [0, 1, 2, 3] rfl)
noncomputable def g5_X8_reachable (s : XS) (x3_10 : Int) : XR := (s, x3_10)
noncomputable def g6_X8_reachable (R11 : XS → Int → Int → Int → XR) (s : XS) (a2 : Int) (x3_10 : Int) (x4_9 : Int) : XR := R11 s a2 ((Xior x3_10 (s 1 86 (Int.toNat x4_9)))) ((x4_9 + 1))
noncomputable def g4b_X8_reachable (R11 : XS → Int → Int → Int → XR) (s : XS) (a2 : Int) (x4_9 : Int) (x3_10 : Int) : XR := if a2 < x4_9 then g5_X8_reachable s x3_10 else g6_X8_reachable R11 s a2 x3_10 x4_9
noncomputable def g3l_X8_reachable (R11 : XS → Int → Int → Int → XR) (s : XS) (a2 : Int) (x3_10 : Int) (x4_9 : Int) : XR := g4b_X8_reachable R11 s a2 x4_9 x3_10
noncomputable def L2_X8_reachable (n : Nat) : XS → Int → Int → Int → XR := Nat.rec (motive := fun _ => XS → Int → Int → Int → XR) (fun s _ _ _ => (s, 0)) (fun _ R11 => g3l_X8_reachable R11) n
noncomputable def g1c_X8_reachable (s : XS) (a2 : Int) : XR := L2_X8_reachable (Int.toNat (121 - 0 + 1)) s a2 0 0
noncomputable def f_X8_reachable (s : XS) (a1 : Int) (a2 : Int) : XR := g1c_X8_reachable ((f_X8_survey s a1 a2).1) a2
set_option maxHeartbeats 4000000 in
set_option maxRecDepth 100000 in
theorem c_X8_reachable (l : Launch) (G : GG) (Z : RZ) (ad : Nat → Nat) (ws0 : va_W) (hT : Ty G SC ad ws0) (a1 : Int32) (a2 : Int32) (l1 : 0 ≤ a1.toInt) (u1 : a1.toInt ≤ 99) (l2 : 0 ≤ a2.toInt) (u2 : a2.toInt ≤ 120) : Mq l yX8_reachable cX8_reachable 5 (some .int) 7 G Z [.ref (ad 83), .int a1, .int a2] ws0 (PI G SC ad [4, 5, 18, 19, 20, 21, 22, 23, 24] ws0 (fun r u => (xso SC ad u = (f_X8_reachable (xso SC ad ws0) a1.toInt a2.toInt).1) ∧ (r.toInt = (f_X8_reachable (xso SC ad ws0) a1.toInt a2.toInt).2))) := by
  refine Mq.start (by decide) (Nat.le_of_ble_eq_true rfl) ?_
  intro p e s m below meth c A ls C0 hZ h hl
  have hl : lv_has ls 5 [(0, .ref (ad 83)), (1, .int a1), (2, .int a2)] := hl
  have h : Wt G SC ad A s s.heap [] ws0 := ⟨h, hT⟩
  obtain ⟨args, hargs⟩ : ∃ z, z = ([.ref (ad 83), .int a1, .int a2] : List Value).toArray := ⟨_, rfl⟩
  rw [← hargs] at C0 ⊢
  have C0 : Cx p s m args meth c RX8 cX8_reachable 5 (some .int) := C0
  obtain ⟨Q, hQ⟩ : ∃ z, z = MQ below ((PI G SC ad [4, 5, 18, 19, 20, 21, 22, 23, 24] ws0 (fun r u => (xso SC ad u = (f_X8_reachable (xso SC ad ws0) a1.toInt a2.toInt).1) ∧ (r.toInt = (f_X8_reachable (xso SC ad ws0) a1.toInt a2.toInt).2))) A) args s 0 0 A := ⟨_, rfl⟩
  rw [← hQ]
  obtain ⟨FT, hFT⟩ : ∃ z, z = f_X8_reachable (xso SC ad ws0) a1.toInt a2.toInt := ⟨_, rfl⟩
  have HE : FT = f_X8_reachable (xso SC ad ws0) a1.toInt a2.toInt := hFT
  refine lv_aload_n C0.1 C0.2.1 dX8_reachable_0 rfl (lv_at hl 0 rfl) ?_
  refine lv_iload_n C0.1 C0.2.1 dX8_reachable_1 rfl (lv_at hl 1 rfl) ?_
  refine lv_iload_n C0.1 C0.2.1 dX8_reachable_2 rfl (lv_at hl 2 rfl) ?_
  refine y_cv h (y_rV (As := [.int a1, .int a2]) (rest := []) C0 hZ h (c_X8_survey l G Z ad _ h.2 a1 a2 (o18_260 l1 u1) (o18_261 l1 u1) (o18_104 l2 u2) (o18_105 l2 u2)) k_X8_survey q_1254 q_49 q_1252 kSC_83 rfl rfl rfl hl.1 rfl rfl (Nat.le_of_ble_eq_true rfl) dX8_reachable_3 ⟨Nat.le_of_ble_eq_true rfl, Nat.le_of_ble_eq_true rfl⟩ ⟨Nat.le_of_ble_eq_true rfl, Nat.le_of_ble_eq_true rfl⟩) (fun H locs ws_1 h u_2 p_3 => ?_)
  have e_4 := p_3
  replace HE : FT = g1c_X8_reachable (xso SC ad ws_1) a2.toInt := HE.trans (by rw [e_4]; rfl)
  refine y_c1 (n := 0) C0 (by decide) dX8_reachable_6 (fun v_5 e_6 => ?_)
  refine lv_istore_n (lv' := [(3, .int v_5), (0, .ref (ad 83)), (1, .int a1), (2, .int a2)]) C0.1 C0.2.1 dX8_reachable_7 rfl hl (by decide) rfl (fun ls hl => ?_)
  refine y_c1 (n := 0) C0 (by decide) dX8_reachable_8 (fun v_7 e_8 => ?_)
  refine lv_istore (lv' := [(4, .int v_7), (3, .int v_5), (0, .ref (ad 83)), (1, .int a1), (2, .int a2)]) C0.1 C0.2.1 dX8_reachable_9 hl (by decide) rfl (fun ls hl => ?_)
  have lp_13 : ∀ (n_15 : Nat) (x4_9 : Int32) (x3_10 : Int32) (H : Heap) (locs : List Loc) (ls : Array Slot) (ws_11 : va_W), 121 - x4_9.toInt < (n_15 : Int) → 0 ≤ x4_9.toInt → x4_9.toInt ≤ 121 → (FT = L2_X8_reachable n_15 (xso SC ad ws_11) a2.toInt x3_10.toInt x4_9.toInt) → Wt G SC ad A s H locs ws_11 → Fr SC [] ws_1 ws_11 → lv_has ls 5 [(4, .int x4_9), (3, .int x3_10), (0, .ref (ad 83)), (1, .int a1), (2, .int a2)] → W p l e (rmd 7 0 0) s m args below meth c H locs 0 0 Q (F0 m 11 ls []) := by
    intro n_15
    induction n_15 with
    | zero => intro x4_9 x3_10 H locs ls ws_11 hn_16 b_17 b_18 HE h hF_12 hl; exact ((o18_106 b_17 b_18 hn_16)).elim
    | succ n_15 ih_14 =>
      intro x4_9 x3_10 H locs ls ws_11 hn_16 b_17 b_18 HE h hF_12 hl
      obtain ⟨R11, hR11⟩ : ∃ z, z = L2_X8_reachable n_15 := ⟨_, rfl⟩
      replace HE : FT = g3l_X8_reachable R11 (xso SC ad ws_11) a2.toInt x3_10.toInt x4_9.toInt := HE.trans (by rw [hR11]; rfl)
      refine lv_iload C0.1 C0.2.1 dX8_reachable_11 (lv_at hl 0 rfl) ?_
      refine lv_iload_n C0.1 C0.2.1 dX8_reachable_13 rfl (lv_at hl 4 rfl) ?_
      replace HE : FT = g4b_X8_reachable R11 (xso SC ad ws_11) a2.toInt x4_9.toInt x3_10.toInt := HE.trans rfl
      refine y_icmp_gt (tgt := 33) C0 dX8_reachable_14 (by decide) (fun c_19 => ?_) (fun c_19 => ?_)
      · -- 14
        replace HE : FT = g5_X8_reachable (xso SC ad ws_11) x3_10.toInt := HE.trans (if_pos c_19)
        refine lv_iload_n C0.1 C0.2.1 dX8_reachable_33 rfl (lv_at hl 1 rfl) ?_
        replace HE : FT = ((xso SC ad ws_11), x3_10.toInt) := HE.trans rfl
        rw [hQ]
        exact y_iret C0 h (Fr.tr u_2 (Fr.mono hF_12 (by decide))) ⟨(congrArg Prod.fst (HE.symm.trans hFT)), (congrArg Prod.snd (HE.symm.trans hFT))⟩ dX8_reachable_34
      · -- 14
        replace HE : FT = g6_X8_reachable R11 (xso SC ad ws_11) a2.toInt x3_10.toInt x4_9.toInt := HE.trans (if_neg (Int.not_lt.mpr c_19))
        refine lv_iload_n C0.1 C0.2.1 dX8_reachable_17 rfl (lv_at hl 1 rfl) ?_
        refine lv_aload_n C0.1 C0.2.1 dX8_reachable_18 rfl (lv_at hl 2 rfl) ?_
        refine tg_X8_reached C0 h kSC_83 q_320 dX8_reachable_19 ?_
        refine lv_iload C0.1 C0.2.1 dX8_reachable_22 (lv_at hl 0 rfl) ?_
        refine y_iald C0 h kSC_86 rfl (by decide) (o18_343 l2 u2 b_17 b_18 hn_16 c_19) (o18_344 l2 u2 b_17 b_18 hn_16 c_19) dX8_reachable_24 (fun v_20 e_21 e_22 e_23 => ?_)
        refine xr_ior C0 dX8_reachable_25 (fun v_24 e_25 => ?_)
        refine lv_istore_n (lv' := [(3, .int v_24), (4, .int x4_9), (0, .ref (ad 83)), (1, .int a1), (2, .int a2)]) C0.1 C0.2.1 dX8_reachable_26 rfl hl (by decide) rfl (fun ls hl => ?_)
        refine y_inc (kp := 1) (n := 1) (fun v_26 => [(4, .int v_26), (3, .int v_24), (0, .ref (ad 83)), (1, .int a1), (2, .int a2)]) C0 hl rfl (by decide) (by decide) (fun _ => rfl) (o18_345 l2 u2 b_17 b_18 hn_16 c_19 (le_min x4_9) (le_max x4_9) (le_min a2) (le_max a2)) (o18_346 l2 u2 b_17 b_18 hn_16 c_19 (le_min x4_9) (le_max x4_9) (le_min a2) (le_max a2)) dX8_reachable_27 (fun v_26 ls e_27 hl => ?_)
        refine lv_goto (tgt := 11) C0.1 C0.2.1 dX8_reachable_30 (by decide) ?_
        exact ih_14 v_26 v_24 _ _ _ _ (o18_347 l2 u2 b_17 b_18 hn_16 c_19 e_27) (o18_348 l2 u2 b_17 b_18 hn_16 c_19 e_27) (o18_349 l2 u2 b_17 b_18 hn_16 c_19 e_27) (((show FT = R11 (xso SC ad ws_11) a2.toInt v_24.toInt v_26.toInt from HE.trans (by rw [e_27, e_25, (xg1 e_21 : v_20.toInt = (xso SC ad ws_11) 1 86 x4_9.toInt.toNat)]; rfl)).trans (by rw [hR11]))) h hF_12 (lv_sub hl [0, 1, 2, 3, 4] rfl)
  exact lp_13 ((121 - v_7.toInt + 1).toNat) v_7 v_5 _ _ _ _ (o18_136 e_8) (o18_1 e_8) (o18_137 e_8) ((show FT = L2_X8_reachable (Int.toNat (121 - v_7.toInt + 1)) (xso SC ad ws_1) a2.toInt v_5.toInt v_7.toInt from HE.trans (by rw [e_8, e_6]; rfl))) h Fr.rf (lv_sub hl [0, 1, 2, 3, 4] rfl)
noncomputable def g5_X8_leastForAll (s : XS) (x3_14 : Int) : XR := (s, x3_14)
noncomputable def g8_X8_leastForAll (R14 : XS → Int → Int → Int → XR) (s : XS) (x2_15 : Int) (x3_14 : Int) (x4_13 : Int) : XR := R14 s x2_15 x3_14 ((x4_13 + 1))
noncomputable def g9_X8_leastForAll (R14 : XS → Int → Int → Int → XR) (s : XS) (x2_15 : Int) (x4_13 : Int) : XR := R14 s ((Xior x2_15 (s 1 86 (Int.toNat x4_13)))) x4_13 ((x4_13 + 1))
noncomputable def g7b_X8_leastForAll (R14 : XS → Int → Int → Int → XR) (s : XS) (v_37 : Int) (x2_15 : Int) (x3_14 : Int) (x4_13 : Int) : XR := if v_37 = 0 then g8_X8_leastForAll R14 s x2_15 x3_14 x4_13 else g9_X8_leastForAll R14 s x2_15 x4_13
noncomputable def g6_X8_leastForAll (R14 : XS → Int → Int → Int → XR) (s : XS) (x2_15 : Int) (x3_14 : Int) (x4_13 : Int) : XR := g7b_X8_leastForAll R14 s ((Xiand (s 1 86 (Int.toNat x4_13)) (Xixor x2_15 ((-1))))) x2_15 x3_14 x4_13
noncomputable def g4b_X8_leastForAll (R14 : XS → Int → Int → Int → XR) (s : XS) (x4_13 : Int) (x2_15 : Int) (x3_14 : Int) : XR := if 120 < x4_13 then g5_X8_leastForAll s x3_14 else g6_X8_leastForAll R14 s x2_15 x3_14 x4_13
noncomputable def g3l_X8_leastForAll (R14 : XS → Int → Int → Int → XR) (s : XS) (x2_15 : Int) (x3_14 : Int) (x4_13 : Int) : XR := g4b_X8_leastForAll R14 s x4_13 x2_15 x3_14
noncomputable def L2_X8_leastForAll (n : Nat) : XS → Int → Int → Int → XR := Nat.rec (motive := fun _ => XS → Int → Int → Int → XR) (fun s _ _ _ => (s, 0)) (fun _ R14 => g3l_X8_leastForAll R14) n
noncomputable def g1c_X8_leastForAll (s : XS) : XR := L2_X8_leastForAll (Int.toNat (121 - 0 + 1)) s 0 0 0
noncomputable def f_X8_leastForAll (s : XS) (a1 : Int) : XR := g1c_X8_leastForAll ((f_X8_survey s a1 120).1)
set_option maxHeartbeats 4000000 in
set_option maxRecDepth 100000 in
theorem c_X8_leastForAll (l : Launch) (G : GG) (Z : RZ) (ad : Nat → Nat) (ws0 : va_W) (hT : Ty G SC ad ws0) (a1 : Int32) (l1 : 0 ≤ a1.toInt) (u1 : a1.toInt ≤ 99) : Mq l yX8_leastForAll cX8_leastForAll 5 (some .int) 7 G Z [.ref (ad 83), .int a1] ws0 (PI G SC ad [4, 5, 18, 19, 20, 21, 22, 23, 24] ws0 (fun r u => (xso SC ad u = (f_X8_leastForAll (xso SC ad ws0) a1.toInt).1) ∧ (r.toInt = (f_X8_leastForAll (xso SC ad ws0) a1.toInt).2) ∧ (0 ≤ r.toInt) ∧ (r.toInt ≤ 120))) := by
  refine Mq.start (by decide) (Nat.le_of_ble_eq_true rfl) ?_
  intro p e s m below meth c A ls C0 hZ h hl
  have hl : lv_has ls 5 [(0, .ref (ad 83)), (1, .int a1)] := hl
  have h : Wt G SC ad A s s.heap [] ws0 := ⟨h, hT⟩
  obtain ⟨args, hargs⟩ : ∃ z, z = ([.ref (ad 83), .int a1] : List Value).toArray := ⟨_, rfl⟩
  rw [← hargs] at C0 ⊢
  have C0 : Cx p s m args meth c RX8 cX8_leastForAll 5 (some .int) := C0
  obtain ⟨Q, hQ⟩ : ∃ z, z = MQ below ((PI G SC ad [4, 5, 18, 19, 20, 21, 22, 23, 24] ws0 (fun r u => (xso SC ad u = (f_X8_leastForAll (xso SC ad ws0) a1.toInt).1) ∧ (r.toInt = (f_X8_leastForAll (xso SC ad ws0) a1.toInt).2) ∧ (0 ≤ r.toInt) ∧ (r.toInt ≤ 120))) A) args s 0 0 A := ⟨_, rfl⟩
  rw [← hQ]
  obtain ⟨FT, hFT⟩ : ∃ z, z = f_X8_leastForAll (xso SC ad ws0) a1.toInt := ⟨_, rfl⟩
  have HE : FT = f_X8_leastForAll (xso SC ad ws0) a1.toInt := hFT
  refine lv_aload_n C0.1 C0.2.1 dX8_leastForAll_0 rfl (lv_at hl 0 rfl) ?_
  refine lv_iload_n C0.1 C0.2.1 dX8_leastForAll_1 rfl (lv_at hl 1 rfl) ?_
  refine y_c2 (n := 120) C0 (by decide) dX8_leastForAll_2 (fun v_1 e_2 => ?_)
  refine y_cv h (y_rV (As := [.int a1, .int v_1]) (rest := []) C0 hZ h (c_X8_survey l G Z ad _ h.2 a1 v_1 (o18_260 l1 u1) (o18_261 l1 u1) (o18_350 e_2) (o18_314 e_2)) k_X8_survey q_1254 q_49 q_1252 kSC_83 rfl rfl rfl hl.1 rfl rfl (Nat.le_of_ble_eq_true rfl) dX8_leastForAll_4 ⟨Nat.le_of_ble_eq_true rfl, Nat.le_of_ble_eq_true rfl⟩ ⟨Nat.le_of_ble_eq_true rfl, Nat.le_of_ble_eq_true rfl⟩) (fun H locs ws_3 h u_4 p_5 => ?_)
  have e_6 := p_5
  replace HE : FT = g1c_X8_leastForAll (xso SC ad ws_3) := HE.trans (by rw [e_6, e_2]; rfl)
  refine y_c1 (n := 0) C0 (by decide) dX8_leastForAll_7 (fun v_7 e_8 => ?_)
  refine lv_istore_n (lv' := [(2, .int v_7), (0, .ref (ad 83)), (1, .int a1)]) C0.1 C0.2.1 dX8_leastForAll_8 rfl hl (by decide) rfl (fun ls hl => ?_)
  refine y_c1 (n := 0) C0 (by decide) dX8_leastForAll_9 (fun v_9 e_10 => ?_)
  refine lv_istore_n (lv' := [(3, .int v_9), (2, .int v_7), (0, .ref (ad 83)), (1, .int a1)]) C0.1 C0.2.1 dX8_leastForAll_10 rfl hl (by decide) rfl (fun ls hl => ?_)
  refine y_c1 (n := 0) C0 (by decide) dX8_leastForAll_11 (fun v_11 e_12 => ?_)
  refine lv_istore (lv' := [(4, .int v_11), (3, .int v_9), (2, .int v_7), (0, .ref (ad 83)), (1, .int a1)]) C0.1 C0.2.1 dX8_leastForAll_12 hl (by decide) rfl (fun ls hl => ?_)
  have lp_18 : ∀ (n_20 : Nat) (x4_13 : Int32) (x3_14 : Int32) (x2_15 : Int32) (H : Heap) (locs : List Loc) (ls : Array Slot) (ws_16 : va_W), 121 - x4_13.toInt < (n_20 : Int) → 0 ≤ x4_13.toInt → x4_13.toInt ≤ 121 → 0 ≤ x3_14.toInt → x3_14.toInt ≤ 120 → (FT = L2_X8_leastForAll n_20 (xso SC ad ws_16) x2_15.toInt x3_14.toInt x4_13.toInt) → Wt G SC ad A s H locs ws_16 → Fr SC [] ws_3 ws_16 → lv_has ls 5 [(4, .int x4_13), (3, .int x3_14), (2, .int x2_15), (0, .ref (ad 83)), (1, .int a1)] → W p l e (rmd 7 0 0) s m args below meth c H locs 0 0 Q (F0 m 14 ls []) := by
    intro n_20
    induction n_20 with
    | zero => intro x4_13 x3_14 x2_15 H locs ls ws_16 hn_21 b_22 b_23 b_24 b_25 HE h hF_17 hl; exact ((o18_106 b_22 b_23 hn_21)).elim
    | succ n_20 ih_19 =>
      intro x4_13 x3_14 x2_15 H locs ls ws_16 hn_21 b_22 b_23 b_24 b_25 HE h hF_17 hl
      obtain ⟨R14, hR14⟩ : ∃ z, z = L2_X8_leastForAll n_20 := ⟨_, rfl⟩
      replace HE : FT = g3l_X8_leastForAll R14 (xso SC ad ws_16) x2_15.toInt x3_14.toInt x4_13.toInt := HE.trans (by rw [hR14]; rfl)
      refine lv_iload C0.1 C0.2.1 dX8_leastForAll_14 (lv_at hl 0 rfl) ?_
      refine y_c2 (n := 120) C0 (by decide) dX8_leastForAll_16 (fun v_26 e_27 => ?_)
      replace HE : FT = g4b_X8_leastForAll R14 (xso SC ad ws_16) x4_13.toInt x2_15.toInt x3_14.toInt := HE.trans rfl
      refine y_icmp_gt (tgt := 54) C0 dX8_leastForAll_18 (by decide) (fun c_28 => ?_) (fun c_28 => ?_)
      · -- 18
        replace HE : FT = g5_X8_leastForAll (xso SC ad ws_16) x3_14.toInt := HE.trans (if_pos (o18_352 b_22 b_23 hn_21 e_27 c_28))
        refine lv_iload_n C0.1 C0.2.1 dX8_leastForAll_54 rfl (lv_at hl 1 rfl) ?_
        replace HE : FT = ((xso SC ad ws_16), x3_14.toInt) := HE.trans rfl
        rw [hQ]
        exact y_iret C0 h (Fr.tr u_4 (Fr.mono hF_17 (by decide))) ⟨(congrArg Prod.fst (HE.symm.trans hFT)), (congrArg Prod.snd (HE.symm.trans hFT)), (o18_104 b_24 b_25), (o18_105 b_24 b_25)⟩ dX8_leastForAll_55
      · -- 18
        replace HE : FT = g6_X8_leastForAll R14 (xso SC ad ws_16) x2_15.toInt x3_14.toInt x4_13.toInt := HE.trans (if_neg (o18_353 b_22 b_23 hn_21 e_27 c_28))
        refine lv_aload_n C0.1 C0.2.1 dX8_leastForAll_21 rfl (lv_at hl 3 rfl) ?_
        refine tg_X8_reached C0 h kSC_83 q_320 dX8_leastForAll_22 ?_
        refine lv_iload C0.1 C0.2.1 dX8_leastForAll_25 (lv_at hl 0 rfl) ?_
        refine y_iald C0 h kSC_86 rfl (by decide) (o18_354 b_22 b_23 hn_21 e_27 c_28) (o18_355 b_22 b_23 hn_21 e_27 c_28) dX8_leastForAll_27 (fun v_29 e_30 e_31 e_32 => ?_)
        refine lv_iload_n C0.1 C0.2.1 dX8_leastForAll_28 rfl (lv_at hl 2 rfl) ?_
        refine y_c1 (n := (-1)) C0 (by decide) dX8_leastForAll_29 (fun v_33 e_34 => ?_)
        refine xr_ixor C0 dX8_leastForAll_30 (fun v_35 e_36 => ?_)
        refine xr_iand C0 dX8_leastForAll_31 (fun v_37 e_38 => ?_)
        replace HE : FT = g7b_X8_leastForAll R14 (xso SC ad ws_16) v_37.toInt x2_15.toInt x3_14.toInt x4_13.toInt := HE.trans (by rw [e_38, e_36, e_34, (xg1 e_30 : v_29.toInt = (xso SC ad ws_16) 1 86 x4_13.toInt.toNat)]; rfl)
        refine y_if_eq (tgt := 48) C0 dX8_leastForAll_32 (by decide) (fun c_39 => ?_) (fun c_39 => ?_)
        · -- 32
          replace HE : FT = g8_X8_leastForAll R14 (xso SC ad ws_16) x2_15.toInt x3_14.toInt x4_13.toInt := HE.trans (if_pos c_39)
          refine y_inc (kp := 0) (n := 1) (fun v_40 => [(4, .int v_40), (3, .int x3_14), (2, .int x2_15), (0, .ref (ad 83)), (1, .int a1)]) C0 hl rfl (by decide) (by decide) (fun _ => rfl) (o18_356 b_22 b_23 hn_21 e_27 c_28 (le_min x4_13) (le_max x4_13) (le_min v_26) (le_max v_26)) (o18_357 b_22 b_23 hn_21 e_27 c_28 (le_min x4_13) (le_max x4_13) (le_min v_26) (le_max v_26)) dX8_leastForAll_48 (fun v_40 ls e_41 hl => ?_)
          refine lv_goto (tgt := 14) C0.1 C0.2.1 dX8_leastForAll_51 (by decide) ?_
          exact ih_19 v_40 x3_14 x2_15 _ _ _ _ (o18_358 b_22 b_23 hn_21 e_27 c_28 e_41) (o18_359 b_22 b_23 hn_21 e_27 c_28 e_41) (o18_360 b_22 b_23 hn_21 e_27 c_28 e_41) (o18_104 b_24 b_25) (o18_105 b_24 b_25) (((show FT = R14 (xso SC ad ws_16) x2_15.toInt x3_14.toInt v_40.toInt from HE.trans (by rw [e_41]; rfl)).trans (by rw [hR14]))) h hF_17 (lv_sub hl [0, 1, 2, 3, 4] rfl)
        · -- 32
          replace HE : FT = g9_X8_leastForAll R14 (xso SC ad ws_16) x2_15.toInt x4_13.toInt := HE.trans (if_neg c_39)
          refine lv_iload_n C0.1 C0.2.1 dX8_leastForAll_35 rfl (lv_at hl 2 rfl) ?_
          refine lv_aload_n C0.1 C0.2.1 dX8_leastForAll_36 rfl (lv_at hl 3 rfl) ?_
          refine tg_X8_reached C0 h kSC_83 q_320 dX8_leastForAll_37 ?_
          refine lv_iload C0.1 C0.2.1 dX8_leastForAll_40 (lv_at hl 0 rfl) ?_
          refine y_iald C0 h kSC_86 rfl (by decide) (o18_354 b_22 b_23 hn_21 e_27 c_28) (o18_355 b_22 b_23 hn_21 e_27 c_28) dX8_leastForAll_42 (fun v_42 e_43 e_44 e_45 => ?_)
          have qh_46 : v_42.toInt = v_29.toInt := congrArg Int32.toInt (e_43.symm.trans (Eq.trans rfl e_30))
          refine xr_ior C0 dX8_leastForAll_43 (fun v_47 e_48 => ?_)
          refine lv_istore_n (lv' := [(2, .int v_47), (4, .int x4_13), (3, .int x3_14), (0, .ref (ad 83)), (1, .int a1)]) C0.1 C0.2.1 dX8_leastForAll_44 rfl hl (by decide) rfl (fun ls hl => ?_)
          refine lv_iload C0.1 C0.2.1 dX8_leastForAll_45 (lv_at hl 1 rfl) ?_
          refine lv_istore_n (lv' := [(3, .int x4_13), (2, .int v_47), (4, .int x4_13), (0, .ref (ad 83)), (1, .int a1)]) C0.1 C0.2.1 dX8_leastForAll_47 rfl hl (by decide) rfl (fun ls hl => ?_)
          refine y_inc (kp := 2) (n := 1) (fun v_49 => [(4, .int v_49), (3, .int x4_13), (2, .int v_47), (0, .ref (ad 83)), (1, .int a1)]) C0 hl rfl (by decide) (by decide) (fun _ => rfl) (o18_356 b_22 b_23 hn_21 e_27 c_28 (le_min x4_13) (le_max x4_13) (le_min v_26) (le_max v_26)) (o18_357 b_22 b_23 hn_21 e_27 c_28 (le_min x4_13) (le_max x4_13) (le_min v_26) (le_max v_26)) dX8_leastForAll_48 (fun v_49 ls e_50 hl => ?_)
          refine lv_goto (tgt := 14) C0.1 C0.2.1 dX8_leastForAll_51 (by decide) ?_
          exact ih_19 v_49 x4_13 v_47 _ _ _ _ (o18_358 b_22 b_23 hn_21 e_27 c_28 e_50) (o18_359 b_22 b_23 hn_21 e_27 c_28 e_50) (o18_360 b_22 b_23 hn_21 e_27 c_28 e_50) (o18_361 b_22 b_23 hn_21 e_27 c_28 e_50) (o18_362 b_22 b_23 hn_21 e_27 c_28 e_50) (((show FT = R14 (xso SC ad ws_16) v_47.toInt x4_13.toInt v_49.toInt from HE.trans (by rw [e_50, e_48, (xg1 e_43 : v_42.toInt = (xso SC ad ws_16) 1 86 x4_13.toInt.toNat)]; rfl)).trans (by rw [hR14]))) h hF_17 (lv_sub hl [0, 1, 2, 3, 4] rfl)
  exact lp_18 ((121 - v_11.toInt + 1).toNat) v_11 v_9 v_7 _ _ _ _ (o18_136 e_12) (o18_1 e_12) (o18_137 e_12) (o18_1 e_10) (o18_92 e_10) ((show FT = L2_X8_leastForAll (Int.toNat (121 - v_11.toInt + 1)) (xso SC ad ws_3) v_7.toInt v_9.toInt v_11.toInt from HE.trans (by rw [e_12, e_10, e_8]; rfl))) h Fr.rf (lv_sub hl [0, 1, 2, 3, 4] rfl)
noncomputable def g9_X8_leftByRights (s : XS) : XR := (s, ((-1)))
noncomputable def g15_X8_leftByRights (R29 : XS → Int → Int → XR) (s : XS) (r_16 : Int) (x3_32 : Int) : XR := R29 s r_16 ((x3_32 + 1))
noncomputable def g16_X8_leftByRights (s : XS) (x3_32 : Int) : XR := (s, x3_32)
noncomputable def g14b_X8_leftByRights (R29 : XS → Int → Int → XR) (s : XS) (v_71 : Int) (r_16 : Int) (x3_32 : Int) : XR := if v_71 = 0 then g15_X8_leftByRights R29 s r_16 x3_32 else g16_X8_leftByRights s x3_32
noncomputable def g13c_X8_leftByRights (R29 : XS → Int → Int → XR) (s : XS) (r_64 : Int) (r_16 : Int) (x3_32 : Int) : XR := g14b_X8_leftByRights R29 s ((Xiand (Xishr r_64 r_16) 1)) r_16 x3_32
noncomputable def g12c_X8_leftByRights (R29 : XS → Int → Int → XR) (s : XS) (r_16 : Int) (x3_32 : Int) : XR := g13c_X8_leftByRights R29 ((f_X8_anyHeading s 0).1) (((f_X8_anyHeading s 0).2)) r_16 x3_32
noncomputable def g11c_X8_leftByRights (R29 : XS → Int → Int → XR) (s : XS) (r_16 : Int) (x3_32 : Int) : XR := g12c_X8_leftByRights R29 ((f_X8_change s 0).1) r_16 x3_32
noncomputable def g10_X8_leftByRights (R29 : XS → Int → Int → XR) (s : XS) (r_16 : Int) (x3_32 : Int) : XR := g11c_X8_leftByRights R29 ((f_X8_goByRights s 0).1) r_16 x3_32
noncomputable def g8b_X8_leftByRights (R29 : XS → Int → Int → XR) (s : XS) (x3_32 : Int) (r_16 : Int) : XR := if 60 < x3_32 then g9_X8_leftByRights s else g10_X8_leftByRights R29 s r_16 x3_32
noncomputable def g7l_X8_leftByRights (R29 : XS → Int → Int → XR) (s : XS) (r_16 : Int) (x3_32 : Int) : XR := g8b_X8_leftByRights R29 s x3_32 r_16
noncomputable def L6_X8_leftByRights (n : Nat) : XS → Int → Int → XR := Nat.rec (motive := fun _ => XS → Int → Int → XR) (fun s _ _ => (s, 0)) (fun _ R29 => g7l_X8_leftByRights R29) n
noncomputable def g5c_X8_leftByRights (s : XS) (r_16 : Int) : XR := L6_X8_leftByRights (Int.toNat (61 - 1 + 1)) s r_16 1
noncomputable def g3_X8_leftByRights (s : XS) (a1 : Int) (r_16 : Int) : XR := g5c_X8_leftByRights ((f_X8_begin s a1).1) r_16
noncomputable def g4_X8_leftByRights (s : XS) : XR := (s, ((-1)))
noncomputable def g2b_X8_leftByRights (s : XS) (r_16 : Int) (a1 : Int) : XR := if r_16 < 0 then g4_X8_leftByRights s else g3_X8_leftByRights s a1 r_16
noncomputable def g1c_X8_leftByRights (s : XS) (r_16 : Int) (a1 : Int) : XR := g2b_X8_leftByRights s r_16 a1
noncomputable def f_X8_leftByRights (s : XS) (a1 : Int) : XR := g1c_X8_leftByRights ((f_X0_to s 1 (a1 / 4) (Xiand (a1 + 3) 3)).1) (((f_X0_to s 1 (a1 / 4) (Xiand (a1 + 3) 3)).2)) a1
set_option maxHeartbeats 4000000 in
set_option maxRecDepth 100000 in
theorem c_X8_leftByRights (l : Launch) (G : GG) (Z : RZ) (ad : Nat → Nat) (ws0 : va_W) (hT : Ty G SC ad ws0) (a1 : Int32) (l1 : 0 ≤ a1.toInt) (u1 : a1.toInt ≤ 99) (hR : Rel ws0) : Mq l yX8_leftByRights cX8_leftByRights 4 (some .int) 3 G Z [.ref (ad 83), .int a1] ws0 (PI G SC ad [22, 23] ws0 (fun r u => (xso SC ad u = (f_X8_leftByRights (xso SC ad ws0) a1.toInt).1) ∧ (r.toInt = (f_X8_leftByRights (xso SC ad ws0) a1.toInt).2) ∧ ((-1) ≤ r.toInt) ∧ (r.toInt ≤ 60))) := by
  refine Mq.start (by decide) (Nat.le_of_ble_eq_true rfl) ?_
  intro p e s m below meth c A ls C0 hZ h hl
  have hl : lv_has ls 4 [(0, .ref (ad 83)), (1, .int a1)] := hl
  have h : Wt G SC ad A s s.heap [] ws0 := ⟨h, hT⟩
  obtain ⟨args, hargs⟩ : ∃ z, z = ([.ref (ad 83), .int a1] : List Value).toArray := ⟨_, rfl⟩
  rw [← hargs] at C0 ⊢
  have C0 : Cx p s m args meth c RX8 cX8_leftByRights 4 (some .int) := C0
  obtain ⟨Q, hQ⟩ : ∃ z, z = MQ below ((PI G SC ad [22, 23] ws0 (fun r u => (xso SC ad u = (f_X8_leftByRights (xso SC ad ws0) a1.toInt).1) ∧ (r.toInt = (f_X8_leftByRights (xso SC ad ws0) a1.toInt).2) ∧ ((-1) ≤ r.toInt) ∧ (r.toInt ≤ 60))) A) args s 0 0 A := ⟨_, rfl⟩
  rw [← hQ]
  obtain ⟨FT, hFT⟩ : ∃ z, z = f_X8_leftByRights (xso SC ad ws0) a1.toInt := ⟨_, rfl⟩
  have HE : FT = f_X8_leftByRights (xso SC ad ws0) a1.toInt := hFT
  refine lv_aload_n C0.1 C0.2.1 dX8_leftByRights_0 rfl (lv_at hl 0 rfl) ?_
  refine tg_X8_city C0 h kSC_83 q_314 dX8_leftByRights_1 ?_
  refine lv_iload_n C0.1 C0.2.1 dX8_leftByRights_4 rfl (lv_at hl 1 rfl) ?_
  refine y_c1 (n := 2) C0 (by decide) dX8_leftByRights_5 (fun v_1 e_2 => ?_)
  refine y_shr 2 2 (n := 4) C0 (Eq.trans (o18_71 e_2) (by decide)) (by decide) (by decide) dX8_leftByRights_6 (fun v_3 e_4 => ?_)
  refine lv_iload_n C0.1 C0.2.1 dX8_leftByRights_7 rfl (lv_at hl 1 rfl) ?_
  refine y_c1 (n := 3) C0 (by decide) dX8_leftByRights_8 (fun v_5 e_6 => ?_)
  refine y_add C0 (o18_363 l1 u1 e_4 e_6 (le_min a1) (le_max a1) (le_min v_5) (le_max v_5) (le_min v_3) (le_max v_3)) (o18_364 l1 u1 e_4 e_6 (le_min a1) (le_max a1) (le_min v_5) (le_max v_5) (le_min v_3) (le_max v_3)) dX8_leftByRights_9 (fun v_7 e_8 => ?_)
  refine y_c1 (n := 3) C0 (by decide) dX8_leftByRights_10 (fun v_9 e_10 => ?_)
  refine xr_iand C0 dX8_leftByRights_11 (fun v_11 e_12 => ?_)
  refine y_ci h (y_rV (As := [.int v_3, .int v_11]) (rest := []) C0 hZ h (c_X0_to l G Z ad _ h.2 1 kSC_1 v_3 v_11 (o18_365 l1 u1 e_4 e_6 e_8) (o18_366 l1 u1 e_4 e_6 e_8) (o18_42 (xb_and 3 2 (n := 3) e_12 (Eq.trans (o18_78 e_10) (by decide)) (by decide) (by decide) (by decide)).1 (xb_and 3 2 (n := 3) e_12 (Eq.trans (o18_78 e_10) (by decide)) (by decide) (by decide) (by decide)).2) (o18_43 (xb_and 3 2 (n := 3) e_12 (Eq.trans (o18_78 e_10) (by decide)) (by decide) (by decide) (by decide)).1 (xb_and 3 2 (n := 3) e_12 (Eq.trans (o18_78 e_10) (by decide)) (by decide) (by decide) (by decide)).2) hR) k_X0_to q_773 q_774 q_1273 kSC_1 rfl rfl rfl hl.1 rfl rfl (Nat.le_of_ble_eq_true rfl) dX8_leftByRights_12 ⟨Nat.le_of_ble_eq_true rfl, Nat.le_of_ble_eq_true rfl⟩ ⟨Nat.le_of_ble_eq_true rfl, Nat.le_of_ble_eq_true rfl⟩) (fun r_16 H locs ws_13 h u_14 p_15 => ?_)
  obtain ⟨e_17, e_18, e_19, e_20, e_21⟩ := p_15
  replace HE : FT = g1c_X8_leftByRights (xso SC ad ws_13) r_16.toInt a1.toInt := HE.trans (by rw [e_17, e_18, e_12, e_10, e_8, e_6, e_4]; rfl)
  refine lv_istore_n (lv' := [(2, .int r_16), (0, .ref (ad 83)), (1, .int a1)]) C0.1 C0.2.1 dX8_leftByRights_15 rfl hl (by decide) rfl (fun ls hl => ?_)
  refine lv_iload_n C0.1 C0.2.1 dX8_leftByRights_16 rfl (lv_at hl 0 rfl) ?_
  replace HE : FT = g2b_X8_leftByRights (xso SC ad ws_13) r_16.toInt a1.toInt := HE.trans rfl
  refine y_if_ge (tgt := 22) C0 dX8_leftByRights_17 (by decide) (fun c_22 => ?_) (fun c_22 => ?_)
  · -- 17
    replace HE : FT = g3_X8_leftByRights (xso SC ad ws_13) a1.toInt r_16.toInt := HE.trans (if_neg (Int.not_lt.mpr c_22))
    refine lv_aload_n C0.1 C0.2.1 dX8_leftByRights_22 rfl (lv_at hl 1 rfl) ?_
    refine lv_iload_n C0.1 C0.2.1 dX8_leftByRights_23 rfl (lv_at hl 2 rfl) ?_
    refine y_cv h (y_rV (As := [.int a1]) (rest := []) C0 hZ h (c_X8_begin l G Z ad _ h.2 a1 (o18_367 l1 u1 e_4 e_6 e_8) (o18_368 l1 u1 e_4 e_6 e_8)) k_X8_begin q_1080 q_31 q_1078 kSC_83 rfl rfl rfl hl.1 rfl rfl (Nat.le_of_ble_eq_true rfl) dX8_leftByRights_24 ⟨Nat.le_of_ble_eq_true rfl, Nat.le_of_ble_eq_true rfl⟩ ⟨Nat.le_of_ble_eq_true rfl, Nat.le_of_ble_eq_true rfl⟩) (fun H locs ws_23 h u_24 p_25 => ?_)
    obtain ⟨e_26, e_27⟩ := p_25
    obtain ⟨f_28, e_29⟩ : ∃ v, fI ws_23 83 4 = v := ⟨_, rfl⟩
    rw [e_29] at e_27
    replace HE : FT = g5c_X8_leftByRights (xso SC ad ws_23) r_16.toInt := HE.trans (by rw [e_26]; rfl)
    refine y_c1 (n := 1) C0 (by decide) dX8_leftByRights_27 (fun v_30 e_31 => ?_)
    refine lv_istore_n (lv' := [(3, .int v_30), (2, .int r_16), (0, .ref (ad 83)), (1, .int a1)]) C0.1 C0.2.1 dX8_leftByRights_28 rfl hl (by decide) rfl (fun ls hl => ?_)
    have lp_35 : ∀ (n_37 : Nat) (x3_32 : Int32) (H : Heap) (locs : List Loc) (ls : Array Slot) (ws_33 : va_W), 61 - x3_32.toInt < (n_37 : Int) → 1 ≤ x3_32.toInt → x3_32.toInt ≤ 61 → (FT = L6_X8_leftByRights n_37 (xso SC ad ws_33) r_16.toInt x3_32.toInt) → Wt G SC ad A s H locs ws_33 → Fr SC [22, 23] ws_23 ws_33 → lv_has ls 4 [(3, .int x3_32), (2, .int r_16), (0, .ref (ad 83)), (1, .int a1)] → W p l e (rmd 3 0 0) s m args below meth c H locs 0 0 Q (F0 m 29 ls []) := by
      intro n_37
      induction n_37 with
      | zero => intro x3_32 H locs ls ws_33 hn_38 b_39 b_40 HE h hF_34 hl; exact ((o18_369 b_39 b_40 hn_38)).elim
      | succ n_37 ih_36 =>
        intro x3_32 H locs ls ws_33 hn_38 b_39 b_40 HE h hF_34 hl
        obtain ⟨R29, hR29⟩ : ∃ z, z = L6_X8_leftByRights n_37 := ⟨_, rfl⟩
        replace HE : FT = g7l_X8_leftByRights R29 (xso SC ad ws_33) r_16.toInt x3_32.toInt := HE.trans (by rw [hR29]; rfl)
        refine lv_iload_n C0.1 C0.2.1 dX8_leftByRights_29 rfl (lv_at hl 0 rfl) ?_
        refine y_c2 (n := 60) C0 (by decide) dX8_leftByRights_30 (fun v_41 e_42 => ?_)
        replace HE : FT = g8b_X8_leftByRights R29 (xso SC ad ws_33) x3_32.toInt r_16.toInt := HE.trans rfl
        refine y_icmp_gt (tgt := 65) C0 dX8_leftByRights_32 (by decide) (fun c_43 => ?_) (fun c_43 => ?_)
        · -- 32
          replace HE : FT = g9_X8_leftByRights (xso SC ad ws_33) := HE.trans (if_pos (o18_370 b_39 b_40 hn_38 e_42 c_43))
          refine y_c1 (n := (-1)) C0 (by decide) dX8_leftByRights_65 (fun v_44 e_45 => ?_)
          replace HE : FT = ((xso SC ad ws_33), v_44.toInt) := HE.trans (by rw [e_45]; rfl)
          rw [hQ]
          exact y_iret C0 h (Fr.tr (Fr.tr (Fr.mono u_14 (by decide)) u_24) hF_34) ⟨(congrArg Prod.fst (HE.symm.trans hFT)), (congrArg Prod.snd (HE.symm.trans hFT)), (o18_85 e_45), (o18_263 e_45)⟩ dX8_leftByRights_66
        · -- 32
          replace HE : FT = g10_X8_leftByRights R29 (xso SC ad ws_33) r_16.toInt x3_32.toInt := HE.trans (if_neg (o18_371 b_39 b_40 hn_38 e_42 c_43))
          refine lv_aload_n C0.1 C0.2.1 dX8_leftByRights_35 rfl (lv_at hl 2 rfl) ?_
          refine y_c1 (n := 0) C0 (by decide) dX8_leftByRights_36 (fun v_46 e_47 => ?_)
          refine y_cv h (y_rV (As := [.int v_46]) (rest := []) C0 hZ h (c_X8_goByRights l G Z ad _ h.2 v_46 (o18_1 e_47) (o18_372 e_47)) k_X8_goByRights q_1105 q_36 q_1103 kSC_83 rfl rfl rfl hl.1 rfl rfl (Nat.le_of_ble_eq_true rfl) dX8_leftByRights_37 ⟨Nat.le_of_ble_eq_true rfl, Nat.le_of_ble_eq_true rfl⟩ ⟨Nat.le_of_ble_eq_true rfl, Nat.le_of_ble_eq_true rfl⟩) (fun H locs ws_48 h u_49 p_50 => ?_)
          have e_51 := p_50
          replace HE : FT = g11c_X8_leftByRights R29 (xso SC ad ws_48) r_16.toInt x3_32.toInt := HE.trans (by rw [e_51, e_47]; rfl)
          refine lv_aload_n C0.1 C0.2.1 dX8_leftByRights_40 rfl (lv_at hl 2 rfl) ?_
          refine y_c1 (n := 0) C0 (by decide) dX8_leftByRights_41 (fun v_52 e_53 => ?_)
          refine y_cv h (y_rV (As := [.int v_52]) (rest := []) C0 hZ h (c_X8_change l G Z ad _ h.2 v_52 (o18_1 e_53) (o18_92 e_53)) k_X8_change q_1137 q_39 q_1135 kSC_83 rfl rfl rfl hl.1 rfl rfl (Nat.le_of_ble_eq_true rfl) dX8_leftByRights_42 ⟨Nat.le_of_ble_eq_true rfl, Nat.le_of_ble_eq_true rfl⟩ ⟨Nat.le_of_ble_eq_true rfl, Nat.le_of_ble_eq_true rfl⟩) (fun H locs ws_54 h u_55 p_56 => ?_)
          obtain ⟨e_57, e_58⟩ := p_56
          replace HE : FT = g12c_X8_leftByRights R29 (xso SC ad ws_54) r_16.toInt x3_32.toInt := HE.trans (by rw [e_57, e_53]; rfl)
          refine lv_aload_n C0.1 C0.2.1 dX8_leftByRights_45 rfl (lv_at hl 2 rfl) ?_
          refine y_c1 (n := 0) C0 (by decide) dX8_leftByRights_46 (fun v_59 e_60 => ?_)
          refine y_ci h (y_rV (As := [.int v_59]) (rest := []) C0 hZ h (c_X8_anyHeading l G Z ad _ h.2 v_59 (o18_1 e_60) (o18_92 e_60)) k_X8_anyHeading q_1088 q_33 q_1086 kSC_83 rfl rfl rfl hl.1 rfl rfl (Nat.le_of_ble_eq_true rfl) dX8_leftByRights_47 ⟨Nat.le_of_ble_eq_true rfl, Nat.le_of_ble_eq_true rfl⟩ ⟨Nat.le_of_ble_eq_true rfl, Nat.le_of_ble_eq_true rfl⟩) (fun r_64 H locs ws_61 h u_62 p_63 => ?_)
          obtain ⟨e_65, e_66⟩ := p_63
          replace HE : FT = g13c_X8_leftByRights R29 (xso SC ad ws_61) r_64.toInt r_16.toInt x3_32.toInt := HE.trans (by rw [e_65, e_66, e_60]; rfl)
          refine lv_iload_n C0.1 C0.2.1 dX8_leftByRights_50 rfl (lv_at hl 1 rfl) ?_
          refine xr_ishr C0 dX8_leftByRights_51 (fun v_67 e_68 => ?_)
          refine y_c1 (n := 1) C0 (by decide) dX8_leftByRights_52 (fun v_69 e_70 => ?_)
          refine xr_iand C0 dX8_leftByRights_53 (fun v_71 e_72 => ?_)
          replace HE : FT = g14b_X8_leftByRights R29 (xso SC ad ws_61) v_71.toInt r_16.toInt x3_32.toInt := HE.trans (by rw [e_72, e_70, e_68]; rfl)
          refine y_if_eq (tgt := 59) C0 dX8_leftByRights_54 (by decide) (fun c_73 => ?_) (fun c_73 => ?_)
          · -- 54
            replace HE : FT = g15_X8_leftByRights R29 (xso SC ad ws_61) r_16.toInt x3_32.toInt := HE.trans (if_pos c_73)
            refine y_inc (kp := 0) (n := 1) (fun v_74 => [(3, .int v_74), (2, .int r_16), (0, .ref (ad 83)), (1, .int a1)]) C0 hl rfl (by decide) (by decide) (fun _ => rfl) (o18_373 b_39 b_40 hn_38 e_42 c_43 (le_min x3_32) (le_max x3_32) (le_min v_41) (le_max v_41)) (o18_374 b_39 b_40 hn_38 e_42 c_43 (le_min x3_32) (le_max x3_32) (le_min v_41) (le_max v_41)) dX8_leftByRights_59 (fun v_74 ls e_75 hl => ?_)
            refine lv_goto (tgt := 29) C0.1 C0.2.1 dX8_leftByRights_62 (by decide) ?_
            exact ih_36 v_74 _ _ _ _ (o18_375 b_39 b_40 hn_38 e_42 c_43 e_75) (o18_376 b_39 b_40 hn_38 e_42 c_43 e_75) (o18_377 b_39 b_40 hn_38 e_42 c_43 e_75) (((show FT = R29 (xso SC ad ws_61) r_16.toInt v_74.toInt from HE.trans (by rw [e_75]; rfl)).trans (by rw [hR29]))) h (Fr.tr (Fr.tr (Fr.tr hF_34 (Fr.mono u_49 (by decide))) u_55) (Fr.mono u_62 (by decide))) (lv_sub hl [0, 1, 2, 3] rfl)
          · -- 54
            replace HE : FT = g16_X8_leftByRights (xso SC ad ws_61) x3_32.toInt := HE.trans (if_neg c_73)
            refine lv_iload_n C0.1 C0.2.1 dX8_leftByRights_57 rfl (lv_at hl 0 rfl) ?_
            replace HE : FT = ((xso SC ad ws_61), x3_32.toInt) := HE.trans rfl
            rw [hQ]
            exact y_iret C0 h (Fr.tr (Fr.tr (Fr.tr (Fr.tr (Fr.tr (Fr.mono u_14 (by decide)) u_24) hF_34) (Fr.mono u_49 (by decide))) u_55) (Fr.mono u_62 (by decide))) ⟨(congrArg Prod.fst (HE.symm.trans hFT)), (congrArg Prod.snd (HE.symm.trans hFT)), (o18_378 b_39 b_40 hn_38 e_42 c_43), (o18_379 b_39 b_40 hn_38 e_42 c_43)⟩ dX8_leftByRights_58
    exact lp_35 ((61 - v_30.toInt + 1).toNat) v_30 _ _ _ _ (o18_380 e_31) (o18_381 e_31) (o18_382 e_31) ((show FT = L6_X8_leftByRights (Int.toNat (61 - v_30.toInt + 1)) (xso SC ad ws_23) r_16.toInt v_30.toInt from HE.trans (by rw [e_31]; rfl))) h Fr.rf (lv_sub hl [0, 1, 2, 3] rfl)
  · -- 17
    replace HE : FT = g4_X8_leftByRights (xso SC ad ws_13) := HE.trans (if_pos c_22)
    refine y_c1 (n := (-1)) C0 (by decide) dX8_leftByRights_20 (fun v_76 e_77 => ?_)
    replace HE : FT = ((xso SC ad ws_13), v_76.toInt) := HE.trans (by rw [e_77]; rfl)
    rw [hQ]
    exact y_iret C0 h (Fr.mono u_14 (by decide)) ⟨(congrArg Prod.fst (HE.symm.trans hFT)), (congrArg Prod.snd (HE.symm.trans hFT)), (o18_85 e_77), (o18_263 e_77)⟩ dX8_leftByRights_21
noncomputable def g18_X8_cornersToFree (s : XS) : XR := (s, ((-1)))
noncomputable def g23_X8_cornersToFree (R81 : XS → Int → Int → Int → Int → Int → XR) (s : XS) (a1 : Int) (a2 : Int) (a3 : Int) (r_4 : Int) (x5_55 : Int) : XR := R81 s a1 a2 a3 r_4 ((x5_55 + 1))
noncomputable def g27_X8_cornersToFree (R81 : XS → Int → Int → Int → Int → Int → XR) (R91 : XS → Int → Int → Int → Int → Int → Int → XR) (s : XS) (a1 : Int) (a2 : Int) (a3 : Int) (r_4 : Int) (x5_55 : Int) (x6_69 : Int) : XR := R91 s a1 a2 a3 r_4 x5_55 ((x6_69 + 1))
noncomputable def g28_X8_cornersToFree (s : XS) (x5_55 : Int) (x6_69 : Int) : XR := (s, (Xior (Xishl 1 x6_69) (Xishl 1 x5_55)))
noncomputable def g26b_X8_cornersToFree (R81 : XS → Int → Int → Int → Int → Int → XR) (R91 : XS → Int → Int → Int → Int → Int → Int → XR) (s : XS) (r_96 : Int) (a1 : Int) (a2 : Int) (a3 : Int) (r_4 : Int) (x5_55 : Int) (x6_69 : Int) : XR := if r_96 < 0 then g27_X8_cornersToFree R81 R91 s a1 a2 a3 r_4 x5_55 x6_69 else g28_X8_cornersToFree s x5_55 x6_69
noncomputable def g25c_X8_cornersToFree (R81 : XS → Int → Int → Int → Int → Int → XR) (R91 : XS → Int → Int → Int → Int → Int → Int → XR) (s : XS) (r_96 : Int) (a1 : Int) (a2 : Int) (a3 : Int) (r_4 : Int) (x5_55 : Int) (x6_69 : Int) : XR := g26b_X8_cornersToFree R81 R91 s r_96 a1 a2 a3 r_4 x5_55 x6_69
noncomputable def g24_X8_cornersToFree (R81 : XS → Int → Int → Int → Int → Int → XR) (R91 : XS → Int → Int → Int → Int → Int → Int → XR) (s : XS) (a1 : Int) (a2 : Int) (a3 : Int) (r_4 : Int) (x5_55 : Int) (x6_69 : Int) : XR := g25c_X8_cornersToFree R81 R91 ((f_X8_fewestStreets s a1 a2 0 a3 (Xior (Xishl 1 x6_69) (Xishl 1 x5_55))).1) (((f_X8_fewestStreets s a1 a2 0 a3 (Xior (Xishl 1 x6_69) (Xishl 1 x5_55))).2)) a1 a2 a3 r_4 x5_55 x6_69
noncomputable def g22b_X8_cornersToFree (R81 : XS → Int → Int → Int → Int → Int → XR) (R91 : XS → Int → Int → Int → Int → Int → Int → XR) (s : XS) (x5_55 : Int) (x6_69 : Int) (a1 : Int) (a2 : Int) (a3 : Int) (r_4 : Int) : XR := if x6_69 < x5_55 then g24_X8_cornersToFree R81 R91 s a1 a2 a3 r_4 x5_55 x6_69 else g23_X8_cornersToFree R81 s a1 a2 a3 r_4 x5_55
noncomputable def g21l_X8_cornersToFree (R81 : XS → Int → Int → Int → Int → Int → XR) (R91 : XS → Int → Int → Int → Int → Int → Int → XR) (s : XS) (a1 : Int) (a2 : Int) (a3 : Int) (r_4 : Int) (x5_55 : Int) (x6_69 : Int) : XR := g22b_X8_cornersToFree R81 R91 s x5_55 x6_69 a1 a2 a3 r_4
noncomputable def L20_X8_cornersToFree (R81 : XS → Int → Int → Int → Int → Int → XR) (n : Nat) : XS → Int → Int → Int → Int → Int → Int → XR := Nat.rec (motive := fun _ => XS → Int → Int → Int → Int → Int → Int → XR) (fun s _ _ _ _ _ _ => (s, 0)) (fun _ R91 => g21l_X8_cornersToFree R81 R91) n
noncomputable def g19_X8_cornersToFree (R81 : XS → Int → Int → Int → Int → Int → XR) (s : XS) (a1 : Int) (a2 : Int) (a3 : Int) (r_4 : Int) (x5_55 : Int) : XR := L20_X8_cornersToFree R81 (Int.toNat (24 - 0 + 1)) s a1 a2 a3 r_4 x5_55 0
noncomputable def g17b_X8_cornersToFree (R81 : XS → Int → Int → Int → Int → Int → XR) (s : XS) (r_4 : Int) (x5_55 : Int) (a1 : Int) (a2 : Int) (a3 : Int) : XR := if x5_55 < r_4 then g19_X8_cornersToFree R81 s a1 a2 a3 r_4 x5_55 else g18_X8_cornersToFree s
noncomputable def g16l_X8_cornersToFree (R81 : XS → Int → Int → Int → Int → Int → XR) (s : XS) (a1 : Int) (a2 : Int) (a3 : Int) (r_4 : Int) (x5_55 : Int) : XR := g17b_X8_cornersToFree R81 s r_4 x5_55 a1 a2 a3
noncomputable def L15_X8_cornersToFree (n : Nat) : XS → Int → Int → Int → Int → Int → XR := Nat.rec (motive := fun _ => XS → Int → Int → Int → Int → Int → XR) (fun s _ _ _ _ _ => (s, 0)) (fun _ R81 => g16l_X8_cornersToFree R81) n
noncomputable def g13_X8_cornersToFree (s : XS) (a1 : Int) (a2 : Int) (a3 : Int) (r_4 : Int) : XR := L15_X8_cornersToFree (Int.toNat (25 - 1 + 1)) s a1 a2 a3 r_4 1
noncomputable def g31_X8_cornersToFree (R45 : XS → Int → Int → Int → Int → Int → XR) (s : XS) (a1 : Int) (a2 : Int) (a3 : Int) (r_4 : Int) (x5_43 : Int) : XR := R45 s a1 a2 a3 r_4 ((x5_43 + 1))
noncomputable def g32_X8_cornersToFree (s : XS) (x5_43 : Int) : XR := (s, (Xishl 1 x5_43))
noncomputable def g30b_X8_cornersToFree (R45 : XS → Int → Int → Int → Int → Int → XR) (s : XS) (r_123 : Int) (a1 : Int) (a2 : Int) (a3 : Int) (r_4 : Int) (x5_43 : Int) : XR := if r_123 < 0 then g31_X8_cornersToFree R45 s a1 a2 a3 r_4 x5_43 else g32_X8_cornersToFree s x5_43
noncomputable def g29c_X8_cornersToFree (R45 : XS → Int → Int → Int → Int → Int → XR) (s : XS) (r_123 : Int) (a1 : Int) (a2 : Int) (a3 : Int) (r_4 : Int) (x5_43 : Int) : XR := g30b_X8_cornersToFree R45 s r_123 a1 a2 a3 r_4 x5_43
noncomputable def g14_X8_cornersToFree (R45 : XS → Int → Int → Int → Int → Int → XR) (s : XS) (a1 : Int) (a2 : Int) (a3 : Int) (r_4 : Int) (x5_43 : Int) : XR := g29c_X8_cornersToFree R45 ((f_X8_fewestStreets s a1 a2 0 a3 (Xishl 1 x5_43)).1) (((f_X8_fewestStreets s a1 a2 0 a3 (Xishl 1 x5_43)).2)) a1 a2 a3 r_4 x5_43
noncomputable def g12b_X8_cornersToFree (R45 : XS → Int → Int → Int → Int → Int → XR) (s : XS) (r_4 : Int) (x5_43 : Int) (a1 : Int) (a2 : Int) (a3 : Int) : XR := if x5_43 < r_4 then g14_X8_cornersToFree R45 s a1 a2 a3 r_4 x5_43 else g13_X8_cornersToFree s a1 a2 a3 r_4
noncomputable def g11l_X8_cornersToFree (R45 : XS → Int → Int → Int → Int → Int → XR) (s : XS) (a1 : Int) (a2 : Int) (a3 : Int) (r_4 : Int) (x5_43 : Int) : XR := g12b_X8_cornersToFree R45 s r_4 x5_43 a1 a2 a3
noncomputable def L10_X8_cornersToFree (n : Nat) : XS → Int → Int → Int → Int → Int → XR := Nat.rec (motive := fun _ => XS → Int → Int → Int → Int → Int → XR) (fun s _ _ _ _ _ => (s, 0)) (fun _ R45 => g11l_X8_cornersToFree R45) n
noncomputable def g8_X8_cornersToFree (s : XS) (a1 : Int) (a2 : Int) (a3 : Int) (r_4 : Int) : XR := L10_X8_cornersToFree (Int.toNat (25 - 0 + 1)) s a1 a2 a3 r_4 0
noncomputable def g9_X8_cornersToFree (s : XS) : XR := (s, ((-1)))
noncomputable def g7b_X8_cornersToFree (s : XS) (r_35 : Int) (a1 : Int) (a2 : Int) (a3 : Int) (r_4 : Int) : XR := if r_35 < 0 then g9_X8_cornersToFree s else g8_X8_cornersToFree s a1 a2 a3 r_4
noncomputable def g6c_X8_cornersToFree (s : XS) (r_35 : Int) (a1 : Int) (a2 : Int) (a3 : Int) (r_4 : Int) : XR := g7b_X8_cornersToFree s r_35 a1 a2 a3 r_4
noncomputable def g4_X8_cornersToFree (s : XS) (a1 : Int) (a2 : Int) (a3 : Int) (r_4 : Int) : XR := g6c_X8_cornersToFree ((f_X8_fewestStreets s a1 a2 0 a3 (Xisub (Xishl 1 r_4) 1)).1) (((f_X8_fewestStreets s a1 a2 0 a3 (Xisub (Xishl 1 r_4) 1)).2)) a1 a2 a3 r_4
noncomputable def g5_X8_cornersToFree (s : XS) : XR := (s, 0)
noncomputable def g3b_X8_cornersToFree (s : XS) (r_16 : Int) (a1 : Int) (a2 : Int) (a3 : Int) (r_4 : Int) : XR := if r_16 < 0 then g4_X8_cornersToFree s a1 a2 a3 r_4 else g5_X8_cornersToFree s
noncomputable def g2c_X8_cornersToFree (s : XS) (r_16 : Int) (a1 : Int) (a2 : Int) (a3 : Int) (r_4 : Int) : XR := g3b_X8_cornersToFree s r_16 a1 a2 a3 r_4
noncomputable def g1c_X8_cornersToFree (s : XS) (r_4 : Int) (a1 : Int) (a2 : Int) (a3 : Int) : XR := g2c_X8_cornersToFree ((f_X8_fewestStreets s a1 a2 0 a3 0).1) (((f_X8_fewestStreets s a1 a2 0 a3 0).2)) a1 a2 a3 r_4
noncomputable def f_X8_cornersToFree (s : XS) (a1 : Int) (a2 : Int) (a3 : Int) : XR := g1c_X8_cornersToFree ((f_X0_crossings s 1).1) (((f_X0_crossings s 1).2)) a1 a2 a3
set_option maxHeartbeats 4000000 in
set_option maxRecDepth 100000 in
theorem c_X8_cornersToFree (l : Launch) (G : GG) (Z : RZ) (ad : Nat → Nat) (ws0 : va_W) (hT : Ty G SC ad ws0) (a1 : Int32) (a2 : Int32) (a3 : Int32) (l1 : 0 ≤ a1.toInt) (u1 : a1.toInt ≤ 99) (l3 : 0 ≤ a3.toInt) (u3 : a3.toInt ≤ 30) : Mq l yX8_cornersToFree cX8_cornersToFree 7 (some .int) 7 G Z [.ref (ad 83), .int a1, .int a2, .int a3] ws0 (PI G SC ad [4, 5, 18, 19, 20, 21, 22, 23] ws0 (fun r u => (xso SC ad u = (f_X8_cornersToFree (xso SC ad ws0) a1.toInt a2.toInt a3.toInt).1) ∧ (r.toInt = (f_X8_cornersToFree (xso SC ad ws0) a1.toInt a2.toInt a3.toInt).2))) := by
  refine Mq.start (by decide) (Nat.le_of_ble_eq_true rfl) ?_
  intro p e s m below meth c A ls C0 hZ h hl
  have hl : lv_has ls 7 [(0, .ref (ad 83)), (1, .int a1), (2, .int a2), (3, .int a3)] := hl
  have h : Wt G SC ad A s s.heap [] ws0 := ⟨h, hT⟩
  obtain ⟨args, hargs⟩ : ∃ z, z = ([.ref (ad 83), .int a1, .int a2, .int a3] : List Value).toArray := ⟨_, rfl⟩
  rw [← hargs] at C0 ⊢
  have C0 : Cx p s m args meth c RX8 cX8_cornersToFree 7 (some .int) := C0
  obtain ⟨Q, hQ⟩ : ∃ z, z = MQ below ((PI G SC ad [4, 5, 18, 19, 20, 21, 22, 23] ws0 (fun r u => (xso SC ad u = (f_X8_cornersToFree (xso SC ad ws0) a1.toInt a2.toInt a3.toInt).1) ∧ (r.toInt = (f_X8_cornersToFree (xso SC ad ws0) a1.toInt a2.toInt a3.toInt).2))) A) args s 0 0 A := ⟨_, rfl⟩
  rw [← hQ]
  obtain ⟨FT, hFT⟩ : ∃ z, z = f_X8_cornersToFree (xso SC ad ws0) a1.toInt a2.toInt a3.toInt := ⟨_, rfl⟩
  have HE : FT = f_X8_cornersToFree (xso SC ad ws0) a1.toInt a2.toInt a3.toInt := hFT
  refine lv_aload_n C0.1 C0.2.1 dX8_cornersToFree_0 rfl (lv_at hl 0 rfl) ?_
  refine tg_X8_city C0 h kSC_83 q_314 dX8_cornersToFree_1 ?_
  refine y_ci h (y_rV (As := []) (rest := []) C0 hZ h (c_X0_crossings l G Z ad _ h.2 1 kSC_1) k_X0_crossings q_918 q_919 q_1324 kSC_1 rfl rfl rfl hl.1 rfl rfl (Nat.le_of_ble_eq_true rfl) dX8_cornersToFree_4 ⟨Nat.le_of_ble_eq_true rfl, Nat.le_of_ble_eq_true rfl⟩ ⟨Nat.le_of_ble_eq_true rfl, Nat.le_of_ble_eq_true rfl⟩) (fun r_4 H locs ws_1 h u_2 p_3 => ?_)
  obtain ⟨e_5, e_6, e_7, e_8⟩ := p_3
  replace HE : FT = g1c_X8_cornersToFree (xso SC ad ws_1) r_4.toInt a1.toInt a2.toInt a3.toInt := HE.trans (by rw [e_5, e_6]; rfl)
  refine lv_istore (lv' := [(4, .int r_4), (0, .ref (ad 83)), (1, .int a1), (2, .int a2), (3, .int a3)]) C0.1 C0.2.1 dX8_cornersToFree_7 hl (by decide) rfl (fun ls hl => ?_)
  refine lv_aload_n C0.1 C0.2.1 dX8_cornersToFree_9 rfl (lv_at hl 1 rfl) ?_
  refine lv_iload_n C0.1 C0.2.1 dX8_cornersToFree_10 rfl (lv_at hl 2 rfl) ?_
  refine lv_iload_n C0.1 C0.2.1 dX8_cornersToFree_11 rfl (lv_at hl 3 rfl) ?_
  refine y_c1 (n := 0) C0 (by decide) dX8_cornersToFree_12 (fun v_9 e_10 => ?_)
  refine lv_iload_n C0.1 C0.2.1 dX8_cornersToFree_13 rfl (lv_at hl 4 rfl) ?_
  refine y_c1 (n := 0) C0 (by decide) dX8_cornersToFree_14 (fun v_11 e_12 => ?_)
  refine y_ci h (y_rV (As := [.int a1, .int a2, .int v_9, .int a3, .int v_11]) (rest := []) C0 hZ h (c_X8_fewestStreets l G Z ad _ h.2 a1 a2 v_9 a3 v_11 (o18_260 l1 u1) (o18_261 l1 u1) (o18_1 e_10) (o18_92 e_10) (o18_383 l3 u3) (o18_384 l3 u3)) k_X8_fewestStreets q_1075 q_1076 q_1325 kSC_83 rfl rfl rfl hl.1 rfl rfl (Nat.le_of_ble_eq_true rfl) dX8_cornersToFree_15 ⟨Nat.le_of_ble_eq_true rfl, Nat.le_of_ble_eq_true rfl⟩ ⟨Nat.le_of_ble_eq_true rfl, Nat.le_of_ble_eq_true rfl⟩) (fun r_16 H locs ws_13 h u_14 p_15 => ?_)
  obtain ⟨e_17, e_18, e_19, e_20⟩ := p_15
  replace HE : FT = g2c_X8_cornersToFree (xso SC ad ws_13) r_16.toInt a1.toInt a2.toInt a3.toInt r_4.toInt := HE.trans (by rw [e_17, e_18, e_12, e_10]; rfl)
  replace HE : FT = g3b_X8_cornersToFree (xso SC ad ws_13) r_16.toInt a1.toInt a2.toInt a3.toInt r_4.toInt := HE.trans rfl
  refine y_if_lt (tgt := 23) C0 dX8_cornersToFree_18 (by decide) (fun c_21 => ?_) (fun c_21 => ?_)
  · -- 18
    replace HE : FT = g4_X8_cornersToFree (xso SC ad ws_13) a1.toInt a2.toInt a3.toInt r_4.toInt := HE.trans (if_pos c_21)
    refine lv_aload_n C0.1 C0.2.1 dX8_cornersToFree_23 rfl (lv_at hl 1 rfl) ?_
    refine lv_iload_n C0.1 C0.2.1 dX8_cornersToFree_24 rfl (lv_at hl 2 rfl) ?_
    refine lv_iload_n C0.1 C0.2.1 dX8_cornersToFree_25 rfl (lv_at hl 3 rfl) ?_
    refine y_c1 (n := 0) C0 (by decide) dX8_cornersToFree_26 (fun v_22 e_23 => ?_)
    refine lv_iload_n C0.1 C0.2.1 dX8_cornersToFree_27 rfl (lv_at hl 4 rfl) ?_
    refine y_c1 (n := 1) C0 (by decide) dX8_cornersToFree_28 (fun v_24 e_25 => ?_)
    refine lv_iload C0.1 C0.2.1 dX8_cornersToFree_29 (lv_at hl 0 rfl) ?_
    refine xr_ishl C0 dX8_cornersToFree_31 (fun v_26 e_27 => ?_)
    refine y_c1 (n := 1) C0 (by decide) dX8_cornersToFree_32 (fun v_28 e_29 => ?_)
    refine xr_isub C0 dX8_cornersToFree_33 (fun v_30 e_31 => ?_)
    refine y_ci h (y_rV (As := [.int a1, .int a2, .int v_22, .int a3, .int v_30]) (rest := []) C0 hZ h (c_X8_fewestStreets l G Z ad _ h.2 a1 a2 v_22 a3 v_30 (o18_260 l1 u1) (o18_261 l1 u1) (o18_1 e_23) (o18_92 e_23) (o18_383 l3 u3) (o18_384 l3 u3)) k_X8_fewestStreets q_1075 q_1076 q_1325 kSC_83 rfl rfl rfl hl.1 rfl rfl (Nat.le_of_ble_eq_true rfl) dX8_cornersToFree_34 ⟨Nat.le_of_ble_eq_true rfl, Nat.le_of_ble_eq_true rfl⟩ ⟨Nat.le_of_ble_eq_true rfl, Nat.le_of_ble_eq_true rfl⟩) (fun r_35 H locs ws_32 h u_33 p_34 => ?_)
    obtain ⟨e_36, e_37, e_38, e_39⟩ := p_34
    replace HE : FT = g6c_X8_cornersToFree (xso SC ad ws_32) r_35.toInt a1.toInt a2.toInt a3.toInt r_4.toInt := HE.trans (by rw [e_36, e_37, e_31, e_29, e_27, e_25, e_23]; rfl)
    replace HE : FT = g7b_X8_cornersToFree (xso SC ad ws_32) r_35.toInt a1.toInt a2.toInt a3.toInt r_4.toInt := HE.trans rfl
    refine y_if_ge (tgt := 42) C0 dX8_cornersToFree_37 (by decide) (fun c_40 => ?_) (fun c_40 => ?_)
    · -- 37
      replace HE : FT = g8_X8_cornersToFree (xso SC ad ws_32) a1.toInt a2.toInt a3.toInt r_4.toInt := HE.trans (if_neg (Int.not_lt.mpr c_40))
      refine y_c1 (n := 0) C0 (by decide) dX8_cornersToFree_42 (fun v_41 e_42 => ?_)
      refine lv_istore (lv' := [(5, .int v_41), (4, .int r_4), (0, .ref (ad 83)), (1, .int a1), (2, .int a2), (3, .int a3)]) C0.1 C0.2.1 dX8_cornersToFree_43 hl (by decide) rfl (fun ls hl => ?_)
      have lp_46 : ∀ (n_48 : Nat) (x5_43 : Int32) (H : Heap) (locs : List Loc) (ls : Array Slot) (ws_44 : va_W), 25 - x5_43.toInt < (n_48 : Int) → 0 ≤ x5_43.toInt → x5_43.toInt ≤ 25 → (FT = L10_X8_cornersToFree n_48 (xso SC ad ws_44) a1.toInt a2.toInt a3.toInt r_4.toInt x5_43.toInt) → Wt G SC ad A s H locs ws_44 → Fr SC [4, 5, 18, 19, 20, 21, 22, 23] ws_32 ws_44 → lv_has ls 7 [(5, .int x5_43), (4, .int r_4), (0, .ref (ad 83)), (1, .int a1), (2, .int a2), (3, .int a3)] → W p l e (rmd 7 0 0) s m args below meth c H locs 0 0 Q (F0 m 45 ls []) := by
        intro n_48
        induction n_48 with
        | zero => intro x5_43 H locs ls ws_44 hn_49 b_50 b_51 HE h hF_45 hl; exact ((o18_48 b_50 b_51 hn_49)).elim
        | succ n_48 ih_47 =>
          intro x5_43 H locs ls ws_44 hn_49 b_50 b_51 HE h hF_45 hl
          obtain ⟨R45, hR45⟩ : ∃ z, z = L10_X8_cornersToFree n_48 := ⟨_, rfl⟩
          replace HE : FT = g11l_X8_cornersToFree R45 (xso SC ad ws_44) a1.toInt a2.toInt a3.toInt r_4.toInt x5_43.toInt := HE.trans (by rw [hR45]; rfl)
          refine lv_iload C0.1 C0.2.1 dX8_cornersToFree_45 (lv_at hl 0 rfl) ?_
          refine lv_iload C0.1 C0.2.1 dX8_cornersToFree_47 (lv_at hl 1 rfl) ?_
          replace HE : FT = g12b_X8_cornersToFree R45 (xso SC ad ws_44) r_4.toInt x5_43.toInt a1.toInt a2.toInt a3.toInt := HE.trans rfl
          refine y_icmp_ge (tgt := 78) C0 dX8_cornersToFree_49 (by decide) (fun c_52 => ?_) (fun c_52 => ?_)
          · -- 49
            replace HE : FT = g13_X8_cornersToFree (xso SC ad ws_44) a1.toInt a2.toInt a3.toInt r_4.toInt := HE.trans (if_neg (Int.not_lt.mpr c_52))
            refine y_c1 (n := 1) C0 (by decide) dX8_cornersToFree_78 (fun v_53 e_54 => ?_)
            refine lv_istore (lv' := [(5, .int v_53), (4, .int r_4), (0, .ref (ad 83)), (1, .int a1), (2, .int a2), (3, .int a3)]) C0.1 C0.2.1 dX8_cornersToFree_79 hl (by decide) rfl (fun ls hl => ?_)
            have lp_58 : ∀ (n_60 : Nat) (x5_55 : Int32) (H : Heap) (locs : List Loc) (ls : Array Slot) (ws_56 : va_W), 25 - x5_55.toInt < (n_60 : Int) → 1 ≤ x5_55.toInt → x5_55.toInt ≤ 25 → (FT = L15_X8_cornersToFree n_60 (xso SC ad ws_56) a1.toInt a2.toInt a3.toInt r_4.toInt x5_55.toInt) → Wt G SC ad A s H locs ws_56 → Fr SC [4, 5, 18, 19, 20, 21, 22, 23] ws_44 ws_56 → lv_has ls 7 [(5, .int x5_55), (4, .int r_4), (0, .ref (ad 83)), (1, .int a1), (2, .int a2), (3, .int a3)] → W p l e (rmd 7 0 0) s m args below meth c H locs 0 0 Q (F0 m 81 ls []) := by
              intro n_60
              induction n_60 with
              | zero => intro x5_55 H locs ls ws_56 hn_61 b_62 b_63 HE h hF_57 hl; exact ((o18_385 b_62 b_63 hn_61)).elim
              | succ n_60 ih_59 =>
                intro x5_55 H locs ls ws_56 hn_61 b_62 b_63 HE h hF_57 hl
                obtain ⟨R81, hR81⟩ : ∃ z, z = L15_X8_cornersToFree n_60 := ⟨_, rfl⟩
                replace HE : FT = g16l_X8_cornersToFree R81 (xso SC ad ws_56) a1.toInt a2.toInt a3.toInt r_4.toInt x5_55.toInt := HE.trans (by rw [hR81]; rfl)
                refine lv_iload C0.1 C0.2.1 dX8_cornersToFree_81 (lv_at hl 0 rfl) ?_
                refine lv_iload C0.1 C0.2.1 dX8_cornersToFree_83 (lv_at hl 1 rfl) ?_
                replace HE : FT = g17b_X8_cornersToFree R81 (xso SC ad ws_56) r_4.toInt x5_55.toInt a1.toInt a2.toInt a3.toInt := HE.trans rfl
                refine y_icmp_ge (tgt := 140) C0 dX8_cornersToFree_85 (by decide) (fun c_64 => ?_) (fun c_64 => ?_)
                · -- 85
                  replace HE : FT = g18_X8_cornersToFree (xso SC ad ws_56) := HE.trans (if_neg (Int.not_lt.mpr c_64))
                  refine y_c1 (n := (-1)) C0 (by decide) dX8_cornersToFree_140 (fun v_65 e_66 => ?_)
                  replace HE : FT = ((xso SC ad ws_56), v_65.toInt) := HE.trans (by rw [e_66]; rfl)
                  rw [hQ]
                  exact y_iret C0 h (Fr.tr (Fr.tr (Fr.tr (Fr.tr (Fr.mono u_2 (by decide)) u_14) u_33) hF_45) hF_57) ⟨(congrArg Prod.fst (HE.symm.trans hFT)), (congrArg Prod.snd (HE.symm.trans hFT))⟩ dX8_cornersToFree_141
                · -- 85
                  replace HE : FT = g19_X8_cornersToFree R81 (xso SC ad ws_56) a1.toInt a2.toInt a3.toInt r_4.toInt x5_55.toInt := HE.trans (if_pos c_64)
                  refine y_c1 (n := 0) C0 (by decide) dX8_cornersToFree_88 (fun v_67 e_68 => ?_)
                  refine lv_istore (lv' := [(6, .int v_67), (5, .int x5_55), (4, .int r_4), (0, .ref (ad 83)), (1, .int a1), (2, .int a2), (3, .int a3)]) C0.1 C0.2.1 dX8_cornersToFree_89 hl (by decide) rfl (fun ls hl => ?_)
                  have lp_72 : ∀ (n_74 : Nat) (x6_69 : Int32) (H : Heap) (locs : List Loc) (ls : Array Slot) (ws_70 : va_W), 24 - x6_69.toInt < (n_74 : Int) → 0 ≤ x6_69.toInt → x6_69.toInt ≤ 24 → (FT = L20_X8_cornersToFree R81 n_74 (xso SC ad ws_70) a1.toInt a2.toInt a3.toInt r_4.toInt x5_55.toInt x6_69.toInt) → Wt G SC ad A s H locs ws_70 → Fr SC [4, 5, 18, 19, 20, 21, 22, 23] ws_56 ws_70 → lv_has ls 7 [(6, .int x6_69), (5, .int x5_55), (4, .int r_4), (0, .ref (ad 83)), (1, .int a1), (2, .int a2), (3, .int a3)] → W p l e (rmd 7 0 0) s m args below meth c H locs 0 0 Q (F0 m 91 ls []) := by
                    intro n_74
                    induction n_74 with
                    | zero => intro x6_69 H locs ls ws_70 hn_75 b_76 b_77 HE h hF_71 hl; exact ((o18_386 b_76 b_77 hn_75)).elim
                    | succ n_74 ih_73 =>
                      intro x6_69 H locs ls ws_70 hn_75 b_76 b_77 HE h hF_71 hl
                      obtain ⟨R91, hR91⟩ : ∃ z, z = L20_X8_cornersToFree R81 n_74 := ⟨_, rfl⟩
                      replace HE : FT = g21l_X8_cornersToFree R81 R91 (xso SC ad ws_70) a1.toInt a2.toInt a3.toInt r_4.toInt x5_55.toInt x6_69.toInt := HE.trans (by rw [hR91]; rfl)
                      refine lv_iload C0.1 C0.2.1 dX8_cornersToFree_91 (lv_at hl 0 rfl) ?_
                      refine lv_iload C0.1 C0.2.1 dX8_cornersToFree_93 (lv_at hl 1 rfl) ?_
                      replace HE : FT = g22b_X8_cornersToFree R81 R91 (xso SC ad ws_70) x5_55.toInt x6_69.toInt a1.toInt a2.toInt a3.toInt r_4.toInt := HE.trans rfl
                      refine y_icmp_ge (tgt := 134) C0 dX8_cornersToFree_95 (by decide) (fun c_78 => ?_) (fun c_78 => ?_)
                      · -- 95
                        replace HE : FT = g23_X8_cornersToFree R81 (xso SC ad ws_70) a1.toInt a2.toInt a3.toInt r_4.toInt x5_55.toInt := HE.trans (if_neg (Int.not_lt.mpr c_78))
                        refine y_inc (kp := 1) (n := 1) (fun v_79 => [(5, .int v_79), (6, .int x6_69), (4, .int r_4), (0, .ref (ad 83)), (1, .int a1), (2, .int a2), (3, .int a3)]) C0 hl rfl (by decide) (by decide) (fun _ => rfl) (o18_387 e_7 e_8 b_50 b_51 hn_49 c_52 b_62 b_63 hn_61 c_64 b_76 b_77 hn_75 c_78 (le_min x5_55) (le_max x5_55) (le_min r_4) (le_max r_4) (le_min x5_43) (le_max x5_43) (le_min x6_69) (le_max x6_69)) (o18_388 e_7 e_8 b_50 b_51 hn_49 c_52 b_62 b_63 hn_61 c_64 b_76 b_77 hn_75 c_78 (le_min x5_55) (le_max x5_55) (le_min r_4) (le_max r_4) (le_min x5_43) (le_max x5_43) (le_min x6_69) (le_max x6_69)) dX8_cornersToFree_134 (fun v_79 ls e_80 hl => ?_)
                        refine lv_goto (tgt := 81) C0.1 C0.2.1 dX8_cornersToFree_137 (by decide) ?_
                        exact ih_59 v_79 _ _ _ _ (o18_389 e_7 e_8 b_50 b_51 hn_49 c_52 b_62 b_63 hn_61 c_64 b_76 b_77 hn_75 c_78 e_80) (o18_390 e_7 e_8 b_50 b_51 hn_49 c_52 b_62 b_63 hn_61 c_64 b_76 b_77 hn_75 c_78 e_80) (o18_391 e_7 e_8 b_50 b_51 hn_49 c_52 b_62 b_63 hn_61 c_64 b_76 b_77 hn_75 c_78 e_80) (((show FT = R81 (xso SC ad ws_70) a1.toInt a2.toInt a3.toInt r_4.toInt v_79.toInt from HE.trans (by rw [e_80]; rfl)).trans (by rw [hR81]))) h (Fr.tr hF_57 hF_71) (lv_sub hl [0, 2, 3, 4, 5, 6] rfl)
                      · -- 95
                        replace HE : FT = g24_X8_cornersToFree R81 R91 (xso SC ad ws_70) a1.toInt a2.toInt a3.toInt r_4.toInt x5_55.toInt x6_69.toInt := HE.trans (if_pos c_78)
                        refine lv_aload_n C0.1 C0.2.1 dX8_cornersToFree_98 rfl (lv_at hl 3 rfl) ?_
                        refine lv_iload_n C0.1 C0.2.1 dX8_cornersToFree_99 rfl (lv_at hl 4 rfl) ?_
                        refine lv_iload_n C0.1 C0.2.1 dX8_cornersToFree_100 rfl (lv_at hl 5 rfl) ?_
                        refine y_c1 (n := 0) C0 (by decide) dX8_cornersToFree_101 (fun v_81 e_82 => ?_)
                        refine lv_iload_n C0.1 C0.2.1 dX8_cornersToFree_102 rfl (lv_at hl 6 rfl) ?_
                        refine y_c1 (n := 1) C0 (by decide) dX8_cornersToFree_103 (fun v_83 e_84 => ?_)
                        refine lv_iload C0.1 C0.2.1 dX8_cornersToFree_104 (lv_at hl 0 rfl) ?_
                        refine xr_ishl C0 dX8_cornersToFree_106 (fun v_85 e_86 => ?_)
                        refine y_c1 (n := 1) C0 (by decide) dX8_cornersToFree_107 (fun v_87 e_88 => ?_)
                        refine lv_iload C0.1 C0.2.1 dX8_cornersToFree_108 (lv_at hl 1 rfl) ?_
                        refine xr_ishl C0 dX8_cornersToFree_110 (fun v_89 e_90 => ?_)
                        refine xr_ior C0 dX8_cornersToFree_111 (fun v_91 e_92 => ?_)
                        refine y_ci h (y_rV (As := [.int a1, .int a2, .int v_81, .int a3, .int v_91]) (rest := []) C0 hZ h (c_X8_fewestStreets l G Z ad _ h.2 a1 a2 v_81 a3 v_91 (o18_260 l1 u1) (o18_261 l1 u1) (o18_1 e_82) (o18_92 e_82) (o18_383 l3 u3) (o18_384 l3 u3)) k_X8_fewestStreets q_1075 q_1076 q_1325 kSC_83 rfl rfl rfl hl.1 rfl rfl (Nat.le_of_ble_eq_true rfl) dX8_cornersToFree_112 ⟨Nat.le_of_ble_eq_true rfl, Nat.le_of_ble_eq_true rfl⟩ ⟨Nat.le_of_ble_eq_true rfl, Nat.le_of_ble_eq_true rfl⟩) (fun r_96 H locs ws_93 h u_94 p_95 => ?_)
                        obtain ⟨e_97, e_98, e_99, e_100⟩ := p_95
                        replace HE : FT = g25c_X8_cornersToFree R81 R91 (xso SC ad ws_93) r_96.toInt a1.toInt a2.toInt a3.toInt r_4.toInt x5_55.toInt x6_69.toInt := HE.trans (by rw [e_97, e_98, e_92, e_90, e_88, e_86, e_84, e_82]; rfl)
                        replace HE : FT = g26b_X8_cornersToFree R81 R91 (xso SC ad ws_93) r_96.toInt a1.toInt a2.toInt a3.toInt r_4.toInt x5_55.toInt x6_69.toInt := HE.trans rfl
                        refine y_if_lt (tgt := 128) C0 dX8_cornersToFree_115 (by decide) (fun c_101 => ?_) (fun c_101 => ?_)
                        · -- 115
                          replace HE : FT = g27_X8_cornersToFree R81 R91 (xso SC ad ws_93) a1.toInt a2.toInt a3.toInt r_4.toInt x5_55.toInt x6_69.toInt := HE.trans (if_pos c_101)
                          refine y_inc (kp := 0) (n := 1) (fun v_102 => [(6, .int v_102), (5, .int x5_55), (4, .int r_4), (0, .ref (ad 83)), (1, .int a1), (2, .int a2), (3, .int a3)]) C0 hl rfl (by decide) (by decide) (fun _ => rfl) (o18_392 e_7 e_8 b_50 b_51 hn_49 c_52 b_62 b_63 hn_61 c_64 b_76 b_77 hn_75 c_78 (le_min x6_69) (le_max x6_69) (le_min r_4) (le_max r_4) (le_min x5_43) (le_max x5_43) (le_min x5_55) (le_max x5_55)) (o18_393 e_7 e_8 b_50 b_51 hn_49 c_52 b_62 b_63 hn_61 c_64 b_76 b_77 hn_75 c_78 (le_min x6_69) (le_max x6_69) (le_min r_4) (le_max r_4) (le_min x5_43) (le_max x5_43) (le_min x5_55) (le_max x5_55)) dX8_cornersToFree_128 (fun v_102 ls e_103 hl => ?_)
                          refine lv_goto (tgt := 91) C0.1 C0.2.1 dX8_cornersToFree_131 (by decide) ?_
                          exact ih_73 v_102 _ _ _ _ (o18_394 e_7 e_8 b_50 b_51 hn_49 c_52 b_62 b_63 hn_61 c_64 b_76 b_77 hn_75 c_78 e_103) (o18_395 e_7 e_8 b_50 b_51 hn_49 c_52 b_62 b_63 hn_61 c_64 b_76 b_77 hn_75 c_78 e_103) (o18_396 e_7 e_8 b_50 b_51 hn_49 c_52 b_62 b_63 hn_61 c_64 b_76 b_77 hn_75 c_78 e_103) (((show FT = R91 (xso SC ad ws_93) a1.toInt a2.toInt a3.toInt r_4.toInt x5_55.toInt v_102.toInt from HE.trans (by rw [e_103]; rfl)).trans (by rw [hR91]))) h (Fr.tr hF_71 u_94) (lv_sub hl [0, 1, 2, 3, 4, 5, 6] rfl)
                        · -- 115
                          replace HE : FT = g28_X8_cornersToFree (xso SC ad ws_93) x5_55.toInt x6_69.toInt := HE.trans (if_neg (Int.not_lt.mpr c_101))
                          refine y_c1 (n := 1) C0 (by decide) dX8_cornersToFree_118 (fun v_104 e_105 => ?_)
                          refine lv_iload C0.1 C0.2.1 dX8_cornersToFree_119 (lv_at hl 0 rfl) ?_
                          refine xr_ishl C0 dX8_cornersToFree_121 (fun v_106 e_107 => ?_)
                          refine y_c1 (n := 1) C0 (by decide) dX8_cornersToFree_122 (fun v_108 e_109 => ?_)
                          refine lv_iload C0.1 C0.2.1 dX8_cornersToFree_123 (lv_at hl 1 rfl) ?_
                          refine xr_ishl C0 dX8_cornersToFree_125 (fun v_110 e_111 => ?_)
                          refine xr_ior C0 dX8_cornersToFree_126 (fun v_112 e_113 => ?_)
                          replace HE : FT = ((xso SC ad ws_93), v_112.toInt) := HE.trans (by rw [e_113, e_111, e_109, e_107, e_105]; rfl)
                          rw [hQ]
                          exact y_iret C0 h (Fr.tr (Fr.tr (Fr.tr (Fr.tr (Fr.tr (Fr.tr (Fr.mono u_2 (by decide)) u_14) u_33) hF_45) hF_57) hF_71) u_94) ⟨(congrArg Prod.fst (HE.symm.trans hFT)), (congrArg Prod.snd (HE.symm.trans hFT))⟩ dX8_cornersToFree_127
                  exact lp_72 ((24 - v_67.toInt + 1).toNat) v_67 _ _ _ _ (o18_397 e_68) (o18_1 e_68) (o18_398 e_68) ((show FT = L20_X8_cornersToFree R81 (Int.toNat (24 - v_67.toInt + 1)) (xso SC ad ws_56) a1.toInt a2.toInt a3.toInt r_4.toInt x5_55.toInt v_67.toInt from HE.trans (by rw [e_68]; rfl))) h Fr.rf (lv_sub hl [0, 1, 2, 3, 4, 5, 6] rfl)
            exact lp_58 ((25 - v_53.toInt + 1).toNat) v_53 _ _ _ _ (o18_399 e_54) (o18_381 e_54) (o18_400 e_54) ((show FT = L15_X8_cornersToFree (Int.toNat (25 - v_53.toInt + 1)) (xso SC ad ws_44) a1.toInt a2.toInt a3.toInt r_4.toInt v_53.toInt from HE.trans (by rw [e_54]; rfl))) h Fr.rf (lv_sub hl [0, 1, 2, 3, 4, 5] rfl)
          · -- 49
            replace HE : FT = g14_X8_cornersToFree R45 (xso SC ad ws_44) a1.toInt a2.toInt a3.toInt r_4.toInt x5_43.toInt := HE.trans (if_pos c_52)
            refine lv_aload_n C0.1 C0.2.1 dX8_cornersToFree_52 rfl (lv_at hl 2 rfl) ?_
            refine lv_iload_n C0.1 C0.2.1 dX8_cornersToFree_53 rfl (lv_at hl 3 rfl) ?_
            refine lv_iload_n C0.1 C0.2.1 dX8_cornersToFree_54 rfl (lv_at hl 4 rfl) ?_
            refine y_c1 (n := 0) C0 (by decide) dX8_cornersToFree_55 (fun v_114 e_115 => ?_)
            refine lv_iload_n C0.1 C0.2.1 dX8_cornersToFree_56 rfl (lv_at hl 5 rfl) ?_
            refine y_c1 (n := 1) C0 (by decide) dX8_cornersToFree_57 (fun v_116 e_117 => ?_)
            refine lv_iload C0.1 C0.2.1 dX8_cornersToFree_58 (lv_at hl 0 rfl) ?_
            refine xr_ishl C0 dX8_cornersToFree_60 (fun v_118 e_119 => ?_)
            refine y_ci h (y_rV (As := [.int a1, .int a2, .int v_114, .int a3, .int v_118]) (rest := []) C0 hZ h (c_X8_fewestStreets l G Z ad _ h.2 a1 a2 v_114 a3 v_118 (o18_260 l1 u1) (o18_261 l1 u1) (o18_1 e_115) (o18_92 e_115) (o18_383 l3 u3) (o18_384 l3 u3)) k_X8_fewestStreets q_1075 q_1076 q_1325 kSC_83 rfl rfl rfl hl.1 rfl rfl (Nat.le_of_ble_eq_true rfl) dX8_cornersToFree_61 ⟨Nat.le_of_ble_eq_true rfl, Nat.le_of_ble_eq_true rfl⟩ ⟨Nat.le_of_ble_eq_true rfl, Nat.le_of_ble_eq_true rfl⟩) (fun r_123 H locs ws_120 h u_121 p_122 => ?_)
            obtain ⟨e_124, e_125, e_126, e_127⟩ := p_122
            replace HE : FT = g29c_X8_cornersToFree R45 (xso SC ad ws_120) r_123.toInt a1.toInt a2.toInt a3.toInt r_4.toInt x5_43.toInt := HE.trans (by rw [e_124, e_125, e_119, e_117, e_115]; rfl)
            replace HE : FT = g30b_X8_cornersToFree R45 (xso SC ad ws_120) r_123.toInt a1.toInt a2.toInt a3.toInt r_4.toInt x5_43.toInt := HE.trans rfl
            refine y_if_lt (tgt := 72) C0 dX8_cornersToFree_64 (by decide) (fun c_128 => ?_) (fun c_128 => ?_)
            · -- 64
              replace HE : FT = g31_X8_cornersToFree R45 (xso SC ad ws_120) a1.toInt a2.toInt a3.toInt r_4.toInt x5_43.toInt := HE.trans (if_pos c_128)
              refine y_inc (kp := 0) (n := 1) (fun v_129 => [(5, .int v_129), (4, .int r_4), (0, .ref (ad 83)), (1, .int a1), (2, .int a2), (3, .int a3)]) C0 hl rfl (by decide) (by decide) (fun _ => rfl) (o18_401 e_7 e_8 b_50 b_51 hn_49 c_52 (le_min x5_43) (le_max x5_43) (le_min r_4) (le_max r_4)) (o18_402 e_7 e_8 b_50 b_51 hn_49 c_52 (le_min x5_43) (le_max x5_43) (le_min r_4) (le_max r_4)) dX8_cornersToFree_72 (fun v_129 ls e_130 hl => ?_)
              refine lv_goto (tgt := 45) C0.1 C0.2.1 dX8_cornersToFree_75 (by decide) ?_
              exact ih_47 v_129 _ _ _ _ (o18_403 e_7 e_8 b_50 b_51 hn_49 c_52 e_130) (o18_404 e_7 e_8 b_50 b_51 hn_49 c_52 e_130) (o18_405 e_7 e_8 b_50 b_51 hn_49 c_52 e_130) (((show FT = R45 (xso SC ad ws_120) a1.toInt a2.toInt a3.toInt r_4.toInt v_129.toInt from HE.trans (by rw [e_130]; rfl)).trans (by rw [hR45]))) h (Fr.tr hF_45 u_121) (lv_sub hl [0, 1, 2, 3, 4, 5] rfl)
            · -- 64
              replace HE : FT = g32_X8_cornersToFree (xso SC ad ws_120) x5_43.toInt := HE.trans (if_neg (Int.not_lt.mpr c_128))
              refine y_c1 (n := 1) C0 (by decide) dX8_cornersToFree_67 (fun v_131 e_132 => ?_)
              refine lv_iload C0.1 C0.2.1 dX8_cornersToFree_68 (lv_at hl 0 rfl) ?_
              refine xr_ishl C0 dX8_cornersToFree_70 (fun v_133 e_134 => ?_)
              replace HE : FT = ((xso SC ad ws_120), v_133.toInt) := HE.trans (by rw [e_134, e_132]; rfl)
              rw [hQ]
              exact y_iret C0 h (Fr.tr (Fr.tr (Fr.tr (Fr.tr (Fr.mono u_2 (by decide)) u_14) u_33) hF_45) u_121) ⟨(congrArg Prod.fst (HE.symm.trans hFT)), (congrArg Prod.snd (HE.symm.trans hFT))⟩ dX8_cornersToFree_71
      exact lp_46 ((25 - v_41.toInt + 1).toNat) v_41 _ _ _ _ (o18_69 e_42) (o18_1 e_42) (o18_70 e_42) ((show FT = L10_X8_cornersToFree (Int.toNat (25 - v_41.toInt + 1)) (xso SC ad ws_32) a1.toInt a2.toInt a3.toInt r_4.toInt v_41.toInt from HE.trans (by rw [e_42]; rfl))) h Fr.rf (lv_sub hl [0, 1, 2, 3, 4, 5] rfl)
    · -- 37
      replace HE : FT = g9_X8_cornersToFree (xso SC ad ws_32) := HE.trans (if_pos c_40)
      refine y_c1 (n := (-1)) C0 (by decide) dX8_cornersToFree_40 (fun v_135 e_136 => ?_)
      replace HE : FT = ((xso SC ad ws_32), v_135.toInt) := HE.trans (by rw [e_136]; rfl)
      rw [hQ]
      exact y_iret C0 h (Fr.tr (Fr.tr (Fr.mono u_2 (by decide)) u_14) u_33) ⟨(congrArg Prod.fst (HE.symm.trans hFT)), (congrArg Prod.snd (HE.symm.trans hFT))⟩ dX8_cornersToFree_41
  · -- 18
    replace HE : FT = g5_X8_cornersToFree (xso SC ad ws_13) := HE.trans (if_neg (Int.not_lt.mpr c_21))
    refine y_c1 (n := 0) C0 (by decide) dX8_cornersToFree_21 (fun v_137 e_138 => ?_)
    replace HE : FT = ((xso SC ad ws_13), v_137.toInt) := HE.trans (by rw [e_138]; rfl)
    rw [hQ]
    exact y_iret C0 h (Fr.tr (Fr.mono u_2 (by decide)) u_14) ⟨(congrArg Prod.fst (HE.symm.trans hFT)), (congrArg Prod.snd (HE.symm.trans hFT))⟩ dX8_cornersToFree_22
noncomputable def g8_X8_goLeaving (s : XS) : XR := (s, 0)
noncomputable def g10c_X8_goLeaving (s : XS) : XR := (s, 0)
noncomputable def g9_X8_goLeaving (s : XS) (a1 : Int) (a2 : Int) (v_17 : Int) : XR := g10c_X8_goLeaving ((f_X8_goByLeft s a1 3 (4 * a2) v_17 ((4 * a2) + 8)).1)
noncomputable def g7b_X8_goLeaving (s : XS) (r_4 : Int) (r_44 : Int) (a1 : Int) (a2 : Int) (v_17 : Int) : XR := if r_44 = r_4 then g9_X8_goLeaving s a1 a2 v_17 else g8_X8_goLeaving s
noncomputable def g6c_X8_goLeaving (s : XS) (r_44 : Int) (a1 : Int) (a2 : Int) (r_4 : Int) (v_17 : Int) : XR := g7b_X8_goLeaving s r_4 r_44 a1 a2 v_17
noncomputable def g5c_X8_goLeaving (s : XS) (a1 : Int) (a2 : Int) (i4 : Nat) (r_4 : Int) (v_17 : Int) : XR := g6c_X8_goLeaving ((f_X10_asSmall s i4 (a2 + 1)).1) (((f_X10_asSmall s i4 (a2 + 1)).2)) a1 a2 r_4 v_17
noncomputable def g3_X8_goLeaving (s : XS) (a1 : Int) (a2 : Int) (a3 : Int) (i4 : Nat) (r_4 : Int) : XR := g5c_X8_goLeaving ((f_X8_goByLeft s a1 2 (4 * a2) (Xiand (Xishl 1 r_4) (Xixor a3 ((-1)))) ((4 * a2) + 4)).1) a1 a2 i4 r_4 ((Xiand (Xishl 1 r_4) (Xixor a3 ((-1)))))
noncomputable def g4_X8_goLeaving (s : XS) : XR := (s, 0)
noncomputable def g2b_X8_goLeaving (s : XS) (r_4 : Int) (a1 : Int) (a2 : Int) (a3 : Int) (i4 : Nat) : XR := if r_4 < 0 then g4_X8_goLeaving s else g3_X8_goLeaving s a1 a2 a3 i4 r_4
noncomputable def g1c_X8_goLeaving (s : XS) (r_4 : Int) (a1 : Int) (a2 : Int) (a3 : Int) (i4 : Nat) : XR := g2b_X8_goLeaving s r_4 a1 a2 a3 i4
noncomputable def f_X8_goLeaving (s : XS) (a1 : Int) (a2 : Int) (a3 : Int) (i4 : Nat) : XR := g1c_X8_goLeaving ((f_X10_asSmall s i4 a2).1) (((f_X10_asSmall s i4 a2).2)) a1 a2 a3 i4
set_option maxHeartbeats 4000000 in
set_option maxRecDepth 100000 in
theorem c_X8_goLeaving (l : Launch) (G : GG) (Z : RZ) (ad : Nat → Nat) (ws0 : va_W) (hT : Ty G SC ad ws0) (a1 : Int32) (a2 : Int32) (a3 : Int32) (i4 : Nat) (hi4 : Kd SC i4 42) (l1 : 0 ≤ a1.toInt) (u1 : a1.toInt ≤ 239) (l2 : 0 ≤ a2.toInt) (u2 : a2.toInt ≤ 10) : Mq l yX8_goLeaving cX8_goLeaving 7 none 5 G Z [.ref (ad 83), .int a1, .int a2, .int a3, .ref (ad i4)] ws0 (PV G SC ad [4, 5, 18, 19, 20, 21, 23] ws0 (fun u => (xso SC ad u = (f_X8_goLeaving (xso SC ad ws0) a1.toInt a2.toInt a3.toInt i4).1))) := by
  refine Mq.start (by decide) (Nat.le_of_ble_eq_true rfl) ?_
  intro p e s m below meth c A ls C0 hZ h hl
  have hl : lv_has ls 7 [(0, .ref (ad 83)), (1, .int a1), (2, .int a2), (3, .int a3), (4, .ref (ad i4))] := hl
  have h : Wt G SC ad A s s.heap [] ws0 := ⟨h, hT⟩
  obtain ⟨args, hargs⟩ : ∃ z, z = ([.ref (ad 83), .int a1, .int a2, .int a3, .ref (ad i4)] : List Value).toArray := ⟨_, rfl⟩
  rw [← hargs] at C0 ⊢
  have C0 : Cx p s m args meth c RX8 cX8_goLeaving 7 none := C0
  obtain ⟨Q, hQ⟩ : ∃ z, z = MQ below ((PV G SC ad [4, 5, 18, 19, 20, 21, 23] ws0 (fun u => (xso SC ad u = (f_X8_goLeaving (xso SC ad ws0) a1.toInt a2.toInt a3.toInt i4).1))) A) args s 0 0 A := ⟨_, rfl⟩
  rw [← hQ]
  obtain ⟨FT, hFT⟩ : ∃ z, z = f_X8_goLeaving (xso SC ad ws0) a1.toInt a2.toInt a3.toInt i4 := ⟨_, rfl⟩
  have HE : FT = f_X8_goLeaving (xso SC ad ws0) a1.toInt a2.toInt a3.toInt i4 := hFT
  refine lv_aload C0.1 C0.2.1 dX8_goLeaving_0 (lv_at hl 4 rfl) ?_
  refine lv_iload_n C0.1 C0.2.1 dX8_goLeaving_2 rfl (lv_at hl 2 rfl) ?_
  refine y_ci h (y_rV (As := [.int a2]) (rest := []) C0 hZ h (c_X10_asSmall l G Z ad _ h.2 i4 hi4 a2) k_X10_asSmall q_1005 q_1006 q_1354 hi4 rfl rfl rfl hl.1 rfl rfl (Nat.le_of_ble_eq_true rfl) dX8_goLeaving_3 ⟨Nat.le_of_ble_eq_true rfl, Nat.le_of_ble_eq_true rfl⟩ ⟨Nat.le_of_ble_eq_true rfl, Nat.le_of_ble_eq_true rfl⟩) (fun r_4 H locs ws_1 h u_2 p_3 => ?_)
  obtain ⟨e_5, e_6, e_7⟩ := p_3
  replace HE : FT = g1c_X8_goLeaving (xso SC ad ws_1) r_4.toInt a1.toInt a2.toInt a3.toInt i4 := HE.trans (by rw [e_5, e_6]; rfl)
  refine lv_istore (lv' := [(5, .int r_4), (0, .ref (ad 83)), (1, .int a1), (2, .int a2), (3, .int a3), (4, .ref (ad i4))]) C0.1 C0.2.1 dX8_goLeaving_6 hl (by decide) rfl (fun ls hl => ?_)
  refine lv_iload C0.1 C0.2.1 dX8_goLeaving_8 (lv_at hl 0 rfl) ?_
  replace HE : FT = g2b_X8_goLeaving (xso SC ad ws_1) r_4.toInt a1.toInt a2.toInt a3.toInt i4 := HE.trans rfl
  refine y_if_ge (tgt := 14) C0 dX8_goLeaving_10 (by decide) (fun c_8 => ?_) (fun c_8 => ?_)
  · -- 10
    replace HE : FT = g3_X8_goLeaving (xso SC ad ws_1) a1.toInt a2.toInt a3.toInt i4 r_4.toInt := HE.trans (if_neg (Int.not_lt.mpr c_8))
    refine y_c1 (n := 1) C0 (by decide) dX8_goLeaving_14 (fun v_9 e_10 => ?_)
    refine lv_iload C0.1 C0.2.1 dX8_goLeaving_15 (lv_at hl 0 rfl) ?_
    refine xr_ishl C0 dX8_goLeaving_17 (fun v_11 e_12 => ?_)
    refine lv_iload_n C0.1 C0.2.1 dX8_goLeaving_18 rfl (lv_at hl 4 rfl) ?_
    refine y_c1 (n := (-1)) C0 (by decide) dX8_goLeaving_19 (fun v_13 e_14 => ?_)
    refine xr_ixor C0 dX8_goLeaving_20 (fun v_15 e_16 => ?_)
    refine xr_iand C0 dX8_goLeaving_21 (fun v_17 e_18 => ?_)
    refine lv_istore (lv' := [(6, .int v_17), (5, .int r_4), (0, .ref (ad 83)), (1, .int a1), (2, .int a2), (3, .int a3), (4, .ref (ad i4))]) C0.1 C0.2.1 dX8_goLeaving_22 hl (by decide) rfl (fun ls hl => ?_)
    refine lv_aload_n C0.1 C0.2.1 dX8_goLeaving_24 rfl (lv_at hl 2 rfl) ?_
    refine lv_iload_n C0.1 C0.2.1 dX8_goLeaving_25 rfl (lv_at hl 3 rfl) ?_
    refine y_c1 (n := 2) C0 (by decide) dX8_goLeaving_26 (fun v_19 e_20 => ?_)
    refine y_c1 (n := 4) C0 (by decide) dX8_goLeaving_27 (fun v_21 e_22 => ?_)
    refine lv_iload_n C0.1 C0.2.1 dX8_goLeaving_28 rfl (lv_at hl 4 rfl) ?_
    refine y_cmul (n := 4) C0 (o18_7 e_22) (o18_406 l2 u2 (le_min a2) (le_max a2)) (o18_407 l2 u2 (le_min a2) (le_max a2)) dX8_goLeaving_29 (fun v_23 e_24 => ?_)
    refine lv_iload C0.1 C0.2.1 dX8_goLeaving_30 (lv_at hl 0 rfl) ?_
    refine y_c1 (n := 4) C0 (by decide) dX8_goLeaving_32 (fun v_25 e_26 => ?_)
    refine lv_iload_n C0.1 C0.2.1 dX8_goLeaving_33 rfl (lv_at hl 4 rfl) ?_
    refine y_cmul (n := 4) C0 (o18_7 e_26) (o18_408 l2 u2 e_24 (le_min a2) (le_max a2) (le_min v_23) (le_max v_23)) (o18_409 l2 u2 e_24 (le_min a2) (le_max a2) (le_min v_23) (le_max v_23)) dX8_goLeaving_34 (fun v_27 e_28 => ?_)
    refine y_c1 (n := 4) C0 (by decide) dX8_goLeaving_35 (fun v_29 e_30 => ?_)
    refine y_add C0 (o18_410 l2 u2 e_24 e_28 e_30 (le_min v_27) (le_max v_27) (le_min v_29) (le_max v_29) (le_min a2) (le_max a2) (le_min v_23) (le_max v_23)) (o18_411 l2 u2 e_24 e_28 e_30 (le_min v_27) (le_max v_27) (le_min v_29) (le_max v_29) (le_min a2) (le_max a2) (le_min v_23) (le_max v_23)) dX8_goLeaving_36 (fun v_31 e_32 => ?_)
    refine y_cv h (y_rV (As := [.int a1, .int v_19, .int v_23, .int v_17, .int v_31]) (rest := []) C0 hZ h (c_X8_goByLeft l G Z ad _ h.2 a1 v_19 v_23 v_17 v_31 (o18_37 l1 u1) (o18_38 l1 u1) (o18_249 e_20) (o18_412 e_20) (o18_413 l2 u2 e_24 e_28 e_30 e_32) (o18_414 l2 u2 e_24 e_28 e_30 e_32) (o18_415 l2 u2 e_24 e_28 e_30 e_32) (o18_416 l2 u2 e_24 e_28 e_30 e_32)) k_X8_goByLeft q_1113 q_37 q_1111 kSC_83 rfl rfl rfl hl.1 rfl rfl (Nat.le_of_ble_eq_true rfl) dX8_goLeaving_37 ⟨Nat.le_of_ble_eq_true rfl, Nat.le_of_ble_eq_true rfl⟩ ⟨Nat.le_of_ble_eq_true rfl, Nat.le_of_ble_eq_true rfl⟩) (fun H locs ws_33 h u_34 p_35 => ?_)
    have e_36 := p_35
    replace HE : FT = g5c_X8_goLeaving (xso SC ad ws_33) a1.toInt a2.toInt i4 r_4.toInt v_17.toInt := HE.trans (by rw [e_36, e_32, e_30, e_28, e_24, e_20, e_18, e_16, e_14, e_12, e_10]; rfl)
    refine lv_aload C0.1 C0.2.1 dX8_goLeaving_40 (lv_at hl 6 rfl) ?_
    refine lv_iload_n C0.1 C0.2.1 dX8_goLeaving_42 rfl (lv_at hl 4 rfl) ?_
    refine y_c1 (n := 1) C0 (by decide) dX8_goLeaving_43 (fun v_37 e_38 => ?_)
    refine y_add C0 (o18_417 l2 u2 e_24 e_28 e_30 e_32 e_38 (le_min a2) (le_max a2) (le_min v_37) (le_max v_37) (le_min v_23) (le_max v_23) (le_min v_27) (le_max v_27) (le_min v_29) (le_max v_29) (le_min v_31) (le_max v_31)) (o18_418 l2 u2 e_24 e_28 e_30 e_32 e_38 (le_min a2) (le_max a2) (le_min v_37) (le_max v_37) (le_min v_23) (le_max v_23) (le_min v_27) (le_max v_27) (le_min v_29) (le_max v_29) (le_min v_31) (le_max v_31)) dX8_goLeaving_44 (fun v_39 e_40 => ?_)
    refine y_ci h (y_rV (As := [.int v_39]) (rest := []) C0 hZ h (c_X10_asSmall l G Z ad _ h.2 i4 hi4 v_39) k_X10_asSmall q_1005 q_1006 q_1354 hi4 rfl rfl rfl hl.1 rfl rfl (Nat.le_of_ble_eq_true rfl) dX8_goLeaving_45 ⟨Nat.le_of_ble_eq_true rfl, Nat.le_of_ble_eq_true rfl⟩ ⟨Nat.le_of_ble_eq_true rfl, Nat.le_of_ble_eq_true rfl⟩) (fun r_44 H locs ws_41 h u_42 p_43 => ?_)
    obtain ⟨e_45, e_46, e_47⟩ := p_43
    replace HE : FT = g6c_X8_goLeaving (xso SC ad ws_41) r_44.toInt a1.toInt a2.toInt r_4.toInt v_17.toInt := HE.trans (by rw [e_45, e_46, e_40, e_38]; rfl)
    refine lv_iload C0.1 C0.2.1 dX8_goLeaving_48 (lv_at hl 1 rfl) ?_
    replace HE : FT = g7b_X8_goLeaving (xso SC ad ws_41) r_4.toInt r_44.toInt a1.toInt a2.toInt v_17.toInt := HE.trans rfl
    refine y_icmp_ne (tgt := 70) C0 dX8_goLeaving_50 (by decide) (fun c_48 => ?_) (fun c_48 => ?_)
    · -- 50
      replace HE : FT = g8_X8_goLeaving (xso SC ad ws_41) := HE.trans (if_neg c_48)
      replace HE : FT = ((xso SC ad ws_41), 0) := HE.trans rfl
      rw [hQ]
      exact y_vret C0 h (Fr.tr (Fr.tr (Fr.mono u_2 (by decide)) u_34) (Fr.mono u_42 (by decide))) (congrArg Prod.fst (HE.symm.trans hFT)) dX8_goLeaving_70
    · -- 50
      replace HE : FT = g9_X8_goLeaving (xso SC ad ws_41) a1.toInt a2.toInt v_17.toInt := HE.trans (if_pos c_48)
      refine lv_aload_n C0.1 C0.2.1 dX8_goLeaving_53 rfl (lv_at hl 2 rfl) ?_
      refine lv_iload_n C0.1 C0.2.1 dX8_goLeaving_54 rfl (lv_at hl 3 rfl) ?_
      refine y_c1 (n := 3) C0 (by decide) dX8_goLeaving_55 (fun v_49 e_50 => ?_)
      refine y_c1 (n := 4) C0 (by decide) dX8_goLeaving_56 (fun v_51 e_52 => ?_)
      refine lv_iload_n C0.1 C0.2.1 dX8_goLeaving_57 rfl (lv_at hl 4 rfl) ?_
      refine y_cmul (n := 4) C0 (o18_7 e_52) (o18_419 l2 u2 e_24 e_28 e_30 e_32 e_38 e_40 (le_min a2) (le_max a2) (le_min v_23) (le_max v_23) (le_min v_27) (le_max v_27) (le_min v_29) (le_max v_29) (le_min v_31) (le_max v_31) (le_min v_37) (le_max v_37) (le_min v_39) (le_max v_39)) (o18_420 l2 u2 e_24 e_28 e_30 e_32 e_38 e_40 (le_min a2) (le_max a2) (le_min v_23) (le_max v_23) (le_min v_27) (le_max v_27) (le_min v_29) (le_max v_29) (le_min v_31) (le_max v_31) (le_min v_37) (le_max v_37) (le_min v_39) (le_max v_39)) dX8_goLeaving_58 (fun v_53 e_54 => ?_)
      refine lv_iload C0.1 C0.2.1 dX8_goLeaving_59 (lv_at hl 0 rfl) ?_
      refine y_c1 (n := 4) C0 (by decide) dX8_goLeaving_61 (fun v_55 e_56 => ?_)
      refine lv_iload_n C0.1 C0.2.1 dX8_goLeaving_62 rfl (lv_at hl 4 rfl) ?_
      refine y_cmul (n := 4) C0 (o18_7 e_56) (o18_421 l2 u2 e_24 e_28 e_30 e_32 e_38 e_40 e_54 (le_min a2) (le_max a2) (le_min v_23) (le_max v_23) (le_min v_27) (le_max v_27) (le_min v_29) (le_max v_29) (le_min v_31) (le_max v_31) (le_min v_37) (le_max v_37) (le_min v_39) (le_max v_39) (le_min v_53) (le_max v_53)) (o18_422 l2 u2 e_24 e_28 e_30 e_32 e_38 e_40 e_54 (le_min a2) (le_max a2) (le_min v_23) (le_max v_23) (le_min v_27) (le_max v_27) (le_min v_29) (le_max v_29) (le_min v_31) (le_max v_31) (le_min v_37) (le_max v_37) (le_min v_39) (le_max v_39) (le_min v_53) (le_max v_53)) dX8_goLeaving_63 (fun v_57 e_58 => ?_)
      refine y_c2 (n := 8) C0 (by decide) dX8_goLeaving_64 (fun v_59 e_60 => ?_)
      refine y_add C0 (o18_423 l2 u2 e_24 e_28 e_30 e_32 e_38 e_40 e_54 e_58 e_60 (le_min v_57) (le_max v_57) (le_min v_59) (le_max v_59) (le_min a2) (le_max a2) (le_min v_23) (le_max v_23) (le_min v_27) (le_max v_27) (le_min v_29) (le_max v_29) (le_min v_31) (le_max v_31) (le_min v_37) (le_max v_37) (le_min v_39) (le_max v_39) (le_min v_53) (le_max v_53)) (o18_424 l2 u2 e_24 e_28 e_30 e_32 e_38 e_40 e_54 e_58 e_60 (le_min v_57) (le_max v_57) (le_min v_59) (le_max v_59) (le_min a2) (le_max a2) (le_min v_23) (le_max v_23) (le_min v_27) (le_max v_27) (le_min v_29) (le_max v_29) (le_min v_31) (le_max v_31) (le_min v_37) (le_max v_37) (le_min v_39) (le_max v_39) (le_min v_53) (le_max v_53)) dX8_goLeaving_66 (fun v_61 e_62 => ?_)
      refine y_cv h (y_rV (As := [.int a1, .int v_49, .int v_53, .int v_17, .int v_61]) (rest := []) C0 hZ h (c_X8_goByLeft l G Z ad _ h.2 a1 v_49 v_53 v_17 v_61 (o18_37 l1 u1) (o18_38 l1 u1) (o18_425 e_50) (o18_426 e_50) (o18_427 l2 u2 e_24 e_28 e_30 e_32 e_38 e_40 e_54 e_58 e_60 e_62) (o18_428 l2 u2 e_24 e_28 e_30 e_32 e_38 e_40 e_54 e_58 e_60 e_62) (o18_429 l2 u2 e_24 e_28 e_30 e_32 e_38 e_40 e_54 e_58 e_60 e_62) (o18_430 l2 u2 e_24 e_28 e_30 e_32 e_38 e_40 e_54 e_58 e_60 e_62)) k_X8_goByLeft q_1113 q_37 q_1111 kSC_83 rfl rfl rfl hl.1 rfl rfl (Nat.le_of_ble_eq_true rfl) dX8_goLeaving_67 ⟨Nat.le_of_ble_eq_true rfl, Nat.le_of_ble_eq_true rfl⟩ ⟨Nat.le_of_ble_eq_true rfl, Nat.le_of_ble_eq_true rfl⟩) (fun H locs ws_63 h u_64 p_65 => ?_)
      have e_66 := p_65
      replace HE : FT = g10c_X8_goLeaving (xso SC ad ws_63) := HE.trans (by rw [e_66, e_62, e_60, e_58, e_54, e_50]; rfl)
      replace HE : FT = ((xso SC ad ws_63), 0) := HE.trans rfl
      rw [hQ]
      exact y_vret C0 h (Fr.tr (Fr.tr (Fr.tr (Fr.mono u_2 (by decide)) u_34) (Fr.mono u_42 (by decide))) u_64) (congrArg Prod.fst (HE.symm.trans hFT)) dX8_goLeaving_70
  · -- 10
    replace HE : FT = g4_X8_goLeaving (xso SC ad ws_1) := HE.trans (if_pos c_8)
    replace HE : FT = ((xso SC ad ws_1), 0) := HE.trans rfl
    rw [hQ]
    exact y_vret C0 h (Fr.mono u_2 (by decide)) (congrArg Prod.fst (HE.symm.trans hFT)) dX8_goLeaving_13
noncomputable def g8_X8_whereByEnvelopes (s : XS) : XR := (s, 0)
noncomputable def g10c_X8_whereByEnvelopes (s : XS) (r_40 : Int) : XR := (s, r_40)
noncomputable def g9_X8_whereByEnvelopes (s : XS) (v_1 : Int) : XR := g10c_X8_whereByEnvelopes ((f_X8_anyHeading s v_1).1) (((f_X8_anyHeading s v_1).2))
noncomputable def g7b_X8_whereByEnvelopes (s : XS) (v_1 : Int) (v_29 : Int) : XR := if v_29 = v_1 then g9_X8_whereByEnvelopes s v_1 else g8_X8_whereByEnvelopes s
noncomputable def g5_X8_whereByEnvelopes (s : XS) (v_1 : Int) : XR := g7b_X8_whereByEnvelopes s v_1 ((s 0 83 4))
noncomputable def g17c_X8_whereByEnvelopes (R14 : XS → Nat → Int → Int → Int → XR) (s : XS) (i2 : Nat) (a3 : Int) (v_1 : Int) (x5_15 : Int) : XR := R14 s i2 a3 v_1 ((x5_15 + 1))
noncomputable def g15_X8_whereByEnvelopes (R14 : XS → Nat → Int → Int → Int → XR) (s : XS) (i2 : Nat) (a3 : Int) (v_1 : Int) (x5_15 : Int) : XR := g17c_X8_whereByEnvelopes R14 ((f_X8_change s (min ((s 0 83 4) + 2) v_1)).1) i2 a3 v_1 x5_15
noncomputable def g21c_X8_whereByEnvelopes (R14 : XS → Nat → Int → Int → Int → XR) (R34 : XS → Nat → Int → Int → Int → Int → Int → XR) (s : XS) (i2 : Nat) (a3 : Int) (v_1 : Int) (x5_15 : Int) (r_46 : Int) (x7_51 : Int) : XR := R34 s i2 a3 v_1 x5_15 r_46 ((x7_51 + 1))
noncomputable def g20c_X8_whereByEnvelopes (R14 : XS → Nat → Int → Int → Int → XR) (R34 : XS → Nat → Int → Int → Int → Int → Int → XR) (s : XS) (i2 : Nat) (a3 : Int) (v_1 : Int) (x5_15 : Int) (r_46 : Int) (x7_51 : Int) : XR := g21c_X8_whereByEnvelopes R14 R34 ((f_X8_goLeaving s x5_15 x7_51 r_46 i2).1) i2 a3 v_1 x5_15 r_46 x7_51
noncomputable def g19c_X8_whereByEnvelopes (R14 : XS → Nat → Int → Int → Int → XR) (R34 : XS → Nat → Int → Int → Int → Int → Int → XR) (s : XS) (i2 : Nat) (a3 : Int) (v_1 : Int) (x5_15 : Int) (r_46 : Int) (x7_51 : Int) : XR := g20c_X8_whereByEnvelopes R14 R34 ((f_X8_goByLeft s x5_15 3 (4 * x7_51) r_46 (4 * x7_51)).1) i2 a3 v_1 x5_15 r_46 x7_51
noncomputable def g18c_X8_whereByEnvelopes (R14 : XS → Nat → Int → Int → Int → XR) (R34 : XS → Nat → Int → Int → Int → Int → Int → XR) (s : XS) (i2 : Nat) (a3 : Int) (v_1 : Int) (x5_15 : Int) (r_46 : Int) (x7_51 : Int) : XR := g19c_X8_whereByEnvelopes R14 R34 ((f_X8_goByLeft s x5_15 2 (4 * x7_51) r_46 (4 * x7_51)).1) i2 a3 v_1 x5_15 r_46 x7_51
noncomputable def g16_X8_whereByEnvelopes (R14 : XS → Nat → Int → Int → Int → XR) (R34 : XS → Nat → Int → Int → Int → Int → Int → XR) (s : XS) (i2 : Nat) (a3 : Int) (v_1 : Int) (x5_15 : Int) (r_46 : Int) (x7_51 : Int) : XR := g18c_X8_whereByEnvelopes R14 R34 ((f_X8_goByRights s (4 * x7_51)).1) i2 a3 v_1 x5_15 r_46 x7_51
noncomputable def g14b_X8_whereByEnvelopes (R14 : XS → Nat → Int → Int → Int → XR) (R34 : XS → Nat → Int → Int → Int → Int → Int → XR) (s : XS) (v_60 : Int) (x7_51 : Int) (i2 : Nat) (a3 : Int) (v_1 : Int) (x5_15 : Int) (r_46 : Int) : XR := if v_60 < x7_51 then g15_X8_whereByEnvelopes R14 s i2 a3 v_1 x5_15 else g16_X8_whereByEnvelopes R14 R34 s i2 a3 v_1 x5_15 r_46 x7_51
noncomputable def g13l_X8_whereByEnvelopes (R14 : XS → Nat → Int → Int → Int → XR) (R34 : XS → Nat → Int → Int → Int → Int → Int → XR) (s : XS) (i2 : Nat) (a3 : Int) (v_1 : Int) (x5_15 : Int) (r_46 : Int) (x7_51 : Int) : XR := g14b_X8_whereByEnvelopes R14 R34 s ((s 0 83 4)) x7_51 i2 a3 v_1 x5_15 r_46
noncomputable def L12_X8_whereByEnvelopes (R14 : XS → Nat → Int → Int → Int → XR) (n : Nat) : XS → Nat → Int → Int → Int → Int → Int → XR := Nat.rec (motive := fun _ => XS → Nat → Int → Int → Int → Int → Int → XR) (fun s _ _ _ _ _ _ => (s, 0)) (fun _ R34 => g13l_X8_whereByEnvelopes R14 R34) n
noncomputable def g11c_X8_whereByEnvelopes (R14 : XS → Nat → Int → Int → Int → XR) (s : XS) (r_46 : Int) (i2 : Nat) (a3 : Int) (v_1 : Int) (x5_15 : Int) : XR := L12_X8_whereByEnvelopes R14 (Int.toNat (11 - 0 + 1)) s i2 a3 v_1 x5_15 r_46 0
noncomputable def g6_X8_whereByEnvelopes (R14 : XS → Nat → Int → Int → Int → XR) (s : XS) (i2 : Nat) (a3 : Int) (v_1 : Int) (x5_15 : Int) : XR := g11c_X8_whereByEnvelopes R14 ((f_X2_freeAt s x5_15).1) (((f_X2_freeAt s x5_15).2)) i2 a3 v_1 x5_15
noncomputable def g4b_X8_whereByEnvelopes (R14 : XS → Nat → Int → Int → Int → XR) (s : XS) (a3 : Int) (x5_15 : Int) (i2 : Nat) (v_1 : Int) : XR := if x5_15 < a3 then g6_X8_whereByEnvelopes R14 s i2 a3 v_1 x5_15 else g5_X8_whereByEnvelopes s v_1
noncomputable def g3l_X8_whereByEnvelopes (R14 : XS → Nat → Int → Int → Int → XR) (s : XS) (i2 : Nat) (a3 : Int) (v_1 : Int) (x5_15 : Int) : XR := g4b_X8_whereByEnvelopes R14 s a3 x5_15 i2 v_1
noncomputable def L2_X8_whereByEnvelopes (n : Nat) : XS → Nat → Int → Int → Int → XR := Nat.rec (motive := fun _ => XS → Nat → Int → Int → Int → XR) (fun s _ _ _ _ => (s, 0)) (fun _ R14 => g3l_X8_whereByEnvelopes R14) n
noncomputable def g1c_X8_whereByEnvelopes (s : XS) (i2 : Nat) (a3 : Int) (v_1 : Int) : XR := L2_X8_whereByEnvelopes (Int.toNat (30 - 0 + 1)) s i2 a3 v_1 0
noncomputable def f_X8_whereByEnvelopes (s : XS) (a1 : Int) (i2 : Nat) (a3 : Int) : XR := g1c_X8_whereByEnvelopes ((f_X8_begin s a1).1) i2 a3 ((s 0 i2 2))
set_option maxHeartbeats 4000000 in
set_option maxRecDepth 100000 in
theorem c_X8_whereByEnvelopes (l : Launch) (G : GG) (Z : RZ) (ad : Nat → Nat) (ws0 : va_W) (hT : Ty G SC ad ws0) (a1 : Int32) (i2 : Nat) (hi2 : Kd SC i2 42) (a3 : Int32) (l1 : 0 ≤ a1.toInt) (u1 : a1.toInt ≤ 99) (l3 : 0 ≤ a3.toInt) (u3 : a3.toInt ≤ 30) (fl0 : 0 ≤ (fI ws0 i2 2).toInt) (fh0 : (fI ws0 i2 2).toInt ≤ 10) : Mq l yX8_whereByEnvelopes cX8_whereByEnvelopes 8 (some .int) 6 G Z [.ref (ad 83), .int a1, .ref (ad i2), .int a3] ws0 (PI G SC ad [4, 5, 18, 19, 20, 21, 22, 23] ws0 (fun r u => (xso SC ad u = (f_X8_whereByEnvelopes (xso SC ad ws0) a1.toInt i2 a3.toInt).1) ∧ (r.toInt = (f_X8_whereByEnvelopes (xso SC ad ws0) a1.toInt i2 a3.toInt).2))) := by
  refine Mq.start (by decide) (Nat.le_of_ble_eq_true rfl) ?_
  intro p e s m below meth c A ls C0 hZ h hl
  have hl : lv_has ls 8 [(0, .ref (ad 83)), (1, .int a1), (2, .ref (ad i2)), (3, .int a3)] := hl
  have h : Wt G SC ad A s s.heap [] ws0 := ⟨h, hT⟩
  obtain ⟨args, hargs⟩ : ∃ z, z = ([.ref (ad 83), .int a1, .ref (ad i2), .int a3] : List Value).toArray := ⟨_, rfl⟩
  rw [← hargs] at C0 ⊢
  have C0 : Cx p s m args meth c RX8 cX8_whereByEnvelopes 8 (some .int) := C0
  obtain ⟨Q, hQ⟩ : ∃ z, z = MQ below ((PI G SC ad [4, 5, 18, 19, 20, 21, 22, 23] ws0 (fun r u => (xso SC ad u = (f_X8_whereByEnvelopes (xso SC ad ws0) a1.toInt i2 a3.toInt).1) ∧ (r.toInt = (f_X8_whereByEnvelopes (xso SC ad ws0) a1.toInt i2 a3.toInt).2))) A) args s 0 0 A := ⟨_, rfl⟩
  rw [← hQ]
  obtain ⟨FT, hFT⟩ : ∃ z, z = f_X8_whereByEnvelopes (xso SC ad ws0) a1.toInt i2 a3.toInt := ⟨_, rfl⟩
  have HE : FT = f_X8_whereByEnvelopes (xso SC ad ws0) a1.toInt i2 a3.toInt := hFT
  obtain ⟨fp0, ef0⟩ : ∃ v, fI ws0 i2 2 = v := ⟨_, rfl⟩
  rw [ef0] at fl0 fh0
  refine lv_aload_n C0.1 C0.2.1 dX8_whereByEnvelopes_0 rfl (lv_at hl 2 rfl) ?_
  refine tg_X10_size C0 h hi2 q_503 dX8_whereByEnvelopes_1 (fun v_1 e_2 e_3 e_4 => ?_)
  have qh_5 : v_1.toInt = fp0.toInt := congrArg Int32.toInt (e_2.symm.trans (Eq.trans rfl ef0))
  refine lv_istore (lv' := [(4, .int v_1), (0, .ref (ad 83)), (1, .int a1), (2, .ref (ad i2)), (3, .int a3)]) C0.1 C0.2.1 dX8_whereByEnvelopes_4 hl (by decide) rfl (fun ls hl => ?_)
  refine lv_aload_n C0.1 C0.2.1 dX8_whereByEnvelopes_6 rfl (lv_at hl 1 rfl) ?_
  refine lv_iload_n C0.1 C0.2.1 dX8_whereByEnvelopes_7 rfl (lv_at hl 2 rfl) ?_
  refine y_cv h (y_rV (As := [.int a1]) (rest := []) C0 hZ h (c_X8_begin l G Z ad _ h.2 a1 (o18_260 l1 u1) (o18_261 l1 u1)) k_X8_begin q_1080 q_31 q_1078 kSC_83 rfl rfl rfl hl.1 rfl rfl (Nat.le_of_ble_eq_true rfl) dX8_whereByEnvelopes_8 ⟨Nat.le_of_ble_eq_true rfl, Nat.le_of_ble_eq_true rfl⟩ ⟨Nat.le_of_ble_eq_true rfl, Nat.le_of_ble_eq_true rfl⟩) (fun H locs ws_6 h u_7 p_8 => ?_)
  obtain ⟨e_9, e_10⟩ := p_8
  obtain ⟨f_11, e_12⟩ : ∃ v, fI ws_6 83 4 = v := ⟨_, rfl⟩
  rw [e_12] at e_10
  replace HE : FT = g1c_X8_whereByEnvelopes (xso SC ad ws_6) i2 a3.toInt v_1.toInt := HE.trans (by rw [e_9, (xg0 e_2 : v_1.toInt = (xso SC ad ws0) 0 i2 2)]; rfl)
  refine y_c1 (n := 0) C0 (by decide) dX8_whereByEnvelopes_11 (fun v_13 e_14 => ?_)
  refine lv_istore (lv' := [(5, .int v_13), (4, .int v_1), (0, .ref (ad 83)), (1, .int a1), (2, .ref (ad i2)), (3, .int a3)]) C0.1 C0.2.1 dX8_whereByEnvelopes_12 hl (by decide) rfl (fun ls hl => ?_)
  have lp_18 : ∀ (n_20 : Nat) (x5_15 : Int32) (f_24 : Int32) (H : Heap) (locs : List Loc) (ls : Array Slot) (ws_16 : va_W), 30 - x5_15.toInt < (n_20 : Int) → 0 ≤ x5_15.toInt → x5_15.toInt ≤ 30 → 0 ≤ f_24.toInt → f_24.toInt ≤ 10 → (FT = L2_X8_whereByEnvelopes n_20 (xso SC ad ws_16) i2 a3.toInt v_1.toInt x5_15.toInt) → fI ws_16 83 4 = f_24 → Wt G SC ad A s H locs ws_16 → Fr SC [4, 5, 18, 19, 20, 21, 22, 23] ws_6 ws_16 → lv_has ls 8 [(5, .int x5_15), (4, .int v_1), (0, .ref (ad 83)), (1, .int a1), (2, .ref (ad i2)), (3, .int a3)] → W p l e (rmd 6 0 0) s m args below meth c H locs 0 0 Q (F0 m 14 ls []) := by
    intro n_20
    induction n_20 with
    | zero => intro x5_15 f_24 H locs ls ws_16 hn_21 b_22 b_23 b_26 b_27 HE e_25 h hF_17 hl; exact ((o18_431 b_22 b_23 hn_21)).elim
    | succ n_20 ih_19 =>
      intro x5_15 f_24 H locs ls ws_16 hn_21 b_22 b_23 b_26 b_27 HE e_25 h hF_17 hl
      obtain ⟨R14, hR14⟩ : ∃ z, z = L2_X8_whereByEnvelopes n_20 := ⟨_, rfl⟩
      replace HE : FT = g3l_X8_whereByEnvelopes R14 (xso SC ad ws_16) i2 a3.toInt v_1.toInt x5_15.toInt := HE.trans (by rw [hR14]; rfl)
      refine lv_iload C0.1 C0.2.1 dX8_whereByEnvelopes_14 (lv_at hl 0 rfl) ?_
      refine lv_iload_n C0.1 C0.2.1 dX8_whereByEnvelopes_16 rfl (lv_at hl 5 rfl) ?_
      replace HE : FT = g4b_X8_whereByEnvelopes R14 (xso SC ad ws_16) a3.toInt x5_15.toInt i2 v_1.toInt := HE.trans rfl
      refine y_icmp_ge (tgt := 123) C0 dX8_whereByEnvelopes_17 (by decide) (fun c_28 => ?_) (fun c_28 => ?_)
      · -- 17
        replace HE : FT = g5_X8_whereByEnvelopes (xso SC ad ws_16) v_1.toInt := HE.trans (if_neg (Int.not_lt.mpr c_28))
        refine lv_aload_n C0.1 C0.2.1 dX8_whereByEnvelopes_123 rfl (lv_at hl 2 rfl) ?_
        refine tg_X8_top C0 h kSC_83 q_318 dX8_whereByEnvelopes_124 (fun v_29 e_30 e_31 e_32 => ?_)
        have qh_33 : v_29.toInt = f_24.toInt := congrArg Int32.toInt (e_30.symm.trans (Eq.trans rfl e_25))
        refine lv_iload C0.1 C0.2.1 dX8_whereByEnvelopes_127 (lv_at hl 1 rfl) ?_
        replace HE : FT = g7b_X8_whereByEnvelopes (xso SC ad ws_16) v_1.toInt v_29.toInt := HE.trans (by rw [(xg0 e_30 : v_29.toInt = (xso SC ad ws_16) 0 83 4)]; rfl)
        refine y_icmp_ne (tgt := 141) C0 dX8_whereByEnvelopes_129 (by decide) (fun c_34 => ?_) (fun c_34 => ?_)
        · -- 129
          replace HE : FT = g8_X8_whereByEnvelopes (xso SC ad ws_16) := HE.trans (if_neg c_34)
          refine y_c1 (n := 0) C0 (by decide) dX8_whereByEnvelopes_141 (fun v_35 e_36 => ?_)
          replace HE : FT = ((xso SC ad ws_16), v_35.toInt) := HE.trans (by rw [e_36]; rfl)
          rw [hQ]
          exact y_iret C0 h (Fr.tr (Fr.mono u_7 (by decide)) hF_17) ⟨(congrArg Prod.fst (HE.symm.trans hFT)), (congrArg Prod.snd (HE.symm.trans hFT))⟩ dX8_whereByEnvelopes_142
        · -- 129
          replace HE : FT = g9_X8_whereByEnvelopes (xso SC ad ws_16) v_1.toInt := HE.trans (if_pos c_34)
          refine lv_aload_n C0.1 C0.2.1 dX8_whereByEnvelopes_132 rfl (lv_at hl 2 rfl) ?_
          refine lv_iload C0.1 C0.2.1 dX8_whereByEnvelopes_133 (lv_at hl 1 rfl) ?_
          refine y_ci h (y_rV (As := [.int v_1]) (rest := []) C0 hZ h (c_X8_anyHeading l G Z ad _ h.2 v_1 (o18_432 fl0 fh0 e_3 e_4 qh_5 b_26 b_27 e_31 e_32 qh_33 c_34) (o18_433 fl0 fh0 e_3 e_4 qh_5 b_26 b_27 e_31 e_32 qh_33 c_34)) k_X8_anyHeading q_1088 q_33 q_1086 kSC_83 rfl rfl rfl hl.1 rfl rfl (Nat.le_of_ble_eq_true rfl) dX8_whereByEnvelopes_135 ⟨Nat.le_of_ble_eq_true rfl, Nat.le_of_ble_eq_true rfl⟩ ⟨Nat.le_of_ble_eq_true rfl, Nat.le_of_ble_eq_true rfl⟩) (fun r_40 H locs ws_37 h u_38 p_39 => ?_)
          obtain ⟨e_41, e_42⟩ := p_39
          replace HE : FT = g10c_X8_whereByEnvelopes (xso SC ad ws_37) r_40.toInt := HE.trans (by rw [e_41, e_42]; rfl)
          refine lv_goto (tgt := 142) C0.1 C0.2.1 dX8_whereByEnvelopes_138 (by decide) ?_
          replace HE : FT = ((xso SC ad ws_37), r_40.toInt) := HE.trans rfl
          rw [hQ]
          exact y_iret C0 h (Fr.tr (Fr.tr (Fr.mono u_7 (by decide)) hF_17) (Fr.mono u_38 (by decide))) ⟨(congrArg Prod.fst (HE.symm.trans hFT)), (congrArg Prod.snd (HE.symm.trans hFT))⟩ dX8_whereByEnvelopes_142
      · -- 17
        replace HE : FT = g6_X8_whereByEnvelopes R14 (xso SC ad ws_16) i2 a3.toInt v_1.toInt x5_15.toInt := HE.trans (if_pos c_28)
        refine lv_aload_n C0.1 C0.2.1 dX8_whereByEnvelopes_20 rfl (lv_at hl 2 rfl) ?_
        refine tg_X8_forecast C0 h kSC_83 q_315 dX8_whereByEnvelopes_21 ?_
        refine lv_iload C0.1 C0.2.1 dX8_whereByEnvelopes_24 (lv_at hl 0 rfl) ?_
        refine y_ci h (y_rV (As := [.int x5_15]) (rest := []) C0 hZ h (c_X2_freeAt l G Z ad _ h.2 x5_15 (o18_434 l3 u3 b_22 b_23 hn_21 c_28) (o18_435 l3 u3 b_22 b_23 hn_21 c_28)) k_X2_freeAt q_1095 q_1096 q_1094 kSC_79 rfl rfl rfl hl.1 rfl rfl (Nat.le_of_ble_eq_true rfl) dX8_whereByEnvelopes_26 ⟨Nat.le_of_ble_eq_true rfl, Nat.le_of_ble_eq_true rfl⟩ ⟨Nat.le_of_ble_eq_true rfl, Nat.le_of_ble_eq_true rfl⟩) (fun r_46 H locs ws_43 h u_44 p_45 => ?_)
        obtain ⟨e_47, e_48⟩ := p_45
        replace HE : FT = g11c_X8_whereByEnvelopes R14 (xso SC ad ws_43) r_46.toInt i2 a3.toInt v_1.toInt x5_15.toInt := HE.trans (by rw [e_47, e_48]; rfl)
        refine lv_istore (lv' := [(6, .int r_46), (5, .int x5_15), (4, .int v_1), (0, .ref (ad 83)), (1, .int a1), (2, .ref (ad i2)), (3, .int a3)]) C0.1 C0.2.1 dX8_whereByEnvelopes_29 hl (by decide) rfl (fun ls hl => ?_)
        refine y_c1 (n := 0) C0 (by decide) dX8_whereByEnvelopes_31 (fun v_49 e_50 => ?_)
        refine lv_istore (lv' := [(7, .int v_49), (6, .int r_46), (5, .int x5_15), (4, .int v_1), (0, .ref (ad 83)), (1, .int a1), (2, .ref (ad i2)), (3, .int a3)]) C0.1 C0.2.1 dX8_whereByEnvelopes_32 hl (by decide) rfl (fun ls hl => ?_)
        have lp_54 : ∀ (n_56 : Nat) (x7_51 : Int32) (H : Heap) (locs : List Loc) (ls : Array Slot) (ws_52 : va_W), 11 - x7_51.toInt < (n_56 : Int) → 0 ≤ x7_51.toInt → x7_51.toInt ≤ 11 → (FT = L12_X8_whereByEnvelopes R14 n_56 (xso SC ad ws_52) i2 a3.toInt v_1.toInt x5_15.toInt r_46.toInt x7_51.toInt) → Wt G SC ad A s H locs ws_52 → Fr SC [4, 5, 18, 19, 20, 21, 23] ws_43 ws_52 → lv_has ls 8 [(7, .int x7_51), (6, .int r_46), (5, .int x5_15), (4, .int v_1), (0, .ref (ad 83)), (1, .int a1), (2, .ref (ad i2)), (3, .int a3)] → W p l e (rmd 6 0 0) s m args below meth c H locs 0 0 Q (F0 m 34 ls []) := by
          intro n_56
          induction n_56 with
          | zero => intro x7_51 H locs ls ws_52 hn_57 b_58 b_59 HE h hF_53 hl; exact ((o18_436 b_58 b_59 hn_57)).elim
          | succ n_56 ih_55 =>
            intro x7_51 H locs ls ws_52 hn_57 b_58 b_59 HE h hF_53 hl
            obtain ⟨R34, hR34⟩ : ∃ z, z = L12_X8_whereByEnvelopes R14 n_56 := ⟨_, rfl⟩
            replace HE : FT = g13l_X8_whereByEnvelopes R14 R34 (xso SC ad ws_52) i2 a3.toInt v_1.toInt x5_15.toInt r_46.toInt x7_51.toInt := HE.trans (by rw [hR34]; rfl)
            refine lv_iload C0.1 C0.2.1 dX8_whereByEnvelopes_34 (lv_at hl 0 rfl) ?_
            refine lv_aload_n C0.1 C0.2.1 dX8_whereByEnvelopes_36 rfl (lv_at hl 4 rfl) ?_
            refine tg_X8_top C0 h kSC_83 q_318 dX8_whereByEnvelopes_37 (fun v_60 e_61 e_62 e_63 => ?_)
            have qh_64 : v_60.toInt = f_24.toInt := congrArg Int32.toInt (e_61.symm.trans (Eq.trans (Eq.trans (Fr.fI hF_53 kSC_83 (by decide)) (Fr.fI u_44 kSC_83 (by decide))) e_25))
            replace HE : FT = g14b_X8_whereByEnvelopes R14 R34 (xso SC ad ws_52) v_60.toInt x7_51.toInt i2 a3.toInt v_1.toInt x5_15.toInt r_46.toInt := HE.trans (by rw [(xg0 e_61 : v_60.toInt = (xso SC ad ws_52) 0 83 4)]; rfl)
            refine y_icmp_gt (tgt := 102) C0 dX8_whereByEnvelopes_40 (by decide) (fun c_65 => ?_) (fun c_65 => ?_)
            · -- 40
              replace HE : FT = g15_X8_whereByEnvelopes R14 (xso SC ad ws_52) i2 a3.toInt v_1.toInt x5_15.toInt := HE.trans (if_pos c_65)
              refine lv_aload_n C0.1 C0.2.1 dX8_whereByEnvelopes_102 rfl (lv_at hl 4 rfl) ?_
              refine lv_aload_n C0.1 C0.2.1 dX8_whereByEnvelopes_103 rfl (lv_at hl 4 rfl) ?_
              refine tg_X8_top C0 h kSC_83 q_318 dX8_whereByEnvelopes_104 (fun v_66 e_67 e_68 e_69 => ?_)
              have qh_70 : v_66.toInt = f_24.toInt := congrArg Int32.toInt (e_67.symm.trans (Eq.trans (Eq.trans (Fr.fI hF_53 kSC_83 (by decide)) (Fr.fI u_44 kSC_83 (by decide))) e_25))
              refine y_c1 (n := 2) C0 (by decide) dX8_whereByEnvelopes_107 (fun v_71 e_72 => ?_)
              refine y_add C0 (o18_437 b_26 b_27 b_58 b_59 hn_57 e_62 e_63 qh_64 c_65 e_68 e_69 qh_70 e_72 (le_min v_66) (le_max v_66) (le_min v_71) (le_max v_71) (le_min f_24) (le_max f_24) (le_min x7_51) (le_max x7_51) (le_min v_60) (le_max v_60)) (o18_438 b_26 b_27 b_58 b_59 hn_57 e_62 e_63 qh_64 c_65 e_68 e_69 qh_70 e_72 (le_min v_66) (le_max v_66) (le_min v_71) (le_max v_71) (le_min f_24) (le_max f_24) (le_min x7_51) (le_max x7_51) (le_min v_60) (le_max v_60)) dX8_whereByEnvelopes_108 (fun v_73 e_74 => ?_)
              refine lv_iload C0.1 C0.2.1 dX8_whereByEnvelopes_109 (lv_at hl 3 rfl) ?_
              refine y_min C0 hl.1 q_1134 q_663 q_141 q_664 (Nat.le_of_ble_eq_true rfl) (Nat.le_of_ble_eq_true rfl) (Nat.le_of_ble_eq_true rfl) (Nat.le_of_ble_eq_true rfl) dX8_whereByEnvelopes_111 (fun v_75 e_76 => ?_)
              refine y_cv h (y_rV (As := [.int v_75]) (rest := []) C0 hZ h (c_X8_change l G Z ad _ h.2 v_75 (o18_439 fl0 fh0 e_3 e_4 qh_5 b_26 b_27 b_58 b_59 hn_57 e_62 e_63 qh_64 c_65 e_68 e_69 qh_70 e_72 e_74 e_76) (o18_440 fl0 fh0 e_3 e_4 qh_5 b_26 b_27 b_58 b_59 hn_57 e_62 e_63 qh_64 c_65 e_68 e_69 qh_70 e_72 e_74 e_76)) k_X8_change q_1137 q_39 q_1135 kSC_83 rfl rfl rfl hl.1 rfl rfl (Nat.le_of_ble_eq_true rfl) dX8_whereByEnvelopes_114 ⟨Nat.le_of_ble_eq_true rfl, Nat.le_of_ble_eq_true rfl⟩ ⟨Nat.le_of_ble_eq_true rfl, Nat.le_of_ble_eq_true rfl⟩) (fun H locs ws_77 h u_78 p_79 => ?_)
              obtain ⟨e_80, e_81⟩ := p_79
              replace HE : FT = g17c_X8_whereByEnvelopes R14 (xso SC ad ws_77) i2 a3.toInt v_1.toInt x5_15.toInt := HE.trans (by rw [e_80, (ix_min e_76), e_74, e_72, (xg0 e_67 : v_66.toInt = (xso SC ad ws_52) 0 83 4)]; rfl)
              refine y_inc (kp := 2) (n := 1) (fun v_82 => [(5, .int v_82), (7, .int x7_51), (6, .int r_46), (4, .int v_1), (0, .ref (ad 83)), (1, .int a1), (2, .ref (ad i2)), (3, .int a3)]) C0 hl rfl (by decide) (by decide) (fun _ => rfl) (o18_441 l3 u3 b_22 b_23 hn_21 c_28 (le_min x5_15) (le_max x5_15) (le_min a3) (le_max a3)) (o18_442 l3 u3 b_22 b_23 hn_21 c_28 (le_min x5_15) (le_max x5_15) (le_min a3) (le_max a3)) dX8_whereByEnvelopes_117 (fun v_82 ls e_83 hl => ?_)
              refine lv_goto (tgt := 14) C0.1 C0.2.1 dX8_whereByEnvelopes_120 (by decide) ?_
              exact ih_19 v_82 v_75 _ _ _ _ (o18_443 l3 u3 b_22 b_23 hn_21 c_28 e_83) (o18_444 l3 u3 b_22 b_23 hn_21 c_28 e_83) (o18_445 l3 u3 b_22 b_23 hn_21 c_28 e_83) (o18_439 fl0 fh0 e_3 e_4 qh_5 b_26 b_27 b_58 b_59 hn_57 e_62 e_63 qh_64 c_65 e_68 e_69 qh_70 e_72 e_74 e_76) (o18_446 fl0 fh0 e_3 e_4 qh_5 b_26 b_27 b_58 b_59 hn_57 e_62 e_63 qh_64 c_65 e_68 e_69 qh_70 e_72 e_74 e_76) (((show FT = R14 (xso SC ad ws_77) i2 a3.toInt v_1.toInt v_82.toInt from HE.trans (by rw [e_83]; rfl)).trans (by rw [hR14]))) (Eq.trans rfl e_81) h (Fr.tr (Fr.tr (Fr.tr hF_17 (Fr.mono u_44 (by decide))) (Fr.mono hF_53 (by decide))) (Fr.mono u_78 (by decide))) (lv_sub hl [0, 3, 4, 5, 6, 7] rfl)
            · -- 40
              replace HE : FT = g16_X8_whereByEnvelopes R14 R34 (xso SC ad ws_52) i2 a3.toInt v_1.toInt x5_15.toInt r_46.toInt x7_51.toInt := HE.trans (if_neg (Int.not_lt.mpr c_65))
              refine lv_aload_n C0.1 C0.2.1 dX8_whereByEnvelopes_43 rfl (lv_at hl 4 rfl) ?_
              refine y_c1 (n := 4) C0 (by decide) dX8_whereByEnvelopes_44 (fun v_84 e_85 => ?_)
              refine lv_iload C0.1 C0.2.1 dX8_whereByEnvelopes_45 (lv_at hl 0 rfl) ?_
              refine y_cmul (n := 4) C0 (o18_7 e_85) (o18_447 b_26 b_27 b_58 b_59 hn_57 e_62 e_63 qh_64 c_65 (le_min x7_51) (le_max x7_51) (le_min f_24) (le_max f_24) (le_min v_60) (le_max v_60)) (o18_448 b_26 b_27 b_58 b_59 hn_57 e_62 e_63 qh_64 c_65 (le_min x7_51) (le_max x7_51) (le_min f_24) (le_max f_24) (le_min v_60) (le_max v_60)) dX8_whereByEnvelopes_47 (fun v_86 e_87 => ?_)
              refine y_cv h (y_rV (As := [.int v_86]) (rest := []) C0 hZ h (c_X8_goByRights l G Z ad _ h.2 v_86 (o18_449 b_26 b_27 b_58 b_59 hn_57 e_62 e_63 qh_64 c_65 e_87) (o18_450 b_26 b_27 b_58 b_59 hn_57 e_62 e_63 qh_64 c_65 e_87)) k_X8_goByRights q_1105 q_36 q_1103 kSC_83 rfl rfl rfl hl.1 rfl rfl (Nat.le_of_ble_eq_true rfl) dX8_whereByEnvelopes_48 ⟨Nat.le_of_ble_eq_true rfl, Nat.le_of_ble_eq_true rfl⟩ ⟨Nat.le_of_ble_eq_true rfl, Nat.le_of_ble_eq_true rfl⟩) (fun H locs ws_88 h u_89 p_90 => ?_)
              have e_91 := p_90
              replace HE : FT = g18c_X8_whereByEnvelopes R14 R34 (xso SC ad ws_88) i2 a3.toInt v_1.toInt x5_15.toInt r_46.toInt x7_51.toInt := HE.trans (by rw [e_91, e_87]; rfl)
              refine lv_aload_n C0.1 C0.2.1 dX8_whereByEnvelopes_51 rfl (lv_at hl 4 rfl) ?_
              refine lv_iload C0.1 C0.2.1 dX8_whereByEnvelopes_52 (lv_at hl 2 rfl) ?_
              refine y_c1 (n := 2) C0 (by decide) dX8_whereByEnvelopes_54 (fun v_92 e_93 => ?_)
              refine y_c1 (n := 4) C0 (by decide) dX8_whereByEnvelopes_55 (fun v_94 e_95 => ?_)
              refine lv_iload C0.1 C0.2.1 dX8_whereByEnvelopes_56 (lv_at hl 0 rfl) ?_
              refine y_cmul (n := 4) C0 (o18_7 e_95) (o18_451 b_26 b_27 b_58 b_59 hn_57 e_62 e_63 qh_64 c_65 e_87 (le_min x7_51) (le_max x7_51) (le_min f_24) (le_max f_24) (le_min v_60) (le_max v_60) (le_min v_86) (le_max v_86)) (o18_452 b_26 b_27 b_58 b_59 hn_57 e_62 e_63 qh_64 c_65 e_87 (le_min x7_51) (le_max x7_51) (le_min f_24) (le_max f_24) (le_min v_60) (le_max v_60) (le_min v_86) (le_max v_86)) dX8_whereByEnvelopes_58 (fun v_96 e_97 => ?_)
              refine lv_iload C0.1 C0.2.1 dX8_whereByEnvelopes_59 (lv_at hl 1 rfl) ?_
              refine y_c1 (n := 4) C0 (by decide) dX8_whereByEnvelopes_61 (fun v_98 e_99 => ?_)
              refine lv_iload C0.1 C0.2.1 dX8_whereByEnvelopes_62 (lv_at hl 0 rfl) ?_
              refine y_cmul (n := 4) C0 (o18_7 e_99) (o18_453 b_26 b_27 b_58 b_59 hn_57 e_62 e_63 qh_64 c_65 e_87 e_97 (le_min x7_51) (le_max x7_51) (le_min f_24) (le_max f_24) (le_min v_60) (le_max v_60) (le_min v_86) (le_max v_86) (le_min v_96) (le_max v_96)) (o18_454 b_26 b_27 b_58 b_59 hn_57 e_62 e_63 qh_64 c_65 e_87 e_97 (le_min x7_51) (le_max x7_51) (le_min f_24) (le_max f_24) (le_min v_60) (le_max v_60) (le_min v_86) (le_max v_86) (le_min v_96) (le_max v_96)) dX8_whereByEnvelopes_64 (fun v_100 e_101 => ?_)
              refine y_cv h (y_rV (As := [.int x5_15, .int v_92, .int v_96, .int r_46, .int v_100]) (rest := []) C0 hZ h (c_X8_goByLeft l G Z ad _ h.2 x5_15 v_92 v_96 r_46 v_100 (o18_434 l3 u3 b_22 b_23 hn_21 c_28) (o18_435 l3 u3 b_22 b_23 hn_21 c_28) (o18_249 e_93) (o18_412 e_93) (o18_455 b_26 b_27 b_58 b_59 hn_57 e_62 e_63 qh_64 c_65 e_87 e_97 e_101) (o18_456 b_26 b_27 b_58 b_59 hn_57 e_62 e_63 qh_64 c_65 e_87 e_97 e_101) (o18_457 b_26 b_27 b_58 b_59 hn_57 e_62 e_63 qh_64 c_65 e_87 e_97 e_101) (o18_458 b_26 b_27 b_58 b_59 hn_57 e_62 e_63 qh_64 c_65 e_87 e_97 e_101)) k_X8_goByLeft q_1113 q_37 q_1111 kSC_83 rfl rfl rfl hl.1 rfl rfl (Nat.le_of_ble_eq_true rfl) dX8_whereByEnvelopes_65 ⟨Nat.le_of_ble_eq_true rfl, Nat.le_of_ble_eq_true rfl⟩ ⟨Nat.le_of_ble_eq_true rfl, Nat.le_of_ble_eq_true rfl⟩) (fun H locs ws_102 h u_103 p_104 => ?_)
              have e_105 := p_104
              replace HE : FT = g19c_X8_whereByEnvelopes R14 R34 (xso SC ad ws_102) i2 a3.toInt v_1.toInt x5_15.toInt r_46.toInt x7_51.toInt := HE.trans (by rw [e_105, e_101, e_97, e_93]; rfl)
              refine lv_aload_n C0.1 C0.2.1 dX8_whereByEnvelopes_68 rfl (lv_at hl 4 rfl) ?_
              refine lv_iload C0.1 C0.2.1 dX8_whereByEnvelopes_69 (lv_at hl 2 rfl) ?_
              refine y_c1 (n := 3) C0 (by decide) dX8_whereByEnvelopes_71 (fun v_106 e_107 => ?_)
              refine y_c1 (n := 4) C0 (by decide) dX8_whereByEnvelopes_72 (fun v_108 e_109 => ?_)
              refine lv_iload C0.1 C0.2.1 dX8_whereByEnvelopes_73 (lv_at hl 0 rfl) ?_
              refine y_cmul (n := 4) C0 (o18_7 e_109) (o18_459 b_26 b_27 b_58 b_59 hn_57 e_62 e_63 qh_64 c_65 e_87 e_97 e_101 (le_min x7_51) (le_max x7_51) (le_min f_24) (le_max f_24) (le_min v_60) (le_max v_60) (le_min v_86) (le_max v_86) (le_min v_96) (le_max v_96) (le_min v_100) (le_max v_100)) (o18_460 b_26 b_27 b_58 b_59 hn_57 e_62 e_63 qh_64 c_65 e_87 e_97 e_101 (le_min x7_51) (le_max x7_51) (le_min f_24) (le_max f_24) (le_min v_60) (le_max v_60) (le_min v_86) (le_max v_86) (le_min v_96) (le_max v_96) (le_min v_100) (le_max v_100)) dX8_whereByEnvelopes_75 (fun v_110 e_111 => ?_)
              refine lv_iload C0.1 C0.2.1 dX8_whereByEnvelopes_76 (lv_at hl 1 rfl) ?_
              refine y_c1 (n := 4) C0 (by decide) dX8_whereByEnvelopes_78 (fun v_112 e_113 => ?_)
              refine lv_iload C0.1 C0.2.1 dX8_whereByEnvelopes_79 (lv_at hl 0 rfl) ?_
              refine y_cmul (n := 4) C0 (o18_7 e_113) (o18_461 b_26 b_27 b_58 b_59 hn_57 e_62 e_63 qh_64 c_65 e_87 e_97 e_101 e_111 (le_min x7_51) (le_max x7_51) (le_min f_24) (le_max f_24) (le_min v_60) (le_max v_60) (le_min v_86) (le_max v_86) (le_min v_96) (le_max v_96) (le_min v_100) (le_max v_100) (le_min v_110) (le_max v_110)) (o18_462 b_26 b_27 b_58 b_59 hn_57 e_62 e_63 qh_64 c_65 e_87 e_97 e_101 e_111 (le_min x7_51) (le_max x7_51) (le_min f_24) (le_max f_24) (le_min v_60) (le_max v_60) (le_min v_86) (le_max v_86) (le_min v_96) (le_max v_96) (le_min v_100) (le_max v_100) (le_min v_110) (le_max v_110)) dX8_whereByEnvelopes_81 (fun v_114 e_115 => ?_)
              refine y_cv h (y_rV (As := [.int x5_15, .int v_106, .int v_110, .int r_46, .int v_114]) (rest := []) C0 hZ h (c_X8_goByLeft l G Z ad _ h.2 x5_15 v_106 v_110 r_46 v_114 (o18_434 l3 u3 b_22 b_23 hn_21 c_28) (o18_435 l3 u3 b_22 b_23 hn_21 c_28) (o18_425 e_107) (o18_426 e_107) (o18_463 b_26 b_27 b_58 b_59 hn_57 e_62 e_63 qh_64 c_65 e_87 e_97 e_101 e_111 e_115) (o18_464 b_26 b_27 b_58 b_59 hn_57 e_62 e_63 qh_64 c_65 e_87 e_97 e_101 e_111 e_115) (o18_465 b_26 b_27 b_58 b_59 hn_57 e_62 e_63 qh_64 c_65 e_87 e_97 e_101 e_111 e_115) (o18_466 b_26 b_27 b_58 b_59 hn_57 e_62 e_63 qh_64 c_65 e_87 e_97 e_101 e_111 e_115)) k_X8_goByLeft q_1113 q_37 q_1111 kSC_83 rfl rfl rfl hl.1 rfl rfl (Nat.le_of_ble_eq_true rfl) dX8_whereByEnvelopes_82 ⟨Nat.le_of_ble_eq_true rfl, Nat.le_of_ble_eq_true rfl⟩ ⟨Nat.le_of_ble_eq_true rfl, Nat.le_of_ble_eq_true rfl⟩) (fun H locs ws_116 h u_117 p_118 => ?_)
              have e_119 := p_118
              replace HE : FT = g20c_X8_whereByEnvelopes R14 R34 (xso SC ad ws_116) i2 a3.toInt v_1.toInt x5_15.toInt r_46.toInt x7_51.toInt := HE.trans (by rw [e_119, e_115, e_111, e_107]; rfl)
              refine lv_aload_n C0.1 C0.2.1 dX8_whereByEnvelopes_85 rfl (lv_at hl 4 rfl) ?_
              refine lv_iload C0.1 C0.2.1 dX8_whereByEnvelopes_86 (lv_at hl 2 rfl) ?_
              refine lv_iload C0.1 C0.2.1 dX8_whereByEnvelopes_88 (lv_at hl 0 rfl) ?_
              refine lv_iload C0.1 C0.2.1 dX8_whereByEnvelopes_90 (lv_at hl 1 rfl) ?_
              refine lv_aload_n C0.1 C0.2.1 dX8_whereByEnvelopes_92 rfl (lv_at hl 6 rfl) ?_
              refine y_cv h (y_rV (As := [.int x5_15, .int x7_51, .int r_46, .ref (ad i2)]) (rest := []) C0 hZ h (c_X8_goLeaving l G Z ad _ h.2 x5_15 x7_51 r_46 i2 hi2 (o18_434 l3 u3 b_22 b_23 hn_21 c_28) (o18_435 l3 u3 b_22 b_23 hn_21 c_28) (o18_467 b_26 b_27 b_58 b_59 hn_57 e_62 e_63 qh_64 c_65 e_87 e_97 e_101 e_111 e_115) (o18_468 b_26 b_27 b_58 b_59 hn_57 e_62 e_63 qh_64 c_65 e_87 e_97 e_101 e_111 e_115)) k_X8_goLeaving q_1352 q_52 q_1350 kSC_83 rfl rfl rfl hl.1 rfl rfl (Nat.le_of_ble_eq_true rfl) dX8_whereByEnvelopes_93 ⟨Nat.le_of_ble_eq_true rfl, Nat.le_of_ble_eq_true rfl⟩ ⟨Nat.le_of_ble_eq_true rfl, Nat.le_of_ble_eq_true rfl⟩) (fun H locs ws_120 h u_121 p_122 => ?_)
              have e_123 := p_122
              replace HE : FT = g21c_X8_whereByEnvelopes R14 R34 (xso SC ad ws_120) i2 a3.toInt v_1.toInt x5_15.toInt r_46.toInt x7_51.toInt := HE.trans (by rw [e_123]; rfl)
              refine y_inc (kp := 0) (n := 1) (fun v_124 => [(7, .int v_124), (6, .int r_46), (5, .int x5_15), (4, .int v_1), (0, .ref (ad 83)), (1, .int a1), (2, .ref (ad i2)), (3, .int a3)]) C0 hl rfl (by decide) (by decide) (fun _ => rfl) (o18_469 b_26 b_27 b_58 b_59 hn_57 e_62 e_63 qh_64 c_65 e_87 e_97 e_101 e_111 e_115 (le_min x7_51) (le_max x7_51) (le_min f_24) (le_max f_24) (le_min v_60) (le_max v_60) (le_min v_86) (le_max v_86) (le_min v_96) (le_max v_96) (le_min v_100) (le_max v_100) (le_min v_110) (le_max v_110) (le_min v_114) (le_max v_114)) (o18_470 b_26 b_27 b_58 b_59 hn_57 e_62 e_63 qh_64 c_65 e_87 e_97 e_101 e_111 e_115 (le_min x7_51) (le_max x7_51) (le_min f_24) (le_max f_24) (le_min v_60) (le_max v_60) (le_min v_86) (le_max v_86) (le_min v_96) (le_max v_96) (le_min v_100) (le_max v_100) (le_min v_110) (le_max v_110) (le_min v_114) (le_max v_114)) dX8_whereByEnvelopes_96 (fun v_124 ls e_125 hl => ?_)
              refine lv_goto (tgt := 34) C0.1 C0.2.1 dX8_whereByEnvelopes_99 (by decide) ?_
              exact ih_55 v_124 _ _ _ _ (o18_471 b_26 b_27 b_58 b_59 hn_57 e_62 e_63 qh_64 c_65 e_87 e_97 e_101 e_111 e_115 e_125) (o18_472 b_26 b_27 b_58 b_59 hn_57 e_62 e_63 qh_64 c_65 e_87 e_97 e_101 e_111 e_115 e_125) (o18_473 b_26 b_27 b_58 b_59 hn_57 e_62 e_63 qh_64 c_65 e_87 e_97 e_101 e_111 e_115 e_125) (((show FT = R34 (xso SC ad ws_120) i2 a3.toInt v_1.toInt x5_15.toInt r_46.toInt v_124.toInt from HE.trans (by rw [e_125]; rfl)).trans (by rw [hR34]))) h (Fr.tr (Fr.tr (Fr.tr (Fr.tr hF_53 (Fr.mono u_89 (by decide))) u_103) u_117) u_121) (lv_sub hl [0, 1, 2, 3, 4, 5, 6, 7] rfl)
        exact lp_54 ((11 - v_49.toInt + 1).toNat) v_49 _ _ _ _ (o18_474 e_50) (o18_1 e_50) (o18_475 e_50) ((show FT = L12_X8_whereByEnvelopes R14 (Int.toNat (11 - v_49.toInt + 1)) (xso SC ad ws_43) i2 a3.toInt v_1.toInt x5_15.toInt r_46.toInt v_49.toInt from HE.trans (by rw [e_50]; rfl))) h Fr.rf (lv_sub hl [0, 1, 2, 3, 4, 5, 6, 7] rfl)
  exact lp_18 ((30 - v_13.toInt + 1).toNat) v_13 f_11 _ _ _ _ (o18_476 e_14) (o18_1 e_14) (o18_477 e_14) (o18_478 e_10.1 e_10.2) (o18_479 e_10.1 e_10.2) ((show FT = L2_X8_whereByEnvelopes (Int.toNat (30 - v_13.toInt + 1)) (xso SC ad ws_6) i2 a3.toInt v_1.toInt v_13.toInt from HE.trans (by rw [e_14]; rfl))) (Eq.trans rfl e_12) h Fr.rf (lv_sub hl [0, 1, 2, 3, 4, 5] rfl)
