variable {tt : QQ}
theorem dX2_allowing_0 : decode cX2_allowing 0 = .ok (.aload_n 0, 1) := by decide +kernel
theorem dX2_allowing_1 : decode cX2_allowing 1 = .ok (.getfield 21, 3) := by decide +kernel
theorem dX2_allowing_4 : decode cX2_allowing 4 = .ok (.getfield 48, 3) := by decide +kernel
theorem dX2_allowing_7 : decode cX2_allowing 7 = .ok (.astore 4, 2) := by decide +kernel
theorem dX2_allowing_9 : decode cX2_allowing 9 = .ok (.aload 4, 2) := by decide +kernel
theorem dX2_allowing_11 : decode cX2_allowing 11 = .ok (.invokevirtual 52, 3) := by decide +kernel
theorem dX2_allowing_14 : decode cX2_allowing 14 = .ok (.ifCond .eq 13, 3) := by decide +kernel
theorem dX2_allowing_17 : decode cX2_allowing 17 = .ok (.aload_n 0, 1) := by decide +kernel
theorem dX2_allowing_18 : decode cX2_allowing 18 = .ok (.getfield 21, 3) := by decide +kernel
theorem dX2_allowing_21 : decode cX2_allowing 21 = .ok (.getfield 58, 3) := by decide +kernel
theorem dX2_allowing_24 : decode cX2_allowing 24 = .ok (.ifCond .gt 5, 3) := by decide +kernel
theorem dX2_allowing_27 : decode cX2_allowing 27 = .ok (.iload_n 3, 1) := by decide +kernel
theorem dX2_allowing_28 : decode cX2_allowing 28 = .ok (.ireturn, 1) := by decide +kernel
theorem dX2_allowing_29 : decode cX2_allowing 29 = .ok (.aload_n 0, 1) := by decide +kernel
theorem dX2_allowing_30 : decode cX2_allowing 30 = .ok (.iload_n 1, 1) := by decide +kernel
theorem dX2_allowing_31 : decode cX2_allowing 31 = .ok (.invokevirtual 44, 3) := by decide +kernel
theorem dX2_allowing_34 : decode cX2_allowing 34 = .ok (.iconst 4, 1) := by decide +kernel
theorem dX2_allowing_35 : decode cX2_allowing 35 = .ok (.aload 4, 2) := by decide +kernel
theorem dX2_allowing_37 : decode cX2_allowing 37 = .ok (.iload_n 1, 1) := by decide +kernel
theorem dX2_allowing_38 : decode cX2_allowing 38 = .ok (.invokevirtual 61, 3) := by decide +kernel
theorem dX2_allowing_41 : decode cX2_allowing 41 = .ok (.imul, 1) := by decide +kernel
theorem dX2_allowing_42 : decode cX2_allowing 42 = .ok (.aload 4, 2) := by decide +kernel
theorem dX2_allowing_44 : decode cX2_allowing 44 = .ok (.iload_n 2, 1) := by decide +kernel
theorem dX2_allowing_45 : decode cX2_allowing 45 = .ok (.invokevirtual 64, 3) := by decide +kernel
theorem dX2_allowing_48 : decode cX2_allowing 48 = .ok (.iadd, 1) := by decide +kernel
theorem dX2_allowing_49 : decode cX2_allowing 49 = .ok (.istore 5, 2) := by decide +kernel
theorem dX2_allowing_51 : decode cX2_allowing 51 = .ok (.iload_n 3, 1) := by decide +kernel
theorem dX2_allowing_52 : decode cX2_allowing 52 = .ok (.aload_n 0, 1) := by decide +kernel
theorem dX2_allowing_53 : decode cX2_allowing 53 = .ok (.getfield 15, 3) := by decide +kernel
theorem dX2_allowing_56 : decode cX2_allowing 56 = .ok (.iload 5, 2) := by decide +kernel
theorem dX2_allowing_58 : decode cX2_allowing 58 = .ok (.iaload, 1) := by decide +kernel
theorem dX2_allowing_59 : decode cX2_allowing 59 = .ok (.iconst (-1), 1) := by decide +kernel
theorem dX2_allowing_60 : decode cX2_allowing 60 = .ok (.ixor, 1) := by decide +kernel
theorem dX2_allowing_61 : decode cX2_allowing 61 = .ok (.iand, 1) := by decide +kernel
theorem dX2_allowing_62 : decode cX2_allowing 62 = .ok (.istore 6, 2) := by decide +kernel
theorem dX2_allowing_64 : decode cX2_allowing 64 = .ok (.iconst 0, 1) := by decide +kernel
theorem dX2_allowing_65 : decode cX2_allowing 65 = .ok (.istore 7, 2) := by decide +kernel
theorem dX2_allowing_67 : decode cX2_allowing 67 = .ok (.iload 7, 2) := by decide +kernel
theorem dX2_allowing_69 : decode cX2_allowing 69 = .ok (.bipush 25, 2) := by decide +kernel
theorem dX2_allowing_71 : decode cX2_allowing 71 = .ok (.if_icmp .ge 95, 3) := by decide +kernel
theorem dX2_allowing_74 : decode cX2_allowing 74 = .ok (.iload 6, 2) := by decide +kernel
theorem dX2_allowing_76 : decode cX2_allowing 76 = .ok (.iload 7, 2) := by decide +kernel
theorem dX2_allowing_78 : decode cX2_allowing 78 = .ok (.ishr, 1) := by decide +kernel
theorem dX2_allowing_79 : decode cX2_allowing 79 = .ok (.ifCond .eq 87, 3) := by decide +kernel
theorem dX2_allowing_82 : decode cX2_allowing 82 = .ok (.iload 6, 2) := by decide +kernel
theorem dX2_allowing_84 : decode cX2_allowing 84 = .ok (.iload 7, 2) := by decide +kernel
theorem dX2_allowing_86 : decode cX2_allowing 86 = .ok (.ishr, 1) := by decide +kernel
theorem dX2_allowing_87 : decode cX2_allowing 87 = .ok (.iconst 1, 1) := by decide +kernel
theorem dX2_allowing_88 : decode cX2_allowing 88 = .ok (.iand, 1) := by decide +kernel
theorem dX2_allowing_89 : decode cX2_allowing 89 = .ok (.ifCond .eq 71, 3) := by decide +kernel
theorem dX2_allowing_92 : decode cX2_allowing 92 = .ok (.aload 4, 2) := by decide +kernel
theorem dX2_allowing_94 : decode cX2_allowing 94 = .ok (.iload 7, 2) := by decide +kernel
theorem dX2_allowing_96 : decode cX2_allowing 96 = .ok (.aload_n 0, 1) := by decide +kernel
theorem dX2_allowing_97 : decode cX2_allowing 97 = .ok (.getfield 21, 3) := by decide +kernel
theorem dX2_allowing_100 : decode cX2_allowing 100 = .ok (.getfield 58, 3) := by decide +kernel
theorem dX2_allowing_103 : decode cX2_allowing 103 = .ok (.irem, 1) := by decide +kernel
theorem dX2_allowing_104 : decode cX2_allowing 104 = .ok (.iload 7, 2) := by decide +kernel
theorem dX2_allowing_106 : decode cX2_allowing 106 = .ok (.aload_n 0, 1) := by decide +kernel
theorem dX2_allowing_107 : decode cX2_allowing 107 = .ok (.getfield 21, 3) := by decide +kernel
theorem dX2_allowing_110 : decode cX2_allowing 110 = .ok (.getfield 58, 3) := by decide +kernel
theorem dX2_allowing_113 : decode cX2_allowing 113 = .ok (.idiv, 1) := by decide +kernel
theorem dX2_allowing_114 : decode cX2_allowing 114 = .ok (.aload_n 0, 1) := by decide +kernel
theorem dX2_allowing_115 : decode cX2_allowing 115 = .ok (.getfield 21, 3) := by decide +kernel
theorem dX2_allowing_118 : decode cX2_allowing 118 = .ok (.getfield 29, 3) := by decide +kernel
theorem dX2_allowing_121 : decode cX2_allowing 121 = .ok (.getfield 35, 3) := by decide +kernel
theorem dX2_allowing_124 : decode cX2_allowing 124 = .ok (.iload_n 1, 1) := by decide +kernel
theorem dX2_allowing_125 : decode cX2_allowing 125 = .ok (.iadd, 1) := by decide +kernel
theorem dX2_allowing_126 : decode cX2_allowing 126 = .ok (.aload_n 0, 1) := by decide +kernel
theorem dX2_allowing_127 : decode cX2_allowing 127 = .ok (.getfield 21, 3) := by decide +kernel
theorem dX2_allowing_130 : decode cX2_allowing 130 = .ok (.getfield 29, 3) := by decide +kernel
theorem dX2_allowing_133 : decode cX2_allowing 133 = .ok (.getfield 67, 3) := by decide +kernel
theorem dX2_allowing_136 : decode cX2_allowing 136 = .ok (.iload 7, 2) := by decide +kernel
theorem dX2_allowing_138 : decode cX2_allowing 138 = .ok (.iaload, 1) := by decide +kernel
theorem dX2_allowing_139 : decode cX2_allowing 139 = .ok (.iload_n 2, 1) := by decide +kernel
theorem dX2_allowing_140 : decode cX2_allowing 140 = .ok (.invokevirtual 70, 3) := by decide +kernel
theorem dX2_allowing_143 : decode cX2_allowing 143 = .ok (.ifCond .eq 17, 3) := by decide +kernel
theorem dX2_allowing_146 : decode cX2_allowing 146 = .ok (.aload_n 0, 1) := by decide +kernel
theorem dX2_allowing_147 : decode cX2_allowing 147 = .ok (.getfield 18, 3) := by decide +kernel
theorem dX2_allowing_150 : decode cX2_allowing 150 = .ok (.iload 5, 2) := by decide +kernel
theorem dX2_allowing_152 : decode cX2_allowing 152 = .ok (.dup2, 1) := by decide +kernel
theorem dX2_allowing_153 : decode cX2_allowing 153 = .ok (.iaload, 1) := by decide +kernel
theorem dX2_allowing_154 : decode cX2_allowing 154 = .ok (.iconst 1, 1) := by decide +kernel
theorem dX2_allowing_155 : decode cX2_allowing 155 = .ok (.iload 7, 2) := by decide +kernel
theorem dX2_allowing_157 : decode cX2_allowing 157 = .ok (.ishl, 1) := by decide +kernel
theorem dX2_allowing_158 : decode cX2_allowing 158 = .ok (.ior, 1) := by decide +kernel
theorem dX2_allowing_159 : decode cX2_allowing 159 = .ok (.iastore, 1) := by decide +kernel
theorem dX2_allowing_160 : decode cX2_allowing 160 = .ok (.iinc 7 1, 3) := by decide +kernel
theorem dX2_allowing_163 : decode cX2_allowing 163 = .ok (.goto (-96), 3) := by decide +kernel
theorem dX2_allowing_166 : decode cX2_allowing 166 = .ok (.aload_n 0, 1) := by decide +kernel
theorem dX2_allowing_167 : decode cX2_allowing 167 = .ok (.getfield 15, 3) := by decide +kernel
theorem dX2_allowing_170 : decode cX2_allowing 170 = .ok (.iload 5, 2) := by decide +kernel
theorem dX2_allowing_172 : decode cX2_allowing 172 = .ok (.dup2, 1) := by decide +kernel
theorem dX2_allowing_173 : decode cX2_allowing 173 = .ok (.iaload, 1) := by decide +kernel
theorem dX2_allowing_174 : decode cX2_allowing 174 = .ok (.iload_n 3, 1) := by decide +kernel
theorem dX2_allowing_175 : decode cX2_allowing 175 = .ok (.ior, 1) := by decide +kernel
theorem dX2_allowing_176 : decode cX2_allowing 176 = .ok (.iastore, 1) := by decide +kernel
theorem dX2_allowing_177 : decode cX2_allowing 177 = .ok (.iload_n 3, 1) := by decide +kernel
theorem dX2_allowing_178 : decode cX2_allowing 178 = .ok (.aload_n 0, 1) := by decide +kernel
theorem dX2_allowing_179 : decode cX2_allowing 179 = .ok (.getfield 18, 3) := by decide +kernel
theorem dX2_allowing_182 : decode cX2_allowing 182 = .ok (.iload 5, 2) := by decide +kernel
theorem dX2_allowing_184 : decode cX2_allowing 184 = .ok (.iaload, 1) := by decide +kernel
theorem dX2_allowing_185 : decode cX2_allowing 185 = .ok (.iand, 1) := by decide +kernel
theorem dX2_allowing_186 : decode cX2_allowing 186 = .ok (.ireturn, 1) := by decide +kernel
theorem dX2_beginUpTo_0 : decode cX2_beginUpTo 0 = .ok (.aload_n 0, 1) := by decide +kernel
theorem dX2_beginUpTo_1 : decode cX2_beginUpTo 1 = .ok (.getfield 25, 3) := by decide +kernel
theorem dX2_beginUpTo_4 : decode cX2_beginUpTo 4 = .ok (.iload_n 1, 1) := by decide +kernel
theorem dX2_beginUpTo_5 : decode cX2_beginUpTo 5 = .ok (.if_icmp .gt 88, 3) := by decide +kernel
theorem dX2_beginUpTo_8 : decode cX2_beginUpTo 8 = .ok (.aload_n 0, 1) := by decide +kernel
theorem dX2_beginUpTo_9 : decode cX2_beginUpTo 9 = .ok (.getfield 11, 3) := by decide +kernel
theorem dX2_beginUpTo_12 : decode cX2_beginUpTo 12 = .ok (.aload_n 0, 1) := by decide +kernel
theorem dX2_beginUpTo_13 : decode cX2_beginUpTo 13 = .ok (.getfield 25, 3) := by decide +kernel
theorem dX2_beginUpTo_16 : decode cX2_beginUpTo 16 = .ok (.aload_n 0, 1) := by decide +kernel
theorem dX2_beginUpTo_17 : decode cX2_beginUpTo 17 = .ok (.getfield 21, 3) := by decide +kernel
theorem dX2_beginUpTo_20 : decode cX2_beginUpTo 20 = .ok (.aload_n 0, 1) := by decide +kernel
theorem dX2_beginUpTo_21 : decode cX2_beginUpTo 21 = .ok (.getfield 21, 3) := by decide +kernel
theorem dX2_beginUpTo_24 : decode cX2_beginUpTo 24 = .ok (.getfield 29, 3) := by decide +kernel
theorem dX2_beginUpTo_27 : decode cX2_beginUpTo 27 = .ok (.getfield 35, 3) := by decide +kernel
theorem dX2_beginUpTo_30 : decode cX2_beginUpTo 30 = .ok (.aload_n 0, 1) := by decide +kernel
theorem dX2_beginUpTo_31 : decode cX2_beginUpTo 31 = .ok (.getfield 25, 3) := by decide +kernel
theorem dX2_beginUpTo_34 : decode cX2_beginUpTo 34 = .ok (.iadd, 1) := by decide +kernel
theorem dX2_beginUpTo_35 : decode cX2_beginUpTo 35 = .ok (.invokevirtual 40, 3) := by decide +kernel
theorem dX2_beginUpTo_38 : decode cX2_beginUpTo 38 = .ok (.iastore, 1) := by decide +kernel
theorem dX2_beginUpTo_39 : decode cX2_beginUpTo 39 = .ok (.iconst 0, 1) := by decide +kernel
theorem dX2_beginUpTo_40 : decode cX2_beginUpTo 40 = .ok (.istore_n 2, 1) := by decide +kernel
theorem dX2_beginUpTo_41 : decode cX2_beginUpTo 41 = .ok (.iload_n 2, 1) := by decide +kernel
theorem dX2_beginUpTo_42 : decode cX2_beginUpTo 42 = .ok (.iconst 4, 1) := by decide +kernel
theorem dX2_beginUpTo_43 : decode cX2_beginUpTo 43 = .ok (.if_icmp .ge 37, 3) := by decide +kernel
theorem dX2_beginUpTo_46 : decode cX2_beginUpTo 46 = .ok (.aload_n 0, 1) := by decide +kernel
theorem dX2_beginUpTo_47 : decode cX2_beginUpTo 47 = .ok (.getfield 15, 3) := by decide +kernel
theorem dX2_beginUpTo_50 : decode cX2_beginUpTo 50 = .ok (.iconst 4, 1) := by decide +kernel
theorem dX2_beginUpTo_51 : decode cX2_beginUpTo 51 = .ok (.aload_n 0, 1) := by decide +kernel
theorem dX2_beginUpTo_52 : decode cX2_beginUpTo 52 = .ok (.getfield 25, 3) := by decide +kernel
theorem dX2_beginUpTo_55 : decode cX2_beginUpTo 55 = .ok (.imul, 1) := by decide +kernel
theorem dX2_beginUpTo_56 : decode cX2_beginUpTo 56 = .ok (.iload_n 2, 1) := by decide +kernel
theorem dX2_beginUpTo_57 : decode cX2_beginUpTo 57 = .ok (.iadd, 1) := by decide +kernel
theorem dX2_beginUpTo_58 : decode cX2_beginUpTo 58 = .ok (.iconst 0, 1) := by decide +kernel
theorem dX2_beginUpTo_59 : decode cX2_beginUpTo 59 = .ok (.iastore, 1) := by decide +kernel
theorem dX2_beginUpTo_60 : decode cX2_beginUpTo 60 = .ok (.aload_n 0, 1) := by decide +kernel
theorem dX2_beginUpTo_61 : decode cX2_beginUpTo 61 = .ok (.getfield 18, 3) := by decide +kernel
theorem dX2_beginUpTo_64 : decode cX2_beginUpTo 64 = .ok (.iconst 4, 1) := by decide +kernel
theorem dX2_beginUpTo_65 : decode cX2_beginUpTo 65 = .ok (.aload_n 0, 1) := by decide +kernel
theorem dX2_beginUpTo_66 : decode cX2_beginUpTo 66 = .ok (.getfield 25, 3) := by decide +kernel
theorem dX2_beginUpTo_69 : decode cX2_beginUpTo 69 = .ok (.imul, 1) := by decide +kernel
theorem dX2_beginUpTo_70 : decode cX2_beginUpTo 70 = .ok (.iload_n 2, 1) := by decide +kernel
theorem dX2_beginUpTo_71 : decode cX2_beginUpTo 71 = .ok (.iadd, 1) := by decide +kernel
theorem dX2_beginUpTo_72 : decode cX2_beginUpTo 72 = .ok (.iconst 0, 1) := by decide +kernel
theorem dX2_beginUpTo_73 : decode cX2_beginUpTo 73 = .ok (.iastore, 1) := by decide +kernel
theorem dX2_beginUpTo_74 : decode cX2_beginUpTo 74 = .ok (.iinc 2 1, 3) := by decide +kernel
theorem dX2_beginUpTo_77 : decode cX2_beginUpTo 77 = .ok (.goto (-36), 3) := by decide +kernel
theorem dX2_beginUpTo_80 : decode cX2_beginUpTo 80 = .ok (.aload_n 0, 1) := by decide +kernel
theorem dX2_beginUpTo_81 : decode cX2_beginUpTo 81 = .ok (.dup, 1) := by decide +kernel
theorem dX2_beginUpTo_82 : decode cX2_beginUpTo 82 = .ok (.getfield 25, 3) := by decide +kernel
theorem dX2_beginUpTo_85 : decode cX2_beginUpTo 85 = .ok (.iconst 1, 1) := by decide +kernel
theorem dX2_beginUpTo_86 : decode cX2_beginUpTo 86 = .ok (.iadd, 1) := by decide +kernel
theorem dX2_beginUpTo_87 : decode cX2_beginUpTo 87 = .ok (.putfield 25, 3) := by decide +kernel
theorem dX2_beginUpTo_90 : decode cX2_beginUpTo 90 = .ok (.goto (-90), 3) := by decide +kernel
theorem dX2_beginUpTo_93 : decode cX2_beginUpTo 93 = .ok (.return_, 1) := by decide +kernel
theorem dX2_forget_0 : decode cX2_forget 0 = .ok (.aload_n 0, 1) := by decide +kernel
theorem dX2_forget_1 : decode cX2_forget 1 = .ok (.iconst 0, 1) := by decide +kernel
theorem dX2_forget_2 : decode cX2_forget 2 = .ok (.putfield 25, 3) := by decide +kernel
theorem dX2_forget_5 : decode cX2_forget 5 = .ok (.return_, 1) := by decide +kernel
theorem dX2_freeAt_0 : decode cX2_freeAt 0 = .ok (.aload_n 0, 1) := by decide +kernel
theorem dX2_freeAt_1 : decode cX2_freeAt 1 = .ok (.iload_n 1, 1) := by decide +kernel
theorem dX2_freeAt_2 : decode cX2_freeAt 2 = .ok (.invokevirtual 44, 3) := by decide +kernel
theorem dX2_freeAt_5 : decode cX2_freeAt 5 = .ok (.aload_n 0, 1) := by decide +kernel
theorem dX2_freeAt_6 : decode cX2_freeAt 6 = .ok (.getfield 11, 3) := by decide +kernel
theorem dX2_freeAt_9 : decode cX2_freeAt 9 = .ok (.iload_n 1, 1) := by decide +kernel
theorem dX2_freeAt_10 : decode cX2_freeAt 10 = .ok (.iaload, 1) := by decide +kernel
theorem dX2_freeAt_11 : decode cX2_freeAt 11 = .ok (.ireturn, 1) := by decide +kernel
theorem dX2_lefts_0 : decode cX2_lefts 0 = .ok (.iload_n 3, 1) := by decide +kernel
theorem dX2_lefts_1 : decode cX2_lefts 1 = .ok (.iconst 2, 1) := by decide +kernel
theorem dX2_lefts_2 : decode cX2_lefts 2 = .ok (.if_icmp .ge 5, 3) := by decide +kernel
theorem dX2_lefts_5 : decode cX2_lefts 5 = .ok (.iconst 0, 1) := by decide +kernel
theorem dX2_lefts_6 : decode cX2_lefts 6 = .ok (.ireturn, 1) := by decide +kernel
theorem dX2_lefts_7 : decode cX2_lefts 7 = .ok (.iload_n 2, 1) := by decide +kernel
theorem dX2_lefts_8 : decode cX2_lefts 8 = .ok (.iconst 2, 1) := by decide +kernel
theorem dX2_lefts_9 : decode cX2_lefts 9 = .ok (.ishr, 1) := by decide +kernel
theorem dX2_lefts_10 : decode cX2_lefts 10 = .ok (.istore 4, 2) := by decide +kernel
theorem dX2_lefts_12 : decode cX2_lefts 12 = .ok (.aload_n 0, 1) := by decide +kernel
theorem dX2_lefts_13 : decode cX2_lefts 13 = .ok (.iload_n 1, 1) := by decide +kernel
theorem dX2_lefts_14 : decode cX2_lefts 14 = .ok (.iload_n 2, 1) := by decide +kernel
theorem dX2_lefts_15 : decode cX2_lefts 15 = .ok (.getstatic 74, 3) := by decide +kernel
theorem dX2_lefts_18 : decode cX2_lefts 18 = .ok (.iload_n 3, 1) := by decide +kernel
theorem dX2_lefts_19 : decode cX2_lefts 19 = .ok (.iaload, 1) := by decide +kernel
theorem dX2_lefts_20 : decode cX2_lefts 20 = .ok (.iadd, 1) := by decide +kernel
theorem dX2_lefts_21 : decode cX2_lefts 21 = .ok (.iconst 3, 1) := by decide +kernel
theorem dX2_lefts_22 : decode cX2_lefts 22 = .ok (.iand, 1) := by decide +kernel
theorem dX2_lefts_23 : decode cX2_lefts 23 = .ok (.iconst 1, 1) := by decide +kernel
theorem dX2_lefts_24 : decode cX2_lefts 24 = .ok (.iload 4, 2) := by decide +kernel
theorem dX2_lefts_26 : decode cX2_lefts 26 = .ok (.ishl, 1) := by decide +kernel
theorem dX2_lefts_27 : decode cX2_lefts 27 = .ok (.invokevirtual 77, 3) := by decide +kernel
theorem dX2_lefts_30 : decode cX2_lefts 30 = .ok (.ifCond .ne 5, 3) := by decide +kernel
theorem dX2_lefts_33 : decode cX2_lefts 33 = .ok (.iconst (-1), 1) := by decide +kernel
theorem dX2_lefts_34 : decode cX2_lefts 34 = .ok (.ireturn, 1) := by decide +kernel
theorem dX2_lefts_35 : decode cX2_lefts 35 = .ok (.aload_n 0, 1) := by decide +kernel
theorem dX2_lefts_36 : decode cX2_lefts 36 = .ok (.iload_n 1, 1) := by decide +kernel
theorem dX2_lefts_37 : decode cX2_lefts 37 = .ok (.invokevirtual 81, 3) := by decide +kernel
theorem dX2_lefts_40 : decode cX2_lefts 40 = .ok (.iload 4, 2) := by decide +kernel
theorem dX2_lefts_42 : decode cX2_lefts 42 = .ok (.ishr, 1) := by decide +kernel
theorem dX2_lefts_43 : decode cX2_lefts 43 = .ok (.iconst 1, 1) := by decide +kernel
theorem dX2_lefts_44 : decode cX2_lefts 44 = .ok (.iand, 1) := by decide +kernel
theorem dX2_lefts_45 : decode cX2_lefts 45 = .ok (.ifCond .eq 7, 3) := by decide +kernel
theorem dX2_lefts_48 : decode cX2_lefts 48 = .ok (.iconst 0, 1) := by decide +kernel
theorem dX2_lefts_49 : decode cX2_lefts 49 = .ok (.goto 6, 3) := by decide +kernel
theorem dX2_lefts_52 : decode cX2_lefts 52 = .ok (.iload_n 3, 1) := by decide +kernel
theorem dX2_lefts_53 : decode cX2_lefts 53 = .ok (.iconst 1, 1) := by decide +kernel
theorem dX2_lefts_54 : decode cX2_lefts 54 = .ok (.isub, 1) := by decide +kernel
theorem dX2_lefts_55 : decode cX2_lefts 55 = .ok (.ireturn, 1) := by decide +kernel
theorem dX8_anyHeading_0 : decode cX8_anyHeading 0 = .ok (.iconst 4, 1) := by decide +kernel
theorem dX8_anyHeading_1 : decode cX8_anyHeading 1 = .ok (.iload_n 1, 1) := by decide +kernel
theorem dX8_anyHeading_2 : decode cX8_anyHeading 2 = .ok (.imul, 1) := by decide +kernel
theorem dX8_anyHeading_3 : decode cX8_anyHeading 3 = .ok (.istore_n 2, 1) := by decide +kernel
theorem dX8_anyHeading_4 : decode cX8_anyHeading 4 = .ok (.aload_n 0, 1) := by decide +kernel
theorem dX8_anyHeading_5 : decode cX8_anyHeading 5 = .ok (.getfield 11, 3) := by decide +kernel
theorem dX8_anyHeading_8 : decode cX8_anyHeading 8 = .ok (.iload_n 2, 1) := by decide +kernel
theorem dX8_anyHeading_9 : decode cX8_anyHeading 9 = .ok (.iaload, 1) := by decide +kernel
theorem dX8_anyHeading_10 : decode cX8_anyHeading 10 = .ok (.aload_n 0, 1) := by decide +kernel
theorem dX8_anyHeading_11 : decode cX8_anyHeading 11 = .ok (.getfield 11, 3) := by decide +kernel
theorem dX8_anyHeading_14 : decode cX8_anyHeading 14 = .ok (.iload_n 2, 1) := by decide +kernel
theorem dX8_anyHeading_15 : decode cX8_anyHeading 15 = .ok (.iconst 1, 1) := by decide +kernel
theorem dX8_anyHeading_16 : decode cX8_anyHeading 16 = .ok (.iadd, 1) := by decide +kernel
theorem dX8_anyHeading_17 : decode cX8_anyHeading 17 = .ok (.iaload, 1) := by decide +kernel
theorem dX8_anyHeading_18 : decode cX8_anyHeading 18 = .ok (.ior, 1) := by decide +kernel
theorem dX8_anyHeading_19 : decode cX8_anyHeading 19 = .ok (.aload_n 0, 1) := by decide +kernel
theorem dX8_anyHeading_20 : decode cX8_anyHeading 20 = .ok (.getfield 11, 3) := by decide +kernel
theorem dX8_anyHeading_23 : decode cX8_anyHeading 23 = .ok (.iload_n 2, 1) := by decide +kernel
theorem dX8_anyHeading_24 : decode cX8_anyHeading 24 = .ok (.iconst 2, 1) := by decide +kernel
theorem dX8_anyHeading_25 : decode cX8_anyHeading 25 = .ok (.iadd, 1) := by decide +kernel
theorem dX8_anyHeading_26 : decode cX8_anyHeading 26 = .ok (.iaload, 1) := by decide +kernel
theorem dX8_anyHeading_27 : decode cX8_anyHeading 27 = .ok (.ior, 1) := by decide +kernel
theorem dX8_anyHeading_28 : decode cX8_anyHeading 28 = .ok (.aload_n 0, 1) := by decide +kernel
theorem dX8_anyHeading_29 : decode cX8_anyHeading 29 = .ok (.getfield 11, 3) := by decide +kernel
theorem dX8_anyHeading_32 : decode cX8_anyHeading 32 = .ok (.iload_n 2, 1) := by decide +kernel
theorem dX8_anyHeading_33 : decode cX8_anyHeading 33 = .ok (.iconst 3, 1) := by decide +kernel
theorem dX8_anyHeading_34 : decode cX8_anyHeading 34 = .ok (.iadd, 1) := by decide +kernel
theorem dX8_anyHeading_35 : decode cX8_anyHeading 35 = .ok (.iaload, 1) := by decide +kernel
theorem dX8_anyHeading_36 : decode cX8_anyHeading 36 = .ok (.ior, 1) := by decide +kernel
theorem dX8_anyHeading_37 : decode cX8_anyHeading 37 = .ok (.ireturn, 1) := by decide +kernel
theorem dX8_begin_0 : decode cX8_begin 0 = .ok (.iconst 0, 1) := by decide +kernel
theorem dX8_begin_1 : decode cX8_begin 1 = .ok (.istore_n 2, 1) := by decide +kernel
theorem dX8_begin_2 : decode cX8_begin 2 = .ok (.iload_n 2, 1) := by decide +kernel
theorem dX8_begin_3 : decode cX8_begin 3 = .ok (.iconst 4, 1) := by decide +kernel
theorem dX8_begin_4 : decode cX8_begin 4 = .ok (.aload_n 0, 1) := by decide +kernel
theorem dX8_begin_5 : decode cX8_begin 5 = .ok (.getfield 29, 3) := by decide +kernel
theorem dX8_begin_8 : decode cX8_begin 8 = .ok (.imul, 1) := by decide +kernel
theorem dX8_begin_9 : decode cX8_begin 9 = .ok (.iconst 4, 1) := by decide +kernel
theorem dX8_begin_10 : decode cX8_begin 10 = .ok (.iadd, 1) := by decide +kernel
theorem dX8_begin_11 : decode cX8_begin 11 = .ok (.if_icmp .ge 16, 3) := by decide +kernel
theorem dX8_begin_14 : decode cX8_begin 14 = .ok (.aload_n 0, 1) := by decide +kernel
theorem dX8_begin_15 : decode cX8_begin 15 = .ok (.getfield 11, 3) := by decide +kernel
theorem dX8_begin_18 : decode cX8_begin 18 = .ok (.iload_n 2, 1) := by decide +kernel
theorem dX8_begin_19 : decode cX8_begin 19 = .ok (.iconst 0, 1) := by decide +kernel
theorem dX8_begin_20 : decode cX8_begin 20 = .ok (.iastore, 1) := by decide +kernel
theorem dX8_begin_21 : decode cX8_begin 21 = .ok (.iinc 2 1, 3) := by decide +kernel
theorem dX8_begin_24 : decode cX8_begin 24 = .ok (.goto (-22), 3) := by decide +kernel
theorem dX8_begin_27 : decode cX8_begin 27 = .ok (.aload_n 0, 1) := by decide +kernel
theorem dX8_begin_28 : decode cX8_begin 28 = .ok (.iconst 0, 1) := by decide +kernel
theorem dX8_begin_29 : decode cX8_begin 29 = .ok (.putfield 29, 3) := by decide +kernel
theorem dX8_begin_32 : decode cX8_begin 32 = .ok (.aload_n 0, 1) := by decide +kernel
theorem dX8_begin_33 : decode cX8_begin 33 = .ok (.getfield 11, 3) := by decide +kernel
theorem dX8_begin_36 : decode cX8_begin 36 = .ok (.iload_n 1, 1) := by decide +kernel
theorem dX8_begin_37 : decode cX8_begin 37 = .ok (.iconst 3, 1) := by decide +kernel
theorem dX8_begin_38 : decode cX8_begin 38 = .ok (.iand, 1) := by decide +kernel
theorem dX8_begin_39 : decode cX8_begin 39 = .ok (.iconst 1, 1) := by decide +kernel
theorem dX8_begin_40 : decode cX8_begin 40 = .ok (.iload_n 1, 1) := by decide +kernel
theorem dX8_begin_41 : decode cX8_begin 41 = .ok (.iconst 2, 1) := by decide +kernel
theorem dX8_begin_42 : decode cX8_begin 42 = .ok (.ishr, 1) := by decide +kernel
theorem dX8_begin_43 : decode cX8_begin 43 = .ok (.ishl, 1) := by decide +kernel
theorem dX8_begin_44 : decode cX8_begin 44 = .ok (.iastore, 1) := by decide +kernel
theorem dX8_begin_45 : decode cX8_begin 45 = .ok (.return_, 1) := by decide +kernel
theorem dX8_change_0 : decode cX8_change 0 = .ok (.aload_n 0, 1) := by decide +kernel
theorem dX8_change_1 : decode cX8_change 1 = .ok (.getfield 11, 3) := by decide +kernel
theorem dX8_change_4 : decode cX8_change 4 = .ok (.astore_n 2, 1) := by decide +kernel
theorem dX8_change_5 : decode cX8_change 5 = .ok (.aload_n 0, 1) := by decide +kernel
theorem dX8_change_6 : decode cX8_change 6 = .ok (.aload_n 0, 1) := by decide +kernel
theorem dX8_change_7 : decode cX8_change 7 = .ok (.getfield 15, 3) := by decide +kernel
theorem dX8_change_10 : decode cX8_change 10 = .ok (.putfield 11, 3) := by decide +kernel
theorem dX8_change_13 : decode cX8_change 13 = .ok (.aload_n 0, 1) := by decide +kernel
theorem dX8_change_14 : decode cX8_change 14 = .ok (.aload_n 2, 1) := by decide +kernel
theorem dX8_change_15 : decode cX8_change 15 = .ok (.putfield 15, 3) := by decide +kernel
theorem dX8_change_18 : decode cX8_change 18 = .ok (.iconst 0, 1) := by decide +kernel
theorem dX8_change_19 : decode cX8_change 19 = .ok (.istore_n 3, 1) := by decide +kernel
theorem dX8_change_20 : decode cX8_change 20 = .ok (.iload_n 3, 1) := by decide +kernel
theorem dX8_change_21 : decode cX8_change 21 = .ok (.iconst 4, 1) := by decide +kernel
theorem dX8_change_22 : decode cX8_change 22 = .ok (.aload_n 0, 1) := by decide +kernel
theorem dX8_change_23 : decode cX8_change 23 = .ok (.getfield 29, 3) := by decide +kernel
theorem dX8_change_26 : decode cX8_change 26 = .ok (.imul, 1) := by decide +kernel
theorem dX8_change_27 : decode cX8_change 27 = .ok (.iconst 4, 1) := by decide +kernel
theorem dX8_change_28 : decode cX8_change 28 = .ok (.iadd, 1) := by decide +kernel
theorem dX8_change_29 : decode cX8_change 29 = .ok (.if_icmp .ge 16, 3) := by decide +kernel
theorem dX8_change_32 : decode cX8_change 32 = .ok (.aload_n 0, 1) := by decide +kernel
theorem dX8_change_33 : decode cX8_change 33 = .ok (.getfield 15, 3) := by decide +kernel
theorem dX8_change_36 : decode cX8_change 36 = .ok (.iload_n 3, 1) := by decide +kernel
theorem dX8_change_37 : decode cX8_change 37 = .ok (.iconst 0, 1) := by decide +kernel
theorem dX8_change_38 : decode cX8_change 38 = .ok (.iastore, 1) := by decide +kernel
theorem dX8_change_39 : decode cX8_change 39 = .ok (.iinc 3 1, 3) := by decide +kernel
theorem dX8_change_42 : decode cX8_change 42 = .ok (.goto (-22), 3) := by decide +kernel
theorem dX8_change_45 : decode cX8_change 45 = .ok (.aload_n 0, 1) := by decide +kernel
theorem dX8_change_46 : decode cX8_change 46 = .ok (.iload_n 1, 1) := by decide +kernel
theorem dX8_change_47 : decode cX8_change 47 = .ok (.putfield 29, 3) := by decide +kernel
theorem dX8_change_50 : decode cX8_change 50 = .ok (.return_, 1) := by decide +kernel
theorem dX8_cornersToFree_0 : decode cX8_cornersToFree 0 = .ok (.aload_n 0, 1) := by decide +kernel
theorem dX8_cornersToFree_1 : decode cX8_cornersToFree 1 = .ok (.getfield 21, 3) := by decide +kernel
theorem dX8_cornersToFree_4 : decode cX8_cornersToFree 4 = .ok (.invokevirtual 105, 3) := by decide +kernel
theorem dX8_cornersToFree_7 : decode cX8_cornersToFree 7 = .ok (.istore 4, 2) := by decide +kernel
theorem dX8_cornersToFree_9 : decode cX8_cornersToFree 9 = .ok (.aload_n 0, 1) := by decide +kernel
theorem dX8_cornersToFree_10 : decode cX8_cornersToFree 10 = .ok (.iload_n 1, 1) := by decide +kernel
theorem dX8_cornersToFree_11 : decode cX8_cornersToFree 11 = .ok (.iload_n 2, 1) := by decide +kernel
theorem dX8_cornersToFree_12 : decode cX8_cornersToFree 12 = .ok (.iconst 0, 1) := by decide +kernel
theorem dX8_cornersToFree_13 : decode cX8_cornersToFree 13 = .ok (.iload_n 3, 1) := by decide +kernel
theorem dX8_cornersToFree_14 : decode cX8_cornersToFree 14 = .ok (.iconst 0, 1) := by decide +kernel
theorem dX8_cornersToFree_15 : decode cX8_cornersToFree 15 = .ok (.invokevirtual 109, 3) := by decide +kernel
theorem dX8_cornersToFree_18 : decode cX8_cornersToFree 18 = .ok (.ifCond .lt 5, 3) := by decide +kernel
theorem dX8_cornersToFree_21 : decode cX8_cornersToFree 21 = .ok (.iconst 0, 1) := by decide +kernel
theorem dX8_cornersToFree_22 : decode cX8_cornersToFree 22 = .ok (.ireturn, 1) := by decide +kernel
theorem dX8_cornersToFree_23 : decode cX8_cornersToFree 23 = .ok (.aload_n 0, 1) := by decide +kernel
theorem dX8_cornersToFree_24 : decode cX8_cornersToFree 24 = .ok (.iload_n 1, 1) := by decide +kernel
theorem dX8_cornersToFree_25 : decode cX8_cornersToFree 25 = .ok (.iload_n 2, 1) := by decide +kernel
theorem dX8_cornersToFree_26 : decode cX8_cornersToFree 26 = .ok (.iconst 0, 1) := by decide +kernel
theorem dX8_cornersToFree_27 : decode cX8_cornersToFree 27 = .ok (.iload_n 3, 1) := by decide +kernel
theorem dX8_cornersToFree_28 : decode cX8_cornersToFree 28 = .ok (.iconst 1, 1) := by decide +kernel
theorem dX8_cornersToFree_29 : decode cX8_cornersToFree 29 = .ok (.iload 4, 2) := by decide +kernel
theorem dX8_cornersToFree_31 : decode cX8_cornersToFree 31 = .ok (.ishl, 1) := by decide +kernel
theorem dX8_cornersToFree_32 : decode cX8_cornersToFree 32 = .ok (.iconst 1, 1) := by decide +kernel
theorem dX8_cornersToFree_33 : decode cX8_cornersToFree 33 = .ok (.isub, 1) := by decide +kernel
theorem dX8_cornersToFree_34 : decode cX8_cornersToFree 34 = .ok (.invokevirtual 109, 3) := by decide +kernel
theorem dX8_cornersToFree_37 : decode cX8_cornersToFree 37 = .ok (.ifCond .ge 5, 3) := by decide +kernel
theorem dX8_cornersToFree_40 : decode cX8_cornersToFree 40 = .ok (.iconst (-1), 1) := by decide +kernel
theorem dX8_cornersToFree_41 : decode cX8_cornersToFree 41 = .ok (.ireturn, 1) := by decide +kernel
theorem dX8_cornersToFree_42 : decode cX8_cornersToFree 42 = .ok (.iconst 0, 1) := by decide +kernel
theorem dX8_cornersToFree_43 : decode cX8_cornersToFree 43 = .ok (.istore 5, 2) := by decide +kernel
theorem dX8_cornersToFree_45 : decode cX8_cornersToFree 45 = .ok (.iload 5, 2) := by decide +kernel
theorem dX8_cornersToFree_47 : decode cX8_cornersToFree 47 = .ok (.iload 4, 2) := by decide +kernel
theorem dX8_cornersToFree_49 : decode cX8_cornersToFree 49 = .ok (.if_icmp .ge 29, 3) := by decide +kernel
theorem dX8_cornersToFree_52 : decode cX8_cornersToFree 52 = .ok (.aload_n 0, 1) := by decide +kernel
theorem dX8_cornersToFree_53 : decode cX8_cornersToFree 53 = .ok (.iload_n 1, 1) := by decide +kernel
theorem dX8_cornersToFree_54 : decode cX8_cornersToFree 54 = .ok (.iload_n 2, 1) := by decide +kernel
theorem dX8_cornersToFree_55 : decode cX8_cornersToFree 55 = .ok (.iconst 0, 1) := by decide +kernel
theorem dX8_cornersToFree_56 : decode cX8_cornersToFree 56 = .ok (.iload_n 3, 1) := by decide +kernel
theorem dX8_cornersToFree_57 : decode cX8_cornersToFree 57 = .ok (.iconst 1, 1) := by decide +kernel
theorem dX8_cornersToFree_58 : decode cX8_cornersToFree 58 = .ok (.iload 5, 2) := by decide +kernel
theorem dX8_cornersToFree_60 : decode cX8_cornersToFree 60 = .ok (.ishl, 1) := by decide +kernel
theorem dX8_cornersToFree_61 : decode cX8_cornersToFree 61 = .ok (.invokevirtual 109, 3) := by decide +kernel
theorem dX8_cornersToFree_64 : decode cX8_cornersToFree 64 = .ok (.ifCond .lt 8, 3) := by decide +kernel
theorem dX8_cornersToFree_67 : decode cX8_cornersToFree 67 = .ok (.iconst 1, 1) := by decide +kernel
theorem dX8_cornersToFree_68 : decode cX8_cornersToFree 68 = .ok (.iload 5, 2) := by decide +kernel
theorem dX8_cornersToFree_70 : decode cX8_cornersToFree 70 = .ok (.ishl, 1) := by decide +kernel
theorem dX8_cornersToFree_71 : decode cX8_cornersToFree 71 = .ok (.ireturn, 1) := by decide +kernel
theorem dX8_cornersToFree_72 : decode cX8_cornersToFree 72 = .ok (.iinc 5 1, 3) := by decide +kernel
theorem dX8_cornersToFree_75 : decode cX8_cornersToFree 75 = .ok (.goto (-30), 3) := by decide +kernel
theorem dX8_cornersToFree_78 : decode cX8_cornersToFree 78 = .ok (.iconst 1, 1) := by decide +kernel
theorem dX8_cornersToFree_79 : decode cX8_cornersToFree 79 = .ok (.istore 5, 2) := by decide +kernel
theorem dX8_cornersToFree_81 : decode cX8_cornersToFree 81 = .ok (.iload 5, 2) := by decide +kernel
theorem dX8_cornersToFree_83 : decode cX8_cornersToFree 83 = .ok (.iload 4, 2) := by decide +kernel
theorem dX8_cornersToFree_85 : decode cX8_cornersToFree 85 = .ok (.if_icmp .ge 55, 3) := by decide +kernel
theorem dX8_cornersToFree_88 : decode cX8_cornersToFree 88 = .ok (.iconst 0, 1) := by decide +kernel
theorem dX8_cornersToFree_89 : decode cX8_cornersToFree 89 = .ok (.istore 6, 2) := by decide +kernel
theorem dX8_cornersToFree_91 : decode cX8_cornersToFree 91 = .ok (.iload 6, 2) := by decide +kernel
theorem dX8_cornersToFree_93 : decode cX8_cornersToFree 93 = .ok (.iload 5, 2) := by decide +kernel
theorem dX8_cornersToFree_95 : decode cX8_cornersToFree 95 = .ok (.if_icmp .ge 39, 3) := by decide +kernel
theorem dX8_cornersToFree_98 : decode cX8_cornersToFree 98 = .ok (.aload_n 0, 1) := by decide +kernel
theorem dX8_cornersToFree_99 : decode cX8_cornersToFree 99 = .ok (.iload_n 1, 1) := by decide +kernel
theorem dX8_cornersToFree_100 : decode cX8_cornersToFree 100 = .ok (.iload_n 2, 1) := by decide +kernel
theorem dX8_cornersToFree_101 : decode cX8_cornersToFree 101 = .ok (.iconst 0, 1) := by decide +kernel
theorem dX8_cornersToFree_102 : decode cX8_cornersToFree 102 = .ok (.iload_n 3, 1) := by decide +kernel
theorem dX8_cornersToFree_103 : decode cX8_cornersToFree 103 = .ok (.iconst 1, 1) := by decide +kernel
theorem dX8_cornersToFree_104 : decode cX8_cornersToFree 104 = .ok (.iload 6, 2) := by decide +kernel
theorem dX8_cornersToFree_106 : decode cX8_cornersToFree 106 = .ok (.ishl, 1) := by decide +kernel
theorem dX8_cornersToFree_107 : decode cX8_cornersToFree 107 = .ok (.iconst 1, 1) := by decide +kernel
theorem dX8_cornersToFree_108 : decode cX8_cornersToFree 108 = .ok (.iload 5, 2) := by decide +kernel
theorem dX8_cornersToFree_110 : decode cX8_cornersToFree 110 = .ok (.ishl, 1) := by decide +kernel
theorem dX8_cornersToFree_111 : decode cX8_cornersToFree 111 = .ok (.ior, 1) := by decide +kernel
theorem dX8_cornersToFree_112 : decode cX8_cornersToFree 112 = .ok (.invokevirtual 109, 3) := by decide +kernel
theorem dX8_cornersToFree_115 : decode cX8_cornersToFree 115 = .ok (.ifCond .lt 13, 3) := by decide +kernel
theorem dX8_cornersToFree_118 : decode cX8_cornersToFree 118 = .ok (.iconst 1, 1) := by decide +kernel
theorem dX8_cornersToFree_119 : decode cX8_cornersToFree 119 = .ok (.iload 6, 2) := by decide +kernel
theorem dX8_cornersToFree_121 : decode cX8_cornersToFree 121 = .ok (.ishl, 1) := by decide +kernel
theorem dX8_cornersToFree_122 : decode cX8_cornersToFree 122 = .ok (.iconst 1, 1) := by decide +kernel
theorem dX8_cornersToFree_123 : decode cX8_cornersToFree 123 = .ok (.iload 5, 2) := by decide +kernel
theorem dX8_cornersToFree_125 : decode cX8_cornersToFree 125 = .ok (.ishl, 1) := by decide +kernel
theorem dX8_cornersToFree_126 : decode cX8_cornersToFree 126 = .ok (.ior, 1) := by decide +kernel
theorem dX8_cornersToFree_127 : decode cX8_cornersToFree 127 = .ok (.ireturn, 1) := by decide +kernel
theorem dX8_cornersToFree_128 : decode cX8_cornersToFree 128 = .ok (.iinc 6 1, 3) := by decide +kernel
theorem dX8_cornersToFree_131 : decode cX8_cornersToFree 131 = .ok (.goto (-40), 3) := by decide +kernel
theorem dX8_cornersToFree_134 : decode cX8_cornersToFree 134 = .ok (.iinc 5 1, 3) := by decide +kernel
theorem dX8_cornersToFree_137 : decode cX8_cornersToFree 137 = .ok (.goto (-56), 3) := by decide +kernel
theorem dX8_cornersToFree_140 : decode cX8_cornersToFree 140 = .ok (.iconst (-1), 1) := by decide +kernel
theorem dX8_cornersToFree_141 : decode cX8_cornersToFree 141 = .ok (.ireturn, 1) := by decide +kernel
theorem dX8_fewestLefts_0 : decode cX8_fewestLefts 0 = .ok (.aload_n 0, 1) := by decide +kernel
theorem dX8_fewestLefts_1 : decode cX8_fewestLefts 1 = .ok (.iload_n 1, 1) := by decide +kernel
theorem dX8_fewestLefts_2 : decode cX8_fewestLefts 2 = .ok (.invokevirtual 80, 3) := by decide +kernel
theorem dX8_fewestLefts_5 : decode cX8_fewestLefts 5 = .ok (.iconst (-1), 1) := by decide +kernel
theorem dX8_fewestLefts_6 : decode cX8_fewestLefts 6 = .ok (.istore 6, 2) := by decide +kernel
theorem dX8_fewestLefts_8 : decode cX8_fewestLefts 8 = .ok (.bipush 120, 2) := by decide +kernel
theorem dX8_fewestLefts_10 : decode cX8_fewestLefts 10 = .ok (.istore 7, 2) := by decide +kernel
theorem dX8_fewestLefts_12 : decode cX8_fewestLefts 12 = .ok (.iconst 0, 1) := by decide +kernel
theorem dX8_fewestLefts_13 : decode cX8_fewestLefts 13 = .ok (.istore 8, 2) := by decide +kernel
theorem dX8_fewestLefts_15 : decode cX8_fewestLefts 15 = .ok (.iload 8, 2) := by decide +kernel
theorem dX8_fewestLefts_17 : decode cX8_fewestLefts 17 = .ok (.iload 4, 2) := by decide +kernel
theorem dX8_fewestLefts_19 : decode cX8_fewestLefts 19 = .ok (.if_icmp .gt 68, 3) := by decide +kernel
theorem dX8_fewestLefts_22 : decode cX8_fewestLefts 22 = .ok (.iload 7, 2) := by decide +kernel
theorem dX8_fewestLefts_24 : decode cX8_fewestLefts 24 = .ok (.ifCond .lt 63, 3) := by decide +kernel
theorem dX8_fewestLefts_27 : decode cX8_fewestLefts 27 = .ok (.aload_n 0, 1) := by decide +kernel
theorem dX8_fewestLefts_28 : decode cX8_fewestLefts 28 = .ok (.iload_n 3, 1) := by decide +kernel
theorem dX8_fewestLefts_29 : decode cX8_fewestLefts 29 = .ok (.iload 7, 2) := by decide +kernel
theorem dX8_fewestLefts_31 : decode cX8_fewestLefts 31 = .ok (.invokevirtual 83, 3) := by decide +kernel
theorem dX8_fewestLefts_34 : decode cX8_fewestLefts 34 = .ok (.istore 9, 2) := by decide +kernel
theorem dX8_fewestLefts_36 : decode cX8_fewestLefts 36 = .ok (.iload 9, 2) := by decide +kernel
theorem dX8_fewestLefts_38 : decode cX8_fewestLefts 38 = .ok (.ifCond .lt 19, 3) := by decide +kernel
theorem dX8_fewestLefts_41 : decode cX8_fewestLefts 41 = .ok (.iload 9, 2) := by decide +kernel
theorem dX8_fewestLefts_43 : decode cX8_fewestLefts 43 = .ok (.istore 6, 2) := by decide +kernel
theorem dX8_fewestLefts_45 : decode cX8_fewestLefts 45 = .ok (.aload_n 0, 1) := by decide +kernel
theorem dX8_fewestLefts_46 : decode cX8_fewestLefts 46 = .ok (.iload 8, 2) := by decide +kernel
theorem dX8_fewestLefts_48 : decode cX8_fewestLefts 48 = .ok (.putfield 90, 3) := by decide +kernel
theorem dX8_fewestLefts_51 : decode cX8_fewestLefts 51 = .ok (.iload 9, 2) := by decide +kernel
theorem dX8_fewestLefts_53 : decode cX8_fewestLefts 53 = .ok (.iconst 1, 1) := by decide +kernel
theorem dX8_fewestLefts_54 : decode cX8_fewestLefts 54 = .ok (.isub, 1) := by decide +kernel
theorem dX8_fewestLefts_55 : decode cX8_fewestLefts 55 = .ok (.istore 7, 2) := by decide +kernel
theorem dX8_fewestLefts_57 : decode cX8_fewestLefts 57 = .ok (.iload 8, 2) := by decide +kernel
theorem dX8_fewestLefts_59 : decode cX8_fewestLefts 59 = .ok (.iload 4, 2) := by decide +kernel
theorem dX8_fewestLefts_61 : decode cX8_fewestLefts 61 = .ok (.if_icmp .ge 20, 3) := by decide +kernel
theorem dX8_fewestLefts_64 : decode cX8_fewestLefts 64 = .ok (.iload 7, 2) := by decide +kernel
theorem dX8_fewestLefts_66 : decode cX8_fewestLefts 66 = .ok (.ifCond .lt 15, 3) := by decide +kernel
theorem dX8_fewestLefts_69 : decode cX8_fewestLefts 69 = .ok (.aload_n 0, 1) := by decide +kernel
theorem dX8_fewestLefts_70 : decode cX8_fewestLefts 70 = .ok (.iload_n 2, 1) := by decide +kernel
theorem dX8_fewestLefts_71 : decode cX8_fewestLefts 71 = .ok (.iload 8, 2) := by decide +kernel
theorem dX8_fewestLefts_73 : decode cX8_fewestLefts 73 = .ok (.iadd, 1) := by decide +kernel
theorem dX8_fewestLefts_74 : decode cX8_fewestLefts 74 = .ok (.iload 5, 2) := by decide +kernel
theorem dX8_fewestLefts_76 : decode cX8_fewestLefts 76 = .ok (.iload 7, 2) := by decide +kernel
theorem dX8_fewestLefts_78 : decode cX8_fewestLefts 78 = .ok (.invokevirtual 86, 3) := by decide +kernel
theorem dX8_fewestLefts_81 : decode cX8_fewestLefts 81 = .ok (.iinc 8 1, 3) := by decide +kernel
theorem dX8_fewestLefts_84 : decode cX8_fewestLefts 84 = .ok (.goto (-69), 3) := by decide +kernel
theorem dX8_fewestLefts_87 : decode cX8_fewestLefts 87 = .ok (.iload 6, 2) := by decide +kernel
theorem dX8_fewestLefts_89 : decode cX8_fewestLefts 89 = .ok (.ireturn, 1) := by decide +kernel
theorem dX8_fewestStreets_0 : decode cX8_fewestStreets 0 = .ok (.aload_n 0, 1) := by decide +kernel
theorem dX8_fewestStreets_1 : decode cX8_fewestStreets 1 = .ok (.iload_n 1, 1) := by decide +kernel
theorem dX8_fewestStreets_2 : decode cX8_fewestStreets 2 = .ok (.invokevirtual 80, 3) := by decide +kernel
theorem dX8_fewestStreets_5 : decode cX8_fewestStreets 5 = .ok (.iconst 0, 1) := by decide +kernel
theorem dX8_fewestStreets_6 : decode cX8_fewestStreets 6 = .ok (.istore 6, 2) := by decide +kernel
theorem dX8_fewestStreets_8 : decode cX8_fewestStreets 8 = .ok (.iload 6, 2) := by decide +kernel
theorem dX8_fewestStreets_10 : decode cX8_fewestStreets 10 = .ok (.iload 4, 2) := by decide +kernel
theorem dX8_fewestStreets_12 : decode cX8_fewestStreets 12 = .ok (.if_icmp .gt 37, 3) := by decide +kernel
theorem dX8_fewestStreets_15 : decode cX8_fewestStreets 15 = .ok (.aload_n 0, 1) := by decide +kernel
theorem dX8_fewestStreets_16 : decode cX8_fewestStreets 16 = .ok (.iload_n 2, 1) := by decide +kernel
theorem dX8_fewestStreets_17 : decode cX8_fewestStreets 17 = .ok (.iload_n 3, 1) := by decide +kernel
theorem dX8_fewestStreets_18 : decode cX8_fewestStreets 18 = .ok (.invokevirtual 83, 3) := by decide +kernel
theorem dX8_fewestStreets_21 : decode cX8_fewestStreets 21 = .ok (.ifCond .lt 6, 3) := by decide +kernel
theorem dX8_fewestStreets_24 : decode cX8_fewestStreets 24 = .ok (.iload 6, 2) := by decide +kernel
theorem dX8_fewestStreets_26 : decode cX8_fewestStreets 26 = .ok (.ireturn, 1) := by decide +kernel
theorem dX8_fewestStreets_27 : decode cX8_fewestStreets 27 = .ok (.iload 6, 2) := by decide +kernel
theorem dX8_fewestStreets_29 : decode cX8_fewestStreets 29 = .ok (.iload 4, 2) := by decide +kernel
theorem dX8_fewestStreets_31 : decode cX8_fewestStreets 31 = .ok (.if_icmp .ge 12, 3) := by decide +kernel
theorem dX8_fewestStreets_34 : decode cX8_fewestStreets 34 = .ok (.aload_n 0, 1) := by decide +kernel
theorem dX8_fewestStreets_35 : decode cX8_fewestStreets 35 = .ok (.iload 6, 2) := by decide +kernel
theorem dX8_fewestStreets_37 : decode cX8_fewestStreets 37 = .ok (.iload 5, 2) := by decide +kernel
theorem dX8_fewestStreets_39 : decode cX8_fewestStreets 39 = .ok (.iload_n 3, 1) := by decide +kernel
theorem dX8_fewestStreets_40 : decode cX8_fewestStreets 40 = .ok (.invokevirtual 86, 3) := by decide +kernel
theorem dX8_fewestStreets_43 : decode cX8_fewestStreets 43 = .ok (.iinc 6 1, 3) := by decide +kernel
theorem dX8_fewestStreets_46 : decode cX8_fewestStreets 46 = .ok (.goto (-38), 3) := by decide +kernel
theorem dX8_fewestStreets_49 : decode cX8_fewestStreets 49 = .ok (.iconst (-1), 1) := by decide +kernel
theorem dX8_fewestStreets_50 : decode cX8_fewestStreets 50 = .ok (.ireturn, 1) := by decide +kernel
theorem dX8_goByLeft_0 : decode cX8_goByLeft 0 = .ok (.iconst 0, 1) := by decide +kernel
theorem dX8_goByLeft_1 : decode cX8_goByLeft 1 = .ok (.istore 6, 2) := by decide +kernel
theorem dX8_goByLeft_3 : decode cX8_goByLeft 3 = .ok (.iload 6, 2) := by decide +kernel
theorem dX8_goByLeft_5 : decode cX8_goByLeft 5 = .ok (.iconst 4, 1) := by decide +kernel
theorem dX8_goByLeft_6 : decode cX8_goByLeft 6 = .ok (.if_icmp .ge 85, 3) := by decide +kernel
theorem dX8_goByLeft_9 : decode cX8_goByLeft 9 = .ok (.iload 6, 2) := by decide +kernel
theorem dX8_goByLeft_11 : decode cX8_goByLeft 11 = .ok (.getstatic 44, 3) := by decide +kernel
theorem dX8_goByLeft_14 : decode cX8_goByLeft 14 = .ok (.iload_n 2, 1) := by decide +kernel
theorem dX8_goByLeft_15 : decode cX8_goByLeft 15 = .ok (.iaload, 1) := by decide +kernel
theorem dX8_goByLeft_16 : decode cX8_goByLeft 16 = .ok (.iadd, 1) := by decide +kernel
theorem dX8_goByLeft_17 : decode cX8_goByLeft 17 = .ok (.iconst 3, 1) := by decide +kernel
theorem dX8_goByLeft_18 : decode cX8_goByLeft 18 = .ok (.iand, 1) := by decide +kernel
theorem dX8_goByLeft_19 : decode cX8_goByLeft 19 = .ok (.istore 7, 2) := by decide +kernel
theorem dX8_goByLeft_21 : decode cX8_goByLeft 21 = .ok (.aload_n 0, 1) := by decide +kernel
theorem dX8_goByLeft_22 : decode cX8_goByLeft 22 = .ok (.getfield 11, 3) := by decide +kernel
theorem dX8_goByLeft_25 : decode cX8_goByLeft 25 = .ok (.iload_n 3, 1) := by decide +kernel
theorem dX8_goByLeft_26 : decode cX8_goByLeft 26 = .ok (.iload 6, 2) := by decide +kernel
theorem dX8_goByLeft_28 : decode cX8_goByLeft 28 = .ok (.iadd, 1) := by decide +kernel
theorem dX8_goByLeft_29 : decode cX8_goByLeft 29 = .ok (.iaload, 1) := by decide +kernel
theorem dX8_goByLeft_30 : decode cX8_goByLeft 30 = .ok (.iload 4, 2) := by decide +kernel
theorem dX8_goByLeft_32 : decode cX8_goByLeft 32 = .ok (.iand, 1) := by decide +kernel
theorem dX8_goByLeft_33 : decode cX8_goByLeft 33 = .ok (.aload_n 0, 1) := by decide +kernel
theorem dX8_goByLeft_34 : decode cX8_goByLeft 34 = .ok (.getfield 21, 3) := by decide +kernel
theorem dX8_goByLeft_37 : decode cX8_goByLeft 37 = .ok (.getfield 47, 3) := by decide +kernel
theorem dX8_goByLeft_40 : decode cX8_goByLeft 40 = .ok (.iload 7, 2) := by decide +kernel
theorem dX8_goByLeft_42 : decode cX8_goByLeft 42 = .ok (.iaload, 1) := by decide +kernel
theorem dX8_goByLeft_43 : decode cX8_goByLeft 43 = .ok (.iand, 1) := by decide +kernel
theorem dX8_goByLeft_44 : decode cX8_goByLeft 44 = .ok (.istore 8, 2) := by decide +kernel
theorem dX8_goByLeft_46 : decode cX8_goByLeft 46 = .ok (.iload 8, 2) := by decide +kernel
theorem dX8_goByLeft_48 : decode cX8_goByLeft 48 = .ok (.ifCond .eq 37, 3) := by decide +kernel
theorem dX8_goByLeft_51 : decode cX8_goByLeft 51 = .ok (.aload_n 0, 1) := by decide +kernel
theorem dX8_goByLeft_52 : decode cX8_goByLeft 52 = .ok (.getfield 15, 3) := by decide +kernel
theorem dX8_goByLeft_55 : decode cX8_goByLeft 55 = .ok (.iload 5, 2) := by decide +kernel
theorem dX8_goByLeft_57 : decode cX8_goByLeft 57 = .ok (.iload 7, 2) := by decide +kernel
theorem dX8_goByLeft_59 : decode cX8_goByLeft 59 = .ok (.iadd, 1) := by decide +kernel
theorem dX8_goByLeft_60 : decode cX8_goByLeft 60 = .ok (.dup2, 1) := by decide +kernel
theorem dX8_goByLeft_61 : decode cX8_goByLeft 61 = .ok (.iaload, 1) := by decide +kernel
theorem dX8_goByLeft_62 : decode cX8_goByLeft 62 = .ok (.aload_n 0, 1) := by decide +kernel
theorem dX8_goByLeft_63 : decode cX8_goByLeft 63 = .ok (.getfield 21, 3) := by decide +kernel
theorem dX8_goByLeft_66 : decode cX8_goByLeft 66 = .ok (.aload_n 0, 1) := by decide +kernel
theorem dX8_goByLeft_67 : decode cX8_goByLeft 67 = .ok (.getfield 25, 3) := by decide +kernel
theorem dX8_goByLeft_70 : decode cX8_goByLeft 70 = .ok (.iload_n 1, 1) := by decide +kernel
theorem dX8_goByLeft_71 : decode cX8_goByLeft 71 = .ok (.iload 7, 2) := by decide +kernel
theorem dX8_goByLeft_73 : decode cX8_goByLeft 73 = .ok (.iload 8, 2) := by decide +kernel
theorem dX8_goByLeft_75 : decode cX8_goByLeft 75 = .ok (.invokevirtual 50, 3) := by decide +kernel
theorem dX8_goByLeft_78 : decode cX8_goByLeft 78 = .ok (.iload 7, 2) := by decide +kernel
theorem dX8_goByLeft_80 : decode cX8_goByLeft 80 = .ok (.invokevirtual 39, 3) := by decide +kernel
theorem dX8_goByLeft_83 : decode cX8_goByLeft 83 = .ok (.ior, 1) := by decide +kernel
theorem dX8_goByLeft_84 : decode cX8_goByLeft 84 = .ok (.iastore, 1) := by decide +kernel
theorem dX8_goByLeft_85 : decode cX8_goByLeft 85 = .ok (.iinc 6 1, 3) := by decide +kernel
theorem dX8_goByLeft_88 : decode cX8_goByLeft 88 = .ok (.goto (-85), 3) := by decide +kernel
theorem dX8_goByLeft_91 : decode cX8_goByLeft 91 = .ok (.return_, 1) := by decide +kernel
theorem dX8_goByRights_0 : decode cX8_goByRights 0 = .ok (.iconst 0, 1) := by decide +kernel
theorem dX8_goByRights_1 : decode cX8_goByRights 1 = .ok (.istore_n 2, 1) := by decide +kernel
theorem dX8_goByRights_2 : decode cX8_goByRights 2 = .ok (.iload_n 2, 1) := by decide +kernel
theorem dX8_goByRights_3 : decode cX8_goByRights 3 = .ok (.iconst 4, 1) := by decide +kernel
theorem dX8_goByRights_4 : decode cX8_goByRights 4 = .ok (.if_icmp .ge 71, 3) := by decide +kernel
theorem dX8_goByRights_7 : decode cX8_goByRights 7 = .ok (.aload_n 0, 1) := by decide +kernel
theorem dX8_goByRights_8 : decode cX8_goByRights 8 = .ok (.getfield 11, 3) := by decide +kernel
theorem dX8_goByRights_11 : decode cX8_goByRights 11 = .ok (.iload_n 1, 1) := by decide +kernel
theorem dX8_goByRights_12 : decode cX8_goByRights 12 = .ok (.iload_n 2, 1) := by decide +kernel
theorem dX8_goByRights_13 : decode cX8_goByRights 13 = .ok (.iadd, 1) := by decide +kernel
theorem dX8_goByRights_14 : decode cX8_goByRights 14 = .ok (.iaload, 1) := by decide +kernel
theorem dX8_goByRights_15 : decode cX8_goByRights 15 = .ok (.istore_n 3, 1) := by decide +kernel
theorem dX8_goByRights_16 : decode cX8_goByRights 16 = .ok (.iload_n 3, 1) := by decide +kernel
theorem dX8_goByRights_17 : decode cX8_goByRights 17 = .ok (.ifCond .eq 52, 3) := by decide +kernel
theorem dX8_goByRights_20 : decode cX8_goByRights 20 = .ok (.iload_n 2, 1) := by decide +kernel
theorem dX8_goByRights_21 : decode cX8_goByRights 21 = .ok (.iconst 1, 1) := by decide +kernel
theorem dX8_goByRights_22 : decode cX8_goByRights 22 = .ok (.iadd, 1) := by decide +kernel
theorem dX8_goByRights_23 : decode cX8_goByRights 23 = .ok (.iconst 3, 1) := by decide +kernel
theorem dX8_goByRights_24 : decode cX8_goByRights 24 = .ok (.iand, 1) := by decide +kernel
theorem dX8_goByRights_25 : decode cX8_goByRights 25 = .ok (.istore 4, 2) := by decide +kernel
theorem dX8_goByRights_27 : decode cX8_goByRights 27 = .ok (.aload_n 0, 1) := by decide +kernel
theorem dX8_goByRights_28 : decode cX8_goByRights 28 = .ok (.getfield 15, 3) := by decide +kernel
theorem dX8_goByRights_31 : decode cX8_goByRights 31 = .ok (.iload_n 1, 1) := by decide +kernel
theorem dX8_goByRights_32 : decode cX8_goByRights 32 = .ok (.iload_n 2, 1) := by decide +kernel
theorem dX8_goByRights_33 : decode cX8_goByRights 33 = .ok (.iadd, 1) := by decide +kernel
theorem dX8_goByRights_34 : decode cX8_goByRights 34 = .ok (.dup2, 1) := by decide +kernel
theorem dX8_goByRights_35 : decode cX8_goByRights 35 = .ok (.iaload, 1) := by decide +kernel
theorem dX8_goByRights_36 : decode cX8_goByRights 36 = .ok (.aload_n 0, 1) := by decide +kernel
theorem dX8_goByRights_37 : decode cX8_goByRights 37 = .ok (.getfield 21, 3) := by decide +kernel
theorem dX8_goByRights_40 : decode cX8_goByRights 40 = .ok (.iload_n 3, 1) := by decide +kernel
theorem dX8_goByRights_41 : decode cX8_goByRights 41 = .ok (.iload_n 2, 1) := by decide +kernel
theorem dX8_goByRights_42 : decode cX8_goByRights 42 = .ok (.invokevirtual 39, 3) := by decide +kernel
theorem dX8_goByRights_45 : decode cX8_goByRights 45 = .ok (.ior, 1) := by decide +kernel
theorem dX8_goByRights_46 : decode cX8_goByRights 46 = .ok (.iastore, 1) := by decide +kernel
theorem dX8_goByRights_47 : decode cX8_goByRights 47 = .ok (.aload_n 0, 1) := by decide +kernel
theorem dX8_goByRights_48 : decode cX8_goByRights 48 = .ok (.getfield 15, 3) := by decide +kernel
theorem dX8_goByRights_51 : decode cX8_goByRights 51 = .ok (.iload_n 1, 1) := by decide +kernel
theorem dX8_goByRights_52 : decode cX8_goByRights 52 = .ok (.iload 4, 2) := by decide +kernel
theorem dX8_goByRights_54 : decode cX8_goByRights 54 = .ok (.iadd, 1) := by decide +kernel
theorem dX8_goByRights_55 : decode cX8_goByRights 55 = .ok (.dup2, 1) := by decide +kernel
theorem dX8_goByRights_56 : decode cX8_goByRights 56 = .ok (.iaload, 1) := by decide +kernel
theorem dX8_goByRights_57 : decode cX8_goByRights 57 = .ok (.aload_n 0, 1) := by decide +kernel
theorem dX8_goByRights_58 : decode cX8_goByRights 58 = .ok (.getfield 21, 3) := by decide +kernel
theorem dX8_goByRights_61 : decode cX8_goByRights 61 = .ok (.iload_n 3, 1) := by decide +kernel
theorem dX8_goByRights_62 : decode cX8_goByRights 62 = .ok (.iload 4, 2) := by decide +kernel
theorem dX8_goByRights_64 : decode cX8_goByRights 64 = .ok (.invokevirtual 39, 3) := by decide +kernel
theorem dX8_goByRights_67 : decode cX8_goByRights 67 = .ok (.ior, 1) := by decide +kernel
theorem dX8_goByRights_68 : decode cX8_goByRights 68 = .ok (.iastore, 1) := by decide +kernel
theorem dX8_goByRights_69 : decode cX8_goByRights 69 = .ok (.iinc 2 1, 3) := by decide +kernel
theorem dX8_goByRights_72 : decode cX8_goByRights 72 = .ok (.goto (-70), 3) := by decide +kernel
theorem dX8_goByRights_75 : decode cX8_goByRights 75 = .ok (.return_, 1) := by decide +kernel
theorem dX8_goLeaving_0 : decode cX8_goLeaving 0 = .ok (.aload 4, 2) := by decide +kernel
theorem dX8_goLeaving_2 : decode cX8_goLeaving 2 = .ok (.iload_n 2, 1) := by decide +kernel
theorem dX8_goLeaving_3 : decode cX8_goLeaving 3 = .ok (.invokevirtual 122, 3) := by decide +kernel
theorem dX8_goLeaving_6 : decode cX8_goLeaving 6 = .ok (.istore 5, 2) := by decide +kernel
theorem dX8_goLeaving_8 : decode cX8_goLeaving 8 = .ok (.iload 5, 2) := by decide +kernel
theorem dX8_goLeaving_10 : decode cX8_goLeaving 10 = .ok (.ifCond .ge 4, 3) := by decide +kernel
theorem dX8_goLeaving_13 : decode cX8_goLeaving 13 = .ok (.return_, 1) := by decide +kernel
theorem dX8_goLeaving_14 : decode cX8_goLeaving 14 = .ok (.iconst 1, 1) := by decide +kernel
theorem dX8_goLeaving_15 : decode cX8_goLeaving 15 = .ok (.iload 5, 2) := by decide +kernel
theorem dX8_goLeaving_17 : decode cX8_goLeaving 17 = .ok (.ishl, 1) := by decide +kernel
theorem dX8_goLeaving_18 : decode cX8_goLeaving 18 = .ok (.iload_n 3, 1) := by decide +kernel
theorem dX8_goLeaving_19 : decode cX8_goLeaving 19 = .ok (.iconst (-1), 1) := by decide +kernel
theorem dX8_goLeaving_20 : decode cX8_goLeaving 20 = .ok (.ixor, 1) := by decide +kernel
theorem dX8_goLeaving_21 : decode cX8_goLeaving 21 = .ok (.iand, 1) := by decide +kernel
theorem dX8_goLeaving_22 : decode cX8_goLeaving 22 = .ok (.istore 6, 2) := by decide +kernel
theorem dX8_goLeaving_24 : decode cX8_goLeaving 24 = .ok (.aload_n 0, 1) := by decide +kernel
theorem dX8_goLeaving_25 : decode cX8_goLeaving 25 = .ok (.iload_n 1, 1) := by decide +kernel
theorem dX8_goLeaving_26 : decode cX8_goLeaving 26 = .ok (.iconst 2, 1) := by decide +kernel
theorem dX8_goLeaving_27 : decode cX8_goLeaving 27 = .ok (.iconst 4, 1) := by decide +kernel
theorem dX8_goLeaving_28 : decode cX8_goLeaving 28 = .ok (.iload_n 2, 1) := by decide +kernel
theorem dX8_goLeaving_29 : decode cX8_goLeaving 29 = .ok (.imul, 1) := by decide +kernel
theorem dX8_goLeaving_30 : decode cX8_goLeaving 30 = .ok (.iload 6, 2) := by decide +kernel
theorem dX8_goLeaving_32 : decode cX8_goLeaving 32 = .ok (.iconst 4, 1) := by decide +kernel
theorem dX8_goLeaving_33 : decode cX8_goLeaving 33 = .ok (.iload_n 2, 1) := by decide +kernel
theorem dX8_goLeaving_34 : decode cX8_goLeaving 34 = .ok (.imul, 1) := by decide +kernel
theorem dX8_goLeaving_35 : decode cX8_goLeaving 35 = .ok (.iconst 4, 1) := by decide +kernel
theorem dX8_goLeaving_36 : decode cX8_goLeaving 36 = .ok (.iadd, 1) := by decide +kernel
theorem dX8_goLeaving_37 : decode cX8_goLeaving 37 = .ok (.invokevirtual 64, 3) := by decide +kernel
theorem dX8_goLeaving_40 : decode cX8_goLeaving 40 = .ok (.aload 4, 2) := by decide +kernel
theorem dX8_goLeaving_42 : decode cX8_goLeaving 42 = .ok (.iload_n 2, 1) := by decide +kernel
theorem dX8_goLeaving_43 : decode cX8_goLeaving 43 = .ok (.iconst 1, 1) := by decide +kernel
theorem dX8_goLeaving_44 : decode cX8_goLeaving 44 = .ok (.iadd, 1) := by decide +kernel
theorem dX8_goLeaving_45 : decode cX8_goLeaving 45 = .ok (.invokevirtual 122, 3) := by decide +kernel
theorem dX8_goLeaving_48 : decode cX8_goLeaving 48 = .ok (.iload 5, 2) := by decide +kernel
theorem dX8_goLeaving_50 : decode cX8_goLeaving 50 = .ok (.if_icmp .ne 20, 3) := by decide +kernel
theorem dX8_goLeaving_53 : decode cX8_goLeaving 53 = .ok (.aload_n 0, 1) := by decide +kernel
theorem dX8_goLeaving_54 : decode cX8_goLeaving 54 = .ok (.iload_n 1, 1) := by decide +kernel
theorem dX8_goLeaving_55 : decode cX8_goLeaving 55 = .ok (.iconst 3, 1) := by decide +kernel
theorem dX8_goLeaving_56 : decode cX8_goLeaving 56 = .ok (.iconst 4, 1) := by decide +kernel
theorem dX8_goLeaving_57 : decode cX8_goLeaving 57 = .ok (.iload_n 2, 1) := by decide +kernel
theorem dX8_goLeaving_58 : decode cX8_goLeaving 58 = .ok (.imul, 1) := by decide +kernel
theorem dX8_goLeaving_59 : decode cX8_goLeaving 59 = .ok (.iload 6, 2) := by decide +kernel
theorem dX8_goLeaving_61 : decode cX8_goLeaving 61 = .ok (.iconst 4, 1) := by decide +kernel
theorem dX8_goLeaving_62 : decode cX8_goLeaving 62 = .ok (.iload_n 2, 1) := by decide +kernel
theorem dX8_goLeaving_63 : decode cX8_goLeaving 63 = .ok (.imul, 1) := by decide +kernel
theorem dX8_goLeaving_64 : decode cX8_goLeaving 64 = .ok (.bipush 8, 2) := by decide +kernel
theorem dX8_goLeaving_66 : decode cX8_goLeaving 66 = .ok (.iadd, 1) := by decide +kernel
theorem dX8_goLeaving_67 : decode cX8_goLeaving 67 = .ok (.invokevirtual 64, 3) := by decide +kernel
theorem dX8_goLeaving_70 : decode cX8_goLeaving 70 = .ok (.return_, 1) := by decide +kernel
theorem dX8_goOn_0 : decode cX8_goOn 0 = .ok (.aload_n 0, 1) := by decide +kernel
theorem dX8_goOn_1 : decode cX8_goOn 1 = .ok (.getfield 25, 3) := by decide +kernel
theorem dX8_goOn_4 : decode cX8_goOn 4 = .ok (.iload_n 1, 1) := by decide +kernel
theorem dX8_goOn_5 : decode cX8_goOn 5 = .ok (.invokevirtual 56, 3) := by decide +kernel
theorem dX8_goOn_8 : decode cX8_goOn 8 = .ok (.iload_n 2, 1) := by decide +kernel
theorem dX8_goOn_9 : decode cX8_goOn 9 = .ok (.ior, 1) := by decide +kernel
theorem dX8_goOn_10 : decode cX8_goOn 10 = .ok (.istore 4, 2) := by decide +kernel
theorem dX8_goOn_12 : decode cX8_goOn 12 = .ok (.iconst 0, 1) := by decide +kernel
theorem dX8_goOn_13 : decode cX8_goOn 13 = .ok (.istore 5, 2) := by decide +kernel
theorem dX8_goOn_15 : decode cX8_goOn 15 = .ok (.iload 5, 2) := by decide +kernel
theorem dX8_goOn_17 : decode cX8_goOn 17 = .ok (.aload_n 0, 1) := by decide +kernel
theorem dX8_goOn_18 : decode cX8_goOn 18 = .ok (.getfield 29, 3) := by decide +kernel
theorem dX8_goOn_21 : decode cX8_goOn 21 = .ok (.if_icmp .gt 88, 3) := by decide +kernel
theorem dX8_goOn_24 : decode cX8_goOn 24 = .ok (.iload 5, 2) := by decide +kernel
theorem dX8_goOn_26 : decode cX8_goOn 26 = .ok (.iload_n 3, 1) := by decide +kernel
theorem dX8_goOn_27 : decode cX8_goOn 27 = .ok (.if_icmp .gt 82, 3) := by decide +kernel
theorem dX8_goOn_30 : decode cX8_goOn 30 = .ok (.iconst 4, 1) := by decide +kernel
theorem dX8_goOn_31 : decode cX8_goOn 31 = .ok (.iload 5, 2) := by decide +kernel
theorem dX8_goOn_33 : decode cX8_goOn 33 = .ok (.imul, 1) := by decide +kernel
theorem dX8_goOn_34 : decode cX8_goOn 34 = .ok (.istore 6, 2) := by decide +kernel
theorem dX8_goOn_36 : decode cX8_goOn 36 = .ok (.aload_n 0, 1) := by decide +kernel
theorem dX8_goOn_37 : decode cX8_goOn 37 = .ok (.iload 6, 2) := by decide +kernel
theorem dX8_goOn_39 : decode cX8_goOn 39 = .ok (.invokevirtual 60, 3) := by decide +kernel
theorem dX8_goOn_42 : decode cX8_goOn 42 = .ok (.iconst 2, 1) := by decide +kernel
theorem dX8_goOn_43 : decode cX8_goOn 43 = .ok (.istore 7, 2) := by decide +kernel
theorem dX8_goOn_45 : decode cX8_goOn 45 = .ok (.iload 7, 2) := by decide +kernel
theorem dX8_goOn_47 : decode cX8_goOn 47 = .ok (.iconst 4, 1) := by decide +kernel
theorem dX8_goOn_48 : decode cX8_goOn 48 = .ok (.if_icmp .ge 55, 3) := by decide +kernel
theorem dX8_goOn_51 : decode cX8_goOn 51 = .ok (.aload_n 0, 1) := by decide +kernel
theorem dX8_goOn_52 : decode cX8_goOn 52 = .ok (.iload_n 1, 1) := by decide +kernel
theorem dX8_goOn_53 : decode cX8_goOn 53 = .ok (.iload 7, 2) := by decide +kernel
theorem dX8_goOn_55 : decode cX8_goOn 55 = .ok (.iload 6, 2) := by decide +kernel
theorem dX8_goOn_57 : decode cX8_goOn 57 = .ok (.iload 4, 2) := by decide +kernel
theorem dX8_goOn_59 : decode cX8_goOn 59 = .ok (.iload 6, 2) := by decide +kernel
theorem dX8_goOn_61 : decode cX8_goOn 61 = .ok (.invokevirtual 64, 3) := by decide +kernel
theorem dX8_goOn_64 : decode cX8_goOn 64 = .ok (.iload 5, 2) := by decide +kernel
theorem dX8_goOn_66 : decode cX8_goOn 66 = .ok (.iload 7, 2) := by decide +kernel
theorem dX8_goOn_68 : decode cX8_goOn 68 = .ok (.iadd, 1) := by decide +kernel
theorem dX8_goOn_69 : decode cX8_goOn 69 = .ok (.iconst 1, 1) := by decide +kernel
theorem dX8_goOn_70 : decode cX8_goOn 70 = .ok (.isub, 1) := by decide +kernel
theorem dX8_goOn_71 : decode cX8_goOn 71 = .ok (.iload_n 3, 1) := by decide +kernel
theorem dX8_goOn_72 : decode cX8_goOn 72 = .ok (.if_icmp .gt 25, 3) := by decide +kernel
theorem dX8_goOn_75 : decode cX8_goOn 75 = .ok (.aload_n 0, 1) := by decide +kernel
theorem dX8_goOn_76 : decode cX8_goOn 76 = .ok (.iload_n 1, 1) := by decide +kernel
theorem dX8_goOn_77 : decode cX8_goOn 77 = .ok (.iload 7, 2) := by decide +kernel
theorem dX8_goOn_79 : decode cX8_goOn 79 = .ok (.iload 6, 2) := by decide +kernel
theorem dX8_goOn_81 : decode cX8_goOn 81 = .ok (.iload 4, 2) := by decide +kernel
theorem dX8_goOn_83 : decode cX8_goOn 83 = .ok (.iconst (-1), 1) := by decide +kernel
theorem dX8_goOn_84 : decode cX8_goOn 84 = .ok (.ixor, 1) := by decide +kernel
theorem dX8_goOn_85 : decode cX8_goOn 85 = .ok (.iload 6, 2) := by decide +kernel
theorem dX8_goOn_87 : decode cX8_goOn 87 = .ok (.iconst 4, 1) := by decide +kernel
theorem dX8_goOn_88 : decode cX8_goOn 88 = .ok (.iload 7, 2) := by decide +kernel
theorem dX8_goOn_90 : decode cX8_goOn 90 = .ok (.iconst 1, 1) := by decide +kernel
theorem dX8_goOn_91 : decode cX8_goOn 91 = .ok (.isub, 1) := by decide +kernel
theorem dX8_goOn_92 : decode cX8_goOn 92 = .ok (.imul, 1) := by decide +kernel
theorem dX8_goOn_93 : decode cX8_goOn 93 = .ok (.iadd, 1) := by decide +kernel
theorem dX8_goOn_94 : decode cX8_goOn 94 = .ok (.invokevirtual 64, 3) := by decide +kernel
theorem dX8_goOn_97 : decode cX8_goOn 97 = .ok (.iinc 7 1, 3) := by decide +kernel
theorem dX8_goOn_100 : decode cX8_goOn 100 = .ok (.goto (-55), 3) := by decide +kernel
theorem dX8_goOn_103 : decode cX8_goOn 103 = .ok (.iinc 5 1, 3) := by decide +kernel
theorem dX8_goOn_106 : decode cX8_goOn 106 = .ok (.goto (-91), 3) := by decide +kernel
theorem dX8_goOn_109 : decode cX8_goOn 109 = .ok (.aload_n 0, 1) := by decide +kernel
theorem dX8_goOn_110 : decode cX8_goOn 110 = .ok (.aload_n 0, 1) := by decide +kernel
theorem dX8_goOn_111 : decode cX8_goOn 111 = .ok (.getfield 29, 3) := by decide +kernel
theorem dX8_goOn_114 : decode cX8_goOn 114 = .ok (.iconst 2, 1) := by decide +kernel
theorem dX8_goOn_115 : decode cX8_goOn 115 = .ok (.iadd, 1) := by decide +kernel
theorem dX8_goOn_116 : decode cX8_goOn 116 = .ok (.iload_n 3, 1) := by decide +kernel
theorem dX8_goOn_117 : decode cX8_goOn 117 = .ok (.invokestatic 68, 3) := by decide +kernel
theorem dX8_goOn_120 : decode cX8_goOn 120 = .ok (.invokevirtual 71, 3) := by decide +kernel
theorem dX8_goOn_123 : decode cX8_goOn 123 = .ok (.aload_n 0, 1) := by decide +kernel
theorem dX8_goOn_124 : decode cX8_goOn 124 = .ok (.invokevirtual 74, 3) := by decide +kernel
theorem dX8_goOn_127 : decode cX8_goOn 127 = .ok (.return_, 1) := by decide +kernel
theorem dX8_leastForAll_0 : decode cX8_leastForAll 0 = .ok (.aload_n 0, 1) := by decide +kernel
theorem dX8_leastForAll_1 : decode cX8_leastForAll 1 = .ok (.iload_n 1, 1) := by decide +kernel
theorem dX8_leastForAll_2 : decode cX8_leastForAll 2 = .ok (.bipush 120, 2) := by decide +kernel
theorem dX8_leastForAll_4 : decode cX8_leastForAll 4 = .ok (.invokevirtual 98, 3) := by decide +kernel
theorem dX8_leastForAll_7 : decode cX8_leastForAll 7 = .ok (.iconst 0, 1) := by decide +kernel
theorem dX8_leastForAll_8 : decode cX8_leastForAll 8 = .ok (.istore_n 2, 1) := by decide +kernel
theorem dX8_leastForAll_9 : decode cX8_leastForAll 9 = .ok (.iconst 0, 1) := by decide +kernel
theorem dX8_leastForAll_10 : decode cX8_leastForAll 10 = .ok (.istore_n 3, 1) := by decide +kernel
theorem dX8_leastForAll_11 : decode cX8_leastForAll 11 = .ok (.iconst 0, 1) := by decide +kernel
theorem dX8_leastForAll_12 : decode cX8_leastForAll 12 = .ok (.istore 4, 2) := by decide +kernel
theorem dX8_leastForAll_14 : decode cX8_leastForAll 14 = .ok (.iload 4, 2) := by decide +kernel
theorem dX8_leastForAll_16 : decode cX8_leastForAll 16 = .ok (.bipush 120, 2) := by decide +kernel
theorem dX8_leastForAll_18 : decode cX8_leastForAll 18 = .ok (.if_icmp .gt 36, 3) := by decide +kernel
theorem dX8_leastForAll_21 : decode cX8_leastForAll 21 = .ok (.aload_n 0, 1) := by decide +kernel
theorem dX8_leastForAll_22 : decode cX8_leastForAll 22 = .ok (.getfield 18, 3) := by decide +kernel
theorem dX8_leastForAll_25 : decode cX8_leastForAll 25 = .ok (.iload 4, 2) := by decide +kernel
theorem dX8_leastForAll_27 : decode cX8_leastForAll 27 = .ok (.iaload, 1) := by decide +kernel
theorem dX8_leastForAll_28 : decode cX8_leastForAll 28 = .ok (.iload_n 2, 1) := by decide +kernel
theorem dX8_leastForAll_29 : decode cX8_leastForAll 29 = .ok (.iconst (-1), 1) := by decide +kernel
theorem dX8_leastForAll_30 : decode cX8_leastForAll 30 = .ok (.ixor, 1) := by decide +kernel
theorem dX8_leastForAll_31 : decode cX8_leastForAll 31 = .ok (.iand, 1) := by decide +kernel
theorem dX8_leastForAll_32 : decode cX8_leastForAll 32 = .ok (.ifCond .eq 16, 3) := by decide +kernel
theorem dX8_leastForAll_35 : decode cX8_leastForAll 35 = .ok (.iload_n 2, 1) := by decide +kernel
theorem dX8_leastForAll_36 : decode cX8_leastForAll 36 = .ok (.aload_n 0, 1) := by decide +kernel
theorem dX8_leastForAll_37 : decode cX8_leastForAll 37 = .ok (.getfield 18, 3) := by decide +kernel
theorem dX8_leastForAll_40 : decode cX8_leastForAll 40 = .ok (.iload 4, 2) := by decide +kernel
theorem dX8_leastForAll_42 : decode cX8_leastForAll 42 = .ok (.iaload, 1) := by decide +kernel
theorem dX8_leastForAll_43 : decode cX8_leastForAll 43 = .ok (.ior, 1) := by decide +kernel
theorem dX8_leastForAll_44 : decode cX8_leastForAll 44 = .ok (.istore_n 2, 1) := by decide +kernel
theorem dX8_leastForAll_45 : decode cX8_leastForAll 45 = .ok (.iload 4, 2) := by decide +kernel
theorem dX8_leastForAll_47 : decode cX8_leastForAll 47 = .ok (.istore_n 3, 1) := by decide +kernel
theorem dX8_leastForAll_48 : decode cX8_leastForAll 48 = .ok (.iinc 4 1, 3) := by decide +kernel
theorem dX8_leastForAll_51 : decode cX8_leastForAll 51 = .ok (.goto (-37), 3) := by decide +kernel
theorem dX8_leastForAll_54 : decode cX8_leastForAll 54 = .ok (.iload_n 3, 1) := by decide +kernel
theorem dX8_leastForAll_55 : decode cX8_leastForAll 55 = .ok (.ireturn, 1) := by decide +kernel
theorem dX8_leftByRights_0 : decode cX8_leftByRights 0 = .ok (.aload_n 0, 1) := by decide +kernel
theorem dX8_leftByRights_1 : decode cX8_leftByRights 1 = .ok (.getfield 21, 3) := by decide +kernel
theorem dX8_leftByRights_4 : decode cX8_leftByRights 4 = .ok (.iload_n 1, 1) := by decide +kernel
theorem dX8_leftByRights_5 : decode cX8_leftByRights 5 = .ok (.iconst 2, 1) := by decide +kernel
theorem dX8_leftByRights_6 : decode cX8_leftByRights 6 = .ok (.ishr, 1) := by decide +kernel
theorem dX8_leftByRights_7 : decode cX8_leftByRights 7 = .ok (.iload_n 1, 1) := by decide +kernel
theorem dX8_leftByRights_8 : decode cX8_leftByRights 8 = .ok (.iconst 3, 1) := by decide +kernel
theorem dX8_leftByRights_9 : decode cX8_leftByRights 9 = .ok (.iadd, 1) := by decide +kernel
theorem dX8_leftByRights_10 : decode cX8_leftByRights 10 = .ok (.iconst 3, 1) := by decide +kernel
theorem dX8_leftByRights_11 : decode cX8_leftByRights 11 = .ok (.iand, 1) := by decide +kernel
theorem dX8_leftByRights_12 : decode cX8_leftByRights 12 = .ok (.invokevirtual 102, 3) := by decide +kernel
theorem dX8_leftByRights_15 : decode cX8_leftByRights 15 = .ok (.istore_n 2, 1) := by decide +kernel
theorem dX8_leftByRights_16 : decode cX8_leftByRights 16 = .ok (.iload_n 2, 1) := by decide +kernel
theorem dX8_leftByRights_17 : decode cX8_leftByRights 17 = .ok (.ifCond .ge 5, 3) := by decide +kernel
theorem dX8_leftByRights_20 : decode cX8_leftByRights 20 = .ok (.iconst (-1), 1) := by decide +kernel
theorem dX8_leftByRights_21 : decode cX8_leftByRights 21 = .ok (.ireturn, 1) := by decide +kernel
theorem dX8_leftByRights_22 : decode cX8_leftByRights 22 = .ok (.aload_n 0, 1) := by decide +kernel
theorem dX8_leftByRights_23 : decode cX8_leftByRights 23 = .ok (.iload_n 1, 1) := by decide +kernel
theorem dX8_leftByRights_24 : decode cX8_leftByRights 24 = .ok (.invokevirtual 80, 3) := by decide +kernel
theorem dX8_leftByRights_27 : decode cX8_leftByRights 27 = .ok (.iconst 1, 1) := by decide +kernel
theorem dX8_leftByRights_28 : decode cX8_leftByRights 28 = .ok (.istore_n 3, 1) := by decide +kernel
theorem dX8_leftByRights_29 : decode cX8_leftByRights 29 = .ok (.iload_n 3, 1) := by decide +kernel
theorem dX8_leftByRights_30 : decode cX8_leftByRights 30 = .ok (.bipush 60, 2) := by decide +kernel
theorem dX8_leftByRights_32 : decode cX8_leftByRights 32 = .ok (.if_icmp .gt 33, 3) := by decide +kernel
theorem dX8_leftByRights_35 : decode cX8_leftByRights 35 = .ok (.aload_n 0, 1) := by decide +kernel
theorem dX8_leftByRights_36 : decode cX8_leftByRights 36 = .ok (.iconst 0, 1) := by decide +kernel
theorem dX8_leftByRights_37 : decode cX8_leftByRights 37 = .ok (.invokevirtual 60, 3) := by decide +kernel
theorem dX8_leftByRights_40 : decode cX8_leftByRights 40 = .ok (.aload_n 0, 1) := by decide +kernel
theorem dX8_leftByRights_41 : decode cX8_leftByRights 41 = .ok (.iconst 0, 1) := by decide +kernel
theorem dX8_leftByRights_42 : decode cX8_leftByRights 42 = .ok (.invokevirtual 71, 3) := by decide +kernel
theorem dX8_leftByRights_45 : decode cX8_leftByRights 45 = .ok (.aload_n 0, 1) := by decide +kernel
theorem dX8_leftByRights_46 : decode cX8_leftByRights 46 = .ok (.iconst 0, 1) := by decide +kernel
theorem dX8_leftByRights_47 : decode cX8_leftByRights 47 = .ok (.invokevirtual 77, 3) := by decide +kernel
theorem dX8_leftByRights_50 : decode cX8_leftByRights 50 = .ok (.iload_n 2, 1) := by decide +kernel
theorem dX8_leftByRights_51 : decode cX8_leftByRights 51 = .ok (.ishr, 1) := by decide +kernel
theorem dX8_leftByRights_52 : decode cX8_leftByRights 52 = .ok (.iconst 1, 1) := by decide +kernel
theorem dX8_leftByRights_53 : decode cX8_leftByRights 53 = .ok (.iand, 1) := by decide +kernel
theorem dX8_leftByRights_54 : decode cX8_leftByRights 54 = .ok (.ifCond .eq 5, 3) := by decide +kernel
theorem dX8_leftByRights_57 : decode cX8_leftByRights 57 = .ok (.iload_n 3, 1) := by decide +kernel
theorem dX8_leftByRights_58 : decode cX8_leftByRights 58 = .ok (.ireturn, 1) := by decide +kernel
theorem dX8_leftByRights_59 : decode cX8_leftByRights 59 = .ok (.iinc 3 1, 3) := by decide +kernel
theorem dX8_leftByRights_62 : decode cX8_leftByRights 62 = .ok (.goto (-33), 3) := by decide +kernel
theorem dX8_leftByRights_65 : decode cX8_leftByRights 65 = .ok (.iconst (-1), 1) := by decide +kernel
theorem dX8_leftByRights_66 : decode cX8_leftByRights 66 = .ok (.ireturn, 1) := by decide +kernel
theorem dX8_lowest_0 : decode cX8_lowest 0 = .ok (.iconst 0, 1) := by decide +kernel
theorem dX8_lowest_1 : decode cX8_lowest 1 = .ok (.istore_n 3, 1) := by decide +kernel
theorem dX8_lowest_2 : decode cX8_lowest 2 = .ok (.iload_n 3, 1) := by decide +kernel
theorem dX8_lowest_3 : decode cX8_lowest 3 = .ok (.aload_n 0, 1) := by decide +kernel
theorem dX8_lowest_4 : decode cX8_lowest 4 = .ok (.getfield 29, 3) := by decide +kernel
theorem dX8_lowest_7 : decode cX8_lowest 7 = .ok (.if_icmp .gt 28, 3) := by decide +kernel
theorem dX8_lowest_10 : decode cX8_lowest 10 = .ok (.iload_n 3, 1) := by decide +kernel
theorem dX8_lowest_11 : decode cX8_lowest 11 = .ok (.iload_n 2, 1) := by decide +kernel
theorem dX8_lowest_12 : decode cX8_lowest 12 = .ok (.if_icmp .gt 23, 3) := by decide +kernel
theorem dX8_lowest_15 : decode cX8_lowest 15 = .ok (.aload_n 0, 1) := by decide +kernel
theorem dX8_lowest_16 : decode cX8_lowest 16 = .ok (.iload_n 3, 1) := by decide +kernel
theorem dX8_lowest_17 : decode cX8_lowest 17 = .ok (.invokevirtual 77, 3) := by decide +kernel
theorem dX8_lowest_20 : decode cX8_lowest 20 = .ok (.iload_n 1, 1) := by decide +kernel
theorem dX8_lowest_21 : decode cX8_lowest 21 = .ok (.ishr, 1) := by decide +kernel
theorem dX8_lowest_22 : decode cX8_lowest 22 = .ok (.iconst 1, 1) := by decide +kernel
theorem dX8_lowest_23 : decode cX8_lowest 23 = .ok (.iand, 1) := by decide +kernel
theorem dX8_lowest_24 : decode cX8_lowest 24 = .ok (.ifCond .eq 5, 3) := by decide +kernel
theorem dX8_lowest_27 : decode cX8_lowest 27 = .ok (.iload_n 3, 1) := by decide +kernel
theorem dX8_lowest_28 : decode cX8_lowest 28 = .ok (.ireturn, 1) := by decide +kernel
theorem dX8_lowest_29 : decode cX8_lowest 29 = .ok (.iinc 3 1, 3) := by decide +kernel
theorem dX8_lowest_32 : decode cX8_lowest 32 = .ok (.goto (-30), 3) := by decide +kernel
theorem dX8_lowest_35 : decode cX8_lowest 35 = .ok (.iconst (-1), 1) := by decide +kernel
theorem dX8_lowest_36 : decode cX8_lowest 36 = .ok (.ireturn, 1) := by decide +kernel
theorem dX8_reachable_0 : decode cX8_reachable 0 = .ok (.aload_n 0, 1) := by decide +kernel
theorem dX8_reachable_1 : decode cX8_reachable 1 = .ok (.iload_n 1, 1) := by decide +kernel
theorem dX8_reachable_2 : decode cX8_reachable 2 = .ok (.iload_n 2, 1) := by decide +kernel
theorem dX8_reachable_3 : decode cX8_reachable 3 = .ok (.invokevirtual 98, 3) := by decide +kernel
theorem dX8_reachable_6 : decode cX8_reachable 6 = .ok (.iconst 0, 1) := by decide +kernel
theorem dX8_reachable_7 : decode cX8_reachable 7 = .ok (.istore_n 3, 1) := by decide +kernel
theorem dX8_reachable_8 : decode cX8_reachable 8 = .ok (.iconst 0, 1) := by decide +kernel
theorem dX8_reachable_9 : decode cX8_reachable 9 = .ok (.istore 4, 2) := by decide +kernel
theorem dX8_reachable_11 : decode cX8_reachable 11 = .ok (.iload 4, 2) := by decide +kernel
theorem dX8_reachable_13 : decode cX8_reachable 13 = .ok (.iload_n 2, 1) := by decide +kernel
theorem dX8_reachable_14 : decode cX8_reachable 14 = .ok (.if_icmp .gt 19, 3) := by decide +kernel
theorem dX8_reachable_17 : decode cX8_reachable 17 = .ok (.iload_n 3, 1) := by decide +kernel
theorem dX8_reachable_18 : decode cX8_reachable 18 = .ok (.aload_n 0, 1) := by decide +kernel
theorem dX8_reachable_19 : decode cX8_reachable 19 = .ok (.getfield 18, 3) := by decide +kernel
theorem dX8_reachable_22 : decode cX8_reachable 22 = .ok (.iload 4, 2) := by decide +kernel
theorem dX8_reachable_24 : decode cX8_reachable 24 = .ok (.iaload, 1) := by decide +kernel
theorem dX8_reachable_25 : decode cX8_reachable 25 = .ok (.ior, 1) := by decide +kernel
theorem dX8_reachable_26 : decode cX8_reachable 26 = .ok (.istore_n 3, 1) := by decide +kernel
theorem dX8_reachable_27 : decode cX8_reachable 27 = .ok (.iinc 4 1, 3) := by decide +kernel
theorem dX8_reachable_30 : decode cX8_reachable 30 = .ok (.goto (-19), 3) := by decide +kernel
theorem dX8_reachable_33 : decode cX8_reachable 33 = .ok (.iload_n 3, 1) := by decide +kernel
theorem dX8_reachable_34 : decode cX8_reachable 34 = .ok (.ireturn, 1) := by decide +kernel
theorem dX8_streets_0 : decode cX8_streets 0 = .ok (.aload_n 0, 1) := by decide +kernel
theorem dX8_streets_1 : decode cX8_streets 1 = .ok (.getfield 90, 3) := by decide +kernel
theorem dX8_streets_4 : decode cX8_streets 4 = .ok (.ireturn, 1) := by decide +kernel
theorem dX8_survey_0 : decode cX8_survey 0 = .ok (.aload_n 0, 1) := by decide +kernel
theorem dX8_survey_1 : decode cX8_survey 1 = .ok (.getfield 18, 3) := by decide +kernel
theorem dX8_survey_4 : decode cX8_survey 4 = .ok (.iconst 0, 1) := by decide +kernel
theorem dX8_survey_5 : decode cX8_survey 5 = .ok (.invokestatic 92, 3) := by decide +kernel
theorem dX8_survey_8 : decode cX8_survey 8 = .ok (.aload_n 0, 1) := by decide +kernel
theorem dX8_survey_9 : decode cX8_survey 9 = .ok (.iload_n 1, 1) := by decide +kernel
theorem dX8_survey_10 : decode cX8_survey 10 = .ok (.invokevirtual 80, 3) := by decide +kernel
theorem dX8_survey_13 : decode cX8_survey 13 = .ok (.iconst 0, 1) := by decide +kernel
theorem dX8_survey_14 : decode cX8_survey 14 = .ok (.istore_n 3, 1) := by decide +kernel
theorem dX8_survey_15 : decode cX8_survey 15 = .ok (.iload_n 3, 1) := by decide +kernel
theorem dX8_survey_16 : decode cX8_survey 16 = .ok (.bipush 60, 2) := by decide +kernel
theorem dX8_survey_18 : decode cX8_survey 18 = .ok (.if_icmp .gt 56, 3) := by decide +kernel
theorem dX8_survey_21 : decode cX8_survey 21 = .ok (.iconst 0, 1) := by decide +kernel
theorem dX8_survey_22 : decode cX8_survey 22 = .ok (.istore 4, 2) := by decide +kernel
theorem dX8_survey_24 : decode cX8_survey 24 = .ok (.iload 4, 2) := by decide +kernel
theorem dX8_survey_26 : decode cX8_survey 26 = .ok (.aload_n 0, 1) := by decide +kernel
theorem dX8_survey_27 : decode cX8_survey 27 = .ok (.getfield 29, 3) := by decide +kernel
theorem dX8_survey_30 : decode cX8_survey 30 = .ok (.if_icmp .gt 25, 3) := by decide +kernel
theorem dX8_survey_33 : decode cX8_survey 33 = .ok (.aload_n 0, 1) := by decide +kernel
theorem dX8_survey_34 : decode cX8_survey 34 = .ok (.getfield 18, 3) := by decide +kernel
theorem dX8_survey_37 : decode cX8_survey 37 = .ok (.iload 4, 2) := by decide +kernel
theorem dX8_survey_39 : decode cX8_survey 39 = .ok (.dup2, 1) := by decide +kernel
theorem dX8_survey_40 : decode cX8_survey 40 = .ok (.iaload, 1) := by decide +kernel
theorem dX8_survey_41 : decode cX8_survey 41 = .ok (.aload_n 0, 1) := by decide +kernel
theorem dX8_survey_42 : decode cX8_survey 42 = .ok (.iload 4, 2) := by decide +kernel
theorem dX8_survey_44 : decode cX8_survey 44 = .ok (.invokevirtual 77, 3) := by decide +kernel
theorem dX8_survey_47 : decode cX8_survey 47 = .ok (.ior, 1) := by decide +kernel
theorem dX8_survey_48 : decode cX8_survey 48 = .ok (.iastore, 1) := by decide +kernel
theorem dX8_survey_49 : decode cX8_survey 49 = .ok (.iinc 4 1, 3) := by decide +kernel
theorem dX8_survey_52 : decode cX8_survey 52 = .ok (.goto (-28), 3) := by decide +kernel
theorem dX8_survey_55 : decode cX8_survey 55 = .ok (.iload_n 3, 1) := by decide +kernel
theorem dX8_survey_56 : decode cX8_survey 56 = .ok (.bipush 60, 2) := by decide +kernel
theorem dX8_survey_58 : decode cX8_survey 58 = .ok (.if_icmp .ge 10, 3) := by decide +kernel
theorem dX8_survey_61 : decode cX8_survey 61 = .ok (.aload_n 0, 1) := by decide +kernel
theorem dX8_survey_62 : decode cX8_survey 62 = .ok (.iload_n 3, 1) := by decide +kernel
theorem dX8_survey_63 : decode cX8_survey 63 = .ok (.iconst 0, 1) := by decide +kernel
theorem dX8_survey_64 : decode cX8_survey 64 = .ok (.iload_n 2, 1) := by decide +kernel
theorem dX8_survey_65 : decode cX8_survey 65 = .ok (.invokevirtual 86, 3) := by decide +kernel
theorem dX8_survey_68 : decode cX8_survey 68 = .ok (.iinc 3 1, 3) := by decide +kernel
theorem dX8_survey_71 : decode cX8_survey 71 = .ok (.goto (-56), 3) := by decide +kernel
theorem dX8_survey_74 : decode cX8_survey 74 = .ok (.return_, 1) := by decide +kernel
theorem dX8_thin_0 : decode cX8_thin 0 = .ok (.iconst 0, 1) := by decide +kernel
theorem dX8_thin_1 : decode cX8_thin 1 = .ok (.istore_n 1, 1) := by decide +kernel
theorem dX8_thin_2 : decode cX8_thin 2 = .ok (.iconst 0, 1) := by decide +kernel
theorem dX8_thin_3 : decode cX8_thin 3 = .ok (.istore_n 2, 1) := by decide +kernel
theorem dX8_thin_4 : decode cX8_thin 4 = .ok (.iload_n 2, 1) := by decide +kernel
theorem dX8_thin_5 : decode cX8_thin 5 = .ok (.iconst 4, 1) := by decide +kernel
theorem dX8_thin_6 : decode cX8_thin 6 = .ok (.if_icmp .ge 76, 3) := by decide +kernel
theorem dX8_thin_9 : decode cX8_thin 9 = .ok (.iconst 0, 1) := by decide +kernel
theorem dX8_thin_10 : decode cX8_thin 10 = .ok (.istore_n 3, 1) := by decide +kernel
theorem dX8_thin_11 : decode cX8_thin 11 = .ok (.iconst 0, 1) := by decide +kernel
theorem dX8_thin_12 : decode cX8_thin 12 = .ok (.istore 4, 2) := by decide +kernel
theorem dX8_thin_14 : decode cX8_thin 14 = .ok (.iload 4, 2) := by decide +kernel
theorem dX8_thin_16 : decode cX8_thin 16 = .ok (.aload_n 0, 1) := by decide +kernel
theorem dX8_thin_17 : decode cX8_thin 17 = .ok (.getfield 29, 3) := by decide +kernel
theorem dX8_thin_20 : decode cX8_thin 20 = .ok (.if_icmp .gt 56, 3) := by decide +kernel
theorem dX8_thin_23 : decode cX8_thin 23 = .ok (.aload_n 0, 1) := by decide +kernel
theorem dX8_thin_24 : decode cX8_thin 24 = .ok (.getfield 11, 3) := by decide +kernel
theorem dX8_thin_27 : decode cX8_thin 27 = .ok (.iconst 4, 1) := by decide +kernel
theorem dX8_thin_28 : decode cX8_thin 28 = .ok (.iload 4, 2) := by decide +kernel
theorem dX8_thin_30 : decode cX8_thin 30 = .ok (.imul, 1) := by decide +kernel
theorem dX8_thin_31 : decode cX8_thin 31 = .ok (.iload_n 2, 1) := by decide +kernel
theorem dX8_thin_32 : decode cX8_thin 32 = .ok (.iadd, 1) := by decide +kernel
theorem dX8_thin_33 : decode cX8_thin 33 = .ok (.iaload, 1) := by decide +kernel
theorem dX8_thin_34 : decode cX8_thin 34 = .ok (.iload_n 3, 1) := by decide +kernel
theorem dX8_thin_35 : decode cX8_thin 35 = .ok (.iconst (-1), 1) := by decide +kernel
theorem dX8_thin_36 : decode cX8_thin 36 = .ok (.ixor, 1) := by decide +kernel
theorem dX8_thin_37 : decode cX8_thin 37 = .ok (.iand, 1) := by decide +kernel
theorem dX8_thin_38 : decode cX8_thin 38 = .ok (.istore 5, 2) := by decide +kernel
theorem dX8_thin_40 : decode cX8_thin 40 = .ok (.aload_n 0, 1) := by decide +kernel
theorem dX8_thin_41 : decode cX8_thin 41 = .ok (.getfield 11, 3) := by decide +kernel
theorem dX8_thin_44 : decode cX8_thin 44 = .ok (.iconst 4, 1) := by decide +kernel
theorem dX8_thin_45 : decode cX8_thin 45 = .ok (.iload 4, 2) := by decide +kernel
theorem dX8_thin_47 : decode cX8_thin 47 = .ok (.imul, 1) := by decide +kernel
theorem dX8_thin_48 : decode cX8_thin 48 = .ok (.iload_n 2, 1) := by decide +kernel
theorem dX8_thin_49 : decode cX8_thin 49 = .ok (.iadd, 1) := by decide +kernel
theorem dX8_thin_50 : decode cX8_thin 50 = .ok (.iload 5, 2) := by decide +kernel
theorem dX8_thin_52 : decode cX8_thin 52 = .ok (.iastore, 1) := by decide +kernel
theorem dX8_thin_53 : decode cX8_thin 53 = .ok (.iload 5, 2) := by decide +kernel
theorem dX8_thin_55 : decode cX8_thin 55 = .ok (.ifCond .eq 15, 3) := by decide +kernel
theorem dX8_thin_58 : decode cX8_thin 58 = .ok (.iload_n 3, 1) := by decide +kernel
theorem dX8_thin_59 : decode cX8_thin 59 = .ok (.iload 5, 2) := by decide +kernel
theorem dX8_thin_61 : decode cX8_thin 61 = .ok (.ior, 1) := by decide +kernel
theorem dX8_thin_62 : decode cX8_thin 62 = .ok (.istore_n 3, 1) := by decide +kernel
theorem dX8_thin_63 : decode cX8_thin 63 = .ok (.iload_n 1, 1) := by decide +kernel
theorem dX8_thin_64 : decode cX8_thin 64 = .ok (.iload 4, 2) := by decide +kernel
theorem dX8_thin_66 : decode cX8_thin 66 = .ok (.invokestatic 33, 3) := by decide +kernel
theorem dX8_thin_69 : decode cX8_thin 69 = .ok (.istore_n 1, 1) := by decide +kernel
theorem dX8_thin_70 : decode cX8_thin 70 = .ok (.iinc 4 1, 3) := by decide +kernel
theorem dX8_thin_73 : decode cX8_thin 73 = .ok (.goto (-59), 3) := by decide +kernel
theorem dX8_thin_76 : decode cX8_thin 76 = .ok (.iinc 2 1, 3) := by decide +kernel
theorem dX8_thin_79 : decode cX8_thin 79 = .ok (.goto (-75), 3) := by decide +kernel
theorem dX8_thin_82 : decode cX8_thin 82 = .ok (.aload_n 0, 1) := by decide +kernel
theorem dX8_thin_83 : decode cX8_thin 83 = .ok (.iload_n 1, 1) := by decide +kernel
theorem dX8_thin_84 : decode cX8_thin 84 = .ok (.putfield 29, 3) := by decide +kernel
theorem dX8_thin_87 : decode cX8_thin 87 = .ok (.return_, 1) := by decide +kernel
theorem dX8_whereByEnvelopes_0 : decode cX8_whereByEnvelopes 0 = .ok (.aload_n 2, 1) := by decide +kernel
theorem dX8_whereByEnvelopes_1 : decode cX8_whereByEnvelopes 1 = .ok (.getfield 113, 3) := by decide +kernel
theorem dX8_whereByEnvelopes_4 : decode cX8_whereByEnvelopes 4 = .ok (.istore 4, 2) := by decide +kernel
theorem dX8_whereByEnvelopes_6 : decode cX8_whereByEnvelopes 6 = .ok (.aload_n 0, 1) := by decide +kernel
theorem dX8_whereByEnvelopes_7 : decode cX8_whereByEnvelopes 7 = .ok (.iload_n 1, 1) := by decide +kernel
theorem dX8_whereByEnvelopes_8 : decode cX8_whereByEnvelopes 8 = .ok (.invokevirtual 80, 3) := by decide +kernel
theorem dX8_whereByEnvelopes_11 : decode cX8_whereByEnvelopes 11 = .ok (.iconst 0, 1) := by decide +kernel
theorem dX8_whereByEnvelopes_12 : decode cX8_whereByEnvelopes 12 = .ok (.istore 5, 2) := by decide +kernel
theorem dX8_whereByEnvelopes_14 : decode cX8_whereByEnvelopes 14 = .ok (.iload 5, 2) := by decide +kernel
theorem dX8_whereByEnvelopes_16 : decode cX8_whereByEnvelopes 16 = .ok (.iload_n 3, 1) := by decide +kernel
theorem dX8_whereByEnvelopes_17 : decode cX8_whereByEnvelopes 17 = .ok (.if_icmp .ge 106, 3) := by decide +kernel
theorem dX8_whereByEnvelopes_20 : decode cX8_whereByEnvelopes 20 = .ok (.aload_n 0, 1) := by decide +kernel
theorem dX8_whereByEnvelopes_21 : decode cX8_whereByEnvelopes 21 = .ok (.getfield 25, 3) := by decide +kernel
theorem dX8_whereByEnvelopes_24 : decode cX8_whereByEnvelopes 24 = .ok (.iload 5, 2) := by decide +kernel
theorem dX8_whereByEnvelopes_26 : decode cX8_whereByEnvelopes 26 = .ok (.invokevirtual 56, 3) := by decide +kernel
theorem dX8_whereByEnvelopes_29 : decode cX8_whereByEnvelopes 29 = .ok (.istore 6, 2) := by decide +kernel
theorem dX8_whereByEnvelopes_31 : decode cX8_whereByEnvelopes 31 = .ok (.iconst 0, 1) := by decide +kernel
theorem dX8_whereByEnvelopes_32 : decode cX8_whereByEnvelopes 32 = .ok (.istore 7, 2) := by decide +kernel
theorem dX8_whereByEnvelopes_34 : decode cX8_whereByEnvelopes 34 = .ok (.iload 7, 2) := by decide +kernel
theorem dX8_whereByEnvelopes_36 : decode cX8_whereByEnvelopes 36 = .ok (.aload_n 0, 1) := by decide +kernel
theorem dX8_whereByEnvelopes_37 : decode cX8_whereByEnvelopes 37 = .ok (.getfield 29, 3) := by decide +kernel
theorem dX8_whereByEnvelopes_40 : decode cX8_whereByEnvelopes 40 = .ok (.if_icmp .gt 62, 3) := by decide +kernel
theorem dX8_whereByEnvelopes_43 : decode cX8_whereByEnvelopes 43 = .ok (.aload_n 0, 1) := by decide +kernel
theorem dX8_whereByEnvelopes_44 : decode cX8_whereByEnvelopes 44 = .ok (.iconst 4, 1) := by decide +kernel
theorem dX8_whereByEnvelopes_45 : decode cX8_whereByEnvelopes 45 = .ok (.iload 7, 2) := by decide +kernel
theorem dX8_whereByEnvelopes_47 : decode cX8_whereByEnvelopes 47 = .ok (.imul, 1) := by decide +kernel
theorem dX8_whereByEnvelopes_48 : decode cX8_whereByEnvelopes 48 = .ok (.invokevirtual 60, 3) := by decide +kernel
theorem dX8_whereByEnvelopes_51 : decode cX8_whereByEnvelopes 51 = .ok (.aload_n 0, 1) := by decide +kernel
theorem dX8_whereByEnvelopes_52 : decode cX8_whereByEnvelopes 52 = .ok (.iload 5, 2) := by decide +kernel
theorem dX8_whereByEnvelopes_54 : decode cX8_whereByEnvelopes 54 = .ok (.iconst 2, 1) := by decide +kernel
theorem dX8_whereByEnvelopes_55 : decode cX8_whereByEnvelopes 55 = .ok (.iconst 4, 1) := by decide +kernel
theorem dX8_whereByEnvelopes_56 : decode cX8_whereByEnvelopes 56 = .ok (.iload 7, 2) := by decide +kernel
theorem dX8_whereByEnvelopes_58 : decode cX8_whereByEnvelopes 58 = .ok (.imul, 1) := by decide +kernel
theorem dX8_whereByEnvelopes_59 : decode cX8_whereByEnvelopes 59 = .ok (.iload 6, 2) := by decide +kernel
theorem dX8_whereByEnvelopes_61 : decode cX8_whereByEnvelopes 61 = .ok (.iconst 4, 1) := by decide +kernel
theorem dX8_whereByEnvelopes_62 : decode cX8_whereByEnvelopes 62 = .ok (.iload 7, 2) := by decide +kernel
theorem dX8_whereByEnvelopes_64 : decode cX8_whereByEnvelopes 64 = .ok (.imul, 1) := by decide +kernel
theorem dX8_whereByEnvelopes_65 : decode cX8_whereByEnvelopes 65 = .ok (.invokevirtual 64, 3) := by decide +kernel
theorem dX8_whereByEnvelopes_68 : decode cX8_whereByEnvelopes 68 = .ok (.aload_n 0, 1) := by decide +kernel
theorem dX8_whereByEnvelopes_69 : decode cX8_whereByEnvelopes 69 = .ok (.iload 5, 2) := by decide +kernel
theorem dX8_whereByEnvelopes_71 : decode cX8_whereByEnvelopes 71 = .ok (.iconst 3, 1) := by decide +kernel
theorem dX8_whereByEnvelopes_72 : decode cX8_whereByEnvelopes 72 = .ok (.iconst 4, 1) := by decide +kernel
theorem dX8_whereByEnvelopes_73 : decode cX8_whereByEnvelopes 73 = .ok (.iload 7, 2) := by decide +kernel
theorem dX8_whereByEnvelopes_75 : decode cX8_whereByEnvelopes 75 = .ok (.imul, 1) := by decide +kernel
theorem dX8_whereByEnvelopes_76 : decode cX8_whereByEnvelopes 76 = .ok (.iload 6, 2) := by decide +kernel
theorem dX8_whereByEnvelopes_78 : decode cX8_whereByEnvelopes 78 = .ok (.iconst 4, 1) := by decide +kernel
theorem dX8_whereByEnvelopes_79 : decode cX8_whereByEnvelopes 79 = .ok (.iload 7, 2) := by decide +kernel
theorem dX8_whereByEnvelopes_81 : decode cX8_whereByEnvelopes 81 = .ok (.imul, 1) := by decide +kernel
theorem dX8_whereByEnvelopes_82 : decode cX8_whereByEnvelopes 82 = .ok (.invokevirtual 64, 3) := by decide +kernel
theorem dX8_whereByEnvelopes_85 : decode cX8_whereByEnvelopes 85 = .ok (.aload_n 0, 1) := by decide +kernel
theorem dX8_whereByEnvelopes_86 : decode cX8_whereByEnvelopes 86 = .ok (.iload 5, 2) := by decide +kernel
theorem dX8_whereByEnvelopes_88 : decode cX8_whereByEnvelopes 88 = .ok (.iload 7, 2) := by decide +kernel
theorem dX8_whereByEnvelopes_90 : decode cX8_whereByEnvelopes 90 = .ok (.iload 6, 2) := by decide +kernel
theorem dX8_whereByEnvelopes_92 : decode cX8_whereByEnvelopes 92 = .ok (.aload_n 2, 1) := by decide +kernel
theorem dX8_whereByEnvelopes_93 : decode cX8_whereByEnvelopes 93 = .ok (.invokevirtual 118, 3) := by decide +kernel
theorem dX8_whereByEnvelopes_96 : decode cX8_whereByEnvelopes 96 = .ok (.iinc 7 1, 3) := by decide +kernel
theorem dX8_whereByEnvelopes_99 : decode cX8_whereByEnvelopes 99 = .ok (.goto (-65), 3) := by decide +kernel
theorem dX8_whereByEnvelopes_102 : decode cX8_whereByEnvelopes 102 = .ok (.aload_n 0, 1) := by decide +kernel
theorem dX8_whereByEnvelopes_103 : decode cX8_whereByEnvelopes 103 = .ok (.aload_n 0, 1) := by decide +kernel
theorem dX8_whereByEnvelopes_104 : decode cX8_whereByEnvelopes 104 = .ok (.getfield 29, 3) := by decide +kernel
theorem dX8_whereByEnvelopes_107 : decode cX8_whereByEnvelopes 107 = .ok (.iconst 2, 1) := by decide +kernel
theorem dX8_whereByEnvelopes_108 : decode cX8_whereByEnvelopes 108 = .ok (.iadd, 1) := by decide +kernel
theorem dX8_whereByEnvelopes_109 : decode cX8_whereByEnvelopes 109 = .ok (.iload 4, 2) := by decide +kernel
theorem dX8_whereByEnvelopes_111 : decode cX8_whereByEnvelopes 111 = .ok (.invokestatic 68, 3) := by decide +kernel
theorem dX8_whereByEnvelopes_114 : decode cX8_whereByEnvelopes 114 = .ok (.invokevirtual 71, 3) := by decide +kernel
theorem dX8_whereByEnvelopes_117 : decode cX8_whereByEnvelopes 117 = .ok (.iinc 5 1, 3) := by decide +kernel
theorem dX8_whereByEnvelopes_120 : decode cX8_whereByEnvelopes 120 = .ok (.goto (-106), 3) := by decide +kernel
theorem dX8_whereByEnvelopes_123 : decode cX8_whereByEnvelopes 123 = .ok (.aload_n 0, 1) := by decide +kernel
theorem dX8_whereByEnvelopes_124 : decode cX8_whereByEnvelopes 124 = .ok (.getfield 29, 3) := by decide +kernel
theorem dX8_whereByEnvelopes_127 : decode cX8_whereByEnvelopes 127 = .ok (.iload 4, 2) := by decide +kernel
theorem dX8_whereByEnvelopes_129 : decode cX8_whereByEnvelopes 129 = .ok (.if_icmp .ne 12, 3) := by decide +kernel
theorem dX8_whereByEnvelopes_132 : decode cX8_whereByEnvelopes 132 = .ok (.aload_n 0, 1) := by decide +kernel
theorem dX8_whereByEnvelopes_133 : decode cX8_whereByEnvelopes 133 = .ok (.iload 4, 2) := by decide +kernel
theorem dX8_whereByEnvelopes_135 : decode cX8_whereByEnvelopes 135 = .ok (.invokevirtual 77, 3) := by decide +kernel
theorem dX8_whereByEnvelopes_138 : decode cX8_whereByEnvelopes 138 = .ok (.goto 4, 3) := by decide +kernel
theorem dX8_whereByEnvelopes_141 : decode cX8_whereByEnvelopes 141 = .ok (.iconst 0, 1) := by decide +kernel
theorem dX8_whereByEnvelopes_142 : decode cX8_whereByEnvelopes 142 = .ok (.ireturn, 1) := by decide +kernel
theorem o18_1 {x0 : Int} (h0 : x0 = 0) : 0 ≤ x0 := by omega
theorem o18_2 {x0 : Int} (h0 : x0 = 0) : x0 ≤ 240 := by omega
theorem o18_3 {x0 : Int} (h0 : 0 ≤ x0) (h1 : x0 ≤ 240) (h2 : 240 - x0 < 0) : False := by omega
theorem o18_4 {x0 x1 x2 x4 x5 : Int} {x3 : Nat} (h0 : 0 ≤ x1) (h1 : x1 ≤ 239) (h2 : 0 ≤ x2) (h3 : x2 ≤ 240) (h4 : 240 - x2 < ((x3 + 1 : Nat) : Int)) (h5 : 0 ≤ x4) (h6 : x4 ≤ 240) (h7 : x4 = x2) (h8 : x4 ≤ x1) (h9 : 0 ≤ x0) (h10 : x0 ≤ 240) (h11 : x0 = x2) (h12 : 0 ≤ x5) (h13 : x5 ≤ 240) (h14 : x5 = x2) : 0 ≤ x0 := by omega
theorem o18_5 {x0 x1 x2 x4 x5 : Int} {x3 : Nat} (h0 : 0 ≤ x1) (h1 : x1 ≤ 239) (h2 : 0 ≤ x2) (h3 : x2 ≤ 240) (h4 : 240 - x2 < ((x3 + 1 : Nat) : Int)) (h5 : 0 ≤ x4) (h6 : x4 ≤ 240) (h7 : x4 = x2) (h8 : x4 ≤ x1) (h9 : 0 ≤ x0) (h10 : x0 ≤ 240) (h11 : x0 = x2) (h12 : 0 ≤ x5) (h13 : x5 ≤ 240) (h14 : x5 = x2) : x0 < (240 : Nat) := by omega
theorem o18_6 {x0 : Int} (h0 : 0 ≤ x0) (h1 : x0 ≤ 4) (h2 : 4 - x0 < 0) : False := by omega
theorem o18_7 {x0 x1 x2 x3 x5 x6 x7 : Int} {x4 : Nat} (h0 : 0 ≤ x2) (h1 : x2 ≤ 239) (h2 : 0 ≤ x3) (h3 : x3 ≤ 240) (h4 : 240 - x3 < ((x4 + 1 : Nat) : Int)) (h5 : 0 ≤ x5) (h6 : x5 ≤ 240) (h7 : x5 = x3) (h8 : x5 ≤ x2) (h9 : 0 ≤ x6) (h10 : x6 ≤ 240) (h11 : x6 = x3) (h12 : 0 ≤ x7) (h13 : x7 ≤ 240) (h14 : x7 = x3) (h15 : 0 ≤ x0) (h16 : x0 ≤ 240) (h17 : x0 = x3) (h18 : x1 = 1) (h19 : -2147483648 ≤ x0) (h20 : x0 ≤ 2147483647) (h21 : -2147483648 ≤ x1) (h22 : x1 ≤ 2147483647) (h23 : -2147483648 ≤ x2) (h24 : x2 ≤ 2147483647) (h25 : -2147483648 ≤ x3) (h26 : x3 ≤ 2147483647) (h27 : -2147483648 ≤ x5) (h28 : x5 ≤ 2147483647) (h29 : -2147483648 ≤ x6) (h30 : x6 ≤ 2147483647) (h31 : -2147483648 ≤ x7) (h32 : x7 ≤ 2147483647) : -2147483648 ≤ x0 + x1 := by omega
theorem o18_8 {x0 x1 x2 x3 x5 x6 x7 : Int} {x4 : Nat} (h0 : 0 ≤ x2) (h1 : x2 ≤ 239) (h2 : 0 ≤ x3) (h3 : x3 ≤ 240) (h4 : 240 - x3 < ((x4 + 1 : Nat) : Int)) (h5 : 0 ≤ x5) (h6 : x5 ≤ 240) (h7 : x5 = x3) (h8 : x5 ≤ x2) (h9 : 0 ≤ x6) (h10 : x6 ≤ 240) (h11 : x6 = x3) (h12 : 0 ≤ x7) (h13 : x7 ≤ 240) (h14 : x7 = x3) (h15 : 0 ≤ x0) (h16 : x0 ≤ 240) (h17 : x0 = x3) (h18 : x1 = 1) (h19 : -2147483648 ≤ x0) (h20 : x0 ≤ 2147483647) (h21 : -2147483648 ≤ x1) (h22 : x1 ≤ 2147483647) (h23 : -2147483648 ≤ x2) (h24 : x2 ≤ 2147483647) (h25 : -2147483648 ≤ x3) (h26 : x3 ≤ 2147483647) (h27 : -2147483648 ≤ x5) (h28 : x5 ≤ 2147483647) (h29 : -2147483648 ≤ x6) (h30 : x6 ≤ 2147483647) (h31 : -2147483648 ≤ x7) (h32 : x7 ≤ 2147483647) : x0 + x1 ≤ 2147483647 := by omega
theorem o18_9 {x0 x1 x2 x4 x5 x6 x7 x8 : Int} {x3 : Nat} (h0 : 0 ≤ x1) (h1 : x1 ≤ 239) (h2 : 0 ≤ x2) (h3 : x2 ≤ 240) (h4 : 240 - x2 < ((x3 + 1 : Nat) : Int)) (h5 : 0 ≤ x4) (h6 : x4 ≤ 240) (h7 : x4 = x2) (h8 : x4 ≤ x1) (h9 : 0 ≤ x5) (h10 : x5 ≤ 240) (h11 : x5 = x2) (h12 : 0 ≤ x6) (h13 : x6 ≤ 240) (h14 : x6 = x2) (h15 : 0 ≤ x7) (h16 : x7 ≤ 240) (h17 : x7 = x2) (h18 : x8 = 1) (h19 : x0 = x7 + x8) : 0 ≤ x0 := by omega
theorem o18_10 {x0 x1 x2 x4 x5 x6 x7 x8 : Int} {x3 : Nat} (h0 : 0 ≤ x1) (h1 : x1 ≤ 239) (h2 : 0 ≤ x2) (h3 : x2 ≤ 240) (h4 : 240 - x2 < ((x3 + 1 : Nat) : Int)) (h5 : 0 ≤ x4) (h6 : x4 ≤ 240) (h7 : x4 = x2) (h8 : x4 ≤ x1) (h9 : 0 ≤ x5) (h10 : x5 ≤ 240) (h11 : x5 = x2) (h12 : 0 ≤ x6) (h13 : x6 ≤ 240) (h14 : x6 = x2) (h15 : 0 ≤ x7) (h16 : x7 ≤ 240) (h17 : x7 = x2) (h18 : x8 = 1) (h19 : x0 = x7 + x8) : x0 ≤ 240 := by omega
theorem o18_11 {x0 x2 x3 x4 x5 x6 x7 x8 : Int} {x1 : Nat} (h0 : 0 ≤ x2) (h1 : x2 ≤ 239) (h2 : 0 ≤ x3) (h3 : x3 ≤ 240) (h4 : 240 - x3 < ((x1 + 1 : Nat) : Int)) (h5 : 0 ≤ x4) (h6 : x4 ≤ 240) (h7 : x4 = x3) (h8 : x4 ≤ x2) (h9 : 0 ≤ x5) (h10 : x5 ≤ 240) (h11 : x5 = x3) (h12 : 0 ≤ x6) (h13 : x6 ≤ 240) (h14 : x6 = x3) (h15 : 0 ≤ x7) (h16 : x7 ≤ 240) (h17 : x7 = x3) (h18 : x8 = 1) (h19 : x0 = x7 + x8) : 240 - x0 < (x1 : Int) := by omega
theorem o18_12 {x0 : Int} (h0 : x0 = 4) : x0 = 4 := by omega
theorem o18_13 {x0 x1 x2 x4 x5 x6 : Int} {x3 : Nat} (h0 : 0 ≤ x1) (h1 : x1 ≤ 239) (h2 : 0 ≤ x2) (h3 : x2 ≤ 240) (h4 : 240 - x2 < ((x3 + 1 : Nat) : Int)) (h5 : 0 ≤ x4) (h6 : x4 ≤ 240) (h7 : x4 = x2) (h8 : x4 ≤ x1) (h9 : 0 ≤ x5) (h10 : x5 ≤ 240) (h11 : x5 = x2) (h12 : 0 ≤ x6) (h13 : x6 ≤ 240) (h14 : x6 = x2) (h15 : 0 ≤ x0) (h16 : x0 ≤ 240) (h17 : x0 = x2) (h18 : -2147483648 ≤ x0) (h19 : x0 ≤ 2147483647) (h20 : -2147483648 ≤ x1) (h21 : x1 ≤ 2147483647) (h22 : -2147483648 ≤ x2) (h23 : x2 ≤ 2147483647) (h24 : -2147483648 ≤ x4) (h25 : x4 ≤ 2147483647) (h26 : -2147483648 ≤ x5) (h27 : x5 ≤ 2147483647) (h28 : -2147483648 ≤ x6) (h29 : x6 ≤ 2147483647) : -2147483648 ≤ 4 * x0 := by omega
theorem o18_14 {x0 x1 x2 x4 x5 x6 : Int} {x3 : Nat} (h0 : 0 ≤ x1) (h1 : x1 ≤ 239) (h2 : 0 ≤ x2) (h3 : x2 ≤ 240) (h4 : 240 - x2 < ((x3 + 1 : Nat) : Int)) (h5 : 0 ≤ x4) (h6 : x4 ≤ 240) (h7 : x4 = x2) (h8 : x4 ≤ x1) (h9 : 0 ≤ x5) (h10 : x5 ≤ 240) (h11 : x5 = x2) (h12 : 0 ≤ x6) (h13 : x6 ≤ 240) (h14 : x6 = x2) (h15 : 0 ≤ x0) (h16 : x0 ≤ 240) (h17 : x0 = x2) (h18 : -2147483648 ≤ x0) (h19 : x0 ≤ 2147483647) (h20 : -2147483648 ≤ x1) (h21 : x1 ≤ 2147483647) (h22 : -2147483648 ≤ x2) (h23 : x2 ≤ 2147483647) (h24 : -2147483648 ≤ x4) (h25 : x4 ≤ 2147483647) (h26 : -2147483648 ≤ x5) (h27 : x5 ≤ 2147483647) (h28 : -2147483648 ≤ x6) (h29 : x6 ≤ 2147483647) : 4 * x0 ≤ 2147483647 := by omega
theorem o18_15 {x0 x1 x2 x3 x5 x6 x7 x9 x10 : Int} {x4 x8 : Nat} (h0 : 0 ≤ x2) (h1 : x2 ≤ 239) (h2 : 0 ≤ x3) (h3 : x3 ≤ 240) (h4 : 240 - x3 < ((x4 + 1 : Nat) : Int)) (h5 : 0 ≤ x5) (h6 : x5 ≤ 240) (h7 : x5 = x3) (h8 : x5 ≤ x2) (h9 : 0 ≤ x6) (h10 : x6 ≤ 240) (h11 : x6 = x3) (h12 : 0 ≤ x7) (h13 : x7 ≤ 240) (h14 : x7 = x3) (h15 : 0 ≤ x1) (h16 : x1 ≤ 4) (h17 : 4 - x1 < ((x8 + 1 : Nat) : Int)) (h18 : x9 = 4) (h19 : x1 < x9) (h20 : 0 ≤ x10) (h21 : x10 ≤ 240) (h22 : x10 = x3) (h23 : x0 = 4 * x10) (h24 : -2147483648 ≤ x0) (h25 : x0 ≤ 2147483647) (h26 : -2147483648 ≤ x1) (h27 : x1 ≤ 2147483647) (h28 : -2147483648 ≤ x2) (h29 : x2 ≤ 2147483647) (h30 : -2147483648 ≤ x3) (h31 : x3 ≤ 2147483647) (h32 : -2147483648 ≤ x5) (h33 : x5 ≤ 2147483647) (h34 : -2147483648 ≤ x6) (h35 : x6 ≤ 2147483647) (h36 : -2147483648 ≤ x7) (h37 : x7 ≤ 2147483647) (h38 : -2147483648 ≤ x9) (h39 : x9 ≤ 2147483647) (h40 : -2147483648 ≤ x10) (h41 : x10 ≤ 2147483647) : -2147483648 ≤ x0 + x1 := by omega
theorem o18_16 {x0 x1 x2 x3 x5 x6 x7 x9 x10 : Int} {x4 x8 : Nat} (h0 : 0 ≤ x2) (h1 : x2 ≤ 239) (h2 : 0 ≤ x3) (h3 : x3 ≤ 240) (h4 : 240 - x3 < ((x4 + 1 : Nat) : Int)) (h5 : 0 ≤ x5) (h6 : x5 ≤ 240) (h7 : x5 = x3) (h8 : x5 ≤ x2) (h9 : 0 ≤ x6) (h10 : x6 ≤ 240) (h11 : x6 = x3) (h12 : 0 ≤ x7) (h13 : x7 ≤ 240) (h14 : x7 = x3) (h15 : 0 ≤ x1) (h16 : x1 ≤ 4) (h17 : 4 - x1 < ((x8 + 1 : Nat) : Int)) (h18 : x9 = 4) (h19 : x1 < x9) (h20 : 0 ≤ x10) (h21 : x10 ≤ 240) (h22 : x10 = x3) (h23 : x0 = 4 * x10) (h24 : -2147483648 ≤ x0) (h25 : x0 ≤ 2147483647) (h26 : -2147483648 ≤ x1) (h27 : x1 ≤ 2147483647) (h28 : -2147483648 ≤ x2) (h29 : x2 ≤ 2147483647) (h30 : -2147483648 ≤ x3) (h31 : x3 ≤ 2147483647) (h32 : -2147483648 ≤ x5) (h33 : x5 ≤ 2147483647) (h34 : -2147483648 ≤ x6) (h35 : x6 ≤ 2147483647) (h36 : -2147483648 ≤ x7) (h37 : x7 ≤ 2147483647) (h38 : -2147483648 ≤ x9) (h39 : x9 ≤ 2147483647) (h40 : -2147483648 ≤ x10) (h41 : x10 ≤ 2147483647) : x0 + x1 ≤ 2147483647 := by omega
theorem o18_17 {x0 x1 x2 x4 x5 x6 x7 x9 x10 x11 : Int} {x3 x8 : Nat} (h0 : 0 ≤ x1) (h1 : x1 ≤ 239) (h2 : 0 ≤ x2) (h3 : x2 ≤ 240) (h4 : 240 - x2 < ((x3 + 1 : Nat) : Int)) (h5 : 0 ≤ x4) (h6 : x4 ≤ 240) (h7 : x4 = x2) (h8 : x4 ≤ x1) (h9 : 0 ≤ x5) (h10 : x5 ≤ 240) (h11 : x5 = x2) (h12 : 0 ≤ x6) (h13 : x6 ≤ 240) (h14 : x6 = x2) (h15 : 0 ≤ x7) (h16 : x7 ≤ 4) (h17 : 4 - x7 < ((x8 + 1 : Nat) : Int)) (h18 : x9 = 4) (h19 : x7 < x9) (h20 : 0 ≤ x10) (h21 : x10 ≤ 240) (h22 : x10 = x2) (h23 : x11 = 4 * x10) (h24 : x0 = x11 + x7) : 0 ≤ x0 := by omega
theorem o18_18 {x0 x1 x2 x4 x5 x6 x7 x9 x10 x11 : Int} {x3 x8 : Nat} (h0 : 0 ≤ x1) (h1 : x1 ≤ 239) (h2 : 0 ≤ x2) (h3 : x2 ≤ 240) (h4 : 240 - x2 < ((x3 + 1 : Nat) : Int)) (h5 : 0 ≤ x4) (h6 : x4 ≤ 240) (h7 : x4 = x2) (h8 : x4 ≤ x1) (h9 : 0 ≤ x5) (h10 : x5 ≤ 240) (h11 : x5 = x2) (h12 : 0 ≤ x6) (h13 : x6 ≤ 240) (h14 : x6 = x2) (h15 : 0 ≤ x7) (h16 : x7 ≤ 4) (h17 : 4 - x7 < ((x8 + 1 : Nat) : Int)) (h18 : x9 = 4) (h19 : x7 < x9) (h20 : 0 ≤ x10) (h21 : x10 ≤ 240) (h22 : x10 = x2) (h23 : x11 = 4 * x10) (h24 : x0 = x11 + x7) : x0 < (960 : Nat) := by omega
theorem o18_19 {x0 x1 x2 x4 x5 x6 x7 x9 x10 x11 x12 : Int} {x3 x8 : Nat} (h0 : 0 ≤ x1) (h1 : x1 ≤ 239) (h2 : 0 ≤ x2) (h3 : x2 ≤ 240) (h4 : 240 - x2 < ((x3 + 1 : Nat) : Int)) (h5 : 0 ≤ x4) (h6 : x4 ≤ 240) (h7 : x4 = x2) (h8 : x4 ≤ x1) (h9 : 0 ≤ x5) (h10 : x5 ≤ 240) (h11 : x5 = x2) (h12 : 0 ≤ x6) (h13 : x6 ≤ 240) (h14 : x6 = x2) (h15 : 0 ≤ x7) (h16 : x7 ≤ 4) (h17 : 4 - x7 < ((x8 + 1 : Nat) : Int)) (h18 : x9 = 4) (h19 : x7 < x9) (h20 : 0 ≤ x10) (h21 : x10 ≤ 240) (h22 : x10 = x2) (h23 : x11 = 4 * x10) (h24 : x12 = x11 + x7) (h25 : 0 ≤ x0) (h26 : x0 ≤ 240) (h27 : x0 = x2) (h28 : -2147483648 ≤ x0) (h29 : x0 ≤ 2147483647) (h30 : -2147483648 ≤ x1) (h31 : x1 ≤ 2147483647) (h32 : -2147483648 ≤ x2) (h33 : x2 ≤ 2147483647) (h34 : -2147483648 ≤ x4) (h35 : x4 ≤ 2147483647) (h36 : -2147483648 ≤ x5) (h37 : x5 ≤ 2147483647) (h38 : -2147483648 ≤ x6) (h39 : x6 ≤ 2147483647) (h40 : -2147483648 ≤ x7) (h41 : x7 ≤ 2147483647) (h42 : -2147483648 ≤ x9) (h43 : x9 ≤ 2147483647) (h44 : -2147483648 ≤ x10) (h45 : x10 ≤ 2147483647) (h46 : -2147483648 ≤ x11) (h47 : x11 ≤ 2147483647) (h48 : -2147483648 ≤ x12) (h49 : x12 ≤ 2147483647) : -2147483648 ≤ 4 * x0 := by omega
theorem o18_20 {x0 x1 x2 x4 x5 x6 x7 x9 x10 x11 x12 : Int} {x3 x8 : Nat} (h0 : 0 ≤ x1) (h1 : x1 ≤ 239) (h2 : 0 ≤ x2) (h3 : x2 ≤ 240) (h4 : 240 - x2 < ((x3 + 1 : Nat) : Int)) (h5 : 0 ≤ x4) (h6 : x4 ≤ 240) (h7 : x4 = x2) (h8 : x4 ≤ x1) (h9 : 0 ≤ x5) (h10 : x5 ≤ 240) (h11 : x5 = x2) (h12 : 0 ≤ x6) (h13 : x6 ≤ 240) (h14 : x6 = x2) (h15 : 0 ≤ x7) (h16 : x7 ≤ 4) (h17 : 4 - x7 < ((x8 + 1 : Nat) : Int)) (h18 : x9 = 4) (h19 : x7 < x9) (h20 : 0 ≤ x10) (h21 : x10 ≤ 240) (h22 : x10 = x2) (h23 : x11 = 4 * x10) (h24 : x12 = x11 + x7) (h25 : 0 ≤ x0) (h26 : x0 ≤ 240) (h27 : x0 = x2) (h28 : -2147483648 ≤ x0) (h29 : x0 ≤ 2147483647) (h30 : -2147483648 ≤ x1) (h31 : x1 ≤ 2147483647) (h32 : -2147483648 ≤ x2) (h33 : x2 ≤ 2147483647) (h34 : -2147483648 ≤ x4) (h35 : x4 ≤ 2147483647) (h36 : -2147483648 ≤ x5) (h37 : x5 ≤ 2147483647) (h38 : -2147483648 ≤ x6) (h39 : x6 ≤ 2147483647) (h40 : -2147483648 ≤ x7) (h41 : x7 ≤ 2147483647) (h42 : -2147483648 ≤ x9) (h43 : x9 ≤ 2147483647) (h44 : -2147483648 ≤ x10) (h45 : x10 ≤ 2147483647) (h46 : -2147483648 ≤ x11) (h47 : x11 ≤ 2147483647) (h48 : -2147483648 ≤ x12) (h49 : x12 ≤ 2147483647) : 4 * x0 ≤ 2147483647 := by omega
theorem o18_21 {x0 x1 x2 x3 x5 x6 x7 x9 x10 x11 x12 x13 : Int} {x4 x8 : Nat} (h0 : 0 ≤ x2) (h1 : x2 ≤ 239) (h2 : 0 ≤ x3) (h3 : x3 ≤ 240) (h4 : 240 - x3 < ((x4 + 1 : Nat) : Int)) (h5 : 0 ≤ x5) (h6 : x5 ≤ 240) (h7 : x5 = x3) (h8 : x5 ≤ x2) (h9 : 0 ≤ x6) (h10 : x6 ≤ 240) (h11 : x6 = x3) (h12 : 0 ≤ x7) (h13 : x7 ≤ 240) (h14 : x7 = x3) (h15 : 0 ≤ x1) (h16 : x1 ≤ 4) (h17 : 4 - x1 < ((x8 + 1 : Nat) : Int)) (h18 : x9 = 4) (h19 : x1 < x9) (h20 : 0 ≤ x10) (h21 : x10 ≤ 240) (h22 : x10 = x3) (h23 : x11 = 4 * x10) (h24 : x12 = x11 + x1) (h25 : 0 ≤ x13) (h26 : x13 ≤ 240) (h27 : x13 = x3) (h28 : x0 = 4 * x13) (h29 : -2147483648 ≤ x0) (h30 : x0 ≤ 2147483647) (h31 : -2147483648 ≤ x1) (h32 : x1 ≤ 2147483647) (h33 : -2147483648 ≤ x2) (h34 : x2 ≤ 2147483647) (h35 : -2147483648 ≤ x3) (h36 : x3 ≤ 2147483647) (h37 : -2147483648 ≤ x5) (h38 : x5 ≤ 2147483647) (h39 : -2147483648 ≤ x6) (h40 : x6 ≤ 2147483647) (h41 : -2147483648 ≤ x7) (h42 : x7 ≤ 2147483647) (h43 : -2147483648 ≤ x9) (h44 : x9 ≤ 2147483647) (h45 : -2147483648 ≤ x10) (h46 : x10 ≤ 2147483647) (h47 : -2147483648 ≤ x11) (h48 : x11 ≤ 2147483647) (h49 : -2147483648 ≤ x12) (h50 : x12 ≤ 2147483647) (h51 : -2147483648 ≤ x13) (h52 : x13 ≤ 2147483647) : -2147483648 ≤ x0 + x1 := by omega
theorem o18_22 {x0 x1 x2 x3 x5 x6 x7 x9 x10 x11 x12 x13 : Int} {x4 x8 : Nat} (h0 : 0 ≤ x2) (h1 : x2 ≤ 239) (h2 : 0 ≤ x3) (h3 : x3 ≤ 240) (h4 : 240 - x3 < ((x4 + 1 : Nat) : Int)) (h5 : 0 ≤ x5) (h6 : x5 ≤ 240) (h7 : x5 = x3) (h8 : x5 ≤ x2) (h9 : 0 ≤ x6) (h10 : x6 ≤ 240) (h11 : x6 = x3) (h12 : 0 ≤ x7) (h13 : x7 ≤ 240) (h14 : x7 = x3) (h15 : 0 ≤ x1) (h16 : x1 ≤ 4) (h17 : 4 - x1 < ((x8 + 1 : Nat) : Int)) (h18 : x9 = 4) (h19 : x1 < x9) (h20 : 0 ≤ x10) (h21 : x10 ≤ 240) (h22 : x10 = x3) (h23 : x11 = 4 * x10) (h24 : x12 = x11 + x1) (h25 : 0 ≤ x13) (h26 : x13 ≤ 240) (h27 : x13 = x3) (h28 : x0 = 4 * x13) (h29 : -2147483648 ≤ x0) (h30 : x0 ≤ 2147483647) (h31 : -2147483648 ≤ x1) (h32 : x1 ≤ 2147483647) (h33 : -2147483648 ≤ x2) (h34 : x2 ≤ 2147483647) (h35 : -2147483648 ≤ x3) (h36 : x3 ≤ 2147483647) (h37 : -2147483648 ≤ x5) (h38 : x5 ≤ 2147483647) (h39 : -2147483648 ≤ x6) (h40 : x6 ≤ 2147483647) (h41 : -2147483648 ≤ x7) (h42 : x7 ≤ 2147483647) (h43 : -2147483648 ≤ x9) (h44 : x9 ≤ 2147483647) (h45 : -2147483648 ≤ x10) (h46 : x10 ≤ 2147483647) (h47 : -2147483648 ≤ x11) (h48 : x11 ≤ 2147483647) (h49 : -2147483648 ≤ x12) (h50 : x12 ≤ 2147483647) (h51 : -2147483648 ≤ x13) (h52 : x13 ≤ 2147483647) : x0 + x1 ≤ 2147483647 := by omega
theorem o18_23 {x0 x1 x2 x4 x5 x6 x7 x9 x10 x11 x12 x13 x14 : Int} {x3 x8 : Nat} (h0 : 0 ≤ x1) (h1 : x1 ≤ 239) (h2 : 0 ≤ x2) (h3 : x2 ≤ 240) (h4 : 240 - x2 < ((x3 + 1 : Nat) : Int)) (h5 : 0 ≤ x4) (h6 : x4 ≤ 240) (h7 : x4 = x2) (h8 : x4 ≤ x1) (h9 : 0 ≤ x5) (h10 : x5 ≤ 240) (h11 : x5 = x2) (h12 : 0 ≤ x6) (h13 : x6 ≤ 240) (h14 : x6 = x2) (h15 : 0 ≤ x7) (h16 : x7 ≤ 4) (h17 : 4 - x7 < ((x8 + 1 : Nat) : Int)) (h18 : x9 = 4) (h19 : x7 < x9) (h20 : 0 ≤ x10) (h21 : x10 ≤ 240) (h22 : x10 = x2) (h23 : x11 = 4 * x10) (h24 : x12 = x11 + x7) (h25 : 0 ≤ x13) (h26 : x13 ≤ 240) (h27 : x13 = x2) (h28 : x14 = 4 * x13) (h29 : x0 = x14 + x7) : 0 ≤ x0 := by omega
theorem o18_24 {x0 x1 x2 x4 x5 x6 x7 x9 x10 x11 x12 x13 x14 : Int} {x3 x8 : Nat} (h0 : 0 ≤ x1) (h1 : x1 ≤ 239) (h2 : 0 ≤ x2) (h3 : x2 ≤ 240) (h4 : 240 - x2 < ((x3 + 1 : Nat) : Int)) (h5 : 0 ≤ x4) (h6 : x4 ≤ 240) (h7 : x4 = x2) (h8 : x4 ≤ x1) (h9 : 0 ≤ x5) (h10 : x5 ≤ 240) (h11 : x5 = x2) (h12 : 0 ≤ x6) (h13 : x6 ≤ 240) (h14 : x6 = x2) (h15 : 0 ≤ x7) (h16 : x7 ≤ 4) (h17 : 4 - x7 < ((x8 + 1 : Nat) : Int)) (h18 : x9 = 4) (h19 : x7 < x9) (h20 : 0 ≤ x10) (h21 : x10 ≤ 240) (h22 : x10 = x2) (h23 : x11 = 4 * x10) (h24 : x12 = x11 + x7) (h25 : 0 ≤ x13) (h26 : x13 ≤ 240) (h27 : x13 = x2) (h28 : x14 = 4 * x13) (h29 : x0 = x14 + x7) : x0 < (960 : Nat) := by omega
theorem o18_25 {x0 x1 x2 x4 x5 x6 x8 x9 x10 x11 x12 x13 x14 : Int} {x3 x7 : Nat} (h0 : 0 ≤ x1) (h1 : x1 ≤ 239) (h2 : 0 ≤ x2) (h3 : x2 ≤ 240) (h4 : 240 - x2 < ((x3 + 1 : Nat) : Int)) (h5 : 0 ≤ x4) (h6 : x4 ≤ 240) (h7 : x4 = x2) (h8 : x4 ≤ x1) (h9 : 0 ≤ x5) (h10 : x5 ≤ 240) (h11 : x5 = x2) (h12 : 0 ≤ x6) (h13 : x6 ≤ 240) (h14 : x6 = x2) (h15 : 0 ≤ x0) (h16 : x0 ≤ 4) (h17 : 4 - x0 < ((x7 + 1 : Nat) : Int)) (h18 : x8 = 4) (h19 : x0 < x8) (h20 : 0 ≤ x9) (h21 : x9 ≤ 240) (h22 : x9 = x2) (h23 : x10 = 4 * x9) (h24 : x11 = x10 + x0) (h25 : 0 ≤ x12) (h26 : x12 ≤ 240) (h27 : x12 = x2) (h28 : x13 = 4 * x12) (h29 : x14 = x13 + x0) (h30 : -2147483648 ≤ x0) (h31 : x0 ≤ 2147483647) (h32 : -2147483648 ≤ x1) (h33 : x1 ≤ 2147483647) (h34 : -2147483648 ≤ x2) (h35 : x2 ≤ 2147483647) (h36 : -2147483648 ≤ x4) (h37 : x4 ≤ 2147483647) (h38 : -2147483648 ≤ x5) (h39 : x5 ≤ 2147483647) (h40 : -2147483648 ≤ x6) (h41 : x6 ≤ 2147483647) (h42 : -2147483648 ≤ x8) (h43 : x8 ≤ 2147483647) (h44 : -2147483648 ≤ x9) (h45 : x9 ≤ 2147483647) (h46 : -2147483648 ≤ x10) (h47 : x10 ≤ 2147483647) (h48 : -2147483648 ≤ x11) (h49 : x11 ≤ 2147483647) (h50 : -2147483648 ≤ x12) (h51 : x12 ≤ 2147483647) (h52 : -2147483648 ≤ x13) (h53 : x13 ≤ 2147483647) (h54 : -2147483648 ≤ x14) (h55 : x14 ≤ 2147483647) : -2147483648 ≤ x0 + 1 := by omega
theorem o18_26 {x0 x1 x2 x4 x5 x6 x8 x9 x10 x11 x12 x13 x14 : Int} {x3 x7 : Nat} (h0 : 0 ≤ x1) (h1 : x1 ≤ 239) (h2 : 0 ≤ x2) (h3 : x2 ≤ 240) (h4 : 240 - x2 < ((x3 + 1 : Nat) : Int)) (h5 : 0 ≤ x4) (h6 : x4 ≤ 240) (h7 : x4 = x2) (h8 : x4 ≤ x1) (h9 : 0 ≤ x5) (h10 : x5 ≤ 240) (h11 : x5 = x2) (h12 : 0 ≤ x6) (h13 : x6 ≤ 240) (h14 : x6 = x2) (h15 : 0 ≤ x0) (h16 : x0 ≤ 4) (h17 : 4 - x0 < ((x7 + 1 : Nat) : Int)) (h18 : x8 = 4) (h19 : x0 < x8) (h20 : 0 ≤ x9) (h21 : x9 ≤ 240) (h22 : x9 = x2) (h23 : x10 = 4 * x9) (h24 : x11 = x10 + x0) (h25 : 0 ≤ x12) (h26 : x12 ≤ 240) (h27 : x12 = x2) (h28 : x13 = 4 * x12) (h29 : x14 = x13 + x0) (h30 : -2147483648 ≤ x0) (h31 : x0 ≤ 2147483647) (h32 : -2147483648 ≤ x1) (h33 : x1 ≤ 2147483647) (h34 : -2147483648 ≤ x2) (h35 : x2 ≤ 2147483647) (h36 : -2147483648 ≤ x4) (h37 : x4 ≤ 2147483647) (h38 : -2147483648 ≤ x5) (h39 : x5 ≤ 2147483647) (h40 : -2147483648 ≤ x6) (h41 : x6 ≤ 2147483647) (h42 : -2147483648 ≤ x8) (h43 : x8 ≤ 2147483647) (h44 : -2147483648 ≤ x9) (h45 : x9 ≤ 2147483647) (h46 : -2147483648 ≤ x10) (h47 : x10 ≤ 2147483647) (h48 : -2147483648 ≤ x11) (h49 : x11 ≤ 2147483647) (h50 : -2147483648 ≤ x12) (h51 : x12 ≤ 2147483647) (h52 : -2147483648 ≤ x13) (h53 : x13 ≤ 2147483647) (h54 : -2147483648 ≤ x14) (h55 : x14 ≤ 2147483647) : x0 + 1 ≤ 2147483647 := by omega
theorem o18_27 {x0 x2 x3 x5 x6 x7 x8 x9 x10 x11 x12 x13 x14 x15 : Int} {x1 x4 : Nat} (h0 : 0 ≤ x2) (h1 : x2 ≤ 239) (h2 : 0 ≤ x3) (h3 : x3 ≤ 240) (h4 : 240 - x3 < ((x4 + 1 : Nat) : Int)) (h5 : 0 ≤ x5) (h6 : x5 ≤ 240) (h7 : x5 = x3) (h8 : x5 ≤ x2) (h9 : 0 ≤ x6) (h10 : x6 ≤ 240) (h11 : x6 = x3) (h12 : 0 ≤ x7) (h13 : x7 ≤ 240) (h14 : x7 = x3) (h15 : 0 ≤ x8) (h16 : x8 ≤ 4) (h17 : 4 - x8 < ((x1 + 1 : Nat) : Int)) (h18 : x9 = 4) (h19 : x8 < x9) (h20 : 0 ≤ x10) (h21 : x10 ≤ 240) (h22 : x10 = x3) (h23 : x11 = 4 * x10) (h24 : x12 = x11 + x8) (h25 : 0 ≤ x13) (h26 : x13 ≤ 240) (h27 : x13 = x3) (h28 : x14 = 4 * x13) (h29 : x15 = x14 + x8) (h30 : x0 = x8 + 1) : 4 - x0 < (x1 : Int) := by omega
theorem o18_28 {x0 x1 x2 x4 x5 x6 x7 x9 x10 x11 x12 x13 x14 x15 : Int} {x3 x8 : Nat} (h0 : 0 ≤ x1) (h1 : x1 ≤ 239) (h2 : 0 ≤ x2) (h3 : x2 ≤ 240) (h4 : 240 - x2 < ((x3 + 1 : Nat) : Int)) (h5 : 0 ≤ x4) (h6 : x4 ≤ 240) (h7 : x4 = x2) (h8 : x4 ≤ x1) (h9 : 0 ≤ x5) (h10 : x5 ≤ 240) (h11 : x5 = x2) (h12 : 0 ≤ x6) (h13 : x6 ≤ 240) (h14 : x6 = x2) (h15 : 0 ≤ x7) (h16 : x7 ≤ 4) (h17 : 4 - x7 < ((x8 + 1 : Nat) : Int)) (h18 : x9 = 4) (h19 : x7 < x9) (h20 : 0 ≤ x10) (h21 : x10 ≤ 240) (h22 : x10 = x2) (h23 : x11 = 4 * x10) (h24 : x12 = x11 + x7) (h25 : 0 ≤ x13) (h26 : x13 ≤ 240) (h27 : x13 = x2) (h28 : x14 = 4 * x13) (h29 : x15 = x14 + x7) (h30 : x0 = x7 + 1) : 0 ≤ x0 := by omega
theorem o18_29 {x0 x1 x2 x4 x5 x6 x7 x9 x10 x11 x12 x13 x14 x15 : Int} {x3 x8 : Nat} (h0 : 0 ≤ x1) (h1 : x1 ≤ 239) (h2 : 0 ≤ x2) (h3 : x2 ≤ 240) (h4 : 240 - x2 < ((x3 + 1 : Nat) : Int)) (h5 : 0 ≤ x4) (h6 : x4 ≤ 240) (h7 : x4 = x2) (h8 : x4 ≤ x1) (h9 : 0 ≤ x5) (h10 : x5 ≤ 240) (h11 : x5 = x2) (h12 : 0 ≤ x6) (h13 : x6 ≤ 240) (h14 : x6 = x2) (h15 : 0 ≤ x7) (h16 : x7 ≤ 4) (h17 : 4 - x7 < ((x8 + 1 : Nat) : Int)) (h18 : x9 = 4) (h19 : x7 < x9) (h20 : 0 ≤ x10) (h21 : x10 ≤ 240) (h22 : x10 = x2) (h23 : x11 = 4 * x10) (h24 : x12 = x11 + x7) (h25 : 0 ≤ x13) (h26 : x13 ≤ 240) (h27 : x13 = x2) (h28 : x14 = 4 * x13) (h29 : x15 = x14 + x7) (h30 : x0 = x7 + 1) : x0 ≤ 4 := by omega
theorem o18_30 {x0 : Int} (h0 : x0 = 0) : 4 - x0 < (((4 - x0 + 1).toNat : Nat) : Int) := by omega
theorem o18_31 {x0 : Int} (h0 : x0 = 0) : x0 ≤ 4 := by omega
theorem o18_32 {x0 : Int} (h0 : 0 ≤ x0) (h1 : x0 ≤ 240) : 240 - x0 < (((240 - x0 + 1).toNat : Nat) : Int) := by omega
theorem o18_33 {x0 : Int} (h0 : 0 ≤ x0) (h1 : x0 ≤ 240) : 0 ≤ x0 := by omega
theorem o18_34 {x0 : Int} (h0 : 0 ≤ x0) (h1 : x0 ≤ 240) : x0 ≤ 240 := by omega
theorem o18_35 {x0 : Int} (h0 : 0 ≤ x0) (h1 : x0 ≤ 239) : 0 ≤ x0 := by omega
theorem o18_36 {x0 : Int} (h0 : 0 ≤ x0) (h1 : x0 ≤ 239) : x0 ≤ 239 := by omega
theorem o18_37 {x0 : Int} (h0 : 0 ≤ x0) (h1 : x0 ≤ 239) : x0 < (240 : Nat) := by omega
theorem o18_38 {x0 : Int} (h0 : 0 ≤ x0) (h1 : x0 ≤ 239) (h2 : -2147483648 ≤ x0) (h3 : x0 ≤ 2147483647) : -2147483648 ≤ 4 * x0 := by omega
theorem o18_39 {x0 : Int} (h0 : 0 ≤ x0) (h1 : x0 ≤ 239) (h2 : -2147483648 ≤ x0) (h3 : x0 ≤ 2147483647) : 4 * x0 ≤ 2147483647 := by omega
theorem o18_40 {x0 : Int} (h0 : 0 ≤ x0) (h1 : x0 ≤ 3) : 0 ≤ x0 := by omega
theorem o18_41 {x0 : Int} (h0 : 0 ≤ x0) (h1 : x0 ≤ 3) : x0 ≤ 3 := by omega
theorem o18_42 {x0 x1 x2 : Int} (h0 : 0 ≤ x2) (h1 : x2 ≤ 239) (h2 : x0 = 4 * x2) (h3 : 0 ≤ x1) (h4 : x1 ≤ 3) (h5 : -2147483648 ≤ x0) (h6 : x0 ≤ 2147483647) (h7 : -2147483648 ≤ x1) (h8 : x1 ≤ 2147483647) (h9 : -2147483648 ≤ x2) (h10 : x2 ≤ 2147483647) : -2147483648 ≤ x0 + x1 := by omega
theorem o18_43 {x0 x1 x2 : Int} (h0 : 0 ≤ x2) (h1 : x2 ≤ 239) (h2 : x0 = 4 * x2) (h3 : 0 ≤ x1) (h4 : x1 ≤ 3) (h5 : -2147483648 ≤ x0) (h6 : x0 ≤ 2147483647) (h7 : -2147483648 ≤ x1) (h8 : x1 ≤ 2147483647) (h9 : -2147483648 ≤ x2) (h10 : x2 ≤ 2147483647) : x0 + x1 ≤ 2147483647 := by omega
theorem o18_44 {x0 x1 x2 x3 : Int} (h0 : 0 ≤ x1) (h1 : x1 ≤ 239) (h2 : x2 = 4 * x1) (h3 : 0 ≤ x3) (h4 : x3 ≤ 3) (h5 : x0 = x2 + x3) : 0 ≤ x0 := by omega
theorem o18_45 {x0 x1 x2 x3 : Int} (h0 : 0 ≤ x1) (h1 : x1 ≤ 239) (h2 : x2 = 4 * x1) (h3 : 0 ≤ x3) (h4 : x3 ≤ 3) (h5 : x0 = x2 + x3) : x0 < (960 : Nat) := by omega
theorem o18_46 {x0 : Int} (h0 : 0 ≤ x0) (h1 : x0 ≤ 25) (h2 : 25 - x0 < 0) : False := by omega
theorem o18_47 {x0 : Int} (h0 : x0 = 1) : x0 = 1 := by omega
theorem o18_48 {x0 x2 : Int} {x1 : Nat} (h0 : 0 ≤ x0) (h1 : x0 ≤ 25) (h2 : 25 - x0 < ((x1 + 1 : Nat) : Int)) (h3 : x2 = 25) (h4 : x0 < x2) (h5 : -2147483648 ≤ x0) (h6 : x0 ≤ 2147483647) (h7 : -2147483648 ≤ x2) (h8 : x2 ≤ 2147483647) : -2147483648 ≤ x0 + 1 := by omega
theorem o18_49 {x0 x2 : Int} {x1 : Nat} (h0 : 0 ≤ x0) (h1 : x0 ≤ 25) (h2 : 25 - x0 < ((x1 + 1 : Nat) : Int)) (h3 : x2 = 25) (h4 : x0 < x2) (h5 : -2147483648 ≤ x0) (h6 : x0 ≤ 2147483647) (h7 : -2147483648 ≤ x2) (h8 : x2 ≤ 2147483647) : x0 + 1 ≤ 2147483647 := by omega
theorem o18_50 {x0 x2 x3 : Int} {x1 : Nat} (h0 : 0 ≤ x2) (h1 : x2 ≤ 25) (h2 : 25 - x2 < ((x1 + 1 : Nat) : Int)) (h3 : x3 = 25) (h4 : x2 < x3) (h5 : x0 = x2 + 1) : 25 - x0 < (x1 : Int) := by omega
theorem o18_51 {x0 x1 x3 : Int} {x2 : Nat} (h0 : 0 ≤ x1) (h1 : x1 ≤ 25) (h2 : 25 - x1 < ((x2 + 1 : Nat) : Int)) (h3 : x3 = 25) (h4 : x1 < x3) (h5 : x0 = x1 + 1) : 0 ≤ x0 := by omega
theorem o18_52 {x0 x1 x3 : Int} {x2 : Nat} (h0 : 0 ≤ x1) (h1 : x1 ≤ 25) (h2 : 25 - x1 < ((x2 + 1 : Nat) : Int)) (h3 : x3 = 25) (h4 : x1 < x3) (h5 : x0 = x1 + 1) : x0 ≤ 25 := by omega
theorem o18_53 {x0 x1 : Int} (h0 : 0 ≤ x1) (h1 : x1 ≤ 5) (h2 : 0 < x1) (h3 : 0 ≤ x0) (h4 : x0 ≤ 5) (h5 : x0 = x1) : 0 < x0 := by omega
theorem o18_54 {x0 x2 : Int} {x1 : Nat} (h0 : 0 ≤ x0) (h1 : x0 ≤ 25) (h2 : 25 - x0 < ((x1 + 1 : Nat) : Int)) (h3 : x2 = 25) (h4 : x0 < x2) : 0 ≤ x0 := by omega
theorem o18_55 {x0 x1 x2 x3 : Int} (h0 : 0 ≤ x1) (h1 : x1 ≤ 5) (h2 : 0 < x1) (h3 : 0 ≤ x2) (h4 : x2 ≤ 5) (h5 : x2 = x1) (h6 : 0 ≤ x3) (h7 : x3 < x2) (h8 : 0 ≤ x0) (h9 : x0 ≤ 5) (h10 : x0 = x1) : 0 < x0 := by omega
theorem o18_56 {x0 x2 x3 : Int} {x1 : Nat} (h0 : 0 ≤ x0) (h1 : x0 ≤ 25) (h2 : 25 - x0 < ((x1 + 1 : Nat) : Int)) (h3 : x2 = 25) (h4 : x0 < x2) (h5 : 0 ≤ x3) (h6 : x3 ≤ x0) : 0 ≤ x0 := by omega
theorem o18_57 {x0 x2 x3 : Int} {x1 : Nat} (h0 : 0 ≤ x0) (h1 : x0 ≤ 25) (h2 : 25 - x0 < ((x1 + 1 : Nat) : Int)) (h3 : x2 = 25) (h4 : x0 < x2) (h5 : 0 ≤ x3) (h6 : x3 ≤ x0) : x0 < (25 : Nat) := by omega
theorem o18_58 {x0 x2 x3 : Int} {x1 : Nat} (h0 : 0 ≤ x0) (h1 : x0 ≤ 25) (h2 : 25 - x0 < ((x1 + 1 : Nat) : Int)) (h3 : x2 = 25) (h4 : x0 < x2) (h5 : 0 ≤ x3) (h6 : x3 ≤ x0) (h7 : -2147483648 ≤ x0) (h8 : x0 ≤ 2147483647) (h9 : -2147483648 ≤ x2) (h10 : x2 ≤ 2147483647) (h11 : -2147483648 ≤ x3) (h12 : x3 ≤ 2147483647) : -2147483648 ≤ x0 + 1 := by omega
theorem o18_59 {x0 x2 x3 : Int} {x1 : Nat} (h0 : 0 ≤ x0) (h1 : x0 ≤ 25) (h2 : 25 - x0 < ((x1 + 1 : Nat) : Int)) (h3 : x2 = 25) (h4 : x0 < x2) (h5 : 0 ≤ x3) (h6 : x3 ≤ x0) (h7 : -2147483648 ≤ x0) (h8 : x0 ≤ 2147483647) (h9 : -2147483648 ≤ x2) (h10 : x2 ≤ 2147483647) (h11 : -2147483648 ≤ x3) (h12 : x3 ≤ 2147483647) : x0 + 1 ≤ 2147483647 := by omega
theorem o18_60 {x0 x2 x3 x4 : Int} {x1 : Nat} (h0 : 0 ≤ x2) (h1 : x2 ≤ 25) (h2 : 25 - x2 < ((x1 + 1 : Nat) : Int)) (h3 : x3 = 25) (h4 : x2 < x3) (h5 : 0 ≤ x4) (h6 : x4 ≤ x2) (h7 : x0 = x2 + 1) : 25 - x0 < (x1 : Int) := by omega
theorem o18_61 {x0 x1 x3 x4 : Int} {x2 : Nat} (h0 : 0 ≤ x1) (h1 : x1 ≤ 25) (h2 : 25 - x1 < ((x2 + 1 : Nat) : Int)) (h3 : x3 = 25) (h4 : x1 < x3) (h5 : 0 ≤ x4) (h6 : x4 ≤ x1) (h7 : x0 = x1 + 1) : 0 ≤ x0 := by omega
theorem o18_62 {x0 x1 x3 x4 : Int} {x2 : Nat} (h0 : 0 ≤ x1) (h1 : x1 ≤ 25) (h2 : 25 - x1 < ((x2 + 1 : Nat) : Int)) (h3 : x3 = 25) (h4 : x1 < x3) (h5 : 0 ≤ x4) (h6 : x4 ≤ x1) (h7 : x0 = x1 + 1) : x0 ≤ 25 := by omega
theorem o18_63 {x0 : Int} (h0 : x0 = 0) : 25 - x0 < (((25 - x0 + 1).toNat : Nat) : Int) := by omega
theorem o18_64 {x0 : Int} (h0 : x0 = 0) : x0 ≤ 25 := by omega
theorem o18_65 {x0 : Int} (h0 : x0 = 2) : x0 = 2 := by omega
theorem o18_66 {x0 x1 : Int} (h0 : 0 ≤ x0) (h1 : x0 ≤ 3) (h2 : x1 = 2) (h3 : x1 ≤ x0) : 0 ≤ x0 := by omega
theorem o18_67 {x0 x1 : Int} (h0 : 0 ≤ x0) (h1 : x0 ≤ 3) (h2 : x1 = 2) (h3 : x1 ≤ x0) : x0 < 4 := by omega
theorem o18_68 {x0 x1 x2 : Int} (h0 : 0 ≤ x0) (h1 : x0 ≤ 99) (h2 : x2 = x0 / 4) (h3 : 0 ≤ x1) (h4 : x1 ≤ 3) (h5 : -2147483648 ≤ x0) (h6 : x0 ≤ 2147483647) (h7 : -2147483648 ≤ x1) (h8 : x1 ≤ 2147483647) (h9 : -2147483648 ≤ x2) (h10 : x2 ≤ 2147483647) : -2147483648 ≤ x0 + x1 := by omega
theorem o18_69 {x0 x1 x2 : Int} (h0 : 0 ≤ x0) (h1 : x0 ≤ 99) (h2 : x2 = x0 / 4) (h3 : 0 ≤ x1) (h4 : x1 ≤ 3) (h5 : -2147483648 ≤ x0) (h6 : x0 ≤ 2147483647) (h7 : -2147483648 ≤ x1) (h8 : x1 ≤ 2147483647) (h9 : -2147483648 ≤ x2) (h10 : x2 ≤ 2147483647) : x0 + x1 ≤ 2147483647 := by omega
theorem o18_70 {x0 : Int} (h0 : x0 = 3) : x0 = 3 := by omega
theorem o18_71 {x0 x1 x2 : Int} (h0 : 0 ≤ x0) (h1 : x0 ≤ 3) (h2 : x2 = 2) (h3 : x2 ≤ x0) (h4 : x1 = 1) (h5 : -2147483648 ≤ x0) (h6 : x0 ≤ 2147483647) (h7 : -2147483648 ≤ x1) (h8 : x1 ≤ 2147483647) (h9 : -2147483648 ≤ x2) (h10 : x2 ≤ 2147483647) : -2147483648 ≤ x0 - x1 := by omega
theorem o18_72 {x0 x1 x2 : Int} (h0 : 0 ≤ x0) (h1 : x0 ≤ 3) (h2 : x2 = 2) (h3 : x2 ≤ x0) (h4 : x1 = 1) (h5 : -2147483648 ≤ x0) (h6 : x0 ≤ 2147483647) (h7 : -2147483648 ≤ x1) (h8 : x1 ≤ 2147483647) (h9 : -2147483648 ≤ x2) (h10 : x2 ≤ 2147483647) : x0 - x1 ≤ 2147483647 := by omega
theorem o18_73 {x0 x1 x2 x3 : Int} (h0 : 0 ≤ x1) (h1 : x1 ≤ 3) (h2 : x2 = 2) (h3 : x2 ≤ x1) (h4 : x3 = 1) (h5 : x0 = x1 - x3) : (-1) ≤ x0 := by omega
theorem o18_74 {x0 x1 x2 x3 : Int} (h0 : 0 ≤ x1) (h1 : x1 ≤ 3) (h2 : x2 = 2) (h3 : x2 ≤ x1) (h4 : x3 = 1) (h5 : x0 = x1 - x3) : x0 ≤ 2 := by omega
theorem o18_75 {x0 : Int} (h0 : x0 = 0) : (-1) ≤ x0 := by omega
theorem o18_76 {x0 : Int} (h0 : x0 = 0) : x0 ≤ 2 := by omega
theorem o18_77 {x0 : Int} (h0 : x0 = (-1)) : (-1) ≤ x0 := by omega
theorem o18_78 {x0 : Int} (h0 : x0 = (-1)) : x0 ≤ 2 := by omega
theorem o18_79 {x0 : Int} (h0 : 0 ≤ x0) (h1 : x0 ≤ 484) (h2 : 484 - x0 < 0) : False := by omega
theorem o18_80 {x0 : Int} (h0 : 0 ≤ x0) (h1 : x0 ≤ 120) (h2 : -2147483648 ≤ x0) (h3 : x0 ≤ 2147483647) : -2147483648 ≤ 4 * x0 := by omega
theorem o18_81 {x0 : Int} (h0 : 0 ≤ x0) (h1 : x0 ≤ 120) (h2 : -2147483648 ≤ x0) (h3 : x0 ≤ 2147483647) : 4 * x0 ≤ 2147483647 := by omega
theorem o18_82 {x0 x1 x2 : Int} (h0 : 0 ≤ x2) (h1 : x2 ≤ 120) (h2 : x0 = 4 * x2) (h3 : x1 = 4) (h4 : -2147483648 ≤ x0) (h5 : x0 ≤ 2147483647) (h6 : -2147483648 ≤ x1) (h7 : x1 ≤ 2147483647) (h8 : -2147483648 ≤ x2) (h9 : x2 ≤ 2147483647) : -2147483648 ≤ x0 + x1 := by omega
theorem o18_83 {x0 x1 x2 : Int} (h0 : 0 ≤ x2) (h1 : x2 ≤ 120) (h2 : x0 = 4 * x2) (h3 : x1 = 4) (h4 : -2147483648 ≤ x0) (h5 : x0 ≤ 2147483647) (h6 : -2147483648 ≤ x1) (h7 : x1 ≤ 2147483647) (h8 : -2147483648 ≤ x2) (h9 : x2 ≤ 2147483647) : x0 + x1 ≤ 2147483647 := by omega
theorem o18_84 {x0 : Int} (h0 : x0 = 0) : x0 ≤ 120 := by omega
theorem o18_85 {x0 : Int} (h0 : 0 ≤ x0) (h1 : x0 ≤ 3) : x0 < (484 : Nat) := by omega
theorem o18_86 {x0 : Int} (h0 : x0 = 0) : x0 ≤ 0 := by omega
theorem o18_87 {x0 x2 x3 x4 x5 : Int} {x1 : Nat} (h0 : 0 ≤ x0) (h1 : x0 ≤ 484) (h2 : 484 - x0 < ((x1 + 1 : Nat) : Int)) (h3 : 0 ≤ x2) (h4 : x2 ≤ 120) (h5 : x3 = 4 * x2) (h6 : x4 = 4) (h7 : x5 = x3 + x4) (h8 : x0 < x5) : 0 ≤ x0 := by omega
theorem o18_88 {x0 x2 x3 x4 x5 : Int} {x1 : Nat} (h0 : 0 ≤ x0) (h1 : x0 ≤ 484) (h2 : 484 - x0 < ((x1 + 1 : Nat) : Int)) (h3 : 0 ≤ x2) (h4 : x2 ≤ 120) (h5 : x3 = 4 * x2) (h6 : x4 = 4) (h7 : x5 = x3 + x4) (h8 : x0 < x5) : x0 < (484 : Nat) := by omega
theorem o18_89 {x0 x2 x3 x4 x5 : Int} {x1 : Nat} (h0 : 0 ≤ x0) (h1 : x0 ≤ 484) (h2 : 484 - x0 < ((x1 + 1 : Nat) : Int)) (h3 : 0 ≤ x2) (h4 : x2 ≤ 120) (h5 : x3 = 4 * x2) (h6 : x4 = 4) (h7 : x5 = x3 + x4) (h8 : x0 < x5) (h9 : -2147483648 ≤ x0) (h10 : x0 ≤ 2147483647) (h11 : -2147483648 ≤ x2) (h12 : x2 ≤ 2147483647) (h13 : -2147483648 ≤ x3) (h14 : x3 ≤ 2147483647) (h15 : -2147483648 ≤ x4) (h16 : x4 ≤ 2147483647) (h17 : -2147483648 ≤ x5) (h18 : x5 ≤ 2147483647) : -2147483648 ≤ x0 + 1 := by omega
theorem o18_90 {x0 x2 x3 x4 x5 : Int} {x1 : Nat} (h0 : 0 ≤ x0) (h1 : x0 ≤ 484) (h2 : 484 - x0 < ((x1 + 1 : Nat) : Int)) (h3 : 0 ≤ x2) (h4 : x2 ≤ 120) (h5 : x3 = 4 * x2) (h6 : x4 = 4) (h7 : x5 = x3 + x4) (h8 : x0 < x5) (h9 : -2147483648 ≤ x0) (h10 : x0 ≤ 2147483647) (h11 : -2147483648 ≤ x2) (h12 : x2 ≤ 2147483647) (h13 : -2147483648 ≤ x3) (h14 : x3 ≤ 2147483647) (h15 : -2147483648 ≤ x4) (h16 : x4 ≤ 2147483647) (h17 : -2147483648 ≤ x5) (h18 : x5 ≤ 2147483647) : x0 + 1 ≤ 2147483647 := by omega
theorem o18_91 {x0 x2 x3 x4 x5 x6 : Int} {x1 : Nat} (h0 : 0 ≤ x2) (h1 : x2 ≤ 484) (h2 : 484 - x2 < ((x1 + 1 : Nat) : Int)) (h3 : 0 ≤ x3) (h4 : x3 ≤ 120) (h5 : x4 = 4 * x3) (h6 : x5 = 4) (h7 : x6 = x4 + x5) (h8 : x2 < x6) (h9 : x0 = x2 + 1) : 484 - x0 < (x1 : Int) := by omega
theorem o18_92 {x0 x1 x3 x4 x5 x6 : Int} {x2 : Nat} (h0 : 0 ≤ x1) (h1 : x1 ≤ 484) (h2 : 484 - x1 < ((x2 + 1 : Nat) : Int)) (h3 : 0 ≤ x3) (h4 : x3 ≤ 120) (h5 : x4 = 4 * x3) (h6 : x5 = 4) (h7 : x6 = x4 + x5) (h8 : x1 < x6) (h9 : x0 = x1 + 1) : 0 ≤ x0 := by omega
theorem o18_93 {x0 x1 x3 x4 x5 x6 : Int} {x2 : Nat} (h0 : 0 ≤ x1) (h1 : x1 ≤ 484) (h2 : 484 - x1 < ((x2 + 1 : Nat) : Int)) (h3 : 0 ≤ x3) (h4 : x3 ≤ 120) (h5 : x4 = 4 * x3) (h6 : x5 = 4) (h7 : x6 = x4 + x5) (h8 : x1 < x6) (h9 : x0 = x1 + 1) : x0 ≤ 484 := by omega
theorem o18_94 {x0 : Int} (h0 : x0 = 0) : 484 - x0 < (((484 - x0 + 1).toNat : Nat) : Int) := by omega
theorem o18_95 {x0 : Int} (h0 : x0 = 0) : x0 ≤ 484 := by omega
theorem o18_96 {x0 : Int} (h0 : 0 ≤ x0) (h1 : x0 ≤ 120) : 0 ≤ x0 := by omega
theorem o18_97 {x0 : Int} (h0 : 0 ≤ x0) (h1 : x0 ≤ 120) : x0 ≤ 120 := by omega
theorem o18_98 {x0 : Int} (h0 : 0 ≤ x0) (h1 : x0 ≤ 121) (h2 : 121 - x0 < 0) : False := by omega
theorem o18_99 {x0 x2 : Int} {x1 : Nat} (h0 : 0 ≤ x0) (h1 : x0 ≤ 4) (h2 : 4 - x0 < ((x1 + 1 : Nat) : Int)) (h3 : x2 = 4) (h4 : x0 < x2) (h5 : -2147483648 ≤ x0) (h6 : x0 ≤ 2147483647) (h7 : -2147483648 ≤ x2) (h8 : x2 ≤ 2147483647) : -2147483648 ≤ x0 + 1 := by omega
theorem o18_100 {x0 x2 : Int} {x1 : Nat} (h0 : 0 ≤ x0) (h1 : x0 ≤ 4) (h2 : 4 - x0 < ((x1 + 1 : Nat) : Int)) (h3 : x2 = 4) (h4 : x0 < x2) (h5 : -2147483648 ≤ x0) (h6 : x0 ≤ 2147483647) (h7 : -2147483648 ≤ x2) (h8 : x2 ≤ 2147483647) : x0 + 1 ≤ 2147483647 := by omega
theorem o18_101 {x0 x2 x3 : Int} {x1 : Nat} (h0 : 0 ≤ x2) (h1 : x2 ≤ 4) (h2 : 4 - x2 < ((x1 + 1 : Nat) : Int)) (h3 : x3 = 4) (h4 : x2 < x3) (h5 : x0 = x2 + 1) : 4 - x0 < (x1 : Int) := by omega
theorem o18_102 {x0 x1 x3 : Int} {x2 : Nat} (h0 : 0 ≤ x1) (h1 : x1 ≤ 4) (h2 : 4 - x1 < ((x2 + 1 : Nat) : Int)) (h3 : x3 = 4) (h4 : x1 < x3) (h5 : x0 = x1 + 1) : 0 ≤ x0 := by omega
theorem o18_103 {x0 x1 x3 : Int} {x2 : Nat} (h0 : 0 ≤ x1) (h1 : x1 ≤ 4) (h2 : 4 - x1 < ((x2 + 1 : Nat) : Int)) (h3 : x3 = 4) (h4 : x1 < x3) (h5 : x0 = x1 + 1) : x0 ≤ 4 := by omega
theorem o18_104 {x0 x2 : Int} {x1 : Nat} (h0 : 0 ≤ x0) (h1 : x0 ≤ 121) (h2 : 121 - x0 < ((x1 + 1 : Nat) : Int)) (h3 : 0 ≤ x2) (h4 : x2 ≤ 120) (h5 : x0 ≤ x2) (h6 : -2147483648 ≤ x0) (h7 : x0 ≤ 2147483647) (h8 : -2147483648 ≤ x2) (h9 : x2 ≤ 2147483647) : -2147483648 ≤ 4 * x0 := by omega
theorem o18_105 {x0 x2 : Int} {x1 : Nat} (h0 : 0 ≤ x0) (h1 : x0 ≤ 121) (h2 : 121 - x0 < ((x1 + 1 : Nat) : Int)) (h3 : 0 ≤ x2) (h4 : x2 ≤ 120) (h5 : x0 ≤ x2) (h6 : -2147483648 ≤ x0) (h7 : x0 ≤ 2147483647) (h8 : -2147483648 ≤ x2) (h9 : x2 ≤ 2147483647) : 4 * x0 ≤ 2147483647 := by omega
theorem o18_106 {x0 x1 x3 x4 x6 : Int} {x2 x5 : Nat} (h0 : 0 ≤ x1) (h1 : x1 ≤ 4) (h2 : 4 - x1 < ((x2 + 1 : Nat) : Int)) (h3 : x3 = 4) (h4 : x1 < x3) (h5 : 0 ≤ x4) (h6 : x4 ≤ 121) (h7 : 121 - x4 < ((x5 + 1 : Nat) : Int)) (h8 : 0 ≤ x6) (h9 : x6 ≤ 120) (h10 : x4 ≤ x6) (h11 : x0 = 4 * x4) (h12 : -2147483648 ≤ x0) (h13 : x0 ≤ 2147483647) (h14 : -2147483648 ≤ x1) (h15 : x1 ≤ 2147483647) (h16 : -2147483648 ≤ x3) (h17 : x3 ≤ 2147483647) (h18 : -2147483648 ≤ x4) (h19 : x4 ≤ 2147483647) (h20 : -2147483648 ≤ x6) (h21 : x6 ≤ 2147483647) : -2147483648 ≤ x0 + x1 := by omega
theorem o18_107 {x0 x1 x3 x4 x6 : Int} {x2 x5 : Nat} (h0 : 0 ≤ x1) (h1 : x1 ≤ 4) (h2 : 4 - x1 < ((x2 + 1 : Nat) : Int)) (h3 : x3 = 4) (h4 : x1 < x3) (h5 : 0 ≤ x4) (h6 : x4 ≤ 121) (h7 : 121 - x4 < ((x5 + 1 : Nat) : Int)) (h8 : 0 ≤ x6) (h9 : x6 ≤ 120) (h10 : x4 ≤ x6) (h11 : x0 = 4 * x4) (h12 : -2147483648 ≤ x0) (h13 : x0 ≤ 2147483647) (h14 : -2147483648 ≤ x1) (h15 : x1 ≤ 2147483647) (h16 : -2147483648 ≤ x3) (h17 : x3 ≤ 2147483647) (h18 : -2147483648 ≤ x4) (h19 : x4 ≤ 2147483647) (h20 : -2147483648 ≤ x6) (h21 : x6 ≤ 2147483647) : x0 + x1 ≤ 2147483647 := by omega
theorem o18_108 {x0 x1 x3 x4 x6 x7 : Int} {x2 x5 : Nat} (h0 : 0 ≤ x1) (h1 : x1 ≤ 4) (h2 : 4 - x1 < ((x2 + 1 : Nat) : Int)) (h3 : x3 = 4) (h4 : x1 < x3) (h5 : 0 ≤ x4) (h6 : x4 ≤ 121) (h7 : 121 - x4 < ((x5 + 1 : Nat) : Int)) (h8 : 0 ≤ x6) (h9 : x6 ≤ 120) (h10 : x4 ≤ x6) (h11 : x7 = 4 * x4) (h12 : x0 = x7 + x1) : 0 ≤ x0 := by omega
theorem o18_109 {x0 x1 x3 x4 x6 x7 : Int} {x2 x5 : Nat} (h0 : 0 ≤ x1) (h1 : x1 ≤ 4) (h2 : 4 - x1 < ((x2 + 1 : Nat) : Int)) (h3 : x3 = 4) (h4 : x1 < x3) (h5 : 0 ≤ x4) (h6 : x4 ≤ 121) (h7 : 121 - x4 < ((x5 + 1 : Nat) : Int)) (h8 : 0 ≤ x6) (h9 : x6 ≤ 120) (h10 : x4 ≤ x6) (h11 : x7 = 4 * x4) (h12 : x0 = x7 + x1) : x0 < (484 : Nat) := by omega
theorem o18_110 {x0 x1 x3 x5 x6 x7 : Int} {x2 x4 : Nat} (h0 : 0 ≤ x1) (h1 : x1 ≤ 4) (h2 : 4 - x1 < ((x2 + 1 : Nat) : Int)) (h3 : x3 = 4) (h4 : x1 < x3) (h5 : 0 ≤ x0) (h6 : x0 ≤ 121) (h7 : 121 - x0 < ((x4 + 1 : Nat) : Int)) (h8 : 0 ≤ x5) (h9 : x5 ≤ 120) (h10 : x0 ≤ x5) (h11 : x6 = 4 * x0) (h12 : x7 = x6 + x1) (h13 : -2147483648 ≤ x0) (h14 : x0 ≤ 2147483647) (h15 : -2147483648 ≤ x1) (h16 : x1 ≤ 2147483647) (h17 : -2147483648 ≤ x3) (h18 : x3 ≤ 2147483647) (h19 : -2147483648 ≤ x5) (h20 : x5 ≤ 2147483647) (h21 : -2147483648 ≤ x6) (h22 : x6 ≤ 2147483647) (h23 : -2147483648 ≤ x7) (h24 : x7 ≤ 2147483647) : -2147483648 ≤ 4 * x0 := by omega
theorem o18_111 {x0 x1 x3 x5 x6 x7 : Int} {x2 x4 : Nat} (h0 : 0 ≤ x1) (h1 : x1 ≤ 4) (h2 : 4 - x1 < ((x2 + 1 : Nat) : Int)) (h3 : x3 = 4) (h4 : x1 < x3) (h5 : 0 ≤ x0) (h6 : x0 ≤ 121) (h7 : 121 - x0 < ((x4 + 1 : Nat) : Int)) (h8 : 0 ≤ x5) (h9 : x5 ≤ 120) (h10 : x0 ≤ x5) (h11 : x6 = 4 * x0) (h12 : x7 = x6 + x1) (h13 : -2147483648 ≤ x0) (h14 : x0 ≤ 2147483647) (h15 : -2147483648 ≤ x1) (h16 : x1 ≤ 2147483647) (h17 : -2147483648 ≤ x3) (h18 : x3 ≤ 2147483647) (h19 : -2147483648 ≤ x5) (h20 : x5 ≤ 2147483647) (h21 : -2147483648 ≤ x6) (h22 : x6 ≤ 2147483647) (h23 : -2147483648 ≤ x7) (h24 : x7 ≤ 2147483647) : 4 * x0 ≤ 2147483647 := by omega
theorem o18_112 {x0 x1 x3 x4 x6 x7 x8 : Int} {x2 x5 : Nat} (h0 : 0 ≤ x1) (h1 : x1 ≤ 4) (h2 : 4 - x1 < ((x2 + 1 : Nat) : Int)) (h3 : x3 = 4) (h4 : x1 < x3) (h5 : 0 ≤ x4) (h6 : x4 ≤ 121) (h7 : 121 - x4 < ((x5 + 1 : Nat) : Int)) (h8 : 0 ≤ x6) (h9 : x6 ≤ 120) (h10 : x4 ≤ x6) (h11 : x7 = 4 * x4) (h12 : x8 = x7 + x1) (h13 : x0 = 4 * x4) (h14 : -2147483648 ≤ x0) (h15 : x0 ≤ 2147483647) (h16 : -2147483648 ≤ x1) (h17 : x1 ≤ 2147483647) (h18 : -2147483648 ≤ x3) (h19 : x3 ≤ 2147483647) (h20 : -2147483648 ≤ x4) (h21 : x4 ≤ 2147483647) (h22 : -2147483648 ≤ x6) (h23 : x6 ≤ 2147483647) (h24 : -2147483648 ≤ x7) (h25 : x7 ≤ 2147483647) (h26 : -2147483648 ≤ x8) (h27 : x8 ≤ 2147483647) : -2147483648 ≤ x0 + x1 := by omega
theorem o18_113 {x0 x1 x3 x4 x6 x7 x8 : Int} {x2 x5 : Nat} (h0 : 0 ≤ x1) (h1 : x1 ≤ 4) (h2 : 4 - x1 < ((x2 + 1 : Nat) : Int)) (h3 : x3 = 4) (h4 : x1 < x3) (h5 : 0 ≤ x4) (h6 : x4 ≤ 121) (h7 : 121 - x4 < ((x5 + 1 : Nat) : Int)) (h8 : 0 ≤ x6) (h9 : x6 ≤ 120) (h10 : x4 ≤ x6) (h11 : x7 = 4 * x4) (h12 : x8 = x7 + x1) (h13 : x0 = 4 * x4) (h14 : -2147483648 ≤ x0) (h15 : x0 ≤ 2147483647) (h16 : -2147483648 ≤ x1) (h17 : x1 ≤ 2147483647) (h18 : -2147483648 ≤ x3) (h19 : x3 ≤ 2147483647) (h20 : -2147483648 ≤ x4) (h21 : x4 ≤ 2147483647) (h22 : -2147483648 ≤ x6) (h23 : x6 ≤ 2147483647) (h24 : -2147483648 ≤ x7) (h25 : x7 ≤ 2147483647) (h26 : -2147483648 ≤ x8) (h27 : x8 ≤ 2147483647) : x0 + x1 ≤ 2147483647 := by omega
theorem o18_114 {x0 x1 x3 x4 x6 x7 x8 x9 : Int} {x2 x5 : Nat} (h0 : 0 ≤ x1) (h1 : x1 ≤ 4) (h2 : 4 - x1 < ((x2 + 1 : Nat) : Int)) (h3 : x3 = 4) (h4 : x1 < x3) (h5 : 0 ≤ x4) (h6 : x4 ≤ 121) (h7 : 121 - x4 < ((x5 + 1 : Nat) : Int)) (h8 : 0 ≤ x6) (h9 : x6 ≤ 120) (h10 : x4 ≤ x6) (h11 : x7 = 4 * x4) (h12 : x8 = x7 + x1) (h13 : x9 = 4 * x4) (h14 : x0 = x9 + x1) : 0 ≤ x0 := by omega
theorem o18_115 {x0 x1 x3 x4 x6 x7 x8 x9 : Int} {x2 x5 : Nat} (h0 : 0 ≤ x1) (h1 : x1 ≤ 4) (h2 : 4 - x1 < ((x2 + 1 : Nat) : Int)) (h3 : x3 = 4) (h4 : x1 < x3) (h5 : 0 ≤ x4) (h6 : x4 ≤ 121) (h7 : 121 - x4 < ((x5 + 1 : Nat) : Int)) (h8 : 0 ≤ x6) (h9 : x6 ≤ 120) (h10 : x4 ≤ x6) (h11 : x7 = 4 * x4) (h12 : x8 = x7 + x1) (h13 : x9 = 4 * x4) (h14 : x0 = x9 + x1) : x0 < (484 : Nat) := by omega
theorem o18_116 {x0 x1 x3 x5 x6 x7 x8 x9 : Int} {x2 x4 : Nat} (h0 : 0 ≤ x1) (h1 : x1 ≤ 4) (h2 : 4 - x1 < ((x2 + 1 : Nat) : Int)) (h3 : x3 = 4) (h4 : x1 < x3) (h5 : 0 ≤ x0) (h6 : x0 ≤ 121) (h7 : 121 - x0 < ((x4 + 1 : Nat) : Int)) (h8 : 0 ≤ x5) (h9 : x5 ≤ 120) (h10 : x0 ≤ x5) (h11 : x6 = 4 * x0) (h12 : x7 = x6 + x1) (h13 : x8 = 4 * x0) (h14 : x9 = x8 + x1) (h15 : -2147483648 ≤ x0) (h16 : x0 ≤ 2147483647) (h17 : -2147483648 ≤ x1) (h18 : x1 ≤ 2147483647) (h19 : -2147483648 ≤ x3) (h20 : x3 ≤ 2147483647) (h21 : -2147483648 ≤ x5) (h22 : x5 ≤ 2147483647) (h23 : -2147483648 ≤ x6) (h24 : x6 ≤ 2147483647) (h25 : -2147483648 ≤ x7) (h26 : x7 ≤ 2147483647) (h27 : -2147483648 ≤ x8) (h28 : x8 ≤ 2147483647) (h29 : -2147483648 ≤ x9) (h30 : x9 ≤ 2147483647) : -2147483648 ≤ x0 + 1 := by omega
theorem o18_117 {x0 x1 x3 x5 x6 x7 x8 x9 : Int} {x2 x4 : Nat} (h0 : 0 ≤ x1) (h1 : x1 ≤ 4) (h2 : 4 - x1 < ((x2 + 1 : Nat) : Int)) (h3 : x3 = 4) (h4 : x1 < x3) (h5 : 0 ≤ x0) (h6 : x0 ≤ 121) (h7 : 121 - x0 < ((x4 + 1 : Nat) : Int)) (h8 : 0 ≤ x5) (h9 : x5 ≤ 120) (h10 : x0 ≤ x5) (h11 : x6 = 4 * x0) (h12 : x7 = x6 + x1) (h13 : x8 = 4 * x0) (h14 : x9 = x8 + x1) (h15 : -2147483648 ≤ x0) (h16 : x0 ≤ 2147483647) (h17 : -2147483648 ≤ x1) (h18 : x1 ≤ 2147483647) (h19 : -2147483648 ≤ x3) (h20 : x3 ≤ 2147483647) (h21 : -2147483648 ≤ x5) (h22 : x5 ≤ 2147483647) (h23 : -2147483648 ≤ x6) (h24 : x6 ≤ 2147483647) (h25 : -2147483648 ≤ x7) (h26 : x7 ≤ 2147483647) (h27 : -2147483648 ≤ x8) (h28 : x8 ≤ 2147483647) (h29 : -2147483648 ≤ x9) (h30 : x9 ≤ 2147483647) : x0 + 1 ≤ 2147483647 := by omega
theorem o18_118 {x0 x2 x4 x5 x6 x7 x8 x9 x10 : Int} {x1 x3 : Nat} (h0 : 0 ≤ x2) (h1 : x2 ≤ 4) (h2 : 4 - x2 < ((x3 + 1 : Nat) : Int)) (h3 : x4 = 4) (h4 : x2 < x4) (h5 : 0 ≤ x5) (h6 : x5 ≤ 121) (h7 : 121 - x5 < ((x1 + 1 : Nat) : Int)) (h8 : 0 ≤ x6) (h9 : x6 ≤ 120) (h10 : x5 ≤ x6) (h11 : x7 = 4 * x5) (h12 : x8 = x7 + x2) (h13 : x9 = 4 * x5) (h14 : x10 = x9 + x2) (h15 : x0 = x5 + 1) : 121 - x0 < (x1 : Int) := by omega
theorem o18_119 {x0 x1 x3 x4 x6 x7 x8 x9 x10 : Int} {x2 x5 : Nat} (h0 : 0 ≤ x1) (h1 : x1 ≤ 4) (h2 : 4 - x1 < ((x2 + 1 : Nat) : Int)) (h3 : x3 = 4) (h4 : x1 < x3) (h5 : 0 ≤ x4) (h6 : x4 ≤ 121) (h7 : 121 - x4 < ((x5 + 1 : Nat) : Int)) (h8 : 0 ≤ x6) (h9 : x6 ≤ 120) (h10 : x4 ≤ x6) (h11 : x7 = 4 * x4) (h12 : x8 = x7 + x1) (h13 : x9 = 4 * x4) (h14 : x10 = x9 + x1) (h15 : x0 = x4 + 1) : 0 ≤ x0 := by omega
theorem o18_120 {x0 x1 x3 x4 x6 x7 x8 x9 x10 : Int} {x2 x5 : Nat} (h0 : 0 ≤ x1) (h1 : x1 ≤ 4) (h2 : 4 - x1 < ((x2 + 1 : Nat) : Int)) (h3 : x3 = 4) (h4 : x1 < x3) (h5 : 0 ≤ x4) (h6 : x4 ≤ 121) (h7 : 121 - x4 < ((x5 + 1 : Nat) : Int)) (h8 : 0 ≤ x6) (h9 : x6 ≤ 120) (h10 : x4 ≤ x6) (h11 : x7 = 4 * x4) (h12 : x8 = x7 + x1) (h13 : x9 = 4 * x4) (h14 : x10 = x9 + x1) (h15 : x0 = x4 + 1) : x0 ≤ 121 := by omega
theorem o18_121 {x0 x1 x3 x4 x6 x7 x8 x9 x10 x11 : Int} {x2 x5 : Nat} (h0 : 0 ≤ x1) (h1 : x1 ≤ 4) (h2 : 4 - x1 < ((x2 + 1 : Nat) : Int)) (h3 : x3 = 4) (h4 : x1 < x3) (h5 : 0 ≤ x0) (h6 : x0 ≤ 121) (h7 : 0 ≤ x4) (h8 : x4 ≤ 120) (h9 : 121 - x0 < ((x5 + 1 : Nat) : Int)) (h10 : 0 ≤ x6) (h11 : x6 ≤ 120) (h12 : x0 ≤ x6) (h13 : x7 = 4 * x0) (h14 : x8 = x7 + x1) (h15 : x9 = 4 * x0) (h16 : x10 = x9 + x1) (h17 : (x11 = x4 ∧ x0 ≤ x4) ∨ (x11 = x0 ∧ x4 ≤ x0)) (h18 : -2147483648 ≤ x0) (h19 : x0 ≤ 2147483647) (h20 : -2147483648 ≤ x1) (h21 : x1 ≤ 2147483647) (h22 : -2147483648 ≤ x3) (h23 : x3 ≤ 2147483647) (h24 : -2147483648 ≤ x4) (h25 : x4 ≤ 2147483647) (h26 : -2147483648 ≤ x6) (h27 : x6 ≤ 2147483647) (h28 : -2147483648 ≤ x7) (h29 : x7 ≤ 2147483647) (h30 : -2147483648 ≤ x8) (h31 : x8 ≤ 2147483647) (h32 : -2147483648 ≤ x9) (h33 : x9 ≤ 2147483647) (h34 : -2147483648 ≤ x10) (h35 : x10 ≤ 2147483647) (h36 : -2147483648 ≤ x11) (h37 : x11 ≤ 2147483647) : -2147483648 ≤ x0 + 1 := by omega
theorem o18_122 {x0 x1 x3 x4 x6 x7 x8 x9 x10 x11 : Int} {x2 x5 : Nat} (h0 : 0 ≤ x1) (h1 : x1 ≤ 4) (h2 : 4 - x1 < ((x2 + 1 : Nat) : Int)) (h3 : x3 = 4) (h4 : x1 < x3) (h5 : 0 ≤ x0) (h6 : x0 ≤ 121) (h7 : 0 ≤ x4) (h8 : x4 ≤ 120) (h9 : 121 - x0 < ((x5 + 1 : Nat) : Int)) (h10 : 0 ≤ x6) (h11 : x6 ≤ 120) (h12 : x0 ≤ x6) (h13 : x7 = 4 * x0) (h14 : x8 = x7 + x1) (h15 : x9 = 4 * x0) (h16 : x10 = x9 + x1) (h17 : (x11 = x4 ∧ x0 ≤ x4) ∨ (x11 = x0 ∧ x4 ≤ x0)) (h18 : -2147483648 ≤ x0) (h19 : x0 ≤ 2147483647) (h20 : -2147483648 ≤ x1) (h21 : x1 ≤ 2147483647) (h22 : -2147483648 ≤ x3) (h23 : x3 ≤ 2147483647) (h24 : -2147483648 ≤ x4) (h25 : x4 ≤ 2147483647) (h26 : -2147483648 ≤ x6) (h27 : x6 ≤ 2147483647) (h28 : -2147483648 ≤ x7) (h29 : x7 ≤ 2147483647) (h30 : -2147483648 ≤ x8) (h31 : x8 ≤ 2147483647) (h32 : -2147483648 ≤ x9) (h33 : x9 ≤ 2147483647) (h34 : -2147483648 ≤ x10) (h35 : x10 ≤ 2147483647) (h36 : -2147483648 ≤ x11) (h37 : x11 ≤ 2147483647) : x0 + 1 ≤ 2147483647 := by omega
theorem o18_123 {x0 x2 x4 x5 x6 x7 x8 x9 x10 x11 x12 : Int} {x1 x3 : Nat} (h0 : 0 ≤ x2) (h1 : x2 ≤ 4) (h2 : 4 - x2 < ((x3 + 1 : Nat) : Int)) (h3 : x4 = 4) (h4 : x2 < x4) (h5 : 0 ≤ x5) (h6 : x5 ≤ 121) (h7 : 0 ≤ x6) (h8 : x6 ≤ 120) (h9 : 121 - x5 < ((x1 + 1 : Nat) : Int)) (h10 : 0 ≤ x7) (h11 : x7 ≤ 120) (h12 : x5 ≤ x7) (h13 : x8 = 4 * x5) (h14 : x9 = x8 + x2) (h15 : x10 = 4 * x5) (h16 : x11 = x10 + x2) (h17 : (x12 = x6 ∧ x5 ≤ x6) ∨ (x12 = x5 ∧ x6 ≤ x5)) (h18 : x0 = x5 + 1) : 121 - x0 < (x1 : Int) := by omega
theorem o18_124 {x0 x1 x3 x4 x5 x7 x8 x9 x10 x11 x12 : Int} {x2 x6 : Nat} (h0 : 0 ≤ x1) (h1 : x1 ≤ 4) (h2 : 4 - x1 < ((x2 + 1 : Nat) : Int)) (h3 : x3 = 4) (h4 : x1 < x3) (h5 : 0 ≤ x4) (h6 : x4 ≤ 121) (h7 : 0 ≤ x5) (h8 : x5 ≤ 120) (h9 : 121 - x4 < ((x6 + 1 : Nat) : Int)) (h10 : 0 ≤ x7) (h11 : x7 ≤ 120) (h12 : x4 ≤ x7) (h13 : x8 = 4 * x4) (h14 : x9 = x8 + x1) (h15 : x10 = 4 * x4) (h16 : x11 = x10 + x1) (h17 : (x12 = x5 ∧ x4 ≤ x5) ∨ (x12 = x4 ∧ x5 ≤ x4)) (h18 : x0 = x4 + 1) : 0 ≤ x0 := by omega
theorem o18_125 {x0 x1 x3 x4 x5 x7 x8 x9 x10 x11 x12 : Int} {x2 x6 : Nat} (h0 : 0 ≤ x1) (h1 : x1 ≤ 4) (h2 : 4 - x1 < ((x2 + 1 : Nat) : Int)) (h3 : x3 = 4) (h4 : x1 < x3) (h5 : 0 ≤ x4) (h6 : x4 ≤ 121) (h7 : 0 ≤ x5) (h8 : x5 ≤ 120) (h9 : 121 - x4 < ((x6 + 1 : Nat) : Int)) (h10 : 0 ≤ x7) (h11 : x7 ≤ 120) (h12 : x4 ≤ x7) (h13 : x8 = 4 * x4) (h14 : x9 = x8 + x1) (h15 : x10 = 4 * x4) (h16 : x11 = x10 + x1) (h17 : (x12 = x5 ∧ x4 ≤ x5) ∨ (x12 = x4 ∧ x5 ≤ x4)) (h18 : x0 = x4 + 1) : x0 ≤ 121 := by omega
theorem o18_126 {x0 x1 x3 x4 x5 x7 x8 x9 x10 x11 x12 : Int} {x2 x6 : Nat} (h0 : 0 ≤ x1) (h1 : x1 ≤ 4) (h2 : 4 - x1 < ((x2 + 1 : Nat) : Int)) (h3 : x3 = 4) (h4 : x1 < x3) (h5 : 0 ≤ x4) (h6 : x4 ≤ 121) (h7 : 0 ≤ x5) (h8 : x5 ≤ 120) (h9 : 121 - x4 < ((x6 + 1 : Nat) : Int)) (h10 : 0 ≤ x7) (h11 : x7 ≤ 120) (h12 : x4 ≤ x7) (h13 : x8 = 4 * x4) (h14 : x9 = x8 + x1) (h15 : x10 = 4 * x4) (h16 : x11 = x10 + x1) (h17 : (x0 = x5 ∧ x4 ≤ x5) ∨ (x0 = x4 ∧ x5 ≤ x4)) (h18 : x12 = x4 + 1) : 0 ≤ x0 := by omega
theorem o18_127 {x0 x1 x3 x4 x5 x7 x8 x9 x10 x11 x12 : Int} {x2 x6 : Nat} (h0 : 0 ≤ x1) (h1 : x1 ≤ 4) (h2 : 4 - x1 < ((x2 + 1 : Nat) : Int)) (h3 : x3 = 4) (h4 : x1 < x3) (h5 : 0 ≤ x4) (h6 : x4 ≤ 121) (h7 : 0 ≤ x5) (h8 : x5 ≤ 120) (h9 : 121 - x4 < ((x6 + 1 : Nat) : Int)) (h10 : 0 ≤ x7) (h11 : x7 ≤ 120) (h12 : x4 ≤ x7) (h13 : x8 = 4 * x4) (h14 : x9 = x8 + x1) (h15 : x10 = 4 * x4) (h16 : x11 = x10 + x1) (h17 : (x0 = x5 ∧ x4 ≤ x5) ∨ (x0 = x4 ∧ x5 ≤ x4)) (h18 : x12 = x4 + 1) : x0 ≤ 120 := by omega
theorem o18_128 {x0 : Int} (h0 : x0 = 0) : 121 - x0 < (((121 - x0 + 1).toNat : Nat) : Int) := by omega
theorem o18_129 {x0 : Int} (h0 : x0 = 0) : x0 ≤ 121 := by omega
theorem o18_130 {x0 x1 : Int} (h0 : 0 ≤ x1) (h1 : x1 ≤ 120) (h2 : x0 = 4 * x1) : 0 ≤ x0 := by omega
theorem o18_131 {x0 x1 : Int} (h0 : 0 ≤ x1) (h1 : x1 ≤ 120) (h2 : x0 = 4 * x1) : x0 < (484 : Nat) := by omega
theorem o18_132 {x0 x1 x2 : Int} (h0 : 0 ≤ x2) (h1 : x2 ≤ 120) (h2 : x0 = 4 * x2) (h3 : x1 = 1) (h4 : -2147483648 ≤ x0) (h5 : x0 ≤ 2147483647) (h6 : -2147483648 ≤ x1) (h7 : x1 ≤ 2147483647) (h8 : -2147483648 ≤ x2) (h9 : x2 ≤ 2147483647) : -2147483648 ≤ x0 + x1 := by omega
theorem o18_133 {x0 x1 x2 : Int} (h0 : 0 ≤ x2) (h1 : x2 ≤ 120) (h2 : x0 = 4 * x2) (h3 : x1 = 1) (h4 : -2147483648 ≤ x0) (h5 : x0 ≤ 2147483647) (h6 : -2147483648 ≤ x1) (h7 : x1 ≤ 2147483647) (h8 : -2147483648 ≤ x2) (h9 : x2 ≤ 2147483647) : x0 + x1 ≤ 2147483647 := by omega
theorem o18_134 {x0 x1 x2 x3 : Int} (h0 : 0 ≤ x1) (h1 : x1 ≤ 120) (h2 : x2 = 4 * x1) (h3 : x3 = 1) (h4 : x0 = x2 + x3) : 0 ≤ x0 := by omega
theorem o18_135 {x0 x1 x2 x3 : Int} (h0 : 0 ≤ x1) (h1 : x1 ≤ 120) (h2 : x2 = 4 * x1) (h3 : x3 = 1) (h4 : x0 = x2 + x3) : x0 < (484 : Nat) := by omega
theorem o18_136 {x0 x1 x2 x3 x4 : Int} (h0 : 0 ≤ x2) (h1 : x2 ≤ 120) (h2 : x0 = 4 * x2) (h3 : x3 = 1) (h4 : x4 = x0 + x3) (h5 : x1 = 2) (h6 : -2147483648 ≤ x0) (h7 : x0 ≤ 2147483647) (h8 : -2147483648 ≤ x1) (h9 : x1 ≤ 2147483647) (h10 : -2147483648 ≤ x2) (h11 : x2 ≤ 2147483647) (h12 : -2147483648 ≤ x3) (h13 : x3 ≤ 2147483647) (h14 : -2147483648 ≤ x4) (h15 : x4 ≤ 2147483647) : -2147483648 ≤ x0 + x1 := by omega
theorem o18_137 {x0 x1 x2 x3 x4 : Int} (h0 : 0 ≤ x2) (h1 : x2 ≤ 120) (h2 : x0 = 4 * x2) (h3 : x3 = 1) (h4 : x4 = x0 + x3) (h5 : x1 = 2) (h6 : -2147483648 ≤ x0) (h7 : x0 ≤ 2147483647) (h8 : -2147483648 ≤ x1) (h9 : x1 ≤ 2147483647) (h10 : -2147483648 ≤ x2) (h11 : x2 ≤ 2147483647) (h12 : -2147483648 ≤ x3) (h13 : x3 ≤ 2147483647) (h14 : -2147483648 ≤ x4) (h15 : x4 ≤ 2147483647) : x0 + x1 ≤ 2147483647 := by omega
theorem o18_138 {x0 x1 x2 x3 x4 x5 : Int} (h0 : 0 ≤ x1) (h1 : x1 ≤ 120) (h2 : x2 = 4 * x1) (h3 : x3 = 1) (h4 : x4 = x2 + x3) (h5 : x5 = 2) (h6 : x0 = x2 + x5) : 0 ≤ x0 := by omega
theorem o18_139 {x0 x1 x2 x3 x4 x5 : Int} (h0 : 0 ≤ x1) (h1 : x1 ≤ 120) (h2 : x2 = 4 * x1) (h3 : x3 = 1) (h4 : x4 = x2 + x3) (h5 : x5 = 2) (h6 : x0 = x2 + x5) : x0 < (484 : Nat) := by omega
theorem o18_140 {x0 x1 x2 x3 x4 x5 x6 : Int} (h0 : 0 ≤ x2) (h1 : x2 ≤ 120) (h2 : x0 = 4 * x2) (h3 : x3 = 1) (h4 : x4 = x0 + x3) (h5 : x5 = 2) (h6 : x6 = x0 + x5) (h7 : x1 = 3) (h8 : -2147483648 ≤ x0) (h9 : x0 ≤ 2147483647) (h10 : -2147483648 ≤ x1) (h11 : x1 ≤ 2147483647) (h12 : -2147483648 ≤ x2) (h13 : x2 ≤ 2147483647) (h14 : -2147483648 ≤ x3) (h15 : x3 ≤ 2147483647) (h16 : -2147483648 ≤ x4) (h17 : x4 ≤ 2147483647) (h18 : -2147483648 ≤ x5) (h19 : x5 ≤ 2147483647) (h20 : -2147483648 ≤ x6) (h21 : x6 ≤ 2147483647) : -2147483648 ≤ x0 + x1 := by omega
theorem o18_141 {x0 x1 x2 x3 x4 x5 x6 : Int} (h0 : 0 ≤ x2) (h1 : x2 ≤ 120) (h2 : x0 = 4 * x2) (h3 : x3 = 1) (h4 : x4 = x0 + x3) (h5 : x5 = 2) (h6 : x6 = x0 + x5) (h7 : x1 = 3) (h8 : -2147483648 ≤ x0) (h9 : x0 ≤ 2147483647) (h10 : -2147483648 ≤ x1) (h11 : x1 ≤ 2147483647) (h12 : -2147483648 ≤ x2) (h13 : x2 ≤ 2147483647) (h14 : -2147483648 ≤ x3) (h15 : x3 ≤ 2147483647) (h16 : -2147483648 ≤ x4) (h17 : x4 ≤ 2147483647) (h18 : -2147483648 ≤ x5) (h19 : x5 ≤ 2147483647) (h20 : -2147483648 ≤ x6) (h21 : x6 ≤ 2147483647) : x0 + x1 ≤ 2147483647 := by omega
theorem o18_142 {x0 x1 x2 x3 x4 x5 x6 x7 : Int} (h0 : 0 ≤ x1) (h1 : x1 ≤ 120) (h2 : x2 = 4 * x1) (h3 : x3 = 1) (h4 : x4 = x2 + x3) (h5 : x5 = 2) (h6 : x6 = x2 + x5) (h7 : x7 = 3) (h8 : x0 = x2 + x7) : 0 ≤ x0 := by omega
theorem o18_143 {x0 x1 x2 x3 x4 x5 x6 x7 : Int} (h0 : 0 ≤ x1) (h1 : x1 ≤ 120) (h2 : x2 = 4 * x1) (h3 : x3 = 1) (h4 : x4 = x2 + x3) (h5 : x5 = 2) (h6 : x6 = x2 + x5) (h7 : x7 = 3) (h8 : x0 = x2 + x7) : x0 < (484 : Nat) := by omega
theorem o18_144 {x0 x1 x3 : Int} {x2 : Nat} (h0 : 0 ≤ x0) (h1 : x0 ≤ 480) (h2 : 0 ≤ x1) (h3 : x1 ≤ 4) (h4 : 4 - x1 < ((x2 + 1 : Nat) : Int)) (h5 : x3 = 4) (h6 : x1 < x3) (h7 : -2147483648 ≤ x0) (h8 : x0 ≤ 2147483647) (h9 : -2147483648 ≤ x1) (h10 : x1 ≤ 2147483647) (h11 : -2147483648 ≤ x3) (h12 : x3 ≤ 2147483647) : -2147483648 ≤ x0 + x1 := by omega
theorem o18_145 {x0 x1 x3 : Int} {x2 : Nat} (h0 : 0 ≤ x0) (h1 : x0 ≤ 480) (h2 : 0 ≤ x1) (h3 : x1 ≤ 4) (h4 : 4 - x1 < ((x2 + 1 : Nat) : Int)) (h5 : x3 = 4) (h6 : x1 < x3) (h7 : -2147483648 ≤ x0) (h8 : x0 ≤ 2147483647) (h9 : -2147483648 ≤ x1) (h10 : x1 ≤ 2147483647) (h11 : -2147483648 ≤ x3) (h12 : x3 ≤ 2147483647) : x0 + x1 ≤ 2147483647 := by omega
theorem o18_146 {x0 x1 x2 x4 : Int} {x3 : Nat} (h0 : 0 ≤ x1) (h1 : x1 ≤ 480) (h2 : 0 ≤ x2) (h3 : x2 ≤ 4) (h4 : 4 - x2 < ((x3 + 1 : Nat) : Int)) (h5 : x4 = 4) (h6 : x2 < x4) (h7 : x0 = x1 + x2) : 0 ≤ x0 := by omega
theorem o18_147 {x0 x1 x2 x4 : Int} {x3 : Nat} (h0 : 0 ≤ x1) (h1 : x1 ≤ 480) (h2 : 0 ≤ x2) (h3 : x2 ≤ 4) (h4 : 4 - x2 < ((x3 + 1 : Nat) : Int)) (h5 : x4 = 4) (h6 : x2 < x4) (h7 : x0 = x1 + x2) : x0 < (484 : Nat) := by omega
theorem o18_148 {x0 x1 x3 x4 : Int} {x2 : Nat} (h0 : 0 ≤ x1) (h1 : x1 ≤ 480) (h2 : 0 ≤ x0) (h3 : x0 ≤ 4) (h4 : 4 - x0 < ((x2 + 1 : Nat) : Int)) (h5 : x3 = 4) (h6 : x0 < x3) (h7 : x4 = x1 + x0) (h8 : -2147483648 ≤ x0) (h9 : x0 ≤ 2147483647) (h10 : -2147483648 ≤ x1) (h11 : x1 ≤ 2147483647) (h12 : -2147483648 ≤ x3) (h13 : x3 ≤ 2147483647) (h14 : -2147483648 ≤ x4) (h15 : x4 ≤ 2147483647) : -2147483648 ≤ x0 + 1 := by omega
theorem o18_149 {x0 x1 x3 x4 : Int} {x2 : Nat} (h0 : 0 ≤ x1) (h1 : x1 ≤ 480) (h2 : 0 ≤ x0) (h3 : x0 ≤ 4) (h4 : 4 - x0 < ((x2 + 1 : Nat) : Int)) (h5 : x3 = 4) (h6 : x0 < x3) (h7 : x4 = x1 + x0) (h8 : -2147483648 ≤ x0) (h9 : x0 ≤ 2147483647) (h10 : -2147483648 ≤ x1) (h11 : x1 ≤ 2147483647) (h12 : -2147483648 ≤ x3) (h13 : x3 ≤ 2147483647) (h14 : -2147483648 ≤ x4) (h15 : x4 ≤ 2147483647) : x0 + 1 ≤ 2147483647 := by omega
theorem o18_150 {x0 x2 x3 x4 x5 : Int} {x1 : Nat} (h0 : 0 ≤ x2) (h1 : x2 ≤ 480) (h2 : 0 ≤ x3) (h3 : x3 ≤ 4) (h4 : 4 - x3 < ((x1 + 1 : Nat) : Int)) (h5 : x4 = 4) (h6 : x3 < x4) (h7 : x5 = x2 + x3) (h8 : x0 = x3 + 1) : 4 - x0 < (x1 : Int) := by omega
theorem o18_151 {x0 x1 x2 x4 x5 : Int} {x3 : Nat} (h0 : 0 ≤ x1) (h1 : x1 ≤ 480) (h2 : 0 ≤ x2) (h3 : x2 ≤ 4) (h4 : 4 - x2 < ((x3 + 1 : Nat) : Int)) (h5 : x4 = 4) (h6 : x2 < x4) (h7 : x5 = x1 + x2) (h8 : x0 = x2 + 1) : 0 ≤ x0 := by omega
theorem o18_152 {x0 x1 x2 x4 x5 : Int} {x3 : Nat} (h0 : 0 ≤ x1) (h1 : x1 ≤ 480) (h2 : 0 ≤ x2) (h3 : x2 ≤ 4) (h4 : 4 - x2 < ((x3 + 1 : Nat) : Int)) (h5 : x4 = 4) (h6 : x2 < x4) (h7 : x5 = x1 + x2) (h8 : x0 = x2 + 1) : x0 ≤ 4 := by omega
theorem o18_153 {x0 x1 x2 x4 x5 : Int} {x3 : Nat} (h0 : 0 ≤ x2) (h1 : x2 ≤ 480) (h2 : 0 ≤ x0) (h3 : x0 ≤ 4) (h4 : 4 - x0 < ((x3 + 1 : Nat) : Int)) (h5 : x4 = 4) (h6 : x0 < x4) (h7 : x5 = x2 + x0) (h8 : x1 = 1) (h9 : -2147483648 ≤ x0) (h10 : x0 ≤ 2147483647) (h11 : -2147483648 ≤ x1) (h12 : x1 ≤ 2147483647) (h13 : -2147483648 ≤ x2) (h14 : x2 ≤ 2147483647) (h15 : -2147483648 ≤ x4) (h16 : x4 ≤ 2147483647) (h17 : -2147483648 ≤ x5) (h18 : x5 ≤ 2147483647) : -2147483648 ≤ x0 + x1 := by omega
theorem o18_154 {x0 x1 x2 x4 x5 : Int} {x3 : Nat} (h0 : 0 ≤ x2) (h1 : x2 ≤ 480) (h2 : 0 ≤ x0) (h3 : x0 ≤ 4) (h4 : 4 - x0 < ((x3 + 1 : Nat) : Int)) (h5 : x4 = 4) (h6 : x0 < x4) (h7 : x5 = x2 + x0) (h8 : x1 = 1) (h9 : -2147483648 ≤ x0) (h10 : x0 ≤ 2147483647) (h11 : -2147483648 ≤ x1) (h12 : x1 ≤ 2147483647) (h13 : -2147483648 ≤ x2) (h14 : x2 ≤ 2147483647) (h15 : -2147483648 ≤ x4) (h16 : x4 ≤ 2147483647) (h17 : -2147483648 ≤ x5) (h18 : x5 ≤ 2147483647) : x0 + x1 ≤ 2147483647 := by omega
theorem o18_155 {x0 x1 x3 x4 x5 x6 : Int} {x2 : Nat} (h0 : 0 ≤ x0) (h1 : x0 ≤ 480) (h2 : 0 ≤ x1) (h3 : x1 ≤ 4) (h4 : 4 - x1 < ((x2 + 1 : Nat) : Int)) (h5 : x3 = 4) (h6 : x1 < x3) (h7 : x4 = x0 + x1) (h8 : x5 = 1) (h9 : x6 = x1 + x5) (h10 : -2147483648 ≤ x0) (h11 : x0 ≤ 2147483647) (h12 : -2147483648 ≤ x1) (h13 : x1 ≤ 2147483647) (h14 : -2147483648 ≤ x3) (h15 : x3 ≤ 2147483647) (h16 : -2147483648 ≤ x4) (h17 : x4 ≤ 2147483647) (h18 : -2147483648 ≤ x5) (h19 : x5 ≤ 2147483647) (h20 : -2147483648 ≤ x6) (h21 : x6 ≤ 2147483647) : -2147483648 ≤ x0 + x1 := by omega
theorem o18_156 {x0 x1 x3 x4 x5 x6 : Int} {x2 : Nat} (h0 : 0 ≤ x0) (h1 : x0 ≤ 480) (h2 : 0 ≤ x1) (h3 : x1 ≤ 4) (h4 : 4 - x1 < ((x2 + 1 : Nat) : Int)) (h5 : x3 = 4) (h6 : x1 < x3) (h7 : x4 = x0 + x1) (h8 : x5 = 1) (h9 : x6 = x1 + x5) (h10 : -2147483648 ≤ x0) (h11 : x0 ≤ 2147483647) (h12 : -2147483648 ≤ x1) (h13 : x1 ≤ 2147483647) (h14 : -2147483648 ≤ x3) (h15 : x3 ≤ 2147483647) (h16 : -2147483648 ≤ x4) (h17 : x4 ≤ 2147483647) (h18 : -2147483648 ≤ x5) (h19 : x5 ≤ 2147483647) (h20 : -2147483648 ≤ x6) (h21 : x6 ≤ 2147483647) : x0 + x1 ≤ 2147483647 := by omega
theorem o18_157 {x0 x1 x2 x4 x5 x6 x7 : Int} {x3 : Nat} (h0 : 0 ≤ x1) (h1 : x1 ≤ 480) (h2 : 0 ≤ x2) (h3 : x2 ≤ 4) (h4 : 4 - x2 < ((x3 + 1 : Nat) : Int)) (h5 : x4 = 4) (h6 : x2 < x4) (h7 : x5 = x1 + x2) (h8 : x6 = 1) (h9 : x7 = x2 + x6) (h10 : x0 = x1 + x2) : 0 ≤ x0 := by omega
theorem o18_158 {x0 x1 x2 x4 x5 x6 x7 : Int} {x3 : Nat} (h0 : 0 ≤ x1) (h1 : x1 ≤ 480) (h2 : 0 ≤ x2) (h3 : x2 ≤ 4) (h4 : 4 - x2 < ((x3 + 1 : Nat) : Int)) (h5 : x4 = 4) (h6 : x2 < x4) (h7 : x5 = x1 + x2) (h8 : x6 = 1) (h9 : x7 = x2 + x6) (h10 : x0 = x1 + x2) : x0 < (484 : Nat) := by omega
theorem o18_159 {x0 x1 x3 x4 x5 x6 x7 : Int} {x2 : Nat} (h0 : 0 ≤ x1) (h1 : x1 ≤ 480) (h2 : 0 ≤ x0) (h3 : x0 ≤ 4) (h4 : 4 - x0 < ((x2 + 1 : Nat) : Int)) (h5 : x3 = 4) (h6 : x0 < x3) (h7 : x4 = x1 + x0) (h8 : x5 = 1) (h9 : x6 = x0 + x5) (h10 : x7 = x1 + x0) : 0 ≤ x0 := by omega
theorem o18_160 {x0 x1 x3 x4 x5 x6 x7 : Int} {x2 : Nat} (h0 : 0 ≤ x1) (h1 : x1 ≤ 480) (h2 : 0 ≤ x0) (h3 : x0 ≤ 4) (h4 : 4 - x0 < ((x2 + 1 : Nat) : Int)) (h5 : x3 = 4) (h6 : x0 < x3) (h7 : x4 = x1 + x0) (h8 : x5 = 1) (h9 : x6 = x0 + x5) (h10 : x7 = x1 + x0) : x0 ≤ 3 := by omega
theorem o18_161 {x0 x1 x2 x4 x5 x6 x7 x8 : Int} {x3 : Nat} (h0 : 0 ≤ x0) (h1 : x0 ≤ 480) (h2 : 0 ≤ x2) (h3 : x2 ≤ 4) (h4 : 4 - x2 < ((x3 + 1 : Nat) : Int)) (h5 : x4 = 4) (h6 : x2 < x4) (h7 : x5 = x0 + x2) (h8 : x6 = 1) (h9 : x7 = x2 + x6) (h10 : 0 ≤ x1) (h11 : x1 ≤ 3) (h12 : x8 = x0 + x2) (h13 : -2147483648 ≤ x0) (h14 : x0 ≤ 2147483647) (h15 : -2147483648 ≤ x1) (h16 : x1 ≤ 2147483647) (h17 : -2147483648 ≤ x2) (h18 : x2 ≤ 2147483647) (h19 : -2147483648 ≤ x4) (h20 : x4 ≤ 2147483647) (h21 : -2147483648 ≤ x5) (h22 : x5 ≤ 2147483647) (h23 : -2147483648 ≤ x6) (h24 : x6 ≤ 2147483647) (h25 : -2147483648 ≤ x7) (h26 : x7 ≤ 2147483647) (h27 : -2147483648 ≤ x8) (h28 : x8 ≤ 2147483647) : -2147483648 ≤ x0 + x1 := by omega
theorem o18_162 {x0 x1 x2 x4 x5 x6 x7 x8 : Int} {x3 : Nat} (h0 : 0 ≤ x0) (h1 : x0 ≤ 480) (h2 : 0 ≤ x2) (h3 : x2 ≤ 4) (h4 : 4 - x2 < ((x3 + 1 : Nat) : Int)) (h5 : x4 = 4) (h6 : x2 < x4) (h7 : x5 = x0 + x2) (h8 : x6 = 1) (h9 : x7 = x2 + x6) (h10 : 0 ≤ x1) (h11 : x1 ≤ 3) (h12 : x8 = x0 + x2) (h13 : -2147483648 ≤ x0) (h14 : x0 ≤ 2147483647) (h15 : -2147483648 ≤ x1) (h16 : x1 ≤ 2147483647) (h17 : -2147483648 ≤ x2) (h18 : x2 ≤ 2147483647) (h19 : -2147483648 ≤ x4) (h20 : x4 ≤ 2147483647) (h21 : -2147483648 ≤ x5) (h22 : x5 ≤ 2147483647) (h23 : -2147483648 ≤ x6) (h24 : x6 ≤ 2147483647) (h25 : -2147483648 ≤ x7) (h26 : x7 ≤ 2147483647) (h27 : -2147483648 ≤ x8) (h28 : x8 ≤ 2147483647) : x0 + x1 ≤ 2147483647 := by omega
theorem o18_163 {x0 x1 x2 x4 x5 x6 x7 x8 x9 : Int} {x3 : Nat} (h0 : 0 ≤ x1) (h1 : x1 ≤ 480) (h2 : 0 ≤ x2) (h3 : x2 ≤ 4) (h4 : 4 - x2 < ((x3 + 1 : Nat) : Int)) (h5 : x4 = 4) (h6 : x2 < x4) (h7 : x5 = x1 + x2) (h8 : x6 = 1) (h9 : x7 = x2 + x6) (h10 : 0 ≤ x8) (h11 : x8 ≤ 3) (h12 : x9 = x1 + x2) (h13 : x0 = x1 + x8) : 0 ≤ x0 := by omega
theorem o18_164 {x0 x1 x2 x4 x5 x6 x7 x8 x9 : Int} {x3 : Nat} (h0 : 0 ≤ x1) (h1 : x1 ≤ 480) (h2 : 0 ≤ x2) (h3 : x2 ≤ 4) (h4 : 4 - x2 < ((x3 + 1 : Nat) : Int)) (h5 : x4 = 4) (h6 : x2 < x4) (h7 : x5 = x1 + x2) (h8 : x6 = 1) (h9 : x7 = x2 + x6) (h10 : 0 ≤ x8) (h11 : x8 ≤ 3) (h12 : x9 = x1 + x2) (h13 : x0 = x1 + x8) : x0 < (484 : Nat) := by omega
theorem o18_165 {x0 x1 x2 x4 x5 x6 x7 x8 x9 : Int} {x3 : Nat} (h0 : 0 ≤ x1) (h1 : x1 ≤ 480) (h2 : 0 ≤ x2) (h3 : x2 ≤ 4) (h4 : 4 - x2 < ((x3 + 1 : Nat) : Int)) (h5 : x4 = 4) (h6 : x2 < x4) (h7 : x5 = x1 + x2) (h8 : x6 = 1) (h9 : x7 = x2 + x6) (h10 : 0 ≤ x0) (h11 : x0 ≤ 3) (h12 : x8 = x1 + x2) (h13 : x9 = x1 + x0) : 0 ≤ x0 := by omega
theorem o18_166 {x0 x1 x2 x4 x5 x6 x7 x8 x9 : Int} {x3 : Nat} (h0 : 0 ≤ x1) (h1 : x1 ≤ 480) (h2 : 0 ≤ x2) (h3 : x2 ≤ 4) (h4 : 4 - x2 < ((x3 + 1 : Nat) : Int)) (h5 : x4 = 4) (h6 : x2 < x4) (h7 : x5 = x1 + x2) (h8 : x6 = 1) (h9 : x7 = x2 + x6) (h10 : 0 ≤ x0) (h11 : x0 ≤ 3) (h12 : x8 = x1 + x2) (h13 : x9 = x1 + x0) : x0 ≤ 3 := by omega
theorem o18_167 {x0 x1 x3 x4 x5 x6 x7 x8 x9 : Int} {x2 : Nat} (h0 : 0 ≤ x1) (h1 : x1 ≤ 480) (h2 : 0 ≤ x0) (h3 : x0 ≤ 4) (h4 : 4 - x0 < ((x2 + 1 : Nat) : Int)) (h5 : x3 = 4) (h6 : x0 < x3) (h7 : x4 = x1 + x0) (h8 : x5 = 1) (h9 : x6 = x0 + x5) (h10 : 0 ≤ x7) (h11 : x7 ≤ 3) (h12 : x8 = x1 + x0) (h13 : x9 = x1 + x7) (h14 : -2147483648 ≤ x0) (h15 : x0 ≤ 2147483647) (h16 : -2147483648 ≤ x1) (h17 : x1 ≤ 2147483647) (h18 : -2147483648 ≤ x3) (h19 : x3 ≤ 2147483647) (h20 : -2147483648 ≤ x4) (h21 : x4 ≤ 2147483647) (h22 : -2147483648 ≤ x5) (h23 : x5 ≤ 2147483647) (h24 : -2147483648 ≤ x6) (h25 : x6 ≤ 2147483647) (h26 : -2147483648 ≤ x7) (h27 : x7 ≤ 2147483647) (h28 : -2147483648 ≤ x8) (h29 : x8 ≤ 2147483647) (h30 : -2147483648 ≤ x9) (h31 : x9 ≤ 2147483647) : -2147483648 ≤ x0 + 1 := by omega
theorem o18_168 {x0 x1 x3 x4 x5 x6 x7 x8 x9 : Int} {x2 : Nat} (h0 : 0 ≤ x1) (h1 : x1 ≤ 480) (h2 : 0 ≤ x0) (h3 : x0 ≤ 4) (h4 : 4 - x0 < ((x2 + 1 : Nat) : Int)) (h5 : x3 = 4) (h6 : x0 < x3) (h7 : x4 = x1 + x0) (h8 : x5 = 1) (h9 : x6 = x0 + x5) (h10 : 0 ≤ x7) (h11 : x7 ≤ 3) (h12 : x8 = x1 + x0) (h13 : x9 = x1 + x7) (h14 : -2147483648 ≤ x0) (h15 : x0 ≤ 2147483647) (h16 : -2147483648 ≤ x1) (h17 : x1 ≤ 2147483647) (h18 : -2147483648 ≤ x3) (h19 : x3 ≤ 2147483647) (h20 : -2147483648 ≤ x4) (h21 : x4 ≤ 2147483647) (h22 : -2147483648 ≤ x5) (h23 : x5 ≤ 2147483647) (h24 : -2147483648 ≤ x6) (h25 : x6 ≤ 2147483647) (h26 : -2147483648 ≤ x7) (h27 : x7 ≤ 2147483647) (h28 : -2147483648 ≤ x8) (h29 : x8 ≤ 2147483647) (h30 : -2147483648 ≤ x9) (h31 : x9 ≤ 2147483647) : x0 + 1 ≤ 2147483647 := by omega
theorem o18_169 {x0 x2 x3 x4 x5 x6 x7 x8 x9 x10 : Int} {x1 : Nat} (h0 : 0 ≤ x2) (h1 : x2 ≤ 480) (h2 : 0 ≤ x3) (h3 : x3 ≤ 4) (h4 : 4 - x3 < ((x1 + 1 : Nat) : Int)) (h5 : x4 = 4) (h6 : x3 < x4) (h7 : x5 = x2 + x3) (h8 : x6 = 1) (h9 : x7 = x3 + x6) (h10 : 0 ≤ x8) (h11 : x8 ≤ 3) (h12 : x9 = x2 + x3) (h13 : x10 = x2 + x8) (h14 : x0 = x3 + 1) : 4 - x0 < (x1 : Int) := by omega
theorem o18_170 {x0 x1 x2 x4 x5 x6 x7 x8 x9 x10 : Int} {x3 : Nat} (h0 : 0 ≤ x1) (h1 : x1 ≤ 480) (h2 : 0 ≤ x2) (h3 : x2 ≤ 4) (h4 : 4 - x2 < ((x3 + 1 : Nat) : Int)) (h5 : x4 = 4) (h6 : x2 < x4) (h7 : x5 = x1 + x2) (h8 : x6 = 1) (h9 : x7 = x2 + x6) (h10 : 0 ≤ x8) (h11 : x8 ≤ 3) (h12 : x9 = x1 + x2) (h13 : x10 = x1 + x8) (h14 : x0 = x2 + 1) : 0 ≤ x0 := by omega
theorem o18_171 {x0 x1 x2 x4 x5 x6 x7 x8 x9 x10 : Int} {x3 : Nat} (h0 : 0 ≤ x1) (h1 : x1 ≤ 480) (h2 : 0 ≤ x2) (h3 : x2 ≤ 4) (h4 : 4 - x2 < ((x3 + 1 : Nat) : Int)) (h5 : x4 = 4) (h6 : x2 < x4) (h7 : x5 = x1 + x2) (h8 : x6 = 1) (h9 : x7 = x2 + x6) (h10 : 0 ≤ x8) (h11 : x8 ≤ 3) (h12 : x9 = x1 + x2) (h13 : x10 = x1 + x8) (h14 : x0 = x2 + 1) : x0 ≤ 4 := by omega
theorem o18_172 {x0 : Int} (h0 : 2 ≤ x0) (h1 : x0 ≤ 3) : 0 ≤ x0 := by omega
theorem o18_173 {x0 : Int} (h0 : 2 ≤ x0) (h1 : x0 ≤ 3) : x0 < 4 := by omega
theorem o18_174 {x0 x1 x3 : Int} {x2 : Nat} (h0 : 0 ≤ x0) (h1 : x0 ≤ 4) (h2 : 4 - x0 < ((x2 + 1 : Nat) : Int)) (h3 : x3 = 4) (h4 : x0 < x3) (h5 : 0 ≤ x1) (h6 : x1 ≤ 3) (h7 : -2147483648 ≤ x0) (h8 : x0 ≤ 2147483647) (h9 : -2147483648 ≤ x1) (h10 : x1 ≤ 2147483647) (h11 : -2147483648 ≤ x3) (h12 : x3 ≤ 2147483647) : -2147483648 ≤ x0 + x1 := by omega
theorem o18_175 {x0 x1 x3 : Int} {x2 : Nat} (h0 : 0 ≤ x0) (h1 : x0 ≤ 4) (h2 : 4 - x0 < ((x2 + 1 : Nat) : Int)) (h3 : x3 = 4) (h4 : x0 < x3) (h5 : 0 ≤ x1) (h6 : x1 ≤ 3) (h7 : -2147483648 ≤ x0) (h8 : x0 ≤ 2147483647) (h9 : -2147483648 ≤ x1) (h10 : x1 ≤ 2147483647) (h11 : -2147483648 ≤ x3) (h12 : x3 ≤ 2147483647) : x0 + x1 ≤ 2147483647 := by omega
theorem o18_176 {x0 x1 x3 x4 x5 : Int} {x2 : Nat} (h0 : 0 ≤ x0) (h1 : x0 ≤ 480) (h2 : 0 ≤ x1) (h3 : x1 ≤ 4) (h4 : 4 - x1 < ((x2 + 1 : Nat) : Int)) (h5 : x3 = 4) (h6 : x1 < x3) (h7 : 0 ≤ x4) (h8 : x4 ≤ 3) (h9 : x5 = x1 + x4) (h10 : -2147483648 ≤ x0) (h11 : x0 ≤ 2147483647) (h12 : -2147483648 ≤ x1) (h13 : x1 ≤ 2147483647) (h14 : -2147483648 ≤ x3) (h15 : x3 ≤ 2147483647) (h16 : -2147483648 ≤ x4) (h17 : x4 ≤ 2147483647) (h18 : -2147483648 ≤ x5) (h19 : x5 ≤ 2147483647) : -2147483648 ≤ x0 + x1 := by omega
theorem o18_177 {x0 x1 x3 x4 x5 : Int} {x2 : Nat} (h0 : 0 ≤ x0) (h1 : x0 ≤ 480) (h2 : 0 ≤ x1) (h3 : x1 ≤ 4) (h4 : 4 - x1 < ((x2 + 1 : Nat) : Int)) (h5 : x3 = 4) (h6 : x1 < x3) (h7 : 0 ≤ x4) (h8 : x4 ≤ 3) (h9 : x5 = x1 + x4) (h10 : -2147483648 ≤ x0) (h11 : x0 ≤ 2147483647) (h12 : -2147483648 ≤ x1) (h13 : x1 ≤ 2147483647) (h14 : -2147483648 ≤ x3) (h15 : x3 ≤ 2147483647) (h16 : -2147483648 ≤ x4) (h17 : x4 ≤ 2147483647) (h18 : -2147483648 ≤ x5) (h19 : x5 ≤ 2147483647) : x0 + x1 ≤ 2147483647 := by omega
theorem o18_178 {x0 x1 x2 x4 x5 x6 : Int} {x3 : Nat} (h0 : 0 ≤ x1) (h1 : x1 ≤ 480) (h2 : 0 ≤ x2) (h3 : x2 ≤ 4) (h4 : 4 - x2 < ((x3 + 1 : Nat) : Int)) (h5 : x4 = 4) (h6 : x2 < x4) (h7 : 0 ≤ x5) (h8 : x5 ≤ 3) (h9 : x6 = x2 + x5) (h10 : x0 = x1 + x2) : 0 ≤ x0 := by omega
theorem o18_179 {x0 x1 x2 x4 x5 x6 : Int} {x3 : Nat} (h0 : 0 ≤ x1) (h1 : x1 ≤ 480) (h2 : 0 ≤ x2) (h3 : x2 ≤ 4) (h4 : 4 - x2 < ((x3 + 1 : Nat) : Int)) (h5 : x4 = 4) (h6 : x2 < x4) (h7 : 0 ≤ x5) (h8 : x5 ≤ 3) (h9 : x6 = x2 + x5) (h10 : x0 = x1 + x2) : x0 < (484 : Nat) := by omega
theorem o18_180 {x0 : Int} (h0 : 0 ≤ x0) (h1 : x0 ≤ 3) : x0 < (4 : Nat) := by omega
theorem o18_181 {x0 x1 x3 x4 x5 x6 : Int} {x2 : Nat} (h0 : 0 ≤ x1) (h1 : x1 ≤ 480) (h2 : 0 ≤ x0) (h3 : x0 ≤ 4) (h4 : 4 - x0 < ((x2 + 1 : Nat) : Int)) (h5 : x3 = 4) (h6 : x0 < x3) (h7 : 0 ≤ x4) (h8 : x4 ≤ 3) (h9 : x5 = x0 + x4) (h10 : x6 = x1 + x0) (h11 : -2147483648 ≤ x0) (h12 : x0 ≤ 2147483647) (h13 : -2147483648 ≤ x1) (h14 : x1 ≤ 2147483647) (h15 : -2147483648 ≤ x3) (h16 : x3 ≤ 2147483647) (h17 : -2147483648 ≤ x4) (h18 : x4 ≤ 2147483647) (h19 : -2147483648 ≤ x5) (h20 : x5 ≤ 2147483647) (h21 : -2147483648 ≤ x6) (h22 : x6 ≤ 2147483647) : -2147483648 ≤ x0 + 1 := by omega
theorem o18_182 {x0 x1 x3 x4 x5 x6 : Int} {x2 : Nat} (h0 : 0 ≤ x1) (h1 : x1 ≤ 480) (h2 : 0 ≤ x0) (h3 : x0 ≤ 4) (h4 : 4 - x0 < ((x2 + 1 : Nat) : Int)) (h5 : x3 = 4) (h6 : x0 < x3) (h7 : 0 ≤ x4) (h8 : x4 ≤ 3) (h9 : x5 = x0 + x4) (h10 : x6 = x1 + x0) (h11 : -2147483648 ≤ x0) (h12 : x0 ≤ 2147483647) (h13 : -2147483648 ≤ x1) (h14 : x1 ≤ 2147483647) (h15 : -2147483648 ≤ x3) (h16 : x3 ≤ 2147483647) (h17 : -2147483648 ≤ x4) (h18 : x4 ≤ 2147483647) (h19 : -2147483648 ≤ x5) (h20 : x5 ≤ 2147483647) (h21 : -2147483648 ≤ x6) (h22 : x6 ≤ 2147483647) : x0 + 1 ≤ 2147483647 := by omega
theorem o18_183 {x0 x2 x3 x4 x5 x6 x7 : Int} {x1 : Nat} (h0 : 0 ≤ x2) (h1 : x2 ≤ 480) (h2 : 0 ≤ x3) (h3 : x3 ≤ 4) (h4 : 4 - x3 < ((x1 + 1 : Nat) : Int)) (h5 : x4 = 4) (h6 : x3 < x4) (h7 : 0 ≤ x5) (h8 : x5 ≤ 3) (h9 : x6 = x3 + x5) (h10 : x7 = x2 + x3) (h11 : x0 = x3 + 1) : 4 - x0 < (x1 : Int) := by omega
theorem o18_184 {x0 x1 x2 x4 x5 x6 x7 : Int} {x3 : Nat} (h0 : 0 ≤ x1) (h1 : x1 ≤ 480) (h2 : 0 ≤ x2) (h3 : x2 ≤ 4) (h4 : 4 - x2 < ((x3 + 1 : Nat) : Int)) (h5 : x4 = 4) (h6 : x2 < x4) (h7 : 0 ≤ x5) (h8 : x5 ≤ 3) (h9 : x6 = x2 + x5) (h10 : x7 = x1 + x2) (h11 : x0 = x2 + 1) : 0 ≤ x0 := by omega
theorem o18_185 {x0 x1 x2 x4 x5 x6 x7 : Int} {x3 : Nat} (h0 : 0 ≤ x1) (h1 : x1 ≤ 480) (h2 : 0 ≤ x2) (h3 : x2 ≤ 4) (h4 : 4 - x2 < ((x3 + 1 : Nat) : Int)) (h5 : x4 = 4) (h6 : x2 < x4) (h7 : 0 ≤ x5) (h8 : x5 ≤ 3) (h9 : x6 = x2 + x5) (h10 : x7 = x1 + x2) (h11 : x0 = x2 + 1) : x0 ≤ 4 := by omega
theorem o18_186 {x0 x1 : Int} (h0 : 0 ≤ x0) (h1 : x0 ≤ 480) (h2 : 0 ≤ x1) (h3 : x1 ≤ 3) (h4 : -2147483648 ≤ x0) (h5 : x0 ≤ 2147483647) (h6 : -2147483648 ≤ x1) (h7 : x1 ≤ 2147483647) : -2147483648 ≤ x0 + x1 := by omega
theorem o18_187 {x0 x1 : Int} (h0 : 0 ≤ x0) (h1 : x0 ≤ 480) (h2 : 0 ≤ x1) (h3 : x1 ≤ 3) (h4 : -2147483648 ≤ x0) (h5 : x0 ≤ 2147483647) (h6 : -2147483648 ≤ x1) (h7 : x1 ≤ 2147483647) : x0 + x1 ≤ 2147483647 := by omega
theorem o18_188 {x0 x1 x2 : Int} (h0 : 0 ≤ x1) (h1 : x1 ≤ 480) (h2 : 0 ≤ x2) (h3 : x2 ≤ 3) (h4 : x0 = x1 + x2) : 0 ≤ x0 := by omega
theorem o18_189 {x0 x1 x2 : Int} (h0 : 0 ≤ x1) (h1 : x1 ≤ 480) (h2 : 0 ≤ x2) (h3 : x2 ≤ 3) (h4 : x0 = x1 + x2) : x0 < (484 : Nat) := by omega
theorem o18_190 {x0 x1 x2 : Int} (h0 : 0 ≤ x1) (h1 : x1 ≤ 480) (h2 : 0 ≤ x0) (h3 : x0 ≤ 3) (h4 : x2 = x1 + x0) : 0 ≤ x0 := by omega
theorem o18_191 {x0 x1 x2 : Int} (h0 : 0 ≤ x1) (h1 : x1 ≤ 480) (h2 : 0 ≤ x0) (h3 : x0 ≤ 3) (h4 : x2 = x1 + x0) : x0 ≤ 3 := by omega
theorem o18_192 {x0 x1 x2 x4 : Int} {x3 : Nat} (h0 : 0 ≤ x2) (h1 : x2 ≤ 121) (h2 : 121 - x2 < ((x3 + 1 : Nat) : Int)) (h3 : 0 ≤ x4) (h4 : x4 ≤ 120) (h5 : x4 < x2) (h6 : 0 ≤ x0) (h7 : x0 ≤ 120) (h8 : x0 = x4) (h9 : x1 = 2) (h10 : -2147483648 ≤ x0) (h11 : x0 ≤ 2147483647) (h12 : -2147483648 ≤ x1) (h13 : x1 ≤ 2147483647) (h14 : -2147483648 ≤ x2) (h15 : x2 ≤ 2147483647) (h16 : -2147483648 ≤ x4) (h17 : x4 ≤ 2147483647) : -2147483648 ≤ x0 + x1 := by omega
theorem o18_193 {x0 x1 x2 x4 : Int} {x3 : Nat} (h0 : 0 ≤ x2) (h1 : x2 ≤ 121) (h2 : 121 - x2 < ((x3 + 1 : Nat) : Int)) (h3 : 0 ≤ x4) (h4 : x4 ≤ 120) (h5 : x4 < x2) (h6 : 0 ≤ x0) (h7 : x0 ≤ 120) (h8 : x0 = x4) (h9 : x1 = 2) (h10 : -2147483648 ≤ x0) (h11 : x0 ≤ 2147483647) (h12 : -2147483648 ≤ x1) (h13 : x1 ≤ 2147483647) (h14 : -2147483648 ≤ x2) (h15 : x2 ≤ 2147483647) (h16 : -2147483648 ≤ x4) (h17 : x4 ≤ 2147483647) : x0 + x1 ≤ 2147483647 := by omega
theorem o18_194 {x0 x1 x2 x4 x5 x6 x7 : Int} {x3 : Nat} (h0 : 0 ≤ x1) (h1 : x1 ≤ 120) (h2 : 0 ≤ x2) (h3 : x2 ≤ 121) (h4 : 121 - x2 < ((x3 + 1 : Nat) : Int)) (h5 : 0 ≤ x4) (h6 : x4 ≤ 120) (h7 : x4 < x2) (h8 : 0 ≤ x5) (h9 : x5 ≤ 120) (h10 : x5 = x4) (h11 : x6 = 2) (h12 : x7 = x5 + x6) (h13 : (x0 = x7 ∧ x7 ≤ x1) ∨ (x0 = x1 ∧ x1 ≤ x7)) : 0 ≤ x0 := by omega
theorem o18_195 {x0 x1 x2 x4 x5 x6 x7 : Int} {x3 : Nat} (h0 : 0 ≤ x1) (h1 : x1 ≤ 120) (h2 : 0 ≤ x2) (h3 : x2 ≤ 121) (h4 : 121 - x2 < ((x3 + 1 : Nat) : Int)) (h5 : 0 ≤ x4) (h6 : x4 ≤ 120) (h7 : x4 < x2) (h8 : 0 ≤ x5) (h9 : x5 ≤ 120) (h10 : x5 = x4) (h11 : x6 = 2) (h12 : x7 = x5 + x6) (h13 : (x0 = x7 ∧ x7 ≤ x1) ∨ (x0 = x1 ∧ x1 ≤ x7)) : x0 ≤ 120 := by omega
theorem o18_196 {x0 x1 x2 x3 x5 : Int} {x4 : Nat} (h0 : 0 ≤ x2) (h1 : x2 ≤ 120) (h2 : 0 ≤ x3) (h3 : x3 ≤ 121) (h4 : 121 - x3 < ((x4 + 1 : Nat) : Int)) (h5 : 0 ≤ x5) (h6 : x5 ≤ 120) (h7 : x3 ≤ x5) (h8 : x2 < x3) (h9 : 0 ≤ x0) (h10 : x0 ≤ 120) (h11 : x0 = x5) (h12 : x1 = 2) (h13 : -2147483648 ≤ x0) (h14 : x0 ≤ 2147483647) (h15 : -2147483648 ≤ x1) (h16 : x1 ≤ 2147483647) (h17 : -2147483648 ≤ x2) (h18 : x2 ≤ 2147483647) (h19 : -2147483648 ≤ x3) (h20 : x3 ≤ 2147483647) (h21 : -2147483648 ≤ x5) (h22 : x5 ≤ 2147483647) : -2147483648 ≤ x0 + x1 := by omega
theorem o18_197 {x0 x1 x2 x3 x5 : Int} {x4 : Nat} (h0 : 0 ≤ x2) (h1 : x2 ≤ 120) (h2 : 0 ≤ x3) (h3 : x3 ≤ 121) (h4 : 121 - x3 < ((x4 + 1 : Nat) : Int)) (h5 : 0 ≤ x5) (h6 : x5 ≤ 120) (h7 : x3 ≤ x5) (h8 : x2 < x3) (h9 : 0 ≤ x0) (h10 : x0 ≤ 120) (h11 : x0 = x5) (h12 : x1 = 2) (h13 : -2147483648 ≤ x0) (h14 : x0 ≤ 2147483647) (h15 : -2147483648 ≤ x1) (h16 : x1 ≤ 2147483647) (h17 : -2147483648 ≤ x2) (h18 : x2 ≤ 2147483647) (h19 : -2147483648 ≤ x3) (h20 : x3 ≤ 2147483647) (h21 : -2147483648 ≤ x5) (h22 : x5 ≤ 2147483647) : x0 + x1 ≤ 2147483647 := by omega
theorem o18_198 {x0 x1 x2 x4 x5 x6 x7 : Int} {x3 : Nat} (h0 : 0 ≤ x1) (h1 : x1 ≤ 120) (h2 : 0 ≤ x2) (h3 : x2 ≤ 121) (h4 : 121 - x2 < ((x3 + 1 : Nat) : Int)) (h5 : 0 ≤ x4) (h6 : x4 ≤ 120) (h7 : x2 ≤ x4) (h8 : x1 < x2) (h9 : 0 ≤ x5) (h10 : x5 ≤ 120) (h11 : x5 = x4) (h12 : x6 = 2) (h13 : x7 = x5 + x6) (h14 : (x0 = x7 ∧ x7 ≤ x1) ∨ (x0 = x1 ∧ x1 ≤ x7)) : 0 ≤ x0 := by omega
theorem o18_199 {x0 x1 x2 x4 x5 x6 x7 : Int} {x3 : Nat} (h0 : 0 ≤ x1) (h1 : x1 ≤ 120) (h2 : 0 ≤ x2) (h3 : x2 ≤ 121) (h4 : 121 - x2 < ((x3 + 1 : Nat) : Int)) (h5 : 0 ≤ x4) (h6 : x4 ≤ 120) (h7 : x2 ≤ x4) (h8 : x1 < x2) (h9 : 0 ≤ x5) (h10 : x5 ≤ 120) (h11 : x5 = x4) (h12 : x6 = 2) (h13 : x7 = x5 + x6) (h14 : (x0 = x7 ∧ x7 ≤ x1) ∨ (x0 = x1 ∧ x1 ≤ x7)) : x0 ≤ 120 := by omega
theorem o18_200 {x0 x1 x3 : Int} {x2 : Nat} (h0 : 0 ≤ x1) (h1 : x1 ≤ 120) (h2 : 0 ≤ x0) (h3 : x0 ≤ 121) (h4 : 121 - x0 < ((x2 + 1 : Nat) : Int)) (h5 : 0 ≤ x3) (h6 : x3 ≤ 120) (h7 : x0 ≤ x3) (h8 : x0 ≤ x1) (h9 : -2147483648 ≤ x0) (h10 : x0 ≤ 2147483647) (h11 : -2147483648 ≤ x1) (h12 : x1 ≤ 2147483647) (h13 : -2147483648 ≤ x3) (h14 : x3 ≤ 2147483647) : -2147483648 ≤ 4 * x0 := by omega
theorem o18_201 {x0 x1 x3 : Int} {x2 : Nat} (h0 : 0 ≤ x1) (h1 : x1 ≤ 120) (h2 : 0 ≤ x0) (h3 : x0 ≤ 121) (h4 : 121 - x0 < ((x2 + 1 : Nat) : Int)) (h5 : 0 ≤ x3) (h6 : x3 ≤ 120) (h7 : x0 ≤ x3) (h8 : x0 ≤ x1) (h9 : -2147483648 ≤ x0) (h10 : x0 ≤ 2147483647) (h11 : -2147483648 ≤ x1) (h12 : x1 ≤ 2147483647) (h13 : -2147483648 ≤ x3) (h14 : x3 ≤ 2147483647) : 4 * x0 ≤ 2147483647 := by omega
theorem o18_202 {x0 x1 x2 x4 : Int} {x3 : Nat} (h0 : 0 ≤ x1) (h1 : x1 ≤ 120) (h2 : 0 ≤ x2) (h3 : x2 ≤ 121) (h4 : 121 - x2 < ((x3 + 1 : Nat) : Int)) (h5 : 0 ≤ x4) (h6 : x4 ≤ 120) (h7 : x2 ≤ x4) (h8 : x2 ≤ x1) (h9 : x0 = 4 * x2) : 0 ≤ x0 := by omega
theorem o18_203 {x0 x1 x2 x4 : Int} {x3 : Nat} (h0 : 0 ≤ x1) (h1 : x1 ≤ 120) (h2 : 0 ≤ x2) (h3 : x2 ≤ 121) (h4 : 121 - x2 < ((x3 + 1 : Nat) : Int)) (h5 : 0 ≤ x4) (h6 : x4 ≤ 120) (h7 : x2 ≤ x4) (h8 : x2 ≤ x1) (h9 : x0 = 4 * x2) : x0 ≤ 480 := by omega
theorem o18_204 {x0 : Int} (h0 : 2 ≤ x0) (h1 : x0 ≤ 4) (h2 : 4 - x0 < 0) : False := by omega
theorem o18_205 {x0 x1 x3 x4 : Int} {x2 : Nat} (h0 : 0 ≤ x1) (h1 : x1 ≤ 120) (h2 : 0 ≤ x0) (h3 : x0 ≤ 121) (h4 : 121 - x0 < ((x2 + 1 : Nat) : Int)) (h5 : 0 ≤ x3) (h6 : x3 ≤ 120) (h7 : x0 ≤ x3) (h8 : x0 ≤ x1) (h9 : x4 = 4 * x0) (h10 : -2147483648 ≤ x0) (h11 : x0 ≤ 2147483647) (h12 : -2147483648 ≤ x1) (h13 : x1 ≤ 2147483647) (h14 : -2147483648 ≤ x3) (h15 : x3 ≤ 2147483647) (h16 : -2147483648 ≤ x4) (h17 : x4 ≤ 2147483647) : -2147483648 ≤ x0 + 1 := by omega
theorem o18_206 {x0 x1 x3 x4 : Int} {x2 : Nat} (h0 : 0 ≤ x1) (h1 : x1 ≤ 120) (h2 : 0 ≤ x0) (h3 : x0 ≤ 121) (h4 : 121 - x0 < ((x2 + 1 : Nat) : Int)) (h5 : 0 ≤ x3) (h6 : x3 ≤ 120) (h7 : x0 ≤ x3) (h8 : x0 ≤ x1) (h9 : x4 = 4 * x0) (h10 : -2147483648 ≤ x0) (h11 : x0 ≤ 2147483647) (h12 : -2147483648 ≤ x1) (h13 : x1 ≤ 2147483647) (h14 : -2147483648 ≤ x3) (h15 : x3 ≤ 2147483647) (h16 : -2147483648 ≤ x4) (h17 : x4 ≤ 2147483647) : x0 + 1 ≤ 2147483647 := by omega
theorem o18_207 {x0 x2 x3 x4 x5 : Int} {x1 : Nat} (h0 : 0 ≤ x2) (h1 : x2 ≤ 120) (h2 : 0 ≤ x3) (h3 : x3 ≤ 121) (h4 : 121 - x3 < ((x1 + 1 : Nat) : Int)) (h5 : 0 ≤ x4) (h6 : x4 ≤ 120) (h7 : x3 ≤ x4) (h8 : x3 ≤ x2) (h9 : x5 = 4 * x3) (h10 : x0 = x3 + 1) : 121 - x0 < (x1 : Int) := by omega
theorem o18_208 {x0 x1 x2 x4 x5 : Int} {x3 : Nat} (h0 : 0 ≤ x1) (h1 : x1 ≤ 120) (h2 : 0 ≤ x2) (h3 : x2 ≤ 121) (h4 : 121 - x2 < ((x3 + 1 : Nat) : Int)) (h5 : 0 ≤ x4) (h6 : x4 ≤ 120) (h7 : x2 ≤ x4) (h8 : x2 ≤ x1) (h9 : x5 = 4 * x2) (h10 : x0 = x2 + 1) : 0 ≤ x0 := by omega
theorem o18_209 {x0 x1 x2 x4 x5 : Int} {x3 : Nat} (h0 : 0 ≤ x1) (h1 : x1 ≤ 120) (h2 : 0 ≤ x2) (h3 : x2 ≤ 121) (h4 : 121 - x2 < ((x3 + 1 : Nat) : Int)) (h5 : 0 ≤ x4) (h6 : x4 ≤ 120) (h7 : x2 ≤ x4) (h8 : x2 ≤ x1) (h9 : x5 = 4 * x2) (h10 : x0 = x2 + 1) : x0 ≤ 121 := by omega
theorem o18_210 {x0 x2 : Int} {x1 : Nat} (h0 : 2 ≤ x0) (h1 : x0 ≤ 4) (h2 : 4 - x0 < ((x1 + 1 : Nat) : Int)) (h3 : x2 = 4) (h4 : x0 < x2) : 2 ≤ x0 := by omega
theorem o18_211 {x0 x2 : Int} {x1 : Nat} (h0 : 2 ≤ x0) (h1 : x0 ≤ 4) (h2 : 4 - x0 < ((x1 + 1 : Nat) : Int)) (h3 : x2 = 4) (h4 : x0 < x2) : x0 ≤ 3 := by omega
theorem o18_212 {x0 x1 x2 x4 x5 x7 : Int} {x3 x6 : Nat} (h0 : 0 ≤ x2) (h1 : x2 ≤ 120) (h2 : 0 ≤ x0) (h3 : x0 ≤ 121) (h4 : 121 - x0 < ((x3 + 1 : Nat) : Int)) (h5 : 0 ≤ x4) (h6 : x4 ≤ 120) (h7 : x0 ≤ x4) (h8 : x0 ≤ x2) (h9 : x5 = 4 * x0) (h10 : 2 ≤ x1) (h11 : x1 ≤ 4) (h12 : 4 - x1 < ((x6 + 1 : Nat) : Int)) (h13 : x7 = 4) (h14 : x1 < x7) (h15 : -2147483648 ≤ x0) (h16 : x0 ≤ 2147483647) (h17 : -2147483648 ≤ x1) (h18 : x1 ≤ 2147483647) (h19 : -2147483648 ≤ x2) (h20 : x2 ≤ 2147483647) (h21 : -2147483648 ≤ x4) (h22 : x4 ≤ 2147483647) (h23 : -2147483648 ≤ x5) (h24 : x5 ≤ 2147483647) (h25 : -2147483648 ≤ x7) (h26 : x7 ≤ 2147483647) : -2147483648 ≤ x0 + x1 := by omega
theorem o18_213 {x0 x1 x2 x4 x5 x7 : Int} {x3 x6 : Nat} (h0 : 0 ≤ x2) (h1 : x2 ≤ 120) (h2 : 0 ≤ x0) (h3 : x0 ≤ 121) (h4 : 121 - x0 < ((x3 + 1 : Nat) : Int)) (h5 : 0 ≤ x4) (h6 : x4 ≤ 120) (h7 : x0 ≤ x4) (h8 : x0 ≤ x2) (h9 : x5 = 4 * x0) (h10 : 2 ≤ x1) (h11 : x1 ≤ 4) (h12 : 4 - x1 < ((x6 + 1 : Nat) : Int)) (h13 : x7 = 4) (h14 : x1 < x7) (h15 : -2147483648 ≤ x0) (h16 : x0 ≤ 2147483647) (h17 : -2147483648 ≤ x1) (h18 : x1 ≤ 2147483647) (h19 : -2147483648 ≤ x2) (h20 : x2 ≤ 2147483647) (h21 : -2147483648 ≤ x4) (h22 : x4 ≤ 2147483647) (h23 : -2147483648 ≤ x5) (h24 : x5 ≤ 2147483647) (h25 : -2147483648 ≤ x7) (h26 : x7 ≤ 2147483647) : x0 + x1 ≤ 2147483647 := by omega
theorem o18_214 {x0 x1 x2 x3 x5 x6 x7 x9 : Int} {x4 x8 : Nat} (h0 : 0 ≤ x2) (h1 : x2 ≤ 120) (h2 : 0 ≤ x3) (h3 : x3 ≤ 121) (h4 : 121 - x3 < ((x4 + 1 : Nat) : Int)) (h5 : 0 ≤ x5) (h6 : x5 ≤ 120) (h7 : x3 ≤ x5) (h8 : x3 ≤ x2) (h9 : x6 = 4 * x3) (h10 : 2 ≤ x7) (h11 : x7 ≤ 4) (h12 : 4 - x7 < ((x8 + 1 : Nat) : Int)) (h13 : x9 = 4) (h14 : x7 < x9) (h15 : x0 = x3 + x7) (h16 : x1 = 1) (h17 : -2147483648 ≤ x0) (h18 : x0 ≤ 2147483647) (h19 : -2147483648 ≤ x1) (h20 : x1 ≤ 2147483647) (h21 : -2147483648 ≤ x2) (h22 : x2 ≤ 2147483647) (h23 : -2147483648 ≤ x3) (h24 : x3 ≤ 2147483647) (h25 : -2147483648 ≤ x5) (h26 : x5 ≤ 2147483647) (h27 : -2147483648 ≤ x6) (h28 : x6 ≤ 2147483647) (h29 : -2147483648 ≤ x7) (h30 : x7 ≤ 2147483647) (h31 : -2147483648 ≤ x9) (h32 : x9 ≤ 2147483647) : -2147483648 ≤ x0 - x1 := by omega
theorem o18_215 {x0 x1 x2 x3 x5 x6 x7 x9 : Int} {x4 x8 : Nat} (h0 : 0 ≤ x2) (h1 : x2 ≤ 120) (h2 : 0 ≤ x3) (h3 : x3 ≤ 121) (h4 : 121 - x3 < ((x4 + 1 : Nat) : Int)) (h5 : 0 ≤ x5) (h6 : x5 ≤ 120) (h7 : x3 ≤ x5) (h8 : x3 ≤ x2) (h9 : x6 = 4 * x3) (h10 : 2 ≤ x7) (h11 : x7 ≤ 4) (h12 : 4 - x7 < ((x8 + 1 : Nat) : Int)) (h13 : x9 = 4) (h14 : x7 < x9) (h15 : x0 = x3 + x7) (h16 : x1 = 1) (h17 : -2147483648 ≤ x0) (h18 : x0 ≤ 2147483647) (h19 : -2147483648 ≤ x1) (h20 : x1 ≤ 2147483647) (h21 : -2147483648 ≤ x2) (h22 : x2 ≤ 2147483647) (h23 : -2147483648 ≤ x3) (h24 : x3 ≤ 2147483647) (h25 : -2147483648 ≤ x5) (h26 : x5 ≤ 2147483647) (h27 : -2147483648 ≤ x6) (h28 : x6 ≤ 2147483647) (h29 : -2147483648 ≤ x7) (h30 : x7 ≤ 2147483647) (h31 : -2147483648 ≤ x9) (h32 : x9 ≤ 2147483647) : x0 - x1 ≤ 2147483647 := by omega
theorem o18_216 {x0 x1 x2 x4 x5 x7 x8 x9 x10 : Int} {x3 x6 : Nat} (h0 : 0 ≤ x1) (h1 : x1 ≤ 120) (h2 : 0 ≤ x2) (h3 : x2 ≤ 121) (h4 : 121 - x2 < ((x3 + 1 : Nat) : Int)) (h5 : 0 ≤ x4) (h6 : x4 ≤ 120) (h7 : x2 ≤ x4) (h8 : x2 ≤ x1) (h9 : x5 = 4 * x2) (h10 : 2 ≤ x0) (h11 : x0 ≤ 4) (h12 : 4 - x0 < ((x6 + 1 : Nat) : Int)) (h13 : x7 = 4) (h14 : x0 < x7) (h15 : x8 = x2 + x0) (h16 : x9 = 1) (h17 : x10 = x8 - x9) (h18 : x1 < x10) (h19 : -2147483648 ≤ x0) (h20 : x0 ≤ 2147483647) (h21 : -2147483648 ≤ x1) (h22 : x1 ≤ 2147483647) (h23 : -2147483648 ≤ x2) (h24 : x2 ≤ 2147483647) (h25 : -2147483648 ≤ x4) (h26 : x4 ≤ 2147483647) (h27 : -2147483648 ≤ x5) (h28 : x5 ≤ 2147483647) (h29 : -2147483648 ≤ x7) (h30 : x7 ≤ 2147483647) (h31 : -2147483648 ≤ x8) (h32 : x8 ≤ 2147483647) (h33 : -2147483648 ≤ x9) (h34 : x9 ≤ 2147483647) (h35 : -2147483648 ≤ x10) (h36 : x10 ≤ 2147483647) : -2147483648 ≤ x0 + 1 := by omega
theorem o18_217 {x0 x1 x2 x4 x5 x7 x8 x9 x10 : Int} {x3 x6 : Nat} (h0 : 0 ≤ x1) (h1 : x1 ≤ 120) (h2 : 0 ≤ x2) (h3 : x2 ≤ 121) (h4 : 121 - x2 < ((x3 + 1 : Nat) : Int)) (h5 : 0 ≤ x4) (h6 : x4 ≤ 120) (h7 : x2 ≤ x4) (h8 : x2 ≤ x1) (h9 : x5 = 4 * x2) (h10 : 2 ≤ x0) (h11 : x0 ≤ 4) (h12 : 4 - x0 < ((x6 + 1 : Nat) : Int)) (h13 : x7 = 4) (h14 : x0 < x7) (h15 : x8 = x2 + x0) (h16 : x9 = 1) (h17 : x10 = x8 - x9) (h18 : x1 < x10) (h19 : -2147483648 ≤ x0) (h20 : x0 ≤ 2147483647) (h21 : -2147483648 ≤ x1) (h22 : x1 ≤ 2147483647) (h23 : -2147483648 ≤ x2) (h24 : x2 ≤ 2147483647) (h25 : -2147483648 ≤ x4) (h26 : x4 ≤ 2147483647) (h27 : -2147483648 ≤ x5) (h28 : x5 ≤ 2147483647) (h29 : -2147483648 ≤ x7) (h30 : x7 ≤ 2147483647) (h31 : -2147483648 ≤ x8) (h32 : x8 ≤ 2147483647) (h33 : -2147483648 ≤ x9) (h34 : x9 ≤ 2147483647) (h35 : -2147483648 ≤ x10) (h36 : x10 ≤ 2147483647) : x0 + 1 ≤ 2147483647 := by omega
theorem o18_218 {x0 x2 x3 x5 x6 x7 x8 x9 x10 x11 : Int} {x1 x4 : Nat} (h0 : 0 ≤ x2) (h1 : x2 ≤ 120) (h2 : 0 ≤ x3) (h3 : x3 ≤ 121) (h4 : 121 - x3 < ((x4 + 1 : Nat) : Int)) (h5 : 0 ≤ x5) (h6 : x5 ≤ 120) (h7 : x3 ≤ x5) (h8 : x3 ≤ x2) (h9 : x6 = 4 * x3) (h10 : 2 ≤ x7) (h11 : x7 ≤ 4) (h12 : 4 - x7 < ((x1 + 1 : Nat) : Int)) (h13 : x8 = 4) (h14 : x7 < x8) (h15 : x9 = x3 + x7) (h16 : x10 = 1) (h17 : x11 = x9 - x10) (h18 : x2 < x11) (h19 : x0 = x7 + 1) : 4 - x0 < (x1 : Int) := by omega
theorem o18_219 {x0 x1 x2 x4 x5 x6 x8 x9 x10 x11 : Int} {x3 x7 : Nat} (h0 : 0 ≤ x1) (h1 : x1 ≤ 120) (h2 : 0 ≤ x2) (h3 : x2 ≤ 121) (h4 : 121 - x2 < ((x3 + 1 : Nat) : Int)) (h5 : 0 ≤ x4) (h6 : x4 ≤ 120) (h7 : x2 ≤ x4) (h8 : x2 ≤ x1) (h9 : x5 = 4 * x2) (h10 : 2 ≤ x6) (h11 : x6 ≤ 4) (h12 : 4 - x6 < ((x7 + 1 : Nat) : Int)) (h13 : x8 = 4) (h14 : x6 < x8) (h15 : x9 = x2 + x6) (h16 : x10 = 1) (h17 : x11 = x9 - x10) (h18 : x1 < x11) (h19 : x0 = x6 + 1) : 2 ≤ x0 := by omega
theorem o18_220 {x0 x1 x2 x4 x5 x6 x8 x9 x10 x11 : Int} {x3 x7 : Nat} (h0 : 0 ≤ x1) (h1 : x1 ≤ 120) (h2 : 0 ≤ x2) (h3 : x2 ≤ 121) (h4 : 121 - x2 < ((x3 + 1 : Nat) : Int)) (h5 : 0 ≤ x4) (h6 : x4 ≤ 120) (h7 : x2 ≤ x4) (h8 : x2 ≤ x1) (h9 : x5 = 4 * x2) (h10 : 2 ≤ x6) (h11 : x6 ≤ 4) (h12 : 4 - x6 < ((x7 + 1 : Nat) : Int)) (h13 : x8 = 4) (h14 : x6 < x8) (h15 : x9 = x2 + x6) (h16 : x10 = 1) (h17 : x11 = x9 - x10) (h18 : x1 < x11) (h19 : x0 = x6 + 1) : x0 ≤ 4 := by omega
theorem o18_221 {x0 x1 x2 x3 x5 x6 x8 x9 x10 x11 : Int} {x4 x7 : Nat} (h0 : 0 ≤ x2) (h1 : x2 ≤ 120) (h2 : 0 ≤ x3) (h3 : x3 ≤ 121) (h4 : 121 - x3 < ((x4 + 1 : Nat) : Int)) (h5 : 0 ≤ x5) (h6 : x5 ≤ 120) (h7 : x3 ≤ x5) (h8 : x3 ≤ x2) (h9 : x6 = 4 * x3) (h10 : 2 ≤ x0) (h11 : x0 ≤ 4) (h12 : 4 - x0 < ((x7 + 1 : Nat) : Int)) (h13 : x8 = 4) (h14 : x0 < x8) (h15 : x9 = x3 + x0) (h16 : x10 = 1) (h17 : x11 = x9 - x10) (h18 : x11 ≤ x2) (h19 : x1 = 1) (h20 : -2147483648 ≤ x0) (h21 : x0 ≤ 2147483647) (h22 : -2147483648 ≤ x1) (h23 : x1 ≤ 2147483647) (h24 : -2147483648 ≤ x2) (h25 : x2 ≤ 2147483647) (h26 : -2147483648 ≤ x3) (h27 : x3 ≤ 2147483647) (h28 : -2147483648 ≤ x5) (h29 : x5 ≤ 2147483647) (h30 : -2147483648 ≤ x6) (h31 : x6 ≤ 2147483647) (h32 : -2147483648 ≤ x8) (h33 : x8 ≤ 2147483647) (h34 : -2147483648 ≤ x9) (h35 : x9 ≤ 2147483647) (h36 : -2147483648 ≤ x10) (h37 : x10 ≤ 2147483647) (h38 : -2147483648 ≤ x11) (h39 : x11 ≤ 2147483647) : -2147483648 ≤ x0 - x1 := by omega
theorem o18_222 {x0 x1 x2 x3 x5 x6 x8 x9 x10 x11 : Int} {x4 x7 : Nat} (h0 : 0 ≤ x2) (h1 : x2 ≤ 120) (h2 : 0 ≤ x3) (h3 : x3 ≤ 121) (h4 : 121 - x3 < ((x4 + 1 : Nat) : Int)) (h5 : 0 ≤ x5) (h6 : x5 ≤ 120) (h7 : x3 ≤ x5) (h8 : x3 ≤ x2) (h9 : x6 = 4 * x3) (h10 : 2 ≤ x0) (h11 : x0 ≤ 4) (h12 : 4 - x0 < ((x7 + 1 : Nat) : Int)) (h13 : x8 = 4) (h14 : x0 < x8) (h15 : x9 = x3 + x0) (h16 : x10 = 1) (h17 : x11 = x9 - x10) (h18 : x11 ≤ x2) (h19 : x1 = 1) (h20 : -2147483648 ≤ x0) (h21 : x0 ≤ 2147483647) (h22 : -2147483648 ≤ x1) (h23 : x1 ≤ 2147483647) (h24 : -2147483648 ≤ x2) (h25 : x2 ≤ 2147483647) (h26 : -2147483648 ≤ x3) (h27 : x3 ≤ 2147483647) (h28 : -2147483648 ≤ x5) (h29 : x5 ≤ 2147483647) (h30 : -2147483648 ≤ x6) (h31 : x6 ≤ 2147483647) (h32 : -2147483648 ≤ x8) (h33 : x8 ≤ 2147483647) (h34 : -2147483648 ≤ x9) (h35 : x9 ≤ 2147483647) (h36 : -2147483648 ≤ x10) (h37 : x10 ≤ 2147483647) (h38 : -2147483648 ≤ x11) (h39 : x11 ≤ 2147483647) : x0 - x1 ≤ 2147483647 := by omega
theorem o18_223 {x0 x1 x2 x4 x5 x6 x8 x9 x10 x11 x12 : Int} {x3 x7 : Nat} (h0 : 0 ≤ x1) (h1 : x1 ≤ 120) (h2 : 0 ≤ x2) (h3 : x2 ≤ 121) (h4 : 121 - x2 < ((x3 + 1 : Nat) : Int)) (h5 : 0 ≤ x4) (h6 : x4 ≤ 120) (h7 : x2 ≤ x4) (h8 : x2 ≤ x1) (h9 : x5 = 4 * x2) (h10 : 2 ≤ x6) (h11 : x6 ≤ 4) (h12 : 4 - x6 < ((x7 + 1 : Nat) : Int)) (h13 : x8 = 4) (h14 : x6 < x8) (h15 : x9 = x2 + x6) (h16 : x10 = 1) (h17 : x11 = x9 - x10) (h18 : x11 ≤ x1) (h19 : x12 = 1) (h20 : x0 = x6 - x12) (h21 : -2147483648 ≤ x0) (h22 : x0 ≤ 2147483647) (h23 : -2147483648 ≤ x1) (h24 : x1 ≤ 2147483647) (h25 : -2147483648 ≤ x2) (h26 : x2 ≤ 2147483647) (h27 : -2147483648 ≤ x4) (h28 : x4 ≤ 2147483647) (h29 : -2147483648 ≤ x5) (h30 : x5 ≤ 2147483647) (h31 : -2147483648 ≤ x6) (h32 : x6 ≤ 2147483647) (h33 : -2147483648 ≤ x8) (h34 : x8 ≤ 2147483647) (h35 : -2147483648 ≤ x9) (h36 : x9 ≤ 2147483647) (h37 : -2147483648 ≤ x10) (h38 : x10 ≤ 2147483647) (h39 : -2147483648 ≤ x11) (h40 : x11 ≤ 2147483647) (h41 : -2147483648 ≤ x12) (h42 : x12 ≤ 2147483647) : -2147483648 ≤ 4 * x0 := by omega
theorem o18_224 {x0 x1 x2 x4 x5 x6 x8 x9 x10 x11 x12 : Int} {x3 x7 : Nat} (h0 : 0 ≤ x1) (h1 : x1 ≤ 120) (h2 : 0 ≤ x2) (h3 : x2 ≤ 121) (h4 : 121 - x2 < ((x3 + 1 : Nat) : Int)) (h5 : 0 ≤ x4) (h6 : x4 ≤ 120) (h7 : x2 ≤ x4) (h8 : x2 ≤ x1) (h9 : x5 = 4 * x2) (h10 : 2 ≤ x6) (h11 : x6 ≤ 4) (h12 : 4 - x6 < ((x7 + 1 : Nat) : Int)) (h13 : x8 = 4) (h14 : x6 < x8) (h15 : x9 = x2 + x6) (h16 : x10 = 1) (h17 : x11 = x9 - x10) (h18 : x11 ≤ x1) (h19 : x12 = 1) (h20 : x0 = x6 - x12) (h21 : -2147483648 ≤ x0) (h22 : x0 ≤ 2147483647) (h23 : -2147483648 ≤ x1) (h24 : x1 ≤ 2147483647) (h25 : -2147483648 ≤ x2) (h26 : x2 ≤ 2147483647) (h27 : -2147483648 ≤ x4) (h28 : x4 ≤ 2147483647) (h29 : -2147483648 ≤ x5) (h30 : x5 ≤ 2147483647) (h31 : -2147483648 ≤ x6) (h32 : x6 ≤ 2147483647) (h33 : -2147483648 ≤ x8) (h34 : x8 ≤ 2147483647) (h35 : -2147483648 ≤ x9) (h36 : x9 ≤ 2147483647) (h37 : -2147483648 ≤ x10) (h38 : x10 ≤ 2147483647) (h39 : -2147483648 ≤ x11) (h40 : x11 ≤ 2147483647) (h41 : -2147483648 ≤ x12) (h42 : x12 ≤ 2147483647) : 4 * x0 ≤ 2147483647 := by omega
theorem o18_225 {x0 x1 x2 x3 x5 x6 x8 x9 x10 x11 x12 x13 : Int} {x4 x7 : Nat} (h0 : 0 ≤ x2) (h1 : x2 ≤ 120) (h2 : 0 ≤ x3) (h3 : x3 ≤ 121) (h4 : 121 - x3 < ((x4 + 1 : Nat) : Int)) (h5 : 0 ≤ x5) (h6 : x5 ≤ 120) (h7 : x3 ≤ x5) (h8 : x3 ≤ x2) (h9 : x0 = 4 * x3) (h10 : 2 ≤ x6) (h11 : x6 ≤ 4) (h12 : 4 - x6 < ((x7 + 1 : Nat) : Int)) (h13 : x8 = 4) (h14 : x6 < x8) (h15 : x9 = x3 + x6) (h16 : x10 = 1) (h17 : x11 = x9 - x10) (h18 : x11 ≤ x2) (h19 : x12 = 1) (h20 : x13 = x6 - x12) (h21 : x1 = 4 * x13) (h22 : -2147483648 ≤ x0) (h23 : x0 ≤ 2147483647) (h24 : -2147483648 ≤ x1) (h25 : x1 ≤ 2147483647) (h26 : -2147483648 ≤ x2) (h27 : x2 ≤ 2147483647) (h28 : -2147483648 ≤ x3) (h29 : x3 ≤ 2147483647) (h30 : -2147483648 ≤ x5) (h31 : x5 ≤ 2147483647) (h32 : -2147483648 ≤ x6) (h33 : x6 ≤ 2147483647) (h34 : -2147483648 ≤ x8) (h35 : x8 ≤ 2147483647) (h36 : -2147483648 ≤ x9) (h37 : x9 ≤ 2147483647) (h38 : -2147483648 ≤ x10) (h39 : x10 ≤ 2147483647) (h40 : -2147483648 ≤ x11) (h41 : x11 ≤ 2147483647) (h42 : -2147483648 ≤ x12) (h43 : x12 ≤ 2147483647) (h44 : -2147483648 ≤ x13) (h45 : x13 ≤ 2147483647) : -2147483648 ≤ x0 + x1 := by omega
theorem o18_226 {x0 x1 x2 x3 x5 x6 x8 x9 x10 x11 x12 x13 : Int} {x4 x7 : Nat} (h0 : 0 ≤ x2) (h1 : x2 ≤ 120) (h2 : 0 ≤ x3) (h3 : x3 ≤ 121) (h4 : 121 - x3 < ((x4 + 1 : Nat) : Int)) (h5 : 0 ≤ x5) (h6 : x5 ≤ 120) (h7 : x3 ≤ x5) (h8 : x3 ≤ x2) (h9 : x0 = 4 * x3) (h10 : 2 ≤ x6) (h11 : x6 ≤ 4) (h12 : 4 - x6 < ((x7 + 1 : Nat) : Int)) (h13 : x8 = 4) (h14 : x6 < x8) (h15 : x9 = x3 + x6) (h16 : x10 = 1) (h17 : x11 = x9 - x10) (h18 : x11 ≤ x2) (h19 : x12 = 1) (h20 : x13 = x6 - x12) (h21 : x1 = 4 * x13) (h22 : -2147483648 ≤ x0) (h23 : x0 ≤ 2147483647) (h24 : -2147483648 ≤ x1) (h25 : x1 ≤ 2147483647) (h26 : -2147483648 ≤ x2) (h27 : x2 ≤ 2147483647) (h28 : -2147483648 ≤ x3) (h29 : x3 ≤ 2147483647) (h30 : -2147483648 ≤ x5) (h31 : x5 ≤ 2147483647) (h32 : -2147483648 ≤ x6) (h33 : x6 ≤ 2147483647) (h34 : -2147483648 ≤ x8) (h35 : x8 ≤ 2147483647) (h36 : -2147483648 ≤ x9) (h37 : x9 ≤ 2147483647) (h38 : -2147483648 ≤ x10) (h39 : x10 ≤ 2147483647) (h40 : -2147483648 ≤ x11) (h41 : x11 ≤ 2147483647) (h42 : -2147483648 ≤ x12) (h43 : x12 ≤ 2147483647) (h44 : -2147483648 ≤ x13) (h45 : x13 ≤ 2147483647) : x0 + x1 ≤ 2147483647 := by omega
theorem o18_227 {x0 x1 x2 x4 x5 x7 x8 x9 x10 x11 x12 x13 x14 : Int} {x3 x6 : Nat} (h0 : 0 ≤ x1) (h1 : x1 ≤ 120) (h2 : 0 ≤ x2) (h3 : x2 ≤ 121) (h4 : 121 - x2 < ((x3 + 1 : Nat) : Int)) (h5 : 0 ≤ x4) (h6 : x4 ≤ 120) (h7 : x2 ≤ x4) (h8 : x2 ≤ x1) (h9 : x5 = 4 * x2) (h10 : 2 ≤ x0) (h11 : x0 ≤ 4) (h12 : 4 - x0 < ((x6 + 1 : Nat) : Int)) (h13 : x7 = 4) (h14 : x0 < x7) (h15 : x8 = x2 + x0) (h16 : x9 = 1) (h17 : x10 = x8 - x9) (h18 : x10 ≤ x1) (h19 : x11 = 1) (h20 : x12 = x0 - x11) (h21 : x13 = 4 * x12) (h22 : x14 = x5 + x13) : 2 ≤ x0 := by omega
theorem o18_228 {x0 x1 x2 x4 x5 x7 x8 x9 x10 x11 x12 x13 x14 : Int} {x3 x6 : Nat} (h0 : 0 ≤ x1) (h1 : x1 ≤ 120) (h2 : 0 ≤ x2) (h3 : x2 ≤ 121) (h4 : 121 - x2 < ((x3 + 1 : Nat) : Int)) (h5 : 0 ≤ x4) (h6 : x4 ≤ 120) (h7 : x2 ≤ x4) (h8 : x2 ≤ x1) (h9 : x5 = 4 * x2) (h10 : 2 ≤ x0) (h11 : x0 ≤ 4) (h12 : 4 - x0 < ((x6 + 1 : Nat) : Int)) (h13 : x7 = 4) (h14 : x0 < x7) (h15 : x8 = x2 + x0) (h16 : x9 = 1) (h17 : x10 = x8 - x9) (h18 : x10 ≤ x1) (h19 : x11 = 1) (h20 : x12 = x0 - x11) (h21 : x13 = 4 * x12) (h22 : x14 = x5 + x13) : x0 ≤ 3 := by omega
theorem o18_229 {x0 x1 x2 x4 x5 x7 x8 x9 x10 x11 x12 x13 x14 : Int} {x3 x6 : Nat} (h0 : 0 ≤ x1) (h1 : x1 ≤ 120) (h2 : 0 ≤ x2) (h3 : x2 ≤ 121) (h4 : 121 - x2 < ((x3 + 1 : Nat) : Int)) (h5 : 0 ≤ x4) (h6 : x4 ≤ 120) (h7 : x2 ≤ x4) (h8 : x2 ≤ x1) (h9 : x0 = 4 * x2) (h10 : 2 ≤ x5) (h11 : x5 ≤ 4) (h12 : 4 - x5 < ((x6 + 1 : Nat) : Int)) (h13 : x7 = 4) (h14 : x5 < x7) (h15 : x8 = x2 + x5) (h16 : x9 = 1) (h17 : x10 = x8 - x9) (h18 : x10 ≤ x1) (h19 : x11 = 1) (h20 : x12 = x5 - x11) (h21 : x13 = 4 * x12) (h22 : x14 = x0 + x13) : 0 ≤ x0 := by omega
theorem o18_230 {x0 x1 x2 x4 x5 x7 x8 x9 x10 x11 x12 x13 x14 : Int} {x3 x6 : Nat} (h0 : 0 ≤ x1) (h1 : x1 ≤ 120) (h2 : 0 ≤ x2) (h3 : x2 ≤ 121) (h4 : 121 - x2 < ((x3 + 1 : Nat) : Int)) (h5 : 0 ≤ x4) (h6 : x4 ≤ 120) (h7 : x2 ≤ x4) (h8 : x2 ≤ x1) (h9 : x0 = 4 * x2) (h10 : 2 ≤ x5) (h11 : x5 ≤ 4) (h12 : 4 - x5 < ((x6 + 1 : Nat) : Int)) (h13 : x7 = 4) (h14 : x5 < x7) (h15 : x8 = x2 + x5) (h16 : x9 = 1) (h17 : x10 = x8 - x9) (h18 : x10 ≤ x1) (h19 : x11 = 1) (h20 : x12 = x5 - x11) (h21 : x13 = 4 * x12) (h22 : x14 = x0 + x13) : x0 ≤ 480 := by omega
theorem o18_231 {x0 x1 x2 x4 x5 x6 x8 x9 x10 x11 x12 x13 x14 : Int} {x3 x7 : Nat} (h0 : 0 ≤ x1) (h1 : x1 ≤ 120) (h2 : 0 ≤ x2) (h3 : x2 ≤ 121) (h4 : 121 - x2 < ((x3 + 1 : Nat) : Int)) (h5 : 0 ≤ x4) (h6 : x4 ≤ 120) (h7 : x2 ≤ x4) (h8 : x2 ≤ x1) (h9 : x5 = 4 * x2) (h10 : 2 ≤ x6) (h11 : x6 ≤ 4) (h12 : 4 - x6 < ((x7 + 1 : Nat) : Int)) (h13 : x8 = 4) (h14 : x6 < x8) (h15 : x9 = x2 + x6) (h16 : x10 = 1) (h17 : x11 = x9 - x10) (h18 : x11 ≤ x1) (h19 : x12 = 1) (h20 : x13 = x6 - x12) (h21 : x14 = 4 * x13) (h22 : x0 = x5 + x14) : 0 ≤ x0 := by omega
theorem o18_232 {x0 x1 x2 x4 x5 x6 x8 x9 x10 x11 x12 x13 x14 : Int} {x3 x7 : Nat} (h0 : 0 ≤ x1) (h1 : x1 ≤ 120) (h2 : 0 ≤ x2) (h3 : x2 ≤ 121) (h4 : 121 - x2 < ((x3 + 1 : Nat) : Int)) (h5 : 0 ≤ x4) (h6 : x4 ≤ 120) (h7 : x2 ≤ x4) (h8 : x2 ≤ x1) (h9 : x5 = 4 * x2) (h10 : 2 ≤ x6) (h11 : x6 ≤ 4) (h12 : 4 - x6 < ((x7 + 1 : Nat) : Int)) (h13 : x8 = 4) (h14 : x6 < x8) (h15 : x9 = x2 + x6) (h16 : x10 = 1) (h17 : x11 = x9 - x10) (h18 : x11 ≤ x1) (h19 : x12 = 1) (h20 : x13 = x6 - x12) (h21 : x14 = 4 * x13) (h22 : x0 = x5 + x14) : x0 ≤ 480 := by omega
theorem o18_233 {x0 x1 x2 x4 x5 x7 x8 x9 x10 x11 x12 x13 x14 : Int} {x3 x6 : Nat} (h0 : 0 ≤ x1) (h1 : x1 ≤ 120) (h2 : 0 ≤ x2) (h3 : x2 ≤ 121) (h4 : 121 - x2 < ((x3 + 1 : Nat) : Int)) (h5 : 0 ≤ x4) (h6 : x4 ≤ 120) (h7 : x2 ≤ x4) (h8 : x2 ≤ x1) (h9 : x5 = 4 * x2) (h10 : 2 ≤ x0) (h11 : x0 ≤ 4) (h12 : 4 - x0 < ((x6 + 1 : Nat) : Int)) (h13 : x7 = 4) (h14 : x0 < x7) (h15 : x8 = x2 + x0) (h16 : x9 = 1) (h17 : x10 = x8 - x9) (h18 : x10 ≤ x1) (h19 : x11 = 1) (h20 : x12 = x0 - x11) (h21 : x13 = 4 * x12) (h22 : x14 = x5 + x13) (h23 : -2147483648 ≤ x0) (h24 : x0 ≤ 2147483647) (h25 : -2147483648 ≤ x1) (h26 : x1 ≤ 2147483647) (h27 : -2147483648 ≤ x2) (h28 : x2 ≤ 2147483647) (h29 : -2147483648 ≤ x4) (h30 : x4 ≤ 2147483647) (h31 : -2147483648 ≤ x5) (h32 : x5 ≤ 2147483647) (h33 : -2147483648 ≤ x7) (h34 : x7 ≤ 2147483647) (h35 : -2147483648 ≤ x8) (h36 : x8 ≤ 2147483647) (h37 : -2147483648 ≤ x9) (h38 : x9 ≤ 2147483647) (h39 : -2147483648 ≤ x10) (h40 : x10 ≤ 2147483647) (h41 : -2147483648 ≤ x11) (h42 : x11 ≤ 2147483647) (h43 : -2147483648 ≤ x12) (h44 : x12 ≤ 2147483647) (h45 : -2147483648 ≤ x13) (h46 : x13 ≤ 2147483647) (h47 : -2147483648 ≤ x14) (h48 : x14 ≤ 2147483647) : -2147483648 ≤ x0 + 1 := by omega
theorem o18_234 {x0 x1 x2 x4 x5 x7 x8 x9 x10 x11 x12 x13 x14 : Int} {x3 x6 : Nat} (h0 : 0 ≤ x1) (h1 : x1 ≤ 120) (h2 : 0 ≤ x2) (h3 : x2 ≤ 121) (h4 : 121 - x2 < ((x3 + 1 : Nat) : Int)) (h5 : 0 ≤ x4) (h6 : x4 ≤ 120) (h7 : x2 ≤ x4) (h8 : x2 ≤ x1) (h9 : x5 = 4 * x2) (h10 : 2 ≤ x0) (h11 : x0 ≤ 4) (h12 : 4 - x0 < ((x6 + 1 : Nat) : Int)) (h13 : x7 = 4) (h14 : x0 < x7) (h15 : x8 = x2 + x0) (h16 : x9 = 1) (h17 : x10 = x8 - x9) (h18 : x10 ≤ x1) (h19 : x11 = 1) (h20 : x12 = x0 - x11) (h21 : x13 = 4 * x12) (h22 : x14 = x5 + x13) (h23 : -2147483648 ≤ x0) (h24 : x0 ≤ 2147483647) (h25 : -2147483648 ≤ x1) (h26 : x1 ≤ 2147483647) (h27 : -2147483648 ≤ x2) (h28 : x2 ≤ 2147483647) (h29 : -2147483648 ≤ x4) (h30 : x4 ≤ 2147483647) (h31 : -2147483648 ≤ x5) (h32 : x5 ≤ 2147483647) (h33 : -2147483648 ≤ x7) (h34 : x7 ≤ 2147483647) (h35 : -2147483648 ≤ x8) (h36 : x8 ≤ 2147483647) (h37 : -2147483648 ≤ x9) (h38 : x9 ≤ 2147483647) (h39 : -2147483648 ≤ x10) (h40 : x10 ≤ 2147483647) (h41 : -2147483648 ≤ x11) (h42 : x11 ≤ 2147483647) (h43 : -2147483648 ≤ x12) (h44 : x12 ≤ 2147483647) (h45 : -2147483648 ≤ x13) (h46 : x13 ≤ 2147483647) (h47 : -2147483648 ≤ x14) (h48 : x14 ≤ 2147483647) : x0 + 1 ≤ 2147483647 := by omega
theorem o18_235 {x0 x2 x3 x5 x6 x7 x8 x9 x10 x11 x12 x13 x14 x15 : Int} {x1 x4 : Nat} (h0 : 0 ≤ x2) (h1 : x2 ≤ 120) (h2 : 0 ≤ x3) (h3 : x3 ≤ 121) (h4 : 121 - x3 < ((x4 + 1 : Nat) : Int)) (h5 : 0 ≤ x5) (h6 : x5 ≤ 120) (h7 : x3 ≤ x5) (h8 : x3 ≤ x2) (h9 : x6 = 4 * x3) (h10 : 2 ≤ x7) (h11 : x7 ≤ 4) (h12 : 4 - x7 < ((x1 + 1 : Nat) : Int)) (h13 : x8 = 4) (h14 : x7 < x8) (h15 : x9 = x3 + x7) (h16 : x10 = 1) (h17 : x11 = x9 - x10) (h18 : x11 ≤ x2) (h19 : x12 = 1) (h20 : x13 = x7 - x12) (h21 : x14 = 4 * x13) (h22 : x15 = x6 + x14) (h23 : x0 = x7 + 1) : 4 - x0 < (x1 : Int) := by omega
theorem o18_236 {x0 x1 x2 x4 x5 x6 x8 x9 x10 x11 x12 x13 x14 x15 : Int} {x3 x7 : Nat} (h0 : 0 ≤ x1) (h1 : x1 ≤ 120) (h2 : 0 ≤ x2) (h3 : x2 ≤ 121) (h4 : 121 - x2 < ((x3 + 1 : Nat) : Int)) (h5 : 0 ≤ x4) (h6 : x4 ≤ 120) (h7 : x2 ≤ x4) (h8 : x2 ≤ x1) (h9 : x5 = 4 * x2) (h10 : 2 ≤ x6) (h11 : x6 ≤ 4) (h12 : 4 - x6 < ((x7 + 1 : Nat) : Int)) (h13 : x8 = 4) (h14 : x6 < x8) (h15 : x9 = x2 + x6) (h16 : x10 = 1) (h17 : x11 = x9 - x10) (h18 : x11 ≤ x1) (h19 : x12 = 1) (h20 : x13 = x6 - x12) (h21 : x14 = 4 * x13) (h22 : x15 = x5 + x14) (h23 : x0 = x6 + 1) : 2 ≤ x0 := by omega
theorem o18_237 {x0 x1 x2 x4 x5 x6 x8 x9 x10 x11 x12 x13 x14 x15 : Int} {x3 x7 : Nat} (h0 : 0 ≤ x1) (h1 : x1 ≤ 120) (h2 : 0 ≤ x2) (h3 : x2 ≤ 121) (h4 : 121 - x2 < ((x3 + 1 : Nat) : Int)) (h5 : 0 ≤ x4) (h6 : x4 ≤ 120) (h7 : x2 ≤ x4) (h8 : x2 ≤ x1) (h9 : x5 = 4 * x2) (h10 : 2 ≤ x6) (h11 : x6 ≤ 4) (h12 : 4 - x6 < ((x7 + 1 : Nat) : Int)) (h13 : x8 = 4) (h14 : x6 < x8) (h15 : x9 = x2 + x6) (h16 : x10 = 1) (h17 : x11 = x9 - x10) (h18 : x11 ≤ x1) (h19 : x12 = 1) (h20 : x13 = x6 - x12) (h21 : x14 = 4 * x13) (h22 : x15 = x5 + x14) (h23 : x0 = x6 + 1) : x0 ≤ 4 := by omega
theorem o18_238 {x0 : Int} (h0 : x0 = 2) : 4 - x0 < (((4 - x0 + 1).toNat : Nat) : Int) := by omega
theorem o18_239 {x0 : Int} (h0 : x0 = 2) : 2 ≤ x0 := by omega
theorem o18_240 {x0 : Int} (h0 : x0 = 2) : x0 ≤ 4 := by omega
theorem o18_241 {x0 : Int} (h0 : x0 = (-1)) : x0 ≤ 120 := by omega
theorem o18_242 {x0 x1 x3 : Int} {x2 : Nat} (h0 : 0 ≤ x1) (h1 : x1 ≤ 120) (h2 : 0 ≤ x0) (h3 : x0 ≤ 121) (h4 : 121 - x0 < ((x2 + 1 : Nat) : Int)) (h5 : 0 ≤ x3) (h6 : x3 ≤ 120) (h7 : x0 ≤ x3) (h8 : x0 ≤ x1) : 0 ≤ x0 := by omega
theorem o18_243 {x0 x1 x3 : Int} {x2 : Nat} (h0 : 0 ≤ x1) (h1 : x1 ≤ 120) (h2 : 0 ≤ x0) (h3 : x0 ≤ 121) (h4 : 121 - x0 < ((x2 + 1 : Nat) : Int)) (h5 : 0 ≤ x3) (h6 : x3 ≤ 120) (h7 : x0 ≤ x3) (h8 : x0 ≤ x1) : x0 ≤ 120 := by omega
theorem o18_244 {x0 x1 x3 : Int} {x2 : Nat} (h0 : 0 ≤ x1) (h1 : x1 ≤ 120) (h2 : 0 ≤ x0) (h3 : x0 ≤ 121) (h4 : 121 - x0 < ((x2 + 1 : Nat) : Int)) (h5 : 0 ≤ x3) (h6 : x3 ≤ 120) (h7 : x0 ≤ x3) (h8 : x0 ≤ x1) (h9 : -2147483648 ≤ x0) (h10 : x0 ≤ 2147483647) (h11 : -2147483648 ≤ x1) (h12 : x1 ≤ 2147483647) (h13 : -2147483648 ≤ x3) (h14 : x3 ≤ 2147483647) : -2147483648 ≤ x0 + 1 := by omega
theorem o18_245 {x0 x1 x3 : Int} {x2 : Nat} (h0 : 0 ≤ x1) (h1 : x1 ≤ 120) (h2 : 0 ≤ x0) (h3 : x0 ≤ 121) (h4 : 121 - x0 < ((x2 + 1 : Nat) : Int)) (h5 : 0 ≤ x3) (h6 : x3 ≤ 120) (h7 : x0 ≤ x3) (h8 : x0 ≤ x1) (h9 : -2147483648 ≤ x0) (h10 : x0 ≤ 2147483647) (h11 : -2147483648 ≤ x1) (h12 : x1 ≤ 2147483647) (h13 : -2147483648 ≤ x3) (h14 : x3 ≤ 2147483647) : x0 + 1 ≤ 2147483647 := by omega
theorem o18_246 {x0 x2 x3 x4 : Int} {x1 : Nat} (h0 : 0 ≤ x2) (h1 : x2 ≤ 120) (h2 : 0 ≤ x3) (h3 : x3 ≤ 121) (h4 : 121 - x3 < ((x1 + 1 : Nat) : Int)) (h5 : 0 ≤ x4) (h6 : x4 ≤ 120) (h7 : x3 ≤ x4) (h8 : x3 ≤ x2) (h9 : x0 = x3 + 1) : 121 - x0 < (x1 : Int) := by omega
theorem o18_247 {x0 x1 x2 x4 : Int} {x3 : Nat} (h0 : 0 ≤ x1) (h1 : x1 ≤ 120) (h2 : 0 ≤ x2) (h3 : x2 ≤ 121) (h4 : 121 - x2 < ((x3 + 1 : Nat) : Int)) (h5 : 0 ≤ x4) (h6 : x4 ≤ 120) (h7 : x2 ≤ x4) (h8 : x2 ≤ x1) (h9 : x0 = x2 + 1) : 0 ≤ x0 := by omega
theorem o18_248 {x0 x1 x2 x4 : Int} {x3 : Nat} (h0 : 0 ≤ x1) (h1 : x1 ≤ 120) (h2 : 0 ≤ x2) (h3 : x2 ≤ 121) (h4 : 121 - x2 < ((x3 + 1 : Nat) : Int)) (h5 : 0 ≤ x4) (h6 : x4 ≤ 120) (h7 : x2 ≤ x4) (h8 : x2 ≤ x1) (h9 : x0 = x2 + 1) : x0 ≤ 121 := by omega
theorem o18_249 {x0 x1 x3 : Int} {x2 : Nat} (h0 : 0 ≤ x1) (h1 : x1 ≤ 120) (h2 : 0 ≤ x0) (h3 : x0 ≤ 121) (h4 : 121 - x0 < ((x2 + 1 : Nat) : Int)) (h5 : 0 ≤ x3) (h6 : x3 ≤ 120) (h7 : x0 ≤ x3) (h8 : x0 ≤ x1) : (-1) ≤ x0 := by omega
theorem o18_250 {x0 : Int} (h0 : 0 ≤ x0) (h1 : x0 ≤ 99) : 0 ≤ x0 := by omega
theorem o18_251 {x0 : Int} (h0 : 0 ≤ x0) (h1 : x0 ≤ 99) : x0 ≤ 99 := by omega
theorem o18_252 {x0 : Int} (h0 : 0 ≤ x0) (h1 : x0 ≤ 61) (h2 : 61 - x0 < 0) : False := by omega
theorem o18_253 {x0 : Int} (h0 : x0 = (-1)) : x0 ≤ 60 := by omega
theorem o18_254 {x0 x1 : Int} {x2 : Nat} (h0 : 0 ≤ x1) (h1 : x1 ≤ 60) (h2 : 0 ≤ x0) (h3 : x0 ≤ 61) (h4 : 61 - x0 < ((x2 + 1 : Nat) : Int)) (h5 : x0 ≤ x1) (h6 : x1 ≤ x0) (h7 : -2147483648 ≤ x0) (h8 : x0 ≤ 2147483647) (h9 : -2147483648 ≤ x1) (h10 : x1 ≤ 2147483647) : -2147483648 ≤ x0 + 1 := by omega
theorem o18_255 {x0 x1 : Int} {x2 : Nat} (h0 : 0 ≤ x1) (h1 : x1 ≤ 60) (h2 : 0 ≤ x0) (h3 : x0 ≤ 61) (h4 : 61 - x0 < ((x2 + 1 : Nat) : Int)) (h5 : x0 ≤ x1) (h6 : x1 ≤ x0) (h7 : -2147483648 ≤ x0) (h8 : x0 ≤ 2147483647) (h9 : -2147483648 ≤ x1) (h10 : x1 ≤ 2147483647) : x0 + 1 ≤ 2147483647 := by omega
theorem o18_256 {x0 x2 x3 : Int} {x1 : Nat} (h0 : 0 ≤ x2) (h1 : x2 ≤ 60) (h2 : 0 ≤ x3) (h3 : x3 ≤ 61) (h4 : 61 - x3 < ((x1 + 1 : Nat) : Int)) (h5 : x3 ≤ x2) (h6 : x2 ≤ x3) (h7 : x0 = x3 + 1) : 61 - x0 < (x1 : Int) := by omega
theorem o18_257 {x0 x1 x2 : Int} {x3 : Nat} (h0 : 0 ≤ x1) (h1 : x1 ≤ 60) (h2 : 0 ≤ x2) (h3 : x2 ≤ 61) (h4 : 61 - x2 < ((x3 + 1 : Nat) : Int)) (h5 : x2 ≤ x1) (h6 : x1 ≤ x2) (h7 : x0 = x2 + 1) : 0 ≤ x0 := by omega
theorem o18_258 {x0 x1 x2 : Int} {x3 : Nat} (h0 : 0 ≤ x1) (h1 : x1 ≤ 60) (h2 : 0 ≤ x2) (h3 : x2 ≤ 61) (h4 : 61 - x2 < ((x3 + 1 : Nat) : Int)) (h5 : x2 ≤ x1) (h6 : x1 ≤ x2) (h7 : x0 = x2 + 1) : x0 ≤ 61 := by omega
theorem o18_259 {x0 x1 : Int} {x2 : Nat} (h0 : 0 ≤ x1) (h1 : x1 ≤ 60) (h2 : 0 ≤ x0) (h3 : x0 ≤ 61) (h4 : 61 - x0 < ((x2 + 1 : Nat) : Int)) (h5 : x0 ≤ x1) (h6 : x0 < x1) : 0 ≤ x0 := by omega
theorem o18_260 {x0 x1 : Int} {x2 : Nat} (h0 : 0 ≤ x1) (h1 : x1 ≤ 60) (h2 : 0 ≤ x0) (h3 : x0 ≤ 61) (h4 : 61 - x0 < ((x2 + 1 : Nat) : Int)) (h5 : x0 ≤ x1) (h6 : x0 < x1) : x0 ≤ 239 := by omega
theorem o18_261 {x0 x1 : Int} {x2 : Nat} (h0 : 0 ≤ x1) (h1 : x1 ≤ 60) (h2 : 0 ≤ x0) (h3 : x0 ≤ 61) (h4 : 61 - x0 < ((x2 + 1 : Nat) : Int)) (h5 : x0 ≤ x1) (h6 : x0 < x1) (h7 : -2147483648 ≤ x0) (h8 : x0 ≤ 2147483647) (h9 : -2147483648 ≤ x1) (h10 : x1 ≤ 2147483647) : -2147483648 ≤ x0 + 1 := by omega
theorem o18_262 {x0 x1 : Int} {x2 : Nat} (h0 : 0 ≤ x1) (h1 : x1 ≤ 60) (h2 : 0 ≤ x0) (h3 : x0 ≤ 61) (h4 : 61 - x0 < ((x2 + 1 : Nat) : Int)) (h5 : x0 ≤ x1) (h6 : x0 < x1) (h7 : -2147483648 ≤ x0) (h8 : x0 ≤ 2147483647) (h9 : -2147483648 ≤ x1) (h10 : x1 ≤ 2147483647) : x0 + 1 ≤ 2147483647 := by omega
theorem o18_263 {x0 x2 x3 : Int} {x1 : Nat} (h0 : 0 ≤ x2) (h1 : x2 ≤ 60) (h2 : 0 ≤ x3) (h3 : x3 ≤ 61) (h4 : 61 - x3 < ((x1 + 1 : Nat) : Int)) (h5 : x3 ≤ x2) (h6 : x3 < x2) (h7 : x0 = x3 + 1) : 61 - x0 < (x1 : Int) := by omega
theorem o18_264 {x0 x1 x2 : Int} {x3 : Nat} (h0 : 0 ≤ x1) (h1 : x1 ≤ 60) (h2 : 0 ≤ x2) (h3 : x2 ≤ 61) (h4 : 61 - x2 < ((x3 + 1 : Nat) : Int)) (h5 : x2 ≤ x1) (h6 : x2 < x1) (h7 : x0 = x2 + 1) : 0 ≤ x0 := by omega
theorem o18_265 {x0 x1 x2 : Int} {x3 : Nat} (h0 : 0 ≤ x1) (h1 : x1 ≤ 60) (h2 : 0 ≤ x2) (h3 : x2 ≤ 61) (h4 : 61 - x2 < ((x3 + 1 : Nat) : Int)) (h5 : x2 ≤ x1) (h6 : x2 < x1) (h7 : x0 = x2 + 1) : x0 ≤ 61 := by omega
theorem o18_266 {x0 x1 : Int} {x2 : Nat} (h0 : 0 ≤ x1) (h1 : x1 ≤ 60) (h2 : 0 ≤ x0) (h3 : x0 ≤ 61) (h4 : 61 - x0 < ((x2 + 1 : Nat) : Int)) (h5 : x0 ≤ x1) : (-1) ≤ x0 := by omega
theorem o18_267 {x0 x1 : Int} {x2 : Nat} (h0 : 0 ≤ x1) (h1 : x1 ≤ 60) (h2 : 0 ≤ x0) (h3 : x0 ≤ 61) (h4 : 61 - x0 < ((x2 + 1 : Nat) : Int)) (h5 : x0 ≤ x1) : x0 ≤ 60 := by omega
theorem o18_268 {x0 : Int} (h0 : x0 = 0) : 61 - x0 < (((61 - x0 + 1).toNat : Nat) : Int) := by omega
theorem o18_269 {x0 : Int} (h0 : x0 = 0) : x0 ≤ 61 := by omega
theorem o18_270 {x0 : Int} (h0 : (-1) ≤ x0) (h1 : x0 ≤ 120) : (-1) ≤ x0 := by omega
theorem o18_271 {x0 : Int} (h0 : (-1) ≤ x0) (h1 : x0 ≤ 120) : x0 ≤ 120 := by omega
theorem o18_272 {x0 : Int} (h0 : (-1) ≤ x0) (h1 : x0 ≤ 120) (h2 : 0 ≤ x0) : 0 ≤ x0 := by omega
theorem o18_273 {x0 : Int} (h0 : (-1) ≤ x0) (h1 : x0 ≤ 120) (h2 : 0 ≤ x0) : x0 ≤ 120 := by omega
theorem o18_274 {x0 : Int} (h0 : (-1) ≤ x0) (h1 : x0 ≤ 120) (h2 : 0 ≤ x0) : (-1) ≤ x0 := by omega
theorem o18_275 {x0 : Int} (h0 : (-1) ≤ x0) (h1 : x0 ≤ 120) (h2 : 0 ≤ x0) (h3 : x0 < 0) : False := by omega
theorem o18_276 {x0 x1 x2 : Int} {x3 : Nat} (h0 : 0 ≤ x0) (h1 : x0 ≤ 180) (h2 : 0 ≤ x2) (h3 : x2 ≤ 60) (h4 : 0 ≤ x1) (h5 : x1 ≤ 61) (h6 : 61 - x1 < ((x3 + 1 : Nat) : Int)) (h7 : x1 ≤ x2) (h8 : x1 < x2) (h9 : -2147483648 ≤ x0) (h10 : x0 ≤ 2147483647) (h11 : -2147483648 ≤ x1) (h12 : x1 ≤ 2147483647) (h13 : -2147483648 ≤ x2) (h14 : x2 ≤ 2147483647) : -2147483648 ≤ x0 + x1 := by omega
theorem o18_277 {x0 x1 x2 : Int} {x3 : Nat} (h0 : 0 ≤ x0) (h1 : x0 ≤ 180) (h2 : 0 ≤ x2) (h3 : x2 ≤ 60) (h4 : 0 ≤ x1) (h5 : x1 ≤ 61) (h6 : 61 - x1 < ((x3 + 1 : Nat) : Int)) (h7 : x1 ≤ x2) (h8 : x1 < x2) (h9 : -2147483648 ≤ x0) (h10 : x0 ≤ 2147483647) (h11 : -2147483648 ≤ x1) (h12 : x1 ≤ 2147483647) (h13 : -2147483648 ≤ x2) (h14 : x2 ≤ 2147483647) : x0 + x1 ≤ 2147483647 := by omega
theorem o18_278 {x0 x1 x2 x3 : Int} {x4 : Nat} (h0 : 0 ≤ x1) (h1 : x1 ≤ 180) (h2 : 0 ≤ x2) (h3 : x2 ≤ 60) (h4 : 0 ≤ x3) (h5 : x3 ≤ 61) (h6 : 61 - x3 < ((x4 + 1 : Nat) : Int)) (h7 : x3 ≤ x2) (h8 : x3 < x2) (h9 : x0 = x1 + x3) : 0 ≤ x0 := by omega
theorem o18_279 {x0 x1 x2 x3 : Int} {x4 : Nat} (h0 : 0 ≤ x1) (h1 : x1 ≤ 180) (h2 : 0 ≤ x2) (h3 : x2 ≤ 60) (h4 : 0 ≤ x3) (h5 : x3 ≤ 61) (h6 : 61 - x3 < ((x4 + 1 : Nat) : Int)) (h7 : x3 ≤ x2) (h8 : x3 < x2) (h9 : x0 = x1 + x3) : x0 ≤ 239 := by omega
theorem o18_280 {x0 x1 x2 x4 : Int} {x3 : Nat} (h0 : 0 ≤ x1) (h1 : x1 ≤ 180) (h2 : 0 ≤ x2) (h3 : x2 ≤ 60) (h4 : 0 ≤ x0) (h5 : x0 ≤ 61) (h6 : 61 - x0 < ((x3 + 1 : Nat) : Int)) (h7 : x0 ≤ x2) (h8 : x0 < x2) (h9 : x4 = x1 + x0) (h10 : -2147483648 ≤ x0) (h11 : x0 ≤ 2147483647) (h12 : -2147483648 ≤ x1) (h13 : x1 ≤ 2147483647) (h14 : -2147483648 ≤ x2) (h15 : x2 ≤ 2147483647) (h16 : -2147483648 ≤ x4) (h17 : x4 ≤ 2147483647) : -2147483648 ≤ x0 + 1 := by omega
theorem o18_281 {x0 x1 x2 x4 : Int} {x3 : Nat} (h0 : 0 ≤ x1) (h1 : x1 ≤ 180) (h2 : 0 ≤ x2) (h3 : x2 ≤ 60) (h4 : 0 ≤ x0) (h5 : x0 ≤ 61) (h6 : 61 - x0 < ((x3 + 1 : Nat) : Int)) (h7 : x0 ≤ x2) (h8 : x0 < x2) (h9 : x4 = x1 + x0) (h10 : -2147483648 ≤ x0) (h11 : x0 ≤ 2147483647) (h12 : -2147483648 ≤ x1) (h13 : x1 ≤ 2147483647) (h14 : -2147483648 ≤ x2) (h15 : x2 ≤ 2147483647) (h16 : -2147483648 ≤ x4) (h17 : x4 ≤ 2147483647) : x0 + 1 ≤ 2147483647 := by omega
theorem o18_282 {x0 x2 x3 x4 x5 : Int} {x1 : Nat} (h0 : 0 ≤ x2) (h1 : x2 ≤ 180) (h2 : 0 ≤ x3) (h3 : x3 ≤ 60) (h4 : 0 ≤ x4) (h5 : x4 ≤ 61) (h6 : 61 - x4 < ((x1 + 1 : Nat) : Int)) (h7 : x4 ≤ x3) (h8 : x4 < x3) (h9 : x5 = x2 + x4) (h10 : x0 = x4 + 1) : 61 - x0 < (x1 : Int) := by omega
theorem o18_283 {x0 x1 x2 x3 x5 : Int} {x4 : Nat} (h0 : 0 ≤ x1) (h1 : x1 ≤ 180) (h2 : 0 ≤ x2) (h3 : x2 ≤ 60) (h4 : 0 ≤ x3) (h5 : x3 ≤ 61) (h6 : 61 - x3 < ((x4 + 1 : Nat) : Int)) (h7 : x3 ≤ x2) (h8 : x3 < x2) (h9 : x5 = x1 + x3) (h10 : x0 = x3 + 1) : 0 ≤ x0 := by omega
theorem o18_284 {x0 x1 x2 x3 x5 : Int} {x4 : Nat} (h0 : 0 ≤ x1) (h1 : x1 ≤ 180) (h2 : 0 ≤ x2) (h3 : x2 ≤ 60) (h4 : 0 ≤ x3) (h5 : x3 ≤ 61) (h6 : 61 - x3 < ((x4 + 1 : Nat) : Int)) (h7 : x3 ≤ x2) (h8 : x3 < x2) (h9 : x5 = x1 + x3) (h10 : x0 = x3 + 1) : x0 ≤ 61 := by omega
theorem o18_285 {x0 x1 : Int} {x2 : Nat} (h0 : 0 ≤ x1) (h1 : x1 ≤ 60) (h2 : 0 ≤ x0) (h3 : x0 ≤ 61) (h4 : 61 - x0 < ((x2 + 1 : Nat) : Int)) (h5 : x0 ≤ x1) : 0 ≤ x0 := by omega
theorem o18_286 {x0 x1 : Int} (h0 : (-1) ≤ x0) (h1 : x0 ≤ 120) (h2 : 0 ≤ x0) (h3 : x1 = 1) (h4 : -2147483648 ≤ x0) (h5 : x0 ≤ 2147483647) (h6 : -2147483648 ≤ x1) (h7 : x1 ≤ 2147483647) : -2147483648 ≤ x0 - x1 := by omega
theorem o18_287 {x0 x1 : Int} (h0 : (-1) ≤ x0) (h1 : x0 ≤ 120) (h2 : 0 ≤ x0) (h3 : x1 = 1) (h4 : -2147483648 ≤ x0) (h5 : x0 ≤ 2147483647) (h6 : -2147483648 ≤ x1) (h7 : x1 ≤ 2147483647) : x0 - x1 ≤ 2147483647 := by omega
theorem o18_288 {x0 x1 x2 : Int} (h0 : (-1) ≤ x1) (h1 : x1 ≤ 120) (h2 : 0 ≤ x1) (h3 : x2 = 1) (h4 : x0 = x1 - x2) : (-1) ≤ x0 := by omega
theorem o18_289 {x0 x1 x2 : Int} (h0 : (-1) ≤ x1) (h1 : x1 ≤ 120) (h2 : 0 ≤ x1) (h3 : x2 = 1) (h4 : x0 = x1 - x2) : x0 ≤ 120 := by omega
theorem o18_290 {x0 x1 x2 : Int} (h0 : (-1) ≤ x0) (h1 : x0 ≤ 120) (h2 : 0 ≤ x0) (h3 : x1 = 1) (h4 : x2 = x0 - x1) : (-1) ≤ x0 := by omega
theorem o18_291 {x0 x1 x2 : Int} (h0 : (-1) ≤ x0) (h1 : x0 ≤ 120) (h2 : 0 ≤ x0) (h3 : x1 = 1) (h4 : x2 = x0 - x1) : x0 ≤ 120 := by omega
theorem o18_292 {x0 x1 x2 : Int} (h0 : (-1) ≤ x1) (h1 : x1 ≤ 120) (h2 : 0 ≤ x1) (h3 : x2 = 1) (h4 : x0 = x1 - x2) (h5 : x0 < 0) : (-1) ≤ x0 := by omega
theorem o18_293 {x0 x1 x2 : Int} (h0 : (-1) ≤ x1) (h1 : x1 ≤ 120) (h2 : 0 ≤ x1) (h3 : x2 = 1) (h4 : x0 = x1 - x2) (h5 : x0 < 0) : x0 ≤ 120 := by omega
theorem o18_294 {x0 x1 x2 : Int} (h0 : (-1) ≤ x0) (h1 : x0 ≤ 120) (h2 : 0 ≤ x0) (h3 : x1 = 1) (h4 : x2 = x0 - x1) (h5 : x2 < 0) : (-1) ≤ x0 := by omega
theorem o18_295 {x0 x1 x2 : Int} (h0 : (-1) ≤ x0) (h1 : x0 ≤ 120) (h2 : 0 ≤ x0) (h3 : x1 = 1) (h4 : x2 = x0 - x1) (h5 : x2 < 0) : x0 ≤ 120 := by omega
theorem o18_296 {x0 x1 x2 : Int} (h0 : (-1) ≤ x1) (h1 : x1 ≤ 120) (h2 : 0 ≤ x1) (h3 : x2 = 1) (h4 : x0 = x1 - x2) (h5 : 0 ≤ x0) : 0 ≤ x0 := by omega
theorem o18_297 {x0 x1 x2 : Int} (h0 : (-1) ≤ x1) (h1 : x1 ≤ 120) (h2 : 0 ≤ x1) (h3 : x2 = 1) (h4 : x0 = x1 - x2) (h5 : 0 ≤ x0) : x0 ≤ 120 := by omega
theorem o18_298 {x0 x1 x2 : Int} (h0 : (-1) ≤ x1) (h1 : x1 ≤ 120) (h2 : 0 ≤ x1) (h3 : x2 = 1) (h4 : x0 = x1 - x2) (h5 : 0 ≤ x0) : (-1) ≤ x0 := by omega
theorem o18_299 {x0 x1 x2 : Int} (h0 : (-1) ≤ x0) (h1 : x0 ≤ 120) (h2 : 0 ≤ x0) (h3 : x1 = 1) (h4 : x2 = x0 - x1) (h5 : 0 ≤ x2) : (-1) ≤ x0 := by omega
theorem o18_300 {x0 x1 x2 : Int} (h0 : (-1) ≤ x0) (h1 : x0 ≤ 120) (h2 : 0 ≤ x0) (h3 : x1 = 1) (h4 : x2 = x0 - x1) (h5 : 0 ≤ x2) : x0 ≤ 120 := by omega
theorem o18_301 {x0 : Int} (h0 : x0 = 120) : (-1) ≤ x0 := by omega
theorem o18_302 {x0 : Int} (h0 : x0 = 120) : x0 ≤ 120 := by omega
theorem o18_303 {x0 : Int} (h0 : 0 ≤ x0) (h1 : x0 ≤ 60) : 0 ≤ x0 := by omega
theorem o18_304 {x0 : Int} (h0 : 0 ≤ x0) (h1 : x0 ≤ 60) : x0 ≤ 60 := by omega
theorem o18_305 {x0 x2 x3 : Int} {x1 : Nat} (h0 : 0 ≤ x0) (h1 : x0 ≤ 61) (h2 : 61 - x0 < ((x1 + 1 : Nat) : Int)) (h3 : x2 = 60) (h4 : x0 ≤ x2) (h5 : x3 = 60) (h6 : x3 ≤ x0) (h7 : -2147483648 ≤ x0) (h8 : x0 ≤ 2147483647) (h9 : -2147483648 ≤ x2) (h10 : x2 ≤ 2147483647) (h11 : -2147483648 ≤ x3) (h12 : x3 ≤ 2147483647) : -2147483648 ≤ x0 + 1 := by omega
theorem o18_306 {x0 x2 x3 : Int} {x1 : Nat} (h0 : 0 ≤ x0) (h1 : x0 ≤ 61) (h2 : 61 - x0 < ((x1 + 1 : Nat) : Int)) (h3 : x2 = 60) (h4 : x0 ≤ x2) (h5 : x3 = 60) (h6 : x3 ≤ x0) (h7 : -2147483648 ≤ x0) (h8 : x0 ≤ 2147483647) (h9 : -2147483648 ≤ x2) (h10 : x2 ≤ 2147483647) (h11 : -2147483648 ≤ x3) (h12 : x3 ≤ 2147483647) : x0 + 1 ≤ 2147483647 := by omega
theorem o18_307 {x0 x2 x3 x4 : Int} {x1 : Nat} (h0 : 0 ≤ x2) (h1 : x2 ≤ 61) (h2 : 61 - x2 < ((x1 + 1 : Nat) : Int)) (h3 : x3 = 60) (h4 : x2 ≤ x3) (h5 : x4 = 60) (h6 : x4 ≤ x2) (h7 : x0 = x2 + 1) : 61 - x0 < (x1 : Int) := by omega
theorem o18_308 {x0 x1 x3 x4 : Int} {x2 : Nat} (h0 : 0 ≤ x1) (h1 : x1 ≤ 61) (h2 : 61 - x1 < ((x2 + 1 : Nat) : Int)) (h3 : x3 = 60) (h4 : x1 ≤ x3) (h5 : x4 = 60) (h6 : x4 ≤ x1) (h7 : x0 = x1 + 1) : 0 ≤ x0 := by omega
theorem o18_309 {x0 x1 x3 x4 : Int} {x2 : Nat} (h0 : 0 ≤ x1) (h1 : x1 ≤ 61) (h2 : 61 - x1 < ((x2 + 1 : Nat) : Int)) (h3 : x3 = 60) (h4 : x1 ≤ x3) (h5 : x4 = 60) (h6 : x4 ≤ x1) (h7 : x0 = x1 + 1) : x0 ≤ 61 := by omega
theorem o18_310 {x0 x2 x3 : Int} {x1 : Nat} (h0 : 0 ≤ x0) (h1 : x0 ≤ 61) (h2 : 61 - x0 < ((x1 + 1 : Nat) : Int)) (h3 : x2 = 60) (h4 : x0 ≤ x2) (h5 : x3 = 60) (h6 : x0 < x3) : 0 ≤ x0 := by omega
theorem o18_311 {x0 x2 x3 : Int} {x1 : Nat} (h0 : 0 ≤ x0) (h1 : x0 ≤ 61) (h2 : 61 - x0 < ((x1 + 1 : Nat) : Int)) (h3 : x2 = 60) (h4 : x0 ≤ x2) (h5 : x3 = 60) (h6 : x0 < x3) : x0 ≤ 239 := by omega
theorem o18_312 {x0 x2 x3 : Int} {x1 : Nat} (h0 : 0 ≤ x0) (h1 : x0 ≤ 61) (h2 : 61 - x0 < ((x1 + 1 : Nat) : Int)) (h3 : x2 = 60) (h4 : x0 ≤ x2) (h5 : x3 = 60) (h6 : x0 < x3) (h7 : -2147483648 ≤ x0) (h8 : x0 ≤ 2147483647) (h9 : -2147483648 ≤ x2) (h10 : x2 ≤ 2147483647) (h11 : -2147483648 ≤ x3) (h12 : x3 ≤ 2147483647) : -2147483648 ≤ x0 + 1 := by omega
theorem o18_313 {x0 x2 x3 : Int} {x1 : Nat} (h0 : 0 ≤ x0) (h1 : x0 ≤ 61) (h2 : 61 - x0 < ((x1 + 1 : Nat) : Int)) (h3 : x2 = 60) (h4 : x0 ≤ x2) (h5 : x3 = 60) (h6 : x0 < x3) (h7 : -2147483648 ≤ x0) (h8 : x0 ≤ 2147483647) (h9 : -2147483648 ≤ x2) (h10 : x2 ≤ 2147483647) (h11 : -2147483648 ≤ x3) (h12 : x3 ≤ 2147483647) : x0 + 1 ≤ 2147483647 := by omega
theorem o18_314 {x0 x2 x3 x4 : Int} {x1 : Nat} (h0 : 0 ≤ x2) (h1 : x2 ≤ 61) (h2 : 61 - x2 < ((x1 + 1 : Nat) : Int)) (h3 : x3 = 60) (h4 : x2 ≤ x3) (h5 : x4 = 60) (h6 : x2 < x4) (h7 : x0 = x2 + 1) : 61 - x0 < (x1 : Int) := by omega
theorem o18_315 {x0 x1 x3 x4 : Int} {x2 : Nat} (h0 : 0 ≤ x1) (h1 : x1 ≤ 61) (h2 : 61 - x1 < ((x2 + 1 : Nat) : Int)) (h3 : x3 = 60) (h4 : x1 ≤ x3) (h5 : x4 = 60) (h6 : x1 < x4) (h7 : x0 = x1 + 1) : 0 ≤ x0 := by omega
theorem o18_316 {x0 x1 x3 x4 : Int} {x2 : Nat} (h0 : 0 ≤ x1) (h1 : x1 ≤ 61) (h2 : 61 - x1 < ((x2 + 1 : Nat) : Int)) (h3 : x3 = 60) (h4 : x1 ≤ x3) (h5 : x4 = 60) (h6 : x1 < x4) (h7 : x0 = x1 + 1) : x0 ≤ 61 := by omega
theorem o18_317 {x0 x2 : Int} {x1 : Nat} (h0 : 0 ≤ x0) (h1 : x0 ≤ 121) (h2 : 121 - x0 < ((x1 + 1 : Nat) : Int)) (h3 : 0 ≤ x2) (h4 : x2 ≤ 120) (h5 : x0 ≤ x2) : 0 ≤ x0 := by omega
theorem o18_318 {x0 x2 : Int} {x1 : Nat} (h0 : 0 ≤ x0) (h1 : x0 ≤ 121) (h2 : 121 - x0 < ((x1 + 1 : Nat) : Int)) (h3 : 0 ≤ x2) (h4 : x2 ≤ 120) (h5 : x0 ≤ x2) : x0 < (121 : Nat) := by omega
theorem o18_319 {x0 x2 : Int} {x1 : Nat} (h0 : 0 ≤ x0) (h1 : x0 ≤ 121) (h2 : 121 - x0 < ((x1 + 1 : Nat) : Int)) (h3 : 0 ≤ x2) (h4 : x2 ≤ 120) (h5 : x0 ≤ x2) : x0 ≤ 120 := by omega
theorem o18_320 {x0 x2 : Int} {x1 : Nat} (h0 : 0 ≤ x0) (h1 : x0 ≤ 121) (h2 : 121 - x0 < ((x1 + 1 : Nat) : Int)) (h3 : 0 ≤ x2) (h4 : x2 ≤ 120) (h5 : x0 ≤ x2) (h6 : -2147483648 ≤ x0) (h7 : x0 ≤ 2147483647) (h8 : -2147483648 ≤ x2) (h9 : x2 ≤ 2147483647) : -2147483648 ≤ x0 + 1 := by omega
theorem o18_321 {x0 x2 : Int} {x1 : Nat} (h0 : 0 ≤ x0) (h1 : x0 ≤ 121) (h2 : 121 - x0 < ((x1 + 1 : Nat) : Int)) (h3 : 0 ≤ x2) (h4 : x2 ≤ 120) (h5 : x0 ≤ x2) (h6 : -2147483648 ≤ x0) (h7 : x0 ≤ 2147483647) (h8 : -2147483648 ≤ x2) (h9 : x2 ≤ 2147483647) : x0 + 1 ≤ 2147483647 := by omega
theorem o18_322 {x0 x2 x3 : Int} {x1 : Nat} (h0 : 0 ≤ x2) (h1 : x2 ≤ 121) (h2 : 121 - x2 < ((x1 + 1 : Nat) : Int)) (h3 : 0 ≤ x3) (h4 : x3 ≤ 120) (h5 : x2 ≤ x3) (h6 : x0 = x2 + 1) : 121 - x0 < (x1 : Int) := by omega
theorem o18_323 {x0 x1 x3 : Int} {x2 : Nat} (h0 : 0 ≤ x1) (h1 : x1 ≤ 121) (h2 : 121 - x1 < ((x2 + 1 : Nat) : Int)) (h3 : 0 ≤ x3) (h4 : x3 ≤ 120) (h5 : x1 ≤ x3) (h6 : x0 = x1 + 1) : 0 ≤ x0 := by omega
theorem o18_324 {x0 x1 x3 : Int} {x2 : Nat} (h0 : 0 ≤ x1) (h1 : x1 ≤ 121) (h2 : 121 - x1 < ((x2 + 1 : Nat) : Int)) (h3 : 0 ≤ x3) (h4 : x3 ≤ 120) (h5 : x1 ≤ x3) (h6 : x0 = x1 + 1) : x0 ≤ 121 := by omega
theorem o18_325 {x0 x1 : Int} {x2 : Nat} (h0 : 0 ≤ x1) (h1 : x1 ≤ 120) (h2 : 0 ≤ x0) (h3 : x0 ≤ 121) (h4 : 121 - x0 < ((x2 + 1 : Nat) : Int)) (h5 : x0 ≤ x1) : 0 ≤ x0 := by omega
theorem o18_326 {x0 x1 : Int} {x2 : Nat} (h0 : 0 ≤ x1) (h1 : x1 ≤ 120) (h2 : 0 ≤ x0) (h3 : x0 ≤ 121) (h4 : 121 - x0 < ((x2 + 1 : Nat) : Int)) (h5 : x0 ≤ x1) : x0 < (121 : Nat) := by omega
theorem o18_327 {x0 x1 : Int} {x2 : Nat} (h0 : 0 ≤ x1) (h1 : x1 ≤ 120) (h2 : 0 ≤ x0) (h3 : x0 ≤ 121) (h4 : 121 - x0 < ((x2 + 1 : Nat) : Int)) (h5 : x0 ≤ x1) (h6 : -2147483648 ≤ x0) (h7 : x0 ≤ 2147483647) (h8 : -2147483648 ≤ x1) (h9 : x1 ≤ 2147483647) : -2147483648 ≤ x0 + 1 := by omega
theorem o18_328 {x0 x1 : Int} {x2 : Nat} (h0 : 0 ≤ x1) (h1 : x1 ≤ 120) (h2 : 0 ≤ x0) (h3 : x0 ≤ 121) (h4 : 121 - x0 < ((x2 + 1 : Nat) : Int)) (h5 : x0 ≤ x1) (h6 : -2147483648 ≤ x0) (h7 : x0 ≤ 2147483647) (h8 : -2147483648 ≤ x1) (h9 : x1 ≤ 2147483647) : x0 + 1 ≤ 2147483647 := by omega
theorem o18_329 {x0 x2 x3 : Int} {x1 : Nat} (h0 : 0 ≤ x2) (h1 : x2 ≤ 120) (h2 : 0 ≤ x3) (h3 : x3 ≤ 121) (h4 : 121 - x3 < ((x1 + 1 : Nat) : Int)) (h5 : x3 ≤ x2) (h6 : x0 = x3 + 1) : 121 - x0 < (x1 : Int) := by omega
theorem o18_330 {x0 x1 x2 : Int} {x3 : Nat} (h0 : 0 ≤ x1) (h1 : x1 ≤ 120) (h2 : 0 ≤ x2) (h3 : x2 ≤ 121) (h4 : 121 - x2 < ((x3 + 1 : Nat) : Int)) (h5 : x2 ≤ x1) (h6 : x0 = x2 + 1) : 0 ≤ x0 := by omega
theorem o18_331 {x0 x1 x2 : Int} {x3 : Nat} (h0 : 0 ≤ x1) (h1 : x1 ≤ 120) (h2 : 0 ≤ x2) (h3 : x2 ≤ 121) (h4 : 121 - x2 < ((x3 + 1 : Nat) : Int)) (h5 : x2 ≤ x1) (h6 : x0 = x2 + 1) : x0 ≤ 121 := by omega
theorem o18_332 {x0 : Int} (h0 : x0 = 120) : 0 ≤ x0 := by omega
theorem o18_333 {x0 x2 : Int} {x1 : Nat} (h0 : 0 ≤ x0) (h1 : x0 ≤ 121) (h2 : 121 - x0 < ((x1 + 1 : Nat) : Int)) (h3 : x2 = 120) (h4 : x0 ≤ x2) : 0 ≤ x0 := by omega
theorem o18_334 {x0 x2 : Int} {x1 : Nat} (h0 : 0 ≤ x0) (h1 : x0 ≤ 121) (h2 : 121 - x0 < ((x1 + 1 : Nat) : Int)) (h3 : x2 = 120) (h4 : x0 ≤ x2) : x0 < (121 : Nat) := by omega
theorem o18_335 {x0 x2 : Int} {x1 : Nat} (h0 : 0 ≤ x0) (h1 : x0 ≤ 121) (h2 : 121 - x0 < ((x1 + 1 : Nat) : Int)) (h3 : x2 = 120) (h4 : x0 ≤ x2) (h5 : -2147483648 ≤ x0) (h6 : x0 ≤ 2147483647) (h7 : -2147483648 ≤ x2) (h8 : x2 ≤ 2147483647) : -2147483648 ≤ x0 + 1 := by omega
theorem o18_336 {x0 x2 : Int} {x1 : Nat} (h0 : 0 ≤ x0) (h1 : x0 ≤ 121) (h2 : 121 - x0 < ((x1 + 1 : Nat) : Int)) (h3 : x2 = 120) (h4 : x0 ≤ x2) (h5 : -2147483648 ≤ x0) (h6 : x0 ≤ 2147483647) (h7 : -2147483648 ≤ x2) (h8 : x2 ≤ 2147483647) : x0 + 1 ≤ 2147483647 := by omega
theorem o18_337 {x0 x2 x3 : Int} {x1 : Nat} (h0 : 0 ≤ x2) (h1 : x2 ≤ 121) (h2 : 121 - x2 < ((x1 + 1 : Nat) : Int)) (h3 : x3 = 120) (h4 : x2 ≤ x3) (h5 : x0 = x2 + 1) : 121 - x0 < (x1 : Int) := by omega
theorem o18_338 {x0 x1 x3 : Int} {x2 : Nat} (h0 : 0 ≤ x1) (h1 : x1 ≤ 121) (h2 : 121 - x1 < ((x2 + 1 : Nat) : Int)) (h3 : x3 = 120) (h4 : x1 ≤ x3) (h5 : x0 = x1 + 1) : 0 ≤ x0 := by omega
theorem o18_339 {x0 x1 x3 : Int} {x2 : Nat} (h0 : 0 ≤ x1) (h1 : x1 ≤ 121) (h2 : 121 - x1 < ((x2 + 1 : Nat) : Int)) (h3 : x3 = 120) (h4 : x1 ≤ x3) (h5 : x0 = x1 + 1) : x0 ≤ 121 := by omega
theorem o18_340 {x0 x2 x3 : Int} {x1 : Nat} (h0 : 0 ≤ x0) (h1 : x0 ≤ 121) (h2 : 121 - x0 < ((x1 + 1 : Nat) : Int)) (h3 : x2 = 120) (h4 : x0 ≤ x2) (h5 : x3 = x0 + 1) : 0 ≤ x0 := by omega
theorem o18_341 {x0 x2 x3 : Int} {x1 : Nat} (h0 : 0 ≤ x0) (h1 : x0 ≤ 121) (h2 : 121 - x0 < ((x1 + 1 : Nat) : Int)) (h3 : x2 = 120) (h4 : x0 ≤ x2) (h5 : x3 = x0 + 1) : x0 ≤ 120 := by omega
theorem o18_342 {x0 x1 x2 : Int} (h0 : 0 ≤ x0) (h1 : x0 ≤ 99) (h2 : x2 = x0 / 4) (h3 : x1 = 3) (h4 : -2147483648 ≤ x0) (h5 : x0 ≤ 2147483647) (h6 : -2147483648 ≤ x1) (h7 : x1 ≤ 2147483647) (h8 : -2147483648 ≤ x2) (h9 : x2 ≤ 2147483647) : -2147483648 ≤ x0 + x1 := by omega
theorem o18_343 {x0 x1 x2 : Int} (h0 : 0 ≤ x0) (h1 : x0 ≤ 99) (h2 : x2 = x0 / 4) (h3 : x1 = 3) (h4 : -2147483648 ≤ x0) (h5 : x0 ≤ 2147483647) (h6 : -2147483648 ≤ x1) (h7 : x1 ≤ 2147483647) (h8 : -2147483648 ≤ x2) (h9 : x2 ≤ 2147483647) : x0 + x1 ≤ 2147483647 := by omega
theorem o18_344 {x0 x1 x2 x3 : Int} (h0 : 0 ≤ x1) (h1 : x1 ≤ 99) (h2 : x0 = x1 / 4) (h3 : x2 = 3) (h4 : x3 = x1 + x2) : 0 ≤ x0 := by omega
theorem o18_345 {x0 x1 x2 x3 : Int} (h0 : 0 ≤ x1) (h1 : x1 ≤ 99) (h2 : x0 = x1 / 4) (h3 : x2 = 3) (h4 : x3 = x1 + x2) : x0 ≤ 24 := by omega
theorem o18_346 {x0 x1 x2 x3 : Int} (h0 : 0 ≤ x0) (h1 : x0 ≤ 99) (h2 : x1 = x0 / 4) (h3 : x2 = 3) (h4 : x3 = x0 + x2) : 0 ≤ x0 := by omega
theorem o18_347 {x0 x1 x2 x3 : Int} (h0 : 0 ≤ x0) (h1 : x0 ≤ 99) (h2 : x1 = x0 / 4) (h3 : x2 = 3) (h4 : x3 = x0 + x2) : x0 ≤ 99 := by omega
theorem o18_348 {x0 : Int} (h0 : 1 ≤ x0) (h1 : x0 ≤ 61) (h2 : 61 - x0 < 0) : False := by omega
theorem o18_349 {x0 : Int} (h0 : x0 = 0) : x0 ≤ 480 := by omega
theorem o18_350 {x0 x2 : Int} {x1 : Nat} (h0 : 1 ≤ x0) (h1 : x0 ≤ 61) (h2 : 61 - x0 < ((x1 + 1 : Nat) : Int)) (h3 : x2 = 60) (h4 : x0 ≤ x2) (h5 : -2147483648 ≤ x0) (h6 : x0 ≤ 2147483647) (h7 : -2147483648 ≤ x2) (h8 : x2 ≤ 2147483647) : -2147483648 ≤ x0 + 1 := by omega
theorem o18_351 {x0 x2 : Int} {x1 : Nat} (h0 : 1 ≤ x0) (h1 : x0 ≤ 61) (h2 : 61 - x0 < ((x1 + 1 : Nat) : Int)) (h3 : x2 = 60) (h4 : x0 ≤ x2) (h5 : -2147483648 ≤ x0) (h6 : x0 ≤ 2147483647) (h7 : -2147483648 ≤ x2) (h8 : x2 ≤ 2147483647) : x0 + 1 ≤ 2147483647 := by omega
theorem o18_352 {x0 x2 x3 : Int} {x1 : Nat} (h0 : 1 ≤ x2) (h1 : x2 ≤ 61) (h2 : 61 - x2 < ((x1 + 1 : Nat) : Int)) (h3 : x3 = 60) (h4 : x2 ≤ x3) (h5 : x0 = x2 + 1) : 61 - x0 < (x1 : Int) := by omega
theorem o18_353 {x0 x1 x3 : Int} {x2 : Nat} (h0 : 1 ≤ x1) (h1 : x1 ≤ 61) (h2 : 61 - x1 < ((x2 + 1 : Nat) : Int)) (h3 : x3 = 60) (h4 : x1 ≤ x3) (h5 : x0 = x1 + 1) : 1 ≤ x0 := by omega
theorem o18_354 {x0 x1 x3 : Int} {x2 : Nat} (h0 : 1 ≤ x1) (h1 : x1 ≤ 61) (h2 : 61 - x1 < ((x2 + 1 : Nat) : Int)) (h3 : x3 = 60) (h4 : x1 ≤ x3) (h5 : x0 = x1 + 1) : x0 ≤ 61 := by omega
theorem o18_355 {x0 x2 : Int} {x1 : Nat} (h0 : 1 ≤ x0) (h1 : x0 ≤ 61) (h2 : 61 - x0 < ((x1 + 1 : Nat) : Int)) (h3 : x2 = 60) (h4 : x0 ≤ x2) : (-1) ≤ x0 := by omega
theorem o18_356 {x0 x2 : Int} {x1 : Nat} (h0 : 1 ≤ x0) (h1 : x0 ≤ 61) (h2 : 61 - x0 < ((x1 + 1 : Nat) : Int)) (h3 : x2 = 60) (h4 : x0 ≤ x2) : x0 ≤ 60 := by omega
theorem o18_357 {x0 : Int} (h0 : x0 = 1) : 61 - x0 < (((61 - x0 + 1).toNat : Nat) : Int) := by omega
theorem o18_358 {x0 : Int} (h0 : x0 = 1) : 1 ≤ x0 := by omega
theorem o18_359 {x0 : Int} (h0 : x0 = 1) : x0 ≤ 61 := by omega
theorem o18_360 {x0 : Int} (h0 : 0 ≤ x0) (h1 : x0 ≤ 30) : 0 ≤ x0 := by omega
theorem o18_361 {x0 : Int} (h0 : 0 ≤ x0) (h1 : x0 ≤ 30) : x0 ≤ 60 := by omega
theorem o18_362 {x0 : Int} (h0 : 1 ≤ x0) (h1 : x0 ≤ 25) (h2 : 25 - x0 < 0) : False := by omega
theorem o18_363 {x0 : Int} (h0 : 0 ≤ x0) (h1 : x0 ≤ 24) (h2 : 24 - x0 < 0) : False := by omega
theorem o18_364 {x0 x1 x2 x5 : Int} {x3 x4 x6 : Nat} (h0 : 0 ≤ x1) (h1 : x1 ≤ 25) (h2 : 0 ≤ x2) (h3 : x2 ≤ 25) (h4 : 25 - x2 < ((x3 + 1 : Nat) : Int)) (h5 : x1 ≤ x2) (h6 : 1 ≤ x0) (h7 : x0 ≤ 25) (h8 : 25 - x0 < ((x4 + 1 : Nat) : Int)) (h9 : x0 < x1) (h10 : 0 ≤ x5) (h11 : x5 ≤ 24) (h12 : 24 - x5 < ((x6 + 1 : Nat) : Int)) (h13 : x0 ≤ x5) (h14 : -2147483648 ≤ x0) (h15 : x0 ≤ 2147483647) (h16 : -2147483648 ≤ x1) (h17 : x1 ≤ 2147483647) (h18 : -2147483648 ≤ x2) (h19 : x2 ≤ 2147483647) (h20 : -2147483648 ≤ x5) (h21 : x5 ≤ 2147483647) : -2147483648 ≤ x0 + 1 := by omega
theorem o18_365 {x0 x1 x2 x5 : Int} {x3 x4 x6 : Nat} (h0 : 0 ≤ x1) (h1 : x1 ≤ 25) (h2 : 0 ≤ x2) (h3 : x2 ≤ 25) (h4 : 25 - x2 < ((x3 + 1 : Nat) : Int)) (h5 : x1 ≤ x2) (h6 : 1 ≤ x0) (h7 : x0 ≤ 25) (h8 : 25 - x0 < ((x4 + 1 : Nat) : Int)) (h9 : x0 < x1) (h10 : 0 ≤ x5) (h11 : x5 ≤ 24) (h12 : 24 - x5 < ((x6 + 1 : Nat) : Int)) (h13 : x0 ≤ x5) (h14 : -2147483648 ≤ x0) (h15 : x0 ≤ 2147483647) (h16 : -2147483648 ≤ x1) (h17 : x1 ≤ 2147483647) (h18 : -2147483648 ≤ x2) (h19 : x2 ≤ 2147483647) (h20 : -2147483648 ≤ x5) (h21 : x5 ≤ 2147483647) : x0 + 1 ≤ 2147483647 := by omega
theorem o18_366 {x0 x2 x3 x5 x6 : Int} {x1 x4 x7 : Nat} (h0 : 0 ≤ x2) (h1 : x2 ≤ 25) (h2 : 0 ≤ x3) (h3 : x3 ≤ 25) (h4 : 25 - x3 < ((x4 + 1 : Nat) : Int)) (h5 : x2 ≤ x3) (h6 : 1 ≤ x5) (h7 : x5 ≤ 25) (h8 : 25 - x5 < ((x1 + 1 : Nat) : Int)) (h9 : x5 < x2) (h10 : 0 ≤ x6) (h11 : x6 ≤ 24) (h12 : 24 - x6 < ((x7 + 1 : Nat) : Int)) (h13 : x5 ≤ x6) (h14 : x0 = x5 + 1) : 25 - x0 < (x1 : Int) := by omega
theorem o18_367 {x0 x1 x2 x4 x6 : Int} {x3 x5 x7 : Nat} (h0 : 0 ≤ x1) (h1 : x1 ≤ 25) (h2 : 0 ≤ x2) (h3 : x2 ≤ 25) (h4 : 25 - x2 < ((x3 + 1 : Nat) : Int)) (h5 : x1 ≤ x2) (h6 : 1 ≤ x4) (h7 : x4 ≤ 25) (h8 : 25 - x4 < ((x5 + 1 : Nat) : Int)) (h9 : x4 < x1) (h10 : 0 ≤ x6) (h11 : x6 ≤ 24) (h12 : 24 - x6 < ((x7 + 1 : Nat) : Int)) (h13 : x4 ≤ x6) (h14 : x0 = x4 + 1) : 1 ≤ x0 := by omega
theorem o18_368 {x0 x1 x2 x4 x6 : Int} {x3 x5 x7 : Nat} (h0 : 0 ≤ x1) (h1 : x1 ≤ 25) (h2 : 0 ≤ x2) (h3 : x2 ≤ 25) (h4 : 25 - x2 < ((x3 + 1 : Nat) : Int)) (h5 : x1 ≤ x2) (h6 : 1 ≤ x4) (h7 : x4 ≤ 25) (h8 : 25 - x4 < ((x5 + 1 : Nat) : Int)) (h9 : x4 < x1) (h10 : 0 ≤ x6) (h11 : x6 ≤ 24) (h12 : 24 - x6 < ((x7 + 1 : Nat) : Int)) (h13 : x4 ≤ x6) (h14 : x0 = x4 + 1) : x0 ≤ 25 := by omega
theorem o18_369 {x0 x1 x2 x4 : Int} {x3 x5 x6 : Nat} (h0 : 0 ≤ x1) (h1 : x1 ≤ 25) (h2 : 0 ≤ x2) (h3 : x2 ≤ 25) (h4 : 25 - x2 < ((x3 + 1 : Nat) : Int)) (h5 : x1 ≤ x2) (h6 : 1 ≤ x4) (h7 : x4 ≤ 25) (h8 : 25 - x4 < ((x5 + 1 : Nat) : Int)) (h9 : x4 < x1) (h10 : 0 ≤ x0) (h11 : x0 ≤ 24) (h12 : 24 - x0 < ((x6 + 1 : Nat) : Int)) (h13 : x0 < x4) (h14 : -2147483648 ≤ x0) (h15 : x0 ≤ 2147483647) (h16 : -2147483648 ≤ x1) (h17 : x1 ≤ 2147483647) (h18 : -2147483648 ≤ x2) (h19 : x2 ≤ 2147483647) (h20 : -2147483648 ≤ x4) (h21 : x4 ≤ 2147483647) : -2147483648 ≤ x0 + 1 := by omega
theorem o18_370 {x0 x1 x2 x4 : Int} {x3 x5 x6 : Nat} (h0 : 0 ≤ x1) (h1 : x1 ≤ 25) (h2 : 0 ≤ x2) (h3 : x2 ≤ 25) (h4 : 25 - x2 < ((x3 + 1 : Nat) : Int)) (h5 : x1 ≤ x2) (h6 : 1 ≤ x4) (h7 : x4 ≤ 25) (h8 : 25 - x4 < ((x5 + 1 : Nat) : Int)) (h9 : x4 < x1) (h10 : 0 ≤ x0) (h11 : x0 ≤ 24) (h12 : 24 - x0 < ((x6 + 1 : Nat) : Int)) (h13 : x0 < x4) (h14 : -2147483648 ≤ x0) (h15 : x0 ≤ 2147483647) (h16 : -2147483648 ≤ x1) (h17 : x1 ≤ 2147483647) (h18 : -2147483648 ≤ x2) (h19 : x2 ≤ 2147483647) (h20 : -2147483648 ≤ x4) (h21 : x4 ≤ 2147483647) : x0 + 1 ≤ 2147483647 := by omega
theorem o18_371 {x0 x2 x3 x5 x7 : Int} {x1 x4 x6 : Nat} (h0 : 0 ≤ x2) (h1 : x2 ≤ 25) (h2 : 0 ≤ x3) (h3 : x3 ≤ 25) (h4 : 25 - x3 < ((x4 + 1 : Nat) : Int)) (h5 : x2 ≤ x3) (h6 : 1 ≤ x5) (h7 : x5 ≤ 25) (h8 : 25 - x5 < ((x6 + 1 : Nat) : Int)) (h9 : x5 < x2) (h10 : 0 ≤ x7) (h11 : x7 ≤ 24) (h12 : 24 - x7 < ((x1 + 1 : Nat) : Int)) (h13 : x7 < x5) (h14 : x0 = x7 + 1) : 24 - x0 < (x1 : Int) := by omega
theorem o18_372 {x0 x1 x2 x4 x6 : Int} {x3 x5 x7 : Nat} (h0 : 0 ≤ x1) (h1 : x1 ≤ 25) (h2 : 0 ≤ x2) (h3 : x2 ≤ 25) (h4 : 25 - x2 < ((x3 + 1 : Nat) : Int)) (h5 : x1 ≤ x2) (h6 : 1 ≤ x4) (h7 : x4 ≤ 25) (h8 : 25 - x4 < ((x5 + 1 : Nat) : Int)) (h9 : x4 < x1) (h10 : 0 ≤ x6) (h11 : x6 ≤ 24) (h12 : 24 - x6 < ((x7 + 1 : Nat) : Int)) (h13 : x6 < x4) (h14 : x0 = x6 + 1) : 0 ≤ x0 := by omega
theorem o18_373 {x0 x1 x2 x4 x6 : Int} {x3 x5 x7 : Nat} (h0 : 0 ≤ x1) (h1 : x1 ≤ 25) (h2 : 0 ≤ x2) (h3 : x2 ≤ 25) (h4 : 25 - x2 < ((x3 + 1 : Nat) : Int)) (h5 : x1 ≤ x2) (h6 : 1 ≤ x4) (h7 : x4 ≤ 25) (h8 : 25 - x4 < ((x5 + 1 : Nat) : Int)) (h9 : x4 < x1) (h10 : 0 ≤ x6) (h11 : x6 ≤ 24) (h12 : 24 - x6 < ((x7 + 1 : Nat) : Int)) (h13 : x6 < x4) (h14 : x0 = x6 + 1) : x0 ≤ 24 := by omega
theorem o18_374 {x0 : Int} (h0 : x0 = 0) : 24 - x0 < (((24 - x0 + 1).toNat : Nat) : Int) := by omega
theorem o18_375 {x0 : Int} (h0 : x0 = 0) : x0 ≤ 24 := by omega
theorem o18_376 {x0 : Int} (h0 : x0 = 1) : 25 - x0 < (((25 - x0 + 1).toNat : Nat) : Int) := by omega
theorem o18_377 {x0 : Int} (h0 : x0 = 1) : x0 ≤ 25 := by omega
theorem o18_378 {x0 x1 : Int} {x2 : Nat} (h0 : 0 ≤ x1) (h1 : x1 ≤ 25) (h2 : 0 ≤ x0) (h3 : x0 ≤ 25) (h4 : 25 - x0 < ((x2 + 1 : Nat) : Int)) (h5 : x0 < x1) (h6 : -2147483648 ≤ x0) (h7 : x0 ≤ 2147483647) (h8 : -2147483648 ≤ x1) (h9 : x1 ≤ 2147483647) : -2147483648 ≤ x0 + 1 := by omega
theorem o18_379 {x0 x1 : Int} {x2 : Nat} (h0 : 0 ≤ x1) (h1 : x1 ≤ 25) (h2 : 0 ≤ x0) (h3 : x0 ≤ 25) (h4 : 25 - x0 < ((x2 + 1 : Nat) : Int)) (h5 : x0 < x1) (h6 : -2147483648 ≤ x0) (h7 : x0 ≤ 2147483647) (h8 : -2147483648 ≤ x1) (h9 : x1 ≤ 2147483647) : x0 + 1 ≤ 2147483647 := by omega
theorem o18_380 {x0 x2 x3 : Int} {x1 : Nat} (h0 : 0 ≤ x2) (h1 : x2 ≤ 25) (h2 : 0 ≤ x3) (h3 : x3 ≤ 25) (h4 : 25 - x3 < ((x1 + 1 : Nat) : Int)) (h5 : x3 < x2) (h6 : x0 = x3 + 1) : 25 - x0 < (x1 : Int) := by omega
theorem o18_381 {x0 x1 x2 : Int} {x3 : Nat} (h0 : 0 ≤ x1) (h1 : x1 ≤ 25) (h2 : 0 ≤ x2) (h3 : x2 ≤ 25) (h4 : 25 - x2 < ((x3 + 1 : Nat) : Int)) (h5 : x2 < x1) (h6 : x0 = x2 + 1) : 0 ≤ x0 := by omega
theorem o18_382 {x0 x1 x2 : Int} {x3 : Nat} (h0 : 0 ≤ x1) (h1 : x1 ≤ 25) (h2 : 0 ≤ x2) (h3 : x2 ≤ 25) (h4 : 25 - x2 < ((x3 + 1 : Nat) : Int)) (h5 : x2 < x1) (h6 : x0 = x2 + 1) : x0 ≤ 25 := by omega
theorem o18_383 {x0 : Int} (h0 : 0 ≤ x0) (h1 : x0 ≤ 10) (h2 : -2147483648 ≤ x0) (h3 : x0 ≤ 2147483647) : -2147483648 ≤ 4 * x0 := by omega
theorem o18_384 {x0 : Int} (h0 : 0 ≤ x0) (h1 : x0 ≤ 10) (h2 : -2147483648 ≤ x0) (h3 : x0 ≤ 2147483647) : 4 * x0 ≤ 2147483647 := by omega
theorem o18_385 {x0 x1 : Int} (h0 : 0 ≤ x0) (h1 : x0 ≤ 10) (h2 : x1 = 4 * x0) (h3 : -2147483648 ≤ x0) (h4 : x0 ≤ 2147483647) (h5 : -2147483648 ≤ x1) (h6 : x1 ≤ 2147483647) : -2147483648 ≤ 4 * x0 := by omega
theorem o18_386 {x0 x1 : Int} (h0 : 0 ≤ x0) (h1 : x0 ≤ 10) (h2 : x1 = 4 * x0) (h3 : -2147483648 ≤ x0) (h4 : x0 ≤ 2147483647) (h5 : -2147483648 ≤ x1) (h6 : x1 ≤ 2147483647) : 4 * x0 ≤ 2147483647 := by omega
theorem o18_387 {x0 x1 x2 x3 : Int} (h0 : 0 ≤ x2) (h1 : x2 ≤ 10) (h2 : x3 = 4 * x2) (h3 : x0 = 4 * x2) (h4 : x1 = 4) (h5 : -2147483648 ≤ x0) (h6 : x0 ≤ 2147483647) (h7 : -2147483648 ≤ x1) (h8 : x1 ≤ 2147483647) (h9 : -2147483648 ≤ x2) (h10 : x2 ≤ 2147483647) (h11 : -2147483648 ≤ x3) (h12 : x3 ≤ 2147483647) : -2147483648 ≤ x0 + x1 := by omega
theorem o18_388 {x0 x1 x2 x3 : Int} (h0 : 0 ≤ x2) (h1 : x2 ≤ 10) (h2 : x3 = 4 * x2) (h3 : x0 = 4 * x2) (h4 : x1 = 4) (h5 : -2147483648 ≤ x0) (h6 : x0 ≤ 2147483647) (h7 : -2147483648 ≤ x1) (h8 : x1 ≤ 2147483647) (h9 : -2147483648 ≤ x2) (h10 : x2 ≤ 2147483647) (h11 : -2147483648 ≤ x3) (h12 : x3 ≤ 2147483647) : x0 + x1 ≤ 2147483647 := by omega
theorem o18_389 {x0 : Int} (h0 : x0 = 2) : x0 ≤ 3 := by omega
theorem o18_390 {x0 x1 x2 x3 x4 : Int} (h0 : 0 ≤ x1) (h1 : x1 ≤ 10) (h2 : x0 = 4 * x1) (h3 : x2 = 4 * x1) (h4 : x3 = 4) (h5 : x4 = x2 + x3) : 0 ≤ x0 := by omega
theorem o18_391 {x0 x1 x2 x3 x4 : Int} (h0 : 0 ≤ x1) (h1 : x1 ≤ 10) (h2 : x0 = 4 * x1) (h3 : x2 = 4 * x1) (h4 : x3 = 4) (h5 : x4 = x2 + x3) : x0 ≤ 480 := by omega
theorem o18_392 {x0 x1 x2 x3 x4 : Int} (h0 : 0 ≤ x1) (h1 : x1 ≤ 10) (h2 : x2 = 4 * x1) (h3 : x3 = 4 * x1) (h4 : x4 = 4) (h5 : x0 = x3 + x4) : 0 ≤ x0 := by omega
theorem o18_393 {x0 x1 x2 x3 x4 : Int} (h0 : 0 ≤ x1) (h1 : x1 ≤ 10) (h2 : x2 = 4 * x1) (h3 : x3 = 4 * x1) (h4 : x4 = 4) (h5 : x0 = x3 + x4) : x0 ≤ 480 := by omega
theorem o18_394 {x0 x1 x2 x3 x4 x5 : Int} (h0 : 0 ≤ x0) (h1 : x0 ≤ 10) (h2 : x2 = 4 * x0) (h3 : x3 = 4 * x0) (h4 : x4 = 4) (h5 : x5 = x3 + x4) (h6 : x1 = 1) (h7 : -2147483648 ≤ x0) (h8 : x0 ≤ 2147483647) (h9 : -2147483648 ≤ x1) (h10 : x1 ≤ 2147483647) (h11 : -2147483648 ≤ x2) (h12 : x2 ≤ 2147483647) (h13 : -2147483648 ≤ x3) (h14 : x3 ≤ 2147483647) (h15 : -2147483648 ≤ x4) (h16 : x4 ≤ 2147483647) (h17 : -2147483648 ≤ x5) (h18 : x5 ≤ 2147483647) : -2147483648 ≤ x0 + x1 := by omega
theorem o18_395 {x0 x1 x2 x3 x4 x5 : Int} (h0 : 0 ≤ x0) (h1 : x0 ≤ 10) (h2 : x2 = 4 * x0) (h3 : x3 = 4 * x0) (h4 : x4 = 4) (h5 : x5 = x3 + x4) (h6 : x1 = 1) (h7 : -2147483648 ≤ x0) (h8 : x0 ≤ 2147483647) (h9 : -2147483648 ≤ x1) (h10 : x1 ≤ 2147483647) (h11 : -2147483648 ≤ x2) (h12 : x2 ≤ 2147483647) (h13 : -2147483648 ≤ x3) (h14 : x3 ≤ 2147483647) (h15 : -2147483648 ≤ x4) (h16 : x4 ≤ 2147483647) (h17 : -2147483648 ≤ x5) (h18 : x5 ≤ 2147483647) : x0 + x1 ≤ 2147483647 := by omega
theorem o18_396 {x0 x1 x2 x3 x4 x5 x6 : Int} (h0 : 0 ≤ x0) (h1 : x0 ≤ 10) (h2 : x1 = 4 * x0) (h3 : x2 = 4 * x0) (h4 : x3 = 4) (h5 : x4 = x2 + x3) (h6 : x5 = 1) (h7 : x6 = x0 + x5) (h8 : -2147483648 ≤ x0) (h9 : x0 ≤ 2147483647) (h10 : -2147483648 ≤ x1) (h11 : x1 ≤ 2147483647) (h12 : -2147483648 ≤ x2) (h13 : x2 ≤ 2147483647) (h14 : -2147483648 ≤ x3) (h15 : x3 ≤ 2147483647) (h16 : -2147483648 ≤ x4) (h17 : x4 ≤ 2147483647) (h18 : -2147483648 ≤ x5) (h19 : x5 ≤ 2147483647) (h20 : -2147483648 ≤ x6) (h21 : x6 ≤ 2147483647) : -2147483648 ≤ 4 * x0 := by omega
theorem o18_397 {x0 x1 x2 x3 x4 x5 x6 : Int} (h0 : 0 ≤ x0) (h1 : x0 ≤ 10) (h2 : x1 = 4 * x0) (h3 : x2 = 4 * x0) (h4 : x3 = 4) (h5 : x4 = x2 + x3) (h6 : x5 = 1) (h7 : x6 = x0 + x5) (h8 : -2147483648 ≤ x0) (h9 : x0 ≤ 2147483647) (h10 : -2147483648 ≤ x1) (h11 : x1 ≤ 2147483647) (h12 : -2147483648 ≤ x2) (h13 : x2 ≤ 2147483647) (h14 : -2147483648 ≤ x3) (h15 : x3 ≤ 2147483647) (h16 : -2147483648 ≤ x4) (h17 : x4 ≤ 2147483647) (h18 : -2147483648 ≤ x5) (h19 : x5 ≤ 2147483647) (h20 : -2147483648 ≤ x6) (h21 : x6 ≤ 2147483647) : 4 * x0 ≤ 2147483647 := by omega
theorem o18_398 {x0 x1 x2 x3 x4 x5 x6 x7 : Int} (h0 : 0 ≤ x0) (h1 : x0 ≤ 10) (h2 : x1 = 4 * x0) (h3 : x2 = 4 * x0) (h4 : x3 = 4) (h5 : x4 = x2 + x3) (h6 : x5 = 1) (h7 : x6 = x0 + x5) (h8 : x7 = 4 * x0) (h9 : -2147483648 ≤ x0) (h10 : x0 ≤ 2147483647) (h11 : -2147483648 ≤ x1) (h12 : x1 ≤ 2147483647) (h13 : -2147483648 ≤ x2) (h14 : x2 ≤ 2147483647) (h15 : -2147483648 ≤ x3) (h16 : x3 ≤ 2147483647) (h17 : -2147483648 ≤ x4) (h18 : x4 ≤ 2147483647) (h19 : -2147483648 ≤ x5) (h20 : x5 ≤ 2147483647) (h21 : -2147483648 ≤ x6) (h22 : x6 ≤ 2147483647) (h23 : -2147483648 ≤ x7) (h24 : x7 ≤ 2147483647) : -2147483648 ≤ 4 * x0 := by omega
theorem o18_399 {x0 x1 x2 x3 x4 x5 x6 x7 : Int} (h0 : 0 ≤ x0) (h1 : x0 ≤ 10) (h2 : x1 = 4 * x0) (h3 : x2 = 4 * x0) (h4 : x3 = 4) (h5 : x4 = x2 + x3) (h6 : x5 = 1) (h7 : x6 = x0 + x5) (h8 : x7 = 4 * x0) (h9 : -2147483648 ≤ x0) (h10 : x0 ≤ 2147483647) (h11 : -2147483648 ≤ x1) (h12 : x1 ≤ 2147483647) (h13 : -2147483648 ≤ x2) (h14 : x2 ≤ 2147483647) (h15 : -2147483648 ≤ x3) (h16 : x3 ≤ 2147483647) (h17 : -2147483648 ≤ x4) (h18 : x4 ≤ 2147483647) (h19 : -2147483648 ≤ x5) (h20 : x5 ≤ 2147483647) (h21 : -2147483648 ≤ x6) (h22 : x6 ≤ 2147483647) (h23 : -2147483648 ≤ x7) (h24 : x7 ≤ 2147483647) : 4 * x0 ≤ 2147483647 := by omega
theorem o18_400 {x0 x1 x2 x3 x4 x5 x6 x7 x8 x9 : Int} (h0 : 0 ≤ x2) (h1 : x2 ≤ 10) (h2 : x3 = 4 * x2) (h3 : x4 = 4 * x2) (h4 : x5 = 4) (h5 : x6 = x4 + x5) (h6 : x7 = 1) (h7 : x8 = x2 + x7) (h8 : x9 = 4 * x2) (h9 : x0 = 4 * x2) (h10 : x1 = 8) (h11 : -2147483648 ≤ x0) (h12 : x0 ≤ 2147483647) (h13 : -2147483648 ≤ x1) (h14 : x1 ≤ 2147483647) (h15 : -2147483648 ≤ x2) (h16 : x2 ≤ 2147483647) (h17 : -2147483648 ≤ x3) (h18 : x3 ≤ 2147483647) (h19 : -2147483648 ≤ x4) (h20 : x4 ≤ 2147483647) (h21 : -2147483648 ≤ x5) (h22 : x5 ≤ 2147483647) (h23 : -2147483648 ≤ x6) (h24 : x6 ≤ 2147483647) (h25 : -2147483648 ≤ x7) (h26 : x7 ≤ 2147483647) (h27 : -2147483648 ≤ x8) (h28 : x8 ≤ 2147483647) (h29 : -2147483648 ≤ x9) (h30 : x9 ≤ 2147483647) : -2147483648 ≤ x0 + x1 := by omega
theorem o18_401 {x0 x1 x2 x3 x4 x5 x6 x7 x8 x9 : Int} (h0 : 0 ≤ x2) (h1 : x2 ≤ 10) (h2 : x3 = 4 * x2) (h3 : x4 = 4 * x2) (h4 : x5 = 4) (h5 : x6 = x4 + x5) (h6 : x7 = 1) (h7 : x8 = x2 + x7) (h8 : x9 = 4 * x2) (h9 : x0 = 4 * x2) (h10 : x1 = 8) (h11 : -2147483648 ≤ x0) (h12 : x0 ≤ 2147483647) (h13 : -2147483648 ≤ x1) (h14 : x1 ≤ 2147483647) (h15 : -2147483648 ≤ x2) (h16 : x2 ≤ 2147483647) (h17 : -2147483648 ≤ x3) (h18 : x3 ≤ 2147483647) (h19 : -2147483648 ≤ x4) (h20 : x4 ≤ 2147483647) (h21 : -2147483648 ≤ x5) (h22 : x5 ≤ 2147483647) (h23 : -2147483648 ≤ x6) (h24 : x6 ≤ 2147483647) (h25 : -2147483648 ≤ x7) (h26 : x7 ≤ 2147483647) (h27 : -2147483648 ≤ x8) (h28 : x8 ≤ 2147483647) (h29 : -2147483648 ≤ x9) (h30 : x9 ≤ 2147483647) : x0 + x1 ≤ 2147483647 := by omega
theorem o18_402 {x0 : Int} (h0 : x0 = 3) : 2 ≤ x0 := by omega
theorem o18_403 {x0 : Int} (h0 : x0 = 3) : x0 ≤ 3 := by omega
theorem o18_404 {x0 x1 x2 x3 x4 x5 x6 x7 x8 x9 x10 : Int} (h0 : 0 ≤ x1) (h1 : x1 ≤ 10) (h2 : x2 = 4 * x1) (h3 : x3 = 4 * x1) (h4 : x4 = 4) (h5 : x5 = x3 + x4) (h6 : x6 = 1) (h7 : x7 = x1 + x6) (h8 : x0 = 4 * x1) (h9 : x8 = 4 * x1) (h10 : x9 = 8) (h11 : x10 = x8 + x9) : 0 ≤ x0 := by omega
theorem o18_405 {x0 x1 x2 x3 x4 x5 x6 x7 x8 x9 x10 : Int} (h0 : 0 ≤ x1) (h1 : x1 ≤ 10) (h2 : x2 = 4 * x1) (h3 : x3 = 4 * x1) (h4 : x4 = 4) (h5 : x5 = x3 + x4) (h6 : x6 = 1) (h7 : x7 = x1 + x6) (h8 : x0 = 4 * x1) (h9 : x8 = 4 * x1) (h10 : x9 = 8) (h11 : x10 = x8 + x9) : x0 ≤ 480 := by omega
theorem o18_406 {x0 x1 x2 x3 x4 x5 x6 x7 x8 x9 x10 : Int} (h0 : 0 ≤ x1) (h1 : x1 ≤ 10) (h2 : x2 = 4 * x1) (h3 : x3 = 4 * x1) (h4 : x4 = 4) (h5 : x5 = x3 + x4) (h6 : x6 = 1) (h7 : x7 = x1 + x6) (h8 : x8 = 4 * x1) (h9 : x9 = 4 * x1) (h10 : x10 = 8) (h11 : x0 = x9 + x10) : 0 ≤ x0 := by omega
theorem o18_407 {x0 x1 x2 x3 x4 x5 x6 x7 x8 x9 x10 : Int} (h0 : 0 ≤ x1) (h1 : x1 ≤ 10) (h2 : x2 = 4 * x1) (h3 : x3 = 4 * x1) (h4 : x4 = 4) (h5 : x5 = x3 + x4) (h6 : x6 = 1) (h7 : x7 = x1 + x6) (h8 : x8 = 4 * x1) (h9 : x9 = 4 * x1) (h10 : x10 = 8) (h11 : x0 = x9 + x10) : x0 ≤ 480 := by omega
theorem o18_408 {x0 : Int} (h0 : 0 ≤ x0) (h1 : x0 ≤ 30) (h2 : 30 - x0 < 0) : False := by omega
theorem o18_409 {x0 x1 x2 x3 : Int} (h0 : 0 ≤ x1) (h1 : x1 ≤ 10) (h2 : (-1) ≤ x0) (h3 : x0 ≤ 40) (h4 : x0 = x1) (h5 : 0 ≤ x2) (h6 : x2 ≤ 10) (h7 : 0 ≤ x3) (h8 : x3 ≤ 120) (h9 : x3 = x2) (h10 : x3 = x0) : 0 ≤ x0 := by omega
theorem o18_410 {x0 x1 x2 x3 : Int} (h0 : 0 ≤ x1) (h1 : x1 ≤ 10) (h2 : (-1) ≤ x0) (h3 : x0 ≤ 40) (h4 : x0 = x1) (h5 : 0 ≤ x2) (h6 : x2 ≤ 10) (h7 : 0 ≤ x3) (h8 : x3 ≤ 120) (h9 : x3 = x2) (h10 : x3 = x0) : x0 ≤ 120 := by omega
theorem o18_411 {x0 x1 : Int} {x2 : Nat} (h0 : 0 ≤ x1) (h1 : x1 ≤ 30) (h2 : 0 ≤ x0) (h3 : x0 ≤ 30) (h4 : 30 - x0 < ((x2 + 1 : Nat) : Int)) (h5 : x0 < x1) : 0 ≤ x0 := by omega
theorem o18_412 {x0 x1 : Int} {x2 : Nat} (h0 : 0 ≤ x1) (h1 : x1 ≤ 30) (h2 : 0 ≤ x0) (h3 : x0 ≤ 30) (h4 : 30 - x0 < ((x2 + 1 : Nat) : Int)) (h5 : x0 < x1) : x0 ≤ 239 := by omega
theorem o18_413 {x0 : Int} (h0 : 0 ≤ x0) (h1 : x0 ≤ 11) (h2 : 11 - x0 < 0) : False := by omega
theorem o18_414 {x0 x1 x2 x3 x5 : Int} {x4 : Nat} (h0 : 0 ≤ x2) (h1 : x2 ≤ 10) (h2 : 0 ≤ x3) (h3 : x3 ≤ 11) (h4 : 11 - x3 < ((x4 + 1 : Nat) : Int)) (h5 : 0 ≤ x5) (h6 : x5 ≤ 120) (h7 : x5 = x2) (h8 : x5 < x3) (h9 : 0 ≤ x0) (h10 : x0 ≤ 120) (h11 : x0 = x2) (h12 : x1 = 2) (h13 : -2147483648 ≤ x0) (h14 : x0 ≤ 2147483647) (h15 : -2147483648 ≤ x1) (h16 : x1 ≤ 2147483647) (h17 : -2147483648 ≤ x2) (h18 : x2 ≤ 2147483647) (h19 : -2147483648 ≤ x3) (h20 : x3 ≤ 2147483647) (h21 : -2147483648 ≤ x5) (h22 : x5 ≤ 2147483647) : -2147483648 ≤ x0 + x1 := by omega
theorem o18_415 {x0 x1 x2 x3 x5 : Int} {x4 : Nat} (h0 : 0 ≤ x2) (h1 : x2 ≤ 10) (h2 : 0 ≤ x3) (h3 : x3 ≤ 11) (h4 : 11 - x3 < ((x4 + 1 : Nat) : Int)) (h5 : 0 ≤ x5) (h6 : x5 ≤ 120) (h7 : x5 = x2) (h8 : x5 < x3) (h9 : 0 ≤ x0) (h10 : x0 ≤ 120) (h11 : x0 = x2) (h12 : x1 = 2) (h13 : -2147483648 ≤ x0) (h14 : x0 ≤ 2147483647) (h15 : -2147483648 ≤ x1) (h16 : x1 ≤ 2147483647) (h17 : -2147483648 ≤ x2) (h18 : x2 ≤ 2147483647) (h19 : -2147483648 ≤ x3) (h20 : x3 ≤ 2147483647) (h21 : -2147483648 ≤ x5) (h22 : x5 ≤ 2147483647) : x0 + x1 ≤ 2147483647 := by omega
theorem o18_416 {x0 x1 x2 x3 x4 x6 x7 x8 x9 : Int} {x5 : Nat} (h0 : 0 ≤ x1) (h1 : x1 ≤ 10) (h2 : (-1) ≤ x2) (h3 : x2 ≤ 40) (h4 : x2 = x1) (h5 : 0 ≤ x3) (h6 : x3 ≤ 10) (h7 : 0 ≤ x4) (h8 : x4 ≤ 11) (h9 : 11 - x4 < ((x5 + 1 : Nat) : Int)) (h10 : 0 ≤ x6) (h11 : x6 ≤ 120) (h12 : x6 = x3) (h13 : x6 < x4) (h14 : 0 ≤ x7) (h15 : x7 ≤ 120) (h16 : x7 = x3) (h17 : x8 = 2) (h18 : x9 = x7 + x8) (h19 : (x0 = x9 ∧ x9 ≤ x2) ∨ (x0 = x2 ∧ x2 ≤ x9)) : 0 ≤ x0 := by omega
theorem o18_417 {x0 x1 x2 x3 x4 x6 x7 x8 x9 : Int} {x5 : Nat} (h0 : 0 ≤ x1) (h1 : x1 ≤ 10) (h2 : (-1) ≤ x2) (h3 : x2 ≤ 40) (h4 : x2 = x1) (h5 : 0 ≤ x3) (h6 : x3 ≤ 10) (h7 : 0 ≤ x4) (h8 : x4 ≤ 11) (h9 : 11 - x4 < ((x5 + 1 : Nat) : Int)) (h10 : 0 ≤ x6) (h11 : x6 ≤ 120) (h12 : x6 = x3) (h13 : x6 < x4) (h14 : 0 ≤ x7) (h15 : x7 ≤ 120) (h16 : x7 = x3) (h17 : x8 = 2) (h18 : x9 = x7 + x8) (h19 : (x0 = x9 ∧ x9 ≤ x2) ∨ (x0 = x2 ∧ x2 ≤ x9)) : x0 ≤ 120 := by omega
theorem o18_418 {x0 x1 : Int} {x2 : Nat} (h0 : 0 ≤ x1) (h1 : x1 ≤ 30) (h2 : 0 ≤ x0) (h3 : x0 ≤ 30) (h4 : 30 - x0 < ((x2 + 1 : Nat) : Int)) (h5 : x0 < x1) (h6 : -2147483648 ≤ x0) (h7 : x0 ≤ 2147483647) (h8 : -2147483648 ≤ x1) (h9 : x1 ≤ 2147483647) : -2147483648 ≤ x0 + 1 := by omega
theorem o18_419 {x0 x1 : Int} {x2 : Nat} (h0 : 0 ≤ x1) (h1 : x1 ≤ 30) (h2 : 0 ≤ x0) (h3 : x0 ≤ 30) (h4 : 30 - x0 < ((x2 + 1 : Nat) : Int)) (h5 : x0 < x1) (h6 : -2147483648 ≤ x0) (h7 : x0 ≤ 2147483647) (h8 : -2147483648 ≤ x1) (h9 : x1 ≤ 2147483647) : x0 + 1 ≤ 2147483647 := by omega
theorem o18_420 {x0 x2 x3 : Int} {x1 : Nat} (h0 : 0 ≤ x2) (h1 : x2 ≤ 30) (h2 : 0 ≤ x3) (h3 : x3 ≤ 30) (h4 : 30 - x3 < ((x1 + 1 : Nat) : Int)) (h5 : x3 < x2) (h6 : x0 = x3 + 1) : 30 - x0 < (x1 : Int) := by omega
theorem o18_421 {x0 x1 x2 : Int} {x3 : Nat} (h0 : 0 ≤ x1) (h1 : x1 ≤ 30) (h2 : 0 ≤ x2) (h3 : x2 ≤ 30) (h4 : 30 - x2 < ((x3 + 1 : Nat) : Int)) (h5 : x2 < x1) (h6 : x0 = x2 + 1) : 0 ≤ x0 := by omega
theorem o18_422 {x0 x1 x2 : Int} {x3 : Nat} (h0 : 0 ≤ x1) (h1 : x1 ≤ 30) (h2 : 0 ≤ x2) (h3 : x2 ≤ 30) (h4 : 30 - x2 < ((x3 + 1 : Nat) : Int)) (h5 : x2 < x1) (h6 : x0 = x2 + 1) : x0 ≤ 30 := by omega
theorem o18_423 {x0 x1 x2 x3 x4 x6 x7 x8 x9 : Int} {x5 : Nat} (h0 : 0 ≤ x1) (h1 : x1 ≤ 10) (h2 : (-1) ≤ x2) (h3 : x2 ≤ 40) (h4 : x2 = x1) (h5 : 0 ≤ x3) (h6 : x3 ≤ 10) (h7 : 0 ≤ x4) (h8 : x4 ≤ 11) (h9 : 11 - x4 < ((x5 + 1 : Nat) : Int)) (h10 : 0 ≤ x6) (h11 : x6 ≤ 120) (h12 : x6 = x3) (h13 : x6 < x4) (h14 : 0 ≤ x7) (h15 : x7 ≤ 120) (h16 : x7 = x3) (h17 : x8 = 2) (h18 : x9 = x7 + x8) (h19 : (x0 = x9 ∧ x9 ≤ x2) ∨ (x0 = x2 ∧ x2 ≤ x9)) : x0 ≤ 10 := by omega
theorem o18_424 {x0 x1 x3 : Int} {x2 : Nat} (h0 : 0 ≤ x1) (h1 : x1 ≤ 10) (h2 : 0 ≤ x0) (h3 : x0 ≤ 11) (h4 : 11 - x0 < ((x2 + 1 : Nat) : Int)) (h5 : 0 ≤ x3) (h6 : x3 ≤ 120) (h7 : x3 = x1) (h8 : x0 ≤ x3) (h9 : -2147483648 ≤ x0) (h10 : x0 ≤ 2147483647) (h11 : -2147483648 ≤ x1) (h12 : x1 ≤ 2147483647) (h13 : -2147483648 ≤ x3) (h14 : x3 ≤ 2147483647) : -2147483648 ≤ 4 * x0 := by omega
theorem o18_425 {x0 x1 x3 : Int} {x2 : Nat} (h0 : 0 ≤ x1) (h1 : x1 ≤ 10) (h2 : 0 ≤ x0) (h3 : x0 ≤ 11) (h4 : 11 - x0 < ((x2 + 1 : Nat) : Int)) (h5 : 0 ≤ x3) (h6 : x3 ≤ 120) (h7 : x3 = x1) (h8 : x0 ≤ x3) (h9 : -2147483648 ≤ x0) (h10 : x0 ≤ 2147483647) (h11 : -2147483648 ≤ x1) (h12 : x1 ≤ 2147483647) (h13 : -2147483648 ≤ x3) (h14 : x3 ≤ 2147483647) : 4 * x0 ≤ 2147483647 := by omega
theorem o18_426 {x0 x1 x2 x4 : Int} {x3 : Nat} (h0 : 0 ≤ x1) (h1 : x1 ≤ 10) (h2 : 0 ≤ x2) (h3 : x2 ≤ 11) (h4 : 11 - x2 < ((x3 + 1 : Nat) : Int)) (h5 : 0 ≤ x4) (h6 : x4 ≤ 120) (h7 : x4 = x1) (h8 : x2 ≤ x4) (h9 : x0 = 4 * x2) : 0 ≤ x0 := by omega
theorem o18_427 {x0 x1 x2 x4 : Int} {x3 : Nat} (h0 : 0 ≤ x1) (h1 : x1 ≤ 10) (h2 : 0 ≤ x2) (h3 : x2 ≤ 11) (h4 : 11 - x2 < ((x3 + 1 : Nat) : Int)) (h5 : 0 ≤ x4) (h6 : x4 ≤ 120) (h7 : x4 = x1) (h8 : x2 ≤ x4) (h9 : x0 = 4 * x2) : x0 ≤ 480 := by omega
theorem o18_428 {x0 x1 x3 x4 : Int} {x2 : Nat} (h0 : 0 ≤ x1) (h1 : x1 ≤ 10) (h2 : 0 ≤ x0) (h3 : x0 ≤ 11) (h4 : 11 - x0 < ((x2 + 1 : Nat) : Int)) (h5 : 0 ≤ x3) (h6 : x3 ≤ 120) (h7 : x3 = x1) (h8 : x0 ≤ x3) (h9 : x4 = 4 * x0) (h10 : -2147483648 ≤ x0) (h11 : x0 ≤ 2147483647) (h12 : -2147483648 ≤ x1) (h13 : x1 ≤ 2147483647) (h14 : -2147483648 ≤ x3) (h15 : x3 ≤ 2147483647) (h16 : -2147483648 ≤ x4) (h17 : x4 ≤ 2147483647) : -2147483648 ≤ 4 * x0 := by omega
theorem o18_429 {x0 x1 x3 x4 : Int} {x2 : Nat} (h0 : 0 ≤ x1) (h1 : x1 ≤ 10) (h2 : 0 ≤ x0) (h3 : x0 ≤ 11) (h4 : 11 - x0 < ((x2 + 1 : Nat) : Int)) (h5 : 0 ≤ x3) (h6 : x3 ≤ 120) (h7 : x3 = x1) (h8 : x0 ≤ x3) (h9 : x4 = 4 * x0) (h10 : -2147483648 ≤ x0) (h11 : x0 ≤ 2147483647) (h12 : -2147483648 ≤ x1) (h13 : x1 ≤ 2147483647) (h14 : -2147483648 ≤ x3) (h15 : x3 ≤ 2147483647) (h16 : -2147483648 ≤ x4) (h17 : x4 ≤ 2147483647) : 4 * x0 ≤ 2147483647 := by omega
theorem o18_430 {x0 x1 x3 x4 x5 : Int} {x2 : Nat} (h0 : 0 ≤ x1) (h1 : x1 ≤ 10) (h2 : 0 ≤ x0) (h3 : x0 ≤ 11) (h4 : 11 - x0 < ((x2 + 1 : Nat) : Int)) (h5 : 0 ≤ x3) (h6 : x3 ≤ 120) (h7 : x3 = x1) (h8 : x0 ≤ x3) (h9 : x4 = 4 * x0) (h10 : x5 = 4 * x0) (h11 : -2147483648 ≤ x0) (h12 : x0 ≤ 2147483647) (h13 : -2147483648 ≤ x1) (h14 : x1 ≤ 2147483647) (h15 : -2147483648 ≤ x3) (h16 : x3 ≤ 2147483647) (h17 : -2147483648 ≤ x4) (h18 : x4 ≤ 2147483647) (h19 : -2147483648 ≤ x5) (h20 : x5 ≤ 2147483647) : -2147483648 ≤ 4 * x0 := by omega
theorem o18_431 {x0 x1 x3 x4 x5 : Int} {x2 : Nat} (h0 : 0 ≤ x1) (h1 : x1 ≤ 10) (h2 : 0 ≤ x0) (h3 : x0 ≤ 11) (h4 : 11 - x0 < ((x2 + 1 : Nat) : Int)) (h5 : 0 ≤ x3) (h6 : x3 ≤ 120) (h7 : x3 = x1) (h8 : x0 ≤ x3) (h9 : x4 = 4 * x0) (h10 : x5 = 4 * x0) (h11 : -2147483648 ≤ x0) (h12 : x0 ≤ 2147483647) (h13 : -2147483648 ≤ x1) (h14 : x1 ≤ 2147483647) (h15 : -2147483648 ≤ x3) (h16 : x3 ≤ 2147483647) (h17 : -2147483648 ≤ x4) (h18 : x4 ≤ 2147483647) (h19 : -2147483648 ≤ x5) (h20 : x5 ≤ 2147483647) : 4 * x0 ≤ 2147483647 := by omega
theorem o18_432 {x0 x1 x2 x4 x5 x6 : Int} {x3 : Nat} (h0 : 0 ≤ x1) (h1 : x1 ≤ 10) (h2 : 0 ≤ x2) (h3 : x2 ≤ 11) (h4 : 11 - x2 < ((x3 + 1 : Nat) : Int)) (h5 : 0 ≤ x4) (h6 : x4 ≤ 120) (h7 : x4 = x1) (h8 : x2 ≤ x4) (h9 : x5 = 4 * x2) (h10 : x0 = 4 * x2) (h11 : x6 = 4 * x2) : 0 ≤ x0 := by omega
theorem o18_433 {x0 x1 x2 x4 x5 x6 : Int} {x3 : Nat} (h0 : 0 ≤ x1) (h1 : x1 ≤ 10) (h2 : 0 ≤ x2) (h3 : x2 ≤ 11) (h4 : 11 - x2 < ((x3 + 1 : Nat) : Int)) (h5 : 0 ≤ x4) (h6 : x4 ≤ 120) (h7 : x4 = x1) (h8 : x2 ≤ x4) (h9 : x5 = 4 * x2) (h10 : x0 = 4 * x2) (h11 : x6 = 4 * x2) : x0 ≤ 480 := by omega
theorem o18_434 {x0 x1 x2 x4 x5 x6 : Int} {x3 : Nat} (h0 : 0 ≤ x1) (h1 : x1 ≤ 10) (h2 : 0 ≤ x2) (h3 : x2 ≤ 11) (h4 : 11 - x2 < ((x3 + 1 : Nat) : Int)) (h5 : 0 ≤ x4) (h6 : x4 ≤ 120) (h7 : x4 = x1) (h8 : x2 ≤ x4) (h9 : x5 = 4 * x2) (h10 : x6 = 4 * x2) (h11 : x0 = 4 * x2) : 0 ≤ x0 := by omega
theorem o18_435 {x0 x1 x2 x4 x5 x6 : Int} {x3 : Nat} (h0 : 0 ≤ x1) (h1 : x1 ≤ 10) (h2 : 0 ≤ x2) (h3 : x2 ≤ 11) (h4 : 11 - x2 < ((x3 + 1 : Nat) : Int)) (h5 : 0 ≤ x4) (h6 : x4 ≤ 120) (h7 : x4 = x1) (h8 : x2 ≤ x4) (h9 : x5 = 4 * x2) (h10 : x6 = 4 * x2) (h11 : x0 = 4 * x2) : x0 ≤ 480 := by omega
theorem o18_436 {x0 x1 x3 x4 x5 x6 : Int} {x2 : Nat} (h0 : 0 ≤ x1) (h1 : x1 ≤ 10) (h2 : 0 ≤ x0) (h3 : x0 ≤ 11) (h4 : 11 - x0 < ((x2 + 1 : Nat) : Int)) (h5 : 0 ≤ x3) (h6 : x3 ≤ 120) (h7 : x3 = x1) (h8 : x0 ≤ x3) (h9 : x4 = 4 * x0) (h10 : x5 = 4 * x0) (h11 : x6 = 4 * x0) (h12 : -2147483648 ≤ x0) (h13 : x0 ≤ 2147483647) (h14 : -2147483648 ≤ x1) (h15 : x1 ≤ 2147483647) (h16 : -2147483648 ≤ x3) (h17 : x3 ≤ 2147483647) (h18 : -2147483648 ≤ x4) (h19 : x4 ≤ 2147483647) (h20 : -2147483648 ≤ x5) (h21 : x5 ≤ 2147483647) (h22 : -2147483648 ≤ x6) (h23 : x6 ≤ 2147483647) : -2147483648 ≤ 4 * x0 := by omega
theorem o18_437 {x0 x1 x3 x4 x5 x6 : Int} {x2 : Nat} (h0 : 0 ≤ x1) (h1 : x1 ≤ 10) (h2 : 0 ≤ x0) (h3 : x0 ≤ 11) (h4 : 11 - x0 < ((x2 + 1 : Nat) : Int)) (h5 : 0 ≤ x3) (h6 : x3 ≤ 120) (h7 : x3 = x1) (h8 : x0 ≤ x3) (h9 : x4 = 4 * x0) (h10 : x5 = 4 * x0) (h11 : x6 = 4 * x0) (h12 : -2147483648 ≤ x0) (h13 : x0 ≤ 2147483647) (h14 : -2147483648 ≤ x1) (h15 : x1 ≤ 2147483647) (h16 : -2147483648 ≤ x3) (h17 : x3 ≤ 2147483647) (h18 : -2147483648 ≤ x4) (h19 : x4 ≤ 2147483647) (h20 : -2147483648 ≤ x5) (h21 : x5 ≤ 2147483647) (h22 : -2147483648 ≤ x6) (h23 : x6 ≤ 2147483647) : 4 * x0 ≤ 2147483647 := by omega
theorem o18_438 {x0 x1 x3 x4 x5 x6 x7 : Int} {x2 : Nat} (h0 : 0 ≤ x1) (h1 : x1 ≤ 10) (h2 : 0 ≤ x0) (h3 : x0 ≤ 11) (h4 : 11 - x0 < ((x2 + 1 : Nat) : Int)) (h5 : 0 ≤ x3) (h6 : x3 ≤ 120) (h7 : x3 = x1) (h8 : x0 ≤ x3) (h9 : x4 = 4 * x0) (h10 : x5 = 4 * x0) (h11 : x6 = 4 * x0) (h12 : x7 = 4 * x0) (h13 : -2147483648 ≤ x0) (h14 : x0 ≤ 2147483647) (h15 : -2147483648 ≤ x1) (h16 : x1 ≤ 2147483647) (h17 : -2147483648 ≤ x3) (h18 : x3 ≤ 2147483647) (h19 : -2147483648 ≤ x4) (h20 : x4 ≤ 2147483647) (h21 : -2147483648 ≤ x5) (h22 : x5 ≤ 2147483647) (h23 : -2147483648 ≤ x6) (h24 : x6 ≤ 2147483647) (h25 : -2147483648 ≤ x7) (h26 : x7 ≤ 2147483647) : -2147483648 ≤ 4 * x0 := by omega
theorem o18_439 {x0 x1 x3 x4 x5 x6 x7 : Int} {x2 : Nat} (h0 : 0 ≤ x1) (h1 : x1 ≤ 10) (h2 : 0 ≤ x0) (h3 : x0 ≤ 11) (h4 : 11 - x0 < ((x2 + 1 : Nat) : Int)) (h5 : 0 ≤ x3) (h6 : x3 ≤ 120) (h7 : x3 = x1) (h8 : x0 ≤ x3) (h9 : x4 = 4 * x0) (h10 : x5 = 4 * x0) (h11 : x6 = 4 * x0) (h12 : x7 = 4 * x0) (h13 : -2147483648 ≤ x0) (h14 : x0 ≤ 2147483647) (h15 : -2147483648 ≤ x1) (h16 : x1 ≤ 2147483647) (h17 : -2147483648 ≤ x3) (h18 : x3 ≤ 2147483647) (h19 : -2147483648 ≤ x4) (h20 : x4 ≤ 2147483647) (h21 : -2147483648 ≤ x5) (h22 : x5 ≤ 2147483647) (h23 : -2147483648 ≤ x6) (h24 : x6 ≤ 2147483647) (h25 : -2147483648 ≤ x7) (h26 : x7 ≤ 2147483647) : 4 * x0 ≤ 2147483647 := by omega
theorem o18_440 {x0 x1 x2 x4 x5 x6 x7 x8 : Int} {x3 : Nat} (h0 : 0 ≤ x1) (h1 : x1 ≤ 10) (h2 : 0 ≤ x2) (h3 : x2 ≤ 11) (h4 : 11 - x2 < ((x3 + 1 : Nat) : Int)) (h5 : 0 ≤ x4) (h6 : x4 ≤ 120) (h7 : x4 = x1) (h8 : x2 ≤ x4) (h9 : x5 = 4 * x2) (h10 : x6 = 4 * x2) (h11 : x7 = 4 * x2) (h12 : x0 = 4 * x2) (h13 : x8 = 4 * x2) : 0 ≤ x0 := by omega
theorem o18_441 {x0 x1 x2 x4 x5 x6 x7 x8 : Int} {x3 : Nat} (h0 : 0 ≤ x1) (h1 : x1 ≤ 10) (h2 : 0 ≤ x2) (h3 : x2 ≤ 11) (h4 : 11 - x2 < ((x3 + 1 : Nat) : Int)) (h5 : 0 ≤ x4) (h6 : x4 ≤ 120) (h7 : x4 = x1) (h8 : x2 ≤ x4) (h9 : x5 = 4 * x2) (h10 : x6 = 4 * x2) (h11 : x7 = 4 * x2) (h12 : x0 = 4 * x2) (h13 : x8 = 4 * x2) : x0 ≤ 480 := by omega
theorem o18_442 {x0 x1 x2 x4 x5 x6 x7 x8 : Int} {x3 : Nat} (h0 : 0 ≤ x1) (h1 : x1 ≤ 10) (h2 : 0 ≤ x2) (h3 : x2 ≤ 11) (h4 : 11 - x2 < ((x3 + 1 : Nat) : Int)) (h5 : 0 ≤ x4) (h6 : x4 ≤ 120) (h7 : x4 = x1) (h8 : x2 ≤ x4) (h9 : x5 = 4 * x2) (h10 : x6 = 4 * x2) (h11 : x7 = 4 * x2) (h12 : x8 = 4 * x2) (h13 : x0 = 4 * x2) : 0 ≤ x0 := by omega
theorem o18_443 {x0 x1 x2 x4 x5 x6 x7 x8 : Int} {x3 : Nat} (h0 : 0 ≤ x1) (h1 : x1 ≤ 10) (h2 : 0 ≤ x2) (h3 : x2 ≤ 11) (h4 : 11 - x2 < ((x3 + 1 : Nat) : Int)) (h5 : 0 ≤ x4) (h6 : x4 ≤ 120) (h7 : x4 = x1) (h8 : x2 ≤ x4) (h9 : x5 = 4 * x2) (h10 : x6 = 4 * x2) (h11 : x7 = 4 * x2) (h12 : x8 = 4 * x2) (h13 : x0 = 4 * x2) : x0 ≤ 480 := by omega
theorem o18_444 {x0 x1 x3 x4 x5 x6 x7 x8 : Int} {x2 : Nat} (h0 : 0 ≤ x1) (h1 : x1 ≤ 10) (h2 : 0 ≤ x0) (h3 : x0 ≤ 11) (h4 : 11 - x0 < ((x2 + 1 : Nat) : Int)) (h5 : 0 ≤ x3) (h6 : x3 ≤ 120) (h7 : x3 = x1) (h8 : x0 ≤ x3) (h9 : x4 = 4 * x0) (h10 : x5 = 4 * x0) (h11 : x6 = 4 * x0) (h12 : x7 = 4 * x0) (h13 : x8 = 4 * x0) : 0 ≤ x0 := by omega
theorem o18_445 {x0 x1 x3 x4 x5 x6 x7 x8 : Int} {x2 : Nat} (h0 : 0 ≤ x1) (h1 : x1 ≤ 10) (h2 : 0 ≤ x0) (h3 : x0 ≤ 11) (h4 : 11 - x0 < ((x2 + 1 : Nat) : Int)) (h5 : 0 ≤ x3) (h6 : x3 ≤ 120) (h7 : x3 = x1) (h8 : x0 ≤ x3) (h9 : x4 = 4 * x0) (h10 : x5 = 4 * x0) (h11 : x6 = 4 * x0) (h12 : x7 = 4 * x0) (h13 : x8 = 4 * x0) : x0 ≤ 10 := by omega
theorem o18_446 {x0 x1 x3 x4 x5 x6 x7 x8 : Int} {x2 : Nat} (h0 : 0 ≤ x1) (h1 : x1 ≤ 10) (h2 : 0 ≤ x0) (h3 : x0 ≤ 11) (h4 : 11 - x0 < ((x2 + 1 : Nat) : Int)) (h5 : 0 ≤ x3) (h6 : x3 ≤ 120) (h7 : x3 = x1) (h8 : x0 ≤ x3) (h9 : x4 = 4 * x0) (h10 : x5 = 4 * x0) (h11 : x6 = 4 * x0) (h12 : x7 = 4 * x0) (h13 : x8 = 4 * x0) (h14 : -2147483648 ≤ x0) (h15 : x0 ≤ 2147483647) (h16 : -2147483648 ≤ x1) (h17 : x1 ≤ 2147483647) (h18 : -2147483648 ≤ x3) (h19 : x3 ≤ 2147483647) (h20 : -2147483648 ≤ x4) (h21 : x4 ≤ 2147483647) (h22 : -2147483648 ≤ x5) (h23 : x5 ≤ 2147483647) (h24 : -2147483648 ≤ x6) (h25 : x6 ≤ 2147483647) (h26 : -2147483648 ≤ x7) (h27 : x7 ≤ 2147483647) (h28 : -2147483648 ≤ x8) (h29 : x8 ≤ 2147483647) : -2147483648 ≤ x0 + 1 := by omega
theorem o18_447 {x0 x1 x3 x4 x5 x6 x7 x8 : Int} {x2 : Nat} (h0 : 0 ≤ x1) (h1 : x1 ≤ 10) (h2 : 0 ≤ x0) (h3 : x0 ≤ 11) (h4 : 11 - x0 < ((x2 + 1 : Nat) : Int)) (h5 : 0 ≤ x3) (h6 : x3 ≤ 120) (h7 : x3 = x1) (h8 : x0 ≤ x3) (h9 : x4 = 4 * x0) (h10 : x5 = 4 * x0) (h11 : x6 = 4 * x0) (h12 : x7 = 4 * x0) (h13 : x8 = 4 * x0) (h14 : -2147483648 ≤ x0) (h15 : x0 ≤ 2147483647) (h16 : -2147483648 ≤ x1) (h17 : x1 ≤ 2147483647) (h18 : -2147483648 ≤ x3) (h19 : x3 ≤ 2147483647) (h20 : -2147483648 ≤ x4) (h21 : x4 ≤ 2147483647) (h22 : -2147483648 ≤ x5) (h23 : x5 ≤ 2147483647) (h24 : -2147483648 ≤ x6) (h25 : x6 ≤ 2147483647) (h26 : -2147483648 ≤ x7) (h27 : x7 ≤ 2147483647) (h28 : -2147483648 ≤ x8) (h29 : x8 ≤ 2147483647) : x0 + 1 ≤ 2147483647 := by omega
theorem o18_448 {x0 x2 x3 x4 x5 x6 x7 x8 x9 : Int} {x1 : Nat} (h0 : 0 ≤ x2) (h1 : x2 ≤ 10) (h2 : 0 ≤ x3) (h3 : x3 ≤ 11) (h4 : 11 - x3 < ((x1 + 1 : Nat) : Int)) (h5 : 0 ≤ x4) (h6 : x4 ≤ 120) (h7 : x4 = x2) (h8 : x3 ≤ x4) (h9 : x5 = 4 * x3) (h10 : x6 = 4 * x3) (h11 : x7 = 4 * x3) (h12 : x8 = 4 * x3) (h13 : x9 = 4 * x3) (h14 : x0 = x3 + 1) : 11 - x0 < (x1 : Int) := by omega
theorem o18_449 {x0 x1 x2 x4 x5 x6 x7 x8 x9 : Int} {x3 : Nat} (h0 : 0 ≤ x1) (h1 : x1 ≤ 10) (h2 : 0 ≤ x2) (h3 : x2 ≤ 11) (h4 : 11 - x2 < ((x3 + 1 : Nat) : Int)) (h5 : 0 ≤ x4) (h6 : x4 ≤ 120) (h7 : x4 = x1) (h8 : x2 ≤ x4) (h9 : x5 = 4 * x2) (h10 : x6 = 4 * x2) (h11 : x7 = 4 * x2) (h12 : x8 = 4 * x2) (h13 : x9 = 4 * x2) (h14 : x0 = x2 + 1) : 0 ≤ x0 := by omega
theorem o18_450 {x0 x1 x2 x4 x5 x6 x7 x8 x9 : Int} {x3 : Nat} (h0 : 0 ≤ x1) (h1 : x1 ≤ 10) (h2 : 0 ≤ x2) (h3 : x2 ≤ 11) (h4 : 11 - x2 < ((x3 + 1 : Nat) : Int)) (h5 : 0 ≤ x4) (h6 : x4 ≤ 120) (h7 : x4 = x1) (h8 : x2 ≤ x4) (h9 : x5 = 4 * x2) (h10 : x6 = 4 * x2) (h11 : x7 = 4 * x2) (h12 : x8 = 4 * x2) (h13 : x9 = 4 * x2) (h14 : x0 = x2 + 1) : x0 ≤ 11 := by omega
theorem o18_451 {x0 : Int} (h0 : x0 = 0) : 11 - x0 < (((11 - x0 + 1).toNat : Nat) : Int) := by omega
theorem o18_452 {x0 : Int} (h0 : x0 = 0) : x0 ≤ 11 := by omega
theorem o18_453 {x0 : Int} (h0 : x0 = 0) : 30 - x0 < (((30 - x0 + 1).toNat : Nat) : Int) := by omega
theorem o18_454 {x0 : Int} (h0 : x0 = 0) : x0 ≤ 30 := by omega
theorem o18_455 {x0 : Int} (h0 : 0 ≤ x0) (h1 : x0 ≤ 0) : 0 ≤ x0 := by omega
theorem o18_456 {x0 : Int} (h0 : 0 ≤ x0) (h1 : x0 ≤ 0) : x0 ≤ 10 := by omega
set_option maxHeartbeats 4000000 in
set_option maxRecDepth 100000 in
theorem c_X2_forget (l : Launch) (G : GG) (Z : RZ) (ad : Nat → Nat) (ws0 : va_W) (hT : Ty G (SC tt) ad ws0) : Mq l yX2_forget cX2_forget 1 none 1 G Z [.ref (ad 79)] ws0 (PV G (SC tt) ad [18] ws0 (fun u => True)) := by
  refine Mq.start (by decide) (Nat.le_of_ble_eq_true rfl) ?_
  intro p e s m below meth c A ls C0 hZ h hl
  have hl : lv_has ls 1 [(0, .ref (ad 79))] := hl
  have h : Wt G (SC tt) ad A s s.heap [] ws0 := ⟨h, hT⟩
  obtain ⟨args, hargs⟩ : ∃ z, z = ([.ref (ad 79)] : List Value).toArray := ⟨_, rfl⟩
  rw [← hargs] at C0 ⊢
  have C0 : Cx p s m args meth c RX2 cX2_forget 1 none := C0
  obtain ⟨Q, hQ⟩ : ∃ z, z = MQ below ((PV G (SC tt) ad [18] ws0 (fun u => True)) A) args s 0 0 A := ⟨_, rfl⟩
  rw [← hQ]
  refine lv_aload_n C0.1 C0.2.1 dX2_forget_0 rfl (lv_at hl 0 rfl) ?_
  refine y_c1 (n := 0) C0 (by decide) dX2_forget_1 (fun v_1 e_2 => ?_)
  refine tp_X2_begun C0 h kSC_79 q_296 (o18_1 e_2) (o18_2 e_2) dX2_forget_2 (fun H locs ws_3 h u_4 => ?_)
  rw [hQ]
  exact y_vret C0 h (Fr.up u_4.1 kSC_79 (by decide)) trivial dX2_forget_5
set_option maxHeartbeats 4000000 in
set_option maxRecDepth 100000 in
theorem c_X2_beginUpTo (l : Launch) (G : GG) (Z : RZ) (ad : Nat → Nat) (ws0 : va_W) (hT : Ty G (SC tt) ad ws0) (a1 : Int32) (l1 : 0 ≤ a1.toInt) (u1 : a1.toInt ≤ 239) : Mq l yX2_beginUpTo cX2_beginUpTo 3 none 2 G Z [.ref (ad 79), .int a1] ws0 (PV G (SC tt) ad [18, 19, 20, 21] ws0 (fun u => True)) := by
  refine Mq.start (by decide) (Nat.le_of_ble_eq_true rfl) ?_
  intro p e s m below meth c A ls C0 hZ h hl
  have hl : lv_has ls 3 [(0, .ref (ad 79)), (1, .int a1)] := hl
  have h : Wt G (SC tt) ad A s s.heap [] ws0 := ⟨h, hT⟩
  obtain ⟨args, hargs⟩ : ∃ z, z = ([.ref (ad 79), .int a1] : List Value).toArray := ⟨_, rfl⟩
  rw [← hargs] at C0 ⊢
  have C0 : Cx p s m args meth c RX2 cX2_beginUpTo 3 none := C0
  obtain ⟨Q, hQ⟩ : ∃ z, z = MQ below ((PV G (SC tt) ad [18, 19, 20, 21] ws0 (fun u => True)) A) args s 0 0 A := ⟨_, rfl⟩
  rw [← hQ]
  have lp_3 : ∀ (n_5 : Nat) (f_7 : Int32) (H : Heap) (locs : List Loc) (ls : Array Slot) (ws_1 : va_W), 240 - f_7.toInt < (n_5 : Int) → 0 ≤ f_7.toInt → f_7.toInt ≤ 240 → fI ws_1 79 4 = f_7 → Wt G (SC tt) ad A s H locs ws_1 → Fr (SC tt) [18, 19, 20, 21] ws0 ws_1 → lv_has ls 3 [(0, .ref (ad 79)), (1, .int a1)] → W p l e (rmd 2 0 0) s m args below meth c H locs 0 0 Q (F0 m 0 ls []) := by
    intro n_5
    induction n_5 with
    | zero => intro f_7 H locs ls ws_1 hn_6 b_9 b_10 e_8 h hF_2 hl; exact ((o18_3 b_9 b_10 hn_6)).elim
    | succ n_5 ih_4 =>
      intro f_7 H locs ls ws_1 hn_6 b_9 b_10 e_8 h hF_2 hl
      refine lv_aload_n C0.1 C0.2.1 dX2_beginUpTo_0 rfl (lv_at hl 0 rfl) ?_
      refine tg_X2_begun C0 h kSC_79 q_296 dX2_beginUpTo_1 (fun v_11 e_12 e_13 e_14 => ?_)
      have q_15 : v_11.toInt = f_7.toInt := congrArg Int32.toInt (e_12.symm.trans (Eq.trans rfl e_8))
      refine lv_iload_n C0.1 C0.2.1 dX2_beginUpTo_4 rfl (lv_at hl 1 rfl) ?_
      refine y_icmp_gt (tgt := 93) C0 dX2_beginUpTo_5 (by decide) (fun c_16 => ?_) (fun c_16 => ?_)
      · -- 5
        rw [hQ]
        exact y_vret C0 h hF_2 trivial dX2_beginUpTo_93
      · -- 5
        refine lv_aload_n C0.1 C0.2.1 dX2_beginUpTo_8 rfl (lv_at hl 0 rfl) ?_
        refine tg_X2_free C0 h kSC_79 q_293 dX2_beginUpTo_9 ?_
        refine lv_aload_n C0.1 C0.2.1 dX2_beginUpTo_12 rfl (lv_at hl 0 rfl) ?_
        refine tg_X2_begun C0 h kSC_79 q_296 dX2_beginUpTo_13 (fun v_17 e_18 e_19 e_20 => ?_)
        have q_21 : v_17.toInt = f_7.toInt := congrArg Int32.toInt (e_18.symm.trans (Eq.trans rfl e_8))
        refine lv_aload_n C0.1 C0.2.1 dX2_beginUpTo_16 rfl (lv_at hl 0 rfl) ?_
        refine tg_X2_city C0 h kSC_79 q_292 dX2_beginUpTo_17 ?_
        refine lv_aload_n C0.1 C0.2.1 dX2_beginUpTo_20 rfl (lv_at hl 0 rfl) ?_
        refine tg_X2_city C0 h kSC_79 q_292 dX2_beginUpTo_21 ?_
        refine tg_X0_folk C0 h kSC_1 q_248 dX2_beginUpTo_24 ?_
        refine tg_X1_hours C0 h kSC_10 q_218 dX2_beginUpTo_27 (fun v_22 e_23 e_24 e_25 => ?_)
        refine lv_aload_n C0.1 C0.2.1 dX2_beginUpTo_30 rfl (lv_at hl 0 rfl) ?_
        refine tg_X2_begun C0 h kSC_79 q_296 dX2_beginUpTo_31 (fun v_26 e_27 e_28 e_29 => ?_)
        have q_30 : v_26.toInt = f_7.toInt := congrArg Int32.toInt (e_27.symm.trans (Eq.trans rfl e_8))
        refine y_iaddU C0 dX2_beginUpTo_34 (fun v_31 => ?_)
        refine y_ci h (y_rV (As := [.int v_31]) (rest := [.int v_17, .ref (ad 80)]) C0 hZ h (c_X0_freeBits l G Z ad _ h.2 1 kSC_1 v_31) k_X0_freeBits q_948 q_949 q_1102 kSC_1 rfl rfl rfl hl.1 rfl rfl (Nat.le_of_ble_eq_true rfl) dX2_beginUpTo_35 ⟨Nat.le_of_ble_eq_true rfl, Nat.le_of_ble_eq_true rfl⟩ ⟨Nat.le_of_ble_eq_true rfl, Nat.le_of_ble_eq_true rfl⟩) (fun r_35 H locs ws_32 h u_33 p_34 => ?_)
        refine y_iast C0 h kSC_80 rfl (by decide) (o18_4 l1 u1 b_9 b_10 hn_6 e_13 e_14 q_15 c_16 e_19 e_20 q_21 e_28 e_29 q_30) (o18_5 l1 u1 b_9 b_10 hn_6 e_13 e_14 q_15 c_16 e_19 e_20 q_21 e_28 e_29 q_30) (le_min r_35) (le_max r_35) dX2_beginUpTo_38 (fun H locs ws_36 h u_37 => ?_)
        refine y_c1 (n := 0) C0 (by decide) dX2_beginUpTo_39 (fun v_38 e_39 => ?_)
        refine lv_istore_n (lv' := [(2, .int v_38), (0, .ref (ad 79)), (1, .int a1)]) C0.1 C0.2.1 dX2_beginUpTo_40 rfl hl (by decide) rfl (fun ls hl => ?_)
        have lp_43 : ∀ (n_45 : Nat) (x2_40 : Int32) (H : Heap) (locs : List Loc) (ls : Array Slot) (ws_41 : va_W), 4 - x2_40.toInt < (n_45 : Int) → 0 ≤ x2_40.toInt → x2_40.toInt ≤ 4 → Wt G (SC tt) ad A s H locs ws_41 → Fr (SC tt) [20, 21] ws_36 ws_41 → lv_has ls 3 [(2, .int x2_40), (0, .ref (ad 79)), (1, .int a1)] → W p l e (rmd 2 0 0) s m args below meth c H locs 0 0 Q (F0 m 41 ls []) := by
          intro n_45
          induction n_45 with
          | zero => intro x2_40 H locs ls ws_41 hn_46 b_47 b_48 h hF_42 hl; exact ((o18_6 b_47 b_48 hn_46)).elim
          | succ n_45 ih_44 =>
            intro x2_40 H locs ls ws_41 hn_46 b_47 b_48 h hF_42 hl
            refine lv_iload_n C0.1 C0.2.1 dX2_beginUpTo_41 rfl (lv_at hl 0 rfl) ?_
            refine y_c1 (n := 4) C0 (by decide) dX2_beginUpTo_42 (fun v_49 e_50 => ?_)
            refine y_icmp_ge (tgt := 80) C0 dX2_beginUpTo_43 (by decide) (fun c_51 => ?_) (fun c_51 => ?_)
            · -- 43
              refine lv_aload_n C0.1 C0.2.1 dX2_beginUpTo_80 rfl (lv_at hl 1 rfl) ?_
              refine lv_dup C0.1 C0.2.1 dX2_beginUpTo_81 rfl ?_
              refine tg_X2_begun C0 h kSC_79 q_296 dX2_beginUpTo_82 (fun v_52 e_53 e_54 e_55 => ?_)
              have q_56 : v_52.toInt = f_7.toInt := congrArg Int32.toInt (e_53.symm.trans (Eq.trans (Eq.trans (Fr.fI hF_42 kSC_79 (by decide)) (Eq.trans (fI_of (u_37.1 79 (kd_ne (S := SC q0) kSC_79 kSC_80 (by decide)))) (Fr.fI u_33 kSC_79 (by decide)))) e_8))
              refine y_c1 (n := 1) C0 (by decide) dX2_beginUpTo_85 (fun v_57 e_58 => ?_)
              refine y_add C0 (o18_7 l1 u1 b_9 b_10 hn_6 e_13 e_14 q_15 c_16 e_19 e_20 q_21 e_28 e_29 q_30 e_54 e_55 q_56 e_58 (le_min v_52) (le_max v_52) (le_min v_57) (le_max v_57) (le_min a1) (le_max a1) (le_min f_7) (le_max f_7) (le_min v_11) (le_max v_11) (le_min v_17) (le_max v_17) (le_min v_26) (le_max v_26)) (o18_8 l1 u1 b_9 b_10 hn_6 e_13 e_14 q_15 c_16 e_19 e_20 q_21 e_28 e_29 q_30 e_54 e_55 q_56 e_58 (le_min v_52) (le_max v_52) (le_min v_57) (le_max v_57) (le_min a1) (le_max a1) (le_min f_7) (le_max f_7) (le_min v_11) (le_max v_11) (le_min v_17) (le_max v_17) (le_min v_26) (le_max v_26)) dX2_beginUpTo_86 (fun v_59 e_60 => ?_)
              refine tp_X2_begun C0 h kSC_79 q_296 (o18_9 l1 u1 b_9 b_10 hn_6 e_13 e_14 q_15 c_16 e_19 e_20 q_21 e_28 e_29 q_30 e_54 e_55 q_56 e_58 e_60) (o18_10 l1 u1 b_9 b_10 hn_6 e_13 e_14 q_15 c_16 e_19 e_20 q_21 e_28 e_29 q_30 e_54 e_55 q_56 e_58 e_60) dX2_beginUpTo_87 (fun H locs ws_61 h u_62 => ?_)
              refine lv_goto (tgt := 0) C0.1 C0.2.1 dX2_beginUpTo_90 (by decide) ?_
              exact ih_4 v_59 _ _ _ _ (o18_11 l1 u1 b_9 b_10 hn_6 e_13 e_14 q_15 c_16 e_19 e_20 q_21 e_28 e_29 q_30 e_54 e_55 q_56 e_58 e_60) (o18_9 l1 u1 b_9 b_10 hn_6 e_13 e_14 q_15 c_16 e_19 e_20 q_21 e_28 e_29 q_30 e_54 e_55 q_56 e_58 e_60) (o18_10 l1 u1 b_9 b_10 hn_6 e_13 e_14 q_15 c_16 e_19 e_20 q_21 e_28 e_29 q_30 e_54 e_55 q_56 e_58 e_60) (Eq.trans rfl u_62.2.1) h (Fr.tr (Fr.tr (Fr.tr (Fr.tr hF_2 (Fr.mono u_33 (by decide))) (Fr.up u_37.1 kSC_80 (by decide))) (Fr.mono hF_42 (by decide))) (Fr.up u_62.1 kSC_79 (by decide))) (lv_sub hl [1, 2] rfl)
            · -- 43
              refine lv_aload_n C0.1 C0.2.1 dX2_beginUpTo_46 rfl (lv_at hl 1 rfl) ?_
              refine tg_X2_asked C0 h kSC_79 q_294 dX2_beginUpTo_47 ?_
              refine y_c1 (n := 4) C0 (by decide) dX2_beginUpTo_50 (fun v_63 e_64 => ?_)
              refine lv_aload_n C0.1 C0.2.1 dX2_beginUpTo_51 rfl (lv_at hl 1 rfl) ?_
              refine tg_X2_begun C0 h kSC_79 q_296 dX2_beginUpTo_52 (fun v_65 e_66 e_67 e_68 => ?_)
              have q_69 : v_65.toInt = f_7.toInt := congrArg Int32.toInt (e_66.symm.trans (Eq.trans (Eq.trans (Fr.fI hF_42 kSC_79 (by decide)) (Eq.trans (fI_of (u_37.1 79 (kd_ne (S := SC q0) kSC_79 kSC_80 (by decide)))) (Fr.fI u_33 kSC_79 (by decide)))) e_8))
              refine y_cmul (n := 4) C0 (o18_12 e_64) (o18_13 l1 u1 b_9 b_10 hn_6 e_13 e_14 q_15 c_16 e_19 e_20 q_21 e_28 e_29 q_30 e_67 e_68 q_69 (le_min v_65) (le_max v_65) (le_min a1) (le_max a1) (le_min f_7) (le_max f_7) (le_min v_11) (le_max v_11) (le_min v_17) (le_max v_17) (le_min v_26) (le_max v_26)) (o18_14 l1 u1 b_9 b_10 hn_6 e_13 e_14 q_15 c_16 e_19 e_20 q_21 e_28 e_29 q_30 e_67 e_68 q_69 (le_min v_65) (le_max v_65) (le_min a1) (le_max a1) (le_min f_7) (le_max f_7) (le_min v_11) (le_max v_11) (le_min v_17) (le_max v_17) (le_min v_26) (le_max v_26)) dX2_beginUpTo_55 (fun v_70 e_71 => ?_)
              refine lv_iload_n C0.1 C0.2.1 dX2_beginUpTo_56 rfl (lv_at hl 0 rfl) ?_
              refine y_add C0 (o18_15 l1 u1 b_9 b_10 hn_6 e_13 e_14 q_15 c_16 e_19 e_20 q_21 e_28 e_29 q_30 b_47 b_48 hn_46 e_50 c_51 e_67 e_68 q_69 e_71 (le_min v_70) (le_max v_70) (le_min x2_40) (le_max x2_40) (le_min a1) (le_max a1) (le_min f_7) (le_max f_7) (le_min v_11) (le_max v_11) (le_min v_17) (le_max v_17) (le_min v_26) (le_max v_26) (le_min v_49) (le_max v_49) (le_min v_65) (le_max v_65)) (o18_16 l1 u1 b_9 b_10 hn_6 e_13 e_14 q_15 c_16 e_19 e_20 q_21 e_28 e_29 q_30 b_47 b_48 hn_46 e_50 c_51 e_67 e_68 q_69 e_71 (le_min v_70) (le_max v_70) (le_min x2_40) (le_max x2_40) (le_min a1) (le_max a1) (le_min f_7) (le_max f_7) (le_min v_11) (le_max v_11) (le_min v_17) (le_max v_17) (le_min v_26) (le_max v_26) (le_min v_49) (le_max v_49) (le_min v_65) (le_max v_65)) dX2_beginUpTo_57 (fun v_72 e_73 => ?_)
              refine y_c1 (n := 0) C0 (by decide) dX2_beginUpTo_58 (fun v_74 e_75 => ?_)
              refine y_iast C0 h kSC_81 rfl (by decide) (o18_17 l1 u1 b_9 b_10 hn_6 e_13 e_14 q_15 c_16 e_19 e_20 q_21 e_28 e_29 q_30 b_47 b_48 hn_46 e_50 c_51 e_67 e_68 q_69 e_71 e_73) (o18_18 l1 u1 b_9 b_10 hn_6 e_13 e_14 q_15 c_16 e_19 e_20 q_21 e_28 e_29 q_30 b_47 b_48 hn_46 e_50 c_51 e_67 e_68 q_69 e_71 e_73) (le_min v_74) (le_max v_74) dX2_beginUpTo_59 (fun H locs ws_76 h u_77 => ?_)
              refine lv_aload_n C0.1 C0.2.1 dX2_beginUpTo_60 rfl (lv_at hl 1 rfl) ?_
              refine tg_X2_allowed C0 h kSC_79 q_295 dX2_beginUpTo_61 ?_
              refine y_c1 (n := 4) C0 (by decide) dX2_beginUpTo_64 (fun v_78 e_79 => ?_)
              refine lv_aload_n C0.1 C0.2.1 dX2_beginUpTo_65 rfl (lv_at hl 1 rfl) ?_
              refine tg_X2_begun C0 h kSC_79 q_296 dX2_beginUpTo_66 (fun v_80 e_81 e_82 e_83 => ?_)
              have q_84 : v_80.toInt = f_7.toInt := congrArg Int32.toInt (e_81.symm.trans (Eq.trans (Eq.trans (fI_of (u_77.1 79 (kd_ne (S := SC q0) kSC_79 kSC_81 (by decide)))) (Eq.trans (Fr.fI hF_42 kSC_79 (by decide)) (Eq.trans (fI_of (u_37.1 79 (kd_ne (S := SC q0) kSC_79 kSC_80 (by decide)))) (Fr.fI u_33 kSC_79 (by decide))))) e_8))
              refine y_cmul (n := 4) C0 (o18_12 e_79) (o18_19 l1 u1 b_9 b_10 hn_6 e_13 e_14 q_15 c_16 e_19 e_20 q_21 e_28 e_29 q_30 b_47 b_48 hn_46 e_50 c_51 e_67 e_68 q_69 e_71 e_73 e_82 e_83 q_84 (le_min v_80) (le_max v_80) (le_min a1) (le_max a1) (le_min f_7) (le_max f_7) (le_min v_11) (le_max v_11) (le_min v_17) (le_max v_17) (le_min v_26) (le_max v_26) (le_min x2_40) (le_max x2_40) (le_min v_49) (le_max v_49) (le_min v_65) (le_max v_65) (le_min v_70) (le_max v_70) (le_min v_72) (le_max v_72)) (o18_20 l1 u1 b_9 b_10 hn_6 e_13 e_14 q_15 c_16 e_19 e_20 q_21 e_28 e_29 q_30 b_47 b_48 hn_46 e_50 c_51 e_67 e_68 q_69 e_71 e_73 e_82 e_83 q_84 (le_min v_80) (le_max v_80) (le_min a1) (le_max a1) (le_min f_7) (le_max f_7) (le_min v_11) (le_max v_11) (le_min v_17) (le_max v_17) (le_min v_26) (le_max v_26) (le_min x2_40) (le_max x2_40) (le_min v_49) (le_max v_49) (le_min v_65) (le_max v_65) (le_min v_70) (le_max v_70) (le_min v_72) (le_max v_72)) dX2_beginUpTo_69 (fun v_85 e_86 => ?_)
              refine lv_iload_n C0.1 C0.2.1 dX2_beginUpTo_70 rfl (lv_at hl 0 rfl) ?_
              refine y_add C0 (o18_21 l1 u1 b_9 b_10 hn_6 e_13 e_14 q_15 c_16 e_19 e_20 q_21 e_28 e_29 q_30 b_47 b_48 hn_46 e_50 c_51 e_67 e_68 q_69 e_71 e_73 e_82 e_83 q_84 e_86 (le_min v_85) (le_max v_85) (le_min x2_40) (le_max x2_40) (le_min a1) (le_max a1) (le_min f_7) (le_max f_7) (le_min v_11) (le_max v_11) (le_min v_17) (le_max v_17) (le_min v_26) (le_max v_26) (le_min v_49) (le_max v_49) (le_min v_65) (le_max v_65) (le_min v_70) (le_max v_70) (le_min v_72) (le_max v_72) (le_min v_80) (le_max v_80)) (o18_22 l1 u1 b_9 b_10 hn_6 e_13 e_14 q_15 c_16 e_19 e_20 q_21 e_28 e_29 q_30 b_47 b_48 hn_46 e_50 c_51 e_67 e_68 q_69 e_71 e_73 e_82 e_83 q_84 e_86 (le_min v_85) (le_max v_85) (le_min x2_40) (le_max x2_40) (le_min a1) (le_max a1) (le_min f_7) (le_max f_7) (le_min v_11) (le_max v_11) (le_min v_17) (le_max v_17) (le_min v_26) (le_max v_26) (le_min v_49) (le_max v_49) (le_min v_65) (le_max v_65) (le_min v_70) (le_max v_70) (le_min v_72) (le_max v_72) (le_min v_80) (le_max v_80)) dX2_beginUpTo_71 (fun v_87 e_88 => ?_)
              refine y_c1 (n := 0) C0 (by decide) dX2_beginUpTo_72 (fun v_89 e_90 => ?_)
              refine y_iast C0 h kSC_82 rfl (by decide) (o18_23 l1 u1 b_9 b_10 hn_6 e_13 e_14 q_15 c_16 e_19 e_20 q_21 e_28 e_29 q_30 b_47 b_48 hn_46 e_50 c_51 e_67 e_68 q_69 e_71 e_73 e_82 e_83 q_84 e_86 e_88) (o18_24 l1 u1 b_9 b_10 hn_6 e_13 e_14 q_15 c_16 e_19 e_20 q_21 e_28 e_29 q_30 b_47 b_48 hn_46 e_50 c_51 e_67 e_68 q_69 e_71 e_73 e_82 e_83 q_84 e_86 e_88) (le_min v_89) (le_max v_89) dX2_beginUpTo_73 (fun H locs ws_91 h u_92 => ?_)
              refine y_inc (kp := 0) (n := 1) (fun v_93 => [(2, .int v_93), (0, .ref (ad 79)), (1, .int a1)]) C0 hl rfl (by decide) (by decide) (fun _ => rfl) (o18_25 l1 u1 b_9 b_10 hn_6 e_13 e_14 q_15 c_16 e_19 e_20 q_21 e_28 e_29 q_30 b_47 b_48 hn_46 e_50 c_51 e_67 e_68 q_69 e_71 e_73 e_82 e_83 q_84 e_86 e_88 (le_min x2_40) (le_max x2_40) (le_min a1) (le_max a1) (le_min f_7) (le_max f_7) (le_min v_11) (le_max v_11) (le_min v_17) (le_max v_17) (le_min v_26) (le_max v_26) (le_min v_49) (le_max v_49) (le_min v_65) (le_max v_65) (le_min v_70) (le_max v_70) (le_min v_72) (le_max v_72) (le_min v_80) (le_max v_80) (le_min v_85) (le_max v_85) (le_min v_87) (le_max v_87)) (o18_26 l1 u1 b_9 b_10 hn_6 e_13 e_14 q_15 c_16 e_19 e_20 q_21 e_28 e_29 q_30 b_47 b_48 hn_46 e_50 c_51 e_67 e_68 q_69 e_71 e_73 e_82 e_83 q_84 e_86 e_88 (le_min x2_40) (le_max x2_40) (le_min a1) (le_max a1) (le_min f_7) (le_max f_7) (le_min v_11) (le_max v_11) (le_min v_17) (le_max v_17) (le_min v_26) (le_max v_26) (le_min v_49) (le_max v_49) (le_min v_65) (le_max v_65) (le_min v_70) (le_max v_70) (le_min v_72) (le_max v_72) (le_min v_80) (le_max v_80) (le_min v_85) (le_max v_85) (le_min v_87) (le_max v_87)) dX2_beginUpTo_74 (fun v_93 ls e_94 hl => ?_)
              refine lv_goto (tgt := 41) C0.1 C0.2.1 dX2_beginUpTo_77 (by decide) ?_
              exact ih_44 v_93 _ _ _ _ (o18_27 l1 u1 b_9 b_10 hn_6 e_13 e_14 q_15 c_16 e_19 e_20 q_21 e_28 e_29 q_30 b_47 b_48 hn_46 e_50 c_51 e_67 e_68 q_69 e_71 e_73 e_82 e_83 q_84 e_86 e_88 e_94) (o18_28 l1 u1 b_9 b_10 hn_6 e_13 e_14 q_15 c_16 e_19 e_20 q_21 e_28 e_29 q_30 b_47 b_48 hn_46 e_50 c_51 e_67 e_68 q_69 e_71 e_73 e_82 e_83 q_84 e_86 e_88 e_94) (o18_29 l1 u1 b_9 b_10 hn_6 e_13 e_14 q_15 c_16 e_19 e_20 q_21 e_28 e_29 q_30 b_47 b_48 hn_46 e_50 c_51 e_67 e_68 q_69 e_71 e_73 e_82 e_83 q_84 e_86 e_88 e_94) h (Fr.tr (Fr.tr hF_42 (Fr.up u_77.1 kSC_81 (by decide))) (Fr.up u_92.1 kSC_82 (by decide))) (lv_sub hl [0, 1, 2] rfl)
        exact lp_43 ((4 - v_38.toInt + 1).toNat) v_38 _ _ _ _ (o18_30 e_39) (o18_1 e_39) (o18_31 e_39) h Fr.rf (lv_sub hl [0, 1, 2] rfl)
  obtain ⟨f_95, e_96⟩ : ∃ v, fI ws0 79 4 = v := ⟨_, rfl⟩
  have b_97 := ty_fI (k := 4) h.2 kSC_79 rfl rfl
  rw [e_96] at b_97
  exact lp_3 ((240 - f_95.toInt + 1).toNat) f_95 _ _ _ _ (o18_32 b_97.1 b_97.2) (o18_33 b_97.1 b_97.2) (o18_34 b_97.1 b_97.2) e_96 h Fr.rf (lv_sub hl [0, 1] rfl)
set_option maxHeartbeats 4000000 in
set_option maxRecDepth 100000 in
theorem c_X2_freeAt (l : Launch) (G : GG) (Z : RZ) (ad : Nat → Nat) (ws0 : va_W) (hT : Ty G (SC tt) ad ws0) (a1 : Int32) (l1 : 0 ≤ a1.toInt) (u1 : a1.toInt ≤ 239) : Mq l yX2_freeAt cX2_freeAt 2 (some .int) 3 G Z [.ref (ad 79), .int a1] ws0 (PI G (SC tt) ad [18, 19, 20, 21] ws0 (fun r u => True)) := by
  refine Mq.start (by decide) (Nat.le_of_ble_eq_true rfl) ?_
  intro p e s m below meth c A ls C0 hZ h hl
  have hl : lv_has ls 2 [(0, .ref (ad 79)), (1, .int a1)] := hl
  have h : Wt G (SC tt) ad A s s.heap [] ws0 := ⟨h, hT⟩
  obtain ⟨args, hargs⟩ : ∃ z, z = ([.ref (ad 79), .int a1] : List Value).toArray := ⟨_, rfl⟩
  rw [← hargs] at C0 ⊢
  have C0 : Cx p s m args meth c RX2 cX2_freeAt 2 (some .int) := C0
  obtain ⟨Q, hQ⟩ : ∃ z, z = MQ below ((PI G (SC tt) ad [18, 19, 20, 21] ws0 (fun r u => True)) A) args s 0 0 A := ⟨_, rfl⟩
  rw [← hQ]
  refine lv_aload_n C0.1 C0.2.1 dX2_freeAt_0 rfl (lv_at hl 0 rfl) ?_
  refine lv_iload_n C0.1 C0.2.1 dX2_freeAt_1 rfl (lv_at hl 1 rfl) ?_
  refine y_cv h (y_rV (As := [.int a1]) (rest := []) C0 hZ h (c_X2_beginUpTo l G Z ad _ h.2 a1 (o18_35 l1 u1) (o18_36 l1 u1)) k_X2_beginUpTo q_1100 q_35 q_1098 kSC_79 rfl rfl rfl hl.1 rfl rfl (Nat.le_of_ble_eq_true rfl) dX2_freeAt_2 ⟨Nat.le_of_ble_eq_true rfl, Nat.le_of_ble_eq_true rfl⟩ ⟨Nat.le_of_ble_eq_true rfl, Nat.le_of_ble_eq_true rfl⟩) (fun H locs ws_1 h u_2 p_3 => ?_)
  refine lv_aload_n C0.1 C0.2.1 dX2_freeAt_5 rfl (lv_at hl 0 rfl) ?_
  refine tg_X2_free C0 h kSC_79 q_293 dX2_freeAt_6 ?_
  refine lv_iload_n C0.1 C0.2.1 dX2_freeAt_9 rfl (lv_at hl 1 rfl) ?_
  refine y_iald C0 h kSC_80 rfl (by decide) (o18_35 l1 u1) (o18_37 l1 u1) dX2_freeAt_10 (fun v_4 e_5 e_6 e_7 => ?_)
  rw [hQ]
  exact y_iret C0 h u_2 trivial dX2_freeAt_11
set_option maxHeartbeats 4000000 in
set_option maxRecDepth 100000 in
theorem c_X2_allowing (l : Launch) (G : GG) (Z : RZ) (ad : Nat → Nat) (ws0 : va_W) (hT : Ty G (SC tt) ad ws0) (a1 : Int32) (a2 : Int32) (a3 : Int32) (l1 : 0 ≤ a1.toInt) (u1 : a1.toInt ≤ 239) (l2 : 0 ≤ a2.toInt) (u2 : a2.toInt ≤ 3) : Mq l yX2_allowing cX2_allowing 8 (some .int) 3 G Z [.ref (ad 79), .int a1, .int a2, .int a3] ws0 (PI G (SC tt) ad [4, 5, 18, 19, 20, 21] ws0 (fun r u => True)) := by
  refine Mq.start (by decide) (Nat.le_of_ble_eq_true rfl) ?_
  intro p e s m below meth c A ls C0 hZ h hl
  have hl : lv_has ls 8 [(0, .ref (ad 79)), (1, .int a1), (2, .int a2), (3, .int a3)] := hl
  have h : Wt G (SC tt) ad A s s.heap [] ws0 := ⟨h, hT⟩
  obtain ⟨args, hargs⟩ : ∃ z, z = ([.ref (ad 79), .int a1, .int a2, .int a3] : List Value).toArray := ⟨_, rfl⟩
  rw [← hargs] at C0 ⊢
  have C0 : Cx p s m args meth c RX2 cX2_allowing 8 (some .int) := C0
  obtain ⟨Q, hQ⟩ : ∃ z, z = MQ below ((PI G (SC tt) ad [4, 5, 18, 19, 20, 21] ws0 (fun r u => True)) A) args s 0 0 A := ⟨_, rfl⟩
  rw [← hQ]
  refine lv_aload_n C0.1 C0.2.1 dX2_allowing_0 rfl (lv_at hl 0 rfl) ?_
  refine tg_X2_city C0 h kSC_79 q_292 dX2_allowing_1 ?_
  refine tg_X0_mayLaw C0 h kSC_1 q_245 dX2_allowing_4 ?_
  refine lv_astore (lv' := [(4, .ref (ad 6)), (0, .ref (ad 79)), (1, .int a1), (2, .int a2), (3, .int a3)]) C0.1 C0.2.1 dX2_allowing_7 hl (by decide) rfl (fun ls hl => ?_)
  refine lv_aload C0.1 C0.2.1 dX2_allowing_9 (lv_at hl 0 rfl) ?_
  refine y_ci h (y_rV (As := []) (rest := []) C0 hZ h (c_X4_isTold l G Z ad _ h.2 6 kSC_6) k_X4_isTold q_931 q_932 q_1120 kSC_6 rfl rfl rfl hl.1 rfl rfl (Nat.le_of_ble_eq_true rfl) dX2_allowing_11 ⟨Nat.le_of_ble_eq_true rfl, Nat.le_of_ble_eq_true rfl⟩ ⟨Nat.le_of_ble_eq_true rfl, Nat.le_of_ble_eq_true rfl⟩) (fun r_4 H locs ws_1 h u_2 p_3 => ?_)
  obtain ⟨e_5, e_6⟩ := p_3
  refine y_if_eq (tgt := 27) C0 dX2_allowing_14 (by decide) (fun c_7 => ?_) (fun c_7 => ?_)
  · -- 14
    refine lv_iload_n C0.1 C0.2.1 dX2_allowing_27 rfl (lv_at hl 4 rfl) ?_
    rw [hQ]
    exact y_iret C0 h (Fr.mono u_2 (by decide)) trivial dX2_allowing_28
  · -- 14
    refine lv_aload_n C0.1 C0.2.1 dX2_allowing_17 rfl (lv_at hl 1 rfl) ?_
    refine tg_X2_city C0 h kSC_79 q_292 dX2_allowing_18 ?_
    refine tg_X0_wide C0 h kSC_1 q_257 dX2_allowing_21 (fun v_8 e_9 e_10 e_11 => ?_)
    refine y_if_gt (tgt := 29) C0 dX2_allowing_24 (by decide) (fun c_12 => ?_) (fun c_12 => ?_)
    · -- 24
      refine lv_aload_n C0.1 C0.2.1 dX2_allowing_29 rfl (lv_at hl 1 rfl) ?_
      refine lv_iload_n C0.1 C0.2.1 dX2_allowing_30 rfl (lv_at hl 2 rfl) ?_
      refine y_cv h (y_rV (As := [.int a1]) (rest := []) C0 hZ h (c_X2_beginUpTo l G Z ad _ h.2 a1 (o18_35 l1 u1) (o18_36 l1 u1)) k_X2_beginUpTo q_1100 q_35 q_1098 kSC_79 rfl rfl rfl hl.1 rfl rfl (Nat.le_of_ble_eq_true rfl) dX2_allowing_31 ⟨Nat.le_of_ble_eq_true rfl, Nat.le_of_ble_eq_true rfl⟩ ⟨Nat.le_of_ble_eq_true rfl, Nat.le_of_ble_eq_true rfl⟩) (fun H locs ws_13 h u_14 p_15 => ?_)
      refine y_c1 (n := 4) C0 (by decide) dX2_allowing_34 (fun v_16 e_17 => ?_)
      refine lv_aload C0.1 C0.2.1 dX2_allowing_35 (lv_at hl 0 rfl) ?_
      refine lv_iload_n C0.1 C0.2.1 dX2_allowing_37 rfl (lv_at hl 2 rfl) ?_
      refine y_ci h (y_rV (As := [.int a1]) (rest := [.int v_16]) C0 hZ h (c_X4_firstLikeN l G Z ad _ h.2 6 kSC_6 a1 (o18_35 l1 u1) (o18_36 l1 u1)) k_X4_firstLike q_1122 q_1123 q_1121 kSC_6 rfl rfl rfl hl.1 rfl rfl (Nat.le_of_ble_eq_true rfl) dX2_allowing_38 ⟨Nat.le_of_ble_eq_true rfl, Nat.le_of_ble_eq_true rfl⟩ ⟨Nat.le_of_ble_eq_true rfl, Nat.le_of_ble_eq_true rfl⟩) (fun r_21 H locs ws_18 h u_19 p_20 => ?_)
      obtain ⟨e_22, e_23⟩ := p_20
      refine y_cmul (n := 4) C0 (o18_12 e_17) (o18_38 e_22 e_23 (le_min r_21) (le_max r_21)) (o18_39 e_22 e_23 (le_min r_21) (le_max r_21)) dX2_allowing_41 (fun v_24 e_25 => ?_)
      refine lv_aload C0.1 C0.2.1 dX2_allowing_42 (lv_at hl 0 rfl) ?_
      refine lv_iload_n C0.1 C0.2.1 dX2_allowing_44 rfl (lv_at hl 3 rfl) ?_
      refine y_ci h (y_rV (As := [.int a2]) (rest := [.int v_24]) C0 hZ h (c_X4_firstHeadLike l G Z ad _ h.2 6 kSC_6 a2 (o18_40 l2 u2) (o18_41 l2 u2)) k_X4_firstHeadLike q_1130 q_1131 q_1129 kSC_6 rfl rfl rfl hl.1 rfl rfl (Nat.le_of_ble_eq_true rfl) dX2_allowing_45 ⟨Nat.le_of_ble_eq_true rfl, Nat.le_of_ble_eq_true rfl⟩ ⟨Nat.le_of_ble_eq_true rfl, Nat.le_of_ble_eq_true rfl⟩) (fun r_29 H locs ws_26 h u_27 p_28 => ?_)
      obtain ⟨e_30, e_31⟩ := p_28
      refine y_add C0 (o18_42 e_22 e_23 e_25 e_30 e_31 (le_min v_24) (le_max v_24) (le_min r_29) (le_max r_29) (le_min r_21) (le_max r_21)) (o18_43 e_22 e_23 e_25 e_30 e_31 (le_min v_24) (le_max v_24) (le_min r_29) (le_max r_29) (le_min r_21) (le_max r_21)) dX2_allowing_48 (fun v_32 e_33 => ?_)
      refine lv_istore (lv' := [(5, .int v_32), (4, .ref (ad 6)), (0, .ref (ad 79)), (1, .int a1), (2, .int a2), (3, .int a3)]) C0.1 C0.2.1 dX2_allowing_49 hl (by decide) rfl (fun ls hl => ?_)
      refine lv_iload_n C0.1 C0.2.1 dX2_allowing_51 rfl (lv_at hl 5 rfl) ?_
      refine lv_aload_n C0.1 C0.2.1 dX2_allowing_52 rfl (lv_at hl 2 rfl) ?_
      refine tg_X2_asked C0 h kSC_79 q_294 dX2_allowing_53 ?_
      refine lv_iload C0.1 C0.2.1 dX2_allowing_56 (lv_at hl 0 rfl) ?_
      refine y_iald C0 h kSC_81 rfl (by decide) (o18_44 e_22 e_23 e_25 e_30 e_31 e_33) (o18_45 e_22 e_23 e_25 e_30 e_31 e_33) dX2_allowing_58 (fun v_34 e_35 e_36 e_37 => ?_)
      refine y_c1 (n := (-1)) C0 (by decide) dX2_allowing_59 (fun v_38 e_39 => ?_)
      refine y_ixorU C0 dX2_allowing_60 (fun v_40 => ?_)
      refine y_iandU C0 dX2_allowing_61 (fun v_41 => ?_)
      refine lv_istore (lv' := [(6, .int v_41), (5, .int v_32), (4, .ref (ad 6)), (0, .ref (ad 79)), (1, .int a1), (2, .int a2), (3, .int a3)]) C0.1 C0.2.1 dX2_allowing_62 hl (by decide) rfl (fun ls hl => ?_)
      refine y_c1 (n := 0) C0 (by decide) dX2_allowing_64 (fun v_42 e_43 => ?_)
      refine lv_istore (lv' := [(7, .int v_42), (6, .int v_41), (5, .int v_32), (4, .ref (ad 6)), (0, .ref (ad 79)), (1, .int a1), (2, .int a2), (3, .int a3)]) C0.1 C0.2.1 dX2_allowing_65 hl (by decide) rfl (fun ls hl => ?_)
      have lp_47 : ∀ (n_49 : Nat) (x7_44 : Int32) (H : Heap) (locs : List Loc) (ls : Array Slot) (ws_45 : va_W), 25 - x7_44.toInt < (n_49 : Int) → 0 ≤ x7_44.toInt → x7_44.toInt ≤ 25 → Wt G (SC tt) ad A s H locs ws_45 → Fr (SC tt) [4, 5, 21] ws_26 ws_45 → lv_has ls 8 [(7, .int x7_44), (6, .int v_41), (5, .int v_32), (4, .ref (ad 6)), (0, .ref (ad 79)), (1, .int a1), (2, .int a2), (3, .int a3)] → W p l e (rmd 3 0 0) s m args below meth c H locs 0 0 Q (F0 m 67 ls []) := by
        intro n_49
        induction n_49 with
        | zero => intro x7_44 H locs ls ws_45 hn_50 b_51 b_52 h hF_46 hl; exact ((o18_46 b_51 b_52 hn_50)).elim
        | succ n_49 ih_48 =>
          intro x7_44 H locs ls ws_45 hn_50 b_51 b_52 h hF_46 hl
          refine lv_iload C0.1 C0.2.1 dX2_allowing_67 (lv_at hl 0 rfl) ?_
          refine y_c2 (n := 25) C0 (by decide) dX2_allowing_69 (fun v_53 e_54 => ?_)
          refine y_icmp_ge (tgt := 166) C0 dX2_allowing_71 (by decide) (fun c_55 => ?_) (fun c_55 => ?_)
          · -- 71
            refine lv_aload_n C0.1 C0.2.1 dX2_allowing_166 rfl (lv_at hl 4 rfl) ?_
            refine tg_X2_asked C0 h kSC_79 q_294 dX2_allowing_167 ?_
            refine lv_iload C0.1 C0.2.1 dX2_allowing_170 (lv_at hl 2 rfl) ?_
            refine lv_dup2_11 C0.1 C0.2.1 dX2_allowing_172 rfl rfl ?_
            refine y_iald C0 h kSC_81 rfl (by decide) (o18_44 e_22 e_23 e_25 e_30 e_31 e_33) (o18_45 e_22 e_23 e_25 e_30 e_31 e_33) dX2_allowing_173 (fun v_56 e_57 e_58 e_59 => ?_)
            have q_60 : v_56.toInt = v_34.toInt := congrArg Int32.toInt (e_57.symm.trans (Eq.trans (Fr.aI hF_46 kSC_81 (by decide)) e_35))
            refine lv_iload_n C0.1 C0.2.1 dX2_allowing_174 rfl (lv_at hl 7 rfl) ?_
            refine y_iorU C0 dX2_allowing_175 (fun v_61 => ?_)
            refine y_iast C0 h kSC_81 rfl (by decide) (o18_44 e_22 e_23 e_25 e_30 e_31 e_33) (o18_45 e_22 e_23 e_25 e_30 e_31 e_33) (le_min v_61) (le_max v_61) dX2_allowing_176 (fun H locs ws_62 h u_63 => ?_)
            refine lv_iload_n C0.1 C0.2.1 dX2_allowing_177 rfl (lv_at hl 7 rfl) ?_
            refine lv_aload_n C0.1 C0.2.1 dX2_allowing_178 rfl (lv_at hl 4 rfl) ?_
            refine tg_X2_allowed C0 h kSC_79 q_295 dX2_allowing_179 ?_
            refine lv_iload C0.1 C0.2.1 dX2_allowing_182 (lv_at hl 2 rfl) ?_
            refine y_iald C0 h kSC_82 rfl (by decide) (o18_44 e_22 e_23 e_25 e_30 e_31 e_33) (o18_45 e_22 e_23 e_25 e_30 e_31 e_33) dX2_allowing_184 (fun v_64 e_65 e_66 e_67 => ?_)
            refine y_iandU C0 dX2_allowing_185 (fun v_68 => ?_)
            rw [hQ]
            exact y_iret C0 h (Fr.tr (Fr.tr (Fr.tr (Fr.tr (Fr.tr (Fr.mono u_2 (by decide)) (Fr.mono u_14 (by decide))) (Fr.mono u_19 (by decide))) (Fr.mono u_27 (by decide))) (Fr.mono hF_46 (by decide))) (Fr.up u_63.1 kSC_81 (by decide))) trivial dX2_allowing_186
          · -- 71
            refine lv_iload C0.1 C0.2.1 dX2_allowing_74 (lv_at hl 1 rfl) ?_
            refine lv_iload C0.1 C0.2.1 dX2_allowing_76 (lv_at hl 0 rfl) ?_
            refine y_ishrU C0 dX2_allowing_78 (fun v_69 => ?_)
            refine y_if_eq (tgt := 166) C0 dX2_allowing_79 (by decide) (fun c_70 => ?_) (fun c_70 => ?_)
            · -- 79
              refine lv_aload_n C0.1 C0.2.1 dX2_allowing_166 rfl (lv_at hl 4 rfl) ?_
              refine tg_X2_asked C0 h kSC_79 q_294 dX2_allowing_167 ?_
              refine lv_iload C0.1 C0.2.1 dX2_allowing_170 (lv_at hl 2 rfl) ?_
              refine lv_dup2_11 C0.1 C0.2.1 dX2_allowing_172 rfl rfl ?_
              refine y_iald C0 h kSC_81 rfl (by decide) (o18_44 e_22 e_23 e_25 e_30 e_31 e_33) (o18_45 e_22 e_23 e_25 e_30 e_31 e_33) dX2_allowing_173 (fun v_71 e_72 e_73 e_74 => ?_)
              have q_75 : v_71.toInt = v_34.toInt := congrArg Int32.toInt (e_72.symm.trans (Eq.trans (Fr.aI hF_46 kSC_81 (by decide)) e_35))
              refine lv_iload_n C0.1 C0.2.1 dX2_allowing_174 rfl (lv_at hl 7 rfl) ?_
              refine y_iorU C0 dX2_allowing_175 (fun v_76 => ?_)
              refine y_iast C0 h kSC_81 rfl (by decide) (o18_44 e_22 e_23 e_25 e_30 e_31 e_33) (o18_45 e_22 e_23 e_25 e_30 e_31 e_33) (le_min v_76) (le_max v_76) dX2_allowing_176 (fun H locs ws_77 h u_78 => ?_)
              refine lv_iload_n C0.1 C0.2.1 dX2_allowing_177 rfl (lv_at hl 7 rfl) ?_
              refine lv_aload_n C0.1 C0.2.1 dX2_allowing_178 rfl (lv_at hl 4 rfl) ?_
              refine tg_X2_allowed C0 h kSC_79 q_295 dX2_allowing_179 ?_
              refine lv_iload C0.1 C0.2.1 dX2_allowing_182 (lv_at hl 2 rfl) ?_
              refine y_iald C0 h kSC_82 rfl (by decide) (o18_44 e_22 e_23 e_25 e_30 e_31 e_33) (o18_45 e_22 e_23 e_25 e_30 e_31 e_33) dX2_allowing_184 (fun v_79 e_80 e_81 e_82 => ?_)
              refine y_iandU C0 dX2_allowing_185 (fun v_83 => ?_)
              rw [hQ]
              exact y_iret C0 h (Fr.tr (Fr.tr (Fr.tr (Fr.tr (Fr.tr (Fr.mono u_2 (by decide)) (Fr.mono u_14 (by decide))) (Fr.mono u_19 (by decide))) (Fr.mono u_27 (by decide))) (Fr.mono hF_46 (by decide))) (Fr.up u_78.1 kSC_81 (by decide))) trivial dX2_allowing_186
            · -- 79
              refine lv_iload C0.1 C0.2.1 dX2_allowing_82 (lv_at hl 1 rfl) ?_
              refine lv_iload C0.1 C0.2.1 dX2_allowing_84 (lv_at hl 0 rfl) ?_
              refine y_ishrU C0 dX2_allowing_86 (fun v_84 => ?_)
              refine y_c1 (n := 1) C0 (by decide) dX2_allowing_87 (fun v_85 e_86 => ?_)
              refine y_and 1 1 (n := 1) C0 (Eq.trans (o18_47 e_86) (by decide)) (by decide) (by decide) (by decide) dX2_allowing_88 (fun v_87 e_88 e_89 => ?_)
              refine y_if_eq (tgt := 160) C0 dX2_allowing_89 (by decide) (fun c_90 => ?_) (fun c_90 => ?_)
              · -- 89
                refine y_inc (kp := 0) (n := 1) (fun v_91 => [(7, .int v_91), (6, .int v_41), (5, .int v_32), (4, .ref (ad 6)), (0, .ref (ad 79)), (1, .int a1), (2, .int a2), (3, .int a3)]) C0 hl rfl (by decide) (by decide) (fun _ => rfl) (o18_48 b_51 b_52 hn_50 e_54 c_55 (le_min x7_44) (le_max x7_44) (le_min v_53) (le_max v_53)) (o18_49 b_51 b_52 hn_50 e_54 c_55 (le_min x7_44) (le_max x7_44) (le_min v_53) (le_max v_53)) dX2_allowing_160 (fun v_91 ls e_92 hl => ?_)
                refine lv_goto (tgt := 67) C0.1 C0.2.1 dX2_allowing_163 (by decide) ?_
                exact ih_48 v_91 _ _ _ _ (o18_50 b_51 b_52 hn_50 e_54 c_55 e_92) (o18_51 b_51 b_52 hn_50 e_54 c_55 e_92) (o18_52 b_51 b_52 hn_50 e_54 c_55 e_92) h hF_46 (lv_sub hl [0, 1, 2, 3, 4, 5, 6, 7] rfl)
              · -- 89
                refine lv_aload C0.1 C0.2.1 dX2_allowing_92 (lv_at hl 3 rfl) ?_
                refine lv_iload C0.1 C0.2.1 dX2_allowing_94 (lv_at hl 0 rfl) ?_
                refine lv_aload_n C0.1 C0.2.1 dX2_allowing_96 rfl (lv_at hl 4 rfl) ?_
                refine tg_X2_city C0 h kSC_79 q_292 dX2_allowing_97 ?_
                refine tg_X0_wide C0 h kSC_1 q_257 dX2_allowing_100 (fun v_93 e_94 e_95 e_96 => ?_)
                have q_97 : v_93.toInt = v_8.toInt := congrArg Int32.toInt (e_94.symm.trans (Eq.trans (Eq.trans (Fr.fI hF_46 kSC_1 (by decide)) (Eq.trans (Fr.fI u_27 kSC_1 (by decide)) (Eq.trans (Fr.fI u_19 kSC_1 (by decide)) (Fr.fI u_14 kSC_1 (by decide))))) e_9))
                refine y_rem C0 (o18_53 e_10 e_11 c_12 e_95 e_96 q_97) (o18_54 b_51 b_52 hn_50 e_54 c_55) dX2_allowing_103 (fun v_98 e_99 e_100 => ?_)
                refine lv_iload C0.1 C0.2.1 dX2_allowing_104 (lv_at hl 0 rfl) ?_
                refine lv_aload_n C0.1 C0.2.1 dX2_allowing_106 rfl (lv_at hl 4 rfl) ?_
                refine tg_X2_city C0 h kSC_79 q_292 dX2_allowing_107 ?_
                refine tg_X0_wide C0 h kSC_1 q_257 dX2_allowing_110 (fun v_101 e_102 e_103 e_104 => ?_)
                have q_105 : v_101.toInt = v_8.toInt := congrArg Int32.toInt (e_102.symm.trans (Eq.trans (Eq.trans (Fr.fI hF_46 kSC_1 (by decide)) (Eq.trans (Fr.fI u_27 kSC_1 (by decide)) (Eq.trans (Fr.fI u_19 kSC_1 (by decide)) (Fr.fI u_14 kSC_1 (by decide))))) e_9))
                refine y_div C0 (o18_55 e_10 e_11 c_12 e_95 e_96 q_97 e_99 e_100 e_103 e_104 q_105) (o18_54 b_51 b_52 hn_50 e_54 c_55) dX2_allowing_113 (fun v_106 e_107 e_108 => ?_)
                refine lv_aload_n C0.1 C0.2.1 dX2_allowing_114 rfl (lv_at hl 4 rfl) ?_
                refine tg_X2_city C0 h kSC_79 q_292 dX2_allowing_115 ?_
                refine tg_X0_folk C0 h kSC_1 q_248 dX2_allowing_118 ?_
                refine tg_X1_hours C0 h kSC_10 q_218 dX2_allowing_121 (fun v_109 e_110 e_111 e_112 => ?_)
                refine lv_iload_n C0.1 C0.2.1 dX2_allowing_124 rfl (lv_at hl 5 rfl) ?_
                refine y_iaddU C0 dX2_allowing_125 (fun v_113 => ?_)
                refine lv_aload_n C0.1 C0.2.1 dX2_allowing_126 rfl (lv_at hl 4 rfl) ?_
                refine tg_X2_city C0 h kSC_79 q_292 dX2_allowing_127 ?_
                refine tg_X0_folk C0 h kSC_1 q_248 dX2_allowing_130 ?_
                refine tg_X1_sold C0 h kSC_10 q_206 dX2_allowing_133 ?_
                refine lv_iload C0.1 C0.2.1 dX2_allowing_136 (lv_at hl 0 rfl) ?_
                refine y_iald C0 h kSC_16 rfl (by decide) (o18_56 b_51 b_52 hn_50 e_54 c_55 e_107 e_108) (o18_57 b_51 b_52 hn_50 e_54 c_55 e_107 e_108) dX2_allowing_138 (fun v_114 e_115 e_116 e_117 => ?_)
                refine lv_iload_n C0.1 C0.2.1 dX2_allowing_139 rfl (lv_at hl 6 rfl) ?_
                refine y_ci h (y_rV (As := [.int v_98, .int v_106, .int v_113, .int v_114, .int a2]) (rest := []) C0 hZ h (c_X4_value l G Z ad _ h.2 6 kSC_6 v_98 v_106 v_113 v_114 a2) k_X4_value q_935 q_936 q_1133 kSC_6 rfl rfl rfl hl.1 rfl rfl (Nat.le_of_ble_eq_true rfl) dX2_allowing_140 ⟨Nat.le_of_ble_eq_true rfl, Nat.le_of_ble_eq_true rfl⟩ ⟨Nat.le_of_ble_eq_true rfl, Nat.le_of_ble_eq_true rfl⟩) (fun r_121 H locs ws_118 h u_119 p_120 => ?_)
                refine y_if_eq (tgt := 160) C0 dX2_allowing_143 (by decide) (fun c_122 => ?_) (fun c_122 => ?_)
                · -- 143
                  refine y_inc (kp := 0) (n := 1) (fun v_123 => [(7, .int v_123), (6, .int v_41), (5, .int v_32), (4, .ref (ad 6)), (0, .ref (ad 79)), (1, .int a1), (2, .int a2), (3, .int a3)]) C0 hl rfl (by decide) (by decide) (fun _ => rfl) (o18_58 b_51 b_52 hn_50 e_54 c_55 e_107 e_108 (le_min x7_44) (le_max x7_44) (le_min v_53) (le_max v_53) (le_min v_106) (le_max v_106)) (o18_59 b_51 b_52 hn_50 e_54 c_55 e_107 e_108 (le_min x7_44) (le_max x7_44) (le_min v_53) (le_max v_53) (le_min v_106) (le_max v_106)) dX2_allowing_160 (fun v_123 ls e_124 hl => ?_)
                  refine lv_goto (tgt := 67) C0.1 C0.2.1 dX2_allowing_163 (by decide) ?_
                  exact ih_48 v_123 _ _ _ _ (o18_60 b_51 b_52 hn_50 e_54 c_55 e_107 e_108 e_124) (o18_61 b_51 b_52 hn_50 e_54 c_55 e_107 e_108 e_124) (o18_62 b_51 b_52 hn_50 e_54 c_55 e_107 e_108 e_124) h (Fr.tr hF_46 (Fr.mono u_119 (by decide))) (lv_sub hl [0, 1, 2, 3, 4, 5, 6, 7] rfl)
                · -- 143
                  refine lv_aload_n C0.1 C0.2.1 dX2_allowing_146 rfl (lv_at hl 4 rfl) ?_
                  refine tg_X2_allowed C0 h kSC_79 q_295 dX2_allowing_147 ?_
                  refine lv_iload C0.1 C0.2.1 dX2_allowing_150 (lv_at hl 2 rfl) ?_
                  refine lv_dup2_11 C0.1 C0.2.1 dX2_allowing_152 rfl rfl ?_
                  refine y_iald C0 h kSC_82 rfl (by decide) (o18_44 e_22 e_23 e_25 e_30 e_31 e_33) (o18_45 e_22 e_23 e_25 e_30 e_31 e_33) dX2_allowing_153 (fun v_125 e_126 e_127 e_128 => ?_)
                  refine y_c1 (n := 1) C0 (by decide) dX2_allowing_154 (fun v_129 e_130 => ?_)
                  refine lv_iload C0.1 C0.2.1 dX2_allowing_155 (lv_at hl 0 rfl) ?_
                  refine y_ishlU C0 dX2_allowing_157 (fun v_131 => ?_)
                  refine y_iorU C0 dX2_allowing_158 (fun v_132 => ?_)
                  refine y_iast C0 h kSC_82 rfl (by decide) (o18_44 e_22 e_23 e_25 e_30 e_31 e_33) (o18_45 e_22 e_23 e_25 e_30 e_31 e_33) (le_min v_132) (le_max v_132) dX2_allowing_159 (fun H locs ws_133 h u_134 => ?_)
                  refine y_inc (kp := 0) (n := 1) (fun v_135 => [(7, .int v_135), (6, .int v_41), (5, .int v_32), (4, .ref (ad 6)), (0, .ref (ad 79)), (1, .int a1), (2, .int a2), (3, .int a3)]) C0 hl rfl (by decide) (by decide) (fun _ => rfl) (o18_58 b_51 b_52 hn_50 e_54 c_55 e_107 e_108 (le_min x7_44) (le_max x7_44) (le_min v_53) (le_max v_53) (le_min v_106) (le_max v_106)) (o18_59 b_51 b_52 hn_50 e_54 c_55 e_107 e_108 (le_min x7_44) (le_max x7_44) (le_min v_53) (le_max v_53) (le_min v_106) (le_max v_106)) dX2_allowing_160 (fun v_135 ls e_136 hl => ?_)
                  refine lv_goto (tgt := 67) C0.1 C0.2.1 dX2_allowing_163 (by decide) ?_
                  exact ih_48 v_135 _ _ _ _ (o18_60 b_51 b_52 hn_50 e_54 c_55 e_107 e_108 e_136) (o18_61 b_51 b_52 hn_50 e_54 c_55 e_107 e_108 e_136) (o18_62 b_51 b_52 hn_50 e_54 c_55 e_107 e_108 e_136) h (Fr.tr (Fr.tr hF_46 (Fr.mono u_119 (by decide))) (Fr.up u_134.1 kSC_82 (by decide))) (lv_sub hl [0, 1, 2, 3, 4, 5, 6, 7] rfl)
      exact lp_47 ((25 - v_42.toInt + 1).toNat) v_42 _ _ _ _ (o18_63 e_43) (o18_1 e_43) (o18_64 e_43) h Fr.rf (lv_sub hl [0, 1, 2, 3, 4, 5, 6, 7] rfl)
    · -- 24
      refine lv_iload_n C0.1 C0.2.1 dX2_allowing_27 rfl (lv_at hl 4 rfl) ?_
      rw [hQ]
      exact y_iret C0 h (Fr.mono u_2 (by decide)) trivial dX2_allowing_28
set_option maxHeartbeats 4000000 in
set_option maxRecDepth 100000 in
theorem c_X2_lefts (l : Launch) (G : GG) (Z : RZ) (ad : Nat → Nat) (ws0 : va_W) (hT : Ty G (SC tt) ad ws0) (a1 : Int32) (a2 : Int32) (a3 : Int32) (l1 : 0 ≤ a1.toInt) (u1 : a1.toInt ≤ 239) (l2 : 0 ≤ a2.toInt) (u2 : a2.toInt ≤ 99) (l3 : 0 ≤ a3.toInt) (u3 : a3.toInt ≤ 3) : Mq l yX2_lefts cX2_lefts 5 (some .int) 4 G Z [.ref (ad 79), .int a1, .int a2, .int a3] ws0 (PI G (SC tt) ad [4, 5, 18, 19, 20, 21] ws0 (fun r u => ((-1) ≤ r.toInt) ∧ (r.toInt ≤ 2))) := by
  refine Mq.start (by decide) (Nat.le_of_ble_eq_true rfl) ?_
  intro p e s m below meth c A ls C0 hZ h hl
  have hl : lv_has ls 5 [(0, .ref (ad 79)), (1, .int a1), (2, .int a2), (3, .int a3)] := hl
  have h : Wt G (SC tt) ad A s s.heap [] ws0 := ⟨h, hT⟩
  obtain ⟨args, hargs⟩ : ∃ z, z = ([.ref (ad 79), .int a1, .int a2, .int a3] : List Value).toArray := ⟨_, rfl⟩
  rw [← hargs] at C0 ⊢
  have C0 : Cx p s m args meth c RX2 cX2_lefts 5 (some .int) := C0
  obtain ⟨Q, hQ⟩ : ∃ z, z = MQ below ((PI G (SC tt) ad [4, 5, 18, 19, 20, 21] ws0 (fun r u => ((-1) ≤ r.toInt) ∧ (r.toInt ≤ 2))) A) args s 0 0 A := ⟨_, rfl⟩
  rw [← hQ]
  refine lv_iload_n C0.1 C0.2.1 dX2_lefts_0 rfl (lv_at hl 3 rfl) ?_
  refine y_c1 (n := 2) C0 (by decide) dX2_lefts_1 (fun v_1 e_2 => ?_)
  refine y_icmp_ge (tgt := 7) C0 dX2_lefts_2 (by decide) (fun c_3 => ?_) (fun c_3 => ?_)
  · -- 2
    refine lv_iload_n C0.1 C0.2.1 dX2_lefts_7 rfl (lv_at hl 2 rfl) ?_
    refine y_c1 (n := 2) C0 (by decide) dX2_lefts_8 (fun v_4 e_5 => ?_)
    refine y_shr 2 2 (n := 4) C0 (Eq.trans (o18_65 e_5) (by decide)) (by decide) (by decide) dX2_lefts_9 (fun v_6 e_7 => ?_)
    refine lv_istore (lv' := [(4, .int v_6), (0, .ref (ad 79)), (1, .int a1), (2, .int a2), (3, .int a3)]) C0.1 C0.2.1 dX2_lefts_10 hl (by decide) rfl (fun ls hl => ?_)
    refine lv_aload_n C0.1 C0.2.1 dX2_lefts_12 rfl (lv_at hl 1 rfl) ?_
    refine lv_iload_n C0.1 C0.2.1 dX2_lefts_13 rfl (lv_at hl 2 rfl) ?_
    refine lv_iload_n C0.1 C0.2.1 dX2_lefts_14 rfl (lv_at hl 3 rfl) ?_
    refine y_turned C0 hZ h hZ.2.2.2.2.2.2.2 dX2_lefts_15 ?_
    refine lv_iload_n C0.1 C0.2.1 dX2_lefts_18 rfl (lv_at hl 4 rfl) ?_
    refine y_tald C0 hZ h (o18_66 l3 u3 e_2 c_3) (o18_67 l3 u3 e_2 c_3) dX2_lefts_19 (fun v_11 e_8 e_9 e_10 => ?_)
    refine y_add C0 (o18_68 l2 u2 e_7 e_9 e_10 (le_min a2) (le_max a2) (le_min v_11) (le_max v_11) (le_min v_6) (le_max v_6)) (o18_69 l2 u2 e_7 e_9 e_10 (le_min a2) (le_max a2) (le_min v_11) (le_max v_11) (le_min v_6) (le_max v_6)) dX2_lefts_20 (fun v_12 e_13 => ?_)
    refine y_c1 (n := 3) C0 (by decide) dX2_lefts_21 (fun v_14 e_15 => ?_)
    refine y_and 3 2 (n := 3) C0 (Eq.trans (o18_70 e_15) (by decide)) (by decide) (by decide) (by decide) dX2_lefts_22 (fun v_16 e_17 e_18 => ?_)
    refine y_c1 (n := 1) C0 (by decide) dX2_lefts_23 (fun v_19 e_20 => ?_)
    refine lv_iload C0.1 C0.2.1 dX2_lefts_24 (lv_at hl 0 rfl) ?_
    refine y_ishlU C0 dX2_lefts_26 (fun v_21 => ?_)
    refine y_ci h (y_rV (As := [.int a1, .int v_16, .int v_21]) (rest := []) C0 hZ h (c_X2_allowing l G Z ad _ h.2 a1 v_16 v_21 (o18_35 l1 u1) (o18_36 l1 u1) (o18_40 e_17 e_18) (o18_41 e_17 e_18)) k_X2_allowing q_1117 q_1118 q_1188 kSC_79 rfl rfl rfl hl.1 rfl rfl (Nat.le_of_ble_eq_true rfl) dX2_lefts_27 ⟨Nat.le_of_ble_eq_true rfl, Nat.le_of_ble_eq_true rfl⟩ ⟨Nat.le_of_ble_eq_true rfl, Nat.le_of_ble_eq_true rfl⟩) (fun r_25 H locs ws_22 h u_23 p_24 => ?_)
    refine y_if_ne (tgt := 35) C0 dX2_lefts_30 (by decide) (fun c_26 => ?_) (fun c_26 => ?_)
    · -- 30
      refine lv_aload_n C0.1 C0.2.1 dX2_lefts_35 rfl (lv_at hl 1 rfl) ?_
      refine lv_iload_n C0.1 C0.2.1 dX2_lefts_36 rfl (lv_at hl 2 rfl) ?_
      refine y_ci h (y_rV (As := [.int a1]) (rest := []) C0 hZ h (c_X2_freeAt l G Z ad _ h.2 a1 (o18_35 l1 u1) (o18_36 l1 u1)) k_X2_freeAt q_1095 q_1096 q_1189 kSC_79 rfl rfl rfl hl.1 rfl rfl (Nat.le_of_ble_eq_true rfl) dX2_lefts_37 ⟨Nat.le_of_ble_eq_true rfl, Nat.le_of_ble_eq_true rfl⟩ ⟨Nat.le_of_ble_eq_true rfl, Nat.le_of_ble_eq_true rfl⟩) (fun r_30 H locs ws_27 h u_28 p_29 => ?_)
      refine lv_iload C0.1 C0.2.1 dX2_lefts_40 (lv_at hl 0 rfl) ?_
      refine y_ishrU C0 dX2_lefts_42 (fun v_31 => ?_)
      refine y_c1 (n := 1) C0 (by decide) dX2_lefts_43 (fun v_32 e_33 => ?_)
      refine y_and 1 1 (n := 1) C0 (Eq.trans (o18_47 e_33) (by decide)) (by decide) (by decide) (by decide) dX2_lefts_44 (fun v_34 e_35 e_36 => ?_)
      refine y_if_eq (tgt := 52) C0 dX2_lefts_45 (by decide) (fun c_37 => ?_) (fun c_37 => ?_)
      · -- 45
        refine lv_iload_n C0.1 C0.2.1 dX2_lefts_52 rfl (lv_at hl 4 rfl) ?_
        refine y_c1 (n := 1) C0 (by decide) dX2_lefts_53 (fun v_38 e_39 => ?_)
        refine y_sub C0 (o18_71 l3 u3 e_2 c_3 e_39 (le_min a3) (le_max a3) (le_min v_38) (le_max v_38) (le_min v_1) (le_max v_1)) (o18_72 l3 u3 e_2 c_3 e_39 (le_min a3) (le_max a3) (le_min v_38) (le_max v_38) (le_min v_1) (le_max v_1)) dX2_lefts_54 (fun v_40 e_41 => ?_)
        rw [hQ]
        exact y_iret C0 h (Fr.tr u_23 (Fr.mono u_28 (by decide))) ⟨(o18_73 l3 u3 e_2 c_3 e_39 e_41), (o18_74 l3 u3 e_2 c_3 e_39 e_41)⟩ dX2_lefts_55
      · -- 45
        refine y_c1 (n := 0) C0 (by decide) dX2_lefts_48 (fun v_42 e_43 => ?_)
        refine lv_goto (tgt := 55) C0.1 C0.2.1 dX2_lefts_49 (by decide) ?_
        rw [hQ]
        exact y_iret C0 h (Fr.tr u_23 (Fr.mono u_28 (by decide))) ⟨(o18_75 e_43), (o18_76 e_43)⟩ dX2_lefts_55
    · -- 30
      refine y_c1 (n := (-1)) C0 (by decide) dX2_lefts_33 (fun v_44 e_45 => ?_)
      rw [hQ]
      exact y_iret C0 h u_23 ⟨(o18_77 e_45), (o18_78 e_45)⟩ dX2_lefts_34
  · -- 2
    refine y_c1 (n := 0) C0 (by decide) dX2_lefts_5 (fun v_46 e_47 => ?_)
    rw [hQ]
    exact y_iret C0 h Fr.rf ⟨(o18_75 e_47), (o18_76 e_47)⟩ dX2_lefts_6
set_option maxHeartbeats 4000000 in
set_option maxRecDepth 100000 in
theorem c_X8_begin (l : Launch) (G : GG) (Z : RZ) (ad : Nat → Nat) (ws0 : va_W) (hT : Ty G (SC tt) ad ws0) (a1 : Int32) (l1 : 0 ≤ a1.toInt) (u1 : a1.toInt ≤ 99) : Mq l yX8_begin cX8_begin 3 none 1 G Z [.ref (ad 83), .int a1] ws0 (PV G (SC tt) ad [22, 23] ws0 (fun u => (0 ≤ (fI u 83 4).toInt ∧ (fI u 83 4).toInt ≤ 0))) := by
  refine Mq.start (by decide) (Nat.le_of_ble_eq_true rfl) ?_
  intro p e s m below meth c A ls C0 hZ h hl
  have hl : lv_has ls 3 [(0, .ref (ad 83)), (1, .int a1)] := hl
  have h : Wt G (SC tt) ad A s s.heap [] ws0 := ⟨h, hT⟩
  obtain ⟨args, hargs⟩ : ∃ z, z = ([.ref (ad 83), .int a1] : List Value).toArray := ⟨_, rfl⟩
  rw [← hargs] at C0 ⊢
  have C0 : Cx p s m args meth c RX8 cX8_begin 3 none := C0
  obtain ⟨Q, hQ⟩ : ∃ z, z = MQ below ((PV G (SC tt) ad [22, 23] ws0 (fun u => (0 ≤ (fI u 83 4).toInt ∧ (fI u 83 4).toInt ≤ 0))) A) args s 0 0 A := ⟨_, rfl⟩
  rw [← hQ]
  refine y_c1 (n := 0) C0 (by decide) dX8_begin_0 (fun v_1 e_2 => ?_)
  refine lv_istore_n (lv' := [(2, .int v_1), (0, .ref (ad 83)), (1, .int a1)]) C0.1 C0.2.1 dX8_begin_1 rfl hl (by decide) rfl (fun ls hl => ?_)
  have lp_6 : ∀ (n_8 : Nat) (x2_3 : Int32) (H : Heap) (locs : List Loc) (ls : Array Slot) (ws_4 : va_W), 484 - x2_3.toInt < (n_8 : Int) → 0 ≤ x2_3.toInt → x2_3.toInt ≤ 484 → Wt G (SC tt) ad A s H locs ws_4 → Fr (SC tt) [23] ws0 ws_4 → lv_has ls 3 [(2, .int x2_3), (0, .ref (ad 83)), (1, .int a1)] → W p l e (rmd 1 0 0) s m args below meth c H locs 0 0 Q (F0 m 2 ls []) := by
    intro n_8
    induction n_8 with
    | zero => intro x2_3 H locs ls ws_4 hn_9 b_10 b_11 h hF_5 hl; exact ((o18_79 b_10 b_11 hn_9)).elim
    | succ n_8 ih_7 =>
      intro x2_3 H locs ls ws_4 hn_9 b_10 b_11 h hF_5 hl
      refine lv_iload_n C0.1 C0.2.1 dX8_begin_2 rfl (lv_at hl 0 rfl) ?_
      refine y_c1 (n := 4) C0 (by decide) dX8_begin_3 (fun v_12 e_13 => ?_)
      refine lv_aload_n C0.1 C0.2.1 dX8_begin_4 rfl (lv_at hl 1 rfl) ?_
      refine tg_X8_top C0 h kSC_83 q_318 dX8_begin_5 (fun v_14 e_15 e_16 e_17 => ?_)
      refine y_cmul (n := 4) C0 (o18_12 e_13) (o18_80 e_16 e_17 (le_min v_14) (le_max v_14)) (o18_81 e_16 e_17 (le_min v_14) (le_max v_14)) dX8_begin_8 (fun v_18 e_19 => ?_)
      refine y_c1 (n := 4) C0 (by decide) dX8_begin_9 (fun v_20 e_21 => ?_)
      refine y_add C0 (o18_82 e_16 e_17 e_19 e_21 (le_min v_18) (le_max v_18) (le_min v_20) (le_max v_20) (le_min v_14) (le_max v_14)) (o18_83 e_16 e_17 e_19 e_21 (le_min v_18) (le_max v_18) (le_min v_20) (le_max v_20) (le_min v_14) (le_max v_14)) dX8_begin_10 (fun v_22 e_23 => ?_)
      refine y_icmp_ge (tgt := 27) C0 dX8_begin_11 (by decide) (fun c_24 => ?_) (fun c_24 => ?_)
      · -- 11
        refine lv_aload_n C0.1 C0.2.1 dX8_begin_27 rfl (lv_at hl 1 rfl) ?_
        refine y_c1 (n := 0) C0 (by decide) dX8_begin_28 (fun v_25 e_26 => ?_)
        refine tp_X8_top C0 h kSC_83 q_318 (o18_1 e_26) (o18_84 e_26) dX8_begin_29 (fun H locs ws_27 h u_28 => ?_)
        refine lv_aload_n C0.1 C0.2.1 dX8_begin_32 rfl (lv_at hl 1 rfl) ?_
        refine tg_X8_sets C0 h kSC_83 q_316 dX8_begin_33 (fun i_29 hi_29 => ?_)
        refine lv_iload_n C0.1 C0.2.1 dX8_begin_36 rfl (lv_at hl 2 rfl) ?_
        refine y_c1 (n := 3) C0 (by decide) dX8_begin_37 (fun v_30 e_31 => ?_)
        refine y_and 3 2 (n := 3) C0 (Eq.trans (o18_70 e_31) (by decide)) (by decide) (by decide) (by decide) dX8_begin_38 (fun v_32 e_33 e_34 => ?_)
        refine y_c1 (n := 1) C0 (by decide) dX8_begin_39 (fun v_35 e_36 => ?_)
        refine lv_iload_n C0.1 C0.2.1 dX8_begin_40 rfl (lv_at hl 2 rfl) ?_
        refine y_c1 (n := 2) C0 (by decide) dX8_begin_41 (fun v_37 e_38 => ?_)
        refine y_shr 2 2 (n := 4) C0 (Eq.trans (o18_65 e_38) (by decide)) (by decide) (by decide) dX8_begin_42 (fun v_39 e_40 => ?_)
        refine y_ishlU C0 dX8_begin_43 (fun v_41 => ?_)
        refine y_iast C0 h hi_29 rfl (by decide) (o18_40 e_33 e_34) (o18_85 e_33 e_34) (le_min v_41) (le_max v_41) dX8_begin_44 (fun H locs ws_42 h u_43 => ?_)
        rw [hQ]
        exact y_vret C0 h (Fr.tr (Fr.tr (Fr.mono hF_5 (by decide)) (Fr.up u_28.1 kSC_83 (by decide))) (Fr.up u_43.1 hi_29 (by decide))) ⟨fbd_lo (Eq.trans (fI_of (u_43.1 83 (kd_ne kSC_83 hi_29 (by decide)))) u_28.2.1) (o18_1 e_26), fbd_hi (Eq.trans (fI_of (u_43.1 83 (kd_ne kSC_83 hi_29 (by decide)))) u_28.2.1) (o18_86 e_26)⟩ dX8_begin_45
      · -- 11
        refine lv_aload_n C0.1 C0.2.1 dX8_begin_14 rfl (lv_at hl 1 rfl) ?_
        refine tg_X8_sets C0 h kSC_83 q_316 dX8_begin_15 (fun i_44 hi_44 => ?_)
        refine lv_iload_n C0.1 C0.2.1 dX8_begin_18 rfl (lv_at hl 0 rfl) ?_
        refine y_c1 (n := 0) C0 (by decide) dX8_begin_19 (fun v_45 e_46 => ?_)
        refine y_iast C0 h hi_44 rfl (by decide) (o18_87 b_10 b_11 hn_9 e_16 e_17 e_19 e_21 e_23 c_24) (o18_88 b_10 b_11 hn_9 e_16 e_17 e_19 e_21 e_23 c_24) (le_min v_45) (le_max v_45) dX8_begin_20 (fun H locs ws_47 h u_48 => ?_)
        refine y_inc (kp := 0) (n := 1) (fun v_49 => [(2, .int v_49), (0, .ref (ad 83)), (1, .int a1)]) C0 hl rfl (by decide) (by decide) (fun _ => rfl) (o18_89 b_10 b_11 hn_9 e_16 e_17 e_19 e_21 e_23 c_24 (le_min x2_3) (le_max x2_3) (le_min v_14) (le_max v_14) (le_min v_18) (le_max v_18) (le_min v_20) (le_max v_20) (le_min v_22) (le_max v_22)) (o18_90 b_10 b_11 hn_9 e_16 e_17 e_19 e_21 e_23 c_24 (le_min x2_3) (le_max x2_3) (le_min v_14) (le_max v_14) (le_min v_18) (le_max v_18) (le_min v_20) (le_max v_20) (le_min v_22) (le_max v_22)) dX8_begin_21 (fun v_49 ls e_50 hl => ?_)
        refine lv_goto (tgt := 2) C0.1 C0.2.1 dX8_begin_24 (by decide) ?_
        exact ih_7 v_49 _ _ _ _ (o18_91 b_10 b_11 hn_9 e_16 e_17 e_19 e_21 e_23 c_24 e_50) (o18_92 b_10 b_11 hn_9 e_16 e_17 e_19 e_21 e_23 c_24 e_50) (o18_93 b_10 b_11 hn_9 e_16 e_17 e_19 e_21 e_23 c_24 e_50) h (Fr.tr hF_5 (Fr.up u_48.1 hi_44 (by decide))) (lv_sub hl [0, 1, 2] rfl)
  exact lp_6 ((484 - v_1.toInt + 1).toNat) v_1 _ _ _ _ (o18_94 e_2) (o18_1 e_2) (o18_95 e_2) h Fr.rf (lv_sub hl [0, 1, 2] rfl)
set_option maxHeartbeats 4000000 in
set_option maxRecDepth 100000 in
theorem c_X8_change (l : Launch) (G : GG) (Z : RZ) (ad : Nat → Nat) (ws0 : va_W) (hT : Ty G (SC tt) ad ws0) (a1 : Int32) (l1 : 0 ≤ a1.toInt) (u1 : a1.toInt ≤ 120) : Mq l yX8_change cX8_change 4 none 1 G Z [.ref (ad 83), .int a1] ws0 (PV G (SC tt) ad [22, 23] ws0 (fun u => (fI u 83 4 = a1))) := by
  refine Mq.start (by decide) (Nat.le_of_ble_eq_true rfl) ?_
  intro p e s m below meth c A ls C0 hZ h hl
  have hl : lv_has ls 4 [(0, .ref (ad 83)), (1, .int a1)] := hl
  have h : Wt G (SC tt) ad A s s.heap [] ws0 := ⟨h, hT⟩
  obtain ⟨args, hargs⟩ : ∃ z, z = ([.ref (ad 83), .int a1] : List Value).toArray := ⟨_, rfl⟩
  rw [← hargs] at C0 ⊢
  have C0 : Cx p s m args meth c RX8 cX8_change 4 none := C0
  obtain ⟨Q, hQ⟩ : ∃ z, z = MQ below ((PV G (SC tt) ad [22, 23] ws0 (fun u => (fI u 83 4 = a1))) A) args s 0 0 A := ⟨_, rfl⟩
  rw [← hQ]
  refine lv_aload_n C0.1 C0.2.1 dX8_change_0 rfl (lv_at hl 0 rfl) ?_
  refine tg_X8_sets C0 h kSC_83 q_316 dX8_change_1 (fun i_1 hi_1 => ?_)
  refine lv_astore_n (lv' := [(2, .ref (ad i_1)), (0, .ref (ad 83)), (1, .int a1)]) C0.1 C0.2.1 dX8_change_4 rfl hl (by decide) rfl (fun ls hl => ?_)
  refine lv_aload_n C0.1 C0.2.1 dX8_change_5 rfl (lv_at hl 1 rfl) ?_
  refine lv_aload_n C0.1 C0.2.1 dX8_change_6 rfl (lv_at hl 1 rfl) ?_
  refine tg_X8_nexts C0 h kSC_83 q_317 dX8_change_7 (fun i_2 hi_2 => ?_)
  refine tp_X8_sets C0 h kSC_83 q_316 hi_2 dX8_change_10 (fun H locs ws_3 h u_4 => ?_)
  refine lv_aload_n C0.1 C0.2.1 dX8_change_13 rfl (lv_at hl 1 rfl) ?_
  refine lv_aload_n C0.1 C0.2.1 dX8_change_14 rfl (lv_at hl 0 rfl) ?_
  refine tp_X8_nexts C0 h kSC_83 q_317 hi_1 dX8_change_15 (fun H locs ws_5 h u_6 => ?_)
  refine y_c1 (n := 0) C0 (by decide) dX8_change_18 (fun v_7 e_8 => ?_)
  refine lv_istore_n (lv' := [(3, .int v_7), (2, .ref (ad i_1)), (0, .ref (ad 83)), (1, .int a1)]) C0.1 C0.2.1 dX8_change_19 rfl hl (by decide) rfl (fun ls hl => ?_)
  have lp_12 : ∀ (n_14 : Nat) (x3_9 : Int32) (H : Heap) (locs : List Loc) (ls : Array Slot) (ws_10 : va_W), 484 - x3_9.toInt < (n_14 : Int) → 0 ≤ x3_9.toInt → x3_9.toInt ≤ 484 → Wt G (SC tt) ad A s H locs ws_10 → Fr (SC tt) [23] ws_5 ws_10 → lv_has ls 4 [(3, .int x3_9), (2, .ref (ad i_1)), (0, .ref (ad 83)), (1, .int a1)] → W p l e (rmd 1 0 0) s m args below meth c H locs 0 0 Q (F0 m 20 ls []) := by
    intro n_14
    induction n_14 with
    | zero => intro x3_9 H locs ls ws_10 hn_15 b_16 b_17 h hF_11 hl; exact ((o18_79 b_16 b_17 hn_15)).elim
    | succ n_14 ih_13 =>
      intro x3_9 H locs ls ws_10 hn_15 b_16 b_17 h hF_11 hl
      refine lv_iload_n C0.1 C0.2.1 dX8_change_20 rfl (lv_at hl 0 rfl) ?_
      refine y_c1 (n := 4) C0 (by decide) dX8_change_21 (fun v_18 e_19 => ?_)
      refine lv_aload_n C0.1 C0.2.1 dX8_change_22 rfl (lv_at hl 2 rfl) ?_
      refine tg_X8_top C0 h kSC_83 q_318 dX8_change_23 (fun v_20 e_21 e_22 e_23 => ?_)
      refine y_cmul (n := 4) C0 (o18_12 e_19) (o18_80 e_22 e_23 (le_min v_20) (le_max v_20)) (o18_81 e_22 e_23 (le_min v_20) (le_max v_20)) dX8_change_26 (fun v_24 e_25 => ?_)
      refine y_c1 (n := 4) C0 (by decide) dX8_change_27 (fun v_26 e_27 => ?_)
      refine y_add C0 (o18_82 e_22 e_23 e_25 e_27 (le_min v_24) (le_max v_24) (le_min v_26) (le_max v_26) (le_min v_20) (le_max v_20)) (o18_83 e_22 e_23 e_25 e_27 (le_min v_24) (le_max v_24) (le_min v_26) (le_max v_26) (le_min v_20) (le_max v_20)) dX8_change_28 (fun v_28 e_29 => ?_)
      refine y_icmp_ge (tgt := 45) C0 dX8_change_29 (by decide) (fun c_30 => ?_) (fun c_30 => ?_)
      · -- 29
        refine lv_aload_n C0.1 C0.2.1 dX8_change_45 rfl (lv_at hl 2 rfl) ?_
        refine lv_iload_n C0.1 C0.2.1 dX8_change_46 rfl (lv_at hl 3 rfl) ?_
        refine tp_X8_top C0 h kSC_83 q_318 (o18_96 l1 u1) (o18_97 l1 u1) dX8_change_47 (fun H locs ws_31 h u_32 => ?_)
        rw [hQ]
        exact y_vret C0 h (Fr.tr (Fr.tr (Fr.tr (Fr.up u_4.1 kSC_83 (by decide)) (Fr.up u_6.1 kSC_83 (by decide))) (Fr.mono hF_11 (by decide))) (Fr.up u_32.1 kSC_83 (by decide))) (Eq.trans rfl u_32.2.1) dX8_change_50
      · -- 29
        refine lv_aload_n C0.1 C0.2.1 dX8_change_32 rfl (lv_at hl 2 rfl) ?_
        refine tg_X8_nexts C0 h kSC_83 q_317 dX8_change_33 (fun i_33 hi_33 => ?_)
        refine lv_iload_n C0.1 C0.2.1 dX8_change_36 rfl (lv_at hl 0 rfl) ?_
        refine y_c1 (n := 0) C0 (by decide) dX8_change_37 (fun v_34 e_35 => ?_)
        refine y_iast C0 h hi_33 rfl (by decide) (o18_87 b_16 b_17 hn_15 e_22 e_23 e_25 e_27 e_29 c_30) (o18_88 b_16 b_17 hn_15 e_22 e_23 e_25 e_27 e_29 c_30) (le_min v_34) (le_max v_34) dX8_change_38 (fun H locs ws_36 h u_37 => ?_)
        refine y_inc (kp := 0) (n := 1) (fun v_38 => [(3, .int v_38), (2, .ref (ad i_1)), (0, .ref (ad 83)), (1, .int a1)]) C0 hl rfl (by decide) (by decide) (fun _ => rfl) (o18_89 b_16 b_17 hn_15 e_22 e_23 e_25 e_27 e_29 c_30 (le_min x3_9) (le_max x3_9) (le_min v_20) (le_max v_20) (le_min v_24) (le_max v_24) (le_min v_26) (le_max v_26) (le_min v_28) (le_max v_28)) (o18_90 b_16 b_17 hn_15 e_22 e_23 e_25 e_27 e_29 c_30 (le_min x3_9) (le_max x3_9) (le_min v_20) (le_max v_20) (le_min v_24) (le_max v_24) (le_min v_26) (le_max v_26) (le_min v_28) (le_max v_28)) dX8_change_39 (fun v_38 ls e_39 hl => ?_)
        refine lv_goto (tgt := 20) C0.1 C0.2.1 dX8_change_42 (by decide) ?_
        exact ih_13 v_38 _ _ _ _ (o18_91 b_16 b_17 hn_15 e_22 e_23 e_25 e_27 e_29 c_30 e_39) (o18_92 b_16 b_17 hn_15 e_22 e_23 e_25 e_27 e_29 c_30 e_39) (o18_93 b_16 b_17 hn_15 e_22 e_23 e_25 e_27 e_29 c_30 e_39) h (Fr.tr hF_11 (Fr.up u_37.1 hi_33 (by decide))) (lv_sub hl [0, 1, 2, 3] rfl)
  exact lp_12 ((484 - v_7.toInt + 1).toNat) v_7 _ _ _ _ (o18_94 e_8) (o18_1 e_8) (o18_95 e_8) h Fr.rf (lv_sub hl [0, 1, 2, 3] rfl)
set_option maxHeartbeats 4000000 in
set_option maxRecDepth 100000 in
theorem c_X8_thin (l : Launch) (G : GG) (Z : RZ) (ad : Nat → Nat) (ws0 : va_W) (hT : Ty G (SC tt) ad ws0) : Mq l yX8_thin cX8_thin 6 none 1 G Z [.ref (ad 83)] ws0 (PV G (SC tt) ad [22, 23] ws0 (fun u => True)) := by
  refine Mq.start (by decide) (Nat.le_of_ble_eq_true rfl) ?_
  intro p e s m below meth c A ls C0 hZ h hl
  have hl : lv_has ls 6 [(0, .ref (ad 83))] := hl
  have h : Wt G (SC tt) ad A s s.heap [] ws0 := ⟨h, hT⟩
  obtain ⟨args, hargs⟩ : ∃ z, z = ([.ref (ad 83)] : List Value).toArray := ⟨_, rfl⟩
  rw [← hargs] at C0 ⊢
  have C0 : Cx p s m args meth c RX8 cX8_thin 6 none := C0
  obtain ⟨Q, hQ⟩ : ∃ z, z = MQ below ((PV G (SC tt) ad [22, 23] ws0 (fun u => True)) A) args s 0 0 A := ⟨_, rfl⟩
  rw [← hQ]
  refine y_c1 (n := 0) C0 (by decide) dX8_thin_0 (fun v_1 e_2 => ?_)
  refine lv_istore_n (lv' := [(1, .int v_1), (0, .ref (ad 83))]) C0.1 C0.2.1 dX8_thin_1 rfl hl (by decide) rfl (fun ls hl => ?_)
  refine y_c1 (n := 0) C0 (by decide) dX8_thin_2 (fun v_3 e_4 => ?_)
  refine lv_istore_n (lv' := [(2, .int v_3), (1, .int v_1), (0, .ref (ad 83))]) C0.1 C0.2.1 dX8_thin_3 rfl hl (by decide) rfl (fun ls hl => ?_)
  have lp_9 : ∀ (n_11 : Nat) (x2_5 : Int32) (x1_6 : Int32) (H : Heap) (locs : List Loc) (ls : Array Slot) (ws_7 : va_W), 4 - x2_5.toInt < (n_11 : Int) → 0 ≤ x2_5.toInt → x2_5.toInt ≤ 4 → 0 ≤ x1_6.toInt → x1_6.toInt ≤ 120 → Wt G (SC tt) ad A s H locs ws_7 → Fr (SC tt) [23] ws0 ws_7 → lv_has ls 6 [(2, .int x2_5), (1, .int x1_6), (0, .ref (ad 83))] → W p l e (rmd 1 0 0) s m args below meth c H locs 0 0 Q (F0 m 4 ls []) := by
    intro n_11
    induction n_11 with
    | zero => intro x2_5 x1_6 H locs ls ws_7 hn_12 b_13 b_14 b_15 b_16 h hF_8 hl; exact ((o18_6 b_13 b_14 hn_12)).elim
    | succ n_11 ih_10 =>
      intro x2_5 x1_6 H locs ls ws_7 hn_12 b_13 b_14 b_15 b_16 h hF_8 hl
      refine lv_iload_n C0.1 C0.2.1 dX8_thin_4 rfl (lv_at hl 0 rfl) ?_
      refine y_c1 (n := 4) C0 (by decide) dX8_thin_5 (fun v_17 e_18 => ?_)
      refine y_icmp_ge (tgt := 82) C0 dX8_thin_6 (by decide) (fun c_19 => ?_) (fun c_19 => ?_)
      · -- 6
        refine lv_aload_n C0.1 C0.2.1 dX8_thin_82 rfl (lv_at hl 2 rfl) ?_
        refine lv_iload_n C0.1 C0.2.1 dX8_thin_83 rfl (lv_at hl 1 rfl) ?_
        refine tp_X8_top C0 h kSC_83 q_318 (o18_96 b_15 b_16) (o18_97 b_15 b_16) dX8_thin_84 (fun H locs ws_20 h u_21 => ?_)
        rw [hQ]
        exact y_vret C0 h (Fr.tr (Fr.mono hF_8 (by decide)) (Fr.up u_21.1 kSC_83 (by decide))) trivial dX8_thin_87
      · -- 6
        refine y_c1 (n := 0) C0 (by decide) dX8_thin_9 (fun v_22 e_23 => ?_)
        refine lv_istore_n (lv' := [(3, .int v_22), (2, .int x2_5), (1, .int x1_6), (0, .ref (ad 83))]) C0.1 C0.2.1 dX8_thin_10 rfl hl (by decide) rfl (fun ls hl => ?_)
        refine y_c1 (n := 0) C0 (by decide) dX8_thin_11 (fun v_24 e_25 => ?_)
        refine lv_istore (lv' := [(4, .int v_24), (3, .int v_22), (2, .int x2_5), (1, .int x1_6), (0, .ref (ad 83))]) C0.1 C0.2.1 dX8_thin_12 hl (by decide) rfl (fun ls hl => ?_)
        have lp_31 : ∀ (n_33 : Nat) (x4_26 : Int32) (x3_27 : Int32) (x1_28 : Int32) (H : Heap) (locs : List Loc) (ls : Array Slot) (ws_29 : va_W), 121 - x4_26.toInt < (n_33 : Int) → 0 ≤ x4_26.toInt → x4_26.toInt ≤ 121 → 0 ≤ x1_28.toInt → x1_28.toInt ≤ 120 → Wt G (SC tt) ad A s H locs ws_29 → Fr (SC tt) [23] ws_7 ws_29 → lv_has ls 6 [(4, .int x4_26), (3, .int x3_27), (2, .int x2_5), (1, .int x1_28), (0, .ref (ad 83))] → W p l e (rmd 1 0 0) s m args below meth c H locs 0 0 Q (F0 m 14 ls []) := by
          intro n_33
          induction n_33 with
          | zero => intro x4_26 x3_27 x1_28 H locs ls ws_29 hn_34 b_35 b_36 b_37 b_38 h hF_30 hl; exact ((o18_98 b_35 b_36 hn_34)).elim
          | succ n_33 ih_32 =>
            intro x4_26 x3_27 x1_28 H locs ls ws_29 hn_34 b_35 b_36 b_37 b_38 h hF_30 hl
            refine lv_iload C0.1 C0.2.1 dX8_thin_14 (lv_at hl 0 rfl) ?_
            refine lv_aload_n C0.1 C0.2.1 dX8_thin_16 rfl (lv_at hl 4 rfl) ?_
            refine tg_X8_top C0 h kSC_83 q_318 dX8_thin_17 (fun v_39 e_40 e_41 e_42 => ?_)
            refine y_icmp_gt (tgt := 76) C0 dX8_thin_20 (by decide) (fun c_43 => ?_) (fun c_43 => ?_)
            · -- 20
              refine y_inc (kp := 2) (n := 1) (fun v_44 => [(2, .int v_44), (4, .int x4_26), (3, .int x3_27), (1, .int x1_28), (0, .ref (ad 83))]) C0 hl rfl (by decide) (by decide) (fun _ => rfl) (o18_99 b_13 b_14 hn_12 e_18 c_19 (le_min x2_5) (le_max x2_5) (le_min v_17) (le_max v_17)) (o18_100 b_13 b_14 hn_12 e_18 c_19 (le_min x2_5) (le_max x2_5) (le_min v_17) (le_max v_17)) dX8_thin_76 (fun v_44 ls e_45 hl => ?_)
              refine lv_goto (tgt := 4) C0.1 C0.2.1 dX8_thin_79 (by decide) ?_
              exact ih_10 v_44 x1_28 _ _ _ _ (o18_101 b_13 b_14 hn_12 e_18 c_19 e_45) (o18_102 b_13 b_14 hn_12 e_18 c_19 e_45) (o18_103 b_13 b_14 hn_12 e_18 c_19 e_45) (o18_96 b_37 b_38) (o18_97 b_37 b_38) h (Fr.tr hF_8 hF_30) (lv_sub hl [0, 3, 4] rfl)
            · -- 20
              refine lv_aload_n C0.1 C0.2.1 dX8_thin_23 rfl (lv_at hl 4 rfl) ?_
              refine tg_X8_sets C0 h kSC_83 q_316 dX8_thin_24 (fun i_46 hi_46 => ?_)
              refine y_c1 (n := 4) C0 (by decide) dX8_thin_27 (fun v_47 e_48 => ?_)
              refine lv_iload C0.1 C0.2.1 dX8_thin_28 (lv_at hl 0 rfl) ?_
              refine y_cmul (n := 4) C0 (o18_12 e_48) (o18_104 b_35 b_36 hn_34 e_41 e_42 c_43 (le_min x4_26) (le_max x4_26) (le_min v_39) (le_max v_39)) (o18_105 b_35 b_36 hn_34 e_41 e_42 c_43 (le_min x4_26) (le_max x4_26) (le_min v_39) (le_max v_39)) dX8_thin_30 (fun v_49 e_50 => ?_)
              refine lv_iload_n C0.1 C0.2.1 dX8_thin_31 rfl (lv_at hl 2 rfl) ?_
              refine y_add C0 (o18_106 b_13 b_14 hn_12 e_18 c_19 b_35 b_36 hn_34 e_41 e_42 c_43 e_50 (le_min v_49) (le_max v_49) (le_min x2_5) (le_max x2_5) (le_min v_17) (le_max v_17) (le_min x4_26) (le_max x4_26) (le_min v_39) (le_max v_39)) (o18_107 b_13 b_14 hn_12 e_18 c_19 b_35 b_36 hn_34 e_41 e_42 c_43 e_50 (le_min v_49) (le_max v_49) (le_min x2_5) (le_max x2_5) (le_min v_17) (le_max v_17) (le_min x4_26) (le_max x4_26) (le_min v_39) (le_max v_39)) dX8_thin_32 (fun v_51 e_52 => ?_)
              refine y_iald C0 h hi_46 rfl (by decide) (o18_108 b_13 b_14 hn_12 e_18 c_19 b_35 b_36 hn_34 e_41 e_42 c_43 e_50 e_52) (o18_109 b_13 b_14 hn_12 e_18 c_19 b_35 b_36 hn_34 e_41 e_42 c_43 e_50 e_52) dX8_thin_33 (fun v_53 e_54 e_55 e_56 => ?_)
              refine lv_iload_n C0.1 C0.2.1 dX8_thin_34 rfl (lv_at hl 1 rfl) ?_
              refine y_c1 (n := (-1)) C0 (by decide) dX8_thin_35 (fun v_57 e_58 => ?_)
              refine y_ixorU C0 dX8_thin_36 (fun v_59 => ?_)
              refine y_iandU C0 dX8_thin_37 (fun v_60 => ?_)
              refine lv_istore (lv' := [(5, .int v_60), (4, .int x4_26), (3, .int x3_27), (2, .int x2_5), (1, .int x1_28), (0, .ref (ad 83))]) C0.1 C0.2.1 dX8_thin_38 hl (by decide) rfl (fun ls hl => ?_)
              refine lv_aload_n C0.1 C0.2.1 dX8_thin_40 rfl (lv_at hl 5 rfl) ?_
              refine tg_X8_sets C0 h kSC_83 q_316 dX8_thin_41 (fun i_61 hi_61 => ?_)
              refine y_c1 (n := 4) C0 (by decide) dX8_thin_44 (fun v_62 e_63 => ?_)
              refine lv_iload C0.1 C0.2.1 dX8_thin_45 (lv_at hl 1 rfl) ?_
              refine y_cmul (n := 4) C0 (o18_12 e_63) (o18_110 b_13 b_14 hn_12 e_18 c_19 b_35 b_36 hn_34 e_41 e_42 c_43 e_50 e_52 (le_min x4_26) (le_max x4_26) (le_min x2_5) (le_max x2_5) (le_min v_17) (le_max v_17) (le_min v_39) (le_max v_39) (le_min v_49) (le_max v_49) (le_min v_51) (le_max v_51)) (o18_111 b_13 b_14 hn_12 e_18 c_19 b_35 b_36 hn_34 e_41 e_42 c_43 e_50 e_52 (le_min x4_26) (le_max x4_26) (le_min x2_5) (le_max x2_5) (le_min v_17) (le_max v_17) (le_min v_39) (le_max v_39) (le_min v_49) (le_max v_49) (le_min v_51) (le_max v_51)) dX8_thin_47 (fun v_64 e_65 => ?_)
              refine lv_iload_n C0.1 C0.2.1 dX8_thin_48 rfl (lv_at hl 3 rfl) ?_
              refine y_add C0 (o18_112 b_13 b_14 hn_12 e_18 c_19 b_35 b_36 hn_34 e_41 e_42 c_43 e_50 e_52 e_65 (le_min v_64) (le_max v_64) (le_min x2_5) (le_max x2_5) (le_min v_17) (le_max v_17) (le_min x4_26) (le_max x4_26) (le_min v_39) (le_max v_39) (le_min v_49) (le_max v_49) (le_min v_51) (le_max v_51)) (o18_113 b_13 b_14 hn_12 e_18 c_19 b_35 b_36 hn_34 e_41 e_42 c_43 e_50 e_52 e_65 (le_min v_64) (le_max v_64) (le_min x2_5) (le_max x2_5) (le_min v_17) (le_max v_17) (le_min x4_26) (le_max x4_26) (le_min v_39) (le_max v_39) (le_min v_49) (le_max v_49) (le_min v_51) (le_max v_51)) dX8_thin_49 (fun v_66 e_67 => ?_)
              refine lv_iload C0.1 C0.2.1 dX8_thin_50 (lv_at hl 0 rfl) ?_
              refine y_iast C0 h hi_61 rfl (by decide) (o18_114 b_13 b_14 hn_12 e_18 c_19 b_35 b_36 hn_34 e_41 e_42 c_43 e_50 e_52 e_65 e_67) (o18_115 b_13 b_14 hn_12 e_18 c_19 b_35 b_36 hn_34 e_41 e_42 c_43 e_50 e_52 e_65 e_67) (le_min v_60) (le_max v_60) dX8_thin_52 (fun H locs ws_68 h u_69 => ?_)
              refine lv_iload C0.1 C0.2.1 dX8_thin_53 (lv_at hl 0 rfl) ?_
              refine y_if_eq (tgt := 70) C0 dX8_thin_55 (by decide) (fun c_70 => ?_) (fun c_70 => ?_)
              · -- 55
                refine y_inc (kp := 1) (n := 1) (fun v_71 => [(4, .int v_71), (5, .int v_60), (3, .int x3_27), (2, .int x2_5), (1, .int x1_28), (0, .ref (ad 83))]) C0 hl rfl (by decide) (by decide) (fun _ => rfl) (o18_116 b_13 b_14 hn_12 e_18 c_19 b_35 b_36 hn_34 e_41 e_42 c_43 e_50 e_52 e_65 e_67 (le_min x4_26) (le_max x4_26) (le_min x2_5) (le_max x2_5) (le_min v_17) (le_max v_17) (le_min v_39) (le_max v_39) (le_min v_49) (le_max v_49) (le_min v_51) (le_max v_51) (le_min v_64) (le_max v_64) (le_min v_66) (le_max v_66)) (o18_117 b_13 b_14 hn_12 e_18 c_19 b_35 b_36 hn_34 e_41 e_42 c_43 e_50 e_52 e_65 e_67 (le_min x4_26) (le_max x4_26) (le_min x2_5) (le_max x2_5) (le_min v_17) (le_max v_17) (le_min v_39) (le_max v_39) (le_min v_49) (le_max v_49) (le_min v_51) (le_max v_51) (le_min v_64) (le_max v_64) (le_min v_66) (le_max v_66)) dX8_thin_70 (fun v_71 ls e_72 hl => ?_)
                refine lv_goto (tgt := 14) C0.1 C0.2.1 dX8_thin_73 (by decide) ?_
                exact ih_32 v_71 x3_27 x1_28 _ _ _ _ (o18_118 b_13 b_14 hn_12 e_18 c_19 b_35 b_36 hn_34 e_41 e_42 c_43 e_50 e_52 e_65 e_67 e_72) (o18_119 b_13 b_14 hn_12 e_18 c_19 b_35 b_36 hn_34 e_41 e_42 c_43 e_50 e_52 e_65 e_67 e_72) (o18_120 b_13 b_14 hn_12 e_18 c_19 b_35 b_36 hn_34 e_41 e_42 c_43 e_50 e_52 e_65 e_67 e_72) (o18_96 b_37 b_38) (o18_97 b_37 b_38) h (Fr.tr hF_30 (Fr.up u_69.1 hi_61 (by decide))) (lv_sub hl [0, 2, 3, 4, 5] rfl)
              · -- 55
                refine lv_iload_n C0.1 C0.2.1 dX8_thin_58 rfl (lv_at hl 2 rfl) ?_
                refine lv_iload C0.1 C0.2.1 dX8_thin_59 (lv_at hl 0 rfl) ?_
                refine y_iorU C0 dX8_thin_61 (fun v_73 => ?_)
                refine lv_istore_n (lv' := [(3, .int v_73), (5, .int v_60), (4, .int x4_26), (2, .int x2_5), (1, .int x1_28), (0, .ref (ad 83))]) C0.1 C0.2.1 dX8_thin_62 rfl hl (by decide) rfl (fun ls hl => ?_)
                refine lv_iload_n C0.1 C0.2.1 dX8_thin_63 rfl (lv_at hl 4 rfl) ?_
                refine lv_iload C0.1 C0.2.1 dX8_thin_64 (lv_at hl 2 rfl) ?_
                refine y_max C0 hl.1 q_1143 q_660 q_141 q_661 (Nat.le_of_ble_eq_true rfl) (Nat.le_of_ble_eq_true rfl) (Nat.le_of_ble_eq_true rfl) (Nat.le_of_ble_eq_true rfl) dX8_thin_66 (fun v_74 e_75 => ?_)
                refine lv_istore_n (lv' := [(1, .int v_74), (3, .int v_73), (5, .int v_60), (4, .int x4_26), (2, .int x2_5), (0, .ref (ad 83))]) C0.1 C0.2.1 dX8_thin_69 rfl hl (by decide) rfl (fun ls hl => ?_)
                refine y_inc (kp := 3) (n := 1) (fun v_76 => [(4, .int v_76), (1, .int v_74), (3, .int v_73), (5, .int v_60), (2, .int x2_5), (0, .ref (ad 83))]) C0 hl rfl (by decide) (by decide) (fun _ => rfl) (o18_121 b_13 b_14 hn_12 e_18 c_19 b_35 b_36 b_37 b_38 hn_34 e_41 e_42 c_43 e_50 e_52 e_65 e_67 e_75 (le_min x4_26) (le_max x4_26) (le_min x2_5) (le_max x2_5) (le_min v_17) (le_max v_17) (le_min x1_28) (le_max x1_28) (le_min v_39) (le_max v_39) (le_min v_49) (le_max v_49) (le_min v_51) (le_max v_51) (le_min v_64) (le_max v_64) (le_min v_66) (le_max v_66) (le_min v_74) (le_max v_74)) (o18_122 b_13 b_14 hn_12 e_18 c_19 b_35 b_36 b_37 b_38 hn_34 e_41 e_42 c_43 e_50 e_52 e_65 e_67 e_75 (le_min x4_26) (le_max x4_26) (le_min x2_5) (le_max x2_5) (le_min v_17) (le_max v_17) (le_min x1_28) (le_max x1_28) (le_min v_39) (le_max v_39) (le_min v_49) (le_max v_49) (le_min v_51) (le_max v_51) (le_min v_64) (le_max v_64) (le_min v_66) (le_max v_66) (le_min v_74) (le_max v_74)) dX8_thin_70 (fun v_76 ls e_77 hl => ?_)
                refine lv_goto (tgt := 14) C0.1 C0.2.1 dX8_thin_73 (by decide) ?_
                exact ih_32 v_76 v_73 v_74 _ _ _ _ (o18_123 b_13 b_14 hn_12 e_18 c_19 b_35 b_36 b_37 b_38 hn_34 e_41 e_42 c_43 e_50 e_52 e_65 e_67 e_75 e_77) (o18_124 b_13 b_14 hn_12 e_18 c_19 b_35 b_36 b_37 b_38 hn_34 e_41 e_42 c_43 e_50 e_52 e_65 e_67 e_75 e_77) (o18_125 b_13 b_14 hn_12 e_18 c_19 b_35 b_36 b_37 b_38 hn_34 e_41 e_42 c_43 e_50 e_52 e_65 e_67 e_75 e_77) (o18_126 b_13 b_14 hn_12 e_18 c_19 b_35 b_36 b_37 b_38 hn_34 e_41 e_42 c_43 e_50 e_52 e_65 e_67 e_75 e_77) (o18_127 b_13 b_14 hn_12 e_18 c_19 b_35 b_36 b_37 b_38 hn_34 e_41 e_42 c_43 e_50 e_52 e_65 e_67 e_75 e_77) h (Fr.tr hF_30 (Fr.up u_69.1 hi_61 (by decide))) (lv_sub hl [0, 2, 4, 1, 5] rfl)
        exact lp_31 ((121 - v_24.toInt + 1).toNat) v_24 v_22 x1_6 _ _ _ _ (o18_128 e_25) (o18_1 e_25) (o18_129 e_25) (o18_96 b_15 b_16) (o18_97 b_15 b_16) h Fr.rf (lv_sub hl [0, 1, 2, 3, 4] rfl)
  exact lp_9 ((4 - v_3.toInt + 1).toNat) v_3 v_1 _ _ _ _ (o18_30 e_4) (o18_1 e_4) (o18_31 e_4) (o18_1 e_2) (o18_84 e_2) h Fr.rf (lv_sub hl [0, 1, 2] rfl)
set_option maxHeartbeats 4000000 in
set_option maxRecDepth 100000 in
theorem c_X8_anyHeading (l : Launch) (G : GG) (Z : RZ) (ad : Nat → Nat) (ws0 : va_W) (hT : Ty G (SC tt) ad ws0) (a1 : Int32) (l1 : 0 ≤ a1.toInt) (u1 : a1.toInt ≤ 120) : Mq l yX8_anyHeading cX8_anyHeading 3 (some .int) 1 G Z [.ref (ad 83), .int a1] ws0 (PI G (SC tt) ad [] ws0 (fun r u => True)) := by
  refine Mq.start (by decide) (Nat.le_of_ble_eq_true rfl) ?_
  intro p e s m below meth c A ls C0 hZ h hl
  have hl : lv_has ls 3 [(0, .ref (ad 83)), (1, .int a1)] := hl
  have h : Wt G (SC tt) ad A s s.heap [] ws0 := ⟨h, hT⟩
  obtain ⟨args, hargs⟩ : ∃ z, z = ([.ref (ad 83), .int a1] : List Value).toArray := ⟨_, rfl⟩
  rw [← hargs] at C0 ⊢
  have C0 : Cx p s m args meth c RX8 cX8_anyHeading 3 (some .int) := C0
  obtain ⟨Q, hQ⟩ : ∃ z, z = MQ below ((PI G (SC tt) ad [] ws0 (fun r u => True)) A) args s 0 0 A := ⟨_, rfl⟩
  rw [← hQ]
  refine y_c1 (n := 4) C0 (by decide) dX8_anyHeading_0 (fun v_1 e_2 => ?_)
  refine lv_iload_n C0.1 C0.2.1 dX8_anyHeading_1 rfl (lv_at hl 1 rfl) ?_
  refine y_cmul (n := 4) C0 (o18_12 e_2) (o18_80 l1 u1 (le_min a1) (le_max a1)) (o18_81 l1 u1 (le_min a1) (le_max a1)) dX8_anyHeading_2 (fun v_3 e_4 => ?_)
  refine lv_istore_n (lv' := [(2, .int v_3), (0, .ref (ad 83)), (1, .int a1)]) C0.1 C0.2.1 dX8_anyHeading_3 rfl hl (by decide) rfl (fun ls hl => ?_)
  refine lv_aload_n C0.1 C0.2.1 dX8_anyHeading_4 rfl (lv_at hl 1 rfl) ?_
  refine tg_X8_sets C0 h kSC_83 q_316 dX8_anyHeading_5 (fun i_5 hi_5 => ?_)
  refine lv_iload_n C0.1 C0.2.1 dX8_anyHeading_8 rfl (lv_at hl 0 rfl) ?_
  refine y_iald C0 h hi_5 rfl (by decide) (o18_130 l1 u1 e_4) (o18_131 l1 u1 e_4) dX8_anyHeading_9 (fun v_6 e_7 e_8 e_9 => ?_)
  refine lv_aload_n C0.1 C0.2.1 dX8_anyHeading_10 rfl (lv_at hl 1 rfl) ?_
  refine tg_X8_sets C0 h kSC_83 q_316 dX8_anyHeading_11 (fun i_10 hi_10 => ?_)
  refine lv_iload_n C0.1 C0.2.1 dX8_anyHeading_14 rfl (lv_at hl 0 rfl) ?_
  refine y_c1 (n := 1) C0 (by decide) dX8_anyHeading_15 (fun v_11 e_12 => ?_)
  refine y_add C0 (o18_132 l1 u1 e_4 e_12 (le_min v_3) (le_max v_3) (le_min v_11) (le_max v_11) (le_min a1) (le_max a1)) (o18_133 l1 u1 e_4 e_12 (le_min v_3) (le_max v_3) (le_min v_11) (le_max v_11) (le_min a1) (le_max a1)) dX8_anyHeading_16 (fun v_13 e_14 => ?_)
  refine y_iald C0 h hi_10 rfl (by decide) (o18_134 l1 u1 e_4 e_12 e_14) (o18_135 l1 u1 e_4 e_12 e_14) dX8_anyHeading_17 (fun v_15 e_16 e_17 e_18 => ?_)
  refine y_iorU C0 dX8_anyHeading_18 (fun v_19 => ?_)
  refine lv_aload_n C0.1 C0.2.1 dX8_anyHeading_19 rfl (lv_at hl 1 rfl) ?_
  refine tg_X8_sets C0 h kSC_83 q_316 dX8_anyHeading_20 (fun i_20 hi_20 => ?_)
  refine lv_iload_n C0.1 C0.2.1 dX8_anyHeading_23 rfl (lv_at hl 0 rfl) ?_
  refine y_c1 (n := 2) C0 (by decide) dX8_anyHeading_24 (fun v_21 e_22 => ?_)
  refine y_add C0 (o18_136 l1 u1 e_4 e_12 e_14 e_22 (le_min v_3) (le_max v_3) (le_min v_21) (le_max v_21) (le_min a1) (le_max a1) (le_min v_11) (le_max v_11) (le_min v_13) (le_max v_13)) (o18_137 l1 u1 e_4 e_12 e_14 e_22 (le_min v_3) (le_max v_3) (le_min v_21) (le_max v_21) (le_min a1) (le_max a1) (le_min v_11) (le_max v_11) (le_min v_13) (le_max v_13)) dX8_anyHeading_25 (fun v_23 e_24 => ?_)
  refine y_iald C0 h hi_20 rfl (by decide) (o18_138 l1 u1 e_4 e_12 e_14 e_22 e_24) (o18_139 l1 u1 e_4 e_12 e_14 e_22 e_24) dX8_anyHeading_26 (fun v_25 e_26 e_27 e_28 => ?_)
  refine y_iorU C0 dX8_anyHeading_27 (fun v_29 => ?_)
  refine lv_aload_n C0.1 C0.2.1 dX8_anyHeading_28 rfl (lv_at hl 1 rfl) ?_
  refine tg_X8_sets C0 h kSC_83 q_316 dX8_anyHeading_29 (fun i_30 hi_30 => ?_)
  refine lv_iload_n C0.1 C0.2.1 dX8_anyHeading_32 rfl (lv_at hl 0 rfl) ?_
  refine y_c1 (n := 3) C0 (by decide) dX8_anyHeading_33 (fun v_31 e_32 => ?_)
  refine y_add C0 (o18_140 l1 u1 e_4 e_12 e_14 e_22 e_24 e_32 (le_min v_3) (le_max v_3) (le_min v_31) (le_max v_31) (le_min a1) (le_max a1) (le_min v_11) (le_max v_11) (le_min v_13) (le_max v_13) (le_min v_21) (le_max v_21) (le_min v_23) (le_max v_23)) (o18_141 l1 u1 e_4 e_12 e_14 e_22 e_24 e_32 (le_min v_3) (le_max v_3) (le_min v_31) (le_max v_31) (le_min a1) (le_max a1) (le_min v_11) (le_max v_11) (le_min v_13) (le_max v_13) (le_min v_21) (le_max v_21) (le_min v_23) (le_max v_23)) dX8_anyHeading_34 (fun v_33 e_34 => ?_)
  refine y_iald C0 h hi_30 rfl (by decide) (o18_142 l1 u1 e_4 e_12 e_14 e_22 e_24 e_32 e_34) (o18_143 l1 u1 e_4 e_12 e_14 e_22 e_24 e_32 e_34) dX8_anyHeading_35 (fun v_35 e_36 e_37 e_38 => ?_)
  refine y_iorU C0 dX8_anyHeading_36 (fun v_39 => ?_)
  rw [hQ]
  exact y_iret C0 h Fr.rf trivial dX8_anyHeading_37
set_option maxHeartbeats 4000000 in
set_option maxRecDepth 100000 in
theorem c_X8_goByRights (l : Launch) (G : GG) (Z : RZ) (ad : Nat → Nat) (ws0 : va_W) (hT : Ty G (SC tt) ad ws0) (a1 : Int32) (l1 : 0 ≤ a1.toInt) (u1 : a1.toInt ≤ 480) : Mq l yX8_goByRights cX8_goByRights 5 none 2 G Z [.ref (ad 83), .int a1] ws0 (PV G (SC tt) ad [23] ws0 (fun u => True)) := by
  refine Mq.start (by decide) (Nat.le_of_ble_eq_true rfl) ?_
  intro p e s m below meth c A ls C0 hZ h hl
  have hl : lv_has ls 5 [(0, .ref (ad 83)), (1, .int a1)] := hl
  have h : Wt G (SC tt) ad A s s.heap [] ws0 := ⟨h, hT⟩
  obtain ⟨args, hargs⟩ : ∃ z, z = ([.ref (ad 83), .int a1] : List Value).toArray := ⟨_, rfl⟩
  rw [← hargs] at C0 ⊢
  have C0 : Cx p s m args meth c RX8 cX8_goByRights 5 none := C0
  obtain ⟨Q, hQ⟩ : ∃ z, z = MQ below ((PV G (SC tt) ad [23] ws0 (fun u => True)) A) args s 0 0 A := ⟨_, rfl⟩
  rw [← hQ]
  refine y_c1 (n := 0) C0 (by decide) dX8_goByRights_0 (fun v_1 e_2 => ?_)
  refine lv_istore_n (lv' := [(2, .int v_1), (0, .ref (ad 83)), (1, .int a1)]) C0.1 C0.2.1 dX8_goByRights_1 rfl hl (by decide) rfl (fun ls hl => ?_)
  have lp_6 : ∀ (n_8 : Nat) (x2_3 : Int32) (H : Heap) (locs : List Loc) (ls : Array Slot) (ws_4 : va_W), 4 - x2_3.toInt < (n_8 : Int) → 0 ≤ x2_3.toInt → x2_3.toInt ≤ 4 → Wt G (SC tt) ad A s H locs ws_4 → Fr (SC tt) [23] ws0 ws_4 → lv_has ls 5 [(2, .int x2_3), (0, .ref (ad 83)), (1, .int a1)] → W p l e (rmd 2 0 0) s m args below meth c H locs 0 0 Q (F0 m 2 ls []) := by
    intro n_8
    induction n_8 with
    | zero => intro x2_3 H locs ls ws_4 hn_9 b_10 b_11 h hF_5 hl; exact ((o18_6 b_10 b_11 hn_9)).elim
    | succ n_8 ih_7 =>
      intro x2_3 H locs ls ws_4 hn_9 b_10 b_11 h hF_5 hl
      refine lv_iload_n C0.1 C0.2.1 dX8_goByRights_2 rfl (lv_at hl 0 rfl) ?_
      refine y_c1 (n := 4) C0 (by decide) dX8_goByRights_3 (fun v_12 e_13 => ?_)
      refine y_icmp_ge (tgt := 75) C0 dX8_goByRights_4 (by decide) (fun c_14 => ?_) (fun c_14 => ?_)
      · -- 4
        rw [hQ]
        exact y_vret C0 h hF_5 trivial dX8_goByRights_75
      · -- 4
        refine lv_aload_n C0.1 C0.2.1 dX8_goByRights_7 rfl (lv_at hl 1 rfl) ?_
        refine tg_X8_sets C0 h kSC_83 q_316 dX8_goByRights_8 (fun i_15 hi_15 => ?_)
        refine lv_iload_n C0.1 C0.2.1 dX8_goByRights_11 rfl (lv_at hl 2 rfl) ?_
        refine lv_iload_n C0.1 C0.2.1 dX8_goByRights_12 rfl (lv_at hl 0 rfl) ?_
        refine y_add C0 (o18_144 l1 u1 b_10 b_11 hn_9 e_13 c_14 (le_min a1) (le_max a1) (le_min x2_3) (le_max x2_3) (le_min v_12) (le_max v_12)) (o18_145 l1 u1 b_10 b_11 hn_9 e_13 c_14 (le_min a1) (le_max a1) (le_min x2_3) (le_max x2_3) (le_min v_12) (le_max v_12)) dX8_goByRights_13 (fun v_16 e_17 => ?_)
        refine y_iald C0 h hi_15 rfl (by decide) (o18_146 l1 u1 b_10 b_11 hn_9 e_13 c_14 e_17) (o18_147 l1 u1 b_10 b_11 hn_9 e_13 c_14 e_17) dX8_goByRights_14 (fun v_18 e_19 e_20 e_21 => ?_)
        refine lv_istore_n (lv' := [(3, .int v_18), (2, .int x2_3), (0, .ref (ad 83)), (1, .int a1)]) C0.1 C0.2.1 dX8_goByRights_15 rfl hl (by decide) rfl (fun ls hl => ?_)
        refine lv_iload_n C0.1 C0.2.1 dX8_goByRights_16 rfl (lv_at hl 0 rfl) ?_
        refine y_if_eq (tgt := 69) C0 dX8_goByRights_17 (by decide) (fun c_22 => ?_) (fun c_22 => ?_)
        · -- 17
          refine y_inc (kp := 1) (n := 1) (fun v_23 => [(2, .int v_23), (3, .int v_18), (0, .ref (ad 83)), (1, .int a1)]) C0 hl rfl (by decide) (by decide) (fun _ => rfl) (o18_148 l1 u1 b_10 b_11 hn_9 e_13 c_14 e_17 (le_min x2_3) (le_max x2_3) (le_min a1) (le_max a1) (le_min v_12) (le_max v_12) (le_min v_16) (le_max v_16)) (o18_149 l1 u1 b_10 b_11 hn_9 e_13 c_14 e_17 (le_min x2_3) (le_max x2_3) (le_min a1) (le_max a1) (le_min v_12) (le_max v_12) (le_min v_16) (le_max v_16)) dX8_goByRights_69 (fun v_23 ls e_24 hl => ?_)
          refine lv_goto (tgt := 2) C0.1 C0.2.1 dX8_goByRights_72 (by decide) ?_
          exact ih_7 v_23 _ _ _ _ (o18_150 l1 u1 b_10 b_11 hn_9 e_13 c_14 e_17 e_24) (o18_151 l1 u1 b_10 b_11 hn_9 e_13 c_14 e_17 e_24) (o18_152 l1 u1 b_10 b_11 hn_9 e_13 c_14 e_17 e_24) h hF_5 (lv_sub hl [0, 2, 3] rfl)
        · -- 17
          refine lv_iload_n C0.1 C0.2.1 dX8_goByRights_20 rfl (lv_at hl 1 rfl) ?_
          refine y_c1 (n := 1) C0 (by decide) dX8_goByRights_21 (fun v_25 e_26 => ?_)
          refine y_add C0 (o18_153 l1 u1 b_10 b_11 hn_9 e_13 c_14 e_17 e_26 (le_min x2_3) (le_max x2_3) (le_min v_25) (le_max v_25) (le_min a1) (le_max a1) (le_min v_12) (le_max v_12) (le_min v_16) (le_max v_16)) (o18_154 l1 u1 b_10 b_11 hn_9 e_13 c_14 e_17 e_26 (le_min x2_3) (le_max x2_3) (le_min v_25) (le_max v_25) (le_min a1) (le_max a1) (le_min v_12) (le_max v_12) (le_min v_16) (le_max v_16)) dX8_goByRights_22 (fun v_27 e_28 => ?_)
          refine y_c1 (n := 3) C0 (by decide) dX8_goByRights_23 (fun v_29 e_30 => ?_)
          refine y_and 3 2 (n := 3) C0 (Eq.trans (o18_70 e_30) (by decide)) (by decide) (by decide) (by decide) dX8_goByRights_24 (fun v_31 e_32 e_33 => ?_)
          refine lv_istore (lv' := [(4, .int v_31), (3, .int v_18), (2, .int x2_3), (0, .ref (ad 83)), (1, .int a1)]) C0.1 C0.2.1 dX8_goByRights_25 hl (by decide) rfl (fun ls hl => ?_)
          refine lv_aload_n C0.1 C0.2.1 dX8_goByRights_27 rfl (lv_at hl 3 rfl) ?_
          refine tg_X8_nexts C0 h kSC_83 q_317 dX8_goByRights_28 (fun i_34 hi_34 => ?_)
          refine lv_iload_n C0.1 C0.2.1 dX8_goByRights_31 rfl (lv_at hl 4 rfl) ?_
          refine lv_iload_n C0.1 C0.2.1 dX8_goByRights_32 rfl (lv_at hl 2 rfl) ?_
          refine y_add C0 (o18_155 l1 u1 b_10 b_11 hn_9 e_13 c_14 e_17 e_26 e_28 (le_min a1) (le_max a1) (le_min x2_3) (le_max x2_3) (le_min v_12) (le_max v_12) (le_min v_16) (le_max v_16) (le_min v_25) (le_max v_25) (le_min v_27) (le_max v_27)) (o18_156 l1 u1 b_10 b_11 hn_9 e_13 c_14 e_17 e_26 e_28 (le_min a1) (le_max a1) (le_min x2_3) (le_max x2_3) (le_min v_12) (le_max v_12) (le_min v_16) (le_max v_16) (le_min v_25) (le_max v_25) (le_min v_27) (le_max v_27)) dX8_goByRights_33 (fun v_35 e_36 => ?_)
          refine lv_dup2_11 C0.1 C0.2.1 dX8_goByRights_34 rfl rfl ?_
          refine y_iald C0 h hi_34 rfl (by decide) (o18_157 l1 u1 b_10 b_11 hn_9 e_13 c_14 e_17 e_26 e_28 e_36) (o18_158 l1 u1 b_10 b_11 hn_9 e_13 c_14 e_17 e_26 e_28 e_36) dX8_goByRights_35 (fun v_37 e_38 e_39 e_40 => ?_)
          refine lv_aload_n C0.1 C0.2.1 dX8_goByRights_36 rfl (lv_at hl 3 rfl) ?_
          refine tg_X8_city C0 h kSC_83 q_314 dX8_goByRights_37 ?_
          refine lv_iload_n C0.1 C0.2.1 dX8_goByRights_40 rfl (lv_at hl 1 rfl) ?_
          refine lv_iload_n C0.1 C0.2.1 dX8_goByRights_41 rfl (lv_at hl 2 rfl) ?_
          refine y_ci h (y_rV (As := [.int v_18, .int x2_3]) (rest := [.int v_37, .int v_35, .ref (ad i_34)]) C0 hZ h (c_X0_moved l G Z ad _ h.2 1 kSC_1 v_18 x2_3 (o18_159 l1 u1 b_10 b_11 hn_9 e_13 c_14 e_17 e_26 e_28 e_36) (o18_160 l1 u1 b_10 b_11 hn_9 e_13 c_14 e_17 e_26 e_28 e_36)) k_X0_moved q_1108 q_1109 q_1107 kSC_1 rfl rfl rfl hl.1 rfl rfl (Nat.le_of_ble_eq_true rfl) dX8_goByRights_42 ⟨Nat.le_of_ble_eq_true rfl, Nat.le_of_ble_eq_true rfl⟩ ⟨Nat.le_of_ble_eq_true rfl, Nat.le_of_ble_eq_true rfl⟩) (fun r_44 H locs ws_41 h u_42 p_43 => ?_)
          refine y_iorU C0 dX8_goByRights_45 (fun v_45 => ?_)
          refine y_iast C0 h hi_34 rfl (by decide) (o18_157 l1 u1 b_10 b_11 hn_9 e_13 c_14 e_17 e_26 e_28 e_36) (o18_158 l1 u1 b_10 b_11 hn_9 e_13 c_14 e_17 e_26 e_28 e_36) (le_min v_45) (le_max v_45) dX8_goByRights_46 (fun H locs ws_46 h u_47 => ?_)
          refine lv_aload_n C0.1 C0.2.1 dX8_goByRights_47 rfl (lv_at hl 3 rfl) ?_
          refine tg_X8_nexts C0 h kSC_83 q_317 dX8_goByRights_48 (fun i_48 hi_48 => ?_)
          refine lv_iload_n C0.1 C0.2.1 dX8_goByRights_51 rfl (lv_at hl 4 rfl) ?_
          refine lv_iload C0.1 C0.2.1 dX8_goByRights_52 (lv_at hl 0 rfl) ?_
          refine y_add C0 (o18_161 l1 u1 b_10 b_11 hn_9 e_13 c_14 e_17 e_26 e_28 e_32 e_33 e_36 (le_min a1) (le_max a1) (le_min v_31) (le_max v_31) (le_min x2_3) (le_max x2_3) (le_min v_12) (le_max v_12) (le_min v_16) (le_max v_16) (le_min v_25) (le_max v_25) (le_min v_27) (le_max v_27) (le_min v_35) (le_max v_35)) (o18_162 l1 u1 b_10 b_11 hn_9 e_13 c_14 e_17 e_26 e_28 e_32 e_33 e_36 (le_min a1) (le_max a1) (le_min v_31) (le_max v_31) (le_min x2_3) (le_max x2_3) (le_min v_12) (le_max v_12) (le_min v_16) (le_max v_16) (le_min v_25) (le_max v_25) (le_min v_27) (le_max v_27) (le_min v_35) (le_max v_35)) dX8_goByRights_54 (fun v_49 e_50 => ?_)
          refine lv_dup2_11 C0.1 C0.2.1 dX8_goByRights_55 rfl rfl ?_
          refine y_iald C0 h hi_48 rfl (by decide) (o18_163 l1 u1 b_10 b_11 hn_9 e_13 c_14 e_17 e_26 e_28 e_32 e_33 e_36 e_50) (o18_164 l1 u1 b_10 b_11 hn_9 e_13 c_14 e_17 e_26 e_28 e_32 e_33 e_36 e_50) dX8_goByRights_56 (fun v_51 e_52 e_53 e_54 => ?_)
          refine lv_aload_n C0.1 C0.2.1 dX8_goByRights_57 rfl (lv_at hl 3 rfl) ?_
          refine tg_X8_city C0 h kSC_83 q_314 dX8_goByRights_58 ?_
          refine lv_iload_n C0.1 C0.2.1 dX8_goByRights_61 rfl (lv_at hl 1 rfl) ?_
          refine lv_iload C0.1 C0.2.1 dX8_goByRights_62 (lv_at hl 0 rfl) ?_
          refine y_ci h (y_rV (As := [.int v_18, .int v_31]) (rest := [.int v_51, .int v_49, .ref (ad i_48)]) C0 hZ h (c_X0_moved l G Z ad _ h.2 1 kSC_1 v_18 v_31 (o18_165 l1 u1 b_10 b_11 hn_9 e_13 c_14 e_17 e_26 e_28 e_32 e_33 e_36 e_50) (o18_166 l1 u1 b_10 b_11 hn_9 e_13 c_14 e_17 e_26 e_28 e_32 e_33 e_36 e_50)) k_X0_moved q_1108 q_1109 q_1107 kSC_1 rfl rfl rfl hl.1 rfl rfl (Nat.le_of_ble_eq_true rfl) dX8_goByRights_64 ⟨Nat.le_of_ble_eq_true rfl, Nat.le_of_ble_eq_true rfl⟩ ⟨Nat.le_of_ble_eq_true rfl, Nat.le_of_ble_eq_true rfl⟩) (fun r_58 H locs ws_55 h u_56 p_57 => ?_)
          refine y_iorU C0 dX8_goByRights_67 (fun v_59 => ?_)
          refine y_iast C0 h hi_48 rfl (by decide) (o18_163 l1 u1 b_10 b_11 hn_9 e_13 c_14 e_17 e_26 e_28 e_32 e_33 e_36 e_50) (o18_164 l1 u1 b_10 b_11 hn_9 e_13 c_14 e_17 e_26 e_28 e_32 e_33 e_36 e_50) (le_min v_59) (le_max v_59) dX8_goByRights_68 (fun H locs ws_60 h u_61 => ?_)
          refine y_inc (kp := 2) (n := 1) (fun v_62 => [(2, .int v_62), (4, .int v_31), (3, .int v_18), (0, .ref (ad 83)), (1, .int a1)]) C0 hl rfl (by decide) (by decide) (fun _ => rfl) (o18_167 l1 u1 b_10 b_11 hn_9 e_13 c_14 e_17 e_26 e_28 e_32 e_33 e_36 e_50 (le_min x2_3) (le_max x2_3) (le_min a1) (le_max a1) (le_min v_12) (le_max v_12) (le_min v_16) (le_max v_16) (le_min v_25) (le_max v_25) (le_min v_27) (le_max v_27) (le_min v_31) (le_max v_31) (le_min v_35) (le_max v_35) (le_min v_49) (le_max v_49)) (o18_168 l1 u1 b_10 b_11 hn_9 e_13 c_14 e_17 e_26 e_28 e_32 e_33 e_36 e_50 (le_min x2_3) (le_max x2_3) (le_min a1) (le_max a1) (le_min v_12) (le_max v_12) (le_min v_16) (le_max v_16) (le_min v_25) (le_max v_25) (le_min v_27) (le_max v_27) (le_min v_31) (le_max v_31) (le_min v_35) (le_max v_35) (le_min v_49) (le_max v_49)) dX8_goByRights_69 (fun v_62 ls e_63 hl => ?_)
          refine lv_goto (tgt := 2) C0.1 C0.2.1 dX8_goByRights_72 (by decide) ?_
          exact ih_7 v_62 _ _ _ _ (o18_169 l1 u1 b_10 b_11 hn_9 e_13 c_14 e_17 e_26 e_28 e_32 e_33 e_36 e_50 e_63) (o18_170 l1 u1 b_10 b_11 hn_9 e_13 c_14 e_17 e_26 e_28 e_32 e_33 e_36 e_50 e_63) (o18_171 l1 u1 b_10 b_11 hn_9 e_13 c_14 e_17 e_26 e_28 e_32 e_33 e_36 e_50 e_63) h (Fr.tr (Fr.tr (Fr.tr (Fr.tr hF_5 (Fr.mono u_42 (by decide))) (Fr.up u_47.1 hi_34 (by decide))) (Fr.mono u_56 (by decide))) (Fr.up u_61.1 hi_48 (by decide))) (lv_sub hl [0, 3, 4] rfl)
  exact lp_6 ((4 - v_1.toInt + 1).toNat) v_1 _ _ _ _ (o18_30 e_2) (o18_1 e_2) (o18_31 e_2) h Fr.rf (lv_sub hl [0, 1, 2] rfl)
set_option maxHeartbeats 4000000 in
set_option maxRecDepth 100000 in
theorem c_X8_goByLeft (l : Launch) (G : GG) (Z : RZ) (ad : Nat → Nat) (ws0 : va_W) (hT : Ty G (SC tt) ad ws0) (a1 : Int32) (a2 : Int32) (a3 : Int32) (a4 : Int32) (a5 : Int32) (l1 : 0 ≤ a1.toInt) (u1 : a1.toInt ≤ 239) (l2 : 2 ≤ a2.toInt) (u2 : a2.toInt ≤ 3) (l3 : 0 ≤ a3.toInt) (u3 : a3.toInt ≤ 480) (l5 : 0 ≤ a5.toInt) (u5 : a5.toInt ≤ 480) : Mq l yX8_goByLeft cX8_goByLeft 9 none 4 G Z [.ref (ad 83), .int a1, .int a2, .int a3, .int a4, .int a5] ws0 (PV G (SC tt) ad [4, 5, 18, 19, 20, 21, 23] ws0 (fun u => True)) := by
  refine Mq.start (by decide) (Nat.le_of_ble_eq_true rfl) ?_
  intro p e s m below meth c A ls C0 hZ h hl
  have hl : lv_has ls 9 [(0, .ref (ad 83)), (1, .int a1), (2, .int a2), (3, .int a3), (4, .int a4), (5, .int a5)] := hl
  have h : Wt G (SC tt) ad A s s.heap [] ws0 := ⟨h, hT⟩
  obtain ⟨args, hargs⟩ : ∃ z, z = ([.ref (ad 83), .int a1, .int a2, .int a3, .int a4, .int a5] : List Value).toArray := ⟨_, rfl⟩
  rw [← hargs] at C0 ⊢
  have C0 : Cx p s m args meth c RX8 cX8_goByLeft 9 none := C0
  obtain ⟨Q, hQ⟩ : ∃ z, z = MQ below ((PV G (SC tt) ad [4, 5, 18, 19, 20, 21, 23] ws0 (fun u => True)) A) args s 0 0 A := ⟨_, rfl⟩
  rw [← hQ]
  refine y_c1 (n := 0) C0 (by decide) dX8_goByLeft_0 (fun v_1 e_2 => ?_)
  refine lv_istore (lv' := [(6, .int v_1), (0, .ref (ad 83)), (1, .int a1), (2, .int a2), (3, .int a3), (4, .int a4), (5, .int a5)]) C0.1 C0.2.1 dX8_goByLeft_1 hl (by decide) rfl (fun ls hl => ?_)
  have lp_6 : ∀ (n_8 : Nat) (x6_3 : Int32) (H : Heap) (locs : List Loc) (ls : Array Slot) (ws_4 : va_W), 4 - x6_3.toInt < (n_8 : Int) → 0 ≤ x6_3.toInt → x6_3.toInt ≤ 4 → Wt G (SC tt) ad A s H locs ws_4 → Fr (SC tt) [4, 5, 18, 19, 20, 21, 23] ws0 ws_4 → lv_has ls 9 [(6, .int x6_3), (0, .ref (ad 83)), (1, .int a1), (2, .int a2), (3, .int a3), (4, .int a4), (5, .int a5)] → W p l e (rmd 4 0 0) s m args below meth c H locs 0 0 Q (F0 m 3 ls []) := by
    intro n_8
    induction n_8 with
    | zero => intro x6_3 H locs ls ws_4 hn_9 b_10 b_11 h hF_5 hl; exact ((o18_6 b_10 b_11 hn_9)).elim
    | succ n_8 ih_7 =>
      intro x6_3 H locs ls ws_4 hn_9 b_10 b_11 h hF_5 hl
      refine lv_iload C0.1 C0.2.1 dX8_goByLeft_3 (lv_at hl 0 rfl) ?_
      refine y_c1 (n := 4) C0 (by decide) dX8_goByLeft_5 (fun v_12 e_13 => ?_)
      refine y_icmp_ge (tgt := 91) C0 dX8_goByLeft_6 (by decide) (fun c_14 => ?_) (fun c_14 => ?_)
      · -- 6
        rw [hQ]
        exact y_vret C0 h hF_5 trivial dX8_goByLeft_91
      · -- 6
        refine lv_iload C0.1 C0.2.1 dX8_goByLeft_9 (lv_at hl 0 rfl) ?_
        refine y_turned C0 hZ h hZ.2.2.2.2.2.2.1 dX8_goByLeft_11 ?_
        refine lv_iload_n C0.1 C0.2.1 dX8_goByLeft_14 rfl (lv_at hl 3 rfl) ?_
        refine y_tald C0 hZ h (o18_172 l2 u2) (o18_173 l2 u2) dX8_goByLeft_15 (fun v_18 e_15 e_16 e_17 => ?_)
        refine y_add C0 (o18_174 b_10 b_11 hn_9 e_13 c_14 e_16 e_17 (le_min x6_3) (le_max x6_3) (le_min v_18) (le_max v_18) (le_min v_12) (le_max v_12)) (o18_175 b_10 b_11 hn_9 e_13 c_14 e_16 e_17 (le_min x6_3) (le_max x6_3) (le_min v_18) (le_max v_18) (le_min v_12) (le_max v_12)) dX8_goByLeft_16 (fun v_19 e_20 => ?_)
        refine y_c1 (n := 3) C0 (by decide) dX8_goByLeft_17 (fun v_21 e_22 => ?_)
        refine y_and 3 2 (n := 3) C0 (Eq.trans (o18_70 e_22) (by decide)) (by decide) (by decide) (by decide) dX8_goByLeft_18 (fun v_23 e_24 e_25 => ?_)
        refine lv_istore (lv' := [(7, .int v_23), (6, .int x6_3), (0, .ref (ad 83)), (1, .int a1), (2, .int a2), (3, .int a3), (4, .int a4), (5, .int a5)]) C0.1 C0.2.1 dX8_goByLeft_19 hl (by decide) rfl (fun ls hl => ?_)
        refine lv_aload_n C0.1 C0.2.1 dX8_goByLeft_21 rfl (lv_at hl 2 rfl) ?_
        refine tg_X8_sets C0 h kSC_83 q_316 dX8_goByLeft_22 (fun i_26 hi_26 => ?_)
        refine lv_iload_n C0.1 C0.2.1 dX8_goByLeft_25 rfl (lv_at hl 5 rfl) ?_
        refine lv_iload C0.1 C0.2.1 dX8_goByLeft_26 (lv_at hl 1 rfl) ?_
        refine y_add C0 (o18_176 l3 u3 b_10 b_11 hn_9 e_13 c_14 e_16 e_17 e_20 (le_min a3) (le_max a3) (le_min x6_3) (le_max x6_3) (le_min v_12) (le_max v_12) (le_min v_18) (le_max v_18) (le_min v_19) (le_max v_19)) (o18_177 l3 u3 b_10 b_11 hn_9 e_13 c_14 e_16 e_17 e_20 (le_min a3) (le_max a3) (le_min x6_3) (le_max x6_3) (le_min v_12) (le_max v_12) (le_min v_18) (le_max v_18) (le_min v_19) (le_max v_19)) dX8_goByLeft_28 (fun v_27 e_28 => ?_)
        refine y_iald C0 h hi_26 rfl (by decide) (o18_178 l3 u3 b_10 b_11 hn_9 e_13 c_14 e_16 e_17 e_20 e_28) (o18_179 l3 u3 b_10 b_11 hn_9 e_13 c_14 e_16 e_17 e_20 e_28) dX8_goByLeft_29 (fun v_29 e_30 e_31 e_32 => ?_)
        refine lv_iload C0.1 C0.2.1 dX8_goByLeft_30 (lv_at hl 6 rfl) ?_
        refine y_iandU C0 dX8_goByLeft_32 (fun v_33 => ?_)
        refine lv_aload_n C0.1 C0.2.1 dX8_goByLeft_33 rfl (lv_at hl 2 rfl) ?_
        refine tg_X8_city C0 h kSC_83 q_314 dX8_goByLeft_34 ?_
        refine tg_X0_streets C0 h kSC_1 q_254 dX8_goByLeft_37 ?_
        refine lv_iload C0.1 C0.2.1 dX8_goByLeft_40 (lv_at hl 0 rfl) ?_
        refine y_iald C0 h kSC_18 rfl (by decide) (o18_40 e_24 e_25) (o18_180 e_24 e_25) dX8_goByLeft_42 (fun v_34 e_35 e_36 e_37 => ?_)
        refine y_iandU C0 dX8_goByLeft_43 (fun v_38 => ?_)
        refine lv_istore (lv' := [(8, .int v_38), (7, .int v_23), (6, .int x6_3), (0, .ref (ad 83)), (1, .int a1), (2, .int a2), (3, .int a3), (4, .int a4), (5, .int a5)]) C0.1 C0.2.1 dX8_goByLeft_44 hl (by decide) rfl (fun ls hl => ?_)
        refine lv_iload C0.1 C0.2.1 dX8_goByLeft_46 (lv_at hl 0 rfl) ?_
        refine y_if_eq (tgt := 85) C0 dX8_goByLeft_48 (by decide) (fun c_39 => ?_) (fun c_39 => ?_)
        · -- 48
          refine y_inc (kp := 2) (n := 1) (fun v_40 => [(6, .int v_40), (8, .int v_38), (7, .int v_23), (0, .ref (ad 83)), (1, .int a1), (2, .int a2), (3, .int a3), (4, .int a4), (5, .int a5)]) C0 hl rfl (by decide) (by decide) (fun _ => rfl) (o18_181 l3 u3 b_10 b_11 hn_9 e_13 c_14 e_16 e_17 e_20 e_28 (le_min x6_3) (le_max x6_3) (le_min a3) (le_max a3) (le_min v_12) (le_max v_12) (le_min v_18) (le_max v_18) (le_min v_19) (le_max v_19) (le_min v_27) (le_max v_27)) (o18_182 l3 u3 b_10 b_11 hn_9 e_13 c_14 e_16 e_17 e_20 e_28 (le_min x6_3) (le_max x6_3) (le_min a3) (le_max a3) (le_min v_12) (le_max v_12) (le_min v_18) (le_max v_18) (le_min v_19) (le_max v_19) (le_min v_27) (le_max v_27)) dX8_goByLeft_85 (fun v_40 ls e_41 hl => ?_)
          refine lv_goto (tgt := 3) C0.1 C0.2.1 dX8_goByLeft_88 (by decide) ?_
          exact ih_7 v_40 _ _ _ _ (o18_183 l3 u3 b_10 b_11 hn_9 e_13 c_14 e_16 e_17 e_20 e_28 e_41) (o18_184 l3 u3 b_10 b_11 hn_9 e_13 c_14 e_16 e_17 e_20 e_28 e_41) (o18_185 l3 u3 b_10 b_11 hn_9 e_13 c_14 e_16 e_17 e_20 e_28 e_41) h hF_5 (lv_sub hl [0, 3, 4, 5, 6, 7, 8] rfl)
        · -- 48
          refine lv_aload_n C0.1 C0.2.1 dX8_goByLeft_51 rfl (lv_at hl 3 rfl) ?_
          refine tg_X8_nexts C0 h kSC_83 q_317 dX8_goByLeft_52 (fun i_42 hi_42 => ?_)
          refine lv_iload C0.1 C0.2.1 dX8_goByLeft_55 (lv_at hl 8 rfl) ?_
          refine lv_iload C0.1 C0.2.1 dX8_goByLeft_57 (lv_at hl 1 rfl) ?_
          refine y_add C0 (o18_186 l5 u5 e_24 e_25 (le_min a5) (le_max a5) (le_min v_23) (le_max v_23)) (o18_187 l5 u5 e_24 e_25 (le_min a5) (le_max a5) (le_min v_23) (le_max v_23)) dX8_goByLeft_59 (fun v_43 e_44 => ?_)
          refine lv_dup2_11 C0.1 C0.2.1 dX8_goByLeft_60 rfl rfl ?_
          refine y_iald C0 h hi_42 rfl (by decide) (o18_188 l5 u5 e_24 e_25 e_44) (o18_189 l5 u5 e_24 e_25 e_44) dX8_goByLeft_61 (fun v_45 e_46 e_47 e_48 => ?_)
          refine lv_aload_n C0.1 C0.2.1 dX8_goByLeft_62 rfl (lv_at hl 3 rfl) ?_
          refine tg_X8_city C0 h kSC_83 q_314 dX8_goByLeft_63 ?_
          refine lv_aload_n C0.1 C0.2.1 dX8_goByLeft_66 rfl (lv_at hl 3 rfl) ?_
          refine tg_X8_forecast C0 h kSC_83 q_315 dX8_goByLeft_67 ?_
          refine lv_iload_n C0.1 C0.2.1 dX8_goByLeft_70 rfl (lv_at hl 4 rfl) ?_
          refine lv_iload C0.1 C0.2.1 dX8_goByLeft_71 (lv_at hl 1 rfl) ?_
          refine lv_iload C0.1 C0.2.1 dX8_goByLeft_73 (lv_at hl 0 rfl) ?_
          refine y_ci h (y_rV (As := [.int a1, .int v_23, .int v_38]) (rest := [.ref (ad 1), .int v_45, .int v_43, .ref (ad i_42)]) C0 hZ h (c_X2_allowing l G Z ad _ h.2 a1 v_23 v_38 (o18_35 l1 u1) (o18_36 l1 u1) (o18_190 l5 u5 e_24 e_25 e_44) (o18_191 l5 u5 e_24 e_25 e_44)) k_X2_allowing q_1117 q_1118 q_1116 kSC_79 rfl rfl rfl hl.1 rfl rfl (Nat.le_of_ble_eq_true rfl) dX8_goByLeft_75 ⟨Nat.le_of_ble_eq_true rfl, Nat.le_of_ble_eq_true rfl⟩ ⟨Nat.le_of_ble_eq_true rfl, Nat.le_of_ble_eq_true rfl⟩) (fun r_52 H locs ws_49 h u_50 p_51 => ?_)
          refine lv_iload C0.1 C0.2.1 dX8_goByLeft_78 (lv_at hl 1 rfl) ?_
          refine y_ci h (y_rV (As := [.int r_52, .int v_23]) (rest := [.int v_45, .int v_43, .ref (ad i_42)]) C0 hZ h (c_X0_moved l G Z ad _ h.2 1 kSC_1 r_52 v_23 (o18_190 l5 u5 e_24 e_25 e_44) (o18_191 l5 u5 e_24 e_25 e_44)) k_X0_moved q_1108 q_1109 q_1107 kSC_1 rfl rfl rfl hl.1 rfl rfl (Nat.le_of_ble_eq_true rfl) dX8_goByLeft_80 ⟨Nat.le_of_ble_eq_true rfl, Nat.le_of_ble_eq_true rfl⟩ ⟨Nat.le_of_ble_eq_true rfl, Nat.le_of_ble_eq_true rfl⟩) (fun r_56 H locs ws_53 h u_54 p_55 => ?_)
          refine y_iorU C0 dX8_goByLeft_83 (fun v_57 => ?_)
          refine y_iast C0 h hi_42 rfl (by decide) (o18_188 l5 u5 e_24 e_25 e_44) (o18_189 l5 u5 e_24 e_25 e_44) (le_min v_57) (le_max v_57) dX8_goByLeft_84 (fun H locs ws_58 h u_59 => ?_)
          refine y_inc (kp := 2) (n := 1) (fun v_60 => [(6, .int v_60), (8, .int v_38), (7, .int v_23), (0, .ref (ad 83)), (1, .int a1), (2, .int a2), (3, .int a3), (4, .int a4), (5, .int a5)]) C0 hl rfl (by decide) (by decide) (fun _ => rfl) (o18_181 l3 u3 b_10 b_11 hn_9 e_13 c_14 e_16 e_17 e_20 e_28 (le_min x6_3) (le_max x6_3) (le_min a3) (le_max a3) (le_min v_12) (le_max v_12) (le_min v_18) (le_max v_18) (le_min v_19) (le_max v_19) (le_min v_27) (le_max v_27)) (o18_182 l3 u3 b_10 b_11 hn_9 e_13 c_14 e_16 e_17 e_20 e_28 (le_min x6_3) (le_max x6_3) (le_min a3) (le_max a3) (le_min v_12) (le_max v_12) (le_min v_18) (le_max v_18) (le_min v_19) (le_max v_19) (le_min v_27) (le_max v_27)) dX8_goByLeft_85 (fun v_60 ls e_61 hl => ?_)
          refine lv_goto (tgt := 3) C0.1 C0.2.1 dX8_goByLeft_88 (by decide) ?_
          exact ih_7 v_60 _ _ _ _ (o18_183 l3 u3 b_10 b_11 hn_9 e_13 c_14 e_16 e_17 e_20 e_28 e_61) (o18_184 l3 u3 b_10 b_11 hn_9 e_13 c_14 e_16 e_17 e_20 e_28 e_61) (o18_185 l3 u3 b_10 b_11 hn_9 e_13 c_14 e_16 e_17 e_20 e_28 e_61) h (Fr.tr (Fr.tr (Fr.tr hF_5 (Fr.mono u_50 (by decide))) (Fr.mono u_54 (by decide))) (Fr.up u_59.1 hi_42 (by decide))) (lv_sub hl [0, 3, 4, 5, 6, 7, 8] rfl)
  exact lp_6 ((4 - v_1.toInt + 1).toNat) v_1 _ _ _ _ (o18_30 e_2) (o18_1 e_2) (o18_31 e_2) h Fr.rf (lv_sub hl [0, 1, 2, 3, 4, 5, 6] rfl)
set_option maxHeartbeats 4000000 in
set_option maxRecDepth 100000 in
theorem c_X8_goOn (l : Launch) (G : GG) (Z : RZ) (ad : Nat → Nat) (ws0 : va_W) (hT : Ty G (SC tt) ad ws0) (a1 : Int32) (a2 : Int32) (a3 : Int32) (l1 : 0 ≤ a1.toInt) (u1 : a1.toInt ≤ 239) (l3 : 0 ≤ a3.toInt) (u3 : a3.toInt ≤ 120) : Mq l yX8_goOn cX8_goOn 8 none 5 G Z [.ref (ad 83), .int a1, .int a2, .int a3] ws0 (PV G (SC tt) ad [4, 5, 18, 19, 20, 21, 22, 23] ws0 (fun u => True)) := by
  refine Mq.start (by decide) (Nat.le_of_ble_eq_true rfl) ?_
  intro p e s m below meth c A ls C0 hZ h hl
  have hl : lv_has ls 8 [(0, .ref (ad 83)), (1, .int a1), (2, .int a2), (3, .int a3)] := hl
  have h : Wt G (SC tt) ad A s s.heap [] ws0 := ⟨h, hT⟩
  obtain ⟨args, hargs⟩ : ∃ z, z = ([.ref (ad 83), .int a1, .int a2, .int a3] : List Value).toArray := ⟨_, rfl⟩
  rw [← hargs] at C0 ⊢
  have C0 : Cx p s m args meth c RX8 cX8_goOn 8 none := C0
  obtain ⟨Q, hQ⟩ : ∃ z, z = MQ below ((PV G (SC tt) ad [4, 5, 18, 19, 20, 21, 22, 23] ws0 (fun u => True)) A) args s 0 0 A := ⟨_, rfl⟩
  rw [← hQ]
  refine lv_aload_n C0.1 C0.2.1 dX8_goOn_0 rfl (lv_at hl 0 rfl) ?_
  refine tg_X8_forecast C0 h kSC_83 q_315 dX8_goOn_1 ?_
  refine lv_iload_n C0.1 C0.2.1 dX8_goOn_4 rfl (lv_at hl 1 rfl) ?_
  refine y_ci h (y_rV (As := [.int a1]) (rest := []) C0 hZ h (c_X2_freeAt l G Z ad _ h.2 a1 (o18_35 l1 u1) (o18_36 l1 u1)) k_X2_freeAt q_1095 q_1096 q_1094 kSC_79 rfl rfl rfl hl.1 rfl rfl (Nat.le_of_ble_eq_true rfl) dX8_goOn_5 ⟨Nat.le_of_ble_eq_true rfl, Nat.le_of_ble_eq_true rfl⟩ ⟨Nat.le_of_ble_eq_true rfl, Nat.le_of_ble_eq_true rfl⟩) (fun r_4 H locs ws_1 h u_2 p_3 => ?_)
  refine lv_iload_n C0.1 C0.2.1 dX8_goOn_8 rfl (lv_at hl 2 rfl) ?_
  refine y_iorU C0 dX8_goOn_9 (fun v_5 => ?_)
  refine lv_istore (lv' := [(4, .int v_5), (0, .ref (ad 83)), (1, .int a1), (2, .int a2), (3, .int a3)]) C0.1 C0.2.1 dX8_goOn_10 hl (by decide) rfl (fun ls hl => ?_)
  refine y_c1 (n := 0) C0 (by decide) dX8_goOn_12 (fun v_6 e_7 => ?_)
  refine lv_istore (lv' := [(5, .int v_6), (4, .int v_5), (0, .ref (ad 83)), (1, .int a1), (2, .int a2), (3, .int a3)]) C0.1 C0.2.1 dX8_goOn_13 hl (by decide) rfl (fun ls hl => ?_)
  have lp_11 : ∀ (n_13 : Nat) (x5_8 : Int32) (H : Heap) (locs : List Loc) (ls : Array Slot) (ws_9 : va_W), 121 - x5_8.toInt < (n_13 : Int) → 0 ≤ x5_8.toInt → x5_8.toInt ≤ 121 → Wt G (SC tt) ad A s H locs ws_9 → Fr (SC tt) [4, 5, 18, 19, 20, 21, 23] ws_1 ws_9 → lv_has ls 8 [(5, .int x5_8), (4, .int v_5), (0, .ref (ad 83)), (1, .int a1), (2, .int a2), (3, .int a3)] → W p l e (rmd 5 0 0) s m args below meth c H locs 0 0 Q (F0 m 15 ls []) := by
    intro n_13
    induction n_13 with
    | zero => intro x5_8 H locs ls ws_9 hn_14 b_15 b_16 h hF_10 hl; exact ((o18_98 b_15 b_16 hn_14)).elim
    | succ n_13 ih_12 =>
      intro x5_8 H locs ls ws_9 hn_14 b_15 b_16 h hF_10 hl
      refine lv_iload C0.1 C0.2.1 dX8_goOn_15 (lv_at hl 0 rfl) ?_
      refine lv_aload_n C0.1 C0.2.1 dX8_goOn_17 rfl (lv_at hl 2 rfl) ?_
      refine tg_X8_top C0 h kSC_83 q_318 dX8_goOn_18 (fun v_17 e_18 e_19 e_20 => ?_)
      refine y_icmp_gt (tgt := 109) C0 dX8_goOn_21 (by decide) (fun c_21 => ?_) (fun c_21 => ?_)
      · -- 21
        refine lv_aload_n C0.1 C0.2.1 dX8_goOn_109 rfl (lv_at hl 2 rfl) ?_
        refine lv_aload_n C0.1 C0.2.1 dX8_goOn_110 rfl (lv_at hl 2 rfl) ?_
        refine tg_X8_top C0 h kSC_83 q_318 dX8_goOn_111 (fun v_22 e_23 e_24 e_25 => ?_)
        have q_26 : v_22.toInt = v_17.toInt := congrArg Int32.toInt (e_23.symm.trans (Eq.trans rfl e_18))
        refine y_c1 (n := 2) C0 (by decide) dX8_goOn_114 (fun v_27 e_28 => ?_)
        refine y_add C0 (o18_192 b_15 b_16 hn_14 e_19 e_20 c_21 e_24 e_25 q_26 e_28 (le_min v_22) (le_max v_22) (le_min v_27) (le_max v_27) (le_min x5_8) (le_max x5_8) (le_min v_17) (le_max v_17)) (o18_193 b_15 b_16 hn_14 e_19 e_20 c_21 e_24 e_25 q_26 e_28 (le_min v_22) (le_max v_22) (le_min v_27) (le_max v_27) (le_min x5_8) (le_max x5_8) (le_min v_17) (le_max v_17)) dX8_goOn_115 (fun v_29 e_30 => ?_)
        refine lv_iload_n C0.1 C0.2.1 dX8_goOn_116 rfl (lv_at hl 5 rfl) ?_
        refine y_min C0 hl.1 q_1134 q_663 q_141 q_664 (Nat.le_of_ble_eq_true rfl) (Nat.le_of_ble_eq_true rfl) (Nat.le_of_ble_eq_true rfl) (Nat.le_of_ble_eq_true rfl) dX8_goOn_117 (fun v_31 e_32 => ?_)
        refine y_cv h (y_rV (As := [.int v_31]) (rest := []) C0 hZ h (c_X8_change l G Z ad _ h.2 v_31 (o18_194 l3 u3 b_15 b_16 hn_14 e_19 e_20 c_21 e_24 e_25 q_26 e_28 e_30 e_32) (o18_195 l3 u3 b_15 b_16 hn_14 e_19 e_20 c_21 e_24 e_25 q_26 e_28 e_30 e_32)) k_X8_change q_1137 q_39 q_1135 kSC_83 rfl rfl rfl hl.1 rfl rfl (Nat.le_of_ble_eq_true rfl) dX8_goOn_120 ⟨Nat.le_of_ble_eq_true rfl, Nat.le_of_ble_eq_true rfl⟩ ⟨Nat.le_of_ble_eq_true rfl, Nat.le_of_ble_eq_true rfl⟩) (fun H locs ws_33 h u_34 p_35 => ?_)
        have e_36 := p_35
        refine lv_aload_n C0.1 C0.2.1 dX8_goOn_123 rfl (lv_at hl 2 rfl) ?_
        refine y_cv h (y_rV (As := []) (rest := []) C0 hZ h (c_X8_thin l G Z ad _ h.2) k_X8_thin q_1141 q_40 q_1139 kSC_83 rfl rfl rfl hl.1 rfl rfl (Nat.le_of_ble_eq_true rfl) dX8_goOn_124 ⟨Nat.le_of_ble_eq_true rfl, Nat.le_of_ble_eq_true rfl⟩ ⟨Nat.le_of_ble_eq_true rfl, Nat.le_of_ble_eq_true rfl⟩) (fun H locs ws_37 h u_38 p_39 => ?_)
        rw [hQ]
        exact y_vret C0 h (Fr.tr (Fr.tr (Fr.tr (Fr.mono u_2 (by decide)) (Fr.mono hF_10 (by decide))) (Fr.mono u_34 (by decide))) (Fr.mono u_38 (by decide))) trivial dX8_goOn_127
      · -- 21
        refine lv_iload C0.1 C0.2.1 dX8_goOn_24 (lv_at hl 0 rfl) ?_
        refine lv_iload_n C0.1 C0.2.1 dX8_goOn_26 rfl (lv_at hl 5 rfl) ?_
        refine y_icmp_gt (tgt := 109) C0 dX8_goOn_27 (by decide) (fun c_40 => ?_) (fun c_40 => ?_)
        · -- 27
          refine lv_aload_n C0.1 C0.2.1 dX8_goOn_109 rfl (lv_at hl 2 rfl) ?_
          refine lv_aload_n C0.1 C0.2.1 dX8_goOn_110 rfl (lv_at hl 2 rfl) ?_
          refine tg_X8_top C0 h kSC_83 q_318 dX8_goOn_111 (fun v_41 e_42 e_43 e_44 => ?_)
          have q_45 : v_41.toInt = v_17.toInt := congrArg Int32.toInt (e_42.symm.trans (Eq.trans rfl e_18))
          refine y_c1 (n := 2) C0 (by decide) dX8_goOn_114 (fun v_46 e_47 => ?_)
          refine y_add C0 (o18_196 l3 u3 b_15 b_16 hn_14 e_19 e_20 c_21 c_40 e_43 e_44 q_45 e_47 (le_min v_41) (le_max v_41) (le_min v_46) (le_max v_46) (le_min a3) (le_max a3) (le_min x5_8) (le_max x5_8) (le_min v_17) (le_max v_17)) (o18_197 l3 u3 b_15 b_16 hn_14 e_19 e_20 c_21 c_40 e_43 e_44 q_45 e_47 (le_min v_41) (le_max v_41) (le_min v_46) (le_max v_46) (le_min a3) (le_max a3) (le_min x5_8) (le_max x5_8) (le_min v_17) (le_max v_17)) dX8_goOn_115 (fun v_48 e_49 => ?_)
          refine lv_iload_n C0.1 C0.2.1 dX8_goOn_116 rfl (lv_at hl 5 rfl) ?_
          refine y_min C0 hl.1 q_1134 q_663 q_141 q_664 (Nat.le_of_ble_eq_true rfl) (Nat.le_of_ble_eq_true rfl) (Nat.le_of_ble_eq_true rfl) (Nat.le_of_ble_eq_true rfl) dX8_goOn_117 (fun v_50 e_51 => ?_)
          refine y_cv h (y_rV (As := [.int v_50]) (rest := []) C0 hZ h (c_X8_change l G Z ad _ h.2 v_50 (o18_198 l3 u3 b_15 b_16 hn_14 e_19 e_20 c_21 c_40 e_43 e_44 q_45 e_47 e_49 e_51) (o18_199 l3 u3 b_15 b_16 hn_14 e_19 e_20 c_21 c_40 e_43 e_44 q_45 e_47 e_49 e_51)) k_X8_change q_1137 q_39 q_1135 kSC_83 rfl rfl rfl hl.1 rfl rfl (Nat.le_of_ble_eq_true rfl) dX8_goOn_120 ⟨Nat.le_of_ble_eq_true rfl, Nat.le_of_ble_eq_true rfl⟩ ⟨Nat.le_of_ble_eq_true rfl, Nat.le_of_ble_eq_true rfl⟩) (fun H locs ws_52 h u_53 p_54 => ?_)
          have e_55 := p_54
          refine lv_aload_n C0.1 C0.2.1 dX8_goOn_123 rfl (lv_at hl 2 rfl) ?_
          refine y_cv h (y_rV (As := []) (rest := []) C0 hZ h (c_X8_thin l G Z ad _ h.2) k_X8_thin q_1141 q_40 q_1139 kSC_83 rfl rfl rfl hl.1 rfl rfl (Nat.le_of_ble_eq_true rfl) dX8_goOn_124 ⟨Nat.le_of_ble_eq_true rfl, Nat.le_of_ble_eq_true rfl⟩ ⟨Nat.le_of_ble_eq_true rfl, Nat.le_of_ble_eq_true rfl⟩) (fun H locs ws_56 h u_57 p_58 => ?_)
          rw [hQ]
          exact y_vret C0 h (Fr.tr (Fr.tr (Fr.tr (Fr.mono u_2 (by decide)) (Fr.mono hF_10 (by decide))) (Fr.mono u_53 (by decide))) (Fr.mono u_57 (by decide))) trivial dX8_goOn_127
        · -- 27
          refine y_c1 (n := 4) C0 (by decide) dX8_goOn_30 (fun v_59 e_60 => ?_)
          refine lv_iload C0.1 C0.2.1 dX8_goOn_31 (lv_at hl 0 rfl) ?_
          refine y_cmul (n := 4) C0 (o18_12 e_60) (o18_200 l3 u3 b_15 b_16 hn_14 e_19 e_20 c_21 c_40 (le_min x5_8) (le_max x5_8) (le_min a3) (le_max a3) (le_min v_17) (le_max v_17)) (o18_201 l3 u3 b_15 b_16 hn_14 e_19 e_20 c_21 c_40 (le_min x5_8) (le_max x5_8) (le_min a3) (le_max a3) (le_min v_17) (le_max v_17)) dX8_goOn_33 (fun v_61 e_62 => ?_)
          refine lv_istore (lv' := [(6, .int v_61), (5, .int x5_8), (4, .int v_5), (0, .ref (ad 83)), (1, .int a1), (2, .int a2), (3, .int a3)]) C0.1 C0.2.1 dX8_goOn_34 hl (by decide) rfl (fun ls hl => ?_)
          refine lv_aload_n C0.1 C0.2.1 dX8_goOn_36 rfl (lv_at hl 3 rfl) ?_
          refine lv_iload C0.1 C0.2.1 dX8_goOn_37 (lv_at hl 0 rfl) ?_
          refine y_cv h (y_rV (As := [.int v_61]) (rest := []) C0 hZ h (c_X8_goByRights l G Z ad _ h.2 v_61 (o18_202 l3 u3 b_15 b_16 hn_14 e_19 e_20 c_21 c_40 e_62) (o18_203 l3 u3 b_15 b_16 hn_14 e_19 e_20 c_21 c_40 e_62)) k_X8_goByRights q_1105 q_36 q_1103 kSC_83 rfl rfl rfl hl.1 rfl rfl (Nat.le_of_ble_eq_true rfl) dX8_goOn_39 ⟨Nat.le_of_ble_eq_true rfl, Nat.le_of_ble_eq_true rfl⟩ ⟨Nat.le_of_ble_eq_true rfl, Nat.le_of_ble_eq_true rfl⟩) (fun H locs ws_63 h u_64 p_65 => ?_)
          refine y_c1 (n := 2) C0 (by decide) dX8_goOn_42 (fun v_66 e_67 => ?_)
          refine lv_istore (lv' := [(7, .int v_66), (6, .int v_61), (5, .int x5_8), (4, .int v_5), (0, .ref (ad 83)), (1, .int a1), (2, .int a2), (3, .int a3)]) C0.1 C0.2.1 dX8_goOn_43 hl (by decide) rfl (fun ls hl => ?_)
          have lp_71 : ∀ (n_73 : Nat) (x7_68 : Int32) (H : Heap) (locs : List Loc) (ls : Array Slot) (ws_69 : va_W), 4 - x7_68.toInt < (n_73 : Int) → 2 ≤ x7_68.toInt → x7_68.toInt ≤ 4 → Wt G (SC tt) ad A s H locs ws_69 → Fr (SC tt) [4, 5, 18, 19, 20, 21, 23] ws_63 ws_69 → lv_has ls 8 [(7, .int x7_68), (6, .int v_61), (5, .int x5_8), (4, .int v_5), (0, .ref (ad 83)), (1, .int a1), (2, .int a2), (3, .int a3)] → W p l e (rmd 5 0 0) s m args below meth c H locs 0 0 Q (F0 m 45 ls []) := by
            intro n_73
            induction n_73 with
            | zero => intro x7_68 H locs ls ws_69 hn_74 b_75 b_76 h hF_70 hl; exact ((o18_204 b_75 b_76 hn_74)).elim
            | succ n_73 ih_72 =>
              intro x7_68 H locs ls ws_69 hn_74 b_75 b_76 h hF_70 hl
              refine lv_iload C0.1 C0.2.1 dX8_goOn_45 (lv_at hl 0 rfl) ?_
              refine y_c1 (n := 4) C0 (by decide) dX8_goOn_47 (fun v_77 e_78 => ?_)
              refine y_icmp_ge (tgt := 103) C0 dX8_goOn_48 (by decide) (fun c_79 => ?_) (fun c_79 => ?_)
              · -- 48
                refine y_inc (kp := 2) (n := 1) (fun v_80 => [(5, .int v_80), (7, .int x7_68), (6, .int v_61), (4, .int v_5), (0, .ref (ad 83)), (1, .int a1), (2, .int a2), (3, .int a3)]) C0 hl rfl (by decide) (by decide) (fun _ => rfl) (o18_205 l3 u3 b_15 b_16 hn_14 e_19 e_20 c_21 c_40 e_62 (le_min x5_8) (le_max x5_8) (le_min a3) (le_max a3) (le_min v_17) (le_max v_17) (le_min v_61) (le_max v_61)) (o18_206 l3 u3 b_15 b_16 hn_14 e_19 e_20 c_21 c_40 e_62 (le_min x5_8) (le_max x5_8) (le_min a3) (le_max a3) (le_min v_17) (le_max v_17) (le_min v_61) (le_max v_61)) dX8_goOn_103 (fun v_80 ls e_81 hl => ?_)
                refine lv_goto (tgt := 15) C0.1 C0.2.1 dX8_goOn_106 (by decide) ?_
                exact ih_12 v_80 _ _ _ _ (o18_207 l3 u3 b_15 b_16 hn_14 e_19 e_20 c_21 c_40 e_62 e_81) (o18_208 l3 u3 b_15 b_16 hn_14 e_19 e_20 c_21 c_40 e_62 e_81) (o18_209 l3 u3 b_15 b_16 hn_14 e_19 e_20 c_21 c_40 e_62 e_81) h (Fr.tr (Fr.tr hF_10 (Fr.mono u_64 (by decide))) hF_70) (lv_sub hl [0, 3, 4, 5, 6, 7] rfl)
              · -- 48
                refine lv_aload_n C0.1 C0.2.1 dX8_goOn_51 rfl (lv_at hl 4 rfl) ?_
                refine lv_iload_n C0.1 C0.2.1 dX8_goOn_52 rfl (lv_at hl 5 rfl) ?_
                refine lv_iload C0.1 C0.2.1 dX8_goOn_53 (lv_at hl 0 rfl) ?_
                refine lv_iload C0.1 C0.2.1 dX8_goOn_55 (lv_at hl 1 rfl) ?_
                refine lv_iload C0.1 C0.2.1 dX8_goOn_57 (lv_at hl 3 rfl) ?_
                refine lv_iload C0.1 C0.2.1 dX8_goOn_59 (lv_at hl 1 rfl) ?_
                refine y_cv h (y_rV (As := [.int a1, .int x7_68, .int v_61, .int v_5, .int v_61]) (rest := []) C0 hZ h (c_X8_goByLeft l G Z ad _ h.2 a1 x7_68 v_61 v_5 v_61 (o18_35 l1 u1) (o18_36 l1 u1) (o18_210 b_75 b_76 hn_74 e_78 c_79) (o18_211 b_75 b_76 hn_74 e_78 c_79) (o18_202 l3 u3 b_15 b_16 hn_14 e_19 e_20 c_21 c_40 e_62) (o18_203 l3 u3 b_15 b_16 hn_14 e_19 e_20 c_21 c_40 e_62) (o18_202 l3 u3 b_15 b_16 hn_14 e_19 e_20 c_21 c_40 e_62) (o18_203 l3 u3 b_15 b_16 hn_14 e_19 e_20 c_21 c_40 e_62)) k_X8_goByLeft q_1113 q_37 q_1111 kSC_83 rfl rfl rfl hl.1 rfl rfl (Nat.le_of_ble_eq_true rfl) dX8_goOn_61 ⟨Nat.le_of_ble_eq_true rfl, Nat.le_of_ble_eq_true rfl⟩ ⟨Nat.le_of_ble_eq_true rfl, Nat.le_of_ble_eq_true rfl⟩) (fun H locs ws_82 h u_83 p_84 => ?_)
                refine lv_iload C0.1 C0.2.1 dX8_goOn_64 (lv_at hl 2 rfl) ?_
                refine lv_iload C0.1 C0.2.1 dX8_goOn_66 (lv_at hl 0 rfl) ?_
                refine y_add C0 (o18_212 l3 u3 b_15 b_16 hn_14 e_19 e_20 c_21 c_40 e_62 b_75 b_76 hn_74 e_78 c_79 (le_min x5_8) (le_max x5_8) (le_min x7_68) (le_max x7_68) (le_min a3) (le_max a3) (le_min v_17) (le_max v_17) (le_min v_61) (le_max v_61) (le_min v_77) (le_max v_77)) (o18_213 l3 u3 b_15 b_16 hn_14 e_19 e_20 c_21 c_40 e_62 b_75 b_76 hn_74 e_78 c_79 (le_min x5_8) (le_max x5_8) (le_min x7_68) (le_max x7_68) (le_min a3) (le_max a3) (le_min v_17) (le_max v_17) (le_min v_61) (le_max v_61) (le_min v_77) (le_max v_77)) dX8_goOn_68 (fun v_85 e_86 => ?_)
                refine y_c1 (n := 1) C0 (by decide) dX8_goOn_69 (fun v_87 e_88 => ?_)
                refine y_sub C0 (o18_214 l3 u3 b_15 b_16 hn_14 e_19 e_20 c_21 c_40 e_62 b_75 b_76 hn_74 e_78 c_79 e_86 e_88 (le_min v_85) (le_max v_85) (le_min v_87) (le_max v_87) (le_min a3) (le_max a3) (le_min x5_8) (le_max x5_8) (le_min v_17) (le_max v_17) (le_min v_61) (le_max v_61) (le_min x7_68) (le_max x7_68) (le_min v_77) (le_max v_77)) (o18_215 l3 u3 b_15 b_16 hn_14 e_19 e_20 c_21 c_40 e_62 b_75 b_76 hn_74 e_78 c_79 e_86 e_88 (le_min v_85) (le_max v_85) (le_min v_87) (le_max v_87) (le_min a3) (le_max a3) (le_min x5_8) (le_max x5_8) (le_min v_17) (le_max v_17) (le_min v_61) (le_max v_61) (le_min x7_68) (le_max x7_68) (le_min v_77) (le_max v_77)) dX8_goOn_70 (fun v_89 e_90 => ?_)
                refine lv_iload_n C0.1 C0.2.1 dX8_goOn_71 rfl (lv_at hl 7 rfl) ?_
                refine y_icmp_gt (tgt := 97) C0 dX8_goOn_72 (by decide) (fun c_91 => ?_) (fun c_91 => ?_)
                · -- 72
                  refine y_inc (kp := 0) (n := 1) (fun v_92 => [(7, .int v_92), (6, .int v_61), (5, .int x5_8), (4, .int v_5), (0, .ref (ad 83)), (1, .int a1), (2, .int a2), (3, .int a3)]) C0 hl rfl (by decide) (by decide) (fun _ => rfl) (o18_216 l3 u3 b_15 b_16 hn_14 e_19 e_20 c_21 c_40 e_62 b_75 b_76 hn_74 e_78 c_79 e_86 e_88 e_90 c_91 (le_min x7_68) (le_max x7_68) (le_min a3) (le_max a3) (le_min x5_8) (le_max x5_8) (le_min v_17) (le_max v_17) (le_min v_61) (le_max v_61) (le_min v_77) (le_max v_77) (le_min v_85) (le_max v_85) (le_min v_87) (le_max v_87) (le_min v_89) (le_max v_89)) (o18_217 l3 u3 b_15 b_16 hn_14 e_19 e_20 c_21 c_40 e_62 b_75 b_76 hn_74 e_78 c_79 e_86 e_88 e_90 c_91 (le_min x7_68) (le_max x7_68) (le_min a3) (le_max a3) (le_min x5_8) (le_max x5_8) (le_min v_17) (le_max v_17) (le_min v_61) (le_max v_61) (le_min v_77) (le_max v_77) (le_min v_85) (le_max v_85) (le_min v_87) (le_max v_87) (le_min v_89) (le_max v_89)) dX8_goOn_97 (fun v_92 ls e_93 hl => ?_)
                  refine lv_goto (tgt := 45) C0.1 C0.2.1 dX8_goOn_100 (by decide) ?_
                  exact ih_72 v_92 _ _ _ _ (o18_218 l3 u3 b_15 b_16 hn_14 e_19 e_20 c_21 c_40 e_62 b_75 b_76 hn_74 e_78 c_79 e_86 e_88 e_90 c_91 e_93) (o18_219 l3 u3 b_15 b_16 hn_14 e_19 e_20 c_21 c_40 e_62 b_75 b_76 hn_74 e_78 c_79 e_86 e_88 e_90 c_91 e_93) (o18_220 l3 u3 b_15 b_16 hn_14 e_19 e_20 c_21 c_40 e_62 b_75 b_76 hn_74 e_78 c_79 e_86 e_88 e_90 c_91 e_93) h (Fr.tr hF_70 u_83) (lv_sub hl [0, 1, 2, 3, 4, 5, 6, 7] rfl)
                · -- 72
                  refine lv_aload_n C0.1 C0.2.1 dX8_goOn_75 rfl (lv_at hl 4 rfl) ?_
                  refine lv_iload_n C0.1 C0.2.1 dX8_goOn_76 rfl (lv_at hl 5 rfl) ?_
                  refine lv_iload C0.1 C0.2.1 dX8_goOn_77 (lv_at hl 0 rfl) ?_
                  refine lv_iload C0.1 C0.2.1 dX8_goOn_79 (lv_at hl 1 rfl) ?_
                  refine lv_iload C0.1 C0.2.1 dX8_goOn_81 (lv_at hl 3 rfl) ?_
                  refine y_c1 (n := (-1)) C0 (by decide) dX8_goOn_83 (fun v_94 e_95 => ?_)
                  refine y_ixorU C0 dX8_goOn_84 (fun v_96 => ?_)
                  refine lv_iload C0.1 C0.2.1 dX8_goOn_85 (lv_at hl 1 rfl) ?_
                  refine y_c1 (n := 4) C0 (by decide) dX8_goOn_87 (fun v_97 e_98 => ?_)
                  refine lv_iload C0.1 C0.2.1 dX8_goOn_88 (lv_at hl 0 rfl) ?_
                  refine y_c1 (n := 1) C0 (by decide) dX8_goOn_90 (fun v_99 e_100 => ?_)
                  refine y_sub C0 (o18_221 l3 u3 b_15 b_16 hn_14 e_19 e_20 c_21 c_40 e_62 b_75 b_76 hn_74 e_78 c_79 e_86 e_88 e_90 c_91 e_100 (le_min x7_68) (le_max x7_68) (le_min v_99) (le_max v_99) (le_min a3) (le_max a3) (le_min x5_8) (le_max x5_8) (le_min v_17) (le_max v_17) (le_min v_61) (le_max v_61) (le_min v_77) (le_max v_77) (le_min v_85) (le_max v_85) (le_min v_87) (le_max v_87) (le_min v_89) (le_max v_89)) (o18_222 l3 u3 b_15 b_16 hn_14 e_19 e_20 c_21 c_40 e_62 b_75 b_76 hn_74 e_78 c_79 e_86 e_88 e_90 c_91 e_100 (le_min x7_68) (le_max x7_68) (le_min v_99) (le_max v_99) (le_min a3) (le_max a3) (le_min x5_8) (le_max x5_8) (le_min v_17) (le_max v_17) (le_min v_61) (le_max v_61) (le_min v_77) (le_max v_77) (le_min v_85) (le_max v_85) (le_min v_87) (le_max v_87) (le_min v_89) (le_max v_89)) dX8_goOn_91 (fun v_101 e_102 => ?_)
                  refine y_cmul (n := 4) C0 (o18_12 e_98) (o18_223 l3 u3 b_15 b_16 hn_14 e_19 e_20 c_21 c_40 e_62 b_75 b_76 hn_74 e_78 c_79 e_86 e_88 e_90 c_91 e_100 e_102 (le_min v_101) (le_max v_101) (le_min a3) (le_max a3) (le_min x5_8) (le_max x5_8) (le_min v_17) (le_max v_17) (le_min v_61) (le_max v_61) (le_min x7_68) (le_max x7_68) (le_min v_77) (le_max v_77) (le_min v_85) (le_max v_85) (le_min v_87) (le_max v_87) (le_min v_89) (le_max v_89) (le_min v_99) (le_max v_99)) (o18_224 l3 u3 b_15 b_16 hn_14 e_19 e_20 c_21 c_40 e_62 b_75 b_76 hn_74 e_78 c_79 e_86 e_88 e_90 c_91 e_100 e_102 (le_min v_101) (le_max v_101) (le_min a3) (le_max a3) (le_min x5_8) (le_max x5_8) (le_min v_17) (le_max v_17) (le_min v_61) (le_max v_61) (le_min x7_68) (le_max x7_68) (le_min v_77) (le_max v_77) (le_min v_85) (le_max v_85) (le_min v_87) (le_max v_87) (le_min v_89) (le_max v_89) (le_min v_99) (le_max v_99)) dX8_goOn_92 (fun v_103 e_104 => ?_)
                  refine y_add C0 (o18_225 l3 u3 b_15 b_16 hn_14 e_19 e_20 c_21 c_40 e_62 b_75 b_76 hn_74 e_78 c_79 e_86 e_88 e_90 c_91 e_100 e_102 e_104 (le_min v_61) (le_max v_61) (le_min v_103) (le_max v_103) (le_min a3) (le_max a3) (le_min x5_8) (le_max x5_8) (le_min v_17) (le_max v_17) (le_min x7_68) (le_max x7_68) (le_min v_77) (le_max v_77) (le_min v_85) (le_max v_85) (le_min v_87) (le_max v_87) (le_min v_89) (le_max v_89) (le_min v_99) (le_max v_99) (le_min v_101) (le_max v_101)) (o18_226 l3 u3 b_15 b_16 hn_14 e_19 e_20 c_21 c_40 e_62 b_75 b_76 hn_74 e_78 c_79 e_86 e_88 e_90 c_91 e_100 e_102 e_104 (le_min v_61) (le_max v_61) (le_min v_103) (le_max v_103) (le_min a3) (le_max a3) (le_min x5_8) (le_max x5_8) (le_min v_17) (le_max v_17) (le_min x7_68) (le_max x7_68) (le_min v_77) (le_max v_77) (le_min v_85) (le_max v_85) (le_min v_87) (le_max v_87) (le_min v_89) (le_max v_89) (le_min v_99) (le_max v_99) (le_min v_101) (le_max v_101)) dX8_goOn_93 (fun v_105 e_106 => ?_)
                  refine y_cv h (y_rV (As := [.int a1, .int x7_68, .int v_61, .int v_96, .int v_105]) (rest := []) C0 hZ h (c_X8_goByLeft l G Z ad _ h.2 a1 x7_68 v_61 v_96 v_105 (o18_35 l1 u1) (o18_36 l1 u1) (o18_227 l3 u3 b_15 b_16 hn_14 e_19 e_20 c_21 c_40 e_62 b_75 b_76 hn_74 e_78 c_79 e_86 e_88 e_90 c_91 e_100 e_102 e_104 e_106) (o18_228 l3 u3 b_15 b_16 hn_14 e_19 e_20 c_21 c_40 e_62 b_75 b_76 hn_74 e_78 c_79 e_86 e_88 e_90 c_91 e_100 e_102 e_104 e_106) (o18_229 l3 u3 b_15 b_16 hn_14 e_19 e_20 c_21 c_40 e_62 b_75 b_76 hn_74 e_78 c_79 e_86 e_88 e_90 c_91 e_100 e_102 e_104 e_106) (o18_230 l3 u3 b_15 b_16 hn_14 e_19 e_20 c_21 c_40 e_62 b_75 b_76 hn_74 e_78 c_79 e_86 e_88 e_90 c_91 e_100 e_102 e_104 e_106) (o18_231 l3 u3 b_15 b_16 hn_14 e_19 e_20 c_21 c_40 e_62 b_75 b_76 hn_74 e_78 c_79 e_86 e_88 e_90 c_91 e_100 e_102 e_104 e_106) (o18_232 l3 u3 b_15 b_16 hn_14 e_19 e_20 c_21 c_40 e_62 b_75 b_76 hn_74 e_78 c_79 e_86 e_88 e_90 c_91 e_100 e_102 e_104 e_106)) k_X8_goByLeft q_1113 q_37 q_1111 kSC_83 rfl rfl rfl hl.1 rfl rfl (Nat.le_of_ble_eq_true rfl) dX8_goOn_94 ⟨Nat.le_of_ble_eq_true rfl, Nat.le_of_ble_eq_true rfl⟩ ⟨Nat.le_of_ble_eq_true rfl, Nat.le_of_ble_eq_true rfl⟩) (fun H locs ws_107 h u_108 p_109 => ?_)
                  refine y_inc (kp := 0) (n := 1) (fun v_110 => [(7, .int v_110), (6, .int v_61), (5, .int x5_8), (4, .int v_5), (0, .ref (ad 83)), (1, .int a1), (2, .int a2), (3, .int a3)]) C0 hl rfl (by decide) (by decide) (fun _ => rfl) (o18_233 l3 u3 b_15 b_16 hn_14 e_19 e_20 c_21 c_40 e_62 b_75 b_76 hn_74 e_78 c_79 e_86 e_88 e_90 c_91 e_100 e_102 e_104 e_106 (le_min x7_68) (le_max x7_68) (le_min a3) (le_max a3) (le_min x5_8) (le_max x5_8) (le_min v_17) (le_max v_17) (le_min v_61) (le_max v_61) (le_min v_77) (le_max v_77) (le_min v_85) (le_max v_85) (le_min v_87) (le_max v_87) (le_min v_89) (le_max v_89) (le_min v_99) (le_max v_99) (le_min v_101) (le_max v_101) (le_min v_103) (le_max v_103) (le_min v_105) (le_max v_105)) (o18_234 l3 u3 b_15 b_16 hn_14 e_19 e_20 c_21 c_40 e_62 b_75 b_76 hn_74 e_78 c_79 e_86 e_88 e_90 c_91 e_100 e_102 e_104 e_106 (le_min x7_68) (le_max x7_68) (le_min a3) (le_max a3) (le_min x5_8) (le_max x5_8) (le_min v_17) (le_max v_17) (le_min v_61) (le_max v_61) (le_min v_77) (le_max v_77) (le_min v_85) (le_max v_85) (le_min v_87) (le_max v_87) (le_min v_89) (le_max v_89) (le_min v_99) (le_max v_99) (le_min v_101) (le_max v_101) (le_min v_103) (le_max v_103) (le_min v_105) (le_max v_105)) dX8_goOn_97 (fun v_110 ls e_111 hl => ?_)
                  refine lv_goto (tgt := 45) C0.1 C0.2.1 dX8_goOn_100 (by decide) ?_
                  exact ih_72 v_110 _ _ _ _ (o18_235 l3 u3 b_15 b_16 hn_14 e_19 e_20 c_21 c_40 e_62 b_75 b_76 hn_74 e_78 c_79 e_86 e_88 e_90 c_91 e_100 e_102 e_104 e_106 e_111) (o18_236 l3 u3 b_15 b_16 hn_14 e_19 e_20 c_21 c_40 e_62 b_75 b_76 hn_74 e_78 c_79 e_86 e_88 e_90 c_91 e_100 e_102 e_104 e_106 e_111) (o18_237 l3 u3 b_15 b_16 hn_14 e_19 e_20 c_21 c_40 e_62 b_75 b_76 hn_74 e_78 c_79 e_86 e_88 e_90 c_91 e_100 e_102 e_104 e_106 e_111) h (Fr.tr (Fr.tr hF_70 u_83) u_108) (lv_sub hl [0, 1, 2, 3, 4, 5, 6, 7] rfl)
          exact lp_71 ((4 - v_66.toInt + 1).toNat) v_66 _ _ _ _ (o18_238 e_67) (o18_239 e_67) (o18_240 e_67) h Fr.rf (lv_sub hl [0, 1, 2, 3, 4, 5, 6, 7] rfl)
  exact lp_11 ((121 - v_6.toInt + 1).toNat) v_6 _ _ _ _ (o18_128 e_7) (o18_1 e_7) (o18_129 e_7) h Fr.rf (lv_sub hl [0, 1, 2, 3, 4, 5] rfl)
set_option maxHeartbeats 4000000 in
set_option maxRecDepth 100000 in
theorem c_X8_lowest (l : Launch) (G : GG) (Z : RZ) (ad : Nat → Nat) (ws0 : va_W) (hT : Ty G (SC tt) ad ws0) (a1 : Int32) (a2 : Int32) (l2 : 0 ≤ a2.toInt) (u2 : a2.toInt ≤ 120) : Mq l yX8_lowest cX8_lowest 4 (some .int) 2 G Z [.ref (ad 83), .int a1, .int a2] ws0 (PI G (SC tt) ad [] ws0 (fun r u => ((-1) ≤ r.toInt) ∧ (r.toInt ≤ 120))) := by
  refine Mq.start (by decide) (Nat.le_of_ble_eq_true rfl) ?_
  intro p e s m below meth c A ls C0 hZ h hl
  have hl : lv_has ls 4 [(0, .ref (ad 83)), (1, .int a1), (2, .int a2)] := hl
  have h : Wt G (SC tt) ad A s s.heap [] ws0 := ⟨h, hT⟩
  obtain ⟨args, hargs⟩ : ∃ z, z = ([.ref (ad 83), .int a1, .int a2] : List Value).toArray := ⟨_, rfl⟩
  rw [← hargs] at C0 ⊢
  have C0 : Cx p s m args meth c RX8 cX8_lowest 4 (some .int) := C0
  obtain ⟨Q, hQ⟩ : ∃ z, z = MQ below ((PI G (SC tt) ad [] ws0 (fun r u => ((-1) ≤ r.toInt) ∧ (r.toInt ≤ 120))) A) args s 0 0 A := ⟨_, rfl⟩
  rw [← hQ]
  refine y_c1 (n := 0) C0 (by decide) dX8_lowest_0 (fun v_1 e_2 => ?_)
  refine lv_istore_n (lv' := [(3, .int v_1), (0, .ref (ad 83)), (1, .int a1), (2, .int a2)]) C0.1 C0.2.1 dX8_lowest_1 rfl hl (by decide) rfl (fun ls hl => ?_)
  have lp_6 : ∀ (n_8 : Nat) (x3_3 : Int32) (H : Heap) (locs : List Loc) (ls : Array Slot) (ws_4 : va_W), 121 - x3_3.toInt < (n_8 : Int) → 0 ≤ x3_3.toInt → x3_3.toInt ≤ 121 → Wt G (SC tt) ad A s H locs ws_4 → Fr (SC tt) [] ws0 ws_4 → lv_has ls 4 [(3, .int x3_3), (0, .ref (ad 83)), (1, .int a1), (2, .int a2)] → W p l e (rmd 2 0 0) s m args below meth c H locs 0 0 Q (F0 m 2 ls []) := by
    intro n_8
    induction n_8 with
    | zero => intro x3_3 H locs ls ws_4 hn_9 b_10 b_11 h hF_5 hl; exact ((o18_98 b_10 b_11 hn_9)).elim
    | succ n_8 ih_7 =>
      intro x3_3 H locs ls ws_4 hn_9 b_10 b_11 h hF_5 hl
      refine lv_iload_n C0.1 C0.2.1 dX8_lowest_2 rfl (lv_at hl 0 rfl) ?_
      refine lv_aload_n C0.1 C0.2.1 dX8_lowest_3 rfl (lv_at hl 1 rfl) ?_
      refine tg_X8_top C0 h kSC_83 q_318 dX8_lowest_4 (fun v_12 e_13 e_14 e_15 => ?_)
      refine y_icmp_gt (tgt := 35) C0 dX8_lowest_7 (by decide) (fun c_16 => ?_) (fun c_16 => ?_)
      · -- 7
        refine y_c1 (n := (-1)) C0 (by decide) dX8_lowest_35 (fun v_17 e_18 => ?_)
        rw [hQ]
        exact y_iret C0 h hF_5 ⟨(o18_77 e_18), (o18_241 e_18)⟩ dX8_lowest_36
      · -- 7
        refine lv_iload_n C0.1 C0.2.1 dX8_lowest_10 rfl (lv_at hl 0 rfl) ?_
        refine lv_iload_n C0.1 C0.2.1 dX8_lowest_11 rfl (lv_at hl 3 rfl) ?_
        refine y_icmp_gt (tgt := 35) C0 dX8_lowest_12 (by decide) (fun c_19 => ?_) (fun c_19 => ?_)
        · -- 12
          refine y_c1 (n := (-1)) C0 (by decide) dX8_lowest_35 (fun v_20 e_21 => ?_)
          rw [hQ]
          exact y_iret C0 h hF_5 ⟨(o18_77 e_21), (o18_241 e_21)⟩ dX8_lowest_36
        · -- 12
          refine lv_aload_n C0.1 C0.2.1 dX8_lowest_15 rfl (lv_at hl 1 rfl) ?_
          refine lv_iload_n C0.1 C0.2.1 dX8_lowest_16 rfl (lv_at hl 0 rfl) ?_
          refine y_ci h (y_rV (As := [.int x3_3]) (rest := []) C0 hZ h (c_X8_anyHeading l G Z ad _ h.2 x3_3 (o18_242 l2 u2 b_10 b_11 hn_9 e_14 e_15 c_16 c_19) (o18_243 l2 u2 b_10 b_11 hn_9 e_14 e_15 c_16 c_19)) k_X8_anyHeading q_1088 q_33 q_1086 kSC_83 rfl rfl rfl hl.1 rfl rfl (Nat.le_of_ble_eq_true rfl) dX8_lowest_17 ⟨Nat.le_of_ble_eq_true rfl, Nat.le_of_ble_eq_true rfl⟩ ⟨Nat.le_of_ble_eq_true rfl, Nat.le_of_ble_eq_true rfl⟩) (fun r_25 H locs ws_22 h u_23 p_24 => ?_)
          refine lv_iload_n C0.1 C0.2.1 dX8_lowest_20 rfl (lv_at hl 2 rfl) ?_
          refine y_ishrU C0 dX8_lowest_21 (fun v_26 => ?_)
          refine y_c1 (n := 1) C0 (by decide) dX8_lowest_22 (fun v_27 e_28 => ?_)
          refine y_and 1 1 (n := 1) C0 (Eq.trans (o18_47 e_28) (by decide)) (by decide) (by decide) (by decide) dX8_lowest_23 (fun v_29 e_30 e_31 => ?_)
          refine y_if_eq (tgt := 29) C0 dX8_lowest_24 (by decide) (fun c_32 => ?_) (fun c_32 => ?_)
          · -- 24
            refine y_inc (kp := 0) (n := 1) (fun v_33 => [(3, .int v_33), (0, .ref (ad 83)), (1, .int a1), (2, .int a2)]) C0 hl rfl (by decide) (by decide) (fun _ => rfl) (o18_244 l2 u2 b_10 b_11 hn_9 e_14 e_15 c_16 c_19 (le_min x3_3) (le_max x3_3) (le_min a2) (le_max a2) (le_min v_12) (le_max v_12)) (o18_245 l2 u2 b_10 b_11 hn_9 e_14 e_15 c_16 c_19 (le_min x3_3) (le_max x3_3) (le_min a2) (le_max a2) (le_min v_12) (le_max v_12)) dX8_lowest_29 (fun v_33 ls e_34 hl => ?_)
            refine lv_goto (tgt := 2) C0.1 C0.2.1 dX8_lowest_32 (by decide) ?_
            exact ih_7 v_33 _ _ _ _ (o18_246 l2 u2 b_10 b_11 hn_9 e_14 e_15 c_16 c_19 e_34) (o18_247 l2 u2 b_10 b_11 hn_9 e_14 e_15 c_16 c_19 e_34) (o18_248 l2 u2 b_10 b_11 hn_9 e_14 e_15 c_16 c_19 e_34) h (Fr.tr hF_5 u_23) (lv_sub hl [0, 1, 2, 3] rfl)
          · -- 24
            refine lv_iload_n C0.1 C0.2.1 dX8_lowest_27 rfl (lv_at hl 0 rfl) ?_
            rw [hQ]
            exact y_iret C0 h (Fr.tr hF_5 u_23) ⟨(o18_249 l2 u2 b_10 b_11 hn_9 e_14 e_15 c_16 c_19), (o18_243 l2 u2 b_10 b_11 hn_9 e_14 e_15 c_16 c_19)⟩ dX8_lowest_28
  exact lp_6 ((121 - v_1.toInt + 1).toNat) v_1 _ _ _ _ (o18_128 e_2) (o18_1 e_2) (o18_129 e_2) h Fr.rf (lv_sub hl [0, 1, 2, 3] rfl)
set_option maxHeartbeats 4000000 in
set_option maxRecDepth 100000 in
theorem c_X8_fewestStreets (l : Launch) (G : GG) (Z : RZ) (ad : Nat → Nat) (ws0 : va_W) (hT : Ty G (SC tt) ad ws0) (a1 : Int32) (a2 : Int32) (a3 : Int32) (a4 : Int32) (a5 : Int32) (l1 : 0 ≤ a1.toInt) (u1 : a1.toInt ≤ 99) (l3 : 0 ≤ a3.toInt) (u3 : a3.toInt ≤ 120) (l4 : 0 ≤ a4.toInt) (u4 : a4.toInt ≤ 60) : Mq l yX8_fewestStreets cX8_fewestStreets 7 (some .int) 6 G Z [.ref (ad 83), .int a1, .int a2, .int a3, .int a4, .int a5] ws0 (PI G (SC tt) ad [4, 5, 18, 19, 20, 21, 22, 23] ws0 (fun r u => ((-1) ≤ r.toInt) ∧ (r.toInt ≤ 60))) := by
  refine Mq.start (by decide) (Nat.le_of_ble_eq_true rfl) ?_
  intro p e s m below meth c A ls C0 hZ h hl
  have hl : lv_has ls 7 [(0, .ref (ad 83)), (1, .int a1), (2, .int a2), (3, .int a3), (4, .int a4), (5, .int a5)] := hl
  have h : Wt G (SC tt) ad A s s.heap [] ws0 := ⟨h, hT⟩
  obtain ⟨args, hargs⟩ : ∃ z, z = ([.ref (ad 83), .int a1, .int a2, .int a3, .int a4, .int a5] : List Value).toArray := ⟨_, rfl⟩
  rw [← hargs] at C0 ⊢
  have C0 : Cx p s m args meth c RX8 cX8_fewestStreets 7 (some .int) := C0
  obtain ⟨Q, hQ⟩ : ∃ z, z = MQ below ((PI G (SC tt) ad [4, 5, 18, 19, 20, 21, 22, 23] ws0 (fun r u => ((-1) ≤ r.toInt) ∧ (r.toInt ≤ 60))) A) args s 0 0 A := ⟨_, rfl⟩
  rw [← hQ]
  refine lv_aload_n C0.1 C0.2.1 dX8_fewestStreets_0 rfl (lv_at hl 0 rfl) ?_
  refine lv_iload_n C0.1 C0.2.1 dX8_fewestStreets_1 rfl (lv_at hl 1 rfl) ?_
  refine y_cv h (y_rV (As := [.int a1]) (rest := []) C0 hZ h (c_X8_begin l G Z ad _ h.2 a1 (o18_250 l1 u1) (o18_251 l1 u1)) k_X8_begin q_1080 q_31 q_1078 kSC_83 rfl rfl rfl hl.1 rfl rfl (Nat.le_of_ble_eq_true rfl) dX8_fewestStreets_2 ⟨Nat.le_of_ble_eq_true rfl, Nat.le_of_ble_eq_true rfl⟩ ⟨Nat.le_of_ble_eq_true rfl, Nat.le_of_ble_eq_true rfl⟩) (fun H locs ws_1 h u_2 p_3 => ?_)
  have e_4 := p_3
  obtain ⟨f_5, e_6⟩ : ∃ v, fI ws_1 83 4 = v := ⟨_, rfl⟩
  rw [e_6] at e_4
  refine y_c1 (n := 0) C0 (by decide) dX8_fewestStreets_5 (fun v_7 e_8 => ?_)
  refine lv_istore (lv' := [(6, .int v_7), (0, .ref (ad 83)), (1, .int a1), (2, .int a2), (3, .int a3), (4, .int a4), (5, .int a5)]) C0.1 C0.2.1 dX8_fewestStreets_6 hl (by decide) rfl (fun ls hl => ?_)
  have lp_12 : ∀ (n_14 : Nat) (x6_9 : Int32) (H : Heap) (locs : List Loc) (ls : Array Slot) (ws_10 : va_W), 61 - x6_9.toInt < (n_14 : Int) → 0 ≤ x6_9.toInt → x6_9.toInt ≤ 61 → Wt G (SC tt) ad A s H locs ws_10 → Fr (SC tt) [4, 5, 18, 19, 20, 21, 22, 23] ws_1 ws_10 → lv_has ls 7 [(6, .int x6_9), (0, .ref (ad 83)), (1, .int a1), (2, .int a2), (3, .int a3), (4, .int a4), (5, .int a5)] → W p l e (rmd 6 0 0) s m args below meth c H locs 0 0 Q (F0 m 8 ls []) := by
    intro n_14
    induction n_14 with
    | zero => intro x6_9 H locs ls ws_10 hn_15 b_16 b_17 h hF_11 hl; exact ((o18_252 b_16 b_17 hn_15)).elim
    | succ n_14 ih_13 =>
      intro x6_9 H locs ls ws_10 hn_15 b_16 b_17 h hF_11 hl
      refine lv_iload C0.1 C0.2.1 dX8_fewestStreets_8 (lv_at hl 0 rfl) ?_
      refine lv_iload C0.1 C0.2.1 dX8_fewestStreets_10 (lv_at hl 5 rfl) ?_
      refine y_icmp_gt (tgt := 49) C0 dX8_fewestStreets_12 (by decide) (fun c_18 => ?_) (fun c_18 => ?_)
      · -- 12
        refine y_c1 (n := (-1)) C0 (by decide) dX8_fewestStreets_49 (fun v_19 e_20 => ?_)
        rw [hQ]
        exact y_iret C0 h (Fr.tr (Fr.mono u_2 (by decide)) hF_11) ⟨(o18_77 e_20), (o18_253 e_20)⟩ dX8_fewestStreets_50
      · -- 12
        refine lv_aload_n C0.1 C0.2.1 dX8_fewestStreets_15 rfl (lv_at hl 1 rfl) ?_
        refine lv_iload_n C0.1 C0.2.1 dX8_fewestStreets_16 rfl (lv_at hl 3 rfl) ?_
        refine lv_iload_n C0.1 C0.2.1 dX8_fewestStreets_17 rfl (lv_at hl 4 rfl) ?_
        refine y_ci h (y_rV (As := [.int a2, .int a3]) (rest := []) C0 hZ h (c_X8_lowest l G Z ad _ h.2 a2 a3 (o18_96 l3 u3) (o18_97 l3 u3)) k_X8_lowest q_1084 q_32 q_1082 kSC_83 rfl rfl rfl hl.1 rfl rfl (Nat.le_of_ble_eq_true rfl) dX8_fewestStreets_18 ⟨Nat.le_of_ble_eq_true rfl, Nat.le_of_ble_eq_true rfl⟩ ⟨Nat.le_of_ble_eq_true rfl, Nat.le_of_ble_eq_true rfl⟩) (fun r_24 H locs ws_21 h u_22 p_23 => ?_)
        obtain ⟨e_25, e_26⟩ := p_23
        refine y_if_lt (tgt := 27) C0 dX8_fewestStreets_21 (by decide) (fun c_27 => ?_) (fun c_27 => ?_)
        · -- 21
          refine lv_iload C0.1 C0.2.1 dX8_fewestStreets_27 (lv_at hl 0 rfl) ?_
          refine lv_iload C0.1 C0.2.1 dX8_fewestStreets_29 (lv_at hl 5 rfl) ?_
          refine y_icmp_ge (tgt := 43) C0 dX8_fewestStreets_31 (by decide) (fun c_28 => ?_) (fun c_28 => ?_)
          · -- 31
            refine y_inc (kp := 0) (n := 1) (fun v_29 => [(6, .int v_29), (0, .ref (ad 83)), (1, .int a1), (2, .int a2), (3, .int a3), (4, .int a4), (5, .int a5)]) C0 hl rfl (by decide) (by decide) (fun _ => rfl) (o18_254 l4 u4 b_16 b_17 hn_15 c_18 c_28 (le_min x6_9) (le_max x6_9) (le_min a4) (le_max a4)) (o18_255 l4 u4 b_16 b_17 hn_15 c_18 c_28 (le_min x6_9) (le_max x6_9) (le_min a4) (le_max a4)) dX8_fewestStreets_43 (fun v_29 ls e_30 hl => ?_)
            refine lv_goto (tgt := 8) C0.1 C0.2.1 dX8_fewestStreets_46 (by decide) ?_
            exact ih_13 v_29 _ _ _ _ (o18_256 l4 u4 b_16 b_17 hn_15 c_18 c_28 e_30) (o18_257 l4 u4 b_16 b_17 hn_15 c_18 c_28 e_30) (o18_258 l4 u4 b_16 b_17 hn_15 c_18 c_28 e_30) h (Fr.tr hF_11 (Fr.mono u_22 (by decide))) (lv_sub hl [0, 1, 2, 3, 4, 5, 6] rfl)
          · -- 31
            refine lv_aload_n C0.1 C0.2.1 dX8_fewestStreets_34 rfl (lv_at hl 1 rfl) ?_
            refine lv_iload C0.1 C0.2.1 dX8_fewestStreets_35 (lv_at hl 0 rfl) ?_
            refine lv_iload C0.1 C0.2.1 dX8_fewestStreets_37 (lv_at hl 6 rfl) ?_
            refine lv_iload_n C0.1 C0.2.1 dX8_fewestStreets_39 rfl (lv_at hl 4 rfl) ?_
            refine y_cv h (y_rV (As := [.int x6_9, .int a5, .int a3]) (rest := []) C0 hZ h (c_X8_goOn l G Z ad _ h.2 x6_9 a5 a3 (o18_259 l4 u4 b_16 b_17 hn_15 c_18 c_28) (o18_260 l4 u4 b_16 b_17 hn_15 c_18 c_28) (o18_96 l3 u3) (o18_97 l3 u3)) k_X8_goOn q_1092 q_34 q_1090 kSC_83 rfl rfl rfl hl.1 rfl rfl (Nat.le_of_ble_eq_true rfl) dX8_fewestStreets_40 ⟨Nat.le_of_ble_eq_true rfl, Nat.le_of_ble_eq_true rfl⟩ ⟨Nat.le_of_ble_eq_true rfl, Nat.le_of_ble_eq_true rfl⟩) (fun H locs ws_31 h u_32 p_33 => ?_)
            refine y_inc (kp := 0) (n := 1) (fun v_34 => [(6, .int v_34), (0, .ref (ad 83)), (1, .int a1), (2, .int a2), (3, .int a3), (4, .int a4), (5, .int a5)]) C0 hl rfl (by decide) (by decide) (fun _ => rfl) (o18_261 l4 u4 b_16 b_17 hn_15 c_18 c_28 (le_min x6_9) (le_max x6_9) (le_min a4) (le_max a4)) (o18_262 l4 u4 b_16 b_17 hn_15 c_18 c_28 (le_min x6_9) (le_max x6_9) (le_min a4) (le_max a4)) dX8_fewestStreets_43 (fun v_34 ls e_35 hl => ?_)
            refine lv_goto (tgt := 8) C0.1 C0.2.1 dX8_fewestStreets_46 (by decide) ?_
            exact ih_13 v_34 _ _ _ _ (o18_263 l4 u4 b_16 b_17 hn_15 c_18 c_28 e_35) (o18_264 l4 u4 b_16 b_17 hn_15 c_18 c_28 e_35) (o18_265 l4 u4 b_16 b_17 hn_15 c_18 c_28 e_35) h (Fr.tr (Fr.tr hF_11 (Fr.mono u_22 (by decide))) u_32) (lv_sub hl [0, 1, 2, 3, 4, 5, 6] rfl)
        · -- 21
          refine lv_iload C0.1 C0.2.1 dX8_fewestStreets_24 (lv_at hl 0 rfl) ?_
          rw [hQ]
          exact y_iret C0 h (Fr.tr (Fr.tr (Fr.mono u_2 (by decide)) hF_11) (Fr.mono u_22 (by decide))) ⟨(o18_266 l4 u4 b_16 b_17 hn_15 c_18), (o18_267 l4 u4 b_16 b_17 hn_15 c_18)⟩ dX8_fewestStreets_26
  exact lp_12 ((61 - v_7.toInt + 1).toNat) v_7 _ _ _ _ (o18_268 e_8) (o18_1 e_8) (o18_269 e_8) h Fr.rf (lv_sub hl [0, 1, 2, 3, 4, 5, 6] rfl)
set_option maxHeartbeats 4000000 in
set_option maxRecDepth 100000 in
theorem c_X8_fewestLefts (l : Launch) (G : GG) (Z : RZ) (ad : Nat → Nat) (ws0 : va_W) (hT : Ty G (SC tt) ad ws0) (a1 : Int32) (a2 : Int32) (a3 : Int32) (a4 : Int32) (a5 : Int32) (l1 : 0 ≤ a1.toInt) (u1 : a1.toInt ≤ 99) (l2 : 0 ≤ a2.toInt) (u2 : a2.toInt ≤ 180) (l4 : 0 ≤ a4.toInt) (u4 : a4.toInt ≤ 60) : Mq l yX8_fewestLefts cX8_fewestLefts 10 (some .int) 6 G Z [.ref (ad 83), .int a1, .int a2, .int a3, .int a4, .int a5] ws0 (PI G (SC tt) ad [4, 5, 18, 19, 20, 21, 22, 23] ws0 (fun r u => ((-1) ≤ r.toInt) ∧ (r.toInt ≤ 120))) := by
  refine Mq.start (by decide) (Nat.le_of_ble_eq_true rfl) ?_
  intro p e s m below meth c A ls C0 hZ h hl
  have hl : lv_has ls 10 [(0, .ref (ad 83)), (1, .int a1), (2, .int a2), (3, .int a3), (4, .int a4), (5, .int a5)] := hl
  have h : Wt G (SC tt) ad A s s.heap [] ws0 := ⟨h, hT⟩
  obtain ⟨args, hargs⟩ : ∃ z, z = ([.ref (ad 83), .int a1, .int a2, .int a3, .int a4, .int a5] : List Value).toArray := ⟨_, rfl⟩
  rw [← hargs] at C0 ⊢
  have C0 : Cx p s m args meth c RX8 cX8_fewestLefts 10 (some .int) := C0
  obtain ⟨Q, hQ⟩ : ∃ z, z = MQ below ((PI G (SC tt) ad [4, 5, 18, 19, 20, 21, 22, 23] ws0 (fun r u => ((-1) ≤ r.toInt) ∧ (r.toInt ≤ 120))) A) args s 0 0 A := ⟨_, rfl⟩
  rw [← hQ]
  refine lv_aload_n C0.1 C0.2.1 dX8_fewestLefts_0 rfl (lv_at hl 0 rfl) ?_
  refine lv_iload_n C0.1 C0.2.1 dX8_fewestLefts_1 rfl (lv_at hl 1 rfl) ?_
  refine y_cv h (y_rV (As := [.int a1]) (rest := []) C0 hZ h (c_X8_begin l G Z ad _ h.2 a1 (o18_250 l1 u1) (o18_251 l1 u1)) k_X8_begin q_1080 q_31 q_1078 kSC_83 rfl rfl rfl hl.1 rfl rfl (Nat.le_of_ble_eq_true rfl) dX8_fewestLefts_2 ⟨Nat.le_of_ble_eq_true rfl, Nat.le_of_ble_eq_true rfl⟩ ⟨Nat.le_of_ble_eq_true rfl, Nat.le_of_ble_eq_true rfl⟩) (fun H locs ws_1 h u_2 p_3 => ?_)
  have e_4 := p_3
  obtain ⟨f_5, e_6⟩ : ∃ v, fI ws_1 83 4 = v := ⟨_, rfl⟩
  rw [e_6] at e_4
  refine y_c1 (n := (-1)) C0 (by decide) dX8_fewestLefts_5 (fun v_7 e_8 => ?_)
  refine lv_istore (lv' := [(6, .int v_7), (0, .ref (ad 83)), (1, .int a1), (2, .int a2), (3, .int a3), (4, .int a4), (5, .int a5)]) C0.1 C0.2.1 dX8_fewestLefts_6 hl (by decide) rfl (fun ls hl => ?_)
  refine y_c2 (n := 120) C0 (by decide) dX8_fewestLefts_8 (fun v_9 e_10 => ?_)
  refine lv_istore (lv' := [(7, .int v_9), (6, .int v_7), (0, .ref (ad 83)), (1, .int a1), (2, .int a2), (3, .int a3), (4, .int a4), (5, .int a5)]) C0.1 C0.2.1 dX8_fewestLefts_10 hl (by decide) rfl (fun ls hl => ?_)
  refine y_c1 (n := 0) C0 (by decide) dX8_fewestLefts_12 (fun v_11 e_12 => ?_)
  refine lv_istore (lv' := [(8, .int v_11), (7, .int v_9), (6, .int v_7), (0, .ref (ad 83)), (1, .int a1), (2, .int a2), (3, .int a3), (4, .int a4), (5, .int a5)]) C0.1 C0.2.1 dX8_fewestLefts_13 hl (by decide) rfl (fun ls hl => ?_)
  have lp_18 : ∀ (n_20 : Nat) (x8_13 : Int32) (x7_14 : Int32) (x6_15 : Int32) (H : Heap) (locs : List Loc) (ls : Array Slot) (ws_16 : va_W), 61 - x8_13.toInt < (n_20 : Int) → 0 ≤ x8_13.toInt → x8_13.toInt ≤ 61 → (-1) ≤ x7_14.toInt → x7_14.toInt ≤ 120 → (-1) ≤ x6_15.toInt → x6_15.toInt ≤ 120 → Wt G (SC tt) ad A s H locs ws_16 → Fr (SC tt) [4, 5, 18, 19, 20, 21, 22, 23] ws_1 ws_16 → lv_has ls 10 [(8, .int x8_13), (7, .int x7_14), (6, .int x6_15), (0, .ref (ad 83)), (1, .int a1), (2, .int a2), (3, .int a3), (4, .int a4), (5, .int a5)] → W p l e (rmd 6 0 0) s m args below meth c H locs 0 0 Q (F0 m 15 ls []) := by
    intro n_20
    induction n_20 with
    | zero => intro x8_13 x7_14 x6_15 H locs ls ws_16 hn_21 b_22 b_23 b_24 b_25 b_26 b_27 h hF_17 hl; exact ((o18_252 b_22 b_23 hn_21)).elim
    | succ n_20 ih_19 =>
      intro x8_13 x7_14 x6_15 H locs ls ws_16 hn_21 b_22 b_23 b_24 b_25 b_26 b_27 h hF_17 hl
      refine lv_iload C0.1 C0.2.1 dX8_fewestLefts_15 (lv_at hl 0 rfl) ?_
      refine lv_iload C0.1 C0.2.1 dX8_fewestLefts_17 (lv_at hl 7 rfl) ?_
      refine y_icmp_gt (tgt := 87) C0 dX8_fewestLefts_19 (by decide) (fun c_28 => ?_) (fun c_28 => ?_)
      · -- 19
        refine lv_iload C0.1 C0.2.1 dX8_fewestLefts_87 (lv_at hl 2 rfl) ?_
        rw [hQ]
        exact y_iret C0 h (Fr.tr (Fr.mono u_2 (by decide)) hF_17) ⟨(o18_270 b_26 b_27), (o18_271 b_26 b_27)⟩ dX8_fewestLefts_89
      · -- 19
        refine lv_iload C0.1 C0.2.1 dX8_fewestLefts_22 (lv_at hl 1 rfl) ?_
        refine y_if_lt (tgt := 87) C0 dX8_fewestLefts_24 (by decide) (fun c_29 => ?_) (fun c_29 => ?_)
        · -- 24
          refine lv_iload C0.1 C0.2.1 dX8_fewestLefts_87 (lv_at hl 2 rfl) ?_
          rw [hQ]
          exact y_iret C0 h (Fr.tr (Fr.mono u_2 (by decide)) hF_17) ⟨(o18_270 b_26 b_27), (o18_271 b_26 b_27)⟩ dX8_fewestLefts_89
        · -- 24
          refine lv_aload_n C0.1 C0.2.1 dX8_fewestLefts_27 rfl (lv_at hl 3 rfl) ?_
          refine lv_iload_n C0.1 C0.2.1 dX8_fewestLefts_28 rfl (lv_at hl 6 rfl) ?_
          refine lv_iload C0.1 C0.2.1 dX8_fewestLefts_29 (lv_at hl 1 rfl) ?_
          refine y_ci h (y_rV (As := [.int a3, .int x7_14]) (rest := []) C0 hZ h (c_X8_lowest l G Z ad _ h.2 a3 x7_14 (o18_272 b_24 b_25 c_29) (o18_273 b_24 b_25 c_29)) k_X8_lowest q_1084 q_32 q_1082 kSC_83 rfl rfl rfl hl.1 rfl rfl (Nat.le_of_ble_eq_true rfl) dX8_fewestLefts_31 ⟨Nat.le_of_ble_eq_true rfl, Nat.le_of_ble_eq_true rfl⟩ ⟨Nat.le_of_ble_eq_true rfl, Nat.le_of_ble_eq_true rfl⟩) (fun r_33 H locs ws_30 h u_31 p_32 => ?_)
          obtain ⟨e_34, e_35⟩ := p_32
          refine lv_istore (lv' := [(9, .int r_33), (8, .int x8_13), (7, .int x7_14), (6, .int x6_15), (0, .ref (ad 83)), (1, .int a1), (2, .int a2), (3, .int a3), (4, .int a4), (5, .int a5)]) C0.1 C0.2.1 dX8_fewestLefts_34 hl (by decide) rfl (fun ls hl => ?_)
          refine lv_iload C0.1 C0.2.1 dX8_fewestLefts_36 (lv_at hl 0 rfl) ?_
          refine y_if_lt (tgt := 57) C0 dX8_fewestLefts_38 (by decide) (fun c_36 => ?_) (fun c_36 => ?_)
          · -- 38
            refine lv_iload C0.1 C0.2.1 dX8_fewestLefts_57 (lv_at hl 1 rfl) ?_
            refine lv_iload C0.1 C0.2.1 dX8_fewestLefts_59 (lv_at hl 8 rfl) ?_
            refine y_icmp_ge (tgt := 81) C0 dX8_fewestLefts_61 (by decide) (fun c_37 => ?_) (fun c_37 => ?_)
            · -- 61
              refine y_inc (kp := 1) (n := 1) (fun v_38 => [(8, .int v_38), (9, .int r_33), (7, .int x7_14), (6, .int x6_15), (0, .ref (ad 83)), (1, .int a1), (2, .int a2), (3, .int a3), (4, .int a4), (5, .int a5)]) C0 hl rfl (by decide) (by decide) (fun _ => rfl) (o18_254 l4 u4 b_22 b_23 hn_21 c_28 c_37 (le_min x8_13) (le_max x8_13) (le_min a4) (le_max a4)) (o18_255 l4 u4 b_22 b_23 hn_21 c_28 c_37 (le_min x8_13) (le_max x8_13) (le_min a4) (le_max a4)) dX8_fewestLefts_81 (fun v_38 ls e_39 hl => ?_)
              refine lv_goto (tgt := 15) C0.1 C0.2.1 dX8_fewestLefts_84 (by decide) ?_
              exact ih_19 v_38 x7_14 x6_15 _ _ _ _ (o18_256 l4 u4 b_22 b_23 hn_21 c_28 c_37 e_39) (o18_257 l4 u4 b_22 b_23 hn_21 c_28 c_37 e_39) (o18_258 l4 u4 b_22 b_23 hn_21 c_28 c_37 e_39) (o18_274 b_24 b_25 c_29) (o18_273 b_24 b_25 c_29) (o18_270 b_26 b_27) (o18_271 b_26 b_27) h (Fr.tr hF_17 (Fr.mono u_31 (by decide))) (lv_sub hl [0, 2, 3, 4, 5, 6, 7, 8, 9] rfl)
            · -- 61
              refine lv_iload C0.1 C0.2.1 dX8_fewestLefts_64 (lv_at hl 2 rfl) ?_
              refine y_if_lt (tgt := 81) C0 dX8_fewestLefts_66 (by decide) (fun c_40 => ((o18_275 b_24 b_25 c_29 c_40)).elim) (fun c_40 => ?_)
              refine lv_aload_n C0.1 C0.2.1 dX8_fewestLefts_69 rfl (lv_at hl 4 rfl) ?_
              refine lv_iload_n C0.1 C0.2.1 dX8_fewestLefts_70 rfl (lv_at hl 6 rfl) ?_
              refine lv_iload C0.1 C0.2.1 dX8_fewestLefts_71 (lv_at hl 1 rfl) ?_
              refine y_add C0 (o18_276 l2 u2 l4 u4 b_22 b_23 hn_21 c_28 c_37 (le_min a2) (le_max a2) (le_min x8_13) (le_max x8_13) (le_min a4) (le_max a4)) (o18_277 l2 u2 l4 u4 b_22 b_23 hn_21 c_28 c_37 (le_min a2) (le_max a2) (le_min x8_13) (le_max x8_13) (le_min a4) (le_max a4)) dX8_fewestLefts_73 (fun v_41 e_42 => ?_)
              refine lv_iload C0.1 C0.2.1 dX8_fewestLefts_74 (lv_at hl 9 rfl) ?_
              refine lv_iload C0.1 C0.2.1 dX8_fewestLefts_76 (lv_at hl 2 rfl) ?_
              refine y_cv h (y_rV (As := [.int v_41, .int a5, .int x7_14]) (rest := []) C0 hZ h (c_X8_goOn l G Z ad _ h.2 v_41 a5 x7_14 (o18_278 l2 u2 l4 u4 b_22 b_23 hn_21 c_28 c_37 e_42) (o18_279 l2 u2 l4 u4 b_22 b_23 hn_21 c_28 c_37 e_42) (o18_272 b_24 b_25 c_29) (o18_273 b_24 b_25 c_29)) k_X8_goOn q_1092 q_34 q_1090 kSC_83 rfl rfl rfl hl.1 rfl rfl (Nat.le_of_ble_eq_true rfl) dX8_fewestLefts_78 ⟨Nat.le_of_ble_eq_true rfl, Nat.le_of_ble_eq_true rfl⟩ ⟨Nat.le_of_ble_eq_true rfl, Nat.le_of_ble_eq_true rfl⟩) (fun H locs ws_43 h u_44 p_45 => ?_)
              refine y_inc (kp := 1) (n := 1) (fun v_46 => [(8, .int v_46), (9, .int r_33), (7, .int x7_14), (6, .int x6_15), (0, .ref (ad 83)), (1, .int a1), (2, .int a2), (3, .int a3), (4, .int a4), (5, .int a5)]) C0 hl rfl (by decide) (by decide) (fun _ => rfl) (o18_280 l2 u2 l4 u4 b_22 b_23 hn_21 c_28 c_37 e_42 (le_min x8_13) (le_max x8_13) (le_min a2) (le_max a2) (le_min a4) (le_max a4) (le_min v_41) (le_max v_41)) (o18_281 l2 u2 l4 u4 b_22 b_23 hn_21 c_28 c_37 e_42 (le_min x8_13) (le_max x8_13) (le_min a2) (le_max a2) (le_min a4) (le_max a4) (le_min v_41) (le_max v_41)) dX8_fewestLefts_81 (fun v_46 ls e_47 hl => ?_)
              refine lv_goto (tgt := 15) C0.1 C0.2.1 dX8_fewestLefts_84 (by decide) ?_
              exact ih_19 v_46 x7_14 x6_15 _ _ _ _ (o18_282 l2 u2 l4 u4 b_22 b_23 hn_21 c_28 c_37 e_42 e_47) (o18_283 l2 u2 l4 u4 b_22 b_23 hn_21 c_28 c_37 e_42 e_47) (o18_284 l2 u2 l4 u4 b_22 b_23 hn_21 c_28 c_37 e_42 e_47) (o18_274 b_24 b_25 c_29) (o18_273 b_24 b_25 c_29) (o18_270 b_26 b_27) (o18_271 b_26 b_27) h (Fr.tr (Fr.tr hF_17 (Fr.mono u_31 (by decide))) u_44) (lv_sub hl [0, 2, 3, 4, 5, 6, 7, 8, 9] rfl)
          · -- 38
            refine lv_iload C0.1 C0.2.1 dX8_fewestLefts_41 (lv_at hl 0 rfl) ?_
            refine lv_istore (lv' := [(6, .int r_33), (9, .int r_33), (8, .int x8_13), (7, .int x7_14), (0, .ref (ad 83)), (1, .int a1), (2, .int a2), (3, .int a3), (4, .int a4), (5, .int a5)]) C0.1 C0.2.1 dX8_fewestLefts_43 hl (by decide) rfl (fun ls hl => ?_)
            refine lv_aload_n C0.1 C0.2.1 dX8_fewestLefts_45 rfl (lv_at hl 4 rfl) ?_
            refine lv_iload C0.1 C0.2.1 dX8_fewestLefts_46 (lv_at hl 2 rfl) ?_
            refine tp_X8_streets C0 h kSC_83 q_319 (o18_285 l4 u4 b_22 b_23 hn_21 c_28) (o18_267 l4 u4 b_22 b_23 hn_21 c_28) dX8_fewestLefts_48 (fun H locs ws_48 h u_49 => ?_)
            refine lv_iload C0.1 C0.2.1 dX8_fewestLefts_51 (lv_at hl 1 rfl) ?_
            refine y_c1 (n := 1) C0 (by decide) dX8_fewestLefts_53 (fun v_50 e_51 => ?_)
            refine y_sub C0 (o18_286 e_34 e_35 c_36 e_51 (le_min r_33) (le_max r_33) (le_min v_50) (le_max v_50)) (o18_287 e_34 e_35 c_36 e_51 (le_min r_33) (le_max r_33) (le_min v_50) (le_max v_50)) dX8_fewestLefts_54 (fun v_52 e_53 => ?_)
            refine lv_istore (lv' := [(7, .int v_52), (6, .int r_33), (9, .int r_33), (8, .int x8_13), (0, .ref (ad 83)), (1, .int a1), (2, .int a2), (3, .int a3), (4, .int a4), (5, .int a5)]) C0.1 C0.2.1 dX8_fewestLefts_55 hl (by decide) rfl (fun ls hl => ?_)
            refine lv_iload C0.1 C0.2.1 dX8_fewestLefts_57 (lv_at hl 3 rfl) ?_
            refine lv_iload C0.1 C0.2.1 dX8_fewestLefts_59 (lv_at hl 8 rfl) ?_
            refine y_icmp_ge (tgt := 81) C0 dX8_fewestLefts_61 (by decide) (fun c_54 => ?_) (fun c_54 => ?_)
            · -- 61
              refine y_inc (kp := 3) (n := 1) (fun v_55 => [(8, .int v_55), (7, .int v_52), (6, .int r_33), (9, .int r_33), (0, .ref (ad 83)), (1, .int a1), (2, .int a2), (3, .int a3), (4, .int a4), (5, .int a5)]) C0 hl rfl (by decide) (by decide) (fun _ => rfl) (o18_254 l4 u4 b_22 b_23 hn_21 c_28 c_54 (le_min x8_13) (le_max x8_13) (le_min a4) (le_max a4)) (o18_255 l4 u4 b_22 b_23 hn_21 c_28 c_54 (le_min x8_13) (le_max x8_13) (le_min a4) (le_max a4)) dX8_fewestLefts_81 (fun v_55 ls e_56 hl => ?_)
              refine lv_goto (tgt := 15) C0.1 C0.2.1 dX8_fewestLefts_84 (by decide) ?_
              exact ih_19 v_55 v_52 r_33 _ _ _ _ (o18_256 l4 u4 b_22 b_23 hn_21 c_28 c_54 e_56) (o18_257 l4 u4 b_22 b_23 hn_21 c_28 c_54 e_56) (o18_258 l4 u4 b_22 b_23 hn_21 c_28 c_54 e_56) (o18_288 e_34 e_35 c_36 e_51 e_53) (o18_289 e_34 e_35 c_36 e_51 e_53) (o18_290 e_34 e_35 c_36 e_51 e_53) (o18_291 e_34 e_35 c_36 e_51 e_53) h (Fr.tr (Fr.tr hF_17 (Fr.mono u_31 (by decide))) (Fr.up u_49.1 kSC_83 (by decide))) (lv_sub hl [0, 1, 2, 4, 5, 6, 7, 8, 9] rfl)
            · -- 61
              refine lv_iload C0.1 C0.2.1 dX8_fewestLefts_64 (lv_at hl 0 rfl) ?_
              refine y_if_lt (tgt := 81) C0 dX8_fewestLefts_66 (by decide) (fun c_57 => ?_) (fun c_57 => ?_)
              · -- 66
                refine y_inc (kp := 3) (n := 1) (fun v_58 => [(8, .int v_58), (7, .int v_52), (6, .int r_33), (9, .int r_33), (0, .ref (ad 83)), (1, .int a1), (2, .int a2), (3, .int a3), (4, .int a4), (5, .int a5)]) C0 hl rfl (by decide) (by decide) (fun _ => rfl) (o18_261 l4 u4 b_22 b_23 hn_21 c_28 c_54 (le_min x8_13) (le_max x8_13) (le_min a4) (le_max a4)) (o18_262 l4 u4 b_22 b_23 hn_21 c_28 c_54 (le_min x8_13) (le_max x8_13) (le_min a4) (le_max a4)) dX8_fewestLefts_81 (fun v_58 ls e_59 hl => ?_)
                refine lv_goto (tgt := 15) C0.1 C0.2.1 dX8_fewestLefts_84 (by decide) ?_
                exact ih_19 v_58 v_52 r_33 _ _ _ _ (o18_263 l4 u4 b_22 b_23 hn_21 c_28 c_54 e_59) (o18_264 l4 u4 b_22 b_23 hn_21 c_28 c_54 e_59) (o18_265 l4 u4 b_22 b_23 hn_21 c_28 c_54 e_59) (o18_292 e_34 e_35 c_36 e_51 e_53 c_57) (o18_293 e_34 e_35 c_36 e_51 e_53 c_57) (o18_294 e_34 e_35 c_36 e_51 e_53 c_57) (o18_295 e_34 e_35 c_36 e_51 e_53 c_57) h (Fr.tr (Fr.tr hF_17 (Fr.mono u_31 (by decide))) (Fr.up u_49.1 kSC_83 (by decide))) (lv_sub hl [0, 1, 2, 4, 5, 6, 7, 8, 9] rfl)
              · -- 66
                refine lv_aload_n C0.1 C0.2.1 dX8_fewestLefts_69 rfl (lv_at hl 4 rfl) ?_
                refine lv_iload_n C0.1 C0.2.1 dX8_fewestLefts_70 rfl (lv_at hl 6 rfl) ?_
                refine lv_iload C0.1 C0.2.1 dX8_fewestLefts_71 (lv_at hl 3 rfl) ?_
                refine y_add C0 (o18_276 l2 u2 l4 u4 b_22 b_23 hn_21 c_28 c_54 (le_min a2) (le_max a2) (le_min x8_13) (le_max x8_13) (le_min a4) (le_max a4)) (o18_277 l2 u2 l4 u4 b_22 b_23 hn_21 c_28 c_54 (le_min a2) (le_max a2) (le_min x8_13) (le_max x8_13) (le_min a4) (le_max a4)) dX8_fewestLefts_73 (fun v_60 e_61 => ?_)
                refine lv_iload C0.1 C0.2.1 dX8_fewestLefts_74 (lv_at hl 9 rfl) ?_
                refine lv_iload C0.1 C0.2.1 dX8_fewestLefts_76 (lv_at hl 0 rfl) ?_
                refine y_cv h (y_rV (As := [.int v_60, .int a5, .int v_52]) (rest := []) C0 hZ h (c_X8_goOn l G Z ad _ h.2 v_60 a5 v_52 (o18_278 l2 u2 l4 u4 b_22 b_23 hn_21 c_28 c_54 e_61) (o18_279 l2 u2 l4 u4 b_22 b_23 hn_21 c_28 c_54 e_61) (o18_296 e_34 e_35 c_36 e_51 e_53 c_57) (o18_297 e_34 e_35 c_36 e_51 e_53 c_57)) k_X8_goOn q_1092 q_34 q_1090 kSC_83 rfl rfl rfl hl.1 rfl rfl (Nat.le_of_ble_eq_true rfl) dX8_fewestLefts_78 ⟨Nat.le_of_ble_eq_true rfl, Nat.le_of_ble_eq_true rfl⟩ ⟨Nat.le_of_ble_eq_true rfl, Nat.le_of_ble_eq_true rfl⟩) (fun H locs ws_62 h u_63 p_64 => ?_)
                refine y_inc (kp := 3) (n := 1) (fun v_65 => [(8, .int v_65), (7, .int v_52), (6, .int r_33), (9, .int r_33), (0, .ref (ad 83)), (1, .int a1), (2, .int a2), (3, .int a3), (4, .int a4), (5, .int a5)]) C0 hl rfl (by decide) (by decide) (fun _ => rfl) (o18_280 l2 u2 l4 u4 b_22 b_23 hn_21 c_28 c_54 e_61 (le_min x8_13) (le_max x8_13) (le_min a2) (le_max a2) (le_min a4) (le_max a4) (le_min v_60) (le_max v_60)) (o18_281 l2 u2 l4 u4 b_22 b_23 hn_21 c_28 c_54 e_61 (le_min x8_13) (le_max x8_13) (le_min a2) (le_max a2) (le_min a4) (le_max a4) (le_min v_60) (le_max v_60)) dX8_fewestLefts_81 (fun v_65 ls e_66 hl => ?_)
                refine lv_goto (tgt := 15) C0.1 C0.2.1 dX8_fewestLefts_84 (by decide) ?_
                exact ih_19 v_65 v_52 r_33 _ _ _ _ (o18_282 l2 u2 l4 u4 b_22 b_23 hn_21 c_28 c_54 e_61 e_66) (o18_283 l2 u2 l4 u4 b_22 b_23 hn_21 c_28 c_54 e_61 e_66) (o18_284 l2 u2 l4 u4 b_22 b_23 hn_21 c_28 c_54 e_61 e_66) (o18_298 e_34 e_35 c_36 e_51 e_53 c_57) (o18_297 e_34 e_35 c_36 e_51 e_53 c_57) (o18_299 e_34 e_35 c_36 e_51 e_53 c_57) (o18_300 e_34 e_35 c_36 e_51 e_53 c_57) h (Fr.tr (Fr.tr (Fr.tr hF_17 (Fr.mono u_31 (by decide))) (Fr.up u_49.1 kSC_83 (by decide))) u_63) (lv_sub hl [0, 1, 2, 4, 5, 6, 7, 8, 9] rfl)
  exact lp_18 ((61 - v_11.toInt + 1).toNat) v_11 v_9 v_7 _ _ _ _ (o18_268 e_12) (o18_1 e_12) (o18_269 e_12) (o18_301 e_10) (o18_302 e_10) (o18_77 e_8) (o18_241 e_8) h Fr.rf (lv_sub hl [0, 1, 2, 3, 4, 5, 6, 7, 8] rfl)
set_option maxHeartbeats 4000000 in
set_option maxRecDepth 100000 in
theorem c_X8_streets (l : Launch) (G : GG) (Z : RZ) (ad : Nat → Nat) (ws0 : va_W) (hT : Ty G (SC tt) ad ws0) : Mq l yX8_streets cX8_streets 1 (some .int) 1 G Z [.ref (ad 83)] ws0 (PI G (SC tt) ad [] ws0 (fun r u => (0 ≤ r.toInt) ∧ (r.toInt ≤ 60))) := by
  refine Mq.start (by decide) (Nat.le_of_ble_eq_true rfl) ?_
  intro p e s m below meth c A ls C0 hZ h hl
  have hl : lv_has ls 1 [(0, .ref (ad 83))] := hl
  have h : Wt G (SC tt) ad A s s.heap [] ws0 := ⟨h, hT⟩
  obtain ⟨args, hargs⟩ : ∃ z, z = ([.ref (ad 83)] : List Value).toArray := ⟨_, rfl⟩
  rw [← hargs] at C0 ⊢
  have C0 : Cx p s m args meth c RX8 cX8_streets 1 (some .int) := C0
  obtain ⟨Q, hQ⟩ : ∃ z, z = MQ below ((PI G (SC tt) ad [] ws0 (fun r u => (0 ≤ r.toInt) ∧ (r.toInt ≤ 60))) A) args s 0 0 A := ⟨_, rfl⟩
  rw [← hQ]
  refine lv_aload_n C0.1 C0.2.1 dX8_streets_0 rfl (lv_at hl 0 rfl) ?_
  refine tg_X8_streets C0 h kSC_83 q_319 dX8_streets_1 (fun v_1 e_2 e_3 e_4 => ?_)
  rw [hQ]
  exact y_iret C0 h Fr.rf ⟨(o18_303 e_3 e_4), (o18_304 e_3 e_4)⟩ dX8_streets_4
set_option maxHeartbeats 4000000 in
set_option maxRecDepth 100000 in
theorem c_X8_survey (l : Launch) (G : GG) (Z : RZ) (ad : Nat → Nat) (ws0 : va_W) (hT : Ty G (SC tt) ad ws0) (a1 : Int32) (a2 : Int32) (l1 : 0 ≤ a1.toInt) (u1 : a1.toInt ≤ 99) (l2 : 0 ≤ a2.toInt) (u2 : a2.toInt ≤ 120) : Mq l yX8_survey cX8_survey 5 none 6 G Z [.ref (ad 83), .int a1, .int a2] ws0 (PV G (SC tt) ad [4, 5, 18, 19, 20, 21, 22, 23, 24] ws0 (fun u => True)) := by
  refine Mq.start (by decide) (Nat.le_of_ble_eq_true rfl) ?_
  intro p e s m below meth c A ls C0 hZ h hl
  have hl : lv_has ls 5 [(0, .ref (ad 83)), (1, .int a1), (2, .int a2)] := hl
  have h : Wt G (SC tt) ad A s s.heap [] ws0 := ⟨h, hT⟩
  obtain ⟨args, hargs⟩ : ∃ z, z = ([.ref (ad 83), .int a1, .int a2] : List Value).toArray := ⟨_, rfl⟩
  rw [← hargs] at C0 ⊢
  have C0 : Cx p s m args meth c RX8 cX8_survey 5 none := C0
  obtain ⟨Q, hQ⟩ : ∃ z, z = MQ below ((PV G (SC tt) ad [4, 5, 18, 19, 20, 21, 22, 23, 24] ws0 (fun u => True)) A) args s 0 0 A := ⟨_, rfl⟩
  rw [← hQ]
  refine lv_aload_n C0.1 C0.2.1 dX8_survey_0 rfl (lv_at hl 0 rfl) ?_
  refine tg_X8_reached C0 h kSC_83 q_320 dX8_survey_1 ?_
  refine y_c1 (n := 0) C0 (by decide) dX8_survey_4 (fun v_1 e_2 => ?_)
  refine y_cv h (y_rS (As := [.ref (ad 86), .int v_1]) (rest := []) C0 hZ h (c_J7_fill_53178_24 l G Z ad _ h.2 86 kSC_86 v_1) k_J7_fill_53178 q_611 q_1256 hl.1 rfl rfl (Nat.le_of_ble_eq_true rfl) dX8_survey_5 ⟨Nat.le_of_ble_eq_true rfl, Nat.le_of_ble_eq_true rfl⟩ ⟨Nat.le_of_ble_eq_true rfl, Nat.le_of_ble_eq_true rfl⟩) (fun H locs ws_3 h u_4 p_5 => ?_)
  refine lv_aload_n C0.1 C0.2.1 dX8_survey_8 rfl (lv_at hl 0 rfl) ?_
  refine lv_iload_n C0.1 C0.2.1 dX8_survey_9 rfl (lv_at hl 1 rfl) ?_
  refine y_cv h (y_rV (As := [.int a1]) (rest := []) C0 hZ h (c_X8_begin l G Z ad _ h.2 a1 (o18_250 l1 u1) (o18_251 l1 u1)) k_X8_begin q_1080 q_31 q_1078 kSC_83 rfl rfl rfl hl.1 rfl rfl (Nat.le_of_ble_eq_true rfl) dX8_survey_10 ⟨Nat.le_of_ble_eq_true rfl, Nat.le_of_ble_eq_true rfl⟩ ⟨Nat.le_of_ble_eq_true rfl, Nat.le_of_ble_eq_true rfl⟩) (fun H locs ws_6 h u_7 p_8 => ?_)
  have e_9 := p_8
  obtain ⟨f_10, e_11⟩ : ∃ v, fI ws_6 83 4 = v := ⟨_, rfl⟩
  rw [e_11] at e_9
  refine y_c1 (n := 0) C0 (by decide) dX8_survey_13 (fun v_12 e_13 => ?_)
  refine lv_istore_n (lv' := [(3, .int v_12), (0, .ref (ad 83)), (1, .int a1), (2, .int a2)]) C0.1 C0.2.1 dX8_survey_14 rfl hl (by decide) rfl (fun ls hl => ?_)
  have lp_17 : ∀ (n_19 : Nat) (x3_14 : Int32) (H : Heap) (locs : List Loc) (ls : Array Slot) (ws_15 : va_W), 61 - x3_14.toInt < (n_19 : Int) → 0 ≤ x3_14.toInt → x3_14.toInt ≤ 61 → Wt G (SC tt) ad A s H locs ws_15 → Fr (SC tt) [4, 5, 18, 19, 20, 21, 22, 23, 24] ws_6 ws_15 → lv_has ls 5 [(3, .int x3_14), (0, .ref (ad 83)), (1, .int a1), (2, .int a2)] → W p l e (rmd 6 0 0) s m args below meth c H locs 0 0 Q (F0 m 15 ls []) := by
    intro n_19
    induction n_19 with
    | zero => intro x3_14 H locs ls ws_15 hn_20 b_21 b_22 h hF_16 hl; exact ((o18_252 b_21 b_22 hn_20)).elim
    | succ n_19 ih_18 =>
      intro x3_14 H locs ls ws_15 hn_20 b_21 b_22 h hF_16 hl
      refine lv_iload_n C0.1 C0.2.1 dX8_survey_15 rfl (lv_at hl 0 rfl) ?_
      refine y_c2 (n := 60) C0 (by decide) dX8_survey_16 (fun v_23 e_24 => ?_)
      refine y_icmp_gt (tgt := 74) C0 dX8_survey_18 (by decide) (fun c_25 => ?_) (fun c_25 => ?_)
      · -- 18
        rw [hQ]
        exact y_vret C0 h (Fr.tr (Fr.tr (Fr.mono u_4 (by decide)) (Fr.mono u_7 (by decide))) hF_16) trivial dX8_survey_74
      · -- 18
        refine y_c1 (n := 0) C0 (by decide) dX8_survey_21 (fun v_26 e_27 => ?_)
        refine lv_istore (lv' := [(4, .int v_26), (3, .int x3_14), (0, .ref (ad 83)), (1, .int a1), (2, .int a2)]) C0.1 C0.2.1 dX8_survey_22 hl (by decide) rfl (fun ls hl => ?_)
        have lp_31 : ∀ (n_33 : Nat) (x4_28 : Int32) (H : Heap) (locs : List Loc) (ls : Array Slot) (ws_29 : va_W), 121 - x4_28.toInt < (n_33 : Int) → 0 ≤ x4_28.toInt → x4_28.toInt ≤ 121 → Wt G (SC tt) ad A s H locs ws_29 → Fr (SC tt) [24] ws_15 ws_29 → lv_has ls 5 [(4, .int x4_28), (3, .int x3_14), (0, .ref (ad 83)), (1, .int a1), (2, .int a2)] → W p l e (rmd 6 0 0) s m args below meth c H locs 0 0 Q (F0 m 24 ls []) := by
          intro n_33
          induction n_33 with
          | zero => intro x4_28 H locs ls ws_29 hn_34 b_35 b_36 h hF_30 hl; exact ((o18_98 b_35 b_36 hn_34)).elim
          | succ n_33 ih_32 =>
            intro x4_28 H locs ls ws_29 hn_34 b_35 b_36 h hF_30 hl
            refine lv_iload C0.1 C0.2.1 dX8_survey_24 (lv_at hl 0 rfl) ?_
            refine lv_aload_n C0.1 C0.2.1 dX8_survey_26 rfl (lv_at hl 2 rfl) ?_
            refine tg_X8_top C0 h kSC_83 q_318 dX8_survey_27 (fun v_37 e_38 e_39 e_40 => ?_)
            refine y_icmp_gt (tgt := 55) C0 dX8_survey_30 (by decide) (fun c_41 => ?_) (fun c_41 => ?_)
            · -- 30
              refine lv_iload_n C0.1 C0.2.1 dX8_survey_55 rfl (lv_at hl 1 rfl) ?_
              refine y_c2 (n := 60) C0 (by decide) dX8_survey_56 (fun v_42 e_43 => ?_)
              refine y_icmp_ge (tgt := 68) C0 dX8_survey_58 (by decide) (fun c_44 => ?_) (fun c_44 => ?_)
              · -- 58
                refine y_inc (kp := 1) (n := 1) (fun v_45 => [(3, .int v_45), (4, .int x4_28), (0, .ref (ad 83)), (1, .int a1), (2, .int a2)]) C0 hl rfl (by decide) (by decide) (fun _ => rfl) (o18_305 b_21 b_22 hn_20 e_24 c_25 e_43 c_44 (le_min x3_14) (le_max x3_14) (le_min v_23) (le_max v_23) (le_min v_42) (le_max v_42)) (o18_306 b_21 b_22 hn_20 e_24 c_25 e_43 c_44 (le_min x3_14) (le_max x3_14) (le_min v_23) (le_max v_23) (le_min v_42) (le_max v_42)) dX8_survey_68 (fun v_45 ls e_46 hl => ?_)
                refine lv_goto (tgt := 15) C0.1 C0.2.1 dX8_survey_71 (by decide) ?_
                exact ih_18 v_45 _ _ _ _ (o18_307 b_21 b_22 hn_20 e_24 c_25 e_43 c_44 e_46) (o18_308 b_21 b_22 hn_20 e_24 c_25 e_43 c_44 e_46) (o18_309 b_21 b_22 hn_20 e_24 c_25 e_43 c_44 e_46) h (Fr.tr hF_16 (Fr.mono hF_30 (by decide))) (lv_sub hl [0, 2, 3, 4] rfl)
              · -- 58
                refine lv_aload_n C0.1 C0.2.1 dX8_survey_61 rfl (lv_at hl 2 rfl) ?_
                refine lv_iload_n C0.1 C0.2.1 dX8_survey_62 rfl (lv_at hl 1 rfl) ?_
                refine y_c1 (n := 0) C0 (by decide) dX8_survey_63 (fun v_47 e_48 => ?_)
                refine lv_iload_n C0.1 C0.2.1 dX8_survey_64 rfl (lv_at hl 4 rfl) ?_
                refine y_cv h (y_rV (As := [.int x3_14, .int v_47, .int a2]) (rest := []) C0 hZ h (c_X8_goOn l G Z ad _ h.2 x3_14 v_47 a2 (o18_310 b_21 b_22 hn_20 e_24 c_25 e_43 c_44) (o18_311 b_21 b_22 hn_20 e_24 c_25 e_43 c_44) (o18_96 l2 u2) (o18_97 l2 u2)) k_X8_goOn q_1092 q_34 q_1090 kSC_83 rfl rfl rfl hl.1 rfl rfl (Nat.le_of_ble_eq_true rfl) dX8_survey_65 ⟨Nat.le_of_ble_eq_true rfl, Nat.le_of_ble_eq_true rfl⟩ ⟨Nat.le_of_ble_eq_true rfl, Nat.le_of_ble_eq_true rfl⟩) (fun H locs ws_49 h u_50 p_51 => ?_)
                refine y_inc (kp := 1) (n := 1) (fun v_52 => [(3, .int v_52), (4, .int x4_28), (0, .ref (ad 83)), (1, .int a1), (2, .int a2)]) C0 hl rfl (by decide) (by decide) (fun _ => rfl) (o18_312 b_21 b_22 hn_20 e_24 c_25 e_43 c_44 (le_min x3_14) (le_max x3_14) (le_min v_23) (le_max v_23) (le_min v_42) (le_max v_42)) (o18_313 b_21 b_22 hn_20 e_24 c_25 e_43 c_44 (le_min x3_14) (le_max x3_14) (le_min v_23) (le_max v_23) (le_min v_42) (le_max v_42)) dX8_survey_68 (fun v_52 ls e_53 hl => ?_)
                refine lv_goto (tgt := 15) C0.1 C0.2.1 dX8_survey_71 (by decide) ?_
                exact ih_18 v_52 _ _ _ _ (o18_314 b_21 b_22 hn_20 e_24 c_25 e_43 c_44 e_53) (o18_315 b_21 b_22 hn_20 e_24 c_25 e_43 c_44 e_53) (o18_316 b_21 b_22 hn_20 e_24 c_25 e_43 c_44 e_53) h (Fr.tr (Fr.tr hF_16 (Fr.mono hF_30 (by decide))) (Fr.mono u_50 (by decide))) (lv_sub hl [0, 2, 3, 4] rfl)
            · -- 30
              refine lv_aload_n C0.1 C0.2.1 dX8_survey_33 rfl (lv_at hl 2 rfl) ?_
              refine tg_X8_reached C0 h kSC_83 q_320 dX8_survey_34 ?_
              refine lv_iload C0.1 C0.2.1 dX8_survey_37 (lv_at hl 0 rfl) ?_
              refine lv_dup2_11 C0.1 C0.2.1 dX8_survey_39 rfl rfl ?_
              refine y_iald C0 h kSC_86 rfl (by decide) (o18_317 b_35 b_36 hn_34 e_39 e_40 c_41) (o18_318 b_35 b_36 hn_34 e_39 e_40 c_41) dX8_survey_40 (fun v_54 e_55 e_56 e_57 => ?_)
              refine lv_aload_n C0.1 C0.2.1 dX8_survey_41 rfl (lv_at hl 2 rfl) ?_
              refine lv_iload C0.1 C0.2.1 dX8_survey_42 (lv_at hl 0 rfl) ?_
              refine y_ci h (y_rV (As := [.int x4_28]) (rest := [.int v_54, .int x4_28, .ref (ad 86)]) C0 hZ h (c_X8_anyHeading l G Z ad _ h.2 x4_28 (o18_317 b_35 b_36 hn_34 e_39 e_40 c_41) (o18_319 b_35 b_36 hn_34 e_39 e_40 c_41)) k_X8_anyHeading q_1088 q_33 q_1086 kSC_83 rfl rfl rfl hl.1 rfl rfl (Nat.le_of_ble_eq_true rfl) dX8_survey_44 ⟨Nat.le_of_ble_eq_true rfl, Nat.le_of_ble_eq_true rfl⟩ ⟨Nat.le_of_ble_eq_true rfl, Nat.le_of_ble_eq_true rfl⟩) (fun r_61 H locs ws_58 h u_59 p_60 => ?_)
              refine y_iorU C0 dX8_survey_47 (fun v_62 => ?_)
              refine y_iast C0 h kSC_86 rfl (by decide) (o18_317 b_35 b_36 hn_34 e_39 e_40 c_41) (o18_318 b_35 b_36 hn_34 e_39 e_40 c_41) (le_min v_62) (le_max v_62) dX8_survey_48 (fun H locs ws_63 h u_64 => ?_)
              refine y_inc (kp := 0) (n := 1) (fun v_65 => [(4, .int v_65), (3, .int x3_14), (0, .ref (ad 83)), (1, .int a1), (2, .int a2)]) C0 hl rfl (by decide) (by decide) (fun _ => rfl) (o18_320 b_35 b_36 hn_34 e_39 e_40 c_41 (le_min x4_28) (le_max x4_28) (le_min v_37) (le_max v_37)) (o18_321 b_35 b_36 hn_34 e_39 e_40 c_41 (le_min x4_28) (le_max x4_28) (le_min v_37) (le_max v_37)) dX8_survey_49 (fun v_65 ls e_66 hl => ?_)
              refine lv_goto (tgt := 24) C0.1 C0.2.1 dX8_survey_52 (by decide) ?_
              exact ih_32 v_65 _ _ _ _ (o18_322 b_35 b_36 hn_34 e_39 e_40 c_41 e_66) (o18_323 b_35 b_36 hn_34 e_39 e_40 c_41 e_66) (o18_324 b_35 b_36 hn_34 e_39 e_40 c_41 e_66) h (Fr.tr (Fr.tr hF_30 (Fr.mono u_59 (by decide))) (Fr.up u_64.1 kSC_86 (by decide))) (lv_sub hl [0, 1, 2, 3, 4] rfl)
        exact lp_31 ((121 - v_26.toInt + 1).toNat) v_26 _ _ _ _ (o18_128 e_27) (o18_1 e_27) (o18_129 e_27) h Fr.rf (lv_sub hl [0, 1, 2, 3, 4] rfl)
  exact lp_17 ((61 - v_12.toInt + 1).toNat) v_12 _ _ _ _ (o18_268 e_13) (o18_1 e_13) (o18_269 e_13) h Fr.rf (lv_sub hl [0, 1, 2, 3] rfl)
set_option maxHeartbeats 4000000 in
set_option maxRecDepth 100000 in
theorem c_X8_reachable (l : Launch) (G : GG) (Z : RZ) (ad : Nat → Nat) (ws0 : va_W) (hT : Ty G (SC tt) ad ws0) (a1 : Int32) (a2 : Int32) (l1 : 0 ≤ a1.toInt) (u1 : a1.toInt ≤ 99) (l2 : 0 ≤ a2.toInt) (u2 : a2.toInt ≤ 120) : Mq l yX8_reachable cX8_reachable 5 (some .int) 7 G Z [.ref (ad 83), .int a1, .int a2] ws0 (PI G (SC tt) ad [4, 5, 18, 19, 20, 21, 22, 23, 24] ws0 (fun r u => True)) := by
  refine Mq.start (by decide) (Nat.le_of_ble_eq_true rfl) ?_
  intro p e s m below meth c A ls C0 hZ h hl
  have hl : lv_has ls 5 [(0, .ref (ad 83)), (1, .int a1), (2, .int a2)] := hl
  have h : Wt G (SC tt) ad A s s.heap [] ws0 := ⟨h, hT⟩
  obtain ⟨args, hargs⟩ : ∃ z, z = ([.ref (ad 83), .int a1, .int a2] : List Value).toArray := ⟨_, rfl⟩
  rw [← hargs] at C0 ⊢
  have C0 : Cx p s m args meth c RX8 cX8_reachable 5 (some .int) := C0
  obtain ⟨Q, hQ⟩ : ∃ z, z = MQ below ((PI G (SC tt) ad [4, 5, 18, 19, 20, 21, 22, 23, 24] ws0 (fun r u => True)) A) args s 0 0 A := ⟨_, rfl⟩
  rw [← hQ]
  refine lv_aload_n C0.1 C0.2.1 dX8_reachable_0 rfl (lv_at hl 0 rfl) ?_
  refine lv_iload_n C0.1 C0.2.1 dX8_reachable_1 rfl (lv_at hl 1 rfl) ?_
  refine lv_iload_n C0.1 C0.2.1 dX8_reachable_2 rfl (lv_at hl 2 rfl) ?_
  refine y_cv h (y_rV (As := [.int a1, .int a2]) (rest := []) C0 hZ h (c_X8_survey l G Z ad _ h.2 a1 a2 (o18_250 l1 u1) (o18_251 l1 u1) (o18_96 l2 u2) (o18_97 l2 u2)) k_X8_survey q_1254 q_49 q_1252 kSC_83 rfl rfl rfl hl.1 rfl rfl (Nat.le_of_ble_eq_true rfl) dX8_reachable_3 ⟨Nat.le_of_ble_eq_true rfl, Nat.le_of_ble_eq_true rfl⟩ ⟨Nat.le_of_ble_eq_true rfl, Nat.le_of_ble_eq_true rfl⟩) (fun H locs ws_1 h u_2 p_3 => ?_)
  refine y_c1 (n := 0) C0 (by decide) dX8_reachable_6 (fun v_4 e_5 => ?_)
  refine lv_istore_n (lv' := [(3, .int v_4), (0, .ref (ad 83)), (1, .int a1), (2, .int a2)]) C0.1 C0.2.1 dX8_reachable_7 rfl hl (by decide) rfl (fun ls hl => ?_)
  refine y_c1 (n := 0) C0 (by decide) dX8_reachable_8 (fun v_6 e_7 => ?_)
  refine lv_istore (lv' := [(4, .int v_6), (3, .int v_4), (0, .ref (ad 83)), (1, .int a1), (2, .int a2)]) C0.1 C0.2.1 dX8_reachable_9 hl (by decide) rfl (fun ls hl => ?_)
  have lp_12 : ∀ (n_14 : Nat) (x4_8 : Int32) (x3_9 : Int32) (H : Heap) (locs : List Loc) (ls : Array Slot) (ws_10 : va_W), 121 - x4_8.toInt < (n_14 : Int) → 0 ≤ x4_8.toInt → x4_8.toInt ≤ 121 → Wt G (SC tt) ad A s H locs ws_10 → Fr (SC tt) [] ws_1 ws_10 → lv_has ls 5 [(4, .int x4_8), (3, .int x3_9), (0, .ref (ad 83)), (1, .int a1), (2, .int a2)] → W p l e (rmd 7 0 0) s m args below meth c H locs 0 0 Q (F0 m 11 ls []) := by
    intro n_14
    induction n_14 with
    | zero => intro x4_8 x3_9 H locs ls ws_10 hn_15 b_16 b_17 h hF_11 hl; exact ((o18_98 b_16 b_17 hn_15)).elim
    | succ n_14 ih_13 =>
      intro x4_8 x3_9 H locs ls ws_10 hn_15 b_16 b_17 h hF_11 hl
      refine lv_iload C0.1 C0.2.1 dX8_reachable_11 (lv_at hl 0 rfl) ?_
      refine lv_iload_n C0.1 C0.2.1 dX8_reachable_13 rfl (lv_at hl 4 rfl) ?_
      refine y_icmp_gt (tgt := 33) C0 dX8_reachable_14 (by decide) (fun c_18 => ?_) (fun c_18 => ?_)
      · -- 14
        refine lv_iload_n C0.1 C0.2.1 dX8_reachable_33 rfl (lv_at hl 1 rfl) ?_
        rw [hQ]
        exact y_iret C0 h (Fr.tr u_2 (Fr.mono hF_11 (by decide))) trivial dX8_reachable_34
      · -- 14
        refine lv_iload_n C0.1 C0.2.1 dX8_reachable_17 rfl (lv_at hl 1 rfl) ?_
        refine lv_aload_n C0.1 C0.2.1 dX8_reachable_18 rfl (lv_at hl 2 rfl) ?_
        refine tg_X8_reached C0 h kSC_83 q_320 dX8_reachable_19 ?_
        refine lv_iload C0.1 C0.2.1 dX8_reachable_22 (lv_at hl 0 rfl) ?_
        refine y_iald C0 h kSC_86 rfl (by decide) (o18_325 l2 u2 b_16 b_17 hn_15 c_18) (o18_326 l2 u2 b_16 b_17 hn_15 c_18) dX8_reachable_24 (fun v_19 e_20 e_21 e_22 => ?_)
        refine y_iorU C0 dX8_reachable_25 (fun v_23 => ?_)
        refine lv_istore_n (lv' := [(3, .int v_23), (4, .int x4_8), (0, .ref (ad 83)), (1, .int a1), (2, .int a2)]) C0.1 C0.2.1 dX8_reachable_26 rfl hl (by decide) rfl (fun ls hl => ?_)
        refine y_inc (kp := 1) (n := 1) (fun v_24 => [(4, .int v_24), (3, .int v_23), (0, .ref (ad 83)), (1, .int a1), (2, .int a2)]) C0 hl rfl (by decide) (by decide) (fun _ => rfl) (o18_327 l2 u2 b_16 b_17 hn_15 c_18 (le_min x4_8) (le_max x4_8) (le_min a2) (le_max a2)) (o18_328 l2 u2 b_16 b_17 hn_15 c_18 (le_min x4_8) (le_max x4_8) (le_min a2) (le_max a2)) dX8_reachable_27 (fun v_24 ls e_25 hl => ?_)
        refine lv_goto (tgt := 11) C0.1 C0.2.1 dX8_reachable_30 (by decide) ?_
        exact ih_13 v_24 v_23 _ _ _ _ (o18_329 l2 u2 b_16 b_17 hn_15 c_18 e_25) (o18_330 l2 u2 b_16 b_17 hn_15 c_18 e_25) (o18_331 l2 u2 b_16 b_17 hn_15 c_18 e_25) h hF_11 (lv_sub hl [0, 1, 2, 3, 4] rfl)
  exact lp_12 ((121 - v_6.toInt + 1).toNat) v_6 v_4 _ _ _ _ (o18_128 e_7) (o18_1 e_7) (o18_129 e_7) h Fr.rf (lv_sub hl [0, 1, 2, 3, 4] rfl)
set_option maxHeartbeats 4000000 in
set_option maxRecDepth 100000 in
theorem c_X8_leastForAll (l : Launch) (G : GG) (Z : RZ) (ad : Nat → Nat) (ws0 : va_W) (hT : Ty G (SC tt) ad ws0) (a1 : Int32) (l1 : 0 ≤ a1.toInt) (u1 : a1.toInt ≤ 99) : Mq l yX8_leastForAll cX8_leastForAll 5 (some .int) 7 G Z [.ref (ad 83), .int a1] ws0 (PI G (SC tt) ad [4, 5, 18, 19, 20, 21, 22, 23, 24] ws0 (fun r u => (0 ≤ r.toInt) ∧ (r.toInt ≤ 120))) := by
  refine Mq.start (by decide) (Nat.le_of_ble_eq_true rfl) ?_
  intro p e s m below meth c A ls C0 hZ h hl
  have hl : lv_has ls 5 [(0, .ref (ad 83)), (1, .int a1)] := hl
  have h : Wt G (SC tt) ad A s s.heap [] ws0 := ⟨h, hT⟩
  obtain ⟨args, hargs⟩ : ∃ z, z = ([.ref (ad 83), .int a1] : List Value).toArray := ⟨_, rfl⟩
  rw [← hargs] at C0 ⊢
  have C0 : Cx p s m args meth c RX8 cX8_leastForAll 5 (some .int) := C0
  obtain ⟨Q, hQ⟩ : ∃ z, z = MQ below ((PI G (SC tt) ad [4, 5, 18, 19, 20, 21, 22, 23, 24] ws0 (fun r u => (0 ≤ r.toInt) ∧ (r.toInt ≤ 120))) A) args s 0 0 A := ⟨_, rfl⟩
  rw [← hQ]
  refine lv_aload_n C0.1 C0.2.1 dX8_leastForAll_0 rfl (lv_at hl 0 rfl) ?_
  refine lv_iload_n C0.1 C0.2.1 dX8_leastForAll_1 rfl (lv_at hl 1 rfl) ?_
  refine y_c2 (n := 120) C0 (by decide) dX8_leastForAll_2 (fun v_1 e_2 => ?_)
  refine y_cv h (y_rV (As := [.int a1, .int v_1]) (rest := []) C0 hZ h (c_X8_survey l G Z ad _ h.2 a1 v_1 (o18_250 l1 u1) (o18_251 l1 u1) (o18_332 e_2) (o18_302 e_2)) k_X8_survey q_1254 q_49 q_1252 kSC_83 rfl rfl rfl hl.1 rfl rfl (Nat.le_of_ble_eq_true rfl) dX8_leastForAll_4 ⟨Nat.le_of_ble_eq_true rfl, Nat.le_of_ble_eq_true rfl⟩ ⟨Nat.le_of_ble_eq_true rfl, Nat.le_of_ble_eq_true rfl⟩) (fun H locs ws_3 h u_4 p_5 => ?_)
  refine y_c1 (n := 0) C0 (by decide) dX8_leastForAll_7 (fun v_6 e_7 => ?_)
  refine lv_istore_n (lv' := [(2, .int v_6), (0, .ref (ad 83)), (1, .int a1)]) C0.1 C0.2.1 dX8_leastForAll_8 rfl hl (by decide) rfl (fun ls hl => ?_)
  refine y_c1 (n := 0) C0 (by decide) dX8_leastForAll_9 (fun v_8 e_9 => ?_)
  refine lv_istore_n (lv' := [(3, .int v_8), (2, .int v_6), (0, .ref (ad 83)), (1, .int a1)]) C0.1 C0.2.1 dX8_leastForAll_10 rfl hl (by decide) rfl (fun ls hl => ?_)
  refine y_c1 (n := 0) C0 (by decide) dX8_leastForAll_11 (fun v_10 e_11 => ?_)
  refine lv_istore (lv' := [(4, .int v_10), (3, .int v_8), (2, .int v_6), (0, .ref (ad 83)), (1, .int a1)]) C0.1 C0.2.1 dX8_leastForAll_12 hl (by decide) rfl (fun ls hl => ?_)
  have lp_17 : ∀ (n_19 : Nat) (x4_12 : Int32) (x3_13 : Int32) (x2_14 : Int32) (H : Heap) (locs : List Loc) (ls : Array Slot) (ws_15 : va_W), 121 - x4_12.toInt < (n_19 : Int) → 0 ≤ x4_12.toInt → x4_12.toInt ≤ 121 → 0 ≤ x3_13.toInt → x3_13.toInt ≤ 120 → Wt G (SC tt) ad A s H locs ws_15 → Fr (SC tt) [] ws_3 ws_15 → lv_has ls 5 [(4, .int x4_12), (3, .int x3_13), (2, .int x2_14), (0, .ref (ad 83)), (1, .int a1)] → W p l e (rmd 7 0 0) s m args below meth c H locs 0 0 Q (F0 m 14 ls []) := by
    intro n_19
    induction n_19 with
    | zero => intro x4_12 x3_13 x2_14 H locs ls ws_15 hn_20 b_21 b_22 b_23 b_24 h hF_16 hl; exact ((o18_98 b_21 b_22 hn_20)).elim
    | succ n_19 ih_18 =>
      intro x4_12 x3_13 x2_14 H locs ls ws_15 hn_20 b_21 b_22 b_23 b_24 h hF_16 hl
      refine lv_iload C0.1 C0.2.1 dX8_leastForAll_14 (lv_at hl 0 rfl) ?_
      refine y_c2 (n := 120) C0 (by decide) dX8_leastForAll_16 (fun v_25 e_26 => ?_)
      refine y_icmp_gt (tgt := 54) C0 dX8_leastForAll_18 (by decide) (fun c_27 => ?_) (fun c_27 => ?_)
      · -- 18
        refine lv_iload_n C0.1 C0.2.1 dX8_leastForAll_54 rfl (lv_at hl 1 rfl) ?_
        rw [hQ]
        exact y_iret C0 h (Fr.tr u_4 (Fr.mono hF_16 (by decide))) ⟨(o18_96 b_23 b_24), (o18_97 b_23 b_24)⟩ dX8_leastForAll_55
      · -- 18
        refine lv_aload_n C0.1 C0.2.1 dX8_leastForAll_21 rfl (lv_at hl 3 rfl) ?_
        refine tg_X8_reached C0 h kSC_83 q_320 dX8_leastForAll_22 ?_
        refine lv_iload C0.1 C0.2.1 dX8_leastForAll_25 (lv_at hl 0 rfl) ?_
        refine y_iald C0 h kSC_86 rfl (by decide) (o18_333 b_21 b_22 hn_20 e_26 c_27) (o18_334 b_21 b_22 hn_20 e_26 c_27) dX8_leastForAll_27 (fun v_28 e_29 e_30 e_31 => ?_)
        refine lv_iload_n C0.1 C0.2.1 dX8_leastForAll_28 rfl (lv_at hl 2 rfl) ?_
        refine y_c1 (n := (-1)) C0 (by decide) dX8_leastForAll_29 (fun v_32 e_33 => ?_)
        refine y_ixorU C0 dX8_leastForAll_30 (fun v_34 => ?_)
        refine y_iandU C0 dX8_leastForAll_31 (fun v_35 => ?_)
        refine y_if_eq (tgt := 48) C0 dX8_leastForAll_32 (by decide) (fun c_36 => ?_) (fun c_36 => ?_)
        · -- 32
          refine y_inc (kp := 0) (n := 1) (fun v_37 => [(4, .int v_37), (3, .int x3_13), (2, .int x2_14), (0, .ref (ad 83)), (1, .int a1)]) C0 hl rfl (by decide) (by decide) (fun _ => rfl) (o18_335 b_21 b_22 hn_20 e_26 c_27 (le_min x4_12) (le_max x4_12) (le_min v_25) (le_max v_25)) (o18_336 b_21 b_22 hn_20 e_26 c_27 (le_min x4_12) (le_max x4_12) (le_min v_25) (le_max v_25)) dX8_leastForAll_48 (fun v_37 ls e_38 hl => ?_)
          refine lv_goto (tgt := 14) C0.1 C0.2.1 dX8_leastForAll_51 (by decide) ?_
          exact ih_18 v_37 x3_13 x2_14 _ _ _ _ (o18_337 b_21 b_22 hn_20 e_26 c_27 e_38) (o18_338 b_21 b_22 hn_20 e_26 c_27 e_38) (o18_339 b_21 b_22 hn_20 e_26 c_27 e_38) (o18_96 b_23 b_24) (o18_97 b_23 b_24) h hF_16 (lv_sub hl [0, 1, 2, 3, 4] rfl)
        · -- 32
          refine lv_iload_n C0.1 C0.2.1 dX8_leastForAll_35 rfl (lv_at hl 2 rfl) ?_
          refine lv_aload_n C0.1 C0.2.1 dX8_leastForAll_36 rfl (lv_at hl 3 rfl) ?_
          refine tg_X8_reached C0 h kSC_83 q_320 dX8_leastForAll_37 ?_
          refine lv_iload C0.1 C0.2.1 dX8_leastForAll_40 (lv_at hl 0 rfl) ?_
          refine y_iald C0 h kSC_86 rfl (by decide) (o18_333 b_21 b_22 hn_20 e_26 c_27) (o18_334 b_21 b_22 hn_20 e_26 c_27) dX8_leastForAll_42 (fun v_39 e_40 e_41 e_42 => ?_)
          have q_43 : v_39.toInt = v_28.toInt := congrArg Int32.toInt (e_40.symm.trans (Eq.trans rfl e_29))
          refine y_iorU C0 dX8_leastForAll_43 (fun v_44 => ?_)
          refine lv_istore_n (lv' := [(2, .int v_44), (4, .int x4_12), (3, .int x3_13), (0, .ref (ad 83)), (1, .int a1)]) C0.1 C0.2.1 dX8_leastForAll_44 rfl hl (by decide) rfl (fun ls hl => ?_)
          refine lv_iload C0.1 C0.2.1 dX8_leastForAll_45 (lv_at hl 1 rfl) ?_
          refine lv_istore_n (lv' := [(3, .int x4_12), (2, .int v_44), (4, .int x4_12), (0, .ref (ad 83)), (1, .int a1)]) C0.1 C0.2.1 dX8_leastForAll_47 rfl hl (by decide) rfl (fun ls hl => ?_)
          refine y_inc (kp := 2) (n := 1) (fun v_45 => [(4, .int v_45), (3, .int x4_12), (2, .int v_44), (0, .ref (ad 83)), (1, .int a1)]) C0 hl rfl (by decide) (by decide) (fun _ => rfl) (o18_335 b_21 b_22 hn_20 e_26 c_27 (le_min x4_12) (le_max x4_12) (le_min v_25) (le_max v_25)) (o18_336 b_21 b_22 hn_20 e_26 c_27 (le_min x4_12) (le_max x4_12) (le_min v_25) (le_max v_25)) dX8_leastForAll_48 (fun v_45 ls e_46 hl => ?_)
          refine lv_goto (tgt := 14) C0.1 C0.2.1 dX8_leastForAll_51 (by decide) ?_
          exact ih_18 v_45 x4_12 v_44 _ _ _ _ (o18_337 b_21 b_22 hn_20 e_26 c_27 e_46) (o18_338 b_21 b_22 hn_20 e_26 c_27 e_46) (o18_339 b_21 b_22 hn_20 e_26 c_27 e_46) (o18_340 b_21 b_22 hn_20 e_26 c_27 e_46) (o18_341 b_21 b_22 hn_20 e_26 c_27 e_46) h hF_16 (lv_sub hl [0, 1, 2, 3, 4] rfl)
  exact lp_17 ((121 - v_10.toInt + 1).toNat) v_10 v_8 v_6 _ _ _ _ (o18_128 e_11) (o18_1 e_11) (o18_129 e_11) (o18_1 e_9) (o18_84 e_9) h Fr.rf (lv_sub hl [0, 1, 2, 3, 4] rfl)
set_option maxHeartbeats 4000000 in
set_option maxRecDepth 100000 in
theorem c_X8_leftByRights (l : Launch) (G : GG) (Z : RZ) (ad : Nat → Nat) (ws0 : va_W) (hT : Ty G (SC tt) ad ws0) (a1 : Int32) (l1 : 0 ≤ a1.toInt) (u1 : a1.toInt ≤ 99) (hR : Rel ws0) : Mq l yX8_leftByRights cX8_leftByRights 4 (some .int) 3 G Z [.ref (ad 83), .int a1] ws0 (PI G (SC tt) ad [22, 23] ws0 (fun r u => ((-1) ≤ r.toInt) ∧ (r.toInt ≤ 60))) := by
  refine Mq.start (by decide) (Nat.le_of_ble_eq_true rfl) ?_
  intro p e s m below meth c A ls C0 hZ h hl
  have hl : lv_has ls 4 [(0, .ref (ad 83)), (1, .int a1)] := hl
  have h : Wt G (SC tt) ad A s s.heap [] ws0 := ⟨h, hT⟩
  obtain ⟨args, hargs⟩ : ∃ z, z = ([.ref (ad 83), .int a1] : List Value).toArray := ⟨_, rfl⟩
  rw [← hargs] at C0 ⊢
  have C0 : Cx p s m args meth c RX8 cX8_leftByRights 4 (some .int) := C0
  obtain ⟨Q, hQ⟩ : ∃ z, z = MQ below ((PI G (SC tt) ad [22, 23] ws0 (fun r u => ((-1) ≤ r.toInt) ∧ (r.toInt ≤ 60))) A) args s 0 0 A := ⟨_, rfl⟩
  rw [← hQ]
  refine lv_aload_n C0.1 C0.2.1 dX8_leftByRights_0 rfl (lv_at hl 0 rfl) ?_
  refine tg_X8_city C0 h kSC_83 q_314 dX8_leftByRights_1 ?_
  refine lv_iload_n C0.1 C0.2.1 dX8_leftByRights_4 rfl (lv_at hl 1 rfl) ?_
  refine y_c1 (n := 2) C0 (by decide) dX8_leftByRights_5 (fun v_1 e_2 => ?_)
  refine y_shr 2 2 (n := 4) C0 (Eq.trans (o18_65 e_2) (by decide)) (by decide) (by decide) dX8_leftByRights_6 (fun v_3 e_4 => ?_)
  refine lv_iload_n C0.1 C0.2.1 dX8_leftByRights_7 rfl (lv_at hl 1 rfl) ?_
  refine y_c1 (n := 3) C0 (by decide) dX8_leftByRights_8 (fun v_5 e_6 => ?_)
  refine y_add C0 (o18_342 l1 u1 e_4 e_6 (le_min a1) (le_max a1) (le_min v_5) (le_max v_5) (le_min v_3) (le_max v_3)) (o18_343 l1 u1 e_4 e_6 (le_min a1) (le_max a1) (le_min v_5) (le_max v_5) (le_min v_3) (le_max v_3)) dX8_leftByRights_9 (fun v_7 e_8 => ?_)
  refine y_c1 (n := 3) C0 (by decide) dX8_leftByRights_10 (fun v_9 e_10 => ?_)
  refine y_and 3 2 (n := 3) C0 (Eq.trans (o18_70 e_10) (by decide)) (by decide) (by decide) (by decide) dX8_leftByRights_11 (fun v_11 e_12 e_13 => ?_)
  refine y_ci h (y_rV (As := [.int v_3, .int v_11]) (rest := []) C0 hZ h (c_X0_to l G Z ad _ h.2 1 kSC_1 v_3 v_11 (o18_344 l1 u1 e_4 e_6 e_8) (o18_345 l1 u1 e_4 e_6 e_8) (o18_40 e_12 e_13) (o18_41 e_12 e_13) hR) k_X0_to q_773 q_774 q_1273 kSC_1 rfl rfl rfl hl.1 rfl rfl (Nat.le_of_ble_eq_true rfl) dX8_leftByRights_12 ⟨Nat.le_of_ble_eq_true rfl, Nat.le_of_ble_eq_true rfl⟩ ⟨Nat.le_of_ble_eq_true rfl, Nat.le_of_ble_eq_true rfl⟩) (fun r_17 H locs ws_14 h u_15 p_16 => ?_)
  obtain ⟨e_18, e_19, e_20⟩ := p_16
  refine lv_istore_n (lv' := [(2, .int r_17), (0, .ref (ad 83)), (1, .int a1)]) C0.1 C0.2.1 dX8_leftByRights_15 rfl hl (by decide) rfl (fun ls hl => ?_)
  refine lv_iload_n C0.1 C0.2.1 dX8_leftByRights_16 rfl (lv_at hl 0 rfl) ?_
  refine y_if_ge (tgt := 22) C0 dX8_leftByRights_17 (by decide) (fun c_21 => ?_) (fun c_21 => ?_)
  · -- 17
    refine lv_aload_n C0.1 C0.2.1 dX8_leftByRights_22 rfl (lv_at hl 1 rfl) ?_
    refine lv_iload_n C0.1 C0.2.1 dX8_leftByRights_23 rfl (lv_at hl 2 rfl) ?_
    refine y_cv h (y_rV (As := [.int a1]) (rest := []) C0 hZ h (c_X8_begin l G Z ad _ h.2 a1 (o18_346 l1 u1 e_4 e_6 e_8) (o18_347 l1 u1 e_4 e_6 e_8)) k_X8_begin q_1080 q_31 q_1078 kSC_83 rfl rfl rfl hl.1 rfl rfl (Nat.le_of_ble_eq_true rfl) dX8_leftByRights_24 ⟨Nat.le_of_ble_eq_true rfl, Nat.le_of_ble_eq_true rfl⟩ ⟨Nat.le_of_ble_eq_true rfl, Nat.le_of_ble_eq_true rfl⟩) (fun H locs ws_22 h u_23 p_24 => ?_)
    have e_25 := p_24
    obtain ⟨f_26, e_27⟩ : ∃ v, fI ws_22 83 4 = v := ⟨_, rfl⟩
    rw [e_27] at e_25
    refine y_c1 (n := 1) C0 (by decide) dX8_leftByRights_27 (fun v_28 e_29 => ?_)
    refine lv_istore_n (lv' := [(3, .int v_28), (2, .int r_17), (0, .ref (ad 83)), (1, .int a1)]) C0.1 C0.2.1 dX8_leftByRights_28 rfl hl (by decide) rfl (fun ls hl => ?_)
    have lp_33 : ∀ (n_35 : Nat) (x3_30 : Int32) (H : Heap) (locs : List Loc) (ls : Array Slot) (ws_31 : va_W), 61 - x3_30.toInt < (n_35 : Int) → 1 ≤ x3_30.toInt → x3_30.toInt ≤ 61 → Wt G (SC tt) ad A s H locs ws_31 → Fr (SC tt) [22, 23] ws_22 ws_31 → lv_has ls 4 [(3, .int x3_30), (2, .int r_17), (0, .ref (ad 83)), (1, .int a1)] → W p l e (rmd 3 0 0) s m args below meth c H locs 0 0 Q (F0 m 29 ls []) := by
      intro n_35
      induction n_35 with
      | zero => intro x3_30 H locs ls ws_31 hn_36 b_37 b_38 h hF_32 hl; exact ((o18_348 b_37 b_38 hn_36)).elim
      | succ n_35 ih_34 =>
        intro x3_30 H locs ls ws_31 hn_36 b_37 b_38 h hF_32 hl
        refine lv_iload_n C0.1 C0.2.1 dX8_leftByRights_29 rfl (lv_at hl 0 rfl) ?_
        refine y_c2 (n := 60) C0 (by decide) dX8_leftByRights_30 (fun v_39 e_40 => ?_)
        refine y_icmp_gt (tgt := 65) C0 dX8_leftByRights_32 (by decide) (fun c_41 => ?_) (fun c_41 => ?_)
        · -- 32
          refine y_c1 (n := (-1)) C0 (by decide) dX8_leftByRights_65 (fun v_42 e_43 => ?_)
          rw [hQ]
          exact y_iret C0 h (Fr.tr (Fr.tr (Fr.mono u_15 (by decide)) u_23) hF_32) ⟨(o18_77 e_43), (o18_253 e_43)⟩ dX8_leftByRights_66
        · -- 32
          refine lv_aload_n C0.1 C0.2.1 dX8_leftByRights_35 rfl (lv_at hl 2 rfl) ?_
          refine y_c1 (n := 0) C0 (by decide) dX8_leftByRights_36 (fun v_44 e_45 => ?_)
          refine y_cv h (y_rV (As := [.int v_44]) (rest := []) C0 hZ h (c_X8_goByRights l G Z ad _ h.2 v_44 (o18_1 e_45) (o18_349 e_45)) k_X8_goByRights q_1105 q_36 q_1103 kSC_83 rfl rfl rfl hl.1 rfl rfl (Nat.le_of_ble_eq_true rfl) dX8_leftByRights_37 ⟨Nat.le_of_ble_eq_true rfl, Nat.le_of_ble_eq_true rfl⟩ ⟨Nat.le_of_ble_eq_true rfl, Nat.le_of_ble_eq_true rfl⟩) (fun H locs ws_46 h u_47 p_48 => ?_)
          refine lv_aload_n C0.1 C0.2.1 dX8_leftByRights_40 rfl (lv_at hl 2 rfl) ?_
          refine y_c1 (n := 0) C0 (by decide) dX8_leftByRights_41 (fun v_49 e_50 => ?_)
          refine y_cv h (y_rV (As := [.int v_49]) (rest := []) C0 hZ h (c_X8_change l G Z ad _ h.2 v_49 (o18_1 e_50) (o18_84 e_50)) k_X8_change q_1137 q_39 q_1135 kSC_83 rfl rfl rfl hl.1 rfl rfl (Nat.le_of_ble_eq_true rfl) dX8_leftByRights_42 ⟨Nat.le_of_ble_eq_true rfl, Nat.le_of_ble_eq_true rfl⟩ ⟨Nat.le_of_ble_eq_true rfl, Nat.le_of_ble_eq_true rfl⟩) (fun H locs ws_51 h u_52 p_53 => ?_)
          have e_54 := p_53
          refine lv_aload_n C0.1 C0.2.1 dX8_leftByRights_45 rfl (lv_at hl 2 rfl) ?_
          refine y_c1 (n := 0) C0 (by decide) dX8_leftByRights_46 (fun v_55 e_56 => ?_)
          refine y_ci h (y_rV (As := [.int v_55]) (rest := []) C0 hZ h (c_X8_anyHeading l G Z ad _ h.2 v_55 (o18_1 e_56) (o18_84 e_56)) k_X8_anyHeading q_1088 q_33 q_1086 kSC_83 rfl rfl rfl hl.1 rfl rfl (Nat.le_of_ble_eq_true rfl) dX8_leftByRights_47 ⟨Nat.le_of_ble_eq_true rfl, Nat.le_of_ble_eq_true rfl⟩ ⟨Nat.le_of_ble_eq_true rfl, Nat.le_of_ble_eq_true rfl⟩) (fun r_60 H locs ws_57 h u_58 p_59 => ?_)
          refine lv_iload_n C0.1 C0.2.1 dX8_leftByRights_50 rfl (lv_at hl 1 rfl) ?_
          refine y_ishrU C0 dX8_leftByRights_51 (fun v_61 => ?_)
          refine y_c1 (n := 1) C0 (by decide) dX8_leftByRights_52 (fun v_62 e_63 => ?_)
          refine y_and 1 1 (n := 1) C0 (Eq.trans (o18_47 e_63) (by decide)) (by decide) (by decide) (by decide) dX8_leftByRights_53 (fun v_64 e_65 e_66 => ?_)
          refine y_if_eq (tgt := 59) C0 dX8_leftByRights_54 (by decide) (fun c_67 => ?_) (fun c_67 => ?_)
          · -- 54
            refine y_inc (kp := 0) (n := 1) (fun v_68 => [(3, .int v_68), (2, .int r_17), (0, .ref (ad 83)), (1, .int a1)]) C0 hl rfl (by decide) (by decide) (fun _ => rfl) (o18_350 b_37 b_38 hn_36 e_40 c_41 (le_min x3_30) (le_max x3_30) (le_min v_39) (le_max v_39)) (o18_351 b_37 b_38 hn_36 e_40 c_41 (le_min x3_30) (le_max x3_30) (le_min v_39) (le_max v_39)) dX8_leftByRights_59 (fun v_68 ls e_69 hl => ?_)
            refine lv_goto (tgt := 29) C0.1 C0.2.1 dX8_leftByRights_62 (by decide) ?_
            exact ih_34 v_68 _ _ _ _ (o18_352 b_37 b_38 hn_36 e_40 c_41 e_69) (o18_353 b_37 b_38 hn_36 e_40 c_41 e_69) (o18_354 b_37 b_38 hn_36 e_40 c_41 e_69) h (Fr.tr (Fr.tr (Fr.tr hF_32 (Fr.mono u_47 (by decide))) u_52) (Fr.mono u_58 (by decide))) (lv_sub hl [0, 1, 2, 3] rfl)
          · -- 54
            refine lv_iload_n C0.1 C0.2.1 dX8_leftByRights_57 rfl (lv_at hl 0 rfl) ?_
            rw [hQ]
            exact y_iret C0 h (Fr.tr (Fr.tr (Fr.tr (Fr.tr (Fr.tr (Fr.mono u_15 (by decide)) u_23) hF_32) (Fr.mono u_47 (by decide))) u_52) (Fr.mono u_58 (by decide))) ⟨(o18_355 b_37 b_38 hn_36 e_40 c_41), (o18_356 b_37 b_38 hn_36 e_40 c_41)⟩ dX8_leftByRights_58
    exact lp_33 ((61 - v_28.toInt + 1).toNat) v_28 _ _ _ _ (o18_357 e_29) (o18_358 e_29) (o18_359 e_29) h Fr.rf (lv_sub hl [0, 1, 2, 3] rfl)
  · -- 17
    refine y_c1 (n := (-1)) C0 (by decide) dX8_leftByRights_20 (fun v_70 e_71 => ?_)
    rw [hQ]
    exact y_iret C0 h (Fr.mono u_15 (by decide)) ⟨(o18_77 e_71), (o18_253 e_71)⟩ dX8_leftByRights_21
set_option maxHeartbeats 4000000 in
set_option maxRecDepth 100000 in
theorem c_X8_cornersToFree (l : Launch) (G : GG) (Z : RZ) (ad : Nat → Nat) (ws0 : va_W) (hT : Ty G (SC tt) ad ws0) (a1 : Int32) (a2 : Int32) (a3 : Int32) (l1 : 0 ≤ a1.toInt) (u1 : a1.toInt ≤ 99) (l3 : 0 ≤ a3.toInt) (u3 : a3.toInt ≤ 30) : Mq l yX8_cornersToFree cX8_cornersToFree 7 (some .int) 7 G Z [.ref (ad 83), .int a1, .int a2, .int a3] ws0 (PI G (SC tt) ad [4, 5, 18, 19, 20, 21, 22, 23] ws0 (fun r u => True)) := by
  refine Mq.start (by decide) (Nat.le_of_ble_eq_true rfl) ?_
  intro p e s m below meth c A ls C0 hZ h hl
  have hl : lv_has ls 7 [(0, .ref (ad 83)), (1, .int a1), (2, .int a2), (3, .int a3)] := hl
  have h : Wt G (SC tt) ad A s s.heap [] ws0 := ⟨h, hT⟩
  obtain ⟨args, hargs⟩ : ∃ z, z = ([.ref (ad 83), .int a1, .int a2, .int a3] : List Value).toArray := ⟨_, rfl⟩
  rw [← hargs] at C0 ⊢
  have C0 : Cx p s m args meth c RX8 cX8_cornersToFree 7 (some .int) := C0
  obtain ⟨Q, hQ⟩ : ∃ z, z = MQ below ((PI G (SC tt) ad [4, 5, 18, 19, 20, 21, 22, 23] ws0 (fun r u => True)) A) args s 0 0 A := ⟨_, rfl⟩
  rw [← hQ]
  refine lv_aload_n C0.1 C0.2.1 dX8_cornersToFree_0 rfl (lv_at hl 0 rfl) ?_
  refine tg_X8_city C0 h kSC_83 q_314 dX8_cornersToFree_1 ?_
  refine y_ci h (y_rV (As := []) (rest := []) C0 hZ h (c_X0_crossings l G Z ad _ h.2 1 kSC_1) k_X0_crossings q_918 q_919 q_1324 kSC_1 rfl rfl rfl hl.1 rfl rfl (Nat.le_of_ble_eq_true rfl) dX8_cornersToFree_4 ⟨Nat.le_of_ble_eq_true rfl, Nat.le_of_ble_eq_true rfl⟩ ⟨Nat.le_of_ble_eq_true rfl, Nat.le_of_ble_eq_true rfl⟩) (fun r_4 H locs ws_1 h u_2 p_3 => ?_)
  obtain ⟨e_5, e_6⟩ := p_3
  refine lv_istore (lv' := [(4, .int r_4), (0, .ref (ad 83)), (1, .int a1), (2, .int a2), (3, .int a3)]) C0.1 C0.2.1 dX8_cornersToFree_7 hl (by decide) rfl (fun ls hl => ?_)
  refine lv_aload_n C0.1 C0.2.1 dX8_cornersToFree_9 rfl (lv_at hl 1 rfl) ?_
  refine lv_iload_n C0.1 C0.2.1 dX8_cornersToFree_10 rfl (lv_at hl 2 rfl) ?_
  refine lv_iload_n C0.1 C0.2.1 dX8_cornersToFree_11 rfl (lv_at hl 3 rfl) ?_
  refine y_c1 (n := 0) C0 (by decide) dX8_cornersToFree_12 (fun v_7 e_8 => ?_)
  refine lv_iload_n C0.1 C0.2.1 dX8_cornersToFree_13 rfl (lv_at hl 4 rfl) ?_
  refine y_c1 (n := 0) C0 (by decide) dX8_cornersToFree_14 (fun v_9 e_10 => ?_)
  refine y_ci h (y_rV (As := [.int a1, .int a2, .int v_7, .int a3, .int v_9]) (rest := []) C0 hZ h (c_X8_fewestStreets l G Z ad _ h.2 a1 a2 v_7 a3 v_9 (o18_250 l1 u1) (o18_251 l1 u1) (o18_1 e_8) (o18_84 e_8) (o18_360 l3 u3) (o18_361 l3 u3)) k_X8_fewestStreets q_1075 q_1076 q_1325 kSC_83 rfl rfl rfl hl.1 rfl rfl (Nat.le_of_ble_eq_true rfl) dX8_cornersToFree_15 ⟨Nat.le_of_ble_eq_true rfl, Nat.le_of_ble_eq_true rfl⟩ ⟨Nat.le_of_ble_eq_true rfl, Nat.le_of_ble_eq_true rfl⟩) (fun r_14 H locs ws_11 h u_12 p_13 => ?_)
  obtain ⟨e_15, e_16⟩ := p_13
  refine y_if_lt (tgt := 23) C0 dX8_cornersToFree_18 (by decide) (fun c_17 => ?_) (fun c_17 => ?_)
  · -- 18
    refine lv_aload_n C0.1 C0.2.1 dX8_cornersToFree_23 rfl (lv_at hl 1 rfl) ?_
    refine lv_iload_n C0.1 C0.2.1 dX8_cornersToFree_24 rfl (lv_at hl 2 rfl) ?_
    refine lv_iload_n C0.1 C0.2.1 dX8_cornersToFree_25 rfl (lv_at hl 3 rfl) ?_
    refine y_c1 (n := 0) C0 (by decide) dX8_cornersToFree_26 (fun v_18 e_19 => ?_)
    refine lv_iload_n C0.1 C0.2.1 dX8_cornersToFree_27 rfl (lv_at hl 4 rfl) ?_
    refine y_c1 (n := 1) C0 (by decide) dX8_cornersToFree_28 (fun v_20 e_21 => ?_)
    refine lv_iload C0.1 C0.2.1 dX8_cornersToFree_29 (lv_at hl 0 rfl) ?_
    refine y_ishlU C0 dX8_cornersToFree_31 (fun v_22 => ?_)
    refine y_c1 (n := 1) C0 (by decide) dX8_cornersToFree_32 (fun v_23 e_24 => ?_)
    refine y_isubU C0 dX8_cornersToFree_33 (fun v_25 => ?_)
    refine y_ci h (y_rV (As := [.int a1, .int a2, .int v_18, .int a3, .int v_25]) (rest := []) C0 hZ h (c_X8_fewestStreets l G Z ad _ h.2 a1 a2 v_18 a3 v_25 (o18_250 l1 u1) (o18_251 l1 u1) (o18_1 e_19) (o18_84 e_19) (o18_360 l3 u3) (o18_361 l3 u3)) k_X8_fewestStreets q_1075 q_1076 q_1325 kSC_83 rfl rfl rfl hl.1 rfl rfl (Nat.le_of_ble_eq_true rfl) dX8_cornersToFree_34 ⟨Nat.le_of_ble_eq_true rfl, Nat.le_of_ble_eq_true rfl⟩ ⟨Nat.le_of_ble_eq_true rfl, Nat.le_of_ble_eq_true rfl⟩) (fun r_29 H locs ws_26 h u_27 p_28 => ?_)
    obtain ⟨e_30, e_31⟩ := p_28
    refine y_if_ge (tgt := 42) C0 dX8_cornersToFree_37 (by decide) (fun c_32 => ?_) (fun c_32 => ?_)
    · -- 37
      refine y_c1 (n := 0) C0 (by decide) dX8_cornersToFree_42 (fun v_33 e_34 => ?_)
      refine lv_istore (lv' := [(5, .int v_33), (4, .int r_4), (0, .ref (ad 83)), (1, .int a1), (2, .int a2), (3, .int a3)]) C0.1 C0.2.1 dX8_cornersToFree_43 hl (by decide) rfl (fun ls hl => ?_)
      have lp_38 : ∀ (n_40 : Nat) (x5_35 : Int32) (H : Heap) (locs : List Loc) (ls : Array Slot) (ws_36 : va_W), 25 - x5_35.toInt < (n_40 : Int) → 0 ≤ x5_35.toInt → x5_35.toInt ≤ 25 → Wt G (SC tt) ad A s H locs ws_36 → Fr (SC tt) [4, 5, 18, 19, 20, 21, 22, 23] ws_26 ws_36 → lv_has ls 7 [(5, .int x5_35), (4, .int r_4), (0, .ref (ad 83)), (1, .int a1), (2, .int a2), (3, .int a3)] → W p l e (rmd 7 0 0) s m args below meth c H locs 0 0 Q (F0 m 45 ls []) := by
        intro n_40
        induction n_40 with
        | zero => intro x5_35 H locs ls ws_36 hn_41 b_42 b_43 h hF_37 hl; exact ((o18_46 b_42 b_43 hn_41)).elim
        | succ n_40 ih_39 =>
          intro x5_35 H locs ls ws_36 hn_41 b_42 b_43 h hF_37 hl
          refine lv_iload C0.1 C0.2.1 dX8_cornersToFree_45 (lv_at hl 0 rfl) ?_
          refine lv_iload C0.1 C0.2.1 dX8_cornersToFree_47 (lv_at hl 1 rfl) ?_
          refine y_icmp_ge (tgt := 78) C0 dX8_cornersToFree_49 (by decide) (fun c_44 => ?_) (fun c_44 => ?_)
          · -- 49
            refine y_c1 (n := 1) C0 (by decide) dX8_cornersToFree_78 (fun v_45 e_46 => ?_)
            refine lv_istore (lv' := [(5, .int v_45), (4, .int r_4), (0, .ref (ad 83)), (1, .int a1), (2, .int a2), (3, .int a3)]) C0.1 C0.2.1 dX8_cornersToFree_79 hl (by decide) rfl (fun ls hl => ?_)
            have lp_50 : ∀ (n_52 : Nat) (x5_47 : Int32) (H : Heap) (locs : List Loc) (ls : Array Slot) (ws_48 : va_W), 25 - x5_47.toInt < (n_52 : Int) → 1 ≤ x5_47.toInt → x5_47.toInt ≤ 25 → Wt G (SC tt) ad A s H locs ws_48 → Fr (SC tt) [4, 5, 18, 19, 20, 21, 22, 23] ws_36 ws_48 → lv_has ls 7 [(5, .int x5_47), (4, .int r_4), (0, .ref (ad 83)), (1, .int a1), (2, .int a2), (3, .int a3)] → W p l e (rmd 7 0 0) s m args below meth c H locs 0 0 Q (F0 m 81 ls []) := by
              intro n_52
              induction n_52 with
              | zero => intro x5_47 H locs ls ws_48 hn_53 b_54 b_55 h hF_49 hl; exact ((o18_362 b_54 b_55 hn_53)).elim
              | succ n_52 ih_51 =>
                intro x5_47 H locs ls ws_48 hn_53 b_54 b_55 h hF_49 hl
                refine lv_iload C0.1 C0.2.1 dX8_cornersToFree_81 (lv_at hl 0 rfl) ?_
                refine lv_iload C0.1 C0.2.1 dX8_cornersToFree_83 (lv_at hl 1 rfl) ?_
                refine y_icmp_ge (tgt := 140) C0 dX8_cornersToFree_85 (by decide) (fun c_56 => ?_) (fun c_56 => ?_)
                · -- 85
                  refine y_c1 (n := (-1)) C0 (by decide) dX8_cornersToFree_140 (fun v_57 e_58 => ?_)
                  rw [hQ]
                  exact y_iret C0 h (Fr.tr (Fr.tr (Fr.tr (Fr.tr (Fr.mono u_2 (by decide)) u_12) u_27) hF_37) hF_49) trivial dX8_cornersToFree_141
                · -- 85
                  refine y_c1 (n := 0) C0 (by decide) dX8_cornersToFree_88 (fun v_59 e_60 => ?_)
                  refine lv_istore (lv' := [(6, .int v_59), (5, .int x5_47), (4, .int r_4), (0, .ref (ad 83)), (1, .int a1), (2, .int a2), (3, .int a3)]) C0.1 C0.2.1 dX8_cornersToFree_89 hl (by decide) rfl (fun ls hl => ?_)
                  have lp_64 : ∀ (n_66 : Nat) (x6_61 : Int32) (H : Heap) (locs : List Loc) (ls : Array Slot) (ws_62 : va_W), 24 - x6_61.toInt < (n_66 : Int) → 0 ≤ x6_61.toInt → x6_61.toInt ≤ 24 → Wt G (SC tt) ad A s H locs ws_62 → Fr (SC tt) [4, 5, 18, 19, 20, 21, 22, 23] ws_48 ws_62 → lv_has ls 7 [(6, .int x6_61), (5, .int x5_47), (4, .int r_4), (0, .ref (ad 83)), (1, .int a1), (2, .int a2), (3, .int a3)] → W p l e (rmd 7 0 0) s m args below meth c H locs 0 0 Q (F0 m 91 ls []) := by
                    intro n_66
                    induction n_66 with
                    | zero => intro x6_61 H locs ls ws_62 hn_67 b_68 b_69 h hF_63 hl; exact ((o18_363 b_68 b_69 hn_67)).elim
                    | succ n_66 ih_65 =>
                      intro x6_61 H locs ls ws_62 hn_67 b_68 b_69 h hF_63 hl
                      refine lv_iload C0.1 C0.2.1 dX8_cornersToFree_91 (lv_at hl 0 rfl) ?_
                      refine lv_iload C0.1 C0.2.1 dX8_cornersToFree_93 (lv_at hl 1 rfl) ?_
                      refine y_icmp_ge (tgt := 134) C0 dX8_cornersToFree_95 (by decide) (fun c_70 => ?_) (fun c_70 => ?_)
                      · -- 95
                        refine y_inc (kp := 1) (n := 1) (fun v_71 => [(5, .int v_71), (6, .int x6_61), (4, .int r_4), (0, .ref (ad 83)), (1, .int a1), (2, .int a2), (3, .int a3)]) C0 hl rfl (by decide) (by decide) (fun _ => rfl) (o18_364 e_5 e_6 b_42 b_43 hn_41 c_44 b_54 b_55 hn_53 c_56 b_68 b_69 hn_67 c_70 (le_min x5_47) (le_max x5_47) (le_min r_4) (le_max r_4) (le_min x5_35) (le_max x5_35) (le_min x6_61) (le_max x6_61)) (o18_365 e_5 e_6 b_42 b_43 hn_41 c_44 b_54 b_55 hn_53 c_56 b_68 b_69 hn_67 c_70 (le_min x5_47) (le_max x5_47) (le_min r_4) (le_max r_4) (le_min x5_35) (le_max x5_35) (le_min x6_61) (le_max x6_61)) dX8_cornersToFree_134 (fun v_71 ls e_72 hl => ?_)
                        refine lv_goto (tgt := 81) C0.1 C0.2.1 dX8_cornersToFree_137 (by decide) ?_
                        exact ih_51 v_71 _ _ _ _ (o18_366 e_5 e_6 b_42 b_43 hn_41 c_44 b_54 b_55 hn_53 c_56 b_68 b_69 hn_67 c_70 e_72) (o18_367 e_5 e_6 b_42 b_43 hn_41 c_44 b_54 b_55 hn_53 c_56 b_68 b_69 hn_67 c_70 e_72) (o18_368 e_5 e_6 b_42 b_43 hn_41 c_44 b_54 b_55 hn_53 c_56 b_68 b_69 hn_67 c_70 e_72) h (Fr.tr hF_49 hF_63) (lv_sub hl [0, 2, 3, 4, 5, 6] rfl)
                      · -- 95
                        refine lv_aload_n C0.1 C0.2.1 dX8_cornersToFree_98 rfl (lv_at hl 3 rfl) ?_
                        refine lv_iload_n C0.1 C0.2.1 dX8_cornersToFree_99 rfl (lv_at hl 4 rfl) ?_
                        refine lv_iload_n C0.1 C0.2.1 dX8_cornersToFree_100 rfl (lv_at hl 5 rfl) ?_
                        refine y_c1 (n := 0) C0 (by decide) dX8_cornersToFree_101 (fun v_73 e_74 => ?_)
                        refine lv_iload_n C0.1 C0.2.1 dX8_cornersToFree_102 rfl (lv_at hl 6 rfl) ?_
                        refine y_c1 (n := 1) C0 (by decide) dX8_cornersToFree_103 (fun v_75 e_76 => ?_)
                        refine lv_iload C0.1 C0.2.1 dX8_cornersToFree_104 (lv_at hl 0 rfl) ?_
                        refine y_ishlU C0 dX8_cornersToFree_106 (fun v_77 => ?_)
                        refine y_c1 (n := 1) C0 (by decide) dX8_cornersToFree_107 (fun v_78 e_79 => ?_)
                        refine lv_iload C0.1 C0.2.1 dX8_cornersToFree_108 (lv_at hl 1 rfl) ?_
                        refine y_ishlU C0 dX8_cornersToFree_110 (fun v_80 => ?_)
                        refine y_iorU C0 dX8_cornersToFree_111 (fun v_81 => ?_)
                        refine y_ci h (y_rV (As := [.int a1, .int a2, .int v_73, .int a3, .int v_81]) (rest := []) C0 hZ h (c_X8_fewestStreets l G Z ad _ h.2 a1 a2 v_73 a3 v_81 (o18_250 l1 u1) (o18_251 l1 u1) (o18_1 e_74) (o18_84 e_74) (o18_360 l3 u3) (o18_361 l3 u3)) k_X8_fewestStreets q_1075 q_1076 q_1325 kSC_83 rfl rfl rfl hl.1 rfl rfl (Nat.le_of_ble_eq_true rfl) dX8_cornersToFree_112 ⟨Nat.le_of_ble_eq_true rfl, Nat.le_of_ble_eq_true rfl⟩ ⟨Nat.le_of_ble_eq_true rfl, Nat.le_of_ble_eq_true rfl⟩) (fun r_85 H locs ws_82 h u_83 p_84 => ?_)
                        obtain ⟨e_86, e_87⟩ := p_84
                        refine y_if_lt (tgt := 128) C0 dX8_cornersToFree_115 (by decide) (fun c_88 => ?_) (fun c_88 => ?_)
                        · -- 115
                          refine y_inc (kp := 0) (n := 1) (fun v_89 => [(6, .int v_89), (5, .int x5_47), (4, .int r_4), (0, .ref (ad 83)), (1, .int a1), (2, .int a2), (3, .int a3)]) C0 hl rfl (by decide) (by decide) (fun _ => rfl) (o18_369 e_5 e_6 b_42 b_43 hn_41 c_44 b_54 b_55 hn_53 c_56 b_68 b_69 hn_67 c_70 (le_min x6_61) (le_max x6_61) (le_min r_4) (le_max r_4) (le_min x5_35) (le_max x5_35) (le_min x5_47) (le_max x5_47)) (o18_370 e_5 e_6 b_42 b_43 hn_41 c_44 b_54 b_55 hn_53 c_56 b_68 b_69 hn_67 c_70 (le_min x6_61) (le_max x6_61) (le_min r_4) (le_max r_4) (le_min x5_35) (le_max x5_35) (le_min x5_47) (le_max x5_47)) dX8_cornersToFree_128 (fun v_89 ls e_90 hl => ?_)
                          refine lv_goto (tgt := 91) C0.1 C0.2.1 dX8_cornersToFree_131 (by decide) ?_
                          exact ih_65 v_89 _ _ _ _ (o18_371 e_5 e_6 b_42 b_43 hn_41 c_44 b_54 b_55 hn_53 c_56 b_68 b_69 hn_67 c_70 e_90) (o18_372 e_5 e_6 b_42 b_43 hn_41 c_44 b_54 b_55 hn_53 c_56 b_68 b_69 hn_67 c_70 e_90) (o18_373 e_5 e_6 b_42 b_43 hn_41 c_44 b_54 b_55 hn_53 c_56 b_68 b_69 hn_67 c_70 e_90) h (Fr.tr hF_63 u_83) (lv_sub hl [0, 1, 2, 3, 4, 5, 6] rfl)
                        · -- 115
                          refine y_c1 (n := 1) C0 (by decide) dX8_cornersToFree_118 (fun v_91 e_92 => ?_)
                          refine lv_iload C0.1 C0.2.1 dX8_cornersToFree_119 (lv_at hl 0 rfl) ?_
                          refine y_ishlU C0 dX8_cornersToFree_121 (fun v_93 => ?_)
                          refine y_c1 (n := 1) C0 (by decide) dX8_cornersToFree_122 (fun v_94 e_95 => ?_)
                          refine lv_iload C0.1 C0.2.1 dX8_cornersToFree_123 (lv_at hl 1 rfl) ?_
                          refine y_ishlU C0 dX8_cornersToFree_125 (fun v_96 => ?_)
                          refine y_iorU C0 dX8_cornersToFree_126 (fun v_97 => ?_)
                          rw [hQ]
                          exact y_iret C0 h (Fr.tr (Fr.tr (Fr.tr (Fr.tr (Fr.tr (Fr.tr (Fr.mono u_2 (by decide)) u_12) u_27) hF_37) hF_49) hF_63) u_83) trivial dX8_cornersToFree_127
                  exact lp_64 ((24 - v_59.toInt + 1).toNat) v_59 _ _ _ _ (o18_374 e_60) (o18_1 e_60) (o18_375 e_60) h Fr.rf (lv_sub hl [0, 1, 2, 3, 4, 5, 6] rfl)
            exact lp_50 ((25 - v_45.toInt + 1).toNat) v_45 _ _ _ _ (o18_376 e_46) (o18_358 e_46) (o18_377 e_46) h Fr.rf (lv_sub hl [0, 1, 2, 3, 4, 5] rfl)
          · -- 49
            refine lv_aload_n C0.1 C0.2.1 dX8_cornersToFree_52 rfl (lv_at hl 2 rfl) ?_
            refine lv_iload_n C0.1 C0.2.1 dX8_cornersToFree_53 rfl (lv_at hl 3 rfl) ?_
            refine lv_iload_n C0.1 C0.2.1 dX8_cornersToFree_54 rfl (lv_at hl 4 rfl) ?_
            refine y_c1 (n := 0) C0 (by decide) dX8_cornersToFree_55 (fun v_98 e_99 => ?_)
            refine lv_iload_n C0.1 C0.2.1 dX8_cornersToFree_56 rfl (lv_at hl 5 rfl) ?_
            refine y_c1 (n := 1) C0 (by decide) dX8_cornersToFree_57 (fun v_100 e_101 => ?_)
            refine lv_iload C0.1 C0.2.1 dX8_cornersToFree_58 (lv_at hl 0 rfl) ?_
            refine y_ishlU C0 dX8_cornersToFree_60 (fun v_102 => ?_)
            refine y_ci h (y_rV (As := [.int a1, .int a2, .int v_98, .int a3, .int v_102]) (rest := []) C0 hZ h (c_X8_fewestStreets l G Z ad _ h.2 a1 a2 v_98 a3 v_102 (o18_250 l1 u1) (o18_251 l1 u1) (o18_1 e_99) (o18_84 e_99) (o18_360 l3 u3) (o18_361 l3 u3)) k_X8_fewestStreets q_1075 q_1076 q_1325 kSC_83 rfl rfl rfl hl.1 rfl rfl (Nat.le_of_ble_eq_true rfl) dX8_cornersToFree_61 ⟨Nat.le_of_ble_eq_true rfl, Nat.le_of_ble_eq_true rfl⟩ ⟨Nat.le_of_ble_eq_true rfl, Nat.le_of_ble_eq_true rfl⟩) (fun r_106 H locs ws_103 h u_104 p_105 => ?_)
            obtain ⟨e_107, e_108⟩ := p_105
            refine y_if_lt (tgt := 72) C0 dX8_cornersToFree_64 (by decide) (fun c_109 => ?_) (fun c_109 => ?_)
            · -- 64
              refine y_inc (kp := 0) (n := 1) (fun v_110 => [(5, .int v_110), (4, .int r_4), (0, .ref (ad 83)), (1, .int a1), (2, .int a2), (3, .int a3)]) C0 hl rfl (by decide) (by decide) (fun _ => rfl) (o18_378 e_5 e_6 b_42 b_43 hn_41 c_44 (le_min x5_35) (le_max x5_35) (le_min r_4) (le_max r_4)) (o18_379 e_5 e_6 b_42 b_43 hn_41 c_44 (le_min x5_35) (le_max x5_35) (le_min r_4) (le_max r_4)) dX8_cornersToFree_72 (fun v_110 ls e_111 hl => ?_)
              refine lv_goto (tgt := 45) C0.1 C0.2.1 dX8_cornersToFree_75 (by decide) ?_
              exact ih_39 v_110 _ _ _ _ (o18_380 e_5 e_6 b_42 b_43 hn_41 c_44 e_111) (o18_381 e_5 e_6 b_42 b_43 hn_41 c_44 e_111) (o18_382 e_5 e_6 b_42 b_43 hn_41 c_44 e_111) h (Fr.tr hF_37 u_104) (lv_sub hl [0, 1, 2, 3, 4, 5] rfl)
            · -- 64
              refine y_c1 (n := 1) C0 (by decide) dX8_cornersToFree_67 (fun v_112 e_113 => ?_)
              refine lv_iload C0.1 C0.2.1 dX8_cornersToFree_68 (lv_at hl 0 rfl) ?_
              refine y_ishlU C0 dX8_cornersToFree_70 (fun v_114 => ?_)
              rw [hQ]
              exact y_iret C0 h (Fr.tr (Fr.tr (Fr.tr (Fr.tr (Fr.mono u_2 (by decide)) u_12) u_27) hF_37) u_104) trivial dX8_cornersToFree_71
      exact lp_38 ((25 - v_33.toInt + 1).toNat) v_33 _ _ _ _ (o18_63 e_34) (o18_1 e_34) (o18_64 e_34) h Fr.rf (lv_sub hl [0, 1, 2, 3, 4, 5] rfl)
    · -- 37
      refine y_c1 (n := (-1)) C0 (by decide) dX8_cornersToFree_40 (fun v_115 e_116 => ?_)
      rw [hQ]
      exact y_iret C0 h (Fr.tr (Fr.tr (Fr.mono u_2 (by decide)) u_12) u_27) trivial dX8_cornersToFree_41
  · -- 18
    refine y_c1 (n := 0) C0 (by decide) dX8_cornersToFree_21 (fun v_117 e_118 => ?_)
    rw [hQ]
    exact y_iret C0 h (Fr.tr (Fr.mono u_2 (by decide)) u_12) trivial dX8_cornersToFree_22
set_option maxHeartbeats 4000000 in
set_option maxRecDepth 100000 in
theorem c_X8_goLeaving (l : Launch) (G : GG) (Z : RZ) (ad : Nat → Nat) (ws0 : va_W) (hT : Ty G (SC tt) ad ws0) (a1 : Int32) (a2 : Int32) (a3 : Int32) (i4 : Nat) (hi4 : Kd (SC tt) i4 42) (l1 : 0 ≤ a1.toInt) (u1 : a1.toInt ≤ 239) (l2 : 0 ≤ a2.toInt) (u2 : a2.toInt ≤ 10) : Mq l yX8_goLeaving cX8_goLeaving 7 none 5 G Z [.ref (ad 83), .int a1, .int a2, .int a3, .ref (ad i4)] ws0 (PV G (SC tt) ad [4, 5, 18, 19, 20, 21, 23] ws0 (fun u => True)) := by
  refine Mq.start (by decide) (Nat.le_of_ble_eq_true rfl) ?_
  intro p e s m below meth c A ls C0 hZ h hl
  have hl : lv_has ls 7 [(0, .ref (ad 83)), (1, .int a1), (2, .int a2), (3, .int a3), (4, .ref (ad i4))] := hl
  have h : Wt G (SC tt) ad A s s.heap [] ws0 := ⟨h, hT⟩
  obtain ⟨args, hargs⟩ : ∃ z, z = ([.ref (ad 83), .int a1, .int a2, .int a3, .ref (ad i4)] : List Value).toArray := ⟨_, rfl⟩
  rw [← hargs] at C0 ⊢
  have C0 : Cx p s m args meth c RX8 cX8_goLeaving 7 none := C0
  obtain ⟨Q, hQ⟩ : ∃ z, z = MQ below ((PV G (SC tt) ad [4, 5, 18, 19, 20, 21, 23] ws0 (fun u => True)) A) args s 0 0 A := ⟨_, rfl⟩
  rw [← hQ]
  refine lv_aload C0.1 C0.2.1 dX8_goLeaving_0 (lv_at hl 4 rfl) ?_
  refine lv_iload_n C0.1 C0.2.1 dX8_goLeaving_2 rfl (lv_at hl 2 rfl) ?_
  refine y_ci h (y_rV (As := [.int a2]) (rest := []) C0 hZ h (c_X10_asSmall l G Z ad _ h.2 i4 hi4 a2) k_X10_asSmall q_1005 q_1006 q_1354 hi4 rfl rfl rfl hl.1 rfl rfl (Nat.le_of_ble_eq_true rfl) dX8_goLeaving_3 ⟨Nat.le_of_ble_eq_true rfl, Nat.le_of_ble_eq_true rfl⟩ ⟨Nat.le_of_ble_eq_true rfl, Nat.le_of_ble_eq_true rfl⟩) (fun r_4 H locs ws_1 h u_2 p_3 => ?_)
  have e_5 := p_3
  refine lv_istore (lv' := [(5, .int r_4), (0, .ref (ad 83)), (1, .int a1), (2, .int a2), (3, .int a3), (4, .ref (ad i4))]) C0.1 C0.2.1 dX8_goLeaving_6 hl (by decide) rfl (fun ls hl => ?_)
  refine lv_iload C0.1 C0.2.1 dX8_goLeaving_8 (lv_at hl 0 rfl) ?_
  refine y_if_ge (tgt := 14) C0 dX8_goLeaving_10 (by decide) (fun c_6 => ?_) (fun c_6 => ?_)
  · -- 10
    refine y_c1 (n := 1) C0 (by decide) dX8_goLeaving_14 (fun v_7 e_8 => ?_)
    refine lv_iload C0.1 C0.2.1 dX8_goLeaving_15 (lv_at hl 0 rfl) ?_
    refine y_ishlU C0 dX8_goLeaving_17 (fun v_9 => ?_)
    refine lv_iload_n C0.1 C0.2.1 dX8_goLeaving_18 rfl (lv_at hl 4 rfl) ?_
    refine y_c1 (n := (-1)) C0 (by decide) dX8_goLeaving_19 (fun v_10 e_11 => ?_)
    refine y_ixorU C0 dX8_goLeaving_20 (fun v_12 => ?_)
    refine y_iandU C0 dX8_goLeaving_21 (fun v_13 => ?_)
    refine lv_istore (lv' := [(6, .int v_13), (5, .int r_4), (0, .ref (ad 83)), (1, .int a1), (2, .int a2), (3, .int a3), (4, .ref (ad i4))]) C0.1 C0.2.1 dX8_goLeaving_22 hl (by decide) rfl (fun ls hl => ?_)
    refine lv_aload_n C0.1 C0.2.1 dX8_goLeaving_24 rfl (lv_at hl 2 rfl) ?_
    refine lv_iload_n C0.1 C0.2.1 dX8_goLeaving_25 rfl (lv_at hl 3 rfl) ?_
    refine y_c1 (n := 2) C0 (by decide) dX8_goLeaving_26 (fun v_14 e_15 => ?_)
    refine y_c1 (n := 4) C0 (by decide) dX8_goLeaving_27 (fun v_16 e_17 => ?_)
    refine lv_iload_n C0.1 C0.2.1 dX8_goLeaving_28 rfl (lv_at hl 4 rfl) ?_
    refine y_cmul (n := 4) C0 (o18_12 e_17) (o18_383 l2 u2 (le_min a2) (le_max a2)) (o18_384 l2 u2 (le_min a2) (le_max a2)) dX8_goLeaving_29 (fun v_18 e_19 => ?_)
    refine lv_iload C0.1 C0.2.1 dX8_goLeaving_30 (lv_at hl 0 rfl) ?_
    refine y_c1 (n := 4) C0 (by decide) dX8_goLeaving_32 (fun v_20 e_21 => ?_)
    refine lv_iload_n C0.1 C0.2.1 dX8_goLeaving_33 rfl (lv_at hl 4 rfl) ?_
    refine y_cmul (n := 4) C0 (o18_12 e_21) (o18_385 l2 u2 e_19 (le_min a2) (le_max a2) (le_min v_18) (le_max v_18)) (o18_386 l2 u2 e_19 (le_min a2) (le_max a2) (le_min v_18) (le_max v_18)) dX8_goLeaving_34 (fun v_22 e_23 => ?_)
    refine y_c1 (n := 4) C0 (by decide) dX8_goLeaving_35 (fun v_24 e_25 => ?_)
    refine y_add C0 (o18_387 l2 u2 e_19 e_23 e_25 (le_min v_22) (le_max v_22) (le_min v_24) (le_max v_24) (le_min a2) (le_max a2) (le_min v_18) (le_max v_18)) (o18_388 l2 u2 e_19 e_23 e_25 (le_min v_22) (le_max v_22) (le_min v_24) (le_max v_24) (le_min a2) (le_max a2) (le_min v_18) (le_max v_18)) dX8_goLeaving_36 (fun v_26 e_27 => ?_)
    refine y_cv h (y_rV (As := [.int a1, .int v_14, .int v_18, .int v_13, .int v_26]) (rest := []) C0 hZ h (c_X8_goByLeft l G Z ad _ h.2 a1 v_14 v_18 v_13 v_26 (o18_35 l1 u1) (o18_36 l1 u1) (o18_239 e_15) (o18_389 e_15) (o18_390 l2 u2 e_19 e_23 e_25 e_27) (o18_391 l2 u2 e_19 e_23 e_25 e_27) (o18_392 l2 u2 e_19 e_23 e_25 e_27) (o18_393 l2 u2 e_19 e_23 e_25 e_27)) k_X8_goByLeft q_1113 q_37 q_1111 kSC_83 rfl rfl rfl hl.1 rfl rfl (Nat.le_of_ble_eq_true rfl) dX8_goLeaving_37 ⟨Nat.le_of_ble_eq_true rfl, Nat.le_of_ble_eq_true rfl⟩ ⟨Nat.le_of_ble_eq_true rfl, Nat.le_of_ble_eq_true rfl⟩) (fun H locs ws_28 h u_29 p_30 => ?_)
    refine lv_aload C0.1 C0.2.1 dX8_goLeaving_40 (lv_at hl 6 rfl) ?_
    refine lv_iload_n C0.1 C0.2.1 dX8_goLeaving_42 rfl (lv_at hl 4 rfl) ?_
    refine y_c1 (n := 1) C0 (by decide) dX8_goLeaving_43 (fun v_31 e_32 => ?_)
    refine y_add C0 (o18_394 l2 u2 e_19 e_23 e_25 e_27 e_32 (le_min a2) (le_max a2) (le_min v_31) (le_max v_31) (le_min v_18) (le_max v_18) (le_min v_22) (le_max v_22) (le_min v_24) (le_max v_24) (le_min v_26) (le_max v_26)) (o18_395 l2 u2 e_19 e_23 e_25 e_27 e_32 (le_min a2) (le_max a2) (le_min v_31) (le_max v_31) (le_min v_18) (le_max v_18) (le_min v_22) (le_max v_22) (le_min v_24) (le_max v_24) (le_min v_26) (le_max v_26)) dX8_goLeaving_44 (fun v_33 e_34 => ?_)
    refine y_ci h (y_rV (As := [.int v_33]) (rest := []) C0 hZ h (c_X10_asSmall l G Z ad _ h.2 i4 hi4 v_33) k_X10_asSmall q_1005 q_1006 q_1354 hi4 rfl rfl rfl hl.1 rfl rfl (Nat.le_of_ble_eq_true rfl) dX8_goLeaving_45 ⟨Nat.le_of_ble_eq_true rfl, Nat.le_of_ble_eq_true rfl⟩ ⟨Nat.le_of_ble_eq_true rfl, Nat.le_of_ble_eq_true rfl⟩) (fun r_38 H locs ws_35 h u_36 p_37 => ?_)
    have e_39 := p_37
    refine lv_iload C0.1 C0.2.1 dX8_goLeaving_48 (lv_at hl 1 rfl) ?_
    refine y_icmp_ne (tgt := 70) C0 dX8_goLeaving_50 (by decide) (fun c_40 => ?_) (fun c_40 => ?_)
    · -- 50
      rw [hQ]
      exact y_vret C0 h (Fr.tr (Fr.tr (Fr.mono u_2 (by decide)) u_29) (Fr.mono u_36 (by decide))) trivial dX8_goLeaving_70
    · -- 50
      refine lv_aload_n C0.1 C0.2.1 dX8_goLeaving_53 rfl (lv_at hl 2 rfl) ?_
      refine lv_iload_n C0.1 C0.2.1 dX8_goLeaving_54 rfl (lv_at hl 3 rfl) ?_
      refine y_c1 (n := 3) C0 (by decide) dX8_goLeaving_55 (fun v_41 e_42 => ?_)
      refine y_c1 (n := 4) C0 (by decide) dX8_goLeaving_56 (fun v_43 e_44 => ?_)
      refine lv_iload_n C0.1 C0.2.1 dX8_goLeaving_57 rfl (lv_at hl 4 rfl) ?_
      refine y_cmul (n := 4) C0 (o18_12 e_44) (o18_396 l2 u2 e_19 e_23 e_25 e_27 e_32 e_34 (le_min a2) (le_max a2) (le_min v_18) (le_max v_18) (le_min v_22) (le_max v_22) (le_min v_24) (le_max v_24) (le_min v_26) (le_max v_26) (le_min v_31) (le_max v_31) (le_min v_33) (le_max v_33)) (o18_397 l2 u2 e_19 e_23 e_25 e_27 e_32 e_34 (le_min a2) (le_max a2) (le_min v_18) (le_max v_18) (le_min v_22) (le_max v_22) (le_min v_24) (le_max v_24) (le_min v_26) (le_max v_26) (le_min v_31) (le_max v_31) (le_min v_33) (le_max v_33)) dX8_goLeaving_58 (fun v_45 e_46 => ?_)
      refine lv_iload C0.1 C0.2.1 dX8_goLeaving_59 (lv_at hl 0 rfl) ?_
      refine y_c1 (n := 4) C0 (by decide) dX8_goLeaving_61 (fun v_47 e_48 => ?_)
      refine lv_iload_n C0.1 C0.2.1 dX8_goLeaving_62 rfl (lv_at hl 4 rfl) ?_
      refine y_cmul (n := 4) C0 (o18_12 e_48) (o18_398 l2 u2 e_19 e_23 e_25 e_27 e_32 e_34 e_46 (le_min a2) (le_max a2) (le_min v_18) (le_max v_18) (le_min v_22) (le_max v_22) (le_min v_24) (le_max v_24) (le_min v_26) (le_max v_26) (le_min v_31) (le_max v_31) (le_min v_33) (le_max v_33) (le_min v_45) (le_max v_45)) (o18_399 l2 u2 e_19 e_23 e_25 e_27 e_32 e_34 e_46 (le_min a2) (le_max a2) (le_min v_18) (le_max v_18) (le_min v_22) (le_max v_22) (le_min v_24) (le_max v_24) (le_min v_26) (le_max v_26) (le_min v_31) (le_max v_31) (le_min v_33) (le_max v_33) (le_min v_45) (le_max v_45)) dX8_goLeaving_63 (fun v_49 e_50 => ?_)
      refine y_c2 (n := 8) C0 (by decide) dX8_goLeaving_64 (fun v_51 e_52 => ?_)
      refine y_add C0 (o18_400 l2 u2 e_19 e_23 e_25 e_27 e_32 e_34 e_46 e_50 e_52 (le_min v_49) (le_max v_49) (le_min v_51) (le_max v_51) (le_min a2) (le_max a2) (le_min v_18) (le_max v_18) (le_min v_22) (le_max v_22) (le_min v_24) (le_max v_24) (le_min v_26) (le_max v_26) (le_min v_31) (le_max v_31) (le_min v_33) (le_max v_33) (le_min v_45) (le_max v_45)) (o18_401 l2 u2 e_19 e_23 e_25 e_27 e_32 e_34 e_46 e_50 e_52 (le_min v_49) (le_max v_49) (le_min v_51) (le_max v_51) (le_min a2) (le_max a2) (le_min v_18) (le_max v_18) (le_min v_22) (le_max v_22) (le_min v_24) (le_max v_24) (le_min v_26) (le_max v_26) (le_min v_31) (le_max v_31) (le_min v_33) (le_max v_33) (le_min v_45) (le_max v_45)) dX8_goLeaving_66 (fun v_53 e_54 => ?_)
      refine y_cv h (y_rV (As := [.int a1, .int v_41, .int v_45, .int v_13, .int v_53]) (rest := []) C0 hZ h (c_X8_goByLeft l G Z ad _ h.2 a1 v_41 v_45 v_13 v_53 (o18_35 l1 u1) (o18_36 l1 u1) (o18_402 e_42) (o18_403 e_42) (o18_404 l2 u2 e_19 e_23 e_25 e_27 e_32 e_34 e_46 e_50 e_52 e_54) (o18_405 l2 u2 e_19 e_23 e_25 e_27 e_32 e_34 e_46 e_50 e_52 e_54) (o18_406 l2 u2 e_19 e_23 e_25 e_27 e_32 e_34 e_46 e_50 e_52 e_54) (o18_407 l2 u2 e_19 e_23 e_25 e_27 e_32 e_34 e_46 e_50 e_52 e_54)) k_X8_goByLeft q_1113 q_37 q_1111 kSC_83 rfl rfl rfl hl.1 rfl rfl (Nat.le_of_ble_eq_true rfl) dX8_goLeaving_67 ⟨Nat.le_of_ble_eq_true rfl, Nat.le_of_ble_eq_true rfl⟩ ⟨Nat.le_of_ble_eq_true rfl, Nat.le_of_ble_eq_true rfl⟩) (fun H locs ws_55 h u_56 p_57 => ?_)
      rw [hQ]
      exact y_vret C0 h (Fr.tr (Fr.tr (Fr.tr (Fr.mono u_2 (by decide)) u_29) (Fr.mono u_36 (by decide))) u_56) trivial dX8_goLeaving_70
  · -- 10
    rw [hQ]
    exact y_vret C0 h (Fr.mono u_2 (by decide)) trivial dX8_goLeaving_13
set_option maxHeartbeats 4000000 in
set_option maxRecDepth 100000 in
theorem c_X8_whereByEnvelopes (l : Launch) (G : GG) (Z : RZ) (ad : Nat → Nat) (ws0 : va_W) (hT : Ty G (SC tt) ad ws0) (a1 : Int32) (i2 : Nat) (hi2 : Kd (SC tt) i2 42) (a3 : Int32) (l1 : 0 ≤ a1.toInt) (u1 : a1.toInt ≤ 99) (l3 : 0 ≤ a3.toInt) (u3 : a3.toInt ≤ 30) (fl0 : 0 ≤ (fI ws0 i2 2).toInt) (fh0 : (fI ws0 i2 2).toInt ≤ 10) : Mq l yX8_whereByEnvelopes cX8_whereByEnvelopes 8 (some .int) 6 G Z [.ref (ad 83), .int a1, .ref (ad i2), .int a3] ws0 (PI G (SC tt) ad [4, 5, 18, 19, 20, 21, 22, 23] ws0 (fun r u => True)) := by
  refine Mq.start (by decide) (Nat.le_of_ble_eq_true rfl) ?_
  intro p e s m below meth c A ls C0 hZ h hl
  have hl : lv_has ls 8 [(0, .ref (ad 83)), (1, .int a1), (2, .ref (ad i2)), (3, .int a3)] := hl
  have h : Wt G (SC tt) ad A s s.heap [] ws0 := ⟨h, hT⟩
  obtain ⟨args, hargs⟩ : ∃ z, z = ([.ref (ad 83), .int a1, .ref (ad i2), .int a3] : List Value).toArray := ⟨_, rfl⟩
  rw [← hargs] at C0 ⊢
  have C0 : Cx p s m args meth c RX8 cX8_whereByEnvelopes 8 (some .int) := C0
  obtain ⟨Q, hQ⟩ : ∃ z, z = MQ below ((PI G (SC tt) ad [4, 5, 18, 19, 20, 21, 22, 23] ws0 (fun r u => True)) A) args s 0 0 A := ⟨_, rfl⟩
  rw [← hQ]
  obtain ⟨fp0, ef0⟩ : ∃ v, fI ws0 i2 2 = v := ⟨_, rfl⟩
  rw [ef0] at fl0 fh0
  refine lv_aload_n C0.1 C0.2.1 dX8_whereByEnvelopes_0 rfl (lv_at hl 2 rfl) ?_
  refine tg_X10_size C0 h hi2 q_503 dX8_whereByEnvelopes_1 (fun v_1 e_2 e_3 e_4 => ?_)
  have q_5 : v_1.toInt = fp0.toInt := congrArg Int32.toInt (e_2.symm.trans (Eq.trans rfl ef0))
  refine lv_istore (lv' := [(4, .int v_1), (0, .ref (ad 83)), (1, .int a1), (2, .ref (ad i2)), (3, .int a3)]) C0.1 C0.2.1 dX8_whereByEnvelopes_4 hl (by decide) rfl (fun ls hl => ?_)
  refine lv_aload_n C0.1 C0.2.1 dX8_whereByEnvelopes_6 rfl (lv_at hl 1 rfl) ?_
  refine lv_iload_n C0.1 C0.2.1 dX8_whereByEnvelopes_7 rfl (lv_at hl 2 rfl) ?_
  refine y_cv h (y_rV (As := [.int a1]) (rest := []) C0 hZ h (c_X8_begin l G Z ad _ h.2 a1 (o18_250 l1 u1) (o18_251 l1 u1)) k_X8_begin q_1080 q_31 q_1078 kSC_83 rfl rfl rfl hl.1 rfl rfl (Nat.le_of_ble_eq_true rfl) dX8_whereByEnvelopes_8 ⟨Nat.le_of_ble_eq_true rfl, Nat.le_of_ble_eq_true rfl⟩ ⟨Nat.le_of_ble_eq_true rfl, Nat.le_of_ble_eq_true rfl⟩) (fun H locs ws_6 h u_7 p_8 => ?_)
  have e_9 := p_8
  obtain ⟨f_10, e_11⟩ : ∃ v, fI ws_6 83 4 = v := ⟨_, rfl⟩
  rw [e_11] at e_9
  refine y_c1 (n := 0) C0 (by decide) dX8_whereByEnvelopes_11 (fun v_12 e_13 => ?_)
  refine lv_istore (lv' := [(5, .int v_12), (4, .int v_1), (0, .ref (ad 83)), (1, .int a1), (2, .ref (ad i2)), (3, .int a3)]) C0.1 C0.2.1 dX8_whereByEnvelopes_12 hl (by decide) rfl (fun ls hl => ?_)
  have lp_17 : ∀ (n_19 : Nat) (x5_14 : Int32) (f_23 : Int32) (H : Heap) (locs : List Loc) (ls : Array Slot) (ws_15 : va_W), 30 - x5_14.toInt < (n_19 : Int) → 0 ≤ x5_14.toInt → x5_14.toInt ≤ 30 → 0 ≤ f_23.toInt → f_23.toInt ≤ 10 → fI ws_15 83 4 = f_23 → Wt G (SC tt) ad A s H locs ws_15 → Fr (SC tt) [4, 5, 18, 19, 20, 21, 22, 23] ws_6 ws_15 → lv_has ls 8 [(5, .int x5_14), (4, .int v_1), (0, .ref (ad 83)), (1, .int a1), (2, .ref (ad i2)), (3, .int a3)] → W p l e (rmd 6 0 0) s m args below meth c H locs 0 0 Q (F0 m 14 ls []) := by
    intro n_19
    induction n_19 with
    | zero => intro x5_14 f_23 H locs ls ws_15 hn_20 b_21 b_22 b_25 b_26 e_24 h hF_16 hl; exact ((o18_408 b_21 b_22 hn_20)).elim
    | succ n_19 ih_18 =>
      intro x5_14 f_23 H locs ls ws_15 hn_20 b_21 b_22 b_25 b_26 e_24 h hF_16 hl
      refine lv_iload C0.1 C0.2.1 dX8_whereByEnvelopes_14 (lv_at hl 0 rfl) ?_
      refine lv_iload_n C0.1 C0.2.1 dX8_whereByEnvelopes_16 rfl (lv_at hl 5 rfl) ?_
      refine y_icmp_ge (tgt := 123) C0 dX8_whereByEnvelopes_17 (by decide) (fun c_27 => ?_) (fun c_27 => ?_)
      · -- 17
        refine lv_aload_n C0.1 C0.2.1 dX8_whereByEnvelopes_123 rfl (lv_at hl 2 rfl) ?_
        refine tg_X8_top C0 h kSC_83 q_318 dX8_whereByEnvelopes_124 (fun v_28 e_29 e_30 e_31 => ?_)
        have q_32 : v_28.toInt = f_23.toInt := congrArg Int32.toInt (e_29.symm.trans (Eq.trans rfl e_24))
        refine lv_iload C0.1 C0.2.1 dX8_whereByEnvelopes_127 (lv_at hl 1 rfl) ?_
        refine y_icmp_ne (tgt := 141) C0 dX8_whereByEnvelopes_129 (by decide) (fun c_33 => ?_) (fun c_33 => ?_)
        · -- 129
          refine y_c1 (n := 0) C0 (by decide) dX8_whereByEnvelopes_141 (fun v_34 e_35 => ?_)
          rw [hQ]
          exact y_iret C0 h (Fr.tr (Fr.mono u_7 (by decide)) hF_16) trivial dX8_whereByEnvelopes_142
        · -- 129
          refine lv_aload_n C0.1 C0.2.1 dX8_whereByEnvelopes_132 rfl (lv_at hl 2 rfl) ?_
          refine lv_iload C0.1 C0.2.1 dX8_whereByEnvelopes_133 (lv_at hl 1 rfl) ?_
          refine y_ci h (y_rV (As := [.int v_1]) (rest := []) C0 hZ h (c_X8_anyHeading l G Z ad _ h.2 v_1 (o18_409 fl0 fh0 e_3 e_4 q_5 b_25 b_26 e_30 e_31 q_32 c_33) (o18_410 fl0 fh0 e_3 e_4 q_5 b_25 b_26 e_30 e_31 q_32 c_33)) k_X8_anyHeading q_1088 q_33 q_1086 kSC_83 rfl rfl rfl hl.1 rfl rfl (Nat.le_of_ble_eq_true rfl) dX8_whereByEnvelopes_135 ⟨Nat.le_of_ble_eq_true rfl, Nat.le_of_ble_eq_true rfl⟩ ⟨Nat.le_of_ble_eq_true rfl, Nat.le_of_ble_eq_true rfl⟩) (fun r_39 H locs ws_36 h u_37 p_38 => ?_)
          refine lv_goto (tgt := 142) C0.1 C0.2.1 dX8_whereByEnvelopes_138 (by decide) ?_
          rw [hQ]
          exact y_iret C0 h (Fr.tr (Fr.tr (Fr.mono u_7 (by decide)) hF_16) (Fr.mono u_37 (by decide))) trivial dX8_whereByEnvelopes_142
      · -- 17
        refine lv_aload_n C0.1 C0.2.1 dX8_whereByEnvelopes_20 rfl (lv_at hl 2 rfl) ?_
        refine tg_X8_forecast C0 h kSC_83 q_315 dX8_whereByEnvelopes_21 ?_
        refine lv_iload C0.1 C0.2.1 dX8_whereByEnvelopes_24 (lv_at hl 0 rfl) ?_
        refine y_ci h (y_rV (As := [.int x5_14]) (rest := []) C0 hZ h (c_X2_freeAt l G Z ad _ h.2 x5_14 (o18_411 l3 u3 b_21 b_22 hn_20 c_27) (o18_412 l3 u3 b_21 b_22 hn_20 c_27)) k_X2_freeAt q_1095 q_1096 q_1094 kSC_79 rfl rfl rfl hl.1 rfl rfl (Nat.le_of_ble_eq_true rfl) dX8_whereByEnvelopes_26 ⟨Nat.le_of_ble_eq_true rfl, Nat.le_of_ble_eq_true rfl⟩ ⟨Nat.le_of_ble_eq_true rfl, Nat.le_of_ble_eq_true rfl⟩) (fun r_43 H locs ws_40 h u_41 p_42 => ?_)
        refine lv_istore (lv' := [(6, .int r_43), (5, .int x5_14), (4, .int v_1), (0, .ref (ad 83)), (1, .int a1), (2, .ref (ad i2)), (3, .int a3)]) C0.1 C0.2.1 dX8_whereByEnvelopes_29 hl (by decide) rfl (fun ls hl => ?_)
        refine y_c1 (n := 0) C0 (by decide) dX8_whereByEnvelopes_31 (fun v_44 e_45 => ?_)
        refine lv_istore (lv' := [(7, .int v_44), (6, .int r_43), (5, .int x5_14), (4, .int v_1), (0, .ref (ad 83)), (1, .int a1), (2, .ref (ad i2)), (3, .int a3)]) C0.1 C0.2.1 dX8_whereByEnvelopes_32 hl (by decide) rfl (fun ls hl => ?_)
        have lp_49 : ∀ (n_51 : Nat) (x7_46 : Int32) (H : Heap) (locs : List Loc) (ls : Array Slot) (ws_47 : va_W), 11 - x7_46.toInt < (n_51 : Int) → 0 ≤ x7_46.toInt → x7_46.toInt ≤ 11 → Wt G (SC tt) ad A s H locs ws_47 → Fr (SC tt) [4, 5, 18, 19, 20, 21, 23] ws_40 ws_47 → lv_has ls 8 [(7, .int x7_46), (6, .int r_43), (5, .int x5_14), (4, .int v_1), (0, .ref (ad 83)), (1, .int a1), (2, .ref (ad i2)), (3, .int a3)] → W p l e (rmd 6 0 0) s m args below meth c H locs 0 0 Q (F0 m 34 ls []) := by
          intro n_51
          induction n_51 with
          | zero => intro x7_46 H locs ls ws_47 hn_52 b_53 b_54 h hF_48 hl; exact ((o18_413 b_53 b_54 hn_52)).elim
          | succ n_51 ih_50 =>
            intro x7_46 H locs ls ws_47 hn_52 b_53 b_54 h hF_48 hl
            refine lv_iload C0.1 C0.2.1 dX8_whereByEnvelopes_34 (lv_at hl 0 rfl) ?_
            refine lv_aload_n C0.1 C0.2.1 dX8_whereByEnvelopes_36 rfl (lv_at hl 4 rfl) ?_
            refine tg_X8_top C0 h kSC_83 q_318 dX8_whereByEnvelopes_37 (fun v_55 e_56 e_57 e_58 => ?_)
            have q_59 : v_55.toInt = f_23.toInt := congrArg Int32.toInt (e_56.symm.trans (Eq.trans (Eq.trans (Fr.fI hF_48 kSC_83 (by decide)) (Fr.fI u_41 kSC_83 (by decide))) e_24))
            refine y_icmp_gt (tgt := 102) C0 dX8_whereByEnvelopes_40 (by decide) (fun c_60 => ?_) (fun c_60 => ?_)
            · -- 40
              refine lv_aload_n C0.1 C0.2.1 dX8_whereByEnvelopes_102 rfl (lv_at hl 4 rfl) ?_
              refine lv_aload_n C0.1 C0.2.1 dX8_whereByEnvelopes_103 rfl (lv_at hl 4 rfl) ?_
              refine tg_X8_top C0 h kSC_83 q_318 dX8_whereByEnvelopes_104 (fun v_61 e_62 e_63 e_64 => ?_)
              have q_65 : v_61.toInt = f_23.toInt := congrArg Int32.toInt (e_62.symm.trans (Eq.trans (Eq.trans (Fr.fI hF_48 kSC_83 (by decide)) (Fr.fI u_41 kSC_83 (by decide))) e_24))
              refine y_c1 (n := 2) C0 (by decide) dX8_whereByEnvelopes_107 (fun v_66 e_67 => ?_)
              refine y_add C0 (o18_414 b_25 b_26 b_53 b_54 hn_52 e_57 e_58 q_59 c_60 e_63 e_64 q_65 e_67 (le_min v_61) (le_max v_61) (le_min v_66) (le_max v_66) (le_min f_23) (le_max f_23) (le_min x7_46) (le_max x7_46) (le_min v_55) (le_max v_55)) (o18_415 b_25 b_26 b_53 b_54 hn_52 e_57 e_58 q_59 c_60 e_63 e_64 q_65 e_67 (le_min v_61) (le_max v_61) (le_min v_66) (le_max v_66) (le_min f_23) (le_max f_23) (le_min x7_46) (le_max x7_46) (le_min v_55) (le_max v_55)) dX8_whereByEnvelopes_108 (fun v_68 e_69 => ?_)
              refine lv_iload C0.1 C0.2.1 dX8_whereByEnvelopes_109 (lv_at hl 3 rfl) ?_
              refine y_min C0 hl.1 q_1134 q_663 q_141 q_664 (Nat.le_of_ble_eq_true rfl) (Nat.le_of_ble_eq_true rfl) (Nat.le_of_ble_eq_true rfl) (Nat.le_of_ble_eq_true rfl) dX8_whereByEnvelopes_111 (fun v_70 e_71 => ?_)
              refine y_cv h (y_rV (As := [.int v_70]) (rest := []) C0 hZ h (c_X8_change l G Z ad _ h.2 v_70 (o18_416 fl0 fh0 e_3 e_4 q_5 b_25 b_26 b_53 b_54 hn_52 e_57 e_58 q_59 c_60 e_63 e_64 q_65 e_67 e_69 e_71) (o18_417 fl0 fh0 e_3 e_4 q_5 b_25 b_26 b_53 b_54 hn_52 e_57 e_58 q_59 c_60 e_63 e_64 q_65 e_67 e_69 e_71)) k_X8_change q_1137 q_39 q_1135 kSC_83 rfl rfl rfl hl.1 rfl rfl (Nat.le_of_ble_eq_true rfl) dX8_whereByEnvelopes_114 ⟨Nat.le_of_ble_eq_true rfl, Nat.le_of_ble_eq_true rfl⟩ ⟨Nat.le_of_ble_eq_true rfl, Nat.le_of_ble_eq_true rfl⟩) (fun H locs ws_72 h u_73 p_74 => ?_)
              have e_75 := p_74
              refine y_inc (kp := 2) (n := 1) (fun v_76 => [(5, .int v_76), (7, .int x7_46), (6, .int r_43), (4, .int v_1), (0, .ref (ad 83)), (1, .int a1), (2, .ref (ad i2)), (3, .int a3)]) C0 hl rfl (by decide) (by decide) (fun _ => rfl) (o18_418 l3 u3 b_21 b_22 hn_20 c_27 (le_min x5_14) (le_max x5_14) (le_min a3) (le_max a3)) (o18_419 l3 u3 b_21 b_22 hn_20 c_27 (le_min x5_14) (le_max x5_14) (le_min a3) (le_max a3)) dX8_whereByEnvelopes_117 (fun v_76 ls e_77 hl => ?_)
              refine lv_goto (tgt := 14) C0.1 C0.2.1 dX8_whereByEnvelopes_120 (by decide) ?_
              exact ih_18 v_76 v_70 _ _ _ _ (o18_420 l3 u3 b_21 b_22 hn_20 c_27 e_77) (o18_421 l3 u3 b_21 b_22 hn_20 c_27 e_77) (o18_422 l3 u3 b_21 b_22 hn_20 c_27 e_77) (o18_416 fl0 fh0 e_3 e_4 q_5 b_25 b_26 b_53 b_54 hn_52 e_57 e_58 q_59 c_60 e_63 e_64 q_65 e_67 e_69 e_71) (o18_423 fl0 fh0 e_3 e_4 q_5 b_25 b_26 b_53 b_54 hn_52 e_57 e_58 q_59 c_60 e_63 e_64 q_65 e_67 e_69 e_71) (Eq.trans rfl e_75) h (Fr.tr (Fr.tr (Fr.tr hF_16 (Fr.mono u_41 (by decide))) (Fr.mono hF_48 (by decide))) (Fr.mono u_73 (by decide))) (lv_sub hl [0, 3, 4, 5, 6, 7] rfl)
            · -- 40
              refine lv_aload_n C0.1 C0.2.1 dX8_whereByEnvelopes_43 rfl (lv_at hl 4 rfl) ?_
              refine y_c1 (n := 4) C0 (by decide) dX8_whereByEnvelopes_44 (fun v_78 e_79 => ?_)
              refine lv_iload C0.1 C0.2.1 dX8_whereByEnvelopes_45 (lv_at hl 0 rfl) ?_
              refine y_cmul (n := 4) C0 (o18_12 e_79) (o18_424 b_25 b_26 b_53 b_54 hn_52 e_57 e_58 q_59 c_60 (le_min x7_46) (le_max x7_46) (le_min f_23) (le_max f_23) (le_min v_55) (le_max v_55)) (o18_425 b_25 b_26 b_53 b_54 hn_52 e_57 e_58 q_59 c_60 (le_min x7_46) (le_max x7_46) (le_min f_23) (le_max f_23) (le_min v_55) (le_max v_55)) dX8_whereByEnvelopes_47 (fun v_80 e_81 => ?_)
              refine y_cv h (y_rV (As := [.int v_80]) (rest := []) C0 hZ h (c_X8_goByRights l G Z ad _ h.2 v_80 (o18_426 b_25 b_26 b_53 b_54 hn_52 e_57 e_58 q_59 c_60 e_81) (o18_427 b_25 b_26 b_53 b_54 hn_52 e_57 e_58 q_59 c_60 e_81)) k_X8_goByRights q_1105 q_36 q_1103 kSC_83 rfl rfl rfl hl.1 rfl rfl (Nat.le_of_ble_eq_true rfl) dX8_whereByEnvelopes_48 ⟨Nat.le_of_ble_eq_true rfl, Nat.le_of_ble_eq_true rfl⟩ ⟨Nat.le_of_ble_eq_true rfl, Nat.le_of_ble_eq_true rfl⟩) (fun H locs ws_82 h u_83 p_84 => ?_)
              refine lv_aload_n C0.1 C0.2.1 dX8_whereByEnvelopes_51 rfl (lv_at hl 4 rfl) ?_
              refine lv_iload C0.1 C0.2.1 dX8_whereByEnvelopes_52 (lv_at hl 2 rfl) ?_
              refine y_c1 (n := 2) C0 (by decide) dX8_whereByEnvelopes_54 (fun v_85 e_86 => ?_)
              refine y_c1 (n := 4) C0 (by decide) dX8_whereByEnvelopes_55 (fun v_87 e_88 => ?_)
              refine lv_iload C0.1 C0.2.1 dX8_whereByEnvelopes_56 (lv_at hl 0 rfl) ?_
              refine y_cmul (n := 4) C0 (o18_12 e_88) (o18_428 b_25 b_26 b_53 b_54 hn_52 e_57 e_58 q_59 c_60 e_81 (le_min x7_46) (le_max x7_46) (le_min f_23) (le_max f_23) (le_min v_55) (le_max v_55) (le_min v_80) (le_max v_80)) (o18_429 b_25 b_26 b_53 b_54 hn_52 e_57 e_58 q_59 c_60 e_81 (le_min x7_46) (le_max x7_46) (le_min f_23) (le_max f_23) (le_min v_55) (le_max v_55) (le_min v_80) (le_max v_80)) dX8_whereByEnvelopes_58 (fun v_89 e_90 => ?_)
              refine lv_iload C0.1 C0.2.1 dX8_whereByEnvelopes_59 (lv_at hl 1 rfl) ?_
              refine y_c1 (n := 4) C0 (by decide) dX8_whereByEnvelopes_61 (fun v_91 e_92 => ?_)
              refine lv_iload C0.1 C0.2.1 dX8_whereByEnvelopes_62 (lv_at hl 0 rfl) ?_
              refine y_cmul (n := 4) C0 (o18_12 e_92) (o18_430 b_25 b_26 b_53 b_54 hn_52 e_57 e_58 q_59 c_60 e_81 e_90 (le_min x7_46) (le_max x7_46) (le_min f_23) (le_max f_23) (le_min v_55) (le_max v_55) (le_min v_80) (le_max v_80) (le_min v_89) (le_max v_89)) (o18_431 b_25 b_26 b_53 b_54 hn_52 e_57 e_58 q_59 c_60 e_81 e_90 (le_min x7_46) (le_max x7_46) (le_min f_23) (le_max f_23) (le_min v_55) (le_max v_55) (le_min v_80) (le_max v_80) (le_min v_89) (le_max v_89)) dX8_whereByEnvelopes_64 (fun v_93 e_94 => ?_)
              refine y_cv h (y_rV (As := [.int x5_14, .int v_85, .int v_89, .int r_43, .int v_93]) (rest := []) C0 hZ h (c_X8_goByLeft l G Z ad _ h.2 x5_14 v_85 v_89 r_43 v_93 (o18_411 l3 u3 b_21 b_22 hn_20 c_27) (o18_412 l3 u3 b_21 b_22 hn_20 c_27) (o18_239 e_86) (o18_389 e_86) (o18_432 b_25 b_26 b_53 b_54 hn_52 e_57 e_58 q_59 c_60 e_81 e_90 e_94) (o18_433 b_25 b_26 b_53 b_54 hn_52 e_57 e_58 q_59 c_60 e_81 e_90 e_94) (o18_434 b_25 b_26 b_53 b_54 hn_52 e_57 e_58 q_59 c_60 e_81 e_90 e_94) (o18_435 b_25 b_26 b_53 b_54 hn_52 e_57 e_58 q_59 c_60 e_81 e_90 e_94)) k_X8_goByLeft q_1113 q_37 q_1111 kSC_83 rfl rfl rfl hl.1 rfl rfl (Nat.le_of_ble_eq_true rfl) dX8_whereByEnvelopes_65 ⟨Nat.le_of_ble_eq_true rfl, Nat.le_of_ble_eq_true rfl⟩ ⟨Nat.le_of_ble_eq_true rfl, Nat.le_of_ble_eq_true rfl⟩) (fun H locs ws_95 h u_96 p_97 => ?_)
              refine lv_aload_n C0.1 C0.2.1 dX8_whereByEnvelopes_68 rfl (lv_at hl 4 rfl) ?_
              refine lv_iload C0.1 C0.2.1 dX8_whereByEnvelopes_69 (lv_at hl 2 rfl) ?_
              refine y_c1 (n := 3) C0 (by decide) dX8_whereByEnvelopes_71 (fun v_98 e_99 => ?_)
              refine y_c1 (n := 4) C0 (by decide) dX8_whereByEnvelopes_72 (fun v_100 e_101 => ?_)
              refine lv_iload C0.1 C0.2.1 dX8_whereByEnvelopes_73 (lv_at hl 0 rfl) ?_
              refine y_cmul (n := 4) C0 (o18_12 e_101) (o18_436 b_25 b_26 b_53 b_54 hn_52 e_57 e_58 q_59 c_60 e_81 e_90 e_94 (le_min x7_46) (le_max x7_46) (le_min f_23) (le_max f_23) (le_min v_55) (le_max v_55) (le_min v_80) (le_max v_80) (le_min v_89) (le_max v_89) (le_min v_93) (le_max v_93)) (o18_437 b_25 b_26 b_53 b_54 hn_52 e_57 e_58 q_59 c_60 e_81 e_90 e_94 (le_min x7_46) (le_max x7_46) (le_min f_23) (le_max f_23) (le_min v_55) (le_max v_55) (le_min v_80) (le_max v_80) (le_min v_89) (le_max v_89) (le_min v_93) (le_max v_93)) dX8_whereByEnvelopes_75 (fun v_102 e_103 => ?_)
              refine lv_iload C0.1 C0.2.1 dX8_whereByEnvelopes_76 (lv_at hl 1 rfl) ?_
              refine y_c1 (n := 4) C0 (by decide) dX8_whereByEnvelopes_78 (fun v_104 e_105 => ?_)
              refine lv_iload C0.1 C0.2.1 dX8_whereByEnvelopes_79 (lv_at hl 0 rfl) ?_
              refine y_cmul (n := 4) C0 (o18_12 e_105) (o18_438 b_25 b_26 b_53 b_54 hn_52 e_57 e_58 q_59 c_60 e_81 e_90 e_94 e_103 (le_min x7_46) (le_max x7_46) (le_min f_23) (le_max f_23) (le_min v_55) (le_max v_55) (le_min v_80) (le_max v_80) (le_min v_89) (le_max v_89) (le_min v_93) (le_max v_93) (le_min v_102) (le_max v_102)) (o18_439 b_25 b_26 b_53 b_54 hn_52 e_57 e_58 q_59 c_60 e_81 e_90 e_94 e_103 (le_min x7_46) (le_max x7_46) (le_min f_23) (le_max f_23) (le_min v_55) (le_max v_55) (le_min v_80) (le_max v_80) (le_min v_89) (le_max v_89) (le_min v_93) (le_max v_93) (le_min v_102) (le_max v_102)) dX8_whereByEnvelopes_81 (fun v_106 e_107 => ?_)
              refine y_cv h (y_rV (As := [.int x5_14, .int v_98, .int v_102, .int r_43, .int v_106]) (rest := []) C0 hZ h (c_X8_goByLeft l G Z ad _ h.2 x5_14 v_98 v_102 r_43 v_106 (o18_411 l3 u3 b_21 b_22 hn_20 c_27) (o18_412 l3 u3 b_21 b_22 hn_20 c_27) (o18_402 e_99) (o18_403 e_99) (o18_440 b_25 b_26 b_53 b_54 hn_52 e_57 e_58 q_59 c_60 e_81 e_90 e_94 e_103 e_107) (o18_441 b_25 b_26 b_53 b_54 hn_52 e_57 e_58 q_59 c_60 e_81 e_90 e_94 e_103 e_107) (o18_442 b_25 b_26 b_53 b_54 hn_52 e_57 e_58 q_59 c_60 e_81 e_90 e_94 e_103 e_107) (o18_443 b_25 b_26 b_53 b_54 hn_52 e_57 e_58 q_59 c_60 e_81 e_90 e_94 e_103 e_107)) k_X8_goByLeft q_1113 q_37 q_1111 kSC_83 rfl rfl rfl hl.1 rfl rfl (Nat.le_of_ble_eq_true rfl) dX8_whereByEnvelopes_82 ⟨Nat.le_of_ble_eq_true rfl, Nat.le_of_ble_eq_true rfl⟩ ⟨Nat.le_of_ble_eq_true rfl, Nat.le_of_ble_eq_true rfl⟩) (fun H locs ws_108 h u_109 p_110 => ?_)
              refine lv_aload_n C0.1 C0.2.1 dX8_whereByEnvelopes_85 rfl (lv_at hl 4 rfl) ?_
              refine lv_iload C0.1 C0.2.1 dX8_whereByEnvelopes_86 (lv_at hl 2 rfl) ?_
              refine lv_iload C0.1 C0.2.1 dX8_whereByEnvelopes_88 (lv_at hl 0 rfl) ?_
              refine lv_iload C0.1 C0.2.1 dX8_whereByEnvelopes_90 (lv_at hl 1 rfl) ?_
              refine lv_aload_n C0.1 C0.2.1 dX8_whereByEnvelopes_92 rfl (lv_at hl 6 rfl) ?_
              refine y_cv h (y_rV (As := [.int x5_14, .int x7_46, .int r_43, .ref (ad i2)]) (rest := []) C0 hZ h (c_X8_goLeaving l G Z ad _ h.2 x5_14 x7_46 r_43 i2 hi2 (o18_411 l3 u3 b_21 b_22 hn_20 c_27) (o18_412 l3 u3 b_21 b_22 hn_20 c_27) (o18_444 b_25 b_26 b_53 b_54 hn_52 e_57 e_58 q_59 c_60 e_81 e_90 e_94 e_103 e_107) (o18_445 b_25 b_26 b_53 b_54 hn_52 e_57 e_58 q_59 c_60 e_81 e_90 e_94 e_103 e_107)) k_X8_goLeaving q_1352 q_52 q_1350 kSC_83 rfl rfl rfl hl.1 rfl rfl (Nat.le_of_ble_eq_true rfl) dX8_whereByEnvelopes_93 ⟨Nat.le_of_ble_eq_true rfl, Nat.le_of_ble_eq_true rfl⟩ ⟨Nat.le_of_ble_eq_true rfl, Nat.le_of_ble_eq_true rfl⟩) (fun H locs ws_111 h u_112 p_113 => ?_)
              refine y_inc (kp := 0) (n := 1) (fun v_114 => [(7, .int v_114), (6, .int r_43), (5, .int x5_14), (4, .int v_1), (0, .ref (ad 83)), (1, .int a1), (2, .ref (ad i2)), (3, .int a3)]) C0 hl rfl (by decide) (by decide) (fun _ => rfl) (o18_446 b_25 b_26 b_53 b_54 hn_52 e_57 e_58 q_59 c_60 e_81 e_90 e_94 e_103 e_107 (le_min x7_46) (le_max x7_46) (le_min f_23) (le_max f_23) (le_min v_55) (le_max v_55) (le_min v_80) (le_max v_80) (le_min v_89) (le_max v_89) (le_min v_93) (le_max v_93) (le_min v_102) (le_max v_102) (le_min v_106) (le_max v_106)) (o18_447 b_25 b_26 b_53 b_54 hn_52 e_57 e_58 q_59 c_60 e_81 e_90 e_94 e_103 e_107 (le_min x7_46) (le_max x7_46) (le_min f_23) (le_max f_23) (le_min v_55) (le_max v_55) (le_min v_80) (le_max v_80) (le_min v_89) (le_max v_89) (le_min v_93) (le_max v_93) (le_min v_102) (le_max v_102) (le_min v_106) (le_max v_106)) dX8_whereByEnvelopes_96 (fun v_114 ls e_115 hl => ?_)
              refine lv_goto (tgt := 34) C0.1 C0.2.1 dX8_whereByEnvelopes_99 (by decide) ?_
              exact ih_50 v_114 _ _ _ _ (o18_448 b_25 b_26 b_53 b_54 hn_52 e_57 e_58 q_59 c_60 e_81 e_90 e_94 e_103 e_107 e_115) (o18_449 b_25 b_26 b_53 b_54 hn_52 e_57 e_58 q_59 c_60 e_81 e_90 e_94 e_103 e_107 e_115) (o18_450 b_25 b_26 b_53 b_54 hn_52 e_57 e_58 q_59 c_60 e_81 e_90 e_94 e_103 e_107 e_115) h (Fr.tr (Fr.tr (Fr.tr (Fr.tr hF_48 (Fr.mono u_83 (by decide))) u_96) u_109) u_112) (lv_sub hl [0, 1, 2, 3, 4, 5, 6, 7] rfl)
        exact lp_49 ((11 - v_44.toInt + 1).toNat) v_44 _ _ _ _ (o18_451 e_45) (o18_1 e_45) (o18_452 e_45) h Fr.rf (lv_sub hl [0, 1, 2, 3, 4, 5, 6, 7] rfl)
  exact lp_17 ((30 - v_12.toInt + 1).toNat) v_12 f_10 _ _ _ _ (o18_453 e_13) (o18_1 e_13) (o18_454 e_13) (o18_455 e_9.1 e_9.2) (o18_456 e_9.1 e_9.2) (Eq.trans rfl e_11) h Fr.rf (lv_sub hl [0, 1, 2, 3, 4, 5] rfl)
