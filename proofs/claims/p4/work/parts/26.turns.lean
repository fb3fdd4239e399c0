variable {tt : QQ}
theorem dX11_draw_0 : decode cX11_draw 0 = .ok (.aload_n 0, 1) := by decide +kernel
theorem dX11_draw_1 : decode cX11_draw 1 = .ok (.ldc_w 344, 3) := by decide +kernel
theorem dX11_draw_4 : decode cX11_draw 4 = .ok (.aload_n 0, 1) := by decide +kernel
theorem dX11_draw_5 : decode cX11_draw 5 = .ok (.getfield 243, 3) := by decide +kernel
theorem dX11_draw_8 : decode cX11_draw 8 = .ok (.imul, 1) := by decide +kernel
theorem dX11_draw_9 : decode cX11_draw 9 = .ok (.sipush 12345, 3) := by decide +kernel
theorem dX11_draw_12 : decode cX11_draw 12 = .ok (.iadd, 1) := by decide +kernel
theorem dX11_draw_13 : decode cX11_draw 13 = .ok (.putfield 243, 3) := by decide +kernel
theorem dX11_draw_16 : decode cX11_draw 16 = .ok (.aload_n 0, 1) := by decide +kernel
theorem dX11_draw_17 : decode cX11_draw 17 = .ok (.getfield 243, 3) := by decide +kernel
theorem dX11_draw_20 : decode cX11_draw 20 = .ok (.bipush 16, 2) := by decide +kernel
theorem dX11_draw_22 : decode cX11_draw 22 = .ok (.iushr, 1) := by decide +kernel
theorem dX11_draw_23 : decode cX11_draw 23 = .ok (.ireturn, 1) := by decide +kernel
theorem dX11_goWalk_0 : decode cX11_goWalk 0 = .ok (.aload_n 1, 1) := by decide +kernel
theorem dX11_goWalk_1 : decode cX11_goWalk 1 = .ok (.iconst 0, 1) := by decide +kernel
theorem dX11_goWalk_2 : decode cX11_goWalk 2 = .ok (.invokevirtual 341, 3) := by decide +kernel
theorem dX11_goWalk_5 : decode cX11_goWalk 5 = .ok (.istore_n 2, 1) := by decide +kernel
theorem dX11_goWalk_6 : decode cX11_goWalk 6 = .ok (.aload_n 0, 1) := by decide +kernel
theorem dX11_goWalk_7 : decode cX11_goWalk 7 = .ok (.iload_n 2, 1) := by decide +kernel
theorem dX11_goWalk_8 : decode cX11_goWalk 8 = .ok (.invokevirtual 141, 3) := by decide +kernel
theorem dX11_goWalk_11 : decode cX11_goWalk 11 = .ok (.istore_n 3, 1) := by decide +kernel
theorem dX11_goWalk_12 : decode cX11_goWalk 12 = .ok (.iload_n 3, 1) := by decide +kernel
theorem dX11_goWalk_13 : decode cX11_goWalk 13 = .ok (.ifCond .eq 7, 3) := by decide +kernel
theorem dX11_goWalk_16 : decode cX11_goWalk 16 = .ok (.iconst (-1), 1) := by decide +kernel
theorem dX11_goWalk_17 : decode cX11_goWalk 17 = .ok (.goto 4, 3) := by decide +kernel
theorem dX11_goWalk_20 : decode cX11_goWalk 20 = .ok (.iconst 0, 1) := by decide +kernel
theorem dX11_goWalk_21 : decode cX11_goWalk 21 = .ok (.istore 4, 2) := by decide +kernel
theorem dX11_goWalk_23 : decode cX11_goWalk 23 = .ok (.iload_n 3, 1) := by decide +kernel
theorem dX11_goWalk_24 : decode cX11_goWalk 24 = .ok (.ifCond .eq 7, 3) := by decide +kernel
theorem dX11_goWalk_27 : decode cX11_goWalk 27 = .ok (.iconst 0, 1) := by decide +kernel
theorem dX11_goWalk_28 : decode cX11_goWalk 28 = .ok (.goto 4, 3) := by decide +kernel
theorem dX11_goWalk_31 : decode cX11_goWalk 31 = .ok (.iconst 1, 1) := by decide +kernel
theorem dX11_goWalk_32 : decode cX11_goWalk 32 = .ok (.istore 5, 2) := by decide +kernel
theorem dX11_goWalk_34 : decode cX11_goWalk 34 = .ok (.iconst 0, 1) := by decide +kernel
theorem dX11_goWalk_35 : decode cX11_goWalk 35 = .ok (.istore 6, 2) := by decide +kernel
theorem dX11_goWalk_37 : decode cX11_goWalk 37 = .ok (.iconst 0, 1) := by decide +kernel
theorem dX11_goWalk_38 : decode cX11_goWalk 38 = .ok (.istore 7, 2) := by decide +kernel
theorem dX11_goWalk_40 : decode cX11_goWalk 40 = .ok (.iconst 1, 1) := by decide +kernel
theorem dX11_goWalk_41 : decode cX11_goWalk 41 = .ok (.istore 8, 2) := by decide +kernel
theorem dX11_goWalk_43 : decode cX11_goWalk 43 = .ok (.iload 8, 2) := by decide +kernel
theorem dX11_goWalk_45 : decode cX11_goWalk 45 = .ok (.aload_n 1, 1) := by decide +kernel
theorem dX11_goWalk_46 : decode cX11_goWalk 46 = .ok (.getfield 214, 3) := by decide +kernel
theorem dX11_goWalk_49 : decode cX11_goWalk 49 = .ok (.if_icmp .ge 64, 3) := by decide +kernel
theorem dX11_goWalk_52 : decode cX11_goWalk 52 = .ok (.iload 5, 2) := by decide +kernel
theorem dX11_goWalk_54 : decode cX11_goWalk 54 = .ok (.ifCond .ne 59, 3) := by decide +kernel
theorem dX11_goWalk_57 : decode cX11_goWalk 57 = .ok (.aload_n 1, 1) := by decide +kernel
theorem dX11_goWalk_58 : decode cX11_goWalk 58 = .ok (.iload 8, 2) := by decide +kernel
theorem dX11_goWalk_60 : decode cX11_goWalk 60 = .ok (.invokevirtual 341, 3) := by decide +kernel
theorem dX11_goWalk_63 : decode cX11_goWalk 63 = .ok (.istore 9, 2) := by decide +kernel
theorem dX11_goWalk_65 : decode cX11_goWalk 65 = .ok (.aload_n 0, 1) := by decide +kernel
theorem dX11_goWalk_66 : decode cX11_goWalk 66 = .ok (.getfield 27, 3) := by decide +kernel
theorem dX11_goWalk_69 : decode cX11_goWalk 69 = .ok (.iload_n 2, 1) := by decide +kernel
theorem dX11_goWalk_70 : decode cX11_goWalk 70 = .ok (.iload 9, 2) := by decide +kernel
theorem dX11_goWalk_72 : decode cX11_goWalk 72 = .ok (.invokevirtual 198, 3) := by decide +kernel
theorem dX11_goWalk_75 : decode cX11_goWalk 75 = .ok (.istore 5, 2) := by decide +kernel
theorem dX11_goWalk_77 : decode cX11_goWalk 77 = .ok (.iload 5, 2) := by decide +kernel
theorem dX11_goWalk_79 : decode cX11_goWalk 79 = .ok (.ifCond .ne 24, 3) := by decide +kernel
theorem dX11_goWalk_82 : decode cX11_goWalk 82 = .ok (.iload 6, 2) := by decide +kernel
theorem dX11_goWalk_84 : decode cX11_goWalk 84 = .ok (.aload_n 0, 1) := by decide +kernel
theorem dX11_goWalk_85 : decode cX11_goWalk 85 = .ok (.getfield 27, 3) := by decide +kernel
theorem dX11_goWalk_88 : decode cX11_goWalk 88 = .ok (.iload_n 2, 1) := by decide +kernel
theorem dX11_goWalk_89 : decode cX11_goWalk 89 = .ok (.iload 9, 2) := by decide +kernel
theorem dX11_goWalk_91 : decode cX11_goWalk 91 = .ok (.invokevirtual 205, 3) := by decide +kernel
theorem dX11_goWalk_94 : decode cX11_goWalk 94 = .ok (.iadd, 1) := by decide +kernel
theorem dX11_goWalk_95 : decode cX11_goWalk 95 = .ok (.istore 6, 2) := by decide +kernel
theorem dX11_goWalk_97 : decode cX11_goWalk 97 = .ok (.iinc 7 1, 3) := by decide +kernel
theorem dX11_goWalk_100 : decode cX11_goWalk 100 = .ok (.goto 7, 3) := by decide +kernel
theorem dX11_goWalk_103 : decode cX11_goWalk 103 = .ok (.iload 8, 2) := by decide +kernel
theorem dX11_goWalk_105 : decode cX11_goWalk 105 = .ok (.istore 4, 2) := by decide +kernel
theorem dX11_goWalk_107 : decode cX11_goWalk 107 = .ok (.iinc 8 1, 3) := by decide +kernel
theorem dX11_goWalk_110 : decode cX11_goWalk 110 = .ok (.goto (-67), 3) := by decide +kernel
theorem dX11_goWalk_113 : decode cX11_goWalk 113 = .ok (.aload_n 0, 1) := by decide +kernel
theorem dX11_goWalk_114 : decode cX11_goWalk 114 = .ok (.getfield 102, 3) := by decide +kernel
theorem dX11_goWalk_117 : decode cX11_goWalk 117 = .ok (.iconst 0, 1) := by decide +kernel
theorem dX11_goWalk_118 : decode cX11_goWalk 118 = .ok (.iload 4, 2) := by decide +kernel
theorem dX11_goWalk_120 : decode cX11_goWalk 120 = .ok (.iastore, 1) := by decide +kernel
theorem dX11_goWalk_121 : decode cX11_goWalk 121 = .ok (.aload_n 0, 1) := by decide +kernel
theorem dX11_goWalk_122 : decode cX11_goWalk 122 = .ok (.getfield 102, 3) := by decide +kernel
theorem dX11_goWalk_125 : decode cX11_goWalk 125 = .ok (.iconst 1, 1) := by decide +kernel
theorem dX11_goWalk_126 : decode cX11_goWalk 126 = .ok (.iload 5, 2) := by decide +kernel
theorem dX11_goWalk_128 : decode cX11_goWalk 128 = .ok (.iastore, 1) := by decide +kernel
theorem dX11_goWalk_129 : decode cX11_goWalk 129 = .ok (.aload_n 0, 1) := by decide +kernel
theorem dX11_goWalk_130 : decode cX11_goWalk 130 = .ok (.getfield 102, 3) := by decide +kernel
theorem dX11_goWalk_133 : decode cX11_goWalk 133 = .ok (.iconst 2, 1) := by decide +kernel
theorem dX11_goWalk_134 : decode cX11_goWalk 134 = .ok (.iload_n 3, 1) := by decide +kernel
theorem dX11_goWalk_135 : decode cX11_goWalk 135 = .ok (.ifCond .eq 18, 3) := by decide +kernel
theorem dX11_goWalk_138 : decode cX11_goWalk 138 = .ok (.aload_n 0, 1) := by decide +kernel
theorem dX11_goWalk_139 : decode cX11_goWalk 139 = .ok (.getfield 27, 3) := by decide +kernel
theorem dX11_goWalk_142 : decode cX11_goWalk 142 = .ok (.getfield 145, 3) := by decide +kernel
theorem dX11_goWalk_145 : decode cX11_goWalk 145 = .ok (.getfield 148, 3) := by decide +kernel
theorem dX11_goWalk_148 : decode cX11_goWalk 148 = .ok (.iload_n 2, 1) := by decide +kernel
theorem dX11_goWalk_149 : decode cX11_goWalk 149 = .ok (.iaload, 1) := by decide +kernel
theorem dX11_goWalk_150 : decode cX11_goWalk 150 = .ok (.goto 4, 3) := by decide +kernel
theorem dX11_goWalk_153 : decode cX11_goWalk 153 = .ok (.iconst (-1), 1) := by decide +kernel
theorem dX11_goWalk_154 : decode cX11_goWalk 154 = .ok (.iastore, 1) := by decide +kernel
theorem dX11_goWalk_155 : decode cX11_goWalk 155 = .ok (.aload_n 0, 1) := by decide +kernel
theorem dX11_goWalk_156 : decode cX11_goWalk 156 = .ok (.getfield 102, 3) := by decide +kernel
theorem dX11_goWalk_159 : decode cX11_goWalk 159 = .ok (.iconst 3, 1) := by decide +kernel
theorem dX11_goWalk_160 : decode cX11_goWalk 160 = .ok (.iload 6, 2) := by decide +kernel
theorem dX11_goWalk_162 : decode cX11_goWalk 162 = .ok (.iastore, 1) := by decide +kernel
theorem dX11_goWalk_163 : decode cX11_goWalk 163 = .ok (.iload 7, 2) := by decide +kernel
theorem dX11_goWalk_165 : decode cX11_goWalk 165 = .ok (.ireturn, 1) := by decide +kernel
theorem dX11_isCrossing_0 : decode cX11_isCrossing 0 = .ok (.iload_n 1, 1) := by decide +kernel
theorem dX11_isCrossing_1 : decode cX11_isCrossing 1 = .ok (.ifCond .lt 18, 3) := by decide +kernel
theorem dX11_isCrossing_4 : decode cX11_isCrossing 4 = .ok (.iload_n 1, 1) := by decide +kernel
theorem dX11_isCrossing_5 : decode cX11_isCrossing 5 = .ok (.aload_n 0, 1) := by decide +kernel
theorem dX11_isCrossing_6 : decode cX11_isCrossing 6 = .ok (.getfield 27, 3) := by decide +kernel
theorem dX11_isCrossing_9 : decode cX11_isCrossing 9 = .ok (.invokevirtual 287, 3) := by decide +kernel
theorem dX11_isCrossing_12 : decode cX11_isCrossing 12 = .ok (.if_icmp .ge 7, 3) := by decide +kernel
theorem dX11_isCrossing_15 : decode cX11_isCrossing 15 = .ok (.iconst 1, 1) := by decide +kernel
theorem dX11_isCrossing_16 : decode cX11_isCrossing 16 = .ok (.goto 4, 3) := by decide +kernel
theorem dX11_isCrossing_19 : decode cX11_isCrossing 19 = .ok (.iconst 0, 1) := by decide +kernel
theorem dX11_isCrossing_20 : decode cX11_isCrossing 20 = .ok (.ireturn, 1) := by decide +kernel
theorem dX11_isPerson_0 : decode cX11_isPerson 0 = .ok (.iload_n 1, 1) := by decide +kernel
theorem dX11_isPerson_1 : decode cX11_isPerson 1 = .ok (.ifCond .lt 21, 3) := by decide +kernel
theorem dX11_isPerson_4 : decode cX11_isPerson 4 = .ok (.iload_n 1, 1) := by decide +kernel
theorem dX11_isPerson_5 : decode cX11_isPerson 5 = .ok (.aload_n 0, 1) := by decide +kernel
theorem dX11_isPerson_6 : decode cX11_isPerson 6 = .ok (.getfield 27, 3) := by decide +kernel
theorem dX11_isPerson_9 : decode cX11_isPerson 9 = .ok (.getfield 145, 3) := by decide +kernel
theorem dX11_isPerson_12 : decode cX11_isPerson 12 = .ok (.getfield 240, 3) := by decide +kernel
theorem dX11_isPerson_15 : decode cX11_isPerson 15 = .ok (.if_icmp .ge 7, 3) := by decide +kernel
theorem dX11_isPerson_18 : decode cX11_isPerson 18 = .ok (.iconst 1, 1) := by decide +kernel
theorem dX11_isPerson_19 : decode cX11_isPerson 19 = .ok (.goto 4, 3) := by decide +kernel
theorem dX11_isPerson_22 : decode cX11_isPerson 22 = .ok (.iconst 0, 1) := by decide +kernel
theorem dX11_isPerson_23 : decode cX11_isPerson 23 = .ok (.ireturn, 1) := by decide +kernel
theorem dX11_isStand_0 : decode cX11_isStand 0 = .ok (.aload_n 0, 1) := by decide +kernel
theorem dX11_isStand_1 : decode cX11_isStand 1 = .ok (.iload_n 1, 1) := by decide +kernel
theorem dX11_isStand_2 : decode cX11_isStand 2 = .ok (.invokevirtual 171, 3) := by decide +kernel
theorem dX11_isStand_5 : decode cX11_isStand 5 = .ok (.ifCond .eq 16, 3) := by decide +kernel
theorem dX11_isStand_8 : decode cX11_isStand 8 = .ok (.iload_n 2, 1) := by decide +kernel
theorem dX11_isStand_9 : decode cX11_isStand 9 = .ok (.ifCond .lt 12, 3) := by decide +kernel
theorem dX11_isStand_12 : decode cX11_isStand 12 = .ok (.iload_n 2, 1) := by decide +kernel
theorem dX11_isStand_13 : decode cX11_isStand 13 = .ok (.iconst 4, 1) := by decide +kernel
theorem dX11_isStand_14 : decode cX11_isStand 14 = .ok (.if_icmp .ge 7, 3) := by decide +kernel
theorem dX11_isStand_17 : decode cX11_isStand 17 = .ok (.iconst 1, 1) := by decide +kernel
theorem dX11_isStand_18 : decode cX11_isStand 18 = .ok (.goto 4, 3) := by decide +kernel
theorem dX11_isStand_21 : decode cX11_isStand 21 = .ok (.iconst 0, 1) := by decide +kernel
theorem dX11_isStand_22 : decode cX11_isStand 22 = .ok (.ireturn, 1) := by decide +kernel
theorem dX11_isTray_0 : decode cX11_isTray 0 = .ok (.iload_n 0, 1) := by decide +kernel
theorem dX11_isTray_1 : decode cX11_isTray 1 = .ok (.ifCond .lt 12, 3) := by decide +kernel
theorem dX11_isTray_4 : decode cX11_isTray 4 = .ok (.iload_n 0, 1) := by decide +kernel
theorem dX11_isTray_5 : decode cX11_isTray 5 = .ok (.iconst 4, 1) := by decide +kernel
theorem dX11_isTray_6 : decode cX11_isTray 6 = .ok (.if_icmp .ge 7, 3) := by decide +kernel
theorem dX11_isTray_9 : decode cX11_isTray 9 = .ok (.iconst 1, 1) := by decide +kernel
theorem dX11_isTray_10 : decode cX11_isTray 10 = .ok (.goto 4, 3) := by decide +kernel
theorem dX11_isTray_13 : decode cX11_isTray 13 = .ok (.iconst 0, 1) := by decide +kernel
theorem dX11_isTray_14 : decode cX11_isTray 14 = .ok (.ireturn, 1) := by decide +kernel
theorem dX11_keep_0 : decode cX11_keep 0 = .ok (.aload_n 0, 1) := by decide +kernel
theorem dX11_keep_1 : decode cX11_keep 1 = .ok (.getfield 234, 3) := by decide +kernel
theorem dX11_keep_4 : decode cX11_keep 4 = .ok (.bipush 10, 2) := by decide +kernel
theorem dX11_keep_6 : decode cX11_keep 6 = .ok (.if_icmp .ne 26, 3) := by decide +kernel
theorem dX11_keep_9 : decode cX11_keep 9 = .ok (.aload_n 0, 1) := by decide +kernel
theorem dX11_keep_10 : decode cX11_keep 10 = .ok (.aload_n 0, 1) := by decide +kernel
theorem dX11_keep_11 : decode cX11_keep 11 = .ok (.getfield 237, 3) := by decide +kernel
theorem dX11_keep_14 : decode cX11_keep 14 = .ok (.iconst 1, 1) := by decide +kernel
theorem dX11_keep_15 : decode cX11_keep 15 = .ok (.iadd, 1) := by decide +kernel
theorem dX11_keep_16 : decode cX11_keep 16 = .ok (.bipush 10, 2) := by decide +kernel
theorem dX11_keep_18 : decode cX11_keep 18 = .ok (.irem, 1) := by decide +kernel
theorem dX11_keep_19 : decode cX11_keep 19 = .ok (.putfield 237, 3) := by decide +kernel
theorem dX11_keep_22 : decode cX11_keep 22 = .ok (.aload_n 0, 1) := by decide +kernel
theorem dX11_keep_23 : decode cX11_keep 23 = .ok (.dup, 1) := by decide +kernel
theorem dX11_keep_24 : decode cX11_keep 24 = .ok (.getfield 234, 3) := by decide +kernel
theorem dX11_keep_27 : decode cX11_keep 27 = .ok (.iconst 1, 1) := by decide +kernel
theorem dX11_keep_28 : decode cX11_keep 28 = .ok (.isub, 1) := by decide +kernel
theorem dX11_keep_29 : decode cX11_keep 29 = .ok (.putfield 234, 3) := by decide +kernel
theorem dX11_keep_32 : decode cX11_keep 32 = .ok (.aload_n 0, 1) := by decide +kernel
theorem dX11_keep_33 : decode cX11_keep 33 = .ok (.getfield 93, 3) := by decide +kernel
theorem dX11_keep_36 : decode cX11_keep 36 = .ok (.aload_n 0, 1) := by decide +kernel
theorem dX11_keep_37 : decode cX11_keep 37 = .ok (.getfield 237, 3) := by decide +kernel
theorem dX11_keep_40 : decode cX11_keep 40 = .ok (.aload_n 0, 1) := by decide +kernel
theorem dX11_keep_41 : decode cX11_keep 41 = .ok (.getfield 234, 3) := by decide +kernel
theorem dX11_keep_44 : decode cX11_keep 44 = .ok (.iadd, 1) := by decide +kernel
theorem dX11_keep_45 : decode cX11_keep 45 = .ok (.bipush 10, 2) := by decide +kernel
theorem dX11_keep_47 : decode cX11_keep 47 = .ok (.irem, 1) := by decide +kernel
theorem dX11_keep_48 : decode cX11_keep 48 = .ok (.aaload, 1) := by decide +kernel
theorem dX11_keep_49 : decode cX11_keep 49 = .ok (.aload_n 1, 1) := by decide +kernel
theorem dX11_keep_50 : decode cX11_keep 50 = .ok (.invokevirtual 217, 3) := by decide +kernel
theorem dX11_keep_53 : decode cX11_keep 53 = .ok (.aload_n 0, 1) := by decide +kernel
theorem dX11_keep_54 : decode cX11_keep 54 = .ok (.dup, 1) := by decide +kernel
theorem dX11_keep_55 : decode cX11_keep 55 = .ok (.getfield 234, 3) := by decide +kernel
theorem dX11_keep_58 : decode cX11_keep 58 = .ok (.iconst 1, 1) := by decide +kernel
theorem dX11_keep_59 : decode cX11_keep 59 = .ok (.iadd, 1) := by decide +kernel
theorem dX11_keep_60 : decode cX11_keep 60 = .ok (.putfield 234, 3) := by decide +kernel
theorem dX11_keep_63 : decode cX11_keep 63 = .ok (.return_, 1) := by decide +kernel
theorem dX11_liveOnce_0 : decode cX11_liveOnce 0 = .ok (.aload_n 0, 1) := by decide +kernel
theorem dX11_liveOnce_1 : decode cX11_liveOnce 1 = .ok (.invokevirtual 345, 3) := by decide +kernel
theorem dX11_liveOnce_4 : decode cX11_liveOnce 4 = .ok (.iconst 4, 1) := by decide +kernel
theorem dX11_liveOnce_5 : decode cX11_liveOnce 5 = .ok (.irem, 1) := by decide +kernel
theorem dX11_liveOnce_6 : decode cX11_liveOnce 6 = .ok (.istore_n 1, 1) := by decide +kernel
theorem dX11_liveOnce_7 : decode cX11_liveOnce 7 = .ok (.iload_n 1, 1) := by decide +kernel
theorem dX11_liveOnce_8 : decode cX11_liveOnce 8 = .ok (.iconst 3, 1) := by decide +kernel
theorem dX11_liveOnce_9 : decode cX11_liveOnce 9 = .ok (.if_icmp .ne 21, 3) := by decide +kernel
theorem dX11_liveOnce_12 : decode cX11_liveOnce 12 = .ok (.aload_n 0, 1) := by decide +kernel
theorem dX11_liveOnce_13 : decode cX11_liveOnce 13 = .ok (.getfield 27, 3) := by decide +kernel
theorem dX11_liveOnce_16 : decode cX11_liveOnce 16 = .ok (.getfield 145, 3) := by decide +kernel
theorem dX11_liveOnce_19 : decode cX11_liveOnce 19 = .ok (.dup, 1) := by decide +kernel
theorem dX11_liveOnce_20 : decode cX11_liveOnce 20 = .ok (.getfield 174, 3) := by decide +kernel
theorem dX11_liveOnce_23 : decode cX11_liveOnce 23 = .ok (.iconst 1, 1) := by decide +kernel
theorem dX11_liveOnce_24 : decode cX11_liveOnce 24 = .ok (.iadd, 1) := by decide +kernel
theorem dX11_liveOnce_25 : decode cX11_liveOnce 25 = .ok (.putfield 174, 3) := by decide +kernel
theorem dX11_liveOnce_28 : decode cX11_liveOnce 28 = .ok (.iconst 1, 1) := by decide +kernel
theorem dX11_liveOnce_29 : decode cX11_liveOnce 29 = .ok (.ireturn, 1) := by decide +kernel
theorem dX11_liveOnce_30 : decode cX11_liveOnce 30 = .ok (.aload_n 0, 1) := by decide +kernel
theorem dX11_liveOnce_31 : decode cX11_liveOnce 31 = .ok (.getfield 27, 3) := by decide +kernel
theorem dX11_liveOnce_34 : decode cX11_liveOnce 34 = .ok (.getfield 145, 3) := by decide +kernel
theorem dX11_liveOnce_37 : decode cX11_liveOnce 37 = .ok (.getfield 240, 3) := by decide +kernel
theorem dX11_liveOnce_40 : decode cX11_liveOnce 40 = .ok (.istore_n 2, 1) := by decide +kernel
theorem dX11_liveOnce_41 : decode cX11_liveOnce 41 = .ok (.iload_n 2, 1) := by decide +kernel
theorem dX11_liveOnce_42 : decode cX11_liveOnce 42 = .ok (.ifCond .le 12, 3) := by decide +kernel
theorem dX11_liveOnce_45 : decode cX11_liveOnce 45 = .ok (.aload_n 0, 1) := by decide +kernel
theorem dX11_liveOnce_46 : decode cX11_liveOnce 46 = .ok (.invokevirtual 345, 3) := by decide +kernel
theorem dX11_liveOnce_49 : decode cX11_liveOnce 49 = .ok (.iload_n 2, 1) := by decide +kernel
theorem dX11_liveOnce_50 : decode cX11_liveOnce 50 = .ok (.irem, 1) := by decide +kernel
theorem dX11_liveOnce_51 : decode cX11_liveOnce 51 = .ok (.goto 4, 3) := by decide +kernel
theorem dX11_liveOnce_54 : decode cX11_liveOnce 54 = .ok (.iconst 0, 1) := by decide +kernel
theorem dX11_liveOnce_55 : decode cX11_liveOnce 55 = .ok (.istore_n 3, 1) := by decide +kernel
theorem dX11_liveOnce_56 : decode cX11_liveOnce 56 = .ok (.iload_n 1, 1) := by decide +kernel
theorem dX11_liveOnce_57 : decode cX11_liveOnce 57 = .ok (.iconst 2, 1) := by decide +kernel
theorem dX11_liveOnce_58 : decode cX11_liveOnce 58 = .ok (.if_icmp .ne 12, 3) := by decide +kernel
theorem dX11_liveOnce_61 : decode cX11_liveOnce 61 = .ok (.aload_n 0, 1) := by decide +kernel
theorem dX11_liveOnce_62 : decode cX11_liveOnce 62 = .ok (.getfield 27, 3) := by decide +kernel
theorem dX11_liveOnce_65 : decode cX11_liveOnce 65 = .ok (.iload_n 3, 1) := by decide +kernel
theorem dX11_liveOnce_66 : decode cX11_liveOnce 66 = .ok (.invokevirtual 348, 3) := by decide +kernel
theorem dX11_liveOnce_69 : decode cX11_liveOnce 69 = .ok (.ireturn, 1) := by decide +kernel
theorem dX11_liveOnce_70 : decode cX11_liveOnce 70 = .ok (.aload_n 0, 1) := by decide +kernel
theorem dX11_liveOnce_71 : decode cX11_liveOnce 71 = .ok (.invokevirtual 345, 3) := by decide +kernel
theorem dX11_liveOnce_74 : decode cX11_liveOnce 74 = .ok (.iconst 4, 1) := by decide +kernel
theorem dX11_liveOnce_75 : decode cX11_liveOnce 75 = .ok (.irem, 1) := by decide +kernel
theorem dX11_liveOnce_76 : decode cX11_liveOnce 76 = .ok (.istore 4, 2) := by decide +kernel
theorem dX11_liveOnce_78 : decode cX11_liveOnce 78 = .ok (.aload_n 0, 1) := by decide +kernel
theorem dX11_liveOnce_79 : decode cX11_liveOnce 79 = .ok (.getfield 27, 3) := by decide +kernel
theorem dX11_liveOnce_82 : decode cX11_liveOnce 82 = .ok (.iload_n 3, 1) := by decide +kernel
theorem dX11_liveOnce_83 : decode cX11_liveOnce 83 = .ok (.iload 4, 2) := by decide +kernel
theorem dX11_liveOnce_85 : decode cX11_liveOnce 85 = .ok (.invokevirtual 198, 3) := by decide +kernel
theorem dX11_liveOnce_88 : decode cX11_liveOnce 88 = .ok (.ifCond .eq 5, 3) := by decide +kernel
theorem dX11_liveOnce_91 : decode cX11_liveOnce 91 = .ok (.iconst 0, 1) := by decide +kernel
theorem dX11_liveOnce_92 : decode cX11_liveOnce 92 = .ok (.ireturn, 1) := by decide +kernel
theorem dX11_liveOnce_93 : decode cX11_liveOnce 93 = .ok (.aload_n 0, 1) := by decide +kernel
theorem dX11_liveOnce_94 : decode cX11_liveOnce 94 = .ok (.getfield 27, 3) := by decide +kernel
theorem dX11_liveOnce_97 : decode cX11_liveOnce 97 = .ok (.iload_n 3, 1) := by decide +kernel
theorem dX11_liveOnce_98 : decode cX11_liveOnce 98 = .ok (.iload 4, 2) := by decide +kernel
theorem dX11_liveOnce_100 : decode cX11_liveOnce 100 = .ok (.invokevirtual 205, 3) := by decide +kernel
theorem dX11_liveOnce_103 : decode cX11_liveOnce 103 = .ok (.pop, 1) := by decide +kernel
theorem dX11_liveOnce_104 : decode cX11_liveOnce 104 = .ok (.iconst 1, 1) := by decide +kernel
theorem dX11_liveOnce_105 : decode cX11_liveOnce 105 = .ok (.ireturn, 1) := by decide +kernel
theorem dX11_startAnew_0 : decode cX11_startAnew 0 = .ok (.aload_n 0, 1) := by decide +kernel
theorem dX11_startAnew_1 : decode cX11_startAnew 1 = .ok (.iconst 0, 1) := by decide +kernel
theorem dX11_startAnew_2 : decode cX11_startAnew 2 = .ok (.putfield 234, 3) := by decide +kernel
theorem dX11_startAnew_5 : decode cX11_startAnew 5 = .ok (.aload_n 0, 1) := by decide +kernel
theorem dX11_startAnew_6 : decode cX11_startAnew 6 = .ok (.getfield 41, 3) := by decide +kernel
theorem dX11_startAnew_9 : decode cX11_startAnew 9 = .ok (.invokevirtual 208, 3) := by decide +kernel
theorem dX11_startAnew_12 : decode cX11_startAnew 12 = .ok (.aload_n 0, 1) := by decide +kernel
theorem dX11_startAnew_13 : decode cX11_startAnew 13 = .ok (.getfield 72, 3) := by decide +kernel
theorem dX11_startAnew_16 : decode cX11_startAnew 16 = .ok (.invokevirtual 340, 3) := by decide +kernel
theorem dX11_startAnew_19 : decode cX11_startAnew 19 = .ok (.return_, 1) := by decide +kernel
theorem o26_1 {x0 : Int} (h0 : x0 = 0) : 0 ≤ x0 := by omega
theorem o26_2 {x0 : Int} (h0 : x0 = 0) : x0 ≤ 1 := by omega
theorem o26_3 {x0 x1 : Int} (h0 : x1 < 0) (h1 : x0 = 0) : (x0 = 0 ∨ (0 ≤ x1 ∧ x1 ≤ 4)) := by omega
theorem o26_4 {x0 x1 x2 : Int} (h0 : 0 ≤ x1) (h1 : 0 ≤ x2) (h2 : x2 ≤ 5) (h3 : x2 ≤ x1) (h4 : x0 = 0) : (x0 = 0 ∨ (0 ≤ x1 ∧ x1 ≤ 4)) := by omega
theorem o26_5 {x0 : Int} (h0 : x0 = 1) : 0 ≤ x0 := by omega
theorem o26_6 {x0 : Int} (h0 : x0 = 1) : x0 ≤ 1 := by omega
theorem o26_7 {x0 x1 x2 : Int} (h0 : 0 ≤ x1) (h1 : 0 ≤ x2) (h2 : x2 ≤ 5) (h3 : x1 < x2) (h4 : x0 = 1) : (x0 = 0 ∨ (0 ≤ x1 ∧ x1 ≤ 4)) := by omega
theorem o26_8 {x0 x1 : Int} (h0 : x1 < 0) (h1 : x0 = 0) : (x0 = 0 ∨ (0 ≤ x1 ∧ x1 ≤ 24)) := by omega
theorem o26_9 {x0 x1 x2 : Int} (h0 : 0 ≤ x1) (h1 : 0 ≤ x2) (h2 : x2 ≤ 25) (h3 : x2 ≤ x1) (h4 : x0 = 0) : (x0 = 0 ∨ (0 ≤ x1 ∧ x1 ≤ 24)) := by omega
theorem o26_10 {x0 x1 x2 : Int} (h0 : 0 ≤ x1) (h1 : 0 ≤ x2) (h2 : x2 ≤ 25) (h3 : x1 < x2) (h4 : x0 = 1) : (x0 = 0 ∨ (0 ≤ x1 ∧ x1 ≤ 24)) := by omega
theorem o26_11 {x0 x1 x2 x3 : Int} (h0 : 0 ≤ x3) (h1 : x3 ≤ 1) (h2 : (x3 = 0 ∨ (0 ≤ x1 ∧ x1 ≤ 24))) (h3 : x3 = 0) (h4 : x0 = 0) : (x0 = 0 ∨ (0 ≤ x1 ∧ x1 ≤ 24 ∧ 0 ≤ x2 ∧ x2 ≤ 3)) := by omega
theorem o26_12 {x0 x1 x2 x3 : Int} (h0 : 0 ≤ x3) (h1 : x3 ≤ 1) (h2 : (x3 = 0 ∨ (0 ≤ x1 ∧ x1 ≤ 24))) (h3 : ¬ x3 = 0) (h4 : x2 < 0) (h5 : x0 = 0) : (x0 = 0 ∨ (0 ≤ x1 ∧ x1 ≤ 24 ∧ 0 ≤ x2 ∧ x2 ≤ 3)) := by omega
theorem o26_13 {x0 x1 x2 x3 x4 : Int} (h0 : 0 ≤ x3) (h1 : x3 ≤ 1) (h2 : (x3 = 0 ∨ (0 ≤ x1 ∧ x1 ≤ 24))) (h3 : ¬ x3 = 0) (h4 : 0 ≤ x2) (h5 : x4 = 4) (h6 : x4 ≤ x2) (h7 : x0 = 0) : (x0 = 0 ∨ (0 ≤ x1 ∧ x1 ≤ 24 ∧ 0 ≤ x2 ∧ x2 ≤ 3)) := by omega
theorem o26_14 {x0 x1 x2 x3 x4 : Int} (h0 : 0 ≤ x3) (h1 : x3 ≤ 1) (h2 : (x3 = 0 ∨ (0 ≤ x1 ∧ x1 ≤ 24))) (h3 : ¬ x3 = 0) (h4 : 0 ≤ x2) (h5 : x4 = 4) (h6 : x2 < x4) (h7 : x0 = 1) : (x0 = 0 ∨ (0 ≤ x1 ∧ x1 ≤ 24 ∧ 0 ≤ x2 ∧ x2 ≤ 3)) := by omega
theorem o26_15 {x0 x1 : Int} (h0 : x1 < 0) (h1 : x0 = 0) : ((x0 = 0 ∧ (x1 < 0 ∨ 3 < x1)) ∨ (x0 = 1 ∧ 0 ≤ x1 ∧ x1 ≤ 3)) := by omega
theorem o26_16 {x0 x1 x2 : Int} (h0 : 0 ≤ x1) (h1 : x2 = 4) (h2 : x2 ≤ x1) (h3 : x0 = 0) : ((x0 = 0 ∧ (x1 < 0 ∨ 3 < x1)) ∨ (x0 = 1 ∧ 0 ≤ x1 ∧ x1 ≤ 3)) := by omega
theorem o26_17 {x0 x1 x2 : Int} (h0 : 0 ≤ x1) (h1 : x2 = 4) (h2 : x1 < x2) (h3 : x0 = 1) : ((x0 = 0 ∧ (x1 < 0 ∨ 3 < x1)) ∨ (x0 = 1 ∧ 0 ≤ x1 ∧ x1 ≤ 3)) := by omega
theorem o26_18 {x0 : Int} (h0 : x0 = 0) : x0 ≤ 10 := by omega
theorem o26_19 {x0 x1 x2 x3 : Int} (h0 : 0 ≤ x2) (h1 : x2 ≤ 10) (h2 : x3 = 10) (h3 : ¬ x2 = x3) (h4 : 0 ≤ x0) (h5 : x0 ≤ 9) (h6 : 0 ≤ x1) (h7 : x1 ≤ 10) (h8 : x1 = x2) (h9 : -2147483648 ≤ x0) (h10 : x0 ≤ 2147483647) (h11 : -2147483648 ≤ x1) (h12 : x1 ≤ 2147483647) (h13 : -2147483648 ≤ x2) (h14 : x2 ≤ 2147483647) (h15 : -2147483648 ≤ x3) (h16 : x3 ≤ 2147483647) : -2147483648 ≤ x0 + x1 := by omega
theorem o26_20 {x0 x1 x2 x3 : Int} (h0 : 0 ≤ x2) (h1 : x2 ≤ 10) (h2 : x3 = 10) (h3 : ¬ x2 = x3) (h4 : 0 ≤ x0) (h5 : x0 ≤ 9) (h6 : 0 ≤ x1) (h7 : x1 ≤ 10) (h8 : x1 = x2) (h9 : -2147483648 ≤ x0) (h10 : x0 ≤ 2147483647) (h11 : -2147483648 ≤ x1) (h12 : x1 ≤ 2147483647) (h13 : -2147483648 ≤ x2) (h14 : x2 ≤ 2147483647) (h15 : -2147483648 ≤ x3) (h16 : x3 ≤ 2147483647) : x0 + x1 ≤ 2147483647 := by omega
theorem o26_21 {x0 : Int} (h0 : x0 = 10) : x0 = 10 := by omega
theorem o26_22 {x0 x1 x2 x3 x4 : Int} (h0 : 0 ≤ x1) (h1 : x1 ≤ 10) (h2 : x2 = 10) (h3 : ¬ x1 = x2) (h4 : 0 ≤ x3) (h5 : x3 ≤ 9) (h6 : 0 ≤ x4) (h7 : x4 ≤ 10) (h8 : x4 = x1) (h9 : x0 = x3 + x4) : 0 ≤ x0 := by omega
theorem o26_23 {x0 x1 x2 x3 x4 x5 : Int} (h0 : 0 ≤ x1) (h1 : x1 ≤ 10) (h2 : x2 = 10) (h3 : ¬ x1 = x2) (h4 : 0 ≤ x3) (h5 : x3 ≤ 9) (h6 : 0 ≤ x4) (h7 : x4 ≤ 10) (h8 : x4 = x1) (h9 : x5 = x3 + x4) (h10 : x0 = x5 % 10) : 0 ≤ x0 := by omega
theorem o26_24 {x0 x1 x2 x3 x4 x5 : Int} (h0 : 0 ≤ x1) (h1 : x1 ≤ 10) (h2 : x2 = 10) (h3 : ¬ x1 = x2) (h4 : 0 ≤ x3) (h5 : x3 ≤ 9) (h6 : 0 ≤ x4) (h7 : x4 ≤ 10) (h8 : x4 = x1) (h9 : x5 = x3 + x4) (h10 : x0 = x5 % 10) : x0 < (10 : Nat) := by omega
theorem o26_25 {x0 x1 x2 x3 x4 x5 : Int} (h0 : 0 ≤ x1) (h1 : x1 ≤ 10) (h2 : x2 = 10) (h3 : ¬ x1 = x2) (h4 : 0 ≤ x3) (h5 : x3 ≤ 9) (h6 : 0 ≤ x4) (h7 : x4 ≤ 10) (h8 : x4 = x1) (h9 : x5 = x3 + x4) (h10 : x0 = x5 % 10) : (x0).toNat < 10 := by omega
theorem o26_26 {x0 x1 x2 x3 x4 x5 x6 x7 : Int} (h0 : 0 ≤ x2) (h1 : x2 ≤ 10) (h2 : x3 = 10) (h3 : ¬ x2 = x3) (h4 : 0 ≤ x4) (h5 : x4 ≤ 9) (h6 : 0 ≤ x5) (h7 : x5 ≤ 10) (h8 : x5 = x2) (h9 : x6 = x4 + x5) (h10 : x7 = x6 % 10) (h11 : 0 ≤ x0) (h12 : x0 ≤ 10) (h13 : x0 = x2) (h14 : x1 = 1) (h15 : -2147483648 ≤ x0) (h16 : x0 ≤ 2147483647) (h17 : -2147483648 ≤ x1) (h18 : x1 ≤ 2147483647) (h19 : -2147483648 ≤ x2) (h20 : x2 ≤ 2147483647) (h21 : -2147483648 ≤ x3) (h22 : x3 ≤ 2147483647) (h23 : -2147483648 ≤ x4) (h24 : x4 ≤ 2147483647) (h25 : -2147483648 ≤ x5) (h26 : x5 ≤ 2147483647) (h27 : -2147483648 ≤ x6) (h28 : x6 ≤ 2147483647) (h29 : -2147483648 ≤ x7) (h30 : x7 ≤ 2147483647) : -2147483648 ≤ x0 + x1 := by omega
theorem o26_27 {x0 x1 x2 x3 x4 x5 x6 x7 : Int} (h0 : 0 ≤ x2) (h1 : x2 ≤ 10) (h2 : x3 = 10) (h3 : ¬ x2 = x3) (h4 : 0 ≤ x4) (h5 : x4 ≤ 9) (h6 : 0 ≤ x5) (h7 : x5 ≤ 10) (h8 : x5 = x2) (h9 : x6 = x4 + x5) (h10 : x7 = x6 % 10) (h11 : 0 ≤ x0) (h12 : x0 ≤ 10) (h13 : x0 = x2) (h14 : x1 = 1) (h15 : -2147483648 ≤ x0) (h16 : x0 ≤ 2147483647) (h17 : -2147483648 ≤ x1) (h18 : x1 ≤ 2147483647) (h19 : -2147483648 ≤ x2) (h20 : x2 ≤ 2147483647) (h21 : -2147483648 ≤ x3) (h22 : x3 ≤ 2147483647) (h23 : -2147483648 ≤ x4) (h24 : x4 ≤ 2147483647) (h25 : -2147483648 ≤ x5) (h26 : x5 ≤ 2147483647) (h27 : -2147483648 ≤ x6) (h28 : x6 ≤ 2147483647) (h29 : -2147483648 ≤ x7) (h30 : x7 ≤ 2147483647) : x0 + x1 ≤ 2147483647 := by omega
theorem o26_28 {x0 x1 x2 x3 x4 x5 x6 x7 x8 : Int} (h0 : 0 ≤ x1) (h1 : x1 ≤ 10) (h2 : x2 = 10) (h3 : ¬ x1 = x2) (h4 : 0 ≤ x3) (h5 : x3 ≤ 9) (h6 : 0 ≤ x4) (h7 : x4 ≤ 10) (h8 : x4 = x1) (h9 : x5 = x3 + x4) (h10 : x6 = x5 % 10) (h11 : 0 ≤ x7) (h12 : x7 ≤ 10) (h13 : x7 = x1) (h14 : x8 = 1) (h15 : x0 = x7 + x8) : 0 ≤ x0 := by omega
theorem o26_29 {x0 x1 x2 x3 x4 x5 x6 x7 x8 : Int} (h0 : 0 ≤ x1) (h1 : x1 ≤ 10) (h2 : x2 = 10) (h3 : ¬ x1 = x2) (h4 : 0 ≤ x3) (h5 : x3 ≤ 9) (h6 : 0 ≤ x4) (h7 : x4 ≤ 10) (h8 : x4 = x1) (h9 : x5 = x3 + x4) (h10 : x6 = x5 % 10) (h11 : 0 ≤ x7) (h12 : x7 ≤ 10) (h13 : x7 = x1) (h14 : x8 = 1) (h15 : x0 = x7 + x8) : x0 ≤ 10 := by omega
theorem o26_30 {x0 x1 : Int} (h0 : 0 ≤ x0) (h1 : x0 ≤ 9) (h2 : x1 = 1) (h3 : -2147483648 ≤ x0) (h4 : x0 ≤ 2147483647) (h5 : -2147483648 ≤ x1) (h6 : x1 ≤ 2147483647) : -2147483648 ≤ x0 + x1 := by omega
theorem o26_31 {x0 x1 : Int} (h0 : 0 ≤ x0) (h1 : x0 ≤ 9) (h2 : x1 = 1) (h3 : -2147483648 ≤ x0) (h4 : x0 ≤ 2147483647) (h5 : -2147483648 ≤ x1) (h6 : x1 ≤ 2147483647) : x0 + x1 ≤ 2147483647 := by omega
theorem o26_32 {x0 x1 x2 : Int} (h0 : 0 ≤ x1) (h1 : x1 ≤ 9) (h2 : x2 = 1) (h3 : x0 = x1 + x2) : 0 ≤ x0 := by omega
theorem o26_33 {x0 x1 x2 x3 : Int} (h0 : 0 ≤ x1) (h1 : x1 ≤ 9) (h2 : x2 = 1) (h3 : x3 = x1 + x2) (h4 : x0 = x3 % 10) : 0 ≤ x0 := by omega
theorem o26_34 {x0 x1 x2 x3 : Int} (h0 : 0 ≤ x1) (h1 : x1 ≤ 9) (h2 : x2 = 1) (h3 : x3 = x1 + x2) (h4 : x0 = x3 % 10) : x0 ≤ 9 := by omega
theorem o26_35 {x0 x1 x2 x3 : Int} (h0 : 0 ≤ x2) (h1 : x2 ≤ 10) (h2 : x3 = 10) (h3 : x2 = x3) (h4 : 0 ≤ x0) (h5 : x0 ≤ 10) (h6 : x0 = x2) (h7 : x1 = 1) (h8 : -2147483648 ≤ x0) (h9 : x0 ≤ 2147483647) (h10 : -2147483648 ≤ x1) (h11 : x1 ≤ 2147483647) (h12 : -2147483648 ≤ x2) (h13 : x2 ≤ 2147483647) (h14 : -2147483648 ≤ x3) (h15 : x3 ≤ 2147483647) : -2147483648 ≤ x0 - x1 := by omega
theorem o26_36 {x0 x1 x2 x3 : Int} (h0 : 0 ≤ x2) (h1 : x2 ≤ 10) (h2 : x3 = 10) (h3 : x2 = x3) (h4 : 0 ≤ x0) (h5 : x0 ≤ 10) (h6 : x0 = x2) (h7 : x1 = 1) (h8 : -2147483648 ≤ x0) (h9 : x0 ≤ 2147483647) (h10 : -2147483648 ≤ x1) (h11 : x1 ≤ 2147483647) (h12 : -2147483648 ≤ x2) (h13 : x2 ≤ 2147483647) (h14 : -2147483648 ≤ x3) (h15 : x3 ≤ 2147483647) : x0 - x1 ≤ 2147483647 := by omega
theorem o26_37 {x0 x1 x2 x3 x4 : Int} (h0 : 0 ≤ x1) (h1 : x1 ≤ 10) (h2 : x2 = 10) (h3 : x1 = x2) (h4 : 0 ≤ x3) (h5 : x3 ≤ 10) (h6 : x3 = x1) (h7 : x4 = 1) (h8 : x0 = x3 - x4) : 0 ≤ x0 := by omega
theorem o26_38 {x0 x1 x2 x3 x4 : Int} (h0 : 0 ≤ x1) (h1 : x1 ≤ 10) (h2 : x2 = 10) (h3 : x1 = x2) (h4 : 0 ≤ x3) (h5 : x3 ≤ 10) (h6 : x3 = x1) (h7 : x4 = 1) (h8 : x0 = x3 - x4) : x0 ≤ 10 := by omega
theorem o26_39 {x0 x1 x2 x3 x4 x5 x6 x7 x8 x9 x10 : Int} (h0 : 0 ≤ x2) (h1 : x2 ≤ 10) (h2 : x3 = 10) (h3 : x2 = x3) (h4 : 0 ≤ x4) (h5 : x4 ≤ 9) (h6 : x5 = 1) (h7 : x6 = x4 + x5) (h8 : x7 = x6 % 10) (h9 : 0 ≤ x8) (h10 : x8 ≤ 10) (h11 : x8 = x2) (h12 : x9 = 1) (h13 : x10 = x8 - x9) (h14 : 0 ≤ x0) (h15 : x0 ≤ 9) (h16 : x0 = x7) (h17 : 0 ≤ x1) (h18 : x1 ≤ 10) (h19 : x1 = x10) (h20 : -2147483648 ≤ x0) (h21 : x0 ≤ 2147483647) (h22 : -2147483648 ≤ x1) (h23 : x1 ≤ 2147483647) (h24 : -2147483648 ≤ x2) (h25 : x2 ≤ 2147483647) (h26 : -2147483648 ≤ x3) (h27 : x3 ≤ 2147483647) (h28 : -2147483648 ≤ x4) (h29 : x4 ≤ 2147483647) (h30 : -2147483648 ≤ x5) (h31 : x5 ≤ 2147483647) (h32 : -2147483648 ≤ x6) (h33 : x6 ≤ 2147483647) (h34 : -2147483648 ≤ x7) (h35 : x7 ≤ 2147483647) (h36 : -2147483648 ≤ x8) (h37 : x8 ≤ 2147483647) (h38 : -2147483648 ≤ x9) (h39 : x9 ≤ 2147483647) (h40 : -2147483648 ≤ x10) (h41 : x10 ≤ 2147483647) : -2147483648 ≤ x0 + x1 := by omega
theorem o26_40 {x0 x1 x2 x3 x4 x5 x6 x7 x8 x9 x10 : Int} (h0 : 0 ≤ x2) (h1 : x2 ≤ 10) (h2 : x3 = 10) (h3 : x2 = x3) (h4 : 0 ≤ x4) (h5 : x4 ≤ 9) (h6 : x5 = 1) (h7 : x6 = x4 + x5) (h8 : x7 = x6 % 10) (h9 : 0 ≤ x8) (h10 : x8 ≤ 10) (h11 : x8 = x2) (h12 : x9 = 1) (h13 : x10 = x8 - x9) (h14 : 0 ≤ x0) (h15 : x0 ≤ 9) (h16 : x0 = x7) (h17 : 0 ≤ x1) (h18 : x1 ≤ 10) (h19 : x1 = x10) (h20 : -2147483648 ≤ x0) (h21 : x0 ≤ 2147483647) (h22 : -2147483648 ≤ x1) (h23 : x1 ≤ 2147483647) (h24 : -2147483648 ≤ x2) (h25 : x2 ≤ 2147483647) (h26 : -2147483648 ≤ x3) (h27 : x3 ≤ 2147483647) (h28 : -2147483648 ≤ x4) (h29 : x4 ≤ 2147483647) (h30 : -2147483648 ≤ x5) (h31 : x5 ≤ 2147483647) (h32 : -2147483648 ≤ x6) (h33 : x6 ≤ 2147483647) (h34 : -2147483648 ≤ x7) (h35 : x7 ≤ 2147483647) (h36 : -2147483648 ≤ x8) (h37 : x8 ≤ 2147483647) (h38 : -2147483648 ≤ x9) (h39 : x9 ≤ 2147483647) (h40 : -2147483648 ≤ x10) (h41 : x10 ≤ 2147483647) : x0 + x1 ≤ 2147483647 := by omega
theorem o26_41 {x0 x1 x2 x3 x4 x5 x6 x7 x8 x9 x10 x11 : Int} (h0 : 0 ≤ x1) (h1 : x1 ≤ 10) (h2 : x2 = 10) (h3 : x1 = x2) (h4 : 0 ≤ x3) (h5 : x3 ≤ 9) (h6 : x4 = 1) (h7 : x5 = x3 + x4) (h8 : x6 = x5 % 10) (h9 : 0 ≤ x7) (h10 : x7 ≤ 10) (h11 : x7 = x1) (h12 : x8 = 1) (h13 : x9 = x7 - x8) (h14 : 0 ≤ x10) (h15 : x10 ≤ 9) (h16 : x10 = x6) (h17 : 0 ≤ x11) (h18 : x11 ≤ 10) (h19 : x11 = x9) (h20 : x0 = x10 + x11) : 0 ≤ x0 := by omega
theorem o26_42 {x0 x1 x2 x3 x4 x5 x6 x7 x8 x9 x10 x11 x12 : Int} (h0 : 0 ≤ x1) (h1 : x1 ≤ 10) (h2 : x2 = 10) (h3 : x1 = x2) (h4 : 0 ≤ x3) (h5 : x3 ≤ 9) (h6 : x4 = 1) (h7 : x5 = x3 + x4) (h8 : x6 = x5 % 10) (h9 : 0 ≤ x7) (h10 : x7 ≤ 10) (h11 : x7 = x1) (h12 : x8 = 1) (h13 : x9 = x7 - x8) (h14 : 0 ≤ x10) (h15 : x10 ≤ 9) (h16 : x10 = x6) (h17 : 0 ≤ x11) (h18 : x11 ≤ 10) (h19 : x11 = x9) (h20 : x12 = x10 + x11) (h21 : x0 = x12 % 10) : 0 ≤ x0 := by omega
theorem o26_43 {x0 x1 x2 x3 x4 x5 x6 x7 x8 x9 x10 x11 x12 : Int} (h0 : 0 ≤ x1) (h1 : x1 ≤ 10) (h2 : x2 = 10) (h3 : x1 = x2) (h4 : 0 ≤ x3) (h5 : x3 ≤ 9) (h6 : x4 = 1) (h7 : x5 = x3 + x4) (h8 : x6 = x5 % 10) (h9 : 0 ≤ x7) (h10 : x7 ≤ 10) (h11 : x7 = x1) (h12 : x8 = 1) (h13 : x9 = x7 - x8) (h14 : 0 ≤ x10) (h15 : x10 ≤ 9) (h16 : x10 = x6) (h17 : 0 ≤ x11) (h18 : x11 ≤ 10) (h19 : x11 = x9) (h20 : x12 = x10 + x11) (h21 : x0 = x12 % 10) : x0 < (10 : Nat) := by omega
theorem o26_44 {x0 x1 x2 x3 x4 x5 x6 x7 x8 x9 x10 x11 x12 : Int} (h0 : 0 ≤ x1) (h1 : x1 ≤ 10) (h2 : x2 = 10) (h3 : x1 = x2) (h4 : 0 ≤ x3) (h5 : x3 ≤ 9) (h6 : x4 = 1) (h7 : x5 = x3 + x4) (h8 : x6 = x5 % 10) (h9 : 0 ≤ x7) (h10 : x7 ≤ 10) (h11 : x7 = x1) (h12 : x8 = 1) (h13 : x9 = x7 - x8) (h14 : 0 ≤ x10) (h15 : x10 ≤ 9) (h16 : x10 = x6) (h17 : 0 ≤ x11) (h18 : x11 ≤ 10) (h19 : x11 = x9) (h20 : x12 = x10 + x11) (h21 : x0 = x12 % 10) : (x0).toNat < 10 := by omega
theorem o26_45 {x0 x1 x2 x3 x4 x5 x6 x7 x8 x9 x10 x11 x12 x13 x14 : Int} (h0 : 0 ≤ x2) (h1 : x2 ≤ 10) (h2 : x3 = 10) (h3 : x2 = x3) (h4 : 0 ≤ x4) (h5 : x4 ≤ 9) (h6 : x5 = 1) (h7 : x6 = x4 + x5) (h8 : x7 = x6 % 10) (h9 : 0 ≤ x8) (h10 : x8 ≤ 10) (h11 : x8 = x2) (h12 : x9 = 1) (h13 : x10 = x8 - x9) (h14 : 0 ≤ x11) (h15 : x11 ≤ 9) (h16 : x11 = x7) (h17 : 0 ≤ x12) (h18 : x12 ≤ 10) (h19 : x12 = x10) (h20 : x13 = x11 + x12) (h21 : x14 = x13 % 10) (h22 : 0 ≤ x0) (h23 : x0 ≤ 10) (h24 : x0 = x10) (h25 : x1 = 1) (h26 : -2147483648 ≤ x0) (h27 : x0 ≤ 2147483647) (h28 : -2147483648 ≤ x1) (h29 : x1 ≤ 2147483647) (h30 : -2147483648 ≤ x2) (h31 : x2 ≤ 2147483647) (h32 : -2147483648 ≤ x3) (h33 : x3 ≤ 2147483647) (h34 : -2147483648 ≤ x4) (h35 : x4 ≤ 2147483647) (h36 : -2147483648 ≤ x5) (h37 : x5 ≤ 2147483647) (h38 : -2147483648 ≤ x6) (h39 : x6 ≤ 2147483647) (h40 : -2147483648 ≤ x7) (h41 : x7 ≤ 2147483647) (h42 : -2147483648 ≤ x8) (h43 : x8 ≤ 2147483647) (h44 : -2147483648 ≤ x9) (h45 : x9 ≤ 2147483647) (h46 : -2147483648 ≤ x10) (h47 : x10 ≤ 2147483647) (h48 : -2147483648 ≤ x11) (h49 : x11 ≤ 2147483647) (h50 : -2147483648 ≤ x12) (h51 : x12 ≤ 2147483647) (h52 : -2147483648 ≤ x13) (h53 : x13 ≤ 2147483647) (h54 : -2147483648 ≤ x14) (h55 : x14 ≤ 2147483647) : -2147483648 ≤ x0 + x1 := by omega
theorem o26_46 {x0 x1 x2 x3 x4 x5 x6 x7 x8 x9 x10 x11 x12 x13 x14 : Int} (h0 : 0 ≤ x2) (h1 : x2 ≤ 10) (h2 : x3 = 10) (h3 : x2 = x3) (h4 : 0 ≤ x4) (h5 : x4 ≤ 9) (h6 : x5 = 1) (h7 : x6 = x4 + x5) (h8 : x7 = x6 % 10) (h9 : 0 ≤ x8) (h10 : x8 ≤ 10) (h11 : x8 = x2) (h12 : x9 = 1) (h13 : x10 = x8 - x9) (h14 : 0 ≤ x11) (h15 : x11 ≤ 9) (h16 : x11 = x7) (h17 : 0 ≤ x12) (h18 : x12 ≤ 10) (h19 : x12 = x10) (h20 : x13 = x11 + x12) (h21 : x14 = x13 % 10) (h22 : 0 ≤ x0) (h23 : x0 ≤ 10) (h24 : x0 = x10) (h25 : x1 = 1) (h26 : -2147483648 ≤ x0) (h27 : x0 ≤ 2147483647) (h28 : -2147483648 ≤ x1) (h29 : x1 ≤ 2147483647) (h30 : -2147483648 ≤ x2) (h31 : x2 ≤ 2147483647) (h32 : -2147483648 ≤ x3) (h33 : x3 ≤ 2147483647) (h34 : -2147483648 ≤ x4) (h35 : x4 ≤ 2147483647) (h36 : -2147483648 ≤ x5) (h37 : x5 ≤ 2147483647) (h38 : -2147483648 ≤ x6) (h39 : x6 ≤ 2147483647) (h40 : -2147483648 ≤ x7) (h41 : x7 ≤ 2147483647) (h42 : -2147483648 ≤ x8) (h43 : x8 ≤ 2147483647) (h44 : -2147483648 ≤ x9) (h45 : x9 ≤ 2147483647) (h46 : -2147483648 ≤ x10) (h47 : x10 ≤ 2147483647) (h48 : -2147483648 ≤ x11) (h49 : x11 ≤ 2147483647) (h50 : -2147483648 ≤ x12) (h51 : x12 ≤ 2147483647) (h52 : -2147483648 ≤ x13) (h53 : x13 ≤ 2147483647) (h54 : -2147483648 ≤ x14) (h55 : x14 ≤ 2147483647) : x0 + x1 ≤ 2147483647 := by omega
theorem o26_47 {x0 x1 x2 x3 x4 x5 x6 x7 x8 x9 x10 x11 x12 x13 x14 x15 : Int} (h0 : 0 ≤ x1) (h1 : x1 ≤ 10) (h2 : x2 = 10) (h3 : x1 = x2) (h4 : 0 ≤ x3) (h5 : x3 ≤ 9) (h6 : x4 = 1) (h7 : x5 = x3 + x4) (h8 : x6 = x5 % 10) (h9 : 0 ≤ x7) (h10 : x7 ≤ 10) (h11 : x7 = x1) (h12 : x8 = 1) (h13 : x9 = x7 - x8) (h14 : 0 ≤ x10) (h15 : x10 ≤ 9) (h16 : x10 = x6) (h17 : 0 ≤ x11) (h18 : x11 ≤ 10) (h19 : x11 = x9) (h20 : x12 = x10 + x11) (h21 : x13 = x12 % 10) (h22 : 0 ≤ x14) (h23 : x14 ≤ 10) (h24 : x14 = x9) (h25 : x15 = 1) (h26 : x0 = x14 + x15) : 0 ≤ x0 := by omega
theorem o26_48 {x0 x1 x2 x3 x4 x5 x6 x7 x8 x9 x10 x11 x12 x13 x14 x15 : Int} (h0 : 0 ≤ x1) (h1 : x1 ≤ 10) (h2 : x2 = 10) (h3 : x1 = x2) (h4 : 0 ≤ x3) (h5 : x3 ≤ 9) (h6 : x4 = 1) (h7 : x5 = x3 + x4) (h8 : x6 = x5 % 10) (h9 : 0 ≤ x7) (h10 : x7 ≤ 10) (h11 : x7 = x1) (h12 : x8 = 1) (h13 : x9 = x7 - x8) (h14 : 0 ≤ x10) (h15 : x10 ≤ 9) (h16 : x10 = x6) (h17 : 0 ≤ x11) (h18 : x11 ≤ 10) (h19 : x11 = x9) (h20 : x12 = x10 + x11) (h21 : x13 = x12 % 10) (h22 : 0 ≤ x14) (h23 : x14 ≤ 10) (h24 : x14 = x9) (h25 : x15 = 1) (h26 : x0 = x14 + x15) : x0 ≤ 10 := by omega
theorem o26_49 {x0 : Int} (h0 : x0 = 16) : x0 = 16 := by omega
theorem o26_50 {x0 : Int} (h0 : 0 ≤ x0) (h1 : x0 ≤ 65535) : 0 ≤ x0 := by omega
theorem o26_51 {x0 : Int} (h0 : 0 ≤ x0) (h1 : x0 ≤ 65535) : x0 ≤ 65535 := by omega
theorem o26_52 {x0 x1 : Int} (h0 : (-1) ≤ x1) (h1 : 0 ≤ x0) (h2 : x0 ≤ 1) (h3 : (x0 = 0 ∨ (0 ≤ x1 ∧ x1 ≤ 4))) (h4 : x0 = 0) (h5 : ¬ x0 = 0) : False := by omega
theorem o26_53 {x0 : Int} (h0 : 1 ≤ x0) (h1 : x0 ≤ 1) (h2 : 1 - x0 < 0) : False := by omega
theorem o26_54 {x0 : Int} (h0 : x0 = 0) : x0 < (4 : Nat) := by omega
theorem o26_55 {x0 : Int} (h0 : x0 = 1) : x0 < (4 : Nat) := by omega
theorem o26_56 {x0 : Int} (h0 : x0 = 2) : 0 ≤ x0 := by omega
theorem o26_57 {x0 : Int} (h0 : x0 = 2) : x0 < (4 : Nat) := by omega
theorem o26_58 {x0 : Int} (h0 : x0 = 3) : 0 ≤ x0 := by omega
theorem o26_59 {x0 : Int} (h0 : x0 = 3) : x0 < (4 : Nat) := by omega
theorem o26_60 {x0 : Int} (h0 : 1 ≤ x0) (h1 : x0 ≤ 1) (h2 : x0 = 0) : False := by omega
theorem o26_61 {x0 : Int} (h0 : x0 = 1) : 1 - x0 < (((1 - x0 + 1).toNat : Nat) : Int) := by omega
theorem o26_62 {x0 : Int} (h0 : x0 = 1) : 1 ≤ x0 := by omega
theorem o26_63 {x0 : Int} (h0 : x0 = 0) : x0 ≤ 0 := by omega
theorem o26_64 {x0 x1 : Int} (h0 : (-1) ≤ x1) (h1 : 0 ≤ x0) (h2 : x0 ≤ 1) (h3 : (x0 = 0 ∨ (0 ≤ x1 ∧ x1 ≤ 4))) (h4 : ¬ x0 = 0) (h5 : x0 = 0) : False := by omega
theorem o26_65 {x0 : Int} (h0 : 1 ≤ x0) (h1 : x0 ≤ 40) (h2 : 40 - x0 < 0) : False := by omega
theorem o26_66 {x0 x1 : Int} (h0 : (-1) ≤ x0) (h1 : 0 ≤ x1) (h2 : x1 ≤ 1) (h3 : (x1 = 0 ∨ (0 ≤ x0 ∧ x0 ≤ 4))) (h4 : ¬ x1 = 0) : 0 ≤ x0 := by omega
theorem o26_67 {x0 x1 : Int} (h0 : (-1) ≤ x0) (h1 : 0 ≤ x1) (h2 : x1 ≤ 1) (h3 : (x1 = 0 ∨ (0 ≤ x0 ∧ x0 ≤ 4))) (h4 : ¬ x1 = 0) : x0 < (5 : Nat) := by omega
theorem o26_68 {x0 x2 : Int} {x1 : Nat} (h0 : 1 ≤ x0) (h1 : x0 ≤ 40) (h2 : 40 - x0 < ((x1 + 1 : Nat) : Int)) (h3 : (-1) ≤ x2) (h4 : x2 ≤ 40) (h5 : x0 < x2) (h6 : -2147483648 ≤ x0) (h7 : x0 ≤ 2147483647) (h8 : -2147483648 ≤ x2) (h9 : x2 ≤ 2147483647) : -2147483648 ≤ x0 + 1 := by omega
theorem o26_69 {x0 x2 : Int} {x1 : Nat} (h0 : 1 ≤ x0) (h1 : x0 ≤ 40) (h2 : 40 - x0 < ((x1 + 1 : Nat) : Int)) (h3 : (-1) ≤ x2) (h4 : x2 ≤ 40) (h5 : x0 < x2) (h6 : -2147483648 ≤ x0) (h7 : x0 ≤ 2147483647) (h8 : -2147483648 ≤ x2) (h9 : x2 ≤ 2147483647) : x0 + 1 ≤ 2147483647 := by omega
theorem o26_70 {x0 x2 x3 : Int} {x1 : Nat} (h0 : 1 ≤ x2) (h1 : x2 ≤ 40) (h2 : 40 - x2 < ((x1 + 1 : Nat) : Int)) (h3 : (-1) ≤ x3) (h4 : x3 ≤ 40) (h5 : x2 < x3) (h6 : x0 = x2 + 1) : 40 - x0 < (x1 : Int) := by omega
theorem o26_71 {x0 x1 x3 : Int} {x2 : Nat} (h0 : 1 ≤ x1) (h1 : x1 ≤ 40) (h2 : 40 - x1 < ((x2 + 1 : Nat) : Int)) (h3 : (-1) ≤ x3) (h4 : x3 ≤ 40) (h5 : x1 < x3) (h6 : x0 = x1 + 1) : 1 ≤ x0 := by omega
theorem o26_72 {x0 x1 x3 : Int} {x2 : Nat} (h0 : 1 ≤ x1) (h1 : x1 ≤ 40) (h2 : 40 - x1 < ((x2 + 1 : Nat) : Int)) (h3 : (-1) ≤ x3) (h4 : x3 ≤ 40) (h5 : x1 < x3) (h6 : x0 = x1 + 1) : x0 ≤ 40 := by omega
theorem o26_73 {x0 x1 x2 x3 : Int} (h0 : (-1) ≤ x1) (h1 : 0 ≤ x2) (h2 : x2 ≤ 1) (h3 : (x2 = 0 ∨ (0 ≤ x1 ∧ x1 ≤ 4))) (h4 : ¬ x2 = 0) (h5 : (-1) ≤ x3) (h6 : 0 ≤ x0) (h7 : x0 ≤ 4) (h8 : (x0 = 0 → 0 ≤ x1) ∧ (x0 = 0 → x1 ≤ 4) ∧ (x0 = 0 → 0 ≤ x3) ∧ (x0 = 0 → x3 ≤ 3)) (h9 : ¬ x0 = 0) : 0 ≤ x0 := by omega
theorem o26_74 {x0 x1 x2 x3 : Int} (h0 : (-1) ≤ x1) (h1 : 0 ≤ x2) (h2 : x2 ≤ 1) (h3 : (x2 = 0 ∨ (0 ≤ x1 ∧ x1 ≤ 4))) (h4 : ¬ x2 = 0) (h5 : (-1) ≤ x3) (h6 : 0 ≤ x0) (h7 : x0 ≤ 4) (h8 : (x0 = 0 → 0 ≤ x1) ∧ (x0 = 0 → x1 ≤ 4) ∧ (x0 = 0 → 0 ≤ x3) ∧ (x0 = 0 → x3 ≤ 3)) (h9 : ¬ x0 = 0) : x0 ≤ 4 := by omega
theorem o26_75 {x0 x2 x3 : Int} {x1 : Nat} (h0 : 1 ≤ x0) (h1 : x0 ≤ 40) (h2 : 40 - x0 < ((x1 + 1 : Nat) : Int)) (h3 : (-1) ≤ x2) (h4 : x2 ≤ 40) (h5 : x0 < x2) (h6 : x3 = x0 + 1) : (-1) ≤ x0 := by omega
theorem o26_76 {x0 x2 x3 : Int} {x1 : Nat} (h0 : 1 ≤ x0) (h1 : x0 ≤ 40) (h2 : 40 - x0 < ((x1 + 1 : Nat) : Int)) (h3 : (-1) ≤ x2) (h4 : x2 ≤ 40) (h5 : x0 < x2) (h6 : x3 = x0 + 1) : x0 ≤ 39 := by omega
theorem o26_77 {x0 x1 x2 x3 : Int} (h0 : (-1) ≤ x0) (h1 : 0 ≤ x1) (h2 : x1 ≤ 1) (h3 : (x1 = 0 ∨ (0 ≤ x0 ∧ x0 ≤ 4))) (h4 : ¬ x1 = 0) (h5 : (-1) ≤ x2) (h6 : 0 ≤ x3) (h7 : x3 ≤ 4) (h8 : (x3 = 0 → 0 ≤ x0) ∧ (x3 = 0 → x0 ≤ 4) ∧ (x3 = 0 → 0 ≤ x2) ∧ (x3 = 0 → x2 ≤ 3)) (h9 : x3 = 0) : 0 ≤ x0 := by omega
theorem o26_78 {x0 x1 x2 x3 : Int} (h0 : (-1) ≤ x0) (h1 : 0 ≤ x1) (h2 : x1 ≤ 1) (h3 : (x1 = 0 ∨ (0 ≤ x0 ∧ x0 ≤ 4))) (h4 : ¬ x1 = 0) (h5 : (-1) ≤ x2) (h6 : 0 ≤ x3) (h7 : x3 ≤ 4) (h8 : (x3 = 0 → 0 ≤ x0) ∧ (x3 = 0 → x0 ≤ 4) ∧ (x3 = 0 → 0 ≤ x2) ∧ (x3 = 0 → x2 ≤ 3)) (h9 : x3 = 0) : x0 ≤ 4 := by omega
theorem o26_79 {x0 x1 x2 x3 : Int} (h0 : (-1) ≤ x1) (h1 : 0 ≤ x2) (h2 : x2 ≤ 1) (h3 : (x2 = 0 ∨ (0 ≤ x1 ∧ x1 ≤ 4))) (h4 : ¬ x2 = 0) (h5 : (-1) ≤ x0) (h6 : 0 ≤ x3) (h7 : x3 ≤ 4) (h8 : (x3 = 0 → 0 ≤ x1) ∧ (x3 = 0 → x1 ≤ 4) ∧ (x3 = 0 → 0 ≤ x0) ∧ (x3 = 0 → x0 ≤ 3)) (h9 : x3 = 0) : 0 ≤ x0 := by omega
theorem o26_80 {x0 x1 x2 x3 : Int} (h0 : (-1) ≤ x1) (h1 : 0 ≤ x2) (h2 : x2 ≤ 1) (h3 : (x2 = 0 ∨ (0 ≤ x1 ∧ x1 ≤ 4))) (h4 : ¬ x2 = 0) (h5 : (-1) ≤ x0) (h6 : 0 ≤ x3) (h7 : x3 ≤ 4) (h8 : (x3 = 0 → 0 ≤ x1) ∧ (x3 = 0 → x1 ≤ 4) ∧ (x3 = 0 → 0 ≤ x0) ∧ (x3 = 0 → x0 ≤ 3)) (h9 : x3 = 0) : x0 ≤ 3 := by omega
theorem o26_81 {x0 x1 x2 x3 : Int} (h0 : (-1) ≤ x1) (h1 : 0 ≤ x2) (h2 : x2 ≤ 1) (h3 : (x2 = 0 ∨ (0 ≤ x1 ∧ x1 ≤ 4))) (h4 : ¬ x2 = 0) (h5 : (-1) ≤ x3) (h6 : 0 ≤ x0) (h7 : x0 ≤ 4) (h8 : (x0 = 0 → 0 ≤ x1) ∧ (x0 = 0 → x1 ≤ 4) ∧ (x0 = 0 → 0 ≤ x3) ∧ (x0 = 0 → x3 ≤ 3)) (h9 : x0 = 0) : x0 = 0 := by omega
theorem o26_82 {x0 x1 x2 x3 : Int} (h0 : (-1) ≤ x1) (h1 : 0 ≤ x2) (h2 : x2 ≤ 1) (h3 : (x2 = 0 ∨ (0 ≤ x1 ∧ x1 ≤ 4))) (h4 : ¬ x2 = 0) (h5 : (-1) ≤ x3) (h6 : 0 ≤ x0) (h7 : x0 ≤ 4) (h8 : (x0 = 0 → 0 ≤ x1) ∧ (x0 = 0 → x1 ≤ 4) ∧ (x0 = 0 → 0 ≤ x3) ∧ (x0 = 0 → x3 ≤ 3)) (h9 : x0 = 0) : 0 ≤ x0 := by omega
theorem o26_83 {x0 x1 x2 x3 : Int} (h0 : (-1) ≤ x1) (h1 : 0 ≤ x2) (h2 : x2 ≤ 1) (h3 : (x2 = 0 ∨ (0 ≤ x1 ∧ x1 ≤ 4))) (h4 : ¬ x2 = 0) (h5 : (-1) ≤ x3) (h6 : 0 ≤ x0) (h7 : x0 ≤ 4) (h8 : (x0 = 0 → 0 ≤ x1) ∧ (x0 = 0 → x1 ≤ 4) ∧ (x0 = 0 → 0 ≤ x3) ∧ (x0 = 0 → x3 ≤ 3)) (h9 : x0 = 0) : x0 ≤ 4 := by omega
theorem o26_84 {x0 : Int} (h0 : (-1) ≤ x0) (h1 : x0 ≤ 39) : (-1) ≤ x0 := by omega
theorem o26_85 {x0 : Int} (h0 : (-1) ≤ x0) (h1 : x0 ≤ 39) : x0 ≤ 39 := by omega
theorem o26_86 {x0 : Int} (h0 : x0 = 1) : 40 - x0 < (((40 - x0 + 1).toNat : Nat) : Int) := by omega
theorem o26_87 {x0 : Int} (h0 : x0 = 1) : x0 ≤ 40 := by omega
theorem o26_88 {x0 : Int} (h0 : x0 = 0) : x0 ≤ 4 := by omega
theorem o26_89 {x0 : Int} (h0 : x0 = (-1)) : (-1) ≤ x0 := by omega
theorem o26_90 {x0 : Int} (h0 : x0 = (-1)) : x0 ≤ 39 := by omega
theorem o26_91 {x0 : Int} (h0 : x0 = 4) : x0 = 4 := by omega
theorem o26_92 {x0 x1 x2 x3 : Int} (h0 : x0 = 0) (h1 : 0 ≤ x1) (h2 : x1 ≤ 65535) (h3 : x2 = x1 % 4) (h4 : 0 ≤ x3) (h5 : x3 ≤ 4) (h6 : (x3 = 0 → 0 ≤ x0) ∧ (x3 = 0 → x0 ≤ 4) ∧ (x3 = 0 → 0 ≤ x2) ∧ (x3 = 0 → x2 ≤ 3)) (h7 : x3 = 0) : 0 ≤ x0 := by omega
theorem o26_93 {x0 x1 x2 x3 : Int} (h0 : x0 = 0) (h1 : 0 ≤ x1) (h2 : x1 ≤ 65535) (h3 : x2 = x1 % 4) (h4 : 0 ≤ x3) (h5 : x3 ≤ 4) (h6 : (x3 = 0 → 0 ≤ x0) ∧ (x3 = 0 → x0 ≤ 4) ∧ (x3 = 0 → 0 ≤ x2) ∧ (x3 = 0 → x2 ≤ 3)) (h7 : x3 = 0) : x0 ≤ 4 := by omega
theorem o26_94 {x0 x1 x2 x3 : Int} (h0 : x1 = 0) (h1 : 0 ≤ x2) (h2 : x2 ≤ 65535) (h3 : x0 = x2 % 4) (h4 : 0 ≤ x3) (h5 : x3 ≤ 4) (h6 : (x3 = 0 → 0 ≤ x1) ∧ (x3 = 0 → x1 ≤ 4) ∧ (x3 = 0 → 0 ≤ x0) ∧ (x3 = 0 → x0 ≤ 3)) (h7 : x3 = 0) : 0 ≤ x0 := by omega
theorem o26_95 {x0 x1 x2 x3 : Int} (h0 : x1 = 0) (h1 : 0 ≤ x2) (h2 : x2 ≤ 65535) (h3 : x0 = x2 % 4) (h4 : 0 ≤ x3) (h5 : x3 ≤ 4) (h6 : (x3 = 0 → 0 ≤ x1) ∧ (x3 = 0 → x1 ≤ 4) ∧ (x3 = 0 → 0 ≤ x0) ∧ (x3 = 0 → x0 ≤ 3)) (h7 : x3 = 0) : x0 ≤ 3 := by omega
theorem o26_96 {x0 x1 x2 x3 : Int} (h0 : x1 = 0) (h1 : 0 ≤ x2) (h2 : x2 ≤ 65535) (h3 : x3 = x2 % 4) (h4 : 0 ≤ x0) (h5 : x0 ≤ 4) (h6 : (x0 = 0 → 0 ≤ x1) ∧ (x0 = 0 → x1 ≤ 4) ∧ (x0 = 0 → 0 ≤ x3) ∧ (x0 = 0 → x3 ≤ 3)) (h7 : x0 = 0) : x0 = 0 := by omega
theorem o26_97 {x0 : Int} (h0 : 0 ≤ x0) (h1 : x0 ≤ 1) : 0 ≤ x0 := by omega
theorem o26_98 {x0 : Int} (h0 : 0 ≤ x0) (h1 : x0 ≤ 1) : x0 ≤ 1 := by omega
theorem o26_99 {x0 : Int} (h0 : 0 ≤ x0) (h1 : x0 ≤ 5) (h2 : 0 < x0) : 0 < x0 := by omega
theorem o26_100 {x0 x1 x2 x3 x4 : Int} (h0 : 0 ≤ x1) (h1 : x1 ≤ 5) (h2 : 0 < x1) (h3 : 0 ≤ x0) (h4 : x0 < x1) (h5 : 0 ≤ x2) (h6 : x2 ≤ 65535) (h7 : x3 = x2 % 4) (h8 : 0 ≤ x4) (h9 : x4 ≤ 4) (h10 : (x4 = 0 → 0 ≤ x0) ∧ (x4 = 0 → x0 ≤ 4) ∧ (x4 = 0 → 0 ≤ x3) ∧ (x4 = 0 → x3 ≤ 3)) (h11 : x4 = 0) : 0 ≤ x0 := by omega
theorem o26_101 {x0 x1 x2 x3 x4 : Int} (h0 : 0 ≤ x1) (h1 : x1 ≤ 5) (h2 : 0 < x1) (h3 : 0 ≤ x0) (h4 : x0 < x1) (h5 : 0 ≤ x2) (h6 : x2 ≤ 65535) (h7 : x3 = x2 % 4) (h8 : 0 ≤ x4) (h9 : x4 ≤ 4) (h10 : (x4 = 0 → 0 ≤ x0) ∧ (x4 = 0 → x0 ≤ 4) ∧ (x4 = 0 → 0 ≤ x3) ∧ (x4 = 0 → x3 ≤ 3)) (h11 : x4 = 0) : x0 ≤ 4 := by omega
theorem o26_102 {x0 x1 x2 x3 x4 : Int} (h0 : 0 ≤ x1) (h1 : x1 ≤ 5) (h2 : 0 < x1) (h3 : 0 ≤ x2) (h4 : x2 < x1) (h5 : 0 ≤ x3) (h6 : x3 ≤ 65535) (h7 : x0 = x3 % 4) (h8 : 0 ≤ x4) (h9 : x4 ≤ 4) (h10 : (x4 = 0 → 0 ≤ x2) ∧ (x4 = 0 → x2 ≤ 4) ∧ (x4 = 0 → 0 ≤ x0) ∧ (x4 = 0 → x0 ≤ 3)) (h11 : x4 = 0) : 0 ≤ x0 := by omega
theorem o26_103 {x0 x1 x2 x3 x4 : Int} (h0 : 0 ≤ x1) (h1 : x1 ≤ 5) (h2 : 0 < x1) (h3 : 0 ≤ x2) (h4 : x2 < x1) (h5 : 0 ≤ x3) (h6 : x3 ≤ 65535) (h7 : x0 = x3 % 4) (h8 : 0 ≤ x4) (h9 : x4 ≤ 4) (h10 : (x4 = 0 → 0 ≤ x2) ∧ (x4 = 0 → x2 ≤ 4) ∧ (x4 = 0 → 0 ≤ x0) ∧ (x4 = 0 → x0 ≤ 3)) (h11 : x4 = 0) : x0 ≤ 3 := by omega
theorem o26_104 {x0 x1 x2 x3 x4 : Int} (h0 : 0 ≤ x1) (h1 : x1 ≤ 5) (h2 : 0 < x1) (h3 : 0 ≤ x2) (h4 : x2 < x1) (h5 : 0 ≤ x3) (h6 : x3 ≤ 65535) (h7 : x4 = x3 % 4) (h8 : 0 ≤ x0) (h9 : x0 ≤ 4) (h10 : (x0 = 0 → 0 ≤ x2) ∧ (x0 = 0 → x2 ≤ 4) ∧ (x0 = 0 → 0 ≤ x4) ∧ (x0 = 0 → x4 ≤ 3)) (h11 : x0 = 0) : x0 = 0 := by omega
theorem o26_105 {x0 x1 : Int} (h0 : 0 ≤ x1) (h1 : x1 ≤ 5) (h2 : 0 < x1) (h3 : 0 ≤ x0) (h4 : x0 < x1) : 0 ≤ x0 := by omega
theorem o26_106 {x0 x1 : Int} (h0 : 0 ≤ x1) (h1 : x1 ≤ 5) (h2 : 0 < x1) (h3 : 0 ≤ x0) (h4 : x0 < x1) : x0 ≤ 4 := by omega
set_option maxHeartbeats 4000000 in
set_option maxRecDepth 100000 in
theorem c_X11_isPerson (l : Launch) (G : GG) (Z : RZ) (ad : Nat → Nat) (ws0 : va_W) (hT : Ty G (SC tt) ad ws0) (a1 : Int32) : Mq l yX11_isPerson cX11_isPerson 2 (some .boolean) 1 G Z [.ref (ad 0), .int a1] ws0 (PI G (SC tt) ad [] ws0 (fun r u => (0 ≤ r.toInt) ∧ (r.toInt ≤ 1) ∧ ((r.toInt = 0 ∨ (0 ≤ a1.toInt ∧ a1.toInt ≤ 4))))) := by
  refine Mq.start (by decide) (Nat.le_of_ble_eq_true rfl) ?_
  intro p e s m below meth c A ls C0 hZ h hl
  have hl : lv_has ls 2 [(0, .ref (ad 0)), (1, .int a1)] := hl
  have h : Wt G (SC tt) ad A s s.heap [] ws0 := ⟨h, hT⟩
  obtain ⟨args, hargs⟩ : ∃ z, z = ([.ref (ad 0), .int a1] : List Value).toArray := ⟨_, rfl⟩
  rw [← hargs] at C0 ⊢
  have C0 : Cx p s m args meth c RX11 cX11_isPerson 2 (some .boolean) := C0
  obtain ⟨Q, hQ⟩ : ∃ z, z = MQ below ((PI G (SC tt) ad [] ws0 (fun r u => (0 ≤ r.toInt) ∧ (r.toInt ≤ 1) ∧ ((r.toInt = 0 ∨ (0 ≤ a1.toInt ∧ a1.toInt ≤ 4))))) A) args s 0 0 A := ⟨_, rfl⟩
  rw [← hQ]
  refine lv_iload_n C0.1 C0.2.1 dX11_isPerson_0 rfl (lv_at hl 1 rfl) ?_
  refine y_if_lt (tgt := 22) C0 dX11_isPerson_1 (by decide) (fun c_1 => ?_) (fun c_1 => ?_)
  · -- 1
    refine y_c1 (n := 0) C0 (by decide) dX11_isPerson_22 (fun v_2 e_3 => ?_)
    rw [hQ]
    exact y_zret C0 h (o26_1 e_3) (o26_2 e_3) Fr.rf ⟨(o26_1 e_3), (o26_2 e_3), (o26_3 c_1 e_3)⟩ dX11_isPerson_23
  · -- 1
    refine lv_iload_n C0.1 C0.2.1 dX11_isPerson_4 rfl (lv_at hl 1 rfl) ?_
    refine lv_aload_n C0.1 C0.2.1 dX11_isPerson_5 rfl (lv_at hl 0 rfl) ?_
    refine tg_X11_now C0 h kSC_0 q_515 dX11_isPerson_6 ?_
    refine tg_X0_folk C0 h kSC_1 q_249 dX11_isPerson_9 ?_
    refine tg_X1_people C0 h kSC_10 q_215 dX11_isPerson_12 (fun v_4 e_5 e_6 e_7 => ?_)
    refine y_icmp_ge (tgt := 22) C0 dX11_isPerson_15 (by decide) (fun c_8 => ?_) (fun c_8 => ?_)
    · -- 15
      refine y_c1 (n := 0) C0 (by decide) dX11_isPerson_22 (fun v_9 e_10 => ?_)
      rw [hQ]
      exact y_zret C0 h (o26_1 e_10) (o26_2 e_10) Fr.rf ⟨(o26_1 e_10), (o26_2 e_10), (o26_4 c_1 e_6 e_7 c_8 e_10)⟩ dX11_isPerson_23
    · -- 15
      refine y_c1 (n := 1) C0 (by decide) dX11_isPerson_18 (fun v_11 e_12 => ?_)
      refine lv_goto (tgt := 23) C0.1 C0.2.1 dX11_isPerson_19 (by decide) ?_
      rw [hQ]
      exact y_zret C0 h (o26_5 e_12) (o26_6 e_12) Fr.rf ⟨(o26_5 e_12), (o26_6 e_12), (o26_7 c_1 e_6 e_7 c_8 e_12)⟩ dX11_isPerson_23
set_option maxHeartbeats 4000000 in
set_option maxRecDepth 100000 in
theorem c_X11_isCrossing (l : Launch) (G : GG) (Z : RZ) (ad : Nat → Nat) (ws0 : va_W) (hT : Ty G (SC tt) ad ws0) (a1 : Int32) : Mq l yX11_isCrossing cX11_isCrossing 2 (some .boolean) 2 G Z [.ref (ad 0), .int a1] ws0 (PI G (SC tt) ad [] ws0 (fun r u => (0 ≤ r.toInt) ∧ (r.toInt ≤ 1) ∧ ((r.toInt = 0 ∨ (0 ≤ a1.toInt ∧ a1.toInt ≤ 24))))) := by
  refine Mq.start (by decide) (Nat.le_of_ble_eq_true rfl) ?_
  intro p e s m below meth c A ls C0 hZ h hl
  have hl : lv_has ls 2 [(0, .ref (ad 0)), (1, .int a1)] := hl
  have h : Wt G (SC tt) ad A s s.heap [] ws0 := ⟨h, hT⟩
  obtain ⟨args, hargs⟩ : ∃ z, z = ([.ref (ad 0), .int a1] : List Value).toArray := ⟨_, rfl⟩
  rw [← hargs] at C0 ⊢
  have C0 : Cx p s m args meth c RX11 cX11_isCrossing 2 (some .boolean) := C0
  obtain ⟨Q, hQ⟩ : ∃ z, z = MQ below ((PI G (SC tt) ad [] ws0 (fun r u => (0 ≤ r.toInt) ∧ (r.toInt ≤ 1) ∧ ((r.toInt = 0 ∨ (0 ≤ a1.toInt ∧ a1.toInt ≤ 24))))) A) args s 0 0 A := ⟨_, rfl⟩
  rw [← hQ]
  refine lv_iload_n C0.1 C0.2.1 dX11_isCrossing_0 rfl (lv_at hl 1 rfl) ?_
  refine y_if_lt (tgt := 19) C0 dX11_isCrossing_1 (by decide) (fun c_1 => ?_) (fun c_1 => ?_)
  · -- 1
    refine y_c1 (n := 0) C0 (by decide) dX11_isCrossing_19 (fun v_2 e_3 => ?_)
    rw [hQ]
    exact y_zret C0 h (o26_1 e_3) (o26_2 e_3) Fr.rf ⟨(o26_1 e_3), (o26_2 e_3), (o26_8 c_1 e_3)⟩ dX11_isCrossing_20
  · -- 1
    refine lv_iload_n C0.1 C0.2.1 dX11_isCrossing_4 rfl (lv_at hl 1 rfl) ?_
    refine lv_aload_n C0.1 C0.2.1 dX11_isCrossing_5 rfl (lv_at hl 0 rfl) ?_
    refine tg_X11_now C0 h kSC_0 q_515 dX11_isCrossing_6 ?_
    refine y_ci h (y_rV (As := []) (rest := [.int a1]) C0 hZ h (c_X0_crossings l G Z ad _ h.2 1 kSC_1) k_X0_crossings q_918 q_919 q_917 kSC_1 rfl rfl rfl hl.1 rfl rfl (Nat.le_of_ble_eq_true rfl) dX11_isCrossing_9 ⟨Nat.le_of_ble_eq_true rfl, Nat.le_of_ble_eq_true rfl⟩ ⟨Nat.le_of_ble_eq_true rfl, Nat.le_of_ble_eq_true rfl⟩) (fun r_7 H locs ws_4 h u_5 p_6 => ?_)
    obtain ⟨e_8, e_9⟩ := p_6
    refine y_icmp_ge (tgt := 19) C0 dX11_isCrossing_12 (by decide) (fun c_10 => ?_) (fun c_10 => ?_)
    · -- 12
      refine y_c1 (n := 0) C0 (by decide) dX11_isCrossing_19 (fun v_11 e_12 => ?_)
      rw [hQ]
      exact y_zret C0 h (o26_1 e_12) (o26_2 e_12) u_5 ⟨(o26_1 e_12), (o26_2 e_12), (o26_9 c_1 e_8 e_9 c_10 e_12)⟩ dX11_isCrossing_20
    · -- 12
      refine y_c1 (n := 1) C0 (by decide) dX11_isCrossing_15 (fun v_13 e_14 => ?_)
      refine lv_goto (tgt := 20) C0.1 C0.2.1 dX11_isCrossing_16 (by decide) ?_
      rw [hQ]
      exact y_zret C0 h (o26_5 e_14) (o26_6 e_14) u_5 ⟨(o26_5 e_14), (o26_6 e_14), (o26_10 c_1 e_8 e_9 c_10 e_14)⟩ dX11_isCrossing_20
set_option maxHeartbeats 4000000 in
set_option maxRecDepth 100000 in
theorem c_X11_isStand (l : Launch) (G : GG) (Z : RZ) (ad : Nat → Nat) (ws0 : va_W) (hT : Ty G (SC tt) ad ws0) (a1 : Int32) (a2 : Int32) : Mq l yX11_isStand cX11_isStand 3 (some .boolean) 3 G Z [.ref (ad 0), .int a1, .int a2] ws0 (PI G (SC tt) ad [] ws0 (fun r u => (0 ≤ r.toInt) ∧ (r.toInt ≤ 1) ∧ ((r.toInt = 0 ∨ (0 ≤ a1.toInt ∧ a1.toInt ≤ 24 ∧ 0 ≤ a2.toInt ∧ a2.toInt ≤ 3))))) := by
  refine Mq.start (by decide) (Nat.le_of_ble_eq_true rfl) ?_
  intro p e s m below meth c A ls C0 hZ h hl
  have hl : lv_has ls 3 [(0, .ref (ad 0)), (1, .int a1), (2, .int a2)] := hl
  have h : Wt G (SC tt) ad A s s.heap [] ws0 := ⟨h, hT⟩
  obtain ⟨args, hargs⟩ : ∃ z, z = ([.ref (ad 0), .int a1, .int a2] : List Value).toArray := ⟨_, rfl⟩
  rw [← hargs] at C0 ⊢
  have C0 : Cx p s m args meth c RX11 cX11_isStand 3 (some .boolean) := C0
  obtain ⟨Q, hQ⟩ : ∃ z, z = MQ below ((PI G (SC tt) ad [] ws0 (fun r u => (0 ≤ r.toInt) ∧ (r.toInt ≤ 1) ∧ ((r.toInt = 0 ∨ (0 ≤ a1.toInt ∧ a1.toInt ≤ 24 ∧ 0 ≤ a2.toInt ∧ a2.toInt ≤ 3))))) A) args s 0 0 A := ⟨_, rfl⟩
  rw [← hQ]
  refine lv_aload_n C0.1 C0.2.1 dX11_isStand_0 rfl (lv_at hl 0 rfl) ?_
  refine lv_iload_n C0.1 C0.2.1 dX11_isStand_1 rfl (lv_at hl 1 rfl) ?_
  refine y_ci h (y_rV (As := [.int a1]) (rest := []) C0 hZ h (c_X11_isCrossing l G Z ad _ h.2 a1) k_X11_isCrossing q_915 q_25 q_913 kSC_0 rfl rfl rfl hl.1 rfl rfl (Nat.le_of_ble_eq_true rfl) dX11_isStand_2 ⟨Nat.le_of_ble_eq_true rfl, Nat.le_of_ble_eq_true rfl⟩ ⟨Nat.le_of_ble_eq_true rfl, Nat.le_of_ble_eq_true rfl⟩) (fun r_4 H locs ws_1 h u_2 p_3 => ?_)
  obtain ⟨e_5, e_6, e_7⟩ := p_3
  refine y_if_eq (tgt := 21) C0 dX11_isStand_5 (by decide) (fun c_8 => ?_) (fun c_8 => ?_)
  · -- 5
    refine y_c1 (n := 0) C0 (by decide) dX11_isStand_21 (fun v_9 e_10 => ?_)
    rw [hQ]
    exact y_zret C0 h (o26_1 e_10) (o26_2 e_10) u_2 ⟨(o26_1 e_10), (o26_2 e_10), (o26_11 e_5 e_6 e_7 c_8 e_10)⟩ dX11_isStand_22
  · -- 5
    refine lv_iload_n C0.1 C0.2.1 dX11_isStand_8 rfl (lv_at hl 2 rfl) ?_
    refine y_if_lt (tgt := 21) C0 dX11_isStand_9 (by decide) (fun c_11 => ?_) (fun c_11 => ?_)
    · -- 9
      refine y_c1 (n := 0) C0 (by decide) dX11_isStand_21 (fun v_12 e_13 => ?_)
      rw [hQ]
      exact y_zret C0 h (o26_1 e_13) (o26_2 e_13) u_2 ⟨(o26_1 e_13), (o26_2 e_13), (o26_12 e_5 e_6 e_7 c_8 c_11 e_13)⟩ dX11_isStand_22
    · -- 9
      refine lv_iload_n C0.1 C0.2.1 dX11_isStand_12 rfl (lv_at hl 2 rfl) ?_
      refine y_c1 (n := 4) C0 (by decide) dX11_isStand_13 (fun v_14 e_15 => ?_)
      refine y_icmp_ge (tgt := 21) C0 dX11_isStand_14 (by decide) (fun c_16 => ?_) (fun c_16 => ?_)
      · -- 14
        refine y_c1 (n := 0) C0 (by decide) dX11_isStand_21 (fun v_17 e_18 => ?_)
        rw [hQ]
        exact y_zret C0 h (o26_1 e_18) (o26_2 e_18) u_2 ⟨(o26_1 e_18), (o26_2 e_18), (o26_13 e_5 e_6 e_7 c_8 c_11 e_15 c_16 e_18)⟩ dX11_isStand_22
      · -- 14
        refine y_c1 (n := 1) C0 (by decide) dX11_isStand_17 (fun v_19 e_20 => ?_)
        refine lv_goto (tgt := 22) C0.1 C0.2.1 dX11_isStand_18 (by decide) ?_
        rw [hQ]
        exact y_zret C0 h (o26_5 e_20) (o26_6 e_20) u_2 ⟨(o26_5 e_20), (o26_6 e_20), (o26_14 e_5 e_6 e_7 c_8 c_11 e_15 c_16 e_20)⟩ dX11_isStand_22
set_option maxHeartbeats 4000000 in
set_option maxRecDepth 100000 in
theorem c_X11_isTray (l : Launch) (G : GG) (Z : RZ) (ad : Nat → Nat) (ws0 : va_W) (hT : Ty G (SC tt) ad ws0) (a0 : Int32) : Mq l yX11_isTray cX11_isTray 1 (some .boolean) 1 G Z [.int a0] ws0 (PI G (SC tt) ad [] ws0 (fun r u => (0 ≤ r.toInt) ∧ (r.toInt ≤ 1) ∧ (((r.toInt = 0 ∧ (a0.toInt < 0 ∨ 3 < a0.toInt)) ∨ (r.toInt = 1 ∧ 0 ≤ a0.toInt ∧ a0.toInt ≤ 3))))) := by
  refine Mq.start (by decide) (Nat.le_of_ble_eq_true rfl) ?_
  intro p e s m below meth c A ls C0 hZ h hl
  have hl : lv_has ls 1 [(0, .int a0)] := hl
  have h : Wt G (SC tt) ad A s s.heap [] ws0 := ⟨h, hT⟩
  obtain ⟨args, hargs⟩ : ∃ z, z = ([.int a0] : List Value).toArray := ⟨_, rfl⟩
  rw [← hargs] at C0 ⊢
  have C0 : Cx p s m args meth c RX11 cX11_isTray 1 (some .boolean) := C0
  obtain ⟨Q, hQ⟩ : ∃ z, z = MQ below ((PI G (SC tt) ad [] ws0 (fun r u => (0 ≤ r.toInt) ∧ (r.toInt ≤ 1) ∧ (((r.toInt = 0 ∧ (a0.toInt < 0 ∨ 3 < a0.toInt)) ∨ (r.toInt = 1 ∧ 0 ≤ a0.toInt ∧ a0.toInt ≤ 3))))) A) args s 0 0 A := ⟨_, rfl⟩
  rw [← hQ]
  refine lv_iload_n C0.1 C0.2.1 dX11_isTray_0 rfl (lv_at hl 0 rfl) ?_
  refine y_if_lt (tgt := 13) C0 dX11_isTray_1 (by decide) (fun c_1 => ?_) (fun c_1 => ?_)
  · -- 1
    refine y_c1 (n := 0) C0 (by decide) dX11_isTray_13 (fun v_2 e_3 => ?_)
    rw [hQ]
    exact y_zret C0 h (o26_1 e_3) (o26_2 e_3) Fr.rf ⟨(o26_1 e_3), (o26_2 e_3), (o26_15 c_1 e_3)⟩ dX11_isTray_14
  · -- 1
    refine lv_iload_n C0.1 C0.2.1 dX11_isTray_4 rfl (lv_at hl 0 rfl) ?_
    refine y_c1 (n := 4) C0 (by decide) dX11_isTray_5 (fun v_4 e_5 => ?_)
    refine y_icmp_ge (tgt := 13) C0 dX11_isTray_6 (by decide) (fun c_6 => ?_) (fun c_6 => ?_)
    · -- 6
      refine y_c1 (n := 0) C0 (by decide) dX11_isTray_13 (fun v_7 e_8 => ?_)
      rw [hQ]
      exact y_zret C0 h (o26_1 e_8) (o26_2 e_8) Fr.rf ⟨(o26_1 e_8), (o26_2 e_8), (o26_16 c_1 e_5 c_6 e_8)⟩ dX11_isTray_14
    · -- 6
      refine y_c1 (n := 1) C0 (by decide) dX11_isTray_9 (fun v_9 e_10 => ?_)
      refine lv_goto (tgt := 14) C0.1 C0.2.1 dX11_isTray_10 (by decide) ?_
      rw [hQ]
      exact y_zret C0 h (o26_5 e_10) (o26_6 e_10) Fr.rf ⟨(o26_5 e_10), (o26_6 e_10), (o26_17 c_1 e_5 c_6 e_10)⟩ dX11_isTray_14
set_option maxHeartbeats 4000000 in
set_option maxRecDepth 100000 in
theorem c_X11_startAnew (l : Launch) (G : GG) (Z : RZ) (ad : Nat → Nat) (ws0 : va_W) (hT : Ty G (SC tt) ad ws0) (hH : Hok ws0) : Mq l yX11_startAnew cX11_startAnew 1 none 2 G Z [.ref (ad 0)] ws0 (PV G (SC tt) ad [0, 18, 39] ws0 (fun u => (Hok u))) := by
  refine Mq.start (by decide) (Nat.le_of_ble_eq_true rfl) ?_
  intro p e s m below meth c A ls C0 hZ h hl
  have hl : lv_has ls 1 [(0, .ref (ad 0))] := hl
  have h : Wt G (SC tt) ad A s s.heap [] ws0 := ⟨h, hT⟩
  obtain ⟨args, hargs⟩ : ∃ z, z = ([.ref (ad 0)] : List Value).toArray := ⟨_, rfl⟩
  rw [← hargs] at C0 ⊢
  have C0 : Cx p s m args meth c RX11 cX11_startAnew 1 none := C0
  obtain ⟨Q, hQ⟩ : ∃ z, z = MQ below ((PV G (SC tt) ad [0, 18, 39] ws0 (fun u => (Hok u))) A) args s 0 0 A := ⟨_, rfl⟩
  rw [← hQ]
  refine lv_aload_n C0.1 C0.2.1 dX11_startAnew_0 rfl (lv_at hl 0 rfl) ?_
  refine y_c1 (n := 0) C0 (by decide) dX11_startAnew_1 (fun v_1 e_2 => ?_)
  refine tp_X11_pastSize C0 h kSC_0 q_532 (o26_1 e_2) (o26_18 e_2) dX11_startAnew_2 (fun H locs ws_3 h u_4 => ?_)
  refine lv_aload_n C0.1 C0.2.1 dX11_startAnew_5 rfl (lv_at hl 0 rfl) ?_
  refine tg_X11_forecast C0 h kSC_0 q_518 dX11_startAnew_6 ?_
  refine y_cv h (y_rV (As := []) (rest := []) C0 hZ h (c_X2_forget l G Z ad _ h.2) k_X2_forget q_878 q_879 q_877 kSC_79 rfl rfl rfl hl.1 rfl rfl (Nat.le_of_ble_eq_true rfl) dX11_startAnew_9 ⟨Nat.le_of_ble_eq_true rfl, Nat.le_of_ble_eq_true rfl⟩ ⟨Nat.le_of_ble_eq_true rfl, Nat.le_of_ble_eq_true rfl⟩) (fun H locs ws_5 h u_6 p_7 => ?_)
  refine lv_aload_n C0.1 C0.2.1 dX11_startAnew_12 rfl (lv_at hl 0 rfl) ?_
  refine tg_X11_hunt C0 h kSC_0 q_523 dX11_startAnew_13 ?_
  refine y_cv h (y_rV (As := []) (rest := []) C0 hZ h (c_X3_forget l G Z ad _ h.2) k_X3_forget q_882 q_883 q_881 kSC_104 rfl rfl rfl hl.1 rfl rfl (Nat.le_of_ble_eq_true rfl) dX11_startAnew_16 ⟨Nat.le_of_ble_eq_true rfl, Nat.le_of_ble_eq_true rfl⟩ ⟨Nat.le_of_ble_eq_true rfl, Nat.le_of_ble_eq_true rfl⟩) (fun H locs ws_8 h u_9 p_10 => ?_)
  have e_11 := p_10
  rw [hQ]
  exact y_vret C0 h (Fr.tr (Fr.tr (Fr.up u_4.1 kSC_0 (by decide)) (Fr.mono u_6 (by decide))) (Fr.mono u_9 (by decide))) e_11 dX11_startAnew_19
set_option maxHeartbeats 4000000 in
set_option maxRecDepth 100000 in
theorem c_X11_keep (l : Launch) (G : GG) (Z : RZ) (ad : Nat → Nat) (ws0 : va_W) (hT : Ty G (SC tt) ad ws0) (i1 : Nat) (hi1 : Kd (SC tt) i1 6) : Mq l yX11_keep cX11_keep 2 none 2 G Z [.ref (ad 0), .ref (ad i1)] ws0 (PV G (SC tt) ad [0, 6, 7, 8, 9, 10, 11, 12, 13] ws0 (fun u => (∀ j, 1 ≤ j → j < 119 → u[j]? = ws0[j]?))) := by
  refine Mq.start (by decide) (Nat.le_of_ble_eq_true rfl) ?_
  intro p e s m below meth c A ls C0 hZ h hl
  have hl : lv_has ls 2 [(0, .ref (ad 0)), (1, .ref (ad i1))] := hl
  have h : Wt G (SC tt) ad A s s.heap [] ws0 := ⟨h, hT⟩
  obtain ⟨args, hargs⟩ : ∃ z, z = ([.ref (ad 0), .ref (ad i1)] : List Value).toArray := ⟨_, rfl⟩
  rw [← hargs] at C0 ⊢
  have C0 : Cx p s m args meth c RX11 cX11_keep 2 none := C0
  obtain ⟨Q, hQ⟩ : ∃ z, z = MQ below ((PV G (SC tt) ad [0, 6, 7, 8, 9, 10, 11, 12, 13] ws0 (fun u => (∀ j, 1 ≤ j → j < 119 → u[j]? = ws0[j]?))) A) args s 0 0 A := ⟨_, rfl⟩
  rw [← hQ]
  refine lv_aload_n C0.1 C0.2.1 dX11_keep_0 rfl (lv_at hl 0 rfl) ?_
  refine tg_X11_pastSize C0 h kSC_0 q_532 dX11_keep_1 (fun v_1 e_2 e_3 e_4 => ?_)
  refine y_c2 (n := 10) C0 (by decide) dX11_keep_4 (fun v_5 e_6 => ?_)
  refine y_icmp_ne (tgt := 32) C0 dX11_keep_6 (by decide) (fun c_7 => ?_) (fun c_7 => ?_)
  · -- 6
    refine lv_aload_n C0.1 C0.2.1 dX11_keep_32 rfl (lv_at hl 0 rfl) ?_
    refine tg_X11_past C0 h kSC_0 q_527 dX11_keep_33 ?_
    refine lv_aload_n C0.1 C0.2.1 dX11_keep_36 rfl (lv_at hl 0 rfl) ?_
    refine tg_X11_pastFirst C0 h kSC_0 q_531 dX11_keep_37 (fun v_8 e_9 e_10 e_11 => ?_)
    refine lv_aload_n C0.1 C0.2.1 dX11_keep_40 rfl (lv_at hl 0 rfl) ?_
    refine tg_X11_pastSize C0 h kSC_0 q_532 dX11_keep_41 (fun v_12 e_13 e_14 e_15 => ?_)
    have q_16 : v_12.toInt = v_1.toInt := congrArg Int32.toInt (e_13.symm.trans (Eq.trans rfl e_2))
    refine y_add C0 (o26_19 e_3 e_4 e_6 c_7 e_10 e_11 e_14 e_15 q_16 (le_min v_8) (le_max v_8) (le_min v_12) (le_max v_12) (le_min v_1) (le_max v_1) (le_min v_5) (le_max v_5)) (o26_20 e_3 e_4 e_6 c_7 e_10 e_11 e_14 e_15 q_16 (le_min v_8) (le_max v_8) (le_min v_12) (le_max v_12) (le_min v_1) (le_max v_1) (le_min v_5) (le_max v_5)) dX11_keep_44 (fun v_17 e_18 => ?_)
    refine y_c2 (n := 10) C0 (by decide) dX11_keep_45 (fun v_19 e_20 => ?_)
    refine y_remc (n := 10) C0 (o26_21 e_20) (by decide) (o26_22 e_3 e_4 e_6 c_7 e_10 e_11 e_14 e_15 q_16 e_18) dX11_keep_47 (fun v_21 e_22 => ?_)
    refine y_aald C0 h kSC_118 rfl rfl (by decide) (o26_23 e_3 e_4 e_6 c_7 e_10 e_11 e_14 e_15 q_16 e_18 e_22) (o26_24 e_3 e_4 e_6 c_7 e_10 e_11 e_14 e_15 q_16 e_18 e_22) dX11_keep_48 ?_
    obtain ⟨i_23, hi_23, ei_23⟩ : ∃ j : Nat, Kd (SC tt) j 6 ∧ j = 119 + 8 * v_21.toInt.toNat := ⟨_, aSC_47 (o26_25 e_3 e_4 e_6 c_7 e_10 e_11 e_14 e_15 q_16 e_18 e_22), rfl⟩
    rw [← ei_23]
    refine lv_aload_n C0.1 C0.2.1 dX11_keep_49 rfl (lv_at hl 1 rfl) ?_
    refine y_cv h (y_rV (As := [.ref (ad i1)]) (rest := []) C0 hZ h (c_X1_copy l G Z ad _ h.2 i_23 hi_23 i1 hi1) k_X1_copy q_868 q_869 q_987 hi_23 rfl rfl rfl hl.1 rfl rfl (Nat.le_of_ble_eq_true rfl) dX11_keep_50 ⟨Nat.le_of_ble_eq_true rfl, Nat.le_of_ble_eq_true rfl⟩ ⟨Nat.le_of_ble_eq_true rfl, Nat.le_of_ble_eq_true rfl⟩) (fun H locs ws_24 h u_25 p_26 => ?_)
    have e_27 := p_26
    refine lv_aload_n C0.1 C0.2.1 dX11_keep_53 rfl (lv_at hl 0 rfl) ?_
    refine lv_dup C0.1 C0.2.1 dX11_keep_54 rfl ?_
    refine tg_X11_pastSize C0 h kSC_0 q_532 dX11_keep_55 (fun v_28 e_29 e_30 e_31 => ?_)
    have q_32 : v_28.toInt = v_1.toInt := congrArg Int32.toInt (e_29.symm.trans (Eq.trans (Fr.fI u_25 kSC_0 (by decide)) e_2))
    refine y_c1 (n := 1) C0 (by decide) dX11_keep_58 (fun v_33 e_34 => ?_)
    refine y_add C0 (o26_26 e_3 e_4 e_6 c_7 e_10 e_11 e_14 e_15 q_16 e_18 e_22 e_30 e_31 q_32 e_34 (le_min v_28) (le_max v_28) (le_min v_33) (le_max v_33) (le_min v_1) (le_max v_1) (le_min v_5) (le_max v_5) (le_min v_8) (le_max v_8) (le_min v_12) (le_max v_12) (le_min v_17) (le_max v_17) (le_min v_21) (le_max v_21)) (o26_27 e_3 e_4 e_6 c_7 e_10 e_11 e_14 e_15 q_16 e_18 e_22 e_30 e_31 q_32 e_34 (le_min v_28) (le_max v_28) (le_min v_33) (le_max v_33) (le_min v_1) (le_max v_1) (le_min v_5) (le_max v_5) (le_min v_8) (le_max v_8) (le_min v_12) (le_max v_12) (le_min v_17) (le_max v_17) (le_min v_21) (le_max v_21)) dX11_keep_59 (fun v_35 e_36 => ?_)
    refine tp_X11_pastSize C0 h kSC_0 q_532 (o26_28 e_3 e_4 e_6 c_7 e_10 e_11 e_14 e_15 q_16 e_18 e_22 e_30 e_31 q_32 e_34 e_36) (o26_29 e_3 e_4 e_6 c_7 e_10 e_11 e_14 e_15 q_16 e_18 e_22 e_30 e_31 q_32 e_34 e_36) dX11_keep_60 (fun H locs ws_37 h u_38 => ?_)
    rw [hQ]
    exact y_vret C0 h (Fr.tr (Fr.mono u_25 (by decide)) (Fr.up u_38.1 kSC_0 (by decide))) (fun j h1 h2 => (Eq.trans (u_38.1 j (by omega)) (e_27 j (Or.inl (by omega))))) dX11_keep_63
  · -- 6
    refine lv_aload_n C0.1 C0.2.1 dX11_keep_9 rfl (lv_at hl 0 rfl) ?_
    refine lv_aload_n C0.1 C0.2.1 dX11_keep_10 rfl (lv_at hl 0 rfl) ?_
    refine tg_X11_pastFirst C0 h kSC_0 q_531 dX11_keep_11 (fun v_39 e_40 e_41 e_42 => ?_)
    refine y_c1 (n := 1) C0 (by decide) dX11_keep_14 (fun v_43 e_44 => ?_)
    refine y_add C0 (o26_30 e_41 e_42 e_44 (le_min v_39) (le_max v_39) (le_min v_43) (le_max v_43)) (o26_31 e_41 e_42 e_44 (le_min v_39) (le_max v_39) (le_min v_43) (le_max v_43)) dX11_keep_15 (fun v_45 e_46 => ?_)
    refine y_c2 (n := 10) C0 (by decide) dX11_keep_16 (fun v_47 e_48 => ?_)
    refine y_remc (n := 10) C0 (o26_21 e_48) (by decide) (o26_32 e_41 e_42 e_44 e_46) dX11_keep_18 (fun v_49 e_50 => ?_)
    refine tp_X11_pastFirst C0 h kSC_0 q_531 (o26_33 e_41 e_42 e_44 e_46 e_50) (o26_34 e_41 e_42 e_44 e_46 e_50) dX11_keep_19 (fun H locs ws_51 h u_52 => ?_)
    refine lv_aload_n C0.1 C0.2.1 dX11_keep_22 rfl (lv_at hl 0 rfl) ?_
    refine lv_dup C0.1 C0.2.1 dX11_keep_23 rfl ?_
    refine tg_X11_pastSize C0 h kSC_0 q_532 dX11_keep_24 (fun v_53 e_54 e_55 e_56 => ?_)
    have q_57 : v_53.toInt = v_1.toInt := congrArg Int32.toInt (e_54.symm.trans (Eq.trans (u_52.2.2 17 (by decide)) e_2))
    refine y_c1 (n := 1) C0 (by decide) dX11_keep_27 (fun v_58 e_59 => ?_)
    refine y_sub C0 (o26_35 e_3 e_4 e_6 c_7 e_55 e_56 q_57 e_59 (le_min v_53) (le_max v_53) (le_min v_58) (le_max v_58) (le_min v_1) (le_max v_1) (le_min v_5) (le_max v_5)) (o26_36 e_3 e_4 e_6 c_7 e_55 e_56 q_57 e_59 (le_min v_53) (le_max v_53) (le_min v_58) (le_max v_58) (le_min v_1) (le_max v_1) (le_min v_5) (le_max v_5)) dX11_keep_28 (fun v_60 e_61 => ?_)
    refine tp_X11_pastSize C0 h kSC_0 q_532 (o26_37 e_3 e_4 e_6 c_7 e_55 e_56 q_57 e_59 e_61) (o26_38 e_3 e_4 e_6 c_7 e_55 e_56 q_57 e_59 e_61) dX11_keep_29 (fun H locs ws_62 h u_63 => ?_)
    refine lv_aload_n C0.1 C0.2.1 dX11_keep_32 rfl (lv_at hl 0 rfl) ?_
    refine tg_X11_past C0 h kSC_0 q_527 dX11_keep_33 ?_
    refine lv_aload_n C0.1 C0.2.1 dX11_keep_36 rfl (lv_at hl 0 rfl) ?_
    refine tg_X11_pastFirst C0 h kSC_0 q_531 dX11_keep_37 (fun v_64 e_65 e_66 e_67 => ?_)
    have q_68 : v_64.toInt = v_49.toInt := congrArg Int32.toInt (e_65.symm.trans (Eq.trans (u_63.2.2 16 (by decide)) u_52.2.1))
    refine lv_aload_n C0.1 C0.2.1 dX11_keep_40 rfl (lv_at hl 0 rfl) ?_
    refine tg_X11_pastSize C0 h kSC_0 q_532 dX11_keep_41 (fun v_69 e_70 e_71 e_72 => ?_)
    have q_73 : v_69.toInt = v_60.toInt := congrArg Int32.toInt (e_70.symm.trans (Eq.trans rfl u_63.2.1))
    refine y_add C0 (o26_39 e_3 e_4 e_6 c_7 e_41 e_42 e_44 e_46 e_50 e_55 e_56 q_57 e_59 e_61 e_66 e_67 q_68 e_71 e_72 q_73 (le_min v_64) (le_max v_64) (le_min v_69) (le_max v_69) (le_min v_1) (le_max v_1) (le_min v_5) (le_max v_5) (le_min v_39) (le_max v_39) (le_min v_43) (le_max v_43) (le_min v_45) (le_max v_45) (le_min v_49) (le_max v_49) (le_min v_53) (le_max v_53) (le_min v_58) (le_max v_58) (le_min v_60) (le_max v_60)) (o26_40 e_3 e_4 e_6 c_7 e_41 e_42 e_44 e_46 e_50 e_55 e_56 q_57 e_59 e_61 e_66 e_67 q_68 e_71 e_72 q_73 (le_min v_64) (le_max v_64) (le_min v_69) (le_max v_69) (le_min v_1) (le_max v_1) (le_min v_5) (le_max v_5) (le_min v_39) (le_max v_39) (le_min v_43) (le_max v_43) (le_min v_45) (le_max v_45) (le_min v_49) (le_max v_49) (le_min v_53) (le_max v_53) (le_min v_58) (le_max v_58) (le_min v_60) (le_max v_60)) dX11_keep_44 (fun v_74 e_75 => ?_)
    refine y_c2 (n := 10) C0 (by decide) dX11_keep_45 (fun v_76 e_77 => ?_)
    refine y_remc (n := 10) C0 (o26_21 e_77) (by decide) (o26_41 e_3 e_4 e_6 c_7 e_41 e_42 e_44 e_46 e_50 e_55 e_56 q_57 e_59 e_61 e_66 e_67 q_68 e_71 e_72 q_73 e_75) dX11_keep_47 (fun v_78 e_79 => ?_)
    refine y_aald C0 h kSC_118 rfl rfl (by decide) (o26_42 e_3 e_4 e_6 c_7 e_41 e_42 e_44 e_46 e_50 e_55 e_56 q_57 e_59 e_61 e_66 e_67 q_68 e_71 e_72 q_73 e_75 e_79) (o26_43 e_3 e_4 e_6 c_7 e_41 e_42 e_44 e_46 e_50 e_55 e_56 q_57 e_59 e_61 e_66 e_67 q_68 e_71 e_72 q_73 e_75 e_79) dX11_keep_48 ?_
    obtain ⟨i_80, hi_80, ei_80⟩ : ∃ j : Nat, Kd (SC tt) j 6 ∧ j = 119 + 8 * v_78.toInt.toNat := ⟨_, aSC_47 (o26_44 e_3 e_4 e_6 c_7 e_41 e_42 e_44 e_46 e_50 e_55 e_56 q_57 e_59 e_61 e_66 e_67 q_68 e_71 e_72 q_73 e_75 e_79), rfl⟩
    rw [← ei_80]
    refine lv_aload_n C0.1 C0.2.1 dX11_keep_49 rfl (lv_at hl 1 rfl) ?_
    refine y_cv h (y_rV (As := [.ref (ad i1)]) (rest := []) C0 hZ h (c_X1_copy l G Z ad _ h.2 i_80 hi_80 i1 hi1) k_X1_copy q_868 q_869 q_987 hi_80 rfl rfl rfl hl.1 rfl rfl (Nat.le_of_ble_eq_true rfl) dX11_keep_50 ⟨Nat.le_of_ble_eq_true rfl, Nat.le_of_ble_eq_true rfl⟩ ⟨Nat.le_of_ble_eq_true rfl, Nat.le_of_ble_eq_true rfl⟩) (fun H locs ws_81 h u_82 p_83 => ?_)
    have e_84 := p_83
    refine lv_aload_n C0.1 C0.2.1 dX11_keep_53 rfl (lv_at hl 0 rfl) ?_
    refine lv_dup C0.1 C0.2.1 dX11_keep_54 rfl ?_
    refine tg_X11_pastSize C0 h kSC_0 q_532 dX11_keep_55 (fun v_85 e_86 e_87 e_88 => ?_)
    have q_89 : v_85.toInt = v_60.toInt := congrArg Int32.toInt (e_86.symm.trans (Eq.trans (Fr.fI u_82 kSC_0 (by decide)) u_63.2.1))
    refine y_c1 (n := 1) C0 (by decide) dX11_keep_58 (fun v_90 e_91 => ?_)
    refine y_add C0 (o26_45 e_3 e_4 e_6 c_7 e_41 e_42 e_44 e_46 e_50 e_55 e_56 q_57 e_59 e_61 e_66 e_67 q_68 e_71 e_72 q_73 e_75 e_79 e_87 e_88 q_89 e_91 (le_min v_85) (le_max v_85) (le_min v_90) (le_max v_90) (le_min v_1) (le_max v_1) (le_min v_5) (le_max v_5) (le_min v_39) (le_max v_39) (le_min v_43) (le_max v_43) (le_min v_45) (le_max v_45) (le_min v_49) (le_max v_49) (le_min v_53) (le_max v_53) (le_min v_58) (le_max v_58) (le_min v_60) (le_max v_60) (le_min v_64) (le_max v_64) (le_min v_69) (le_max v_69) (le_min v_74) (le_max v_74) (le_min v_78) (le_max v_78)) (o26_46 e_3 e_4 e_6 c_7 e_41 e_42 e_44 e_46 e_50 e_55 e_56 q_57 e_59 e_61 e_66 e_67 q_68 e_71 e_72 q_73 e_75 e_79 e_87 e_88 q_89 e_91 (le_min v_85) (le_max v_85) (le_min v_90) (le_max v_90) (le_min v_1) (le_max v_1) (le_min v_5) (le_max v_5) (le_min v_39) (le_max v_39) (le_min v_43) (le_max v_43) (le_min v_45) (le_max v_45) (le_min v_49) (le_max v_49) (le_min v_53) (le_max v_53) (le_min v_58) (le_max v_58) (le_min v_60) (le_max v_60) (le_min v_64) (le_max v_64) (le_min v_69) (le_max v_69) (le_min v_74) (le_max v_74) (le_min v_78) (le_max v_78)) dX11_keep_59 (fun v_92 e_93 => ?_)
    refine tp_X11_pastSize C0 h kSC_0 q_532 (o26_47 e_3 e_4 e_6 c_7 e_41 e_42 e_44 e_46 e_50 e_55 e_56 q_57 e_59 e_61 e_66 e_67 q_68 e_71 e_72 q_73 e_75 e_79 e_87 e_88 q_89 e_91 e_93) (o26_48 e_3 e_4 e_6 c_7 e_41 e_42 e_44 e_46 e_50 e_55 e_56 q_57 e_59 e_61 e_66 e_67 q_68 e_71 e_72 q_73 e_75 e_79 e_87 e_88 q_89 e_91 e_93) dX11_keep_60 (fun H locs ws_94 h u_95 => ?_)
    rw [hQ]
    exact y_vret C0 h (Fr.tr (Fr.tr (Fr.tr (Fr.up u_52.1 kSC_0 (by decide)) (Fr.up u_63.1 kSC_0 (by decide))) (Fr.mono u_82 (by decide))) (Fr.up u_95.1 kSC_0 (by decide))) (fun j h1 h2 => (Eq.trans (Eq.trans (Eq.trans (u_95.1 j (by omega)) (e_84 j (Or.inl (by omega)))) (u_63.1 j (by omega))) (u_52.1 j (by omega)))) dX11_keep_63
set_option maxHeartbeats 4000000 in
set_option maxRecDepth 100000 in
theorem c_X11_draw (l : Launch) (G : GG) (Z : RZ) (ad : Nat → Nat) (ws0 : va_W) (hT : Ty G (SC tt) ad ws0) : Mq l yX11_draw cX11_draw 1 (some .int) 1 G Z [.ref (ad 0)] ws0 (PI G (SC tt) ad [0] ws0 (fun r u => (0 ≤ r.toInt) ∧ (r.toInt ≤ 65535))) := by
  refine Mq.start (by decide) (Nat.le_of_ble_eq_true rfl) ?_
  intro p e s m below meth c A ls C0 hZ h hl
  have hl : lv_has ls 1 [(0, .ref (ad 0))] := hl
  have h : Wt G (SC tt) ad A s s.heap [] ws0 := ⟨h, hT⟩
  obtain ⟨args, hargs⟩ : ∃ z, z = ([.ref (ad 0)] : List Value).toArray := ⟨_, rfl⟩
  rw [← hargs] at C0 ⊢
  have C0 : Cx p s m args meth c RX11 cX11_draw 1 (some .int) := C0
  obtain ⟨Q, hQ⟩ : ∃ z, z = MQ below ((PI G (SC tt) ad [0] ws0 (fun r u => (0 ≤ r.toInt) ∧ (r.toInt ≤ 65535))) A) args s 0 0 A := ⟨_, rfl⟩
  rw [← hQ]
  refine lv_aload_n C0.1 C0.2.1 dX11_draw_0 rfl (lv_at hl 0 rfl) ?_
  refine y_c5 (n := 1103515245) C0 q_1060 (by decide) dX11_draw_1 (fun v_1 e_2 => ?_)
  refine lv_aload_n C0.1 C0.2.1 dX11_draw_4 rfl (lv_at hl 0 rfl) ?_
  refine tg_X11_seed C0 h kSC_0 q_533 dX11_draw_5 (fun v_3 e_4 e_5 e_6 => ?_)
  refine y_imulU C0 dX11_draw_8 (fun v_7 => ?_)
  refine y_c3 (n := 12345) C0 (by decide) dX11_draw_9 (fun v_8 e_9 => ?_)
  refine y_iaddU C0 dX11_draw_12 (fun v_10 => ?_)
  refine tp_X11_seed C0 h kSC_0 q_533 (le_min v_10) (le_max v_10) dX11_draw_13 (fun H locs ws_11 h u_12 => ?_)
  refine lv_aload_n C0.1 C0.2.1 dX11_draw_16 rfl (lv_at hl 0 rfl) ?_
  refine tg_X11_seed C0 h kSC_0 q_533 dX11_draw_17 (fun v_13 e_14 e_15 e_16 => ?_)
  have q_17 : v_13.toInt = v_10.toInt := congrArg Int32.toInt (e_14.symm.trans (Eq.trans rfl u_12.2.1))
  refine y_c2 (n := 16) C0 (by decide) dX11_draw_20 (fun v_18 e_19 => ?_)
  refine y_ushr 16 16 (n := 65535) C0 (Eq.trans (o26_49 e_19) (by decide)) (by decide) (by decide) (by decide) dX11_draw_22 (fun v_20 e_21 e_22 => ?_)
  rw [hQ]
  exact y_iret C0 h (Fr.up u_12.1 kSC_0 (by decide)) ⟨(o26_50 e_21 e_22), (o26_51 e_21 e_22)⟩ dX11_draw_23
set_option maxHeartbeats 4000000 in
set_option maxRecDepth 100000 in
theorem c_X11_goWalk (l : Launch) (G : GG) (Z : RZ) (ad : Nat → Nat) (ws0 : va_W) (hT : Ty G (SC tt) ad ws0) (i1 : Nat) (hi1 : Kd (SC tt) i1 42) (hR : Rel ws0) : Mq l yX11_goWalk cX11_goWalk 10 (some .int) 4 G Z [.ref (ad 0), .ref (ad i1)] ws0 (PI G (SC tt) ad [4, 5, 6, 7, 8, 9, 11, 48] ws0 (fun r u => True)) := by
  refine Mq.start (by decide) (Nat.le_of_ble_eq_true rfl) ?_
  intro p e s m below meth c A ls C0 hZ h hl
  have hl : lv_has ls 10 [(0, .ref (ad 0)), (1, .ref (ad i1))] := hl
  have h : Wt G (SC tt) ad A s s.heap [] ws0 := ⟨h, hT⟩
  obtain ⟨args, hargs⟩ : ∃ z, z = ([.ref (ad 0), .ref (ad i1)] : List Value).toArray := ⟨_, rfl⟩
  rw [← hargs] at C0 ⊢
  have C0 : Cx p s m args meth c RX11 cX11_goWalk 10 (some .int) := C0
  obtain ⟨Q, hQ⟩ : ∃ z, z = MQ below ((PI G (SC tt) ad [4, 5, 6, 7, 8, 9, 11, 48] ws0 (fun r u => True)) A) args s 0 0 A := ⟨_, rfl⟩
  rw [← hQ]
  refine lv_aload_n C0.1 C0.2.1 dX11_goWalk_0 rfl (lv_at hl 1 rfl) ?_
  refine y_c1 (n := 0) C0 (by decide) dX11_goWalk_1 (fun v_1 e_2 => ?_)
  refine y_ci h (y_rV (As := [.int v_1]) (rest := []) C0 hZ h (c_X10_asSmall l G Z ad _ h.2 i1 hi1 v_1) k_X10_asSmall q_1005 q_1006 q_1004 hi1 rfl rfl rfl hl.1 rfl rfl (Nat.le_of_ble_eq_true rfl) dX11_goWalk_2 ⟨Nat.le_of_ble_eq_true rfl, Nat.le_of_ble_eq_true rfl⟩ ⟨Nat.le_of_ble_eq_true rfl, Nat.le_of_ble_eq_true rfl⟩) (fun r_6 H locs ws_3 h u_4 p_5 => ?_)
  have e_7 := p_5
  refine lv_istore_n (lv' := [(2, .int r_6), (0, .ref (ad 0)), (1, .ref (ad i1))]) C0.1 C0.2.1 dX11_goWalk_5 rfl hl (by decide) rfl (fun ls hl => ?_)
  refine lv_aload_n C0.1 C0.2.1 dX11_goWalk_6 rfl (lv_at hl 1 rfl) ?_
  refine lv_iload_n C0.1 C0.2.1 dX11_goWalk_7 rfl (lv_at hl 0 rfl) ?_
  refine y_ci h (y_rV (As := [.int r_6]) (rest := []) C0 hZ h (c_X11_isPerson l G Z ad _ h.2 r_6) k_X11_isPerson q_903 q_23 q_901 kSC_0 rfl rfl rfl hl.1 rfl rfl (Nat.le_of_ble_eq_true rfl) dX11_goWalk_8 ⟨Nat.le_of_ble_eq_true rfl, Nat.le_of_ble_eq_true rfl⟩ ⟨Nat.le_of_ble_eq_true rfl, Nat.le_of_ble_eq_true rfl⟩) (fun r_11 H locs ws_8 h u_9 p_10 => ?_)
  obtain ⟨e_12, e_13, e_14⟩ := p_10
  refine lv_istore_n (lv' := [(3, .int r_11), (2, .int r_6), (0, .ref (ad 0)), (1, .ref (ad i1))]) C0.1 C0.2.1 dX11_goWalk_11 rfl hl (by decide) rfl (fun ls hl => ?_)
  refine lv_iload_n C0.1 C0.2.1 dX11_goWalk_12 rfl (lv_at hl 0 rfl) ?_
  refine y_if_eq (tgt := 20) C0 dX11_goWalk_13 (by decide) (fun c_15 => ?_) (fun c_15 => ?_)
  · -- 13
    refine y_c1 (n := 0) C0 (by decide) dX11_goWalk_20 (fun v_16 e_17 => ?_)
    refine lv_istore (lv' := [(4, .int v_16), (3, .int r_11), (2, .int r_6), (0, .ref (ad 0)), (1, .ref (ad i1))]) C0.1 C0.2.1 dX11_goWalk_21 hl (by decide) rfl (fun ls hl => ?_)
    refine lv_iload_n C0.1 C0.2.1 dX11_goWalk_23 rfl (lv_at hl 1 rfl) ?_
    refine y_if_eq (tgt := 31) C0 dX11_goWalk_24 (by decide) (fun c_18 => ?_) (fun c_18 => ((o26_52 e_7 e_12 e_13 e_14 c_15 c_18)).elim)
    refine y_c1 (n := 1) C0 (by decide) dX11_goWalk_31 (fun v_19 e_20 => ?_)
    refine lv_istore (lv' := [(5, .int v_19), (4, .int v_16), (3, .int r_11), (2, .int r_6), (0, .ref (ad 0)), (1, .ref (ad i1))]) C0.1 C0.2.1 dX11_goWalk_32 hl (by decide) rfl (fun ls hl => ?_)
    refine y_c1 (n := 0) C0 (by decide) dX11_goWalk_34 (fun v_21 e_22 => ?_)
    refine lv_istore (lv' := [(6, .int v_21), (5, .int v_19), (4, .int v_16), (3, .int r_11), (2, .int r_6), (0, .ref (ad 0)), (1, .ref (ad i1))]) C0.1 C0.2.1 dX11_goWalk_35 hl (by decide) rfl (fun ls hl => ?_)
    refine y_c1 (n := 0) C0 (by decide) dX11_goWalk_37 (fun v_23 e_24 => ?_)
    refine lv_istore (lv' := [(7, .int v_23), (6, .int v_21), (5, .int v_19), (4, .int v_16), (3, .int r_11), (2, .int r_6), (0, .ref (ad 0)), (1, .ref (ad i1))]) C0.1 C0.2.1 dX11_goWalk_38 hl (by decide) rfl (fun ls hl => ?_)
    refine y_c1 (n := 1) C0 (by decide) dX11_goWalk_40 (fun v_25 e_26 => ?_)
    refine lv_istore (lv' := [(8, .int v_25), (7, .int v_23), (6, .int v_21), (5, .int v_19), (4, .int v_16), (3, .int r_11), (2, .int r_6), (0, .ref (ad 0)), (1, .ref (ad i1))]) C0.1 C0.2.1 dX11_goWalk_41 hl (by decide) rfl (fun ls hl => ?_)
    have lp_34 : ∀ (n_36 : Nat) (x8_27 : Int32) (x7_28 : Int32) (x6_29 : Int32) (x5_30 : Int32) (x4_31 : Int32) (H : Heap) (locs : List Loc) (ls : Array Slot) (ws_32 : va_W), 1 - x8_27.toInt < (n_36 : Int) → 1 ≤ x8_27.toInt → x8_27.toInt ≤ 1 → 0 ≤ x7_28.toInt → x7_28.toInt ≤ 0 → 0 ≤ x6_29.toInt → x6_29.toInt ≤ 0 → 1 ≤ x5_30.toInt → x5_30.toInt ≤ 1 → 0 ≤ x4_31.toInt → x4_31.toInt ≤ 0 → Wt G (SC tt) ad A s H locs ws_32 → Fr (SC tt) [] ws_8 ws_32 → lv_has ls 10 [(8, .int x8_27), (7, .int x7_28), (6, .int x6_29), (5, .int x5_30), (4, .int x4_31), (3, .int r_11), (2, .int r_6), (0, .ref (ad 0)), (1, .ref (ad i1))] → W p l e (rmd 4 0 0) s m args below meth c H locs 0 0 Q (F0 m 43 ls []) := by
      intro n_36
      induction n_36 with
      | zero => intro x8_27 x7_28 x6_29 x5_30 x4_31 H locs ls ws_32 hn_37 b_38 b_39 b_40 b_41 b_42 b_43 b_44 b_45 b_46 b_47 h hF_33 hl; exact ((o26_53 b_38 b_39 hn_37)).elim
      | succ n_36 ih_35 =>
        intro x8_27 x7_28 x6_29 x5_30 x4_31 H locs ls ws_32 hn_37 b_38 b_39 b_40 b_41 b_42 b_43 b_44 b_45 b_46 b_47 h hF_33 hl
        refine lv_iload C0.1 C0.2.1 dX11_goWalk_43 (lv_at hl 0 rfl) ?_
        refine lv_aload_n C0.1 C0.2.1 dX11_goWalk_45 rfl (lv_at hl 8 rfl) ?_
        refine tg_X10_size C0 h hi1 q_502 dX11_goWalk_46 (fun v_48 e_49 e_50 e_51 => ?_)
        refine y_icmp_ge (tgt := 113) C0 dX11_goWalk_49 (by decide) (fun c_52 => ?_) (fun c_52 => ?_)
        · -- 49
          refine lv_aload_n C0.1 C0.2.1 dX11_goWalk_113 rfl (lv_at hl 7 rfl) ?_
          refine tg_X11_walked C0 h kSC_0 q_529 dX11_goWalk_114 ?_
          refine y_c1 (n := 0) C0 (by decide) dX11_goWalk_117 (fun v_53 e_54 => ?_)
          refine lv_iload C0.1 C0.2.1 dX11_goWalk_118 (lv_at hl 4 rfl) ?_
          refine y_iast C0 h kSC_207 rfl (by decide) (o26_1 e_54) (o26_54 e_54) (le_min x4_31) (le_max x4_31) dX11_goWalk_120 (fun H locs ws_55 h u_56 => ?_)
          refine lv_aload_n C0.1 C0.2.1 dX11_goWalk_121 rfl (lv_at hl 7 rfl) ?_
          refine tg_X11_walked C0 h kSC_0 q_529 dX11_goWalk_122 ?_
          refine y_c1 (n := 1) C0 (by decide) dX11_goWalk_125 (fun v_57 e_58 => ?_)
          refine lv_iload C0.1 C0.2.1 dX11_goWalk_126 (lv_at hl 3 rfl) ?_
          refine y_iast C0 h kSC_207 rfl (by decide) (o26_5 e_58) (o26_55 e_58) (le_min x5_30) (le_max x5_30) dX11_goWalk_128 (fun H locs ws_59 h u_60 => ?_)
          refine lv_aload_n C0.1 C0.2.1 dX11_goWalk_129 rfl (lv_at hl 7 rfl) ?_
          refine tg_X11_walked C0 h kSC_0 q_529 dX11_goWalk_130 ?_
          refine y_c1 (n := 2) C0 (by decide) dX11_goWalk_133 (fun v_61 e_62 => ?_)
          refine lv_iload_n C0.1 C0.2.1 dX11_goWalk_134 rfl (lv_at hl 5 rfl) ?_
          refine y_if_eq (tgt := 153) C0 dX11_goWalk_135 (by decide) (fun c_63 => ?_) (fun c_63 => ((o26_52 e_7 e_12 e_13 e_14 c_15 c_63)).elim)
          refine y_c1 (n := (-1)) C0 (by decide) dX11_goWalk_153 (fun v_64 e_65 => ?_)
          refine y_iast C0 h kSC_207 rfl (by decide) (o26_56 e_62) (o26_57 e_62) (le_min v_64) (le_max v_64) dX11_goWalk_154 (fun H locs ws_66 h u_67 => ?_)
          refine lv_aload_n C0.1 C0.2.1 dX11_goWalk_155 rfl (lv_at hl 7 rfl) ?_
          refine tg_X11_walked C0 h kSC_0 q_529 dX11_goWalk_156 ?_
          refine y_c1 (n := 3) C0 (by decide) dX11_goWalk_159 (fun v_68 e_69 => ?_)
          refine lv_iload C0.1 C0.2.1 dX11_goWalk_160 (lv_at hl 2 rfl) ?_
          refine y_iast C0 h kSC_207 rfl (by decide) (o26_58 e_69) (o26_59 e_69) (le_min x6_29) (le_max x6_29) dX11_goWalk_162 (fun H locs ws_70 h u_71 => ?_)
          refine lv_iload C0.1 C0.2.1 dX11_goWalk_163 (lv_at hl 1 rfl) ?_
          rw [hQ]
          exact y_iret C0 h (Fr.tr (Fr.tr (Fr.tr (Fr.tr (Fr.tr (Fr.tr (Fr.mono u_4 (by decide)) (Fr.mono u_9 (by decide))) (Fr.mono hF_33 (by decide))) (Fr.up u_56.1 kSC_207 (by decide))) (Fr.up u_60.1 kSC_207 (by decide))) (Fr.up u_67.1 kSC_207 (by decide))) (Fr.up u_71.1 kSC_207 (by decide))) trivial dX11_goWalk_165
        · -- 49
          refine lv_iload C0.1 C0.2.1 dX11_goWalk_52 (lv_at hl 3 rfl) ?_
          refine y_if_ne (tgt := 113) C0 dX11_goWalk_54 (by decide) (fun c_72 => ?_) (fun c_72 => ((o26_60 b_44 b_45 c_72)).elim)
          refine lv_aload_n C0.1 C0.2.1 dX11_goWalk_113 rfl (lv_at hl 7 rfl) ?_
          refine tg_X11_walked C0 h kSC_0 q_529 dX11_goWalk_114 ?_
          refine y_c1 (n := 0) C0 (by decide) dX11_goWalk_117 (fun v_73 e_74 => ?_)
          refine lv_iload C0.1 C0.2.1 dX11_goWalk_118 (lv_at hl 4 rfl) ?_
          refine y_iast C0 h kSC_207 rfl (by decide) (o26_1 e_74) (o26_54 e_74) (le_min x4_31) (le_max x4_31) dX11_goWalk_120 (fun H locs ws_75 h u_76 => ?_)
          refine lv_aload_n C0.1 C0.2.1 dX11_goWalk_121 rfl (lv_at hl 7 rfl) ?_
          refine tg_X11_walked C0 h kSC_0 q_529 dX11_goWalk_122 ?_
          refine y_c1 (n := 1) C0 (by decide) dX11_goWalk_125 (fun v_77 e_78 => ?_)
          refine lv_iload C0.1 C0.2.1 dX11_goWalk_126 (lv_at hl 3 rfl) ?_
          refine y_iast C0 h kSC_207 rfl (by decide) (o26_5 e_78) (o26_55 e_78) (le_min x5_30) (le_max x5_30) dX11_goWalk_128 (fun H locs ws_79 h u_80 => ?_)
          refine lv_aload_n C0.1 C0.2.1 dX11_goWalk_129 rfl (lv_at hl 7 rfl) ?_
          refine tg_X11_walked C0 h kSC_0 q_529 dX11_goWalk_130 ?_
          refine y_c1 (n := 2) C0 (by decide) dX11_goWalk_133 (fun v_81 e_82 => ?_)
          refine lv_iload_n C0.1 C0.2.1 dX11_goWalk_134 rfl (lv_at hl 5 rfl) ?_
          refine y_if_eq (tgt := 153) C0 dX11_goWalk_135 (by decide) (fun c_83 => ?_) (fun c_83 => ((o26_52 e_7 e_12 e_13 e_14 c_15 c_83)).elim)
          refine y_c1 (n := (-1)) C0 (by decide) dX11_goWalk_153 (fun v_84 e_85 => ?_)
          refine y_iast C0 h kSC_207 rfl (by decide) (o26_56 e_82) (o26_57 e_82) (le_min v_84) (le_max v_84) dX11_goWalk_154 (fun H locs ws_86 h u_87 => ?_)
          refine lv_aload_n C0.1 C0.2.1 dX11_goWalk_155 rfl (lv_at hl 7 rfl) ?_
          refine tg_X11_walked C0 h kSC_0 q_529 dX11_goWalk_156 ?_
          refine y_c1 (n := 3) C0 (by decide) dX11_goWalk_159 (fun v_88 e_89 => ?_)
          refine lv_iload C0.1 C0.2.1 dX11_goWalk_160 (lv_at hl 2 rfl) ?_
          refine y_iast C0 h kSC_207 rfl (by decide) (o26_58 e_89) (o26_59 e_89) (le_min x6_29) (le_max x6_29) dX11_goWalk_162 (fun H locs ws_90 h u_91 => ?_)
          refine lv_iload C0.1 C0.2.1 dX11_goWalk_163 (lv_at hl 1 rfl) ?_
          rw [hQ]
          exact y_iret C0 h (Fr.tr (Fr.tr (Fr.tr (Fr.tr (Fr.tr (Fr.tr (Fr.mono u_4 (by decide)) (Fr.mono u_9 (by decide))) (Fr.mono hF_33 (by decide))) (Fr.up u_76.1 kSC_207 (by decide))) (Fr.up u_80.1 kSC_207 (by decide))) (Fr.up u_87.1 kSC_207 (by decide))) (Fr.up u_91.1 kSC_207 (by decide))) trivial dX11_goWalk_165
    exact lp_34 ((1 - v_25.toInt + 1).toNat) v_25 v_23 v_21 v_19 v_16 _ _ _ _ (o26_61 e_26) (o26_62 e_26) (o26_6 e_26) (o26_1 e_24) (o26_63 e_24) (o26_1 e_22) (o26_63 e_22) (o26_62 e_20) (o26_6 e_20) (o26_1 e_17) (o26_63 e_17) h Fr.rf (lv_sub hl [0, 1, 2, 3, 4, 5, 6, 7, 8] rfl)
  · -- 13
    refine y_c1 (n := (-1)) C0 (by decide) dX11_goWalk_16 (fun v_92 e_93 => ?_)
    refine lv_goto (tgt := 21) C0.1 C0.2.1 dX11_goWalk_17 (by decide) ?_
    refine lv_istore (lv' := [(4, .int v_92), (3, .int r_11), (2, .int r_6), (0, .ref (ad 0)), (1, .ref (ad i1))]) C0.1 C0.2.1 dX11_goWalk_21 hl (by decide) rfl (fun ls hl => ?_)
    refine lv_iload_n C0.1 C0.2.1 dX11_goWalk_23 rfl (lv_at hl 1 rfl) ?_
    refine y_if_eq (tgt := 31) C0 dX11_goWalk_24 (by decide) (fun c_94 => ((o26_64 e_7 e_12 e_13 e_14 c_15 c_94)).elim) (fun c_94 => ?_)
    refine y_c1 (n := 0) C0 (by decide) dX11_goWalk_27 (fun v_95 e_96 => ?_)
    refine lv_goto (tgt := 32) C0.1 C0.2.1 dX11_goWalk_28 (by decide) ?_
    refine lv_istore (lv' := [(5, .int v_95), (4, .int v_92), (3, .int r_11), (2, .int r_6), (0, .ref (ad 0)), (1, .ref (ad i1))]) C0.1 C0.2.1 dX11_goWalk_32 hl (by decide) rfl (fun ls hl => ?_)
    refine y_c1 (n := 0) C0 (by decide) dX11_goWalk_34 (fun v_97 e_98 => ?_)
    refine lv_istore (lv' := [(6, .int v_97), (5, .int v_95), (4, .int v_92), (3, .int r_11), (2, .int r_6), (0, .ref (ad 0)), (1, .ref (ad i1))]) C0.1 C0.2.1 dX11_goWalk_35 hl (by decide) rfl (fun ls hl => ?_)
    refine y_c1 (n := 0) C0 (by decide) dX11_goWalk_37 (fun v_99 e_100 => ?_)
    refine lv_istore (lv' := [(7, .int v_99), (6, .int v_97), (5, .int v_95), (4, .int v_92), (3, .int r_11), (2, .int r_6), (0, .ref (ad 0)), (1, .ref (ad i1))]) C0.1 C0.2.1 dX11_goWalk_38 hl (by decide) rfl (fun ls hl => ?_)
    refine y_c1 (n := 1) C0 (by decide) dX11_goWalk_40 (fun v_101 e_102 => ?_)
    refine lv_istore (lv' := [(8, .int v_101), (7, .int v_99), (6, .int v_97), (5, .int v_95), (4, .int v_92), (3, .int r_11), (2, .int r_6), (0, .ref (ad 0)), (1, .ref (ad i1))]) C0.1 C0.2.1 dX11_goWalk_41 hl (by decide) rfl (fun ls hl => ?_)
    have lp_110 : ∀ (n_112 : Nat) (x8_103 : Int32) (x7_104 : Int32) (x6_105 : Int32) (x5_106 : Int32) (x4_107 : Int32) (H : Heap) (locs : List Loc) (ls : Array Slot) (ws_108 : va_W), 40 - x8_103.toInt < (n_112 : Int) → 1 ≤ x8_103.toInt → x8_103.toInt ≤ 40 → 0 ≤ x5_106.toInt → x5_106.toInt ≤ 4 → (-1) ≤ x4_107.toInt → x4_107.toInt ≤ 39 → Wt G (SC tt) ad A s H locs ws_108 → Fr (SC tt) [4, 5, 6, 7, 8, 9, 11] ws_8 ws_108 → lv_has ls 10 [(8, .int x8_103), (7, .int x7_104), (6, .int x6_105), (5, .int x5_106), (4, .int x4_107), (3, .int r_11), (2, .int r_6), (0, .ref (ad 0)), (1, .ref (ad i1))] → W p l e (rmd 4 0 0) s m args below meth c H locs 0 0 Q (F0 m 43 ls []) := by
      intro n_112
      induction n_112 with
      | zero => intro x8_103 x7_104 x6_105 x5_106 x4_107 H locs ls ws_108 hn_113 b_114 b_115 b_116 b_117 b_118 b_119 h hF_109 hl; exact ((o26_65 b_114 b_115 hn_113)).elim
      | succ n_112 ih_111 =>
        intro x8_103 x7_104 x6_105 x5_106 x4_107 H locs ls ws_108 hn_113 b_114 b_115 b_116 b_117 b_118 b_119 h hF_109 hl
        refine lv_iload C0.1 C0.2.1 dX11_goWalk_43 (lv_at hl 0 rfl) ?_
        refine lv_aload_n C0.1 C0.2.1 dX11_goWalk_45 rfl (lv_at hl 8 rfl) ?_
        refine tg_X10_size C0 h hi1 q_502 dX11_goWalk_46 (fun v_120 e_121 e_122 e_123 => ?_)
        refine y_icmp_ge (tgt := 113) C0 dX11_goWalk_49 (by decide) (fun c_124 => ?_) (fun c_124 => ?_)
        · -- 49
          refine lv_aload_n C0.1 C0.2.1 dX11_goWalk_113 rfl (lv_at hl 7 rfl) ?_
          refine tg_X11_walked C0 h kSC_0 q_529 dX11_goWalk_114 ?_
          refine y_c1 (n := 0) C0 (by decide) dX11_goWalk_117 (fun v_125 e_126 => ?_)
          refine lv_iload C0.1 C0.2.1 dX11_goWalk_118 (lv_at hl 4 rfl) ?_
          refine y_iast C0 h kSC_207 rfl (by decide) (o26_1 e_126) (o26_54 e_126) (le_min x4_107) (le_max x4_107) dX11_goWalk_120 (fun H locs ws_127 h u_128 => ?_)
          refine lv_aload_n C0.1 C0.2.1 dX11_goWalk_121 rfl (lv_at hl 7 rfl) ?_
          refine tg_X11_walked C0 h kSC_0 q_529 dX11_goWalk_122 ?_
          refine y_c1 (n := 1) C0 (by decide) dX11_goWalk_125 (fun v_129 e_130 => ?_)
          refine lv_iload C0.1 C0.2.1 dX11_goWalk_126 (lv_at hl 3 rfl) ?_
          refine y_iast C0 h kSC_207 rfl (by decide) (o26_5 e_130) (o26_55 e_130) (le_min x5_106) (le_max x5_106) dX11_goWalk_128 (fun H locs ws_131 h u_132 => ?_)
          refine lv_aload_n C0.1 C0.2.1 dX11_goWalk_129 rfl (lv_at hl 7 rfl) ?_
          refine tg_X11_walked C0 h kSC_0 q_529 dX11_goWalk_130 ?_
          refine y_c1 (n := 2) C0 (by decide) dX11_goWalk_133 (fun v_133 e_134 => ?_)
          refine lv_iload_n C0.1 C0.2.1 dX11_goWalk_134 rfl (lv_at hl 5 rfl) ?_
          refine y_if_eq (tgt := 153) C0 dX11_goWalk_135 (by decide) (fun c_135 => ((o26_64 e_7 e_12 e_13 e_14 c_15 c_135)).elim) (fun c_135 => ?_)
          refine lv_aload_n C0.1 C0.2.1 dX11_goWalk_138 rfl (lv_at hl 7 rfl) ?_
          refine tg_X11_now C0 h kSC_0 q_515 dX11_goWalk_139 ?_
          refine tg_X0_folk C0 h kSC_1 q_249 dX11_goWalk_142 ?_
          refine tg_X1_at C0 h kSC_10 q_191 dX11_goWalk_145 ?_
          refine lv_iload_n C0.1 C0.2.1 dX11_goWalk_148 rfl (lv_at hl 6 rfl) ?_
          refine y_iald C0 h kSC_11 rfl (by decide) (o26_66 e_7 e_12 e_13 e_14 c_15) (o26_67 e_7 e_12 e_13 e_14 c_15) dX11_goWalk_149 (fun v_136 e_137 e_138 e_139 => ?_)
          refine lv_goto (tgt := 154) C0.1 C0.2.1 dX11_goWalk_150 (by decide) ?_
          refine y_iast C0 h kSC_207 rfl (by decide) (o26_56 e_134) (o26_57 e_134) (le_min v_136) (le_max v_136) dX11_goWalk_154 (fun H locs ws_140 h u_141 => ?_)
          refine lv_aload_n C0.1 C0.2.1 dX11_goWalk_155 rfl (lv_at hl 7 rfl) ?_
          refine tg_X11_walked C0 h kSC_0 q_529 dX11_goWalk_156 ?_
          refine y_c1 (n := 3) C0 (by decide) dX11_goWalk_159 (fun v_142 e_143 => ?_)
          refine lv_iload C0.1 C0.2.1 dX11_goWalk_160 (lv_at hl 2 rfl) ?_
          refine y_iast C0 h kSC_207 rfl (by decide) (o26_58 e_143) (o26_59 e_143) (le_min x6_105) (le_max x6_105) dX11_goWalk_162 (fun H locs ws_144 h u_145 => ?_)
          refine lv_iload C0.1 C0.2.1 dX11_goWalk_163 (lv_at hl 1 rfl) ?_
          rw [hQ]
          exact y_iret C0 h (Fr.tr (Fr.tr (Fr.tr (Fr.tr (Fr.tr (Fr.tr (Fr.mono u_4 (by decide)) (Fr.mono u_9 (by decide))) (Fr.mono hF_109 (by decide))) (Fr.up u_128.1 kSC_207 (by decide))) (Fr.up u_132.1 kSC_207 (by decide))) (Fr.up u_141.1 kSC_207 (by decide))) (Fr.up u_145.1 kSC_207 (by decide))) trivial dX11_goWalk_165
        · -- 49
          refine lv_iload C0.1 C0.2.1 dX11_goWalk_52 (lv_at hl 3 rfl) ?_
          refine y_if_ne (tgt := 113) C0 dX11_goWalk_54 (by decide) (fun c_146 => ?_) (fun c_146 => ?_)
          · -- 54
            refine lv_aload_n C0.1 C0.2.1 dX11_goWalk_113 rfl (lv_at hl 7 rfl) ?_
            refine tg_X11_walked C0 h kSC_0 q_529 dX11_goWalk_114 ?_
            refine y_c1 (n := 0) C0 (by decide) dX11_goWalk_117 (fun v_147 e_148 => ?_)
            refine lv_iload C0.1 C0.2.1 dX11_goWalk_118 (lv_at hl 4 rfl) ?_
            refine y_iast C0 h kSC_207 rfl (by decide) (o26_1 e_148) (o26_54 e_148) (le_min x4_107) (le_max x4_107) dX11_goWalk_120 (fun H locs ws_149 h u_150 => ?_)
            refine lv_aload_n C0.1 C0.2.1 dX11_goWalk_121 rfl (lv_at hl 7 rfl) ?_
            refine tg_X11_walked C0 h kSC_0 q_529 dX11_goWalk_122 ?_
            refine y_c1 (n := 1) C0 (by decide) dX11_goWalk_125 (fun v_151 e_152 => ?_)
            refine lv_iload C0.1 C0.2.1 dX11_goWalk_126 (lv_at hl 3 rfl) ?_
            refine y_iast C0 h kSC_207 rfl (by decide) (o26_5 e_152) (o26_55 e_152) (le_min x5_106) (le_max x5_106) dX11_goWalk_128 (fun H locs ws_153 h u_154 => ?_)
            refine lv_aload_n C0.1 C0.2.1 dX11_goWalk_129 rfl (lv_at hl 7 rfl) ?_
            refine tg_X11_walked C0 h kSC_0 q_529 dX11_goWalk_130 ?_
            refine y_c1 (n := 2) C0 (by decide) dX11_goWalk_133 (fun v_155 e_156 => ?_)
            refine lv_iload_n C0.1 C0.2.1 dX11_goWalk_134 rfl (lv_at hl 5 rfl) ?_
            refine y_if_eq (tgt := 153) C0 dX11_goWalk_135 (by decide) (fun c_157 => ((o26_64 e_7 e_12 e_13 e_14 c_15 c_157)).elim) (fun c_157 => ?_)
            refine lv_aload_n C0.1 C0.2.1 dX11_goWalk_138 rfl (lv_at hl 7 rfl) ?_
            refine tg_X11_now C0 h kSC_0 q_515 dX11_goWalk_139 ?_
            refine tg_X0_folk C0 h kSC_1 q_249 dX11_goWalk_142 ?_
            refine tg_X1_at C0 h kSC_10 q_191 dX11_goWalk_145 ?_
            refine lv_iload_n C0.1 C0.2.1 dX11_goWalk_148 rfl (lv_at hl 6 rfl) ?_
            refine y_iald C0 h kSC_11 rfl (by decide) (o26_66 e_7 e_12 e_13 e_14 c_15) (o26_67 e_7 e_12 e_13 e_14 c_15) dX11_goWalk_149 (fun v_158 e_159 e_160 e_161 => ?_)
            refine lv_goto (tgt := 154) C0.1 C0.2.1 dX11_goWalk_150 (by decide) ?_
            refine y_iast C0 h kSC_207 rfl (by decide) (o26_56 e_156) (o26_57 e_156) (le_min v_158) (le_max v_158) dX11_goWalk_154 (fun H locs ws_162 h u_163 => ?_)
            refine lv_aload_n C0.1 C0.2.1 dX11_goWalk_155 rfl (lv_at hl 7 rfl) ?_
            refine tg_X11_walked C0 h kSC_0 q_529 dX11_goWalk_156 ?_
            refine y_c1 (n := 3) C0 (by decide) dX11_goWalk_159 (fun v_164 e_165 => ?_)
            refine lv_iload C0.1 C0.2.1 dX11_goWalk_160 (lv_at hl 2 rfl) ?_
            refine y_iast C0 h kSC_207 rfl (by decide) (o26_58 e_165) (o26_59 e_165) (le_min x6_105) (le_max x6_105) dX11_goWalk_162 (fun H locs ws_166 h u_167 => ?_)
            refine lv_iload C0.1 C0.2.1 dX11_goWalk_163 (lv_at hl 1 rfl) ?_
            rw [hQ]
            exact y_iret C0 h (Fr.tr (Fr.tr (Fr.tr (Fr.tr (Fr.tr (Fr.tr (Fr.mono u_4 (by decide)) (Fr.mono u_9 (by decide))) (Fr.mono hF_109 (by decide))) (Fr.up u_150.1 kSC_207 (by decide))) (Fr.up u_154.1 kSC_207 (by decide))) (Fr.up u_163.1 kSC_207 (by decide))) (Fr.up u_167.1 kSC_207 (by decide))) trivial dX11_goWalk_165
          · -- 54
            refine lv_aload_n C0.1 C0.2.1 dX11_goWalk_57 rfl (lv_at hl 8 rfl) ?_
            refine lv_iload C0.1 C0.2.1 dX11_goWalk_58 (lv_at hl 0 rfl) ?_
            refine y_ci h (y_rV (As := [.int x8_103]) (rest := []) C0 hZ h (c_X10_asSmall l G Z ad _ h.2 i1 hi1 x8_103) k_X10_asSmall q_1005 q_1006 q_1004 hi1 rfl rfl rfl hl.1 rfl rfl (Nat.le_of_ble_eq_true rfl) dX11_goWalk_60 ⟨Nat.le_of_ble_eq_true rfl, Nat.le_of_ble_eq_true rfl⟩ ⟨Nat.le_of_ble_eq_true rfl, Nat.le_of_ble_eq_true rfl⟩) (fun r_171 H locs ws_168 h u_169 p_170 => ?_)
            have e_172 := p_170
            refine lv_istore (lv' := [(9, .int r_171), (8, .int x8_103), (7, .int x7_104), (6, .int x6_105), (5, .int x5_106), (4, .int x4_107), (3, .int r_11), (2, .int r_6), (0, .ref (ad 0)), (1, .ref (ad i1))]) C0.1 C0.2.1 dX11_goWalk_63 hl (by decide) rfl (fun ls hl => ?_)
            refine lv_aload_n C0.1 C0.2.1 dX11_goWalk_65 rfl (lv_at hl 8 rfl) ?_
            refine tg_X11_now C0 h kSC_0 q_515 dX11_goWalk_66 ?_
            refine lv_iload_n C0.1 C0.2.1 dX11_goWalk_69 rfl (lv_at hl 7 rfl) ?_
            refine lv_iload C0.1 C0.2.1 dX11_goWalk_70 (lv_at hl 0 rfl) ?_
            refine y_ci h (y_rV (As := [.int r_6, .int r_171]) (rest := []) C0 hZ h (c_X0_hindrance l G Z ad _ h.2 1 kSC_1 r_6 r_171 (Rel.fr (M := [4, 5, 6, 7, 8, 9, 11]) hR (Fr.tr (Fr.tr (Fr.tr (Fr.mono u_4 (by decide)) (Fr.mono u_9 (by decide))) hF_109) (Fr.mono u_169 (by decide))) (by decide) (by decide))) k_X0_hindrance q_965 q_966 q_964 kSC_1 rfl rfl rfl hl.1 rfl rfl (Nat.le_of_ble_eq_true rfl) dX11_goWalk_72 ⟨Nat.le_of_ble_eq_true rfl, Nat.le_of_ble_eq_true rfl⟩ ⟨Nat.le_of_ble_eq_true rfl, Nat.le_of_ble_eq_true rfl⟩) (fun r_176 H locs ws_173 h u_174 p_175 => ?_)
            obtain ⟨e_177, e_178, e_179, e_180⟩ := p_175
            refine lv_istore (lv' := [(5, .int r_176), (9, .int r_171), (8, .int x8_103), (7, .int x7_104), (6, .int x6_105), (4, .int x4_107), (3, .int r_11), (2, .int r_6), (0, .ref (ad 0)), (1, .ref (ad i1))]) C0.1 C0.2.1 dX11_goWalk_75 hl (by decide) rfl (fun ls hl => ?_)
            refine lv_iload C0.1 C0.2.1 dX11_goWalk_77 (lv_at hl 0 rfl) ?_
            refine y_if_ne (tgt := 103) C0 dX11_goWalk_79 (by decide) (fun c_181 => ?_) (fun c_181 => ?_)
            · -- 79
              refine lv_iload C0.1 C0.2.1 dX11_goWalk_103 (lv_at hl 2 rfl) ?_
              refine lv_istore (lv' := [(4, .int x8_103), (5, .int r_176), (9, .int r_171), (8, .int x8_103), (7, .int x7_104), (6, .int x6_105), (3, .int r_11), (2, .int r_6), (0, .ref (ad 0)), (1, .ref (ad i1))]) C0.1 C0.2.1 dX11_goWalk_105 hl (by decide) rfl (fun ls hl => ?_)
              refine y_inc (kp := 3) (n := 1) (fun v_182 => [(8, .int v_182), (4, .int x8_103), (5, .int r_176), (9, .int r_171), (7, .int x7_104), (6, .int x6_105), (3, .int r_11), (2, .int r_6), (0, .ref (ad 0)), (1, .ref (ad i1))]) C0 hl rfl (by decide) (by decide) (fun _ => rfl) (o26_68 b_114 b_115 hn_113 e_122 e_123 c_124 (le_min x8_103) (le_max x8_103) (le_min v_120) (le_max v_120)) (o26_69 b_114 b_115 hn_113 e_122 e_123 c_124 (le_min x8_103) (le_max x8_103) (le_min v_120) (le_max v_120)) dX11_goWalk_107 (fun v_182 ls e_183 hl => ?_)
              refine lv_goto (tgt := 43) C0.1 C0.2.1 dX11_goWalk_110 (by decide) ?_
              exact ih_111 v_182 x7_104 x6_105 r_176 x8_103 _ _ _ _ (o26_70 b_114 b_115 hn_113 e_122 e_123 c_124 e_183) (o26_71 b_114 b_115 hn_113 e_122 e_123 c_124 e_183) (o26_72 b_114 b_115 hn_113 e_122 e_123 c_124 e_183) (o26_73 e_7 e_12 e_13 e_14 c_15 e_172 e_177 e_178 e_179 c_181) (o26_74 e_7 e_12 e_13 e_14 c_15 e_172 e_177 e_178 e_179 c_181) (o26_75 b_114 b_115 hn_113 e_122 e_123 c_124 e_183) (o26_76 b_114 b_115 hn_113 e_122 e_123 c_124 e_183) h (Fr.tr (Fr.tr hF_109 (Fr.mono u_169 (by decide))) (Fr.mono u_174 (by decide))) (lv_sub hl [0, 4, 5, 2, 1, 6, 7, 8, 9] rfl)
            · -- 79
              refine lv_iload C0.1 C0.2.1 dX11_goWalk_82 (lv_at hl 4 rfl) ?_
              refine lv_aload_n C0.1 C0.2.1 dX11_goWalk_84 rfl (lv_at hl 8 rfl) ?_
              refine tg_X11_now C0 h kSC_0 q_515 dX11_goWalk_85 ?_
              refine lv_iload_n C0.1 C0.2.1 dX11_goWalk_88 rfl (lv_at hl 7 rfl) ?_
              refine lv_iload C0.1 C0.2.1 dX11_goWalk_89 (lv_at hl 1 rfl) ?_
              refine y_ci h (y_rV (As := [.int r_6, .int r_171]) (rest := [.int x6_105]) C0 hZ h (c_X0_step l G Z ad _ h.2 1 kSC_1 r_6 r_171 (o26_77 e_7 e_12 e_13 e_14 c_15 e_172 e_177 e_178 e_179 c_181) (o26_78 e_7 e_12 e_13 e_14 c_15 e_172 e_177 e_178 e_179 c_181) (o26_79 e_7 e_12 e_13 e_14 c_15 e_172 e_177 e_178 e_179 c_181) (o26_80 e_7 e_12 e_13 e_14 c_15 e_172 e_177 e_178 e_179 c_181) (Rel.fr (M := [4, 5, 6, 7, 8, 9, 11]) hR (Fr.tr (Fr.tr (Fr.tr (Fr.tr (Fr.mono u_4 (by decide)) (Fr.mono u_9 (by decide))) hF_109) (Fr.mono u_169 (by decide))) (Fr.mono u_174 (by decide))) (by decide) (by decide)) ((CanGo.fr u_174 kSC_1 (by decide) (by decide) (by decide) (e_180 (o26_81 e_7 e_12 e_13 e_14 c_15 e_172 e_177 e_178 e_179 c_181))))) k_X0_step q_989 q_990 q_988 kSC_1 rfl rfl rfl hl.1 rfl rfl (Nat.le_of_ble_eq_true rfl) dX11_goWalk_91 ⟨Nat.le_of_ble_eq_true rfl, Nat.le_of_ble_eq_true rfl⟩ ⟨Nat.le_of_ble_eq_true rfl, Nat.le_of_ble_eq_true rfl⟩) (fun r_187 H locs ws_184 h u_185 p_186 => ?_)
              obtain ⟨e_188, e_189⟩ := p_186
              refine y_iaddU C0 dX11_goWalk_94 (fun v_190 => ?_)
              refine lv_istore (lv' := [(6, .int v_190), (5, .int r_176), (9, .int r_171), (8, .int x8_103), (7, .int x7_104), (4, .int x4_107), (3, .int r_11), (2, .int r_6), (0, .ref (ad 0)), (1, .ref (ad i1))]) C0.1 C0.2.1 dX11_goWalk_95 hl (by decide) rfl (fun ls hl => ?_)
              refine y_incU (kp := 4) (fun v_191 => [(7, .int v_191), (6, .int v_190), (5, .int r_176), (9, .int r_171), (8, .int x8_103), (4, .int x4_107), (3, .int r_11), (2, .int r_6), (0, .ref (ad 0)), (1, .ref (ad i1))]) C0 hl rfl (by decide) (fun _ => rfl) dX11_goWalk_97 (fun v_191 ls hl => ?_)
              refine lv_goto (tgt := 107) C0.1 C0.2.1 dX11_goWalk_100 (by decide) ?_
              refine y_inc (kp := 4) (n := 1) (fun v_192 => [(8, .int v_192), (7, .int v_191), (6, .int v_190), (5, .int r_176), (9, .int r_171), (4, .int x4_107), (3, .int r_11), (2, .int r_6), (0, .ref (ad 0)), (1, .ref (ad i1))]) C0 hl rfl (by decide) (by decide) (fun _ => rfl) (o26_68 b_114 b_115 hn_113 e_122 e_123 c_124 (le_min x8_103) (le_max x8_103) (le_min v_120) (le_max v_120)) (o26_69 b_114 b_115 hn_113 e_122 e_123 c_124 (le_min x8_103) (le_max x8_103) (le_min v_120) (le_max v_120)) dX11_goWalk_107 (fun v_192 ls e_193 hl => ?_)
              refine lv_goto (tgt := 43) C0.1 C0.2.1 dX11_goWalk_110 (by decide) ?_
              exact ih_111 v_192 v_191 v_190 r_176 x4_107 _ _ _ _ (o26_70 b_114 b_115 hn_113 e_122 e_123 c_124 e_193) (o26_71 b_114 b_115 hn_113 e_122 e_123 c_124 e_193) (o26_72 b_114 b_115 hn_113 e_122 e_123 c_124 e_193) (o26_82 e_7 e_12 e_13 e_14 c_15 e_172 e_177 e_178 e_179 c_181) (o26_83 e_7 e_12 e_13 e_14 c_15 e_172 e_177 e_178 e_179 c_181) (o26_84 b_118 b_119) (o26_85 b_118 b_119) h (Fr.tr (Fr.tr (Fr.tr hF_109 (Fr.mono u_169 (by decide))) (Fr.mono u_174 (by decide))) (Fr.mono u_185 (by decide))) (lv_sub hl [0, 1, 2, 3, 5, 6, 7, 8, 9] rfl)
    exact lp_110 ((40 - v_101.toInt + 1).toNat) v_101 v_99 v_97 v_95 v_92 _ _ _ _ (o26_86 e_102) (o26_62 e_102) (o26_87 e_102) (o26_1 e_96) (o26_88 e_96) (o26_89 e_93) (o26_90 e_93) h Fr.rf (lv_sub hl [0, 1, 2, 3, 4, 5, 6, 7, 8] rfl)
set_option maxHeartbeats 4000000 in
set_option maxRecDepth 100000 in
theorem c_X11_liveOnce (l : Launch) (G : GG) (Z : RZ) (ad : Nat → Nat) (ws0 : va_W) (hT : Ty G (SC tt) ad ws0) (hR : Rel ws0) : Mq l yX11_liveOnce cX11_liveOnce 5 (some .boolean) 5 G Z [.ref (ad 0)] ws0 (PI G (SC tt) ad [0, 4, 5, 6, 7, 8, 9, 10, 11, 12] ws0 (fun r u => (0 ≤ r.toInt) ∧ (r.toInt ≤ 1))) := by
  refine Mq.start (by decide) (Nat.le_of_ble_eq_true rfl) ?_
  intro p e s m below meth c A ls C0 hZ h hl
  have hl : lv_has ls 5 [(0, .ref (ad 0))] := hl
  have h : Wt G (SC tt) ad A s s.heap [] ws0 := ⟨h, hT⟩
  obtain ⟨args, hargs⟩ : ∃ z, z = ([.ref (ad 0)] : List Value).toArray := ⟨_, rfl⟩
  rw [← hargs] at C0 ⊢
  have C0 : Cx p s m args meth c RX11 cX11_liveOnce 5 (some .boolean) := C0
  obtain ⟨Q, hQ⟩ : ∃ z, z = MQ below ((PI G (SC tt) ad [0, 4, 5, 6, 7, 8, 9, 10, 11, 12] ws0 (fun r u => (0 ≤ r.toInt) ∧ (r.toInt ≤ 1))) A) args s 0 0 A := ⟨_, rfl⟩
  rw [← hQ]
  refine lv_aload_n C0.1 C0.2.1 dX11_liveOnce_0 rfl (lv_at hl 0 rfl) ?_
  refine y_ci h (y_rV (As := []) (rest := []) C0 hZ h (c_X11_draw l G Z ad _ h.2) k_X11_draw q_1058 q_30 q_1056 kSC_0 rfl rfl rfl hl.1 rfl rfl (Nat.le_of_ble_eq_true rfl) dX11_liveOnce_1 ⟨Nat.le_of_ble_eq_true rfl, Nat.le_of_ble_eq_true rfl⟩ ⟨Nat.le_of_ble_eq_true rfl, Nat.le_of_ble_eq_true rfl⟩) (fun r_4 H locs ws_1 h u_2 p_3 => ?_)
  obtain ⟨e_5, e_6⟩ := p_3
  refine y_c1 (n := 4) C0 (by decide) dX11_liveOnce_4 (fun v_7 e_8 => ?_)
  refine y_remc (n := 4) C0 (o26_91 e_8) (by decide) (o26_50 e_5 e_6) dX11_liveOnce_5 (fun v_9 e_10 => ?_)
  refine lv_istore_n (lv' := [(1, .int v_9), (0, .ref (ad 0))]) C0.1 C0.2.1 dX11_liveOnce_6 rfl hl (by decide) rfl (fun ls hl => ?_)
  refine lv_iload_n C0.1 C0.2.1 dX11_liveOnce_7 rfl (lv_at hl 0 rfl) ?_
  refine y_c1 (n := 3) C0 (by decide) dX11_liveOnce_8 (fun v_11 e_12 => ?_)
  refine y_icmp_ne (tgt := 30) C0 dX11_liveOnce_9 (by decide) (fun c_13 => ?_) (fun c_13 => ?_)
  · -- 9
    refine lv_aload_n C0.1 C0.2.1 dX11_liveOnce_30 rfl (lv_at hl 1 rfl) ?_
    refine tg_X11_now C0 h kSC_0 q_515 dX11_liveOnce_31 ?_
    refine tg_X0_folk C0 h kSC_1 q_249 dX11_liveOnce_34 ?_
    refine tg_X1_people C0 h kSC_10 q_215 dX11_liveOnce_37 (fun v_14 e_15 e_16 e_17 => ?_)
    refine lv_istore_n (lv' := [(2, .int v_14), (1, .int v_9), (0, .ref (ad 0))]) C0.1 C0.2.1 dX11_liveOnce_40 rfl hl (by decide) rfl (fun ls hl => ?_)
    refine lv_iload_n C0.1 C0.2.1 dX11_liveOnce_41 rfl (lv_at hl 0 rfl) ?_
    refine y_if_le (tgt := 54) C0 dX11_liveOnce_42 (by decide) (fun c_18 => ?_) (fun c_18 => ?_)
    · -- 42
      refine y_c1 (n := 0) C0 (by decide) dX11_liveOnce_54 (fun v_19 e_20 => ?_)
      refine lv_istore_n (lv' := [(3, .int v_19), (2, .int v_14), (1, .int v_9), (0, .ref (ad 0))]) C0.1 C0.2.1 dX11_liveOnce_55 rfl hl (by decide) rfl (fun ls hl => ?_)
      refine lv_iload_n C0.1 C0.2.1 dX11_liveOnce_56 rfl (lv_at hl 2 rfl) ?_
      refine y_c1 (n := 2) C0 (by decide) dX11_liveOnce_57 (fun v_21 e_22 => ?_)
      refine y_icmp_ne (tgt := 70) C0 dX11_liveOnce_58 (by decide) (fun c_23 => ?_) (fun c_23 => ?_)
      · -- 58
        refine lv_aload_n C0.1 C0.2.1 dX11_liveOnce_70 rfl (lv_at hl 3 rfl) ?_
        refine y_ci h (y_rV (As := []) (rest := []) C0 hZ h (c_X11_draw l G Z ad _ h.2) k_X11_draw q_1058 q_30 q_1056 kSC_0 rfl rfl rfl hl.1 rfl rfl (Nat.le_of_ble_eq_true rfl) dX11_liveOnce_71 ⟨Nat.le_of_ble_eq_true rfl, Nat.le_of_ble_eq_true rfl⟩ ⟨Nat.le_of_ble_eq_true rfl, Nat.le_of_ble_eq_true rfl⟩) (fun r_27 H locs ws_24 h u_25 p_26 => ?_)
        obtain ⟨e_28, e_29⟩ := p_26
        refine y_c1 (n := 4) C0 (by decide) dX11_liveOnce_74 (fun v_30 e_31 => ?_)
        refine y_remc (n := 4) C0 (o26_91 e_31) (by decide) (o26_50 e_28 e_29) dX11_liveOnce_75 (fun v_32 e_33 => ?_)
        refine lv_istore (lv' := [(4, .int v_32), (3, .int v_19), (2, .int v_14), (1, .int v_9), (0, .ref (ad 0))]) C0.1 C0.2.1 dX11_liveOnce_76 hl (by decide) rfl (fun ls hl => ?_)
        refine lv_aload_n C0.1 C0.2.1 dX11_liveOnce_78 rfl (lv_at hl 4 rfl) ?_
        refine tg_X11_now C0 h kSC_0 q_515 dX11_liveOnce_79 ?_
        refine lv_iload_n C0.1 C0.2.1 dX11_liveOnce_82 rfl (lv_at hl 1 rfl) ?_
        refine lv_iload C0.1 C0.2.1 dX11_liveOnce_83 (lv_at hl 0 rfl) ?_
        refine y_ci h (y_rV (As := [.int v_19, .int v_32]) (rest := []) C0 hZ h (c_X0_hindrance l G Z ad _ h.2 1 kSC_1 v_19 v_32 (Rel.fr (M := [0]) hR (Fr.tr u_2 u_25) (by decide) (by decide))) k_X0_hindrance q_965 q_966 q_964 kSC_1 rfl rfl rfl hl.1 rfl rfl (Nat.le_of_ble_eq_true rfl) dX11_liveOnce_85 ⟨Nat.le_of_ble_eq_true rfl, Nat.le_of_ble_eq_true rfl⟩ ⟨Nat.le_of_ble_eq_true rfl, Nat.le_of_ble_eq_true rfl⟩) (fun r_37 H locs ws_34 h u_35 p_36 => ?_)
        obtain ⟨e_38, e_39, e_40, e_41⟩ := p_36
        refine y_if_eq (tgt := 93) C0 dX11_liveOnce_88 (by decide) (fun c_42 => ?_) (fun c_42 => ?_)
        · -- 88
          refine lv_aload_n C0.1 C0.2.1 dX11_liveOnce_93 rfl (lv_at hl 4 rfl) ?_
          refine tg_X11_now C0 h kSC_0 q_515 dX11_liveOnce_94 ?_
          refine lv_iload_n C0.1 C0.2.1 dX11_liveOnce_97 rfl (lv_at hl 1 rfl) ?_
          refine lv_iload C0.1 C0.2.1 dX11_liveOnce_98 (lv_at hl 0 rfl) ?_
          refine y_ci h (y_rV (As := [.int v_19, .int v_32]) (rest := []) C0 hZ h (c_X0_step l G Z ad _ h.2 1 kSC_1 v_19 v_32 (o26_92 e_20 e_28 e_29 e_33 e_38 e_39 e_40 c_42) (o26_93 e_20 e_28 e_29 e_33 e_38 e_39 e_40 c_42) (o26_94 e_20 e_28 e_29 e_33 e_38 e_39 e_40 c_42) (o26_95 e_20 e_28 e_29 e_33 e_38 e_39 e_40 c_42) (Rel.fr (M := [0, 4, 5]) hR (Fr.tr (Fr.tr (Fr.mono u_2 (by decide)) (Fr.mono u_25 (by decide))) (Fr.mono u_35 (by decide))) (by decide) (by decide)) ((CanGo.fr u_35 kSC_1 (by decide) (by decide) (by decide) (e_41 (o26_96 e_20 e_28 e_29 e_33 e_38 e_39 e_40 c_42))))) k_X0_step q_989 q_990 q_988 kSC_1 rfl rfl rfl hl.1 rfl rfl (Nat.le_of_ble_eq_true rfl) dX11_liveOnce_100 ⟨Nat.le_of_ble_eq_true rfl, Nat.le_of_ble_eq_true rfl⟩ ⟨Nat.le_of_ble_eq_true rfl, Nat.le_of_ble_eq_true rfl⟩) (fun r_46 H locs ws_43 h u_44 p_45 => ?_)
          obtain ⟨e_47, e_48⟩ := p_45
          refine lv_pop C0.1 C0.2.1 dX11_liveOnce_103 rfl ?_
          refine y_c1 (n := 1) C0 (by decide) dX11_liveOnce_104 (fun v_49 e_50 => ?_)
          rw [hQ]
          exact y_zret C0 h (o26_5 e_50) (o26_6 e_50) (Fr.tr (Fr.tr (Fr.tr (Fr.mono u_2 (by decide)) (Fr.mono u_25 (by decide))) (Fr.mono u_35 (by decide))) (Fr.mono u_44 (by decide))) ⟨(o26_5 e_50), (o26_6 e_50)⟩ dX11_liveOnce_105
        · -- 88
          refine y_c1 (n := 0) C0 (by decide) dX11_liveOnce_91 (fun v_51 e_52 => ?_)
          rw [hQ]
          exact y_zret C0 h (o26_1 e_52) (o26_2 e_52) (Fr.tr (Fr.tr (Fr.mono u_2 (by decide)) (Fr.mono u_25 (by decide))) (Fr.mono u_35 (by decide))) ⟨(o26_1 e_52), (o26_2 e_52)⟩ dX11_liveOnce_92
      · -- 58
        refine lv_aload_n C0.1 C0.2.1 dX11_liveOnce_61 rfl (lv_at hl 3 rfl) ?_
        refine tg_X11_now C0 h kSC_0 q_515 dX11_liveOnce_62 ?_
        refine lv_iload_n C0.1 C0.2.1 dX11_liveOnce_65 rfl (lv_at hl 0 rfl) ?_
        refine y_ci h (y_rV (As := [.int v_19]) (rest := []) C0 hZ h (c_X0_buysOne l G Z ad _ h.2 1 kSC_1 v_19 (o26_1 e_20) (o26_88 e_20)) k_X0_buysOne q_1062 q_1063 q_1061 kSC_1 rfl rfl rfl hl.1 rfl rfl (Nat.le_of_ble_eq_true rfl) dX11_liveOnce_66 ⟨Nat.le_of_ble_eq_true rfl, Nat.le_of_ble_eq_true rfl⟩ ⟨Nat.le_of_ble_eq_true rfl, Nat.le_of_ble_eq_true rfl⟩) (fun r_56 H locs ws_53 h u_54 p_55 => ?_)
        obtain ⟨e_57, e_58⟩ := p_55
        rw [hQ]
        exact y_zret C0 h (o26_97 e_57 e_58) (o26_98 e_57 e_58) (Fr.tr (Fr.mono u_2 (by decide)) (Fr.mono u_54 (by decide))) ⟨(o26_97 e_57 e_58), (o26_98 e_57 e_58)⟩ dX11_liveOnce_69
    · -- 42
      refine lv_aload_n C0.1 C0.2.1 dX11_liveOnce_45 rfl (lv_at hl 2 rfl) ?_
      refine y_ci h (y_rV (As := []) (rest := []) C0 hZ h (c_X11_draw l G Z ad _ h.2) k_X11_draw q_1058 q_30 q_1056 kSC_0 rfl rfl rfl hl.1 rfl rfl (Nat.le_of_ble_eq_true rfl) dX11_liveOnce_46 ⟨Nat.le_of_ble_eq_true rfl, Nat.le_of_ble_eq_true rfl⟩ ⟨Nat.le_of_ble_eq_true rfl, Nat.le_of_ble_eq_true rfl⟩) (fun r_62 H locs ws_59 h u_60 p_61 => ?_)
      obtain ⟨e_63, e_64⟩ := p_61
      refine lv_iload_n C0.1 C0.2.1 dX11_liveOnce_49 rfl (lv_at hl 0 rfl) ?_
      refine y_rem C0 (o26_99 e_16 e_17 c_18) (o26_50 e_63 e_64) dX11_liveOnce_50 (fun v_65 e_66 e_67 => ?_)
      refine lv_goto (tgt := 55) C0.1 C0.2.1 dX11_liveOnce_51 (by decide) ?_
      refine lv_istore_n (lv' := [(3, .int v_65), (2, .int v_14), (1, .int v_9), (0, .ref (ad 0))]) C0.1 C0.2.1 dX11_liveOnce_55 rfl hl (by decide) rfl (fun ls hl => ?_)
      refine lv_iload_n C0.1 C0.2.1 dX11_liveOnce_56 rfl (lv_at hl 2 rfl) ?_
      refine y_c1 (n := 2) C0 (by decide) dX11_liveOnce_57 (fun v_68 e_69 => ?_)
      refine y_icmp_ne (tgt := 70) C0 dX11_liveOnce_58 (by decide) (fun c_70 => ?_) (fun c_70 => ?_)
      · -- 58
        refine lv_aload_n C0.1 C0.2.1 dX11_liveOnce_70 rfl (lv_at hl 3 rfl) ?_
        refine y_ci h (y_rV (As := []) (rest := []) C0 hZ h (c_X11_draw l G Z ad _ h.2) k_X11_draw q_1058 q_30 q_1056 kSC_0 rfl rfl rfl hl.1 rfl rfl (Nat.le_of_ble_eq_true rfl) dX11_liveOnce_71 ⟨Nat.le_of_ble_eq_true rfl, Nat.le_of_ble_eq_true rfl⟩ ⟨Nat.le_of_ble_eq_true rfl, Nat.le_of_ble_eq_true rfl⟩) (fun r_74 H locs ws_71 h u_72 p_73 => ?_)
        obtain ⟨e_75, e_76⟩ := p_73
        refine y_c1 (n := 4) C0 (by decide) dX11_liveOnce_74 (fun v_77 e_78 => ?_)
        refine y_remc (n := 4) C0 (o26_91 e_78) (by decide) (o26_50 e_75 e_76) dX11_liveOnce_75 (fun v_79 e_80 => ?_)
        refine lv_istore (lv' := [(4, .int v_79), (3, .int v_65), (2, .int v_14), (1, .int v_9), (0, .ref (ad 0))]) C0.1 C0.2.1 dX11_liveOnce_76 hl (by decide) rfl (fun ls hl => ?_)
        refine lv_aload_n C0.1 C0.2.1 dX11_liveOnce_78 rfl (lv_at hl 4 rfl) ?_
        refine tg_X11_now C0 h kSC_0 q_515 dX11_liveOnce_79 ?_
        refine lv_iload_n C0.1 C0.2.1 dX11_liveOnce_82 rfl (lv_at hl 1 rfl) ?_
        refine lv_iload C0.1 C0.2.1 dX11_liveOnce_83 (lv_at hl 0 rfl) ?_
        refine y_ci h (y_rV (As := [.int v_65, .int v_79]) (rest := []) C0 hZ h (c_X0_hindrance l G Z ad _ h.2 1 kSC_1 v_65 v_79 (Rel.fr (M := [0]) hR (Fr.tr (Fr.tr u_2 u_60) u_72) (by decide) (by decide))) k_X0_hindrance q_965 q_966 q_964 kSC_1 rfl rfl rfl hl.1 rfl rfl (Nat.le_of_ble_eq_true rfl) dX11_liveOnce_85 ⟨Nat.le_of_ble_eq_true rfl, Nat.le_of_ble_eq_true rfl⟩ ⟨Nat.le_of_ble_eq_true rfl, Nat.le_of_ble_eq_true rfl⟩) (fun r_84 H locs ws_81 h u_82 p_83 => ?_)
        obtain ⟨e_85, e_86, e_87, e_88⟩ := p_83
        refine y_if_eq (tgt := 93) C0 dX11_liveOnce_88 (by decide) (fun c_89 => ?_) (fun c_89 => ?_)
        · -- 88
          refine lv_aload_n C0.1 C0.2.1 dX11_liveOnce_93 rfl (lv_at hl 4 rfl) ?_
          refine tg_X11_now C0 h kSC_0 q_515 dX11_liveOnce_94 ?_
          refine lv_iload_n C0.1 C0.2.1 dX11_liveOnce_97 rfl (lv_at hl 1 rfl) ?_
          refine lv_iload C0.1 C0.2.1 dX11_liveOnce_98 (lv_at hl 0 rfl) ?_
          refine y_ci h (y_rV (As := [.int v_65, .int v_79]) (rest := []) C0 hZ h (c_X0_step l G Z ad _ h.2 1 kSC_1 v_65 v_79 (o26_100 e_16 e_17 c_18 e_66 e_67 e_75 e_76 e_80 e_85 e_86 e_87 c_89) (o26_101 e_16 e_17 c_18 e_66 e_67 e_75 e_76 e_80 e_85 e_86 e_87 c_89) (o26_102 e_16 e_17 c_18 e_66 e_67 e_75 e_76 e_80 e_85 e_86 e_87 c_89) (o26_103 e_16 e_17 c_18 e_66 e_67 e_75 e_76 e_80 e_85 e_86 e_87 c_89) (Rel.fr (M := [0, 4, 5]) hR (Fr.tr (Fr.tr (Fr.tr (Fr.mono u_2 (by decide)) (Fr.mono u_60 (by decide))) (Fr.mono u_72 (by decide))) (Fr.mono u_82 (by decide))) (by decide) (by decide)) ((CanGo.fr u_82 kSC_1 (by decide) (by decide) (by decide) (e_88 (o26_104 e_16 e_17 c_18 e_66 e_67 e_75 e_76 e_80 e_85 e_86 e_87 c_89))))) k_X0_step q_989 q_990 q_988 kSC_1 rfl rfl rfl hl.1 rfl rfl (Nat.le_of_ble_eq_true rfl) dX11_liveOnce_100 ⟨Nat.le_of_ble_eq_true rfl, Nat.le_of_ble_eq_true rfl⟩ ⟨Nat.le_of_ble_eq_true rfl, Nat.le_of_ble_eq_true rfl⟩) (fun r_93 H locs ws_90 h u_91 p_92 => ?_)
          obtain ⟨e_94, e_95⟩ := p_92
          refine lv_pop C0.1 C0.2.1 dX11_liveOnce_103 rfl ?_
          refine y_c1 (n := 1) C0 (by decide) dX11_liveOnce_104 (fun v_96 e_97 => ?_)
          rw [hQ]
          exact y_zret C0 h (o26_5 e_97) (o26_6 e_97) (Fr.tr (Fr.tr (Fr.tr (Fr.tr (Fr.mono u_2 (by decide)) (Fr.mono u_60 (by decide))) (Fr.mono u_72 (by decide))) (Fr.mono u_82 (by decide))) (Fr.mono u_91 (by decide))) ⟨(o26_5 e_97), (o26_6 e_97)⟩ dX11_liveOnce_105
        · -- 88
          refine y_c1 (n := 0) C0 (by decide) dX11_liveOnce_91 (fun v_98 e_99 => ?_)
          rw [hQ]
          exact y_zret C0 h (o26_1 e_99) (o26_2 e_99) (Fr.tr (Fr.tr (Fr.tr (Fr.mono u_2 (by decide)) (Fr.mono u_60 (by decide))) (Fr.mono u_72 (by decide))) (Fr.mono u_82 (by decide))) ⟨(o26_1 e_99), (o26_2 e_99)⟩ dX11_liveOnce_92
      · -- 58
        refine lv_aload_n C0.1 C0.2.1 dX11_liveOnce_61 rfl (lv_at hl 3 rfl) ?_
        refine tg_X11_now C0 h kSC_0 q_515 dX11_liveOnce_62 ?_
        refine lv_iload_n C0.1 C0.2.1 dX11_liveOnce_65 rfl (lv_at hl 0 rfl) ?_
        refine y_ci h (y_rV (As := [.int v_65]) (rest := []) C0 hZ h (c_X0_buysOne l G Z ad _ h.2 1 kSC_1 v_65 (o26_105 e_16 e_17 c_18 e_66 e_67) (o26_106 e_16 e_17 c_18 e_66 e_67)) k_X0_buysOne q_1062 q_1063 q_1061 kSC_1 rfl rfl rfl hl.1 rfl rfl (Nat.le_of_ble_eq_true rfl) dX11_liveOnce_66 ⟨Nat.le_of_ble_eq_true rfl, Nat.le_of_ble_eq_true rfl⟩ ⟨Nat.le_of_ble_eq_true rfl, Nat.le_of_ble_eq_true rfl⟩) (fun r_103 H locs ws_100 h u_101 p_102 => ?_)
        obtain ⟨e_104, e_105⟩ := p_102
        rw [hQ]
        exact y_zret C0 h (o26_97 e_104 e_105) (o26_98 e_104 e_105) (Fr.tr (Fr.tr (Fr.mono u_2 (by decide)) (Fr.mono u_60 (by decide))) (Fr.mono u_101 (by decide))) ⟨(o26_97 e_104 e_105), (o26_98 e_104 e_105)⟩ dX11_liveOnce_69
  · -- 9
    refine lv_aload_n C0.1 C0.2.1 dX11_liveOnce_12 rfl (lv_at hl 1 rfl) ?_
    refine tg_X11_now C0 h kSC_0 q_515 dX11_liveOnce_13 ?_
    refine tg_X0_folk C0 h kSC_1 q_249 dX11_liveOnce_16 ?_
    refine lv_dup C0.1 C0.2.1 dX11_liveOnce_19 rfl ?_
    refine tg_X1_hours C0 h kSC_10 q_220 dX11_liveOnce_20 (fun v_106 e_107 e_108 e_109 => ?_)
    refine y_c1 (n := 1) C0 (by decide) dX11_liveOnce_23 (fun v_110 e_111 => ?_)
    refine y_iaddU C0 dX11_liveOnce_24 (fun v_112 => ?_)
    refine tp_X1_hours C0 h kSC_10 q_220 (le_min v_112) (le_max v_112) dX11_liveOnce_25 (fun H locs ws_113 h u_114 => ?_)
    refine y_c1 (n := 1) C0 (by decide) dX11_liveOnce_28 (fun v_115 e_116 => ?_)
    rw [hQ]
    exact y_zret C0 h (o26_5 e_116) (o26_6 e_116) (Fr.tr (Fr.mono u_2 (by decide)) (Fr.up u_114.1 kSC_10 (by decide))) ⟨(o26_5 e_116), (o26_6 e_116)⟩ dX11_liveOnce_29
