theorem dX11_draw_0 : decode cX11_draw 0 = .ok (.aload_n 0, 1) := by decide +kernel
theorem dX11_draw_1 : decode cX11_draw 1 = .ok (.ldc_w 344, 3) := by decide +kernel
theorem dX11_draw_4 : decode cX11_draw 4 = .ok (.aload_n 0, 1) := by decide +kernel
theorem dX11_draw_5 : decode cX11_draw 5 = .ok (.getfield 243, 3) := by decide +kernel
theorem dX11_draw_8 : decode cX11_draw 8 = .ok (.imul, 1) := by decide +kernel
theorem dX11_draw_9 : decode cX11_draw 9 = .ok (.sipush 12345, 3) := by decide +kernel
theorem dX11_draw_12 : decode cX11_draw 12 = .ok (.iadd, 1) := by decide +kernel
theorem dX11_draw_13 : decode cX11_draw 13 = .ok (.putfield 243, 3) := by decide +kernel
theorem dX11_draw_16 : decode cX11_draw 16 = .ok (.aload_n 0, 1) := by decide +kernel
theorem dX11_draw_17 : decode cX11_draw 17 = .ok (.getfield 243, 3) := by decide +kernel
theorem dX11_draw_20 : decode cX11_draw 20 = .ok (.bipush 16, 2) := by decide +kernel
theorem dX11_draw_22 : decode cX11_draw 22 = .ok (.iushr, 1) := by decide +kernel
theorem dX11_draw_23 : decode cX11_draw 23 = .ok (.ireturn, 1) := by decide +kernel
theorem dX11_goWalk_0 : decode cX11_goWalk 0 = .ok (.aload_n 1, 1) := by decide +kernel
theorem dX11_goWalk_1 : decode cX11_goWalk 1 = .ok (.iconst 0, 1) := by decide +kernel
theorem dX11_goWalk_2 : decode cX11_goWalk 2 = .ok (.invokevirtual 341, 3) := by decide +kernel
theorem dX11_goWalk_5 : decode cX11_goWalk 5 = .ok (.istore_n 2, 1) := by decide +kernel
theorem dX11_goWalk_6 : decode cX11_goWalk 6 = .ok (.aload_n 0, 1) := by decide +kernel
theorem dX11_goWalk_7 : decode cX11_goWalk 7 = .ok (.iload_n 2, 1) := by decide +kernel
theorem dX11_goWalk_8 : decode cX11_goWalk 8 = .ok (.invokevirtual 141, 3) := by decide +kernel
theorem dX11_goWalk_11 : decode cX11_goWalk 11 = .ok (.istore_n 3, 1) := by decide +kernel
theorem dX11_goWalk_12 : decode cX11_goWalk 12 = .ok (.iload_n 3, 1) := by decide +kernel
theorem dX11_goWalk_13 : decode cX11_goWalk 13 = .ok (.ifCond .eq 7, 3) := by decide +kernel
theorem dX11_goWalk_16 : decode cX11_goWalk 16 = .ok (.iconst (-1), 1) := by decide +kernel
theorem dX11_goWalk_17 : decode cX11_goWalk 17 = .ok (.goto 4, 3) := by decide +kernel
theorem dX11_goWalk_20 : decode cX11_goWalk 20 = .ok (.iconst 0, 1) := by decide +kernel
theorem dX11_goWalk_21 : decode cX11_goWalk 21 = .ok (.istore 4, 2) := by decide +kernel
theorem dX11_goWalk_23 : decode cX11_goWalk 23 = .ok (.iload_n 3, 1) := by decide +kernel
theorem dX11_goWalk_24 : decode cX11_goWalk 24 = .ok (.ifCond .eq 7, 3) := by decide +kernel
theorem dX11_goWalk_27 : decode cX11_goWalk 27 = .ok (.iconst 0, 1) := by decide +kernel
theorem dX11_goWalk_28 : decode cX11_goWalk 28 = .ok (.goto 4, 3) := by decide +kernel
theorem dX11_goWalk_31 : decode cX11_goWalk 31 = .ok (.iconst 1, 1) := by decide +kernel
theorem dX11_goWalk_32 : decode cX11_goWalk 32 = .ok (.istore 5, 2) := by decide +kernel
theorem dX11_goWalk_34 : decode cX11_goWalk 34 = .ok (.iconst 0, 1) := by decide +kernel
theorem dX11_goWalk_35 : decode cX11_goWalk 35 = .ok (.istore 6, 2) := by decide +kernel
theorem dX11_goWalk_37 : decode cX11_goWalk 37 = .ok (.iconst 0, 1) := by decide +kernel
theorem dX11_goWalk_38 : decode cX11_goWalk 38 = .ok (.istore 7, 2) := by decide +kernel
theorem dX11_goWalk_40 : decode cX11_goWalk 40 = .ok (.iconst 1, 1) := by decide +kernel
theorem dX11_goWalk_41 : decode cX11_goWalk 41 = .ok (.istore 8, 2) := by decide +kernel
theorem dX11_goWalk_43 : decode cX11_goWalk 43 = .ok (.iload 8, 2) := by decide +kernel
theorem dX11_goWalk_45 : decode cX11_goWalk 45 = .ok (.aload_n 1, 1) := by decide +kernel
theorem dX11_goWalk_46 : decode cX11_goWalk 46 = .ok (.getfield 214, 3) := by decide +kernel
theorem dX11_goWalk_49 : decode cX11_goWalk 49 = .ok (.if_icmp .ge 64, 3) := by decide +kernel
theorem dX11_goWalk_52 : decode cX11_goWalk 52 = .ok (.iload 5, 2) := by decide +kernel
theorem dX11_goWalk_54 : decode cX11_goWalk 54 = .ok (.ifCond .ne 59, 3) := by decide +kernel
theorem dX11_goWalk_57 : decode cX11_goWalk 57 = .ok (.aload_n 1, 1) := by decide +kernel
theorem dX11_goWalk_58 : decode cX11_goWalk 58 = .ok (.iload 8, 2) := by decide +kernel
theorem dX11_goWalk_60 : decode cX11_goWalk 60 = .ok (.invokevirtual 341, 3) := by decide +kernel
theorem dX11_goWalk_63 : decode cX11_goWalk 63 = .ok (.istore 9, 2) := by decide +kernel
theorem dX11_goWalk_65 : decode cX11_goWalk 65 = .ok (.aload_n 0, 1) := by decide +kernel
theorem dX11_goWalk_66 : decode cX11_goWalk 66 = .ok (.getfield 27, 3) := by decide +kernel
theorem dX11_goWalk_69 : decode cX11_goWalk 69 = .ok (.iload_n 2, 1) := by decide +kernel
theorem dX11_goWalk_70 : decode cX11_goWalk 70 = .ok (.iload 9, 2) := by decide +kernel
theorem dX11_goWalk_72 : decode cX11_goWalk 72 = .ok (.invokevirtual 198, 3) := by decide +kernel
theorem dX11_goWalk_75 : decode cX11_goWalk 75 = .ok (.istore 5, 2) := by decide +kernel
theorem dX11_goWalk_77 : decode cX11_goWalk 77 = .ok (.iload 5, 2) := by decide +kernel
theorem dX11_goWalk_79 : decode cX11_goWalk 79 = .ok (.ifCond .ne 24, 3) := by decide +kernel
theorem dX11_goWalk_82 : decode cX11_goWalk 82 = .ok (.iload 6, 2) := by decide +kernel
theorem dX11_goWalk_84 : decode cX11_goWalk 84 = .ok (.aload_n 0, 1) := by decide +kernel
theorem dX11_goWalk_85 : decode cX11_goWalk 85 = .ok (.getfield 27, 3) := by decide +kernel
theorem dX11_goWalk_88 : decode cX11_goWalk 88 = .ok (.iload_n 2, 1) := by decide +kernel
theorem dX11_goWalk_89 : decode cX11_goWalk 89 = .ok (.iload 9, 2) := by decide +kernel
theorem dX11_goWalk_91 : decode cX11_goWalk 91 = .ok (.invokevirtual 205, 3) := by decide +kernel
theorem dX11_goWalk_94 : decode cX11_goWalk 94 = .ok (.iadd, 1) := by decide +kernel
theorem dX11_goWalk_95 : decode cX11_goWalk 95 = .ok (.istore 6, 2) := by decide +kernel
theorem dX11_goWalk_97 : decode cX11_goWalk 97 = .ok (.iinc 7 1, 3) := by decide +kernel
theorem dX11_goWalk_100 : decode cX11_goWalk 100 = .ok (.goto 7, 3) := by decide +kernel
theorem dX11_goWalk_103 : decode cX11_goWalk 103 = .ok (.iload 8, 2) := by decide +kernel
theorem dX11_goWalk_105 : decode cX11_goWalk 105 = .ok (.istore 4, 2) := by decide +kernel
theorem dX11_goWalk_107 : decode cX11_goWalk 107 = .ok (.iinc 8 1, 3) := by decide +kernel
theorem dX11_goWalk_110 : decode cX11_goWalk 110 = .ok (.goto (-67), 3) := by decide +kernel
theorem dX11_goWalk_113 : decode cX11_goWalk 113 = .ok (.aload_n 0, 1) := by decide +kernel
theorem dX11_goWalk_114 : decode cX11_goWalk 114 = .ok (.getfield 102, 3) := by decide +kernel
theorem dX11_goWalk_117 : decode cX11_goWalk 117 = .ok (.iconst 0, 1) := by decide +kernel
theorem dX11_goWalk_118 : decode cX11_goWalk 118 = .ok (.iload 4, 2) := by decide +kernel
theorem dX11_goWalk_120 : decode cX11_goWalk 120 = .ok (.iastore, 1) := by decide +kernel
theorem dX11_goWalk_121 : decode cX11_goWalk 121 = .ok (.aload_n 0, 1) := by decide +kernel
theorem dX11_goWalk_122 : decode cX11_goWalk 122 = .ok (.getfield 102, 3) := by decide +kernel
theorem dX11_goWalk_125 : decode cX11_goWalk 125 = .ok (.iconst 1, 1) := by decide +kernel
theorem dX11_goWalk_126 : decode cX11_goWalk 126 = .ok (.iload 5, 2) := by decide +kernel
theorem dX11_goWalk_128 : decode cX11_goWalk 128 = .ok (.iastore, 1) := by decide +kernel
theorem dX11_goWalk_129 : decode cX11_goWalk 129 = .ok (.aload_n 0, 1) := by decide +kernel
theorem dX11_goWalk_130 : decode cX11_goWalk 130 = .ok (.getfield 102, 3) := by decide +kernel
theorem dX11_goWalk_133 : decode cX11_goWalk 133 = .ok (.iconst 2, 1) := by decide +kernel
theorem dX11_goWalk_134 : decode cX11_goWalk 134 = .ok (.iload_n 3, 1) := by decide +kernel
theorem dX11_goWalk_135 : decode cX11_goWalk 135 = .ok (.ifCond .eq 18, 3) := by decide +kernel
theorem dX11_goWalk_138 : decode cX11_goWalk 138 = .ok (.aload_n 0, 1) := by decide +kernel
theorem dX11_goWalk_139 : decode cX11_goWalk 139 = .ok (.getfield 27, 3) := by decide +kernel
theorem dX11_goWalk_142 : decode cX11_goWalk 142 = .ok (.getfield 145, 3) := by decide +kernel
theorem dX11_goWalk_145 : decode cX11_goWalk 145 = .ok (.getfield 148, 3) := by decide +kernel
theorem dX11_goWalk_148 : decode cX11_goWalk 148 = .ok (.iload_n 2, 1) := by decide +kernel
theorem dX11_goWalk_149 : decode cX11_goWalk 149 = .ok (.iaload, 1) := by decide +kernel
theorem dX11_goWalk_150 : decode cX11_goWalk 150 = .ok (.goto 4, 3) := by decide +kernel
theorem dX11_goWalk_153 : decode cX11_goWalk 153 = .ok (.iconst (-1), 1) := by decide +kernel
theorem dX11_goWalk_154 : decode cX11_goWalk 154 = .ok (.iastore, 1) := by decide +kernel
theorem dX11_goWalk_155 : decode cX11_goWalk 155 = .ok (.aload_n 0, 1) := by decide +kernel
theorem dX11_goWalk_156 : decode cX11_goWalk 156 = .ok (.getfield 102, 3) := by decide +kernel
theorem dX11_goWalk_159 : decode cX11_goWalk 159 = .ok (.iconst 3, 1) := by decide +kernel
theorem dX11_goWalk_160 : decode cX11_goWalk 160 = .ok (.iload 6, 2) := by decide +kernel
theorem dX11_goWalk_162 : decode cX11_goWalk 162 = .ok (.iastore, 1) := by decide +kernel
theorem dX11_goWalk_163 : decode cX11_goWalk 163 = .ok (.iload 7, 2) := by decide +kernel
theorem dX11_goWalk_165 : decode cX11_goWalk 165 = .ok (.ireturn, 1) := by decide +kernel
theorem dX11_isCrossing_0 : decode cX11_isCrossing 0 = .ok (.iload_n 1, 1) := by decide +kernel
theorem dX11_isCrossing_1 : decode cX11_isCrossing 1 = .ok (.ifCond .lt 18, 3) := by decide +kernel
theorem dX11_isCrossing_4 : decode cX11_isCrossing 4 = .ok (.iload_n 1, 1) := by decide +kernel
theorem dX11_isCrossing_5 : decode cX11_isCrossing 5 = .ok (.aload_n 0, 1) := by decide +kernel
theorem dX11_isCrossing_6 : decode cX11_isCrossing 6 = .ok (.getfield 27, 3) := by decide +kernel
theorem dX11_isCrossing_9 : decode cX11_isCrossing 9 = .ok (.invokevirtual 287, 3) := by decide +kernel
theorem dX11_isCrossing_12 : decode cX11_isCrossing 12 = .ok (.if_icmp .ge 7, 3) := by decide +kernel
theorem dX11_isCrossing_15 : decode cX11_isCrossing 15 = .ok (.iconst 1, 1) := by decide +kernel
theorem dX11_isCrossing_16 : decode cX11_isCrossing 16 = .ok (.goto 4, 3) := by decide +kernel
theorem dX11_isCrossing_19 : decode cX11_isCrossing 19 = .ok (.iconst 0, 1) := by decide +kernel
theorem dX11_isCrossing_20 : decode cX11_isCrossing 20 = .ok (.ireturn, 1) := by decide +kernel
theorem dX11_isPerson_0 : decode cX11_isPerson 0 = .ok (.iload_n 1, 1) := by decide +kernel
theorem dX11_isPerson_1 : decode cX11_isPerson 1 = .ok (.ifCond .lt 21, 3) := by decide +kernel
theorem dX11_isPerson_4 : decode cX11_isPerson 4 = .ok (.iload_n 1, 1) := by decide +kernel
theorem dX11_isPerson_5 : decode cX11_isPerson 5 = .ok (.aload_n 0, 1) := by decide +kernel
theorem dX11_isPerson_6 : decode cX11_isPerson 6 = .ok (.getfield 27, 3) := by decide +kernel
theorem dX11_isPerson_9 : decode cX11_isPerson 9 = .ok (.getfield 145, 3) := by decide +kernel
theorem dX11_isPerson_12 : decode cX11_isPerson 12 = .ok (.getfield 240, 3) := by decide +kernel
theorem dX11_isPerson_15 : decode cX11_isPerson 15 = .ok (.if_icmp .ge 7, 3) := by decide +kernel
theorem dX11_isPerson_18 : decode cX11_isPerson 18 = .ok (.iconst 1, 1) := by decide +kernel
theorem dX11_isPerson_19 : decode cX11_isPerson 19 = .ok (.goto 4, 3) := by decide +kernel
theorem dX11_isPerson_22 : decode cX11_isPerson 22 = .ok (.iconst 0, 1) := by decide +kernel
theorem dX11_isPerson_23 : decode cX11_isPerson 23 = .ok (.ireturn, 1) := by decide +kernel
theorem dX11_isStand_0 : decode cX11_isStand 0 = .ok (.aload_n 0, 1) := by decide +kernel
theorem dX11_isStand_1 : decode cX11_isStand 1 = .ok (.iload_n 1, 1) := by decide +kernel
theorem dX11_isStand_2 : decode cX11_isStand 2 = .ok (.invokevirtual 171, 3) := by decide +kernel
theorem dX11_isStand_5 : decode cX11_isStand 5 = .ok (.ifCond .eq 16, 3) := by decide +kernel
theorem dX11_isStand_8 : decode cX11_isStand 8 = .ok (.iload_n 2, 1) := by decide +kernel
theorem dX11_isStand_9 : decode cX11_isStand 9 = .ok (.ifCond .lt 12, 3) := by decide +kernel
theorem dX11_isStand_12 : decode cX11_isStand 12 = .ok (.iload_n 2, 1) := by decide +kernel
theorem dX11_isStand_13 : decode cX11_isStand 13 = .ok (.iconst 4, 1) := by decide +kernel
theorem dX11_isStand_14 : decode cX11_isStand 14 = .ok (.if_icmp .ge 7, 3) := by decide +kernel
theorem dX11_isStand_17 : decode cX11_isStand 17 = .ok (.iconst 1, 1) := by decide +kernel
theorem dX11_isStand_18 : decode cX11_isStand 18 = .ok (.goto 4, 3) := by decide +kernel
theorem dX11_isStand_21 : decode cX11_isStand 21 = .ok (.iconst 0, 1) := by decide +kernel
theorem dX11_isStand_22 : decode cX11_isStand 22 = .ok (.ireturn, 1) := by decide +kernel
theorem dX11_isTray_0 : decode cX11_isTray 0 = .ok (.iload_n 0, 1) := by decide +kernel
theorem dX11_isTray_1 : decode cX11_isTray 1 = .ok (.ifCond .lt 12, 3) := by decide +kernel
theorem dX11_isTray_4 : decode cX11_isTray 4 = .ok (.iload_n 0, 1) := by decide +kernel
theorem dX11_isTray_5 : decode cX11_isTray 5 = .ok (.iconst 4, 1) := by decide +kernel
theorem dX11_isTray_6 : decode cX11_isTray 6 = .ok (.if_icmp .ge 7, 3) := by decide +kernel
theorem dX11_isTray_9 : decode cX11_isTray 9 = .ok (.iconst 1, 1) := by decide +kernel
theorem dX11_isTray_10 : decode cX11_isTray 10 = .ok (.goto 4, 3) := by decide +kernel
theorem dX11_isTray_13 : decode cX11_isTray 13 = .ok (.iconst 0, 1) := by decide +kernel
theorem dX11_isTray_14 : decode cX11_isTray 14 = .ok (.ireturn, 1) := by decide +kernel
theorem dX11_keep_0 : decode cX11_keep 0 = .ok (.aload_n 0, 1) := by decide +kernel
theorem dX11_keep_1 : decode cX11_keep 1 = .ok (.getfield 234, 3) := by decide +kernel
theorem dX11_keep_4 : decode cX11_keep 4 = .ok (.bipush 10, 2) := by decide +kernel
theorem dX11_keep_6 : decode cX11_keep 6 = .ok (.if_icmp .ne 26, 3) := by decide +kernel
theorem dX11_keep_9 : decode cX11_keep 9 = .ok (.aload_n 0, 1) := by decide +kernel
theorem dX11_keep_10 : decode cX11_keep 10 = .ok (.aload_n 0, 1) := by decide +kernel
theorem dX11_keep_11 : decode cX11_keep 11 = .ok (.getfield 237, 3) := by decide +kernel
theorem dX11_keep_14 : decode cX11_keep 14 = .ok (.iconst 1, 1) := by decide +kernel
theorem dX11_keep_15 : decode cX11_keep 15 = .ok (.iadd, 1) := by decide +kernel
theorem dX11_keep_16 : decode cX11_keep 16 = .ok (.bipush 10, 2) := by decide +kernel
theorem dX11_keep_18 : decode cX11_keep 18 = .ok (.irem, 1) := by decide +kernel
theorem dX11_keep_19 : decode cX11_keep 19 = .ok (.putfield 237, 3) := by decide +kernel
theorem dX11_keep_22 : decode cX11_keep 22 = .ok (.aload_n 0, 1) := by decide +kernel
theorem dX11_keep_23 : decode cX11_keep 23 = .ok (.dup, 1) := by decide +kernel
theorem dX11_keep_24 : decode cX11_keep 24 = .ok (.getfield 234, 3) := by decide +kernel
theorem dX11_keep_27 : decode cX11_keep 27 = .ok (.iconst 1, 1) := by decide +kernel
theorem dX11_keep_28 : decode cX11_keep 28 = .ok (.isub, 1) := by decide +kernel
theorem dX11_keep_29 : decode cX11_keep 29 = .ok (.putfield 234, 3) := by decide +kernel
theorem dX11_keep_32 : decode cX11_keep 32 = .ok (.aload_n 0, 1) := by decide +kernel
theorem dX11_keep_33 : decode cX11_keep 33 = .ok (.getfield 93, 3) := by decide +kernel
theorem dX11_keep_36 : decode cX11_keep 36 = .ok (.aload_n 0, 1) := by decide +kernel
theorem dX11_keep_37 : decode cX11_keep 37 = .ok (.getfield 237, 3) := by decide +kernel
theorem dX11_keep_40 : decode cX11_keep 40 = .ok (.aload_n 0, 1) := by decide +kernel
theorem dX11_keep_41 : decode cX11_keep 41 = .ok (.getfield 234, 3) := by decide +kernel
theorem dX11_keep_44 : decode cX11_keep 44 = .ok (.iadd, 1) := by decide +kernel
theorem dX11_keep_45 : decode cX11_keep 45 = .ok (.bipush 10, 2) := by decide +kernel
theorem dX11_keep_47 : decode cX11_keep 47 = .ok (.irem, 1) := by decide +kernel
theorem dX11_keep_48 : decode cX11_keep 48 = .ok (.aaload, 1) := by decide +kernel
theorem dX11_keep_49 : decode cX11_keep 49 = .ok (.aload_n 1, 1) := by decide +kernel
theorem dX11_keep_50 : decode cX11_keep 50 = .ok (.invokevirtual 217, 3) := by decide +kernel
theorem dX11_keep_53 : decode cX11_keep 53 = .ok (.aload_n 0, 1) := by decide +kernel
theorem dX11_keep_54 : decode cX11_keep 54 = .ok (.dup, 1) := by decide +kernel
theorem dX11_keep_55 : decode cX11_keep 55 = .ok (.getfield 234, 3) := by decide +kernel
theorem dX11_keep_58 : decode cX11_keep 58 = .ok (.iconst 1, 1) := by decide +kernel
theorem dX11_keep_59 : decode cX11_keep 59 = .ok (.iadd, 1) := by decide +kernel
theorem dX11_keep_60 : decode cX11_keep 60 = .ok (.putfield 234, 3) := by decide +kernel
theorem dX11_keep_63 : decode cX11_keep 63 = .ok (.return_, 1) := by decide +kernel
theorem dX11_liveOnce_0 : decode cX11_liveOnce 0 = .ok (.aload_n 0, 1) := by decide +kernel
theorem dX11_liveOnce_1 : decode cX11_liveOnce 1 = .ok (.invokevirtual 345, 3) := by decide +kernel
theorem dX11_liveOnce_4 : decode cX11_liveOnce 4 = .ok (.iconst 4, 1) := by decide +kernel
theorem dX11_liveOnce_5 : decode cX11_liveOnce 5 = .ok (.irem, 1) := by decide +kernel
theorem dX11_liveOnce_6 : decode cX11_liveOnce 6 = .ok (.istore_n 1, 1) := by decide +kernel
theorem dX11_liveOnce_7 : decode cX11_liveOnce 7 = .ok (.iload_n 1, 1) := by decide +kernel
theorem dX11_liveOnce_8 : decode cX11_liveOnce 8 = .ok (.iconst 3, 1) := by decide +kernel
theorem dX11_liveOnce_9 : decode cX11_liveOnce 9 = .ok (.if_icmp .ne 21, 3) := by decide +kernel
theorem dX11_liveOnce_12 : decode cX11_liveOnce 12 = .ok (.aload_n 0, 1) := by decide +kernel
theorem dX11_liveOnce_13 : decode cX11_liveOnce 13 = .ok (.getfield 27, 3) := by decide +kernel
theorem dX11_liveOnce_16 : decode cX11_liveOnce 16 = .ok (.getfield 145, 3) := by decide +kernel
theorem dX11_liveOnce_19 : decode cX11_liveOnce 19 = .ok (.dup, 1) := by decide +kernel
theorem dX11_liveOnce_20 : decode cX11_liveOnce 20 = .ok (.getfield 174, 3) := by decide +kernel
theorem dX11_liveOnce_23 : decode cX11_liveOnce 23 = .ok (.iconst 1, 1) := by decide +kernel
theorem dX11_liveOnce_24 : decode cX11_liveOnce 24 = .ok (.iadd, 1) := by decide +kernel
theorem dX11_liveOnce_25 : decode cX11_liveOnce 25 = .ok (.putfield 174, 3) := by decide +kernel
theorem dX11_liveOnce_28 : decode cX11_liveOnce 28 = .ok (.iconst 1, 1) := by decide +kernel
theorem dX11_liveOnce_29 : decode cX11_liveOnce 29 = .ok (.ireturn, 1) := by decide +kernel
theorem dX11_liveOnce_30 : decode cX11_liveOnce 30 = .ok (.aload_n 0, 1) := by decide +kernel
theorem dX11_liveOnce_31 : decode cX11_liveOnce 31 = .ok (.getfield 27, 3) := by decide +kernel
theorem dX11_liveOnce_34 : decode cX11_liveOnce 34 = .ok (.getfield 145, 3) := by decide +kernel
theorem dX11_liveOnce_37 : decode cX11_liveOnce 37 = .ok (.getfield 240, 3) := by decide +kernel
theorem dX11_liveOnce_40 : decode cX11_liveOnce 40 = .ok (.istore_n 2, 1) := by decide +kernel
theorem dX11_liveOnce_41 : decode cX11_liveOnce 41 = .ok (.iload_n 2, 1) := by decide +kernel
theorem dX11_liveOnce_42 : decode cX11_liveOnce 42 = .ok (.ifCond .le 12, 3) := by decide +kernel
theorem dX11_liveOnce_45 : decode cX11_liveOnce 45 = .ok (.aload_n 0, 1) := by decide +kernel
theorem dX11_liveOnce_46 : decode cX11_liveOnce 46 = .ok (.invokevirtual 345, 3) := by decide +kernel
theorem dX11_liveOnce_49 : decode cX11_liveOnce 49 = .ok (.iload_n 2, 1) := by decide +kernel
theorem dX11_liveOnce_50 : decode cX11_liveOnce 50 = .ok (.irem, 1) := by decide +kernel
theorem dX11_liveOnce_51 : decode cX11_liveOnce 51 = .ok (.goto 4, 3) := by decide +kernel
theorem dX11_liveOnce_54 : decode cX11_liveOnce 54 = .ok (.iconst 0, 1) := by decide +kernel
theorem dX11_liveOnce_55 : decode cX11_liveOnce 55 = .ok (.istore_n 3, 1) := by decide +kernel
theorem dX11_liveOnce_56 : decode cX11_liveOnce 56 = .ok (.iload_n 1, 1) := by decide +kernel
theorem dX11_liveOnce_57 : decode cX11_liveOnce 57 = .ok (.iconst 2, 1) := by decide +kernel
theorem dX11_liveOnce_58 : decode cX11_liveOnce 58 = .ok (.if_icmp .ne 12, 3) := by decide +kernel
theorem dX11_liveOnce_61 : decode cX11_liveOnce 61 = .ok (.aload_n 0, 1) := by decide +kernel
theorem dX11_liveOnce_62 : decode cX11_liveOnce 62 = .ok (.getfield 27, 3) := by decide +kernel
theorem dX11_liveOnce_65 : decode cX11_liveOnce 65 = .ok (.iload_n 3, 1) := by decide +kernel
theorem dX11_liveOnce_66 : decode cX11_liveOnce 66 = .ok (.invokevirtual 348, 3) := by decide +kernel
theorem dX11_liveOnce_69 : decode cX11_liveOnce 69 = .ok (.ireturn, 1) := by decide +kernel
theorem dX11_liveOnce_70 : decode cX11_liveOnce 70 = .ok (.aload_n 0, 1) := by decide +kernel
theorem dX11_liveOnce_71 : decode cX11_liveOnce 71 = .ok (.invokevirtual 345, 3) := by decide +kernel
theorem dX11_liveOnce_74 : decode cX11_liveOnce 74 = .ok (.iconst 4, 1) := by decide +kernel
theorem dX11_liveOnce_75 : decode cX11_liveOnce 75 = .ok (.irem, 1) := by decide +kernel
theorem dX11_liveOnce_76 : decode cX11_liveOnce 76 = .ok (.istore 4, 2) := by decide +kernel
theorem dX11_liveOnce_78 : decode cX11_liveOnce 78 = .ok (.aload_n 0, 1) := by decide +kernel
theorem dX11_liveOnce_79 : decode cX11_liveOnce 79 = .ok (.getfield 27, 3) := by decide +kernel
theorem dX11_liveOnce_82 : decode cX11_liveOnce 82 = .ok (.iload_n 3, 1) := by decide +kernel
theorem dX11_liveOnce_83 : decode cX11_liveOnce 83 = .ok (.iload 4, 2) := by decide +kernel
theorem dX11_liveOnce_85 : decode cX11_liveOnce 85 = .ok (.invokevirtual 198, 3) := by decide +kernel
theorem dX11_liveOnce_88 : decode cX11_liveOnce 88 = .ok (.ifCond .eq 5, 3) := by decide +kernel
theorem dX11_liveOnce_91 : decode cX11_liveOnce 91 = .ok (.iconst 0, 1) := by decide +kernel
theorem dX11_liveOnce_92 : decode cX11_liveOnce 92 = .ok (.ireturn, 1) := by decide +kernel
theorem dX11_liveOnce_93 : decode cX11_liveOnce 93 = .ok (.aload_n 0, 1) := by decide +kernel
theorem dX11_liveOnce_94 : decode cX11_liveOnce 94 = .ok (.getfield 27, 3) := by decide +kernel
theorem dX11_liveOnce_97 : decode cX11_liveOnce 97 = .ok (.iload_n 3, 1) := by decide +kernel
theorem dX11_liveOnce_98 : decode cX11_liveOnce 98 = .ok (.iload 4, 2) := by decide +kernel
theorem dX11_liveOnce_100 : decode cX11_liveOnce 100 = .ok (.invokevirtual 205, 3) := by decide +kernel
theorem dX11_liveOnce_103 : decode cX11_liveOnce 103 = .ok (.pop, 1) := by decide +kernel
theorem dX11_liveOnce_104 : decode cX11_liveOnce 104 = .ok (.iconst 1, 1) := by decide +kernel
theorem dX11_liveOnce_105 : decode cX11_liveOnce 105 = .ok (.ireturn, 1) := by decide +kernel
theorem dX11_startAnew_0 : decode cX11_startAnew 0 = .ok (.aload_n 0, 1) := by decide +kernel
theorem dX11_startAnew_1 : decode cX11_startAnew 1 = .ok (.iconst 0, 1) := by decide +kernel
theorem dX11_startAnew_2 : decode cX11_startAnew 2 = .ok (.putfield 234, 3) := by decide +kernel
theorem dX11_startAnew_5 : decode cX11_startAnew 5 = .ok (.aload_n 0, 1) := by decide +kernel
theorem dX11_startAnew_6 : decode cX11_startAnew 6 = .ok (.getfield 41, 3) := by decide +kernel
theorem dX11_startAnew_9 : decode cX11_startAnew 9 = .ok (.invokevirtual 208, 3) := by decide +kernel
theorem dX11_startAnew_12 : decode cX11_startAnew 12 = .ok (.aload_n 0, 1) := by decide +kernel
theorem dX11_startAnew_13 : decode cX11_startAnew 13 = .ok (.getfield 72, 3) := by decide +kernel
theorem dX11_startAnew_16 : decode cX11_startAnew 16 = .ok (.invokevirtual 340, 3) := by decide +kernel
theorem dX11_startAnew_19 : decode cX11_startAnew 19 = .ok (.return_, 1) := by decide +kernel
theorem o26_1 {x0 : Int} (h0 : x0 = 0) : 0 ≤ x0 := by omega
theorem o26_2 {x0 : Int} (h0 : x0 = 0) : x0 ≤ 1 := by omega
theorem o26_3 {x0 x1 : Int} (h0 : x1 < 0) (h1 : x0 = 0) : (x0 = 0 ∨ (0 ≤ x1 ∧ x1 ≤ 4)) := by omega
theorem o26_4 {x0 x1 x2 : Int} (h0 : 0 ≤ x1) (h1 : 0 ≤ x2) (h2 : x2 ≤ 5) (h3 : x2 ≤ x1) (h4 : x0 = 0) : (x0 = 0 ∨ (0 ≤ x1 ∧ x1 ≤ 4)) := by omega
theorem o26_5 {x0 : Int} (h0 : x0 = 1) : 0 ≤ x0 := by omega
theorem o26_6 {x0 : Int} (h0 : x0 = 1) : x0 ≤ 1 := by omega
theorem o26_7 {x0 x1 x2 : Int} (h0 : 0 ≤ x1) (h1 : 0 ≤ x2) (h2 : x2 ≤ 5) (h3 : x1 < x2) (h4 : x0 = 1) : (x0 = 0 ∨ (0 ≤ x1 ∧ x1 ≤ 4)) := by omega
theorem o26_8 {x0 x1 : Int} (h0 : x1 < 0) (h1 : x0 = 0) : (x0 = 0 ∨ (0 ≤ x1 ∧ x1 ≤ 24)) := by omega
theorem o26_9 {x0 x1 x2 : Int} (h0 : 0 ≤ x1) (h1 : 0 ≤ x2) (h2 : x2 ≤ 25) (h3 : x2 ≤ x1) (h4 : x0 = 0) : (x0 = 0 ∨ (0 ≤ x1 ∧ x1 ≤ 24)) := by omega
theorem o26_10 {x0 x1 x2 : Int} (h0 : 0 ≤ x1) (h1 : 0 ≤ x2) (h2 : x2 ≤ 25) (h3 : x1 < x2) (h4 : x0 = 1) : (x0 = 0 ∨ (0 ≤ x1 ∧ x1 ≤ 24)) := by omega
theorem o26_11 {x0 x1 x2 x3 : Int} (h0 : 0 ≤ x3) (h1 : x3 ≤ 1) (h2 : (x3 = 0 ∨ (0 ≤ x1 ∧ x1 ≤ 24))) (h3 : x3 = 0) (h4 : x0 = 0) : (x0 = 0 ∨ (0 ≤ x1 ∧ x1 ≤ 24 ∧ 0 ≤ x2 ∧ x2 ≤ 3)) := by omega
theorem o26_12 {x0 x1 x2 x3 : Int} (h0 : 0 ≤ x3) (h1 : x3 ≤ 1) (h2 : (x3 = 0 ∨ (0 ≤ x1 ∧ x1 ≤ 24))) (h3 : ¬ x3 = 0) (h4 : x2 < 0) (h5 : x0 = 0) : (x0 = 0 ∨ (0 ≤ x1 ∧ x1 ≤ 24 ∧ 0 ≤ x2 ∧ x2 ≤ 3)) := by omega
theorem o26_13 {x0 : Int} (h0 : x0 = 4) : x0 = 4 := by omega
theorem o26_14 {x0 x1 : Int} (h0 : 0 ≤ x0) (h1 : x1 = 4) (h2 : x1 ≤ x0) : ¬ x0 < 4 := by omega
theorem o26_15 {x0 x1 : Int} (h0 : 0 ≤ x0) (h1 : x1 = 4) (h2 : x0 < x1) : x0 < 4 := by omega
theorem o26_16 {x0 x1 x2 x3 x4 : Int} (h0 : 0 ≤ x3) (h1 : x3 ≤ 1) (h2 : (x3 = 0 ∨ (0 ≤ x1 ∧ x1 ≤ 24))) (h3 : ¬ x3 = 0) (h4 : 0 ≤ x2) (h5 : x4 = 4) (h6 : x4 ≤ x2) (h7 : x0 = 0) : (x0 = 0 ∨ (0 ≤ x1 ∧ x1 ≤ 24 ∧ 0 ≤ x2 ∧ x2 ≤ 3)) := by omega
theorem o26_17 {x0 x1 x2 x3 x4 : Int} (h0 : 0 ≤ x3) (h1 : x3 ≤ 1) (h2 : (x3 = 0 ∨ (0 ≤ x1 ∧ x1 ≤ 24))) (h3 : ¬ x3 = 0) (h4 : 0 ≤ x2) (h5 : x4 = 4) (h6 : x2 < x4) (h7 : x0 = 1) : (x0 = 0 ∨ (0 ≤ x1 ∧ x1 ≤ 24 ∧ 0 ≤ x2 ∧ x2 ≤ 3)) := by omega
theorem o26_18 {x0 x1 : Int} (h0 : x1 < 0) (h1 : x0 = 0) : ((x0 = 0 ∧ (x1 < 0 ∨ 3 < x1)) ∨ (x0 = 1 ∧ 0 ≤ x1 ∧ x1 ≤ 3)) := by omega
theorem o26_19 {x0 x1 x2 : Int} (h0 : 0 ≤ x1) (h1 : x2 = 4) (h2 : x2 ≤ x1) (h3 : x0 = 0) : ((x0 = 0 ∧ (x1 < 0 ∨ 3 < x1)) ∨ (x0 = 1 ∧ 0 ≤ x1 ∧ x1 ≤ 3)) := by omega
theorem o26_20 {x0 x1 x2 : Int} (h0 : 0 ≤ x1) (h1 : x2 = 4) (h2 : x1 < x2) (h3 : x0 = 1) : ((x0 = 0 ∧ (x1 < 0 ∨ 3 < x1)) ∨ (x0 = 1 ∧ 0 ≤ x1 ∧ x1 ≤ 3)) := by omega
theorem o26_21 {x0 : Int} (h0 : x0 = 0) : x0 ≤ 10 := by omega
theorem o26_22 {x0 : Int} (h0 : x0 = 10) : x0 = 10 := by omega
theorem o26_23 {x0 x1 : Int} (h0 : 0 ≤ x0) (h1 : x0 ≤ 10) (h2 : x1 = 10) (h3 : ¬ x0 = x1) : ¬ x0 = 10 := by omega
theorem o26_24 {x0 x1 : Int} (h0 : 0 ≤ x0) (h1 : x0 ≤ 10) (h2 : x1 = 10) (h3 : x0 = x1) : x0 = 10 := by omega
theorem o26_25 {x0 x1 x2 x3 : Int} (h0 : 0 ≤ x2) (h1 : x2 ≤ 10) (h2 : x3 = 10) (h3 : ¬ x2 = x3) (h4 : 0 ≤ x0) (h5 : x0 ≤ 9) (h6 : 0 ≤ x1) (h7 : x1 ≤ 10) (h8 : x1 = x2) (h9 : -2147483648 ≤ x0) (h10 : x0 ≤ 2147483647) (h11 : -2147483648 ≤ x1) (h12 : x1 ≤ 2147483647) (h13 : -2147483648 ≤ x2) (h14 : x2 ≤ 2147483647) (h15 : -2147483648 ≤ x3) (h16 : x3 ≤ 2147483647) : -2147483648 ≤ x0 + x1 := by omega
theorem o26_26 {x0 x1 x2 x3 : Int} (h0 : 0 ≤ x2) (h1 : x2 ≤ 10) (h2 : x3 = 10) (h3 : ¬ x2 = x3) (h4 : 0 ≤ x0) (h5 : x0 ≤ 9) (h6 : 0 ≤ x1) (h7 : x1 ≤ 10) (h8 : x1 = x2) (h9 : -2147483648 ≤ x0) (h10 : x0 ≤ 2147483647) (h11 : -2147483648 ≤ x1) (h12 : x1 ≤ 2147483647) (h13 : -2147483648 ≤ x2) (h14 : x2 ≤ 2147483647) (h15 : -2147483648 ≤ x3) (h16 : x3 ≤ 2147483647) : x0 + x1 ≤ 2147483647 := by omega
theorem o26_27 {x0 x1 x2 x3 x4 : Int} (h0 : 0 ≤ x1) (h1 : x1 ≤ 10) (h2 : x2 = 10) (h3 : ¬ x1 = x2) (h4 : 0 ≤ x3) (h5 : x3 ≤ 9) (h6 : 0 ≤ x4) (h7 : x4 ≤ 10) (h8 : x4 = x1) (h9 : x0 = x3 + x4) : 0 ≤ x0 := by omega
theorem o26_28 {x0 x1 x2 x3 x4 x5 : Int} (h0 : 0 ≤ x1) (h1 : x1 ≤ 10) (h2 : x2 = 10) (h3 : ¬ x1 = x2) (h4 : 0 ≤ x3) (h5 : x3 ≤ 9) (h6 : 0 ≤ x4) (h7 : x4 ≤ 10) (h8 : x4 = x1) (h9 : x5 = x3 + x4) (h10 : x0 = x5 % 10) : 0 ≤ x0 := by omega
theorem o26_29 {x0 x1 x2 x3 x4 x5 : Int} (h0 : 0 ≤ x1) (h1 : x1 ≤ 10) (h2 : x2 = 10) (h3 : ¬ x1 = x2) (h4 : 0 ≤ x3) (h5 : x3 ≤ 9) (h6 : 0 ≤ x4) (h7 : x4 ≤ 10) (h8 : x4 = x1) (h9 : x5 = x3 + x4) (h10 : x0 = x5 % 10) : x0 < (10 : Nat) := by omega
theorem o26_30 {x0 x1 x2 x3 x4 x5 : Int} (h0 : 0 ≤ x1) (h1 : x1 ≤ 10) (h2 : x2 = 10) (h3 : ¬ x1 = x2) (h4 : 0 ≤ x3) (h5 : x3 ≤ 9) (h6 : 0 ≤ x4) (h7 : x4 ≤ 10) (h8 : x4 = x1) (h9 : x5 = x3 + x4) (h10 : x0 = x5 % 10) : (x0).toNat < 10 := by omega
theorem o26_31 {x0 x1 x2 x3 x4 x5 x6 x7 : Int} (h0 : 0 ≤ x2) (h1 : x2 ≤ 10) (h2 : x3 = 10) (h3 : ¬ x2 = x3) (h4 : 0 ≤ x4) (h5 : x4 ≤ 9) (h6 : 0 ≤ x5) (h7 : x5 ≤ 10) (h8 : x5 = x2) (h9 : x6 = x4 + x5) (h10 : x7 = x6 % 10) (h11 : 0 ≤ x0) (h12 : x0 ≤ 10) (h13 : x0 = x2) (h14 : x1 = 1) (h15 : -2147483648 ≤ x0) (h16 : x0 ≤ 2147483647) (h17 : -2147483648 ≤ x1) (h18 : x1 ≤ 2147483647) (h19 : -2147483648 ≤ x2) (h20 : x2 ≤ 2147483647) (h21 : -2147483648 ≤ x3) (h22 : x3 ≤ 2147483647) (h23 : -2147483648 ≤ x4) (h24 : x4 ≤ 2147483647) (h25 : -2147483648 ≤ x5) (h26 : x5 ≤ 2147483647) (h27 : -2147483648 ≤ x6) (h28 : x6 ≤ 2147483647) (h29 : -2147483648 ≤ x7) (h30 : x7 ≤ 2147483647) : -2147483648 ≤ x0 + x1 := by omega
theorem o26_32 {x0 x1 x2 x3 x4 x5 x6 x7 : Int} (h0 : 0 ≤ x2) (h1 : x2 ≤ 10) (h2 : x3 = 10) (h3 : ¬ x2 = x3) (h4 : 0 ≤ x4) (h5 : x4 ≤ 9) (h6 : 0 ≤ x5) (h7 : x5 ≤ 10) (h8 : x5 = x2) (h9 : x6 = x4 + x5) (h10 : x7 = x6 % 10) (h11 : 0 ≤ x0) (h12 : x0 ≤ 10) (h13 : x0 = x2) (h14 : x1 = 1) (h15 : -2147483648 ≤ x0) (h16 : x0 ≤ 2147483647) (h17 : -2147483648 ≤ x1) (h18 : x1 ≤ 2147483647) (h19 : -2147483648 ≤ x2) (h20 : x2 ≤ 2147483647) (h21 : -2147483648 ≤ x3) (h22 : x3 ≤ 2147483647) (h23 : -2147483648 ≤ x4) (h24 : x4 ≤ 2147483647) (h25 : -2147483648 ≤ x5) (h26 : x5 ≤ 2147483647) (h27 : -2147483648 ≤ x6) (h28 : x6 ≤ 2147483647) (h29 : -2147483648 ≤ x7) (h30 : x7 ≤ 2147483647) : x0 + x1 ≤ 2147483647 := by omega
theorem o26_33 {x0 x1 x2 x3 x4 x5 x6 x7 x8 : Int} (h0 : 0 ≤ x1) (h1 : x1 ≤ 10) (h2 : x2 = 10) (h3 : ¬ x1 = x2) (h4 : 0 ≤ x3) (h5 : x3 ≤ 9) (h6 : 0 ≤ x4) (h7 : x4 ≤ 10) (h8 : x4 = x1) (h9 : x5 = x3 + x4) (h10 : x6 = x5 % 10) (h11 : 0 ≤ x7) (h12 : x7 ≤ 10) (h13 : x7 = x1) (h14 : x8 = 1) (h15 : x0 = x7 + x8) : 0 ≤ x0 := by omega
theorem o26_34 {x0 x1 x2 x3 x4 x5 x6 x7 x8 : Int} (h0 : 0 ≤ x1) (h1 : x1 ≤ 10) (h2 : x2 = 10) (h3 : ¬ x1 = x2) (h4 : 0 ≤ x3) (h5 : x3 ≤ 9) (h6 : 0 ≤ x4) (h7 : x4 ≤ 10) (h8 : x4 = x1) (h9 : x5 = x3 + x4) (h10 : x6 = x5 % 10) (h11 : 0 ≤ x7) (h12 : x7 ≤ 10) (h13 : x7 = x1) (h14 : x8 = 1) (h15 : x0 = x7 + x8) : x0 ≤ 10 := by omega
theorem o26_35 {x0 x1 : Int} (h0 : 0 ≤ x0) (h1 : x0 ≤ 9) (h2 : x1 = 1) (h3 : -2147483648 ≤ x0) (h4 : x0 ≤ 2147483647) (h5 : -2147483648 ≤ x1) (h6 : x1 ≤ 2147483647) : -2147483648 ≤ x0 + x1 := by omega
theorem o26_36 {x0 x1 : Int} (h0 : 0 ≤ x0) (h1 : x0 ≤ 9) (h2 : x1 = 1) (h3 : -2147483648 ≤ x0) (h4 : x0 ≤ 2147483647) (h5 : -2147483648 ≤ x1) (h6 : x1 ≤ 2147483647) : x0 + x1 ≤ 2147483647 := by omega
theorem o26_37 {x0 x1 x2 : Int} (h0 : 0 ≤ x1) (h1 : x1 ≤ 9) (h2 : x2 = 1) (h3 : x0 = x1 + x2) : 0 ≤ x0 := by omega
theorem o26_38 {x0 x1 x2 x3 : Int} (h0 : 0 ≤ x1) (h1 : x1 ≤ 9) (h2 : x2 = 1) (h3 : x3 = x1 + x2) (h4 : x0 = x3 % 10) : 0 ≤ x0 := by omega
theorem o26_39 {x0 x1 x2 x3 : Int} (h0 : 0 ≤ x1) (h1 : x1 ≤ 9) (h2 : x2 = 1) (h3 : x3 = x1 + x2) (h4 : x0 = x3 % 10) : x0 ≤ 9 := by omega
theorem o26_40 {x0 x1 x2 x3 : Int} (h0 : 0 ≤ x2) (h1 : x2 ≤ 10) (h2 : x3 = 10) (h3 : x2 = x3) (h4 : 0 ≤ x0) (h5 : x0 ≤ 10) (h6 : x0 = x2) (h7 : x1 = 1) (h8 : -2147483648 ≤ x0) (h9 : x0 ≤ 2147483647) (h10 : -2147483648 ≤ x1) (h11 : x1 ≤ 2147483647) (h12 : -2147483648 ≤ x2) (h13 : x2 ≤ 2147483647) (h14 : -2147483648 ≤ x3) (h15 : x3 ≤ 2147483647) : -2147483648 ≤ x0 - x1 := by omega
theorem o26_41 {x0 x1 x2 x3 : Int} (h0 : 0 ≤ x2) (h1 : x2 ≤ 10) (h2 : x3 = 10) (h3 : x2 = x3) (h4 : 0 ≤ x0) (h5 : x0 ≤ 10) (h6 : x0 = x2) (h7 : x1 = 1) (h8 : -2147483648 ≤ x0) (h9 : x0 ≤ 2147483647) (h10 : -2147483648 ≤ x1) (h11 : x1 ≤ 2147483647) (h12 : -2147483648 ≤ x2) (h13 : x2 ≤ 2147483647) (h14 : -2147483648 ≤ x3) (h15 : x3 ≤ 2147483647) : x0 - x1 ≤ 2147483647 := by omega
theorem o26_42 {x0 x1 x2 x3 x4 : Int} (h0 : 0 ≤ x1) (h1 : x1 ≤ 10) (h2 : x2 = 10) (h3 : x1 = x2) (h4 : 0 ≤ x3) (h5 : x3 ≤ 10) (h6 : x3 = x1) (h7 : x4 = 1) (h8 : x0 = x3 - x4) : 0 ≤ x0 := by omega
theorem o26_43 {x0 x1 x2 x3 x4 : Int} (h0 : 0 ≤ x1) (h1 : x1 ≤ 10) (h2 : x2 = 10) (h3 : x1 = x2) (h4 : 0 ≤ x3) (h5 : x3 ≤ 10) (h6 : x3 = x1) (h7 : x4 = 1) (h8 : x0 = x3 - x4) : x0 ≤ 10 := by omega
theorem o26_44 {x0 x1 x2 x3 x4 x5 x6 x7 x8 x9 x10 : Int} (h0 : 0 ≤ x2) (h1 : x2 ≤ 10) (h2 : x3 = 10) (h3 : x2 = x3) (h4 : 0 ≤ x4) (h5 : x4 ≤ 9) (h6 : x5 = 1) (h7 : x6 = x4 + x5) (h8 : x7 = x6 % 10) (h9 : 0 ≤ x8) (h10 : x8 ≤ 10) (h11 : x8 = x2) (h12 : x9 = 1) (h13 : x10 = x8 - x9) (h14 : 0 ≤ x0) (h15 : x0 ≤ 9) (h16 : x0 = x7) (h17 : 0 ≤ x1) (h18 : x1 ≤ 10) (h19 : x1 = x10) (h20 : -2147483648 ≤ x0) (h21 : x0 ≤ 2147483647) (h22 : -2147483648 ≤ x1) (h23 : x1 ≤ 2147483647) (h24 : -2147483648 ≤ x2) (h25 : x2 ≤ 2147483647) (h26 : -2147483648 ≤ x3) (h27 : x3 ≤ 2147483647) (h28 : -2147483648 ≤ x4) (h29 : x4 ≤ 2147483647) (h30 : -2147483648 ≤ x5) (h31 : x5 ≤ 2147483647) (h32 : -2147483648 ≤ x6) (h33 : x6 ≤ 2147483647) (h34 : -2147483648 ≤ x7) (h35 : x7 ≤ 2147483647) (h36 : -2147483648 ≤ x8) (h37 : x8 ≤ 2147483647) (h38 : -2147483648 ≤ x9) (h39 : x9 ≤ 2147483647) (h40 : -2147483648 ≤ x10) (h41 : x10 ≤ 2147483647) : -2147483648 ≤ x0 + x1 := by omega
theorem o26_45 {x0 x1 x2 x3 x4 x5 x6 x7 x8 x9 x10 : Int} (h0 : 0 ≤ x2) (h1 : x2 ≤ 10) (h2 : x3 = 10) (h3 : x2 = x3) (h4 : 0 ≤ x4) (h5 : x4 ≤ 9) (h6 : x5 = 1) (h7 : x6 = x4 + x5) (h8 : x7 = x6 % 10) (h9 : 0 ≤ x8) (h10 : x8 ≤ 10) (h11 : x8 = x2) (h12 : x9 = 1) (h13 : x10 = x8 - x9) (h14 : 0 ≤ x0) (h15 : x0 ≤ 9) (h16 : x0 = x7) (h17 : 0 ≤ x1) (h18 : x1 ≤ 10) (h19 : x1 = x10) (h20 : -2147483648 ≤ x0) (h21 : x0 ≤ 2147483647) (h22 : -2147483648 ≤ x1) (h23 : x1 ≤ 2147483647) (h24 : -2147483648 ≤ x2) (h25 : x2 ≤ 2147483647) (h26 : -2147483648 ≤ x3) (h27 : x3 ≤ 2147483647) (h28 : -2147483648 ≤ x4) (h29 : x4 ≤ 2147483647) (h30 : -2147483648 ≤ x5) (h31 : x5 ≤ 2147483647) (h32 : -2147483648 ≤ x6) (h33 : x6 ≤ 2147483647) (h34 : -2147483648 ≤ x7) (h35 : x7 ≤ 2147483647) (h36 : -2147483648 ≤ x8) (h37 : x8 ≤ 2147483647) (h38 : -2147483648 ≤ x9) (h39 : x9 ≤ 2147483647) (h40 : -2147483648 ≤ x10) (h41 : x10 ≤ 2147483647) : x0 + x1 ≤ 2147483647 := by omega
theorem o26_46 {x0 x1 x2 x3 x4 x5 x6 x7 x8 x9 x10 x11 : Int} (h0 : 0 ≤ x1) (h1 : x1 ≤ 10) (h2 : x2 = 10) (h3 : x1 = x2) (h4 : 0 ≤ x3) (h5 : x3 ≤ 9) (h6 : x4 = 1) (h7 : x5 = x3 + x4) (h8 : x6 = x5 % 10) (h9 : 0 ≤ x7) (h10 : x7 ≤ 10) (h11 : x7 = x1) (h12 : x8 = 1) (h13 : x9 = x7 - x8) (h14 : 0 ≤ x10) (h15 : x10 ≤ 9) (h16 : x10 = x6) (h17 : 0 ≤ x11) (h18 : x11 ≤ 10) (h19 : x11 = x9) (h20 : x0 = x10 + x11) : 0 ≤ x0 := by omega
theorem o26_47 {x0 x1 x2 x3 x4 x5 x6 x7 x8 x9 x10 x11 x12 : Int} (h0 : 0 ≤ x1) (h1 : x1 ≤ 10) (h2 : x2 = 10) (h3 : x1 = x2) (h4 : 0 ≤ x3) (h5 : x3 ≤ 9) (h6 : x4 = 1) (h7 : x5 = x3 + x4) (h8 : x6 = x5 % 10) (h9 : 0 ≤ x7) (h10 : x7 ≤ 10) (h11 : x7 = x1) (h12 : x8 = 1) (h13 : x9 = x7 - x8) (h14 : 0 ≤ x10) (h15 : x10 ≤ 9) (h16 : x10 = x6) (h17 : 0 ≤ x11) (h18 : x11 ≤ 10) (h19 : x11 = x9) (h20 : x12 = x10 + x11) (h21 : x0 = x12 % 10) : 0 ≤ x0 := by omega
theorem o26_48 {x0 x1 x2 x3 x4 x5 x6 x7 x8 x9 x10 x11 x12 : Int} (h0 : 0 ≤ x1) (h1 : x1 ≤ 10) (h2 : x2 = 10) (h3 : x1 = x2) (h4 : 0 ≤ x3) (h5 : x3 ≤ 9) (h6 : x4 = 1) (h7 : x5 = x3 + x4) (h8 : x6 = x5 % 10) (h9 : 0 ≤ x7) (h10 : x7 ≤ 10) (h11 : x7 = x1) (h12 : x8 = 1) (h13 : x9 = x7 - x8) (h14 : 0 ≤ x10) (h15 : x10 ≤ 9) (h16 : x10 = x6) (h17 : 0 ≤ x11) (h18 : x11 ≤ 10) (h19 : x11 = x9) (h20 : x12 = x10 + x11) (h21 : x0 = x12 % 10) : x0 < (10 : Nat) := by omega
theorem o26_49 {x0 x1 x2 x3 x4 x5 x6 x7 x8 x9 x10 x11 x12 : Int} (h0 : 0 ≤ x1) (h1 : x1 ≤ 10) (h2 : x2 = 10) (h3 : x1 = x2) (h4 : 0 ≤ x3) (h5 : x3 ≤ 9) (h6 : x4 = 1) (h7 : x5 = x3 + x4) (h8 : x6 = x5 % 10) (h9 : 0 ≤ x7) (h10 : x7 ≤ 10) (h11 : x7 = x1) (h12 : x8 = 1) (h13 : x9 = x7 - x8) (h14 : 0 ≤ x10) (h15 : x10 ≤ 9) (h16 : x10 = x6) (h17 : 0 ≤ x11) (h18 : x11 ≤ 10) (h19 : x11 = x9) (h20 : x12 = x10 + x11) (h21 : x0 = x12 % 10) : (x0).toNat < 10 := by omega
theorem o26_50 {x0 x1 x2 x3 x4 x5 x6 x7 x8 x9 x10 x11 x12 x13 x14 : Int} (h0 : 0 ≤ x2) (h1 : x2 ≤ 10) (h2 : x3 = 10) (h3 : x2 = x3) (h4 : 0 ≤ x4) (h5 : x4 ≤ 9) (h6 : x5 = 1) (h7 : x6 = x4 + x5) (h8 : x7 = x6 % 10) (h9 : 0 ≤ x8) (h10 : x8 ≤ 10) (h11 : x8 = x2) (h12 : x9 = 1) (h13 : x10 = x8 - x9) (h14 : 0 ≤ x11) (h15 : x11 ≤ 9) (h16 : x11 = x7) (h17 : 0 ≤ x12) (h18 : x12 ≤ 10) (h19 : x12 = x10) (h20 : x13 = x11 + x12) (h21 : x14 = x13 % 10) (h22 : 0 ≤ x0) (h23 : x0 ≤ 10) (h24 : x0 = x10) (h25 : x1 = 1) (h26 : -2147483648 ≤ x0) (h27 : x0 ≤ 2147483647) (h28 : -2147483648 ≤ x1) (h29 : x1 ≤ 2147483647) (h30 : -2147483648 ≤ x2) (h31 : x2 ≤ 2147483647) (h32 : -2147483648 ≤ x3) (h33 : x3 ≤ 2147483647) (h34 : -2147483648 ≤ x4) (h35 : x4 ≤ 2147483647) (h36 : -2147483648 ≤ x5) (h37 : x5 ≤ 2147483647) (h38 : -2147483648 ≤ x6) (h39 : x6 ≤ 2147483647) (h40 : -2147483648 ≤ x7) (h41 : x7 ≤ 2147483647) (h42 : -2147483648 ≤ x8) (h43 : x8 ≤ 2147483647) (h44 : -2147483648 ≤ x9) (h45 : x9 ≤ 2147483647) (h46 : -2147483648 ≤ x10) (h47 : x10 ≤ 2147483647) (h48 : -2147483648 ≤ x11) (h49 : x11 ≤ 2147483647) (h50 : -2147483648 ≤ x12) (h51 : x12 ≤ 2147483647) (h52 : -2147483648 ≤ x13) (h53 : x13 ≤ 2147483647) (h54 : -2147483648 ≤ x14) (h55 : x14 ≤ 2147483647) : -2147483648 ≤ x0 + x1 := by omega
theorem o26_51 {x0 x1 x2 x3 x4 x5 x6 x7 x8 x9 x10 x11 x12 x13 x14 : Int} (h0 : 0 ≤ x2) (h1 : x2 ≤ 10) (h2 : x3 = 10) (h3 : x2 = x3) (h4 : 0 ≤ x4) (h5 : x4 ≤ 9) (h6 : x5 = 1) (h7 : x6 = x4 + x5) (h8 : x7 = x6 % 10) (h9 : 0 ≤ x8) (h10 : x8 ≤ 10) (h11 : x8 = x2) (h12 : x9 = 1) (h13 : x10 = x8 - x9) (h14 : 0 ≤ x11) (h15 : x11 ≤ 9) (h16 : x11 = x7) (h17 : 0 ≤ x12) (h18 : x12 ≤ 10) (h19 : x12 = x10) (h20 : x13 = x11 + x12) (h21 : x14 = x13 % 10) (h22 : 0 ≤ x0) (h23 : x0 ≤ 10) (h24 : x0 = x10) (h25 : x1 = 1) (h26 : -2147483648 ≤ x0) (h27 : x0 ≤ 2147483647) (h28 : -2147483648 ≤ x1) (h29 : x1 ≤ 2147483647) (h30 : -2147483648 ≤ x2) (h31 : x2 ≤ 2147483647) (h32 : -2147483648 ≤ x3) (h33 : x3 ≤ 2147483647) (h34 : -2147483648 ≤ x4) (h35 : x4 ≤ 2147483647) (h36 : -2147483648 ≤ x5) (h37 : x5 ≤ 2147483647) (h38 : -2147483648 ≤ x6) (h39 : x6 ≤ 2147483647) (h40 : -2147483648 ≤ x7) (h41 : x7 ≤ 2147483647) (h42 : -2147483648 ≤ x8) (h43 : x8 ≤ 2147483647) (h44 : -2147483648 ≤ x9) (h45 : x9 ≤ 2147483647) (h46 : -2147483648 ≤ x10) (h47 : x10 ≤ 2147483647) (h48 : -2147483648 ≤ x11) (h49 : x11 ≤ 2147483647) (h50 : -2147483648 ≤ x12) (h51 : x12 ≤ 2147483647) (h52 : -2147483648 ≤ x13) (h53 : x13 ≤ 2147483647) (h54 : -2147483648 ≤ x14) (h55 : x14 ≤ 2147483647) : x0 + x1 ≤ 2147483647 := by omega
theorem o26_52 {x0 x1 x2 x3 x4 x5 x6 x7 x8 x9 x10 x11 x12 x13 x14 x15 : Int} (h0 : 0 ≤ x1) (h1 : x1 ≤ 10) (h2 : x2 = 10) (h3 : x1 = x2) (h4 : 0 ≤ x3) (h5 : x3 ≤ 9) (h6 : x4 = 1) (h7 : x5 = x3 + x4) (h8 : x6 = x5 % 10) (h9 : 0 ≤ x7) (h10 : x7 ≤ 10) (h11 : x7 = x1) (h12 : x8 = 1) (h13 : x9 = x7 - x8) (h14 : 0 ≤ x10) (h15 : x10 ≤ 9) (h16 : x10 = x6) (h17 : 0 ≤ x11) (h18 : x11 ≤ 10) (h19 : x11 = x9) (h20 : x12 = x10 + x11) (h21 : x13 = x12 % 10) (h22 : 0 ≤ x14) (h23 : x14 ≤ 10) (h24 : x14 = x9) (h25 : x15 = 1) (h26 : x0 = x14 + x15) : 0 ≤ x0 := by omega
theorem o26_53 {x0 x1 x2 x3 x4 x5 x6 x7 x8 x9 x10 x11 x12 x13 x14 x15 : Int} (h0 : 0 ≤ x1) (h1 : x1 ≤ 10) (h2 : x2 = 10) (h3 : x1 = x2) (h4 : 0 ≤ x3) (h5 : x3 ≤ 9) (h6 : x4 = 1) (h7 : x5 = x3 + x4) (h8 : x6 = x5 % 10) (h9 : 0 ≤ x7) (h10 : x7 ≤ 10) (h11 : x7 = x1) (h12 : x8 = 1) (h13 : x9 = x7 - x8) (h14 : 0 ≤ x10) (h15 : x10 ≤ 9) (h16 : x10 = x6) (h17 : 0 ≤ x11) (h18 : x11 ≤ 10) (h19 : x11 = x9) (h20 : x12 = x10 + x11) (h21 : x13 = x12 % 10) (h22 : 0 ≤ x14) (h23 : x14 ≤ 10) (h24 : x14 = x9) (h25 : x15 = 1) (h26 : x0 = x14 + x15) : x0 ≤ 10 := by omega
theorem o26_54 {x0 : Int} (h0 : x0 = 16) : x0 = 16 := by omega
theorem o26_55 {x0 : Int} (h0 : 0 ≤ x0) (h1 : x0 ≤ 65535) : 0 ≤ x0 := by omega
theorem o26_56 {x0 : Int} (h0 : 0 ≤ x0) (h1 : x0 ≤ 65535) : x0 ≤ 65535 := by omega
theorem o26_57 {x0 x1 : Int} (h0 : (-1) ≤ x1) (h1 : 0 ≤ x0) (h2 : x0 ≤ 1) (h3 : (x0 = 0 ∨ (0 ≤ x1 ∧ x1 ≤ 4))) (h4 : x0 = 0) (h5 : ¬ x0 = 0) : False := by omega
theorem o26_58 {x0 : Int} (h0 : 1 ≤ x0) (h1 : x0 ≤ 1) (h2 : 1 - x0 < 0) : False := by omega
theorem o26_59 {x0 : Int} {x1 : Nat} (h0 : 1 ≤ x0) (h1 : x0 ≤ 1) (h2 : 1 - x0 < ((x1 + 1 : Nat) : Int)) : x0 = 1 := by omega
theorem o26_60 {x0 x1 : Int} {x2 : Nat} (h0 : 1 ≤ x1) (h1 : x1 ≤ 1) (h2 : 1 - x1 < ((x2 + 1 : Nat) : Int)) (h3 : (-1) ≤ x0) (h4 : x0 ≤ 40) (h5 : x0 ≤ x1) : ¬ 1 < x0 := by omega
theorem o26_61 {x0 x1 : Int} {x2 : Nat} (h0 : 1 ≤ x1) (h1 : x1 ≤ 1) (h2 : 1 - x1 < ((x2 + 1 : Nat) : Int)) (h3 : (-1) ≤ x0) (h4 : x0 ≤ 40) (h5 : x1 < x0) : 1 < x0 := by omega
theorem o26_62 {x0 : Int} (h0 : x0 = 0) : x0 < (4 : Nat) := by omega
theorem o26_63 {x0 : Int} (h0 : 0 ≤ x0) (h1 : x0 ≤ 0) : x0 = 0 := by omega
theorem o26_64 {x0 : Int} (h0 : x0 = 1) : x0 < (4 : Nat) := by omega
theorem o26_65 {x0 : Int} (h0 : 1 ≤ x0) (h1 : x0 ≤ 1) : x0 = 1 := by omega
theorem o26_66 {x0 : Int} (h0 : x0 = 2) : 0 ≤ x0 := by omega
theorem o26_67 {x0 : Int} (h0 : x0 = 2) : x0 < (4 : Nat) := by omega
theorem o26_68 {x0 : Int} (h0 : x0 = 3) : 0 ≤ x0 := by omega
theorem o26_69 {x0 : Int} (h0 : x0 = 3) : x0 < (4 : Nat) := by omega
theorem o26_70 {x0 : Int} (h0 : 1 ≤ x0) (h1 : x0 ≤ 1) (h2 : x0 = 0) : False := by omega
theorem o26_71 {x0 : Int} (h0 : 1 ≤ x0) (h1 : x0 ≤ 1) (h2 : ¬ x0 = 0) : x0 = 1 := by omega
theorem o26_72 {x0 : Int} (h0 : x0 = 1) : 1 - x0 < (((1 - x0 + 1).toNat : Nat) : Int) := by omega
theorem o26_73 {x0 : Int} (h0 : x0 = 1) : 1 ≤ x0 := by omega
theorem o26_74 {x0 : Int} (h0 : x0 = 0) : x0 ≤ 0 := by omega
theorem o26_75 {x0 x1 : Int} (h0 : (-1) ≤ x1) (h1 : 0 ≤ x0) (h2 : x0 ≤ 1) (h3 : (x0 = 0 ∨ (0 ≤ x1 ∧ x1 ≤ 4))) (h4 : ¬ x0 = 0) (h5 : x0 = 0) : False := by omega
theorem o26_76 {x0 : Int} (h0 : 1 ≤ x0) (h1 : x0 ≤ 40) (h2 : 40 - x0 < 0) : False := by omega
theorem o26_77 {x0 x1 : Int} (h0 : (-1) ≤ x0) (h1 : 0 ≤ x1) (h2 : x1 ≤ 1) (h3 : (x1 = 0 ∨ (0 ≤ x0 ∧ x0 ≤ 4))) (h4 : ¬ x1 = 0) : 0 ≤ x0 := by omega
theorem o26_78 {x0 x1 : Int} (h0 : (-1) ≤ x0) (h1 : 0 ≤ x1) (h2 : x1 ≤ 1) (h3 : (x1 = 0 ∨ (0 ≤ x0 ∧ x0 ≤ 4))) (h4 : ¬ x1 = 0) : x0 < (5 : Nat) := by omega
theorem o26_79 {x0 x2 : Int} {x1 : Nat} (h0 : 1 ≤ x0) (h1 : x0 ≤ 40) (h2 : 40 - x0 < ((x1 + 1 : Nat) : Int)) (h3 : (-1) ≤ x2) (h4 : x2 ≤ 40) (h5 : x0 < x2) (h6 : -2147483648 ≤ x0) (h7 : x0 ≤ 2147483647) (h8 : -2147483648 ≤ x2) (h9 : x2 ≤ 2147483647) : -2147483648 ≤ x0 + 1 := by omega
theorem o26_80 {x0 x2 : Int} {x1 : Nat} (h0 : 1 ≤ x0) (h1 : x0 ≤ 40) (h2 : 40 - x0 < ((x1 + 1 : Nat) : Int)) (h3 : (-1) ≤ x2) (h4 : x2 ≤ 40) (h5 : x0 < x2) (h6 : -2147483648 ≤ x0) (h7 : x0 ≤ 2147483647) (h8 : -2147483648 ≤ x2) (h9 : x2 ≤ 2147483647) : x0 + 1 ≤ 2147483647 := by omega
theorem o26_81 {x0 x2 x3 : Int} {x1 : Nat} (h0 : 1 ≤ x2) (h1 : x2 ≤ 40) (h2 : 40 - x2 < ((x1 + 1 : Nat) : Int)) (h3 : (-1) ≤ x3) (h4 : x3 ≤ 40) (h5 : x2 < x3) (h6 : x0 = x2 + 1) : 40 - x0 < (x1 : Int) := by omega
theorem o26_82 {x0 x1 x3 : Int} {x2 : Nat} (h0 : 1 ≤ x1) (h1 : x1 ≤ 40) (h2 : 40 - x1 < ((x2 + 1 : Nat) : Int)) (h3 : (-1) ≤ x3) (h4 : x3 ≤ 40) (h5 : x1 < x3) (h6 : x0 = x1 + 1) : 1 ≤ x0 := by omega
theorem o26_83 {x0 x1 x3 : Int} {x2 : Nat} (h0 : 1 ≤ x1) (h1 : x1 ≤ 40) (h2 : 40 - x1 < ((x2 + 1 : Nat) : Int)) (h3 : (-1) ≤ x3) (h4 : x3 ≤ 40) (h5 : x1 < x3) (h6 : x0 = x1 + 1) : x0 ≤ 40 := by omega
theorem o26_84 {x0 x1 x2 x3 : Int} (h0 : (-1) ≤ x1) (h1 : 0 ≤ x2) (h2 : x2 ≤ 1) (h3 : (x2 = 0 ∨ (0 ≤ x1 ∧ x1 ≤ 4))) (h4 : ¬ x2 = 0) (h5 : (-1) ≤ x3) (h6 : 0 ≤ x0) (h7 : x0 ≤ 4) (h8 : (x0 = 0 → 0 ≤ x1) ∧ (x0 = 0 → x1 ≤ 4) ∧ (x0 = 0 → 0 ≤ x3) ∧ (x0 = 0 → x3 ≤ 3)) (h9 : ¬ x0 = 0) : 0 ≤ x0 := by omega
theorem o26_85 {x0 x1 x2 x3 : Int} (h0 : (-1) ≤ x1) (h1 : 0 ≤ x2) (h2 : x2 ≤ 1) (h3 : (x2 = 0 ∨ (0 ≤ x1 ∧ x1 ≤ 4))) (h4 : ¬ x2 = 0) (h5 : (-1) ≤ x3) (h6 : 0 ≤ x0) (h7 : x0 ≤ 4) (h8 : (x0 = 0 → 0 ≤ x1) ∧ (x0 = 0 → x1 ≤ 4) ∧ (x0 = 0 → 0 ≤ x3) ∧ (x0 = 0 → x3 ≤ 3)) (h9 : ¬ x0 = 0) : x0 ≤ 4 := by omega
theorem o26_86 {x0 x2 x3 : Int} {x1 : Nat} (h0 : 1 ≤ x0) (h1 : x0 ≤ 40) (h2 : 40 - x0 < ((x1 + 1 : Nat) : Int)) (h3 : (-1) ≤ x2) (h4 : x2 ≤ 40) (h5 : x0 < x2) (h6 : x3 = x0 + 1) : (-1) ≤ x0 := by omega
theorem o26_87 {x0 x2 x3 : Int} {x1 : Nat} (h0 : 1 ≤ x0) (h1 : x0 ≤ 40) (h2 : 40 - x0 < ((x1 + 1 : Nat) : Int)) (h3 : (-1) ≤ x2) (h4 : x2 ≤ 40) (h5 : x0 < x2) (h6 : x3 = x0 + 1) : x0 ≤ 39 := by omega
theorem o26_88 {x0 x1 x2 x3 : Int} (h0 : (-1) ≤ x0) (h1 : 0 ≤ x1) (h2 : x1 ≤ 1) (h3 : (x1 = 0 ∨ (0 ≤ x0 ∧ x0 ≤ 4))) (h4 : ¬ x1 = 0) (h5 : (-1) ≤ x2) (h6 : 0 ≤ x3) (h7 : x3 ≤ 4) (h8 : (x3 = 0 → 0 ≤ x0) ∧ (x3 = 0 → x0 ≤ 4) ∧ (x3 = 0 → 0 ≤ x2) ∧ (x3 = 0 → x2 ≤ 3)) (h9 : x3 = 0) : 0 ≤ x0 := by omega
theorem o26_89 {x0 x1 x2 x3 : Int} (h0 : (-1) ≤ x0) (h1 : 0 ≤ x1) (h2 : x1 ≤ 1) (h3 : (x1 = 0 ∨ (0 ≤ x0 ∧ x0 ≤ 4))) (h4 : ¬ x1 = 0) (h5 : (-1) ≤ x2) (h6 : 0 ≤ x3) (h7 : x3 ≤ 4) (h8 : (x3 = 0 → 0 ≤ x0) ∧ (x3 = 0 → x0 ≤ 4) ∧ (x3 = 0 → 0 ≤ x2) ∧ (x3 = 0 → x2 ≤ 3)) (h9 : x3 = 0) : x0 ≤ 4 := by omega
theorem o26_90 {x0 x1 x2 x3 : Int} (h0 : (-1) ≤ x1) (h1 : 0 ≤ x2) (h2 : x2 ≤ 1) (h3 : (x2 = 0 ∨ (0 ≤ x1 ∧ x1 ≤ 4))) (h4 : ¬ x2 = 0) (h5 : (-1) ≤ x0) (h6 : 0 ≤ x3) (h7 : x3 ≤ 4) (h8 : (x3 = 0 → 0 ≤ x1) ∧ (x3 = 0 → x1 ≤ 4) ∧ (x3 = 0 → 0 ≤ x0) ∧ (x3 = 0 → x0 ≤ 3)) (h9 : x3 = 0) : 0 ≤ x0 := by omega
theorem o26_91 {x0 x1 x2 x3 : Int} (h0 : (-1) ≤ x1) (h1 : 0 ≤ x2) (h2 : x2 ≤ 1) (h3 : (x2 = 0 ∨ (0 ≤ x1 ∧ x1 ≤ 4))) (h4 : ¬ x2 = 0) (h5 : (-1) ≤ x0) (h6 : 0 ≤ x3) (h7 : x3 ≤ 4) (h8 : (x3 = 0 → 0 ≤ x1) ∧ (x3 = 0 → x1 ≤ 4) ∧ (x3 = 0 → 0 ≤ x0) ∧ (x3 = 0 → x0 ≤ 3)) (h9 : x3 = 0) : x0 ≤ 3 := by omega
theorem o26_92 {x0 x1 x2 x3 : Int} (h0 : (-1) ≤ x1) (h1 : 0 ≤ x2) (h2 : x2 ≤ 1) (h3 : (x2 = 0 ∨ (0 ≤ x1 ∧ x1 ≤ 4))) (h4 : ¬ x2 = 0) (h5 : (-1) ≤ x3) (h6 : 0 ≤ x0) (h7 : x0 ≤ 4) (h8 : (x0 = 0 → 0 ≤ x1) ∧ (x0 = 0 → x1 ≤ 4) ∧ (x0 = 0 → 0 ≤ x3) ∧ (x0 = 0 → x3 ≤ 3)) (h9 : x0 = 0) : x0 = 0 := by omega
theorem o26_93 {x0 x1 x2 x3 : Int} (h0 : (-1) ≤ x1) (h1 : 0 ≤ x2) (h2 : x2 ≤ 1) (h3 : (x2 = 0 ∨ (0 ≤ x1 ∧ x1 ≤ 4))) (h4 : ¬ x2 = 0) (h5 : (-1) ≤ x3) (h6 : 0 ≤ x0) (h7 : x0 ≤ 4) (h8 : (x0 = 0 → 0 ≤ x1) ∧ (x0 = 0 → x1 ≤ 4) ∧ (x0 = 0 → 0 ≤ x3) ∧ (x0 = 0 → x3 ≤ 3)) (h9 : x0 = 0) : 0 ≤ x0 := by omega
theorem o26_94 {x0 x1 x2 x3 : Int} (h0 : (-1) ≤ x1) (h1 : 0 ≤ x2) (h2 : x2 ≤ 1) (h3 : (x2 = 0 ∨ (0 ≤ x1 ∧ x1 ≤ 4))) (h4 : ¬ x2 = 0) (h5 : (-1) ≤ x3) (h6 : 0 ≤ x0) (h7 : x0 ≤ 4) (h8 : (x0 = 0 → 0 ≤ x1) ∧ (x0 = 0 → x1 ≤ 4) ∧ (x0 = 0 → 0 ≤ x3) ∧ (x0 = 0 → x3 ≤ 3)) (h9 : x0 = 0) : x0 ≤ 4 := by omega
theorem o26_95 {x0 : Int} (h0 : (-1) ≤ x0) (h1 : x0 ≤ 39) : (-1) ≤ x0 := by omega
theorem o26_96 {x0 : Int} (h0 : (-1) ≤ x0) (h1 : x0 ≤ 39) : x0 ≤ 39 := by omega
theorem o26_97 {x0 : Int} (h0 : x0 = 1) : 40 - x0 < (((40 - x0 + 1).toNat : Nat) : Int) := by omega
theorem o26_98 {x0 : Int} (h0 : x0 = 1) : x0 ≤ 40 := by omega
theorem o26_99 {x0 : Int} (h0 : x0 = 0) : x0 ≤ 4 := by omega
theorem o26_100 {x0 : Int} (h0 : x0 = (-1)) : (-1) ≤ x0 := by omega
theorem o26_101 {x0 : Int} (h0 : x0 = (-1)) : x0 ≤ 39 := by omega
theorem o26_102 {x0 : Int} (h0 : x0 = 3) : x0 = 3 := by omega
theorem o26_103 {x0 x1 x2 : Int} (h0 : 0 ≤ x1) (h1 : x1 ≤ 65535) (h2 : x0 = x1 % 4) (h3 : x2 = 3) (h4 : ¬ x0 = x2) : ¬ x0 = 3 := by omega
theorem o26_104 {x0 x1 x2 : Int} (h0 : 0 ≤ x1) (h1 : x1 ≤ 65535) (h2 : x0 = x1 % 4) (h3 : x2 = 3) (h4 : x0 = x2) : x0 = 3 := by omega
theorem o26_105 {x0 : Int} (h0 : x0 = 2) : x0 = 2 := by omega
theorem o26_106 {x0 x1 x2 x3 : Int} (h0 : 0 ≤ x1) (h1 : x1 ≤ 65535) (h2 : x0 = x1 % 4) (h3 : x2 = 3) (h4 : ¬ x0 = x2) (h5 : x3 = 2) (h6 : ¬ x0 = x3) : ¬ x0 = 2 := by omega
theorem o26_107 {x0 x1 x2 x3 : Int} (h0 : 0 ≤ x1) (h1 : x1 ≤ 65535) (h2 : x0 = x1 % 4) (h3 : x2 = 3) (h4 : ¬ x0 = x2) (h5 : x3 = 2) (h6 : x0 = x3) : x0 = 2 := by omega
theorem o26_108 {x0 x1 x2 x3 : Int} (h0 : x0 = 0) (h1 : 0 ≤ x1) (h2 : x1 ≤ 65535) (h3 : x2 = x1 % 4) (h4 : 0 ≤ x3) (h5 : x3 ≤ 4) (h6 : (x3 = 0 → 0 ≤ x0) ∧ (x3 = 0 → x0 ≤ 4) ∧ (x3 = 0 → 0 ≤ x2) ∧ (x3 = 0 → x2 ≤ 3)) : x0 = 0 := by omega
theorem o26_109 {x0 x1 x2 x3 : Int} (h0 : x0 = 0) (h1 : 0 ≤ x1) (h2 : x1 ≤ 65535) (h3 : x2 = x1 % 4) (h4 : 0 ≤ x3) (h5 : x3 ≤ 4) (h6 : (x3 = 0 → 0 ≤ x0) ∧ (x3 = 0 → x0 ≤ 4) ∧ (x3 = 0 → 0 ≤ x2) ∧ (x3 = 0 → x2 ≤ 3)) (h7 : x3 = 0) : 0 ≤ x0 := by omega
theorem o26_110 {x0 x1 x2 x3 : Int} (h0 : x0 = 0) (h1 : 0 ≤ x1) (h2 : x1 ≤ 65535) (h3 : x2 = x1 % 4) (h4 : 0 ≤ x3) (h5 : x3 ≤ 4) (h6 : (x3 = 0 → 0 ≤ x0) ∧ (x3 = 0 → x0 ≤ 4) ∧ (x3 = 0 → 0 ≤ x2) ∧ (x3 = 0 → x2 ≤ 3)) (h7 : x3 = 0) : x0 ≤ 4 := by omega
theorem o26_111 {x0 x1 x2 x3 : Int} (h0 : x1 = 0) (h1 : 0 ≤ x2) (h2 : x2 ≤ 65535) (h3 : x0 = x2 % 4) (h4 : 0 ≤ x3) (h5 : x3 ≤ 4) (h6 : (x3 = 0 → 0 ≤ x1) ∧ (x3 = 0 → x1 ≤ 4) ∧ (x3 = 0 → 0 ≤ x0) ∧ (x3 = 0 → x0 ≤ 3)) (h7 : x3 = 0) : 0 ≤ x0 := by omega
theorem o26_112 {x0 x1 x2 x3 : Int} (h0 : x1 = 0) (h1 : 0 ≤ x2) (h2 : x2 ≤ 65535) (h3 : x0 = x2 % 4) (h4 : 0 ≤ x3) (h5 : x3 ≤ 4) (h6 : (x3 = 0 → 0 ≤ x1) ∧ (x3 = 0 → x1 ≤ 4) ∧ (x3 = 0 → 0 ≤ x0) ∧ (x3 = 0 → x0 ≤ 3)) (h7 : x3 = 0) : x0 ≤ 3 := by omega
theorem o26_113 {x0 x1 x2 x3 : Int} (h0 : x1 = 0) (h1 : 0 ≤ x2) (h2 : x2 ≤ 65535) (h3 : x3 = x2 % 4) (h4 : 0 ≤ x0) (h5 : x0 ≤ 4) (h6 : (x0 = 0 → 0 ≤ x1) ∧ (x0 = 0 → x1 ≤ 4) ∧ (x0 = 0 → 0 ≤ x3) ∧ (x0 = 0 → x3 ≤ 3)) (h7 : x0 = 0) : x0 = 0 := by omega
theorem o26_114 {x0 x1 x2 x3 : Int} (h0 : x0 = 0) (h1 : 0 ≤ x1) (h2 : x1 ≤ 65535) (h3 : x2 = x1 % 4) (h4 : 0 ≤ x3) (h5 : x3 ≤ 4) (h6 : (x3 = 0 → 0 ≤ x0) ∧ (x3 = 0 → x0 ≤ 4) ∧ (x3 = 0 → 0 ≤ x2) ∧ (x3 = 0 → x2 ≤ 3)) (h7 : x3 = 0) : x0 = 0 := by omega
theorem o26_115 {x0 : Int} (h0 : x0 = 0) : x0 = 0 := by omega
theorem o26_116 {x0 : Int} (h0 : 0 ≤ x0) (h1 : x0 ≤ 1) : 0 ≤ x0 := by omega
theorem o26_117 {x0 : Int} (h0 : 0 ≤ x0) (h1 : x0 ≤ 1) : x0 ≤ 1 := by omega
theorem o26_118 {x0 : Int} (h0 : 0 ≤ x0) (h1 : x0 ≤ 5) (h2 : 0 < x0) : 0 < x0 := by omega
theorem o26_119 {x0 x1 x2 x3 x4 x5 : Int} (h0 : 0 ≤ x1) (h1 : x1 ≤ 5) (h2 : 0 < x1) (h3 : 0 ≤ x2) (h4 : x2 ≤ 65535) (h5 : x0 = x2 % x1) (h6 : 0 ≤ x0) (h7 : x0 < x1) (h8 : 0 ≤ x3) (h9 : x3 ≤ 65535) (h10 : x4 = x3 % 4) (h11 : 0 ≤ x5) (h12 : x5 ≤ 4) (h13 : (x5 = 0 → 0 ≤ x0) ∧ (x5 = 0 → x0 ≤ 4) ∧ (x5 = 0 → 0 ≤ x4) ∧ (x5 = 0 → x4 ≤ 3)) (h14 : x5 = 0) : 0 ≤ x0 := by omega
theorem o26_120 {x0 x1 x2 x3 x4 x5 : Int} (h0 : 0 ≤ x1) (h1 : x1 ≤ 5) (h2 : 0 < x1) (h3 : 0 ≤ x2) (h4 : x2 ≤ 65535) (h5 : x0 = x2 % x1) (h6 : 0 ≤ x0) (h7 : x0 < x1) (h8 : 0 ≤ x3) (h9 : x3 ≤ 65535) (h10 : x4 = x3 % 4) (h11 : 0 ≤ x5) (h12 : x5 ≤ 4) (h13 : (x5 = 0 → 0 ≤ x0) ∧ (x5 = 0 → x0 ≤ 4) ∧ (x5 = 0 → 0 ≤ x4) ∧ (x5 = 0 → x4 ≤ 3)) (h14 : x5 = 0) : x0 ≤ 4 := by omega
theorem o26_121 {x0 x1 x2 x3 x4 x5 : Int} (h0 : 0 ≤ x1) (h1 : x1 ≤ 5) (h2 : 0 < x1) (h3 : 0 ≤ x2) (h4 : x2 ≤ 65535) (h5 : x3 = x2 % x1) (h6 : 0 ≤ x3) (h7 : x3 < x1) (h8 : 0 ≤ x4) (h9 : x4 ≤ 65535) (h10 : x0 = x4 % 4) (h11 : 0 ≤ x5) (h12 : x5 ≤ 4) (h13 : (x5 = 0 → 0 ≤ x3) ∧ (x5 = 0 → x3 ≤ 4) ∧ (x5 = 0 → 0 ≤ x0) ∧ (x5 = 0 → x0 ≤ 3)) (h14 : x5 = 0) : 0 ≤ x0 := by omega
theorem o26_122 {x0 x1 x2 x3 x4 x5 : Int} (h0 : 0 ≤ x1) (h1 : x1 ≤ 5) (h2 : 0 < x1) (h3 : 0 ≤ x2) (h4 : x2 ≤ 65535) (h5 : x3 = x2 % x1) (h6 : 0 ≤ x3) (h7 : x3 < x1) (h8 : 0 ≤ x4) (h9 : x4 ≤ 65535) (h10 : x0 = x4 % 4) (h11 : 0 ≤ x5) (h12 : x5 ≤ 4) (h13 : (x5 = 0 → 0 ≤ x3) ∧ (x5 = 0 → x3 ≤ 4) ∧ (x5 = 0 → 0 ≤ x0) ∧ (x5 = 0 → x0 ≤ 3)) (h14 : x5 = 0) : x0 ≤ 3 := by omega
theorem o26_123 {x0 x1 x2 x3 x4 x5 : Int} (h0 : 0 ≤ x1) (h1 : x1 ≤ 5) (h2 : 0 < x1) (h3 : 0 ≤ x2) (h4 : x2 ≤ 65535) (h5 : x3 = x2 % x1) (h6 : 0 ≤ x3) (h7 : x3 < x1) (h8 : 0 ≤ x4) (h9 : x4 ≤ 65535) (h10 : x5 = x4 % 4) (h11 : 0 ≤ x0) (h12 : x0 ≤ 4) (h13 : (x0 = 0 → 0 ≤ x3) ∧ (x0 = 0 → x3 ≤ 4) ∧ (x0 = 0 → 0 ≤ x5) ∧ (x0 = 0 → x5 ≤ 3)) (h14 : x0 = 0) : x0 = 0 := by omega
theorem o26_124 {x0 x1 x2 : Int} (h0 : 0 ≤ x1) (h1 : x1 ≤ 5) (h2 : 0 < x1) (h3 : 0 ≤ x2) (h4 : x2 ≤ 65535) (h5 : x0 = x2 % x1) (h6 : 0 ≤ x0) (h7 : x0 < x1) : 0 ≤ x0 := by omega
theorem o26_125 {x0 x1 x2 : Int} (h0 : 0 ≤ x1) (h1 : x1 ≤ 5) (h2 : 0 < x1) (h3 : 0 ≤ x2) (h4 : x2 ≤ 65535) (h5 : x0 = x2 % x1) (h6 : 0 ≤ x0) (h7 : x0 < x1) : x0 ≤ 4 := by omega
noncomputable def g2_X11_isPerson (s : XS) : XR := (s, 0)
noncomputable def g5_X11_isPerson (s : XS) : XR := (s, 0)
noncomputable def g6_X11_isPerson (s : XS) : XR := (s, 1)
noncomputable def g4b_X11_isPerson (s : XS) (v_4 : Int) (a1 : Int) : XR := if a1 < v_4 then g6_X11_isPerson s else g5_X11_isPerson s
noncomputable def g3_X11_isPerson (s : XS) (a1 : Int) : XR := g4b_X11_isPerson s ((s 0 10 7)) a1
noncomputable def g1b_X11_isPerson (s : XS) (a1 : Int) : XR := if a1 < 0 then g2_X11_isPerson s else g3_X11_isPerson s a1
noncomputable def f_X11_isPerson (s : XS) (a1 : Int) : XR := g1b_X11_isPerson s a1
set_option maxHeartbeats 4000000 in
set_option maxRecDepth 100000 in
theorem c_X11_isPerson (l : Launch) (G : GG) (Z : RZ) (ad : Nat → Nat) (ws0 : va_W) (hT : Ty G SC ad ws0) (a1 : Int32) : Mq l yX11_isPerson cX11_isPerson 2 (some .boolean) 1 G Z [.ref (ad 0), .int a1] ws0 (PI G SC ad [] ws0 (fun r u => (xso SC ad u = (f_X11_isPerson (xso SC ad ws0) a1.toInt).1) ∧ (r.toInt = (f_X11_isPerson (xso SC ad ws0) a1.toInt).2) ∧ (0 ≤ r.toInt) ∧ (r.toInt ≤ 1) ∧ ((r.toInt = 0 ∨ (0 ≤ a1.toInt ∧ a1.toInt ≤ 4))))) := by
  refine Mq.start (by decide) (Nat.le_of_ble_eq_true rfl) ?_
  intro p e s m below meth c A ls C0 hZ h hl
  have hl : lv_has ls 2 [(0, .ref (ad 0)), (1, .int a1)] := hl
  have h : Wt G SC ad A s s.heap [] ws0 := ⟨h, hT⟩
  obtain ⟨args, hargs⟩ : ∃ z, z = ([.ref (ad 0), .int a1] : List Value).toArray := ⟨_, rfl⟩
  rw [← hargs] at C0 ⊢
  have C0 : Cx p s m args meth c RX11 cX11_isPerson 2 (some .boolean) := C0
  obtain ⟨Q, hQ⟩ : ∃ z, z = MQ below ((PI G SC ad [] ws0 (fun r u => (xso SC ad u = (f_X11_isPerson (xso SC ad ws0) a1.toInt).1) ∧ (r.toInt = (f_X11_isPerson (xso SC ad ws0) a1.toInt).2) ∧ (0 ≤ r.toInt) ∧ (r.toInt ≤ 1) ∧ ((r.toInt = 0 ∨ (0 ≤ a1.toInt ∧ a1.toInt ≤ 4))))) A) args s 0 0 A := ⟨_, rfl⟩
  rw [← hQ]
  obtain ⟨FT, hFT⟩ : ∃ z, z = f_X11_isPerson (xso SC ad ws0) a1.toInt := ⟨_, rfl⟩
  have HE : FT = f_X11_isPerson (xso SC ad ws0) a1.toInt := hFT
  refine lv_iload_n C0.1 C0.2.1 dX11_isPerson_0 rfl (lv_at hl 1 rfl) ?_
  replace HE : FT = g1b_X11_isPerson (xso SC ad ws0) a1.toInt := HE.trans rfl
  refine y_if_lt (tgt := 22) C0 dX11_isPerson_1 (by decide) (fun c_1 => ?_) (fun c_1 => ?_)
  · -- 1
    replace HE : FT = g2_X11_isPerson (xso SC ad ws0) := HE.trans (if_pos c_1)
    refine y_c1 (n := 0) C0 (by decide) dX11_isPerson_22 (fun v_2 e_3 => ?_)
    replace HE : FT = ((xso SC ad ws0), v_2.toInt) := HE.trans (by rw [e_3]; rfl)
    rw [hQ]
    exact y_zret C0 h (o26_1 e_3) (o26_2 e_3) Fr.rf ⟨(congrArg Prod.fst (HE.symm.trans hFT)), (congrArg Prod.snd (HE.symm.trans hFT)), (o26_1 e_3), (o26_2 e_3), (o26_3 c_1 e_3)⟩ dX11_isPerson_23
  · -- 1
    replace HE : FT = g3_X11_isPerson (xso SC ad ws0) a1.toInt := HE.trans (if_neg (Int.not_lt.mpr c_1))
    refine lv_iload_n C0.1 C0.2.1 dX11_isPerson_4 rfl (lv_at hl 1 rfl) ?_
    refine lv_aload_n C0.1 C0.2.1 dX11_isPerson_5 rfl (lv_at hl 0 rfl) ?_
    refine tg_X11_now C0 h kSC_0 q_515 dX11_isPerson_6 ?_
    refine tg_X0_folk C0 h kSC_1 q_249 dX11_isPerson_9 ?_
    refine tg_X1_people C0 h kSC_10 q_215 dX11_isPerson_12 (fun v_4 e_5 e_6 e_7 => ?_)
    replace HE : FT = g4b_X11_isPerson (xso SC ad ws0) v_4.toInt a1.toInt := HE.trans (by rw [(xg0 e_5 : v_4.toInt = (xso SC ad ws0) 0 10 7)]; rfl)
    refine y_icmp_ge (tgt := 22) C0 dX11_isPerson_15 (by decide) (fun c_8 => ?_) (fun c_8 => ?_)
    · -- 15
      replace HE : FT = g5_X11_isPerson (xso SC ad ws0) := HE.trans (if_neg (Int.not_lt.mpr c_8))
      refine y_c1 (n := 0) C0 (by decide) dX11_isPerson_22 (fun v_9 e_10 => ?_)
      replace HE : FT = ((xso SC ad ws0), v_9.toInt) := HE.trans (by rw [e_10]; rfl)
      rw [hQ]
      exact y_zret C0 h (o26_1 e_10) (o26_2 e_10) Fr.rf ⟨(congrArg Prod.fst (HE.symm.trans hFT)), (congrArg Prod.snd (HE.symm.trans hFT)), (o26_1 e_10), (o26_2 e_10), (o26_4 c_1 e_6 e_7 c_8 e_10)⟩ dX11_isPerson_23
    · -- 15
      replace HE : FT = g6_X11_isPerson (xso SC ad ws0) := HE.trans (if_pos c_8)
      refine y_c1 (n := 1) C0 (by decide) dX11_isPerson_18 (fun v_11 e_12 => ?_)
      refine lv_goto (tgt := 23) C0.1 C0.2.1 dX11_isPerson_19 (by decide) ?_
      replace HE : FT = ((xso SC ad ws0), v_11.toInt) := HE.trans (by rw [e_12]; rfl)
      rw [hQ]
      exact y_zret C0 h (o26_5 e_12) (o26_6 e_12) Fr.rf ⟨(congrArg Prod.fst (HE.symm.trans hFT)), (congrArg Prod.snd (HE.symm.trans hFT)), (o26_5 e_12), (o26_6 e_12), (o26_7 c_1 e_6 e_7 c_8 e_12)⟩ dX11_isPerson_23
noncomputable def g2_X11_isCrossing (s : XS) : XR := (s, 0)
noncomputable def g6_X11_isCrossing (s : XS) : XR := (s, 0)
noncomputable def g7_X11_isCrossing (s : XS) : XR := (s, 1)
noncomputable def g5b_X11_isCrossing (s : XS) (r_7 : Int) (a1 : Int) : XR := if a1 < r_7 then g7_X11_isCrossing s else g6_X11_isCrossing s
noncomputable def g4c_X11_isCrossing (s : XS) (r_7 : Int) (a1 : Int) : XR := g5b_X11_isCrossing s r_7 a1
noncomputable def g3_X11_isCrossing (s : XS) (a1 : Int) : XR := g4c_X11_isCrossing ((f_X0_crossings s 1).1) (((f_X0_crossings s 1).2)) a1
noncomputable def g1b_X11_isCrossing (s : XS) (a1 : Int) : XR := if a1 < 0 then g2_X11_isCrossing s else g3_X11_isCrossing s a1
noncomputable def f_X11_isCrossing (s : XS) (a1 : Int) : XR := g1b_X11_isCrossing s a1
set_option maxHeartbeats 4000000 in
set_option maxRecDepth 100000 in
theorem c_X11_isCrossing (l : Launch) (G : GG) (Z : RZ) (ad : Nat → Nat) (ws0 : va_W) (hT : Ty G SC ad ws0) (a1 : Int32) : Mq l yX11_isCrossing cX11_isCrossing 2 (some .boolean) 2 G Z [.ref (ad 0), .int a1] ws0 (PI G SC ad [] ws0 (fun r u => (xso SC ad u = (f_X11_isCrossing (xso SC ad ws0) a1.toInt).1) ∧ (r.toInt = (f_X11_isCrossing (xso SC ad ws0) a1.toInt).2) ∧ (0 ≤ r.toInt) ∧ (r.toInt ≤ 1) ∧ ((r.toInt = 0 ∨ (0 ≤ a1.toInt ∧ a1.toInt ≤ 24))))) := by
  refine Mq.start (by decide) (Nat.le_of_ble_eq_true rfl) ?_
  intro p e s m below meth c A ls C0 hZ h hl
  have hl : lv_has ls 2 [(0, .ref (ad 0)), (1, .int a1)] := hl
  have h : Wt G SC ad A s s.heap [] ws0 := ⟨h, hT⟩
  obtain ⟨args, hargs⟩ : ∃ z, z = ([.ref (ad 0), .int a1] : List Value).toArray := ⟨_, rfl⟩
  rw [← hargs] at C0 ⊢
  have C0 : Cx p s m args meth c RX11 cX11_isCrossing 2 (some .boolean) := C0
  obtain ⟨Q, hQ⟩ : ∃ z, z = MQ below ((PI G SC ad [] ws0 (fun r u => (xso SC ad u = (f_X11_isCrossing (xso SC ad ws0) a1.toInt).1) ∧ (r.toInt = (f_X11_isCrossing (xso SC ad ws0) a1.toInt).2) ∧ (0 ≤ r.toInt) ∧ (r.toInt ≤ 1) ∧ ((r.toInt = 0 ∨ (0 ≤ a1.toInt ∧ a1.toInt ≤ 24))))) A) args s 0 0 A := ⟨_, rfl⟩
  rw [← hQ]
  obtain ⟨FT, hFT⟩ : ∃ z, z = f_X11_isCrossing (xso SC ad ws0) a1.toInt := ⟨_, rfl⟩
  have HE : FT = f_X11_isCrossing (xso SC ad ws0) a1.toInt := hFT
  refine lv_iload_n C0.1 C0.2.1 dX11_isCrossing_0 rfl (lv_at hl 1 rfl) ?_
  replace HE : FT = g1b_X11_isCrossing (xso SC ad ws0) a1.toInt := HE.trans rfl
  refine y_if_lt (tgt := 19) C0 dX11_isCrossing_1 (by decide) (fun c_1 => ?_) (fun c_1 => ?_)
  · -- 1
    replace HE : FT = g2_X11_isCrossing (xso SC ad ws0) := HE.trans (if_pos c_1)
    refine y_c1 (n := 0) C0 (by decide) dX11_isCrossing_19 (fun v_2 e_3 => ?_)
    replace HE : FT = ((xso SC ad ws0), v_2.toInt) := HE.trans (by rw [e_3]; rfl)
    rw [hQ]
    exact y_zret C0 h (o26_1 e_3) (o26_2 e_3) Fr.rf ⟨(congrArg Prod.fst (HE.symm.trans hFT)), (congrArg Prod.snd (HE.symm.trans hFT)), (o26_1 e_3), (o26_2 e_3), (o26_8 c_1 e_3)⟩ dX11_isCrossing_20
  · -- 1
    replace HE : FT = g3_X11_isCrossing (xso SC ad ws0) a1.toInt := HE.trans (if_neg (Int.not_lt.mpr c_1))
    refine lv_iload_n C0.1 C0.2.1 dX11_isCrossing_4 rfl (lv_at hl 1 rfl) ?_
    refine lv_aload_n C0.1 C0.2.1 dX11_isCrossing_5 rfl (lv_at hl 0 rfl) ?_
    refine tg_X11_now C0 h kSC_0 q_515 dX11_isCrossing_6 ?_
    refine y_ci h (y_rV (As := []) (rest := [.int a1]) C0 hZ h (c_X0_crossings l G Z ad _ h.2 1 kSC_1) k_X0_crossings q_918 q_919 q_917 kSC_1 rfl rfl rfl hl.1 rfl rfl (Nat.le_of_ble_eq_true rfl) dX11_isCrossing_9 ⟨Nat.le_of_ble_eq_true rfl, Nat.le_of_ble_eq_true rfl⟩ ⟨Nat.le_of_ble_eq_true rfl, Nat.le_of_ble_eq_true rfl⟩) (fun r_7 H locs ws_4 h u_5 p_6 => ?_)
    obtain ⟨e_8, e_9, e_10, e_11⟩ := p_6
    replace HE : FT = g4c_X11_isCrossing (xso SC ad ws_4) r_7.toInt a1.toInt := HE.trans (by rw [e_8, e_9]; rfl)
    replace HE : FT = g5b_X11_isCrossing (xso SC ad ws_4) r_7.toInt a1.toInt := HE.trans rfl
    refine y_icmp_ge (tgt := 19) C0 dX11_isCrossing_12 (by decide) (fun c_12 => ?_) (fun c_12 => ?_)
    · -- 12
      replace HE : FT = g6_X11_isCrossing (xso SC ad ws_4) := HE.trans (if_neg (Int.not_lt.mpr c_12))
      refine y_c1 (n := 0) C0 (by decide) dX11_isCrossing_19 (fun v_13 e_14 => ?_)
      replace HE : FT = ((xso SC ad ws_4), v_13.toInt) := HE.trans (by rw [e_14]; rfl)
      rw [hQ]
      exact y_zret C0 h (o26_1 e_14) (o26_2 e_14) u_5 ⟨(congrArg Prod.fst (HE.symm.trans hFT)), (congrArg Prod.snd (HE.symm.trans hFT)), (o26_1 e_14), (o26_2 e_14), (o26_9 c_1 e_10 e_11 c_12 e_14)⟩ dX11_isCrossing_20
    · -- 12
      replace HE : FT = g7_X11_isCrossing (xso SC ad ws_4) := HE.trans (if_pos c_12)
      refine y_c1 (n := 1) C0 (by decide) dX11_isCrossing_15 (fun v_15 e_16 => ?_)
      refine lv_goto (tgt := 20) C0.1 C0.2.1 dX11_isCrossing_16 (by decide) ?_
      replace HE : FT = ((xso SC ad ws_4), v_15.toInt) := HE.trans (by rw [e_16]; rfl)
      rw [hQ]
      exact y_zret C0 h (o26_5 e_16) (o26_6 e_16) u_5 ⟨(congrArg Prod.fst (HE.symm.trans hFT)), (congrArg Prod.snd (HE.symm.trans hFT)), (o26_5 e_16), (o26_6 e_16), (o26_10 c_1 e_10 e_11 c_12 e_16)⟩ dX11_isCrossing_20
noncomputable def g3_X11_isStand (s : XS) : XR := (s, 0)
noncomputable def g6_X11_isStand (s : XS) : XR := (s, 0)
noncomputable def g9_X11_isStand (s : XS) : XR := (s, 0)
noncomputable def g10_X11_isStand (s : XS) : XR := (s, 1)
noncomputable def g8b_X11_isStand (s : XS) (a2 : Int) : XR := if a2 < 4 then g10_X11_isStand s else g9_X11_isStand s
noncomputable def g7_X11_isStand (s : XS) (a2 : Int) : XR := g8b_X11_isStand s a2
noncomputable def g5b_X11_isStand (s : XS) (a2 : Int) : XR := if a2 < 0 then g6_X11_isStand s else g7_X11_isStand s a2
noncomputable def g4_X11_isStand (s : XS) (a2 : Int) : XR := g5b_X11_isStand s a2
noncomputable def g2b_X11_isStand (s : XS) (r_4 : Int) (a2 : Int) : XR := if r_4 = 0 then g3_X11_isStand s else g4_X11_isStand s a2
noncomputable def g1c_X11_isStand (s : XS) (r_4 : Int) (a2 : Int) : XR := g2b_X11_isStand s r_4 a2
noncomputable def f_X11_isStand (s : XS) (a1 : Int) (a2 : Int) : XR := g1c_X11_isStand ((f_X11_isCrossing s a1).1) (((f_X11_isCrossing s a1).2)) a2
set_option maxHeartbeats 4000000 in
set_option maxRecDepth 100000 in
theorem c_X11_isStand (l : Launch) (G : GG) (Z : RZ) (ad : Nat → Nat) (ws0 : va_W) (hT : Ty G SC ad ws0) (a1 : Int32) (a2 : Int32) : Mq l yX11_isStand cX11_isStand 3 (some .boolean) 3 G Z [.ref (ad 0), .int a1, .int a2] ws0 (PI G SC ad [] ws0 (fun r u => (xso SC ad u = (f_X11_isStand (xso SC ad ws0) a1.toInt a2.toInt).1) ∧ (r.toInt = (f_X11_isStand (xso SC ad ws0) a1.toInt a2.toInt).2) ∧ (0 ≤ r.toInt) ∧ (r.toInt ≤ 1) ∧ ((r.toInt = 0 ∨ (0 ≤ a1.toInt ∧ a1.toInt ≤ 24 ∧ 0 ≤ a2.toInt ∧ a2.toInt ≤ 3))))) := by
  refine Mq.start (by decide) (Nat.le_of_ble_eq_true rfl) ?_
  intro p e s m below meth c A ls C0 hZ h hl
  have hl : lv_has ls 3 [(0, .ref (ad 0)), (1, .int a1), (2, .int a2)] := hl
  have h : Wt G SC ad A s s.heap [] ws0 := ⟨h, hT⟩
  obtain ⟨args, hargs⟩ : ∃ z, z = ([.ref (ad 0), .int a1, .int a2] : List Value).toArray := ⟨_, rfl⟩
  rw [← hargs] at C0 ⊢
  have C0 : Cx p s m args meth c RX11 cX11_isStand 3 (some .boolean) := C0
  obtain ⟨Q, hQ⟩ : ∃ z, z = MQ below ((PI G SC ad [] ws0 (fun r u => (xso SC ad u = (f_X11_isStand (xso SC ad ws0) a1.toInt a2.toInt).1) ∧ (r.toInt = (f_X11_isStand (xso SC ad ws0) a1.toInt a2.toInt).2) ∧ (0 ≤ r.toInt) ∧ (r.toInt ≤ 1) ∧ ((r.toInt = 0 ∨ (0 ≤ a1.toInt ∧ a1.toInt ≤ 24 ∧ 0 ≤ a2.toInt ∧ a2.toInt ≤ 3))))) A) args s 0 0 A := ⟨_, rfl⟩
  rw [← hQ]
  obtain ⟨FT, hFT⟩ : ∃ z, z = f_X11_isStand (xso SC ad ws0) a1.toInt a2.toInt := ⟨_, rfl⟩
  have HE : FT = f_X11_isStand (xso SC ad ws0) a1.toInt a2.toInt := hFT
  refine lv_aload_n C0.1 C0.2.1 dX11_isStand_0 rfl (lv_at hl 0 rfl) ?_
  refine lv_iload_n C0.1 C0.2.1 dX11_isStand_1 rfl (lv_at hl 1 rfl) ?_
  refine y_ci h (y_rV (As := [.int a1]) (rest := []) C0 hZ h (c_X11_isCrossing l G Z ad _ h.2 a1) k_X11_isCrossing q_915 q_25 q_913 kSC_0 rfl rfl rfl hl.1 rfl rfl (Nat.le_of_ble_eq_true rfl) dX11_isStand_2 ⟨Nat.le_of_ble_eq_true rfl, Nat.le_of_ble_eq_true rfl⟩ ⟨Nat.le_of_ble_eq_true rfl, Nat.le_of_ble_eq_true rfl⟩) (fun r_4 H locs ws_1 h u_2 p_3 => ?_)
  obtain ⟨e_5, e_6, e_7, e_8, e_9⟩ := p_3
  replace HE : FT = g1c_X11_isStand (xso SC ad ws_1) r_4.toInt a2.toInt := HE.trans (by rw [e_5, e_6]; rfl)
  replace HE : FT = g2b_X11_isStand (xso SC ad ws_1) r_4.toInt a2.toInt := HE.trans rfl
  refine y_if_eq (tgt := 21) C0 dX11_isStand_5 (by decide) (fun c_10 => ?_) (fun c_10 => ?_)
  · -- 5
    replace HE : FT = g3_X11_isStand (xso SC ad ws_1) := HE.trans (if_pos c_10)
    refine y_c1 (n := 0) C0 (by decide) dX11_isStand_21 (fun v_11 e_12 => ?_)
    replace HE : FT = ((xso SC ad ws_1), v_11.toInt) := HE.trans (by rw [e_12]; rfl)
    rw [hQ]
    exact y_zret C0 h (o26_1 e_12) (o26_2 e_12) u_2 ⟨(congrArg Prod.fst (HE.symm.trans hFT)), (congrArg Prod.snd (HE.symm.trans hFT)), (o26_1 e_12), (o26_2 e_12), (o26_11 e_7 e_8 e_9 c_10 e_12)⟩ dX11_isStand_22
  · -- 5
    replace HE : FT = g4_X11_isStand (xso SC ad ws_1) a2.toInt := HE.trans (if_neg c_10)
    refine lv_iload_n C0.1 C0.2.1 dX11_isStand_8 rfl (lv_at hl 2 rfl) ?_
    replace HE : FT = g5b_X11_isStand (xso SC ad ws_1) a2.toInt := HE.trans rfl
    refine y_if_lt (tgt := 21) C0 dX11_isStand_9 (by decide) (fun c_13 => ?_) (fun c_13 => ?_)
    · -- 9
      replace HE : FT = g6_X11_isStand (xso SC ad ws_1) := HE.trans (if_pos c_13)
      refine y_c1 (n := 0) C0 (by decide) dX11_isStand_21 (fun v_14 e_15 => ?_)
      replace HE : FT = ((xso SC ad ws_1), v_14.toInt) := HE.trans (by rw [e_15]; rfl)
      rw [hQ]
      exact y_zret C0 h (o26_1 e_15) (o26_2 e_15) u_2 ⟨(congrArg Prod.fst (HE.symm.trans hFT)), (congrArg Prod.snd (HE.symm.trans hFT)), (o26_1 e_15), (o26_2 e_15), (o26_12 e_7 e_8 e_9 c_10 c_13 e_15)⟩ dX11_isStand_22
    · -- 9
      replace HE : FT = g7_X11_isStand (xso SC ad ws_1) a2.toInt := HE.trans (if_neg (Int.not_lt.mpr c_13))
      refine lv_iload_n C0.1 C0.2.1 dX11_isStand_12 rfl (lv_at hl 2 rfl) ?_
      refine y_c1 (n := 4) C0 (by decide) dX11_isStand_13 (fun v_16 e_17 => ?_)
      replace HE : FT = g8b_X11_isStand (xso SC ad ws_1) a2.toInt := HE.trans rfl
      refine y_icmp_ge (tgt := 21) C0 dX11_isStand_14 (by decide) (fun c_18 => ?_) (fun c_18 => ?_)
      · -- 14
        replace HE : FT = g9_X11_isStand (xso SC ad ws_1) := HE.trans (if_neg (o26_14 c_13 e_17 c_18))
        refine y_c1 (n := 0) C0 (by decide) dX11_isStand_21 (fun v_19 e_20 => ?_)
        replace HE : FT = ((xso SC ad ws_1), v_19.toInt) := HE.trans (by rw [e_20]; rfl)
        rw [hQ]
        exact y_zret C0 h (o26_1 e_20) (o26_2 e_20) u_2 ⟨(congrArg Prod.fst (HE.symm.trans hFT)), (congrArg Prod.snd (HE.symm.trans hFT)), (o26_1 e_20), (o26_2 e_20), (o26_16 e_7 e_8 e_9 c_10 c_13 e_17 c_18 e_20)⟩ dX11_isStand_22
      · -- 14
        replace HE : FT = g10_X11_isStand (xso SC ad ws_1) := HE.trans (if_pos (o26_15 c_13 e_17 c_18))
        refine y_c1 (n := 1) C0 (by decide) dX11_isStand_17 (fun v_21 e_22 => ?_)
        refine lv_goto (tgt := 22) C0.1 C0.2.1 dX11_isStand_18 (by decide) ?_
        replace HE : FT = ((xso SC ad ws_1), v_21.toInt) := HE.trans (by rw [e_22]; rfl)
        rw [hQ]
        exact y_zret C0 h (o26_5 e_22) (o26_6 e_22) u_2 ⟨(congrArg Prod.fst (HE.symm.trans hFT)), (congrArg Prod.snd (HE.symm.trans hFT)), (o26_5 e_22), (o26_6 e_22), (o26_17 e_7 e_8 e_9 c_10 c_13 e_17 c_18 e_22)⟩ dX11_isStand_22
noncomputable def g2_X11_isTray (s : XS) : XR := (s, 0)
noncomputable def g5_X11_isTray (s : XS) : XR := (s, 0)
noncomputable def g6_X11_isTray (s : XS) : XR := (s, 1)
noncomputable def g4b_X11_isTray (s : XS) (a0 : Int) : XR := if a0 < 4 then g6_X11_isTray s else g5_X11_isTray s
noncomputable def g3_X11_isTray (s : XS) (a0 : Int) : XR := g4b_X11_isTray s a0
noncomputable def g1b_X11_isTray (s : XS) (a0 : Int) : XR := if a0 < 0 then g2_X11_isTray s else g3_X11_isTray s a0
noncomputable def f_X11_isTray (s : XS) (a0 : Int) : XR := g1b_X11_isTray s a0
set_option maxHeartbeats 4000000 in
set_option maxRecDepth 100000 in
theorem c_X11_isTray (l : Launch) (G : GG) (Z : RZ) (ad : Nat → Nat) (ws0 : va_W) (hT : Ty G SC ad ws0) (a0 : Int32) : Mq l yX11_isTray cX11_isTray 1 (some .boolean) 1 G Z [.int a0] ws0 (PI G SC ad [] ws0 (fun r u => (xso SC ad u = (f_X11_isTray (xso SC ad ws0) a0.toInt).1) ∧ (r.toInt = (f_X11_isTray (xso SC ad ws0) a0.toInt).2) ∧ (0 ≤ r.toInt) ∧ (r.toInt ≤ 1) ∧ (((r.toInt = 0 ∧ (a0.toInt < 0 ∨ 3 < a0.toInt)) ∨ (r.toInt = 1 ∧ 0 ≤ a0.toInt ∧ a0.toInt ≤ 3))))) := by
  refine Mq.start (by decide) (Nat.le_of_ble_eq_true rfl) ?_
  intro p e s m below meth c A ls C0 hZ h hl
  have hl : lv_has ls 1 [(0, .int a0)] := hl
  have h : Wt G SC ad A s s.heap [] ws0 := ⟨h, hT⟩
  obtain ⟨args, hargs⟩ : ∃ z, z = ([.int a0] : List Value).toArray := ⟨_, rfl⟩
  rw [← hargs] at C0 ⊢
  have C0 : Cx p s m args meth c RX11 cX11_isTray 1 (some .boolean) := C0
  obtain ⟨Q, hQ⟩ : ∃ z, z = MQ below ((PI G SC ad [] ws0 (fun r u => (xso SC ad u = (f_X11_isTray (xso SC ad ws0) a0.toInt).1) ∧ (r.toInt = (f_X11_isTray (xso SC ad ws0) a0.toInt).2) ∧ (0 ≤ r.toInt) ∧ (r.toInt ≤ 1) ∧ (((r.toInt = 0 ∧ (a0.toInt < 0 ∨ 3 < a0.toInt)) ∨ (r.toInt = 1 ∧ 0 ≤ a0.toInt ∧ a0.toInt ≤ 3))))) A) args s 0 0 A := ⟨_, rfl⟩
  rw [← hQ]
  obtain ⟨FT, hFT⟩ : ∃ z, z = f_X11_isTray (xso SC ad ws0) a0.toInt := ⟨_, rfl⟩
  have HE : FT = f_X11_isTray (xso SC ad ws0) a0.toInt := hFT
  refine lv_iload_n C0.1 C0.2.1 dX11_isTray_0 rfl (lv_at hl 0 rfl) ?_
  replace HE : FT = g1b_X11_isTray (xso SC ad ws0) a0.toInt := HE.trans rfl
  refine y_if_lt (tgt := 13) C0 dX11_isTray_1 (by decide) (fun c_1 => ?_) (fun c_1 => ?_)
  · -- 1
    replace HE : FT = g2_X11_isTray (xso SC ad ws0) := HE.trans (if_pos c_1)
    refine y_c1 (n := 0) C0 (by decide) dX11_isTray_13 (fun v_2 e_3 => ?_)
    replace HE : FT = ((xso SC ad ws0), v_2.toInt) := HE.trans (by rw [e_3]; rfl)
    rw [hQ]
    exact y_zret C0 h (o26_1 e_3) (o26_2 e_3) Fr.rf ⟨(congrArg Prod.fst (HE.symm.trans hFT)), (congrArg Prod.snd (HE.symm.trans hFT)), (o26_1 e_3), (o26_2 e_3), (o26_18 c_1 e_3)⟩ dX11_isTray_14
  · -- 1
    replace HE : FT = g3_X11_isTray (xso SC ad ws0) a0.toInt := HE.trans (if_neg (Int.not_lt.mpr c_1))
    refine lv_iload_n C0.1 C0.2.1 dX11_isTray_4 rfl (lv_at hl 0 rfl) ?_
    refine y_c1 (n := 4) C0 (by decide) dX11_isTray_5 (fun v_4 e_5 => ?_)
    replace HE : FT = g4b_X11_isTray (xso SC ad ws0) a0.toInt := HE.trans rfl
    refine y_icmp_ge (tgt := 13) C0 dX11_isTray_6 (by decide) (fun c_6 => ?_) (fun c_6 => ?_)
    · -- 6
      replace HE : FT = g5_X11_isTray (xso SC ad ws0) := HE.trans (if_neg (o26_14 c_1 e_5 c_6))
      refine y_c1 (n := 0) C0 (by decide) dX11_isTray_13 (fun v_7 e_8 => ?_)
      replace HE : FT = ((xso SC ad ws0), v_7.toInt) := HE.trans (by rw [e_8]; rfl)
      rw [hQ]
      exact y_zret C0 h (o26_1 e_8) (o26_2 e_8) Fr.rf ⟨(congrArg Prod.fst (HE.symm.trans hFT)), (congrArg Prod.snd (HE.symm.trans hFT)), (o26_1 e_8), (o26_2 e_8), (o26_19 c_1 e_5 c_6 e_8)⟩ dX11_isTray_14
    · -- 6
      replace HE : FT = g6_X11_isTray (xso SC ad ws0) := HE.trans (if_pos (o26_15 c_1 e_5 c_6))
      refine y_c1 (n := 1) C0 (by decide) dX11_isTray_9 (fun v_9 e_10 => ?_)
      refine lv_goto (tgt := 14) C0.1 C0.2.1 dX11_isTray_10 (by decide) ?_
      replace HE : FT = ((xso SC ad ws0), v_9.toInt) := HE.trans (by rw [e_10]; rfl)
      rw [hQ]
      exact y_zret C0 h (o26_5 e_10) (o26_6 e_10) Fr.rf ⟨(congrArg Prod.fst (HE.symm.trans hFT)), (congrArg Prod.snd (HE.symm.trans hFT)), (o26_5 e_10), (o26_6 e_10), (o26_20 c_1 e_5 c_6 e_10)⟩ dX11_isTray_14
noncomputable def g3c_X11_startAnew (s : XS) : XR := (s, 0)
noncomputable def g2c_X11_startAnew (s : XS) : XR := g3c_X11_startAnew ((f_X3_forget s).1)
noncomputable def g1w_X11_startAnew (s : XS) : XR := g2c_X11_startAnew ((f_X2_forget s).1)
noncomputable def f_X11_startAnew (s : XS) : XR := g1w_X11_startAnew (xup s 0 0 17 0)
set_option maxHeartbeats 4000000 in
set_option maxRecDepth 100000 in
theorem c_X11_startAnew (l : Launch) (G : GG) (Z : RZ) (ad : Nat → Nat) (ws0 : va_W) (hT : Ty G SC ad ws0) (hH : Hok ws0) : Mq l yX11_startAnew cX11_startAnew 1 none 2 G Z [.ref (ad 0)] ws0 (PV G SC ad [0, 18, 39] ws0 (fun u => (xso SC ad u = (f_X11_startAnew (xso SC ad ws0)).1) ∧ (Hok u))) := by
  refine Mq.start (by decide) (Nat.le_of_ble_eq_true rfl) ?_
  intro p e s m below meth c A ls C0 hZ h hl
  have hl : lv_has ls 1 [(0, .ref (ad 0))] := hl
  have h : Wt G SC ad A s s.heap [] ws0 := ⟨h, hT⟩
  obtain ⟨args, hargs⟩ : ∃ z, z = ([.ref (ad 0)] : List Value).toArray := ⟨_, rfl⟩
  rw [← hargs] at C0 ⊢
  have C0 : Cx p s m args meth c RX11 cX11_startAnew 1 none := C0
  obtain ⟨Q, hQ⟩ : ∃ z, z = MQ below ((PV G SC ad [0, 18, 39] ws0 (fun u => (xso SC ad u = (f_X11_startAnew (xso SC ad ws0)).1) ∧ (Hok u))) A) args s 0 0 A := ⟨_, rfl⟩
  rw [← hQ]
  obtain ⟨FT, hFT⟩ : ∃ z, z = f_X11_startAnew (xso SC ad ws0) := ⟨_, rfl⟩
  have HE : FT = f_X11_startAnew (xso SC ad ws0) := hFT
  refine lv_aload_n C0.1 C0.2.1 dX11_startAnew_0 rfl (lv_at hl 0 rfl) ?_
  refine y_c1 (n := 0) C0 (by decide) dX11_startAnew_1 (fun v_1 e_2 => ?_)
  refine tp_X11_pastSize C0 h kSC_0 q_532 (o26_1 e_2) (o26_21 e_2) dX11_startAnew_2 (fun H locs ws_3 h u_4 Xu_4 => ?_)
  replace HE : FT = g1w_X11_startAnew (xso SC ad ws_3) := HE.trans (by rw [Xu_4, e_2]; rfl)
  refine lv_aload_n C0.1 C0.2.1 dX11_startAnew_5 rfl (lv_at hl 0 rfl) ?_
  refine tg_X11_forecast C0 h kSC_0 q_518 dX11_startAnew_6 ?_
  refine y_cv h (y_rV (As := []) (rest := []) C0 hZ h (c_X2_forget l G Z ad _ h.2) k_X2_forget q_878 q_879 q_877 kSC_79 rfl rfl rfl hl.1 rfl rfl (Nat.le_of_ble_eq_true rfl) dX11_startAnew_9 ⟨Nat.le_of_ble_eq_true rfl, Nat.le_of_ble_eq_true rfl⟩ ⟨Nat.le_of_ble_eq_true rfl, Nat.le_of_ble_eq_true rfl⟩) (fun H locs ws_5 h u_6 p_7 => ?_)
  have e_8 := p_7
  replace HE : FT = g2c_X11_startAnew (xso SC ad ws_5) := HE.trans (by rw [e_8]; rfl)
  refine lv_aload_n C0.1 C0.2.1 dX11_startAnew_12 rfl (lv_at hl 0 rfl) ?_
  refine tg_X11_hunt C0 h kSC_0 q_523 dX11_startAnew_13 ?_
  refine y_cv h (y_rV (As := []) (rest := []) C0 hZ h (c_X3_forget l G Z ad _ h.2) k_X3_forget q_882 q_883 q_881 kSC_104 rfl rfl rfl hl.1 rfl rfl (Nat.le_of_ble_eq_true rfl) dX11_startAnew_16 ⟨Nat.le_of_ble_eq_true rfl, Nat.le_of_ble_eq_true rfl⟩ ⟨Nat.le_of_ble_eq_true rfl, Nat.le_of_ble_eq_true rfl⟩) (fun H locs ws_9 h u_10 p_11 => ?_)
  obtain ⟨e_12, e_13⟩ := p_11
  replace HE : FT = g3c_X11_startAnew (xso SC ad ws_9) := HE.trans (by rw [e_12]; rfl)
  replace HE : FT = ((xso SC ad ws_9), 0) := HE.trans rfl
  rw [hQ]
  exact y_vret C0 h (Fr.tr (Fr.tr (Fr.up u_4.1 kSC_0 (by decide)) (Fr.mono u_6 (by decide))) (Fr.mono u_10 (by decide))) ⟨(congrArg Prod.fst (HE.symm.trans hFT)), e_13⟩ dX11_startAnew_19
noncomputable def g5w_X11_keep (s : XS) : XR := (s, 0)
noncomputable def g4c_X11_keep (s : XS) : XR := g5w_X11_keep (xup s 0 0 17 ((s 0 0 17) + 1))
noncomputable def g2_X11_keep (s : XS) (i1 : Nat) : XR := g4c_X11_keep ((f_X1_copy s (119 + 8 * Int.toNat (((s 0 0 16) + (s 0 0 17)) % 10)) i1).1)
noncomputable def g9w_X11_keep (s : XS) : XR := (s, 0)
noncomputable def g8c_X11_keep (s : XS) : XR := g9w_X11_keep (xup s 0 0 17 ((s 0 0 17) + 1))
noncomputable def g7w_X11_keep (s : XS) (i1 : Nat) : XR := g8c_X11_keep ((f_X1_copy s (119 + 8 * Int.toNat (((s 0 0 16) + (s 0 0 17)) % 10)) i1).1)
noncomputable def g6w_X11_keep (s : XS) (i1 : Nat) : XR := g7w_X11_keep (xup s 0 0 17 ((s 0 0 17) - 1)) i1
noncomputable def g3_X11_keep (s : XS) (i1 : Nat) : XR := g6w_X11_keep (xup s 0 0 16 (((s 0 0 16) + 1) % 10)) i1
noncomputable def g1b_X11_keep (s : XS) (v_1 : Int) (i1 : Nat) : XR := if v_1 = 10 then g3_X11_keep s i1 else g2_X11_keep s i1
noncomputable def f_X11_keep (s : XS) (i1 : Nat) : XR := g1b_X11_keep s ((s 0 0 17)) i1
set_option maxHeartbeats 4000000 in
set_option maxRecDepth 100000 in
theorem c_X11_keep (l : Launch) (G : GG) (Z : RZ) (ad : Nat → Nat) (ws0 : va_W) (hT : Ty G SC ad ws0) (i1 : Nat) (hi1 : Kd SC i1 6) : Mq l yX11_keep cX11_keep 2 none 2 G Z [.ref (ad 0), .ref (ad i1)] ws0 (PV G SC ad [0, 6, 7, 8, 9, 10, 11, 12, 13] ws0 (fun u => (xso SC ad u = (f_X11_keep (xso SC ad ws0) i1).1) ∧ (∀ j, 1 ≤ j → j < 119 → u[j]? = ws0[j]?))) := by
  refine Mq.start (by decide) (Nat.le_of_ble_eq_true rfl) ?_
  intro p e s m below meth c A ls C0 hZ h hl
  have hl : lv_has ls 2 [(0, .ref (ad 0)), (1, .ref (ad i1))] := hl
  have h : Wt G SC ad A s s.heap [] ws0 := ⟨h, hT⟩
  obtain ⟨args, hargs⟩ : ∃ z, z = ([.ref (ad 0), .ref (ad i1)] : List Value).toArray := ⟨_, rfl⟩
  rw [← hargs] at C0 ⊢
  have C0 : Cx p s m args meth c RX11 cX11_keep 2 none := C0
  obtain ⟨Q, hQ⟩ : ∃ z, z = MQ below ((PV G SC ad [0, 6, 7, 8, 9, 10, 11, 12, 13] ws0 (fun u => (xso SC ad u = (f_X11_keep (xso SC ad ws0) i1).1) ∧ (∀ j, 1 ≤ j → j < 119 → u[j]? = ws0[j]?))) A) args s 0 0 A := ⟨_, rfl⟩
  rw [← hQ]
  obtain ⟨FT, hFT⟩ : ∃ z, z = f_X11_keep (xso SC ad ws0) i1 := ⟨_, rfl⟩
  have HE : FT = f_X11_keep (xso SC ad ws0) i1 := hFT
  refine lv_aload_n C0.1 C0.2.1 dX11_keep_0 rfl (lv_at hl 0 rfl) ?_
  refine tg_X11_pastSize C0 h kSC_0 q_532 dX11_keep_1 (fun v_1 e_2 e_3 e_4 => ?_)
  refine y_c2 (n := 10) C0 (by decide) dX11_keep_4 (fun v_5 e_6 => ?_)
  replace HE : FT = g1b_X11_keep (xso SC ad ws0) v_1.toInt i1 := HE.trans (by rw [(xg0 e_2 : v_1.toInt = (xso SC ad ws0) 0 0 17)]; rfl)
  refine y_icmp_ne (tgt := 32) C0 dX11_keep_6 (by decide) (fun c_7 => ?_) (fun c_7 => ?_)
  · -- 6
    replace HE : FT = g2_X11_keep (xso SC ad ws0) i1 := HE.trans (if_neg (o26_23 e_3 e_4 e_6 c_7))
    refine lv_aload_n C0.1 C0.2.1 dX11_keep_32 rfl (lv_at hl 0 rfl) ?_
    refine tg_X11_past C0 h kSC_0 q_527 dX11_keep_33 ?_
    refine lv_aload_n C0.1 C0.2.1 dX11_keep_36 rfl (lv_at hl 0 rfl) ?_
    refine tg_X11_pastFirst C0 h kSC_0 q_531 dX11_keep_37 (fun v_8 e_9 e_10 e_11 => ?_)
    refine lv_aload_n C0.1 C0.2.1 dX11_keep_40 rfl (lv_at hl 0 rfl) ?_
    refine tg_X11_pastSize C0 h kSC_0 q_532 dX11_keep_41 (fun v_12 e_13 e_14 e_15 => ?_)
    have qh_16 : v_12.toInt = v_1.toInt := congrArg Int32.toInt (e_13.symm.trans (Eq.trans rfl e_2))
    refine y_add C0 (o26_25 e_3 e_4 e_6 c_7 e_10 e_11 e_14 e_15 qh_16 (le_min v_8) (le_max v_8) (le_min v_12) (le_max v_12) (le_min v_1) (le_max v_1) (le_min v_5) (le_max v_5)) (o26_26 e_3 e_4 e_6 c_7 e_10 e_11 e_14 e_15 qh_16 (le_min v_8) (le_max v_8) (le_min v_12) (le_max v_12) (le_min v_1) (le_max v_1) (le_min v_5) (le_max v_5)) dX11_keep_44 (fun v_17 e_18 => ?_)
    refine y_c2 (n := 10) C0 (by decide) dX11_keep_45 (fun v_19 e_20 => ?_)
    refine y_remc (n := 10) C0 (o26_22 e_20) (by decide) (o26_27 e_3 e_4 e_6 c_7 e_10 e_11 e_14 e_15 qh_16 e_18) dX11_keep_47 (fun v_21 e_22 => ?_)
    refine y_aald C0 h kSC_118 rfl rfl (by decide) (o26_28 e_3 e_4 e_6 c_7 e_10 e_11 e_14 e_15 qh_16 e_18 e_22) (o26_29 e_3 e_4 e_6 c_7 e_10 e_11 e_14 e_15 qh_16 e_18 e_22) dX11_keep_48 ?_
    obtain ⟨i_23, hi_23, ei_23⟩ : ∃ j : Nat, Kd SC j 6 ∧ j = 119 + 8 * v_21.toInt.toNat := ⟨_, aSC_47 (o26_30 e_3 e_4 e_6 c_7 e_10 e_11 e_14 e_15 qh_16 e_18 e_22), rfl⟩
    rw [← ei_23]
    refine lv_aload_n C0.1 C0.2.1 dX11_keep_49 rfl (lv_at hl 1 rfl) ?_
    refine y_cv h (y_rV (As := [.ref (ad i1)]) (rest := []) C0 hZ h (c_X1_copy l G Z ad _ h.2 i_23 hi_23 i1 hi1) k_X1_copy q_868 q_869 q_987 hi_23 rfl rfl rfl hl.1 rfl rfl (Nat.le_of_ble_eq_true rfl) dX11_keep_50 ⟨Nat.le_of_ble_eq_true rfl, Nat.le_of_ble_eq_true rfl⟩ ⟨Nat.le_of_ble_eq_true rfl, Nat.le_of_ble_eq_true rfl⟩) (fun H locs ws_24 h u_25 p_26 => ?_)
    obtain ⟨e_27, e_28⟩ := p_26
    replace HE : FT = g4c_X11_keep (xso SC ad ws_24) := HE.trans (by rw [e_27, ei_23, e_22, e_18, (xg0 e_13 : v_12.toInt = (xso SC ad ws0) 0 0 17), (xg0 e_9 : v_8.toInt = (xso SC ad ws0) 0 0 16)]; rfl)
    refine lv_aload_n C0.1 C0.2.1 dX11_keep_53 rfl (lv_at hl 0 rfl) ?_
    refine lv_dup C0.1 C0.2.1 dX11_keep_54 rfl ?_
    refine tg_X11_pastSize C0 h kSC_0 q_532 dX11_keep_55 (fun v_29 e_30 e_31 e_32 => ?_)
    have qh_33 : v_29.toInt = v_1.toInt := congrArg Int32.toInt (e_30.symm.trans (Eq.trans (Fr.fI u_25 kSC_0 (by decide)) e_2))
    refine y_c1 (n := 1) C0 (by decide) dX11_keep_58 (fun v_34 e_35 => ?_)
    refine y_add C0 (o26_31 e_3 e_4 e_6 c_7 e_10 e_11 e_14 e_15 qh_16 e_18 e_22 e_31 e_32 qh_33 e_35 (le_min v_29) (le_max v_29) (le_min v_34) (le_max v_34) (le_min v_1) (le_max v_1) (le_min v_5) (le_max v_5) (le_min v_8) (le_max v_8) (le_min v_12) (le_max v_12) (le_min v_17) (le_max v_17) (le_min v_21) (le_max v_21)) (o26_32 e_3 e_4 e_6 c_7 e_10 e_11 e_14 e_15 qh_16 e_18 e_22 e_31 e_32 qh_33 e_35 (le_min v_29) (le_max v_29) (le_min v_34) (le_max v_34) (le_min v_1) (le_max v_1) (le_min v_5) (le_max v_5) (le_min v_8) (le_max v_8) (le_min v_12) (le_max v_12) (le_min v_17) (le_max v_17) (le_min v_21) (le_max v_21)) dX11_keep_59 (fun v_36 e_37 => ?_)
    refine tp_X11_pastSize C0 h kSC_0 q_532 (o26_33 e_3 e_4 e_6 c_7 e_10 e_11 e_14 e_15 qh_16 e_18 e_22 e_31 e_32 qh_33 e_35 e_37) (o26_34 e_3 e_4 e_6 c_7 e_10 e_11 e_14 e_15 qh_16 e_18 e_22 e_31 e_32 qh_33 e_35 e_37) dX11_keep_60 (fun H locs ws_38 h u_39 Xu_39 => ?_)
    replace HE : FT = g5w_X11_keep (xso SC ad ws_38) := HE.trans (by rw [Xu_39, e_37, e_35, (xg0 e_30 : v_29.toInt = (xso SC ad ws_24) 0 0 17)]; rfl)
    replace HE : FT = ((xso SC ad ws_38), 0) := HE.trans rfl
    rw [hQ]
    exact y_vret C0 h (Fr.tr (Fr.mono u_25 (by decide)) (Fr.up u_39.1 kSC_0 (by decide))) ⟨(congrArg Prod.fst (HE.symm.trans hFT)), (fun j h1 h2 => (Eq.trans (u_39.1 j (by omega)) (e_28 j (Or.inl (by omega)))))⟩ dX11_keep_63
  · -- 6
    replace HE : FT = g3_X11_keep (xso SC ad ws0) i1 := HE.trans (if_pos (o26_24 e_3 e_4 e_6 c_7))
    refine lv_aload_n C0.1 C0.2.1 dX11_keep_9 rfl (lv_at hl 0 rfl) ?_
    refine lv_aload_n C0.1 C0.2.1 dX11_keep_10 rfl (lv_at hl 0 rfl) ?_
    refine tg_X11_pastFirst C0 h kSC_0 q_531 dX11_keep_11 (fun v_40 e_41 e_42 e_43 => ?_)
    refine y_c1 (n := 1) C0 (by decide) dX11_keep_14 (fun v_44 e_45 => ?_)
    refine y_add C0 (o26_35 e_42 e_43 e_45 (le_min v_40) (le_max v_40) (le_min v_44) (le_max v_44)) (o26_36 e_42 e_43 e_45 (le_min v_40) (le_max v_40) (le_min v_44) (le_max v_44)) dX11_keep_15 (fun v_46 e_47 => ?_)
    refine y_c2 (n := 10) C0 (by decide) dX11_keep_16 (fun v_48 e_49 => ?_)
    refine y_remc (n := 10) C0 (o26_22 e_49) (by decide) (o26_37 e_42 e_43 e_45 e_47) dX11_keep_18 (fun v_50 e_51 => ?_)
    refine tp_X11_pastFirst C0 h kSC_0 q_531 (o26_38 e_42 e_43 e_45 e_47 e_51) (o26_39 e_42 e_43 e_45 e_47 e_51) dX11_keep_19 (fun H locs ws_52 h u_53 Xu_53 => ?_)
    replace HE : FT = g6w_X11_keep (xso SC ad ws_52) i1 := HE.trans (by rw [Xu_53, e_51, e_47, e_45, (xg0 e_41 : v_40.toInt = (xso SC ad ws0) 0 0 16)]; rfl)
    refine lv_aload_n C0.1 C0.2.1 dX11_keep_22 rfl (lv_at hl 0 rfl) ?_
    refine lv_dup C0.1 C0.2.1 dX11_keep_23 rfl ?_
    refine tg_X11_pastSize C0 h kSC_0 q_532 dX11_keep_24 (fun v_54 e_55 e_56 e_57 => ?_)
    have qh_58 : v_54.toInt = v_1.toInt := congrArg Int32.toInt (e_55.symm.trans (Eq.trans (u_53.2.2 17 (by decide)) e_2))
    refine y_c1 (n := 1) C0 (by decide) dX11_keep_27 (fun v_59 e_60 => ?_)
    refine y_sub C0 (o26_40 e_3 e_4 e_6 c_7 e_56 e_57 qh_58 e_60 (le_min v_54) (le_max v_54) (le_min v_59) (le_max v_59) (le_min v_1) (le_max v_1) (le_min v_5) (le_max v_5)) (o26_41 e_3 e_4 e_6 c_7 e_56 e_57 qh_58 e_60 (le_min v_54) (le_max v_54) (le_min v_59) (le_max v_59) (le_min v_1) (le_max v_1) (le_min v_5) (le_max v_5)) dX11_keep_28 (fun v_61 e_62 => ?_)
    refine tp_X11_pastSize C0 h kSC_0 q_532 (o26_42 e_3 e_4 e_6 c_7 e_56 e_57 qh_58 e_60 e_62) (o26_43 e_3 e_4 e_6 c_7 e_56 e_57 qh_58 e_60 e_62) dX11_keep_29 (fun H locs ws_63 h u_64 Xu_64 => ?_)
    replace HE : FT = g7w_X11_keep (xso SC ad ws_63) i1 := HE.trans (by rw [Xu_64, e_62, e_60, (xg0 e_55 : v_54.toInt = (xso SC ad ws_52) 0 0 17)]; rfl)
    refine lv_aload_n C0.1 C0.2.1 dX11_keep_32 rfl (lv_at hl 0 rfl) ?_
    refine tg_X11_past C0 h kSC_0 q_527 dX11_keep_33 ?_
    refine lv_aload_n C0.1 C0.2.1 dX11_keep_36 rfl (lv_at hl 0 rfl) ?_
    refine tg_X11_pastFirst C0 h kSC_0 q_531 dX11_keep_37 (fun v_65 e_66 e_67 e_68 => ?_)
    have qh_69 : v_65.toInt = v_50.toInt := congrArg Int32.toInt (e_66.symm.trans (Eq.trans (u_64.2.2 16 (by decide)) u_53.2.1))
    refine lv_aload_n C0.1 C0.2.1 dX11_keep_40 rfl (lv_at hl 0 rfl) ?_
    refine tg_X11_pastSize C0 h kSC_0 q_532 dX11_keep_41 (fun v_70 e_71 e_72 e_73 => ?_)
    have qh_74 : v_70.toInt = v_61.toInt := congrArg Int32.toInt (e_71.symm.trans (Eq.trans rfl u_64.2.1))
    refine y_add C0 (o26_44 e_3 e_4 e_6 c_7 e_42 e_43 e_45 e_47 e_51 e_56 e_57 qh_58 e_60 e_62 e_67 e_68 qh_69 e_72 e_73 qh_74 (le_min v_65) (le_max v_65) (le_min v_70) (le_max v_70) (le_min v_1) (le_max v_1) (le_min v_5) (le_max v_5) (le_min v_40) (le_max v_40) (le_min v_44) (le_max v_44) (le_min v_46) (le_max v_46) (le_min v_50) (le_max v_50) (le_min v_54) (le_max v_54) (le_min v_59) (le_max v_59) (le_min v_61) (le_max v_61)) (o26_45 e_3 e_4 e_6 c_7 e_42 e_43 e_45 e_47 e_51 e_56 e_57 qh_58 e_60 e_62 e_67 e_68 qh_69 e_72 e_73 qh_74 (le_min v_65) (le_max v_65) (le_min v_70) (le_max v_70) (le_min v_1) (le_max v_1) (le_min v_5) (le_max v_5) (le_min v_40) (le_max v_40) (le_min v_44) (le_max v_44) (le_min v_46) (le_max v_46) (le_min v_50) (le_max v_50) (le_min v_54) (le_max v_54) (le_min v_59) (le_max v_59) (le_min v_61) (le_max v_61)) dX11_keep_44 (fun v_75 e_76 => ?_)
    refine y_c2 (n := 10) C0 (by decide) dX11_keep_45 (fun v_77 e_78 => ?_)
    refine y_remc (n := 10) C0 (o26_22 e_78) (by decide) (o26_46 e_3 e_4 e_6 c_7 e_42 e_43 e_45 e_47 e_51 e_56 e_57 qh_58 e_60 e_62 e_67 e_68 qh_69 e_72 e_73 qh_74 e_76) dX11_keep_47 (fun v_79 e_80 => ?_)
    refine y_aald C0 h kSC_118 rfl rfl (by decide) (o26_47 e_3 e_4 e_6 c_7 e_42 e_43 e_45 e_47 e_51 e_56 e_57 qh_58 e_60 e_62 e_67 e_68 qh_69 e_72 e_73 qh_74 e_76 e_80) (o26_48 e_3 e_4 e_6 c_7 e_42 e_43 e_45 e_47 e_51 e_56 e_57 qh_58 e_60 e_62 e_67 e_68 qh_69 e_72 e_73 qh_74 e_76 e_80) dX11_keep_48 ?_
    obtain ⟨i_81, hi_81, ei_81⟩ : ∃ j : Nat, Kd SC j 6 ∧ j = 119 + 8 * v_79.toInt.toNat := ⟨_, aSC_47 (o26_49 e_3 e_4 e_6 c_7 e_42 e_43 e_45 e_47 e_51 e_56 e_57 qh_58 e_60 e_62 e_67 e_68 qh_69 e_72 e_73 qh_74 e_76 e_80), rfl⟩
    rw [← ei_81]
    refine lv_aload_n C0.1 C0.2.1 dX11_keep_49 rfl (lv_at hl 1 rfl) ?_
    refine y_cv h (y_rV (As := [.ref (ad i1)]) (rest := []) C0 hZ h (c_X1_copy l G Z ad _ h.2 i_81 hi_81 i1 hi1) k_X1_copy q_868 q_869 q_987 hi_81 rfl rfl rfl hl.1 rfl rfl (Nat.le_of_ble_eq_true rfl) dX11_keep_50 ⟨Nat.le_of_ble_eq_true rfl, Nat.le_of_ble_eq_true rfl⟩ ⟨Nat.le_of_ble_eq_true rfl, Nat.le_of_ble_eq_true rfl⟩) (fun H locs ws_82 h u_83 p_84 => ?_)
    obtain ⟨e_85, e_86⟩ := p_84
    replace HE : FT = g8c_X11_keep (xso SC ad ws_82) := HE.trans (by rw [e_85, ei_81, e_80, e_76, (xg0 e_71 : v_70.toInt = (xso SC ad ws_63) 0 0 17), (xg0 e_66 : v_65.toInt = (xso SC ad ws_63) 0 0 16)]; rfl)
    refine lv_aload_n C0.1 C0.2.1 dX11_keep_53 rfl (lv_at hl 0 rfl) ?_
    refine lv_dup C0.1 C0.2.1 dX11_keep_54 rfl ?_
    refine tg_X11_pastSize C0 h kSC_0 q_532 dX11_keep_55 (fun v_87 e_88 e_89 e_90 => ?_)
    have qh_91 : v_87.toInt = v_61.toInt := congrArg Int32.toInt (e_88.symm.trans (Eq.trans (Fr.fI u_83 kSC_0 (by decide)) u_64.2.1))
    refine y_c1 (n := 1) C0 (by decide) dX11_keep_58 (fun v_92 e_93 => ?_)
    refine y_add C0 (o26_50 e_3 e_4 e_6 c_7 e_42 e_43 e_45 e_47 e_51 e_56 e_57 qh_58 e_60 e_62 e_67 e_68 qh_69 e_72 e_73 qh_74 e_76 e_80 e_89 e_90 qh_91 e_93 (le_min v_87) (le_max v_87) (le_min v_92) (le_max v_92) (le_min v_1) (le_max v_1) (le_min v_5) (le_max v_5) (le_min v_40) (le_max v_40) (le_min v_44) (le_max v_44) (le_min v_46) (le_max v_46) (le_min v_50) (le_max v_50) (le_min v_54) (le_max v_54) (le_min v_59) (le_max v_59) (le_min v_61) (le_max v_61) (le_min v_65) (le_max v_65) (le_min v_70) (le_max v_70) (le_min v_75) (le_max v_75) (le_min v_79) (le_max v_79)) (o26_51 e_3 e_4 e_6 c_7 e_42 e_43 e_45 e_47 e_51 e_56 e_57 qh_58 e_60 e_62 e_67 e_68 qh_69 e_72 e_73 qh_74 e_76 e_80 e_89 e_90 qh_91 e_93 (le_min v_87) (le_max v_87) (le_min v_92) (le_max v_92) (le_min v_1) (le_max v_1) (le_min v_5) (le_max v_5) (le_min v_40) (le_max v_40) (le_min v_44) (le_max v_44) (le_min v_46) (le_max v_46) (le_min v_50) (le_max v_50) (le_min v_54) (le_max v_54) (le_min v_59) (le_max v_59) (le_min v_61) (le_max v_61) (le_min v_65) (le_max v_65) (le_min v_70) (le_max v_70) (le_min v_75) (le_max v_75) (le_min v_79) (le_max v_79)) dX11_keep_59 (fun v_94 e_95 => ?_)
    refine tp_X11_pastSize C0 h kSC_0 q_532 (o26_52 e_3 e_4 e_6 c_7 e_42 e_43 e_45 e_47 e_51 e_56 e_57 qh_58 e_60 e_62 e_67 e_68 qh_69 e_72 e_73 qh_74 e_76 e_80 e_89 e_90 qh_91 e_93 e_95) (o26_53 e_3 e_4 e_6 c_7 e_42 e_43 e_45 e_47 e_51 e_56 e_57 qh_58 e_60 e_62 e_67 e_68 qh_69 e_72 e_73 qh_74 e_76 e_80 e_89 e_90 qh_91 e_93 e_95) dX11_keep_60 (fun H locs ws_96 h u_97 Xu_97 => ?_)
    replace HE : FT = g9w_X11_keep (xso SC ad ws_96) := HE.trans (by rw [Xu_97, e_95, e_93, (xg0 e_88 : v_87.toInt = (xso SC ad ws_82) 0 0 17)]; rfl)
    replace HE : FT = ((xso SC ad ws_96), 0) := HE.trans rfl
    rw [hQ]
    exact y_vret C0 h (Fr.tr (Fr.tr (Fr.tr (Fr.up u_53.1 kSC_0 (by decide)) (Fr.up u_64.1 kSC_0 (by decide))) (Fr.mono u_83 (by decide))) (Fr.up u_97.1 kSC_0 (by decide))) ⟨(congrArg Prod.fst (HE.symm.trans hFT)), (fun j h1 h2 => (Eq.trans (Eq.trans (Eq.trans (u_97.1 j (by omega)) (e_86 j (Or.inl (by omega)))) (u_64.1 j (by omega))) (u_53.1 j (by omega))))⟩ dX11_keep_63
noncomputable def g1w_X11_draw (s : XS) : XR := (s, (Xiushr (s 0 0 18) 16))
noncomputable def f_X11_draw (s : XS) : XR := g1w_X11_draw (xup s 0 0 18 (Xiadd (Ximul 1103515245 (s 0 0 18)) 12345))
set_option maxHeartbeats 4000000 in
set_option maxRecDepth 100000 in
theorem c_X11_draw (l : Launch) (G : GG) (Z : RZ) (ad : Nat → Nat) (ws0 : va_W) (hT : Ty G SC ad ws0) : Mq l yX11_draw cX11_draw 1 (some .int) 1 G Z [.ref (ad 0)] ws0 (PI G SC ad [0] ws0 (fun r u => (xso SC ad u = (f_X11_draw (xso SC ad ws0)).1) ∧ (r.toInt = (f_X11_draw (xso SC ad ws0)).2) ∧ (0 ≤ r.toInt) ∧ (r.toInt ≤ 65535))) := by
  refine Mq.start (by decide) (Nat.le_of_ble_eq_true rfl) ?_
  intro p e s m below meth c A ls C0 hZ h hl
  have hl : lv_has ls 1 [(0, .ref (ad 0))] := hl
  have h : Wt G SC ad A s s.heap [] ws0 := ⟨h, hT⟩
  obtain ⟨args, hargs⟩ : ∃ z, z = ([.ref (ad 0)] : List Value).toArray := ⟨_, rfl⟩
  rw [← hargs] at C0 ⊢
  have C0 : Cx p s m args meth c RX11 cX11_draw 1 (some .int) := C0
  obtain ⟨Q, hQ⟩ : ∃ z, z = MQ below ((PI G SC ad [0] ws0 (fun r u => (xso SC ad u = (f_X11_draw (xso SC ad ws0)).1) ∧ (r.toInt = (f_X11_draw (xso SC ad ws0)).2) ∧ (0 ≤ r.toInt) ∧ (r.toInt ≤ 65535))) A) args s 0 0 A := ⟨_, rfl⟩
  rw [← hQ]
  obtain ⟨FT, hFT⟩ : ∃ z, z = f_X11_draw (xso SC ad ws0) := ⟨_, rfl⟩
  have HE : FT = f_X11_draw (xso SC ad ws0) := hFT
  refine lv_aload_n C0.1 C0.2.1 dX11_draw_0 rfl (lv_at hl 0 rfl) ?_
  refine y_c5 (n := 1103515245) C0 q_1060 (by decide) dX11_draw_1 (fun v_1 e_2 => ?_)
  refine lv_aload_n C0.1 C0.2.1 dX11_draw_4 rfl (lv_at hl 0 rfl) ?_
  refine tg_X11_seed C0 h kSC_0 q_533 dX11_draw_5 (fun v_3 e_4 e_5 e_6 => ?_)
  refine xr_imul C0 dX11_draw_8 (fun v_7 e_8 => ?_)
  refine y_c3 (n := 12345) C0 (by decide) dX11_draw_9 (fun v_9 e_10 => ?_)
  refine xr_iadd C0 dX11_draw_12 (fun v_11 e_12 => ?_)
  refine tp_X11_seed C0 h kSC_0 q_533 (le_min v_11) (le_max v_11) dX11_draw_13 (fun H locs ws_13 h u_14 Xu_14 => ?_)
  replace HE : FT = g1w_X11_draw (xso SC ad ws_13) := HE.trans (by rw [Xu_14, e_12, e_10, e_8, (xg0 e_4 : v_3.toInt = (xso SC ad ws0) 0 0 18), e_2]; rfl)
  refine lv_aload_n C0.1 C0.2.1 dX11_draw_16 rfl (lv_at hl 0 rfl) ?_
  refine tg_X11_seed C0 h kSC_0 q_533 dX11_draw_17 (fun v_15 e_16 e_17 e_18 => ?_)
  have qh_19 : v_15.toInt = v_11.toInt := congrArg Int32.toInt (e_16.symm.trans (Eq.trans rfl u_14.2.1))
  refine y_c2 (n := 16) C0 (by decide) dX11_draw_20 (fun v_20 e_21 => ?_)
  refine xr_iushr C0 dX11_draw_22 (fun v_22 e_23 => ?_)
  replace HE : FT = ((xso SC ad ws_13), v_22.toInt) := HE.trans (by rw [e_23, e_21, (xg0 e_16 : v_15.toInt = (xso SC ad ws_13) 0 0 18)]; rfl)
  rw [hQ]
  exact y_iret C0 h (Fr.up u_14.1 kSC_0 (by decide)) ⟨(congrArg Prod.fst (HE.symm.trans hFT)), (congrArg Prod.snd (HE.symm.trans hFT)), (o26_55 (xb_ushr 16 16 (n := 65535) e_23 (Eq.trans (o26_54 e_21) (by decide)) (by decide) (by decide) (by decide)).1 (xb_ushr 16 16 (n := 65535) e_23 (Eq.trans (o26_54 e_21) (by decide)) (by decide) (by decide) (by decide)).2), (o26_56 (xb_ushr 16 16 (n := 65535) e_23 (Eq.trans (o26_54 e_21) (by decide)) (by decide) (by decide) (by decide)).1 (xb_ushr 16 16 (n := 65535) e_23 (Eq.trans (o26_54 e_21) (by decide)) (by decide) (by decide) (by decide)).2)⟩ dX11_draw_23
noncomputable def g14w_X11_goWalk (s : XS) : XR := (s, 0)
noncomputable def g13w_X11_goWalk (s : XS) : XR := g14w_X11_goWalk (xup s 1 207 (Int.toNat 3) (0))
noncomputable def g12w_X11_goWalk (s : XS) (r_6 : Int) : XR := g13w_X11_goWalk (xup s 1 207 (Int.toNat 2) (((-1))))
noncomputable def g11w_X11_goWalk (s : XS) (r_6 : Int) : XR := g12w_X11_goWalk (xup s 1 207 (Int.toNat 1) (1)) r_6
noncomputable def g9_X11_goWalk (s : XS) (r_6 : Int) : XR := g11w_X11_goWalk (xup s 1 207 (Int.toNat 0) (0)) r_6
noncomputable def g18w_X11_goWalk (s : XS) : XR := (s, 0)
noncomputable def g17w_X11_goWalk (s : XS) : XR := g18w_X11_goWalk (xup s 1 207 (Int.toNat 3) (0))
noncomputable def g16w_X11_goWalk (s : XS) (r_6 : Int) : XR := g17w_X11_goWalk (xup s 1 207 (Int.toNat 2) (((-1))))
noncomputable def g15w_X11_goWalk (s : XS) (r_6 : Int) : XR := g16w_X11_goWalk (xup s 1 207 (Int.toNat 1) (1)) r_6
noncomputable def g10_X11_goWalk (R43 : XS → Nat → Int → XR) (s : XS) (i1 : Nat) (r_6 : Int) : XR := g15w_X11_goWalk (xup s 1 207 (Int.toNat 0) (0)) r_6
noncomputable def g8b_X11_goWalk (R43 : XS → Nat → Int → XR) (s : XS) (v_52 : Int) (i1 : Nat) (r_6 : Int) : XR := if 1 < v_52 then g10_X11_goWalk R43 s i1 r_6 else g9_X11_goWalk s r_6
noncomputable def g7l_X11_goWalk (R43 : XS → Nat → Int → XR) (s : XS) (i1 : Nat) (r_6 : Int) : XR := g8b_X11_goWalk R43 s ((s 0 i1 2)) i1 r_6
noncomputable def L6_X11_goWalk (n : Nat) : XS → Nat → Int → XR := Nat.rec (motive := fun _ => XS → Nat → Int → XR) (fun s _ _ => (s, 0)) (fun _ R43 => g7l_X11_goWalk R43) n
noncomputable def g4_X11_goWalk (s : XS) (i1 : Nat) (r_6 : Int) : XR := L6_X11_goWalk (Int.toNat (1 - 1 + 1)) s i1 r_6
noncomputable def g27w_X11_goWalk (s : XS) (x7_116 : Int) : XR := (s, x7_116)
noncomputable def g26w_X11_goWalk (s : XS) (x6_117 : Int) (x7_116 : Int) : XR := g27w_X11_goWalk (xup s 1 207 (Int.toNat 3) (x6_117)) x7_116
noncomputable def g25w_X11_goWalk (s : XS) (r_6 : Int) (x6_117 : Int) (x7_116 : Int) : XR := g26w_X11_goWalk (xup s 1 207 (Int.toNat 2) ((s 1 11 (Int.toNat r_6)))) x6_117 x7_116
noncomputable def g24w_X11_goWalk (s : XS) (r_6 : Int) (x5_118 : Int) (x6_117 : Int) (x7_116 : Int) : XR := g25w_X11_goWalk (xup s 1 207 (Int.toNat 1) (x5_118)) r_6 x6_117 x7_116
noncomputable def g22_X11_goWalk (s : XS) (r_6 : Int) (x4_119 : Int) (x5_118 : Int) (x6_117 : Int) (x7_116 : Int) : XR := g24w_X11_goWalk (xup s 1 207 (Int.toNat 0) (x4_119)) r_6 x5_118 x6_117 x7_116
noncomputable def g34w_X11_goWalk (s : XS) (x7_116 : Int) : XR := (s, x7_116)
noncomputable def g33w_X11_goWalk (s : XS) (x6_117 : Int) (x7_116 : Int) : XR := g34w_X11_goWalk (xup s 1 207 (Int.toNat 3) (x6_117)) x7_116
noncomputable def g32w_X11_goWalk (s : XS) (r_6 : Int) (x6_117 : Int) (x7_116 : Int) : XR := g33w_X11_goWalk (xup s 1 207 (Int.toNat 2) ((s 1 11 (Int.toNat r_6)))) x6_117 x7_116
noncomputable def g31w_X11_goWalk (s : XS) (r_6 : Int) (x5_118 : Int) (x6_117 : Int) (x7_116 : Int) : XR := g32w_X11_goWalk (xup s 1 207 (Int.toNat 1) (x5_118)) r_6 x6_117 x7_116
noncomputable def g29_X11_goWalk (s : XS) (r_6 : Int) (x4_119 : Int) (x5_118 : Int) (x6_117 : Int) (x7_116 : Int) : XR := g31w_X11_goWalk (xup s 1 207 (Int.toNat 0) (x4_119)) r_6 x5_118 x6_117 x7_116
noncomputable def g38_X11_goWalk (R43 : XS → Nat → Int → Int → Int → Int → Int → Int → XR) (s : XS) (i1 : Nat) (r_6 : Int) (r_198 : Int) (x6_117 : Int) (x7_116 : Int) (x8_115 : Int) : XR := R43 s i1 r_6 x8_115 r_198 x6_117 x7_116 ((x8_115 + 1))
noncomputable def g40c_X11_goWalk (R43 : XS → Nat → Int → Int → Int → Int → Int → Int → XR) (s : XS) (r_211 : Int) (x6_117 : Int) (i1 : Nat) (r_6 : Int) (x4_119 : Int) (x7_116 : Int) (x8_115 : Int) : XR := R43 s i1 r_6 x4_119 0 ((Xiadd x6_117 r_211)) ((Xiadd x7_116 1)) ((x8_115 + 1))
noncomputable def g39_X11_goWalk (R43 : XS → Nat → Int → Int → Int → Int → Int → Int → XR) (s : XS) (i1 : Nat) (r_6 : Int) (x4_119 : Int) (x6_117 : Int) (x7_116 : Int) (x8_115 : Int) (r_191 : Int) : XR := g40c_X11_goWalk R43 ((f_X0_step s 1 r_6 r_191).1) (((f_X0_step s 1 r_6 r_191).2)) x6_117 i1 r_6 x4_119 x7_116 x8_115
noncomputable def g37b_X11_goWalk (R43 : XS → Nat → Int → Int → Int → Int → Int → Int → XR) (s : XS) (r_198 : Int) (i1 : Nat) (r_6 : Int) (x4_119 : Int) (x6_117 : Int) (x7_116 : Int) (x8_115 : Int) (r_191 : Int) : XR := if r_198 = 0 then g39_X11_goWalk R43 s i1 r_6 x4_119 x6_117 x7_116 x8_115 r_191 else g38_X11_goWalk R43 s i1 r_6 r_198 x6_117 x7_116 x8_115
noncomputable def g36c_X11_goWalk (R43 : XS → Nat → Int → Int → Int → Int → Int → Int → XR) (s : XS) (r_198 : Int) (i1 : Nat) (r_6 : Int) (x4_119 : Int) (x6_117 : Int) (x7_116 : Int) (x8_115 : Int) (r_191 : Int) : XR := g37b_X11_goWalk R43 s r_198 i1 r_6 x4_119 x6_117 x7_116 x8_115 r_191
noncomputable def g35c_X11_goWalk (R43 : XS → Nat → Int → Int → Int → Int → Int → Int → XR) (s : XS) (r_191 : Int) (i1 : Nat) (r_6 : Int) (x4_119 : Int) (x6_117 : Int) (x7_116 : Int) (x8_115 : Int) : XR := g36c_X11_goWalk R43 ((f_X0_hindrance s 1 r_6 r_191).1) (((f_X0_hindrance s 1 r_6 r_191).2)) i1 r_6 x4_119 x6_117 x7_116 x8_115 r_191
noncomputable def g30_X11_goWalk (R43 : XS → Nat → Int → Int → Int → Int → Int → Int → XR) (s : XS) (i1 : Nat) (r_6 : Int) (x4_119 : Int) (x6_117 : Int) (x7_116 : Int) (x8_115 : Int) : XR := g35c_X11_goWalk R43 ((f_X10_asSmall s i1 x8_115).1) (((f_X10_asSmall s i1 x8_115).2)) i1 r_6 x4_119 x6_117 x7_116 x8_115
noncomputable def g28b_X11_goWalk (R43 : XS → Nat → Int → Int → Int → Int → Int → Int → XR) (s : XS) (x5_118 : Int) (i1 : Nat) (r_6 : Int) (x4_119 : Int) (x6_117 : Int) (x7_116 : Int) (x8_115 : Int) : XR := if x5_118 = 0 then g30_X11_goWalk R43 s i1 r_6 x4_119 x6_117 x7_116 x8_115 else g29_X11_goWalk s r_6 x4_119 x5_118 x6_117 x7_116
noncomputable def g23_X11_goWalk (R43 : XS → Nat → Int → Int → Int → Int → Int → Int → XR) (s : XS) (i1 : Nat) (r_6 : Int) (x4_119 : Int) (x5_118 : Int) (x6_117 : Int) (x7_116 : Int) (x8_115 : Int) : XR := g28b_X11_goWalk R43 s x5_118 i1 r_6 x4_119 x6_117 x7_116 x8_115
noncomputable def g21b_X11_goWalk (R43 : XS → Nat → Int → Int → Int → Int → Int → Int → XR) (s : XS) (v_132 : Int) (x8_115 : Int) (i1 : Nat) (r_6 : Int) (x4_119 : Int) (x5_118 : Int) (x6_117 : Int) (x7_116 : Int) : XR := if x8_115 < v_132 then g23_X11_goWalk R43 s i1 r_6 x4_119 x5_118 x6_117 x7_116 x8_115 else g22_X11_goWalk s r_6 x4_119 x5_118 x6_117 x7_116
noncomputable def g20l_X11_goWalk (R43 : XS → Nat → Int → Int → Int → Int → Int → Int → XR) (s : XS) (i1 : Nat) (r_6 : Int) (x4_119 : Int) (x5_118 : Int) (x6_117 : Int) (x7_116 : Int) (x8_115 : Int) : XR := g21b_X11_goWalk R43 s ((s 0 i1 2)) x8_115 i1 r_6 x4_119 x5_118 x6_117 x7_116
noncomputable def L19_X11_goWalk (n : Nat) : XS → Nat → Int → Int → Int → Int → Int → Int → XR := Nat.rec (motive := fun _ => XS → Nat → Int → Int → Int → Int → Int → Int → XR) (fun s _ _ _ _ _ _ _ => (s, 0)) (fun _ R43 => g20l_X11_goWalk R43) n
noncomputable def g5_X11_goWalk (s : XS) (i1 : Nat) (r_6 : Int) : XR := L19_X11_goWalk (Int.toNat (40 - 1 + 1)) s i1 r_6 (((-1))) 0 0 0 1
noncomputable def g3b_X11_goWalk (s : XS) (r_13 : Int) (i1 : Nat) (r_6 : Int) : XR := if r_13 = 0 then g4_X11_goWalk s i1 r_6 else g5_X11_goWalk s i1 r_6
noncomputable def g2c_X11_goWalk (s : XS) (r_13 : Int) (i1 : Nat) (r_6 : Int) : XR := g3b_X11_goWalk s r_13 i1 r_6
noncomputable def g1c_X11_goWalk (s : XS) (r_6 : Int) (i1 : Nat) : XR := g2c_X11_goWalk ((f_X11_isPerson s r_6).1) (((f_X11_isPerson s r_6).2)) i1 r_6
noncomputable def f_X11_goWalk (s : XS) (i1 : Nat) : XR := g1c_X11_goWalk ((f_X10_asSmall s i1 0).1) (((f_X10_asSmall s i1 0).2)) i1
set_option maxHeartbeats 4000000 in
set_option maxRecDepth 100000 in
theorem c_X11_goWalk (l : Launch) (G : GG) (Z : RZ) (ad : Nat → Nat) (ws0 : va_W) (hT : Ty G SC ad ws0) (i1 : Nat) (hi1 : Kd SC i1 42) (hR : Rel ws0) : Mq l yX11_goWalk cX11_goWalk 10 (some .int) 4 G Z [.ref (ad 0), .ref (ad i1)] ws0 (PI G SC ad [4, 5, 6, 7, 8, 9, 11, 48] ws0 (fun r u => (xso SC ad u = (f_X11_goWalk (xso SC ad ws0) i1).1) ∧ (r.toInt = (f_X11_goWalk (xso SC ad ws0) i1).2))) := by
  refine Mq.start (by decide) (Nat.le_of_ble_eq_true rfl) ?_
  intro p e s m below meth c A ls C0 hZ h hl
  have hl : lv_has ls 10 [(0, .ref (ad 0)), (1, .ref (ad i1))] := hl
  have h : Wt G SC ad A s s.heap [] ws0 := ⟨h, hT⟩
  obtain ⟨args, hargs⟩ : ∃ z, z = ([.ref (ad 0), .ref (ad i1)] : List Value).toArray := ⟨_, rfl⟩
  rw [← hargs] at C0 ⊢
  have C0 : Cx p s m args meth c RX11 cX11_goWalk 10 (some .int) := C0
  obtain ⟨Q, hQ⟩ : ∃ z, z = MQ below ((PI G SC ad [4, 5, 6, 7, 8, 9, 11, 48] ws0 (fun r u => (xso SC ad u = (f_X11_goWalk (xso SC ad ws0) i1).1) ∧ (r.toInt = (f_X11_goWalk (xso SC ad ws0) i1).2))) A) args s 0 0 A := ⟨_, rfl⟩
  rw [← hQ]
  obtain ⟨FT, hFT⟩ : ∃ z, z = f_X11_goWalk (xso SC ad ws0) i1 := ⟨_, rfl⟩
  have HE : FT = f_X11_goWalk (xso SC ad ws0) i1 := hFT
  refine lv_aload_n C0.1 C0.2.1 dX11_goWalk_0 rfl (lv_at hl 1 rfl) ?_
  refine y_c1 (n := 0) C0 (by decide) dX11_goWalk_1 (fun v_1 e_2 => ?_)
  refine y_ci h (y_rV (As := [.int v_1]) (rest := []) C0 hZ h (c_X10_asSmall l G Z ad _ h.2 i1 hi1 v_1) k_X10_asSmall q_1005 q_1006 q_1004 hi1 rfl rfl rfl hl.1 rfl rfl (Nat.le_of_ble_eq_true rfl) dX11_goWalk_2 ⟨Nat.le_of_ble_eq_true rfl, Nat.le_of_ble_eq_true rfl⟩ ⟨Nat.le_of_ble_eq_true rfl, Nat.le_of_ble_eq_true rfl⟩) (fun r_6 H locs ws_3 h u_4 p_5 => ?_)
  obtain ⟨e_7, e_8, e_9⟩ := p_5
  replace HE : FT = g1c_X11_goWalk (xso SC ad ws_3) r_6.toInt i1 := HE.trans (by rw [e_7, e_8, e_2]; rfl)
  refine lv_istore_n (lv' := [(2, .int r_6), (0, .ref (ad 0)), (1, .ref (ad i1))]) C0.1 C0.2.1 dX11_goWalk_5 rfl hl (by decide) rfl (fun ls hl => ?_)
  refine lv_aload_n C0.1 C0.2.1 dX11_goWalk_6 rfl (lv_at hl 1 rfl) ?_
  refine lv_iload_n C0.1 C0.2.1 dX11_goWalk_7 rfl (lv_at hl 0 rfl) ?_
  refine y_ci h (y_rV (As := [.int r_6]) (rest := []) C0 hZ h (c_X11_isPerson l G Z ad _ h.2 r_6) k_X11_isPerson q_903 q_23 q_901 kSC_0 rfl rfl rfl hl.1 rfl rfl (Nat.le_of_ble_eq_true rfl) dX11_goWalk_8 ⟨Nat.le_of_ble_eq_true rfl, Nat.le_of_ble_eq_true rfl⟩ ⟨Nat.le_of_ble_eq_true rfl, Nat.le_of_ble_eq_true rfl⟩) (fun r_13 H locs ws_10 h u_11 p_12 => ?_)
  obtain ⟨e_14, e_15, e_16, e_17, e_18⟩ := p_12
  replace HE : FT = g2c_X11_goWalk (xso SC ad ws_10) r_13.toInt i1 r_6.toInt := HE.trans (by rw [e_14, e_15]; rfl)
  refine lv_istore_n (lv' := [(3, .int r_13), (2, .int r_6), (0, .ref (ad 0)), (1, .ref (ad i1))]) C0.1 C0.2.1 dX11_goWalk_11 rfl hl (by decide) rfl (fun ls hl => ?_)
  refine lv_iload_n C0.1 C0.2.1 dX11_goWalk_12 rfl (lv_at hl 0 rfl) ?_
  replace HE : FT = g3b_X11_goWalk (xso SC ad ws_10) r_13.toInt i1 r_6.toInt := HE.trans rfl
  refine y_if_eq (tgt := 20) C0 dX11_goWalk_13 (by decide) (fun c_19 => ?_) (fun c_19 => ?_)
  · -- 13
    replace HE : FT = g4_X11_goWalk (xso SC ad ws_10) i1 r_6.toInt := HE.trans (if_pos c_19)
    refine y_c1 (n := 0) C0 (by decide) dX11_goWalk_20 (fun v_20 e_21 => ?_)
    refine lv_istore (lv' := [(4, .int v_20), (3, .int r_13), (2, .int r_6), (0, .ref (ad 0)), (1, .ref (ad i1))]) C0.1 C0.2.1 dX11_goWalk_21 hl (by decide) rfl (fun ls hl => ?_)
    refine lv_iload_n C0.1 C0.2.1 dX11_goWalk_23 rfl (lv_at hl 1 rfl) ?_
    refine y_if_eq (tgt := 31) C0 dX11_goWalk_24 (by decide) (fun c_22 => ?_) (fun c_22 => ((o26_57 e_9 e_16 e_17 e_18 c_19 c_22)).elim)
    refine y_c1 (n := 1) C0 (by decide) dX11_goWalk_31 (fun v_23 e_24 => ?_)
    refine lv_istore (lv' := [(5, .int v_23), (4, .int v_20), (3, .int r_13), (2, .int r_6), (0, .ref (ad 0)), (1, .ref (ad i1))]) C0.1 C0.2.1 dX11_goWalk_32 hl (by decide) rfl (fun ls hl => ?_)
    refine y_c1 (n := 0) C0 (by decide) dX11_goWalk_34 (fun v_25 e_26 => ?_)
    refine lv_istore (lv' := [(6, .int v_25), (5, .int v_23), (4, .int v_20), (3, .int r_13), (2, .int r_6), (0, .ref (ad 0)), (1, .ref (ad i1))]) C0.1 C0.2.1 dX11_goWalk_35 hl (by decide) rfl (fun ls hl => ?_)
    refine y_c1 (n := 0) C0 (by decide) dX11_goWalk_37 (fun v_27 e_28 => ?_)
    refine lv_istore (lv' := [(7, .int v_27), (6, .int v_25), (5, .int v_23), (4, .int v_20), (3, .int r_13), (2, .int r_6), (0, .ref (ad 0)), (1, .ref (ad i1))]) C0.1 C0.2.1 dX11_goWalk_38 hl (by decide) rfl (fun ls hl => ?_)
    refine y_c1 (n := 1) C0 (by decide) dX11_goWalk_40 (fun v_29 e_30 => ?_)
    refine lv_istore (lv' := [(8, .int v_29), (7, .int v_27), (6, .int v_25), (5, .int v_23), (4, .int v_20), (3, .int r_13), (2, .int r_6), (0, .ref (ad 0)), (1, .ref (ad i1))]) C0.1 C0.2.1 dX11_goWalk_41 hl (by decide) rfl (fun ls hl => ?_)
    have lp_38 : ∀ (n_40 : Nat) (x8_31 : Int32) (x7_32 : Int32) (x6_33 : Int32) (x5_34 : Int32) (x4_35 : Int32) (H : Heap) (locs : List Loc) (ls : Array Slot) (ws_36 : va_W), 1 - x8_31.toInt < (n_40 : Int) → 1 ≤ x8_31.toInt → x8_31.toInt ≤ 1 → 0 ≤ x7_32.toInt → x7_32.toInt ≤ 0 → 0 ≤ x6_33.toInt → x6_33.toInt ≤ 0 → 1 ≤ x5_34.toInt → x5_34.toInt ≤ 1 → 0 ≤ x4_35.toInt → x4_35.toInt ≤ 0 → (FT = L6_X11_goWalk n_40 (xso SC ad ws_36) i1 r_6.toInt) → Wt G SC ad A s H locs ws_36 → Fr SC [] ws_10 ws_36 → lv_has ls 10 [(8, .int x8_31), (7, .int x7_32), (6, .int x6_33), (5, .int x5_34), (4, .int x4_35), (3, .int r_13), (2, .int r_6), (0, .ref (ad 0)), (1, .ref (ad i1))] → W p l e (rmd 4 0 0) s m args below meth c H locs 0 0 Q (F0 m 43 ls []) := by
      intro n_40
      induction n_40 with
      | zero => intro x8_31 x7_32 x6_33 x5_34 x4_35 H locs ls ws_36 hn_41 b_42 b_43 b_44 b_45 b_46 b_47 b_48 b_49 b_50 b_51 HE h hF_37 hl; exact ((o26_58 b_42 b_43 hn_41)).elim
      | succ n_40 ih_39 =>
        intro x8_31 x7_32 x6_33 x5_34 x4_35 H locs ls ws_36 hn_41 b_42 b_43 b_44 b_45 b_46 b_47 b_48 b_49 b_50 b_51 HE h hF_37 hl
        obtain ⟨R43, hR43⟩ : ∃ z, z = L6_X11_goWalk n_40 := ⟨_, rfl⟩
        replace HE : FT = g7l_X11_goWalk R43 (xso SC ad ws_36) i1 r_6.toInt := HE.trans (by rw [hR43]; rfl)
        refine lv_iload C0.1 C0.2.1 dX11_goWalk_43 (lv_at hl 0 rfl) ?_
        refine lv_aload_n C0.1 C0.2.1 dX11_goWalk_45 rfl (lv_at hl 8 rfl) ?_
        refine tg_X10_size C0 h hi1 q_502 dX11_goWalk_46 (fun v_52 e_53 e_54 e_55 => ?_)
        replace HE : FT = g8b_X11_goWalk R43 (xso SC ad ws_36) v_52.toInt i1 r_6.toInt := HE.trans (by rw [(xg0 e_53 : v_52.toInt = (xso SC ad ws_36) 0 i1 2)]; rfl)
        refine y_icmp_ge (tgt := 113) C0 dX11_goWalk_49 (by decide) (fun c_56 => ?_) (fun c_56 => ?_)
        · -- 49
          replace HE : FT = g9_X11_goWalk (xso SC ad ws_36) r_6.toInt := HE.trans (if_neg (o26_60 b_42 b_43 hn_41 e_54 e_55 c_56))
          refine lv_aload_n C0.1 C0.2.1 dX11_goWalk_113 rfl (lv_at hl 7 rfl) ?_
          refine tg_X11_walked C0 h kSC_0 q_529 dX11_goWalk_114 ?_
          refine y_c1 (n := 0) C0 (by decide) dX11_goWalk_117 (fun v_57 e_58 => ?_)
          refine lv_iload C0.1 C0.2.1 dX11_goWalk_118 (lv_at hl 4 rfl) ?_
          have hO_61 := h.2
          refine y_iast C0 h kSC_207 rfl (by decide) (o26_1 e_58) (o26_62 e_58) (le_min x4_35) (le_max x4_35) dX11_goWalk_120 (fun H locs ws_59 h u_60 => ?_)
          replace HE : FT = g11w_X11_goWalk (xso SC ad ws_59) r_6.toInt := HE.trans (by rw [(xso_A (i := 207) hO_61 h.2 kSC_207 rfl u_60), (o26_63 b_50 b_51), e_58]; rfl)
          refine lv_aload_n C0.1 C0.2.1 dX11_goWalk_121 rfl (lv_at hl 7 rfl) ?_
          refine tg_X11_walked C0 h kSC_0 q_529 dX11_goWalk_122 ?_
          refine y_c1 (n := 1) C0 (by decide) dX11_goWalk_125 (fun v_62 e_63 => ?_)
          refine lv_iload C0.1 C0.2.1 dX11_goWalk_126 (lv_at hl 3 rfl) ?_
          have hO_66 := h.2
          refine y_iast C0 h kSC_207 rfl (by decide) (o26_5 e_63) (o26_64 e_63) (le_min x5_34) (le_max x5_34) dX11_goWalk_128 (fun H locs ws_64 h u_65 => ?_)
          replace HE : FT = g12w_X11_goWalk (xso SC ad ws_64) r_6.toInt := HE.trans (by rw [(xso_A (i := 207) hO_66 h.2 kSC_207 rfl u_65), (o26_65 b_48 b_49), e_63]; rfl)
          refine lv_aload_n C0.1 C0.2.1 dX11_goWalk_129 rfl (lv_at hl 7 rfl) ?_
          refine tg_X11_walked C0 h kSC_0 q_529 dX11_goWalk_130 ?_
          refine y_c1 (n := 2) C0 (by decide) dX11_goWalk_133 (fun v_67 e_68 => ?_)
          refine lv_iload_n C0.1 C0.2.1 dX11_goWalk_134 rfl (lv_at hl 5 rfl) ?_
          refine y_if_eq (tgt := 153) C0 dX11_goWalk_135 (by decide) (fun c_69 => ?_) (fun c_69 => ((o26_57 e_9 e_16 e_17 e_18 c_19 c_69)).elim)
          refine y_c1 (n := (-1)) C0 (by decide) dX11_goWalk_153 (fun v_70 e_71 => ?_)
          have hO_74 := h.2
          refine y_iast C0 h kSC_207 rfl (by decide) (o26_66 e_68) (o26_67 e_68) (le_min v_70) (le_max v_70) dX11_goWalk_154 (fun H locs ws_72 h u_73 => ?_)
          replace HE : FT = g13w_X11_goWalk (xso SC ad ws_72) := HE.trans (by rw [(xso_A (i := 207) hO_74 h.2 kSC_207 rfl u_73), e_71, e_68]; rfl)
          refine lv_aload_n C0.1 C0.2.1 dX11_goWalk_155 rfl (lv_at hl 7 rfl) ?_
          refine tg_X11_walked C0 h kSC_0 q_529 dX11_goWalk_156 ?_
          refine y_c1 (n := 3) C0 (by decide) dX11_goWalk_159 (fun v_75 e_76 => ?_)
          refine lv_iload C0.1 C0.2.1 dX11_goWalk_160 (lv_at hl 2 rfl) ?_
          have hO_79 := h.2
          refine y_iast C0 h kSC_207 rfl (by decide) (o26_68 e_76) (o26_69 e_76) (le_min x6_33) (le_max x6_33) dX11_goWalk_162 (fun H locs ws_77 h u_78 => ?_)
          replace HE : FT = g14w_X11_goWalk (xso SC ad ws_77) := HE.trans (by rw [(xso_A (i := 207) hO_79 h.2 kSC_207 rfl u_78), (o26_63 b_46 b_47), e_76]; rfl)
          refine lv_iload C0.1 C0.2.1 dX11_goWalk_163 (lv_at hl 1 rfl) ?_
          replace HE : FT = ((xso SC ad ws_77), x7_32.toInt) := HE.trans (by rw [(o26_63 b_44 b_45)]; rfl)
          rw [hQ]
          exact y_iret C0 h (Fr.tr (Fr.tr (Fr.tr (Fr.tr (Fr.tr (Fr.tr (Fr.mono u_4 (by decide)) (Fr.mono u_11 (by decide))) (Fr.mono hF_37 (by decide))) (Fr.up u_60.1 kSC_207 (by decide))) (Fr.up u_65.1 kSC_207 (by decide))) (Fr.up u_73.1 kSC_207 (by decide))) (Fr.up u_78.1 kSC_207 (by decide))) ⟨(congrArg Prod.fst (HE.symm.trans hFT)), (congrArg Prod.snd (HE.symm.trans hFT))⟩ dX11_goWalk_165
        · -- 49
          replace HE : FT = g10_X11_goWalk R43 (xso SC ad ws_36) i1 r_6.toInt := HE.trans (if_pos (o26_61 b_42 b_43 hn_41 e_54 e_55 c_56))
          refine lv_iload C0.1 C0.2.1 dX11_goWalk_52 (lv_at hl 3 rfl) ?_
          refine y_if_ne (tgt := 113) C0 dX11_goWalk_54 (by decide) (fun c_80 => ?_) (fun c_80 => ((o26_70 b_48 b_49 c_80)).elim)
          refine lv_aload_n C0.1 C0.2.1 dX11_goWalk_113 rfl (lv_at hl 7 rfl) ?_
          refine tg_X11_walked C0 h kSC_0 q_529 dX11_goWalk_114 ?_
          refine y_c1 (n := 0) C0 (by decide) dX11_goWalk_117 (fun v_81 e_82 => ?_)
          refine lv_iload C0.1 C0.2.1 dX11_goWalk_118 (lv_at hl 4 rfl) ?_
          have hO_85 := h.2
          refine y_iast C0 h kSC_207 rfl (by decide) (o26_1 e_82) (o26_62 e_82) (le_min x4_35) (le_max x4_35) dX11_goWalk_120 (fun H locs ws_83 h u_84 => ?_)
          replace HE : FT = g15w_X11_goWalk (xso SC ad ws_83) r_6.toInt := HE.trans (by rw [(xso_A (i := 207) hO_85 h.2 kSC_207 rfl u_84), (o26_63 b_50 b_51), e_82]; rfl)
          refine lv_aload_n C0.1 C0.2.1 dX11_goWalk_121 rfl (lv_at hl 7 rfl) ?_
          refine tg_X11_walked C0 h kSC_0 q_529 dX11_goWalk_122 ?_
          refine y_c1 (n := 1) C0 (by decide) dX11_goWalk_125 (fun v_86 e_87 => ?_)
          refine lv_iload C0.1 C0.2.1 dX11_goWalk_126 (lv_at hl 3 rfl) ?_
          have hO_90 := h.2
          refine y_iast C0 h kSC_207 rfl (by decide) (o26_5 e_87) (o26_64 e_87) (le_min x5_34) (le_max x5_34) dX11_goWalk_128 (fun H locs ws_88 h u_89 => ?_)
          replace HE : FT = g16w_X11_goWalk (xso SC ad ws_88) r_6.toInt := HE.trans (by rw [(xso_A (i := 207) hO_90 h.2 kSC_207 rfl u_89), (o26_71 b_48 b_49 c_80), e_87]; rfl)
          refine lv_aload_n C0.1 C0.2.1 dX11_goWalk_129 rfl (lv_at hl 7 rfl) ?_
          refine tg_X11_walked C0 h kSC_0 q_529 dX11_goWalk_130 ?_
          refine y_c1 (n := 2) C0 (by decide) dX11_goWalk_133 (fun v_91 e_92 => ?_)
          refine lv_iload_n C0.1 C0.2.1 dX11_goWalk_134 rfl (lv_at hl 5 rfl) ?_
          refine y_if_eq (tgt := 153) C0 dX11_goWalk_135 (by decide) (fun c_93 => ?_) (fun c_93 => ((o26_57 e_9 e_16 e_17 e_18 c_19 c_93)).elim)
          refine y_c1 (n := (-1)) C0 (by decide) dX11_goWalk_153 (fun v_94 e_95 => ?_)
          have hO_98 := h.2
          refine y_iast C0 h kSC_207 rfl (by decide) (o26_66 e_92) (o26_67 e_92) (le_min v_94) (le_max v_94) dX11_goWalk_154 (fun H locs ws_96 h u_97 => ?_)
          replace HE : FT = g17w_X11_goWalk (xso SC ad ws_96) := HE.trans (by rw [(xso_A (i := 207) hO_98 h.2 kSC_207 rfl u_97), e_95, e_92]; rfl)
          refine lv_aload_n C0.1 C0.2.1 dX11_goWalk_155 rfl (lv_at hl 7 rfl) ?_
          refine tg_X11_walked C0 h kSC_0 q_529 dX11_goWalk_156 ?_
          refine y_c1 (n := 3) C0 (by decide) dX11_goWalk_159 (fun v_99 e_100 => ?_)
          refine lv_iload C0.1 C0.2.1 dX11_goWalk_160 (lv_at hl 2 rfl) ?_
          have hO_103 := h.2
          refine y_iast C0 h kSC_207 rfl (by decide) (o26_68 e_100) (o26_69 e_100) (le_min x6_33) (le_max x6_33) dX11_goWalk_162 (fun H locs ws_101 h u_102 => ?_)
          replace HE : FT = g18w_X11_goWalk (xso SC ad ws_101) := HE.trans (by rw [(xso_A (i := 207) hO_103 h.2 kSC_207 rfl u_102), (o26_63 b_46 b_47), e_100]; rfl)
          refine lv_iload C0.1 C0.2.1 dX11_goWalk_163 (lv_at hl 1 rfl) ?_
          replace HE : FT = ((xso SC ad ws_101), x7_32.toInt) := HE.trans (by rw [(o26_63 b_44 b_45)]; rfl)
          rw [hQ]
          exact y_iret C0 h (Fr.tr (Fr.tr (Fr.tr (Fr.tr (Fr.tr (Fr.tr (Fr.mono u_4 (by decide)) (Fr.mono u_11 (by decide))) (Fr.mono hF_37 (by decide))) (Fr.up u_84.1 kSC_207 (by decide))) (Fr.up u_89.1 kSC_207 (by decide))) (Fr.up u_97.1 kSC_207 (by decide))) (Fr.up u_102.1 kSC_207 (by decide))) ⟨(congrArg Prod.fst (HE.symm.trans hFT)), (congrArg Prod.snd (HE.symm.trans hFT))⟩ dX11_goWalk_165
    exact lp_38 ((1 - v_29.toInt + 1).toNat) v_29 v_27 v_25 v_23 v_20 _ _ _ _ (o26_72 e_30) (o26_73 e_30) (o26_6 e_30) (o26_1 e_28) (o26_74 e_28) (o26_1 e_26) (o26_74 e_26) (o26_73 e_24) (o26_6 e_24) (o26_1 e_21) (o26_74 e_21) ((show FT = L6_X11_goWalk (Int.toNat (1 - v_29.toInt + 1)) (xso SC ad ws_10) i1 r_6.toInt from HE.trans (by rw [e_30]; rfl))) h Fr.rf (lv_sub hl [0, 1, 2, 3, 4, 5, 6, 7, 8] rfl)
  · -- 13
    replace HE : FT = g5_X11_goWalk (xso SC ad ws_10) i1 r_6.toInt := HE.trans (if_neg c_19)
    refine y_c1 (n := (-1)) C0 (by decide) dX11_goWalk_16 (fun v_104 e_105 => ?_)
    refine lv_goto (tgt := 21) C0.1 C0.2.1 dX11_goWalk_17 (by decide) ?_
    refine lv_istore (lv' := [(4, .int v_104), (3, .int r_13), (2, .int r_6), (0, .ref (ad 0)), (1, .ref (ad i1))]) C0.1 C0.2.1 dX11_goWalk_21 hl (by decide) rfl (fun ls hl => ?_)
    refine lv_iload_n C0.1 C0.2.1 dX11_goWalk_23 rfl (lv_at hl 1 rfl) ?_
    refine y_if_eq (tgt := 31) C0 dX11_goWalk_24 (by decide) (fun c_106 => ((o26_75 e_9 e_16 e_17 e_18 c_19 c_106)).elim) (fun c_106 => ?_)
    refine y_c1 (n := 0) C0 (by decide) dX11_goWalk_27 (fun v_107 e_108 => ?_)
    refine lv_goto (tgt := 32) C0.1 C0.2.1 dX11_goWalk_28 (by decide) ?_
    refine lv_istore (lv' := [(5, .int v_107), (4, .int v_104), (3, .int r_13), (2, .int r_6), (0, .ref (ad 0)), (1, .ref (ad i1))]) C0.1 C0.2.1 dX11_goWalk_32 hl (by decide) rfl (fun ls hl => ?_)
    refine y_c1 (n := 0) C0 (by decide) dX11_goWalk_34 (fun v_109 e_110 => ?_)
    refine lv_istore (lv' := [(6, .int v_109), (5, .int v_107), (4, .int v_104), (3, .int r_13), (2, .int r_6), (0, .ref (ad 0)), (1, .ref (ad i1))]) C0.1 C0.2.1 dX11_goWalk_35 hl (by decide) rfl (fun ls hl => ?_)
    refine y_c1 (n := 0) C0 (by decide) dX11_goWalk_37 (fun v_111 e_112 => ?_)
    refine lv_istore (lv' := [(7, .int v_111), (6, .int v_109), (5, .int v_107), (4, .int v_104), (3, .int r_13), (2, .int r_6), (0, .ref (ad 0)), (1, .ref (ad i1))]) C0.1 C0.2.1 dX11_goWalk_38 hl (by decide) rfl (fun ls hl => ?_)
    refine y_c1 (n := 1) C0 (by decide) dX11_goWalk_40 (fun v_113 e_114 => ?_)
    refine lv_istore (lv' := [(8, .int v_113), (7, .int v_111), (6, .int v_109), (5, .int v_107), (4, .int v_104), (3, .int r_13), (2, .int r_6), (0, .ref (ad 0)), (1, .ref (ad i1))]) C0.1 C0.2.1 dX11_goWalk_41 hl (by decide) rfl (fun ls hl => ?_)
    have lp_122 : ∀ (n_124 : Nat) (x8_115 : Int32) (x7_116 : Int32) (x6_117 : Int32) (x5_118 : Int32) (x4_119 : Int32) (H : Heap) (locs : List Loc) (ls : Array Slot) (ws_120 : va_W), 40 - x8_115.toInt < (n_124 : Int) → 1 ≤ x8_115.toInt → x8_115.toInt ≤ 40 → 0 ≤ x5_118.toInt → x5_118.toInt ≤ 4 → (-1) ≤ x4_119.toInt → x4_119.toInt ≤ 39 → (FT = L19_X11_goWalk n_124 (xso SC ad ws_120) i1 r_6.toInt x4_119.toInt x5_118.toInt x6_117.toInt x7_116.toInt x8_115.toInt) → Wt G SC ad A s H locs ws_120 → Fr SC [4, 5, 6, 7, 8, 9, 11] ws_10 ws_120 → lv_has ls 10 [(8, .int x8_115), (7, .int x7_116), (6, .int x6_117), (5, .int x5_118), (4, .int x4_119), (3, .int r_13), (2, .int r_6), (0, .ref (ad 0)), (1, .ref (ad i1))] → W p l e (rmd 4 0 0) s m args below meth c H locs 0 0 Q (F0 m 43 ls []) := by
      intro n_124
      induction n_124 with
      | zero => intro x8_115 x7_116 x6_117 x5_118 x4_119 H locs ls ws_120 hn_125 b_126 b_127 b_128 b_129 b_130 b_131 HE h hF_121 hl; exact ((o26_76 b_126 b_127 hn_125)).elim
      | succ n_124 ih_123 =>
        intro x8_115 x7_116 x6_117 x5_118 x4_119 H locs ls ws_120 hn_125 b_126 b_127 b_128 b_129 b_130 b_131 HE h hF_121 hl
        obtain ⟨R43, hR43⟩ : ∃ z, z = L19_X11_goWalk n_124 := ⟨_, rfl⟩
        replace HE : FT = g20l_X11_goWalk R43 (xso SC ad ws_120) i1 r_6.toInt x4_119.toInt x5_118.toInt x6_117.toInt x7_116.toInt x8_115.toInt := HE.trans (by rw [hR43]; rfl)
        refine lv_iload C0.1 C0.2.1 dX11_goWalk_43 (lv_at hl 0 rfl) ?_
        refine lv_aload_n C0.1 C0.2.1 dX11_goWalk_45 rfl (lv_at hl 8 rfl) ?_
        refine tg_X10_size C0 h hi1 q_502 dX11_goWalk_46 (fun v_132 e_133 e_134 e_135 => ?_)
        replace HE : FT = g21b_X11_goWalk R43 (xso SC ad ws_120) v_132.toInt x8_115.toInt i1 r_6.toInt x4_119.toInt x5_118.toInt x6_117.toInt x7_116.toInt := HE.trans (by rw [(xg0 e_133 : v_132.toInt = (xso SC ad ws_120) 0 i1 2)]; rfl)
        refine y_icmp_ge (tgt := 113) C0 dX11_goWalk_49 (by decide) (fun c_136 => ?_) (fun c_136 => ?_)
        · -- 49
          replace HE : FT = g22_X11_goWalk (xso SC ad ws_120) r_6.toInt x4_119.toInt x5_118.toInt x6_117.toInt x7_116.toInt := HE.trans (if_neg (Int.not_lt.mpr c_136))
          refine lv_aload_n C0.1 C0.2.1 dX11_goWalk_113 rfl (lv_at hl 7 rfl) ?_
          refine tg_X11_walked C0 h kSC_0 q_529 dX11_goWalk_114 ?_
          refine y_c1 (n := 0) C0 (by decide) dX11_goWalk_117 (fun v_137 e_138 => ?_)
          refine lv_iload C0.1 C0.2.1 dX11_goWalk_118 (lv_at hl 4 rfl) ?_
          have hO_141 := h.2
          refine y_iast C0 h kSC_207 rfl (by decide) (o26_1 e_138) (o26_62 e_138) (le_min x4_119) (le_max x4_119) dX11_goWalk_120 (fun H locs ws_139 h u_140 => ?_)
          replace HE : FT = g24w_X11_goWalk (xso SC ad ws_139) r_6.toInt x5_118.toInt x6_117.toInt x7_116.toInt := HE.trans (by rw [(xso_A (i := 207) hO_141 h.2 kSC_207 rfl u_140), e_138]; rfl)
          refine lv_aload_n C0.1 C0.2.1 dX11_goWalk_121 rfl (lv_at hl 7 rfl) ?_
          refine tg_X11_walked C0 h kSC_0 q_529 dX11_goWalk_122 ?_
          refine y_c1 (n := 1) C0 (by decide) dX11_goWalk_125 (fun v_142 e_143 => ?_)
          refine lv_iload C0.1 C0.2.1 dX11_goWalk_126 (lv_at hl 3 rfl) ?_
          have hO_146 := h.2
          refine y_iast C0 h kSC_207 rfl (by decide) (o26_5 e_143) (o26_64 e_143) (le_min x5_118) (le_max x5_118) dX11_goWalk_128 (fun H locs ws_144 h u_145 => ?_)
          replace HE : FT = g25w_X11_goWalk (xso SC ad ws_144) r_6.toInt x6_117.toInt x7_116.toInt := HE.trans (by rw [(xso_A (i := 207) hO_146 h.2 kSC_207 rfl u_145), e_143]; rfl)
          refine lv_aload_n C0.1 C0.2.1 dX11_goWalk_129 rfl (lv_at hl 7 rfl) ?_
          refine tg_X11_walked C0 h kSC_0 q_529 dX11_goWalk_130 ?_
          refine y_c1 (n := 2) C0 (by decide) dX11_goWalk_133 (fun v_147 e_148 => ?_)
          refine lv_iload_n C0.1 C0.2.1 dX11_goWalk_134 rfl (lv_at hl 5 rfl) ?_
          refine y_if_eq (tgt := 153) C0 dX11_goWalk_135 (by decide) (fun c_149 => ((o26_75 e_9 e_16 e_17 e_18 c_19 c_149)).elim) (fun c_149 => ?_)
          refine lv_aload_n C0.1 C0.2.1 dX11_goWalk_138 rfl (lv_at hl 7 rfl) ?_
          refine tg_X11_now C0 h kSC_0 q_515 dX11_goWalk_139 ?_
          refine tg_X0_folk C0 h kSC_1 q_249 dX11_goWalk_142 ?_
          refine tg_X1_at C0 h kSC_10 q_191 dX11_goWalk_145 ?_
          refine lv_iload_n C0.1 C0.2.1 dX11_goWalk_148 rfl (lv_at hl 6 rfl) ?_
          refine y_iald C0 h kSC_11 rfl (by decide) (o26_77 e_9 e_16 e_17 e_18 c_19) (o26_78 e_9 e_16 e_17 e_18 c_19) dX11_goWalk_149 (fun v_150 e_151 e_152 e_153 => ?_)
          refine lv_goto (tgt := 154) C0.1 C0.2.1 dX11_goWalk_150 (by decide) ?_
          have hO_156 := h.2
          refine y_iast C0 h kSC_207 rfl (by decide) (o26_66 e_148) (o26_67 e_148) (le_min v_150) (le_max v_150) dX11_goWalk_154 (fun H locs ws_154 h u_155 => ?_)
          replace HE : FT = g26w_X11_goWalk (xso SC ad ws_154) x6_117.toInt x7_116.toInt := HE.trans (by rw [(xso_A (i := 207) hO_156 h.2 kSC_207 rfl u_155), (xg1 e_151 : v_150.toInt = (xso SC ad ws_144) 1 11 r_6.toInt.toNat), e_148]; rfl)
          refine lv_aload_n C0.1 C0.2.1 dX11_goWalk_155 rfl (lv_at hl 7 rfl) ?_
          refine tg_X11_walked C0 h kSC_0 q_529 dX11_goWalk_156 ?_
          refine y_c1 (n := 3) C0 (by decide) dX11_goWalk_159 (fun v_157 e_158 => ?_)
          refine lv_iload C0.1 C0.2.1 dX11_goWalk_160 (lv_at hl 2 rfl) ?_
          have hO_161 := h.2
          refine y_iast C0 h kSC_207 rfl (by decide) (o26_68 e_158) (o26_69 e_158) (le_min x6_117) (le_max x6_117) dX11_goWalk_162 (fun H locs ws_159 h u_160 => ?_)
          replace HE : FT = g27w_X11_goWalk (xso SC ad ws_159) x7_116.toInt := HE.trans (by rw [(xso_A (i := 207) hO_161 h.2 kSC_207 rfl u_160), e_158]; rfl)
          refine lv_iload C0.1 C0.2.1 dX11_goWalk_163 (lv_at hl 1 rfl) ?_
          replace HE : FT = ((xso SC ad ws_159), x7_116.toInt) := HE.trans rfl
          rw [hQ]
          exact y_iret C0 h (Fr.tr (Fr.tr (Fr.tr (Fr.tr (Fr.tr (Fr.tr (Fr.mono u_4 (by decide)) (Fr.mono u_11 (by decide))) (Fr.mono hF_121 (by decide))) (Fr.up u_140.1 kSC_207 (by decide))) (Fr.up u_145.1 kSC_207 (by decide))) (Fr.up u_155.1 kSC_207 (by decide))) (Fr.up u_160.1 kSC_207 (by decide))) ⟨(congrArg Prod.fst (HE.symm.trans hFT)), (congrArg Prod.snd (HE.symm.trans hFT))⟩ dX11_goWalk_165
        · -- 49
          replace HE : FT = g23_X11_goWalk R43 (xso SC ad ws_120) i1 r_6.toInt x4_119.toInt x5_118.toInt x6_117.toInt x7_116.toInt x8_115.toInt := HE.trans (if_pos c_136)
          refine lv_iload C0.1 C0.2.1 dX11_goWalk_52 (lv_at hl 3 rfl) ?_
          replace HE : FT = g28b_X11_goWalk R43 (xso SC ad ws_120) x5_118.toInt i1 r_6.toInt x4_119.toInt x6_117.toInt x7_116.toInt x8_115.toInt := HE.trans rfl
          refine y_if_ne (tgt := 113) C0 dX11_goWalk_54 (by decide) (fun c_162 => ?_) (fun c_162 => ?_)
          · -- 54
            replace HE : FT = g29_X11_goWalk (xso SC ad ws_120) r_6.toInt x4_119.toInt x5_118.toInt x6_117.toInt x7_116.toInt := HE.trans (if_neg c_162)
            refine lv_aload_n C0.1 C0.2.1 dX11_goWalk_113 rfl (lv_at hl 7 rfl) ?_
            refine tg_X11_walked C0 h kSC_0 q_529 dX11_goWalk_114 ?_
            refine y_c1 (n := 0) C0 (by decide) dX11_goWalk_117 (fun v_163 e_164 => ?_)
            refine lv_iload C0.1 C0.2.1 dX11_goWalk_118 (lv_at hl 4 rfl) ?_
            have hO_167 := h.2
            refine y_iast C0 h kSC_207 rfl (by decide) (o26_1 e_164) (o26_62 e_164) (le_min x4_119) (le_max x4_119) dX11_goWalk_120 (fun H locs ws_165 h u_166 => ?_)
            replace HE : FT = g31w_X11_goWalk (xso SC ad ws_165) r_6.toInt x5_118.toInt x6_117.toInt x7_116.toInt := HE.trans (by rw [(xso_A (i := 207) hO_167 h.2 kSC_207 rfl u_166), e_164]; rfl)
            refine lv_aload_n C0.1 C0.2.1 dX11_goWalk_121 rfl (lv_at hl 7 rfl) ?_
            refine tg_X11_walked C0 h kSC_0 q_529 dX11_goWalk_122 ?_
            refine y_c1 (n := 1) C0 (by decide) dX11_goWalk_125 (fun v_168 e_169 => ?_)
            refine lv_iload C0.1 C0.2.1 dX11_goWalk_126 (lv_at hl 3 rfl) ?_
            have hO_172 := h.2
            refine y_iast C0 h kSC_207 rfl (by decide) (o26_5 e_169) (o26_64 e_169) (le_min x5_118) (le_max x5_118) dX11_goWalk_128 (fun H locs ws_170 h u_171 => ?_)
            replace HE : FT = g32w_X11_goWalk (xso SC ad ws_170) r_6.toInt x6_117.toInt x7_116.toInt := HE.trans (by rw [(xso_A (i := 207) hO_172 h.2 kSC_207 rfl u_171), e_169]; rfl)
            refine lv_aload_n C0.1 C0.2.1 dX11_goWalk_129 rfl (lv_at hl 7 rfl) ?_
            refine tg_X11_walked C0 h kSC_0 q_529 dX11_goWalk_130 ?_
            refine y_c1 (n := 2) C0 (by decide) dX11_goWalk_133 (fun v_173 e_174 => ?_)
            refine lv_iload_n C0.1 C0.2.1 dX11_goWalk_134 rfl (lv_at hl 5 rfl) ?_
            refine y_if_eq (tgt := 153) C0 dX11_goWalk_135 (by decide) (fun c_175 => ((o26_75 e_9 e_16 e_17 e_18 c_19 c_175)).elim) (fun c_175 => ?_)
            refine lv_aload_n C0.1 C0.2.1 dX11_goWalk_138 rfl (lv_at hl 7 rfl) ?_
            refine tg_X11_now C0 h kSC_0 q_515 dX11_goWalk_139 ?_
            refine tg_X0_folk C0 h kSC_1 q_249 dX11_goWalk_142 ?_
            refine tg_X1_at C0 h kSC_10 q_191 dX11_goWalk_145 ?_
            refine lv_iload_n C0.1 C0.2.1 dX11_goWalk_148 rfl (lv_at hl 6 rfl) ?_
            refine y_iald C0 h kSC_11 rfl (by decide) (o26_77 e_9 e_16 e_17 e_18 c_19) (o26_78 e_9 e_16 e_17 e_18 c_19) dX11_goWalk_149 (fun v_176 e_177 e_178 e_179 => ?_)
            refine lv_goto (tgt := 154) C0.1 C0.2.1 dX11_goWalk_150 (by decide) ?_
            have hO_182 := h.2
            refine y_iast C0 h kSC_207 rfl (by decide) (o26_66 e_174) (o26_67 e_174) (le_min v_176) (le_max v_176) dX11_goWalk_154 (fun H locs ws_180 h u_181 => ?_)
            replace HE : FT = g33w_X11_goWalk (xso SC ad ws_180) x6_117.toInt x7_116.toInt := HE.trans (by rw [(xso_A (i := 207) hO_182 h.2 kSC_207 rfl u_181), (xg1 e_177 : v_176.toInt = (xso SC ad ws_170) 1 11 r_6.toInt.toNat), e_174]; rfl)
            refine lv_aload_n C0.1 C0.2.1 dX11_goWalk_155 rfl (lv_at hl 7 rfl) ?_
            refine tg_X11_walked C0 h kSC_0 q_529 dX11_goWalk_156 ?_
            refine y_c1 (n := 3) C0 (by decide) dX11_goWalk_159 (fun v_183 e_184 => ?_)
            refine lv_iload C0.1 C0.2.1 dX11_goWalk_160 (lv_at hl 2 rfl) ?_
            have hO_187 := h.2
            refine y_iast C0 h kSC_207 rfl (by decide) (o26_68 e_184) (o26_69 e_184) (le_min x6_117) (le_max x6_117) dX11_goWalk_162 (fun H locs ws_185 h u_186 => ?_)
            replace HE : FT = g34w_X11_goWalk (xso SC ad ws_185) x7_116.toInt := HE.trans (by rw [(xso_A (i := 207) hO_187 h.2 kSC_207 rfl u_186), e_184]; rfl)
            refine lv_iload C0.1 C0.2.1 dX11_goWalk_163 (lv_at hl 1 rfl) ?_
            replace HE : FT = ((xso SC ad ws_185), x7_116.toInt) := HE.trans rfl
            rw [hQ]
            exact y_iret C0 h (Fr.tr (Fr.tr (Fr.tr (Fr.tr (Fr.tr (Fr.tr (Fr.mono u_4 (by decide)) (Fr.mono u_11 (by decide))) (Fr.mono hF_121 (by decide))) (Fr.up u_166.1 kSC_207 (by decide))) (Fr.up u_171.1 kSC_207 (by decide))) (Fr.up u_181.1 kSC_207 (by decide))) (Fr.up u_186.1 kSC_207 (by decide))) ⟨(congrArg Prod.fst (HE.symm.trans hFT)), (congrArg Prod.snd (HE.symm.trans hFT))⟩ dX11_goWalk_165
          · -- 54
            replace HE : FT = g30_X11_goWalk R43 (xso SC ad ws_120) i1 r_6.toInt x4_119.toInt x6_117.toInt x7_116.toInt x8_115.toInt := HE.trans (if_pos c_162)
            refine lv_aload_n C0.1 C0.2.1 dX11_goWalk_57 rfl (lv_at hl 8 rfl) ?_
            refine lv_iload C0.1 C0.2.1 dX11_goWalk_58 (lv_at hl 0 rfl) ?_
            refine y_ci h (y_rV (As := [.int x8_115]) (rest := []) C0 hZ h (c_X10_asSmall l G Z ad _ h.2 i1 hi1 x8_115) k_X10_asSmall q_1005 q_1006 q_1004 hi1 rfl rfl rfl hl.1 rfl rfl (Nat.le_of_ble_eq_true rfl) dX11_goWalk_60 ⟨Nat.le_of_ble_eq_true rfl, Nat.le_of_ble_eq_true rfl⟩ ⟨Nat.le_of_ble_eq_true rfl, Nat.le_of_ble_eq_true rfl⟩) (fun r_191 H locs ws_188 h u_189 p_190 => ?_)
            obtain ⟨e_192, e_193, e_194⟩ := p_190
            replace HE : FT = g35c_X11_goWalk R43 (xso SC ad ws_188) r_191.toInt i1 r_6.toInt x4_119.toInt x6_117.toInt x7_116.toInt x8_115.toInt := HE.trans (by rw [e_192, e_193]; rfl)
            refine lv_istore (lv' := [(9, .int r_191), (8, .int x8_115), (7, .int x7_116), (6, .int x6_117), (5, .int x5_118), (4, .int x4_119), (3, .int r_13), (2, .int r_6), (0, .ref (ad 0)), (1, .ref (ad i1))]) C0.1 C0.2.1 dX11_goWalk_63 hl (by decide) rfl (fun ls hl => ?_)
            refine lv_aload_n C0.1 C0.2.1 dX11_goWalk_65 rfl (lv_at hl 8 rfl) ?_
            refine tg_X11_now C0 h kSC_0 q_515 dX11_goWalk_66 ?_
            refine lv_iload_n C0.1 C0.2.1 dX11_goWalk_69 rfl (lv_at hl 7 rfl) ?_
            refine lv_iload C0.1 C0.2.1 dX11_goWalk_70 (lv_at hl 0 rfl) ?_
            refine y_ci h (y_rV (As := [.int r_6, .int r_191]) (rest := []) C0 hZ h (c_X0_hindrance l G Z ad _ h.2 1 kSC_1 r_6 r_191 (Rel.fr (M := [4, 5, 6, 7, 8, 9, 11]) hR (Fr.tr (Fr.tr (Fr.tr (Fr.mono u_4 (by decide)) (Fr.mono u_11 (by decide))) hF_121) (Fr.mono u_189 (by decide))) (by decide) (by decide))) k_X0_hindrance q_965 q_966 q_964 kSC_1 rfl rfl rfl hl.1 rfl rfl (Nat.le_of_ble_eq_true rfl) dX11_goWalk_72 ⟨Nat.le_of_ble_eq_true rfl, Nat.le_of_ble_eq_true rfl⟩ ⟨Nat.le_of_ble_eq_true rfl, Nat.le_of_ble_eq_true rfl⟩) (fun r_198 H locs ws_195 h u_196 p_197 => ?_)
            obtain ⟨e_199, e_200, e_201, e_202, e_203, e_204⟩ := p_197
            replace HE : FT = g36c_X11_goWalk R43 (xso SC ad ws_195) r_198.toInt i1 r_6.toInt x4_119.toInt x6_117.toInt x7_116.toInt x8_115.toInt r_191.toInt := HE.trans (by rw [e_199, e_200]; rfl)
            refine lv_istore (lv' := [(5, .int r_198), (9, .int r_191), (8, .int x8_115), (7, .int x7_116), (6, .int x6_117), (4, .int x4_119), (3, .int r_13), (2, .int r_6), (0, .ref (ad 0)), (1, .ref (ad i1))]) C0.1 C0.2.1 dX11_goWalk_75 hl (by decide) rfl (fun ls hl => ?_)
            refine lv_iload C0.1 C0.2.1 dX11_goWalk_77 (lv_at hl 0 rfl) ?_
            replace HE : FT = g37b_X11_goWalk R43 (xso SC ad ws_195) r_198.toInt i1 r_6.toInt x4_119.toInt x6_117.toInt x7_116.toInt x8_115.toInt r_191.toInt := HE.trans rfl
            refine y_if_ne (tgt := 103) C0 dX11_goWalk_79 (by decide) (fun c_205 => ?_) (fun c_205 => ?_)
            · -- 79
              replace HE : FT = g38_X11_goWalk R43 (xso SC ad ws_195) i1 r_6.toInt r_198.toInt x6_117.toInt x7_116.toInt x8_115.toInt := HE.trans (if_neg c_205)
              refine lv_iload C0.1 C0.2.1 dX11_goWalk_103 (lv_at hl 2 rfl) ?_
              refine lv_istore (lv' := [(4, .int x8_115), (5, .int r_198), (9, .int r_191), (8, .int x8_115), (7, .int x7_116), (6, .int x6_117), (3, .int r_13), (2, .int r_6), (0, .ref (ad 0)), (1, .ref (ad i1))]) C0.1 C0.2.1 dX11_goWalk_105 hl (by decide) rfl (fun ls hl => ?_)
              refine y_inc (kp := 3) (n := 1) (fun v_206 => [(8, .int v_206), (4, .int x8_115), (5, .int r_198), (9, .int r_191), (7, .int x7_116), (6, .int x6_117), (3, .int r_13), (2, .int r_6), (0, .ref (ad 0)), (1, .ref (ad i1))]) C0 hl rfl (by decide) (by decide) (fun _ => rfl) (o26_79 b_126 b_127 hn_125 e_134 e_135 c_136 (le_min x8_115) (le_max x8_115) (le_min v_132) (le_max v_132)) (o26_80 b_126 b_127 hn_125 e_134 e_135 c_136 (le_min x8_115) (le_max x8_115) (le_min v_132) (le_max v_132)) dX11_goWalk_107 (fun v_206 ls e_207 hl => ?_)
              refine lv_goto (tgt := 43) C0.1 C0.2.1 dX11_goWalk_110 (by decide) ?_
              exact ih_123 v_206 x7_116 x6_117 r_198 x8_115 _ _ _ _ (o26_81 b_126 b_127 hn_125 e_134 e_135 c_136 e_207) (o26_82 b_126 b_127 hn_125 e_134 e_135 c_136 e_207) (o26_83 b_126 b_127 hn_125 e_134 e_135 c_136 e_207) (o26_84 e_9 e_16 e_17 e_18 c_19 e_194 e_201 e_202 e_203 c_205) (o26_85 e_9 e_16 e_17 e_18 c_19 e_194 e_201 e_202 e_203 c_205) (o26_86 b_126 b_127 hn_125 e_134 e_135 c_136 e_207) (o26_87 b_126 b_127 hn_125 e_134 e_135 c_136 e_207) (((show FT = R43 (xso SC ad ws_195) i1 r_6.toInt x8_115.toInt r_198.toInt x6_117.toInt x7_116.toInt v_206.toInt from HE.trans (by rw [e_207]; rfl)).trans (by rw [hR43]))) h (Fr.tr (Fr.tr hF_121 (Fr.mono u_189 (by decide))) (Fr.mono u_196 (by decide))) (lv_sub hl [0, 4, 5, 2, 1, 6, 7, 8, 9] rfl)
            · -- 79
              replace HE : FT = g39_X11_goWalk R43 (xso SC ad ws_195) i1 r_6.toInt x4_119.toInt x6_117.toInt x7_116.toInt x8_115.toInt r_191.toInt := HE.trans (if_pos c_205)
              refine lv_iload C0.1 C0.2.1 dX11_goWalk_82 (lv_at hl 4 rfl) ?_
              refine lv_aload_n C0.1 C0.2.1 dX11_goWalk_84 rfl (lv_at hl 8 rfl) ?_
              refine tg_X11_now C0 h kSC_0 q_515 dX11_goWalk_85 ?_
              refine lv_iload_n C0.1 C0.2.1 dX11_goWalk_88 rfl (lv_at hl 7 rfl) ?_
              refine lv_iload C0.1 C0.2.1 dX11_goWalk_89 (lv_at hl 1 rfl) ?_
              refine y_ci h (y_rV (As := [.int r_6, .int r_191]) (rest := [.int x6_117]) C0 hZ h (c_X0_step l G Z ad _ h.2 1 kSC_1 r_6 r_191 (o26_88 e_9 e_16 e_17 e_18 c_19 e_194 e_201 e_202 e_203 c_205) (o26_89 e_9 e_16 e_17 e_18 c_19 e_194 e_201 e_202 e_203 c_205) (o26_90 e_9 e_16 e_17 e_18 c_19 e_194 e_201 e_202 e_203 c_205) (o26_91 e_9 e_16 e_17 e_18 c_19 e_194 e_201 e_202 e_203 c_205) (Rel.fr (M := [4, 5, 6, 7, 8, 9, 11]) hR (Fr.tr (Fr.tr (Fr.tr (Fr.tr (Fr.mono u_4 (by decide)) (Fr.mono u_11 (by decide))) hF_121) (Fr.mono u_189 (by decide))) (Fr.mono u_196 (by decide))) (by decide) (by decide)) ((CanGo.fr u_196 kSC_1 (by decide) (by decide) (by decide) (e_204 (o26_92 e_9 e_16 e_17 e_18 c_19 e_194 e_201 e_202 e_203 c_205))))) k_X0_step q_989 q_990 q_988 kSC_1 rfl rfl rfl hl.1 rfl rfl (Nat.le_of_ble_eq_true rfl) dX11_goWalk_91 ⟨Nat.le_of_ble_eq_true rfl, Nat.le_of_ble_eq_true rfl⟩ ⟨Nat.le_of_ble_eq_true rfl, Nat.le_of_ble_eq_true rfl⟩) (fun r_211 H locs ws_208 h u_209 p_210 => ?_)
              obtain ⟨e_212, e_213, e_214, e_215⟩ := p_210
              replace HE : FT = g40c_X11_goWalk R43 (xso SC ad ws_208) r_211.toInt x6_117.toInt i1 r_6.toInt x4_119.toInt x7_116.toInt x8_115.toInt := HE.trans (by rw [e_212, e_213]; rfl)
              refine xr_iadd C0 dX11_goWalk_94 (fun v_216 e_217 => ?_)
              refine lv_istore (lv' := [(6, .int v_216), (5, .int r_198), (9, .int r_191), (8, .int x8_115), (7, .int x7_116), (4, .int x4_119), (3, .int r_13), (2, .int r_6), (0, .ref (ad 0)), (1, .ref (ad i1))]) C0.1 C0.2.1 dX11_goWalk_95 hl (by decide) rfl (fun ls hl => ?_)
              refine xr_inc (kp := 4) (fun v_218 => [(7, .int v_218), (6, .int v_216), (5, .int r_198), (9, .int r_191), (8, .int x8_115), (4, .int x4_119), (3, .int r_13), (2, .int r_6), (0, .ref (ad 0)), (1, .ref (ad i1))]) C0 hl rfl (by decide) (fun _ => rfl) dX11_goWalk_97 (fun v_218 ls e_219 hl => ?_)
              refine lv_goto (tgt := 107) C0.1 C0.2.1 dX11_goWalk_100 (by decide) ?_
              refine y_inc (kp := 4) (n := 1) (fun v_220 => [(8, .int v_220), (7, .int v_218), (6, .int v_216), (5, .int r_198), (9, .int r_191), (4, .int x4_119), (3, .int r_13), (2, .int r_6), (0, .ref (ad 0)), (1, .ref (ad i1))]) C0 hl rfl (by decide) (by decide) (fun _ => rfl) (o26_79 b_126 b_127 hn_125 e_134 e_135 c_136 (le_min x8_115) (le_max x8_115) (le_min v_132) (le_max v_132)) (o26_80 b_126 b_127 hn_125 e_134 e_135 c_136 (le_min x8_115) (le_max x8_115) (le_min v_132) (le_max v_132)) dX11_goWalk_107 (fun v_220 ls e_221 hl => ?_)
              refine lv_goto (tgt := 43) C0.1 C0.2.1 dX11_goWalk_110 (by decide) ?_
              exact ih_123 v_220 v_218 v_216 r_198 x4_119 _ _ _ _ (o26_81 b_126 b_127 hn_125 e_134 e_135 c_136 e_221) (o26_82 b_126 b_127 hn_125 e_134 e_135 c_136 e_221) (o26_83 b_126 b_127 hn_125 e_134 e_135 c_136 e_221) (o26_93 e_9 e_16 e_17 e_18 c_19 e_194 e_201 e_202 e_203 c_205) (o26_94 e_9 e_16 e_17 e_18 c_19 e_194 e_201 e_202 e_203 c_205) (o26_95 b_130 b_131) (o26_96 b_130 b_131) (((show FT = R43 (xso SC ad ws_208) i1 r_6.toInt x4_119.toInt r_198.toInt v_216.toInt v_218.toInt v_220.toInt from HE.trans (by rw [e_221, e_219, e_217, (o26_92 e_9 e_16 e_17 e_18 c_19 e_194 e_201 e_202 e_203 c_205)]; rfl)).trans (by rw [hR43]))) h (Fr.tr (Fr.tr (Fr.tr hF_121 (Fr.mono u_189 (by decide))) (Fr.mono u_196 (by decide))) (Fr.mono u_209 (by decide))) (lv_sub hl [0, 1, 2, 3, 5, 6, 7, 8, 9] rfl)
    exact lp_122 ((40 - v_113.toInt + 1).toNat) v_113 v_111 v_109 v_107 v_104 _ _ _ _ (o26_97 e_114) (o26_73 e_114) (o26_98 e_114) (o26_1 e_108) (o26_99 e_108) (o26_100 e_105) (o26_101 e_105) ((show FT = L19_X11_goWalk (Int.toNat (40 - v_113.toInt + 1)) (xso SC ad ws_10) i1 r_6.toInt v_104.toInt v_107.toInt v_109.toInt v_111.toInt v_113.toInt from HE.trans (by rw [e_114, e_112, e_110, e_108, e_105]; rfl))) h Fr.rf (lv_sub hl [0, 1, 2, 3, 4, 5, 6, 7, 8] rfl)
noncomputable def g16c_X11_liveOnce (s : XS) (r_52 : Int) : XR := (s, 1)
noncomputable def g14_X11_liveOnce (s : XS) (v_36 : Int) : XR := g16c_X11_liveOnce ((f_X0_step s 1 0 v_36).1) (((f_X0_step s 1 0 v_36).2))
noncomputable def g15_X11_liveOnce (s : XS) : XR := (s, 0)
noncomputable def g13b_X11_liveOnce (s : XS) (r_41 : Int) (v_36 : Int) : XR := if r_41 = 0 then g14_X11_liveOnce s v_36 else g15_X11_liveOnce s
noncomputable def g12c_X11_liveOnce (s : XS) (r_41 : Int) (v_36 : Int) : XR := g13b_X11_liveOnce s r_41 v_36
noncomputable def g11c_X11_liveOnce (s : XS) (r_29 : Int) : XR := g12c_X11_liveOnce ((f_X0_hindrance s 1 0 (r_29 % 4)).1) (((f_X0_hindrance s 1 0 (r_29 % 4)).2)) ((r_29 % 4))
noncomputable def g9_X11_liveOnce (s : XS) : XR := g11c_X11_liveOnce ((f_X11_draw s).1) (((f_X11_draw s).2))
noncomputable def g17c_X11_liveOnce (s : XS) (r_64 : Int) : XR := (s, r_64)
noncomputable def g10_X11_liveOnce (s : XS) : XR := g17c_X11_liveOnce ((f_X0_buysOne s 1 0).1) (((f_X0_buysOne s 1 0).2))
noncomputable def g8b_X11_liveOnce (s : XS) (v_11 : Int) : XR := if v_11 = 2 then g10_X11_liveOnce s else g9_X11_liveOnce s
noncomputable def g6_X11_liveOnce (s : XS) (v_11 : Int) : XR := g8b_X11_liveOnce s v_11
noncomputable def g27c_X11_liveOnce (s : XS) (r_110 : Int) : XR := (s, 1)
noncomputable def g25_X11_liveOnce (s : XS) (v_77 : Int) (v_94 : Int) : XR := g27c_X11_liveOnce ((f_X0_step s 1 v_77 v_94).1) (((f_X0_step s 1 v_77 v_94).2))
noncomputable def g26_X11_liveOnce (s : XS) : XR := (s, 0)
noncomputable def g24b_X11_liveOnce (s : XS) (r_99 : Int) (v_77 : Int) (v_94 : Int) : XR := if r_99 = 0 then g25_X11_liveOnce s v_77 v_94 else g26_X11_liveOnce s
noncomputable def g23c_X11_liveOnce (s : XS) (r_99 : Int) (v_77 : Int) (v_94 : Int) : XR := g24b_X11_liveOnce s r_99 v_77 v_94
noncomputable def g22c_X11_liveOnce (s : XS) (r_87 : Int) (v_77 : Int) : XR := g23c_X11_liveOnce ((f_X0_hindrance s 1 v_77 (r_87 % 4)).1) (((f_X0_hindrance s 1 v_77 (r_87 % 4)).2)) v_77 ((r_87 % 4))
noncomputable def g20_X11_liveOnce (s : XS) (v_77 : Int) : XR := g22c_X11_liveOnce ((f_X11_draw s).1) (((f_X11_draw s).2)) v_77
noncomputable def g28c_X11_liveOnce (s : XS) (r_122 : Int) : XR := (s, r_122)
noncomputable def g21_X11_liveOnce (s : XS) (v_77 : Int) : XR := g28c_X11_liveOnce ((f_X0_buysOne s 1 v_77).1) (((f_X0_buysOne s 1 v_77).2))
noncomputable def g19b_X11_liveOnce (s : XS) (v_11 : Int) (v_77 : Int) : XR := if v_11 = 2 then g21_X11_liveOnce s v_77 else g20_X11_liveOnce s v_77
noncomputable def g18c_X11_liveOnce (s : XS) (r_72 : Int) (v_11 : Int) (v_16 : Int) : XR := g19b_X11_liveOnce s v_11 ((r_72 % v_16))
noncomputable def g7_X11_liveOnce (s : XS) (v_11 : Int) (v_16 : Int) : XR := g18c_X11_liveOnce ((f_X11_draw s).1) (((f_X11_draw s).2)) v_11 v_16
noncomputable def g5b_X11_liveOnce (s : XS) (v_16 : Int) (v_11 : Int) : XR := if 0 < v_16 then g7_X11_liveOnce s v_11 v_16 else g6_X11_liveOnce s v_11
noncomputable def g3_X11_liveOnce (s : XS) (v_11 : Int) : XR := g5b_X11_liveOnce s ((s 0 10 7)) v_11
noncomputable def g29w_X11_liveOnce (s : XS) : XR := (s, 1)
noncomputable def g4_X11_liveOnce (s : XS) : XR := g29w_X11_liveOnce (xup s 0 10 8 (Xiadd (s 0 10 8) 1))
noncomputable def g2b_X11_liveOnce (s : XS) (v_11 : Int) : XR := if v_11 = 3 then g4_X11_liveOnce s else g3_X11_liveOnce s v_11
noncomputable def g1c_X11_liveOnce (s : XS) (r_4 : Int) : XR := g2b_X11_liveOnce s ((r_4 % 4))
noncomputable def f_X11_liveOnce (s : XS) : XR := g1c_X11_liveOnce ((f_X11_draw s).1) (((f_X11_draw s).2))
set_option maxHeartbeats 4000000 in
set_option maxRecDepth 100000 in
theorem c_X11_liveOnce (l : Launch) (G : GG) (Z : RZ) (ad : Nat → Nat) (ws0 : va_W) (hT : Ty G SC ad ws0) (hR : Rel ws0) : Mq l yX11_liveOnce cX11_liveOnce 5 (some .boolean) 5 G Z [.ref (ad 0)] ws0 (PI G SC ad [0, 4, 5, 6, 7, 8, 9, 10, 11, 12] ws0 (fun r u => (xso SC ad u = (f_X11_liveOnce (xso SC ad ws0)).1) ∧ (r.toInt = (f_X11_liveOnce (xso SC ad ws0)).2) ∧ (0 ≤ r.toInt) ∧ (r.toInt ≤ 1))) := by
  refine Mq.start (by decide) (Nat.le_of_ble_eq_true rfl) ?_
  intro p e s m below meth c A ls C0 hZ h hl
  have hl : lv_has ls 5 [(0, .ref (ad 0))] := hl
  have h : Wt G SC ad A s s.heap [] ws0 := ⟨h, hT⟩
  obtain ⟨args, hargs⟩ : ∃ z, z = ([.ref (ad 0)] : List Value).toArray := ⟨_, rfl⟩
  rw [← hargs] at C0 ⊢
  have C0 : Cx p s m args meth c RX11 cX11_liveOnce 5 (some .boolean) := C0
  obtain ⟨Q, hQ⟩ : ∃ z, z = MQ below ((PI G SC ad [0, 4, 5, 6, 7, 8, 9, 10, 11, 12] ws0 (fun r u => (xso SC ad u = (f_X11_liveOnce (xso SC ad ws0)).1) ∧ (r.toInt = (f_X11_liveOnce (xso SC ad ws0)).2) ∧ (0 ≤ r.toInt) ∧ (r.toInt ≤ 1))) A) args s 0 0 A := ⟨_, rfl⟩
  rw [← hQ]
  obtain ⟨FT, hFT⟩ : ∃ z, z = f_X11_liveOnce (xso SC ad ws0) := ⟨_, rfl⟩
  have HE : FT = f_X11_liveOnce (xso SC ad ws0) := hFT
  refine lv_aload_n C0.1 C0.2.1 dX11_liveOnce_0 rfl (lv_at hl 0 rfl) ?_
  refine y_ci h (y_rV (As := []) (rest := []) C0 hZ h (c_X11_draw l G Z ad _ h.2) k_X11_draw q_1058 q_30 q_1056 kSC_0 rfl rfl rfl hl.1 rfl rfl (Nat.le_of_ble_eq_true rfl) dX11_liveOnce_1 ⟨Nat.le_of_ble_eq_true rfl, Nat.le_of_ble_eq_true rfl⟩ ⟨Nat.le_of_ble_eq_true rfl, Nat.le_of_ble_eq_true rfl⟩) (fun r_4 H locs ws_1 h u_2 p_3 => ?_)
  obtain ⟨e_5, e_6, e_7, e_8⟩ := p_3
  replace HE : FT = g1c_X11_liveOnce (xso SC ad ws_1) r_4.toInt := HE.trans (by rw [e_5, e_6]; rfl)
  refine y_c1 (n := 4) C0 (by decide) dX11_liveOnce_4 (fun v_9 e_10 => ?_)
  refine y_remc (n := 4) C0 (o26_13 e_10) (by decide) (o26_55 e_7 e_8) dX11_liveOnce_5 (fun v_11 e_12 => ?_)
  refine lv_istore_n (lv' := [(1, .int v_11), (0, .ref (ad 0))]) C0.1 C0.2.1 dX11_liveOnce_6 rfl hl (by decide) rfl (fun ls hl => ?_)
  refine lv_iload_n C0.1 C0.2.1 dX11_liveOnce_7 rfl (lv_at hl 0 rfl) ?_
  refine y_c1 (n := 3) C0 (by decide) dX11_liveOnce_8 (fun v_13 e_14 => ?_)
  replace HE : FT = g2b_X11_liveOnce (xso SC ad ws_1) v_11.toInt := HE.trans (by rw [e_12]; rfl)
  refine y_icmp_ne (tgt := 30) C0 dX11_liveOnce_9 (by decide) (fun c_15 => ?_) (fun c_15 => ?_)
  · -- 9
    replace HE : FT = g3_X11_liveOnce (xso SC ad ws_1) v_11.toInt := HE.trans (if_neg (o26_103 e_7 e_8 e_12 e_14 c_15))
    refine lv_aload_n C0.1 C0.2.1 dX11_liveOnce_30 rfl (lv_at hl 1 rfl) ?_
    refine tg_X11_now C0 h kSC_0 q_515 dX11_liveOnce_31 ?_
    refine tg_X0_folk C0 h kSC_1 q_249 dX11_liveOnce_34 ?_
    refine tg_X1_people C0 h kSC_10 q_215 dX11_liveOnce_37 (fun v_16 e_17 e_18 e_19 => ?_)
    refine lv_istore_n (lv' := [(2, .int v_16), (1, .int v_11), (0, .ref (ad 0))]) C0.1 C0.2.1 dX11_liveOnce_40 rfl hl (by decide) rfl (fun ls hl => ?_)
    refine lv_iload_n C0.1 C0.2.1 dX11_liveOnce_41 rfl (lv_at hl 0 rfl) ?_
    replace HE : FT = g5b_X11_liveOnce (xso SC ad ws_1) v_16.toInt v_11.toInt := HE.trans (by rw [(xg0 e_17 : v_16.toInt = (xso SC ad ws_1) 0 10 7)]; rfl)
    refine y_if_le (tgt := 54) C0 dX11_liveOnce_42 (by decide) (fun c_20 => ?_) (fun c_20 => ?_)
    · -- 42
      replace HE : FT = g6_X11_liveOnce (xso SC ad ws_1) v_11.toInt := HE.trans (if_neg (Int.not_lt.mpr c_20))
      refine y_c1 (n := 0) C0 (by decide) dX11_liveOnce_54 (fun v_21 e_22 => ?_)
      refine lv_istore_n (lv' := [(3, .int v_21), (2, .int v_16), (1, .int v_11), (0, .ref (ad 0))]) C0.1 C0.2.1 dX11_liveOnce_55 rfl hl (by decide) rfl (fun ls hl => ?_)
      refine lv_iload_n C0.1 C0.2.1 dX11_liveOnce_56 rfl (lv_at hl 2 rfl) ?_
      refine y_c1 (n := 2) C0 (by decide) dX11_liveOnce_57 (fun v_23 e_24 => ?_)
      replace HE : FT = g8b_X11_liveOnce (xso SC ad ws_1) v_11.toInt := HE.trans rfl
      refine y_icmp_ne (tgt := 70) C0 dX11_liveOnce_58 (by decide) (fun c_25 => ?_) (fun c_25 => ?_)
      · -- 58
        replace HE : FT = g9_X11_liveOnce (xso SC ad ws_1) := HE.trans (if_neg (o26_106 e_7 e_8 e_12 e_14 c_15 e_24 c_25))
        refine lv_aload_n C0.1 C0.2.1 dX11_liveOnce_70 rfl (lv_at hl 3 rfl) ?_
        refine y_ci h (y_rV (As := []) (rest := []) C0 hZ h (c_X11_draw l G Z ad _ h.2) k_X11_draw q_1058 q_30 q_1056 kSC_0 rfl rfl rfl hl.1 rfl rfl (Nat.le_of_ble_eq_true rfl) dX11_liveOnce_71 ⟨Nat.le_of_ble_eq_true rfl, Nat.le_of_ble_eq_true rfl⟩ ⟨Nat.le_of_ble_eq_true rfl, Nat.le_of_ble_eq_true rfl⟩) (fun r_29 H locs ws_26 h u_27 p_28 => ?_)
        obtain ⟨e_30, e_31, e_32, e_33⟩ := p_28
        replace HE : FT = g11c_X11_liveOnce (xso SC ad ws_26) r_29.toInt := HE.trans (by rw [e_30, e_31]; rfl)
        refine y_c1 (n := 4) C0 (by decide) dX11_liveOnce_74 (fun v_34 e_35 => ?_)
        refine y_remc (n := 4) C0 (o26_13 e_35) (by decide) (o26_55 e_32 e_33) dX11_liveOnce_75 (fun v_36 e_37 => ?_)
        refine lv_istore (lv' := [(4, .int v_36), (3, .int v_21), (2, .int v_16), (1, .int v_11), (0, .ref (ad 0))]) C0.1 C0.2.1 dX11_liveOnce_76 hl (by decide) rfl (fun ls hl => ?_)
        refine lv_aload_n C0.1 C0.2.1 dX11_liveOnce_78 rfl (lv_at hl 4 rfl) ?_
        refine tg_X11_now C0 h kSC_0 q_515 dX11_liveOnce_79 ?_
        refine lv_iload_n C0.1 C0.2.1 dX11_liveOnce_82 rfl (lv_at hl 1 rfl) ?_
        refine lv_iload C0.1 C0.2.1 dX11_liveOnce_83 (lv_at hl 0 rfl) ?_
        refine y_ci h (y_rV (As := [.int v_21, .int v_36]) (rest := []) C0 hZ h (c_X0_hindrance l G Z ad _ h.2 1 kSC_1 v_21 v_36 (Rel.fr (M := [0]) hR (Fr.tr u_2 u_27) (by decide) (by decide))) k_X0_hindrance q_965 q_966 q_964 kSC_1 rfl rfl rfl hl.1 rfl rfl (Nat.le_of_ble_eq_true rfl) dX11_liveOnce_85 ⟨Nat.le_of_ble_eq_true rfl, Nat.le_of_ble_eq_true rfl⟩ ⟨Nat.le_of_ble_eq_true rfl, Nat.le_of_ble_eq_true rfl⟩) (fun r_41 H locs ws_38 h u_39 p_40 => ?_)
        obtain ⟨e_42, e_43, e_44, e_45, e_46, e_47⟩ := p_40
        replace HE : FT = g12c_X11_liveOnce (xso SC ad ws_38) r_41.toInt v_36.toInt := HE.trans (by rw [e_42, e_43, e_37, (o26_108 e_22 e_32 e_33 e_37 e_44 e_45 e_46)]; rfl)
        replace HE : FT = g13b_X11_liveOnce (xso SC ad ws_38) r_41.toInt v_36.toInt := HE.trans rfl
        refine y_if_eq (tgt := 93) C0 dX11_liveOnce_88 (by decide) (fun c_48 => ?_) (fun c_48 => ?_)
        · -- 88
          replace HE : FT = g14_X11_liveOnce (xso SC ad ws_38) v_36.toInt := HE.trans (if_pos c_48)
          refine lv_aload_n C0.1 C0.2.1 dX11_liveOnce_93 rfl (lv_at hl 4 rfl) ?_
          refine tg_X11_now C0 h kSC_0 q_515 dX11_liveOnce_94 ?_
          refine lv_iload_n C0.1 C0.2.1 dX11_liveOnce_97 rfl (lv_at hl 1 rfl) ?_
          refine lv_iload C0.1 C0.2.1 dX11_liveOnce_98 (lv_at hl 0 rfl) ?_
          refine y_ci h (y_rV (As := [.int v_21, .int v_36]) (rest := []) C0 hZ h (c_X0_step l G Z ad _ h.2 1 kSC_1 v_21 v_36 (o26_109 e_22 e_32 e_33 e_37 e_44 e_45 e_46 c_48) (o26_110 e_22 e_32 e_33 e_37 e_44 e_45 e_46 c_48) (o26_111 e_22 e_32 e_33 e_37 e_44 e_45 e_46 c_48) (o26_112 e_22 e_32 e_33 e_37 e_44 e_45 e_46 c_48) (Rel.fr (M := [0, 4, 5]) hR (Fr.tr (Fr.tr (Fr.mono u_2 (by decide)) (Fr.mono u_27 (by decide))) (Fr.mono u_39 (by decide))) (by decide) (by decide)) ((CanGo.fr u_39 kSC_1 (by decide) (by decide) (by decide) (e_47 (o26_113 e_22 e_32 e_33 e_37 e_44 e_45 e_46 c_48))))) k_X0_step q_989 q_990 q_988 kSC_1 rfl rfl rfl hl.1 rfl rfl (Nat.le_of_ble_eq_true rfl) dX11_liveOnce_100 ⟨Nat.le_of_ble_eq_true rfl, Nat.le_of_ble_eq_true rfl⟩ ⟨Nat.le_of_ble_eq_true rfl, Nat.le_of_ble_eq_true rfl⟩) (fun r_52 H locs ws_49 h u_50 p_51 => ?_)
          obtain ⟨e_53, e_54, e_55, e_56⟩ := p_51
          replace HE : FT = g16c_X11_liveOnce (xso SC ad ws_49) r_52.toInt := HE.trans (by rw [e_53, e_54, (o26_114 e_22 e_32 e_33 e_37 e_44 e_45 e_46 c_48)]; rfl)
          refine lv_pop C0.1 C0.2.1 dX11_liveOnce_103 rfl ?_
          refine y_c1 (n := 1) C0 (by decide) dX11_liveOnce_104 (fun v_57 e_58 => ?_)
          replace HE : FT = ((xso SC ad ws_49), v_57.toInt) := HE.trans (by rw [e_58]; rfl)
          rw [hQ]
          exact y_zret C0 h (o26_5 e_58) (o26_6 e_58) (Fr.tr (Fr.tr (Fr.tr (Fr.mono u_2 (by decide)) (Fr.mono u_27 (by decide))) (Fr.mono u_39 (by decide))) (Fr.mono u_50 (by decide))) ⟨(congrArg Prod.fst (HE.symm.trans hFT)), (congrArg Prod.snd (HE.symm.trans hFT)), (o26_5 e_58), (o26_6 e_58)⟩ dX11_liveOnce_105
        · -- 88
          replace HE : FT = g15_X11_liveOnce (xso SC ad ws_38) := HE.trans (if_neg c_48)
          refine y_c1 (n := 0) C0 (by decide) dX11_liveOnce_91 (fun v_59 e_60 => ?_)
          replace HE : FT = ((xso SC ad ws_38), v_59.toInt) := HE.trans (by rw [e_60]; rfl)
          rw [hQ]
          exact y_zret C0 h (o26_1 e_60) (o26_2 e_60) (Fr.tr (Fr.tr (Fr.mono u_2 (by decide)) (Fr.mono u_27 (by decide))) (Fr.mono u_39 (by decide))) ⟨(congrArg Prod.fst (HE.symm.trans hFT)), (congrArg Prod.snd (HE.symm.trans hFT)), (o26_1 e_60), (o26_2 e_60)⟩ dX11_liveOnce_92
      · -- 58
        replace HE : FT = g10_X11_liveOnce (xso SC ad ws_1) := HE.trans (if_pos (o26_107 e_7 e_8 e_12 e_14 c_15 e_24 c_25))
        refine lv_aload_n C0.1 C0.2.1 dX11_liveOnce_61 rfl (lv_at hl 3 rfl) ?_
        refine tg_X11_now C0 h kSC_0 q_515 dX11_liveOnce_62 ?_
        refine lv_iload_n C0.1 C0.2.1 dX11_liveOnce_65 rfl (lv_at hl 0 rfl) ?_
        refine y_ci h (y_rV (As := [.int v_21]) (rest := []) C0 hZ h (c_X0_buysOne l G Z ad _ h.2 1 kSC_1 v_21 (o26_1 e_22) (o26_99 e_22)) k_X0_buysOne q_1062 q_1063 q_1061 kSC_1 rfl rfl rfl hl.1 rfl rfl (Nat.le_of_ble_eq_true rfl) dX11_liveOnce_66 ⟨Nat.le_of_ble_eq_true rfl, Nat.le_of_ble_eq_true rfl⟩ ⟨Nat.le_of_ble_eq_true rfl, Nat.le_of_ble_eq_true rfl⟩) (fun r_64 H locs ws_61 h u_62 p_63 => ?_)
        obtain ⟨e_65, e_66, e_67, e_68⟩ := p_63
        replace HE : FT = g17c_X11_liveOnce (xso SC ad ws_61) r_64.toInt := HE.trans (by rw [e_65, e_66, (o26_115 e_22)]; rfl)
        replace HE : FT = ((xso SC ad ws_61), r_64.toInt) := HE.trans rfl
        rw [hQ]
        exact y_zret C0 h (o26_116 e_67 e_68) (o26_117 e_67 e_68) (Fr.tr (Fr.mono u_2 (by decide)) (Fr.mono u_62 (by decide))) ⟨(congrArg Prod.fst (HE.symm.trans hFT)), (congrArg Prod.snd (HE.symm.trans hFT)), (o26_116 e_67 e_68), (o26_117 e_67 e_68)⟩ dX11_liveOnce_69
    · -- 42
      replace HE : FT = g7_X11_liveOnce (xso SC ad ws_1) v_11.toInt v_16.toInt := HE.trans (if_pos c_20)
      refine lv_aload_n C0.1 C0.2.1 dX11_liveOnce_45 rfl (lv_at hl 2 rfl) ?_
      refine y_ci h (y_rV (As := []) (rest := []) C0 hZ h (c_X11_draw l G Z ad _ h.2) k_X11_draw q_1058 q_30 q_1056 kSC_0 rfl rfl rfl hl.1 rfl rfl (Nat.le_of_ble_eq_true rfl) dX11_liveOnce_46 ⟨Nat.le_of_ble_eq_true rfl, Nat.le_of_ble_eq_true rfl⟩ ⟨Nat.le_of_ble_eq_true rfl, Nat.le_of_ble_eq_true rfl⟩) (fun r_72 H locs ws_69 h u_70 p_71 => ?_)
      obtain ⟨e_73, e_74, e_75, e_76⟩ := p_71
      replace HE : FT = g18c_X11_liveOnce (xso SC ad ws_69) r_72.toInt v_11.toInt v_16.toInt := HE.trans (by rw [e_73, e_74]; rfl)
      refine lv_iload_n C0.1 C0.2.1 dX11_liveOnce_49 rfl (lv_at hl 0 rfl) ?_
      refine y_remXm C0 (o26_118 e_18 e_19 c_20) (o26_55 e_75 e_76) dX11_liveOnce_50 (fun v_77 e_78 e_79 e_80 => ?_)
      refine lv_goto (tgt := 55) C0.1 C0.2.1 dX11_liveOnce_51 (by decide) ?_
      refine lv_istore_n (lv' := [(3, .int v_77), (2, .int v_16), (1, .int v_11), (0, .ref (ad 0))]) C0.1 C0.2.1 dX11_liveOnce_55 rfl hl (by decide) rfl (fun ls hl => ?_)
      refine lv_iload_n C0.1 C0.2.1 dX11_liveOnce_56 rfl (lv_at hl 2 rfl) ?_
      refine y_c1 (n := 2) C0 (by decide) dX11_liveOnce_57 (fun v_81 e_82 => ?_)
      replace HE : FT = g19b_X11_liveOnce (xso SC ad ws_69) v_11.toInt v_77.toInt := HE.trans (by rw [e_78]; rfl)
      refine y_icmp_ne (tgt := 70) C0 dX11_liveOnce_58 (by decide) (fun c_83 => ?_) (fun c_83 => ?_)
      · -- 58
        replace HE : FT = g20_X11_liveOnce (xso SC ad ws_69) v_77.toInt := HE.trans (if_neg (o26_106 e_7 e_8 e_12 e_14 c_15 e_82 c_83))
        refine lv_aload_n C0.1 C0.2.1 dX11_liveOnce_70 rfl (lv_at hl 3 rfl) ?_
        refine y_ci h (y_rV (As := []) (rest := []) C0 hZ h (c_X11_draw l G Z ad _ h.2) k_X11_draw q_1058 q_30 q_1056 kSC_0 rfl rfl rfl hl.1 rfl rfl (Nat.le_of_ble_eq_true rfl) dX11_liveOnce_71 ⟨Nat.le_of_ble_eq_true rfl, Nat.le_of_ble_eq_true rfl⟩ ⟨Nat.le_of_ble_eq_true rfl, Nat.le_of_ble_eq_true rfl⟩) (fun r_87 H locs ws_84 h u_85 p_86 => ?_)
        obtain ⟨e_88, e_89, e_90, e_91⟩ := p_86
        replace HE : FT = g22c_X11_liveOnce (xso SC ad ws_84) r_87.toInt v_77.toInt := HE.trans (by rw [e_88, e_89]; rfl)
        refine y_c1 (n := 4) C0 (by decide) dX11_liveOnce_74 (fun v_92 e_93 => ?_)
        refine y_remc (n := 4) C0 (o26_13 e_93) (by decide) (o26_55 e_90 e_91) dX11_liveOnce_75 (fun v_94 e_95 => ?_)
        refine lv_istore (lv' := [(4, .int v_94), (3, .int v_77), (2, .int v_16), (1, .int v_11), (0, .ref (ad 0))]) C0.1 C0.2.1 dX11_liveOnce_76 hl (by decide) rfl (fun ls hl => ?_)
        refine lv_aload_n C0.1 C0.2.1 dX11_liveOnce_78 rfl (lv_at hl 4 rfl) ?_
        refine tg_X11_now C0 h kSC_0 q_515 dX11_liveOnce_79 ?_
        refine lv_iload_n C0.1 C0.2.1 dX11_liveOnce_82 rfl (lv_at hl 1 rfl) ?_
        refine lv_iload C0.1 C0.2.1 dX11_liveOnce_83 (lv_at hl 0 rfl) ?_
        refine y_ci h (y_rV (As := [.int v_77, .int v_94]) (rest := []) C0 hZ h (c_X0_hindrance l G Z ad _ h.2 1 kSC_1 v_77 v_94 (Rel.fr (M := [0]) hR (Fr.tr (Fr.tr u_2 u_70) u_85) (by decide) (by decide))) k_X0_hindrance q_965 q_966 q_964 kSC_1 rfl rfl rfl hl.1 rfl rfl (Nat.le_of_ble_eq_true rfl) dX11_liveOnce_85 ⟨Nat.le_of_ble_eq_true rfl, Nat.le_of_ble_eq_true rfl⟩ ⟨Nat.le_of_ble_eq_true rfl, Nat.le_of_ble_eq_true rfl⟩) (fun r_99 H locs ws_96 h u_97 p_98 => ?_)
        obtain ⟨e_100, e_101, e_102, e_103, e_104, e_105⟩ := p_98
        replace HE : FT = g23c_X11_liveOnce (xso SC ad ws_96) r_99.toInt v_77.toInt v_94.toInt := HE.trans (by rw [e_100, e_101, e_95]; rfl)
        replace HE : FT = g24b_X11_liveOnce (xso SC ad ws_96) r_99.toInt v_77.toInt v_94.toInt := HE.trans rfl
        refine y_if_eq (tgt := 93) C0 dX11_liveOnce_88 (by decide) (fun c_106 => ?_) (fun c_106 => ?_)
        · -- 88
          replace HE : FT = g25_X11_liveOnce (xso SC ad ws_96) v_77.toInt v_94.toInt := HE.trans (if_pos c_106)
          refine lv_aload_n C0.1 C0.2.1 dX11_liveOnce_93 rfl (lv_at hl 4 rfl) ?_
          refine tg_X11_now C0 h kSC_0 q_515 dX11_liveOnce_94 ?_
          refine lv_iload_n C0.1 C0.2.1 dX11_liveOnce_97 rfl (lv_at hl 1 rfl) ?_
          refine lv_iload C0.1 C0.2.1 dX11_liveOnce_98 (lv_at hl 0 rfl) ?_
          refine y_ci h (y_rV (As := [.int v_77, .int v_94]) (rest := []) C0 hZ h (c_X0_step l G Z ad _ h.2 1 kSC_1 v_77 v_94 (o26_119 e_18 e_19 c_20 e_75 e_76 e_78 e_79 e_80 e_90 e_91 e_95 e_102 e_103 e_104 c_106) (o26_120 e_18 e_19 c_20 e_75 e_76 e_78 e_79 e_80 e_90 e_91 e_95 e_102 e_103 e_104 c_106) (o26_121 e_18 e_19 c_20 e_75 e_76 e_78 e_79 e_80 e_90 e_91 e_95 e_102 e_103 e_104 c_106) (o26_122 e_18 e_19 c_20 e_75 e_76 e_78 e_79 e_80 e_90 e_91 e_95 e_102 e_103 e_104 c_106) (Rel.fr (M := [0, 4, 5]) hR (Fr.tr (Fr.tr (Fr.tr (Fr.mono u_2 (by decide)) (Fr.mono u_70 (by decide))) (Fr.mono u_85 (by decide))) (Fr.mono u_97 (by decide))) (by decide) (by decide)) ((CanGo.fr u_97 kSC_1 (by decide) (by decide) (by decide) (e_105 (o26_123 e_18 e_19 c_20 e_75 e_76 e_78 e_79 e_80 e_90 e_91 e_95 e_102 e_103 e_104 c_106))))) k_X0_step q_989 q_990 q_988 kSC_1 rfl rfl rfl hl.1 rfl rfl (Nat.le_of_ble_eq_true rfl) dX11_liveOnce_100 ⟨Nat.le_of_ble_eq_true rfl, Nat.le_of_ble_eq_true rfl⟩ ⟨Nat.le_of_ble_eq_true rfl, Nat.le_of_ble_eq_true rfl⟩) (fun r_110 H locs ws_107 h u_108 p_109 => ?_)
          obtain ⟨e_111, e_112, e_113, e_114⟩ := p_109
          replace HE : FT = g27c_X11_liveOnce (xso SC ad ws_107) r_110.toInt := HE.trans (by rw [e_111, e_112]; rfl)
          refine lv_pop C0.1 C0.2.1 dX11_liveOnce_103 rfl ?_
          refine y_c1 (n := 1) C0 (by decide) dX11_liveOnce_104 (fun v_115 e_116 => ?_)
          replace HE : FT = ((xso SC ad ws_107), v_115.toInt) := HE.trans (by rw [e_116]; rfl)
          rw [hQ]
          exact y_zret C0 h (o26_5 e_116) (o26_6 e_116) (Fr.tr (Fr.tr (Fr.tr (Fr.tr (Fr.mono u_2 (by decide)) (Fr.mono u_70 (by decide))) (Fr.mono u_85 (by decide))) (Fr.mono u_97 (by decide))) (Fr.mono u_108 (by decide))) ⟨(congrArg Prod.fst (HE.symm.trans hFT)), (congrArg Prod.snd (HE.symm.trans hFT)), (o26_5 e_116), (o26_6 e_116)⟩ dX11_liveOnce_105
        · -- 88
          replace HE : FT = g26_X11_liveOnce (xso SC ad ws_96) := HE.trans (if_neg c_106)
          refine y_c1 (n := 0) C0 (by decide) dX11_liveOnce_91 (fun v_117 e_118 => ?_)
          replace HE : FT = ((xso SC ad ws_96), v_117.toInt) := HE.trans (by rw [e_118]; rfl)
          rw [hQ]
          exact y_zret C0 h (o26_1 e_118) (o26_2 e_118) (Fr.tr (Fr.tr (Fr.tr (Fr.mono u_2 (by decide)) (Fr.mono u_70 (by decide))) (Fr.mono u_85 (by decide))) (Fr.mono u_97 (by decide))) ⟨(congrArg Prod.fst (HE.symm.trans hFT)), (congrArg Prod.snd (HE.symm.trans hFT)), (o26_1 e_118), (o26_2 e_118)⟩ dX11_liveOnce_92
      · -- 58
        replace HE : FT = g21_X11_liveOnce (xso SC ad ws_69) v_77.toInt := HE.trans (if_pos (o26_107 e_7 e_8 e_12 e_14 c_15 e_82 c_83))
        refine lv_aload_n C0.1 C0.2.1 dX11_liveOnce_61 rfl (lv_at hl 3 rfl) ?_
        refine tg_X11_now C0 h kSC_0 q_515 dX11_liveOnce_62 ?_
        refine lv_iload_n C0.1 C0.2.1 dX11_liveOnce_65 rfl (lv_at hl 0 rfl) ?_
        refine y_ci h (y_rV (As := [.int v_77]) (rest := []) C0 hZ h (c_X0_buysOne l G Z ad _ h.2 1 kSC_1 v_77 (o26_124 e_18 e_19 c_20 e_75 e_76 e_78 e_79 e_80) (o26_125 e_18 e_19 c_20 e_75 e_76 e_78 e_79 e_80)) k_X0_buysOne q_1062 q_1063 q_1061 kSC_1 rfl rfl rfl hl.1 rfl rfl (Nat.le_of_ble_eq_true rfl) dX11_liveOnce_66 ⟨Nat.le_of_ble_eq_true rfl, Nat.le_of_ble_eq_true rfl⟩ ⟨Nat.le_of_ble_eq_true rfl, Nat.le_of_ble_eq_true rfl⟩) (fun r_122 H locs ws_119 h u_120 p_121 => ?_)
        obtain ⟨e_123, e_124, e_125, e_126⟩ := p_121
        replace HE : FT = g28c_X11_liveOnce (xso SC ad ws_119) r_122.toInt := HE.trans (by rw [e_123, e_124]; rfl)
        replace HE : FT = ((xso SC ad ws_119), r_122.toInt) := HE.trans rfl
        rw [hQ]
        exact y_zret C0 h (o26_116 e_125 e_126) (o26_117 e_125 e_126) (Fr.tr (Fr.tr (Fr.mono u_2 (by decide)) (Fr.mono u_70 (by decide))) (Fr.mono u_120 (by decide))) ⟨(congrArg Prod.fst (HE.symm.trans hFT)), (congrArg Prod.snd (HE.symm.trans hFT)), (o26_116 e_125 e_126), (o26_117 e_125 e_126)⟩ dX11_liveOnce_69
  · -- 9
    replace HE : FT = g4_X11_liveOnce (xso SC ad ws_1) := HE.trans (if_pos (o26_104 e_7 e_8 e_12 e_14 c_15))
    refine lv_aload_n C0.1 C0.2.1 dX11_liveOnce_12 rfl (lv_at hl 1 rfl) ?_
    refine tg_X11_now C0 h kSC_0 q_515 dX11_liveOnce_13 ?_
    refine tg_X0_folk C0 h kSC_1 q_249 dX11_liveOnce_16 ?_
    refine lv_dup C0.1 C0.2.1 dX11_liveOnce_19 rfl ?_
    refine tg_X1_hours C0 h kSC_10 q_220 dX11_liveOnce_20 (fun v_127 e_128 e_129 e_130 => ?_)
    refine y_c1 (n := 1) C0 (by decide) dX11_liveOnce_23 (fun v_131 e_132 => ?_)
    refine xr_iadd C0 dX11_liveOnce_24 (fun v_133 e_134 => ?_)
    refine tp_X1_hours C0 h kSC_10 q_220 (le_min v_133) (le_max v_133) dX11_liveOnce_25 (fun H locs ws_135 h u_136 Xu_136 => ?_)
    replace HE : FT = g29w_X11_liveOnce (xso SC ad ws_135) := HE.trans (by rw [Xu_136, e_134, e_132, (xg0 e_128 : v_127.toInt = (xso SC ad ws_1) 0 10 8)]; rfl)
    refine y_c1 (n := 1) C0 (by decide) dX11_liveOnce_28 (fun v_137 e_138 => ?_)
    replace HE : FT = ((xso SC ad ws_135), v_137.toInt) := HE.trans (by rw [e_138]; rfl)
    rw [hQ]
    exact y_zret C0 h (o26_5 e_138) (o26_6 e_138) (Fr.tr (Fr.mono u_2 (by decide)) (Fr.up u_136.1 kSC_10 (by decide))) ⟨(congrArg Prod.fst (HE.symm.trans hFT)), (congrArg Prod.snd (HE.symm.trans hFT)), (o26_5 e_138), (o26_6 e_138)⟩ dX11_liveOnce_29
