variable {tt : QQ}
theorem dX12_boughtBy_0 : decode cX12_boughtBy 0 = .ok (.aload_n 0, 1) := by decide +kernel
theorem dX12_boughtBy_1 : decode cX12_boughtBy 1 = .ok (.invokevirtual 297, 3) := by decide +kernel
theorem dX12_boughtBy_4 : decode cX12_boughtBy 4 = .ok (.aload_n 0, 1) := by decide +kernel
theorem dX12_boughtBy_5 : decode cX12_boughtBy 5 = .ok (.iload_n 1, 1) := by decide +kernel
theorem dX12_boughtBy_6 : decode cX12_boughtBy 6 = .ok (.iload_n 2, 1) := by decide +kernel
theorem dX12_boughtBy_7 : decode cX12_boughtBy 7 = .ok (.invokevirtual 321, 3) := by decide +kernel
theorem dX12_boughtBy_10 : decode cX12_boughtBy 10 = .ok (.lstore_n 3, 1) := by decide +kernel
theorem dX12_boughtBy_11 : decode cX12_boughtBy 11 = .ok (.lload_n 3, 1) := by decide +kernel
theorem dX12_boughtBy_12 : decode cX12_boughtBy 12 = .ok (.aload_n 0, 1) := by decide +kernel
theorem dX12_boughtBy_13 : decode cX12_boughtBy 13 = .ok (.getfield 13, 3) := by decide +kernel
theorem dX12_boughtBy_16 : decode cX12_boughtBy 16 = .ok (.bipush 51, 2) := by decide +kernel
theorem dX12_boughtBy_18 : decode cX12_boughtBy 18 = .ok (.iload_n 1, 1) := by decide +kernel
theorem dX12_boughtBy_19 : decode cX12_boughtBy 19 = .ok (.iadd, 1) := by decide +kernel
theorem dX12_boughtBy_20 : decode cX12_boughtBy 20 = .ok (.iaload, 1) := by decide +kernel
theorem dX12_boughtBy_21 : decode cX12_boughtBy 21 = .ok (.i2l, 1) := by decide +kernel
theorem dX12_boughtBy_22 : decode cX12_boughtBy 22 = .ok (.lcmp, 1) := by decide +kernel
theorem dX12_boughtBy_23 : decode cX12_boughtBy 23 = .ok (.ifCond .gt 49, 3) := by decide +kernel
theorem dX12_boughtBy_26 : decode cX12_boughtBy 26 = .ok (.aload_n 0, 1) := by decide +kernel
theorem dX12_boughtBy_27 : decode cX12_boughtBy 27 = .ok (.getfield 13, 3) := by decide +kernel
theorem dX12_boughtBy_30 : decode cX12_boughtBy 30 = .ok (.bipush 46, 2) := by decide +kernel
theorem dX12_boughtBy_32 : decode cX12_boughtBy 32 = .ok (.iload_n 1, 1) := by decide +kernel
theorem dX12_boughtBy_33 : decode cX12_boughtBy 33 = .ok (.iadd, 1) := by decide +kernel
theorem dX12_boughtBy_34 : decode cX12_boughtBy 34 = .ok (.iaload, 1) := by decide +kernel
theorem dX12_boughtBy_35 : decode cX12_boughtBy 35 = .ok (.iload_n 2, 1) := by decide +kernel
theorem dX12_boughtBy_36 : decode cX12_boughtBy 36 = .ok (.iadd, 1) := by decide +kernel
theorem dX12_boughtBy_37 : decode cX12_boughtBy 37 = .ok (.bipush 99, 2) := by decide +kernel
theorem dX12_boughtBy_39 : decode cX12_boughtBy 39 = .ok (.if_icmp .gt 33, 3) := by decide +kernel
theorem dX12_boughtBy_42 : decode cX12_boughtBy 42 = .ok (.aload_n 0, 1) := by decide +kernel
theorem dX12_boughtBy_43 : decode cX12_boughtBy 43 = .ok (.getfield 13, 3) := by decide +kernel
theorem dX12_boughtBy_46 : decode cX12_boughtBy 46 = .ok (.bipush 51, 2) := by decide +kernel
theorem dX12_boughtBy_48 : decode cX12_boughtBy 48 = .ok (.iload_n 1, 1) := by decide +kernel
theorem dX12_boughtBy_49 : decode cX12_boughtBy 49 = .ok (.iadd, 1) := by decide +kernel
theorem dX12_boughtBy_50 : decode cX12_boughtBy 50 = .ok (.dup2, 1) := by decide +kernel
theorem dX12_boughtBy_51 : decode cX12_boughtBy 51 = .ok (.iaload, 1) := by decide +kernel
theorem dX12_boughtBy_52 : decode cX12_boughtBy 52 = .ok (.lload_n 3, 1) := by decide +kernel
theorem dX12_boughtBy_53 : decode cX12_boughtBy 53 = .ok (.l2i, 1) := by decide +kernel
theorem dX12_boughtBy_54 : decode cX12_boughtBy 54 = .ok (.isub, 1) := by decide +kernel
theorem dX12_boughtBy_55 : decode cX12_boughtBy 55 = .ok (.iastore, 1) := by decide +kernel
theorem dX12_boughtBy_56 : decode cX12_boughtBy 56 = .ok (.aload_n 0, 1) := by decide +kernel
theorem dX12_boughtBy_57 : decode cX12_boughtBy 57 = .ok (.getfield 13, 3) := by decide +kernel
theorem dX12_boughtBy_60 : decode cX12_boughtBy 60 = .ok (.bipush 46, 2) := by decide +kernel
theorem dX12_boughtBy_62 : decode cX12_boughtBy 62 = .ok (.iload_n 1, 1) := by decide +kernel
theorem dX12_boughtBy_63 : decode cX12_boughtBy 63 = .ok (.iadd, 1) := by decide +kernel
theorem dX12_boughtBy_64 : decode cX12_boughtBy 64 = .ok (.dup2, 1) := by decide +kernel
theorem dX12_boughtBy_65 : decode cX12_boughtBy 65 = .ok (.iaload, 1) := by decide +kernel
theorem dX12_boughtBy_66 : decode cX12_boughtBy 66 = .ok (.iload_n 2, 1) := by decide +kernel
theorem dX12_boughtBy_67 : decode cX12_boughtBy 67 = .ok (.iadd, 1) := by decide +kernel
theorem dX12_boughtBy_68 : decode cX12_boughtBy 68 = .ok (.iastore, 1) := by decide +kernel
theorem dX12_boughtBy_69 : decode cX12_boughtBy 69 = .ok (.lload_n 3, 1) := by decide +kernel
theorem dX12_boughtBy_70 : decode cX12_boughtBy 70 = .ok (.l2i, 1) := by decide +kernel
theorem dX12_boughtBy_71 : decode cX12_boughtBy 71 = .ok (.ireturn, 1) := by decide +kernel
theorem dX12_boughtBy_72 : decode cX12_boughtBy 72 = .ok (.lload_n 3, 1) := by decide +kernel
theorem dX12_boughtBy_73 : decode cX12_boughtBy 73 = .ok (.aload_n 0, 1) := by decide +kernel
theorem dX12_boughtBy_74 : decode cX12_boughtBy 74 = .ok (.getfield 13, 3) := by decide +kernel
theorem dX12_boughtBy_77 : decode cX12_boughtBy 77 = .ok (.bipush 51, 2) := by decide +kernel
theorem dX12_boughtBy_79 : decode cX12_boughtBy 79 = .ok (.iload_n 1, 1) := by decide +kernel
theorem dX12_boughtBy_80 : decode cX12_boughtBy 80 = .ok (.iadd, 1) := by decide +kernel
theorem dX12_boughtBy_81 : decode cX12_boughtBy 81 = .ok (.iaload, 1) := by decide +kernel
theorem dX12_boughtBy_82 : decode cX12_boughtBy 82 = .ok (.i2l, 1) := by decide +kernel
theorem dX12_boughtBy_83 : decode cX12_boughtBy 83 = .ok (.lcmp, 1) := by decide +kernel
theorem dX12_boughtBy_84 : decode cX12_boughtBy 84 = .ok (.ifCond .le 7, 3) := by decide +kernel
theorem dX12_boughtBy_87 : decode cX12_boughtBy 87 = .ok (.iconst 1, 1) := by decide +kernel
theorem dX12_boughtBy_88 : decode cX12_boughtBy 88 = .ok (.goto 4, 3) := by decide +kernel
theorem dX12_boughtBy_91 : decode cX12_boughtBy 91 = .ok (.iconst 0, 1) := by decide +kernel
theorem dX12_boughtBy_92 : decode cX12_boughtBy 92 = .ok (.istore 5, 2) := by decide +kernel
theorem dX12_boughtBy_94 : decode cX12_boughtBy 94 = .ok (.aload_n 0, 1) := by decide +kernel
theorem dX12_boughtBy_95 : decode cX12_boughtBy 95 = .ok (.invokevirtual 318, 3) := by decide +kernel
theorem dX12_boughtBy_98 : decode cX12_boughtBy 98 = .ok (.iload 5, 2) := by decide +kernel
theorem dX12_boughtBy_100 : decode cX12_boughtBy 100 = .ok (.ifCond .eq 8, 3) := by decide +kernel
theorem dX12_boughtBy_103 : decode cX12_boughtBy 103 = .ok (.bipush (-5), 2) := by decide +kernel
theorem dX12_boughtBy_105 : decode cX12_boughtBy 105 = .ok (.goto 5, 3) := by decide +kernel
theorem dX12_boughtBy_108 : decode cX12_boughtBy 108 = .ok (.bipush (-4), 2) := by decide +kernel
theorem dX12_boughtBy_110 : decode cX12_boughtBy 110 = .ok (.ireturn, 1) := by decide +kernel
theorem dX12_buy_0 : decode cX12_buy 0 = .ok (.aload_n 0, 1) := by decide +kernel
theorem dX12_buy_1 : decode cX12_buy 1 = .ok (.iconst 0, 1) := by decide +kernel
theorem dX12_buy_2 : decode cX12_buy 2 = .ok (.putfield 1, 3) := by decide +kernel
theorem dX12_buy_5 : decode cX12_buy 5 = .ok (.aload_n 0, 1) := by decide +kernel
theorem dX12_buy_6 : decode cX12_buy 6 = .ok (.iload_n 1, 1) := by decide +kernel
theorem dX12_buy_7 : decode cX12_buy 7 = .ok (.i2l, 1) := by decide +kernel
theorem dX12_buy_8 : decode cX12_buy 8 = .ok (.invokevirtual 253, 3) := by decide +kernel
theorem dX12_buy_11 : decode cX12_buy 11 = .ok (.ifCond .ne 6, 3) := by decide +kernel
theorem dX12_buy_14 : decode cX12_buy 14 = .ok (.bipush (-2), 2) := by decide +kernel
theorem dX12_buy_16 : decode cX12_buy 16 = .ok (.ireturn, 1) := by decide +kernel
theorem dX12_buy_17 : decode cX12_buy 17 = .ok (.iload_n 2, 1) := by decide +kernel
theorem dX12_buy_18 : decode cX12_buy 18 = .ok (.i2l, 1) := by decide +kernel
theorem dX12_buy_19 : decode cX12_buy 19 = .ok (.lconst 1, 1) := by decide +kernel
theorem dX12_buy_20 : decode cX12_buy 20 = .ok (.ldc2_w 170, 3) := by decide +kernel
theorem dX12_buy_23 : decode cX12_buy 23 = .ok (.invokestatic 161, 3) := by decide +kernel
theorem dX12_buy_26 : decode cX12_buy 26 = .ok (.ifCond .ne 6, 3) := by decide +kernel
theorem dX12_buy_29 : decode cX12_buy 29 = .ok (.bipush (-3), 2) := by decide +kernel
theorem dX12_buy_31 : decode cX12_buy 31 = .ok (.ireturn, 1) := by decide +kernel
theorem dX12_buy_32 : decode cX12_buy 32 = .ok (.aload_n 0, 1) := by decide +kernel
theorem dX12_buy_33 : decode cX12_buy 33 = .ok (.iload_n 1, 1) := by decide +kernel
theorem dX12_buy_34 : decode cX12_buy 34 = .ok (.iload_n 2, 1) := by decide +kernel
theorem dX12_buy_35 : decode cX12_buy 35 = .ok (.invokevirtual 325, 3) := by decide +kernel
theorem dX12_buy_38 : decode cX12_buy 38 = .ok (.istore_n 3, 1) := by decide +kernel
theorem dX12_buy_39 : decode cX12_buy 39 = .ok (.iload_n 3, 1) := by decide +kernel
theorem dX12_buy_40 : decode cX12_buy 40 = .ok (.ifCond .lt 7, 3) := by decide +kernel
theorem dX12_buy_43 : decode cX12_buy 43 = .ok (.aload_n 0, 1) := by decide +kernel
theorem dX12_buy_44 : decode cX12_buy 44 = .ok (.invokevirtual 303, 3) := by decide +kernel
theorem dX12_buy_47 : decode cX12_buy 47 = .ok (.iload_n 3, 1) := by decide +kernel
theorem dX12_buy_48 : decode cX12_buy 48 = .ok (.ireturn, 1) := by decide +kernel
theorem dX12_buys_0 : decode cX12_buys 0 = .ok (.lconst 0, 1) := by decide +kernel
theorem dX12_buys_1 : decode cX12_buys 1 = .ok (.lstore_n 3, 1) := by decide +kernel
theorem dX12_buys_2 : decode cX12_buys 2 = .ok (.iconst 0, 1) := by decide +kernel
theorem dX12_buys_3 : decode cX12_buys 3 = .ok (.istore 5, 2) := by decide +kernel
theorem dX12_buys_5 : decode cX12_buys 5 = .ok (.iload 5, 2) := by decide +kernel
theorem dX12_buys_7 : decode cX12_buys 7 = .ok (.iload_n 2, 1) := by decide +kernel
theorem dX12_buys_8 : decode cX12_buys 8 = .ok (.if_icmp .ge 57, 3) := by decide +kernel
theorem dX12_buys_11 : decode cX12_buys 11 = .ok (.lload_n 3, 1) := by decide +kernel
theorem dX12_buys_12 : decode cX12_buys 12 = .ok (.aload_n 0, 1) := by decide +kernel
theorem dX12_buys_13 : decode cX12_buys 13 = .ok (.aload_n 0, 1) := by decide +kernel
theorem dX12_buys_14 : decode cX12_buys 14 = .ok (.getfield 13, 3) := by decide +kernel
theorem dX12_buys_17 : decode cX12_buys 17 = .ok (.bipush 36, 2) := by decide +kernel
theorem dX12_buys_19 : decode cX12_buys 19 = .ok (.iload_n 1, 1) := by decide +kernel
theorem dX12_buys_20 : decode cX12_buys 20 = .ok (.iadd, 1) := by decide +kernel
theorem dX12_buys_21 : decode cX12_buys 21 = .ok (.iaload, 1) := by decide +kernel
theorem dX12_buys_22 : decode cX12_buys 22 = .ok (.iconst 0, 1) := by decide +kernel
theorem dX12_buys_23 : decode cX12_buys 23 = .ok (.aload_n 0, 1) := by decide +kernel
theorem dX12_buys_24 : decode cX12_buys 24 = .ok (.getfield 13, 3) := by decide +kernel
theorem dX12_buys_27 : decode cX12_buys 27 = .ok (.bipush 41, 2) := by decide +kernel
theorem dX12_buys_29 : decode cX12_buys 29 = .ok (.iload_n 1, 1) := by decide +kernel
theorem dX12_buys_30 : decode cX12_buys 30 = .ok (.iadd, 1) := by decide +kernel
theorem dX12_buys_31 : decode cX12_buys 31 = .ok (.iaload, 1) := by decide +kernel
theorem dX12_buys_32 : decode cX12_buys 32 = .ok (.invokevirtual 266, 3) := by decide +kernel
theorem dX12_buys_35 : decode cX12_buys 35 = .ok (.i2l, 1) := by decide +kernel
theorem dX12_buys_36 : decode cX12_buys 36 = .ok (.ladd, 1) := by decide +kernel
theorem dX12_buys_37 : decode cX12_buys 37 = .ok (.lstore_n 3, 1) := by decide +kernel
theorem dX12_buys_38 : decode cX12_buys 38 = .ok (.aload_n 0, 1) := by decide +kernel
theorem dX12_buys_39 : decode cX12_buys 39 = .ok (.getfield 13, 3) := by decide +kernel
theorem dX12_buys_42 : decode cX12_buys 42 = .ok (.bipush 61, 2) := by decide +kernel
theorem dX12_buys_44 : decode cX12_buys 44 = .ok (.aload_n 0, 1) := by decide +kernel
theorem dX12_buys_45 : decode cX12_buys 45 = .ok (.getfield 13, 3) := by decide +kernel
theorem dX12_buys_48 : decode cX12_buys 48 = .ok (.bipush 36, 2) := by decide +kernel
theorem dX12_buys_50 : decode cX12_buys 50 = .ok (.iload_n 1, 1) := by decide +kernel
theorem dX12_buys_51 : decode cX12_buys 51 = .ok (.iadd, 1) := by decide +kernel
theorem dX12_buys_52 : decode cX12_buys 52 = .ok (.iaload, 1) := by decide +kernel
theorem dX12_buys_53 : decode cX12_buys 53 = .ok (.iadd, 1) := by decide +kernel
theorem dX12_buys_54 : decode cX12_buys 54 = .ok (.dup2, 1) := by decide +kernel
theorem dX12_buys_55 : decode cX12_buys 55 = .ok (.iaload, 1) := by decide +kernel
theorem dX12_buys_56 : decode cX12_buys 56 = .ok (.iconst 1, 1) := by decide +kernel
theorem dX12_buys_57 : decode cX12_buys 57 = .ok (.iadd, 1) := by decide +kernel
theorem dX12_buys_58 : decode cX12_buys 58 = .ok (.iastore, 1) := by decide +kernel
theorem dX12_buys_59 : decode cX12_buys 59 = .ok (.iinc 5 1, 3) := by decide +kernel
theorem dX12_buys_62 : decode cX12_buys 62 = .ok (.goto (-57), 3) := by decide +kernel
theorem dX12_buys_65 : decode cX12_buys 65 = .ok (.lload_n 3, 1) := by decide +kernel
theorem dX12_buys_66 : decode cX12_buys 66 = .ok (.lreturn, 1) := by decide +kernel
theorem dX12_crossing_0 : decode cX12_crossing 0 = .ok (.aload_n 0, 1) := by decide +kernel
theorem dX12_crossing_1 : decode cX12_crossing 1 = .ok (.iconst 0, 1) := by decide +kernel
theorem dX12_crossing_2 : decode cX12_crossing 2 = .ok (.putfield 1, 3) := by decide +kernel
theorem dX12_crossing_5 : decode cX12_crossing 5 = .ok (.aload_n 0, 1) := by decide +kernel
theorem dX12_crossing_6 : decode cX12_crossing 6 = .ok (.iload_n 1, 1) := by decide +kernel
theorem dX12_crossing_7 : decode cX12_crossing 7 = .ok (.i2l, 1) := by decide +kernel
theorem dX12_crossing_8 : decode cX12_crossing 8 = .ok (.invokevirtual 257, 3) := by decide +kernel
theorem dX12_crossing_11 : decode cX12_crossing 11 = .ok (.ifCond .ne 6, 3) := by decide +kernel
theorem dX12_crossing_14 : decode cX12_crossing 14 = .ok (.bipush (-2), 2) := by decide +kernel
theorem dX12_crossing_16 : decode cX12_crossing 16 = .ok (.ireturn, 1) := by decide +kernel
theorem dX12_crossing_17 : decode cX12_crossing 17 = .ok (.iload_n 2, 1) := by decide +kernel
theorem dX12_crossing_18 : decode cX12_crossing 18 = .ok (.tableswitch 114 0 4 #[34, 42, 52, 67, 108], 34) := by decide +kernel
theorem dX12_crossing_52 : decode cX12_crossing 52 = .ok (.aload_n 0, 1) := by decide +kernel
theorem dX12_crossing_53 : decode cX12_crossing 53 = .ok (.iload_n 1, 1) := by decide +kernel
theorem dX12_crossing_54 : decode cX12_crossing 54 = .ok (.iconst 0, 1) := by decide +kernel
theorem dX12_crossing_55 : decode cX12_crossing 55 = .ok (.iconst 0, 1) := by decide +kernel
theorem dX12_crossing_56 : decode cX12_crossing 56 = .ok (.invokevirtual 266, 3) := by decide +kernel
theorem dX12_crossing_59 : decode cX12_crossing 59 = .ok (.ireturn, 1) := by decide +kernel
theorem dX12_crossing_60 : decode cX12_crossing 60 = .ok (.aload_n 0, 1) := by decide +kernel
theorem dX12_crossing_61 : decode cX12_crossing 61 = .ok (.getfield 13, 3) := by decide +kernel
theorem dX12_crossing_64 : decode cX12_crossing 64 = .ok (.bipush 61, 2) := by decide +kernel
theorem dX12_crossing_66 : decode cX12_crossing 66 = .ok (.iload_n 1, 1) := by decide +kernel
theorem dX12_crossing_67 : decode cX12_crossing 67 = .ok (.iadd, 1) := by decide +kernel
theorem dX12_crossing_68 : decode cX12_crossing 68 = .ok (.iaload, 1) := by decide +kernel
theorem dX12_crossing_69 : decode cX12_crossing 69 = .ok (.ireturn, 1) := by decide +kernel
theorem dX12_crossing_70 : decode cX12_crossing 70 = .ok (.aload_n 0, 1) := by decide +kernel
theorem dX12_crossing_71 : decode cX12_crossing 71 = .ok (.iload_n 1, 1) := by decide +kernel
theorem dX12_crossing_72 : decode cX12_crossing 72 = .ok (.iconst 0, 1) := by decide +kernel
theorem dX12_crossing_73 : decode cX12_crossing 73 = .ok (.invokevirtual 269, 3) := by decide +kernel
theorem dX12_crossing_76 : decode cX12_crossing 76 = .ok (.ifCond .eq 7, 3) := by decide +kernel
theorem dX12_crossing_79 : decode cX12_crossing 79 = .ok (.iconst 1, 1) := by decide +kernel
theorem dX12_crossing_80 : decode cX12_crossing 80 = .ok (.goto 4, 3) := by decide +kernel
theorem dX12_crossing_83 : decode cX12_crossing 83 = .ok (.iconst 0, 1) := by decide +kernel
theorem dX12_crossing_84 : decode cX12_crossing 84 = .ok (.ireturn, 1) := by decide +kernel
theorem dX12_crossing_85 : decode cX12_crossing 85 = .ok (.aload_n 0, 1) := by decide +kernel
theorem dX12_crossing_86 : decode cX12_crossing 86 = .ok (.getfield 13, 3) := by decide +kernel
theorem dX12_crossing_89 : decode cX12_crossing 89 = .ok (.bipush 86, 2) := by decide +kernel
theorem dX12_crossing_91 : decode cX12_crossing 91 = .ok (.iload_n 1, 1) := by decide +kernel
theorem dX12_crossing_92 : decode cX12_crossing 92 = .ok (.iadd, 1) := by decide +kernel
theorem dX12_crossing_93 : decode cX12_crossing 93 = .ok (.iaload, 1) := by decide +kernel
theorem dX12_crossing_94 : decode cX12_crossing 94 = .ok (.aload_n 0, 1) := by decide +kernel
theorem dX12_crossing_95 : decode cX12_crossing 95 = .ok (.getfield 13, 3) := by decide +kernel
theorem dX12_crossing_98 : decode cX12_crossing 98 = .ok (.bipush 111, 2) := by decide +kernel
theorem dX12_crossing_100 : decode cX12_crossing 100 = .ok (.iaload, 1) := by decide +kernel
theorem dX12_crossing_101 : decode cX12_crossing 101 = .ok (.if_icmp .le 23, 3) := by decide +kernel
theorem dX12_crossing_104 : decode cX12_crossing 104 = .ok (.aload_n 0, 1) := by decide +kernel
theorem dX12_crossing_105 : decode cX12_crossing 105 = .ok (.getfield 13, 3) := by decide +kernel
theorem dX12_crossing_108 : decode cX12_crossing 108 = .ok (.bipush 86, 2) := by decide +kernel
theorem dX12_crossing_110 : decode cX12_crossing 110 = .ok (.iload_n 1, 1) := by decide +kernel
theorem dX12_crossing_111 : decode cX12_crossing 111 = .ok (.iadd, 1) := by decide +kernel
theorem dX12_crossing_112 : decode cX12_crossing 112 = .ok (.iaload, 1) := by decide +kernel
theorem dX12_crossing_113 : decode cX12_crossing 113 = .ok (.aload_n 0, 1) := by decide +kernel
theorem dX12_crossing_114 : decode cX12_crossing 114 = .ok (.getfield 13, 3) := by decide +kernel
theorem dX12_crossing_117 : decode cX12_crossing 117 = .ok (.bipush 111, 2) := by decide +kernel
theorem dX12_crossing_119 : decode cX12_crossing 119 = .ok (.iaload, 1) := by decide +kernel
theorem dX12_crossing_120 : decode cX12_crossing 120 = .ok (.isub, 1) := by decide +kernel
theorem dX12_crossing_121 : decode cX12_crossing 121 = .ok (.goto 4, 3) := by decide +kernel
theorem dX12_crossing_124 : decode cX12_crossing 124 = .ok (.iconst 0, 1) := by decide +kernel
theorem dX12_crossing_125 : decode cX12_crossing 125 = .ok (.ireturn, 1) := by decide +kernel
theorem dX12_crossing_126 : decode cX12_crossing 126 = .ok (.aload_n 0, 1) := by decide +kernel
theorem dX12_crossing_127 : decode cX12_crossing 127 = .ok (.iload_n 1, 1) := by decide +kernel
theorem dX12_crossing_128 : decode cX12_crossing 128 = .ok (.invokevirtual 273, 3) := by decide +kernel
theorem dX12_crossing_131 : decode cX12_crossing 131 = .ok (.ireturn, 1) := by decide +kernel
theorem dX12_crossing_132 : decode cX12_crossing 132 = .ok (.bipush (-2), 2) := by decide +kernel
theorem dX12_crossing_134 : decode cX12_crossing 134 = .ok (.ireturn, 1) := by decide +kernel
theorem dX12_draw_0 : decode cX12_draw 0 = .ok (.aload_n 0, 1) := by decide +kernel
theorem dX12_draw_1 : decode cX12_draw 1 = .ok (.ldc_w 335, 3) := by decide +kernel
theorem dX12_draw_4 : decode cX12_draw 4 = .ok (.aload_n 0, 1) := by decide +kernel
theorem dX12_draw_5 : decode cX12_draw 5 = .ok (.getfield 336, 3) := by decide +kernel
theorem dX12_draw_8 : decode cX12_draw 8 = .ok (.imul, 1) := by decide +kernel
theorem dX12_draw_9 : decode cX12_draw 9 = .ok (.sipush 12345, 3) := by decide +kernel
theorem dX12_draw_12 : decode cX12_draw 12 = .ok (.iadd, 1) := by decide +kernel
theorem dX12_draw_13 : decode cX12_draw 13 = .ok (.putfield 336, 3) := by decide +kernel
theorem dX12_draw_16 : decode cX12_draw 16 = .ok (.aload_n 0, 1) := by decide +kernel
theorem dX12_draw_17 : decode cX12_draw 17 = .ok (.getfield 336, 3) := by decide +kernel
theorem dX12_draw_20 : decode cX12_draw 20 = .ok (.bipush 16, 2) := by decide +kernel
theorem dX12_draw_22 : decode cX12_draw 22 = .ok (.iushr, 1) := by decide +kernel
theorem dX12_draw_23 : decode cX12_draw 23 = .ok (.iload_n 1, 1) := by decide +kernel
theorem dX12_draw_24 : decode cX12_draw 24 = .ok (.irem, 1) := by decide +kernel
theorem dX12_draw_25 : decode cX12_draw 25 = .ok (.ireturn, 1) := by decide +kernel
theorem dX12_fault_0 : decode cX12_fault 0 = .ok (.aload_n 0, 1) := by decide +kernel
theorem dX12_fault_1 : decode cX12_fault 1 = .ok (.iconst 0, 1) := by decide +kernel
theorem dX12_fault_2 : decode cX12_fault 2 = .ok (.putfield 1, 3) := by decide +kernel
theorem dX12_fault_5 : decode cX12_fault 5 = .ok (.iload_n 1, 1) := by decide +kernel
theorem dX12_fault_6 : decode cX12_fault 6 = .ok (.ifCond .ne 10, 3) := by decide +kernel
theorem dX12_fault_9 : decode cX12_fault 9 = .ok (.aload_n 0, 1) := by decide +kernel
theorem dX12_fault_10 : decode cX12_fault 10 = .ok (.getfield 226, 3) := by decide +kernel
theorem dX12_fault_13 : decode cX12_fault 13 = .ok (.goto 16, 3) := by decide +kernel
theorem dX12_fault_16 : decode cX12_fault 16 = .ok (.iload_n 1, 1) := by decide +kernel
theorem dX12_fault_17 : decode cX12_fault 17 = .ok (.iconst 1, 1) := by decide +kernel
theorem dX12_fault_18 : decode cX12_fault 18 = .ok (.if_icmp .ne 10, 3) := by decide +kernel
theorem dX12_fault_21 : decode cX12_fault 21 = .ok (.aload_n 0, 1) := by decide +kernel
theorem dX12_fault_22 : decode cX12_fault 22 = .ok (.getfield 27, 3) := by decide +kernel
theorem dX12_fault_25 : decode cX12_fault 25 = .ok (.goto 4, 3) := by decide +kernel
theorem dX12_fault_28 : decode cX12_fault 28 = .ok (.iconst (-1), 1) := by decide +kernel
theorem dX12_fault_29 : decode cX12_fault 29 = .ok (.ireturn, 1) := by decide +kernel
theorem dX12_fog_0 : decode cX12_fog 0 = .ok (.aload_n 0, 1) := by decide +kernel
theorem dX12_fog_1 : decode cX12_fog 1 = .ok (.iconst 0, 1) := by decide +kernel
theorem dX12_fog_2 : decode cX12_fog 2 = .ok (.putfield 1, 3) := by decide +kernel
theorem dX12_fog_5 : decode cX12_fog 5 = .ok (.aload_n 0, 1) := by decide +kernel
theorem dX12_fog_6 : decode cX12_fog 6 = .ok (.iload_n 1, 1) := by decide +kernel
theorem dX12_fog_7 : decode cX12_fog 7 = .ok (.i2l, 1) := by decide +kernel
theorem dX12_fog_8 : decode cX12_fog 8 = .ok (.invokevirtual 257, 3) := by decide +kernel
theorem dX12_fog_11 : decode cX12_fog 11 = .ok (.ifCond .ne 6, 3) := by decide +kernel
theorem dX12_fog_14 : decode cX12_fog 14 = .ok (.bipush (-2), 2) := by decide +kernel
theorem dX12_fog_16 : decode cX12_fog 16 = .ok (.ireturn, 1) := by decide +kernel
theorem dX12_fog_17 : decode cX12_fog 17 = .ok (.iload_n 2, 1) := by decide +kernel
theorem dX12_fog_18 : decode cX12_fog 18 = .ok (.i2l, 1) := by decide +kernel
theorem dX12_fog_19 : decode cX12_fog 19 = .ok (.lconst 1, 1) := by decide +kernel
theorem dX12_fog_20 : decode cX12_fog 20 = .ok (.ldc2_w 328, 3) := by decide +kernel
theorem dX12_fog_23 : decode cX12_fog 23 = .ok (.invokestatic 161, 3) := by decide +kernel
theorem dX12_fog_26 : decode cX12_fog 26 = .ok (.ifCond .ne 6, 3) := by decide +kernel
theorem dX12_fog_29 : decode cX12_fog 29 = .ok (.bipush (-3), 2) := by decide +kernel
theorem dX12_fog_31 : decode cX12_fog 31 = .ok (.ireturn, 1) := by decide +kernel
theorem dX12_fog_32 : decode cX12_fog 32 = .ok (.aload_n 0, 1) := by decide +kernel
theorem dX12_fog_33 : decode cX12_fog 33 = .ok (.invokevirtual 297, 3) := by decide +kernel
theorem dX12_fog_36 : decode cX12_fog 36 = .ok (.aload_n 0, 1) := by decide +kernel
theorem dX12_fog_37 : decode cX12_fog 37 = .ok (.getfield 13, 3) := by decide +kernel
theorem dX12_fog_40 : decode cX12_fog 40 = .ok (.bipush 86, 2) := by decide +kernel
theorem dX12_fog_42 : decode cX12_fog 42 = .ok (.iload_n 1, 1) := by decide +kernel
theorem dX12_fog_43 : decode cX12_fog 43 = .ok (.iadd, 1) := by decide +kernel
theorem dX12_fog_44 : decode cX12_fog 44 = .ok (.aload_n 0, 1) := by decide +kernel
theorem dX12_fog_45 : decode cX12_fog 45 = .ok (.getfield 13, 3) := by decide +kernel
theorem dX12_fog_48 : decode cX12_fog 48 = .ok (.bipush 111, 2) := by decide +kernel
theorem dX12_fog_50 : decode cX12_fog 50 = .ok (.iaload, 1) := by decide +kernel
theorem dX12_fog_51 : decode cX12_fog 51 = .ok (.iload_n 2, 1) := by decide +kernel
theorem dX12_fog_52 : decode cX12_fog 52 = .ok (.iadd, 1) := by decide +kernel
theorem dX12_fog_53 : decode cX12_fog 53 = .ok (.iastore, 1) := by decide +kernel
theorem dX12_fog_54 : decode cX12_fog 54 = .ok (.aload_n 0, 1) := by decide +kernel
theorem dX12_fog_55 : decode cX12_fog 55 = .ok (.invokevirtual 303, 3) := by decide +kernel
theorem dX12_fog_58 : decode cX12_fog 58 = .ok (.aload_n 0, 1) := by decide +kernel
theorem dX12_fog_59 : decode cX12_fog 59 = .ok (.invokevirtual 330, 3) := by decide +kernel
theorem dX12_fog_62 : decode cX12_fog 62 = .ok (.ireturn, 1) := by decide +kernel
theorem dX12_freeMany_0 : decode cX12_freeMany 0 = .ok (.iconst 0, 1) := by decide +kernel
theorem dX12_freeMany_1 : decode cX12_freeMany 1 = .ok (.istore_n 1, 1) := by decide +kernel
theorem dX12_freeMany_2 : decode cX12_freeMany 2 = .ok (.iconst 0, 1) := by decide +kernel
theorem dX12_freeMany_3 : decode cX12_freeMany 3 = .ok (.istore_n 2, 1) := by decide +kernel
theorem dX12_freeMany_4 : decode cX12_freeMany 4 = .ok (.iload_n 2, 1) := by decide +kernel
theorem dX12_freeMany_5 : decode cX12_freeMany 5 = .ok (.aload_n 0, 1) := by decide +kernel
theorem dX12_freeMany_6 : decode cX12_freeMany 6 = .ok (.invokevirtual 233, 3) := by decide +kernel
theorem dX12_freeMany_9 : decode cX12_freeMany 9 = .ok (.if_icmp .ge 26, 3) := by decide +kernel
theorem dX12_freeMany_12 : decode cX12_freeMany 12 = .ok (.iload_n 1, 1) := by decide +kernel
theorem dX12_freeMany_13 : decode cX12_freeMany 13 = .ok (.aload_n 0, 1) := by decide +kernel
theorem dX12_freeMany_14 : decode cX12_freeMany 14 = .ok (.iload_n 2, 1) := by decide +kernel
theorem dX12_freeMany_15 : decode cX12_freeMany 15 = .ok (.iconst 0, 1) := by decide +kernel
theorem dX12_freeMany_16 : decode cX12_freeMany 16 = .ok (.invokevirtual 269, 3) := by decide +kernel
theorem dX12_freeMany_19 : decode cX12_freeMany 19 = .ok (.ifCond .eq 7, 3) := by decide +kernel
theorem dX12_freeMany_22 : decode cX12_freeMany 22 = .ok (.iconst 1, 1) := by decide +kernel
theorem dX12_freeMany_23 : decode cX12_freeMany 23 = .ok (.goto 4, 3) := by decide +kernel
theorem dX12_freeMany_26 : decode cX12_freeMany 26 = .ok (.iconst 0, 1) := by decide +kernel
theorem dX12_freeMany_27 : decode cX12_freeMany 27 = .ok (.iadd, 1) := by decide +kernel
theorem dX12_freeMany_28 : decode cX12_freeMany 28 = .ok (.istore_n 1, 1) := by decide +kernel
theorem dX12_freeMany_29 : decode cX12_freeMany 29 = .ok (.iinc 2 1, 3) := by decide +kernel
theorem dX12_freeMany_32 : decode cX12_freeMany 32 = .ok (.goto (-28), 3) := by decide +kernel
theorem dX12_freeMany_35 : decode cX12_freeMany 35 = .ok (.iload_n 1, 1) := by decide +kernel
theorem dX12_freeMany_36 : decode cX12_freeMany 36 = .ok (.ireturn, 1) := by decide +kernel
theorem dX12_go_0 : decode cX12_go 0 = .ok (.aload_n 0, 1) := by decide +kernel
theorem dX12_go_1 : decode cX12_go 1 = .ok (.iconst 0, 1) := by decide +kernel
theorem dX12_go_2 : decode cX12_go 2 = .ok (.putfield 1, 3) := by decide +kernel
theorem dX12_go_5 : decode cX12_go 5 = .ok (.aload_n 0, 1) := by decide +kernel
theorem dX12_go_6 : decode cX12_go 6 = .ok (.iload_n 1, 1) := by decide +kernel
theorem dX12_go_7 : decode cX12_go 7 = .ok (.i2l, 1) := by decide +kernel
theorem dX12_go_8 : decode cX12_go 8 = .ok (.iload_n 2, 1) := by decide +kernel
theorem dX12_go_9 : decode cX12_go 9 = .ok (.i2l, 1) := by decide +kernel
theorem dX12_go_10 : decode cX12_go 10 = .ok (.invokevirtual 290, 3) := by decide +kernel
theorem dX12_go_13 : decode cX12_go 13 = .ok (.istore_n 3, 1) := by decide +kernel
theorem dX12_go_14 : decode cX12_go 14 = .ok (.iload_n 3, 1) := by decide +kernel
theorem dX12_go_15 : decode cX12_go 15 = .ok (.ifCond .eq 8, 3) := by decide +kernel
theorem dX12_go_18 : decode cX12_go 18 = .ok (.bipush (-10), 2) := by decide +kernel
theorem dX12_go_20 : decode cX12_go 20 = .ok (.iload_n 3, 1) := by decide +kernel
theorem dX12_go_21 : decode cX12_go 21 = .ok (.isub, 1) := by decide +kernel
theorem dX12_go_22 : decode cX12_go 22 = .ok (.ireturn, 1) := by decide +kernel
theorem dX12_go_23 : decode cX12_go 23 = .ok (.aload_n 0, 1) := by decide +kernel
theorem dX12_go_24 : decode cX12_go 24 = .ok (.invokevirtual 297, 3) := by decide +kernel
theorem dX12_go_27 : decode cX12_go 27 = .ok (.aload_n 0, 1) := by decide +kernel
theorem dX12_go_28 : decode cX12_go 28 = .ok (.iload_n 1, 1) := by decide +kernel
theorem dX12_go_29 : decode cX12_go 29 = .ok (.iload_n 2, 1) := by decide +kernel
theorem dX12_go_30 : decode cX12_go 30 = .ok (.invokevirtual 300, 3) := by decide +kernel
theorem dX12_go_33 : decode cX12_go 33 = .ok (.pop, 1) := by decide +kernel
theorem dX12_go_34 : decode cX12_go 34 = .ok (.aload_n 0, 1) := by decide +kernel
theorem dX12_go_35 : decode cX12_go 35 = .ok (.invokevirtual 303, 3) := by decide +kernel
theorem dX12_go_38 : decode cX12_go 38 = .ok (.aload_n 0, 1) := by decide +kernel
theorem dX12_go_39 : decode cX12_go 39 = .ok (.getfield 13, 3) := by decide +kernel
theorem dX12_go_42 : decode cX12_go 42 = .ok (.bipush 36, 2) := by decide +kernel
theorem dX12_go_44 : decode cX12_go 44 = .ok (.iload_n 1, 1) := by decide +kernel
theorem dX12_go_45 : decode cX12_go 45 = .ok (.iadd, 1) := by decide +kernel
theorem dX12_go_46 : decode cX12_go 46 = .ok (.iaload, 1) := by decide +kernel
theorem dX12_go_47 : decode cX12_go 47 = .ok (.ireturn, 1) := by decide +kernel
theorem dX12_hand_0 : decode cX12_hand 0 = .ok (.aload_n 0, 1) := by decide +kernel
theorem dX12_hand_1 : decode cX12_hand 1 = .ok (.iconst 0, 1) := by decide +kernel
theorem dX12_hand_2 : decode cX12_hand 2 = .ok (.putfield 1, 3) := by decide +kernel
theorem dX12_hand_5 : decode cX12_hand 5 = .ok (.aload_n 0, 1) := by decide +kernel
theorem dX12_hand_6 : decode cX12_hand 6 = .ok (.iload_n 1, 1) := by decide +kernel
theorem dX12_hand_7 : decode cX12_hand 7 = .ok (.i2l, 1) := by decide +kernel
theorem dX12_hand_8 : decode cX12_hand 8 = .ok (.invokevirtual 253, 3) := by decide +kernel
theorem dX12_hand_11 : decode cX12_hand 11 = .ok (.ifCond .eq 17, 3) := by decide +kernel
theorem dX12_hand_14 : decode cX12_hand 14 = .ok (.aload_n 0, 1) := by decide +kernel
theorem dX12_hand_15 : decode cX12_hand 15 = .ok (.iload_n 2, 1) := by decide +kernel
theorem dX12_hand_16 : decode cX12_hand 16 = .ok (.i2l, 1) := by decide +kernel
theorem dX12_hand_17 : decode cX12_hand 17 = .ok (.invokevirtual 253, 3) := by decide +kernel
theorem dX12_hand_20 : decode cX12_hand 20 = .ok (.ifCond .eq 8, 3) := by decide +kernel
theorem dX12_hand_23 : decode cX12_hand 23 = .ok (.iload_n 1, 1) := by decide +kernel
theorem dX12_hand_24 : decode cX12_hand 24 = .ok (.iload_n 2, 1) := by decide +kernel
theorem dX12_hand_25 : decode cX12_hand 25 = .ok (.if_icmp .ne 6, 3) := by decide +kernel
theorem dX12_hand_28 : decode cX12_hand 28 = .ok (.bipush (-2), 2) := by decide +kernel
theorem dX12_hand_30 : decode cX12_hand 30 = .ok (.ireturn, 1) := by decide +kernel
theorem dX12_hand_31 : decode cX12_hand 31 = .ok (.iload_n 3, 1) := by decide +kernel
theorem dX12_hand_32 : decode cX12_hand 32 = .ok (.i2l, 1) := by decide +kernel
theorem dX12_hand_33 : decode cX12_hand 33 = .ok (.lconst 1, 1) := by decide +kernel
theorem dX12_hand_34 : decode cX12_hand 34 = .ok (.ldc2_w 328, 3) := by decide +kernel
theorem dX12_hand_37 : decode cX12_hand 37 = .ok (.invokestatic 161, 3) := by decide +kernel
theorem dX12_hand_40 : decode cX12_hand 40 = .ok (.ifCond .ne 6, 3) := by decide +kernel
theorem dX12_hand_43 : decode cX12_hand 43 = .ok (.bipush (-3), 2) := by decide +kernel
theorem dX12_hand_45 : decode cX12_hand 45 = .ok (.ireturn, 1) := by decide +kernel
theorem dX12_hand_46 : decode cX12_hand 46 = .ok (.aload_n 0, 1) := by decide +kernel
theorem dX12_hand_47 : decode cX12_hand 47 = .ok (.getfield 13, 3) := by decide +kernel
theorem dX12_hand_50 : decode cX12_hand 50 = .ok (.bipush 36, 2) := by decide +kernel
theorem dX12_hand_52 : decode cX12_hand 52 = .ok (.iload_n 1, 1) := by decide +kernel
theorem dX12_hand_53 : decode cX12_hand 53 = .ok (.iadd, 1) := by decide +kernel
theorem dX12_hand_54 : decode cX12_hand 54 = .ok (.iaload, 1) := by decide +kernel
theorem dX12_hand_55 : decode cX12_hand 55 = .ok (.aload_n 0, 1) := by decide +kernel
theorem dX12_hand_56 : decode cX12_hand 56 = .ok (.getfield 13, 3) := by decide +kernel
theorem dX12_hand_59 : decode cX12_hand 59 = .ok (.bipush 36, 2) := by decide +kernel
theorem dX12_hand_61 : decode cX12_hand 61 = .ok (.iload_n 2, 1) := by decide +kernel
theorem dX12_hand_62 : decode cX12_hand 62 = .ok (.iadd, 1) := by decide +kernel
theorem dX12_hand_63 : decode cX12_hand 63 = .ok (.iaload, 1) := by decide +kernel
theorem dX12_hand_64 : decode cX12_hand 64 = .ok (.if_icmp .ne 16, 3) := by decide +kernel
theorem dX12_hand_67 : decode cX12_hand 67 = .ok (.aload_n 0, 1) := by decide +kernel
theorem dX12_hand_68 : decode cX12_hand 68 = .ok (.getfield 13, 3) := by decide +kernel
theorem dX12_hand_71 : decode cX12_hand 71 = .ok (.bipush 46, 2) := by decide +kernel
theorem dX12_hand_73 : decode cX12_hand 73 = .ok (.iload_n 1, 1) := by decide +kernel
theorem dX12_hand_74 : decode cX12_hand 74 = .ok (.iadd, 1) := by decide +kernel
theorem dX12_hand_75 : decode cX12_hand 75 = .ok (.iaload, 1) := by decide +kernel
theorem dX12_hand_76 : decode cX12_hand 76 = .ok (.iload_n 3, 1) := by decide +kernel
theorem dX12_hand_77 : decode cX12_hand 77 = .ok (.if_icmp .ge 6, 3) := by decide +kernel
theorem dX12_hand_80 : decode cX12_hand 80 = .ok (.bipush (-5), 2) := by decide +kernel
theorem dX12_hand_82 : decode cX12_hand 82 = .ok (.ireturn, 1) := by decide +kernel
theorem dX12_hand_83 : decode cX12_hand 83 = .ok (.aload_n 0, 1) := by decide +kernel
theorem dX12_hand_84 : decode cX12_hand 84 = .ok (.getfield 13, 3) := by decide +kernel
theorem dX12_hand_87 : decode cX12_hand 87 = .ok (.bipush 46, 2) := by decide +kernel
theorem dX12_hand_89 : decode cX12_hand 89 = .ok (.iload_n 2, 1) := by decide +kernel
theorem dX12_hand_90 : decode cX12_hand 90 = .ok (.iadd, 1) := by decide +kernel
theorem dX12_hand_91 : decode cX12_hand 91 = .ok (.iaload, 1) := by decide +kernel
theorem dX12_hand_92 : decode cX12_hand 92 = .ok (.iload_n 3, 1) := by decide +kernel
theorem dX12_hand_93 : decode cX12_hand 93 = .ok (.iadd, 1) := by decide +kernel
theorem dX12_hand_94 : decode cX12_hand 94 = .ok (.bipush 99, 2) := by decide +kernel
theorem dX12_hand_96 : decode cX12_hand 96 = .ok (.if_icmp .le 6, 3) := by decide +kernel
theorem dX12_hand_99 : decode cX12_hand 99 = .ok (.bipush (-4), 2) := by decide +kernel
theorem dX12_hand_101 : decode cX12_hand 101 = .ok (.ireturn, 1) := by decide +kernel
theorem dX12_hand_102 : decode cX12_hand 102 = .ok (.aload_n 0, 1) := by decide +kernel
theorem dX12_hand_103 : decode cX12_hand 103 = .ok (.invokevirtual 297, 3) := by decide +kernel
theorem dX12_hand_106 : decode cX12_hand 106 = .ok (.aload_n 0, 1) := by decide +kernel
theorem dX12_hand_107 : decode cX12_hand 107 = .ok (.getfield 13, 3) := by decide +kernel
theorem dX12_hand_110 : decode cX12_hand 110 = .ok (.bipush 46, 2) := by decide +kernel
theorem dX12_hand_112 : decode cX12_hand 112 = .ok (.iload_n 1, 1) := by decide +kernel
theorem dX12_hand_113 : decode cX12_hand 113 = .ok (.iadd, 1) := by decide +kernel
theorem dX12_hand_114 : decode cX12_hand 114 = .ok (.dup2, 1) := by decide +kernel
theorem dX12_hand_115 : decode cX12_hand 115 = .ok (.iaload, 1) := by decide +kernel
theorem dX12_hand_116 : decode cX12_hand 116 = .ok (.iload_n 3, 1) := by decide +kernel
theorem dX12_hand_117 : decode cX12_hand 117 = .ok (.isub, 1) := by decide +kernel
theorem dX12_hand_118 : decode cX12_hand 118 = .ok (.iastore, 1) := by decide +kernel
theorem dX12_hand_119 : decode cX12_hand 119 = .ok (.aload_n 0, 1) := by decide +kernel
theorem dX12_hand_120 : decode cX12_hand 120 = .ok (.getfield 13, 3) := by decide +kernel
theorem dX12_hand_123 : decode cX12_hand 123 = .ok (.bipush 46, 2) := by decide +kernel
theorem dX12_hand_125 : decode cX12_hand 125 = .ok (.iload_n 2, 1) := by decide +kernel
theorem dX12_hand_126 : decode cX12_hand 126 = .ok (.iadd, 1) := by decide +kernel
theorem dX12_hand_127 : decode cX12_hand 127 = .ok (.dup2, 1) := by decide +kernel
theorem dX12_hand_128 : decode cX12_hand 128 = .ok (.iaload, 1) := by decide +kernel
theorem dX12_hand_129 : decode cX12_hand 129 = .ok (.iload_n 3, 1) := by decide +kernel
theorem dX12_hand_130 : decode cX12_hand 130 = .ok (.iadd, 1) := by decide +kernel
theorem dX12_hand_131 : decode cX12_hand 131 = .ok (.iastore, 1) := by decide +kernel
theorem dX12_hand_132 : decode cX12_hand 132 = .ok (.aload_n 0, 1) := by decide +kernel
theorem dX12_hand_133 : decode cX12_hand 133 = .ok (.invokevirtual 303, 3) := by decide +kernel
theorem dX12_hand_136 : decode cX12_hand 136 = .ok (.aload_n 0, 1) := by decide +kernel
theorem dX12_hand_137 : decode cX12_hand 137 = .ok (.getfield 13, 3) := by decide +kernel
theorem dX12_hand_140 : decode cX12_hand 140 = .ok (.bipush 46, 2) := by decide +kernel
theorem dX12_hand_142 : decode cX12_hand 142 = .ok (.iload_n 2, 1) := by decide +kernel
theorem dX12_hand_143 : decode cX12_hand 143 = .ok (.iadd, 1) := by decide +kernel
theorem dX12_hand_144 : decode cX12_hand 144 = .ok (.iaload, 1) := by decide +kernel
theorem dX12_hand_145 : decode cX12_hand 145 = .ok (.ireturn, 1) := by decide +kernel
theorem dX12_hours_0 : decode cX12_hours 0 = .ok (.aload_n 0, 1) := by decide +kernel
theorem dX12_hours_1 : decode cX12_hours 1 = .ok (.iconst 0, 1) := by decide +kernel
theorem dX12_hours_2 : decode cX12_hours 2 = .ok (.putfield 1, 3) := by decide +kernel
theorem dX12_hours_5 : decode cX12_hours 5 = .ok (.iload_n 1, 1) := by decide +kernel
theorem dX12_hours_6 : decode cX12_hours 6 = .ok (.i2l, 1) := by decide +kernel
theorem dX12_hours_7 : decode cX12_hours 7 = .ok (.lconst 1, 1) := by decide +kernel
theorem dX12_hours_8 : decode cX12_hours 8 = .ok (.ldc2_w 328, 3) := by decide +kernel
theorem dX12_hours_11 : decode cX12_hours 11 = .ok (.invokestatic 161, 3) := by decide +kernel
theorem dX12_hours_14 : decode cX12_hours 14 = .ok (.ifCond .ne 6, 3) := by decide +kernel
theorem dX12_hours_17 : decode cX12_hours 17 = .ok (.bipush (-3), 2) := by decide +kernel
theorem dX12_hours_19 : decode cX12_hours 19 = .ok (.ireturn, 1) := by decide +kernel
theorem dX12_hours_20 : decode cX12_hours 20 = .ok (.aload_n 0, 1) := by decide +kernel
theorem dX12_hours_21 : decode cX12_hours 21 = .ok (.invokevirtual 297, 3) := by decide +kernel
theorem dX12_hours_24 : decode cX12_hours 24 = .ok (.aload_n 0, 1) := by decide +kernel
theorem dX12_hours_25 : decode cX12_hours 25 = .ok (.getfield 13, 3) := by decide +kernel
theorem dX12_hours_28 : decode cX12_hours 28 = .ok (.bipush 111, 2) := by decide +kernel
theorem dX12_hours_30 : decode cX12_hours 30 = .ok (.dup2, 1) := by decide +kernel
theorem dX12_hours_31 : decode cX12_hours 31 = .ok (.iaload, 1) := by decide +kernel
theorem dX12_hours_32 : decode cX12_hours 32 = .ok (.iload_n 1, 1) := by decide +kernel
theorem dX12_hours_33 : decode cX12_hours 33 = .ok (.iadd, 1) := by decide +kernel
theorem dX12_hours_34 : decode cX12_hours 34 = .ok (.iastore, 1) := by decide +kernel
theorem dX12_hours_35 : decode cX12_hours 35 = .ok (.aload_n 0, 1) := by decide +kernel
theorem dX12_hours_36 : decode cX12_hours 36 = .ok (.invokevirtual 303, 3) := by decide +kernel
theorem dX12_hours_39 : decode cX12_hours 39 = .ok (.aload_n 0, 1) := by decide +kernel
theorem dX12_hours_40 : decode cX12_hours 40 = .ok (.getfield 13, 3) := by decide +kernel
theorem dX12_hours_43 : decode cX12_hours 43 = .ok (.bipush 111, 2) := by decide +kernel
theorem dX12_hours_45 : decode cX12_hours 45 = .ok (.iaload, 1) := by decide +kernel
theorem dX12_hours_46 : decode cX12_hours 46 = .ok (.ireturn, 1) := by decide +kernel
theorem dX12_isDrawn_0 : decode cX12_isDrawn 0 = .ok (.aload_n 0, 1) := by decide +kernel
theorem dX12_isDrawn_1 : decode cX12_isDrawn 1 = .ok (.iconst 4, 1) := by decide +kernel
theorem dX12_isDrawn_2 : decode cX12_isDrawn 2 = .ok (.invokevirtual 339, 3) := by decide +kernel
theorem dX12_isDrawn_5 : decode cX12_isDrawn 5 = .ok (.istore_n 1, 1) := by decide +kernel
theorem dX12_isDrawn_6 : decode cX12_isDrawn 6 = .ok (.iload_n 1, 1) := by decide +kernel
theorem dX12_isDrawn_7 : decode cX12_isDrawn 7 = .ok (.iconst 3, 1) := by decide +kernel
theorem dX12_isDrawn_8 : decode cX12_isDrawn 8 = .ok (.if_icmp .ne 16, 3) := by decide +kernel
theorem dX12_isDrawn_11 : decode cX12_isDrawn 11 = .ok (.aload_n 0, 1) := by decide +kernel
theorem dX12_isDrawn_12 : decode cX12_isDrawn 12 = .ok (.getfield 13, 3) := by decide +kernel
theorem dX12_isDrawn_15 : decode cX12_isDrawn 15 = .ok (.bipush 111, 2) := by decide +kernel
theorem dX12_isDrawn_17 : decode cX12_isDrawn 17 = .ok (.dup2, 1) := by decide +kernel
theorem dX12_isDrawn_18 : decode cX12_isDrawn 18 = .ok (.iaload, 1) := by decide +kernel
theorem dX12_isDrawn_19 : decode cX12_isDrawn 19 = .ok (.iconst 1, 1) := by decide +kernel
theorem dX12_isDrawn_20 : decode cX12_isDrawn 20 = .ok (.iadd, 1) := by decide +kernel
theorem dX12_isDrawn_21 : decode cX12_isDrawn 21 = .ok (.iastore, 1) := by decide +kernel
theorem dX12_isDrawn_22 : decode cX12_isDrawn 22 = .ok (.iconst 1, 1) := by decide +kernel
theorem dX12_isDrawn_23 : decode cX12_isDrawn 23 = .ok (.ireturn, 1) := by decide +kernel
theorem dX12_isDrawn_24 : decode cX12_isDrawn 24 = .ok (.aload_n 0, 1) := by decide +kernel
theorem dX12_isDrawn_25 : decode cX12_isDrawn 25 = .ok (.aload_n 0, 1) := by decide +kernel
theorem dX12_isDrawn_26 : decode cX12_isDrawn 26 = .ok (.getfield 13, 3) := by decide +kernel
theorem dX12_isDrawn_29 : decode cX12_isDrawn 29 = .ok (.iconst 3, 1) := by decide +kernel
theorem dX12_isDrawn_30 : decode cX12_isDrawn 30 = .ok (.iaload, 1) := by decide +kernel
theorem dX12_isDrawn_31 : decode cX12_isDrawn 31 = .ok (.invokevirtual 339, 3) := by decide +kernel
theorem dX12_isDrawn_34 : decode cX12_isDrawn 34 = .ok (.istore_n 2, 1) := by decide +kernel
theorem dX12_isDrawn_35 : decode cX12_isDrawn 35 = .ok (.iload_n 1, 1) := by decide +kernel
theorem dX12_isDrawn_36 : decode cX12_isDrawn 36 = .ok (.iconst 2, 1) := by decide +kernel
theorem dX12_isDrawn_37 : decode cX12_isDrawn 37 = .ok (.if_icmp .ne 18, 3) := by decide +kernel
theorem dX12_isDrawn_40 : decode cX12_isDrawn 40 = .ok (.aload_n 0, 1) := by decide +kernel
theorem dX12_isDrawn_41 : decode cX12_isDrawn 41 = .ok (.iload_n 2, 1) := by decide +kernel
theorem dX12_isDrawn_42 : decode cX12_isDrawn 42 = .ok (.iconst 1, 1) := by decide +kernel
theorem dX12_isDrawn_43 : decode cX12_isDrawn 43 = .ok (.invokevirtual 325, 3) := by decide +kernel
theorem dX12_isDrawn_46 : decode cX12_isDrawn 46 = .ok (.ifCond .lt 7, 3) := by decide +kernel
theorem dX12_isDrawn_49 : decode cX12_isDrawn 49 = .ok (.iconst 1, 1) := by decide +kernel
theorem dX12_isDrawn_50 : decode cX12_isDrawn 50 = .ok (.goto 4, 3) := by decide +kernel
theorem dX12_isDrawn_53 : decode cX12_isDrawn 53 = .ok (.iconst 0, 1) := by decide +kernel
theorem dX12_isDrawn_54 : decode cX12_isDrawn 54 = .ok (.ireturn, 1) := by decide +kernel
theorem dX12_isDrawn_55 : decode cX12_isDrawn 55 = .ok (.aload_n 0, 1) := by decide +kernel
theorem dX12_isDrawn_56 : decode cX12_isDrawn 56 = .ok (.iconst 4, 1) := by decide +kernel
theorem dX12_isDrawn_57 : decode cX12_isDrawn 57 = .ok (.invokevirtual 339, 3) := by decide +kernel
theorem dX12_isDrawn_60 : decode cX12_isDrawn 60 = .ok (.istore_n 3, 1) := by decide +kernel
theorem dX12_isDrawn_61 : decode cX12_isDrawn 61 = .ok (.aload_n 0, 1) := by decide +kernel
theorem dX12_isDrawn_62 : decode cX12_isDrawn 62 = .ok (.iload_n 2, 1) := by decide +kernel
theorem dX12_isDrawn_63 : decode cX12_isDrawn 63 = .ok (.i2l, 1) := by decide +kernel
theorem dX12_isDrawn_64 : decode cX12_isDrawn 64 = .ok (.iload_n 3, 1) := by decide +kernel
theorem dX12_isDrawn_65 : decode cX12_isDrawn 65 = .ok (.i2l, 1) := by decide +kernel
theorem dX12_isDrawn_66 : decode cX12_isDrawn 66 = .ok (.invokevirtual 290, 3) := by decide +kernel
theorem dX12_isDrawn_69 : decode cX12_isDrawn 69 = .ok (.ifCond .eq 5, 3) := by decide +kernel
theorem dX12_isDrawn_72 : decode cX12_isDrawn 72 = .ok (.iconst 0, 1) := by decide +kernel
theorem dX12_isDrawn_73 : decode cX12_isDrawn 73 = .ok (.ireturn, 1) := by decide +kernel
theorem dX12_isDrawn_74 : decode cX12_isDrawn 74 = .ok (.aload_n 0, 1) := by decide +kernel
theorem dX12_isDrawn_75 : decode cX12_isDrawn 75 = .ok (.iload_n 2, 1) := by decide +kernel
theorem dX12_isDrawn_76 : decode cX12_isDrawn 76 = .ok (.iload_n 3, 1) := by decide +kernel
theorem dX12_isDrawn_77 : decode cX12_isDrawn 77 = .ok (.invokevirtual 300, 3) := by decide +kernel
theorem dX12_isDrawn_80 : decode cX12_isDrawn 80 = .ok (.pop, 1) := by decide +kernel
theorem dX12_isDrawn_81 : decode cX12_isDrawn 81 = .ok (.iconst 1, 1) := by decide +kernel
theorem dX12_isDrawn_82 : decode cX12_isDrawn 82 = .ok (.ireturn, 1) := by decide +kernel
theorem dX12_judge_0 : decode cX12_judge 0 = .ok (.aload_n 0, 1) := by decide +kernel
theorem dX12_judge_1 : decode cX12_judge 1 = .ok (.iconst 0, 1) := by decide +kernel
theorem dX12_judge_2 : decode cX12_judge 2 = .ok (.putfield 1, 3) := by decide +kernel
theorem dX12_judge_5 : decode cX12_judge 5 = .ok (.iload_n 2, 1) := by decide +kernel
theorem dX12_judge_6 : decode cX12_judge 6 = .ok (.i2l, 1) := by decide +kernel
theorem dX12_judge_7 : decode cX12_judge 7 = .ok (.lconst 0, 1) := by decide +kernel
theorem dX12_judge_8 : decode cX12_judge 8 = .ok (.ldc2_w 236, 3) := by decide +kernel
theorem dX12_judge_11 : decode cX12_judge 11 = .ok (.invokestatic 161, 3) := by decide +kernel
theorem dX12_judge_14 : decode cX12_judge 14 = .ok (.ifCond .ne 6, 3) := by decide +kernel
theorem dX12_judge_17 : decode cX12_judge 17 = .ok (.bipush (-2), 2) := by decide +kernel
theorem dX12_judge_19 : decode cX12_judge 19 = .ok (.ireturn, 1) := by decide +kernel
theorem dX12_judge_20 : decode cX12_judge 20 = .ok (.aload_n 0, 1) := by decide +kernel
theorem dX12_judge_21 : decode cX12_judge 21 = .ok (.iload_n 1, 1) := by decide +kernel
theorem dX12_judge_22 : decode cX12_judge 22 = .ok (.invokevirtual 312, 3) := by decide +kernel
theorem dX12_judge_25 : decode cX12_judge 25 = .ok (.istore_n 3, 1) := by decide +kernel
theorem dX12_judge_26 : decode cX12_judge 26 = .ok (.iload_n 3, 1) := by decide +kernel
theorem dX12_judge_27 : decode cX12_judge 27 = .ok (.ifCond .eq 5, 3) := by decide +kernel
theorem dX12_judge_30 : decode cX12_judge 30 = .ok (.iload_n 3, 1) := by decide +kernel
theorem dX12_judge_31 : decode cX12_judge 31 = .ok (.ireturn, 1) := by decide +kernel
theorem dX12_judge_32 : decode cX12_judge 32 = .ok (.aload_n 0, 1) := by decide +kernel
theorem dX12_judge_33 : decode cX12_judge 33 = .ok (.getfield 89, 3) := by decide +kernel
theorem dX12_judge_36 : decode cX12_judge 36 = .ok (.iload_n 1, 1) := by decide +kernel
theorem dX12_judge_37 : decode cX12_judge 37 = .ok (.iaload, 1) := by decide +kernel
theorem dX12_judge_38 : decode cX12_judge 38 = .ok (.ifCond .le 23, 3) := by decide +kernel
theorem dX12_judge_41 : decode cX12_judge 41 = .ok (.aload_n 0, 1) := by decide +kernel
theorem dX12_judge_42 : decode cX12_judge 42 = .ok (.aload_n 0, 1) := by decide +kernel
theorem dX12_judge_43 : decode cX12_judge 43 = .ok (.getfield 92, 3) := by decide +kernel
theorem dX12_judge_46 : decode cX12_judge 46 = .ok (.bipush 40, 2) := by decide +kernel
theorem dX12_judge_48 : decode cX12_judge 48 = .ok (.iload_n 1, 1) := by decide +kernel
theorem dX12_judge_49 : decode cX12_judge 49 = .ok (.imul, 1) := by decide +kernel
theorem dX12_judge_50 : decode cX12_judge 50 = .ok (.laload, 1) := by decide +kernel
theorem dX12_judge_51 : decode cX12_judge 51 = .ok (.invokevirtual 253, 3) := by decide +kernel
theorem dX12_judge_54 : decode cX12_judge 54 = .ok (.ifCond .eq 7, 3) := by decide +kernel
theorem dX12_judge_57 : decode cX12_judge 57 = .ok (.iconst 1, 1) := by decide +kernel
theorem dX12_judge_58 : decode cX12_judge 58 = .ok (.goto 4, 3) := by decide +kernel
theorem dX12_judge_61 : decode cX12_judge 61 = .ok (.iconst 0, 1) := by decide +kernel
theorem dX12_judge_62 : decode cX12_judge 62 = .ok (.istore 4, 2) := by decide +kernel
theorem dX12_judge_64 : decode cX12_judge 64 = .ok (.aload_n 0, 1) := by decide +kernel
theorem dX12_judge_65 : decode cX12_judge 65 = .ok (.invokevirtual 297, 3) := by decide +kernel
theorem dX12_judge_68 : decode cX12_judge 68 = .ok (.aload_n 0, 1) := by decide +kernel
theorem dX12_judge_69 : decode cX12_judge 69 = .ok (.iload_n 1, 1) := by decide +kernel
theorem dX12_judge_70 : decode cX12_judge 70 = .ok (.invokevirtual 315, 3) := by decide +kernel
theorem dX12_judge_73 : decode cX12_judge 73 = .ok (.istore 5, 2) := by decide +kernel
theorem dX12_judge_75 : decode cX12_judge 75 = .ok (.iload 4, 2) := by decide +kernel
theorem dX12_judge_77 : decode cX12_judge 77 = .ok (.ifCond .eq 24, 3) := by decide +kernel
theorem dX12_judge_80 : decode cX12_judge 80 = .ok (.aload_n 0, 1) := by decide +kernel
theorem dX12_judge_81 : decode cX12_judge 81 = .ok (.getfield 13, 3) := by decide +kernel
theorem dX12_judge_84 : decode cX12_judge 84 = .ok (.bipush 36, 2) := by decide +kernel
theorem dX12_judge_86 : decode cX12_judge 86 = .ok (.aload_n 0, 1) := by decide +kernel
theorem dX12_judge_87 : decode cX12_judge 87 = .ok (.getfield 92, 3) := by decide +kernel
theorem dX12_judge_90 : decode cX12_judge 90 = .ok (.bipush 40, 2) := by decide +kernel
theorem dX12_judge_92 : decode cX12_judge 92 = .ok (.iload_n 1, 1) := by decide +kernel
theorem dX12_judge_93 : decode cX12_judge 93 = .ok (.imul, 1) := by decide +kernel
theorem dX12_judge_94 : decode cX12_judge 94 = .ok (.laload, 1) := by decide +kernel
theorem dX12_judge_95 : decode cX12_judge 95 = .ok (.l2i, 1) := by decide +kernel
theorem dX12_judge_96 : decode cX12_judge 96 = .ok (.iadd, 1) := by decide +kernel
theorem dX12_judge_97 : decode cX12_judge 97 = .ok (.iaload, 1) := by decide +kernel
theorem dX12_judge_98 : decode cX12_judge 98 = .ok (.goto 4, 3) := by decide +kernel
theorem dX12_judge_101 : decode cX12_judge 101 = .ok (.iconst (-1), 1) := by decide +kernel
theorem dX12_judge_102 : decode cX12_judge 102 = .ok (.istore 6, 2) := by decide +kernel
theorem dX12_judge_104 : decode cX12_judge 104 = .ok (.aload_n 0, 1) := by decide +kernel
theorem dX12_judge_105 : decode cX12_judge 105 = .ok (.invokevirtual 318, 3) := by decide +kernel
theorem dX12_judge_108 : decode cX12_judge 108 = .ok (.iload_n 2, 1) := by decide +kernel
theorem dX12_judge_109 : decode cX12_judge 109 = .ok (.ifCond .ne 30, 3) := by decide +kernel
theorem dX12_judge_112 : decode cX12_judge 112 = .ok (.aload_n 0, 1) := by decide +kernel
theorem dX12_judge_113 : decode cX12_judge 113 = .ok (.getfield 306, 3) := by decide +kernel
theorem dX12_judge_116 : decode cX12_judge 116 = .ok (.ifCond .ne 7, 3) := by decide +kernel
theorem dX12_judge_119 : decode cX12_judge 119 = .ok (.iconst (-1), 1) := by decide +kernel
theorem dX12_judge_120 : decode cX12_judge 120 = .ok (.goto 45, 3) := by decide +kernel
theorem dX12_judge_123 : decode cX12_judge 123 = .ok (.iload 4, 2) := by decide +kernel
theorem dX12_judge_125 : decode cX12_judge 125 = .ok (.ifCond .eq 10, 3) := by decide +kernel
theorem dX12_judge_128 : decode cX12_judge 128 = .ok (.iload 5, 2) := by decide +kernel
theorem dX12_judge_130 : decode cX12_judge 130 = .ok (.iconst 1, 1) := by decide +kernel
theorem dX12_judge_131 : decode cX12_judge 131 = .ok (.iadd, 1) := by decide +kernel
theorem dX12_judge_132 : decode cX12_judge 132 = .ok (.goto 33, 3) := by decide +kernel
theorem dX12_judge_135 : decode cX12_judge 135 = .ok (.iconst 0, 1) := by decide +kernel
theorem dX12_judge_136 : decode cX12_judge 136 = .ok (.goto 29, 3) := by decide +kernel
theorem dX12_judge_139 : decode cX12_judge 139 = .ok (.iload_n 2, 1) := by decide +kernel
theorem dX12_judge_140 : decode cX12_judge 140 = .ok (.iconst 1, 1) := by decide +kernel
theorem dX12_judge_141 : decode cX12_judge 141 = .ok (.if_icmp .ne 10, 3) := by decide +kernel
theorem dX12_judge_144 : decode cX12_judge 144 = .ok (.aload_n 0, 1) := by decide +kernel
theorem dX12_judge_145 : decode cX12_judge 145 = .ok (.getfield 306, 3) := by decide +kernel
theorem dX12_judge_148 : decode cX12_judge 148 = .ok (.goto 17, 3) := by decide +kernel
theorem dX12_judge_151 : decode cX12_judge 151 = .ok (.iload_n 2, 1) := by decide +kernel
theorem dX12_judge_152 : decode cX12_judge 152 = .ok (.iconst 2, 1) := by decide +kernel
theorem dX12_judge_153 : decode cX12_judge 153 = .ok (.if_icmp .ne 8, 3) := by decide +kernel
theorem dX12_judge_156 : decode cX12_judge 156 = .ok (.iload 6, 2) := by decide +kernel
theorem dX12_judge_158 : decode cX12_judge 158 = .ok (.goto 7, 3) := by decide +kernel
theorem dX12_judge_161 : decode cX12_judge 161 = .ok (.aload_n 0, 1) := by decide +kernel
theorem dX12_judge_162 : decode cX12_judge 162 = .ok (.getfield 309, 3) := by decide +kernel
theorem dX12_judge_165 : decode cX12_judge 165 = .ok (.ireturn, 1) := by decide +kernel
theorem dX12_noTray_0 : decode cX12_noTray 0 = .ok (.iload_n 1, 1) := by decide +kernel
theorem dX12_noTray_1 : decode cX12_noTray 1 = .ok (.i2l, 1) := by decide +kernel
theorem dX12_noTray_2 : decode cX12_noTray 2 = .ok (.lconst 0, 1) := by decide +kernel
theorem dX12_noTray_3 : decode cX12_noTray 3 = .ok (.ldc2_w 236, 3) := by decide +kernel
theorem dX12_noTray_6 : decode cX12_noTray 6 = .ok (.invokestatic 161, 3) := by decide +kernel
theorem dX12_noTray_9 : decode cX12_noTray 9 = .ok (.ifCond .ne 8, 3) := by decide +kernel
theorem dX12_noTray_12 : decode cX12_noTray 12 = .ok (.bipush (-2), 2) := by decide +kernel
theorem dX12_noTray_14 : decode cX12_noTray 14 = .ok (.goto 19, 3) := by decide +kernel
theorem dX12_noTray_17 : decode cX12_noTray 17 = .ok (.aload_n 0, 1) := by decide +kernel
theorem dX12_noTray_18 : decode cX12_noTray 18 = .ok (.getfield 86, 3) := by decide +kernel
theorem dX12_noTray_21 : decode cX12_noTray 21 = .ok (.iload_n 1, 1) := by decide +kernel
theorem dX12_noTray_22 : decode cX12_noTray 22 = .ok (.iaload, 1) := by decide +kernel
theorem dX12_noTray_23 : decode cX12_noTray 23 = .ok (.iconst (-1), 1) := by decide +kernel
theorem dX12_noTray_24 : decode cX12_noTray 24 = .ok (.if_icmp .ne 8, 3) := by decide +kernel
theorem dX12_noTray_27 : decode cX12_noTray 27 = .ok (.bipush (-6), 2) := by decide +kernel
theorem dX12_noTray_29 : decode cX12_noTray 29 = .ok (.goto 4, 3) := by decide +kernel
theorem dX12_noTray_32 : decode cX12_noTray 32 = .ok (.iconst 0, 1) := by decide +kernel
theorem dX12_noTray_33 : decode cX12_noTray 33 = .ok (.ireturn, 1) := by decide +kernel
theorem dX12_person_0 : decode cX12_person 0 = .ok (.aload_n 0, 1) := by decide +kernel
theorem dX12_person_1 : decode cX12_person 1 = .ok (.iconst 0, 1) := by decide +kernel
theorem dX12_person_2 : decode cX12_person 2 = .ok (.putfield 1, 3) := by decide +kernel
theorem dX12_person_5 : decode cX12_person 5 = .ok (.aload_n 0, 1) := by decide +kernel
theorem dX12_person_6 : decode cX12_person 6 = .ok (.iload_n 1, 1) := by decide +kernel
theorem dX12_person_7 : decode cX12_person 7 = .ok (.i2l, 1) := by decide +kernel
theorem dX12_person_8 : decode cX12_person 8 = .ok (.invokevirtual 253, 3) := by decide +kernel
theorem dX12_person_11 : decode cX12_person 11 = .ok (.ifCond .ne 6, 3) := by decide +kernel
theorem dX12_person_14 : decode cX12_person 14 = .ok (.bipush (-8), 2) := by decide +kernel
theorem dX12_person_16 : decode cX12_person 16 = .ok (.ireturn, 1) := by decide +kernel
theorem dX12_person_17 : decode cX12_person 17 = .ok (.iload_n 2, 1) := by decide +kernel
theorem dX12_person_18 : decode cX12_person 18 = .ok (.tableswitch 84 0 4 #[34, 44, 54, 64, 74], 34) := by decide +kernel
theorem dX12_person_52 : decode cX12_person 52 = .ok (.aload_n 0, 1) := by decide +kernel
theorem dX12_person_53 : decode cX12_person 53 = .ok (.getfield 13, 3) := by decide +kernel
theorem dX12_person_56 : decode cX12_person 56 = .ok (.bipush 36, 2) := by decide +kernel
theorem dX12_person_58 : decode cX12_person 58 = .ok (.iload_n 1, 1) := by decide +kernel
theorem dX12_person_59 : decode cX12_person 59 = .ok (.iadd, 1) := by decide +kernel
theorem dX12_person_60 : decode cX12_person 60 = .ok (.iaload, 1) := by decide +kernel
theorem dX12_person_61 : decode cX12_person 61 = .ok (.ireturn, 1) := by decide +kernel
theorem dX12_person_62 : decode cX12_person 62 = .ok (.aload_n 0, 1) := by decide +kernel
theorem dX12_person_63 : decode cX12_person 63 = .ok (.getfield 13, 3) := by decide +kernel
theorem dX12_person_66 : decode cX12_person 66 = .ok (.bipush 41, 2) := by decide +kernel
theorem dX12_person_68 : decode cX12_person 68 = .ok (.iload_n 1, 1) := by decide +kernel
theorem dX12_person_69 : decode cX12_person 69 = .ok (.iadd, 1) := by decide +kernel
theorem dX12_person_70 : decode cX12_person 70 = .ok (.iaload, 1) := by decide +kernel
theorem dX12_person_71 : decode cX12_person 71 = .ok (.ireturn, 1) := by decide +kernel
theorem dX12_person_72 : decode cX12_person 72 = .ok (.aload_n 0, 1) := by decide +kernel
theorem dX12_person_73 : decode cX12_person 73 = .ok (.getfield 13, 3) := by decide +kernel
theorem dX12_person_76 : decode cX12_person 76 = .ok (.bipush 46, 2) := by decide +kernel
theorem dX12_person_78 : decode cX12_person 78 = .ok (.iload_n 1, 1) := by decide +kernel
theorem dX12_person_79 : decode cX12_person 79 = .ok (.iadd, 1) := by decide +kernel
theorem dX12_person_80 : decode cX12_person 80 = .ok (.iaload, 1) := by decide +kernel
theorem dX12_person_81 : decode cX12_person 81 = .ok (.ireturn, 1) := by decide +kernel
theorem dX12_person_82 : decode cX12_person 82 = .ok (.aload_n 0, 1) := by decide +kernel
theorem dX12_person_83 : decode cX12_person 83 = .ok (.getfield 13, 3) := by decide +kernel
theorem dX12_person_86 : decode cX12_person 86 = .ok (.bipush 51, 2) := by decide +kernel
theorem dX12_person_88 : decode cX12_person 88 = .ok (.iload_n 1, 1) := by decide +kernel
theorem dX12_person_89 : decode cX12_person 89 = .ok (.iadd, 1) := by decide +kernel
theorem dX12_person_90 : decode cX12_person 90 = .ok (.iaload, 1) := by decide +kernel
theorem dX12_person_91 : decode cX12_person 91 = .ok (.ireturn, 1) := by decide +kernel
theorem dX12_person_92 : decode cX12_person 92 = .ok (.aload_n 0, 1) := by decide +kernel
theorem dX12_person_93 : decode cX12_person 93 = .ok (.getfield 13, 3) := by decide +kernel
theorem dX12_person_96 : decode cX12_person 96 = .ok (.bipush 56, 2) := by decide +kernel
theorem dX12_person_98 : decode cX12_person 98 = .ok (.iload_n 1, 1) := by decide +kernel
theorem dX12_person_99 : decode cX12_person 99 = .ok (.iadd, 1) := by decide +kernel
theorem dX12_person_100 : decode cX12_person 100 = .ok (.iaload, 1) := by decide +kernel
theorem dX12_person_101 : decode cX12_person 101 = .ok (.ireturn, 1) := by decide +kernel
theorem dX12_person_102 : decode cX12_person 102 = .ok (.bipush (-8), 2) := by decide +kernel
theorem dX12_person_104 : decode cX12_person 104 = .ok (.ireturn, 1) := by decide +kernel
theorem dX12_price_0 : decode cX12_price 0 = .ok (.aload_n 0, 1) := by decide +kernel
theorem dX12_price_1 : decode cX12_price 1 = .ok (.iconst 0, 1) := by decide +kernel
theorem dX12_price_2 : decode cX12_price 2 = .ok (.putfield 1, 3) := by decide +kernel
theorem dX12_price_5 : decode cX12_price 5 = .ok (.aload_n 0, 1) := by decide +kernel
theorem dX12_price_6 : decode cX12_price 6 = .ok (.iload_n 1, 1) := by decide +kernel
theorem dX12_price_7 : decode cX12_price 7 = .ok (.i2l, 1) := by decide +kernel
theorem dX12_price_8 : decode cX12_price 8 = .ok (.invokevirtual 257, 3) := by decide +kernel
theorem dX12_price_11 : decode cX12_price 11 = .ok (.ifCond .eq 10, 3) := by decide +kernel
theorem dX12_price_14 : decode cX12_price 14 = .ok (.iload_n 2, 1) := by decide +kernel
theorem dX12_price_15 : decode cX12_price 15 = .ok (.invokestatic 260, 3) := by decide +kernel
theorem dX12_price_18 : decode cX12_price 18 = .ok (.ifCond .ne 6, 3) := by decide +kernel
theorem dX12_price_21 : decode cX12_price 21 = .ok (.bipush (-2), 2) := by decide +kernel
theorem dX12_price_23 : decode cX12_price 23 = .ok (.ireturn, 1) := by decide +kernel
theorem dX12_price_24 : decode cX12_price 24 = .ok (.iload_n 3, 1) := by decide +kernel
theorem dX12_price_25 : decode cX12_price 25 = .ok (.i2l, 1) := by decide +kernel
theorem dX12_price_26 : decode cX12_price 26 = .ok (.lconst 0, 1) := by decide +kernel
theorem dX12_price_27 : decode cX12_price 27 = .ok (.ldc2_w 276, 3) := by decide +kernel
theorem dX12_price_30 : decode cX12_price 30 = .ok (.invokestatic 161, 3) := by decide +kernel
theorem dX12_price_33 : decode cX12_price 33 = .ok (.ifCond .eq 13, 3) := by decide +kernel
theorem dX12_price_36 : decode cX12_price 36 = .ok (.aload_n 0, 1) := by decide +kernel
theorem dX12_price_37 : decode cX12_price 37 = .ok (.iload_n 1, 1) := by decide +kernel
theorem dX12_price_38 : decode cX12_price 38 = .ok (.iload_n 3, 1) := by decide +kernel
theorem dX12_price_39 : decode cX12_price 39 = .ok (.iload_n 2, 1) := by decide +kernel
theorem dX12_price_40 : decode cX12_price 40 = .ok (.invokevirtual 266, 3) := by decide +kernel
theorem dX12_price_43 : decode cX12_price 43 = .ok (.goto 5, 3) := by decide +kernel
theorem dX12_price_46 : decode cX12_price 46 = .ok (.bipush (-3), 2) := by decide +kernel
theorem dX12_price_48 : decode cX12_price 48 = .ok (.ireturn, 1) := by decide +kernel
theorem dX12_sell_0 : decode cX12_sell 0 = .ok (.aload_n 0, 1) := by decide +kernel
theorem dX12_sell_1 : decode cX12_sell 1 = .ok (.iconst 0, 1) := by decide +kernel
theorem dX12_sell_2 : decode cX12_sell 2 = .ok (.putfield 1, 3) := by decide +kernel
theorem dX12_sell_5 : decode cX12_sell 5 = .ok (.aload_n 0, 1) := by decide +kernel
theorem dX12_sell_6 : decode cX12_sell 6 = .ok (.iload_n 1, 1) := by decide +kernel
theorem dX12_sell_7 : decode cX12_sell 7 = .ok (.i2l, 1) := by decide +kernel
theorem dX12_sell_8 : decode cX12_sell 8 = .ok (.invokevirtual 253, 3) := by decide +kernel
theorem dX12_sell_11 : decode cX12_sell 11 = .ok (.ifCond .ne 6, 3) := by decide +kernel
theorem dX12_sell_14 : decode cX12_sell 14 = .ok (.bipush (-2), 2) := by decide +kernel
theorem dX12_sell_16 : decode cX12_sell 16 = .ok (.ireturn, 1) := by decide +kernel
theorem dX12_sell_17 : decode cX12_sell 17 = .ok (.aload_n 0, 1) := by decide +kernel
theorem dX12_sell_18 : decode cX12_sell 18 = .ok (.getfield 13, 3) := by decide +kernel
theorem dX12_sell_21 : decode cX12_sell 21 = .ok (.bipush 56, 2) := by decide +kernel
theorem dX12_sell_23 : decode cX12_sell 23 = .ok (.iload_n 1, 1) := by decide +kernel
theorem dX12_sell_24 : decode cX12_sell 24 = .ok (.iadd, 1) := by decide +kernel
theorem dX12_sell_25 : decode cX12_sell 25 = .ok (.iaload, 1) := by decide +kernel
theorem dX12_sell_26 : decode cX12_sell 26 = .ok (.ifCond .ne 6, 3) := by decide +kernel
theorem dX12_sell_29 : decode cX12_sell 29 = .ok (.bipush (-5), 2) := by decide +kernel
theorem dX12_sell_31 : decode cX12_sell 31 = .ok (.ireturn, 1) := by decide +kernel
theorem dX12_sell_32 : decode cX12_sell 32 = .ok (.aload_n 0, 1) := by decide +kernel
theorem dX12_sell_33 : decode cX12_sell 33 = .ok (.invokevirtual 297, 3) := by decide +kernel
theorem dX12_sell_36 : decode cX12_sell 36 = .ok (.aload_n 0, 1) := by decide +kernel
theorem dX12_sell_37 : decode cX12_sell 37 = .ok (.getfield 13, 3) := by decide +kernel
theorem dX12_sell_40 : decode cX12_sell 40 = .ok (.bipush 56, 2) := by decide +kernel
theorem dX12_sell_42 : decode cX12_sell 42 = .ok (.iload_n 1, 1) := by decide +kernel
theorem dX12_sell_43 : decode cX12_sell 43 = .ok (.iadd, 1) := by decide +kernel
theorem dX12_sell_44 : decode cX12_sell 44 = .ok (.iaload, 1) := by decide +kernel
theorem dX12_sell_45 : decode cX12_sell 45 = .ok (.aload_n 0, 1) := by decide +kernel
theorem dX12_sell_46 : decode cX12_sell 46 = .ok (.aload_n 0, 1) := by decide +kernel
theorem dX12_sell_47 : decode cX12_sell 47 = .ok (.getfield 13, 3) := by decide +kernel
theorem dX12_sell_50 : decode cX12_sell 50 = .ok (.bipush 36, 2) := by decide +kernel
theorem dX12_sell_52 : decode cX12_sell 52 = .ok (.iload_n 1, 1) := by decide +kernel
theorem dX12_sell_53 : decode cX12_sell 53 = .ok (.iadd, 1) := by decide +kernel
theorem dX12_sell_54 : decode cX12_sell 54 = .ok (.iaload, 1) := by decide +kernel
theorem dX12_sell_55 : decode cX12_sell 55 = .ok (.iconst 0, 1) := by decide +kernel
theorem dX12_sell_56 : decode cX12_sell 56 = .ok (.aload_n 0, 1) := by decide +kernel
theorem dX12_sell_57 : decode cX12_sell 57 = .ok (.getfield 13, 3) := by decide +kernel
theorem dX12_sell_60 : decode cX12_sell 60 = .ok (.bipush 41, 2) := by decide +kernel
theorem dX12_sell_62 : decode cX12_sell 62 = .ok (.iload_n 1, 1) := by decide +kernel
theorem dX12_sell_63 : decode cX12_sell 63 = .ok (.iadd, 1) := by decide +kernel
theorem dX12_sell_64 : decode cX12_sell 64 = .ok (.iaload, 1) := by decide +kernel
theorem dX12_sell_65 : decode cX12_sell 65 = .ok (.invokevirtual 266, 3) := by decide +kernel
theorem dX12_sell_68 : decode cX12_sell 68 = .ok (.iconst 3, 1) := by decide +kernel
theorem dX12_sell_69 : decode cX12_sell 69 = .ok (.idiv, 1) := by decide +kernel
theorem dX12_sell_70 : decode cX12_sell 70 = .ok (.imul, 1) := by decide +kernel
theorem dX12_sell_71 : decode cX12_sell 71 = .ok (.istore_n 2, 1) := by decide +kernel
theorem dX12_sell_72 : decode cX12_sell 72 = .ok (.aload_n 0, 1) := by decide +kernel
theorem dX12_sell_73 : decode cX12_sell 73 = .ok (.getfield 13, 3) := by decide +kernel
theorem dX12_sell_76 : decode cX12_sell 76 = .ok (.bipush 56, 2) := by decide +kernel
theorem dX12_sell_78 : decode cX12_sell 78 = .ok (.iload_n 1, 1) := by decide +kernel
theorem dX12_sell_79 : decode cX12_sell 79 = .ok (.iadd, 1) := by decide +kernel
theorem dX12_sell_80 : decode cX12_sell 80 = .ok (.iconst 0, 1) := by decide +kernel
theorem dX12_sell_81 : decode cX12_sell 81 = .ok (.iastore, 1) := by decide +kernel
theorem dX12_sell_82 : decode cX12_sell 82 = .ok (.aload_n 0, 1) := by decide +kernel
theorem dX12_sell_83 : decode cX12_sell 83 = .ok (.getfield 13, 3) := by decide +kernel
theorem dX12_sell_86 : decode cX12_sell 86 = .ok (.bipush 51, 2) := by decide +kernel
theorem dX12_sell_88 : decode cX12_sell 88 = .ok (.iload_n 1, 1) := by decide +kernel
theorem dX12_sell_89 : decode cX12_sell 89 = .ok (.iadd, 1) := by decide +kernel
theorem dX12_sell_90 : decode cX12_sell 90 = .ok (.aload_n 0, 1) := by decide +kernel
theorem dX12_sell_91 : decode cX12_sell 91 = .ok (.getfield 13, 3) := by decide +kernel
theorem dX12_sell_94 : decode cX12_sell 94 = .ok (.bipush 51, 2) := by decide +kernel
theorem dX12_sell_96 : decode cX12_sell 96 = .ok (.iload_n 1, 1) := by decide +kernel
theorem dX12_sell_97 : decode cX12_sell 97 = .ok (.iadd, 1) := by decide +kernel
theorem dX12_sell_98 : decode cX12_sell 98 = .ok (.iaload, 1) := by decide +kernel
theorem dX12_sell_99 : decode cX12_sell 99 = .ok (.iload_n 2, 1) := by decide +kernel
theorem dX12_sell_100 : decode cX12_sell 100 = .ok (.iadd, 1) := by decide +kernel
theorem dX12_sell_101 : decode cX12_sell 101 = .ok (.sipush 9999, 3) := by decide +kernel
theorem dX12_sell_104 : decode cX12_sell 104 = .ok (.if_icmp .le 9, 3) := by decide +kernel
theorem dX12_sell_107 : decode cX12_sell 107 = .ok (.sipush 9999, 3) := by decide +kernel
theorem dX12_sell_110 : decode cX12_sell 110 = .ok (.goto 14, 3) := by decide +kernel
theorem dX12_sell_113 : decode cX12_sell 113 = .ok (.aload_n 0, 1) := by decide +kernel
theorem dX12_sell_114 : decode cX12_sell 114 = .ok (.getfield 13, 3) := by decide +kernel
theorem dX12_sell_117 : decode cX12_sell 117 = .ok (.bipush 51, 2) := by decide +kernel
theorem dX12_sell_119 : decode cX12_sell 119 = .ok (.iload_n 1, 1) := by decide +kernel
theorem dX12_sell_120 : decode cX12_sell 120 = .ok (.iadd, 1) := by decide +kernel
theorem dX12_sell_121 : decode cX12_sell 121 = .ok (.iaload, 1) := by decide +kernel
theorem dX12_sell_122 : decode cX12_sell 122 = .ok (.iload_n 2, 1) := by decide +kernel
theorem dX12_sell_123 : decode cX12_sell 123 = .ok (.iadd, 1) := by decide +kernel
theorem dX12_sell_124 : decode cX12_sell 124 = .ok (.iastore, 1) := by decide +kernel
theorem dX12_sell_125 : decode cX12_sell 125 = .ok (.aload_n 0, 1) := by decide +kernel
theorem dX12_sell_126 : decode cX12_sell 126 = .ok (.invokevirtual 303, 3) := by decide +kernel
theorem dX12_sell_129 : decode cX12_sell 129 = .ok (.iload_n 2, 1) := by decide +kernel
theorem dX12_sell_130 : decode cX12_sell 130 = .ok (.ireturn, 1) := by decide +kernel
theorem dX12_street_0 : decode cX12_street 0 = .ok (.aload_n 0, 1) := by decide +kernel
theorem dX12_street_1 : decode cX12_street 1 = .ok (.iconst 0, 1) := by decide +kernel
theorem dX12_street_2 : decode cX12_street 2 = .ok (.putfield 1, 3) := by decide +kernel
theorem dX12_street_5 : decode cX12_street 5 = .ok (.aload_n 0, 1) := by decide +kernel
theorem dX12_street_6 : decode cX12_street 6 = .ok (.iload_n 1, 1) := by decide +kernel
theorem dX12_street_7 : decode cX12_street 7 = .ok (.i2l, 1) := by decide +kernel
theorem dX12_street_8 : decode cX12_street 8 = .ok (.invokevirtual 257, 3) := by decide +kernel
theorem dX12_street_11 : decode cX12_street 11 = .ok (.ifCond .eq 19, 3) := by decide +kernel
theorem dX12_street_14 : decode cX12_street 14 = .ok (.iload_n 2, 1) := by decide +kernel
theorem dX12_street_15 : decode cX12_street 15 = .ok (.invokestatic 260, 3) := by decide +kernel
theorem dX12_street_18 : decode cX12_street 18 = .ok (.ifCond .eq 12, 3) := by decide +kernel
theorem dX12_street_21 : decode cX12_street 21 = .ok (.aload_n 0, 1) := by decide +kernel
theorem dX12_street_22 : decode cX12_street 22 = .ok (.iload_n 1, 1) := by decide +kernel
theorem dX12_street_23 : decode cX12_street 23 = .ok (.iload_n 2, 1) := by decide +kernel
theorem dX12_street_24 : decode cX12_street 24 = .ok (.invokevirtual 263, 3) := by decide +kernel
theorem dX12_street_27 : decode cX12_street 27 = .ok (.goto 5, 3) := by decide +kernel
theorem dX12_street_30 : decode cX12_street 30 = .ok (.bipush (-2), 2) := by decide +kernel
theorem dX12_street_32 : decode cX12_street 32 = .ok (.ireturn, 1) := by decide +kernel
theorem dX12_tells_0 : decode cX12_tells 0 = .ok (.aload_n 0, 1) := by decide +kernel
theorem dX12_tells_1 : decode cX12_tells 1 = .ok (.iconst 0, 1) := by decide +kernel
theorem dX12_tells_2 : decode cX12_tells 2 = .ok (.putfield 306, 3) := by decide +kernel
theorem dX12_tells_5 : decode cX12_tells 5 = .ok (.aload_n 0, 1) := by decide +kernel
theorem dX12_tells_6 : decode cX12_tells 6 = .ok (.iconst 0, 1) := by decide +kernel
theorem dX12_tells_7 : decode cX12_tells 7 = .ok (.putfield 309, 3) := by decide +kernel
theorem dX12_tells_10 : decode cX12_tells 10 = .ok (.aload_n 0, 1) := by decide +kernel
theorem dX12_tells_11 : decode cX12_tells 11 = .ok (.getfield 89, 3) := by decide +kernel
theorem dX12_tells_14 : decode cX12_tells 14 = .ok (.iload_n 1, 1) := by decide +kernel
theorem dX12_tells_15 : decode cX12_tells 15 = .ok (.iaload, 1) := by decide +kernel
theorem dX12_tells_16 : decode cX12_tells 16 = .ok (.ifCond .eq 19, 3) := by decide +kernel
theorem dX12_tells_19 : decode cX12_tells 19 = .ok (.aload_n 0, 1) := by decide +kernel
theorem dX12_tells_20 : decode cX12_tells 20 = .ok (.aload_n 0, 1) := by decide +kernel
theorem dX12_tells_21 : decode cX12_tells 21 = .ok (.getfield 92, 3) := by decide +kernel
theorem dX12_tells_24 : decode cX12_tells 24 = .ok (.bipush 40, 2) := by decide +kernel
theorem dX12_tells_26 : decode cX12_tells 26 = .ok (.iload_n 1, 1) := by decide +kernel
theorem dX12_tells_27 : decode cX12_tells 27 = .ok (.imul, 1) := by decide +kernel
theorem dX12_tells_28 : decode cX12_tells 28 = .ok (.laload, 1) := by decide +kernel
theorem dX12_tells_29 : decode cX12_tells 29 = .ok (.invokevirtual 253, 3) := by decide +kernel
theorem dX12_tells_32 : decode cX12_tells 32 = .ok (.ifCond .ne 10, 3) := by decide +kernel
theorem dX12_tells_35 : decode cX12_tells 35 = .ok (.aload_n 0, 1) := by decide +kernel
theorem dX12_tells_36 : decode cX12_tells 36 = .ok (.iconst 1, 1) := by decide +kernel
theorem dX12_tells_37 : decode cX12_tells 37 = .ok (.putfield 306, 3) := by decide +kernel
theorem dX12_tells_40 : decode cX12_tells 40 = .ok (.iconst 0, 1) := by decide +kernel
theorem dX12_tells_41 : decode cX12_tells 41 = .ok (.ireturn, 1) := by decide +kernel
theorem dX12_tells_42 : decode cX12_tells 42 = .ok (.aload_n 0, 1) := by decide +kernel
theorem dX12_tells_43 : decode cX12_tells 43 = .ok (.getfield 92, 3) := by decide +kernel
theorem dX12_tells_46 : decode cX12_tells 46 = .ok (.bipush 40, 2) := by decide +kernel
theorem dX12_tells_48 : decode cX12_tells 48 = .ok (.iload_n 1, 1) := by decide +kernel
theorem dX12_tells_49 : decode cX12_tells 49 = .ok (.imul, 1) := by decide +kernel
theorem dX12_tells_50 : decode cX12_tells 50 = .ok (.laload, 1) := by decide +kernel
theorem dX12_tells_51 : decode cX12_tells 51 = .ok (.l2i, 1) := by decide +kernel
theorem dX12_tells_52 : decode cX12_tells 52 = .ok (.istore_n 2, 1) := by decide +kernel
theorem dX12_tells_53 : decode cX12_tells 53 = .ok (.iconst 1, 1) := by decide +kernel
theorem dX12_tells_54 : decode cX12_tells 54 = .ok (.istore_n 3, 1) := by decide +kernel
theorem dX12_tells_55 : decode cX12_tells 55 = .ok (.iload_n 3, 1) := by decide +kernel
theorem dX12_tells_56 : decode cX12_tells 56 = .ok (.aload_n 0, 1) := by decide +kernel
theorem dX12_tells_57 : decode cX12_tells 57 = .ok (.getfield 89, 3) := by decide +kernel
theorem dX12_tells_60 : decode cX12_tells 60 = .ok (.iload_n 1, 1) := by decide +kernel
theorem dX12_tells_61 : decode cX12_tells 61 = .ok (.iaload, 1) := by decide +kernel
theorem dX12_tells_62 : decode cX12_tells 62 = .ok (.if_icmp .ge 67, 3) := by decide +kernel
theorem dX12_tells_65 : decode cX12_tells 65 = .ok (.aload_n 0, 1) := by decide +kernel
theorem dX12_tells_66 : decode cX12_tells 66 = .ok (.aload_n 0, 1) := by decide +kernel
theorem dX12_tells_67 : decode cX12_tells 67 = .ok (.iload_n 2, 1) := by decide +kernel
theorem dX12_tells_68 : decode cX12_tells 68 = .ok (.i2l, 1) := by decide +kernel
theorem dX12_tells_69 : decode cX12_tells 69 = .ok (.aload_n 0, 1) := by decide +kernel
theorem dX12_tells_70 : decode cX12_tells 70 = .ok (.getfield 92, 3) := by decide +kernel
theorem dX12_tells_73 : decode cX12_tells 73 = .ok (.bipush 40, 2) := by decide +kernel
theorem dX12_tells_75 : decode cX12_tells 75 = .ok (.iload_n 1, 1) := by decide +kernel
theorem dX12_tells_76 : decode cX12_tells 76 = .ok (.imul, 1) := by decide +kernel
theorem dX12_tells_77 : decode cX12_tells 77 = .ok (.iload_n 3, 1) := by decide +kernel
theorem dX12_tells_78 : decode cX12_tells 78 = .ok (.iadd, 1) := by decide +kernel
theorem dX12_tells_79 : decode cX12_tells 79 = .ok (.laload, 1) := by decide +kernel
theorem dX12_tells_80 : decode cX12_tells 80 = .ok (.invokevirtual 290, 3) := by decide +kernel
theorem dX12_tells_83 : decode cX12_tells 83 = .ok (.putfield 306, 3) := by decide +kernel
theorem dX12_tells_86 : decode cX12_tells 86 = .ok (.aload_n 0, 1) := by decide +kernel
theorem dX12_tells_87 : decode cX12_tells 87 = .ok (.getfield 306, 3) := by decide +kernel
theorem dX12_tells_90 : decode cX12_tells 90 = .ok (.ifCond .eq 7, 3) := by decide +kernel
theorem dX12_tells_93 : decode cX12_tells 93 = .ok (.iload_n 3, 1) := by decide +kernel
theorem dX12_tells_94 : decode cX12_tells 94 = .ok (.iconst 1, 1) := by decide +kernel
theorem dX12_tells_95 : decode cX12_tells 95 = .ok (.isub, 1) := by decide +kernel
theorem dX12_tells_96 : decode cX12_tells 96 = .ok (.ireturn, 1) := by decide +kernel
theorem dX12_tells_97 : decode cX12_tells 97 = .ok (.aload_n 0, 1) := by decide +kernel
theorem dX12_tells_98 : decode cX12_tells 98 = .ok (.dup, 1) := by decide +kernel
theorem dX12_tells_99 : decode cX12_tells 99 = .ok (.getfield 309, 3) := by decide +kernel
theorem dX12_tells_102 : decode cX12_tells 102 = .ok (.aload_n 0, 1) := by decide +kernel
theorem dX12_tells_103 : decode cX12_tells 103 = .ok (.iload_n 2, 1) := by decide +kernel
theorem dX12_tells_104 : decode cX12_tells 104 = .ok (.aload_n 0, 1) := by decide +kernel
theorem dX12_tells_105 : decode cX12_tells 105 = .ok (.getfield 92, 3) := by decide +kernel
theorem dX12_tells_108 : decode cX12_tells 108 = .ok (.bipush 40, 2) := by decide +kernel
theorem dX12_tells_110 : decode cX12_tells 110 = .ok (.iload_n 1, 1) := by decide +kernel
theorem dX12_tells_111 : decode cX12_tells 111 = .ok (.imul, 1) := by decide +kernel
theorem dX12_tells_112 : decode cX12_tells 112 = .ok (.iload_n 3, 1) := by decide +kernel
theorem dX12_tells_113 : decode cX12_tells 113 = .ok (.iadd, 1) := by decide +kernel
theorem dX12_tells_114 : decode cX12_tells 114 = .ok (.laload, 1) := by decide +kernel
theorem dX12_tells_115 : decode cX12_tells 115 = .ok (.l2i, 1) := by decide +kernel
theorem dX12_tells_116 : decode cX12_tells 116 = .ok (.invokevirtual 300, 3) := by decide +kernel
theorem dX12_tells_119 : decode cX12_tells 119 = .ok (.iadd, 1) := by decide +kernel
theorem dX12_tells_120 : decode cX12_tells 120 = .ok (.putfield 309, 3) := by decide +kernel
theorem dX12_tells_123 : decode cX12_tells 123 = .ok (.iinc 3 1, 3) := by decide +kernel
theorem dX12_tells_126 : decode cX12_tells 126 = .ok (.goto (-71), 3) := by decide +kernel
theorem dX12_tells_129 : decode cX12_tells 129 = .ok (.aload_n 0, 1) := by decide +kernel
theorem dX12_tells_130 : decode cX12_tells 130 = .ok (.getfield 89, 3) := by decide +kernel
theorem dX12_tells_133 : decode cX12_tells 133 = .ok (.iload_n 1, 1) := by decide +kernel
theorem dX12_tells_134 : decode cX12_tells 134 = .ok (.iaload, 1) := by decide +kernel
theorem dX12_tells_135 : decode cX12_tells 135 = .ok (.iconst 1, 1) := by decide +kernel
theorem dX12_tells_136 : decode cX12_tells 136 = .ok (.isub, 1) := by decide +kernel
theorem dX12_tells_137 : decode cX12_tells 137 = .ok (.ireturn, 1) := by decide +kernel
theorem dX12_undo_0 : decode cX12_undo 0 = .ok (.aload_n 0, 1) := by decide +kernel
theorem dX12_undo_1 : decode cX12_undo 1 = .ok (.iconst 0, 1) := by decide +kernel
theorem dX12_undo_2 : decode cX12_undo 2 = .ok (.putfield 1, 3) := by decide +kernel
theorem dX12_undo_5 : decode cX12_undo 5 = .ok (.iload_n 1, 1) := by decide +kernel
theorem dX12_undo_6 : decode cX12_undo 6 = .ok (.i2l, 1) := by decide +kernel
theorem dX12_undo_7 : decode cX12_undo 7 = .ok (.lconst 1, 1) := by decide +kernel
theorem dX12_undo_8 : decode cX12_undo 8 = .ok (.ldc2_w 333, 3) := by decide +kernel
theorem dX12_undo_11 : decode cX12_undo 11 = .ok (.invokestatic 161, 3) := by decide +kernel
theorem dX12_undo_14 : decode cX12_undo 14 = .ok (.ifCond .eq 14, 3) := by decide +kernel
theorem dX12_undo_17 : decode cX12_undo 17 = .ok (.iload_n 1, 1) := by decide +kernel
theorem dX12_undo_18 : decode cX12_undo 18 = .ok (.aload_n 0, 1) := by decide +kernel
theorem dX12_undo_19 : decode cX12_undo 19 = .ok (.getfield 13, 3) := by decide +kernel
theorem dX12_undo_22 : decode cX12_undo 22 = .ok (.bipush 112, 2) := by decide +kernel
theorem dX12_undo_24 : decode cX12_undo 24 = .ok (.iaload, 1) := by decide +kernel
theorem dX12_undo_25 : decode cX12_undo 25 = .ok (.if_icmp .le 6, 3) := by decide +kernel
theorem dX12_undo_28 : decode cX12_undo 28 = .ok (.bipush (-3), 2) := by decide +kernel
theorem dX12_undo_30 : decode cX12_undo 30 = .ok (.ireturn, 1) := by decide +kernel
theorem dX12_undo_31 : decode cX12_undo 31 = .ok (.aload_n 0, 1) := by decide +kernel
theorem dX12_undo_32 : decode cX12_undo 32 = .ok (.getfield 13, 3) := by decide +kernel
theorem dX12_undo_35 : decode cX12_undo 35 = .ok (.bipush 112, 2) := by decide +kernel
theorem dX12_undo_37 : decode cX12_undo 37 = .ok (.dup2, 1) := by decide +kernel
theorem dX12_undo_38 : decode cX12_undo 38 = .ok (.iaload, 1) := by decide +kernel
theorem dX12_undo_39 : decode cX12_undo 39 = .ok (.iload_n 1, 1) := by decide +kernel
theorem dX12_undo_40 : decode cX12_undo 40 = .ok (.isub, 1) := by decide +kernel
theorem dX12_undo_41 : decode cX12_undo 41 = .ok (.iastore, 1) := by decide +kernel
theorem dX12_undo_42 : decode cX12_undo 42 = .ok (.iconst 0, 1) := by decide +kernel
theorem dX12_undo_43 : decode cX12_undo 43 = .ok (.istore_n 2, 1) := by decide +kernel
theorem dX12_undo_44 : decode cX12_undo 44 = .ok (.iload_n 2, 1) := by decide +kernel
theorem dX12_undo_45 : decode cX12_undo 45 = .ok (.bipush 76, 2) := by decide +kernel
theorem dX12_undo_47 : decode cX12_undo 47 = .ok (.if_icmp .ge 38, 3) := by decide +kernel
theorem dX12_undo_50 : decode cX12_undo 50 = .ok (.aload_n 0, 1) := by decide +kernel
theorem dX12_undo_51 : decode cX12_undo 51 = .ok (.getfield 13, 3) := by decide +kernel
theorem dX12_undo_54 : decode cX12_undo 54 = .ok (.bipush 36, 2) := by decide +kernel
theorem dX12_undo_56 : decode cX12_undo 56 = .ok (.iload_n 2, 1) := by decide +kernel
theorem dX12_undo_57 : decode cX12_undo 57 = .ok (.iadd, 1) := by decide +kernel
theorem dX12_undo_58 : decode cX12_undo 58 = .ok (.aload_n 0, 1) := by decide +kernel
theorem dX12_undo_59 : decode cX12_undo 59 = .ok (.getfield 13, 3) := by decide +kernel
theorem dX12_undo_62 : decode cX12_undo 62 = .ok (.bipush 113, 2) := by decide +kernel
theorem dX12_undo_64 : decode cX12_undo 64 = .ok (.bipush 76, 2) := by decide +kernel
theorem dX12_undo_66 : decode cX12_undo 66 = .ok (.aload_n 0, 1) := by decide +kernel
theorem dX12_undo_67 : decode cX12_undo 67 = .ok (.getfield 13, 3) := by decide +kernel
theorem dX12_undo_70 : decode cX12_undo 70 = .ok (.bipush 112, 2) := by decide +kernel
theorem dX12_undo_72 : decode cX12_undo 72 = .ok (.iaload, 1) := by decide +kernel
theorem dX12_undo_73 : decode cX12_undo 73 = .ok (.imul, 1) := by decide +kernel
theorem dX12_undo_74 : decode cX12_undo 74 = .ok (.iadd, 1) := by decide +kernel
theorem dX12_undo_75 : decode cX12_undo 75 = .ok (.iload_n 2, 1) := by decide +kernel
theorem dX12_undo_76 : decode cX12_undo 76 = .ok (.iadd, 1) := by decide +kernel
theorem dX12_undo_77 : decode cX12_undo 77 = .ok (.iaload, 1) := by decide +kernel
theorem dX12_undo_78 : decode cX12_undo 78 = .ok (.iastore, 1) := by decide +kernel
theorem dX12_undo_79 : decode cX12_undo 79 = .ok (.iinc 2 1, 3) := by decide +kernel
theorem dX12_undo_82 : decode cX12_undo 82 = .ok (.goto (-38), 3) := by decide +kernel
theorem dX12_undo_85 : decode cX12_undo 85 = .ok (.aload_n 0, 1) := by decide +kernel
theorem dX12_undo_86 : decode cX12_undo 86 = .ok (.getfield 13, 3) := by decide +kernel
theorem dX12_undo_89 : decode cX12_undo 89 = .ok (.bipush 112, 2) := by decide +kernel
theorem dX12_undo_91 : decode cX12_undo 91 = .ok (.iaload, 1) := by decide +kernel
theorem dX12_undo_92 : decode cX12_undo 92 = .ok (.ireturn, 1) := by decide +kernel
theorem dX12_walk_0 : decode cX12_walk 0 = .ok (.aload_n 0, 1) := by decide +kernel
theorem dX12_walk_1 : decode cX12_walk 1 = .ok (.iconst 0, 1) := by decide +kernel
theorem dX12_walk_2 : decode cX12_walk 2 = .ok (.putfield 1, 3) := by decide +kernel
theorem dX12_walk_5 : decode cX12_walk 5 = .ok (.aload_n 0, 1) := by decide +kernel
theorem dX12_walk_6 : decode cX12_walk 6 = .ok (.iload_n 1, 1) := by decide +kernel
theorem dX12_walk_7 : decode cX12_walk 7 = .ok (.invokevirtual 312, 3) := by decide +kernel
theorem dX12_walk_10 : decode cX12_walk 10 = .ok (.istore_n 2, 1) := by decide +kernel
theorem dX12_walk_11 : decode cX12_walk 11 = .ok (.iload_n 2, 1) := by decide +kernel
theorem dX12_walk_12 : decode cX12_walk 12 = .ok (.ifCond .eq 5, 3) := by decide +kernel
theorem dX12_walk_15 : decode cX12_walk 15 = .ok (.iload_n 2, 1) := by decide +kernel
theorem dX12_walk_16 : decode cX12_walk 16 = .ok (.ireturn, 1) := by decide +kernel
theorem dX12_walk_17 : decode cX12_walk 17 = .ok (.aload_n 0, 1) := by decide +kernel
theorem dX12_walk_18 : decode cX12_walk 18 = .ok (.invokevirtual 297, 3) := by decide +kernel
theorem dX12_walk_21 : decode cX12_walk 21 = .ok (.aload_n 0, 1) := by decide +kernel
theorem dX12_walk_22 : decode cX12_walk 22 = .ok (.iload_n 1, 1) := by decide +kernel
theorem dX12_walk_23 : decode cX12_walk 23 = .ok (.invokevirtual 315, 3) := by decide +kernel
theorem dX12_walk_26 : decode cX12_walk 26 = .ok (.istore_n 3, 1) := by decide +kernel
theorem dX12_walk_27 : decode cX12_walk 27 = .ok (.iload_n 3, 1) := by decide +kernel
theorem dX12_walk_28 : decode cX12_walk 28 = .ok (.ifCond .le 7, 3) := by decide +kernel
theorem dX12_walk_31 : decode cX12_walk 31 = .ok (.aload_n 0, 1) := by decide +kernel
theorem dX12_walk_32 : decode cX12_walk 32 = .ok (.invokevirtual 303, 3) := by decide +kernel
theorem dX12_walk_35 : decode cX12_walk 35 = .ok (.iload_n 3, 1) := by decide +kernel
theorem dX12_walk_36 : decode cX12_walk 36 = .ok (.ireturn, 1) := by decide +kernel
theorem dX12_why_0 : decode cX12_why 0 = .ok (.aload_n 0, 1) := by decide +kernel
theorem dX12_why_1 : decode cX12_why 1 = .ok (.iconst 0, 1) := by decide +kernel
theorem dX12_why_2 : decode cX12_why 2 = .ok (.putfield 1, 3) := by decide +kernel
theorem dX12_why_5 : decode cX12_why 5 = .ok (.aload_n 0, 1) := by decide +kernel
theorem dX12_why_6 : decode cX12_why 6 = .ok (.iload_n 1, 1) := by decide +kernel
theorem dX12_why_7 : decode cX12_why 7 = .ok (.i2l, 1) := by decide +kernel
theorem dX12_why_8 : decode cX12_why 8 = .ok (.iload_n 2, 1) := by decide +kernel
theorem dX12_why_9 : decode cX12_why 9 = .ok (.i2l, 1) := by decide +kernel
theorem dX12_why_10 : decode cX12_why 10 = .ok (.invokevirtual 290, 3) := by decide +kernel
theorem dX12_why_13 : decode cX12_why 13 = .ok (.ireturn, 1) := by decide +kernel
theorem o35_1 {x0 x1 x2 x3 x4 : Int} (h0 : x1 = x0) (h1 : x2 = 0) (h2 : x3 = 3) (h3 : 0 ≤ x4) (h4 : x4 ≤ 1) (h5 : ((x4 = 0 ∧ (x1 < x2 ∨ x3 < x1)) ∨ (x4 = 1 ∧ x2 ≤ x1 ∧ x1 ≤ x3))) (h6 : ¬ x4 = 0) : 0 ≤ x0 := by omega
theorem o35_2 {x0 x1 x2 x3 x4 : Int} (h0 : x1 = x0) (h1 : x2 = 0) (h2 : x3 = 3) (h3 : 0 ≤ x4) (h4 : x4 ≤ 1) (h5 : ((x4 = 0 ∧ (x1 < x2 ∨ x3 < x1)) ∨ (x4 = 1 ∧ x2 ≤ x1 ∧ x1 ≤ x3))) (h6 : ¬ x4 = 0) : x0 < (4 : Nat) := by omega
theorem o35_3 {x0 : Int} (h0 : x0 = 0) : (-6) ≤ x0 := by omega
theorem o35_4 {x0 : Int} (h0 : x0 = 0) : x0 ≤ 0 := by omega
theorem o35_5 {x0 x1 x2 x3 x4 x5 : Int} (h0 : x2 = x1) (h1 : x3 = 0) (h2 : x4 = 3) (h3 : 0 ≤ x5) (h4 : x5 ≤ 1) (h5 : ((x5 = 0 ∧ (x2 < x3 ∨ x4 < x2)) ∨ (x5 = 1 ∧ x3 ≤ x2 ∧ x2 ≤ x4))) (h6 : ¬ x5 = 0) (h7 : x0 = 0) : (x0 = -2 ∨ (0 ≤ x1 ∧ x1 ≤ 3)) := by omega
theorem o35_6 {x0 : Int} (h0 : x0 = (-6)) : (-6) ≤ x0 := by omega
theorem o35_7 {x0 : Int} (h0 : x0 = (-6)) : x0 ≤ 0 := by omega
theorem o35_8 {x0 x1 x2 x3 x4 x5 : Int} (h0 : x2 = x1) (h1 : x3 = 0) (h2 : x4 = 3) (h3 : 0 ≤ x5) (h4 : x5 ≤ 1) (h5 : ((x5 = 0 ∧ (x2 < x3 ∨ x4 < x2)) ∨ (x5 = 1 ∧ x3 ≤ x2 ∧ x2 ≤ x4))) (h6 : ¬ x5 = 0) (h7 : x0 = (-6)) : (x0 = -2 ∨ (0 ≤ x1 ∧ x1 ≤ 3)) := by omega
theorem o35_9 {x0 : Int} (h0 : x0 = (-2)) : (-6) ≤ x0 := by omega
theorem o35_10 {x0 : Int} (h0 : x0 = (-2)) : x0 ≤ 0 := by omega
theorem o35_11 {x0 x1 x2 x3 x4 x5 : Int} (h0 : x2 = x1) (h1 : x3 = 0) (h2 : x4 = 3) (h3 : 0 ≤ x5) (h4 : x5 ≤ 1) (h5 : ((x5 = 0 ∧ (x2 < x3 ∨ x4 < x2)) ∨ (x5 = 1 ∧ x3 ≤ x2 ∧ x2 ≤ x4))) (h6 : x5 = 0) (h7 : x0 = (-2)) : (x0 = -2 ∨ (0 ≤ x1 ∧ x1 ≤ 3)) := by omega
theorem o35_12 {x0 x1 x2 x3 : Int} (h0 : x2 = x1) (h1 : 0 ≤ x3) (h2 : x3 ≤ 1) (h3 : (x3 = 0 ∨ (0 ≤ x2 ∧ x2 ≤ 4))) (h4 : ¬ x3 = 0) (h5 : x0 = 36) (h6 : -2147483648 ≤ x0) (h7 : x0 ≤ 2147483647) (h8 : -2147483648 ≤ x1) (h9 : x1 ≤ 2147483647) (h10 : -2147483648 ≤ x3) (h11 : x3 ≤ 2147483647) : -2147483648 ≤ x0 + x1 := by omega
theorem o35_13 {x0 x1 x2 x3 : Int} (h0 : x2 = x1) (h1 : 0 ≤ x3) (h2 : x3 ≤ 1) (h3 : (x3 = 0 ∨ (0 ≤ x2 ∧ x2 ≤ 4))) (h4 : ¬ x3 = 0) (h5 : x0 = 36) (h6 : -2147483648 ≤ x0) (h7 : x0 ≤ 2147483647) (h8 : -2147483648 ≤ x1) (h9 : x1 ≤ 2147483647) (h10 : -2147483648 ≤ x3) (h11 : x3 ≤ 2147483647) : x0 + x1 ≤ 2147483647 := by omega
theorem o35_14 {x0 x1 x2 x3 x4 : Int} (h0 : x1 = x2) (h1 : 0 ≤ x3) (h2 : x3 ≤ 1) (h3 : (x3 = 0 ∨ (0 ≤ x1 ∧ x1 ≤ 4))) (h4 : ¬ x3 = 0) (h5 : x4 = 36) (h6 : x0 = x4 + x2) : 0 ≤ x0 := by omega
theorem o35_15 {x0 x1 x2 x3 x4 : Int} (h0 : x1 = x2) (h1 : 0 ≤ x3) (h2 : x3 ≤ 1) (h3 : (x3 = 0 ∨ (0 ≤ x1 ∧ x1 ≤ 4))) (h4 : ¬ x3 = 0) (h5 : x4 = 36) (h6 : x0 = x4 + x2) : x0 < (5322 : Nat) := by omega
theorem o35_16 : ∀ p, p < 41 → 36 ≤ p → 0 ≤ (elAll p).1 ∧ (elAll p).2 ≤ 24 := by decide +kernel
theorem o35_17 {x0 x1 x2 x3 x4 : Int} (h0 : x1 = x2) (h1 : 0 ≤ x3) (h2 : x3 ≤ 1) (h3 : (x3 = 0 ∨ (0 ≤ x1 ∧ x1 ≤ 4))) (h4 : ¬ x3 = 0) (h5 : x4 = 36) (h6 : x0 = x4 + x2) : (x0).toNat < 41 := by omega
theorem o35_18 {x0 x1 x2 x3 x4 : Int} (h0 : x1 = x2) (h1 : 0 ≤ x3) (h2 : x3 ≤ 1) (h3 : (x3 = 0 ∨ (0 ≤ x1 ∧ x1 ≤ 4))) (h4 : ¬ x3 = 0) (h5 : x4 = 36) (h6 : x0 = x4 + x2) : 36 ≤ (x0).toNat := by omega
theorem o35_19 {x0 x1 x2 x3 : Int} (h0 : x2 = x1) (h1 : 0 ≤ x3) (h2 : x3 ≤ 1) (h3 : (x3 = 0 ∨ (0 ≤ x2 ∧ x2 ≤ 4))) (h4 : ¬ x3 = 0) (h5 : x0 = 41) (h6 : -2147483648 ≤ x0) (h7 : x0 ≤ 2147483647) (h8 : -2147483648 ≤ x1) (h9 : x1 ≤ 2147483647) (h10 : -2147483648 ≤ x3) (h11 : x3 ≤ 2147483647) : -2147483648 ≤ x0 + x1 := by omega
theorem o35_20 {x0 x1 x2 x3 : Int} (h0 : x2 = x1) (h1 : 0 ≤ x3) (h2 : x3 ≤ 1) (h3 : (x3 = 0 ∨ (0 ≤ x2 ∧ x2 ≤ 4))) (h4 : ¬ x3 = 0) (h5 : x0 = 41) (h6 : -2147483648 ≤ x0) (h7 : x0 ≤ 2147483647) (h8 : -2147483648 ≤ x1) (h9 : x1 ≤ 2147483647) (h10 : -2147483648 ≤ x3) (h11 : x3 ≤ 2147483647) : x0 + x1 ≤ 2147483647 := by omega
theorem o35_21 {x0 x1 x2 x3 x4 : Int} (h0 : x1 = x2) (h1 : 0 ≤ x3) (h2 : x3 ≤ 1) (h3 : (x3 = 0 ∨ (0 ≤ x1 ∧ x1 ≤ 4))) (h4 : ¬ x3 = 0) (h5 : x4 = 41) (h6 : x0 = x4 + x2) : 0 ≤ x0 := by omega
theorem o35_22 {x0 x1 x2 x3 x4 : Int} (h0 : x1 = x2) (h1 : 0 ≤ x3) (h2 : x3 ≤ 1) (h3 : (x3 = 0 ∨ (0 ≤ x1 ∧ x1 ≤ 4))) (h4 : ¬ x3 = 0) (h5 : x4 = 41) (h6 : x0 = x4 + x2) : x0 < (5322 : Nat) := by omega
theorem o35_23 : ∀ p, p < 46 → 41 ≤ p → 0 ≤ (elAll p).1 ∧ (elAll p).2 ≤ 3 := by decide +kernel
theorem o35_24 {x0 x1 x2 x3 x4 : Int} (h0 : x1 = x2) (h1 : 0 ≤ x3) (h2 : x3 ≤ 1) (h3 : (x3 = 0 ∨ (0 ≤ x1 ∧ x1 ≤ 4))) (h4 : ¬ x3 = 0) (h5 : x4 = 41) (h6 : x0 = x4 + x2) : (x0).toNat < 46 := by omega
theorem o35_25 {x0 x1 x2 x3 x4 : Int} (h0 : x1 = x2) (h1 : 0 ≤ x3) (h2 : x3 ≤ 1) (h3 : (x3 = 0 ∨ (0 ≤ x1 ∧ x1 ≤ 4))) (h4 : ¬ x3 = 0) (h5 : x4 = 41) (h6 : x0 = x4 + x2) : 41 ≤ (x0).toNat := by omega
theorem o35_26 {x0 x1 x2 x3 : Int} (h0 : x2 = x1) (h1 : 0 ≤ x3) (h2 : x3 ≤ 1) (h3 : (x3 = 0 ∨ (0 ≤ x2 ∧ x2 ≤ 4))) (h4 : ¬ x3 = 0) (h5 : x0 = 46) (h6 : -2147483648 ≤ x0) (h7 : x0 ≤ 2147483647) (h8 : -2147483648 ≤ x1) (h9 : x1 ≤ 2147483647) (h10 : -2147483648 ≤ x3) (h11 : x3 ≤ 2147483647) : -2147483648 ≤ x0 + x1 := by omega
theorem o35_27 {x0 x1 x2 x3 : Int} (h0 : x2 = x1) (h1 : 0 ≤ x3) (h2 : x3 ≤ 1) (h3 : (x3 = 0 ∨ (0 ≤ x2 ∧ x2 ≤ 4))) (h4 : ¬ x3 = 0) (h5 : x0 = 46) (h6 : -2147483648 ≤ x0) (h7 : x0 ≤ 2147483647) (h8 : -2147483648 ≤ x1) (h9 : x1 ≤ 2147483647) (h10 : -2147483648 ≤ x3) (h11 : x3 ≤ 2147483647) : x0 + x1 ≤ 2147483647 := by omega
theorem o35_28 {x0 x1 x2 x3 x4 : Int} (h0 : x1 = x2) (h1 : 0 ≤ x3) (h2 : x3 ≤ 1) (h3 : (x3 = 0 ∨ (0 ≤ x1 ∧ x1 ≤ 4))) (h4 : ¬ x3 = 0) (h5 : x4 = 46) (h6 : x0 = x4 + x2) : 0 ≤ x0 := by omega
theorem o35_29 {x0 x1 x2 x3 x4 : Int} (h0 : x1 = x2) (h1 : 0 ≤ x3) (h2 : x3 ≤ 1) (h3 : (x3 = 0 ∨ (0 ≤ x1 ∧ x1 ≤ 4))) (h4 : ¬ x3 = 0) (h5 : x4 = 46) (h6 : x0 = x4 + x2) : x0 < (5322 : Nat) := by omega
theorem o35_30 : ∀ p, p < 51 → 46 ≤ p → 0 ≤ (elAll p).1 ∧ (elAll p).2 ≤ 99 := by decide +kernel
theorem o35_31 {x0 x1 x2 x3 x4 : Int} (h0 : x1 = x2) (h1 : 0 ≤ x3) (h2 : x3 ≤ 1) (h3 : (x3 = 0 ∨ (0 ≤ x1 ∧ x1 ≤ 4))) (h4 : ¬ x3 = 0) (h5 : x4 = 46) (h6 : x0 = x4 + x2) : (x0).toNat < 51 := by omega
theorem o35_32 {x0 x1 x2 x3 x4 : Int} (h0 : x1 = x2) (h1 : 0 ≤ x3) (h2 : x3 ≤ 1) (h3 : (x3 = 0 ∨ (0 ≤ x1 ∧ x1 ≤ 4))) (h4 : ¬ x3 = 0) (h5 : x4 = 46) (h6 : x0 = x4 + x2) : 46 ≤ (x0).toNat := by omega
theorem o35_33 {x0 x1 x2 x3 : Int} (h0 : x2 = x1) (h1 : 0 ≤ x3) (h2 : x3 ≤ 1) (h3 : (x3 = 0 ∨ (0 ≤ x2 ∧ x2 ≤ 4))) (h4 : ¬ x3 = 0) (h5 : x0 = 51) (h6 : -2147483648 ≤ x0) (h7 : x0 ≤ 2147483647) (h8 : -2147483648 ≤ x1) (h9 : x1 ≤ 2147483647) (h10 : -2147483648 ≤ x3) (h11 : x3 ≤ 2147483647) : -2147483648 ≤ x0 + x1 := by omega
theorem o35_34 {x0 x1 x2 x3 : Int} (h0 : x2 = x1) (h1 : 0 ≤ x3) (h2 : x3 ≤ 1) (h3 : (x3 = 0 ∨ (0 ≤ x2 ∧ x2 ≤ 4))) (h4 : ¬ x3 = 0) (h5 : x0 = 51) (h6 : -2147483648 ≤ x0) (h7 : x0 ≤ 2147483647) (h8 : -2147483648 ≤ x1) (h9 : x1 ≤ 2147483647) (h10 : -2147483648 ≤ x3) (h11 : x3 ≤ 2147483647) : x0 + x1 ≤ 2147483647 := by omega
theorem o35_35 {x0 x1 x2 x3 x4 : Int} (h0 : x1 = x2) (h1 : 0 ≤ x3) (h2 : x3 ≤ 1) (h3 : (x3 = 0 ∨ (0 ≤ x1 ∧ x1 ≤ 4))) (h4 : ¬ x3 = 0) (h5 : x4 = 51) (h6 : x0 = x4 + x2) : 0 ≤ x0 := by omega
theorem o35_36 {x0 x1 x2 x3 x4 : Int} (h0 : x1 = x2) (h1 : 0 ≤ x3) (h2 : x3 ≤ 1) (h3 : (x3 = 0 ∨ (0 ≤ x1 ∧ x1 ≤ 4))) (h4 : ¬ x3 = 0) (h5 : x4 = 51) (h6 : x0 = x4 + x2) : x0 < (5322 : Nat) := by omega
theorem o35_37 {x0 x1 x2 x3 : Int} (h0 : x2 = x1) (h1 : 0 ≤ x3) (h2 : x3 ≤ 1) (h3 : (x3 = 0 ∨ (0 ≤ x2 ∧ x2 ≤ 4))) (h4 : ¬ x3 = 0) (h5 : x0 = 56) (h6 : -2147483648 ≤ x0) (h7 : x0 ≤ 2147483647) (h8 : -2147483648 ≤ x1) (h9 : x1 ≤ 2147483647) (h10 : -2147483648 ≤ x3) (h11 : x3 ≤ 2147483647) : -2147483648 ≤ x0 + x1 := by omega
theorem o35_38 {x0 x1 x2 x3 : Int} (h0 : x2 = x1) (h1 : 0 ≤ x3) (h2 : x3 ≤ 1) (h3 : (x3 = 0 ∨ (0 ≤ x2 ∧ x2 ≤ 4))) (h4 : ¬ x3 = 0) (h5 : x0 = 56) (h6 : -2147483648 ≤ x0) (h7 : x0 ≤ 2147483647) (h8 : -2147483648 ≤ x1) (h9 : x1 ≤ 2147483647) (h10 : -2147483648 ≤ x3) (h11 : x3 ≤ 2147483647) : x0 + x1 ≤ 2147483647 := by omega
theorem o35_39 {x0 x1 x2 x3 x4 : Int} (h0 : x1 = x2) (h1 : 0 ≤ x3) (h2 : x3 ≤ 1) (h3 : (x3 = 0 ∨ (0 ≤ x1 ∧ x1 ≤ 4))) (h4 : ¬ x3 = 0) (h5 : x4 = 56) (h6 : x0 = x4 + x2) : 0 ≤ x0 := by omega
theorem o35_40 {x0 x1 x2 x3 x4 : Int} (h0 : x1 = x2) (h1 : 0 ≤ x3) (h2 : x3 ≤ 1) (h3 : (x3 = 0 ∨ (0 ≤ x1 ∧ x1 ≤ 4))) (h4 : ¬ x3 = 0) (h5 : x4 = 56) (h6 : x0 = x4 + x2) : x0 < (5322 : Nat) := by omega
theorem o35_41 {x0 : Int} (h0 : x0 = (-2)) : (-2) ≤ x0 := by omega
theorem o35_42 {x0 : Int} (h0 : x0 = (-2)) : x0 ≤ 24 := by omega
theorem o35_43 {x0 x1 x2 : Int} (h0 : x1 = x0) (h1 : 0 ≤ x2) (h2 : x2 ≤ 1) (h3 : (x2 = 0 ∨ (0 ≤ x1 ∧ x1 ≤ 24))) (h4 : ¬ x2 = 0) : 0 ≤ x0 := by omega
theorem o35_44 {x0 x1 x2 : Int} (h0 : x1 = x0) (h1 : 0 ≤ x2) (h2 : x2 ≤ 1) (h3 : (x2 = 0 ∨ (0 ≤ x1 ∧ x1 ≤ 24))) (h4 : ¬ x2 = 0) : x0 ≤ 24 := by omega
theorem o35_45 {x0 x1 : Int} (h0 : 0 ≤ x1) (h1 : x1 ≤ 1) (h2 : (x1 = 0 ∨ (0 ≤ x0 ∧ x0 ≤ 3))) (h3 : ¬ x1 = 0) : 0 ≤ x0 := by omega
theorem o35_46 {x0 x1 : Int} (h0 : 0 ≤ x1) (h1 : x1 ≤ 1) (h2 : (x1 = 0 ∨ (0 ≤ x0 ∧ x0 ≤ 3))) (h3 : ¬ x1 = 0) : x0 ≤ 3 := by omega
theorem o35_47 {x0 x1 x2 : Int} (h0 : x1 = x2) (h1 : 0 ≤ x0) (h2 : x0 ≤ 1) (h3 : (x0 = 0 ∨ (0 ≤ x1 ∧ x1 ≤ 24))) (h4 : ¬ x0 = 0) : ¬ x0 = 0 := by omega
theorem o35_48 {x0 : Int} (h0 : (-1) ≤ x0) (h1 : x0 ≤ 24) : (-2) ≤ x0 := by omega
theorem o35_49 {x0 : Int} (h0 : (-1) ≤ x0) (h1 : x0 ≤ 24) : x0 ≤ 24 := by omega
theorem o35_50 {x0 : Int} (h0 : x0 = 0) : 0 ≤ x0 := by omega
theorem o35_51 {x0 : Int} (h0 : x0 = 0) : x0 ≤ 3 := by omega
theorem o35_52 {x0 x1 x2 x3 : Int} (h0 : x2 = x1) (h1 : 0 ≤ x3) (h2 : x3 ≤ 1) (h3 : (x3 = 0 ∨ (0 ≤ x2 ∧ x2 ≤ 24))) (h4 : ¬ x3 = 0) (h5 : x0 = 61) (h6 : -2147483648 ≤ x0) (h7 : x0 ≤ 2147483647) (h8 : -2147483648 ≤ x1) (h9 : x1 ≤ 2147483647) (h10 : -2147483648 ≤ x3) (h11 : x3 ≤ 2147483647) : -2147483648 ≤ x0 + x1 := by omega
theorem o35_53 {x0 x1 x2 x3 : Int} (h0 : x2 = x1) (h1 : 0 ≤ x3) (h2 : x3 ≤ 1) (h3 : (x3 = 0 ∨ (0 ≤ x2 ∧ x2 ≤ 24))) (h4 : ¬ x3 = 0) (h5 : x0 = 61) (h6 : -2147483648 ≤ x0) (h7 : x0 ≤ 2147483647) (h8 : -2147483648 ≤ x1) (h9 : x1 ≤ 2147483647) (h10 : -2147483648 ≤ x3) (h11 : x3 ≤ 2147483647) : x0 + x1 ≤ 2147483647 := by omega
theorem o35_54 {x0 x1 x2 x3 x4 : Int} (h0 : x1 = x2) (h1 : 0 ≤ x3) (h2 : x3 ≤ 1) (h3 : (x3 = 0 ∨ (0 ≤ x1 ∧ x1 ≤ 24))) (h4 : ¬ x3 = 0) (h5 : x4 = 61) (h6 : x0 = x4 + x2) : 0 ≤ x0 := by omega
theorem o35_55 {x0 x1 x2 x3 x4 : Int} (h0 : x1 = x2) (h1 : 0 ≤ x3) (h2 : x3 ≤ 1) (h3 : (x3 = 0 ∨ (0 ≤ x1 ∧ x1 ≤ 24))) (h4 : ¬ x3 = 0) (h5 : x4 = 61) (h6 : x0 = x4 + x2) : x0 < (5322 : Nat) := by omega
theorem o35_56 {x0 x1 x2 x3 : Int} (h0 : x2 = x1) (h1 : 0 ≤ x3) (h2 : x3 ≤ 1) (h3 : (x3 = 0 ∨ (0 ≤ x2 ∧ x2 ≤ 24))) (h4 : ¬ x3 = 0) (h5 : x0 = 86) (h6 : -2147483648 ≤ x0) (h7 : x0 ≤ 2147483647) (h8 : -2147483648 ≤ x1) (h9 : x1 ≤ 2147483647) (h10 : -2147483648 ≤ x3) (h11 : x3 ≤ 2147483647) : -2147483648 ≤ x0 + x1 := by omega
theorem o35_57 {x0 x1 x2 x3 : Int} (h0 : x2 = x1) (h1 : 0 ≤ x3) (h2 : x3 ≤ 1) (h3 : (x3 = 0 ∨ (0 ≤ x2 ∧ x2 ≤ 24))) (h4 : ¬ x3 = 0) (h5 : x0 = 86) (h6 : -2147483648 ≤ x0) (h7 : x0 ≤ 2147483647) (h8 : -2147483648 ≤ x1) (h9 : x1 ≤ 2147483647) (h10 : -2147483648 ≤ x3) (h11 : x3 ≤ 2147483647) : x0 + x1 ≤ 2147483647 := by omega
theorem o35_58 {x0 x1 x2 x3 x4 : Int} (h0 : x1 = x2) (h1 : 0 ≤ x3) (h2 : x3 ≤ 1) (h3 : (x3 = 0 ∨ (0 ≤ x1 ∧ x1 ≤ 24))) (h4 : ¬ x3 = 0) (h5 : x4 = 86) (h6 : x0 = x4 + x2) : 0 ≤ x0 := by omega
theorem o35_59 {x0 x1 x2 x3 x4 : Int} (h0 : x1 = x2) (h1 : 0 ≤ x3) (h2 : x3 ≤ 1) (h3 : (x3 = 0 ∨ (0 ≤ x1 ∧ x1 ≤ 24))) (h4 : ¬ x3 = 0) (h5 : x4 = 86) (h6 : x0 = x4 + x2) : x0 < (5322 : Nat) := by omega
theorem o35_60 {x0 : Int} (h0 : x0 = 111) : 0 ≤ x0 := by omega
theorem o35_61 {x0 : Int} (h0 : x0 = 111) : x0 < (5322 : Nat) := by omega
theorem o35_62 {x0 : Int} (h0 : x0 = 111) : x0 = ((111 : Nat) : Int) := by omega
theorem o35_63 {x0 x1 x2 x3 x4 x5 : Int} (h0 : x2 = x1) (h1 : 0 ≤ x3) (h2 : x3 ≤ 1) (h3 : (x3 = 0 ∨ (0 ≤ x2 ∧ x2 ≤ 24))) (h4 : ¬ x3 = 0) (h5 : x4 = 86) (h6 : x5 = x4 + x1) (h7 : x0 = 86) (h8 : -2147483648 ≤ x0) (h9 : x0 ≤ 2147483647) (h10 : -2147483648 ≤ x1) (h11 : x1 ≤ 2147483647) (h12 : -2147483648 ≤ x3) (h13 : x3 ≤ 2147483647) (h14 : -2147483648 ≤ x4) (h15 : x4 ≤ 2147483647) (h16 : -2147483648 ≤ x5) (h17 : x5 ≤ 2147483647) : -2147483648 ≤ x0 + x1 := by omega
theorem o35_64 {x0 x1 x2 x3 x4 x5 : Int} (h0 : x2 = x1) (h1 : 0 ≤ x3) (h2 : x3 ≤ 1) (h3 : (x3 = 0 ∨ (0 ≤ x2 ∧ x2 ≤ 24))) (h4 : ¬ x3 = 0) (h5 : x4 = 86) (h6 : x5 = x4 + x1) (h7 : x0 = 86) (h8 : -2147483648 ≤ x0) (h9 : x0 ≤ 2147483647) (h10 : -2147483648 ≤ x1) (h11 : x1 ≤ 2147483647) (h12 : -2147483648 ≤ x3) (h13 : x3 ≤ 2147483647) (h14 : -2147483648 ≤ x4) (h15 : x4 ≤ 2147483647) (h16 : -2147483648 ≤ x5) (h17 : x5 ≤ 2147483647) : x0 + x1 ≤ 2147483647 := by omega
theorem o35_65 {x0 x1 x2 x3 x4 x5 x6 : Int} (h0 : x1 = x2) (h1 : 0 ≤ x3) (h2 : x3 ≤ 1) (h3 : (x3 = 0 ∨ (0 ≤ x1 ∧ x1 ≤ 24))) (h4 : ¬ x3 = 0) (h5 : x4 = 86) (h6 : x5 = x4 + x2) (h7 : x6 = 86) (h8 : x0 = x6 + x2) : 0 ≤ x0 := by omega
theorem o35_66 {x0 x1 x2 x3 x4 x5 x6 : Int} (h0 : x1 = x2) (h1 : 0 ≤ x3) (h2 : x3 ≤ 1) (h3 : (x3 = 0 ∨ (0 ≤ x1 ∧ x1 ≤ 24))) (h4 : ¬ x3 = 0) (h5 : x4 = 86) (h6 : x5 = x4 + x2) (h7 : x6 = 86) (h8 : x0 = x6 + x2) : x0 < (5322 : Nat) := by omega
theorem o35_67 {x0 x1 x2 x3 x4 x5 x6 : Int} (h0 : x2 = x3) (h1 : 0 ≤ x4) (h2 : x4 ≤ 1) (h3 : (x4 = 0 ∨ (0 ≤ x2 ∧ x2 ≤ 24))) (h4 : ¬ x4 = 0) (h5 : x5 = 86) (h6 : x1 = x5 + x3) (h7 : x6 = 86) (h8 : x0 = x6 + x3) : (x0).toNat = (x1).toNat := by omega
theorem o35_68 {x0 : Int} (h0 : x0 = (-2)) : (-3) ≤ x0 := by omega
theorem o35_69 {x0 : Int} (h0 : x0 = (-3)) : (-3) ≤ x0 := by omega
theorem o35_70 {x0 : Int} (h0 : 0 ≤ x0) : (-3) ≤ x0 := by omega
theorem o35_71 {x0 x1 x2 x3 x4 : Int} (h0 : x1 = x2) (h1 : x3 = x4) (h2 : 0 ≤ x0) (h3 : x0 ≤ 4) (h4 : (x0 = 0 → 0 ≤ x1) ∧ (x0 = 0 → x1 ≤ 4) ∧ (x0 = 0 → 0 ≤ x3) ∧ (x0 = 0 → x3 ≤ 3)) : 0 ≤ x0 := by omega
theorem o35_72 {x0 x1 x2 x3 x4 : Int} (h0 : x1 = x2) (h1 : x3 = x4) (h2 : 0 ≤ x0) (h3 : x0 ≤ 4) (h4 : (x0 = 0 → 0 ≤ x1) ∧ (x0 = 0 → x1 ≤ 4) ∧ (x0 = 0 → 0 ≤ x3) ∧ (x0 = 0 → x3 ≤ 3)) : x0 ≤ 4 := by omega
theorem o35_73 {x0 x1 x2 x3 x4 : Int} (h0 : x1 = x0) (h1 : x2 = x3) (h2 : 0 ≤ x4) (h3 : x4 ≤ 4) (h4 : (x4 = 0 → 0 ≤ x1) ∧ (x4 = 0 → x1 ≤ 4) ∧ (x4 = 0 → 0 ≤ x2) ∧ (x4 = 0 → x2 ≤ 3)) (h5 : x4 = 0) : 0 ≤ x0 := by omega
theorem o35_74 {x0 x1 x2 x3 x4 : Int} (h0 : x1 = x0) (h1 : x2 = x3) (h2 : 0 ≤ x4) (h3 : x4 ≤ 4) (h4 : (x4 = 0 → 0 ≤ x1) ∧ (x4 = 0 → x1 ≤ 4) ∧ (x4 = 0 → 0 ≤ x2) ∧ (x4 = 0 → x2 ≤ 3)) (h5 : x4 = 0) : x0 ≤ 4 := by omega
theorem o35_75 {x0 x1 x2 x3 x4 : Int} (h0 : x1 = x2) (h1 : x3 = x0) (h2 : 0 ≤ x4) (h3 : x4 ≤ 4) (h4 : (x4 = 0 → 0 ≤ x1) ∧ (x4 = 0 → x1 ≤ 4) ∧ (x4 = 0 → 0 ≤ x3) ∧ (x4 = 0 → x3 ≤ 3)) (h5 : x4 = 0) : 0 ≤ x0 := by omega
theorem o35_76 {x0 x1 x2 x3 x4 : Int} (h0 : x1 = x2) (h1 : x3 = x0) (h2 : 0 ≤ x4) (h3 : x4 ≤ 4) (h4 : (x4 = 0 → 0 ≤ x1) ∧ (x4 = 0 → x1 ≤ 4) ∧ (x4 = 0 → 0 ≤ x3) ∧ (x4 = 0 → x3 ≤ 3)) (h5 : x4 = 0) : x0 ≤ 3 := by omega
theorem o35_77 {x0 x1 x2 x3 x4 : Int} (h0 : x1 = x2) (h1 : x3 = x4) (h2 : 0 ≤ x0) (h3 : x0 ≤ 4) (h4 : (x0 = 0 → 0 ≤ x1) ∧ (x0 = 0 → x1 ≤ 4) ∧ (x0 = 0 → 0 ≤ x3) ∧ (x0 = 0 → x3 ≤ 3)) (h5 : x0 = 0) : x0 = 0 := by omega
theorem o35_78 {x0 x1 x2 x3 x4 : Int} (h0 : x1 = x0) (h1 : x2 = x3) (h2 : 0 ≤ x4) (h3 : x4 ≤ 4) (h4 : (x4 = 0 → 0 ≤ x1) ∧ (x4 = 0 → x1 ≤ 4) ∧ (x4 = 0 → 0 ≤ x2) ∧ (x4 = 0 → x2 ≤ 3)) (h5 : x4 = 0) : (x0).toNat = (x1).toNat := by omega
theorem o35_79 {x0 x1 x2 x3 x4 : Int} (h0 : x2 = x3) (h1 : x1 = x0) (h2 : 0 ≤ x4) (h3 : x4 ≤ 4) (h4 : (x4 = 0 → 0 ≤ x2) ∧ (x4 = 0 → x2 ≤ 4) ∧ (x4 = 0 → 0 ≤ x1) ∧ (x4 = 0 → x1 ≤ 3)) (h5 : x4 = 0) : x0 = x1 := by omega
theorem o35_80 {x0 x1 x2 x3 x4 x5 : Int} (h0 : x2 = x1) (h1 : x3 = x4) (h2 : 0 ≤ x5) (h3 : x5 ≤ 4) (h4 : (x5 = 0 → 0 ≤ x2) ∧ (x5 = 0 → x2 ≤ 4) ∧ (x5 = 0 → 0 ≤ x3) ∧ (x5 = 0 → x3 ≤ 3)) (h5 : x5 = 0) (h6 : x0 = 36) (h7 : -2147483648 ≤ x0) (h8 : x0 ≤ 2147483647) (h9 : -2147483648 ≤ x1) (h10 : x1 ≤ 2147483647) (h11 : -2147483648 ≤ x4) (h12 : x4 ≤ 2147483647) (h13 : -2147483648 ≤ x5) (h14 : x5 ≤ 2147483647) : -2147483648 ≤ x0 + x1 := by omega
theorem o35_81 {x0 x1 x2 x3 x4 x5 : Int} (h0 : x2 = x1) (h1 : x3 = x4) (h2 : 0 ≤ x5) (h3 : x5 ≤ 4) (h4 : (x5 = 0 → 0 ≤ x2) ∧ (x5 = 0 → x2 ≤ 4) ∧ (x5 = 0 → 0 ≤ x3) ∧ (x5 = 0 → x3 ≤ 3)) (h5 : x5 = 0) (h6 : x0 = 36) (h7 : -2147483648 ≤ x0) (h8 : x0 ≤ 2147483647) (h9 : -2147483648 ≤ x1) (h10 : x1 ≤ 2147483647) (h11 : -2147483648 ≤ x4) (h12 : x4 ≤ 2147483647) (h13 : -2147483648 ≤ x5) (h14 : x5 ≤ 2147483647) : x0 + x1 ≤ 2147483647 := by omega
theorem o35_82 {x0 x1 x2 x3 x4 x5 x6 : Int} (h0 : x1 = x2) (h1 : x3 = x4) (h2 : 0 ≤ x5) (h3 : x5 ≤ 4) (h4 : (x5 = 0 → 0 ≤ x1) ∧ (x5 = 0 → x1 ≤ 4) ∧ (x5 = 0 → 0 ≤ x3) ∧ (x5 = 0 → x3 ≤ 3)) (h5 : x5 = 0) (h6 : x6 = 36) (h7 : x0 = x6 + x2) : 0 ≤ x0 := by omega
theorem o35_83 {x0 x1 x2 x3 x4 x5 x6 : Int} (h0 : x1 = x2) (h1 : x3 = x4) (h2 : 0 ≤ x5) (h3 : x5 ≤ 4) (h4 : (x5 = 0 → 0 ≤ x1) ∧ (x5 = 0 → x1 ≤ 4) ∧ (x5 = 0 → 0 ≤ x3) ∧ (x5 = 0 → x3 ≤ 3)) (h5 : x5 = 0) (h6 : x6 = 36) (h7 : x0 = x6 + x2) : x0 < (5322 : Nat) := by omega
theorem o35_84 {x0 x1 x2 x3 x4 x5 x6 : Int} (h0 : x1 = x2) (h1 : x3 = x4) (h2 : 0 ≤ x5) (h3 : x5 ≤ 4) (h4 : (x5 = 0 → 0 ≤ x1) ∧ (x5 = 0 → x1 ≤ 4) ∧ (x5 = 0 → 0 ≤ x3) ∧ (x5 = 0 → x3 ≤ 3)) (h5 : x5 = 0) (h6 : x6 = 36) (h7 : x0 = x6 + x2) : (x0).toNat < 41 := by omega
theorem o35_85 {x0 x1 x2 x3 x4 x5 x6 : Int} (h0 : x1 = x2) (h1 : x3 = x4) (h2 : 0 ≤ x5) (h3 : x5 ≤ 4) (h4 : (x5 = 0 → 0 ≤ x1) ∧ (x5 = 0 → x1 ≤ 4) ∧ (x5 = 0 → 0 ≤ x3) ∧ (x5 = 0 → x3 ≤ 3)) (h5 : x5 = 0) (h6 : x6 = 36) (h7 : x0 = x6 + x2) : 36 ≤ (x0).toNat := by omega
theorem o35_86 {x0 : Int} (h0 : 0 ≤ x0) (h1 : x0 ≤ 24) : (-14) ≤ x0 := by omega
theorem o35_87 {x0 : Int} (h0 : 0 ≤ x0) (h1 : x0 ≤ 24) : x0 ≤ 24 := by omega
theorem o35_88 {x0 x1 x2 x3 x4 x5 : Int} (h0 : x2 = x3) (h1 : x4 = x5) (h2 : 0 ≤ x1) (h3 : x1 ≤ 4) (h4 : (x1 = 0 → 0 ≤ x2) ∧ (x1 = 0 → x2 ≤ 4) ∧ (x1 = 0 → 0 ≤ x4) ∧ (x1 = 0 → x4 ≤ 3)) (h5 : ¬ x1 = 0) (h6 : x0 = (-10)) (h7 : -2147483648 ≤ x0) (h8 : x0 ≤ 2147483647) (h9 : -2147483648 ≤ x1) (h10 : x1 ≤ 2147483647) (h11 : -2147483648 ≤ x3) (h12 : x3 ≤ 2147483647) (h13 : -2147483648 ≤ x5) (h14 : x5 ≤ 2147483647) : -2147483648 ≤ x0 - x1 := by omega
theorem o35_89 {x0 x1 x2 x3 x4 x5 : Int} (h0 : x2 = x3) (h1 : x4 = x5) (h2 : 0 ≤ x1) (h3 : x1 ≤ 4) (h4 : (x1 = 0 → 0 ≤ x2) ∧ (x1 = 0 → x2 ≤ 4) ∧ (x1 = 0 → 0 ≤ x4) ∧ (x1 = 0 → x4 ≤ 3)) (h5 : ¬ x1 = 0) (h6 : x0 = (-10)) (h7 : -2147483648 ≤ x0) (h8 : x0 ≤ 2147483647) (h9 : -2147483648 ≤ x1) (h10 : x1 ≤ 2147483647) (h11 : -2147483648 ≤ x3) (h12 : x3 ≤ 2147483647) (h13 : -2147483648 ≤ x5) (h14 : x5 ≤ 2147483647) : x0 - x1 ≤ 2147483647 := by omega
theorem o35_90 {x0 x1 x2 x3 x4 x5 x6 : Int} (h0 : x1 = x2) (h1 : x3 = x4) (h2 : 0 ≤ x5) (h3 : x5 ≤ 4) (h4 : (x5 = 0 → 0 ≤ x1) ∧ (x5 = 0 → x1 ≤ 4) ∧ (x5 = 0 → 0 ≤ x3) ∧ (x5 = 0 → x3 ≤ 3)) (h5 : ¬ x5 = 0) (h6 : x6 = (-10)) (h7 : x0 = x6 - x5) : (-14) ≤ x0 := by omega
theorem o35_91 {x0 x1 x2 x3 x4 x5 x6 : Int} (h0 : x1 = x2) (h1 : x3 = x4) (h2 : 0 ≤ x5) (h3 : x5 ≤ 4) (h4 : (x5 = 0 → 0 ≤ x1) ∧ (x5 = 0 → x1 ≤ 4) ∧ (x5 = 0 → 0 ≤ x3) ∧ (x5 = 0 → x3 ≤ 3)) (h5 : ¬ x5 = 0) (h6 : x6 = (-10)) (h7 : x0 = x6 - x5) : x0 ≤ 24 := by omega
theorem o35_92 {x0 : Int} (h0 : 0 ≤ x0) (h1 : x0 ≤ 3) : 0 ≤ x0 := by omega
theorem o35_93 {x0 : Int} (h0 : 0 ≤ x0) (h1 : x0 ≤ 3) : x0 < (4 : Nat) := by omega
theorem o35_94 {x0 : Int} (h0 : x0 = 0) : x0 ≤ 39 := by omega
theorem o35_95 {x0 : Int} (h0 : x0 = 40) : x0 = 40 := by omega
theorem o35_96 {x0 : Int} (h0 : 0 ≤ x0) (h1 : x0 ≤ 3) (h2 : -2147483648 ≤ x0) (h3 : x0 ≤ 2147483647) : -2147483648 ≤ 40 * x0 := by omega
theorem o35_97 {x0 : Int} (h0 : 0 ≤ x0) (h1 : x0 ≤ 3) (h2 : -2147483648 ≤ x0) (h3 : x0 ≤ 2147483647) : 40 * x0 ≤ 2147483647 := by omega
theorem o35_98 {x0 x1 : Int} (h0 : 0 ≤ x1) (h1 : x1 ≤ 3) (h2 : x0 = 40 * x1) : 0 ≤ x0 := by omega
theorem o35_99 {x0 x1 : Int} (h0 : 0 ≤ x1) (h1 : x1 ≤ 3) (h2 : x0 = 40 * x1) : x0 < (160 : Nat) := by omega
theorem o35_100 {x0 x1 : Int} (h0 : 0 ≤ x0) (h1 : x0 ≤ 3) (h2 : x1 = 40 * x0) (h3 : -2147483648 ≤ x0) (h4 : x0 ≤ 2147483647) (h5 : -2147483648 ≤ x1) (h6 : x1 ≤ 2147483647) : -2147483648 ≤ 40 * x0 := by omega
theorem o35_101 {x0 x1 : Int} (h0 : 0 ≤ x0) (h1 : x0 ≤ 3) (h2 : x1 = 40 * x0) (h3 : -2147483648 ≤ x0) (h4 : x0 ≤ 2147483647) (h5 : -2147483648 ≤ x1) (h6 : x1 ≤ 2147483647) : 40 * x0 ≤ 2147483647 := by omega
theorem o35_102 {x0 x1 x2 : Int} (h0 : 0 ≤ x1) (h1 : x1 ≤ 3) (h2 : x2 = 40 * x1) (h3 : x0 = 40 * x1) : 0 ≤ x0 := by omega
theorem o35_103 {x0 x1 x2 : Int} (h0 : 0 ≤ x1) (h1 : x1 ≤ 3) (h2 : x2 = 40 * x1) (h3 : x0 = 40 * x1) : x0 < (160 : Nat) := by omega
theorem o35_104 {x0 x1 x2 : Int} (h0 : 0 ≤ x2) (h1 : x2 ≤ 3) (h2 : x1 = 40 * x2) (h3 : x0 = 40 * x2) : (x0).toNat = (x1).toNat := by omega
theorem o35_105 {x0 x1 x2 : Int} (h0 : 0 ≤ x1) (h1 : x1 ≤ 1) (h2 : (x1 = 0 ∨ (0 ≤ x2 ∧ x2 ≤ 4))) (h3 : ¬ x1 = 0) (h4 : x0 = x2) (h5 : -2147483648 ≤ x1) (h6 : x1 ≤ 2147483647) : -2147483648 ≤ x0 := by omega
theorem o35_106 {x0 x1 x2 : Int} (h0 : 0 ≤ x1) (h1 : x1 ≤ 1) (h2 : (x1 = 0 ∨ (0 ≤ x2 ∧ x2 ≤ 4))) (h3 : ¬ x1 = 0) (h4 : x0 = x2) (h5 : -2147483648 ≤ x1) (h6 : x1 ≤ 2147483647) : x0 ≤ 2147483647 := by omega
theorem o35_107 {x0 : Int} (h0 : 1 ≤ x0) (h1 : x0 ≤ 40) (h2 : 40 - x0 < 0) : False := by omega
theorem o35_108 {x0 x1 x2 : Int} (h0 : 0 ≤ x0) (h1 : x0 ≤ 3) (h2 : x1 = 40 * x0) (h3 : x2 = 40 * x0) : 0 ≤ x0 := by omega
theorem o35_109 {x0 x1 x2 : Int} (h0 : 0 ≤ x0) (h1 : x0 ≤ 3) (h2 : x1 = 40 * x0) (h3 : x2 = 40 * x0) : x0 < (4 : Nat) := by omega
theorem o35_110 {x0 x1 x2 x3 x5 : Int} {x4 : Nat} (h0 : 0 ≤ x2) (h1 : x2 ≤ 40) (h2 : ¬ x2 = 0) (h3 : 1 ≤ x3) (h4 : x3 ≤ 40) (h5 : 40 - x3 < ((x4 + 1 : Nat) : Int)) (h6 : 0 ≤ x5) (h7 : x5 ≤ 40) (h8 : x5 = x2) (h9 : x5 ≤ x3) (h10 : 0 ≤ x0) (h11 : x0 ≤ 40) (h12 : x0 = x2) (h13 : x1 = 1) (h14 : -2147483648 ≤ x0) (h15 : x0 ≤ 2147483647) (h16 : -2147483648 ≤ x1) (h17 : x1 ≤ 2147483647) (h18 : -2147483648 ≤ x2) (h19 : x2 ≤ 2147483647) (h20 : -2147483648 ≤ x3) (h21 : x3 ≤ 2147483647) (h22 : -2147483648 ≤ x5) (h23 : x5 ≤ 2147483647) : -2147483648 ≤ x0 - x1 := by omega
theorem o35_111 {x0 x1 x2 x3 x5 : Int} {x4 : Nat} (h0 : 0 ≤ x2) (h1 : x2 ≤ 40) (h2 : ¬ x2 = 0) (h3 : 1 ≤ x3) (h4 : x3 ≤ 40) (h5 : 40 - x3 < ((x4 + 1 : Nat) : Int)) (h6 : 0 ≤ x5) (h7 : x5 ≤ 40) (h8 : x5 = x2) (h9 : x5 ≤ x3) (h10 : 0 ≤ x0) (h11 : x0 ≤ 40) (h12 : x0 = x2) (h13 : x1 = 1) (h14 : -2147483648 ≤ x0) (h15 : x0 ≤ 2147483647) (h16 : -2147483648 ≤ x1) (h17 : x1 ≤ 2147483647) (h18 : -2147483648 ≤ x2) (h19 : x2 ≤ 2147483647) (h20 : -2147483648 ≤ x3) (h21 : x3 ≤ 2147483647) (h22 : -2147483648 ≤ x5) (h23 : x5 ≤ 2147483647) : x0 - x1 ≤ 2147483647 := by omega
theorem o35_112 {x0 x1 x2 x4 x5 x6 : Int} {x3 : Nat} (h0 : 0 ≤ x1) (h1 : x1 ≤ 40) (h2 : ¬ x1 = 0) (h3 : 1 ≤ x2) (h4 : x2 ≤ 40) (h5 : 40 - x2 < ((x3 + 1 : Nat) : Int)) (h6 : 0 ≤ x4) (h7 : x4 ≤ 40) (h8 : x4 = x1) (h9 : x4 ≤ x2) (h10 : 0 ≤ x5) (h11 : x5 ≤ 40) (h12 : x5 = x1) (h13 : x6 = 1) (h14 : x0 = x5 - x6) : 0 ≤ x0 := by omega
theorem o35_113 {x0 x1 x2 x4 x5 x6 : Int} {x3 : Nat} (h0 : 0 ≤ x1) (h1 : x1 ≤ 40) (h2 : ¬ x1 = 0) (h3 : 1 ≤ x2) (h4 : x2 ≤ 40) (h5 : 40 - x2 < ((x3 + 1 : Nat) : Int)) (h6 : 0 ≤ x4) (h7 : x4 ≤ 40) (h8 : x4 = x1) (h9 : x4 ≤ x2) (h10 : 0 ≤ x5) (h11 : x5 ≤ 40) (h12 : x5 = x1) (h13 : x6 = 1) (h14 : x0 = x5 - x6) : x0 ≤ 39 := by omega
theorem o35_114 {x0 x1 x2 : Int} (h0 : 0 ≤ x0) (h1 : x0 ≤ 3) (h2 : x1 = 40 * x0) (h3 : x2 = 40 * x0) (h4 : -2147483648 ≤ x0) (h5 : x0 ≤ 2147483647) (h6 : -2147483648 ≤ x1) (h7 : x1 ≤ 2147483647) (h8 : -2147483648 ≤ x2) (h9 : x2 ≤ 2147483647) : -2147483648 ≤ 40 * x0 := by omega
theorem o35_115 {x0 x1 x2 : Int} (h0 : 0 ≤ x0) (h1 : x0 ≤ 3) (h2 : x1 = 40 * x0) (h3 : x2 = 40 * x0) (h4 : -2147483648 ≤ x0) (h5 : x0 ≤ 2147483647) (h6 : -2147483648 ≤ x1) (h7 : x1 ≤ 2147483647) (h8 : -2147483648 ≤ x2) (h9 : x2 ≤ 2147483647) : 40 * x0 ≤ 2147483647 := by omega
theorem o35_116 {x0 x1 x2 x3 x4 x5 x7 : Int} {x6 : Nat} (h0 : 0 ≤ x2) (h1 : x2 ≤ 3) (h2 : 0 ≤ x3) (h3 : x3 ≤ 40) (h4 : ¬ x3 = 0) (h5 : x4 = 40 * x2) (h6 : x5 = 40 * x2) (h7 : 1 ≤ x1) (h8 : x1 ≤ 40) (h9 : 40 - x1 < ((x6 + 1 : Nat) : Int)) (h10 : 0 ≤ x7) (h11 : x7 ≤ 40) (h12 : x7 = x3) (h13 : x1 < x7) (h14 : x0 = 40 * x2) (h15 : -2147483648 ≤ x0) (h16 : x0 ≤ 2147483647) (h17 : -2147483648 ≤ x1) (h18 : x1 ≤ 2147483647) (h19 : -2147483648 ≤ x2) (h20 : x2 ≤ 2147483647) (h21 : -2147483648 ≤ x3) (h22 : x3 ≤ 2147483647) (h23 : -2147483648 ≤ x4) (h24 : x4 ≤ 2147483647) (h25 : -2147483648 ≤ x5) (h26 : x5 ≤ 2147483647) (h27 : -2147483648 ≤ x7) (h28 : x7 ≤ 2147483647) : -2147483648 ≤ x0 + x1 := by omega
theorem o35_117 {x0 x1 x2 x3 x4 x5 x7 : Int} {x6 : Nat} (h0 : 0 ≤ x2) (h1 : x2 ≤ 3) (h2 : 0 ≤ x3) (h3 : x3 ≤ 40) (h4 : ¬ x3 = 0) (h5 : x4 = 40 * x2) (h6 : x5 = 40 * x2) (h7 : 1 ≤ x1) (h8 : x1 ≤ 40) (h9 : 40 - x1 < ((x6 + 1 : Nat) : Int)) (h10 : 0 ≤ x7) (h11 : x7 ≤ 40) (h12 : x7 = x3) (h13 : x1 < x7) (h14 : x0 = 40 * x2) (h15 : -2147483648 ≤ x0) (h16 : x0 ≤ 2147483647) (h17 : -2147483648 ≤ x1) (h18 : x1 ≤ 2147483647) (h19 : -2147483648 ≤ x2) (h20 : x2 ≤ 2147483647) (h21 : -2147483648 ≤ x3) (h22 : x3 ≤ 2147483647) (h23 : -2147483648 ≤ x4) (h24 : x4 ≤ 2147483647) (h25 : -2147483648 ≤ x5) (h26 : x5 ≤ 2147483647) (h27 : -2147483648 ≤ x7) (h28 : x7 ≤ 2147483647) : x0 + x1 ≤ 2147483647 := by omega
theorem o35_118 {x0 x1 x2 x3 x4 x5 x7 x8 : Int} {x6 : Nat} (h0 : 0 ≤ x1) (h1 : x1 ≤ 3) (h2 : 0 ≤ x2) (h3 : x2 ≤ 40) (h4 : ¬ x2 = 0) (h5 : x3 = 40 * x1) (h6 : x4 = 40 * x1) (h7 : 1 ≤ x5) (h8 : x5 ≤ 40) (h9 : 40 - x5 < ((x6 + 1 : Nat) : Int)) (h10 : 0 ≤ x7) (h11 : x7 ≤ 40) (h12 : x7 = x2) (h13 : x5 < x7) (h14 : x8 = 40 * x1) (h15 : x0 = x8 + x5) : 0 ≤ x0 := by omega
theorem o35_119 {x0 x1 x2 x3 x4 x5 x7 x8 : Int} {x6 : Nat} (h0 : 0 ≤ x1) (h1 : x1 ≤ 3) (h2 : 0 ≤ x2) (h3 : x2 ≤ 40) (h4 : ¬ x2 = 0) (h5 : x3 = 40 * x1) (h6 : x4 = 40 * x1) (h7 : 1 ≤ x5) (h8 : x5 ≤ 40) (h9 : 40 - x5 < ((x6 + 1 : Nat) : Int)) (h10 : 0 ≤ x7) (h11 : x7 ≤ 40) (h12 : x7 = x2) (h13 : x5 < x7) (h14 : x8 = 40 * x1) (h15 : x0 = x8 + x5) : x0 < (160 : Nat) := by omega
theorem o35_120 {x0 x1 x2 x3 x4 x6 x7 x8 : Int} {x5 : Nat} (h0 : 0 ≤ x0) (h1 : x0 ≤ 3) (h2 : 0 ≤ x1) (h3 : x1 ≤ 40) (h4 : ¬ x1 = 0) (h5 : x2 = 40 * x0) (h6 : x3 = 40 * x0) (h7 : 1 ≤ x4) (h8 : x4 ≤ 40) (h9 : 40 - x4 < ((x5 + 1 : Nat) : Int)) (h10 : 0 ≤ x6) (h11 : x6 ≤ 40) (h12 : x6 = x1) (h13 : x4 < x6) (h14 : x7 = 40 * x0) (h15 : x8 = x7 + x4) (h16 : -2147483648 ≤ x0) (h17 : x0 ≤ 2147483647) (h18 : -2147483648 ≤ x1) (h19 : x1 ≤ 2147483647) (h20 : -2147483648 ≤ x2) (h21 : x2 ≤ 2147483647) (h22 : -2147483648 ≤ x3) (h23 : x3 ≤ 2147483647) (h24 : -2147483648 ≤ x4) (h25 : x4 ≤ 2147483647) (h26 : -2147483648 ≤ x6) (h27 : x6 ≤ 2147483647) (h28 : -2147483648 ≤ x7) (h29 : x7 ≤ 2147483647) (h30 : -2147483648 ≤ x8) (h31 : x8 ≤ 2147483647) : -2147483648 ≤ 40 * x0 := by omega
theorem o35_121 {x0 x1 x2 x3 x4 x6 x7 x8 : Int} {x5 : Nat} (h0 : 0 ≤ x0) (h1 : x0 ≤ 3) (h2 : 0 ≤ x1) (h3 : x1 ≤ 40) (h4 : ¬ x1 = 0) (h5 : x2 = 40 * x0) (h6 : x3 = 40 * x0) (h7 : 1 ≤ x4) (h8 : x4 ≤ 40) (h9 : 40 - x4 < ((x5 + 1 : Nat) : Int)) (h10 : 0 ≤ x6) (h11 : x6 ≤ 40) (h12 : x6 = x1) (h13 : x4 < x6) (h14 : x7 = 40 * x0) (h15 : x8 = x7 + x4) (h16 : -2147483648 ≤ x0) (h17 : x0 ≤ 2147483647) (h18 : -2147483648 ≤ x1) (h19 : x1 ≤ 2147483647) (h20 : -2147483648 ≤ x2) (h21 : x2 ≤ 2147483647) (h22 : -2147483648 ≤ x3) (h23 : x3 ≤ 2147483647) (h24 : -2147483648 ≤ x4) (h25 : x4 ≤ 2147483647) (h26 : -2147483648 ≤ x6) (h27 : x6 ≤ 2147483647) (h28 : -2147483648 ≤ x7) (h29 : x7 ≤ 2147483647) (h30 : -2147483648 ≤ x8) (h31 : x8 ≤ 2147483647) : 40 * x0 ≤ 2147483647 := by omega
theorem o35_122 {x0 x1 x2 x3 x4 x5 x7 x8 x9 : Int} {x6 : Nat} (h0 : 0 ≤ x2) (h1 : x2 ≤ 3) (h2 : 0 ≤ x3) (h3 : x3 ≤ 40) (h4 : ¬ x3 = 0) (h5 : x4 = 40 * x2) (h6 : x5 = 40 * x2) (h7 : 1 ≤ x1) (h8 : x1 ≤ 40) (h9 : 40 - x1 < ((x6 + 1 : Nat) : Int)) (h10 : 0 ≤ x7) (h11 : x7 ≤ 40) (h12 : x7 = x3) (h13 : x1 < x7) (h14 : x8 = 40 * x2) (h15 : x9 = x8 + x1) (h16 : x0 = 40 * x2) (h17 : -2147483648 ≤ x0) (h18 : x0 ≤ 2147483647) (h19 : -2147483648 ≤ x1) (h20 : x1 ≤ 2147483647) (h21 : -2147483648 ≤ x2) (h22 : x2 ≤ 2147483647) (h23 : -2147483648 ≤ x3) (h24 : x3 ≤ 2147483647) (h25 : -2147483648 ≤ x4) (h26 : x4 ≤ 2147483647) (h27 : -2147483648 ≤ x5) (h28 : x5 ≤ 2147483647) (h29 : -2147483648 ≤ x7) (h30 : x7 ≤ 2147483647) (h31 : -2147483648 ≤ x8) (h32 : x8 ≤ 2147483647) (h33 : -2147483648 ≤ x9) (h34 : x9 ≤ 2147483647) : -2147483648 ≤ x0 + x1 := by omega
theorem o35_123 {x0 x1 x2 x3 x4 x5 x7 x8 x9 : Int} {x6 : Nat} (h0 : 0 ≤ x2) (h1 : x2 ≤ 3) (h2 : 0 ≤ x3) (h3 : x3 ≤ 40) (h4 : ¬ x3 = 0) (h5 : x4 = 40 * x2) (h6 : x5 = 40 * x2) (h7 : 1 ≤ x1) (h8 : x1 ≤ 40) (h9 : 40 - x1 < ((x6 + 1 : Nat) : Int)) (h10 : 0 ≤ x7) (h11 : x7 ≤ 40) (h12 : x7 = x3) (h13 : x1 < x7) (h14 : x8 = 40 * x2) (h15 : x9 = x8 + x1) (h16 : x0 = 40 * x2) (h17 : -2147483648 ≤ x0) (h18 : x0 ≤ 2147483647) (h19 : -2147483648 ≤ x1) (h20 : x1 ≤ 2147483647) (h21 : -2147483648 ≤ x2) (h22 : x2 ≤ 2147483647) (h23 : -2147483648 ≤ x3) (h24 : x3 ≤ 2147483647) (h25 : -2147483648 ≤ x4) (h26 : x4 ≤ 2147483647) (h27 : -2147483648 ≤ x5) (h28 : x5 ≤ 2147483647) (h29 : -2147483648 ≤ x7) (h30 : x7 ≤ 2147483647) (h31 : -2147483648 ≤ x8) (h32 : x8 ≤ 2147483647) (h33 : -2147483648 ≤ x9) (h34 : x9 ≤ 2147483647) : x0 + x1 ≤ 2147483647 := by omega
theorem o35_124 {x0 x1 x2 x3 x4 x5 x7 x8 x9 x10 : Int} {x6 : Nat} (h0 : 0 ≤ x1) (h1 : x1 ≤ 3) (h2 : 0 ≤ x2) (h3 : x2 ≤ 40) (h4 : ¬ x2 = 0) (h5 : x3 = 40 * x1) (h6 : x4 = 40 * x1) (h7 : 1 ≤ x5) (h8 : x5 ≤ 40) (h9 : 40 - x5 < ((x6 + 1 : Nat) : Int)) (h10 : 0 ≤ x7) (h11 : x7 ≤ 40) (h12 : x7 = x2) (h13 : x5 < x7) (h14 : x8 = 40 * x1) (h15 : x9 = x8 + x5) (h16 : x10 = 40 * x1) (h17 : x0 = x10 + x5) : 0 ≤ x0 := by omega
theorem o35_125 {x0 x1 x2 x3 x4 x5 x7 x8 x9 x10 : Int} {x6 : Nat} (h0 : 0 ≤ x1) (h1 : x1 ≤ 3) (h2 : 0 ≤ x2) (h3 : x2 ≤ 40) (h4 : ¬ x2 = 0) (h5 : x3 = 40 * x1) (h6 : x4 = 40 * x1) (h7 : 1 ≤ x5) (h8 : x5 ≤ 40) (h9 : 40 - x5 < ((x6 + 1 : Nat) : Int)) (h10 : 0 ≤ x7) (h11 : x7 ≤ 40) (h12 : x7 = x2) (h13 : x5 < x7) (h14 : x8 = 40 * x1) (h15 : x9 = x8 + x5) (h16 : x10 = 40 * x1) (h17 : x0 = x10 + x5) : x0 < (160 : Nat) := by omega
theorem o35_126 {x0 x1 x2 x3 x4 x5 x6 x8 x9 x10 : Int} {x7 : Nat} (h0 : 0 ≤ x2) (h1 : x2 ≤ 3) (h2 : 0 ≤ x3) (h3 : x3 ≤ 40) (h4 : ¬ x3 = 0) (h5 : x4 = 40 * x2) (h6 : x5 = 40 * x2) (h7 : 1 ≤ x6) (h8 : x6 ≤ 40) (h9 : 40 - x6 < ((x7 + 1 : Nat) : Int)) (h10 : 0 ≤ x8) (h11 : x8 ≤ 40) (h12 : x8 = x3) (h13 : x6 < x8) (h14 : x9 = 40 * x2) (h15 : x1 = x9 + x6) (h16 : x10 = 40 * x2) (h17 : x0 = x10 + x6) : (x0).toNat = (x1).toNat := by omega
theorem o35_127 {x0 x1 x2 x3 x4 x5 x6 x7 x8 : Int} (h0 : 0 ≤ x1) (h1 : x1 ≤ 1) (h2 : (x1 = 0 ∨ (0 ≤ x2 ∧ x2 ≤ 4))) (h3 : ¬ x1 = 0) (h4 : x3 = x2) (h5 : x4 = x3) (h6 : x5 = x4) (h7 : 0 ≤ x6) (h8 : x6 ≤ 4) (h9 : (x6 = 0 → 0 ≤ x5) ∧ (x6 = 0 → x5 ≤ 4) ∧ (x6 = 0 → 0 ≤ x7) ∧ (x6 = 0 → x7 ≤ 3)) (h10 : x8 = x6) (h11 : x8 = 0) (h12 : x0 = x7) (h13 : -2147483648 ≤ x1) (h14 : x1 ≤ 2147483647) (h15 : -2147483648 ≤ x4) (h16 : x4 ≤ 2147483647) (h17 : -2147483648 ≤ x6) (h18 : x6 ≤ 2147483647) (h19 : -2147483648 ≤ x8) (h20 : x8 ≤ 2147483647) : -2147483648 ≤ x0 := by omega
theorem o35_128 {x0 x1 x2 x3 x4 x5 x6 x7 x8 : Int} (h0 : 0 ≤ x1) (h1 : x1 ≤ 1) (h2 : (x1 = 0 ∨ (0 ≤ x2 ∧ x2 ≤ 4))) (h3 : ¬ x1 = 0) (h4 : x3 = x2) (h5 : x4 = x3) (h6 : x5 = x4) (h7 : 0 ≤ x6) (h8 : x6 ≤ 4) (h9 : (x6 = 0 → 0 ≤ x5) ∧ (x6 = 0 → x5 ≤ 4) ∧ (x6 = 0 → 0 ≤ x7) ∧ (x6 = 0 → x7 ≤ 3)) (h10 : x8 = x6) (h11 : x8 = 0) (h12 : x0 = x7) (h13 : -2147483648 ≤ x1) (h14 : x1 ≤ 2147483647) (h15 : -2147483648 ≤ x4) (h16 : x4 ≤ 2147483647) (h17 : -2147483648 ≤ x6) (h18 : x6 ≤ 2147483647) (h19 : -2147483648 ≤ x8) (h20 : x8 ≤ 2147483647) : x0 ≤ 2147483647 := by omega
theorem o35_129 {x0 x1 x2 x3 x4 x5 x6 x7 x8 x9 : Int} (h0 : 0 ≤ x1) (h1 : x1 ≤ 1) (h2 : (x1 = 0 ∨ (0 ≤ x2 ∧ x2 ≤ 4))) (h3 : ¬ x1 = 0) (h4 : x3 = x2) (h5 : x0 = x3) (h6 : x4 = x0) (h7 : 0 ≤ x5) (h8 : x5 ≤ 4) (h9 : (x5 = 0 → 0 ≤ x4) ∧ (x5 = 0 → x4 ≤ 4) ∧ (x5 = 0 → 0 ≤ x6) ∧ (x5 = 0 → x6 ≤ 3)) (h10 : x7 = x5) (h11 : x7 = 0) (h12 : x8 = x6) (h13 : x9 = x8) : 0 ≤ x0 := by omega
theorem o35_130 {x0 x1 x2 x3 x4 x5 x6 x7 x8 x9 : Int} (h0 : 0 ≤ x1) (h1 : x1 ≤ 1) (h2 : (x1 = 0 ∨ (0 ≤ x2 ∧ x2 ≤ 4))) (h3 : ¬ x1 = 0) (h4 : x3 = x2) (h5 : x0 = x3) (h6 : x4 = x0) (h7 : 0 ≤ x5) (h8 : x5 ≤ 4) (h9 : (x5 = 0 → 0 ≤ x4) ∧ (x5 = 0 → x4 ≤ 4) ∧ (x5 = 0 → 0 ≤ x6) ∧ (x5 = 0 → x6 ≤ 3)) (h10 : x7 = x5) (h11 : x7 = 0) (h12 : x8 = x6) (h13 : x9 = x8) : x0 ≤ 4 := by omega
theorem o35_131 {x0 x1 x2 x3 x4 x5 x6 x7 x8 x9 : Int} (h0 : 0 ≤ x1) (h1 : x1 ≤ 1) (h2 : (x1 = 0 ∨ (0 ≤ x2 ∧ x2 ≤ 4))) (h3 : ¬ x1 = 0) (h4 : x3 = x2) (h5 : x4 = x3) (h6 : x5 = x4) (h7 : 0 ≤ x6) (h8 : x6 ≤ 4) (h9 : (x6 = 0 → 0 ≤ x5) ∧ (x6 = 0 → x5 ≤ 4) ∧ (x6 = 0 → 0 ≤ x7) ∧ (x6 = 0 → x7 ≤ 3)) (h10 : x8 = x6) (h11 : x8 = 0) (h12 : x9 = x7) (h13 : x0 = x9) : 0 ≤ x0 := by omega
theorem o35_132 {x0 x1 x2 x3 x4 x5 x6 x7 x8 x9 : Int} (h0 : 0 ≤ x1) (h1 : x1 ≤ 1) (h2 : (x1 = 0 ∨ (0 ≤ x2 ∧ x2 ≤ 4))) (h3 : ¬ x1 = 0) (h4 : x3 = x2) (h5 : x4 = x3) (h6 : x5 = x4) (h7 : 0 ≤ x6) (h8 : x6 ≤ 4) (h9 : (x6 = 0 → 0 ≤ x5) ∧ (x6 = 0 → x5 ≤ 4) ∧ (x6 = 0 → 0 ≤ x7) ∧ (x6 = 0 → x7 ≤ 3)) (h10 : x8 = x6) (h11 : x8 = 0) (h12 : x9 = x7) (h13 : x0 = x9) : x0 ≤ 3 := by omega
theorem o35_133 {x0 x1 x2 x3 x4 x5 x6 x7 x8 x9 : Int} (h0 : 0 ≤ x1) (h1 : x1 ≤ 1) (h2 : (x1 = 0 ∨ (0 ≤ x2 ∧ x2 ≤ 4))) (h3 : ¬ x1 = 0) (h4 : x3 = x2) (h5 : x4 = x3) (h6 : x5 = x4) (h7 : 0 ≤ x0) (h8 : x0 ≤ 4) (h9 : (x0 = 0 → 0 ≤ x5) ∧ (x0 = 0 → x5 ≤ 4) ∧ (x0 = 0 → 0 ≤ x6) ∧ (x0 = 0 → x6 ≤ 3)) (h10 : x7 = x0) (h11 : x7 = 0) (h12 : x8 = x6) (h13 : x9 = x8) : x0 = 0 := by omega
theorem o35_134 {x0 x1 x2 x3 x4 x5 x6 x7 x8 x9 : Int} (h0 : 0 ≤ x2) (h1 : x2 ≤ 1) (h2 : (x2 = 0 ∨ (0 ≤ x3 ∧ x3 ≤ 4))) (h3 : ¬ x2 = 0) (h4 : x4 = x3) (h5 : x0 = x4) (h6 : x1 = x0) (h7 : 0 ≤ x5) (h8 : x5 ≤ 4) (h9 : (x5 = 0 → 0 ≤ x1) ∧ (x5 = 0 → x1 ≤ 4) ∧ (x5 = 0 → 0 ≤ x6) ∧ (x5 = 0 → x6 ≤ 3)) (h10 : x7 = x5) (h11 : x7 = 0) (h12 : x8 = x6) (h13 : x9 = x8) : (x0).toNat = (x1).toNat := by omega
theorem o35_135 {x0 x1 x2 x3 x4 x5 x6 x7 x8 x9 : Int} (h0 : 0 ≤ x2) (h1 : x2 ≤ 1) (h2 : (x2 = 0 ∨ (0 ≤ x3 ∧ x3 ≤ 4))) (h3 : ¬ x2 = 0) (h4 : x4 = x3) (h5 : x5 = x4) (h6 : x6 = x5) (h7 : 0 ≤ x7) (h8 : x7 ≤ 4) (h9 : (x7 = 0 → 0 ≤ x6) ∧ (x7 = 0 → x6 ≤ 4) ∧ (x7 = 0 → 0 ≤ x1) ∧ (x7 = 0 → x1 ≤ 3)) (h10 : x8 = x7) (h11 : x8 = 0) (h12 : x9 = x1) (h13 : x0 = x9) : x0 = x1 := by omega
theorem o35_136 {x0 x1 x2 x3 x4 x5 x6 x7 x8 x9 : Int} (h0 : 0 ≤ x0) (h1 : x0 ≤ 1) (h2 : (x0 = 0 ∨ (0 ≤ x1 ∧ x1 ≤ 4))) (h3 : ¬ x0 = 0) (h4 : x2 = x1) (h5 : x3 = x2) (h6 : x4 = x3) (h7 : 0 ≤ x5) (h8 : x5 ≤ 4) (h9 : (x5 = 0 → 0 ≤ x4) ∧ (x5 = 0 → x4 ≤ 4) ∧ (x5 = 0 → 0 ≤ x6) ∧ (x5 = 0 → x6 ≤ 3)) (h10 : x7 = x5) (h11 : x7 = 0) (h12 : x8 = x6) (h13 : x9 = x8) : ¬ x0 = 0 := by omega
theorem o35_137 {x0 x1 x2 x3 x4 x6 x7 x8 x9 x10 : Int} {x5 : Nat} (h0 : 0 ≤ x1) (h1 : x1 ≤ 3) (h2 : 0 ≤ x2) (h3 : x2 ≤ 40) (h4 : ¬ x2 = 0) (h5 : x3 = 40 * x1) (h6 : x4 = 40 * x1) (h7 : 1 ≤ x0) (h8 : x0 ≤ 40) (h9 : 40 - x0 < ((x5 + 1 : Nat) : Int)) (h10 : 0 ≤ x6) (h11 : x6 ≤ 40) (h12 : x6 = x2) (h13 : x0 < x6) (h14 : x7 = 40 * x1) (h15 : x8 = x7 + x0) (h16 : x9 = 40 * x1) (h17 : x10 = x9 + x0) (h18 : -2147483648 ≤ x0) (h19 : x0 ≤ 2147483647) (h20 : -2147483648 ≤ x1) (h21 : x1 ≤ 2147483647) (h22 : -2147483648 ≤ x2) (h23 : x2 ≤ 2147483647) (h24 : -2147483648 ≤ x3) (h25 : x3 ≤ 2147483647) (h26 : -2147483648 ≤ x4) (h27 : x4 ≤ 2147483647) (h28 : -2147483648 ≤ x6) (h29 : x6 ≤ 2147483647) (h30 : -2147483648 ≤ x7) (h31 : x7 ≤ 2147483647) (h32 : -2147483648 ≤ x8) (h33 : x8 ≤ 2147483647) (h34 : -2147483648 ≤ x9) (h35 : x9 ≤ 2147483647) (h36 : -2147483648 ≤ x10) (h37 : x10 ≤ 2147483647) : -2147483648 ≤ x0 + 1 := by omega
theorem o35_138 {x0 x1 x2 x3 x4 x6 x7 x8 x9 x10 : Int} {x5 : Nat} (h0 : 0 ≤ x1) (h1 : x1 ≤ 3) (h2 : 0 ≤ x2) (h3 : x2 ≤ 40) (h4 : ¬ x2 = 0) (h5 : x3 = 40 * x1) (h6 : x4 = 40 * x1) (h7 : 1 ≤ x0) (h8 : x0 ≤ 40) (h9 : 40 - x0 < ((x5 + 1 : Nat) : Int)) (h10 : 0 ≤ x6) (h11 : x6 ≤ 40) (h12 : x6 = x2) (h13 : x0 < x6) (h14 : x7 = 40 * x1) (h15 : x8 = x7 + x0) (h16 : x9 = 40 * x1) (h17 : x10 = x9 + x0) (h18 : -2147483648 ≤ x0) (h19 : x0 ≤ 2147483647) (h20 : -2147483648 ≤ x1) (h21 : x1 ≤ 2147483647) (h22 : -2147483648 ≤ x2) (h23 : x2 ≤ 2147483647) (h24 : -2147483648 ≤ x3) (h25 : x3 ≤ 2147483647) (h26 : -2147483648 ≤ x4) (h27 : x4 ≤ 2147483647) (h28 : -2147483648 ≤ x6) (h29 : x6 ≤ 2147483647) (h30 : -2147483648 ≤ x7) (h31 : x7 ≤ 2147483647) (h32 : -2147483648 ≤ x8) (h33 : x8 ≤ 2147483647) (h34 : -2147483648 ≤ x9) (h35 : x9 ≤ 2147483647) (h36 : -2147483648 ≤ x10) (h37 : x10 ≤ 2147483647) : x0 + 1 ≤ 2147483647 := by omega
theorem o35_139 {x0 x2 x3 x4 x5 x6 x7 x8 x9 x10 x11 : Int} {x1 : Nat} (h0 : 0 ≤ x2) (h1 : x2 ≤ 3) (h2 : 0 ≤ x3) (h3 : x3 ≤ 40) (h4 : ¬ x3 = 0) (h5 : x4 = 40 * x2) (h6 : x5 = 40 * x2) (h7 : 1 ≤ x6) (h8 : x6 ≤ 40) (h9 : 40 - x6 < ((x1 + 1 : Nat) : Int)) (h10 : 0 ≤ x7) (h11 : x7 ≤ 40) (h12 : x7 = x3) (h13 : x6 < x7) (h14 : x8 = 40 * x2) (h15 : x9 = x8 + x6) (h16 : x10 = 40 * x2) (h17 : x11 = x10 + x6) (h18 : x0 = x6 + 1) : 40 - x0 < (x1 : Int) := by omega
theorem o35_140 {x0 x1 x2 x3 x4 x5 x7 x8 x9 x10 x11 : Int} {x6 : Nat} (h0 : 0 ≤ x1) (h1 : x1 ≤ 3) (h2 : 0 ≤ x2) (h3 : x2 ≤ 40) (h4 : ¬ x2 = 0) (h5 : x3 = 40 * x1) (h6 : x4 = 40 * x1) (h7 : 1 ≤ x5) (h8 : x5 ≤ 40) (h9 : 40 - x5 < ((x6 + 1 : Nat) : Int)) (h10 : 0 ≤ x7) (h11 : x7 ≤ 40) (h12 : x7 = x2) (h13 : x5 < x7) (h14 : x8 = 40 * x1) (h15 : x9 = x8 + x5) (h16 : x10 = 40 * x1) (h17 : x11 = x10 + x5) (h18 : x0 = x5 + 1) : 1 ≤ x0 := by omega
theorem o35_141 {x0 x1 x2 x3 x4 x5 x7 x8 x9 x10 x11 : Int} {x6 : Nat} (h0 : 0 ≤ x1) (h1 : x1 ≤ 3) (h2 : 0 ≤ x2) (h3 : x2 ≤ 40) (h4 : ¬ x2 = 0) (h5 : x3 = 40 * x1) (h6 : x4 = 40 * x1) (h7 : 1 ≤ x5) (h8 : x5 ≤ 40) (h9 : 40 - x5 < ((x6 + 1 : Nat) : Int)) (h10 : 0 ≤ x7) (h11 : x7 ≤ 40) (h12 : x7 = x2) (h13 : x5 < x7) (h14 : x8 = 40 * x1) (h15 : x9 = x8 + x5) (h16 : x10 = 40 * x1) (h17 : x11 = x10 + x5) (h18 : x0 = x5 + 1) : x0 ≤ 40 := by omega
theorem o35_142 {x0 x1 x2 x3 x4 x5 x7 x8 x9 : Int} {x6 : Nat} (h0 : 0 ≤ x2) (h1 : x2 ≤ 3) (h2 : 0 ≤ x3) (h3 : x3 ≤ 40) (h4 : ¬ x3 = 0) (h5 : x4 = 40 * x2) (h6 : x5 = 40 * x2) (h7 : 1 ≤ x0) (h8 : x0 ≤ 40) (h9 : 40 - x0 < ((x6 + 1 : Nat) : Int)) (h10 : 0 ≤ x7) (h11 : x7 ≤ 40) (h12 : x7 = x3) (h13 : x0 < x7) (h14 : x8 = 40 * x2) (h15 : x9 = x8 + x0) (h16 : x1 = 1) (h17 : -2147483648 ≤ x0) (h18 : x0 ≤ 2147483647) (h19 : -2147483648 ≤ x1) (h20 : x1 ≤ 2147483647) (h21 : -2147483648 ≤ x2) (h22 : x2 ≤ 2147483647) (h23 : -2147483648 ≤ x3) (h24 : x3 ≤ 2147483647) (h25 : -2147483648 ≤ x4) (h26 : x4 ≤ 2147483647) (h27 : -2147483648 ≤ x5) (h28 : x5 ≤ 2147483647) (h29 : -2147483648 ≤ x7) (h30 : x7 ≤ 2147483647) (h31 : -2147483648 ≤ x8) (h32 : x8 ≤ 2147483647) (h33 : -2147483648 ≤ x9) (h34 : x9 ≤ 2147483647) : -2147483648 ≤ x0 - x1 := by omega
theorem o35_143 {x0 x1 x2 x3 x4 x5 x7 x8 x9 : Int} {x6 : Nat} (h0 : 0 ≤ x2) (h1 : x2 ≤ 3) (h2 : 0 ≤ x3) (h3 : x3 ≤ 40) (h4 : ¬ x3 = 0) (h5 : x4 = 40 * x2) (h6 : x5 = 40 * x2) (h7 : 1 ≤ x0) (h8 : x0 ≤ 40) (h9 : 40 - x0 < ((x6 + 1 : Nat) : Int)) (h10 : 0 ≤ x7) (h11 : x7 ≤ 40) (h12 : x7 = x3) (h13 : x0 < x7) (h14 : x8 = 40 * x2) (h15 : x9 = x8 + x0) (h16 : x1 = 1) (h17 : -2147483648 ≤ x0) (h18 : x0 ≤ 2147483647) (h19 : -2147483648 ≤ x1) (h20 : x1 ≤ 2147483647) (h21 : -2147483648 ≤ x2) (h22 : x2 ≤ 2147483647) (h23 : -2147483648 ≤ x3) (h24 : x3 ≤ 2147483647) (h25 : -2147483648 ≤ x4) (h26 : x4 ≤ 2147483647) (h27 : -2147483648 ≤ x5) (h28 : x5 ≤ 2147483647) (h29 : -2147483648 ≤ x7) (h30 : x7 ≤ 2147483647) (h31 : -2147483648 ≤ x8) (h32 : x8 ≤ 2147483647) (h33 : -2147483648 ≤ x9) (h34 : x9 ≤ 2147483647) : x0 - x1 ≤ 2147483647 := by omega
theorem o35_144 {x0 x1 x2 x3 x4 x5 x7 x8 x9 x10 : Int} {x6 : Nat} (h0 : 0 ≤ x1) (h1 : x1 ≤ 3) (h2 : 0 ≤ x2) (h3 : x2 ≤ 40) (h4 : ¬ x2 = 0) (h5 : x3 = 40 * x1) (h6 : x4 = 40 * x1) (h7 : 1 ≤ x5) (h8 : x5 ≤ 40) (h9 : 40 - x5 < ((x6 + 1 : Nat) : Int)) (h10 : 0 ≤ x7) (h11 : x7 ≤ 40) (h12 : x7 = x2) (h13 : x5 < x7) (h14 : x8 = 40 * x1) (h15 : x9 = x8 + x5) (h16 : x10 = 1) (h17 : x0 = x5 - x10) : 0 ≤ x0 := by omega
theorem o35_145 {x0 x1 x2 x3 x4 x5 x7 x8 x9 x10 : Int} {x6 : Nat} (h0 : 0 ≤ x1) (h1 : x1 ≤ 3) (h2 : 0 ≤ x2) (h3 : x2 ≤ 40) (h4 : ¬ x2 = 0) (h5 : x3 = 40 * x1) (h6 : x4 = 40 * x1) (h7 : 1 ≤ x5) (h8 : x5 ≤ 40) (h9 : 40 - x5 < ((x6 + 1 : Nat) : Int)) (h10 : 0 ≤ x7) (h11 : x7 ≤ 40) (h12 : x7 = x2) (h13 : x5 < x7) (h14 : x8 = 40 * x1) (h15 : x9 = x8 + x5) (h16 : x10 = 1) (h17 : x0 = x5 - x10) : x0 ≤ 39 := by omega
theorem o35_146 {x0 : Int} (h0 : x0 = 1) : 40 - x0 < (((40 - x0 + 1).toNat : Nat) : Int) := by omega
theorem o35_147 {x0 : Int} (h0 : x0 = 1) : 1 ≤ x0 := by omega
theorem o35_148 {x0 : Int} (h0 : x0 = 1) : x0 ≤ 40 := by omega
theorem o35_149 {x0 x1 : Int} (h0 : (-6) ≤ x1) (h1 : x1 ≤ 0) (h2 : (x1 = -2 ∨ (0 ≤ x0 ∧ x0 ≤ 3))) (h3 : x1 = 0) : 0 ≤ x0 := by omega
theorem o35_150 {x0 x1 : Int} (h0 : (-6) ≤ x1) (h1 : x1 ≤ 0) (h2 : (x1 = -2 ∨ (0 ≤ x0 ∧ x0 ≤ 3))) (h3 : x1 = 0) : x0 < (4 : Nat) := by omega
theorem o35_151 {x0 x1 : Int} (h0 : (-6) ≤ x1) (h1 : x1 ≤ 0) (h2 : (x1 = -2 ∨ (0 ≤ x0 ∧ x0 ≤ 3))) (h3 : x1 = 0) : x0 ≤ 3 := by omega
theorem o35_152 {x0 : Int} (h0 : x0 = 0) (h1 : ¬ x0 = 0) : False := by omega
theorem o35_153 {x0 x1 : Int} (h0 : (-6) ≤ x1) (h1 : x1 ≤ 0) (h2 : (x1 = -2 ∨ (0 ≤ x0 ∧ x0 ≤ 3))) (h3 : x1 = 0) (h4 : -2147483648 ≤ x0) (h5 : x0 ≤ 2147483647) (h6 : -2147483648 ≤ x1) (h7 : x1 ≤ 2147483647) : -2147483648 ≤ 40 * x0 := by omega
theorem o35_154 {x0 x1 : Int} (h0 : (-6) ≤ x1) (h1 : x1 ≤ 0) (h2 : (x1 = -2 ∨ (0 ≤ x0 ∧ x0 ≤ 3))) (h3 : x1 = 0) (h4 : -2147483648 ≤ x0) (h5 : x0 ≤ 2147483647) (h6 : -2147483648 ≤ x1) (h7 : x1 ≤ 2147483647) : 40 * x0 ≤ 2147483647 := by omega
theorem o35_155 {x0 x1 x2 : Int} (h0 : (-6) ≤ x1) (h1 : x1 ≤ 0) (h2 : (x1 = -2 ∨ (0 ≤ x2 ∧ x2 ≤ 3))) (h3 : x1 = 0) (h4 : x0 = 40 * x2) : 0 ≤ x0 := by omega
theorem o35_156 {x0 x1 x2 : Int} (h0 : (-6) ≤ x1) (h1 : x1 ≤ 0) (h2 : (x1 = -2 ∨ (0 ≤ x2 ∧ x2 ≤ 3))) (h3 : x1 = 0) (h4 : x0 = 40 * x2) : x0 < (160 : Nat) := by omega
theorem o35_157 {x0 x1 x2 : Int} (h0 : (-6) ≤ x1) (h1 : x1 ≤ 0) (h2 : (x1 = -2 ∨ (0 ≤ x0 ∧ x0 ≤ 3))) (h3 : x1 = 0) (h4 : x2 = 40 * x0) : 0 ≤ x0 := by omega
theorem o35_158 {x0 x1 x2 : Int} (h0 : (-6) ≤ x1) (h1 : x1 ≤ 0) (h2 : (x1 = -2 ∨ (0 ≤ x0 ∧ x0 ≤ 3))) (h3 : x1 = 0) (h4 : x2 = 40 * x0) : x0 ≤ 3 := by omega
theorem o35_159 {x0 : Int} (h0 : x0 = 1) (h1 : x0 = 0) : False := by omega
theorem o35_160 {x0 x1 x2 : Int} (h0 : (-6) ≤ x1) (h1 : x1 ≤ 0) (h2 : (x1 = -2 ∨ (0 ≤ x0 ∧ x0 ≤ 3))) (h3 : x1 = 0) (h4 : x2 = 40 * x0) (h5 : -2147483648 ≤ x0) (h6 : x0 ≤ 2147483647) (h7 : -2147483648 ≤ x1) (h8 : x1 ≤ 2147483647) (h9 : -2147483648 ≤ x2) (h10 : x2 ≤ 2147483647) : -2147483648 ≤ 40 * x0 := by omega
theorem o35_161 {x0 x1 x2 : Int} (h0 : (-6) ≤ x1) (h1 : x1 ≤ 0) (h2 : (x1 = -2 ∨ (0 ≤ x0 ∧ x0 ≤ 3))) (h3 : x1 = 0) (h4 : x2 = 40 * x0) (h5 : -2147483648 ≤ x0) (h6 : x0 ≤ 2147483647) (h7 : -2147483648 ≤ x1) (h8 : x1 ≤ 2147483647) (h9 : -2147483648 ≤ x2) (h10 : x2 ≤ 2147483647) : 40 * x0 ≤ 2147483647 := by omega
theorem o35_162 {x0 x1 x2 x3 : Int} (h0 : (-6) ≤ x1) (h1 : x1 ≤ 0) (h2 : (x1 = -2 ∨ (0 ≤ x2 ∧ x2 ≤ 3))) (h3 : x1 = 0) (h4 : x3 = 40 * x2) (h5 : x0 = 40 * x2) : 0 ≤ x0 := by omega
theorem o35_163 {x0 x1 x2 x3 : Int} (h0 : (-6) ≤ x1) (h1 : x1 ≤ 0) (h2 : (x1 = -2 ∨ (0 ≤ x2 ∧ x2 ≤ 3))) (h3 : x1 = 0) (h4 : x3 = 40 * x2) (h5 : x0 = 40 * x2) : x0 < (160 : Nat) := by omega
theorem o35_164 {x0 x1 x2 x3 : Int} (h0 : (-6) ≤ x2) (h1 : x2 ≤ 0) (h2 : (x2 = -2 ∨ (0 ≤ x3 ∧ x3 ≤ 3))) (h3 : x2 = 0) (h4 : x1 = 40 * x3) (h5 : x0 = 40 * x3) : (x0).toNat = (x1).toNat := by omega
theorem o35_165 {x0 x1 x2 x3 x4 : Int} (h0 : 0 ≤ x2) (h1 : x2 ≤ 1) (h2 : (x2 = 0 ∨ (0 ≤ x3 ∧ x3 ≤ 4))) (h3 : ¬ x2 = 0) (h4 : x0 = 36) (h5 : x4 = x3) (h6 : x1 = x4) (h7 : -2147483648 ≤ x0) (h8 : x0 ≤ 2147483647) (h9 : -2147483648 ≤ x1) (h10 : x1 ≤ 2147483647) (h11 : -2147483648 ≤ x2) (h12 : x2 ≤ 2147483647) : -2147483648 ≤ x0 + x1 := by omega
theorem o35_166 {x0 x1 x2 x3 x4 : Int} (h0 : 0 ≤ x2) (h1 : x2 ≤ 1) (h2 : (x2 = 0 ∨ (0 ≤ x3 ∧ x3 ≤ 4))) (h3 : ¬ x2 = 0) (h4 : x0 = 36) (h5 : x4 = x3) (h6 : x1 = x4) (h7 : -2147483648 ≤ x0) (h8 : x0 ≤ 2147483647) (h9 : -2147483648 ≤ x1) (h10 : x1 ≤ 2147483647) (h11 : -2147483648 ≤ x2) (h12 : x2 ≤ 2147483647) : x0 + x1 ≤ 2147483647 := by omega
theorem o35_167 {x0 x1 x2 x3 x4 x5 : Int} (h0 : 0 ≤ x1) (h1 : x1 ≤ 1) (h2 : (x1 = 0 ∨ (0 ≤ x2 ∧ x2 ≤ 4))) (h3 : ¬ x1 = 0) (h4 : x3 = 36) (h5 : x4 = x2) (h6 : x5 = x4) (h7 : x0 = x3 + x5) : 0 ≤ x0 := by omega
theorem o35_168 {x0 x1 x2 x3 x4 x5 : Int} (h0 : 0 ≤ x1) (h1 : x1 ≤ 1) (h2 : (x1 = 0 ∨ (0 ≤ x2 ∧ x2 ≤ 4))) (h3 : ¬ x1 = 0) (h4 : x3 = 36) (h5 : x4 = x2) (h6 : x5 = x4) (h7 : x0 = x3 + x5) : x0 < (5322 : Nat) := by omega
theorem o35_169 {x0 x1 x2 x3 x4 x5 : Int} (h0 : 0 ≤ x1) (h1 : x1 ≤ 1) (h2 : (x1 = 0 ∨ (0 ≤ x2 ∧ x2 ≤ 4))) (h3 : ¬ x1 = 0) (h4 : x3 = 36) (h5 : x4 = x2) (h6 : x5 = x4) (h7 : x0 = x3 + x5) : (x0).toNat < 41 := by omega
theorem o35_170 {x0 x1 x2 x3 x4 x5 : Int} (h0 : 0 ≤ x1) (h1 : x1 ≤ 1) (h2 : (x1 = 0 ∨ (0 ≤ x2 ∧ x2 ≤ 4))) (h3 : ¬ x1 = 0) (h4 : x3 = 36) (h5 : x4 = x2) (h6 : x5 = x4) (h7 : x0 = x3 + x5) : 36 ≤ (x0).toNat := by omega
theorem o35_171 {x0 : Int} (h0 : x0 = 1) (h1 : ¬ x0 = 0) (h2 : x0 = 0) : False := by omega
theorem o35_172 {x0 x1 : Int} (h0 : 0 ≤ x0) (h1 : x0 ≤ 39) (h2 : x1 = 1) (h3 : -2147483648 ≤ x0) (h4 : x0 ≤ 2147483647) (h5 : -2147483648 ≤ x1) (h6 : x1 ≤ 2147483647) : -2147483648 ≤ x0 + x1 := by omega
theorem o35_173 {x0 x1 : Int} (h0 : 0 ≤ x0) (h1 : x0 ≤ 39) (h2 : x1 = 1) (h3 : -2147483648 ≤ x0) (h4 : x0 ≤ 2147483647) (h5 : -2147483648 ≤ x1) (h6 : x1 ≤ 2147483647) : x0 + x1 ≤ 2147483647 := by omega
theorem o35_174 {x0 : Int} (h0 : 0 ≤ x0) (h1 : x0 ≤ 39) (h2 : x0 ≤ 0) : (-6) ≤ x0 := by omega
theorem o35_175 {x0 : Int} (h0 : 0 ≤ x0) (h1 : x0 ≤ 39) (h2 : x0 ≤ 0) : x0 ≤ 39 := by omega
theorem o35_176 {x0 : Int} (h0 : 0 ≤ x0) (h1 : x0 ≤ 39) (h2 : 0 < x0) : (-6) ≤ x0 := by omega
theorem o35_177 {x0 : Int} (h0 : 0 ≤ x0) (h1 : x0 ≤ 39) (h2 : 0 < x0) : x0 ≤ 39 := by omega
theorem o35_178 {x0 x1 : Int} (h0 : (-6) ≤ x0) (h1 : x0 ≤ 0) (h2 : (x0 = -2 ∨ (0 ≤ x1 ∧ x1 ≤ 3))) (h3 : ¬ x0 = 0) : (-6) ≤ x0 := by omega
theorem o35_179 {x0 x1 : Int} (h0 : (-6) ≤ x0) (h1 : x0 ≤ 0) (h2 : (x0 = -2 ∨ (0 ≤ x1 ∧ x1 ≤ 3))) (h3 : ¬ x0 = 0) : x0 ≤ 39 := by omega
theorem o35_180 {x0 : Int} (h0 : 0 ≤ x0) (h1 : x0 ≤ 20) (h2 : 20 - x0 < 0) : False := by omega
theorem o35_181 {x0 x1 : Int} (h0 : 0 ≤ x1) (h1 : x1 ≤ 4) (h2 : x0 = 36) (h3 : -2147483648 ≤ x0) (h4 : x0 ≤ 2147483647) (h5 : -2147483648 ≤ x1) (h6 : x1 ≤ 2147483647) : -2147483648 ≤ x0 + x1 := by omega
theorem o35_182 {x0 x1 : Int} (h0 : 0 ≤ x1) (h1 : x1 ≤ 4) (h2 : x0 = 36) (h3 : -2147483648 ≤ x0) (h4 : x0 ≤ 2147483647) (h5 : -2147483648 ≤ x1) (h6 : x1 ≤ 2147483647) : x0 + x1 ≤ 2147483647 := by omega
theorem o35_183 {x0 x1 x2 : Int} (h0 : 0 ≤ x1) (h1 : x1 ≤ 4) (h2 : x2 = 36) (h3 : x0 = x2 + x1) : 0 ≤ x0 := by omega
theorem o35_184 {x0 x1 x2 : Int} (h0 : 0 ≤ x1) (h1 : x1 ≤ 4) (h2 : x2 = 36) (h3 : x0 = x2 + x1) : x0 < (5322 : Nat) := by omega
theorem o35_185 {x0 x1 x2 : Int} (h0 : 0 ≤ x1) (h1 : x1 ≤ 4) (h2 : x2 = 36) (h3 : x0 = x2 + x1) : (x0).toNat < 41 := by omega
theorem o35_186 {x0 x1 x2 : Int} (h0 : 0 ≤ x1) (h1 : x1 ≤ 4) (h2 : x2 = 36) (h3 : x0 = x2 + x1) : 36 ≤ (x0).toNat := by omega
theorem o35_187 {x0 x1 x2 x3 : Int} (h0 : 0 ≤ x1) (h1 : x1 ≤ 4) (h2 : x2 = 36) (h3 : x3 = x2 + x1) (h4 : x0 = 41) (h5 : -2147483648 ≤ x0) (h6 : x0 ≤ 2147483647) (h7 : -2147483648 ≤ x1) (h8 : x1 ≤ 2147483647) (h9 : -2147483648 ≤ x2) (h10 : x2 ≤ 2147483647) (h11 : -2147483648 ≤ x3) (h12 : x3 ≤ 2147483647) : -2147483648 ≤ x0 + x1 := by omega
theorem o35_188 {x0 x1 x2 x3 : Int} (h0 : 0 ≤ x1) (h1 : x1 ≤ 4) (h2 : x2 = 36) (h3 : x3 = x2 + x1) (h4 : x0 = 41) (h5 : -2147483648 ≤ x0) (h6 : x0 ≤ 2147483647) (h7 : -2147483648 ≤ x1) (h8 : x1 ≤ 2147483647) (h9 : -2147483648 ≤ x2) (h10 : x2 ≤ 2147483647) (h11 : -2147483648 ≤ x3) (h12 : x3 ≤ 2147483647) : x0 + x1 ≤ 2147483647 := by omega
theorem o35_189 {x0 x1 x2 x3 x4 : Int} (h0 : 0 ≤ x1) (h1 : x1 ≤ 4) (h2 : x2 = 36) (h3 : x3 = x2 + x1) (h4 : x4 = 41) (h5 : x0 = x4 + x1) : 0 ≤ x0 := by omega
theorem o35_190 {x0 x1 x2 x3 x4 : Int} (h0 : 0 ≤ x1) (h1 : x1 ≤ 4) (h2 : x2 = 36) (h3 : x3 = x2 + x1) (h4 : x4 = 41) (h5 : x0 = x4 + x1) : x0 < (5322 : Nat) := by omega
theorem o35_191 {x0 x1 x2 x3 x4 : Int} (h0 : 0 ≤ x1) (h1 : x1 ≤ 4) (h2 : x2 = 36) (h3 : x3 = x2 + x1) (h4 : x4 = 41) (h5 : x0 = x4 + x1) : (x0).toNat < 46 := by omega
theorem o35_192 {x0 x1 x2 x3 x4 : Int} (h0 : 0 ≤ x1) (h1 : x1 ≤ 4) (h2 : x2 = 36) (h3 : x3 = x2 + x1) (h4 : x4 = 41) (h5 : x0 = x4 + x1) : 41 ≤ (x0).toNat := by omega
theorem o35_193 {x0 : Int} (h0 : 0 ≤ x0) (h1 : x0 ≤ 24) : 0 ≤ x0 := by omega
theorem o35_194 {x0 : Int} (h0 : 0 ≤ x0) (h1 : x0 ≤ 3) : x0 ≤ 3 := by omega
theorem o35_195 {x0 x1 x2 x3 x4 x5 : Int} (h0 : 0 ≤ x1) (h1 : x1 ≤ 4) (h2 : x2 = 36) (h3 : x3 = x2 + x1) (h4 : x4 = 41) (h5 : x5 = x4 + x1) (h6 : x0 = 36) (h7 : -2147483648 ≤ x0) (h8 : x0 ≤ 2147483647) (h9 : -2147483648 ≤ x1) (h10 : x1 ≤ 2147483647) (h11 : -2147483648 ≤ x2) (h12 : x2 ≤ 2147483647) (h13 : -2147483648 ≤ x3) (h14 : x3 ≤ 2147483647) (h15 : -2147483648 ≤ x4) (h16 : x4 ≤ 2147483647) (h17 : -2147483648 ≤ x5) (h18 : x5 ≤ 2147483647) : -2147483648 ≤ x0 + x1 := by omega
theorem o35_196 {x0 x1 x2 x3 x4 x5 : Int} (h0 : 0 ≤ x1) (h1 : x1 ≤ 4) (h2 : x2 = 36) (h3 : x3 = x2 + x1) (h4 : x4 = 41) (h5 : x5 = x4 + x1) (h6 : x0 = 36) (h7 : -2147483648 ≤ x0) (h8 : x0 ≤ 2147483647) (h9 : -2147483648 ≤ x1) (h10 : x1 ≤ 2147483647) (h11 : -2147483648 ≤ x2) (h12 : x2 ≤ 2147483647) (h13 : -2147483648 ≤ x3) (h14 : x3 ≤ 2147483647) (h15 : -2147483648 ≤ x4) (h16 : x4 ≤ 2147483647) (h17 : -2147483648 ≤ x5) (h18 : x5 ≤ 2147483647) : x0 + x1 ≤ 2147483647 := by omega
theorem o35_197 {x0 x1 x2 x3 x4 x5 x6 : Int} (h0 : 0 ≤ x1) (h1 : x1 ≤ 4) (h2 : x2 = 36) (h3 : x3 = x2 + x1) (h4 : x4 = 41) (h5 : x5 = x4 + x1) (h6 : x6 = 36) (h7 : x0 = x6 + x1) : 0 ≤ x0 := by omega
theorem o35_198 {x0 x1 x2 x3 x4 x5 x6 : Int} (h0 : 0 ≤ x1) (h1 : x1 ≤ 4) (h2 : x2 = 36) (h3 : x3 = x2 + x1) (h4 : x4 = 41) (h5 : x5 = x4 + x1) (h6 : x6 = 36) (h7 : x0 = x6 + x1) : x0 < (5322 : Nat) := by omega
theorem o35_199 {x0 x1 x2 x3 x4 x5 x6 : Int} (h0 : 0 ≤ x1) (h1 : x1 ≤ 4) (h2 : x2 = 36) (h3 : x3 = x2 + x1) (h4 : x4 = 41) (h5 : x5 = x4 + x1) (h6 : x6 = 36) (h7 : x0 = x6 + x1) : (x0).toNat < 41 := by omega
theorem o35_200 {x0 x1 x2 x3 x4 x5 x6 : Int} (h0 : 0 ≤ x1) (h1 : x1 ≤ 4) (h2 : x2 = 36) (h3 : x3 = x2 + x1) (h4 : x4 = 41) (h5 : x5 = x4 + x1) (h6 : x6 = 36) (h7 : x0 = x6 + x1) : 36 ≤ (x0).toNat := by omega
theorem o35_201 {x0 x1 x2 x3 x4 x5 x6 : Int} (h0 : 0 ≤ x2) (h1 : x2 ≤ 4) (h2 : x3 = 36) (h3 : x1 = x3 + x2) (h4 : x4 = 41) (h5 : x5 = x4 + x2) (h6 : x6 = 36) (h7 : x0 = x6 + x2) : (x0).toNat = (x1).toNat := by omega
theorem o35_202 {x0 x1 x2 : Int} (h0 : 0 ≤ x2) (h1 : x2 ≤ 24) (h2 : x0 = 61) (h3 : 0 ≤ x1) (h4 : x1 ≤ 24) (h5 : x1 = x2) (h6 : -2147483648 ≤ x0) (h7 : x0 ≤ 2147483647) (h8 : -2147483648 ≤ x1) (h9 : x1 ≤ 2147483647) (h10 : -2147483648 ≤ x2) (h11 : x2 ≤ 2147483647) : -2147483648 ≤ x0 + x1 := by omega
theorem o35_203 {x0 x1 x2 : Int} (h0 : 0 ≤ x2) (h1 : x2 ≤ 24) (h2 : x0 = 61) (h3 : 0 ≤ x1) (h4 : x1 ≤ 24) (h5 : x1 = x2) (h6 : -2147483648 ≤ x0) (h7 : x0 ≤ 2147483647) (h8 : -2147483648 ≤ x1) (h9 : x1 ≤ 2147483647) (h10 : -2147483648 ≤ x2) (h11 : x2 ≤ 2147483647) : x0 + x1 ≤ 2147483647 := by omega
theorem o35_204 {x0 x1 x2 x3 : Int} (h0 : 0 ≤ x1) (h1 : x1 ≤ 24) (h2 : x2 = 61) (h3 : 0 ≤ x3) (h4 : x3 ≤ 24) (h5 : x3 = x1) (h6 : x0 = x2 + x3) : 0 ≤ x0 := by omega
theorem o35_205 {x0 x1 x2 x3 : Int} (h0 : 0 ≤ x1) (h1 : x1 ≤ 24) (h2 : x2 = 61) (h3 : 0 ≤ x3) (h4 : x3 ≤ 24) (h5 : x3 = x1) (h6 : x0 = x2 + x3) : x0 < (5322 : Nat) := by omega
theorem o35_206 : ∀ p, p < 86 → 61 ≤ p → (elAll p).1 ≤ (-2147483648) ∧ 2147483647 ≤ (elAll p).2 := by decide +kernel
theorem o35_207 {x0 x1 x2 x3 : Int} (h0 : 0 ≤ x1) (h1 : x1 ≤ 24) (h2 : x2 = 61) (h3 : 0 ≤ x3) (h4 : x3 ≤ 24) (h5 : x3 = x1) (h6 : x0 = x2 + x3) : (x0).toNat < 86 := by omega
theorem o35_208 {x0 x1 x2 x3 : Int} (h0 : 0 ≤ x1) (h1 : x1 ≤ 24) (h2 : x2 = 61) (h3 : 0 ≤ x3) (h4 : x3 ≤ 24) (h5 : x3 = x1) (h6 : x0 = x2 + x3) : 61 ≤ (x0).toNat := by omega
theorem o35_209 {x0 x1 x2 x3 : Int} (h0 : 0 ≤ x1) (h1 : x1 ≤ 24) (h2 : x2 = 61) (h3 : 0 ≤ x3) (h4 : x3 ≤ 24) (h5 : x3 = x1) (h6 : x0 = x2 + x3) : (36 ≤ x0 ∨ x0 = 10) := by omega
theorem o35_210 {x0 x1 x2 x3 : Int} (h0 : 0 ≤ x1) (h1 : x1 ≤ 24) (h2 : x2 = 61) (h3 : 0 ≤ x3) (h4 : x3 ≤ 24) (h5 : x3 = x1) (h6 : x0 = x2 + x3) : 10 ≤ x0 := by omega
theorem o35_211 {x0 x1 x2 x3 : Int} (h0 : 0 ≤ x1) (h1 : x1 ≤ 24) (h2 : x2 = 61) (h3 : 0 ≤ x3) (h4 : x3 ≤ 24) (h5 : x3 = x1) (h6 : x0 = x2 + x3) : x0 ≤ 872 := by omega
theorem o35_212 {x0 x1 : Int} {x2 : Nat} (h0 : 1 ≤ x1) (h1 : x1 ≤ 20) (h2 : 0 ≤ x0) (h3 : x0 ≤ 20) (h4 : 20 - x0 < ((x2 + 1 : Nat) : Int)) (h5 : x0 < x1) (h6 : -2147483648 ≤ x0) (h7 : x0 ≤ 2147483647) (h8 : -2147483648 ≤ x1) (h9 : x1 ≤ 2147483647) : -2147483648 ≤ x0 + 1 := by omega
theorem o35_213 {x0 x1 : Int} {x2 : Nat} (h0 : 1 ≤ x1) (h1 : x1 ≤ 20) (h2 : 0 ≤ x0) (h3 : x0 ≤ 20) (h4 : 20 - x0 < ((x2 + 1 : Nat) : Int)) (h5 : x0 < x1) (h6 : -2147483648 ≤ x0) (h7 : x0 ≤ 2147483647) (h8 : -2147483648 ≤ x1) (h9 : x1 ≤ 2147483647) : x0 + 1 ≤ 2147483647 := by omega
theorem o35_214 {x0 x2 x3 : Int} {x1 : Nat} (h0 : 1 ≤ x2) (h1 : x2 ≤ 20) (h2 : 0 ≤ x3) (h3 : x3 ≤ 20) (h4 : 20 - x3 < ((x1 + 1 : Nat) : Int)) (h5 : x3 < x2) (h6 : x0 = x3 + 1) : 20 - x0 < (x1 : Int) := by omega
theorem o35_215 {x0 x1 x2 : Int} {x3 : Nat} (h0 : 1 ≤ x1) (h1 : x1 ≤ 20) (h2 : 0 ≤ x2) (h3 : x2 ≤ 20) (h4 : 20 - x2 < ((x3 + 1 : Nat) : Int)) (h5 : x2 < x1) (h6 : x0 = x2 + 1) : 0 ≤ x0 := by omega
theorem o35_216 {x0 x1 x2 : Int} {x3 : Nat} (h0 : 1 ≤ x1) (h1 : x1 ≤ 20) (h2 : 0 ≤ x2) (h3 : x2 ≤ 20) (h4 : 20 - x2 < ((x3 + 1 : Nat) : Int)) (h5 : x2 < x1) (h6 : x0 = x2 + 1) : x0 ≤ 20 := by omega
theorem o35_217 {x0 x1 x2 x3 : Int} (h0 : 0 ≤ x1) (h1 : x1 ≤ 24) (h2 : x2 = 61) (h3 : 0 ≤ x3) (h4 : x3 ≤ 24) (h5 : x3 = x1) (h6 : x0 = x2 + x3) : 61 ≤ x0 := by omega
theorem o35_218 {x0 x1 x2 x3 : Int} (h0 : 0 ≤ x1) (h1 : x1 ≤ 24) (h2 : x2 = 61) (h3 : 0 ≤ x3) (h4 : x3 ≤ 24) (h5 : x3 = x1) (h6 : x0 = x2 + x3) : x0 ≤ 85 := by omega
theorem o35_219 {x0 : Int} (h0 : x0 = 0) : 20 - x0 < (((20 - x0 + 1).toNat : Nat) : Int) := by omega
theorem o35_220 {x0 : Int} (h0 : x0 = 0) : x0 ≤ 20 := by omega
theorem o35_221 {x0 : Int} (h0 : 0 ≤ x0) (h1 : x0 ≤ 4) : 0 ≤ x0 := by omega
theorem o35_222 {x0 : Int} (h0 : 0 ≤ x0) (h1 : x0 ≤ 4) : x0 ≤ 4 := by omega
theorem o35_223 {x0 : Int} (h0 : 1 ≤ x0) (h1 : x0 ≤ 20) : 1 ≤ x0 := by omega
theorem o35_224 {x0 : Int} (h0 : 1 ≤ x0) (h1 : x0 ≤ 20) : x0 ≤ 20 := by omega
theorem o35_225 {x0 x1 : Int} (h0 : 0 ≤ x1) (h1 : x1 ≤ 4) (h2 : x0 = 51) (h3 : -2147483648 ≤ x0) (h4 : x0 ≤ 2147483647) (h5 : -2147483648 ≤ x1) (h6 : x1 ≤ 2147483647) : -2147483648 ≤ x0 + x1 := by omega
theorem o35_226 {x0 x1 : Int} (h0 : 0 ≤ x1) (h1 : x1 ≤ 4) (h2 : x0 = 51) (h3 : -2147483648 ≤ x0) (h4 : x0 ≤ 2147483647) (h5 : -2147483648 ≤ x1) (h6 : x1 ≤ 2147483647) : x0 + x1 ≤ 2147483647 := by omega
theorem o35_227 {x0 x1 x2 : Int} (h0 : 0 ≤ x1) (h1 : x1 ≤ 4) (h2 : x2 = 51) (h3 : x0 = x2 + x1) : 0 ≤ x0 := by omega
theorem o35_228 {x0 x1 x2 : Int} (h0 : 0 ≤ x1) (h1 : x1 ≤ 4) (h2 : x2 = 51) (h3 : x0 = x2 + x1) : x0 < (5322 : Nat) := by omega
theorem o35_229 {x0 x1 x2 x3 : Int} (h0 : 0 ≤ x1) (h1 : x1 ≤ 4) (h2 : x2 = 51) (h3 : x3 = x2 + x1) (h4 : x0 = 51) (h5 : -2147483648 ≤ x0) (h6 : x0 ≤ 2147483647) (h7 : -2147483648 ≤ x1) (h8 : x1 ≤ 2147483647) (h9 : -2147483648 ≤ x2) (h10 : x2 ≤ 2147483647) (h11 : -2147483648 ≤ x3) (h12 : x3 ≤ 2147483647) : -2147483648 ≤ x0 + x1 := by omega
theorem o35_230 {x0 x1 x2 x3 : Int} (h0 : 0 ≤ x1) (h1 : x1 ≤ 4) (h2 : x2 = 51) (h3 : x3 = x2 + x1) (h4 : x0 = 51) (h5 : -2147483648 ≤ x0) (h6 : x0 ≤ 2147483647) (h7 : -2147483648 ≤ x1) (h8 : x1 ≤ 2147483647) (h9 : -2147483648 ≤ x2) (h10 : x2 ≤ 2147483647) (h11 : -2147483648 ≤ x3) (h12 : x3 ≤ 2147483647) : x0 + x1 ≤ 2147483647 := by omega
theorem o35_231 {x0 x1 x2 x3 x4 : Int} (h0 : 0 ≤ x1) (h1 : x1 ≤ 4) (h2 : x2 = 51) (h3 : x3 = x2 + x1) (h4 : x4 = 51) (h5 : x0 = x4 + x1) : 0 ≤ x0 := by omega
theorem o35_232 {x0 x1 x2 x3 x4 : Int} (h0 : 0 ≤ x1) (h1 : x1 ≤ 4) (h2 : x2 = 51) (h3 : x3 = x2 + x1) (h4 : x4 = 51) (h5 : x0 = x4 + x1) : x0 < (5322 : Nat) := by omega
theorem o35_233 {x0 x1 x2 x3 x4 : Int} (h0 : 0 ≤ x2) (h1 : x2 ≤ 4) (h2 : x3 = 51) (h3 : x1 = x3 + x2) (h4 : x4 = 51) (h5 : x0 = x4 + x2) : (x0).toNat = (x1).toNat := by omega
theorem o35_234 {x0 : Int} (h0 : x0 = (-4)) : x0 < 0 := by omega
theorem o35_235 {x0 : Int} (h0 : x0 = (-5)) : x0 < 0 := by omega
theorem o35_236 {x0 x1 x2 x3 : Int} (h0 : 0 ≤ x1) (h1 : x1 ≤ 4) (h2 : x2 = 51) (h3 : x3 = x2 + x1) (h4 : x0 = 46) (h5 : -2147483648 ≤ x0) (h6 : x0 ≤ 2147483647) (h7 : -2147483648 ≤ x1) (h8 : x1 ≤ 2147483647) (h9 : -2147483648 ≤ x2) (h10 : x2 ≤ 2147483647) (h11 : -2147483648 ≤ x3) (h12 : x3 ≤ 2147483647) : -2147483648 ≤ x0 + x1 := by omega
theorem o35_237 {x0 x1 x2 x3 : Int} (h0 : 0 ≤ x1) (h1 : x1 ≤ 4) (h2 : x2 = 51) (h3 : x3 = x2 + x1) (h4 : x0 = 46) (h5 : -2147483648 ≤ x0) (h6 : x0 ≤ 2147483647) (h7 : -2147483648 ≤ x1) (h8 : x1 ≤ 2147483647) (h9 : -2147483648 ≤ x2) (h10 : x2 ≤ 2147483647) (h11 : -2147483648 ≤ x3) (h12 : x3 ≤ 2147483647) : x0 + x1 ≤ 2147483647 := by omega
theorem o35_238 {x0 x1 x2 x3 x4 : Int} (h0 : 0 ≤ x1) (h1 : x1 ≤ 4) (h2 : x2 = 51) (h3 : x3 = x2 + x1) (h4 : x4 = 46) (h5 : x0 = x4 + x1) : 0 ≤ x0 := by omega
theorem o35_239 {x0 x1 x2 x3 x4 : Int} (h0 : 0 ≤ x1) (h1 : x1 ≤ 4) (h2 : x2 = 51) (h3 : x3 = x2 + x1) (h4 : x4 = 46) (h5 : x0 = x4 + x1) : x0 < (5322 : Nat) := by omega
theorem o35_240 {x0 x1 x2 x3 x4 : Int} (h0 : 0 ≤ x1) (h1 : x1 ≤ 4) (h2 : x2 = 51) (h3 : x3 = x2 + x1) (h4 : x4 = 46) (h5 : x0 = x4 + x1) : (x0).toNat < 51 := by omega
theorem o35_241 {x0 x1 x2 x3 x4 : Int} (h0 : 0 ≤ x1) (h1 : x1 ≤ 4) (h2 : x2 = 51) (h3 : x3 = x2 + x1) (h4 : x4 = 46) (h5 : x0 = x4 + x1) : 46 ≤ (x0).toNat := by omega
theorem o35_242 {x0 x1 : Int} (h0 : 1 ≤ x1) (h1 : x1 ≤ 20) (h2 : 0 ≤ x0) (h3 : x0 ≤ 99) (h4 : -2147483648 ≤ x0) (h5 : x0 ≤ 2147483647) (h6 : -2147483648 ≤ x1) (h7 : x1 ≤ 2147483647) : -2147483648 ≤ x0 + x1 := by omega
theorem o35_243 {x0 x1 : Int} (h0 : 1 ≤ x1) (h1 : x1 ≤ 20) (h2 : 0 ≤ x0) (h3 : x0 ≤ 99) (h4 : -2147483648 ≤ x0) (h5 : x0 ≤ 2147483647) (h6 : -2147483648 ≤ x1) (h7 : x1 ≤ 2147483647) : x0 + x1 ≤ 2147483647 := by omega
theorem o35_244 {x0 x1 x2 x3 x4 x5 : Int} (h0 : 0 ≤ x1) (h1 : x1 ≤ 4) (h2 : x2 = 51) (h3 : x3 = x2 + x1) (h4 : x4 = 46) (h5 : x5 = x4 + x1) (h6 : x0 = 51) (h7 : -2147483648 ≤ x0) (h8 : x0 ≤ 2147483647) (h9 : -2147483648 ≤ x1) (h10 : x1 ≤ 2147483647) (h11 : -2147483648 ≤ x2) (h12 : x2 ≤ 2147483647) (h13 : -2147483648 ≤ x3) (h14 : x3 ≤ 2147483647) (h15 : -2147483648 ≤ x4) (h16 : x4 ≤ 2147483647) (h17 : -2147483648 ≤ x5) (h18 : x5 ≤ 2147483647) : -2147483648 ≤ x0 + x1 := by omega
theorem o35_245 {x0 x1 x2 x3 x4 x5 : Int} (h0 : 0 ≤ x1) (h1 : x1 ≤ 4) (h2 : x2 = 51) (h3 : x3 = x2 + x1) (h4 : x4 = 46) (h5 : x5 = x4 + x1) (h6 : x0 = 51) (h7 : -2147483648 ≤ x0) (h8 : x0 ≤ 2147483647) (h9 : -2147483648 ≤ x1) (h10 : x1 ≤ 2147483647) (h11 : -2147483648 ≤ x2) (h12 : x2 ≤ 2147483647) (h13 : -2147483648 ≤ x3) (h14 : x3 ≤ 2147483647) (h15 : -2147483648 ≤ x4) (h16 : x4 ≤ 2147483647) (h17 : -2147483648 ≤ x5) (h18 : x5 ≤ 2147483647) : x0 + x1 ≤ 2147483647 := by omega
theorem o35_246 {x0 x1 x2 x3 x4 x5 x6 : Int} (h0 : 0 ≤ x1) (h1 : x1 ≤ 4) (h2 : x2 = 51) (h3 : x3 = x2 + x1) (h4 : x4 = 46) (h5 : x5 = x4 + x1) (h6 : x6 = 51) (h7 : x0 = x6 + x1) : 0 ≤ x0 := by omega
theorem o35_247 {x0 x1 x2 x3 x4 x5 x6 : Int} (h0 : 0 ≤ x1) (h1 : x1 ≤ 4) (h2 : x2 = 51) (h3 : x3 = x2 + x1) (h4 : x4 = 46) (h5 : x5 = x4 + x1) (h6 : x6 = 51) (h7 : x0 = x6 + x1) : x0 < (5322 : Nat) := by omega
theorem o35_248 {x0 x1 x2 x3 x4 x5 x6 : Int} (h0 : 0 ≤ x2) (h1 : x2 ≤ 4) (h2 : x3 = 51) (h3 : x1 = x3 + x2) (h4 : x4 = 46) (h5 : x5 = x4 + x2) (h6 : x6 = 51) (h7 : x0 = x6 + x2) : (x0).toNat = (x1).toNat := by omega
theorem o35_249 : ∀ p, p < 56 → 51 ≤ p → (elAll p).1 ≤ (-2147483648) ∧ 2147483647 ≤ (elAll p).2 := by decide +kernel
theorem o35_250 {x0 x1 x2 x3 x4 x5 x6 : Int} (h0 : 0 ≤ x1) (h1 : x1 ≤ 4) (h2 : x2 = 51) (h3 : x3 = x2 + x1) (h4 : x4 = 46) (h5 : x5 = x4 + x1) (h6 : x6 = 51) (h7 : x0 = x6 + x1) : (x0).toNat < 56 := by omega
theorem o35_251 {x0 x1 x2 x3 x4 x5 x6 : Int} (h0 : 0 ≤ x1) (h1 : x1 ≤ 4) (h2 : x2 = 51) (h3 : x3 = x2 + x1) (h4 : x4 = 46) (h5 : x5 = x4 + x1) (h6 : x6 = 51) (h7 : x0 = x6 + x1) : 51 ≤ (x0).toNat := by omega
theorem o35_252 {x0 x1 x2 x3 x4 x5 x6 : Int} (h0 : 0 ≤ x1) (h1 : x1 ≤ 4) (h2 : x2 = 51) (h3 : x3 = x2 + x1) (h4 : x4 = 46) (h5 : x5 = x4 + x1) (h6 : x6 = 51) (h7 : x0 = x6 + x1) : (36 ≤ x0 ∨ x0 = 10) := by omega
theorem o35_253 {x0 x1 x2 x3 x4 x5 x6 : Int} (h0 : 0 ≤ x1) (h1 : x1 ≤ 4) (h2 : x2 = 51) (h3 : x3 = x2 + x1) (h4 : x4 = 46) (h5 : x5 = x4 + x1) (h6 : x6 = 51) (h7 : x0 = x6 + x1) : 10 ≤ x0 := by omega
theorem o35_254 {x0 x1 x2 x3 x4 x5 x6 : Int} (h0 : 0 ≤ x1) (h1 : x1 ≤ 4) (h2 : x2 = 51) (h3 : x3 = x2 + x1) (h4 : x4 = 46) (h5 : x5 = x4 + x1) (h6 : x6 = 51) (h7 : x0 = x6 + x1) : x0 ≤ 872 := by omega
theorem o35_255 {x0 x1 x2 x3 x4 x5 x6 x7 : Int} (h0 : 0 ≤ x1) (h1 : x1 ≤ 4) (h2 : x2 = 51) (h3 : x3 = x2 + x1) (h4 : x4 = 46) (h5 : x5 = x4 + x1) (h6 : x6 = 51) (h7 : x7 = x6 + x1) (h8 : x0 = 46) (h9 : -2147483648 ≤ x0) (h10 : x0 ≤ 2147483647) (h11 : -2147483648 ≤ x1) (h12 : x1 ≤ 2147483647) (h13 : -2147483648 ≤ x2) (h14 : x2 ≤ 2147483647) (h15 : -2147483648 ≤ x3) (h16 : x3 ≤ 2147483647) (h17 : -2147483648 ≤ x4) (h18 : x4 ≤ 2147483647) (h19 : -2147483648 ≤ x5) (h20 : x5 ≤ 2147483647) (h21 : -2147483648 ≤ x6) (h22 : x6 ≤ 2147483647) (h23 : -2147483648 ≤ x7) (h24 : x7 ≤ 2147483647) : -2147483648 ≤ x0 + x1 := by omega
theorem o35_256 {x0 x1 x2 x3 x4 x5 x6 x7 : Int} (h0 : 0 ≤ x1) (h1 : x1 ≤ 4) (h2 : x2 = 51) (h3 : x3 = x2 + x1) (h4 : x4 = 46) (h5 : x5 = x4 + x1) (h6 : x6 = 51) (h7 : x7 = x6 + x1) (h8 : x0 = 46) (h9 : -2147483648 ≤ x0) (h10 : x0 ≤ 2147483647) (h11 : -2147483648 ≤ x1) (h12 : x1 ≤ 2147483647) (h13 : -2147483648 ≤ x2) (h14 : x2 ≤ 2147483647) (h15 : -2147483648 ≤ x3) (h16 : x3 ≤ 2147483647) (h17 : -2147483648 ≤ x4) (h18 : x4 ≤ 2147483647) (h19 : -2147483648 ≤ x5) (h20 : x5 ≤ 2147483647) (h21 : -2147483648 ≤ x6) (h22 : x6 ≤ 2147483647) (h23 : -2147483648 ≤ x7) (h24 : x7 ≤ 2147483647) : x0 + x1 ≤ 2147483647 := by omega
theorem o35_257 {x0 x1 x2 x3 x4 x5 x6 x7 x8 : Int} (h0 : 0 ≤ x1) (h1 : x1 ≤ 4) (h2 : x2 = 51) (h3 : x3 = x2 + x1) (h4 : x4 = 46) (h5 : x5 = x4 + x1) (h6 : x6 = 51) (h7 : x7 = x6 + x1) (h8 : x8 = 46) (h9 : x0 = x8 + x1) : 0 ≤ x0 := by omega
theorem o35_258 {x0 x1 x2 x3 x4 x5 x6 x7 x8 : Int} (h0 : 0 ≤ x1) (h1 : x1 ≤ 4) (h2 : x2 = 51) (h3 : x3 = x2 + x1) (h4 : x4 = 46) (h5 : x5 = x4 + x1) (h6 : x6 = 51) (h7 : x7 = x6 + x1) (h8 : x8 = 46) (h9 : x0 = x8 + x1) : x0 < (5322 : Nat) := by omega
theorem o35_259 {x0 x1 x2 x3 x4 x5 x6 x7 x8 : Int} (h0 : 0 ≤ x1) (h1 : x1 ≤ 4) (h2 : x2 = 51) (h3 : x3 = x2 + x1) (h4 : x4 = 46) (h5 : x5 = x4 + x1) (h6 : x6 = 51) (h7 : x7 = x6 + x1) (h8 : x8 = 46) (h9 : x0 = x8 + x1) : (x0).toNat < 51 := by omega
theorem o35_260 {x0 x1 x2 x3 x4 x5 x6 x7 x8 : Int} (h0 : 0 ≤ x1) (h1 : x1 ≤ 4) (h2 : x2 = 51) (h3 : x3 = x2 + x1) (h4 : x4 = 46) (h5 : x5 = x4 + x1) (h6 : x6 = 51) (h7 : x7 = x6 + x1) (h8 : x8 = 46) (h9 : x0 = x8 + x1) : 46 ≤ (x0).toNat := by omega
theorem o35_261 {x0 x1 x2 x3 x4 x5 x6 x7 x8 : Int} (h0 : 0 ≤ x2) (h1 : x2 ≤ 4) (h2 : x3 = 51) (h3 : x4 = x3 + x2) (h4 : x5 = 46) (h5 : x0 = x5 + x2) (h6 : x6 = 51) (h7 : x1 = x6 + x2) (h8 : x7 = 46) (h9 : x8 = x7 + x2) : (x0).toNat ≠ (x1).toNat := by omega
theorem o35_262 {x0 x1 x2 x3 x4 x5 x6 x7 x8 : Int} (h0 : 0 ≤ x2) (h1 : x2 ≤ 4) (h2 : x3 = 51) (h3 : x4 = x3 + x2) (h4 : x5 = 46) (h5 : x1 = x5 + x2) (h6 : x6 = 51) (h7 : x7 = x6 + x2) (h8 : x8 = 46) (h9 : x0 = x8 + x2) : (x0).toNat = (x1).toNat := by omega
theorem o35_263 {x0 x1 x2 x3 x4 : Int} (h0 : 1 ≤ x1) (h1 : x1 ≤ 20) (h2 : 0 ≤ x2) (h3 : x2 ≤ 99) (h4 : x3 = x2 + x1) (h5 : x4 = 99) (h6 : x3 ≤ x4) (h7 : 0 ≤ x0) (h8 : x0 ≤ 99) (h9 : x0 = x2) (h10 : -2147483648 ≤ x0) (h11 : x0 ≤ 2147483647) (h12 : -2147483648 ≤ x1) (h13 : x1 ≤ 2147483647) (h14 : -2147483648 ≤ x2) (h15 : x2 ≤ 2147483647) (h16 : -2147483648 ≤ x3) (h17 : x3 ≤ 2147483647) (h18 : -2147483648 ≤ x4) (h19 : x4 ≤ 2147483647) : -2147483648 ≤ x0 + x1 := by omega
theorem o35_264 {x0 x1 x2 x3 x4 : Int} (h0 : 1 ≤ x1) (h1 : x1 ≤ 20) (h2 : 0 ≤ x2) (h3 : x2 ≤ 99) (h4 : x3 = x2 + x1) (h5 : x4 = 99) (h6 : x3 ≤ x4) (h7 : 0 ≤ x0) (h8 : x0 ≤ 99) (h9 : x0 = x2) (h10 : -2147483648 ≤ x0) (h11 : x0 ≤ 2147483647) (h12 : -2147483648 ≤ x1) (h13 : x1 ≤ 2147483647) (h14 : -2147483648 ≤ x2) (h15 : x2 ≤ 2147483647) (h16 : -2147483648 ≤ x3) (h17 : x3 ≤ 2147483647) (h18 : -2147483648 ≤ x4) (h19 : x4 ≤ 2147483647) : x0 + x1 ≤ 2147483647 := by omega
theorem o35_265 : ∀ p, p < 51 → 46 ≤ p → (elAll p).1 ≤ 0 ∧ 99 ≤ (elAll p).2 := by decide +kernel
theorem o35_266 {x0 x1 x2 x3 x4 x5 : Int} (h0 : 1 ≤ x1) (h1 : x1 ≤ 20) (h2 : 0 ≤ x2) (h3 : x2 ≤ 99) (h4 : x3 = x2 + x1) (h5 : x4 = 99) (h6 : x3 ≤ x4) (h7 : 0 ≤ x5) (h8 : x5 ≤ 99) (h9 : x5 = x2) (h10 : x0 = x5 + x1) : 0 ≤ x0 := by omega
theorem o35_267 {x0 x1 x2 x3 x4 x5 : Int} (h0 : 1 ≤ x1) (h1 : x1 ≤ 20) (h2 : 0 ≤ x2) (h3 : x2 ≤ 99) (h4 : x3 = x2 + x1) (h5 : x4 = 99) (h6 : x3 ≤ x4) (h7 : 0 ≤ x5) (h8 : x5 ≤ 99) (h9 : x5 = x2) (h10 : x0 = x5 + x1) : x0 ≤ 99 := by omega
theorem o35_268 {x0 x1 x2 x3 x4 x5 x6 x7 x8 : Int} (h0 : 0 ≤ x1) (h1 : x1 ≤ 4) (h2 : x2 = 51) (h3 : x3 = x2 + x1) (h4 : x4 = 46) (h5 : x5 = x4 + x1) (h6 : x6 = 51) (h7 : x7 = x6 + x1) (h8 : x8 = 46) (h9 : x0 = x8 + x1) : (36 ≤ x0 ∨ x0 = 10) := by omega
theorem o35_269 {x0 x1 x2 x3 x4 x5 x6 x7 x8 : Int} (h0 : 0 ≤ x1) (h1 : x1 ≤ 4) (h2 : x2 = 51) (h3 : x3 = x2 + x1) (h4 : x4 = 46) (h5 : x5 = x4 + x1) (h6 : x6 = 51) (h7 : x7 = x6 + x1) (h8 : x8 = 46) (h9 : x0 = x8 + x1) : 10 ≤ x0 := by omega
theorem o35_270 {x0 x1 x2 x3 x4 x5 x6 x7 x8 : Int} (h0 : 0 ≤ x1) (h1 : x1 ≤ 4) (h2 : x2 = 51) (h3 : x3 = x2 + x1) (h4 : x4 = 46) (h5 : x5 = x4 + x1) (h6 : x6 = 51) (h7 : x7 = x6 + x1) (h8 : x8 = 46) (h9 : x0 = x8 + x1) : x0 ≤ 872 := by omega
theorem o35_271 {x0 x1 x2 x3 x4 x5 x6 x7 x8 : Int} (h0 : 0 ≤ x1) (h1 : x1 ≤ 4) (h2 : x2 = 51) (h3 : x3 = x2 + x1) (h4 : x4 = 46) (h5 : x0 = x4 + x1) (h6 : x5 = 51) (h7 : x6 = x5 + x1) (h8 : x7 = 46) (h9 : x8 = x7 + x1) : ((x0).toNat < 61 ∨ 85 < (x0).toNat) := by omega
theorem o35_272 {x0 x1 x2 x3 x4 x5 x6 x7 x8 : Int} (h0 : 0 ≤ x1) (h1 : x1 ≤ 4) (h2 : x2 = 51) (h3 : x3 = x2 + x1) (h4 : x4 = 46) (h5 : x5 = x4 + x1) (h6 : x6 = 51) (h7 : x7 = x6 + x1) (h8 : x8 = 46) (h9 : x0 = x8 + x1) : (x0).toNat = 46 + (x1).toNat := by omega
theorem o35_273 {x0 x1 x2 x3 x4 x5 x6 x7 x8 : Int} (h0 : 0 ≤ x1) (h1 : x1 ≤ 4) (h2 : x2 = 51) (h3 : x3 = x2 + x1) (h4 : x4 = 46) (h5 : x0 = x4 + x1) (h6 : x5 = 51) (h7 : x6 = x5 + x1) (h8 : x7 = 46) (h9 : x8 = x7 + x1) : (x0).toNat = 46 + (x1).toNat := by omega
theorem o35_274 {x0 x1 x2 x3 x4 x5 : Int} (h0 : 1 ≤ x2) (h1 : x2 ≤ 20) (h2 : 0 ≤ x1) (h3 : x1 ≤ 99) (h4 : x3 = x1 + x2) (h5 : x4 = 99) (h6 : x3 ≤ x4) (h7 : 0 ≤ x5) (h8 : x5 ≤ 99) (h9 : x5 = x1) (h10 : x0 = x5 + x2) : x0 = x1 + x2 := by omega
theorem o35_275 {x0 x1 x2 : Int} (h0 : x1 = x0) (h1 : 0 ≤ x2) (h2 : x2 ≤ 1) (h3 : (x2 = 0 ∨ (0 ≤ x1 ∧ x1 ≤ 4))) (h4 : ¬ x2 = 0) : 0 ≤ x0 := by omega
theorem o35_276 {x0 x1 x2 : Int} (h0 : x1 = x0) (h1 : 0 ≤ x2) (h2 : x2 ≤ 1) (h3 : (x2 = 0 ∨ (0 ≤ x1 ∧ x1 ≤ 4))) (h4 : ¬ x2 = 0) : x0 ≤ 4 := by omega
theorem o35_277 {x0 x1 x2 x3 x4 : Int} (h0 : x1 = x0) (h1 : x2 = 1) (h2 : x3 = 20) (h3 : 0 ≤ x4) (h4 : x4 ≤ 1) (h5 : ((x4 = 0 ∧ (x1 < x2 ∨ x3 < x1)) ∨ (x4 = 1 ∧ x2 ≤ x1 ∧ x1 ≤ x3))) (h6 : ¬ x4 = 0) : 1 ≤ x0 := by omega
theorem o35_278 {x0 x1 x2 x3 x4 : Int} (h0 : x1 = x0) (h1 : x2 = 1) (h2 : x3 = 20) (h3 : 0 ≤ x4) (h4 : x4 ≤ 1) (h5 : ((x4 = 0 ∧ (x1 < x2 ∨ x3 < x1)) ∨ (x4 = 1 ∧ x2 ≤ x1 ∧ x1 ≤ x3))) (h6 : ¬ x4 = 0) : x0 ≤ 20 := by omega
theorem o35_279 {x0 x1 x2 : Int} (h0 : x1 = x2) (h1 : 0 ≤ x0) (h2 : x0 ≤ 1) (h3 : (x0 = 0 ∨ (0 ≤ x1 ∧ x1 ≤ 4))) (h4 : ¬ x0 = 0) : ¬ x0 = 0 := by omega
theorem o35_280 {x0 x1 x2 x3 x4 x5 : Int} (h0 : x2 = x1) (h1 : 0 ≤ x3) (h2 : x3 ≤ 1) (h3 : (x3 = 0 ∨ (0 ≤ x2 ∧ x2 ≤ 4))) (h4 : ¬ x3 = 0) (h5 : x4 = 56) (h6 : x5 = x4 + x1) (h7 : x0 = 56) (h8 : -2147483648 ≤ x0) (h9 : x0 ≤ 2147483647) (h10 : -2147483648 ≤ x1) (h11 : x1 ≤ 2147483647) (h12 : -2147483648 ≤ x3) (h13 : x3 ≤ 2147483647) (h14 : -2147483648 ≤ x4) (h15 : x4 ≤ 2147483647) (h16 : -2147483648 ≤ x5) (h17 : x5 ≤ 2147483647) : -2147483648 ≤ x0 + x1 := by omega
theorem o35_281 {x0 x1 x2 x3 x4 x5 : Int} (h0 : x2 = x1) (h1 : 0 ≤ x3) (h2 : x3 ≤ 1) (h3 : (x3 = 0 ∨ (0 ≤ x2 ∧ x2 ≤ 4))) (h4 : ¬ x3 = 0) (h5 : x4 = 56) (h6 : x5 = x4 + x1) (h7 : x0 = 56) (h8 : -2147483648 ≤ x0) (h9 : x0 ≤ 2147483647) (h10 : -2147483648 ≤ x1) (h11 : x1 ≤ 2147483647) (h12 : -2147483648 ≤ x3) (h13 : x3 ≤ 2147483647) (h14 : -2147483648 ≤ x4) (h15 : x4 ≤ 2147483647) (h16 : -2147483648 ≤ x5) (h17 : x5 ≤ 2147483647) : x0 + x1 ≤ 2147483647 := by omega
theorem o35_282 {x0 x1 x2 x3 x4 x5 x6 : Int} (h0 : x1 = x2) (h1 : 0 ≤ x3) (h2 : x3 ≤ 1) (h3 : (x3 = 0 ∨ (0 ≤ x1 ∧ x1 ≤ 4))) (h4 : ¬ x3 = 0) (h5 : x4 = 56) (h6 : x5 = x4 + x2) (h7 : x6 = 56) (h8 : x0 = x6 + x2) : 0 ≤ x0 := by omega
theorem o35_283 {x0 x1 x2 x3 x4 x5 x6 : Int} (h0 : x1 = x2) (h1 : 0 ≤ x3) (h2 : x3 ≤ 1) (h3 : (x3 = 0 ∨ (0 ≤ x1 ∧ x1 ≤ 4))) (h4 : ¬ x3 = 0) (h5 : x4 = 56) (h6 : x5 = x4 + x2) (h7 : x6 = 56) (h8 : x0 = x6 + x2) : x0 < (5322 : Nat) := by omega
theorem o35_284 {x0 x1 x2 x3 x4 x5 x6 : Int} (h0 : x2 = x3) (h1 : 0 ≤ x4) (h2 : x4 ≤ 1) (h3 : (x4 = 0 ∨ (0 ≤ x2 ∧ x2 ≤ 4))) (h4 : ¬ x4 = 0) (h5 : x5 = 56) (h6 : x1 = x5 + x3) (h7 : x6 = 56) (h8 : x0 = x6 + x3) : (x0).toNat = (x1).toNat := by omega
theorem o35_285 {x0 x1 x2 x3 x4 x5 x6 x7 : Int} (h0 : x2 = x1) (h1 : 0 ≤ x3) (h2 : x3 ≤ 1) (h3 : (x3 = 0 ∨ (0 ≤ x2 ∧ x2 ≤ 4))) (h4 : ¬ x3 = 0) (h5 : x4 = 56) (h6 : x5 = x4 + x1) (h7 : x6 = 56) (h8 : x7 = x6 + x1) (h9 : x0 = 36) (h10 : -2147483648 ≤ x0) (h11 : x0 ≤ 2147483647) (h12 : -2147483648 ≤ x1) (h13 : x1 ≤ 2147483647) (h14 : -2147483648 ≤ x3) (h15 : x3 ≤ 2147483647) (h16 : -2147483648 ≤ x4) (h17 : x4 ≤ 2147483647) (h18 : -2147483648 ≤ x5) (h19 : x5 ≤ 2147483647) (h20 : -2147483648 ≤ x6) (h21 : x6 ≤ 2147483647) (h22 : -2147483648 ≤ x7) (h23 : x7 ≤ 2147483647) : -2147483648 ≤ x0 + x1 := by omega
theorem o35_286 {x0 x1 x2 x3 x4 x5 x6 x7 : Int} (h0 : x2 = x1) (h1 : 0 ≤ x3) (h2 : x3 ≤ 1) (h3 : (x3 = 0 ∨ (0 ≤ x2 ∧ x2 ≤ 4))) (h4 : ¬ x3 = 0) (h5 : x4 = 56) (h6 : x5 = x4 + x1) (h7 : x6 = 56) (h8 : x7 = x6 + x1) (h9 : x0 = 36) (h10 : -2147483648 ≤ x0) (h11 : x0 ≤ 2147483647) (h12 : -2147483648 ≤ x1) (h13 : x1 ≤ 2147483647) (h14 : -2147483648 ≤ x3) (h15 : x3 ≤ 2147483647) (h16 : -2147483648 ≤ x4) (h17 : x4 ≤ 2147483647) (h18 : -2147483648 ≤ x5) (h19 : x5 ≤ 2147483647) (h20 : -2147483648 ≤ x6) (h21 : x6 ≤ 2147483647) (h22 : -2147483648 ≤ x7) (h23 : x7 ≤ 2147483647) : x0 + x1 ≤ 2147483647 := by omega
theorem o35_287 {x0 x1 x2 x3 x4 x5 x6 x7 x8 : Int} (h0 : x1 = x2) (h1 : 0 ≤ x3) (h2 : x3 ≤ 1) (h3 : (x3 = 0 ∨ (0 ≤ x1 ∧ x1 ≤ 4))) (h4 : ¬ x3 = 0) (h5 : x4 = 56) (h6 : x5 = x4 + x2) (h7 : x6 = 56) (h8 : x7 = x6 + x2) (h9 : x8 = 36) (h10 : x0 = x8 + x2) : 0 ≤ x0 := by omega
theorem o35_288 {x0 x1 x2 x3 x4 x5 x6 x7 x8 : Int} (h0 : x1 = x2) (h1 : 0 ≤ x3) (h2 : x3 ≤ 1) (h3 : (x3 = 0 ∨ (0 ≤ x1 ∧ x1 ≤ 4))) (h4 : ¬ x3 = 0) (h5 : x4 = 56) (h6 : x5 = x4 + x2) (h7 : x6 = 56) (h8 : x7 = x6 + x2) (h9 : x8 = 36) (h10 : x0 = x8 + x2) : x0 < (5322 : Nat) := by omega
theorem o35_289 {x0 x1 x2 x3 x4 x5 x6 x7 x8 : Int} (h0 : x1 = x2) (h1 : 0 ≤ x3) (h2 : x3 ≤ 1) (h3 : (x3 = 0 ∨ (0 ≤ x1 ∧ x1 ≤ 4))) (h4 : ¬ x3 = 0) (h5 : x4 = 56) (h6 : x5 = x4 + x2) (h7 : x6 = 56) (h8 : x7 = x6 + x2) (h9 : x8 = 36) (h10 : x0 = x8 + x2) : (x0).toNat < 41 := by omega
theorem o35_290 {x0 x1 x2 x3 x4 x5 x6 x7 x8 : Int} (h0 : x1 = x2) (h1 : 0 ≤ x3) (h2 : x3 ≤ 1) (h3 : (x3 = 0 ∨ (0 ≤ x1 ∧ x1 ≤ 4))) (h4 : ¬ x3 = 0) (h5 : x4 = 56) (h6 : x5 = x4 + x2) (h7 : x6 = 56) (h8 : x7 = x6 + x2) (h9 : x8 = 36) (h10 : x0 = x8 + x2) : 36 ≤ (x0).toNat := by omega
theorem o35_291 {x0 x1 x2 x3 x4 x5 x6 x7 x8 x9 : Int} (h0 : x2 = x1) (h1 : 0 ≤ x3) (h2 : x3 ≤ 1) (h3 : (x3 = 0 ∨ (0 ≤ x2 ∧ x2 ≤ 4))) (h4 : ¬ x3 = 0) (h5 : x4 = 56) (h6 : x5 = x4 + x1) (h7 : x6 = 56) (h8 : x7 = x6 + x1) (h9 : x8 = 36) (h10 : x9 = x8 + x1) (h11 : x0 = 41) (h12 : -2147483648 ≤ x0) (h13 : x0 ≤ 2147483647) (h14 : -2147483648 ≤ x1) (h15 : x1 ≤ 2147483647) (h16 : -2147483648 ≤ x3) (h17 : x3 ≤ 2147483647) (h18 : -2147483648 ≤ x4) (h19 : x4 ≤ 2147483647) (h20 : -2147483648 ≤ x5) (h21 : x5 ≤ 2147483647) (h22 : -2147483648 ≤ x6) (h23 : x6 ≤ 2147483647) (h24 : -2147483648 ≤ x7) (h25 : x7 ≤ 2147483647) (h26 : -2147483648 ≤ x8) (h27 : x8 ≤ 2147483647) (h28 : -2147483648 ≤ x9) (h29 : x9 ≤ 2147483647) : -2147483648 ≤ x0 + x1 := by omega
theorem o35_292 {x0 x1 x2 x3 x4 x5 x6 x7 x8 x9 : Int} (h0 : x2 = x1) (h1 : 0 ≤ x3) (h2 : x3 ≤ 1) (h3 : (x3 = 0 ∨ (0 ≤ x2 ∧ x2 ≤ 4))) (h4 : ¬ x3 = 0) (h5 : x4 = 56) (h6 : x5 = x4 + x1) (h7 : x6 = 56) (h8 : x7 = x6 + x1) (h9 : x8 = 36) (h10 : x9 = x8 + x1) (h11 : x0 = 41) (h12 : -2147483648 ≤ x0) (h13 : x0 ≤ 2147483647) (h14 : -2147483648 ≤ x1) (h15 : x1 ≤ 2147483647) (h16 : -2147483648 ≤ x3) (h17 : x3 ≤ 2147483647) (h18 : -2147483648 ≤ x4) (h19 : x4 ≤ 2147483647) (h20 : -2147483648 ≤ x5) (h21 : x5 ≤ 2147483647) (h22 : -2147483648 ≤ x6) (h23 : x6 ≤ 2147483647) (h24 : -2147483648 ≤ x7) (h25 : x7 ≤ 2147483647) (h26 : -2147483648 ≤ x8) (h27 : x8 ≤ 2147483647) (h28 : -2147483648 ≤ x9) (h29 : x9 ≤ 2147483647) : x0 + x1 ≤ 2147483647 := by omega
theorem o35_293 {x0 x1 x2 x3 x4 x5 x6 x7 x8 x9 x10 : Int} (h0 : x1 = x2) (h1 : 0 ≤ x3) (h2 : x3 ≤ 1) (h3 : (x3 = 0 ∨ (0 ≤ x1 ∧ x1 ≤ 4))) (h4 : ¬ x3 = 0) (h5 : x4 = 56) (h6 : x5 = x4 + x2) (h7 : x6 = 56) (h8 : x7 = x6 + x2) (h9 : x8 = 36) (h10 : x9 = x8 + x2) (h11 : x10 = 41) (h12 : x0 = x10 + x2) : 0 ≤ x0 := by omega
theorem o35_294 {x0 x1 x2 x3 x4 x5 x6 x7 x8 x9 x10 : Int} (h0 : x1 = x2) (h1 : 0 ≤ x3) (h2 : x3 ≤ 1) (h3 : (x3 = 0 ∨ (0 ≤ x1 ∧ x1 ≤ 4))) (h4 : ¬ x3 = 0) (h5 : x4 = 56) (h6 : x5 = x4 + x2) (h7 : x6 = 56) (h8 : x7 = x6 + x2) (h9 : x8 = 36) (h10 : x9 = x8 + x2) (h11 : x10 = 41) (h12 : x0 = x10 + x2) : x0 < (5322 : Nat) := by omega
theorem o35_295 {x0 x1 x2 x3 x4 x5 x6 x7 x8 x9 x10 : Int} (h0 : x1 = x2) (h1 : 0 ≤ x3) (h2 : x3 ≤ 1) (h3 : (x3 = 0 ∨ (0 ≤ x1 ∧ x1 ≤ 4))) (h4 : ¬ x3 = 0) (h5 : x4 = 56) (h6 : x5 = x4 + x2) (h7 : x6 = 56) (h8 : x7 = x6 + x2) (h9 : x8 = 36) (h10 : x9 = x8 + x2) (h11 : x10 = 41) (h12 : x0 = x10 + x2) : (x0).toNat < 46 := by omega
theorem o35_296 {x0 x1 x2 x3 x4 x5 x6 x7 x8 x9 x10 : Int} (h0 : x1 = x2) (h1 : 0 ≤ x3) (h2 : x3 ≤ 1) (h3 : (x3 = 0 ∨ (0 ≤ x1 ∧ x1 ≤ 4))) (h4 : ¬ x3 = 0) (h5 : x4 = 56) (h6 : x5 = x4 + x2) (h7 : x6 = 56) (h8 : x7 = x6 + x2) (h9 : x8 = 36) (h10 : x9 = x8 + x2) (h11 : x10 = 41) (h12 : x0 = x10 + x2) : 41 ≤ (x0).toNat := by omega
theorem o35_297 {x0 x1 x2 x3 x4 x5 x6 x7 x8 x9 x10 : Int} (h0 : x1 = x2) (h1 : 0 ≤ x0) (h2 : x0 ≤ 1) (h3 : (x0 = 0 ∨ (0 ≤ x1 ∧ x1 ≤ 4))) (h4 : ¬ x0 = 0) (h5 : x3 = 56) (h6 : x4 = x3 + x2) (h7 : x5 = 56) (h8 : x6 = x5 + x2) (h9 : x7 = 36) (h10 : x8 = x7 + x2) (h11 : x9 = 41) (h12 : x10 = x9 + x2) : ¬ x0 = 0 := by omega
theorem o35_298 {x0 : Int} (h0 : x0 = 3) : x0 = 3 := by omega
theorem o35_299 {x0 : Int} (h0 : 0 ≤ x0) : 0 ≤ x0 := by omega
theorem o35_300 {x0 x1 x2 x3 x4 x5 x6 x7 x8 x9 x10 x11 : Int} (h0 : x2 = x1) (h1 : 0 ≤ x3) (h2 : x3 ≤ 1) (h3 : (x3 = 0 ∨ (0 ≤ x2 ∧ x2 ≤ 4))) (h4 : ¬ x3 = 0) (h5 : x4 = 56) (h6 : x5 = x4 + x1) (h7 : x6 = 56) (h8 : x7 = x6 + x1) (h9 : x8 = 36) (h10 : x9 = x8 + x1) (h11 : x10 = 41) (h12 : x11 = x10 + x1) (h13 : x0 = 56) (h14 : -2147483648 ≤ x0) (h15 : x0 ≤ 2147483647) (h16 : -2147483648 ≤ x1) (h17 : x1 ≤ 2147483647) (h18 : -2147483648 ≤ x3) (h19 : x3 ≤ 2147483647) (h20 : -2147483648 ≤ x4) (h21 : x4 ≤ 2147483647) (h22 : -2147483648 ≤ x5) (h23 : x5 ≤ 2147483647) (h24 : -2147483648 ≤ x6) (h25 : x6 ≤ 2147483647) (h26 : -2147483648 ≤ x7) (h27 : x7 ≤ 2147483647) (h28 : -2147483648 ≤ x8) (h29 : x8 ≤ 2147483647) (h30 : -2147483648 ≤ x9) (h31 : x9 ≤ 2147483647) (h32 : -2147483648 ≤ x10) (h33 : x10 ≤ 2147483647) (h34 : -2147483648 ≤ x11) (h35 : x11 ≤ 2147483647) : -2147483648 ≤ x0 + x1 := by omega
theorem o35_301 {x0 x1 x2 x3 x4 x5 x6 x7 x8 x9 x10 x11 : Int} (h0 : x2 = x1) (h1 : 0 ≤ x3) (h2 : x3 ≤ 1) (h3 : (x3 = 0 ∨ (0 ≤ x2 ∧ x2 ≤ 4))) (h4 : ¬ x3 = 0) (h5 : x4 = 56) (h6 : x5 = x4 + x1) (h7 : x6 = 56) (h8 : x7 = x6 + x1) (h9 : x8 = 36) (h10 : x9 = x8 + x1) (h11 : x10 = 41) (h12 : x11 = x10 + x1) (h13 : x0 = 56) (h14 : -2147483648 ≤ x0) (h15 : x0 ≤ 2147483647) (h16 : -2147483648 ≤ x1) (h17 : x1 ≤ 2147483647) (h18 : -2147483648 ≤ x3) (h19 : x3 ≤ 2147483647) (h20 : -2147483648 ≤ x4) (h21 : x4 ≤ 2147483647) (h22 : -2147483648 ≤ x5) (h23 : x5 ≤ 2147483647) (h24 : -2147483648 ≤ x6) (h25 : x6 ≤ 2147483647) (h26 : -2147483648 ≤ x7) (h27 : x7 ≤ 2147483647) (h28 : -2147483648 ≤ x8) (h29 : x8 ≤ 2147483647) (h30 : -2147483648 ≤ x9) (h31 : x9 ≤ 2147483647) (h32 : -2147483648 ≤ x10) (h33 : x10 ≤ 2147483647) (h34 : -2147483648 ≤ x11) (h35 : x11 ≤ 2147483647) : x0 + x1 ≤ 2147483647 := by omega
theorem o35_302 {x0 x1 x2 x3 x4 x5 x6 x7 x8 x9 x10 x11 x12 : Int} (h0 : x1 = x2) (h1 : 0 ≤ x3) (h2 : x3 ≤ 1) (h3 : (x3 = 0 ∨ (0 ≤ x1 ∧ x1 ≤ 4))) (h4 : ¬ x3 = 0) (h5 : x4 = 56) (h6 : x5 = x4 + x2) (h7 : x6 = 56) (h8 : x7 = x6 + x2) (h9 : x8 = 36) (h10 : x9 = x8 + x2) (h11 : x10 = 41) (h12 : x11 = x10 + x2) (h13 : x12 = 56) (h14 : x0 = x12 + x2) : 0 ≤ x0 := by omega
theorem o35_303 {x0 x1 x2 x3 x4 x5 x6 x7 x8 x9 x10 x11 x12 : Int} (h0 : x1 = x2) (h1 : 0 ≤ x3) (h2 : x3 ≤ 1) (h3 : (x3 = 0 ∨ (0 ≤ x1 ∧ x1 ≤ 4))) (h4 : ¬ x3 = 0) (h5 : x4 = 56) (h6 : x5 = x4 + x2) (h7 : x6 = 56) (h8 : x7 = x6 + x2) (h9 : x8 = 36) (h10 : x9 = x8 + x2) (h11 : x10 = 41) (h12 : x11 = x10 + x2) (h13 : x12 = 56) (h14 : x0 = x12 + x2) : x0 < (5322 : Nat) := by omega
theorem o35_304 : ∀ p, p < 61 → 56 ≤ p → (elAll p).1 ≤ (-2147483648) ∧ 2147483647 ≤ (elAll p).2 := by decide +kernel
theorem o35_305 {x0 x1 x2 x3 x4 x5 x6 x7 x8 x9 x10 x11 x12 : Int} (h0 : x1 = x2) (h1 : 0 ≤ x3) (h2 : x3 ≤ 1) (h3 : (x3 = 0 ∨ (0 ≤ x1 ∧ x1 ≤ 4))) (h4 : ¬ x3 = 0) (h5 : x4 = 56) (h6 : x5 = x4 + x2) (h7 : x6 = 56) (h8 : x7 = x6 + x2) (h9 : x8 = 36) (h10 : x9 = x8 + x2) (h11 : x10 = 41) (h12 : x11 = x10 + x2) (h13 : x12 = 56) (h14 : x0 = x12 + x2) : (x0).toNat < 61 := by omega
theorem o35_306 {x0 x1 x2 x3 x4 x5 x6 x7 x8 x9 x10 x11 x12 : Int} (h0 : x1 = x2) (h1 : 0 ≤ x3) (h2 : x3 ≤ 1) (h3 : (x3 = 0 ∨ (0 ≤ x1 ∧ x1 ≤ 4))) (h4 : ¬ x3 = 0) (h5 : x4 = 56) (h6 : x5 = x4 + x2) (h7 : x6 = 56) (h8 : x7 = x6 + x2) (h9 : x8 = 36) (h10 : x9 = x8 + x2) (h11 : x10 = 41) (h12 : x11 = x10 + x2) (h13 : x12 = 56) (h14 : x0 = x12 + x2) : 56 ≤ (x0).toNat := by omega
theorem o35_307 {x0 x1 x2 x3 x4 x5 x6 x7 x8 x9 x10 x11 x12 : Int} (h0 : x1 = x2) (h1 : 0 ≤ x3) (h2 : x3 ≤ 1) (h3 : (x3 = 0 ∨ (0 ≤ x1 ∧ x1 ≤ 4))) (h4 : ¬ x3 = 0) (h5 : x4 = 56) (h6 : x5 = x4 + x2) (h7 : x6 = 56) (h8 : x7 = x6 + x2) (h9 : x8 = 36) (h10 : x9 = x8 + x2) (h11 : x10 = 41) (h12 : x11 = x10 + x2) (h13 : x12 = 56) (h14 : x0 = x12 + x2) : (36 ≤ x0 ∨ x0 = 10) := by omega
theorem o35_308 {x0 x1 x2 x3 x4 x5 x6 x7 x8 x9 x10 x11 x12 : Int} (h0 : x1 = x2) (h1 : 0 ≤ x3) (h2 : x3 ≤ 1) (h3 : (x3 = 0 ∨ (0 ≤ x1 ∧ x1 ≤ 4))) (h4 : ¬ x3 = 0) (h5 : x4 = 56) (h6 : x5 = x4 + x2) (h7 : x6 = 56) (h8 : x7 = x6 + x2) (h9 : x8 = 36) (h10 : x9 = x8 + x2) (h11 : x10 = 41) (h12 : x11 = x10 + x2) (h13 : x12 = 56) (h14 : x0 = x12 + x2) : 10 ≤ x0 := by omega
theorem o35_309 {x0 x1 x2 x3 x4 x5 x6 x7 x8 x9 x10 x11 x12 : Int} (h0 : x1 = x2) (h1 : 0 ≤ x3) (h2 : x3 ≤ 1) (h3 : (x3 = 0 ∨ (0 ≤ x1 ∧ x1 ≤ 4))) (h4 : ¬ x3 = 0) (h5 : x4 = 56) (h6 : x5 = x4 + x2) (h7 : x6 = 56) (h8 : x7 = x6 + x2) (h9 : x8 = 36) (h10 : x9 = x8 + x2) (h11 : x10 = 41) (h12 : x11 = x10 + x2) (h13 : x12 = 56) (h14 : x0 = x12 + x2) : x0 ≤ 872 := by omega
theorem o35_310 {x0 x1 x2 x3 x4 x5 x6 x7 x8 x9 x10 x11 x12 x13 : Int} (h0 : x2 = x1) (h1 : 0 ≤ x3) (h2 : x3 ≤ 1) (h3 : (x3 = 0 ∨ (0 ≤ x2 ∧ x2 ≤ 4))) (h4 : ¬ x3 = 0) (h5 : x4 = 56) (h6 : x5 = x4 + x1) (h7 : x6 = 56) (h8 : x7 = x6 + x1) (h9 : x8 = 36) (h10 : x9 = x8 + x1) (h11 : x10 = 41) (h12 : x11 = x10 + x1) (h13 : x12 = 56) (h14 : x13 = x12 + x1) (h15 : x0 = 51) (h16 : -2147483648 ≤ x0) (h17 : x0 ≤ 2147483647) (h18 : -2147483648 ≤ x1) (h19 : x1 ≤ 2147483647) (h20 : -2147483648 ≤ x3) (h21 : x3 ≤ 2147483647) (h22 : -2147483648 ≤ x4) (h23 : x4 ≤ 2147483647) (h24 : -2147483648 ≤ x5) (h25 : x5 ≤ 2147483647) (h26 : -2147483648 ≤ x6) (h27 : x6 ≤ 2147483647) (h28 : -2147483648 ≤ x7) (h29 : x7 ≤ 2147483647) (h30 : -2147483648 ≤ x8) (h31 : x8 ≤ 2147483647) (h32 : -2147483648 ≤ x9) (h33 : x9 ≤ 2147483647) (h34 : -2147483648 ≤ x10) (h35 : x10 ≤ 2147483647) (h36 : -2147483648 ≤ x11) (h37 : x11 ≤ 2147483647) (h38 : -2147483648 ≤ x12) (h39 : x12 ≤ 2147483647) (h40 : -2147483648 ≤ x13) (h41 : x13 ≤ 2147483647) : -2147483648 ≤ x0 + x1 := by omega
theorem o35_311 {x0 x1 x2 x3 x4 x5 x6 x7 x8 x9 x10 x11 x12 x13 : Int} (h0 : x2 = x1) (h1 : 0 ≤ x3) (h2 : x3 ≤ 1) (h3 : (x3 = 0 ∨ (0 ≤ x2 ∧ x2 ≤ 4))) (h4 : ¬ x3 = 0) (h5 : x4 = 56) (h6 : x5 = x4 + x1) (h7 : x6 = 56) (h8 : x7 = x6 + x1) (h9 : x8 = 36) (h10 : x9 = x8 + x1) (h11 : x10 = 41) (h12 : x11 = x10 + x1) (h13 : x12 = 56) (h14 : x13 = x12 + x1) (h15 : x0 = 51) (h16 : -2147483648 ≤ x0) (h17 : x0 ≤ 2147483647) (h18 : -2147483648 ≤ x1) (h19 : x1 ≤ 2147483647) (h20 : -2147483648 ≤ x3) (h21 : x3 ≤ 2147483647) (h22 : -2147483648 ≤ x4) (h23 : x4 ≤ 2147483647) (h24 : -2147483648 ≤ x5) (h25 : x5 ≤ 2147483647) (h26 : -2147483648 ≤ x6) (h27 : x6 ≤ 2147483647) (h28 : -2147483648 ≤ x7) (h29 : x7 ≤ 2147483647) (h30 : -2147483648 ≤ x8) (h31 : x8 ≤ 2147483647) (h32 : -2147483648 ≤ x9) (h33 : x9 ≤ 2147483647) (h34 : -2147483648 ≤ x10) (h35 : x10 ≤ 2147483647) (h36 : -2147483648 ≤ x11) (h37 : x11 ≤ 2147483647) (h38 : -2147483648 ≤ x12) (h39 : x12 ≤ 2147483647) (h40 : -2147483648 ≤ x13) (h41 : x13 ≤ 2147483647) : x0 + x1 ≤ 2147483647 := by omega
theorem o35_312 {x0 x1 x2 x3 x4 x5 x6 x7 x8 x9 x10 x11 x12 x13 x14 x15 : Int} (h0 : x2 = x1) (h1 : 0 ≤ x3) (h2 : x3 ≤ 1) (h3 : (x3 = 0 ∨ (0 ≤ x2 ∧ x2 ≤ 4))) (h4 : ¬ x3 = 0) (h5 : x4 = 56) (h6 : x5 = x4 + x1) (h7 : x6 = 56) (h8 : x7 = x6 + x1) (h9 : x8 = 36) (h10 : x9 = x8 + x1) (h11 : x10 = 41) (h12 : x11 = x10 + x1) (h13 : x12 = 56) (h14 : x13 = x12 + x1) (h15 : x14 = 51) (h16 : x15 = x14 + x1) (h17 : x0 = 51) (h18 : -2147483648 ≤ x0) (h19 : x0 ≤ 2147483647) (h20 : -2147483648 ≤ x1) (h21 : x1 ≤ 2147483647) (h22 : -2147483648 ≤ x3) (h23 : x3 ≤ 2147483647) (h24 : -2147483648 ≤ x4) (h25 : x4 ≤ 2147483647) (h26 : -2147483648 ≤ x5) (h27 : x5 ≤ 2147483647) (h28 : -2147483648 ≤ x6) (h29 : x6 ≤ 2147483647) (h30 : -2147483648 ≤ x7) (h31 : x7 ≤ 2147483647) (h32 : -2147483648 ≤ x8) (h33 : x8 ≤ 2147483647) (h34 : -2147483648 ≤ x9) (h35 : x9 ≤ 2147483647) (h36 : -2147483648 ≤ x10) (h37 : x10 ≤ 2147483647) (h38 : -2147483648 ≤ x11) (h39 : x11 ≤ 2147483647) (h40 : -2147483648 ≤ x12) (h41 : x12 ≤ 2147483647) (h42 : -2147483648 ≤ x13) (h43 : x13 ≤ 2147483647) (h44 : -2147483648 ≤ x14) (h45 : x14 ≤ 2147483647) (h46 : -2147483648 ≤ x15) (h47 : x15 ≤ 2147483647) : -2147483648 ≤ x0 + x1 := by omega
theorem o35_313 {x0 x1 x2 x3 x4 x5 x6 x7 x8 x9 x10 x11 x12 x13 x14 x15 : Int} (h0 : x2 = x1) (h1 : 0 ≤ x3) (h2 : x3 ≤ 1) (h3 : (x3 = 0 ∨ (0 ≤ x2 ∧ x2 ≤ 4))) (h4 : ¬ x3 = 0) (h5 : x4 = 56) (h6 : x5 = x4 + x1) (h7 : x6 = 56) (h8 : x7 = x6 + x1) (h9 : x8 = 36) (h10 : x9 = x8 + x1) (h11 : x10 = 41) (h12 : x11 = x10 + x1) (h13 : x12 = 56) (h14 : x13 = x12 + x1) (h15 : x14 = 51) (h16 : x15 = x14 + x1) (h17 : x0 = 51) (h18 : -2147483648 ≤ x0) (h19 : x0 ≤ 2147483647) (h20 : -2147483648 ≤ x1) (h21 : x1 ≤ 2147483647) (h22 : -2147483648 ≤ x3) (h23 : x3 ≤ 2147483647) (h24 : -2147483648 ≤ x4) (h25 : x4 ≤ 2147483647) (h26 : -2147483648 ≤ x5) (h27 : x5 ≤ 2147483647) (h28 : -2147483648 ≤ x6) (h29 : x6 ≤ 2147483647) (h30 : -2147483648 ≤ x7) (h31 : x7 ≤ 2147483647) (h32 : -2147483648 ≤ x8) (h33 : x8 ≤ 2147483647) (h34 : -2147483648 ≤ x9) (h35 : x9 ≤ 2147483647) (h36 : -2147483648 ≤ x10) (h37 : x10 ≤ 2147483647) (h38 : -2147483648 ≤ x11) (h39 : x11 ≤ 2147483647) (h40 : -2147483648 ≤ x12) (h41 : x12 ≤ 2147483647) (h42 : -2147483648 ≤ x13) (h43 : x13 ≤ 2147483647) (h44 : -2147483648 ≤ x14) (h45 : x14 ≤ 2147483647) (h46 : -2147483648 ≤ x15) (h47 : x15 ≤ 2147483647) : x0 + x1 ≤ 2147483647 := by omega
theorem o35_314 {x0 x1 x2 x3 x4 x5 x6 x7 x8 x9 x10 x11 x12 x13 x14 x15 x16 : Int} (h0 : x1 = x2) (h1 : 0 ≤ x3) (h2 : x3 ≤ 1) (h3 : (x3 = 0 ∨ (0 ≤ x1 ∧ x1 ≤ 4))) (h4 : ¬ x3 = 0) (h5 : x4 = 56) (h6 : x5 = x4 + x2) (h7 : x6 = 56) (h8 : x7 = x6 + x2) (h9 : x8 = 36) (h10 : x9 = x8 + x2) (h11 : x10 = 41) (h12 : x11 = x10 + x2) (h13 : x12 = 56) (h14 : x13 = x12 + x2) (h15 : x14 = 51) (h16 : x15 = x14 + x2) (h17 : x16 = 51) (h18 : x0 = x16 + x2) : 0 ≤ x0 := by omega
theorem o35_315 {x0 x1 x2 x3 x4 x5 x6 x7 x8 x9 x10 x11 x12 x13 x14 x15 x16 : Int} (h0 : x1 = x2) (h1 : 0 ≤ x3) (h2 : x3 ≤ 1) (h3 : (x3 = 0 ∨ (0 ≤ x1 ∧ x1 ≤ 4))) (h4 : ¬ x3 = 0) (h5 : x4 = 56) (h6 : x5 = x4 + x2) (h7 : x6 = 56) (h8 : x7 = x6 + x2) (h9 : x8 = 36) (h10 : x9 = x8 + x2) (h11 : x10 = 41) (h12 : x11 = x10 + x2) (h13 : x12 = 56) (h14 : x13 = x12 + x2) (h15 : x14 = 51) (h16 : x15 = x14 + x2) (h17 : x16 = 51) (h18 : x0 = x16 + x2) : x0 < (5322 : Nat) := by omega
theorem o35_316 {x0 x1 x2 x3 x4 x5 x6 x7 x8 x9 x10 x11 x12 x13 x14 x15 x16 x17 : Int} (h0 : x2 = x1) (h1 : 0 ≤ x3) (h2 : x3 ≤ 1) (h3 : (x3 = 0 ∨ (0 ≤ x2 ∧ x2 ≤ 4))) (h4 : ¬ x3 = 0) (h5 : x4 = 56) (h6 : x5 = x4 + x1) (h7 : x6 = 56) (h8 : x7 = x6 + x1) (h9 : x8 = 36) (h10 : x9 = x8 + x1) (h11 : x10 = 41) (h12 : x11 = x10 + x1) (h13 : x12 = 56) (h14 : x13 = x12 + x1) (h15 : x14 = 51) (h16 : x15 = x14 + x1) (h17 : x16 = 51) (h18 : x17 = x16 + x1) (h19 : x0 = 51) (h20 : -2147483648 ≤ x0) (h21 : x0 ≤ 2147483647) (h22 : -2147483648 ≤ x1) (h23 : x1 ≤ 2147483647) (h24 : -2147483648 ≤ x3) (h25 : x3 ≤ 2147483647) (h26 : -2147483648 ≤ x4) (h27 : x4 ≤ 2147483647) (h28 : -2147483648 ≤ x5) (h29 : x5 ≤ 2147483647) (h30 : -2147483648 ≤ x6) (h31 : x6 ≤ 2147483647) (h32 : -2147483648 ≤ x7) (h33 : x7 ≤ 2147483647) (h34 : -2147483648 ≤ x8) (h35 : x8 ≤ 2147483647) (h36 : -2147483648 ≤ x9) (h37 : x9 ≤ 2147483647) (h38 : -2147483648 ≤ x10) (h39 : x10 ≤ 2147483647) (h40 : -2147483648 ≤ x11) (h41 : x11 ≤ 2147483647) (h42 : -2147483648 ≤ x12) (h43 : x12 ≤ 2147483647) (h44 : -2147483648 ≤ x13) (h45 : x13 ≤ 2147483647) (h46 : -2147483648 ≤ x14) (h47 : x14 ≤ 2147483647) (h48 : -2147483648 ≤ x15) (h49 : x15 ≤ 2147483647) (h50 : -2147483648 ≤ x16) (h51 : x16 ≤ 2147483647) (h52 : -2147483648 ≤ x17) (h53 : x17 ≤ 2147483647) : -2147483648 ≤ x0 + x1 := by omega
theorem o35_317 {x0 x1 x2 x3 x4 x5 x6 x7 x8 x9 x10 x11 x12 x13 x14 x15 x16 x17 : Int} (h0 : x2 = x1) (h1 : 0 ≤ x3) (h2 : x3 ≤ 1) (h3 : (x3 = 0 ∨ (0 ≤ x2 ∧ x2 ≤ 4))) (h4 : ¬ x3 = 0) (h5 : x4 = 56) (h6 : x5 = x4 + x1) (h7 : x6 = 56) (h8 : x7 = x6 + x1) (h9 : x8 = 36) (h10 : x9 = x8 + x1) (h11 : x10 = 41) (h12 : x11 = x10 + x1) (h13 : x12 = 56) (h14 : x13 = x12 + x1) (h15 : x14 = 51) (h16 : x15 = x14 + x1) (h17 : x16 = 51) (h18 : x17 = x16 + x1) (h19 : x0 = 51) (h20 : -2147483648 ≤ x0) (h21 : x0 ≤ 2147483647) (h22 : -2147483648 ≤ x1) (h23 : x1 ≤ 2147483647) (h24 : -2147483648 ≤ x3) (h25 : x3 ≤ 2147483647) (h26 : -2147483648 ≤ x4) (h27 : x4 ≤ 2147483647) (h28 : -2147483648 ≤ x5) (h29 : x5 ≤ 2147483647) (h30 : -2147483648 ≤ x6) (h31 : x6 ≤ 2147483647) (h32 : -2147483648 ≤ x7) (h33 : x7 ≤ 2147483647) (h34 : -2147483648 ≤ x8) (h35 : x8 ≤ 2147483647) (h36 : -2147483648 ≤ x9) (h37 : x9 ≤ 2147483647) (h38 : -2147483648 ≤ x10) (h39 : x10 ≤ 2147483647) (h40 : -2147483648 ≤ x11) (h41 : x11 ≤ 2147483647) (h42 : -2147483648 ≤ x12) (h43 : x12 ≤ 2147483647) (h44 : -2147483648 ≤ x13) (h45 : x13 ≤ 2147483647) (h46 : -2147483648 ≤ x14) (h47 : x14 ≤ 2147483647) (h48 : -2147483648 ≤ x15) (h49 : x15 ≤ 2147483647) (h50 : -2147483648 ≤ x16) (h51 : x16 ≤ 2147483647) (h52 : -2147483648 ≤ x17) (h53 : x17 ≤ 2147483647) : x0 + x1 ≤ 2147483647 := by omega
theorem o35_318 {x0 x1 x2 x3 x4 x5 x6 x7 x8 x9 x10 x11 x12 x13 x14 x15 x16 x17 x18 : Int} (h0 : x1 = x2) (h1 : 0 ≤ x3) (h2 : x3 ≤ 1) (h3 : (x3 = 0 ∨ (0 ≤ x1 ∧ x1 ≤ 4))) (h4 : ¬ x3 = 0) (h5 : x4 = 56) (h6 : x5 = x4 + x2) (h7 : x6 = 56) (h8 : x7 = x6 + x2) (h9 : x8 = 36) (h10 : x9 = x8 + x2) (h11 : x10 = 41) (h12 : x11 = x10 + x2) (h13 : x12 = 56) (h14 : x13 = x12 + x2) (h15 : x14 = 51) (h16 : x15 = x14 + x2) (h17 : x16 = 51) (h18 : x17 = x16 + x2) (h19 : x18 = 51) (h20 : x0 = x18 + x2) : 0 ≤ x0 := by omega
theorem o35_319 {x0 x1 x2 x3 x4 x5 x6 x7 x8 x9 x10 x11 x12 x13 x14 x15 x16 x17 x18 : Int} (h0 : x1 = x2) (h1 : 0 ≤ x3) (h2 : x3 ≤ 1) (h3 : (x3 = 0 ∨ (0 ≤ x1 ∧ x1 ≤ 4))) (h4 : ¬ x3 = 0) (h5 : x4 = 56) (h6 : x5 = x4 + x2) (h7 : x6 = 56) (h8 : x7 = x6 + x2) (h9 : x8 = 36) (h10 : x9 = x8 + x2) (h11 : x10 = 41) (h12 : x11 = x10 + x2) (h13 : x12 = 56) (h14 : x13 = x12 + x2) (h15 : x14 = 51) (h16 : x15 = x14 + x2) (h17 : x16 = 51) (h18 : x17 = x16 + x2) (h19 : x18 = 51) (h20 : x0 = x18 + x2) : x0 < (5322 : Nat) := by omega
theorem o35_320 {x0 x1 x2 x3 x4 x5 x6 x7 x8 x9 x10 x11 x12 x13 x14 x15 x16 x17 x18 : Int} (h0 : x2 = x3) (h1 : 0 ≤ x4) (h2 : x4 ≤ 1) (h3 : (x4 = 0 ∨ (0 ≤ x2 ∧ x2 ≤ 4))) (h4 : ¬ x4 = 0) (h5 : x5 = 56) (h6 : x6 = x5 + x3) (h7 : x7 = 56) (h8 : x8 = x7 + x3) (h9 : x9 = 36) (h10 : x10 = x9 + x3) (h11 : x11 = 41) (h12 : x12 = x11 + x3) (h13 : x13 = 56) (h14 : x14 = x13 + x3) (h15 : x15 = 51) (h16 : x16 = x15 + x3) (h17 : x17 = 51) (h18 : x1 = x17 + x3) (h19 : x18 = 51) (h20 : x0 = x18 + x3) : (x0).toNat = (x1).toNat := by omega
theorem o35_321 {x0 x1 x2 x3 x4 x5 x6 x7 x8 x9 x10 x11 x12 x13 x14 x15 x16 x17 x18 : Int} (h0 : x1 = x2) (h1 : 0 ≤ x3) (h2 : x3 ≤ 1) (h3 : (x3 = 0 ∨ (0 ≤ x1 ∧ x1 ≤ 4))) (h4 : ¬ x3 = 0) (h5 : x4 = 56) (h6 : x5 = x4 + x2) (h7 : x6 = 56) (h8 : x7 = x6 + x2) (h9 : x8 = 36) (h10 : x9 = x8 + x2) (h11 : x10 = 41) (h12 : x11 = x10 + x2) (h13 : x12 = 56) (h14 : x13 = x12 + x2) (h15 : x14 = 51) (h16 : x0 = x14 + x2) (h17 : x15 = 51) (h18 : x16 = x15 + x2) (h19 : x17 = 51) (h20 : x18 = x17 + x2) : 0 ≤ x0 := by omega
theorem o35_322 {x0 x1 x2 x3 x4 x5 x6 x7 x8 x9 x10 x11 x12 x13 x14 x15 x16 x17 x18 : Int} (h0 : x1 = x2) (h1 : 0 ≤ x3) (h2 : x3 ≤ 1) (h3 : (x3 = 0 ∨ (0 ≤ x1 ∧ x1 ≤ 4))) (h4 : ¬ x3 = 0) (h5 : x4 = 56) (h6 : x5 = x4 + x2) (h7 : x6 = 56) (h8 : x7 = x6 + x2) (h9 : x8 = 36) (h10 : x9 = x8 + x2) (h11 : x10 = 41) (h12 : x11 = x10 + x2) (h13 : x12 = 56) (h14 : x13 = x12 + x2) (h15 : x14 = 51) (h16 : x0 = x14 + x2) (h17 : x15 = 51) (h18 : x16 = x15 + x2) (h19 : x17 = 51) (h20 : x18 = x17 + x2) : x0 < (5322 : Nat) := by omega
theorem o35_323 {x0 x1 x2 x3 x4 x5 x6 x7 x8 x9 x10 x11 x12 x13 x14 x15 x16 x17 x18 : Int} (h0 : x1 = x2) (h1 : 0 ≤ x3) (h2 : x3 ≤ 1) (h3 : (x3 = 0 ∨ (0 ≤ x1 ∧ x1 ≤ 4))) (h4 : ¬ x3 = 0) (h5 : x4 = 56) (h6 : x5 = x4 + x2) (h7 : x6 = 56) (h8 : x7 = x6 + x2) (h9 : x8 = 36) (h10 : x9 = x8 + x2) (h11 : x10 = 41) (h12 : x11 = x10 + x2) (h13 : x12 = 56) (h14 : x13 = x12 + x2) (h15 : x14 = 51) (h16 : x0 = x14 + x2) (h17 : x15 = 51) (h18 : x16 = x15 + x2) (h19 : x17 = 51) (h20 : x18 = x17 + x2) : (x0).toNat < 56 := by omega
theorem o35_324 {x0 x1 x2 x3 x4 x5 x6 x7 x8 x9 x10 x11 x12 x13 x14 x15 x16 x17 x18 : Int} (h0 : x1 = x2) (h1 : 0 ≤ x3) (h2 : x3 ≤ 1) (h3 : (x3 = 0 ∨ (0 ≤ x1 ∧ x1 ≤ 4))) (h4 : ¬ x3 = 0) (h5 : x4 = 56) (h6 : x5 = x4 + x2) (h7 : x6 = 56) (h8 : x7 = x6 + x2) (h9 : x8 = 36) (h10 : x9 = x8 + x2) (h11 : x10 = 41) (h12 : x11 = x10 + x2) (h13 : x12 = 56) (h14 : x13 = x12 + x2) (h15 : x14 = 51) (h16 : x0 = x14 + x2) (h17 : x15 = 51) (h18 : x16 = x15 + x2) (h19 : x17 = 51) (h20 : x18 = x17 + x2) : 51 ≤ (x0).toNat := by omega
theorem o35_325 {x0 x1 x2 x3 x4 x5 x6 x7 x8 x9 x10 x11 x12 x13 x14 x15 x16 x17 x18 : Int} (h0 : x1 = x2) (h1 : 0 ≤ x3) (h2 : x3 ≤ 1) (h3 : (x3 = 0 ∨ (0 ≤ x1 ∧ x1 ≤ 4))) (h4 : ¬ x3 = 0) (h5 : x4 = 56) (h6 : x5 = x4 + x2) (h7 : x6 = 56) (h8 : x7 = x6 + x2) (h9 : x8 = 36) (h10 : x9 = x8 + x2) (h11 : x10 = 41) (h12 : x11 = x10 + x2) (h13 : x12 = 56) (h14 : x13 = x12 + x2) (h15 : x14 = 51) (h16 : x0 = x14 + x2) (h17 : x15 = 51) (h18 : x16 = x15 + x2) (h19 : x17 = 51) (h20 : x18 = x17 + x2) : (36 ≤ x0 ∨ x0 = 10) := by omega
theorem o35_326 {x0 x1 x2 x3 x4 x5 x6 x7 x8 x9 x10 x11 x12 x13 x14 x15 x16 x17 x18 : Int} (h0 : x1 = x2) (h1 : 0 ≤ x3) (h2 : x3 ≤ 1) (h3 : (x3 = 0 ∨ (0 ≤ x1 ∧ x1 ≤ 4))) (h4 : ¬ x3 = 0) (h5 : x4 = 56) (h6 : x5 = x4 + x2) (h7 : x6 = 56) (h8 : x7 = x6 + x2) (h9 : x8 = 36) (h10 : x9 = x8 + x2) (h11 : x10 = 41) (h12 : x11 = x10 + x2) (h13 : x12 = 56) (h14 : x13 = x12 + x2) (h15 : x14 = 51) (h16 : x0 = x14 + x2) (h17 : x15 = 51) (h18 : x16 = x15 + x2) (h19 : x17 = 51) (h20 : x18 = x17 + x2) : 10 ≤ x0 := by omega
theorem o35_327 {x0 x1 x2 x3 x4 x5 x6 x7 x8 x9 x10 x11 x12 x13 x14 x15 x16 x17 x18 : Int} (h0 : x1 = x2) (h1 : 0 ≤ x3) (h2 : x3 ≤ 1) (h3 : (x3 = 0 ∨ (0 ≤ x1 ∧ x1 ≤ 4))) (h4 : ¬ x3 = 0) (h5 : x4 = 56) (h6 : x5 = x4 + x2) (h7 : x6 = 56) (h8 : x7 = x6 + x2) (h9 : x8 = 36) (h10 : x9 = x8 + x2) (h11 : x10 = 41) (h12 : x11 = x10 + x2) (h13 : x12 = 56) (h14 : x13 = x12 + x2) (h15 : x14 = 51) (h16 : x0 = x14 + x2) (h17 : x15 = 51) (h18 : x16 = x15 + x2) (h19 : x17 = 51) (h20 : x18 = x17 + x2) : x0 ≤ 872 := by omega
theorem o35_328 {x0 x1 x2 x3 x4 x5 x6 x7 x8 x9 x10 x11 x12 x13 x14 x15 x16 : Int} (h0 : x1 = x2) (h1 : 0 ≤ x3) (h2 : x3 ≤ 1) (h3 : (x3 = 0 ∨ (0 ≤ x1 ∧ x1 ≤ 4))) (h4 : ¬ x3 = 0) (h5 : x4 = 56) (h6 : x5 = x4 + x2) (h7 : x6 = 56) (h8 : x7 = x6 + x2) (h9 : x8 = 36) (h10 : x9 = x8 + x2) (h11 : x10 = 41) (h12 : x11 = x10 + x2) (h13 : x12 = 56) (h14 : x13 = x12 + x2) (h15 : x14 = 51) (h16 : x0 = x14 + x2) (h17 : x15 = 51) (h18 : x16 = x15 + x2) : 0 ≤ x0 := by omega
theorem o35_329 {x0 x1 x2 x3 x4 x5 x6 x7 x8 x9 x10 x11 x12 x13 x14 x15 x16 : Int} (h0 : x1 = x2) (h1 : 0 ≤ x3) (h2 : x3 ≤ 1) (h3 : (x3 = 0 ∨ (0 ≤ x1 ∧ x1 ≤ 4))) (h4 : ¬ x3 = 0) (h5 : x4 = 56) (h6 : x5 = x4 + x2) (h7 : x6 = 56) (h8 : x7 = x6 + x2) (h9 : x8 = 36) (h10 : x9 = x8 + x2) (h11 : x10 = 41) (h12 : x11 = x10 + x2) (h13 : x12 = 56) (h14 : x13 = x12 + x2) (h15 : x14 = 51) (h16 : x0 = x14 + x2) (h17 : x15 = 51) (h18 : x16 = x15 + x2) : x0 < (5322 : Nat) := by omega
theorem o35_330 {x0 x1 x2 x3 x4 x5 x6 x7 x8 x9 x10 x11 x12 x13 x14 x15 x16 : Int} (h0 : x1 = x2) (h1 : 0 ≤ x3) (h2 : x3 ≤ 1) (h3 : (x3 = 0 ∨ (0 ≤ x1 ∧ x1 ≤ 4))) (h4 : ¬ x3 = 0) (h5 : x4 = 56) (h6 : x5 = x4 + x2) (h7 : x6 = 56) (h8 : x7 = x6 + x2) (h9 : x8 = 36) (h10 : x9 = x8 + x2) (h11 : x10 = 41) (h12 : x11 = x10 + x2) (h13 : x12 = 56) (h14 : x13 = x12 + x2) (h15 : x14 = 51) (h16 : x0 = x14 + x2) (h17 : x15 = 51) (h18 : x16 = x15 + x2) : (x0).toNat < 56 := by omega
theorem o35_331 {x0 x1 x2 x3 x4 x5 x6 x7 x8 x9 x10 x11 x12 x13 x14 x15 x16 : Int} (h0 : x1 = x2) (h1 : 0 ≤ x3) (h2 : x3 ≤ 1) (h3 : (x3 = 0 ∨ (0 ≤ x1 ∧ x1 ≤ 4))) (h4 : ¬ x3 = 0) (h5 : x4 = 56) (h6 : x5 = x4 + x2) (h7 : x6 = 56) (h8 : x7 = x6 + x2) (h9 : x8 = 36) (h10 : x9 = x8 + x2) (h11 : x10 = 41) (h12 : x11 = x10 + x2) (h13 : x12 = 56) (h14 : x13 = x12 + x2) (h15 : x14 = 51) (h16 : x0 = x14 + x2) (h17 : x15 = 51) (h18 : x16 = x15 + x2) : 51 ≤ (x0).toNat := by omega
theorem o35_332 {x0 x1 x2 x3 x4 x5 x6 x7 x8 x9 x10 x11 x12 x13 x14 x15 x16 : Int} (h0 : x1 = x2) (h1 : 0 ≤ x3) (h2 : x3 ≤ 1) (h3 : (x3 = 0 ∨ (0 ≤ x1 ∧ x1 ≤ 4))) (h4 : ¬ x3 = 0) (h5 : x4 = 56) (h6 : x5 = x4 + x2) (h7 : x6 = 56) (h8 : x7 = x6 + x2) (h9 : x8 = 36) (h10 : x9 = x8 + x2) (h11 : x10 = 41) (h12 : x11 = x10 + x2) (h13 : x12 = 56) (h14 : x13 = x12 + x2) (h15 : x14 = 51) (h16 : x0 = x14 + x2) (h17 : x15 = 51) (h18 : x16 = x15 + x2) : (36 ≤ x0 ∨ x0 = 10) := by omega
theorem o35_333 {x0 x1 x2 x3 x4 x5 x6 x7 x8 x9 x10 x11 x12 x13 x14 x15 x16 : Int} (h0 : x1 = x2) (h1 : 0 ≤ x3) (h2 : x3 ≤ 1) (h3 : (x3 = 0 ∨ (0 ≤ x1 ∧ x1 ≤ 4))) (h4 : ¬ x3 = 0) (h5 : x4 = 56) (h6 : x5 = x4 + x2) (h7 : x6 = 56) (h8 : x7 = x6 + x2) (h9 : x8 = 36) (h10 : x9 = x8 + x2) (h11 : x10 = 41) (h12 : x11 = x10 + x2) (h13 : x12 = 56) (h14 : x13 = x12 + x2) (h15 : x14 = 51) (h16 : x0 = x14 + x2) (h17 : x15 = 51) (h18 : x16 = x15 + x2) : 10 ≤ x0 := by omega
theorem o35_334 {x0 x1 x2 x3 x4 x5 x6 x7 x8 x9 x10 x11 x12 x13 x14 x15 x16 : Int} (h0 : x1 = x2) (h1 : 0 ≤ x3) (h2 : x3 ≤ 1) (h3 : (x3 = 0 ∨ (0 ≤ x1 ∧ x1 ≤ 4))) (h4 : ¬ x3 = 0) (h5 : x4 = 56) (h6 : x5 = x4 + x2) (h7 : x6 = 56) (h8 : x7 = x6 + x2) (h9 : x8 = 36) (h10 : x9 = x8 + x2) (h11 : x10 = 41) (h12 : x11 = x10 + x2) (h13 : x12 = 56) (h14 : x13 = x12 + x2) (h15 : x14 = 51) (h16 : x0 = x14 + x2) (h17 : x15 = 51) (h18 : x16 = x15 + x2) : x0 ≤ 872 := by omega
theorem o35_335 {x0 : Int} (h0 : x0 = (-2)) : (-5) ≤ x0 := by omega
theorem o35_336 {x0 : Int} (h0 : x0 = (-2)) : x0 ≤ 99 := by omega
theorem o35_337 {x0 x1 x2 x3 x4 x5 x6 : Int} (h0 : x2 = x1) (h1 : 0 ≤ x3) (h2 : x3 ≤ 1) (h3 : (x3 = 0 ∨ (0 ≤ x2 ∧ x2 ≤ 4))) (h4 : ¬ x3 = 0) (h5 : x4 = x5) (h6 : 0 ≤ x6) (h7 : x6 ≤ 1) (h8 : (x6 = 0 ∨ (0 ≤ x4 ∧ x4 ≤ 4))) (h9 : ¬ x6 = 0) (h10 : ¬ x1 = x5) (h11 : x0 = 36) (h12 : -2147483648 ≤ x0) (h13 : x0 ≤ 2147483647) (h14 : -2147483648 ≤ x1) (h15 : x1 ≤ 2147483647) (h16 : -2147483648 ≤ x3) (h17 : x3 ≤ 2147483647) (h18 : -2147483648 ≤ x5) (h19 : x5 ≤ 2147483647) (h20 : -2147483648 ≤ x6) (h21 : x6 ≤ 2147483647) : -2147483648 ≤ x0 + x1 := by omega
theorem o35_338 {x0 x1 x2 x3 x4 x5 x6 : Int} (h0 : x2 = x1) (h1 : 0 ≤ x3) (h2 : x3 ≤ 1) (h3 : (x3 = 0 ∨ (0 ≤ x2 ∧ x2 ≤ 4))) (h4 : ¬ x3 = 0) (h5 : x4 = x5) (h6 : 0 ≤ x6) (h7 : x6 ≤ 1) (h8 : (x6 = 0 ∨ (0 ≤ x4 ∧ x4 ≤ 4))) (h9 : ¬ x6 = 0) (h10 : ¬ x1 = x5) (h11 : x0 = 36) (h12 : -2147483648 ≤ x0) (h13 : x0 ≤ 2147483647) (h14 : -2147483648 ≤ x1) (h15 : x1 ≤ 2147483647) (h16 : -2147483648 ≤ x3) (h17 : x3 ≤ 2147483647) (h18 : -2147483648 ≤ x5) (h19 : x5 ≤ 2147483647) (h20 : -2147483648 ≤ x6) (h21 : x6 ≤ 2147483647) : x0 + x1 ≤ 2147483647 := by omega
theorem o35_339 {x0 x1 x2 x3 x4 x5 x6 x7 : Int} (h0 : x1 = x2) (h1 : 0 ≤ x3) (h2 : x3 ≤ 1) (h3 : (x3 = 0 ∨ (0 ≤ x1 ∧ x1 ≤ 4))) (h4 : ¬ x3 = 0) (h5 : x4 = x5) (h6 : 0 ≤ x6) (h7 : x6 ≤ 1) (h8 : (x6 = 0 ∨ (0 ≤ x4 ∧ x4 ≤ 4))) (h9 : ¬ x6 = 0) (h10 : ¬ x2 = x5) (h11 : x7 = 36) (h12 : x0 = x7 + x2) : 0 ≤ x0 := by omega
theorem o35_340 {x0 x1 x2 x3 x4 x5 x6 x7 : Int} (h0 : x1 = x2) (h1 : 0 ≤ x3) (h2 : x3 ≤ 1) (h3 : (x3 = 0 ∨ (0 ≤ x1 ∧ x1 ≤ 4))) (h4 : ¬ x3 = 0) (h5 : x4 = x5) (h6 : 0 ≤ x6) (h7 : x6 ≤ 1) (h8 : (x6 = 0 ∨ (0 ≤ x4 ∧ x4 ≤ 4))) (h9 : ¬ x6 = 0) (h10 : ¬ x2 = x5) (h11 : x7 = 36) (h12 : x0 = x7 + x2) : x0 < (5322 : Nat) := by omega
theorem o35_341 {x0 x1 x2 x3 x4 x5 x6 x7 : Int} (h0 : x1 = x2) (h1 : 0 ≤ x3) (h2 : x3 ≤ 1) (h3 : (x3 = 0 ∨ (0 ≤ x1 ∧ x1 ≤ 4))) (h4 : ¬ x3 = 0) (h5 : x4 = x5) (h6 : 0 ≤ x6) (h7 : x6 ≤ 1) (h8 : (x6 = 0 ∨ (0 ≤ x4 ∧ x4 ≤ 4))) (h9 : ¬ x6 = 0) (h10 : ¬ x2 = x5) (h11 : x7 = 36) (h12 : x0 = x7 + x2) : (x0).toNat < 41 := by omega
theorem o35_342 {x0 x1 x2 x3 x4 x5 x6 x7 : Int} (h0 : x1 = x2) (h1 : 0 ≤ x3) (h2 : x3 ≤ 1) (h3 : (x3 = 0 ∨ (0 ≤ x1 ∧ x1 ≤ 4))) (h4 : ¬ x3 = 0) (h5 : x4 = x5) (h6 : 0 ≤ x6) (h7 : x6 ≤ 1) (h8 : (x6 = 0 ∨ (0 ≤ x4 ∧ x4 ≤ 4))) (h9 : ¬ x6 = 0) (h10 : ¬ x2 = x5) (h11 : x7 = 36) (h12 : x0 = x7 + x2) : 36 ≤ (x0).toNat := by omega
theorem o35_343 {x0 x1 x2 x3 x4 x5 x6 x7 x8 : Int} (h0 : x2 = x3) (h1 : 0 ≤ x4) (h2 : x4 ≤ 1) (h3 : (x4 = 0 ∨ (0 ≤ x2 ∧ x2 ≤ 4))) (h4 : ¬ x4 = 0) (h5 : x5 = x1) (h6 : 0 ≤ x6) (h7 : x6 ≤ 1) (h8 : (x6 = 0 ∨ (0 ≤ x5 ∧ x5 ≤ 4))) (h9 : ¬ x6 = 0) (h10 : ¬ x3 = x1) (h11 : x7 = 36) (h12 : x8 = x7 + x3) (h13 : x0 = 36) (h14 : -2147483648 ≤ x0) (h15 : x0 ≤ 2147483647) (h16 : -2147483648 ≤ x1) (h17 : x1 ≤ 2147483647) (h18 : -2147483648 ≤ x3) (h19 : x3 ≤ 2147483647) (h20 : -2147483648 ≤ x4) (h21 : x4 ≤ 2147483647) (h22 : -2147483648 ≤ x6) (h23 : x6 ≤ 2147483647) (h24 : -2147483648 ≤ x7) (h25 : x7 ≤ 2147483647) (h26 : -2147483648 ≤ x8) (h27 : x8 ≤ 2147483647) : -2147483648 ≤ x0 + x1 := by omega
theorem o35_344 {x0 x1 x2 x3 x4 x5 x6 x7 x8 : Int} (h0 : x2 = x3) (h1 : 0 ≤ x4) (h2 : x4 ≤ 1) (h3 : (x4 = 0 ∨ (0 ≤ x2 ∧ x2 ≤ 4))) (h4 : ¬ x4 = 0) (h5 : x5 = x1) (h6 : 0 ≤ x6) (h7 : x6 ≤ 1) (h8 : (x6 = 0 ∨ (0 ≤ x5 ∧ x5 ≤ 4))) (h9 : ¬ x6 = 0) (h10 : ¬ x3 = x1) (h11 : x7 = 36) (h12 : x8 = x7 + x3) (h13 : x0 = 36) (h14 : -2147483648 ≤ x0) (h15 : x0 ≤ 2147483647) (h16 : -2147483648 ≤ x1) (h17 : x1 ≤ 2147483647) (h18 : -2147483648 ≤ x3) (h19 : x3 ≤ 2147483647) (h20 : -2147483648 ≤ x4) (h21 : x4 ≤ 2147483647) (h22 : -2147483648 ≤ x6) (h23 : x6 ≤ 2147483647) (h24 : -2147483648 ≤ x7) (h25 : x7 ≤ 2147483647) (h26 : -2147483648 ≤ x8) (h27 : x8 ≤ 2147483647) : x0 + x1 ≤ 2147483647 := by omega
theorem o35_345 {x0 x1 x2 x3 x4 x5 x6 x7 x8 x9 : Int} (h0 : x1 = x2) (h1 : 0 ≤ x3) (h2 : x3 ≤ 1) (h3 : (x3 = 0 ∨ (0 ≤ x1 ∧ x1 ≤ 4))) (h4 : ¬ x3 = 0) (h5 : x4 = x5) (h6 : 0 ≤ x6) (h7 : x6 ≤ 1) (h8 : (x6 = 0 ∨ (0 ≤ x4 ∧ x4 ≤ 4))) (h9 : ¬ x6 = 0) (h10 : ¬ x2 = x5) (h11 : x7 = 36) (h12 : x8 = x7 + x2) (h13 : x9 = 36) (h14 : x0 = x9 + x5) : 0 ≤ x0 := by omega
theorem o35_346 {x0 x1 x2 x3 x4 x5 x6 x7 x8 x9 : Int} (h0 : x1 = x2) (h1 : 0 ≤ x3) (h2 : x3 ≤ 1) (h3 : (x3 = 0 ∨ (0 ≤ x1 ∧ x1 ≤ 4))) (h4 : ¬ x3 = 0) (h5 : x4 = x5) (h6 : 0 ≤ x6) (h7 : x6 ≤ 1) (h8 : (x6 = 0 ∨ (0 ≤ x4 ∧ x4 ≤ 4))) (h9 : ¬ x6 = 0) (h10 : ¬ x2 = x5) (h11 : x7 = 36) (h12 : x8 = x7 + x2) (h13 : x9 = 36) (h14 : x0 = x9 + x5) : x0 < (5322 : Nat) := by omega
theorem o35_347 {x0 x1 x2 x3 x4 x5 x6 x7 x8 x9 : Int} (h0 : x1 = x2) (h1 : 0 ≤ x3) (h2 : x3 ≤ 1) (h3 : (x3 = 0 ∨ (0 ≤ x1 ∧ x1 ≤ 4))) (h4 : ¬ x3 = 0) (h5 : x4 = x5) (h6 : 0 ≤ x6) (h7 : x6 ≤ 1) (h8 : (x6 = 0 ∨ (0 ≤ x4 ∧ x4 ≤ 4))) (h9 : ¬ x6 = 0) (h10 : ¬ x2 = x5) (h11 : x7 = 36) (h12 : x8 = x7 + x2) (h13 : x9 = 36) (h14 : x0 = x9 + x5) : (x0).toNat < 41 := by omega
theorem o35_348 {x0 x1 x2 x3 x4 x5 x6 x7 x8 x9 : Int} (h0 : x1 = x2) (h1 : 0 ≤ x3) (h2 : x3 ≤ 1) (h3 : (x3 = 0 ∨ (0 ≤ x1 ∧ x1 ≤ 4))) (h4 : ¬ x3 = 0) (h5 : x4 = x5) (h6 : 0 ≤ x6) (h7 : x6 ≤ 1) (h8 : (x6 = 0 ∨ (0 ≤ x4 ∧ x4 ≤ 4))) (h9 : ¬ x6 = 0) (h10 : ¬ x2 = x5) (h11 : x7 = 36) (h12 : x8 = x7 + x2) (h13 : x9 = 36) (h14 : x0 = x9 + x5) : 36 ≤ (x0).toNat := by omega
theorem o35_349 {x0 : Int} (h0 : x0 = (-5)) : (-5) ≤ x0 := by omega
theorem o35_350 {x0 : Int} (h0 : x0 = (-5)) : x0 ≤ 99 := by omega
theorem o35_351 {x0 x1 x2 x3 x4 x5 x6 x7 x8 x9 x10 : Int} (h0 : x2 = x1) (h1 : 0 ≤ x3) (h2 : x3 ≤ 1) (h3 : (x3 = 0 ∨ (0 ≤ x2 ∧ x2 ≤ 4))) (h4 : ¬ x3 = 0) (h5 : x4 = x5) (h6 : 0 ≤ x6) (h7 : x6 ≤ 1) (h8 : (x6 = 0 ∨ (0 ≤ x4 ∧ x4 ≤ 4))) (h9 : ¬ x6 = 0) (h10 : ¬ x1 = x5) (h11 : x7 = 36) (h12 : x8 = x7 + x1) (h13 : x9 = 36) (h14 : x10 = x9 + x5) (h15 : x0 = 46) (h16 : -2147483648 ≤ x0) (h17 : x0 ≤ 2147483647) (h18 : -2147483648 ≤ x1) (h19 : x1 ≤ 2147483647) (h20 : -2147483648 ≤ x3) (h21 : x3 ≤ 2147483647) (h22 : -2147483648 ≤ x5) (h23 : x5 ≤ 2147483647) (h24 : -2147483648 ≤ x6) (h25 : x6 ≤ 2147483647) (h26 : -2147483648 ≤ x7) (h27 : x7 ≤ 2147483647) (h28 : -2147483648 ≤ x8) (h29 : x8 ≤ 2147483647) (h30 : -2147483648 ≤ x9) (h31 : x9 ≤ 2147483647) (h32 : -2147483648 ≤ x10) (h33 : x10 ≤ 2147483647) : -2147483648 ≤ x0 + x1 := by omega
theorem o35_352 {x0 x1 x2 x3 x4 x5 x6 x7 x8 x9 x10 : Int} (h0 : x2 = x1) (h1 : 0 ≤ x3) (h2 : x3 ≤ 1) (h3 : (x3 = 0 ∨ (0 ≤ x2 ∧ x2 ≤ 4))) (h4 : ¬ x3 = 0) (h5 : x4 = x5) (h6 : 0 ≤ x6) (h7 : x6 ≤ 1) (h8 : (x6 = 0 ∨ (0 ≤ x4 ∧ x4 ≤ 4))) (h9 : ¬ x6 = 0) (h10 : ¬ x1 = x5) (h11 : x7 = 36) (h12 : x8 = x7 + x1) (h13 : x9 = 36) (h14 : x10 = x9 + x5) (h15 : x0 = 46) (h16 : -2147483648 ≤ x0) (h17 : x0 ≤ 2147483647) (h18 : -2147483648 ≤ x1) (h19 : x1 ≤ 2147483647) (h20 : -2147483648 ≤ x3) (h21 : x3 ≤ 2147483647) (h22 : -2147483648 ≤ x5) (h23 : x5 ≤ 2147483647) (h24 : -2147483648 ≤ x6) (h25 : x6 ≤ 2147483647) (h26 : -2147483648 ≤ x7) (h27 : x7 ≤ 2147483647) (h28 : -2147483648 ≤ x8) (h29 : x8 ≤ 2147483647) (h30 : -2147483648 ≤ x9) (h31 : x9 ≤ 2147483647) (h32 : -2147483648 ≤ x10) (h33 : x10 ≤ 2147483647) : x0 + x1 ≤ 2147483647 := by omega
theorem o35_353 {x0 x1 x2 x3 x4 x5 x6 x7 x8 x9 x10 x11 : Int} (h0 : x1 = x2) (h1 : 0 ≤ x3) (h2 : x3 ≤ 1) (h3 : (x3 = 0 ∨ (0 ≤ x1 ∧ x1 ≤ 4))) (h4 : ¬ x3 = 0) (h5 : x4 = x5) (h6 : 0 ≤ x6) (h7 : x6 ≤ 1) (h8 : (x6 = 0 ∨ (0 ≤ x4 ∧ x4 ≤ 4))) (h9 : ¬ x6 = 0) (h10 : ¬ x2 = x5) (h11 : x7 = 36) (h12 : x8 = x7 + x2) (h13 : x9 = 36) (h14 : x10 = x9 + x5) (h15 : x11 = 46) (h16 : x0 = x11 + x2) : 0 ≤ x0 := by omega
theorem o35_354 {x0 x1 x2 x3 x4 x5 x6 x7 x8 x9 x10 x11 : Int} (h0 : x1 = x2) (h1 : 0 ≤ x3) (h2 : x3 ≤ 1) (h3 : (x3 = 0 ∨ (0 ≤ x1 ∧ x1 ≤ 4))) (h4 : ¬ x3 = 0) (h5 : x4 = x5) (h6 : 0 ≤ x6) (h7 : x6 ≤ 1) (h8 : (x6 = 0 ∨ (0 ≤ x4 ∧ x4 ≤ 4))) (h9 : ¬ x6 = 0) (h10 : ¬ x2 = x5) (h11 : x7 = 36) (h12 : x8 = x7 + x2) (h13 : x9 = 36) (h14 : x10 = x9 + x5) (h15 : x11 = 46) (h16 : x0 = x11 + x2) : x0 < (5322 : Nat) := by omega
theorem o35_355 {x0 x1 x2 x3 x4 x5 x6 x7 x8 x9 x10 x11 : Int} (h0 : x1 = x2) (h1 : 0 ≤ x3) (h2 : x3 ≤ 1) (h3 : (x3 = 0 ∨ (0 ≤ x1 ∧ x1 ≤ 4))) (h4 : ¬ x3 = 0) (h5 : x4 = x5) (h6 : 0 ≤ x6) (h7 : x6 ≤ 1) (h8 : (x6 = 0 ∨ (0 ≤ x4 ∧ x4 ≤ 4))) (h9 : ¬ x6 = 0) (h10 : ¬ x2 = x5) (h11 : x7 = 36) (h12 : x8 = x7 + x2) (h13 : x9 = 36) (h14 : x10 = x9 + x5) (h15 : x11 = 46) (h16 : x0 = x11 + x2) : (x0).toNat < 51 := by omega
theorem o35_356 {x0 x1 x2 x3 x4 x5 x6 x7 x8 x9 x10 x11 : Int} (h0 : x1 = x2) (h1 : 0 ≤ x3) (h2 : x3 ≤ 1) (h3 : (x3 = 0 ∨ (0 ≤ x1 ∧ x1 ≤ 4))) (h4 : ¬ x3 = 0) (h5 : x4 = x5) (h6 : 0 ≤ x6) (h7 : x6 ≤ 1) (h8 : (x6 = 0 ∨ (0 ≤ x4 ∧ x4 ≤ 4))) (h9 : ¬ x6 = 0) (h10 : ¬ x2 = x5) (h11 : x7 = 36) (h12 : x8 = x7 + x2) (h13 : x9 = 36) (h14 : x10 = x9 + x5) (h15 : x11 = 46) (h16 : x0 = x11 + x2) : 46 ≤ (x0).toNat := by omega
theorem o35_357 {x0 x1 x2 x3 x4 x5 x6 x7 x8 x9 x10 x11 x12 : Int} (h0 : x2 = x3) (h1 : 0 ≤ x4) (h2 : x4 ≤ 1) (h3 : (x4 = 0 ∨ (0 ≤ x2 ∧ x2 ≤ 4))) (h4 : ¬ x4 = 0) (h5 : x5 = x1) (h6 : 0 ≤ x6) (h7 : x6 ≤ 1) (h8 : (x6 = 0 ∨ (0 ≤ x5 ∧ x5 ≤ 4))) (h9 : ¬ x6 = 0) (h10 : ¬ x3 = x1) (h11 : x7 = 36) (h12 : x8 = x7 + x3) (h13 : x9 = 36) (h14 : x10 = x9 + x1) (h15 : x11 = 46) (h16 : x12 = x11 + x3) (h17 : x0 = 46) (h18 : -2147483648 ≤ x0) (h19 : x0 ≤ 2147483647) (h20 : -2147483648 ≤ x1) (h21 : x1 ≤ 2147483647) (h22 : -2147483648 ≤ x3) (h23 : x3 ≤ 2147483647) (h24 : -2147483648 ≤ x4) (h25 : x4 ≤ 2147483647) (h26 : -2147483648 ≤ x6) (h27 : x6 ≤ 2147483647) (h28 : -2147483648 ≤ x7) (h29 : x7 ≤ 2147483647) (h30 : -2147483648 ≤ x8) (h31 : x8 ≤ 2147483647) (h32 : -2147483648 ≤ x9) (h33 : x9 ≤ 2147483647) (h34 : -2147483648 ≤ x10) (h35 : x10 ≤ 2147483647) (h36 : -2147483648 ≤ x11) (h37 : x11 ≤ 2147483647) (h38 : -2147483648 ≤ x12) (h39 : x12 ≤ 2147483647) : -2147483648 ≤ x0 + x1 := by omega
theorem o35_358 {x0 x1 x2 x3 x4 x5 x6 x7 x8 x9 x10 x11 x12 : Int} (h0 : x2 = x3) (h1 : 0 ≤ x4) (h2 : x4 ≤ 1) (h3 : (x4 = 0 ∨ (0 ≤ x2 ∧ x2 ≤ 4))) (h4 : ¬ x4 = 0) (h5 : x5 = x1) (h6 : 0 ≤ x6) (h7 : x6 ≤ 1) (h8 : (x6 = 0 ∨ (0 ≤ x5 ∧ x5 ≤ 4))) (h9 : ¬ x6 = 0) (h10 : ¬ x3 = x1) (h11 : x7 = 36) (h12 : x8 = x7 + x3) (h13 : x9 = 36) (h14 : x10 = x9 + x1) (h15 : x11 = 46) (h16 : x12 = x11 + x3) (h17 : x0 = 46) (h18 : -2147483648 ≤ x0) (h19 : x0 ≤ 2147483647) (h20 : -2147483648 ≤ x1) (h21 : x1 ≤ 2147483647) (h22 : -2147483648 ≤ x3) (h23 : x3 ≤ 2147483647) (h24 : -2147483648 ≤ x4) (h25 : x4 ≤ 2147483647) (h26 : -2147483648 ≤ x6) (h27 : x6 ≤ 2147483647) (h28 : -2147483648 ≤ x7) (h29 : x7 ≤ 2147483647) (h30 : -2147483648 ≤ x8) (h31 : x8 ≤ 2147483647) (h32 : -2147483648 ≤ x9) (h33 : x9 ≤ 2147483647) (h34 : -2147483648 ≤ x10) (h35 : x10 ≤ 2147483647) (h36 : -2147483648 ≤ x11) (h37 : x11 ≤ 2147483647) (h38 : -2147483648 ≤ x12) (h39 : x12 ≤ 2147483647) : x0 + x1 ≤ 2147483647 := by omega
theorem o35_359 {x0 x1 x2 x3 x4 x5 x6 x7 x8 x9 x10 x11 x12 x13 : Int} (h0 : x1 = x2) (h1 : 0 ≤ x3) (h2 : x3 ≤ 1) (h3 : (x3 = 0 ∨ (0 ≤ x1 ∧ x1 ≤ 4))) (h4 : ¬ x3 = 0) (h5 : x4 = x5) (h6 : 0 ≤ x6) (h7 : x6 ≤ 1) (h8 : (x6 = 0 ∨ (0 ≤ x4 ∧ x4 ≤ 4))) (h9 : ¬ x6 = 0) (h10 : ¬ x2 = x5) (h11 : x7 = 36) (h12 : x8 = x7 + x2) (h13 : x9 = 36) (h14 : x10 = x9 + x5) (h15 : x11 = 46) (h16 : x12 = x11 + x2) (h17 : x13 = 46) (h18 : x0 = x13 + x5) : 0 ≤ x0 := by omega
theorem o35_360 {x0 x1 x2 x3 x4 x5 x6 x7 x8 x9 x10 x11 x12 x13 : Int} (h0 : x1 = x2) (h1 : 0 ≤ x3) (h2 : x3 ≤ 1) (h3 : (x3 = 0 ∨ (0 ≤ x1 ∧ x1 ≤ 4))) (h4 : ¬ x3 = 0) (h5 : x4 = x5) (h6 : 0 ≤ x6) (h7 : x6 ≤ 1) (h8 : (x6 = 0 ∨ (0 ≤ x4 ∧ x4 ≤ 4))) (h9 : ¬ x6 = 0) (h10 : ¬ x2 = x5) (h11 : x7 = 36) (h12 : x8 = x7 + x2) (h13 : x9 = 36) (h14 : x10 = x9 + x5) (h15 : x11 = 46) (h16 : x12 = x11 + x2) (h17 : x13 = 46) (h18 : x0 = x13 + x5) : x0 < (5322 : Nat) := by omega
theorem o35_361 {x0 x1 x2 x3 x4 x5 x6 x7 x8 x9 x10 x11 x12 x13 : Int} (h0 : x1 = x2) (h1 : 0 ≤ x3) (h2 : x3 ≤ 1) (h3 : (x3 = 0 ∨ (0 ≤ x1 ∧ x1 ≤ 4))) (h4 : ¬ x3 = 0) (h5 : x4 = x5) (h6 : 0 ≤ x6) (h7 : x6 ≤ 1) (h8 : (x6 = 0 ∨ (0 ≤ x4 ∧ x4 ≤ 4))) (h9 : ¬ x6 = 0) (h10 : ¬ x2 = x5) (h11 : x7 = 36) (h12 : x8 = x7 + x2) (h13 : x9 = 36) (h14 : x10 = x9 + x5) (h15 : x11 = 46) (h16 : x12 = x11 + x2) (h17 : x13 = 46) (h18 : x0 = x13 + x5) : (x0).toNat < 51 := by omega
theorem o35_362 {x0 x1 x2 x3 x4 x5 x6 x7 x8 x9 x10 x11 x12 x13 : Int} (h0 : x1 = x2) (h1 : 0 ≤ x3) (h2 : x3 ≤ 1) (h3 : (x3 = 0 ∨ (0 ≤ x1 ∧ x1 ≤ 4))) (h4 : ¬ x3 = 0) (h5 : x4 = x5) (h6 : 0 ≤ x6) (h7 : x6 ≤ 1) (h8 : (x6 = 0 ∨ (0 ≤ x4 ∧ x4 ≤ 4))) (h9 : ¬ x6 = 0) (h10 : ¬ x2 = x5) (h11 : x7 = 36) (h12 : x8 = x7 + x2) (h13 : x9 = 36) (h14 : x10 = x9 + x5) (h15 : x11 = 46) (h16 : x12 = x11 + x2) (h17 : x13 = 46) (h18 : x0 = x13 + x5) : 46 ≤ (x0).toNat := by omega
theorem o35_363 {x0 x1 x2 x3 x4 x5 x6 : Int} (h0 : x2 = x1) (h1 : x3 = 1) (h2 : x4 = 99) (h3 : 0 ≤ x5) (h4 : x5 ≤ 1) (h5 : ((x5 = 0 ∧ (x2 < x3 ∨ x4 < x2)) ∨ (x5 = 1 ∧ x3 ≤ x2 ∧ x2 ≤ x4))) (h6 : ¬ x5 = 0) (h7 : 0 ≤ x6) (h8 : x6 ≤ 99) (h9 : x1 ≤ x6) (h10 : 0 ≤ x0) (h11 : x0 ≤ 99) (h12 : -2147483648 ≤ x0) (h13 : x0 ≤ 2147483647) (h14 : -2147483648 ≤ x1) (h15 : x1 ≤ 2147483647) (h16 : -2147483648 ≤ x5) (h17 : x5 ≤ 2147483647) (h18 : -2147483648 ≤ x6) (h19 : x6 ≤ 2147483647) : -2147483648 ≤ x0 + x1 := by omega
theorem o35_364 {x0 x1 x2 x3 x4 x5 x6 : Int} (h0 : x2 = x1) (h1 : x3 = 1) (h2 : x4 = 99) (h3 : 0 ≤ x5) (h4 : x5 ≤ 1) (h5 : ((x5 = 0 ∧ (x2 < x3 ∨ x4 < x2)) ∨ (x5 = 1 ∧ x3 ≤ x2 ∧ x2 ≤ x4))) (h6 : ¬ x5 = 0) (h7 : 0 ≤ x6) (h8 : x6 ≤ 99) (h9 : x1 ≤ x6) (h10 : 0 ≤ x0) (h11 : x0 ≤ 99) (h12 : -2147483648 ≤ x0) (h13 : x0 ≤ 2147483647) (h14 : -2147483648 ≤ x1) (h15 : x1 ≤ 2147483647) (h16 : -2147483648 ≤ x5) (h17 : x5 ≤ 2147483647) (h18 : -2147483648 ≤ x6) (h19 : x6 ≤ 2147483647) : x0 + x1 ≤ 2147483647 := by omega
theorem o35_365 {x0 x1 x2 x3 x4 x5 x6 x7 x8 x9 x10 x11 x12 x13 x14 : Int} (h0 : x2 = x1) (h1 : 0 ≤ x3) (h2 : x3 ≤ 1) (h3 : (x3 = 0 ∨ (0 ≤ x2 ∧ x2 ≤ 4))) (h4 : ¬ x3 = 0) (h5 : x4 = x5) (h6 : 0 ≤ x6) (h7 : x6 ≤ 1) (h8 : (x6 = 0 ∨ (0 ≤ x4 ∧ x4 ≤ 4))) (h9 : ¬ x6 = 0) (h10 : ¬ x1 = x5) (h11 : x7 = 36) (h12 : x8 = x7 + x1) (h13 : x9 = 36) (h14 : x10 = x9 + x5) (h15 : x11 = 46) (h16 : x12 = x11 + x1) (h17 : x13 = 46) (h18 : x14 = x13 + x5) (h19 : x0 = 46) (h20 : -2147483648 ≤ x0) (h21 : x0 ≤ 2147483647) (h22 : -2147483648 ≤ x1) (h23 : x1 ≤ 2147483647) (h24 : -2147483648 ≤ x3) (h25 : x3 ≤ 2147483647) (h26 : -2147483648 ≤ x5) (h27 : x5 ≤ 2147483647) (h28 : -2147483648 ≤ x6) (h29 : x6 ≤ 2147483647) (h30 : -2147483648 ≤ x7) (h31 : x7 ≤ 2147483647) (h32 : -2147483648 ≤ x8) (h33 : x8 ≤ 2147483647) (h34 : -2147483648 ≤ x9) (h35 : x9 ≤ 2147483647) (h36 : -2147483648 ≤ x10) (h37 : x10 ≤ 2147483647) (h38 : -2147483648 ≤ x11) (h39 : x11 ≤ 2147483647) (h40 : -2147483648 ≤ x12) (h41 : x12 ≤ 2147483647) (h42 : -2147483648 ≤ x13) (h43 : x13 ≤ 2147483647) (h44 : -2147483648 ≤ x14) (h45 : x14 ≤ 2147483647) : -2147483648 ≤ x0 + x1 := by omega
theorem o35_366 {x0 x1 x2 x3 x4 x5 x6 x7 x8 x9 x10 x11 x12 x13 x14 : Int} (h0 : x2 = x1) (h1 : 0 ≤ x3) (h2 : x3 ≤ 1) (h3 : (x3 = 0 ∨ (0 ≤ x2 ∧ x2 ≤ 4))) (h4 : ¬ x3 = 0) (h5 : x4 = x5) (h6 : 0 ≤ x6) (h7 : x6 ≤ 1) (h8 : (x6 = 0 ∨ (0 ≤ x4 ∧ x4 ≤ 4))) (h9 : ¬ x6 = 0) (h10 : ¬ x1 = x5) (h11 : x7 = 36) (h12 : x8 = x7 + x1) (h13 : x9 = 36) (h14 : x10 = x9 + x5) (h15 : x11 = 46) (h16 : x12 = x11 + x1) (h17 : x13 = 46) (h18 : x14 = x13 + x5) (h19 : x0 = 46) (h20 : -2147483648 ≤ x0) (h21 : x0 ≤ 2147483647) (h22 : -2147483648 ≤ x1) (h23 : x1 ≤ 2147483647) (h24 : -2147483648 ≤ x3) (h25 : x3 ≤ 2147483647) (h26 : -2147483648 ≤ x5) (h27 : x5 ≤ 2147483647) (h28 : -2147483648 ≤ x6) (h29 : x6 ≤ 2147483647) (h30 : -2147483648 ≤ x7) (h31 : x7 ≤ 2147483647) (h32 : -2147483648 ≤ x8) (h33 : x8 ≤ 2147483647) (h34 : -2147483648 ≤ x9) (h35 : x9 ≤ 2147483647) (h36 : -2147483648 ≤ x10) (h37 : x10 ≤ 2147483647) (h38 : -2147483648 ≤ x11) (h39 : x11 ≤ 2147483647) (h40 : -2147483648 ≤ x12) (h41 : x12 ≤ 2147483647) (h42 : -2147483648 ≤ x13) (h43 : x13 ≤ 2147483647) (h44 : -2147483648 ≤ x14) (h45 : x14 ≤ 2147483647) : x0 + x1 ≤ 2147483647 := by omega
theorem o35_367 {x0 x1 x2 x3 x4 x5 x6 x7 x8 x9 x10 x11 x12 x13 x14 x15 : Int} (h0 : x1 = x2) (h1 : 0 ≤ x3) (h2 : x3 ≤ 1) (h3 : (x3 = 0 ∨ (0 ≤ x1 ∧ x1 ≤ 4))) (h4 : ¬ x3 = 0) (h5 : x4 = x5) (h6 : 0 ≤ x6) (h7 : x6 ≤ 1) (h8 : (x6 = 0 ∨ (0 ≤ x4 ∧ x4 ≤ 4))) (h9 : ¬ x6 = 0) (h10 : ¬ x2 = x5) (h11 : x7 = 36) (h12 : x8 = x7 + x2) (h13 : x9 = 36) (h14 : x10 = x9 + x5) (h15 : x11 = 46) (h16 : x12 = x11 + x2) (h17 : x13 = 46) (h18 : x14 = x13 + x5) (h19 : x15 = 46) (h20 : x0 = x15 + x2) : 0 ≤ x0 := by omega
theorem o35_368 {x0 x1 x2 x3 x4 x5 x6 x7 x8 x9 x10 x11 x12 x13 x14 x15 : Int} (h0 : x1 = x2) (h1 : 0 ≤ x3) (h2 : x3 ≤ 1) (h3 : (x3 = 0 ∨ (0 ≤ x1 ∧ x1 ≤ 4))) (h4 : ¬ x3 = 0) (h5 : x4 = x5) (h6 : 0 ≤ x6) (h7 : x6 ≤ 1) (h8 : (x6 = 0 ∨ (0 ≤ x4 ∧ x4 ≤ 4))) (h9 : ¬ x6 = 0) (h10 : ¬ x2 = x5) (h11 : x7 = 36) (h12 : x8 = x7 + x2) (h13 : x9 = 36) (h14 : x10 = x9 + x5) (h15 : x11 = 46) (h16 : x12 = x11 + x2) (h17 : x13 = 46) (h18 : x14 = x13 + x5) (h19 : x15 = 46) (h20 : x0 = x15 + x2) : x0 < (5322 : Nat) := by omega
theorem o35_369 {x0 x1 x2 x3 x4 x5 x6 x7 x8 x9 x10 x11 x12 x13 x14 x15 : Int} (h0 : x1 = x2) (h1 : 0 ≤ x3) (h2 : x3 ≤ 1) (h3 : (x3 = 0 ∨ (0 ≤ x1 ∧ x1 ≤ 4))) (h4 : ¬ x3 = 0) (h5 : x4 = x5) (h6 : 0 ≤ x6) (h7 : x6 ≤ 1) (h8 : (x6 = 0 ∨ (0 ≤ x4 ∧ x4 ≤ 4))) (h9 : ¬ x6 = 0) (h10 : ¬ x2 = x5) (h11 : x7 = 36) (h12 : x8 = x7 + x2) (h13 : x9 = 36) (h14 : x10 = x9 + x5) (h15 : x11 = 46) (h16 : x12 = x11 + x2) (h17 : x13 = 46) (h18 : x14 = x13 + x5) (h19 : x15 = 46) (h20 : x0 = x15 + x2) : (x0).toNat < 51 := by omega
theorem o35_370 {x0 x1 x2 x3 x4 x5 x6 x7 x8 x9 x10 x11 x12 x13 x14 x15 : Int} (h0 : x1 = x2) (h1 : 0 ≤ x3) (h2 : x3 ≤ 1) (h3 : (x3 = 0 ∨ (0 ≤ x1 ∧ x1 ≤ 4))) (h4 : ¬ x3 = 0) (h5 : x4 = x5) (h6 : 0 ≤ x6) (h7 : x6 ≤ 1) (h8 : (x6 = 0 ∨ (0 ≤ x4 ∧ x4 ≤ 4))) (h9 : ¬ x6 = 0) (h10 : ¬ x2 = x5) (h11 : x7 = 36) (h12 : x8 = x7 + x2) (h13 : x9 = 36) (h14 : x10 = x9 + x5) (h15 : x11 = 46) (h16 : x12 = x11 + x2) (h17 : x13 = 46) (h18 : x14 = x13 + x5) (h19 : x15 = 46) (h20 : x0 = x15 + x2) : 46 ≤ (x0).toNat := by omega
theorem o35_371 {x0 x1 x2 x3 x4 x5 x6 x7 x8 x9 x10 x11 x12 x13 x14 x15 : Int} (h0 : x2 = x3) (h1 : 0 ≤ x4) (h2 : x4 ≤ 1) (h3 : (x4 = 0 ∨ (0 ≤ x2 ∧ x2 ≤ 4))) (h4 : ¬ x4 = 0) (h5 : x5 = x6) (h6 : 0 ≤ x7) (h7 : x7 ≤ 1) (h8 : (x7 = 0 ∨ (0 ≤ x5 ∧ x5 ≤ 4))) (h9 : ¬ x7 = 0) (h10 : ¬ x3 = x6) (h11 : x8 = 36) (h12 : x9 = x8 + x3) (h13 : x10 = 36) (h14 : x11 = x10 + x6) (h15 : x12 = 46) (h16 : x1 = x12 + x3) (h17 : x13 = 46) (h18 : x14 = x13 + x6) (h19 : x15 = 46) (h20 : x0 = x15 + x3) : (x0).toNat = (x1).toNat := by omega
theorem o35_372 {x0 x1 x2 x3 x4 x5 x6 x7 x8 x9 : Int} (h0 : x2 = x1) (h1 : x3 = 1) (h2 : x4 = 99) (h3 : 0 ≤ x5) (h4 : x5 ≤ 1) (h5 : ((x5 = 0 ∧ (x2 < x3 ∨ x4 < x2)) ∨ (x5 = 1 ∧ x3 ≤ x2 ∧ x2 ≤ x4))) (h6 : ¬ x5 = 0) (h7 : 0 ≤ x6) (h8 : x6 ≤ 99) (h9 : x1 ≤ x6) (h10 : 0 ≤ x7) (h11 : x7 ≤ 99) (h12 : x8 = x7 + x1) (h13 : x9 = 99) (h14 : x8 ≤ x9) (h15 : 0 ≤ x0) (h16 : x0 ≤ 99) (h17 : x0 = x6) (h18 : -2147483648 ≤ x0) (h19 : x0 ≤ 2147483647) (h20 : -2147483648 ≤ x1) (h21 : x1 ≤ 2147483647) (h22 : -2147483648 ≤ x5) (h23 : x5 ≤ 2147483647) (h24 : -2147483648 ≤ x6) (h25 : x6 ≤ 2147483647) (h26 : -2147483648 ≤ x7) (h27 : x7 ≤ 2147483647) (h28 : -2147483648 ≤ x8) (h29 : x8 ≤ 2147483647) (h30 : -2147483648 ≤ x9) (h31 : x9 ≤ 2147483647) : -2147483648 ≤ x0 - x1 := by omega
theorem o35_373 {x0 x1 x2 x3 x4 x5 x6 x7 x8 x9 : Int} (h0 : x2 = x1) (h1 : x3 = 1) (h2 : x4 = 99) (h3 : 0 ≤ x5) (h4 : x5 ≤ 1) (h5 : ((x5 = 0 ∧ (x2 < x3 ∨ x4 < x2)) ∨ (x5 = 1 ∧ x3 ≤ x2 ∧ x2 ≤ x4))) (h6 : ¬ x5 = 0) (h7 : 0 ≤ x6) (h8 : x6 ≤ 99) (h9 : x1 ≤ x6) (h10 : 0 ≤ x7) (h11 : x7 ≤ 99) (h12 : x8 = x7 + x1) (h13 : x9 = 99) (h14 : x8 ≤ x9) (h15 : 0 ≤ x0) (h16 : x0 ≤ 99) (h17 : x0 = x6) (h18 : -2147483648 ≤ x0) (h19 : x0 ≤ 2147483647) (h20 : -2147483648 ≤ x1) (h21 : x1 ≤ 2147483647) (h22 : -2147483648 ≤ x5) (h23 : x5 ≤ 2147483647) (h24 : -2147483648 ≤ x6) (h25 : x6 ≤ 2147483647) (h26 : -2147483648 ≤ x7) (h27 : x7 ≤ 2147483647) (h28 : -2147483648 ≤ x8) (h29 : x8 ≤ 2147483647) (h30 : -2147483648 ≤ x9) (h31 : x9 ≤ 2147483647) : x0 - x1 ≤ 2147483647 := by omega
theorem o35_374 {x0 x1 x2 x3 x4 x5 x6 x7 x8 x9 x10 : Int} (h0 : x1 = x2) (h1 : x3 = 1) (h2 : x4 = 99) (h3 : 0 ≤ x5) (h4 : x5 ≤ 1) (h5 : ((x5 = 0 ∧ (x1 < x3 ∨ x4 < x1)) ∨ (x5 = 1 ∧ x3 ≤ x1 ∧ x1 ≤ x4))) (h6 : ¬ x5 = 0) (h7 : 0 ≤ x6) (h8 : x6 ≤ 99) (h9 : x2 ≤ x6) (h10 : 0 ≤ x7) (h11 : x7 ≤ 99) (h12 : x8 = x7 + x2) (h13 : x9 = 99) (h14 : x8 ≤ x9) (h15 : 0 ≤ x10) (h16 : x10 ≤ 99) (h17 : x10 = x6) (h18 : x0 = x10 - x2) : 0 ≤ x0 := by omega
theorem o35_375 {x0 x1 x2 x3 x4 x5 x6 x7 x8 x9 x10 : Int} (h0 : x1 = x2) (h1 : x3 = 1) (h2 : x4 = 99) (h3 : 0 ≤ x5) (h4 : x5 ≤ 1) (h5 : ((x5 = 0 ∧ (x1 < x3 ∨ x4 < x1)) ∨ (x5 = 1 ∧ x3 ≤ x1 ∧ x1 ≤ x4))) (h6 : ¬ x5 = 0) (h7 : 0 ≤ x6) (h8 : x6 ≤ 99) (h9 : x2 ≤ x6) (h10 : 0 ≤ x7) (h11 : x7 ≤ 99) (h12 : x8 = x7 + x2) (h13 : x9 = 99) (h14 : x8 ≤ x9) (h15 : 0 ≤ x10) (h16 : x10 ≤ 99) (h17 : x10 = x6) (h18 : x0 = x10 - x2) : x0 ≤ 99 := by omega
theorem o35_376 {x0 x1 x2 x3 x4 x5 x6 x7 x8 x9 x10 x11 x12 x13 x14 x15 : Int} (h0 : x1 = x2) (h1 : 0 ≤ x3) (h2 : x3 ≤ 1) (h3 : (x3 = 0 ∨ (0 ≤ x1 ∧ x1 ≤ 4))) (h4 : ¬ x3 = 0) (h5 : x4 = x5) (h6 : 0 ≤ x6) (h7 : x6 ≤ 1) (h8 : (x6 = 0 ∨ (0 ≤ x4 ∧ x4 ≤ 4))) (h9 : ¬ x6 = 0) (h10 : ¬ x2 = x5) (h11 : x7 = 36) (h12 : x8 = x7 + x2) (h13 : x9 = 36) (h14 : x10 = x9 + x5) (h15 : x11 = 46) (h16 : x12 = x11 + x2) (h17 : x13 = 46) (h18 : x14 = x13 + x5) (h19 : x15 = 46) (h20 : x0 = x15 + x2) : (36 ≤ x0 ∨ x0 = 10) := by omega
theorem o35_377 {x0 x1 x2 x3 x4 x5 x6 x7 x8 x9 x10 x11 x12 x13 x14 x15 : Int} (h0 : x1 = x2) (h1 : 0 ≤ x3) (h2 : x3 ≤ 1) (h3 : (x3 = 0 ∨ (0 ≤ x1 ∧ x1 ≤ 4))) (h4 : ¬ x3 = 0) (h5 : x4 = x5) (h6 : 0 ≤ x6) (h7 : x6 ≤ 1) (h8 : (x6 = 0 ∨ (0 ≤ x4 ∧ x4 ≤ 4))) (h9 : ¬ x6 = 0) (h10 : ¬ x2 = x5) (h11 : x7 = 36) (h12 : x8 = x7 + x2) (h13 : x9 = 36) (h14 : x10 = x9 + x5) (h15 : x11 = 46) (h16 : x12 = x11 + x2) (h17 : x13 = 46) (h18 : x14 = x13 + x5) (h19 : x15 = 46) (h20 : x0 = x15 + x2) : 10 ≤ x0 := by omega
theorem o35_378 {x0 x1 x2 x3 x4 x5 x6 x7 x8 x9 x10 x11 x12 x13 x14 x15 : Int} (h0 : x1 = x2) (h1 : 0 ≤ x3) (h2 : x3 ≤ 1) (h3 : (x3 = 0 ∨ (0 ≤ x1 ∧ x1 ≤ 4))) (h4 : ¬ x3 = 0) (h5 : x4 = x5) (h6 : 0 ≤ x6) (h7 : x6 ≤ 1) (h8 : (x6 = 0 ∨ (0 ≤ x4 ∧ x4 ≤ 4))) (h9 : ¬ x6 = 0) (h10 : ¬ x2 = x5) (h11 : x7 = 36) (h12 : x8 = x7 + x2) (h13 : x9 = 36) (h14 : x10 = x9 + x5) (h15 : x11 = 46) (h16 : x12 = x11 + x2) (h17 : x13 = 46) (h18 : x14 = x13 + x5) (h19 : x15 = 46) (h20 : x0 = x15 + x2) : x0 ≤ 872 := by omega
theorem o35_379 {x0 x1 x2 x3 x4 x5 x6 x7 x8 x9 x10 x11 x12 x13 x14 x15 x16 : Int} (h0 : x2 = x3) (h1 : 0 ≤ x4) (h2 : x4 ≤ 1) (h3 : (x4 = 0 ∨ (0 ≤ x2 ∧ x2 ≤ 4))) (h4 : ¬ x4 = 0) (h5 : x5 = x1) (h6 : 0 ≤ x6) (h7 : x6 ≤ 1) (h8 : (x6 = 0 ∨ (0 ≤ x5 ∧ x5 ≤ 4))) (h9 : ¬ x6 = 0) (h10 : ¬ x3 = x1) (h11 : x7 = 36) (h12 : x8 = x7 + x3) (h13 : x9 = 36) (h14 : x10 = x9 + x1) (h15 : x11 = 46) (h16 : x12 = x11 + x3) (h17 : x13 = 46) (h18 : x14 = x13 + x1) (h19 : x15 = 46) (h20 : x16 = x15 + x3) (h21 : x0 = 46) (h22 : -2147483648 ≤ x0) (h23 : x0 ≤ 2147483647) (h24 : -2147483648 ≤ x1) (h25 : x1 ≤ 2147483647) (h26 : -2147483648 ≤ x3) (h27 : x3 ≤ 2147483647) (h28 : -2147483648 ≤ x4) (h29 : x4 ≤ 2147483647) (h30 : -2147483648 ≤ x6) (h31 : x6 ≤ 2147483647) (h32 : -2147483648 ≤ x7) (h33 : x7 ≤ 2147483647) (h34 : -2147483648 ≤ x8) (h35 : x8 ≤ 2147483647) (h36 : -2147483648 ≤ x9) (h37 : x9 ≤ 2147483647) (h38 : -2147483648 ≤ x10) (h39 : x10 ≤ 2147483647) (h40 : -2147483648 ≤ x11) (h41 : x11 ≤ 2147483647) (h42 : -2147483648 ≤ x12) (h43 : x12 ≤ 2147483647) (h44 : -2147483648 ≤ x13) (h45 : x13 ≤ 2147483647) (h46 : -2147483648 ≤ x14) (h47 : x14 ≤ 2147483647) (h48 : -2147483648 ≤ x15) (h49 : x15 ≤ 2147483647) (h50 : -2147483648 ≤ x16) (h51 : x16 ≤ 2147483647) : -2147483648 ≤ x0 + x1 := by omega
theorem o35_380 {x0 x1 x2 x3 x4 x5 x6 x7 x8 x9 x10 x11 x12 x13 x14 x15 x16 : Int} (h0 : x2 = x3) (h1 : 0 ≤ x4) (h2 : x4 ≤ 1) (h3 : (x4 = 0 ∨ (0 ≤ x2 ∧ x2 ≤ 4))) (h4 : ¬ x4 = 0) (h5 : x5 = x1) (h6 : 0 ≤ x6) (h7 : x6 ≤ 1) (h8 : (x6 = 0 ∨ (0 ≤ x5 ∧ x5 ≤ 4))) (h9 : ¬ x6 = 0) (h10 : ¬ x3 = x1) (h11 : x7 = 36) (h12 : x8 = x7 + x3) (h13 : x9 = 36) (h14 : x10 = x9 + x1) (h15 : x11 = 46) (h16 : x12 = x11 + x3) (h17 : x13 = 46) (h18 : x14 = x13 + x1) (h19 : x15 = 46) (h20 : x16 = x15 + x3) (h21 : x0 = 46) (h22 : -2147483648 ≤ x0) (h23 : x0 ≤ 2147483647) (h24 : -2147483648 ≤ x1) (h25 : x1 ≤ 2147483647) (h26 : -2147483648 ≤ x3) (h27 : x3 ≤ 2147483647) (h28 : -2147483648 ≤ x4) (h29 : x4 ≤ 2147483647) (h30 : -2147483648 ≤ x6) (h31 : x6 ≤ 2147483647) (h32 : -2147483648 ≤ x7) (h33 : x7 ≤ 2147483647) (h34 : -2147483648 ≤ x8) (h35 : x8 ≤ 2147483647) (h36 : -2147483648 ≤ x9) (h37 : x9 ≤ 2147483647) (h38 : -2147483648 ≤ x10) (h39 : x10 ≤ 2147483647) (h40 : -2147483648 ≤ x11) (h41 : x11 ≤ 2147483647) (h42 : -2147483648 ≤ x12) (h43 : x12 ≤ 2147483647) (h44 : -2147483648 ≤ x13) (h45 : x13 ≤ 2147483647) (h46 : -2147483648 ≤ x14) (h47 : x14 ≤ 2147483647) (h48 : -2147483648 ≤ x15) (h49 : x15 ≤ 2147483647) (h50 : -2147483648 ≤ x16) (h51 : x16 ≤ 2147483647) : x0 + x1 ≤ 2147483647 := by omega
theorem o35_381 {x0 x1 x2 x3 x4 x5 x6 x7 x8 x9 x10 x11 x12 x13 x14 x15 x16 x17 : Int} (h0 : x1 = x2) (h1 : 0 ≤ x3) (h2 : x3 ≤ 1) (h3 : (x3 = 0 ∨ (0 ≤ x1 ∧ x1 ≤ 4))) (h4 : ¬ x3 = 0) (h5 : x4 = x5) (h6 : 0 ≤ x6) (h7 : x6 ≤ 1) (h8 : (x6 = 0 ∨ (0 ≤ x4 ∧ x4 ≤ 4))) (h9 : ¬ x6 = 0) (h10 : ¬ x2 = x5) (h11 : x7 = 36) (h12 : x8 = x7 + x2) (h13 : x9 = 36) (h14 : x10 = x9 + x5) (h15 : x11 = 46) (h16 : x12 = x11 + x2) (h17 : x13 = 46) (h18 : x14 = x13 + x5) (h19 : x15 = 46) (h20 : x16 = x15 + x2) (h21 : x17 = 46) (h22 : x0 = x17 + x5) : 0 ≤ x0 := by omega
theorem o35_382 {x0 x1 x2 x3 x4 x5 x6 x7 x8 x9 x10 x11 x12 x13 x14 x15 x16 x17 : Int} (h0 : x1 = x2) (h1 : 0 ≤ x3) (h2 : x3 ≤ 1) (h3 : (x3 = 0 ∨ (0 ≤ x1 ∧ x1 ≤ 4))) (h4 : ¬ x3 = 0) (h5 : x4 = x5) (h6 : 0 ≤ x6) (h7 : x6 ≤ 1) (h8 : (x6 = 0 ∨ (0 ≤ x4 ∧ x4 ≤ 4))) (h9 : ¬ x6 = 0) (h10 : ¬ x2 = x5) (h11 : x7 = 36) (h12 : x8 = x7 + x2) (h13 : x9 = 36) (h14 : x10 = x9 + x5) (h15 : x11 = 46) (h16 : x12 = x11 + x2) (h17 : x13 = 46) (h18 : x14 = x13 + x5) (h19 : x15 = 46) (h20 : x16 = x15 + x2) (h21 : x17 = 46) (h22 : x0 = x17 + x5) : x0 < (5322 : Nat) := by omega
theorem o35_383 {x0 x1 x2 x3 x4 x5 x6 x7 x8 x9 x10 x11 x12 x13 x14 x15 x16 x17 : Int} (h0 : x1 = x2) (h1 : 0 ≤ x3) (h2 : x3 ≤ 1) (h3 : (x3 = 0 ∨ (0 ≤ x1 ∧ x1 ≤ 4))) (h4 : ¬ x3 = 0) (h5 : x4 = x5) (h6 : 0 ≤ x6) (h7 : x6 ≤ 1) (h8 : (x6 = 0 ∨ (0 ≤ x4 ∧ x4 ≤ 4))) (h9 : ¬ x6 = 0) (h10 : ¬ x2 = x5) (h11 : x7 = 36) (h12 : x8 = x7 + x2) (h13 : x9 = 36) (h14 : x10 = x9 + x5) (h15 : x11 = 46) (h16 : x12 = x11 + x2) (h17 : x13 = 46) (h18 : x14 = x13 + x5) (h19 : x15 = 46) (h20 : x16 = x15 + x2) (h21 : x17 = 46) (h22 : x0 = x17 + x5) : (x0).toNat < 51 := by omega
theorem o35_384 {x0 x1 x2 x3 x4 x5 x6 x7 x8 x9 x10 x11 x12 x13 x14 x15 x16 x17 : Int} (h0 : x1 = x2) (h1 : 0 ≤ x3) (h2 : x3 ≤ 1) (h3 : (x3 = 0 ∨ (0 ≤ x1 ∧ x1 ≤ 4))) (h4 : ¬ x3 = 0) (h5 : x4 = x5) (h6 : 0 ≤ x6) (h7 : x6 ≤ 1) (h8 : (x6 = 0 ∨ (0 ≤ x4 ∧ x4 ≤ 4))) (h9 : ¬ x6 = 0) (h10 : ¬ x2 = x5) (h11 : x7 = 36) (h12 : x8 = x7 + x2) (h13 : x9 = 36) (h14 : x10 = x9 + x5) (h15 : x11 = 46) (h16 : x12 = x11 + x2) (h17 : x13 = 46) (h18 : x14 = x13 + x5) (h19 : x15 = 46) (h20 : x16 = x15 + x2) (h21 : x17 = 46) (h22 : x0 = x17 + x5) : 46 ≤ (x0).toNat := by omega
theorem o35_385 {x0 x1 x2 x3 x4 x5 x6 x7 x8 x9 x10 x11 x12 x13 x14 x15 x16 x17 : Int} (h0 : x2 = x3) (h1 : 0 ≤ x4) (h2 : x4 ≤ 1) (h3 : (x4 = 0 ∨ (0 ≤ x2 ∧ x2 ≤ 4))) (h4 : ¬ x4 = 0) (h5 : x5 = x6) (h6 : 0 ≤ x7) (h7 : x7 ≤ 1) (h8 : (x7 = 0 ∨ (0 ≤ x5 ∧ x5 ≤ 4))) (h9 : ¬ x7 = 0) (h10 : ¬ x3 = x6) (h11 : x8 = 36) (h12 : x9 = x8 + x3) (h13 : x10 = 36) (h14 : x11 = x10 + x6) (h15 : x12 = 46) (h16 : x13 = x12 + x3) (h17 : x14 = 46) (h18 : x0 = x14 + x6) (h19 : x15 = 46) (h20 : x1 = x15 + x3) (h21 : x16 = 46) (h22 : x17 = x16 + x6) : (x0).toNat ≠ (x1).toNat := by omega
theorem o35_386 {x0 x1 x2 x3 x4 x5 x6 x7 x8 x9 x10 x11 x12 x13 x14 x15 x16 x17 : Int} (h0 : x2 = x3) (h1 : 0 ≤ x4) (h2 : x4 ≤ 1) (h3 : (x4 = 0 ∨ (0 ≤ x2 ∧ x2 ≤ 4))) (h4 : ¬ x4 = 0) (h5 : x5 = x6) (h6 : 0 ≤ x7) (h7 : x7 ≤ 1) (h8 : (x7 = 0 ∨ (0 ≤ x5 ∧ x5 ≤ 4))) (h9 : ¬ x7 = 0) (h10 : ¬ x3 = x6) (h11 : x8 = 36) (h12 : x9 = x8 + x3) (h13 : x10 = 36) (h14 : x11 = x10 + x6) (h15 : x12 = 46) (h16 : x13 = x12 + x3) (h17 : x14 = 46) (h18 : x1 = x14 + x6) (h19 : x15 = 46) (h20 : x16 = x15 + x3) (h21 : x17 = 46) (h22 : x0 = x17 + x6) : (x0).toNat = (x1).toNat := by omega
theorem o35_387 {x0 x1 x2 x3 x4 x5 x6 x7 x8 x9 x10 x11 : Int} (h0 : x2 = x1) (h1 : x3 = 1) (h2 : x4 = 99) (h3 : 0 ≤ x5) (h4 : x5 ≤ 1) (h5 : ((x5 = 0 ∧ (x2 < x3 ∨ x4 < x2)) ∨ (x5 = 1 ∧ x3 ≤ x2 ∧ x2 ≤ x4))) (h6 : ¬ x5 = 0) (h7 : 0 ≤ x6) (h8 : x6 ≤ 99) (h9 : x1 ≤ x6) (h10 : 0 ≤ x7) (h11 : x7 ≤ 99) (h12 : x8 = x7 + x1) (h13 : x9 = 99) (h14 : x8 ≤ x9) (h15 : 0 ≤ x10) (h16 : x10 ≤ 99) (h17 : x10 = x6) (h18 : x11 = x10 - x1) (h19 : 0 ≤ x0) (h20 : x0 ≤ 99) (h21 : x0 = x7) (h22 : -2147483648 ≤ x0) (h23 : x0 ≤ 2147483647) (h24 : -2147483648 ≤ x1) (h25 : x1 ≤ 2147483647) (h26 : -2147483648 ≤ x5) (h27 : x5 ≤ 2147483647) (h28 : -2147483648 ≤ x6) (h29 : x6 ≤ 2147483647) (h30 : -2147483648 ≤ x7) (h31 : x7 ≤ 2147483647) (h32 : -2147483648 ≤ x8) (h33 : x8 ≤ 2147483647) (h34 : -2147483648 ≤ x9) (h35 : x9 ≤ 2147483647) (h36 : -2147483648 ≤ x10) (h37 : x10 ≤ 2147483647) (h38 : -2147483648 ≤ x11) (h39 : x11 ≤ 2147483647) : -2147483648 ≤ x0 + x1 := by omega
theorem o35_388 {x0 x1 x2 x3 x4 x5 x6 x7 x8 x9 x10 x11 : Int} (h0 : x2 = x1) (h1 : x3 = 1) (h2 : x4 = 99) (h3 : 0 ≤ x5) (h4 : x5 ≤ 1) (h5 : ((x5 = 0 ∧ (x2 < x3 ∨ x4 < x2)) ∨ (x5 = 1 ∧ x3 ≤ x2 ∧ x2 ≤ x4))) (h6 : ¬ x5 = 0) (h7 : 0 ≤ x6) (h8 : x6 ≤ 99) (h9 : x1 ≤ x6) (h10 : 0 ≤ x7) (h11 : x7 ≤ 99) (h12 : x8 = x7 + x1) (h13 : x9 = 99) (h14 : x8 ≤ x9) (h15 : 0 ≤ x10) (h16 : x10 ≤ 99) (h17 : x10 = x6) (h18 : x11 = x10 - x1) (h19 : 0 ≤ x0) (h20 : x0 ≤ 99) (h21 : x0 = x7) (h22 : -2147483648 ≤ x0) (h23 : x0 ≤ 2147483647) (h24 : -2147483648 ≤ x1) (h25 : x1 ≤ 2147483647) (h26 : -2147483648 ≤ x5) (h27 : x5 ≤ 2147483647) (h28 : -2147483648 ≤ x6) (h29 : x6 ≤ 2147483647) (h30 : -2147483648 ≤ x7) (h31 : x7 ≤ 2147483647) (h32 : -2147483648 ≤ x8) (h33 : x8 ≤ 2147483647) (h34 : -2147483648 ≤ x9) (h35 : x9 ≤ 2147483647) (h36 : -2147483648 ≤ x10) (h37 : x10 ≤ 2147483647) (h38 : -2147483648 ≤ x11) (h39 : x11 ≤ 2147483647) : x0 + x1 ≤ 2147483647 := by omega
theorem o35_389 {x0 x1 x2 x3 x4 x5 x6 x7 x8 x9 x10 x11 x12 : Int} (h0 : x1 = x2) (h1 : x3 = 1) (h2 : x4 = 99) (h3 : 0 ≤ x5) (h4 : x5 ≤ 1) (h5 : ((x5 = 0 ∧ (x1 < x3 ∨ x4 < x1)) ∨ (x5 = 1 ∧ x3 ≤ x1 ∧ x1 ≤ x4))) (h6 : ¬ x5 = 0) (h7 : 0 ≤ x6) (h8 : x6 ≤ 99) (h9 : x2 ≤ x6) (h10 : 0 ≤ x7) (h11 : x7 ≤ 99) (h12 : x8 = x7 + x2) (h13 : x9 = 99) (h14 : x8 ≤ x9) (h15 : 0 ≤ x10) (h16 : x10 ≤ 99) (h17 : x10 = x6) (h18 : x11 = x10 - x2) (h19 : 0 ≤ x12) (h20 : x12 ≤ 99) (h21 : x12 = x7) (h22 : x0 = x12 + x2) : 0 ≤ x0 := by omega
theorem o35_390 {x0 x1 x2 x3 x4 x5 x6 x7 x8 x9 x10 x11 x12 : Int} (h0 : x1 = x2) (h1 : x3 = 1) (h2 : x4 = 99) (h3 : 0 ≤ x5) (h4 : x5 ≤ 1) (h5 : ((x5 = 0 ∧ (x1 < x3 ∨ x4 < x1)) ∨ (x5 = 1 ∧ x3 ≤ x1 ∧ x1 ≤ x4))) (h6 : ¬ x5 = 0) (h7 : 0 ≤ x6) (h8 : x6 ≤ 99) (h9 : x2 ≤ x6) (h10 : 0 ≤ x7) (h11 : x7 ≤ 99) (h12 : x8 = x7 + x2) (h13 : x9 = 99) (h14 : x8 ≤ x9) (h15 : 0 ≤ x10) (h16 : x10 ≤ 99) (h17 : x10 = x6) (h18 : x11 = x10 - x2) (h19 : 0 ≤ x12) (h20 : x12 ≤ 99) (h21 : x12 = x7) (h22 : x0 = x12 + x2) : x0 ≤ 99 := by omega
theorem o35_391 {x0 x1 x2 x3 x4 x5 x6 x7 x8 x9 x10 x11 x12 x13 x14 x15 x16 x17 : Int} (h0 : x1 = x2) (h1 : 0 ≤ x3) (h2 : x3 ≤ 1) (h3 : (x3 = 0 ∨ (0 ≤ x1 ∧ x1 ≤ 4))) (h4 : ¬ x3 = 0) (h5 : x4 = x5) (h6 : 0 ≤ x6) (h7 : x6 ≤ 1) (h8 : (x6 = 0 ∨ (0 ≤ x4 ∧ x4 ≤ 4))) (h9 : ¬ x6 = 0) (h10 : ¬ x2 = x5) (h11 : x7 = 36) (h12 : x8 = x7 + x2) (h13 : x9 = 36) (h14 : x10 = x9 + x5) (h15 : x11 = 46) (h16 : x12 = x11 + x2) (h17 : x13 = 46) (h18 : x14 = x13 + x5) (h19 : x15 = 46) (h20 : x16 = x15 + x2) (h21 : x17 = 46) (h22 : x0 = x17 + x5) : (36 ≤ x0 ∨ x0 = 10) := by omega
theorem o35_392 {x0 x1 x2 x3 x4 x5 x6 x7 x8 x9 x10 x11 x12 x13 x14 x15 x16 x17 : Int} (h0 : x1 = x2) (h1 : 0 ≤ x3) (h2 : x3 ≤ 1) (h3 : (x3 = 0 ∨ (0 ≤ x1 ∧ x1 ≤ 4))) (h4 : ¬ x3 = 0) (h5 : x4 = x5) (h6 : 0 ≤ x6) (h7 : x6 ≤ 1) (h8 : (x6 = 0 ∨ (0 ≤ x4 ∧ x4 ≤ 4))) (h9 : ¬ x6 = 0) (h10 : ¬ x2 = x5) (h11 : x7 = 36) (h12 : x8 = x7 + x2) (h13 : x9 = 36) (h14 : x10 = x9 + x5) (h15 : x11 = 46) (h16 : x12 = x11 + x2) (h17 : x13 = 46) (h18 : x14 = x13 + x5) (h19 : x15 = 46) (h20 : x16 = x15 + x2) (h21 : x17 = 46) (h22 : x0 = x17 + x5) : 10 ≤ x0 := by omega
theorem o35_393 {x0 x1 x2 x3 x4 x5 x6 x7 x8 x9 x10 x11 x12 x13 x14 x15 x16 x17 : Int} (h0 : x1 = x2) (h1 : 0 ≤ x3) (h2 : x3 ≤ 1) (h3 : (x3 = 0 ∨ (0 ≤ x1 ∧ x1 ≤ 4))) (h4 : ¬ x3 = 0) (h5 : x4 = x5) (h6 : 0 ≤ x6) (h7 : x6 ≤ 1) (h8 : (x6 = 0 ∨ (0 ≤ x4 ∧ x4 ≤ 4))) (h9 : ¬ x6 = 0) (h10 : ¬ x2 = x5) (h11 : x7 = 36) (h12 : x8 = x7 + x2) (h13 : x9 = 36) (h14 : x10 = x9 + x5) (h15 : x11 = 46) (h16 : x12 = x11 + x2) (h17 : x13 = 46) (h18 : x14 = x13 + x5) (h19 : x15 = 46) (h20 : x16 = x15 + x2) (h21 : x17 = 46) (h22 : x0 = x17 + x5) : x0 ≤ 872 := by omega
theorem o35_394 {x0 x1 x2 x3 x4 x5 x6 x7 x8 x9 x10 x11 x12 x13 x14 x15 x16 x17 x18 : Int} (h0 : x2 = x3) (h1 : 0 ≤ x4) (h2 : x4 ≤ 1) (h3 : (x4 = 0 ∨ (0 ≤ x2 ∧ x2 ≤ 4))) (h4 : ¬ x4 = 0) (h5 : x5 = x1) (h6 : 0 ≤ x6) (h7 : x6 ≤ 1) (h8 : (x6 = 0 ∨ (0 ≤ x5 ∧ x5 ≤ 4))) (h9 : ¬ x6 = 0) (h10 : ¬ x3 = x1) (h11 : x7 = 36) (h12 : x8 = x7 + x3) (h13 : x9 = 36) (h14 : x10 = x9 + x1) (h15 : x11 = 46) (h16 : x12 = x11 + x3) (h17 : x13 = 46) (h18 : x14 = x13 + x1) (h19 : x15 = 46) (h20 : x16 = x15 + x3) (h21 : x17 = 46) (h22 : x18 = x17 + x1) (h23 : x0 = 46) (h24 : -2147483648 ≤ x0) (h25 : x0 ≤ 2147483647) (h26 : -2147483648 ≤ x1) (h27 : x1 ≤ 2147483647) (h28 : -2147483648 ≤ x3) (h29 : x3 ≤ 2147483647) (h30 : -2147483648 ≤ x4) (h31 : x4 ≤ 2147483647) (h32 : -2147483648 ≤ x6) (h33 : x6 ≤ 2147483647) (h34 : -2147483648 ≤ x7) (h35 : x7 ≤ 2147483647) (h36 : -2147483648 ≤ x8) (h37 : x8 ≤ 2147483647) (h38 : -2147483648 ≤ x9) (h39 : x9 ≤ 2147483647) (h40 : -2147483648 ≤ x10) (h41 : x10 ≤ 2147483647) (h42 : -2147483648 ≤ x11) (h43 : x11 ≤ 2147483647) (h44 : -2147483648 ≤ x12) (h45 : x12 ≤ 2147483647) (h46 : -2147483648 ≤ x13) (h47 : x13 ≤ 2147483647) (h48 : -2147483648 ≤ x14) (h49 : x14 ≤ 2147483647) (h50 : -2147483648 ≤ x15) (h51 : x15 ≤ 2147483647) (h52 : -2147483648 ≤ x16) (h53 : x16 ≤ 2147483647) (h54 : -2147483648 ≤ x17) (h55 : x17 ≤ 2147483647) (h56 : -2147483648 ≤ x18) (h57 : x18 ≤ 2147483647) : -2147483648 ≤ x0 + x1 := by omega
theorem o35_395 {x0 x1 x2 x3 x4 x5 x6 x7 x8 x9 x10 x11 x12 x13 x14 x15 x16 x17 x18 : Int} (h0 : x2 = x3) (h1 : 0 ≤ x4) (h2 : x4 ≤ 1) (h3 : (x4 = 0 ∨ (0 ≤ x2 ∧ x2 ≤ 4))) (h4 : ¬ x4 = 0) (h5 : x5 = x1) (h6 : 0 ≤ x6) (h7 : x6 ≤ 1) (h8 : (x6 = 0 ∨ (0 ≤ x5 ∧ x5 ≤ 4))) (h9 : ¬ x6 = 0) (h10 : ¬ x3 = x1) (h11 : x7 = 36) (h12 : x8 = x7 + x3) (h13 : x9 = 36) (h14 : x10 = x9 + x1) (h15 : x11 = 46) (h16 : x12 = x11 + x3) (h17 : x13 = 46) (h18 : x14 = x13 + x1) (h19 : x15 = 46) (h20 : x16 = x15 + x3) (h21 : x17 = 46) (h22 : x18 = x17 + x1) (h23 : x0 = 46) (h24 : -2147483648 ≤ x0) (h25 : x0 ≤ 2147483647) (h26 : -2147483648 ≤ x1) (h27 : x1 ≤ 2147483647) (h28 : -2147483648 ≤ x3) (h29 : x3 ≤ 2147483647) (h30 : -2147483648 ≤ x4) (h31 : x4 ≤ 2147483647) (h32 : -2147483648 ≤ x6) (h33 : x6 ≤ 2147483647) (h34 : -2147483648 ≤ x7) (h35 : x7 ≤ 2147483647) (h36 : -2147483648 ≤ x8) (h37 : x8 ≤ 2147483647) (h38 : -2147483648 ≤ x9) (h39 : x9 ≤ 2147483647) (h40 : -2147483648 ≤ x10) (h41 : x10 ≤ 2147483647) (h42 : -2147483648 ≤ x11) (h43 : x11 ≤ 2147483647) (h44 : -2147483648 ≤ x12) (h45 : x12 ≤ 2147483647) (h46 : -2147483648 ≤ x13) (h47 : x13 ≤ 2147483647) (h48 : -2147483648 ≤ x14) (h49 : x14 ≤ 2147483647) (h50 : -2147483648 ≤ x15) (h51 : x15 ≤ 2147483647) (h52 : -2147483648 ≤ x16) (h53 : x16 ≤ 2147483647) (h54 : -2147483648 ≤ x17) (h55 : x17 ≤ 2147483647) (h56 : -2147483648 ≤ x18) (h57 : x18 ≤ 2147483647) : x0 + x1 ≤ 2147483647 := by omega
theorem o35_396 {x0 x1 x2 x3 x4 x5 x6 x7 x8 x9 x10 x11 x12 x13 x14 x15 x16 x17 x18 x19 : Int} (h0 : x1 = x2) (h1 : 0 ≤ x3) (h2 : x3 ≤ 1) (h3 : (x3 = 0 ∨ (0 ≤ x1 ∧ x1 ≤ 4))) (h4 : ¬ x3 = 0) (h5 : x4 = x5) (h6 : 0 ≤ x6) (h7 : x6 ≤ 1) (h8 : (x6 = 0 ∨ (0 ≤ x4 ∧ x4 ≤ 4))) (h9 : ¬ x6 = 0) (h10 : ¬ x2 = x5) (h11 : x7 = 36) (h12 : x8 = x7 + x2) (h13 : x9 = 36) (h14 : x10 = x9 + x5) (h15 : x11 = 46) (h16 : x12 = x11 + x2) (h17 : x13 = 46) (h18 : x14 = x13 + x5) (h19 : x15 = 46) (h20 : x16 = x15 + x2) (h21 : x17 = 46) (h22 : x18 = x17 + x5) (h23 : x19 = 46) (h24 : x0 = x19 + x5) : 0 ≤ x0 := by omega
theorem o35_397 {x0 x1 x2 x3 x4 x5 x6 x7 x8 x9 x10 x11 x12 x13 x14 x15 x16 x17 x18 x19 : Int} (h0 : x1 = x2) (h1 : 0 ≤ x3) (h2 : x3 ≤ 1) (h3 : (x3 = 0 ∨ (0 ≤ x1 ∧ x1 ≤ 4))) (h4 : ¬ x3 = 0) (h5 : x4 = x5) (h6 : 0 ≤ x6) (h7 : x6 ≤ 1) (h8 : (x6 = 0 ∨ (0 ≤ x4 ∧ x4 ≤ 4))) (h9 : ¬ x6 = 0) (h10 : ¬ x2 = x5) (h11 : x7 = 36) (h12 : x8 = x7 + x2) (h13 : x9 = 36) (h14 : x10 = x9 + x5) (h15 : x11 = 46) (h16 : x12 = x11 + x2) (h17 : x13 = 46) (h18 : x14 = x13 + x5) (h19 : x15 = 46) (h20 : x16 = x15 + x2) (h21 : x17 = 46) (h22 : x18 = x17 + x5) (h23 : x19 = 46) (h24 : x0 = x19 + x5) : x0 < (5322 : Nat) := by omega
theorem o35_398 {x0 x1 x2 x3 x4 x5 x6 x7 x8 x9 x10 x11 x12 x13 x14 x15 x16 x17 x18 x19 : Int} (h0 : x1 = x2) (h1 : 0 ≤ x3) (h2 : x3 ≤ 1) (h3 : (x3 = 0 ∨ (0 ≤ x1 ∧ x1 ≤ 4))) (h4 : ¬ x3 = 0) (h5 : x4 = x5) (h6 : 0 ≤ x6) (h7 : x6 ≤ 1) (h8 : (x6 = 0 ∨ (0 ≤ x4 ∧ x4 ≤ 4))) (h9 : ¬ x6 = 0) (h10 : ¬ x2 = x5) (h11 : x7 = 36) (h12 : x8 = x7 + x2) (h13 : x9 = 36) (h14 : x10 = x9 + x5) (h15 : x11 = 46) (h16 : x12 = x11 + x2) (h17 : x13 = 46) (h18 : x14 = x13 + x5) (h19 : x15 = 46) (h20 : x16 = x15 + x2) (h21 : x17 = 46) (h22 : x18 = x17 + x5) (h23 : x19 = 46) (h24 : x0 = x19 + x5) : (x0).toNat < 51 := by omega
theorem o35_399 {x0 x1 x2 x3 x4 x5 x6 x7 x8 x9 x10 x11 x12 x13 x14 x15 x16 x17 x18 x19 : Int} (h0 : x1 = x2) (h1 : 0 ≤ x3) (h2 : x3 ≤ 1) (h3 : (x3 = 0 ∨ (0 ≤ x1 ∧ x1 ≤ 4))) (h4 : ¬ x3 = 0) (h5 : x4 = x5) (h6 : 0 ≤ x6) (h7 : x6 ≤ 1) (h8 : (x6 = 0 ∨ (0 ≤ x4 ∧ x4 ≤ 4))) (h9 : ¬ x6 = 0) (h10 : ¬ x2 = x5) (h11 : x7 = 36) (h12 : x8 = x7 + x2) (h13 : x9 = 36) (h14 : x10 = x9 + x5) (h15 : x11 = 46) (h16 : x12 = x11 + x2) (h17 : x13 = 46) (h18 : x14 = x13 + x5) (h19 : x15 = 46) (h20 : x16 = x15 + x2) (h21 : x17 = 46) (h22 : x18 = x17 + x5) (h23 : x19 = 46) (h24 : x0 = x19 + x5) : 46 ≤ (x0).toNat := by omega
theorem o35_400 {x0 : Int} (h0 : 0 ≤ x0) (h1 : x0 ≤ 99) : (-5) ≤ x0 := by omega
theorem o35_401 {x0 : Int} (h0 : 0 ≤ x0) (h1 : x0 ≤ 99) : x0 ≤ 99 := by omega
theorem o35_402 {x0 : Int} (h0 : x0 = (-4)) : (-5) ≤ x0 := by omega
theorem o35_403 {x0 : Int} (h0 : x0 = (-4)) : x0 ≤ 99 := by omega
theorem o35_404 {x0 : Int} (h0 : x0 = (-3)) : (-5) ≤ x0 := by omega
theorem o35_405 {x0 : Int} (h0 : x0 = (-3)) : x0 ≤ 99 := by omega
theorem o35_406 {x0 : Int} (h0 : 0 ≤ x0) (h1 : x0 ≤ 25) (h2 : 25 - x0 < 0) : False := by omega
theorem o35_407 {x0 x2 : Int} {x1 : Nat} (h0 : 0 ≤ x0) (h1 : x0 ≤ 25) (h2 : 25 - x0 < ((x1 + 1 : Nat) : Int)) (h3 : 0 ≤ x2) (h4 : x2 ≤ 25) (h5 : x0 < x2) : 0 ≤ x0 := by omega
theorem o35_408 {x0 x2 : Int} {x1 : Nat} (h0 : 0 ≤ x0) (h1 : x0 ≤ 25) (h2 : 25 - x0 < ((x1 + 1 : Nat) : Int)) (h3 : 0 ≤ x2) (h4 : x2 ≤ 25) (h5 : x0 < x2) : x0 ≤ 24 := by omega
theorem o35_409 {x0 x1 : Int} (h0 : x1 = 0) (h1 : -2147483648 ≤ x0) (h2 : x0 ≤ 2147483647) (h3 : -2147483648 ≤ x1) (h4 : x1 ≤ 2147483647) : -2147483648 ≤ x0 + x1 := by omega
theorem o35_410 {x0 x1 : Int} (h0 : x1 = 0) (h1 : -2147483648 ≤ x0) (h2 : x0 ≤ 2147483647) (h3 : -2147483648 ≤ x1) (h4 : x1 ≤ 2147483647) : x0 + x1 ≤ 2147483647 := by omega
theorem o35_411 {x0 x2 : Int} {x1 : Nat} (h0 : 0 ≤ x0) (h1 : x0 ≤ 25) (h2 : 25 - x0 < ((x1 + 1 : Nat) : Int)) (h3 : 0 ≤ x2) (h4 : x2 ≤ 25) (h5 : x0 < x2) (h6 : -2147483648 ≤ x0) (h7 : x0 ≤ 2147483647) (h8 : -2147483648 ≤ x2) (h9 : x2 ≤ 2147483647) : -2147483648 ≤ x0 + 1 := by omega
theorem o35_412 {x0 x2 : Int} {x1 : Nat} (h0 : 0 ≤ x0) (h1 : x0 ≤ 25) (h2 : 25 - x0 < ((x1 + 1 : Nat) : Int)) (h3 : 0 ≤ x2) (h4 : x2 ≤ 25) (h5 : x0 < x2) (h6 : -2147483648 ≤ x0) (h7 : x0 ≤ 2147483647) (h8 : -2147483648 ≤ x2) (h9 : x2 ≤ 2147483647) : x0 + 1 ≤ 2147483647 := by omega
theorem o35_413 {x0 x2 x3 : Int} {x1 : Nat} (h0 : 0 ≤ x2) (h1 : x2 ≤ 25) (h2 : 25 - x2 < ((x1 + 1 : Nat) : Int)) (h3 : 0 ≤ x3) (h4 : x3 ≤ 25) (h5 : x2 < x3) (h6 : x0 = x2 + 1) : 25 - x0 < (x1 : Int) := by omega
theorem o35_414 {x0 x1 x3 : Int} {x2 : Nat} (h0 : 0 ≤ x1) (h1 : x1 ≤ 25) (h2 : 25 - x1 < ((x2 + 1 : Nat) : Int)) (h3 : 0 ≤ x3) (h4 : x3 ≤ 25) (h5 : x1 < x3) (h6 : x0 = x1 + 1) : 0 ≤ x0 := by omega
theorem o35_415 {x0 x1 x3 : Int} {x2 : Nat} (h0 : 0 ≤ x1) (h1 : x1 ≤ 25) (h2 : 25 - x1 < ((x2 + 1 : Nat) : Int)) (h3 : 0 ≤ x3) (h4 : x3 ≤ 25) (h5 : x1 < x3) (h6 : x0 = x1 + 1) : x0 ≤ 25 := by omega
theorem o35_416 {x0 : Int} (h0 : x0 = 0) : 25 - x0 < (((25 - x0 + 1).toNat : Nat) : Int) := by omega
theorem o35_417 {x0 : Int} (h0 : x0 = 0) : x0 ≤ 25 := by omega
theorem o35_418 : ∀ p, p < 111 → 86 ≤ p → (elAll p).1 ≤ (-2147483648) ∧ 2147483647 ≤ (elAll p).2 := by decide +kernel
theorem o35_419 {x0 x1 x2 x3 x4 : Int} (h0 : x1 = x2) (h1 : 0 ≤ x3) (h2 : x3 ≤ 1) (h3 : (x3 = 0 ∨ (0 ≤ x1 ∧ x1 ≤ 24))) (h4 : ¬ x3 = 0) (h5 : x4 = 86) (h6 : x0 = x4 + x2) : (x0).toNat < 111 := by omega
theorem o35_420 {x0 x1 x2 x3 x4 : Int} (h0 : x1 = x2) (h1 : 0 ≤ x3) (h2 : x3 ≤ 1) (h3 : (x3 = 0 ∨ (0 ≤ x1 ∧ x1 ≤ 24))) (h4 : ¬ x3 = 0) (h5 : x4 = 86) (h6 : x0 = x4 + x2) : 86 ≤ (x0).toNat := by omega
theorem o35_421 {x0 x1 x2 x3 x4 : Int} (h0 : x1 = x2) (h1 : 0 ≤ x3) (h2 : x3 ≤ 1) (h3 : (x3 = 0 ∨ (0 ≤ x1 ∧ x1 ≤ 24))) (h4 : ¬ x3 = 0) (h5 : x4 = 86) (h6 : x0 = x4 + x2) : (36 ≤ x0 ∨ x0 = 10) := by omega
theorem o35_422 {x0 x1 x2 x3 x4 : Int} (h0 : x1 = x2) (h1 : 0 ≤ x3) (h2 : x3 ≤ 1) (h3 : (x3 = 0 ∨ (0 ≤ x1 ∧ x1 ≤ 24))) (h4 : ¬ x3 = 0) (h5 : x4 = 86) (h6 : x0 = x4 + x2) : 10 ≤ x0 := by omega
theorem o35_423 {x0 x1 x2 x3 x4 : Int} (h0 : x1 = x2) (h1 : 0 ≤ x3) (h2 : x3 ≤ 1) (h3 : (x3 = 0 ∨ (0 ≤ x1 ∧ x1 ≤ 24))) (h4 : ¬ x3 = 0) (h5 : x4 = 86) (h6 : x0 = x4 + x2) : x0 ≤ 872 := by omega
theorem o35_424 : ∀ p, p < 112 → 111 ≤ p → (elAll p).1 ≤ (-2147483648) ∧ 2147483647 ≤ (elAll p).2 := by decide +kernel
theorem o35_425 {x0 : Int} (h0 : x0 = 111) : (x0).toNat < 112 := by omega
theorem o35_426 {x0 : Int} (h0 : x0 = 111) : 111 ≤ (x0).toNat := by omega
theorem o35_427 {x0 : Int} (h0 : x0 = 111) : (36 ≤ x0 ∨ x0 = 10) := by omega
theorem o35_428 {x0 : Int} (h0 : x0 = 111) : 10 ≤ x0 := by omega
theorem o35_429 {x0 : Int} (h0 : x0 = 111) : x0 ≤ 872 := by omega
theorem o35_430 {x0 : Int} (h0 : x0 = (-3)) : x0 ≤ 9 := by omega
theorem o35_431 {x0 : Int} (h0 : x0 = 112) : 0 ≤ x0 := by omega
theorem o35_432 {x0 : Int} (h0 : x0 = 112) : x0 < (5322 : Nat) := by omega
theorem o35_433 : ∀ p, p < 113 → 112 ≤ p → 0 ≤ (elAll p).1 ∧ (elAll p).2 ≤ 10 := by decide +kernel
theorem o35_434 {x0 : Int} (h0 : x0 = 112) : (x0).toNat < 113 := by omega
theorem o35_435 {x0 : Int} (h0 : x0 = 112) : 112 ≤ (x0).toNat := by omega
theorem o35_436 {x0 : Int} (h0 : x0 = 112) : x0 = ((112 : Nat) : Int) := by omega
theorem o35_437 {x0 x1 x2 x3 x4 x5 x6 : Int} (h0 : x2 = x1) (h1 : x3 = 1) (h2 : x4 = 10) (h3 : 0 ≤ x5) (h4 : x5 ≤ 1) (h5 : ((x5 = 0 ∧ (x2 < x3 ∨ x4 < x2)) ∨ (x5 = 1 ∧ x3 ≤ x2 ∧ x2 ≤ x4))) (h6 : ¬ x5 = 0) (h7 : 0 ≤ x6) (h8 : x6 ≤ 10) (h9 : x1 ≤ x6) (h10 : 0 ≤ x0) (h11 : x0 ≤ 10) (h12 : x0 = x6) (h13 : -2147483648 ≤ x0) (h14 : x0 ≤ 2147483647) (h15 : -2147483648 ≤ x1) (h16 : x1 ≤ 2147483647) (h17 : -2147483648 ≤ x5) (h18 : x5 ≤ 2147483647) (h19 : -2147483648 ≤ x6) (h20 : x6 ≤ 2147483647) : -2147483648 ≤ x0 - x1 := by omega
theorem o35_438 {x0 x1 x2 x3 x4 x5 x6 : Int} (h0 : x2 = x1) (h1 : x3 = 1) (h2 : x4 = 10) (h3 : 0 ≤ x5) (h4 : x5 ≤ 1) (h5 : ((x5 = 0 ∧ (x2 < x3 ∨ x4 < x2)) ∨ (x5 = 1 ∧ x3 ≤ x2 ∧ x2 ≤ x4))) (h6 : ¬ x5 = 0) (h7 : 0 ≤ x6) (h8 : x6 ≤ 10) (h9 : x1 ≤ x6) (h10 : 0 ≤ x0) (h11 : x0 ≤ 10) (h12 : x0 = x6) (h13 : -2147483648 ≤ x0) (h14 : x0 ≤ 2147483647) (h15 : -2147483648 ≤ x1) (h16 : x1 ≤ 2147483647) (h17 : -2147483648 ≤ x5) (h18 : x5 ≤ 2147483647) (h19 : -2147483648 ≤ x6) (h20 : x6 ≤ 2147483647) : x0 - x1 ≤ 2147483647 := by omega
theorem o35_439 : ∀ p, p < 113 → 112 ≤ p → (elAll p).1 ≤ 0 ∧ 10 ≤ (elAll p).2 := by decide +kernel
theorem o35_440 {x0 x1 x2 x3 x4 x5 x6 x7 : Int} (h0 : x1 = x2) (h1 : x3 = 1) (h2 : x4 = 10) (h3 : 0 ≤ x5) (h4 : x5 ≤ 1) (h5 : ((x5 = 0 ∧ (x1 < x3 ∨ x4 < x1)) ∨ (x5 = 1 ∧ x3 ≤ x1 ∧ x1 ≤ x4))) (h6 : ¬ x5 = 0) (h7 : 0 ≤ x6) (h8 : x6 ≤ 10) (h9 : x2 ≤ x6) (h10 : 0 ≤ x7) (h11 : x7 ≤ 10) (h12 : x7 = x6) (h13 : x0 = x7 - x2) : 0 ≤ x0 := by omega
theorem o35_441 {x0 x1 x2 x3 x4 x5 x6 x7 : Int} (h0 : x1 = x2) (h1 : x3 = 1) (h2 : x4 = 10) (h3 : 0 ≤ x5) (h4 : x5 ≤ 1) (h5 : ((x5 = 0 ∧ (x1 < x3 ∨ x4 < x1)) ∨ (x5 = 1 ∧ x3 ≤ x1 ∧ x1 ≤ x4))) (h6 : ¬ x5 = 0) (h7 : 0 ≤ x6) (h8 : x6 ≤ 10) (h9 : x2 ≤ x6) (h10 : 0 ≤ x7) (h11 : x7 ≤ 10) (h12 : x7 = x6) (h13 : x0 = x7 - x2) : x0 ≤ 10 := by omega
theorem o35_442 {x0 : Int} (h0 : x0 = 112) : (36 ≤ x0 ∨ x0 = 10) := by omega
theorem o35_443 {x0 : Int} (h0 : x0 = 112) : 10 ≤ x0 := by omega
theorem o35_444 {x0 : Int} (h0 : x0 = 112) : x0 ≤ 872 := by omega
theorem o35_445 {x0 : Int} (h0 : 0 ≤ x0) (h1 : x0 ≤ 76) (h2 : 76 - x0 < 0) : False := by omega
theorem o35_446 {x0 x1 : Int} (h0 : 0 ≤ x1) (h1 : x1 ≤ 9) (h2 : 0 ≤ x0) (h3 : x0 ≤ 10) (h4 : x0 = x1) : (-3) ≤ x0 := by omega
theorem o35_447 {x0 x1 : Int} (h0 : 0 ≤ x1) (h1 : x1 ≤ 9) (h2 : 0 ≤ x0) (h3 : x0 ≤ 10) (h4 : x0 = x1) : x0 ≤ 9 := by omega
theorem o35_448 {x0 x1 x3 : Int} {x2 : Nat} (h0 : 0 ≤ x1) (h1 : x1 ≤ 76) (h2 : 76 - x1 < ((x2 + 1 : Nat) : Int)) (h3 : x3 = 76) (h4 : x1 < x3) (h5 : x0 = 36) (h6 : -2147483648 ≤ x0) (h7 : x0 ≤ 2147483647) (h8 : -2147483648 ≤ x1) (h9 : x1 ≤ 2147483647) (h10 : -2147483648 ≤ x3) (h11 : x3 ≤ 2147483647) : -2147483648 ≤ x0 + x1 := by omega
theorem o35_449 {x0 x1 x3 : Int} {x2 : Nat} (h0 : 0 ≤ x1) (h1 : x1 ≤ 76) (h2 : 76 - x1 < ((x2 + 1 : Nat) : Int)) (h3 : x3 = 76) (h4 : x1 < x3) (h5 : x0 = 36) (h6 : -2147483648 ≤ x0) (h7 : x0 ≤ 2147483647) (h8 : -2147483648 ≤ x1) (h9 : x1 ≤ 2147483647) (h10 : -2147483648 ≤ x3) (h11 : x3 ≤ 2147483647) : x0 + x1 ≤ 2147483647 := by omega
theorem o35_450 {x0 : Int} (h0 : x0 = 76) : x0 = 76 := by omega
theorem o35_451 {x0 x1 : Int} (h0 : 0 ≤ x1) (h1 : x1 ≤ 9) (h2 : 0 ≤ x0) (h3 : x0 ≤ 10) (h4 : x0 = x1) (h5 : -2147483648 ≤ x0) (h6 : x0 ≤ 2147483647) (h7 : -2147483648 ≤ x1) (h8 : x1 ≤ 2147483647) : -2147483648 ≤ 76 * x0 := by omega
theorem o35_452 {x0 x1 : Int} (h0 : 0 ≤ x1) (h1 : x1 ≤ 9) (h2 : 0 ≤ x0) (h3 : x0 ≤ 10) (h4 : x0 = x1) (h5 : -2147483648 ≤ x0) (h6 : x0 ≤ 2147483647) (h7 : -2147483648 ≤ x1) (h8 : x1 ≤ 2147483647) : 76 * x0 ≤ 2147483647 := by omega
theorem o35_453 {x0 x1 x2 x3 : Int} (h0 : 0 ≤ x2) (h1 : x2 ≤ 9) (h2 : x0 = 113) (h3 : 0 ≤ x3) (h4 : x3 ≤ 10) (h5 : x3 = x2) (h6 : x1 = 76 * x3) (h7 : -2147483648 ≤ x0) (h8 : x0 ≤ 2147483647) (h9 : -2147483648 ≤ x1) (h10 : x1 ≤ 2147483647) (h11 : -2147483648 ≤ x2) (h12 : x2 ≤ 2147483647) (h13 : -2147483648 ≤ x3) (h14 : x3 ≤ 2147483647) : -2147483648 ≤ x0 + x1 := by omega
theorem o35_454 {x0 x1 x2 x3 : Int} (h0 : 0 ≤ x2) (h1 : x2 ≤ 9) (h2 : x0 = 113) (h3 : 0 ≤ x3) (h4 : x3 ≤ 10) (h5 : x3 = x2) (h6 : x1 = 76 * x3) (h7 : -2147483648 ≤ x0) (h8 : x0 ≤ 2147483647) (h9 : -2147483648 ≤ x1) (h10 : x1 ≤ 2147483647) (h11 : -2147483648 ≤ x2) (h12 : x2 ≤ 2147483647) (h13 : -2147483648 ≤ x3) (h14 : x3 ≤ 2147483647) : x0 + x1 ≤ 2147483647 := by omega
theorem o35_455 {x0 x1 x2 x4 x5 x6 x7 x8 x9 : Int} {x3 : Nat} (h0 : 0 ≤ x1) (h1 : x1 ≤ 76) (h2 : 0 ≤ x2) (h3 : x2 ≤ 9) (h4 : 76 - x1 < ((x3 + 1 : Nat) : Int)) (h5 : x4 = 76) (h6 : x1 < x4) (h7 : x5 = 36) (h8 : x6 = x5 + x1) (h9 : x7 = 113) (h10 : 0 ≤ x8) (h11 : x8 ≤ 10) (h12 : x8 = x2) (h13 : x9 = 76 * x8) (h14 : x0 = x7 + x9) (h15 : -2147483648 ≤ x0) (h16 : x0 ≤ 2147483647) (h17 : -2147483648 ≤ x1) (h18 : x1 ≤ 2147483647) (h19 : -2147483648 ≤ x2) (h20 : x2 ≤ 2147483647) (h21 : -2147483648 ≤ x4) (h22 : x4 ≤ 2147483647) (h23 : -2147483648 ≤ x5) (h24 : x5 ≤ 2147483647) (h25 : -2147483648 ≤ x6) (h26 : x6 ≤ 2147483647) (h27 : -2147483648 ≤ x7) (h28 : x7 ≤ 2147483647) (h29 : -2147483648 ≤ x8) (h30 : x8 ≤ 2147483647) (h31 : -2147483648 ≤ x9) (h32 : x9 ≤ 2147483647) : -2147483648 ≤ x0 + x1 := by omega
theorem o35_456 {x0 x1 x2 x4 x5 x6 x7 x8 x9 : Int} {x3 : Nat} (h0 : 0 ≤ x1) (h1 : x1 ≤ 76) (h2 : 0 ≤ x2) (h3 : x2 ≤ 9) (h4 : 76 - x1 < ((x3 + 1 : Nat) : Int)) (h5 : x4 = 76) (h6 : x1 < x4) (h7 : x5 = 36) (h8 : x6 = x5 + x1) (h9 : x7 = 113) (h10 : 0 ≤ x8) (h11 : x8 ≤ 10) (h12 : x8 = x2) (h13 : x9 = 76 * x8) (h14 : x0 = x7 + x9) (h15 : -2147483648 ≤ x0) (h16 : x0 ≤ 2147483647) (h17 : -2147483648 ≤ x1) (h18 : x1 ≤ 2147483647) (h19 : -2147483648 ≤ x2) (h20 : x2 ≤ 2147483647) (h21 : -2147483648 ≤ x4) (h22 : x4 ≤ 2147483647) (h23 : -2147483648 ≤ x5) (h24 : x5 ≤ 2147483647) (h25 : -2147483648 ≤ x6) (h26 : x6 ≤ 2147483647) (h27 : -2147483648 ≤ x7) (h28 : x7 ≤ 2147483647) (h29 : -2147483648 ≤ x8) (h30 : x8 ≤ 2147483647) (h31 : -2147483648 ≤ x9) (h32 : x9 ≤ 2147483647) : x0 + x1 ≤ 2147483647 := by omega
theorem o35_457 {x0 x1 x2 x4 x5 x6 x7 x8 x9 x10 : Int} {x3 : Nat} (h0 : 0 ≤ x1) (h1 : x1 ≤ 76) (h2 : 0 ≤ x2) (h3 : x2 ≤ 9) (h4 : 76 - x1 < ((x3 + 1 : Nat) : Int)) (h5 : x4 = 76) (h6 : x1 < x4) (h7 : x5 = 36) (h8 : x6 = x5 + x1) (h9 : x7 = 113) (h10 : 0 ≤ x8) (h11 : x8 ≤ 10) (h12 : x8 = x2) (h13 : x9 = 76 * x8) (h14 : x10 = x7 + x9) (h15 : x0 = x10 + x1) : 0 ≤ x0 := by omega
theorem o35_458 {x0 x1 x2 x4 x5 x6 x7 x8 x9 x10 : Int} {x3 : Nat} (h0 : 0 ≤ x1) (h1 : x1 ≤ 76) (h2 : 0 ≤ x2) (h3 : x2 ≤ 9) (h4 : 76 - x1 < ((x3 + 1 : Nat) : Int)) (h5 : x4 = 76) (h6 : x1 < x4) (h7 : x5 = 36) (h8 : x6 = x5 + x1) (h9 : x7 = 113) (h10 : 0 ≤ x8) (h11 : x8 ≤ 10) (h12 : x8 = x2) (h13 : x9 = 76 * x8) (h14 : x10 = x7 + x9) (h15 : x0 = x10 + x1) : x0 < (5322 : Nat) := by omega
theorem o35_459 {x0 x1 x2 x4 x5 x6 x7 x8 x9 x10 : Int} {x3 : Nat} (h0 : 0 ≤ x1) (h1 : x1 ≤ 76) (h2 : 0 ≤ x2) (h3 : x2 ≤ 9) (h4 : 76 - x1 < ((x3 + 1 : Nat) : Int)) (h5 : x4 = 76) (h6 : x1 < x4) (h7 : x5 = 36) (h8 : x0 = x5 + x1) (h9 : x6 = 113) (h10 : 0 ≤ x7) (h11 : x7 ≤ 10) (h12 : x7 = x2) (h13 : x8 = 76 * x7) (h14 : x9 = x6 + x8) (h15 : x10 = x9 + x1) : 0 ≤ x0 := by omega
theorem o35_460 {x0 x1 x2 x4 x5 x6 x7 x8 x9 x10 : Int} {x3 : Nat} (h0 : 0 ≤ x1) (h1 : x1 ≤ 76) (h2 : 0 ≤ x2) (h3 : x2 ≤ 9) (h4 : 76 - x1 < ((x3 + 1 : Nat) : Int)) (h5 : x4 = 76) (h6 : x1 < x4) (h7 : x5 = 36) (h8 : x0 = x5 + x1) (h9 : x6 = 113) (h10 : 0 ≤ x7) (h11 : x7 ≤ 10) (h12 : x7 = x2) (h13 : x8 = 76 * x7) (h14 : x9 = x6 + x8) (h15 : x10 = x9 + x1) : x0 < (5322 : Nat) := by omega
theorem o35_461 {x0 x1 x2 x4 x5 x6 x7 x8 x9 x10 : Int} {x3 : Nat} (h0 : 0 ≤ x1) (h1 : x1 ≤ 76) (h2 : 0 ≤ x2) (h3 : x2 ≤ 9) (h4 : 76 - x1 < ((x3 + 1 : Nat) : Int)) (h5 : x4 = 76) (h6 : x1 < x4) (h7 : x5 = 36) (h8 : x0 = x5 + x1) (h9 : x6 = 113) (h10 : 0 ≤ x7) (h11 : x7 ≤ 10) (h12 : x7 = x2) (h13 : x8 = 76 * x7) (h14 : x9 = x6 + x8) (h15 : x10 = x9 + x1) : (x0).toNat = 36 + (x1).toNat := by omega
theorem o35_462 {x0 x1 x3 x4 x5 x6 x7 x8 x9 x10 : Int} {x2 : Nat} (h0 : 0 ≤ x0) (h1 : x0 ≤ 76) (h2 : 0 ≤ x1) (h3 : x1 ≤ 9) (h4 : 76 - x0 < ((x2 + 1 : Nat) : Int)) (h5 : x3 = 76) (h6 : x0 < x3) (h7 : x4 = 36) (h8 : x5 = x4 + x0) (h9 : x6 = 113) (h10 : 0 ≤ x7) (h11 : x7 ≤ 10) (h12 : x7 = x1) (h13 : x8 = 76 * x7) (h14 : x9 = x6 + x8) (h15 : x10 = x9 + x0) : (x0).toNat < 76 := by omega
theorem o35_463 {x0 x1 x2 x4 x5 x6 x7 x8 x9 x10 : Int} {x3 : Nat} (h0 : 0 ≤ x2) (h1 : x2 ≤ 76) (h2 : 0 ≤ x1) (h3 : x1 ≤ 9) (h4 : 76 - x2 < ((x3 + 1 : Nat) : Int)) (h5 : x4 = 76) (h6 : x2 < x4) (h7 : x5 = 36) (h8 : x6 = x5 + x2) (h9 : x7 = 113) (h10 : 0 ≤ x8) (h11 : x8 ≤ 10) (h12 : x8 = x1) (h13 : x9 = 76 * x8) (h14 : x10 = x7 + x9) (h15 : x0 = x10 + x2) : (x0).toNat = 113 + 76 * (x1).toNat + (x2).toNat := by omega
theorem o35_464 {x0 x1 x3 x4 x5 x6 x7 x8 x9 x10 : Int} {x2 : Nat} (h0 : 0 ≤ x1) (h1 : x1 ≤ 76) (h2 : 0 ≤ x0) (h3 : x0 ≤ 9) (h4 : 76 - x1 < ((x2 + 1 : Nat) : Int)) (h5 : x3 = 76) (h6 : x1 < x3) (h7 : x4 = 36) (h8 : x5 = x4 + x1) (h9 : x6 = 113) (h10 : 0 ≤ x7) (h11 : x7 ≤ 10) (h12 : x7 = x0) (h13 : x8 = 76 * x7) (h14 : x9 = x6 + x8) (h15 : x10 = x9 + x1) : (x0).toNat < 10 := by omega
theorem o35_465 {x0 x1 x2 x4 x5 x6 x7 x8 x9 x10 : Int} {x3 : Nat} (h0 : 0 ≤ x1) (h1 : x1 ≤ 76) (h2 : 0 ≤ x2) (h3 : x2 ≤ 9) (h4 : 76 - x1 < ((x3 + 1 : Nat) : Int)) (h5 : x4 = 76) (h6 : x1 < x4) (h7 : x5 = 36) (h8 : x0 = x5 + x1) (h9 : x6 = 113) (h10 : 0 ≤ x7) (h11 : x7 ≤ 10) (h12 : x7 = x2) (h13 : x8 = 76 * x7) (h14 : x9 = x6 + x8) (h15 : x10 = x9 + x1) : (36 ≤ x0 ∨ x0 = 10) := by omega
theorem o35_466 {x0 x1 x2 x4 x5 x6 x7 x8 x9 x10 : Int} {x3 : Nat} (h0 : 0 ≤ x1) (h1 : x1 ≤ 76) (h2 : 0 ≤ x2) (h3 : x2 ≤ 9) (h4 : 76 - x1 < ((x3 + 1 : Nat) : Int)) (h5 : x4 = 76) (h6 : x1 < x4) (h7 : x5 = 36) (h8 : x0 = x5 + x1) (h9 : x6 = 113) (h10 : 0 ≤ x7) (h11 : x7 ≤ 10) (h12 : x7 = x2) (h13 : x8 = 76 * x7) (h14 : x9 = x6 + x8) (h15 : x10 = x9 + x1) : 10 ≤ x0 := by omega
theorem o35_467 {x0 x1 x2 x4 x5 x6 x7 x8 x9 x10 : Int} {x3 : Nat} (h0 : 0 ≤ x1) (h1 : x1 ≤ 76) (h2 : 0 ≤ x2) (h3 : x2 ≤ 9) (h4 : 76 - x1 < ((x3 + 1 : Nat) : Int)) (h5 : x4 = 76) (h6 : x1 < x4) (h7 : x5 = 36) (h8 : x0 = x5 + x1) (h9 : x6 = 113) (h10 : 0 ≤ x7) (h11 : x7 ≤ 10) (h12 : x7 = x2) (h13 : x8 = 76 * x7) (h14 : x9 = x6 + x8) (h15 : x10 = x9 + x1) : x0 ≤ 872 := by omega
theorem o35_468 {x0 x1 x3 x4 x5 x6 x7 x8 x9 x10 : Int} {x2 : Nat} (h0 : 0 ≤ x0) (h1 : x0 ≤ 76) (h2 : 0 ≤ x1) (h3 : x1 ≤ 9) (h4 : 76 - x0 < ((x2 + 1 : Nat) : Int)) (h5 : x3 = 76) (h6 : x0 < x3) (h7 : x4 = 36) (h8 : x5 = x4 + x0) (h9 : x6 = 113) (h10 : 0 ≤ x7) (h11 : x7 ≤ 10) (h12 : x7 = x1) (h13 : x8 = 76 * x7) (h14 : x9 = x6 + x8) (h15 : x10 = x9 + x0) (h16 : -2147483648 ≤ x0) (h17 : x0 ≤ 2147483647) (h18 : -2147483648 ≤ x1) (h19 : x1 ≤ 2147483647) (h20 : -2147483648 ≤ x3) (h21 : x3 ≤ 2147483647) (h22 : -2147483648 ≤ x4) (h23 : x4 ≤ 2147483647) (h24 : -2147483648 ≤ x5) (h25 : x5 ≤ 2147483647) (h26 : -2147483648 ≤ x6) (h27 : x6 ≤ 2147483647) (h28 : -2147483648 ≤ x7) (h29 : x7 ≤ 2147483647) (h30 : -2147483648 ≤ x8) (h31 : x8 ≤ 2147483647) (h32 : -2147483648 ≤ x9) (h33 : x9 ≤ 2147483647) (h34 : -2147483648 ≤ x10) (h35 : x10 ≤ 2147483647) : -2147483648 ≤ x0 + 1 := by omega
theorem o35_469 {x0 x1 x3 x4 x5 x6 x7 x8 x9 x10 : Int} {x2 : Nat} (h0 : 0 ≤ x0) (h1 : x0 ≤ 76) (h2 : 0 ≤ x1) (h3 : x1 ≤ 9) (h4 : 76 - x0 < ((x2 + 1 : Nat) : Int)) (h5 : x3 = 76) (h6 : x0 < x3) (h7 : x4 = 36) (h8 : x5 = x4 + x0) (h9 : x6 = 113) (h10 : 0 ≤ x7) (h11 : x7 ≤ 10) (h12 : x7 = x1) (h13 : x8 = 76 * x7) (h14 : x9 = x6 + x8) (h15 : x10 = x9 + x0) (h16 : -2147483648 ≤ x0) (h17 : x0 ≤ 2147483647) (h18 : -2147483648 ≤ x1) (h19 : x1 ≤ 2147483647) (h20 : -2147483648 ≤ x3) (h21 : x3 ≤ 2147483647) (h22 : -2147483648 ≤ x4) (h23 : x4 ≤ 2147483647) (h24 : -2147483648 ≤ x5) (h25 : x5 ≤ 2147483647) (h26 : -2147483648 ≤ x6) (h27 : x6 ≤ 2147483647) (h28 : -2147483648 ≤ x7) (h29 : x7 ≤ 2147483647) (h30 : -2147483648 ≤ x8) (h31 : x8 ≤ 2147483647) (h32 : -2147483648 ≤ x9) (h33 : x9 ≤ 2147483647) (h34 : -2147483648 ≤ x10) (h35 : x10 ≤ 2147483647) : x0 + 1 ≤ 2147483647 := by omega
theorem o35_470 {x0 x1 x2 x4 x5 x6 x7 x8 x9 x10 x11 : Int} {x3 : Nat} (h0 : 0 ≤ x1) (h1 : x1 ≤ 76) (h2 : 0 ≤ x2) (h3 : x2 ≤ 9) (h4 : 76 - x1 < ((x3 + 1 : Nat) : Int)) (h5 : x4 = 76) (h6 : x1 < x4) (h7 : x5 = 36) (h8 : x0 = x5 + x1) (h9 : x6 = 113) (h10 : 0 ≤ x7) (h11 : x7 ≤ 10) (h12 : x7 = x2) (h13 : x8 = 76 * x7) (h14 : x9 = x6 + x8) (h15 : x10 = x9 + x1) (h16 : x11 = x1 + 1) : 112 ≠ (x0).toNat := by omega
theorem o35_471 {x0 x2 x3 x4 x5 x6 x7 x8 x9 x10 x11 : Int} {x1 : Nat} (h0 : 0 ≤ x2) (h1 : x2 ≤ 76) (h2 : 0 ≤ x3) (h3 : x3 ≤ 9) (h4 : 76 - x2 < ((x1 + 1 : Nat) : Int)) (h5 : x4 = 76) (h6 : x2 < x4) (h7 : x5 = 36) (h8 : x6 = x5 + x2) (h9 : x7 = 113) (h10 : 0 ≤ x8) (h11 : x8 ≤ 10) (h12 : x8 = x3) (h13 : x9 = 76 * x8) (h14 : x10 = x7 + x9) (h15 : x11 = x10 + x2) (h16 : x0 = x2 + 1) : 76 - x0 < (x1 : Int) := by omega
theorem o35_472 {x0 x1 x2 x4 x5 x6 x7 x8 x9 x10 x11 : Int} {x3 : Nat} (h0 : 0 ≤ x1) (h1 : x1 ≤ 76) (h2 : 0 ≤ x2) (h3 : x2 ≤ 9) (h4 : 76 - x1 < ((x3 + 1 : Nat) : Int)) (h5 : x4 = 76) (h6 : x1 < x4) (h7 : x5 = 36) (h8 : x6 = x5 + x1) (h9 : x7 = 113) (h10 : 0 ≤ x8) (h11 : x8 ≤ 10) (h12 : x8 = x2) (h13 : x9 = 76 * x8) (h14 : x10 = x7 + x9) (h15 : x11 = x10 + x1) (h16 : x0 = x1 + 1) : 0 ≤ x0 := by omega
theorem o35_473 {x0 x1 x2 x4 x5 x6 x7 x8 x9 x10 x11 : Int} {x3 : Nat} (h0 : 0 ≤ x1) (h1 : x1 ≤ 76) (h2 : 0 ≤ x2) (h3 : x2 ≤ 9) (h4 : 76 - x1 < ((x3 + 1 : Nat) : Int)) (h5 : x4 = 76) (h6 : x1 < x4) (h7 : x5 = 36) (h8 : x6 = x5 + x1) (h9 : x7 = 113) (h10 : 0 ≤ x8) (h11 : x8 ≤ 10) (h12 : x8 = x2) (h13 : x9 = 76 * x8) (h14 : x10 = x7 + x9) (h15 : x11 = x10 + x1) (h16 : x0 = x1 + 1) : x0 ≤ 76 := by omega
theorem o35_474 {x0 x1 x3 x4 x5 x6 x7 x8 x9 x10 x11 : Int} {x2 : Nat} (h0 : 0 ≤ x1) (h1 : x1 ≤ 76) (h2 : 0 ≤ x0) (h3 : x0 ≤ 9) (h4 : 76 - x1 < ((x2 + 1 : Nat) : Int)) (h5 : x3 = 76) (h6 : x1 < x3) (h7 : x4 = 36) (h8 : x5 = x4 + x1) (h9 : x6 = 113) (h10 : 0 ≤ x7) (h11 : x7 ≤ 10) (h12 : x7 = x0) (h13 : x8 = 76 * x7) (h14 : x9 = x6 + x8) (h15 : x10 = x9 + x1) (h16 : x11 = x1 + 1) : 0 ≤ x0 := by omega
theorem o35_475 {x0 x1 x3 x4 x5 x6 x7 x8 x9 x10 x11 : Int} {x2 : Nat} (h0 : 0 ≤ x1) (h1 : x1 ≤ 76) (h2 : 0 ≤ x0) (h3 : x0 ≤ 9) (h4 : 76 - x1 < ((x2 + 1 : Nat) : Int)) (h5 : x3 = 76) (h6 : x1 < x3) (h7 : x4 = 36) (h8 : x5 = x4 + x1) (h9 : x6 = 113) (h10 : 0 ≤ x7) (h11 : x7 ≤ 10) (h12 : x7 = x0) (h13 : x8 = 76 * x7) (h14 : x9 = x6 + x8) (h15 : x10 = x9 + x1) (h16 : x11 = x1 + 1) : x0 ≤ 9 := by omega
theorem o35_476 {x0 : Int} (h0 : x0 = 0) : 76 - x0 < (((76 - x0 + 1).toNat : Nat) : Int) := by omega
theorem o35_477 {x0 : Int} (h0 : x0 = 0) : x0 ≤ 76 := by omega
theorem o35_478 {x0 x1 x2 x3 x4 x5 x6 x7 : Int} (h0 : x1 = x2) (h1 : x3 = 1) (h2 : x4 = 10) (h3 : 0 ≤ x5) (h4 : x5 ≤ 1) (h5 : ((x5 = 0 ∧ (x1 < x3 ∨ x4 < x1)) ∨ (x5 = 1 ∧ x3 ≤ x1 ∧ x1 ≤ x4))) (h6 : ¬ x5 = 0) (h7 : 0 ≤ x6) (h8 : x6 ≤ 10) (h9 : x2 ≤ x6) (h10 : 0 ≤ x7) (h11 : x7 ≤ 10) (h12 : x7 = x6) (h13 : x0 = x7 - x2) : x0 ≤ 9 := by omega
theorem o35_479 {x0 : Int} (h0 : x0 = 16) : x0 = 16 := by omega
theorem o35_480 {x0 : Int} (h0 : 1 ≤ x0) (h1 : x0 ≤ 5) : 0 < x0 := by omega
theorem o35_481 {x0 : Int} (h0 : 0 ≤ x0) (h1 : x0 ≤ 65535) : 0 ≤ x0 := by omega
theorem o35_482 {x0 x1 : Int} (h0 : 1 ≤ x1) (h1 : x1 ≤ 5) (h2 : 0 ≤ x0) (h3 : x0 < x1) : 0 ≤ x0 := by omega
theorem o35_483 {x0 x1 : Int} (h0 : 1 ≤ x1) (h1 : x1 ≤ 5) (h2 : 0 ≤ x0) (h3 : x0 < x1) : x0 ≤ 4 := by omega
theorem o35_484 {x0 : Int} (h0 : x0 = 4) : 1 ≤ x0 := by omega
theorem o35_485 {x0 : Int} (h0 : x0 = 4) : x0 ≤ 5 := by omega
theorem o35_486 {x0 : Int} (h0 : x0 = 3) : 0 ≤ x0 := by omega
theorem o35_487 {x0 : Int} (h0 : x0 = 3) : x0 < (5322 : Nat) := by omega
theorem o35_488 : ∀ p, p < 4 → 3 ≤ p → 0 ≤ (elAll p).1 ∧ (elAll p).2 ≤ 5 := by decide +kernel
theorem o35_489 {x0 : Int} (h0 : x0 = 3) : (x0).toNat < 4 := by omega
theorem o35_490 {x0 : Int} (h0 : x0 = 3) : 3 ≤ (x0).toNat := by omega
theorem o35_491 {x0 : Int} (h0 : x0 = 3) : x0 = ((3 : Nat) : Int) := by omega
theorem o35_492 {x0 x1 : Int} (h0 : 1 ≤ x1) (h1 : x1 ≤ 5) (h2 : 0 ≤ x0) (h3 : x0 ≤ 5) (h4 : x0 = x1) : 1 ≤ x0 := by omega
theorem o35_493 {x0 x1 : Int} (h0 : 1 ≤ x1) (h1 : x1 ≤ 5) (h2 : 0 ≤ x0) (h3 : x0 ≤ 5) (h4 : x0 = x1) : x0 ≤ 5 := by omega
theorem o35_494 {x0 x1 x2 x3 x4 : Int} (h0 : 0 ≤ x0) (h1 : x0 ≤ 4) (h2 : 0 ≤ x1) (h3 : x1 ≤ 4) (h4 : x2 = x0) (h5 : x3 = x1) (h6 : 0 ≤ x4) (h7 : x4 ≤ 4) (h8 : (x4 = 0 → 0 ≤ x2) ∧ (x4 = 0 → x2 ≤ 4) ∧ (x4 = 0 → 0 ≤ x3) ∧ (x4 = 0 → x3 ≤ 3)) (h9 : x4 = 0) : 0 ≤ x0 := by omega
theorem o35_495 {x0 x1 x2 x3 x4 : Int} (h0 : 0 ≤ x0) (h1 : x0 ≤ 4) (h2 : 0 ≤ x1) (h3 : x1 ≤ 4) (h4 : x2 = x0) (h5 : x3 = x1) (h6 : 0 ≤ x4) (h7 : x4 ≤ 4) (h8 : (x4 = 0 → 0 ≤ x2) ∧ (x4 = 0 → x2 ≤ 4) ∧ (x4 = 0 → 0 ≤ x3) ∧ (x4 = 0 → x3 ≤ 3)) (h9 : x4 = 0) : x0 ≤ 4 := by omega
theorem o35_496 {x0 x1 x2 x3 x4 : Int} (h0 : 0 ≤ x1) (h1 : x1 ≤ 4) (h2 : 0 ≤ x0) (h3 : x0 ≤ 4) (h4 : x2 = x1) (h5 : x3 = x0) (h6 : 0 ≤ x4) (h7 : x4 ≤ 4) (h8 : (x4 = 0 → 0 ≤ x2) ∧ (x4 = 0 → x2 ≤ 4) ∧ (x4 = 0 → 0 ≤ x3) ∧ (x4 = 0 → x3 ≤ 3)) (h9 : x4 = 0) : 0 ≤ x0 := by omega
theorem o35_497 {x0 x1 x2 x3 x4 : Int} (h0 : 0 ≤ x1) (h1 : x1 ≤ 4) (h2 : 0 ≤ x0) (h3 : x0 ≤ 4) (h4 : x2 = x1) (h5 : x3 = x0) (h6 : 0 ≤ x4) (h7 : x4 ≤ 4) (h8 : (x4 = 0 → 0 ≤ x2) ∧ (x4 = 0 → x2 ≤ 4) ∧ (x4 = 0 → 0 ≤ x3) ∧ (x4 = 0 → x3 ≤ 3)) (h9 : x4 = 0) : x0 ≤ 3 := by omega
theorem o35_498 {x0 x1 x2 x3 x4 : Int} (h0 : 0 ≤ x1) (h1 : x1 ≤ 4) (h2 : 0 ≤ x2) (h3 : x2 ≤ 4) (h4 : x3 = x1) (h5 : x4 = x2) (h6 : 0 ≤ x0) (h7 : x0 ≤ 4) (h8 : (x0 = 0 → 0 ≤ x3) ∧ (x0 = 0 → x3 ≤ 4) ∧ (x0 = 0 → 0 ≤ x4) ∧ (x0 = 0 → x4 ≤ 3)) (h9 : x0 = 0) : x0 = 0 := by omega
theorem o35_499 {x0 x1 x2 x3 x4 : Int} (h0 : 0 ≤ x0) (h1 : x0 ≤ 4) (h2 : 0 ≤ x2) (h3 : x2 ≤ 4) (h4 : x1 = x0) (h5 : x3 = x2) (h6 : 0 ≤ x4) (h7 : x4 ≤ 4) (h8 : (x4 = 0 → 0 ≤ x1) ∧ (x4 = 0 → x1 ≤ 4) ∧ (x4 = 0 → 0 ≤ x3) ∧ (x4 = 0 → x3 ≤ 3)) (h9 : x4 = 0) : (x0).toNat = (x1).toNat := by omega
theorem o35_500 {x0 x1 x2 x3 x4 : Int} (h0 : 0 ≤ x2) (h1 : x2 ≤ 4) (h2 : 0 ≤ x0) (h3 : x0 ≤ 4) (h4 : x3 = x2) (h5 : x1 = x0) (h6 : 0 ≤ x4) (h7 : x4 ≤ 4) (h8 : (x4 = 0 → 0 ≤ x3) ∧ (x4 = 0 → x3 ≤ 4) ∧ (x4 = 0 → 0 ≤ x1) ∧ (x4 = 0 → x1 ≤ 3)) (h9 : x4 = 0) : x0 = x1 := by omega
theorem o35_501 {x0 : Int} (h0 : x0 = 1) : 0 ≤ x0 := by omega
theorem o35_502 {x0 : Int} (h0 : x0 = 1) : x0 ≤ 1 := by omega
theorem o35_503 {x0 : Int} (h0 : x0 = 0) : x0 ≤ 1 := by omega
theorem o35_504 {x0 : Int} (h0 : x0 = 1) : x0 ≤ 20 := by omega
set_option maxHeartbeats 4000000 in
set_option maxRecDepth 100000 in
theorem c_X12_noTray (l : Launch) (G : GG) (Z : RZ) (ad : Nat → Nat) (ws0 : va_W) (hT : Ty G (SM tt) ad ws0) (a1 : Int32) : Mq l yX12_noTray cX12_noTray 2 (some .int) 2 G Z [.ref (ad 0), .int a1] ws0 (PI G (SM tt) ad [] ws0 (fun r u => ((-6) ≤ r.toInt) ∧ (r.toInt ≤ 0) ∧ ((r.toInt = -2 ∨ (0 ≤ a1.toInt ∧ a1.toInt ≤ 3))))) := by
  refine Mq.start (by decide) (Nat.le_of_ble_eq_true rfl) ?_
  intro p e s m below meth c A ls C0 hZ h hl
  have hl : lv_has ls 2 [(0, .ref (ad 0)), (1, .int a1)] := hl
  have h : Wt G (SM tt) ad A s s.heap [] ws0 := ⟨h, hT⟩
  obtain ⟨args, hargs⟩ : ∃ z, z = ([.ref (ad 0), .int a1] : List Value).toArray := ⟨_, rfl⟩
  rw [← hargs] at C0 ⊢
  have C0 : Cx p s m args meth c RX12 cX12_noTray 2 (some .int) := C0
  obtain ⟨Q, hQ⟩ : ∃ z, z = MQ below ((PI G (SM tt) ad [] ws0 (fun r u => ((-6) ≤ r.toInt) ∧ (r.toInt ≤ 0) ∧ ((r.toInt = -2 ∨ (0 ≤ a1.toInt ∧ a1.toInt ≤ 3))))) A) args s 0 0 A := ⟨_, rfl⟩
  rw [← hQ]
  refine lv_iload_n C0.1 C0.2.1 dX12_noTray_0 rfl (lv_at hl 1 rfl) ?_
  refine y_i2l C0 dX12_noTray_1 (fun w_1 e_2 => ?_)
  refine y_lc (v := 0) C0 (by decide) dX12_noTray_2 (fun w_3 e_4 => ?_)
  refine y_lc2 (n := 3) C0 q_1710 (by decide) dX12_noTray_3 (fun w_5 e_6 => ?_)
  refine y_ci h (y_rS (As := [.long w_1, .long w_3, .long w_5]) (rest := []) C0 hZ h (c_X12_within l G Z ad _ h.2 w_1 w_3 w_5) k_X12_within q_1580 q_1579 hl.1 rfl rfl (Nat.le_of_ble_eq_true rfl) dX12_noTray_6 ⟨Nat.le_of_ble_eq_true rfl, Nat.le_of_ble_eq_true rfl⟩ ⟨Nat.le_of_ble_eq_true rfl, Nat.le_of_ble_eq_true rfl⟩) (fun r_10 H locs ws_7 h u_8 p_9 => ?_)
  obtain ⟨e_11, e_12, e_13⟩ := p_9
  refine y_if_ne (tgt := 17) C0 dX12_noTray_9 (by decide) (fun c_14 => ?_) (fun c_14 => ?_)
  · -- 9
    refine lv_aload_n C0.1 C0.2.1 dX12_noTray_17 rfl (lv_at hl 0 rfl) ?_
    refine ng_X12_rowSort C0 h kSM_0 q_1479 dX12_noTray_18 ?_
    refine lv_iload_n C0.1 C0.2.1 dX12_noTray_21 rfl (lv_at hl 1 rfl) ?_
    refine y_iald C0 h kSM_23 rfl (by decide) (o35_1 e_2 e_4 e_6 e_11 e_12 e_13 c_14) (o35_2 e_2 e_4 e_6 e_11 e_12 e_13 c_14) dX12_noTray_22 (fun v_15 e_16 e_17 e_18 => ?_)
    refine y_c1 (n := (-1)) C0 (by decide) dX12_noTray_23 (fun v_19 e_20 => ?_)
    refine y_icmp_ne (tgt := 32) C0 dX12_noTray_24 (by decide) (fun c_21 => ?_) (fun c_21 => ?_)
    · -- 24
      refine y_c1 (n := 0) C0 (by decide) dX12_noTray_32 (fun v_22 e_23 => ?_)
      rw [hQ]
      exact y_iret C0 h u_8 ⟨(o35_3 e_23), (o35_4 e_23), (o35_5 e_2 e_4 e_6 e_11 e_12 e_13 c_14 e_23)⟩ dX12_noTray_33
    · -- 24
      refine y_c2 (n := (-6)) C0 (by decide) dX12_noTray_27 (fun v_24 e_25 => ?_)
      refine lv_goto (tgt := 33) C0.1 C0.2.1 dX12_noTray_29 (by decide) ?_
      rw [hQ]
      exact y_iret C0 h u_8 ⟨(o35_6 e_25), (o35_7 e_25), (o35_8 e_2 e_4 e_6 e_11 e_12 e_13 c_14 e_25)⟩ dX12_noTray_33
  · -- 9
    refine y_c2 (n := (-2)) C0 (by decide) dX12_noTray_12 (fun v_26 e_27 => ?_)
    refine lv_goto (tgt := 33) C0.1 C0.2.1 dX12_noTray_14 (by decide) ?_
    rw [hQ]
    exact y_iret C0 h u_8 ⟨(o35_9 e_27), (o35_10 e_27), (o35_11 e_2 e_4 e_6 e_11 e_12 e_13 c_14 e_27)⟩ dX12_noTray_33
set_option maxHeartbeats 4000000 in
set_option maxRecDepth 100000 in
theorem c_X12_fault (l : Launch) (G : GG) (Z : RZ) (ad : Nat → Nat) (ws0 : va_W) (hT : Ty G (SM tt) ad ws0) (a1 : Int32) : Mq l yX12_fault cX12_fault 2 (some .int) 1 G Z [.ref (ad 0), .int a1] ws0 (PI G (SM tt) ad [0] ws0 (fun r u => True)) := by
  refine Mq.start (by decide) (Nat.le_of_ble_eq_true rfl) ?_
  intro p e s m below meth c A ls C0 hZ h hl
  have hl : lv_has ls 2 [(0, .ref (ad 0)), (1, .int a1)] := hl
  have h : Wt G (SM tt) ad A s s.heap [] ws0 := ⟨h, hT⟩
  obtain ⟨args, hargs⟩ : ∃ z, z = ([.ref (ad 0), .int a1] : List Value).toArray := ⟨_, rfl⟩
  rw [← hargs] at C0 ⊢
  have C0 : Cx p s m args meth c RX12 cX12_fault 2 (some .int) := C0
  obtain ⟨Q, hQ⟩ : ∃ z, z = MQ below ((PI G (SM tt) ad [0] ws0 (fun r u => True)) A) args s 0 0 A := ⟨_, rfl⟩
  rw [← hQ]
  refine lv_aload_n C0.1 C0.2.1 dX12_fault_0 rfl (lv_at hl 0 rfl) ?_
  refine y_c1 (n := 0) C0 (by decide) dX12_fault_1 (fun v_1 e_2 => ?_)
  refine np_X12_thrown C0 h kSM_0 q_1438 (le_min v_1) (le_max v_1) dX12_fault_2 (fun H locs ws_3 h u_4 => ?_)
  refine lv_iload_n C0.1 C0.2.1 dX12_fault_5 rfl (lv_at hl 1 rfl) ?_
  refine y_if_ne (tgt := 16) C0 dX12_fault_6 (by decide) (fun c_5 => ?_) (fun c_5 => ?_)
  · -- 6
    refine lv_iload_n C0.1 C0.2.1 dX12_fault_16 rfl (lv_at hl 1 rfl) ?_
    refine y_c1 (n := 1) C0 (by decide) dX12_fault_17 (fun v_6 e_7 => ?_)
    refine y_icmp_ne (tgt := 28) C0 dX12_fault_18 (by decide) (fun c_8 => ?_) (fun c_8 => ?_)
    · -- 18
      refine y_c1 (n := (-1)) C0 (by decide) dX12_fault_28 (fun v_9 e_10 => ?_)
      rw [hQ]
      exact y_iret C0 h (Fr.up u_4.1 kSM_0 (by decide)) trivial dX12_fault_29
    · -- 18
      refine lv_aload_n C0.1 C0.2.1 dX12_fault_21 rfl (lv_at hl 0 rfl) ?_
      refine ng_X12_faultPlace C0 h kSM_0 q_1452 dX12_fault_22 (fun v_11 e_12 e_13 e_14 => ?_)
      refine lv_goto (tgt := 29) C0.1 C0.2.1 dX12_fault_25 (by decide) ?_
      rw [hQ]
      exact y_iret C0 h (Fr.up u_4.1 kSM_0 (by decide)) trivial dX12_fault_29
  · -- 6
    refine lv_aload_n C0.1 C0.2.1 dX12_fault_9 rfl (lv_at hl 0 rfl) ?_
    refine ng_X12_faultKind C0 h kSM_0 q_1451 dX12_fault_10 (fun v_15 e_16 e_17 e_18 => ?_)
    refine lv_goto (tgt := 29) C0.1 C0.2.1 dX12_fault_13 (by decide) ?_
    rw [hQ]
    exact y_iret C0 h (Fr.up u_4.1 kSM_0 (by decide)) trivial dX12_fault_29
set_option maxHeartbeats 4000000 in
set_option maxRecDepth 100000 in
theorem c_X12_person (l : Launch) (G : GG) (Z : RZ) (ad : Nat → Nat) (ws0 : va_W) (hT : Ty G (SM tt) ad ws0) (a1 : Int32) (a2 : Int32) (hJ : J ws0) : Mq l yX12_person cX12_person 3 (some .int) 3 G Z [.ref (ad 0), .int a1, .int a2] ws0 (PI G (SM tt) ad [0] ws0 (fun r u => True)) := by
  refine Mq.start (by decide) (Nat.le_of_ble_eq_true rfl) ?_
  intro p e s m below meth c A ls C0 hZ h hl
  have hl : lv_has ls 3 [(0, .ref (ad 0)), (1, .int a1), (2, .int a2)] := hl
  have h : Wt G (SM tt) ad A s s.heap [] ws0 := ⟨h, hT⟩
  obtain ⟨args, hargs⟩ : ∃ z, z = ([.ref (ad 0), .int a1, .int a2] : List Value).toArray := ⟨_, rfl⟩
  rw [← hargs] at C0 ⊢
  have C0 : Cx p s m args meth c RX12 cX12_person 3 (some .int) := C0
  obtain ⟨Q, hQ⟩ : ∃ z, z = MQ below ((PI G (SM tt) ad [0] ws0 (fun r u => True)) A) args s 0 0 A := ⟨_, rfl⟩
  rw [← hQ]
  refine lv_aload_n C0.1 C0.2.1 dX12_person_0 rfl (lv_at hl 0 rfl) ?_
  refine y_c1 (n := 0) C0 (by decide) dX12_person_1 (fun v_1 e_2 => ?_)
  refine np_X12_thrown C0 h kSM_0 q_1438 (le_min v_1) (le_max v_1) dX12_person_2 (fun H locs ws_3 h u_4 => ?_)
  refine lv_aload_n C0.1 C0.2.1 dX12_person_5 rfl (lv_at hl 0 rfl) ?_
  refine lv_iload_n C0.1 C0.2.1 dX12_person_6 rfl (lv_at hl 1 rfl) ?_
  refine y_i2l C0 dX12_person_7 (fun w_5 e_6 => ?_)
  refine y_ci h (y_rV (As := [.long w_5]) (rest := []) C0 hZ h (c_X12_isPerson l G Z ad _ h.2 w_5 (J.pa hT hJ (Pa.ud u_4.1 (by decide)))) k_X12_isPerson q_1693 q_77 q_1691 kSM_0 rfl rfl rfl hl.1 rfl rfl (Nat.le_of_ble_eq_true rfl) dX12_person_8 ⟨Nat.le_of_ble_eq_true rfl, Nat.le_of_ble_eq_true rfl⟩ ⟨Nat.le_of_ble_eq_true rfl, Nat.le_of_ble_eq_true rfl⟩) (fun r_10 H locs ws_7 h u_8 p_9 => ?_)
  obtain ⟨e_11, e_12, e_13, e_14⟩ := p_9
  refine y_if_ne (tgt := 17) C0 dX12_person_11 (by decide) (fun c_15 => ?_) (fun c_15 => ?_)
  · -- 11
    refine lv_iload_n C0.1 C0.2.1 dX12_person_17 rfl (lv_at hl 2 rfl) ?_
    by_cases sw_16 : a2.toInt < 0 ∨ 4 < a2.toInt
    · refine lv_tableOut (tgt := 102) C0.1 C0.2.1 dX12_person_18 sw_16 (by decide) ?_
      refine y_c2 (n := (-8)) C0 (by decide) dX12_person_102 (fun v_17 e_18 => ?_)
      rw [hQ]
      exact y_iret C0 h (Fr.tr (Fr.up u_4.1 kSM_0 (by decide)) (Fr.mono u_8 (by decide))) trivial dX12_person_104
    · obtain ⟨sw_161, sw_162⟩ := not_or.mp sw_16
      rcases (show a2.toInt = 0 ∨ a2.toInt = 1 ∨ a2.toInt = 2 ∨ a2.toInt = 3 ∨ a2.toInt = 4 by omega) with sw_164 | sw_164 | sw_164 | sw_164 | sw_164
      · refine lv_tableIn (off := 34) (tgt := 52) C0.1 C0.2.1 dX12_person_18 sw_161 sw_162 (by rw [sw_164]; rfl) (by decide) ?_
        refine lv_aload_n C0.1 C0.2.1 dX12_person_52 rfl (lv_at hl 0 rfl) ?_
        refine ng_X12_all C0 h kSM_0 q_1439 dX12_person_53 ?_
        refine y_c2 (n := 36) C0 (by decide) dX12_person_56 (fun v_19 e_20 => ?_)
        refine lv_iload_n C0.1 C0.2.1 dX12_person_58 rfl (lv_at hl 1 rfl) ?_
        refine y_add C0 (o35_12 e_6 e_11 e_12 e_13 c_15 e_20 (le_min v_19) (le_max v_19) (le_min a1) (le_max a1) (le_min r_10) (le_max r_10)) (o35_13 e_6 e_11 e_12 e_13 c_15 e_20 (le_min v_19) (le_max v_19) (le_min a1) (le_max a1) (le_min r_10) (le_max r_10)) dX12_person_59 (fun v_21 e_22 => ?_)
        refine y_iald C0 h kSM_1 rfl (by decide) (o35_14 e_6 e_11 e_12 e_13 c_15 e_20 e_22) (o35_15 e_6 e_11 e_12 e_13 c_15 e_20 e_22) dX12_person_60 (fun v_23 e_24 e_25 e_26 => ?_)
        have f_27 := o35_16 v_21.toInt.toNat (o35_17 e_6 e_11 e_12 e_13 c_15 e_20 e_22) (o35_18 e_6 e_11 e_12 e_13 c_15 e_20 e_22)
        rw [hQ]
        exact y_iret C0 h (Fr.tr (Fr.up u_4.1 kSM_0 (by decide)) (Fr.mono u_8 (by decide))) trivial dX12_person_61
      · refine lv_tableIn (off := 44) (tgt := 62) C0.1 C0.2.1 dX12_person_18 sw_161 sw_162 (by rw [sw_164]; rfl) (by decide) ?_
        refine lv_aload_n C0.1 C0.2.1 dX12_person_62 rfl (lv_at hl 0 rfl) ?_
        refine ng_X12_all C0 h kSM_0 q_1439 dX12_person_63 ?_
        refine y_c2 (n := 41) C0 (by decide) dX12_person_66 (fun v_28 e_29 => ?_)
        refine lv_iload_n C0.1 C0.2.1 dX12_person_68 rfl (lv_at hl 1 rfl) ?_
        refine y_add C0 (o35_19 e_6 e_11 e_12 e_13 c_15 e_29 (le_min v_28) (le_max v_28) (le_min a1) (le_max a1) (le_min r_10) (le_max r_10)) (o35_20 e_6 e_11 e_12 e_13 c_15 e_29 (le_min v_28) (le_max v_28) (le_min a1) (le_max a1) (le_min r_10) (le_max r_10)) dX12_person_69 (fun v_30 e_31 => ?_)
        refine y_iald C0 h kSM_1 rfl (by decide) (o35_21 e_6 e_11 e_12 e_13 c_15 e_29 e_31) (o35_22 e_6 e_11 e_12 e_13 c_15 e_29 e_31) dX12_person_70 (fun v_32 e_33 e_34 e_35 => ?_)
        have f_36 := o35_23 v_30.toInt.toNat (o35_24 e_6 e_11 e_12 e_13 c_15 e_29 e_31) (o35_25 e_6 e_11 e_12 e_13 c_15 e_29 e_31)
        rw [hQ]
        exact y_iret C0 h (Fr.tr (Fr.up u_4.1 kSM_0 (by decide)) (Fr.mono u_8 (by decide))) trivial dX12_person_71
      · refine lv_tableIn (off := 54) (tgt := 72) C0.1 C0.2.1 dX12_person_18 sw_161 sw_162 (by rw [sw_164]; rfl) (by decide) ?_
        refine lv_aload_n C0.1 C0.2.1 dX12_person_72 rfl (lv_at hl 0 rfl) ?_
        refine ng_X12_all C0 h kSM_0 q_1439 dX12_person_73 ?_
        refine y_c2 (n := 46) C0 (by decide) dX12_person_76 (fun v_37 e_38 => ?_)
        refine lv_iload_n C0.1 C0.2.1 dX12_person_78 rfl (lv_at hl 1 rfl) ?_
        refine y_add C0 (o35_26 e_6 e_11 e_12 e_13 c_15 e_38 (le_min v_37) (le_max v_37) (le_min a1) (le_max a1) (le_min r_10) (le_max r_10)) (o35_27 e_6 e_11 e_12 e_13 c_15 e_38 (le_min v_37) (le_max v_37) (le_min a1) (le_max a1) (le_min r_10) (le_max r_10)) dX12_person_79 (fun v_39 e_40 => ?_)
        refine y_iald C0 h kSM_1 rfl (by decide) (o35_28 e_6 e_11 e_12 e_13 c_15 e_38 e_40) (o35_29 e_6 e_11 e_12 e_13 c_15 e_38 e_40) dX12_person_80 (fun v_41 e_42 e_43 e_44 => ?_)
        have f_45 := o35_30 v_39.toInt.toNat (o35_31 e_6 e_11 e_12 e_13 c_15 e_38 e_40) (o35_32 e_6 e_11 e_12 e_13 c_15 e_38 e_40)
        rw [hQ]
        exact y_iret C0 h (Fr.tr (Fr.up u_4.1 kSM_0 (by decide)) (Fr.mono u_8 (by decide))) trivial dX12_person_81
      · refine lv_tableIn (off := 64) (tgt := 82) C0.1 C0.2.1 dX12_person_18 sw_161 sw_162 (by rw [sw_164]; rfl) (by decide) ?_
        refine lv_aload_n C0.1 C0.2.1 dX12_person_82 rfl (lv_at hl 0 rfl) ?_
        refine ng_X12_all C0 h kSM_0 q_1439 dX12_person_83 ?_
        refine y_c2 (n := 51) C0 (by decide) dX12_person_86 (fun v_46 e_47 => ?_)
        refine lv_iload_n C0.1 C0.2.1 dX12_person_88 rfl (lv_at hl 1 rfl) ?_
        refine y_add C0 (o35_33 e_6 e_11 e_12 e_13 c_15 e_47 (le_min v_46) (le_max v_46) (le_min a1) (le_max a1) (le_min r_10) (le_max r_10)) (o35_34 e_6 e_11 e_12 e_13 c_15 e_47 (le_min v_46) (le_max v_46) (le_min a1) (le_max a1) (le_min r_10) (le_max r_10)) dX12_person_89 (fun v_48 e_49 => ?_)
        refine y_iald C0 h kSM_1 rfl (by decide) (o35_35 e_6 e_11 e_12 e_13 c_15 e_47 e_49) (o35_36 e_6 e_11 e_12 e_13 c_15 e_47 e_49) dX12_person_90 (fun v_50 e_51 e_52 e_53 => ?_)
        rw [hQ]
        exact y_iret C0 h (Fr.tr (Fr.up u_4.1 kSM_0 (by decide)) (Fr.mono u_8 (by decide))) trivial dX12_person_91
      · refine lv_tableIn (off := 74) (tgt := 92) C0.1 C0.2.1 dX12_person_18 sw_161 sw_162 (by rw [sw_164]; rfl) (by decide) ?_
        refine lv_aload_n C0.1 C0.2.1 dX12_person_92 rfl (lv_at hl 0 rfl) ?_
        refine ng_X12_all C0 h kSM_0 q_1439 dX12_person_93 ?_
        refine y_c2 (n := 56) C0 (by decide) dX12_person_96 (fun v_54 e_55 => ?_)
        refine lv_iload_n C0.1 C0.2.1 dX12_person_98 rfl (lv_at hl 1 rfl) ?_
        refine y_add C0 (o35_37 e_6 e_11 e_12 e_13 c_15 e_55 (le_min v_54) (le_max v_54) (le_min a1) (le_max a1) (le_min r_10) (le_max r_10)) (o35_38 e_6 e_11 e_12 e_13 c_15 e_55 (le_min v_54) (le_max v_54) (le_min a1) (le_max a1) (le_min r_10) (le_max r_10)) dX12_person_99 (fun v_56 e_57 => ?_)
        refine y_iald C0 h kSM_1 rfl (by decide) (o35_39 e_6 e_11 e_12 e_13 c_15 e_55 e_57) (o35_40 e_6 e_11 e_12 e_13 c_15 e_55 e_57) dX12_person_100 (fun v_58 e_59 e_60 e_61 => ?_)
        rw [hQ]
        exact y_iret C0 h (Fr.tr (Fr.up u_4.1 kSM_0 (by decide)) (Fr.mono u_8 (by decide))) trivial dX12_person_101
  · -- 11
    refine y_c2 (n := (-8)) C0 (by decide) dX12_person_14 (fun v_62 e_63 => ?_)
    rw [hQ]
    exact y_iret C0 h (Fr.tr (Fr.up u_4.1 kSM_0 (by decide)) (Fr.mono u_8 (by decide))) trivial dX12_person_16
set_option maxHeartbeats 4000000 in
set_option maxRecDepth 100000 in
theorem c_X12_street (l : Launch) (G : GG) (Z : RZ) (ad : Nat → Nat) (ws0 : va_W) (hT : Ty G (SM tt) ad ws0) (a1 : Int32) (a2 : Int32) (hJ : J ws0) : Mq l yX12_street cX12_street 3 (some .int) 4 G Z [.ref (ad 0), .int a1, .int a2] ws0 (PI G (SM tt) ad [0] ws0 (fun r u => ((-2) ≤ r.toInt) ∧ (r.toInt ≤ 24))) := by
  refine Mq.start (by decide) (Nat.le_of_ble_eq_true rfl) ?_
  intro p e s m below meth c A ls C0 hZ h hl
  have hl : lv_has ls 3 [(0, .ref (ad 0)), (1, .int a1), (2, .int a2)] := hl
  have h : Wt G (SM tt) ad A s s.heap [] ws0 := ⟨h, hT⟩
  obtain ⟨args, hargs⟩ : ∃ z, z = ([.ref (ad 0), .int a1, .int a2] : List Value).toArray := ⟨_, rfl⟩
  rw [← hargs] at C0 ⊢
  have C0 : Cx p s m args meth c RX12 cX12_street 3 (some .int) := C0
  obtain ⟨Q, hQ⟩ : ∃ z, z = MQ below ((PI G (SM tt) ad [0] ws0 (fun r u => ((-2) ≤ r.toInt) ∧ (r.toInt ≤ 24))) A) args s 0 0 A := ⟨_, rfl⟩
  rw [← hQ]
  refine lv_aload_n C0.1 C0.2.1 dX12_street_0 rfl (lv_at hl 0 rfl) ?_
  refine y_c1 (n := 0) C0 (by decide) dX12_street_1 (fun v_1 e_2 => ?_)
  refine np_X12_thrown C0 h kSM_0 q_1438 (le_min v_1) (le_max v_1) dX12_street_2 (fun H locs ws_3 h u_4 => ?_)
  refine lv_aload_n C0.1 C0.2.1 dX12_street_5 rfl (lv_at hl 0 rfl) ?_
  refine lv_iload_n C0.1 C0.2.1 dX12_street_6 rfl (lv_at hl 1 rfl) ?_
  refine y_i2l C0 dX12_street_7 (fun w_5 e_6 => ?_)
  refine y_ci h (y_rV (As := [.long w_5]) (rest := []) C0 hZ h (c_X12_isCrossing l G Z ad _ h.2 w_5) k_X12_isCrossing q_1701 q_78 q_1699 kSM_0 rfl rfl rfl hl.1 rfl rfl (Nat.le_of_ble_eq_true rfl) dX12_street_8 ⟨Nat.le_of_ble_eq_true rfl, Nat.le_of_ble_eq_true rfl⟩ ⟨Nat.le_of_ble_eq_true rfl, Nat.le_of_ble_eq_true rfl⟩) (fun r_10 H locs ws_7 h u_8 p_9 => ?_)
  obtain ⟨e_11, e_12, e_13, e_14⟩ := p_9
  refine y_if_eq (tgt := 30) C0 dX12_street_11 (by decide) (fun c_15 => ?_) (fun c_15 => ?_)
  · -- 11
    refine y_c2 (n := (-2)) C0 (by decide) dX12_street_30 (fun v_16 e_17 => ?_)
    rw [hQ]
    exact y_iret C0 h (Fr.tr (Fr.up u_4.1 kSM_0 (by decide)) (Fr.mono u_8 (by decide))) ⟨(o35_41 e_17), (o35_42 e_17)⟩ dX12_street_32
  · -- 11
    refine lv_iload_n C0.1 C0.2.1 dX12_street_14 rfl (lv_at hl 2 rfl) ?_
    refine y_ci h (y_rS (As := [.int a2]) (rest := []) C0 hZ h (c_X12_isDirection l G Z ad _ h.2 a2) k_X12_isDirection q_1708 q_1707 hl.1 rfl rfl (Nat.le_of_ble_eq_true rfl) dX12_street_15 ⟨Nat.le_of_ble_eq_true rfl, Nat.le_of_ble_eq_true rfl⟩ ⟨Nat.le_of_ble_eq_true rfl, Nat.le_of_ble_eq_true rfl⟩) (fun r_21 H locs ws_18 h u_19 p_20 => ?_)
    obtain ⟨e_22, e_23, e_24⟩ := p_20
    refine y_if_eq (tgt := 30) C0 dX12_street_18 (by decide) (fun c_25 => ?_) (fun c_25 => ?_)
    · -- 18
      refine y_c2 (n := (-2)) C0 (by decide) dX12_street_30 (fun v_26 e_27 => ?_)
      rw [hQ]
      exact y_iret C0 h (Fr.tr (Fr.tr (Fr.up u_4.1 kSM_0 (by decide)) (Fr.mono u_8 (by decide))) (Fr.mono u_19 (by decide))) ⟨(o35_41 e_27), (o35_42 e_27)⟩ dX12_street_32
    · -- 18
      refine lv_aload_n C0.1 C0.2.1 dX12_street_21 rfl (lv_at hl 0 rfl) ?_
      refine lv_iload_n C0.1 C0.2.1 dX12_street_22 rfl (lv_at hl 1 rfl) ?_
      refine lv_iload_n C0.1 C0.2.1 dX12_street_23 rfl (lv_at hl 2 rfl) ?_
      refine y_ci h (y_rV (As := [.int a1, .int a2]) (rest := []) C0 hZ h (c_X12_streetFrom l G Z ad _ h.2 a1 a2 (o35_43 e_6 e_11 e_12 e_13 c_15) (o35_44 e_6 e_11 e_12 e_13 c_15) (o35_45 e_22 e_23 e_24 c_25) (o35_46 e_22 e_23 e_24 c_25) (Laid.pa (Or.resolve_left e_14 (o35_47 e_6 e_11 e_12 e_13 c_15)) (Pa.tr (Pa.fr u_8 (by decide)) (Pa.fr u_19 (by decide))))) k_X12_streetFrom q_1713 q_80 q_1711 kSM_0 rfl rfl rfl hl.1 rfl rfl (Nat.le_of_ble_eq_true rfl) dX12_street_24 ⟨Nat.le_of_ble_eq_true rfl, Nat.le_of_ble_eq_true rfl⟩ ⟨Nat.le_of_ble_eq_true rfl, Nat.le_of_ble_eq_true rfl⟩) (fun r_31 H locs ws_28 h u_29 p_30 => ?_)
      obtain ⟨e_32, e_33, e_34⟩ := p_30
      refine lv_goto (tgt := 32) C0.1 C0.2.1 dX12_street_27 (by decide) ?_
      rw [hQ]
      exact y_iret C0 h (Fr.tr (Fr.tr (Fr.tr (Fr.up u_4.1 kSM_0 (by decide)) (Fr.mono u_8 (by decide))) (Fr.mono u_19 (by decide))) (Fr.mono u_29 (by decide))) ⟨(o35_48 e_32 e_33), (o35_49 e_32 e_33)⟩ dX12_street_32
set_option maxHeartbeats 4000000 in
set_option maxRecDepth 100000 in
theorem c_X12_crossing (l : Launch) (G : GG) (Z : RZ) (ad : Nat → Nat) (ws0 : va_W) (hT : Ty G (SM tt) ad ws0) (a1 : Int32) (a2 : Int32) (hJ : J ws0) : Mq l yX12_crossing cX12_crossing 3 (some .int) 5 G Z [.ref (ad 0), .int a1, .int a2] ws0 (PI G (SM tt) ad [0, 5] ws0 (fun r u => True)) := by
  refine Mq.start (by decide) (Nat.le_of_ble_eq_true rfl) ?_
  intro p e s m below meth c A ls C0 hZ h hl
  have hl : lv_has ls 3 [(0, .ref (ad 0)), (1, .int a1), (2, .int a2)] := hl
  have h : Wt G (SM tt) ad A s s.heap [] ws0 := ⟨h, hT⟩
  obtain ⟨args, hargs⟩ : ∃ z, z = ([.ref (ad 0), .int a1, .int a2] : List Value).toArray := ⟨_, rfl⟩
  rw [← hargs] at C0 ⊢
  have C0 : Cx p s m args meth c RX12 cX12_crossing 3 (some .int) := C0
  obtain ⟨Q, hQ⟩ : ∃ z, z = MQ below ((PI G (SM tt) ad [0, 5] ws0 (fun r u => True)) A) args s 0 0 A := ⟨_, rfl⟩
  rw [← hQ]
  refine lv_aload_n C0.1 C0.2.1 dX12_crossing_0 rfl (lv_at hl 0 rfl) ?_
  refine y_c1 (n := 0) C0 (by decide) dX12_crossing_1 (fun v_1 e_2 => ?_)
  refine np_X12_thrown C0 h kSM_0 q_1438 (le_min v_1) (le_max v_1) dX12_crossing_2 (fun H locs ws_3 h u_4 => ?_)
  refine lv_aload_n C0.1 C0.2.1 dX12_crossing_5 rfl (lv_at hl 0 rfl) ?_
  refine lv_iload_n C0.1 C0.2.1 dX12_crossing_6 rfl (lv_at hl 1 rfl) ?_
  refine y_i2l C0 dX12_crossing_7 (fun w_5 e_6 => ?_)
  refine y_ci h (y_rV (As := [.long w_5]) (rest := []) C0 hZ h (c_X12_isCrossing l G Z ad _ h.2 w_5) k_X12_isCrossing q_1701 q_78 q_1699 kSM_0 rfl rfl rfl hl.1 rfl rfl (Nat.le_of_ble_eq_true rfl) dX12_crossing_8 ⟨Nat.le_of_ble_eq_true rfl, Nat.le_of_ble_eq_true rfl⟩ ⟨Nat.le_of_ble_eq_true rfl, Nat.le_of_ble_eq_true rfl⟩) (fun r_10 H locs ws_7 h u_8 p_9 => ?_)
  obtain ⟨e_11, e_12, e_13, e_14⟩ := p_9
  refine y_if_ne (tgt := 17) C0 dX12_crossing_11 (by decide) (fun c_15 => ?_) (fun c_15 => ?_)
  · -- 11
    refine lv_iload_n C0.1 C0.2.1 dX12_crossing_17 rfl (lv_at hl 2 rfl) ?_
    by_cases sw_16 : a2.toInt < 0 ∨ 4 < a2.toInt
    · refine lv_tableOut (tgt := 132) C0.1 C0.2.1 dX12_crossing_18 sw_16 (by decide) ?_
      refine y_c2 (n := (-2)) C0 (by decide) dX12_crossing_132 (fun v_17 e_18 => ?_)
      rw [hQ]
      exact y_iret C0 h (Fr.tr (Fr.up u_4.1 kSM_0 (by decide)) (Fr.mono u_8 (by decide))) trivial dX12_crossing_134
    · obtain ⟨sw_161, sw_162⟩ := not_or.mp sw_16
      rcases (show a2.toInt = 0 ∨ a2.toInt = 1 ∨ a2.toInt = 2 ∨ a2.toInt = 3 ∨ a2.toInt = 4 by omega) with sw_164 | sw_164 | sw_164 | sw_164 | sw_164
      · refine lv_tableIn (off := 34) (tgt := 52) C0.1 C0.2.1 dX12_crossing_18 sw_161 sw_162 (by rw [sw_164]; rfl) (by decide) ?_
        refine lv_aload_n C0.1 C0.2.1 dX12_crossing_52 rfl (lv_at hl 0 rfl) ?_
        refine lv_iload_n C0.1 C0.2.1 dX12_crossing_53 rfl (lv_at hl 1 rfl) ?_
        refine y_c1 (n := 0) C0 (by decide) dX12_crossing_54 (fun v_19 e_20 => ?_)
        refine y_c1 (n := 0) C0 (by decide) dX12_crossing_55 (fun v_21 e_22 => ?_)
        refine y_ci h (y_rV (As := [.int a1, .int v_19, .int v_21]) (rest := []) C0 hZ h (c_X12_priceOf l G Z ad _ h.2 a1 v_19 v_21 (o35_43 e_6 e_11 e_12 e_13 c_15) (o35_44 e_6 e_11 e_12 e_13 c_15) (o35_50 e_22) (o35_51 e_22) (J.pa hT hJ (Pa.tr (Pa.ud u_4.1 (by decide)) (Pa.fr u_8 (by decide)))) (Laid.pa (Or.resolve_left e_14 (o35_47 e_6 e_11 e_12 e_13 c_15)) (Pa.fr u_8 (by decide)))) k_X12_priceOf q_1724 q_81 q_1722 kSM_0 rfl rfl rfl hl.1 rfl rfl (Nat.le_of_ble_eq_true rfl) dX12_crossing_56 ⟨Nat.le_of_ble_eq_true rfl, Nat.le_of_ble_eq_true rfl⟩ ⟨Nat.le_of_ble_eq_true rfl, Nat.le_of_ble_eq_true rfl⟩) (fun r_26 H locs ws_23 h u_24 p_25 => ?_)
        have e_27 := p_25
        rw [hQ]
        exact y_iret C0 h (Fr.tr (Fr.tr (Fr.up u_4.1 kSM_0 (by decide)) (Fr.mono u_8 (by decide))) (Fr.mono u_24 (by decide))) trivial dX12_crossing_59
      · refine lv_tableIn (off := 42) (tgt := 60) C0.1 C0.2.1 dX12_crossing_18 sw_161 sw_162 (by rw [sw_164]; rfl) (by decide) ?_
        refine lv_aload_n C0.1 C0.2.1 dX12_crossing_60 rfl (lv_at hl 0 rfl) ?_
        refine ng_X12_all C0 h kSM_0 q_1439 dX12_crossing_61 ?_
        refine y_c2 (n := 61) C0 (by decide) dX12_crossing_64 (fun v_28 e_29 => ?_)
        refine lv_iload_n C0.1 C0.2.1 dX12_crossing_66 rfl (lv_at hl 1 rfl) ?_
        refine y_add C0 (o35_52 e_6 e_11 e_12 e_13 c_15 e_29 (le_min v_28) (le_max v_28) (le_min a1) (le_max a1) (le_min r_10) (le_max r_10)) (o35_53 e_6 e_11 e_12 e_13 c_15 e_29 (le_min v_28) (le_max v_28) (le_min a1) (le_max a1) (le_min r_10) (le_max r_10)) dX12_crossing_67 (fun v_30 e_31 => ?_)
        refine y_iald C0 h kSM_1 rfl (by decide) (o35_54 e_6 e_11 e_12 e_13 c_15 e_29 e_31) (o35_55 e_6 e_11 e_12 e_13 c_15 e_29 e_31) dX12_crossing_68 (fun v_32 e_33 e_34 e_35 => ?_)
        rw [hQ]
        exact y_iret C0 h (Fr.tr (Fr.up u_4.1 kSM_0 (by decide)) (Fr.mono u_8 (by decide))) trivial dX12_crossing_69
      · refine lv_tableIn (off := 52) (tgt := 70) C0.1 C0.2.1 dX12_crossing_18 sw_161 sw_162 (by rw [sw_164]; rfl) (by decide) ?_
        refine lv_aload_n C0.1 C0.2.1 dX12_crossing_70 rfl (lv_at hl 0 rfl) ?_
        refine lv_iload_n C0.1 C0.2.1 dX12_crossing_71 rfl (lv_at hl 1 rfl) ?_
        refine y_c1 (n := 0) C0 (by decide) dX12_crossing_72 (fun v_36 e_37 => ?_)
        refine y_ci h (y_rV (As := [.int a1, .int v_36]) (rest := []) C0 hZ h (c_X12_isFreeIn l G Z ad _ h.2 a1 v_36 (o35_43 e_6 e_11 e_12 e_13 c_15) (o35_44 e_6 e_11 e_12 e_13 c_15)) k_X12_isFreeIn q_1741 q_84 q_1739 kSM_0 rfl rfl rfl hl.1 rfl rfl (Nat.le_of_ble_eq_true rfl) dX12_crossing_73 ⟨Nat.le_of_ble_eq_true rfl, Nat.le_of_ble_eq_true rfl⟩ ⟨Nat.le_of_ble_eq_true rfl, Nat.le_of_ble_eq_true rfl⟩) (fun r_41 H locs ws_38 h u_39 p_40 => ?_)
        obtain ⟨e_42, e_43, e_44⟩ := p_40
        refine y_if_eq (tgt := 83) C0 dX12_crossing_76 (by decide) (fun c_45 => ?_) (fun c_45 => ?_)
        · -- 76
          refine y_c1 (n := 0) C0 (by decide) dX12_crossing_83 (fun v_46 e_47 => ?_)
          rw [hQ]
          exact y_iret C0 h (Fr.tr (Fr.tr (Fr.up u_4.1 kSM_0 (by decide)) (Fr.mono u_8 (by decide))) (Fr.mono u_39 (by decide))) trivial dX12_crossing_84
        · -- 76
          refine y_c1 (n := 1) C0 (by decide) dX12_crossing_79 (fun v_48 e_49 => ?_)
          refine lv_goto (tgt := 84) C0.1 C0.2.1 dX12_crossing_80 (by decide) ?_
          rw [hQ]
          exact y_iret C0 h (Fr.tr (Fr.tr (Fr.up u_4.1 kSM_0 (by decide)) (Fr.mono u_8 (by decide))) (Fr.mono u_39 (by decide))) trivial dX12_crossing_84
      · refine lv_tableIn (off := 67) (tgt := 85) C0.1 C0.2.1 dX12_crossing_18 sw_161 sw_162 (by rw [sw_164]; rfl) (by decide) ?_
        refine lv_aload_n C0.1 C0.2.1 dX12_crossing_85 rfl (lv_at hl 0 rfl) ?_
        refine ng_X12_all C0 h kSM_0 q_1439 dX12_crossing_86 ?_
        refine y_c2 (n := 86) C0 (by decide) dX12_crossing_89 (fun v_50 e_51 => ?_)
        refine lv_iload_n C0.1 C0.2.1 dX12_crossing_91 rfl (lv_at hl 1 rfl) ?_
        refine y_add C0 (o35_56 e_6 e_11 e_12 e_13 c_15 e_51 (le_min v_50) (le_max v_50) (le_min a1) (le_max a1) (le_min r_10) (le_max r_10)) (o35_57 e_6 e_11 e_12 e_13 c_15 e_51 (le_min v_50) (le_max v_50) (le_min a1) (le_max a1) (le_min r_10) (le_max r_10)) dX12_crossing_92 (fun v_52 e_53 => ?_)
        refine y_iald C0 h kSM_1 rfl (by decide) (o35_58 e_6 e_11 e_12 e_13 c_15 e_51 e_53) (o35_59 e_6 e_11 e_12 e_13 c_15 e_51 e_53) dX12_crossing_93 (fun v_54 e_55 e_56 e_57 => ?_)
        refine lv_aload_n C0.1 C0.2.1 dX12_crossing_94 rfl (lv_at hl 0 rfl) ?_
        refine ng_X12_all C0 h kSM_0 q_1439 dX12_crossing_95 ?_
        refine y_c2 (n := 111) C0 (by decide) dX12_crossing_98 (fun v_58 e_59 => ?_)
        refine y_iald C0 h kSM_1 rfl (by decide) (o35_60 e_59) (o35_61 e_59) dX12_crossing_100 (fun v_60 e_61 e_62 e_63 => ?_)
        have e_64 : aI ws_7 1 111 = v_60 := (congrArg (aI ws_7 1) (ix_c (c := 111) (o35_62 e_59))).symm.trans e_61
        refine y_icmp_le (tgt := 124) C0 dX12_crossing_101 (by decide) (fun c_65 => ?_) (fun c_65 => ?_)
        · -- 101
          refine y_c1 (n := 0) C0 (by decide) dX12_crossing_124 (fun v_66 e_67 => ?_)
          rw [hQ]
          exact y_iret C0 h (Fr.tr (Fr.up u_4.1 kSM_0 (by decide)) (Fr.mono u_8 (by decide))) trivial dX12_crossing_125
        · -- 101
          refine lv_aload_n C0.1 C0.2.1 dX12_crossing_104 rfl (lv_at hl 0 rfl) ?_
          refine ng_X12_all C0 h kSM_0 q_1439 dX12_crossing_105 ?_
          refine y_c2 (n := 86) C0 (by decide) dX12_crossing_108 (fun v_68 e_69 => ?_)
          refine lv_iload_n C0.1 C0.2.1 dX12_crossing_110 rfl (lv_at hl 1 rfl) ?_
          refine y_add C0 (o35_63 e_6 e_11 e_12 e_13 c_15 e_51 e_53 e_69 (le_min v_68) (le_max v_68) (le_min a1) (le_max a1) (le_min r_10) (le_max r_10) (le_min v_50) (le_max v_50) (le_min v_52) (le_max v_52)) (o35_64 e_6 e_11 e_12 e_13 c_15 e_51 e_53 e_69 (le_min v_68) (le_max v_68) (le_min a1) (le_max a1) (le_min r_10) (le_max r_10) (le_min v_50) (le_max v_50) (le_min v_52) (le_max v_52)) dX12_crossing_111 (fun v_70 e_71 => ?_)
          refine y_iald C0 h kSM_1 rfl (by decide) (o35_65 e_6 e_11 e_12 e_13 c_15 e_51 e_53 e_69 e_71) (o35_66 e_6 e_11 e_12 e_13 c_15 e_51 e_53 e_69 e_71) dX12_crossing_112 (fun v_72 e_73 e_74 e_75 => ?_)
          have q_76 : v_72.toInt = v_54.toInt := congrArg Int32.toInt (e_73.symm.trans (Eq.trans (congrArg (aI ws_7 1) (o35_67 e_6 e_11 e_12 e_13 c_15 e_51 e_53 e_69 e_71)) (Eq.trans rfl e_55)))
          refine lv_aload_n C0.1 C0.2.1 dX12_crossing_113 rfl (lv_at hl 0 rfl) ?_
          refine ng_X12_all C0 h kSM_0 q_1439 dX12_crossing_114 ?_
          refine y_c2 (n := 111) C0 (by decide) dX12_crossing_117 (fun v_77 e_78 => ?_)
          refine y_iald C0 h kSM_1 rfl (by decide) (o35_60 e_78) (o35_61 e_78) dX12_crossing_119 (fun v_79 e_80 e_81 e_82 => ?_)
          have e_83 : aI ws_7 1 111 = v_79 := (congrArg (aI ws_7 1) (ix_c (c := 111) (o35_62 e_78))).symm.trans e_80
          have q_84 : v_79.toInt = v_60.toInt := congrArg Int32.toInt (e_83.symm.trans (Eq.trans rfl e_64))
          refine y_isubU C0 dX12_crossing_120 (fun v_85 => ?_)
          refine lv_goto (tgt := 125) C0.1 C0.2.1 dX12_crossing_121 (by decide) ?_
          rw [hQ]
          exact y_iret C0 h (Fr.tr (Fr.up u_4.1 kSM_0 (by decide)) (Fr.mono u_8 (by decide))) trivial dX12_crossing_125
      · refine lv_tableIn (off := 108) (tgt := 126) C0.1 C0.2.1 dX12_crossing_18 sw_161 sw_162 (by rw [sw_164]; rfl) (by decide) ?_
        refine lv_aload_n C0.1 C0.2.1 dX12_crossing_126 rfl (lv_at hl 0 rfl) ?_
        refine lv_iload_n C0.1 C0.2.1 dX12_crossing_127 rfl (lv_at hl 1 rfl) ?_
        refine y_ci h (y_rV (As := [.int a1]) (rest := []) C0 hZ h (c_X12_streetsFrom l G Z ad _ h.2 a1 (o35_43 e_6 e_11 e_12 e_13 c_15) (o35_44 e_6 e_11 e_12 e_13 c_15) (Laid.pa (Or.resolve_left e_14 (o35_47 e_6 e_11 e_12 e_13 c_15)) (Pa.fr u_8 (by decide)))) k_X12_streetsFrom q_1745 q_85 q_1743 kSM_0 rfl rfl rfl hl.1 rfl rfl (Nat.le_of_ble_eq_true rfl) dX12_crossing_128 ⟨Nat.le_of_ble_eq_true rfl, Nat.le_of_ble_eq_true rfl⟩ ⟨Nat.le_of_ble_eq_true rfl, Nat.le_of_ble_eq_true rfl⟩) (fun r_89 H locs ws_86 h u_87 p_88 => ?_)
        rw [hQ]
        exact y_iret C0 h (Fr.tr (Fr.tr (Fr.up u_4.1 kSM_0 (by decide)) (Fr.mono u_8 (by decide))) (Fr.mono u_87 (by decide))) trivial dX12_crossing_131
  · -- 11
    refine y_c2 (n := (-2)) C0 (by decide) dX12_crossing_14 (fun v_90 e_91 => ?_)
    rw [hQ]
    exact y_iret C0 h (Fr.tr (Fr.up u_4.1 kSM_0 (by decide)) (Fr.mono u_8 (by decide))) trivial dX12_crossing_16
set_option maxHeartbeats 4000000 in
set_option maxRecDepth 100000 in
theorem c_X12_price (l : Launch) (G : GG) (Z : RZ) (ad : Nat → Nat) (ws0 : va_W) (hT : Ty G (SM tt) ad ws0) (a1 : Int32) (a2 : Int32) (a3 : Int32) (hJ : J ws0) : Mq l yX12_price cX12_price 4 (some .int) 4 G Z [.ref (ad 0), .int a1, .int a2, .int a3] ws0 (PI G (SM tt) ad [0, 5] ws0 (fun r u => ((-3) ≤ r.toInt))) := by
  refine Mq.start (by decide) (Nat.le_of_ble_eq_true rfl) ?_
  intro p e s m below meth c A ls C0 hZ h hl
  have hl : lv_has ls 4 [(0, .ref (ad 0)), (1, .int a1), (2, .int a2), (3, .int a3)] := hl
  have h : Wt G (SM tt) ad A s s.heap [] ws0 := ⟨h, hT⟩
  obtain ⟨args, hargs⟩ : ∃ z, z = ([.ref (ad 0), .int a1, .int a2, .int a3] : List Value).toArray := ⟨_, rfl⟩
  rw [← hargs] at C0 ⊢
  have C0 : Cx p s m args meth c RX12 cX12_price 4 (some .int) := C0
  obtain ⟨Q, hQ⟩ : ∃ z, z = MQ below ((PI G (SM tt) ad [0, 5] ws0 (fun r u => ((-3) ≤ r.toInt))) A) args s 0 0 A := ⟨_, rfl⟩
  rw [← hQ]
  refine lv_aload_n C0.1 C0.2.1 dX12_price_0 rfl (lv_at hl 0 rfl) ?_
  refine y_c1 (n := 0) C0 (by decide) dX12_price_1 (fun v_1 e_2 => ?_)
  refine np_X12_thrown C0 h kSM_0 q_1438 (le_min v_1) (le_max v_1) dX12_price_2 (fun H locs ws_3 h u_4 => ?_)
  refine lv_aload_n C0.1 C0.2.1 dX12_price_5 rfl (lv_at hl 0 rfl) ?_
  refine lv_iload_n C0.1 C0.2.1 dX12_price_6 rfl (lv_at hl 1 rfl) ?_
  refine y_i2l C0 dX12_price_7 (fun w_5 e_6 => ?_)
  refine y_ci h (y_rV (As := [.long w_5]) (rest := []) C0 hZ h (c_X12_isCrossing l G Z ad _ h.2 w_5) k_X12_isCrossing q_1701 q_78 q_1699 kSM_0 rfl rfl rfl hl.1 rfl rfl (Nat.le_of_ble_eq_true rfl) dX12_price_8 ⟨Nat.le_of_ble_eq_true rfl, Nat.le_of_ble_eq_true rfl⟩ ⟨Nat.le_of_ble_eq_true rfl, Nat.le_of_ble_eq_true rfl⟩) (fun r_10 H locs ws_7 h u_8 p_9 => ?_)
  obtain ⟨e_11, e_12, e_13, e_14⟩ := p_9
  refine y_if_eq (tgt := 21) C0 dX12_price_11 (by decide) (fun c_15 => ?_) (fun c_15 => ?_)
  · -- 11
    refine y_c2 (n := (-2)) C0 (by decide) dX12_price_21 (fun v_16 e_17 => ?_)
    rw [hQ]
    exact y_iret C0 h (Fr.tr (Fr.up u_4.1 kSM_0 (by decide)) (Fr.mono u_8 (by decide))) (o35_68 e_17) dX12_price_23
  · -- 11
    refine lv_iload_n C0.1 C0.2.1 dX12_price_14 rfl (lv_at hl 2 rfl) ?_
    refine y_ci h (y_rS (As := [.int a2]) (rest := []) C0 hZ h (c_X12_isDirection l G Z ad _ h.2 a2) k_X12_isDirection q_1708 q_1707 hl.1 rfl rfl (Nat.le_of_ble_eq_true rfl) dX12_price_15 ⟨Nat.le_of_ble_eq_true rfl, Nat.le_of_ble_eq_true rfl⟩ ⟨Nat.le_of_ble_eq_true rfl, Nat.le_of_ble_eq_true rfl⟩) (fun r_21 H locs ws_18 h u_19 p_20 => ?_)
    obtain ⟨e_22, e_23, e_24⟩ := p_20
    refine y_if_ne (tgt := 24) C0 dX12_price_18 (by decide) (fun c_25 => ?_) (fun c_25 => ?_)
    · -- 18
      refine lv_iload_n C0.1 C0.2.1 dX12_price_24 rfl (lv_at hl 3 rfl) ?_
      refine y_i2l C0 dX12_price_25 (fun w_26 e_27 => ?_)
      refine y_lc (v := 0) C0 (by decide) dX12_price_26 (fun w_28 e_29 => ?_)
      refine y_lc2 (n := 999) C0 q_1751 (by decide) dX12_price_27 (fun w_30 e_31 => ?_)
      refine y_ci h (y_rS (As := [.long w_26, .long w_28, .long w_30]) (rest := []) C0 hZ h (c_X12_within l G Z ad _ h.2 w_26 w_28 w_30) k_X12_within q_1580 q_1579 hl.1 rfl rfl (Nat.le_of_ble_eq_true rfl) dX12_price_30 ⟨Nat.le_of_ble_eq_true rfl, Nat.le_of_ble_eq_true rfl⟩ ⟨Nat.le_of_ble_eq_true rfl, Nat.le_of_ble_eq_true rfl⟩) (fun r_35 H locs ws_32 h u_33 p_34 => ?_)
      obtain ⟨e_36, e_37, e_38⟩ := p_34
      refine y_if_eq (tgt := 46) C0 dX12_price_33 (by decide) (fun c_39 => ?_) (fun c_39 => ?_)
      · -- 33
        refine y_c2 (n := (-3)) C0 (by decide) dX12_price_46 (fun v_40 e_41 => ?_)
        rw [hQ]
        exact y_iret C0 h (Fr.tr (Fr.tr (Fr.tr (Fr.up u_4.1 kSM_0 (by decide)) (Fr.mono u_8 (by decide))) (Fr.mono u_19 (by decide))) (Fr.mono u_33 (by decide))) (o35_69 e_41) dX12_price_48
      · -- 33
        refine lv_aload_n C0.1 C0.2.1 dX12_price_36 rfl (lv_at hl 0 rfl) ?_
        refine lv_iload_n C0.1 C0.2.1 dX12_price_37 rfl (lv_at hl 1 rfl) ?_
        refine lv_iload_n C0.1 C0.2.1 dX12_price_38 rfl (lv_at hl 3 rfl) ?_
        refine lv_iload_n C0.1 C0.2.1 dX12_price_39 rfl (lv_at hl 2 rfl) ?_
        refine y_ci h (y_rV (As := [.int a1, .int a3, .int a2]) (rest := []) C0 hZ h (c_X12_priceOf l G Z ad _ h.2 a1 a3 a2 (o35_43 e_6 e_11 e_12 e_13 c_15) (o35_44 e_6 e_11 e_12 e_13 c_15) (o35_45 e_22 e_23 e_24 c_25) (o35_46 e_22 e_23 e_24 c_25) (J.pa hT hJ (Pa.tr (Pa.tr (Pa.tr (Pa.ud u_4.1 (by decide)) (Pa.fr u_8 (by decide))) (Pa.fr u_19 (by decide))) (Pa.fr u_33 (by decide)))) (Laid.pa (Or.resolve_left e_14 (o35_47 e_6 e_11 e_12 e_13 c_15)) (Pa.tr (Pa.tr (Pa.fr u_8 (by decide)) (Pa.fr u_19 (by decide))) (Pa.fr u_33 (by decide))))) k_X12_priceOf q_1724 q_81 q_1722 kSM_0 rfl rfl rfl hl.1 rfl rfl (Nat.le_of_ble_eq_true rfl) dX12_price_40 ⟨Nat.le_of_ble_eq_true rfl, Nat.le_of_ble_eq_true rfl⟩ ⟨Nat.le_of_ble_eq_true rfl, Nat.le_of_ble_eq_true rfl⟩) (fun r_45 H locs ws_42 h u_43 p_44 => ?_)
        have e_46 := p_44
        refine lv_goto (tgt := 48) C0.1 C0.2.1 dX12_price_43 (by decide) ?_
        rw [hQ]
        exact y_iret C0 h (Fr.tr (Fr.tr (Fr.tr (Fr.tr (Fr.up u_4.1 kSM_0 (by decide)) (Fr.mono u_8 (by decide))) (Fr.mono u_19 (by decide))) (Fr.mono u_33 (by decide))) (Fr.mono u_43 (by decide))) (o35_70 e_46) dX12_price_48
    · -- 18
      refine y_c2 (n := (-2)) C0 (by decide) dX12_price_21 (fun v_47 e_48 => ?_)
      rw [hQ]
      exact y_iret C0 h (Fr.tr (Fr.tr (Fr.up u_4.1 kSM_0 (by decide)) (Fr.mono u_8 (by decide))) (Fr.mono u_19 (by decide))) (o35_68 e_48) dX12_price_23
set_option maxHeartbeats 4000000 in
set_option maxRecDepth 100000 in
theorem c_X12_why (l : Launch) (G : GG) (Z : RZ) (ad : Nat → Nat) (ws0 : va_W) (hT : Ty G (SM tt) ad ws0) (a1 : Int32) (a2 : Int32) (hJ : J ws0) : Mq l yX12_why cX12_why 3 (some .int) 5 G Z [.ref (ad 0), .int a1, .int a2] ws0 (PI G (SM tt) ad [0, 5] ws0 (fun r u => (0 ≤ r.toInt) ∧ (r.toInt ≤ 4))) := by
  refine Mq.start (by decide) (Nat.le_of_ble_eq_true rfl) ?_
  intro p e s m below meth c A ls C0 hZ h hl
  have hl : lv_has ls 3 [(0, .ref (ad 0)), (1, .int a1), (2, .int a2)] := hl
  have h : Wt G (SM tt) ad A s s.heap [] ws0 := ⟨h, hT⟩
  obtain ⟨args, hargs⟩ : ∃ z, z = ([.ref (ad 0), .int a1, .int a2] : List Value).toArray := ⟨_, rfl⟩
  rw [← hargs] at C0 ⊢
  have C0 : Cx p s m args meth c RX12 cX12_why 3 (some .int) := C0
  obtain ⟨Q, hQ⟩ : ∃ z, z = MQ below ((PI G (SM tt) ad [0, 5] ws0 (fun r u => (0 ≤ r.toInt) ∧ (r.toInt ≤ 4))) A) args s 0 0 A := ⟨_, rfl⟩
  rw [← hQ]
  refine lv_aload_n C0.1 C0.2.1 dX12_why_0 rfl (lv_at hl 0 rfl) ?_
  refine y_c1 (n := 0) C0 (by decide) dX12_why_1 (fun v_1 e_2 => ?_)
  refine np_X12_thrown C0 h kSM_0 q_1438 (le_min v_1) (le_max v_1) dX12_why_2 (fun H locs ws_3 h u_4 => ?_)
  refine lv_aload_n C0.1 C0.2.1 dX12_why_5 rfl (lv_at hl 0 rfl) ?_
  refine lv_iload_n C0.1 C0.2.1 dX12_why_6 rfl (lv_at hl 1 rfl) ?_
  refine y_i2l C0 dX12_why_7 (fun w_5 e_6 => ?_)
  refine lv_iload_n C0.1 C0.2.1 dX12_why_8 rfl (lv_at hl 2 rfl) ?_
  refine y_i2l C0 dX12_why_9 (fun w_7 e_8 => ?_)
  refine y_ci h (y_rV (As := [.long w_5, .long w_7]) (rest := []) C0 hZ h (c_X12_whyNot l G Z ad _ h.2 w_5 w_7 (J.pa hT hJ (Pa.ud u_4.1 (by decide)))) k_X12_whyNot q_1758 q_86 q_1756 kSM_0 rfl rfl rfl hl.1 rfl rfl (Nat.le_of_ble_eq_true rfl) dX12_why_10 ⟨Nat.le_of_ble_eq_true rfl, Nat.le_of_ble_eq_true rfl⟩ ⟨Nat.le_of_ble_eq_true rfl, Nat.le_of_ble_eq_true rfl⟩) (fun r_12 H locs ws_9 h u_10 p_11 => ?_)
  obtain ⟨e_13, e_14, e_15, e_16, e_17⟩ := p_11
  rw [hQ]
  exact y_iret C0 h (Fr.tr (Fr.up u_4.1 kSM_0 (by decide)) (Fr.mono u_10 (by decide))) ⟨(o35_71 e_6 e_8 e_13 e_14 e_15), (o35_72 e_6 e_8 e_13 e_14 e_15)⟩ dX12_why_13
set_option maxHeartbeats 4000000 in
set_option maxRecDepth 100000 in
theorem c_X12_go (l : Launch) (G : GG) (Z : RZ) (ad : Nat → Nat) (ws0 : va_W) (hT : Ty G (SM tt) ad ws0) (a1 : Int32) (a2 : Int32) (hJ : J ws0) : Mq l yX12_go cX12_go 4 (some .int) 5 G Z [.ref (ad 0), .int a1, .int a2] ws0 (PI G (SM tt) ad [0, 1, 5, 6] ws0 (fun r u => ((-14) ≤ r.toInt) ∧ (r.toInt ≤ 24) ∧ (Pa ws0 u) ∧ (Pw ws0 u))) := by
  refine Mq.start (by decide) (Nat.le_of_ble_eq_true rfl) ?_
  intro p e s m below meth c A ls C0 hZ h hl
  have hl : lv_has ls 4 [(0, .ref (ad 0)), (1, .int a1), (2, .int a2)] := hl
  have h : Wt G (SM tt) ad A s s.heap [] ws0 := ⟨h, hT⟩
  obtain ⟨args, hargs⟩ : ∃ z, z = ([.ref (ad 0), .int a1, .int a2] : List Value).toArray := ⟨_, rfl⟩
  rw [← hargs] at C0 ⊢
  have C0 : Cx p s m args meth c RX12 cX12_go 4 (some .int) := C0
  obtain ⟨Q, hQ⟩ : ∃ z, z = MQ below ((PI G (SM tt) ad [0, 1, 5, 6] ws0 (fun r u => ((-14) ≤ r.toInt) ∧ (r.toInt ≤ 24) ∧ (Pa ws0 u) ∧ (Pw ws0 u))) A) args s 0 0 A := ⟨_, rfl⟩
  rw [← hQ]
  refine lv_aload_n C0.1 C0.2.1 dX12_go_0 rfl (lv_at hl 0 rfl) ?_
  refine y_c1 (n := 0) C0 (by decide) dX12_go_1 (fun v_1 e_2 => ?_)
  refine np_X12_thrown C0 h kSM_0 q_1438 (le_min v_1) (le_max v_1) dX12_go_2 (fun H locs ws_3 h u_4 => ?_)
  refine lv_aload_n C0.1 C0.2.1 dX12_go_5 rfl (lv_at hl 0 rfl) ?_
  refine lv_iload_n C0.1 C0.2.1 dX12_go_6 rfl (lv_at hl 1 rfl) ?_
  refine y_i2l C0 dX12_go_7 (fun w_5 e_6 => ?_)
  refine lv_iload_n C0.1 C0.2.1 dX12_go_8 rfl (lv_at hl 2 rfl) ?_
  refine y_i2l C0 dX12_go_9 (fun w_7 e_8 => ?_)
  refine y_ci h (y_rV (As := [.long w_5, .long w_7]) (rest := []) C0 hZ h (c_X12_whyNot l G Z ad _ h.2 w_5 w_7 (J.pa hT hJ (Pa.ud u_4.1 (by decide)))) k_X12_whyNot q_1758 q_86 q_1756 kSM_0 rfl rfl rfl hl.1 rfl rfl (Nat.le_of_ble_eq_true rfl) dX12_go_10 ⟨Nat.le_of_ble_eq_true rfl, Nat.le_of_ble_eq_true rfl⟩ ⟨Nat.le_of_ble_eq_true rfl, Nat.le_of_ble_eq_true rfl⟩) (fun r_12 H locs ws_9 h u_10 p_11 => ?_)
  obtain ⟨e_13, e_14, e_15, e_16, e_17⟩ := p_11
  refine lv_istore_n (lv' := [(3, .int r_12), (0, .ref (ad 0)), (1, .int a1), (2, .int a2)]) C0.1 C0.2.1 dX12_go_13 rfl hl (by decide) rfl (fun ls hl => ?_)
  refine lv_iload_n C0.1 C0.2.1 dX12_go_14 rfl (lv_at hl 0 rfl) ?_
  refine y_if_eq (tgt := 23) C0 dX12_go_15 (by decide) (fun c_18 => ?_) (fun c_18 => ?_)
  · -- 15
    refine lv_aload_n C0.1 C0.2.1 dX12_go_23 rfl (lv_at hl 1 rfl) ?_
    refine y_cv h (y_rV (As := []) (rest := []) C0 hZ h (c_X12_keeps l G Z ad _ h.2) k_X12_keeps q_1777 q_88 q_1775 kSM_0 rfl rfl rfl hl.1 rfl rfl (Nat.le_of_ble_eq_true rfl) dX12_go_24 ⟨Nat.le_of_ble_eq_true rfl, Nat.le_of_ble_eq_true rfl⟩ ⟨Nat.le_of_ble_eq_true rfl, Nat.le_of_ble_eq_true rfl⟩) (fun H locs ws_19 h u_20 p_21 => ?_)
    refine lv_aload_n C0.1 C0.2.1 dX12_go_27 rfl (lv_at hl 1 rfl) ?_
    refine lv_iload_n C0.1 C0.2.1 dX12_go_28 rfl (lv_at hl 2 rfl) ?_
    refine lv_iload_n C0.1 C0.2.1 dX12_go_29 rfl (lv_at hl 3 rfl) ?_
    refine y_ci h (y_rV (As := [.int a1, .int a2]) (rest := []) C0 hZ h (c_X12_goes l G Z ad _ h.2 a1 a2 (o35_73 e_6 e_8 e_13 e_14 e_15 c_18) (o35_74 e_6 e_8 e_13 e_14 e_15 c_18) (o35_75 e_6 e_8 e_13 e_14 e_15 c_18) (o35_76 e_6 e_8 e_13 e_14 e_15 c_18) ((CanM.fr u_20 (by decide) (CanM.fr u_10 (by decide) (CanM.cg (e_16 (o35_77 e_6 e_8 e_13 e_14 e_15 c_18)) (o35_78 e_6 e_8 e_13 e_14 e_15 c_18) (o35_79 e_6 e_8 e_13 e_14 e_15 c_18))))) (Laid.pa (e_17 (o35_77 e_6 e_8 e_13 e_14 e_15 c_18)) (Pa.tr (Pa.fr u_10 (by decide)) (Pa.fr u_20 (by decide))))) k_X12_goes q_1781 q_89 q_1779 kSM_0 rfl rfl rfl hl.1 rfl rfl (Nat.le_of_ble_eq_true rfl) dX12_go_30 ⟨Nat.le_of_ble_eq_true rfl, Nat.le_of_ble_eq_true rfl⟩ ⟨Nat.le_of_ble_eq_true rfl, Nat.le_of_ble_eq_true rfl⟩) (fun r_25 H locs ws_22 h u_23 p_24 => ?_)
    obtain ⟨e_26, e_27, e_28, e_29⟩ := p_24
    refine lv_pop C0.1 C0.2.1 dX12_go_33 rfl ?_
    refine lv_aload_n C0.1 C0.2.1 dX12_go_34 rfl (lv_at hl 1 rfl) ?_
    refine y_cv h (y_rV (As := []) (rest := []) C0 hZ h (c_X12_notes l G Z ad _ h.2) k_X12_notes q_1788 q_90 q_1786 kSM_0 rfl rfl rfl hl.1 rfl rfl (Nat.le_of_ble_eq_true rfl) dX12_go_35 ⟨Nat.le_of_ble_eq_true rfl, Nat.le_of_ble_eq_true rfl⟩ ⟨Nat.le_of_ble_eq_true rfl, Nat.le_of_ble_eq_true rfl⟩) (fun H locs ws_30 h u_31 p_32 => ?_)
    obtain ⟨e_33, e_34⟩ := p_32
    refine lv_aload_n C0.1 C0.2.1 dX12_go_38 rfl (lv_at hl 1 rfl) ?_
    refine ng_X12_all C0 h kSM_0 q_1439 dX12_go_39 ?_
    refine y_c2 (n := 36) C0 (by decide) dX12_go_42 (fun v_35 e_36 => ?_)
    refine lv_iload_n C0.1 C0.2.1 dX12_go_44 rfl (lv_at hl 2 rfl) ?_
    refine y_add C0 (o35_80 e_6 e_8 e_13 e_14 e_15 c_18 e_36 (le_min v_35) (le_max v_35) (le_min a1) (le_max a1) (le_min a2) (le_max a2) (le_min r_12) (le_max r_12)) (o35_81 e_6 e_8 e_13 e_14 e_15 c_18 e_36 (le_min v_35) (le_max v_35) (le_min a1) (le_max a1) (le_min a2) (le_max a2) (le_min r_12) (le_max r_12)) dX12_go_45 (fun v_37 e_38 => ?_)
    refine y_iald C0 h kSM_1 rfl (by decide) (o35_82 e_6 e_8 e_13 e_14 e_15 c_18 e_36 e_38) (o35_83 e_6 e_8 e_13 e_14 e_15 c_18 e_36 e_38) dX12_go_46 (fun v_39 e_40 e_41 e_42 => ?_)
    have f_43 := o35_16 v_37.toInt.toNat (o35_84 e_6 e_8 e_13 e_14 e_15 c_18 e_36 e_38) (o35_85 e_6 e_8 e_13 e_14 e_15 c_18 e_36 e_38)
    rw [hQ]
    exact y_iret C0 h (Fr.tr (Fr.tr (Fr.tr (Fr.tr (Fr.up u_4.1 kSM_0 (by decide)) (Fr.mono u_10 (by decide))) (Fr.mono u_20 (by decide))) (Fr.mono u_23 (by decide))) (Fr.mono u_31 (by decide))) ⟨(o35_86 (Int.le_trans f_43.1 e_41) (Int.le_trans e_42 f_43.2)), (o35_87 (Int.le_trans f_43.1 e_41) (Int.le_trans e_42 f_43.2)), (Pa.tr (Pa.tr (Pa.tr (Pa.tr (Pa.ud u_4.1 (by decide)) (Pa.fr u_10 (by decide))) (Pa.fr u_20 (by decide))) e_28) e_33), (Pw.tr (Pw.tr (Pw.tr (Pw.tr (Pw.ud u_4.1 (by decide)) (Pw.fr u_10 (by decide))) (Pw.fr u_20 (by decide))) e_29) e_34)⟩ dX12_go_47
  · -- 15
    refine y_c2 (n := (-10)) C0 (by decide) dX12_go_18 (fun v_44 e_45 => ?_)
    refine lv_iload_n C0.1 C0.2.1 dX12_go_20 rfl (lv_at hl 0 rfl) ?_
    refine y_sub C0 (o35_88 e_6 e_8 e_13 e_14 e_15 c_18 e_45 (le_min v_44) (le_max v_44) (le_min r_12) (le_max r_12) (le_min a1) (le_max a1) (le_min a2) (le_max a2)) (o35_89 e_6 e_8 e_13 e_14 e_15 c_18 e_45 (le_min v_44) (le_max v_44) (le_min r_12) (le_max r_12) (le_min a1) (le_max a1) (le_min a2) (le_max a2)) dX12_go_21 (fun v_46 e_47 => ?_)
    rw [hQ]
    exact y_iret C0 h (Fr.tr (Fr.up u_4.1 kSM_0 (by decide)) (Fr.mono u_10 (by decide))) ⟨(o35_90 e_6 e_8 e_13 e_14 e_15 c_18 e_45 e_47), (o35_91 e_6 e_8 e_13 e_14 e_15 c_18 e_45 e_47), (Pa.tr (Pa.ud u_4.1 (by decide)) (Pa.fr u_10 (by decide))), (Pw.tr (Pw.ud u_4.1 (by decide)) (Pw.fr u_10 (by decide)))⟩ dX12_go_22
set_option maxHeartbeats 4000000 in
set_option maxRecDepth 100000 in
theorem c_X12_tells (l : Launch) (G : GG) (Z : RZ) (ad : Nat → Nat) (ws0 : va_W) (hT : Ty G (SM tt) ad ws0) (a1 : Int32) (l1 : 0 ≤ a1.toInt) (u1 : a1.toInt ≤ 3) (hJ : J ws0) : Mq l yX12_tells cX12_tells 4 (some .int) 5 G Z [.ref (ad 0), .int a1] ws0 (PI G (SM tt) ad [0, 1, 5] ws0 (fun r u => (0 ≤ r.toInt) ∧ (r.toInt ≤ 39) ∧ (Pa ws0 u) ∧ (Pw ws0 u))) := by
  refine Mq.start (by decide) (Nat.le_of_ble_eq_true rfl) ?_
  intro p e s m below meth c A ls C0 hZ h hl
  have hl : lv_has ls 4 [(0, .ref (ad 0)), (1, .int a1)] := hl
  have h : Wt G (SM tt) ad A s s.heap [] ws0 := ⟨h, hT⟩
  obtain ⟨args, hargs⟩ : ∃ z, z = ([.ref (ad 0), .int a1] : List Value).toArray := ⟨_, rfl⟩
  rw [← hargs] at C0 ⊢
  have C0 : Cx p s m args meth c RX12 cX12_tells 4 (some .int) := C0
  obtain ⟨Q, hQ⟩ : ∃ z, z = MQ below ((PI G (SM tt) ad [0, 1, 5] ws0 (fun r u => (0 ≤ r.toInt) ∧ (r.toInt ≤ 39) ∧ (Pa ws0 u) ∧ (Pw ws0 u))) A) args s 0 0 A := ⟨_, rfl⟩
  rw [← hQ]
  refine lv_aload_n C0.1 C0.2.1 dX12_tells_0 rfl (lv_at hl 0 rfl) ?_
  refine y_c1 (n := 0) C0 (by decide) dX12_tells_1 (fun v_1 e_2 => ?_)
  refine np_X12_toldWhy C0 h kSM_0 q_1455 (le_min v_1) (le_max v_1) dX12_tells_2 (fun H locs ws_3 h u_4 => ?_)
  refine lv_aload_n C0.1 C0.2.1 dX12_tells_5 rfl (lv_at hl 0 rfl) ?_
  refine y_c1 (n := 0) C0 (by decide) dX12_tells_6 (fun v_5 e_6 => ?_)
  refine np_X12_tookMany C0 h kSM_0 q_1456 (le_min v_5) (le_max v_5) dX12_tells_7 (fun H locs ws_7 h u_8 => ?_)
  refine lv_aload_n C0.1 C0.2.1 dX12_tells_10 rfl (lv_at hl 0 rfl) ?_
  refine ng_X12_rowMany C0 h kSM_0 q_1480 dX12_tells_11 ?_
  refine lv_iload_n C0.1 C0.2.1 dX12_tells_14 rfl (lv_at hl 1 rfl) ?_
  refine y_iald C0 h kSM_24 rfl (by decide) (o35_92 l1 u1) (o35_93 l1 u1) dX12_tells_15 (fun v_9 e_10 e_11 e_12 => ?_)
  refine y_if_eq (tgt := 35) C0 dX12_tells_16 (by decide) (fun c_13 => ?_) (fun c_13 => ?_)
  · -- 16
    refine lv_aload_n C0.1 C0.2.1 dX12_tells_35 rfl (lv_at hl 0 rfl) ?_
    refine y_c1 (n := 1) C0 (by decide) dX12_tells_36 (fun v_14 e_15 => ?_)
    refine np_X12_toldWhy C0 h kSM_0 q_1455 (le_min v_14) (le_max v_14) dX12_tells_37 (fun H locs ws_16 h u_17 => ?_)
    refine y_c1 (n := 0) C0 (by decide) dX12_tells_40 (fun v_18 e_19 => ?_)
    rw [hQ]
    exact y_iret C0 h (Fr.tr (Fr.tr (Fr.up u_4.1 kSM_0 (by decide)) (Fr.up u_8.1 kSM_0 (by decide))) (Fr.up u_17.1 kSM_0 (by decide))) ⟨(o35_50 e_19), (o35_94 e_19), (Pa.tr (Pa.tr (Pa.ud u_4.1 (by decide)) (Pa.ud u_8.1 (by decide))) (Pa.ud u_17.1 (by decide))), (Pw.tr (Pw.tr (Pw.ud u_4.1 (by decide)) (Pw.ud u_8.1 (by decide))) (Pw.ud u_17.1 (by decide)))⟩ dX12_tells_41
  · -- 16
    refine lv_aload_n C0.1 C0.2.1 dX12_tells_19 rfl (lv_at hl 0 rfl) ?_
    refine lv_aload_n C0.1 C0.2.1 dX12_tells_20 rfl (lv_at hl 0 rfl) ?_
    refine ng_X12_numbers C0 h kSM_0 q_1481 dX12_tells_21 ?_
    refine y_c2 (n := 40) C0 (by decide) dX12_tells_24 (fun v_20 e_21 => ?_)
    refine lv_iload_n C0.1 C0.2.1 dX12_tells_26 rfl (lv_at hl 1 rfl) ?_
    refine y_cmul (n := 40) C0 (o35_95 e_21) (o35_96 l1 u1 (le_min a1) (le_max a1)) (o35_97 l1 u1 (le_min a1) (le_max a1)) dX12_tells_27 (fun v_22 e_23 => ?_)
    refine y_lald C0 h kSM_25 rfl (by decide) (o35_98 l1 u1 e_23) (o35_99 l1 u1 e_23) dX12_tells_28 (fun w_24 e_25 => ?_)
    refine y_ci h (y_rV (As := [.long w_24]) (rest := []) C0 hZ h (c_X12_isPerson l G Z ad _ h.2 w_24 (J.pa hT hJ (Pa.tr (Pa.ud u_4.1 (by decide)) (Pa.ud u_8.1 (by decide))))) k_X12_isPerson q_1693 q_77 q_1691 kSM_0 rfl rfl rfl hl.1 rfl rfl (Nat.le_of_ble_eq_true rfl) dX12_tells_29 ⟨Nat.le_of_ble_eq_true rfl, Nat.le_of_ble_eq_true rfl⟩ ⟨Nat.le_of_ble_eq_true rfl, Nat.le_of_ble_eq_true rfl⟩) (fun r_29 H locs ws_26 h u_27 p_28 => ?_)
    obtain ⟨e_30, e_31, e_32, e_33⟩ := p_28
    refine y_if_ne (tgt := 42) C0 dX12_tells_32 (by decide) (fun c_34 => ?_) (fun c_34 => ?_)
    · -- 32
      refine lv_aload_n C0.1 C0.2.1 dX12_tells_42 rfl (lv_at hl 0 rfl) ?_
      refine ng_X12_numbers C0 h kSM_0 q_1481 dX12_tells_43 ?_
      refine y_c2 (n := 40) C0 (by decide) dX12_tells_46 (fun v_35 e_36 => ?_)
      refine lv_iload_n C0.1 C0.2.1 dX12_tells_48 rfl (lv_at hl 1 rfl) ?_
      refine y_cmul (n := 40) C0 (o35_95 e_36) (o35_100 l1 u1 e_23 (le_min a1) (le_max a1) (le_min v_22) (le_max v_22)) (o35_101 l1 u1 e_23 (le_min a1) (le_max a1) (le_min v_22) (le_max v_22)) dX12_tells_49 (fun v_37 e_38 => ?_)
      refine y_lald C0 h kSM_25 rfl (by decide) (o35_102 l1 u1 e_23 e_38) (o35_103 l1 u1 e_23 e_38) dX12_tells_50 (fun w_39 e_40 => ?_)
      have q_41 : w_39.toInt = w_24.toInt := congrArg Int64.toInt (e_40.symm.trans (Eq.trans (congrArg (aL ws_26 25) (o35_104 l1 u1 e_23 e_38)) (Eq.trans (Fr.aL u_27 kSM_25 (by decide)) e_25)))
      refine y_l2i C0 (o35_105 e_30 e_31 e_32 c_34 q_41 (le_min r_29) (le_max r_29)) (o35_106 e_30 e_31 e_32 c_34 q_41 (le_min r_29) (le_max r_29)) dX12_tells_51 (fun v_42 e_43 => ?_)
      refine lv_istore_n (lv' := [(2, .int v_42), (0, .ref (ad 0)), (1, .int a1)]) C0.1 C0.2.1 dX12_tells_52 rfl hl (by decide) rfl (fun ls hl => ?_)
      refine y_c1 (n := 1) C0 (by decide) dX12_tells_53 (fun v_44 e_45 => ?_)
      refine lv_istore_n (lv' := [(3, .int v_44), (2, .int v_42), (0, .ref (ad 0)), (1, .int a1)]) C0.1 C0.2.1 dX12_tells_54 rfl hl (by decide) rfl (fun ls hl => ?_)
      have lp_49 : ∀ (n_51 : Nat) (x3_46 : Int32) (H : Heap) (locs : List Loc) (ls : Array Slot) (ws_47 : va_W), 40 - x3_46.toInt < (n_51 : Int) → 1 ≤ x3_46.toInt → x3_46.toInt ≤ 40 → (Pa ws_26 ws_47) → (Pw ws_26 ws_47) → Wt G (SM tt) ad A s H locs ws_47 → Fr (SM tt) [0, 1, 5] ws_26 ws_47 → lv_has ls 4 [(3, .int x3_46), (2, .int v_42), (0, .ref (ad 0)), (1, .int a1)] → W p l e (rmd 5 0 0) s m args below meth c H locs 0 0 Q (F0 m 55 ls []) := by
        intro n_51
        induction n_51 with
        | zero => intro x3_46 H locs ls ws_47 hn_52 b_53 b_54 hPa_55 hPw_55 h hF_48 hl; exact ((o35_107 b_53 b_54 hn_52)).elim
        | succ n_51 ih_50 =>
          intro x3_46 H locs ls ws_47 hn_52 b_53 b_54 hPa_55 hPw_55 h hF_48 hl
          refine lv_iload_n C0.1 C0.2.1 dX12_tells_55 rfl (lv_at hl 0 rfl) ?_
          refine lv_aload_n C0.1 C0.2.1 dX12_tells_56 rfl (lv_at hl 2 rfl) ?_
          refine ng_X12_rowMany C0 h kSM_0 q_1480 dX12_tells_57 ?_
          refine lv_iload_n C0.1 C0.2.1 dX12_tells_60 rfl (lv_at hl 3 rfl) ?_
          refine y_iald C0 h kSM_24 rfl (by decide) (o35_108 l1 u1 e_23 e_38) (o35_109 l1 u1 e_23 e_38) dX12_tells_61 (fun v_55 e_56 e_57 e_58 => ?_)
          have q_59 : v_55.toInt = v_9.toInt := congrArg Int32.toInt (e_56.symm.trans (Eq.trans rfl (Eq.trans (Eq.trans (Fr.aI hF_48 kSM_24 (by decide)) (Fr.aI u_27 kSM_24 (by decide))) e_10)))
          refine y_icmp_ge (tgt := 129) C0 dX12_tells_62 (by decide) (fun c_60 => ?_) (fun c_60 => ?_)
          · -- 62
            refine lv_aload_n C0.1 C0.2.1 dX12_tells_129 rfl (lv_at hl 2 rfl) ?_
            refine ng_X12_rowMany C0 h kSM_0 q_1480 dX12_tells_130 ?_
            refine lv_iload_n C0.1 C0.2.1 dX12_tells_133 rfl (lv_at hl 3 rfl) ?_
            refine y_iald C0 h kSM_24 rfl (by decide) (o35_108 l1 u1 e_23 e_38) (o35_109 l1 u1 e_23 e_38) dX12_tells_134 (fun v_61 e_62 e_63 e_64 => ?_)
            have q_65 : v_61.toInt = v_9.toInt := congrArg Int32.toInt (e_62.symm.trans (Eq.trans rfl (Eq.trans (Eq.trans (Fr.aI hF_48 kSM_24 (by decide)) (Fr.aI u_27 kSM_24 (by decide))) e_10)))
            refine y_c1 (n := 1) C0 (by decide) dX12_tells_135 (fun v_66 e_67 => ?_)
            refine y_sub C0 (o35_110 e_11 e_12 c_13 b_53 b_54 hn_52 e_57 e_58 q_59 c_60 e_63 e_64 q_65 e_67 (le_min v_61) (le_max v_61) (le_min v_66) (le_max v_66) (le_min v_9) (le_max v_9) (le_min x3_46) (le_max x3_46) (le_min v_55) (le_max v_55)) (o35_111 e_11 e_12 c_13 b_53 b_54 hn_52 e_57 e_58 q_59 c_60 e_63 e_64 q_65 e_67 (le_min v_61) (le_max v_61) (le_min v_66) (le_max v_66) (le_min v_9) (le_max v_9) (le_min x3_46) (le_max x3_46) (le_min v_55) (le_max v_55)) dX12_tells_136 (fun v_68 e_69 => ?_)
            rw [hQ]
            exact y_iret C0 h (Fr.tr (Fr.tr (Fr.tr (Fr.up u_4.1 kSM_0 (by decide)) (Fr.up u_8.1 kSM_0 (by decide))) (Fr.mono u_27 (by decide))) hF_48) ⟨(o35_112 e_11 e_12 c_13 b_53 b_54 hn_52 e_57 e_58 q_59 c_60 e_63 e_64 q_65 e_67 e_69), (o35_113 e_11 e_12 c_13 b_53 b_54 hn_52 e_57 e_58 q_59 c_60 e_63 e_64 q_65 e_67 e_69), (Pa.tr (Pa.tr (Pa.tr (Pa.ud u_4.1 (by decide)) (Pa.ud u_8.1 (by decide))) (Pa.fr u_27 (by decide))) hPa_55), (Pw.tr (Pw.tr (Pw.tr (Pw.ud u_4.1 (by decide)) (Pw.ud u_8.1 (by decide))) (Pw.fr u_27 (by decide))) hPw_55)⟩ dX12_tells_137
          · -- 62
            refine lv_aload_n C0.1 C0.2.1 dX12_tells_65 rfl (lv_at hl 2 rfl) ?_
            refine lv_aload_n C0.1 C0.2.1 dX12_tells_66 rfl (lv_at hl 2 rfl) ?_
            refine lv_iload_n C0.1 C0.2.1 dX12_tells_67 rfl (lv_at hl 1 rfl) ?_
            refine y_i2l C0 dX12_tells_68 (fun w_70 e_71 => ?_)
            refine lv_aload_n C0.1 C0.2.1 dX12_tells_69 rfl (lv_at hl 2 rfl) ?_
            refine ng_X12_numbers C0 h kSM_0 q_1481 dX12_tells_70 ?_
            refine y_c2 (n := 40) C0 (by decide) dX12_tells_73 (fun v_72 e_73 => ?_)
            refine lv_iload_n C0.1 C0.2.1 dX12_tells_75 rfl (lv_at hl 3 rfl) ?_
            refine y_cmul (n := 40) C0 (o35_95 e_73) (o35_114 l1 u1 e_23 e_38 (le_min a1) (le_max a1) (le_min v_22) (le_max v_22) (le_min v_37) (le_max v_37)) (o35_115 l1 u1 e_23 e_38 (le_min a1) (le_max a1) (le_min v_22) (le_max v_22) (le_min v_37) (le_max v_37)) dX12_tells_76 (fun v_74 e_75 => ?_)
            refine lv_iload_n C0.1 C0.2.1 dX12_tells_77 rfl (lv_at hl 0 rfl) ?_
            refine y_add C0 (o35_116 l1 u1 e_11 e_12 c_13 e_23 e_38 b_53 b_54 hn_52 e_57 e_58 q_59 c_60 e_75 (le_min v_74) (le_max v_74) (le_min x3_46) (le_max x3_46) (le_min a1) (le_max a1) (le_min v_9) (le_max v_9) (le_min v_22) (le_max v_22) (le_min v_37) (le_max v_37) (le_min v_55) (le_max v_55)) (o35_117 l1 u1 e_11 e_12 c_13 e_23 e_38 b_53 b_54 hn_52 e_57 e_58 q_59 c_60 e_75 (le_min v_74) (le_max v_74) (le_min x3_46) (le_max x3_46) (le_min a1) (le_max a1) (le_min v_9) (le_max v_9) (le_min v_22) (le_max v_22) (le_min v_37) (le_max v_37) (le_min v_55) (le_max v_55)) dX12_tells_78 (fun v_76 e_77 => ?_)
            refine y_lald C0 h kSM_25 rfl (by decide) (o35_118 l1 u1 e_11 e_12 c_13 e_23 e_38 b_53 b_54 hn_52 e_57 e_58 q_59 c_60 e_75 e_77) (o35_119 l1 u1 e_11 e_12 c_13 e_23 e_38 b_53 b_54 hn_52 e_57 e_58 q_59 c_60 e_75 e_77) dX12_tells_79 (fun w_78 e_79 => ?_)
            refine y_ci h (y_rV (As := [.long w_70, .long w_78]) (rest := [.ref (ad 0)]) C0 hZ h (c_X12_whyNot l G Z ad _ h.2 w_70 w_78 (J.pa hT hJ (Pa.tr (Pa.tr (Pa.tr (Pa.ud u_4.1 (by decide)) (Pa.ud u_8.1 (by decide))) (Pa.fr u_27 (by decide))) hPa_55))) k_X12_whyNot q_1758 q_86 q_1756 kSM_0 rfl rfl rfl hl.1 rfl rfl (Nat.le_of_ble_eq_true rfl) dX12_tells_80 ⟨Nat.le_of_ble_eq_true rfl, Nat.le_of_ble_eq_true rfl⟩ ⟨Nat.le_of_ble_eq_true rfl, Nat.le_of_ble_eq_true rfl⟩) (fun r_83 H locs ws_80 h u_81 p_82 => ?_)
            obtain ⟨e_84, e_85, e_86, e_87, e_88⟩ := p_82
            refine np_X12_toldWhy C0 h kSM_0 q_1455 (le_min r_83) (le_max r_83) dX12_tells_83 (fun H locs ws_89 h u_90 => ?_)
            refine lv_aload_n C0.1 C0.2.1 dX12_tells_86 rfl (lv_at hl 2 rfl) ?_
            refine ng_X12_toldWhy C0 h kSM_0 q_1455 dX12_tells_87 (fun v_91 e_92 e_93 e_94 => ?_)
            have q_95 : v_91.toInt = r_83.toInt := congrArg Int32.toInt (e_92.symm.trans (Eq.trans rfl u_90.2.1))
            refine y_if_eq (tgt := 97) C0 dX12_tells_90 (by decide) (fun c_96 => ?_) (fun c_96 => ?_)
            · -- 90
              refine lv_aload_n C0.1 C0.2.1 dX12_tells_97 rfl (lv_at hl 2 rfl) ?_
              refine lv_dup C0.1 C0.2.1 dX12_tells_98 rfl ?_
              refine ng_X12_tookMany C0 h kSM_0 q_1456 dX12_tells_99 (fun v_97 e_98 e_99 e_100 => ?_)
              refine lv_aload_n C0.1 C0.2.1 dX12_tells_102 rfl (lv_at hl 2 rfl) ?_
              refine lv_iload_n C0.1 C0.2.1 dX12_tells_103 rfl (lv_at hl 1 rfl) ?_
              refine lv_aload_n C0.1 C0.2.1 dX12_tells_104 rfl (lv_at hl 2 rfl) ?_
              refine ng_X12_numbers C0 h kSM_0 q_1481 dX12_tells_105 ?_
              refine y_c2 (n := 40) C0 (by decide) dX12_tells_108 (fun v_101 e_102 => ?_)
              refine lv_iload_n C0.1 C0.2.1 dX12_tells_110 rfl (lv_at hl 3 rfl) ?_
              refine y_cmul (n := 40) C0 (o35_95 e_102) (o35_120 l1 u1 e_11 e_12 c_13 e_23 e_38 b_53 b_54 hn_52 e_57 e_58 q_59 c_60 e_75 e_77 (le_min a1) (le_max a1) (le_min v_9) (le_max v_9) (le_min v_22) (le_max v_22) (le_min v_37) (le_max v_37) (le_min x3_46) (le_max x3_46) (le_min v_55) (le_max v_55) (le_min v_74) (le_max v_74) (le_min v_76) (le_max v_76)) (o35_121 l1 u1 e_11 e_12 c_13 e_23 e_38 b_53 b_54 hn_52 e_57 e_58 q_59 c_60 e_75 e_77 (le_min a1) (le_max a1) (le_min v_9) (le_max v_9) (le_min v_22) (le_max v_22) (le_min v_37) (le_max v_37) (le_min x3_46) (le_max x3_46) (le_min v_55) (le_max v_55) (le_min v_74) (le_max v_74) (le_min v_76) (le_max v_76)) dX12_tells_111 (fun v_103 e_104 => ?_)
              refine lv_iload_n C0.1 C0.2.1 dX12_tells_112 rfl (lv_at hl 0 rfl) ?_
              refine y_add C0 (o35_122 l1 u1 e_11 e_12 c_13 e_23 e_38 b_53 b_54 hn_52 e_57 e_58 q_59 c_60 e_75 e_77 e_104 (le_min v_103) (le_max v_103) (le_min x3_46) (le_max x3_46) (le_min a1) (le_max a1) (le_min v_9) (le_max v_9) (le_min v_22) (le_max v_22) (le_min v_37) (le_max v_37) (le_min v_55) (le_max v_55) (le_min v_74) (le_max v_74) (le_min v_76) (le_max v_76)) (o35_123 l1 u1 e_11 e_12 c_13 e_23 e_38 b_53 b_54 hn_52 e_57 e_58 q_59 c_60 e_75 e_77 e_104 (le_min v_103) (le_max v_103) (le_min x3_46) (le_max x3_46) (le_min a1) (le_max a1) (le_min v_9) (le_max v_9) (le_min v_22) (le_max v_22) (le_min v_37) (le_max v_37) (le_min v_55) (le_max v_55) (le_min v_74) (le_max v_74) (le_min v_76) (le_max v_76)) dX12_tells_113 (fun v_105 e_106 => ?_)
              refine y_lald C0 h kSM_25 rfl (by decide) (o35_124 l1 u1 e_11 e_12 c_13 e_23 e_38 b_53 b_54 hn_52 e_57 e_58 q_59 c_60 e_75 e_77 e_104 e_106) (o35_125 l1 u1 e_11 e_12 c_13 e_23 e_38 b_53 b_54 hn_52 e_57 e_58 q_59 c_60 e_75 e_77 e_104 e_106) dX12_tells_114 (fun w_107 e_108 => ?_)
              have q_109 : w_107.toInt = w_78.toInt := congrArg Int64.toInt (e_108.symm.trans (Eq.trans (congrArg (aL ws_89 25) (o35_126 l1 u1 e_11 e_12 c_13 e_23 e_38 b_53 b_54 hn_52 e_57 e_58 q_59 c_60 e_75 e_77 e_104 e_106)) (Eq.trans (Eq.trans (aL_of (u_90.1 25 (kd_ne (S := SM q0) kSM_25 kSM_0 (by decide)))) (Fr.aL u_81 kSM_25 (by decide))) e_79)))
              refine y_l2i C0 (o35_127 e_30 e_31 e_32 c_34 q_41 e_43 e_71 e_84 e_85 e_86 q_95 c_96 q_109 (le_min r_29) (le_max r_29) (le_min v_42) (le_max v_42) (le_min r_83) (le_max r_83) (le_min v_91) (le_max v_91)) (o35_128 e_30 e_31 e_32 c_34 q_41 e_43 e_71 e_84 e_85 e_86 q_95 c_96 q_109 (le_min r_29) (le_max r_29) (le_min v_42) (le_max v_42) (le_min r_83) (le_max r_83) (le_min v_91) (le_max v_91)) dX12_tells_115 (fun v_110 e_111 => ?_)
              refine y_ci h (y_rV (As := [.int v_42, .int v_110]) (rest := [.int v_97, .ref (ad 0)]) C0 hZ h (c_X12_goes l G Z ad _ h.2 v_42 v_110 (o35_129 e_30 e_31 e_32 c_34 q_41 e_43 e_71 e_84 e_85 e_86 q_95 c_96 q_109 e_111) (o35_130 e_30 e_31 e_32 c_34 q_41 e_43 e_71 e_84 e_85 e_86 q_95 c_96 q_109 e_111) (o35_131 e_30 e_31 e_32 c_34 q_41 e_43 e_71 e_84 e_85 e_86 q_95 c_96 q_109 e_111) (o35_132 e_30 e_31 e_32 c_34 q_41 e_43 e_71 e_84 e_85 e_86 q_95 c_96 q_109 e_111) ((CanM.fr (M := [0]) (Fr.up u_90.1 kSM_0 (by decide)) (by decide) (CanM.fr u_81 (by decide) (CanM.cg (e_87 (o35_133 e_30 e_31 e_32 c_34 q_41 e_43 e_71 e_84 e_85 e_86 q_95 c_96 q_109 e_111)) (o35_134 e_30 e_31 e_32 c_34 q_41 e_43 e_71 e_84 e_85 e_86 q_95 c_96 q_109 e_111) (o35_135 e_30 e_31 e_32 c_34 q_41 e_43 e_71 e_84 e_85 e_86 q_95 c_96 q_109 e_111))))) (Laid.pa (Or.resolve_left e_33 (o35_136 e_30 e_31 e_32 c_34 q_41 e_43 e_71 e_84 e_85 e_86 q_95 c_96 q_109 e_111)) (Pa.tr (Pa.tr (Pa.tr (Pa.fr u_27 (by decide)) hPa_55) (Pa.fr u_81 (by decide))) (Pa.ud u_90.1 (by decide))))) k_X12_goes q_1781 q_89 q_1779 kSM_0 rfl rfl rfl hl.1 rfl rfl (Nat.le_of_ble_eq_true rfl) dX12_tells_116 ⟨Nat.le_of_ble_eq_true rfl, Nat.le_of_ble_eq_true rfl⟩ ⟨Nat.le_of_ble_eq_true rfl, Nat.le_of_ble_eq_true rfl⟩) (fun r_115 H locs ws_112 h u_113 p_114 => ?_)
              obtain ⟨e_116, e_117, e_118, e_119⟩ := p_114
              refine y_iaddU C0 dX12_tells_119 (fun v_120 => ?_)
              refine np_X12_tookMany C0 h kSM_0 q_1456 (le_min v_120) (le_max v_120) dX12_tells_120 (fun H locs ws_121 h u_122 => ?_)
              refine y_inc (kp := 0) (n := 1) (fun v_123 => [(3, .int v_123), (2, .int v_42), (0, .ref (ad 0)), (1, .int a1)]) C0 hl rfl (by decide) (by decide) (fun _ => rfl) (o35_137 l1 u1 e_11 e_12 c_13 e_23 e_38 b_53 b_54 hn_52 e_57 e_58 q_59 c_60 e_75 e_77 e_104 e_106 (le_min x3_46) (le_max x3_46) (le_min a1) (le_max a1) (le_min v_9) (le_max v_9) (le_min v_22) (le_max v_22) (le_min v_37) (le_max v_37) (le_min v_55) (le_max v_55) (le_min v_74) (le_max v_74) (le_min v_76) (le_max v_76) (le_min v_103) (le_max v_103) (le_min v_105) (le_max v_105)) (o35_138 l1 u1 e_11 e_12 c_13 e_23 e_38 b_53 b_54 hn_52 e_57 e_58 q_59 c_60 e_75 e_77 e_104 e_106 (le_min x3_46) (le_max x3_46) (le_min a1) (le_max a1) (le_min v_9) (le_max v_9) (le_min v_22) (le_max v_22) (le_min v_37) (le_max v_37) (le_min v_55) (le_max v_55) (le_min v_74) (le_max v_74) (le_min v_76) (le_max v_76) (le_min v_103) (le_max v_103) (le_min v_105) (le_max v_105)) dX12_tells_123 (fun v_123 ls e_124 hl => ?_)
              refine lv_goto (tgt := 55) C0.1 C0.2.1 dX12_tells_126 (by decide) ?_
              exact ih_50 v_123 _ _ _ _ (o35_139 l1 u1 e_11 e_12 c_13 e_23 e_38 b_53 b_54 hn_52 e_57 e_58 q_59 c_60 e_75 e_77 e_104 e_106 e_124) (o35_140 l1 u1 e_11 e_12 c_13 e_23 e_38 b_53 b_54 hn_52 e_57 e_58 q_59 c_60 e_75 e_77 e_104 e_106 e_124) (o35_141 l1 u1 e_11 e_12 c_13 e_23 e_38 b_53 b_54 hn_52 e_57 e_58 q_59 c_60 e_75 e_77 e_104 e_106 e_124) ((Pa.tr (Pa.tr (Pa.tr (Pa.tr hPa_55 (Pa.fr u_81 (by decide))) (Pa.ud u_90.1 (by decide))) e_118) (Pa.ud u_122.1 (by decide)))) ((Pw.tr (Pw.tr (Pw.tr (Pw.tr hPw_55 (Pw.fr u_81 (by decide))) (Pw.ud u_90.1 (by decide))) e_119) (Pw.ud u_122.1 (by decide)))) h (Fr.tr (Fr.tr (Fr.tr (Fr.tr hF_48 (Fr.mono u_81 (by decide))) (Fr.up u_90.1 kSM_0 (by decide))) (Fr.mono u_113 (by decide))) (Fr.up u_122.1 kSM_0 (by decide))) (lv_sub hl [0, 1, 2, 3] rfl)
            · -- 90
              refine lv_iload_n C0.1 C0.2.1 dX12_tells_93 rfl (lv_at hl 0 rfl) ?_
              refine y_c1 (n := 1) C0 (by decide) dX12_tells_94 (fun v_125 e_126 => ?_)
              refine y_sub C0 (o35_142 l1 u1 e_11 e_12 c_13 e_23 e_38 b_53 b_54 hn_52 e_57 e_58 q_59 c_60 e_75 e_77 e_126 (le_min x3_46) (le_max x3_46) (le_min v_125) (le_max v_125) (le_min a1) (le_max a1) (le_min v_9) (le_max v_9) (le_min v_22) (le_max v_22) (le_min v_37) (le_max v_37) (le_min v_55) (le_max v_55) (le_min v_74) (le_max v_74) (le_min v_76) (le_max v_76)) (o35_143 l1 u1 e_11 e_12 c_13 e_23 e_38 b_53 b_54 hn_52 e_57 e_58 q_59 c_60 e_75 e_77 e_126 (le_min x3_46) (le_max x3_46) (le_min v_125) (le_max v_125) (le_min a1) (le_max a1) (le_min v_9) (le_max v_9) (le_min v_22) (le_max v_22) (le_min v_37) (le_max v_37) (le_min v_55) (le_max v_55) (le_min v_74) (le_max v_74) (le_min v_76) (le_max v_76)) dX12_tells_95 (fun v_127 e_128 => ?_)
              rw [hQ]
              exact y_iret C0 h (Fr.tr (Fr.tr (Fr.tr (Fr.tr (Fr.tr (Fr.up u_4.1 kSM_0 (by decide)) (Fr.up u_8.1 kSM_0 (by decide))) (Fr.mono u_27 (by decide))) hF_48) (Fr.mono u_81 (by decide))) (Fr.up u_90.1 kSM_0 (by decide))) ⟨(o35_144 l1 u1 e_11 e_12 c_13 e_23 e_38 b_53 b_54 hn_52 e_57 e_58 q_59 c_60 e_75 e_77 e_126 e_128), (o35_145 l1 u1 e_11 e_12 c_13 e_23 e_38 b_53 b_54 hn_52 e_57 e_58 q_59 c_60 e_75 e_77 e_126 e_128), (Pa.tr (Pa.tr (Pa.tr (Pa.tr (Pa.tr (Pa.ud u_4.1 (by decide)) (Pa.ud u_8.1 (by decide))) (Pa.fr u_27 (by decide))) hPa_55) (Pa.fr u_81 (by decide))) (Pa.ud u_90.1 (by decide))), (Pw.tr (Pw.tr (Pw.tr (Pw.tr (Pw.tr (Pw.ud u_4.1 (by decide)) (Pw.ud u_8.1 (by decide))) (Pw.fr u_27 (by decide))) hPw_55) (Pw.fr u_81 (by decide))) (Pw.ud u_90.1 (by decide)))⟩ dX12_tells_96
      exact lp_49 ((40 - v_44.toInt + 1).toNat) v_44 _ _ _ _ (o35_146 e_45) (o35_147 e_45) (o35_148 e_45) Pa.rf Pw.rf h Fr.rf (lv_sub hl [0, 1, 2, 3] rfl)
    · -- 32
      refine lv_aload_n C0.1 C0.2.1 dX12_tells_35 rfl (lv_at hl 0 rfl) ?_
      refine y_c1 (n := 1) C0 (by decide) dX12_tells_36 (fun v_129 e_130 => ?_)
      refine np_X12_toldWhy C0 h kSM_0 q_1455 (le_min v_129) (le_max v_129) dX12_tells_37 (fun H locs ws_131 h u_132 => ?_)
      refine y_c1 (n := 0) C0 (by decide) dX12_tells_40 (fun v_133 e_134 => ?_)
      rw [hQ]
      exact y_iret C0 h (Fr.tr (Fr.tr (Fr.tr (Fr.up u_4.1 kSM_0 (by decide)) (Fr.up u_8.1 kSM_0 (by decide))) (Fr.mono u_27 (by decide))) (Fr.up u_132.1 kSM_0 (by decide))) ⟨(o35_50 e_134), (o35_94 e_134), (Pa.tr (Pa.tr (Pa.tr (Pa.ud u_4.1 (by decide)) (Pa.ud u_8.1 (by decide))) (Pa.fr u_27 (by decide))) (Pa.ud u_132.1 (by decide))), (Pw.tr (Pw.tr (Pw.tr (Pw.ud u_4.1 (by decide)) (Pw.ud u_8.1 (by decide))) (Pw.fr u_27 (by decide))) (Pw.ud u_132.1 (by decide)))⟩ dX12_tells_41
set_option maxHeartbeats 4000000 in
set_option maxRecDepth 100000 in
theorem c_X12_judge (l : Launch) (G : GG) (Z : RZ) (ad : Nat → Nat) (ws0 : va_W) (hT : Ty G (SM tt) ad ws0) (a1 : Int32) (a2 : Int32) (hJ : J ws0) : Mq l yX12_judge cX12_judge 7 (some .int) 6 G Z [.ref (ad 0), .int a1, .int a2] ws0 (PI G (SM tt) ad [0, 1, 5, 6] ws0 (fun r u => (Pa ws0 u) ∧ (Pw ws0 u))) := by
  refine Mq.start (by decide) (Nat.le_of_ble_eq_true rfl) ?_
  intro p e s m below meth c A ls C0 hZ h hl
  have hl : lv_has ls 7 [(0, .ref (ad 0)), (1, .int a1), (2, .int a2)] := hl
  have h : Wt G (SM tt) ad A s s.heap [] ws0 := ⟨h, hT⟩
  obtain ⟨args, hargs⟩ : ∃ z, z = ([.ref (ad 0), .int a1, .int a2] : List Value).toArray := ⟨_, rfl⟩
  rw [← hargs] at C0 ⊢
  have C0 : Cx p s m args meth c RX12 cX12_judge 7 (some .int) := C0
  obtain ⟨Q, hQ⟩ : ∃ z, z = MQ below ((PI G (SM tt) ad [0, 1, 5, 6] ws0 (fun r u => (Pa ws0 u) ∧ (Pw ws0 u))) A) args s 0 0 A := ⟨_, rfl⟩
  rw [← hQ]
  refine lv_aload_n C0.1 C0.2.1 dX12_judge_0 rfl (lv_at hl 0 rfl) ?_
  refine y_c1 (n := 0) C0 (by decide) dX12_judge_1 (fun v_1 e_2 => ?_)
  refine np_X12_thrown C0 h kSM_0 q_1438 (le_min v_1) (le_max v_1) dX12_judge_2 (fun H locs ws_3 h u_4 => ?_)
  refine lv_iload_n C0.1 C0.2.1 dX12_judge_5 rfl (lv_at hl 2 rfl) ?_
  refine y_i2l C0 dX12_judge_6 (fun w_5 e_6 => ?_)
  refine y_lc (v := 0) C0 (by decide) dX12_judge_7 (fun w_7 e_8 => ?_)
  refine y_lc2 (n := 3) C0 q_1710 (by decide) dX12_judge_8 (fun w_9 e_10 => ?_)
  refine y_ci h (y_rS (As := [.long w_5, .long w_7, .long w_9]) (rest := []) C0 hZ h (c_X12_within l G Z ad _ h.2 w_5 w_7 w_9) k_X12_within q_1580 q_1579 hl.1 rfl rfl (Nat.le_of_ble_eq_true rfl) dX12_judge_11 ⟨Nat.le_of_ble_eq_true rfl, Nat.le_of_ble_eq_true rfl⟩ ⟨Nat.le_of_ble_eq_true rfl, Nat.le_of_ble_eq_true rfl⟩) (fun r_14 H locs ws_11 h u_12 p_13 => ?_)
  obtain ⟨e_15, e_16, e_17⟩ := p_13
  refine y_if_ne (tgt := 20) C0 dX12_judge_14 (by decide) (fun c_18 => ?_) (fun c_18 => ?_)
  · -- 14
    refine lv_aload_n C0.1 C0.2.1 dX12_judge_20 rfl (lv_at hl 0 rfl) ?_
    refine lv_iload_n C0.1 C0.2.1 dX12_judge_21 rfl (lv_at hl 1 rfl) ?_
    refine y_ci h (y_rV (As := [.int a1]) (rest := []) C0 hZ h (c_X12_noTray l G Z ad _ h.2 a1) k_X12_noTray q_1796 q_91 q_1794 kSM_0 rfl rfl rfl hl.1 rfl rfl (Nat.le_of_ble_eq_true rfl) dX12_judge_22 ⟨Nat.le_of_ble_eq_true rfl, Nat.le_of_ble_eq_true rfl⟩ ⟨Nat.le_of_ble_eq_true rfl, Nat.le_of_ble_eq_true rfl⟩) (fun r_22 H locs ws_19 h u_20 p_21 => ?_)
    obtain ⟨e_23, e_24, e_25⟩ := p_21
    refine lv_istore_n (lv' := [(3, .int r_22), (0, .ref (ad 0)), (1, .int a1), (2, .int a2)]) C0.1 C0.2.1 dX12_judge_25 rfl hl (by decide) rfl (fun ls hl => ?_)
    refine lv_iload_n C0.1 C0.2.1 dX12_judge_26 rfl (lv_at hl 0 rfl) ?_
    refine y_if_eq (tgt := 32) C0 dX12_judge_27 (by decide) (fun c_26 => ?_) (fun c_26 => ?_)
    · -- 27
      refine lv_aload_n C0.1 C0.2.1 dX12_judge_32 rfl (lv_at hl 1 rfl) ?_
      refine ng_X12_rowMany C0 h kSM_0 q_1480 dX12_judge_33 ?_
      refine lv_iload_n C0.1 C0.2.1 dX12_judge_36 rfl (lv_at hl 2 rfl) ?_
      refine y_iald C0 h kSM_24 rfl (by decide) (o35_149 e_23 e_24 e_25 c_26) (o35_150 e_23 e_24 e_25 c_26) dX12_judge_37 (fun v_27 e_28 e_29 e_30 => ?_)
      refine y_if_le (tgt := 61) C0 dX12_judge_38 (by decide) (fun c_31 => ?_) (fun c_31 => ?_)
      · -- 38
        refine y_c1 (n := 0) C0 (by decide) dX12_judge_61 (fun v_32 e_33 => ?_)
        refine lv_istore (lv' := [(4, .int v_32), (3, .int r_22), (0, .ref (ad 0)), (1, .int a1), (2, .int a2)]) C0.1 C0.2.1 dX12_judge_62 hl (by decide) rfl (fun ls hl => ?_)
        refine lv_aload_n C0.1 C0.2.1 dX12_judge_64 rfl (lv_at hl 2 rfl) ?_
        refine y_cv h (y_rV (As := []) (rest := []) C0 hZ h (c_X12_keeps l G Z ad _ h.2) k_X12_keeps q_1777 q_88 q_1775 kSM_0 rfl rfl rfl hl.1 rfl rfl (Nat.le_of_ble_eq_true rfl) dX12_judge_65 ⟨Nat.le_of_ble_eq_true rfl, Nat.le_of_ble_eq_true rfl⟩ ⟨Nat.le_of_ble_eq_true rfl, Nat.le_of_ble_eq_true rfl⟩) (fun H locs ws_34 h u_35 p_36 => ?_)
        refine lv_aload_n C0.1 C0.2.1 dX12_judge_68 rfl (lv_at hl 2 rfl) ?_
        refine lv_iload_n C0.1 C0.2.1 dX12_judge_69 rfl (lv_at hl 3 rfl) ?_
        refine y_ci h (y_rV (As := [.int a1]) (rest := []) C0 hZ h (c_X12_tells l G Z ad _ h.2 a1 (o35_149 e_23 e_24 e_25 c_26) (o35_151 e_23 e_24 e_25 c_26) (J.pa hT hJ (Pa.tr (Pa.tr (Pa.tr (Pa.ud u_4.1 (by decide)) (Pa.fr u_12 (by decide))) (Pa.fr u_20 (by decide))) (Pa.fr u_35 (by decide))))) k_X12_tells q_1800 q_92 q_1798 kSM_0 rfl rfl rfl hl.1 rfl rfl (Nat.le_of_ble_eq_true rfl) dX12_judge_70 ⟨Nat.le_of_ble_eq_true rfl, Nat.le_of_ble_eq_true rfl⟩ ⟨Nat.le_of_ble_eq_true rfl, Nat.le_of_ble_eq_true rfl⟩) (fun r_40 H locs ws_37 h u_38 p_39 => ?_)
        obtain ⟨e_41, e_42, e_43, e_44⟩ := p_39
        refine lv_istore (lv' := [(5, .int r_40), (4, .int v_32), (3, .int r_22), (0, .ref (ad 0)), (1, .int a1), (2, .int a2)]) C0.1 C0.2.1 dX12_judge_73 hl (by decide) rfl (fun ls hl => ?_)
        refine lv_iload C0.1 C0.2.1 dX12_judge_75 (lv_at hl 1 rfl) ?_
        refine y_if_eq (tgt := 101) C0 dX12_judge_77 (by decide) (fun c_45 => ?_) (fun c_45 => ((o35_152 e_33 c_45)).elim)
        refine y_c1 (n := (-1)) C0 (by decide) dX12_judge_101 (fun v_46 e_47 => ?_)
        refine lv_istore (lv' := [(6, .int v_46), (5, .int r_40), (4, .int v_32), (3, .int r_22), (0, .ref (ad 0)), (1, .int a1), (2, .int a2)]) C0.1 C0.2.1 dX12_judge_102 hl (by decide) rfl (fun ls hl => ?_)
        refine lv_aload_n C0.1 C0.2.1 dX12_judge_104 rfl (lv_at hl 4 rfl) ?_
        refine y_cv h (y_rV (As := []) (rest := []) C0 hZ h (c_X12_isAgain l G Z ad _ h.2) k_X12_isAgain q_1804 q_93 q_1802 kSM_0 rfl rfl rfl hl.1 rfl rfl (Nat.le_of_ble_eq_true rfl) dX12_judge_105 ⟨Nat.le_of_ble_eq_true rfl, Nat.le_of_ble_eq_true rfl⟩ ⟨Nat.le_of_ble_eq_true rfl, Nat.le_of_ble_eq_true rfl⟩) (fun H locs ws_48 h u_49 p_50 => ?_)
        obtain ⟨e_51, e_52⟩ := p_50
        refine lv_iload_n C0.1 C0.2.1 dX12_judge_108 rfl (lv_at hl 6 rfl) ?_
        refine y_if_ne (tgt := 139) C0 dX12_judge_109 (by decide) (fun c_53 => ?_) (fun c_53 => ?_)
        · -- 109
          refine lv_iload_n C0.1 C0.2.1 dX12_judge_139 rfl (lv_at hl 6 rfl) ?_
          refine y_c1 (n := 1) C0 (by decide) dX12_judge_140 (fun v_54 e_55 => ?_)
          refine y_icmp_ne (tgt := 151) C0 dX12_judge_141 (by decide) (fun c_56 => ?_) (fun c_56 => ?_)
          · -- 141
            refine lv_iload_n C0.1 C0.2.1 dX12_judge_151 rfl (lv_at hl 6 rfl) ?_
            refine y_c1 (n := 2) C0 (by decide) dX12_judge_152 (fun v_57 e_58 => ?_)
            refine y_icmp_ne (tgt := 161) C0 dX12_judge_153 (by decide) (fun c_59 => ?_) (fun c_59 => ?_)
            · -- 153
              refine lv_aload_n C0.1 C0.2.1 dX12_judge_161 rfl (lv_at hl 4 rfl) ?_
              refine ng_X12_tookMany C0 h kSM_0 q_1456 dX12_judge_162 (fun v_60 e_61 e_62 e_63 => ?_)
              rw [hQ]
              exact y_iret C0 h (Fr.tr (Fr.tr (Fr.tr (Fr.tr (Fr.tr (Fr.up u_4.1 kSM_0 (by decide)) (Fr.mono u_12 (by decide))) (Fr.mono u_20 (by decide))) (Fr.mono u_35 (by decide))) (Fr.mono u_38 (by decide))) (Fr.mono u_49 (by decide))) ⟨(Pa.tr (Pa.tr (Pa.tr (Pa.tr (Pa.tr (Pa.ud u_4.1 (by decide)) (Pa.fr u_12 (by decide))) (Pa.fr u_20 (by decide))) (Pa.fr u_35 (by decide))) e_43) e_51), (Pw.tr (Pw.tr (Pw.tr (Pw.tr (Pw.tr (Pw.ud u_4.1 (by decide)) (Pw.fr u_12 (by decide))) (Pw.fr u_20 (by decide))) (Pw.fr u_35 (by decide))) e_44) e_52)⟩ dX12_judge_165
            · -- 153
              refine lv_iload C0.1 C0.2.1 dX12_judge_156 (lv_at hl 0 rfl) ?_
              refine lv_goto (tgt := 165) C0.1 C0.2.1 dX12_judge_158 (by decide) ?_
              rw [hQ]
              exact y_iret C0 h (Fr.tr (Fr.tr (Fr.tr (Fr.tr (Fr.tr (Fr.up u_4.1 kSM_0 (by decide)) (Fr.mono u_12 (by decide))) (Fr.mono u_20 (by decide))) (Fr.mono u_35 (by decide))) (Fr.mono u_38 (by decide))) (Fr.mono u_49 (by decide))) ⟨(Pa.tr (Pa.tr (Pa.tr (Pa.tr (Pa.tr (Pa.ud u_4.1 (by decide)) (Pa.fr u_12 (by decide))) (Pa.fr u_20 (by decide))) (Pa.fr u_35 (by decide))) e_43) e_51), (Pw.tr (Pw.tr (Pw.tr (Pw.tr (Pw.tr (Pw.ud u_4.1 (by decide)) (Pw.fr u_12 (by decide))) (Pw.fr u_20 (by decide))) (Pw.fr u_35 (by decide))) e_44) e_52)⟩ dX12_judge_165
          · -- 141
            refine lv_aload_n C0.1 C0.2.1 dX12_judge_144 rfl (lv_at hl 4 rfl) ?_
            refine ng_X12_toldWhy C0 h kSM_0 q_1455 dX12_judge_145 (fun v_64 e_65 e_66 e_67 => ?_)
            refine lv_goto (tgt := 165) C0.1 C0.2.1 dX12_judge_148 (by decide) ?_
            rw [hQ]
            exact y_iret C0 h (Fr.tr (Fr.tr (Fr.tr (Fr.tr (Fr.tr (Fr.up u_4.1 kSM_0 (by decide)) (Fr.mono u_12 (by decide))) (Fr.mono u_20 (by decide))) (Fr.mono u_35 (by decide))) (Fr.mono u_38 (by decide))) (Fr.mono u_49 (by decide))) ⟨(Pa.tr (Pa.tr (Pa.tr (Pa.tr (Pa.tr (Pa.ud u_4.1 (by decide)) (Pa.fr u_12 (by decide))) (Pa.fr u_20 (by decide))) (Pa.fr u_35 (by decide))) e_43) e_51), (Pw.tr (Pw.tr (Pw.tr (Pw.tr (Pw.tr (Pw.ud u_4.1 (by decide)) (Pw.fr u_12 (by decide))) (Pw.fr u_20 (by decide))) (Pw.fr u_35 (by decide))) e_44) e_52)⟩ dX12_judge_165
        · -- 109
          refine lv_aload_n C0.1 C0.2.1 dX12_judge_112 rfl (lv_at hl 4 rfl) ?_
          refine ng_X12_toldWhy C0 h kSM_0 q_1455 dX12_judge_113 (fun v_68 e_69 e_70 e_71 => ?_)
          refine y_if_ne (tgt := 123) C0 dX12_judge_116 (by decide) (fun c_72 => ?_) (fun c_72 => ?_)
          · -- 116
            refine lv_iload C0.1 C0.2.1 dX12_judge_123 (lv_at hl 2 rfl) ?_
            refine y_if_eq (tgt := 135) C0 dX12_judge_125 (by decide) (fun c_73 => ?_) (fun c_73 => ((o35_152 e_33 c_73)).elim)
            refine y_c1 (n := 0) C0 (by decide) dX12_judge_135 (fun v_74 e_75 => ?_)
            refine lv_goto (tgt := 165) C0.1 C0.2.1 dX12_judge_136 (by decide) ?_
            rw [hQ]
            exact y_iret C0 h (Fr.tr (Fr.tr (Fr.tr (Fr.tr (Fr.tr (Fr.up u_4.1 kSM_0 (by decide)) (Fr.mono u_12 (by decide))) (Fr.mono u_20 (by decide))) (Fr.mono u_35 (by decide))) (Fr.mono u_38 (by decide))) (Fr.mono u_49 (by decide))) ⟨(Pa.tr (Pa.tr (Pa.tr (Pa.tr (Pa.tr (Pa.ud u_4.1 (by decide)) (Pa.fr u_12 (by decide))) (Pa.fr u_20 (by decide))) (Pa.fr u_35 (by decide))) e_43) e_51), (Pw.tr (Pw.tr (Pw.tr (Pw.tr (Pw.tr (Pw.ud u_4.1 (by decide)) (Pw.fr u_12 (by decide))) (Pw.fr u_20 (by decide))) (Pw.fr u_35 (by decide))) e_44) e_52)⟩ dX12_judge_165
          · -- 116
            refine y_c1 (n := (-1)) C0 (by decide) dX12_judge_119 (fun v_76 e_77 => ?_)
            refine lv_goto (tgt := 165) C0.1 C0.2.1 dX12_judge_120 (by decide) ?_
            rw [hQ]
            exact y_iret C0 h (Fr.tr (Fr.tr (Fr.tr (Fr.tr (Fr.tr (Fr.up u_4.1 kSM_0 (by decide)) (Fr.mono u_12 (by decide))) (Fr.mono u_20 (by decide))) (Fr.mono u_35 (by decide))) (Fr.mono u_38 (by decide))) (Fr.mono u_49 (by decide))) ⟨(Pa.tr (Pa.tr (Pa.tr (Pa.tr (Pa.tr (Pa.ud u_4.1 (by decide)) (Pa.fr u_12 (by decide))) (Pa.fr u_20 (by decide))) (Pa.fr u_35 (by decide))) e_43) e_51), (Pw.tr (Pw.tr (Pw.tr (Pw.tr (Pw.tr (Pw.ud u_4.1 (by decide)) (Pw.fr u_12 (by decide))) (Pw.fr u_20 (by decide))) (Pw.fr u_35 (by decide))) e_44) e_52)⟩ dX12_judge_165
      · -- 38
        refine lv_aload_n C0.1 C0.2.1 dX12_judge_41 rfl (lv_at hl 1 rfl) ?_
        refine lv_aload_n C0.1 C0.2.1 dX12_judge_42 rfl (lv_at hl 1 rfl) ?_
        refine ng_X12_numbers C0 h kSM_0 q_1481 dX12_judge_43 ?_
        refine y_c2 (n := 40) C0 (by decide) dX12_judge_46 (fun v_78 e_79 => ?_)
        refine lv_iload_n C0.1 C0.2.1 dX12_judge_48 rfl (lv_at hl 2 rfl) ?_
        refine y_cmul (n := 40) C0 (o35_95 e_79) (o35_153 e_23 e_24 e_25 c_26 (le_min a1) (le_max a1) (le_min r_22) (le_max r_22)) (o35_154 e_23 e_24 e_25 c_26 (le_min a1) (le_max a1) (le_min r_22) (le_max r_22)) dX12_judge_49 (fun v_80 e_81 => ?_)
        refine y_lald C0 h kSM_25 rfl (by decide) (o35_155 e_23 e_24 e_25 c_26 e_81) (o35_156 e_23 e_24 e_25 c_26 e_81) dX12_judge_50 (fun w_82 e_83 => ?_)
        refine y_ci h (y_rV (As := [.long w_82]) (rest := []) C0 hZ h (c_X12_isPerson l G Z ad _ h.2 w_82 (J.pa hT hJ (Pa.tr (Pa.tr (Pa.ud u_4.1 (by decide)) (Pa.fr u_12 (by decide))) (Pa.fr u_20 (by decide))))) k_X12_isPerson q_1693 q_77 q_1691 kSM_0 rfl rfl rfl hl.1 rfl rfl (Nat.le_of_ble_eq_true rfl) dX12_judge_51 ⟨Nat.le_of_ble_eq_true rfl, Nat.le_of_ble_eq_true rfl⟩ ⟨Nat.le_of_ble_eq_true rfl, Nat.le_of_ble_eq_true rfl⟩) (fun r_87 H locs ws_84 h u_85 p_86 => ?_)
        obtain ⟨e_88, e_89, e_90, e_91⟩ := p_86
        refine y_if_eq (tgt := 61) C0 dX12_judge_54 (by decide) (fun c_92 => ?_) (fun c_92 => ?_)
        · -- 54
          refine y_c1 (n := 0) C0 (by decide) dX12_judge_61 (fun v_93 e_94 => ?_)
          refine lv_istore (lv' := [(4, .int v_93), (3, .int r_22), (0, .ref (ad 0)), (1, .int a1), (2, .int a2)]) C0.1 C0.2.1 dX12_judge_62 hl (by decide) rfl (fun ls hl => ?_)
          refine lv_aload_n C0.1 C0.2.1 dX12_judge_64 rfl (lv_at hl 2 rfl) ?_
          refine y_cv h (y_rV (As := []) (rest := []) C0 hZ h (c_X12_keeps l G Z ad _ h.2) k_X12_keeps q_1777 q_88 q_1775 kSM_0 rfl rfl rfl hl.1 rfl rfl (Nat.le_of_ble_eq_true rfl) dX12_judge_65 ⟨Nat.le_of_ble_eq_true rfl, Nat.le_of_ble_eq_true rfl⟩ ⟨Nat.le_of_ble_eq_true rfl, Nat.le_of_ble_eq_true rfl⟩) (fun H locs ws_95 h u_96 p_97 => ?_)
          refine lv_aload_n C0.1 C0.2.1 dX12_judge_68 rfl (lv_at hl 2 rfl) ?_
          refine lv_iload_n C0.1 C0.2.1 dX12_judge_69 rfl (lv_at hl 3 rfl) ?_
          refine y_ci h (y_rV (As := [.int a1]) (rest := []) C0 hZ h (c_X12_tells l G Z ad _ h.2 a1 (o35_157 e_23 e_24 e_25 c_26 e_81) (o35_158 e_23 e_24 e_25 c_26 e_81) (J.pa hT hJ (Pa.tr (Pa.tr (Pa.tr (Pa.tr (Pa.ud u_4.1 (by decide)) (Pa.fr u_12 (by decide))) (Pa.fr u_20 (by decide))) (Pa.fr u_85 (by decide))) (Pa.fr u_96 (by decide))))) k_X12_tells q_1800 q_92 q_1798 kSM_0 rfl rfl rfl hl.1 rfl rfl (Nat.le_of_ble_eq_true rfl) dX12_judge_70 ⟨Nat.le_of_ble_eq_true rfl, Nat.le_of_ble_eq_true rfl⟩ ⟨Nat.le_of_ble_eq_true rfl, Nat.le_of_ble_eq_true rfl⟩) (fun r_101 H locs ws_98 h u_99 p_100 => ?_)
          obtain ⟨e_102, e_103, e_104, e_105⟩ := p_100
          refine lv_istore (lv' := [(5, .int r_101), (4, .int v_93), (3, .int r_22), (0, .ref (ad 0)), (1, .int a1), (2, .int a2)]) C0.1 C0.2.1 dX12_judge_73 hl (by decide) rfl (fun ls hl => ?_)
          refine lv_iload C0.1 C0.2.1 dX12_judge_75 (lv_at hl 1 rfl) ?_
          refine y_if_eq (tgt := 101) C0 dX12_judge_77 (by decide) (fun c_106 => ?_) (fun c_106 => ((o35_152 e_94 c_106)).elim)
          refine y_c1 (n := (-1)) C0 (by decide) dX12_judge_101 (fun v_107 e_108 => ?_)
          refine lv_istore (lv' := [(6, .int v_107), (5, .int r_101), (4, .int v_93), (3, .int r_22), (0, .ref (ad 0)), (1, .int a1), (2, .int a2)]) C0.1 C0.2.1 dX12_judge_102 hl (by decide) rfl (fun ls hl => ?_)
          refine lv_aload_n C0.1 C0.2.1 dX12_judge_104 rfl (lv_at hl 4 rfl) ?_
          refine y_cv h (y_rV (As := []) (rest := []) C0 hZ h (c_X12_isAgain l G Z ad _ h.2) k_X12_isAgain q_1804 q_93 q_1802 kSM_0 rfl rfl rfl hl.1 rfl rfl (Nat.le_of_ble_eq_true rfl) dX12_judge_105 ⟨Nat.le_of_ble_eq_true rfl, Nat.le_of_ble_eq_true rfl⟩ ⟨Nat.le_of_ble_eq_true rfl, Nat.le_of_ble_eq_true rfl⟩) (fun H locs ws_109 h u_110 p_111 => ?_)
          obtain ⟨e_112, e_113⟩ := p_111
          refine lv_iload_n C0.1 C0.2.1 dX12_judge_108 rfl (lv_at hl 6 rfl) ?_
          refine y_if_ne (tgt := 139) C0 dX12_judge_109 (by decide) (fun c_114 => ?_) (fun c_114 => ?_)
          · -- 109
            refine lv_iload_n C0.1 C0.2.1 dX12_judge_139 rfl (lv_at hl 6 rfl) ?_
            refine y_c1 (n := 1) C0 (by decide) dX12_judge_140 (fun v_115 e_116 => ?_)
            refine y_icmp_ne (tgt := 151) C0 dX12_judge_141 (by decide) (fun c_117 => ?_) (fun c_117 => ?_)
            · -- 141
              refine lv_iload_n C0.1 C0.2.1 dX12_judge_151 rfl (lv_at hl 6 rfl) ?_
              refine y_c1 (n := 2) C0 (by decide) dX12_judge_152 (fun v_118 e_119 => ?_)
              refine y_icmp_ne (tgt := 161) C0 dX12_judge_153 (by decide) (fun c_120 => ?_) (fun c_120 => ?_)
              · -- 153
                refine lv_aload_n C0.1 C0.2.1 dX12_judge_161 rfl (lv_at hl 4 rfl) ?_
                refine ng_X12_tookMany C0 h kSM_0 q_1456 dX12_judge_162 (fun v_121 e_122 e_123 e_124 => ?_)
                rw [hQ]
                exact y_iret C0 h (Fr.tr (Fr.tr (Fr.tr (Fr.tr (Fr.tr (Fr.tr (Fr.up u_4.1 kSM_0 (by decide)) (Fr.mono u_12 (by decide))) (Fr.mono u_20 (by decide))) (Fr.mono u_85 (by decide))) (Fr.mono u_96 (by decide))) (Fr.mono u_99 (by decide))) (Fr.mono u_110 (by decide))) ⟨(Pa.tr (Pa.tr (Pa.tr (Pa.tr (Pa.tr (Pa.tr (Pa.ud u_4.1 (by decide)) (Pa.fr u_12 (by decide))) (Pa.fr u_20 (by decide))) (Pa.fr u_85 (by decide))) (Pa.fr u_96 (by decide))) e_104) e_112), (Pw.tr (Pw.tr (Pw.tr (Pw.tr (Pw.tr (Pw.tr (Pw.ud u_4.1 (by decide)) (Pw.fr u_12 (by decide))) (Pw.fr u_20 (by decide))) (Pw.fr u_85 (by decide))) (Pw.fr u_96 (by decide))) e_105) e_113)⟩ dX12_judge_165
              · -- 153
                refine lv_iload C0.1 C0.2.1 dX12_judge_156 (lv_at hl 0 rfl) ?_
                refine lv_goto (tgt := 165) C0.1 C0.2.1 dX12_judge_158 (by decide) ?_
                rw [hQ]
                exact y_iret C0 h (Fr.tr (Fr.tr (Fr.tr (Fr.tr (Fr.tr (Fr.tr (Fr.up u_4.1 kSM_0 (by decide)) (Fr.mono u_12 (by decide))) (Fr.mono u_20 (by decide))) (Fr.mono u_85 (by decide))) (Fr.mono u_96 (by decide))) (Fr.mono u_99 (by decide))) (Fr.mono u_110 (by decide))) ⟨(Pa.tr (Pa.tr (Pa.tr (Pa.tr (Pa.tr (Pa.tr (Pa.ud u_4.1 (by decide)) (Pa.fr u_12 (by decide))) (Pa.fr u_20 (by decide))) (Pa.fr u_85 (by decide))) (Pa.fr u_96 (by decide))) e_104) e_112), (Pw.tr (Pw.tr (Pw.tr (Pw.tr (Pw.tr (Pw.tr (Pw.ud u_4.1 (by decide)) (Pw.fr u_12 (by decide))) (Pw.fr u_20 (by decide))) (Pw.fr u_85 (by decide))) (Pw.fr u_96 (by decide))) e_105) e_113)⟩ dX12_judge_165
            · -- 141
              refine lv_aload_n C0.1 C0.2.1 dX12_judge_144 rfl (lv_at hl 4 rfl) ?_
              refine ng_X12_toldWhy C0 h kSM_0 q_1455 dX12_judge_145 (fun v_125 e_126 e_127 e_128 => ?_)
              refine lv_goto (tgt := 165) C0.1 C0.2.1 dX12_judge_148 (by decide) ?_
              rw [hQ]
              exact y_iret C0 h (Fr.tr (Fr.tr (Fr.tr (Fr.tr (Fr.tr (Fr.tr (Fr.up u_4.1 kSM_0 (by decide)) (Fr.mono u_12 (by decide))) (Fr.mono u_20 (by decide))) (Fr.mono u_85 (by decide))) (Fr.mono u_96 (by decide))) (Fr.mono u_99 (by decide))) (Fr.mono u_110 (by decide))) ⟨(Pa.tr (Pa.tr (Pa.tr (Pa.tr (Pa.tr (Pa.tr (Pa.ud u_4.1 (by decide)) (Pa.fr u_12 (by decide))) (Pa.fr u_20 (by decide))) (Pa.fr u_85 (by decide))) (Pa.fr u_96 (by decide))) e_104) e_112), (Pw.tr (Pw.tr (Pw.tr (Pw.tr (Pw.tr (Pw.tr (Pw.ud u_4.1 (by decide)) (Pw.fr u_12 (by decide))) (Pw.fr u_20 (by decide))) (Pw.fr u_85 (by decide))) (Pw.fr u_96 (by decide))) e_105) e_113)⟩ dX12_judge_165
          · -- 109
            refine lv_aload_n C0.1 C0.2.1 dX12_judge_112 rfl (lv_at hl 4 rfl) ?_
            refine ng_X12_toldWhy C0 h kSM_0 q_1455 dX12_judge_113 (fun v_129 e_130 e_131 e_132 => ?_)
            refine y_if_ne (tgt := 123) C0 dX12_judge_116 (by decide) (fun c_133 => ?_) (fun c_133 => ?_)
            · -- 116
              refine lv_iload C0.1 C0.2.1 dX12_judge_123 (lv_at hl 2 rfl) ?_
              refine y_if_eq (tgt := 135) C0 dX12_judge_125 (by decide) (fun c_134 => ?_) (fun c_134 => ((o35_152 e_94 c_134)).elim)
              refine y_c1 (n := 0) C0 (by decide) dX12_judge_135 (fun v_135 e_136 => ?_)
              refine lv_goto (tgt := 165) C0.1 C0.2.1 dX12_judge_136 (by decide) ?_
              rw [hQ]
              exact y_iret C0 h (Fr.tr (Fr.tr (Fr.tr (Fr.tr (Fr.tr (Fr.tr (Fr.up u_4.1 kSM_0 (by decide)) (Fr.mono u_12 (by decide))) (Fr.mono u_20 (by decide))) (Fr.mono u_85 (by decide))) (Fr.mono u_96 (by decide))) (Fr.mono u_99 (by decide))) (Fr.mono u_110 (by decide))) ⟨(Pa.tr (Pa.tr (Pa.tr (Pa.tr (Pa.tr (Pa.tr (Pa.ud u_4.1 (by decide)) (Pa.fr u_12 (by decide))) (Pa.fr u_20 (by decide))) (Pa.fr u_85 (by decide))) (Pa.fr u_96 (by decide))) e_104) e_112), (Pw.tr (Pw.tr (Pw.tr (Pw.tr (Pw.tr (Pw.tr (Pw.ud u_4.1 (by decide)) (Pw.fr u_12 (by decide))) (Pw.fr u_20 (by decide))) (Pw.fr u_85 (by decide))) (Pw.fr u_96 (by decide))) e_105) e_113)⟩ dX12_judge_165
            · -- 116
              refine y_c1 (n := (-1)) C0 (by decide) dX12_judge_119 (fun v_137 e_138 => ?_)
              refine lv_goto (tgt := 165) C0.1 C0.2.1 dX12_judge_120 (by decide) ?_
              rw [hQ]
              exact y_iret C0 h (Fr.tr (Fr.tr (Fr.tr (Fr.tr (Fr.tr (Fr.tr (Fr.up u_4.1 kSM_0 (by decide)) (Fr.mono u_12 (by decide))) (Fr.mono u_20 (by decide))) (Fr.mono u_85 (by decide))) (Fr.mono u_96 (by decide))) (Fr.mono u_99 (by decide))) (Fr.mono u_110 (by decide))) ⟨(Pa.tr (Pa.tr (Pa.tr (Pa.tr (Pa.tr (Pa.tr (Pa.ud u_4.1 (by decide)) (Pa.fr u_12 (by decide))) (Pa.fr u_20 (by decide))) (Pa.fr u_85 (by decide))) (Pa.fr u_96 (by decide))) e_104) e_112), (Pw.tr (Pw.tr (Pw.tr (Pw.tr (Pw.tr (Pw.tr (Pw.ud u_4.1 (by decide)) (Pw.fr u_12 (by decide))) (Pw.fr u_20 (by decide))) (Pw.fr u_85 (by decide))) (Pw.fr u_96 (by decide))) e_105) e_113)⟩ dX12_judge_165
        · -- 54
          refine y_c1 (n := 1) C0 (by decide) dX12_judge_57 (fun v_139 e_140 => ?_)
          refine lv_goto (tgt := 62) C0.1 C0.2.1 dX12_judge_58 (by decide) ?_
          refine lv_istore (lv' := [(4, .int v_139), (3, .int r_22), (0, .ref (ad 0)), (1, .int a1), (2, .int a2)]) C0.1 C0.2.1 dX12_judge_62 hl (by decide) rfl (fun ls hl => ?_)
          refine lv_aload_n C0.1 C0.2.1 dX12_judge_64 rfl (lv_at hl 2 rfl) ?_
          refine y_cv h (y_rV (As := []) (rest := []) C0 hZ h (c_X12_keeps l G Z ad _ h.2) k_X12_keeps q_1777 q_88 q_1775 kSM_0 rfl rfl rfl hl.1 rfl rfl (Nat.le_of_ble_eq_true rfl) dX12_judge_65 ⟨Nat.le_of_ble_eq_true rfl, Nat.le_of_ble_eq_true rfl⟩ ⟨Nat.le_of_ble_eq_true rfl, Nat.le_of_ble_eq_true rfl⟩) (fun H locs ws_141 h u_142 p_143 => ?_)
          refine lv_aload_n C0.1 C0.2.1 dX12_judge_68 rfl (lv_at hl 2 rfl) ?_
          refine lv_iload_n C0.1 C0.2.1 dX12_judge_69 rfl (lv_at hl 3 rfl) ?_
          refine y_ci h (y_rV (As := [.int a1]) (rest := []) C0 hZ h (c_X12_tells l G Z ad _ h.2 a1 (o35_157 e_23 e_24 e_25 c_26 e_81) (o35_158 e_23 e_24 e_25 c_26 e_81) (J.pa hT hJ (Pa.tr (Pa.tr (Pa.tr (Pa.tr (Pa.ud u_4.1 (by decide)) (Pa.fr u_12 (by decide))) (Pa.fr u_20 (by decide))) (Pa.fr u_85 (by decide))) (Pa.fr u_142 (by decide))))) k_X12_tells q_1800 q_92 q_1798 kSM_0 rfl rfl rfl hl.1 rfl rfl (Nat.le_of_ble_eq_true rfl) dX12_judge_70 ⟨Nat.le_of_ble_eq_true rfl, Nat.le_of_ble_eq_true rfl⟩ ⟨Nat.le_of_ble_eq_true rfl, Nat.le_of_ble_eq_true rfl⟩) (fun r_147 H locs ws_144 h u_145 p_146 => ?_)
          obtain ⟨e_148, e_149, e_150, e_151⟩ := p_146
          refine lv_istore (lv' := [(5, .int r_147), (4, .int v_139), (3, .int r_22), (0, .ref (ad 0)), (1, .int a1), (2, .int a2)]) C0.1 C0.2.1 dX12_judge_73 hl (by decide) rfl (fun ls hl => ?_)
          refine lv_iload C0.1 C0.2.1 dX12_judge_75 (lv_at hl 1 rfl) ?_
          refine y_if_eq (tgt := 101) C0 dX12_judge_77 (by decide) (fun c_152 => ((o35_159 e_140 c_152)).elim) (fun c_152 => ?_)
          refine lv_aload_n C0.1 C0.2.1 dX12_judge_80 rfl (lv_at hl 3 rfl) ?_
          refine ng_X12_all C0 h kSM_0 q_1439 dX12_judge_81 ?_
          refine y_c2 (n := 36) C0 (by decide) dX12_judge_84 (fun v_153 e_154 => ?_)
          refine lv_aload_n C0.1 C0.2.1 dX12_judge_86 rfl (lv_at hl 3 rfl) ?_
          refine ng_X12_numbers C0 h kSM_0 q_1481 dX12_judge_87 ?_
          refine y_c2 (n := 40) C0 (by decide) dX12_judge_90 (fun v_155 e_156 => ?_)
          refine lv_iload_n C0.1 C0.2.1 dX12_judge_92 rfl (lv_at hl 4 rfl) ?_
          refine y_cmul (n := 40) C0 (o35_95 e_156) (o35_160 e_23 e_24 e_25 c_26 e_81 (le_min a1) (le_max a1) (le_min r_22) (le_max r_22) (le_min v_80) (le_max v_80)) (o35_161 e_23 e_24 e_25 c_26 e_81 (le_min a1) (le_max a1) (le_min r_22) (le_max r_22) (le_min v_80) (le_max v_80)) dX12_judge_93 (fun v_157 e_158 => ?_)
          refine y_lald C0 h kSM_25 rfl (by decide) (o35_162 e_23 e_24 e_25 c_26 e_81 e_158) (o35_163 e_23 e_24 e_25 c_26 e_81 e_158) dX12_judge_94 (fun w_159 e_160 => ?_)
          have q_161 : w_159.toInt = w_82.toInt := congrArg Int64.toInt (e_160.symm.trans (Eq.trans (congrArg (aL ws_144 25) (o35_164 e_23 e_24 e_25 c_26 e_81 e_158)) (Eq.trans (Eq.trans (Fr.aL u_145 kSM_25 (by decide)) (Eq.trans (Fr.aL u_142 kSM_25 (by decide)) (Fr.aL u_85 kSM_25 (by decide)))) e_83)))
          refine y_l2i C0 (o35_105 e_88 e_89 e_90 c_92 q_161 (le_min r_87) (le_max r_87)) (o35_106 e_88 e_89 e_90 c_92 q_161 (le_min r_87) (le_max r_87)) dX12_judge_95 (fun v_162 e_163 => ?_)
          refine y_add C0 (o35_165 e_88 e_89 e_90 c_92 e_154 q_161 e_163 (le_min v_153) (le_max v_153) (le_min v_162) (le_max v_162) (le_min r_87) (le_max r_87)) (o35_166 e_88 e_89 e_90 c_92 e_154 q_161 e_163 (le_min v_153) (le_max v_153) (le_min v_162) (le_max v_162) (le_min r_87) (le_max r_87)) dX12_judge_96 (fun v_164 e_165 => ?_)
          refine y_iald C0 h kSM_1 rfl (by decide) (o35_167 e_88 e_89 e_90 c_92 e_154 q_161 e_163 e_165) (o35_168 e_88 e_89 e_90 c_92 e_154 q_161 e_163 e_165) dX12_judge_97 (fun v_166 e_167 e_168 e_169 => ?_)
          have f_170 := o35_16 v_164.toInt.toNat (o35_169 e_88 e_89 e_90 c_92 e_154 q_161 e_163 e_165) (o35_170 e_88 e_89 e_90 c_92 e_154 q_161 e_163 e_165)
          refine lv_goto (tgt := 102) C0.1 C0.2.1 dX12_judge_98 (by decide) ?_
          refine lv_istore (lv' := [(6, .int v_166), (5, .int r_147), (4, .int v_139), (3, .int r_22), (0, .ref (ad 0)), (1, .int a1), (2, .int a2)]) C0.1 C0.2.1 dX12_judge_102 hl (by decide) rfl (fun ls hl => ?_)
          refine lv_aload_n C0.1 C0.2.1 dX12_judge_104 rfl (lv_at hl 4 rfl) ?_
          refine y_cv h (y_rV (As := []) (rest := []) C0 hZ h (c_X12_isAgain l G Z ad _ h.2) k_X12_isAgain q_1804 q_93 q_1802 kSM_0 rfl rfl rfl hl.1 rfl rfl (Nat.le_of_ble_eq_true rfl) dX12_judge_105 ⟨Nat.le_of_ble_eq_true rfl, Nat.le_of_ble_eq_true rfl⟩ ⟨Nat.le_of_ble_eq_true rfl, Nat.le_of_ble_eq_true rfl⟩) (fun H locs ws_171 h u_172 p_173 => ?_)
          obtain ⟨e_174, e_175⟩ := p_173
          refine lv_iload_n C0.1 C0.2.1 dX12_judge_108 rfl (lv_at hl 6 rfl) ?_
          refine y_if_ne (tgt := 139) C0 dX12_judge_109 (by decide) (fun c_176 => ?_) (fun c_176 => ?_)
          · -- 109
            refine lv_iload_n C0.1 C0.2.1 dX12_judge_139 rfl (lv_at hl 6 rfl) ?_
            refine y_c1 (n := 1) C0 (by decide) dX12_judge_140 (fun v_177 e_178 => ?_)
            refine y_icmp_ne (tgt := 151) C0 dX12_judge_141 (by decide) (fun c_179 => ?_) (fun c_179 => ?_)
            · -- 141
              refine lv_iload_n C0.1 C0.2.1 dX12_judge_151 rfl (lv_at hl 6 rfl) ?_
              refine y_c1 (n := 2) C0 (by decide) dX12_judge_152 (fun v_180 e_181 => ?_)
              refine y_icmp_ne (tgt := 161) C0 dX12_judge_153 (by decide) (fun c_182 => ?_) (fun c_182 => ?_)
              · -- 153
                refine lv_aload_n C0.1 C0.2.1 dX12_judge_161 rfl (lv_at hl 4 rfl) ?_
                refine ng_X12_tookMany C0 h kSM_0 q_1456 dX12_judge_162 (fun v_183 e_184 e_185 e_186 => ?_)
                rw [hQ]
                exact y_iret C0 h (Fr.tr (Fr.tr (Fr.tr (Fr.tr (Fr.tr (Fr.tr (Fr.up u_4.1 kSM_0 (by decide)) (Fr.mono u_12 (by decide))) (Fr.mono u_20 (by decide))) (Fr.mono u_85 (by decide))) (Fr.mono u_142 (by decide))) (Fr.mono u_145 (by decide))) (Fr.mono u_172 (by decide))) ⟨(Pa.tr (Pa.tr (Pa.tr (Pa.tr (Pa.tr (Pa.tr (Pa.ud u_4.1 (by decide)) (Pa.fr u_12 (by decide))) (Pa.fr u_20 (by decide))) (Pa.fr u_85 (by decide))) (Pa.fr u_142 (by decide))) e_150) e_174), (Pw.tr (Pw.tr (Pw.tr (Pw.tr (Pw.tr (Pw.tr (Pw.ud u_4.1 (by decide)) (Pw.fr u_12 (by decide))) (Pw.fr u_20 (by decide))) (Pw.fr u_85 (by decide))) (Pw.fr u_142 (by decide))) e_151) e_175)⟩ dX12_judge_165
              · -- 153
                refine lv_iload C0.1 C0.2.1 dX12_judge_156 (lv_at hl 0 rfl) ?_
                refine lv_goto (tgt := 165) C0.1 C0.2.1 dX12_judge_158 (by decide) ?_
                rw [hQ]
                exact y_iret C0 h (Fr.tr (Fr.tr (Fr.tr (Fr.tr (Fr.tr (Fr.tr (Fr.up u_4.1 kSM_0 (by decide)) (Fr.mono u_12 (by decide))) (Fr.mono u_20 (by decide))) (Fr.mono u_85 (by decide))) (Fr.mono u_142 (by decide))) (Fr.mono u_145 (by decide))) (Fr.mono u_172 (by decide))) ⟨(Pa.tr (Pa.tr (Pa.tr (Pa.tr (Pa.tr (Pa.tr (Pa.ud u_4.1 (by decide)) (Pa.fr u_12 (by decide))) (Pa.fr u_20 (by decide))) (Pa.fr u_85 (by decide))) (Pa.fr u_142 (by decide))) e_150) e_174), (Pw.tr (Pw.tr (Pw.tr (Pw.tr (Pw.tr (Pw.tr (Pw.ud u_4.1 (by decide)) (Pw.fr u_12 (by decide))) (Pw.fr u_20 (by decide))) (Pw.fr u_85 (by decide))) (Pw.fr u_142 (by decide))) e_151) e_175)⟩ dX12_judge_165
            · -- 141
              refine lv_aload_n C0.1 C0.2.1 dX12_judge_144 rfl (lv_at hl 4 rfl) ?_
              refine ng_X12_toldWhy C0 h kSM_0 q_1455 dX12_judge_145 (fun v_187 e_188 e_189 e_190 => ?_)
              refine lv_goto (tgt := 165) C0.1 C0.2.1 dX12_judge_148 (by decide) ?_
              rw [hQ]
              exact y_iret C0 h (Fr.tr (Fr.tr (Fr.tr (Fr.tr (Fr.tr (Fr.tr (Fr.up u_4.1 kSM_0 (by decide)) (Fr.mono u_12 (by decide))) (Fr.mono u_20 (by decide))) (Fr.mono u_85 (by decide))) (Fr.mono u_142 (by decide))) (Fr.mono u_145 (by decide))) (Fr.mono u_172 (by decide))) ⟨(Pa.tr (Pa.tr (Pa.tr (Pa.tr (Pa.tr (Pa.tr (Pa.ud u_4.1 (by decide)) (Pa.fr u_12 (by decide))) (Pa.fr u_20 (by decide))) (Pa.fr u_85 (by decide))) (Pa.fr u_142 (by decide))) e_150) e_174), (Pw.tr (Pw.tr (Pw.tr (Pw.tr (Pw.tr (Pw.tr (Pw.ud u_4.1 (by decide)) (Pw.fr u_12 (by decide))) (Pw.fr u_20 (by decide))) (Pw.fr u_85 (by decide))) (Pw.fr u_142 (by decide))) e_151) e_175)⟩ dX12_judge_165
          · -- 109
            refine lv_aload_n C0.1 C0.2.1 dX12_judge_112 rfl (lv_at hl 4 rfl) ?_
            refine ng_X12_toldWhy C0 h kSM_0 q_1455 dX12_judge_113 (fun v_191 e_192 e_193 e_194 => ?_)
            refine y_if_ne (tgt := 123) C0 dX12_judge_116 (by decide) (fun c_195 => ?_) (fun c_195 => ?_)
            · -- 116
              refine lv_iload C0.1 C0.2.1 dX12_judge_123 (lv_at hl 2 rfl) ?_
              refine y_if_eq (tgt := 135) C0 dX12_judge_125 (by decide) (fun c_196 => ((o35_171 e_140 c_152 c_196)).elim) (fun c_196 => ?_)
              refine lv_iload C0.1 C0.2.1 dX12_judge_128 (lv_at hl 1 rfl) ?_
              refine y_c1 (n := 1) C0 (by decide) dX12_judge_130 (fun v_197 e_198 => ?_)
              refine y_add C0 (o35_172 e_148 e_149 e_198 (le_min r_147) (le_max r_147) (le_min v_197) (le_max v_197)) (o35_173 e_148 e_149 e_198 (le_min r_147) (le_max r_147) (le_min v_197) (le_max v_197)) dX12_judge_131 (fun v_199 e_200 => ?_)
              refine lv_goto (tgt := 165) C0.1 C0.2.1 dX12_judge_132 (by decide) ?_
              rw [hQ]
              exact y_iret C0 h (Fr.tr (Fr.tr (Fr.tr (Fr.tr (Fr.tr (Fr.tr (Fr.up u_4.1 kSM_0 (by decide)) (Fr.mono u_12 (by decide))) (Fr.mono u_20 (by decide))) (Fr.mono u_85 (by decide))) (Fr.mono u_142 (by decide))) (Fr.mono u_145 (by decide))) (Fr.mono u_172 (by decide))) ⟨(Pa.tr (Pa.tr (Pa.tr (Pa.tr (Pa.tr (Pa.tr (Pa.ud u_4.1 (by decide)) (Pa.fr u_12 (by decide))) (Pa.fr u_20 (by decide))) (Pa.fr u_85 (by decide))) (Pa.fr u_142 (by decide))) e_150) e_174), (Pw.tr (Pw.tr (Pw.tr (Pw.tr (Pw.tr (Pw.tr (Pw.ud u_4.1 (by decide)) (Pw.fr u_12 (by decide))) (Pw.fr u_20 (by decide))) (Pw.fr u_85 (by decide))) (Pw.fr u_142 (by decide))) e_151) e_175)⟩ dX12_judge_165
            · -- 116
              refine y_c1 (n := (-1)) C0 (by decide) dX12_judge_119 (fun v_201 e_202 => ?_)
              refine lv_goto (tgt := 165) C0.1 C0.2.1 dX12_judge_120 (by decide) ?_
              rw [hQ]
              exact y_iret C0 h (Fr.tr (Fr.tr (Fr.tr (Fr.tr (Fr.tr (Fr.tr (Fr.up u_4.1 kSM_0 (by decide)) (Fr.mono u_12 (by decide))) (Fr.mono u_20 (by decide))) (Fr.mono u_85 (by decide))) (Fr.mono u_142 (by decide))) (Fr.mono u_145 (by decide))) (Fr.mono u_172 (by decide))) ⟨(Pa.tr (Pa.tr (Pa.tr (Pa.tr (Pa.tr (Pa.tr (Pa.ud u_4.1 (by decide)) (Pa.fr u_12 (by decide))) (Pa.fr u_20 (by decide))) (Pa.fr u_85 (by decide))) (Pa.fr u_142 (by decide))) e_150) e_174), (Pw.tr (Pw.tr (Pw.tr (Pw.tr (Pw.tr (Pw.tr (Pw.ud u_4.1 (by decide)) (Pw.fr u_12 (by decide))) (Pw.fr u_20 (by decide))) (Pw.fr u_85 (by decide))) (Pw.fr u_142 (by decide))) e_151) e_175)⟩ dX12_judge_165
    · -- 27
      refine lv_iload_n C0.1 C0.2.1 dX12_judge_30 rfl (lv_at hl 0 rfl) ?_
      rw [hQ]
      exact y_iret C0 h (Fr.tr (Fr.tr (Fr.up u_4.1 kSM_0 (by decide)) (Fr.mono u_12 (by decide))) (Fr.mono u_20 (by decide))) ⟨(Pa.tr (Pa.tr (Pa.ud u_4.1 (by decide)) (Pa.fr u_12 (by decide))) (Pa.fr u_20 (by decide))), (Pw.tr (Pw.tr (Pw.ud u_4.1 (by decide)) (Pw.fr u_12 (by decide))) (Pw.fr u_20 (by decide)))⟩ dX12_judge_31
  · -- 14
    refine y_c2 (n := (-2)) C0 (by decide) dX12_judge_17 (fun v_203 e_204 => ?_)
    rw [hQ]
    exact y_iret C0 h (Fr.tr (Fr.up u_4.1 kSM_0 (by decide)) (Fr.mono u_12 (by decide))) ⟨(Pa.tr (Pa.ud u_4.1 (by decide)) (Pa.fr u_12 (by decide))), (Pw.tr (Pw.ud u_4.1 (by decide)) (Pw.fr u_12 (by decide)))⟩ dX12_judge_19
set_option maxHeartbeats 4000000 in
set_option maxRecDepth 100000 in
theorem c_X12_walk (l : Launch) (G : GG) (Z : RZ) (ad : Nat → Nat) (ws0 : va_W) (hT : Ty G (SM tt) ad ws0) (a1 : Int32) (hJ : J ws0) : Mq l yX12_walk cX12_walk 4 (some .int) 6 G Z [.ref (ad 0), .int a1] ws0 (PI G (SM tt) ad [0, 1, 5, 6] ws0 (fun r u => ((-6) ≤ r.toInt) ∧ (r.toInt ≤ 39) ∧ (Pa ws0 u) ∧ (Pw ws0 u))) := by
  refine Mq.start (by decide) (Nat.le_of_ble_eq_true rfl) ?_
  intro p e s m below meth c A ls C0 hZ h hl
  have hl : lv_has ls 4 [(0, .ref (ad 0)), (1, .int a1)] := hl
  have h : Wt G (SM tt) ad A s s.heap [] ws0 := ⟨h, hT⟩
  obtain ⟨args, hargs⟩ : ∃ z, z = ([.ref (ad 0), .int a1] : List Value).toArray := ⟨_, rfl⟩
  rw [← hargs] at C0 ⊢
  have C0 : Cx p s m args meth c RX12 cX12_walk 4 (some .int) := C0
  obtain ⟨Q, hQ⟩ : ∃ z, z = MQ below ((PI G (SM tt) ad [0, 1, 5, 6] ws0 (fun r u => ((-6) ≤ r.toInt) ∧ (r.toInt ≤ 39) ∧ (Pa ws0 u) ∧ (Pw ws0 u))) A) args s 0 0 A := ⟨_, rfl⟩
  rw [← hQ]
  refine lv_aload_n C0.1 C0.2.1 dX12_walk_0 rfl (lv_at hl 0 rfl) ?_
  refine y_c1 (n := 0) C0 (by decide) dX12_walk_1 (fun v_1 e_2 => ?_)
  refine np_X12_thrown C0 h kSM_0 q_1438 (le_min v_1) (le_max v_1) dX12_walk_2 (fun H locs ws_3 h u_4 => ?_)
  refine lv_aload_n C0.1 C0.2.1 dX12_walk_5 rfl (lv_at hl 0 rfl) ?_
  refine lv_iload_n C0.1 C0.2.1 dX12_walk_6 rfl (lv_at hl 1 rfl) ?_
  refine y_ci h (y_rV (As := [.int a1]) (rest := []) C0 hZ h (c_X12_noTray l G Z ad _ h.2 a1) k_X12_noTray q_1796 q_91 q_1794 kSM_0 rfl rfl rfl hl.1 rfl rfl (Nat.le_of_ble_eq_true rfl) dX12_walk_7 ⟨Nat.le_of_ble_eq_true rfl, Nat.le_of_ble_eq_true rfl⟩ ⟨Nat.le_of_ble_eq_true rfl, Nat.le_of_ble_eq_true rfl⟩) (fun r_8 H locs ws_5 h u_6 p_7 => ?_)
  obtain ⟨e_9, e_10, e_11⟩ := p_7
  refine lv_istore_n (lv' := [(2, .int r_8), (0, .ref (ad 0)), (1, .int a1)]) C0.1 C0.2.1 dX12_walk_10 rfl hl (by decide) rfl (fun ls hl => ?_)
  refine lv_iload_n C0.1 C0.2.1 dX12_walk_11 rfl (lv_at hl 0 rfl) ?_
  refine y_if_eq (tgt := 17) C0 dX12_walk_12 (by decide) (fun c_12 => ?_) (fun c_12 => ?_)
  · -- 12
    refine lv_aload_n C0.1 C0.2.1 dX12_walk_17 rfl (lv_at hl 1 rfl) ?_
    refine y_cv h (y_rV (As := []) (rest := []) C0 hZ h (c_X12_keeps l G Z ad _ h.2) k_X12_keeps q_1777 q_88 q_1775 kSM_0 rfl rfl rfl hl.1 rfl rfl (Nat.le_of_ble_eq_true rfl) dX12_walk_18 ⟨Nat.le_of_ble_eq_true rfl, Nat.le_of_ble_eq_true rfl⟩ ⟨Nat.le_of_ble_eq_true rfl, Nat.le_of_ble_eq_true rfl⟩) (fun H locs ws_13 h u_14 p_15 => ?_)
    refine lv_aload_n C0.1 C0.2.1 dX12_walk_21 rfl (lv_at hl 1 rfl) ?_
    refine lv_iload_n C0.1 C0.2.1 dX12_walk_22 rfl (lv_at hl 2 rfl) ?_
    refine y_ci h (y_rV (As := [.int a1]) (rest := []) C0 hZ h (c_X12_tells l G Z ad _ h.2 a1 (o35_149 e_9 e_10 e_11 c_12) (o35_151 e_9 e_10 e_11 c_12) (J.pa hT hJ (Pa.tr (Pa.tr (Pa.ud u_4.1 (by decide)) (Pa.fr u_6 (by decide))) (Pa.fr u_14 (by decide))))) k_X12_tells q_1800 q_92 q_1798 kSM_0 rfl rfl rfl hl.1 rfl rfl (Nat.le_of_ble_eq_true rfl) dX12_walk_23 ⟨Nat.le_of_ble_eq_true rfl, Nat.le_of_ble_eq_true rfl⟩ ⟨Nat.le_of_ble_eq_true rfl, Nat.le_of_ble_eq_true rfl⟩) (fun r_19 H locs ws_16 h u_17 p_18 => ?_)
    obtain ⟨e_20, e_21, e_22, e_23⟩ := p_18
    refine lv_istore_n (lv' := [(3, .int r_19), (2, .int r_8), (0, .ref (ad 0)), (1, .int a1)]) C0.1 C0.2.1 dX12_walk_26 rfl hl (by decide) rfl (fun ls hl => ?_)
    refine lv_iload_n C0.1 C0.2.1 dX12_walk_27 rfl (lv_at hl 0 rfl) ?_
    refine y_if_le (tgt := 35) C0 dX12_walk_28 (by decide) (fun c_24 => ?_) (fun c_24 => ?_)
    · -- 28
      refine lv_iload_n C0.1 C0.2.1 dX12_walk_35 rfl (lv_at hl 0 rfl) ?_
      rw [hQ]
      exact y_iret C0 h (Fr.tr (Fr.tr (Fr.tr (Fr.up u_4.1 kSM_0 (by decide)) (Fr.mono u_6 (by decide))) (Fr.mono u_14 (by decide))) (Fr.mono u_17 (by decide))) ⟨(o35_174 e_20 e_21 c_24), (o35_175 e_20 e_21 c_24), (Pa.tr (Pa.tr (Pa.tr (Pa.ud u_4.1 (by decide)) (Pa.fr u_6 (by decide))) (Pa.fr u_14 (by decide))) e_22), (Pw.tr (Pw.tr (Pw.tr (Pw.ud u_4.1 (by decide)) (Pw.fr u_6 (by decide))) (Pw.fr u_14 (by decide))) e_23)⟩ dX12_walk_36
    · -- 28
      refine lv_aload_n C0.1 C0.2.1 dX12_walk_31 rfl (lv_at hl 2 rfl) ?_
      refine y_cv h (y_rV (As := []) (rest := []) C0 hZ h (c_X12_notes l G Z ad _ h.2) k_X12_notes q_1788 q_90 q_1786 kSM_0 rfl rfl rfl hl.1 rfl rfl (Nat.le_of_ble_eq_true rfl) dX12_walk_32 ⟨Nat.le_of_ble_eq_true rfl, Nat.le_of_ble_eq_true rfl⟩ ⟨Nat.le_of_ble_eq_true rfl, Nat.le_of_ble_eq_true rfl⟩) (fun H locs ws_25 h u_26 p_27 => ?_)
      obtain ⟨e_28, e_29⟩ := p_27
      refine lv_iload_n C0.1 C0.2.1 dX12_walk_35 rfl (lv_at hl 0 rfl) ?_
      rw [hQ]
      exact y_iret C0 h (Fr.tr (Fr.tr (Fr.tr (Fr.tr (Fr.up u_4.1 kSM_0 (by decide)) (Fr.mono u_6 (by decide))) (Fr.mono u_14 (by decide))) (Fr.mono u_17 (by decide))) (Fr.mono u_26 (by decide))) ⟨(o35_176 e_20 e_21 c_24), (o35_177 e_20 e_21 c_24), (Pa.tr (Pa.tr (Pa.tr (Pa.tr (Pa.ud u_4.1 (by decide)) (Pa.fr u_6 (by decide))) (Pa.fr u_14 (by decide))) e_22) e_28), (Pw.tr (Pw.tr (Pw.tr (Pw.tr (Pw.ud u_4.1 (by decide)) (Pw.fr u_6 (by decide))) (Pw.fr u_14 (by decide))) e_23) e_29)⟩ dX12_walk_36
  · -- 12
    refine lv_iload_n C0.1 C0.2.1 dX12_walk_15 rfl (lv_at hl 0 rfl) ?_
    rw [hQ]
    exact y_iret C0 h (Fr.tr (Fr.up u_4.1 kSM_0 (by decide)) (Fr.mono u_6 (by decide))) ⟨(o35_178 e_9 e_10 e_11 c_12), (o35_179 e_9 e_10 e_11 c_12), (Pa.tr (Pa.ud u_4.1 (by decide)) (Pa.fr u_6 (by decide))), (Pw.tr (Pw.ud u_4.1 (by decide)) (Pw.fr u_6 (by decide)))⟩ dX12_walk_16
set_option maxHeartbeats 4000000 in
set_option maxRecDepth 100000 in
theorem c_X12_buys (l : Launch) (G : GG) (Z : RZ) (ad : Nat → Nat) (ws0 : va_W) (hT : Ty G (SM tt) ad ws0) (a1 : Int32) (a2 : Int32) (l1 : 0 ≤ a1.toInt) (u1 : a1.toInt ≤ 4) (l2 : 1 ≤ a2.toInt) (u2 : a2.toInt ≤ 20) (hJ : J ws0) (hLd : Laid ws0) : Mq l yX12_buys cX12_buys 6 (some .long) 4 G Z [.ref (ad 0), .int a1, .int a2] ws0 (PL G (SM tt) ad [1, 5] ws0 (fun r u => (Ps ws0 u) ∧ (Pa ws0 u) ∧ (Pw ws0 u))) := by
  refine Mq.start (by decide) (Nat.le_of_ble_eq_true rfl) ?_
  intro p e s m below meth c A ls C0 hZ h hl
  have hl : lv_has ls 6 [(0, .ref (ad 0)), (1, .int a1), (2, .int a2)] := hl
  have h : Wt G (SM tt) ad A s s.heap [] ws0 := ⟨h, hT⟩
  obtain ⟨args, hargs⟩ : ∃ z, z = ([.ref (ad 0), .int a1, .int a2] : List Value).toArray := ⟨_, rfl⟩
  rw [← hargs] at C0 ⊢
  have C0 : Cx p s m args meth c RX12 cX12_buys 6 (some .long) := C0
  obtain ⟨Q, hQ⟩ : ∃ z, z = MQ below ((PL G (SM tt) ad [1, 5] ws0 (fun r u => (Ps ws0 u) ∧ (Pa ws0 u) ∧ (Pw ws0 u))) A) args s 0 0 A := ⟨_, rfl⟩
  rw [← hQ]
  refine y_lc (v := 0) C0 (by decide) dX12_buys_0 (fun w_1 e_2 => ?_)
  refine lv_lstore_n (lv' := [(3, .long w_1), (0, .ref (ad 0)), (1, .int a1), (2, .int a2)]) C0.1 C0.2.1 dX12_buys_1 rfl hl (by decide) rfl (fun ls hl => ?_)
  refine y_c1 (n := 0) C0 (by decide) dX12_buys_2 (fun v_3 e_4 => ?_)
  refine lv_istore (lv' := [(5, .int v_3), (3, .long w_1), (0, .ref (ad 0)), (1, .int a1), (2, .int a2)]) C0.1 C0.2.1 dX12_buys_3 hl (by decide) rfl (fun ls hl => ?_)
  have lp_9 : ∀ (n_11 : Nat) (x5_5 : Int32) (x3_6 : Int64) (H : Heap) (locs : List Loc) (ls : Array Slot) (ws_7 : va_W), 20 - x5_5.toInt < (n_11 : Int) → 0 ≤ x5_5.toInt → x5_5.toInt ≤ 20 → (Ps ws0 ws_7) → (Pa ws0 ws_7) → (Pw ws0 ws_7) → Wt G (SM tt) ad A s H locs ws_7 → Fr (SM tt) [1, 5] ws0 ws_7 → lv_has ls 6 [(5, .int x5_5), (3, .long x3_6), (0, .ref (ad 0)), (1, .int a1), (2, .int a2)] → W p l e (rmd 4 0 0) s m args below meth c H locs 0 0 Q (F0 m 5 ls []) := by
    intro n_11
    induction n_11 with
    | zero => intro x5_5 x3_6 H locs ls ws_7 hn_12 b_13 b_14 hPs hPa_5 hPw_5 h hF_8 hl; exact ((o35_180 b_13 b_14 hn_12)).elim
    | succ n_11 ih_10 =>
      intro x5_5 x3_6 H locs ls ws_7 hn_12 b_13 b_14 hPs hPa_5 hPw_5 h hF_8 hl
      refine lv_iload C0.1 C0.2.1 dX12_buys_5 (lv_at hl 0 rfl) ?_
      refine lv_iload_n C0.1 C0.2.1 dX12_buys_7 rfl (lv_at hl 4 rfl) ?_
      refine y_icmp_ge (tgt := 65) C0 dX12_buys_8 (by decide) (fun c_15 => ?_) (fun c_15 => ?_)
      · -- 8
        refine lv_lload_n C0.1 C0.2.1 dX12_buys_65 rfl (lv_at hl 1 rfl) ?_
        rw [hQ]
        exact y_lret C0 h hF_8 ⟨hPs, hPa_5, hPw_5⟩ dX12_buys_66
      · -- 8
        refine lv_lload_n C0.1 C0.2.1 dX12_buys_11 rfl (lv_at hl 1 rfl) ?_
        refine lv_aload_n C0.1 C0.2.1 dX12_buys_12 rfl (lv_at hl 2 rfl) ?_
        refine lv_aload_n C0.1 C0.2.1 dX12_buys_13 rfl (lv_at hl 2 rfl) ?_
        refine ng_X12_all C0 h kSM_0 q_1439 dX12_buys_14 ?_
        refine y_c2 (n := 36) C0 (by decide) dX12_buys_17 (fun v_16 e_17 => ?_)
        refine lv_iload_n C0.1 C0.2.1 dX12_buys_19 rfl (lv_at hl 3 rfl) ?_
        refine y_add C0 (o35_181 l1 u1 e_17 (le_min v_16) (le_max v_16) (le_min a1) (le_max a1)) (o35_182 l1 u1 e_17 (le_min v_16) (le_max v_16) (le_min a1) (le_max a1)) dX12_buys_20 (fun v_18 e_19 => ?_)
        refine y_iald C0 h kSM_1 rfl (by decide) (o35_183 l1 u1 e_17 e_19) (o35_184 l1 u1 e_17 e_19) dX12_buys_21 (fun v_20 e_21 e_22 e_23 => ?_)
        have f_24 := o35_16 v_18.toInt.toNat (o35_185 l1 u1 e_17 e_19) (o35_186 l1 u1 e_17 e_19)
        refine y_c1 (n := 0) C0 (by decide) dX12_buys_22 (fun v_25 e_26 => ?_)
        refine lv_aload_n C0.1 C0.2.1 dX12_buys_23 rfl (lv_at hl 2 rfl) ?_
        refine ng_X12_all C0 h kSM_0 q_1439 dX12_buys_24 ?_
        refine y_c2 (n := 41) C0 (by decide) dX12_buys_27 (fun v_27 e_28 => ?_)
        refine lv_iload_n C0.1 C0.2.1 dX12_buys_29 rfl (lv_at hl 3 rfl) ?_
        refine y_add C0 (o35_187 l1 u1 e_17 e_19 e_28 (le_min v_27) (le_max v_27) (le_min a1) (le_max a1) (le_min v_16) (le_max v_16) (le_min v_18) (le_max v_18)) (o35_188 l1 u1 e_17 e_19 e_28 (le_min v_27) (le_max v_27) (le_min a1) (le_max a1) (le_min v_16) (le_max v_16) (le_min v_18) (le_max v_18)) dX12_buys_30 (fun v_29 e_30 => ?_)
        refine y_iald C0 h kSM_1 rfl (by decide) (o35_189 l1 u1 e_17 e_19 e_28 e_30) (o35_190 l1 u1 e_17 e_19 e_28 e_30) dX12_buys_31 (fun v_31 e_32 e_33 e_34 => ?_)
        have f_35 := o35_23 v_29.toInt.toNat (o35_191 l1 u1 e_17 e_19 e_28 e_30) (o35_192 l1 u1 e_17 e_19 e_28 e_30)
        refine y_ci h (y_rV (As := [.int v_20, .int v_25, .int v_31]) (rest := [.long x3_6]) C0 hZ h (c_X12_priceOf l G Z ad _ h.2 v_20 v_25 v_31 (o35_193 (Int.le_trans f_24.1 e_22) (Int.le_trans e_23 f_24.2)) (o35_87 (Int.le_trans f_24.1 e_22) (Int.le_trans e_23 f_24.2)) (o35_92 (Int.le_trans f_35.1 e_33) (Int.le_trans e_34 f_35.2)) (o35_194 (Int.le_trans f_35.1 e_33) (Int.le_trans e_34 f_35.2)) (J.pa hT hJ hPa_5) (Laid.pa hLd hPa_5)) k_X12_priceOf q_1724 q_81 q_1722 kSM_0 rfl rfl rfl hl.1 rfl rfl (Nat.le_of_ble_eq_true rfl) dX12_buys_32 ⟨Nat.le_of_ble_eq_true rfl, Nat.le_of_ble_eq_true rfl⟩ ⟨Nat.le_of_ble_eq_true rfl, Nat.le_of_ble_eq_true rfl⟩) (fun r_39 H locs ws_36 h u_37 p_38 => ?_)
        have e_40 := p_38
        refine y_i2l C0 dX12_buys_35 (fun w_41 e_42 => ?_)
        refine y_laddU C0 dX12_buys_36 (fun w_43 => ?_)
        refine lv_lstore_n (lv' := [(3, .long w_43), (5, .int x5_5), (0, .ref (ad 0)), (1, .int a1), (2, .int a2)]) C0.1 C0.2.1 dX12_buys_37 rfl hl (by decide) rfl (fun ls hl => ?_)
        refine lv_aload_n C0.1 C0.2.1 dX12_buys_38 rfl (lv_at hl 2 rfl) ?_
        refine ng_X12_all C0 h kSM_0 q_1439 dX12_buys_39 ?_
        refine y_c2 (n := 61) C0 (by decide) dX12_buys_42 (fun v_44 e_45 => ?_)
        refine lv_aload_n C0.1 C0.2.1 dX12_buys_44 rfl (lv_at hl 2 rfl) ?_
        refine ng_X12_all C0 h kSM_0 q_1439 dX12_buys_45 ?_
        refine y_c2 (n := 36) C0 (by decide) dX12_buys_48 (fun v_46 e_47 => ?_)
        refine lv_iload_n C0.1 C0.2.1 dX12_buys_50 rfl (lv_at hl 3 rfl) ?_
        refine y_add C0 (o35_195 l1 u1 e_17 e_19 e_28 e_30 e_47 (le_min v_46) (le_max v_46) (le_min a1) (le_max a1) (le_min v_16) (le_max v_16) (le_min v_18) (le_max v_18) (le_min v_27) (le_max v_27) (le_min v_29) (le_max v_29)) (o35_196 l1 u1 e_17 e_19 e_28 e_30 e_47 (le_min v_46) (le_max v_46) (le_min a1) (le_max a1) (le_min v_16) (le_max v_16) (le_min v_18) (le_max v_18) (le_min v_27) (le_max v_27) (le_min v_29) (le_max v_29)) dX12_buys_51 (fun v_48 e_49 => ?_)
        refine y_iald C0 h kSM_1 rfl (by decide) (o35_197 l1 u1 e_17 e_19 e_28 e_30 e_47 e_49) (o35_198 l1 u1 e_17 e_19 e_28 e_30 e_47 e_49) dX12_buys_52 (fun v_50 e_51 e_52 e_53 => ?_)
        have f_54 := o35_16 v_48.toInt.toNat (o35_199 l1 u1 e_17 e_19 e_28 e_30 e_47 e_49) (o35_200 l1 u1 e_17 e_19 e_28 e_30 e_47 e_49)
        have q_55 : v_50.toInt = v_20.toInt := congrArg Int32.toInt (e_51.symm.trans (Eq.trans (congrArg (aI ws_36 1) (o35_201 l1 u1 e_17 e_19 e_28 e_30 e_47 e_49)) (Eq.trans (Fr.aI u_37 kSM_1 (by decide)) e_21)))
        refine y_add C0 (o35_202 (Int.le_trans f_24.1 e_22) (Int.le_trans e_23 f_24.2) e_45 (Int.le_trans f_54.1 e_52) (Int.le_trans e_53 f_54.2) q_55 (le_min v_44) (le_max v_44) (le_min v_50) (le_max v_50) (le_min v_20) (le_max v_20)) (o35_203 (Int.le_trans f_24.1 e_22) (Int.le_trans e_23 f_24.2) e_45 (Int.le_trans f_54.1 e_52) (Int.le_trans e_53 f_54.2) q_55 (le_min v_44) (le_max v_44) (le_min v_50) (le_max v_50) (le_min v_20) (le_max v_20)) dX12_buys_53 (fun v_56 e_57 => ?_)
        refine lv_dup2_11 C0.1 C0.2.1 dX12_buys_54 rfl rfl ?_
        refine y_iald C0 h kSM_1 rfl (by decide) (o35_204 (Int.le_trans f_24.1 e_22) (Int.le_trans e_23 f_24.2) e_45 (Int.le_trans f_54.1 e_52) (Int.le_trans e_53 f_54.2) q_55 e_57) (o35_205 (Int.le_trans f_24.1 e_22) (Int.le_trans e_23 f_24.2) e_45 (Int.le_trans f_54.1 e_52) (Int.le_trans e_53 f_54.2) q_55 e_57) dX12_buys_55 (fun v_58 e_59 e_60 e_61 => ?_)
        refine y_c1 (n := 1) C0 (by decide) dX12_buys_56 (fun v_62 e_63 => ?_)
        refine y_iaddU C0 dX12_buys_57 (fun v_64 => ?_)
        have f_67 := o35_206 v_56.toInt.toNat (o35_207 (Int.le_trans f_24.1 e_22) (Int.le_trans e_23 f_24.2) e_45 (Int.le_trans f_54.1 e_52) (Int.le_trans e_53 f_54.2) q_55 e_57) (o35_208 (Int.le_trans f_24.1 e_22) (Int.le_trans e_23 f_24.2) e_45 (Int.le_trans f_54.1 e_52) (Int.le_trans e_53 f_54.2) q_55 e_57)
        refine y_iast C0 h kSM_1 rfl (by decide) (o35_204 (Int.le_trans f_24.1 e_22) (Int.le_trans e_23 f_24.2) e_45 (Int.le_trans f_54.1 e_52) (Int.le_trans e_53 f_54.2) q_55 e_57) (o35_205 (Int.le_trans f_24.1 e_22) (Int.le_trans e_23 f_24.2) e_45 (Int.le_trans f_54.1 e_52) (Int.le_trans e_53 f_54.2) q_55 e_57) (Int.le_trans f_67.1 (le_min v_64)) (Int.le_trans (le_max v_64) f_67.2) dX12_buys_58 (fun H locs ws_65 h u_66 => ?_)
        refine y_inc (kp := 1) (n := 1) (fun v_68 => [(5, .int v_68), (3, .long w_43), (0, .ref (ad 0)), (1, .int a1), (2, .int a2)]) C0 hl rfl (by decide) (by decide) (fun _ => rfl) (o35_212 l2 u2 b_13 b_14 hn_12 c_15 (le_min x5_5) (le_max x5_5) (le_min a2) (le_max a2)) (o35_213 l2 u2 b_13 b_14 hn_12 c_15 (le_min x5_5) (le_max x5_5) (le_min a2) (le_max a2)) dX12_buys_59 (fun v_68 ls e_69 hl => ?_)
        refine lv_goto (tgt := 5) C0.1 C0.2.1 dX12_buys_62 (by decide) ?_
        exact ih_10 v_68 w_43 _ _ _ _ (o35_214 l2 u2 b_13 b_14 hn_12 c_15 e_69) (o35_215 l2 u2 b_13 b_14 hn_12 c_15 e_69) (o35_216 l2 u2 b_13 b_14 hn_12 c_15 e_69) ((Ps.tr hPs (Ps.tr (Ps.fr u_37 (by decide)) (Ps.st u_66 (o35_217 (Int.le_trans f_24.1 e_22) (Int.le_trans e_23 f_24.2) e_45 (Int.le_trans f_54.1 e_52) (Int.le_trans e_53 f_54.2) q_55 e_57) (o35_218 (Int.le_trans f_24.1 e_22) (Int.le_trans e_23 f_24.2) e_45 (Int.le_trans f_54.1 e_52) (Int.le_trans e_53 f_54.2) q_55 e_57))))) ((Pa.tr (Pa.tr hPa_5 (Pa.fr u_37 (by decide))) (Pa.st u_66 (o35_210 (Int.le_trans f_24.1 e_22) (Int.le_trans e_23 f_24.2) e_45 (Int.le_trans f_54.1 e_52) (Int.le_trans e_53 f_54.2) q_55 e_57) (o35_211 (Int.le_trans f_24.1 e_22) (Int.le_trans e_23 f_24.2) e_45 (Int.le_trans f_54.1 e_52) (Int.le_trans e_53 f_54.2) q_55 e_57)))) ((Pw.tr (Pw.tr hPw_5 (Pw.fr u_37 (by decide))) (Pw.st u_66 (o35_209 (Int.le_trans f_24.1 e_22) (Int.le_trans e_23 f_24.2) e_45 (Int.le_trans f_54.1 e_52) (Int.le_trans e_53 f_54.2) q_55 e_57)))) h (Fr.tr (Fr.tr hF_8 (Fr.mono u_37 (by decide))) (Fr.up u_66.1 kSM_1 (by decide))) (lv_sub hl [0, 1, 2, 3, 4] rfl)
  exact lp_9 ((20 - v_3.toInt + 1).toNat) v_3 w_1 _ _ _ _ (o35_219 e_4) (o35_50 e_4) (o35_220 e_4) Ps.rf Pa.rf Pw.rf h Fr.rf (lv_sub hl [0, 1, 2, 3, 4] rfl)
set_option maxHeartbeats 4000000 in
set_option maxRecDepth 100000 in
theorem c_X12_boughtBy (l : Launch) (G : GG) (Z : RZ) (ad : Nat → Nat) (ws0 : va_W) (hT : Ty G (SM tt) ad ws0) (a1 : Int32) (a2 : Int32) (l1 : 0 ≤ a1.toInt) (u1 : a1.toInt ≤ 4) (l2 : 1 ≤ a2.toInt) (u2 : a2.toInt ≤ 20) (hJ : J ws0) (hLd : Laid ws0) : Mq l yX12_boughtBy cX12_boughtBy 6 (some .int) 5 G Z [.ref (ad 0), .int a1, .int a2] ws0 (PI G (SM tt) ad [1, 5, 6] ws0 (fun r u => (r.toInt < 0 ∨ (aI u 1 (46 + a1.toInt.toNat)).toInt = (aI ws0 1 (46 + a1.toInt.toNat)).toInt + a2.toInt) ∧ (Pa ws0 u) ∧ (Pw ws0 u))) := by
  refine Mq.start (by decide) (Nat.le_of_ble_eq_true rfl) ?_
  intro p e s m below meth c A ls C0 hZ h hl
  have hl : lv_has ls 6 [(0, .ref (ad 0)), (1, .int a1), (2, .int a2)] := hl
  have h : Wt G (SM tt) ad A s s.heap [] ws0 := ⟨h, hT⟩
  obtain ⟨args, hargs⟩ : ∃ z, z = ([.ref (ad 0), .int a1, .int a2] : List Value).toArray := ⟨_, rfl⟩
  rw [← hargs] at C0 ⊢
  have C0 : Cx p s m args meth c RX12 cX12_boughtBy 6 (some .int) := C0
  obtain ⟨Q, hQ⟩ : ∃ z, z = MQ below ((PI G (SM tt) ad [1, 5, 6] ws0 (fun r u => (r.toInt < 0 ∨ (aI u 1 (46 + a1.toInt.toNat)).toInt = (aI ws0 1 (46 + a1.toInt.toNat)).toInt + a2.toInt) ∧ (Pa ws0 u) ∧ (Pw ws0 u))) A) args s 0 0 A := ⟨_, rfl⟩
  rw [← hQ]
  refine lv_aload_n C0.1 C0.2.1 dX12_boughtBy_0 rfl (lv_at hl 0 rfl) ?_
  refine y_cv h (y_rV (As := []) (rest := []) C0 hZ h (c_X12_keeps l G Z ad _ h.2) k_X12_keeps q_1777 q_88 q_1775 kSM_0 rfl rfl rfl hl.1 rfl rfl (Nat.le_of_ble_eq_true rfl) dX12_boughtBy_1 ⟨Nat.le_of_ble_eq_true rfl, Nat.le_of_ble_eq_true rfl⟩ ⟨Nat.le_of_ble_eq_true rfl, Nat.le_of_ble_eq_true rfl⟩) (fun H locs ws_1 h u_2 p_3 => ?_)
  refine lv_aload_n C0.1 C0.2.1 dX12_boughtBy_4 rfl (lv_at hl 0 rfl) ?_
  refine lv_iload_n C0.1 C0.2.1 dX12_boughtBy_5 rfl (lv_at hl 1 rfl) ?_
  refine lv_iload_n C0.1 C0.2.1 dX12_boughtBy_6 rfl (lv_at hl 2 rfl) ?_
  refine y_cl h (y_rV (As := [.int a1, .int a2]) (rest := []) C0 hZ h (c_X12_buys l G Z ad _ h.2 a1 a2 (o35_221 l1 u1) (o35_222 l1 u1) (o35_223 l2 u2) (o35_224 l2 u2) (J.pa hT hJ (Pa.fr u_2 (by decide))) (Laid.pa hLd (Pa.fr u_2 (by decide)))) k_X12_buys q_1820 q_95 q_1818 kSM_0 rfl rfl rfl hl.1 rfl rfl (Nat.le_of_ble_eq_true rfl) dX12_boughtBy_7 ⟨Nat.le_of_ble_eq_true rfl, Nat.le_of_ble_eq_true rfl⟩ ⟨Nat.le_of_ble_eq_true rfl, Nat.le_of_ble_eq_true rfl⟩) (fun r_7 H locs ws_4 h u_5 p_6 => ?_)
  obtain ⟨e_8, e_9, e_10⟩ := p_6
  refine lv_lstore_n (lv' := [(3, .long r_7), (0, .ref (ad 0)), (1, .int a1), (2, .int a2)]) C0.1 C0.2.1 dX12_boughtBy_10 rfl hl (by decide) rfl (fun ls hl => ?_)
  refine lv_lload_n C0.1 C0.2.1 dX12_boughtBy_11 rfl (lv_at hl 0 rfl) ?_
  refine lv_aload_n C0.1 C0.2.1 dX12_boughtBy_12 rfl (lv_at hl 1 rfl) ?_
  refine ng_X12_all C0 h kSM_0 q_1439 dX12_boughtBy_13 ?_
  refine y_c2 (n := 51) C0 (by decide) dX12_boughtBy_16 (fun v_11 e_12 => ?_)
  refine lv_iload_n C0.1 C0.2.1 dX12_boughtBy_18 rfl (lv_at hl 2 rfl) ?_
  refine y_add C0 (o35_225 l1 u1 e_12 (le_min v_11) (le_max v_11) (le_min a1) (le_max a1)) (o35_226 l1 u1 e_12 (le_min v_11) (le_max v_11) (le_min a1) (le_max a1)) dX12_boughtBy_19 (fun v_13 e_14 => ?_)
  refine y_iald C0 h kSM_1 rfl (by decide) (o35_227 l1 u1 e_12 e_14) (o35_228 l1 u1 e_12 e_14) dX12_boughtBy_20 (fun v_15 e_16 e_17 e_18 => ?_)
  refine y_i2l C0 dX12_boughtBy_21 (fun w_19 e_20 => ?_)
  refine y_lcmp C0 dX12_boughtBy_22 (fun v_21 e_22 => ?_)
  refine y_if_gt (tgt := 72) C0 dX12_boughtBy_23 (by decide) (fun c_23 => ?_) (fun c_23 => ?_)
  · -- 23
    refine lv_lload_n C0.1 C0.2.1 dX12_boughtBy_72 rfl (lv_at hl 0 rfl) ?_
    refine lv_aload_n C0.1 C0.2.1 dX12_boughtBy_73 rfl (lv_at hl 1 rfl) ?_
    refine ng_X12_all C0 h kSM_0 q_1439 dX12_boughtBy_74 ?_
    refine y_c2 (n := 51) C0 (by decide) dX12_boughtBy_77 (fun v_24 e_25 => ?_)
    refine lv_iload_n C0.1 C0.2.1 dX12_boughtBy_79 rfl (lv_at hl 2 rfl) ?_
    refine y_add C0 (o35_229 l1 u1 e_12 e_14 e_25 (le_min v_24) (le_max v_24) (le_min a1) (le_max a1) (le_min v_11) (le_max v_11) (le_min v_13) (le_max v_13)) (o35_230 l1 u1 e_12 e_14 e_25 (le_min v_24) (le_max v_24) (le_min a1) (le_max a1) (le_min v_11) (le_max v_11) (le_min v_13) (le_max v_13)) dX12_boughtBy_80 (fun v_26 e_27 => ?_)
    refine y_iald C0 h kSM_1 rfl (by decide) (o35_231 l1 u1 e_12 e_14 e_25 e_27) (o35_232 l1 u1 e_12 e_14 e_25 e_27) dX12_boughtBy_81 (fun v_28 e_29 e_30 e_31 => ?_)
    have q_32 : v_28.toInt = v_15.toInt := congrArg Int32.toInt (e_29.symm.trans (Eq.trans (congrArg (aI ws_4 1) (o35_233 l1 u1 e_12 e_14 e_25 e_27)) (Eq.trans rfl e_16)))
    refine y_i2l C0 dX12_boughtBy_82 (fun w_33 e_34 => ?_)
    refine y_lcmp C0 dX12_boughtBy_83 (fun v_35 e_36 => ?_)
    refine y_if_le (tgt := 91) C0 dX12_boughtBy_84 (by decide) (fun c_37 => ?_) (fun c_37 => ?_)
    · -- 84
      refine y_c1 (n := 0) C0 (by decide) dX12_boughtBy_91 (fun v_38 e_39 => ?_)
      refine lv_istore (lv' := [(5, .int v_38), (3, .long r_7), (0, .ref (ad 0)), (1, .int a1), (2, .int a2)]) C0.1 C0.2.1 dX12_boughtBy_92 hl (by decide) rfl (fun ls hl => ?_)
      refine lv_aload_n C0.1 C0.2.1 dX12_boughtBy_94 rfl (lv_at hl 2 rfl) ?_
      refine y_cv h (y_rV (As := []) (rest := []) C0 hZ h (c_X12_isAgain l G Z ad _ h.2) k_X12_isAgain q_1804 q_93 q_1802 kSM_0 rfl rfl rfl hl.1 rfl rfl (Nat.le_of_ble_eq_true rfl) dX12_boughtBy_95 ⟨Nat.le_of_ble_eq_true rfl, Nat.le_of_ble_eq_true rfl⟩ ⟨Nat.le_of_ble_eq_true rfl, Nat.le_of_ble_eq_true rfl⟩) (fun H locs ws_40 h u_41 p_42 => ?_)
      obtain ⟨e_43, e_44⟩ := p_42
      refine lv_iload C0.1 C0.2.1 dX12_boughtBy_98 (lv_at hl 0 rfl) ?_
      refine y_if_eq (tgt := 108) C0 dX12_boughtBy_100 (by decide) (fun c_45 => ?_) (fun c_45 => ((o35_152 e_39 c_45)).elim)
      refine y_c2 (n := (-4)) C0 (by decide) dX12_boughtBy_108 (fun v_46 e_47 => ?_)
      rw [hQ]
      exact y_iret C0 h (Fr.tr (Fr.tr (Fr.mono u_2 (by decide)) (Fr.mono u_5 (by decide))) (Fr.mono u_41 (by decide))) ⟨(Or.inl (o35_234 e_47)), (Pa.tr (Pa.tr (Pa.fr u_2 (by decide)) e_9) e_43), (Pw.tr (Pw.tr (Pw.fr u_2 (by decide)) e_10) e_44)⟩ dX12_boughtBy_110
    · -- 84
      refine y_c1 (n := 1) C0 (by decide) dX12_boughtBy_87 (fun v_48 e_49 => ?_)
      refine lv_goto (tgt := 92) C0.1 C0.2.1 dX12_boughtBy_88 (by decide) ?_
      refine lv_istore (lv' := [(5, .int v_48), (3, .long r_7), (0, .ref (ad 0)), (1, .int a1), (2, .int a2)]) C0.1 C0.2.1 dX12_boughtBy_92 hl (by decide) rfl (fun ls hl => ?_)
      refine lv_aload_n C0.1 C0.2.1 dX12_boughtBy_94 rfl (lv_at hl 2 rfl) ?_
      refine y_cv h (y_rV (As := []) (rest := []) C0 hZ h (c_X12_isAgain l G Z ad _ h.2) k_X12_isAgain q_1804 q_93 q_1802 kSM_0 rfl rfl rfl hl.1 rfl rfl (Nat.le_of_ble_eq_true rfl) dX12_boughtBy_95 ⟨Nat.le_of_ble_eq_true rfl, Nat.le_of_ble_eq_true rfl⟩ ⟨Nat.le_of_ble_eq_true rfl, Nat.le_of_ble_eq_true rfl⟩) (fun H locs ws_50 h u_51 p_52 => ?_)
      obtain ⟨e_53, e_54⟩ := p_52
      refine lv_iload C0.1 C0.2.1 dX12_boughtBy_98 (lv_at hl 0 rfl) ?_
      refine y_if_eq (tgt := 108) C0 dX12_boughtBy_100 (by decide) (fun c_55 => ((o35_159 e_49 c_55)).elim) (fun c_55 => ?_)
      refine y_c2 (n := (-5)) C0 (by decide) dX12_boughtBy_103 (fun v_56 e_57 => ?_)
      refine lv_goto (tgt := 110) C0.1 C0.2.1 dX12_boughtBy_105 (by decide) ?_
      rw [hQ]
      exact y_iret C0 h (Fr.tr (Fr.tr (Fr.mono u_2 (by decide)) (Fr.mono u_5 (by decide))) (Fr.mono u_51 (by decide))) ⟨(Or.inl (o35_235 e_57)), (Pa.tr (Pa.tr (Pa.fr u_2 (by decide)) e_9) e_53), (Pw.tr (Pw.tr (Pw.fr u_2 (by decide)) e_10) e_54)⟩ dX12_boughtBy_110
  · -- 23
    refine lv_aload_n C0.1 C0.2.1 dX12_boughtBy_26 rfl (lv_at hl 1 rfl) ?_
    refine ng_X12_all C0 h kSM_0 q_1439 dX12_boughtBy_27 ?_
    refine y_c2 (n := 46) C0 (by decide) dX12_boughtBy_30 (fun v_58 e_59 => ?_)
    refine lv_iload_n C0.1 C0.2.1 dX12_boughtBy_32 rfl (lv_at hl 2 rfl) ?_
    refine y_add C0 (o35_236 l1 u1 e_12 e_14 e_59 (le_min v_58) (le_max v_58) (le_min a1) (le_max a1) (le_min v_11) (le_max v_11) (le_min v_13) (le_max v_13)) (o35_237 l1 u1 e_12 e_14 e_59 (le_min v_58) (le_max v_58) (le_min a1) (le_max a1) (le_min v_11) (le_max v_11) (le_min v_13) (le_max v_13)) dX12_boughtBy_33 (fun v_60 e_61 => ?_)
    refine y_iald C0 h kSM_1 rfl (by decide) (o35_238 l1 u1 e_12 e_14 e_59 e_61) (o35_239 l1 u1 e_12 e_14 e_59 e_61) dX12_boughtBy_34 (fun v_62 e_63 e_64 e_65 => ?_)
    have f_66 := o35_30 v_60.toInt.toNat (o35_240 l1 u1 e_12 e_14 e_59 e_61) (o35_241 l1 u1 e_12 e_14 e_59 e_61)
    refine lv_iload_n C0.1 C0.2.1 dX12_boughtBy_35 rfl (lv_at hl 3 rfl) ?_
    refine y_add C0 (o35_242 l2 u2 (Int.le_trans f_66.1 e_64) (Int.le_trans e_65 f_66.2) (le_min v_62) (le_max v_62) (le_min a2) (le_max a2)) (o35_243 l2 u2 (Int.le_trans f_66.1 e_64) (Int.le_trans e_65 f_66.2) (le_min v_62) (le_max v_62) (le_min a2) (le_max a2)) dX12_boughtBy_36 (fun v_67 e_68 => ?_)
    refine y_c2 (n := 99) C0 (by decide) dX12_boughtBy_37 (fun v_69 e_70 => ?_)
    refine y_icmp_gt (tgt := 72) C0 dX12_boughtBy_39 (by decide) (fun c_71 => ?_) (fun c_71 => ?_)
    · -- 39
      refine lv_lload_n C0.1 C0.2.1 dX12_boughtBy_72 rfl (lv_at hl 0 rfl) ?_
      refine lv_aload_n C0.1 C0.2.1 dX12_boughtBy_73 rfl (lv_at hl 1 rfl) ?_
      refine ng_X12_all C0 h kSM_0 q_1439 dX12_boughtBy_74 ?_
      refine y_c2 (n := 51) C0 (by decide) dX12_boughtBy_77 (fun v_72 e_73 => ?_)
      refine lv_iload_n C0.1 C0.2.1 dX12_boughtBy_79 rfl (lv_at hl 2 rfl) ?_
      refine y_add C0 (o35_244 l1 u1 e_12 e_14 e_59 e_61 e_73 (le_min v_72) (le_max v_72) (le_min a1) (le_max a1) (le_min v_11) (le_max v_11) (le_min v_13) (le_max v_13) (le_min v_58) (le_max v_58) (le_min v_60) (le_max v_60)) (o35_245 l1 u1 e_12 e_14 e_59 e_61 e_73 (le_min v_72) (le_max v_72) (le_min a1) (le_max a1) (le_min v_11) (le_max v_11) (le_min v_13) (le_max v_13) (le_min v_58) (le_max v_58) (le_min v_60) (le_max v_60)) dX12_boughtBy_80 (fun v_74 e_75 => ?_)
      refine y_iald C0 h kSM_1 rfl (by decide) (o35_246 l1 u1 e_12 e_14 e_59 e_61 e_73 e_75) (o35_247 l1 u1 e_12 e_14 e_59 e_61 e_73 e_75) dX12_boughtBy_81 (fun v_76 e_77 e_78 e_79 => ?_)
      have q_80 : v_76.toInt = v_15.toInt := congrArg Int32.toInt (e_77.symm.trans (Eq.trans (congrArg (aI ws_4 1) (o35_248 l1 u1 e_12 e_14 e_59 e_61 e_73 e_75)) (Eq.trans rfl e_16)))
      refine y_i2l C0 dX12_boughtBy_82 (fun w_81 e_82 => ?_)
      refine y_lcmp C0 dX12_boughtBy_83 (fun v_83 e_84 => ?_)
      refine y_if_le (tgt := 91) C0 dX12_boughtBy_84 (by decide) (fun c_85 => ?_) (fun c_85 => ?_)
      · -- 84
        refine y_c1 (n := 0) C0 (by decide) dX12_boughtBy_91 (fun v_86 e_87 => ?_)
        refine lv_istore (lv' := [(5, .int v_86), (3, .long r_7), (0, .ref (ad 0)), (1, .int a1), (2, .int a2)]) C0.1 C0.2.1 dX12_boughtBy_92 hl (by decide) rfl (fun ls hl => ?_)
        refine lv_aload_n C0.1 C0.2.1 dX12_boughtBy_94 rfl (lv_at hl 2 rfl) ?_
        refine y_cv h (y_rV (As := []) (rest := []) C0 hZ h (c_X12_isAgain l G Z ad _ h.2) k_X12_isAgain q_1804 q_93 q_1802 kSM_0 rfl rfl rfl hl.1 rfl rfl (Nat.le_of_ble_eq_true rfl) dX12_boughtBy_95 ⟨Nat.le_of_ble_eq_true rfl, Nat.le_of_ble_eq_true rfl⟩ ⟨Nat.le_of_ble_eq_true rfl, Nat.le_of_ble_eq_true rfl⟩) (fun H locs ws_88 h u_89 p_90 => ?_)
        obtain ⟨e_91, e_92⟩ := p_90
        refine lv_iload C0.1 C0.2.1 dX12_boughtBy_98 (lv_at hl 0 rfl) ?_
        refine y_if_eq (tgt := 108) C0 dX12_boughtBy_100 (by decide) (fun c_93 => ?_) (fun c_93 => ((o35_152 e_87 c_93)).elim)
        refine y_c2 (n := (-4)) C0 (by decide) dX12_boughtBy_108 (fun v_94 e_95 => ?_)
        rw [hQ]
        exact y_iret C0 h (Fr.tr (Fr.tr (Fr.mono u_2 (by decide)) (Fr.mono u_5 (by decide))) (Fr.mono u_89 (by decide))) ⟨(Or.inl (o35_234 e_95)), (Pa.tr (Pa.tr (Pa.fr u_2 (by decide)) e_9) e_91), (Pw.tr (Pw.tr (Pw.fr u_2 (by decide)) e_10) e_92)⟩ dX12_boughtBy_110
      · -- 84
        refine y_c1 (n := 1) C0 (by decide) dX12_boughtBy_87 (fun v_96 e_97 => ?_)
        refine lv_goto (tgt := 92) C0.1 C0.2.1 dX12_boughtBy_88 (by decide) ?_
        refine lv_istore (lv' := [(5, .int v_96), (3, .long r_7), (0, .ref (ad 0)), (1, .int a1), (2, .int a2)]) C0.1 C0.2.1 dX12_boughtBy_92 hl (by decide) rfl (fun ls hl => ?_)
        refine lv_aload_n C0.1 C0.2.1 dX12_boughtBy_94 rfl (lv_at hl 2 rfl) ?_
        refine y_cv h (y_rV (As := []) (rest := []) C0 hZ h (c_X12_isAgain l G Z ad _ h.2) k_X12_isAgain q_1804 q_93 q_1802 kSM_0 rfl rfl rfl hl.1 rfl rfl (Nat.le_of_ble_eq_true rfl) dX12_boughtBy_95 ⟨Nat.le_of_ble_eq_true rfl, Nat.le_of_ble_eq_true rfl⟩ ⟨Nat.le_of_ble_eq_true rfl, Nat.le_of_ble_eq_true rfl⟩) (fun H locs ws_98 h u_99 p_100 => ?_)
        obtain ⟨e_101, e_102⟩ := p_100
        refine lv_iload C0.1 C0.2.1 dX12_boughtBy_98 (lv_at hl 0 rfl) ?_
        refine y_if_eq (tgt := 108) C0 dX12_boughtBy_100 (by decide) (fun c_103 => ((o35_159 e_97 c_103)).elim) (fun c_103 => ?_)
        refine y_c2 (n := (-5)) C0 (by decide) dX12_boughtBy_103 (fun v_104 e_105 => ?_)
        refine lv_goto (tgt := 110) C0.1 C0.2.1 dX12_boughtBy_105 (by decide) ?_
        rw [hQ]
        exact y_iret C0 h (Fr.tr (Fr.tr (Fr.mono u_2 (by decide)) (Fr.mono u_5 (by decide))) (Fr.mono u_99 (by decide))) ⟨(Or.inl (o35_235 e_105)), (Pa.tr (Pa.tr (Pa.fr u_2 (by decide)) e_9) e_101), (Pw.tr (Pw.tr (Pw.fr u_2 (by decide)) e_10) e_102)⟩ dX12_boughtBy_110
    · -- 39
      refine lv_aload_n C0.1 C0.2.1 dX12_boughtBy_42 rfl (lv_at hl 1 rfl) ?_
      refine ng_X12_all C0 h kSM_0 q_1439 dX12_boughtBy_43 ?_
      refine y_c2 (n := 51) C0 (by decide) dX12_boughtBy_46 (fun v_106 e_107 => ?_)
      refine lv_iload_n C0.1 C0.2.1 dX12_boughtBy_48 rfl (lv_at hl 2 rfl) ?_
      refine y_add C0 (o35_244 l1 u1 e_12 e_14 e_59 e_61 e_107 (le_min v_106) (le_max v_106) (le_min a1) (le_max a1) (le_min v_11) (le_max v_11) (le_min v_13) (le_max v_13) (le_min v_58) (le_max v_58) (le_min v_60) (le_max v_60)) (o35_245 l1 u1 e_12 e_14 e_59 e_61 e_107 (le_min v_106) (le_max v_106) (le_min a1) (le_max a1) (le_min v_11) (le_max v_11) (le_min v_13) (le_max v_13) (le_min v_58) (le_max v_58) (le_min v_60) (le_max v_60)) dX12_boughtBy_49 (fun v_108 e_109 => ?_)
      refine lv_dup2_11 C0.1 C0.2.1 dX12_boughtBy_50 rfl rfl ?_
      refine y_iald C0 h kSM_1 rfl (by decide) (o35_246 l1 u1 e_12 e_14 e_59 e_61 e_107 e_109) (o35_247 l1 u1 e_12 e_14 e_59 e_61 e_107 e_109) dX12_boughtBy_51 (fun v_110 e_111 e_112 e_113 => ?_)
      have q_114 : v_110.toInt = v_15.toInt := congrArg Int32.toInt (e_111.symm.trans (Eq.trans (congrArg (aI ws_4 1) (o35_248 l1 u1 e_12 e_14 e_59 e_61 e_107 e_109)) (Eq.trans rfl e_16)))
      refine lv_lload_n C0.1 C0.2.1 dX12_boughtBy_52 rfl (lv_at hl 0 rfl) ?_
      refine y_l2iU C0 dX12_boughtBy_53 (fun v_115 => ?_)
      refine y_isubU C0 dX12_boughtBy_54 (fun v_116 => ?_)
      have f_119 := o35_249 v_108.toInt.toNat (o35_250 l1 u1 e_12 e_14 e_59 e_61 e_107 e_109) (o35_251 l1 u1 e_12 e_14 e_59 e_61 e_107 e_109)
      refine y_iast C0 h kSM_1 rfl (by decide) (o35_246 l1 u1 e_12 e_14 e_59 e_61 e_107 e_109) (o35_247 l1 u1 e_12 e_14 e_59 e_61 e_107 e_109) (Int.le_trans f_119.1 (le_min v_116)) (Int.le_trans (le_max v_116) f_119.2) dX12_boughtBy_55 (fun H locs ws_117 h u_118 => ?_)
      refine lv_aload_n C0.1 C0.2.1 dX12_boughtBy_56 rfl (lv_at hl 1 rfl) ?_
      refine ng_X12_all C0 h kSM_0 q_1439 dX12_boughtBy_57 ?_
      refine y_c2 (n := 46) C0 (by decide) dX12_boughtBy_60 (fun v_120 e_121 => ?_)
      refine lv_iload_n C0.1 C0.2.1 dX12_boughtBy_62 rfl (lv_at hl 2 rfl) ?_
      refine y_add C0 (o35_255 l1 u1 e_12 e_14 e_59 e_61 e_107 e_109 e_121 (le_min v_120) (le_max v_120) (le_min a1) (le_max a1) (le_min v_11) (le_max v_11) (le_min v_13) (le_max v_13) (le_min v_58) (le_max v_58) (le_min v_60) (le_max v_60) (le_min v_106) (le_max v_106) (le_min v_108) (le_max v_108)) (o35_256 l1 u1 e_12 e_14 e_59 e_61 e_107 e_109 e_121 (le_min v_120) (le_max v_120) (le_min a1) (le_max a1) (le_min v_11) (le_max v_11) (le_min v_13) (le_max v_13) (le_min v_58) (le_max v_58) (le_min v_60) (le_max v_60) (le_min v_106) (le_max v_106) (le_min v_108) (le_max v_108)) dX12_boughtBy_63 (fun v_122 e_123 => ?_)
      refine lv_dup2_11 C0.1 C0.2.1 dX12_boughtBy_64 rfl rfl ?_
      refine y_iald C0 h kSM_1 rfl (by decide) (o35_257 l1 u1 e_12 e_14 e_59 e_61 e_107 e_109 e_121 e_123) (o35_258 l1 u1 e_12 e_14 e_59 e_61 e_107 e_109 e_121 e_123) dX12_boughtBy_65 (fun v_124 e_125 e_126 e_127 => ?_)
      have f_128 := o35_30 v_122.toInt.toNat (o35_259 l1 u1 e_12 e_14 e_59 e_61 e_107 e_109 e_121 e_123) (o35_260 l1 u1 e_12 e_14 e_59 e_61 e_107 e_109 e_121 e_123)
      have q_129 : v_124.toInt = v_62.toInt := congrArg Int32.toInt (e_125.symm.trans (Eq.trans (congrArg (aI ws_117 1) (o35_262 l1 u1 e_12 e_14 e_59 e_61 e_107 e_109 e_121 e_123)) (Eq.trans (u_118.2.2 v_60.toInt.toNat (o35_261 l1 u1 e_12 e_14 e_59 e_61 e_107 e_109 e_121 e_123)) e_63)))
      refine lv_iload_n C0.1 C0.2.1 dX12_boughtBy_66 rfl (lv_at hl 3 rfl) ?_
      refine y_add C0 (o35_263 l2 u2 (Int.le_trans f_66.1 e_64) (Int.le_trans e_65 f_66.2) e_68 e_70 c_71 (Int.le_trans f_128.1 e_126) (Int.le_trans e_127 f_128.2) q_129 (le_min v_124) (le_max v_124) (le_min a2) (le_max a2) (le_min v_62) (le_max v_62) (le_min v_67) (le_max v_67) (le_min v_69) (le_max v_69)) (o35_264 l2 u2 (Int.le_trans f_66.1 e_64) (Int.le_trans e_65 f_66.2) e_68 e_70 c_71 (Int.le_trans f_128.1 e_126) (Int.le_trans e_127 f_128.2) q_129 (le_min v_124) (le_max v_124) (le_min a2) (le_max a2) (le_min v_62) (le_max v_62) (le_min v_67) (le_max v_67) (le_min v_69) (le_max v_69)) dX12_boughtBy_67 (fun v_130 e_131 => ?_)
      have f_134 := o35_265 v_122.toInt.toNat (o35_259 l1 u1 e_12 e_14 e_59 e_61 e_107 e_109 e_121 e_123) (o35_260 l1 u1 e_12 e_14 e_59 e_61 e_107 e_109 e_121 e_123)
      refine y_iast C0 h kSM_1 rfl (by decide) (o35_257 l1 u1 e_12 e_14 e_59 e_61 e_107 e_109 e_121 e_123) (o35_258 l1 u1 e_12 e_14 e_59 e_61 e_107 e_109 e_121 e_123) (Int.le_trans f_134.1 (o35_266 l2 u2 (Int.le_trans f_66.1 e_64) (Int.le_trans e_65 f_66.2) e_68 e_70 c_71 (Int.le_trans f_128.1 e_126) (Int.le_trans e_127 f_128.2) q_129 e_131)) (Int.le_trans (o35_267 l2 u2 (Int.le_trans f_66.1 e_64) (Int.le_trans e_65 f_66.2) e_68 e_70 c_71 (Int.le_trans f_128.1 e_126) (Int.le_trans e_127 f_128.2) q_129 e_131) f_134.2) dX12_boughtBy_68 (fun H locs ws_132 h u_133 => ?_)
      refine lv_lload_n C0.1 C0.2.1 dX12_boughtBy_69 rfl (lv_at hl 0 rfl) ?_
      refine y_l2iU C0 dX12_boughtBy_70 (fun v_135 => ?_)
      rw [hQ]
      exact y_iret C0 h (Fr.tr (Fr.tr (Fr.tr (Fr.mono u_2 (by decide)) (Fr.mono u_5 (by decide))) (Fr.up u_118.1 kSM_1 (by decide))) (Fr.up u_133.1 kSM_1 (by decide))) ⟨(Or.inr (bb_lf (o35_272 l1 u1 e_12 e_14 e_59 e_61 e_107 e_109 e_121 e_123) (o35_273 l1 u1 e_12 e_14 e_59 e_61 e_107 e_109 e_121 e_123) u_133 (Eq.trans (Eq.symm (Eq.trans (e_8 v_60.toInt.toNat (o35_271 l1 u1 e_12 e_14 e_59 e_61 e_107 e_109 e_121 e_123)) (Fr.aI u_2 kSM_1 (by decide)))) e_63) (o35_274 l2 u2 (Int.le_trans f_66.1 e_64) (Int.le_trans e_65 f_66.2) e_68 e_70 c_71 (Int.le_trans f_128.1 e_126) (Int.le_trans e_127 f_128.2) q_129 e_131) rfl)), (Pa.tr (Pa.tr (Pa.tr (Pa.fr u_2 (by decide)) e_9) (Pa.st u_118 (o35_253 l1 u1 e_12 e_14 e_59 e_61 e_107 e_109) (o35_254 l1 u1 e_12 e_14 e_59 e_61 e_107 e_109))) (Pa.st u_133 (o35_269 l1 u1 e_12 e_14 e_59 e_61 e_107 e_109 e_121 e_123) (o35_270 l1 u1 e_12 e_14 e_59 e_61 e_107 e_109 e_121 e_123))), (Pw.tr (Pw.tr (Pw.tr (Pw.fr u_2 (by decide)) e_10) (Pw.st u_118 (o35_252 l1 u1 e_12 e_14 e_59 e_61 e_107 e_109))) (Pw.st u_133 (o35_268 l1 u1 e_12 e_14 e_59 e_61 e_107 e_109 e_121 e_123)))⟩ dX12_boughtBy_71
set_option maxHeartbeats 4000000 in
set_option maxRecDepth 100000 in
theorem c_X12_buy (l : Launch) (G : GG) (Z : RZ) (ad : Nat → Nat) (ws0 : va_W) (hT : Ty G (SM tt) ad ws0) (a1 : Int32) (a2 : Int32) (hJ : J ws0) : Mq l yX12_buy cX12_buy 4 (some .int) 6 G Z [.ref (ad 0), .int a1, .int a2] ws0 (PI G (SM tt) ad [0, 1, 5, 6] ws0 (fun r u => (Pa ws0 u) ∧ (Pw ws0 u))) := by
  refine Mq.start (by decide) (Nat.le_of_ble_eq_true rfl) ?_
  intro p e s m below meth c A ls C0 hZ h hl
  have hl : lv_has ls 4 [(0, .ref (ad 0)), (1, .int a1), (2, .int a2)] := hl
  have h : Wt G (SM tt) ad A s s.heap [] ws0 := ⟨h, hT⟩
  obtain ⟨args, hargs⟩ : ∃ z, z = ([.ref (ad 0), .int a1, .int a2] : List Value).toArray := ⟨_, rfl⟩
  rw [← hargs] at C0 ⊢
  have C0 : Cx p s m args meth c RX12 cX12_buy 4 (some .int) := C0
  obtain ⟨Q, hQ⟩ : ∃ z, z = MQ below ((PI G (SM tt) ad [0, 1, 5, 6] ws0 (fun r u => (Pa ws0 u) ∧ (Pw ws0 u))) A) args s 0 0 A := ⟨_, rfl⟩
  rw [← hQ]
  refine lv_aload_n C0.1 C0.2.1 dX12_buy_0 rfl (lv_at hl 0 rfl) ?_
  refine y_c1 (n := 0) C0 (by decide) dX12_buy_1 (fun v_1 e_2 => ?_)
  refine np_X12_thrown C0 h kSM_0 q_1438 (le_min v_1) (le_max v_1) dX12_buy_2 (fun H locs ws_3 h u_4 => ?_)
  refine lv_aload_n C0.1 C0.2.1 dX12_buy_5 rfl (lv_at hl 0 rfl) ?_
  refine lv_iload_n C0.1 C0.2.1 dX12_buy_6 rfl (lv_at hl 1 rfl) ?_
  refine y_i2l C0 dX12_buy_7 (fun w_5 e_6 => ?_)
  refine y_ci h (y_rV (As := [.long w_5]) (rest := []) C0 hZ h (c_X12_isPerson l G Z ad _ h.2 w_5 (J.pa hT hJ (Pa.ud u_4.1 (by decide)))) k_X12_isPerson q_1693 q_77 q_1691 kSM_0 rfl rfl rfl hl.1 rfl rfl (Nat.le_of_ble_eq_true rfl) dX12_buy_8 ⟨Nat.le_of_ble_eq_true rfl, Nat.le_of_ble_eq_true rfl⟩ ⟨Nat.le_of_ble_eq_true rfl, Nat.le_of_ble_eq_true rfl⟩) (fun r_10 H locs ws_7 h u_8 p_9 => ?_)
  obtain ⟨e_11, e_12, e_13, e_14⟩ := p_9
  refine y_if_ne (tgt := 17) C0 dX12_buy_11 (by decide) (fun c_15 => ?_) (fun c_15 => ?_)
  · -- 11
    refine lv_iload_n C0.1 C0.2.1 dX12_buy_17 rfl (lv_at hl 2 rfl) ?_
    refine y_i2l C0 dX12_buy_18 (fun w_16 e_17 => ?_)
    refine y_lc (v := 1) C0 (by decide) dX12_buy_19 (fun w_18 e_19 => ?_)
    refine y_lc2 (n := 20) C0 q_1666 (by decide) dX12_buy_20 (fun w_20 e_21 => ?_)
    refine y_ci h (y_rS (As := [.long w_16, .long w_18, .long w_20]) (rest := []) C0 hZ h (c_X12_within l G Z ad _ h.2 w_16 w_18 w_20) k_X12_within q_1580 q_1579 hl.1 rfl rfl (Nat.le_of_ble_eq_true rfl) dX12_buy_23 ⟨Nat.le_of_ble_eq_true rfl, Nat.le_of_ble_eq_true rfl⟩ ⟨Nat.le_of_ble_eq_true rfl, Nat.le_of_ble_eq_true rfl⟩) (fun r_25 H locs ws_22 h u_23 p_24 => ?_)
    obtain ⟨e_26, e_27, e_28⟩ := p_24
    refine y_if_ne (tgt := 32) C0 dX12_buy_26 (by decide) (fun c_29 => ?_) (fun c_29 => ?_)
    · -- 26
      refine lv_aload_n C0.1 C0.2.1 dX12_buy_32 rfl (lv_at hl 0 rfl) ?_
      refine lv_iload_n C0.1 C0.2.1 dX12_buy_33 rfl (lv_at hl 1 rfl) ?_
      refine lv_iload_n C0.1 C0.2.1 dX12_buy_34 rfl (lv_at hl 2 rfl) ?_
      refine y_ci h (y_rV (As := [.int a1, .int a2]) (rest := []) C0 hZ h (c_X12_boughtBy l G Z ad _ h.2 a1 a2 (o35_275 e_6 e_11 e_12 e_13 c_15) (o35_276 e_6 e_11 e_12 e_13 c_15) (o35_277 e_17 e_19 e_21 e_26 e_27 e_28 c_29) (o35_278 e_17 e_19 e_21 e_26 e_27 e_28 c_29) (J.pa hT hJ (Pa.tr (Pa.tr (Pa.ud u_4.1 (by decide)) (Pa.fr u_8 (by decide))) (Pa.fr u_23 (by decide)))) (Laid.pa (Or.resolve_left e_14 (o35_279 e_6 e_11 e_12 e_13 c_15)) (Pa.tr (Pa.fr u_8 (by decide)) (Pa.fr u_23 (by decide))))) k_X12_boughtBy q_1816 q_94 q_1814 kSM_0 rfl rfl rfl hl.1 rfl rfl (Nat.le_of_ble_eq_true rfl) dX12_buy_35 ⟨Nat.le_of_ble_eq_true rfl, Nat.le_of_ble_eq_true rfl⟩ ⟨Nat.le_of_ble_eq_true rfl, Nat.le_of_ble_eq_true rfl⟩) (fun r_33 H locs ws_30 h u_31 p_32 => ?_)
      obtain ⟨e_34, e_35, e_36⟩ := p_32
      refine lv_istore_n (lv' := [(3, .int r_33), (0, .ref (ad 0)), (1, .int a1), (2, .int a2)]) C0.1 C0.2.1 dX12_buy_38 rfl hl (by decide) rfl (fun ls hl => ?_)
      refine lv_iload_n C0.1 C0.2.1 dX12_buy_39 rfl (lv_at hl 0 rfl) ?_
      refine y_if_lt (tgt := 47) C0 dX12_buy_40 (by decide) (fun c_37 => ?_) (fun c_37 => ?_)
      · -- 40
        refine lv_iload_n C0.1 C0.2.1 dX12_buy_47 rfl (lv_at hl 0 rfl) ?_
        rw [hQ]
        exact y_iret C0 h (Fr.tr (Fr.tr (Fr.tr (Fr.up u_4.1 kSM_0 (by decide)) (Fr.mono u_8 (by decide))) (Fr.mono u_23 (by decide))) (Fr.mono u_31 (by decide))) ⟨(Pa.tr (Pa.tr (Pa.tr (Pa.ud u_4.1 (by decide)) (Pa.fr u_8 (by decide))) (Pa.fr u_23 (by decide))) e_35), (Pw.tr (Pw.tr (Pw.tr (Pw.ud u_4.1 (by decide)) (Pw.fr u_8 (by decide))) (Pw.fr u_23 (by decide))) e_36)⟩ dX12_buy_48
      · -- 40
        refine lv_aload_n C0.1 C0.2.1 dX12_buy_43 rfl (lv_at hl 1 rfl) ?_
        refine y_cv h (y_rV (As := []) (rest := []) C0 hZ h (c_X12_notes l G Z ad _ h.2) k_X12_notes q_1788 q_90 q_1786 kSM_0 rfl rfl rfl hl.1 rfl rfl (Nat.le_of_ble_eq_true rfl) dX12_buy_44 ⟨Nat.le_of_ble_eq_true rfl, Nat.le_of_ble_eq_true rfl⟩ ⟨Nat.le_of_ble_eq_true rfl, Nat.le_of_ble_eq_true rfl⟩) (fun H locs ws_38 h u_39 p_40 => ?_)
        obtain ⟨e_41, e_42⟩ := p_40
        refine lv_iload_n C0.1 C0.2.1 dX12_buy_47 rfl (lv_at hl 0 rfl) ?_
        rw [hQ]
        exact y_iret C0 h (Fr.tr (Fr.tr (Fr.tr (Fr.tr (Fr.up u_4.1 kSM_0 (by decide)) (Fr.mono u_8 (by decide))) (Fr.mono u_23 (by decide))) (Fr.mono u_31 (by decide))) (Fr.mono u_39 (by decide))) ⟨(Pa.tr (Pa.tr (Pa.tr (Pa.tr (Pa.ud u_4.1 (by decide)) (Pa.fr u_8 (by decide))) (Pa.fr u_23 (by decide))) e_35) e_41), (Pw.tr (Pw.tr (Pw.tr (Pw.tr (Pw.ud u_4.1 (by decide)) (Pw.fr u_8 (by decide))) (Pw.fr u_23 (by decide))) e_36) e_42)⟩ dX12_buy_48
    · -- 26
      refine y_c2 (n := (-3)) C0 (by decide) dX12_buy_29 (fun v_43 e_44 => ?_)
      rw [hQ]
      exact y_iret C0 h (Fr.tr (Fr.tr (Fr.up u_4.1 kSM_0 (by decide)) (Fr.mono u_8 (by decide))) (Fr.mono u_23 (by decide))) ⟨(Pa.tr (Pa.tr (Pa.ud u_4.1 (by decide)) (Pa.fr u_8 (by decide))) (Pa.fr u_23 (by decide))), (Pw.tr (Pw.tr (Pw.ud u_4.1 (by decide)) (Pw.fr u_8 (by decide))) (Pw.fr u_23 (by decide)))⟩ dX12_buy_31
  · -- 11
    refine y_c2 (n := (-2)) C0 (by decide) dX12_buy_14 (fun v_45 e_46 => ?_)
    rw [hQ]
    exact y_iret C0 h (Fr.tr (Fr.up u_4.1 kSM_0 (by decide)) (Fr.mono u_8 (by decide))) ⟨(Pa.tr (Pa.ud u_4.1 (by decide)) (Pa.fr u_8 (by decide))), (Pw.tr (Pw.ud u_4.1 (by decide)) (Pw.fr u_8 (by decide)))⟩ dX12_buy_16
set_option maxHeartbeats 4000000 in
set_option maxRecDepth 100000 in
theorem c_X12_sell (l : Launch) (G : GG) (Z : RZ) (ad : Nat → Nat) (ws0 : va_W) (hT : Ty G (SM tt) ad ws0) (a1 : Int32) (hJ : J ws0) : Mq l yX12_sell cX12_sell 3 (some .int) 4 G Z [.ref (ad 0), .int a1] ws0 (PI G (SM tt) ad [0, 1, 5, 6] ws0 (fun r u => (Pa ws0 u) ∧ (Pw ws0 u))) := by
  refine Mq.start (by decide) (Nat.le_of_ble_eq_true rfl) ?_
  intro p e s m below meth c A ls C0 hZ h hl
  have hl : lv_has ls 3 [(0, .ref (ad 0)), (1, .int a1)] := hl
  have h : Wt G (SM tt) ad A s s.heap [] ws0 := ⟨h, hT⟩
  obtain ⟨args, hargs⟩ : ∃ z, z = ([.ref (ad 0), .int a1] : List Value).toArray := ⟨_, rfl⟩
  rw [← hargs] at C0 ⊢
  have C0 : Cx p s m args meth c RX12 cX12_sell 3 (some .int) := C0
  obtain ⟨Q, hQ⟩ : ∃ z, z = MQ below ((PI G (SM tt) ad [0, 1, 5, 6] ws0 (fun r u => (Pa ws0 u) ∧ (Pw ws0 u))) A) args s 0 0 A := ⟨_, rfl⟩
  rw [← hQ]
  refine lv_aload_n C0.1 C0.2.1 dX12_sell_0 rfl (lv_at hl 0 rfl) ?_
  refine y_c1 (n := 0) C0 (by decide) dX12_sell_1 (fun v_1 e_2 => ?_)
  refine np_X12_thrown C0 h kSM_0 q_1438 (le_min v_1) (le_max v_1) dX12_sell_2 (fun H locs ws_3 h u_4 => ?_)
  refine lv_aload_n C0.1 C0.2.1 dX12_sell_5 rfl (lv_at hl 0 rfl) ?_
  refine lv_iload_n C0.1 C0.2.1 dX12_sell_6 rfl (lv_at hl 1 rfl) ?_
  refine y_i2l C0 dX12_sell_7 (fun w_5 e_6 => ?_)
  refine y_ci h (y_rV (As := [.long w_5]) (rest := []) C0 hZ h (c_X12_isPerson l G Z ad _ h.2 w_5 (J.pa hT hJ (Pa.ud u_4.1 (by decide)))) k_X12_isPerson q_1693 q_77 q_1691 kSM_0 rfl rfl rfl hl.1 rfl rfl (Nat.le_of_ble_eq_true rfl) dX12_sell_8 ⟨Nat.le_of_ble_eq_true rfl, Nat.le_of_ble_eq_true rfl⟩ ⟨Nat.le_of_ble_eq_true rfl, Nat.le_of_ble_eq_true rfl⟩) (fun r_10 H locs ws_7 h u_8 p_9 => ?_)
  obtain ⟨e_11, e_12, e_13, e_14⟩ := p_9
  refine y_if_ne (tgt := 17) C0 dX12_sell_11 (by decide) (fun c_15 => ?_) (fun c_15 => ?_)
  · -- 11
    refine lv_aload_n C0.1 C0.2.1 dX12_sell_17 rfl (lv_at hl 0 rfl) ?_
    refine ng_X12_all C0 h kSM_0 q_1439 dX12_sell_18 ?_
    refine y_c2 (n := 56) C0 (by decide) dX12_sell_21 (fun v_16 e_17 => ?_)
    refine lv_iload_n C0.1 C0.2.1 dX12_sell_23 rfl (lv_at hl 1 rfl) ?_
    refine y_add C0 (o35_37 e_6 e_11 e_12 e_13 c_15 e_17 (le_min v_16) (le_max v_16) (le_min a1) (le_max a1) (le_min r_10) (le_max r_10)) (o35_38 e_6 e_11 e_12 e_13 c_15 e_17 (le_min v_16) (le_max v_16) (le_min a1) (le_max a1) (le_min r_10) (le_max r_10)) dX12_sell_24 (fun v_18 e_19 => ?_)
    refine y_iald C0 h kSM_1 rfl (by decide) (o35_39 e_6 e_11 e_12 e_13 c_15 e_17 e_19) (o35_40 e_6 e_11 e_12 e_13 c_15 e_17 e_19) dX12_sell_25 (fun v_20 e_21 e_22 e_23 => ?_)
    refine y_if_ne (tgt := 32) C0 dX12_sell_26 (by decide) (fun c_24 => ?_) (fun c_24 => ?_)
    · -- 26
      refine lv_aload_n C0.1 C0.2.1 dX12_sell_32 rfl (lv_at hl 0 rfl) ?_
      refine y_cv h (y_rV (As := []) (rest := []) C0 hZ h (c_X12_keeps l G Z ad _ h.2) k_X12_keeps q_1777 q_88 q_1775 kSM_0 rfl rfl rfl hl.1 rfl rfl (Nat.le_of_ble_eq_true rfl) dX12_sell_33 ⟨Nat.le_of_ble_eq_true rfl, Nat.le_of_ble_eq_true rfl⟩ ⟨Nat.le_of_ble_eq_true rfl, Nat.le_of_ble_eq_true rfl⟩) (fun H locs ws_25 h u_26 p_27 => ?_)
      refine lv_aload_n C0.1 C0.2.1 dX12_sell_36 rfl (lv_at hl 0 rfl) ?_
      refine ng_X12_all C0 h kSM_0 q_1439 dX12_sell_37 ?_
      refine y_c2 (n := 56) C0 (by decide) dX12_sell_40 (fun v_28 e_29 => ?_)
      refine lv_iload_n C0.1 C0.2.1 dX12_sell_42 rfl (lv_at hl 1 rfl) ?_
      refine y_add C0 (o35_280 e_6 e_11 e_12 e_13 c_15 e_17 e_19 e_29 (le_min v_28) (le_max v_28) (le_min a1) (le_max a1) (le_min r_10) (le_max r_10) (le_min v_16) (le_max v_16) (le_min v_18) (le_max v_18)) (o35_281 e_6 e_11 e_12 e_13 c_15 e_17 e_19 e_29 (le_min v_28) (le_max v_28) (le_min a1) (le_max a1) (le_min r_10) (le_max r_10) (le_min v_16) (le_max v_16) (le_min v_18) (le_max v_18)) dX12_sell_43 (fun v_30 e_31 => ?_)
      refine y_iald C0 h kSM_1 rfl (by decide) (o35_282 e_6 e_11 e_12 e_13 c_15 e_17 e_19 e_29 e_31) (o35_283 e_6 e_11 e_12 e_13 c_15 e_17 e_19 e_29 e_31) dX12_sell_44 (fun v_32 e_33 e_34 e_35 => ?_)
      have q_36 : v_32.toInt = v_20.toInt := congrArg Int32.toInt (e_33.symm.trans (Eq.trans (congrArg (aI ws_25 1) (o35_284 e_6 e_11 e_12 e_13 c_15 e_17 e_19 e_29 e_31)) (Eq.trans (Fr.aI u_26 kSM_1 (by decide)) e_21)))
      refine lv_aload_n C0.1 C0.2.1 dX12_sell_45 rfl (lv_at hl 0 rfl) ?_
      refine lv_aload_n C0.1 C0.2.1 dX12_sell_46 rfl (lv_at hl 0 rfl) ?_
      refine ng_X12_all C0 h kSM_0 q_1439 dX12_sell_47 ?_
      refine y_c2 (n := 36) C0 (by decide) dX12_sell_50 (fun v_37 e_38 => ?_)
      refine lv_iload_n C0.1 C0.2.1 dX12_sell_52 rfl (lv_at hl 1 rfl) ?_
      refine y_add C0 (o35_285 e_6 e_11 e_12 e_13 c_15 e_17 e_19 e_29 e_31 e_38 (le_min v_37) (le_max v_37) (le_min a1) (le_max a1) (le_min r_10) (le_max r_10) (le_min v_16) (le_max v_16) (le_min v_18) (le_max v_18) (le_min v_28) (le_max v_28) (le_min v_30) (le_max v_30)) (o35_286 e_6 e_11 e_12 e_13 c_15 e_17 e_19 e_29 e_31 e_38 (le_min v_37) (le_max v_37) (le_min a1) (le_max a1) (le_min r_10) (le_max r_10) (le_min v_16) (le_max v_16) (le_min v_18) (le_max v_18) (le_min v_28) (le_max v_28) (le_min v_30) (le_max v_30)) dX12_sell_53 (fun v_39 e_40 => ?_)
      refine y_iald C0 h kSM_1 rfl (by decide) (o35_287 e_6 e_11 e_12 e_13 c_15 e_17 e_19 e_29 e_31 e_38 e_40) (o35_288 e_6 e_11 e_12 e_13 c_15 e_17 e_19 e_29 e_31 e_38 e_40) dX12_sell_54 (fun v_41 e_42 e_43 e_44 => ?_)
      have f_45 := o35_16 v_39.toInt.toNat (o35_289 e_6 e_11 e_12 e_13 c_15 e_17 e_19 e_29 e_31 e_38 e_40) (o35_290 e_6 e_11 e_12 e_13 c_15 e_17 e_19 e_29 e_31 e_38 e_40)
      refine y_c1 (n := 0) C0 (by decide) dX12_sell_55 (fun v_46 e_47 => ?_)
      refine lv_aload_n C0.1 C0.2.1 dX12_sell_56 rfl (lv_at hl 0 rfl) ?_
      refine ng_X12_all C0 h kSM_0 q_1439 dX12_sell_57 ?_
      refine y_c2 (n := 41) C0 (by decide) dX12_sell_60 (fun v_48 e_49 => ?_)
      refine lv_iload_n C0.1 C0.2.1 dX12_sell_62 rfl (lv_at hl 1 rfl) ?_
      refine y_add C0 (o35_291 e_6 e_11 e_12 e_13 c_15 e_17 e_19 e_29 e_31 e_38 e_40 e_49 (le_min v_48) (le_max v_48) (le_min a1) (le_max a1) (le_min r_10) (le_max r_10) (le_min v_16) (le_max v_16) (le_min v_18) (le_max v_18) (le_min v_28) (le_max v_28) (le_min v_30) (le_max v_30) (le_min v_37) (le_max v_37) (le_min v_39) (le_max v_39)) (o35_292 e_6 e_11 e_12 e_13 c_15 e_17 e_19 e_29 e_31 e_38 e_40 e_49 (le_min v_48) (le_max v_48) (le_min a1) (le_max a1) (le_min r_10) (le_max r_10) (le_min v_16) (le_max v_16) (le_min v_18) (le_max v_18) (le_min v_28) (le_max v_28) (le_min v_30) (le_max v_30) (le_min v_37) (le_max v_37) (le_min v_39) (le_max v_39)) dX12_sell_63 (fun v_50 e_51 => ?_)
      refine y_iald C0 h kSM_1 rfl (by decide) (o35_293 e_6 e_11 e_12 e_13 c_15 e_17 e_19 e_29 e_31 e_38 e_40 e_49 e_51) (o35_294 e_6 e_11 e_12 e_13 c_15 e_17 e_19 e_29 e_31 e_38 e_40 e_49 e_51) dX12_sell_64 (fun v_52 e_53 e_54 e_55 => ?_)
      have f_56 := o35_23 v_50.toInt.toNat (o35_295 e_6 e_11 e_12 e_13 c_15 e_17 e_19 e_29 e_31 e_38 e_40 e_49 e_51) (o35_296 e_6 e_11 e_12 e_13 c_15 e_17 e_19 e_29 e_31 e_38 e_40 e_49 e_51)
      refine y_ci h (y_rV (As := [.int v_41, .int v_46, .int v_52]) (rest := [.int v_32]) C0 hZ h (c_X12_priceOf l G Z ad _ h.2 v_41 v_46 v_52 (o35_193 (Int.le_trans f_45.1 e_43) (Int.le_trans e_44 f_45.2)) (o35_87 (Int.le_trans f_45.1 e_43) (Int.le_trans e_44 f_45.2)) (o35_92 (Int.le_trans f_56.1 e_54) (Int.le_trans e_55 f_56.2)) (o35_194 (Int.le_trans f_56.1 e_54) (Int.le_trans e_55 f_56.2)) (J.pa hT hJ (Pa.tr (Pa.tr (Pa.ud u_4.1 (by decide)) (Pa.fr u_8 (by decide))) (Pa.fr u_26 (by decide)))) (Laid.pa (Or.resolve_left e_14 (o35_297 e_6 e_11 e_12 e_13 c_15 e_17 e_19 e_29 e_31 e_38 e_40 e_49 e_51)) (Pa.tr (Pa.fr u_8 (by decide)) (Pa.fr u_26 (by decide))))) k_X12_priceOf q_1724 q_81 q_1722 kSM_0 rfl rfl rfl hl.1 rfl rfl (Nat.le_of_ble_eq_true rfl) dX12_sell_65 ⟨Nat.le_of_ble_eq_true rfl, Nat.le_of_ble_eq_true rfl⟩ ⟨Nat.le_of_ble_eq_true rfl, Nat.le_of_ble_eq_true rfl⟩) (fun r_60 H locs ws_57 h u_58 p_59 => ?_)
      have e_61 := p_59
      refine y_c1 (n := 3) C0 (by decide) dX12_sell_68 (fun v_62 e_63 => ?_)
      refine y_divc (n := 3) C0 (o35_298 e_63) (by decide) (o35_299 e_61) dX12_sell_69 (fun v_64 e_65 => ?_)
      refine y_imulU C0 dX12_sell_70 (fun v_66 => ?_)
      refine lv_istore_n (lv' := [(2, .int v_66), (0, .ref (ad 0)), (1, .int a1)]) C0.1 C0.2.1 dX12_sell_71 rfl hl (by decide) rfl (fun ls hl => ?_)
      refine lv_aload_n C0.1 C0.2.1 dX12_sell_72 rfl (lv_at hl 1 rfl) ?_
      refine ng_X12_all C0 h kSM_0 q_1439 dX12_sell_73 ?_
      refine y_c2 (n := 56) C0 (by decide) dX12_sell_76 (fun v_67 e_68 => ?_)
      refine lv_iload_n C0.1 C0.2.1 dX12_sell_78 rfl (lv_at hl 2 rfl) ?_
      refine y_add C0 (o35_300 e_6 e_11 e_12 e_13 c_15 e_17 e_19 e_29 e_31 e_38 e_40 e_49 e_51 e_68 (le_min v_67) (le_max v_67) (le_min a1) (le_max a1) (le_min r_10) (le_max r_10) (le_min v_16) (le_max v_16) (le_min v_18) (le_max v_18) (le_min v_28) (le_max v_28) (le_min v_30) (le_max v_30) (le_min v_37) (le_max v_37) (le_min v_39) (le_max v_39) (le_min v_48) (le_max v_48) (le_min v_50) (le_max v_50)) (o35_301 e_6 e_11 e_12 e_13 c_15 e_17 e_19 e_29 e_31 e_38 e_40 e_49 e_51 e_68 (le_min v_67) (le_max v_67) (le_min a1) (le_max a1) (le_min r_10) (le_max r_10) (le_min v_16) (le_max v_16) (le_min v_18) (le_max v_18) (le_min v_28) (le_max v_28) (le_min v_30) (le_max v_30) (le_min v_37) (le_max v_37) (le_min v_39) (le_max v_39) (le_min v_48) (le_max v_48) (le_min v_50) (le_max v_50)) dX12_sell_79 (fun v_69 e_70 => ?_)
      refine y_c1 (n := 0) C0 (by decide) dX12_sell_80 (fun v_71 e_72 => ?_)
      have f_75 := o35_304 v_69.toInt.toNat (o35_305 e_6 e_11 e_12 e_13 c_15 e_17 e_19 e_29 e_31 e_38 e_40 e_49 e_51 e_68 e_70) (o35_306 e_6 e_11 e_12 e_13 c_15 e_17 e_19 e_29 e_31 e_38 e_40 e_49 e_51 e_68 e_70)
      refine y_iast C0 h kSM_1 rfl (by decide) (o35_302 e_6 e_11 e_12 e_13 c_15 e_17 e_19 e_29 e_31 e_38 e_40 e_49 e_51 e_68 e_70) (o35_303 e_6 e_11 e_12 e_13 c_15 e_17 e_19 e_29 e_31 e_38 e_40 e_49 e_51 e_68 e_70) (Int.le_trans f_75.1 (le_min v_71)) (Int.le_trans (le_max v_71) f_75.2) dX12_sell_81 (fun H locs ws_73 h u_74 => ?_)
      refine lv_aload_n C0.1 C0.2.1 dX12_sell_82 rfl (lv_at hl 1 rfl) ?_
      refine ng_X12_all C0 h kSM_0 q_1439 dX12_sell_83 ?_
      refine y_c2 (n := 51) C0 (by decide) dX12_sell_86 (fun v_76 e_77 => ?_)
      refine lv_iload_n C0.1 C0.2.1 dX12_sell_88 rfl (lv_at hl 2 rfl) ?_
      refine y_add C0 (o35_310 e_6 e_11 e_12 e_13 c_15 e_17 e_19 e_29 e_31 e_38 e_40 e_49 e_51 e_68 e_70 e_77 (le_min v_76) (le_max v_76) (le_min a1) (le_max a1) (le_min r_10) (le_max r_10) (le_min v_16) (le_max v_16) (le_min v_18) (le_max v_18) (le_min v_28) (le_max v_28) (le_min v_30) (le_max v_30) (le_min v_37) (le_max v_37) (le_min v_39) (le_max v_39) (le_min v_48) (le_max v_48) (le_min v_50) (le_max v_50) (le_min v_67) (le_max v_67) (le_min v_69) (le_max v_69)) (o35_311 e_6 e_11 e_12 e_13 c_15 e_17 e_19 e_29 e_31 e_38 e_40 e_49 e_51 e_68 e_70 e_77 (le_min v_76) (le_max v_76) (le_min a1) (le_max a1) (le_min r_10) (le_max r_10) (le_min v_16) (le_max v_16) (le_min v_18) (le_max v_18) (le_min v_28) (le_max v_28) (le_min v_30) (le_max v_30) (le_min v_37) (le_max v_37) (le_min v_39) (le_max v_39) (le_min v_48) (le_max v_48) (le_min v_50) (le_max v_50) (le_min v_67) (le_max v_67) (le_min v_69) (le_max v_69)) dX12_sell_89 (fun v_78 e_79 => ?_)
      refine lv_aload_n C0.1 C0.2.1 dX12_sell_90 rfl (lv_at hl 1 rfl) ?_
      refine ng_X12_all C0 h kSM_0 q_1439 dX12_sell_91 ?_
      refine y_c2 (n := 51) C0 (by decide) dX12_sell_94 (fun v_80 e_81 => ?_)
      refine lv_iload_n C0.1 C0.2.1 dX12_sell_96 rfl (lv_at hl 2 rfl) ?_
      refine y_add C0 (o35_312 e_6 e_11 e_12 e_13 c_15 e_17 e_19 e_29 e_31 e_38 e_40 e_49 e_51 e_68 e_70 e_77 e_79 e_81 (le_min v_80) (le_max v_80) (le_min a1) (le_max a1) (le_min r_10) (le_max r_10) (le_min v_16) (le_max v_16) (le_min v_18) (le_max v_18) (le_min v_28) (le_max v_28) (le_min v_30) (le_max v_30) (le_min v_37) (le_max v_37) (le_min v_39) (le_max v_39) (le_min v_48) (le_max v_48) (le_min v_50) (le_max v_50) (le_min v_67) (le_max v_67) (le_min v_69) (le_max v_69) (le_min v_76) (le_max v_76) (le_min v_78) (le_max v_78)) (o35_313 e_6 e_11 e_12 e_13 c_15 e_17 e_19 e_29 e_31 e_38 e_40 e_49 e_51 e_68 e_70 e_77 e_79 e_81 (le_min v_80) (le_max v_80) (le_min a1) (le_max a1) (le_min r_10) (le_max r_10) (le_min v_16) (le_max v_16) (le_min v_18) (le_max v_18) (le_min v_28) (le_max v_28) (le_min v_30) (le_max v_30) (le_min v_37) (le_max v_37) (le_min v_39) (le_max v_39) (le_min v_48) (le_max v_48) (le_min v_50) (le_max v_50) (le_min v_67) (le_max v_67) (le_min v_69) (le_max v_69) (le_min v_76) (le_max v_76) (le_min v_78) (le_max v_78)) dX12_sell_97 (fun v_82 e_83 => ?_)
      refine y_iald C0 h kSM_1 rfl (by decide) (o35_314 e_6 e_11 e_12 e_13 c_15 e_17 e_19 e_29 e_31 e_38 e_40 e_49 e_51 e_68 e_70 e_77 e_79 e_81 e_83) (o35_315 e_6 e_11 e_12 e_13 c_15 e_17 e_19 e_29 e_31 e_38 e_40 e_49 e_51 e_68 e_70 e_77 e_79 e_81 e_83) dX12_sell_98 (fun v_84 e_85 e_86 e_87 => ?_)
      refine lv_iload_n C0.1 C0.2.1 dX12_sell_99 rfl (lv_at hl 0 rfl) ?_
      refine y_iaddU C0 dX12_sell_100 (fun v_88 => ?_)
      refine y_c3 (n := 9999) C0 (by decide) dX12_sell_101 (fun v_89 e_90 => ?_)
      refine y_icmp_le (tgt := 113) C0 dX12_sell_104 (by decide) (fun c_91 => ?_) (fun c_91 => ?_)
      · -- 104
        refine lv_aload_n C0.1 C0.2.1 dX12_sell_113 rfl (lv_at hl 1 rfl) ?_
        refine ng_X12_all C0 h kSM_0 q_1439 dX12_sell_114 ?_
        refine y_c2 (n := 51) C0 (by decide) dX12_sell_117 (fun v_92 e_93 => ?_)
        refine lv_iload_n C0.1 C0.2.1 dX12_sell_119 rfl (lv_at hl 2 rfl) ?_
        refine y_add C0 (o35_316 e_6 e_11 e_12 e_13 c_15 e_17 e_19 e_29 e_31 e_38 e_40 e_49 e_51 e_68 e_70 e_77 e_79 e_81 e_83 e_93 (le_min v_92) (le_max v_92) (le_min a1) (le_max a1) (le_min r_10) (le_max r_10) (le_min v_16) (le_max v_16) (le_min v_18) (le_max v_18) (le_min v_28) (le_max v_28) (le_min v_30) (le_max v_30) (le_min v_37) (le_max v_37) (le_min v_39) (le_max v_39) (le_min v_48) (le_max v_48) (le_min v_50) (le_max v_50) (le_min v_67) (le_max v_67) (le_min v_69) (le_max v_69) (le_min v_76) (le_max v_76) (le_min v_78) (le_max v_78) (le_min v_80) (le_max v_80) (le_min v_82) (le_max v_82)) (o35_317 e_6 e_11 e_12 e_13 c_15 e_17 e_19 e_29 e_31 e_38 e_40 e_49 e_51 e_68 e_70 e_77 e_79 e_81 e_83 e_93 (le_min v_92) (le_max v_92) (le_min a1) (le_max a1) (le_min r_10) (le_max r_10) (le_min v_16) (le_max v_16) (le_min v_18) (le_max v_18) (le_min v_28) (le_max v_28) (le_min v_30) (le_max v_30) (le_min v_37) (le_max v_37) (le_min v_39) (le_max v_39) (le_min v_48) (le_max v_48) (le_min v_50) (le_max v_50) (le_min v_67) (le_max v_67) (le_min v_69) (le_max v_69) (le_min v_76) (le_max v_76) (le_min v_78) (le_max v_78) (le_min v_80) (le_max v_80) (le_min v_82) (le_max v_82)) dX12_sell_120 (fun v_94 e_95 => ?_)
        refine y_iald C0 h kSM_1 rfl (by decide) (o35_318 e_6 e_11 e_12 e_13 c_15 e_17 e_19 e_29 e_31 e_38 e_40 e_49 e_51 e_68 e_70 e_77 e_79 e_81 e_83 e_93 e_95) (o35_319 e_6 e_11 e_12 e_13 c_15 e_17 e_19 e_29 e_31 e_38 e_40 e_49 e_51 e_68 e_70 e_77 e_79 e_81 e_83 e_93 e_95) dX12_sell_121 (fun v_96 e_97 e_98 e_99 => ?_)
        have q_100 : v_96.toInt = v_84.toInt := congrArg Int32.toInt (e_97.symm.trans (Eq.trans (congrArg (aI ws_73 1) (o35_320 e_6 e_11 e_12 e_13 c_15 e_17 e_19 e_29 e_31 e_38 e_40 e_49 e_51 e_68 e_70 e_77 e_79 e_81 e_83 e_93 e_95)) (Eq.trans rfl e_85)))
        refine lv_iload_n C0.1 C0.2.1 dX12_sell_122 rfl (lv_at hl 0 rfl) ?_
        refine y_iaddU C0 dX12_sell_123 (fun v_101 => ?_)
        have f_104 := o35_249 v_78.toInt.toNat (o35_323 e_6 e_11 e_12 e_13 c_15 e_17 e_19 e_29 e_31 e_38 e_40 e_49 e_51 e_68 e_70 e_77 e_79 e_81 e_83 e_93 e_95) (o35_324 e_6 e_11 e_12 e_13 c_15 e_17 e_19 e_29 e_31 e_38 e_40 e_49 e_51 e_68 e_70 e_77 e_79 e_81 e_83 e_93 e_95)
        refine y_iast C0 h kSM_1 rfl (by decide) (o35_321 e_6 e_11 e_12 e_13 c_15 e_17 e_19 e_29 e_31 e_38 e_40 e_49 e_51 e_68 e_70 e_77 e_79 e_81 e_83 e_93 e_95) (o35_322 e_6 e_11 e_12 e_13 c_15 e_17 e_19 e_29 e_31 e_38 e_40 e_49 e_51 e_68 e_70 e_77 e_79 e_81 e_83 e_93 e_95) (Int.le_trans f_104.1 (le_min v_101)) (Int.le_trans (le_max v_101) f_104.2) dX12_sell_124 (fun H locs ws_102 h u_103 => ?_)
        refine lv_aload_n C0.1 C0.2.1 dX12_sell_125 rfl (lv_at hl 1 rfl) ?_
        refine y_cv h (y_rV (As := []) (rest := []) C0 hZ h (c_X12_notes l G Z ad _ h.2) k_X12_notes q_1788 q_90 q_1786 kSM_0 rfl rfl rfl hl.1 rfl rfl (Nat.le_of_ble_eq_true rfl) dX12_sell_126 ⟨Nat.le_of_ble_eq_true rfl, Nat.le_of_ble_eq_true rfl⟩ ⟨Nat.le_of_ble_eq_true rfl, Nat.le_of_ble_eq_true rfl⟩) (fun H locs ws_105 h u_106 p_107 => ?_)
        obtain ⟨e_108, e_109⟩ := p_107
        refine lv_iload_n C0.1 C0.2.1 dX12_sell_129 rfl (lv_at hl 0 rfl) ?_
        rw [hQ]
        exact y_iret C0 h (Fr.tr (Fr.tr (Fr.tr (Fr.tr (Fr.tr (Fr.tr (Fr.up u_4.1 kSM_0 (by decide)) (Fr.mono u_8 (by decide))) (Fr.mono u_26 (by decide))) (Fr.mono u_58 (by decide))) (Fr.up u_74.1 kSM_1 (by decide))) (Fr.up u_103.1 kSM_1 (by decide))) (Fr.mono u_106 (by decide))) ⟨(Pa.tr (Pa.tr (Pa.tr (Pa.tr (Pa.tr (Pa.tr (Pa.ud u_4.1 (by decide)) (Pa.fr u_8 (by decide))) (Pa.fr u_26 (by decide))) (Pa.fr u_58 (by decide))) (Pa.st u_74 (o35_308 e_6 e_11 e_12 e_13 c_15 e_17 e_19 e_29 e_31 e_38 e_40 e_49 e_51 e_68 e_70) (o35_309 e_6 e_11 e_12 e_13 c_15 e_17 e_19 e_29 e_31 e_38 e_40 e_49 e_51 e_68 e_70))) (Pa.st u_103 (o35_326 e_6 e_11 e_12 e_13 c_15 e_17 e_19 e_29 e_31 e_38 e_40 e_49 e_51 e_68 e_70 e_77 e_79 e_81 e_83 e_93 e_95) (o35_327 e_6 e_11 e_12 e_13 c_15 e_17 e_19 e_29 e_31 e_38 e_40 e_49 e_51 e_68 e_70 e_77 e_79 e_81 e_83 e_93 e_95))) e_108), (Pw.tr (Pw.tr (Pw.tr (Pw.tr (Pw.tr (Pw.tr (Pw.ud u_4.1 (by decide)) (Pw.fr u_8 (by decide))) (Pw.fr u_26 (by decide))) (Pw.fr u_58 (by decide))) (Pw.st u_74 (o35_307 e_6 e_11 e_12 e_13 c_15 e_17 e_19 e_29 e_31 e_38 e_40 e_49 e_51 e_68 e_70))) (Pw.st u_103 (o35_325 e_6 e_11 e_12 e_13 c_15 e_17 e_19 e_29 e_31 e_38 e_40 e_49 e_51 e_68 e_70 e_77 e_79 e_81 e_83 e_93 e_95))) e_109)⟩ dX12_sell_130
      · -- 104
        refine y_c3 (n := 9999) C0 (by decide) dX12_sell_107 (fun v_110 e_111 => ?_)
        refine lv_goto (tgt := 124) C0.1 C0.2.1 dX12_sell_110 (by decide) ?_
        have f_114 := o35_249 v_78.toInt.toNat (o35_330 e_6 e_11 e_12 e_13 c_15 e_17 e_19 e_29 e_31 e_38 e_40 e_49 e_51 e_68 e_70 e_77 e_79 e_81 e_83) (o35_331 e_6 e_11 e_12 e_13 c_15 e_17 e_19 e_29 e_31 e_38 e_40 e_49 e_51 e_68 e_70 e_77 e_79 e_81 e_83)
        refine y_iast C0 h kSM_1 rfl (by decide) (o35_328 e_6 e_11 e_12 e_13 c_15 e_17 e_19 e_29 e_31 e_38 e_40 e_49 e_51 e_68 e_70 e_77 e_79 e_81 e_83) (o35_329 e_6 e_11 e_12 e_13 c_15 e_17 e_19 e_29 e_31 e_38 e_40 e_49 e_51 e_68 e_70 e_77 e_79 e_81 e_83) (Int.le_trans f_114.1 (le_min v_110)) (Int.le_trans (le_max v_110) f_114.2) dX12_sell_124 (fun H locs ws_112 h u_113 => ?_)
        refine lv_aload_n C0.1 C0.2.1 dX12_sell_125 rfl (lv_at hl 1 rfl) ?_
        refine y_cv h (y_rV (As := []) (rest := []) C0 hZ h (c_X12_notes l G Z ad _ h.2) k_X12_notes q_1788 q_90 q_1786 kSM_0 rfl rfl rfl hl.1 rfl rfl (Nat.le_of_ble_eq_true rfl) dX12_sell_126 ⟨Nat.le_of_ble_eq_true rfl, Nat.le_of_ble_eq_true rfl⟩ ⟨Nat.le_of_ble_eq_true rfl, Nat.le_of_ble_eq_true rfl⟩) (fun H locs ws_115 h u_116 p_117 => ?_)
        obtain ⟨e_118, e_119⟩ := p_117
        refine lv_iload_n C0.1 C0.2.1 dX12_sell_129 rfl (lv_at hl 0 rfl) ?_
        rw [hQ]
        exact y_iret C0 h (Fr.tr (Fr.tr (Fr.tr (Fr.tr (Fr.tr (Fr.tr (Fr.up u_4.1 kSM_0 (by decide)) (Fr.mono u_8 (by decide))) (Fr.mono u_26 (by decide))) (Fr.mono u_58 (by decide))) (Fr.up u_74.1 kSM_1 (by decide))) (Fr.up u_113.1 kSM_1 (by decide))) (Fr.mono u_116 (by decide))) ⟨(Pa.tr (Pa.tr (Pa.tr (Pa.tr (Pa.tr (Pa.tr (Pa.ud u_4.1 (by decide)) (Pa.fr u_8 (by decide))) (Pa.fr u_26 (by decide))) (Pa.fr u_58 (by decide))) (Pa.st u_74 (o35_308 e_6 e_11 e_12 e_13 c_15 e_17 e_19 e_29 e_31 e_38 e_40 e_49 e_51 e_68 e_70) (o35_309 e_6 e_11 e_12 e_13 c_15 e_17 e_19 e_29 e_31 e_38 e_40 e_49 e_51 e_68 e_70))) (Pa.st u_113 (o35_333 e_6 e_11 e_12 e_13 c_15 e_17 e_19 e_29 e_31 e_38 e_40 e_49 e_51 e_68 e_70 e_77 e_79 e_81 e_83) (o35_334 e_6 e_11 e_12 e_13 c_15 e_17 e_19 e_29 e_31 e_38 e_40 e_49 e_51 e_68 e_70 e_77 e_79 e_81 e_83))) e_118), (Pw.tr (Pw.tr (Pw.tr (Pw.tr (Pw.tr (Pw.tr (Pw.ud u_4.1 (by decide)) (Pw.fr u_8 (by decide))) (Pw.fr u_26 (by decide))) (Pw.fr u_58 (by decide))) (Pw.st u_74 (o35_307 e_6 e_11 e_12 e_13 c_15 e_17 e_19 e_29 e_31 e_38 e_40 e_49 e_51 e_68 e_70))) (Pw.st u_113 (o35_332 e_6 e_11 e_12 e_13 c_15 e_17 e_19 e_29 e_31 e_38 e_40 e_49 e_51 e_68 e_70 e_77 e_79 e_81 e_83))) e_119)⟩ dX12_sell_130
    · -- 26
      refine y_c2 (n := (-5)) C0 (by decide) dX12_sell_29 (fun v_120 e_121 => ?_)
      rw [hQ]
      exact y_iret C0 h (Fr.tr (Fr.up u_4.1 kSM_0 (by decide)) (Fr.mono u_8 (by decide))) ⟨(Pa.tr (Pa.ud u_4.1 (by decide)) (Pa.fr u_8 (by decide))), (Pw.tr (Pw.ud u_4.1 (by decide)) (Pw.fr u_8 (by decide)))⟩ dX12_sell_31
  · -- 11
    refine y_c2 (n := (-2)) C0 (by decide) dX12_sell_14 (fun v_122 e_123 => ?_)
    rw [hQ]
    exact y_iret C0 h (Fr.tr (Fr.up u_4.1 kSM_0 (by decide)) (Fr.mono u_8 (by decide))) ⟨(Pa.tr (Pa.ud u_4.1 (by decide)) (Pa.fr u_8 (by decide))), (Pw.tr (Pw.ud u_4.1 (by decide)) (Pw.fr u_8 (by decide)))⟩ dX12_sell_16
set_option maxHeartbeats 4000000 in
set_option maxRecDepth 100000 in
theorem c_X12_hand (l : Launch) (G : GG) (Z : RZ) (ad : Nat → Nat) (ws0 : va_W) (hT : Ty G (SM tt) ad ws0) (a1 : Int32) (a2 : Int32) (a3 : Int32) (hJ : J ws0) : Mq l yX12_hand cX12_hand 4 (some .int) 3 G Z [.ref (ad 0), .int a1, .int a2, .int a3] ws0 (PI G (SM tt) ad [0, 1, 6] ws0 (fun r u => ((-5) ≤ r.toInt) ∧ (r.toInt ≤ 99) ∧ (Pa ws0 u) ∧ (Pw ws0 u))) := by
  refine Mq.start (by decide) (Nat.le_of_ble_eq_true rfl) ?_
  intro p e s m below meth c A ls C0 hZ h hl
  have hl : lv_has ls 4 [(0, .ref (ad 0)), (1, .int a1), (2, .int a2), (3, .int a3)] := hl
  have h : Wt G (SM tt) ad A s s.heap [] ws0 := ⟨h, hT⟩
  obtain ⟨args, hargs⟩ : ∃ z, z = ([.ref (ad 0), .int a1, .int a2, .int a3] : List Value).toArray := ⟨_, rfl⟩
  rw [← hargs] at C0 ⊢
  have C0 : Cx p s m args meth c RX12 cX12_hand 4 (some .int) := C0
  obtain ⟨Q, hQ⟩ : ∃ z, z = MQ below ((PI G (SM tt) ad [0, 1, 6] ws0 (fun r u => ((-5) ≤ r.toInt) ∧ (r.toInt ≤ 99) ∧ (Pa ws0 u) ∧ (Pw ws0 u))) A) args s 0 0 A := ⟨_, rfl⟩
  rw [← hQ]
  refine lv_aload_n C0.1 C0.2.1 dX12_hand_0 rfl (lv_at hl 0 rfl) ?_
  refine y_c1 (n := 0) C0 (by decide) dX12_hand_1 (fun v_1 e_2 => ?_)
  refine np_X12_thrown C0 h kSM_0 q_1438 (le_min v_1) (le_max v_1) dX12_hand_2 (fun H locs ws_3 h u_4 => ?_)
  refine lv_aload_n C0.1 C0.2.1 dX12_hand_5 rfl (lv_at hl 0 rfl) ?_
  refine lv_iload_n C0.1 C0.2.1 dX12_hand_6 rfl (lv_at hl 1 rfl) ?_
  refine y_i2l C0 dX12_hand_7 (fun w_5 e_6 => ?_)
  refine y_ci h (y_rV (As := [.long w_5]) (rest := []) C0 hZ h (c_X12_isPerson l G Z ad _ h.2 w_5 (J.pa hT hJ (Pa.ud u_4.1 (by decide)))) k_X12_isPerson q_1693 q_77 q_1691 kSM_0 rfl rfl rfl hl.1 rfl rfl (Nat.le_of_ble_eq_true rfl) dX12_hand_8 ⟨Nat.le_of_ble_eq_true rfl, Nat.le_of_ble_eq_true rfl⟩ ⟨Nat.le_of_ble_eq_true rfl, Nat.le_of_ble_eq_true rfl⟩) (fun r_10 H locs ws_7 h u_8 p_9 => ?_)
  obtain ⟨e_11, e_12, e_13, e_14⟩ := p_9
  refine y_if_eq (tgt := 28) C0 dX12_hand_11 (by decide) (fun c_15 => ?_) (fun c_15 => ?_)
  · -- 11
    refine y_c2 (n := (-2)) C0 (by decide) dX12_hand_28 (fun v_16 e_17 => ?_)
    rw [hQ]
    exact y_iret C0 h (Fr.tr (Fr.up u_4.1 kSM_0 (by decide)) (Fr.mono u_8 (by decide))) ⟨(o35_335 e_17), (o35_336 e_17), (Pa.tr (Pa.ud u_4.1 (by decide)) (Pa.fr u_8 (by decide))), (Pw.tr (Pw.ud u_4.1 (by decide)) (Pw.fr u_8 (by decide)))⟩ dX12_hand_30
  · -- 11
    refine lv_aload_n C0.1 C0.2.1 dX12_hand_14 rfl (lv_at hl 0 rfl) ?_
    refine lv_iload_n C0.1 C0.2.1 dX12_hand_15 rfl (lv_at hl 2 rfl) ?_
    refine y_i2l C0 dX12_hand_16 (fun w_18 e_19 => ?_)
    refine y_ci h (y_rV (As := [.long w_18]) (rest := []) C0 hZ h (c_X12_isPerson l G Z ad _ h.2 w_18 (J.pa hT hJ (Pa.tr (Pa.ud u_4.1 (by decide)) (Pa.fr u_8 (by decide))))) k_X12_isPerson q_1693 q_77 q_1691 kSM_0 rfl rfl rfl hl.1 rfl rfl (Nat.le_of_ble_eq_true rfl) dX12_hand_17 ⟨Nat.le_of_ble_eq_true rfl, Nat.le_of_ble_eq_true rfl⟩ ⟨Nat.le_of_ble_eq_true rfl, Nat.le_of_ble_eq_true rfl⟩) (fun r_23 H locs ws_20 h u_21 p_22 => ?_)
    obtain ⟨e_24, e_25, e_26, e_27⟩ := p_22
    refine y_if_eq (tgt := 28) C0 dX12_hand_20 (by decide) (fun c_28 => ?_) (fun c_28 => ?_)
    · -- 20
      refine y_c2 (n := (-2)) C0 (by decide) dX12_hand_28 (fun v_29 e_30 => ?_)
      rw [hQ]
      exact y_iret C0 h (Fr.tr (Fr.tr (Fr.up u_4.1 kSM_0 (by decide)) (Fr.mono u_8 (by decide))) (Fr.mono u_21 (by decide))) ⟨(o35_335 e_30), (o35_336 e_30), (Pa.tr (Pa.tr (Pa.ud u_4.1 (by decide)) (Pa.fr u_8 (by decide))) (Pa.fr u_21 (by decide))), (Pw.tr (Pw.tr (Pw.ud u_4.1 (by decide)) (Pw.fr u_8 (by decide))) (Pw.fr u_21 (by decide)))⟩ dX12_hand_30
    · -- 20
      refine lv_iload_n C0.1 C0.2.1 dX12_hand_23 rfl (lv_at hl 1 rfl) ?_
      refine lv_iload_n C0.1 C0.2.1 dX12_hand_24 rfl (lv_at hl 2 rfl) ?_
      refine y_icmp_ne (tgt := 31) C0 dX12_hand_25 (by decide) (fun c_31 => ?_) (fun c_31 => ?_)
      · -- 25
        refine lv_iload_n C0.1 C0.2.1 dX12_hand_31 rfl (lv_at hl 3 rfl) ?_
        refine y_i2l C0 dX12_hand_32 (fun w_32 e_33 => ?_)
        refine y_lc (v := 1) C0 (by decide) dX12_hand_33 (fun w_34 e_35 => ?_)
        refine y_lc2 (n := 99) C0 q_1830 (by decide) dX12_hand_34 (fun w_36 e_37 => ?_)
        refine y_ci h (y_rS (As := [.long w_32, .long w_34, .long w_36]) (rest := []) C0 hZ h (c_X12_within l G Z ad _ h.2 w_32 w_34 w_36) k_X12_within q_1580 q_1579 hl.1 rfl rfl (Nat.le_of_ble_eq_true rfl) dX12_hand_37 ⟨Nat.le_of_ble_eq_true rfl, Nat.le_of_ble_eq_true rfl⟩ ⟨Nat.le_of_ble_eq_true rfl, Nat.le_of_ble_eq_true rfl⟩) (fun r_41 H locs ws_38 h u_39 p_40 => ?_)
        obtain ⟨e_42, e_43, e_44⟩ := p_40
        refine y_if_ne (tgt := 46) C0 dX12_hand_40 (by decide) (fun c_45 => ?_) (fun c_45 => ?_)
        · -- 40
          refine lv_aload_n C0.1 C0.2.1 dX12_hand_46 rfl (lv_at hl 0 rfl) ?_
          refine ng_X12_all C0 h kSM_0 q_1439 dX12_hand_47 ?_
          refine y_c2 (n := 36) C0 (by decide) dX12_hand_50 (fun v_46 e_47 => ?_)
          refine lv_iload_n C0.1 C0.2.1 dX12_hand_52 rfl (lv_at hl 1 rfl) ?_
          refine y_add C0 (o35_337 e_6 e_11 e_12 e_13 c_15 e_19 e_24 e_25 e_26 c_28 c_31 e_47 (le_min v_46) (le_max v_46) (le_min a1) (le_max a1) (le_min r_10) (le_max r_10) (le_min a2) (le_max a2) (le_min r_23) (le_max r_23)) (o35_338 e_6 e_11 e_12 e_13 c_15 e_19 e_24 e_25 e_26 c_28 c_31 e_47 (le_min v_46) (le_max v_46) (le_min a1) (le_max a1) (le_min r_10) (le_max r_10) (le_min a2) (le_max a2) (le_min r_23) (le_max r_23)) dX12_hand_53 (fun v_48 e_49 => ?_)
          refine y_iald C0 h kSM_1 rfl (by decide) (o35_339 e_6 e_11 e_12 e_13 c_15 e_19 e_24 e_25 e_26 c_28 c_31 e_47 e_49) (o35_340 e_6 e_11 e_12 e_13 c_15 e_19 e_24 e_25 e_26 c_28 c_31 e_47 e_49) dX12_hand_54 (fun v_50 e_51 e_52 e_53 => ?_)
          have f_54 := o35_16 v_48.toInt.toNat (o35_341 e_6 e_11 e_12 e_13 c_15 e_19 e_24 e_25 e_26 c_28 c_31 e_47 e_49) (o35_342 e_6 e_11 e_12 e_13 c_15 e_19 e_24 e_25 e_26 c_28 c_31 e_47 e_49)
          refine lv_aload_n C0.1 C0.2.1 dX12_hand_55 rfl (lv_at hl 0 rfl) ?_
          refine ng_X12_all C0 h kSM_0 q_1439 dX12_hand_56 ?_
          refine y_c2 (n := 36) C0 (by decide) dX12_hand_59 (fun v_55 e_56 => ?_)
          refine lv_iload_n C0.1 C0.2.1 dX12_hand_61 rfl (lv_at hl 2 rfl) ?_
          refine y_add C0 (o35_343 e_6 e_11 e_12 e_13 c_15 e_19 e_24 e_25 e_26 c_28 c_31 e_47 e_49 e_56 (le_min v_55) (le_max v_55) (le_min a2) (le_max a2) (le_min a1) (le_max a1) (le_min r_10) (le_max r_10) (le_min r_23) (le_max r_23) (le_min v_46) (le_max v_46) (le_min v_48) (le_max v_48)) (o35_344 e_6 e_11 e_12 e_13 c_15 e_19 e_24 e_25 e_26 c_28 c_31 e_47 e_49 e_56 (le_min v_55) (le_max v_55) (le_min a2) (le_max a2) (le_min a1) (le_max a1) (le_min r_10) (le_max r_10) (le_min r_23) (le_max r_23) (le_min v_46) (le_max v_46) (le_min v_48) (le_max v_48)) dX12_hand_62 (fun v_57 e_58 => ?_)
          refine y_iald C0 h kSM_1 rfl (by decide) (o35_345 e_6 e_11 e_12 e_13 c_15 e_19 e_24 e_25 e_26 c_28 c_31 e_47 e_49 e_56 e_58) (o35_346 e_6 e_11 e_12 e_13 c_15 e_19 e_24 e_25 e_26 c_28 c_31 e_47 e_49 e_56 e_58) dX12_hand_63 (fun v_59 e_60 e_61 e_62 => ?_)
          have f_63 := o35_16 v_57.toInt.toNat (o35_347 e_6 e_11 e_12 e_13 c_15 e_19 e_24 e_25 e_26 c_28 c_31 e_47 e_49 e_56 e_58) (o35_348 e_6 e_11 e_12 e_13 c_15 e_19 e_24 e_25 e_26 c_28 c_31 e_47 e_49 e_56 e_58)
          refine y_icmp_ne (tgt := 80) C0 dX12_hand_64 (by decide) (fun c_64 => ?_) (fun c_64 => ?_)
          · -- 64
            refine y_c2 (n := (-5)) C0 (by decide) dX12_hand_80 (fun v_65 e_66 => ?_)
            rw [hQ]
            exact y_iret C0 h (Fr.tr (Fr.tr (Fr.tr (Fr.up u_4.1 kSM_0 (by decide)) (Fr.mono u_8 (by decide))) (Fr.mono u_21 (by decide))) (Fr.mono u_39 (by decide))) ⟨(o35_349 e_66), (o35_350 e_66), (Pa.tr (Pa.tr (Pa.tr (Pa.ud u_4.1 (by decide)) (Pa.fr u_8 (by decide))) (Pa.fr u_21 (by decide))) (Pa.fr u_39 (by decide))), (Pw.tr (Pw.tr (Pw.tr (Pw.ud u_4.1 (by decide)) (Pw.fr u_8 (by decide))) (Pw.fr u_21 (by decide))) (Pw.fr u_39 (by decide)))⟩ dX12_hand_82
          · -- 64
            refine lv_aload_n C0.1 C0.2.1 dX12_hand_67 rfl (lv_at hl 0 rfl) ?_
            refine ng_X12_all C0 h kSM_0 q_1439 dX12_hand_68 ?_
            refine y_c2 (n := 46) C0 (by decide) dX12_hand_71 (fun v_67 e_68 => ?_)
            refine lv_iload_n C0.1 C0.2.1 dX12_hand_73 rfl (lv_at hl 1 rfl) ?_
            refine y_add C0 (o35_351 e_6 e_11 e_12 e_13 c_15 e_19 e_24 e_25 e_26 c_28 c_31 e_47 e_49 e_56 e_58 e_68 (le_min v_67) (le_max v_67) (le_min a1) (le_max a1) (le_min r_10) (le_max r_10) (le_min a2) (le_max a2) (le_min r_23) (le_max r_23) (le_min v_46) (le_max v_46) (le_min v_48) (le_max v_48) (le_min v_55) (le_max v_55) (le_min v_57) (le_max v_57)) (o35_352 e_6 e_11 e_12 e_13 c_15 e_19 e_24 e_25 e_26 c_28 c_31 e_47 e_49 e_56 e_58 e_68 (le_min v_67) (le_max v_67) (le_min a1) (le_max a1) (le_min r_10) (le_max r_10) (le_min a2) (le_max a2) (le_min r_23) (le_max r_23) (le_min v_46) (le_max v_46) (le_min v_48) (le_max v_48) (le_min v_55) (le_max v_55) (le_min v_57) (le_max v_57)) dX12_hand_74 (fun v_69 e_70 => ?_)
            refine y_iald C0 h kSM_1 rfl (by decide) (o35_353 e_6 e_11 e_12 e_13 c_15 e_19 e_24 e_25 e_26 c_28 c_31 e_47 e_49 e_56 e_58 e_68 e_70) (o35_354 e_6 e_11 e_12 e_13 c_15 e_19 e_24 e_25 e_26 c_28 c_31 e_47 e_49 e_56 e_58 e_68 e_70) dX12_hand_75 (fun v_71 e_72 e_73 e_74 => ?_)
            have f_75 := o35_30 v_69.toInt.toNat (o35_355 e_6 e_11 e_12 e_13 c_15 e_19 e_24 e_25 e_26 c_28 c_31 e_47 e_49 e_56 e_58 e_68 e_70) (o35_356 e_6 e_11 e_12 e_13 c_15 e_19 e_24 e_25 e_26 c_28 c_31 e_47 e_49 e_56 e_58 e_68 e_70)
            refine lv_iload_n C0.1 C0.2.1 dX12_hand_76 rfl (lv_at hl 3 rfl) ?_
            refine y_icmp_ge (tgt := 83) C0 dX12_hand_77 (by decide) (fun c_76 => ?_) (fun c_76 => ?_)
            · -- 77
              refine lv_aload_n C0.1 C0.2.1 dX12_hand_83 rfl (lv_at hl 0 rfl) ?_
              refine ng_X12_all C0 h kSM_0 q_1439 dX12_hand_84 ?_
              refine y_c2 (n := 46) C0 (by decide) dX12_hand_87 (fun v_77 e_78 => ?_)
              refine lv_iload_n C0.1 C0.2.1 dX12_hand_89 rfl (lv_at hl 2 rfl) ?_
              refine y_add C0 (o35_357 e_6 e_11 e_12 e_13 c_15 e_19 e_24 e_25 e_26 c_28 c_31 e_47 e_49 e_56 e_58 e_68 e_70 e_78 (le_min v_77) (le_max v_77) (le_min a2) (le_max a2) (le_min a1) (le_max a1) (le_min r_10) (le_max r_10) (le_min r_23) (le_max r_23) (le_min v_46) (le_max v_46) (le_min v_48) (le_max v_48) (le_min v_55) (le_max v_55) (le_min v_57) (le_max v_57) (le_min v_67) (le_max v_67) (le_min v_69) (le_max v_69)) (o35_358 e_6 e_11 e_12 e_13 c_15 e_19 e_24 e_25 e_26 c_28 c_31 e_47 e_49 e_56 e_58 e_68 e_70 e_78 (le_min v_77) (le_max v_77) (le_min a2) (le_max a2) (le_min a1) (le_max a1) (le_min r_10) (le_max r_10) (le_min r_23) (le_max r_23) (le_min v_46) (le_max v_46) (le_min v_48) (le_max v_48) (le_min v_55) (le_max v_55) (le_min v_57) (le_max v_57) (le_min v_67) (le_max v_67) (le_min v_69) (le_max v_69)) dX12_hand_90 (fun v_79 e_80 => ?_)
              refine y_iald C0 h kSM_1 rfl (by decide) (o35_359 e_6 e_11 e_12 e_13 c_15 e_19 e_24 e_25 e_26 c_28 c_31 e_47 e_49 e_56 e_58 e_68 e_70 e_78 e_80) (o35_360 e_6 e_11 e_12 e_13 c_15 e_19 e_24 e_25 e_26 c_28 c_31 e_47 e_49 e_56 e_58 e_68 e_70 e_78 e_80) dX12_hand_91 (fun v_81 e_82 e_83 e_84 => ?_)
              have f_85 := o35_30 v_79.toInt.toNat (o35_361 e_6 e_11 e_12 e_13 c_15 e_19 e_24 e_25 e_26 c_28 c_31 e_47 e_49 e_56 e_58 e_68 e_70 e_78 e_80) (o35_362 e_6 e_11 e_12 e_13 c_15 e_19 e_24 e_25 e_26 c_28 c_31 e_47 e_49 e_56 e_58 e_68 e_70 e_78 e_80)
              refine lv_iload_n C0.1 C0.2.1 dX12_hand_92 rfl (lv_at hl 3 rfl) ?_
              refine y_add C0 (o35_363 e_33 e_35 e_37 e_42 e_43 e_44 c_45 (Int.le_trans f_75.1 e_73) (Int.le_trans e_74 f_75.2) c_76 (Int.le_trans f_85.1 e_83) (Int.le_trans e_84 f_85.2) (le_min v_81) (le_max v_81) (le_min a3) (le_max a3) (le_min r_41) (le_max r_41) (le_min v_71) (le_max v_71)) (o35_364 e_33 e_35 e_37 e_42 e_43 e_44 c_45 (Int.le_trans f_75.1 e_73) (Int.le_trans e_74 f_75.2) c_76 (Int.le_trans f_85.1 e_83) (Int.le_trans e_84 f_85.2) (le_min v_81) (le_max v_81) (le_min a3) (le_max a3) (le_min r_41) (le_max r_41) (le_min v_71) (le_max v_71)) dX12_hand_93 (fun v_86 e_87 => ?_)
              refine y_c2 (n := 99) C0 (by decide) dX12_hand_94 (fun v_88 e_89 => ?_)
              refine y_icmp_le (tgt := 102) C0 dX12_hand_96 (by decide) (fun c_90 => ?_) (fun c_90 => ?_)
              · -- 96
                refine lv_aload_n C0.1 C0.2.1 dX12_hand_102 rfl (lv_at hl 0 rfl) ?_
                refine y_cv h (y_rV (As := []) (rest := []) C0 hZ h (c_X12_keeps l G Z ad _ h.2) k_X12_keeps q_1777 q_88 q_1775 kSM_0 rfl rfl rfl hl.1 rfl rfl (Nat.le_of_ble_eq_true rfl) dX12_hand_103 ⟨Nat.le_of_ble_eq_true rfl, Nat.le_of_ble_eq_true rfl⟩ ⟨Nat.le_of_ble_eq_true rfl, Nat.le_of_ble_eq_true rfl⟩) (fun H locs ws_91 h u_92 p_93 => ?_)
                refine lv_aload_n C0.1 C0.2.1 dX12_hand_106 rfl (lv_at hl 0 rfl) ?_
                refine ng_X12_all C0 h kSM_0 q_1439 dX12_hand_107 ?_
                refine y_c2 (n := 46) C0 (by decide) dX12_hand_110 (fun v_94 e_95 => ?_)
                refine lv_iload_n C0.1 C0.2.1 dX12_hand_112 rfl (lv_at hl 1 rfl) ?_
                refine y_add C0 (o35_365 e_6 e_11 e_12 e_13 c_15 e_19 e_24 e_25 e_26 c_28 c_31 e_47 e_49 e_56 e_58 e_68 e_70 e_78 e_80 e_95 (le_min v_94) (le_max v_94) (le_min a1) (le_max a1) (le_min r_10) (le_max r_10) (le_min a2) (le_max a2) (le_min r_23) (le_max r_23) (le_min v_46) (le_max v_46) (le_min v_48) (le_max v_48) (le_min v_55) (le_max v_55) (le_min v_57) (le_max v_57) (le_min v_67) (le_max v_67) (le_min v_69) (le_max v_69) (le_min v_77) (le_max v_77) (le_min v_79) (le_max v_79)) (o35_366 e_6 e_11 e_12 e_13 c_15 e_19 e_24 e_25 e_26 c_28 c_31 e_47 e_49 e_56 e_58 e_68 e_70 e_78 e_80 e_95 (le_min v_94) (le_max v_94) (le_min a1) (le_max a1) (le_min r_10) (le_max r_10) (le_min a2) (le_max a2) (le_min r_23) (le_max r_23) (le_min v_46) (le_max v_46) (le_min v_48) (le_max v_48) (le_min v_55) (le_max v_55) (le_min v_57) (le_max v_57) (le_min v_67) (le_max v_67) (le_min v_69) (le_max v_69) (le_min v_77) (le_max v_77) (le_min v_79) (le_max v_79)) dX12_hand_113 (fun v_96 e_97 => ?_)
                refine lv_dup2_11 C0.1 C0.2.1 dX12_hand_114 rfl rfl ?_
                refine y_iald C0 h kSM_1 rfl (by decide) (o35_367 e_6 e_11 e_12 e_13 c_15 e_19 e_24 e_25 e_26 c_28 c_31 e_47 e_49 e_56 e_58 e_68 e_70 e_78 e_80 e_95 e_97) (o35_368 e_6 e_11 e_12 e_13 c_15 e_19 e_24 e_25 e_26 c_28 c_31 e_47 e_49 e_56 e_58 e_68 e_70 e_78 e_80 e_95 e_97) dX12_hand_115 (fun v_98 e_99 e_100 e_101 => ?_)
                have f_102 := o35_30 v_96.toInt.toNat (o35_369 e_6 e_11 e_12 e_13 c_15 e_19 e_24 e_25 e_26 c_28 c_31 e_47 e_49 e_56 e_58 e_68 e_70 e_78 e_80 e_95 e_97) (o35_370 e_6 e_11 e_12 e_13 c_15 e_19 e_24 e_25 e_26 c_28 c_31 e_47 e_49 e_56 e_58 e_68 e_70 e_78 e_80 e_95 e_97)
                have q_103 : v_98.toInt = v_71.toInt := congrArg Int32.toInt (e_99.symm.trans (Eq.trans (congrArg (aI ws_91 1) (o35_371 e_6 e_11 e_12 e_13 c_15 e_19 e_24 e_25 e_26 c_28 c_31 e_47 e_49 e_56 e_58 e_68 e_70 e_78 e_80 e_95 e_97)) (Eq.trans (Fr.aI u_92 kSM_1 (by decide)) e_72)))
                refine lv_iload_n C0.1 C0.2.1 dX12_hand_116 rfl (lv_at hl 3 rfl) ?_
                refine y_sub C0 (o35_372 e_33 e_35 e_37 e_42 e_43 e_44 c_45 (Int.le_trans f_75.1 e_73) (Int.le_trans e_74 f_75.2) c_76 (Int.le_trans f_85.1 e_83) (Int.le_trans e_84 f_85.2) e_87 e_89 c_90 (Int.le_trans f_102.1 e_100) (Int.le_trans e_101 f_102.2) q_103 (le_min v_98) (le_max v_98) (le_min a3) (le_max a3) (le_min r_41) (le_max r_41) (le_min v_71) (le_max v_71) (le_min v_81) (le_max v_81) (le_min v_86) (le_max v_86) (le_min v_88) (le_max v_88)) (o35_373 e_33 e_35 e_37 e_42 e_43 e_44 c_45 (Int.le_trans f_75.1 e_73) (Int.le_trans e_74 f_75.2) c_76 (Int.le_trans f_85.1 e_83) (Int.le_trans e_84 f_85.2) e_87 e_89 c_90 (Int.le_trans f_102.1 e_100) (Int.le_trans e_101 f_102.2) q_103 (le_min v_98) (le_max v_98) (le_min a3) (le_max a3) (le_min r_41) (le_max r_41) (le_min v_71) (le_max v_71) (le_min v_81) (le_max v_81) (le_min v_86) (le_max v_86) (le_min v_88) (le_max v_88)) dX12_hand_117 (fun v_104 e_105 => ?_)
                have f_108 := o35_265 v_96.toInt.toNat (o35_369 e_6 e_11 e_12 e_13 c_15 e_19 e_24 e_25 e_26 c_28 c_31 e_47 e_49 e_56 e_58 e_68 e_70 e_78 e_80 e_95 e_97) (o35_370 e_6 e_11 e_12 e_13 c_15 e_19 e_24 e_25 e_26 c_28 c_31 e_47 e_49 e_56 e_58 e_68 e_70 e_78 e_80 e_95 e_97)
                refine y_iast C0 h kSM_1 rfl (by decide) (o35_367 e_6 e_11 e_12 e_13 c_15 e_19 e_24 e_25 e_26 c_28 c_31 e_47 e_49 e_56 e_58 e_68 e_70 e_78 e_80 e_95 e_97) (o35_368 e_6 e_11 e_12 e_13 c_15 e_19 e_24 e_25 e_26 c_28 c_31 e_47 e_49 e_56 e_58 e_68 e_70 e_78 e_80 e_95 e_97) (Int.le_trans f_108.1 (o35_374 e_33 e_35 e_37 e_42 e_43 e_44 c_45 (Int.le_trans f_75.1 e_73) (Int.le_trans e_74 f_75.2) c_76 (Int.le_trans f_85.1 e_83) (Int.le_trans e_84 f_85.2) e_87 e_89 c_90 (Int.le_trans f_102.1 e_100) (Int.le_trans e_101 f_102.2) q_103 e_105)) (Int.le_trans (o35_375 e_33 e_35 e_37 e_42 e_43 e_44 c_45 (Int.le_trans f_75.1 e_73) (Int.le_trans e_74 f_75.2) c_76 (Int.le_trans f_85.1 e_83) (Int.le_trans e_84 f_85.2) e_87 e_89 c_90 (Int.le_trans f_102.1 e_100) (Int.le_trans e_101 f_102.2) q_103 e_105) f_108.2) dX12_hand_118 (fun H locs ws_106 h u_107 => ?_)
                refine lv_aload_n C0.1 C0.2.1 dX12_hand_119 rfl (lv_at hl 0 rfl) ?_
                refine ng_X12_all C0 h kSM_0 q_1439 dX12_hand_120 ?_
                refine y_c2 (n := 46) C0 (by decide) dX12_hand_123 (fun v_109 e_110 => ?_)
                refine lv_iload_n C0.1 C0.2.1 dX12_hand_125 rfl (lv_at hl 2 rfl) ?_
                refine y_add C0 (o35_379 e_6 e_11 e_12 e_13 c_15 e_19 e_24 e_25 e_26 c_28 c_31 e_47 e_49 e_56 e_58 e_68 e_70 e_78 e_80 e_95 e_97 e_110 (le_min v_109) (le_max v_109) (le_min a2) (le_max a2) (le_min a1) (le_max a1) (le_min r_10) (le_max r_10) (le_min r_23) (le_max r_23) (le_min v_46) (le_max v_46) (le_min v_48) (le_max v_48) (le_min v_55) (le_max v_55) (le_min v_57) (le_max v_57) (le_min v_67) (le_max v_67) (le_min v_69) (le_max v_69) (le_min v_77) (le_max v_77) (le_min v_79) (le_max v_79) (le_min v_94) (le_max v_94) (le_min v_96) (le_max v_96)) (o35_380 e_6 e_11 e_12 e_13 c_15 e_19 e_24 e_25 e_26 c_28 c_31 e_47 e_49 e_56 e_58 e_68 e_70 e_78 e_80 e_95 e_97 e_110 (le_min v_109) (le_max v_109) (le_min a2) (le_max a2) (le_min a1) (le_max a1) (le_min r_10) (le_max r_10) (le_min r_23) (le_max r_23) (le_min v_46) (le_max v_46) (le_min v_48) (le_max v_48) (le_min v_55) (le_max v_55) (le_min v_57) (le_max v_57) (le_min v_67) (le_max v_67) (le_min v_69) (le_max v_69) (le_min v_77) (le_max v_77) (le_min v_79) (le_max v_79) (le_min v_94) (le_max v_94) (le_min v_96) (le_max v_96)) dX12_hand_126 (fun v_111 e_112 => ?_)
                refine lv_dup2_11 C0.1 C0.2.1 dX12_hand_127 rfl rfl ?_
                refine y_iald C0 h kSM_1 rfl (by decide) (o35_381 e_6 e_11 e_12 e_13 c_15 e_19 e_24 e_25 e_26 c_28 c_31 e_47 e_49 e_56 e_58 e_68 e_70 e_78 e_80 e_95 e_97 e_110 e_112) (o35_382 e_6 e_11 e_12 e_13 c_15 e_19 e_24 e_25 e_26 c_28 c_31 e_47 e_49 e_56 e_58 e_68 e_70 e_78 e_80 e_95 e_97 e_110 e_112) dX12_hand_128 (fun v_113 e_114 e_115 e_116 => ?_)
                have f_117 := o35_30 v_111.toInt.toNat (o35_383 e_6 e_11 e_12 e_13 c_15 e_19 e_24 e_25 e_26 c_28 c_31 e_47 e_49 e_56 e_58 e_68 e_70 e_78 e_80 e_95 e_97 e_110 e_112) (o35_384 e_6 e_11 e_12 e_13 c_15 e_19 e_24 e_25 e_26 c_28 c_31 e_47 e_49 e_56 e_58 e_68 e_70 e_78 e_80 e_95 e_97 e_110 e_112)
                have q_118 : v_113.toInt = v_81.toInt := congrArg Int32.toInt (e_114.symm.trans (Eq.trans (congrArg (aI ws_106 1) (o35_386 e_6 e_11 e_12 e_13 c_15 e_19 e_24 e_25 e_26 c_28 c_31 e_47 e_49 e_56 e_58 e_68 e_70 e_78 e_80 e_95 e_97 e_110 e_112)) (Eq.trans (Eq.trans (u_107.2.2 v_79.toInt.toNat (o35_385 e_6 e_11 e_12 e_13 c_15 e_19 e_24 e_25 e_26 c_28 c_31 e_47 e_49 e_56 e_58 e_68 e_70 e_78 e_80 e_95 e_97 e_110 e_112)) (Fr.aI u_92 kSM_1 (by decide))) e_82)))
                refine lv_iload_n C0.1 C0.2.1 dX12_hand_129 rfl (lv_at hl 3 rfl) ?_
                refine y_add C0 (o35_387 e_33 e_35 e_37 e_42 e_43 e_44 c_45 (Int.le_trans f_75.1 e_73) (Int.le_trans e_74 f_75.2) c_76 (Int.le_trans f_85.1 e_83) (Int.le_trans e_84 f_85.2) e_87 e_89 c_90 (Int.le_trans f_102.1 e_100) (Int.le_trans e_101 f_102.2) q_103 e_105 (Int.le_trans f_117.1 e_115) (Int.le_trans e_116 f_117.2) q_118 (le_min v_113) (le_max v_113) (le_min a3) (le_max a3) (le_min r_41) (le_max r_41) (le_min v_71) (le_max v_71) (le_min v_81) (le_max v_81) (le_min v_86) (le_max v_86) (le_min v_88) (le_max v_88) (le_min v_98) (le_max v_98) (le_min v_104) (le_max v_104)) (o35_388 e_33 e_35 e_37 e_42 e_43 e_44 c_45 (Int.le_trans f_75.1 e_73) (Int.le_trans e_74 f_75.2) c_76 (Int.le_trans f_85.1 e_83) (Int.le_trans e_84 f_85.2) e_87 e_89 c_90 (Int.le_trans f_102.1 e_100) (Int.le_trans e_101 f_102.2) q_103 e_105 (Int.le_trans f_117.1 e_115) (Int.le_trans e_116 f_117.2) q_118 (le_min v_113) (le_max v_113) (le_min a3) (le_max a3) (le_min r_41) (le_max r_41) (le_min v_71) (le_max v_71) (le_min v_81) (le_max v_81) (le_min v_86) (le_max v_86) (le_min v_88) (le_max v_88) (le_min v_98) (le_max v_98) (le_min v_104) (le_max v_104)) dX12_hand_130 (fun v_119 e_120 => ?_)
                have f_123 := o35_265 v_111.toInt.toNat (o35_383 e_6 e_11 e_12 e_13 c_15 e_19 e_24 e_25 e_26 c_28 c_31 e_47 e_49 e_56 e_58 e_68 e_70 e_78 e_80 e_95 e_97 e_110 e_112) (o35_384 e_6 e_11 e_12 e_13 c_15 e_19 e_24 e_25 e_26 c_28 c_31 e_47 e_49 e_56 e_58 e_68 e_70 e_78 e_80 e_95 e_97 e_110 e_112)
                refine y_iast C0 h kSM_1 rfl (by decide) (o35_381 e_6 e_11 e_12 e_13 c_15 e_19 e_24 e_25 e_26 c_28 c_31 e_47 e_49 e_56 e_58 e_68 e_70 e_78 e_80 e_95 e_97 e_110 e_112) (o35_382 e_6 e_11 e_12 e_13 c_15 e_19 e_24 e_25 e_26 c_28 c_31 e_47 e_49 e_56 e_58 e_68 e_70 e_78 e_80 e_95 e_97 e_110 e_112) (Int.le_trans f_123.1 (o35_389 e_33 e_35 e_37 e_42 e_43 e_44 c_45 (Int.le_trans f_75.1 e_73) (Int.le_trans e_74 f_75.2) c_76 (Int.le_trans f_85.1 e_83) (Int.le_trans e_84 f_85.2) e_87 e_89 c_90 (Int.le_trans f_102.1 e_100) (Int.le_trans e_101 f_102.2) q_103 e_105 (Int.le_trans f_117.1 e_115) (Int.le_trans e_116 f_117.2) q_118 e_120)) (Int.le_trans (o35_390 e_33 e_35 e_37 e_42 e_43 e_44 c_45 (Int.le_trans f_75.1 e_73) (Int.le_trans e_74 f_75.2) c_76 (Int.le_trans f_85.1 e_83) (Int.le_trans e_84 f_85.2) e_87 e_89 c_90 (Int.le_trans f_102.1 e_100) (Int.le_trans e_101 f_102.2) q_103 e_105 (Int.le_trans f_117.1 e_115) (Int.le_trans e_116 f_117.2) q_118 e_120) f_123.2) dX12_hand_131 (fun H locs ws_121 h u_122 => ?_)
                refine lv_aload_n C0.1 C0.2.1 dX12_hand_132 rfl (lv_at hl 0 rfl) ?_
                refine y_cv h (y_rV (As := []) (rest := []) C0 hZ h (c_X12_notes l G Z ad _ h.2) k_X12_notes q_1788 q_90 q_1786 kSM_0 rfl rfl rfl hl.1 rfl rfl (Nat.le_of_ble_eq_true rfl) dX12_hand_133 ⟨Nat.le_of_ble_eq_true rfl, Nat.le_of_ble_eq_true rfl⟩ ⟨Nat.le_of_ble_eq_true rfl, Nat.le_of_ble_eq_true rfl⟩) (fun H locs ws_124 h u_125 p_126 => ?_)
                obtain ⟨e_127, e_128⟩ := p_126
                refine lv_aload_n C0.1 C0.2.1 dX12_hand_136 rfl (lv_at hl 0 rfl) ?_
                refine ng_X12_all C0 h kSM_0 q_1439 dX12_hand_137 ?_
                refine y_c2 (n := 46) C0 (by decide) dX12_hand_140 (fun v_129 e_130 => ?_)
                refine lv_iload_n C0.1 C0.2.1 dX12_hand_142 rfl (lv_at hl 2 rfl) ?_
                refine y_add C0 (o35_394 e_6 e_11 e_12 e_13 c_15 e_19 e_24 e_25 e_26 c_28 c_31 e_47 e_49 e_56 e_58 e_68 e_70 e_78 e_80 e_95 e_97 e_110 e_112 e_130 (le_min v_129) (le_max v_129) (le_min a2) (le_max a2) (le_min a1) (le_max a1) (le_min r_10) (le_max r_10) (le_min r_23) (le_max r_23) (le_min v_46) (le_max v_46) (le_min v_48) (le_max v_48) (le_min v_55) (le_max v_55) (le_min v_57) (le_max v_57) (le_min v_67) (le_max v_67) (le_min v_69) (le_max v_69) (le_min v_77) (le_max v_77) (le_min v_79) (le_max v_79) (le_min v_94) (le_max v_94) (le_min v_96) (le_max v_96) (le_min v_109) (le_max v_109) (le_min v_111) (le_max v_111)) (o35_395 e_6 e_11 e_12 e_13 c_15 e_19 e_24 e_25 e_26 c_28 c_31 e_47 e_49 e_56 e_58 e_68 e_70 e_78 e_80 e_95 e_97 e_110 e_112 e_130 (le_min v_129) (le_max v_129) (le_min a2) (le_max a2) (le_min a1) (le_max a1) (le_min r_10) (le_max r_10) (le_min r_23) (le_max r_23) (le_min v_46) (le_max v_46) (le_min v_48) (le_max v_48) (le_min v_55) (le_max v_55) (le_min v_57) (le_max v_57) (le_min v_67) (le_max v_67) (le_min v_69) (le_max v_69) (le_min v_77) (le_max v_77) (le_min v_79) (le_max v_79) (le_min v_94) (le_max v_94) (le_min v_96) (le_max v_96) (le_min v_109) (le_max v_109) (le_min v_111) (le_max v_111)) dX12_hand_143 (fun v_131 e_132 => ?_)
                refine y_iald C0 h kSM_1 rfl (by decide) (o35_396 e_6 e_11 e_12 e_13 c_15 e_19 e_24 e_25 e_26 c_28 c_31 e_47 e_49 e_56 e_58 e_68 e_70 e_78 e_80 e_95 e_97 e_110 e_112 e_130 e_132) (o35_397 e_6 e_11 e_12 e_13 c_15 e_19 e_24 e_25 e_26 c_28 c_31 e_47 e_49 e_56 e_58 e_68 e_70 e_78 e_80 e_95 e_97 e_110 e_112 e_130 e_132) dX12_hand_144 (fun v_133 e_134 e_135 e_136 => ?_)
                have f_137 := o35_30 v_131.toInt.toNat (o35_398 e_6 e_11 e_12 e_13 c_15 e_19 e_24 e_25 e_26 c_28 c_31 e_47 e_49 e_56 e_58 e_68 e_70 e_78 e_80 e_95 e_97 e_110 e_112 e_130 e_132) (o35_399 e_6 e_11 e_12 e_13 c_15 e_19 e_24 e_25 e_26 c_28 c_31 e_47 e_49 e_56 e_58 e_68 e_70 e_78 e_80 e_95 e_97 e_110 e_112 e_130 e_132)
                rw [hQ]
                exact y_iret C0 h (Fr.tr (Fr.tr (Fr.tr (Fr.tr (Fr.tr (Fr.tr (Fr.tr (Fr.up u_4.1 kSM_0 (by decide)) (Fr.mono u_8 (by decide))) (Fr.mono u_21 (by decide))) (Fr.mono u_39 (by decide))) (Fr.mono u_92 (by decide))) (Fr.up u_107.1 kSM_1 (by decide))) (Fr.up u_122.1 kSM_1 (by decide))) (Fr.mono u_125 (by decide))) ⟨(o35_400 (Int.le_trans f_137.1 e_135) (Int.le_trans e_136 f_137.2)), (o35_401 (Int.le_trans f_137.1 e_135) (Int.le_trans e_136 f_137.2)), (Pa.tr (Pa.tr (Pa.tr (Pa.tr (Pa.tr (Pa.tr (Pa.tr (Pa.ud u_4.1 (by decide)) (Pa.fr u_8 (by decide))) (Pa.fr u_21 (by decide))) (Pa.fr u_39 (by decide))) (Pa.fr u_92 (by decide))) (Pa.st u_107 (o35_377 e_6 e_11 e_12 e_13 c_15 e_19 e_24 e_25 e_26 c_28 c_31 e_47 e_49 e_56 e_58 e_68 e_70 e_78 e_80 e_95 e_97) (o35_378 e_6 e_11 e_12 e_13 c_15 e_19 e_24 e_25 e_26 c_28 c_31 e_47 e_49 e_56 e_58 e_68 e_70 e_78 e_80 e_95 e_97))) (Pa.st u_122 (o35_392 e_6 e_11 e_12 e_13 c_15 e_19 e_24 e_25 e_26 c_28 c_31 e_47 e_49 e_56 e_58 e_68 e_70 e_78 e_80 e_95 e_97 e_110 e_112) (o35_393 e_6 e_11 e_12 e_13 c_15 e_19 e_24 e_25 e_26 c_28 c_31 e_47 e_49 e_56 e_58 e_68 e_70 e_78 e_80 e_95 e_97 e_110 e_112))) e_127), (Pw.tr (Pw.tr (Pw.tr (Pw.tr (Pw.tr (Pw.tr (Pw.tr (Pw.ud u_4.1 (by decide)) (Pw.fr u_8 (by decide))) (Pw.fr u_21 (by decide))) (Pw.fr u_39 (by decide))) (Pw.fr u_92 (by decide))) (Pw.st u_107 (o35_376 e_6 e_11 e_12 e_13 c_15 e_19 e_24 e_25 e_26 c_28 c_31 e_47 e_49 e_56 e_58 e_68 e_70 e_78 e_80 e_95 e_97))) (Pw.st u_122 (o35_391 e_6 e_11 e_12 e_13 c_15 e_19 e_24 e_25 e_26 c_28 c_31 e_47 e_49 e_56 e_58 e_68 e_70 e_78 e_80 e_95 e_97 e_110 e_112))) e_128)⟩ dX12_hand_145
              · -- 96
                refine y_c2 (n := (-4)) C0 (by decide) dX12_hand_99 (fun v_138 e_139 => ?_)
                rw [hQ]
                exact y_iret C0 h (Fr.tr (Fr.tr (Fr.tr (Fr.up u_4.1 kSM_0 (by decide)) (Fr.mono u_8 (by decide))) (Fr.mono u_21 (by decide))) (Fr.mono u_39 (by decide))) ⟨(o35_402 e_139), (o35_403 e_139), (Pa.tr (Pa.tr (Pa.tr (Pa.ud u_4.1 (by decide)) (Pa.fr u_8 (by decide))) (Pa.fr u_21 (by decide))) (Pa.fr u_39 (by decide))), (Pw.tr (Pw.tr (Pw.tr (Pw.ud u_4.1 (by decide)) (Pw.fr u_8 (by decide))) (Pw.fr u_21 (by decide))) (Pw.fr u_39 (by decide)))⟩ dX12_hand_101
            · -- 77
              refine y_c2 (n := (-5)) C0 (by decide) dX12_hand_80 (fun v_140 e_141 => ?_)
              rw [hQ]
              exact y_iret C0 h (Fr.tr (Fr.tr (Fr.tr (Fr.up u_4.1 kSM_0 (by decide)) (Fr.mono u_8 (by decide))) (Fr.mono u_21 (by decide))) (Fr.mono u_39 (by decide))) ⟨(o35_349 e_141), (o35_350 e_141), (Pa.tr (Pa.tr (Pa.tr (Pa.ud u_4.1 (by decide)) (Pa.fr u_8 (by decide))) (Pa.fr u_21 (by decide))) (Pa.fr u_39 (by decide))), (Pw.tr (Pw.tr (Pw.tr (Pw.ud u_4.1 (by decide)) (Pw.fr u_8 (by decide))) (Pw.fr u_21 (by decide))) (Pw.fr u_39 (by decide)))⟩ dX12_hand_82
        · -- 40
          refine y_c2 (n := (-3)) C0 (by decide) dX12_hand_43 (fun v_142 e_143 => ?_)
          rw [hQ]
          exact y_iret C0 h (Fr.tr (Fr.tr (Fr.tr (Fr.up u_4.1 kSM_0 (by decide)) (Fr.mono u_8 (by decide))) (Fr.mono u_21 (by decide))) (Fr.mono u_39 (by decide))) ⟨(o35_404 e_143), (o35_405 e_143), (Pa.tr (Pa.tr (Pa.tr (Pa.ud u_4.1 (by decide)) (Pa.fr u_8 (by decide))) (Pa.fr u_21 (by decide))) (Pa.fr u_39 (by decide))), (Pw.tr (Pw.tr (Pw.tr (Pw.ud u_4.1 (by decide)) (Pw.fr u_8 (by decide))) (Pw.fr u_21 (by decide))) (Pw.fr u_39 (by decide)))⟩ dX12_hand_45
      · -- 25
        refine y_c2 (n := (-2)) C0 (by decide) dX12_hand_28 (fun v_144 e_145 => ?_)
        rw [hQ]
        exact y_iret C0 h (Fr.tr (Fr.tr (Fr.up u_4.1 kSM_0 (by decide)) (Fr.mono u_8 (by decide))) (Fr.mono u_21 (by decide))) ⟨(o35_335 e_145), (o35_336 e_145), (Pa.tr (Pa.tr (Pa.ud u_4.1 (by decide)) (Pa.fr u_8 (by decide))) (Pa.fr u_21 (by decide))), (Pw.tr (Pw.tr (Pw.ud u_4.1 (by decide)) (Pw.fr u_8 (by decide))) (Pw.fr u_21 (by decide)))⟩ dX12_hand_30
set_option maxHeartbeats 4000000 in
set_option maxRecDepth 100000 in
theorem c_X12_freeMany (l : Launch) (G : GG) (Z : RZ) (ad : Nat → Nat) (ws0 : va_W) (hT : Ty G (SM tt) ad ws0) : Mq l yX12_freeMany cX12_freeMany 3 (some .int) 3 G Z [.ref (ad 0)] ws0 (PI G (SM tt) ad [] ws0 (fun r u => True)) := by
  refine Mq.start (by decide) (Nat.le_of_ble_eq_true rfl) ?_
  intro p e s m below meth c A ls C0 hZ h hl
  have hl : lv_has ls 3 [(0, .ref (ad 0))] := hl
  have h : Wt G (SM tt) ad A s s.heap [] ws0 := ⟨h, hT⟩
  obtain ⟨args, hargs⟩ : ∃ z, z = ([.ref (ad 0)] : List Value).toArray := ⟨_, rfl⟩
  rw [← hargs] at C0 ⊢
  have C0 : Cx p s m args meth c RX12 cX12_freeMany 3 (some .int) := C0
  obtain ⟨Q, hQ⟩ : ∃ z, z = MQ below ((PI G (SM tt) ad [] ws0 (fun r u => True)) A) args s 0 0 A := ⟨_, rfl⟩
  rw [← hQ]
  refine y_c1 (n := 0) C0 (by decide) dX12_freeMany_0 (fun v_1 e_2 => ?_)
  refine lv_istore_n (lv' := [(1, .int v_1), (0, .ref (ad 0))]) C0.1 C0.2.1 dX12_freeMany_1 rfl hl (by decide) rfl (fun ls hl => ?_)
  refine y_c1 (n := 0) C0 (by decide) dX12_freeMany_2 (fun v_3 e_4 => ?_)
  refine lv_istore_n (lv' := [(2, .int v_3), (1, .int v_1), (0, .ref (ad 0))]) C0.1 C0.2.1 dX12_freeMany_3 rfl hl (by decide) rfl (fun ls hl => ?_)
  have lp_9 : ∀ (n_11 : Nat) (x2_5 : Int32) (x1_6 : Int32) (H : Heap) (locs : List Loc) (ls : Array Slot) (ws_7 : va_W), 25 - x2_5.toInt < (n_11 : Int) → 0 ≤ x2_5.toInt → x2_5.toInt ≤ 25 → Wt G (SM tt) ad A s H locs ws_7 → Fr (SM tt) [] ws0 ws_7 → lv_has ls 3 [(2, .int x2_5), (1, .int x1_6), (0, .ref (ad 0))] → W p l e (rmd 3 0 0) s m args below meth c H locs 0 0 Q (F0 m 4 ls []) := by
    intro n_11
    induction n_11 with
    | zero => intro x2_5 x1_6 H locs ls ws_7 hn_12 b_13 b_14 h hF_8 hl; exact ((o35_406 b_13 b_14 hn_12)).elim
    | succ n_11 ih_10 =>
      intro x2_5 x1_6 H locs ls ws_7 hn_12 b_13 b_14 h hF_8 hl
      refine lv_iload_n C0.1 C0.2.1 dX12_freeMany_4 rfl (lv_at hl 0 rfl) ?_
      refine lv_aload_n C0.1 C0.2.1 dX12_freeMany_5 rfl (lv_at hl 2 rfl) ?_
      refine y_ci h (y_rV (As := []) (rest := [.int x2_5]) C0 hZ h (c_X12_crossings l G Z ad _ h.2) k_X12_crossings q_1705 q_79 q_1703 kSM_0 rfl rfl rfl hl.1 rfl rfl (Nat.le_of_ble_eq_true rfl) dX12_freeMany_6 ⟨Nat.le_of_ble_eq_true rfl, Nat.le_of_ble_eq_true rfl⟩ ⟨Nat.le_of_ble_eq_true rfl, Nat.le_of_ble_eq_true rfl⟩) (fun r_18 H locs ws_15 h u_16 p_17 => ?_)
      obtain ⟨e_19, e_20, e_21⟩ := p_17
      refine y_icmp_ge (tgt := 35) C0 dX12_freeMany_9 (by decide) (fun c_22 => ?_) (fun c_22 => ?_)
      · -- 9
        refine lv_iload_n C0.1 C0.2.1 dX12_freeMany_35 rfl (lv_at hl 1 rfl) ?_
        rw [hQ]
        exact y_iret C0 h (Fr.tr hF_8 u_16) trivial dX12_freeMany_36
      · -- 9
        refine lv_iload_n C0.1 C0.2.1 dX12_freeMany_12 rfl (lv_at hl 1 rfl) ?_
        refine lv_aload_n C0.1 C0.2.1 dX12_freeMany_13 rfl (lv_at hl 2 rfl) ?_
        refine lv_iload_n C0.1 C0.2.1 dX12_freeMany_14 rfl (lv_at hl 0 rfl) ?_
        refine y_c1 (n := 0) C0 (by decide) dX12_freeMany_15 (fun v_23 e_24 => ?_)
        refine y_ci h (y_rV (As := [.int x2_5, .int v_23]) (rest := [.int x1_6]) C0 hZ h (c_X12_isFreeIn l G Z ad _ h.2 x2_5 v_23 (o35_407 b_13 b_14 hn_12 e_19 e_20 c_22) (o35_408 b_13 b_14 hn_12 e_19 e_20 c_22)) k_X12_isFreeIn q_1741 q_84 q_1739 kSM_0 rfl rfl rfl hl.1 rfl rfl (Nat.le_of_ble_eq_true rfl) dX12_freeMany_16 ⟨Nat.le_of_ble_eq_true rfl, Nat.le_of_ble_eq_true rfl⟩ ⟨Nat.le_of_ble_eq_true rfl, Nat.le_of_ble_eq_true rfl⟩) (fun r_28 H locs ws_25 h u_26 p_27 => ?_)
        obtain ⟨e_29, e_30, e_31⟩ := p_27
        refine y_if_eq (tgt := 26) C0 dX12_freeMany_19 (by decide) (fun c_32 => ?_) (fun c_32 => ?_)
        · -- 19
          refine y_c1 (n := 0) C0 (by decide) dX12_freeMany_26 (fun v_33 e_34 => ?_)
          refine y_add C0 (o35_409 e_34 (le_min x1_6) (le_max x1_6) (le_min v_33) (le_max v_33)) (o35_410 e_34 (le_min x1_6) (le_max x1_6) (le_min v_33) (le_max v_33)) dX12_freeMany_27 (fun v_35 e_36 => ?_)
          refine lv_istore_n (lv' := [(1, .int v_35), (2, .int x2_5), (0, .ref (ad 0))]) C0.1 C0.2.1 dX12_freeMany_28 rfl hl (by decide) rfl (fun ls hl => ?_)
          refine y_inc (kp := 1) (n := 1) (fun v_37 => [(2, .int v_37), (1, .int v_35), (0, .ref (ad 0))]) C0 hl rfl (by decide) (by decide) (fun _ => rfl) (o35_411 b_13 b_14 hn_12 e_19 e_20 c_22 (le_min x2_5) (le_max x2_5) (le_min r_18) (le_max r_18)) (o35_412 b_13 b_14 hn_12 e_19 e_20 c_22 (le_min x2_5) (le_max x2_5) (le_min r_18) (le_max r_18)) dX12_freeMany_29 (fun v_37 ls e_38 hl => ?_)
          refine lv_goto (tgt := 4) C0.1 C0.2.1 dX12_freeMany_32 (by decide) ?_
          exact ih_10 v_37 v_35 _ _ _ _ (o35_413 b_13 b_14 hn_12 e_19 e_20 c_22 e_38) (o35_414 b_13 b_14 hn_12 e_19 e_20 c_22 e_38) (o35_415 b_13 b_14 hn_12 e_19 e_20 c_22 e_38) h (Fr.tr (Fr.tr hF_8 u_16) u_26) (lv_sub hl [0, 1, 2] rfl)
        · -- 19
          refine y_c1 (n := 1) C0 (by decide) dX12_freeMany_22 (fun v_39 e_40 => ?_)
          refine lv_goto (tgt := 27) C0.1 C0.2.1 dX12_freeMany_23 (by decide) ?_
          refine y_iaddU C0 dX12_freeMany_27 (fun v_41 => ?_)
          refine lv_istore_n (lv' := [(1, .int v_41), (2, .int x2_5), (0, .ref (ad 0))]) C0.1 C0.2.1 dX12_freeMany_28 rfl hl (by decide) rfl (fun ls hl => ?_)
          refine y_inc (kp := 1) (n := 1) (fun v_42 => [(2, .int v_42), (1, .int v_41), (0, .ref (ad 0))]) C0 hl rfl (by decide) (by decide) (fun _ => rfl) (o35_411 b_13 b_14 hn_12 e_19 e_20 c_22 (le_min x2_5) (le_max x2_5) (le_min r_18) (le_max r_18)) (o35_412 b_13 b_14 hn_12 e_19 e_20 c_22 (le_min x2_5) (le_max x2_5) (le_min r_18) (le_max r_18)) dX12_freeMany_29 (fun v_42 ls e_43 hl => ?_)
          refine lv_goto (tgt := 4) C0.1 C0.2.1 dX12_freeMany_32 (by decide) ?_
          exact ih_10 v_42 v_41 _ _ _ _ (o35_413 b_13 b_14 hn_12 e_19 e_20 c_22 e_43) (o35_414 b_13 b_14 hn_12 e_19 e_20 c_22 e_43) (o35_415 b_13 b_14 hn_12 e_19 e_20 c_22 e_43) h (Fr.tr (Fr.tr hF_8 u_16) u_26) (lv_sub hl [0, 1, 2] rfl)
  exact lp_9 ((25 - v_3.toInt + 1).toNat) v_3 v_1 _ _ _ _ (o35_416 e_4) (o35_50 e_4) (o35_417 e_4) h Fr.rf (lv_sub hl [0, 1, 2] rfl)
set_option maxHeartbeats 4000000 in
set_option maxRecDepth 100000 in
theorem c_X12_fog (l : Launch) (G : GG) (Z : RZ) (ad : Nat → Nat) (ws0 : va_W) (hT : Ty G (SM tt) ad ws0) (a1 : Int32) (a2 : Int32) (hJ : J ws0) : Mq l yX12_fog cX12_fog 3 (some .int) 4 G Z [.ref (ad 0), .int a1, .int a2] ws0 (PI G (SM tt) ad [0, 1, 6] ws0 (fun r u => (Pa ws0 u) ∧ (Pw ws0 u))) := by
  refine Mq.start (by decide) (Nat.le_of_ble_eq_true rfl) ?_
  intro p e s m below meth c A ls C0 hZ h hl
  have hl : lv_has ls 3 [(0, .ref (ad 0)), (1, .int a1), (2, .int a2)] := hl
  have h : Wt G (SM tt) ad A s s.heap [] ws0 := ⟨h, hT⟩
  obtain ⟨args, hargs⟩ : ∃ z, z = ([.ref (ad 0), .int a1, .int a2] : List Value).toArray := ⟨_, rfl⟩
  rw [← hargs] at C0 ⊢
  have C0 : Cx p s m args meth c RX12 cX12_fog 3 (some .int) := C0
  obtain ⟨Q, hQ⟩ : ∃ z, z = MQ below ((PI G (SM tt) ad [0, 1, 6] ws0 (fun r u => (Pa ws0 u) ∧ (Pw ws0 u))) A) args s 0 0 A := ⟨_, rfl⟩
  rw [← hQ]
  refine lv_aload_n C0.1 C0.2.1 dX12_fog_0 rfl (lv_at hl 0 rfl) ?_
  refine y_c1 (n := 0) C0 (by decide) dX12_fog_1 (fun v_1 e_2 => ?_)
  refine np_X12_thrown C0 h kSM_0 q_1438 (le_min v_1) (le_max v_1) dX12_fog_2 (fun H locs ws_3 h u_4 => ?_)
  refine lv_aload_n C0.1 C0.2.1 dX12_fog_5 rfl (lv_at hl 0 rfl) ?_
  refine lv_iload_n C0.1 C0.2.1 dX12_fog_6 rfl (lv_at hl 1 rfl) ?_
  refine y_i2l C0 dX12_fog_7 (fun w_5 e_6 => ?_)
  refine y_ci h (y_rV (As := [.long w_5]) (rest := []) C0 hZ h (c_X12_isCrossing l G Z ad _ h.2 w_5) k_X12_isCrossing q_1701 q_78 q_1699 kSM_0 rfl rfl rfl hl.1 rfl rfl (Nat.le_of_ble_eq_true rfl) dX12_fog_8 ⟨Nat.le_of_ble_eq_true rfl, Nat.le_of_ble_eq_true rfl⟩ ⟨Nat.le_of_ble_eq_true rfl, Nat.le_of_ble_eq_true rfl⟩) (fun r_10 H locs ws_7 h u_8 p_9 => ?_)
  obtain ⟨e_11, e_12, e_13, e_14⟩ := p_9
  refine y_if_ne (tgt := 17) C0 dX12_fog_11 (by decide) (fun c_15 => ?_) (fun c_15 => ?_)
  · -- 11
    refine lv_iload_n C0.1 C0.2.1 dX12_fog_17 rfl (lv_at hl 2 rfl) ?_
    refine y_i2l C0 dX12_fog_18 (fun w_16 e_17 => ?_)
    refine y_lc (v := 1) C0 (by decide) dX12_fog_19 (fun w_18 e_19 => ?_)
    refine y_lc2 (n := 99) C0 q_1830 (by decide) dX12_fog_20 (fun w_20 e_21 => ?_)
    refine y_ci h (y_rS (As := [.long w_16, .long w_18, .long w_20]) (rest := []) C0 hZ h (c_X12_within l G Z ad _ h.2 w_16 w_18 w_20) k_X12_within q_1580 q_1579 hl.1 rfl rfl (Nat.le_of_ble_eq_true rfl) dX12_fog_23 ⟨Nat.le_of_ble_eq_true rfl, Nat.le_of_ble_eq_true rfl⟩ ⟨Nat.le_of_ble_eq_true rfl, Nat.le_of_ble_eq_true rfl⟩) (fun r_25 H locs ws_22 h u_23 p_24 => ?_)
    obtain ⟨e_26, e_27, e_28⟩ := p_24
    refine y_if_ne (tgt := 32) C0 dX12_fog_26 (by decide) (fun c_29 => ?_) (fun c_29 => ?_)
    · -- 26
      refine lv_aload_n C0.1 C0.2.1 dX12_fog_32 rfl (lv_at hl 0 rfl) ?_
      refine y_cv h (y_rV (As := []) (rest := []) C0 hZ h (c_X12_keeps l G Z ad _ h.2) k_X12_keeps q_1777 q_88 q_1775 kSM_0 rfl rfl rfl hl.1 rfl rfl (Nat.le_of_ble_eq_true rfl) dX12_fog_33 ⟨Nat.le_of_ble_eq_true rfl, Nat.le_of_ble_eq_true rfl⟩ ⟨Nat.le_of_ble_eq_true rfl, Nat.le_of_ble_eq_true rfl⟩) (fun H locs ws_30 h u_31 p_32 => ?_)
      refine lv_aload_n C0.1 C0.2.1 dX12_fog_36 rfl (lv_at hl 0 rfl) ?_
      refine ng_X12_all C0 h kSM_0 q_1439 dX12_fog_37 ?_
      refine y_c2 (n := 86) C0 (by decide) dX12_fog_40 (fun v_33 e_34 => ?_)
      refine lv_iload_n C0.1 C0.2.1 dX12_fog_42 rfl (lv_at hl 1 rfl) ?_
      refine y_add C0 (o35_56 e_6 e_11 e_12 e_13 c_15 e_34 (le_min v_33) (le_max v_33) (le_min a1) (le_max a1) (le_min r_10) (le_max r_10)) (o35_57 e_6 e_11 e_12 e_13 c_15 e_34 (le_min v_33) (le_max v_33) (le_min a1) (le_max a1) (le_min r_10) (le_max r_10)) dX12_fog_43 (fun v_35 e_36 => ?_)
      refine lv_aload_n C0.1 C0.2.1 dX12_fog_44 rfl (lv_at hl 0 rfl) ?_
      refine ng_X12_all C0 h kSM_0 q_1439 dX12_fog_45 ?_
      refine y_c2 (n := 111) C0 (by decide) dX12_fog_48 (fun v_37 e_38 => ?_)
      refine y_iald C0 h kSM_1 rfl (by decide) (o35_60 e_38) (o35_61 e_38) dX12_fog_50 (fun v_39 e_40 e_41 e_42 => ?_)
      have e_43 : aI ws_30 1 111 = v_39 := (congrArg (aI ws_30 1) (ix_c (c := 111) (o35_62 e_38))).symm.trans e_40
      refine lv_iload_n C0.1 C0.2.1 dX12_fog_51 rfl (lv_at hl 2 rfl) ?_
      refine y_iaddU C0 dX12_fog_52 (fun v_44 => ?_)
      have f_47 := o35_418 v_35.toInt.toNat (o35_419 e_6 e_11 e_12 e_13 c_15 e_34 e_36) (o35_420 e_6 e_11 e_12 e_13 c_15 e_34 e_36)
      refine y_iast C0 h kSM_1 rfl (by decide) (o35_58 e_6 e_11 e_12 e_13 c_15 e_34 e_36) (o35_59 e_6 e_11 e_12 e_13 c_15 e_34 e_36) (Int.le_trans f_47.1 (le_min v_44)) (Int.le_trans (le_max v_44) f_47.2) dX12_fog_53 (fun H locs ws_45 h u_46 => ?_)
      refine lv_aload_n C0.1 C0.2.1 dX12_fog_54 rfl (lv_at hl 0 rfl) ?_
      refine y_cv h (y_rV (As := []) (rest := []) C0 hZ h (c_X12_notes l G Z ad _ h.2) k_X12_notes q_1788 q_90 q_1786 kSM_0 rfl rfl rfl hl.1 rfl rfl (Nat.le_of_ble_eq_true rfl) dX12_fog_55 ⟨Nat.le_of_ble_eq_true rfl, Nat.le_of_ble_eq_true rfl⟩ ⟨Nat.le_of_ble_eq_true rfl, Nat.le_of_ble_eq_true rfl⟩) (fun H locs ws_48 h u_49 p_50 => ?_)
      obtain ⟨e_51, e_52⟩ := p_50
      refine lv_aload_n C0.1 C0.2.1 dX12_fog_58 rfl (lv_at hl 0 rfl) ?_
      refine y_ci h (y_rV (As := []) (rest := []) C0 hZ h (c_X12_freeMany l G Z ad _ h.2) k_X12_freeMany q_1837 q_96 q_1835 kSM_0 rfl rfl rfl hl.1 rfl rfl (Nat.le_of_ble_eq_true rfl) dX12_fog_59 ⟨Nat.le_of_ble_eq_true rfl, Nat.le_of_ble_eq_true rfl⟩ ⟨Nat.le_of_ble_eq_true rfl, Nat.le_of_ble_eq_true rfl⟩) (fun r_56 H locs ws_53 h u_54 p_55 => ?_)
      rw [hQ]
      exact y_iret C0 h (Fr.tr (Fr.tr (Fr.tr (Fr.tr (Fr.tr (Fr.tr (Fr.up u_4.1 kSM_0 (by decide)) (Fr.mono u_8 (by decide))) (Fr.mono u_23 (by decide))) (Fr.mono u_31 (by decide))) (Fr.up u_46.1 kSM_1 (by decide))) (Fr.mono u_49 (by decide))) (Fr.mono u_54 (by decide))) ⟨(Pa.tr (Pa.tr (Pa.tr (Pa.tr (Pa.tr (Pa.tr (Pa.ud u_4.1 (by decide)) (Pa.fr u_8 (by decide))) (Pa.fr u_23 (by decide))) (Pa.fr u_31 (by decide))) (Pa.st u_46 (o35_422 e_6 e_11 e_12 e_13 c_15 e_34 e_36) (o35_423 e_6 e_11 e_12 e_13 c_15 e_34 e_36))) e_51) (Pa.fr u_54 (by decide))), (Pw.tr (Pw.tr (Pw.tr (Pw.tr (Pw.tr (Pw.tr (Pw.ud u_4.1 (by decide)) (Pw.fr u_8 (by decide))) (Pw.fr u_23 (by decide))) (Pw.fr u_31 (by decide))) (Pw.st u_46 (o35_421 e_6 e_11 e_12 e_13 c_15 e_34 e_36))) e_52) (Pw.fr u_54 (by decide)))⟩ dX12_fog_62
    · -- 26
      refine y_c2 (n := (-3)) C0 (by decide) dX12_fog_29 (fun v_57 e_58 => ?_)
      rw [hQ]
      exact y_iret C0 h (Fr.tr (Fr.tr (Fr.up u_4.1 kSM_0 (by decide)) (Fr.mono u_8 (by decide))) (Fr.mono u_23 (by decide))) ⟨(Pa.tr (Pa.tr (Pa.ud u_4.1 (by decide)) (Pa.fr u_8 (by decide))) (Pa.fr u_23 (by decide))), (Pw.tr (Pw.tr (Pw.ud u_4.1 (by decide)) (Pw.fr u_8 (by decide))) (Pw.fr u_23 (by decide)))⟩ dX12_fog_31
  · -- 11
    refine y_c2 (n := (-2)) C0 (by decide) dX12_fog_14 (fun v_59 e_60 => ?_)
    rw [hQ]
    exact y_iret C0 h (Fr.tr (Fr.up u_4.1 kSM_0 (by decide)) (Fr.mono u_8 (by decide))) ⟨(Pa.tr (Pa.ud u_4.1 (by decide)) (Pa.fr u_8 (by decide))), (Pw.tr (Pw.ud u_4.1 (by decide)) (Pw.fr u_8 (by decide)))⟩ dX12_fog_16
set_option maxHeartbeats 4000000 in
set_option maxRecDepth 100000 in
theorem c_X12_hours (l : Launch) (G : GG) (Z : RZ) (ad : Nat → Nat) (ws0 : va_W) (hT : Ty G (SM tt) ad ws0) (a1 : Int32) (hJ : J ws0) : Mq l yX12_hours cX12_hours 2 (some .int) 2 G Z [.ref (ad 0), .int a1] ws0 (PI G (SM tt) ad [0, 1, 6] ws0 (fun r u => (Pa ws0 u) ∧ (Pw ws0 u))) := by
  refine Mq.start (by decide) (Nat.le_of_ble_eq_true rfl) ?_
  intro p e s m below meth c A ls C0 hZ h hl
  have hl : lv_has ls 2 [(0, .ref (ad 0)), (1, .int a1)] := hl
  have h : Wt G (SM tt) ad A s s.heap [] ws0 := ⟨h, hT⟩
  obtain ⟨args, hargs⟩ : ∃ z, z = ([.ref (ad 0), .int a1] : List Value).toArray := ⟨_, rfl⟩
  rw [← hargs] at C0 ⊢
  have C0 : Cx p s m args meth c RX12 cX12_hours 2 (some .int) := C0
  obtain ⟨Q, hQ⟩ : ∃ z, z = MQ below ((PI G (SM tt) ad [0, 1, 6] ws0 (fun r u => (Pa ws0 u) ∧ (Pw ws0 u))) A) args s 0 0 A := ⟨_, rfl⟩
  rw [← hQ]
  refine lv_aload_n C0.1 C0.2.1 dX12_hours_0 rfl (lv_at hl 0 rfl) ?_
  refine y_c1 (n := 0) C0 (by decide) dX12_hours_1 (fun v_1 e_2 => ?_)
  refine np_X12_thrown C0 h kSM_0 q_1438 (le_min v_1) (le_max v_1) dX12_hours_2 (fun H locs ws_3 h u_4 => ?_)
  refine lv_iload_n C0.1 C0.2.1 dX12_hours_5 rfl (lv_at hl 1 rfl) ?_
  refine y_i2l C0 dX12_hours_6 (fun w_5 e_6 => ?_)
  refine y_lc (v := 1) C0 (by decide) dX12_hours_7 (fun w_7 e_8 => ?_)
  refine y_lc2 (n := 99) C0 q_1830 (by decide) dX12_hours_8 (fun w_9 e_10 => ?_)
  refine y_ci h (y_rS (As := [.long w_5, .long w_7, .long w_9]) (rest := []) C0 hZ h (c_X12_within l G Z ad _ h.2 w_5 w_7 w_9) k_X12_within q_1580 q_1579 hl.1 rfl rfl (Nat.le_of_ble_eq_true rfl) dX12_hours_11 ⟨Nat.le_of_ble_eq_true rfl, Nat.le_of_ble_eq_true rfl⟩ ⟨Nat.le_of_ble_eq_true rfl, Nat.le_of_ble_eq_true rfl⟩) (fun r_14 H locs ws_11 h u_12 p_13 => ?_)
  obtain ⟨e_15, e_16, e_17⟩ := p_13
  refine y_if_ne (tgt := 20) C0 dX12_hours_14 (by decide) (fun c_18 => ?_) (fun c_18 => ?_)
  · -- 14
    refine lv_aload_n C0.1 C0.2.1 dX12_hours_20 rfl (lv_at hl 0 rfl) ?_
    refine y_cv h (y_rV (As := []) (rest := []) C0 hZ h (c_X12_keeps l G Z ad _ h.2) k_X12_keeps q_1777 q_88 q_1775 kSM_0 rfl rfl rfl hl.1 rfl rfl (Nat.le_of_ble_eq_true rfl) dX12_hours_21 ⟨Nat.le_of_ble_eq_true rfl, Nat.le_of_ble_eq_true rfl⟩ ⟨Nat.le_of_ble_eq_true rfl, Nat.le_of_ble_eq_true rfl⟩) (fun H locs ws_19 h u_20 p_21 => ?_)
    refine lv_aload_n C0.1 C0.2.1 dX12_hours_24 rfl (lv_at hl 0 rfl) ?_
    refine ng_X12_all C0 h kSM_0 q_1439 dX12_hours_25 ?_
    refine y_c2 (n := 111) C0 (by decide) dX12_hours_28 (fun v_22 e_23 => ?_)
    refine lv_dup2_11 C0.1 C0.2.1 dX12_hours_30 rfl rfl ?_
    refine y_iald C0 h kSM_1 rfl (by decide) (o35_60 e_23) (o35_61 e_23) dX12_hours_31 (fun v_24 e_25 e_26 e_27 => ?_)
    have e_28 : aI ws_19 1 111 = v_24 := (congrArg (aI ws_19 1) (ix_c (c := 111) (o35_62 e_23))).symm.trans e_25
    refine lv_iload_n C0.1 C0.2.1 dX12_hours_32 rfl (lv_at hl 1 rfl) ?_
    refine y_iaddU C0 dX12_hours_33 (fun v_29 => ?_)
    have f_32 := o35_424 v_22.toInt.toNat (o35_425 e_23) (o35_426 e_23)
    refine y_iast C0 h kSM_1 rfl (by decide) (o35_60 e_23) (o35_61 e_23) (Int.le_trans f_32.1 (le_min v_29)) (Int.le_trans (le_max v_29) f_32.2) dX12_hours_34 (fun H locs ws_30 h u_31 => ?_)
    have e_33 : aI ws_30 1 111 = v_29 := (congrArg (aI ws_30 1) (ix_c (c := 111) (o35_62 e_23))).symm.trans u_31.2.1
    refine lv_aload_n C0.1 C0.2.1 dX12_hours_35 rfl (lv_at hl 0 rfl) ?_
    refine y_cv h (y_rV (As := []) (rest := []) C0 hZ h (c_X12_notes l G Z ad _ h.2) k_X12_notes q_1788 q_90 q_1786 kSM_0 rfl rfl rfl hl.1 rfl rfl (Nat.le_of_ble_eq_true rfl) dX12_hours_36 ⟨Nat.le_of_ble_eq_true rfl, Nat.le_of_ble_eq_true rfl⟩ ⟨Nat.le_of_ble_eq_true rfl, Nat.le_of_ble_eq_true rfl⟩) (fun H locs ws_34 h u_35 p_36 => ?_)
    obtain ⟨e_37, e_38⟩ := p_36
    refine lv_aload_n C0.1 C0.2.1 dX12_hours_39 rfl (lv_at hl 0 rfl) ?_
    refine ng_X12_all C0 h kSM_0 q_1439 dX12_hours_40 ?_
    refine y_c2 (n := 111) C0 (by decide) dX12_hours_43 (fun v_39 e_40 => ?_)
    refine y_iald C0 h kSM_1 rfl (by decide) (o35_60 e_40) (o35_61 e_40) dX12_hours_45 (fun v_41 e_42 e_43 e_44 => ?_)
    have e_45 : aI ws_34 1 111 = v_41 := (congrArg (aI ws_34 1) (ix_c (c := 111) (o35_62 e_40))).symm.trans e_42
    rw [hQ]
    exact y_iret C0 h (Fr.tr (Fr.tr (Fr.tr (Fr.tr (Fr.up u_4.1 kSM_0 (by decide)) (Fr.mono u_12 (by decide))) (Fr.mono u_20 (by decide))) (Fr.up u_31.1 kSM_1 (by decide))) (Fr.mono u_35 (by decide))) ⟨(Pa.tr (Pa.tr (Pa.tr (Pa.tr (Pa.ud u_4.1 (by decide)) (Pa.fr u_12 (by decide))) (Pa.fr u_20 (by decide))) (Pa.st u_31 (o35_428 e_23) (o35_429 e_23))) e_37), (Pw.tr (Pw.tr (Pw.tr (Pw.tr (Pw.ud u_4.1 (by decide)) (Pw.fr u_12 (by decide))) (Pw.fr u_20 (by decide))) (Pw.st u_31 (o35_427 e_23))) e_38)⟩ dX12_hours_46
  · -- 14
    refine y_c2 (n := (-3)) C0 (by decide) dX12_hours_17 (fun v_46 e_47 => ?_)
    rw [hQ]
    exact y_iret C0 h (Fr.tr (Fr.up u_4.1 kSM_0 (by decide)) (Fr.mono u_12 (by decide))) ⟨(Pa.tr (Pa.ud u_4.1 (by decide)) (Pa.fr u_12 (by decide))), (Pw.tr (Pw.ud u_4.1 (by decide)) (Pw.fr u_12 (by decide)))⟩ dX12_hours_19
set_option maxHeartbeats 4000000 in
set_option maxRecDepth 100000 in
theorem c_X12_undo (l : Launch) (G : GG) (Z : RZ) (ad : Nat → Nat) (ws0 : va_W) (hT : Ty G (SM tt) ad ws0) (a1 : Int32) (hJ : J ws0) : Mq l yX12_undo cX12_undo 3 (some .int) 2 G Z [.ref (ad 0), .int a1] ws0 (PI G (SM tt) ad [0, 1] ws0 (fun r u => ((-3) ≤ r.toInt) ∧ (r.toInt ≤ 9) ∧ (Pa ws0 u) ∧ (Pw ws0 u))) := by
  refine Mq.start (by decide) (Nat.le_of_ble_eq_true rfl) ?_
  intro p e s m below meth c A ls C0 hZ h hl
  have hl : lv_has ls 3 [(0, .ref (ad 0)), (1, .int a1)] := hl
  have h : Wt G (SM tt) ad A s s.heap [] ws0 := ⟨h, hT⟩
  obtain ⟨args, hargs⟩ : ∃ z, z = ([.ref (ad 0), .int a1] : List Value).toArray := ⟨_, rfl⟩
  rw [← hargs] at C0 ⊢
  have C0 : Cx p s m args meth c RX12 cX12_undo 3 (some .int) := C0
  obtain ⟨Q, hQ⟩ : ∃ z, z = MQ below ((PI G (SM tt) ad [0, 1] ws0 (fun r u => ((-3) ≤ r.toInt) ∧ (r.toInt ≤ 9) ∧ (Pa ws0 u) ∧ (Pw ws0 u))) A) args s 0 0 A := ⟨_, rfl⟩
  rw [← hQ]
  refine lv_aload_n C0.1 C0.2.1 dX12_undo_0 rfl (lv_at hl 0 rfl) ?_
  refine y_c1 (n := 0) C0 (by decide) dX12_undo_1 (fun v_1 e_2 => ?_)
  refine np_X12_thrown C0 h kSM_0 q_1438 (le_min v_1) (le_max v_1) dX12_undo_2 (fun H locs ws_3 h u_4 => ?_)
  refine lv_iload_n C0.1 C0.2.1 dX12_undo_5 rfl (lv_at hl 1 rfl) ?_
  refine y_i2l C0 dX12_undo_6 (fun w_5 e_6 => ?_)
  refine y_lc (v := 1) C0 (by decide) dX12_undo_7 (fun w_7 e_8 => ?_)
  refine y_lc2 (n := 10) C0 q_1847 (by decide) dX12_undo_8 (fun w_9 e_10 => ?_)
  refine y_ci h (y_rS (As := [.long w_5, .long w_7, .long w_9]) (rest := []) C0 hZ h (c_X12_within l G Z ad _ h.2 w_5 w_7 w_9) k_X12_within q_1580 q_1579 hl.1 rfl rfl (Nat.le_of_ble_eq_true rfl) dX12_undo_11 ⟨Nat.le_of_ble_eq_true rfl, Nat.le_of_ble_eq_true rfl⟩ ⟨Nat.le_of_ble_eq_true rfl, Nat.le_of_ble_eq_true rfl⟩) (fun r_14 H locs ws_11 h u_12 p_13 => ?_)
  obtain ⟨e_15, e_16, e_17⟩ := p_13
  refine y_if_eq (tgt := 28) C0 dX12_undo_14 (by decide) (fun c_18 => ?_) (fun c_18 => ?_)
  · -- 14
    refine y_c2 (n := (-3)) C0 (by decide) dX12_undo_28 (fun v_19 e_20 => ?_)
    rw [hQ]
    exact y_iret C0 h (Fr.tr (Fr.up u_4.1 kSM_0 (by decide)) (Fr.mono u_12 (by decide))) ⟨(o35_69 e_20), (o35_430 e_20), (Pa.tr (Pa.ud u_4.1 (by decide)) (Pa.fr u_12 (by decide))), (Pw.tr (Pw.ud u_4.1 (by decide)) (Pw.fr u_12 (by decide)))⟩ dX12_undo_30
  · -- 14
    refine lv_iload_n C0.1 C0.2.1 dX12_undo_17 rfl (lv_at hl 1 rfl) ?_
    refine lv_aload_n C0.1 C0.2.1 dX12_undo_18 rfl (lv_at hl 0 rfl) ?_
    refine ng_X12_all C0 h kSM_0 q_1439 dX12_undo_19 ?_
    refine y_c2 (n := 112) C0 (by decide) dX12_undo_22 (fun v_21 e_22 => ?_)
    refine y_iald C0 h kSM_1 rfl (by decide) (o35_431 e_22) (o35_432 e_22) dX12_undo_24 (fun v_23 e_24 e_25 e_26 => ?_)
    have f_27 := o35_433 v_21.toInt.toNat (o35_434 e_22) (o35_435 e_22)
    have e_28 : aI ws_11 1 112 = v_23 := (congrArg (aI ws_11 1) (ix_c (c := 112) (o35_436 e_22))).symm.trans e_24
    refine y_icmp_le (tgt := 31) C0 dX12_undo_25 (by decide) (fun c_29 => ?_) (fun c_29 => ?_)
    · -- 25
      refine lv_aload_n C0.1 C0.2.1 dX12_undo_31 rfl (lv_at hl 0 rfl) ?_
      refine ng_X12_all C0 h kSM_0 q_1439 dX12_undo_32 ?_
      refine y_c2 (n := 112) C0 (by decide) dX12_undo_35 (fun v_30 e_31 => ?_)
      refine lv_dup2_11 C0.1 C0.2.1 dX12_undo_37 rfl rfl ?_
      refine y_iald C0 h kSM_1 rfl (by decide) (o35_431 e_31) (o35_432 e_31) dX12_undo_38 (fun v_32 e_33 e_34 e_35 => ?_)
      have f_36 := o35_433 v_30.toInt.toNat (o35_434 e_31) (o35_435 e_31)
      have e_37 : aI ws_11 1 112 = v_32 := (congrArg (aI ws_11 1) (ix_c (c := 112) (o35_436 e_31))).symm.trans e_33
      have q_38 : v_32.toInt = v_23.toInt := congrArg Int32.toInt (e_37.symm.trans (Eq.trans rfl e_28))
      refine lv_iload_n C0.1 C0.2.1 dX12_undo_39 rfl (lv_at hl 1 rfl) ?_
      refine y_sub C0 (o35_437 e_6 e_8 e_10 e_15 e_16 e_17 c_18 (Int.le_trans f_27.1 e_25) (Int.le_trans e_26 f_27.2) c_29 (Int.le_trans f_36.1 e_34) (Int.le_trans e_35 f_36.2) q_38 (le_min v_32) (le_max v_32) (le_min a1) (le_max a1) (le_min r_14) (le_max r_14) (le_min v_23) (le_max v_23)) (o35_438 e_6 e_8 e_10 e_15 e_16 e_17 c_18 (Int.le_trans f_27.1 e_25) (Int.le_trans e_26 f_27.2) c_29 (Int.le_trans f_36.1 e_34) (Int.le_trans e_35 f_36.2) q_38 (le_min v_32) (le_max v_32) (le_min a1) (le_max a1) (le_min r_14) (le_max r_14) (le_min v_23) (le_max v_23)) dX12_undo_40 (fun v_39 e_40 => ?_)
      have f_43 := o35_439 v_30.toInt.toNat (o35_434 e_31) (o35_435 e_31)
      refine y_iast C0 h kSM_1 rfl (by decide) (o35_431 e_31) (o35_432 e_31) (Int.le_trans f_43.1 (o35_440 e_6 e_8 e_10 e_15 e_16 e_17 c_18 (Int.le_trans f_27.1 e_25) (Int.le_trans e_26 f_27.2) c_29 (Int.le_trans f_36.1 e_34) (Int.le_trans e_35 f_36.2) q_38 e_40)) (Int.le_trans (o35_441 e_6 e_8 e_10 e_15 e_16 e_17 c_18 (Int.le_trans f_27.1 e_25) (Int.le_trans e_26 f_27.2) c_29 (Int.le_trans f_36.1 e_34) (Int.le_trans e_35 f_36.2) q_38 e_40) f_43.2) dX12_undo_41 (fun H locs ws_41 h u_42 => ?_)
      have e_44 : aI ws_41 1 112 = v_39 := (congrArg (aI ws_41 1) (ix_c (c := 112) (o35_436 e_31))).symm.trans u_42.2.1
      refine y_c1 (n := 0) C0 (by decide) dX12_undo_42 (fun v_45 e_46 => ?_)
      refine lv_istore_n (lv' := [(2, .int v_45), (0, .ref (ad 0)), (1, .int a1)]) C0.1 C0.2.1 dX12_undo_43 rfl hl (by decide) rfl (fun ls hl => ?_)
      have lp_50 : ∀ (n_52 : Nat) (x2_47 : Int32) (f_56 : Int32) (H : Heap) (locs : List Loc) (ls : Array Slot) (ws_48 : va_W), 76 - x2_47.toInt < (n_52 : Int) → 0 ≤ x2_47.toInt → x2_47.toInt ≤ 76 → 0 ≤ f_56.toInt → f_56.toInt ≤ 9 → (Pa ws_41 ws_48) → (Pw ws_41 ws_48) → aI ws_48 1 112 = f_56 → Wt G (SM tt) ad A s H locs ws_48 → Fr (SM tt) [1] ws_41 ws_48 → lv_has ls 3 [(2, .int x2_47), (0, .ref (ad 0)), (1, .int a1)] → W p l e (rmd 2 0 0) s m args below meth c H locs 0 0 Q (F0 m 44 ls []) := by
        intro n_52
        induction n_52 with
        | zero => intro x2_47 f_56 H locs ls ws_48 hn_53 b_54 b_55 b_58 b_59 hPa_44 hPw_44 e_57 h hF_49 hl; exact ((o35_445 b_54 b_55 hn_53)).elim
        | succ n_52 ih_51 =>
          intro x2_47 f_56 H locs ls ws_48 hn_53 b_54 b_55 b_58 b_59 hPa_44 hPw_44 e_57 h hF_49 hl
          refine lv_iload_n C0.1 C0.2.1 dX12_undo_44 rfl (lv_at hl 0 rfl) ?_
          refine y_c2 (n := 76) C0 (by decide) dX12_undo_45 (fun v_60 e_61 => ?_)
          refine y_icmp_ge (tgt := 85) C0 dX12_undo_47 (by decide) (fun c_62 => ?_) (fun c_62 => ?_)
          · -- 47
            refine lv_aload_n C0.1 C0.2.1 dX12_undo_85 rfl (lv_at hl 1 rfl) ?_
            refine ng_X12_all C0 h kSM_0 q_1439 dX12_undo_86 ?_
            refine y_c2 (n := 112) C0 (by decide) dX12_undo_89 (fun v_63 e_64 => ?_)
            refine y_iald C0 h kSM_1 rfl (by decide) (o35_431 e_64) (o35_432 e_64) dX12_undo_91 (fun v_65 e_66 e_67 e_68 => ?_)
            have f_69 := o35_433 v_63.toInt.toNat (o35_434 e_64) (o35_435 e_64)
            have e_70 : aI ws_48 1 112 = v_65 := (congrArg (aI ws_48 1) (ix_c (c := 112) (o35_436 e_64))).symm.trans e_66
            have q_71 : v_65.toInt = f_56.toInt := congrArg Int32.toInt (e_70.symm.trans (Eq.trans rfl e_57))
            rw [hQ]
            exact y_iret C0 h (Fr.tr (Fr.tr (Fr.tr (Fr.up u_4.1 kSM_0 (by decide)) (Fr.mono u_12 (by decide))) (Fr.up u_42.1 kSM_1 (by decide))) (Fr.mono hF_49 (by decide))) ⟨(o35_446 b_58 b_59 (Int.le_trans f_69.1 e_67) (Int.le_trans e_68 f_69.2) q_71), (o35_447 b_58 b_59 (Int.le_trans f_69.1 e_67) (Int.le_trans e_68 f_69.2) q_71), (Pa.tr (Pa.tr (Pa.tr (Pa.ud u_4.1 (by decide)) (Pa.fr u_12 (by decide))) (Pa.st u_42 (o35_443 e_31) (o35_444 e_31))) hPa_44), (Pw.tr (Pw.tr (Pw.tr (Pw.ud u_4.1 (by decide)) (Pw.fr u_12 (by decide))) (Pw.st u_42 (o35_442 e_31))) hPw_44)⟩ dX12_undo_92
          · -- 47
            refine lv_aload_n C0.1 C0.2.1 dX12_undo_50 rfl (lv_at hl 1 rfl) ?_
            refine ng_X12_all C0 h kSM_0 q_1439 dX12_undo_51 ?_
            refine y_c2 (n := 36) C0 (by decide) dX12_undo_54 (fun v_72 e_73 => ?_)
            refine lv_iload_n C0.1 C0.2.1 dX12_undo_56 rfl (lv_at hl 0 rfl) ?_
            refine y_add C0 (o35_448 b_54 b_55 hn_53 e_61 c_62 e_73 (le_min v_72) (le_max v_72) (le_min x2_47) (le_max x2_47) (le_min v_60) (le_max v_60)) (o35_449 b_54 b_55 hn_53 e_61 c_62 e_73 (le_min v_72) (le_max v_72) (le_min x2_47) (le_max x2_47) (le_min v_60) (le_max v_60)) dX12_undo_57 (fun v_74 e_75 => ?_)
            refine lv_aload_n C0.1 C0.2.1 dX12_undo_58 rfl (lv_at hl 1 rfl) ?_
            refine ng_X12_all C0 h kSM_0 q_1439 dX12_undo_59 ?_
            refine y_c2 (n := 113) C0 (by decide) dX12_undo_62 (fun v_76 e_77 => ?_)
            refine y_c2 (n := 76) C0 (by decide) dX12_undo_64 (fun v_78 e_79 => ?_)
            refine lv_aload_n C0.1 C0.2.1 dX12_undo_66 rfl (lv_at hl 1 rfl) ?_
            refine ng_X12_all C0 h kSM_0 q_1439 dX12_undo_67 ?_
            refine y_c2 (n := 112) C0 (by decide) dX12_undo_70 (fun v_80 e_81 => ?_)
            refine y_iald C0 h kSM_1 rfl (by decide) (o35_431 e_81) (o35_432 e_81) dX12_undo_72 (fun v_82 e_83 e_84 e_85 => ?_)
            have f_86 := o35_433 v_80.toInt.toNat (o35_434 e_81) (o35_435 e_81)
            have e_87 : aI ws_48 1 112 = v_82 := (congrArg (aI ws_48 1) (ix_c (c := 112) (o35_436 e_81))).symm.trans e_83
            have q_88 : v_82.toInt = f_56.toInt := congrArg Int32.toInt (e_87.symm.trans (Eq.trans rfl e_57))
            refine y_cmul (n := 76) C0 (o35_450 e_79) (o35_451 b_58 b_59 (Int.le_trans f_86.1 e_84) (Int.le_trans e_85 f_86.2) q_88 (le_min v_82) (le_max v_82) (le_min f_56) (le_max f_56)) (o35_452 b_58 b_59 (Int.le_trans f_86.1 e_84) (Int.le_trans e_85 f_86.2) q_88 (le_min v_82) (le_max v_82) (le_min f_56) (le_max f_56)) dX12_undo_73 (fun v_89 e_90 => ?_)
            refine y_add C0 (o35_453 b_58 b_59 e_77 (Int.le_trans f_86.1 e_84) (Int.le_trans e_85 f_86.2) q_88 e_90 (le_min v_76) (le_max v_76) (le_min v_89) (le_max v_89) (le_min f_56) (le_max f_56) (le_min v_82) (le_max v_82)) (o35_454 b_58 b_59 e_77 (Int.le_trans f_86.1 e_84) (Int.le_trans e_85 f_86.2) q_88 e_90 (le_min v_76) (le_max v_76) (le_min v_89) (le_max v_89) (le_min f_56) (le_max f_56) (le_min v_82) (le_max v_82)) dX12_undo_74 (fun v_91 e_92 => ?_)
            refine lv_iload_n C0.1 C0.2.1 dX12_undo_75 rfl (lv_at hl 0 rfl) ?_
            refine y_add C0 (o35_455 b_54 b_55 b_58 b_59 hn_53 e_61 c_62 e_73 e_75 e_77 (Int.le_trans f_86.1 e_84) (Int.le_trans e_85 f_86.2) q_88 e_90 e_92 (le_min v_91) (le_max v_91) (le_min x2_47) (le_max x2_47) (le_min f_56) (le_max f_56) (le_min v_60) (le_max v_60) (le_min v_72) (le_max v_72) (le_min v_74) (le_max v_74) (le_min v_76) (le_max v_76) (le_min v_82) (le_max v_82) (le_min v_89) (le_max v_89)) (o35_456 b_54 b_55 b_58 b_59 hn_53 e_61 c_62 e_73 e_75 e_77 (Int.le_trans f_86.1 e_84) (Int.le_trans e_85 f_86.2) q_88 e_90 e_92 (le_min v_91) (le_max v_91) (le_min x2_47) (le_max x2_47) (le_min f_56) (le_max f_56) (le_min v_60) (le_max v_60) (le_min v_72) (le_max v_72) (le_min v_74) (le_max v_74) (le_min v_76) (le_max v_76) (le_min v_82) (le_max v_82) (le_min v_89) (le_max v_89)) dX12_undo_76 (fun v_93 e_94 => ?_)
            refine y_iald C0 h kSM_1 rfl (by decide) (o35_457 b_54 b_55 b_58 b_59 hn_53 e_61 c_62 e_73 e_75 e_77 (Int.le_trans f_86.1 e_84) (Int.le_trans e_85 f_86.2) q_88 e_90 e_92 e_94) (o35_458 b_54 b_55 b_58 b_59 hn_53 e_61 c_62 e_73 e_75 e_77 (Int.le_trans f_86.1 e_84) (Int.le_trans e_85 f_86.2) q_88 e_90 e_92 e_94) dX12_undo_77 (fun v_95 e_96 e_97 e_98 => ?_)
            refine y_iast C0 h kSM_1 rfl (by decide) (o35_459 b_54 b_55 b_58 b_59 hn_53 e_61 c_62 e_73 e_75 e_77 (Int.le_trans f_86.1 e_84) (Int.le_trans e_85 f_86.2) q_88 e_90 e_92 e_94) (o35_460 b_54 b_55 b_58 b_59 hn_53 e_61 c_62 e_73 e_75 e_77 (Int.le_trans f_86.1 e_84) (Int.le_trans e_85 f_86.2) q_88 e_90 e_92 e_94) (el_lo (Eq.trans (Eq.symm (ec_wa (x := x2_47.toInt.toNat) (o35_461 b_54 b_55 b_58 b_59 hn_53 e_61 c_62 e_73 e_75 e_77 (Int.le_trans f_86.1 e_84) (Int.le_trans e_85 f_86.2) q_88 e_90 e_92 e_94) (o35_462 b_54 b_55 b_58 b_59 hn_53 e_61 c_62 e_73 e_75 e_77 (Int.le_trans f_86.1 e_84) (Int.le_trans e_85 f_86.2) q_88 e_90 e_92 e_94))) (Eq.symm (ec_nk (n := f_56.toInt.toNat) (o35_463 b_54 b_55 b_58 b_59 hn_53 e_61 c_62 e_73 e_75 e_77 (Int.le_trans f_86.1 e_84) (Int.le_trans e_85 f_86.2) q_88 e_90 e_92 e_94) (o35_464 b_54 b_55 b_58 b_59 hn_53 e_61 c_62 e_73 e_75 e_77 (Int.le_trans f_86.1 e_84) (Int.le_trans e_85 f_86.2) q_88 e_90 e_92 e_94) (o35_462 b_54 b_55 b_58 b_59 hn_53 e_61 c_62 e_73 e_75 e_77 (Int.le_trans f_86.1 e_84) (Int.le_trans e_85 f_86.2) q_88 e_90 e_92 e_94)))) e_97) (el_hi (Eq.trans (Eq.symm (ec_wa (x := x2_47.toInt.toNat) (o35_461 b_54 b_55 b_58 b_59 hn_53 e_61 c_62 e_73 e_75 e_77 (Int.le_trans f_86.1 e_84) (Int.le_trans e_85 f_86.2) q_88 e_90 e_92 e_94) (o35_462 b_54 b_55 b_58 b_59 hn_53 e_61 c_62 e_73 e_75 e_77 (Int.le_trans f_86.1 e_84) (Int.le_trans e_85 f_86.2) q_88 e_90 e_92 e_94))) (Eq.symm (ec_nk (n := f_56.toInt.toNat) (o35_463 b_54 b_55 b_58 b_59 hn_53 e_61 c_62 e_73 e_75 e_77 (Int.le_trans f_86.1 e_84) (Int.le_trans e_85 f_86.2) q_88 e_90 e_92 e_94) (o35_464 b_54 b_55 b_58 b_59 hn_53 e_61 c_62 e_73 e_75 e_77 (Int.le_trans f_86.1 e_84) (Int.le_trans e_85 f_86.2) q_88 e_90 e_92 e_94) (o35_462 b_54 b_55 b_58 b_59 hn_53 e_61 c_62 e_73 e_75 e_77 (Int.le_trans f_86.1 e_84) (Int.le_trans e_85 f_86.2) q_88 e_90 e_92 e_94)))) e_98) dX12_undo_78 (fun H locs ws_99 h u_100 => ?_)
            refine y_inc (kp := 0) (n := 1) (fun v_101 => [(2, .int v_101), (0, .ref (ad 0)), (1, .int a1)]) C0 hl rfl (by decide) (by decide) (fun _ => rfl) (o35_468 b_54 b_55 b_58 b_59 hn_53 e_61 c_62 e_73 e_75 e_77 (Int.le_trans f_86.1 e_84) (Int.le_trans e_85 f_86.2) q_88 e_90 e_92 e_94 (le_min x2_47) (le_max x2_47) (le_min f_56) (le_max f_56) (le_min v_60) (le_max v_60) (le_min v_72) (le_max v_72) (le_min v_74) (le_max v_74) (le_min v_76) (le_max v_76) (le_min v_82) (le_max v_82) (le_min v_89) (le_max v_89) (le_min v_91) (le_max v_91) (le_min v_93) (le_max v_93)) (o35_469 b_54 b_55 b_58 b_59 hn_53 e_61 c_62 e_73 e_75 e_77 (Int.le_trans f_86.1 e_84) (Int.le_trans e_85 f_86.2) q_88 e_90 e_92 e_94 (le_min x2_47) (le_max x2_47) (le_min f_56) (le_max f_56) (le_min v_60) (le_max v_60) (le_min v_72) (le_max v_72) (le_min v_74) (le_max v_74) (le_min v_76) (le_max v_76) (le_min v_82) (le_max v_82) (le_min v_89) (le_max v_89) (le_min v_91) (le_max v_91) (le_min v_93) (le_max v_93)) dX12_undo_79 (fun v_101 ls e_102 hl => ?_)
            refine lv_goto (tgt := 44) C0.1 C0.2.1 dX12_undo_82 (by decide) ?_
            exact ih_51 v_101 f_56 _ _ _ _ (o35_471 b_54 b_55 b_58 b_59 hn_53 e_61 c_62 e_73 e_75 e_77 (Int.le_trans f_86.1 e_84) (Int.le_trans e_85 f_86.2) q_88 e_90 e_92 e_94 e_102) (o35_472 b_54 b_55 b_58 b_59 hn_53 e_61 c_62 e_73 e_75 e_77 (Int.le_trans f_86.1 e_84) (Int.le_trans e_85 f_86.2) q_88 e_90 e_92 e_94 e_102) (o35_473 b_54 b_55 b_58 b_59 hn_53 e_61 c_62 e_73 e_75 e_77 (Int.le_trans f_86.1 e_84) (Int.le_trans e_85 f_86.2) q_88 e_90 e_92 e_94 e_102) (o35_474 b_54 b_55 b_58 b_59 hn_53 e_61 c_62 e_73 e_75 e_77 (Int.le_trans f_86.1 e_84) (Int.le_trans e_85 f_86.2) q_88 e_90 e_92 e_94 e_102) (o35_475 b_54 b_55 b_58 b_59 hn_53 e_61 c_62 e_73 e_75 e_77 (Int.le_trans f_86.1 e_84) (Int.le_trans e_85 f_86.2) q_88 e_90 e_92 e_94 e_102) ((Pa.tr hPa_44 (Pa.st u_100 (o35_466 b_54 b_55 b_58 b_59 hn_53 e_61 c_62 e_73 e_75 e_77 (Int.le_trans f_86.1 e_84) (Int.le_trans e_85 f_86.2) q_88 e_90 e_92 e_94) (o35_467 b_54 b_55 b_58 b_59 hn_53 e_61 c_62 e_73 e_75 e_77 (Int.le_trans f_86.1 e_84) (Int.le_trans e_85 f_86.2) q_88 e_90 e_92 e_94)))) ((Pw.tr hPw_44 (Pw.st u_100 (o35_465 b_54 b_55 b_58 b_59 hn_53 e_61 c_62 e_73 e_75 e_77 (Int.le_trans f_86.1 e_84) (Int.le_trans e_85 f_86.2) q_88 e_90 e_92 e_94)))) (Eq.trans (u_100.2.2 112 (o35_470 b_54 b_55 b_58 b_59 hn_53 e_61 c_62 e_73 e_75 e_77 (Int.le_trans f_86.1 e_84) (Int.le_trans e_85 f_86.2) q_88 e_90 e_92 e_94 e_102)) e_57) h (Fr.tr hF_49 (Fr.up u_100.1 kSM_1 (by decide))) (lv_sub hl [0, 1, 2] rfl)
      exact lp_50 ((76 - v_45.toInt + 1).toNat) v_45 v_39 _ _ _ _ (o35_476 e_46) (o35_50 e_46) (o35_477 e_46) (o35_440 e_6 e_8 e_10 e_15 e_16 e_17 c_18 (Int.le_trans f_27.1 e_25) (Int.le_trans e_26 f_27.2) c_29 (Int.le_trans f_36.1 e_34) (Int.le_trans e_35 f_36.2) q_38 e_40) (o35_478 e_6 e_8 e_10 e_15 e_16 e_17 c_18 (Int.le_trans f_27.1 e_25) (Int.le_trans e_26 f_27.2) c_29 (Int.le_trans f_36.1 e_34) (Int.le_trans e_35 f_36.2) q_38 e_40) Pa.rf Pw.rf (Eq.trans rfl e_44) h Fr.rf (lv_sub hl [0, 1, 2] rfl)
    · -- 25
      refine y_c2 (n := (-3)) C0 (by decide) dX12_undo_28 (fun v_103 e_104 => ?_)
      rw [hQ]
      exact y_iret C0 h (Fr.tr (Fr.up u_4.1 kSM_0 (by decide)) (Fr.mono u_12 (by decide))) ⟨(o35_69 e_104), (o35_430 e_104), (Pa.tr (Pa.ud u_4.1 (by decide)) (Pa.fr u_12 (by decide))), (Pw.tr (Pw.ud u_4.1 (by decide)) (Pw.fr u_12 (by decide)))⟩ dX12_undo_30
set_option maxHeartbeats 4000000 in
set_option maxRecDepth 100000 in
theorem c_X12_draw (l : Launch) (G : GG) (Z : RZ) (ad : Nat → Nat) (ws0 : va_W) (hT : Ty G (SM tt) ad ws0) (a1 : Int32) (l1 : 1 ≤ a1.toInt) (u1 : a1.toInt ≤ 5) : Mq l yX12_draw cX12_draw 2 (some .int) 1 G Z [.ref (ad 0), .int a1] ws0 (PI G (SM tt) ad [0] ws0 (fun r u => (0 ≤ r.toInt) ∧ (r.toInt ≤ 4))) := by
  refine Mq.start (by decide) (Nat.le_of_ble_eq_true rfl) ?_
  intro p e s m below meth c A ls C0 hZ h hl
  have hl : lv_has ls 2 [(0, .ref (ad 0)), (1, .int a1)] := hl
  have h : Wt G (SM tt) ad A s s.heap [] ws0 := ⟨h, hT⟩
  obtain ⟨args, hargs⟩ : ∃ z, z = ([.ref (ad 0), .int a1] : List Value).toArray := ⟨_, rfl⟩
  rw [← hargs] at C0 ⊢
  have C0 : Cx p s m args meth c RX12 cX12_draw 2 (some .int) := C0
  obtain ⟨Q, hQ⟩ : ∃ z, z = MQ below ((PI G (SM tt) ad [0] ws0 (fun r u => (0 ≤ r.toInt) ∧ (r.toInt ≤ 4))) A) args s 0 0 A := ⟨_, rfl⟩
  rw [← hQ]
  refine lv_aload_n C0.1 C0.2.1 dX12_draw_0 rfl (lv_at hl 0 rfl) ?_
  refine y_c5 (n := 1103515245) C0 q_1861 (by decide) dX12_draw_1 (fun v_1 e_2 => ?_)
  refine lv_aload_n C0.1 C0.2.1 dX12_draw_4 rfl (lv_at hl 0 rfl) ?_
  refine ng_X12_x C0 h kSM_0 q_1457 dX12_draw_5 (fun v_3 e_4 e_5 e_6 => ?_)
  refine y_imulU C0 dX12_draw_8 (fun v_7 => ?_)
  refine y_c3 (n := 12345) C0 (by decide) dX12_draw_9 (fun v_8 e_9 => ?_)
  refine y_iaddU C0 dX12_draw_12 (fun v_10 => ?_)
  refine np_X12_x C0 h kSM_0 q_1457 (le_min v_10) (le_max v_10) dX12_draw_13 (fun H locs ws_11 h u_12 => ?_)
  refine lv_aload_n C0.1 C0.2.1 dX12_draw_16 rfl (lv_at hl 0 rfl) ?_
  refine ng_X12_x C0 h kSM_0 q_1457 dX12_draw_17 (fun v_13 e_14 e_15 e_16 => ?_)
  have q_17 : v_13.toInt = v_10.toInt := congrArg Int32.toInt (e_14.symm.trans (Eq.trans rfl u_12.2.1))
  refine y_c2 (n := 16) C0 (by decide) dX12_draw_20 (fun v_18 e_19 => ?_)
  refine y_ushr 16 16 (n := 65535) C0 (Eq.trans (o35_479 e_19) (by decide)) (by decide) (by decide) (by decide) dX12_draw_22 (fun v_20 e_21 e_22 => ?_)
  refine lv_iload_n C0.1 C0.2.1 dX12_draw_23 rfl (lv_at hl 1 rfl) ?_
  refine y_rem C0 (o35_480 l1 u1) (o35_481 e_21 e_22) dX12_draw_24 (fun v_23 e_24 e_25 => ?_)
  rw [hQ]
  exact y_iret C0 h (Fr.up u_12.1 kSM_0 (by decide)) ⟨(o35_482 l1 u1 e_24 e_25), (o35_483 l1 u1 e_24 e_25)⟩ dX12_draw_25
set_option maxHeartbeats 4000000 in
set_option maxRecDepth 100000 in
theorem c_X12_isDrawn (l : Launch) (G : GG) (Z : RZ) (ad : Nat → Nat) (ws0 : va_W) (hT : Ty G (SM tt) ad ws0) (fl0 : 1 ≤ (aI ws0 1 3).toInt) (fh0 : (aI ws0 1 3).toInt ≤ 5) (hJ : J ws0) (hLd : Laid ws0) : Mq l yX12_isDrawn cX12_isDrawn 4 (some .boolean) 6 G Z [.ref (ad 0)] ws0 (PI G (SM tt) ad [0, 1, 5, 6] ws0 (fun r u => (0 ≤ r.toInt) ∧ (r.toInt ≤ 1) ∧ (Pa ws0 u) ∧ (Pw ws0 u))) := by
  refine Mq.start (by decide) (Nat.le_of_ble_eq_true rfl) ?_
  intro p e s m below meth c A ls C0 hZ h hl
  have hl : lv_has ls 4 [(0, .ref (ad 0))] := hl
  have h : Wt G (SM tt) ad A s s.heap [] ws0 := ⟨h, hT⟩
  obtain ⟨args, hargs⟩ : ∃ z, z = ([.ref (ad 0)] : List Value).toArray := ⟨_, rfl⟩
  rw [← hargs] at C0 ⊢
  have C0 : Cx p s m args meth c RX12 cX12_isDrawn 4 (some .boolean) := C0
  obtain ⟨Q, hQ⟩ : ∃ z, z = MQ below ((PI G (SM tt) ad [0, 1, 5, 6] ws0 (fun r u => (0 ≤ r.toInt) ∧ (r.toInt ≤ 1) ∧ (Pa ws0 u) ∧ (Pw ws0 u))) A) args s 0 0 A := ⟨_, rfl⟩
  rw [← hQ]
  obtain ⟨fp0, ef0⟩ : ∃ v, aI ws0 1 3 = v := ⟨_, rfl⟩
  rw [ef0] at fl0 fh0
  refine lv_aload_n C0.1 C0.2.1 dX12_isDrawn_0 rfl (lv_at hl 0 rfl) ?_
  refine y_c1 (n := 4) C0 (by decide) dX12_isDrawn_1 (fun v_1 e_2 => ?_)
  refine y_ci h (y_rV (As := [.int v_1]) (rest := []) C0 hZ h (c_X12_draw l G Z ad _ h.2 v_1 (o35_484 e_2) (o35_485 e_2)) k_X12_draw q_1859 q_98 q_1857 kSM_0 rfl rfl rfl hl.1 rfl rfl (Nat.le_of_ble_eq_true rfl) dX12_isDrawn_2 ⟨Nat.le_of_ble_eq_true rfl, Nat.le_of_ble_eq_true rfl⟩ ⟨Nat.le_of_ble_eq_true rfl, Nat.le_of_ble_eq_true rfl⟩) (fun r_6 H locs ws_3 h u_4 p_5 => ?_)
  obtain ⟨e_7, e_8⟩ := p_5
  refine lv_istore_n (lv' := [(1, .int r_6), (0, .ref (ad 0))]) C0.1 C0.2.1 dX12_isDrawn_5 rfl hl (by decide) rfl (fun ls hl => ?_)
  refine lv_iload_n C0.1 C0.2.1 dX12_isDrawn_6 rfl (lv_at hl 0 rfl) ?_
  refine y_c1 (n := 3) C0 (by decide) dX12_isDrawn_7 (fun v_9 e_10 => ?_)
  refine y_icmp_ne (tgt := 24) C0 dX12_isDrawn_8 (by decide) (fun c_11 => ?_) (fun c_11 => ?_)
  · -- 8
    refine lv_aload_n C0.1 C0.2.1 dX12_isDrawn_24 rfl (lv_at hl 1 rfl) ?_
    refine lv_aload_n C0.1 C0.2.1 dX12_isDrawn_25 rfl (lv_at hl 1 rfl) ?_
    refine ng_X12_all C0 h kSM_0 q_1439 dX12_isDrawn_26 ?_
    refine y_c1 (n := 3) C0 (by decide) dX12_isDrawn_29 (fun v_12 e_13 => ?_)
    refine y_iald C0 h kSM_1 rfl (by decide) (o35_486 e_13) (o35_487 e_13) dX12_isDrawn_30 (fun v_14 e_15 e_16 e_17 => ?_)
    have f_18 := o35_488 v_12.toInt.toNat (o35_489 e_13) (o35_490 e_13)
    have e_19 : aI ws_3 1 3 = v_14 := (congrArg (aI ws_3 1) (ix_c (c := 3) (o35_491 e_13))).symm.trans e_15
    have q_20 : v_14.toInt = fp0.toInt := congrArg Int32.toInt (e_19.symm.trans (Eq.trans (Fr.aI u_4 kSM_1 (by decide)) ef0))
    refine y_ci h (y_rV (As := [.int v_14]) (rest := []) C0 hZ h (c_X12_draw l G Z ad _ h.2 v_14 (o35_492 fl0 fh0 (Int.le_trans f_18.1 e_16) (Int.le_trans e_17 f_18.2) q_20) (o35_493 fl0 fh0 (Int.le_trans f_18.1 e_16) (Int.le_trans e_17 f_18.2) q_20)) k_X12_draw q_1859 q_98 q_1857 kSM_0 rfl rfl rfl hl.1 rfl rfl (Nat.le_of_ble_eq_true rfl) dX12_isDrawn_31 ⟨Nat.le_of_ble_eq_true rfl, Nat.le_of_ble_eq_true rfl⟩ ⟨Nat.le_of_ble_eq_true rfl, Nat.le_of_ble_eq_true rfl⟩) (fun r_24 H locs ws_21 h u_22 p_23 => ?_)
    obtain ⟨e_25, e_26⟩ := p_23
    refine lv_istore_n (lv' := [(2, .int r_24), (1, .int r_6), (0, .ref (ad 0))]) C0.1 C0.2.1 dX12_isDrawn_34 rfl hl (by decide) rfl (fun ls hl => ?_)
    refine lv_iload_n C0.1 C0.2.1 dX12_isDrawn_35 rfl (lv_at hl 1 rfl) ?_
    refine y_c1 (n := 2) C0 (by decide) dX12_isDrawn_36 (fun v_27 e_28 => ?_)
    refine y_icmp_ne (tgt := 55) C0 dX12_isDrawn_37 (by decide) (fun c_29 => ?_) (fun c_29 => ?_)
    · -- 37
      refine lv_aload_n C0.1 C0.2.1 dX12_isDrawn_55 rfl (lv_at hl 2 rfl) ?_
      refine y_c1 (n := 4) C0 (by decide) dX12_isDrawn_56 (fun v_30 e_31 => ?_)
      refine y_ci h (y_rV (As := [.int v_30]) (rest := []) C0 hZ h (c_X12_draw l G Z ad _ h.2 v_30 (o35_484 e_31) (o35_485 e_31)) k_X12_draw q_1859 q_98 q_1857 kSM_0 rfl rfl rfl hl.1 rfl rfl (Nat.le_of_ble_eq_true rfl) dX12_isDrawn_57 ⟨Nat.le_of_ble_eq_true rfl, Nat.le_of_ble_eq_true rfl⟩ ⟨Nat.le_of_ble_eq_true rfl, Nat.le_of_ble_eq_true rfl⟩) (fun r_35 H locs ws_32 h u_33 p_34 => ?_)
      obtain ⟨e_36, e_37⟩ := p_34
      refine lv_istore_n (lv' := [(3, .int r_35), (2, .int r_24), (1, .int r_6), (0, .ref (ad 0))]) C0.1 C0.2.1 dX12_isDrawn_60 rfl hl (by decide) rfl (fun ls hl => ?_)
      refine lv_aload_n C0.1 C0.2.1 dX12_isDrawn_61 rfl (lv_at hl 3 rfl) ?_
      refine lv_iload_n C0.1 C0.2.1 dX12_isDrawn_62 rfl (lv_at hl 1 rfl) ?_
      refine y_i2l C0 dX12_isDrawn_63 (fun w_38 e_39 => ?_)
      refine lv_iload_n C0.1 C0.2.1 dX12_isDrawn_64 rfl (lv_at hl 0 rfl) ?_
      refine y_i2l C0 dX12_isDrawn_65 (fun w_40 e_41 => ?_)
      refine y_ci h (y_rV (As := [.long w_38, .long w_40]) (rest := []) C0 hZ h (c_X12_whyNot l G Z ad _ h.2 w_38 w_40 (J.pa hT hJ (Pa.tr (Pa.tr (Pa.fr u_4 (by decide)) (Pa.fr u_22 (by decide))) (Pa.fr u_33 (by decide))))) k_X12_whyNot q_1758 q_86 q_1756 kSM_0 rfl rfl rfl hl.1 rfl rfl (Nat.le_of_ble_eq_true rfl) dX12_isDrawn_66 ⟨Nat.le_of_ble_eq_true rfl, Nat.le_of_ble_eq_true rfl⟩ ⟨Nat.le_of_ble_eq_true rfl, Nat.le_of_ble_eq_true rfl⟩) (fun r_45 H locs ws_42 h u_43 p_44 => ?_)
      obtain ⟨e_46, e_47, e_48, e_49, e_50⟩ := p_44
      refine y_if_eq (tgt := 74) C0 dX12_isDrawn_69 (by decide) (fun c_51 => ?_) (fun c_51 => ?_)
      · -- 69
        refine lv_aload_n C0.1 C0.2.1 dX12_isDrawn_74 rfl (lv_at hl 3 rfl) ?_
        refine lv_iload_n C0.1 C0.2.1 dX12_isDrawn_75 rfl (lv_at hl 1 rfl) ?_
        refine lv_iload_n C0.1 C0.2.1 dX12_isDrawn_76 rfl (lv_at hl 0 rfl) ?_
        refine y_ci h (y_rV (As := [.int r_24, .int r_35]) (rest := []) C0 hZ h (c_X12_goes l G Z ad _ h.2 r_24 r_35 (o35_494 e_25 e_26 e_36 e_37 e_39 e_41 e_46 e_47 e_48 c_51) (o35_495 e_25 e_26 e_36 e_37 e_39 e_41 e_46 e_47 e_48 c_51) (o35_496 e_25 e_26 e_36 e_37 e_39 e_41 e_46 e_47 e_48 c_51) (o35_497 e_25 e_26 e_36 e_37 e_39 e_41 e_46 e_47 e_48 c_51) ((CanM.fr u_43 (by decide) (CanM.cg (e_49 (o35_498 e_25 e_26 e_36 e_37 e_39 e_41 e_46 e_47 e_48 c_51)) (o35_499 e_25 e_26 e_36 e_37 e_39 e_41 e_46 e_47 e_48 c_51) (o35_500 e_25 e_26 e_36 e_37 e_39 e_41 e_46 e_47 e_48 c_51)))) (Laid.pa hLd (Pa.tr (Pa.tr (Pa.tr (Pa.fr u_4 (by decide)) (Pa.fr u_22 (by decide))) (Pa.fr u_33 (by decide))) (Pa.fr u_43 (by decide))))) k_X12_goes q_1781 q_89 q_1779 kSM_0 rfl rfl rfl hl.1 rfl rfl (Nat.le_of_ble_eq_true rfl) dX12_isDrawn_77 ⟨Nat.le_of_ble_eq_true rfl, Nat.le_of_ble_eq_true rfl⟩ ⟨Nat.le_of_ble_eq_true rfl, Nat.le_of_ble_eq_true rfl⟩) (fun r_55 H locs ws_52 h u_53 p_54 => ?_)
        obtain ⟨e_56, e_57, e_58, e_59⟩ := p_54
        refine lv_pop C0.1 C0.2.1 dX12_isDrawn_80 rfl ?_
        refine y_c1 (n := 1) C0 (by decide) dX12_isDrawn_81 (fun v_60 e_61 => ?_)
        rw [hQ]
        exact y_zret C0 h (o35_501 e_61) (o35_502 e_61) (Fr.tr (Fr.tr (Fr.tr (Fr.tr (Fr.mono u_4 (by decide)) (Fr.mono u_22 (by decide))) (Fr.mono u_33 (by decide))) (Fr.mono u_43 (by decide))) (Fr.mono u_53 (by decide))) ⟨(o35_501 e_61), (o35_502 e_61), (Pa.tr (Pa.tr (Pa.tr (Pa.tr (Pa.fr u_4 (by decide)) (Pa.fr u_22 (by decide))) (Pa.fr u_33 (by decide))) (Pa.fr u_43 (by decide))) e_58), (Pw.tr (Pw.tr (Pw.tr (Pw.tr (Pw.fr u_4 (by decide)) (Pw.fr u_22 (by decide))) (Pw.fr u_33 (by decide))) (Pw.fr u_43 (by decide))) e_59)⟩ dX12_isDrawn_82
      · -- 69
        refine y_c1 (n := 0) C0 (by decide) dX12_isDrawn_72 (fun v_62 e_63 => ?_)
        rw [hQ]
        exact y_zret C0 h (o35_50 e_63) (o35_503 e_63) (Fr.tr (Fr.tr (Fr.tr (Fr.mono u_4 (by decide)) (Fr.mono u_22 (by decide))) (Fr.mono u_33 (by decide))) (Fr.mono u_43 (by decide))) ⟨(o35_50 e_63), (o35_503 e_63), (Pa.tr (Pa.tr (Pa.tr (Pa.fr u_4 (by decide)) (Pa.fr u_22 (by decide))) (Pa.fr u_33 (by decide))) (Pa.fr u_43 (by decide))), (Pw.tr (Pw.tr (Pw.tr (Pw.fr u_4 (by decide)) (Pw.fr u_22 (by decide))) (Pw.fr u_33 (by decide))) (Pw.fr u_43 (by decide)))⟩ dX12_isDrawn_73
    · -- 37
      refine lv_aload_n C0.1 C0.2.1 dX12_isDrawn_40 rfl (lv_at hl 2 rfl) ?_
      refine lv_iload_n C0.1 C0.2.1 dX12_isDrawn_41 rfl (lv_at hl 0 rfl) ?_
      refine y_c1 (n := 1) C0 (by decide) dX12_isDrawn_42 (fun v_64 e_65 => ?_)
      refine y_ci h (y_rV (As := [.int r_24, .int v_64]) (rest := []) C0 hZ h (c_X12_boughtBy l G Z ad _ h.2 r_24 v_64 (o35_221 e_25 e_26) (o35_222 e_25 e_26) (o35_147 e_65) (o35_504 e_65) (J.pa hT hJ (Pa.tr (Pa.fr u_4 (by decide)) (Pa.fr u_22 (by decide)))) (Laid.pa hLd (Pa.tr (Pa.fr u_4 (by decide)) (Pa.fr u_22 (by decide))))) k_X12_boughtBy q_1816 q_94 q_1814 kSM_0 rfl rfl rfl hl.1 rfl rfl (Nat.le_of_ble_eq_true rfl) dX12_isDrawn_43 ⟨Nat.le_of_ble_eq_true rfl, Nat.le_of_ble_eq_true rfl⟩ ⟨Nat.le_of_ble_eq_true rfl, Nat.le_of_ble_eq_true rfl⟩) (fun r_69 H locs ws_66 h u_67 p_68 => ?_)
      obtain ⟨e_70, e_71, e_72⟩ := p_68
      refine y_if_lt (tgt := 53) C0 dX12_isDrawn_46 (by decide) (fun c_73 => ?_) (fun c_73 => ?_)
      · -- 46
        refine y_c1 (n := 0) C0 (by decide) dX12_isDrawn_53 (fun v_74 e_75 => ?_)
        rw [hQ]
        exact y_zret C0 h (o35_50 e_75) (o35_503 e_75) (Fr.tr (Fr.tr (Fr.mono u_4 (by decide)) (Fr.mono u_22 (by decide))) (Fr.mono u_67 (by decide))) ⟨(o35_50 e_75), (o35_503 e_75), (Pa.tr (Pa.tr (Pa.fr u_4 (by decide)) (Pa.fr u_22 (by decide))) e_71), (Pw.tr (Pw.tr (Pw.fr u_4 (by decide)) (Pw.fr u_22 (by decide))) e_72)⟩ dX12_isDrawn_54
      · -- 46
        refine y_c1 (n := 1) C0 (by decide) dX12_isDrawn_49 (fun v_76 e_77 => ?_)
        refine lv_goto (tgt := 54) C0.1 C0.2.1 dX12_isDrawn_50 (by decide) ?_
        rw [hQ]
        exact y_zret C0 h (o35_501 e_77) (o35_502 e_77) (Fr.tr (Fr.tr (Fr.mono u_4 (by decide)) (Fr.mono u_22 (by decide))) (Fr.mono u_67 (by decide))) ⟨(o35_501 e_77), (o35_502 e_77), (Pa.tr (Pa.tr (Pa.fr u_4 (by decide)) (Pa.fr u_22 (by decide))) e_71), (Pw.tr (Pw.tr (Pw.fr u_4 (by decide)) (Pw.fr u_22 (by decide))) e_72)⟩ dX12_isDrawn_54
  · -- 8
    refine lv_aload_n C0.1 C0.2.1 dX12_isDrawn_11 rfl (lv_at hl 1 rfl) ?_
    refine ng_X12_all C0 h kSM_0 q_1439 dX12_isDrawn_12 ?_
    refine y_c2 (n := 111) C0 (by decide) dX12_isDrawn_15 (fun v_78 e_79 => ?_)
    refine lv_dup2_11 C0.1 C0.2.1 dX12_isDrawn_17 rfl rfl ?_
    refine y_iald C0 h kSM_1 rfl (by decide) (o35_60 e_79) (o35_61 e_79) dX12_isDrawn_18 (fun v_80 e_81 e_82 e_83 => ?_)
    have e_84 : aI ws_3 1 111 = v_80 := (congrArg (aI ws_3 1) (ix_c (c := 111) (o35_62 e_79))).symm.trans e_81
    refine y_c1 (n := 1) C0 (by decide) dX12_isDrawn_19 (fun v_85 e_86 => ?_)
    refine y_iaddU C0 dX12_isDrawn_20 (fun v_87 => ?_)
    have f_90 := o35_424 v_78.toInt.toNat (o35_425 e_79) (o35_426 e_79)
    refine y_iast C0 h kSM_1 rfl (by decide) (o35_60 e_79) (o35_61 e_79) (Int.le_trans f_90.1 (le_min v_87)) (Int.le_trans (le_max v_87) f_90.2) dX12_isDrawn_21 (fun H locs ws_88 h u_89 => ?_)
    have e_91 : aI ws_88 1 111 = v_87 := (congrArg (aI ws_88 1) (ix_c (c := 111) (o35_62 e_79))).symm.trans u_89.2.1
    refine y_c1 (n := 1) C0 (by decide) dX12_isDrawn_22 (fun v_92 e_93 => ?_)
    rw [hQ]
    exact y_zret C0 h (o35_501 e_93) (o35_502 e_93) (Fr.tr (Fr.mono u_4 (by decide)) (Fr.up u_89.1 kSM_1 (by decide))) ⟨(o35_501 e_93), (o35_502 e_93), (Pa.tr (Pa.fr u_4 (by decide)) (Pa.st u_89 (o35_428 e_79) (o35_429 e_79))), (Pw.tr (Pw.fr u_4 (by decide)) (Pw.st u_89 (o35_427 e_79)))⟩ dX12_isDrawn_23
