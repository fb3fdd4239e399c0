theorem dX12_boughtBy_0 : decode cX12_boughtBy 0 = .ok (.aload_n 0, 1) := by decide +kernel
theorem dX12_boughtBy_1 : decode cX12_boughtBy 1 = .ok (.invokevirtual 297, 3) := by decide +kernel
theorem dX12_boughtBy_4 : decode cX12_boughtBy 4 = .ok (.aload_n 0, 1) := by decide +kernel
theorem dX12_boughtBy_5 : decode cX12_boughtBy 5 = .ok (.iload_n 1, 1) := by decide +kernel
theorem dX12_boughtBy_6 : decode cX12_boughtBy 6 = .ok (.iload_n 2, 1) := by decide +kernel
theorem dX12_boughtBy_7 : decode cX12_boughtBy 7 = .ok (.invokevirtual 321, 3) := by decide +kernel
theorem dX12_boughtBy_10 : decode cX12_boughtBy 10 = .ok (.lstore_n 3, 1) := by decide +kernel
theorem dX12_boughtBy_11 : decode cX12_boughtBy 11 = .ok (.lload_n 3, 1) := by decide +kernel
theorem dX12_boughtBy_12 : decode cX12_boughtBy 12 = .ok (.aload_n 0, 1) := by decide +kernel
theorem dX12_boughtBy_13 : decode cX12_boughtBy 13 = .ok (.getfield 13, 3) := by decide +kernel
theorem dX12_boughtBy_16 : decode cX12_boughtBy 16 = .ok (.bipush 51, 2) := by decide +kernel
theorem dX12_boughtBy_18 : decode cX12_boughtBy 18 = .ok (.iload_n 1, 1) := by decide +kernel
theorem dX12_boughtBy_19 : decode cX12_boughtBy 19 = .ok (.iadd, 1) := by decide +kernel
theorem dX12_boughtBy_20 : decode cX12_boughtBy 20 = .ok (.iaload, 1) := by decide +kernel
theorem dX12_boughtBy_21 : decode cX12_boughtBy 21 = .ok (.i2l, 1) := by decide +kernel
theorem dX12_boughtBy_22 : decode cX12_boughtBy 22 = .ok (.lcmp, 1) := by decide +kernel
theorem dX12_boughtBy_23 : decode cX12_boughtBy 23 = .ok (.ifCond .gt 49, 3) := by decide +kernel
theorem dX12_boughtBy_26 : decode cX12_boughtBy 26 = .ok (.aload_n 0, 1) := by decide +kernel
theorem dX12_boughtBy_27 : decode cX12_boughtBy 27 = .ok (.getfield 13, 3) := by decide +kernel
theorem dX12_boughtBy_30 : decode cX12_boughtBy 30 = .ok (.bipush 46, 2) := by decide +kernel
theorem dX12_boughtBy_32 : decode cX12_boughtBy 32 = .ok (.iload_n 1, 1) := by decide +kernel
theorem dX12_boughtBy_33 : decode cX12_boughtBy 33 = .ok (.iadd, 1) := by decide +kernel
theorem dX12_boughtBy_34 : decode cX12_boughtBy 34 = .ok (.iaload, 1) := by decide +kernel
theorem dX12_boughtBy_35 : decode cX12_boughtBy 35 = .ok (.iload_n 2, 1) := by decide +kernel
theorem dX12_boughtBy_36 : decode cX12_boughtBy 36 = .ok (.iadd, 1) := by decide +kernel
theorem dX12_boughtBy_37 : decode cX12_boughtBy 37 = .ok (.bipush 99, 2) := by decide +kernel
theorem dX12_boughtBy_39 : decode cX12_boughtBy 39 = .ok (.if_icmp .gt 33, 3) := by decide +kernel
theorem dX12_boughtBy_42 : decode cX12_boughtBy 42 = .ok (.aload_n 0, 1) := by decide +kernel
theorem dX12_boughtBy_43 : decode cX12_boughtBy 43 = .ok (.getfield 13, 3) := by decide +kernel
theorem dX12_boughtBy_46 : decode cX12_boughtBy 46 = .ok (.bipush 51, 2) := by decide +kernel
theorem dX12_boughtBy_48 : decode cX12_boughtBy 48 = .ok (.iload_n 1, 1) := by decide +kernel
theorem dX12_boughtBy_49 : decode cX12_boughtBy 49 = .ok (.iadd, 1) := by decide +kernel
theorem dX12_boughtBy_50 : decode cX12_boughtBy 50 = .ok (.dup2, 1) := by decide +kernel
theorem dX12_boughtBy_51 : decode cX12_boughtBy 51 = .ok (.iaload, 1) := by decide +kernel
theorem dX12_boughtBy_52 : decode cX12_boughtBy 52 = .ok (.lload_n 3, 1) := by decide +kernel
theorem dX12_boughtBy_53 : decode cX12_boughtBy 53 = .ok (.l2i, 1) := by decide +kernel
theorem dX12_boughtBy_54 : decode cX12_boughtBy 54 = .ok (.isub, 1) := by decide +kernel
theorem dX12_boughtBy_55 : decode cX12_boughtBy 55 = .ok (.iastore, 1) := by decide +kernel
theorem dX12_boughtBy_56 : decode cX12_boughtBy 56 = .ok (.aload_n 0, 1) := by decide +kernel
theorem dX12_boughtBy_57 : decode cX12_boughtBy 57 = .ok (.getfield 13, 3) := by decide +kernel
theorem dX12_boughtBy_60 : decode cX12_boughtBy 60 = .ok (.bipush 46, 2) := by decide +kernel
theorem dX12_boughtBy_62 : decode cX12_boughtBy 62 = .ok (.iload_n 1, 1) := by decide +kernel
theorem dX12_boughtBy_63 : decode cX12_boughtBy 63 = .ok (.iadd, 1) := by decide +kernel
theorem dX12_boughtBy_64 : decode cX12_boughtBy 64 = .ok (.dup2, 1) := by decide +kernel
theorem dX12_boughtBy_65 : decode cX12_boughtBy 65 = .ok (.iaload, 1) := by decide +kernel
theorem dX12_boughtBy_66 : decode cX12_boughtBy 66 = .ok (.iload_n 2, 1) := by decide +kernel
theorem dX12_boughtBy_67 : decode cX12_boughtBy 67 = .ok (.iadd, 1) := by decide +kernel
theorem dX12_boughtBy_68 : decode cX12_boughtBy 68 = .ok (.iastore, 1) := by decide +kernel
theorem dX12_boughtBy_69 : decode cX12_boughtBy 69 = .ok (.lload_n 3, 1) := by decide +kernel
theorem dX12_boughtBy_70 : decode cX12_boughtBy 70 = .ok (.l2i, 1) := by decide +kernel
theorem dX12_boughtBy_71 : decode cX12_boughtBy 71 = .ok (.ireturn, 1) := by decide +kernel
theorem dX12_boughtBy_72 : decode cX12_boughtBy 72 = .ok (.lload_n 3, 1) := by decide +kernel
theorem dX12_boughtBy_73 : decode cX12_boughtBy 73 = .ok (.aload_n 0, 1) := by decide +kernel
theorem dX12_boughtBy_74 : decode cX12_boughtBy 74 = .ok (.getfield 13, 3) := by decide +kernel
theorem dX12_boughtBy_77 : decode cX12_boughtBy 77 = .ok (.bipush 51, 2) := by decide +kernel
theorem dX12_boughtBy_79 : decode cX12_boughtBy 79 = .ok (.iload_n 1, 1) := by decide +kernel
theorem dX12_boughtBy_80 : decode cX12_boughtBy 80 = .ok (.iadd, 1) := by decide +kernel
theorem dX12_boughtBy_81 : decode cX12_boughtBy 81 = .ok (.iaload, 1) := by decide +kernel
theorem dX12_boughtBy_82 : decode cX12_boughtBy 82 = .ok (.i2l, 1) := by decide +kernel
theorem dX12_boughtBy_83 : decode cX12_boughtBy 83 = .ok (.lcmp, 1) := by decide +kernel
theorem dX12_boughtBy_84 : decode cX12_boughtBy 84 = .ok (.ifCond .le 7, 3) := by decide +kernel
theorem dX12_boughtBy_87 : decode cX12_boughtBy 87 = .ok (.iconst 1, 1) := by decide +kernel
theorem dX12_boughtBy_88 : decode cX12_boughtBy 88 = .ok (.goto 4, 3) := by decide +kernel
theorem dX12_boughtBy_91 : decode cX12_boughtBy 91 = .ok (.iconst 0, 1) := by decide +kernel
theorem dX12_boughtBy_92 : decode cX12_boughtBy 92 = .ok (.istore 5, 2) := by decide +kernel
theorem dX12_boughtBy_94 : decode cX12_boughtBy 94 = .ok (.aload_n 0, 1) := by decide +kernel
theorem dX12_boughtBy_95 : decode cX12_boughtBy 95 = .ok (.invokevirtual 318, 3) := by decide +kernel
theorem dX12_boughtBy_98 : decode cX12_boughtBy 98 = .ok (.iload 5, 2) := by decide +kernel
theorem dX12_boughtBy_100 : decode cX12_boughtBy 100 = .ok (.ifCond .eq 8, 3) := by decide +kernel
theorem dX12_boughtBy_103 : decode cX12_boughtBy 103 = .ok (.bipush (-5), 2) := by decide +kernel
theorem dX12_boughtBy_105 : decode cX12_boughtBy 105 = .ok (.goto 5, 3) := by decide +kernel
theorem dX12_boughtBy_108 : decode cX12_boughtBy 108 = .ok (.bipush (-4), 2) := by decide +kernel
theorem dX12_boughtBy_110 : decode cX12_boughtBy 110 = .ok (.ireturn, 1) := by decide +kernel
theorem dX12_buy_0 : decode cX12_buy 0 = .ok (.aload_n 0, 1) := by decide +kernel
theorem dX12_buy_1 : decode cX12_buy 1 = .ok (.iconst 0, 1) := by decide +kernel
theorem dX12_buy_2 : decode cX12_buy 2 = .ok (.putfield 1, 3) := by decide +kernel
theorem dX12_buy_5 : decode cX12_buy 5 = .ok (.aload_n 0, 1) := by decide +kernel
theorem dX12_buy_6 : decode cX12_buy 6 = .ok (.iload_n 1, 1) := by decide +kernel
theorem dX12_buy_7 : decode cX12_buy 7 = .ok (.i2l, 1) := by decide +kernel
theorem dX12_buy_8 : decode cX12_buy 8 = .ok (.invokevirtual 253, 3) := by decide +kernel
theorem dX12_buy_11 : decode cX12_buy 11 = .ok (.ifCond .ne 6, 3) := by decide +kernel
theorem dX12_buy_14 : decode cX12_buy 14 = .ok (.bipush (-2), 2) := by decide +kernel
theorem dX12_buy_16 : decode cX12_buy 16 = .ok (.ireturn, 1) := by decide +kernel
theorem dX12_buy_17 : decode cX12_buy 17 = .ok (.iload_n 2, 1) := by decide +kernel
theorem dX12_buy_18 : decode cX12_buy 18 = .ok (.i2l, 1) := by decide +kernel
theorem dX12_buy_19 : decode cX12_buy 19 = .ok (.lconst 1, 1) := by decide +kernel
theorem dX12_buy_20 : decode cX12_buy 20 = .ok (.ldc2_w 170, 3) := by decide +kernel
theorem dX12_buy_23 : decode cX12_buy 23 = .ok (.invokestatic 161, 3) := by decide +kernel
theorem dX12_buy_26 : decode cX12_buy 26 = .ok (.ifCond .ne 6, 3) := by decide +kernel
theorem dX12_buy_29 : decode cX12_buy 29 = .ok (.bipush (-3), 2) := by decide +kernel
theorem dX12_buy_31 : decode cX12_buy 31 = .ok (.ireturn, 1) := by decide +kernel
theorem dX12_buy_32 : decode cX12_buy 32 = .ok (.aload_n 0, 1) := by decide +kernel
theorem dX12_buy_33 : decode cX12_buy 33 = .ok (.iload_n 1, 1) := by decide +kernel
theorem dX12_buy_34 : decode cX12_buy 34 = .ok (.iload_n 2, 1) := by decide +kernel
theorem dX12_buy_35 : decode cX12_buy 35 = .ok (.invokevirtual 325, 3) := by decide +kernel
theorem dX12_buy_38 : decode cX12_buy 38 = .ok (.istore_n 3, 1) := by decide +kernel
theorem dX12_buy_39 : decode cX12_buy 39 = .ok (.iload_n 3, 1) := by decide +kernel
theorem dX12_buy_40 : decode cX12_buy 40 = .ok (.ifCond .lt 7, 3) := by decide +kernel
theorem dX12_buy_43 : decode cX12_buy 43 = .ok (.aload_n 0, 1) := by decide +kernel
theorem dX12_buy_44 : decode cX12_buy 44 = .ok (.invokevirtual 303, 3) := by decide +kernel
theorem dX12_buy_47 : decode cX12_buy 47 = .ok (.iload_n 3, 1) := by decide +kernel
theorem dX12_buy_48 : decode cX12_buy 48 = .ok (.ireturn, 1) := by decide +kernel
theorem dX12_buys_0 : decode cX12_buys 0 = .ok (.lconst 0, 1) := by decide +kernel
theorem dX12_buys_1 : decode cX12_buys 1 = .ok (.lstore_n 3, 1) := by decide +kernel
theorem dX12_buys_2 : decode cX12_buys 2 = .ok (.iconst 0, 1) := by decide +kernel
theorem dX12_buys_3 : decode cX12_buys 3 = .ok (.istore 5, 2) := by decide +kernel
theorem dX12_buys_5 : decode cX12_buys 5 = .ok (.iload 5, 2) := by decide +kernel
theorem dX12_buys_7 : decode cX12_buys 7 = .ok (.iload_n 2, 1) := by decide +kernel
theorem dX12_buys_8 : decode cX12_buys 8 = .ok (.if_icmp .ge 57, 3) := by decide +kernel
theorem dX12_buys_11 : decode cX12_buys 11 = .ok (.lload_n 3, 1) := by decide +kernel
theorem dX12_buys_12 : decode cX12_buys 12 = .ok (.aload_n 0, 1) := by decide +kernel
theorem dX12_buys_13 : decode cX12_buys 13 = .ok (.aload_n 0, 1) := by decide +kernel
theorem dX12_buys_14 : decode cX12_buys 14 = .ok (.getfield 13, 3) := by decide +kernel
theorem dX12_buys_17 : decode cX12_buys 17 = .ok (.bipush 36, 2) := by decide +kernel
theorem dX12_buys_19 : decode cX12_buys 19 = .ok (.iload_n 1, 1) := by decide +kernel
theorem dX12_buys_20 : decode cX12_buys 20 = .ok (.iadd, 1) := by decide +kernel
theorem dX12_buys_21 : decode cX12_buys 21 = .ok (.iaload, 1) := by decide +kernel
theorem dX12_buys_22 : decode cX12_buys 22 = .ok (.iconst 0, 1) := by decide +kernel
theorem dX12_buys_23 : decode cX12_buys 23 = .ok (.aload_n 0, 1) := by decide +kernel
theorem dX12_buys_24 : decode cX12_buys 24 = .ok (.getfield 13, 3) := by decide +kernel
theorem dX12_buys_27 : decode cX12_buys 27 = .ok (.bipush 41, 2) := by decide +kernel
theorem dX12_buys_29 : decode cX12_buys 29 = .ok (.iload_n 1, 1) := by decide +kernel
theorem dX12_buys_30 : decode cX12_buys 30 = .ok (.iadd, 1) := by decide +kernel
theorem dX12_buys_31 : decode cX12_buys 31 = .ok (.iaload, 1) := by decide +kernel
theorem dX12_buys_32 : decode cX12_buys 32 = .ok (.invokevirtual 266, 3) := by decide +kernel
theorem dX12_buys_35 : decode cX12_buys 35 = .ok (.i2l, 1) := by decide +kernel
theorem dX12_buys_36 : decode cX12_buys 36 = .ok (.ladd, 1) := by decide +kernel
theorem dX12_buys_37 : decode cX12_buys 37 = .ok (.lstore_n 3, 1) := by decide +kernel
theorem dX12_buys_38 : decode cX12_buys 38 = .ok (.aload_n 0, 1) := by decide +kernel
theorem dX12_buys_39 : decode cX12_buys 39 = .ok (.getfield 13, 3) := by decide +kernel
theorem dX12_buys_42 : decode cX12_buys 42 = .ok (.bipush 61, 2) := by decide +kernel
theorem dX12_buys_44 : decode cX12_buys 44 = .ok (.aload_n 0, 1) := by decide +kernel
theorem dX12_buys_45 : decode cX12_buys 45 = .ok (.getfield 13, 3) := by decide +kernel
theorem dX12_buys_48 : decode cX12_buys 48 = .ok (.bipush 36, 2) := by decide +kernel
theorem dX12_buys_50 : decode cX12_buys 50 = .ok (.iload_n 1, 1) := by decide +kernel
theorem dX12_buys_51 : decode cX12_buys 51 = .ok (.iadd, 1) := by decide +kernel
theorem dX12_buys_52 : decode cX12_buys 52 = .ok (.iaload, 1) := by decide +kernel
theorem dX12_buys_53 : decode cX12_buys 53 = .ok (.iadd, 1) := by decide +kernel
theorem dX12_buys_54 : decode cX12_buys 54 = .ok (.dup2, 1) := by decide +kernel
theorem dX12_buys_55 : decode cX12_buys 55 = .ok (.iaload, 1) := by decide +kernel
theorem dX12_buys_56 : decode cX12_buys 56 = .ok (.iconst 1, 1) := by decide +kernel
theorem dX12_buys_57 : decode cX12_buys 57 = .ok (.iadd, 1) := by decide +kernel
theorem dX12_buys_58 : decode cX12_buys 58 = .ok (.iastore, 1) := by decide +kernel
theorem dX12_buys_59 : decode cX12_buys 59 = .ok (.iinc 5 1, 3) := by decide +kernel
theorem dX12_buys_62 : decode cX12_buys 62 = .ok (.goto (-57), 3) := by decide +kernel
theorem dX12_buys_65 : decode cX12_buys 65 = .ok (.lload_n 3, 1) := by decide +kernel
theorem dX12_buys_66 : decode cX12_buys 66 = .ok (.lreturn, 1) := by decide +kernel
theorem dX12_crossing_0 : decode cX12_crossing 0 = .ok (.aload_n 0, 1) := by decide +kernel
theorem dX12_crossing_1 : decode cX12_crossing 1 = .ok (.iconst 0, 1) := by decide +kernel
theorem dX12_crossing_2 : decode cX12_crossing 2 = .ok (.putfield 1, 3) := by decide +kernel
theorem dX12_crossing_5 : decode cX12_crossing 5 = .ok (.aload_n 0, 1) := by decide +kernel
theorem dX12_crossing_6 : decode cX12_crossing 6 = .ok (.iload_n 1, 1) := by decide +kernel
theorem dX12_crossing_7 : decode cX12_crossing 7 = .ok (.i2l, 1) := by decide +kernel
theorem dX12_crossing_8 : decode cX12_crossing 8 = .ok (.invokevirtual 257, 3) := by decide +kernel
theorem dX12_crossing_11 : decode cX12_crossing 11 = .ok (.ifCond .ne 6, 3) := by decide +kernel
theorem dX12_crossing_14 : decode cX12_crossing 14 = .ok (.bipush (-2), 2) := by decide +kernel
theorem dX12_crossing_16 : decode cX12_crossing 16 = .ok (.ireturn, 1) := by decide +kernel
theorem dX12_crossing_17 : decode cX12_crossing 17 = .ok (.iload_n 2, 1) := by decide +kernel
theorem dX12_crossing_18 : decode cX12_crossing 18 = .ok (.tableswitch 114 0 4 #[34, 42, 52, 67, 108], 34) := by decide +kernel
theorem dX12_crossing_52 : decode cX12_crossing 52 = .ok (.aload_n 0, 1) := by decide +kernel
theorem dX12_crossing_53 : decode cX12_crossing 53 = .ok (.iload_n 1, 1) := by decide +kernel
theorem dX12_crossing_54 : decode cX12_crossing 54 = .ok (.iconst 0, 1) := by decide +kernel
theorem dX12_crossing_55 : decode cX12_crossing 55 = .ok (.iconst 0, 1) := by decide +kernel
theorem dX12_crossing_56 : decode cX12_crossing 56 = .ok (.invokevirtual 266, 3) := by decide +kernel
theorem dX12_crossing_59 : decode cX12_crossing 59 = .ok (.ireturn, 1) := by decide +kernel
theorem dX12_crossing_60 : decode cX12_crossing 60 = .ok (.aload_n 0, 1) := by decide +kernel
theorem dX12_crossing_61 : decode cX12_crossing 61 = .ok (.getfield 13, 3) := by decide +kernel
theorem dX12_crossing_64 : decode cX12_crossing 64 = .ok (.bipush 61, 2) := by decide +kernel
theorem dX12_crossing_66 : decode cX12_crossing 66 = .ok (.iload_n 1, 1) := by decide +kernel
theorem dX12_crossing_67 : decode cX12_crossing 67 = .ok (.iadd, 1) := by decide +kernel
theorem dX12_crossing_68 : decode cX12_crossing 68 = .ok (.iaload, 1) := by decide +kernel
theorem dX12_crossing_69 : decode cX12_crossing 69 = .ok (.ireturn, 1) := by decide +kernel
theorem dX12_crossing_70 : decode cX12_crossing 70 = .ok (.aload_n 0, 1) := by decide +kernel
theorem dX12_crossing_71 : decode cX12_crossing 71 = .ok (.iload_n 1, 1) := by decide +kernel
theorem dX12_crossing_72 : decode cX12_crossing 72 = .ok (.iconst 0, 1) := by decide +kernel
theorem dX12_crossing_73 : decode cX12_crossing 73 = .ok (.invokevirtual 269, 3) := by decide +kernel
theorem dX12_crossing_76 : decode cX12_crossing 76 = .ok (.ifCond .eq 7, 3) := by decide +kernel
theorem dX12_crossing_79 : decode cX12_crossing 79 = .ok (.iconst 1, 1) := by decide +kernel
theorem dX12_crossing_80 : decode cX12_crossing 80 = .ok (.goto 4, 3) := by decide +kernel
theorem dX12_crossing_83 : decode cX12_crossing 83 = .ok (.iconst 0, 1) := by decide +kernel
theorem dX12_crossing_84 : decode cX12_crossing 84 = .ok (.ireturn, 1) := by decide +kernel
theorem dX12_crossing_85 : decode cX12_crossing 85 = .ok (.aload_n 0, 1) := by decide +kernel
theorem dX12_crossing_86 : decode cX12_crossing 86 = .ok (.getfield 13, 3) := by decide +kernel
theorem dX12_crossing_89 : decode cX12_crossing 89 = .ok (.bipush 86, 2) := by decide +kernel
theorem dX12_crossing_91 : decode cX12_crossing 91 = .ok (.iload_n 1, 1) := by decide +kernel
theorem dX12_crossing_92 : decode cX12_crossing 92 = .ok (.iadd, 1) := by decide +kernel
theorem dX12_crossing_93 : decode cX12_crossing 93 = .ok (.iaload, 1) := by decide +kernel
theorem dX12_crossing_94 : decode cX12_crossing 94 = .ok (.aload_n 0, 1) := by decide +kernel
theorem dX12_crossing_95 : decode cX12_crossing 95 = .ok (.getfield 13, 3) := by decide +kernel
theorem dX12_crossing_98 : decode cX12_crossing 98 = .ok (.bipush 111, 2) := by decide +kernel
theorem dX12_crossing_100 : decode cX12_crossing 100 = .ok (.iaload, 1) := by decide +kernel
theorem dX12_crossing_101 : decode cX12_crossing 101 = .ok (.if_icmp .le 23, 3) := by decide +kernel
theorem dX12_crossing_104 : decode cX12_crossing 104 = .ok (.aload_n 0, 1) := by decide +kernel
theorem dX12_crossing_105 : decode cX12_crossing 105 = .ok (.getfield 13, 3) := by decide +kernel
theorem dX12_crossing_108 : decode cX12_crossing 108 = .ok (.bipush 86, 2) := by decide +kernel
theorem dX12_crossing_110 : decode cX12_crossing 110 = .ok (.iload_n 1, 1) := by decide +kernel
theorem dX12_crossing_111 : decode cX12_crossing 111 = .ok (.iadd, 1) := by decide +kernel
theorem dX12_crossing_112 : decode cX12_crossing 112 = .ok (.iaload, 1) := by decide +kernel
theorem dX12_crossing_113 : decode cX12_crossing 113 = .ok (.aload_n 0, 1) := by decide +kernel
theorem dX12_crossing_114 : decode cX12_crossing 114 = .ok (.getfield 13, 3) := by decide +kernel
theorem dX12_crossing_117 : decode cX12_crossing 117 = .ok (.bipush 111, 2) := by decide +kernel
theorem dX12_crossing_119 : decode cX12_crossing 119 = .ok (.iaload, 1) := by decide +kernel
theorem dX12_crossing_120 : decode cX12_crossing 120 = .ok (.isub, 1) := by decide +kernel
theorem dX12_crossing_121 : decode cX12_crossing 121 = .ok (.goto 4, 3) := by decide +kernel
theorem dX12_crossing_124 : decode cX12_crossing 124 = .ok (.iconst 0, 1) := by decide +kernel
theorem dX12_crossing_125 : decode cX12_crossing 125 = .ok (.ireturn, 1) := by decide +kernel
theorem dX12_crossing_126 : decode cX12_crossing 126 = .ok (.aload_n 0, 1) := by decide +kernel
theorem dX12_crossing_127 : decode cX12_crossing 127 = .ok (.iload_n 1, 1) := by decide +kernel
theorem dX12_crossing_128 : decode cX12_crossing 128 = .ok (.invokevirtual 273, 3) := by decide +kernel
theorem dX12_crossing_131 : decode cX12_crossing 131 = .ok (.ireturn, 1) := by decide +kernel
theorem dX12_crossing_132 : decode cX12_crossing 132 = .ok (.bipush (-2), 2) := by decide +kernel
theorem dX12_crossing_134 : decode cX12_crossing 134 = .ok (.ireturn, 1) := by decide +kernel
theorem dX12_draw_0 : decode cX12_draw 0 = .ok (.aload_n 0, 1) := by decide +kernel
theorem dX12_draw_1 : decode cX12_draw 1 = .ok (.ldc_w 335, 3) := by decide +kernel
theorem dX12_draw_4 : decode cX12_draw 4 = .ok (.aload_n 0, 1) := by decide +kernel
theorem dX12_draw_5 : decode cX12_draw 5 = .ok (.getfield 336, 3) := by decide +kernel
theorem dX12_draw_8 : decode cX12_draw 8 = .ok (.imul, 1) := by decide +kernel
theorem dX12_draw_9 : decode cX12_draw 9 = .ok (.sipush 12345, 3) := by decide +kernel
theorem dX12_draw_12 : decode cX12_draw 12 = .ok (.iadd, 1) := by decide +kernel
theorem dX12_draw_13 : decode cX12_draw 13 = .ok (.putfield 336, 3) := by decide +kernel
theorem dX12_draw_16 : decode cX12_draw 16 = .ok (.aload_n 0, 1) := by decide +kernel
theorem dX12_draw_17 : decode cX12_draw 17 = .ok (.getfield 336, 3) := by decide +kernel
theorem dX12_draw_20 : decode cX12_draw 20 = .ok (.bipush 16, 2) := by decide +kernel
theorem dX12_draw_22 : decode cX12_draw 22 = .ok (.iushr, 1) := by decide +kernel
theorem dX12_draw_23 : decode cX12_draw 23 = .ok (.iload_n 1, 1) := by decide +kernel
theorem dX12_draw_24 : decode cX12_draw 24 = .ok (.irem, 1) := by decide +kernel
theorem dX12_draw_25 : decode cX12_draw 25 = .ok (.ireturn, 1) := by decide +kernel
theorem dX12_fault_0 : decode cX12_fault 0 = .ok (.aload_n 0, 1) := by decide +kernel
theorem dX12_fault_1 : decode cX12_fault 1 = .ok (.iconst 0, 1) := by decide +kernel
theorem dX12_fault_2 : decode cX12_fault 2 = .ok (.putfield 1, 3) := by decide +kernel
theorem dX12_fault_5 : decode cX12_fault 5 = .ok (.iload_n 1, 1) := by decide +kernel
theorem dX12_fault_6 : decode cX12_fault 6 = .ok (.ifCond .ne 10, 3) := by decide +kernel
theorem dX12_fault_9 : decode cX12_fault 9 = .ok (.aload_n 0, 1) := by decide +kernel
theorem dX12_fault_10 : decode cX12_fault 10 = .ok (.getfield 226, 3) := by decide +kernel
theorem dX12_fault_13 : decode cX12_fault 13 = .ok (.goto 16, 3) := by decide +kernel
theorem dX12_fault_16 : decode cX12_fault 16 = .ok (.iload_n 1, 1) := by decide +kernel
theorem dX12_fault_17 : decode cX12_fault 17 = .ok (.iconst 1, 1) := by decide +kernel
theorem dX12_fault_18 : decode cX12_fault 18 = .ok (.if_icmp .ne 10, 3) := by decide +kernel
theorem dX12_fault_21 : decode cX12_fault 21 = .ok (.aload_n 0, 1) := by decide +kernel
theorem dX12_fault_22 : decode cX12_fault 22 = .ok (.getfield 27, 3) := by decide +kernel
theorem dX12_fault_25 : decode cX12_fault 25 = .ok (.goto 4, 3) := by decide +kernel
theorem dX12_fault_28 : decode cX12_fault 28 = .ok (.iconst (-1), 1) := by decide +kernel
theorem dX12_fault_29 : decode cX12_fault 29 = .ok (.ireturn, 1) := by decide +kernel
theorem dX12_fog_0 : decode cX12_fog 0 = .ok (.aload_n 0, 1) := by decide +kernel
theorem dX12_fog_1 : decode cX12_fog 1 = .ok (.iconst 0, 1) := by decide +kernel
theorem dX12_fog_2 : decode cX12_fog 2 = .ok (.putfield 1, 3) := by decide +kernel
theorem dX12_fog_5 : decode cX12_fog 5 = .ok (.aload_n 0, 1) := by decide +kernel
theorem dX12_fog_6 : decode cX12_fog 6 = .ok (.iload_n 1, 1) := by decide +kernel
theorem dX12_fog_7 : decode cX12_fog 7 = .ok (.i2l, 1) := by decide +kernel
theorem dX12_fog_8 : decode cX12_fog 8 = .ok (.invokevirtual 257, 3) := by decide +kernel
theorem dX12_fog_11 : decode cX12_fog 11 = .ok (.ifCond .ne 6, 3) := by decide +kernel
theorem dX12_fog_14 : decode cX12_fog 14 = .ok (.bipush (-2), 2) := by decide +kernel
theorem dX12_fog_16 : decode cX12_fog 16 = .ok (.ireturn, 1) := by decide +kernel
theorem dX12_fog_17 : decode cX12_fog 17 = .ok (.iload_n 2, 1) := by decide +kernel
theorem dX12_fog_18 : decode cX12_fog 18 = .ok (.i2l, 1) := by decide +kernel
theorem dX12_fog_19 : decode cX12_fog 19 = .ok (.lconst 1, 1) := by decide +kernel
theorem dX12_fog_20 : decode cX12_fog 20 = .ok (.ldc2_w 328, 3) := by decide +kernel
theorem dX12_fog_23 : decode cX12_fog 23 = .ok (.invokestatic 161, 3) := by decide +kernel
theorem dX12_fog_26 : decode cX12_fog 26 = .ok (.ifCond .ne 6, 3) := by decide +kernel
theorem dX12_fog_29 : decode cX12_fog 29 = .ok (.bipush (-3), 2) := by decide +kernel
theorem dX12_fog_31 : decode cX12_fog 31 = .ok (.ireturn, 1) := by decide +kernel
theorem dX12_fog_32 : decode cX12_fog 32 = .ok (.aload_n 0, 1) := by decide +kernel
theorem dX12_fog_33 : decode cX12_fog 33 = .ok (.invokevirtual 297, 3) := by decide +kernel
theorem dX12_fog_36 : decode cX12_fog 36 = .ok (.aload_n 0, 1) := by decide +kernel
theorem dX12_fog_37 : decode cX12_fog 37 = .ok (.getfield 13, 3) := by decide +kernel
theorem dX12_fog_40 : decode cX12_fog 40 = .ok (.bipush 86, 2) := by decide +kernel
theorem dX12_fog_42 : decode cX12_fog 42 = .ok (.iload_n 1, 1) := by decide +kernel
theorem dX12_fog_43 : decode cX12_fog 43 = .ok (.iadd, 1) := by decide +kernel
theorem dX12_fog_44 : decode cX12_fog 44 = .ok (.aload_n 0, 1) := by decide +kernel
theorem dX12_fog_45 : decode cX12_fog 45 = .ok (.getfield 13, 3) := by decide +kernel
theorem dX12_fog_48 : decode cX12_fog 48 = .ok (.bipush 111, 2) := by decide +kernel
theorem dX12_fog_50 : decode cX12_fog 50 = .ok (.iaload, 1) := by decide +kernel
theorem dX12_fog_51 : decode cX12_fog 51 = .ok (.iload_n 2, 1) := by decide +kernel
theorem dX12_fog_52 : decode cX12_fog 52 = .ok (.iadd, 1) := by decide +kernel
theorem dX12_fog_53 : decode cX12_fog 53 = .ok (.iastore, 1) := by decide +kernel
theorem dX12_fog_54 : decode cX12_fog 54 = .ok (.aload_n 0, 1) := by decide +kernel
theorem dX12_fog_55 : decode cX12_fog 55 = .ok (.invokevirtual 303, 3) := by decide +kernel
theorem dX12_fog_58 : decode cX12_fog 58 = .ok (.aload_n 0, 1) := by decide +kernel
theorem dX12_fog_59 : decode cX12_fog 59 = .ok (.invokevirtual 330, 3) := by decide +kernel
theorem dX12_fog_62 : decode cX12_fog 62 = .ok (.ireturn, 1) := by decide +kernel
theorem dX12_freeMany_0 : decode cX12_freeMany 0 = .ok (.iconst 0, 1) := by decide +kernel
theorem dX12_freeMany_1 : decode cX12_freeMany 1 = .ok (.istore_n 1, 1) := by decide +kernel
theorem dX12_freeMany_2 : decode cX12_freeMany 2 = .ok (.iconst 0, 1) := by decide +kernel
theorem dX12_freeMany_3 : decode cX12_freeMany 3 = .ok (.istore_n 2, 1) := by decide +kernel
theorem dX12_freeMany_4 : decode cX12_freeMany 4 = .ok (.iload_n 2, 1) := by decide +kernel
theorem dX12_freeMany_5 : decode cX12_freeMany 5 = .ok (.aload_n 0, 1) := by decide +kernel
theorem dX12_freeMany_6 : decode cX12_freeMany 6 = .ok (.invokevirtual 233, 3) := by decide +kernel
theorem dX12_freeMany_9 : decode cX12_freeMany 9 = .ok (.if_icmp .ge 26, 3) := by decide +kernel
theorem dX12_freeMany_12 : decode cX12_freeMany 12 = .ok (.iload_n 1, 1) := by decide +kernel
theorem dX12_freeMany_13 : decode cX12_freeMany 13 = .ok (.aload_n 0, 1) := by decide +kernel
theorem dX12_freeMany_14 : decode cX12_freeMany 14 = .ok (.iload_n 2, 1) := by decide +kernel
theorem dX12_freeMany_15 : decode cX12_freeMany 15 = .ok (.iconst 0, 1) := by decide +kernel
theorem dX12_freeMany_16 : decode cX12_freeMany 16 = .ok (.invokevirtual 269, 3) := by decide +kernel
theorem dX12_freeMany_19 : decode cX12_freeMany 19 = .ok (.ifCond .eq 7, 3) := by decide +kernel
theorem dX12_freeMany_22 : decode cX12_freeMany 22 = .ok (.iconst 1, 1) := by decide +kernel
theorem dX12_freeMany_23 : decode cX12_freeMany 23 = .ok (.goto 4, 3) := by decide +kernel
theorem dX12_freeMany_26 : decode cX12_freeMany 26 = .ok (.iconst 0, 1) := by decide +kernel
theorem dX12_freeMany_27 : decode cX12_freeMany 27 = .ok (.iadd, 1) := by decide +kernel
theorem dX12_freeMany_28 : decode cX12_freeMany 28 = .ok (.istore_n 1, 1) := by decide +kernel
theorem dX12_freeMany_29 : decode cX12_freeMany 29 = .ok (.iinc 2 1, 3) := by decide +kernel
theorem dX12_freeMany_32 : decode cX12_freeMany 32 = .ok (.goto (-28), 3) := by decide +kernel
theorem dX12_freeMany_35 : decode cX12_freeMany 35 = .ok (.iload_n 1, 1) := by decide +kernel
theorem dX12_freeMany_36 : decode cX12_freeMany 36 = .ok (.ireturn, 1) := by decide +kernel
theorem dX12_go_0 : decode cX12_go 0 = .ok (.aload_n 0, 1) := by decide +kernel
theorem dX12_go_1 : decode cX12_go 1 = .ok (.iconst 0, 1) := by decide +kernel
theorem dX12_go_2 : decode cX12_go 2 = .ok (.putfield 1, 3) := by decide +kernel
theorem dX12_go_5 : decode cX12_go 5 = .ok (.aload_n 0, 1) := by decide +kernel
theorem dX12_go_6 : decode cX12_go 6 = .ok (.iload_n 1, 1) := by decide +kernel
theorem dX12_go_7 : decode cX12_go 7 = .ok (.i2l, 1) := by decide +kernel
theorem dX12_go_8 : decode cX12_go 8 = .ok (.iload_n 2, 1) := by decide +kernel
theorem dX12_go_9 : decode cX12_go 9 = .ok (.i2l, 1) := by decide +kernel
theorem dX12_go_10 : decode cX12_go 10 = .ok (.invokevirtual 290, 3) := by decide +kernel
theorem dX12_go_13 : decode cX12_go 13 = .ok (.istore_n 3, 1) := by decide +kernel
theorem dX12_go_14 : decode cX12_go 14 = .ok (.iload_n 3, 1) := by decide +kernel
theorem dX12_go_15 : decode cX12_go 15 = .ok (.ifCond .eq 8, 3) := by decide +kernel
theorem dX12_go_18 : decode cX12_go 18 = .ok (.bipush (-10), 2) := by decide +kernel
theorem dX12_go_20 : decode cX12_go 20 = .ok (.iload_n 3, 1) := by decide +kernel
theorem dX12_go_21 : decode cX12_go 21 = .ok (.isub, 1) := by decide +kernel
theorem dX12_go_22 : decode cX12_go 22 = .ok (.ireturn, 1) := by decide +kernel
theorem dX12_go_23 : decode cX12_go 23 = .ok (.aload_n 0, 1) := by decide +kernel
theorem dX12_go_24 : decode cX12_go 24 = .ok (.invokevirtual 297, 3) := by decide +kernel
theorem dX12_go_27 : decode cX12_go 27 = .ok (.aload_n 0, 1) := by decide +kernel
theorem dX12_go_28 : decode cX12_go 28 = .ok (.iload_n 1, 1) := by decide +kernel
theorem dX12_go_29 : decode cX12_go 29 = .ok (.iload_n 2, 1) := by decide +kernel
theorem dX12_go_30 : decode cX12_go 30 = .ok (.invokevirtual 300, 3) := by decide +kernel
theorem dX12_go_33 : decode cX12_go 33 = .ok (.pop, 1) := by decide +kernel
theorem dX12_go_34 : decode cX12_go 34 = .ok (.aload_n 0, 1) := by decide +kernel
theorem dX12_go_35 : decode cX12_go 35 = .ok (.invokevirtual 303, 3) := by decide +kernel
theorem dX12_go_38 : decode cX12_go 38 = .ok (.aload_n 0, 1) := by decide +kernel
theorem dX12_go_39 : decode cX12_go 39 = .ok (.getfield 13, 3) := by decide +kernel
theorem dX12_go_42 : decode cX12_go 42 = .ok (.bipush 36, 2) := by decide +kernel
theorem dX12_go_44 : decode cX12_go 44 = .ok (.iload_n 1, 1) := by decide +kernel
theorem dX12_go_45 : decode cX12_go 45 = .ok (.iadd, 1) := by decide +kernel
theorem dX12_go_46 : decode cX12_go 46 = .ok (.iaload, 1) := by decide +kernel
theorem dX12_go_47 : decode cX12_go 47 = .ok (.ireturn, 1) := by decide +kernel
theorem dX12_hand_0 : decode cX12_hand 0 = .ok (.aload_n 0, 1) := by decide +kernel
theorem dX12_hand_1 : decode cX12_hand 1 = .ok (.iconst 0, 1) := by decide +kernel
theorem dX12_hand_2 : decode cX12_hand 2 = .ok (.putfield 1, 3) := by decide +kernel
theorem dX12_hand_5 : decode cX12_hand 5 = .ok (.aload_n 0, 1) := by decide +kernel
theorem dX12_hand_6 : decode cX12_hand 6 = .ok (.iload_n 1, 1) := by decide +kernel
theorem dX12_hand_7 : decode cX12_hand 7 = .ok (.i2l, 1) := by decide +kernel
theorem dX12_hand_8 : decode cX12_hand 8 = .ok (.invokevirtual 253, 3) := by decide +kernel
theorem dX12_hand_11 : decode cX12_hand 11 = .ok (.ifCond .eq 17, 3) := by decide +kernel
theorem dX12_hand_14 : decode cX12_hand 14 = .ok (.aload_n 0, 1) := by decide +kernel
theorem dX12_hand_15 : decode cX12_hand 15 = .ok (.iload_n 2, 1) := by decide +kernel
theorem dX12_hand_16 : decode cX12_hand 16 = .ok (.i2l, 1) := by decide +kernel
theorem dX12_hand_17 : decode cX12_hand 17 = .ok (.invokevirtual 253, 3) := by decide +kernel
theorem dX12_hand_20 : decode cX12_hand 20 = .ok (.ifCond .eq 8, 3) := by decide +kernel
theorem dX12_hand_23 : decode cX12_hand 23 = .ok (.iload_n 1, 1) := by decide +kernel
theorem dX12_hand_24 : decode cX12_hand 24 = .ok (.iload_n 2, 1) := by decide +kernel
theorem dX12_hand_25 : decode cX12_hand 25 = .ok (.if_icmp .ne 6, 3) := by decide +kernel
theorem dX12_hand_28 : decode cX12_hand 28 = .ok (.bipush (-2), 2) := by decide +kernel
theorem dX12_hand_30 : decode cX12_hand 30 = .ok (.ireturn, 1) := by decide +kernel
theorem dX12_hand_31 : decode cX12_hand 31 = .ok (.iload_n 3, 1) := by decide +kernel
theorem dX12_hand_32 : decode cX12_hand 32 = .ok (.i2l, 1) := by decide +kernel
theorem dX12_hand_33 : decode cX12_hand 33 = .ok (.lconst 1, 1) := by decide +kernel
theorem dX12_hand_34 : decode cX12_hand 34 = .ok (.ldc2_w 328, 3) := by decide +kernel
theorem dX12_hand_37 : decode cX12_hand 37 = .ok (.invokestatic 161, 3) := by decide +kernel
theorem dX12_hand_40 : decode cX12_hand 40 = .ok (.ifCond .ne 6, 3) := by decide +kernel
theorem dX12_hand_43 : decode cX12_hand 43 = .ok (.bipush (-3), 2) := by decide +kernel
theorem dX12_hand_45 : decode cX12_hand 45 = .ok (.ireturn, 1) := by decide +kernel
theorem dX12_hand_46 : decode cX12_hand 46 = .ok (.aload_n 0, 1) := by decide +kernel
theorem dX12_hand_47 : decode cX12_hand 47 = .ok (.getfield 13, 3) := by decide +kernel
theorem dX12_hand_50 : decode cX12_hand 50 = .ok (.bipush 36, 2) := by decide +kernel
theorem dX12_hand_52 : decode cX12_hand 52 = .ok (.iload_n 1, 1) := by decide +kernel
theorem dX12_hand_53 : decode cX12_hand 53 = .ok (.iadd, 1) := by decide +kernel
theorem dX12_hand_54 : decode cX12_hand 54 = .ok (.iaload, 1) := by decide +kernel
theorem dX12_hand_55 : decode cX12_hand 55 = .ok (.aload_n 0, 1) := by decide +kernel
theorem dX12_hand_56 : decode cX12_hand 56 = .ok (.getfield 13, 3) := by decide +kernel
theorem dX12_hand_59 : decode cX12_hand 59 = .ok (.bipush 36, 2) := by decide +kernel
theorem dX12_hand_61 : decode cX12_hand 61 = .ok (.iload_n 2, 1) := by decide +kernel
theorem dX12_hand_62 : decode cX12_hand 62 = .ok (.iadd, 1) := by decide +kernel
theorem dX12_hand_63 : decode cX12_hand 63 = .ok (.iaload, 1) := by decide +kernel
theorem dX12_hand_64 : decode cX12_hand 64 = .ok (.if_icmp .ne 16, 3) := by decide +kernel
theorem dX12_hand_67 : decode cX12_hand 67 = .ok (.aload_n 0, 1) := by decide +kernel
theorem dX12_hand_68 : decode cX12_hand 68 = .ok (.getfield 13, 3) := by decide +kernel
theorem dX12_hand_71 : decode cX12_hand 71 = .ok (.bipush 46, 2) := by decide +kernel
theorem dX12_hand_73 : decode cX12_hand 73 = .ok (.iload_n 1, 1) := by decide +kernel
theorem dX12_hand_74 : decode cX12_hand 74 = .ok (.iadd, 1) := by decide +kernel
theorem dX12_hand_75 : decode cX12_hand 75 = .ok (.iaload, 1) := by decide +kernel
theorem dX12_hand_76 : decode cX12_hand 76 = .ok (.iload_n 3, 1) := by decide +kernel
theorem dX12_hand_77 : decode cX12_hand 77 = .ok (.if_icmp .ge 6, 3) := by decide +kernel
theorem dX12_hand_80 : decode cX12_hand 80 = .ok (.bipush (-5), 2) := by decide +kernel
theorem dX12_hand_82 : decode cX12_hand 82 = .ok (.ireturn, 1) := by decide +kernel
theorem dX12_hand_83 : decode cX12_hand 83 = .ok (.aload_n 0, 1) := by decide +kernel
theorem dX12_hand_84 : decode cX12_hand 84 = .ok (.getfield 13, 3) := by decide +kernel
theorem dX12_hand_87 : decode cX12_hand 87 = .ok (.bipush 46, 2) := by decide +kernel
theorem dX12_hand_89 : decode cX12_hand 89 = .ok (.iload_n 2, 1) := by decide +kernel
theorem dX12_hand_90 : decode cX12_hand 90 = .ok (.iadd, 1) := by decide +kernel
theorem dX12_hand_91 : decode cX12_hand 91 = .ok (.iaload, 1) := by decide +kernel
theorem dX12_hand_92 : decode cX12_hand 92 = .ok (.iload_n 3, 1) := by decide +kernel
theorem dX12_hand_93 : decode cX12_hand 93 = .ok (.iadd, 1) := by decide +kernel
theorem dX12_hand_94 : decode cX12_hand 94 = .ok (.bipush 99, 2) := by decide +kernel
theorem dX12_hand_96 : decode cX12_hand 96 = .ok (.if_icmp .le 6, 3) := by decide +kernel
theorem dX12_hand_99 : decode cX12_hand 99 = .ok (.bipush (-4), 2) := by decide +kernel
theorem dX12_hand_101 : decode cX12_hand 101 = .ok (.ireturn, 1) := by decide +kernel
theorem dX12_hand_102 : decode cX12_hand 102 = .ok (.aload_n 0, 1) := by decide +kernel
theorem dX12_hand_103 : decode cX12_hand 103 = .ok (.invokevirtual 297, 3) := by decide +kernel
theorem dX12_hand_106 : decode cX12_hand 106 = .ok (.aload_n 0, 1) := by decide +kernel
theorem dX12_hand_107 : decode cX12_hand 107 = .ok (.getfield 13, 3) := by decide +kernel
theorem dX12_hand_110 : decode cX12_hand 110 = .ok (.bipush 46, 2) := by decide +kernel
theorem dX12_hand_112 : decode cX12_hand 112 = .ok (.iload_n 1, 1) := by decide +kernel
theorem dX12_hand_113 : decode cX12_hand 113 = .ok (.iadd, 1) := by decide +kernel
theorem dX12_hand_114 : decode cX12_hand 114 = .ok (.dup2, 1) := by decide +kernel
theorem dX12_hand_115 : decode cX12_hand 115 = .ok (.iaload, 1) := by decide +kernel
theorem dX12_hand_116 : decode cX12_hand 116 = .ok (.iload_n 3, 1) := by decide +kernel
theorem dX12_hand_117 : decode cX12_hand 117 = .ok (.isub, 1) := by decide +kernel
theorem dX12_hand_118 : decode cX12_hand 118 = .ok (.iastore, 1) := by decide +kernel
theorem dX12_hand_119 : decode cX12_hand 119 = .ok (.aload_n 0, 1) := by decide +kernel
theorem dX12_hand_120 : decode cX12_hand 120 = .ok (.getfield 13, 3) := by decide +kernel
theorem dX12_hand_123 : decode cX12_hand 123 = .ok (.bipush 46, 2) := by decide +kernel
theorem dX12_hand_125 : decode cX12_hand 125 = .ok (.iload_n 2, 1) := by decide +kernel
theorem dX12_hand_126 : decode cX12_hand 126 = .ok (.iadd, 1) := by decide +kernel
theorem dX12_hand_127 : decode cX12_hand 127 = .ok (.dup2, 1) := by decide +kernel
theorem dX12_hand_128 : decode cX12_hand 128 = .ok (.iaload, 1) := by decide +kernel
theorem dX12_hand_129 : decode cX12_hand 129 = .ok (.iload_n 3, 1) := by decide +kernel
theorem dX12_hand_130 : decode cX12_hand 130 = .ok (.iadd, 1) := by decide +kernel
theorem dX12_hand_131 : decode cX12_hand 131 = .ok (.iastore, 1) := by decide +kernel
theorem dX12_hand_132 : decode cX12_hand 132 = .ok (.aload_n 0, 1) := by decide +kernel
theorem dX12_hand_133 : decode cX12_hand 133 = .ok (.invokevirtual 303, 3) := by decide +kernel
theorem dX12_hand_136 : decode cX12_hand 136 = .ok (.aload_n 0, 1) := by decide +kernel
theorem dX12_hand_137 : decode cX12_hand 137 = .ok (.getfield 13, 3) := by decide +kernel
theorem dX12_hand_140 : decode cX12_hand 140 = .ok (.bipush 46, 2) := by decide +kernel
theorem dX12_hand_142 : decode cX12_hand 142 = .ok (.iload_n 2, 1) := by decide +kernel
theorem dX12_hand_143 : decode cX12_hand 143 = .ok (.iadd, 1) := by decide +kernel
theorem dX12_hand_144 : decode cX12_hand 144 = .ok (.iaload, 1) := by decide +kernel
theorem dX12_hand_145 : decode cX12_hand 145 = .ok (.ireturn, 1) := by decide +kernel
theorem dX12_hours_0 : decode cX12_hours 0 = .ok (.aload_n 0, 1) := by decide +kernel
theorem dX12_hours_1 : decode cX12_hours 1 = .ok (.iconst 0, 1) := by decide +kernel
theorem dX12_hours_2 : decode cX12_hours 2 = .ok (.putfield 1, 3) := by decide +kernel
theorem dX12_hours_5 : decode cX12_hours 5 = .ok (.iload_n 1, 1) := by decide +kernel
theorem dX12_hours_6 : decode cX12_hours 6 = .ok (.i2l, 1) := by decide +kernel
theorem dX12_hours_7 : decode cX12_hours 7 = .ok (.lconst 1, 1) := by decide +kernel
theorem dX12_hours_8 : decode cX12_hours 8 = .ok (.ldc2_w 328, 3) := by decide +kernel
theorem dX12_hours_11 : decode cX12_hours 11 = .ok (.invokestatic 161, 3) := by decide +kernel
theorem dX12_hours_14 : decode cX12_hours 14 = .ok (.ifCond .ne 6, 3) := by decide +kernel
theorem dX12_hours_17 : decode cX12_hours 17 = .ok (.bipush (-3), 2) := by decide +kernel
theorem dX12_hours_19 : decode cX12_hours 19 = .ok (.ireturn, 1) := by decide +kernel
theorem dX12_hours_20 : decode cX12_hours 20 = .ok (.aload_n 0, 1) := by decide +kernel
theorem dX12_hours_21 : decode cX12_hours 21 = .ok (.invokevirtual 297, 3) := by decide +kernel
theorem dX12_hours_24 : decode cX12_hours 24 = .ok (.aload_n 0, 1) := by decide +kernel
theorem dX12_hours_25 : decode cX12_hours 25 = .ok (.getfield 13, 3) := by decide +kernel
theorem dX12_hours_28 : decode cX12_hours 28 = .ok (.bipush 111, 2) := by decide +kernel
theorem dX12_hours_30 : decode cX12_hours 30 = .ok (.dup2, 1) := by decide +kernel
theorem dX12_hours_31 : decode cX12_hours 31 = .ok (.iaload, 1) := by decide +kernel
theorem dX12_hours_32 : decode cX12_hours 32 = .ok (.iload_n 1, 1) := by decide +kernel
theorem dX12_hours_33 : decode cX12_hours 33 = .ok (.iadd, 1) := by decide +kernel
theorem dX12_hours_34 : decode cX12_hours 34 = .ok (.iastore, 1) := by decide +kernel
theorem dX12_hours_35 : decode cX12_hours 35 = .ok (.aload_n 0, 1) := by decide +kernel
theorem dX12_hours_36 : decode cX12_hours 36 = .ok (.invokevirtual 303, 3) := by decide +kernel
theorem dX12_hours_39 : decode cX12_hours 39 = .ok (.aload_n 0, 1) := by decide +kernel
theorem dX12_hours_40 : decode cX12_hours 40 = .ok (.getfield 13, 3) := by decide +kernel
theorem dX12_hours_43 : decode cX12_hours 43 = .ok (.bipush 111, 2) := by decide +kernel
theorem dX12_hours_45 : decode cX12_hours 45 = .ok (.iaload, 1) := by decide +kernel
theorem dX12_hours_46 : decode cX12_hours 46 = .ok (.ireturn, 1) := by decide +kernel
theorem dX12_isDrawn_0 : decode cX12_isDrawn 0 = .ok (.aload_n 0, 1) := by decide +kernel
theorem dX12_isDrawn_1 : decode cX12_isDrawn 1 = .ok (.iconst 4, 1) := by decide +kernel
theorem dX12_isDrawn_2 : decode cX12_isDrawn 2 = .ok (.invokevirtual 339, 3) := by decide +kernel
theorem dX12_isDrawn_5 : decode cX12_isDrawn 5 = .ok (.istore_n 1, 1) := by decide +kernel
theorem dX12_isDrawn_6 : decode cX12_isDrawn 6 = .ok (.iload_n 1, 1) := by decide +kernel
theorem dX12_isDrawn_7 : decode cX12_isDrawn 7 = .ok (.iconst 3, 1) := by decide +kernel
theorem dX12_isDrawn_8 : decode cX12_isDrawn 8 = .ok (.if_icmp .ne 16, 3) := by decide +kernel
theorem dX12_isDrawn_11 : decode cX12_isDrawn 11 = .ok (.aload_n 0, 1) := by decide +kernel
theorem dX12_isDrawn_12 : decode cX12_isDrawn 12 = .ok (.getfield 13, 3) := by decide +kernel
theorem dX12_isDrawn_15 : decode cX12_isDrawn 15 = .ok (.bipush 111, 2) := by decide +kernel
theorem dX12_isDrawn_17 : decode cX12_isDrawn 17 = .ok (.dup2, 1) := by decide +kernel
theorem dX12_isDrawn_18 : decode cX12_isDrawn 18 = .ok (.iaload, 1) := by decide +kernel
theorem dX12_isDrawn_19 : decode cX12_isDrawn 19 = .ok (.iconst 1, 1) := by decide +kernel
theorem dX12_isDrawn_20 : decode cX12_isDrawn 20 = .ok (.iadd, 1) := by decide +kernel
theorem dX12_isDrawn_21 : decode cX12_isDrawn 21 = .ok (.iastore, 1) := by decide +kernel
theorem dX12_isDrawn_22 : decode cX12_isDrawn 22 = .ok (.iconst 1, 1) := by decide +kernel
theorem dX12_isDrawn_23 : decode cX12_isDrawn 23 = .ok (.ireturn, 1) := by decide +kernel
theorem dX12_isDrawn_24 : decode cX12_isDrawn 24 = .ok (.aload_n 0, 1) := by decide +kernel
theorem dX12_isDrawn_25 : decode cX12_isDrawn 25 = .ok (.aload_n 0, 1) := by decide +kernel
theorem dX12_isDrawn_26 : decode cX12_isDrawn 26 = .ok (.getfield 13, 3) := by decide +kernel
theorem dX12_isDrawn_29 : decode cX12_isDrawn 29 = .ok (.iconst 3, 1) := by decide +kernel
theorem dX12_isDrawn_30 : decode cX12_isDrawn 30 = .ok (.iaload, 1) := by decide +kernel
theorem dX12_isDrawn_31 : decode cX12_isDrawn 31 = .ok (.invokevirtual 339, 3) := by decide +kernel
theorem dX12_isDrawn_34 : decode cX12_isDrawn 34 = .ok (.istore_n 2, 1) := by decide +kernel
theorem dX12_isDrawn_35 : decode cX12_isDrawn 35 = .ok (.iload_n 1, 1) := by decide +kernel
theorem dX12_isDrawn_36 : decode cX12_isDrawn 36 = .ok (.iconst 2, 1) := by decide +kernel
theorem dX12_isDrawn_37 : decode cX12_isDrawn 37 = .ok (.if_icmp .ne 18, 3) := by decide +kernel
theorem dX12_isDrawn_40 : decode cX12_isDrawn 40 = .ok (.aload_n 0, 1) := by decide +kernel
theorem dX12_isDrawn_41 : decode cX12_isDrawn 41 = .ok (.iload_n 2, 1) := by decide +kernel
theorem dX12_isDrawn_42 : decode cX12_isDrawn 42 = .ok (.iconst 1, 1) := by decide +kernel
theorem dX12_isDrawn_43 : decode cX12_isDrawn 43 = .ok (.invokevirtual 325, 3) := by decide +kernel
theorem dX12_isDrawn_46 : decode cX12_isDrawn 46 = .ok (.ifCond .lt 7, 3) := by decide +kernel
theorem dX12_isDrawn_49 : decode cX12_isDrawn 49 = .ok (.iconst 1, 1) := by decide +kernel
theorem dX12_isDrawn_50 : decode cX12_isDrawn 50 = .ok (.goto 4, 3) := by decide +kernel
theorem dX12_isDrawn_53 : decode cX12_isDrawn 53 = .ok (.iconst 0, 1) := by decide +kernel
theorem dX12_isDrawn_54 : decode cX12_isDrawn 54 = .ok (.ireturn, 1) := by decide +kernel
theorem dX12_isDrawn_55 : decode cX12_isDrawn 55 = .ok (.aload_n 0, 1) := by decide +kernel
theorem dX12_isDrawn_56 : decode cX12_isDrawn 56 = .ok (.iconst 4, 1) := by decide +kernel
theorem dX12_isDrawn_57 : decode cX12_isDrawn 57 = .ok (.invokevirtual 339, 3) := by decide +kernel
theorem dX12_isDrawn_60 : decode cX12_isDrawn 60 = .ok (.istore_n 3, 1) := by decide +kernel
theorem dX12_isDrawn_61 : decode cX12_isDrawn 61 = .ok (.aload_n 0, 1) := by decide +kernel
theorem dX12_isDrawn_62 : decode cX12_isDrawn 62 = .ok (.iload_n 2, 1) := by decide +kernel
theorem dX12_isDrawn_63 : decode cX12_isDrawn 63 = .ok (.i2l, 1) := by decide +kernel
theorem dX12_isDrawn_64 : decode cX12_isDrawn 64 = .ok (.iload_n 3, 1) := by decide +kernel
theorem dX12_isDrawn_65 : decode cX12_isDrawn 65 = .ok (.i2l, 1) := by decide +kernel
theorem dX12_isDrawn_66 : decode cX12_isDrawn 66 = .ok (.invokevirtual 290, 3) := by decide +kernel
theorem dX12_isDrawn_69 : decode cX12_isDrawn 69 = .ok (.ifCond .eq 5, 3) := by decide +kernel
theorem dX12_isDrawn_72 : decode cX12_isDrawn 72 = .ok (.iconst 0, 1) := by decide +kernel
theorem dX12_isDrawn_73 : decode cX12_isDrawn 73 = .ok (.ireturn, 1) := by decide +kernel
theorem dX12_isDrawn_74 : decode cX12_isDrawn 74 = .ok (.aload_n 0, 1) := by decide +kernel
theorem dX12_isDrawn_75 : decode cX12_isDrawn 75 = .ok (.iload_n 2, 1) := by decide +kernel
theorem dX12_isDrawn_76 : decode cX12_isDrawn 76 = .ok (.iload_n 3, 1) := by decide +kernel
theorem dX12_isDrawn_77 : decode cX12_isDrawn 77 = .ok (.invokevirtual 300, 3) := by decide +kernel
theorem dX12_isDrawn_80 : decode cX12_isDrawn 80 = .ok (.pop, 1) := by decide +kernel
theorem dX12_isDrawn_81 : decode cX12_isDrawn 81 = .ok (.iconst 1, 1) := by decide +kernel
theorem dX12_isDrawn_82 : decode cX12_isDrawn 82 = .ok (.ireturn, 1) := by decide +kernel
theorem dX12_judge_0 : decode cX12_judge 0 = .ok (.aload_n 0, 1) := by decide +kernel
theorem dX12_judge_1 : decode cX12_judge 1 = .ok (.iconst 0, 1) := by decide +kernel
theorem dX12_judge_2 : decode cX12_judge 2 = .ok (.putfield 1, 3) := by decide +kernel
theorem dX12_judge_5 : decode cX12_judge 5 = .ok (.iload_n 2, 1) := by decide +kernel
theorem dX12_judge_6 : decode cX12_judge 6 = .ok (.i2l, 1) := by decide +kernel
theorem dX12_judge_7 : decode cX12_judge 7 = .ok (.lconst 0, 1) := by decide +kernel
theorem dX12_judge_8 : decode cX12_judge 8 = .ok (.ldc2_w 236, 3) := by decide +kernel
theorem dX12_judge_11 : decode cX12_judge 11 = .ok (.invokestatic 161, 3) := by decide +kernel
theorem dX12_judge_14 : decode cX12_judge 14 = .ok (.ifCond .ne 6, 3) := by decide +kernel
theorem dX12_judge_17 : decode cX12_judge 17 = .ok (.bipush (-2), 2) := by decide +kernel
theorem dX12_judge_19 : decode cX12_judge 19 = .ok (.ireturn, 1) := by decide +kernel
theorem dX12_judge_20 : decode cX12_judge 20 = .ok (.aload_n 0, 1) := by decide +kernel
theorem dX12_judge_21 : decode cX12_judge 21 = .ok (.iload_n 1, 1) := by decide +kernel
theorem dX12_judge_22 : decode cX12_judge 22 = .ok (.invokevirtual 312, 3) := by decide +kernel
theorem dX12_judge_25 : decode cX12_judge 25 = .ok (.istore_n 3, 1) := by decide +kernel
theorem dX12_judge_26 : decode cX12_judge 26 = .ok (.iload_n 3, 1) := by decide +kernel
theorem dX12_judge_27 : decode cX12_judge 27 = .ok (.ifCond .eq 5, 3) := by decide +kernel
theorem dX12_judge_30 : decode cX12_judge 30 = .ok (.iload_n 3, 1) := by decide +kernel
theorem dX12_judge_31 : decode cX12_judge 31 = .ok (.ireturn, 1) := by decide +kernel
theorem dX12_judge_32 : decode cX12_judge 32 = .ok (.aload_n 0, 1) := by decide +kernel
theorem dX12_judge_33 : decode cX12_judge 33 = .ok (.getfield 89, 3) := by decide +kernel
theorem dX12_judge_36 : decode cX12_judge 36 = .ok (.iload_n 1, 1) := by decide +kernel
theorem dX12_judge_37 : decode cX12_judge 37 = .ok (.iaload, 1) := by decide +kernel
theorem dX12_judge_38 : decode cX12_judge 38 = .ok (.ifCond .le 23, 3) := by decide +kernel
theorem dX12_judge_41 : decode cX12_judge 41 = .ok (.aload_n 0, 1) := by decide +kernel
theorem dX12_judge_42 : decode cX12_judge 42 = .ok (.aload_n 0, 1) := by decide +kernel
theorem dX12_judge_43 : decode cX12_judge 43 = .ok (.getfield 92, 3) := by decide +kernel
theorem dX12_judge_46 : decode cX12_judge 46 = .ok (.bipush 40, 2) := by decide +kernel
theorem dX12_judge_48 : decode cX12_judge 48 = .ok (.iload_n 1, 1) := by decide +kernel
theorem dX12_judge_49 : decode cX12_judge 49 = .ok (.imul, 1) := by decide +kernel
theorem dX12_judge_50 : decode cX12_judge 50 = .ok (.laload, 1) := by decide +kernel
theorem dX12_judge_51 : decode cX12_judge 51 = .ok (.invokevirtual 253, 3) := by decide +kernel
theorem dX12_judge_54 : decode cX12_judge 54 = .ok (.ifCond .eq 7, 3) := by decide +kernel
theorem dX12_judge_57 : decode cX12_judge 57 = .ok (.iconst 1, 1) := by decide +kernel
theorem dX12_judge_58 : decode cX12_judge 58 = .ok (.goto 4, 3) := by decide +kernel
theorem dX12_judge_61 : decode cX12_judge 61 = .ok (.iconst 0, 1) := by decide +kernel
theorem dX12_judge_62 : decode cX12_judge 62 = .ok (.istore 4, 2) := by decide +kernel
theorem dX12_judge_64 : decode cX12_judge 64 = .ok (.aload_n 0, 1) := by decide +kernel
theorem dX12_judge_65 : decode cX12_judge 65 = .ok (.invokevirtual 297, 3) := by decide +kernel
theorem dX12_judge_68 : decode cX12_judge 68 = .ok (.aload_n 0, 1) := by decide +kernel
theorem dX12_judge_69 : decode cX12_judge 69 = .ok (.iload_n 1, 1) := by decide +kernel
theorem dX12_judge_70 : decode cX12_judge 70 = .ok (.invokevirtual 315, 3) := by decide +kernel
theorem dX12_judge_73 : decode cX12_judge 73 = .ok (.istore 5, 2) := by decide +kernel
theorem dX12_judge_75 : decode cX12_judge 75 = .ok (.iload 4, 2) := by decide +kernel
theorem dX12_judge_77 : decode cX12_judge 77 = .ok (.ifCond .eq 24, 3) := by decide +kernel
theorem dX12_judge_80 : decode cX12_judge 80 = .ok (.aload_n 0, 1) := by decide +kernel
theorem dX12_judge_81 : decode cX12_judge 81 = .ok (.getfield 13, 3) := by decide +kernel
theorem dX12_judge_84 : decode cX12_judge 84 = .ok (.bipush 36, 2) := by decide +kernel
theorem dX12_judge_86 : decode cX12_judge 86 = .ok (.aload_n 0, 1) := by decide +kernel
theorem dX12_judge_87 : decode cX12_judge 87 = .ok (.getfield 92, 3) := by decide +kernel
theorem dX12_judge_90 : decode cX12_judge 90 = .ok (.bipush 40, 2) := by decide +kernel
theorem dX12_judge_92 : decode cX12_judge 92 = .ok (.iload_n 1, 1) := by decide +kernel
theorem dX12_judge_93 : decode cX12_judge 93 = .ok (.imul, 1) := by decide +kernel
theorem dX12_judge_94 : decode cX12_judge 94 = .ok (.laload, 1) := by decide +kernel
theorem dX12_judge_95 : decode cX12_judge 95 = .ok (.l2i, 1) := by decide +kernel
theorem dX12_judge_96 : decode cX12_judge 96 = .ok (.iadd, 1) := by decide +kernel
theorem dX12_judge_97 : decode cX12_judge 97 = .ok (.iaload, 1) := by decide +kernel
theorem dX12_judge_98 : decode cX12_judge 98 = .ok (.goto 4, 3) := by decide +kernel
theorem dX12_judge_101 : decode cX12_judge 101 = .ok (.iconst (-1), 1) := by decide +kernel
theorem dX12_judge_102 : decode cX12_judge 102 = .ok (.istore 6, 2) := by decide +kernel
theorem dX12_judge_104 : decode cX12_judge 104 = .ok (.aload_n 0, 1) := by decide +kernel
theorem dX12_judge_105 : decode cX12_judge 105 = .ok (.invokevirtual 318, 3) := by decide +kernel
theorem dX12_judge_108 : decode cX12_judge 108 = .ok (.iload_n 2, 1) := by decide +kernel
theorem dX12_judge_109 : decode cX12_judge 109 = .ok (.ifCond .ne 30, 3) := by decide +kernel
theorem dX12_judge_112 : decode cX12_judge 112 = .ok (.aload_n 0, 1) := by decide +kernel
theorem dX12_judge_113 : decode cX12_judge 113 = .ok (.getfield 306, 3) := by decide +kernel
theorem dX12_judge_116 : decode cX12_judge 116 = .ok (.ifCond .ne 7, 3) := by decide +kernel
theorem dX12_judge_119 : decode cX12_judge 119 = .ok (.iconst (-1), 1) := by decide +kernel
theorem dX12_judge_120 : decode cX12_judge 120 = .ok (.goto 45, 3) := by decide +kernel
theorem dX12_judge_123 : decode cX12_judge 123 = .ok (.iload 4, 2) := by decide +kernel
theorem dX12_judge_125 : decode cX12_judge 125 = .ok (.ifCond .eq 10, 3) := by decide +kernel
theorem dX12_judge_128 : decode cX12_judge 128 = .ok (.iload 5, 2) := by decide +kernel
theorem dX12_judge_130 : decode cX12_judge 130 = .ok (.iconst 1, 1) := by decide +kernel
theorem dX12_judge_131 : decode cX12_judge 131 = .ok (.iadd, 1) := by decide +kernel
theorem dX12_judge_132 : decode cX12_judge 132 = .ok (.goto 33, 3) := by decide +kernel
theorem dX12_judge_135 : decode cX12_judge 135 = .ok (.iconst 0, 1) := by decide +kernel
theorem dX12_judge_136 : decode cX12_judge 136 = .ok (.goto 29, 3) := by decide +kernel
theorem dX12_judge_139 : decode cX12_judge 139 = .ok (.iload_n 2, 1) := by decide +kernel
theorem dX12_judge_140 : decode cX12_judge 140 = .ok (.iconst 1, 1) := by decide +kernel
theorem dX12_judge_141 : decode cX12_judge 141 = .ok (.if_icmp .ne 10, 3) := by decide +kernel
theorem dX12_judge_144 : decode cX12_judge 144 = .ok (.aload_n 0, 1) := by decide +kernel
theorem dX12_judge_145 : decode cX12_judge 145 = .ok (.getfield 306, 3) := by decide +kernel
theorem dX12_judge_148 : decode cX12_judge 148 = .ok (.goto 17, 3) := by decide +kernel
theorem dX12_judge_151 : decode cX12_judge 151 = .ok (.iload_n 2, 1) := by decide +kernel
theorem dX12_judge_152 : decode cX12_judge 152 = .ok (.iconst 2, 1) := by decide +kernel
theorem dX12_judge_153 : decode cX12_judge 153 = .ok (.if_icmp .ne 8, 3) := by decide +kernel
theorem dX12_judge_156 : decode cX12_judge 156 = .ok (.iload 6, 2) := by decide +kernel
theorem dX12_judge_158 : decode cX12_judge 158 = .ok (.goto 7, 3) := by decide +kernel
theorem dX12_judge_161 : decode cX12_judge 161 = .ok (.aload_n 0, 1) := by decide +kernel
theorem dX12_judge_162 : decode cX12_judge 162 = .ok (.getfield 309, 3) := by decide +kernel
theorem dX12_judge_165 : decode cX12_judge 165 = .ok (.ireturn, 1) := by decide +kernel
theorem dX12_noTray_0 : decode cX12_noTray 0 = .ok (.iload_n 1, 1) := by decide +kernel
theorem dX12_noTray_1 : decode cX12_noTray 1 = .ok (.i2l, 1) := by decide +kernel
theorem dX12_noTray_2 : decode cX12_noTray 2 = .ok (.lconst 0, 1) := by decide +kernel
theorem dX12_noTray_3 : decode cX12_noTray 3 = .ok (.ldc2_w 236, 3) := by decide +kernel
theorem dX12_noTray_6 : decode cX12_noTray 6 = .ok (.invokestatic 161, 3) := by decide +kernel
theorem dX12_noTray_9 : decode cX12_noTray 9 = .ok (.ifCond .ne 8, 3) := by decide +kernel
theorem dX12_noTray_12 : decode cX12_noTray 12 = .ok (.bipush (-2), 2) := by decide +kernel
theorem dX12_noTray_14 : decode cX12_noTray 14 = .ok (.goto 19, 3) := by decide +kernel
theorem dX12_noTray_17 : decode cX12_noTray 17 = .ok (.aload_n 0, 1) := by decide +kernel
theorem dX12_noTray_18 : decode cX12_noTray 18 = .ok (.getfield 86, 3) := by decide +kernel
theorem dX12_noTray_21 : decode cX12_noTray 21 = .ok (.iload_n 1, 1) := by decide +kernel
theorem dX12_noTray_22 : decode cX12_noTray 22 = .ok (.iaload, 1) := by decide +kernel
theorem dX12_noTray_23 : decode cX12_noTray 23 = .ok (.iconst (-1), 1) := by decide +kernel
theorem dX12_noTray_24 : decode cX12_noTray 24 = .ok (.if_icmp .ne 8, 3) := by decide +kernel
theorem dX12_noTray_27 : decode cX12_noTray 27 = .ok (.bipush (-6), 2) := by decide +kernel
theorem dX12_noTray_29 : decode cX12_noTray 29 = .ok (.goto 4, 3) := by decide +kernel
theorem dX12_noTray_32 : decode cX12_noTray 32 = .ok (.iconst 0, 1) := by decide +kernel
theorem dX12_noTray_33 : decode cX12_noTray 33 = .ok (.ireturn, 1) := by decide +kernel
theorem dX12_person_0 : decode cX12_person 0 = .ok (.aload_n 0, 1) := by decide +kernel
theorem dX12_person_1 : decode cX12_person 1 = .ok (.iconst 0, 1) := by decide +kernel
theorem dX12_person_2 : decode cX12_person 2 = .ok (.putfield 1, 3) := by decide +kernel
theorem dX12_person_5 : decode cX12_person 5 = .ok (.aload_n 0, 1) := by decide +kernel
theorem dX12_person_6 : decode cX12_person 6 = .ok (.iload_n 1, 1) := by decide +kernel
theorem dX12_person_7 : decode cX12_person 7 = .ok (.i2l, 1) := by decide +kernel
theorem dX12_person_8 : decode cX12_person 8 = .ok (.invokevirtual 253, 3) := by decide +kernel
theorem dX12_person_11 : decode cX12_person 11 = .ok (.ifCond .ne 6, 3) := by decide +kernel
theorem dX12_person_14 : decode cX12_person 14 = .ok (.bipush (-8), 2) := by decide +kernel
theorem dX12_person_16 : decode cX12_person 16 = .ok (.ireturn, 1) := by decide +kernel
theorem dX12_person_17 : decode cX12_person 17 = .ok (.iload_n 2, 1) := by decide +kernel
theorem dX12_person_18 : decode cX12_person 18 = .ok (.tableswitch 84 0 4 #[34, 44, 54, 64, 74], 34) := by decide +kernel
theorem dX12_person_52 : decode cX12_person 52 = .ok (.aload_n 0, 1) := by decide +kernel
theorem dX12_person_53 : decode cX12_person 53 = .ok (.getfield 13, 3) := by decide +kernel
theorem dX12_person_56 : decode cX12_person 56 = .ok (.bipush 36, 2) := by decide +kernel
theorem dX12_person_58 : decode cX12_person 58 = .ok (.iload_n 1, 1) := by decide +kernel
theorem dX12_person_59 : decode cX12_person 59 = .ok (.iadd, 1) := by decide +kernel
theorem dX12_person_60 : decode cX12_person 60 = .ok (.iaload, 1) := by decide +kernel
theorem dX12_person_61 : decode cX12_person 61 = .ok (.ireturn, 1) := by decide +kernel
theorem dX12_person_62 : decode cX12_person 62 = .ok (.aload_n 0, 1) := by decide +kernel
theorem dX12_person_63 : decode cX12_person 63 = .ok (.getfield 13, 3) := by decide +kernel
theorem dX12_person_66 : decode cX12_person 66 = .ok (.bipush 41, 2) := by decide +kernel
theorem dX12_person_68 : decode cX12_person 68 = .ok (.iload_n 1, 1) := by decide +kernel
theorem dX12_person_69 : decode cX12_person 69 = .ok (.iadd, 1) := by decide +kernel
theorem dX12_person_70 : decode cX12_person 70 = .ok (.iaload, 1) := by decide +kernel
theorem dX12_person_71 : decode cX12_person 71 = .ok (.ireturn, 1) := by decide +kernel
theorem dX12_person_72 : decode cX12_person 72 = .ok (.aload_n 0, 1) := by decide +kernel
theorem dX12_person_73 : decode cX12_person 73 = .ok (.getfield 13, 3) := by decide +kernel
theorem dX12_person_76 : decode cX12_person 76 = .ok (.bipush 46, 2) := by decide +kernel
theorem dX12_person_78 : decode cX12_person 78 = .ok (.iload_n 1, 1) := by decide +kernel
theorem dX12_person_79 : decode cX12_person 79 = .ok (.iadd, 1) := by decide +kernel
theorem dX12_person_80 : decode cX12_person 80 = .ok (.iaload, 1) := by decide +kernel
theorem dX12_person_81 : decode cX12_person 81 = .ok (.ireturn, 1) := by decide +kernel
theorem dX12_person_82 : decode cX12_person 82 = .ok (.aload_n 0, 1) := by decide +kernel
theorem dX12_person_83 : decode cX12_person 83 = .ok (.getfield 13, 3) := by decide +kernel
theorem dX12_person_86 : decode cX12_person 86 = .ok (.bipush 51, 2) := by decide +kernel
theorem dX12_person_88 : decode cX12_person 88 = .ok (.iload_n 1, 1) := by decide +kernel
theorem dX12_person_89 : decode cX12_person 89 = .ok (.iadd, 1) := by decide +kernel
theorem dX12_person_90 : decode cX12_person 90 = .ok (.iaload, 1) := by decide +kernel
theorem dX12_person_91 : decode cX12_person 91 = .ok (.ireturn, 1) := by decide +kernel
theorem dX12_person_92 : decode cX12_person 92 = .ok (.aload_n 0, 1) := by decide +kernel
theorem dX12_person_93 : decode cX12_person 93 = .ok (.getfield 13, 3) := by decide +kernel
theorem dX12_person_96 : decode cX12_person 96 = .ok (.bipush 56, 2) := by decide +kernel
theorem dX12_person_98 : decode cX12_person 98 = .ok (.iload_n 1, 1) := by decide +kernel
theorem dX12_person_99 : decode cX12_person 99 = .ok (.iadd, 1) := by decide +kernel
theorem dX12_person_100 : decode cX12_person 100 = .ok (.iaload, 1) := by decide +kernel
theorem dX12_person_101 : decode cX12_person 101 = .ok (.ireturn, 1) := by decide +kernel
theorem dX12_person_102 : decode cX12_person 102 = .ok (.bipush (-8), 2) := by decide +kernel
theorem dX12_person_104 : decode cX12_person 104 = .ok (.ireturn, 1) := by decide +kernel
theorem dX12_price_0 : decode cX12_price 0 = .ok (.aload_n 0, 1) := by decide +kernel
theorem dX12_price_1 : decode cX12_price 1 = .ok (.iconst 0, 1) := by decide +kernel
theorem dX12_price_2 : decode cX12_price 2 = .ok (.putfield 1, 3) := by decide +kernel
theorem dX12_price_5 : decode cX12_price 5 = .ok (.aload_n 0, 1) := by decide +kernel
theorem dX12_price_6 : decode cX12_price 6 = .ok (.iload_n 1, 1) := by decide +kernel
theorem dX12_price_7 : decode cX12_price 7 = .ok (.i2l, 1) := by decide +kernel
theorem dX12_price_8 : decode cX12_price 8 = .ok (.invokevirtual 257, 3) := by decide +kernel
theorem dX12_price_11 : decode cX12_price 11 = .ok (.ifCond .eq 10, 3) := by decide +kernel
theorem dX12_price_14 : decode cX12_price 14 = .ok (.iload_n 2, 1) := by decide +kernel
theorem dX12_price_15 : decode cX12_price 15 = .ok (.invokestatic 260, 3) := by decide +kernel
theorem dX12_price_18 : decode cX12_price 18 = .ok (.ifCond .ne 6, 3) := by decide +kernel
theorem dX12_price_21 : decode cX12_price 21 = .ok (.bipush (-2), 2) := by decide +kernel
theorem dX12_price_23 : decode cX12_price 23 = .ok (.ireturn, 1) := by decide +kernel
theorem dX12_price_24 : decode cX12_price 24 = .ok (.iload_n 3, 1) := by decide +kernel
theorem dX12_price_25 : decode cX12_price 25 = .ok (.i2l, 1) := by decide +kernel
theorem dX12_price_26 : decode cX12_price 26 = .ok (.lconst 0, 1) := by decide +kernel
theorem dX12_price_27 : decode cX12_price 27 = .ok (.ldc2_w 276, 3) := by decide +kernel
theorem dX12_price_30 : decode cX12_price 30 = .ok (.invokestatic 161, 3) := by decide +kernel
theorem dX12_price_33 : decode cX12_price 33 = .ok (.ifCond .eq 13, 3) := by decide +kernel
theorem dX12_price_36 : decode cX12_price 36 = .ok (.aload_n 0, 1) := by decide +kernel
theorem dX12_price_37 : decode cX12_price 37 = .ok (.iload_n 1, 1) := by decide +kernel
theorem dX12_price_38 : decode cX12_price 38 = .ok (.iload_n 3, 1) := by decide +kernel
theorem dX12_price_39 : decode cX12_price 39 = .ok (.iload_n 2, 1) := by decide +kernel
theorem dX12_price_40 : decode cX12_price 40 = .ok (.invokevirtual 266, 3) := by decide +kernel
theorem dX12_price_43 : decode cX12_price 43 = .ok (.goto 5, 3) := by decide +kernel
theorem dX12_price_46 : decode cX12_price 46 = .ok (.bipush (-3), 2) := by decide +kernel
theorem dX12_price_48 : decode cX12_price 48 = .ok (.ireturn, 1) := by decide +kernel
theorem dX12_sell_0 : decode cX12_sell 0 = .ok (.aload_n 0, 1) := by decide +kernel
theorem dX12_sell_1 : decode cX12_sell 1 = .ok (.iconst 0, 1) := by decide +kernel
theorem dX12_sell_2 : decode cX12_sell 2 = .ok (.putfield 1, 3) := by decide +kernel
theorem dX12_sell_5 : decode cX12_sell 5 = .ok (.aload_n 0, 1) := by decide +kernel
theorem dX12_sell_6 : decode cX12_sell 6 = .ok (.iload_n 1, 1) := by decide +kernel
theorem dX12_sell_7 : decode cX12_sell 7 = .ok (.i2l, 1) := by decide +kernel
theorem dX12_sell_8 : decode cX12_sell 8 = .ok (.invokevirtual 253, 3) := by decide +kernel
theorem dX12_sell_11 : decode cX12_sell 11 = .ok (.ifCond .ne 6, 3) := by decide +kernel
theorem dX12_sell_14 : decode cX12_sell 14 = .ok (.bipush (-2), 2) := by decide +kernel
theorem dX12_sell_16 : decode cX12_sell 16 = .ok (.ireturn, 1) := by decide +kernel
theorem dX12_sell_17 : decode cX12_sell 17 = .ok (.aload_n 0, 1) := by decide +kernel
theorem dX12_sell_18 : decode cX12_sell 18 = .ok (.getfield 13, 3) := by decide +kernel
theorem dX12_sell_21 : decode cX12_sell 21 = .ok (.bipush 56, 2) := by decide +kernel
theorem dX12_sell_23 : decode cX12_sell 23 = .ok (.iload_n 1, 1) := by decide +kernel
theorem dX12_sell_24 : decode cX12_sell 24 = .ok (.iadd, 1) := by decide +kernel
theorem dX12_sell_25 : decode cX12_sell 25 = .ok (.iaload, 1) := by decide +kernel
theorem dX12_sell_26 : decode cX12_sell 26 = .ok (.ifCond .ne 6, 3) := by decide +kernel
theorem dX12_sell_29 : decode cX12_sell 29 = .ok (.bipush (-5), 2) := by decide +kernel
theorem dX12_sell_31 : decode cX12_sell 31 = .ok (.ireturn, 1) := by decide +kernel
theorem dX12_sell_32 : decode cX12_sell 32 = .ok (.aload_n 0, 1) := by decide +kernel
theorem dX12_sell_33 : decode cX12_sell 33 = .ok (.invokevirtual 297, 3) := by decide +kernel
theorem dX12_sell_36 : decode cX12_sell 36 = .ok (.aload_n 0, 1) := by decide +kernel
theorem dX12_sell_37 : decode cX12_sell 37 = .ok (.getfield 13, 3) := by decide +kernel
theorem dX12_sell_40 : decode cX12_sell 40 = .ok (.bipush 56, 2) := by decide +kernel
theorem dX12_sell_42 : decode cX12_sell 42 = .ok (.iload_n 1, 1) := by decide +kernel
theorem dX12_sell_43 : decode cX12_sell 43 = .ok (.iadd, 1) := by decide +kernel
theorem dX12_sell_44 : decode cX12_sell 44 = .ok (.iaload, 1) := by decide +kernel
theorem dX12_sell_45 : decode cX12_sell 45 = .ok (.aload_n 0, 1) := by decide +kernel
theorem dX12_sell_46 : decode cX12_sell 46 = .ok (.aload_n 0, 1) := by decide +kernel
theorem dX12_sell_47 : decode cX12_sell 47 = .ok (.getfield 13, 3) := by decide +kernel
theorem dX12_sell_50 : decode cX12_sell 50 = .ok (.bipush 36, 2) := by decide +kernel
theorem dX12_sell_52 : decode cX12_sell 52 = .ok (.iload_n 1, 1) := by decide +kernel
theorem dX12_sell_53 : decode cX12_sell 53 = .ok (.iadd, 1) := by decide +kernel
theorem dX12_sell_54 : decode cX12_sell 54 = .ok (.iaload, 1) := by decide +kernel
theorem dX12_sell_55 : decode cX12_sell 55 = .ok (.iconst 0, 1) := by decide +kernel
theorem dX12_sell_56 : decode cX12_sell 56 = .ok (.aload_n 0, 1) := by decide +kernel
theorem dX12_sell_57 : decode cX12_sell 57 = .ok (.getfield 13, 3) := by decide +kernel
theorem dX12_sell_60 : decode cX12_sell 60 = .ok (.bipush 41, 2) := by decide +kernel
theorem dX12_sell_62 : decode cX12_sell 62 = .ok (.iload_n 1, 1) := by decide +kernel
theorem dX12_sell_63 : decode cX12_sell 63 = .ok (.iadd, 1) := by decide +kernel
theorem dX12_sell_64 : decode cX12_sell 64 = .ok (.iaload, 1) := by decide +kernel
theorem dX12_sell_65 : decode cX12_sell 65 = .ok (.invokevirtual 266, 3) := by decide +kernel
theorem dX12_sell_68 : decode cX12_sell 68 = .ok (.iconst 3, 1) := by decide +kernel
theorem dX12_sell_69 : decode cX12_sell 69 = .ok (.idiv, 1) := by decide +kernel
theorem dX12_sell_70 : decode cX12_sell 70 = .ok (.imul, 1) := by decide +kernel
theorem dX12_sell_71 : decode cX12_sell 71 = .ok (.istore_n 2, 1) := by decide +kernel
theorem dX12_sell_72 : decode cX12_sell 72 = .ok (.aload_n 0, 1) := by decide +kernel
theorem dX12_sell_73 : decode cX12_sell 73 = .ok (.getfield 13, 3) := by decide +kernel
theorem dX12_sell_76 : decode cX12_sell 76 = .ok (.bipush 56, 2) := by decide +kernel
theorem dX12_sell_78 : decode cX12_sell 78 = .ok (.iload_n 1, 1) := by decide +kernel
theorem dX12_sell_79 : decode cX12_sell 79 = .ok (.iadd, 1) := by decide +kernel
theorem dX12_sell_80 : decode cX12_sell 80 = .ok (.iconst 0, 1) := by decide +kernel
theorem dX12_sell_81 : decode cX12_sell 81 = .ok (.iastore, 1) := by decide +kernel
theorem dX12_sell_82 : decode cX12_sell 82 = .ok (.aload_n 0, 1) := by decide +kernel
theorem dX12_sell_83 : decode cX12_sell 83 = .ok (.getfield 13, 3) := by decide +kernel
theorem dX12_sell_86 : decode cX12_sell 86 = .ok (.bipush 51, 2) := by decide +kernel
theorem dX12_sell_88 : decode cX12_sell 88 = .ok (.iload_n 1, 1) := by decide +kernel
theorem dX12_sell_89 : decode cX12_sell 89 = .ok (.iadd, 1) := by decide +kernel
theorem dX12_sell_90 : decode cX12_sell 90 = .ok (.aload_n 0, 1) := by decide +kernel
theorem dX12_sell_91 : decode cX12_sell 91 = .ok (.getfield 13, 3) := by decide +kernel
theorem dX12_sell_94 : decode cX12_sell 94 = .ok (.bipush 51, 2) := by decide +kernel
theorem dX12_sell_96 : decode cX12_sell 96 = .ok (.iload_n 1, 1) := by decide +kernel
theorem dX12_sell_97 : decode cX12_sell 97 = .ok (.iadd, 1) := by decide +kernel
theorem dX12_sell_98 : decode cX12_sell 98 = .ok (.iaload, 1) := by decide +kernel
theorem dX12_sell_99 : decode cX12_sell 99 = .ok (.iload_n 2, 1) := by decide +kernel
theorem dX12_sell_100 : decode cX12_sell 100 = .ok (.iadd, 1) := by decide +kernel
theorem dX12_sell_101 : decode cX12_sell 101 = .ok (.sipush 9999, 3) := by decide +kernel
theorem dX12_sell_104 : decode cX12_sell 104 = .ok (.if_icmp .le 9, 3) := by decide +kernel
theorem dX12_sell_107 : decode cX12_sell 107 = .ok (.sipush 9999, 3) := by decide +kernel
theorem dX12_sell_110 : decode cX12_sell 110 = .ok (.goto 14, 3) := by decide +kernel
theorem dX12_sell_113 : decode cX12_sell 113 = .ok (.aload_n 0, 1) := by decide +kernel
theorem dX12_sell_114 : decode cX12_sell 114 = .ok (.getfield 13, 3) := by decide +kernel
theorem dX12_sell_117 : decode cX12_sell 117 = .ok (.bipush 51, 2) := by decide +kernel
theorem dX12_sell_119 : decode cX12_sell 119 = .ok (.iload_n 1, 1) := by decide +kernel
theorem dX12_sell_120 : decode cX12_sell 120 = .ok (.iadd, 1) := by decide +kernel
theorem dX12_sell_121 : decode cX12_sell 121 = .ok (.iaload, 1) := by decide +kernel
theorem dX12_sell_122 : decode cX12_sell 122 = .ok (.iload_n 2, 1) := by decide +kernel
theorem dX12_sell_123 : decode cX12_sell 123 = .ok (.iadd, 1) := by decide +kernel
theorem dX12_sell_124 : decode cX12_sell 124 = .ok (.iastore, 1) := by decide +kernel
theorem dX12_sell_125 : decode cX12_sell 125 = .ok (.aload_n 0, 1) := by decide +kernel
theorem dX12_sell_126 : decode cX12_sell 126 = .ok (.invokevirtual 303, 3) := by decide +kernel
theorem dX12_sell_129 : decode cX12_sell 129 = .ok (.iload_n 2, 1) := by decide +kernel
theorem dX12_sell_130 : decode cX12_sell 130 = .ok (.ireturn, 1) := by decide +kernel
theorem dX12_street_0 : decode cX12_street 0 = .ok (.aload_n 0, 1) := by decide +kernel
theorem dX12_street_1 : decode cX12_street 1 = .ok (.iconst 0, 1) := by decide +kernel
theorem dX12_street_2 : decode cX12_street 2 = .ok (.putfield 1, 3) := by decide +kernel
theorem dX12_street_5 : decode cX12_street 5 = .ok (.aload_n 0, 1) := by decide +kernel
theorem dX12_street_6 : decode cX12_street 6 = .ok (.iload_n 1, 1) := by decide +kernel
theorem dX12_street_7 : decode cX12_street 7 = .ok (.i2l, 1) := by decide +kernel
theorem dX12_street_8 : decode cX12_street 8 = .ok (.invokevirtual 257, 3) := by decide +kernel
theorem dX12_street_11 : decode cX12_street 11 = .ok (.ifCond .eq 19, 3) := by decide +kernel
theorem dX12_street_14 : decode cX12_street 14 = .ok (.iload_n 2, 1) := by decide +kernel
theorem dX12_street_15 : decode cX12_street 15 = .ok (.invokestatic 260, 3) := by decide +kernel
theorem dX12_street_18 : decode cX12_street 18 = .ok (.ifCond .eq 12, 3) := by decide +kernel
theorem dX12_street_21 : decode cX12_street 21 = .ok (.aload_n 0, 1) := by decide +kernel
theorem dX12_street_22 : decode cX12_street 22 = .ok (.iload_n 1, 1) := by decide +kernel
theorem dX12_street_23 : decode cX12_street 23 = .ok (.iload_n 2, 1) := by decide +kernel
theorem dX12_street_24 : decode cX12_street 24 = .ok (.invokevirtual 263, 3) := by decide +kernel
theorem dX12_street_27 : decode cX12_street 27 = .ok (.goto 5, 3) := by decide +kernel
theorem dX12_street_30 : decode cX12_street 30 = .ok (.bipush (-2), 2) := by decide +kernel
theorem dX12_street_32 : decode cX12_street 32 = .ok (.ireturn, 1) := by decide +kernel
theorem dX12_tells_0 : decode cX12_tells 0 = .ok (.aload_n 0, 1) := by decide +kernel
theorem dX12_tells_1 : decode cX12_tells 1 = .ok (.iconst 0, 1) := by decide +kernel
theorem dX12_tells_2 : decode cX12_tells 2 = .ok (.putfield 306, 3) := by decide +kernel
theorem dX12_tells_5 : decode cX12_tells 5 = .ok (.aload_n 0, 1) := by decide +kernel
theorem dX12_tells_6 : decode cX12_tells 6 = .ok (.iconst 0, 1) := by decide +kernel
theorem dX12_tells_7 : decode cX12_tells 7 = .ok (.putfield 309, 3) := by decide +kernel
theorem dX12_tells_10 : decode cX12_tells 10 = .ok (.aload_n 0, 1) := by decide +kernel
theorem dX12_tells_11 : decode cX12_tells 11 = .ok (.getfield 89, 3) := by decide +kernel
theorem dX12_tells_14 : decode cX12_tells 14 = .ok (.iload_n 1, 1) := by decide +kernel
theorem dX12_tells_15 : decode cX12_tells 15 = .ok (.iaload, 1) := by decide +kernel
theorem dX12_tells_16 : decode cX12_tells 16 = .ok (.ifCond .eq 19, 3) := by decide +kernel
theorem dX12_tells_19 : decode cX12_tells 19 = .ok (.aload_n 0, 1) := by decide +kernel
theorem dX12_tells_20 : decode cX12_tells 20 = .ok (.aload_n 0, 1) := by decide +kernel
theorem dX12_tells_21 : decode cX12_tells 21 = .ok (.getfield 92, 3) := by decide +kernel
theorem dX12_tells_24 : decode cX12_tells 24 = .ok (.bipush 40, 2) := by decide +kernel
theorem dX12_tells_26 : decode cX12_tells 26 = .ok (.iload_n 1, 1) := by decide +kernel
theorem dX12_tells_27 : decode cX12_tells 27 = .ok (.imul, 1) := by decide +kernel
theorem dX12_tells_28 : decode cX12_tells 28 = .ok (.laload, 1) := by decide +kernel
theorem dX12_tells_29 : decode cX12_tells 29 = .ok (.invokevirtual 253, 3) := by decide +kernel
theorem dX12_tells_32 : decode cX12_tells 32 = .ok (.ifCond .ne 10, 3) := by decide +kernel
theorem dX12_tells_35 : decode cX12_tells 35 = .ok (.aload_n 0, 1) := by decide +kernel
theorem dX12_tells_36 : decode cX12_tells 36 = .ok (.iconst 1, 1) := by decide +kernel
theorem dX12_tells_37 : decode cX12_tells 37 = .ok (.putfield 306, 3) := by decide +kernel
theorem dX12_tells_40 : decode cX12_tells 40 = .ok (.iconst 0, 1) := by decide +kernel
theorem dX12_tells_41 : decode cX12_tells 41 = .ok (.ireturn, 1) := by decide +kernel
theorem dX12_tells_42 : decode cX12_tells 42 = .ok (.aload_n 0, 1) := by decide +kernel
theorem dX12_tells_43 : decode cX12_tells 43 = .ok (.getfield 92, 3) := by decide +kernel
theorem dX12_tells_46 : decode cX12_tells 46 = .ok (.bipush 40, 2) := by decide +kernel
theorem dX12_tells_48 : decode cX12_tells 48 = .ok (.iload_n 1, 1) := by decide +kernel
theorem dX12_tells_49 : decode cX12_tells 49 = .ok (.imul, 1) := by decide +kernel
theorem dX12_tells_50 : decode cX12_tells 50 = .ok (.laload, 1) := by decide +kernel
theorem dX12_tells_51 : decode cX12_tells 51 = .ok (.l2i, 1) := by decide +kernel
theorem dX12_tells_52 : decode cX12_tells 52 = .ok (.istore_n 2, 1) := by decide +kernel
theorem dX12_tells_53 : decode cX12_tells 53 = .ok (.iconst 1, 1) := by decide +kernel
theorem dX12_tells_54 : decode cX12_tells 54 = .ok (.istore_n 3, 1) := by decide +kernel
theorem dX12_tells_55 : decode cX12_tells 55 = .ok (.iload_n 3, 1) := by decide +kernel
theorem dX12_tells_56 : decode cX12_tells 56 = .ok (.aload_n 0, 1) := by decide +kernel
theorem dX12_tells_57 : decode cX12_tells 57 = .ok (.getfield 89, 3) := by decide +kernel
theorem dX12_tells_60 : decode cX12_tells 60 = .ok (.iload_n 1, 1) := by decide +kernel
theorem dX12_tells_61 : decode cX12_tells 61 = .ok (.iaload, 1) := by decide +kernel
theorem dX12_tells_62 : decode cX12_tells 62 = .ok (.if_icmp .ge 67, 3) := by decide +kernel
theorem dX12_tells_65 : decode cX12_tells 65 = .ok (.aload_n 0, 1) := by decide +kernel
theorem dX12_tells_66 : decode cX12_tells 66 = .ok (.aload_n 0, 1) := by decide +kernel
theorem dX12_tells_67 : decode cX12_tells 67 = .ok (.iload_n 2, 1) := by decide +kernel
theorem dX12_tells_68 : decode cX12_tells 68 = .ok (.i2l, 1) := by decide +kernel
theorem dX12_tells_69 : decode cX12_tells 69 = .ok (.aload_n 0, 1) := by decide +kernel
theorem dX12_tells_70 : decode cX12_tells 70 = .ok (.getfield 92, 3) := by decide +kernel
theorem dX12_tells_73 : decode cX12_tells 73 = .ok (.bipush 40, 2) := by decide +kernel
theorem dX12_tells_75 : decode cX12_tells 75 = .ok (.iload_n 1, 1) := by decide +kernel
theorem dX12_tells_76 : decode cX12_tells 76 = .ok (.imul, 1) := by decide +kernel
theorem dX12_tells_77 : decode cX12_tells 77 = .ok (.iload_n 3, 1) := by decide +kernel
theorem dX12_tells_78 : decode cX12_tells 78 = .ok (.iadd, 1) := by decide +kernel
theorem dX12_tells_79 : decode cX12_tells 79 = .ok (.laload, 1) := by decide +kernel
theorem dX12_tells_80 : decode cX12_tells 80 = .ok (.invokevirtual 290, 3) := by decide +kernel
theorem dX12_tells_83 : decode cX12_tells 83 = .ok (.putfield 306, 3) := by decide +kernel
theorem dX12_tells_86 : decode cX12_tells 86 = .ok (.aload_n 0, 1) := by decide +kernel
theorem dX12_tells_87 : decode cX12_tells 87 = .ok (.getfield 306, 3) := by decide +kernel
theorem dX12_tells_90 : decode cX12_tells 90 = .ok (.ifCond .eq 7, 3) := by decide +kernel
theorem dX12_tells_93 : decode cX12_tells 93 = .ok (.iload_n 3, 1) := by decide +kernel
theorem dX12_tells_94 : decode cX12_tells 94 = .ok (.iconst 1, 1) := by decide +kernel
theorem dX12_tells_95 : decode cX12_tells 95 = .ok (.isub, 1) := by decide +kernel
theorem dX12_tells_96 : decode cX12_tells 96 = .ok (.ireturn, 1) := by decide +kernel
theorem dX12_tells_97 : decode cX12_tells 97 = .ok (.aload_n 0, 1) := by decide +kernel
theorem dX12_tells_98 : decode cX12_tells 98 = .ok (.dup, 1) := by decide +kernel
theorem dX12_tells_99 : decode cX12_tells 99 = .ok (.getfield 309, 3) := by decide +kernel
theorem dX12_tells_102 : decode cX12_tells 102 = .ok (.aload_n 0, 1) := by decide +kernel
theorem dX12_tells_103 : decode cX12_tells 103 = .ok (.iload_n 2, 1) := by decide +kernel
theorem dX12_tells_104 : decode cX12_tells 104 = .ok (.aload_n 0, 1) := by decide +kernel
theorem dX12_tells_105 : decode cX12_tells 105 = .ok (.getfield 92, 3) := by decide +kernel
theorem dX12_tells_108 : decode cX12_tells 108 = .ok (.bipush 40, 2) := by decide +kernel
theorem dX12_tells_110 : decode cX12_tells 110 = .ok (.iload_n 1, 1) := by decide +kernel
theorem dX12_tells_111 : decode cX12_tells 111 = .ok (.imul, 1) := by decide +kernel
theorem dX12_tells_112 : decode cX12_tells 112 = .ok (.iload_n 3, 1) := by decide +kernel
theorem dX12_tells_113 : decode cX12_tells 113 = .ok (.iadd, 1) := by decide +kernel
theorem dX12_tells_114 : decode cX12_tells 114 = .ok (.laload, 1) := by decide +kernel
theorem dX12_tells_115 : decode cX12_tells 115 = .ok (.l2i, 1) := by decide +kernel
theorem dX12_tells_116 : decode cX12_tells 116 = .ok (.invokevirtual 300, 3) := by decide +kernel
theorem dX12_tells_119 : decode cX12_tells 119 = .ok (.iadd, 1) := by decide +kernel
theorem dX12_tells_120 : decode cX12_tells 120 = .ok (.putfield 309, 3) := by decide +kernel
theorem dX12_tells_123 : decode cX12_tells 123 = .ok (.iinc 3 1, 3) := by decide +kernel
theorem dX12_tells_126 : decode cX12_tells 126 = .ok (.goto (-71), 3) := by decide +kernel
theorem dX12_tells_129 : decode cX12_tells 129 = .ok (.aload_n 0, 1) := by decide +kernel
theorem dX12_tells_130 : decode cX12_tells 130 = .ok (.getfield 89, 3) := by decide +kernel
theorem dX12_tells_133 : decode cX12_tells 133 = .ok (.iload_n 1, 1) := by decide +kernel
theorem dX12_tells_134 : decode cX12_tells 134 = .ok (.iaload, 1) := by decide +kernel
theorem dX12_tells_135 : decode cX12_tells 135 = .ok (.iconst 1, 1) := by decide +kernel
theorem dX12_tells_136 : decode cX12_tells 136 = .ok (.isub, 1) := by decide +kernel
theorem dX12_tells_137 : decode cX12_tells 137 = .ok (.ireturn, 1) := by decide +kernel
theorem dX12_undo_0 : decode cX12_undo 0 = .ok (.aload_n 0, 1) := by decide +kernel
theorem dX12_undo_1 : decode cX12_undo 1 = .ok (.iconst 0, 1) := by decide +kernel
theorem dX12_undo_2 : decode cX12_undo 2 = .ok (.putfield 1, 3) := by decide +kernel
theorem dX12_undo_5 : decode cX12_undo 5 = .ok (.iload_n 1, 1) := by decide +kernel
theorem dX12_undo_6 : decode cX12_undo 6 = .ok (.i2l, 1) := by decide +kernel
theorem dX12_undo_7 : decode cX12_undo 7 = .ok (.lconst 1, 1) := by decide +kernel
theorem dX12_undo_8 : decode cX12_undo 8 = .ok (.ldc2_w 333, 3) := by decide +kernel
theorem dX12_undo_11 : decode cX12_undo 11 = .ok (.invokestatic 161, 3) := by decide +kernel
theorem dX12_undo_14 : decode cX12_undo 14 = .ok (.ifCond .eq 14, 3) := by decide +kernel
theorem dX12_undo_17 : decode cX12_undo 17 = .ok (.iload_n 1, 1) := by decide +kernel
theorem dX12_undo_18 : decode cX12_undo 18 = .ok (.aload_n 0, 1) := by decide +kernel
theorem dX12_undo_19 : decode cX12_undo 19 = .ok (.getfield 13, 3) := by decide +kernel
theorem dX12_undo_22 : decode cX12_undo 22 = .ok (.bipush 112, 2) := by decide +kernel
theorem dX12_undo_24 : decode cX12_undo 24 = .ok (.iaload, 1) := by decide +kernel
theorem dX12_undo_25 : decode cX12_undo 25 = .ok (.if_icmp .le 6, 3) := by decide +kernel
theorem dX12_undo_28 : decode cX12_undo 28 = .ok (.bipush (-3), 2) := by decide +kernel
theorem dX12_undo_30 : decode cX12_undo 30 = .ok (.ireturn, 1) := by decide +kernel
theorem dX12_undo_31 : decode cX12_undo 31 = .ok (.aload_n 0, 1) := by decide +kernel
theorem dX12_undo_32 : decode cX12_undo 32 = .ok (.getfield 13, 3) := by decide +kernel
theorem dX12_undo_35 : decode cX12_undo 35 = .ok (.bipush 112, 2) := by decide +kernel
theorem dX12_undo_37 : decode cX12_undo 37 = .ok (.dup2, 1) := by decide +kernel
theorem dX12_undo_38 : decode cX12_undo 38 = .ok (.iaload, 1) := by decide +kernel
theorem dX12_undo_39 : decode cX12_undo 39 = .ok (.iload_n 1, 1) := by decide +kernel
theorem dX12_undo_40 : decode cX12_undo 40 = .ok (.isub, 1) := by decide +kernel
theorem dX12_undo_41 : decode cX12_undo 41 = .ok (.iastore, 1) := by decide +kernel
theorem dX12_undo_42 : decode cX12_undo 42 = .ok (.iconst 0, 1) := by decide +kernel
theorem dX12_undo_43 : decode cX12_undo 43 = .ok (.istore_n 2, 1) := by decide +kernel
theorem dX12_undo_44 : decode cX12_undo 44 = .ok (.iload_n 2, 1) := by decide +kernel
theorem dX12_undo_45 : decode cX12_undo 45 = .ok (.bipush 76, 2) := by decide +kernel
theorem dX12_undo_47 : decode cX12_undo 47 = .ok (.if_icmp .ge 38, 3) := by decide +kernel
theorem dX12_undo_50 : decode cX12_undo 50 = .ok (.aload_n 0, 1) := by decide +kernel
theorem dX12_undo_51 : decode cX12_undo 51 = .ok (.getfield 13, 3) := by decide +kernel
theorem dX12_undo_54 : decode cX12_undo 54 = .ok (.bipush 36, 2) := by decide +kernel
theorem dX12_undo_56 : decode cX12_undo 56 = .ok (.iload_n 2, 1) := by decide +kernel
theorem dX12_undo_57 : decode cX12_undo 57 = .ok (.iadd, 1) := by decide +kernel
theorem dX12_undo_58 : decode cX12_undo 58 = .ok (.aload_n 0, 1) := by decide +kernel
theorem dX12_undo_59 : decode cX12_undo 59 = .ok (.getfield 13, 3) := by decide +kernel
theorem dX12_undo_62 : decode cX12_undo 62 = .ok (.bipush 113, 2) := by decide +kernel
theorem dX12_undo_64 : decode cX12_undo 64 = .ok (.bipush 76, 2) := by decide +kernel
theorem dX12_undo_66 : decode cX12_undo 66 = .ok (.aload_n 0, 1) := by decide +kernel
theorem dX12_undo_67 : decode cX12_undo 67 = .ok (.getfield 13, 3) := by decide +kernel
theorem dX12_undo_70 : decode cX12_undo 70 = .ok (.bipush 112, 2) := by decide +kernel
theorem dX12_undo_72 : decode cX12_undo 72 = .ok (.iaload, 1) := by decide +kernel
theorem dX12_undo_73 : decode cX12_undo 73 = .ok (.imul, 1) := by decide +kernel
theorem dX12_undo_74 : decode cX12_undo 74 = .ok (.iadd, 1) := by decide +kernel
theorem dX12_undo_75 : decode cX12_undo 75 = .ok (.iload_n 2, 1) := by decide +kernel
theorem dX12_undo_76 : decode cX12_undo 76 = .ok (.iadd, 1) := by decide +kernel
theorem dX12_undo_77 : decode cX12_undo 77 = .ok (.iaload, 1) := by decide +kernel
theorem dX12_undo_78 : decode cX12_undo 78 = .ok (.iastore, 1) := by decide +kernel
theorem dX12_undo_79 : decode cX12_undo 79 = .ok (.iinc 2 1, 3) := by decide +kernel
theorem dX12_undo_82 : decode cX12_undo 82 = .ok (.goto (-38), 3) := by decide +kernel
theorem dX12_undo_85 : decode cX12_undo 85 = .ok (.aload_n 0, 1) := by decide +kernel
theorem dX12_undo_86 : decode cX12_undo 86 = .ok (.getfield 13, 3) := by decide +kernel
theorem dX12_undo_89 : decode cX12_undo 89 = .ok (.bipush 112, 2) := by decide +kernel
theorem dX12_undo_91 : decode cX12_undo 91 = .ok (.iaload, 1) := by decide +kernel
theorem dX12_undo_92 : decode cX12_undo 92 = .ok (.ireturn, 1) := by decide +kernel
theorem dX12_walk_0 : decode cX12_walk 0 = .ok (.aload_n 0, 1) := by decide +kernel
theorem dX12_walk_1 : decode cX12_walk 1 = .ok (.iconst 0, 1) := by decide +kernel
theorem dX12_walk_2 : decode cX12_walk 2 = .ok (.putfield 1, 3) := by decide +kernel
theorem dX12_walk_5 : decode cX12_walk 5 = .ok (.aload_n 0, 1) := by decide +kernel
theorem dX12_walk_6 : decode cX12_walk 6 = .ok (.iload_n 1, 1) := by decide +kernel
theorem dX12_walk_7 : decode cX12_walk 7 = .ok (.invokevirtual 312, 3) := by decide +kernel
theorem dX12_walk_10 : decode cX12_walk 10 = .ok (.istore_n 2, 1) := by decide +kernel
theorem dX12_walk_11 : decode cX12_walk 11 = .ok (.iload_n 2, 1) := by decide +kernel
theorem dX12_walk_12 : decode cX12_walk 12 = .ok (.ifCond .eq 5, 3) := by decide +kernel
theorem dX12_walk_15 : decode cX12_walk 15 = .ok (.iload_n 2, 1) := by decide +kernel
theorem dX12_walk_16 : decode cX12_walk 16 = .ok (.ireturn, 1) := by decide +kernel
theorem dX12_walk_17 : decode cX12_walk 17 = .ok (.aload_n 0, 1) := by decide +kernel
theorem dX12_walk_18 : decode cX12_walk 18 = .ok (.invokevirtual 297, 3) := by decide +kernel
theorem dX12_walk_21 : decode cX12_walk 21 = .ok (.aload_n 0, 1) := by decide +kernel
theorem dX12_walk_22 : decode cX12_walk 22 = .ok (.iload_n 1, 1) := by decide +kernel
theorem dX12_walk_23 : decode cX12_walk 23 = .ok (.invokevirtual 315, 3) := by decide +kernel
theorem dX12_walk_26 : decode cX12_walk 26 = .ok (.istore_n 3, 1) := by decide +kernel
theorem dX12_walk_27 : decode cX12_walk 27 = .ok (.iload_n 3, 1) := by decide +kernel
theorem dX12_walk_28 : decode cX12_walk 28 = .ok (.ifCond .le 7, 3) := by decide +kernel
theorem dX12_walk_31 : decode cX12_walk 31 = .ok (.aload_n 0, 1) := by decide +kernel
theorem dX12_walk_32 : decode cX12_walk 32 = .ok (.invokevirtual 303, 3) := by decide +kernel
theorem dX12_walk_35 : decode cX12_walk 35 = .ok (.iload_n 3, 1) := by decide +kernel
theorem dX12_walk_36 : decode cX12_walk 36 = .ok (.ireturn, 1) := by decide +kernel
theorem dX12_why_0 : decode cX12_why 0 = .ok (.aload_n 0, 1) := by decide +kernel
theorem dX12_why_1 : decode cX12_why 1 = .ok (.iconst 0, 1) := by decide +kernel
theorem dX12_why_2 : decode cX12_why 2 = .ok (.putfield 1, 3) := by decide +kernel
theorem dX12_why_5 : decode cX12_why 5 = .ok (.aload_n 0, 1) := by decide +kernel
theorem dX12_why_6 : decode cX12_why 6 = .ok (.iload_n 1, 1) := by decide +kernel
theorem dX12_why_7 : decode cX12_why 7 = .ok (.i2l, 1) := by decide +kernel
theorem dX12_why_8 : decode cX12_why 8 = .ok (.iload_n 2, 1) := by decide +kernel
theorem dX12_why_9 : decode cX12_why 9 = .ok (.i2l, 1) := by decide +kernel
theorem dX12_why_10 : decode cX12_why 10 = .ok (.invokevirtual 290, 3) := by decide +kernel
theorem dX12_why_13 : decode cX12_why 13 = .ok (.ireturn, 1) := by decide +kernel
theorem o35_1 {x0 x1 x2 x3 x4 : Int} (h0 : x1 = x0) (h1 : x2 = 0) (h2 : x3 = 3) (h3 : 0 ≤ x4) (h4 : x4 ≤ 1) (h5 : ((x4 = 0 ∧ (x1 < x2 ∨ x3 < x1)) ∨ (x4 = 1 ∧ x2 ≤ x1 ∧ x1 ≤ x3))) (h6 : ¬ x4 = 0) : 0 ≤ x0 := by omega
theorem o35_2 {x0 x1 x2 x3 x4 : Int} (h0 : x1 = x0) (h1 : x2 = 0) (h2 : x3 = 3) (h3 : 0 ≤ x4) (h4 : x4 ≤ 1) (h5 : ((x4 = 0 ∧ (x1 < x2 ∨ x3 < x1)) ∨ (x4 = 1 ∧ x2 ≤ x1 ∧ x1 ≤ x3))) (h6 : ¬ x4 = 0) : x0 < (4 : Nat) := by omega
theorem o35_3 {x0 : Int} (h0 : x0 = (-1)) : x0 = (-1) := by omega
theorem o35_4 {x0 x1 : Int} (h0 : (-1) ≤ x0) (h1 : x0 ≤ 3) (h2 : x1 = (-1)) (h3 : ¬ x0 = x1) : ¬ x0 = (-1) := by omega
theorem o35_5 {x0 x1 : Int} (h0 : (-1) ≤ x0) (h1 : x0 ≤ 3) (h2 : x1 = (-1)) (h3 : x0 = x1) : x0 = (-1) := by omega
theorem o35_6 {x0 : Int} (h0 : x0 = 0) : (-6) ≤ x0 := by omega
theorem o35_7 {x0 : Int} (h0 : x0 = 0) : x0 ≤ 0 := by omega
theorem o35_8 {x0 x1 x2 x3 x4 x5 : Int} (h0 : x2 = x1) (h1 : x3 = 0) (h2 : x4 = 3) (h3 : 0 ≤ x5) (h4 : x5 ≤ 1) (h5 : ((x5 = 0 ∧ (x2 < x3 ∨ x4 < x2)) ∨ (x5 = 1 ∧ x3 ≤ x2 ∧ x2 ≤ x4))) (h6 : ¬ x5 = 0) (h7 : x0 = 0) : (x0 = -2 ∨ (0 ≤ x1 ∧ x1 ≤ 3)) := by omega
theorem o35_9 {x0 : Int} (h0 : x0 = (-6)) : (-6) ≤ x0 := by omega
theorem o35_10 {x0 : Int} (h0 : x0 = (-6)) : x0 ≤ 0 := by omega
theorem o35_11 {x0 x1 x2 x3 x4 x5 : Int} (h0 : x2 = x1) (h1 : x3 = 0) (h2 : x4 = 3) (h3 : 0 ≤ x5) (h4 : x5 ≤ 1) (h5 : ((x5 = 0 ∧ (x2 < x3 ∨ x4 < x2)) ∨ (x5 = 1 ∧ x3 ≤ x2 ∧ x2 ≤ x4))) (h6 : ¬ x5 = 0) (h7 : x0 = (-6)) : (x0 = -2 ∨ (0 ≤ x1 ∧ x1 ≤ 3)) := by omega
theorem o35_12 {x0 : Int} (h0 : x0 = (-2)) : (-6) ≤ x0 := by omega
theorem o35_13 {x0 : Int} (h0 : x0 = (-2)) : x0 ≤ 0 := by omega
theorem o35_14 {x0 x1 x2 x3 x4 x5 : Int} (h0 : x2 = x1) (h1 : x3 = 0) (h2 : x4 = 3) (h3 : 0 ≤ x5) (h4 : x5 ≤ 1) (h5 : ((x5 = 0 ∧ (x2 < x3 ∨ x4 < x2)) ∨ (x5 = 1 ∧ x3 ≤ x2 ∧ x2 ≤ x4))) (h6 : x5 = 0) (h7 : x0 = (-2)) : (x0 = -2 ∨ (0 ≤ x1 ∧ x1 ≤ 3)) := by omega
theorem o35_15 {x0 : Int} (h0 : x0 = 1) : x0 = 1 := by omega
theorem o35_16 {x0 x1 : Int} (h0 : ¬ x0 = 0) (h1 : x1 = 1) (h2 : ¬ x0 = x1) : ¬ x0 = 1 := by omega
theorem o35_17 {x0 x1 : Int} (h0 : ¬ x0 = 0) (h1 : x1 = 1) (h2 : x0 = x1) : x0 = 1 := by omega
theorem o35_18 {x0 x1 x2 x3 : Int} (h0 : x2 = x1) (h1 : 0 ≤ x3) (h2 : x3 ≤ 1) (h3 : (x3 = 0 ∨ (0 ≤ x2 ∧ x2 ≤ 4))) (h4 : ¬ x3 = 0) (h5 : x0 = 36) (h6 : -2147483648 ≤ x0) (h7 : x0 ≤ 2147483647) (h8 : -2147483648 ≤ x1) (h9 : x1 ≤ 2147483647) (h10 : -2147483648 ≤ x3) (h11 : x3 ≤ 2147483647) : -2147483648 ≤ x0 + x1 := by omega
theorem o35_19 {x0 x1 x2 x3 : Int} (h0 : x2 = x1) (h1 : 0 ≤ x3) (h2 : x3 ≤ 1) (h3 : (x3 = 0 ∨ (0 ≤ x2 ∧ x2 ≤ 4))) (h4 : ¬ x3 = 0) (h5 : x0 = 36) (h6 : -2147483648 ≤ x0) (h7 : x0 ≤ 2147483647) (h8 : -2147483648 ≤ x1) (h9 : x1 ≤ 2147483647) (h10 : -2147483648 ≤ x3) (h11 : x3 ≤ 2147483647) : x0 + x1 ≤ 2147483647 := by omega
theorem o35_20 {x0 x1 x2 x3 x4 : Int} (h0 : x1 = x2) (h1 : 0 ≤ x3) (h2 : x3 ≤ 1) (h3 : (x3 = 0 ∨ (0 ≤ x1 ∧ x1 ≤ 4))) (h4 : ¬ x3 = 0) (h5 : x4 = 36) (h6 : x0 = x4 + x2) : 0 ≤ x0 := by omega
theorem o35_21 {x0 x1 x2 x3 x4 : Int} (h0 : x1 = x2) (h1 : 0 ≤ x3) (h2 : x3 ≤ 1) (h3 : (x3 = 0 ∨ (0 ≤ x1 ∧ x1 ≤ 4))) (h4 : ¬ x3 = 0) (h5 : x4 = 36) (h6 : x0 = x4 + x2) : x0 < (5322 : Nat) := by omega
theorem o35_22 : ∀ p, p < 41 → 36 ≤ p → 0 ≤ (elAll p).1 ∧ (elAll p).2 ≤ 24 := by decide +kernel
theorem o35_23 {x0 x1 x2 x3 x4 : Int} (h0 : x1 = x2) (h1 : 0 ≤ x3) (h2 : x3 ≤ 1) (h3 : (x3 = 0 ∨ (0 ≤ x1 ∧ x1 ≤ 4))) (h4 : ¬ x3 = 0) (h5 : x4 = 36) (h6 : x0 = x4 + x2) : (x0).toNat < 41 := by omega
theorem o35_24 {x0 x1 x2 x3 x4 : Int} (h0 : x1 = x2) (h1 : 0 ≤ x3) (h2 : x3 ≤ 1) (h3 : (x3 = 0 ∨ (0 ≤ x1 ∧ x1 ≤ 4))) (h4 : ¬ x3 = 0) (h5 : x4 = 36) (h6 : x0 = x4 + x2) : 36 ≤ (x0).toNat := by omega
theorem o35_25 {x0 x1 x2 x3 : Int} (h0 : x2 = x1) (h1 : 0 ≤ x3) (h2 : x3 ≤ 1) (h3 : (x3 = 0 ∨ (0 ≤ x2 ∧ x2 ≤ 4))) (h4 : ¬ x3 = 0) (h5 : x0 = 41) (h6 : -2147483648 ≤ x0) (h7 : x0 ≤ 2147483647) (h8 : -2147483648 ≤ x1) (h9 : x1 ≤ 2147483647) (h10 : -2147483648 ≤ x3) (h11 : x3 ≤ 2147483647) : -2147483648 ≤ x0 + x1 := by omega
theorem o35_26 {x0 x1 x2 x3 : Int} (h0 : x2 = x1) (h1 : 0 ≤ x3) (h2 : x3 ≤ 1) (h3 : (x3 = 0 ∨ (0 ≤ x2 ∧ x2 ≤ 4))) (h4 : ¬ x3 = 0) (h5 : x0 = 41) (h6 : -2147483648 ≤ x0) (h7 : x0 ≤ 2147483647) (h8 : -2147483648 ≤ x1) (h9 : x1 ≤ 2147483647) (h10 : -2147483648 ≤ x3) (h11 : x3 ≤ 2147483647) : x0 + x1 ≤ 2147483647 := by omega
theorem o35_27 {x0 x1 x2 x3 x4 : Int} (h0 : x1 = x2) (h1 : 0 ≤ x3) (h2 : x3 ≤ 1) (h3 : (x3 = 0 ∨ (0 ≤ x1 ∧ x1 ≤ 4))) (h4 : ¬ x3 = 0) (h5 : x4 = 41) (h6 : x0 = x4 + x2) : 0 ≤ x0 := by omega
theorem o35_28 {x0 x1 x2 x3 x4 : Int} (h0 : x1 = x2) (h1 : 0 ≤ x3) (h2 : x3 ≤ 1) (h3 : (x3 = 0 ∨ (0 ≤ x1 ∧ x1 ≤ 4))) (h4 : ¬ x3 = 0) (h5 : x4 = 41) (h6 : x0 = x4 + x2) : x0 < (5322 : Nat) := by omega
theorem o35_29 : ∀ p, p < 46 → 41 ≤ p → 0 ≤ (elAll p).1 ∧ (elAll p).2 ≤ 3 := by decide +kernel
theorem o35_30 {x0 x1 x2 x3 x4 : Int} (h0 : x1 = x2) (h1 : 0 ≤ x3) (h2 : x3 ≤ 1) (h3 : (x3 = 0 ∨ (0 ≤ x1 ∧ x1 ≤ 4))) (h4 : ¬ x3 = 0) (h5 : x4 = 41) (h6 : x0 = x4 + x2) : (x0).toNat < 46 := by omega
theorem o35_31 {x0 x1 x2 x3 x4 : Int} (h0 : x1 = x2) (h1 : 0 ≤ x3) (h2 : x3 ≤ 1) (h3 : (x3 = 0 ∨ (0 ≤ x1 ∧ x1 ≤ 4))) (h4 : ¬ x3 = 0) (h5 : x4 = 41) (h6 : x0 = x4 + x2) : 41 ≤ (x0).toNat := by omega
theorem o35_32 {x0 x1 x2 x3 : Int} (h0 : x2 = x1) (h1 : 0 ≤ x3) (h2 : x3 ≤ 1) (h3 : (x3 = 0 ∨ (0 ≤ x2 ∧ x2 ≤ 4))) (h4 : ¬ x3 = 0) (h5 : x0 = 46) (h6 : -2147483648 ≤ x0) (h7 : x0 ≤ 2147483647) (h8 : -2147483648 ≤ x1) (h9 : x1 ≤ 2147483647) (h10 : -2147483648 ≤ x3) (h11 : x3 ≤ 2147483647) : -2147483648 ≤ x0 + x1 := by omega
theorem o35_33 {x0 x1 x2 x3 : Int} (h0 : x2 = x1) (h1 : 0 ≤ x3) (h2 : x3 ≤ 1) (h3 : (x3 = 0 ∨ (0 ≤ x2 ∧ x2 ≤ 4))) (h4 : ¬ x3 = 0) (h5 : x0 = 46) (h6 : -2147483648 ≤ x0) (h7 : x0 ≤ 2147483647) (h8 : -2147483648 ≤ x1) (h9 : x1 ≤ 2147483647) (h10 : -2147483648 ≤ x3) (h11 : x3 ≤ 2147483647) : x0 + x1 ≤ 2147483647 := by omega
theorem o35_34 {x0 x1 x2 x3 x4 : Int} (h0 : x1 = x2) (h1 : 0 ≤ x3) (h2 : x3 ≤ 1) (h3 : (x3 = 0 ∨ (0 ≤ x1 ∧ x1 ≤ 4))) (h4 : ¬ x3 = 0) (h5 : x4 = 46) (h6 : x0 = x4 + x2) : 0 ≤ x0 := by omega
theorem o35_35 {x0 x1 x2 x3 x4 : Int} (h0 : x1 = x2) (h1 : 0 ≤ x3) (h2 : x3 ≤ 1) (h3 : (x3 = 0 ∨ (0 ≤ x1 ∧ x1 ≤ 4))) (h4 : ¬ x3 = 0) (h5 : x4 = 46) (h6 : x0 = x4 + x2) : x0 < (5322 : Nat) := by omega
theorem o35_36 : ∀ p, p < 51 → 46 ≤ p → 0 ≤ (elAll p).1 ∧ (elAll p).2 ≤ 99 := by decide +kernel
theorem o35_37 {x0 x1 x2 x3 x4 : Int} (h0 : x1 = x2) (h1 : 0 ≤ x3) (h2 : x3 ≤ 1) (h3 : (x3 = 0 ∨ (0 ≤ x1 ∧ x1 ≤ 4))) (h4 : ¬ x3 = 0) (h5 : x4 = 46) (h6 : x0 = x4 + x2) : (x0).toNat < 51 := by omega
theorem o35_38 {x0 x1 x2 x3 x4 : Int} (h0 : x1 = x2) (h1 : 0 ≤ x3) (h2 : x3 ≤ 1) (h3 : (x3 = 0 ∨ (0 ≤ x1 ∧ x1 ≤ 4))) (h4 : ¬ x3 = 0) (h5 : x4 = 46) (h6 : x0 = x4 + x2) : 46 ≤ (x0).toNat := by omega
theorem o35_39 {x0 x1 x2 x3 : Int} (h0 : x2 = x1) (h1 : 0 ≤ x3) (h2 : x3 ≤ 1) (h3 : (x3 = 0 ∨ (0 ≤ x2 ∧ x2 ≤ 4))) (h4 : ¬ x3 = 0) (h5 : x0 = 51) (h6 : -2147483648 ≤ x0) (h7 : x0 ≤ 2147483647) (h8 : -2147483648 ≤ x1) (h9 : x1 ≤ 2147483647) (h10 : -2147483648 ≤ x3) (h11 : x3 ≤ 2147483647) : -2147483648 ≤ x0 + x1 := by omega
theorem o35_40 {x0 x1 x2 x3 : Int} (h0 : x2 = x1) (h1 : 0 ≤ x3) (h2 : x3 ≤ 1) (h3 : (x3 = 0 ∨ (0 ≤ x2 ∧ x2 ≤ 4))) (h4 : ¬ x3 = 0) (h5 : x0 = 51) (h6 : -2147483648 ≤ x0) (h7 : x0 ≤ 2147483647) (h8 : -2147483648 ≤ x1) (h9 : x1 ≤ 2147483647) (h10 : -2147483648 ≤ x3) (h11 : x3 ≤ 2147483647) : x0 + x1 ≤ 2147483647 := by omega
theorem o35_41 {x0 x1 x2 x3 x4 : Int} (h0 : x1 = x2) (h1 : 0 ≤ x3) (h2 : x3 ≤ 1) (h3 : (x3 = 0 ∨ (0 ≤ x1 ∧ x1 ≤ 4))) (h4 : ¬ x3 = 0) (h5 : x4 = 51) (h6 : x0 = x4 + x2) : 0 ≤ x0 := by omega
theorem o35_42 {x0 x1 x2 x3 x4 : Int} (h0 : x1 = x2) (h1 : 0 ≤ x3) (h2 : x3 ≤ 1) (h3 : (x3 = 0 ∨ (0 ≤ x1 ∧ x1 ≤ 4))) (h4 : ¬ x3 = 0) (h5 : x4 = 51) (h6 : x0 = x4 + x2) : x0 < (5322 : Nat) := by omega
theorem o35_43 {x0 x1 x2 x3 : Int} (h0 : x2 = x1) (h1 : 0 ≤ x3) (h2 : x3 ≤ 1) (h3 : (x3 = 0 ∨ (0 ≤ x2 ∧ x2 ≤ 4))) (h4 : ¬ x3 = 0) (h5 : x0 = 56) (h6 : -2147483648 ≤ x0) (h7 : x0 ≤ 2147483647) (h8 : -2147483648 ≤ x1) (h9 : x1 ≤ 2147483647) (h10 : -2147483648 ≤ x3) (h11 : x3 ≤ 2147483647) : -2147483648 ≤ x0 + x1 := by omega
theorem o35_44 {x0 x1 x2 x3 : Int} (h0 : x2 = x1) (h1 : 0 ≤ x3) (h2 : x3 ≤ 1) (h3 : (x3 = 0 ∨ (0 ≤ x2 ∧ x2 ≤ 4))) (h4 : ¬ x3 = 0) (h5 : x0 = 56) (h6 : -2147483648 ≤ x0) (h7 : x0 ≤ 2147483647) (h8 : -2147483648 ≤ x1) (h9 : x1 ≤ 2147483647) (h10 : -2147483648 ≤ x3) (h11 : x3 ≤ 2147483647) : x0 + x1 ≤ 2147483647 := by omega
theorem o35_45 {x0 x1 x2 x3 x4 : Int} (h0 : x1 = x2) (h1 : 0 ≤ x3) (h2 : x3 ≤ 1) (h3 : (x3 = 0 ∨ (0 ≤ x1 ∧ x1 ≤ 4))) (h4 : ¬ x3 = 0) (h5 : x4 = 56) (h6 : x0 = x4 + x2) : 0 ≤ x0 := by omega
theorem o35_46 {x0 x1 x2 x3 x4 : Int} (h0 : x1 = x2) (h1 : 0 ≤ x3) (h2 : x3 ≤ 1) (h3 : (x3 = 0 ∨ (0 ≤ x1 ∧ x1 ≤ 4))) (h4 : ¬ x3 = 0) (h5 : x4 = 56) (h6 : x0 = x4 + x2) : x0 < (5322 : Nat) := by omega
theorem o35_47 {x0 : Int} (h0 : x0 = (-2)) : (-2) ≤ x0 := by omega
theorem o35_48 {x0 : Int} (h0 : x0 = (-2)) : x0 ≤ 24 := by omega
theorem o35_49 {x0 x1 x2 : Int} (h0 : x1 = x0) (h1 : 0 ≤ x2) (h2 : x2 ≤ 1) (h3 : (x2 = 0 ∨ (0 ≤ x1 ∧ x1 ≤ 24))) (h4 : ¬ x2 = 0) : 0 ≤ x0 := by omega
theorem o35_50 {x0 x1 x2 : Int} (h0 : x1 = x0) (h1 : 0 ≤ x2) (h2 : x2 ≤ 1) (h3 : (x2 = 0 ∨ (0 ≤ x1 ∧ x1 ≤ 24))) (h4 : ¬ x2 = 0) : x0 ≤ 24 := by omega
theorem o35_51 {x0 x1 : Int} (h0 : 0 ≤ x1) (h1 : x1 ≤ 1) (h2 : (x1 = 0 ∨ (0 ≤ x0 ∧ x0 ≤ 3))) (h3 : ¬ x1 = 0) : 0 ≤ x0 := by omega
theorem o35_52 {x0 x1 : Int} (h0 : 0 ≤ x1) (h1 : x1 ≤ 1) (h2 : (x1 = 0 ∨ (0 ≤ x0 ∧ x0 ≤ 3))) (h3 : ¬ x1 = 0) : x0 ≤ 3 := by omega
theorem o35_53 {x0 x1 x2 : Int} (h0 : x1 = x2) (h1 : 0 ≤ x0) (h2 : x0 ≤ 1) (h3 : (x0 = 0 ∨ (0 ≤ x1 ∧ x1 ≤ 24))) (h4 : ¬ x0 = 0) : ¬ x0 = 0 := by omega
theorem o35_54 {x0 : Int} (h0 : (-1) ≤ x0) (h1 : x0 ≤ 24) : (-2) ≤ x0 := by omega
theorem o35_55 {x0 : Int} (h0 : (-1) ≤ x0) (h1 : x0 ≤ 24) : x0 ≤ 24 := by omega
theorem o35_56 {x0 : Int} (h0 : x0 = 0) : 0 ≤ x0 := by omega
theorem o35_57 {x0 : Int} (h0 : x0 = 0) : x0 ≤ 3 := by omega
theorem o35_58 {x0 x1 x2 x3 : Int} (h0 : x2 = x1) (h1 : 0 ≤ x3) (h2 : x3 ≤ 1) (h3 : (x3 = 0 ∨ (0 ≤ x2 ∧ x2 ≤ 24))) (h4 : ¬ x3 = 0) (h5 : x0 = 61) (h6 : -2147483648 ≤ x0) (h7 : x0 ≤ 2147483647) (h8 : -2147483648 ≤ x1) (h9 : x1 ≤ 2147483647) (h10 : -2147483648 ≤ x3) (h11 : x3 ≤ 2147483647) : -2147483648 ≤ x0 + x1 := by omega
theorem o35_59 {x0 x1 x2 x3 : Int} (h0 : x2 = x1) (h1 : 0 ≤ x3) (h2 : x3 ≤ 1) (h3 : (x3 = 0 ∨ (0 ≤ x2 ∧ x2 ≤ 24))) (h4 : ¬ x3 = 0) (h5 : x0 = 61) (h6 : -2147483648 ≤ x0) (h7 : x0 ≤ 2147483647) (h8 : -2147483648 ≤ x1) (h9 : x1 ≤ 2147483647) (h10 : -2147483648 ≤ x3) (h11 : x3 ≤ 2147483647) : x0 + x1 ≤ 2147483647 := by omega
theorem o35_60 {x0 x1 x2 x3 x4 : Int} (h0 : x1 = x2) (h1 : 0 ≤ x3) (h2 : x3 ≤ 1) (h3 : (x3 = 0 ∨ (0 ≤ x1 ∧ x1 ≤ 24))) (h4 : ¬ x3 = 0) (h5 : x4 = 61) (h6 : x0 = x4 + x2) : 0 ≤ x0 := by omega
theorem o35_61 {x0 x1 x2 x3 x4 : Int} (h0 : x1 = x2) (h1 : 0 ≤ x3) (h2 : x3 ≤ 1) (h3 : (x3 = 0 ∨ (0 ≤ x1 ∧ x1 ≤ 24))) (h4 : ¬ x3 = 0) (h5 : x4 = 61) (h6 : x0 = x4 + x2) : x0 < (5322 : Nat) := by omega
theorem o35_62 {x0 x1 x2 x3 : Int} (h0 : x2 = x1) (h1 : 0 ≤ x3) (h2 : x3 ≤ 1) (h3 : (x3 = 0 ∨ (0 ≤ x2 ∧ x2 ≤ 24))) (h4 : ¬ x3 = 0) (h5 : x0 = 86) (h6 : -2147483648 ≤ x0) (h7 : x0 ≤ 2147483647) (h8 : -2147483648 ≤ x1) (h9 : x1 ≤ 2147483647) (h10 : -2147483648 ≤ x3) (h11 : x3 ≤ 2147483647) : -2147483648 ≤ x0 + x1 := by omega
theorem o35_63 {x0 x1 x2 x3 : Int} (h0 : x2 = x1) (h1 : 0 ≤ x3) (h2 : x3 ≤ 1) (h3 : (x3 = 0 ∨ (0 ≤ x2 ∧ x2 ≤ 24))) (h4 : ¬ x3 = 0) (h5 : x0 = 86) (h6 : -2147483648 ≤ x0) (h7 : x0 ≤ 2147483647) (h8 : -2147483648 ≤ x1) (h9 : x1 ≤ 2147483647) (h10 : -2147483648 ≤ x3) (h11 : x3 ≤ 2147483647) : x0 + x1 ≤ 2147483647 := by omega
theorem o35_64 {x0 x1 x2 x3 x4 : Int} (h0 : x1 = x2) (h1 : 0 ≤ x3) (h2 : x3 ≤ 1) (h3 : (x3 = 0 ∨ (0 ≤ x1 ∧ x1 ≤ 24))) (h4 : ¬ x3 = 0) (h5 : x4 = 86) (h6 : x0 = x4 + x2) : 0 ≤ x0 := by omega
theorem o35_65 {x0 x1 x2 x3 x4 : Int} (h0 : x1 = x2) (h1 : 0 ≤ x3) (h2 : x3 ≤ 1) (h3 : (x3 = 0 ∨ (0 ≤ x1 ∧ x1 ≤ 24))) (h4 : ¬ x3 = 0) (h5 : x4 = 86) (h6 : x0 = x4 + x2) : x0 < (5322 : Nat) := by omega
theorem o35_66 {x0 : Int} (h0 : x0 = 111) : 0 ≤ x0 := by omega
theorem o35_67 {x0 : Int} (h0 : x0 = 111) : x0 < (5322 : Nat) := by omega
theorem o35_68 {x0 : Int} (h0 : x0 = 111) : x0 = ((111 : Nat) : Int) := by omega
theorem o35_69 {x0 x1 x2 x3 x4 x5 : Int} (h0 : x2 = x1) (h1 : 0 ≤ x3) (h2 : x3 ≤ 1) (h3 : (x3 = 0 ∨ (0 ≤ x2 ∧ x2 ≤ 24))) (h4 : ¬ x3 = 0) (h5 : x4 = 86) (h6 : x5 = x4 + x1) (h7 : x0 = 86) (h8 : -2147483648 ≤ x0) (h9 : x0 ≤ 2147483647) (h10 : -2147483648 ≤ x1) (h11 : x1 ≤ 2147483647) (h12 : -2147483648 ≤ x3) (h13 : x3 ≤ 2147483647) (h14 : -2147483648 ≤ x4) (h15 : x4 ≤ 2147483647) (h16 : -2147483648 ≤ x5) (h17 : x5 ≤ 2147483647) : -2147483648 ≤ x0 + x1 := by omega
theorem o35_70 {x0 x1 x2 x3 x4 x5 : Int} (h0 : x2 = x1) (h1 : 0 ≤ x3) (h2 : x3 ≤ 1) (h3 : (x3 = 0 ∨ (0 ≤ x2 ∧ x2 ≤ 24))) (h4 : ¬ x3 = 0) (h5 : x4 = 86) (h6 : x5 = x4 + x1) (h7 : x0 = 86) (h8 : -2147483648 ≤ x0) (h9 : x0 ≤ 2147483647) (h10 : -2147483648 ≤ x1) (h11 : x1 ≤ 2147483647) (h12 : -2147483648 ≤ x3) (h13 : x3 ≤ 2147483647) (h14 : -2147483648 ≤ x4) (h15 : x4 ≤ 2147483647) (h16 : -2147483648 ≤ x5) (h17 : x5 ≤ 2147483647) : x0 + x1 ≤ 2147483647 := by omega
theorem o35_71 {x0 x1 x2 x3 x4 x5 x6 : Int} (h0 : x1 = x2) (h1 : 0 ≤ x3) (h2 : x3 ≤ 1) (h3 : (x3 = 0 ∨ (0 ≤ x1 ∧ x1 ≤ 24))) (h4 : ¬ x3 = 0) (h5 : x4 = 86) (h6 : x5 = x4 + x2) (h7 : x6 = 86) (h8 : x0 = x6 + x2) : 0 ≤ x0 := by omega
theorem o35_72 {x0 x1 x2 x3 x4 x5 x6 : Int} (h0 : x1 = x2) (h1 : 0 ≤ x3) (h2 : x3 ≤ 1) (h3 : (x3 = 0 ∨ (0 ≤ x1 ∧ x1 ≤ 24))) (h4 : ¬ x3 = 0) (h5 : x4 = 86) (h6 : x5 = x4 + x2) (h7 : x6 = 86) (h8 : x0 = x6 + x2) : x0 < (5322 : Nat) := by omega
theorem o35_73 {x0 x1 x2 x3 x4 x5 x6 : Int} (h0 : x2 = x3) (h1 : 0 ≤ x4) (h2 : x4 ≤ 1) (h3 : (x4 = 0 ∨ (0 ≤ x2 ∧ x2 ≤ 24))) (h4 : ¬ x4 = 0) (h5 : x5 = 86) (h6 : x1 = x5 + x3) (h7 : x6 = 86) (h8 : x0 = x6 + x3) : (x0).toNat = (x1).toNat := by omega
theorem o35_74 {x0 : Int} (h0 : x0 = (-2)) : (-3) ≤ x0 := by omega
theorem o35_75 {x0 : Int} (h0 : x0 = (-3)) : (-3) ≤ x0 := by omega
theorem o35_76 {x0 : Int} (h0 : 0 ≤ x0) : (-3) ≤ x0 := by omega
theorem o35_77 {x0 x1 x2 x3 x4 : Int} (h0 : x1 = x2) (h1 : x3 = x4) (h2 : 0 ≤ x0) (h3 : x0 ≤ 4) (h4 : (x0 = 0 → 0 ≤ x1) ∧ (x0 = 0 → x1 ≤ 4) ∧ (x0 = 0 → 0 ≤ x3) ∧ (x0 = 0 → x3 ≤ 3)) : 0 ≤ x0 := by omega
theorem o35_78 {x0 x1 x2 x3 x4 : Int} (h0 : x1 = x2) (h1 : x3 = x4) (h2 : 0 ≤ x0) (h3 : x0 ≤ 4) (h4 : (x0 = 0 → 0 ≤ x1) ∧ (x0 = 0 → x1 ≤ 4) ∧ (x0 = 0 → 0 ≤ x3) ∧ (x0 = 0 → x3 ≤ 3)) : x0 ≤ 4 := by omega
theorem o35_79 {x0 x1 x2 x3 x4 : Int} (h0 : x1 = x0) (h1 : x2 = x3) (h2 : 0 ≤ x4) (h3 : x4 ≤ 4) (h4 : (x4 = 0 → 0 ≤ x1) ∧ (x4 = 0 → x1 ≤ 4) ∧ (x4 = 0 → 0 ≤ x2) ∧ (x4 = 0 → x2 ≤ 3)) (h5 : x4 = 0) : 0 ≤ x0 := by omega
theorem o35_80 {x0 x1 x2 x3 x4 : Int} (h0 : x1 = x0) (h1 : x2 = x3) (h2 : 0 ≤ x4) (h3 : x4 ≤ 4) (h4 : (x4 = 0 → 0 ≤ x1) ∧ (x4 = 0 → x1 ≤ 4) ∧ (x4 = 0 → 0 ≤ x2) ∧ (x4 = 0 → x2 ≤ 3)) (h5 : x4 = 0) : x0 ≤ 4 := by omega
theorem o35_81 {x0 x1 x2 x3 x4 : Int} (h0 : x1 = x2) (h1 : x3 = x0) (h2 : 0 ≤ x4) (h3 : x4 ≤ 4) (h4 : (x4 = 0 → 0 ≤ x1) ∧ (x4 = 0 → x1 ≤ 4) ∧ (x4 = 0 → 0 ≤ x3) ∧ (x4 = 0 → x3 ≤ 3)) (h5 : x4 = 0) : 0 ≤ x0 := by omega
theorem o35_82 {x0 x1 x2 x3 x4 : Int} (h0 : x1 = x2) (h1 : x3 = x0) (h2 : 0 ≤ x4) (h3 : x4 ≤ 4) (h4 : (x4 = 0 → 0 ≤ x1) ∧ (x4 = 0 → x1 ≤ 4) ∧ (x4 = 0 → 0 ≤ x3) ∧ (x4 = 0 → x3 ≤ 3)) (h5 : x4 = 0) : x0 ≤ 3 := by omega
theorem o35_83 {x0 x1 x2 x3 x4 : Int} (h0 : x1 = x2) (h1 : x3 = x4) (h2 : 0 ≤ x0) (h3 : x0 ≤ 4) (h4 : (x0 = 0 → 0 ≤ x1) ∧ (x0 = 0 → x1 ≤ 4) ∧ (x0 = 0 → 0 ≤ x3) ∧ (x0 = 0 → x3 ≤ 3)) (h5 : x0 = 0) : x0 = 0 := by omega
theorem o35_84 {x0 x1 x2 x3 x4 : Int} (h0 : x1 = x0) (h1 : x2 = x3) (h2 : 0 ≤ x4) (h3 : x4 ≤ 4) (h4 : (x4 = 0 → 0 ≤ x1) ∧ (x4 = 0 → x1 ≤ 4) ∧ (x4 = 0 → 0 ≤ x2) ∧ (x4 = 0 → x2 ≤ 3)) (h5 : x4 = 0) : (x0).toNat = (x1).toNat := by omega
theorem o35_85 {x0 x1 x2 x3 x4 : Int} (h0 : x2 = x3) (h1 : x1 = x0) (h2 : 0 ≤ x4) (h3 : x4 ≤ 4) (h4 : (x4 = 0 → 0 ≤ x2) ∧ (x4 = 0 → x2 ≤ 4) ∧ (x4 = 0 → 0 ≤ x1) ∧ (x4 = 0 → x1 ≤ 3)) (h5 : x4 = 0) : x0 = x1 := by omega
theorem o35_86 {x0 x1 x2 x3 x4 x5 : Int} (h0 : x2 = x1) (h1 : x3 = x4) (h2 : 0 ≤ x5) (h3 : x5 ≤ 4) (h4 : (x5 = 0 → 0 ≤ x2) ∧ (x5 = 0 → x2 ≤ 4) ∧ (x5 = 0 → 0 ≤ x3) ∧ (x5 = 0 → x3 ≤ 3)) (h5 : x5 = 0) (h6 : x0 = 36) (h7 : -2147483648 ≤ x0) (h8 : x0 ≤ 2147483647) (h9 : -2147483648 ≤ x1) (h10 : x1 ≤ 2147483647) (h11 : -2147483648 ≤ x4) (h12 : x4 ≤ 2147483647) (h13 : -2147483648 ≤ x5) (h14 : x5 ≤ 2147483647) : -2147483648 ≤ x0 + x1 := by omega
theorem o35_87 {x0 x1 x2 x3 x4 x5 : Int} (h0 : x2 = x1) (h1 : x3 = x4) (h2 : 0 ≤ x5) (h3 : x5 ≤ 4) (h4 : (x5 = 0 → 0 ≤ x2) ∧ (x5 = 0 → x2 ≤ 4) ∧ (x5 = 0 → 0 ≤ x3) ∧ (x5 = 0 → x3 ≤ 3)) (h5 : x5 = 0) (h6 : x0 = 36) (h7 : -2147483648 ≤ x0) (h8 : x0 ≤ 2147483647) (h9 : -2147483648 ≤ x1) (h10 : x1 ≤ 2147483647) (h11 : -2147483648 ≤ x4) (h12 : x4 ≤ 2147483647) (h13 : -2147483648 ≤ x5) (h14 : x5 ≤ 2147483647) : x0 + x1 ≤ 2147483647 := by omega
theorem o35_88 {x0 x1 x2 x3 x4 x5 x6 : Int} (h0 : x1 = x2) (h1 : x3 = x4) (h2 : 0 ≤ x5) (h3 : x5 ≤ 4) (h4 : (x5 = 0 → 0 ≤ x1) ∧ (x5 = 0 → x1 ≤ 4) ∧ (x5 = 0 → 0 ≤ x3) ∧ (x5 = 0 → x3 ≤ 3)) (h5 : x5 = 0) (h6 : x6 = 36) (h7 : x0 = x6 + x2) : 0 ≤ x0 := by omega
theorem o35_89 {x0 x1 x2 x3 x4 x5 x6 : Int} (h0 : x1 = x2) (h1 : x3 = x4) (h2 : 0 ≤ x5) (h3 : x5 ≤ 4) (h4 : (x5 = 0 → 0 ≤ x1) ∧ (x5 = 0 → x1 ≤ 4) ∧ (x5 = 0 → 0 ≤ x3) ∧ (x5 = 0 → x3 ≤ 3)) (h5 : x5 = 0) (h6 : x6 = 36) (h7 : x0 = x6 + x2) : x0 < (5322 : Nat) := by omega
theorem o35_90 {x0 x1 x2 x3 x4 x5 x6 : Int} (h0 : x1 = x2) (h1 : x3 = x4) (h2 : 0 ≤ x5) (h3 : x5 ≤ 4) (h4 : (x5 = 0 → 0 ≤ x1) ∧ (x5 = 0 → x1 ≤ 4) ∧ (x5 = 0 → 0 ≤ x3) ∧ (x5 = 0 → x3 ≤ 3)) (h5 : x5 = 0) (h6 : x6 = 36) (h7 : x0 = x6 + x2) : (x0).toNat < 41 := by omega
theorem o35_91 {x0 x1 x2 x3 x4 x5 x6 : Int} (h0 : x1 = x2) (h1 : x3 = x4) (h2 : 0 ≤ x5) (h3 : x5 ≤ 4) (h4 : (x5 = 0 → 0 ≤ x1) ∧ (x5 = 0 → x1 ≤ 4) ∧ (x5 = 0 → 0 ≤ x3) ∧ (x5 = 0 → x3 ≤ 3)) (h5 : x5 = 0) (h6 : x6 = 36) (h7 : x0 = x6 + x2) : 36 ≤ (x0).toNat := by omega
theorem o35_92 {x0 : Int} (h0 : 0 ≤ x0) (h1 : x0 ≤ 24) : (-14) ≤ x0 := by omega
theorem o35_93 {x0 : Int} (h0 : 0 ≤ x0) (h1 : x0 ≤ 24) : x0 ≤ 24 := by omega
theorem o35_94 {x0 x1 x2 x3 x4 x5 : Int} (h0 : x2 = x3) (h1 : x4 = x5) (h2 : 0 ≤ x1) (h3 : x1 ≤ 4) (h4 : (x1 = 0 → 0 ≤ x2) ∧ (x1 = 0 → x2 ≤ 4) ∧ (x1 = 0 → 0 ≤ x4) ∧ (x1 = 0 → x4 ≤ 3)) (h5 : ¬ x1 = 0) (h6 : x0 = (-10)) (h7 : -2147483648 ≤ x0) (h8 : x0 ≤ 2147483647) (h9 : -2147483648 ≤ x1) (h10 : x1 ≤ 2147483647) (h11 : -2147483648 ≤ x3) (h12 : x3 ≤ 2147483647) (h13 : -2147483648 ≤ x5) (h14 : x5 ≤ 2147483647) : -2147483648 ≤ x0 - x1 := by omega
theorem o35_95 {x0 x1 x2 x3 x4 x5 : Int} (h0 : x2 = x3) (h1 : x4 = x5) (h2 : 0 ≤ x1) (h3 : x1 ≤ 4) (h4 : (x1 = 0 → 0 ≤ x2) ∧ (x1 = 0 → x2 ≤ 4) ∧ (x1 = 0 → 0 ≤ x4) ∧ (x1 = 0 → x4 ≤ 3)) (h5 : ¬ x1 = 0) (h6 : x0 = (-10)) (h7 : -2147483648 ≤ x0) (h8 : x0 ≤ 2147483647) (h9 : -2147483648 ≤ x1) (h10 : x1 ≤ 2147483647) (h11 : -2147483648 ≤ x3) (h12 : x3 ≤ 2147483647) (h13 : -2147483648 ≤ x5) (h14 : x5 ≤ 2147483647) : x0 - x1 ≤ 2147483647 := by omega
theorem o35_96 {x0 x1 x2 x3 x4 x5 x6 : Int} (h0 : x1 = x2) (h1 : x3 = x4) (h2 : 0 ≤ x5) (h3 : x5 ≤ 4) (h4 : (x5 = 0 → 0 ≤ x1) ∧ (x5 = 0 → x1 ≤ 4) ∧ (x5 = 0 → 0 ≤ x3) ∧ (x5 = 0 → x3 ≤ 3)) (h5 : ¬ x5 = 0) (h6 : x6 = (-10)) (h7 : x0 = x6 - x5) : (-14) ≤ x0 := by omega
theorem o35_97 {x0 x1 x2 x3 x4 x5 x6 : Int} (h0 : x1 = x2) (h1 : x3 = x4) (h2 : 0 ≤ x5) (h3 : x5 ≤ 4) (h4 : (x5 = 0 → 0 ≤ x1) ∧ (x5 = 0 → x1 ≤ 4) ∧ (x5 = 0 → 0 ≤ x3) ∧ (x5 = 0 → x3 ≤ 3)) (h5 : ¬ x5 = 0) (h6 : x6 = (-10)) (h7 : x0 = x6 - x5) : x0 ≤ 24 := by omega
theorem o35_98 {x0 : Int} (h0 : 0 ≤ x0) (h1 : x0 ≤ 3) : 0 ≤ x0 := by omega
theorem o35_99 {x0 : Int} (h0 : 0 ≤ x0) (h1 : x0 ≤ 3) : x0 < (4 : Nat) := by omega
theorem o35_100 {x0 : Int} (h0 : x0 = 0) : x0 ≤ 39 := by omega
theorem o35_101 {x0 : Int} (h0 : x0 = 40) : x0 = 40 := by omega
theorem o35_102 {x0 : Int} (h0 : 0 ≤ x0) (h1 : x0 ≤ 3) (h2 : -2147483648 ≤ x0) (h3 : x0 ≤ 2147483647) : -2147483648 ≤ 40 * x0 := by omega
theorem o35_103 {x0 : Int} (h0 : 0 ≤ x0) (h1 : x0 ≤ 3) (h2 : -2147483648 ≤ x0) (h3 : x0 ≤ 2147483647) : 40 * x0 ≤ 2147483647 := by omega
theorem o35_104 {x0 x1 : Int} (h0 : 0 ≤ x1) (h1 : x1 ≤ 3) (h2 : x0 = 40 * x1) : 0 ≤ x0 := by omega
theorem o35_105 {x0 x1 : Int} (h0 : 0 ≤ x1) (h1 : x1 ≤ 3) (h2 : x0 = 40 * x1) : x0 < (160 : Nat) := by omega
theorem o35_106 {x0 x1 : Int} (h0 : 0 ≤ x0) (h1 : x0 ≤ 3) (h2 : x1 = 40 * x0) (h3 : -2147483648 ≤ x0) (h4 : x0 ≤ 2147483647) (h5 : -2147483648 ≤ x1) (h6 : x1 ≤ 2147483647) : -2147483648 ≤ 40 * x0 := by omega
theorem o35_107 {x0 x1 : Int} (h0 : 0 ≤ x0) (h1 : x0 ≤ 3) (h2 : x1 = 40 * x0) (h3 : -2147483648 ≤ x0) (h4 : x0 ≤ 2147483647) (h5 : -2147483648 ≤ x1) (h6 : x1 ≤ 2147483647) : 40 * x0 ≤ 2147483647 := by omega
theorem o35_108 {x0 x1 x2 : Int} (h0 : 0 ≤ x1) (h1 : x1 ≤ 3) (h2 : x2 = 40 * x1) (h3 : x0 = 40 * x1) : 0 ≤ x0 := by omega
theorem o35_109 {x0 x1 x2 : Int} (h0 : 0 ≤ x1) (h1 : x1 ≤ 3) (h2 : x2 = 40 * x1) (h3 : x0 = 40 * x1) : x0 < (160 : Nat) := by omega
theorem o35_110 {x0 x1 x2 : Int} (h0 : 0 ≤ x2) (h1 : x2 ≤ 3) (h2 : x1 = 40 * x2) (h3 : x0 = 40 * x2) : (x0).toNat = (x1).toNat := by omega
theorem o35_111 {x0 x1 x2 : Int} (h0 : 0 ≤ x1) (h1 : x1 ≤ 1) (h2 : (x1 = 0 ∨ (0 ≤ x2 ∧ x2 ≤ 4))) (h3 : ¬ x1 = 0) (h4 : x0 = x2) (h5 : -2147483648 ≤ x1) (h6 : x1 ≤ 2147483647) : -2147483648 ≤ x0 := by omega
theorem o35_112 {x0 x1 x2 : Int} (h0 : 0 ≤ x1) (h1 : x1 ≤ 1) (h2 : (x1 = 0 ∨ (0 ≤ x2 ∧ x2 ≤ 4))) (h3 : ¬ x1 = 0) (h4 : x0 = x2) (h5 : -2147483648 ≤ x1) (h6 : x1 ≤ 2147483647) : x0 ≤ 2147483647 := by omega
theorem o35_113 {x0 : Int} (h0 : 1 ≤ x0) (h1 : x0 ≤ 40) (h2 : 40 - x0 < 0) : False := by omega
theorem o35_114 {x0 x1 x2 : Int} (h0 : 0 ≤ x0) (h1 : x0 ≤ 3) (h2 : x1 = 40 * x0) (h3 : x2 = 40 * x0) : 0 ≤ x0 := by omega
theorem o35_115 {x0 x1 x2 : Int} (h0 : 0 ≤ x0) (h1 : x0 ≤ 3) (h2 : x1 = 40 * x0) (h3 : x2 = 40 * x0) : x0 < (4 : Nat) := by omega
theorem o35_116 {x0 x1 x2 x3 x5 : Int} {x4 : Nat} (h0 : 0 ≤ x2) (h1 : x2 ≤ 40) (h2 : ¬ x2 = 0) (h3 : 1 ≤ x3) (h4 : x3 ≤ 40) (h5 : 40 - x3 < ((x4 + 1 : Nat) : Int)) (h6 : 0 ≤ x5) (h7 : x5 ≤ 40) (h8 : x5 = x2) (h9 : x5 ≤ x3) (h10 : 0 ≤ x0) (h11 : x0 ≤ 40) (h12 : x0 = x2) (h13 : x1 = 1) (h14 : -2147483648 ≤ x0) (h15 : x0 ≤ 2147483647) (h16 : -2147483648 ≤ x1) (h17 : x1 ≤ 2147483647) (h18 : -2147483648 ≤ x2) (h19 : x2 ≤ 2147483647) (h20 : -2147483648 ≤ x3) (h21 : x3 ≤ 2147483647) (h22 : -2147483648 ≤ x5) (h23 : x5 ≤ 2147483647) : -2147483648 ≤ x0 - x1 := by omega
theorem o35_117 {x0 x1 x2 x3 x5 : Int} {x4 : Nat} (h0 : 0 ≤ x2) (h1 : x2 ≤ 40) (h2 : ¬ x2 = 0) (h3 : 1 ≤ x3) (h4 : x3 ≤ 40) (h5 : 40 - x3 < ((x4 + 1 : Nat) : Int)) (h6 : 0 ≤ x5) (h7 : x5 ≤ 40) (h8 : x5 = x2) (h9 : x5 ≤ x3) (h10 : 0 ≤ x0) (h11 : x0 ≤ 40) (h12 : x0 = x2) (h13 : x1 = 1) (h14 : -2147483648 ≤ x0) (h15 : x0 ≤ 2147483647) (h16 : -2147483648 ≤ x1) (h17 : x1 ≤ 2147483647) (h18 : -2147483648 ≤ x2) (h19 : x2 ≤ 2147483647) (h20 : -2147483648 ≤ x3) (h21 : x3 ≤ 2147483647) (h22 : -2147483648 ≤ x5) (h23 : x5 ≤ 2147483647) : x0 - x1 ≤ 2147483647 := by omega
theorem o35_118 {x0 x1 x2 x4 x5 x6 : Int} {x3 : Nat} (h0 : 0 ≤ x1) (h1 : x1 ≤ 40) (h2 : ¬ x1 = 0) (h3 : 1 ≤ x2) (h4 : x2 ≤ 40) (h5 : 40 - x2 < ((x3 + 1 : Nat) : Int)) (h6 : 0 ≤ x4) (h7 : x4 ≤ 40) (h8 : x4 = x1) (h9 : x4 ≤ x2) (h10 : 0 ≤ x5) (h11 : x5 ≤ 40) (h12 : x5 = x1) (h13 : x6 = 1) (h14 : x0 = x5 - x6) : 0 ≤ x0 := by omega
theorem o35_119 {x0 x1 x2 x4 x5 x6 : Int} {x3 : Nat} (h0 : 0 ≤ x1) (h1 : x1 ≤ 40) (h2 : ¬ x1 = 0) (h3 : 1 ≤ x2) (h4 : x2 ≤ 40) (h5 : 40 - x2 < ((x3 + 1 : Nat) : Int)) (h6 : 0 ≤ x4) (h7 : x4 ≤ 40) (h8 : x4 = x1) (h9 : x4 ≤ x2) (h10 : 0 ≤ x5) (h11 : x5 ≤ 40) (h12 : x5 = x1) (h13 : x6 = 1) (h14 : x0 = x5 - x6) : x0 ≤ 39 := by omega
theorem o35_120 {x0 x1 x2 : Int} (h0 : 0 ≤ x0) (h1 : x0 ≤ 3) (h2 : x1 = 40 * x0) (h3 : x2 = 40 * x0) (h4 : -2147483648 ≤ x0) (h5 : x0 ≤ 2147483647) (h6 : -2147483648 ≤ x1) (h7 : x1 ≤ 2147483647) (h8 : -2147483648 ≤ x2) (h9 : x2 ≤ 2147483647) : -2147483648 ≤ 40 * x0 := by omega
theorem o35_121 {x0 x1 x2 : Int} (h0 : 0 ≤ x0) (h1 : x0 ≤ 3) (h2 : x1 = 40 * x0) (h3 : x2 = 40 * x0) (h4 : -2147483648 ≤ x0) (h5 : x0 ≤ 2147483647) (h6 : -2147483648 ≤ x1) (h7 : x1 ≤ 2147483647) (h8 : -2147483648 ≤ x2) (h9 : x2 ≤ 2147483647) : 40 * x0 ≤ 2147483647 := by omega
theorem o35_122 {x0 x1 x2 x3 x4 x5 x7 : Int} {x6 : Nat} (h0 : 0 ≤ x2) (h1 : x2 ≤ 3) (h2 : 0 ≤ x3) (h3 : x3 ≤ 40) (h4 : ¬ x3 = 0) (h5 : x4 = 40 * x2) (h6 : x5 = 40 * x2) (h7 : 1 ≤ x1) (h8 : x1 ≤ 40) (h9 : 40 - x1 < ((x6 + 1 : Nat) : Int)) (h10 : 0 ≤ x7) (h11 : x7 ≤ 40) (h12 : x7 = x3) (h13 : x1 < x7) (h14 : x0 = 40 * x2) (h15 : -2147483648 ≤ x0) (h16 : x0 ≤ 2147483647) (h17 : -2147483648 ≤ x1) (h18 : x1 ≤ 2147483647) (h19 : -2147483648 ≤ x2) (h20 : x2 ≤ 2147483647) (h21 : -2147483648 ≤ x3) (h22 : x3 ≤ 2147483647) (h23 : -2147483648 ≤ x4) (h24 : x4 ≤ 2147483647) (h25 : -2147483648 ≤ x5) (h26 : x5 ≤ 2147483647) (h27 : -2147483648 ≤ x7) (h28 : x7 ≤ 2147483647) : -2147483648 ≤ x0 + x1 := by omega
theorem o35_123 {x0 x1 x2 x3 x4 x5 x7 : Int} {x6 : Nat} (h0 : 0 ≤ x2) (h1 : x2 ≤ 3) (h2 : 0 ≤ x3) (h3 : x3 ≤ 40) (h4 : ¬ x3 = 0) (h5 : x4 = 40 * x2) (h6 : x5 = 40 * x2) (h7 : 1 ≤ x1) (h8 : x1 ≤ 40) (h9 : 40 - x1 < ((x6 + 1 : Nat) : Int)) (h10 : 0 ≤ x7) (h11 : x7 ≤ 40) (h12 : x7 = x3) (h13 : x1 < x7) (h14 : x0 = 40 * x2) (h15 : -2147483648 ≤ x0) (h16 : x0 ≤ 2147483647) (h17 : -2147483648 ≤ x1) (h18 : x1 ≤ 2147483647) (h19 : -2147483648 ≤ x2) (h20 : x2 ≤ 2147483647) (h21 : -2147483648 ≤ x3) (h22 : x3 ≤ 2147483647) (h23 : -2147483648 ≤ x4) (h24 : x4 ≤ 2147483647) (h25 : -2147483648 ≤ x5) (h26 : x5 ≤ 2147483647) (h27 : -2147483648 ≤ x7) (h28 : x7 ≤ 2147483647) : x0 + x1 ≤ 2147483647 := by omega
theorem o35_124 {x0 x1 x2 x3 x4 x5 x7 x8 : Int} {x6 : Nat} (h0 : 0 ≤ x1) (h1 : x1 ≤ 3) (h2 : 0 ≤ x2) (h3 : x2 ≤ 40) (h4 : ¬ x2 = 0) (h5 : x3 = 40 * x1) (h6 : x4 = 40 * x1) (h7 : 1 ≤ x5) (h8 : x5 ≤ 40) (h9 : 40 - x5 < ((x6 + 1 : Nat) : Int)) (h10 : 0 ≤ x7) (h11 : x7 ≤ 40) (h12 : x7 = x2) (h13 : x5 < x7) (h14 : x8 = 40 * x1) (h15 : x0 = x8 + x5) : 0 ≤ x0 := by omega
theorem o35_125 {x0 x1 x2 x3 x4 x5 x7 x8 : Int} {x6 : Nat} (h0 : 0 ≤ x1) (h1 : x1 ≤ 3) (h2 : 0 ≤ x2) (h3 : x2 ≤ 40) (h4 : ¬ x2 = 0) (h5 : x3 = 40 * x1) (h6 : x4 = 40 * x1) (h7 : 1 ≤ x5) (h8 : x5 ≤ 40) (h9 : 40 - x5 < ((x6 + 1 : Nat) : Int)) (h10 : 0 ≤ x7) (h11 : x7 ≤ 40) (h12 : x7 = x2) (h13 : x5 < x7) (h14 : x8 = 40 * x1) (h15 : x0 = x8 + x5) : x0 < (160 : Nat) := by omega
theorem o35_126 {x0 x1 x2 x3 x4 x6 x7 x8 : Int} {x5 : Nat} (h0 : 0 ≤ x0) (h1 : x0 ≤ 3) (h2 : 0 ≤ x1) (h3 : x1 ≤ 40) (h4 : ¬ x1 = 0) (h5 : x2 = 40 * x0) (h6 : x3 = 40 * x0) (h7 : 1 ≤ x4) (h8 : x4 ≤ 40) (h9 : 40 - x4 < ((x5 + 1 : Nat) : Int)) (h10 : 0 ≤ x6) (h11 : x6 ≤ 40) (h12 : x6 = x1) (h13 : x4 < x6) (h14 : x7 = 40 * x0) (h15 : x8 = x7 + x4) (h16 : -2147483648 ≤ x0) (h17 : x0 ≤ 2147483647) (h18 : -2147483648 ≤ x1) (h19 : x1 ≤ 2147483647) (h20 : -2147483648 ≤ x2) (h21 : x2 ≤ 2147483647) (h22 : -2147483648 ≤ x3) (h23 : x3 ≤ 2147483647) (h24 : -2147483648 ≤ x4) (h25 : x4 ≤ 2147483647) (h26 : -2147483648 ≤ x6) (h27 : x6 ≤ 2147483647) (h28 : -2147483648 ≤ x7) (h29 : x7 ≤ 2147483647) (h30 : -2147483648 ≤ x8) (h31 : x8 ≤ 2147483647) : -2147483648 ≤ 40 * x0 := by omega
theorem o35_127 {x0 x1 x2 x3 x4 x6 x7 x8 : Int} {x5 : Nat} (h0 : 0 ≤ x0) (h1 : x0 ≤ 3) (h2 : 0 ≤ x1) (h3 : x1 ≤ 40) (h4 : ¬ x1 = 0) (h5 : x2 = 40 * x0) (h6 : x3 = 40 * x0) (h7 : 1 ≤ x4) (h8 : x4 ≤ 40) (h9 : 40 - x4 < ((x5 + 1 : Nat) : Int)) (h10 : 0 ≤ x6) (h11 : x6 ≤ 40) (h12 : x6 = x1) (h13 : x4 < x6) (h14 : x7 = 40 * x0) (h15 : x8 = x7 + x4) (h16 : -2147483648 ≤ x0) (h17 : x0 ≤ 2147483647) (h18 : -2147483648 ≤ x1) (h19 : x1 ≤ 2147483647) (h20 : -2147483648 ≤ x2) (h21 : x2 ≤ 2147483647) (h22 : -2147483648 ≤ x3) (h23 : x3 ≤ 2147483647) (h24 : -2147483648 ≤ x4) (h25 : x4 ≤ 2147483647) (h26 : -2147483648 ≤ x6) (h27 : x6 ≤ 2147483647) (h28 : -2147483648 ≤ x7) (h29 : x7 ≤ 2147483647) (h30 : -2147483648 ≤ x8) (h31 : x8 ≤ 2147483647) : 40 * x0 ≤ 2147483647 := by omega
theorem o35_128 {x0 x1 x2 x3 x4 x5 x7 x8 x9 : Int} {x6 : Nat} (h0 : 0 ≤ x2) (h1 : x2 ≤ 3) (h2 : 0 ≤ x3) (h3 : x3 ≤ 40) (h4 : ¬ x3 = 0) (h5 : x4 = 40 * x2) (h6 : x5 = 40 * x2) (h7 : 1 ≤ x1) (h8 : x1 ≤ 40) (h9 : 40 - x1 < ((x6 + 1 : Nat) : Int)) (h10 : 0 ≤ x7) (h11 : x7 ≤ 40) (h12 : x7 = x3) (h13 : x1 < x7) (h14 : x8 = 40 * x2) (h15 : x9 = x8 + x1) (h16 : x0 = 40 * x2) (h17 : -2147483648 ≤ x0) (h18 : x0 ≤ 2147483647) (h19 : -2147483648 ≤ x1) (h20 : x1 ≤ 2147483647) (h21 : -2147483648 ≤ x2) (h22 : x2 ≤ 2147483647) (h23 : -2147483648 ≤ x3) (h24 : x3 ≤ 2147483647) (h25 : -2147483648 ≤ x4) (h26 : x4 ≤ 2147483647) (h27 : -2147483648 ≤ x5) (h28 : x5 ≤ 2147483647) (h29 : -2147483648 ≤ x7) (h30 : x7 ≤ 2147483647) (h31 : -2147483648 ≤ x8) (h32 : x8 ≤ 2147483647) (h33 : -2147483648 ≤ x9) (h34 : x9 ≤ 2147483647) : -2147483648 ≤ x0 + x1 := by omega
theorem o35_129 {x0 x1 x2 x3 x4 x5 x7 x8 x9 : Int} {x6 : Nat} (h0 : 0 ≤ x2) (h1 : x2 ≤ 3) (h2 : 0 ≤ x3) (h3 : x3 ≤ 40) (h4 : ¬ x3 = 0) (h5 : x4 = 40 * x2) (h6 : x5 = 40 * x2) (h7 : 1 ≤ x1) (h8 : x1 ≤ 40) (h9 : 40 - x1 < ((x6 + 1 : Nat) : Int)) (h10 : 0 ≤ x7) (h11 : x7 ≤ 40) (h12 : x7 = x3) (h13 : x1 < x7) (h14 : x8 = 40 * x2) (h15 : x9 = x8 + x1) (h16 : x0 = 40 * x2) (h17 : -2147483648 ≤ x0) (h18 : x0 ≤ 2147483647) (h19 : -2147483648 ≤ x1) (h20 : x1 ≤ 2147483647) (h21 : -2147483648 ≤ x2) (h22 : x2 ≤ 2147483647) (h23 : -2147483648 ≤ x3) (h24 : x3 ≤ 2147483647) (h25 : -2147483648 ≤ x4) (h26 : x4 ≤ 2147483647) (h27 : -2147483648 ≤ x5) (h28 : x5 ≤ 2147483647) (h29 : -2147483648 ≤ x7) (h30 : x7 ≤ 2147483647) (h31 : -2147483648 ≤ x8) (h32 : x8 ≤ 2147483647) (h33 : -2147483648 ≤ x9) (h34 : x9 ≤ 2147483647) : x0 + x1 ≤ 2147483647 := by omega
theorem o35_130 {x0 x1 x2 x3 x4 x5 x7 x8 x9 x10 : Int} {x6 : Nat} (h0 : 0 ≤ x1) (h1 : x1 ≤ 3) (h2 : 0 ≤ x2) (h3 : x2 ≤ 40) (h4 : ¬ x2 = 0) (h5 : x3 = 40 * x1) (h6 : x4 = 40 * x1) (h7 : 1 ≤ x5) (h8 : x5 ≤ 40) (h9 : 40 - x5 < ((x6 + 1 : Nat) : Int)) (h10 : 0 ≤ x7) (h11 : x7 ≤ 40) (h12 : x7 = x2) (h13 : x5 < x7) (h14 : x8 = 40 * x1) (h15 : x9 = x8 + x5) (h16 : x10 = 40 * x1) (h17 : x0 = x10 + x5) : 0 ≤ x0 := by omega
theorem o35_131 {x0 x1 x2 x3 x4 x5 x7 x8 x9 x10 : Int} {x6 : Nat} (h0 : 0 ≤ x1) (h1 : x1 ≤ 3) (h2 : 0 ≤ x2) (h3 : x2 ≤ 40) (h4 : ¬ x2 = 0) (h5 : x3 = 40 * x1) (h6 : x4 = 40 * x1) (h7 : 1 ≤ x5) (h8 : x5 ≤ 40) (h9 : 40 - x5 < ((x6 + 1 : Nat) : Int)) (h10 : 0 ≤ x7) (h11 : x7 ≤ 40) (h12 : x7 = x2) (h13 : x5 < x7) (h14 : x8 = 40 * x1) (h15 : x9 = x8 + x5) (h16 : x10 = 40 * x1) (h17 : x0 = x10 + x5) : x0 < (160 : Nat) := by omega
theorem o35_132 {x0 x1 x2 x3 x4 x5 x6 x8 x9 x10 : Int} {x7 : Nat} (h0 : 0 ≤ x2) (h1 : x2 ≤ 3) (h2 : 0 ≤ x3) (h3 : x3 ≤ 40) (h4 : ¬ x3 = 0) (h5 : x4 = 40 * x2) (h6 : x5 = 40 * x2) (h7 : 1 ≤ x6) (h8 : x6 ≤ 40) (h9 : 40 - x6 < ((x7 + 1 : Nat) : Int)) (h10 : 0 ≤ x8) (h11 : x8 ≤ 40) (h12 : x8 = x3) (h13 : x6 < x8) (h14 : x9 = 40 * x2) (h15 : x1 = x9 + x6) (h16 : x10 = 40 * x2) (h17 : x0 = x10 + x6) : (x0).toNat = (x1).toNat := by omega
theorem o35_133 {x0 x1 x2 x3 x4 x5 x6 x7 x8 : Int} (h0 : 0 ≤ x1) (h1 : x1 ≤ 1) (h2 : (x1 = 0 ∨ (0 ≤ x2 ∧ x2 ≤ 4))) (h3 : ¬ x1 = 0) (h4 : x3 = x2) (h5 : x4 = x3) (h6 : x5 = x4) (h7 : 0 ≤ x6) (h8 : x6 ≤ 4) (h9 : (x6 = 0 → 0 ≤ x5) ∧ (x6 = 0 → x5 ≤ 4) ∧ (x6 = 0 → 0 ≤ x7) ∧ (x6 = 0 → x7 ≤ 3)) (h10 : x8 = x6) (h11 : x8 = 0) (h12 : x0 = x7) (h13 : -2147483648 ≤ x1) (h14 : x1 ≤ 2147483647) (h15 : -2147483648 ≤ x4) (h16 : x4 ≤ 2147483647) (h17 : -2147483648 ≤ x6) (h18 : x6 ≤ 2147483647) (h19 : -2147483648 ≤ x8) (h20 : x8 ≤ 2147483647) : -2147483648 ≤ x0 := by omega
theorem o35_134 {x0 x1 x2 x3 x4 x5 x6 x7 x8 : Int} (h0 : 0 ≤ x1) (h1 : x1 ≤ 1) (h2 : (x1 = 0 ∨ (0 ≤ x2 ∧ x2 ≤ 4))) (h3 : ¬ x1 = 0) (h4 : x3 = x2) (h5 : x4 = x3) (h6 : x5 = x4) (h7 : 0 ≤ x6) (h8 : x6 ≤ 4) (h9 : (x6 = 0 → 0 ≤ x5) ∧ (x6 = 0 → x5 ≤ 4) ∧ (x6 = 0 → 0 ≤ x7) ∧ (x6 = 0 → x7 ≤ 3)) (h10 : x8 = x6) (h11 : x8 = 0) (h12 : x0 = x7) (h13 : -2147483648 ≤ x1) (h14 : x1 ≤ 2147483647) (h15 : -2147483648 ≤ x4) (h16 : x4 ≤ 2147483647) (h17 : -2147483648 ≤ x6) (h18 : x6 ≤ 2147483647) (h19 : -2147483648 ≤ x8) (h20 : x8 ≤ 2147483647) : x0 ≤ 2147483647 := by omega
theorem o35_135 {x0 x1 x2 x3 x4 x5 x6 x7 x8 x9 : Int} (h0 : 0 ≤ x1) (h1 : x1 ≤ 1) (h2 : (x1 = 0 ∨ (0 ≤ x2 ∧ x2 ≤ 4))) (h3 : ¬ x1 = 0) (h4 : x3 = x2) (h5 : x0 = x3) (h6 : x4 = x0) (h7 : 0 ≤ x5) (h8 : x5 ≤ 4) (h9 : (x5 = 0 → 0 ≤ x4) ∧ (x5 = 0 → x4 ≤ 4) ∧ (x5 = 0 → 0 ≤ x6) ∧ (x5 = 0 → x6 ≤ 3)) (h10 : x7 = x5) (h11 : x7 = 0) (h12 : x8 = x6) (h13 : x9 = x8) : 0 ≤ x0 := by omega
theorem o35_136 {x0 x1 x2 x3 x4 x5 x6 x7 x8 x9 : Int} (h0 : 0 ≤ x1) (h1 : x1 ≤ 1) (h2 : (x1 = 0 ∨ (0 ≤ x2 ∧ x2 ≤ 4))) (h3 : ¬ x1 = 0) (h4 : x3 = x2) (h5 : x0 = x3) (h6 : x4 = x0) (h7 : 0 ≤ x5) (h8 : x5 ≤ 4) (h9 : (x5 = 0 → 0 ≤ x4) ∧ (x5 = 0 → x4 ≤ 4) ∧ (x5 = 0 → 0 ≤ x6) ∧ (x5 = 0 → x6 ≤ 3)) (h10 : x7 = x5) (h11 : x7 = 0) (h12 : x8 = x6) (h13 : x9 = x8) : x0 ≤ 4 := by omega
theorem o35_137 {x0 x1 x2 x3 x4 x5 x6 x7 x8 x9 : Int} (h0 : 0 ≤ x1) (h1 : x1 ≤ 1) (h2 : (x1 = 0 ∨ (0 ≤ x2 ∧ x2 ≤ 4))) (h3 : ¬ x1 = 0) (h4 : x3 = x2) (h5 : x4 = x3) (h6 : x5 = x4) (h7 : 0 ≤ x6) (h8 : x6 ≤ 4) (h9 : (x6 = 0 → 0 ≤ x5) ∧ (x6 = 0 → x5 ≤ 4) ∧ (x6 = 0 → 0 ≤ x7) ∧ (x6 = 0 → x7 ≤ 3)) (h10 : x8 = x6) (h11 : x8 = 0) (h12 : x9 = x7) (h13 : x0 = x9) : 0 ≤ x0 := by omega
theorem o35_138 {x0 x1 x2 x3 x4 x5 x6 x7 x8 x9 : Int} (h0 : 0 ≤ x1) (h1 : x1 ≤ 1) (h2 : (x1 = 0 ∨ (0 ≤ x2 ∧ x2 ≤ 4))) (h3 : ¬ x1 = 0) (h4 : x3 = x2) (h5 : x4 = x3) (h6 : x5 = x4) (h7 : 0 ≤ x6) (h8 : x6 ≤ 4) (h9 : (x6 = 0 → 0 ≤ x5) ∧ (x6 = 0 → x5 ≤ 4) ∧ (x6 = 0 → 0 ≤ x7) ∧ (x6 = 0 → x7 ≤ 3)) (h10 : x8 = x6) (h11 : x8 = 0) (h12 : x9 = x7) (h13 : x0 = x9) : x0 ≤ 3 := by omega
theorem o35_139 {x0 x1 x2 x3 x4 x5 x6 x7 x8 x9 : Int} (h0 : 0 ≤ x1) (h1 : x1 ≤ 1) (h2 : (x1 = 0 ∨ (0 ≤ x2 ∧ x2 ≤ 4))) (h3 : ¬ x1 = 0) (h4 : x3 = x2) (h5 : x4 = x3) (h6 : x5 = x4) (h7 : 0 ≤ x0) (h8 : x0 ≤ 4) (h9 : (x0 = 0 → 0 ≤ x5) ∧ (x0 = 0 → x5 ≤ 4) ∧ (x0 = 0 → 0 ≤ x6) ∧ (x0 = 0 → x6 ≤ 3)) (h10 : x7 = x0) (h11 : x7 = 0) (h12 : x8 = x6) (h13 : x9 = x8) : x0 = 0 := by omega
theorem o35_140 {x0 x1 x2 x3 x4 x5 x6 x7 x8 x9 : Int} (h0 : 0 ≤ x2) (h1 : x2 ≤ 1) (h2 : (x2 = 0 ∨ (0 ≤ x3 ∧ x3 ≤ 4))) (h3 : ¬ x2 = 0) (h4 : x4 = x3) (h5 : x0 = x4) (h6 : x1 = x0) (h7 : 0 ≤ x5) (h8 : x5 ≤ 4) (h9 : (x5 = 0 → 0 ≤ x1) ∧ (x5 = 0 → x1 ≤ 4) ∧ (x5 = 0 → 0 ≤ x6) ∧ (x5 = 0 → x6 ≤ 3)) (h10 : x7 = x5) (h11 : x7 = 0) (h12 : x8 = x6) (h13 : x9 = x8) : (x0).toNat = (x1).toNat := by omega
theorem o35_141 {x0 x1 x2 x3 x4 x5 x6 x7 x8 x9 : Int} (h0 : 0 ≤ x2) (h1 : x2 ≤ 1) (h2 : (x2 = 0 ∨ (0 ≤ x3 ∧ x3 ≤ 4))) (h3 : ¬ x2 = 0) (h4 : x4 = x3) (h5 : x5 = x4) (h6 : x6 = x5) (h7 : 0 ≤ x7) (h8 : x7 ≤ 4) (h9 : (x7 = 0 → 0 ≤ x6) ∧ (x7 = 0 → x6 ≤ 4) ∧ (x7 = 0 → 0 ≤ x1) ∧ (x7 = 0 → x1 ≤ 3)) (h10 : x8 = x7) (h11 : x8 = 0) (h12 : x9 = x1) (h13 : x0 = x9) : x0 = x1 := by omega
theorem o35_142 {x0 x1 x2 x3 x4 x5 x6 x7 x8 x9 : Int} (h0 : 0 ≤ x0) (h1 : x0 ≤ 1) (h2 : (x0 = 0 ∨ (0 ≤ x1 ∧ x1 ≤ 4))) (h3 : ¬ x0 = 0) (h4 : x2 = x1) (h5 : x3 = x2) (h6 : x4 = x3) (h7 : 0 ≤ x5) (h8 : x5 ≤ 4) (h9 : (x5 = 0 → 0 ≤ x4) ∧ (x5 = 0 → x4 ≤ 4) ∧ (x5 = 0 → 0 ≤ x6) ∧ (x5 = 0 → x6 ≤ 3)) (h10 : x7 = x5) (h11 : x7 = 0) (h12 : x8 = x6) (h13 : x9 = x8) : ¬ x0 = 0 := by omega
theorem o35_143 {x0 x1 x2 x3 x4 x6 x7 x8 x9 x10 : Int} {x5 : Nat} (h0 : 0 ≤ x1) (h1 : x1 ≤ 3) (h2 : 0 ≤ x2) (h3 : x2 ≤ 40) (h4 : ¬ x2 = 0) (h5 : x3 = 40 * x1) (h6 : x4 = 40 * x1) (h7 : 1 ≤ x0) (h8 : x0 ≤ 40) (h9 : 40 - x0 < ((x5 + 1 : Nat) : Int)) (h10 : 0 ≤ x6) (h11 : x6 ≤ 40) (h12 : x6 = x2) (h13 : x0 < x6) (h14 : x7 = 40 * x1) (h15 : x8 = x7 + x0) (h16 : x9 = 40 * x1) (h17 : x10 = x9 + x0) (h18 : -2147483648 ≤ x0) (h19 : x0 ≤ 2147483647) (h20 : -2147483648 ≤ x1) (h21 : x1 ≤ 2147483647) (h22 : -2147483648 ≤ x2) (h23 : x2 ≤ 2147483647) (h24 : -2147483648 ≤ x3) (h25 : x3 ≤ 2147483647) (h26 : -2147483648 ≤ x4) (h27 : x4 ≤ 2147483647) (h28 : -2147483648 ≤ x6) (h29 : x6 ≤ 2147483647) (h30 : -2147483648 ≤ x7) (h31 : x7 ≤ 2147483647) (h32 : -2147483648 ≤ x8) (h33 : x8 ≤ 2147483647) (h34 : -2147483648 ≤ x9) (h35 : x9 ≤ 2147483647) (h36 : -2147483648 ≤ x10) (h37 : x10 ≤ 2147483647) : -2147483648 ≤ x0 + 1 := by omega
theorem o35_144 {x0 x1 x2 x3 x4 x6 x7 x8 x9 x10 : Int} {x5 : Nat} (h0 : 0 ≤ x1) (h1 : x1 ≤ 3) (h2 : 0 ≤ x2) (h3 : x2 ≤ 40) (h4 : ¬ x2 = 0) (h5 : x3 = 40 * x1) (h6 : x4 = 40 * x1) (h7 : 1 ≤ x0) (h8 : x0 ≤ 40) (h9 : 40 - x0 < ((x5 + 1 : Nat) : Int)) (h10 : 0 ≤ x6) (h11 : x6 ≤ 40) (h12 : x6 = x2) (h13 : x0 < x6) (h14 : x7 = 40 * x1) (h15 : x8 = x7 + x0) (h16 : x9 = 40 * x1) (h17 : x10 = x9 + x0) (h18 : -2147483648 ≤ x0) (h19 : x0 ≤ 2147483647) (h20 : -2147483648 ≤ x1) (h21 : x1 ≤ 2147483647) (h22 : -2147483648 ≤ x2) (h23 : x2 ≤ 2147483647) (h24 : -2147483648 ≤ x3) (h25 : x3 ≤ 2147483647) (h26 : -2147483648 ≤ x4) (h27 : x4 ≤ 2147483647) (h28 : -2147483648 ≤ x6) (h29 : x6 ≤ 2147483647) (h30 : -2147483648 ≤ x7) (h31 : x7 ≤ 2147483647) (h32 : -2147483648 ≤ x8) (h33 : x8 ≤ 2147483647) (h34 : -2147483648 ≤ x9) (h35 : x9 ≤ 2147483647) (h36 : -2147483648 ≤ x10) (h37 : x10 ≤ 2147483647) : x0 + 1 ≤ 2147483647 := by omega
theorem o35_145 {x0 x2 x3 x4 x5 x6 x7 x8 x9 x10 x11 : Int} {x1 : Nat} (h0 : 0 ≤ x2) (h1 : x2 ≤ 3) (h2 : 0 ≤ x3) (h3 : x3 ≤ 40) (h4 : ¬ x3 = 0) (h5 : x4 = 40 * x2) (h6 : x5 = 40 * x2) (h7 : 1 ≤ x6) (h8 : x6 ≤ 40) (h9 : 40 - x6 < ((x1 + 1 : Nat) : Int)) (h10 : 0 ≤ x7) (h11 : x7 ≤ 40) (h12 : x7 = x3) (h13 : x6 < x7) (h14 : x8 = 40 * x2) (h15 : x9 = x8 + x6) (h16 : x10 = 40 * x2) (h17 : x11 = x10 + x6) (h18 : x0 = x6 + 1) : 40 - x0 < (x1 : Int) := by omega
theorem o35_146 {x0 x1 x2 x3 x4 x5 x7 x8 x9 x10 x11 : Int} {x6 : Nat} (h0 : 0 ≤ x1) (h1 : x1 ≤ 3) (h2 : 0 ≤ x2) (h3 : x2 ≤ 40) (h4 : ¬ x2 = 0) (h5 : x3 = 40 * x1) (h6 : x4 = 40 * x1) (h7 : 1 ≤ x5) (h8 : x5 ≤ 40) (h9 : 40 - x5 < ((x6 + 1 : Nat) : Int)) (h10 : 0 ≤ x7) (h11 : x7 ≤ 40) (h12 : x7 = x2) (h13 : x5 < x7) (h14 : x8 = 40 * x1) (h15 : x9 = x8 + x5) (h16 : x10 = 40 * x1) (h17 : x11 = x10 + x5) (h18 : x0 = x5 + 1) : 1 ≤ x0 := by omega
theorem o35_147 {x0 x1 x2 x3 x4 x5 x7 x8 x9 x10 x11 : Int} {x6 : Nat} (h0 : 0 ≤ x1) (h1 : x1 ≤ 3) (h2 : 0 ≤ x2) (h3 : x2 ≤ 40) (h4 : ¬ x2 = 0) (h5 : x3 = 40 * x1) (h6 : x4 = 40 * x1) (h7 : 1 ≤ x5) (h8 : x5 ≤ 40) (h9 : 40 - x5 < ((x6 + 1 : Nat) : Int)) (h10 : 0 ≤ x7) (h11 : x7 ≤ 40) (h12 : x7 = x2) (h13 : x5 < x7) (h14 : x8 = 40 * x1) (h15 : x9 = x8 + x5) (h16 : x10 = 40 * x1) (h17 : x11 = x10 + x5) (h18 : x0 = x5 + 1) : x0 ≤ 40 := by omega
theorem o35_148 {x0 x1 x2 x3 x4 x5 x7 x8 x9 : Int} {x6 : Nat} (h0 : 0 ≤ x2) (h1 : x2 ≤ 3) (h2 : 0 ≤ x3) (h3 : x3 ≤ 40) (h4 : ¬ x3 = 0) (h5 : x4 = 40 * x2) (h6 : x5 = 40 * x2) (h7 : 1 ≤ x0) (h8 : x0 ≤ 40) (h9 : 40 - x0 < ((x6 + 1 : Nat) : Int)) (h10 : 0 ≤ x7) (h11 : x7 ≤ 40) (h12 : x7 = x3) (h13 : x0 < x7) (h14 : x8 = 40 * x2) (h15 : x9 = x8 + x0) (h16 : x1 = 1) (h17 : -2147483648 ≤ x0) (h18 : x0 ≤ 2147483647) (h19 : -2147483648 ≤ x1) (h20 : x1 ≤ 2147483647) (h21 : -2147483648 ≤ x2) (h22 : x2 ≤ 2147483647) (h23 : -2147483648 ≤ x3) (h24 : x3 ≤ 2147483647) (h25 : -2147483648 ≤ x4) (h26 : x4 ≤ 2147483647) (h27 : -2147483648 ≤ x5) (h28 : x5 ≤ 2147483647) (h29 : -2147483648 ≤ x7) (h30 : x7 ≤ 2147483647) (h31 : -2147483648 ≤ x8) (h32 : x8 ≤ 2147483647) (h33 : -2147483648 ≤ x9) (h34 : x9 ≤ 2147483647) : -2147483648 ≤ x0 - x1 := by omega
theorem o35_149 {x0 x1 x2 x3 x4 x5 x7 x8 x9 : Int} {x6 : Nat} (h0 : 0 ≤ x2) (h1 : x2 ≤ 3) (h2 : 0 ≤ x3) (h3 : x3 ≤ 40) (h4 : ¬ x3 = 0) (h5 : x4 = 40 * x2) (h6 : x5 = 40 * x2) (h7 : 1 ≤ x0) (h8 : x0 ≤ 40) (h9 : 40 - x0 < ((x6 + 1 : Nat) : Int)) (h10 : 0 ≤ x7) (h11 : x7 ≤ 40) (h12 : x7 = x3) (h13 : x0 < x7) (h14 : x8 = 40 * x2) (h15 : x9 = x8 + x0) (h16 : x1 = 1) (h17 : -2147483648 ≤ x0) (h18 : x0 ≤ 2147483647) (h19 : -2147483648 ≤ x1) (h20 : x1 ≤ 2147483647) (h21 : -2147483648 ≤ x2) (h22 : x2 ≤ 2147483647) (h23 : -2147483648 ≤ x3) (h24 : x3 ≤ 2147483647) (h25 : -2147483648 ≤ x4) (h26 : x4 ≤ 2147483647) (h27 : -2147483648 ≤ x5) (h28 : x5 ≤ 2147483647) (h29 : -2147483648 ≤ x7) (h30 : x7 ≤ 2147483647) (h31 : -2147483648 ≤ x8) (h32 : x8 ≤ 2147483647) (h33 : -2147483648 ≤ x9) (h34 : x9 ≤ 2147483647) : x0 - x1 ≤ 2147483647 := by omega
theorem o35_150 {x0 x1 x2 x3 x4 x5 x7 x8 x9 x10 : Int} {x6 : Nat} (h0 : 0 ≤ x1) (h1 : x1 ≤ 3) (h2 : 0 ≤ x2) (h3 : x2 ≤ 40) (h4 : ¬ x2 = 0) (h5 : x3 = 40 * x1) (h6 : x4 = 40 * x1) (h7 : 1 ≤ x5) (h8 : x5 ≤ 40) (h9 : 40 - x5 < ((x6 + 1 : Nat) : Int)) (h10 : 0 ≤ x7) (h11 : x7 ≤ 40) (h12 : x7 = x2) (h13 : x5 < x7) (h14 : x8 = 40 * x1) (h15 : x9 = x8 + x5) (h16 : x10 = 1) (h17 : x0 = x5 - x10) : 0 ≤ x0 := by omega
theorem o35_151 {x0 x1 x2 x3 x4 x5 x7 x8 x9 x10 : Int} {x6 : Nat} (h0 : 0 ≤ x1) (h1 : x1 ≤ 3) (h2 : 0 ≤ x2) (h3 : x2 ≤ 40) (h4 : ¬ x2 = 0) (h5 : x3 = 40 * x1) (h6 : x4 = 40 * x1) (h7 : 1 ≤ x5) (h8 : x5 ≤ 40) (h9 : 40 - x5 < ((x6 + 1 : Nat) : Int)) (h10 : 0 ≤ x7) (h11 : x7 ≤ 40) (h12 : x7 = x2) (h13 : x5 < x7) (h14 : x8 = 40 * x1) (h15 : x9 = x8 + x5) (h16 : x10 = 1) (h17 : x0 = x5 - x10) : x0 ≤ 39 := by omega
theorem o35_152 {x0 : Int} (h0 : x0 = 1) : 40 - x0 < (((40 - x0 + 1).toNat : Nat) : Int) := by omega
theorem o35_153 {x0 : Int} (h0 : x0 = 1) : 1 ≤ x0 := by omega
theorem o35_154 {x0 : Int} (h0 : x0 = 1) : x0 ≤ 40 := by omega
theorem o35_155 {x0 x1 : Int} (h0 : (-6) ≤ x1) (h1 : x1 ≤ 0) (h2 : (x1 = -2 ∨ (0 ≤ x0 ∧ x0 ≤ 3))) (h3 : x1 = 0) : 0 ≤ x0 := by omega
theorem o35_156 {x0 x1 : Int} (h0 : (-6) ≤ x1) (h1 : x1 ≤ 0) (h2 : (x1 = -2 ∨ (0 ≤ x0 ∧ x0 ≤ 3))) (h3 : x1 = 0) : x0 < (4 : Nat) := by omega
theorem o35_157 {x0 x1 : Int} (h0 : (-6) ≤ x1) (h1 : x1 ≤ 0) (h2 : (x1 = -2 ∨ (0 ≤ x0 ∧ x0 ≤ 3))) (h3 : x1 = 0) : x0 ≤ 3 := by omega
theorem o35_158 {x0 : Int} (h0 : x0 = 0) (h1 : ¬ x0 = 0) : False := by omega
theorem o35_159 {x0 x1 x2 x3 x4 x5 : Int} (h0 : x1 = x0) (h1 : x2 = 0) (h2 : x3 = 3) (h3 : 0 ≤ x4) (h4 : x4 ≤ 1) (h5 : ((x4 = 0 ∧ (x1 < x2 ∨ x3 < x1)) ∨ (x4 = 1 ∧ x2 ≤ x1 ∧ x1 ≤ x3))) (h6 : ¬ x4 = 0) (h7 : ¬ x0 = 0) (h8 : x5 = 1) (h9 : ¬ x0 = x5) : ¬ x0 = 1 := by omega
theorem o35_160 {x0 x1 x2 x3 x4 x5 : Int} (h0 : x1 = x0) (h1 : x2 = 0) (h2 : x3 = 3) (h3 : 0 ≤ x4) (h4 : x4 ≤ 1) (h5 : ((x4 = 0 ∧ (x1 < x2 ∨ x3 < x1)) ∨ (x4 = 1 ∧ x2 ≤ x1 ∧ x1 ≤ x3))) (h6 : ¬ x4 = 0) (h7 : ¬ x0 = 0) (h8 : x5 = 1) (h9 : x0 = x5) : x0 = 1 := by omega
theorem o35_161 {x0 : Int} (h0 : x0 = 2) : x0 = 2 := by omega
theorem o35_162 {x0 x1 x2 x3 x4 x5 x6 : Int} (h0 : x1 = x0) (h1 : x2 = 0) (h2 : x3 = 3) (h3 : 0 ≤ x4) (h4 : x4 ≤ 1) (h5 : ((x4 = 0 ∧ (x1 < x2 ∨ x3 < x1)) ∨ (x4 = 1 ∧ x2 ≤ x1 ∧ x1 ≤ x3))) (h6 : ¬ x4 = 0) (h7 : ¬ x0 = 0) (h8 : x5 = 1) (h9 : ¬ x0 = x5) (h10 : x6 = 2) (h11 : ¬ x0 = x6) : ¬ x0 = 2 := by omega
theorem o35_163 {x0 x1 x2 x3 x4 x5 x6 : Int} (h0 : x1 = x0) (h1 : x2 = 0) (h2 : x3 = 3) (h3 : 0 ≤ x4) (h4 : x4 ≤ 1) (h5 : ((x4 = 0 ∧ (x1 < x2 ∨ x3 < x1)) ∨ (x4 = 1 ∧ x2 ≤ x1 ∧ x1 ≤ x3))) (h6 : ¬ x4 = 0) (h7 : ¬ x0 = 0) (h8 : x5 = 1) (h9 : ¬ x0 = x5) (h10 : x6 = 2) (h11 : x0 = x6) : x0 = 2 := by omega
theorem o35_164 {x0 x1 : Int} (h0 : (-6) ≤ x1) (h1 : x1 ≤ 0) (h2 : (x1 = -2 ∨ (0 ≤ x0 ∧ x0 ≤ 3))) (h3 : x1 = 0) (h4 : -2147483648 ≤ x0) (h5 : x0 ≤ 2147483647) (h6 : -2147483648 ≤ x1) (h7 : x1 ≤ 2147483647) : -2147483648 ≤ 40 * x0 := by omega
theorem o35_165 {x0 x1 : Int} (h0 : (-6) ≤ x1) (h1 : x1 ≤ 0) (h2 : (x1 = -2 ∨ (0 ≤ x0 ∧ x0 ≤ 3))) (h3 : x1 = 0) (h4 : -2147483648 ≤ x0) (h5 : x0 ≤ 2147483647) (h6 : -2147483648 ≤ x1) (h7 : x1 ≤ 2147483647) : 40 * x0 ≤ 2147483647 := by omega
theorem o35_166 {x0 x1 x2 : Int} (h0 : (-6) ≤ x1) (h1 : x1 ≤ 0) (h2 : (x1 = -2 ∨ (0 ≤ x2 ∧ x2 ≤ 3))) (h3 : x1 = 0) (h4 : x0 = 40 * x2) : 0 ≤ x0 := by omega
theorem o35_167 {x0 x1 x2 : Int} (h0 : (-6) ≤ x1) (h1 : x1 ≤ 0) (h2 : (x1 = -2 ∨ (0 ≤ x2 ∧ x2 ≤ 3))) (h3 : x1 = 0) (h4 : x0 = 40 * x2) : x0 < (160 : Nat) := by omega
theorem o35_168 {x0 x1 x2 : Int} (h0 : (-6) ≤ x1) (h1 : x1 ≤ 0) (h2 : (x1 = -2 ∨ (0 ≤ x0 ∧ x0 ≤ 3))) (h3 : x1 = 0) (h4 : x2 = 40 * x0) : 0 ≤ x0 := by omega
theorem o35_169 {x0 x1 x2 : Int} (h0 : (-6) ≤ x1) (h1 : x1 ≤ 0) (h2 : (x1 = -2 ∨ (0 ≤ x0 ∧ x0 ≤ 3))) (h3 : x1 = 0) (h4 : x2 = 40 * x0) : x0 ≤ 3 := by omega
theorem o35_170 {x0 : Int} (h0 : x0 = 1) (h1 : x0 = 0) : False := by omega
theorem o35_171 {x0 x1 x2 : Int} (h0 : (-6) ≤ x1) (h1 : x1 ≤ 0) (h2 : (x1 = -2 ∨ (0 ≤ x0 ∧ x0 ≤ 3))) (h3 : x1 = 0) (h4 : x2 = 40 * x0) (h5 : -2147483648 ≤ x0) (h6 : x0 ≤ 2147483647) (h7 : -2147483648 ≤ x1) (h8 : x1 ≤ 2147483647) (h9 : -2147483648 ≤ x2) (h10 : x2 ≤ 2147483647) : -2147483648 ≤ 40 * x0 := by omega
theorem o35_172 {x0 x1 x2 : Int} (h0 : (-6) ≤ x1) (h1 : x1 ≤ 0) (h2 : (x1 = -2 ∨ (0 ≤ x0 ∧ x0 ≤ 3))) (h3 : x1 = 0) (h4 : x2 = 40 * x0) (h5 : -2147483648 ≤ x0) (h6 : x0 ≤ 2147483647) (h7 : -2147483648 ≤ x1) (h8 : x1 ≤ 2147483647) (h9 : -2147483648 ≤ x2) (h10 : x2 ≤ 2147483647) : 40 * x0 ≤ 2147483647 := by omega
theorem o35_173 {x0 x1 x2 x3 : Int} (h0 : (-6) ≤ x1) (h1 : x1 ≤ 0) (h2 : (x1 = -2 ∨ (0 ≤ x2 ∧ x2 ≤ 3))) (h3 : x1 = 0) (h4 : x3 = 40 * x2) (h5 : x0 = 40 * x2) : 0 ≤ x0 := by omega
theorem o35_174 {x0 x1 x2 x3 : Int} (h0 : (-6) ≤ x1) (h1 : x1 ≤ 0) (h2 : (x1 = -2 ∨ (0 ≤ x2 ∧ x2 ≤ 3))) (h3 : x1 = 0) (h4 : x3 = 40 * x2) (h5 : x0 = 40 * x2) : x0 < (160 : Nat) := by omega
theorem o35_175 {x0 x1 x2 x3 : Int} (h0 : (-6) ≤ x2) (h1 : x2 ≤ 0) (h2 : (x2 = -2 ∨ (0 ≤ x3 ∧ x3 ≤ 3))) (h3 : x2 = 0) (h4 : x1 = 40 * x3) (h5 : x0 = 40 * x3) : (x0).toNat = (x1).toNat := by omega
theorem o35_176 {x0 x1 x2 x3 x4 : Int} (h0 : 0 ≤ x2) (h1 : x2 ≤ 1) (h2 : (x2 = 0 ∨ (0 ≤ x3 ∧ x3 ≤ 4))) (h3 : ¬ x2 = 0) (h4 : x0 = 36) (h5 : x4 = x3) (h6 : x1 = x4) (h7 : -2147483648 ≤ x0) (h8 : x0 ≤ 2147483647) (h9 : -2147483648 ≤ x1) (h10 : x1 ≤ 2147483647) (h11 : -2147483648 ≤ x2) (h12 : x2 ≤ 2147483647) : -2147483648 ≤ x0 + x1 := by omega
theorem o35_177 {x0 x1 x2 x3 x4 : Int} (h0 : 0 ≤ x2) (h1 : x2 ≤ 1) (h2 : (x2 = 0 ∨ (0 ≤ x3 ∧ x3 ≤ 4))) (h3 : ¬ x2 = 0) (h4 : x0 = 36) (h5 : x4 = x3) (h6 : x1 = x4) (h7 : -2147483648 ≤ x0) (h8 : x0 ≤ 2147483647) (h9 : -2147483648 ≤ x1) (h10 : x1 ≤ 2147483647) (h11 : -2147483648 ≤ x2) (h12 : x2 ≤ 2147483647) : x0 + x1 ≤ 2147483647 := by omega
theorem o35_178 {x0 x1 x2 x3 x4 x5 : Int} (h0 : 0 ≤ x1) (h1 : x1 ≤ 1) (h2 : (x1 = 0 ∨ (0 ≤ x2 ∧ x2 ≤ 4))) (h3 : ¬ x1 = 0) (h4 : x3 = 36) (h5 : x4 = x2) (h6 : x5 = x4) (h7 : x0 = x3 + x5) : 0 ≤ x0 := by omega
theorem o35_179 {x0 x1 x2 x3 x4 x5 : Int} (h0 : 0 ≤ x1) (h1 : x1 ≤ 1) (h2 : (x1 = 0 ∨ (0 ≤ x2 ∧ x2 ≤ 4))) (h3 : ¬ x1 = 0) (h4 : x3 = 36) (h5 : x4 = x2) (h6 : x5 = x4) (h7 : x0 = x3 + x5) : x0 < (5322 : Nat) := by omega
theorem o35_180 {x0 x1 x2 x3 x4 x5 : Int} (h0 : 0 ≤ x1) (h1 : x1 ≤ 1) (h2 : (x1 = 0 ∨ (0 ≤ x2 ∧ x2 ≤ 4))) (h3 : ¬ x1 = 0) (h4 : x3 = 36) (h5 : x4 = x2) (h6 : x5 = x4) (h7 : x0 = x3 + x5) : (x0).toNat < 41 := by omega
theorem o35_181 {x0 x1 x2 x3 x4 x5 : Int} (h0 : 0 ≤ x1) (h1 : x1 ≤ 1) (h2 : (x1 = 0 ∨ (0 ≤ x2 ∧ x2 ≤ 4))) (h3 : ¬ x1 = 0) (h4 : x3 = 36) (h5 : x4 = x2) (h6 : x5 = x4) (h7 : x0 = x3 + x5) : 36 ≤ (x0).toNat := by omega
theorem o35_182 {x0 : Int} (h0 : x0 = 1) (h1 : ¬ x0 = 0) (h2 : x0 = 0) : False := by omega
theorem o35_183 {x0 x1 : Int} (h0 : 0 ≤ x0) (h1 : x0 ≤ 39) (h2 : x1 = 1) (h3 : -2147483648 ≤ x0) (h4 : x0 ≤ 2147483647) (h5 : -2147483648 ≤ x1) (h6 : x1 ≤ 2147483647) : -2147483648 ≤ x0 + x1 := by omega
theorem o35_184 {x0 x1 : Int} (h0 : 0 ≤ x0) (h1 : x0 ≤ 39) (h2 : x1 = 1) (h3 : -2147483648 ≤ x0) (h4 : x0 ≤ 2147483647) (h5 : -2147483648 ≤ x1) (h6 : x1 ≤ 2147483647) : x0 + x1 ≤ 2147483647 := by omega
theorem o35_185 {x0 : Int} (h0 : 0 ≤ x0) (h1 : x0 ≤ 39) (h2 : x0 ≤ 0) : x0 = 0 := by omega
theorem o35_186 {x0 : Int} (h0 : 0 ≤ x0) (h1 : x0 ≤ 39) (h2 : x0 ≤ 0) : (-6) ≤ x0 := by omega
theorem o35_187 {x0 : Int} (h0 : 0 ≤ x0) (h1 : x0 ≤ 39) (h2 : x0 ≤ 0) : x0 ≤ 39 := by omega
theorem o35_188 {x0 : Int} (h0 : 0 ≤ x0) (h1 : x0 ≤ 39) (h2 : 0 < x0) : (-6) ≤ x0 := by omega
theorem o35_189 {x0 : Int} (h0 : 0 ≤ x0) (h1 : x0 ≤ 39) (h2 : 0 < x0) : x0 ≤ 39 := by omega
theorem o35_190 {x0 x1 : Int} (h0 : (-6) ≤ x0) (h1 : x0 ≤ 0) (h2 : (x0 = -2 ∨ (0 ≤ x1 ∧ x1 ≤ 3))) (h3 : ¬ x0 = 0) : (-6) ≤ x0 := by omega
theorem o35_191 {x0 x1 : Int} (h0 : (-6) ≤ x0) (h1 : x0 ≤ 0) (h2 : (x0 = -2 ∨ (0 ≤ x1 ∧ x1 ≤ 3))) (h3 : ¬ x0 = 0) : x0 ≤ 39 := by omega
theorem o35_192 {x0 : Int} (h0 : 0 ≤ x0) (h1 : x0 ≤ 20) (h2 : 20 - x0 < 0) : False := by omega
theorem o35_193 {x0 x1 : Int} (h0 : 0 ≤ x1) (h1 : x1 ≤ 4) (h2 : x0 = 36) (h3 : -2147483648 ≤ x0) (h4 : x0 ≤ 2147483647) (h5 : -2147483648 ≤ x1) (h6 : x1 ≤ 2147483647) : -2147483648 ≤ x0 + x1 := by omega
theorem o35_194 {x0 x1 : Int} (h0 : 0 ≤ x1) (h1 : x1 ≤ 4) (h2 : x0 = 36) (h3 : -2147483648 ≤ x0) (h4 : x0 ≤ 2147483647) (h5 : -2147483648 ≤ x1) (h6 : x1 ≤ 2147483647) : x0 + x1 ≤ 2147483647 := by omega
theorem o35_195 {x0 x1 x2 : Int} (h0 : 0 ≤ x1) (h1 : x1 ≤ 4) (h2 : x2 = 36) (h3 : x0 = x2 + x1) : 0 ≤ x0 := by omega
theorem o35_196 {x0 x1 x2 : Int} (h0 : 0 ≤ x1) (h1 : x1 ≤ 4) (h2 : x2 = 36) (h3 : x0 = x2 + x1) : x0 < (5322 : Nat) := by omega
theorem o35_197 {x0 x1 x2 : Int} (h0 : 0 ≤ x1) (h1 : x1 ≤ 4) (h2 : x2 = 36) (h3 : x0 = x2 + x1) : (x0).toNat < 41 := by omega
theorem o35_198 {x0 x1 x2 : Int} (h0 : 0 ≤ x1) (h1 : x1 ≤ 4) (h2 : x2 = 36) (h3 : x0 = x2 + x1) : 36 ≤ (x0).toNat := by omega
theorem o35_199 {x0 x1 x2 x3 : Int} (h0 : 0 ≤ x1) (h1 : x1 ≤ 4) (h2 : x2 = 36) (h3 : x3 = x2 + x1) (h4 : x0 = 41) (h5 : -2147483648 ≤ x0) (h6 : x0 ≤ 2147483647) (h7 : -2147483648 ≤ x1) (h8 : x1 ≤ 2147483647) (h9 : -2147483648 ≤ x2) (h10 : x2 ≤ 2147483647) (h11 : -2147483648 ≤ x3) (h12 : x3 ≤ 2147483647) : -2147483648 ≤ x0 + x1 := by omega
theorem o35_200 {x0 x1 x2 x3 : Int} (h0 : 0 ≤ x1) (h1 : x1 ≤ 4) (h2 : x2 = 36) (h3 : x3 = x2 + x1) (h4 : x0 = 41) (h5 : -2147483648 ≤ x0) (h6 : x0 ≤ 2147483647) (h7 : -2147483648 ≤ x1) (h8 : x1 ≤ 2147483647) (h9 : -2147483648 ≤ x2) (h10 : x2 ≤ 2147483647) (h11 : -2147483648 ≤ x3) (h12 : x3 ≤ 2147483647) : x0 + x1 ≤ 2147483647 := by omega
theorem o35_201 {x0 x1 x2 x3 x4 : Int} (h0 : 0 ≤ x1) (h1 : x1 ≤ 4) (h2 : x2 = 36) (h3 : x3 = x2 + x1) (h4 : x4 = 41) (h5 : x0 = x4 + x1) : 0 ≤ x0 := by omega
theorem o35_202 {x0 x1 x2 x3 x4 : Int} (h0 : 0 ≤ x1) (h1 : x1 ≤ 4) (h2 : x2 = 36) (h3 : x3 = x2 + x1) (h4 : x4 = 41) (h5 : x0 = x4 + x1) : x0 < (5322 : Nat) := by omega
theorem o35_203 {x0 x1 x2 x3 x4 : Int} (h0 : 0 ≤ x1) (h1 : x1 ≤ 4) (h2 : x2 = 36) (h3 : x3 = x2 + x1) (h4 : x4 = 41) (h5 : x0 = x4 + x1) : (x0).toNat < 46 := by omega
theorem o35_204 {x0 x1 x2 x3 x4 : Int} (h0 : 0 ≤ x1) (h1 : x1 ≤ 4) (h2 : x2 = 36) (h3 : x3 = x2 + x1) (h4 : x4 = 41) (h5 : x0 = x4 + x1) : 41 ≤ (x0).toNat := by omega
theorem o35_205 {x0 : Int} (h0 : 0 ≤ x0) (h1 : x0 ≤ 24) : 0 ≤ x0 := by omega
theorem o35_206 {x0 : Int} (h0 : 0 ≤ x0) (h1 : x0 ≤ 3) : x0 ≤ 3 := by omega
theorem o35_207 {x0 x1 x2 x3 x4 x5 : Int} (h0 : 0 ≤ x1) (h1 : x1 ≤ 4) (h2 : x2 = 36) (h3 : x3 = x2 + x1) (h4 : x4 = 41) (h5 : x5 = x4 + x1) (h6 : x0 = 36) (h7 : -2147483648 ≤ x0) (h8 : x0 ≤ 2147483647) (h9 : -2147483648 ≤ x1) (h10 : x1 ≤ 2147483647) (h11 : -2147483648 ≤ x2) (h12 : x2 ≤ 2147483647) (h13 : -2147483648 ≤ x3) (h14 : x3 ≤ 2147483647) (h15 : -2147483648 ≤ x4) (h16 : x4 ≤ 2147483647) (h17 : -2147483648 ≤ x5) (h18 : x5 ≤ 2147483647) : -2147483648 ≤ x0 + x1 := by omega
theorem o35_208 {x0 x1 x2 x3 x4 x5 : Int} (h0 : 0 ≤ x1) (h1 : x1 ≤ 4) (h2 : x2 = 36) (h3 : x3 = x2 + x1) (h4 : x4 = 41) (h5 : x5 = x4 + x1) (h6 : x0 = 36) (h7 : -2147483648 ≤ x0) (h8 : x0 ≤ 2147483647) (h9 : -2147483648 ≤ x1) (h10 : x1 ≤ 2147483647) (h11 : -2147483648 ≤ x2) (h12 : x2 ≤ 2147483647) (h13 : -2147483648 ≤ x3) (h14 : x3 ≤ 2147483647) (h15 : -2147483648 ≤ x4) (h16 : x4 ≤ 2147483647) (h17 : -2147483648 ≤ x5) (h18 : x5 ≤ 2147483647) : x0 + x1 ≤ 2147483647 := by omega
theorem o35_209 {x0 x1 x2 x3 x4 x5 x6 : Int} (h0 : 0 ≤ x1) (h1 : x1 ≤ 4) (h2 : x2 = 36) (h3 : x3 = x2 + x1) (h4 : x4 = 41) (h5 : x5 = x4 + x1) (h6 : x6 = 36) (h7 : x0 = x6 + x1) : 0 ≤ x0 := by omega
theorem o35_210 {x0 x1 x2 x3 x4 x5 x6 : Int} (h0 : 0 ≤ x1) (h1 : x1 ≤ 4) (h2 : x2 = 36) (h3 : x3 = x2 + x1) (h4 : x4 = 41) (h5 : x5 = x4 + x1) (h6 : x6 = 36) (h7 : x0 = x6 + x1) : x0 < (5322 : Nat) := by omega
theorem o35_211 {x0 x1 x2 x3 x4 x5 x6 : Int} (h0 : 0 ≤ x1) (h1 : x1 ≤ 4) (h2 : x2 = 36) (h3 : x3 = x2 + x1) (h4 : x4 = 41) (h5 : x5 = x4 + x1) (h6 : x6 = 36) (h7 : x0 = x6 + x1) : (x0).toNat < 41 := by omega
theorem o35_212 {x0 x1 x2 x3 x4 x5 x6 : Int} (h0 : 0 ≤ x1) (h1 : x1 ≤ 4) (h2 : x2 = 36) (h3 : x3 = x2 + x1) (h4 : x4 = 41) (h5 : x5 = x4 + x1) (h6 : x6 = 36) (h7 : x0 = x6 + x1) : 36 ≤ (x0).toNat := by omega
theorem o35_213 {x0 x1 x2 x3 x4 x5 x6 : Int} (h0 : 0 ≤ x2) (h1 : x2 ≤ 4) (h2 : x3 = 36) (h3 : x1 = x3 + x2) (h4 : x4 = 41) (h5 : x5 = x4 + x2) (h6 : x6 = 36) (h7 : x0 = x6 + x2) : (x0).toNat = (x1).toNat := by omega
theorem o35_214 {x0 x1 x2 : Int} (h0 : 0 ≤ x2) (h1 : x2 ≤ 24) (h2 : x0 = 61) (h3 : 0 ≤ x1) (h4 : x1 ≤ 24) (h5 : x1 = x2) (h6 : -2147483648 ≤ x0) (h7 : x0 ≤ 2147483647) (h8 : -2147483648 ≤ x1) (h9 : x1 ≤ 2147483647) (h10 : -2147483648 ≤ x2) (h11 : x2 ≤ 2147483647) : -2147483648 ≤ x0 + x1 := by omega
theorem o35_215 {x0 x1 x2 : Int} (h0 : 0 ≤ x2) (h1 : x2 ≤ 24) (h2 : x0 = 61) (h3 : 0 ≤ x1) (h4 : x1 ≤ 24) (h5 : x1 = x2) (h6 : -2147483648 ≤ x0) (h7 : x0 ≤ 2147483647) (h8 : -2147483648 ≤ x1) (h9 : x1 ≤ 2147483647) (h10 : -2147483648 ≤ x2) (h11 : x2 ≤ 2147483647) : x0 + x1 ≤ 2147483647 := by omega
theorem o35_216 {x0 x1 x2 x3 : Int} (h0 : 0 ≤ x1) (h1 : x1 ≤ 24) (h2 : x2 = 61) (h3 : 0 ≤ x3) (h4 : x3 ≤ 24) (h5 : x3 = x1) (h6 : x0 = x2 + x3) : 0 ≤ x0 := by omega
theorem o35_217 {x0 x1 x2 x3 : Int} (h0 : 0 ≤ x1) (h1 : x1 ≤ 24) (h2 : x2 = 61) (h3 : 0 ≤ x3) (h4 : x3 ≤ 24) (h5 : x3 = x1) (h6 : x0 = x2 + x3) : x0 < (5322 : Nat) := by omega
theorem o35_218 : ∀ p, p < 86 → 61 ≤ p → (elAll p).1 ≤ (-2147483648) ∧ 2147483647 ≤ (elAll p).2 := by decide +kernel
theorem o35_219 {x0 x1 x2 x3 : Int} (h0 : 0 ≤ x1) (h1 : x1 ≤ 24) (h2 : x2 = 61) (h3 : 0 ≤ x3) (h4 : x3 ≤ 24) (h5 : x3 = x1) (h6 : x0 = x2 + x3) : (x0).toNat < 86 := by omega
theorem o35_220 {x0 x1 x2 x3 : Int} (h0 : 0 ≤ x1) (h1 : x1 ≤ 24) (h2 : x2 = 61) (h3 : 0 ≤ x3) (h4 : x3 ≤ 24) (h5 : x3 = x1) (h6 : x0 = x2 + x3) : 61 ≤ (x0).toNat := by omega
theorem o35_221 {x0 x1 x2 x3 : Int} (h0 : 0 ≤ x1) (h1 : x1 ≤ 24) (h2 : x2 = 61) (h3 : 0 ≤ x3) (h4 : x3 ≤ 24) (h5 : x3 = x1) (h6 : x0 = x2 + x3) : (36 ≤ x0 ∨ x0 = 10) := by omega
theorem o35_222 {x0 x1 x2 x3 : Int} (h0 : 0 ≤ x1) (h1 : x1 ≤ 24) (h2 : x2 = 61) (h3 : 0 ≤ x3) (h4 : x3 ≤ 24) (h5 : x3 = x1) (h6 : x0 = x2 + x3) : 10 ≤ x0 := by omega
theorem o35_223 {x0 x1 x2 x3 : Int} (h0 : 0 ≤ x1) (h1 : x1 ≤ 24) (h2 : x2 = 61) (h3 : 0 ≤ x3) (h4 : x3 ≤ 24) (h5 : x3 = x1) (h6 : x0 = x2 + x3) : x0 ≤ 872 := by omega
theorem o35_224 {x0 x1 : Int} {x2 : Nat} (h0 : 1 ≤ x1) (h1 : x1 ≤ 20) (h2 : 0 ≤ x0) (h3 : x0 ≤ 20) (h4 : 20 - x0 < ((x2 + 1 : Nat) : Int)) (h5 : x0 < x1) (h6 : -2147483648 ≤ x0) (h7 : x0 ≤ 2147483647) (h8 : -2147483648 ≤ x1) (h9 : x1 ≤ 2147483647) : -2147483648 ≤ x0 + 1 := by omega
theorem o35_225 {x0 x1 : Int} {x2 : Nat} (h0 : 1 ≤ x1) (h1 : x1 ≤ 20) (h2 : 0 ≤ x0) (h3 : x0 ≤ 20) (h4 : 20 - x0 < ((x2 + 1 : Nat) : Int)) (h5 : x0 < x1) (h6 : -2147483648 ≤ x0) (h7 : x0 ≤ 2147483647) (h8 : -2147483648 ≤ x1) (h9 : x1 ≤ 2147483647) : x0 + 1 ≤ 2147483647 := by omega
theorem o35_226 {x0 x2 x3 : Int} {x1 : Nat} (h0 : 1 ≤ x2) (h1 : x2 ≤ 20) (h2 : 0 ≤ x3) (h3 : x3 ≤ 20) (h4 : 20 - x3 < ((x1 + 1 : Nat) : Int)) (h5 : x3 < x2) (h6 : x0 = x3 + 1) : 20 - x0 < (x1 : Int) := by omega
theorem o35_227 {x0 x1 x2 : Int} {x3 : Nat} (h0 : 1 ≤ x1) (h1 : x1 ≤ 20) (h2 : 0 ≤ x2) (h3 : x2 ≤ 20) (h4 : 20 - x2 < ((x3 + 1 : Nat) : Int)) (h5 : x2 < x1) (h6 : x0 = x2 + 1) : 0 ≤ x0 := by omega
theorem o35_228 {x0 x1 x2 : Int} {x3 : Nat} (h0 : 1 ≤ x1) (h1 : x1 ≤ 20) (h2 : 0 ≤ x2) (h3 : x2 ≤ 20) (h4 : 20 - x2 < ((x3 + 1 : Nat) : Int)) (h5 : x2 < x1) (h6 : x0 = x2 + 1) : x0 ≤ 20 := by omega
theorem o35_229 {x0 x1 x2 x3 : Int} (h0 : 0 ≤ x1) (h1 : x1 ≤ 24) (h2 : x2 = 61) (h3 : 0 ≤ x3) (h4 : x3 ≤ 24) (h5 : x3 = x1) (h6 : x0 = x2 + x3) : 61 ≤ x0 := by omega
theorem o35_230 {x0 x1 x2 x3 : Int} (h0 : 0 ≤ x1) (h1 : x1 ≤ 24) (h2 : x2 = 61) (h3 : 0 ≤ x3) (h4 : x3 ≤ 24) (h5 : x3 = x1) (h6 : x0 = x2 + x3) : x0 ≤ 85 := by omega
theorem o35_231 {x0 : Int} (h0 : x0 = 0) : 20 - x0 < (((20 - x0 + 1).toNat : Nat) : Int) := by omega
theorem o35_232 {x0 : Int} (h0 : x0 = 0) : x0 ≤ 20 := by omega
theorem o35_233 {x0 : Int} (h0 : 0 ≤ x0) (h1 : x0 ≤ 4) : 0 ≤ x0 := by omega
theorem o35_234 {x0 : Int} (h0 : 0 ≤ x0) (h1 : x0 ≤ 4) : x0 ≤ 4 := by omega
theorem o35_235 {x0 : Int} (h0 : 1 ≤ x0) (h1 : x0 ≤ 20) : 1 ≤ x0 := by omega
theorem o35_236 {x0 : Int} (h0 : 1 ≤ x0) (h1 : x0 ≤ 20) : x0 ≤ 20 := by omega
theorem o35_237 {x0 x1 : Int} (h0 : 0 ≤ x1) (h1 : x1 ≤ 4) (h2 : x0 = 51) (h3 : -2147483648 ≤ x0) (h4 : x0 ≤ 2147483647) (h5 : -2147483648 ≤ x1) (h6 : x1 ≤ 2147483647) : -2147483648 ≤ x0 + x1 := by omega
theorem o35_238 {x0 x1 : Int} (h0 : 0 ≤ x1) (h1 : x1 ≤ 4) (h2 : x0 = 51) (h3 : -2147483648 ≤ x0) (h4 : x0 ≤ 2147483647) (h5 : -2147483648 ≤ x1) (h6 : x1 ≤ 2147483647) : x0 + x1 ≤ 2147483647 := by omega
theorem o35_239 {x0 x1 x2 : Int} (h0 : 0 ≤ x1) (h1 : x1 ≤ 4) (h2 : x2 = 51) (h3 : x0 = x2 + x1) : 0 ≤ x0 := by omega
theorem o35_240 {x0 x1 x2 : Int} (h0 : 0 ≤ x1) (h1 : x1 ≤ 4) (h2 : x2 = 51) (h3 : x0 = x2 + x1) : x0 < (5322 : Nat) := by omega
theorem o35_241 {x0 x1 x2 x3 : Int} (h0 : 0 ≤ x1) (h1 : x1 ≤ 4) (h2 : x2 = 51) (h3 : x3 = x2 + x1) (h4 : x0 = 51) (h5 : -2147483648 ≤ x0) (h6 : x0 ≤ 2147483647) (h7 : -2147483648 ≤ x1) (h8 : x1 ≤ 2147483647) (h9 : -2147483648 ≤ x2) (h10 : x2 ≤ 2147483647) (h11 : -2147483648 ≤ x3) (h12 : x3 ≤ 2147483647) : -2147483648 ≤ x0 + x1 := by omega
theorem o35_242 {x0 x1 x2 x3 : Int} (h0 : 0 ≤ x1) (h1 : x1 ≤ 4) (h2 : x2 = 51) (h3 : x3 = x2 + x1) (h4 : x0 = 51) (h5 : -2147483648 ≤ x0) (h6 : x0 ≤ 2147483647) (h7 : -2147483648 ≤ x1) (h8 : x1 ≤ 2147483647) (h9 : -2147483648 ≤ x2) (h10 : x2 ≤ 2147483647) (h11 : -2147483648 ≤ x3) (h12 : x3 ≤ 2147483647) : x0 + x1 ≤ 2147483647 := by omega
theorem o35_243 {x0 x1 x2 x3 x4 : Int} (h0 : 0 ≤ x1) (h1 : x1 ≤ 4) (h2 : x2 = 51) (h3 : x3 = x2 + x1) (h4 : x4 = 51) (h5 : x0 = x4 + x1) : 0 ≤ x0 := by omega
theorem o35_244 {x0 x1 x2 x3 x4 : Int} (h0 : 0 ≤ x1) (h1 : x1 ≤ 4) (h2 : x2 = 51) (h3 : x3 = x2 + x1) (h4 : x4 = 51) (h5 : x0 = x4 + x1) : x0 < (5322 : Nat) := by omega
theorem o35_245 {x0 x1 x2 x3 x4 : Int} (h0 : 0 ≤ x2) (h1 : x2 ≤ 4) (h2 : x3 = 51) (h3 : x1 = x3 + x2) (h4 : x4 = 51) (h5 : x0 = x4 + x2) : (x0).toNat = (x1).toNat := by omega
theorem o35_246 {x0 : Int} (h0 : x0 = (-4)) : x0 < 0 := by omega
theorem o35_247 {x0 : Int} (h0 : x0 = (-5)) : x0 < 0 := by omega
theorem o35_248 {x0 x1 x2 x3 : Int} (h0 : 0 ≤ x1) (h1 : x1 ≤ 4) (h2 : x2 = 51) (h3 : x3 = x2 + x1) (h4 : x0 = 46) (h5 : -2147483648 ≤ x0) (h6 : x0 ≤ 2147483647) (h7 : -2147483648 ≤ x1) (h8 : x1 ≤ 2147483647) (h9 : -2147483648 ≤ x2) (h10 : x2 ≤ 2147483647) (h11 : -2147483648 ≤ x3) (h12 : x3 ≤ 2147483647) : -2147483648 ≤ x0 + x1 := by omega
theorem o35_249 {x0 x1 x2 x3 : Int} (h0 : 0 ≤ x1) (h1 : x1 ≤ 4) (h2 : x2 = 51) (h3 : x3 = x2 + x1) (h4 : x0 = 46) (h5 : -2147483648 ≤ x0) (h6 : x0 ≤ 2147483647) (h7 : -2147483648 ≤ x1) (h8 : x1 ≤ 2147483647) (h9 : -2147483648 ≤ x2) (h10 : x2 ≤ 2147483647) (h11 : -2147483648 ≤ x3) (h12 : x3 ≤ 2147483647) : x0 + x1 ≤ 2147483647 := by omega
theorem o35_250 {x0 x1 x2 x3 x4 : Int} (h0 : 0 ≤ x1) (h1 : x1 ≤ 4) (h2 : x2 = 51) (h3 : x3 = x2 + x1) (h4 : x4 = 46) (h5 : x0 = x4 + x1) : 0 ≤ x0 := by omega
theorem o35_251 {x0 x1 x2 x3 x4 : Int} (h0 : 0 ≤ x1) (h1 : x1 ≤ 4) (h2 : x2 = 51) (h3 : x3 = x2 + x1) (h4 : x4 = 46) (h5 : x0 = x4 + x1) : x0 < (5322 : Nat) := by omega
theorem o35_252 {x0 x1 x2 x3 x4 : Int} (h0 : 0 ≤ x1) (h1 : x1 ≤ 4) (h2 : x2 = 51) (h3 : x3 = x2 + x1) (h4 : x4 = 46) (h5 : x0 = x4 + x1) : (x0).toNat < 51 := by omega
theorem o35_253 {x0 x1 x2 x3 x4 : Int} (h0 : 0 ≤ x1) (h1 : x1 ≤ 4) (h2 : x2 = 51) (h3 : x3 = x2 + x1) (h4 : x4 = 46) (h5 : x0 = x4 + x1) : 46 ≤ (x0).toNat := by omega
theorem o35_254 {x0 x1 : Int} (h0 : 1 ≤ x1) (h1 : x1 ≤ 20) (h2 : 0 ≤ x0) (h3 : x0 ≤ 99) (h4 : -2147483648 ≤ x0) (h5 : x0 ≤ 2147483647) (h6 : -2147483648 ≤ x1) (h7 : x1 ≤ 2147483647) : -2147483648 ≤ x0 + x1 := by omega
theorem o35_255 {x0 x1 : Int} (h0 : 1 ≤ x1) (h1 : x1 ≤ 20) (h2 : 0 ≤ x0) (h3 : x0 ≤ 99) (h4 : -2147483648 ≤ x0) (h5 : x0 ≤ 2147483647) (h6 : -2147483648 ≤ x1) (h7 : x1 ≤ 2147483647) : x0 + x1 ≤ 2147483647 := by omega
theorem o35_256 {x0 : Int} (h0 : x0 = 99) : x0 = 99 := by omega
theorem o35_257 {x0 x1 x2 x3 : Int} (h0 : 1 ≤ x1) (h1 : x1 ≤ 20) (h2 : 0 ≤ x2) (h3 : x2 ≤ 99) (h4 : x0 = x2 + x1) (h5 : x3 = 99) (h6 : x3 < x0) : 99 < x0 := by omega
theorem o35_258 {x0 x1 x2 x3 : Int} (h0 : 1 ≤ x1) (h1 : x1 ≤ 20) (h2 : 0 ≤ x2) (h3 : x2 ≤ 99) (h4 : x0 = x2 + x1) (h5 : x3 = 99) (h6 : x0 ≤ x3) : ¬ 99 < x0 := by omega
theorem o35_259 {x0 x1 x2 x3 x4 x5 : Int} (h0 : 0 ≤ x1) (h1 : x1 ≤ 4) (h2 : x2 = 51) (h3 : x3 = x2 + x1) (h4 : x4 = 46) (h5 : x5 = x4 + x1) (h6 : x0 = 51) (h7 : -2147483648 ≤ x0) (h8 : x0 ≤ 2147483647) (h9 : -2147483648 ≤ x1) (h10 : x1 ≤ 2147483647) (h11 : -2147483648 ≤ x2) (h12 : x2 ≤ 2147483647) (h13 : -2147483648 ≤ x3) (h14 : x3 ≤ 2147483647) (h15 : -2147483648 ≤ x4) (h16 : x4 ≤ 2147483647) (h17 : -2147483648 ≤ x5) (h18 : x5 ≤ 2147483647) : -2147483648 ≤ x0 + x1 := by omega
theorem o35_260 {x0 x1 x2 x3 x4 x5 : Int} (h0 : 0 ≤ x1) (h1 : x1 ≤ 4) (h2 : x2 = 51) (h3 : x3 = x2 + x1) (h4 : x4 = 46) (h5 : x5 = x4 + x1) (h6 : x0 = 51) (h7 : -2147483648 ≤ x0) (h8 : x0 ≤ 2147483647) (h9 : -2147483648 ≤ x1) (h10 : x1 ≤ 2147483647) (h11 : -2147483648 ≤ x2) (h12 : x2 ≤ 2147483647) (h13 : -2147483648 ≤ x3) (h14 : x3 ≤ 2147483647) (h15 : -2147483648 ≤ x4) (h16 : x4 ≤ 2147483647) (h17 : -2147483648 ≤ x5) (h18 : x5 ≤ 2147483647) : x0 + x1 ≤ 2147483647 := by omega
theorem o35_261 {x0 x1 x2 x3 x4 x5 x6 : Int} (h0 : 0 ≤ x1) (h1 : x1 ≤ 4) (h2 : x2 = 51) (h3 : x3 = x2 + x1) (h4 : x4 = 46) (h5 : x5 = x4 + x1) (h6 : x6 = 51) (h7 : x0 = x6 + x1) : 0 ≤ x0 := by omega
theorem o35_262 {x0 x1 x2 x3 x4 x5 x6 : Int} (h0 : 0 ≤ x1) (h1 : x1 ≤ 4) (h2 : x2 = 51) (h3 : x3 = x2 + x1) (h4 : x4 = 46) (h5 : x5 = x4 + x1) (h6 : x6 = 51) (h7 : x0 = x6 + x1) : x0 < (5322 : Nat) := by omega
theorem o35_263 {x0 x1 x2 x3 x4 x5 x6 : Int} (h0 : 0 ≤ x2) (h1 : x2 ≤ 4) (h2 : x3 = 51) (h3 : x1 = x3 + x2) (h4 : x4 = 46) (h5 : x5 = x4 + x2) (h6 : x6 = 51) (h7 : x0 = x6 + x2) : (x0).toNat = (x1).toNat := by omega
theorem o35_264 : ∀ p, p < 56 → 51 ≤ p → (elAll p).1 ≤ (-2147483648) ∧ 2147483647 ≤ (elAll p).2 := by decide +kernel
theorem o35_265 {x0 x1 x2 x3 x4 x5 x6 : Int} (h0 : 0 ≤ x1) (h1 : x1 ≤ 4) (h2 : x2 = 51) (h3 : x3 = x2 + x1) (h4 : x4 = 46) (h5 : x5 = x4 + x1) (h6 : x6 = 51) (h7 : x0 = x6 + x1) : (x0).toNat < 56 := by omega
theorem o35_266 {x0 x1 x2 x3 x4 x5 x6 : Int} (h0 : 0 ≤ x1) (h1 : x1 ≤ 4) (h2 : x2 = 51) (h3 : x3 = x2 + x1) (h4 : x4 = 46) (h5 : x5 = x4 + x1) (h6 : x6 = 51) (h7 : x0 = x6 + x1) : 51 ≤ (x0).toNat := by omega
theorem o35_267 {x0 x1 x2 x3 x4 x5 x6 : Int} (h0 : 0 ≤ x1) (h1 : x1 ≤ 4) (h2 : x2 = 51) (h3 : x3 = x2 + x1) (h4 : x4 = 46) (h5 : x5 = x4 + x1) (h6 : x6 = 51) (h7 : x0 = x6 + x1) : (36 ≤ x0 ∨ x0 = 10) := by omega
theorem o35_268 {x0 x1 x2 x3 x4 x5 x6 : Int} (h0 : 0 ≤ x1) (h1 : x1 ≤ 4) (h2 : x2 = 51) (h3 : x3 = x2 + x1) (h4 : x4 = 46) (h5 : x5 = x4 + x1) (h6 : x6 = 51) (h7 : x0 = x6 + x1) : 10 ≤ x0 := by omega
theorem o35_269 {x0 x1 x2 x3 x4 x5 x6 : Int} (h0 : 0 ≤ x1) (h1 : x1 ≤ 4) (h2 : x2 = 51) (h3 : x3 = x2 + x1) (h4 : x4 = 46) (h5 : x5 = x4 + x1) (h6 : x6 = 51) (h7 : x0 = x6 + x1) : x0 ≤ 872 := by omega
theorem o35_270 {x0 x1 x2 x3 x4 x5 x6 x7 : Int} (h0 : 0 ≤ x1) (h1 : x1 ≤ 4) (h2 : x2 = 51) (h3 : x3 = x2 + x1) (h4 : x4 = 46) (h5 : x5 = x4 + x1) (h6 : x6 = 51) (h7 : x7 = x6 + x1) (h8 : x0 = 46) (h9 : -2147483648 ≤ x0) (h10 : x0 ≤ 2147483647) (h11 : -2147483648 ≤ x1) (h12 : x1 ≤ 2147483647) (h13 : -2147483648 ≤ x2) (h14 : x2 ≤ 2147483647) (h15 : -2147483648 ≤ x3) (h16 : x3 ≤ 2147483647) (h17 : -2147483648 ≤ x4) (h18 : x4 ≤ 2147483647) (h19 : -2147483648 ≤ x5) (h20 : x5 ≤ 2147483647) (h21 : -2147483648 ≤ x6) (h22 : x6 ≤ 2147483647) (h23 : -2147483648 ≤ x7) (h24 : x7 ≤ 2147483647) : -2147483648 ≤ x0 + x1 := by omega
theorem o35_271 {x0 x1 x2 x3 x4 x5 x6 x7 : Int} (h0 : 0 ≤ x1) (h1 : x1 ≤ 4) (h2 : x2 = 51) (h3 : x3 = x2 + x1) (h4 : x4 = 46) (h5 : x5 = x4 + x1) (h6 : x6 = 51) (h7 : x7 = x6 + x1) (h8 : x0 = 46) (h9 : -2147483648 ≤ x0) (h10 : x0 ≤ 2147483647) (h11 : -2147483648 ≤ x1) (h12 : x1 ≤ 2147483647) (h13 : -2147483648 ≤ x2) (h14 : x2 ≤ 2147483647) (h15 : -2147483648 ≤ x3) (h16 : x3 ≤ 2147483647) (h17 : -2147483648 ≤ x4) (h18 : x4 ≤ 2147483647) (h19 : -2147483648 ≤ x5) (h20 : x5 ≤ 2147483647) (h21 : -2147483648 ≤ x6) (h22 : x6 ≤ 2147483647) (h23 : -2147483648 ≤ x7) (h24 : x7 ≤ 2147483647) : x0 + x1 ≤ 2147483647 := by omega
theorem o35_272 {x0 x1 x2 x3 x4 x5 x6 x7 x8 : Int} (h0 : 0 ≤ x1) (h1 : x1 ≤ 4) (h2 : x2 = 51) (h3 : x3 = x2 + x1) (h4 : x4 = 46) (h5 : x5 = x4 + x1) (h6 : x6 = 51) (h7 : x7 = x6 + x1) (h8 : x8 = 46) (h9 : x0 = x8 + x1) : 0 ≤ x0 := by omega
theorem o35_273 {x0 x1 x2 x3 x4 x5 x6 x7 x8 : Int} (h0 : 0 ≤ x1) (h1 : x1 ≤ 4) (h2 : x2 = 51) (h3 : x3 = x2 + x1) (h4 : x4 = 46) (h5 : x5 = x4 + x1) (h6 : x6 = 51) (h7 : x7 = x6 + x1) (h8 : x8 = 46) (h9 : x0 = x8 + x1) : x0 < (5322 : Nat) := by omega
theorem o35_274 {x0 x1 x2 x3 x4 x5 x6 x7 x8 : Int} (h0 : 0 ≤ x1) (h1 : x1 ≤ 4) (h2 : x2 = 51) (h3 : x3 = x2 + x1) (h4 : x4 = 46) (h5 : x5 = x4 + x1) (h6 : x6 = 51) (h7 : x7 = x6 + x1) (h8 : x8 = 46) (h9 : x0 = x8 + x1) : (x0).toNat < 51 := by omega
theorem o35_275 {x0 x1 x2 x3 x4 x5 x6 x7 x8 : Int} (h0 : 0 ≤ x1) (h1 : x1 ≤ 4) (h2 : x2 = 51) (h3 : x3 = x2 + x1) (h4 : x4 = 46) (h5 : x5 = x4 + x1) (h6 : x6 = 51) (h7 : x7 = x6 + x1) (h8 : x8 = 46) (h9 : x0 = x8 + x1) : 46 ≤ (x0).toNat := by omega
theorem o35_276 {x0 x1 x2 x3 x4 x5 x6 x7 x8 : Int} (h0 : 0 ≤ x2) (h1 : x2 ≤ 4) (h2 : x3 = 51) (h3 : x4 = x3 + x2) (h4 : x5 = 46) (h5 : x0 = x5 + x2) (h6 : x6 = 51) (h7 : x1 = x6 + x2) (h8 : x7 = 46) (h9 : x8 = x7 + x2) : (x0).toNat ≠ (x1).toNat := by omega
theorem o35_277 {x0 x1 x2 x3 x4 x5 x6 x7 x8 : Int} (h0 : 0 ≤ x2) (h1 : x2 ≤ 4) (h2 : x3 = 51) (h3 : x4 = x3 + x2) (h4 : x5 = 46) (h5 : x1 = x5 + x2) (h6 : x6 = 51) (h7 : x7 = x6 + x2) (h8 : x8 = 46) (h9 : x0 = x8 + x2) : (x0).toNat = (x1).toNat := by omega
theorem o35_278 {x0 x1 x2 x3 x4 : Int} (h0 : 1 ≤ x1) (h1 : x1 ≤ 20) (h2 : 0 ≤ x2) (h3 : x2 ≤ 99) (h4 : x3 = x2 + x1) (h5 : x4 = 99) (h6 : x3 ≤ x4) (h7 : 0 ≤ x0) (h8 : x0 ≤ 99) (h9 : x0 = x2) (h10 : -2147483648 ≤ x0) (h11 : x0 ≤ 2147483647) (h12 : -2147483648 ≤ x1) (h13 : x1 ≤ 2147483647) (h14 : -2147483648 ≤ x2) (h15 : x2 ≤ 2147483647) (h16 : -2147483648 ≤ x3) (h17 : x3 ≤ 2147483647) (h18 : -2147483648 ≤ x4) (h19 : x4 ≤ 2147483647) : -2147483648 ≤ x0 + x1 := by omega
theorem o35_279 {x0 x1 x2 x3 x4 : Int} (h0 : 1 ≤ x1) (h1 : x1 ≤ 20) (h2 : 0 ≤ x2) (h3 : x2 ≤ 99) (h4 : x3 = x2 + x1) (h5 : x4 = 99) (h6 : x3 ≤ x4) (h7 : 0 ≤ x0) (h8 : x0 ≤ 99) (h9 : x0 = x2) (h10 : -2147483648 ≤ x0) (h11 : x0 ≤ 2147483647) (h12 : -2147483648 ≤ x1) (h13 : x1 ≤ 2147483647) (h14 : -2147483648 ≤ x2) (h15 : x2 ≤ 2147483647) (h16 : -2147483648 ≤ x3) (h17 : x3 ≤ 2147483647) (h18 : -2147483648 ≤ x4) (h19 : x4 ≤ 2147483647) : x0 + x1 ≤ 2147483647 := by omega
theorem o35_280 : ∀ p, p < 51 → 46 ≤ p → (elAll p).1 ≤ 0 ∧ 99 ≤ (elAll p).2 := by decide +kernel
theorem o35_281 {x0 x1 x2 x3 x4 x5 : Int} (h0 : 1 ≤ x1) (h1 : x1 ≤ 20) (h2 : 0 ≤ x2) (h3 : x2 ≤ 99) (h4 : x3 = x2 + x1) (h5 : x4 = 99) (h6 : x3 ≤ x4) (h7 : 0 ≤ x5) (h8 : x5 ≤ 99) (h9 : x5 = x2) (h10 : x0 = x5 + x1) : 0 ≤ x0 := by omega
theorem o35_282 {x0 x1 x2 x3 x4 x5 : Int} (h0 : 1 ≤ x1) (h1 : x1 ≤ 20) (h2 : 0 ≤ x2) (h3 : x2 ≤ 99) (h4 : x3 = x2 + x1) (h5 : x4 = 99) (h6 : x3 ≤ x4) (h7 : 0 ≤ x5) (h8 : x5 ≤ 99) (h9 : x5 = x2) (h10 : x0 = x5 + x1) : x0 ≤ 99 := by omega
theorem o35_283 {x0 x1 x2 x3 x4 x5 x6 x7 x8 : Int} (h0 : 0 ≤ x1) (h1 : x1 ≤ 4) (h2 : x2 = 51) (h3 : x3 = x2 + x1) (h4 : x4 = 46) (h5 : x5 = x4 + x1) (h6 : x6 = 51) (h7 : x7 = x6 + x1) (h8 : x8 = 46) (h9 : x0 = x8 + x1) : (36 ≤ x0 ∨ x0 = 10) := by omega
theorem o35_284 {x0 x1 x2 x3 x4 x5 x6 x7 x8 : Int} (h0 : 0 ≤ x1) (h1 : x1 ≤ 4) (h2 : x2 = 51) (h3 : x3 = x2 + x1) (h4 : x4 = 46) (h5 : x5 = x4 + x1) (h6 : x6 = 51) (h7 : x7 = x6 + x1) (h8 : x8 = 46) (h9 : x0 = x8 + x1) : 10 ≤ x0 := by omega
theorem o35_285 {x0 x1 x2 x3 x4 x5 x6 x7 x8 : Int} (h0 : 0 ≤ x1) (h1 : x1 ≤ 4) (h2 : x2 = 51) (h3 : x3 = x2 + x1) (h4 : x4 = 46) (h5 : x5 = x4 + x1) (h6 : x6 = 51) (h7 : x7 = x6 + x1) (h8 : x8 = 46) (h9 : x0 = x8 + x1) : x0 ≤ 872 := by omega
theorem o35_286 {x0 x1 x2 x3 x4 x5 x6 x7 x8 : Int} (h0 : 0 ≤ x1) (h1 : x1 ≤ 4) (h2 : x2 = 51) (h3 : x3 = x2 + x1) (h4 : x4 = 46) (h5 : x0 = x4 + x1) (h6 : x5 = 51) (h7 : x6 = x5 + x1) (h8 : x7 = 46) (h9 : x8 = x7 + x1) : ((x0).toNat < 61 ∨ 85 < (x0).toNat) := by omega
theorem o35_287 {x0 x1 x2 x3 x4 x5 x6 x7 x8 : Int} (h0 : 0 ≤ x1) (h1 : x1 ≤ 4) (h2 : x2 = 51) (h3 : x3 = x2 + x1) (h4 : x4 = 46) (h5 : x5 = x4 + x1) (h6 : x6 = 51) (h7 : x7 = x6 + x1) (h8 : x8 = 46) (h9 : x0 = x8 + x1) : (x0).toNat = 46 + (x1).toNat := by omega
theorem o35_288 {x0 x1 x2 x3 x4 x5 x6 x7 x8 : Int} (h0 : 0 ≤ x1) (h1 : x1 ≤ 4) (h2 : x2 = 51) (h3 : x3 = x2 + x1) (h4 : x4 = 46) (h5 : x0 = x4 + x1) (h6 : x5 = 51) (h7 : x6 = x5 + x1) (h8 : x7 = 46) (h9 : x8 = x7 + x1) : (x0).toNat = 46 + (x1).toNat := by omega
theorem o35_289 {x0 x1 x2 x3 x4 x5 : Int} (h0 : 1 ≤ x2) (h1 : x2 ≤ 20) (h2 : 0 ≤ x1) (h3 : x1 ≤ 99) (h4 : x3 = x1 + x2) (h5 : x4 = 99) (h6 : x3 ≤ x4) (h7 : 0 ≤ x5) (h8 : x5 ≤ 99) (h9 : x5 = x1) (h10 : x0 = x5 + x2) : x0 = x1 + x2 := by omega
theorem o35_290 {x0 x1 x2 : Int} (h0 : x1 = x0) (h1 : 0 ≤ x2) (h2 : x2 ≤ 1) (h3 : (x2 = 0 ∨ (0 ≤ x1 ∧ x1 ≤ 4))) (h4 : ¬ x2 = 0) : 0 ≤ x0 := by omega
theorem o35_291 {x0 x1 x2 : Int} (h0 : x1 = x0) (h1 : 0 ≤ x2) (h2 : x2 ≤ 1) (h3 : (x2 = 0 ∨ (0 ≤ x1 ∧ x1 ≤ 4))) (h4 : ¬ x2 = 0) : x0 ≤ 4 := by omega
theorem o35_292 {x0 x1 x2 x3 x4 : Int} (h0 : x1 = x0) (h1 : x2 = 1) (h2 : x3 = 20) (h3 : 0 ≤ x4) (h4 : x4 ≤ 1) (h5 : ((x4 = 0 ∧ (x1 < x2 ∨ x3 < x1)) ∨ (x4 = 1 ∧ x2 ≤ x1 ∧ x1 ≤ x3))) (h6 : ¬ x4 = 0) : 1 ≤ x0 := by omega
theorem o35_293 {x0 x1 x2 x3 x4 : Int} (h0 : x1 = x0) (h1 : x2 = 1) (h2 : x3 = 20) (h3 : 0 ≤ x4) (h4 : x4 ≤ 1) (h5 : ((x4 = 0 ∧ (x1 < x2 ∨ x3 < x1)) ∨ (x4 = 1 ∧ x2 ≤ x1 ∧ x1 ≤ x3))) (h6 : ¬ x4 = 0) : x0 ≤ 20 := by omega
theorem o35_294 {x0 x1 x2 : Int} (h0 : x1 = x2) (h1 : 0 ≤ x0) (h2 : x0 ≤ 1) (h3 : (x0 = 0 ∨ (0 ≤ x1 ∧ x1 ≤ 4))) (h4 : ¬ x0 = 0) : ¬ x0 = 0 := by omega
theorem o35_295 {x0 x1 x2 x3 x4 x5 : Int} (h0 : x2 = x1) (h1 : 0 ≤ x3) (h2 : x3 ≤ 1) (h3 : (x3 = 0 ∨ (0 ≤ x2 ∧ x2 ≤ 4))) (h4 : ¬ x3 = 0) (h5 : x4 = 56) (h6 : x5 = x4 + x1) (h7 : x0 = 56) (h8 : -2147483648 ≤ x0) (h9 : x0 ≤ 2147483647) (h10 : -2147483648 ≤ x1) (h11 : x1 ≤ 2147483647) (h12 : -2147483648 ≤ x3) (h13 : x3 ≤ 2147483647) (h14 : -2147483648 ≤ x4) (h15 : x4 ≤ 2147483647) (h16 : -2147483648 ≤ x5) (h17 : x5 ≤ 2147483647) : -2147483648 ≤ x0 + x1 := by omega
theorem o35_296 {x0 x1 x2 x3 x4 x5 : Int} (h0 : x2 = x1) (h1 : 0 ≤ x3) (h2 : x3 ≤ 1) (h3 : (x3 = 0 ∨ (0 ≤ x2 ∧ x2 ≤ 4))) (h4 : ¬ x3 = 0) (h5 : x4 = 56) (h6 : x5 = x4 + x1) (h7 : x0 = 56) (h8 : -2147483648 ≤ x0) (h9 : x0 ≤ 2147483647) (h10 : -2147483648 ≤ x1) (h11 : x1 ≤ 2147483647) (h12 : -2147483648 ≤ x3) (h13 : x3 ≤ 2147483647) (h14 : -2147483648 ≤ x4) (h15 : x4 ≤ 2147483647) (h16 : -2147483648 ≤ x5) (h17 : x5 ≤ 2147483647) : x0 + x1 ≤ 2147483647 := by omega
theorem o35_297 {x0 x1 x2 x3 x4 x5 x6 : Int} (h0 : x1 = x2) (h1 : 0 ≤ x3) (h2 : x3 ≤ 1) (h3 : (x3 = 0 ∨ (0 ≤ x1 ∧ x1 ≤ 4))) (h4 : ¬ x3 = 0) (h5 : x4 = 56) (h6 : x5 = x4 + x2) (h7 : x6 = 56) (h8 : x0 = x6 + x2) : 0 ≤ x0 := by omega
theorem o35_298 {x0 x1 x2 x3 x4 x5 x6 : Int} (h0 : x1 = x2) (h1 : 0 ≤ x3) (h2 : x3 ≤ 1) (h3 : (x3 = 0 ∨ (0 ≤ x1 ∧ x1 ≤ 4))) (h4 : ¬ x3 = 0) (h5 : x4 = 56) (h6 : x5 = x4 + x2) (h7 : x6 = 56) (h8 : x0 = x6 + x2) : x0 < (5322 : Nat) := by omega
theorem o35_299 {x0 x1 x2 x3 x4 x5 x6 : Int} (h0 : x2 = x3) (h1 : 0 ≤ x4) (h2 : x4 ≤ 1) (h3 : (x4 = 0 ∨ (0 ≤ x2 ∧ x2 ≤ 4))) (h4 : ¬ x4 = 0) (h5 : x5 = 56) (h6 : x1 = x5 + x3) (h7 : x6 = 56) (h8 : x0 = x6 + x3) : (x0).toNat = (x1).toNat := by omega
theorem o35_300 {x0 x1 x2 x3 x4 x5 x6 x7 : Int} (h0 : x2 = x1) (h1 : 0 ≤ x3) (h2 : x3 ≤ 1) (h3 : (x3 = 0 ∨ (0 ≤ x2 ∧ x2 ≤ 4))) (h4 : ¬ x3 = 0) (h5 : x4 = 56) (h6 : x5 = x4 + x1) (h7 : x6 = 56) (h8 : x7 = x6 + x1) (h9 : x0 = 36) (h10 : -2147483648 ≤ x0) (h11 : x0 ≤ 2147483647) (h12 : -2147483648 ≤ x1) (h13 : x1 ≤ 2147483647) (h14 : -2147483648 ≤ x3) (h15 : x3 ≤ 2147483647) (h16 : -2147483648 ≤ x4) (h17 : x4 ≤ 2147483647) (h18 : -2147483648 ≤ x5) (h19 : x5 ≤ 2147483647) (h20 : -2147483648 ≤ x6) (h21 : x6 ≤ 2147483647) (h22 : -2147483648 ≤ x7) (h23 : x7 ≤ 2147483647) : -2147483648 ≤ x0 + x1 := by omega
theorem o35_301 {x0 x1 x2 x3 x4 x5 x6 x7 : Int} (h0 : x2 = x1) (h1 : 0 ≤ x3) (h2 : x3 ≤ 1) (h3 : (x3 = 0 ∨ (0 ≤ x2 ∧ x2 ≤ 4))) (h4 : ¬ x3 = 0) (h5 : x4 = 56) (h6 : x5 = x4 + x1) (h7 : x6 = 56) (h8 : x7 = x6 + x1) (h9 : x0 = 36) (h10 : -2147483648 ≤ x0) (h11 : x0 ≤ 2147483647) (h12 : -2147483648 ≤ x1) (h13 : x1 ≤ 2147483647) (h14 : -2147483648 ≤ x3) (h15 : x3 ≤ 2147483647) (h16 : -2147483648 ≤ x4) (h17 : x4 ≤ 2147483647) (h18 : -2147483648 ≤ x5) (h19 : x5 ≤ 2147483647) (h20 : -2147483648 ≤ x6) (h21 : x6 ≤ 2147483647) (h22 : -2147483648 ≤ x7) (h23 : x7 ≤ 2147483647) : x0 + x1 ≤ 2147483647 := by omega
theorem o35_302 {x0 x1 x2 x3 x4 x5 x6 x7 x8 : Int} (h0 : x1 = x2) (h1 : 0 ≤ x3) (h2 : x3 ≤ 1) (h3 : (x3 = 0 ∨ (0 ≤ x1 ∧ x1 ≤ 4))) (h4 : ¬ x3 = 0) (h5 : x4 = 56) (h6 : x5 = x4 + x2) (h7 : x6 = 56) (h8 : x7 = x6 + x2) (h9 : x8 = 36) (h10 : x0 = x8 + x2) : 0 ≤ x0 := by omega
theorem o35_303 {x0 x1 x2 x3 x4 x5 x6 x7 x8 : Int} (h0 : x1 = x2) (h1 : 0 ≤ x3) (h2 : x3 ≤ 1) (h3 : (x3 = 0 ∨ (0 ≤ x1 ∧ x1 ≤ 4))) (h4 : ¬ x3 = 0) (h5 : x4 = 56) (h6 : x5 = x4 + x2) (h7 : x6 = 56) (h8 : x7 = x6 + x2) (h9 : x8 = 36) (h10 : x0 = x8 + x2) : x0 < (5322 : Nat) := by omega
theorem o35_304 {x0 x1 x2 x3 x4 x5 x6 x7 x8 : Int} (h0 : x1 = x2) (h1 : 0 ≤ x3) (h2 : x3 ≤ 1) (h3 : (x3 = 0 ∨ (0 ≤ x1 ∧ x1 ≤ 4))) (h4 : ¬ x3 = 0) (h5 : x4 = 56) (h6 : x5 = x4 + x2) (h7 : x6 = 56) (h8 : x7 = x6 + x2) (h9 : x8 = 36) (h10 : x0 = x8 + x2) : (x0).toNat < 41 := by omega
theorem o35_305 {x0 x1 x2 x3 x4 x5 x6 x7 x8 : Int} (h0 : x1 = x2) (h1 : 0 ≤ x3) (h2 : x3 ≤ 1) (h3 : (x3 = 0 ∨ (0 ≤ x1 ∧ x1 ≤ 4))) (h4 : ¬ x3 = 0) (h5 : x4 = 56) (h6 : x5 = x4 + x2) (h7 : x6 = 56) (h8 : x7 = x6 + x2) (h9 : x8 = 36) (h10 : x0 = x8 + x2) : 36 ≤ (x0).toNat := by omega
theorem o35_306 {x0 x1 x2 x3 x4 x5 x6 x7 x8 x9 : Int} (h0 : x2 = x1) (h1 : 0 ≤ x3) (h2 : x3 ≤ 1) (h3 : (x3 = 0 ∨ (0 ≤ x2 ∧ x2 ≤ 4))) (h4 : ¬ x3 = 0) (h5 : x4 = 56) (h6 : x5 = x4 + x1) (h7 : x6 = 56) (h8 : x7 = x6 + x1) (h9 : x8 = 36) (h10 : x9 = x8 + x1) (h11 : x0 = 41) (h12 : -2147483648 ≤ x0) (h13 : x0 ≤ 2147483647) (h14 : -2147483648 ≤ x1) (h15 : x1 ≤ 2147483647) (h16 : -2147483648 ≤ x3) (h17 : x3 ≤ 2147483647) (h18 : -2147483648 ≤ x4) (h19 : x4 ≤ 2147483647) (h20 : -2147483648 ≤ x5) (h21 : x5 ≤ 2147483647) (h22 : -2147483648 ≤ x6) (h23 : x6 ≤ 2147483647) (h24 : -2147483648 ≤ x7) (h25 : x7 ≤ 2147483647) (h26 : -2147483648 ≤ x8) (h27 : x8 ≤ 2147483647) (h28 : -2147483648 ≤ x9) (h29 : x9 ≤ 2147483647) : -2147483648 ≤ x0 + x1 := by omega
theorem o35_307 {x0 x1 x2 x3 x4 x5 x6 x7 x8 x9 : Int} (h0 : x2 = x1) (h1 : 0 ≤ x3) (h2 : x3 ≤ 1) (h3 : (x3 = 0 ∨ (0 ≤ x2 ∧ x2 ≤ 4))) (h4 : ¬ x3 = 0) (h5 : x4 = 56) (h6 : x5 = x4 + x1) (h7 : x6 = 56) (h8 : x7 = x6 + x1) (h9 : x8 = 36) (h10 : x9 = x8 + x1) (h11 : x0 = 41) (h12 : -2147483648 ≤ x0) (h13 : x0 ≤ 2147483647) (h14 : -2147483648 ≤ x1) (h15 : x1 ≤ 2147483647) (h16 : -2147483648 ≤ x3) (h17 : x3 ≤ 2147483647) (h18 : -2147483648 ≤ x4) (h19 : x4 ≤ 2147483647) (h20 : -2147483648 ≤ x5) (h21 : x5 ≤ 2147483647) (h22 : -2147483648 ≤ x6) (h23 : x6 ≤ 2147483647) (h24 : -2147483648 ≤ x7) (h25 : x7 ≤ 2147483647) (h26 : -2147483648 ≤ x8) (h27 : x8 ≤ 2147483647) (h28 : -2147483648 ≤ x9) (h29 : x9 ≤ 2147483647) : x0 + x1 ≤ 2147483647 := by omega
theorem o35_308 {x0 x1 x2 x3 x4 x5 x6 x7 x8 x9 x10 : Int} (h0 : x1 = x2) (h1 : 0 ≤ x3) (h2 : x3 ≤ 1) (h3 : (x3 = 0 ∨ (0 ≤ x1 ∧ x1 ≤ 4))) (h4 : ¬ x3 = 0) (h5 : x4 = 56) (h6 : x5 = x4 + x2) (h7 : x6 = 56) (h8 : x7 = x6 + x2) (h9 : x8 = 36) (h10 : x9 = x8 + x2) (h11 : x10 = 41) (h12 : x0 = x10 + x2) : 0 ≤ x0 := by omega
theorem o35_309 {x0 x1 x2 x3 x4 x5 x6 x7 x8 x9 x10 : Int} (h0 : x1 = x2) (h1 : 0 ≤ x3) (h2 : x3 ≤ 1) (h3 : (x3 = 0 ∨ (0 ≤ x1 ∧ x1 ≤ 4))) (h4 : ¬ x3 = 0) (h5 : x4 = 56) (h6 : x5 = x4 + x2) (h7 : x6 = 56) (h8 : x7 = x6 + x2) (h9 : x8 = 36) (h10 : x9 = x8 + x2) (h11 : x10 = 41) (h12 : x0 = x10 + x2) : x0 < (5322 : Nat) := by omega
theorem o35_310 {x0 x1 x2 x3 x4 x5 x6 x7 x8 x9 x10 : Int} (h0 : x1 = x2) (h1 : 0 ≤ x3) (h2 : x3 ≤ 1) (h3 : (x3 = 0 ∨ (0 ≤ x1 ∧ x1 ≤ 4))) (h4 : ¬ x3 = 0) (h5 : x4 = 56) (h6 : x5 = x4 + x2) (h7 : x6 = 56) (h8 : x7 = x6 + x2) (h9 : x8 = 36) (h10 : x9 = x8 + x2) (h11 : x10 = 41) (h12 : x0 = x10 + x2) : (x0).toNat < 46 := by omega
theorem o35_311 {x0 x1 x2 x3 x4 x5 x6 x7 x8 x9 x10 : Int} (h0 : x1 = x2) (h1 : 0 ≤ x3) (h2 : x3 ≤ 1) (h3 : (x3 = 0 ∨ (0 ≤ x1 ∧ x1 ≤ 4))) (h4 : ¬ x3 = 0) (h5 : x4 = 56) (h6 : x5 = x4 + x2) (h7 : x6 = 56) (h8 : x7 = x6 + x2) (h9 : x8 = 36) (h10 : x9 = x8 + x2) (h11 : x10 = 41) (h12 : x0 = x10 + x2) : 41 ≤ (x0).toNat := by omega
theorem o35_312 {x0 x1 x2 x3 x4 x5 x6 x7 x8 x9 x10 : Int} (h0 : x1 = x2) (h1 : 0 ≤ x0) (h2 : x0 ≤ 1) (h3 : (x0 = 0 ∨ (0 ≤ x1 ∧ x1 ≤ 4))) (h4 : ¬ x0 = 0) (h5 : x3 = 56) (h6 : x4 = x3 + x2) (h7 : x5 = 56) (h8 : x6 = x5 + x2) (h9 : x7 = 36) (h10 : x8 = x7 + x2) (h11 : x9 = 41) (h12 : x10 = x9 + x2) : ¬ x0 = 0 := by omega
theorem o35_313 {x0 : Int} (h0 : x0 = 3) : x0 = 3 := by omega
theorem o35_314 {x0 : Int} (h0 : 0 ≤ x0) : 0 ≤ x0 := by omega
theorem o35_315 {x0 x1 x2 x3 x4 x5 x6 x7 x8 x9 x10 x11 : Int} (h0 : x2 = x1) (h1 : 0 ≤ x3) (h2 : x3 ≤ 1) (h3 : (x3 = 0 ∨ (0 ≤ x2 ∧ x2 ≤ 4))) (h4 : ¬ x3 = 0) (h5 : x4 = 56) (h6 : x5 = x4 + x1) (h7 : x6 = 56) (h8 : x7 = x6 + x1) (h9 : x8 = 36) (h10 : x9 = x8 + x1) (h11 : x10 = 41) (h12 : x11 = x10 + x1) (h13 : x0 = 56) (h14 : -2147483648 ≤ x0) (h15 : x0 ≤ 2147483647) (h16 : -2147483648 ≤ x1) (h17 : x1 ≤ 2147483647) (h18 : -2147483648 ≤ x3) (h19 : x3 ≤ 2147483647) (h20 : -2147483648 ≤ x4) (h21 : x4 ≤ 2147483647) (h22 : -2147483648 ≤ x5) (h23 : x5 ≤ 2147483647) (h24 : -2147483648 ≤ x6) (h25 : x6 ≤ 2147483647) (h26 : -2147483648 ≤ x7) (h27 : x7 ≤ 2147483647) (h28 : -2147483648 ≤ x8) (h29 : x8 ≤ 2147483647) (h30 : -2147483648 ≤ x9) (h31 : x9 ≤ 2147483647) (h32 : -2147483648 ≤ x10) (h33 : x10 ≤ 2147483647) (h34 : -2147483648 ≤ x11) (h35 : x11 ≤ 2147483647) : -2147483648 ≤ x0 + x1 := by omega
theorem o35_316 {x0 x1 x2 x3 x4 x5 x6 x7 x8 x9 x10 x11 : Int} (h0 : x2 = x1) (h1 : 0 ≤ x3) (h2 : x3 ≤ 1) (h3 : (x3 = 0 ∨ (0 ≤ x2 ∧ x2 ≤ 4))) (h4 : ¬ x3 = 0) (h5 : x4 = 56) (h6 : x5 = x4 + x1) (h7 : x6 = 56) (h8 : x7 = x6 + x1) (h9 : x8 = 36) (h10 : x9 = x8 + x1) (h11 : x10 = 41) (h12 : x11 = x10 + x1) (h13 : x0 = 56) (h14 : -2147483648 ≤ x0) (h15 : x0 ≤ 2147483647) (h16 : -2147483648 ≤ x1) (h17 : x1 ≤ 2147483647) (h18 : -2147483648 ≤ x3) (h19 : x3 ≤ 2147483647) (h20 : -2147483648 ≤ x4) (h21 : x4 ≤ 2147483647) (h22 : -2147483648 ≤ x5) (h23 : x5 ≤ 2147483647) (h24 : -2147483648 ≤ x6) (h25 : x6 ≤ 2147483647) (h26 : -2147483648 ≤ x7) (h27 : x7 ≤ 2147483647) (h28 : -2147483648 ≤ x8) (h29 : x8 ≤ 2147483647) (h30 : -2147483648 ≤ x9) (h31 : x9 ≤ 2147483647) (h32 : -2147483648 ≤ x10) (h33 : x10 ≤ 2147483647) (h34 : -2147483648 ≤ x11) (h35 : x11 ≤ 2147483647) : x0 + x1 ≤ 2147483647 := by omega
theorem o35_317 {x0 x1 x2 x3 x4 x5 x6 x7 x8 x9 x10 x11 x12 : Int} (h0 : x1 = x2) (h1 : 0 ≤ x3) (h2 : x3 ≤ 1) (h3 : (x3 = 0 ∨ (0 ≤ x1 ∧ x1 ≤ 4))) (h4 : ¬ x3 = 0) (h5 : x4 = 56) (h6 : x5 = x4 + x2) (h7 : x6 = 56) (h8 : x7 = x6 + x2) (h9 : x8 = 36) (h10 : x9 = x8 + x2) (h11 : x10 = 41) (h12 : x11 = x10 + x2) (h13 : x12 = 56) (h14 : x0 = x12 + x2) : 0 ≤ x0 := by omega
theorem o35_318 {x0 x1 x2 x3 x4 x5 x6 x7 x8 x9 x10 x11 x12 : Int} (h0 : x1 = x2) (h1 : 0 ≤ x3) (h2 : x3 ≤ 1) (h3 : (x3 = 0 ∨ (0 ≤ x1 ∧ x1 ≤ 4))) (h4 : ¬ x3 = 0) (h5 : x4 = 56) (h6 : x5 = x4 + x2) (h7 : x6 = 56) (h8 : x7 = x6 + x2) (h9 : x8 = 36) (h10 : x9 = x8 + x2) (h11 : x10 = 41) (h12 : x11 = x10 + x2) (h13 : x12 = 56) (h14 : x0 = x12 + x2) : x0 < (5322 : Nat) := by omega
theorem o35_319 : ∀ p, p < 61 → 56 ≤ p → (elAll p).1 ≤ (-2147483648) ∧ 2147483647 ≤ (elAll p).2 := by decide +kernel
theorem o35_320 {x0 x1 x2 x3 x4 x5 x6 x7 x8 x9 x10 x11 x12 : Int} (h0 : x1 = x2) (h1 : 0 ≤ x3) (h2 : x3 ≤ 1) (h3 : (x3 = 0 ∨ (0 ≤ x1 ∧ x1 ≤ 4))) (h4 : ¬ x3 = 0) (h5 : x4 = 56) (h6 : x5 = x4 + x2) (h7 : x6 = 56) (h8 : x7 = x6 + x2) (h9 : x8 = 36) (h10 : x9 = x8 + x2) (h11 : x10 = 41) (h12 : x11 = x10 + x2) (h13 : x12 = 56) (h14 : x0 = x12 + x2) : (x0).toNat < 61 := by omega
theorem o35_321 {x0 x1 x2 x3 x4 x5 x6 x7 x8 x9 x10 x11 x12 : Int} (h0 : x1 = x2) (h1 : 0 ≤ x3) (h2 : x3 ≤ 1) (h3 : (x3 = 0 ∨ (0 ≤ x1 ∧ x1 ≤ 4))) (h4 : ¬ x3 = 0) (h5 : x4 = 56) (h6 : x5 = x4 + x2) (h7 : x6 = 56) (h8 : x7 = x6 + x2) (h9 : x8 = 36) (h10 : x9 = x8 + x2) (h11 : x10 = 41) (h12 : x11 = x10 + x2) (h13 : x12 = 56) (h14 : x0 = x12 + x2) : 56 ≤ (x0).toNat := by omega
theorem o35_322 {x0 x1 x2 x3 x4 x5 x6 x7 x8 x9 x10 x11 x12 : Int} (h0 : x1 = x2) (h1 : 0 ≤ x3) (h2 : x3 ≤ 1) (h3 : (x3 = 0 ∨ (0 ≤ x1 ∧ x1 ≤ 4))) (h4 : ¬ x3 = 0) (h5 : x4 = 56) (h6 : x5 = x4 + x2) (h7 : x6 = 56) (h8 : x7 = x6 + x2) (h9 : x8 = 36) (h10 : x9 = x8 + x2) (h11 : x10 = 41) (h12 : x11 = x10 + x2) (h13 : x12 = 56) (h14 : x0 = x12 + x2) : (36 ≤ x0 ∨ x0 = 10) := by omega
theorem o35_323 {x0 x1 x2 x3 x4 x5 x6 x7 x8 x9 x10 x11 x12 : Int} (h0 : x1 = x2) (h1 : 0 ≤ x3) (h2 : x3 ≤ 1) (h3 : (x3 = 0 ∨ (0 ≤ x1 ∧ x1 ≤ 4))) (h4 : ¬ x3 = 0) (h5 : x4 = 56) (h6 : x5 = x4 + x2) (h7 : x6 = 56) (h8 : x7 = x6 + x2) (h9 : x8 = 36) (h10 : x9 = x8 + x2) (h11 : x10 = 41) (h12 : x11 = x10 + x2) (h13 : x12 = 56) (h14 : x0 = x12 + x2) : 10 ≤ x0 := by omega
theorem o35_324 {x0 x1 x2 x3 x4 x5 x6 x7 x8 x9 x10 x11 x12 : Int} (h0 : x1 = x2) (h1 : 0 ≤ x3) (h2 : x3 ≤ 1) (h3 : (x3 = 0 ∨ (0 ≤ x1 ∧ x1 ≤ 4))) (h4 : ¬ x3 = 0) (h5 : x4 = 56) (h6 : x5 = x4 + x2) (h7 : x6 = 56) (h8 : x7 = x6 + x2) (h9 : x8 = 36) (h10 : x9 = x8 + x2) (h11 : x10 = 41) (h12 : x11 = x10 + x2) (h13 : x12 = 56) (h14 : x0 = x12 + x2) : x0 ≤ 872 := by omega
theorem o35_325 {x0 x1 x2 x3 x4 x5 x6 x7 x8 x9 x10 x11 x12 x13 : Int} (h0 : x2 = x1) (h1 : 0 ≤ x3) (h2 : x3 ≤ 1) (h3 : (x3 = 0 ∨ (0 ≤ x2 ∧ x2 ≤ 4))) (h4 : ¬ x3 = 0) (h5 : x4 = 56) (h6 : x5 = x4 + x1) (h7 : x6 = 56) (h8 : x7 = x6 + x1) (h9 : x8 = 36) (h10 : x9 = x8 + x1) (h11 : x10 = 41) (h12 : x11 = x10 + x1) (h13 : x12 = 56) (h14 : x13 = x12 + x1) (h15 : x0 = 51) (h16 : -2147483648 ≤ x0) (h17 : x0 ≤ 2147483647) (h18 : -2147483648 ≤ x1) (h19 : x1 ≤ 2147483647) (h20 : -2147483648 ≤ x3) (h21 : x3 ≤ 2147483647) (h22 : -2147483648 ≤ x4) (h23 : x4 ≤ 2147483647) (h24 : -2147483648 ≤ x5) (h25 : x5 ≤ 2147483647) (h26 : -2147483648 ≤ x6) (h27 : x6 ≤ 2147483647) (h28 : -2147483648 ≤ x7) (h29 : x7 ≤ 2147483647) (h30 : -2147483648 ≤ x8) (h31 : x8 ≤ 2147483647) (h32 : -2147483648 ≤ x9) (h33 : x9 ≤ 2147483647) (h34 : -2147483648 ≤ x10) (h35 : x10 ≤ 2147483647) (h36 : -2147483648 ≤ x11) (h37 : x11 ≤ 2147483647) (h38 : -2147483648 ≤ x12) (h39 : x12 ≤ 2147483647) (h40 : -2147483648 ≤ x13) (h41 : x13 ≤ 2147483647) : -2147483648 ≤ x0 + x1 := by omega
theorem o35_326 {x0 x1 x2 x3 x4 x5 x6 x7 x8 x9 x10 x11 x12 x13 : Int} (h0 : x2 = x1) (h1 : 0 ≤ x3) (h2 : x3 ≤ 1) (h3 : (x3 = 0 ∨ (0 ≤ x2 ∧ x2 ≤ 4))) (h4 : ¬ x3 = 0) (h5 : x4 = 56) (h6 : x5 = x4 + x1) (h7 : x6 = 56) (h8 : x7 = x6 + x1) (h9 : x8 = 36) (h10 : x9 = x8 + x1) (h11 : x10 = 41) (h12 : x11 = x10 + x1) (h13 : x12 = 56) (h14 : x13 = x12 + x1) (h15 : x0 = 51) (h16 : -2147483648 ≤ x0) (h17 : x0 ≤ 2147483647) (h18 : -2147483648 ≤ x1) (h19 : x1 ≤ 2147483647) (h20 : -2147483648 ≤ x3) (h21 : x3 ≤ 2147483647) (h22 : -2147483648 ≤ x4) (h23 : x4 ≤ 2147483647) (h24 : -2147483648 ≤ x5) (h25 : x5 ≤ 2147483647) (h26 : -2147483648 ≤ x6) (h27 : x6 ≤ 2147483647) (h28 : -2147483648 ≤ x7) (h29 : x7 ≤ 2147483647) (h30 : -2147483648 ≤ x8) (h31 : x8 ≤ 2147483647) (h32 : -2147483648 ≤ x9) (h33 : x9 ≤ 2147483647) (h34 : -2147483648 ≤ x10) (h35 : x10 ≤ 2147483647) (h36 : -2147483648 ≤ x11) (h37 : x11 ≤ 2147483647) (h38 : -2147483648 ≤ x12) (h39 : x12 ≤ 2147483647) (h40 : -2147483648 ≤ x13) (h41 : x13 ≤ 2147483647) : x0 + x1 ≤ 2147483647 := by omega
theorem o35_327 {x0 x1 x2 x3 x4 x5 x6 x7 x8 x9 x10 x11 x12 x13 x14 x15 : Int} (h0 : x2 = x1) (h1 : 0 ≤ x3) (h2 : x3 ≤ 1) (h3 : (x3 = 0 ∨ (0 ≤ x2 ∧ x2 ≤ 4))) (h4 : ¬ x3 = 0) (h5 : x4 = 56) (h6 : x5 = x4 + x1) (h7 : x6 = 56) (h8 : x7 = x6 + x1) (h9 : x8 = 36) (h10 : x9 = x8 + x1) (h11 : x10 = 41) (h12 : x11 = x10 + x1) (h13 : x12 = 56) (h14 : x13 = x12 + x1) (h15 : x14 = 51) (h16 : x15 = x14 + x1) (h17 : x0 = 51) (h18 : -2147483648 ≤ x0) (h19 : x0 ≤ 2147483647) (h20 : -2147483648 ≤ x1) (h21 : x1 ≤ 2147483647) (h22 : -2147483648 ≤ x3) (h23 : x3 ≤ 2147483647) (h24 : -2147483648 ≤ x4) (h25 : x4 ≤ 2147483647) (h26 : -2147483648 ≤ x5) (h27 : x5 ≤ 2147483647) (h28 : -2147483648 ≤ x6) (h29 : x6 ≤ 2147483647) (h30 : -2147483648 ≤ x7) (h31 : x7 ≤ 2147483647) (h32 : -2147483648 ≤ x8) (h33 : x8 ≤ 2147483647) (h34 : -2147483648 ≤ x9) (h35 : x9 ≤ 2147483647) (h36 : -2147483648 ≤ x10) (h37 : x10 ≤ 2147483647) (h38 : -2147483648 ≤ x11) (h39 : x11 ≤ 2147483647) (h40 : -2147483648 ≤ x12) (h41 : x12 ≤ 2147483647) (h42 : -2147483648 ≤ x13) (h43 : x13 ≤ 2147483647) (h44 : -2147483648 ≤ x14) (h45 : x14 ≤ 2147483647) (h46 : -2147483648 ≤ x15) (h47 : x15 ≤ 2147483647) : -2147483648 ≤ x0 + x1 := by omega
theorem o35_328 {x0 x1 x2 x3 x4 x5 x6 x7 x8 x9 x10 x11 x12 x13 x14 x15 : Int} (h0 : x2 = x1) (h1 : 0 ≤ x3) (h2 : x3 ≤ 1) (h3 : (x3 = 0 ∨ (0 ≤ x2 ∧ x2 ≤ 4))) (h4 : ¬ x3 = 0) (h5 : x4 = 56) (h6 : x5 = x4 + x1) (h7 : x6 = 56) (h8 : x7 = x6 + x1) (h9 : x8 = 36) (h10 : x9 = x8 + x1) (h11 : x10 = 41) (h12 : x11 = x10 + x1) (h13 : x12 = 56) (h14 : x13 = x12 + x1) (h15 : x14 = 51) (h16 : x15 = x14 + x1) (h17 : x0 = 51) (h18 : -2147483648 ≤ x0) (h19 : x0 ≤ 2147483647) (h20 : -2147483648 ≤ x1) (h21 : x1 ≤ 2147483647) (h22 : -2147483648 ≤ x3) (h23 : x3 ≤ 2147483647) (h24 : -2147483648 ≤ x4) (h25 : x4 ≤ 2147483647) (h26 : -2147483648 ≤ x5) (h27 : x5 ≤ 2147483647) (h28 : -2147483648 ≤ x6) (h29 : x6 ≤ 2147483647) (h30 : -2147483648 ≤ x7) (h31 : x7 ≤ 2147483647) (h32 : -2147483648 ≤ x8) (h33 : x8 ≤ 2147483647) (h34 : -2147483648 ≤ x9) (h35 : x9 ≤ 2147483647) (h36 : -2147483648 ≤ x10) (h37 : x10 ≤ 2147483647) (h38 : -2147483648 ≤ x11) (h39 : x11 ≤ 2147483647) (h40 : -2147483648 ≤ x12) (h41 : x12 ≤ 2147483647) (h42 : -2147483648 ≤ x13) (h43 : x13 ≤ 2147483647) (h44 : -2147483648 ≤ x14) (h45 : x14 ≤ 2147483647) (h46 : -2147483648 ≤ x15) (h47 : x15 ≤ 2147483647) : x0 + x1 ≤ 2147483647 := by omega
theorem o35_329 {x0 x1 x2 x3 x4 x5 x6 x7 x8 x9 x10 x11 x12 x13 x14 x15 x16 : Int} (h0 : x1 = x2) (h1 : 0 ≤ x3) (h2 : x3 ≤ 1) (h3 : (x3 = 0 ∨ (0 ≤ x1 ∧ x1 ≤ 4))) (h4 : ¬ x3 = 0) (h5 : x4 = 56) (h6 : x5 = x4 + x2) (h7 : x6 = 56) (h8 : x7 = x6 + x2) (h9 : x8 = 36) (h10 : x9 = x8 + x2) (h11 : x10 = 41) (h12 : x11 = x10 + x2) (h13 : x12 = 56) (h14 : x13 = x12 + x2) (h15 : x14 = 51) (h16 : x15 = x14 + x2) (h17 : x16 = 51) (h18 : x0 = x16 + x2) : 0 ≤ x0 := by omega
theorem o35_330 {x0 x1 x2 x3 x4 x5 x6 x7 x8 x9 x10 x11 x12 x13 x14 x15 x16 : Int} (h0 : x1 = x2) (h1 : 0 ≤ x3) (h2 : x3 ≤ 1) (h3 : (x3 = 0 ∨ (0 ≤ x1 ∧ x1 ≤ 4))) (h4 : ¬ x3 = 0) (h5 : x4 = 56) (h6 : x5 = x4 + x2) (h7 : x6 = 56) (h8 : x7 = x6 + x2) (h9 : x8 = 36) (h10 : x9 = x8 + x2) (h11 : x10 = 41) (h12 : x11 = x10 + x2) (h13 : x12 = 56) (h14 : x13 = x12 + x2) (h15 : x14 = 51) (h16 : x15 = x14 + x2) (h17 : x16 = 51) (h18 : x0 = x16 + x2) : x0 < (5322 : Nat) := by omega
theorem o35_331 {x0 : Int} (h0 : x0 = 9999) : x0 = 9999 := by omega
theorem o35_332 {x0 x1 : Int} (h0 : x1 = 9999) (h1 : x0 ≤ x1) : ¬ 9999 < x0 := by omega
theorem o35_333 {x0 x1 : Int} (h0 : x1 = 9999) (h1 : x1 < x0) : 9999 < x0 := by omega
theorem o35_334 {x0 x1 x2 x3 x4 x5 x6 x7 x8 x9 x10 x11 x12 x13 x14 x15 x16 x17 : Int} (h0 : x2 = x1) (h1 : 0 ≤ x3) (h2 : x3 ≤ 1) (h3 : (x3 = 0 ∨ (0 ≤ x2 ∧ x2 ≤ 4))) (h4 : ¬ x3 = 0) (h5 : x4 = 56) (h6 : x5 = x4 + x1) (h7 : x6 = 56) (h8 : x7 = x6 + x1) (h9 : x8 = 36) (h10 : x9 = x8 + x1) (h11 : x10 = 41) (h12 : x11 = x10 + x1) (h13 : x12 = 56) (h14 : x13 = x12 + x1) (h15 : x14 = 51) (h16 : x15 = x14 + x1) (h17 : x16 = 51) (h18 : x17 = x16 + x1) (h19 : x0 = 51) (h20 : -2147483648 ≤ x0) (h21 : x0 ≤ 2147483647) (h22 : -2147483648 ≤ x1) (h23 : x1 ≤ 2147483647) (h24 : -2147483648 ≤ x3) (h25 : x3 ≤ 2147483647) (h26 : -2147483648 ≤ x4) (h27 : x4 ≤ 2147483647) (h28 : -2147483648 ≤ x5) (h29 : x5 ≤ 2147483647) (h30 : -2147483648 ≤ x6) (h31 : x6 ≤ 2147483647) (h32 : -2147483648 ≤ x7) (h33 : x7 ≤ 2147483647) (h34 : -2147483648 ≤ x8) (h35 : x8 ≤ 2147483647) (h36 : -2147483648 ≤ x9) (h37 : x9 ≤ 2147483647) (h38 : -2147483648 ≤ x10) (h39 : x10 ≤ 2147483647) (h40 : -2147483648 ≤ x11) (h41 : x11 ≤ 2147483647) (h42 : -2147483648 ≤ x12) (h43 : x12 ≤ 2147483647) (h44 : -2147483648 ≤ x13) (h45 : x13 ≤ 2147483647) (h46 : -2147483648 ≤ x14) (h47 : x14 ≤ 2147483647) (h48 : -2147483648 ≤ x15) (h49 : x15 ≤ 2147483647) (h50 : -2147483648 ≤ x16) (h51 : x16 ≤ 2147483647) (h52 : -2147483648 ≤ x17) (h53 : x17 ≤ 2147483647) : -2147483648 ≤ x0 + x1 := by omega
theorem o35_335 {x0 x1 x2 x3 x4 x5 x6 x7 x8 x9 x10 x11 x12 x13 x14 x15 x16 x17 : Int} (h0 : x2 = x1) (h1 : 0 ≤ x3) (h2 : x3 ≤ 1) (h3 : (x3 = 0 ∨ (0 ≤ x2 ∧ x2 ≤ 4))) (h4 : ¬ x3 = 0) (h5 : x4 = 56) (h6 : x5 = x4 + x1) (h7 : x6 = 56) (h8 : x7 = x6 + x1) (h9 : x8 = 36) (h10 : x9 = x8 + x1) (h11 : x10 = 41) (h12 : x11 = x10 + x1) (h13 : x12 = 56) (h14 : x13 = x12 + x1) (h15 : x14 = 51) (h16 : x15 = x14 + x1) (h17 : x16 = 51) (h18 : x17 = x16 + x1) (h19 : x0 = 51) (h20 : -2147483648 ≤ x0) (h21 : x0 ≤ 2147483647) (h22 : -2147483648 ≤ x1) (h23 : x1 ≤ 2147483647) (h24 : -2147483648 ≤ x3) (h25 : x3 ≤ 2147483647) (h26 : -2147483648 ≤ x4) (h27 : x4 ≤ 2147483647) (h28 : -2147483648 ≤ x5) (h29 : x5 ≤ 2147483647) (h30 : -2147483648 ≤ x6) (h31 : x6 ≤ 2147483647) (h32 : -2147483648 ≤ x7) (h33 : x7 ≤ 2147483647) (h34 : -2147483648 ≤ x8) (h35 : x8 ≤ 2147483647) (h36 : -2147483648 ≤ x9) (h37 : x9 ≤ 2147483647) (h38 : -2147483648 ≤ x10) (h39 : x10 ≤ 2147483647) (h40 : -2147483648 ≤ x11) (h41 : x11 ≤ 2147483647) (h42 : -2147483648 ≤ x12) (h43 : x12 ≤ 2147483647) (h44 : -2147483648 ≤ x13) (h45 : x13 ≤ 2147483647) (h46 : -2147483648 ≤ x14) (h47 : x14 ≤ 2147483647) (h48 : -2147483648 ≤ x15) (h49 : x15 ≤ 2147483647) (h50 : -2147483648 ≤ x16) (h51 : x16 ≤ 2147483647) (h52 : -2147483648 ≤ x17) (h53 : x17 ≤ 2147483647) : x0 + x1 ≤ 2147483647 := by omega
theorem o35_336 {x0 x1 x2 x3 x4 x5 x6 x7 x8 x9 x10 x11 x12 x13 x14 x15 x16 x17 x18 : Int} (h0 : x1 = x2) (h1 : 0 ≤ x3) (h2 : x3 ≤ 1) (h3 : (x3 = 0 ∨ (0 ≤ x1 ∧ x1 ≤ 4))) (h4 : ¬ x3 = 0) (h5 : x4 = 56) (h6 : x5 = x4 + x2) (h7 : x6 = 56) (h8 : x7 = x6 + x2) (h9 : x8 = 36) (h10 : x9 = x8 + x2) (h11 : x10 = 41) (h12 : x11 = x10 + x2) (h13 : x12 = 56) (h14 : x13 = x12 + x2) (h15 : x14 = 51) (h16 : x15 = x14 + x2) (h17 : x16 = 51) (h18 : x17 = x16 + x2) (h19 : x18 = 51) (h20 : x0 = x18 + x2) : 0 ≤ x0 := by omega
theorem o35_337 {x0 x1 x2 x3 x4 x5 x6 x7 x8 x9 x10 x11 x12 x13 x14 x15 x16 x17 x18 : Int} (h0 : x1 = x2) (h1 : 0 ≤ x3) (h2 : x3 ≤ 1) (h3 : (x3 = 0 ∨ (0 ≤ x1 ∧ x1 ≤ 4))) (h4 : ¬ x3 = 0) (h5 : x4 = 56) (h6 : x5 = x4 + x2) (h7 : x6 = 56) (h8 : x7 = x6 + x2) (h9 : x8 = 36) (h10 : x9 = x8 + x2) (h11 : x10 = 41) (h12 : x11 = x10 + x2) (h13 : x12 = 56) (h14 : x13 = x12 + x2) (h15 : x14 = 51) (h16 : x15 = x14 + x2) (h17 : x16 = 51) (h18 : x17 = x16 + x2) (h19 : x18 = 51) (h20 : x0 = x18 + x2) : x0 < (5322 : Nat) := by omega
theorem o35_338 {x0 x1 x2 x3 x4 x5 x6 x7 x8 x9 x10 x11 x12 x13 x14 x15 x16 x17 x18 : Int} (h0 : x2 = x3) (h1 : 0 ≤ x4) (h2 : x4 ≤ 1) (h3 : (x4 = 0 ∨ (0 ≤ x2 ∧ x2 ≤ 4))) (h4 : ¬ x4 = 0) (h5 : x5 = 56) (h6 : x6 = x5 + x3) (h7 : x7 = 56) (h8 : x8 = x7 + x3) (h9 : x9 = 36) (h10 : x10 = x9 + x3) (h11 : x11 = 41) (h12 : x12 = x11 + x3) (h13 : x13 = 56) (h14 : x14 = x13 + x3) (h15 : x15 = 51) (h16 : x16 = x15 + x3) (h17 : x17 = 51) (h18 : x1 = x17 + x3) (h19 : x18 = 51) (h20 : x0 = x18 + x3) : (x0).toNat = (x1).toNat := by omega
theorem o35_339 {x0 x1 x2 x3 x4 x5 x6 x7 x8 x9 x10 x11 x12 x13 x14 x15 x16 x17 x18 : Int} (h0 : x1 = x2) (h1 : 0 ≤ x3) (h2 : x3 ≤ 1) (h3 : (x3 = 0 ∨ (0 ≤ x1 ∧ x1 ≤ 4))) (h4 : ¬ x3 = 0) (h5 : x4 = 56) (h6 : x5 = x4 + x2) (h7 : x6 = 56) (h8 : x7 = x6 + x2) (h9 : x8 = 36) (h10 : x9 = x8 + x2) (h11 : x10 = 41) (h12 : x11 = x10 + x2) (h13 : x12 = 56) (h14 : x13 = x12 + x2) (h15 : x14 = 51) (h16 : x0 = x14 + x2) (h17 : x15 = 51) (h18 : x16 = x15 + x2) (h19 : x17 = 51) (h20 : x18 = x17 + x2) : 0 ≤ x0 := by omega
theorem o35_340 {x0 x1 x2 x3 x4 x5 x6 x7 x8 x9 x10 x11 x12 x13 x14 x15 x16 x17 x18 : Int} (h0 : x1 = x2) (h1 : 0 ≤ x3) (h2 : x3 ≤ 1) (h3 : (x3 = 0 ∨ (0 ≤ x1 ∧ x1 ≤ 4))) (h4 : ¬ x3 = 0) (h5 : x4 = 56) (h6 : x5 = x4 + x2) (h7 : x6 = 56) (h8 : x7 = x6 + x2) (h9 : x8 = 36) (h10 : x9 = x8 + x2) (h11 : x10 = 41) (h12 : x11 = x10 + x2) (h13 : x12 = 56) (h14 : x13 = x12 + x2) (h15 : x14 = 51) (h16 : x0 = x14 + x2) (h17 : x15 = 51) (h18 : x16 = x15 + x2) (h19 : x17 = 51) (h20 : x18 = x17 + x2) : x0 < (5322 : Nat) := by omega
theorem o35_341 {x0 x1 x2 x3 x4 x5 x6 x7 x8 x9 x10 x11 x12 x13 x14 x15 x16 x17 x18 : Int} (h0 : x1 = x2) (h1 : 0 ≤ x3) (h2 : x3 ≤ 1) (h3 : (x3 = 0 ∨ (0 ≤ x1 ∧ x1 ≤ 4))) (h4 : ¬ x3 = 0) (h5 : x4 = 56) (h6 : x5 = x4 + x2) (h7 : x6 = 56) (h8 : x7 = x6 + x2) (h9 : x8 = 36) (h10 : x9 = x8 + x2) (h11 : x10 = 41) (h12 : x11 = x10 + x2) (h13 : x12 = 56) (h14 : x13 = x12 + x2) (h15 : x14 = 51) (h16 : x0 = x14 + x2) (h17 : x15 = 51) (h18 : x16 = x15 + x2) (h19 : x17 = 51) (h20 : x18 = x17 + x2) : (x0).toNat < 56 := by omega
theorem o35_342 {x0 x1 x2 x3 x4 x5 x6 x7 x8 x9 x10 x11 x12 x13 x14 x15 x16 x17 x18 : Int} (h0 : x1 = x2) (h1 : 0 ≤ x3) (h2 : x3 ≤ 1) (h3 : (x3 = 0 ∨ (0 ≤ x1 ∧ x1 ≤ 4))) (h4 : ¬ x3 = 0) (h5 : x4 = 56) (h6 : x5 = x4 + x2) (h7 : x6 = 56) (h8 : x7 = x6 + x2) (h9 : x8 = 36) (h10 : x9 = x8 + x2) (h11 : x10 = 41) (h12 : x11 = x10 + x2) (h13 : x12 = 56) (h14 : x13 = x12 + x2) (h15 : x14 = 51) (h16 : x0 = x14 + x2) (h17 : x15 = 51) (h18 : x16 = x15 + x2) (h19 : x17 = 51) (h20 : x18 = x17 + x2) : 51 ≤ (x0).toNat := by omega
theorem o35_343 {x0 x1 x2 x3 x4 x5 x6 x7 x8 x9 x10 x11 x12 x13 x14 x15 x16 x17 x18 : Int} (h0 : x1 = x2) (h1 : 0 ≤ x3) (h2 : x3 ≤ 1) (h3 : (x3 = 0 ∨ (0 ≤ x1 ∧ x1 ≤ 4))) (h4 : ¬ x3 = 0) (h5 : x4 = 56) (h6 : x5 = x4 + x2) (h7 : x6 = 56) (h8 : x7 = x6 + x2) (h9 : x8 = 36) (h10 : x9 = x8 + x2) (h11 : x10 = 41) (h12 : x11 = x10 + x2) (h13 : x12 = 56) (h14 : x13 = x12 + x2) (h15 : x14 = 51) (h16 : x0 = x14 + x2) (h17 : x15 = 51) (h18 : x16 = x15 + x2) (h19 : x17 = 51) (h20 : x18 = x17 + x2) : (36 ≤ x0 ∨ x0 = 10) := by omega
theorem o35_344 {x0 x1 x2 x3 x4 x5 x6 x7 x8 x9 x10 x11 x12 x13 x14 x15 x16 x17 x18 : Int} (h0 : x1 = x2) (h1 : 0 ≤ x3) (h2 : x3 ≤ 1) (h3 : (x3 = 0 ∨ (0 ≤ x1 ∧ x1 ≤ 4))) (h4 : ¬ x3 = 0) (h5 : x4 = 56) (h6 : x5 = x4 + x2) (h7 : x6 = 56) (h8 : x7 = x6 + x2) (h9 : x8 = 36) (h10 : x9 = x8 + x2) (h11 : x10 = 41) (h12 : x11 = x10 + x2) (h13 : x12 = 56) (h14 : x13 = x12 + x2) (h15 : x14 = 51) (h16 : x0 = x14 + x2) (h17 : x15 = 51) (h18 : x16 = x15 + x2) (h19 : x17 = 51) (h20 : x18 = x17 + x2) : 10 ≤ x0 := by omega
theorem o35_345 {x0 x1 x2 x3 x4 x5 x6 x7 x8 x9 x10 x11 x12 x13 x14 x15 x16 x17 x18 : Int} (h0 : x1 = x2) (h1 : 0 ≤ x3) (h2 : x3 ≤ 1) (h3 : (x3 = 0 ∨ (0 ≤ x1 ∧ x1 ≤ 4))) (h4 : ¬ x3 = 0) (h5 : x4 = 56) (h6 : x5 = x4 + x2) (h7 : x6 = 56) (h8 : x7 = x6 + x2) (h9 : x8 = 36) (h10 : x9 = x8 + x2) (h11 : x10 = 41) (h12 : x11 = x10 + x2) (h13 : x12 = 56) (h14 : x13 = x12 + x2) (h15 : x14 = 51) (h16 : x0 = x14 + x2) (h17 : x15 = 51) (h18 : x16 = x15 + x2) (h19 : x17 = 51) (h20 : x18 = x17 + x2) : x0 ≤ 872 := by omega
theorem o35_346 {x0 x1 x2 x3 x4 x5 x6 x7 x8 x9 x10 x11 x12 x13 x14 x15 x16 : Int} (h0 : x1 = x2) (h1 : 0 ≤ x3) (h2 : x3 ≤ 1) (h3 : (x3 = 0 ∨ (0 ≤ x1 ∧ x1 ≤ 4))) (h4 : ¬ x3 = 0) (h5 : x4 = 56) (h6 : x5 = x4 + x2) (h7 : x6 = 56) (h8 : x7 = x6 + x2) (h9 : x8 = 36) (h10 : x9 = x8 + x2) (h11 : x10 = 41) (h12 : x11 = x10 + x2) (h13 : x12 = 56) (h14 : x13 = x12 + x2) (h15 : x14 = 51) (h16 : x0 = x14 + x2) (h17 : x15 = 51) (h18 : x16 = x15 + x2) : 0 ≤ x0 := by omega
theorem o35_347 {x0 x1 x2 x3 x4 x5 x6 x7 x8 x9 x10 x11 x12 x13 x14 x15 x16 : Int} (h0 : x1 = x2) (h1 : 0 ≤ x3) (h2 : x3 ≤ 1) (h3 : (x3 = 0 ∨ (0 ≤ x1 ∧ x1 ≤ 4))) (h4 : ¬ x3 = 0) (h5 : x4 = 56) (h6 : x5 = x4 + x2) (h7 : x6 = 56) (h8 : x7 = x6 + x2) (h9 : x8 = 36) (h10 : x9 = x8 + x2) (h11 : x10 = 41) (h12 : x11 = x10 + x2) (h13 : x12 = 56) (h14 : x13 = x12 + x2) (h15 : x14 = 51) (h16 : x0 = x14 + x2) (h17 : x15 = 51) (h18 : x16 = x15 + x2) : x0 < (5322 : Nat) := by omega
theorem o35_348 {x0 x1 x2 x3 x4 x5 x6 x7 x8 x9 x10 x11 x12 x13 x14 x15 x16 : Int} (h0 : x1 = x2) (h1 : 0 ≤ x3) (h2 : x3 ≤ 1) (h3 : (x3 = 0 ∨ (0 ≤ x1 ∧ x1 ≤ 4))) (h4 : ¬ x3 = 0) (h5 : x4 = 56) (h6 : x5 = x4 + x2) (h7 : x6 = 56) (h8 : x7 = x6 + x2) (h9 : x8 = 36) (h10 : x9 = x8 + x2) (h11 : x10 = 41) (h12 : x11 = x10 + x2) (h13 : x12 = 56) (h14 : x13 = x12 + x2) (h15 : x14 = 51) (h16 : x0 = x14 + x2) (h17 : x15 = 51) (h18 : x16 = x15 + x2) : (x0).toNat < 56 := by omega
theorem o35_349 {x0 x1 x2 x3 x4 x5 x6 x7 x8 x9 x10 x11 x12 x13 x14 x15 x16 : Int} (h0 : x1 = x2) (h1 : 0 ≤ x3) (h2 : x3 ≤ 1) (h3 : (x3 = 0 ∨ (0 ≤ x1 ∧ x1 ≤ 4))) (h4 : ¬ x3 = 0) (h5 : x4 = 56) (h6 : x5 = x4 + x2) (h7 : x6 = 56) (h8 : x7 = x6 + x2) (h9 : x8 = 36) (h10 : x9 = x8 + x2) (h11 : x10 = 41) (h12 : x11 = x10 + x2) (h13 : x12 = 56) (h14 : x13 = x12 + x2) (h15 : x14 = 51) (h16 : x0 = x14 + x2) (h17 : x15 = 51) (h18 : x16 = x15 + x2) : 51 ≤ (x0).toNat := by omega
theorem o35_350 {x0 x1 x2 x3 x4 x5 x6 x7 x8 x9 x10 x11 x12 x13 x14 x15 x16 : Int} (h0 : x1 = x2) (h1 : 0 ≤ x3) (h2 : x3 ≤ 1) (h3 : (x3 = 0 ∨ (0 ≤ x1 ∧ x1 ≤ 4))) (h4 : ¬ x3 = 0) (h5 : x4 = 56) (h6 : x5 = x4 + x2) (h7 : x6 = 56) (h8 : x7 = x6 + x2) (h9 : x8 = 36) (h10 : x9 = x8 + x2) (h11 : x10 = 41) (h12 : x11 = x10 + x2) (h13 : x12 = 56) (h14 : x13 = x12 + x2) (h15 : x14 = 51) (h16 : x0 = x14 + x2) (h17 : x15 = 51) (h18 : x16 = x15 + x2) : (36 ≤ x0 ∨ x0 = 10) := by omega
theorem o35_351 {x0 x1 x2 x3 x4 x5 x6 x7 x8 x9 x10 x11 x12 x13 x14 x15 x16 : Int} (h0 : x1 = x2) (h1 : 0 ≤ x3) (h2 : x3 ≤ 1) (h3 : (x3 = 0 ∨ (0 ≤ x1 ∧ x1 ≤ 4))) (h4 : ¬ x3 = 0) (h5 : x4 = 56) (h6 : x5 = x4 + x2) (h7 : x6 = 56) (h8 : x7 = x6 + x2) (h9 : x8 = 36) (h10 : x9 = x8 + x2) (h11 : x10 = 41) (h12 : x11 = x10 + x2) (h13 : x12 = 56) (h14 : x13 = x12 + x2) (h15 : x14 = 51) (h16 : x0 = x14 + x2) (h17 : x15 = 51) (h18 : x16 = x15 + x2) : 10 ≤ x0 := by omega
theorem o35_352 {x0 x1 x2 x3 x4 x5 x6 x7 x8 x9 x10 x11 x12 x13 x14 x15 x16 : Int} (h0 : x1 = x2) (h1 : 0 ≤ x3) (h2 : x3 ≤ 1) (h3 : (x3 = 0 ∨ (0 ≤ x1 ∧ x1 ≤ 4))) (h4 : ¬ x3 = 0) (h5 : x4 = 56) (h6 : x5 = x4 + x2) (h7 : x6 = 56) (h8 : x7 = x6 + x2) (h9 : x8 = 36) (h10 : x9 = x8 + x2) (h11 : x10 = 41) (h12 : x11 = x10 + x2) (h13 : x12 = 56) (h14 : x13 = x12 + x2) (h15 : x14 = 51) (h16 : x0 = x14 + x2) (h17 : x15 = 51) (h18 : x16 = x15 + x2) : x0 ≤ 872 := by omega
theorem o35_353 {x0 : Int} (h0 : x0 = (-2)) : (-5) ≤ x0 := by omega
theorem o35_354 {x0 : Int} (h0 : x0 = (-2)) : x0 ≤ 99 := by omega
theorem o35_355 {x0 x1 x2 x3 x4 x5 x6 : Int} (h0 : x2 = x1) (h1 : 0 ≤ x3) (h2 : x3 ≤ 1) (h3 : (x3 = 0 ∨ (0 ≤ x2 ∧ x2 ≤ 4))) (h4 : ¬ x3 = 0) (h5 : x4 = x5) (h6 : 0 ≤ x6) (h7 : x6 ≤ 1) (h8 : (x6 = 0 ∨ (0 ≤ x4 ∧ x4 ≤ 4))) (h9 : ¬ x6 = 0) (h10 : ¬ x1 = x5) (h11 : x0 = 36) (h12 : -2147483648 ≤ x0) (h13 : x0 ≤ 2147483647) (h14 : -2147483648 ≤ x1) (h15 : x1 ≤ 2147483647) (h16 : -2147483648 ≤ x3) (h17 : x3 ≤ 2147483647) (h18 : -2147483648 ≤ x5) (h19 : x5 ≤ 2147483647) (h20 : -2147483648 ≤ x6) (h21 : x6 ≤ 2147483647) : -2147483648 ≤ x0 + x1 := by omega
theorem o35_356 {x0 x1 x2 x3 x4 x5 x6 : Int} (h0 : x2 = x1) (h1 : 0 ≤ x3) (h2 : x3 ≤ 1) (h3 : (x3 = 0 ∨ (0 ≤ x2 ∧ x2 ≤ 4))) (h4 : ¬ x3 = 0) (h5 : x4 = x5) (h6 : 0 ≤ x6) (h7 : x6 ≤ 1) (h8 : (x6 = 0 ∨ (0 ≤ x4 ∧ x4 ≤ 4))) (h9 : ¬ x6 = 0) (h10 : ¬ x1 = x5) (h11 : x0 = 36) (h12 : -2147483648 ≤ x0) (h13 : x0 ≤ 2147483647) (h14 : -2147483648 ≤ x1) (h15 : x1 ≤ 2147483647) (h16 : -2147483648 ≤ x3) (h17 : x3 ≤ 2147483647) (h18 : -2147483648 ≤ x5) (h19 : x5 ≤ 2147483647) (h20 : -2147483648 ≤ x6) (h21 : x6 ≤ 2147483647) : x0 + x1 ≤ 2147483647 := by omega
theorem o35_357 {x0 x1 x2 x3 x4 x5 x6 x7 : Int} (h0 : x1 = x2) (h1 : 0 ≤ x3) (h2 : x3 ≤ 1) (h3 : (x3 = 0 ∨ (0 ≤ x1 ∧ x1 ≤ 4))) (h4 : ¬ x3 = 0) (h5 : x4 = x5) (h6 : 0 ≤ x6) (h7 : x6 ≤ 1) (h8 : (x6 = 0 ∨ (0 ≤ x4 ∧ x4 ≤ 4))) (h9 : ¬ x6 = 0) (h10 : ¬ x2 = x5) (h11 : x7 = 36) (h12 : x0 = x7 + x2) : 0 ≤ x0 := by omega
theorem o35_358 {x0 x1 x2 x3 x4 x5 x6 x7 : Int} (h0 : x1 = x2) (h1 : 0 ≤ x3) (h2 : x3 ≤ 1) (h3 : (x3 = 0 ∨ (0 ≤ x1 ∧ x1 ≤ 4))) (h4 : ¬ x3 = 0) (h5 : x4 = x5) (h6 : 0 ≤ x6) (h7 : x6 ≤ 1) (h8 : (x6 = 0 ∨ (0 ≤ x4 ∧ x4 ≤ 4))) (h9 : ¬ x6 = 0) (h10 : ¬ x2 = x5) (h11 : x7 = 36) (h12 : x0 = x7 + x2) : x0 < (5322 : Nat) := by omega
theorem o35_359 {x0 x1 x2 x3 x4 x5 x6 x7 : Int} (h0 : x1 = x2) (h1 : 0 ≤ x3) (h2 : x3 ≤ 1) (h3 : (x3 = 0 ∨ (0 ≤ x1 ∧ x1 ≤ 4))) (h4 : ¬ x3 = 0) (h5 : x4 = x5) (h6 : 0 ≤ x6) (h7 : x6 ≤ 1) (h8 : (x6 = 0 ∨ (0 ≤ x4 ∧ x4 ≤ 4))) (h9 : ¬ x6 = 0) (h10 : ¬ x2 = x5) (h11 : x7 = 36) (h12 : x0 = x7 + x2) : (x0).toNat < 41 := by omega
theorem o35_360 {x0 x1 x2 x3 x4 x5 x6 x7 : Int} (h0 : x1 = x2) (h1 : 0 ≤ x3) (h2 : x3 ≤ 1) (h3 : (x3 = 0 ∨ (0 ≤ x1 ∧ x1 ≤ 4))) (h4 : ¬ x3 = 0) (h5 : x4 = x5) (h6 : 0 ≤ x6) (h7 : x6 ≤ 1) (h8 : (x6 = 0 ∨ (0 ≤ x4 ∧ x4 ≤ 4))) (h9 : ¬ x6 = 0) (h10 : ¬ x2 = x5) (h11 : x7 = 36) (h12 : x0 = x7 + x2) : 36 ≤ (x0).toNat := by omega
theorem o35_361 {x0 x1 x2 x3 x4 x5 x6 x7 x8 : Int} (h0 : x2 = x3) (h1 : 0 ≤ x4) (h2 : x4 ≤ 1) (h3 : (x4 = 0 ∨ (0 ≤ x2 ∧ x2 ≤ 4))) (h4 : ¬ x4 = 0) (h5 : x5 = x1) (h6 : 0 ≤ x6) (h7 : x6 ≤ 1) (h8 : (x6 = 0 ∨ (0 ≤ x5 ∧ x5 ≤ 4))) (h9 : ¬ x6 = 0) (h10 : ¬ x3 = x1) (h11 : x7 = 36) (h12 : x8 = x7 + x3) (h13 : x0 = 36) (h14 : -2147483648 ≤ x0) (h15 : x0 ≤ 2147483647) (h16 : -2147483648 ≤ x1) (h17 : x1 ≤ 2147483647) (h18 : -2147483648 ≤ x3) (h19 : x3 ≤ 2147483647) (h20 : -2147483648 ≤ x4) (h21 : x4 ≤ 2147483647) (h22 : -2147483648 ≤ x6) (h23 : x6 ≤ 2147483647) (h24 : -2147483648 ≤ x7) (h25 : x7 ≤ 2147483647) (h26 : -2147483648 ≤ x8) (h27 : x8 ≤ 2147483647) : -2147483648 ≤ x0 + x1 := by omega
theorem o35_362 {x0 x1 x2 x3 x4 x5 x6 x7 x8 : Int} (h0 : x2 = x3) (h1 : 0 ≤ x4) (h2 : x4 ≤ 1) (h3 : (x4 = 0 ∨ (0 ≤ x2 ∧ x2 ≤ 4))) (h4 : ¬ x4 = 0) (h5 : x5 = x1) (h6 : 0 ≤ x6) (h7 : x6 ≤ 1) (h8 : (x6 = 0 ∨ (0 ≤ x5 ∧ x5 ≤ 4))) (h9 : ¬ x6 = 0) (h10 : ¬ x3 = x1) (h11 : x7 = 36) (h12 : x8 = x7 + x3) (h13 : x0 = 36) (h14 : -2147483648 ≤ x0) (h15 : x0 ≤ 2147483647) (h16 : -2147483648 ≤ x1) (h17 : x1 ≤ 2147483647) (h18 : -2147483648 ≤ x3) (h19 : x3 ≤ 2147483647) (h20 : -2147483648 ≤ x4) (h21 : x4 ≤ 2147483647) (h22 : -2147483648 ≤ x6) (h23 : x6 ≤ 2147483647) (h24 : -2147483648 ≤ x7) (h25 : x7 ≤ 2147483647) (h26 : -2147483648 ≤ x8) (h27 : x8 ≤ 2147483647) : x0 + x1 ≤ 2147483647 := by omega
theorem o35_363 {x0 x1 x2 x3 x4 x5 x6 x7 x8 x9 : Int} (h0 : x1 = x2) (h1 : 0 ≤ x3) (h2 : x3 ≤ 1) (h3 : (x3 = 0 ∨ (0 ≤ x1 ∧ x1 ≤ 4))) (h4 : ¬ x3 = 0) (h5 : x4 = x5) (h6 : 0 ≤ x6) (h7 : x6 ≤ 1) (h8 : (x6 = 0 ∨ (0 ≤ x4 ∧ x4 ≤ 4))) (h9 : ¬ x6 = 0) (h10 : ¬ x2 = x5) (h11 : x7 = 36) (h12 : x8 = x7 + x2) (h13 : x9 = 36) (h14 : x0 = x9 + x5) : 0 ≤ x0 := by omega
theorem o35_364 {x0 x1 x2 x3 x4 x5 x6 x7 x8 x9 : Int} (h0 : x1 = x2) (h1 : 0 ≤ x3) (h2 : x3 ≤ 1) (h3 : (x3 = 0 ∨ (0 ≤ x1 ∧ x1 ≤ 4))) (h4 : ¬ x3 = 0) (h5 : x4 = x5) (h6 : 0 ≤ x6) (h7 : x6 ≤ 1) (h8 : (x6 = 0 ∨ (0 ≤ x4 ∧ x4 ≤ 4))) (h9 : ¬ x6 = 0) (h10 : ¬ x2 = x5) (h11 : x7 = 36) (h12 : x8 = x7 + x2) (h13 : x9 = 36) (h14 : x0 = x9 + x5) : x0 < (5322 : Nat) := by omega
theorem o35_365 {x0 x1 x2 x3 x4 x5 x6 x7 x8 x9 : Int} (h0 : x1 = x2) (h1 : 0 ≤ x3) (h2 : x3 ≤ 1) (h3 : (x3 = 0 ∨ (0 ≤ x1 ∧ x1 ≤ 4))) (h4 : ¬ x3 = 0) (h5 : x4 = x5) (h6 : 0 ≤ x6) (h7 : x6 ≤ 1) (h8 : (x6 = 0 ∨ (0 ≤ x4 ∧ x4 ≤ 4))) (h9 : ¬ x6 = 0) (h10 : ¬ x2 = x5) (h11 : x7 = 36) (h12 : x8 = x7 + x2) (h13 : x9 = 36) (h14 : x0 = x9 + x5) : (x0).toNat < 41 := by omega
theorem o35_366 {x0 x1 x2 x3 x4 x5 x6 x7 x8 x9 : Int} (h0 : x1 = x2) (h1 : 0 ≤ x3) (h2 : x3 ≤ 1) (h3 : (x3 = 0 ∨ (0 ≤ x1 ∧ x1 ≤ 4))) (h4 : ¬ x3 = 0) (h5 : x4 = x5) (h6 : 0 ≤ x6) (h7 : x6 ≤ 1) (h8 : (x6 = 0 ∨ (0 ≤ x4 ∧ x4 ≤ 4))) (h9 : ¬ x6 = 0) (h10 : ¬ x2 = x5) (h11 : x7 = 36) (h12 : x8 = x7 + x2) (h13 : x9 = 36) (h14 : x0 = x9 + x5) : 36 ≤ (x0).toNat := by omega
theorem o35_367 {x0 : Int} (h0 : x0 = (-5)) : (-5) ≤ x0 := by omega
theorem o35_368 {x0 : Int} (h0 : x0 = (-5)) : x0 ≤ 99 := by omega
theorem o35_369 {x0 x1 x2 x3 x4 x5 x6 x7 x8 x9 x10 : Int} (h0 : x2 = x1) (h1 : 0 ≤ x3) (h2 : x3 ≤ 1) (h3 : (x3 = 0 ∨ (0 ≤ x2 ∧ x2 ≤ 4))) (h4 : ¬ x3 = 0) (h5 : x4 = x5) (h6 : 0 ≤ x6) (h7 : x6 ≤ 1) (h8 : (x6 = 0 ∨ (0 ≤ x4 ∧ x4 ≤ 4))) (h9 : ¬ x6 = 0) (h10 : ¬ x1 = x5) (h11 : x7 = 36) (h12 : x8 = x7 + x1) (h13 : x9 = 36) (h14 : x10 = x9 + x5) (h15 : x0 = 46) (h16 : -2147483648 ≤ x0) (h17 : x0 ≤ 2147483647) (h18 : -2147483648 ≤ x1) (h19 : x1 ≤ 2147483647) (h20 : -2147483648 ≤ x3) (h21 : x3 ≤ 2147483647) (h22 : -2147483648 ≤ x5) (h23 : x5 ≤ 2147483647) (h24 : -2147483648 ≤ x6) (h25 : x6 ≤ 2147483647) (h26 : -2147483648 ≤ x7) (h27 : x7 ≤ 2147483647) (h28 : -2147483648 ≤ x8) (h29 : x8 ≤ 2147483647) (h30 : -2147483648 ≤ x9) (h31 : x9 ≤ 2147483647) (h32 : -2147483648 ≤ x10) (h33 : x10 ≤ 2147483647) : -2147483648 ≤ x0 + x1 := by omega
theorem o35_370 {x0 x1 x2 x3 x4 x5 x6 x7 x8 x9 x10 : Int} (h0 : x2 = x1) (h1 : 0 ≤ x3) (h2 : x3 ≤ 1) (h3 : (x3 = 0 ∨ (0 ≤ x2 ∧ x2 ≤ 4))) (h4 : ¬ x3 = 0) (h5 : x4 = x5) (h6 : 0 ≤ x6) (h7 : x6 ≤ 1) (h8 : (x6 = 0 ∨ (0 ≤ x4 ∧ x4 ≤ 4))) (h9 : ¬ x6 = 0) (h10 : ¬ x1 = x5) (h11 : x7 = 36) (h12 : x8 = x7 + x1) (h13 : x9 = 36) (h14 : x10 = x9 + x5) (h15 : x0 = 46) (h16 : -2147483648 ≤ x0) (h17 : x0 ≤ 2147483647) (h18 : -2147483648 ≤ x1) (h19 : x1 ≤ 2147483647) (h20 : -2147483648 ≤ x3) (h21 : x3 ≤ 2147483647) (h22 : -2147483648 ≤ x5) (h23 : x5 ≤ 2147483647) (h24 : -2147483648 ≤ x6) (h25 : x6 ≤ 2147483647) (h26 : -2147483648 ≤ x7) (h27 : x7 ≤ 2147483647) (h28 : -2147483648 ≤ x8) (h29 : x8 ≤ 2147483647) (h30 : -2147483648 ≤ x9) (h31 : x9 ≤ 2147483647) (h32 : -2147483648 ≤ x10) (h33 : x10 ≤ 2147483647) : x0 + x1 ≤ 2147483647 := by omega
theorem o35_371 {x0 x1 x2 x3 x4 x5 x6 x7 x8 x9 x10 x11 : Int} (h0 : x1 = x2) (h1 : 0 ≤ x3) (h2 : x3 ≤ 1) (h3 : (x3 = 0 ∨ (0 ≤ x1 ∧ x1 ≤ 4))) (h4 : ¬ x3 = 0) (h5 : x4 = x5) (h6 : 0 ≤ x6) (h7 : x6 ≤ 1) (h8 : (x6 = 0 ∨ (0 ≤ x4 ∧ x4 ≤ 4))) (h9 : ¬ x6 = 0) (h10 : ¬ x2 = x5) (h11 : x7 = 36) (h12 : x8 = x7 + x2) (h13 : x9 = 36) (h14 : x10 = x9 + x5) (h15 : x11 = 46) (h16 : x0 = x11 + x2) : 0 ≤ x0 := by omega
theorem o35_372 {x0 x1 x2 x3 x4 x5 x6 x7 x8 x9 x10 x11 : Int} (h0 : x1 = x2) (h1 : 0 ≤ x3) (h2 : x3 ≤ 1) (h3 : (x3 = 0 ∨ (0 ≤ x1 ∧ x1 ≤ 4))) (h4 : ¬ x3 = 0) (h5 : x4 = x5) (h6 : 0 ≤ x6) (h7 : x6 ≤ 1) (h8 : (x6 = 0 ∨ (0 ≤ x4 ∧ x4 ≤ 4))) (h9 : ¬ x6 = 0) (h10 : ¬ x2 = x5) (h11 : x7 = 36) (h12 : x8 = x7 + x2) (h13 : x9 = 36) (h14 : x10 = x9 + x5) (h15 : x11 = 46) (h16 : x0 = x11 + x2) : x0 < (5322 : Nat) := by omega
theorem o35_373 {x0 x1 x2 x3 x4 x5 x6 x7 x8 x9 x10 x11 : Int} (h0 : x1 = x2) (h1 : 0 ≤ x3) (h2 : x3 ≤ 1) (h3 : (x3 = 0 ∨ (0 ≤ x1 ∧ x1 ≤ 4))) (h4 : ¬ x3 = 0) (h5 : x4 = x5) (h6 : 0 ≤ x6) (h7 : x6 ≤ 1) (h8 : (x6 = 0 ∨ (0 ≤ x4 ∧ x4 ≤ 4))) (h9 : ¬ x6 = 0) (h10 : ¬ x2 = x5) (h11 : x7 = 36) (h12 : x8 = x7 + x2) (h13 : x9 = 36) (h14 : x10 = x9 + x5) (h15 : x11 = 46) (h16 : x0 = x11 + x2) : (x0).toNat < 51 := by omega
theorem o35_374 {x0 x1 x2 x3 x4 x5 x6 x7 x8 x9 x10 x11 : Int} (h0 : x1 = x2) (h1 : 0 ≤ x3) (h2 : x3 ≤ 1) (h3 : (x3 = 0 ∨ (0 ≤ x1 ∧ x1 ≤ 4))) (h4 : ¬ x3 = 0) (h5 : x4 = x5) (h6 : 0 ≤ x6) (h7 : x6 ≤ 1) (h8 : (x6 = 0 ∨ (0 ≤ x4 ∧ x4 ≤ 4))) (h9 : ¬ x6 = 0) (h10 : ¬ x2 = x5) (h11 : x7 = 36) (h12 : x8 = x7 + x2) (h13 : x9 = 36) (h14 : x10 = x9 + x5) (h15 : x11 = 46) (h16 : x0 = x11 + x2) : 46 ≤ (x0).toNat := by omega
theorem o35_375 {x0 x1 x2 x3 x4 x5 x6 x7 x8 x9 x10 x11 x12 : Int} (h0 : x2 = x3) (h1 : 0 ≤ x4) (h2 : x4 ≤ 1) (h3 : (x4 = 0 ∨ (0 ≤ x2 ∧ x2 ≤ 4))) (h4 : ¬ x4 = 0) (h5 : x5 = x1) (h6 : 0 ≤ x6) (h7 : x6 ≤ 1) (h8 : (x6 = 0 ∨ (0 ≤ x5 ∧ x5 ≤ 4))) (h9 : ¬ x6 = 0) (h10 : ¬ x3 = x1) (h11 : x7 = 36) (h12 : x8 = x7 + x3) (h13 : x9 = 36) (h14 : x10 = x9 + x1) (h15 : x11 = 46) (h16 : x12 = x11 + x3) (h17 : x0 = 46) (h18 : -2147483648 ≤ x0) (h19 : x0 ≤ 2147483647) (h20 : -2147483648 ≤ x1) (h21 : x1 ≤ 2147483647) (h22 : -2147483648 ≤ x3) (h23 : x3 ≤ 2147483647) (h24 : -2147483648 ≤ x4) (h25 : x4 ≤ 2147483647) (h26 : -2147483648 ≤ x6) (h27 : x6 ≤ 2147483647) (h28 : -2147483648 ≤ x7) (h29 : x7 ≤ 2147483647) (h30 : -2147483648 ≤ x8) (h31 : x8 ≤ 2147483647) (h32 : -2147483648 ≤ x9) (h33 : x9 ≤ 2147483647) (h34 : -2147483648 ≤ x10) (h35 : x10 ≤ 2147483647) (h36 : -2147483648 ≤ x11) (h37 : x11 ≤ 2147483647) (h38 : -2147483648 ≤ x12) (h39 : x12 ≤ 2147483647) : -2147483648 ≤ x0 + x1 := by omega
theorem o35_376 {x0 x1 x2 x3 x4 x5 x6 x7 x8 x9 x10 x11 x12 : Int} (h0 : x2 = x3) (h1 : 0 ≤ x4) (h2 : x4 ≤ 1) (h3 : (x4 = 0 ∨ (0 ≤ x2 ∧ x2 ≤ 4))) (h4 : ¬ x4 = 0) (h5 : x5 = x1) (h6 : 0 ≤ x6) (h7 : x6 ≤ 1) (h8 : (x6 = 0 ∨ (0 ≤ x5 ∧ x5 ≤ 4))) (h9 : ¬ x6 = 0) (h10 : ¬ x3 = x1) (h11 : x7 = 36) (h12 : x8 = x7 + x3) (h13 : x9 = 36) (h14 : x10 = x9 + x1) (h15 : x11 = 46) (h16 : x12 = x11 + x3) (h17 : x0 = 46) (h18 : -2147483648 ≤ x0) (h19 : x0 ≤ 2147483647) (h20 : -2147483648 ≤ x1) (h21 : x1 ≤ 2147483647) (h22 : -2147483648 ≤ x3) (h23 : x3 ≤ 2147483647) (h24 : -2147483648 ≤ x4) (h25 : x4 ≤ 2147483647) (h26 : -2147483648 ≤ x6) (h27 : x6 ≤ 2147483647) (h28 : -2147483648 ≤ x7) (h29 : x7 ≤ 2147483647) (h30 : -2147483648 ≤ x8) (h31 : x8 ≤ 2147483647) (h32 : -2147483648 ≤ x9) (h33 : x9 ≤ 2147483647) (h34 : -2147483648 ≤ x10) (h35 : x10 ≤ 2147483647) (h36 : -2147483648 ≤ x11) (h37 : x11 ≤ 2147483647) (h38 : -2147483648 ≤ x12) (h39 : x12 ≤ 2147483647) : x0 + x1 ≤ 2147483647 := by omega
theorem o35_377 {x0 x1 x2 x3 x4 x5 x6 x7 x8 x9 x10 x11 x12 x13 : Int} (h0 : x1 = x2) (h1 : 0 ≤ x3) (h2 : x3 ≤ 1) (h3 : (x3 = 0 ∨ (0 ≤ x1 ∧ x1 ≤ 4))) (h4 : ¬ x3 = 0) (h5 : x4 = x5) (h6 : 0 ≤ x6) (h7 : x6 ≤ 1) (h8 : (x6 = 0 ∨ (0 ≤ x4 ∧ x4 ≤ 4))) (h9 : ¬ x6 = 0) (h10 : ¬ x2 = x5) (h11 : x7 = 36) (h12 : x8 = x7 + x2) (h13 : x9 = 36) (h14 : x10 = x9 + x5) (h15 : x11 = 46) (h16 : x12 = x11 + x2) (h17 : x13 = 46) (h18 : x0 = x13 + x5) : 0 ≤ x0 := by omega
theorem o35_378 {x0 x1 x2 x3 x4 x5 x6 x7 x8 x9 x10 x11 x12 x13 : Int} (h0 : x1 = x2) (h1 : 0 ≤ x3) (h2 : x3 ≤ 1) (h3 : (x3 = 0 ∨ (0 ≤ x1 ∧ x1 ≤ 4))) (h4 : ¬ x3 = 0) (h5 : x4 = x5) (h6 : 0 ≤ x6) (h7 : x6 ≤ 1) (h8 : (x6 = 0 ∨ (0 ≤ x4 ∧ x4 ≤ 4))) (h9 : ¬ x6 = 0) (h10 : ¬ x2 = x5) (h11 : x7 = 36) (h12 : x8 = x7 + x2) (h13 : x9 = 36) (h14 : x10 = x9 + x5) (h15 : x11 = 46) (h16 : x12 = x11 + x2) (h17 : x13 = 46) (h18 : x0 = x13 + x5) : x0 < (5322 : Nat) := by omega
theorem o35_379 {x0 x1 x2 x3 x4 x5 x6 x7 x8 x9 x10 x11 x12 x13 : Int} (h0 : x1 = x2) (h1 : 0 ≤ x3) (h2 : x3 ≤ 1) (h3 : (x3 = 0 ∨ (0 ≤ x1 ∧ x1 ≤ 4))) (h4 : ¬ x3 = 0) (h5 : x4 = x5) (h6 : 0 ≤ x6) (h7 : x6 ≤ 1) (h8 : (x6 = 0 ∨ (0 ≤ x4 ∧ x4 ≤ 4))) (h9 : ¬ x6 = 0) (h10 : ¬ x2 = x5) (h11 : x7 = 36) (h12 : x8 = x7 + x2) (h13 : x9 = 36) (h14 : x10 = x9 + x5) (h15 : x11 = 46) (h16 : x12 = x11 + x2) (h17 : x13 = 46) (h18 : x0 = x13 + x5) : (x0).toNat < 51 := by omega
theorem o35_380 {x0 x1 x2 x3 x4 x5 x6 x7 x8 x9 x10 x11 x12 x13 : Int} (h0 : x1 = x2) (h1 : 0 ≤ x3) (h2 : x3 ≤ 1) (h3 : (x3 = 0 ∨ (0 ≤ x1 ∧ x1 ≤ 4))) (h4 : ¬ x3 = 0) (h5 : x4 = x5) (h6 : 0 ≤ x6) (h7 : x6 ≤ 1) (h8 : (x6 = 0 ∨ (0 ≤ x4 ∧ x4 ≤ 4))) (h9 : ¬ x6 = 0) (h10 : ¬ x2 = x5) (h11 : x7 = 36) (h12 : x8 = x7 + x2) (h13 : x9 = 36) (h14 : x10 = x9 + x5) (h15 : x11 = 46) (h16 : x12 = x11 + x2) (h17 : x13 = 46) (h18 : x0 = x13 + x5) : 46 ≤ (x0).toNat := by omega
theorem o35_381 {x0 x1 x2 x3 x4 x5 x6 : Int} (h0 : x2 = x1) (h1 : x3 = 1) (h2 : x4 = 99) (h3 : 0 ≤ x5) (h4 : x5 ≤ 1) (h5 : ((x5 = 0 ∧ (x2 < x3 ∨ x4 < x2)) ∨ (x5 = 1 ∧ x3 ≤ x2 ∧ x2 ≤ x4))) (h6 : ¬ x5 = 0) (h7 : 0 ≤ x6) (h8 : x6 ≤ 99) (h9 : x1 ≤ x6) (h10 : 0 ≤ x0) (h11 : x0 ≤ 99) (h12 : -2147483648 ≤ x0) (h13 : x0 ≤ 2147483647) (h14 : -2147483648 ≤ x1) (h15 : x1 ≤ 2147483647) (h16 : -2147483648 ≤ x5) (h17 : x5 ≤ 2147483647) (h18 : -2147483648 ≤ x6) (h19 : x6 ≤ 2147483647) : -2147483648 ≤ x0 + x1 := by omega
theorem o35_382 {x0 x1 x2 x3 x4 x5 x6 : Int} (h0 : x2 = x1) (h1 : x3 = 1) (h2 : x4 = 99) (h3 : 0 ≤ x5) (h4 : x5 ≤ 1) (h5 : ((x5 = 0 ∧ (x2 < x3 ∨ x4 < x2)) ∨ (x5 = 1 ∧ x3 ≤ x2 ∧ x2 ≤ x4))) (h6 : ¬ x5 = 0) (h7 : 0 ≤ x6) (h8 : x6 ≤ 99) (h9 : x1 ≤ x6) (h10 : 0 ≤ x0) (h11 : x0 ≤ 99) (h12 : -2147483648 ≤ x0) (h13 : x0 ≤ 2147483647) (h14 : -2147483648 ≤ x1) (h15 : x1 ≤ 2147483647) (h16 : -2147483648 ≤ x5) (h17 : x5 ≤ 2147483647) (h18 : -2147483648 ≤ x6) (h19 : x6 ≤ 2147483647) : x0 + x1 ≤ 2147483647 := by omega
theorem o35_383 {x0 x1 x2 x3 x4 x5 x6 x7 x8 : Int} (h0 : x1 = x2) (h1 : x3 = 1) (h2 : x4 = 99) (h3 : 0 ≤ x5) (h4 : x5 ≤ 1) (h5 : ((x5 = 0 ∧ (x1 < x3 ∨ x4 < x1)) ∨ (x5 = 1 ∧ x3 ≤ x1 ∧ x1 ≤ x4))) (h6 : ¬ x5 = 0) (h7 : 0 ≤ x6) (h8 : x6 ≤ 99) (h9 : x2 ≤ x6) (h10 : 0 ≤ x7) (h11 : x7 ≤ 99) (h12 : x0 = x7 + x2) (h13 : x8 = 99) (h14 : x0 ≤ x8) : ¬ 99 < x0 := by omega
theorem o35_384 {x0 x1 x2 x3 x4 x5 x6 x7 x8 : Int} (h0 : x1 = x2) (h1 : x3 = 1) (h2 : x4 = 99) (h3 : 0 ≤ x5) (h4 : x5 ≤ 1) (h5 : ((x5 = 0 ∧ (x1 < x3 ∨ x4 < x1)) ∨ (x5 = 1 ∧ x3 ≤ x1 ∧ x1 ≤ x4))) (h6 : ¬ x5 = 0) (h7 : 0 ≤ x6) (h8 : x6 ≤ 99) (h9 : x2 ≤ x6) (h10 : 0 ≤ x7) (h11 : x7 ≤ 99) (h12 : x0 = x7 + x2) (h13 : x8 = 99) (h14 : x8 < x0) : 99 < x0 := by omega
theorem o35_385 {x0 x1 x2 x3 x4 x5 x6 x7 x8 x9 x10 x11 x12 x13 x14 : Int} (h0 : x2 = x1) (h1 : 0 ≤ x3) (h2 : x3 ≤ 1) (h3 : (x3 = 0 ∨ (0 ≤ x2 ∧ x2 ≤ 4))) (h4 : ¬ x3 = 0) (h5 : x4 = x5) (h6 : 0 ≤ x6) (h7 : x6 ≤ 1) (h8 : (x6 = 0 ∨ (0 ≤ x4 ∧ x4 ≤ 4))) (h9 : ¬ x6 = 0) (h10 : ¬ x1 = x5) (h11 : x7 = 36) (h12 : x8 = x7 + x1) (h13 : x9 = 36) (h14 : x10 = x9 + x5) (h15 : x11 = 46) (h16 : x12 = x11 + x1) (h17 : x13 = 46) (h18 : x14 = x13 + x5) (h19 : x0 = 46) (h20 : -2147483648 ≤ x0) (h21 : x0 ≤ 2147483647) (h22 : -2147483648 ≤ x1) (h23 : x1 ≤ 2147483647) (h24 : -2147483648 ≤ x3) (h25 : x3 ≤ 2147483647) (h26 : -2147483648 ≤ x5) (h27 : x5 ≤ 2147483647) (h28 : -2147483648 ≤ x6) (h29 : x6 ≤ 2147483647) (h30 : -2147483648 ≤ x7) (h31 : x7 ≤ 2147483647) (h32 : -2147483648 ≤ x8) (h33 : x8 ≤ 2147483647) (h34 : -2147483648 ≤ x9) (h35 : x9 ≤ 2147483647) (h36 : -2147483648 ≤ x10) (h37 : x10 ≤ 2147483647) (h38 : -2147483648 ≤ x11) (h39 : x11 ≤ 2147483647) (h40 : -2147483648 ≤ x12) (h41 : x12 ≤ 2147483647) (h42 : -2147483648 ≤ x13) (h43 : x13 ≤ 2147483647) (h44 : -2147483648 ≤ x14) (h45 : x14 ≤ 2147483647) : -2147483648 ≤ x0 + x1 := by omega
theorem o35_386 {x0 x1 x2 x3 x4 x5 x6 x7 x8 x9 x10 x11 x12 x13 x14 : Int} (h0 : x2 = x1) (h1 : 0 ≤ x3) (h2 : x3 ≤ 1) (h3 : (x3 = 0 ∨ (0 ≤ x2 ∧ x2 ≤ 4))) (h4 : ¬ x3 = 0) (h5 : x4 = x5) (h6 : 0 ≤ x6) (h7 : x6 ≤ 1) (h8 : (x6 = 0 ∨ (0 ≤ x4 ∧ x4 ≤ 4))) (h9 : ¬ x6 = 0) (h10 : ¬ x1 = x5) (h11 : x7 = 36) (h12 : x8 = x7 + x1) (h13 : x9 = 36) (h14 : x10 = x9 + x5) (h15 : x11 = 46) (h16 : x12 = x11 + x1) (h17 : x13 = 46) (h18 : x14 = x13 + x5) (h19 : x0 = 46) (h20 : -2147483648 ≤ x0) (h21 : x0 ≤ 2147483647) (h22 : -2147483648 ≤ x1) (h23 : x1 ≤ 2147483647) (h24 : -2147483648 ≤ x3) (h25 : x3 ≤ 2147483647) (h26 : -2147483648 ≤ x5) (h27 : x5 ≤ 2147483647) (h28 : -2147483648 ≤ x6) (h29 : x6 ≤ 2147483647) (h30 : -2147483648 ≤ x7) (h31 : x7 ≤ 2147483647) (h32 : -2147483648 ≤ x8) (h33 : x8 ≤ 2147483647) (h34 : -2147483648 ≤ x9) (h35 : x9 ≤ 2147483647) (h36 : -2147483648 ≤ x10) (h37 : x10 ≤ 2147483647) (h38 : -2147483648 ≤ x11) (h39 : x11 ≤ 2147483647) (h40 : -2147483648 ≤ x12) (h41 : x12 ≤ 2147483647) (h42 : -2147483648 ≤ x13) (h43 : x13 ≤ 2147483647) (h44 : -2147483648 ≤ x14) (h45 : x14 ≤ 2147483647) : x0 + x1 ≤ 2147483647 := by omega
theorem o35_387 {x0 x1 x2 x3 x4 x5 x6 x7 x8 x9 x10 x11 x12 x13 x14 x15 : Int} (h0 : x1 = x2) (h1 : 0 ≤ x3) (h2 : x3 ≤ 1) (h3 : (x3 = 0 ∨ (0 ≤ x1 ∧ x1 ≤ 4))) (h4 : ¬ x3 = 0) (h5 : x4 = x5) (h6 : 0 ≤ x6) (h7 : x6 ≤ 1) (h8 : (x6 = 0 ∨ (0 ≤ x4 ∧ x4 ≤ 4))) (h9 : ¬ x6 = 0) (h10 : ¬ x2 = x5) (h11 : x7 = 36) (h12 : x8 = x7 + x2) (h13 : x9 = 36) (h14 : x10 = x9 + x5) (h15 : x11 = 46) (h16 : x12 = x11 + x2) (h17 : x13 = 46) (h18 : x14 = x13 + x5) (h19 : x15 = 46) (h20 : x0 = x15 + x2) : 0 ≤ x0 := by omega
theorem o35_388 {x0 x1 x2 x3 x4 x5 x6 x7 x8 x9 x10 x11 x12 x13 x14 x15 : Int} (h0 : x1 = x2) (h1 : 0 ≤ x3) (h2 : x3 ≤ 1) (h3 : (x3 = 0 ∨ (0 ≤ x1 ∧ x1 ≤ 4))) (h4 : ¬ x3 = 0) (h5 : x4 = x5) (h6 : 0 ≤ x6) (h7 : x6 ≤ 1) (h8 : (x6 = 0 ∨ (0 ≤ x4 ∧ x4 ≤ 4))) (h9 : ¬ x6 = 0) (h10 : ¬ x2 = x5) (h11 : x7 = 36) (h12 : x8 = x7 + x2) (h13 : x9 = 36) (h14 : x10 = x9 + x5) (h15 : x11 = 46) (h16 : x12 = x11 + x2) (h17 : x13 = 46) (h18 : x14 = x13 + x5) (h19 : x15 = 46) (h20 : x0 = x15 + x2) : x0 < (5322 : Nat) := by omega
theorem o35_389 {x0 x1 x2 x3 x4 x5 x6 x7 x8 x9 x10 x11 x12 x13 x14 x15 : Int} (h0 : x1 = x2) (h1 : 0 ≤ x3) (h2 : x3 ≤ 1) (h3 : (x3 = 0 ∨ (0 ≤ x1 ∧ x1 ≤ 4))) (h4 : ¬ x3 = 0) (h5 : x4 = x5) (h6 : 0 ≤ x6) (h7 : x6 ≤ 1) (h8 : (x6 = 0 ∨ (0 ≤ x4 ∧ x4 ≤ 4))) (h9 : ¬ x6 = 0) (h10 : ¬ x2 = x5) (h11 : x7 = 36) (h12 : x8 = x7 + x2) (h13 : x9 = 36) (h14 : x10 = x9 + x5) (h15 : x11 = 46) (h16 : x12 = x11 + x2) (h17 : x13 = 46) (h18 : x14 = x13 + x5) (h19 : x15 = 46) (h20 : x0 = x15 + x2) : (x0).toNat < 51 := by omega
theorem o35_390 {x0 x1 x2 x3 x4 x5 x6 x7 x8 x9 x10 x11 x12 x13 x14 x15 : Int} (h0 : x1 = x2) (h1 : 0 ≤ x3) (h2 : x3 ≤ 1) (h3 : (x3 = 0 ∨ (0 ≤ x1 ∧ x1 ≤ 4))) (h4 : ¬ x3 = 0) (h5 : x4 = x5) (h6 : 0 ≤ x6) (h7 : x6 ≤ 1) (h8 : (x6 = 0 ∨ (0 ≤ x4 ∧ x4 ≤ 4))) (h9 : ¬ x6 = 0) (h10 : ¬ x2 = x5) (h11 : x7 = 36) (h12 : x8 = x7 + x2) (h13 : x9 = 36) (h14 : x10 = x9 + x5) (h15 : x11 = 46) (h16 : x12 = x11 + x2) (h17 : x13 = 46) (h18 : x14 = x13 + x5) (h19 : x15 = 46) (h20 : x0 = x15 + x2) : 46 ≤ (x0).toNat := by omega
theorem o35_391 {x0 x1 x2 x3 x4 x5 x6 x7 x8 x9 x10 x11 x12 x13 x14 x15 : Int} (h0 : x2 = x3) (h1 : 0 ≤ x4) (h2 : x4 ≤ 1) (h3 : (x4 = 0 ∨ (0 ≤ x2 ∧ x2 ≤ 4))) (h4 : ¬ x4 = 0) (h5 : x5 = x6) (h6 : 0 ≤ x7) (h7 : x7 ≤ 1) (h8 : (x7 = 0 ∨ (0 ≤ x5 ∧ x5 ≤ 4))) (h9 : ¬ x7 = 0) (h10 : ¬ x3 = x6) (h11 : x8 = 36) (h12 : x9 = x8 + x3) (h13 : x10 = 36) (h14 : x11 = x10 + x6) (h15 : x12 = 46) (h16 : x1 = x12 + x3) (h17 : x13 = 46) (h18 : x14 = x13 + x6) (h19 : x15 = 46) (h20 : x0 = x15 + x3) : (x0).toNat = (x1).toNat := by omega
theorem o35_392 {x0 x1 x2 x3 x4 x5 x6 x7 x8 x9 : Int} (h0 : x2 = x1) (h1 : x3 = 1) (h2 : x4 = 99) (h3 : 0 ≤ x5) (h4 : x5 ≤ 1) (h5 : ((x5 = 0 ∧ (x2 < x3 ∨ x4 < x2)) ∨ (x5 = 1 ∧ x3 ≤ x2 ∧ x2 ≤ x4))) (h6 : ¬ x5 = 0) (h7 : 0 ≤ x6) (h8 : x6 ≤ 99) (h9 : x1 ≤ x6) (h10 : 0 ≤ x7) (h11 : x7 ≤ 99) (h12 : x8 = x7 + x1) (h13 : x9 = 99) (h14 : x8 ≤ x9) (h15 : 0 ≤ x0) (h16 : x0 ≤ 99) (h17 : x0 = x6) (h18 : -2147483648 ≤ x0) (h19 : x0 ≤ 2147483647) (h20 : -2147483648 ≤ x1) (h21 : x1 ≤ 2147483647) (h22 : -2147483648 ≤ x5) (h23 : x5 ≤ 2147483647) (h24 : -2147483648 ≤ x6) (h25 : x6 ≤ 2147483647) (h26 : -2147483648 ≤ x7) (h27 : x7 ≤ 2147483647) (h28 : -2147483648 ≤ x8) (h29 : x8 ≤ 2147483647) (h30 : -2147483648 ≤ x9) (h31 : x9 ≤ 2147483647) : -2147483648 ≤ x0 - x1 := by omega
theorem o35_393 {x0 x1 x2 x3 x4 x5 x6 x7 x8 x9 : Int} (h0 : x2 = x1) (h1 : x3 = 1) (h2 : x4 = 99) (h3 : 0 ≤ x5) (h4 : x5 ≤ 1) (h5 : ((x5 = 0 ∧ (x2 < x3 ∨ x4 < x2)) ∨ (x5 = 1 ∧ x3 ≤ x2 ∧ x2 ≤ x4))) (h6 : ¬ x5 = 0) (h7 : 0 ≤ x6) (h8 : x6 ≤ 99) (h9 : x1 ≤ x6) (h10 : 0 ≤ x7) (h11 : x7 ≤ 99) (h12 : x8 = x7 + x1) (h13 : x9 = 99) (h14 : x8 ≤ x9) (h15 : 0 ≤ x0) (h16 : x0 ≤ 99) (h17 : x0 = x6) (h18 : -2147483648 ≤ x0) (h19 : x0 ≤ 2147483647) (h20 : -2147483648 ≤ x1) (h21 : x1 ≤ 2147483647) (h22 : -2147483648 ≤ x5) (h23 : x5 ≤ 2147483647) (h24 : -2147483648 ≤ x6) (h25 : x6 ≤ 2147483647) (h26 : -2147483648 ≤ x7) (h27 : x7 ≤ 2147483647) (h28 : -2147483648 ≤ x8) (h29 : x8 ≤ 2147483647) (h30 : -2147483648 ≤ x9) (h31 : x9 ≤ 2147483647) : x0 - x1 ≤ 2147483647 := by omega
theorem o35_394 {x0 x1 x2 x3 x4 x5 x6 x7 x8 x9 x10 : Int} (h0 : x1 = x2) (h1 : x3 = 1) (h2 : x4 = 99) (h3 : 0 ≤ x5) (h4 : x5 ≤ 1) (h5 : ((x5 = 0 ∧ (x1 < x3 ∨ x4 < x1)) ∨ (x5 = 1 ∧ x3 ≤ x1 ∧ x1 ≤ x4))) (h6 : ¬ x5 = 0) (h7 : 0 ≤ x6) (h8 : x6 ≤ 99) (h9 : x2 ≤ x6) (h10 : 0 ≤ x7) (h11 : x7 ≤ 99) (h12 : x8 = x7 + x2) (h13 : x9 = 99) (h14 : x8 ≤ x9) (h15 : 0 ≤ x10) (h16 : x10 ≤ 99) (h17 : x10 = x6) (h18 : x0 = x10 - x2) : 0 ≤ x0 := by omega
theorem o35_395 {x0 x1 x2 x3 x4 x5 x6 x7 x8 x9 x10 : Int} (h0 : x1 = x2) (h1 : x3 = 1) (h2 : x4 = 99) (h3 : 0 ≤ x5) (h4 : x5 ≤ 1) (h5 : ((x5 = 0 ∧ (x1 < x3 ∨ x4 < x1)) ∨ (x5 = 1 ∧ x3 ≤ x1 ∧ x1 ≤ x4))) (h6 : ¬ x5 = 0) (h7 : 0 ≤ x6) (h8 : x6 ≤ 99) (h9 : x2 ≤ x6) (h10 : 0 ≤ x7) (h11 : x7 ≤ 99) (h12 : x8 = x7 + x2) (h13 : x9 = 99) (h14 : x8 ≤ x9) (h15 : 0 ≤ x10) (h16 : x10 ≤ 99) (h17 : x10 = x6) (h18 : x0 = x10 - x2) : x0 ≤ 99 := by omega
theorem o35_396 {x0 x1 x2 x3 x4 x5 x6 x7 x8 x9 x10 x11 x12 x13 x14 x15 : Int} (h0 : x1 = x2) (h1 : 0 ≤ x3) (h2 : x3 ≤ 1) (h3 : (x3 = 0 ∨ (0 ≤ x1 ∧ x1 ≤ 4))) (h4 : ¬ x3 = 0) (h5 : x4 = x5) (h6 : 0 ≤ x6) (h7 : x6 ≤ 1) (h8 : (x6 = 0 ∨ (0 ≤ x4 ∧ x4 ≤ 4))) (h9 : ¬ x6 = 0) (h10 : ¬ x2 = x5) (h11 : x7 = 36) (h12 : x8 = x7 + x2) (h13 : x9 = 36) (h14 : x10 = x9 + x5) (h15 : x11 = 46) (h16 : x12 = x11 + x2) (h17 : x13 = 46) (h18 : x14 = x13 + x5) (h19 : x15 = 46) (h20 : x0 = x15 + x2) : (36 ≤ x0 ∨ x0 = 10) := by omega
theorem o35_397 {x0 x1 x2 x3 x4 x5 x6 x7 x8 x9 x10 x11 x12 x13 x14 x15 : Int} (h0 : x1 = x2) (h1 : 0 ≤ x3) (h2 : x3 ≤ 1) (h3 : (x3 = 0 ∨ (0 ≤ x1 ∧ x1 ≤ 4))) (h4 : ¬ x3 = 0) (h5 : x4 = x5) (h6 : 0 ≤ x6) (h7 : x6 ≤ 1) (h8 : (x6 = 0 ∨ (0 ≤ x4 ∧ x4 ≤ 4))) (h9 : ¬ x6 = 0) (h10 : ¬ x2 = x5) (h11 : x7 = 36) (h12 : x8 = x7 + x2) (h13 : x9 = 36) (h14 : x10 = x9 + x5) (h15 : x11 = 46) (h16 : x12 = x11 + x2) (h17 : x13 = 46) (h18 : x14 = x13 + x5) (h19 : x15 = 46) (h20 : x0 = x15 + x2) : 10 ≤ x0 := by omega
theorem o35_398 {x0 x1 x2 x3 x4 x5 x6 x7 x8 x9 x10 x11 x12 x13 x14 x15 : Int} (h0 : x1 = x2) (h1 : 0 ≤ x3) (h2 : x3 ≤ 1) (h3 : (x3 = 0 ∨ (0 ≤ x1 ∧ x1 ≤ 4))) (h4 : ¬ x3 = 0) (h5 : x4 = x5) (h6 : 0 ≤ x6) (h7 : x6 ≤ 1) (h8 : (x6 = 0 ∨ (0 ≤ x4 ∧ x4 ≤ 4))) (h9 : ¬ x6 = 0) (h10 : ¬ x2 = x5) (h11 : x7 = 36) (h12 : x8 = x7 + x2) (h13 : x9 = 36) (h14 : x10 = x9 + x5) (h15 : x11 = 46) (h16 : x12 = x11 + x2) (h17 : x13 = 46) (h18 : x14 = x13 + x5) (h19 : x15 = 46) (h20 : x0 = x15 + x2) : x0 ≤ 872 := by omega
theorem o35_399 {x0 x1 x2 x3 x4 x5 x6 x7 x8 x9 x10 x11 x12 x13 x14 x15 x16 : Int} (h0 : x2 = x3) (h1 : 0 ≤ x4) (h2 : x4 ≤ 1) (h3 : (x4 = 0 ∨ (0 ≤ x2 ∧ x2 ≤ 4))) (h4 : ¬ x4 = 0) (h5 : x5 = x1) (h6 : 0 ≤ x6) (h7 : x6 ≤ 1) (h8 : (x6 = 0 ∨ (0 ≤ x5 ∧ x5 ≤ 4))) (h9 : ¬ x6 = 0) (h10 : ¬ x3 = x1) (h11 : x7 = 36) (h12 : x8 = x7 + x3) (h13 : x9 = 36) (h14 : x10 = x9 + x1) (h15 : x11 = 46) (h16 : x12 = x11 + x3) (h17 : x13 = 46) (h18 : x14 = x13 + x1) (h19 : x15 = 46) (h20 : x16 = x15 + x3) (h21 : x0 = 46) (h22 : -2147483648 ≤ x0) (h23 : x0 ≤ 2147483647) (h24 : -2147483648 ≤ x1) (h25 : x1 ≤ 2147483647) (h26 : -2147483648 ≤ x3) (h27 : x3 ≤ 2147483647) (h28 : -2147483648 ≤ x4) (h29 : x4 ≤ 2147483647) (h30 : -2147483648 ≤ x6) (h31 : x6 ≤ 2147483647) (h32 : -2147483648 ≤ x7) (h33 : x7 ≤ 2147483647) (h34 : -2147483648 ≤ x8) (h35 : x8 ≤ 2147483647) (h36 : -2147483648 ≤ x9) (h37 : x9 ≤ 2147483647) (h38 : -2147483648 ≤ x10) (h39 : x10 ≤ 2147483647) (h40 : -2147483648 ≤ x11) (h41 : x11 ≤ 2147483647) (h42 : -2147483648 ≤ x12) (h43 : x12 ≤ 2147483647) (h44 : -2147483648 ≤ x13) (h45 : x13 ≤ 2147483647) (h46 : -2147483648 ≤ x14) (h47 : x14 ≤ 2147483647) (h48 : -2147483648 ≤ x15) (h49 : x15 ≤ 2147483647) (h50 : -2147483648 ≤ x16) (h51 : x16 ≤ 2147483647) : -2147483648 ≤ x0 + x1 := by omega
theorem o35_400 {x0 x1 x2 x3 x4 x5 x6 x7 x8 x9 x10 x11 x12 x13 x14 x15 x16 : Int} (h0 : x2 = x3) (h1 : 0 ≤ x4) (h2 : x4 ≤ 1) (h3 : (x4 = 0 ∨ (0 ≤ x2 ∧ x2 ≤ 4))) (h4 : ¬ x4 = 0) (h5 : x5 = x1) (h6 : 0 ≤ x6) (h7 : x6 ≤ 1) (h8 : (x6 = 0 ∨ (0 ≤ x5 ∧ x5 ≤ 4))) (h9 : ¬ x6 = 0) (h10 : ¬ x3 = x1) (h11 : x7 = 36) (h12 : x8 = x7 + x3) (h13 : x9 = 36) (h14 : x10 = x9 + x1) (h15 : x11 = 46) (h16 : x12 = x11 + x3) (h17 : x13 = 46) (h18 : x14 = x13 + x1) (h19 : x15 = 46) (h20 : x16 = x15 + x3) (h21 : x0 = 46) (h22 : -2147483648 ≤ x0) (h23 : x0 ≤ 2147483647) (h24 : -2147483648 ≤ x1) (h25 : x1 ≤ 2147483647) (h26 : -2147483648 ≤ x3) (h27 : x3 ≤ 2147483647) (h28 : -2147483648 ≤ x4) (h29 : x4 ≤ 2147483647) (h30 : -2147483648 ≤ x6) (h31 : x6 ≤ 2147483647) (h32 : -2147483648 ≤ x7) (h33 : x7 ≤ 2147483647) (h34 : -2147483648 ≤ x8) (h35 : x8 ≤ 2147483647) (h36 : -2147483648 ≤ x9) (h37 : x9 ≤ 2147483647) (h38 : -2147483648 ≤ x10) (h39 : x10 ≤ 2147483647) (h40 : -2147483648 ≤ x11) (h41 : x11 ≤ 2147483647) (h42 : -2147483648 ≤ x12) (h43 : x12 ≤ 2147483647) (h44 : -2147483648 ≤ x13) (h45 : x13 ≤ 2147483647) (h46 : -2147483648 ≤ x14) (h47 : x14 ≤ 2147483647) (h48 : -2147483648 ≤ x15) (h49 : x15 ≤ 2147483647) (h50 : -2147483648 ≤ x16) (h51 : x16 ≤ 2147483647) : x0 + x1 ≤ 2147483647 := by omega
theorem o35_401 {x0 x1 x2 x3 x4 x5 x6 x7 x8 x9 x10 x11 x12 x13 x14 x15 x16 x17 : Int} (h0 : x1 = x2) (h1 : 0 ≤ x3) (h2 : x3 ≤ 1) (h3 : (x3 = 0 ∨ (0 ≤ x1 ∧ x1 ≤ 4))) (h4 : ¬ x3 = 0) (h5 : x4 = x5) (h6 : 0 ≤ x6) (h7 : x6 ≤ 1) (h8 : (x6 = 0 ∨ (0 ≤ x4 ∧ x4 ≤ 4))) (h9 : ¬ x6 = 0) (h10 : ¬ x2 = x5) (h11 : x7 = 36) (h12 : x8 = x7 + x2) (h13 : x9 = 36) (h14 : x10 = x9 + x5) (h15 : x11 = 46) (h16 : x12 = x11 + x2) (h17 : x13 = 46) (h18 : x14 = x13 + x5) (h19 : x15 = 46) (h20 : x16 = x15 + x2) (h21 : x17 = 46) (h22 : x0 = x17 + x5) : 0 ≤ x0 := by omega
theorem o35_402 {x0 x1 x2 x3 x4 x5 x6 x7 x8 x9 x10 x11 x12 x13 x14 x15 x16 x17 : Int} (h0 : x1 = x2) (h1 : 0 ≤ x3) (h2 : x3 ≤ 1) (h3 : (x3 = 0 ∨ (0 ≤ x1 ∧ x1 ≤ 4))) (h4 : ¬ x3 = 0) (h5 : x4 = x5) (h6 : 0 ≤ x6) (h7 : x6 ≤ 1) (h8 : (x6 = 0 ∨ (0 ≤ x4 ∧ x4 ≤ 4))) (h9 : ¬ x6 = 0) (h10 : ¬ x2 = x5) (h11 : x7 = 36) (h12 : x8 = x7 + x2) (h13 : x9 = 36) (h14 : x10 = x9 + x5) (h15 : x11 = 46) (h16 : x12 = x11 + x2) (h17 : x13 = 46) (h18 : x14 = x13 + x5) (h19 : x15 = 46) (h20 : x16 = x15 + x2) (h21 : x17 = 46) (h22 : x0 = x17 + x5) : x0 < (5322 : Nat) := by omega
theorem o35_403 {x0 x1 x2 x3 x4 x5 x6 x7 x8 x9 x10 x11 x12 x13 x14 x15 x16 x17 : Int} (h0 : x1 = x2) (h1 : 0 ≤ x3) (h2 : x3 ≤ 1) (h3 : (x3 = 0 ∨ (0 ≤ x1 ∧ x1 ≤ 4))) (h4 : ¬ x3 = 0) (h5 : x4 = x5) (h6 : 0 ≤ x6) (h7 : x6 ≤ 1) (h8 : (x6 = 0 ∨ (0 ≤ x4 ∧ x4 ≤ 4))) (h9 : ¬ x6 = 0) (h10 : ¬ x2 = x5) (h11 : x7 = 36) (h12 : x8 = x7 + x2) (h13 : x9 = 36) (h14 : x10 = x9 + x5) (h15 : x11 = 46) (h16 : x12 = x11 + x2) (h17 : x13 = 46) (h18 : x14 = x13 + x5) (h19 : x15 = 46) (h20 : x16 = x15 + x2) (h21 : x17 = 46) (h22 : x0 = x17 + x5) : (x0).toNat < 51 := by omega
theorem o35_404 {x0 x1 x2 x3 x4 x5 x6 x7 x8 x9 x10 x11 x12 x13 x14 x15 x16 x17 : Int} (h0 : x1 = x2) (h1 : 0 ≤ x3) (h2 : x3 ≤ 1) (h3 : (x3 = 0 ∨ (0 ≤ x1 ∧ x1 ≤ 4))) (h4 : ¬ x3 = 0) (h5 : x4 = x5) (h6 : 0 ≤ x6) (h7 : x6 ≤ 1) (h8 : (x6 = 0 ∨ (0 ≤ x4 ∧ x4 ≤ 4))) (h9 : ¬ x6 = 0) (h10 : ¬ x2 = x5) (h11 : x7 = 36) (h12 : x8 = x7 + x2) (h13 : x9 = 36) (h14 : x10 = x9 + x5) (h15 : x11 = 46) (h16 : x12 = x11 + x2) (h17 : x13 = 46) (h18 : x14 = x13 + x5) (h19 : x15 = 46) (h20 : x16 = x15 + x2) (h21 : x17 = 46) (h22 : x0 = x17 + x5) : 46 ≤ (x0).toNat := by omega
theorem o35_405 {x0 x1 x2 x3 x4 x5 x6 x7 x8 x9 x10 x11 x12 x13 x14 x15 x16 x17 : Int} (h0 : x2 = x3) (h1 : 0 ≤ x4) (h2 : x4 ≤ 1) (h3 : (x4 = 0 ∨ (0 ≤ x2 ∧ x2 ≤ 4))) (h4 : ¬ x4 = 0) (h5 : x5 = x6) (h6 : 0 ≤ x7) (h7 : x7 ≤ 1) (h8 : (x7 = 0 ∨ (0 ≤ x5 ∧ x5 ≤ 4))) (h9 : ¬ x7 = 0) (h10 : ¬ x3 = x6) (h11 : x8 = 36) (h12 : x9 = x8 + x3) (h13 : x10 = 36) (h14 : x11 = x10 + x6) (h15 : x12 = 46) (h16 : x13 = x12 + x3) (h17 : x14 = 46) (h18 : x0 = x14 + x6) (h19 : x15 = 46) (h20 : x1 = x15 + x3) (h21 : x16 = 46) (h22 : x17 = x16 + x6) : (x0).toNat ≠ (x1).toNat := by omega
theorem o35_406 {x0 x1 x2 x3 x4 x5 x6 x7 x8 x9 x10 x11 x12 x13 x14 x15 x16 x17 : Int} (h0 : x2 = x3) (h1 : 0 ≤ x4) (h2 : x4 ≤ 1) (h3 : (x4 = 0 ∨ (0 ≤ x2 ∧ x2 ≤ 4))) (h4 : ¬ x4 = 0) (h5 : x5 = x6) (h6 : 0 ≤ x7) (h7 : x7 ≤ 1) (h8 : (x7 = 0 ∨ (0 ≤ x5 ∧ x5 ≤ 4))) (h9 : ¬ x7 = 0) (h10 : ¬ x3 = x6) (h11 : x8 = 36) (h12 : x9 = x8 + x3) (h13 : x10 = 36) (h14 : x11 = x10 + x6) (h15 : x12 = 46) (h16 : x13 = x12 + x3) (h17 : x14 = 46) (h18 : x1 = x14 + x6) (h19 : x15 = 46) (h20 : x16 = x15 + x3) (h21 : x17 = 46) (h22 : x0 = x17 + x6) : (x0).toNat = (x1).toNat := by omega
theorem o35_407 {x0 x1 x2 x3 x4 x5 x6 x7 x8 x9 x10 x11 : Int} (h0 : x2 = x1) (h1 : x3 = 1) (h2 : x4 = 99) (h3 : 0 ≤ x5) (h4 : x5 ≤ 1) (h5 : ((x5 = 0 ∧ (x2 < x3 ∨ x4 < x2)) ∨ (x5 = 1 ∧ x3 ≤ x2 ∧ x2 ≤ x4))) (h6 : ¬ x5 = 0) (h7 : 0 ≤ x6) (h8 : x6 ≤ 99) (h9 : x1 ≤ x6) (h10 : 0 ≤ x7) (h11 : x7 ≤ 99) (h12 : x8 = x7 + x1) (h13 : x9 = 99) (h14 : x8 ≤ x9) (h15 : 0 ≤ x10) (h16 : x10 ≤ 99) (h17 : x10 = x6) (h18 : x11 = x10 - x1) (h19 : 0 ≤ x0) (h20 : x0 ≤ 99) (h21 : x0 = x7) (h22 : -2147483648 ≤ x0) (h23 : x0 ≤ 2147483647) (h24 : -2147483648 ≤ x1) (h25 : x1 ≤ 2147483647) (h26 : -2147483648 ≤ x5) (h27 : x5 ≤ 2147483647) (h28 : -2147483648 ≤ x6) (h29 : x6 ≤ 2147483647) (h30 : -2147483648 ≤ x7) (h31 : x7 ≤ 2147483647) (h32 : -2147483648 ≤ x8) (h33 : x8 ≤ 2147483647) (h34 : -2147483648 ≤ x9) (h35 : x9 ≤ 2147483647) (h36 : -2147483648 ≤ x10) (h37 : x10 ≤ 2147483647) (h38 : -2147483648 ≤ x11) (h39 : x11 ≤ 2147483647) : -2147483648 ≤ x0 + x1 := by omega
theorem o35_408 {x0 x1 x2 x3 x4 x5 x6 x7 x8 x9 x10 x11 : Int} (h0 : x2 = x1) (h1 : x3 = 1) (h2 : x4 = 99) (h3 : 0 ≤ x5) (h4 : x5 ≤ 1) (h5 : ((x5 = 0 ∧ (x2 < x3 ∨ x4 < x2)) ∨ (x5 = 1 ∧ x3 ≤ x2 ∧ x2 ≤ x4))) (h6 : ¬ x5 = 0) (h7 : 0 ≤ x6) (h8 : x6 ≤ 99) (h9 : x1 ≤ x6) (h10 : 0 ≤ x7) (h11 : x7 ≤ 99) (h12 : x8 = x7 + x1) (h13 : x9 = 99) (h14 : x8 ≤ x9) (h15 : 0 ≤ x10) (h16 : x10 ≤ 99) (h17 : x10 = x6) (h18 : x11 = x10 - x1) (h19 : 0 ≤ x0) (h20 : x0 ≤ 99) (h21 : x0 = x7) (h22 : -2147483648 ≤ x0) (h23 : x0 ≤ 2147483647) (h24 : -2147483648 ≤ x1) (h25 : x1 ≤ 2147483647) (h26 : -2147483648 ≤ x5) (h27 : x5 ≤ 2147483647) (h28 : -2147483648 ≤ x6) (h29 : x6 ≤ 2147483647) (h30 : -2147483648 ≤ x7) (h31 : x7 ≤ 2147483647) (h32 : -2147483648 ≤ x8) (h33 : x8 ≤ 2147483647) (h34 : -2147483648 ≤ x9) (h35 : x9 ≤ 2147483647) (h36 : -2147483648 ≤ x10) (h37 : x10 ≤ 2147483647) (h38 : -2147483648 ≤ x11) (h39 : x11 ≤ 2147483647) : x0 + x1 ≤ 2147483647 := by omega
theorem o35_409 {x0 x1 x2 x3 x4 x5 x6 x7 x8 x9 x10 x11 x12 : Int} (h0 : x1 = x2) (h1 : x3 = 1) (h2 : x4 = 99) (h3 : 0 ≤ x5) (h4 : x5 ≤ 1) (h5 : ((x5 = 0 ∧ (x1 < x3 ∨ x4 < x1)) ∨ (x5 = 1 ∧ x3 ≤ x1 ∧ x1 ≤ x4))) (h6 : ¬ x5 = 0) (h7 : 0 ≤ x6) (h8 : x6 ≤ 99) (h9 : x2 ≤ x6) (h10 : 0 ≤ x7) (h11 : x7 ≤ 99) (h12 : x8 = x7 + x2) (h13 : x9 = 99) (h14 : x8 ≤ x9) (h15 : 0 ≤ x10) (h16 : x10 ≤ 99) (h17 : x10 = x6) (h18 : x11 = x10 - x2) (h19 : 0 ≤ x12) (h20 : x12 ≤ 99) (h21 : x12 = x7) (h22 : x0 = x12 + x2) : 0 ≤ x0 := by omega
theorem o35_410 {x0 x1 x2 x3 x4 x5 x6 x7 x8 x9 x10 x11 x12 : Int} (h0 : x1 = x2) (h1 : x3 = 1) (h2 : x4 = 99) (h3 : 0 ≤ x5) (h4 : x5 ≤ 1) (h5 : ((x5 = 0 ∧ (x1 < x3 ∨ x4 < x1)) ∨ (x5 = 1 ∧ x3 ≤ x1 ∧ x1 ≤ x4))) (h6 : ¬ x5 = 0) (h7 : 0 ≤ x6) (h8 : x6 ≤ 99) (h9 : x2 ≤ x6) (h10 : 0 ≤ x7) (h11 : x7 ≤ 99) (h12 : x8 = x7 + x2) (h13 : x9 = 99) (h14 : x8 ≤ x9) (h15 : 0 ≤ x10) (h16 : x10 ≤ 99) (h17 : x10 = x6) (h18 : x11 = x10 - x2) (h19 : 0 ≤ x12) (h20 : x12 ≤ 99) (h21 : x12 = x7) (h22 : x0 = x12 + x2) : x0 ≤ 99 := by omega
theorem o35_411 {x0 x1 x2 x3 x4 x5 x6 x7 x8 x9 x10 x11 x12 x13 x14 x15 x16 x17 : Int} (h0 : x1 = x2) (h1 : 0 ≤ x3) (h2 : x3 ≤ 1) (h3 : (x3 = 0 ∨ (0 ≤ x1 ∧ x1 ≤ 4))) (h4 : ¬ x3 = 0) (h5 : x4 = x5) (h6 : 0 ≤ x6) (h7 : x6 ≤ 1) (h8 : (x6 = 0 ∨ (0 ≤ x4 ∧ x4 ≤ 4))) (h9 : ¬ x6 = 0) (h10 : ¬ x2 = x5) (h11 : x7 = 36) (h12 : x8 = x7 + x2) (h13 : x9 = 36) (h14 : x10 = x9 + x5) (h15 : x11 = 46) (h16 : x12 = x11 + x2) (h17 : x13 = 46) (h18 : x14 = x13 + x5) (h19 : x15 = 46) (h20 : x16 = x15 + x2) (h21 : x17 = 46) (h22 : x0 = x17 + x5) : (36 ≤ x0 ∨ x0 = 10) := by omega
theorem o35_412 {x0 x1 x2 x3 x4 x5 x6 x7 x8 x9 x10 x11 x12 x13 x14 x15 x16 x17 : Int} (h0 : x1 = x2) (h1 : 0 ≤ x3) (h2 : x3 ≤ 1) (h3 : (x3 = 0 ∨ (0 ≤ x1 ∧ x1 ≤ 4))) (h4 : ¬ x3 = 0) (h5 : x4 = x5) (h6 : 0 ≤ x6) (h7 : x6 ≤ 1) (h8 : (x6 = 0 ∨ (0 ≤ x4 ∧ x4 ≤ 4))) (h9 : ¬ x6 = 0) (h10 : ¬ x2 = x5) (h11 : x7 = 36) (h12 : x8 = x7 + x2) (h13 : x9 = 36) (h14 : x10 = x9 + x5) (h15 : x11 = 46) (h16 : x12 = x11 + x2) (h17 : x13 = 46) (h18 : x14 = x13 + x5) (h19 : x15 = 46) (h20 : x16 = x15 + x2) (h21 : x17 = 46) (h22 : x0 = x17 + x5) : 10 ≤ x0 := by omega
theorem o35_413 {x0 x1 x2 x3 x4 x5 x6 x7 x8 x9 x10 x11 x12 x13 x14 x15 x16 x17 : Int} (h0 : x1 = x2) (h1 : 0 ≤ x3) (h2 : x3 ≤ 1) (h3 : (x3 = 0 ∨ (0 ≤ x1 ∧ x1 ≤ 4))) (h4 : ¬ x3 = 0) (h5 : x4 = x5) (h6 : 0 ≤ x6) (h7 : x6 ≤ 1) (h8 : (x6 = 0 ∨ (0 ≤ x4 ∧ x4 ≤ 4))) (h9 : ¬ x6 = 0) (h10 : ¬ x2 = x5) (h11 : x7 = 36) (h12 : x8 = x7 + x2) (h13 : x9 = 36) (h14 : x10 = x9 + x5) (h15 : x11 = 46) (h16 : x12 = x11 + x2) (h17 : x13 = 46) (h18 : x14 = x13 + x5) (h19 : x15 = 46) (h20 : x16 = x15 + x2) (h21 : x17 = 46) (h22 : x0 = x17 + x5) : x0 ≤ 872 := by omega
theorem o35_414 {x0 x1 x2 x3 x4 x5 x6 x7 x8 x9 x10 x11 x12 x13 x14 x15 x16 x17 x18 : Int} (h0 : x2 = x3) (h1 : 0 ≤ x4) (h2 : x4 ≤ 1) (h3 : (x4 = 0 ∨ (0 ≤ x2 ∧ x2 ≤ 4))) (h4 : ¬ x4 = 0) (h5 : x5 = x1) (h6 : 0 ≤ x6) (h7 : x6 ≤ 1) (h8 : (x6 = 0 ∨ (0 ≤ x5 ∧ x5 ≤ 4))) (h9 : ¬ x6 = 0) (h10 : ¬ x3 = x1) (h11 : x7 = 36) (h12 : x8 = x7 + x3) (h13 : x9 = 36) (h14 : x10 = x9 + x1) (h15 : x11 = 46) (h16 : x12 = x11 + x3) (h17 : x13 = 46) (h18 : x14 = x13 + x1) (h19 : x15 = 46) (h20 : x16 = x15 + x3) (h21 : x17 = 46) (h22 : x18 = x17 + x1) (h23 : x0 = 46) (h24 : -2147483648 ≤ x0) (h25 : x0 ≤ 2147483647) (h26 : -2147483648 ≤ x1) (h27 : x1 ≤ 2147483647) (h28 : -2147483648 ≤ x3) (h29 : x3 ≤ 2147483647) (h30 : -2147483648 ≤ x4) (h31 : x4 ≤ 2147483647) (h32 : -2147483648 ≤ x6) (h33 : x6 ≤ 2147483647) (h34 : -2147483648 ≤ x7) (h35 : x7 ≤ 2147483647) (h36 : -2147483648 ≤ x8) (h37 : x8 ≤ 2147483647) (h38 : -2147483648 ≤ x9) (h39 : x9 ≤ 2147483647) (h40 : -2147483648 ≤ x10) (h41 : x10 ≤ 2147483647) (h42 : -2147483648 ≤ x11) (h43 : x11 ≤ 2147483647) (h44 : -2147483648 ≤ x12) (h45 : x12 ≤ 2147483647) (h46 : -2147483648 ≤ x13) (h47 : x13 ≤ 2147483647) (h48 : -2147483648 ≤ x14) (h49 : x14 ≤ 2147483647) (h50 : -2147483648 ≤ x15) (h51 : x15 ≤ 2147483647) (h52 : -2147483648 ≤ x16) (h53 : x16 ≤ 2147483647) (h54 : -2147483648 ≤ x17) (h55 : x17 ≤ 2147483647) (h56 : -2147483648 ≤ x18) (h57 : x18 ≤ 2147483647) : -2147483648 ≤ x0 + x1 := by omega
theorem o35_415 {x0 x1 x2 x3 x4 x5 x6 x7 x8 x9 x10 x11 x12 x13 x14 x15 x16 x17 x18 : Int} (h0 : x2 = x3) (h1 : 0 ≤ x4) (h2 : x4 ≤ 1) (h3 : (x4 = 0 ∨ (0 ≤ x2 ∧ x2 ≤ 4))) (h4 : ¬ x4 = 0) (h5 : x5 = x1) (h6 : 0 ≤ x6) (h7 : x6 ≤ 1) (h8 : (x6 = 0 ∨ (0 ≤ x5 ∧ x5 ≤ 4))) (h9 : ¬ x6 = 0) (h10 : ¬ x3 = x1) (h11 : x7 = 36) (h12 : x8 = x7 + x3) (h13 : x9 = 36) (h14 : x10 = x9 + x1) (h15 : x11 = 46) (h16 : x12 = x11 + x3) (h17 : x13 = 46) (h18 : x14 = x13 + x1) (h19 : x15 = 46) (h20 : x16 = x15 + x3) (h21 : x17 = 46) (h22 : x18 = x17 + x1) (h23 : x0 = 46) (h24 : -2147483648 ≤ x0) (h25 : x0 ≤ 2147483647) (h26 : -2147483648 ≤ x1) (h27 : x1 ≤ 2147483647) (h28 : -2147483648 ≤ x3) (h29 : x3 ≤ 2147483647) (h30 : -2147483648 ≤ x4) (h31 : x4 ≤ 2147483647) (h32 : -2147483648 ≤ x6) (h33 : x6 ≤ 2147483647) (h34 : -2147483648 ≤ x7) (h35 : x7 ≤ 2147483647) (h36 : -2147483648 ≤ x8) (h37 : x8 ≤ 2147483647) (h38 : -2147483648 ≤ x9) (h39 : x9 ≤ 2147483647) (h40 : -2147483648 ≤ x10) (h41 : x10 ≤ 2147483647) (h42 : -2147483648 ≤ x11) (h43 : x11 ≤ 2147483647) (h44 : -2147483648 ≤ x12) (h45 : x12 ≤ 2147483647) (h46 : -2147483648 ≤ x13) (h47 : x13 ≤ 2147483647) (h48 : -2147483648 ≤ x14) (h49 : x14 ≤ 2147483647) (h50 : -2147483648 ≤ x15) (h51 : x15 ≤ 2147483647) (h52 : -2147483648 ≤ x16) (h53 : x16 ≤ 2147483647) (h54 : -2147483648 ≤ x17) (h55 : x17 ≤ 2147483647) (h56 : -2147483648 ≤ x18) (h57 : x18 ≤ 2147483647) : x0 + x1 ≤ 2147483647 := by omega
theorem o35_416 {x0 x1 x2 x3 x4 x5 x6 x7 x8 x9 x10 x11 x12 x13 x14 x15 x16 x17 x18 x19 : Int} (h0 : x1 = x2) (h1 : 0 ≤ x3) (h2 : x3 ≤ 1) (h3 : (x3 = 0 ∨ (0 ≤ x1 ∧ x1 ≤ 4))) (h4 : ¬ x3 = 0) (h5 : x4 = x5) (h6 : 0 ≤ x6) (h7 : x6 ≤ 1) (h8 : (x6 = 0 ∨ (0 ≤ x4 ∧ x4 ≤ 4))) (h9 : ¬ x6 = 0) (h10 : ¬ x2 = x5) (h11 : x7 = 36) (h12 : x8 = x7 + x2) (h13 : x9 = 36) (h14 : x10 = x9 + x5) (h15 : x11 = 46) (h16 : x12 = x11 + x2) (h17 : x13 = 46) (h18 : x14 = x13 + x5) (h19 : x15 = 46) (h20 : x16 = x15 + x2) (h21 : x17 = 46) (h22 : x18 = x17 + x5) (h23 : x19 = 46) (h24 : x0 = x19 + x5) : 0 ≤ x0 := by omega
theorem o35_417 {x0 x1 x2 x3 x4 x5 x6 x7 x8 x9 x10 x11 x12 x13 x14 x15 x16 x17 x18 x19 : Int} (h0 : x1 = x2) (h1 : 0 ≤ x3) (h2 : x3 ≤ 1) (h3 : (x3 = 0 ∨ (0 ≤ x1 ∧ x1 ≤ 4))) (h4 : ¬ x3 = 0) (h5 : x4 = x5) (h6 : 0 ≤ x6) (h7 : x6 ≤ 1) (h8 : (x6 = 0 ∨ (0 ≤ x4 ∧ x4 ≤ 4))) (h9 : ¬ x6 = 0) (h10 : ¬ x2 = x5) (h11 : x7 = 36) (h12 : x8 = x7 + x2) (h13 : x9 = 36) (h14 : x10 = x9 + x5) (h15 : x11 = 46) (h16 : x12 = x11 + x2) (h17 : x13 = 46) (h18 : x14 = x13 + x5) (h19 : x15 = 46) (h20 : x16 = x15 + x2) (h21 : x17 = 46) (h22 : x18 = x17 + x5) (h23 : x19 = 46) (h24 : x0 = x19 + x5) : x0 < (5322 : Nat) := by omega
theorem o35_418 {x0 x1 x2 x3 x4 x5 x6 x7 x8 x9 x10 x11 x12 x13 x14 x15 x16 x17 x18 x19 : Int} (h0 : x1 = x2) (h1 : 0 ≤ x3) (h2 : x3 ≤ 1) (h3 : (x3 = 0 ∨ (0 ≤ x1 ∧ x1 ≤ 4))) (h4 : ¬ x3 = 0) (h5 : x4 = x5) (h6 : 0 ≤ x6) (h7 : x6 ≤ 1) (h8 : (x6 = 0 ∨ (0 ≤ x4 ∧ x4 ≤ 4))) (h9 : ¬ x6 = 0) (h10 : ¬ x2 = x5) (h11 : x7 = 36) (h12 : x8 = x7 + x2) (h13 : x9 = 36) (h14 : x10 = x9 + x5) (h15 : x11 = 46) (h16 : x12 = x11 + x2) (h17 : x13 = 46) (h18 : x14 = x13 + x5) (h19 : x15 = 46) (h20 : x16 = x15 + x2) (h21 : x17 = 46) (h22 : x18 = x17 + x5) (h23 : x19 = 46) (h24 : x0 = x19 + x5) : (x0).toNat < 51 := by omega
theorem o35_419 {x0 x1 x2 x3 x4 x5 x6 x7 x8 x9 x10 x11 x12 x13 x14 x15 x16 x17 x18 x19 : Int} (h0 : x1 = x2) (h1 : 0 ≤ x3) (h2 : x3 ≤ 1) (h3 : (x3 = 0 ∨ (0 ≤ x1 ∧ x1 ≤ 4))) (h4 : ¬ x3 = 0) (h5 : x4 = x5) (h6 : 0 ≤ x6) (h7 : x6 ≤ 1) (h8 : (x6 = 0 ∨ (0 ≤ x4 ∧ x4 ≤ 4))) (h9 : ¬ x6 = 0) (h10 : ¬ x2 = x5) (h11 : x7 = 36) (h12 : x8 = x7 + x2) (h13 : x9 = 36) (h14 : x10 = x9 + x5) (h15 : x11 = 46) (h16 : x12 = x11 + x2) (h17 : x13 = 46) (h18 : x14 = x13 + x5) (h19 : x15 = 46) (h20 : x16 = x15 + x2) (h21 : x17 = 46) (h22 : x18 = x17 + x5) (h23 : x19 = 46) (h24 : x0 = x19 + x5) : 46 ≤ (x0).toNat := by omega
theorem o35_420 {x0 : Int} (h0 : 0 ≤ x0) (h1 : x0 ≤ 99) : (-5) ≤ x0 := by omega
theorem o35_421 {x0 : Int} (h0 : 0 ≤ x0) (h1 : x0 ≤ 99) : x0 ≤ 99 := by omega
theorem o35_422 {x0 : Int} (h0 : x0 = (-4)) : (-5) ≤ x0 := by omega
theorem o35_423 {x0 : Int} (h0 : x0 = (-4)) : x0 ≤ 99 := by omega
theorem o35_424 {x0 : Int} (h0 : x0 = (-3)) : (-5) ≤ x0 := by omega
theorem o35_425 {x0 : Int} (h0 : x0 = (-3)) : x0 ≤ 99 := by omega
theorem o35_426 {x0 : Int} (h0 : 0 ≤ x0) (h1 : x0 ≤ 25) (h2 : 25 - x0 < 0) : False := by omega
theorem o35_427 {x0 x2 : Int} {x1 : Nat} (h0 : 0 ≤ x0) (h1 : x0 ≤ 25) (h2 : 25 - x0 < ((x1 + 1 : Nat) : Int)) (h3 : 0 ≤ x2) (h4 : x2 ≤ 25) (h5 : x0 < x2) : 0 ≤ x0 := by omega
theorem o35_428 {x0 x2 : Int} {x1 : Nat} (h0 : 0 ≤ x0) (h1 : x0 ≤ 25) (h2 : 25 - x0 < ((x1 + 1 : Nat) : Int)) (h3 : 0 ≤ x2) (h4 : x2 ≤ 25) (h5 : x0 < x2) : x0 ≤ 24 := by omega
theorem o35_429 {x0 x1 : Int} (h0 : x1 = 0) (h1 : -2147483648 ≤ x0) (h2 : x0 ≤ 2147483647) (h3 : -2147483648 ≤ x1) (h4 : x1 ≤ 2147483647) : -2147483648 ≤ x0 + x1 := by omega
theorem o35_430 {x0 x1 : Int} (h0 : x1 = 0) (h1 : -2147483648 ≤ x0) (h2 : x0 ≤ 2147483647) (h3 : -2147483648 ≤ x1) (h4 : x1 ≤ 2147483647) : x0 + x1 ≤ 2147483647 := by omega
theorem o35_431 {x0 x2 : Int} {x1 : Nat} (h0 : 0 ≤ x0) (h1 : x0 ≤ 25) (h2 : 25 - x0 < ((x1 + 1 : Nat) : Int)) (h3 : 0 ≤ x2) (h4 : x2 ≤ 25) (h5 : x0 < x2) (h6 : -2147483648 ≤ x0) (h7 : x0 ≤ 2147483647) (h8 : -2147483648 ≤ x2) (h9 : x2 ≤ 2147483647) : -2147483648 ≤ x0 + 1 := by omega
theorem o35_432 {x0 x2 : Int} {x1 : Nat} (h0 : 0 ≤ x0) (h1 : x0 ≤ 25) (h2 : 25 - x0 < ((x1 + 1 : Nat) : Int)) (h3 : 0 ≤ x2) (h4 : x2 ≤ 25) (h5 : x0 < x2) (h6 : -2147483648 ≤ x0) (h7 : x0 ≤ 2147483647) (h8 : -2147483648 ≤ x2) (h9 : x2 ≤ 2147483647) : x0 + 1 ≤ 2147483647 := by omega
theorem o35_433 {x0 x2 x3 : Int} {x1 : Nat} (h0 : 0 ≤ x2) (h1 : x2 ≤ 25) (h2 : 25 - x2 < ((x1 + 1 : Nat) : Int)) (h3 : 0 ≤ x3) (h4 : x3 ≤ 25) (h5 : x2 < x3) (h6 : x0 = x2 + 1) : 25 - x0 < (x1 : Int) := by omega
theorem o35_434 {x0 x1 x3 : Int} {x2 : Nat} (h0 : 0 ≤ x1) (h1 : x1 ≤ 25) (h2 : 25 - x1 < ((x2 + 1 : Nat) : Int)) (h3 : 0 ≤ x3) (h4 : x3 ≤ 25) (h5 : x1 < x3) (h6 : x0 = x1 + 1) : 0 ≤ x0 := by omega
theorem o35_435 {x0 x1 x3 : Int} {x2 : Nat} (h0 : 0 ≤ x1) (h1 : x1 ≤ 25) (h2 : 25 - x1 < ((x2 + 1 : Nat) : Int)) (h3 : 0 ≤ x3) (h4 : x3 ≤ 25) (h5 : x1 < x3) (h6 : x0 = x1 + 1) : x0 ≤ 25 := by omega
theorem o35_436 {x0 : Int} (h0 : x0 = 0) : 25 - x0 < (((25 - x0 + 1).toNat : Nat) : Int) := by omega
theorem o35_437 {x0 : Int} (h0 : x0 = 0) : x0 ≤ 25 := by omega
theorem o35_438 : ∀ p, p < 111 → 86 ≤ p → (elAll p).1 ≤ (-2147483648) ∧ 2147483647 ≤ (elAll p).2 := by decide +kernel
theorem o35_439 {x0 x1 x2 x3 x4 : Int} (h0 : x1 = x2) (h1 : 0 ≤ x3) (h2 : x3 ≤ 1) (h3 : (x3 = 0 ∨ (0 ≤ x1 ∧ x1 ≤ 24))) (h4 : ¬ x3 = 0) (h5 : x4 = 86) (h6 : x0 = x4 + x2) : (x0).toNat < 111 := by omega
theorem o35_440 {x0 x1 x2 x3 x4 : Int} (h0 : x1 = x2) (h1 : 0 ≤ x3) (h2 : x3 ≤ 1) (h3 : (x3 = 0 ∨ (0 ≤ x1 ∧ x1 ≤ 24))) (h4 : ¬ x3 = 0) (h5 : x4 = 86) (h6 : x0 = x4 + x2) : 86 ≤ (x0).toNat := by omega
theorem o35_441 {x0 x1 x2 x3 x4 : Int} (h0 : x1 = x2) (h1 : 0 ≤ x3) (h2 : x3 ≤ 1) (h3 : (x3 = 0 ∨ (0 ≤ x1 ∧ x1 ≤ 24))) (h4 : ¬ x3 = 0) (h5 : x4 = 86) (h6 : x0 = x4 + x2) : (36 ≤ x0 ∨ x0 = 10) := by omega
theorem o35_442 {x0 x1 x2 x3 x4 : Int} (h0 : x1 = x2) (h1 : 0 ≤ x3) (h2 : x3 ≤ 1) (h3 : (x3 = 0 ∨ (0 ≤ x1 ∧ x1 ≤ 24))) (h4 : ¬ x3 = 0) (h5 : x4 = 86) (h6 : x0 = x4 + x2) : 10 ≤ x0 := by omega
theorem o35_443 {x0 x1 x2 x3 x4 : Int} (h0 : x1 = x2) (h1 : 0 ≤ x3) (h2 : x3 ≤ 1) (h3 : (x3 = 0 ∨ (0 ≤ x1 ∧ x1 ≤ 24))) (h4 : ¬ x3 = 0) (h5 : x4 = 86) (h6 : x0 = x4 + x2) : x0 ≤ 872 := by omega
theorem o35_444 : ∀ p, p < 112 → 111 ≤ p → (elAll p).1 ≤ (-2147483648) ∧ 2147483647 ≤ (elAll p).2 := by decide +kernel
theorem o35_445 {x0 : Int} (h0 : x0 = 111) : (x0).toNat < 112 := by omega
theorem o35_446 {x0 : Int} (h0 : x0 = 111) : 111 ≤ (x0).toNat := by omega
theorem o35_447 {x0 : Int} (h0 : x0 = 111) : (36 ≤ x0 ∨ x0 = 10) := by omega
theorem o35_448 {x0 : Int} (h0 : x0 = 111) : 10 ≤ x0 := by omega
theorem o35_449 {x0 : Int} (h0 : x0 = 111) : x0 ≤ 872 := by omega
theorem o35_450 {x0 : Int} (h0 : x0 = (-3)) : x0 ≤ 9 := by omega
theorem o35_451 {x0 : Int} (h0 : x0 = 112) : 0 ≤ x0 := by omega
theorem o35_452 {x0 : Int} (h0 : x0 = 112) : x0 < (5322 : Nat) := by omega
theorem o35_453 : ∀ p, p < 113 → 112 ≤ p → 0 ≤ (elAll p).1 ∧ (elAll p).2 ≤ 10 := by decide +kernel
theorem o35_454 {x0 : Int} (h0 : x0 = 112) : (x0).toNat < 113 := by omega
theorem o35_455 {x0 : Int} (h0 : x0 = 112) : 112 ≤ (x0).toNat := by omega
theorem o35_456 {x0 : Int} (h0 : x0 = 112) : x0 = ((112 : Nat) : Int) := by omega
theorem o35_457 {x0 x1 x2 x3 x4 x5 x6 : Int} (h0 : x2 = x1) (h1 : x3 = 1) (h2 : x4 = 10) (h3 : 0 ≤ x5) (h4 : x5 ≤ 1) (h5 : ((x5 = 0 ∧ (x2 < x3 ∨ x4 < x2)) ∨ (x5 = 1 ∧ x3 ≤ x2 ∧ x2 ≤ x4))) (h6 : ¬ x5 = 0) (h7 : 0 ≤ x6) (h8 : x6 ≤ 10) (h9 : x1 ≤ x6) (h10 : 0 ≤ x0) (h11 : x0 ≤ 10) (h12 : x0 = x6) (h13 : -2147483648 ≤ x0) (h14 : x0 ≤ 2147483647) (h15 : -2147483648 ≤ x1) (h16 : x1 ≤ 2147483647) (h17 : -2147483648 ≤ x5) (h18 : x5 ≤ 2147483647) (h19 : -2147483648 ≤ x6) (h20 : x6 ≤ 2147483647) : -2147483648 ≤ x0 - x1 := by omega
theorem o35_458 {x0 x1 x2 x3 x4 x5 x6 : Int} (h0 : x2 = x1) (h1 : x3 = 1) (h2 : x4 = 10) (h3 : 0 ≤ x5) (h4 : x5 ≤ 1) (h5 : ((x5 = 0 ∧ (x2 < x3 ∨ x4 < x2)) ∨ (x5 = 1 ∧ x3 ≤ x2 ∧ x2 ≤ x4))) (h6 : ¬ x5 = 0) (h7 : 0 ≤ x6) (h8 : x6 ≤ 10) (h9 : x1 ≤ x6) (h10 : 0 ≤ x0) (h11 : x0 ≤ 10) (h12 : x0 = x6) (h13 : -2147483648 ≤ x0) (h14 : x0 ≤ 2147483647) (h15 : -2147483648 ≤ x1) (h16 : x1 ≤ 2147483647) (h17 : -2147483648 ≤ x5) (h18 : x5 ≤ 2147483647) (h19 : -2147483648 ≤ x6) (h20 : x6 ≤ 2147483647) : x0 - x1 ≤ 2147483647 := by omega
theorem o35_459 : ∀ p, p < 113 → 112 ≤ p → (elAll p).1 ≤ 0 ∧ 10 ≤ (elAll p).2 := by decide +kernel
theorem o35_460 {x0 x1 x2 x3 x4 x5 x6 x7 : Int} (h0 : x1 = x2) (h1 : x3 = 1) (h2 : x4 = 10) (h3 : 0 ≤ x5) (h4 : x5 ≤ 1) (h5 : ((x5 = 0 ∧ (x1 < x3 ∨ x4 < x1)) ∨ (x5 = 1 ∧ x3 ≤ x1 ∧ x1 ≤ x4))) (h6 : ¬ x5 = 0) (h7 : 0 ≤ x6) (h8 : x6 ≤ 10) (h9 : x2 ≤ x6) (h10 : 0 ≤ x7) (h11 : x7 ≤ 10) (h12 : x7 = x6) (h13 : x0 = x7 - x2) : 0 ≤ x0 := by omega
theorem o35_461 {x0 x1 x2 x3 x4 x5 x6 x7 : Int} (h0 : x1 = x2) (h1 : x3 = 1) (h2 : x4 = 10) (h3 : 0 ≤ x5) (h4 : x5 ≤ 1) (h5 : ((x5 = 0 ∧ (x1 < x3 ∨ x4 < x1)) ∨ (x5 = 1 ∧ x3 ≤ x1 ∧ x1 ≤ x4))) (h6 : ¬ x5 = 0) (h7 : 0 ≤ x6) (h8 : x6 ≤ 10) (h9 : x2 ≤ x6) (h10 : 0 ≤ x7) (h11 : x7 ≤ 10) (h12 : x7 = x6) (h13 : x0 = x7 - x2) : x0 ≤ 10 := by omega
theorem o35_462 {x0 : Int} (h0 : x0 = 112) : (36 ≤ x0 ∨ x0 = 10) := by omega
theorem o35_463 {x0 : Int} (h0 : x0 = 112) : 10 ≤ x0 := by omega
theorem o35_464 {x0 : Int} (h0 : x0 = 112) : x0 ≤ 872 := by omega
theorem o35_465 {x0 : Int} (h0 : 0 ≤ x0) (h1 : x0 ≤ 76) (h2 : 76 - x0 < 0) : False := by omega
theorem o35_466 {x0 : Int} (h0 : x0 = 76) : x0 = 76 := by omega
theorem o35_467 {x0 x2 : Int} {x1 : Nat} (h0 : 0 ≤ x0) (h1 : x0 ≤ 76) (h2 : 76 - x0 < ((x1 + 1 : Nat) : Int)) (h3 : x2 = 76) (h4 : x2 ≤ x0) : ¬ x0 < 76 := by omega
theorem o35_468 {x0 x2 : Int} {x1 : Nat} (h0 : 0 ≤ x0) (h1 : x0 ≤ 76) (h2 : 76 - x0 < ((x1 + 1 : Nat) : Int)) (h3 : x2 = 76) (h4 : x0 < x2) : x0 < 76 := by omega
theorem o35_469 {x0 x1 : Int} (h0 : 0 ≤ x1) (h1 : x1 ≤ 9) (h2 : 0 ≤ x0) (h3 : x0 ≤ 10) (h4 : x0 = x1) : (-3) ≤ x0 := by omega
theorem o35_470 {x0 x1 : Int} (h0 : 0 ≤ x1) (h1 : x1 ≤ 9) (h2 : 0 ≤ x0) (h3 : x0 ≤ 10) (h4 : x0 = x1) : x0 ≤ 9 := by omega
theorem o35_471 {x0 x1 x3 : Int} {x2 : Nat} (h0 : 0 ≤ x1) (h1 : x1 ≤ 76) (h2 : 76 - x1 < ((x2 + 1 : Nat) : Int)) (h3 : x3 = 76) (h4 : x1 < x3) (h5 : x0 = 36) (h6 : -2147483648 ≤ x0) (h7 : x0 ≤ 2147483647) (h8 : -2147483648 ≤ x1) (h9 : x1 ≤ 2147483647) (h10 : -2147483648 ≤ x3) (h11 : x3 ≤ 2147483647) : -2147483648 ≤ x0 + x1 := by omega
theorem o35_472 {x0 x1 x3 : Int} {x2 : Nat} (h0 : 0 ≤ x1) (h1 : x1 ≤ 76) (h2 : 76 - x1 < ((x2 + 1 : Nat) : Int)) (h3 : x3 = 76) (h4 : x1 < x3) (h5 : x0 = 36) (h6 : -2147483648 ≤ x0) (h7 : x0 ≤ 2147483647) (h8 : -2147483648 ≤ x1) (h9 : x1 ≤ 2147483647) (h10 : -2147483648 ≤ x3) (h11 : x3 ≤ 2147483647) : x0 + x1 ≤ 2147483647 := by omega
theorem o35_473 {x0 x1 : Int} (h0 : 0 ≤ x1) (h1 : x1 ≤ 9) (h2 : 0 ≤ x0) (h3 : x0 ≤ 10) (h4 : x0 = x1) (h5 : -2147483648 ≤ x0) (h6 : x0 ≤ 2147483647) (h7 : -2147483648 ≤ x1) (h8 : x1 ≤ 2147483647) : -2147483648 ≤ 76 * x0 := by omega
theorem o35_474 {x0 x1 : Int} (h0 : 0 ≤ x1) (h1 : x1 ≤ 9) (h2 : 0 ≤ x0) (h3 : x0 ≤ 10) (h4 : x0 = x1) (h5 : -2147483648 ≤ x0) (h6 : x0 ≤ 2147483647) (h7 : -2147483648 ≤ x1) (h8 : x1 ≤ 2147483647) : 76 * x0 ≤ 2147483647 := by omega
theorem o35_475 {x0 x1 x2 x3 : Int} (h0 : 0 ≤ x2) (h1 : x2 ≤ 9) (h2 : x0 = 113) (h3 : 0 ≤ x3) (h4 : x3 ≤ 10) (h5 : x3 = x2) (h6 : x1 = 76 * x3) (h7 : -2147483648 ≤ x0) (h8 : x0 ≤ 2147483647) (h9 : -2147483648 ≤ x1) (h10 : x1 ≤ 2147483647) (h11 : -2147483648 ≤ x2) (h12 : x2 ≤ 2147483647) (h13 : -2147483648 ≤ x3) (h14 : x3 ≤ 2147483647) : -2147483648 ≤ x0 + x1 := by omega
theorem o35_476 {x0 x1 x2 x3 : Int} (h0 : 0 ≤ x2) (h1 : x2 ≤ 9) (h2 : x0 = 113) (h3 : 0 ≤ x3) (h4 : x3 ≤ 10) (h5 : x3 = x2) (h6 : x1 = 76 * x3) (h7 : -2147483648 ≤ x0) (h8 : x0 ≤ 2147483647) (h9 : -2147483648 ≤ x1) (h10 : x1 ≤ 2147483647) (h11 : -2147483648 ≤ x2) (h12 : x2 ≤ 2147483647) (h13 : -2147483648 ≤ x3) (h14 : x3 ≤ 2147483647) : x0 + x1 ≤ 2147483647 := by omega
theorem o35_477 {x0 x1 x2 x4 x5 x6 x7 x8 x9 : Int} {x3 : Nat} (h0 : 0 ≤ x1) (h1 : x1 ≤ 76) (h2 : 0 ≤ x2) (h3 : x2 ≤ 9) (h4 : 76 - x1 < ((x3 + 1 : Nat) : Int)) (h5 : x4 = 76) (h6 : x1 < x4) (h7 : x5 = 36) (h8 : x6 = x5 + x1) (h9 : x7 = 113) (h10 : 0 ≤ x8) (h11 : x8 ≤ 10) (h12 : x8 = x2) (h13 : x9 = 76 * x8) (h14 : x0 = x7 + x9) (h15 : -2147483648 ≤ x0) (h16 : x0 ≤ 2147483647) (h17 : -2147483648 ≤ x1) (h18 : x1 ≤ 2147483647) (h19 : -2147483648 ≤ x2) (h20 : x2 ≤ 2147483647) (h21 : -2147483648 ≤ x4) (h22 : x4 ≤ 2147483647) (h23 : -2147483648 ≤ x5) (h24 : x5 ≤ 2147483647) (h25 : -2147483648 ≤ x6) (h26 : x6 ≤ 2147483647) (h27 : -2147483648 ≤ x7) (h28 : x7 ≤ 2147483647) (h29 : -2147483648 ≤ x8) (h30 : x8 ≤ 2147483647) (h31 : -2147483648 ≤ x9) (h32 : x9 ≤ 2147483647) : -2147483648 ≤ x0 + x1 := by omega
theorem o35_478 {x0 x1 x2 x4 x5 x6 x7 x8 x9 : Int} {x3 : Nat} (h0 : 0 ≤ x1) (h1 : x1 ≤ 76) (h2 : 0 ≤ x2) (h3 : x2 ≤ 9) (h4 : 76 - x1 < ((x3 + 1 : Nat) : Int)) (h5 : x4 = 76) (h6 : x1 < x4) (h7 : x5 = 36) (h8 : x6 = x5 + x1) (h9 : x7 = 113) (h10 : 0 ≤ x8) (h11 : x8 ≤ 10) (h12 : x8 = x2) (h13 : x9 = 76 * x8) (h14 : x0 = x7 + x9) (h15 : -2147483648 ≤ x0) (h16 : x0 ≤ 2147483647) (h17 : -2147483648 ≤ x1) (h18 : x1 ≤ 2147483647) (h19 : -2147483648 ≤ x2) (h20 : x2 ≤ 2147483647) (h21 : -2147483648 ≤ x4) (h22 : x4 ≤ 2147483647) (h23 : -2147483648 ≤ x5) (h24 : x5 ≤ 2147483647) (h25 : -2147483648 ≤ x6) (h26 : x6 ≤ 2147483647) (h27 : -2147483648 ≤ x7) (h28 : x7 ≤ 2147483647) (h29 : -2147483648 ≤ x8) (h30 : x8 ≤ 2147483647) (h31 : -2147483648 ≤ x9) (h32 : x9 ≤ 2147483647) : x0 + x1 ≤ 2147483647 := by omega
theorem o35_479 {x0 x1 x2 x4 x5 x6 x7 x8 x9 x10 : Int} {x3 : Nat} (h0 : 0 ≤ x1) (h1 : x1 ≤ 76) (h2 : 0 ≤ x2) (h3 : x2 ≤ 9) (h4 : 76 - x1 < ((x3 + 1 : Nat) : Int)) (h5 : x4 = 76) (h6 : x1 < x4) (h7 : x5 = 36) (h8 : x6 = x5 + x1) (h9 : x7 = 113) (h10 : 0 ≤ x8) (h11 : x8 ≤ 10) (h12 : x8 = x2) (h13 : x9 = 76 * x8) (h14 : x10 = x7 + x9) (h15 : x0 = x10 + x1) : 0 ≤ x0 := by omega
theorem o35_480 {x0 x1 x2 x4 x5 x6 x7 x8 x9 x10 : Int} {x3 : Nat} (h0 : 0 ≤ x1) (h1 : x1 ≤ 76) (h2 : 0 ≤ x2) (h3 : x2 ≤ 9) (h4 : 76 - x1 < ((x3 + 1 : Nat) : Int)) (h5 : x4 = 76) (h6 : x1 < x4) (h7 : x5 = 36) (h8 : x6 = x5 + x1) (h9 : x7 = 113) (h10 : 0 ≤ x8) (h11 : x8 ≤ 10) (h12 : x8 = x2) (h13 : x9 = 76 * x8) (h14 : x10 = x7 + x9) (h15 : x0 = x10 + x1) : x0 < (5322 : Nat) := by omega
theorem o35_481 {x0 x1 x2 x4 x5 x6 x7 x8 x9 x10 : Int} {x3 : Nat} (h0 : 0 ≤ x1) (h1 : x1 ≤ 76) (h2 : 0 ≤ x2) (h3 : x2 ≤ 9) (h4 : 76 - x1 < ((x3 + 1 : Nat) : Int)) (h5 : x4 = 76) (h6 : x1 < x4) (h7 : x5 = 36) (h8 : x0 = x5 + x1) (h9 : x6 = 113) (h10 : 0 ≤ x7) (h11 : x7 ≤ 10) (h12 : x7 = x2) (h13 : x8 = 76 * x7) (h14 : x9 = x6 + x8) (h15 : x10 = x9 + x1) : 0 ≤ x0 := by omega
theorem o35_482 {x0 x1 x2 x4 x5 x6 x7 x8 x9 x10 : Int} {x3 : Nat} (h0 : 0 ≤ x1) (h1 : x1 ≤ 76) (h2 : 0 ≤ x2) (h3 : x2 ≤ 9) (h4 : 76 - x1 < ((x3 + 1 : Nat) : Int)) (h5 : x4 = 76) (h6 : x1 < x4) (h7 : x5 = 36) (h8 : x0 = x5 + x1) (h9 : x6 = 113) (h10 : 0 ≤ x7) (h11 : x7 ≤ 10) (h12 : x7 = x2) (h13 : x8 = 76 * x7) (h14 : x9 = x6 + x8) (h15 : x10 = x9 + x1) : x0 < (5322 : Nat) := by omega
theorem o35_483 {x0 x1 x2 x4 x5 x6 x7 x8 x9 x10 : Int} {x3 : Nat} (h0 : 0 ≤ x1) (h1 : x1 ≤ 76) (h2 : 0 ≤ x2) (h3 : x2 ≤ 9) (h4 : 76 - x1 < ((x3 + 1 : Nat) : Int)) (h5 : x4 = 76) (h6 : x1 < x4) (h7 : x5 = 36) (h8 : x0 = x5 + x1) (h9 : x6 = 113) (h10 : 0 ≤ x7) (h11 : x7 ≤ 10) (h12 : x7 = x2) (h13 : x8 = 76 * x7) (h14 : x9 = x6 + x8) (h15 : x10 = x9 + x1) : (x0).toNat = 36 + (x1).toNat := by omega
theorem o35_484 {x0 x1 x3 x4 x5 x6 x7 x8 x9 x10 : Int} {x2 : Nat} (h0 : 0 ≤ x0) (h1 : x0 ≤ 76) (h2 : 0 ≤ x1) (h3 : x1 ≤ 9) (h4 : 76 - x0 < ((x2 + 1 : Nat) : Int)) (h5 : x3 = 76) (h6 : x0 < x3) (h7 : x4 = 36) (h8 : x5 = x4 + x0) (h9 : x6 = 113) (h10 : 0 ≤ x7) (h11 : x7 ≤ 10) (h12 : x7 = x1) (h13 : x8 = 76 * x7) (h14 : x9 = x6 + x8) (h15 : x10 = x9 + x0) : (x0).toNat < 76 := by omega
theorem o35_485 {x0 x1 x2 x4 x5 x6 x7 x8 x9 x10 : Int} {x3 : Nat} (h0 : 0 ≤ x2) (h1 : x2 ≤ 76) (h2 : 0 ≤ x1) (h3 : x1 ≤ 9) (h4 : 76 - x2 < ((x3 + 1 : Nat) : Int)) (h5 : x4 = 76) (h6 : x2 < x4) (h7 : x5 = 36) (h8 : x6 = x5 + x2) (h9 : x7 = 113) (h10 : 0 ≤ x8) (h11 : x8 ≤ 10) (h12 : x8 = x1) (h13 : x9 = 76 * x8) (h14 : x10 = x7 + x9) (h15 : x0 = x10 + x2) : (x0).toNat = 113 + 76 * (x1).toNat + (x2).toNat := by omega
theorem o35_486 {x0 x1 x3 x4 x5 x6 x7 x8 x9 x10 : Int} {x2 : Nat} (h0 : 0 ≤ x1) (h1 : x1 ≤ 76) (h2 : 0 ≤ x0) (h3 : x0 ≤ 9) (h4 : 76 - x1 < ((x2 + 1 : Nat) : Int)) (h5 : x3 = 76) (h6 : x1 < x3) (h7 : x4 = 36) (h8 : x5 = x4 + x1) (h9 : x6 = 113) (h10 : 0 ≤ x7) (h11 : x7 ≤ 10) (h12 : x7 = x0) (h13 : x8 = 76 * x7) (h14 : x9 = x6 + x8) (h15 : x10 = x9 + x1) : (x0).toNat < 10 := by omega
theorem o35_487 {x0 x1 x2 x4 x5 x6 x7 x8 x9 x10 : Int} {x3 : Nat} (h0 : 0 ≤ x1) (h1 : x1 ≤ 76) (h2 : 0 ≤ x2) (h3 : x2 ≤ 9) (h4 : 76 - x1 < ((x3 + 1 : Nat) : Int)) (h5 : x4 = 76) (h6 : x1 < x4) (h7 : x5 = 36) (h8 : x0 = x5 + x1) (h9 : x6 = 113) (h10 : 0 ≤ x7) (h11 : x7 ≤ 10) (h12 : x7 = x2) (h13 : x8 = 76 * x7) (h14 : x9 = x6 + x8) (h15 : x10 = x9 + x1) : (36 ≤ x0 ∨ x0 = 10) := by omega
theorem o35_488 {x0 x1 x2 x4 x5 x6 x7 x8 x9 x10 : Int} {x3 : Nat} (h0 : 0 ≤ x1) (h1 : x1 ≤ 76) (h2 : 0 ≤ x2) (h3 : x2 ≤ 9) (h4 : 76 - x1 < ((x3 + 1 : Nat) : Int)) (h5 : x4 = 76) (h6 : x1 < x4) (h7 : x5 = 36) (h8 : x0 = x5 + x1) (h9 : x6 = 113) (h10 : 0 ≤ x7) (h11 : x7 ≤ 10) (h12 : x7 = x2) (h13 : x8 = 76 * x7) (h14 : x9 = x6 + x8) (h15 : x10 = x9 + x1) : 10 ≤ x0 := by omega
theorem o35_489 {x0 x1 x2 x4 x5 x6 x7 x8 x9 x10 : Int} {x3 : Nat} (h0 : 0 ≤ x1) (h1 : x1 ≤ 76) (h2 : 0 ≤ x2) (h3 : x2 ≤ 9) (h4 : 76 - x1 < ((x3 + 1 : Nat) : Int)) (h5 : x4 = 76) (h6 : x1 < x4) (h7 : x5 = 36) (h8 : x0 = x5 + x1) (h9 : x6 = 113) (h10 : 0 ≤ x7) (h11 : x7 ≤ 10) (h12 : x7 = x2) (h13 : x8 = 76 * x7) (h14 : x9 = x6 + x8) (h15 : x10 = x9 + x1) : x0 ≤ 872 := by omega
theorem o35_490 {x0 x1 x3 x4 x5 x6 x7 x8 x9 x10 : Int} {x2 : Nat} (h0 : 0 ≤ x0) (h1 : x0 ≤ 76) (h2 : 0 ≤ x1) (h3 : x1 ≤ 9) (h4 : 76 - x0 < ((x2 + 1 : Nat) : Int)) (h5 : x3 = 76) (h6 : x0 < x3) (h7 : x4 = 36) (h8 : x5 = x4 + x0) (h9 : x6 = 113) (h10 : 0 ≤ x7) (h11 : x7 ≤ 10) (h12 : x7 = x1) (h13 : x8 = 76 * x7) (h14 : x9 = x6 + x8) (h15 : x10 = x9 + x0) (h16 : -2147483648 ≤ x0) (h17 : x0 ≤ 2147483647) (h18 : -2147483648 ≤ x1) (h19 : x1 ≤ 2147483647) (h20 : -2147483648 ≤ x3) (h21 : x3 ≤ 2147483647) (h22 : -2147483648 ≤ x4) (h23 : x4 ≤ 2147483647) (h24 : -2147483648 ≤ x5) (h25 : x5 ≤ 2147483647) (h26 : -2147483648 ≤ x6) (h27 : x6 ≤ 2147483647) (h28 : -2147483648 ≤ x7) (h29 : x7 ≤ 2147483647) (h30 : -2147483648 ≤ x8) (h31 : x8 ≤ 2147483647) (h32 : -2147483648 ≤ x9) (h33 : x9 ≤ 2147483647) (h34 : -2147483648 ≤ x10) (h35 : x10 ≤ 2147483647) : -2147483648 ≤ x0 + 1 := by omega
theorem o35_491 {x0 x1 x3 x4 x5 x6 x7 x8 x9 x10 : Int} {x2 : Nat} (h0 : 0 ≤ x0) (h1 : x0 ≤ 76) (h2 : 0 ≤ x1) (h3 : x1 ≤ 9) (h4 : 76 - x0 < ((x2 + 1 : Nat) : Int)) (h5 : x3 = 76) (h6 : x0 < x3) (h7 : x4 = 36) (h8 : x5 = x4 + x0) (h9 : x6 = 113) (h10 : 0 ≤ x7) (h11 : x7 ≤ 10) (h12 : x7 = x1) (h13 : x8 = 76 * x7) (h14 : x9 = x6 + x8) (h15 : x10 = x9 + x0) (h16 : -2147483648 ≤ x0) (h17 : x0 ≤ 2147483647) (h18 : -2147483648 ≤ x1) (h19 : x1 ≤ 2147483647) (h20 : -2147483648 ≤ x3) (h21 : x3 ≤ 2147483647) (h22 : -2147483648 ≤ x4) (h23 : x4 ≤ 2147483647) (h24 : -2147483648 ≤ x5) (h25 : x5 ≤ 2147483647) (h26 : -2147483648 ≤ x6) (h27 : x6 ≤ 2147483647) (h28 : -2147483648 ≤ x7) (h29 : x7 ≤ 2147483647) (h30 : -2147483648 ≤ x8) (h31 : x8 ≤ 2147483647) (h32 : -2147483648 ≤ x9) (h33 : x9 ≤ 2147483647) (h34 : -2147483648 ≤ x10) (h35 : x10 ≤ 2147483647) : x0 + 1 ≤ 2147483647 := by omega
theorem o35_492 {x0 x1 x2 x4 x5 x6 x7 x8 x9 x10 x11 : Int} {x3 : Nat} (h0 : 0 ≤ x1) (h1 : x1 ≤ 76) (h2 : 0 ≤ x2) (h3 : x2 ≤ 9) (h4 : 76 - x1 < ((x3 + 1 : Nat) : Int)) (h5 : x4 = 76) (h6 : x1 < x4) (h7 : x5 = 36) (h8 : x0 = x5 + x1) (h9 : x6 = 113) (h10 : 0 ≤ x7) (h11 : x7 ≤ 10) (h12 : x7 = x2) (h13 : x8 = 76 * x7) (h14 : x9 = x6 + x8) (h15 : x10 = x9 + x1) (h16 : x11 = x1 + 1) : 112 ≠ (x0).toNat := by omega
theorem o35_493 {x0 x2 x3 x4 x5 x6 x7 x8 x9 x10 x11 : Int} {x1 : Nat} (h0 : 0 ≤ x2) (h1 : x2 ≤ 76) (h2 : 0 ≤ x3) (h3 : x3 ≤ 9) (h4 : 76 - x2 < ((x1 + 1 : Nat) : Int)) (h5 : x4 = 76) (h6 : x2 < x4) (h7 : x5 = 36) (h8 : x6 = x5 + x2) (h9 : x7 = 113) (h10 : 0 ≤ x8) (h11 : x8 ≤ 10) (h12 : x8 = x3) (h13 : x9 = 76 * x8) (h14 : x10 = x7 + x9) (h15 : x11 = x10 + x2) (h16 : x0 = x2 + 1) : 76 - x0 < (x1 : Int) := by omega
theorem o35_494 {x0 x1 x2 x4 x5 x6 x7 x8 x9 x10 x11 : Int} {x3 : Nat} (h0 : 0 ≤ x1) (h1 : x1 ≤ 76) (h2 : 0 ≤ x2) (h3 : x2 ≤ 9) (h4 : 76 - x1 < ((x3 + 1 : Nat) : Int)) (h5 : x4 = 76) (h6 : x1 < x4) (h7 : x5 = 36) (h8 : x6 = x5 + x1) (h9 : x7 = 113) (h10 : 0 ≤ x8) (h11 : x8 ≤ 10) (h12 : x8 = x2) (h13 : x9 = 76 * x8) (h14 : x10 = x7 + x9) (h15 : x11 = x10 + x1) (h16 : x0 = x1 + 1) : 0 ≤ x0 := by omega
theorem o35_495 {x0 x1 x2 x4 x5 x6 x7 x8 x9 x10 x11 : Int} {x3 : Nat} (h0 : 0 ≤ x1) (h1 : x1 ≤ 76) (h2 : 0 ≤ x2) (h3 : x2 ≤ 9) (h4 : 76 - x1 < ((x3 + 1 : Nat) : Int)) (h5 : x4 = 76) (h6 : x1 < x4) (h7 : x5 = 36) (h8 : x6 = x5 + x1) (h9 : x7 = 113) (h10 : 0 ≤ x8) (h11 : x8 ≤ 10) (h12 : x8 = x2) (h13 : x9 = 76 * x8) (h14 : x10 = x7 + x9) (h15 : x11 = x10 + x1) (h16 : x0 = x1 + 1) : x0 ≤ 76 := by omega
theorem o35_496 {x0 x1 x3 x4 x5 x6 x7 x8 x9 x10 x11 : Int} {x2 : Nat} (h0 : 0 ≤ x1) (h1 : x1 ≤ 76) (h2 : 0 ≤ x0) (h3 : x0 ≤ 9) (h4 : 76 - x1 < ((x2 + 1 : Nat) : Int)) (h5 : x3 = 76) (h6 : x1 < x3) (h7 : x4 = 36) (h8 : x5 = x4 + x1) (h9 : x6 = 113) (h10 : 0 ≤ x7) (h11 : x7 ≤ 10) (h12 : x7 = x0) (h13 : x8 = 76 * x7) (h14 : x9 = x6 + x8) (h15 : x10 = x9 + x1) (h16 : x11 = x1 + 1) : 0 ≤ x0 := by omega
theorem o35_497 {x0 x1 x3 x4 x5 x6 x7 x8 x9 x10 x11 : Int} {x2 : Nat} (h0 : 0 ≤ x1) (h1 : x1 ≤ 76) (h2 : 0 ≤ x0) (h3 : x0 ≤ 9) (h4 : 76 - x1 < ((x2 + 1 : Nat) : Int)) (h5 : x3 = 76) (h6 : x1 < x3) (h7 : x4 = 36) (h8 : x5 = x4 + x1) (h9 : x6 = 113) (h10 : 0 ≤ x7) (h11 : x7 ≤ 10) (h12 : x7 = x0) (h13 : x8 = 76 * x7) (h14 : x9 = x6 + x8) (h15 : x10 = x9 + x1) (h16 : x11 = x1 + 1) : x0 ≤ 9 := by omega
theorem o35_498 {x0 : Int} (h0 : x0 = 0) : 76 - x0 < (((76 - x0 + 1).toNat : Nat) : Int) := by omega
theorem o35_499 {x0 : Int} (h0 : x0 = 0) : x0 ≤ 76 := by omega
theorem o35_500 {x0 x1 x2 x3 x4 x5 x6 x7 : Int} (h0 : x1 = x2) (h1 : x3 = 1) (h2 : x4 = 10) (h3 : 0 ≤ x5) (h4 : x5 ≤ 1) (h5 : ((x5 = 0 ∧ (x1 < x3 ∨ x4 < x1)) ∨ (x5 = 1 ∧ x3 ≤ x1 ∧ x1 ≤ x4))) (h6 : ¬ x5 = 0) (h7 : 0 ≤ x6) (h8 : x6 ≤ 10) (h9 : x2 ≤ x6) (h10 : 0 ≤ x7) (h11 : x7 ≤ 10) (h12 : x7 = x6) (h13 : x0 = x7 - x2) : x0 ≤ 9 := by omega
theorem o35_501 {x0 : Int} (h0 : x0 = 16) : x0 = 16 := by omega
theorem o35_502 {x0 : Int} (h0 : 1 ≤ x0) (h1 : x0 ≤ 5) : 0 < x0 := by omega
theorem o35_503 {x0 : Int} (h0 : 0 ≤ x0) (h1 : x0 ≤ 65535) : 0 ≤ x0 := by omega
theorem o35_504 {x0 x1 x2 : Int} (h0 : 1 ≤ x1) (h1 : x1 ≤ 5) (h2 : 0 ≤ x2) (h3 : x2 ≤ 65535) (h4 : x0 = x2 % x1) (h5 : 0 ≤ x0) (h6 : x0 < x1) : 0 ≤ x0 := by omega
theorem o35_505 {x0 x1 x2 : Int} (h0 : 1 ≤ x1) (h1 : x1 ≤ 5) (h2 : 0 ≤ x2) (h3 : x2 ≤ 65535) (h4 : x0 = x2 % x1) (h5 : 0 ≤ x0) (h6 : x0 < x1) : x0 ≤ 4 := by omega
theorem o35_506 {x0 : Int} (h0 : x0 = 4) : 1 ≤ x0 := by omega
theorem o35_507 {x0 : Int} (h0 : x0 = 4) : x0 ≤ 5 := by omega
theorem o35_508 {x0 x1 : Int} (h0 : 0 ≤ x0) (h1 : x0 ≤ 4) (h2 : x1 = 3) (h3 : ¬ x0 = x1) : ¬ x0 = 3 := by omega
theorem o35_509 {x0 x1 : Int} (h0 : 0 ≤ x0) (h1 : x0 ≤ 4) (h2 : x1 = 3) (h3 : x0 = x1) : x0 = 3 := by omega
theorem o35_510 {x0 : Int} (h0 : x0 = 3) : 0 ≤ x0 := by omega
theorem o35_511 {x0 : Int} (h0 : x0 = 3) : x0 < (5322 : Nat) := by omega
theorem o35_512 : ∀ p, p < 4 → 3 ≤ p → 0 ≤ (elAll p).1 ∧ (elAll p).2 ≤ 5 := by decide +kernel
theorem o35_513 {x0 : Int} (h0 : x0 = 3) : (x0).toNat < 4 := by omega
theorem o35_514 {x0 : Int} (h0 : x0 = 3) : 3 ≤ (x0).toNat := by omega
theorem o35_515 {x0 : Int} (h0 : x0 = 3) : x0 = ((3 : Nat) : Int) := by omega
theorem o35_516 {x0 x1 : Int} (h0 : 1 ≤ x1) (h1 : x1 ≤ 5) (h2 : 0 ≤ x0) (h3 : x0 ≤ 5) (h4 : x0 = x1) : 1 ≤ x0 := by omega
theorem o35_517 {x0 x1 : Int} (h0 : 1 ≤ x1) (h1 : x1 ≤ 5) (h2 : 0 ≤ x0) (h3 : x0 ≤ 5) (h4 : x0 = x1) : x0 ≤ 5 := by omega
theorem o35_518 {x0 x1 x2 : Int} (h0 : 0 ≤ x0) (h1 : x0 ≤ 4) (h2 : x1 = 3) (h3 : ¬ x0 = x1) (h4 : x2 = 2) (h5 : ¬ x0 = x2) : ¬ x0 = 2 := by omega
theorem o35_519 {x0 x1 x2 : Int} (h0 : 0 ≤ x0) (h1 : x0 ≤ 4) (h2 : x1 = 3) (h3 : ¬ x0 = x1) (h4 : x2 = 2) (h5 : x0 = x2) : x0 = 2 := by omega
theorem o35_520 {x0 x1 x2 x3 x4 : Int} (h0 : 0 ≤ x0) (h1 : x0 ≤ 4) (h2 : 0 ≤ x1) (h3 : x1 ≤ 4) (h4 : x2 = x0) (h5 : x3 = x1) (h6 : 0 ≤ x4) (h7 : x4 ≤ 4) (h8 : (x4 = 0 → 0 ≤ x2) ∧ (x4 = 0 → x2 ≤ 4) ∧ (x4 = 0 → 0 ≤ x3) ∧ (x4 = 0 → x3 ≤ 3)) (h9 : x4 = 0) : 0 ≤ x0 := by omega
theorem o35_521 {x0 x1 x2 x3 x4 : Int} (h0 : 0 ≤ x0) (h1 : x0 ≤ 4) (h2 : 0 ≤ x1) (h3 : x1 ≤ 4) (h4 : x2 = x0) (h5 : x3 = x1) (h6 : 0 ≤ x4) (h7 : x4 ≤ 4) (h8 : (x4 = 0 → 0 ≤ x2) ∧ (x4 = 0 → x2 ≤ 4) ∧ (x4 = 0 → 0 ≤ x3) ∧ (x4 = 0 → x3 ≤ 3)) (h9 : x4 = 0) : x0 ≤ 4 := by omega
theorem o35_522 {x0 x1 x2 x3 x4 : Int} (h0 : 0 ≤ x1) (h1 : x1 ≤ 4) (h2 : 0 ≤ x0) (h3 : x0 ≤ 4) (h4 : x2 = x1) (h5 : x3 = x0) (h6 : 0 ≤ x4) (h7 : x4 ≤ 4) (h8 : (x4 = 0 → 0 ≤ x2) ∧ (x4 = 0 → x2 ≤ 4) ∧ (x4 = 0 → 0 ≤ x3) ∧ (x4 = 0 → x3 ≤ 3)) (h9 : x4 = 0) : 0 ≤ x0 := by omega
theorem o35_523 {x0 x1 x2 x3 x4 : Int} (h0 : 0 ≤ x1) (h1 : x1 ≤ 4) (h2 : 0 ≤ x0) (h3 : x0 ≤ 4) (h4 : x2 = x1) (h5 : x3 = x0) (h6 : 0 ≤ x4) (h7 : x4 ≤ 4) (h8 : (x4 = 0 → 0 ≤ x2) ∧ (x4 = 0 → x2 ≤ 4) ∧ (x4 = 0 → 0 ≤ x3) ∧ (x4 = 0 → x3 ≤ 3)) (h9 : x4 = 0) : x0 ≤ 3 := by omega
theorem o35_524 {x0 x1 x2 x3 x4 : Int} (h0 : 0 ≤ x1) (h1 : x1 ≤ 4) (h2 : 0 ≤ x2) (h3 : x2 ≤ 4) (h4 : x3 = x1) (h5 : x4 = x2) (h6 : 0 ≤ x0) (h7 : x0 ≤ 4) (h8 : (x0 = 0 → 0 ≤ x3) ∧ (x0 = 0 → x3 ≤ 4) ∧ (x0 = 0 → 0 ≤ x4) ∧ (x0 = 0 → x4 ≤ 3)) (h9 : x0 = 0) : x0 = 0 := by omega
theorem o35_525 {x0 x1 x2 x3 x4 : Int} (h0 : 0 ≤ x0) (h1 : x0 ≤ 4) (h2 : 0 ≤ x2) (h3 : x2 ≤ 4) (h4 : x1 = x0) (h5 : x3 = x2) (h6 : 0 ≤ x4) (h7 : x4 ≤ 4) (h8 : (x4 = 0 → 0 ≤ x1) ∧ (x4 = 0 → x1 ≤ 4) ∧ (x4 = 0 → 0 ≤ x3) ∧ (x4 = 0 → x3 ≤ 3)) (h9 : x4 = 0) : (x0).toNat = (x1).toNat := by omega
theorem o35_526 {x0 x1 x2 x3 x4 : Int} (h0 : 0 ≤ x2) (h1 : x2 ≤ 4) (h2 : 0 ≤ x0) (h3 : x0 ≤ 4) (h4 : x3 = x2) (h5 : x1 = x0) (h6 : 0 ≤ x4) (h7 : x4 ≤ 4) (h8 : (x4 = 0 → 0 ≤ x3) ∧ (x4 = 0 → x3 ≤ 4) ∧ (x4 = 0 → 0 ≤ x1) ∧ (x4 = 0 → x1 ≤ 3)) (h9 : x4 = 0) : x0 = x1 := by omega
theorem o35_527 {x0 : Int} (h0 : x0 = 1) : 0 ≤ x0 := by omega
theorem o35_528 {x0 : Int} (h0 : x0 = 1) : x0 ≤ 1 := by omega
theorem o35_529 {x0 : Int} (h0 : x0 = 0) : x0 ≤ 1 := by omega
theorem o35_530 {x0 : Int} (h0 : x0 = 1) : x0 ≤ 20 := by omega
noncomputable def g6_X12_noTray (s : XS) : XR := (s, 0)
noncomputable def g7_X12_noTray (s : XS) : XR := (s, ((-6)))
noncomputable def g5b_X12_noTray (s : XS) (v_17 : Int) : XR := if v_17 = ((-1)) then g7_X12_noTray s else g6_X12_noTray s
noncomputable def g3_X12_noTray (s : XS) (a1 : Int) : XR := g5b_X12_noTray s ((s 1 23 (Int.toNat a1)))
noncomputable def g4_X12_noTray (s : XS) : XR := (s, ((-2)))
noncomputable def g2b_X12_noTray (s : XS) (r_10 : Int) (a1 : Int) : XR := if r_10 = 0 then g4_X12_noTray s else g3_X12_noTray s a1
noncomputable def g1c_X12_noTray (s : XS) (r_10 : Int) (a1 : Int) : XR := g2b_X12_noTray s r_10 a1
noncomputable def f_X12_noTray (s : XS) (a1 : Int) : XR := g1c_X12_noTray ((f_X12_within s a1 0 3).1) (((f_X12_within s a1 0 3).2)) a1
set_option maxHeartbeats 4000000 in
set_option maxRecDepth 100000 in
theorem c_X12_noTray (l : Launch) (G : GG) (Z : RZ) (ad : Nat → Nat) (ws0 : va_W) (hT : Ty G SM ad ws0) (a1 : Int32) : Mq l yX12_noTray cX12_noTray 2 (some .int) 2 G Z [.ref (ad 0), .int a1] ws0 (PI G SM ad [] ws0 (fun r u => (xso SM ad u = (f_X12_noTray (xso SM ad ws0) a1.toInt).1) ∧ (r.toInt = (f_X12_noTray (xso SM ad ws0) a1.toInt).2) ∧ ((-6) ≤ r.toInt) ∧ (r.toInt ≤ 0) ∧ ((r.toInt = -2 ∨ (0 ≤ a1.toInt ∧ a1.toInt ≤ 3))))) := by
  refine Mq.start (by decide) (Nat.le_of_ble_eq_true rfl) ?_
  intro p e s m below meth c A ls C0 hZ h hl
  have hl : lv_has ls 2 [(0, .ref (ad 0)), (1, .int a1)] := hl
  have h : Wt G SM ad A s s.heap [] ws0 := ⟨h, hT⟩
  obtain ⟨args, hargs⟩ : ∃ z, z = ([.ref (ad 0), .int a1] : List Value).toArray := ⟨_, rfl⟩
  rw [← hargs] at C0 ⊢
  have C0 : Cx p s m args meth c RX12 cX12_noTray 2 (some .int) := C0
  obtain ⟨Q, hQ⟩ : ∃ z, z = MQ below ((PI G SM ad [] ws0 (fun r u => (xso SM ad u = (f_X12_noTray (xso SM ad ws0) a1.toInt).1) ∧ (r.toInt = (f_X12_noTray (xso SM ad ws0) a1.toInt).2) ∧ ((-6) ≤ r.toInt) ∧ (r.toInt ≤ 0) ∧ ((r.toInt = -2 ∨ (0 ≤ a1.toInt ∧ a1.toInt ≤ 3))))) A) args s 0 0 A := ⟨_, rfl⟩
  rw [← hQ]
  obtain ⟨FT, hFT⟩ : ∃ z, z = f_X12_noTray (xso SM ad ws0) a1.toInt := ⟨_, rfl⟩
  have HE : FT = f_X12_noTray (xso SM ad ws0) a1.toInt := hFT
  refine lv_iload_n C0.1 C0.2.1 dX12_noTray_0 rfl (lv_at hl 1 rfl) ?_
  refine y_i2l C0 dX12_noTray_1 (fun w_1 e_2 => ?_)
  refine y_lc (v := 0) C0 (by decide) dX12_noTray_2 (fun w_3 e_4 => ?_)
  refine y_lc2 (n := 3) C0 q_1710 (by decide) dX12_noTray_3 (fun w_5 e_6 => ?_)
  refine y_ci h (y_rS (As := [.long w_1, .long w_3, .long w_5]) (rest := []) C0 hZ h (c_X12_within l G Z ad _ h.2 w_1 w_3 w_5) k_X12_within q_1580 q_1579 hl.1 rfl rfl (Nat.le_of_ble_eq_true rfl) dX12_noTray_6 ⟨Nat.le_of_ble_eq_true rfl, Nat.le_of_ble_eq_true rfl⟩ ⟨Nat.le_of_ble_eq_true rfl, Nat.le_of_ble_eq_true rfl⟩) (fun r_10 H locs ws_7 h u_8 p_9 => ?_)
  obtain ⟨e_11, e_12, e_13, e_14, e_15⟩ := p_9
  replace HE : FT = g1c_X12_noTray (xso SM ad ws_7) r_10.toInt a1.toInt := HE.trans (by rw [e_11, e_12, e_6, e_4, e_2]; rfl)
  replace HE : FT = g2b_X12_noTray (xso SM ad ws_7) r_10.toInt a1.toInt := HE.trans rfl
  refine y_if_ne (tgt := 17) C0 dX12_noTray_9 (by decide) (fun c_16 => ?_) (fun c_16 => ?_)
  · -- 9
    replace HE : FT = g3_X12_noTray (xso SM ad ws_7) a1.toInt := HE.trans (if_neg c_16)
    refine lv_aload_n C0.1 C0.2.1 dX12_noTray_17 rfl (lv_at hl 0 rfl) ?_
    refine ng_X12_rowSort C0 h kSM_0 q_1479 dX12_noTray_18 ?_
    refine lv_iload_n C0.1 C0.2.1 dX12_noTray_21 rfl (lv_at hl 1 rfl) ?_
    refine y_iald C0 h kSM_23 rfl (by decide) (o35_1 e_2 e_4 e_6 e_13 e_14 e_15 c_16) (o35_2 e_2 e_4 e_6 e_13 e_14 e_15 c_16) dX12_noTray_22 (fun v_17 e_18 e_19 e_20 => ?_)
    refine y_c1 (n := (-1)) C0 (by decide) dX12_noTray_23 (fun v_21 e_22 => ?_)
    replace HE : FT = g5b_X12_noTray (xso SM ad ws_7) v_17.toInt := HE.trans (by rw [(xg1 e_18 : v_17.toInt = (xso SM ad ws_7) 1 23 a1.toInt.toNat)]; rfl)
    refine y_icmp_ne (tgt := 32) C0 dX12_noTray_24 (by decide) (fun c_23 => ?_) (fun c_23 => ?_)
    · -- 24
      replace HE : FT = g6_X12_noTray (xso SM ad ws_7) := HE.trans (if_neg (o35_4 e_19 e_20 e_22 c_23))
      refine y_c1 (n := 0) C0 (by decide) dX12_noTray_32 (fun v_24 e_25 => ?_)
      replace HE : FT = ((xso SM ad ws_7), v_24.toInt) := HE.trans (by rw [e_25]; rfl)
      rw [hQ]
      exact y_iret C0 h u_8 ⟨(congrArg Prod.fst (HE.symm.trans hFT)), (congrArg Prod.snd (HE.symm.trans hFT)), (o35_6 e_25), (o35_7 e_25), (o35_8 e_2 e_4 e_6 e_13 e_14 e_15 c_16 e_25)⟩ dX12_noTray_33
    · -- 24
      replace HE : FT = g7_X12_noTray (xso SM ad ws_7) := HE.trans (if_pos (o35_5 e_19 e_20 e_22 c_23))
      refine y_c2 (n := (-6)) C0 (by decide) dX12_noTray_27 (fun v_26 e_27 => ?_)
      refine lv_goto (tgt := 33) C0.1 C0.2.1 dX12_noTray_29 (by decide) ?_
      replace HE : FT = ((xso SM ad ws_7), v_26.toInt) := HE.trans (by rw [e_27]; rfl)
      rw [hQ]
      exact y_iret C0 h u_8 ⟨(congrArg Prod.fst (HE.symm.trans hFT)), (congrArg Prod.snd (HE.symm.trans hFT)), (o35_9 e_27), (o35_10 e_27), (o35_11 e_2 e_4 e_6 e_13 e_14 e_15 c_16 e_27)⟩ dX12_noTray_33
  · -- 9
    replace HE : FT = g4_X12_noTray (xso SM ad ws_7) := HE.trans (if_pos c_16)
    refine y_c2 (n := (-2)) C0 (by decide) dX12_noTray_12 (fun v_28 e_29 => ?_)
    refine lv_goto (tgt := 33) C0.1 C0.2.1 dX12_noTray_14 (by decide) ?_
    replace HE : FT = ((xso SM ad ws_7), v_28.toInt) := HE.trans (by rw [e_29]; rfl)
    rw [hQ]
    exact y_iret C0 h u_8 ⟨(congrArg Prod.fst (HE.symm.trans hFT)), (congrArg Prod.snd (HE.symm.trans hFT)), (o35_12 e_29), (o35_13 e_29), (o35_14 e_2 e_4 e_6 e_13 e_14 e_15 c_16 e_29)⟩ dX12_noTray_33
noncomputable def g6_X12_fault (s : XS) : XR := (s, ((-1)))
noncomputable def g7_X12_fault (s : XS) : XR := (s, (s 0 0 14))
noncomputable def g5b_X12_fault (s : XS) (a1 : Int) : XR := if a1 = 1 then g7_X12_fault s else g6_X12_fault s
noncomputable def g3_X12_fault (s : XS) (a1 : Int) : XR := g5b_X12_fault s a1
noncomputable def g4_X12_fault (s : XS) : XR := (s, (s 0 0 13))
noncomputable def g2b_X12_fault (s : XS) (a1 : Int) : XR := if a1 = 0 then g4_X12_fault s else g3_X12_fault s a1
noncomputable def g1w_X12_fault (s : XS) (a1 : Int) : XR := g2b_X12_fault s a1
noncomputable def f_X12_fault (s : XS) (a1 : Int) : XR := g1w_X12_fault (xup s 0 0 0 0) a1
set_option maxHeartbeats 4000000 in
set_option maxRecDepth 100000 in
theorem c_X12_fault (l : Launch) (G : GG) (Z : RZ) (ad : Nat → Nat) (ws0 : va_W) (hT : Ty G SM ad ws0) (a1 : Int32) : Mq l yX12_fault cX12_fault 2 (some .int) 1 G Z [.ref (ad 0), .int a1] ws0 (PI G SM ad [0] ws0 (fun r u => (xso SM ad u = (f_X12_fault (xso SM ad ws0) a1.toInt).1) ∧ (r.toInt = (f_X12_fault (xso SM ad ws0) a1.toInt).2))) := by
  refine Mq.start (by decide) (Nat.le_of_ble_eq_true rfl) ?_
  intro p e s m below meth c A ls C0 hZ h hl
  have hl : lv_has ls 2 [(0, .ref (ad 0)), (1, .int a1)] := hl
  have h : Wt G SM ad A s s.heap [] ws0 := ⟨h, hT⟩
  obtain ⟨args, hargs⟩ : ∃ z, z = ([.ref (ad 0), .int a1] : List Value).toArray := ⟨_, rfl⟩
  rw [← hargs] at C0 ⊢
  have C0 : Cx p s m args meth c RX12 cX12_fault 2 (some .int) := C0
  obtain ⟨Q, hQ⟩ : ∃ z, z = MQ below ((PI G SM ad [0] ws0 (fun r u => (xso SM ad u = (f_X12_fault (xso SM ad ws0) a1.toInt).1) ∧ (r.toInt = (f_X12_fault (xso SM ad ws0) a1.toInt).2))) A) args s 0 0 A := ⟨_, rfl⟩
  rw [← hQ]
  obtain ⟨FT, hFT⟩ : ∃ z, z = f_X12_fault (xso SM ad ws0) a1.toInt := ⟨_, rfl⟩
  have HE : FT = f_X12_fault (xso SM ad ws0) a1.toInt := hFT
  refine lv_aload_n C0.1 C0.2.1 dX12_fault_0 rfl (lv_at hl 0 rfl) ?_
  refine y_c1 (n := 0) C0 (by decide) dX12_fault_1 (fun v_1 e_2 => ?_)
  refine np_X12_thrown C0 h kSM_0 q_1438 (le_min v_1) (le_max v_1) dX12_fault_2 (fun H locs ws_3 h u_4 Xu_4 => ?_)
  replace HE : FT = g1w_X12_fault (xso SM ad ws_3) a1.toInt := HE.trans (by rw [Xu_4, e_2]; rfl)
  refine lv_iload_n C0.1 C0.2.1 dX12_fault_5 rfl (lv_at hl 1 rfl) ?_
  replace HE : FT = g2b_X12_fault (xso SM ad ws_3) a1.toInt := HE.trans rfl
  refine y_if_ne (tgt := 16) C0 dX12_fault_6 (by decide) (fun c_5 => ?_) (fun c_5 => ?_)
  · -- 6
    replace HE : FT = g3_X12_fault (xso SM ad ws_3) a1.toInt := HE.trans (if_neg c_5)
    refine lv_iload_n C0.1 C0.2.1 dX12_fault_16 rfl (lv_at hl 1 rfl) ?_
    refine y_c1 (n := 1) C0 (by decide) dX12_fault_17 (fun v_6 e_7 => ?_)
    replace HE : FT = g5b_X12_fault (xso SM ad ws_3) a1.toInt := HE.trans rfl
    refine y_icmp_ne (tgt := 28) C0 dX12_fault_18 (by decide) (fun c_8 => ?_) (fun c_8 => ?_)
    · -- 18
      replace HE : FT = g6_X12_fault (xso SM ad ws_3) := HE.trans (if_neg (o35_16 c_5 e_7 c_8))
      refine y_c1 (n := (-1)) C0 (by decide) dX12_fault_28 (fun v_9 e_10 => ?_)
      replace HE : FT = ((xso SM ad ws_3), v_9.toInt) := HE.trans (by rw [e_10]; rfl)
      rw [hQ]
      exact y_iret C0 h (Fr.up u_4.1 kSM_0 (by decide)) ⟨(congrArg Prod.fst (HE.symm.trans hFT)), (congrArg Prod.snd (HE.symm.trans hFT))⟩ dX12_fault_29
    · -- 18
      replace HE : FT = g7_X12_fault (xso SM ad ws_3) := HE.trans (if_pos (o35_17 c_5 e_7 c_8))
      refine lv_aload_n C0.1 C0.2.1 dX12_fault_21 rfl (lv_at hl 0 rfl) ?_
      refine ng_X12_faultPlace C0 h kSM_0 q_1452 dX12_fault_22 (fun v_11 e_12 e_13 e_14 => ?_)
      refine lv_goto (tgt := 29) C0.1 C0.2.1 dX12_fault_25 (by decide) ?_
      replace HE : FT = ((xso SM ad ws_3), v_11.toInt) := HE.trans (by rw [(xg0 e_12 : v_11.toInt = (xso SM ad ws_3) 0 0 14)]; rfl)
      rw [hQ]
      exact y_iret C0 h (Fr.up u_4.1 kSM_0 (by decide)) ⟨(congrArg Prod.fst (HE.symm.trans hFT)), (congrArg Prod.snd (HE.symm.trans hFT))⟩ dX12_fault_29
  · -- 6
    replace HE : FT = g4_X12_fault (xso SM ad ws_3) := HE.trans (if_pos c_5)
    refine lv_aload_n C0.1 C0.2.1 dX12_fault_9 rfl (lv_at hl 0 rfl) ?_
    refine ng_X12_faultKind C0 h kSM_0 q_1451 dX12_fault_10 (fun v_15 e_16 e_17 e_18 => ?_)
    refine lv_goto (tgt := 29) C0.1 C0.2.1 dX12_fault_13 (by decide) ?_
    replace HE : FT = ((xso SM ad ws_3), v_15.toInt) := HE.trans (by rw [(xg0 e_16 : v_15.toInt = (xso SM ad ws_3) 0 0 13)]; rfl)
    rw [hQ]
    exact y_iret C0 h (Fr.up u_4.1 kSM_0 (by decide)) ⟨(congrArg Prod.fst (HE.symm.trans hFT)), (congrArg Prod.snd (HE.symm.trans hFT))⟩ dX12_fault_29
noncomputable def g7_X12_person (s : XS) : XR := (s, ((-8)))
noncomputable def g8_X12_person (s : XS) (a1 : Int) : XR := (s, (s 1 1 (Int.toNat (36 + a1))))
noncomputable def g9_X12_person (s : XS) (a1 : Int) : XR := (s, (s 1 1 (Int.toNat (41 + a1))))
noncomputable def g10_X12_person (s : XS) (a1 : Int) : XR := (s, (s 1 1 (Int.toNat (46 + a1))))
noncomputable def g11_X12_person (s : XS) (a1 : Int) : XR := (s, (s 1 1 (Int.toNat (51 + a1))))
noncomputable def g12_X12_person (s : XS) (a1 : Int) : XR := (s, (s 1 1 (Int.toNat (56 + a1))))
noncomputable def g6s_X12_person (s : XS) (a2 : Int) (a1 : Int) : XR := if a2 < 0 ∨ 4 < a2 then g7_X12_person s else if a2 = 0 then g8_X12_person s a1 else if a2 = 1 then g9_X12_person s a1 else if a2 = 2 then g10_X12_person s a1 else if a2 = 3 then g11_X12_person s a1 else if a2 = 4 then g12_X12_person s a1 else (s, 0)
noncomputable def g4_X12_person (s : XS) (a1 : Int) (a2 : Int) : XR := g6s_X12_person s a2 a1
noncomputable def g5_X12_person (s : XS) : XR := (s, ((-8)))
noncomputable def g3b_X12_person (s : XS) (r_10 : Int) (a1 : Int) (a2 : Int) : XR := if r_10 = 0 then g5_X12_person s else g4_X12_person s a1 a2
noncomputable def g2c_X12_person (s : XS) (r_10 : Int) (a1 : Int) (a2 : Int) : XR := g3b_X12_person s r_10 a1 a2
noncomputable def g1w_X12_person (s : XS) (a1 : Int) (a2 : Int) : XR := g2c_X12_person ((f_X12_isPerson s a1).1) (((f_X12_isPerson s a1).2)) a1 a2
noncomputable def f_X12_person (s : XS) (a1 : Int) (a2 : Int) : XR := g1w_X12_person (xup s 0 0 0 0) a1 a2
set_option maxHeartbeats 4000000 in
set_option maxRecDepth 100000 in
theorem c_X12_person (l : Launch) (G : GG) (Z : RZ) (ad : Nat → Nat) (ws0 : va_W) (hT : Ty G SM ad ws0) (a1 : Int32) (a2 : Int32) (hJ : J ws0) : Mq l yX12_person cX12_person 3 (some .int) 3 G Z [.ref (ad 0), .int a1, .int a2] ws0 (PI G SM ad [0] ws0 (fun r u => (xso SM ad u = (f_X12_person (xso SM ad ws0) a1.toInt a2.toInt).1) ∧ (r.toInt = (f_X12_person (xso SM ad ws0) a1.toInt a2.toInt).2))) := by
  refine Mq.start (by decide) (Nat.le_of_ble_eq_true rfl) ?_
  intro p e s m below meth c A ls C0 hZ h hl
  have hl : lv_has ls 3 [(0, .ref (ad 0)), (1, .int a1), (2, .int a2)] := hl
  have h : Wt G SM ad A s s.heap [] ws0 := ⟨h, hT⟩
  obtain ⟨args, hargs⟩ : ∃ z, z = ([.ref (ad 0), .int a1, .int a2] : List Value).toArray := ⟨_, rfl⟩
  rw [← hargs] at C0 ⊢
  have C0 : Cx p s m args meth c RX12 cX12_person 3 (some .int) := C0
  obtain ⟨Q, hQ⟩ : ∃ z, z = MQ below ((PI G SM ad [0] ws0 (fun r u => (xso SM ad u = (f_X12_person (xso SM ad ws0) a1.toInt a2.toInt).1) ∧ (r.toInt = (f_X12_person (xso SM ad ws0) a1.toInt a2.toInt).2))) A) args s 0 0 A := ⟨_, rfl⟩
  rw [← hQ]
  obtain ⟨FT, hFT⟩ : ∃ z, z = f_X12_person (xso SM ad ws0) a1.toInt a2.toInt := ⟨_, rfl⟩
  have HE : FT = f_X12_person (xso SM ad ws0) a1.toInt a2.toInt := hFT
  refine lv_aload_n C0.1 C0.2.1 dX12_person_0 rfl (lv_at hl 0 rfl) ?_
  refine y_c1 (n := 0) C0 (by decide) dX12_person_1 (fun v_1 e_2 => ?_)
  refine np_X12_thrown C0 h kSM_0 q_1438 (le_min v_1) (le_max v_1) dX12_person_2 (fun H locs ws_3 h u_4 Xu_4 => ?_)
  replace HE : FT = g1w_X12_person (xso SM ad ws_3) a1.toInt a2.toInt := HE.trans (by rw [Xu_4, e_2]; rfl)
  refine lv_aload_n C0.1 C0.2.1 dX12_person_5 rfl (lv_at hl 0 rfl) ?_
  refine lv_iload_n C0.1 C0.2.1 dX12_person_6 rfl (lv_at hl 1 rfl) ?_
  refine y_i2l C0 dX12_person_7 (fun w_5 e_6 => ?_)
  refine y_ci h (y_rV (As := [.long w_5]) (rest := []) C0 hZ h (c_X12_isPerson l G Z ad _ h.2 w_5 (J.pa hT hJ (Pa.ud u_4.1 (by decide)))) k_X12_isPerson q_1693 q_77 q_1691 kSM_0 rfl rfl rfl hl.1 rfl rfl (Nat.le_of_ble_eq_true rfl) dX12_person_8 ⟨Nat.le_of_ble_eq_true rfl, Nat.le_of_ble_eq_true rfl⟩ ⟨Nat.le_of_ble_eq_true rfl, Nat.le_of_ble_eq_true rfl⟩) (fun r_10 H locs ws_7 h u_8 p_9 => ?_)
  obtain ⟨e_11, e_12, e_13, e_14, e_15, e_16⟩ := p_9
  replace HE : FT = g2c_X12_person (xso SM ad ws_7) r_10.toInt a1.toInt a2.toInt := HE.trans (by rw [e_11, e_12, e_6]; rfl)
  replace HE : FT = g3b_X12_person (xso SM ad ws_7) r_10.toInt a1.toInt a2.toInt := HE.trans rfl
  refine y_if_ne (tgt := 17) C0 dX12_person_11 (by decide) (fun c_17 => ?_) (fun c_17 => ?_)
  · -- 11
    replace HE : FT = g4_X12_person (xso SM ad ws_7) a1.toInt a2.toInt := HE.trans (if_neg c_17)
    refine lv_iload_n C0.1 C0.2.1 dX12_person_17 rfl (lv_at hl 2 rfl) ?_
    replace HE : FT = g6s_X12_person (xso SM ad ws_7) a2.toInt a1.toInt := HE.trans rfl
    by_cases sw_18 : a2.toInt < 0 ∨ 4 < a2.toInt
    · refine lv_tableOut (tgt := 102) C0.1 C0.2.1 dX12_person_18 sw_18 (by decide) ?_
      replace HE : FT = g7_X12_person (xso SM ad ws_7) := HE.trans (if_pos sw_18)
      refine y_c2 (n := (-8)) C0 (by decide) dX12_person_102 (fun v_19 e_20 => ?_)
      replace HE : FT = ((xso SM ad ws_7), v_19.toInt) := HE.trans (by rw [e_20]; rfl)
      rw [hQ]
      exact y_iret C0 h (Fr.tr (Fr.up u_4.1 kSM_0 (by decide)) (Fr.mono u_8 (by decide))) ⟨(congrArg Prod.fst (HE.symm.trans hFT)), (congrArg Prod.snd (HE.symm.trans hFT))⟩ dX12_person_104
    · obtain ⟨sw_181, sw_182⟩ := not_or.mp sw_18
      rcases (show a2.toInt = 0 ∨ a2.toInt = 1 ∨ a2.toInt = 2 ∨ a2.toInt = 3 ∨ a2.toInt = 4 by omega) with sw_184 | sw_184 | sw_184 | sw_184 | sw_184
      · refine lv_tableIn (off := 34) (tgt := 52) C0.1 C0.2.1 dX12_person_18 sw_181 sw_182 (by rw [sw_184]; rfl) (by decide) ?_
        replace HE : FT = g8_X12_person (xso SM ad ws_7) a1.toInt := HE.trans ((if_neg (not_or.mpr ⟨sw_181, sw_182⟩)).trans (if_pos sw_184))
        refine lv_aload_n C0.1 C0.2.1 dX12_person_52 rfl (lv_at hl 0 rfl) ?_
        refine ng_X12_all C0 h kSM_0 q_1439 dX12_person_53 ?_
        refine y_c2 (n := 36) C0 (by decide) dX12_person_56 (fun v_21 e_22 => ?_)
        refine lv_iload_n C0.1 C0.2.1 dX12_person_58 rfl (lv_at hl 1 rfl) ?_
        refine y_add C0 (o35_18 e_6 e_13 e_14 e_15 c_17 e_22 (le_min v_21) (le_max v_21) (le_min a1) (le_max a1) (le_min r_10) (le_max r_10)) (o35_19 e_6 e_13 e_14 e_15 c_17 e_22 (le_min v_21) (le_max v_21) (le_min a1) (le_max a1) (le_min r_10) (le_max r_10)) dX12_person_59 (fun v_23 e_24 => ?_)
        refine y_iald C0 h kSM_1 rfl (by decide) (o35_20 e_6 e_13 e_14 e_15 c_17 e_22 e_24) (o35_21 e_6 e_13 e_14 e_15 c_17 e_22 e_24) dX12_person_60 (fun v_25 e_26 e_27 e_28 => ?_)
        have f_29 := o35_22 v_23.toInt.toNat (o35_23 e_6 e_13 e_14 e_15 c_17 e_22 e_24) (o35_24 e_6 e_13 e_14 e_15 c_17 e_22 e_24)
        replace HE : FT = ((xso SM ad ws_7), v_25.toInt) := HE.trans (by rw [(xg1 e_26 : v_25.toInt = (xso SM ad ws_7) 1 1 v_23.toInt.toNat), e_24, e_22]; rfl)
        rw [hQ]
        exact y_iret C0 h (Fr.tr (Fr.up u_4.1 kSM_0 (by decide)) (Fr.mono u_8 (by decide))) ⟨(congrArg Prod.fst (HE.symm.trans hFT)), (congrArg Prod.snd (HE.symm.trans hFT))⟩ dX12_person_61
      · refine lv_tableIn (off := 44) (tgt := 62) C0.1 C0.2.1 dX12_person_18 sw_181 sw_182 (by rw [sw_184]; rfl) (by decide) ?_
        replace HE : FT = g9_X12_person (xso SM ad ws_7) a1.toInt := HE.trans ((if_neg (not_or.mpr ⟨sw_181, sw_182⟩)).trans ((if_neg (fun q => absurd (sw_184.symm.trans q) (by decide))).trans (if_pos sw_184)))
        refine lv_aload_n C0.1 C0.2.1 dX12_person_62 rfl (lv_at hl 0 rfl) ?_
        refine ng_X12_all C0 h kSM_0 q_1439 dX12_person_63 ?_
        refine y_c2 (n := 41) C0 (by decide) dX12_person_66 (fun v_30 e_31 => ?_)
        refine lv_iload_n C0.1 C0.2.1 dX12_person_68 rfl (lv_at hl 1 rfl) ?_
        refine y_add C0 (o35_25 e_6 e_13 e_14 e_15 c_17 e_31 (le_min v_30) (le_max v_30) (le_min a1) (le_max a1) (le_min r_10) (le_max r_10)) (o35_26 e_6 e_13 e_14 e_15 c_17 e_31 (le_min v_30) (le_max v_30) (le_min a1) (le_max a1) (le_min r_10) (le_max r_10)) dX12_person_69 (fun v_32 e_33 => ?_)
        refine y_iald C0 h kSM_1 rfl (by decide) (o35_27 e_6 e_13 e_14 e_15 c_17 e_31 e_33) (o35_28 e_6 e_13 e_14 e_15 c_17 e_31 e_33) dX12_person_70 (fun v_34 e_35 e_36 e_37 => ?_)
        have f_38 := o35_29 v_32.toInt.toNat (o35_30 e_6 e_13 e_14 e_15 c_17 e_31 e_33) (o35_31 e_6 e_13 e_14 e_15 c_17 e_31 e_33)
        replace HE : FT = ((xso SM ad ws_7), v_34.toInt) := HE.trans (by rw [(xg1 e_35 : v_34.toInt = (xso SM ad ws_7) 1 1 v_32.toInt.toNat), e_33, e_31]; rfl)
        rw [hQ]
        exact y_iret C0 h (Fr.tr (Fr.up u_4.1 kSM_0 (by decide)) (Fr.mono u_8 (by decide))) ⟨(congrArg Prod.fst (HE.symm.trans hFT)), (congrArg Prod.snd (HE.symm.trans hFT))⟩ dX12_person_71
      · refine lv_tableIn (off := 54) (tgt := 72) C0.1 C0.2.1 dX12_person_18 sw_181 sw_182 (by rw [sw_184]; rfl) (by decide) ?_
        replace HE : FT = g10_X12_person (xso SM ad ws_7) a1.toInt := HE.trans ((if_neg (not_or.mpr ⟨sw_181, sw_182⟩)).trans ((if_neg (fun q => absurd (sw_184.symm.trans q) (by decide))).trans ((if_neg (fun q => absurd (sw_184.symm.trans q) (by decide))).trans (if_pos sw_184))))
        refine lv_aload_n C0.1 C0.2.1 dX12_person_72 rfl (lv_at hl 0 rfl) ?_
        refine ng_X12_all C0 h kSM_0 q_1439 dX12_person_73 ?_
        refine y_c2 (n := 46) C0 (by decide) dX12_person_76 (fun v_39 e_40 => ?_)
        refine lv_iload_n C0.1 C0.2.1 dX12_person_78 rfl (lv_at hl 1 rfl) ?_
        refine y_add C0 (o35_32 e_6 e_13 e_14 e_15 c_17 e_40 (le_min v_39) (le_max v_39) (le_min a1) (le_max a1) (le_min r_10) (le_max r_10)) (o35_33 e_6 e_13 e_14 e_15 c_17 e_40 (le_min v_39) (le_max v_39) (le_min a1) (le_max a1) (le_min r_10) (le_max r_10)) dX12_person_79 (fun v_41 e_42 => ?_)
        refine y_iald C0 h kSM_1 rfl (by decide) (o35_34 e_6 e_13 e_14 e_15 c_17 e_40 e_42) (o35_35 e_6 e_13 e_14 e_15 c_17 e_40 e_42) dX12_person_80 (fun v_43 e_44 e_45 e_46 => ?_)
        have f_47 := o35_36 v_41.toInt.toNat (o35_37 e_6 e_13 e_14 e_15 c_17 e_40 e_42) (o35_38 e_6 e_13 e_14 e_15 c_17 e_40 e_42)
        replace HE : FT = ((xso SM ad ws_7), v_43.toInt) := HE.trans (by rw [(xg1 e_44 : v_43.toInt = (xso SM ad ws_7) 1 1 v_41.toInt.toNat), e_42, e_40]; rfl)
        rw [hQ]
        exact y_iret C0 h (Fr.tr (Fr.up u_4.1 kSM_0 (by decide)) (Fr.mono u_8 (by decide))) ⟨(congrArg Prod.fst (HE.symm.trans hFT)), (congrArg Prod.snd (HE.symm.trans hFT))⟩ dX12_person_81
      · refine lv_tableIn (off := 64) (tgt := 82) C0.1 C0.2.1 dX12_person_18 sw_181 sw_182 (by rw [sw_184]; rfl) (by decide) ?_
        replace HE : FT = g11_X12_person (xso SM ad ws_7) a1.toInt := HE.trans ((if_neg (not_or.mpr ⟨sw_181, sw_182⟩)).trans ((if_neg (fun q => absurd (sw_184.symm.trans q) (by decide))).trans ((if_neg (fun q => absurd (sw_184.symm.trans q) (by decide))).trans ((if_neg (fun q => absurd (sw_184.symm.trans q) (by decide))).trans (if_pos sw_184)))))
        refine lv_aload_n C0.1 C0.2.1 dX12_person_82 rfl (lv_at hl 0 rfl) ?_
        refine ng_X12_all C0 h kSM_0 q_1439 dX12_person_83 ?_
        refine y_c2 (n := 51) C0 (by decide) dX12_person_86 (fun v_48 e_49 => ?_)
        refine lv_iload_n C0.1 C0.2.1 dX12_person_88 rfl (lv_at hl 1 rfl) ?_
        refine y_add C0 (o35_39 e_6 e_13 e_14 e_15 c_17 e_49 (le_min v_48) (le_max v_48) (le_min a1) (le_max a1) (le_min r_10) (le_max r_10)) (o35_40 e_6 e_13 e_14 e_15 c_17 e_49 (le_min v_48) (le_max v_48) (le_min a1) (le_max a1) (le_min r_10) (le_max r_10)) dX12_person_89 (fun v_50 e_51 => ?_)
        refine y_iald C0 h kSM_1 rfl (by decide) (o35_41 e_6 e_13 e_14 e_15 c_17 e_49 e_51) (o35_42 e_6 e_13 e_14 e_15 c_17 e_49 e_51) dX12_person_90 (fun v_52 e_53 e_54 e_55 => ?_)
        replace HE : FT = ((xso SM ad ws_7), v_52.toInt) := HE.trans (by rw [(xg1 e_53 : v_52.toInt = (xso SM ad ws_7) 1 1 v_50.toInt.toNat), e_51, e_49]; rfl)
        rw [hQ]
        exact y_iret C0 h (Fr.tr (Fr.up u_4.1 kSM_0 (by decide)) (Fr.mono u_8 (by decide))) ⟨(congrArg Prod.fst (HE.symm.trans hFT)), (congrArg Prod.snd (HE.symm.trans hFT))⟩ dX12_person_91
      · refine lv_tableIn (off := 74) (tgt := 92) C0.1 C0.2.1 dX12_person_18 sw_181 sw_182 (by rw [sw_184]; rfl) (by decide) ?_
        replace HE : FT = g12_X12_person (xso SM ad ws_7) a1.toInt := HE.trans ((if_neg (not_or.mpr ⟨sw_181, sw_182⟩)).trans ((if_neg (fun q => absurd (sw_184.symm.trans q) (by decide))).trans ((if_neg (fun q => absurd (sw_184.symm.trans q) (by decide))).trans ((if_neg (fun q => absurd (sw_184.symm.trans q) (by decide))).trans ((if_neg (fun q => absurd (sw_184.symm.trans q) (by decide))).trans (if_pos sw_184))))))
        refine lv_aload_n C0.1 C0.2.1 dX12_person_92 rfl (lv_at hl 0 rfl) ?_
        refine ng_X12_all C0 h kSM_0 q_1439 dX12_person_93 ?_
        refine y_c2 (n := 56) C0 (by decide) dX12_person_96 (fun v_56 e_57 => ?_)
        refine lv_iload_n C0.1 C0.2.1 dX12_person_98 rfl (lv_at hl 1 rfl) ?_
        refine y_add C0 (o35_43 e_6 e_13 e_14 e_15 c_17 e_57 (le_min v_56) (le_max v_56) (le_min a1) (le_max a1) (le_min r_10) (le_max r_10)) (o35_44 e_6 e_13 e_14 e_15 c_17 e_57 (le_min v_56) (le_max v_56) (le_min a1) (le_max a1) (le_min r_10) (le_max r_10)) dX12_person_99 (fun v_58 e_59 => ?_)
        refine y_iald C0 h kSM_1 rfl (by decide) (o35_45 e_6 e_13 e_14 e_15 c_17 e_57 e_59) (o35_46 e_6 e_13 e_14 e_15 c_17 e_57 e_59) dX12_person_100 (fun v_60 e_61 e_62 e_63 => ?_)
        replace HE : FT = ((xso SM ad ws_7), v_60.toInt) := HE.trans (by rw [(xg1 e_61 : v_60.toInt = (xso SM ad ws_7) 1 1 v_58.toInt.toNat), e_59, e_57]; rfl)
        rw [hQ]
        exact y_iret C0 h (Fr.tr (Fr.up u_4.1 kSM_0 (by decide)) (Fr.mono u_8 (by decide))) ⟨(congrArg Prod.fst (HE.symm.trans hFT)), (congrArg Prod.snd (HE.symm.trans hFT))⟩ dX12_person_101
  · -- 11
    replace HE : FT = g5_X12_person (xso SM ad ws_7) := HE.trans (if_pos c_17)
    refine y_c2 (n := (-8)) C0 (by decide) dX12_person_14 (fun v_64 e_65 => ?_)
    replace HE : FT = ((xso SM ad ws_7), v_64.toInt) := HE.trans (by rw [e_65]; rfl)
    rw [hQ]
    exact y_iret C0 h (Fr.tr (Fr.up u_4.1 kSM_0 (by decide)) (Fr.mono u_8 (by decide))) ⟨(congrArg Prod.fst (HE.symm.trans hFT)), (congrArg Prod.snd (HE.symm.trans hFT))⟩ dX12_person_16
noncomputable def g4_X12_street (s : XS) : XR := (s, ((-2)))
noncomputable def g8_X12_street (s : XS) : XR := (s, ((-2)))
noncomputable def g10c_X12_street (s : XS) (r_35 : Int) : XR := (s, r_35)
noncomputable def g9_X12_street (s : XS) (a1 : Int) (a2 : Int) : XR := g10c_X12_street ((f_X12_streetFrom s a1 a2).1) (((f_X12_streetFrom s a1 a2).2))
noncomputable def g7b_X12_street (s : XS) (r_23 : Int) (a1 : Int) (a2 : Int) : XR := if r_23 = 0 then g8_X12_street s else g9_X12_street s a1 a2
noncomputable def g6c_X12_street (s : XS) (r_23 : Int) (a1 : Int) (a2 : Int) : XR := g7b_X12_street s r_23 a1 a2
noncomputable def g5_X12_street (s : XS) (a1 : Int) (a2 : Int) : XR := g6c_X12_street ((f_X12_isDirection s a2).1) (((f_X12_isDirection s a2).2)) a1 a2
noncomputable def g3b_X12_street (s : XS) (r_10 : Int) (a1 : Int) (a2 : Int) : XR := if r_10 = 0 then g4_X12_street s else g5_X12_street s a1 a2
noncomputable def g2c_X12_street (s : XS) (r_10 : Int) (a1 : Int) (a2 : Int) : XR := g3b_X12_street s r_10 a1 a2
noncomputable def g1w_X12_street (s : XS) (a1 : Int) (a2 : Int) : XR := g2c_X12_street ((f_X12_isCrossing s a1).1) (((f_X12_isCrossing s a1).2)) a1 a2
noncomputable def f_X12_street (s : XS) (a1 : Int) (a2 : Int) : XR := g1w_X12_street (xup s 0 0 0 0) a1 a2
set_option maxHeartbeats 4000000 in
set_option maxRecDepth 100000 in
theorem c_X12_street (l : Launch) (G : GG) (Z : RZ) (ad : Nat → Nat) (ws0 : va_W) (hT : Ty G SM ad ws0) (a1 : Int32) (a2 : Int32) (hJ : J ws0) : Mq l yX12_street cX12_street 3 (some .int) 4 G Z [.ref (ad 0), .int a1, .int a2] ws0 (PI G SM ad [0] ws0 (fun r u => (xso SM ad u = (f_X12_street (xso SM ad ws0) a1.toInt a2.toInt).1) ∧ (r.toInt = (f_X12_street (xso SM ad ws0) a1.toInt a2.toInt).2) ∧ ((-2) ≤ r.toInt) ∧ (r.toInt ≤ 24))) := by
  refine Mq.start (by decide) (Nat.le_of_ble_eq_true rfl) ?_
  intro p e s m below meth c A ls C0 hZ h hl
  have hl : lv_has ls 3 [(0, .ref (ad 0)), (1, .int a1), (2, .int a2)] := hl
  have h : Wt G SM ad A s s.heap [] ws0 := ⟨h, hT⟩
  obtain ⟨args, hargs⟩ : ∃ z, z = ([.ref (ad 0), .int a1, .int a2] : List Value).toArray := ⟨_, rfl⟩
  rw [← hargs] at C0 ⊢
  have C0 : Cx p s m args meth c RX12 cX12_street 3 (some .int) := C0
  obtain ⟨Q, hQ⟩ : ∃ z, z = MQ below ((PI G SM ad [0] ws0 (fun r u => (xso SM ad u = (f_X12_street (xso SM ad ws0) a1.toInt a2.toInt).1) ∧ (r.toInt = (f_X12_street (xso SM ad ws0) a1.toInt a2.toInt).2) ∧ ((-2) ≤ r.toInt) ∧ (r.toInt ≤ 24))) A) args s 0 0 A := ⟨_, rfl⟩
  rw [← hQ]
  obtain ⟨FT, hFT⟩ : ∃ z, z = f_X12_street (xso SM ad ws0) a1.toInt a2.toInt := ⟨_, rfl⟩
  have HE : FT = f_X12_street (xso SM ad ws0) a1.toInt a2.toInt := hFT
  refine lv_aload_n C0.1 C0.2.1 dX12_street_0 rfl (lv_at hl 0 rfl) ?_
  refine y_c1 (n := 0) C0 (by decide) dX12_street_1 (fun v_1 e_2 => ?_)
  refine np_X12_thrown C0 h kSM_0 q_1438 (le_min v_1) (le_max v_1) dX12_street_2 (fun H locs ws_3 h u_4 Xu_4 => ?_)
  replace HE : FT = g1w_X12_street (xso SM ad ws_3) a1.toInt a2.toInt := HE.trans (by rw [Xu_4, e_2]; rfl)
  refine lv_aload_n C0.1 C0.2.1 dX12_street_5 rfl (lv_at hl 0 rfl) ?_
  refine lv_iload_n C0.1 C0.2.1 dX12_street_6 rfl (lv_at hl 1 rfl) ?_
  refine y_i2l C0 dX12_street_7 (fun w_5 e_6 => ?_)
  refine y_ci h (y_rV (As := [.long w_5]) (rest := []) C0 hZ h (c_X12_isCrossing l G Z ad _ h.2 w_5) k_X12_isCrossing q_1701 q_78 q_1699 kSM_0 rfl rfl rfl hl.1 rfl rfl (Nat.le_of_ble_eq_true rfl) dX12_street_8 ⟨Nat.le_of_ble_eq_true rfl, Nat.le_of_ble_eq_true rfl⟩ ⟨Nat.le_of_ble_eq_true rfl, Nat.le_of_ble_eq_true rfl⟩) (fun r_10 H locs ws_7 h u_8 p_9 => ?_)
  obtain ⟨e_11, e_12, e_13, e_14, e_15, e_16⟩ := p_9
  replace HE : FT = g2c_X12_street (xso SM ad ws_7) r_10.toInt a1.toInt a2.toInt := HE.trans (by rw [e_11, e_12, e_6]; rfl)
  replace HE : FT = g3b_X12_street (xso SM ad ws_7) r_10.toInt a1.toInt a2.toInt := HE.trans rfl
  refine y_if_eq (tgt := 30) C0 dX12_street_11 (by decide) (fun c_17 => ?_) (fun c_17 => ?_)
  · -- 11
    replace HE : FT = g4_X12_street (xso SM ad ws_7) := HE.trans (if_pos c_17)
    refine y_c2 (n := (-2)) C0 (by decide) dX12_street_30 (fun v_18 e_19 => ?_)
    replace HE : FT = ((xso SM ad ws_7), v_18.toInt) := HE.trans (by rw [e_19]; rfl)
    rw [hQ]
    exact y_iret C0 h (Fr.tr (Fr.up u_4.1 kSM_0 (by decide)) (Fr.mono u_8 (by decide))) ⟨(congrArg Prod.fst (HE.symm.trans hFT)), (congrArg Prod.snd (HE.symm.trans hFT)), (o35_47 e_19), (o35_48 e_19)⟩ dX12_street_32
  · -- 11
    replace HE : FT = g5_X12_street (xso SM ad ws_7) a1.toInt a2.toInt := HE.trans (if_neg c_17)
    refine lv_iload_n C0.1 C0.2.1 dX12_street_14 rfl (lv_at hl 2 rfl) ?_
    refine y_ci h (y_rS (As := [.int a2]) (rest := []) C0 hZ h (c_X12_isDirection l G Z ad _ h.2 a2) k_X12_isDirection q_1708 q_1707 hl.1 rfl rfl (Nat.le_of_ble_eq_true rfl) dX12_street_15 ⟨Nat.le_of_ble_eq_true rfl, Nat.le_of_ble_eq_true rfl⟩ ⟨Nat.le_of_ble_eq_true rfl, Nat.le_of_ble_eq_true rfl⟩) (fun r_23 H locs ws_20 h u_21 p_22 => ?_)
    obtain ⟨e_24, e_25, e_26, e_27, e_28⟩ := p_22
    replace HE : FT = g6c_X12_street (xso SM ad ws_20) r_23.toInt a1.toInt a2.toInt := HE.trans (by rw [e_24, e_25]; rfl)
    replace HE : FT = g7b_X12_street (xso SM ad ws_20) r_23.toInt a1.toInt a2.toInt := HE.trans rfl
    refine y_if_eq (tgt := 30) C0 dX12_street_18 (by decide) (fun c_29 => ?_) (fun c_29 => ?_)
    · -- 18
      replace HE : FT = g8_X12_street (xso SM ad ws_20) := HE.trans (if_pos c_29)
      refine y_c2 (n := (-2)) C0 (by decide) dX12_street_30 (fun v_30 e_31 => ?_)
      replace HE : FT = ((xso SM ad ws_20), v_30.toInt) := HE.trans (by rw [e_31]; rfl)
      rw [hQ]
      exact y_iret C0 h (Fr.tr (Fr.tr (Fr.up u_4.1 kSM_0 (by decide)) (Fr.mono u_8 (by decide))) (Fr.mono u_21 (by decide))) ⟨(congrArg Prod.fst (HE.symm.trans hFT)), (congrArg Prod.snd (HE.symm.trans hFT)), (o35_47 e_31), (o35_48 e_31)⟩ dX12_street_32
    · -- 18
      replace HE : FT = g9_X12_street (xso SM ad ws_20) a1.toInt a2.toInt := HE.trans (if_neg c_29)
      refine lv_aload_n C0.1 C0.2.1 dX12_street_21 rfl (lv_at hl 0 rfl) ?_
      refine lv_iload_n C0.1 C0.2.1 dX12_street_22 rfl (lv_at hl 1 rfl) ?_
      refine lv_iload_n C0.1 C0.2.1 dX12_street_23 rfl (lv_at hl 2 rfl) ?_
      refine y_ci h (y_rV (As := [.int a1, .int a2]) (rest := []) C0 hZ h (c_X12_streetFrom l G Z ad _ h.2 a1 a2 (o35_49 e_6 e_13 e_14 e_15 c_17) (o35_50 e_6 e_13 e_14 e_15 c_17) (o35_51 e_26 e_27 e_28 c_29) (o35_52 e_26 e_27 e_28 c_29) (Laid.pa (Or.resolve_left e_16 (o35_53 e_6 e_13 e_14 e_15 c_17)) (Pa.tr (Pa.fr u_8 (by decide)) (Pa.fr u_21 (by decide))))) k_X12_streetFrom q_1713 q_80 q_1711 kSM_0 rfl rfl rfl hl.1 rfl rfl (Nat.le_of_ble_eq_true rfl) dX12_street_24 ⟨Nat.le_of_ble_eq_true rfl, Nat.le_of_ble_eq_true rfl⟩ ⟨Nat.le_of_ble_eq_true rfl, Nat.le_of_ble_eq_true rfl⟩) (fun r_35 H locs ws_32 h u_33 p_34 => ?_)
      obtain ⟨e_36, e_37, e_38, e_39, e_40⟩ := p_34
      replace HE : FT = g10c_X12_street (xso SM ad ws_32) r_35.toInt := HE.trans (by rw [e_36, e_37]; rfl)
      refine lv_goto (tgt := 32) C0.1 C0.2.1 dX12_street_27 (by decide) ?_
      replace HE : FT = ((xso SM ad ws_32), r_35.toInt) := HE.trans rfl
      rw [hQ]
      exact y_iret C0 h (Fr.tr (Fr.tr (Fr.tr (Fr.up u_4.1 kSM_0 (by decide)) (Fr.mono u_8 (by decide))) (Fr.mono u_21 (by decide))) (Fr.mono u_33 (by decide))) ⟨(congrArg Prod.fst (HE.symm.trans hFT)), (congrArg Prod.snd (HE.symm.trans hFT)), (o35_54 e_38 e_39), (o35_55 e_38 e_39)⟩ dX12_street_32
noncomputable def g7_X12_crossing (s : XS) : XR := (s, ((-2)))
noncomputable def g9c_X12_crossing (s : XS) (r_28 : Int) : XR := (s, r_28)
noncomputable def g8_X12_crossing (s : XS) (a1 : Int) : XR := g9c_X12_crossing ((f_X12_priceOf s a1 0 0).1) (((f_X12_priceOf s a1 0 0).2))
noncomputable def g10_X12_crossing (s : XS) (a1 : Int) : XR := (s, (s 1 1 (Int.toNat (61 + a1))))
noncomputable def g14_X12_crossing (s : XS) : XR := (s, 0)
noncomputable def g15_X12_crossing (s : XS) : XR := (s, 1)
noncomputable def g13b_X12_crossing (s : XS) (r_45 : Int) : XR := if r_45 = 0 then g14_X12_crossing s else g15_X12_crossing s
noncomputable def g12c_X12_crossing (s : XS) (r_45 : Int) : XR := g13b_X12_crossing s r_45
noncomputable def g11_X12_crossing (s : XS) (a1 : Int) : XR := g12c_X12_crossing ((f_X12_isFreeIn s a1 0).1) (((f_X12_isFreeIn s a1 0).2))
noncomputable def g18_X12_crossing (s : XS) : XR := (s, 0)
noncomputable def g19_X12_crossing (s : XS) (a1 : Int) : XR := (s, (Xisub (s 1 1 (Int.toNat (86 + a1))) (s 1 1 (Int.toNat 111))))
noncomputable def g17b_X12_crossing (s : XS) (v_66 : Int) (v_60 : Int) (a1 : Int) : XR := if v_66 < v_60 then g19_X12_crossing s a1 else g18_X12_crossing s
noncomputable def g16_X12_crossing (s : XS) (a1 : Int) : XR := g17b_X12_crossing s ((s 1 1 (Int.toNat 111))) ((s 1 1 (Int.toNat (86 + a1)))) a1
noncomputable def g21c_X12_crossing (s : XS) (r_96 : Int) : XR := (s, r_96)
noncomputable def g20_X12_crossing (s : XS) (a1 : Int) : XR := g21c_X12_crossing ((f_X12_streetsFrom s a1).1) (((f_X12_streetsFrom s a1).2))
noncomputable def g6s_X12_crossing (s : XS) (a2 : Int) (a1 : Int) : XR := if a2 < 0 ∨ 4 < a2 then g7_X12_crossing s else if a2 = 0 then g8_X12_crossing s a1 else if a2 = 1 then g10_X12_crossing s a1 else if a2 = 2 then g11_X12_crossing s a1 else if a2 = 3 then g16_X12_crossing s a1 else if a2 = 4 then g20_X12_crossing s a1 else (s, 0)
noncomputable def g4_X12_crossing (s : XS) (a1 : Int) (a2 : Int) : XR := g6s_X12_crossing s a2 a1
noncomputable def g5_X12_crossing (s : XS) : XR := (s, ((-2)))
noncomputable def g3b_X12_crossing (s : XS) (r_10 : Int) (a1 : Int) (a2 : Int) : XR := if r_10 = 0 then g5_X12_crossing s else g4_X12_crossing s a1 a2
noncomputable def g2c_X12_crossing (s : XS) (r_10 : Int) (a1 : Int) (a2 : Int) : XR := g3b_X12_crossing s r_10 a1 a2
noncomputable def g1w_X12_crossing (s : XS) (a1 : Int) (a2 : Int) : XR := g2c_X12_crossing ((f_X12_isCrossing s a1).1) (((f_X12_isCrossing s a1).2)) a1 a2
noncomputable def f_X12_crossing (s : XS) (a1 : Int) (a2 : Int) : XR := g1w_X12_crossing (xup s 0 0 0 0) a1 a2
set_option maxHeartbeats 4000000 in
set_option maxRecDepth 100000 in
theorem c_X12_crossing (l : Launch) (G : GG) (Z : RZ) (ad : Nat → Nat) (ws0 : va_W) (hT : Ty G SM ad ws0) (a1 : Int32) (a2 : Int32) (hJ : J ws0) : Mq l yX12_crossing cX12_crossing 3 (some .int) 5 G Z [.ref (ad 0), .int a1, .int a2] ws0 (PI G SM ad [0, 5] ws0 (fun r u => (xso SM ad u = (f_X12_crossing (xso SM ad ws0) a1.toInt a2.toInt).1) ∧ (r.toInt = (f_X12_crossing (xso SM ad ws0) a1.toInt a2.toInt).2))) := by
  refine Mq.start (by decide) (Nat.le_of_ble_eq_true rfl) ?_
  intro p e s m below meth c A ls C0 hZ h hl
  have hl : lv_has ls 3 [(0, .ref (ad 0)), (1, .int a1), (2, .int a2)] := hl
  have h : Wt G SM ad A s s.heap [] ws0 := ⟨h, hT⟩
  obtain ⟨args, hargs⟩ : ∃ z, z = ([.ref (ad 0), .int a1, .int a2] : List Value).toArray := ⟨_, rfl⟩
  rw [← hargs] at C0 ⊢
  have C0 : Cx p s m args meth c RX12 cX12_crossing 3 (some .int) := C0
  obtain ⟨Q, hQ⟩ : ∃ z, z = MQ below ((PI G SM ad [0, 5] ws0 (fun r u => (xso SM ad u = (f_X12_crossing (xso SM ad ws0) a1.toInt a2.toInt).1) ∧ (r.toInt = (f_X12_crossing (xso SM ad ws0) a1.toInt a2.toInt).2))) A) args s 0 0 A := ⟨_, rfl⟩
  rw [← hQ]
  obtain ⟨FT, hFT⟩ : ∃ z, z = f_X12_crossing (xso SM ad ws0) a1.toInt a2.toInt := ⟨_, rfl⟩
  have HE : FT = f_X12_crossing (xso SM ad ws0) a1.toInt a2.toInt := hFT
  refine lv_aload_n C0.1 C0.2.1 dX12_crossing_0 rfl (lv_at hl 0 rfl) ?_
  refine y_c1 (n := 0) C0 (by decide) dX12_crossing_1 (fun v_1 e_2 => ?_)
  refine np_X12_thrown C0 h kSM_0 q_1438 (le_min v_1) (le_max v_1) dX12_crossing_2 (fun H locs ws_3 h u_4 Xu_4 => ?_)
  replace HE : FT = g1w_X12_crossing (xso SM ad ws_3) a1.toInt a2.toInt := HE.trans (by rw [Xu_4, e_2]; rfl)
  refine lv_aload_n C0.1 C0.2.1 dX12_crossing_5 rfl (lv_at hl 0 rfl) ?_
  refine lv_iload_n C0.1 C0.2.1 dX12_crossing_6 rfl (lv_at hl 1 rfl) ?_
  refine y_i2l C0 dX12_crossing_7 (fun w_5 e_6 => ?_)
  refine y_ci h (y_rV (As := [.long w_5]) (rest := []) C0 hZ h (c_X12_isCrossing l G Z ad _ h.2 w_5) k_X12_isCrossing q_1701 q_78 q_1699 kSM_0 rfl rfl rfl hl.1 rfl rfl (Nat.le_of_ble_eq_true rfl) dX12_crossing_8 ⟨Nat.le_of_ble_eq_true rfl, Nat.le_of_ble_eq_true rfl⟩ ⟨Nat.le_of_ble_eq_true rfl, Nat.le_of_ble_eq_true rfl⟩) (fun r_10 H locs ws_7 h u_8 p_9 => ?_)
  obtain ⟨e_11, e_12, e_13, e_14, e_15, e_16⟩ := p_9
  replace HE : FT = g2c_X12_crossing (xso SM ad ws_7) r_10.toInt a1.toInt a2.toInt := HE.trans (by rw [e_11, e_12, e_6]; rfl)
  replace HE : FT = g3b_X12_crossing (xso SM ad ws_7) r_10.toInt a1.toInt a2.toInt := HE.trans rfl
  refine y_if_ne (tgt := 17) C0 dX12_crossing_11 (by decide) (fun c_17 => ?_) (fun c_17 => ?_)
  · -- 11
    replace HE : FT = g4_X12_crossing (xso SM ad ws_7) a1.toInt a2.toInt := HE.trans (if_neg c_17)
    refine lv_iload_n C0.1 C0.2.1 dX12_crossing_17 rfl (lv_at hl 2 rfl) ?_
    replace HE : FT = g6s_X12_crossing (xso SM ad ws_7) a2.toInt a1.toInt := HE.trans rfl
    by_cases sw_18 : a2.toInt < 0 ∨ 4 < a2.toInt
    · refine lv_tableOut (tgt := 132) C0.1 C0.2.1 dX12_crossing_18 sw_18 (by decide) ?_
      replace HE : FT = g7_X12_crossing (xso SM ad ws_7) := HE.trans (if_pos sw_18)
      refine y_c2 (n := (-2)) C0 (by decide) dX12_crossing_132 (fun v_19 e_20 => ?_)
      replace HE : FT = ((xso SM ad ws_7), v_19.toInt) := HE.trans (by rw [e_20]; rfl)
      rw [hQ]
      exact y_iret C0 h (Fr.tr (Fr.up u_4.1 kSM_0 (by decide)) (Fr.mono u_8 (by decide))) ⟨(congrArg Prod.fst (HE.symm.trans hFT)), (congrArg Prod.snd (HE.symm.trans hFT))⟩ dX12_crossing_134
    · obtain ⟨sw_181, sw_182⟩ := not_or.mp sw_18
      rcases (show a2.toInt = 0 ∨ a2.toInt = 1 ∨ a2.toInt = 2 ∨ a2.toInt = 3 ∨ a2.toInt = 4 by omega) with sw_184 | sw_184 | sw_184 | sw_184 | sw_184
      · refine lv_tableIn (off := 34) (tgt := 52) C0.1 C0.2.1 dX12_crossing_18 sw_181 sw_182 (by rw [sw_184]; rfl) (by decide) ?_
        replace HE : FT = g8_X12_crossing (xso SM ad ws_7) a1.toInt := HE.trans ((if_neg (not_or.mpr ⟨sw_181, sw_182⟩)).trans (if_pos sw_184))
        refine lv_aload_n C0.1 C0.2.1 dX12_crossing_52 rfl (lv_at hl 0 rfl) ?_
        refine lv_iload_n C0.1 C0.2.1 dX12_crossing_53 rfl (lv_at hl 1 rfl) ?_
        refine y_c1 (n := 0) C0 (by decide) dX12_crossing_54 (fun v_21 e_22 => ?_)
        refine y_c1 (n := 0) C0 (by decide) dX12_crossing_55 (fun v_23 e_24 => ?_)
        refine y_ci h (y_rV (As := [.int a1, .int v_21, .int v_23]) (rest := []) C0 hZ h (c_X12_priceOf l G Z ad _ h.2 a1 v_21 v_23 (o35_49 e_6 e_13 e_14 e_15 c_17) (o35_50 e_6 e_13 e_14 e_15 c_17) (o35_56 e_24) (o35_57 e_24) (J.pa hT hJ (Pa.tr (Pa.ud u_4.1 (by decide)) (Pa.fr u_8 (by decide)))) (Laid.pa (Or.resolve_left e_16 (o35_53 e_6 e_13 e_14 e_15 c_17)) (Pa.fr u_8 (by decide)))) k_X12_priceOf q_1724 q_81 q_1722 kSM_0 rfl rfl rfl hl.1 rfl rfl (Nat.le_of_ble_eq_true rfl) dX12_crossing_56 ⟨Nat.le_of_ble_eq_true rfl, Nat.le_of_ble_eq_true rfl⟩ ⟨Nat.le_of_ble_eq_true rfl, Nat.le_of_ble_eq_true rfl⟩) (fun r_28 H locs ws_25 h u_26 p_27 => ?_)
        obtain ⟨e_29, e_30, e_31⟩ := p_27
        replace HE : FT = g9c_X12_crossing (xso SM ad ws_25) r_28.toInt := HE.trans (by rw [e_29, e_30, e_24, e_22]; rfl)
        replace HE : FT = ((xso SM ad ws_25), r_28.toInt) := HE.trans rfl
        rw [hQ]
        exact y_iret C0 h (Fr.tr (Fr.tr (Fr.up u_4.1 kSM_0 (by decide)) (Fr.mono u_8 (by decide))) (Fr.mono u_26 (by decide))) ⟨(congrArg Prod.fst (HE.symm.trans hFT)), (congrArg Prod.snd (HE.symm.trans hFT))⟩ dX12_crossing_59
      · refine lv_tableIn (off := 42) (tgt := 60) C0.1 C0.2.1 dX12_crossing_18 sw_181 sw_182 (by rw [sw_184]; rfl) (by decide) ?_
        replace HE : FT = g10_X12_crossing (xso SM ad ws_7) a1.toInt := HE.trans ((if_neg (not_or.mpr ⟨sw_181, sw_182⟩)).trans ((if_neg (fun q => absurd (sw_184.symm.trans q) (by decide))).trans (if_pos sw_184)))
        refine lv_aload_n C0.1 C0.2.1 dX12_crossing_60 rfl (lv_at hl 0 rfl) ?_
        refine ng_X12_all C0 h kSM_0 q_1439 dX12_crossing_61 ?_
        refine y_c2 (n := 61) C0 (by decide) dX12_crossing_64 (fun v_32 e_33 => ?_)
        refine lv_iload_n C0.1 C0.2.1 dX12_crossing_66 rfl (lv_at hl 1 rfl) ?_
        refine y_add C0 (o35_58 e_6 e_13 e_14 e_15 c_17 e_33 (le_min v_32) (le_max v_32) (le_min a1) (le_max a1) (le_min r_10) (le_max r_10)) (o35_59 e_6 e_13 e_14 e_15 c_17 e_33 (le_min v_32) (le_max v_32) (le_min a1) (le_max a1) (le_min r_10) (le_max r_10)) dX12_crossing_67 (fun v_34 e_35 => ?_)
        refine y_iald C0 h kSM_1 rfl (by decide) (o35_60 e_6 e_13 e_14 e_15 c_17 e_33 e_35) (o35_61 e_6 e_13 e_14 e_15 c_17 e_33 e_35) dX12_crossing_68 (fun v_36 e_37 e_38 e_39 => ?_)
        replace HE : FT = ((xso SM ad ws_7), v_36.toInt) := HE.trans (by rw [(xg1 e_37 : v_36.toInt = (xso SM ad ws_7) 1 1 v_34.toInt.toNat), e_35, e_33]; rfl)
        rw [hQ]
        exact y_iret C0 h (Fr.tr (Fr.up u_4.1 kSM_0 (by decide)) (Fr.mono u_8 (by decide))) ⟨(congrArg Prod.fst (HE.symm.trans hFT)), (congrArg Prod.snd (HE.symm.trans hFT))⟩ dX12_crossing_69
      · refine lv_tableIn (off := 52) (tgt := 70) C0.1 C0.2.1 dX12_crossing_18 sw_181 sw_182 (by rw [sw_184]; rfl) (by decide) ?_
        replace HE : FT = g11_X12_crossing (xso SM ad ws_7) a1.toInt := HE.trans ((if_neg (not_or.mpr ⟨sw_181, sw_182⟩)).trans ((if_neg (fun q => absurd (sw_184.symm.trans q) (by decide))).trans ((if_neg (fun q => absurd (sw_184.symm.trans q) (by decide))).trans (if_pos sw_184))))
        refine lv_aload_n C0.1 C0.2.1 dX12_crossing_70 rfl (lv_at hl 0 rfl) ?_
        refine lv_iload_n C0.1 C0.2.1 dX12_crossing_71 rfl (lv_at hl 1 rfl) ?_
        refine y_c1 (n := 0) C0 (by decide) dX12_crossing_72 (fun v_40 e_41 => ?_)
        refine y_ci h (y_rV (As := [.int a1, .int v_40]) (rest := []) C0 hZ h (c_X12_isFreeIn l G Z ad _ h.2 a1 v_40 (o35_49 e_6 e_13 e_14 e_15 c_17) (o35_50 e_6 e_13 e_14 e_15 c_17)) k_X12_isFreeIn q_1741 q_84 q_1739 kSM_0 rfl rfl rfl hl.1 rfl rfl (Nat.le_of_ble_eq_true rfl) dX12_crossing_73 ⟨Nat.le_of_ble_eq_true rfl, Nat.le_of_ble_eq_true rfl⟩ ⟨Nat.le_of_ble_eq_true rfl, Nat.le_of_ble_eq_true rfl⟩) (fun r_45 H locs ws_42 h u_43 p_44 => ?_)
        obtain ⟨e_46, e_47, e_48, e_49, e_50⟩ := p_44
        replace HE : FT = g12c_X12_crossing (xso SM ad ws_42) r_45.toInt := HE.trans (by rw [e_46, e_47, e_41]; rfl)
        replace HE : FT = g13b_X12_crossing (xso SM ad ws_42) r_45.toInt := HE.trans rfl
        refine y_if_eq (tgt := 83) C0 dX12_crossing_76 (by decide) (fun c_51 => ?_) (fun c_51 => ?_)
        · -- 76
          replace HE : FT = g14_X12_crossing (xso SM ad ws_42) := HE.trans (if_pos c_51)
          refine y_c1 (n := 0) C0 (by decide) dX12_crossing_83 (fun v_52 e_53 => ?_)
          replace HE : FT = ((xso SM ad ws_42), v_52.toInt) := HE.trans (by rw [e_53]; rfl)
          rw [hQ]
          exact y_iret C0 h (Fr.tr (Fr.tr (Fr.up u_4.1 kSM_0 (by decide)) (Fr.mono u_8 (by decide))) (Fr.mono u_43 (by decide))) ⟨(congrArg Prod.fst (HE.symm.trans hFT)), (congrArg Prod.snd (HE.symm.trans hFT))⟩ dX12_crossing_84
        · -- 76
          replace HE : FT = g15_X12_crossing (xso SM ad ws_42) := HE.trans (if_neg c_51)
          refine y_c1 (n := 1) C0 (by decide) dX12_crossing_79 (fun v_54 e_55 => ?_)
          refine lv_goto (tgt := 84) C0.1 C0.2.1 dX12_crossing_80 (by decide) ?_
          replace HE : FT = ((xso SM ad ws_42), v_54.toInt) := HE.trans (by rw [e_55]; rfl)
          rw [hQ]
          exact y_iret C0 h (Fr.tr (Fr.tr (Fr.up u_4.1 kSM_0 (by decide)) (Fr.mono u_8 (by decide))) (Fr.mono u_43 (by decide))) ⟨(congrArg Prod.fst (HE.symm.trans hFT)), (congrArg Prod.snd (HE.symm.trans hFT))⟩ dX12_crossing_84
      · refine lv_tableIn (off := 67) (tgt := 85) C0.1 C0.2.1 dX12_crossing_18 sw_181 sw_182 (by rw [sw_184]; rfl) (by decide) ?_
        replace HE : FT = g16_X12_crossing (xso SM ad ws_7) a1.toInt := HE.trans ((if_neg (not_or.mpr ⟨sw_181, sw_182⟩)).trans ((if_neg (fun q => absurd (sw_184.symm.trans q) (by decide))).trans ((if_neg (fun q => absurd (sw_184.symm.trans q) (by decide))).trans ((if_neg (fun q => absurd (sw_184.symm.trans q) (by decide))).trans (if_pos sw_184)))))
        refine lv_aload_n C0.1 C0.2.1 dX12_crossing_85 rfl (lv_at hl 0 rfl) ?_
        refine ng_X12_all C0 h kSM_0 q_1439 dX12_crossing_86 ?_
        refine y_c2 (n := 86) C0 (by decide) dX12_crossing_89 (fun v_56 e_57 => ?_)
        refine lv_iload_n C0.1 C0.2.1 dX12_crossing_91 rfl (lv_at hl 1 rfl) ?_
        refine y_add C0 (o35_62 e_6 e_13 e_14 e_15 c_17 e_57 (le_min v_56) (le_max v_56) (le_min a1) (le_max a1) (le_min r_10) (le_max r_10)) (o35_63 e_6 e_13 e_14 e_15 c_17 e_57 (le_min v_56) (le_max v_56) (le_min a1) (le_max a1) (le_min r_10) (le_max r_10)) dX12_crossing_92 (fun v_58 e_59 => ?_)
        refine y_iald C0 h kSM_1 rfl (by decide) (o35_64 e_6 e_13 e_14 e_15 c_17 e_57 e_59) (o35_65 e_6 e_13 e_14 e_15 c_17 e_57 e_59) dX12_crossing_93 (fun v_60 e_61 e_62 e_63 => ?_)
        refine lv_aload_n C0.1 C0.2.1 dX12_crossing_94 rfl (lv_at hl 0 rfl) ?_
        refine ng_X12_all C0 h kSM_0 q_1439 dX12_crossing_95 ?_
        refine y_c2 (n := 111) C0 (by decide) dX12_crossing_98 (fun v_64 e_65 => ?_)
        refine y_iald C0 h kSM_1 rfl (by decide) (o35_66 e_65) (o35_67 e_65) dX12_crossing_100 (fun v_66 e_67 e_68 e_69 => ?_)
        have e_70 : aI ws_7 1 111 = v_66 := (congrArg (aI ws_7 1) (ix_c (c := 111) (o35_68 e_65))).symm.trans e_67
        replace HE : FT = g17b_X12_crossing (xso SM ad ws_7) v_66.toInt v_60.toInt a1.toInt := HE.trans (by rw [(xg1 e_61 : v_60.toInt = (xso SM ad ws_7) 1 1 v_58.toInt.toNat), e_59, e_57, (xg1 e_67 : v_66.toInt = (xso SM ad ws_7) 1 1 v_64.toInt.toNat), e_65]; rfl)
        refine y_icmp_le (tgt := 124) C0 dX12_crossing_101 (by decide) (fun c_71 => ?_) (fun c_71 => ?_)
        · -- 101
          replace HE : FT = g18_X12_crossing (xso SM ad ws_7) := HE.trans (if_neg (Int.not_lt.mpr c_71))
          refine y_c1 (n := 0) C0 (by decide) dX12_crossing_124 (fun v_72 e_73 => ?_)
          replace HE : FT = ((xso SM ad ws_7), v_72.toInt) := HE.trans (by rw [e_73]; rfl)
          rw [hQ]
          exact y_iret C0 h (Fr.tr (Fr.up u_4.1 kSM_0 (by decide)) (Fr.mono u_8 (by decide))) ⟨(congrArg Prod.fst (HE.symm.trans hFT)), (congrArg Prod.snd (HE.symm.trans hFT))⟩ dX12_crossing_125
        · -- 101
          replace HE : FT = g19_X12_crossing (xso SM ad ws_7) a1.toInt := HE.trans (if_pos c_71)
          refine lv_aload_n C0.1 C0.2.1 dX12_crossing_104 rfl (lv_at hl 0 rfl) ?_
          refine ng_X12_all C0 h kSM_0 q_1439 dX12_crossing_105 ?_
          refine y_c2 (n := 86) C0 (by decide) dX12_crossing_108 (fun v_74 e_75 => ?_)
          refine lv_iload_n C0.1 C0.2.1 dX12_crossing_110 rfl (lv_at hl 1 rfl) ?_
          refine y_add C0 (o35_69 e_6 e_13 e_14 e_15 c_17 e_57 e_59 e_75 (le_min v_74) (le_max v_74) (le_min a1) (le_max a1) (le_min r_10) (le_max r_10) (le_min v_56) (le_max v_56) (le_min v_58) (le_max v_58)) (o35_70 e_6 e_13 e_14 e_15 c_17 e_57 e_59 e_75 (le_min v_74) (le_max v_74) (le_min a1) (le_max a1) (le_min r_10) (le_max r_10) (le_min v_56) (le_max v_56) (le_min v_58) (le_max v_58)) dX12_crossing_111 (fun v_76 e_77 => ?_)
          refine y_iald C0 h kSM_1 rfl (by decide) (o35_71 e_6 e_13 e_14 e_15 c_17 e_57 e_59 e_75 e_77) (o35_72 e_6 e_13 e_14 e_15 c_17 e_57 e_59 e_75 e_77) dX12_crossing_112 (fun v_78 e_79 e_80 e_81 => ?_)
          have qh_82 : v_78.toInt = v_60.toInt := congrArg Int32.toInt (e_79.symm.trans (Eq.trans (congrArg (aI ws_7 1) (o35_73 e_6 e_13 e_14 e_15 c_17 e_57 e_59 e_75 e_77)) (Eq.trans rfl e_61)))
          refine lv_aload_n C0.1 C0.2.1 dX12_crossing_113 rfl (lv_at hl 0 rfl) ?_
          refine ng_X12_all C0 h kSM_0 q_1439 dX12_crossing_114 ?_
          refine y_c2 (n := 111) C0 (by decide) dX12_crossing_117 (fun v_83 e_84 => ?_)
          refine y_iald C0 h kSM_1 rfl (by decide) (o35_66 e_84) (o35_67 e_84) dX12_crossing_119 (fun v_85 e_86 e_87 e_88 => ?_)
          have e_89 : aI ws_7 1 111 = v_85 := (congrArg (aI ws_7 1) (ix_c (c := 111) (o35_68 e_84))).symm.trans e_86
          have qh_90 : v_85.toInt = v_66.toInt := congrArg Int32.toInt (e_89.symm.trans (Eq.trans rfl e_70))
          refine xr_isub C0 dX12_crossing_120 (fun v_91 e_92 => ?_)
          refine lv_goto (tgt := 125) C0.1 C0.2.1 dX12_crossing_121 (by decide) ?_
          replace HE : FT = ((xso SM ad ws_7), v_91.toInt) := HE.trans (by rw [e_92, (xg1 e_86 : v_85.toInt = (xso SM ad ws_7) 1 1 v_83.toInt.toNat), e_84, (xg1 e_79 : v_78.toInt = (xso SM ad ws_7) 1 1 v_76.toInt.toNat), e_77, e_75]; rfl)
          rw [hQ]
          exact y_iret C0 h (Fr.tr (Fr.up u_4.1 kSM_0 (by decide)) (Fr.mono u_8 (by decide))) ⟨(congrArg Prod.fst (HE.symm.trans hFT)), (congrArg Prod.snd (HE.symm.trans hFT))⟩ dX12_crossing_125
      · refine lv_tableIn (off := 108) (tgt := 126) C0.1 C0.2.1 dX12_crossing_18 sw_181 sw_182 (by rw [sw_184]; rfl) (by decide) ?_
        replace HE : FT = g20_X12_crossing (xso SM ad ws_7) a1.toInt := HE.trans ((if_neg (not_or.mpr ⟨sw_181, sw_182⟩)).trans ((if_neg (fun q => absurd (sw_184.symm.trans q) (by decide))).trans ((if_neg (fun q => absurd (sw_184.symm.trans q) (by decide))).trans ((if_neg (fun q => absurd (sw_184.symm.trans q) (by decide))).trans ((if_neg (fun q => absurd (sw_184.symm.trans q) (by decide))).trans (if_pos sw_184))))))
        refine lv_aload_n C0.1 C0.2.1 dX12_crossing_126 rfl (lv_at hl 0 rfl) ?_
        refine lv_iload_n C0.1 C0.2.1 dX12_crossing_127 rfl (lv_at hl 1 rfl) ?_
        refine y_ci h (y_rV (As := [.int a1]) (rest := []) C0 hZ h (c_X12_streetsFrom l G Z ad _ h.2 a1 (o35_49 e_6 e_13 e_14 e_15 c_17) (o35_50 e_6 e_13 e_14 e_15 c_17) (Laid.pa (Or.resolve_left e_16 (o35_53 e_6 e_13 e_14 e_15 c_17)) (Pa.fr u_8 (by decide)))) k_X12_streetsFrom q_1745 q_85 q_1743 kSM_0 rfl rfl rfl hl.1 rfl rfl (Nat.le_of_ble_eq_true rfl) dX12_crossing_128 ⟨Nat.le_of_ble_eq_true rfl, Nat.le_of_ble_eq_true rfl⟩ ⟨Nat.le_of_ble_eq_true rfl, Nat.le_of_ble_eq_true rfl⟩) (fun r_96 H locs ws_93 h u_94 p_95 => ?_)
        obtain ⟨e_97, e_98⟩ := p_95
        replace HE : FT = g21c_X12_crossing (xso SM ad ws_93) r_96.toInt := HE.trans (by rw [e_97, e_98]; rfl)
        replace HE : FT = ((xso SM ad ws_93), r_96.toInt) := HE.trans rfl
        rw [hQ]
        exact y_iret C0 h (Fr.tr (Fr.tr (Fr.up u_4.1 kSM_0 (by decide)) (Fr.mono u_8 (by decide))) (Fr.mono u_94 (by decide))) ⟨(congrArg Prod.fst (HE.symm.trans hFT)), (congrArg Prod.snd (HE.symm.trans hFT))⟩ dX12_crossing_131
  · -- 11
    replace HE : FT = g5_X12_crossing (xso SM ad ws_7) := HE.trans (if_pos c_17)
    refine y_c2 (n := (-2)) C0 (by decide) dX12_crossing_14 (fun v_99 e_100 => ?_)
    replace HE : FT = ((xso SM ad ws_7), v_99.toInt) := HE.trans (by rw [e_100]; rfl)
    rw [hQ]
    exact y_iret C0 h (Fr.tr (Fr.up u_4.1 kSM_0 (by decide)) (Fr.mono u_8 (by decide))) ⟨(congrArg Prod.fst (HE.symm.trans hFT)), (congrArg Prod.snd (HE.symm.trans hFT))⟩ dX12_crossing_16
noncomputable def g4_X12_price (s : XS) : XR := (s, ((-2)))
noncomputable def g12_X12_price (s : XS) : XR := (s, ((-3)))
noncomputable def g14c_X12_price (s : XS) (r_51 : Int) : XR := (s, r_51)
noncomputable def g13_X12_price (s : XS) (a1 : Int) (a2 : Int) (a3 : Int) : XR := g14c_X12_price ((f_X12_priceOf s a1 a3 a2).1) (((f_X12_priceOf s a1 a3 a2).2))
noncomputable def g11b_X12_price (s : XS) (r_39 : Int) (a1 : Int) (a2 : Int) (a3 : Int) : XR := if r_39 = 0 then g12_X12_price s else g13_X12_price s a1 a2 a3
noncomputable def g10c_X12_price (s : XS) (r_39 : Int) (a1 : Int) (a2 : Int) (a3 : Int) : XR := g11b_X12_price s r_39 a1 a2 a3
noncomputable def g8_X12_price (s : XS) (a1 : Int) (a2 : Int) (a3 : Int) : XR := g10c_X12_price ((f_X12_within s a3 0 999).1) (((f_X12_within s a3 0 999).2)) a1 a2 a3
noncomputable def g9_X12_price (s : XS) : XR := (s, ((-2)))
noncomputable def g7b_X12_price (s : XS) (r_23 : Int) (a1 : Int) (a2 : Int) (a3 : Int) : XR := if r_23 = 0 then g9_X12_price s else g8_X12_price s a1 a2 a3
noncomputable def g6c_X12_price (s : XS) (r_23 : Int) (a1 : Int) (a2 : Int) (a3 : Int) : XR := g7b_X12_price s r_23 a1 a2 a3
noncomputable def g5_X12_price (s : XS) (a1 : Int) (a2 : Int) (a3 : Int) : XR := g6c_X12_price ((f_X12_isDirection s a2).1) (((f_X12_isDirection s a2).2)) a1 a2 a3
noncomputable def g3b_X12_price (s : XS) (r_10 : Int) (a1 : Int) (a2 : Int) (a3 : Int) : XR := if r_10 = 0 then g4_X12_price s else g5_X12_price s a1 a2 a3
noncomputable def g2c_X12_price (s : XS) (r_10 : Int) (a1 : Int) (a2 : Int) (a3 : Int) : XR := g3b_X12_price s r_10 a1 a2 a3
noncomputable def g1w_X12_price (s : XS) (a1 : Int) (a2 : Int) (a3 : Int) : XR := g2c_X12_price ((f_X12_isCrossing s a1).1) (((f_X12_isCrossing s a1).2)) a1 a2 a3
noncomputable def f_X12_price (s : XS) (a1 : Int) (a2 : Int) (a3 : Int) : XR := g1w_X12_price (xup s 0 0 0 0) a1 a2 a3
set_option maxHeartbeats 4000000 in
set_option maxRecDepth 100000 in
theorem c_X12_price (l : Launch) (G : GG) (Z : RZ) (ad : Nat → Nat) (ws0 : va_W) (hT : Ty G SM ad ws0) (a1 : Int32) (a2 : Int32) (a3 : Int32) (hJ : J ws0) : Mq l yX12_price cX12_price 4 (some .int) 4 G Z [.ref (ad 0), .int a1, .int a2, .int a3] ws0 (PI G SM ad [0, 5] ws0 (fun r u => (xso SM ad u = (f_X12_price (xso SM ad ws0) a1.toInt a2.toInt a3.toInt).1) ∧ (r.toInt = (f_X12_price (xso SM ad ws0) a1.toInt a2.toInt a3.toInt).2) ∧ ((-3) ≤ r.toInt))) := by
  refine Mq.start (by decide) (Nat.le_of_ble_eq_true rfl) ?_
  intro p e s m below meth c A ls C0 hZ h hl
  have hl : lv_has ls 4 [(0, .ref (ad 0)), (1, .int a1), (2, .int a2), (3, .int a3)] := hl
  have h : Wt G SM ad A s s.heap [] ws0 := ⟨h, hT⟩
  obtain ⟨args, hargs⟩ : ∃ z, z = ([.ref (ad 0), .int a1, .int a2, .int a3] : List Value).toArray := ⟨_, rfl⟩
  rw [← hargs] at C0 ⊢
  have C0 : Cx p s m args meth c RX12 cX12_price 4 (some .int) := C0
  obtain ⟨Q, hQ⟩ : ∃ z, z = MQ below ((PI G SM ad [0, 5] ws0 (fun r u => (xso SM ad u = (f_X12_price (xso SM ad ws0) a1.toInt a2.toInt a3.toInt).1) ∧ (r.toInt = (f_X12_price (xso SM ad ws0) a1.toInt a2.toInt a3.toInt).2) ∧ ((-3) ≤ r.toInt))) A) args s 0 0 A := ⟨_, rfl⟩
  rw [← hQ]
  obtain ⟨FT, hFT⟩ : ∃ z, z = f_X12_price (xso SM ad ws0) a1.toInt a2.toInt a3.toInt := ⟨_, rfl⟩
  have HE : FT = f_X12_price (xso SM ad ws0) a1.toInt a2.toInt a3.toInt := hFT
  refine lv_aload_n C0.1 C0.2.1 dX12_price_0 rfl (lv_at hl 0 rfl) ?_
  refine y_c1 (n := 0) C0 (by decide) dX12_price_1 (fun v_1 e_2 => ?_)
  refine np_X12_thrown C0 h kSM_0 q_1438 (le_min v_1) (le_max v_1) dX12_price_2 (fun H locs ws_3 h u_4 Xu_4 => ?_)
  replace HE : FT = g1w_X12_price (xso SM ad ws_3) a1.toInt a2.toInt a3.toInt := HE.trans (by rw [Xu_4, e_2]; rfl)
  refine lv_aload_n C0.1 C0.2.1 dX12_price_5 rfl (lv_at hl 0 rfl) ?_
  refine lv_iload_n C0.1 C0.2.1 dX12_price_6 rfl (lv_at hl 1 rfl) ?_
  refine y_i2l C0 dX12_price_7 (fun w_5 e_6 => ?_)
  refine y_ci h (y_rV (As := [.long w_5]) (rest := []) C0 hZ h (c_X12_isCrossing l G Z ad _ h.2 w_5) k_X12_isCrossing q_1701 q_78 q_1699 kSM_0 rfl rfl rfl hl.1 rfl rfl (Nat.le_of_ble_eq_true rfl) dX12_price_8 ⟨Nat.le_of_ble_eq_true rfl, Nat.le_of_ble_eq_true rfl⟩ ⟨Nat.le_of_ble_eq_true rfl, Nat.le_of_ble_eq_true rfl⟩) (fun r_10 H locs ws_7 h u_8 p_9 => ?_)
  obtain ⟨e_11, e_12, e_13, e_14, e_15, e_16⟩ := p_9
  replace HE : FT = g2c_X12_price (xso SM ad ws_7) r_10.toInt a1.toInt a2.toInt a3.toInt := HE.trans (by rw [e_11, e_12, e_6]; rfl)
  replace HE : FT = g3b_X12_price (xso SM ad ws_7) r_10.toInt a1.toInt a2.toInt a3.toInt := HE.trans rfl
  refine y_if_eq (tgt := 21) C0 dX12_price_11 (by decide) (fun c_17 => ?_) (fun c_17 => ?_)
  · -- 11
    replace HE : FT = g4_X12_price (xso SM ad ws_7) := HE.trans (if_pos c_17)
    refine y_c2 (n := (-2)) C0 (by decide) dX12_price_21 (fun v_18 e_19 => ?_)
    replace HE : FT = ((xso SM ad ws_7), v_18.toInt) := HE.trans (by rw [e_19]; rfl)
    rw [hQ]
    exact y_iret C0 h (Fr.tr (Fr.up u_4.1 kSM_0 (by decide)) (Fr.mono u_8 (by decide))) ⟨(congrArg Prod.fst (HE.symm.trans hFT)), (congrArg Prod.snd (HE.symm.trans hFT)), (o35_74 e_19)⟩ dX12_price_23
  · -- 11
    replace HE : FT = g5_X12_price (xso SM ad ws_7) a1.toInt a2.toInt a3.toInt := HE.trans (if_neg c_17)
    refine lv_iload_n C0.1 C0.2.1 dX12_price_14 rfl (lv_at hl 2 rfl) ?_
    refine y_ci h (y_rS (As := [.int a2]) (rest := []) C0 hZ h (c_X12_isDirection l G Z ad _ h.2 a2) k_X12_isDirection q_1708 q_1707 hl.1 rfl rfl (Nat.le_of_ble_eq_true rfl) dX12_price_15 ⟨Nat.le_of_ble_eq_true rfl, Nat.le_of_ble_eq_true rfl⟩ ⟨Nat.le_of_ble_eq_true rfl, Nat.le_of_ble_eq_true rfl⟩) (fun r_23 H locs ws_20 h u_21 p_22 => ?_)
    obtain ⟨e_24, e_25, e_26, e_27, e_28⟩ := p_22
    replace HE : FT = g6c_X12_price (xso SM ad ws_20) r_23.toInt a1.toInt a2.toInt a3.toInt := HE.trans (by rw [e_24, e_25]; rfl)
    replace HE : FT = g7b_X12_price (xso SM ad ws_20) r_23.toInt a1.toInt a2.toInt a3.toInt := HE.trans rfl
    refine y_if_ne (tgt := 24) C0 dX12_price_18 (by decide) (fun c_29 => ?_) (fun c_29 => ?_)
    · -- 18
      replace HE : FT = g8_X12_price (xso SM ad ws_20) a1.toInt a2.toInt a3.toInt := HE.trans (if_neg c_29)
      refine lv_iload_n C0.1 C0.2.1 dX12_price_24 rfl (lv_at hl 3 rfl) ?_
      refine y_i2l C0 dX12_price_25 (fun w_30 e_31 => ?_)
      refine y_lc (v := 0) C0 (by decide) dX12_price_26 (fun w_32 e_33 => ?_)
      refine y_lc2 (n := 999) C0 q_1751 (by decide) dX12_price_27 (fun w_34 e_35 => ?_)
      refine y_ci h (y_rS (As := [.long w_30, .long w_32, .long w_34]) (rest := []) C0 hZ h (c_X12_within l G Z ad _ h.2 w_30 w_32 w_34) k_X12_within q_1580 q_1579 hl.1 rfl rfl (Nat.le_of_ble_eq_true rfl) dX12_price_30 ⟨Nat.le_of_ble_eq_true rfl, Nat.le_of_ble_eq_true rfl⟩ ⟨Nat.le_of_ble_eq_true rfl, Nat.le_of_ble_eq_true rfl⟩) (fun r_39 H locs ws_36 h u_37 p_38 => ?_)
      obtain ⟨e_40, e_41, e_42, e_43, e_44⟩ := p_38
      replace HE : FT = g10c_X12_price (xso SM ad ws_36) r_39.toInt a1.toInt a2.toInt a3.toInt := HE.trans (by rw [e_40, e_41, e_35, e_33, e_31]; rfl)
      replace HE : FT = g11b_X12_price (xso SM ad ws_36) r_39.toInt a1.toInt a2.toInt a3.toInt := HE.trans rfl
      refine y_if_eq (tgt := 46) C0 dX12_price_33 (by decide) (fun c_45 => ?_) (fun c_45 => ?_)
      · -- 33
        replace HE : FT = g12_X12_price (xso SM ad ws_36) := HE.trans (if_pos c_45)
        refine y_c2 (n := (-3)) C0 (by decide) dX12_price_46 (fun v_46 e_47 => ?_)
        replace HE : FT = ((xso SM ad ws_36), v_46.toInt) := HE.trans (by rw [e_47]; rfl)
        rw [hQ]
        exact y_iret C0 h (Fr.tr (Fr.tr (Fr.tr (Fr.up u_4.1 kSM_0 (by decide)) (Fr.mono u_8 (by decide))) (Fr.mono u_21 (by decide))) (Fr.mono u_37 (by decide))) ⟨(congrArg Prod.fst (HE.symm.trans hFT)), (congrArg Prod.snd (HE.symm.trans hFT)), (o35_75 e_47)⟩ dX12_price_48
      · -- 33
        replace HE : FT = g13_X12_price (xso SM ad ws_36) a1.toInt a2.toInt a3.toInt := HE.trans (if_neg c_45)
        refine lv_aload_n C0.1 C0.2.1 dX12_price_36 rfl (lv_at hl 0 rfl) ?_
        refine lv_iload_n C0.1 C0.2.1 dX12_price_37 rfl (lv_at hl 1 rfl) ?_
        refine lv_iload_n C0.1 C0.2.1 dX12_price_38 rfl (lv_at hl 3 rfl) ?_
        refine lv_iload_n C0.1 C0.2.1 dX12_price_39 rfl (lv_at hl 2 rfl) ?_
        refine y_ci h (y_rV (As := [.int a1, .int a3, .int a2]) (rest := []) C0 hZ h (c_X12_priceOf l G Z ad _ h.2 a1 a3 a2 (o35_49 e_6 e_13 e_14 e_15 c_17) (o35_50 e_6 e_13 e_14 e_15 c_17) (o35_51 e_26 e_27 e_28 c_29) (o35_52 e_26 e_27 e_28 c_29) (J.pa hT hJ (Pa.tr (Pa.tr (Pa.tr (Pa.ud u_4.1 (by decide)) (Pa.fr u_8 (by decide))) (Pa.fr u_21 (by decide))) (Pa.fr u_37 (by decide)))) (Laid.pa (Or.resolve_left e_16 (o35_53 e_6 e_13 e_14 e_15 c_17)) (Pa.tr (Pa.tr (Pa.fr u_8 (by decide)) (Pa.fr u_21 (by decide))) (Pa.fr u_37 (by decide))))) k_X12_priceOf q_1724 q_81 q_1722 kSM_0 rfl rfl rfl hl.1 rfl rfl (Nat.le_of_ble_eq_true rfl) dX12_price_40 ⟨Nat.le_of_ble_eq_true rfl, Nat.le_of_ble_eq_true rfl⟩ ⟨Nat.le_of_ble_eq_true rfl, Nat.le_of_ble_eq_true rfl⟩) (fun r_51 H locs ws_48 h u_49 p_50 => ?_)
        obtain ⟨e_52, e_53, e_54⟩ := p_50
        replace HE : FT = g14c_X12_price (xso SM ad ws_48) r_51.toInt := HE.trans (by rw [e_52, e_53]; rfl)
        refine lv_goto (tgt := 48) C0.1 C0.2.1 dX12_price_43 (by decide) ?_
        replace HE : FT = ((xso SM ad ws_48), r_51.toInt) := HE.trans rfl
        rw [hQ]
        exact y_iret C0 h (Fr.tr (Fr.tr (Fr.tr (Fr.tr (Fr.up u_4.1 kSM_0 (by decide)) (Fr.mono u_8 (by decide))) (Fr.mono u_21 (by decide))) (Fr.mono u_37 (by decide))) (Fr.mono u_49 (by decide))) ⟨(congrArg Prod.fst (HE.symm.trans hFT)), (congrArg Prod.snd (HE.symm.trans hFT)), (o35_76 e_54)⟩ dX12_price_48
    · -- 18
      replace HE : FT = g9_X12_price (xso SM ad ws_20) := HE.trans (if_pos c_29)
      refine y_c2 (n := (-2)) C0 (by decide) dX12_price_21 (fun v_55 e_56 => ?_)
      replace HE : FT = ((xso SM ad ws_20), v_55.toInt) := HE.trans (by rw [e_56]; rfl)
      rw [hQ]
      exact y_iret C0 h (Fr.tr (Fr.tr (Fr.up u_4.1 kSM_0 (by decide)) (Fr.mono u_8 (by decide))) (Fr.mono u_21 (by decide))) ⟨(congrArg Prod.fst (HE.symm.trans hFT)), (congrArg Prod.snd (HE.symm.trans hFT)), (o35_74 e_56)⟩ dX12_price_23
noncomputable def g2c_X12_why (s : XS) (r_12 : Int) : XR := (s, r_12)
noncomputable def g1w_X12_why (s : XS) (a1 : Int) (a2 : Int) : XR := g2c_X12_why ((f_X12_whyNot s a1 a2).1) (((f_X12_whyNot s a1 a2).2))
noncomputable def f_X12_why (s : XS) (a1 : Int) (a2 : Int) : XR := g1w_X12_why (xup s 0 0 0 0) a1 a2
set_option maxHeartbeats 4000000 in
set_option maxRecDepth 100000 in
theorem c_X12_why (l : Launch) (G : GG) (Z : RZ) (ad : Nat → Nat) (ws0 : va_W) (hT : Ty G SM ad ws0) (a1 : Int32) (a2 : Int32) (hJ : J ws0) : Mq l yX12_why cX12_why 3 (some .int) 5 G Z [.ref (ad 0), .int a1, .int a2] ws0 (PI G SM ad [0, 5] ws0 (fun r u => (xso SM ad u = (f_X12_why (xso SM ad ws0) a1.toInt a2.toInt).1) ∧ (r.toInt = (f_X12_why (xso SM ad ws0) a1.toInt a2.toInt).2) ∧ (0 ≤ r.toInt) ∧ (r.toInt ≤ 4))) := by
  refine Mq.start (by decide) (Nat.le_of_ble_eq_true rfl) ?_
  intro p e s m below meth c A ls C0 hZ h hl
  have hl : lv_has ls 3 [(0, .ref (ad 0)), (1, .int a1), (2, .int a2)] := hl
  have h : Wt G SM ad A s s.heap [] ws0 := ⟨h, hT⟩
  obtain ⟨args, hargs⟩ : ∃ z, z = ([.ref (ad 0), .int a1, .int a2] : List Value).toArray := ⟨_, rfl⟩
  rw [← hargs] at C0 ⊢
  have C0 : Cx p s m args meth c RX12 cX12_why 3 (some .int) := C0
  obtain ⟨Q, hQ⟩ : ∃ z, z = MQ below ((PI G SM ad [0, 5] ws0 (fun r u => (xso SM ad u = (f_X12_why (xso SM ad ws0) a1.toInt a2.toInt).1) ∧ (r.toInt = (f_X12_why (xso SM ad ws0) a1.toInt a2.toInt).2) ∧ (0 ≤ r.toInt) ∧ (r.toInt ≤ 4))) A) args s 0 0 A := ⟨_, rfl⟩
  rw [← hQ]
  obtain ⟨FT, hFT⟩ : ∃ z, z = f_X12_why (xso SM ad ws0) a1.toInt a2.toInt := ⟨_, rfl⟩
  have HE : FT = f_X12_why (xso SM ad ws0) a1.toInt a2.toInt := hFT
  refine lv_aload_n C0.1 C0.2.1 dX12_why_0 rfl (lv_at hl 0 rfl) ?_
  refine y_c1 (n := 0) C0 (by decide) dX12_why_1 (fun v_1 e_2 => ?_)
  refine np_X12_thrown C0 h kSM_0 q_1438 (le_min v_1) (le_max v_1) dX12_why_2 (fun H locs ws_3 h u_4 Xu_4 => ?_)
  replace HE : FT = g1w_X12_why (xso SM ad ws_3) a1.toInt a2.toInt := HE.trans (by rw [Xu_4, e_2]; rfl)
  refine lv_aload_n C0.1 C0.2.1 dX12_why_5 rfl (lv_at hl 0 rfl) ?_
  refine lv_iload_n C0.1 C0.2.1 dX12_why_6 rfl (lv_at hl 1 rfl) ?_
  refine y_i2l C0 dX12_why_7 (fun w_5 e_6 => ?_)
  refine lv_iload_n C0.1 C0.2.1 dX12_why_8 rfl (lv_at hl 2 rfl) ?_
  refine y_i2l C0 dX12_why_9 (fun w_7 e_8 => ?_)
  refine y_ci h (y_rV (As := [.long w_5, .long w_7]) (rest := []) C0 hZ h (c_X12_whyNot l G Z ad _ h.2 w_5 w_7 (J.pa hT hJ (Pa.ud u_4.1 (by decide)))) k_X12_whyNot q_1758 q_86 q_1756 kSM_0 rfl rfl rfl hl.1 rfl rfl (Nat.le_of_ble_eq_true rfl) dX12_why_10 ⟨Nat.le_of_ble_eq_true rfl, Nat.le_of_ble_eq_true rfl⟩ ⟨Nat.le_of_ble_eq_true rfl, Nat.le_of_ble_eq_true rfl⟩) (fun r_12 H locs ws_9 h u_10 p_11 => ?_)
  obtain ⟨e_13, e_14, e_15, e_16, e_17, e_18, e_19⟩ := p_11
  replace HE : FT = g2c_X12_why (xso SM ad ws_9) r_12.toInt := HE.trans (by rw [e_13, e_14, e_8, e_6]; rfl)
  replace HE : FT = ((xso SM ad ws_9), r_12.toInt) := HE.trans rfl
  rw [hQ]
  exact y_iret C0 h (Fr.tr (Fr.up u_4.1 kSM_0 (by decide)) (Fr.mono u_10 (by decide))) ⟨(congrArg Prod.fst (HE.symm.trans hFT)), (congrArg Prod.snd (HE.symm.trans hFT)), (o35_77 e_6 e_8 e_15 e_16 e_17), (o35_78 e_6 e_8 e_15 e_16 e_17)⟩ dX12_why_13
noncomputable def g8c_X12_go (s : XS) (a1 : Int) : XR := (s, (s 1 1 (Int.toNat (36 + a1))))
noncomputable def g7c_X12_go (s : XS) (r_28 : Int) (a1 : Int) : XR := g8c_X12_go ((f_X12_notes s).1) a1
noncomputable def g6c_X12_go (s : XS) (a1 : Int) (a2 : Int) : XR := g7c_X12_go ((f_X12_goes s a1 a2).1) (((f_X12_goes s a1 a2).2)) a1
noncomputable def g4_X12_go (s : XS) (a1 : Int) (a2 : Int) : XR := g6c_X12_go ((f_X12_keeps s).1) a1 a2
noncomputable def g5_X12_go (s : XS) (r_12 : Int) : XR := (s, (((-10)) - r_12))
noncomputable def g3b_X12_go (s : XS) (r_12 : Int) (a1 : Int) (a2 : Int) : XR := if r_12 = 0 then g4_X12_go s a1 a2 else g5_X12_go s r_12
noncomputable def g2c_X12_go (s : XS) (r_12 : Int) (a1 : Int) (a2 : Int) : XR := g3b_X12_go s r_12 a1 a2
noncomputable def g1w_X12_go (s : XS) (a1 : Int) (a2 : Int) : XR := g2c_X12_go ((f_X12_whyNot s a1 a2).1) (((f_X12_whyNot s a1 a2).2)) a1 a2
noncomputable def f_X12_go (s : XS) (a1 : Int) (a2 : Int) : XR := g1w_X12_go (xup s 0 0 0 0) a1 a2
set_option maxHeartbeats 4000000 in
set_option maxRecDepth 100000 in
theorem c_X12_go (l : Launch) (G : GG) (Z : RZ) (ad : Nat → Nat) (ws0 : va_W) (hT : Ty G SM ad ws0) (a1 : Int32) (a2 : Int32) (hJ : J ws0) : Mq l yX12_go cX12_go 4 (some .int) 5 G Z [.ref (ad 0), .int a1, .int a2] ws0 (PI G SM ad [0, 1, 5, 6] ws0 (fun r u => (xso SM ad u = (f_X12_go (xso SM ad ws0) a1.toInt a2.toInt).1) ∧ (r.toInt = (f_X12_go (xso SM ad ws0) a1.toInt a2.toInt).2) ∧ ((-14) ≤ r.toInt) ∧ (r.toInt ≤ 24) ∧ (Pa ws0 u) ∧ (Pw ws0 u))) := by
  refine Mq.start (by decide) (Nat.le_of_ble_eq_true rfl) ?_
  intro p e s m below meth c A ls C0 hZ h hl
  have hl : lv_has ls 4 [(0, .ref (ad 0)), (1, .int a1), (2, .int a2)] := hl
  have h : Wt G SM ad A s s.heap [] ws0 := ⟨h, hT⟩
  obtain ⟨args, hargs⟩ : ∃ z, z = ([.ref (ad 0), .int a1, .int a2] : List Value).toArray := ⟨_, rfl⟩
  rw [← hargs] at C0 ⊢
  have C0 : Cx p s m args meth c RX12 cX12_go 4 (some .int) := C0
  obtain ⟨Q, hQ⟩ : ∃ z, z = MQ below ((PI G SM ad [0, 1, 5, 6] ws0 (fun r u => (xso SM ad u = (f_X12_go (xso SM ad ws0) a1.toInt a2.toInt).1) ∧ (r.toInt = (f_X12_go (xso SM ad ws0) a1.toInt a2.toInt).2) ∧ ((-14) ≤ r.toInt) ∧ (r.toInt ≤ 24) ∧ (Pa ws0 u) ∧ (Pw ws0 u))) A) args s 0 0 A := ⟨_, rfl⟩
  rw [← hQ]
  obtain ⟨FT, hFT⟩ : ∃ z, z = f_X12_go (xso SM ad ws0) a1.toInt a2.toInt := ⟨_, rfl⟩
  have HE : FT = f_X12_go (xso SM ad ws0) a1.toInt a2.toInt := hFT
  refine lv_aload_n C0.1 C0.2.1 dX12_go_0 rfl (lv_at hl 0 rfl) ?_
  refine y_c1 (n := 0) C0 (by decide) dX12_go_1 (fun v_1 e_2 => ?_)
  refine np_X12_thrown C0 h kSM_0 q_1438 (le_min v_1) (le_max v_1) dX12_go_2 (fun H locs ws_3 h u_4 Xu_4 => ?_)
  replace HE : FT = g1w_X12_go (xso SM ad ws_3) a1.toInt a2.toInt := HE.trans (by rw [Xu_4, e_2]; rfl)
  refine lv_aload_n C0.1 C0.2.1 dX12_go_5 rfl (lv_at hl 0 rfl) ?_
  refine lv_iload_n C0.1 C0.2.1 dX12_go_6 rfl (lv_at hl 1 rfl) ?_
  refine y_i2l C0 dX12_go_7 (fun w_5 e_6 => ?_)
  refine lv_iload_n C0.1 C0.2.1 dX12_go_8 rfl (lv_at hl 2 rfl) ?_
  refine y_i2l C0 dX12_go_9 (fun w_7 e_8 => ?_)
  refine y_ci h (y_rV (As := [.long w_5, .long w_7]) (rest := []) C0 hZ h (c_X12_whyNot l G Z ad _ h.2 w_5 w_7 (J.pa hT hJ (Pa.ud u_4.1 (by decide)))) k_X12_whyNot q_1758 q_86 q_1756 kSM_0 rfl rfl rfl hl.1 rfl rfl (Nat.le_of_ble_eq_true rfl) dX12_go_10 ⟨Nat.le_of_ble_eq_true rfl, Nat.le_of_ble_eq_true rfl⟩ ⟨Nat.le_of_ble_eq_true rfl, Nat.le_of_ble_eq_true rfl⟩) (fun r_12 H locs ws_9 h u_10 p_11 => ?_)
  obtain ⟨e_13, e_14, e_15, e_16, e_17, e_18, e_19⟩ := p_11
  replace HE : FT = g2c_X12_go (xso SM ad ws_9) r_12.toInt a1.toInt a2.toInt := HE.trans (by rw [e_13, e_14, e_8, e_6]; rfl)
  refine lv_istore_n (lv' := [(3, .int r_12), (0, .ref (ad 0)), (1, .int a1), (2, .int a2)]) C0.1 C0.2.1 dX12_go_13 rfl hl (by decide) rfl (fun ls hl => ?_)
  refine lv_iload_n C0.1 C0.2.1 dX12_go_14 rfl (lv_at hl 0 rfl) ?_
  replace HE : FT = g3b_X12_go (xso SM ad ws_9) r_12.toInt a1.toInt a2.toInt := HE.trans rfl
  refine y_if_eq (tgt := 23) C0 dX12_go_15 (by decide) (fun c_20 => ?_) (fun c_20 => ?_)
  · -- 15
    replace HE : FT = g4_X12_go (xso SM ad ws_9) a1.toInt a2.toInt := HE.trans (if_pos c_20)
    refine lv_aload_n C0.1 C0.2.1 dX12_go_23 rfl (lv_at hl 1 rfl) ?_
    refine y_cv h (y_rV (As := []) (rest := []) C0 hZ h (c_X12_keeps l G Z ad _ h.2) k_X12_keeps q_1777 q_88 q_1775 kSM_0 rfl rfl rfl hl.1 rfl rfl (Nat.le_of_ble_eq_true rfl) dX12_go_24 ⟨Nat.le_of_ble_eq_true rfl, Nat.le_of_ble_eq_true rfl⟩ ⟨Nat.le_of_ble_eq_true rfl, Nat.le_of_ble_eq_true rfl⟩) (fun H locs ws_21 h u_22 p_23 => ?_)
    have e_24 := p_23
    replace HE : FT = g6c_X12_go (xso SM ad ws_21) a1.toInt a2.toInt := HE.trans (by rw [e_24]; rfl)
    refine lv_aload_n C0.1 C0.2.1 dX12_go_27 rfl (lv_at hl 1 rfl) ?_
    refine lv_iload_n C0.1 C0.2.1 dX12_go_28 rfl (lv_at hl 2 rfl) ?_
    refine lv_iload_n C0.1 C0.2.1 dX12_go_29 rfl (lv_at hl 3 rfl) ?_
    refine y_ci h (y_rV (As := [.int a1, .int a2]) (rest := []) C0 hZ h (c_X12_goes l G Z ad _ h.2 a1 a2 (o35_79 e_6 e_8 e_15 e_16 e_17 c_20) (o35_80 e_6 e_8 e_15 e_16 e_17 c_20) (o35_81 e_6 e_8 e_15 e_16 e_17 c_20) (o35_82 e_6 e_8 e_15 e_16 e_17 c_20) ((CanM.fr u_22 (by decide) (CanM.fr u_10 (by decide) (CanM.cg (e_18 (o35_83 e_6 e_8 e_15 e_16 e_17 c_20)) (o35_84 e_6 e_8 e_15 e_16 e_17 c_20) (o35_85 e_6 e_8 e_15 e_16 e_17 c_20))))) (Laid.pa (e_19 (o35_83 e_6 e_8 e_15 e_16 e_17 c_20)) (Pa.tr (Pa.fr u_10 (by decide)) (Pa.fr u_22 (by decide))))) k_X12_goes q_1781 q_89 q_1779 kSM_0 rfl rfl rfl hl.1 rfl rfl (Nat.le_of_ble_eq_true rfl) dX12_go_30 ⟨Nat.le_of_ble_eq_true rfl, Nat.le_of_ble_eq_true rfl⟩ ⟨Nat.le_of_ble_eq_true rfl, Nat.le_of_ble_eq_true rfl⟩) (fun r_28 H locs ws_25 h u_26 p_27 => ?_)
    obtain ⟨e_29, e_30, e_31, e_32, e_33, e_34⟩ := p_27
    replace HE : FT = g7c_X12_go (xso SM ad ws_25) r_28.toInt a1.toInt := HE.trans (by rw [e_29, e_30]; rfl)
    refine lv_pop C0.1 C0.2.1 dX12_go_33 rfl ?_
    refine lv_aload_n C0.1 C0.2.1 dX12_go_34 rfl (lv_at hl 1 rfl) ?_
    refine y_cv h (y_rV (As := []) (rest := []) C0 hZ h (c_X12_notes l G Z ad _ h.2) k_X12_notes q_1788 q_90 q_1786 kSM_0 rfl rfl rfl hl.1 rfl rfl (Nat.le_of_ble_eq_true rfl) dX12_go_35 ⟨Nat.le_of_ble_eq_true rfl, Nat.le_of_ble_eq_true rfl⟩ ⟨Nat.le_of_ble_eq_true rfl, Nat.le_of_ble_eq_true rfl⟩) (fun H locs ws_35 h u_36 p_37 => ?_)
    obtain ⟨e_38, e_39, e_40⟩ := p_37
    replace HE : FT = g8c_X12_go (xso SM ad ws_35) a1.toInt := HE.trans (by rw [e_38]; rfl)
    refine lv_aload_n C0.1 C0.2.1 dX12_go_38 rfl (lv_at hl 1 rfl) ?_
    refine ng_X12_all C0 h kSM_0 q_1439 dX12_go_39 ?_
    refine y_c2 (n := 36) C0 (by decide) dX12_go_42 (fun v_41 e_42 => ?_)
    refine lv_iload_n C0.1 C0.2.1 dX12_go_44 rfl (lv_at hl 2 rfl) ?_
    refine y_add C0 (o35_86 e_6 e_8 e_15 e_16 e_17 c_20 e_42 (le_min v_41) (le_max v_41) (le_min a1) (le_max a1) (le_min a2) (le_max a2) (le_min r_12) (le_max r_12)) (o35_87 e_6 e_8 e_15 e_16 e_17 c_20 e_42 (le_min v_41) (le_max v_41) (le_min a1) (le_max a1) (le_min a2) (le_max a2) (le_min r_12) (le_max r_12)) dX12_go_45 (fun v_43 e_44 => ?_)
    refine y_iald C0 h kSM_1 rfl (by decide) (o35_88 e_6 e_8 e_15 e_16 e_17 c_20 e_42 e_44) (o35_89 e_6 e_8 e_15 e_16 e_17 c_20 e_42 e_44) dX12_go_46 (fun v_45 e_46 e_47 e_48 => ?_)
    have f_49 := o35_22 v_43.toInt.toNat (o35_90 e_6 e_8 e_15 e_16 e_17 c_20 e_42 e_44) (o35_91 e_6 e_8 e_15 e_16 e_17 c_20 e_42 e_44)
    replace HE : FT = ((xso SM ad ws_35), v_45.toInt) := HE.trans (by rw [(xg1 e_46 : v_45.toInt = (xso SM ad ws_35) 1 1 v_43.toInt.toNat), e_44, e_42]; rfl)
    rw [hQ]
    exact y_iret C0 h (Fr.tr (Fr.tr (Fr.tr (Fr.tr (Fr.up u_4.1 kSM_0 (by decide)) (Fr.mono u_10 (by decide))) (Fr.mono u_22 (by decide))) (Fr.mono u_26 (by decide))) (Fr.mono u_36 (by decide))) ⟨(congrArg Prod.fst (HE.symm.trans hFT)), (congrArg Prod.snd (HE.symm.trans hFT)), (o35_92 (Int.le_trans f_49.1 e_47) (Int.le_trans e_48 f_49.2)), (o35_93 (Int.le_trans f_49.1 e_47) (Int.le_trans e_48 f_49.2)), (Pa.tr (Pa.tr (Pa.tr (Pa.tr (Pa.ud u_4.1 (by decide)) (Pa.fr u_10 (by decide))) (Pa.fr u_22 (by decide))) e_33) e_39), (Pw.tr (Pw.tr (Pw.tr (Pw.tr (Pw.ud u_4.1 (by decide)) (Pw.fr u_10 (by decide))) (Pw.fr u_22 (by decide))) e_34) e_40)⟩ dX12_go_47
  · -- 15
    replace HE : FT = g5_X12_go (xso SM ad ws_9) r_12.toInt := HE.trans (if_neg c_20)
    refine y_c2 (n := (-10)) C0 (by decide) dX12_go_18 (fun v_50 e_51 => ?_)
    refine lv_iload_n C0.1 C0.2.1 dX12_go_20 rfl (lv_at hl 0 rfl) ?_
    refine y_sub C0 (o35_94 e_6 e_8 e_15 e_16 e_17 c_20 e_51 (le_min v_50) (le_max v_50) (le_min r_12) (le_max r_12) (le_min a1) (le_max a1) (le_min a2) (le_max a2)) (o35_95 e_6 e_8 e_15 e_16 e_17 c_20 e_51 (le_min v_50) (le_max v_50) (le_min r_12) (le_max r_12) (le_min a1) (le_max a1) (le_min a2) (le_max a2)) dX12_go_21 (fun v_52 e_53 => ?_)
    replace HE : FT = ((xso SM ad ws_9), v_52.toInt) := HE.trans (by rw [e_53, e_51]; rfl)
    rw [hQ]
    exact y_iret C0 h (Fr.tr (Fr.up u_4.1 kSM_0 (by decide)) (Fr.mono u_10 (by decide))) ⟨(congrArg Prod.fst (HE.symm.trans hFT)), (congrArg Prod.snd (HE.symm.trans hFT)), (o35_96 e_6 e_8 e_15 e_16 e_17 c_20 e_51 e_53), (o35_97 e_6 e_8 e_15 e_16 e_17 c_20 e_51 e_53), (Pa.tr (Pa.ud u_4.1 (by decide)) (Pa.fr u_10 (by decide))), (Pw.tr (Pw.ud u_4.1 (by decide)) (Pw.fr u_10 (by decide)))⟩ dX12_go_22
noncomputable def g6w_X12_tells (s : XS) : XR := (s, 0)
noncomputable def g4_X12_tells (s : XS) : XR := g6w_X12_tells (xup s 0 0 17 1)
noncomputable def g14_X12_tells (s : XS) (a1 : Int) : XR := (s, ((s 1 24 (Int.toNat a1)) - 1))
noncomputable def g22w_X12_tells (R55 : XS → Int → Int → Int → XR) (s : XS) (a1 : Int) (v_44 : Int) (x3_48 : Int) : XR := R55 s a1 v_44 ((x3_48 + 1))
noncomputable def g21c_X12_tells (R55 : XS → Int → Int → Int → XR) (s : XS) (r_119 : Int) (v_101 : Int) (a1 : Int) (v_44 : Int) (x3_48 : Int) : XR := g22w_X12_tells R55 (xup s 0 0 18 (Xiadd v_101 r_119)) a1 v_44 x3_48
noncomputable def g19_X12_tells (R55 : XS → Int → Int → Int → XR) (s : XS) (a1 : Int) (v_44 : Int) (x3_48 : Int) : XR := g21c_X12_tells R55 ((f_X12_goes s v_44 ((s 2 25 (Int.toNat ((40 * a1) + x3_48))))).1) (((f_X12_goes s v_44 ((s 2 25 (Int.toNat ((40 * a1) + x3_48))))).2)) ((s 0 0 18)) a1 v_44 x3_48
noncomputable def g20_X12_tells (s : XS) (x3_48 : Int) : XR := (s, (x3_48 - 1))
noncomputable def g18b_X12_tells (R55 : XS → Int → Int → Int → XR) (s : XS) (v_95 : Int) (a1 : Int) (v_44 : Int) (x3_48 : Int) : XR := if v_95 = 0 then g19_X12_tells R55 s a1 v_44 x3_48 else g20_X12_tells s x3_48
noncomputable def g17w_X12_tells (R55 : XS → Int → Int → Int → XR) (s : XS) (a1 : Int) (v_44 : Int) (x3_48 : Int) : XR := g18b_X12_tells R55 s ((s 0 0 17)) a1 v_44 x3_48
noncomputable def g16c_X12_tells (R55 : XS → Int → Int → Int → XR) (s : XS) (r_85 : Int) (a1 : Int) (v_44 : Int) (x3_48 : Int) : XR := g17w_X12_tells R55 (xup s 0 0 17 r_85) a1 v_44 x3_48
noncomputable def g15_X12_tells (R55 : XS → Int → Int → Int → XR) (s : XS) (a1 : Int) (v_44 : Int) (x3_48 : Int) : XR := g16c_X12_tells R55 ((f_X12_whyNot s v_44 (s 2 25 (Int.toNat ((40 * a1) + x3_48)))).1) (((f_X12_whyNot s v_44 (s 2 25 (Int.toNat ((40 * a1) + x3_48)))).2)) a1 v_44 x3_48
noncomputable def g13b_X12_tells (R55 : XS → Int → Int → Int → XR) (s : XS) (v_57 : Int) (x3_48 : Int) (a1 : Int) (v_44 : Int) : XR := if x3_48 < v_57 then g15_X12_tells R55 s a1 v_44 x3_48 else g14_X12_tells s a1
noncomputable def g12l_X12_tells (R55 : XS → Int → Int → Int → XR) (s : XS) (a1 : Int) (v_44 : Int) (x3_48 : Int) : XR := g13b_X12_tells R55 s ((s 1 24 (Int.toNat a1))) x3_48 a1 v_44
noncomputable def L11_X12_tells (n : Nat) : XS → Int → Int → Int → XR := Nat.rec (motive := fun _ => XS → Int → Int → Int → XR) (fun s _ _ _ => (s, 0)) (fun _ R55 => g12l_X12_tells R55) n
noncomputable def g9_X12_tells (s : XS) (a1 : Int) : XR := L11_X12_tells (Int.toNat (40 - 1 + 1)) s a1 (((s 2 25 (Int.toNat (40 * a1))))) 1
noncomputable def g23w_X12_tells (s : XS) : XR := (s, 0)
noncomputable def g10_X12_tells (s : XS) : XR := g23w_X12_tells (xup s 0 0 17 1)
noncomputable def g8b_X12_tells (s : XS) (r_29 : Int) (a1 : Int) : XR := if r_29 = 0 then g10_X12_tells s else g9_X12_tells s a1
noncomputable def g7c_X12_tells (s : XS) (r_29 : Int) (a1 : Int) : XR := g8b_X12_tells s r_29 a1
noncomputable def g5_X12_tells (s : XS) (a1 : Int) : XR := g7c_X12_tells ((f_X12_isPerson s (s 2 25 (Int.toNat (40 * a1)))).1) (((f_X12_isPerson s (s 2 25 (Int.toNat (40 * a1)))).2)) a1
noncomputable def g3b_X12_tells (s : XS) (v_9 : Int) (a1 : Int) : XR := if v_9 = 0 then g4_X12_tells s else g5_X12_tells s a1
noncomputable def g2w_X12_tells (s : XS) (a1 : Int) : XR := g3b_X12_tells s ((s 1 24 (Int.toNat a1))) a1
noncomputable def g1w_X12_tells (s : XS) (a1 : Int) : XR := g2w_X12_tells (xup s 0 0 18 0) a1
noncomputable def f_X12_tells (s : XS) (a1 : Int) : XR := g1w_X12_tells (xup s 0 0 17 0) a1
set_option maxHeartbeats 4000000 in
set_option maxRecDepth 100000 in
theorem c_X12_tells (l : Launch) (G : GG) (Z : RZ) (ad : Nat → Nat) (ws0 : va_W) (hT : Ty G SM ad ws0) (a1 : Int32) (l1 : 0 ≤ a1.toInt) (u1 : a1.toInt ≤ 3) (hJ : J ws0) : Mq l yX12_tells cX12_tells 4 (some .int) 5 G Z [.ref (ad 0), .int a1] ws0 (PI G SM ad [0, 1, 5] ws0 (fun r u => (xso SM ad u = (f_X12_tells (xso SM ad ws0) a1.toInt).1) ∧ (r.toInt = (f_X12_tells (xso SM ad ws0) a1.toInt).2) ∧ (0 ≤ r.toInt) ∧ (r.toInt ≤ 39) ∧ (Pa ws0 u) ∧ (Pw ws0 u))) := by
  refine Mq.start (by decide) (Nat.le_of_ble_eq_true rfl) ?_
  intro p e s m below meth c A ls C0 hZ h hl
  have hl : lv_has ls 4 [(0, .ref (ad 0)), (1, .int a1)] := hl
  have h : Wt G SM ad A s s.heap [] ws0 := ⟨h, hT⟩
  obtain ⟨args, hargs⟩ : ∃ z, z = ([.ref (ad 0), .int a1] : List Value).toArray := ⟨_, rfl⟩
  rw [← hargs] at C0 ⊢
  have C0 : Cx p s m args meth c RX12 cX12_tells 4 (some .int) := C0
  obtain ⟨Q, hQ⟩ : ∃ z, z = MQ below ((PI G SM ad [0, 1, 5] ws0 (fun r u => (xso SM ad u = (f_X12_tells (xso SM ad ws0) a1.toInt).1) ∧ (r.toInt = (f_X12_tells (xso SM ad ws0) a1.toInt).2) ∧ (0 ≤ r.toInt) ∧ (r.toInt ≤ 39) ∧ (Pa ws0 u) ∧ (Pw ws0 u))) A) args s 0 0 A := ⟨_, rfl⟩
  rw [← hQ]
  obtain ⟨FT, hFT⟩ : ∃ z, z = f_X12_tells (xso SM ad ws0) a1.toInt := ⟨_, rfl⟩
  have HE : FT = f_X12_tells (xso SM ad ws0) a1.toInt := hFT
  refine lv_aload_n C0.1 C0.2.1 dX12_tells_0 rfl (lv_at hl 0 rfl) ?_
  refine y_c1 (n := 0) C0 (by decide) dX12_tells_1 (fun v_1 e_2 => ?_)
  refine np_X12_toldWhy C0 h kSM_0 q_1455 (le_min v_1) (le_max v_1) dX12_tells_2 (fun H locs ws_3 h u_4 Xu_4 => ?_)
  replace HE : FT = g1w_X12_tells (xso SM ad ws_3) a1.toInt := HE.trans (by rw [Xu_4, e_2]; rfl)
  refine lv_aload_n C0.1 C0.2.1 dX12_tells_5 rfl (lv_at hl 0 rfl) ?_
  refine y_c1 (n := 0) C0 (by decide) dX12_tells_6 (fun v_5 e_6 => ?_)
  refine np_X12_tookMany C0 h kSM_0 q_1456 (le_min v_5) (le_max v_5) dX12_tells_7 (fun H locs ws_7 h u_8 Xu_8 => ?_)
  replace HE : FT = g2w_X12_tells (xso SM ad ws_7) a1.toInt := HE.trans (by rw [Xu_8, e_6]; rfl)
  refine lv_aload_n C0.1 C0.2.1 dX12_tells_10 rfl (lv_at hl 0 rfl) ?_
  refine ng_X12_rowMany C0 h kSM_0 q_1480 dX12_tells_11 ?_
  refine lv_iload_n C0.1 C0.2.1 dX12_tells_14 rfl (lv_at hl 1 rfl) ?_
  refine y_iald C0 h kSM_24 rfl (by decide) (o35_98 l1 u1) (o35_99 l1 u1) dX12_tells_15 (fun v_9 e_10 e_11 e_12 => ?_)
  replace HE : FT = g3b_X12_tells (xso SM ad ws_7) v_9.toInt a1.toInt := HE.trans (by rw [(xg1 e_10 : v_9.toInt = (xso SM ad ws_7) 1 24 a1.toInt.toNat)]; rfl)
  refine y_if_eq (tgt := 35) C0 dX12_tells_16 (by decide) (fun c_13 => ?_) (fun c_13 => ?_)
  · -- 16
    replace HE : FT = g4_X12_tells (xso SM ad ws_7) := HE.trans (if_pos c_13)
    refine lv_aload_n C0.1 C0.2.1 dX12_tells_35 rfl (lv_at hl 0 rfl) ?_
    refine y_c1 (n := 1) C0 (by decide) dX12_tells_36 (fun v_14 e_15 => ?_)
    refine np_X12_toldWhy C0 h kSM_0 q_1455 (le_min v_14) (le_max v_14) dX12_tells_37 (fun H locs ws_16 h u_17 Xu_17 => ?_)
    replace HE : FT = g6w_X12_tells (xso SM ad ws_16) := HE.trans (by rw [Xu_17, e_15]; rfl)
    refine y_c1 (n := 0) C0 (by decide) dX12_tells_40 (fun v_18 e_19 => ?_)
    replace HE : FT = ((xso SM ad ws_16), v_18.toInt) := HE.trans (by rw [e_19]; rfl)
    rw [hQ]
    exact y_iret C0 h (Fr.tr (Fr.tr (Fr.up u_4.1 kSM_0 (by decide)) (Fr.up u_8.1 kSM_0 (by decide))) (Fr.up u_17.1 kSM_0 (by decide))) ⟨(congrArg Prod.fst (HE.symm.trans hFT)), (congrArg Prod.snd (HE.symm.trans hFT)), (o35_56 e_19), (o35_100 e_19), (Pa.tr (Pa.tr (Pa.ud u_4.1 (by decide)) (Pa.ud u_8.1 (by decide))) (Pa.ud u_17.1 (by decide))), (Pw.tr (Pw.tr (Pw.ud u_4.1 (by decide)) (Pw.ud u_8.1 (by decide))) (Pw.ud u_17.1 (by decide)))⟩ dX12_tells_41
  · -- 16
    replace HE : FT = g5_X12_tells (xso SM ad ws_7) a1.toInt := HE.trans (if_neg c_13)
    refine lv_aload_n C0.1 C0.2.1 dX12_tells_19 rfl (lv_at hl 0 rfl) ?_
    refine lv_aload_n C0.1 C0.2.1 dX12_tells_20 rfl (lv_at hl 0 rfl) ?_
    refine ng_X12_numbers C0 h kSM_0 q_1481 dX12_tells_21 ?_
    refine y_c2 (n := 40) C0 (by decide) dX12_tells_24 (fun v_20 e_21 => ?_)
    refine lv_iload_n C0.1 C0.2.1 dX12_tells_26 rfl (lv_at hl 1 rfl) ?_
    refine y_cmul (n := 40) C0 (o35_101 e_21) (o35_102 l1 u1 (le_min a1) (le_max a1)) (o35_103 l1 u1 (le_min a1) (le_max a1)) dX12_tells_27 (fun v_22 e_23 => ?_)
    refine y_lald C0 h kSM_25 rfl (by decide) (o35_104 l1 u1 e_23) (o35_105 l1 u1 e_23) dX12_tells_28 (fun w_24 e_25 => ?_)
    refine y_ci h (y_rV (As := [.long w_24]) (rest := []) C0 hZ h (c_X12_isPerson l G Z ad _ h.2 w_24 (J.pa hT hJ (Pa.tr (Pa.ud u_4.1 (by decide)) (Pa.ud u_8.1 (by decide))))) k_X12_isPerson q_1693 q_77 q_1691 kSM_0 rfl rfl rfl hl.1 rfl rfl (Nat.le_of_ble_eq_true rfl) dX12_tells_29 ⟨Nat.le_of_ble_eq_true rfl, Nat.le_of_ble_eq_true rfl⟩ ⟨Nat.le_of_ble_eq_true rfl, Nat.le_of_ble_eq_true rfl⟩) (fun r_29 H locs ws_26 h u_27 p_28 => ?_)
    obtain ⟨e_30, e_31, e_32, e_33, e_34, e_35⟩ := p_28
    replace HE : FT = g7c_X12_tells (xso SM ad ws_26) r_29.toInt a1.toInt := HE.trans (by rw [e_30, e_31, (xg2 e_25 : w_24.toInt = (xso SM ad ws_7) 2 25 v_22.toInt.toNat), e_23]; rfl)
    replace HE : FT = g8b_X12_tells (xso SM ad ws_26) r_29.toInt a1.toInt := HE.trans rfl
    refine y_if_ne (tgt := 42) C0 dX12_tells_32 (by decide) (fun c_36 => ?_) (fun c_36 => ?_)
    · -- 32
      replace HE : FT = g9_X12_tells (xso SM ad ws_26) a1.toInt := HE.trans (if_neg c_36)
      refine lv_aload_n C0.1 C0.2.1 dX12_tells_42 rfl (lv_at hl 0 rfl) ?_
      refine ng_X12_numbers C0 h kSM_0 q_1481 dX12_tells_43 ?_
      refine y_c2 (n := 40) C0 (by decide) dX12_tells_46 (fun v_37 e_38 => ?_)
      refine lv_iload_n C0.1 C0.2.1 dX12_tells_48 rfl (lv_at hl 1 rfl) ?_
      refine y_cmul (n := 40) C0 (o35_101 e_38) (o35_106 l1 u1 e_23 (le_min a1) (le_max a1) (le_min v_22) (le_max v_22)) (o35_107 l1 u1 e_23 (le_min a1) (le_max a1) (le_min v_22) (le_max v_22)) dX12_tells_49 (fun v_39 e_40 => ?_)
      refine y_lald C0 h kSM_25 rfl (by decide) (o35_108 l1 u1 e_23 e_40) (o35_109 l1 u1 e_23 e_40) dX12_tells_50 (fun w_41 e_42 => ?_)
      have qh_43 : w_41.toInt = w_24.toInt := congrArg Int64.toInt (e_42.symm.trans (Eq.trans (congrArg (aL ws_26 25) (o35_110 l1 u1 e_23 e_40)) (Eq.trans (Fr.aL u_27 kSM_25 (by decide)) e_25)))
      refine y_l2i C0 (o35_111 e_32 e_33 e_34 c_36 qh_43 (le_min r_29) (le_max r_29)) (o35_112 e_32 e_33 e_34 c_36 qh_43 (le_min r_29) (le_max r_29)) dX12_tells_51 (fun v_44 e_45 => ?_)
      refine lv_istore_n (lv' := [(2, .int v_44), (0, .ref (ad 0)), (1, .int a1)]) C0.1 C0.2.1 dX12_tells_52 rfl hl (by decide) rfl (fun ls hl => ?_)
      refine y_c1 (n := 1) C0 (by decide) dX12_tells_53 (fun v_46 e_47 => ?_)
      refine lv_istore_n (lv' := [(3, .int v_46), (2, .int v_44), (0, .ref (ad 0)), (1, .int a1)]) C0.1 C0.2.1 dX12_tells_54 rfl hl (by decide) rfl (fun ls hl => ?_)
      have lp_51 : ∀ (n_53 : Nat) (x3_48 : Int32) (H : Heap) (locs : List Loc) (ls : Array Slot) (ws_49 : va_W), 40 - x3_48.toInt < (n_53 : Int) → 1 ≤ x3_48.toInt → x3_48.toInt ≤ 40 → (Pa ws_26 ws_49) → (Pw ws_26 ws_49) → (FT = L11_X12_tells n_53 (xso SM ad ws_49) a1.toInt v_44.toInt x3_48.toInt) → Wt G SM ad A s H locs ws_49 → Fr SM [0, 1, 5] ws_26 ws_49 → lv_has ls 4 [(3, .int x3_48), (2, .int v_44), (0, .ref (ad 0)), (1, .int a1)] → W p l e (rmd 5 0 0) s m args below meth c H locs 0 0 Q (F0 m 55 ls []) := by
        intro n_53
        induction n_53 with
        | zero => intro x3_48 H locs ls ws_49 hn_54 b_55 b_56 hPa_55 hPw_55 HE h hF_50 hl; exact ((o35_113 b_55 b_56 hn_54)).elim
        | succ n_53 ih_52 =>
          intro x3_48 H locs ls ws_49 hn_54 b_55 b_56 hPa_55 hPw_55 HE h hF_50 hl
          obtain ⟨R55, hR55⟩ : ∃ z, z = L11_X12_tells n_53 := ⟨_, rfl⟩
          replace HE : FT = g12l_X12_tells R55 (xso SM ad ws_49) a1.toInt v_44.toInt x3_48.toInt := HE.trans (by rw [hR55]; rfl)
          refine lv_iload_n C0.1 C0.2.1 dX12_tells_55 rfl (lv_at hl 0 rfl) ?_
          refine lv_aload_n C0.1 C0.2.1 dX12_tells_56 rfl (lv_at hl 2 rfl) ?_
          refine ng_X12_rowMany C0 h kSM_0 q_1480 dX12_tells_57 ?_
          refine lv_iload_n C0.1 C0.2.1 dX12_tells_60 rfl (lv_at hl 3 rfl) ?_
          refine y_iald C0 h kSM_24 rfl (by decide) (o35_114 l1 u1 e_23 e_40) (o35_115 l1 u1 e_23 e_40) dX12_tells_61 (fun v_57 e_58 e_59 e_60 => ?_)
          have qh_61 : v_57.toInt = v_9.toInt := congrArg Int32.toInt (e_58.symm.trans (Eq.trans rfl (Eq.trans (Eq.trans (Fr.aI hF_50 kSM_24 (by decide)) (Fr.aI u_27 kSM_24 (by decide))) e_10)))
          replace HE : FT = g13b_X12_tells R55 (xso SM ad ws_49) v_57.toInt x3_48.toInt a1.toInt v_44.toInt := HE.trans (by rw [(xg1 e_58 : v_57.toInt = (xso SM ad ws_49) 1 24 a1.toInt.toNat)]; rfl)
          refine y_icmp_ge (tgt := 129) C0 dX12_tells_62 (by decide) (fun c_62 => ?_) (fun c_62 => ?_)
          · -- 62
            replace HE : FT = g14_X12_tells (xso SM ad ws_49) a1.toInt := HE.trans (if_neg (Int.not_lt.mpr c_62))
            refine lv_aload_n C0.1 C0.2.1 dX12_tells_129 rfl (lv_at hl 2 rfl) ?_
            refine ng_X12_rowMany C0 h kSM_0 q_1480 dX12_tells_130 ?_
            refine lv_iload_n C0.1 C0.2.1 dX12_tells_133 rfl (lv_at hl 3 rfl) ?_
            refine y_iald C0 h kSM_24 rfl (by decide) (o35_114 l1 u1 e_23 e_40) (o35_115 l1 u1 e_23 e_40) dX12_tells_134 (fun v_63 e_64 e_65 e_66 => ?_)
            have qh_67 : v_63.toInt = v_9.toInt := congrArg Int32.toInt (e_64.symm.trans (Eq.trans rfl (Eq.trans (Eq.trans (Fr.aI hF_50 kSM_24 (by decide)) (Fr.aI u_27 kSM_24 (by decide))) e_10)))
            refine y_c1 (n := 1) C0 (by decide) dX12_tells_135 (fun v_68 e_69 => ?_)
            refine y_sub C0 (o35_116 e_11 e_12 c_13 b_55 b_56 hn_54 e_59 e_60 qh_61 c_62 e_65 e_66 qh_67 e_69 (le_min v_63) (le_max v_63) (le_min v_68) (le_max v_68) (le_min v_9) (le_max v_9) (le_min x3_48) (le_max x3_48) (le_min v_57) (le_max v_57)) (o35_117 e_11 e_12 c_13 b_55 b_56 hn_54 e_59 e_60 qh_61 c_62 e_65 e_66 qh_67 e_69 (le_min v_63) (le_max v_63) (le_min v_68) (le_max v_68) (le_min v_9) (le_max v_9) (le_min x3_48) (le_max x3_48) (le_min v_57) (le_max v_57)) dX12_tells_136 (fun v_70 e_71 => ?_)
            replace HE : FT = ((xso SM ad ws_49), v_70.toInt) := HE.trans (by rw [e_71, e_69, (xg1 e_64 : v_63.toInt = (xso SM ad ws_49) 1 24 a1.toInt.toNat)]; rfl)
            rw [hQ]
            exact y_iret C0 h (Fr.tr (Fr.tr (Fr.tr (Fr.up u_4.1 kSM_0 (by decide)) (Fr.up u_8.1 kSM_0 (by decide))) (Fr.mono u_27 (by decide))) hF_50) ⟨(congrArg Prod.fst (HE.symm.trans hFT)), (congrArg Prod.snd (HE.symm.trans hFT)), (o35_118 e_11 e_12 c_13 b_55 b_56 hn_54 e_59 e_60 qh_61 c_62 e_65 e_66 qh_67 e_69 e_71), (o35_119 e_11 e_12 c_13 b_55 b_56 hn_54 e_59 e_60 qh_61 c_62 e_65 e_66 qh_67 e_69 e_71), (Pa.tr (Pa.tr (Pa.tr (Pa.ud u_4.1 (by decide)) (Pa.ud u_8.1 (by decide))) (Pa.fr u_27 (by decide))) hPa_55), (Pw.tr (Pw.tr (Pw.tr (Pw.ud u_4.1 (by decide)) (Pw.ud u_8.1 (by decide))) (Pw.fr u_27 (by decide))) hPw_55)⟩ dX12_tells_137
          · -- 62
            replace HE : FT = g15_X12_tells R55 (xso SM ad ws_49) a1.toInt v_44.toInt x3_48.toInt := HE.trans (if_pos c_62)
            refine lv_aload_n C0.1 C0.2.1 dX12_tells_65 rfl (lv_at hl 2 rfl) ?_
            refine lv_aload_n C0.1 C0.2.1 dX12_tells_66 rfl (lv_at hl 2 rfl) ?_
            refine lv_iload_n C0.1 C0.2.1 dX12_tells_67 rfl (lv_at hl 1 rfl) ?_
            refine y_i2l C0 dX12_tells_68 (fun w_72 e_73 => ?_)
            refine lv_aload_n C0.1 C0.2.1 dX12_tells_69 rfl (lv_at hl 2 rfl) ?_
            refine ng_X12_numbers C0 h kSM_0 q_1481 dX12_tells_70 ?_
            refine y_c2 (n := 40) C0 (by decide) dX12_tells_73 (fun v_74 e_75 => ?_)
            refine lv_iload_n C0.1 C0.2.1 dX12_tells_75 rfl (lv_at hl 3 rfl) ?_
            refine y_cmul (n := 40) C0 (o35_101 e_75) (o35_120 l1 u1 e_23 e_40 (le_min a1) (le_max a1) (le_min v_22) (le_max v_22) (le_min v_39) (le_max v_39)) (o35_121 l1 u1 e_23 e_40 (le_min a1) (le_max a1) (le_min v_22) (le_max v_22) (le_min v_39) (le_max v_39)) dX12_tells_76 (fun v_76 e_77 => ?_)
            refine lv_iload_n C0.1 C0.2.1 dX12_tells_77 rfl (lv_at hl 0 rfl) ?_
            refine y_add C0 (o35_122 l1 u1 e_11 e_12 c_13 e_23 e_40 b_55 b_56 hn_54 e_59 e_60 qh_61 c_62 e_77 (le_min v_76) (le_max v_76) (le_min x3_48) (le_max x3_48) (le_min a1) (le_max a1) (le_min v_9) (le_max v_9) (le_min v_22) (le_max v_22) (le_min v_39) (le_max v_39) (le_min v_57) (le_max v_57)) (o35_123 l1 u1 e_11 e_12 c_13 e_23 e_40 b_55 b_56 hn_54 e_59 e_60 qh_61 c_62 e_77 (le_min v_76) (le_max v_76) (le_min x3_48) (le_max x3_48) (le_min a1) (le_max a1) (le_min v_9) (le_max v_9) (le_min v_22) (le_max v_22) (le_min v_39) (le_max v_39) (le_min v_57) (le_max v_57)) dX12_tells_78 (fun v_78 e_79 => ?_)
            refine y_lald C0 h kSM_25 rfl (by decide) (o35_124 l1 u1 e_11 e_12 c_13 e_23 e_40 b_55 b_56 hn_54 e_59 e_60 qh_61 c_62 e_77 e_79) (o35_125 l1 u1 e_11 e_12 c_13 e_23 e_40 b_55 b_56 hn_54 e_59 e_60 qh_61 c_62 e_77 e_79) dX12_tells_79 (fun w_80 e_81 => ?_)
            refine y_ci h (y_rV (As := [.long w_72, .long w_80]) (rest := [.ref (ad 0)]) C0 hZ h (c_X12_whyNot l G Z ad _ h.2 w_72 w_80 (J.pa hT hJ (Pa.tr (Pa.tr (Pa.tr (Pa.ud u_4.1 (by decide)) (Pa.ud u_8.1 (by decide))) (Pa.fr u_27 (by decide))) hPa_55))) k_X12_whyNot q_1758 q_86 q_1756 kSM_0 rfl rfl rfl hl.1 rfl rfl (Nat.le_of_ble_eq_true rfl) dX12_tells_80 ⟨Nat.le_of_ble_eq_true rfl, Nat.le_of_ble_eq_true rfl⟩ ⟨Nat.le_of_ble_eq_true rfl, Nat.le_of_ble_eq_true rfl⟩) (fun r_85 H locs ws_82 h u_83 p_84 => ?_)
            obtain ⟨e_86, e_87, e_88, e_89, e_90, e_91, e_92⟩ := p_84
            replace HE : FT = g16c_X12_tells R55 (xso SM ad ws_82) r_85.toInt a1.toInt v_44.toInt x3_48.toInt := HE.trans (by rw [e_86, e_87, (xg2 e_81 : w_80.toInt = (xso SM ad ws_49) 2 25 v_78.toInt.toNat), e_79, e_77, e_73]; rfl)
            refine np_X12_toldWhy C0 h kSM_0 q_1455 (le_min r_85) (le_max r_85) dX12_tells_83 (fun H locs ws_93 h u_94 Xu_94 => ?_)
            replace HE : FT = g17w_X12_tells R55 (xso SM ad ws_93) a1.toInt v_44.toInt x3_48.toInt := HE.trans (by rw [Xu_94]; rfl)
            refine lv_aload_n C0.1 C0.2.1 dX12_tells_86 rfl (lv_at hl 2 rfl) ?_
            refine ng_X12_toldWhy C0 h kSM_0 q_1455 dX12_tells_87 (fun v_95 e_96 e_97 e_98 => ?_)
            have qh_99 : v_95.toInt = r_85.toInt := congrArg Int32.toInt (e_96.symm.trans (Eq.trans rfl u_94.2.1))
            replace HE : FT = g18b_X12_tells R55 (xso SM ad ws_93) v_95.toInt a1.toInt v_44.toInt x3_48.toInt := HE.trans (by rw [(xg0 e_96 : v_95.toInt = (xso SM ad ws_93) 0 0 17)]; rfl)
            refine y_if_eq (tgt := 97) C0 dX12_tells_90 (by decide) (fun c_100 => ?_) (fun c_100 => ?_)
            · -- 90
              replace HE : FT = g19_X12_tells R55 (xso SM ad ws_93) a1.toInt v_44.toInt x3_48.toInt := HE.trans (if_pos c_100)
              refine lv_aload_n C0.1 C0.2.1 dX12_tells_97 rfl (lv_at hl 2 rfl) ?_
              refine lv_dup C0.1 C0.2.1 dX12_tells_98 rfl ?_
              refine ng_X12_tookMany C0 h kSM_0 q_1456 dX12_tells_99 (fun v_101 e_102 e_103 e_104 => ?_)
              refine lv_aload_n C0.1 C0.2.1 dX12_tells_102 rfl (lv_at hl 2 rfl) ?_
              refine lv_iload_n C0.1 C0.2.1 dX12_tells_103 rfl (lv_at hl 1 rfl) ?_
              refine lv_aload_n C0.1 C0.2.1 dX12_tells_104 rfl (lv_at hl 2 rfl) ?_
              refine ng_X12_numbers C0 h kSM_0 q_1481 dX12_tells_105 ?_
              refine y_c2 (n := 40) C0 (by decide) dX12_tells_108 (fun v_105 e_106 => ?_)
              refine lv_iload_n C0.1 C0.2.1 dX12_tells_110 rfl (lv_at hl 3 rfl) ?_
              refine y_cmul (n := 40) C0 (o35_101 e_106) (o35_126 l1 u1 e_11 e_12 c_13 e_23 e_40 b_55 b_56 hn_54 e_59 e_60 qh_61 c_62 e_77 e_79 (le_min a1) (le_max a1) (le_min v_9) (le_max v_9) (le_min v_22) (le_max v_22) (le_min v_39) (le_max v_39) (le_min x3_48) (le_max x3_48) (le_min v_57) (le_max v_57) (le_min v_76) (le_max v_76) (le_min v_78) (le_max v_78)) (o35_127 l1 u1 e_11 e_12 c_13 e_23 e_40 b_55 b_56 hn_54 e_59 e_60 qh_61 c_62 e_77 e_79 (le_min a1) (le_max a1) (le_min v_9) (le_max v_9) (le_min v_22) (le_max v_22) (le_min v_39) (le_max v_39) (le_min x3_48) (le_max x3_48) (le_min v_57) (le_max v_57) (le_min v_76) (le_max v_76) (le_min v_78) (le_max v_78)) dX12_tells_111 (fun v_107 e_108 => ?_)
              refine lv_iload_n C0.1 C0.2.1 dX12_tells_112 rfl (lv_at hl 0 rfl) ?_
              refine y_add C0 (o35_128 l1 u1 e_11 e_12 c_13 e_23 e_40 b_55 b_56 hn_54 e_59 e_60 qh_61 c_62 e_77 e_79 e_108 (le_min v_107) (le_max v_107) (le_min x3_48) (le_max x3_48) (le_min a1) (le_max a1) (le_min v_9) (le_max v_9) (le_min v_22) (le_max v_22) (le_min v_39) (le_max v_39) (le_min v_57) (le_max v_57) (le_min v_76) (le_max v_76) (le_min v_78) (le_max v_78)) (o35_129 l1 u1 e_11 e_12 c_13 e_23 e_40 b_55 b_56 hn_54 e_59 e_60 qh_61 c_62 e_77 e_79 e_108 (le_min v_107) (le_max v_107) (le_min x3_48) (le_max x3_48) (le_min a1) (le_max a1) (le_min v_9) (le_max v_9) (le_min v_22) (le_max v_22) (le_min v_39) (le_max v_39) (le_min v_57) (le_max v_57) (le_min v_76) (le_max v_76) (le_min v_78) (le_max v_78)) dX12_tells_113 (fun v_109 e_110 => ?_)
              refine y_lald C0 h kSM_25 rfl (by decide) (o35_130 l1 u1 e_11 e_12 c_13 e_23 e_40 b_55 b_56 hn_54 e_59 e_60 qh_61 c_62 e_77 e_79 e_108 e_110) (o35_131 l1 u1 e_11 e_12 c_13 e_23 e_40 b_55 b_56 hn_54 e_59 e_60 qh_61 c_62 e_77 e_79 e_108 e_110) dX12_tells_114 (fun w_111 e_112 => ?_)
              have qh_113 : w_111.toInt = w_80.toInt := congrArg Int64.toInt (e_112.symm.trans (Eq.trans (congrArg (aL ws_93 25) (o35_132 l1 u1 e_11 e_12 c_13 e_23 e_40 b_55 b_56 hn_54 e_59 e_60 qh_61 c_62 e_77 e_79 e_108 e_110)) (Eq.trans (Eq.trans (aL_of (u_94.1 25 (kd_ne kSM_25 kSM_0 (by decide)))) (Fr.aL u_83 kSM_25 (by decide))) e_81)))
              refine y_l2i C0 (o35_133 e_32 e_33 e_34 c_36 qh_43 e_45 e_73 e_88 e_89 e_90 qh_99 c_100 qh_113 (le_min r_29) (le_max r_29) (le_min v_44) (le_max v_44) (le_min r_85) (le_max r_85) (le_min v_95) (le_max v_95)) (o35_134 e_32 e_33 e_34 c_36 qh_43 e_45 e_73 e_88 e_89 e_90 qh_99 c_100 qh_113 (le_min r_29) (le_max r_29) (le_min v_44) (le_max v_44) (le_min r_85) (le_max r_85) (le_min v_95) (le_max v_95)) dX12_tells_115 (fun v_114 e_115 => ?_)
              refine y_ci h (y_rV (As := [.int v_44, .int v_114]) (rest := [.int v_101, .ref (ad 0)]) C0 hZ h (c_X12_goes l G Z ad _ h.2 v_44 v_114 (o35_135 e_32 e_33 e_34 c_36 qh_43 e_45 e_73 e_88 e_89 e_90 qh_99 c_100 qh_113 e_115) (o35_136 e_32 e_33 e_34 c_36 qh_43 e_45 e_73 e_88 e_89 e_90 qh_99 c_100 qh_113 e_115) (o35_137 e_32 e_33 e_34 c_36 qh_43 e_45 e_73 e_88 e_89 e_90 qh_99 c_100 qh_113 e_115) (o35_138 e_32 e_33 e_34 c_36 qh_43 e_45 e_73 e_88 e_89 e_90 qh_99 c_100 qh_113 e_115) ((CanM.fr (M := [0]) (Fr.up u_94.1 kSM_0 (by decide)) (by decide) (CanM.fr u_83 (by decide) (CanM.cg (e_91 (o35_139 e_32 e_33 e_34 c_36 qh_43 e_45 e_73 e_88 e_89 e_90 qh_99 c_100 qh_113 e_115)) (o35_140 e_32 e_33 e_34 c_36 qh_43 e_45 e_73 e_88 e_89 e_90 qh_99 c_100 qh_113 e_115) (o35_141 e_32 e_33 e_34 c_36 qh_43 e_45 e_73 e_88 e_89 e_90 qh_99 c_100 qh_113 e_115))))) (Laid.pa (Or.resolve_left e_35 (o35_142 e_32 e_33 e_34 c_36 qh_43 e_45 e_73 e_88 e_89 e_90 qh_99 c_100 qh_113 e_115)) (Pa.tr (Pa.tr (Pa.tr (Pa.fr u_27 (by decide)) hPa_55) (Pa.fr u_83 (by decide))) (Pa.ud u_94.1 (by decide))))) k_X12_goes q_1781 q_89 q_1779 kSM_0 rfl rfl rfl hl.1 rfl rfl (Nat.le_of_ble_eq_true rfl) dX12_tells_116 ⟨Nat.le_of_ble_eq_true rfl, Nat.le_of_ble_eq_true rfl⟩ ⟨Nat.le_of_ble_eq_true rfl, Nat.le_of_ble_eq_true rfl⟩) (fun r_119 H locs ws_116 h u_117 p_118 => ?_)
              obtain ⟨e_120, e_121, e_122, e_123, e_124, e_125⟩ := p_118
              replace HE : FT = g21c_X12_tells R55 (xso SM ad ws_116) r_119.toInt v_101.toInt a1.toInt v_44.toInt x3_48.toInt := HE.trans (by rw [e_120, (xg0 e_102 : v_101.toInt = (xso SM ad ws_93) 0 0 18), e_121, e_115, (xg2 e_112 : w_111.toInt = (xso SM ad ws_93) 2 25 v_109.toInt.toNat), e_110, e_108]; rfl)
              refine xr_iadd C0 dX12_tells_119 (fun v_126 e_127 => ?_)
              refine np_X12_tookMany C0 h kSM_0 q_1456 (le_min v_126) (le_max v_126) dX12_tells_120 (fun H locs ws_128 h u_129 Xu_129 => ?_)
              replace HE : FT = g22w_X12_tells R55 (xso SM ad ws_128) a1.toInt v_44.toInt x3_48.toInt := HE.trans (by rw [Xu_129, e_127]; rfl)
              refine y_inc (kp := 0) (n := 1) (fun v_130 => [(3, .int v_130), (2, .int v_44), (0, .ref (ad 0)), (1, .int a1)]) C0 hl rfl (by decide) (by decide) (fun _ => rfl) (o35_143 l1 u1 e_11 e_12 c_13 e_23 e_40 b_55 b_56 hn_54 e_59 e_60 qh_61 c_62 e_77 e_79 e_108 e_110 (le_min x3_48) (le_max x3_48) (le_min a1) (le_max a1) (le_min v_9) (le_max v_9) (le_min v_22) (le_max v_22) (le_min v_39) (le_max v_39) (le_min v_57) (le_max v_57) (le_min v_76) (le_max v_76) (le_min v_78) (le_max v_78) (le_min v_107) (le_max v_107) (le_min v_109) (le_max v_109)) (o35_144 l1 u1 e_11 e_12 c_13 e_23 e_40 b_55 b_56 hn_54 e_59 e_60 qh_61 c_62 e_77 e_79 e_108 e_110 (le_min x3_48) (le_max x3_48) (le_min a1) (le_max a1) (le_min v_9) (le_max v_9) (le_min v_22) (le_max v_22) (le_min v_39) (le_max v_39) (le_min v_57) (le_max v_57) (le_min v_76) (le_max v_76) (le_min v_78) (le_max v_78) (le_min v_107) (le_max v_107) (le_min v_109) (le_max v_109)) dX12_tells_123 (fun v_130 ls e_131 hl => ?_)
              refine lv_goto (tgt := 55) C0.1 C0.2.1 dX12_tells_126 (by decide) ?_
              exact ih_52 v_130 _ _ _ _ (o35_145 l1 u1 e_11 e_12 c_13 e_23 e_40 b_55 b_56 hn_54 e_59 e_60 qh_61 c_62 e_77 e_79 e_108 e_110 e_131) (o35_146 l1 u1 e_11 e_12 c_13 e_23 e_40 b_55 b_56 hn_54 e_59 e_60 qh_61 c_62 e_77 e_79 e_108 e_110 e_131) (o35_147 l1 u1 e_11 e_12 c_13 e_23 e_40 b_55 b_56 hn_54 e_59 e_60 qh_61 c_62 e_77 e_79 e_108 e_110 e_131) ((Pa.tr (Pa.tr (Pa.tr (Pa.tr hPa_55 (Pa.fr u_83 (by decide))) (Pa.ud u_94.1 (by decide))) e_124) (Pa.ud u_129.1 (by decide)))) ((Pw.tr (Pw.tr (Pw.tr (Pw.tr hPw_55 (Pw.fr u_83 (by decide))) (Pw.ud u_94.1 (by decide))) e_125) (Pw.ud u_129.1 (by decide)))) (((show FT = R55 (xso SM ad ws_128) a1.toInt v_44.toInt v_130.toInt from HE.trans (by rw [e_131]; rfl)).trans (by rw [hR55]))) h (Fr.tr (Fr.tr (Fr.tr (Fr.tr hF_50 (Fr.mono u_83 (by decide))) (Fr.up u_94.1 kSM_0 (by decide))) (Fr.mono u_117 (by decide))) (Fr.up u_129.1 kSM_0 (by decide))) (lv_sub hl [0, 1, 2, 3] rfl)
            · -- 90
              replace HE : FT = g20_X12_tells (xso SM ad ws_93) x3_48.toInt := HE.trans (if_neg c_100)
              refine lv_iload_n C0.1 C0.2.1 dX12_tells_93 rfl (lv_at hl 0 rfl) ?_
              refine y_c1 (n := 1) C0 (by decide) dX12_tells_94 (fun v_132 e_133 => ?_)
              refine y_sub C0 (o35_148 l1 u1 e_11 e_12 c_13 e_23 e_40 b_55 b_56 hn_54 e_59 e_60 qh_61 c_62 e_77 e_79 e_133 (le_min x3_48) (le_max x3_48) (le_min v_132) (le_max v_132) (le_min a1) (le_max a1) (le_min v_9) (le_max v_9) (le_min v_22) (le_max v_22) (le_min v_39) (le_max v_39) (le_min v_57) (le_max v_57) (le_min v_76) (le_max v_76) (le_min v_78) (le_max v_78)) (o35_149 l1 u1 e_11 e_12 c_13 e_23 e_40 b_55 b_56 hn_54 e_59 e_60 qh_61 c_62 e_77 e_79 e_133 (le_min x3_48) (le_max x3_48) (le_min v_132) (le_max v_132) (le_min a1) (le_max a1) (le_min v_9) (le_max v_9) (le_min v_22) (le_max v_22) (le_min v_39) (le_max v_39) (le_min v_57) (le_max v_57) (le_min v_76) (le_max v_76) (le_min v_78) (le_max v_78)) dX12_tells_95 (fun v_134 e_135 => ?_)
              replace HE : FT = ((xso SM ad ws_93), v_134.toInt) := HE.trans (by rw [e_135, e_133]; rfl)
              rw [hQ]
              exact y_iret C0 h (Fr.tr (Fr.tr (Fr.tr (Fr.tr (Fr.tr (Fr.up u_4.1 kSM_0 (by decide)) (Fr.up u_8.1 kSM_0 (by decide))) (Fr.mono u_27 (by decide))) hF_50) (Fr.mono u_83 (by decide))) (Fr.up u_94.1 kSM_0 (by decide))) ⟨(congrArg Prod.fst (HE.symm.trans hFT)), (congrArg Prod.snd (HE.symm.trans hFT)), (o35_150 l1 u1 e_11 e_12 c_13 e_23 e_40 b_55 b_56 hn_54 e_59 e_60 qh_61 c_62 e_77 e_79 e_133 e_135), (o35_151 l1 u1 e_11 e_12 c_13 e_23 e_40 b_55 b_56 hn_54 e_59 e_60 qh_61 c_62 e_77 e_79 e_133 e_135), (Pa.tr (Pa.tr (Pa.tr (Pa.tr (Pa.tr (Pa.ud u_4.1 (by decide)) (Pa.ud u_8.1 (by decide))) (Pa.fr u_27 (by decide))) hPa_55) (Pa.fr u_83 (by decide))) (Pa.ud u_94.1 (by decide))), (Pw.tr (Pw.tr (Pw.tr (Pw.tr (Pw.tr (Pw.ud u_4.1 (by decide)) (Pw.ud u_8.1 (by decide))) (Pw.fr u_27 (by decide))) hPw_55) (Pw.fr u_83 (by decide))) (Pw.ud u_94.1 (by decide)))⟩ dX12_tells_96
      exact lp_51 ((40 - v_46.toInt + 1).toNat) v_46 _ _ _ _ (o35_152 e_47) (o35_153 e_47) (o35_154 e_47) Pa.rf Pw.rf ((show FT = L11_X12_tells (Int.toNat (40 - v_46.toInt + 1)) (xso SM ad ws_26) a1.toInt v_44.toInt v_46.toInt from HE.trans (by rw [e_47, e_45, (xg2 e_42 : w_41.toInt = (xso SM ad ws_26) 2 25 v_39.toInt.toNat), e_40]; rfl))) h Fr.rf (lv_sub hl [0, 1, 2, 3] rfl)
    · -- 32
      replace HE : FT = g10_X12_tells (xso SM ad ws_26) := HE.trans (if_pos c_36)
      refine lv_aload_n C0.1 C0.2.1 dX12_tells_35 rfl (lv_at hl 0 rfl) ?_
      refine y_c1 (n := 1) C0 (by decide) dX12_tells_36 (fun v_136 e_137 => ?_)
      refine np_X12_toldWhy C0 h kSM_0 q_1455 (le_min v_136) (le_max v_136) dX12_tells_37 (fun H locs ws_138 h u_139 Xu_139 => ?_)
      replace HE : FT = g23w_X12_tells (xso SM ad ws_138) := HE.trans (by rw [Xu_139, e_137]; rfl)
      refine y_c1 (n := 0) C0 (by decide) dX12_tells_40 (fun v_140 e_141 => ?_)
      replace HE : FT = ((xso SM ad ws_138), v_140.toInt) := HE.trans (by rw [e_141]; rfl)
      rw [hQ]
      exact y_iret C0 h (Fr.tr (Fr.tr (Fr.tr (Fr.up u_4.1 kSM_0 (by decide)) (Fr.up u_8.1 kSM_0 (by decide))) (Fr.mono u_27 (by decide))) (Fr.up u_139.1 kSM_0 (by decide))) ⟨(congrArg Prod.fst (HE.symm.trans hFT)), (congrArg Prod.snd (HE.symm.trans hFT)), (o35_56 e_141), (o35_100 e_141), (Pa.tr (Pa.tr (Pa.tr (Pa.ud u_4.1 (by decide)) (Pa.ud u_8.1 (by decide))) (Pa.fr u_27 (by decide))) (Pa.ud u_139.1 (by decide))), (Pw.tr (Pw.tr (Pw.tr (Pw.ud u_4.1 (by decide)) (Pw.ud u_8.1 (by decide))) (Pw.fr u_27 (by decide))) (Pw.ud u_139.1 (by decide)))⟩ dX12_tells_41
noncomputable def g23_X12_judge (s : XS) : XR := (s, (s 0 0 18))
noncomputable def g24_X12_judge (s : XS) : XR := (s, ((-1)))
noncomputable def g22b_X12_judge (s : XS) (a2 : Int) : XR := if a2 = 2 then g24_X12_judge s else g23_X12_judge s
noncomputable def g20_X12_judge (s : XS) (a2 : Int) : XR := g22b_X12_judge s a2
noncomputable def g21_X12_judge (s : XS) : XR := (s, (s 0 0 17))
noncomputable def g19b_X12_judge (s : XS) (a2 : Int) : XR := if a2 = 1 then g21_X12_judge s else g20_X12_judge s a2
noncomputable def g17_X12_judge (s : XS) (a2 : Int) : XR := g19b_X12_judge s a2
noncomputable def g26_X12_judge (s : XS) (r_45 : Int) : XR := (s, 0)
noncomputable def g27_X12_judge (s : XS) : XR := (s, ((-1)))
noncomputable def g25b_X12_judge (s : XS) (v_76 : Int) (r_45 : Int) : XR := if v_76 = 0 then g27_X12_judge s else g26_X12_judge s r_45
noncomputable def g18_X12_judge (s : XS) (r_45 : Int) : XR := g25b_X12_judge s ((s 0 0 17)) r_45
noncomputable def g16b_X12_judge (s : XS) (a2 : Int) (r_45 : Int) : XR := if a2 = 0 then g18_X12_judge s r_45 else g17_X12_judge s a2
noncomputable def g15c_X12_judge (s : XS) (a2 : Int) (r_45 : Int) : XR := g16b_X12_judge s a2 r_45
noncomputable def g14c_X12_judge (s : XS) (r_45 : Int) (a1 : Int) (a2 : Int) : XR := g15c_X12_judge ((f_X12_isAgain s).1) a2 r_45
noncomputable def g13c_X12_judge (s : XS) (a1 : Int) (a2 : Int) : XR := g14c_X12_judge ((f_X12_tells s a1).1) (((f_X12_tells s a1).2)) a1 a2
noncomputable def g11_X12_judge (s : XS) (a1 : Int) (a2 : Int) : XR := g13c_X12_judge ((f_X12_keeps s).1) a1 a2
noncomputable def g42_X12_judge (s : XS) : XR := (s, (s 0 0 18))
noncomputable def g43_X12_judge (s : XS) : XR := (s, ((-1)))
noncomputable def g41b_X12_judge (s : XS) (a2 : Int) : XR := if a2 = 2 then g43_X12_judge s else g42_X12_judge s
noncomputable def g39_X12_judge (s : XS) (a2 : Int) : XR := g41b_X12_judge s a2
noncomputable def g40_X12_judge (s : XS) : XR := (s, (s 0 0 17))
noncomputable def g38b_X12_judge (s : XS) (a2 : Int) : XR := if a2 = 1 then g40_X12_judge s else g39_X12_judge s a2
noncomputable def g36_X12_judge (s : XS) (a2 : Int) : XR := g38b_X12_judge s a2
noncomputable def g45_X12_judge (s : XS) (r_112 : Int) : XR := (s, 0)
noncomputable def g46_X12_judge (s : XS) : XR := (s, ((-1)))
noncomputable def g44b_X12_judge (s : XS) (v_143 : Int) (r_112 : Int) : XR := if v_143 = 0 then g46_X12_judge s else g45_X12_judge s r_112
noncomputable def g37_X12_judge (s : XS) (r_112 : Int) : XR := g44b_X12_judge s ((s 0 0 17)) r_112
noncomputable def g35b_X12_judge (s : XS) (a2 : Int) (r_112 : Int) : XR := if a2 = 0 then g37_X12_judge s r_112 else g36_X12_judge s a2
noncomputable def g34c_X12_judge (s : XS) (a2 : Int) (r_112 : Int) : XR := g35b_X12_judge s a2 r_112
noncomputable def g33c_X12_judge (s : XS) (r_112 : Int) (a1 : Int) (a2 : Int) : XR := g34c_X12_judge ((f_X12_isAgain s).1) a2 r_112
noncomputable def g32c_X12_judge (s : XS) (a1 : Int) (a2 : Int) : XR := g33c_X12_judge ((f_X12_tells s a1).1) (((f_X12_tells s a1).2)) a1 a2
noncomputable def g30_X12_judge (s : XS) (a1 : Int) (a2 : Int) : XR := g32c_X12_judge ((f_X12_keeps s).1) a1 a2
noncomputable def g57_X12_judge (s : XS) : XR := (s, (s 0 0 18))
noncomputable def g58_X12_judge (s : XS) (v_183 : Int) : XR := (s, v_183)
noncomputable def g56b_X12_judge (s : XS) (a2 : Int) (v_183 : Int) : XR := if a2 = 2 then g58_X12_judge s v_183 else g57_X12_judge s
noncomputable def g54_X12_judge (s : XS) (a2 : Int) (v_183 : Int) : XR := g56b_X12_judge s a2 v_183
noncomputable def g55_X12_judge (s : XS) : XR := (s, (s 0 0 17))
noncomputable def g53b_X12_judge (s : XS) (a2 : Int) (v_183 : Int) : XR := if a2 = 1 then g55_X12_judge s else g54_X12_judge s a2 v_183
noncomputable def g51_X12_judge (s : XS) (a2 : Int) (v_183 : Int) : XR := g53b_X12_judge s a2 v_183
noncomputable def g60_X12_judge (s : XS) (r_162 : Int) : XR := (s, (r_162 + 1))
noncomputable def g61_X12_judge (s : XS) : XR := (s, ((-1)))
noncomputable def g59b_X12_judge (s : XS) (v_209 : Int) (r_162 : Int) : XR := if v_209 = 0 then g61_X12_judge s else g60_X12_judge s r_162
noncomputable def g52_X12_judge (s : XS) (r_162 : Int) : XR := g59b_X12_judge s ((s 0 0 17)) r_162
noncomputable def g50b_X12_judge (s : XS) (a2 : Int) (r_162 : Int) (v_183 : Int) : XR := if a2 = 0 then g52_X12_judge s r_162 else g51_X12_judge s a2 v_183
noncomputable def g49c_X12_judge (s : XS) (a2 : Int) (r_162 : Int) (v_183 : Int) : XR := g50b_X12_judge s a2 r_162 v_183
noncomputable def g48c_X12_judge (s : XS) (r_162 : Int) (a1 : Int) (a2 : Int) : XR := g49c_X12_judge ((f_X12_isAgain s).1) a2 r_162 ((s 1 1 (Int.toNat (36 + ((s 2 25 (Int.toNat (40 * a1))))))))
noncomputable def g47c_X12_judge (s : XS) (a1 : Int) (a2 : Int) : XR := g48c_X12_judge ((f_X12_tells s a1).1) (((f_X12_tells s a1).2)) a1 a2
noncomputable def g31_X12_judge (s : XS) (a1 : Int) (a2 : Int) : XR := g47c_X12_judge ((f_X12_keeps s).1) a1 a2
noncomputable def g29b_X12_judge (s : XS) (r_95 : Int) (a1 : Int) (a2 : Int) : XR := if r_95 = 0 then g30_X12_judge s a1 a2 else g31_X12_judge s a1 a2
noncomputable def g28c_X12_judge (s : XS) (r_95 : Int) (a1 : Int) (a2 : Int) : XR := g29b_X12_judge s r_95 a1 a2
noncomputable def g12_X12_judge (s : XS) (a1 : Int) (a2 : Int) : XR := g28c_X12_judge ((f_X12_isPerson s (s 2 25 (Int.toNat (40 * a1)))).1) (((f_X12_isPerson s (s 2 25 (Int.toNat (40 * a1)))).2)) a1 a2
noncomputable def g10b_X12_judge (s : XS) (v_31 : Int) (a1 : Int) (a2 : Int) : XR := if 0 < v_31 then g12_X12_judge s a1 a2 else g11_X12_judge s a1 a2
noncomputable def g8_X12_judge (s : XS) (a1 : Int) (a2 : Int) : XR := g10b_X12_judge s ((s 1 24 (Int.toNat a1))) a1 a2
noncomputable def g9_X12_judge (s : XS) (r_24 : Int) : XR := (s, r_24)
noncomputable def g7b_X12_judge (s : XS) (r_24 : Int) (a1 : Int) (a2 : Int) : XR := if r_24 = 0 then g8_X12_judge s a1 a2 else g9_X12_judge s r_24
noncomputable def g6c_X12_judge (s : XS) (r_24 : Int) (a1 : Int) (a2 : Int) : XR := g7b_X12_judge s r_24 a1 a2
noncomputable def g4_X12_judge (s : XS) (a1 : Int) (a2 : Int) : XR := g6c_X12_judge ((f_X12_noTray s a1).1) (((f_X12_noTray s a1).2)) a1 a2
noncomputable def g5_X12_judge (s : XS) : XR := (s, ((-2)))
noncomputable def g3b_X12_judge (s : XS) (r_14 : Int) (a1 : Int) (a2 : Int) : XR := if r_14 = 0 then g5_X12_judge s else g4_X12_judge s a1 a2
noncomputable def g2c_X12_judge (s : XS) (r_14 : Int) (a1 : Int) (a2 : Int) : XR := g3b_X12_judge s r_14 a1 a2
noncomputable def g1w_X12_judge (s : XS) (a1 : Int) (a2 : Int) : XR := g2c_X12_judge ((f_X12_within s a2 0 3).1) (((f_X12_within s a2 0 3).2)) a1 a2
noncomputable def f_X12_judge (s : XS) (a1 : Int) (a2 : Int) : XR := g1w_X12_judge (xup s 0 0 0 0) a1 a2
set_option maxHeartbeats 4000000 in
set_option maxRecDepth 100000 in
theorem c_X12_judge (l : Launch) (G : GG) (Z : RZ) (ad : Nat → Nat) (ws0 : va_W) (hT : Ty G SM ad ws0) (a1 : Int32) (a2 : Int32) (hJ : J ws0) : Mq l yX12_judge cX12_judge 7 (some .int) 6 G Z [.ref (ad 0), .int a1, .int a2] ws0 (PI G SM ad [0, 1, 5, 6] ws0 (fun r u => (xso SM ad u = (f_X12_judge (xso SM ad ws0) a1.toInt a2.toInt).1) ∧ (r.toInt = (f_X12_judge (xso SM ad ws0) a1.toInt a2.toInt).2) ∧ (Pa ws0 u) ∧ (Pw ws0 u))) := by
  refine Mq.start (by decide) (Nat.le_of_ble_eq_true rfl) ?_
  intro p e s m below meth c A ls C0 hZ h hl
  have hl : lv_has ls 7 [(0, .ref (ad 0)), (1, .int a1), (2, .int a2)] := hl
  have h : Wt G SM ad A s s.heap [] ws0 := ⟨h, hT⟩
  obtain ⟨args, hargs⟩ : ∃ z, z = ([.ref (ad 0), .int a1, .int a2] : List Value).toArray := ⟨_, rfl⟩
  rw [← hargs] at C0 ⊢
  have C0 : Cx p s m args meth c RX12 cX12_judge 7 (some .int) := C0
  obtain ⟨Q, hQ⟩ : ∃ z, z = MQ below ((PI G SM ad [0, 1, 5, 6] ws0 (fun r u => (xso SM ad u = (f_X12_judge (xso SM ad ws0) a1.toInt a2.toInt).1) ∧ (r.toInt = (f_X12_judge (xso SM ad ws0) a1.toInt a2.toInt).2) ∧ (Pa ws0 u) ∧ (Pw ws0 u))) A) args s 0 0 A := ⟨_, rfl⟩
  rw [← hQ]
  obtain ⟨FT, hFT⟩ : ∃ z, z = f_X12_judge (xso SM ad ws0) a1.toInt a2.toInt := ⟨_, rfl⟩
  have HE : FT = f_X12_judge (xso SM ad ws0) a1.toInt a2.toInt := hFT
  refine lv_aload_n C0.1 C0.2.1 dX12_judge_0 rfl (lv_at hl 0 rfl) ?_
  refine y_c1 (n := 0) C0 (by decide) dX12_judge_1 (fun v_1 e_2 => ?_)
  refine np_X12_thrown C0 h kSM_0 q_1438 (le_min v_1) (le_max v_1) dX12_judge_2 (fun H locs ws_3 h u_4 Xu_4 => ?_)
  replace HE : FT = g1w_X12_judge (xso SM ad ws_3) a1.toInt a2.toInt := HE.trans (by rw [Xu_4, e_2]; rfl)
  refine lv_iload_n C0.1 C0.2.1 dX12_judge_5 rfl (lv_at hl 2 rfl) ?_
  refine y_i2l C0 dX12_judge_6 (fun w_5 e_6 => ?_)
  refine y_lc (v := 0) C0 (by decide) dX12_judge_7 (fun w_7 e_8 => ?_)
  refine y_lc2 (n := 3) C0 q_1710 (by decide) dX12_judge_8 (fun w_9 e_10 => ?_)
  refine y_ci h (y_rS (As := [.long w_5, .long w_7, .long w_9]) (rest := []) C0 hZ h (c_X12_within l G Z ad _ h.2 w_5 w_7 w_9) k_X12_within q_1580 q_1579 hl.1 rfl rfl (Nat.le_of_ble_eq_true rfl) dX12_judge_11 ⟨Nat.le_of_ble_eq_true rfl, Nat.le_of_ble_eq_true rfl⟩ ⟨Nat.le_of_ble_eq_true rfl, Nat.le_of_ble_eq_true rfl⟩) (fun r_14 H locs ws_11 h u_12 p_13 => ?_)
  obtain ⟨e_15, e_16, e_17, e_18, e_19⟩ := p_13
  replace HE : FT = g2c_X12_judge (xso SM ad ws_11) r_14.toInt a1.toInt a2.toInt := HE.trans (by rw [e_15, e_16, e_10, e_8, e_6]; rfl)
  replace HE : FT = g3b_X12_judge (xso SM ad ws_11) r_14.toInt a1.toInt a2.toInt := HE.trans rfl
  refine y_if_ne (tgt := 20) C0 dX12_judge_14 (by decide) (fun c_20 => ?_) (fun c_20 => ?_)
  · -- 14
    replace HE : FT = g4_X12_judge (xso SM ad ws_11) a1.toInt a2.toInt := HE.trans (if_neg c_20)
    refine lv_aload_n C0.1 C0.2.1 dX12_judge_20 rfl (lv_at hl 0 rfl) ?_
    refine lv_iload_n C0.1 C0.2.1 dX12_judge_21 rfl (lv_at hl 1 rfl) ?_
    refine y_ci h (y_rV (As := [.int a1]) (rest := []) C0 hZ h (c_X12_noTray l G Z ad _ h.2 a1) k_X12_noTray q_1796 q_91 q_1794 kSM_0 rfl rfl rfl hl.1 rfl rfl (Nat.le_of_ble_eq_true rfl) dX12_judge_22 ⟨Nat.le_of_ble_eq_true rfl, Nat.le_of_ble_eq_true rfl⟩ ⟨Nat.le_of_ble_eq_true rfl, Nat.le_of_ble_eq_true rfl⟩) (fun r_24 H locs ws_21 h u_22 p_23 => ?_)
    obtain ⟨e_25, e_26, e_27, e_28, e_29⟩ := p_23
    replace HE : FT = g6c_X12_judge (xso SM ad ws_21) r_24.toInt a1.toInt a2.toInt := HE.trans (by rw [e_25, e_26]; rfl)
    refine lv_istore_n (lv' := [(3, .int r_24), (0, .ref (ad 0)), (1, .int a1), (2, .int a2)]) C0.1 C0.2.1 dX12_judge_25 rfl hl (by decide) rfl (fun ls hl => ?_)
    refine lv_iload_n C0.1 C0.2.1 dX12_judge_26 rfl (lv_at hl 0 rfl) ?_
    replace HE : FT = g7b_X12_judge (xso SM ad ws_21) r_24.toInt a1.toInt a2.toInt := HE.trans rfl
    refine y_if_eq (tgt := 32) C0 dX12_judge_27 (by decide) (fun c_30 => ?_) (fun c_30 => ?_)
    · -- 27
      replace HE : FT = g8_X12_judge (xso SM ad ws_21) a1.toInt a2.toInt := HE.trans (if_pos c_30)
      refine lv_aload_n C0.1 C0.2.1 dX12_judge_32 rfl (lv_at hl 1 rfl) ?_
      refine ng_X12_rowMany C0 h kSM_0 q_1480 dX12_judge_33 ?_
      refine lv_iload_n C0.1 C0.2.1 dX12_judge_36 rfl (lv_at hl 2 rfl) ?_
      refine y_iald C0 h kSM_24 rfl (by decide) (o35_155 e_27 e_28 e_29 c_30) (o35_156 e_27 e_28 e_29 c_30) dX12_judge_37 (fun v_31 e_32 e_33 e_34 => ?_)
      replace HE : FT = g10b_X12_judge (xso SM ad ws_21) v_31.toInt a1.toInt a2.toInt := HE.trans (by rw [(xg1 e_32 : v_31.toInt = (xso SM ad ws_21) 1 24 a1.toInt.toNat)]; rfl)
      refine y_if_le (tgt := 61) C0 dX12_judge_38 (by decide) (fun c_35 => ?_) (fun c_35 => ?_)
      · -- 38
        replace HE : FT = g11_X12_judge (xso SM ad ws_21) a1.toInt a2.toInt := HE.trans (if_neg (Int.not_lt.mpr c_35))
        refine y_c1 (n := 0) C0 (by decide) dX12_judge_61 (fun v_36 e_37 => ?_)
        refine lv_istore (lv' := [(4, .int v_36), (3, .int r_24), (0, .ref (ad 0)), (1, .int a1), (2, .int a2)]) C0.1 C0.2.1 dX12_judge_62 hl (by decide) rfl (fun ls hl => ?_)
        refine lv_aload_n C0.1 C0.2.1 dX12_judge_64 rfl (lv_at hl 2 rfl) ?_
        refine y_cv h (y_rV (As := []) (rest := []) C0 hZ h (c_X12_keeps l G Z ad _ h.2) k_X12_keeps q_1777 q_88 q_1775 kSM_0 rfl rfl rfl hl.1 rfl rfl (Nat.le_of_ble_eq_true rfl) dX12_judge_65 ⟨Nat.le_of_ble_eq_true rfl, Nat.le_of_ble_eq_true rfl⟩ ⟨Nat.le_of_ble_eq_true rfl, Nat.le_of_ble_eq_true rfl⟩) (fun H locs ws_38 h u_39 p_40 => ?_)
        have e_41 := p_40
        replace HE : FT = g13c_X12_judge (xso SM ad ws_38) a1.toInt a2.toInt := HE.trans (by rw [e_41]; rfl)
        refine lv_aload_n C0.1 C0.2.1 dX12_judge_68 rfl (lv_at hl 2 rfl) ?_
        refine lv_iload_n C0.1 C0.2.1 dX12_judge_69 rfl (lv_at hl 3 rfl) ?_
        refine y_ci h (y_rV (As := [.int a1]) (rest := []) C0 hZ h (c_X12_tells l G Z ad _ h.2 a1 (o35_155 e_27 e_28 e_29 c_30) (o35_157 e_27 e_28 e_29 c_30) (J.pa hT hJ (Pa.tr (Pa.tr (Pa.tr (Pa.ud u_4.1 (by decide)) (Pa.fr u_12 (by decide))) (Pa.fr u_22 (by decide))) (Pa.fr u_39 (by decide))))) k_X12_tells q_1800 q_92 q_1798 kSM_0 rfl rfl rfl hl.1 rfl rfl (Nat.le_of_ble_eq_true rfl) dX12_judge_70 ⟨Nat.le_of_ble_eq_true rfl, Nat.le_of_ble_eq_true rfl⟩ ⟨Nat.le_of_ble_eq_true rfl, Nat.le_of_ble_eq_true rfl⟩) (fun r_45 H locs ws_42 h u_43 p_44 => ?_)
        obtain ⟨e_46, e_47, e_48, e_49, e_50, e_51⟩ := p_44
        replace HE : FT = g14c_X12_judge (xso SM ad ws_42) r_45.toInt a1.toInt a2.toInt := HE.trans (by rw [e_46, e_47]; rfl)
        refine lv_istore (lv' := [(5, .int r_45), (4, .int v_36), (3, .int r_24), (0, .ref (ad 0)), (1, .int a1), (2, .int a2)]) C0.1 C0.2.1 dX12_judge_73 hl (by decide) rfl (fun ls hl => ?_)
        refine lv_iload C0.1 C0.2.1 dX12_judge_75 (lv_at hl 1 rfl) ?_
        refine y_if_eq (tgt := 101) C0 dX12_judge_77 (by decide) (fun c_52 => ?_) (fun c_52 => ((o35_158 e_37 c_52)).elim)
        refine y_c1 (n := (-1)) C0 (by decide) dX12_judge_101 (fun v_53 e_54 => ?_)
        refine lv_istore (lv' := [(6, .int v_53), (5, .int r_45), (4, .int v_36), (3, .int r_24), (0, .ref (ad 0)), (1, .int a1), (2, .int a2)]) C0.1 C0.2.1 dX12_judge_102 hl (by decide) rfl (fun ls hl => ?_)
        refine lv_aload_n C0.1 C0.2.1 dX12_judge_104 rfl (lv_at hl 4 rfl) ?_
        refine y_cv h (y_rV (As := []) (rest := []) C0 hZ h (c_X12_isAgain l G Z ad _ h.2) k_X12_isAgain q_1804 q_93 q_1802 kSM_0 rfl rfl rfl hl.1 rfl rfl (Nat.le_of_ble_eq_true rfl) dX12_judge_105 ⟨Nat.le_of_ble_eq_true rfl, Nat.le_of_ble_eq_true rfl⟩ ⟨Nat.le_of_ble_eq_true rfl, Nat.le_of_ble_eq_true rfl⟩) (fun H locs ws_55 h u_56 p_57 => ?_)
        obtain ⟨e_58, e_59, e_60⟩ := p_57
        replace HE : FT = g15c_X12_judge (xso SM ad ws_55) a2.toInt r_45.toInt := HE.trans (by rw [e_58]; rfl)
        refine lv_iload_n C0.1 C0.2.1 dX12_judge_108 rfl (lv_at hl 6 rfl) ?_
        replace HE : FT = g16b_X12_judge (xso SM ad ws_55) a2.toInt r_45.toInt := HE.trans rfl
        refine y_if_ne (tgt := 139) C0 dX12_judge_109 (by decide) (fun c_61 => ?_) (fun c_61 => ?_)
        · -- 109
          replace HE : FT = g17_X12_judge (xso SM ad ws_55) a2.toInt := HE.trans (if_neg c_61)
          refine lv_iload_n C0.1 C0.2.1 dX12_judge_139 rfl (lv_at hl 6 rfl) ?_
          refine y_c1 (n := 1) C0 (by decide) dX12_judge_140 (fun v_62 e_63 => ?_)
          replace HE : FT = g19b_X12_judge (xso SM ad ws_55) a2.toInt := HE.trans rfl
          refine y_icmp_ne (tgt := 151) C0 dX12_judge_141 (by decide) (fun c_64 => ?_) (fun c_64 => ?_)
          · -- 141
            replace HE : FT = g20_X12_judge (xso SM ad ws_55) a2.toInt := HE.trans (if_neg (o35_159 e_6 e_8 e_10 e_17 e_18 e_19 c_20 c_61 e_63 c_64))
            refine lv_iload_n C0.1 C0.2.1 dX12_judge_151 rfl (lv_at hl 6 rfl) ?_
            refine y_c1 (n := 2) C0 (by decide) dX12_judge_152 (fun v_65 e_66 => ?_)
            replace HE : FT = g22b_X12_judge (xso SM ad ws_55) a2.toInt := HE.trans rfl
            refine y_icmp_ne (tgt := 161) C0 dX12_judge_153 (by decide) (fun c_67 => ?_) (fun c_67 => ?_)
            · -- 153
              replace HE : FT = g23_X12_judge (xso SM ad ws_55) := HE.trans (if_neg (o35_162 e_6 e_8 e_10 e_17 e_18 e_19 c_20 c_61 e_63 c_64 e_66 c_67))
              refine lv_aload_n C0.1 C0.2.1 dX12_judge_161 rfl (lv_at hl 4 rfl) ?_
              refine ng_X12_tookMany C0 h kSM_0 q_1456 dX12_judge_162 (fun v_68 e_69 e_70 e_71 => ?_)
              replace HE : FT = ((xso SM ad ws_55), v_68.toInt) := HE.trans (by rw [(xg0 e_69 : v_68.toInt = (xso SM ad ws_55) 0 0 18)]; rfl)
              rw [hQ]
              exact y_iret C0 h (Fr.tr (Fr.tr (Fr.tr (Fr.tr (Fr.tr (Fr.up u_4.1 kSM_0 (by decide)) (Fr.mono u_12 (by decide))) (Fr.mono u_22 (by decide))) (Fr.mono u_39 (by decide))) (Fr.mono u_43 (by decide))) (Fr.mono u_56 (by decide))) ⟨(congrArg Prod.fst (HE.symm.trans hFT)), (congrArg Prod.snd (HE.symm.trans hFT)), (Pa.tr (Pa.tr (Pa.tr (Pa.tr (Pa.tr (Pa.ud u_4.1 (by decide)) (Pa.fr u_12 (by decide))) (Pa.fr u_22 (by decide))) (Pa.fr u_39 (by decide))) e_50) e_59), (Pw.tr (Pw.tr (Pw.tr (Pw.tr (Pw.tr (Pw.ud u_4.1 (by decide)) (Pw.fr u_12 (by decide))) (Pw.fr u_22 (by decide))) (Pw.fr u_39 (by decide))) e_51) e_60)⟩ dX12_judge_165
            · -- 153
              replace HE : FT = g24_X12_judge (xso SM ad ws_55) := HE.trans (if_pos (o35_163 e_6 e_8 e_10 e_17 e_18 e_19 c_20 c_61 e_63 c_64 e_66 c_67))
              refine lv_iload C0.1 C0.2.1 dX12_judge_156 (lv_at hl 0 rfl) ?_
              refine lv_goto (tgt := 165) C0.1 C0.2.1 dX12_judge_158 (by decide) ?_
              replace HE : FT = ((xso SM ad ws_55), v_53.toInt) := HE.trans (by rw [(o35_3 e_54)]; rfl)
              rw [hQ]
              exact y_iret C0 h (Fr.tr (Fr.tr (Fr.tr (Fr.tr (Fr.tr (Fr.up u_4.1 kSM_0 (by decide)) (Fr.mono u_12 (by decide))) (Fr.mono u_22 (by decide))) (Fr.mono u_39 (by decide))) (Fr.mono u_43 (by decide))) (Fr.mono u_56 (by decide))) ⟨(congrArg Prod.fst (HE.symm.trans hFT)), (congrArg Prod.snd (HE.symm.trans hFT)), (Pa.tr (Pa.tr (Pa.tr (Pa.tr (Pa.tr (Pa.ud u_4.1 (by decide)) (Pa.fr u_12 (by decide))) (Pa.fr u_22 (by decide))) (Pa.fr u_39 (by decide))) e_50) e_59), (Pw.tr (Pw.tr (Pw.tr (Pw.tr (Pw.tr (Pw.ud u_4.1 (by decide)) (Pw.fr u_12 (by decide))) (Pw.fr u_22 (by decide))) (Pw.fr u_39 (by decide))) e_51) e_60)⟩ dX12_judge_165
          · -- 141
            replace HE : FT = g21_X12_judge (xso SM ad ws_55) := HE.trans (if_pos (o35_160 e_6 e_8 e_10 e_17 e_18 e_19 c_20 c_61 e_63 c_64))
            refine lv_aload_n C0.1 C0.2.1 dX12_judge_144 rfl (lv_at hl 4 rfl) ?_
            refine ng_X12_toldWhy C0 h kSM_0 q_1455 dX12_judge_145 (fun v_72 e_73 e_74 e_75 => ?_)
            refine lv_goto (tgt := 165) C0.1 C0.2.1 dX12_judge_148 (by decide) ?_
            replace HE : FT = ((xso SM ad ws_55), v_72.toInt) := HE.trans (by rw [(xg0 e_73 : v_72.toInt = (xso SM ad ws_55) 0 0 17)]; rfl)
            rw [hQ]
            exact y_iret C0 h (Fr.tr (Fr.tr (Fr.tr (Fr.tr (Fr.tr (Fr.up u_4.1 kSM_0 (by decide)) (Fr.mono u_12 (by decide))) (Fr.mono u_22 (by decide))) (Fr.mono u_39 (by decide))) (Fr.mono u_43 (by decide))) (Fr.mono u_56 (by decide))) ⟨(congrArg Prod.fst (HE.symm.trans hFT)), (congrArg Prod.snd (HE.symm.trans hFT)), (Pa.tr (Pa.tr (Pa.tr (Pa.tr (Pa.tr (Pa.ud u_4.1 (by decide)) (Pa.fr u_12 (by decide))) (Pa.fr u_22 (by decide))) (Pa.fr u_39 (by decide))) e_50) e_59), (Pw.tr (Pw.tr (Pw.tr (Pw.tr (Pw.tr (Pw.ud u_4.1 (by decide)) (Pw.fr u_12 (by decide))) (Pw.fr u_22 (by decide))) (Pw.fr u_39 (by decide))) e_51) e_60)⟩ dX12_judge_165
        · -- 109
          replace HE : FT = g18_X12_judge (xso SM ad ws_55) r_45.toInt := HE.trans (if_pos c_61)
          refine lv_aload_n C0.1 C0.2.1 dX12_judge_112 rfl (lv_at hl 4 rfl) ?_
          refine ng_X12_toldWhy C0 h kSM_0 q_1455 dX12_judge_113 (fun v_76 e_77 e_78 e_79 => ?_)
          replace HE : FT = g25b_X12_judge (xso SM ad ws_55) v_76.toInt r_45.toInt := HE.trans (by rw [(xg0 e_77 : v_76.toInt = (xso SM ad ws_55) 0 0 17)]; rfl)
          refine y_if_ne (tgt := 123) C0 dX12_judge_116 (by decide) (fun c_80 => ?_) (fun c_80 => ?_)
          · -- 116
            replace HE : FT = g26_X12_judge (xso SM ad ws_55) r_45.toInt := HE.trans (if_neg c_80)
            refine lv_iload C0.1 C0.2.1 dX12_judge_123 (lv_at hl 2 rfl) ?_
            refine y_if_eq (tgt := 135) C0 dX12_judge_125 (by decide) (fun c_81 => ?_) (fun c_81 => ((o35_158 e_37 c_81)).elim)
            refine y_c1 (n := 0) C0 (by decide) dX12_judge_135 (fun v_82 e_83 => ?_)
            refine lv_goto (tgt := 165) C0.1 C0.2.1 dX12_judge_136 (by decide) ?_
            replace HE : FT = ((xso SM ad ws_55), v_82.toInt) := HE.trans (by rw [e_83]; rfl)
            rw [hQ]
            exact y_iret C0 h (Fr.tr (Fr.tr (Fr.tr (Fr.tr (Fr.tr (Fr.up u_4.1 kSM_0 (by decide)) (Fr.mono u_12 (by decide))) (Fr.mono u_22 (by decide))) (Fr.mono u_39 (by decide))) (Fr.mono u_43 (by decide))) (Fr.mono u_56 (by decide))) ⟨(congrArg Prod.fst (HE.symm.trans hFT)), (congrArg Prod.snd (HE.symm.trans hFT)), (Pa.tr (Pa.tr (Pa.tr (Pa.tr (Pa.tr (Pa.ud u_4.1 (by decide)) (Pa.fr u_12 (by decide))) (Pa.fr u_22 (by decide))) (Pa.fr u_39 (by decide))) e_50) e_59), (Pw.tr (Pw.tr (Pw.tr (Pw.tr (Pw.tr (Pw.ud u_4.1 (by decide)) (Pw.fr u_12 (by decide))) (Pw.fr u_22 (by decide))) (Pw.fr u_39 (by decide))) e_51) e_60)⟩ dX12_judge_165
          · -- 116
            replace HE : FT = g27_X12_judge (xso SM ad ws_55) := HE.trans (if_pos c_80)
            refine y_c1 (n := (-1)) C0 (by decide) dX12_judge_119 (fun v_84 e_85 => ?_)
            refine lv_goto (tgt := 165) C0.1 C0.2.1 dX12_judge_120 (by decide) ?_
            replace HE : FT = ((xso SM ad ws_55), v_84.toInt) := HE.trans (by rw [e_85]; rfl)
            rw [hQ]
            exact y_iret C0 h (Fr.tr (Fr.tr (Fr.tr (Fr.tr (Fr.tr (Fr.up u_4.1 kSM_0 (by decide)) (Fr.mono u_12 (by decide))) (Fr.mono u_22 (by decide))) (Fr.mono u_39 (by decide))) (Fr.mono u_43 (by decide))) (Fr.mono u_56 (by decide))) ⟨(congrArg Prod.fst (HE.symm.trans hFT)), (congrArg Prod.snd (HE.symm.trans hFT)), (Pa.tr (Pa.tr (Pa.tr (Pa.tr (Pa.tr (Pa.ud u_4.1 (by decide)) (Pa.fr u_12 (by decide))) (Pa.fr u_22 (by decide))) (Pa.fr u_39 (by decide))) e_50) e_59), (Pw.tr (Pw.tr (Pw.tr (Pw.tr (Pw.tr (Pw.ud u_4.1 (by decide)) (Pw.fr u_12 (by decide))) (Pw.fr u_22 (by decide))) (Pw.fr u_39 (by decide))) e_51) e_60)⟩ dX12_judge_165
      · -- 38
        replace HE : FT = g12_X12_judge (xso SM ad ws_21) a1.toInt a2.toInt := HE.trans (if_pos c_35)
        refine lv_aload_n C0.1 C0.2.1 dX12_judge_41 rfl (lv_at hl 1 rfl) ?_
        refine lv_aload_n C0.1 C0.2.1 dX12_judge_42 rfl (lv_at hl 1 rfl) ?_
        refine ng_X12_numbers C0 h kSM_0 q_1481 dX12_judge_43 ?_
        refine y_c2 (n := 40) C0 (by decide) dX12_judge_46 (fun v_86 e_87 => ?_)
        refine lv_iload_n C0.1 C0.2.1 dX12_judge_48 rfl (lv_at hl 2 rfl) ?_
        refine y_cmul (n := 40) C0 (o35_101 e_87) (o35_164 e_27 e_28 e_29 c_30 (le_min a1) (le_max a1) (le_min r_24) (le_max r_24)) (o35_165 e_27 e_28 e_29 c_30 (le_min a1) (le_max a1) (le_min r_24) (le_max r_24)) dX12_judge_49 (fun v_88 e_89 => ?_)
        refine y_lald C0 h kSM_25 rfl (by decide) (o35_166 e_27 e_28 e_29 c_30 e_89) (o35_167 e_27 e_28 e_29 c_30 e_89) dX12_judge_50 (fun w_90 e_91 => ?_)
        refine y_ci h (y_rV (As := [.long w_90]) (rest := []) C0 hZ h (c_X12_isPerson l G Z ad _ h.2 w_90 (J.pa hT hJ (Pa.tr (Pa.tr (Pa.ud u_4.1 (by decide)) (Pa.fr u_12 (by decide))) (Pa.fr u_22 (by decide))))) k_X12_isPerson q_1693 q_77 q_1691 kSM_0 rfl rfl rfl hl.1 rfl rfl (Nat.le_of_ble_eq_true rfl) dX12_judge_51 ⟨Nat.le_of_ble_eq_true rfl, Nat.le_of_ble_eq_true rfl⟩ ⟨Nat.le_of_ble_eq_true rfl, Nat.le_of_ble_eq_true rfl⟩) (fun r_95 H locs ws_92 h u_93 p_94 => ?_)
        obtain ⟨e_96, e_97, e_98, e_99, e_100, e_101⟩ := p_94
        replace HE : FT = g28c_X12_judge (xso SM ad ws_92) r_95.toInt a1.toInt a2.toInt := HE.trans (by rw [e_96, e_97, (xg2 e_91 : w_90.toInt = (xso SM ad ws_21) 2 25 v_88.toInt.toNat), e_89]; rfl)
        replace HE : FT = g29b_X12_judge (xso SM ad ws_92) r_95.toInt a1.toInt a2.toInt := HE.trans rfl
        refine y_if_eq (tgt := 61) C0 dX12_judge_54 (by decide) (fun c_102 => ?_) (fun c_102 => ?_)
        · -- 54
          replace HE : FT = g30_X12_judge (xso SM ad ws_92) a1.toInt a2.toInt := HE.trans (if_pos c_102)
          refine y_c1 (n := 0) C0 (by decide) dX12_judge_61 (fun v_103 e_104 => ?_)
          refine lv_istore (lv' := [(4, .int v_103), (3, .int r_24), (0, .ref (ad 0)), (1, .int a1), (2, .int a2)]) C0.1 C0.2.1 dX12_judge_62 hl (by decide) rfl (fun ls hl => ?_)
          refine lv_aload_n C0.1 C0.2.1 dX12_judge_64 rfl (lv_at hl 2 rfl) ?_
          refine y_cv h (y_rV (As := []) (rest := []) C0 hZ h (c_X12_keeps l G Z ad _ h.2) k_X12_keeps q_1777 q_88 q_1775 kSM_0 rfl rfl rfl hl.1 rfl rfl (Nat.le_of_ble_eq_true rfl) dX12_judge_65 ⟨Nat.le_of_ble_eq_true rfl, Nat.le_of_ble_eq_true rfl⟩ ⟨Nat.le_of_ble_eq_true rfl, Nat.le_of_ble_eq_true rfl⟩) (fun H locs ws_105 h u_106 p_107 => ?_)
          have e_108 := p_107
          replace HE : FT = g32c_X12_judge (xso SM ad ws_105) a1.toInt a2.toInt := HE.trans (by rw [e_108]; rfl)
          refine lv_aload_n C0.1 C0.2.1 dX12_judge_68 rfl (lv_at hl 2 rfl) ?_
          refine lv_iload_n C0.1 C0.2.1 dX12_judge_69 rfl (lv_at hl 3 rfl) ?_
          refine y_ci h (y_rV (As := [.int a1]) (rest := []) C0 hZ h (c_X12_tells l G Z ad _ h.2 a1 (o35_168 e_27 e_28 e_29 c_30 e_89) (o35_169 e_27 e_28 e_29 c_30 e_89) (J.pa hT hJ (Pa.tr (Pa.tr (Pa.tr (Pa.tr (Pa.ud u_4.1 (by decide)) (Pa.fr u_12 (by decide))) (Pa.fr u_22 (by decide))) (Pa.fr u_93 (by decide))) (Pa.fr u_106 (by decide))))) k_X12_tells q_1800 q_92 q_1798 kSM_0 rfl rfl rfl hl.1 rfl rfl (Nat.le_of_ble_eq_true rfl) dX12_judge_70 ⟨Nat.le_of_ble_eq_true rfl, Nat.le_of_ble_eq_true rfl⟩ ⟨Nat.le_of_ble_eq_true rfl, Nat.le_of_ble_eq_true rfl⟩) (fun r_112 H locs ws_109 h u_110 p_111 => ?_)
          obtain ⟨e_113, e_114, e_115, e_116, e_117, e_118⟩ := p_111
          replace HE : FT = g33c_X12_judge (xso SM ad ws_109) r_112.toInt a1.toInt a2.toInt := HE.trans (by rw [e_113, e_114]; rfl)
          refine lv_istore (lv' := [(5, .int r_112), (4, .int v_103), (3, .int r_24), (0, .ref (ad 0)), (1, .int a1), (2, .int a2)]) C0.1 C0.2.1 dX12_judge_73 hl (by decide) rfl (fun ls hl => ?_)
          refine lv_iload C0.1 C0.2.1 dX12_judge_75 (lv_at hl 1 rfl) ?_
          refine y_if_eq (tgt := 101) C0 dX12_judge_77 (by decide) (fun c_119 => ?_) (fun c_119 => ((o35_158 e_104 c_119)).elim)
          refine y_c1 (n := (-1)) C0 (by decide) dX12_judge_101 (fun v_120 e_121 => ?_)
          refine lv_istore (lv' := [(6, .int v_120), (5, .int r_112), (4, .int v_103), (3, .int r_24), (0, .ref (ad 0)), (1, .int a1), (2, .int a2)]) C0.1 C0.2.1 dX12_judge_102 hl (by decide) rfl (fun ls hl => ?_)
          refine lv_aload_n C0.1 C0.2.1 dX12_judge_104 rfl (lv_at hl 4 rfl) ?_
          refine y_cv h (y_rV (As := []) (rest := []) C0 hZ h (c_X12_isAgain l G Z ad _ h.2) k_X12_isAgain q_1804 q_93 q_1802 kSM_0 rfl rfl rfl hl.1 rfl rfl (Nat.le_of_ble_eq_true rfl) dX12_judge_105 ⟨Nat.le_of_ble_eq_true rfl, Nat.le_of_ble_eq_true rfl⟩ ⟨Nat.le_of_ble_eq_true rfl, Nat.le_of_ble_eq_true rfl⟩) (fun H locs ws_122 h u_123 p_124 => ?_)
          obtain ⟨e_125, e_126, e_127⟩ := p_124
          replace HE : FT = g34c_X12_judge (xso SM ad ws_122) a2.toInt r_112.toInt := HE.trans (by rw [e_125]; rfl)
          refine lv_iload_n C0.1 C0.2.1 dX12_judge_108 rfl (lv_at hl 6 rfl) ?_
          replace HE : FT = g35b_X12_judge (xso SM ad ws_122) a2.toInt r_112.toInt := HE.trans rfl
          refine y_if_ne (tgt := 139) C0 dX12_judge_109 (by decide) (fun c_128 => ?_) (fun c_128 => ?_)
          · -- 109
            replace HE : FT = g36_X12_judge (xso SM ad ws_122) a2.toInt := HE.trans (if_neg c_128)
            refine lv_iload_n C0.1 C0.2.1 dX12_judge_139 rfl (lv_at hl 6 rfl) ?_
            refine y_c1 (n := 1) C0 (by decide) dX12_judge_140 (fun v_129 e_130 => ?_)
            replace HE : FT = g38b_X12_judge (xso SM ad ws_122) a2.toInt := HE.trans rfl
            refine y_icmp_ne (tgt := 151) C0 dX12_judge_141 (by decide) (fun c_131 => ?_) (fun c_131 => ?_)
            · -- 141
              replace HE : FT = g39_X12_judge (xso SM ad ws_122) a2.toInt := HE.trans (if_neg (o35_159 e_6 e_8 e_10 e_17 e_18 e_19 c_20 c_128 e_130 c_131))
              refine lv_iload_n C0.1 C0.2.1 dX12_judge_151 rfl (lv_at hl 6 rfl) ?_
              refine y_c1 (n := 2) C0 (by decide) dX12_judge_152 (fun v_132 e_133 => ?_)
              replace HE : FT = g41b_X12_judge (xso SM ad ws_122) a2.toInt := HE.trans rfl
              refine y_icmp_ne (tgt := 161) C0 dX12_judge_153 (by decide) (fun c_134 => ?_) (fun c_134 => ?_)
              · -- 153
                replace HE : FT = g42_X12_judge (xso SM ad ws_122) := HE.trans (if_neg (o35_162 e_6 e_8 e_10 e_17 e_18 e_19 c_20 c_128 e_130 c_131 e_133 c_134))
                refine lv_aload_n C0.1 C0.2.1 dX12_judge_161 rfl (lv_at hl 4 rfl) ?_
                refine ng_X12_tookMany C0 h kSM_0 q_1456 dX12_judge_162 (fun v_135 e_136 e_137 e_138 => ?_)
                replace HE : FT = ((xso SM ad ws_122), v_135.toInt) := HE.trans (by rw [(xg0 e_136 : v_135.toInt = (xso SM ad ws_122) 0 0 18)]; rfl)
                rw [hQ]
                exact y_iret C0 h (Fr.tr (Fr.tr (Fr.tr (Fr.tr (Fr.tr (Fr.tr (Fr.up u_4.1 kSM_0 (by decide)) (Fr.mono u_12 (by decide))) (Fr.mono u_22 (by decide))) (Fr.mono u_93 (by decide))) (Fr.mono u_106 (by decide))) (Fr.mono u_110 (by decide))) (Fr.mono u_123 (by decide))) ⟨(congrArg Prod.fst (HE.symm.trans hFT)), (congrArg Prod.snd (HE.symm.trans hFT)), (Pa.tr (Pa.tr (Pa.tr (Pa.tr (Pa.tr (Pa.tr (Pa.ud u_4.1 (by decide)) (Pa.fr u_12 (by decide))) (Pa.fr u_22 (by decide))) (Pa.fr u_93 (by decide))) (Pa.fr u_106 (by decide))) e_117) e_126), (Pw.tr (Pw.tr (Pw.tr (Pw.tr (Pw.tr (Pw.tr (Pw.ud u_4.1 (by decide)) (Pw.fr u_12 (by decide))) (Pw.fr u_22 (by decide))) (Pw.fr u_93 (by decide))) (Pw.fr u_106 (by decide))) e_118) e_127)⟩ dX12_judge_165
              · -- 153
                replace HE : FT = g43_X12_judge (xso SM ad ws_122) := HE.trans (if_pos (o35_163 e_6 e_8 e_10 e_17 e_18 e_19 c_20 c_128 e_130 c_131 e_133 c_134))
                refine lv_iload C0.1 C0.2.1 dX12_judge_156 (lv_at hl 0 rfl) ?_
                refine lv_goto (tgt := 165) C0.1 C0.2.1 dX12_judge_158 (by decide) ?_
                replace HE : FT = ((xso SM ad ws_122), v_120.toInt) := HE.trans (by rw [(o35_3 e_121)]; rfl)
                rw [hQ]
                exact y_iret C0 h (Fr.tr (Fr.tr (Fr.tr (Fr.tr (Fr.tr (Fr.tr (Fr.up u_4.1 kSM_0 (by decide)) (Fr.mono u_12 (by decide))) (Fr.mono u_22 (by decide))) (Fr.mono u_93 (by decide))) (Fr.mono u_106 (by decide))) (Fr.mono u_110 (by decide))) (Fr.mono u_123 (by decide))) ⟨(congrArg Prod.fst (HE.symm.trans hFT)), (congrArg Prod.snd (HE.symm.trans hFT)), (Pa.tr (Pa.tr (Pa.tr (Pa.tr (Pa.tr (Pa.tr (Pa.ud u_4.1 (by decide)) (Pa.fr u_12 (by decide))) (Pa.fr u_22 (by decide))) (Pa.fr u_93 (by decide))) (Pa.fr u_106 (by decide))) e_117) e_126), (Pw.tr (Pw.tr (Pw.tr (Pw.tr (Pw.tr (Pw.tr (Pw.ud u_4.1 (by decide)) (Pw.fr u_12 (by decide))) (Pw.fr u_22 (by decide))) (Pw.fr u_93 (by decide))) (Pw.fr u_106 (by decide))) e_118) e_127)⟩ dX12_judge_165
            · -- 141
              replace HE : FT = g40_X12_judge (xso SM ad ws_122) := HE.trans (if_pos (o35_160 e_6 e_8 e_10 e_17 e_18 e_19 c_20 c_128 e_130 c_131))
              refine lv_aload_n C0.1 C0.2.1 dX12_judge_144 rfl (lv_at hl 4 rfl) ?_
              refine ng_X12_toldWhy C0 h kSM_0 q_1455 dX12_judge_145 (fun v_139 e_140 e_141 e_142 => ?_)
              refine lv_goto (tgt := 165) C0.1 C0.2.1 dX12_judge_148 (by decide) ?_
              replace HE : FT = ((xso SM ad ws_122), v_139.toInt) := HE.trans (by rw [(xg0 e_140 : v_139.toInt = (xso SM ad ws_122) 0 0 17)]; rfl)
              rw [hQ]
              exact y_iret C0 h (Fr.tr (Fr.tr (Fr.tr (Fr.tr (Fr.tr (Fr.tr (Fr.up u_4.1 kSM_0 (by decide)) (Fr.mono u_12 (by decide))) (Fr.mono u_22 (by decide))) (Fr.mono u_93 (by decide))) (Fr.mono u_106 (by decide))) (Fr.mono u_110 (by decide))) (Fr.mono u_123 (by decide))) ⟨(congrArg Prod.fst (HE.symm.trans hFT)), (congrArg Prod.snd (HE.symm.trans hFT)), (Pa.tr (Pa.tr (Pa.tr (Pa.tr (Pa.tr (Pa.tr (Pa.ud u_4.1 (by decide)) (Pa.fr u_12 (by decide))) (Pa.fr u_22 (by decide))) (Pa.fr u_93 (by decide))) (Pa.fr u_106 (by decide))) e_117) e_126), (Pw.tr (Pw.tr (Pw.tr (Pw.tr (Pw.tr (Pw.tr (Pw.ud u_4.1 (by decide)) (Pw.fr u_12 (by decide))) (Pw.fr u_22 (by decide))) (Pw.fr u_93 (by decide))) (Pw.fr u_106 (by decide))) e_118) e_127)⟩ dX12_judge_165
          · -- 109
            replace HE : FT = g37_X12_judge (xso SM ad ws_122) r_112.toInt := HE.trans (if_pos c_128)
            refine lv_aload_n C0.1 C0.2.1 dX12_judge_112 rfl (lv_at hl 4 rfl) ?_
            refine ng_X12_toldWhy C0 h kSM_0 q_1455 dX12_judge_113 (fun v_143 e_144 e_145 e_146 => ?_)
            replace HE : FT = g44b_X12_judge (xso SM ad ws_122) v_143.toInt r_112.toInt := HE.trans (by rw [(xg0 e_144 : v_143.toInt = (xso SM ad ws_122) 0 0 17)]; rfl)
            refine y_if_ne (tgt := 123) C0 dX12_judge_116 (by decide) (fun c_147 => ?_) (fun c_147 => ?_)
            · -- 116
              replace HE : FT = g45_X12_judge (xso SM ad ws_122) r_112.toInt := HE.trans (if_neg c_147)
              refine lv_iload C0.1 C0.2.1 dX12_judge_123 (lv_at hl 2 rfl) ?_
              refine y_if_eq (tgt := 135) C0 dX12_judge_125 (by decide) (fun c_148 => ?_) (fun c_148 => ((o35_158 e_104 c_148)).elim)
              refine y_c1 (n := 0) C0 (by decide) dX12_judge_135 (fun v_149 e_150 => ?_)
              refine lv_goto (tgt := 165) C0.1 C0.2.1 dX12_judge_136 (by decide) ?_
              replace HE : FT = ((xso SM ad ws_122), v_149.toInt) := HE.trans (by rw [e_150]; rfl)
              rw [hQ]
              exact y_iret C0 h (Fr.tr (Fr.tr (Fr.tr (Fr.tr (Fr.tr (Fr.tr (Fr.up u_4.1 kSM_0 (by decide)) (Fr.mono u_12 (by decide))) (Fr.mono u_22 (by decide))) (Fr.mono u_93 (by decide))) (Fr.mono u_106 (by decide))) (Fr.mono u_110 (by decide))) (Fr.mono u_123 (by decide))) ⟨(congrArg Prod.fst (HE.symm.trans hFT)), (congrArg Prod.snd (HE.symm.trans hFT)), (Pa.tr (Pa.tr (Pa.tr (Pa.tr (Pa.tr (Pa.tr (Pa.ud u_4.1 (by decide)) (Pa.fr u_12 (by decide))) (Pa.fr u_22 (by decide))) (Pa.fr u_93 (by decide))) (Pa.fr u_106 (by decide))) e_117) e_126), (Pw.tr (Pw.tr (Pw.tr (Pw.tr (Pw.tr (Pw.tr (Pw.ud u_4.1 (by decide)) (Pw.fr u_12 (by decide))) (Pw.fr u_22 (by decide))) (Pw.fr u_93 (by decide))) (Pw.fr u_106 (by decide))) e_118) e_127)⟩ dX12_judge_165
            · -- 116
              replace HE : FT = g46_X12_judge (xso SM ad ws_122) := HE.trans (if_pos c_147)
              refine y_c1 (n := (-1)) C0 (by decide) dX12_judge_119 (fun v_151 e_152 => ?_)
              refine lv_goto (tgt := 165) C0.1 C0.2.1 dX12_judge_120 (by decide) ?_
              replace HE : FT = ((xso SM ad ws_122), v_151.toInt) := HE.trans (by rw [e_152]; rfl)
              rw [hQ]
              exact y_iret C0 h (Fr.tr (Fr.tr (Fr.tr (Fr.tr (Fr.tr (Fr.tr (Fr.up u_4.1 kSM_0 (by decide)) (Fr.mono u_12 (by decide))) (Fr.mono u_22 (by decide))) (Fr.mono u_93 (by decide))) (Fr.mono u_106 (by decide))) (Fr.mono u_110 (by decide))) (Fr.mono u_123 (by decide))) ⟨(congrArg Prod.fst (HE.symm.trans hFT)), (congrArg Prod.snd (HE.symm.trans hFT)), (Pa.tr (Pa.tr (Pa.tr (Pa.tr (Pa.tr (Pa.tr (Pa.ud u_4.1 (by decide)) (Pa.fr u_12 (by decide))) (Pa.fr u_22 (by decide))) (Pa.fr u_93 (by decide))) (Pa.fr u_106 (by decide))) e_117) e_126), (Pw.tr (Pw.tr (Pw.tr (Pw.tr (Pw.tr (Pw.tr (Pw.ud u_4.1 (by decide)) (Pw.fr u_12 (by decide))) (Pw.fr u_22 (by decide))) (Pw.fr u_93 (by decide))) (Pw.fr u_106 (by decide))) e_118) e_127)⟩ dX12_judge_165
        · -- 54
          replace HE : FT = g31_X12_judge (xso SM ad ws_92) a1.toInt a2.toInt := HE.trans (if_neg c_102)
          refine y_c1 (n := 1) C0 (by decide) dX12_judge_57 (fun v_153 e_154 => ?_)
          refine lv_goto (tgt := 62) C0.1 C0.2.1 dX12_judge_58 (by decide) ?_
          refine lv_istore (lv' := [(4, .int v_153), (3, .int r_24), (0, .ref (ad 0)), (1, .int a1), (2, .int a2)]) C0.1 C0.2.1 dX12_judge_62 hl (by decide) rfl (fun ls hl => ?_)
          refine lv_aload_n C0.1 C0.2.1 dX12_judge_64 rfl (lv_at hl 2 rfl) ?_
          refine y_cv h (y_rV (As := []) (rest := []) C0 hZ h (c_X12_keeps l G Z ad _ h.2) k_X12_keeps q_1777 q_88 q_1775 kSM_0 rfl rfl rfl hl.1 rfl rfl (Nat.le_of_ble_eq_true rfl) dX12_judge_65 ⟨Nat.le_of_ble_eq_true rfl, Nat.le_of_ble_eq_true rfl⟩ ⟨Nat.le_of_ble_eq_true rfl, Nat.le_of_ble_eq_true rfl⟩) (fun H locs ws_155 h u_156 p_157 => ?_)
          have e_158 := p_157
          replace HE : FT = g47c_X12_judge (xso SM ad ws_155) a1.toInt a2.toInt := HE.trans (by rw [e_158]; rfl)
          refine lv_aload_n C0.1 C0.2.1 dX12_judge_68 rfl (lv_at hl 2 rfl) ?_
          refine lv_iload_n C0.1 C0.2.1 dX12_judge_69 rfl (lv_at hl 3 rfl) ?_
          refine y_ci h (y_rV (As := [.int a1]) (rest := []) C0 hZ h (c_X12_tells l G Z ad _ h.2 a1 (o35_168 e_27 e_28 e_29 c_30 e_89) (o35_169 e_27 e_28 e_29 c_30 e_89) (J.pa hT hJ (Pa.tr (Pa.tr (Pa.tr (Pa.tr (Pa.ud u_4.1 (by decide)) (Pa.fr u_12 (by decide))) (Pa.fr u_22 (by decide))) (Pa.fr u_93 (by decide))) (Pa.fr u_156 (by decide))))) k_X12_tells q_1800 q_92 q_1798 kSM_0 rfl rfl rfl hl.1 rfl rfl (Nat.le_of_ble_eq_true rfl) dX12_judge_70 ⟨Nat.le_of_ble_eq_true rfl, Nat.le_of_ble_eq_true rfl⟩ ⟨Nat.le_of_ble_eq_true rfl, Nat.le_of_ble_eq_true rfl⟩) (fun r_162 H locs ws_159 h u_160 p_161 => ?_)
          obtain ⟨e_163, e_164, e_165, e_166, e_167, e_168⟩ := p_161
          replace HE : FT = g48c_X12_judge (xso SM ad ws_159) r_162.toInt a1.toInt a2.toInt := HE.trans (by rw [e_163, e_164]; rfl)
          refine lv_istore (lv' := [(5, .int r_162), (4, .int v_153), (3, .int r_24), (0, .ref (ad 0)), (1, .int a1), (2, .int a2)]) C0.1 C0.2.1 dX12_judge_73 hl (by decide) rfl (fun ls hl => ?_)
          refine lv_iload C0.1 C0.2.1 dX12_judge_75 (lv_at hl 1 rfl) ?_
          refine y_if_eq (tgt := 101) C0 dX12_judge_77 (by decide) (fun c_169 => ((o35_170 e_154 c_169)).elim) (fun c_169 => ?_)
          refine lv_aload_n C0.1 C0.2.1 dX12_judge_80 rfl (lv_at hl 3 rfl) ?_
          refine ng_X12_all C0 h kSM_0 q_1439 dX12_judge_81 ?_
          refine y_c2 (n := 36) C0 (by decide) dX12_judge_84 (fun v_170 e_171 => ?_)
          refine lv_aload_n C0.1 C0.2.1 dX12_judge_86 rfl (lv_at hl 3 rfl) ?_
          refine ng_X12_numbers C0 h kSM_0 q_1481 dX12_judge_87 ?_
          refine y_c2 (n := 40) C0 (by decide) dX12_judge_90 (fun v_172 e_173 => ?_)
          refine lv_iload_n C0.1 C0.2.1 dX12_judge_92 rfl (lv_at hl 4 rfl) ?_
          refine y_cmul (n := 40) C0 (o35_101 e_173) (o35_171 e_27 e_28 e_29 c_30 e_89 (le_min a1) (le_max a1) (le_min r_24) (le_max r_24) (le_min v_88) (le_max v_88)) (o35_172 e_27 e_28 e_29 c_30 e_89 (le_min a1) (le_max a1) (le_min r_24) (le_max r_24) (le_min v_88) (le_max v_88)) dX12_judge_93 (fun v_174 e_175 => ?_)
          refine y_lald C0 h kSM_25 rfl (by decide) (o35_173 e_27 e_28 e_29 c_30 e_89 e_175) (o35_174 e_27 e_28 e_29 c_30 e_89 e_175) dX12_judge_94 (fun w_176 e_177 => ?_)
          have qh_178 : w_176.toInt = w_90.toInt := congrArg Int64.toInt (e_177.symm.trans (Eq.trans (congrArg (aL ws_159 25) (o35_175 e_27 e_28 e_29 c_30 e_89 e_175)) (Eq.trans (Eq.trans (Fr.aL u_160 kSM_25 (by decide)) (Eq.trans (Fr.aL u_156 kSM_25 (by decide)) (Fr.aL u_93 kSM_25 (by decide)))) e_91)))
          refine y_l2i C0 (o35_111 e_98 e_99 e_100 c_102 qh_178 (le_min r_95) (le_max r_95)) (o35_112 e_98 e_99 e_100 c_102 qh_178 (le_min r_95) (le_max r_95)) dX12_judge_95 (fun v_179 e_180 => ?_)
          refine y_add C0 (o35_176 e_98 e_99 e_100 c_102 e_171 qh_178 e_180 (le_min v_170) (le_max v_170) (le_min v_179) (le_max v_179) (le_min r_95) (le_max r_95)) (o35_177 e_98 e_99 e_100 c_102 e_171 qh_178 e_180 (le_min v_170) (le_max v_170) (le_min v_179) (le_max v_179) (le_min r_95) (le_max r_95)) dX12_judge_96 (fun v_181 e_182 => ?_)
          refine y_iald C0 h kSM_1 rfl (by decide) (o35_178 e_98 e_99 e_100 c_102 e_171 qh_178 e_180 e_182) (o35_179 e_98 e_99 e_100 c_102 e_171 qh_178 e_180 e_182) dX12_judge_97 (fun v_183 e_184 e_185 e_186 => ?_)
          have f_187 := o35_22 v_181.toInt.toNat (o35_180 e_98 e_99 e_100 c_102 e_171 qh_178 e_180 e_182) (o35_181 e_98 e_99 e_100 c_102 e_171 qh_178 e_180 e_182)
          refine lv_goto (tgt := 102) C0.1 C0.2.1 dX12_judge_98 (by decide) ?_
          refine lv_istore (lv' := [(6, .int v_183), (5, .int r_162), (4, .int v_153), (3, .int r_24), (0, .ref (ad 0)), (1, .int a1), (2, .int a2)]) C0.1 C0.2.1 dX12_judge_102 hl (by decide) rfl (fun ls hl => ?_)
          refine lv_aload_n C0.1 C0.2.1 dX12_judge_104 rfl (lv_at hl 4 rfl) ?_
          refine y_cv h (y_rV (As := []) (rest := []) C0 hZ h (c_X12_isAgain l G Z ad _ h.2) k_X12_isAgain q_1804 q_93 q_1802 kSM_0 rfl rfl rfl hl.1 rfl rfl (Nat.le_of_ble_eq_true rfl) dX12_judge_105 ⟨Nat.le_of_ble_eq_true rfl, Nat.le_of_ble_eq_true rfl⟩ ⟨Nat.le_of_ble_eq_true rfl, Nat.le_of_ble_eq_true rfl⟩) (fun H locs ws_188 h u_189 p_190 => ?_)
          obtain ⟨e_191, e_192, e_193⟩ := p_190
          replace HE : FT = g49c_X12_judge (xso SM ad ws_188) a2.toInt r_162.toInt v_183.toInt := HE.trans (by rw [e_191, (xg1 e_184 : v_183.toInt = (xso SM ad ws_159) 1 1 v_181.toInt.toNat), e_182, e_180, (xg2 e_177 : w_176.toInt = (xso SM ad ws_159) 2 25 v_174.toInt.toNat), e_175, e_171]; rfl)
          refine lv_iload_n C0.1 C0.2.1 dX12_judge_108 rfl (lv_at hl 6 rfl) ?_
          replace HE : FT = g50b_X12_judge (xso SM ad ws_188) a2.toInt r_162.toInt v_183.toInt := HE.trans rfl
          refine y_if_ne (tgt := 139) C0 dX12_judge_109 (by decide) (fun c_194 => ?_) (fun c_194 => ?_)
          · -- 109
            replace HE : FT = g51_X12_judge (xso SM ad ws_188) a2.toInt v_183.toInt := HE.trans (if_neg c_194)
            refine lv_iload_n C0.1 C0.2.1 dX12_judge_139 rfl (lv_at hl 6 rfl) ?_
            refine y_c1 (n := 1) C0 (by decide) dX12_judge_140 (fun v_195 e_196 => ?_)
            replace HE : FT = g53b_X12_judge (xso SM ad ws_188) a2.toInt v_183.toInt := HE.trans rfl
            refine y_icmp_ne (tgt := 151) C0 dX12_judge_141 (by decide) (fun c_197 => ?_) (fun c_197 => ?_)
            · -- 141
              replace HE : FT = g54_X12_judge (xso SM ad ws_188) a2.toInt v_183.toInt := HE.trans (if_neg (o35_159 e_6 e_8 e_10 e_17 e_18 e_19 c_20 c_194 e_196 c_197))
              refine lv_iload_n C0.1 C0.2.1 dX12_judge_151 rfl (lv_at hl 6 rfl) ?_
              refine y_c1 (n := 2) C0 (by decide) dX12_judge_152 (fun v_198 e_199 => ?_)
              replace HE : FT = g56b_X12_judge (xso SM ad ws_188) a2.toInt v_183.toInt := HE.trans rfl
              refine y_icmp_ne (tgt := 161) C0 dX12_judge_153 (by decide) (fun c_200 => ?_) (fun c_200 => ?_)
              · -- 153
                replace HE : FT = g57_X12_judge (xso SM ad ws_188) := HE.trans (if_neg (o35_162 e_6 e_8 e_10 e_17 e_18 e_19 c_20 c_194 e_196 c_197 e_199 c_200))
                refine lv_aload_n C0.1 C0.2.1 dX12_judge_161 rfl (lv_at hl 4 rfl) ?_
                refine ng_X12_tookMany C0 h kSM_0 q_1456 dX12_judge_162 (fun v_201 e_202 e_203 e_204 => ?_)
                replace HE : FT = ((xso SM ad ws_188), v_201.toInt) := HE.trans (by rw [(xg0 e_202 : v_201.toInt = (xso SM ad ws_188) 0 0 18)]; rfl)
                rw [hQ]
                exact y_iret C0 h (Fr.tr (Fr.tr (Fr.tr (Fr.tr (Fr.tr (Fr.tr (Fr.up u_4.1 kSM_0 (by decide)) (Fr.mono u_12 (by decide))) (Fr.mono u_22 (by decide))) (Fr.mono u_93 (by decide))) (Fr.mono u_156 (by decide))) (Fr.mono u_160 (by decide))) (Fr.mono u_189 (by decide))) ⟨(congrArg Prod.fst (HE.symm.trans hFT)), (congrArg Prod.snd (HE.symm.trans hFT)), (Pa.tr (Pa.tr (Pa.tr (Pa.tr (Pa.tr (Pa.tr (Pa.ud u_4.1 (by decide)) (Pa.fr u_12 (by decide))) (Pa.fr u_22 (by decide))) (Pa.fr u_93 (by decide))) (Pa.fr u_156 (by decide))) e_167) e_192), (Pw.tr (Pw.tr (Pw.tr (Pw.tr (Pw.tr (Pw.tr (Pw.ud u_4.1 (by decide)) (Pw.fr u_12 (by decide))) (Pw.fr u_22 (by decide))) (Pw.fr u_93 (by decide))) (Pw.fr u_156 (by decide))) e_168) e_193)⟩ dX12_judge_165
              · -- 153
                replace HE : FT = g58_X12_judge (xso SM ad ws_188) v_183.toInt := HE.trans (if_pos (o35_163 e_6 e_8 e_10 e_17 e_18 e_19 c_20 c_194 e_196 c_197 e_199 c_200))
                refine lv_iload C0.1 C0.2.1 dX12_judge_156 (lv_at hl 0 rfl) ?_
                refine lv_goto (tgt := 165) C0.1 C0.2.1 dX12_judge_158 (by decide) ?_
                replace HE : FT = ((xso SM ad ws_188), v_183.toInt) := HE.trans rfl
                rw [hQ]
                exact y_iret C0 h (Fr.tr (Fr.tr (Fr.tr (Fr.tr (Fr.tr (Fr.tr (Fr.up u_4.1 kSM_0 (by decide)) (Fr.mono u_12 (by decide))) (Fr.mono u_22 (by decide))) (Fr.mono u_93 (by decide))) (Fr.mono u_156 (by decide))) (Fr.mono u_160 (by decide))) (Fr.mono u_189 (by decide))) ⟨(congrArg Prod.fst (HE.symm.trans hFT)), (congrArg Prod.snd (HE.symm.trans hFT)), (Pa.tr (Pa.tr (Pa.tr (Pa.tr (Pa.tr (Pa.tr (Pa.ud u_4.1 (by decide)) (Pa.fr u_12 (by decide))) (Pa.fr u_22 (by decide))) (Pa.fr u_93 (by decide))) (Pa.fr u_156 (by decide))) e_167) e_192), (Pw.tr (Pw.tr (Pw.tr (Pw.tr (Pw.tr (Pw.tr (Pw.ud u_4.1 (by decide)) (Pw.fr u_12 (by decide))) (Pw.fr u_22 (by decide))) (Pw.fr u_93 (by decide))) (Pw.fr u_156 (by decide))) e_168) e_193)⟩ dX12_judge_165
            · -- 141
              replace HE : FT = g55_X12_judge (xso SM ad ws_188) := HE.trans (if_pos (o35_160 e_6 e_8 e_10 e_17 e_18 e_19 c_20 c_194 e_196 c_197))
              refine lv_aload_n C0.1 C0.2.1 dX12_judge_144 rfl (lv_at hl 4 rfl) ?_
              refine ng_X12_toldWhy C0 h kSM_0 q_1455 dX12_judge_145 (fun v_205 e_206 e_207 e_208 => ?_)
              refine lv_goto (tgt := 165) C0.1 C0.2.1 dX12_judge_148 (by decide) ?_
              replace HE : FT = ((xso SM ad ws_188), v_205.toInt) := HE.trans (by rw [(xg0 e_206 : v_205.toInt = (xso SM ad ws_188) 0 0 17)]; rfl)
              rw [hQ]
              exact y_iret C0 h (Fr.tr (Fr.tr (Fr.tr (Fr.tr (Fr.tr (Fr.tr (Fr.up u_4.1 kSM_0 (by decide)) (Fr.mono u_12 (by decide))) (Fr.mono u_22 (by decide))) (Fr.mono u_93 (by decide))) (Fr.mono u_156 (by decide))) (Fr.mono u_160 (by decide))) (Fr.mono u_189 (by decide))) ⟨(congrArg Prod.fst (HE.symm.trans hFT)), (congrArg Prod.snd (HE.symm.trans hFT)), (Pa.tr (Pa.tr (Pa.tr (Pa.tr (Pa.tr (Pa.tr (Pa.ud u_4.1 (by decide)) (Pa.fr u_12 (by decide))) (Pa.fr u_22 (by decide))) (Pa.fr u_93 (by decide))) (Pa.fr u_156 (by decide))) e_167) e_192), (Pw.tr (Pw.tr (Pw.tr (Pw.tr (Pw.tr (Pw.tr (Pw.ud u_4.1 (by decide)) (Pw.fr u_12 (by decide))) (Pw.fr u_22 (by decide))) (Pw.fr u_93 (by decide))) (Pw.fr u_156 (by decide))) e_168) e_193)⟩ dX12_judge_165
          · -- 109
            replace HE : FT = g52_X12_judge (xso SM ad ws_188) r_162.toInt := HE.trans (if_pos c_194)
            refine lv_aload_n C0.1 C0.2.1 dX12_judge_112 rfl (lv_at hl 4 rfl) ?_
            refine ng_X12_toldWhy C0 h kSM_0 q_1455 dX12_judge_113 (fun v_209 e_210 e_211 e_212 => ?_)
            replace HE : FT = g59b_X12_judge (xso SM ad ws_188) v_209.toInt r_162.toInt := HE.trans (by rw [(xg0 e_210 : v_209.toInt = (xso SM ad ws_188) 0 0 17)]; rfl)
            refine y_if_ne (tgt := 123) C0 dX12_judge_116 (by decide) (fun c_213 => ?_) (fun c_213 => ?_)
            · -- 116
              replace HE : FT = g60_X12_judge (xso SM ad ws_188) r_162.toInt := HE.trans (if_neg c_213)
              refine lv_iload C0.1 C0.2.1 dX12_judge_123 (lv_at hl 2 rfl) ?_
              refine y_if_eq (tgt := 135) C0 dX12_judge_125 (by decide) (fun c_214 => ((o35_182 e_154 c_169 c_214)).elim) (fun c_214 => ?_)
              refine lv_iload C0.1 C0.2.1 dX12_judge_128 (lv_at hl 1 rfl) ?_
              refine y_c1 (n := 1) C0 (by decide) dX12_judge_130 (fun v_215 e_216 => ?_)
              refine y_add C0 (o35_183 e_165 e_166 e_216 (le_min r_162) (le_max r_162) (le_min v_215) (le_max v_215)) (o35_184 e_165 e_166 e_216 (le_min r_162) (le_max r_162) (le_min v_215) (le_max v_215)) dX12_judge_131 (fun v_217 e_218 => ?_)
              refine lv_goto (tgt := 165) C0.1 C0.2.1 dX12_judge_132 (by decide) ?_
              replace HE : FT = ((xso SM ad ws_188), v_217.toInt) := HE.trans (by rw [e_218, e_216]; rfl)
              rw [hQ]
              exact y_iret C0 h (Fr.tr (Fr.tr (Fr.tr (Fr.tr (Fr.tr (Fr.tr (Fr.up u_4.1 kSM_0 (by decide)) (Fr.mono u_12 (by decide))) (Fr.mono u_22 (by decide))) (Fr.mono u_93 (by decide))) (Fr.mono u_156 (by decide))) (Fr.mono u_160 (by decide))) (Fr.mono u_189 (by decide))) ⟨(congrArg Prod.fst (HE.symm.trans hFT)), (congrArg Prod.snd (HE.symm.trans hFT)), (Pa.tr (Pa.tr (Pa.tr (Pa.tr (Pa.tr (Pa.tr (Pa.ud u_4.1 (by decide)) (Pa.fr u_12 (by decide))) (Pa.fr u_22 (by decide))) (Pa.fr u_93 (by decide))) (Pa.fr u_156 (by decide))) e_167) e_192), (Pw.tr (Pw.tr (Pw.tr (Pw.tr (Pw.tr (Pw.tr (Pw.ud u_4.1 (by decide)) (Pw.fr u_12 (by decide))) (Pw.fr u_22 (by decide))) (Pw.fr u_93 (by decide))) (Pw.fr u_156 (by decide))) e_168) e_193)⟩ dX12_judge_165
            · -- 116
              replace HE : FT = g61_X12_judge (xso SM ad ws_188) := HE.trans (if_pos c_213)
              refine y_c1 (n := (-1)) C0 (by decide) dX12_judge_119 (fun v_219 e_220 => ?_)
              refine lv_goto (tgt := 165) C0.1 C0.2.1 dX12_judge_120 (by decide) ?_
              replace HE : FT = ((xso SM ad ws_188), v_219.toInt) := HE.trans (by rw [e_220]; rfl)
              rw [hQ]
              exact y_iret C0 h (Fr.tr (Fr.tr (Fr.tr (Fr.tr (Fr.tr (Fr.tr (Fr.up u_4.1 kSM_0 (by decide)) (Fr.mono u_12 (by decide))) (Fr.mono u_22 (by decide))) (Fr.mono u_93 (by decide))) (Fr.mono u_156 (by decide))) (Fr.mono u_160 (by decide))) (Fr.mono u_189 (by decide))) ⟨(congrArg Prod.fst (HE.symm.trans hFT)), (congrArg Prod.snd (HE.symm.trans hFT)), (Pa.tr (Pa.tr (Pa.tr (Pa.tr (Pa.tr (Pa.tr (Pa.ud u_4.1 (by decide)) (Pa.fr u_12 (by decide))) (Pa.fr u_22 (by decide))) (Pa.fr u_93 (by decide))) (Pa.fr u_156 (by decide))) e_167) e_192), (Pw.tr (Pw.tr (Pw.tr (Pw.tr (Pw.tr (Pw.tr (Pw.ud u_4.1 (by decide)) (Pw.fr u_12 (by decide))) (Pw.fr u_22 (by decide))) (Pw.fr u_93 (by decide))) (Pw.fr u_156 (by decide))) e_168) e_193)⟩ dX12_judge_165
    · -- 27
      replace HE : FT = g9_X12_judge (xso SM ad ws_21) r_24.toInt := HE.trans (if_neg c_30)
      refine lv_iload_n C0.1 C0.2.1 dX12_judge_30 rfl (lv_at hl 0 rfl) ?_
      replace HE : FT = ((xso SM ad ws_21), r_24.toInt) := HE.trans rfl
      rw [hQ]
      exact y_iret C0 h (Fr.tr (Fr.tr (Fr.up u_4.1 kSM_0 (by decide)) (Fr.mono u_12 (by decide))) (Fr.mono u_22 (by decide))) ⟨(congrArg Prod.fst (HE.symm.trans hFT)), (congrArg Prod.snd (HE.symm.trans hFT)), (Pa.tr (Pa.tr (Pa.ud u_4.1 (by decide)) (Pa.fr u_12 (by decide))) (Pa.fr u_22 (by decide))), (Pw.tr (Pw.tr (Pw.ud u_4.1 (by decide)) (Pw.fr u_12 (by decide))) (Pw.fr u_22 (by decide)))⟩ dX12_judge_31
  · -- 14
    replace HE : FT = g5_X12_judge (xso SM ad ws_11) := HE.trans (if_pos c_20)
    refine y_c2 (n := (-2)) C0 (by decide) dX12_judge_17 (fun v_221 e_222 => ?_)
    replace HE : FT = ((xso SM ad ws_11), v_221.toInt) := HE.trans (by rw [e_222]; rfl)
    rw [hQ]
    exact y_iret C0 h (Fr.tr (Fr.up u_4.1 kSM_0 (by decide)) (Fr.mono u_12 (by decide))) ⟨(congrArg Prod.fst (HE.symm.trans hFT)), (congrArg Prod.snd (HE.symm.trans hFT)), (Pa.tr (Pa.ud u_4.1 (by decide)) (Pa.fr u_12 (by decide))), (Pw.tr (Pw.ud u_4.1 (by decide)) (Pw.fr u_12 (by decide)))⟩ dX12_judge_19
noncomputable def g9_X12_walk (s : XS) : XR := (s, 0)
noncomputable def g11c_X12_walk (s : XS) (r_22 : Int) : XR := (s, r_22)
noncomputable def g10_X12_walk (s : XS) (r_22 : Int) : XR := g11c_X12_walk ((f_X12_notes s).1) r_22
noncomputable def g8b_X12_walk (s : XS) (r_22 : Int) : XR := if 0 < r_22 then g10_X12_walk s r_22 else g9_X12_walk s
noncomputable def g7c_X12_walk (s : XS) (r_22 : Int) : XR := g8b_X12_walk s r_22
noncomputable def g6c_X12_walk (s : XS) (a1 : Int) : XR := g7c_X12_walk ((f_X12_tells s a1).1) (((f_X12_tells s a1).2))
noncomputable def g4_X12_walk (s : XS) (a1 : Int) : XR := g6c_X12_walk ((f_X12_keeps s).1) a1
noncomputable def g5_X12_walk (s : XS) (r_8 : Int) : XR := (s, r_8)
noncomputable def g3b_X12_walk (s : XS) (r_8 : Int) (a1 : Int) : XR := if r_8 = 0 then g4_X12_walk s a1 else g5_X12_walk s r_8
noncomputable def g2c_X12_walk (s : XS) (r_8 : Int) (a1 : Int) : XR := g3b_X12_walk s r_8 a1
noncomputable def g1w_X12_walk (s : XS) (a1 : Int) : XR := g2c_X12_walk ((f_X12_noTray s a1).1) (((f_X12_noTray s a1).2)) a1
noncomputable def f_X12_walk (s : XS) (a1 : Int) : XR := g1w_X12_walk (xup s 0 0 0 0) a1
set_option maxHeartbeats 4000000 in
set_option maxRecDepth 100000 in
theorem c_X12_walk (l : Launch) (G : GG) (Z : RZ) (ad : Nat → Nat) (ws0 : va_W) (hT : Ty G SM ad ws0) (a1 : Int32) (hJ : J ws0) : Mq l yX12_walk cX12_walk 4 (some .int) 6 G Z [.ref (ad 0), .int a1] ws0 (PI G SM ad [0, 1, 5, 6] ws0 (fun r u => (xso SM ad u = (f_X12_walk (xso SM ad ws0) a1.toInt).1) ∧ (r.toInt = (f_X12_walk (xso SM ad ws0) a1.toInt).2) ∧ ((-6) ≤ r.toInt) ∧ (r.toInt ≤ 39) ∧ (Pa ws0 u) ∧ (Pw ws0 u))) := by
  refine Mq.start (by decide) (Nat.le_of_ble_eq_true rfl) ?_
  intro p e s m below meth c A ls C0 hZ h hl
  have hl : lv_has ls 4 [(0, .ref (ad 0)), (1, .int a1)] := hl
  have h : Wt G SM ad A s s.heap [] ws0 := ⟨h, hT⟩
  obtain ⟨args, hargs⟩ : ∃ z, z = ([.ref (ad 0), .int a1] : List Value).toArray := ⟨_, rfl⟩
  rw [← hargs] at C0 ⊢
  have C0 : Cx p s m args meth c RX12 cX12_walk 4 (some .int) := C0
  obtain ⟨Q, hQ⟩ : ∃ z, z = MQ below ((PI G SM ad [0, 1, 5, 6] ws0 (fun r u => (xso SM ad u = (f_X12_walk (xso SM ad ws0) a1.toInt).1) ∧ (r.toInt = (f_X12_walk (xso SM ad ws0) a1.toInt).2) ∧ ((-6) ≤ r.toInt) ∧ (r.toInt ≤ 39) ∧ (Pa ws0 u) ∧ (Pw ws0 u))) A) args s 0 0 A := ⟨_, rfl⟩
  rw [← hQ]
  obtain ⟨FT, hFT⟩ : ∃ z, z = f_X12_walk (xso SM ad ws0) a1.toInt := ⟨_, rfl⟩
  have HE : FT = f_X12_walk (xso SM ad ws0) a1.toInt := hFT
  refine lv_aload_n C0.1 C0.2.1 dX12_walk_0 rfl (lv_at hl 0 rfl) ?_
  refine y_c1 (n := 0) C0 (by decide) dX12_walk_1 (fun v_1 e_2 => ?_)
  refine np_X12_thrown C0 h kSM_0 q_1438 (le_min v_1) (le_max v_1) dX12_walk_2 (fun H locs ws_3 h u_4 Xu_4 => ?_)
  replace HE : FT = g1w_X12_walk (xso SM ad ws_3) a1.toInt := HE.trans (by rw [Xu_4, e_2]; rfl)
  refine lv_aload_n C0.1 C0.2.1 dX12_walk_5 rfl (lv_at hl 0 rfl) ?_
  refine lv_iload_n C0.1 C0.2.1 dX12_walk_6 rfl (lv_at hl 1 rfl) ?_
  refine y_ci h (y_rV (As := [.int a1]) (rest := []) C0 hZ h (c_X12_noTray l G Z ad _ h.2 a1) k_X12_noTray q_1796 q_91 q_1794 kSM_0 rfl rfl rfl hl.1 rfl rfl (Nat.le_of_ble_eq_true rfl) dX12_walk_7 ⟨Nat.le_of_ble_eq_true rfl, Nat.le_of_ble_eq_true rfl⟩ ⟨Nat.le_of_ble_eq_true rfl, Nat.le_of_ble_eq_true rfl⟩) (fun r_8 H locs ws_5 h u_6 p_7 => ?_)
  obtain ⟨e_9, e_10, e_11, e_12, e_13⟩ := p_7
  replace HE : FT = g2c_X12_walk (xso SM ad ws_5) r_8.toInt a1.toInt := HE.trans (by rw [e_9, e_10]; rfl)
  refine lv_istore_n (lv' := [(2, .int r_8), (0, .ref (ad 0)), (1, .int a1)]) C0.1 C0.2.1 dX12_walk_10 rfl hl (by decide) rfl (fun ls hl => ?_)
  refine lv_iload_n C0.1 C0.2.1 dX12_walk_11 rfl (lv_at hl 0 rfl) ?_
  replace HE : FT = g3b_X12_walk (xso SM ad ws_5) r_8.toInt a1.toInt := HE.trans rfl
  refine y_if_eq (tgt := 17) C0 dX12_walk_12 (by decide) (fun c_14 => ?_) (fun c_14 => ?_)
  · -- 12
    replace HE : FT = g4_X12_walk (xso SM ad ws_5) a1.toInt := HE.trans (if_pos c_14)
    refine lv_aload_n C0.1 C0.2.1 dX12_walk_17 rfl (lv_at hl 1 rfl) ?_
    refine y_cv h (y_rV (As := []) (rest := []) C0 hZ h (c_X12_keeps l G Z ad _ h.2) k_X12_keeps q_1777 q_88 q_1775 kSM_0 rfl rfl rfl hl.1 rfl rfl (Nat.le_of_ble_eq_true rfl) dX12_walk_18 ⟨Nat.le_of_ble_eq_true rfl, Nat.le_of_ble_eq_true rfl⟩ ⟨Nat.le_of_ble_eq_true rfl, Nat.le_of_ble_eq_true rfl⟩) (fun H locs ws_15 h u_16 p_17 => ?_)
    have e_18 := p_17
    replace HE : FT = g6c_X12_walk (xso SM ad ws_15) a1.toInt := HE.trans (by rw [e_18]; rfl)
    refine lv_aload_n C0.1 C0.2.1 dX12_walk_21 rfl (lv_at hl 1 rfl) ?_
    refine lv_iload_n C0.1 C0.2.1 dX12_walk_22 rfl (lv_at hl 2 rfl) ?_
    refine y_ci h (y_rV (As := [.int a1]) (rest := []) C0 hZ h (c_X12_tells l G Z ad _ h.2 a1 (o35_155 e_11 e_12 e_13 c_14) (o35_157 e_11 e_12 e_13 c_14) (J.pa hT hJ (Pa.tr (Pa.tr (Pa.ud u_4.1 (by decide)) (Pa.fr u_6 (by decide))) (Pa.fr u_16 (by decide))))) k_X12_tells q_1800 q_92 q_1798 kSM_0 rfl rfl rfl hl.1 rfl rfl (Nat.le_of_ble_eq_true rfl) dX12_walk_23 ⟨Nat.le_of_ble_eq_true rfl, Nat.le_of_ble_eq_true rfl⟩ ⟨Nat.le_of_ble_eq_true rfl, Nat.le_of_ble_eq_true rfl⟩) (fun r_22 H locs ws_19 h u_20 p_21 => ?_)
    obtain ⟨e_23, e_24, e_25, e_26, e_27, e_28⟩ := p_21
    replace HE : FT = g7c_X12_walk (xso SM ad ws_19) r_22.toInt := HE.trans (by rw [e_23, e_24]; rfl)
    refine lv_istore_n (lv' := [(3, .int r_22), (2, .int r_8), (0, .ref (ad 0)), (1, .int a1)]) C0.1 C0.2.1 dX12_walk_26 rfl hl (by decide) rfl (fun ls hl => ?_)
    refine lv_iload_n C0.1 C0.2.1 dX12_walk_27 rfl (lv_at hl 0 rfl) ?_
    replace HE : FT = g8b_X12_walk (xso SM ad ws_19) r_22.toInt := HE.trans rfl
    refine y_if_le (tgt := 35) C0 dX12_walk_28 (by decide) (fun c_29 => ?_) (fun c_29 => ?_)
    · -- 28
      replace HE : FT = g9_X12_walk (xso SM ad ws_19) := HE.trans (if_neg (Int.not_lt.mpr c_29))
      refine lv_iload_n C0.1 C0.2.1 dX12_walk_35 rfl (lv_at hl 0 rfl) ?_
      replace HE : FT = ((xso SM ad ws_19), r_22.toInt) := HE.trans (by rw [(o35_185 e_25 e_26 c_29)]; rfl)
      rw [hQ]
      exact y_iret C0 h (Fr.tr (Fr.tr (Fr.tr (Fr.up u_4.1 kSM_0 (by decide)) (Fr.mono u_6 (by decide))) (Fr.mono u_16 (by decide))) (Fr.mono u_20 (by decide))) ⟨(congrArg Prod.fst (HE.symm.trans hFT)), (congrArg Prod.snd (HE.symm.trans hFT)), (o35_186 e_25 e_26 c_29), (o35_187 e_25 e_26 c_29), (Pa.tr (Pa.tr (Pa.tr (Pa.ud u_4.1 (by decide)) (Pa.fr u_6 (by decide))) (Pa.fr u_16 (by decide))) e_27), (Pw.tr (Pw.tr (Pw.tr (Pw.ud u_4.1 (by decide)) (Pw.fr u_6 (by decide))) (Pw.fr u_16 (by decide))) e_28)⟩ dX12_walk_36
    · -- 28
      replace HE : FT = g10_X12_walk (xso SM ad ws_19) r_22.toInt := HE.trans (if_pos c_29)
      refine lv_aload_n C0.1 C0.2.1 dX12_walk_31 rfl (lv_at hl 2 rfl) ?_
      refine y_cv h (y_rV (As := []) (rest := []) C0 hZ h (c_X12_notes l G Z ad _ h.2) k_X12_notes q_1788 q_90 q_1786 kSM_0 rfl rfl rfl hl.1 rfl rfl (Nat.le_of_ble_eq_true rfl) dX12_walk_32 ⟨Nat.le_of_ble_eq_true rfl, Nat.le_of_ble_eq_true rfl⟩ ⟨Nat.le_of_ble_eq_true rfl, Nat.le_of_ble_eq_true rfl⟩) (fun H locs ws_30 h u_31 p_32 => ?_)
      obtain ⟨e_33, e_34, e_35⟩ := p_32
      replace HE : FT = g11c_X12_walk (xso SM ad ws_30) r_22.toInt := HE.trans (by rw [e_33]; rfl)
      refine lv_iload_n C0.1 C0.2.1 dX12_walk_35 rfl (lv_at hl 0 rfl) ?_
      replace HE : FT = ((xso SM ad ws_30), r_22.toInt) := HE.trans rfl
      rw [hQ]
      exact y_iret C0 h (Fr.tr (Fr.tr (Fr.tr (Fr.tr (Fr.up u_4.1 kSM_0 (by decide)) (Fr.mono u_6 (by decide))) (Fr.mono u_16 (by decide))) (Fr.mono u_20 (by decide))) (Fr.mono u_31 (by decide))) ⟨(congrArg Prod.fst (HE.symm.trans hFT)), (congrArg Prod.snd (HE.symm.trans hFT)), (o35_188 e_25 e_26 c_29), (o35_189 e_25 e_26 c_29), (Pa.tr (Pa.tr (Pa.tr (Pa.tr (Pa.ud u_4.1 (by decide)) (Pa.fr u_6 (by decide))) (Pa.fr u_16 (by decide))) e_27) e_34), (Pw.tr (Pw.tr (Pw.tr (Pw.tr (Pw.ud u_4.1 (by decide)) (Pw.fr u_6 (by decide))) (Pw.fr u_16 (by decide))) e_28) e_35)⟩ dX12_walk_36
  · -- 12
    replace HE : FT = g5_X12_walk (xso SM ad ws_5) r_8.toInt := HE.trans (if_neg c_14)
    refine lv_iload_n C0.1 C0.2.1 dX12_walk_15 rfl (lv_at hl 0 rfl) ?_
    replace HE : FT = ((xso SM ad ws_5), r_8.toInt) := HE.trans rfl
    rw [hQ]
    exact y_iret C0 h (Fr.tr (Fr.up u_4.1 kSM_0 (by decide)) (Fr.mono u_6 (by decide))) ⟨(congrArg Prod.fst (HE.symm.trans hFT)), (congrArg Prod.snd (HE.symm.trans hFT)), (o35_190 e_11 e_12 e_13 c_14), (o35_191 e_11 e_12 e_13 c_14), (Pa.tr (Pa.ud u_4.1 (by decide)) (Pa.fr u_6 (by decide))), (Pw.tr (Pw.ud u_4.1 (by decide)) (Pw.fr u_6 (by decide)))⟩ dX12_walk_16
noncomputable def g4_X12_buys (s : XS) (x3_6 : Int) : XR := (s, x3_6)
noncomputable def g7w_X12_buys (R5 : XS → Int → Int → Int → Int → XR) (s : XS) (a1 : Int) (a2 : Int) (w_45 : Int) (x5_5 : Int) : XR := R5 s a1 a2 w_45 ((x5_5 + 1))
noncomputable def g6c_X12_buys (R5 : XS → Int → Int → Int → Int → XR) (s : XS) (r_39 : Int) (x3_6 : Int) (a1 : Int) (a2 : Int) (x5_5 : Int) : XR := g7w_X12_buys R5 (xup s 1 1 (Int.toNat (61 + (s 1 1 (Int.toNat (36 + a1))))) ((Xiadd (s 1 1 (Int.toNat (61 + (s 1 1 (Int.toNat (36 + a1)))))) 1))) a1 a2 ((Xladd x3_6 r_39)) x5_5
noncomputable def g5_X12_buys (R5 : XS → Int → Int → Int → Int → XR) (s : XS) (a1 : Int) (a2 : Int) (x3_6 : Int) (x5_5 : Int) : XR := g6c_X12_buys R5 ((f_X12_priceOf s (s 1 1 (Int.toNat (36 + a1))) 0 (s 1 1 (Int.toNat (41 + a1)))).1) (((f_X12_priceOf s (s 1 1 (Int.toNat (36 + a1))) 0 (s 1 1 (Int.toNat (41 + a1)))).2)) x3_6 a1 a2 x5_5
noncomputable def g3b_X12_buys (R5 : XS → Int → Int → Int → Int → XR) (s : XS) (a2 : Int) (x5_5 : Int) (a1 : Int) (x3_6 : Int) : XR := if x5_5 < a2 then g5_X12_buys R5 s a1 a2 x3_6 x5_5 else g4_X12_buys s x3_6
noncomputable def g2l_X12_buys (R5 : XS → Int → Int → Int → Int → XR) (s : XS) (a1 : Int) (a2 : Int) (x3_6 : Int) (x5_5 : Int) : XR := g3b_X12_buys R5 s a2 x5_5 a1 x3_6
noncomputable def L1_X12_buys (n : Nat) : XS → Int → Int → Int → Int → XR := Nat.rec (motive := fun _ => XS → Int → Int → Int → Int → XR) (fun s _ _ _ _ => (s, 0)) (fun _ R5 => g2l_X12_buys R5) n
noncomputable def f_X12_buys (s : XS) (a1 : Int) (a2 : Int) : XR := L1_X12_buys (Int.toNat (20 - 0 + 1)) s a1 a2 0 0
set_option maxHeartbeats 4000000 in
set_option maxRecDepth 100000 in
theorem c_X12_buys (l : Launch) (G : GG) (Z : RZ) (ad : Nat → Nat) (ws0 : va_W) (hT : Ty G SM ad ws0) (a1 : Int32) (a2 : Int32) (l1 : 0 ≤ a1.toInt) (u1 : a1.toInt ≤ 4) (l2 : 1 ≤ a2.toInt) (u2 : a2.toInt ≤ 20) (hJ : J ws0) (hLd : Laid ws0) : Mq l yX12_buys cX12_buys 6 (some .long) 4 G Z [.ref (ad 0), .int a1, .int a2] ws0 (PL G SM ad [1, 5] ws0 (fun r u => (xso SM ad u = (f_X12_buys (xso SM ad ws0) a1.toInt a2.toInt).1) ∧ (r.toInt = (f_X12_buys (xso SM ad ws0) a1.toInt a2.toInt).2) ∧ (Ps ws0 u) ∧ (Pa ws0 u) ∧ (Pw ws0 u))) := by
  refine Mq.start (by decide) (Nat.le_of_ble_eq_true rfl) ?_
  intro p e s m below meth c A ls C0 hZ h hl
  have hl : lv_has ls 6 [(0, .ref (ad 0)), (1, .int a1), (2, .int a2)] := hl
  have h : Wt G SM ad A s s.heap [] ws0 := ⟨h, hT⟩
  obtain ⟨args, hargs⟩ : ∃ z, z = ([.ref (ad 0), .int a1, .int a2] : List Value).toArray := ⟨_, rfl⟩
  rw [← hargs] at C0 ⊢
  have C0 : Cx p s m args meth c RX12 cX12_buys 6 (some .long) := C0
  obtain ⟨Q, hQ⟩ : ∃ z, z = MQ below ((PL G SM ad [1, 5] ws0 (fun r u => (xso SM ad u = (f_X12_buys (xso SM ad ws0) a1.toInt a2.toInt).1) ∧ (r.toInt = (f_X12_buys (xso SM ad ws0) a1.toInt a2.toInt).2) ∧ (Ps ws0 u) ∧ (Pa ws0 u) ∧ (Pw ws0 u))) A) args s 0 0 A := ⟨_, rfl⟩
  rw [← hQ]
  obtain ⟨FT, hFT⟩ : ∃ z, z = f_X12_buys (xso SM ad ws0) a1.toInt a2.toInt := ⟨_, rfl⟩
  have HE : FT = f_X12_buys (xso SM ad ws0) a1.toInt a2.toInt := hFT
  refine y_lc (v := 0) C0 (by decide) dX12_buys_0 (fun w_1 e_2 => ?_)
  refine lv_lstore_n (lv' := [(3, .long w_1), (0, .ref (ad 0)), (1, .int a1), (2, .int a2)]) C0.1 C0.2.1 dX12_buys_1 rfl hl (by decide) rfl (fun ls hl => ?_)
  refine y_c1 (n := 0) C0 (by decide) dX12_buys_2 (fun v_3 e_4 => ?_)
  refine lv_istore (lv' := [(5, .int v_3), (3, .long w_1), (0, .ref (ad 0)), (1, .int a1), (2, .int a2)]) C0.1 C0.2.1 dX12_buys_3 hl (by decide) rfl (fun ls hl => ?_)
  have lp_9 : ∀ (n_11 : Nat) (x5_5 : Int32) (x3_6 : Int64) (H : Heap) (locs : List Loc) (ls : Array Slot) (ws_7 : va_W), 20 - x5_5.toInt < (n_11 : Int) → 0 ≤ x5_5.toInt → x5_5.toInt ≤ 20 → (Ps ws0 ws_7) → (Pa ws0 ws_7) → (Pw ws0 ws_7) → (FT = L1_X12_buys n_11 (xso SM ad ws_7) a1.toInt a2.toInt x3_6.toInt x5_5.toInt) → Wt G SM ad A s H locs ws_7 → Fr SM [1, 5] ws0 ws_7 → lv_has ls 6 [(5, .int x5_5), (3, .long x3_6), (0, .ref (ad 0)), (1, .int a1), (2, .int a2)] → W p l e (rmd 4 0 0) s m args below meth c H locs 0 0 Q (F0 m 5 ls []) := by
    intro n_11
    induction n_11 with
    | zero => intro x5_5 x3_6 H locs ls ws_7 hn_12 b_13 b_14 hPs hPa_5 hPw_5 HE h hF_8 hl; exact ((o35_192 b_13 b_14 hn_12)).elim
    | succ n_11 ih_10 =>
      intro x5_5 x3_6 H locs ls ws_7 hn_12 b_13 b_14 hPs hPa_5 hPw_5 HE h hF_8 hl
      obtain ⟨R5, hR5⟩ : ∃ z, z = L1_X12_buys n_11 := ⟨_, rfl⟩
      replace HE : FT = g2l_X12_buys R5 (xso SM ad ws_7) a1.toInt a2.toInt x3_6.toInt x5_5.toInt := HE.trans (by rw [hR5]; rfl)
      refine lv_iload C0.1 C0.2.1 dX12_buys_5 (lv_at hl 0 rfl) ?_
      refine lv_iload_n C0.1 C0.2.1 dX12_buys_7 rfl (lv_at hl 4 rfl) ?_
      replace HE : FT = g3b_X12_buys R5 (xso SM ad ws_7) a2.toInt x5_5.toInt a1.toInt x3_6.toInt := HE.trans rfl
      refine y_icmp_ge (tgt := 65) C0 dX12_buys_8 (by decide) (fun c_15 => ?_) (fun c_15 => ?_)
      · -- 8
        replace HE : FT = g4_X12_buys (xso SM ad ws_7) x3_6.toInt := HE.trans (if_neg (Int.not_lt.mpr c_15))
        refine lv_lload_n C0.1 C0.2.1 dX12_buys_65 rfl (lv_at hl 1 rfl) ?_
        replace HE : FT = ((xso SM ad ws_7), x3_6.toInt) := HE.trans rfl
        rw [hQ]
        exact y_lret C0 h hF_8 ⟨(congrArg Prod.fst (HE.symm.trans hFT)), (congrArg Prod.snd (HE.symm.trans hFT)), hPs, hPa_5, hPw_5⟩ dX12_buys_66
      · -- 8
        replace HE : FT = g5_X12_buys R5 (xso SM ad ws_7) a1.toInt a2.toInt x3_6.toInt x5_5.toInt := HE.trans (if_pos c_15)
        refine lv_lload_n C0.1 C0.2.1 dX12_buys_11 rfl (lv_at hl 1 rfl) ?_
        refine lv_aload_n C0.1 C0.2.1 dX12_buys_12 rfl (lv_at hl 2 rfl) ?_
        refine lv_aload_n C0.1 C0.2.1 dX12_buys_13 rfl (lv_at hl 2 rfl) ?_
        refine ng_X12_all C0 h kSM_0 q_1439 dX12_buys_14 ?_
        refine y_c2 (n := 36) C0 (by decide) dX12_buys_17 (fun v_16 e_17 => ?_)
        refine lv_iload_n C0.1 C0.2.1 dX12_buys_19 rfl (lv_at hl 3 rfl) ?_
        refine y_add C0 (o35_193 l1 u1 e_17 (le_min v_16) (le_max v_16) (le_min a1) (le_max a1)) (o35_194 l1 u1 e_17 (le_min v_16) (le_max v_16) (le_min a1) (le_max a1)) dX12_buys_20 (fun v_18 e_19 => ?_)
        refine y_iald C0 h kSM_1 rfl (by decide) (o35_195 l1 u1 e_17 e_19) (o35_196 l1 u1 e_17 e_19) dX12_buys_21 (fun v_20 e_21 e_22 e_23 => ?_)
        have f_24 := o35_22 v_18.toInt.toNat (o35_197 l1 u1 e_17 e_19) (o35_198 l1 u1 e_17 e_19)
        refine y_c1 (n := 0) C0 (by decide) dX12_buys_22 (fun v_25 e_26 => ?_)
        refine lv_aload_n C0.1 C0.2.1 dX12_buys_23 rfl (lv_at hl 2 rfl) ?_
        refine ng_X12_all C0 h kSM_0 q_1439 dX12_buys_24 ?_
        refine y_c2 (n := 41) C0 (by decide) dX12_buys_27 (fun v_27 e_28 => ?_)
        refine lv_iload_n C0.1 C0.2.1 dX12_buys_29 rfl (lv_at hl 3 rfl) ?_
        refine y_add C0 (o35_199 l1 u1 e_17 e_19 e_28 (le_min v_27) (le_max v_27) (le_min a1) (le_max a1) (le_min v_16) (le_max v_16) (le_min v_18) (le_max v_18)) (o35_200 l1 u1 e_17 e_19 e_28 (le_min v_27) (le_max v_27) (le_min a1) (le_max a1) (le_min v_16) (le_max v_16) (le_min v_18) (le_max v_18)) dX12_buys_30 (fun v_29 e_30 => ?_)
        refine y_iald C0 h kSM_1 rfl (by decide) (o35_201 l1 u1 e_17 e_19 e_28 e_30) (o35_202 l1 u1 e_17 e_19 e_28 e_30) dX12_buys_31 (fun v_31 e_32 e_33 e_34 => ?_)
        have f_35 := o35_29 v_29.toInt.toNat (o35_203 l1 u1 e_17 e_19 e_28 e_30) (o35_204 l1 u1 e_17 e_19 e_28 e_30)
        refine y_ci h (y_rV (As := [.int v_20, .int v_25, .int v_31]) (rest := [.long x3_6]) C0 hZ h (c_X12_priceOf l G Z ad _ h.2 v_20 v_25 v_31 (o35_205 (Int.le_trans f_24.1 e_22) (Int.le_trans e_23 f_24.2)) (o35_93 (Int.le_trans f_24.1 e_22) (Int.le_trans e_23 f_24.2)) (o35_98 (Int.le_trans f_35.1 e_33) (Int.le_trans e_34 f_35.2)) (o35_206 (Int.le_trans f_35.1 e_33) (Int.le_trans e_34 f_35.2)) (J.pa hT hJ hPa_5) (Laid.pa hLd hPa_5)) k_X12_priceOf q_1724 q_81 q_1722 kSM_0 rfl rfl rfl hl.1 rfl rfl (Nat.le_of_ble_eq_true rfl) dX12_buys_32 ⟨Nat.le_of_ble_eq_true rfl, Nat.le_of_ble_eq_true rfl⟩ ⟨Nat.le_of_ble_eq_true rfl, Nat.le_of_ble_eq_true rfl⟩) (fun r_39 H locs ws_36 h u_37 p_38 => ?_)
        obtain ⟨e_40, e_41, e_42⟩ := p_38
        replace HE : FT = g6c_X12_buys R5 (xso SM ad ws_36) r_39.toInt x3_6.toInt a1.toInt a2.toInt x5_5.toInt := HE.trans (by rw [e_40, e_41, (xg1 e_32 : v_31.toInt = (xso SM ad ws_7) 1 1 v_29.toInt.toNat), e_30, e_28, e_26, (xg1 e_21 : v_20.toInt = (xso SM ad ws_7) 1 1 v_18.toInt.toNat), e_19, e_17]; rfl)
        refine y_i2l C0 dX12_buys_35 (fun w_43 e_44 => ?_)
        refine xr_ladd C0 dX12_buys_36 (fun w_45 e_46 => ?_)
        refine lv_lstore_n (lv' := [(3, .long w_45), (5, .int x5_5), (0, .ref (ad 0)), (1, .int a1), (2, .int a2)]) C0.1 C0.2.1 dX12_buys_37 rfl hl (by decide) rfl (fun ls hl => ?_)
        refine lv_aload_n C0.1 C0.2.1 dX12_buys_38 rfl (lv_at hl 2 rfl) ?_
        refine ng_X12_all C0 h kSM_0 q_1439 dX12_buys_39 ?_
        refine y_c2 (n := 61) C0 (by decide) dX12_buys_42 (fun v_47 e_48 => ?_)
        refine lv_aload_n C0.1 C0.2.1 dX12_buys_44 rfl (lv_at hl 2 rfl) ?_
        refine ng_X12_all C0 h kSM_0 q_1439 dX12_buys_45 ?_
        refine y_c2 (n := 36) C0 (by decide) dX12_buys_48 (fun v_49 e_50 => ?_)
        refine lv_iload_n C0.1 C0.2.1 dX12_buys_50 rfl (lv_at hl 3 rfl) ?_
        refine y_add C0 (o35_207 l1 u1 e_17 e_19 e_28 e_30 e_50 (le_min v_49) (le_max v_49) (le_min a1) (le_max a1) (le_min v_16) (le_max v_16) (le_min v_18) (le_max v_18) (le_min v_27) (le_max v_27) (le_min v_29) (le_max v_29)) (o35_208 l1 u1 e_17 e_19 e_28 e_30 e_50 (le_min v_49) (le_max v_49) (le_min a1) (le_max a1) (le_min v_16) (le_max v_16) (le_min v_18) (le_max v_18) (le_min v_27) (le_max v_27) (le_min v_29) (le_max v_29)) dX12_buys_51 (fun v_51 e_52 => ?_)
        refine y_iald C0 h kSM_1 rfl (by decide) (o35_209 l1 u1 e_17 e_19 e_28 e_30 e_50 e_52) (o35_210 l1 u1 e_17 e_19 e_28 e_30 e_50 e_52) dX12_buys_52 (fun v_53 e_54 e_55 e_56 => ?_)
        have f_57 := o35_22 v_51.toInt.toNat (o35_211 l1 u1 e_17 e_19 e_28 e_30 e_50 e_52) (o35_212 l1 u1 e_17 e_19 e_28 e_30 e_50 e_52)
        have qh_58 : v_53.toInt = v_20.toInt := congrArg Int32.toInt (e_54.symm.trans (Eq.trans (congrArg (aI ws_36 1) (o35_213 l1 u1 e_17 e_19 e_28 e_30 e_50 e_52)) (Eq.trans (Fr.aI u_37 kSM_1 (by decide)) e_21)))
        refine y_add C0 (o35_214 (Int.le_trans f_24.1 e_22) (Int.le_trans e_23 f_24.2) e_48 (Int.le_trans f_57.1 e_55) (Int.le_trans e_56 f_57.2) qh_58 (le_min v_47) (le_max v_47) (le_min v_53) (le_max v_53) (le_min v_20) (le_max v_20)) (o35_215 (Int.le_trans f_24.1 e_22) (Int.le_trans e_23 f_24.2) e_48 (Int.le_trans f_57.1 e_55) (Int.le_trans e_56 f_57.2) qh_58 (le_min v_47) (le_max v_47) (le_min v_53) (le_max v_53) (le_min v_20) (le_max v_20)) dX12_buys_53 (fun v_59 e_60 => ?_)
        refine lv_dup2_11 C0.1 C0.2.1 dX12_buys_54 rfl rfl ?_
        refine y_iald C0 h kSM_1 rfl (by decide) (o35_216 (Int.le_trans f_24.1 e_22) (Int.le_trans e_23 f_24.2) e_48 (Int.le_trans f_57.1 e_55) (Int.le_trans e_56 f_57.2) qh_58 e_60) (o35_217 (Int.le_trans f_24.1 e_22) (Int.le_trans e_23 f_24.2) e_48 (Int.le_trans f_57.1 e_55) (Int.le_trans e_56 f_57.2) qh_58 e_60) dX12_buys_55 (fun v_61 e_62 e_63 e_64 => ?_)
        refine y_c1 (n := 1) C0 (by decide) dX12_buys_56 (fun v_65 e_66 => ?_)
        refine xr_iadd C0 dX12_buys_57 (fun v_67 e_68 => ?_)
        have hO_71 := h.2
        have f_72 := o35_218 v_59.toInt.toNat (o35_219 (Int.le_trans f_24.1 e_22) (Int.le_trans e_23 f_24.2) e_48 (Int.le_trans f_57.1 e_55) (Int.le_trans e_56 f_57.2) qh_58 e_60) (o35_220 (Int.le_trans f_24.1 e_22) (Int.le_trans e_23 f_24.2) e_48 (Int.le_trans f_57.1 e_55) (Int.le_trans e_56 f_57.2) qh_58 e_60)
        refine y_iast C0 h kSM_1 rfl (by decide) (o35_216 (Int.le_trans f_24.1 e_22) (Int.le_trans e_23 f_24.2) e_48 (Int.le_trans f_57.1 e_55) (Int.le_trans e_56 f_57.2) qh_58 e_60) (o35_217 (Int.le_trans f_24.1 e_22) (Int.le_trans e_23 f_24.2) e_48 (Int.le_trans f_57.1 e_55) (Int.le_trans e_56 f_57.2) qh_58 e_60) (Int.le_trans f_72.1 (le_min v_67)) (Int.le_trans (le_max v_67) f_72.2) dX12_buys_58 (fun H locs ws_69 h u_70 => ?_)
        replace HE : FT = g7w_X12_buys R5 (xso SM ad ws_69) a1.toInt a2.toInt w_45.toInt x5_5.toInt := HE.trans (by rw [(xso_A (i := 1) hO_71 h.2 kSM_1 rfl u_70), e_68, e_66, (xg1 e_62 : v_61.toInt = (xso SM ad ws_36) 1 1 v_59.toInt.toNat), e_60, (xg1 e_54 : v_53.toInt = (xso SM ad ws_36) 1 1 v_51.toInt.toNat), e_52, e_50, e_48, e_46, e_44]; rfl)
        refine y_inc (kp := 1) (n := 1) (fun v_73 => [(5, .int v_73), (3, .long w_45), (0, .ref (ad 0)), (1, .int a1), (2, .int a2)]) C0 hl rfl (by decide) (by decide) (fun _ => rfl) (o35_224 l2 u2 b_13 b_14 hn_12 c_15 (le_min x5_5) (le_max x5_5) (le_min a2) (le_max a2)) (o35_225 l2 u2 b_13 b_14 hn_12 c_15 (le_min x5_5) (le_max x5_5) (le_min a2) (le_max a2)) dX12_buys_59 (fun v_73 ls e_74 hl => ?_)
        refine lv_goto (tgt := 5) C0.1 C0.2.1 dX12_buys_62 (by decide) ?_
        exact ih_10 v_73 w_45 _ _ _ _ (o35_226 l2 u2 b_13 b_14 hn_12 c_15 e_74) (o35_227 l2 u2 b_13 b_14 hn_12 c_15 e_74) (o35_228 l2 u2 b_13 b_14 hn_12 c_15 e_74) ((Ps.tr hPs (Ps.tr (Ps.fr u_37 (by decide)) (Ps.st u_70 (o35_229 (Int.le_trans f_24.1 e_22) (Int.le_trans e_23 f_24.2) e_48 (Int.le_trans f_57.1 e_55) (Int.le_trans e_56 f_57.2) qh_58 e_60) (o35_230 (Int.le_trans f_24.1 e_22) (Int.le_trans e_23 f_24.2) e_48 (Int.le_trans f_57.1 e_55) (Int.le_trans e_56 f_57.2) qh_58 e_60))))) ((Pa.tr (Pa.tr hPa_5 (Pa.fr u_37 (by decide))) (Pa.st u_70 (o35_222 (Int.le_trans f_24.1 e_22) (Int.le_trans e_23 f_24.2) e_48 (Int.le_trans f_57.1 e_55) (Int.le_trans e_56 f_57.2) qh_58 e_60) (o35_223 (Int.le_trans f_24.1 e_22) (Int.le_trans e_23 f_24.2) e_48 (Int.le_trans f_57.1 e_55) (Int.le_trans e_56 f_57.2) qh_58 e_60)))) ((Pw.tr (Pw.tr hPw_5 (Pw.fr u_37 (by decide))) (Pw.st u_70 (o35_221 (Int.le_trans f_24.1 e_22) (Int.le_trans e_23 f_24.2) e_48 (Int.le_trans f_57.1 e_55) (Int.le_trans e_56 f_57.2) qh_58 e_60)))) (((show FT = R5 (xso SM ad ws_69) a1.toInt a2.toInt w_45.toInt v_73.toInt from HE.trans (by rw [e_74]; rfl)).trans (by rw [hR5]))) h (Fr.tr (Fr.tr hF_8 (Fr.mono u_37 (by decide))) (Fr.up u_70.1 kSM_1 (by decide))) (lv_sub hl [0, 1, 2, 3, 4] rfl)
  exact lp_9 ((20 - v_3.toInt + 1).toNat) v_3 w_1 _ _ _ _ (o35_231 e_4) (o35_56 e_4) (o35_232 e_4) Ps.rf Pa.rf Pw.rf ((show FT = L1_X12_buys (Int.toNat (20 - v_3.toInt + 1)) (xso SM ad ws0) a1.toInt a2.toInt w_1.toInt v_3.toInt from HE.trans (by rw [e_4, e_2]; rfl))) h Fr.rf (lv_sub hl [0, 1, 2, 3, 4] rfl)
noncomputable def g9c_X12_boughtBy (s : XS) : XR := (s, ((-4)))
noncomputable def g7_X12_boughtBy (s : XS) : XR := g9c_X12_boughtBy ((f_X12_isAgain s).1)
noncomputable def g10c_X12_boughtBy (s : XS) : XR := (s, ((-5)))
noncomputable def g8_X12_boughtBy (s : XS) : XR := g10c_X12_boughtBy ((f_X12_isAgain s).1)
noncomputable def g6b_X12_boughtBy (s : XS) (v_38 : Int) : XR := if 0 < v_38 then g8_X12_boughtBy s else g7_X12_boughtBy s
noncomputable def g4_X12_boughtBy (s : XS) (a1 : Int) (r_8 : Int) : XR := g6b_X12_boughtBy s ((Xcmp r_8 ((s 1 1 (Int.toNat (51 + a1))))))
noncomputable def g17c_X12_boughtBy (s : XS) : XR := (s, ((-4)))
noncomputable def g15_X12_boughtBy (s : XS) : XR := g17c_X12_boughtBy ((f_X12_isAgain s).1)
noncomputable def g18c_X12_boughtBy (s : XS) : XR := (s, ((-5)))
noncomputable def g16_X12_boughtBy (s : XS) : XR := g18c_X12_boughtBy ((f_X12_isAgain s).1)
noncomputable def g14b_X12_boughtBy (s : XS) (v_88 : Int) : XR := if 0 < v_88 then g16_X12_boughtBy s else g15_X12_boughtBy s
noncomputable def g12_X12_boughtBy (s : XS) (a1 : Int) (r_8 : Int) : XR := g14b_X12_boughtBy s ((Xcmp r_8 ((s 1 1 (Int.toNat (51 + a1))))))
noncomputable def g20w_X12_boughtBy (s : XS) (r_8 : Int) : XR := (s, (Xl2i r_8))
noncomputable def g19w_X12_boughtBy (s : XS) (a1 : Int) (a2 : Int) (r_8 : Int) : XR := g20w_X12_boughtBy (xup s 1 1 (Int.toNat (46 + a1)) (((s 1 1 (Int.toNat (46 + a1))) + a2))) r_8
noncomputable def g13_X12_boughtBy (s : XS) (a1 : Int) (a2 : Int) (r_8 : Int) : XR := g19w_X12_boughtBy (xup s 1 1 (Int.toNat (51 + a1)) ((Xisub (s 1 1 (Int.toNat (51 + a1))) (Xl2i r_8)))) a1 a2 r_8
noncomputable def g11b_X12_boughtBy (s : XS) (v_72 : Int) (a1 : Int) (a2 : Int) (r_8 : Int) : XR := if 99 < v_72 then g12_X12_boughtBy s a1 r_8 else g13_X12_boughtBy s a1 a2 r_8
noncomputable def g5_X12_boughtBy (s : XS) (a1 : Int) (a2 : Int) (r_8 : Int) : XR := g11b_X12_boughtBy s (((s 1 1 (Int.toNat (46 + a1))) + a2)) a1 a2 r_8
noncomputable def g3b_X12_boughtBy (s : XS) (v_24 : Int) (a1 : Int) (a2 : Int) (r_8 : Int) : XR := if 0 < v_24 then g4_X12_boughtBy s a1 r_8 else g5_X12_boughtBy s a1 a2 r_8
noncomputable def g2c_X12_boughtBy (s : XS) (r_8 : Int) (a1 : Int) (a2 : Int) : XR := g3b_X12_boughtBy s ((Xcmp r_8 ((s 1 1 (Int.toNat (51 + a1)))))) a1 a2 r_8
noncomputable def g1c_X12_boughtBy (s : XS) (a1 : Int) (a2 : Int) : XR := g2c_X12_boughtBy ((f_X12_buys s a1 a2).1) (((f_X12_buys s a1 a2).2)) a1 a2
noncomputable def f_X12_boughtBy (s : XS) (a1 : Int) (a2 : Int) : XR := g1c_X12_boughtBy ((f_X12_keeps s).1) a1 a2
set_option maxHeartbeats 4000000 in
set_option maxRecDepth 100000 in
theorem c_X12_boughtBy (l : Launch) (G : GG) (Z : RZ) (ad : Nat → Nat) (ws0 : va_W) (hT : Ty G SM ad ws0) (a1 : Int32) (a2 : Int32) (l1 : 0 ≤ a1.toInt) (u1 : a1.toInt ≤ 4) (l2 : 1 ≤ a2.toInt) (u2 : a2.toInt ≤ 20) (hJ : J ws0) (hLd : Laid ws0) : Mq l yX12_boughtBy cX12_boughtBy 6 (some .int) 5 G Z [.ref (ad 0), .int a1, .int a2] ws0 (PI G SM ad [1, 5, 6] ws0 (fun r u => (xso SM ad u = (f_X12_boughtBy (xso SM ad ws0) a1.toInt a2.toInt).1) ∧ (r.toInt = (f_X12_boughtBy (xso SM ad ws0) a1.toInt a2.toInt).2) ∧ (r.toInt < 0 ∨ (aI u 1 (46 + a1.toInt.toNat)).toInt = (aI ws0 1 (46 + a1.toInt.toNat)).toInt + a2.toInt) ∧ (Pa ws0 u) ∧ (Pw ws0 u))) := by
  refine Mq.start (by decide) (Nat.le_of_ble_eq_true rfl) ?_
  intro p e s m below meth c A ls C0 hZ h hl
  have hl : lv_has ls 6 [(0, .ref (ad 0)), (1, .int a1), (2, .int a2)] := hl
  have h : Wt G SM ad A s s.heap [] ws0 := ⟨h, hT⟩
  obtain ⟨args, hargs⟩ : ∃ z, z = ([.ref (ad 0), .int a1, .int a2] : List Value).toArray := ⟨_, rfl⟩
  rw [← hargs] at C0 ⊢
  have C0 : Cx p s m args meth c RX12 cX12_boughtBy 6 (some .int) := C0
  obtain ⟨Q, hQ⟩ : ∃ z, z = MQ below ((PI G SM ad [1, 5, 6] ws0 (fun r u => (xso SM ad u = (f_X12_boughtBy (xso SM ad ws0) a1.toInt a2.toInt).1) ∧ (r.toInt = (f_X12_boughtBy (xso SM ad ws0) a1.toInt a2.toInt).2) ∧ (r.toInt < 0 ∨ (aI u 1 (46 + a1.toInt.toNat)).toInt = (aI ws0 1 (46 + a1.toInt.toNat)).toInt + a2.toInt) ∧ (Pa ws0 u) ∧ (Pw ws0 u))) A) args s 0 0 A := ⟨_, rfl⟩
  rw [← hQ]
  obtain ⟨FT, hFT⟩ : ∃ z, z = f_X12_boughtBy (xso SM ad ws0) a1.toInt a2.toInt := ⟨_, rfl⟩
  have HE : FT = f_X12_boughtBy (xso SM ad ws0) a1.toInt a2.toInt := hFT
  refine lv_aload_n C0.1 C0.2.1 dX12_boughtBy_0 rfl (lv_at hl 0 rfl) ?_
  refine y_cv h (y_rV (As := []) (rest := []) C0 hZ h (c_X12_keeps l G Z ad _ h.2) k_X12_keeps q_1777 q_88 q_1775 kSM_0 rfl rfl rfl hl.1 rfl rfl (Nat.le_of_ble_eq_true rfl) dX12_boughtBy_1 ⟨Nat.le_of_ble_eq_true rfl, Nat.le_of_ble_eq_true rfl⟩ ⟨Nat.le_of_ble_eq_true rfl, Nat.le_of_ble_eq_true rfl⟩) (fun H locs ws_1 h u_2 p_3 => ?_)
  have e_4 := p_3
  replace HE : FT = g1c_X12_boughtBy (xso SM ad ws_1) a1.toInt a2.toInt := HE.trans (by rw [e_4]; rfl)
  refine lv_aload_n C0.1 C0.2.1 dX12_boughtBy_4 rfl (lv_at hl 0 rfl) ?_
  refine lv_iload_n C0.1 C0.2.1 dX12_boughtBy_5 rfl (lv_at hl 1 rfl) ?_
  refine lv_iload_n C0.1 C0.2.1 dX12_boughtBy_6 rfl (lv_at hl 2 rfl) ?_
  refine y_cl h (y_rV (As := [.int a1, .int a2]) (rest := []) C0 hZ h (c_X12_buys l G Z ad _ h.2 a1 a2 (o35_233 l1 u1) (o35_234 l1 u1) (o35_235 l2 u2) (o35_236 l2 u2) (J.pa hT hJ (Pa.fr u_2 (by decide))) (Laid.pa hLd (Pa.fr u_2 (by decide)))) k_X12_buys q_1820 q_95 q_1818 kSM_0 rfl rfl rfl hl.1 rfl rfl (Nat.le_of_ble_eq_true rfl) dX12_boughtBy_7 ⟨Nat.le_of_ble_eq_true rfl, Nat.le_of_ble_eq_true rfl⟩ ⟨Nat.le_of_ble_eq_true rfl, Nat.le_of_ble_eq_true rfl⟩) (fun r_8 H locs ws_5 h u_6 p_7 => ?_)
  obtain ⟨e_9, e_10, e_11, e_12, e_13⟩ := p_7
  replace HE : FT = g2c_X12_boughtBy (xso SM ad ws_5) r_8.toInt a1.toInt a2.toInt := HE.trans (by rw [e_9, e_10]; rfl)
  refine lv_lstore_n (lv' := [(3, .long r_8), (0, .ref (ad 0)), (1, .int a1), (2, .int a2)]) C0.1 C0.2.1 dX12_boughtBy_10 rfl hl (by decide) rfl (fun ls hl => ?_)
  refine lv_lload_n C0.1 C0.2.1 dX12_boughtBy_11 rfl (lv_at hl 0 rfl) ?_
  refine lv_aload_n C0.1 C0.2.1 dX12_boughtBy_12 rfl (lv_at hl 1 rfl) ?_
  refine ng_X12_all C0 h kSM_0 q_1439 dX12_boughtBy_13 ?_
  refine y_c2 (n := 51) C0 (by decide) dX12_boughtBy_16 (fun v_14 e_15 => ?_)
  refine lv_iload_n C0.1 C0.2.1 dX12_boughtBy_18 rfl (lv_at hl 2 rfl) ?_
  refine y_add C0 (o35_237 l1 u1 e_15 (le_min v_14) (le_max v_14) (le_min a1) (le_max a1)) (o35_238 l1 u1 e_15 (le_min v_14) (le_max v_14) (le_min a1) (le_max a1)) dX12_boughtBy_19 (fun v_16 e_17 => ?_)
  refine y_iald C0 h kSM_1 rfl (by decide) (o35_239 l1 u1 e_15 e_17) (o35_240 l1 u1 e_15 e_17) dX12_boughtBy_20 (fun v_18 e_19 e_20 e_21 => ?_)
  refine y_i2l C0 dX12_boughtBy_21 (fun w_22 e_23 => ?_)
  refine y_lcmp C0 dX12_boughtBy_22 (fun v_24 e_25 => ?_)
  replace HE : FT = g3b_X12_boughtBy (xso SM ad ws_5) v_24.toInt a1.toInt a2.toInt r_8.toInt := HE.trans (by rw [(ix_cmp e_25), e_23, (xg1 e_19 : v_18.toInt = (xso SM ad ws_5) 1 1 v_16.toInt.toNat), e_17, e_15]; rfl)
  refine y_if_gt (tgt := 72) C0 dX12_boughtBy_23 (by decide) (fun c_26 => ?_) (fun c_26 => ?_)
  · -- 23
    replace HE : FT = g4_X12_boughtBy (xso SM ad ws_5) a1.toInt r_8.toInt := HE.trans (if_pos c_26)
    refine lv_lload_n C0.1 C0.2.1 dX12_boughtBy_72 rfl (lv_at hl 0 rfl) ?_
    refine lv_aload_n C0.1 C0.2.1 dX12_boughtBy_73 rfl (lv_at hl 1 rfl) ?_
    refine ng_X12_all C0 h kSM_0 q_1439 dX12_boughtBy_74 ?_
    refine y_c2 (n := 51) C0 (by decide) dX12_boughtBy_77 (fun v_27 e_28 => ?_)
    refine lv_iload_n C0.1 C0.2.1 dX12_boughtBy_79 rfl (lv_at hl 2 rfl) ?_
    refine y_add C0 (o35_241 l1 u1 e_15 e_17 e_28 (le_min v_27) (le_max v_27) (le_min a1) (le_max a1) (le_min v_14) (le_max v_14) (le_min v_16) (le_max v_16)) (o35_242 l1 u1 e_15 e_17 e_28 (le_min v_27) (le_max v_27) (le_min a1) (le_max a1) (le_min v_14) (le_max v_14) (le_min v_16) (le_max v_16)) dX12_boughtBy_80 (fun v_29 e_30 => ?_)
    refine y_iald C0 h kSM_1 rfl (by decide) (o35_243 l1 u1 e_15 e_17 e_28 e_30) (o35_244 l1 u1 e_15 e_17 e_28 e_30) dX12_boughtBy_81 (fun v_31 e_32 e_33 e_34 => ?_)
    have qh_35 : v_31.toInt = v_18.toInt := congrArg Int32.toInt (e_32.symm.trans (Eq.trans (congrArg (aI ws_5 1) (o35_245 l1 u1 e_15 e_17 e_28 e_30)) (Eq.trans rfl e_19)))
    refine y_i2l C0 dX12_boughtBy_82 (fun w_36 e_37 => ?_)
    refine y_lcmp C0 dX12_boughtBy_83 (fun v_38 e_39 => ?_)
    replace HE : FT = g6b_X12_boughtBy (xso SM ad ws_5) v_38.toInt := HE.trans (by rw [(ix_cmp e_39), e_37, (xg1 e_32 : v_31.toInt = (xso SM ad ws_5) 1 1 v_29.toInt.toNat), e_30, e_28]; rfl)
    refine y_if_le (tgt := 91) C0 dX12_boughtBy_84 (by decide) (fun c_40 => ?_) (fun c_40 => ?_)
    · -- 84
      replace HE : FT = g7_X12_boughtBy (xso SM ad ws_5) := HE.trans (if_neg (Int.not_lt.mpr c_40))
      refine y_c1 (n := 0) C0 (by decide) dX12_boughtBy_91 (fun v_41 e_42 => ?_)
      refine lv_istore (lv' := [(5, .int v_41), (3, .long r_8), (0, .ref (ad 0)), (1, .int a1), (2, .int a2)]) C0.1 C0.2.1 dX12_boughtBy_92 hl (by decide) rfl (fun ls hl => ?_)
      refine lv_aload_n C0.1 C0.2.1 dX12_boughtBy_94 rfl (lv_at hl 2 rfl) ?_
      refine y_cv h (y_rV (As := []) (rest := []) C0 hZ h (c_X12_isAgain l G Z ad _ h.2) k_X12_isAgain q_1804 q_93 q_1802 kSM_0 rfl rfl rfl hl.1 rfl rfl (Nat.le_of_ble_eq_true rfl) dX12_boughtBy_95 ⟨Nat.le_of_ble_eq_true rfl, Nat.le_of_ble_eq_true rfl⟩ ⟨Nat.le_of_ble_eq_true rfl, Nat.le_of_ble_eq_true rfl⟩) (fun H locs ws_43 h u_44 p_45 => ?_)
      obtain ⟨e_46, e_47, e_48⟩ := p_45
      replace HE : FT = g9c_X12_boughtBy (xso SM ad ws_43) := HE.trans (by rw [e_46]; rfl)
      refine lv_iload C0.1 C0.2.1 dX12_boughtBy_98 (lv_at hl 0 rfl) ?_
      refine y_if_eq (tgt := 108) C0 dX12_boughtBy_100 (by decide) (fun c_49 => ?_) (fun c_49 => ((o35_158 e_42 c_49)).elim)
      refine y_c2 (n := (-4)) C0 (by decide) dX12_boughtBy_108 (fun v_50 e_51 => ?_)
      replace HE : FT = ((xso SM ad ws_43), v_50.toInt) := HE.trans (by rw [e_51]; rfl)
      rw [hQ]
      exact y_iret C0 h (Fr.tr (Fr.tr (Fr.mono u_2 (by decide)) (Fr.mono u_6 (by decide))) (Fr.mono u_44 (by decide))) ⟨(congrArg Prod.fst (HE.symm.trans hFT)), (congrArg Prod.snd (HE.symm.trans hFT)), (Or.inl (o35_246 e_51)), (Pa.tr (Pa.tr (Pa.fr u_2 (by decide)) e_12) e_47), (Pw.tr (Pw.tr (Pw.fr u_2 (by decide)) e_13) e_48)⟩ dX12_boughtBy_110
    · -- 84
      replace HE : FT = g8_X12_boughtBy (xso SM ad ws_5) := HE.trans (if_pos c_40)
      refine y_c1 (n := 1) C0 (by decide) dX12_boughtBy_87 (fun v_52 e_53 => ?_)
      refine lv_goto (tgt := 92) C0.1 C0.2.1 dX12_boughtBy_88 (by decide) ?_
      refine lv_istore (lv' := [(5, .int v_52), (3, .long r_8), (0, .ref (ad 0)), (1, .int a1), (2, .int a2)]) C0.1 C0.2.1 dX12_boughtBy_92 hl (by decide) rfl (fun ls hl => ?_)
      refine lv_aload_n C0.1 C0.2.1 dX12_boughtBy_94 rfl (lv_at hl 2 rfl) ?_
      refine y_cv h (y_rV (As := []) (rest := []) C0 hZ h (c_X12_isAgain l G Z ad _ h.2) k_X12_isAgain q_1804 q_93 q_1802 kSM_0 rfl rfl rfl hl.1 rfl rfl (Nat.le_of_ble_eq_true rfl) dX12_boughtBy_95 ⟨Nat.le_of_ble_eq_true rfl, Nat.le_of_ble_eq_true rfl⟩ ⟨Nat.le_of_ble_eq_true rfl, Nat.le_of_ble_eq_true rfl⟩) (fun H locs ws_54 h u_55 p_56 => ?_)
      obtain ⟨e_57, e_58, e_59⟩ := p_56
      replace HE : FT = g10c_X12_boughtBy (xso SM ad ws_54) := HE.trans (by rw [e_57]; rfl)
      refine lv_iload C0.1 C0.2.1 dX12_boughtBy_98 (lv_at hl 0 rfl) ?_
      refine y_if_eq (tgt := 108) C0 dX12_boughtBy_100 (by decide) (fun c_60 => ((o35_170 e_53 c_60)).elim) (fun c_60 => ?_)
      refine y_c2 (n := (-5)) C0 (by decide) dX12_boughtBy_103 (fun v_61 e_62 => ?_)
      refine lv_goto (tgt := 110) C0.1 C0.2.1 dX12_boughtBy_105 (by decide) ?_
      replace HE : FT = ((xso SM ad ws_54), v_61.toInt) := HE.trans (by rw [e_62]; rfl)
      rw [hQ]
      exact y_iret C0 h (Fr.tr (Fr.tr (Fr.mono u_2 (by decide)) (Fr.mono u_6 (by decide))) (Fr.mono u_55 (by decide))) ⟨(congrArg Prod.fst (HE.symm.trans hFT)), (congrArg Prod.snd (HE.symm.trans hFT)), (Or.inl (o35_247 e_62)), (Pa.tr (Pa.tr (Pa.fr u_2 (by decide)) e_12) e_58), (Pw.tr (Pw.tr (Pw.fr u_2 (by decide)) e_13) e_59)⟩ dX12_boughtBy_110
  · -- 23
    replace HE : FT = g5_X12_boughtBy (xso SM ad ws_5) a1.toInt a2.toInt r_8.toInt := HE.trans (if_neg (Int.not_lt.mpr c_26))
    refine lv_aload_n C0.1 C0.2.1 dX12_boughtBy_26 rfl (lv_at hl 1 rfl) ?_
    refine ng_X12_all C0 h kSM_0 q_1439 dX12_boughtBy_27 ?_
    refine y_c2 (n := 46) C0 (by decide) dX12_boughtBy_30 (fun v_63 e_64 => ?_)
    refine lv_iload_n C0.1 C0.2.1 dX12_boughtBy_32 rfl (lv_at hl 2 rfl) ?_
    refine y_add C0 (o35_248 l1 u1 e_15 e_17 e_64 (le_min v_63) (le_max v_63) (le_min a1) (le_max a1) (le_min v_14) (le_max v_14) (le_min v_16) (le_max v_16)) (o35_249 l1 u1 e_15 e_17 e_64 (le_min v_63) (le_max v_63) (le_min a1) (le_max a1) (le_min v_14) (le_max v_14) (le_min v_16) (le_max v_16)) dX12_boughtBy_33 (fun v_65 e_66 => ?_)
    refine y_iald C0 h kSM_1 rfl (by decide) (o35_250 l1 u1 e_15 e_17 e_64 e_66) (o35_251 l1 u1 e_15 e_17 e_64 e_66) dX12_boughtBy_34 (fun v_67 e_68 e_69 e_70 => ?_)
    have f_71 := o35_36 v_65.toInt.toNat (o35_252 l1 u1 e_15 e_17 e_64 e_66) (o35_253 l1 u1 e_15 e_17 e_64 e_66)
    refine lv_iload_n C0.1 C0.2.1 dX12_boughtBy_35 rfl (lv_at hl 3 rfl) ?_
    refine y_add C0 (o35_254 l2 u2 (Int.le_trans f_71.1 e_69) (Int.le_trans e_70 f_71.2) (le_min v_67) (le_max v_67) (le_min a2) (le_max a2)) (o35_255 l2 u2 (Int.le_trans f_71.1 e_69) (Int.le_trans e_70 f_71.2) (le_min v_67) (le_max v_67) (le_min a2) (le_max a2)) dX12_boughtBy_36 (fun v_72 e_73 => ?_)
    refine y_c2 (n := 99) C0 (by decide) dX12_boughtBy_37 (fun v_74 e_75 => ?_)
    replace HE : FT = g11b_X12_boughtBy (xso SM ad ws_5) v_72.toInt a1.toInt a2.toInt r_8.toInt := HE.trans (by rw [e_73, (xg1 e_68 : v_67.toInt = (xso SM ad ws_5) 1 1 v_65.toInt.toNat), e_66, e_64]; rfl)
    refine y_icmp_gt (tgt := 72) C0 dX12_boughtBy_39 (by decide) (fun c_76 => ?_) (fun c_76 => ?_)
    · -- 39
      replace HE : FT = g12_X12_boughtBy (xso SM ad ws_5) a1.toInt r_8.toInt := HE.trans (if_pos (o35_257 l2 u2 (Int.le_trans f_71.1 e_69) (Int.le_trans e_70 f_71.2) e_73 e_75 c_76))
      refine lv_lload_n C0.1 C0.2.1 dX12_boughtBy_72 rfl (lv_at hl 0 rfl) ?_
      refine lv_aload_n C0.1 C0.2.1 dX12_boughtBy_73 rfl (lv_at hl 1 rfl) ?_
      refine ng_X12_all C0 h kSM_0 q_1439 dX12_boughtBy_74 ?_
      refine y_c2 (n := 51) C0 (by decide) dX12_boughtBy_77 (fun v_77 e_78 => ?_)
      refine lv_iload_n C0.1 C0.2.1 dX12_boughtBy_79 rfl (lv_at hl 2 rfl) ?_
      refine y_add C0 (o35_259 l1 u1 e_15 e_17 e_64 e_66 e_78 (le_min v_77) (le_max v_77) (le_min a1) (le_max a1) (le_min v_14) (le_max v_14) (le_min v_16) (le_max v_16) (le_min v_63) (le_max v_63) (le_min v_65) (le_max v_65)) (o35_260 l1 u1 e_15 e_17 e_64 e_66 e_78 (le_min v_77) (le_max v_77) (le_min a1) (le_max a1) (le_min v_14) (le_max v_14) (le_min v_16) (le_max v_16) (le_min v_63) (le_max v_63) (le_min v_65) (le_max v_65)) dX12_boughtBy_80 (fun v_79 e_80 => ?_)
      refine y_iald C0 h kSM_1 rfl (by decide) (o35_261 l1 u1 e_15 e_17 e_64 e_66 e_78 e_80) (o35_262 l1 u1 e_15 e_17 e_64 e_66 e_78 e_80) dX12_boughtBy_81 (fun v_81 e_82 e_83 e_84 => ?_)
      have qh_85 : v_81.toInt = v_18.toInt := congrArg Int32.toInt (e_82.symm.trans (Eq.trans (congrArg (aI ws_5 1) (o35_263 l1 u1 e_15 e_17 e_64 e_66 e_78 e_80)) (Eq.trans rfl e_19)))
      refine y_i2l C0 dX12_boughtBy_82 (fun w_86 e_87 => ?_)
      refine y_lcmp C0 dX12_boughtBy_83 (fun v_88 e_89 => ?_)
      replace HE : FT = g14b_X12_boughtBy (xso SM ad ws_5) v_88.toInt := HE.trans (by rw [(ix_cmp e_89), e_87, (xg1 e_82 : v_81.toInt = (xso SM ad ws_5) 1 1 v_79.toInt.toNat), e_80, e_78]; rfl)
      refine y_if_le (tgt := 91) C0 dX12_boughtBy_84 (by decide) (fun c_90 => ?_) (fun c_90 => ?_)
      · -- 84
        replace HE : FT = g15_X12_boughtBy (xso SM ad ws_5) := HE.trans (if_neg (Int.not_lt.mpr c_90))
        refine y_c1 (n := 0) C0 (by decide) dX12_boughtBy_91 (fun v_91 e_92 => ?_)
        refine lv_istore (lv' := [(5, .int v_91), (3, .long r_8), (0, .ref (ad 0)), (1, .int a1), (2, .int a2)]) C0.1 C0.2.1 dX12_boughtBy_92 hl (by decide) rfl (fun ls hl => ?_)
        refine lv_aload_n C0.1 C0.2.1 dX12_boughtBy_94 rfl (lv_at hl 2 rfl) ?_
        refine y_cv h (y_rV (As := []) (rest := []) C0 hZ h (c_X12_isAgain l G Z ad _ h.2) k_X12_isAgain q_1804 q_93 q_1802 kSM_0 rfl rfl rfl hl.1 rfl rfl (Nat.le_of_ble_eq_true rfl) dX12_boughtBy_95 ⟨Nat.le_of_ble_eq_true rfl, Nat.le_of_ble_eq_true rfl⟩ ⟨Nat.le_of_ble_eq_true rfl, Nat.le_of_ble_eq_true rfl⟩) (fun H locs ws_93 h u_94 p_95 => ?_)
        obtain ⟨e_96, e_97, e_98⟩ := p_95
        replace HE : FT = g17c_X12_boughtBy (xso SM ad ws_93) := HE.trans (by rw [e_96]; rfl)
        refine lv_iload C0.1 C0.2.1 dX12_boughtBy_98 (lv_at hl 0 rfl) ?_
        refine y_if_eq (tgt := 108) C0 dX12_boughtBy_100 (by decide) (fun c_99 => ?_) (fun c_99 => ((o35_158 e_92 c_99)).elim)
        refine y_c2 (n := (-4)) C0 (by decide) dX12_boughtBy_108 (fun v_100 e_101 => ?_)
        replace HE : FT = ((xso SM ad ws_93), v_100.toInt) := HE.trans (by rw [e_101]; rfl)
        rw [hQ]
        exact y_iret C0 h (Fr.tr (Fr.tr (Fr.mono u_2 (by decide)) (Fr.mono u_6 (by decide))) (Fr.mono u_94 (by decide))) ⟨(congrArg Prod.fst (HE.symm.trans hFT)), (congrArg Prod.snd (HE.symm.trans hFT)), (Or.inl (o35_246 e_101)), (Pa.tr (Pa.tr (Pa.fr u_2 (by decide)) e_12) e_97), (Pw.tr (Pw.tr (Pw.fr u_2 (by decide)) e_13) e_98)⟩ dX12_boughtBy_110
      · -- 84
        replace HE : FT = g16_X12_boughtBy (xso SM ad ws_5) := HE.trans (if_pos c_90)
        refine y_c1 (n := 1) C0 (by decide) dX12_boughtBy_87 (fun v_102 e_103 => ?_)
        refine lv_goto (tgt := 92) C0.1 C0.2.1 dX12_boughtBy_88 (by decide) ?_
        refine lv_istore (lv' := [(5, .int v_102), (3, .long r_8), (0, .ref (ad 0)), (1, .int a1), (2, .int a2)]) C0.1 C0.2.1 dX12_boughtBy_92 hl (by decide) rfl (fun ls hl => ?_)
        refine lv_aload_n C0.1 C0.2.1 dX12_boughtBy_94 rfl (lv_at hl 2 rfl) ?_
        refine y_cv h (y_rV (As := []) (rest := []) C0 hZ h (c_X12_isAgain l G Z ad _ h.2) k_X12_isAgain q_1804 q_93 q_1802 kSM_0 rfl rfl rfl hl.1 rfl rfl (Nat.le_of_ble_eq_true rfl) dX12_boughtBy_95 ⟨Nat.le_of_ble_eq_true rfl, Nat.le_of_ble_eq_true rfl⟩ ⟨Nat.le_of_ble_eq_true rfl, Nat.le_of_ble_eq_true rfl⟩) (fun H locs ws_104 h u_105 p_106 => ?_)
        obtain ⟨e_107, e_108, e_109⟩ := p_106
        replace HE : FT = g18c_X12_boughtBy (xso SM ad ws_104) := HE.trans (by rw [e_107]; rfl)
        refine lv_iload C0.1 C0.2.1 dX12_boughtBy_98 (lv_at hl 0 rfl) ?_
        refine y_if_eq (tgt := 108) C0 dX12_boughtBy_100 (by decide) (fun c_110 => ((o35_170 e_103 c_110)).elim) (fun c_110 => ?_)
        refine y_c2 (n := (-5)) C0 (by decide) dX12_boughtBy_103 (fun v_111 e_112 => ?_)
        refine lv_goto (tgt := 110) C0.1 C0.2.1 dX12_boughtBy_105 (by decide) ?_
        replace HE : FT = ((xso SM ad ws_104), v_111.toInt) := HE.trans (by rw [e_112]; rfl)
        rw [hQ]
        exact y_iret C0 h (Fr.tr (Fr.tr (Fr.mono u_2 (by decide)) (Fr.mono u_6 (by decide))) (Fr.mono u_105 (by decide))) ⟨(congrArg Prod.fst (HE.symm.trans hFT)), (congrArg Prod.snd (HE.symm.trans hFT)), (Or.inl (o35_247 e_112)), (Pa.tr (Pa.tr (Pa.fr u_2 (by decide)) e_12) e_108), (Pw.tr (Pw.tr (Pw.fr u_2 (by decide)) e_13) e_109)⟩ dX12_boughtBy_110
    · -- 39
      replace HE : FT = g13_X12_boughtBy (xso SM ad ws_5) a1.toInt a2.toInt r_8.toInt := HE.trans (if_neg (o35_258 l2 u2 (Int.le_trans f_71.1 e_69) (Int.le_trans e_70 f_71.2) e_73 e_75 c_76))
      refine lv_aload_n C0.1 C0.2.1 dX12_boughtBy_42 rfl (lv_at hl 1 rfl) ?_
      refine ng_X12_all C0 h kSM_0 q_1439 dX12_boughtBy_43 ?_
      refine y_c2 (n := 51) C0 (by decide) dX12_boughtBy_46 (fun v_113 e_114 => ?_)
      refine lv_iload_n C0.1 C0.2.1 dX12_boughtBy_48 rfl (lv_at hl 2 rfl) ?_
      refine y_add C0 (o35_259 l1 u1 e_15 e_17 e_64 e_66 e_114 (le_min v_113) (le_max v_113) (le_min a1) (le_max a1) (le_min v_14) (le_max v_14) (le_min v_16) (le_max v_16) (le_min v_63) (le_max v_63) (le_min v_65) (le_max v_65)) (o35_260 l1 u1 e_15 e_17 e_64 e_66 e_114 (le_min v_113) (le_max v_113) (le_min a1) (le_max a1) (le_min v_14) (le_max v_14) (le_min v_16) (le_max v_16) (le_min v_63) (le_max v_63) (le_min v_65) (le_max v_65)) dX12_boughtBy_49 (fun v_115 e_116 => ?_)
      refine lv_dup2_11 C0.1 C0.2.1 dX12_boughtBy_50 rfl rfl ?_
      refine y_iald C0 h kSM_1 rfl (by decide) (o35_261 l1 u1 e_15 e_17 e_64 e_66 e_114 e_116) (o35_262 l1 u1 e_15 e_17 e_64 e_66 e_114 e_116) dX12_boughtBy_51 (fun v_117 e_118 e_119 e_120 => ?_)
      have qh_121 : v_117.toInt = v_18.toInt := congrArg Int32.toInt (e_118.symm.trans (Eq.trans (congrArg (aI ws_5 1) (o35_263 l1 u1 e_15 e_17 e_64 e_66 e_114 e_116)) (Eq.trans rfl e_19)))
      refine lv_lload_n C0.1 C0.2.1 dX12_boughtBy_52 rfl (lv_at hl 0 rfl) ?_
      refine xr_l2i C0 dX12_boughtBy_53 (fun v_122 e_123 => ?_)
      refine xr_isub C0 dX12_boughtBy_54 (fun v_124 e_125 => ?_)
      have hO_128 := h.2
      have f_129 := o35_264 v_115.toInt.toNat (o35_265 l1 u1 e_15 e_17 e_64 e_66 e_114 e_116) (o35_266 l1 u1 e_15 e_17 e_64 e_66 e_114 e_116)
      refine y_iast C0 h kSM_1 rfl (by decide) (o35_261 l1 u1 e_15 e_17 e_64 e_66 e_114 e_116) (o35_262 l1 u1 e_15 e_17 e_64 e_66 e_114 e_116) (Int.le_trans f_129.1 (le_min v_124)) (Int.le_trans (le_max v_124) f_129.2) dX12_boughtBy_55 (fun H locs ws_126 h u_127 => ?_)
      replace HE : FT = g19w_X12_boughtBy (xso SM ad ws_126) a1.toInt a2.toInt r_8.toInt := HE.trans (by rw [(xso_A (i := 1) hO_128 h.2 kSM_1 rfl u_127), e_125, e_123, (xg1 e_118 : v_117.toInt = (xso SM ad ws_5) 1 1 v_115.toInt.toNat), e_116, e_114]; rfl)
      refine lv_aload_n C0.1 C0.2.1 dX12_boughtBy_56 rfl (lv_at hl 1 rfl) ?_
      refine ng_X12_all C0 h kSM_0 q_1439 dX12_boughtBy_57 ?_
      refine y_c2 (n := 46) C0 (by decide) dX12_boughtBy_60 (fun v_130 e_131 => ?_)
      refine lv_iload_n C0.1 C0.2.1 dX12_boughtBy_62 rfl (lv_at hl 2 rfl) ?_
      refine y_add C0 (o35_270 l1 u1 e_15 e_17 e_64 e_66 e_114 e_116 e_131 (le_min v_130) (le_max v_130) (le_min a1) (le_max a1) (le_min v_14) (le_max v_14) (le_min v_16) (le_max v_16) (le_min v_63) (le_max v_63) (le_min v_65) (le_max v_65) (le_min v_113) (le_max v_113) (le_min v_115) (le_max v_115)) (o35_271 l1 u1 e_15 e_17 e_64 e_66 e_114 e_116 e_131 (le_min v_130) (le_max v_130) (le_min a1) (le_max a1) (le_min v_14) (le_max v_14) (le_min v_16) (le_max v_16) (le_min v_63) (le_max v_63) (le_min v_65) (le_max v_65) (le_min v_113) (le_max v_113) (le_min v_115) (le_max v_115)) dX12_boughtBy_63 (fun v_132 e_133 => ?_)
      refine lv_dup2_11 C0.1 C0.2.1 dX12_boughtBy_64 rfl rfl ?_
      refine y_iald C0 h kSM_1 rfl (by decide) (o35_272 l1 u1 e_15 e_17 e_64 e_66 e_114 e_116 e_131 e_133) (o35_273 l1 u1 e_15 e_17 e_64 e_66 e_114 e_116 e_131 e_133) dX12_boughtBy_65 (fun v_134 e_135 e_136 e_137 => ?_)
      have f_138 := o35_36 v_132.toInt.toNat (o35_274 l1 u1 e_15 e_17 e_64 e_66 e_114 e_116 e_131 e_133) (o35_275 l1 u1 e_15 e_17 e_64 e_66 e_114 e_116 e_131 e_133)
      have qh_139 : v_134.toInt = v_67.toInt := congrArg Int32.toInt (e_135.symm.trans (Eq.trans (congrArg (aI ws_126 1) (o35_277 l1 u1 e_15 e_17 e_64 e_66 e_114 e_116 e_131 e_133)) (Eq.trans (u_127.2.2 v_65.toInt.toNat (o35_276 l1 u1 e_15 e_17 e_64 e_66 e_114 e_116 e_131 e_133)) e_68)))
      refine lv_iload_n C0.1 C0.2.1 dX12_boughtBy_66 rfl (lv_at hl 3 rfl) ?_
      refine y_add C0 (o35_278 l2 u2 (Int.le_trans f_71.1 e_69) (Int.le_trans e_70 f_71.2) e_73 e_75 c_76 (Int.le_trans f_138.1 e_136) (Int.le_trans e_137 f_138.2) qh_139 (le_min v_134) (le_max v_134) (le_min a2) (le_max a2) (le_min v_67) (le_max v_67) (le_min v_72) (le_max v_72) (le_min v_74) (le_max v_74)) (o35_279 l2 u2 (Int.le_trans f_71.1 e_69) (Int.le_trans e_70 f_71.2) e_73 e_75 c_76 (Int.le_trans f_138.1 e_136) (Int.le_trans e_137 f_138.2) qh_139 (le_min v_134) (le_max v_134) (le_min a2) (le_max a2) (le_min v_67) (le_max v_67) (le_min v_72) (le_max v_72) (le_min v_74) (le_max v_74)) dX12_boughtBy_67 (fun v_140 e_141 => ?_)
      have hO_144 := h.2
      have f_145 := o35_280 v_132.toInt.toNat (o35_274 l1 u1 e_15 e_17 e_64 e_66 e_114 e_116 e_131 e_133) (o35_275 l1 u1 e_15 e_17 e_64 e_66 e_114 e_116 e_131 e_133)
      refine y_iast C0 h kSM_1 rfl (by decide) (o35_272 l1 u1 e_15 e_17 e_64 e_66 e_114 e_116 e_131 e_133) (o35_273 l1 u1 e_15 e_17 e_64 e_66 e_114 e_116 e_131 e_133) (Int.le_trans f_145.1 (o35_281 l2 u2 (Int.le_trans f_71.1 e_69) (Int.le_trans e_70 f_71.2) e_73 e_75 c_76 (Int.le_trans f_138.1 e_136) (Int.le_trans e_137 f_138.2) qh_139 e_141)) (Int.le_trans (o35_282 l2 u2 (Int.le_trans f_71.1 e_69) (Int.le_trans e_70 f_71.2) e_73 e_75 c_76 (Int.le_trans f_138.1 e_136) (Int.le_trans e_137 f_138.2) qh_139 e_141) f_145.2) dX12_boughtBy_68 (fun H locs ws_142 h u_143 => ?_)
      replace HE : FT = g20w_X12_boughtBy (xso SM ad ws_142) r_8.toInt := HE.trans (by rw [(xso_A (i := 1) hO_144 h.2 kSM_1 rfl u_143), e_141, (xg1 e_135 : v_134.toInt = (xso SM ad ws_126) 1 1 v_132.toInt.toNat), e_133, e_131]; rfl)
      refine lv_lload_n C0.1 C0.2.1 dX12_boughtBy_69 rfl (lv_at hl 0 rfl) ?_
      refine xr_l2i C0 dX12_boughtBy_70 (fun v_146 e_147 => ?_)
      replace HE : FT = ((xso SM ad ws_142), v_146.toInt) := HE.trans (by rw [e_147]; rfl)
      rw [hQ]
      exact y_iret C0 h (Fr.tr (Fr.tr (Fr.tr (Fr.mono u_2 (by decide)) (Fr.mono u_6 (by decide))) (Fr.up u_127.1 kSM_1 (by decide))) (Fr.up u_143.1 kSM_1 (by decide))) ⟨(congrArg Prod.fst (HE.symm.trans hFT)), (congrArg Prod.snd (HE.symm.trans hFT)), (Or.inr (bb_lf (o35_287 l1 u1 e_15 e_17 e_64 e_66 e_114 e_116 e_131 e_133) (o35_288 l1 u1 e_15 e_17 e_64 e_66 e_114 e_116 e_131 e_133) u_143 (Eq.trans (Eq.symm (Eq.trans (e_11 v_65.toInt.toNat (o35_286 l1 u1 e_15 e_17 e_64 e_66 e_114 e_116 e_131 e_133)) (Fr.aI u_2 kSM_1 (by decide)))) e_68) (o35_289 l2 u2 (Int.le_trans f_71.1 e_69) (Int.le_trans e_70 f_71.2) e_73 e_75 c_76 (Int.le_trans f_138.1 e_136) (Int.le_trans e_137 f_138.2) qh_139 e_141) rfl)), (Pa.tr (Pa.tr (Pa.tr (Pa.fr u_2 (by decide)) e_12) (Pa.st u_127 (o35_268 l1 u1 e_15 e_17 e_64 e_66 e_114 e_116) (o35_269 l1 u1 e_15 e_17 e_64 e_66 e_114 e_116))) (Pa.st u_143 (o35_284 l1 u1 e_15 e_17 e_64 e_66 e_114 e_116 e_131 e_133) (o35_285 l1 u1 e_15 e_17 e_64 e_66 e_114 e_116 e_131 e_133))), (Pw.tr (Pw.tr (Pw.tr (Pw.fr u_2 (by decide)) e_13) (Pw.st u_127 (o35_267 l1 u1 e_15 e_17 e_64 e_66 e_114 e_116))) (Pw.st u_143 (o35_283 l1 u1 e_15 e_17 e_64 e_66 e_114 e_116 e_131 e_133)))⟩ dX12_boughtBy_71
noncomputable def g12_X12_buy (s : XS) (r_37 : Int) : XR := (s, r_37)
noncomputable def g14c_X12_buy (s : XS) (r_37 : Int) : XR := (s, r_37)
noncomputable def g13_X12_buy (s : XS) (r_37 : Int) : XR := g14c_X12_buy ((f_X12_notes s).1) r_37
noncomputable def g11b_X12_buy (s : XS) (r_37 : Int) : XR := if r_37 < 0 then g12_X12_buy s r_37 else g13_X12_buy s r_37
noncomputable def g10c_X12_buy (s : XS) (r_37 : Int) : XR := g11b_X12_buy s r_37
noncomputable def g8_X12_buy (s : XS) (a1 : Int) (a2 : Int) : XR := g10c_X12_buy ((f_X12_boughtBy s a1 a2).1) (((f_X12_boughtBy s a1 a2).2))
noncomputable def g9_X12_buy (s : XS) : XR := (s, ((-3)))
noncomputable def g7b_X12_buy (s : XS) (r_27 : Int) (a1 : Int) (a2 : Int) : XR := if r_27 = 0 then g9_X12_buy s else g8_X12_buy s a1 a2
noncomputable def g6c_X12_buy (s : XS) (r_27 : Int) (a1 : Int) (a2 : Int) : XR := g7b_X12_buy s r_27 a1 a2
noncomputable def g4_X12_buy (s : XS) (a1 : Int) (a2 : Int) : XR := g6c_X12_buy ((f_X12_within s a2 1 20).1) (((f_X12_within s a2 1 20).2)) a1 a2
noncomputable def g5_X12_buy (s : XS) : XR := (s, ((-2)))
noncomputable def g3b_X12_buy (s : XS) (r_10 : Int) (a1 : Int) (a2 : Int) : XR := if r_10 = 0 then g5_X12_buy s else g4_X12_buy s a1 a2
noncomputable def g2c_X12_buy (s : XS) (r_10 : Int) (a1 : Int) (a2 : Int) : XR := g3b_X12_buy s r_10 a1 a2
noncomputable def g1w_X12_buy (s : XS) (a1 : Int) (a2 : Int) : XR := g2c_X12_buy ((f_X12_isPerson s a1).1) (((f_X12_isPerson s a1).2)) a1 a2
noncomputable def f_X12_buy (s : XS) (a1 : Int) (a2 : Int) : XR := g1w_X12_buy (xup s 0 0 0 0) a1 a2
set_option maxHeartbeats 4000000 in
set_option maxRecDepth 100000 in
theorem c_X12_buy (l : Launch) (G : GG) (Z : RZ) (ad : Nat → Nat) (ws0 : va_W) (hT : Ty G SM ad ws0) (a1 : Int32) (a2 : Int32) (hJ : J ws0) : Mq l yX12_buy cX12_buy 4 (some .int) 6 G Z [.ref (ad 0), .int a1, .int a2] ws0 (PI G SM ad [0, 1, 5, 6] ws0 (fun r u => (xso SM ad u = (f_X12_buy (xso SM ad ws0) a1.toInt a2.toInt).1) ∧ (r.toInt = (f_X12_buy (xso SM ad ws0) a1.toInt a2.toInt).2) ∧ (Pa ws0 u) ∧ (Pw ws0 u))) := by
  refine Mq.start (by decide) (Nat.le_of_ble_eq_true rfl) ?_
  intro p e s m below meth c A ls C0 hZ h hl
  have hl : lv_has ls 4 [(0, .ref (ad 0)), (1, .int a1), (2, .int a2)] := hl
  have h : Wt G SM ad A s s.heap [] ws0 := ⟨h, hT⟩
  obtain ⟨args, hargs⟩ : ∃ z, z = ([.ref (ad 0), .int a1, .int a2] : List Value).toArray := ⟨_, rfl⟩
  rw [← hargs] at C0 ⊢
  have C0 : Cx p s m args meth c RX12 cX12_buy 4 (some .int) := C0
  obtain ⟨Q, hQ⟩ : ∃ z, z = MQ below ((PI G SM ad [0, 1, 5, 6] ws0 (fun r u => (xso SM ad u = (f_X12_buy (xso SM ad ws0) a1.toInt a2.toInt).1) ∧ (r.toInt = (f_X12_buy (xso SM ad ws0) a1.toInt a2.toInt).2) ∧ (Pa ws0 u) ∧ (Pw ws0 u))) A) args s 0 0 A := ⟨_, rfl⟩
  rw [← hQ]
  obtain ⟨FT, hFT⟩ : ∃ z, z = f_X12_buy (xso SM ad ws0) a1.toInt a2.toInt := ⟨_, rfl⟩
  have HE : FT = f_X12_buy (xso SM ad ws0) a1.toInt a2.toInt := hFT
  refine lv_aload_n C0.1 C0.2.1 dX12_buy_0 rfl (lv_at hl 0 rfl) ?_
  refine y_c1 (n := 0) C0 (by decide) dX12_buy_1 (fun v_1 e_2 => ?_)
  refine np_X12_thrown C0 h kSM_0 q_1438 (le_min v_1) (le_max v_1) dX12_buy_2 (fun H locs ws_3 h u_4 Xu_4 => ?_)
  replace HE : FT = g1w_X12_buy (xso SM ad ws_3) a1.toInt a2.toInt := HE.trans (by rw [Xu_4, e_2]; rfl)
  refine lv_aload_n C0.1 C0.2.1 dX12_buy_5 rfl (lv_at hl 0 rfl) ?_
  refine lv_iload_n C0.1 C0.2.1 dX12_buy_6 rfl (lv_at hl 1 rfl) ?_
  refine y_i2l C0 dX12_buy_7 (fun w_5 e_6 => ?_)
  refine y_ci h (y_rV (As := [.long w_5]) (rest := []) C0 hZ h (c_X12_isPerson l G Z ad _ h.2 w_5 (J.pa hT hJ (Pa.ud u_4.1 (by decide)))) k_X12_isPerson q_1693 q_77 q_1691 kSM_0 rfl rfl rfl hl.1 rfl rfl (Nat.le_of_ble_eq_true rfl) dX12_buy_8 ⟨Nat.le_of_ble_eq_true rfl, Nat.le_of_ble_eq_true rfl⟩ ⟨Nat.le_of_ble_eq_true rfl, Nat.le_of_ble_eq_true rfl⟩) (fun r_10 H locs ws_7 h u_8 p_9 => ?_)
  obtain ⟨e_11, e_12, e_13, e_14, e_15, e_16⟩ := p_9
  replace HE : FT = g2c_X12_buy (xso SM ad ws_7) r_10.toInt a1.toInt a2.toInt := HE.trans (by rw [e_11, e_12, e_6]; rfl)
  replace HE : FT = g3b_X12_buy (xso SM ad ws_7) r_10.toInt a1.toInt a2.toInt := HE.trans rfl
  refine y_if_ne (tgt := 17) C0 dX12_buy_11 (by decide) (fun c_17 => ?_) (fun c_17 => ?_)
  · -- 11
    replace HE : FT = g4_X12_buy (xso SM ad ws_7) a1.toInt a2.toInt := HE.trans (if_neg c_17)
    refine lv_iload_n C0.1 C0.2.1 dX12_buy_17 rfl (lv_at hl 2 rfl) ?_
    refine y_i2l C0 dX12_buy_18 (fun w_18 e_19 => ?_)
    refine y_lc (v := 1) C0 (by decide) dX12_buy_19 (fun w_20 e_21 => ?_)
    refine y_lc2 (n := 20) C0 q_1666 (by decide) dX12_buy_20 (fun w_22 e_23 => ?_)
    refine y_ci h (y_rS (As := [.long w_18, .long w_20, .long w_22]) (rest := []) C0 hZ h (c_X12_within l G Z ad _ h.2 w_18 w_20 w_22) k_X12_within q_1580 q_1579 hl.1 rfl rfl (Nat.le_of_ble_eq_true rfl) dX12_buy_23 ⟨Nat.le_of_ble_eq_true rfl, Nat.le_of_ble_eq_true rfl⟩ ⟨Nat.le_of_ble_eq_true rfl, Nat.le_of_ble_eq_true rfl⟩) (fun r_27 H locs ws_24 h u_25 p_26 => ?_)
    obtain ⟨e_28, e_29, e_30, e_31, e_32⟩ := p_26
    replace HE : FT = g6c_X12_buy (xso SM ad ws_24) r_27.toInt a1.toInt a2.toInt := HE.trans (by rw [e_28, e_29, e_23, e_21, e_19]; rfl)
    replace HE : FT = g7b_X12_buy (xso SM ad ws_24) r_27.toInt a1.toInt a2.toInt := HE.trans rfl
    refine y_if_ne (tgt := 32) C0 dX12_buy_26 (by decide) (fun c_33 => ?_) (fun c_33 => ?_)
    · -- 26
      replace HE : FT = g8_X12_buy (xso SM ad ws_24) a1.toInt a2.toInt := HE.trans (if_neg c_33)
      refine lv_aload_n C0.1 C0.2.1 dX12_buy_32 rfl (lv_at hl 0 rfl) ?_
      refine lv_iload_n C0.1 C0.2.1 dX12_buy_33 rfl (lv_at hl 1 rfl) ?_
      refine lv_iload_n C0.1 C0.2.1 dX12_buy_34 rfl (lv_at hl 2 rfl) ?_
      refine y_ci h (y_rV (As := [.int a1, .int a2]) (rest := []) C0 hZ h (c_X12_boughtBy l G Z ad _ h.2 a1 a2 (o35_290 e_6 e_13 e_14 e_15 c_17) (o35_291 e_6 e_13 e_14 e_15 c_17) (o35_292 e_19 e_21 e_23 e_30 e_31 e_32 c_33) (o35_293 e_19 e_21 e_23 e_30 e_31 e_32 c_33) (J.pa hT hJ (Pa.tr (Pa.tr (Pa.ud u_4.1 (by decide)) (Pa.fr u_8 (by decide))) (Pa.fr u_25 (by decide)))) (Laid.pa (Or.resolve_left e_16 (o35_294 e_6 e_13 e_14 e_15 c_17)) (Pa.tr (Pa.fr u_8 (by decide)) (Pa.fr u_25 (by decide))))) k_X12_boughtBy q_1816 q_94 q_1814 kSM_0 rfl rfl rfl hl.1 rfl rfl (Nat.le_of_ble_eq_true rfl) dX12_buy_35 ⟨Nat.le_of_ble_eq_true rfl, Nat.le_of_ble_eq_true rfl⟩ ⟨Nat.le_of_ble_eq_true rfl, Nat.le_of_ble_eq_true rfl⟩) (fun r_37 H locs ws_34 h u_35 p_36 => ?_)
      obtain ⟨e_38, e_39, e_40, e_41, e_42⟩ := p_36
      replace HE : FT = g10c_X12_buy (xso SM ad ws_34) r_37.toInt := HE.trans (by rw [e_38, e_39]; rfl)
      refine lv_istore_n (lv' := [(3, .int r_37), (0, .ref (ad 0)), (1, .int a1), (2, .int a2)]) C0.1 C0.2.1 dX12_buy_38 rfl hl (by decide) rfl (fun ls hl => ?_)
      refine lv_iload_n C0.1 C0.2.1 dX12_buy_39 rfl (lv_at hl 0 rfl) ?_
      replace HE : FT = g11b_X12_buy (xso SM ad ws_34) r_37.toInt := HE.trans rfl
      refine y_if_lt (tgt := 47) C0 dX12_buy_40 (by decide) (fun c_43 => ?_) (fun c_43 => ?_)
      · -- 40
        replace HE : FT = g12_X12_buy (xso SM ad ws_34) r_37.toInt := HE.trans (if_pos c_43)
        refine lv_iload_n C0.1 C0.2.1 dX12_buy_47 rfl (lv_at hl 0 rfl) ?_
        replace HE : FT = ((xso SM ad ws_34), r_37.toInt) := HE.trans rfl
        rw [hQ]
        exact y_iret C0 h (Fr.tr (Fr.tr (Fr.tr (Fr.up u_4.1 kSM_0 (by decide)) (Fr.mono u_8 (by decide))) (Fr.mono u_25 (by decide))) (Fr.mono u_35 (by decide))) ⟨(congrArg Prod.fst (HE.symm.trans hFT)), (congrArg Prod.snd (HE.symm.trans hFT)), (Pa.tr (Pa.tr (Pa.tr (Pa.ud u_4.1 (by decide)) (Pa.fr u_8 (by decide))) (Pa.fr u_25 (by decide))) e_41), (Pw.tr (Pw.tr (Pw.tr (Pw.ud u_4.1 (by decide)) (Pw.fr u_8 (by decide))) (Pw.fr u_25 (by decide))) e_42)⟩ dX12_buy_48
      · -- 40
        replace HE : FT = g13_X12_buy (xso SM ad ws_34) r_37.toInt := HE.trans (if_neg (Int.not_lt.mpr c_43))
        refine lv_aload_n C0.1 C0.2.1 dX12_buy_43 rfl (lv_at hl 1 rfl) ?_
        refine y_cv h (y_rV (As := []) (rest := []) C0 hZ h (c_X12_notes l G Z ad _ h.2) k_X12_notes q_1788 q_90 q_1786 kSM_0 rfl rfl rfl hl.1 rfl rfl (Nat.le_of_ble_eq_true rfl) dX12_buy_44 ⟨Nat.le_of_ble_eq_true rfl, Nat.le_of_ble_eq_true rfl⟩ ⟨Nat.le_of_ble_eq_true rfl, Nat.le_of_ble_eq_true rfl⟩) (fun H locs ws_44 h u_45 p_46 => ?_)
        obtain ⟨e_47, e_48, e_49⟩ := p_46
        replace HE : FT = g14c_X12_buy (xso SM ad ws_44) r_37.toInt := HE.trans (by rw [e_47]; rfl)
        refine lv_iload_n C0.1 C0.2.1 dX12_buy_47 rfl (lv_at hl 0 rfl) ?_
        replace HE : FT = ((xso SM ad ws_44), r_37.toInt) := HE.trans rfl
        rw [hQ]
        exact y_iret C0 h (Fr.tr (Fr.tr (Fr.tr (Fr.tr (Fr.up u_4.1 kSM_0 (by decide)) (Fr.mono u_8 (by decide))) (Fr.mono u_25 (by decide))) (Fr.mono u_35 (by decide))) (Fr.mono u_45 (by decide))) ⟨(congrArg Prod.fst (HE.symm.trans hFT)), (congrArg Prod.snd (HE.symm.trans hFT)), (Pa.tr (Pa.tr (Pa.tr (Pa.tr (Pa.ud u_4.1 (by decide)) (Pa.fr u_8 (by decide))) (Pa.fr u_25 (by decide))) e_41) e_48), (Pw.tr (Pw.tr (Pw.tr (Pw.tr (Pw.ud u_4.1 (by decide)) (Pw.fr u_8 (by decide))) (Pw.fr u_25 (by decide))) e_42) e_49)⟩ dX12_buy_48
    · -- 26
      replace HE : FT = g9_X12_buy (xso SM ad ws_24) := HE.trans (if_pos c_33)
      refine y_c2 (n := (-3)) C0 (by decide) dX12_buy_29 (fun v_50 e_51 => ?_)
      replace HE : FT = ((xso SM ad ws_24), v_50.toInt) := HE.trans (by rw [e_51]; rfl)
      rw [hQ]
      exact y_iret C0 h (Fr.tr (Fr.tr (Fr.up u_4.1 kSM_0 (by decide)) (Fr.mono u_8 (by decide))) (Fr.mono u_25 (by decide))) ⟨(congrArg Prod.fst (HE.symm.trans hFT)), (congrArg Prod.snd (HE.symm.trans hFT)), (Pa.tr (Pa.tr (Pa.ud u_4.1 (by decide)) (Pa.fr u_8 (by decide))) (Pa.fr u_25 (by decide))), (Pw.tr (Pw.tr (Pw.ud u_4.1 (by decide)) (Pw.fr u_8 (by decide))) (Pw.fr u_25 (by decide)))⟩ dX12_buy_31
  · -- 11
    replace HE : FT = g5_X12_buy (xso SM ad ws_7) := HE.trans (if_pos c_17)
    refine y_c2 (n := (-2)) C0 (by decide) dX12_buy_14 (fun v_52 e_53 => ?_)
    replace HE : FT = ((xso SM ad ws_7), v_52.toInt) := HE.trans (by rw [e_53]; rfl)
    rw [hQ]
    exact y_iret C0 h (Fr.tr (Fr.up u_4.1 kSM_0 (by decide)) (Fr.mono u_8 (by decide))) ⟨(congrArg Prod.fst (HE.symm.trans hFT)), (congrArg Prod.snd (HE.symm.trans hFT)), (Pa.tr (Pa.ud u_4.1 (by decide)) (Pa.fr u_8 (by decide))), (Pw.tr (Pw.ud u_4.1 (by decide)) (Pw.fr u_8 (by decide)))⟩ dX12_buy_16
noncomputable def g16c_X12_sell (s : XS) (v_71 : Int) : XR := (s, v_71)
noncomputable def g15w_X12_sell (s : XS) (v_71 : Int) : XR := g16c_X12_sell ((f_X12_notes s).1) v_71
noncomputable def g13_X12_sell (s : XS) (v_85 : Int) (a1 : Int) (v_71 : Int) : XR := g15w_X12_sell (xup s 1 1 (Int.toNat v_85) ((Xiadd (s 1 1 (Int.toNat (51 + a1))) v_71))) v_71
noncomputable def g18c_X12_sell (s : XS) (v_71 : Int) : XR := (s, v_71)
noncomputable def g17w_X12_sell (s : XS) (v_71 : Int) : XR := g18c_X12_sell ((f_X12_notes s).1) v_71
noncomputable def g14_X12_sell (s : XS) (v_85 : Int) (v_71 : Int) : XR := g17w_X12_sell (xup s 1 1 (Int.toNat v_85) (9999)) v_71
noncomputable def g12b_X12_sell (s : XS) (v_95 : Int) (v_85 : Int) (a1 : Int) (v_71 : Int) : XR := if 9999 < v_95 then g14_X12_sell s v_85 v_71 else g13_X12_sell s v_85 a1 v_71
noncomputable def g11w_X12_sell (s : XS) (a1 : Int) (v_71 : Int) : XR := g12b_X12_sell s ((Xiadd (s 1 1 (Int.toNat (51 + a1))) v_71)) ((51 + a1)) a1 v_71
noncomputable def g10c_X12_sell (s : XS) (r_63 : Int) (v_35 : Int) (a1 : Int) : XR := g11w_X12_sell (xup s 1 1 (Int.toNat (56 + a1)) (0)) a1 ((Ximul v_35 (r_63 / 3)))
noncomputable def g9c_X12_sell (s : XS) (a1 : Int) : XR := g10c_X12_sell ((f_X12_priceOf s (s 1 1 (Int.toNat (36 + a1))) 0 (s 1 1 (Int.toNat (41 + a1)))).1) (((f_X12_priceOf s (s 1 1 (Int.toNat (36 + a1))) 0 (s 1 1 (Int.toNat (41 + a1)))).2)) ((s 1 1 (Int.toNat (56 + a1)))) a1
noncomputable def g7_X12_sell (s : XS) (a1 : Int) : XR := g9c_X12_sell ((f_X12_keeps s).1) a1
noncomputable def g8_X12_sell (s : XS) : XR := (s, ((-5)))
noncomputable def g6b_X12_sell (s : XS) (v_22 : Int) (a1 : Int) : XR := if v_22 = 0 then g8_X12_sell s else g7_X12_sell s a1
noncomputable def g4_X12_sell (s : XS) (a1 : Int) : XR := g6b_X12_sell s ((s 1 1 (Int.toNat (56 + a1)))) a1
noncomputable def g5_X12_sell (s : XS) : XR := (s, ((-2)))
noncomputable def g3b_X12_sell (s : XS) (r_10 : Int) (a1 : Int) : XR := if r_10 = 0 then g5_X12_sell s else g4_X12_sell s a1
noncomputable def g2c_X12_sell (s : XS) (r_10 : Int) (a1 : Int) : XR := g3b_X12_sell s r_10 a1
noncomputable def g1w_X12_sell (s : XS) (a1 : Int) : XR := g2c_X12_sell ((f_X12_isPerson s a1).1) (((f_X12_isPerson s a1).2)) a1
noncomputable def f_X12_sell (s : XS) (a1 : Int) : XR := g1w_X12_sell (xup s 0 0 0 0) a1
set_option maxHeartbeats 4000000 in
set_option maxRecDepth 100000 in
theorem c_X12_sell (l : Launch) (G : GG) (Z : RZ) (ad : Nat → Nat) (ws0 : va_W) (hT : Ty G SM ad ws0) (a1 : Int32) (hJ : J ws0) : Mq l yX12_sell cX12_sell 3 (some .int) 4 G Z [.ref (ad 0), .int a1] ws0 (PI G SM ad [0, 1, 5, 6] ws0 (fun r u => (xso SM ad u = (f_X12_sell (xso SM ad ws0) a1.toInt).1) ∧ (r.toInt = (f_X12_sell (xso SM ad ws0) a1.toInt).2) ∧ (Pa ws0 u) ∧ (Pw ws0 u))) := by
  refine Mq.start (by decide) (Nat.le_of_ble_eq_true rfl) ?_
  intro p e s m below meth c A ls C0 hZ h hl
  have hl : lv_has ls 3 [(0, .ref (ad 0)), (1, .int a1)] := hl
  have h : Wt G SM ad A s s.heap [] ws0 := ⟨h, hT⟩
  obtain ⟨args, hargs⟩ : ∃ z, z = ([.ref (ad 0), .int a1] : List Value).toArray := ⟨_, rfl⟩
  rw [← hargs] at C0 ⊢
  have C0 : Cx p s m args meth c RX12 cX12_sell 3 (some .int) := C0
  obtain ⟨Q, hQ⟩ : ∃ z, z = MQ below ((PI G SM ad [0, 1, 5, 6] ws0 (fun r u => (xso SM ad u = (f_X12_sell (xso SM ad ws0) a1.toInt).1) ∧ (r.toInt = (f_X12_sell (xso SM ad ws0) a1.toInt).2) ∧ (Pa ws0 u) ∧ (Pw ws0 u))) A) args s 0 0 A := ⟨_, rfl⟩
  rw [← hQ]
  obtain ⟨FT, hFT⟩ : ∃ z, z = f_X12_sell (xso SM ad ws0) a1.toInt := ⟨_, rfl⟩
  have HE : FT = f_X12_sell (xso SM ad ws0) a1.toInt := hFT
  refine lv_aload_n C0.1 C0.2.1 dX12_sell_0 rfl (lv_at hl 0 rfl) ?_
  refine y_c1 (n := 0) C0 (by decide) dX12_sell_1 (fun v_1 e_2 => ?_)
  refine np_X12_thrown C0 h kSM_0 q_1438 (le_min v_1) (le_max v_1) dX12_sell_2 (fun H locs ws_3 h u_4 Xu_4 => ?_)
  replace HE : FT = g1w_X12_sell (xso SM ad ws_3) a1.toInt := HE.trans (by rw [Xu_4, e_2]; rfl)
  refine lv_aload_n C0.1 C0.2.1 dX12_sell_5 rfl (lv_at hl 0 rfl) ?_
  refine lv_iload_n C0.1 C0.2.1 dX12_sell_6 rfl (lv_at hl 1 rfl) ?_
  refine y_i2l C0 dX12_sell_7 (fun w_5 e_6 => ?_)
  refine y_ci h (y_rV (As := [.long w_5]) (rest := []) C0 hZ h (c_X12_isPerson l G Z ad _ h.2 w_5 (J.pa hT hJ (Pa.ud u_4.1 (by decide)))) k_X12_isPerson q_1693 q_77 q_1691 kSM_0 rfl rfl rfl hl.1 rfl rfl (Nat.le_of_ble_eq_true rfl) dX12_sell_8 ⟨Nat.le_of_ble_eq_true rfl, Nat.le_of_ble_eq_true rfl⟩ ⟨Nat.le_of_ble_eq_true rfl, Nat.le_of_ble_eq_true rfl⟩) (fun r_10 H locs ws_7 h u_8 p_9 => ?_)
  obtain ⟨e_11, e_12, e_13, e_14, e_15, e_16⟩ := p_9
  replace HE : FT = g2c_X12_sell (xso SM ad ws_7) r_10.toInt a1.toInt := HE.trans (by rw [e_11, e_12, e_6]; rfl)
  replace HE : FT = g3b_X12_sell (xso SM ad ws_7) r_10.toInt a1.toInt := HE.trans rfl
  refine y_if_ne (tgt := 17) C0 dX12_sell_11 (by decide) (fun c_17 => ?_) (fun c_17 => ?_)
  · -- 11
    replace HE : FT = g4_X12_sell (xso SM ad ws_7) a1.toInt := HE.trans (if_neg c_17)
    refine lv_aload_n C0.1 C0.2.1 dX12_sell_17 rfl (lv_at hl 0 rfl) ?_
    refine ng_X12_all C0 h kSM_0 q_1439 dX12_sell_18 ?_
    refine y_c2 (n := 56) C0 (by decide) dX12_sell_21 (fun v_18 e_19 => ?_)
    refine lv_iload_n C0.1 C0.2.1 dX12_sell_23 rfl (lv_at hl 1 rfl) ?_
    refine y_add C0 (o35_43 e_6 e_13 e_14 e_15 c_17 e_19 (le_min v_18) (le_max v_18) (le_min a1) (le_max a1) (le_min r_10) (le_max r_10)) (o35_44 e_6 e_13 e_14 e_15 c_17 e_19 (le_min v_18) (le_max v_18) (le_min a1) (le_max a1) (le_min r_10) (le_max r_10)) dX12_sell_24 (fun v_20 e_21 => ?_)
    refine y_iald C0 h kSM_1 rfl (by decide) (o35_45 e_6 e_13 e_14 e_15 c_17 e_19 e_21) (o35_46 e_6 e_13 e_14 e_15 c_17 e_19 e_21) dX12_sell_25 (fun v_22 e_23 e_24 e_25 => ?_)
    replace HE : FT = g6b_X12_sell (xso SM ad ws_7) v_22.toInt a1.toInt := HE.trans (by rw [(xg1 e_23 : v_22.toInt = (xso SM ad ws_7) 1 1 v_20.toInt.toNat), e_21, e_19]; rfl)
    refine y_if_ne (tgt := 32) C0 dX12_sell_26 (by decide) (fun c_26 => ?_) (fun c_26 => ?_)
    · -- 26
      replace HE : FT = g7_X12_sell (xso SM ad ws_7) a1.toInt := HE.trans (if_neg c_26)
      refine lv_aload_n C0.1 C0.2.1 dX12_sell_32 rfl (lv_at hl 0 rfl) ?_
      refine y_cv h (y_rV (As := []) (rest := []) C0 hZ h (c_X12_keeps l G Z ad _ h.2) k_X12_keeps q_1777 q_88 q_1775 kSM_0 rfl rfl rfl hl.1 rfl rfl (Nat.le_of_ble_eq_true rfl) dX12_sell_33 ⟨Nat.le_of_ble_eq_true rfl, Nat.le_of_ble_eq_true rfl⟩ ⟨Nat.le_of_ble_eq_true rfl, Nat.le_of_ble_eq_true rfl⟩) (fun H locs ws_27 h u_28 p_29 => ?_)
      have e_30 := p_29
      replace HE : FT = g9c_X12_sell (xso SM ad ws_27) a1.toInt := HE.trans (by rw [e_30]; rfl)
      refine lv_aload_n C0.1 C0.2.1 dX12_sell_36 rfl (lv_at hl 0 rfl) ?_
      refine ng_X12_all C0 h kSM_0 q_1439 dX12_sell_37 ?_
      refine y_c2 (n := 56) C0 (by decide) dX12_sell_40 (fun v_31 e_32 => ?_)
      refine lv_iload_n C0.1 C0.2.1 dX12_sell_42 rfl (lv_at hl 1 rfl) ?_
      refine y_add C0 (o35_295 e_6 e_13 e_14 e_15 c_17 e_19 e_21 e_32 (le_min v_31) (le_max v_31) (le_min a1) (le_max a1) (le_min r_10) (le_max r_10) (le_min v_18) (le_max v_18) (le_min v_20) (le_max v_20)) (o35_296 e_6 e_13 e_14 e_15 c_17 e_19 e_21 e_32 (le_min v_31) (le_max v_31) (le_min a1) (le_max a1) (le_min r_10) (le_max r_10) (le_min v_18) (le_max v_18) (le_min v_20) (le_max v_20)) dX12_sell_43 (fun v_33 e_34 => ?_)
      refine y_iald C0 h kSM_1 rfl (by decide) (o35_297 e_6 e_13 e_14 e_15 c_17 e_19 e_21 e_32 e_34) (o35_298 e_6 e_13 e_14 e_15 c_17 e_19 e_21 e_32 e_34) dX12_sell_44 (fun v_35 e_36 e_37 e_38 => ?_)
      have qh_39 : v_35.toInt = v_22.toInt := congrArg Int32.toInt (e_36.symm.trans (Eq.trans (congrArg (aI ws_27 1) (o35_299 e_6 e_13 e_14 e_15 c_17 e_19 e_21 e_32 e_34)) (Eq.trans (Fr.aI u_28 kSM_1 (by decide)) e_23)))
      refine lv_aload_n C0.1 C0.2.1 dX12_sell_45 rfl (lv_at hl 0 rfl) ?_
      refine lv_aload_n C0.1 C0.2.1 dX12_sell_46 rfl (lv_at hl 0 rfl) ?_
      refine ng_X12_all C0 h kSM_0 q_1439 dX12_sell_47 ?_
      refine y_c2 (n := 36) C0 (by decide) dX12_sell_50 (fun v_40 e_41 => ?_)
      refine lv_iload_n C0.1 C0.2.1 dX12_sell_52 rfl (lv_at hl 1 rfl) ?_
      refine y_add C0 (o35_300 e_6 e_13 e_14 e_15 c_17 e_19 e_21 e_32 e_34 e_41 (le_min v_40) (le_max v_40) (le_min a1) (le_max a1) (le_min r_10) (le_max r_10) (le_min v_18) (le_max v_18) (le_min v_20) (le_max v_20) (le_min v_31) (le_max v_31) (le_min v_33) (le_max v_33)) (o35_301 e_6 e_13 e_14 e_15 c_17 e_19 e_21 e_32 e_34 e_41 (le_min v_40) (le_max v_40) (le_min a1) (le_max a1) (le_min r_10) (le_max r_10) (le_min v_18) (le_max v_18) (le_min v_20) (le_max v_20) (le_min v_31) (le_max v_31) (le_min v_33) (le_max v_33)) dX12_sell_53 (fun v_42 e_43 => ?_)
      refine y_iald C0 h kSM_1 rfl (by decide) (o35_302 e_6 e_13 e_14 e_15 c_17 e_19 e_21 e_32 e_34 e_41 e_43) (o35_303 e_6 e_13 e_14 e_15 c_17 e_19 e_21 e_32 e_34 e_41 e_43) dX12_sell_54 (fun v_44 e_45 e_46 e_47 => ?_)
      have f_48 := o35_22 v_42.toInt.toNat (o35_304 e_6 e_13 e_14 e_15 c_17 e_19 e_21 e_32 e_34 e_41 e_43) (o35_305 e_6 e_13 e_14 e_15 c_17 e_19 e_21 e_32 e_34 e_41 e_43)
      refine y_c1 (n := 0) C0 (by decide) dX12_sell_55 (fun v_49 e_50 => ?_)
      refine lv_aload_n C0.1 C0.2.1 dX12_sell_56 rfl (lv_at hl 0 rfl) ?_
      refine ng_X12_all C0 h kSM_0 q_1439 dX12_sell_57 ?_
      refine y_c2 (n := 41) C0 (by decide) dX12_sell_60 (fun v_51 e_52 => ?_)
      refine lv_iload_n C0.1 C0.2.1 dX12_sell_62 rfl (lv_at hl 1 rfl) ?_
      refine y_add C0 (o35_306 e_6 e_13 e_14 e_15 c_17 e_19 e_21 e_32 e_34 e_41 e_43 e_52 (le_min v_51) (le_max v_51) (le_min a1) (le_max a1) (le_min r_10) (le_max r_10) (le_min v_18) (le_max v_18) (le_min v_20) (le_max v_20) (le_min v_31) (le_max v_31) (le_min v_33) (le_max v_33) (le_min v_40) (le_max v_40) (le_min v_42) (le_max v_42)) (o35_307 e_6 e_13 e_14 e_15 c_17 e_19 e_21 e_32 e_34 e_41 e_43 e_52 (le_min v_51) (le_max v_51) (le_min a1) (le_max a1) (le_min r_10) (le_max r_10) (le_min v_18) (le_max v_18) (le_min v_20) (le_max v_20) (le_min v_31) (le_max v_31) (le_min v_33) (le_max v_33) (le_min v_40) (le_max v_40) (le_min v_42) (le_max v_42)) dX12_sell_63 (fun v_53 e_54 => ?_)
      refine y_iald C0 h kSM_1 rfl (by decide) (o35_308 e_6 e_13 e_14 e_15 c_17 e_19 e_21 e_32 e_34 e_41 e_43 e_52 e_54) (o35_309 e_6 e_13 e_14 e_15 c_17 e_19 e_21 e_32 e_34 e_41 e_43 e_52 e_54) dX12_sell_64 (fun v_55 e_56 e_57 e_58 => ?_)
      have f_59 := o35_29 v_53.toInt.toNat (o35_310 e_6 e_13 e_14 e_15 c_17 e_19 e_21 e_32 e_34 e_41 e_43 e_52 e_54) (o35_311 e_6 e_13 e_14 e_15 c_17 e_19 e_21 e_32 e_34 e_41 e_43 e_52 e_54)
      refine y_ci h (y_rV (As := [.int v_44, .int v_49, .int v_55]) (rest := [.int v_35]) C0 hZ h (c_X12_priceOf l G Z ad _ h.2 v_44 v_49 v_55 (o35_205 (Int.le_trans f_48.1 e_46) (Int.le_trans e_47 f_48.2)) (o35_93 (Int.le_trans f_48.1 e_46) (Int.le_trans e_47 f_48.2)) (o35_98 (Int.le_trans f_59.1 e_57) (Int.le_trans e_58 f_59.2)) (o35_206 (Int.le_trans f_59.1 e_57) (Int.le_trans e_58 f_59.2)) (J.pa hT hJ (Pa.tr (Pa.tr (Pa.ud u_4.1 (by decide)) (Pa.fr u_8 (by decide))) (Pa.fr u_28 (by decide)))) (Laid.pa (Or.resolve_left e_16 (o35_312 e_6 e_13 e_14 e_15 c_17 e_19 e_21 e_32 e_34 e_41 e_43 e_52 e_54)) (Pa.tr (Pa.fr u_8 (by decide)) (Pa.fr u_28 (by decide))))) k_X12_priceOf q_1724 q_81 q_1722 kSM_0 rfl rfl rfl hl.1 rfl rfl (Nat.le_of_ble_eq_true rfl) dX12_sell_65 ⟨Nat.le_of_ble_eq_true rfl, Nat.le_of_ble_eq_true rfl⟩ ⟨Nat.le_of_ble_eq_true rfl, Nat.le_of_ble_eq_true rfl⟩) (fun r_63 H locs ws_60 h u_61 p_62 => ?_)
      obtain ⟨e_64, e_65, e_66⟩ := p_62
      replace HE : FT = g10c_X12_sell (xso SM ad ws_60) r_63.toInt v_35.toInt a1.toInt := HE.trans (by rw [e_64, (xg1 e_36 : v_35.toInt = (xso SM ad ws_27) 1 1 v_33.toInt.toNat), e_34, e_32, e_65, (xg1 e_56 : v_55.toInt = (xso SM ad ws_27) 1 1 v_53.toInt.toNat), e_54, e_52, e_50, (xg1 e_45 : v_44.toInt = (xso SM ad ws_27) 1 1 v_42.toInt.toNat), e_43, e_41]; rfl)
      refine y_c1 (n := 3) C0 (by decide) dX12_sell_68 (fun v_67 e_68 => ?_)
      refine y_divc (n := 3) C0 (o35_313 e_68) (by decide) (o35_314 e_66) dX12_sell_69 (fun v_69 e_70 => ?_)
      refine xr_imul C0 dX12_sell_70 (fun v_71 e_72 => ?_)
      refine lv_istore_n (lv' := [(2, .int v_71), (0, .ref (ad 0)), (1, .int a1)]) C0.1 C0.2.1 dX12_sell_71 rfl hl (by decide) rfl (fun ls hl => ?_)
      refine lv_aload_n C0.1 C0.2.1 dX12_sell_72 rfl (lv_at hl 1 rfl) ?_
      refine ng_X12_all C0 h kSM_0 q_1439 dX12_sell_73 ?_
      refine y_c2 (n := 56) C0 (by decide) dX12_sell_76 (fun v_73 e_74 => ?_)
      refine lv_iload_n C0.1 C0.2.1 dX12_sell_78 rfl (lv_at hl 2 rfl) ?_
      refine y_add C0 (o35_315 e_6 e_13 e_14 e_15 c_17 e_19 e_21 e_32 e_34 e_41 e_43 e_52 e_54 e_74 (le_min v_73) (le_max v_73) (le_min a1) (le_max a1) (le_min r_10) (le_max r_10) (le_min v_18) (le_max v_18) (le_min v_20) (le_max v_20) (le_min v_31) (le_max v_31) (le_min v_33) (le_max v_33) (le_min v_40) (le_max v_40) (le_min v_42) (le_max v_42) (le_min v_51) (le_max v_51) (le_min v_53) (le_max v_53)) (o35_316 e_6 e_13 e_14 e_15 c_17 e_19 e_21 e_32 e_34 e_41 e_43 e_52 e_54 e_74 (le_min v_73) (le_max v_73) (le_min a1) (le_max a1) (le_min r_10) (le_max r_10) (le_min v_18) (le_max v_18) (le_min v_20) (le_max v_20) (le_min v_31) (le_max v_31) (le_min v_33) (le_max v_33) (le_min v_40) (le_max v_40) (le_min v_42) (le_max v_42) (le_min v_51) (le_max v_51) (le_min v_53) (le_max v_53)) dX12_sell_79 (fun v_75 e_76 => ?_)
      refine y_c1 (n := 0) C0 (by decide) dX12_sell_80 (fun v_77 e_78 => ?_)
      have hO_81 := h.2
      have f_82 := o35_319 v_75.toInt.toNat (o35_320 e_6 e_13 e_14 e_15 c_17 e_19 e_21 e_32 e_34 e_41 e_43 e_52 e_54 e_74 e_76) (o35_321 e_6 e_13 e_14 e_15 c_17 e_19 e_21 e_32 e_34 e_41 e_43 e_52 e_54 e_74 e_76)
      refine y_iast C0 h kSM_1 rfl (by decide) (o35_317 e_6 e_13 e_14 e_15 c_17 e_19 e_21 e_32 e_34 e_41 e_43 e_52 e_54 e_74 e_76) (o35_318 e_6 e_13 e_14 e_15 c_17 e_19 e_21 e_32 e_34 e_41 e_43 e_52 e_54 e_74 e_76) (Int.le_trans f_82.1 (le_min v_77)) (Int.le_trans (le_max v_77) f_82.2) dX12_sell_81 (fun H locs ws_79 h u_80 => ?_)
      replace HE : FT = g11w_X12_sell (xso SM ad ws_79) a1.toInt v_71.toInt := HE.trans (by rw [(xso_A (i := 1) hO_81 h.2 kSM_1 rfl u_80), e_78, e_76, e_74, e_72, e_70]; rfl)
      refine lv_aload_n C0.1 C0.2.1 dX12_sell_82 rfl (lv_at hl 1 rfl) ?_
      refine ng_X12_all C0 h kSM_0 q_1439 dX12_sell_83 ?_
      refine y_c2 (n := 51) C0 (by decide) dX12_sell_86 (fun v_83 e_84 => ?_)
      refine lv_iload_n C0.1 C0.2.1 dX12_sell_88 rfl (lv_at hl 2 rfl) ?_
      refine y_add C0 (o35_325 e_6 e_13 e_14 e_15 c_17 e_19 e_21 e_32 e_34 e_41 e_43 e_52 e_54 e_74 e_76 e_84 (le_min v_83) (le_max v_83) (le_min a1) (le_max a1) (le_min r_10) (le_max r_10) (le_min v_18) (le_max v_18) (le_min v_20) (le_max v_20) (le_min v_31) (le_max v_31) (le_min v_33) (le_max v_33) (le_min v_40) (le_max v_40) (le_min v_42) (le_max v_42) (le_min v_51) (le_max v_51) (le_min v_53) (le_max v_53) (le_min v_73) (le_max v_73) (le_min v_75) (le_max v_75)) (o35_326 e_6 e_13 e_14 e_15 c_17 e_19 e_21 e_32 e_34 e_41 e_43 e_52 e_54 e_74 e_76 e_84 (le_min v_83) (le_max v_83) (le_min a1) (le_max a1) (le_min r_10) (le_max r_10) (le_min v_18) (le_max v_18) (le_min v_20) (le_max v_20) (le_min v_31) (le_max v_31) (le_min v_33) (le_max v_33) (le_min v_40) (le_max v_40) (le_min v_42) (le_max v_42) (le_min v_51) (le_max v_51) (le_min v_53) (le_max v_53) (le_min v_73) (le_max v_73) (le_min v_75) (le_max v_75)) dX12_sell_89 (fun v_85 e_86 => ?_)
      refine lv_aload_n C0.1 C0.2.1 dX12_sell_90 rfl (lv_at hl 1 rfl) ?_
      refine ng_X12_all C0 h kSM_0 q_1439 dX12_sell_91 ?_
      refine y_c2 (n := 51) C0 (by decide) dX12_sell_94 (fun v_87 e_88 => ?_)
      refine lv_iload_n C0.1 C0.2.1 dX12_sell_96 rfl (lv_at hl 2 rfl) ?_
      refine y_add C0 (o35_327 e_6 e_13 e_14 e_15 c_17 e_19 e_21 e_32 e_34 e_41 e_43 e_52 e_54 e_74 e_76 e_84 e_86 e_88 (le_min v_87) (le_max v_87) (le_min a1) (le_max a1) (le_min r_10) (le_max r_10) (le_min v_18) (le_max v_18) (le_min v_20) (le_max v_20) (le_min v_31) (le_max v_31) (le_min v_33) (le_max v_33) (le_min v_40) (le_max v_40) (le_min v_42) (le_max v_42) (le_min v_51) (le_max v_51) (le_min v_53) (le_max v_53) (le_min v_73) (le_max v_73) (le_min v_75) (le_max v_75) (le_min v_83) (le_max v_83) (le_min v_85) (le_max v_85)) (o35_328 e_6 e_13 e_14 e_15 c_17 e_19 e_21 e_32 e_34 e_41 e_43 e_52 e_54 e_74 e_76 e_84 e_86 e_88 (le_min v_87) (le_max v_87) (le_min a1) (le_max a1) (le_min r_10) (le_max r_10) (le_min v_18) (le_max v_18) (le_min v_20) (le_max v_20) (le_min v_31) (le_max v_31) (le_min v_33) (le_max v_33) (le_min v_40) (le_max v_40) (le_min v_42) (le_max v_42) (le_min v_51) (le_max v_51) (le_min v_53) (le_max v_53) (le_min v_73) (le_max v_73) (le_min v_75) (le_max v_75) (le_min v_83) (le_max v_83) (le_min v_85) (le_max v_85)) dX12_sell_97 (fun v_89 e_90 => ?_)
      refine y_iald C0 h kSM_1 rfl (by decide) (o35_329 e_6 e_13 e_14 e_15 c_17 e_19 e_21 e_32 e_34 e_41 e_43 e_52 e_54 e_74 e_76 e_84 e_86 e_88 e_90) (o35_330 e_6 e_13 e_14 e_15 c_17 e_19 e_21 e_32 e_34 e_41 e_43 e_52 e_54 e_74 e_76 e_84 e_86 e_88 e_90) dX12_sell_98 (fun v_91 e_92 e_93 e_94 => ?_)
      refine lv_iload_n C0.1 C0.2.1 dX12_sell_99 rfl (lv_at hl 0 rfl) ?_
      refine xr_iadd C0 dX12_sell_100 (fun v_95 e_96 => ?_)
      refine y_c3 (n := 9999) C0 (by decide) dX12_sell_101 (fun v_97 e_98 => ?_)
      replace HE : FT = g12b_X12_sell (xso SM ad ws_79) v_95.toInt v_85.toInt a1.toInt v_71.toInt := HE.trans (by rw [e_86, e_84, e_96, (xg1 e_92 : v_91.toInt = (xso SM ad ws_79) 1 1 v_89.toInt.toNat), e_90, e_88]; rfl)
      refine y_icmp_le (tgt := 113) C0 dX12_sell_104 (by decide) (fun c_99 => ?_) (fun c_99 => ?_)
      · -- 104
        replace HE : FT = g13_X12_sell (xso SM ad ws_79) v_85.toInt a1.toInt v_71.toInt := HE.trans (if_neg (o35_332 e_98 c_99))
        refine lv_aload_n C0.1 C0.2.1 dX12_sell_113 rfl (lv_at hl 1 rfl) ?_
        refine ng_X12_all C0 h kSM_0 q_1439 dX12_sell_114 ?_
        refine y_c2 (n := 51) C0 (by decide) dX12_sell_117 (fun v_100 e_101 => ?_)
        refine lv_iload_n C0.1 C0.2.1 dX12_sell_119 rfl (lv_at hl 2 rfl) ?_
        refine y_add C0 (o35_334 e_6 e_13 e_14 e_15 c_17 e_19 e_21 e_32 e_34 e_41 e_43 e_52 e_54 e_74 e_76 e_84 e_86 e_88 e_90 e_101 (le_min v_100) (le_max v_100) (le_min a1) (le_max a1) (le_min r_10) (le_max r_10) (le_min v_18) (le_max v_18) (le_min v_20) (le_max v_20) (le_min v_31) (le_max v_31) (le_min v_33) (le_max v_33) (le_min v_40) (le_max v_40) (le_min v_42) (le_max v_42) (le_min v_51) (le_max v_51) (le_min v_53) (le_max v_53) (le_min v_73) (le_max v_73) (le_min v_75) (le_max v_75) (le_min v_83) (le_max v_83) (le_min v_85) (le_max v_85) (le_min v_87) (le_max v_87) (le_min v_89) (le_max v_89)) (o35_335 e_6 e_13 e_14 e_15 c_17 e_19 e_21 e_32 e_34 e_41 e_43 e_52 e_54 e_74 e_76 e_84 e_86 e_88 e_90 e_101 (le_min v_100) (le_max v_100) (le_min a1) (le_max a1) (le_min r_10) (le_max r_10) (le_min v_18) (le_max v_18) (le_min v_20) (le_max v_20) (le_min v_31) (le_max v_31) (le_min v_33) (le_max v_33) (le_min v_40) (le_max v_40) (le_min v_42) (le_max v_42) (le_min v_51) (le_max v_51) (le_min v_53) (le_max v_53) (le_min v_73) (le_max v_73) (le_min v_75) (le_max v_75) (le_min v_83) (le_max v_83) (le_min v_85) (le_max v_85) (le_min v_87) (le_max v_87) (le_min v_89) (le_max v_89)) dX12_sell_120 (fun v_102 e_103 => ?_)
        refine y_iald C0 h kSM_1 rfl (by decide) (o35_336 e_6 e_13 e_14 e_15 c_17 e_19 e_21 e_32 e_34 e_41 e_43 e_52 e_54 e_74 e_76 e_84 e_86 e_88 e_90 e_101 e_103) (o35_337 e_6 e_13 e_14 e_15 c_17 e_19 e_21 e_32 e_34 e_41 e_43 e_52 e_54 e_74 e_76 e_84 e_86 e_88 e_90 e_101 e_103) dX12_sell_121 (fun v_104 e_105 e_106 e_107 => ?_)
        have qh_108 : v_104.toInt = v_91.toInt := congrArg Int32.toInt (e_105.symm.trans (Eq.trans (congrArg (aI ws_79 1) (o35_338 e_6 e_13 e_14 e_15 c_17 e_19 e_21 e_32 e_34 e_41 e_43 e_52 e_54 e_74 e_76 e_84 e_86 e_88 e_90 e_101 e_103)) (Eq.trans rfl e_92)))
        refine lv_iload_n C0.1 C0.2.1 dX12_sell_122 rfl (lv_at hl 0 rfl) ?_
        refine xr_iadd C0 dX12_sell_123 (fun v_109 e_110 => ?_)
        have hO_113 := h.2
        have f_114 := o35_264 v_85.toInt.toNat (o35_341 e_6 e_13 e_14 e_15 c_17 e_19 e_21 e_32 e_34 e_41 e_43 e_52 e_54 e_74 e_76 e_84 e_86 e_88 e_90 e_101 e_103) (o35_342 e_6 e_13 e_14 e_15 c_17 e_19 e_21 e_32 e_34 e_41 e_43 e_52 e_54 e_74 e_76 e_84 e_86 e_88 e_90 e_101 e_103)
        refine y_iast C0 h kSM_1 rfl (by decide) (o35_339 e_6 e_13 e_14 e_15 c_17 e_19 e_21 e_32 e_34 e_41 e_43 e_52 e_54 e_74 e_76 e_84 e_86 e_88 e_90 e_101 e_103) (o35_340 e_6 e_13 e_14 e_15 c_17 e_19 e_21 e_32 e_34 e_41 e_43 e_52 e_54 e_74 e_76 e_84 e_86 e_88 e_90 e_101 e_103) (Int.le_trans f_114.1 (le_min v_109)) (Int.le_trans (le_max v_109) f_114.2) dX12_sell_124 (fun H locs ws_111 h u_112 => ?_)
        replace HE : FT = g15w_X12_sell (xso SM ad ws_111) v_71.toInt := HE.trans (by rw [(xso_A (i := 1) hO_113 h.2 kSM_1 rfl u_112), e_110, (xg1 e_105 : v_104.toInt = (xso SM ad ws_79) 1 1 v_102.toInt.toNat), e_103, e_101]; rfl)
        refine lv_aload_n C0.1 C0.2.1 dX12_sell_125 rfl (lv_at hl 1 rfl) ?_
        refine y_cv h (y_rV (As := []) (rest := []) C0 hZ h (c_X12_notes l G Z ad _ h.2) k_X12_notes q_1788 q_90 q_1786 kSM_0 rfl rfl rfl hl.1 rfl rfl (Nat.le_of_ble_eq_true rfl) dX12_sell_126 ⟨Nat.le_of_ble_eq_true rfl, Nat.le_of_ble_eq_true rfl⟩ ⟨Nat.le_of_ble_eq_true rfl, Nat.le_of_ble_eq_true rfl⟩) (fun H locs ws_115 h u_116 p_117 => ?_)
        obtain ⟨e_118, e_119, e_120⟩ := p_117
        replace HE : FT = g16c_X12_sell (xso SM ad ws_115) v_71.toInt := HE.trans (by rw [e_118]; rfl)
        refine lv_iload_n C0.1 C0.2.1 dX12_sell_129 rfl (lv_at hl 0 rfl) ?_
        replace HE : FT = ((xso SM ad ws_115), v_71.toInt) := HE.trans rfl
        rw [hQ]
        exact y_iret C0 h (Fr.tr (Fr.tr (Fr.tr (Fr.tr (Fr.tr (Fr.tr (Fr.up u_4.1 kSM_0 (by decide)) (Fr.mono u_8 (by decide))) (Fr.mono u_28 (by decide))) (Fr.mono u_61 (by decide))) (Fr.up u_80.1 kSM_1 (by decide))) (Fr.up u_112.1 kSM_1 (by decide))) (Fr.mono u_116 (by decide))) ⟨(congrArg Prod.fst (HE.symm.trans hFT)), (congrArg Prod.snd (HE.symm.trans hFT)), (Pa.tr (Pa.tr (Pa.tr (Pa.tr (Pa.tr (Pa.tr (Pa.ud u_4.1 (by decide)) (Pa.fr u_8 (by decide))) (Pa.fr u_28 (by decide))) (Pa.fr u_61 (by decide))) (Pa.st u_80 (o35_323 e_6 e_13 e_14 e_15 c_17 e_19 e_21 e_32 e_34 e_41 e_43 e_52 e_54 e_74 e_76) (o35_324 e_6 e_13 e_14 e_15 c_17 e_19 e_21 e_32 e_34 e_41 e_43 e_52 e_54 e_74 e_76))) (Pa.st u_112 (o35_344 e_6 e_13 e_14 e_15 c_17 e_19 e_21 e_32 e_34 e_41 e_43 e_52 e_54 e_74 e_76 e_84 e_86 e_88 e_90 e_101 e_103) (o35_345 e_6 e_13 e_14 e_15 c_17 e_19 e_21 e_32 e_34 e_41 e_43 e_52 e_54 e_74 e_76 e_84 e_86 e_88 e_90 e_101 e_103))) e_119), (Pw.tr (Pw.tr (Pw.tr (Pw.tr (Pw.tr (Pw.tr (Pw.ud u_4.1 (by decide)) (Pw.fr u_8 (by decide))) (Pw.fr u_28 (by decide))) (Pw.fr u_61 (by decide))) (Pw.st u_80 (o35_322 e_6 e_13 e_14 e_15 c_17 e_19 e_21 e_32 e_34 e_41 e_43 e_52 e_54 e_74 e_76))) (Pw.st u_112 (o35_343 e_6 e_13 e_14 e_15 c_17 e_19 e_21 e_32 e_34 e_41 e_43 e_52 e_54 e_74 e_76 e_84 e_86 e_88 e_90 e_101 e_103))) e_120)⟩ dX12_sell_130
      · -- 104
        replace HE : FT = g14_X12_sell (xso SM ad ws_79) v_85.toInt v_71.toInt := HE.trans (if_pos (o35_333 e_98 c_99))
        refine y_c3 (n := 9999) C0 (by decide) dX12_sell_107 (fun v_121 e_122 => ?_)
        refine lv_goto (tgt := 124) C0.1 C0.2.1 dX12_sell_110 (by decide) ?_
        have hO_125 := h.2
        have f_126 := o35_264 v_85.toInt.toNat (o35_348 e_6 e_13 e_14 e_15 c_17 e_19 e_21 e_32 e_34 e_41 e_43 e_52 e_54 e_74 e_76 e_84 e_86 e_88 e_90) (o35_349 e_6 e_13 e_14 e_15 c_17 e_19 e_21 e_32 e_34 e_41 e_43 e_52 e_54 e_74 e_76 e_84 e_86 e_88 e_90)
        refine y_iast C0 h kSM_1 rfl (by decide) (o35_346 e_6 e_13 e_14 e_15 c_17 e_19 e_21 e_32 e_34 e_41 e_43 e_52 e_54 e_74 e_76 e_84 e_86 e_88 e_90) (o35_347 e_6 e_13 e_14 e_15 c_17 e_19 e_21 e_32 e_34 e_41 e_43 e_52 e_54 e_74 e_76 e_84 e_86 e_88 e_90) (Int.le_trans f_126.1 (le_min v_121)) (Int.le_trans (le_max v_121) f_126.2) dX12_sell_124 (fun H locs ws_123 h u_124 => ?_)
        replace HE : FT = g17w_X12_sell (xso SM ad ws_123) v_71.toInt := HE.trans (by rw [(xso_A (i := 1) hO_125 h.2 kSM_1 rfl u_124), e_122]; rfl)
        refine lv_aload_n C0.1 C0.2.1 dX12_sell_125 rfl (lv_at hl 1 rfl) ?_
        refine y_cv h (y_rV (As := []) (rest := []) C0 hZ h (c_X12_notes l G Z ad _ h.2) k_X12_notes q_1788 q_90 q_1786 kSM_0 rfl rfl rfl hl.1 rfl rfl (Nat.le_of_ble_eq_true rfl) dX12_sell_126 ⟨Nat.le_of_ble_eq_true rfl, Nat.le_of_ble_eq_true rfl⟩ ⟨Nat.le_of_ble_eq_true rfl, Nat.le_of_ble_eq_true rfl⟩) (fun H locs ws_127 h u_128 p_129 => ?_)
        obtain ⟨e_130, e_131, e_132⟩ := p_129
        replace HE : FT = g18c_X12_sell (xso SM ad ws_127) v_71.toInt := HE.trans (by rw [e_130]; rfl)
        refine lv_iload_n C0.1 C0.2.1 dX12_sell_129 rfl (lv_at hl 0 rfl) ?_
        replace HE : FT = ((xso SM ad ws_127), v_71.toInt) := HE.trans rfl
        rw [hQ]
        exact y_iret C0 h (Fr.tr (Fr.tr (Fr.tr (Fr.tr (Fr.tr (Fr.tr (Fr.up u_4.1 kSM_0 (by decide)) (Fr.mono u_8 (by decide))) (Fr.mono u_28 (by decide))) (Fr.mono u_61 (by decide))) (Fr.up u_80.1 kSM_1 (by decide))) (Fr.up u_124.1 kSM_1 (by decide))) (Fr.mono u_128 (by decide))) ⟨(congrArg Prod.fst (HE.symm.trans hFT)), (congrArg Prod.snd (HE.symm.trans hFT)), (Pa.tr (Pa.tr (Pa.tr (Pa.tr (Pa.tr (Pa.tr (Pa.ud u_4.1 (by decide)) (Pa.fr u_8 (by decide))) (Pa.fr u_28 (by decide))) (Pa.fr u_61 (by decide))) (Pa.st u_80 (o35_323 e_6 e_13 e_14 e_15 c_17 e_19 e_21 e_32 e_34 e_41 e_43 e_52 e_54 e_74 e_76) (o35_324 e_6 e_13 e_14 e_15 c_17 e_19 e_21 e_32 e_34 e_41 e_43 e_52 e_54 e_74 e_76))) (Pa.st u_124 (o35_351 e_6 e_13 e_14 e_15 c_17 e_19 e_21 e_32 e_34 e_41 e_43 e_52 e_54 e_74 e_76 e_84 e_86 e_88 e_90) (o35_352 e_6 e_13 e_14 e_15 c_17 e_19 e_21 e_32 e_34 e_41 e_43 e_52 e_54 e_74 e_76 e_84 e_86 e_88 e_90))) e_131), (Pw.tr (Pw.tr (Pw.tr (Pw.tr (Pw.tr (Pw.tr (Pw.ud u_4.1 (by decide)) (Pw.fr u_8 (by decide))) (Pw.fr u_28 (by decide))) (Pw.fr u_61 (by decide))) (Pw.st u_80 (o35_322 e_6 e_13 e_14 e_15 c_17 e_19 e_21 e_32 e_34 e_41 e_43 e_52 e_54 e_74 e_76))) (Pw.st u_124 (o35_350 e_6 e_13 e_14 e_15 c_17 e_19 e_21 e_32 e_34 e_41 e_43 e_52 e_54 e_74 e_76 e_84 e_86 e_88 e_90))) e_132)⟩ dX12_sell_130
    · -- 26
      replace HE : FT = g8_X12_sell (xso SM ad ws_7) := HE.trans (if_pos c_26)
      refine y_c2 (n := (-5)) C0 (by decide) dX12_sell_29 (fun v_133 e_134 => ?_)
      replace HE : FT = ((xso SM ad ws_7), v_133.toInt) := HE.trans (by rw [e_134]; rfl)
      rw [hQ]
      exact y_iret C0 h (Fr.tr (Fr.up u_4.1 kSM_0 (by decide)) (Fr.mono u_8 (by decide))) ⟨(congrArg Prod.fst (HE.symm.trans hFT)), (congrArg Prod.snd (HE.symm.trans hFT)), (Pa.tr (Pa.ud u_4.1 (by decide)) (Pa.fr u_8 (by decide))), (Pw.tr (Pw.ud u_4.1 (by decide)) (Pw.fr u_8 (by decide)))⟩ dX12_sell_31
  · -- 11
    replace HE : FT = g5_X12_sell (xso SM ad ws_7) := HE.trans (if_pos c_17)
    refine y_c2 (n := (-2)) C0 (by decide) dX12_sell_14 (fun v_135 e_136 => ?_)
    replace HE : FT = ((xso SM ad ws_7), v_135.toInt) := HE.trans (by rw [e_136]; rfl)
    rw [hQ]
    exact y_iret C0 h (Fr.tr (Fr.up u_4.1 kSM_0 (by decide)) (Fr.mono u_8 (by decide))) ⟨(congrArg Prod.fst (HE.symm.trans hFT)), (congrArg Prod.snd (HE.symm.trans hFT)), (Pa.tr (Pa.ud u_4.1 (by decide)) (Pa.fr u_8 (by decide))), (Pw.tr (Pw.ud u_4.1 (by decide)) (Pw.fr u_8 (by decide)))⟩ dX12_sell_16
noncomputable def g4_X12_hand (s : XS) : XR := (s, ((-2)))
noncomputable def g8_X12_hand (s : XS) : XR := (s, ((-2)))
noncomputable def g18_X12_hand (s : XS) : XR := (s, ((-5)))
noncomputable def g29c_X12_hand (s : XS) (a2 : Int) : XR := (s, (s 1 1 (Int.toNat (46 + a2))))
noncomputable def g28w_X12_hand (s : XS) (a2 : Int) : XR := g29c_X12_hand ((f_X12_notes s).1) a2
noncomputable def g27w_X12_hand (s : XS) (a2 : Int) (a3 : Int) : XR := g28w_X12_hand (xup s 1 1 (Int.toNat (46 + a2)) (((s 1 1 (Int.toNat (46 + a2))) + a3))) a2
noncomputable def g26c_X12_hand (s : XS) (a1 : Int) (a2 : Int) (a3 : Int) : XR := g27w_X12_hand (xup s 1 1 (Int.toNat (46 + a1)) (((s 1 1 (Int.toNat (46 + a1))) - a3))) a2 a3
noncomputable def g24_X12_hand (s : XS) (a1 : Int) (a2 : Int) (a3 : Int) : XR := g26c_X12_hand ((f_X12_keeps s).1) a1 a2 a3
noncomputable def g25_X12_hand (s : XS) : XR := (s, ((-4)))
noncomputable def g23b_X12_hand (s : XS) (v_92 : Int) (a1 : Int) (a2 : Int) (a3 : Int) : XR := if 99 < v_92 then g25_X12_hand s else g24_X12_hand s a1 a2 a3
noncomputable def g21_X12_hand (s : XS) (a1 : Int) (a2 : Int) (a3 : Int) : XR := g23b_X12_hand s (((s 1 1 (Int.toNat (46 + a2))) + a3)) a1 a2 a3
noncomputable def g22_X12_hand (s : XS) : XR := (s, ((-5)))
noncomputable def g20b_X12_hand (s : XS) (a3 : Int) (v_77 : Int) (a1 : Int) (a2 : Int) : XR := if v_77 < a3 then g22_X12_hand s else g21_X12_hand s a1 a2 a3
noncomputable def g19_X12_hand (s : XS) (a1 : Int) (a2 : Int) (a3 : Int) : XR := g20b_X12_hand s a3 ((s 1 1 (Int.toNat (46 + a1)))) a1 a2
noncomputable def g17b_X12_hand (s : XS) (v_65 : Int) (v_56 : Int) (a1 : Int) (a2 : Int) (a3 : Int) : XR := if v_56 = v_65 then g19_X12_hand s a1 a2 a3 else g18_X12_hand s
noncomputable def g15_X12_hand (s : XS) (a1 : Int) (a2 : Int) (a3 : Int) : XR := g17b_X12_hand s ((s 1 1 (Int.toNat (36 + a2)))) ((s 1 1 (Int.toNat (36 + a1)))) a1 a2 a3
noncomputable def g16_X12_hand (s : XS) : XR := (s, ((-3)))
noncomputable def g14b_X12_hand (s : XS) (r_45 : Int) (a1 : Int) (a2 : Int) (a3 : Int) : XR := if r_45 = 0 then g16_X12_hand s else g15_X12_hand s a1 a2 a3
noncomputable def g13c_X12_hand (s : XS) (r_45 : Int) (a1 : Int) (a2 : Int) (a3 : Int) : XR := g14b_X12_hand s r_45 a1 a2 a3
noncomputable def g11_X12_hand (s : XS) (a1 : Int) (a2 : Int) (a3 : Int) : XR := g13c_X12_hand ((f_X12_within s a3 1 99).1) (((f_X12_within s a3 1 99).2)) a1 a2 a3
noncomputable def g12_X12_hand (s : XS) : XR := (s, ((-2)))
noncomputable def g10b_X12_hand (s : XS) (a2 : Int) (a1 : Int) (a3 : Int) : XR := if a1 = a2 then g12_X12_hand s else g11_X12_hand s a1 a2 a3
noncomputable def g9_X12_hand (s : XS) (a1 : Int) (a2 : Int) (a3 : Int) : XR := g10b_X12_hand s a2 a1 a3
noncomputable def g7b_X12_hand (s : XS) (r_25 : Int) (a1 : Int) (a2 : Int) (a3 : Int) : XR := if r_25 = 0 then g8_X12_hand s else g9_X12_hand s a1 a2 a3
noncomputable def g6c_X12_hand (s : XS) (r_25 : Int) (a1 : Int) (a2 : Int) (a3 : Int) : XR := g7b_X12_hand s r_25 a1 a2 a3
noncomputable def g5_X12_hand (s : XS) (a1 : Int) (a2 : Int) (a3 : Int) : XR := g6c_X12_hand ((f_X12_isPerson s a2).1) (((f_X12_isPerson s a2).2)) a1 a2 a3
noncomputable def g3b_X12_hand (s : XS) (r_10 : Int) (a1 : Int) (a2 : Int) (a3 : Int) : XR := if r_10 = 0 then g4_X12_hand s else g5_X12_hand s a1 a2 a3
noncomputable def g2c_X12_hand (s : XS) (r_10 : Int) (a1 : Int) (a2 : Int) (a3 : Int) : XR := g3b_X12_hand s r_10 a1 a2 a3
noncomputable def g1w_X12_hand (s : XS) (a1 : Int) (a2 : Int) (a3 : Int) : XR := g2c_X12_hand ((f_X12_isPerson s a1).1) (((f_X12_isPerson s a1).2)) a1 a2 a3
noncomputable def f_X12_hand (s : XS) (a1 : Int) (a2 : Int) (a3 : Int) : XR := g1w_X12_hand (xup s 0 0 0 0) a1 a2 a3
set_option maxHeartbeats 4000000 in
set_option maxRecDepth 100000 in
theorem c_X12_hand (l : Launch) (G : GG) (Z : RZ) (ad : Nat → Nat) (ws0 : va_W) (hT : Ty G SM ad ws0) (a1 : Int32) (a2 : Int32) (a3 : Int32) (hJ : J ws0) : Mq l yX12_hand cX12_hand 4 (some .int) 3 G Z [.ref (ad 0), .int a1, .int a2, .int a3] ws0 (PI G SM ad [0, 1, 6] ws0 (fun r u => (xso SM ad u = (f_X12_hand (xso SM ad ws0) a1.toInt a2.toInt a3.toInt).1) ∧ (r.toInt = (f_X12_hand (xso SM ad ws0) a1.toInt a2.toInt a3.toInt).2) ∧ ((-5) ≤ r.toInt) ∧ (r.toInt ≤ 99) ∧ (Pa ws0 u) ∧ (Pw ws0 u))) := by
  refine Mq.start (by decide) (Nat.le_of_ble_eq_true rfl) ?_
  intro p e s m below meth c A ls C0 hZ h hl
  have hl : lv_has ls 4 [(0, .ref (ad 0)), (1, .int a1), (2, .int a2), (3, .int a3)] := hl
  have h : Wt G SM ad A s s.heap [] ws0 := ⟨h, hT⟩
  obtain ⟨args, hargs⟩ : ∃ z, z = ([.ref (ad 0), .int a1, .int a2, .int a3] : List Value).toArray := ⟨_, rfl⟩
  rw [← hargs] at C0 ⊢
  have C0 : Cx p s m args meth c RX12 cX12_hand 4 (some .int) := C0
  obtain ⟨Q, hQ⟩ : ∃ z, z = MQ below ((PI G SM ad [0, 1, 6] ws0 (fun r u => (xso SM ad u = (f_X12_hand (xso SM ad ws0) a1.toInt a2.toInt a3.toInt).1) ∧ (r.toInt = (f_X12_hand (xso SM ad ws0) a1.toInt a2.toInt a3.toInt).2) ∧ ((-5) ≤ r.toInt) ∧ (r.toInt ≤ 99) ∧ (Pa ws0 u) ∧ (Pw ws0 u))) A) args s 0 0 A := ⟨_, rfl⟩
  rw [← hQ]
  obtain ⟨FT, hFT⟩ : ∃ z, z = f_X12_hand (xso SM ad ws0) a1.toInt a2.toInt a3.toInt := ⟨_, rfl⟩
  have HE : FT = f_X12_hand (xso SM ad ws0) a1.toInt a2.toInt a3.toInt := hFT
  refine lv_aload_n C0.1 C0.2.1 dX12_hand_0 rfl (lv_at hl 0 rfl) ?_
  refine y_c1 (n := 0) C0 (by decide) dX12_hand_1 (fun v_1 e_2 => ?_)
  refine np_X12_thrown C0 h kSM_0 q_1438 (le_min v_1) (le_max v_1) dX12_hand_2 (fun H locs ws_3 h u_4 Xu_4 => ?_)
  replace HE : FT = g1w_X12_hand (xso SM ad ws_3) a1.toInt a2.toInt a3.toInt := HE.trans (by rw [Xu_4, e_2]; rfl)
  refine lv_aload_n C0.1 C0.2.1 dX12_hand_5 rfl (lv_at hl 0 rfl) ?_
  refine lv_iload_n C0.1 C0.2.1 dX12_hand_6 rfl (lv_at hl 1 rfl) ?_
  refine y_i2l C0 dX12_hand_7 (fun w_5 e_6 => ?_)
  refine y_ci h (y_rV (As := [.long w_5]) (rest := []) C0 hZ h (c_X12_isPerson l G Z ad _ h.2 w_5 (J.pa hT hJ (Pa.ud u_4.1 (by decide)))) k_X12_isPerson q_1693 q_77 q_1691 kSM_0 rfl rfl rfl hl.1 rfl rfl (Nat.le_of_ble_eq_true rfl) dX12_hand_8 ⟨Nat.le_of_ble_eq_true rfl, Nat.le_of_ble_eq_true rfl⟩ ⟨Nat.le_of_ble_eq_true rfl, Nat.le_of_ble_eq_true rfl⟩) (fun r_10 H locs ws_7 h u_8 p_9 => ?_)
  obtain ⟨e_11, e_12, e_13, e_14, e_15, e_16⟩ := p_9
  replace HE : FT = g2c_X12_hand (xso SM ad ws_7) r_10.toInt a1.toInt a2.toInt a3.toInt := HE.trans (by rw [e_11, e_12, e_6]; rfl)
  replace HE : FT = g3b_X12_hand (xso SM ad ws_7) r_10.toInt a1.toInt a2.toInt a3.toInt := HE.trans rfl
  refine y_if_eq (tgt := 28) C0 dX12_hand_11 (by decide) (fun c_17 => ?_) (fun c_17 => ?_)
  · -- 11
    replace HE : FT = g4_X12_hand (xso SM ad ws_7) := HE.trans (if_pos c_17)
    refine y_c2 (n := (-2)) C0 (by decide) dX12_hand_28 (fun v_18 e_19 => ?_)
    replace HE : FT = ((xso SM ad ws_7), v_18.toInt) := HE.trans (by rw [e_19]; rfl)
    rw [hQ]
    exact y_iret C0 h (Fr.tr (Fr.up u_4.1 kSM_0 (by decide)) (Fr.mono u_8 (by decide))) ⟨(congrArg Prod.fst (HE.symm.trans hFT)), (congrArg Prod.snd (HE.symm.trans hFT)), (o35_353 e_19), (o35_354 e_19), (Pa.tr (Pa.ud u_4.1 (by decide)) (Pa.fr u_8 (by decide))), (Pw.tr (Pw.ud u_4.1 (by decide)) (Pw.fr u_8 (by decide)))⟩ dX12_hand_30
  · -- 11
    replace HE : FT = g5_X12_hand (xso SM ad ws_7) a1.toInt a2.toInt a3.toInt := HE.trans (if_neg c_17)
    refine lv_aload_n C0.1 C0.2.1 dX12_hand_14 rfl (lv_at hl 0 rfl) ?_
    refine lv_iload_n C0.1 C0.2.1 dX12_hand_15 rfl (lv_at hl 2 rfl) ?_
    refine y_i2l C0 dX12_hand_16 (fun w_20 e_21 => ?_)
    refine y_ci h (y_rV (As := [.long w_20]) (rest := []) C0 hZ h (c_X12_isPerson l G Z ad _ h.2 w_20 (J.pa hT hJ (Pa.tr (Pa.ud u_4.1 (by decide)) (Pa.fr u_8 (by decide))))) k_X12_isPerson q_1693 q_77 q_1691 kSM_0 rfl rfl rfl hl.1 rfl rfl (Nat.le_of_ble_eq_true rfl) dX12_hand_17 ⟨Nat.le_of_ble_eq_true rfl, Nat.le_of_ble_eq_true rfl⟩ ⟨Nat.le_of_ble_eq_true rfl, Nat.le_of_ble_eq_true rfl⟩) (fun r_25 H locs ws_22 h u_23 p_24 => ?_)
    obtain ⟨e_26, e_27, e_28, e_29, e_30, e_31⟩ := p_24
    replace HE : FT = g6c_X12_hand (xso SM ad ws_22) r_25.toInt a1.toInt a2.toInt a3.toInt := HE.trans (by rw [e_26, e_27, e_21]; rfl)
    replace HE : FT = g7b_X12_hand (xso SM ad ws_22) r_25.toInt a1.toInt a2.toInt a3.toInt := HE.trans rfl
    refine y_if_eq (tgt := 28) C0 dX12_hand_20 (by decide) (fun c_32 => ?_) (fun c_32 => ?_)
    · -- 20
      replace HE : FT = g8_X12_hand (xso SM ad ws_22) := HE.trans (if_pos c_32)
      refine y_c2 (n := (-2)) C0 (by decide) dX12_hand_28 (fun v_33 e_34 => ?_)
      replace HE : FT = ((xso SM ad ws_22), v_33.toInt) := HE.trans (by rw [e_34]; rfl)
      rw [hQ]
      exact y_iret C0 h (Fr.tr (Fr.tr (Fr.up u_4.1 kSM_0 (by decide)) (Fr.mono u_8 (by decide))) (Fr.mono u_23 (by decide))) ⟨(congrArg Prod.fst (HE.symm.trans hFT)), (congrArg Prod.snd (HE.symm.trans hFT)), (o35_353 e_34), (o35_354 e_34), (Pa.tr (Pa.tr (Pa.ud u_4.1 (by decide)) (Pa.fr u_8 (by decide))) (Pa.fr u_23 (by decide))), (Pw.tr (Pw.tr (Pw.ud u_4.1 (by decide)) (Pw.fr u_8 (by decide))) (Pw.fr u_23 (by decide)))⟩ dX12_hand_30
    · -- 20
      replace HE : FT = g9_X12_hand (xso SM ad ws_22) a1.toInt a2.toInt a3.toInt := HE.trans (if_neg c_32)
      refine lv_iload_n C0.1 C0.2.1 dX12_hand_23 rfl (lv_at hl 1 rfl) ?_
      refine lv_iload_n C0.1 C0.2.1 dX12_hand_24 rfl (lv_at hl 2 rfl) ?_
      replace HE : FT = g10b_X12_hand (xso SM ad ws_22) a2.toInt a1.toInt a3.toInt := HE.trans rfl
      refine y_icmp_ne (tgt := 31) C0 dX12_hand_25 (by decide) (fun c_35 => ?_) (fun c_35 => ?_)
      · -- 25
        replace HE : FT = g11_X12_hand (xso SM ad ws_22) a1.toInt a2.toInt a3.toInt := HE.trans (if_neg c_35)
        refine lv_iload_n C0.1 C0.2.1 dX12_hand_31 rfl (lv_at hl 3 rfl) ?_
        refine y_i2l C0 dX12_hand_32 (fun w_36 e_37 => ?_)
        refine y_lc (v := 1) C0 (by decide) dX12_hand_33 (fun w_38 e_39 => ?_)
        refine y_lc2 (n := 99) C0 q_1830 (by decide) dX12_hand_34 (fun w_40 e_41 => ?_)
        refine y_ci h (y_rS (As := [.long w_36, .long w_38, .long w_40]) (rest := []) C0 hZ h (c_X12_within l G Z ad _ h.2 w_36 w_38 w_40) k_X12_within q_1580 q_1579 hl.1 rfl rfl (Nat.le_of_ble_eq_true rfl) dX12_hand_37 ⟨Nat.le_of_ble_eq_true rfl, Nat.le_of_ble_eq_true rfl⟩ ⟨Nat.le_of_ble_eq_true rfl, Nat.le_of_ble_eq_true rfl⟩) (fun r_45 H locs ws_42 h u_43 p_44 => ?_)
        obtain ⟨e_46, e_47, e_48, e_49, e_50⟩ := p_44
        replace HE : FT = g13c_X12_hand (xso SM ad ws_42) r_45.toInt a1.toInt a2.toInt a3.toInt := HE.trans (by rw [e_46, e_47, e_41, e_39, e_37]; rfl)
        replace HE : FT = g14b_X12_hand (xso SM ad ws_42) r_45.toInt a1.toInt a2.toInt a3.toInt := HE.trans rfl
        refine y_if_ne (tgt := 46) C0 dX12_hand_40 (by decide) (fun c_51 => ?_) (fun c_51 => ?_)
        · -- 40
          replace HE : FT = g15_X12_hand (xso SM ad ws_42) a1.toInt a2.toInt a3.toInt := HE.trans (if_neg c_51)
          refine lv_aload_n C0.1 C0.2.1 dX12_hand_46 rfl (lv_at hl 0 rfl) ?_
          refine ng_X12_all C0 h kSM_0 q_1439 dX12_hand_47 ?_
          refine y_c2 (n := 36) C0 (by decide) dX12_hand_50 (fun v_52 e_53 => ?_)
          refine lv_iload_n C0.1 C0.2.1 dX12_hand_52 rfl (lv_at hl 1 rfl) ?_
          refine y_add C0 (o35_355 e_6 e_13 e_14 e_15 c_17 e_21 e_28 e_29 e_30 c_32 c_35 e_53 (le_min v_52) (le_max v_52) (le_min a1) (le_max a1) (le_min r_10) (le_max r_10) (le_min a2) (le_max a2) (le_min r_25) (le_max r_25)) (o35_356 e_6 e_13 e_14 e_15 c_17 e_21 e_28 e_29 e_30 c_32 c_35 e_53 (le_min v_52) (le_max v_52) (le_min a1) (le_max a1) (le_min r_10) (le_max r_10) (le_min a2) (le_max a2) (le_min r_25) (le_max r_25)) dX12_hand_53 (fun v_54 e_55 => ?_)
          refine y_iald C0 h kSM_1 rfl (by decide) (o35_357 e_6 e_13 e_14 e_15 c_17 e_21 e_28 e_29 e_30 c_32 c_35 e_53 e_55) (o35_358 e_6 e_13 e_14 e_15 c_17 e_21 e_28 e_29 e_30 c_32 c_35 e_53 e_55) dX12_hand_54 (fun v_56 e_57 e_58 e_59 => ?_)
          have f_60 := o35_22 v_54.toInt.toNat (o35_359 e_6 e_13 e_14 e_15 c_17 e_21 e_28 e_29 e_30 c_32 c_35 e_53 e_55) (o35_360 e_6 e_13 e_14 e_15 c_17 e_21 e_28 e_29 e_30 c_32 c_35 e_53 e_55)
          refine lv_aload_n C0.1 C0.2.1 dX12_hand_55 rfl (lv_at hl 0 rfl) ?_
          refine ng_X12_all C0 h kSM_0 q_1439 dX12_hand_56 ?_
          refine y_c2 (n := 36) C0 (by decide) dX12_hand_59 (fun v_61 e_62 => ?_)
          refine lv_iload_n C0.1 C0.2.1 dX12_hand_61 rfl (lv_at hl 2 rfl) ?_
          refine y_add C0 (o35_361 e_6 e_13 e_14 e_15 c_17 e_21 e_28 e_29 e_30 c_32 c_35 e_53 e_55 e_62 (le_min v_61) (le_max v_61) (le_min a2) (le_max a2) (le_min a1) (le_max a1) (le_min r_10) (le_max r_10) (le_min r_25) (le_max r_25) (le_min v_52) (le_max v_52) (le_min v_54) (le_max v_54)) (o35_362 e_6 e_13 e_14 e_15 c_17 e_21 e_28 e_29 e_30 c_32 c_35 e_53 e_55 e_62 (le_min v_61) (le_max v_61) (le_min a2) (le_max a2) (le_min a1) (le_max a1) (le_min r_10) (le_max r_10) (le_min r_25) (le_max r_25) (le_min v_52) (le_max v_52) (le_min v_54) (le_max v_54)) dX12_hand_62 (fun v_63 e_64 => ?_)
          refine y_iald C0 h kSM_1 rfl (by decide) (o35_363 e_6 e_13 e_14 e_15 c_17 e_21 e_28 e_29 e_30 c_32 c_35 e_53 e_55 e_62 e_64) (o35_364 e_6 e_13 e_14 e_15 c_17 e_21 e_28 e_29 e_30 c_32 c_35 e_53 e_55 e_62 e_64) dX12_hand_63 (fun v_65 e_66 e_67 e_68 => ?_)
          have f_69 := o35_22 v_63.toInt.toNat (o35_365 e_6 e_13 e_14 e_15 c_17 e_21 e_28 e_29 e_30 c_32 c_35 e_53 e_55 e_62 e_64) (o35_366 e_6 e_13 e_14 e_15 c_17 e_21 e_28 e_29 e_30 c_32 c_35 e_53 e_55 e_62 e_64)
          replace HE : FT = g17b_X12_hand (xso SM ad ws_42) v_65.toInt v_56.toInt a1.toInt a2.toInt a3.toInt := HE.trans (by rw [(xg1 e_57 : v_56.toInt = (xso SM ad ws_42) 1 1 v_54.toInt.toNat), e_55, e_53, (xg1 e_66 : v_65.toInt = (xso SM ad ws_42) 1 1 v_63.toInt.toNat), e_64, e_62]; rfl)
          refine y_icmp_ne (tgt := 80) C0 dX12_hand_64 (by decide) (fun c_70 => ?_) (fun c_70 => ?_)
          · -- 64
            replace HE : FT = g18_X12_hand (xso SM ad ws_42) := HE.trans (if_neg c_70)
            refine y_c2 (n := (-5)) C0 (by decide) dX12_hand_80 (fun v_71 e_72 => ?_)
            replace HE : FT = ((xso SM ad ws_42), v_71.toInt) := HE.trans (by rw [e_72]; rfl)
            rw [hQ]
            exact y_iret C0 h (Fr.tr (Fr.tr (Fr.tr (Fr.up u_4.1 kSM_0 (by decide)) (Fr.mono u_8 (by decide))) (Fr.mono u_23 (by decide))) (Fr.mono u_43 (by decide))) ⟨(congrArg Prod.fst (HE.symm.trans hFT)), (congrArg Prod.snd (HE.symm.trans hFT)), (o35_367 e_72), (o35_368 e_72), (Pa.tr (Pa.tr (Pa.tr (Pa.ud u_4.1 (by decide)) (Pa.fr u_8 (by decide))) (Pa.fr u_23 (by decide))) (Pa.fr u_43 (by decide))), (Pw.tr (Pw.tr (Pw.tr (Pw.ud u_4.1 (by decide)) (Pw.fr u_8 (by decide))) (Pw.fr u_23 (by decide))) (Pw.fr u_43 (by decide)))⟩ dX12_hand_82
          · -- 64
            replace HE : FT = g19_X12_hand (xso SM ad ws_42) a1.toInt a2.toInt a3.toInt := HE.trans (if_pos c_70)
            refine lv_aload_n C0.1 C0.2.1 dX12_hand_67 rfl (lv_at hl 0 rfl) ?_
            refine ng_X12_all C0 h kSM_0 q_1439 dX12_hand_68 ?_
            refine y_c2 (n := 46) C0 (by decide) dX12_hand_71 (fun v_73 e_74 => ?_)
            refine lv_iload_n C0.1 C0.2.1 dX12_hand_73 rfl (lv_at hl 1 rfl) ?_
            refine y_add C0 (o35_369 e_6 e_13 e_14 e_15 c_17 e_21 e_28 e_29 e_30 c_32 c_35 e_53 e_55 e_62 e_64 e_74 (le_min v_73) (le_max v_73) (le_min a1) (le_max a1) (le_min r_10) (le_max r_10) (le_min a2) (le_max a2) (le_min r_25) (le_max r_25) (le_min v_52) (le_max v_52) (le_min v_54) (le_max v_54) (le_min v_61) (le_max v_61) (le_min v_63) (le_max v_63)) (o35_370 e_6 e_13 e_14 e_15 c_17 e_21 e_28 e_29 e_30 c_32 c_35 e_53 e_55 e_62 e_64 e_74 (le_min v_73) (le_max v_73) (le_min a1) (le_max a1) (le_min r_10) (le_max r_10) (le_min a2) (le_max a2) (le_min r_25) (le_max r_25) (le_min v_52) (le_max v_52) (le_min v_54) (le_max v_54) (le_min v_61) (le_max v_61) (le_min v_63) (le_max v_63)) dX12_hand_74 (fun v_75 e_76 => ?_)
            refine y_iald C0 h kSM_1 rfl (by decide) (o35_371 e_6 e_13 e_14 e_15 c_17 e_21 e_28 e_29 e_30 c_32 c_35 e_53 e_55 e_62 e_64 e_74 e_76) (o35_372 e_6 e_13 e_14 e_15 c_17 e_21 e_28 e_29 e_30 c_32 c_35 e_53 e_55 e_62 e_64 e_74 e_76) dX12_hand_75 (fun v_77 e_78 e_79 e_80 => ?_)
            have f_81 := o35_36 v_75.toInt.toNat (o35_373 e_6 e_13 e_14 e_15 c_17 e_21 e_28 e_29 e_30 c_32 c_35 e_53 e_55 e_62 e_64 e_74 e_76) (o35_374 e_6 e_13 e_14 e_15 c_17 e_21 e_28 e_29 e_30 c_32 c_35 e_53 e_55 e_62 e_64 e_74 e_76)
            refine lv_iload_n C0.1 C0.2.1 dX12_hand_76 rfl (lv_at hl 3 rfl) ?_
            replace HE : FT = g20b_X12_hand (xso SM ad ws_42) a3.toInt v_77.toInt a1.toInt a2.toInt := HE.trans (by rw [(xg1 e_78 : v_77.toInt = (xso SM ad ws_42) 1 1 v_75.toInt.toNat), e_76, e_74]; rfl)
            refine y_icmp_ge (tgt := 83) C0 dX12_hand_77 (by decide) (fun c_82 => ?_) (fun c_82 => ?_)
            · -- 77
              replace HE : FT = g21_X12_hand (xso SM ad ws_42) a1.toInt a2.toInt a3.toInt := HE.trans (if_neg (Int.not_lt.mpr c_82))
              refine lv_aload_n C0.1 C0.2.1 dX12_hand_83 rfl (lv_at hl 0 rfl) ?_
              refine ng_X12_all C0 h kSM_0 q_1439 dX12_hand_84 ?_
              refine y_c2 (n := 46) C0 (by decide) dX12_hand_87 (fun v_83 e_84 => ?_)
              refine lv_iload_n C0.1 C0.2.1 dX12_hand_89 rfl (lv_at hl 2 rfl) ?_
              refine y_add C0 (o35_375 e_6 e_13 e_14 e_15 c_17 e_21 e_28 e_29 e_30 c_32 c_35 e_53 e_55 e_62 e_64 e_74 e_76 e_84 (le_min v_83) (le_max v_83) (le_min a2) (le_max a2) (le_min a1) (le_max a1) (le_min r_10) (le_max r_10) (le_min r_25) (le_max r_25) (le_min v_52) (le_max v_52) (le_min v_54) (le_max v_54) (le_min v_61) (le_max v_61) (le_min v_63) (le_max v_63) (le_min v_73) (le_max v_73) (le_min v_75) (le_max v_75)) (o35_376 e_6 e_13 e_14 e_15 c_17 e_21 e_28 e_29 e_30 c_32 c_35 e_53 e_55 e_62 e_64 e_74 e_76 e_84 (le_min v_83) (le_max v_83) (le_min a2) (le_max a2) (le_min a1) (le_max a1) (le_min r_10) (le_max r_10) (le_min r_25) (le_max r_25) (le_min v_52) (le_max v_52) (le_min v_54) (le_max v_54) (le_min v_61) (le_max v_61) (le_min v_63) (le_max v_63) (le_min v_73) (le_max v_73) (le_min v_75) (le_max v_75)) dX12_hand_90 (fun v_85 e_86 => ?_)
              refine y_iald C0 h kSM_1 rfl (by decide) (o35_377 e_6 e_13 e_14 e_15 c_17 e_21 e_28 e_29 e_30 c_32 c_35 e_53 e_55 e_62 e_64 e_74 e_76 e_84 e_86) (o35_378 e_6 e_13 e_14 e_15 c_17 e_21 e_28 e_29 e_30 c_32 c_35 e_53 e_55 e_62 e_64 e_74 e_76 e_84 e_86) dX12_hand_91 (fun v_87 e_88 e_89 e_90 => ?_)
              have f_91 := o35_36 v_85.toInt.toNat (o35_379 e_6 e_13 e_14 e_15 c_17 e_21 e_28 e_29 e_30 c_32 c_35 e_53 e_55 e_62 e_64 e_74 e_76 e_84 e_86) (o35_380 e_6 e_13 e_14 e_15 c_17 e_21 e_28 e_29 e_30 c_32 c_35 e_53 e_55 e_62 e_64 e_74 e_76 e_84 e_86)
              refine lv_iload_n C0.1 C0.2.1 dX12_hand_92 rfl (lv_at hl 3 rfl) ?_
              refine y_add C0 (o35_381 e_37 e_39 e_41 e_48 e_49 e_50 c_51 (Int.le_trans f_81.1 e_79) (Int.le_trans e_80 f_81.2) c_82 (Int.le_trans f_91.1 e_89) (Int.le_trans e_90 f_91.2) (le_min v_87) (le_max v_87) (le_min a3) (le_max a3) (le_min r_45) (le_max r_45) (le_min v_77) (le_max v_77)) (o35_382 e_37 e_39 e_41 e_48 e_49 e_50 c_51 (Int.le_trans f_81.1 e_79) (Int.le_trans e_80 f_81.2) c_82 (Int.le_trans f_91.1 e_89) (Int.le_trans e_90 f_91.2) (le_min v_87) (le_max v_87) (le_min a3) (le_max a3) (le_min r_45) (le_max r_45) (le_min v_77) (le_max v_77)) dX12_hand_93 (fun v_92 e_93 => ?_)
              refine y_c2 (n := 99) C0 (by decide) dX12_hand_94 (fun v_94 e_95 => ?_)
              replace HE : FT = g23b_X12_hand (xso SM ad ws_42) v_92.toInt a1.toInt a2.toInt a3.toInt := HE.trans (by rw [e_93, (xg1 e_88 : v_87.toInt = (xso SM ad ws_42) 1 1 v_85.toInt.toNat), e_86, e_84]; rfl)
              refine y_icmp_le (tgt := 102) C0 dX12_hand_96 (by decide) (fun c_96 => ?_) (fun c_96 => ?_)
              · -- 96
                replace HE : FT = g24_X12_hand (xso SM ad ws_42) a1.toInt a2.toInt a3.toInt := HE.trans (if_neg (o35_383 e_37 e_39 e_41 e_48 e_49 e_50 c_51 (Int.le_trans f_81.1 e_79) (Int.le_trans e_80 f_81.2) c_82 (Int.le_trans f_91.1 e_89) (Int.le_trans e_90 f_91.2) e_93 e_95 c_96))
                refine lv_aload_n C0.1 C0.2.1 dX12_hand_102 rfl (lv_at hl 0 rfl) ?_
                refine y_cv h (y_rV (As := []) (rest := []) C0 hZ h (c_X12_keeps l G Z ad _ h.2) k_X12_keeps q_1777 q_88 q_1775 kSM_0 rfl rfl rfl hl.1 rfl rfl (Nat.le_of_ble_eq_true rfl) dX12_hand_103 ⟨Nat.le_of_ble_eq_true rfl, Nat.le_of_ble_eq_true rfl⟩ ⟨Nat.le_of_ble_eq_true rfl, Nat.le_of_ble_eq_true rfl⟩) (fun H locs ws_97 h u_98 p_99 => ?_)
                have e_100 := p_99
                replace HE : FT = g26c_X12_hand (xso SM ad ws_97) a1.toInt a2.toInt a3.toInt := HE.trans (by rw [e_100]; rfl)
                refine lv_aload_n C0.1 C0.2.1 dX12_hand_106 rfl (lv_at hl 0 rfl) ?_
                refine ng_X12_all C0 h kSM_0 q_1439 dX12_hand_107 ?_
                refine y_c2 (n := 46) C0 (by decide) dX12_hand_110 (fun v_101 e_102 => ?_)
                refine lv_iload_n C0.1 C0.2.1 dX12_hand_112 rfl (lv_at hl 1 rfl) ?_
                refine y_add C0 (o35_385 e_6 e_13 e_14 e_15 c_17 e_21 e_28 e_29 e_30 c_32 c_35 e_53 e_55 e_62 e_64 e_74 e_76 e_84 e_86 e_102 (le_min v_101) (le_max v_101) (le_min a1) (le_max a1) (le_min r_10) (le_max r_10) (le_min a2) (le_max a2) (le_min r_25) (le_max r_25) (le_min v_52) (le_max v_52) (le_min v_54) (le_max v_54) (le_min v_61) (le_max v_61) (le_min v_63) (le_max v_63) (le_min v_73) (le_max v_73) (le_min v_75) (le_max v_75) (le_min v_83) (le_max v_83) (le_min v_85) (le_max v_85)) (o35_386 e_6 e_13 e_14 e_15 c_17 e_21 e_28 e_29 e_30 c_32 c_35 e_53 e_55 e_62 e_64 e_74 e_76 e_84 e_86 e_102 (le_min v_101) (le_max v_101) (le_min a1) (le_max a1) (le_min r_10) (le_max r_10) (le_min a2) (le_max a2) (le_min r_25) (le_max r_25) (le_min v_52) (le_max v_52) (le_min v_54) (le_max v_54) (le_min v_61) (le_max v_61) (le_min v_63) (le_max v_63) (le_min v_73) (le_max v_73) (le_min v_75) (le_max v_75) (le_min v_83) (le_max v_83) (le_min v_85) (le_max v_85)) dX12_hand_113 (fun v_103 e_104 => ?_)
                refine lv_dup2_11 C0.1 C0.2.1 dX12_hand_114 rfl rfl ?_
                refine y_iald C0 h kSM_1 rfl (by decide) (o35_387 e_6 e_13 e_14 e_15 c_17 e_21 e_28 e_29 e_30 c_32 c_35 e_53 e_55 e_62 e_64 e_74 e_76 e_84 e_86 e_102 e_104) (o35_388 e_6 e_13 e_14 e_15 c_17 e_21 e_28 e_29 e_30 c_32 c_35 e_53 e_55 e_62 e_64 e_74 e_76 e_84 e_86 e_102 e_104) dX12_hand_115 (fun v_105 e_106 e_107 e_108 => ?_)
                have f_109 := o35_36 v_103.toInt.toNat (o35_389 e_6 e_13 e_14 e_15 c_17 e_21 e_28 e_29 e_30 c_32 c_35 e_53 e_55 e_62 e_64 e_74 e_76 e_84 e_86 e_102 e_104) (o35_390 e_6 e_13 e_14 e_15 c_17 e_21 e_28 e_29 e_30 c_32 c_35 e_53 e_55 e_62 e_64 e_74 e_76 e_84 e_86 e_102 e_104)
                have qh_110 : v_105.toInt = v_77.toInt := congrArg Int32.toInt (e_106.symm.trans (Eq.trans (congrArg (aI ws_97 1) (o35_391 e_6 e_13 e_14 e_15 c_17 e_21 e_28 e_29 e_30 c_32 c_35 e_53 e_55 e_62 e_64 e_74 e_76 e_84 e_86 e_102 e_104)) (Eq.trans (Fr.aI u_98 kSM_1 (by decide)) e_78)))
                refine lv_iload_n C0.1 C0.2.1 dX12_hand_116 rfl (lv_at hl 3 rfl) ?_
                refine y_sub C0 (o35_392 e_37 e_39 e_41 e_48 e_49 e_50 c_51 (Int.le_trans f_81.1 e_79) (Int.le_trans e_80 f_81.2) c_82 (Int.le_trans f_91.1 e_89) (Int.le_trans e_90 f_91.2) e_93 e_95 c_96 (Int.le_trans f_109.1 e_107) (Int.le_trans e_108 f_109.2) qh_110 (le_min v_105) (le_max v_105) (le_min a3) (le_max a3) (le_min r_45) (le_max r_45) (le_min v_77) (le_max v_77) (le_min v_87) (le_max v_87) (le_min v_92) (le_max v_92) (le_min v_94) (le_max v_94)) (o35_393 e_37 e_39 e_41 e_48 e_49 e_50 c_51 (Int.le_trans f_81.1 e_79) (Int.le_trans e_80 f_81.2) c_82 (Int.le_trans f_91.1 e_89) (Int.le_trans e_90 f_91.2) e_93 e_95 c_96 (Int.le_trans f_109.1 e_107) (Int.le_trans e_108 f_109.2) qh_110 (le_min v_105) (le_max v_105) (le_min a3) (le_max a3) (le_min r_45) (le_max r_45) (le_min v_77) (le_max v_77) (le_min v_87) (le_max v_87) (le_min v_92) (le_max v_92) (le_min v_94) (le_max v_94)) dX12_hand_117 (fun v_111 e_112 => ?_)
                have hO_115 := h.2
                have f_116 := o35_280 v_103.toInt.toNat (o35_389 e_6 e_13 e_14 e_15 c_17 e_21 e_28 e_29 e_30 c_32 c_35 e_53 e_55 e_62 e_64 e_74 e_76 e_84 e_86 e_102 e_104) (o35_390 e_6 e_13 e_14 e_15 c_17 e_21 e_28 e_29 e_30 c_32 c_35 e_53 e_55 e_62 e_64 e_74 e_76 e_84 e_86 e_102 e_104)
                refine y_iast C0 h kSM_1 rfl (by decide) (o35_387 e_6 e_13 e_14 e_15 c_17 e_21 e_28 e_29 e_30 c_32 c_35 e_53 e_55 e_62 e_64 e_74 e_76 e_84 e_86 e_102 e_104) (o35_388 e_6 e_13 e_14 e_15 c_17 e_21 e_28 e_29 e_30 c_32 c_35 e_53 e_55 e_62 e_64 e_74 e_76 e_84 e_86 e_102 e_104) (Int.le_trans f_116.1 (o35_394 e_37 e_39 e_41 e_48 e_49 e_50 c_51 (Int.le_trans f_81.1 e_79) (Int.le_trans e_80 f_81.2) c_82 (Int.le_trans f_91.1 e_89) (Int.le_trans e_90 f_91.2) e_93 e_95 c_96 (Int.le_trans f_109.1 e_107) (Int.le_trans e_108 f_109.2) qh_110 e_112)) (Int.le_trans (o35_395 e_37 e_39 e_41 e_48 e_49 e_50 c_51 (Int.le_trans f_81.1 e_79) (Int.le_trans e_80 f_81.2) c_82 (Int.le_trans f_91.1 e_89) (Int.le_trans e_90 f_91.2) e_93 e_95 c_96 (Int.le_trans f_109.1 e_107) (Int.le_trans e_108 f_109.2) qh_110 e_112) f_116.2) dX12_hand_118 (fun H locs ws_113 h u_114 => ?_)
                replace HE : FT = g27w_X12_hand (xso SM ad ws_113) a2.toInt a3.toInt := HE.trans (by rw [(xso_A (i := 1) hO_115 h.2 kSM_1 rfl u_114), e_112, (xg1 e_106 : v_105.toInt = (xso SM ad ws_97) 1 1 v_103.toInt.toNat), e_104, e_102]; rfl)
                refine lv_aload_n C0.1 C0.2.1 dX12_hand_119 rfl (lv_at hl 0 rfl) ?_
                refine ng_X12_all C0 h kSM_0 q_1439 dX12_hand_120 ?_
                refine y_c2 (n := 46) C0 (by decide) dX12_hand_123 (fun v_117 e_118 => ?_)
                refine lv_iload_n C0.1 C0.2.1 dX12_hand_125 rfl (lv_at hl 2 rfl) ?_
                refine y_add C0 (o35_399 e_6 e_13 e_14 e_15 c_17 e_21 e_28 e_29 e_30 c_32 c_35 e_53 e_55 e_62 e_64 e_74 e_76 e_84 e_86 e_102 e_104 e_118 (le_min v_117) (le_max v_117) (le_min a2) (le_max a2) (le_min a1) (le_max a1) (le_min r_10) (le_max r_10) (le_min r_25) (le_max r_25) (le_min v_52) (le_max v_52) (le_min v_54) (le_max v_54) (le_min v_61) (le_max v_61) (le_min v_63) (le_max v_63) (le_min v_73) (le_max v_73) (le_min v_75) (le_max v_75) (le_min v_83) (le_max v_83) (le_min v_85) (le_max v_85) (le_min v_101) (le_max v_101) (le_min v_103) (le_max v_103)) (o35_400 e_6 e_13 e_14 e_15 c_17 e_21 e_28 e_29 e_30 c_32 c_35 e_53 e_55 e_62 e_64 e_74 e_76 e_84 e_86 e_102 e_104 e_118 (le_min v_117) (le_max v_117) (le_min a2) (le_max a2) (le_min a1) (le_max a1) (le_min r_10) (le_max r_10) (le_min r_25) (le_max r_25) (le_min v_52) (le_max v_52) (le_min v_54) (le_max v_54) (le_min v_61) (le_max v_61) (le_min v_63) (le_max v_63) (le_min v_73) (le_max v_73) (le_min v_75) (le_max v_75) (le_min v_83) (le_max v_83) (le_min v_85) (le_max v_85) (le_min v_101) (le_max v_101) (le_min v_103) (le_max v_103)) dX12_hand_126 (fun v_119 e_120 => ?_)
                refine lv_dup2_11 C0.1 C0.2.1 dX12_hand_127 rfl rfl ?_
                refine y_iald C0 h kSM_1 rfl (by decide) (o35_401 e_6 e_13 e_14 e_15 c_17 e_21 e_28 e_29 e_30 c_32 c_35 e_53 e_55 e_62 e_64 e_74 e_76 e_84 e_86 e_102 e_104 e_118 e_120) (o35_402 e_6 e_13 e_14 e_15 c_17 e_21 e_28 e_29 e_30 c_32 c_35 e_53 e_55 e_62 e_64 e_74 e_76 e_84 e_86 e_102 e_104 e_118 e_120) dX12_hand_128 (fun v_121 e_122 e_123 e_124 => ?_)
                have f_125 := o35_36 v_119.toInt.toNat (o35_403 e_6 e_13 e_14 e_15 c_17 e_21 e_28 e_29 e_30 c_32 c_35 e_53 e_55 e_62 e_64 e_74 e_76 e_84 e_86 e_102 e_104 e_118 e_120) (o35_404 e_6 e_13 e_14 e_15 c_17 e_21 e_28 e_29 e_30 c_32 c_35 e_53 e_55 e_62 e_64 e_74 e_76 e_84 e_86 e_102 e_104 e_118 e_120)
                have qh_126 : v_121.toInt = v_87.toInt := congrArg Int32.toInt (e_122.symm.trans (Eq.trans (congrArg (aI ws_113 1) (o35_406 e_6 e_13 e_14 e_15 c_17 e_21 e_28 e_29 e_30 c_32 c_35 e_53 e_55 e_62 e_64 e_74 e_76 e_84 e_86 e_102 e_104 e_118 e_120)) (Eq.trans (Eq.trans (u_114.2.2 v_85.toInt.toNat (o35_405 e_6 e_13 e_14 e_15 c_17 e_21 e_28 e_29 e_30 c_32 c_35 e_53 e_55 e_62 e_64 e_74 e_76 e_84 e_86 e_102 e_104 e_118 e_120)) (Fr.aI u_98 kSM_1 (by decide))) e_88)))
                refine lv_iload_n C0.1 C0.2.1 dX12_hand_129 rfl (lv_at hl 3 rfl) ?_
                refine y_add C0 (o35_407 e_37 e_39 e_41 e_48 e_49 e_50 c_51 (Int.le_trans f_81.1 e_79) (Int.le_trans e_80 f_81.2) c_82 (Int.le_trans f_91.1 e_89) (Int.le_trans e_90 f_91.2) e_93 e_95 c_96 (Int.le_trans f_109.1 e_107) (Int.le_trans e_108 f_109.2) qh_110 e_112 (Int.le_trans f_125.1 e_123) (Int.le_trans e_124 f_125.2) qh_126 (le_min v_121) (le_max v_121) (le_min a3) (le_max a3) (le_min r_45) (le_max r_45) (le_min v_77) (le_max v_77) (le_min v_87) (le_max v_87) (le_min v_92) (le_max v_92) (le_min v_94) (le_max v_94) (le_min v_105) (le_max v_105) (le_min v_111) (le_max v_111)) (o35_408 e_37 e_39 e_41 e_48 e_49 e_50 c_51 (Int.le_trans f_81.1 e_79) (Int.le_trans e_80 f_81.2) c_82 (Int.le_trans f_91.1 e_89) (Int.le_trans e_90 f_91.2) e_93 e_95 c_96 (Int.le_trans f_109.1 e_107) (Int.le_trans e_108 f_109.2) qh_110 e_112 (Int.le_trans f_125.1 e_123) (Int.le_trans e_124 f_125.2) qh_126 (le_min v_121) (le_max v_121) (le_min a3) (le_max a3) (le_min r_45) (le_max r_45) (le_min v_77) (le_max v_77) (le_min v_87) (le_max v_87) (le_min v_92) (le_max v_92) (le_min v_94) (le_max v_94) (le_min v_105) (le_max v_105) (le_min v_111) (le_max v_111)) dX12_hand_130 (fun v_127 e_128 => ?_)
                have hO_131 := h.2
                have f_132 := o35_280 v_119.toInt.toNat (o35_403 e_6 e_13 e_14 e_15 c_17 e_21 e_28 e_29 e_30 c_32 c_35 e_53 e_55 e_62 e_64 e_74 e_76 e_84 e_86 e_102 e_104 e_118 e_120) (o35_404 e_6 e_13 e_14 e_15 c_17 e_21 e_28 e_29 e_30 c_32 c_35 e_53 e_55 e_62 e_64 e_74 e_76 e_84 e_86 e_102 e_104 e_118 e_120)
                refine y_iast C0 h kSM_1 rfl (by decide) (o35_401 e_6 e_13 e_14 e_15 c_17 e_21 e_28 e_29 e_30 c_32 c_35 e_53 e_55 e_62 e_64 e_74 e_76 e_84 e_86 e_102 e_104 e_118 e_120) (o35_402 e_6 e_13 e_14 e_15 c_17 e_21 e_28 e_29 e_30 c_32 c_35 e_53 e_55 e_62 e_64 e_74 e_76 e_84 e_86 e_102 e_104 e_118 e_120) (Int.le_trans f_132.1 (o35_409 e_37 e_39 e_41 e_48 e_49 e_50 c_51 (Int.le_trans f_81.1 e_79) (Int.le_trans e_80 f_81.2) c_82 (Int.le_trans f_91.1 e_89) (Int.le_trans e_90 f_91.2) e_93 e_95 c_96 (Int.le_trans f_109.1 e_107) (Int.le_trans e_108 f_109.2) qh_110 e_112 (Int.le_trans f_125.1 e_123) (Int.le_trans e_124 f_125.2) qh_126 e_128)) (Int.le_trans (o35_410 e_37 e_39 e_41 e_48 e_49 e_50 c_51 (Int.le_trans f_81.1 e_79) (Int.le_trans e_80 f_81.2) c_82 (Int.le_trans f_91.1 e_89) (Int.le_trans e_90 f_91.2) e_93 e_95 c_96 (Int.le_trans f_109.1 e_107) (Int.le_trans e_108 f_109.2) qh_110 e_112 (Int.le_trans f_125.1 e_123) (Int.le_trans e_124 f_125.2) qh_126 e_128) f_132.2) dX12_hand_131 (fun H locs ws_129 h u_130 => ?_)
                replace HE : FT = g28w_X12_hand (xso SM ad ws_129) a2.toInt := HE.trans (by rw [(xso_A (i := 1) hO_131 h.2 kSM_1 rfl u_130), e_128, (xg1 e_122 : v_121.toInt = (xso SM ad ws_113) 1 1 v_119.toInt.toNat), e_120, e_118]; rfl)
                refine lv_aload_n C0.1 C0.2.1 dX12_hand_132 rfl (lv_at hl 0 rfl) ?_
                refine y_cv h (y_rV (As := []) (rest := []) C0 hZ h (c_X12_notes l G Z ad _ h.2) k_X12_notes q_1788 q_90 q_1786 kSM_0 rfl rfl rfl hl.1 rfl rfl (Nat.le_of_ble_eq_true rfl) dX12_hand_133 ⟨Nat.le_of_ble_eq_true rfl, Nat.le_of_ble_eq_true rfl⟩ ⟨Nat.le_of_ble_eq_true rfl, Nat.le_of_ble_eq_true rfl⟩) (fun H locs ws_133 h u_134 p_135 => ?_)
                obtain ⟨e_136, e_137, e_138⟩ := p_135
                replace HE : FT = g29c_X12_hand (xso SM ad ws_133) a2.toInt := HE.trans (by rw [e_136]; rfl)
                refine lv_aload_n C0.1 C0.2.1 dX12_hand_136 rfl (lv_at hl 0 rfl) ?_
                refine ng_X12_all C0 h kSM_0 q_1439 dX12_hand_137 ?_
                refine y_c2 (n := 46) C0 (by decide) dX12_hand_140 (fun v_139 e_140 => ?_)
                refine lv_iload_n C0.1 C0.2.1 dX12_hand_142 rfl (lv_at hl 2 rfl) ?_
                refine y_add C0 (o35_414 e_6 e_13 e_14 e_15 c_17 e_21 e_28 e_29 e_30 c_32 c_35 e_53 e_55 e_62 e_64 e_74 e_76 e_84 e_86 e_102 e_104 e_118 e_120 e_140 (le_min v_139) (le_max v_139) (le_min a2) (le_max a2) (le_min a1) (le_max a1) (le_min r_10) (le_max r_10) (le_min r_25) (le_max r_25) (le_min v_52) (le_max v_52) (le_min v_54) (le_max v_54) (le_min v_61) (le_max v_61) (le_min v_63) (le_max v_63) (le_min v_73) (le_max v_73) (le_min v_75) (le_max v_75) (le_min v_83) (le_max v_83) (le_min v_85) (le_max v_85) (le_min v_101) (le_max v_101) (le_min v_103) (le_max v_103) (le_min v_117) (le_max v_117) (le_min v_119) (le_max v_119)) (o35_415 e_6 e_13 e_14 e_15 c_17 e_21 e_28 e_29 e_30 c_32 c_35 e_53 e_55 e_62 e_64 e_74 e_76 e_84 e_86 e_102 e_104 e_118 e_120 e_140 (le_min v_139) (le_max v_139) (le_min a2) (le_max a2) (le_min a1) (le_max a1) (le_min r_10) (le_max r_10) (le_min r_25) (le_max r_25) (le_min v_52) (le_max v_52) (le_min v_54) (le_max v_54) (le_min v_61) (le_max v_61) (le_min v_63) (le_max v_63) (le_min v_73) (le_max v_73) (le_min v_75) (le_max v_75) (le_min v_83) (le_max v_83) (le_min v_85) (le_max v_85) (le_min v_101) (le_max v_101) (le_min v_103) (le_max v_103) (le_min v_117) (le_max v_117) (le_min v_119) (le_max v_119)) dX12_hand_143 (fun v_141 e_142 => ?_)
                refine y_iald C0 h kSM_1 rfl (by decide) (o35_416 e_6 e_13 e_14 e_15 c_17 e_21 e_28 e_29 e_30 c_32 c_35 e_53 e_55 e_62 e_64 e_74 e_76 e_84 e_86 e_102 e_104 e_118 e_120 e_140 e_142) (o35_417 e_6 e_13 e_14 e_15 c_17 e_21 e_28 e_29 e_30 c_32 c_35 e_53 e_55 e_62 e_64 e_74 e_76 e_84 e_86 e_102 e_104 e_118 e_120 e_140 e_142) dX12_hand_144 (fun v_143 e_144 e_145 e_146 => ?_)
                have f_147 := o35_36 v_141.toInt.toNat (o35_418 e_6 e_13 e_14 e_15 c_17 e_21 e_28 e_29 e_30 c_32 c_35 e_53 e_55 e_62 e_64 e_74 e_76 e_84 e_86 e_102 e_104 e_118 e_120 e_140 e_142) (o35_419 e_6 e_13 e_14 e_15 c_17 e_21 e_28 e_29 e_30 c_32 c_35 e_53 e_55 e_62 e_64 e_74 e_76 e_84 e_86 e_102 e_104 e_118 e_120 e_140 e_142)
                replace HE : FT = ((xso SM ad ws_133), v_143.toInt) := HE.trans (by rw [(xg1 e_144 : v_143.toInt = (xso SM ad ws_133) 1 1 v_141.toInt.toNat), e_142, e_140]; rfl)
                rw [hQ]
                exact y_iret C0 h (Fr.tr (Fr.tr (Fr.tr (Fr.tr (Fr.tr (Fr.tr (Fr.tr (Fr.up u_4.1 kSM_0 (by decide)) (Fr.mono u_8 (by decide))) (Fr.mono u_23 (by decide))) (Fr.mono u_43 (by decide))) (Fr.mono u_98 (by decide))) (Fr.up u_114.1 kSM_1 (by decide))) (Fr.up u_130.1 kSM_1 (by decide))) (Fr.mono u_134 (by decide))) ⟨(congrArg Prod.fst (HE.symm.trans hFT)), (congrArg Prod.snd (HE.symm.trans hFT)), (o35_420 (Int.le_trans f_147.1 e_145) (Int.le_trans e_146 f_147.2)), (o35_421 (Int.le_trans f_147.1 e_145) (Int.le_trans e_146 f_147.2)), (Pa.tr (Pa.tr (Pa.tr (Pa.tr (Pa.tr (Pa.tr (Pa.tr (Pa.ud u_4.1 (by decide)) (Pa.fr u_8 (by decide))) (Pa.fr u_23 (by decide))) (Pa.fr u_43 (by decide))) (Pa.fr u_98 (by decide))) (Pa.st u_114 (o35_397 e_6 e_13 e_14 e_15 c_17 e_21 e_28 e_29 e_30 c_32 c_35 e_53 e_55 e_62 e_64 e_74 e_76 e_84 e_86 e_102 e_104) (o35_398 e_6 e_13 e_14 e_15 c_17 e_21 e_28 e_29 e_30 c_32 c_35 e_53 e_55 e_62 e_64 e_74 e_76 e_84 e_86 e_102 e_104))) (Pa.st u_130 (o35_412 e_6 e_13 e_14 e_15 c_17 e_21 e_28 e_29 e_30 c_32 c_35 e_53 e_55 e_62 e_64 e_74 e_76 e_84 e_86 e_102 e_104 e_118 e_120) (o35_413 e_6 e_13 e_14 e_15 c_17 e_21 e_28 e_29 e_30 c_32 c_35 e_53 e_55 e_62 e_64 e_74 e_76 e_84 e_86 e_102 e_104 e_118 e_120))) e_137), (Pw.tr (Pw.tr (Pw.tr (Pw.tr (Pw.tr (Pw.tr (Pw.tr (Pw.ud u_4.1 (by decide)) (Pw.fr u_8 (by decide))) (Pw.fr u_23 (by decide))) (Pw.fr u_43 (by decide))) (Pw.fr u_98 (by decide))) (Pw.st u_114 (o35_396 e_6 e_13 e_14 e_15 c_17 e_21 e_28 e_29 e_30 c_32 c_35 e_53 e_55 e_62 e_64 e_74 e_76 e_84 e_86 e_102 e_104))) (Pw.st u_130 (o35_411 e_6 e_13 e_14 e_15 c_17 e_21 e_28 e_29 e_30 c_32 c_35 e_53 e_55 e_62 e_64 e_74 e_76 e_84 e_86 e_102 e_104 e_118 e_120))) e_138)⟩ dX12_hand_145
              · -- 96
                replace HE : FT = g25_X12_hand (xso SM ad ws_42) := HE.trans (if_pos (o35_384 e_37 e_39 e_41 e_48 e_49 e_50 c_51 (Int.le_trans f_81.1 e_79) (Int.le_trans e_80 f_81.2) c_82 (Int.le_trans f_91.1 e_89) (Int.le_trans e_90 f_91.2) e_93 e_95 c_96))
                refine y_c2 (n := (-4)) C0 (by decide) dX12_hand_99 (fun v_148 e_149 => ?_)
                replace HE : FT = ((xso SM ad ws_42), v_148.toInt) := HE.trans (by rw [e_149]; rfl)
                rw [hQ]
                exact y_iret C0 h (Fr.tr (Fr.tr (Fr.tr (Fr.up u_4.1 kSM_0 (by decide)) (Fr.mono u_8 (by decide))) (Fr.mono u_23 (by decide))) (Fr.mono u_43 (by decide))) ⟨(congrArg Prod.fst (HE.symm.trans hFT)), (congrArg Prod.snd (HE.symm.trans hFT)), (o35_422 e_149), (o35_423 e_149), (Pa.tr (Pa.tr (Pa.tr (Pa.ud u_4.1 (by decide)) (Pa.fr u_8 (by decide))) (Pa.fr u_23 (by decide))) (Pa.fr u_43 (by decide))), (Pw.tr (Pw.tr (Pw.tr (Pw.ud u_4.1 (by decide)) (Pw.fr u_8 (by decide))) (Pw.fr u_23 (by decide))) (Pw.fr u_43 (by decide)))⟩ dX12_hand_101
            · -- 77
              replace HE : FT = g22_X12_hand (xso SM ad ws_42) := HE.trans (if_pos c_82)
              refine y_c2 (n := (-5)) C0 (by decide) dX12_hand_80 (fun v_150 e_151 => ?_)
              replace HE : FT = ((xso SM ad ws_42), v_150.toInt) := HE.trans (by rw [e_151]; rfl)
              rw [hQ]
              exact y_iret C0 h (Fr.tr (Fr.tr (Fr.tr (Fr.up u_4.1 kSM_0 (by decide)) (Fr.mono u_8 (by decide))) (Fr.mono u_23 (by decide))) (Fr.mono u_43 (by decide))) ⟨(congrArg Prod.fst (HE.symm.trans hFT)), (congrArg Prod.snd (HE.symm.trans hFT)), (o35_367 e_151), (o35_368 e_151), (Pa.tr (Pa.tr (Pa.tr (Pa.ud u_4.1 (by decide)) (Pa.fr u_8 (by decide))) (Pa.fr u_23 (by decide))) (Pa.fr u_43 (by decide))), (Pw.tr (Pw.tr (Pw.tr (Pw.ud u_4.1 (by decide)) (Pw.fr u_8 (by decide))) (Pw.fr u_23 (by decide))) (Pw.fr u_43 (by decide)))⟩ dX12_hand_82
        · -- 40
          replace HE : FT = g16_X12_hand (xso SM ad ws_42) := HE.trans (if_pos c_51)
          refine y_c2 (n := (-3)) C0 (by decide) dX12_hand_43 (fun v_152 e_153 => ?_)
          replace HE : FT = ((xso SM ad ws_42), v_152.toInt) := HE.trans (by rw [e_153]; rfl)
          rw [hQ]
          exact y_iret C0 h (Fr.tr (Fr.tr (Fr.tr (Fr.up u_4.1 kSM_0 (by decide)) (Fr.mono u_8 (by decide))) (Fr.mono u_23 (by decide))) (Fr.mono u_43 (by decide))) ⟨(congrArg Prod.fst (HE.symm.trans hFT)), (congrArg Prod.snd (HE.symm.trans hFT)), (o35_424 e_153), (o35_425 e_153), (Pa.tr (Pa.tr (Pa.tr (Pa.ud u_4.1 (by decide)) (Pa.fr u_8 (by decide))) (Pa.fr u_23 (by decide))) (Pa.fr u_43 (by decide))), (Pw.tr (Pw.tr (Pw.tr (Pw.ud u_4.1 (by decide)) (Pw.fr u_8 (by decide))) (Pw.fr u_23 (by decide))) (Pw.fr u_43 (by decide)))⟩ dX12_hand_45
      · -- 25
        replace HE : FT = g12_X12_hand (xso SM ad ws_22) := HE.trans (if_pos c_35)
        refine y_c2 (n := (-2)) C0 (by decide) dX12_hand_28 (fun v_154 e_155 => ?_)
        replace HE : FT = ((xso SM ad ws_22), v_154.toInt) := HE.trans (by rw [e_155]; rfl)
        rw [hQ]
        exact y_iret C0 h (Fr.tr (Fr.tr (Fr.up u_4.1 kSM_0 (by decide)) (Fr.mono u_8 (by decide))) (Fr.mono u_23 (by decide))) ⟨(congrArg Prod.fst (HE.symm.trans hFT)), (congrArg Prod.snd (HE.symm.trans hFT)), (o35_353 e_155), (o35_354 e_155), (Pa.tr (Pa.tr (Pa.ud u_4.1 (by decide)) (Pa.fr u_8 (by decide))) (Pa.fr u_23 (by decide))), (Pw.tr (Pw.tr (Pw.ud u_4.1 (by decide)) (Pw.fr u_8 (by decide))) (Pw.fr u_23 (by decide)))⟩ dX12_hand_30
noncomputable def g5_X12_freeMany (s : XS) (x1_6 : Int) : XR := (s, x1_6)
noncomputable def g9_X12_freeMany (R4 : XS → Int → Int → XR) (s : XS) (x1_6 : Int) (x2_5 : Int) : XR := R4 s ((x1_6 + 0)) ((x2_5 + 1))
noncomputable def g10_X12_freeMany (R4 : XS → Int → Int → XR) (s : XS) (x1_6 : Int) (x2_5 : Int) : XR := R4 s ((Xiadd x1_6 1)) ((x2_5 + 1))
noncomputable def g8b_X12_freeMany (R4 : XS → Int → Int → XR) (s : XS) (r_30 : Int) (x1_6 : Int) (x2_5 : Int) : XR := if r_30 = 0 then g9_X12_freeMany R4 s x1_6 x2_5 else g10_X12_freeMany R4 s x1_6 x2_5
noncomputable def g7c_X12_freeMany (R4 : XS → Int → Int → XR) (s : XS) (r_30 : Int) (x1_6 : Int) (x2_5 : Int) : XR := g8b_X12_freeMany R4 s r_30 x1_6 x2_5
noncomputable def g6_X12_freeMany (R4 : XS → Int → Int → XR) (s : XS) (x1_6 : Int) (x2_5 : Int) : XR := g7c_X12_freeMany R4 ((f_X12_isFreeIn s x2_5 0).1) (((f_X12_isFreeIn s x2_5 0).2)) x1_6 x2_5
noncomputable def g4b_X12_freeMany (R4 : XS → Int → Int → XR) (s : XS) (r_18 : Int) (x2_5 : Int) (x1_6 : Int) : XR := if x2_5 < r_18 then g6_X12_freeMany R4 s x1_6 x2_5 else g5_X12_freeMany s x1_6
noncomputable def g3c_X12_freeMany (R4 : XS → Int → Int → XR) (s : XS) (r_18 : Int) (x2_5 : Int) (x1_6 : Int) : XR := g4b_X12_freeMany R4 s r_18 x2_5 x1_6
noncomputable def g2l_X12_freeMany (R4 : XS → Int → Int → XR) (s : XS) (x1_6 : Int) (x2_5 : Int) : XR := g3c_X12_freeMany R4 ((f_X12_crossings s).1) (((f_X12_crossings s).2)) x2_5 x1_6
noncomputable def L1_X12_freeMany (n : Nat) : XS → Int → Int → XR := Nat.rec (motive := fun _ => XS → Int → Int → XR) (fun s _ _ => (s, 0)) (fun _ R4 => g2l_X12_freeMany R4) n
noncomputable def f_X12_freeMany (s : XS) : XR := L1_X12_freeMany (Int.toNat (25 - 0 + 1)) s 0 0
set_option maxHeartbeats 4000000 in
set_option maxRecDepth 100000 in
theorem c_X12_freeMany (l : Launch) (G : GG) (Z : RZ) (ad : Nat → Nat) (ws0 : va_W) (hT : Ty G SM ad ws0) : Mq l yX12_freeMany cX12_freeMany 3 (some .int) 3 G Z [.ref (ad 0)] ws0 (PI G SM ad [] ws0 (fun r u => (xso SM ad u = (f_X12_freeMany (xso SM ad ws0)).1) ∧ (r.toInt = (f_X12_freeMany (xso SM ad ws0)).2))) := by
  refine Mq.start (by decide) (Nat.le_of_ble_eq_true rfl) ?_
  intro p e s m below meth c A ls C0 hZ h hl
  have hl : lv_has ls 3 [(0, .ref (ad 0))] := hl
  have h : Wt G SM ad A s s.heap [] ws0 := ⟨h, hT⟩
  obtain ⟨args, hargs⟩ : ∃ z, z = ([.ref (ad 0)] : List Value).toArray := ⟨_, rfl⟩
  rw [← hargs] at C0 ⊢
  have C0 : Cx p s m args meth c RX12 cX12_freeMany 3 (some .int) := C0
  obtain ⟨Q, hQ⟩ : ∃ z, z = MQ below ((PI G SM ad [] ws0 (fun r u => (xso SM ad u = (f_X12_freeMany (xso SM ad ws0)).1) ∧ (r.toInt = (f_X12_freeMany (xso SM ad ws0)).2))) A) args s 0 0 A := ⟨_, rfl⟩
  rw [← hQ]
  obtain ⟨FT, hFT⟩ : ∃ z, z = f_X12_freeMany (xso SM ad ws0) := ⟨_, rfl⟩
  have HE : FT = f_X12_freeMany (xso SM ad ws0) := hFT
  refine y_c1 (n := 0) C0 (by decide) dX12_freeMany_0 (fun v_1 e_2 => ?_)
  refine lv_istore_n (lv' := [(1, .int v_1), (0, .ref (ad 0))]) C0.1 C0.2.1 dX12_freeMany_1 rfl hl (by decide) rfl (fun ls hl => ?_)
  refine y_c1 (n := 0) C0 (by decide) dX12_freeMany_2 (fun v_3 e_4 => ?_)
  refine lv_istore_n (lv' := [(2, .int v_3), (1, .int v_1), (0, .ref (ad 0))]) C0.1 C0.2.1 dX12_freeMany_3 rfl hl (by decide) rfl (fun ls hl => ?_)
  have lp_9 : ∀ (n_11 : Nat) (x2_5 : Int32) (x1_6 : Int32) (H : Heap) (locs : List Loc) (ls : Array Slot) (ws_7 : va_W), 25 - x2_5.toInt < (n_11 : Int) → 0 ≤ x2_5.toInt → x2_5.toInt ≤ 25 → (FT = L1_X12_freeMany n_11 (xso SM ad ws_7) x1_6.toInt x2_5.toInt) → Wt G SM ad A s H locs ws_7 → Fr SM [] ws0 ws_7 → lv_has ls 3 [(2, .int x2_5), (1, .int x1_6), (0, .ref (ad 0))] → W p l e (rmd 3 0 0) s m args below meth c H locs 0 0 Q (F0 m 4 ls []) := by
    intro n_11
    induction n_11 with
    | zero => intro x2_5 x1_6 H locs ls ws_7 hn_12 b_13 b_14 HE h hF_8 hl; exact ((o35_426 b_13 b_14 hn_12)).elim
    | succ n_11 ih_10 =>
      intro x2_5 x1_6 H locs ls ws_7 hn_12 b_13 b_14 HE h hF_8 hl
      obtain ⟨R4, hR4⟩ : ∃ z, z = L1_X12_freeMany n_11 := ⟨_, rfl⟩
      replace HE : FT = g2l_X12_freeMany R4 (xso SM ad ws_7) x1_6.toInt x2_5.toInt := HE.trans (by rw [hR4]; rfl)
      refine lv_iload_n C0.1 C0.2.1 dX12_freeMany_4 rfl (lv_at hl 0 rfl) ?_
      refine lv_aload_n C0.1 C0.2.1 dX12_freeMany_5 rfl (lv_at hl 2 rfl) ?_
      refine y_ci h (y_rV (As := []) (rest := [.int x2_5]) C0 hZ h (c_X12_crossings l G Z ad _ h.2) k_X12_crossings q_1705 q_79 q_1703 kSM_0 rfl rfl rfl hl.1 rfl rfl (Nat.le_of_ble_eq_true rfl) dX12_freeMany_6 ⟨Nat.le_of_ble_eq_true rfl, Nat.le_of_ble_eq_true rfl⟩ ⟨Nat.le_of_ble_eq_true rfl, Nat.le_of_ble_eq_true rfl⟩) (fun r_18 H locs ws_15 h u_16 p_17 => ?_)
      obtain ⟨e_19, e_20, e_21, e_22, e_23⟩ := p_17
      replace HE : FT = g3c_X12_freeMany R4 (xso SM ad ws_15) r_18.toInt x2_5.toInt x1_6.toInt := HE.trans (by rw [e_19, e_20]; rfl)
      replace HE : FT = g4b_X12_freeMany R4 (xso SM ad ws_15) r_18.toInt x2_5.toInt x1_6.toInt := HE.trans rfl
      refine y_icmp_ge (tgt := 35) C0 dX12_freeMany_9 (by decide) (fun c_24 => ?_) (fun c_24 => ?_)
      · -- 9
        replace HE : FT = g5_X12_freeMany (xso SM ad ws_15) x1_6.toInt := HE.trans (if_neg (Int.not_lt.mpr c_24))
        refine lv_iload_n C0.1 C0.2.1 dX12_freeMany_35 rfl (lv_at hl 1 rfl) ?_
        replace HE : FT = ((xso SM ad ws_15), x1_6.toInt) := HE.trans rfl
        rw [hQ]
        exact y_iret C0 h (Fr.tr hF_8 u_16) ⟨(congrArg Prod.fst (HE.symm.trans hFT)), (congrArg Prod.snd (HE.symm.trans hFT))⟩ dX12_freeMany_36
      · -- 9
        replace HE : FT = g6_X12_freeMany R4 (xso SM ad ws_15) x1_6.toInt x2_5.toInt := HE.trans (if_pos c_24)
        refine lv_iload_n C0.1 C0.2.1 dX12_freeMany_12 rfl (lv_at hl 1 rfl) ?_
        refine lv_aload_n C0.1 C0.2.1 dX12_freeMany_13 rfl (lv_at hl 2 rfl) ?_
        refine lv_iload_n C0.1 C0.2.1 dX12_freeMany_14 rfl (lv_at hl 0 rfl) ?_
        refine y_c1 (n := 0) C0 (by decide) dX12_freeMany_15 (fun v_25 e_26 => ?_)
        refine y_ci h (y_rV (As := [.int x2_5, .int v_25]) (rest := [.int x1_6]) C0 hZ h (c_X12_isFreeIn l G Z ad _ h.2 x2_5 v_25 (o35_427 b_13 b_14 hn_12 e_21 e_22 c_24) (o35_428 b_13 b_14 hn_12 e_21 e_22 c_24)) k_X12_isFreeIn q_1741 q_84 q_1739 kSM_0 rfl rfl rfl hl.1 rfl rfl (Nat.le_of_ble_eq_true rfl) dX12_freeMany_16 ⟨Nat.le_of_ble_eq_true rfl, Nat.le_of_ble_eq_true rfl⟩ ⟨Nat.le_of_ble_eq_true rfl, Nat.le_of_ble_eq_true rfl⟩) (fun r_30 H locs ws_27 h u_28 p_29 => ?_)
        obtain ⟨e_31, e_32, e_33, e_34, e_35⟩ := p_29
        replace HE : FT = g7c_X12_freeMany R4 (xso SM ad ws_27) r_30.toInt x1_6.toInt x2_5.toInt := HE.trans (by rw [e_31, e_32, e_26]; rfl)
        replace HE : FT = g8b_X12_freeMany R4 (xso SM ad ws_27) r_30.toInt x1_6.toInt x2_5.toInt := HE.trans rfl
        refine y_if_eq (tgt := 26) C0 dX12_freeMany_19 (by decide) (fun c_36 => ?_) (fun c_36 => ?_)
        · -- 19
          replace HE : FT = g9_X12_freeMany R4 (xso SM ad ws_27) x1_6.toInt x2_5.toInt := HE.trans (if_pos c_36)
          refine y_c1 (n := 0) C0 (by decide) dX12_freeMany_26 (fun v_37 e_38 => ?_)
          refine y_add C0 (o35_429 e_38 (le_min x1_6) (le_max x1_6) (le_min v_37) (le_max v_37)) (o35_430 e_38 (le_min x1_6) (le_max x1_6) (le_min v_37) (le_max v_37)) dX12_freeMany_27 (fun v_39 e_40 => ?_)
          refine lv_istore_n (lv' := [(1, .int v_39), (2, .int x2_5), (0, .ref (ad 0))]) C0.1 C0.2.1 dX12_freeMany_28 rfl hl (by decide) rfl (fun ls hl => ?_)
          refine y_inc (kp := 1) (n := 1) (fun v_41 => [(2, .int v_41), (1, .int v_39), (0, .ref (ad 0))]) C0 hl rfl (by decide) (by decide) (fun _ => rfl) (o35_431 b_13 b_14 hn_12 e_21 e_22 c_24 (le_min x2_5) (le_max x2_5) (le_min r_18) (le_max r_18)) (o35_432 b_13 b_14 hn_12 e_21 e_22 c_24 (le_min x2_5) (le_max x2_5) (le_min r_18) (le_max r_18)) dX12_freeMany_29 (fun v_41 ls e_42 hl => ?_)
          refine lv_goto (tgt := 4) C0.1 C0.2.1 dX12_freeMany_32 (by decide) ?_
          exact ih_10 v_41 v_39 _ _ _ _ (o35_433 b_13 b_14 hn_12 e_21 e_22 c_24 e_42) (o35_434 b_13 b_14 hn_12 e_21 e_22 c_24 e_42) (o35_435 b_13 b_14 hn_12 e_21 e_22 c_24 e_42) (((show FT = R4 (xso SM ad ws_27) v_39.toInt v_41.toInt from HE.trans (by rw [e_42, e_40, e_38]; rfl)).trans (by rw [hR4]))) h (Fr.tr (Fr.tr hF_8 u_16) u_28) (lv_sub hl [0, 1, 2] rfl)
        · -- 19
          replace HE : FT = g10_X12_freeMany R4 (xso SM ad ws_27) x1_6.toInt x2_5.toInt := HE.trans (if_neg c_36)
          refine y_c1 (n := 1) C0 (by decide) dX12_freeMany_22 (fun v_43 e_44 => ?_)
          refine lv_goto (tgt := 27) C0.1 C0.2.1 dX12_freeMany_23 (by decide) ?_
          refine xr_iadd C0 dX12_freeMany_27 (fun v_45 e_46 => ?_)
          refine lv_istore_n (lv' := [(1, .int v_45), (2, .int x2_5), (0, .ref (ad 0))]) C0.1 C0.2.1 dX12_freeMany_28 rfl hl (by decide) rfl (fun ls hl => ?_)
          refine y_inc (kp := 1) (n := 1) (fun v_47 => [(2, .int v_47), (1, .int v_45), (0, .ref (ad 0))]) C0 hl rfl (by decide) (by decide) (fun _ => rfl) (o35_431 b_13 b_14 hn_12 e_21 e_22 c_24 (le_min x2_5) (le_max x2_5) (le_min r_18) (le_max r_18)) (o35_432 b_13 b_14 hn_12 e_21 e_22 c_24 (le_min x2_5) (le_max x2_5) (le_min r_18) (le_max r_18)) dX12_freeMany_29 (fun v_47 ls e_48 hl => ?_)
          refine lv_goto (tgt := 4) C0.1 C0.2.1 dX12_freeMany_32 (by decide) ?_
          exact ih_10 v_47 v_45 _ _ _ _ (o35_433 b_13 b_14 hn_12 e_21 e_22 c_24 e_48) (o35_434 b_13 b_14 hn_12 e_21 e_22 c_24 e_48) (o35_435 b_13 b_14 hn_12 e_21 e_22 c_24 e_48) (((show FT = R4 (xso SM ad ws_27) v_45.toInt v_47.toInt from HE.trans (by rw [e_48, e_46, e_44]; rfl)).trans (by rw [hR4]))) h (Fr.tr (Fr.tr hF_8 u_16) u_28) (lv_sub hl [0, 1, 2] rfl)
  exact lp_9 ((25 - v_3.toInt + 1).toNat) v_3 v_1 _ _ _ _ (o35_436 e_4) (o35_56 e_4) (o35_437 e_4) ((show FT = L1_X12_freeMany (Int.toNat (25 - v_3.toInt + 1)) (xso SM ad ws0) v_1.toInt v_3.toInt from HE.trans (by rw [e_4, e_2]; rfl))) h Fr.rf (lv_sub hl [0, 1, 2] rfl)
noncomputable def g13c_X12_fog (s : XS) (r_64 : Int) : XR := (s, r_64)
noncomputable def g12c_X12_fog (s : XS) : XR := g13c_X12_fog ((f_X12_freeMany s).1) (((f_X12_freeMany s).2))
noncomputable def g11w_X12_fog (s : XS) : XR := g12c_X12_fog ((f_X12_notes s).1)
noncomputable def g10c_X12_fog (s : XS) (a1 : Int) (a2 : Int) : XR := g11w_X12_fog (xup s 1 1 (Int.toNat (86 + a1)) ((Xiadd (s 1 1 (Int.toNat 111)) a2)))
noncomputable def g8_X12_fog (s : XS) (a1 : Int) (a2 : Int) : XR := g10c_X12_fog ((f_X12_keeps s).1) a1 a2
noncomputable def g9_X12_fog (s : XS) : XR := (s, ((-3)))
noncomputable def g7b_X12_fog (s : XS) (r_27 : Int) (a1 : Int) (a2 : Int) : XR := if r_27 = 0 then g9_X12_fog s else g8_X12_fog s a1 a2
noncomputable def g6c_X12_fog (s : XS) (r_27 : Int) (a1 : Int) (a2 : Int) : XR := g7b_X12_fog s r_27 a1 a2
noncomputable def g4_X12_fog (s : XS) (a1 : Int) (a2 : Int) : XR := g6c_X12_fog ((f_X12_within s a2 1 99).1) (((f_X12_within s a2 1 99).2)) a1 a2
noncomputable def g5_X12_fog (s : XS) : XR := (s, ((-2)))
noncomputable def g3b_X12_fog (s : XS) (r_10 : Int) (a1 : Int) (a2 : Int) : XR := if r_10 = 0 then g5_X12_fog s else g4_X12_fog s a1 a2
noncomputable def g2c_X12_fog (s : XS) (r_10 : Int) (a1 : Int) (a2 : Int) : XR := g3b_X12_fog s r_10 a1 a2
noncomputable def g1w_X12_fog (s : XS) (a1 : Int) (a2 : Int) : XR := g2c_X12_fog ((f_X12_isCrossing s a1).1) (((f_X12_isCrossing s a1).2)) a1 a2
noncomputable def f_X12_fog (s : XS) (a1 : Int) (a2 : Int) : XR := g1w_X12_fog (xup s 0 0 0 0) a1 a2
set_option maxHeartbeats 4000000 in
set_option maxRecDepth 100000 in
theorem c_X12_fog (l : Launch) (G : GG) (Z : RZ) (ad : Nat → Nat) (ws0 : va_W) (hT : Ty G SM ad ws0) (a1 : Int32) (a2 : Int32) (hJ : J ws0) : Mq l yX12_fog cX12_fog 3 (some .int) 4 G Z [.ref (ad 0), .int a1, .int a2] ws0 (PI G SM ad [0, 1, 6] ws0 (fun r u => (xso SM ad u = (f_X12_fog (xso SM ad ws0) a1.toInt a2.toInt).1) ∧ (r.toInt = (f_X12_fog (xso SM ad ws0) a1.toInt a2.toInt).2) ∧ (Pa ws0 u) ∧ (Pw ws0 u))) := by
  refine Mq.start (by decide) (Nat.le_of_ble_eq_true rfl) ?_
  intro p e s m below meth c A ls C0 hZ h hl
  have hl : lv_has ls 3 [(0, .ref (ad 0)), (1, .int a1), (2, .int a2)] := hl
  have h : Wt G SM ad A s s.heap [] ws0 := ⟨h, hT⟩
  obtain ⟨args, hargs⟩ : ∃ z, z = ([.ref (ad 0), .int a1, .int a2] : List Value).toArray := ⟨_, rfl⟩
  rw [← hargs] at C0 ⊢
  have C0 : Cx p s m args meth c RX12 cX12_fog 3 (some .int) := C0
  obtain ⟨Q, hQ⟩ : ∃ z, z = MQ below ((PI G SM ad [0, 1, 6] ws0 (fun r u => (xso SM ad u = (f_X12_fog (xso SM ad ws0) a1.toInt a2.toInt).1) ∧ (r.toInt = (f_X12_fog (xso SM ad ws0) a1.toInt a2.toInt).2) ∧ (Pa ws0 u) ∧ (Pw ws0 u))) A) args s 0 0 A := ⟨_, rfl⟩
  rw [← hQ]
  obtain ⟨FT, hFT⟩ : ∃ z, z = f_X12_fog (xso SM ad ws0) a1.toInt a2.toInt := ⟨_, rfl⟩
  have HE : FT = f_X12_fog (xso SM ad ws0) a1.toInt a2.toInt := hFT
  refine lv_aload_n C0.1 C0.2.1 dX12_fog_0 rfl (lv_at hl 0 rfl) ?_
  refine y_c1 (n := 0) C0 (by decide) dX12_fog_1 (fun v_1 e_2 => ?_)
  refine np_X12_thrown C0 h kSM_0 q_1438 (le_min v_1) (le_max v_1) dX12_fog_2 (fun H locs ws_3 h u_4 Xu_4 => ?_)
  replace HE : FT = g1w_X12_fog (xso SM ad ws_3) a1.toInt a2.toInt := HE.trans (by rw [Xu_4, e_2]; rfl)
  refine lv_aload_n C0.1 C0.2.1 dX12_fog_5 rfl (lv_at hl 0 rfl) ?_
  refine lv_iload_n C0.1 C0.2.1 dX12_fog_6 rfl (lv_at hl 1 rfl) ?_
  refine y_i2l C0 dX12_fog_7 (fun w_5 e_6 => ?_)
  refine y_ci h (y_rV (As := [.long w_5]) (rest := []) C0 hZ h (c_X12_isCrossing l G Z ad _ h.2 w_5) k_X12_isCrossing q_1701 q_78 q_1699 kSM_0 rfl rfl rfl hl.1 rfl rfl (Nat.le_of_ble_eq_true rfl) dX12_fog_8 ⟨Nat.le_of_ble_eq_true rfl, Nat.le_of_ble_eq_true rfl⟩ ⟨Nat.le_of_ble_eq_true rfl, Nat.le_of_ble_eq_true rfl⟩) (fun r_10 H locs ws_7 h u_8 p_9 => ?_)
  obtain ⟨e_11, e_12, e_13, e_14, e_15, e_16⟩ := p_9
  replace HE : FT = g2c_X12_fog (xso SM ad ws_7) r_10.toInt a1.toInt a2.toInt := HE.trans (by rw [e_11, e_12, e_6]; rfl)
  replace HE : FT = g3b_X12_fog (xso SM ad ws_7) r_10.toInt a1.toInt a2.toInt := HE.trans rfl
  refine y_if_ne (tgt := 17) C0 dX12_fog_11 (by decide) (fun c_17 => ?_) (fun c_17 => ?_)
  · -- 11
    replace HE : FT = g4_X12_fog (xso SM ad ws_7) a1.toInt a2.toInt := HE.trans (if_neg c_17)
    refine lv_iload_n C0.1 C0.2.1 dX12_fog_17 rfl (lv_at hl 2 rfl) ?_
    refine y_i2l C0 dX12_fog_18 (fun w_18 e_19 => ?_)
    refine y_lc (v := 1) C0 (by decide) dX12_fog_19 (fun w_20 e_21 => ?_)
    refine y_lc2 (n := 99) C0 q_1830 (by decide) dX12_fog_20 (fun w_22 e_23 => ?_)
    refine y_ci h (y_rS (As := [.long w_18, .long w_20, .long w_22]) (rest := []) C0 hZ h (c_X12_within l G Z ad _ h.2 w_18 w_20 w_22) k_X12_within q_1580 q_1579 hl.1 rfl rfl (Nat.le_of_ble_eq_true rfl) dX12_fog_23 ⟨Nat.le_of_ble_eq_true rfl, Nat.le_of_ble_eq_true rfl⟩ ⟨Nat.le_of_ble_eq_true rfl, Nat.le_of_ble_eq_true rfl⟩) (fun r_27 H locs ws_24 h u_25 p_26 => ?_)
    obtain ⟨e_28, e_29, e_30, e_31, e_32⟩ := p_26
    replace HE : FT = g6c_X12_fog (xso SM ad ws_24) r_27.toInt a1.toInt a2.toInt := HE.trans (by rw [e_28, e_29, e_23, e_21, e_19]; rfl)
    replace HE : FT = g7b_X12_fog (xso SM ad ws_24) r_27.toInt a1.toInt a2.toInt := HE.trans rfl
    refine y_if_ne (tgt := 32) C0 dX12_fog_26 (by decide) (fun c_33 => ?_) (fun c_33 => ?_)
    · -- 26
      replace HE : FT = g8_X12_fog (xso SM ad ws_24) a1.toInt a2.toInt := HE.trans (if_neg c_33)
      refine lv_aload_n C0.1 C0.2.1 dX12_fog_32 rfl (lv_at hl 0 rfl) ?_
      refine y_cv h (y_rV (As := []) (rest := []) C0 hZ h (c_X12_keeps l G Z ad _ h.2) k_X12_keeps q_1777 q_88 q_1775 kSM_0 rfl rfl rfl hl.1 rfl rfl (Nat.le_of_ble_eq_true rfl) dX12_fog_33 ⟨Nat.le_of_ble_eq_true rfl, Nat.le_of_ble_eq_true rfl⟩ ⟨Nat.le_of_ble_eq_true rfl, Nat.le_of_ble_eq_true rfl⟩) (fun H locs ws_34 h u_35 p_36 => ?_)
      have e_37 := p_36
      replace HE : FT = g10c_X12_fog (xso SM ad ws_34) a1.toInt a2.toInt := HE.trans (by rw [e_37]; rfl)
      refine lv_aload_n C0.1 C0.2.1 dX12_fog_36 rfl (lv_at hl 0 rfl) ?_
      refine ng_X12_all C0 h kSM_0 q_1439 dX12_fog_37 ?_
      refine y_c2 (n := 86) C0 (by decide) dX12_fog_40 (fun v_38 e_39 => ?_)
      refine lv_iload_n C0.1 C0.2.1 dX12_fog_42 rfl (lv_at hl 1 rfl) ?_
      refine y_add C0 (o35_62 e_6 e_13 e_14 e_15 c_17 e_39 (le_min v_38) (le_max v_38) (le_min a1) (le_max a1) (le_min r_10) (le_max r_10)) (o35_63 e_6 e_13 e_14 e_15 c_17 e_39 (le_min v_38) (le_max v_38) (le_min a1) (le_max a1) (le_min r_10) (le_max r_10)) dX12_fog_43 (fun v_40 e_41 => ?_)
      refine lv_aload_n C0.1 C0.2.1 dX12_fog_44 rfl (lv_at hl 0 rfl) ?_
      refine ng_X12_all C0 h kSM_0 q_1439 dX12_fog_45 ?_
      refine y_c2 (n := 111) C0 (by decide) dX12_fog_48 (fun v_42 e_43 => ?_)
      refine y_iald C0 h kSM_1 rfl (by decide) (o35_66 e_43) (o35_67 e_43) dX12_fog_50 (fun v_44 e_45 e_46 e_47 => ?_)
      have e_48 : aI ws_34 1 111 = v_44 := (congrArg (aI ws_34 1) (ix_c (c := 111) (o35_68 e_43))).symm.trans e_45
      refine lv_iload_n C0.1 C0.2.1 dX12_fog_51 rfl (lv_at hl 2 rfl) ?_
      refine xr_iadd C0 dX12_fog_52 (fun v_49 e_50 => ?_)
      have hO_53 := h.2
      have f_54 := o35_438 v_40.toInt.toNat (o35_439 e_6 e_13 e_14 e_15 c_17 e_39 e_41) (o35_440 e_6 e_13 e_14 e_15 c_17 e_39 e_41)
      refine y_iast C0 h kSM_1 rfl (by decide) (o35_64 e_6 e_13 e_14 e_15 c_17 e_39 e_41) (o35_65 e_6 e_13 e_14 e_15 c_17 e_39 e_41) (Int.le_trans f_54.1 (le_min v_49)) (Int.le_trans (le_max v_49) f_54.2) dX12_fog_53 (fun H locs ws_51 h u_52 => ?_)
      replace HE : FT = g11w_X12_fog (xso SM ad ws_51) := HE.trans (by rw [(xso_A (i := 1) hO_53 h.2 kSM_1 rfl u_52), e_50, (xg1 e_45 : v_44.toInt = (xso SM ad ws_34) 1 1 v_42.toInt.toNat), e_43, e_41, e_39]; rfl)
      refine lv_aload_n C0.1 C0.2.1 dX12_fog_54 rfl (lv_at hl 0 rfl) ?_
      refine y_cv h (y_rV (As := []) (rest := []) C0 hZ h (c_X12_notes l G Z ad _ h.2) k_X12_notes q_1788 q_90 q_1786 kSM_0 rfl rfl rfl hl.1 rfl rfl (Nat.le_of_ble_eq_true rfl) dX12_fog_55 ⟨Nat.le_of_ble_eq_true rfl, Nat.le_of_ble_eq_true rfl⟩ ⟨Nat.le_of_ble_eq_true rfl, Nat.le_of_ble_eq_true rfl⟩) (fun H locs ws_55 h u_56 p_57 => ?_)
      obtain ⟨e_58, e_59, e_60⟩ := p_57
      replace HE : FT = g12c_X12_fog (xso SM ad ws_55) := HE.trans (by rw [e_58]; rfl)
      refine lv_aload_n C0.1 C0.2.1 dX12_fog_58 rfl (lv_at hl 0 rfl) ?_
      refine y_ci h (y_rV (As := []) (rest := []) C0 hZ h (c_X12_freeMany l G Z ad _ h.2) k_X12_freeMany q_1837 q_96 q_1835 kSM_0 rfl rfl rfl hl.1 rfl rfl (Nat.le_of_ble_eq_true rfl) dX12_fog_59 ⟨Nat.le_of_ble_eq_true rfl, Nat.le_of_ble_eq_true rfl⟩ ⟨Nat.le_of_ble_eq_true rfl, Nat.le_of_ble_eq_true rfl⟩) (fun r_64 H locs ws_61 h u_62 p_63 => ?_)
      obtain ⟨e_65, e_66⟩ := p_63
      replace HE : FT = g13c_X12_fog (xso SM ad ws_61) r_64.toInt := HE.trans (by rw [e_65, e_66]; rfl)
      replace HE : FT = ((xso SM ad ws_61), r_64.toInt) := HE.trans rfl
      rw [hQ]
      exact y_iret C0 h (Fr.tr (Fr.tr (Fr.tr (Fr.tr (Fr.tr (Fr.tr (Fr.up u_4.1 kSM_0 (by decide)) (Fr.mono u_8 (by decide))) (Fr.mono u_25 (by decide))) (Fr.mono u_35 (by decide))) (Fr.up u_52.1 kSM_1 (by decide))) (Fr.mono u_56 (by decide))) (Fr.mono u_62 (by decide))) ⟨(congrArg Prod.fst (HE.symm.trans hFT)), (congrArg Prod.snd (HE.symm.trans hFT)), (Pa.tr (Pa.tr (Pa.tr (Pa.tr (Pa.tr (Pa.tr (Pa.ud u_4.1 (by decide)) (Pa.fr u_8 (by decide))) (Pa.fr u_25 (by decide))) (Pa.fr u_35 (by decide))) (Pa.st u_52 (o35_442 e_6 e_13 e_14 e_15 c_17 e_39 e_41) (o35_443 e_6 e_13 e_14 e_15 c_17 e_39 e_41))) e_59) (Pa.fr u_62 (by decide))), (Pw.tr (Pw.tr (Pw.tr (Pw.tr (Pw.tr (Pw.tr (Pw.ud u_4.1 (by decide)) (Pw.fr u_8 (by decide))) (Pw.fr u_25 (by decide))) (Pw.fr u_35 (by decide))) (Pw.st u_52 (o35_441 e_6 e_13 e_14 e_15 c_17 e_39 e_41))) e_60) (Pw.fr u_62 (by decide)))⟩ dX12_fog_62
    · -- 26
      replace HE : FT = g9_X12_fog (xso SM ad ws_24) := HE.trans (if_pos c_33)
      refine y_c2 (n := (-3)) C0 (by decide) dX12_fog_29 (fun v_67 e_68 => ?_)
      replace HE : FT = ((xso SM ad ws_24), v_67.toInt) := HE.trans (by rw [e_68]; rfl)
      rw [hQ]
      exact y_iret C0 h (Fr.tr (Fr.tr (Fr.up u_4.1 kSM_0 (by decide)) (Fr.mono u_8 (by decide))) (Fr.mono u_25 (by decide))) ⟨(congrArg Prod.fst (HE.symm.trans hFT)), (congrArg Prod.snd (HE.symm.trans hFT)), (Pa.tr (Pa.tr (Pa.ud u_4.1 (by decide)) (Pa.fr u_8 (by decide))) (Pa.fr u_25 (by decide))), (Pw.tr (Pw.tr (Pw.ud u_4.1 (by decide)) (Pw.fr u_8 (by decide))) (Pw.fr u_25 (by decide)))⟩ dX12_fog_31
  · -- 11
    replace HE : FT = g5_X12_fog (xso SM ad ws_7) := HE.trans (if_pos c_17)
    refine y_c2 (n := (-2)) C0 (by decide) dX12_fog_14 (fun v_69 e_70 => ?_)
    replace HE : FT = ((xso SM ad ws_7), v_69.toInt) := HE.trans (by rw [e_70]; rfl)
    rw [hQ]
    exact y_iret C0 h (Fr.tr (Fr.up u_4.1 kSM_0 (by decide)) (Fr.mono u_8 (by decide))) ⟨(congrArg Prod.fst (HE.symm.trans hFT)), (congrArg Prod.snd (HE.symm.trans hFT)), (Pa.tr (Pa.ud u_4.1 (by decide)) (Pa.fr u_8 (by decide))), (Pw.tr (Pw.ud u_4.1 (by decide)) (Pw.fr u_8 (by decide)))⟩ dX12_fog_16
noncomputable def g8c_X12_hours (s : XS) : XR := (s, (s 1 1 (Int.toNat 111)))
noncomputable def g7w_X12_hours (s : XS) : XR := g8c_X12_hours ((f_X12_notes s).1)
noncomputable def g6c_X12_hours (s : XS) (a1 : Int) : XR := g7w_X12_hours (xup s 1 1 (Int.toNat 111) ((Xiadd (s 1 1 (Int.toNat 111)) a1)))
noncomputable def g4_X12_hours (s : XS) (a1 : Int) : XR := g6c_X12_hours ((f_X12_keeps s).1) a1
noncomputable def g5_X12_hours (s : XS) : XR := (s, ((-3)))
noncomputable def g3b_X12_hours (s : XS) (r_14 : Int) (a1 : Int) : XR := if r_14 = 0 then g5_X12_hours s else g4_X12_hours s a1
noncomputable def g2c_X12_hours (s : XS) (r_14 : Int) (a1 : Int) : XR := g3b_X12_hours s r_14 a1
noncomputable def g1w_X12_hours (s : XS) (a1 : Int) : XR := g2c_X12_hours ((f_X12_within s a1 1 99).1) (((f_X12_within s a1 1 99).2)) a1
noncomputable def f_X12_hours (s : XS) (a1 : Int) : XR := g1w_X12_hours (xup s 0 0 0 0) a1
set_option maxHeartbeats 4000000 in
set_option maxRecDepth 100000 in
theorem c_X12_hours (l : Launch) (G : GG) (Z : RZ) (ad : Nat → Nat) (ws0 : va_W) (hT : Ty G SM ad ws0) (a1 : Int32) (hJ : J ws0) : Mq l yX12_hours cX12_hours 2 (some .int) 2 G Z [.ref (ad 0), .int a1] ws0 (PI G SM ad [0, 1, 6] ws0 (fun r u => (xso SM ad u = (f_X12_hours (xso SM ad ws0) a1.toInt).1) ∧ (r.toInt = (f_X12_hours (xso SM ad ws0) a1.toInt).2) ∧ (Pa ws0 u) ∧ (Pw ws0 u))) := by
  refine Mq.start (by decide) (Nat.le_of_ble_eq_true rfl) ?_
  intro p e s m below meth c A ls C0 hZ h hl
  have hl : lv_has ls 2 [(0, .ref (ad 0)), (1, .int a1)] := hl
  have h : Wt G SM ad A s s.heap [] ws0 := ⟨h, hT⟩
  obtain ⟨args, hargs⟩ : ∃ z, z = ([.ref (ad 0), .int a1] : List Value).toArray := ⟨_, rfl⟩
  rw [← hargs] at C0 ⊢
  have C0 : Cx p s m args meth c RX12 cX12_hours 2 (some .int) := C0
  obtain ⟨Q, hQ⟩ : ∃ z, z = MQ below ((PI G SM ad [0, 1, 6] ws0 (fun r u => (xso SM ad u = (f_X12_hours (xso SM ad ws0) a1.toInt).1) ∧ (r.toInt = (f_X12_hours (xso SM ad ws0) a1.toInt).2) ∧ (Pa ws0 u) ∧ (Pw ws0 u))) A) args s 0 0 A := ⟨_, rfl⟩
  rw [← hQ]
  obtain ⟨FT, hFT⟩ : ∃ z, z = f_X12_hours (xso SM ad ws0) a1.toInt := ⟨_, rfl⟩
  have HE : FT = f_X12_hours (xso SM ad ws0) a1.toInt := hFT
  refine lv_aload_n C0.1 C0.2.1 dX12_hours_0 rfl (lv_at hl 0 rfl) ?_
  refine y_c1 (n := 0) C0 (by decide) dX12_hours_1 (fun v_1 e_2 => ?_)
  refine np_X12_thrown C0 h kSM_0 q_1438 (le_min v_1) (le_max v_1) dX12_hours_2 (fun H locs ws_3 h u_4 Xu_4 => ?_)
  replace HE : FT = g1w_X12_hours (xso SM ad ws_3) a1.toInt := HE.trans (by rw [Xu_4, e_2]; rfl)
  refine lv_iload_n C0.1 C0.2.1 dX12_hours_5 rfl (lv_at hl 1 rfl) ?_
  refine y_i2l C0 dX12_hours_6 (fun w_5 e_6 => ?_)
  refine y_lc (v := 1) C0 (by decide) dX12_hours_7 (fun w_7 e_8 => ?_)
  refine y_lc2 (n := 99) C0 q_1830 (by decide) dX12_hours_8 (fun w_9 e_10 => ?_)
  refine y_ci h (y_rS (As := [.long w_5, .long w_7, .long w_9]) (rest := []) C0 hZ h (c_X12_within l G Z ad _ h.2 w_5 w_7 w_9) k_X12_within q_1580 q_1579 hl.1 rfl rfl (Nat.le_of_ble_eq_true rfl) dX12_hours_11 ⟨Nat.le_of_ble_eq_true rfl, Nat.le_of_ble_eq_true rfl⟩ ⟨Nat.le_of_ble_eq_true rfl, Nat.le_of_ble_eq_true rfl⟩) (fun r_14 H locs ws_11 h u_12 p_13 => ?_)
  obtain ⟨e_15, e_16, e_17, e_18, e_19⟩ := p_13
  replace HE : FT = g2c_X12_hours (xso SM ad ws_11) r_14.toInt a1.toInt := HE.trans (by rw [e_15, e_16, e_10, e_8, e_6]; rfl)
  replace HE : FT = g3b_X12_hours (xso SM ad ws_11) r_14.toInt a1.toInt := HE.trans rfl
  refine y_if_ne (tgt := 20) C0 dX12_hours_14 (by decide) (fun c_20 => ?_) (fun c_20 => ?_)
  · -- 14
    replace HE : FT = g4_X12_hours (xso SM ad ws_11) a1.toInt := HE.trans (if_neg c_20)
    refine lv_aload_n C0.1 C0.2.1 dX12_hours_20 rfl (lv_at hl 0 rfl) ?_
    refine y_cv h (y_rV (As := []) (rest := []) C0 hZ h (c_X12_keeps l G Z ad _ h.2) k_X12_keeps q_1777 q_88 q_1775 kSM_0 rfl rfl rfl hl.1 rfl rfl (Nat.le_of_ble_eq_true rfl) dX12_hours_21 ⟨Nat.le_of_ble_eq_true rfl, Nat.le_of_ble_eq_true rfl⟩ ⟨Nat.le_of_ble_eq_true rfl, Nat.le_of_ble_eq_true rfl⟩) (fun H locs ws_21 h u_22 p_23 => ?_)
    have e_24 := p_23
    replace HE : FT = g6c_X12_hours (xso SM ad ws_21) a1.toInt := HE.trans (by rw [e_24]; rfl)
    refine lv_aload_n C0.1 C0.2.1 dX12_hours_24 rfl (lv_at hl 0 rfl) ?_
    refine ng_X12_all C0 h kSM_0 q_1439 dX12_hours_25 ?_
    refine y_c2 (n := 111) C0 (by decide) dX12_hours_28 (fun v_25 e_26 => ?_)
    refine lv_dup2_11 C0.1 C0.2.1 dX12_hours_30 rfl rfl ?_
    refine y_iald C0 h kSM_1 rfl (by decide) (o35_66 e_26) (o35_67 e_26) dX12_hours_31 (fun v_27 e_28 e_29 e_30 => ?_)
    have e_31 : aI ws_21 1 111 = v_27 := (congrArg (aI ws_21 1) (ix_c (c := 111) (o35_68 e_26))).symm.trans e_28
    refine lv_iload_n C0.1 C0.2.1 dX12_hours_32 rfl (lv_at hl 1 rfl) ?_
    refine xr_iadd C0 dX12_hours_33 (fun v_32 e_33 => ?_)
    have hO_36 := h.2
    have f_37 := o35_444 v_25.toInt.toNat (o35_445 e_26) (o35_446 e_26)
    refine y_iast C0 h kSM_1 rfl (by decide) (o35_66 e_26) (o35_67 e_26) (Int.le_trans f_37.1 (le_min v_32)) (Int.le_trans (le_max v_32) f_37.2) dX12_hours_34 (fun H locs ws_34 h u_35 => ?_)
    have e_38 : aI ws_34 1 111 = v_32 := (congrArg (aI ws_34 1) (ix_c (c := 111) (o35_68 e_26))).symm.trans u_35.2.1
    replace HE : FT = g7w_X12_hours (xso SM ad ws_34) := HE.trans (by rw [(xso_A (i := 1) hO_36 h.2 kSM_1 rfl u_35), e_33, (xg1 e_28 : v_27.toInt = (xso SM ad ws_21) 1 1 v_25.toInt.toNat), e_26]; rfl)
    refine lv_aload_n C0.1 C0.2.1 dX12_hours_35 rfl (lv_at hl 0 rfl) ?_
    refine y_cv h (y_rV (As := []) (rest := []) C0 hZ h (c_X12_notes l G Z ad _ h.2) k_X12_notes q_1788 q_90 q_1786 kSM_0 rfl rfl rfl hl.1 rfl rfl (Nat.le_of_ble_eq_true rfl) dX12_hours_36 ⟨Nat.le_of_ble_eq_true rfl, Nat.le_of_ble_eq_true rfl⟩ ⟨Nat.le_of_ble_eq_true rfl, Nat.le_of_ble_eq_true rfl⟩) (fun H locs ws_39 h u_40 p_41 => ?_)
    obtain ⟨e_42, e_43, e_44⟩ := p_41
    replace HE : FT = g8c_X12_hours (xso SM ad ws_39) := HE.trans (by rw [e_42]; rfl)
    refine lv_aload_n C0.1 C0.2.1 dX12_hours_39 rfl (lv_at hl 0 rfl) ?_
    refine ng_X12_all C0 h kSM_0 q_1439 dX12_hours_40 ?_
    refine y_c2 (n := 111) C0 (by decide) dX12_hours_43 (fun v_45 e_46 => ?_)
    refine y_iald C0 h kSM_1 rfl (by decide) (o35_66 e_46) (o35_67 e_46) dX12_hours_45 (fun v_47 e_48 e_49 e_50 => ?_)
    have e_51 : aI ws_39 1 111 = v_47 := (congrArg (aI ws_39 1) (ix_c (c := 111) (o35_68 e_46))).symm.trans e_48
    replace HE : FT = ((xso SM ad ws_39), v_47.toInt) := HE.trans (by rw [(xg1 e_48 : v_47.toInt = (xso SM ad ws_39) 1 1 v_45.toInt.toNat), e_46]; rfl)
    rw [hQ]
    exact y_iret C0 h (Fr.tr (Fr.tr (Fr.tr (Fr.tr (Fr.up u_4.1 kSM_0 (by decide)) (Fr.mono u_12 (by decide))) (Fr.mono u_22 (by decide))) (Fr.up u_35.1 kSM_1 (by decide))) (Fr.mono u_40 (by decide))) ⟨(congrArg Prod.fst (HE.symm.trans hFT)), (congrArg Prod.snd (HE.symm.trans hFT)), (Pa.tr (Pa.tr (Pa.tr (Pa.tr (Pa.ud u_4.1 (by decide)) (Pa.fr u_12 (by decide))) (Pa.fr u_22 (by decide))) (Pa.st u_35 (o35_448 e_26) (o35_449 e_26))) e_43), (Pw.tr (Pw.tr (Pw.tr (Pw.tr (Pw.ud u_4.1 (by decide)) (Pw.fr u_12 (by decide))) (Pw.fr u_22 (by decide))) (Pw.st u_35 (o35_447 e_26))) e_44)⟩ dX12_hours_46
  · -- 14
    replace HE : FT = g5_X12_hours (xso SM ad ws_11) := HE.trans (if_pos c_20)
    refine y_c2 (n := (-3)) C0 (by decide) dX12_hours_17 (fun v_52 e_53 => ?_)
    replace HE : FT = ((xso SM ad ws_11), v_52.toInt) := HE.trans (by rw [e_53]; rfl)
    rw [hQ]
    exact y_iret C0 h (Fr.tr (Fr.up u_4.1 kSM_0 (by decide)) (Fr.mono u_12 (by decide))) ⟨(congrArg Prod.fst (HE.symm.trans hFT)), (congrArg Prod.snd (HE.symm.trans hFT)), (Pa.tr (Pa.ud u_4.1 (by decide)) (Pa.fr u_12 (by decide))), (Pw.tr (Pw.ud u_4.1 (by decide)) (Pw.fr u_12 (by decide)))⟩ dX12_hours_19
noncomputable def g4_X12_undo (s : XS) : XR := (s, ((-3)))
noncomputable def g13_X12_undo (s : XS) : XR := (s, (s 1 1 (Int.toNat 112)))
noncomputable def g15w_X12_undo (R44 : XS → Int → XR) (s : XS) (x2_50 : Int) : XR := R44 s ((x2_50 + 1))
noncomputable def g14_X12_undo (R44 : XS → Int → XR) (s : XS) (x2_50 : Int) : XR := g15w_X12_undo R44 (xup s 1 1 (Int.toNat (36 + x2_50)) ((s 1 1 (Int.toNat ((113 + (76 * (s 1 1 (Int.toNat 112)))) + x2_50))))) x2_50
noncomputable def g12b_X12_undo (R44 : XS → Int → XR) (s : XS) (x2_50 : Int) : XR := if x2_50 < 76 then g14_X12_undo R44 s x2_50 else g13_X12_undo s
noncomputable def g11l_X12_undo (R44 : XS → Int → XR) (s : XS) (x2_50 : Int) : XR := g12b_X12_undo R44 s x2_50
noncomputable def L10_X12_undo (n : Nat) : XS → Int → XR := Nat.rec (motive := fun _ => XS → Int → XR) (fun s _ => (s, 0)) (fun _ R44 => g11l_X12_undo R44) n
noncomputable def g9w_X12_undo (s : XS) : XR := L10_X12_undo (Int.toNat (76 - 0 + 1)) s 0
noncomputable def g7_X12_undo (s : XS) (a1 : Int) : XR := g9w_X12_undo (xup s 1 1 (Int.toNat 112) (((s 1 1 (Int.toNat 112)) - a1)))
noncomputable def g8_X12_undo (s : XS) : XR := (s, ((-3)))
noncomputable def g6b_X12_undo (s : XS) (v_25 : Int) (a1 : Int) : XR := if v_25 < a1 then g8_X12_undo s else g7_X12_undo s a1
noncomputable def g5_X12_undo (s : XS) (a1 : Int) : XR := g6b_X12_undo s ((s 1 1 (Int.toNat 112))) a1
noncomputable def g3b_X12_undo (s : XS) (r_14 : Int) (a1 : Int) : XR := if r_14 = 0 then g4_X12_undo s else g5_X12_undo s a1
noncomputable def g2c_X12_undo (s : XS) (r_14 : Int) (a1 : Int) : XR := g3b_X12_undo s r_14 a1
noncomputable def g1w_X12_undo (s : XS) (a1 : Int) : XR := g2c_X12_undo ((f_X12_within s a1 1 10).1) (((f_X12_within s a1 1 10).2)) a1
noncomputable def f_X12_undo (s : XS) (a1 : Int) : XR := g1w_X12_undo (xup s 0 0 0 0) a1
set_option maxHeartbeats 4000000 in
set_option maxRecDepth 100000 in
theorem c_X12_undo (l : Launch) (G : GG) (Z : RZ) (ad : Nat → Nat) (ws0 : va_W) (hT : Ty G SM ad ws0) (a1 : Int32) (hJ : J ws0) : Mq l yX12_undo cX12_undo 3 (some .int) 2 G Z [.ref (ad 0), .int a1] ws0 (PI G SM ad [0, 1] ws0 (fun r u => (xso SM ad u = (f_X12_undo (xso SM ad ws0) a1.toInt).1) ∧ (r.toInt = (f_X12_undo (xso SM ad ws0) a1.toInt).2) ∧ ((-3) ≤ r.toInt) ∧ (r.toInt ≤ 9) ∧ (Pa ws0 u) ∧ (Pw ws0 u))) := by
  refine Mq.start (by decide) (Nat.le_of_ble_eq_true rfl) ?_
  intro p e s m below meth c A ls C0 hZ h hl
  have hl : lv_has ls 3 [(0, .ref (ad 0)), (1, .int a1)] := hl
  have h : Wt G SM ad A s s.heap [] ws0 := ⟨h, hT⟩
  obtain ⟨args, hargs⟩ : ∃ z, z = ([.ref (ad 0), .int a1] : List Value).toArray := ⟨_, rfl⟩
  rw [← hargs] at C0 ⊢
  have C0 : Cx p s m args meth c RX12 cX12_undo 3 (some .int) := C0
  obtain ⟨Q, hQ⟩ : ∃ z, z = MQ below ((PI G SM ad [0, 1] ws0 (fun r u => (xso SM ad u = (f_X12_undo (xso SM ad ws0) a1.toInt).1) ∧ (r.toInt = (f_X12_undo (xso SM ad ws0) a1.toInt).2) ∧ ((-3) ≤ r.toInt) ∧ (r.toInt ≤ 9) ∧ (Pa ws0 u) ∧ (Pw ws0 u))) A) args s 0 0 A := ⟨_, rfl⟩
  rw [← hQ]
  obtain ⟨FT, hFT⟩ : ∃ z, z = f_X12_undo (xso SM ad ws0) a1.toInt := ⟨_, rfl⟩
  have HE : FT = f_X12_undo (xso SM ad ws0) a1.toInt := hFT
  refine lv_aload_n C0.1 C0.2.1 dX12_undo_0 rfl (lv_at hl 0 rfl) ?_
  refine y_c1 (n := 0) C0 (by decide) dX12_undo_1 (fun v_1 e_2 => ?_)
  refine np_X12_thrown C0 h kSM_0 q_1438 (le_min v_1) (le_max v_1) dX12_undo_2 (fun H locs ws_3 h u_4 Xu_4 => ?_)
  replace HE : FT = g1w_X12_undo (xso SM ad ws_3) a1.toInt := HE.trans (by rw [Xu_4, e_2]; rfl)
  refine lv_iload_n C0.1 C0.2.1 dX12_undo_5 rfl (lv_at hl 1 rfl) ?_
  refine y_i2l C0 dX12_undo_6 (fun w_5 e_6 => ?_)
  refine y_lc (v := 1) C0 (by decide) dX12_undo_7 (fun w_7 e_8 => ?_)
  refine y_lc2 (n := 10) C0 q_1847 (by decide) dX12_undo_8 (fun w_9 e_10 => ?_)
  refine y_ci h (y_rS (As := [.long w_5, .long w_7, .long w_9]) (rest := []) C0 hZ h (c_X12_within l G Z ad _ h.2 w_5 w_7 w_9) k_X12_within q_1580 q_1579 hl.1 rfl rfl (Nat.le_of_ble_eq_true rfl) dX12_undo_11 ⟨Nat.le_of_ble_eq_true rfl, Nat.le_of_ble_eq_true rfl⟩ ⟨Nat.le_of_ble_eq_true rfl, Nat.le_of_ble_eq_true rfl⟩) (fun r_14 H locs ws_11 h u_12 p_13 => ?_)
  obtain ⟨e_15, e_16, e_17, e_18, e_19⟩ := p_13
  replace HE : FT = g2c_X12_undo (xso SM ad ws_11) r_14.toInt a1.toInt := HE.trans (by rw [e_15, e_16, e_10, e_8, e_6]; rfl)
  replace HE : FT = g3b_X12_undo (xso SM ad ws_11) r_14.toInt a1.toInt := HE.trans rfl
  refine y_if_eq (tgt := 28) C0 dX12_undo_14 (by decide) (fun c_20 => ?_) (fun c_20 => ?_)
  · -- 14
    replace HE : FT = g4_X12_undo (xso SM ad ws_11) := HE.trans (if_pos c_20)
    refine y_c2 (n := (-3)) C0 (by decide) dX12_undo_28 (fun v_21 e_22 => ?_)
    replace HE : FT = ((xso SM ad ws_11), v_21.toInt) := HE.trans (by rw [e_22]; rfl)
    rw [hQ]
    exact y_iret C0 h (Fr.tr (Fr.up u_4.1 kSM_0 (by decide)) (Fr.mono u_12 (by decide))) ⟨(congrArg Prod.fst (HE.symm.trans hFT)), (congrArg Prod.snd (HE.symm.trans hFT)), (o35_75 e_22), (o35_450 e_22), (Pa.tr (Pa.ud u_4.1 (by decide)) (Pa.fr u_12 (by decide))), (Pw.tr (Pw.ud u_4.1 (by decide)) (Pw.fr u_12 (by decide)))⟩ dX12_undo_30
  · -- 14
    replace HE : FT = g5_X12_undo (xso SM ad ws_11) a1.toInt := HE.trans (if_neg c_20)
    refine lv_iload_n C0.1 C0.2.1 dX12_undo_17 rfl (lv_at hl 1 rfl) ?_
    refine lv_aload_n C0.1 C0.2.1 dX12_undo_18 rfl (lv_at hl 0 rfl) ?_
    refine ng_X12_all C0 h kSM_0 q_1439 dX12_undo_19 ?_
    refine y_c2 (n := 112) C0 (by decide) dX12_undo_22 (fun v_23 e_24 => ?_)
    refine y_iald C0 h kSM_1 rfl (by decide) (o35_451 e_24) (o35_452 e_24) dX12_undo_24 (fun v_25 e_26 e_27 e_28 => ?_)
    have f_29 := o35_453 v_23.toInt.toNat (o35_454 e_24) (o35_455 e_24)
    have e_30 : aI ws_11 1 112 = v_25 := (congrArg (aI ws_11 1) (ix_c (c := 112) (o35_456 e_24))).symm.trans e_26
    replace HE : FT = g6b_X12_undo (xso SM ad ws_11) v_25.toInt a1.toInt := HE.trans (by rw [(xg1 e_26 : v_25.toInt = (xso SM ad ws_11) 1 1 v_23.toInt.toNat), e_24]; rfl)
    refine y_icmp_le (tgt := 31) C0 dX12_undo_25 (by decide) (fun c_31 => ?_) (fun c_31 => ?_)
    · -- 25
      replace HE : FT = g7_X12_undo (xso SM ad ws_11) a1.toInt := HE.trans (if_neg (Int.not_lt.mpr c_31))
      refine lv_aload_n C0.1 C0.2.1 dX12_undo_31 rfl (lv_at hl 0 rfl) ?_
      refine ng_X12_all C0 h kSM_0 q_1439 dX12_undo_32 ?_
      refine y_c2 (n := 112) C0 (by decide) dX12_undo_35 (fun v_32 e_33 => ?_)
      refine lv_dup2_11 C0.1 C0.2.1 dX12_undo_37 rfl rfl ?_
      refine y_iald C0 h kSM_1 rfl (by decide) (o35_451 e_33) (o35_452 e_33) dX12_undo_38 (fun v_34 e_35 e_36 e_37 => ?_)
      have f_38 := o35_453 v_32.toInt.toNat (o35_454 e_33) (o35_455 e_33)
      have e_39 : aI ws_11 1 112 = v_34 := (congrArg (aI ws_11 1) (ix_c (c := 112) (o35_456 e_33))).symm.trans e_35
      have qh_40 : v_34.toInt = v_25.toInt := congrArg Int32.toInt (e_39.symm.trans (Eq.trans rfl e_30))
      refine lv_iload_n C0.1 C0.2.1 dX12_undo_39 rfl (lv_at hl 1 rfl) ?_
      refine y_sub C0 (o35_457 e_6 e_8 e_10 e_17 e_18 e_19 c_20 (Int.le_trans f_29.1 e_27) (Int.le_trans e_28 f_29.2) c_31 (Int.le_trans f_38.1 e_36) (Int.le_trans e_37 f_38.2) qh_40 (le_min v_34) (le_max v_34) (le_min a1) (le_max a1) (le_min r_14) (le_max r_14) (le_min v_25) (le_max v_25)) (o35_458 e_6 e_8 e_10 e_17 e_18 e_19 c_20 (Int.le_trans f_29.1 e_27) (Int.le_trans e_28 f_29.2) c_31 (Int.le_trans f_38.1 e_36) (Int.le_trans e_37 f_38.2) qh_40 (le_min v_34) (le_max v_34) (le_min a1) (le_max a1) (le_min r_14) (le_max r_14) (le_min v_25) (le_max v_25)) dX12_undo_40 (fun v_41 e_42 => ?_)
      have hO_45 := h.2
      have f_46 := o35_459 v_32.toInt.toNat (o35_454 e_33) (o35_455 e_33)
      refine y_iast C0 h kSM_1 rfl (by decide) (o35_451 e_33) (o35_452 e_33) (Int.le_trans f_46.1 (o35_460 e_6 e_8 e_10 e_17 e_18 e_19 c_20 (Int.le_trans f_29.1 e_27) (Int.le_trans e_28 f_29.2) c_31 (Int.le_trans f_38.1 e_36) (Int.le_trans e_37 f_38.2) qh_40 e_42)) (Int.le_trans (o35_461 e_6 e_8 e_10 e_17 e_18 e_19 c_20 (Int.le_trans f_29.1 e_27) (Int.le_trans e_28 f_29.2) c_31 (Int.le_trans f_38.1 e_36) (Int.le_trans e_37 f_38.2) qh_40 e_42) f_46.2) dX12_undo_41 (fun H locs ws_43 h u_44 => ?_)
      have e_47 : aI ws_43 1 112 = v_41 := (congrArg (aI ws_43 1) (ix_c (c := 112) (o35_456 e_33))).symm.trans u_44.2.1
      replace HE : FT = g9w_X12_undo (xso SM ad ws_43) := HE.trans (by rw [(xso_A (i := 1) hO_45 h.2 kSM_1 rfl u_44), e_42, (xg1 e_35 : v_34.toInt = (xso SM ad ws_11) 1 1 v_32.toInt.toNat), e_33]; rfl)
      refine y_c1 (n := 0) C0 (by decide) dX12_undo_42 (fun v_48 e_49 => ?_)
      refine lv_istore_n (lv' := [(2, .int v_48), (0, .ref (ad 0)), (1, .int a1)]) C0.1 C0.2.1 dX12_undo_43 rfl hl (by decide) rfl (fun ls hl => ?_)
      have lp_53 : ∀ (n_55 : Nat) (x2_50 : Int32) (f_59 : Int32) (H : Heap) (locs : List Loc) (ls : Array Slot) (ws_51 : va_W), 76 - x2_50.toInt < (n_55 : Int) → 0 ≤ x2_50.toInt → x2_50.toInt ≤ 76 → 0 ≤ f_59.toInt → f_59.toInt ≤ 9 → (Pa ws_43 ws_51) → (Pw ws_43 ws_51) → (FT = L10_X12_undo n_55 (xso SM ad ws_51) x2_50.toInt) → aI ws_51 1 112 = f_59 → Wt G SM ad A s H locs ws_51 → Fr SM [1] ws_43 ws_51 → lv_has ls 3 [(2, .int x2_50), (0, .ref (ad 0)), (1, .int a1)] → W p l e (rmd 2 0 0) s m args below meth c H locs 0 0 Q (F0 m 44 ls []) := by
        intro n_55
        induction n_55 with
        | zero => intro x2_50 f_59 H locs ls ws_51 hn_56 b_57 b_58 b_61 b_62 hPa_44 hPw_44 HE e_60 h hF_52 hl; exact ((o35_465 b_57 b_58 hn_56)).elim
        | succ n_55 ih_54 =>
          intro x2_50 f_59 H locs ls ws_51 hn_56 b_57 b_58 b_61 b_62 hPa_44 hPw_44 HE e_60 h hF_52 hl
          obtain ⟨R44, hR44⟩ : ∃ z, z = L10_X12_undo n_55 := ⟨_, rfl⟩
          replace HE : FT = g11l_X12_undo R44 (xso SM ad ws_51) x2_50.toInt := HE.trans (by rw [hR44]; rfl)
          refine lv_iload_n C0.1 C0.2.1 dX12_undo_44 rfl (lv_at hl 0 rfl) ?_
          refine y_c2 (n := 76) C0 (by decide) dX12_undo_45 (fun v_63 e_64 => ?_)
          replace HE : FT = g12b_X12_undo R44 (xso SM ad ws_51) x2_50.toInt := HE.trans rfl
          refine y_icmp_ge (tgt := 85) C0 dX12_undo_47 (by decide) (fun c_65 => ?_) (fun c_65 => ?_)
          · -- 47
            replace HE : FT = g13_X12_undo (xso SM ad ws_51) := HE.trans (if_neg (o35_467 b_57 b_58 hn_56 e_64 c_65))
            refine lv_aload_n C0.1 C0.2.1 dX12_undo_85 rfl (lv_at hl 1 rfl) ?_
            refine ng_X12_all C0 h kSM_0 q_1439 dX12_undo_86 ?_
            refine y_c2 (n := 112) C0 (by decide) dX12_undo_89 (fun v_66 e_67 => ?_)
            refine y_iald C0 h kSM_1 rfl (by decide) (o35_451 e_67) (o35_452 e_67) dX12_undo_91 (fun v_68 e_69 e_70 e_71 => ?_)
            have f_72 := o35_453 v_66.toInt.toNat (o35_454 e_67) (o35_455 e_67)
            have e_73 : aI ws_51 1 112 = v_68 := (congrArg (aI ws_51 1) (ix_c (c := 112) (o35_456 e_67))).symm.trans e_69
            have qh_74 : v_68.toInt = f_59.toInt := congrArg Int32.toInt (e_73.symm.trans (Eq.trans rfl e_60))
            replace HE : FT = ((xso SM ad ws_51), v_68.toInt) := HE.trans (by rw [(xg1 e_69 : v_68.toInt = (xso SM ad ws_51) 1 1 v_66.toInt.toNat), e_67]; rfl)
            rw [hQ]
            exact y_iret C0 h (Fr.tr (Fr.tr (Fr.tr (Fr.up u_4.1 kSM_0 (by decide)) (Fr.mono u_12 (by decide))) (Fr.up u_44.1 kSM_1 (by decide))) (Fr.mono hF_52 (by decide))) ⟨(congrArg Prod.fst (HE.symm.trans hFT)), (congrArg Prod.snd (HE.symm.trans hFT)), (o35_469 b_61 b_62 (Int.le_trans f_72.1 e_70) (Int.le_trans e_71 f_72.2) qh_74), (o35_470 b_61 b_62 (Int.le_trans f_72.1 e_70) (Int.le_trans e_71 f_72.2) qh_74), (Pa.tr (Pa.tr (Pa.tr (Pa.ud u_4.1 (by decide)) (Pa.fr u_12 (by decide))) (Pa.st u_44 (o35_463 e_33) (o35_464 e_33))) hPa_44), (Pw.tr (Pw.tr (Pw.tr (Pw.ud u_4.1 (by decide)) (Pw.fr u_12 (by decide))) (Pw.st u_44 (o35_462 e_33))) hPw_44)⟩ dX12_undo_92
          · -- 47
            replace HE : FT = g14_X12_undo R44 (xso SM ad ws_51) x2_50.toInt := HE.trans (if_pos (o35_468 b_57 b_58 hn_56 e_64 c_65))
            refine lv_aload_n C0.1 C0.2.1 dX12_undo_50 rfl (lv_at hl 1 rfl) ?_
            refine ng_X12_all C0 h kSM_0 q_1439 dX12_undo_51 ?_
            refine y_c2 (n := 36) C0 (by decide) dX12_undo_54 (fun v_75 e_76 => ?_)
            refine lv_iload_n C0.1 C0.2.1 dX12_undo_56 rfl (lv_at hl 0 rfl) ?_
            refine y_add C0 (o35_471 b_57 b_58 hn_56 e_64 c_65 e_76 (le_min v_75) (le_max v_75) (le_min x2_50) (le_max x2_50) (le_min v_63) (le_max v_63)) (o35_472 b_57 b_58 hn_56 e_64 c_65 e_76 (le_min v_75) (le_max v_75) (le_min x2_50) (le_max x2_50) (le_min v_63) (le_max v_63)) dX12_undo_57 (fun v_77 e_78 => ?_)
            refine lv_aload_n C0.1 C0.2.1 dX12_undo_58 rfl (lv_at hl 1 rfl) ?_
            refine ng_X12_all C0 h kSM_0 q_1439 dX12_undo_59 ?_
            refine y_c2 (n := 113) C0 (by decide) dX12_undo_62 (fun v_79 e_80 => ?_)
            refine y_c2 (n := 76) C0 (by decide) dX12_undo_64 (fun v_81 e_82 => ?_)
            refine lv_aload_n C0.1 C0.2.1 dX12_undo_66 rfl (lv_at hl 1 rfl) ?_
            refine ng_X12_all C0 h kSM_0 q_1439 dX12_undo_67 ?_
            refine y_c2 (n := 112) C0 (by decide) dX12_undo_70 (fun v_83 e_84 => ?_)
            refine y_iald C0 h kSM_1 rfl (by decide) (o35_451 e_84) (o35_452 e_84) dX12_undo_72 (fun v_85 e_86 e_87 e_88 => ?_)
            have f_89 := o35_453 v_83.toInt.toNat (o35_454 e_84) (o35_455 e_84)
            have e_90 : aI ws_51 1 112 = v_85 := (congrArg (aI ws_51 1) (ix_c (c := 112) (o35_456 e_84))).symm.trans e_86
            have qh_91 : v_85.toInt = f_59.toInt := congrArg Int32.toInt (e_90.symm.trans (Eq.trans rfl e_60))
            refine y_cmul (n := 76) C0 (o35_466 e_82) (o35_473 b_61 b_62 (Int.le_trans f_89.1 e_87) (Int.le_trans e_88 f_89.2) qh_91 (le_min v_85) (le_max v_85) (le_min f_59) (le_max f_59)) (o35_474 b_61 b_62 (Int.le_trans f_89.1 e_87) (Int.le_trans e_88 f_89.2) qh_91 (le_min v_85) (le_max v_85) (le_min f_59) (le_max f_59)) dX12_undo_73 (fun v_92 e_93 => ?_)
            refine y_add C0 (o35_475 b_61 b_62 e_80 (Int.le_trans f_89.1 e_87) (Int.le_trans e_88 f_89.2) qh_91 e_93 (le_min v_79) (le_max v_79) (le_min v_92) (le_max v_92) (le_min f_59) (le_max f_59) (le_min v_85) (le_max v_85)) (o35_476 b_61 b_62 e_80 (Int.le_trans f_89.1 e_87) (Int.le_trans e_88 f_89.2) qh_91 e_93 (le_min v_79) (le_max v_79) (le_min v_92) (le_max v_92) (le_min f_59) (le_max f_59) (le_min v_85) (le_max v_85)) dX12_undo_74 (fun v_94 e_95 => ?_)
            refine lv_iload_n C0.1 C0.2.1 dX12_undo_75 rfl (lv_at hl 0 rfl) ?_
            refine y_add C0 (o35_477 b_57 b_58 b_61 b_62 hn_56 e_64 c_65 e_76 e_78 e_80 (Int.le_trans f_89.1 e_87) (Int.le_trans e_88 f_89.2) qh_91 e_93 e_95 (le_min v_94) (le_max v_94) (le_min x2_50) (le_max x2_50) (le_min f_59) (le_max f_59) (le_min v_63) (le_max v_63) (le_min v_75) (le_max v_75) (le_min v_77) (le_max v_77) (le_min v_79) (le_max v_79) (le_min v_85) (le_max v_85) (le_min v_92) (le_max v_92)) (o35_478 b_57 b_58 b_61 b_62 hn_56 e_64 c_65 e_76 e_78 e_80 (Int.le_trans f_89.1 e_87) (Int.le_trans e_88 f_89.2) qh_91 e_93 e_95 (le_min v_94) (le_max v_94) (le_min x2_50) (le_max x2_50) (le_min f_59) (le_max f_59) (le_min v_63) (le_max v_63) (le_min v_75) (le_max v_75) (le_min v_77) (le_max v_77) (le_min v_79) (le_max v_79) (le_min v_85) (le_max v_85) (le_min v_92) (le_max v_92)) dX12_undo_76 (fun v_96 e_97 => ?_)
            refine y_iald C0 h kSM_1 rfl (by decide) (o35_479 b_57 b_58 b_61 b_62 hn_56 e_64 c_65 e_76 e_78 e_80 (Int.le_trans f_89.1 e_87) (Int.le_trans e_88 f_89.2) qh_91 e_93 e_95 e_97) (o35_480 b_57 b_58 b_61 b_62 hn_56 e_64 c_65 e_76 e_78 e_80 (Int.le_trans f_89.1 e_87) (Int.le_trans e_88 f_89.2) qh_91 e_93 e_95 e_97) dX12_undo_77 (fun v_98 e_99 e_100 e_101 => ?_)
            have hO_104 := h.2
            refine y_iast C0 h kSM_1 rfl (by decide) (o35_481 b_57 b_58 b_61 b_62 hn_56 e_64 c_65 e_76 e_78 e_80 (Int.le_trans f_89.1 e_87) (Int.le_trans e_88 f_89.2) qh_91 e_93 e_95 e_97) (o35_482 b_57 b_58 b_61 b_62 hn_56 e_64 c_65 e_76 e_78 e_80 (Int.le_trans f_89.1 e_87) (Int.le_trans e_88 f_89.2) qh_91 e_93 e_95 e_97) (el_lo (Eq.trans (Eq.symm (ec_wa (x := x2_50.toInt.toNat) (o35_483 b_57 b_58 b_61 b_62 hn_56 e_64 c_65 e_76 e_78 e_80 (Int.le_trans f_89.1 e_87) (Int.le_trans e_88 f_89.2) qh_91 e_93 e_95 e_97) (o35_484 b_57 b_58 b_61 b_62 hn_56 e_64 c_65 e_76 e_78 e_80 (Int.le_trans f_89.1 e_87) (Int.le_trans e_88 f_89.2) qh_91 e_93 e_95 e_97))) (Eq.symm (ec_nk (n := f_59.toInt.toNat) (o35_485 b_57 b_58 b_61 b_62 hn_56 e_64 c_65 e_76 e_78 e_80 (Int.le_trans f_89.1 e_87) (Int.le_trans e_88 f_89.2) qh_91 e_93 e_95 e_97) (o35_486 b_57 b_58 b_61 b_62 hn_56 e_64 c_65 e_76 e_78 e_80 (Int.le_trans f_89.1 e_87) (Int.le_trans e_88 f_89.2) qh_91 e_93 e_95 e_97) (o35_484 b_57 b_58 b_61 b_62 hn_56 e_64 c_65 e_76 e_78 e_80 (Int.le_trans f_89.1 e_87) (Int.le_trans e_88 f_89.2) qh_91 e_93 e_95 e_97)))) e_100) (el_hi (Eq.trans (Eq.symm (ec_wa (x := x2_50.toInt.toNat) (o35_483 b_57 b_58 b_61 b_62 hn_56 e_64 c_65 e_76 e_78 e_80 (Int.le_trans f_89.1 e_87) (Int.le_trans e_88 f_89.2) qh_91 e_93 e_95 e_97) (o35_484 b_57 b_58 b_61 b_62 hn_56 e_64 c_65 e_76 e_78 e_80 (Int.le_trans f_89.1 e_87) (Int.le_trans e_88 f_89.2) qh_91 e_93 e_95 e_97))) (Eq.symm (ec_nk (n := f_59.toInt.toNat) (o35_485 b_57 b_58 b_61 b_62 hn_56 e_64 c_65 e_76 e_78 e_80 (Int.le_trans f_89.1 e_87) (Int.le_trans e_88 f_89.2) qh_91 e_93 e_95 e_97) (o35_486 b_57 b_58 b_61 b_62 hn_56 e_64 c_65 e_76 e_78 e_80 (Int.le_trans f_89.1 e_87) (Int.le_trans e_88 f_89.2) qh_91 e_93 e_95 e_97) (o35_484 b_57 b_58 b_61 b_62 hn_56 e_64 c_65 e_76 e_78 e_80 (Int.le_trans f_89.1 e_87) (Int.le_trans e_88 f_89.2) qh_91 e_93 e_95 e_97)))) e_101) dX12_undo_78 (fun H locs ws_102 h u_103 => ?_)
            replace HE : FT = g15w_X12_undo R44 (xso SM ad ws_102) x2_50.toInt := HE.trans (by rw [(xso_A (i := 1) hO_104 h.2 kSM_1 rfl u_103), (xg1 e_99 : v_98.toInt = (xso SM ad ws_51) 1 1 v_96.toInt.toNat), e_97, e_95, e_93, (xg1 e_86 : v_85.toInt = (xso SM ad ws_51) 1 1 v_83.toInt.toNat), e_84, e_80, e_78, e_76]; rfl)
            refine y_inc (kp := 0) (n := 1) (fun v_105 => [(2, .int v_105), (0, .ref (ad 0)), (1, .int a1)]) C0 hl rfl (by decide) (by decide) (fun _ => rfl) (o35_490 b_57 b_58 b_61 b_62 hn_56 e_64 c_65 e_76 e_78 e_80 (Int.le_trans f_89.1 e_87) (Int.le_trans e_88 f_89.2) qh_91 e_93 e_95 e_97 (le_min x2_50) (le_max x2_50) (le_min f_59) (le_max f_59) (le_min v_63) (le_max v_63) (le_min v_75) (le_max v_75) (le_min v_77) (le_max v_77) (le_min v_79) (le_max v_79) (le_min v_85) (le_max v_85) (le_min v_92) (le_max v_92) (le_min v_94) (le_max v_94) (le_min v_96) (le_max v_96)) (o35_491 b_57 b_58 b_61 b_62 hn_56 e_64 c_65 e_76 e_78 e_80 (Int.le_trans f_89.1 e_87) (Int.le_trans e_88 f_89.2) qh_91 e_93 e_95 e_97 (le_min x2_50) (le_max x2_50) (le_min f_59) (le_max f_59) (le_min v_63) (le_max v_63) (le_min v_75) (le_max v_75) (le_min v_77) (le_max v_77) (le_min v_79) (le_max v_79) (le_min v_85) (le_max v_85) (le_min v_92) (le_max v_92) (le_min v_94) (le_max v_94) (le_min v_96) (le_max v_96)) dX12_undo_79 (fun v_105 ls e_106 hl => ?_)
            refine lv_goto (tgt := 44) C0.1 C0.2.1 dX12_undo_82 (by decide) ?_
            exact ih_54 v_105 f_59 _ _ _ _ (o35_493 b_57 b_58 b_61 b_62 hn_56 e_64 c_65 e_76 e_78 e_80 (Int.le_trans f_89.1 e_87) (Int.le_trans e_88 f_89.2) qh_91 e_93 e_95 e_97 e_106) (o35_494 b_57 b_58 b_61 b_62 hn_56 e_64 c_65 e_76 e_78 e_80 (Int.le_trans f_89.1 e_87) (Int.le_trans e_88 f_89.2) qh_91 e_93 e_95 e_97 e_106) (o35_495 b_57 b_58 b_61 b_62 hn_56 e_64 c_65 e_76 e_78 e_80 (Int.le_trans f_89.1 e_87) (Int.le_trans e_88 f_89.2) qh_91 e_93 e_95 e_97 e_106) (o35_496 b_57 b_58 b_61 b_62 hn_56 e_64 c_65 e_76 e_78 e_80 (Int.le_trans f_89.1 e_87) (Int.le_trans e_88 f_89.2) qh_91 e_93 e_95 e_97 e_106) (o35_497 b_57 b_58 b_61 b_62 hn_56 e_64 c_65 e_76 e_78 e_80 (Int.le_trans f_89.1 e_87) (Int.le_trans e_88 f_89.2) qh_91 e_93 e_95 e_97 e_106) ((Pa.tr hPa_44 (Pa.st u_103 (o35_488 b_57 b_58 b_61 b_62 hn_56 e_64 c_65 e_76 e_78 e_80 (Int.le_trans f_89.1 e_87) (Int.le_trans e_88 f_89.2) qh_91 e_93 e_95 e_97) (o35_489 b_57 b_58 b_61 b_62 hn_56 e_64 c_65 e_76 e_78 e_80 (Int.le_trans f_89.1 e_87) (Int.le_trans e_88 f_89.2) qh_91 e_93 e_95 e_97)))) ((Pw.tr hPw_44 (Pw.st u_103 (o35_487 b_57 b_58 b_61 b_62 hn_56 e_64 c_65 e_76 e_78 e_80 (Int.le_trans f_89.1 e_87) (Int.le_trans e_88 f_89.2) qh_91 e_93 e_95 e_97)))) (((show FT = R44 (xso SM ad ws_102) v_105.toInt from HE.trans (by rw [e_106]; rfl)).trans (by rw [hR44]))) (Eq.trans (u_103.2.2 112 (o35_492 b_57 b_58 b_61 b_62 hn_56 e_64 c_65 e_76 e_78 e_80 (Int.le_trans f_89.1 e_87) (Int.le_trans e_88 f_89.2) qh_91 e_93 e_95 e_97 e_106)) e_60) h (Fr.tr hF_52 (Fr.up u_103.1 kSM_1 (by decide))) (lv_sub hl [0, 1, 2] rfl)
      exact lp_53 ((76 - v_48.toInt + 1).toNat) v_48 v_41 _ _ _ _ (o35_498 e_49) (o35_56 e_49) (o35_499 e_49) (o35_460 e_6 e_8 e_10 e_17 e_18 e_19 c_20 (Int.le_trans f_29.1 e_27) (Int.le_trans e_28 f_29.2) c_31 (Int.le_trans f_38.1 e_36) (Int.le_trans e_37 f_38.2) qh_40 e_42) (o35_500 e_6 e_8 e_10 e_17 e_18 e_19 c_20 (Int.le_trans f_29.1 e_27) (Int.le_trans e_28 f_29.2) c_31 (Int.le_trans f_38.1 e_36) (Int.le_trans e_37 f_38.2) qh_40 e_42) Pa.rf Pw.rf ((show FT = L10_X12_undo (Int.toNat (76 - v_48.toInt + 1)) (xso SM ad ws_43) v_48.toInt from HE.trans (by rw [e_49]; rfl))) (Eq.trans rfl e_47) h Fr.rf (lv_sub hl [0, 1, 2] rfl)
    · -- 25
      replace HE : FT = g8_X12_undo (xso SM ad ws_11) := HE.trans (if_pos c_31)
      refine y_c2 (n := (-3)) C0 (by decide) dX12_undo_28 (fun v_107 e_108 => ?_)
      replace HE : FT = ((xso SM ad ws_11), v_107.toInt) := HE.trans (by rw [e_108]; rfl)
      rw [hQ]
      exact y_iret C0 h (Fr.tr (Fr.up u_4.1 kSM_0 (by decide)) (Fr.mono u_12 (by decide))) ⟨(congrArg Prod.fst (HE.symm.trans hFT)), (congrArg Prod.snd (HE.symm.trans hFT)), (o35_75 e_108), (o35_450 e_108), (Pa.tr (Pa.ud u_4.1 (by decide)) (Pa.fr u_12 (by decide))), (Pw.tr (Pw.ud u_4.1 (by decide)) (Pw.fr u_12 (by decide)))⟩ dX12_undo_30
noncomputable def g1w_X12_draw (s : XS) (a1 : Int) : XR := (s, ((Xiushr (s 0 0 19) 16) % a1))
noncomputable def f_X12_draw (s : XS) (a1 : Int) : XR := g1w_X12_draw (xup s 0 0 19 (Xiadd (Ximul 1103515245 (s 0 0 19)) 12345)) a1
set_option maxHeartbeats 4000000 in
set_option maxRecDepth 100000 in
theorem c_X12_draw (l : Launch) (G : GG) (Z : RZ) (ad : Nat → Nat) (ws0 : va_W) (hT : Ty G SM ad ws0) (a1 : Int32) (l1 : 1 ≤ a1.toInt) (u1 : a1.toInt ≤ 5) : Mq l yX12_draw cX12_draw 2 (some .int) 1 G Z [.ref (ad 0), .int a1] ws0 (PI G SM ad [0] ws0 (fun r u => (xso SM ad u = (f_X12_draw (xso SM ad ws0) a1.toInt).1) ∧ (r.toInt = (f_X12_draw (xso SM ad ws0) a1.toInt).2) ∧ (0 ≤ r.toInt) ∧ (r.toInt ≤ 4))) := by
  refine Mq.start (by decide) (Nat.le_of_ble_eq_true rfl) ?_
  intro p e s m below meth c A ls C0 hZ h hl
  have hl : lv_has ls 2 [(0, .ref (ad 0)), (1, .int a1)] := hl
  have h : Wt G SM ad A s s.heap [] ws0 := ⟨h, hT⟩
  obtain ⟨args, hargs⟩ : ∃ z, z = ([.ref (ad 0), .int a1] : List Value).toArray := ⟨_, rfl⟩
  rw [← hargs] at C0 ⊢
  have C0 : Cx p s m args meth c RX12 cX12_draw 2 (some .int) := C0
  obtain ⟨Q, hQ⟩ : ∃ z, z = MQ below ((PI G SM ad [0] ws0 (fun r u => (xso SM ad u = (f_X12_draw (xso SM ad ws0) a1.toInt).1) ∧ (r.toInt = (f_X12_draw (xso SM ad ws0) a1.toInt).2) ∧ (0 ≤ r.toInt) ∧ (r.toInt ≤ 4))) A) args s 0 0 A := ⟨_, rfl⟩
  rw [← hQ]
  obtain ⟨FT, hFT⟩ : ∃ z, z = f_X12_draw (xso SM ad ws0) a1.toInt := ⟨_, rfl⟩
  have HE : FT = f_X12_draw (xso SM ad ws0) a1.toInt := hFT
  refine lv_aload_n C0.1 C0.2.1 dX12_draw_0 rfl (lv_at hl 0 rfl) ?_
  refine y_c5 (n := 1103515245) C0 q_1861 (by decide) dX12_draw_1 (fun v_1 e_2 => ?_)
  refine lv_aload_n C0.1 C0.2.1 dX12_draw_4 rfl (lv_at hl 0 rfl) ?_
  refine ng_X12_x C0 h kSM_0 q_1457 dX12_draw_5 (fun v_3 e_4 e_5 e_6 => ?_)
  refine xr_imul C0 dX12_draw_8 (fun v_7 e_8 => ?_)
  refine y_c3 (n := 12345) C0 (by decide) dX12_draw_9 (fun v_9 e_10 => ?_)
  refine xr_iadd C0 dX12_draw_12 (fun v_11 e_12 => ?_)
  refine np_X12_x C0 h kSM_0 q_1457 (le_min v_11) (le_max v_11) dX12_draw_13 (fun H locs ws_13 h u_14 Xu_14 => ?_)
  replace HE : FT = g1w_X12_draw (xso SM ad ws_13) a1.toInt := HE.trans (by rw [Xu_14, e_12, e_10, e_8, (xg0 e_4 : v_3.toInt = (xso SM ad ws0) 0 0 19), e_2]; rfl)
  refine lv_aload_n C0.1 C0.2.1 dX12_draw_16 rfl (lv_at hl 0 rfl) ?_
  refine ng_X12_x C0 h kSM_0 q_1457 dX12_draw_17 (fun v_15 e_16 e_17 e_18 => ?_)
  have qh_19 : v_15.toInt = v_11.toInt := congrArg Int32.toInt (e_16.symm.trans (Eq.trans rfl u_14.2.1))
  refine y_c2 (n := 16) C0 (by decide) dX12_draw_20 (fun v_20 e_21 => ?_)
  refine xr_iushr C0 dX12_draw_22 (fun v_22 e_23 => ?_)
  refine lv_iload_n C0.1 C0.2.1 dX12_draw_23 rfl (lv_at hl 1 rfl) ?_
  refine y_remXm C0 (o35_502 l1 u1) (o35_503 (xb_ushr 16 16 (n := 65535) e_23 (Eq.trans (o35_501 e_21) (by decide)) (by decide) (by decide) (by decide)).1 (xb_ushr 16 16 (n := 65535) e_23 (Eq.trans (o35_501 e_21) (by decide)) (by decide) (by decide) (by decide)).2) dX12_draw_24 (fun v_24 e_25 e_26 e_27 => ?_)
  replace HE : FT = ((xso SM ad ws_13), v_24.toInt) := HE.trans (by rw [e_25, e_23, e_21, (xg0 e_16 : v_15.toInt = (xso SM ad ws_13) 0 0 19)]; rfl)
  rw [hQ]
  exact y_iret C0 h (Fr.up u_14.1 kSM_0 (by decide)) ⟨(congrArg Prod.fst (HE.symm.trans hFT)), (congrArg Prod.snd (HE.symm.trans hFT)), (o35_504 l1 u1 (xb_ushr 16 16 (n := 65535) e_23 (Eq.trans (o35_501 e_21) (by decide)) (by decide) (by decide) (by decide)).1 (xb_ushr 16 16 (n := 65535) e_23 (Eq.trans (o35_501 e_21) (by decide)) (by decide) (by decide) (by decide)).2 e_25 e_26 e_27), (o35_505 l1 u1 (xb_ushr 16 16 (n := 65535) e_23 (Eq.trans (o35_501 e_21) (by decide)) (by decide) (by decide) (by decide)).1 (xb_ushr 16 16 (n := 65535) e_23 (Eq.trans (o35_501 e_21) (by decide)) (by decide) (by decide) (by decide)).2 e_25 e_26 e_27)⟩ dX12_draw_25
noncomputable def g14c_X12_isDrawn (s : XS) (r_63 : Int) : XR := (s, 1)
noncomputable def g12_X12_isDrawn (s : XS) (r_26 : Int) (r_39 : Int) : XR := g14c_X12_isDrawn ((f_X12_goes s r_26 r_39).1) (((f_X12_goes s r_26 r_39).2))
noncomputable def g13_X12_isDrawn (s : XS) : XR := (s, 0)
noncomputable def g11b_X12_isDrawn (s : XS) (r_51 : Int) (r_26 : Int) (r_39 : Int) : XR := if r_51 = 0 then g12_X12_isDrawn s r_26 r_39 else g13_X12_isDrawn s
noncomputable def g10c_X12_isDrawn (s : XS) (r_51 : Int) (r_26 : Int) (r_39 : Int) : XR := g11b_X12_isDrawn s r_51 r_26 r_39
noncomputable def g9c_X12_isDrawn (s : XS) (r_39 : Int) (r_26 : Int) : XR := g10c_X12_isDrawn ((f_X12_whyNot s r_26 r_39).1) (((f_X12_whyNot s r_26 r_39).2)) r_26 r_39
noncomputable def g7_X12_isDrawn (s : XS) (r_26 : Int) : XR := g9c_X12_isDrawn ((f_X12_draw s 4).1) (((f_X12_draw s 4).2)) r_26
noncomputable def g17_X12_isDrawn (s : XS) : XR := (s, 0)
noncomputable def g18_X12_isDrawn (s : XS) : XR := (s, 1)
noncomputable def g16b_X12_isDrawn (s : XS) (r_79 : Int) : XR := if r_79 < 0 then g17_X12_isDrawn s else g18_X12_isDrawn s
noncomputable def g15c_X12_isDrawn (s : XS) (r_79 : Int) : XR := g16b_X12_isDrawn s r_79
noncomputable def g8_X12_isDrawn (s : XS) (r_26 : Int) : XR := g15c_X12_isDrawn ((f_X12_boughtBy s r_26 1).1) (((f_X12_boughtBy s r_26 1).2))
noncomputable def g6b_X12_isDrawn (s : XS) (r_6 : Int) (r_26 : Int) : XR := if r_6 = 2 then g8_X12_isDrawn s r_26 else g7_X12_isDrawn s r_26
noncomputable def g5c_X12_isDrawn (s : XS) (r_26 : Int) (r_6 : Int) : XR := g6b_X12_isDrawn s r_6 r_26
noncomputable def g3_X12_isDrawn (s : XS) (r_6 : Int) : XR := g5c_X12_isDrawn ((f_X12_draw s (s 1 1 (Int.toNat 3))).1) (((f_X12_draw s (s 1 1 (Int.toNat 3))).2)) r_6
noncomputable def g19w_X12_isDrawn (s : XS) : XR := (s, 1)
noncomputable def g4_X12_isDrawn (s : XS) : XR := g19w_X12_isDrawn (xup s 1 1 (Int.toNat 111) ((Xiadd (s 1 1 (Int.toNat 111)) 1)))
noncomputable def g2b_X12_isDrawn (s : XS) (r_6 : Int) : XR := if r_6 = 3 then g4_X12_isDrawn s else g3_X12_isDrawn s r_6
noncomputable def g1c_X12_isDrawn (s : XS) (r_6 : Int) : XR := g2b_X12_isDrawn s r_6
noncomputable def f_X12_isDrawn (s : XS) : XR := g1c_X12_isDrawn ((f_X12_draw s 4).1) (((f_X12_draw s 4).2))
set_option maxHeartbeats 4000000 in
set_option maxRecDepth 100000 in
theorem c_X12_isDrawn (l : Launch) (G : GG) (Z : RZ) (ad : Nat → Nat) (ws0 : va_W) (hT : Ty G SM ad ws0) (fl0 : 1 ≤ (aI ws0 1 3).toInt) (fh0 : (aI ws0 1 3).toInt ≤ 5) (hJ : J ws0) (hLd : Laid ws0) : Mq l yX12_isDrawn cX12_isDrawn 4 (some .boolean) 6 G Z [.ref (ad 0)] ws0 (PI G SM ad [0, 1, 5, 6] ws0 (fun r u => (xso SM ad u = (f_X12_isDrawn (xso SM ad ws0)).1) ∧ (r.toInt = (f_X12_isDrawn (xso SM ad ws0)).2) ∧ (0 ≤ r.toInt) ∧ (r.toInt ≤ 1) ∧ (Pa ws0 u) ∧ (Pw ws0 u))) := by
  refine Mq.start (by decide) (Nat.le_of_ble_eq_true rfl) ?_
  intro p e s m below meth c A ls C0 hZ h hl
  have hl : lv_has ls 4 [(0, .ref (ad 0))] := hl
  have h : Wt G SM ad A s s.heap [] ws0 := ⟨h, hT⟩
  obtain ⟨args, hargs⟩ : ∃ z, z = ([.ref (ad 0)] : List Value).toArray := ⟨_, rfl⟩
  rw [← hargs] at C0 ⊢
  have C0 : Cx p s m args meth c RX12 cX12_isDrawn 4 (some .boolean) := C0
  obtain ⟨Q, hQ⟩ : ∃ z, z = MQ below ((PI G SM ad [0, 1, 5, 6] ws0 (fun r u => (xso SM ad u = (f_X12_isDrawn (xso SM ad ws0)).1) ∧ (r.toInt = (f_X12_isDrawn (xso SM ad ws0)).2) ∧ (0 ≤ r.toInt) ∧ (r.toInt ≤ 1) ∧ (Pa ws0 u) ∧ (Pw ws0 u))) A) args s 0 0 A := ⟨_, rfl⟩
  rw [← hQ]
  obtain ⟨FT, hFT⟩ : ∃ z, z = f_X12_isDrawn (xso SM ad ws0) := ⟨_, rfl⟩
  have HE : FT = f_X12_isDrawn (xso SM ad ws0) := hFT
  obtain ⟨fp0, ef0⟩ : ∃ v, aI ws0 1 3 = v := ⟨_, rfl⟩
  rw [ef0] at fl0 fh0
  refine lv_aload_n C0.1 C0.2.1 dX12_isDrawn_0 rfl (lv_at hl 0 rfl) ?_
  refine y_c1 (n := 4) C0 (by decide) dX12_isDrawn_1 (fun v_1 e_2 => ?_)
  refine y_ci h (y_rV (As := [.int v_1]) (rest := []) C0 hZ h (c_X12_draw l G Z ad _ h.2 v_1 (o35_506 e_2) (o35_507 e_2)) k_X12_draw q_1859 q_98 q_1857 kSM_0 rfl rfl rfl hl.1 rfl rfl (Nat.le_of_ble_eq_true rfl) dX12_isDrawn_2 ⟨Nat.le_of_ble_eq_true rfl, Nat.le_of_ble_eq_true rfl⟩ ⟨Nat.le_of_ble_eq_true rfl, Nat.le_of_ble_eq_true rfl⟩) (fun r_6 H locs ws_3 h u_4 p_5 => ?_)
  obtain ⟨e_7, e_8, e_9, e_10⟩ := p_5
  replace HE : FT = g1c_X12_isDrawn (xso SM ad ws_3) r_6.toInt := HE.trans (by rw [e_7, e_8, e_2]; rfl)
  refine lv_istore_n (lv' := [(1, .int r_6), (0, .ref (ad 0))]) C0.1 C0.2.1 dX12_isDrawn_5 rfl hl (by decide) rfl (fun ls hl => ?_)
  refine lv_iload_n C0.1 C0.2.1 dX12_isDrawn_6 rfl (lv_at hl 0 rfl) ?_
  refine y_c1 (n := 3) C0 (by decide) dX12_isDrawn_7 (fun v_11 e_12 => ?_)
  replace HE : FT = g2b_X12_isDrawn (xso SM ad ws_3) r_6.toInt := HE.trans rfl
  refine y_icmp_ne (tgt := 24) C0 dX12_isDrawn_8 (by decide) (fun c_13 => ?_) (fun c_13 => ?_)
  · -- 8
    replace HE : FT = g3_X12_isDrawn (xso SM ad ws_3) r_6.toInt := HE.trans (if_neg (o35_508 e_9 e_10 e_12 c_13))
    refine lv_aload_n C0.1 C0.2.1 dX12_isDrawn_24 rfl (lv_at hl 1 rfl) ?_
    refine lv_aload_n C0.1 C0.2.1 dX12_isDrawn_25 rfl (lv_at hl 1 rfl) ?_
    refine ng_X12_all C0 h kSM_0 q_1439 dX12_isDrawn_26 ?_
    refine y_c1 (n := 3) C0 (by decide) dX12_isDrawn_29 (fun v_14 e_15 => ?_)
    refine y_iald C0 h kSM_1 rfl (by decide) (o35_510 e_15) (o35_511 e_15) dX12_isDrawn_30 (fun v_16 e_17 e_18 e_19 => ?_)
    have f_20 := o35_512 v_14.toInt.toNat (o35_513 e_15) (o35_514 e_15)
    have e_21 : aI ws_3 1 3 = v_16 := (congrArg (aI ws_3 1) (ix_c (c := 3) (o35_515 e_15))).symm.trans e_17
    have qh_22 : v_16.toInt = fp0.toInt := congrArg Int32.toInt (e_21.symm.trans (Eq.trans (Fr.aI u_4 kSM_1 (by decide)) ef0))
    refine y_ci h (y_rV (As := [.int v_16]) (rest := []) C0 hZ h (c_X12_draw l G Z ad _ h.2 v_16 (o35_516 fl0 fh0 (Int.le_trans f_20.1 e_18) (Int.le_trans e_19 f_20.2) qh_22) (o35_517 fl0 fh0 (Int.le_trans f_20.1 e_18) (Int.le_trans e_19 f_20.2) qh_22)) k_X12_draw q_1859 q_98 q_1857 kSM_0 rfl rfl rfl hl.1 rfl rfl (Nat.le_of_ble_eq_true rfl) dX12_isDrawn_31 ⟨Nat.le_of_ble_eq_true rfl, Nat.le_of_ble_eq_true rfl⟩ ⟨Nat.le_of_ble_eq_true rfl, Nat.le_of_ble_eq_true rfl⟩) (fun r_26 H locs ws_23 h u_24 p_25 => ?_)
    obtain ⟨e_27, e_28, e_29, e_30⟩ := p_25
    replace HE : FT = g5c_X12_isDrawn (xso SM ad ws_23) r_26.toInt r_6.toInt := HE.trans (by rw [e_27, e_28, (xg1 e_17 : v_16.toInt = (xso SM ad ws_3) 1 1 v_14.toInt.toNat), e_15]; rfl)
    refine lv_istore_n (lv' := [(2, .int r_26), (1, .int r_6), (0, .ref (ad 0))]) C0.1 C0.2.1 dX12_isDrawn_34 rfl hl (by decide) rfl (fun ls hl => ?_)
    refine lv_iload_n C0.1 C0.2.1 dX12_isDrawn_35 rfl (lv_at hl 1 rfl) ?_
    refine y_c1 (n := 2) C0 (by decide) dX12_isDrawn_36 (fun v_31 e_32 => ?_)
    replace HE : FT = g6b_X12_isDrawn (xso SM ad ws_23) r_6.toInt r_26.toInt := HE.trans rfl
    refine y_icmp_ne (tgt := 55) C0 dX12_isDrawn_37 (by decide) (fun c_33 => ?_) (fun c_33 => ?_)
    · -- 37
      replace HE : FT = g7_X12_isDrawn (xso SM ad ws_23) r_26.toInt := HE.trans (if_neg (o35_518 e_9 e_10 e_12 c_13 e_32 c_33))
      refine lv_aload_n C0.1 C0.2.1 dX12_isDrawn_55 rfl (lv_at hl 2 rfl) ?_
      refine y_c1 (n := 4) C0 (by decide) dX12_isDrawn_56 (fun v_34 e_35 => ?_)
      refine y_ci h (y_rV (As := [.int v_34]) (rest := []) C0 hZ h (c_X12_draw l G Z ad _ h.2 v_34 (o35_506 e_35) (o35_507 e_35)) k_X12_draw q_1859 q_98 q_1857 kSM_0 rfl rfl rfl hl.1 rfl rfl (Nat.le_of_ble_eq_true rfl) dX12_isDrawn_57 ⟨Nat.le_of_ble_eq_true rfl, Nat.le_of_ble_eq_true rfl⟩ ⟨Nat.le_of_ble_eq_true rfl, Nat.le_of_ble_eq_true rfl⟩) (fun r_39 H locs ws_36 h u_37 p_38 => ?_)
      obtain ⟨e_40, e_41, e_42, e_43⟩ := p_38
      replace HE : FT = g9c_X12_isDrawn (xso SM ad ws_36) r_39.toInt r_26.toInt := HE.trans (by rw [e_40, e_41, e_35]; rfl)
      refine lv_istore_n (lv' := [(3, .int r_39), (2, .int r_26), (1, .int r_6), (0, .ref (ad 0))]) C0.1 C0.2.1 dX12_isDrawn_60 rfl hl (by decide) rfl (fun ls hl => ?_)
      refine lv_aload_n C0.1 C0.2.1 dX12_isDrawn_61 rfl (lv_at hl 3 rfl) ?_
      refine lv_iload_n C0.1 C0.2.1 dX12_isDrawn_62 rfl (lv_at hl 1 rfl) ?_
      refine y_i2l C0 dX12_isDrawn_63 (fun w_44 e_45 => ?_)
      refine lv_iload_n C0.1 C0.2.1 dX12_isDrawn_64 rfl (lv_at hl 0 rfl) ?_
      refine y_i2l C0 dX12_isDrawn_65 (fun w_46 e_47 => ?_)
      refine y_ci h (y_rV (As := [.long w_44, .long w_46]) (rest := []) C0 hZ h (c_X12_whyNot l G Z ad _ h.2 w_44 w_46 (J.pa hT hJ (Pa.tr (Pa.tr (Pa.fr u_4 (by decide)) (Pa.fr u_24 (by decide))) (Pa.fr u_37 (by decide))))) k_X12_whyNot q_1758 q_86 q_1756 kSM_0 rfl rfl rfl hl.1 rfl rfl (Nat.le_of_ble_eq_true rfl) dX12_isDrawn_66 ⟨Nat.le_of_ble_eq_true rfl, Nat.le_of_ble_eq_true rfl⟩ ⟨Nat.le_of_ble_eq_true rfl, Nat.le_of_ble_eq_true rfl⟩) (fun r_51 H locs ws_48 h u_49 p_50 => ?_)
      obtain ⟨e_52, e_53, e_54, e_55, e_56, e_57, e_58⟩ := p_50
      replace HE : FT = g10c_X12_isDrawn (xso SM ad ws_48) r_51.toInt r_26.toInt r_39.toInt := HE.trans (by rw [e_52, e_53, e_47, e_45]; rfl)
      replace HE : FT = g11b_X12_isDrawn (xso SM ad ws_48) r_51.toInt r_26.toInt r_39.toInt := HE.trans rfl
      refine y_if_eq (tgt := 74) C0 dX12_isDrawn_69 (by decide) (fun c_59 => ?_) (fun c_59 => ?_)
      · -- 69
        replace HE : FT = g12_X12_isDrawn (xso SM ad ws_48) r_26.toInt r_39.toInt := HE.trans (if_pos c_59)
        refine lv_aload_n C0.1 C0.2.1 dX12_isDrawn_74 rfl (lv_at hl 3 rfl) ?_
        refine lv_iload_n C0.1 C0.2.1 dX12_isDrawn_75 rfl (lv_at hl 1 rfl) ?_
        refine lv_iload_n C0.1 C0.2.1 dX12_isDrawn_76 rfl (lv_at hl 0 rfl) ?_
        refine y_ci h (y_rV (As := [.int r_26, .int r_39]) (rest := []) C0 hZ h (c_X12_goes l G Z ad _ h.2 r_26 r_39 (o35_520 e_29 e_30 e_42 e_43 e_45 e_47 e_54 e_55 e_56 c_59) (o35_521 e_29 e_30 e_42 e_43 e_45 e_47 e_54 e_55 e_56 c_59) (o35_522 e_29 e_30 e_42 e_43 e_45 e_47 e_54 e_55 e_56 c_59) (o35_523 e_29 e_30 e_42 e_43 e_45 e_47 e_54 e_55 e_56 c_59) ((CanM.fr u_49 (by decide) (CanM.cg (e_57 (o35_524 e_29 e_30 e_42 e_43 e_45 e_47 e_54 e_55 e_56 c_59)) (o35_525 e_29 e_30 e_42 e_43 e_45 e_47 e_54 e_55 e_56 c_59) (o35_526 e_29 e_30 e_42 e_43 e_45 e_47 e_54 e_55 e_56 c_59)))) (Laid.pa hLd (Pa.tr (Pa.tr (Pa.tr (Pa.fr u_4 (by decide)) (Pa.fr u_24 (by decide))) (Pa.fr u_37 (by decide))) (Pa.fr u_49 (by decide))))) k_X12_goes q_1781 q_89 q_1779 kSM_0 rfl rfl rfl hl.1 rfl rfl (Nat.le_of_ble_eq_true rfl) dX12_isDrawn_77 ⟨Nat.le_of_ble_eq_true rfl, Nat.le_of_ble_eq_true rfl⟩ ⟨Nat.le_of_ble_eq_true rfl, Nat.le_of_ble_eq_true rfl⟩) (fun r_63 H locs ws_60 h u_61 p_62 => ?_)
        obtain ⟨e_64, e_65, e_66, e_67, e_68, e_69⟩ := p_62
        replace HE : FT = g14c_X12_isDrawn (xso SM ad ws_60) r_63.toInt := HE.trans (by rw [e_64, e_65]; rfl)
        refine lv_pop C0.1 C0.2.1 dX12_isDrawn_80 rfl ?_
        refine y_c1 (n := 1) C0 (by decide) dX12_isDrawn_81 (fun v_70 e_71 => ?_)
        replace HE : FT = ((xso SM ad ws_60), v_70.toInt) := HE.trans (by rw [e_71]; rfl)
        rw [hQ]
        exact y_zret C0 h (o35_527 e_71) (o35_528 e_71) (Fr.tr (Fr.tr (Fr.tr (Fr.tr (Fr.mono u_4 (by decide)) (Fr.mono u_24 (by decide))) (Fr.mono u_37 (by decide))) (Fr.mono u_49 (by decide))) (Fr.mono u_61 (by decide))) ⟨(congrArg Prod.fst (HE.symm.trans hFT)), (congrArg Prod.snd (HE.symm.trans hFT)), (o35_527 e_71), (o35_528 e_71), (Pa.tr (Pa.tr (Pa.tr (Pa.tr (Pa.fr u_4 (by decide)) (Pa.fr u_24 (by decide))) (Pa.fr u_37 (by decide))) (Pa.fr u_49 (by decide))) e_68), (Pw.tr (Pw.tr (Pw.tr (Pw.tr (Pw.fr u_4 (by decide)) (Pw.fr u_24 (by decide))) (Pw.fr u_37 (by decide))) (Pw.fr u_49 (by decide))) e_69)⟩ dX12_isDrawn_82
      · -- 69
        replace HE : FT = g13_X12_isDrawn (xso SM ad ws_48) := HE.trans (if_neg c_59)
        refine y_c1 (n := 0) C0 (by decide) dX12_isDrawn_72 (fun v_72 e_73 => ?_)
        replace HE : FT = ((xso SM ad ws_48), v_72.toInt) := HE.trans (by rw [e_73]; rfl)
        rw [hQ]
        exact y_zret C0 h (o35_56 e_73) (o35_529 e_73) (Fr.tr (Fr.tr (Fr.tr (Fr.mono u_4 (by decide)) (Fr.mono u_24 (by decide))) (Fr.mono u_37 (by decide))) (Fr.mono u_49 (by decide))) ⟨(congrArg Prod.fst (HE.symm.trans hFT)), (congrArg Prod.snd (HE.symm.trans hFT)), (o35_56 e_73), (o35_529 e_73), (Pa.tr (Pa.tr (Pa.tr (Pa.fr u_4 (by decide)) (Pa.fr u_24 (by decide))) (Pa.fr u_37 (by decide))) (Pa.fr u_49 (by decide))), (Pw.tr (Pw.tr (Pw.tr (Pw.fr u_4 (by decide)) (Pw.fr u_24 (by decide))) (Pw.fr u_37 (by decide))) (Pw.fr u_49 (by decide)))⟩ dX12_isDrawn_73
    · -- 37
      replace HE : FT = g8_X12_isDrawn (xso SM ad ws_23) r_26.toInt := HE.trans (if_pos (o35_519 e_9 e_10 e_12 c_13 e_32 c_33))
      refine lv_aload_n C0.1 C0.2.1 dX12_isDrawn_40 rfl (lv_at hl 2 rfl) ?_
      refine lv_iload_n C0.1 C0.2.1 dX12_isDrawn_41 rfl (lv_at hl 0 rfl) ?_
      refine y_c1 (n := 1) C0 (by decide) dX12_isDrawn_42 (fun v_74 e_75 => ?_)
      refine y_ci h (y_rV (As := [.int r_26, .int v_74]) (rest := []) C0 hZ h (c_X12_boughtBy l G Z ad _ h.2 r_26 v_74 (o35_233 e_29 e_30) (o35_234 e_29 e_30) (o35_153 e_75) (o35_530 e_75) (J.pa hT hJ (Pa.tr (Pa.fr u_4 (by decide)) (Pa.fr u_24 (by decide)))) (Laid.pa hLd (Pa.tr (Pa.fr u_4 (by decide)) (Pa.fr u_24 (by decide))))) k_X12_boughtBy q_1816 q_94 q_1814 kSM_0 rfl rfl rfl hl.1 rfl rfl (Nat.le_of_ble_eq_true rfl) dX12_isDrawn_43 ⟨Nat.le_of_ble_eq_true rfl, Nat.le_of_ble_eq_true rfl⟩ ⟨Nat.le_of_ble_eq_true rfl, Nat.le_of_ble_eq_true rfl⟩) (fun r_79 H locs ws_76 h u_77 p_78 => ?_)
      obtain ⟨e_80, e_81, e_82, e_83, e_84⟩ := p_78
      replace HE : FT = g15c_X12_isDrawn (xso SM ad ws_76) r_79.toInt := HE.trans (by rw [e_80, e_81, e_75]; rfl)
      replace HE : FT = g16b_X12_isDrawn (xso SM ad ws_76) r_79.toInt := HE.trans rfl
      refine y_if_lt (tgt := 53) C0 dX12_isDrawn_46 (by decide) (fun c_85 => ?_) (fun c_85 => ?_)
      · -- 46
        replace HE : FT = g17_X12_isDrawn (xso SM ad ws_76) := HE.trans (if_pos c_85)
        refine y_c1 (n := 0) C0 (by decide) dX12_isDrawn_53 (fun v_86 e_87 => ?_)
        replace HE : FT = ((xso SM ad ws_76), v_86.toInt) := HE.trans (by rw [e_87]; rfl)
        rw [hQ]
        exact y_zret C0 h (o35_56 e_87) (o35_529 e_87) (Fr.tr (Fr.tr (Fr.mono u_4 (by decide)) (Fr.mono u_24 (by decide))) (Fr.mono u_77 (by decide))) ⟨(congrArg Prod.fst (HE.symm.trans hFT)), (congrArg Prod.snd (HE.symm.trans hFT)), (o35_56 e_87), (o35_529 e_87), (Pa.tr (Pa.tr (Pa.fr u_4 (by decide)) (Pa.fr u_24 (by decide))) e_83), (Pw.tr (Pw.tr (Pw.fr u_4 (by decide)) (Pw.fr u_24 (by decide))) e_84)⟩ dX12_isDrawn_54
      · -- 46
        replace HE : FT = g18_X12_isDrawn (xso SM ad ws_76) := HE.trans (if_neg (Int.not_lt.mpr c_85))
        refine y_c1 (n := 1) C0 (by decide) dX12_isDrawn_49 (fun v_88 e_89 => ?_)
        refine lv_goto (tgt := 54) C0.1 C0.2.1 dX12_isDrawn_50 (by decide) ?_
        replace HE : FT = ((xso SM ad ws_76), v_88.toInt) := HE.trans (by rw [e_89]; rfl)
        rw [hQ]
        exact y_zret C0 h (o35_527 e_89) (o35_528 e_89) (Fr.tr (Fr.tr (Fr.mono u_4 (by decide)) (Fr.mono u_24 (by decide))) (Fr.mono u_77 (by decide))) ⟨(congrArg Prod.fst (HE.symm.trans hFT)), (congrArg Prod.snd (HE.symm.trans hFT)), (o35_527 e_89), (o35_528 e_89), (Pa.tr (Pa.tr (Pa.fr u_4 (by decide)) (Pa.fr u_24 (by decide))) e_83), (Pw.tr (Pw.tr (Pw.fr u_4 (by decide)) (Pw.fr u_24 (by decide))) e_84)⟩ dX12_isDrawn_54
  · -- 8
    replace HE : FT = g4_X12_isDrawn (xso SM ad ws_3) := HE.trans (if_pos (o35_509 e_9 e_10 e_12 c_13))
    refine lv_aload_n C0.1 C0.2.1 dX12_isDrawn_11 rfl (lv_at hl 1 rfl) ?_
    refine ng_X12_all C0 h kSM_0 q_1439 dX12_isDrawn_12 ?_
    refine y_c2 (n := 111) C0 (by decide) dX12_isDrawn_15 (fun v_90 e_91 => ?_)
    refine lv_dup2_11 C0.1 C0.2.1 dX12_isDrawn_17 rfl rfl ?_
    refine y_iald C0 h kSM_1 rfl (by decide) (o35_66 e_91) (o35_67 e_91) dX12_isDrawn_18 (fun v_92 e_93 e_94 e_95 => ?_)
    have e_96 : aI ws_3 1 111 = v_92 := (congrArg (aI ws_3 1) (ix_c (c := 111) (o35_68 e_91))).symm.trans e_93
    refine y_c1 (n := 1) C0 (by decide) dX12_isDrawn_19 (fun v_97 e_98 => ?_)
    refine xr_iadd C0 dX12_isDrawn_20 (fun v_99 e_100 => ?_)
    have hO_103 := h.2
    have f_104 := o35_444 v_90.toInt.toNat (o35_445 e_91) (o35_446 e_91)
    refine y_iast C0 h kSM_1 rfl (by decide) (o35_66 e_91) (o35_67 e_91) (Int.le_trans f_104.1 (le_min v_99)) (Int.le_trans (le_max v_99) f_104.2) dX12_isDrawn_21 (fun H locs ws_101 h u_102 => ?_)
    have e_105 : aI ws_101 1 111 = v_99 := (congrArg (aI ws_101 1) (ix_c (c := 111) (o35_68 e_91))).symm.trans u_102.2.1
    replace HE : FT = g19w_X12_isDrawn (xso SM ad ws_101) := HE.trans (by rw [(xso_A (i := 1) hO_103 h.2 kSM_1 rfl u_102), e_100, e_98, (xg1 e_93 : v_92.toInt = (xso SM ad ws_3) 1 1 v_90.toInt.toNat), e_91]; rfl)
    refine y_c1 (n := 1) C0 (by decide) dX12_isDrawn_22 (fun v_106 e_107 => ?_)
    replace HE : FT = ((xso SM ad ws_101), v_106.toInt) := HE.trans (by rw [e_107]; rfl)
    rw [hQ]
    exact y_zret C0 h (o35_527 e_107) (o35_528 e_107) (Fr.tr (Fr.mono u_4 (by decide)) (Fr.up u_102.1 kSM_1 (by decide))) ⟨(congrArg Prod.fst (HE.symm.trans hFT)), (congrArg Prod.snd (HE.symm.trans hFT)), (o35_527 e_107), (o35_528 e_107), (Pa.tr (Pa.fr u_4 (by decide)) (Pa.st u_102 (o35_448 e_91) (o35_449 e_91))), (Pw.tr (Pw.fr u_4 (by decide)) (Pw.st u_102 (o35_447 e_91)))⟩ dX12_isDrawn_23
