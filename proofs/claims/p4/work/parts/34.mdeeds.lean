variable {tt : QQ}
theorem dX12_areThere_0 : decode cX12_areThere 0 = .ok (.aload_n 0, 1) := by decide +kernel
theorem dX12_areThere_1 : decode cX12_areThere 1 = .ok (.iload_n 1, 1) := by decide +kernel
theorem dX12_areThere_2 : decode cX12_areThere 2 = .ok (.i2l, 1) := by decide +kernel
theorem dX12_areThere_3 : decode cX12_areThere 3 = .ok (.invokevirtual 253, 3) := by decide +kernel
theorem dX12_areThere_6 : decode cX12_areThere 6 = .ok (.ifCond .eq 16, 3) := by decide +kernel
theorem dX12_areThere_9 : decode cX12_areThere 9 = .ok (.aload_n 0, 1) := by decide +kernel
theorem dX12_areThere_10 : decode cX12_areThere 10 = .ok (.iload_n 2, 1) := by decide +kernel
theorem dX12_areThere_11 : decode cX12_areThere 11 = .ok (.i2l, 1) := by decide +kernel
theorem dX12_areThere_12 : decode cX12_areThere 12 = .ok (.invokevirtual 257, 3) := by decide +kernel
theorem dX12_areThere_15 : decode cX12_areThere 15 = .ok (.ifCond .eq 7, 3) := by decide +kernel
theorem dX12_areThere_18 : decode cX12_areThere 18 = .ok (.iconst 1, 1) := by decide +kernel
theorem dX12_areThere_19 : decode cX12_areThere 19 = .ok (.goto 4, 3) := by decide +kernel
theorem dX12_areThere_22 : decode cX12_areThere 22 = .ok (.iconst 0, 1) := by decide +kernel
theorem dX12_areThere_23 : decode cX12_areThere 23 = .ok (.ireturn, 1) := by decide +kernel
theorem dX12_goes_0 : decode cX12_goes 0 = .ok (.aload_n 0, 1) := by decide +kernel
theorem dX12_goes_1 : decode cX12_goes 1 = .ok (.getfield 13, 3) := by decide +kernel
theorem dX12_goes_4 : decode cX12_goes 4 = .ok (.bipush 36, 2) := by decide +kernel
theorem dX12_goes_6 : decode cX12_goes 6 = .ok (.iload_n 1, 1) := by decide +kernel
theorem dX12_goes_7 : decode cX12_goes 7 = .ok (.iadd, 1) := by decide +kernel
theorem dX12_goes_8 : decode cX12_goes 8 = .ok (.iaload, 1) := by decide +kernel
theorem dX12_goes_9 : decode cX12_goes 9 = .ok (.istore_n 3, 1) := by decide +kernel
theorem dX12_goes_10 : decode cX12_goes 10 = .ok (.aload_n 0, 1) := by decide +kernel
theorem dX12_goes_11 : decode cX12_goes 11 = .ok (.iload_n 3, 1) := by decide +kernel
theorem dX12_goes_12 : decode cX12_goes 12 = .ok (.iconst 0, 1) := by decide +kernel
theorem dX12_goes_13 : decode cX12_goes 13 = .ok (.invokevirtual 269, 3) := by decide +kernel
theorem dX12_goes_16 : decode cX12_goes 16 = .ok (.ifCond .eq 7, 3) := by decide +kernel
theorem dX12_goes_19 : decode cX12_goes 19 = .ok (.iconst 0, 1) := by decide +kernel
theorem dX12_goes_20 : decode cX12_goes 20 = .ok (.goto 7, 3) := by decide +kernel
theorem dX12_goes_23 : decode cX12_goes 23 = .ok (.iload_n 2, 1) := by decide +kernel
theorem dX12_goes_24 : decode cX12_goes 24 = .ok (.invokestatic 287, 3) := by decide +kernel
theorem dX12_goes_27 : decode cX12_goes 27 = .ok (.istore 4, 2) := by decide +kernel
theorem dX12_goes_29 : decode cX12_goes 29 = .ok (.aload_n 0, 1) := by decide +kernel
theorem dX12_goes_30 : decode cX12_goes 30 = .ok (.getfield 13, 3) := by decide +kernel
theorem dX12_goes_33 : decode cX12_goes 33 = .ok (.bipush 41, 2) := by decide +kernel
theorem dX12_goes_35 : decode cX12_goes 35 = .ok (.iload_n 1, 1) := by decide +kernel
theorem dX12_goes_36 : decode cX12_goes 36 = .ok (.iadd, 1) := by decide +kernel
theorem dX12_goes_37 : decode cX12_goes 37 = .ok (.aload_n 0, 1) := by decide +kernel
theorem dX12_goes_38 : decode cX12_goes 38 = .ok (.getfield 13, 3) := by decide +kernel
theorem dX12_goes_41 : decode cX12_goes 41 = .ok (.bipush 41, 2) := by decide +kernel
theorem dX12_goes_43 : decode cX12_goes 43 = .ok (.iload_n 1, 1) := by decide +kernel
theorem dX12_goes_44 : decode cX12_goes 44 = .ok (.iadd, 1) := by decide +kernel
theorem dX12_goes_45 : decode cX12_goes 45 = .ok (.iaload, 1) := by decide +kernel
theorem dX12_goes_46 : decode cX12_goes 46 = .ok (.iload_n 2, 1) := by decide +kernel
theorem dX12_goes_47 : decode cX12_goes 47 = .ok (.invokestatic 278, 3) := by decide +kernel
theorem dX12_goes_50 : decode cX12_goes 50 = .ok (.iastore, 1) := by decide +kernel
theorem dX12_goes_51 : decode cX12_goes 51 = .ok (.aload_n 0, 1) := by decide +kernel
theorem dX12_goes_52 : decode cX12_goes 52 = .ok (.getfield 13, 3) := by decide +kernel
theorem dX12_goes_55 : decode cX12_goes 55 = .ok (.bipush 36, 2) := by decide +kernel
theorem dX12_goes_57 : decode cX12_goes 57 = .ok (.iload_n 1, 1) := by decide +kernel
theorem dX12_goes_58 : decode cX12_goes 58 = .ok (.iadd, 1) := by decide +kernel
theorem dX12_goes_59 : decode cX12_goes 59 = .ok (.aload_n 0, 1) := by decide +kernel
theorem dX12_goes_60 : decode cX12_goes 60 = .ok (.iload_n 3, 1) := by decide +kernel
theorem dX12_goes_61 : decode cX12_goes 61 = .ok (.aload_n 0, 1) := by decide +kernel
theorem dX12_goes_62 : decode cX12_goes 62 = .ok (.getfield 13, 3) := by decide +kernel
theorem dX12_goes_65 : decode cX12_goes 65 = .ok (.bipush 41, 2) := by decide +kernel
theorem dX12_goes_67 : decode cX12_goes 67 = .ok (.iload_n 1, 1) := by decide +kernel
theorem dX12_goes_68 : decode cX12_goes 68 = .ok (.iadd, 1) := by decide +kernel
theorem dX12_goes_69 : decode cX12_goes 69 = .ok (.iaload, 1) := by decide +kernel
theorem dX12_goes_70 : decode cX12_goes 70 = .ok (.invokevirtual 263, 3) := by decide +kernel
theorem dX12_goes_73 : decode cX12_goes 73 = .ok (.iastore, 1) := by decide +kernel
theorem dX12_goes_74 : decode cX12_goes 74 = .ok (.aload_n 0, 1) := by decide +kernel
theorem dX12_goes_75 : decode cX12_goes 75 = .ok (.getfield 13, 3) := by decide +kernel
theorem dX12_goes_78 : decode cX12_goes 78 = .ok (.bipush 46, 2) := by decide +kernel
theorem dX12_goes_80 : decode cX12_goes 80 = .ok (.iload_n 1, 1) := by decide +kernel
theorem dX12_goes_81 : decode cX12_goes 81 = .ok (.iadd, 1) := by decide +kernel
theorem dX12_goes_82 : decode cX12_goes 82 = .ok (.dup2, 1) := by decide +kernel
theorem dX12_goes_83 : decode cX12_goes 83 = .ok (.iaload, 1) := by decide +kernel
theorem dX12_goes_84 : decode cX12_goes 84 = .ok (.iload 4, 2) := by decide +kernel
theorem dX12_goes_86 : decode cX12_goes 86 = .ok (.isub, 1) := by decide +kernel
theorem dX12_goes_87 : decode cX12_goes 87 = .ok (.iastore, 1) := by decide +kernel
theorem dX12_goes_88 : decode cX12_goes 88 = .ok (.aload_n 0, 1) := by decide +kernel
theorem dX12_goes_89 : decode cX12_goes 89 = .ok (.getfield 13, 3) := by decide +kernel
theorem dX12_goes_92 : decode cX12_goes 92 = .ok (.bipush 56, 2) := by decide +kernel
theorem dX12_goes_94 : decode cX12_goes 94 = .ok (.iload_n 1, 1) := by decide +kernel
theorem dX12_goes_95 : decode cX12_goes 95 = .ok (.iadd, 1) := by decide +kernel
theorem dX12_goes_96 : decode cX12_goes 96 = .ok (.sipush 999, 3) := by decide +kernel
theorem dX12_goes_99 : decode cX12_goes 99 = .ok (.aload_n 0, 1) := by decide +kernel
theorem dX12_goes_100 : decode cX12_goes 100 = .ok (.getfield 13, 3) := by decide +kernel
theorem dX12_goes_103 : decode cX12_goes 103 = .ok (.bipush 56, 2) := by decide +kernel
theorem dX12_goes_105 : decode cX12_goes 105 = .ok (.iload_n 1, 1) := by decide +kernel
theorem dX12_goes_106 : decode cX12_goes 106 = .ok (.iadd, 1) := by decide +kernel
theorem dX12_goes_107 : decode cX12_goes 107 = .ok (.iaload, 1) := by decide +kernel
theorem dX12_goes_108 : decode cX12_goes 108 = .ok (.iload 4, 2) := by decide +kernel
theorem dX12_goes_110 : decode cX12_goes 110 = .ok (.iadd, 1) := by decide +kernel
theorem dX12_goes_111 : decode cX12_goes 111 = .ok (.invokestatic 294, 3) := by decide +kernel
theorem dX12_goes_114 : decode cX12_goes 114 = .ok (.iastore, 1) := by decide +kernel
theorem dX12_goes_115 : decode cX12_goes 115 = .ok (.aload_n 0, 1) := by decide +kernel
theorem dX12_goes_116 : decode cX12_goes 116 = .ok (.getfield 13, 3) := by decide +kernel
theorem dX12_goes_119 : decode cX12_goes 119 = .ok (.bipush 111, 2) := by decide +kernel
theorem dX12_goes_121 : decode cX12_goes 121 = .ok (.dup2, 1) := by decide +kernel
theorem dX12_goes_122 : decode cX12_goes 122 = .ok (.iaload, 1) := by decide +kernel
theorem dX12_goes_123 : decode cX12_goes 123 = .ok (.iconst 1, 1) := by decide +kernel
theorem dX12_goes_124 : decode cX12_goes 124 = .ok (.iadd, 1) := by decide +kernel
theorem dX12_goes_125 : decode cX12_goes 125 = .ok (.iastore, 1) := by decide +kernel
theorem dX12_goes_126 : decode cX12_goes 126 = .ok (.iload 4, 2) := by decide +kernel
theorem dX12_goes_128 : decode cX12_goes 128 = .ok (.ireturn, 1) := by decide +kernel
theorem dX12_isAgain_0 : decode cX12_isAgain 0 = .ok (.iconst 0, 1) := by decide +kernel
theorem dX12_isAgain_1 : decode cX12_isAgain 1 = .ok (.istore_n 1, 1) := by decide +kernel
theorem dX12_isAgain_2 : decode cX12_isAgain 2 = .ok (.iload_n 1, 1) := by decide +kernel
theorem dX12_isAgain_3 : decode cX12_isAgain 3 = .ok (.bipush 76, 2) := by decide +kernel
theorem dX12_isAgain_5 : decode cX12_isAgain 5 = .ok (.if_icmp .ge 24, 3) := by decide +kernel
theorem dX12_isAgain_8 : decode cX12_isAgain 8 = .ok (.aload_n 0, 1) := by decide +kernel
theorem dX12_isAgain_9 : decode cX12_isAgain 9 = .ok (.getfield 13, 3) := by decide +kernel
theorem dX12_isAgain_12 : decode cX12_isAgain 12 = .ok (.bipush 36, 2) := by decide +kernel
theorem dX12_isAgain_14 : decode cX12_isAgain 14 = .ok (.iload_n 1, 1) := by decide +kernel
theorem dX12_isAgain_15 : decode cX12_isAgain 15 = .ok (.iadd, 1) := by decide +kernel
theorem dX12_isAgain_16 : decode cX12_isAgain 16 = .ok (.aload_n 0, 1) := by decide +kernel
theorem dX12_isAgain_17 : decode cX12_isAgain 17 = .ok (.getfield 33, 3) := by decide +kernel
theorem dX12_isAgain_20 : decode cX12_isAgain 20 = .ok (.iload_n 1, 1) := by decide +kernel
theorem dX12_isAgain_21 : decode cX12_isAgain 21 = .ok (.iaload, 1) := by decide +kernel
theorem dX12_isAgain_22 : decode cX12_isAgain 22 = .ok (.iastore, 1) := by decide +kernel
theorem dX12_isAgain_23 : decode cX12_isAgain 23 = .ok (.iinc 1 1, 3) := by decide +kernel
theorem dX12_isAgain_26 : decode cX12_isAgain 26 = .ok (.goto (-24), 3) := by decide +kernel
theorem dX12_isAgain_29 : decode cX12_isAgain 29 = .ok (.return_, 1) := by decide +kernel
theorem dX12_keeps_0 : decode cX12_keeps 0 = .ok (.iconst 0, 1) := by decide +kernel
theorem dX12_keeps_1 : decode cX12_keeps 1 = .ok (.istore_n 1, 1) := by decide +kernel
theorem dX12_keeps_2 : decode cX12_keeps 2 = .ok (.iload_n 1, 1) := by decide +kernel
theorem dX12_keeps_3 : decode cX12_keeps 3 = .ok (.bipush 76, 2) := by decide +kernel
theorem dX12_keeps_5 : decode cX12_keeps 5 = .ok (.if_icmp .ge 24, 3) := by decide +kernel
theorem dX12_keeps_8 : decode cX12_keeps 8 = .ok (.aload_n 0, 1) := by decide +kernel
theorem dX12_keeps_9 : decode cX12_keeps 9 = .ok (.getfield 33, 3) := by decide +kernel
theorem dX12_keeps_12 : decode cX12_keeps 12 = .ok (.iload_n 1, 1) := by decide +kernel
theorem dX12_keeps_13 : decode cX12_keeps 13 = .ok (.aload_n 0, 1) := by decide +kernel
theorem dX12_keeps_14 : decode cX12_keeps 14 = .ok (.getfield 13, 3) := by decide +kernel
theorem dX12_keeps_17 : decode cX12_keeps 17 = .ok (.bipush 36, 2) := by decide +kernel
theorem dX12_keeps_19 : decode cX12_keeps 19 = .ok (.iload_n 1, 1) := by decide +kernel
theorem dX12_keeps_20 : decode cX12_keeps 20 = .ok (.iadd, 1) := by decide +kernel
theorem dX12_keeps_21 : decode cX12_keeps 21 = .ok (.iaload, 1) := by decide +kernel
theorem dX12_keeps_22 : decode cX12_keeps 22 = .ok (.iastore, 1) := by decide +kernel
theorem dX12_keeps_23 : decode cX12_keeps 23 = .ok (.iinc 1 1, 3) := by decide +kernel
theorem dX12_keeps_26 : decode cX12_keeps 26 = .ok (.goto (-24), 3) := by decide +kernel
theorem dX12_keeps_29 : decode cX12_keeps 29 = .ok (.return_, 1) := by decide +kernel
theorem dX12_notes_0 : decode cX12_notes 0 = .ok (.aload_n 0, 1) := by decide +kernel
theorem dX12_notes_1 : decode cX12_notes 1 = .ok (.getfield 13, 3) := by decide +kernel
theorem dX12_notes_4 : decode cX12_notes 4 = .ok (.bipush 112, 2) := by decide +kernel
theorem dX12_notes_6 : decode cX12_notes 6 = .ok (.iaload, 1) := by decide +kernel
theorem dX12_notes_7 : decode cX12_notes 7 = .ok (.bipush 10, 2) := by decide +kernel
theorem dX12_notes_9 : decode cX12_notes 9 = .ok (.if_icmp .ne 48, 3) := by decide +kernel
theorem dX12_notes_12 : decode cX12_notes 12 = .ok (.iconst 0, 1) := by decide +kernel
theorem dX12_notes_13 : decode cX12_notes 13 = .ok (.istore_n 1, 1) := by decide +kernel
theorem dX12_notes_14 : decode cX12_notes 14 = .ok (.iload_n 1, 1) := by decide +kernel
theorem dX12_notes_15 : decode cX12_notes 15 = .ok (.sipush 684, 3) := by decide +kernel
theorem dX12_notes_18 : decode cX12_notes 18 = .ok (.if_icmp .ge 28, 3) := by decide +kernel
theorem dX12_notes_21 : decode cX12_notes 21 = .ok (.aload_n 0, 1) := by decide +kernel
theorem dX12_notes_22 : decode cX12_notes 22 = .ok (.getfield 13, 3) := by decide +kernel
theorem dX12_notes_25 : decode cX12_notes 25 = .ok (.bipush 113, 2) := by decide +kernel
theorem dX12_notes_27 : decode cX12_notes 27 = .ok (.iload_n 1, 1) := by decide +kernel
theorem dX12_notes_28 : decode cX12_notes 28 = .ok (.iadd, 1) := by decide +kernel
theorem dX12_notes_29 : decode cX12_notes 29 = .ok (.aload_n 0, 1) := by decide +kernel
theorem dX12_notes_30 : decode cX12_notes 30 = .ok (.getfield 13, 3) := by decide +kernel
theorem dX12_notes_33 : decode cX12_notes 33 = .ok (.sipush 189, 3) := by decide +kernel
theorem dX12_notes_36 : decode cX12_notes 36 = .ok (.iload_n 1, 1) := by decide +kernel
theorem dX12_notes_37 : decode cX12_notes 37 = .ok (.iadd, 1) := by decide +kernel
theorem dX12_notes_38 : decode cX12_notes 38 = .ok (.iaload, 1) := by decide +kernel
theorem dX12_notes_39 : decode cX12_notes 39 = .ok (.iastore, 1) := by decide +kernel
theorem dX12_notes_40 : decode cX12_notes 40 = .ok (.iinc 1 1, 3) := by decide +kernel
theorem dX12_notes_43 : decode cX12_notes 43 = .ok (.goto (-29), 3) := by decide +kernel
theorem dX12_notes_46 : decode cX12_notes 46 = .ok (.aload_n 0, 1) := by decide +kernel
theorem dX12_notes_47 : decode cX12_notes 47 = .ok (.getfield 13, 3) := by decide +kernel
theorem dX12_notes_50 : decode cX12_notes 50 = .ok (.bipush 112, 2) := by decide +kernel
theorem dX12_notes_52 : decode cX12_notes 52 = .ok (.dup2, 1) := by decide +kernel
theorem dX12_notes_53 : decode cX12_notes 53 = .ok (.iaload, 1) := by decide +kernel
theorem dX12_notes_54 : decode cX12_notes 54 = .ok (.iconst 1, 1) := by decide +kernel
theorem dX12_notes_55 : decode cX12_notes 55 = .ok (.isub, 1) := by decide +kernel
theorem dX12_notes_56 : decode cX12_notes 56 = .ok (.iastore, 1) := by decide +kernel
theorem dX12_notes_57 : decode cX12_notes 57 = .ok (.iconst 0, 1) := by decide +kernel
theorem dX12_notes_58 : decode cX12_notes 58 = .ok (.istore_n 1, 1) := by decide +kernel
theorem dX12_notes_59 : decode cX12_notes 59 = .ok (.iload_n 1, 1) := by decide +kernel
theorem dX12_notes_60 : decode cX12_notes 60 = .ok (.bipush 76, 2) := by decide +kernel
theorem dX12_notes_62 : decode cX12_notes 62 = .ok (.if_icmp .ge 35, 3) := by decide +kernel
theorem dX12_notes_65 : decode cX12_notes 65 = .ok (.aload_n 0, 1) := by decide +kernel
theorem dX12_notes_66 : decode cX12_notes 66 = .ok (.getfield 13, 3) := by decide +kernel
theorem dX12_notes_69 : decode cX12_notes 69 = .ok (.bipush 113, 2) := by decide +kernel
theorem dX12_notes_71 : decode cX12_notes 71 = .ok (.bipush 76, 2) := by decide +kernel
theorem dX12_notes_73 : decode cX12_notes 73 = .ok (.aload_n 0, 1) := by decide +kernel
theorem dX12_notes_74 : decode cX12_notes 74 = .ok (.getfield 13, 3) := by decide +kernel
theorem dX12_notes_77 : decode cX12_notes 77 = .ok (.bipush 112, 2) := by decide +kernel
theorem dX12_notes_79 : decode cX12_notes 79 = .ok (.iaload, 1) := by decide +kernel
theorem dX12_notes_80 : decode cX12_notes 80 = .ok (.imul, 1) := by decide +kernel
theorem dX12_notes_81 : decode cX12_notes 81 = .ok (.iadd, 1) := by decide +kernel
theorem dX12_notes_82 : decode cX12_notes 82 = .ok (.iload_n 1, 1) := by decide +kernel
theorem dX12_notes_83 : decode cX12_notes 83 = .ok (.iadd, 1) := by decide +kernel
theorem dX12_notes_84 : decode cX12_notes 84 = .ok (.aload_n 0, 1) := by decide +kernel
theorem dX12_notes_85 : decode cX12_notes 85 = .ok (.getfield 33, 3) := by decide +kernel
theorem dX12_notes_88 : decode cX12_notes 88 = .ok (.iload_n 1, 1) := by decide +kernel
theorem dX12_notes_89 : decode cX12_notes 89 = .ok (.iaload, 1) := by decide +kernel
theorem dX12_notes_90 : decode cX12_notes 90 = .ok (.iastore, 1) := by decide +kernel
theorem dX12_notes_91 : decode cX12_notes 91 = .ok (.iinc 1 1, 3) := by decide +kernel
theorem dX12_notes_94 : decode cX12_notes 94 = .ok (.goto (-35), 3) := by decide +kernel
theorem dX12_notes_97 : decode cX12_notes 97 = .ok (.aload_n 0, 1) := by decide +kernel
theorem dX12_notes_98 : decode cX12_notes 98 = .ok (.getfield 13, 3) := by decide +kernel
theorem dX12_notes_101 : decode cX12_notes 101 = .ok (.bipush 112, 2) := by decide +kernel
theorem dX12_notes_103 : decode cX12_notes 103 = .ok (.dup2, 1) := by decide +kernel
theorem dX12_notes_104 : decode cX12_notes 104 = .ok (.iaload, 1) := by decide +kernel
theorem dX12_notes_105 : decode cX12_notes 105 = .ok (.iconst 1, 1) := by decide +kernel
theorem dX12_notes_106 : decode cX12_notes 106 = .ok (.iadd, 1) := by decide +kernel
theorem dX12_notes_107 : decode cX12_notes 107 = .ok (.iastore, 1) := by decide +kernel
theorem dX12_notes_108 : decode cX12_notes 108 = .ok (.return_, 1) := by decide +kernel
theorem dX12_streetsFrom_0 : decode cX12_streetsFrom 0 = .ok (.iconst 0, 1) := by decide +kernel
theorem dX12_streetsFrom_1 : decode cX12_streetsFrom 1 = .ok (.istore_n 2, 1) := by decide +kernel
theorem dX12_streetsFrom_2 : decode cX12_streetsFrom 2 = .ok (.iconst 0, 1) := by decide +kernel
theorem dX12_streetsFrom_3 : decode cX12_streetsFrom 3 = .ok (.istore_n 3, 1) := by decide +kernel
theorem dX12_streetsFrom_4 : decode cX12_streetsFrom 4 = .ok (.iload_n 3, 1) := by decide +kernel
theorem dX12_streetsFrom_5 : decode cX12_streetsFrom 5 = .ok (.iconst 4, 1) := by decide +kernel
theorem dX12_streetsFrom_6 : decode cX12_streetsFrom 6 = .ok (.if_icmp .ge 27, 3) := by decide +kernel
theorem dX12_streetsFrom_9 : decode cX12_streetsFrom 9 = .ok (.iload_n 2, 1) := by decide +kernel
theorem dX12_streetsFrom_10 : decode cX12_streetsFrom 10 = .ok (.aload_n 0, 1) := by decide +kernel
theorem dX12_streetsFrom_11 : decode cX12_streetsFrom 11 = .ok (.iload_n 1, 1) := by decide +kernel
theorem dX12_streetsFrom_12 : decode cX12_streetsFrom 12 = .ok (.iload_n 3, 1) := by decide +kernel
theorem dX12_streetsFrom_13 : decode cX12_streetsFrom 13 = .ok (.invokevirtual 263, 3) := by decide +kernel
theorem dX12_streetsFrom_16 : decode cX12_streetsFrom 16 = .ok (.iconst (-1), 1) := by decide +kernel
theorem dX12_streetsFrom_17 : decode cX12_streetsFrom 17 = .ok (.if_icmp .ne 7, 3) := by decide +kernel
theorem dX12_streetsFrom_20 : decode cX12_streetsFrom 20 = .ok (.iconst 0, 1) := by decide +kernel
theorem dX12_streetsFrom_21 : decode cX12_streetsFrom 21 = .ok (.goto 4, 3) := by decide +kernel
theorem dX12_streetsFrom_24 : decode cX12_streetsFrom 24 = .ok (.iconst 1, 1) := by decide +kernel
theorem dX12_streetsFrom_25 : decode cX12_streetsFrom 25 = .ok (.iadd, 1) := by decide +kernel
theorem dX12_streetsFrom_26 : decode cX12_streetsFrom 26 = .ok (.istore_n 2, 1) := by decide +kernel
theorem dX12_streetsFrom_27 : decode cX12_streetsFrom 27 = .ok (.iinc 3 1, 3) := by decide +kernel
theorem dX12_streetsFrom_30 : decode cX12_streetsFrom 30 = .ok (.goto (-26), 3) := by decide +kernel
theorem dX12_streetsFrom_33 : decode cX12_streetsFrom 33 = .ok (.iload_n 2, 1) := by decide +kernel
theorem dX12_streetsFrom_34 : decode cX12_streetsFrom 34 = .ok (.ireturn, 1) := by decide +kernel
theorem dX12_whyNot_0 : decode cX12_whyNot 0 = .ok (.aload_n 0, 1) := by decide +kernel
theorem dX12_whyNot_1 : decode cX12_whyNot 1 = .ok (.lload_n 1, 1) := by decide +kernel
theorem dX12_whyNot_2 : decode cX12_whyNot 2 = .ok (.invokevirtual 253, 3) := by decide +kernel
theorem dX12_whyNot_5 : decode cX12_whyNot 5 = .ok (.ifCond .eq 14, 3) := by decide +kernel
theorem dX12_whyNot_8 : decode cX12_whyNot 8 = .ok (.lload_n 3, 1) := by decide +kernel
theorem dX12_whyNot_9 : decode cX12_whyNot 9 = .ok (.lconst 0, 1) := by decide +kernel
theorem dX12_whyNot_10 : decode cX12_whyNot 10 = .ok (.ldc2_w 236, 3) := by decide +kernel
theorem dX12_whyNot_13 : decode cX12_whyNot 13 = .ok (.invokestatic 161, 3) := by decide +kernel
theorem dX12_whyNot_16 : decode cX12_whyNot 16 = .ok (.ifCond .ne 5, 3) := by decide +kernel
theorem dX12_whyNot_19 : decode cX12_whyNot 19 = .ok (.iconst 1, 1) := by decide +kernel
theorem dX12_whyNot_20 : decode cX12_whyNot 20 = .ok (.ireturn, 1) := by decide +kernel
theorem dX12_whyNot_21 : decode cX12_whyNot 21 = .ok (.aload_n 0, 1) := by decide +kernel
theorem dX12_whyNot_22 : decode cX12_whyNot 22 = .ok (.getfield 13, 3) := by decide +kernel
theorem dX12_whyNot_25 : decode cX12_whyNot 25 = .ok (.bipush 36, 2) := by decide +kernel
theorem dX12_whyNot_27 : decode cX12_whyNot 27 = .ok (.lload_n 1, 1) := by decide +kernel
theorem dX12_whyNot_28 : decode cX12_whyNot 28 = .ok (.l2i, 1) := by decide +kernel
theorem dX12_whyNot_29 : decode cX12_whyNot 29 = .ok (.iadd, 1) := by decide +kernel
theorem dX12_whyNot_30 : decode cX12_whyNot 30 = .ok (.iaload, 1) := by decide +kernel
theorem dX12_whyNot_31 : decode cX12_whyNot 31 = .ok (.istore 5, 2) := by decide +kernel
theorem dX12_whyNot_33 : decode cX12_whyNot 33 = .ok (.aload_n 0, 1) := by decide +kernel
theorem dX12_whyNot_34 : decode cX12_whyNot 34 = .ok (.getfield 13, 3) := by decide +kernel
theorem dX12_whyNot_37 : decode cX12_whyNot 37 = .ok (.bipush 41, 2) := by decide +kernel
theorem dX12_whyNot_39 : decode cX12_whyNot 39 = .ok (.lload_n 1, 1) := by decide +kernel
theorem dX12_whyNot_40 : decode cX12_whyNot 40 = .ok (.l2i, 1) := by decide +kernel
theorem dX12_whyNot_41 : decode cX12_whyNot 41 = .ok (.iadd, 1) := by decide +kernel
theorem dX12_whyNot_42 : decode cX12_whyNot 42 = .ok (.iaload, 1) := by decide +kernel
theorem dX12_whyNot_43 : decode cX12_whyNot 43 = .ok (.lload_n 3, 1) := by decide +kernel
theorem dX12_whyNot_44 : decode cX12_whyNot 44 = .ok (.l2i, 1) := by decide +kernel
theorem dX12_whyNot_45 : decode cX12_whyNot 45 = .ok (.invokestatic 278, 3) := by decide +kernel
theorem dX12_whyNot_48 : decode cX12_whyNot 48 = .ok (.istore 6, 2) := by decide +kernel
theorem dX12_whyNot_50 : decode cX12_whyNot 50 = .ok (.aload_n 0, 1) := by decide +kernel
theorem dX12_whyNot_51 : decode cX12_whyNot 51 = .ok (.iload 5, 2) := by decide +kernel
theorem dX12_whyNot_53 : decode cX12_whyNot 53 = .ok (.iload 6, 2) := by decide +kernel
theorem dX12_whyNot_55 : decode cX12_whyNot 55 = .ok (.invokevirtual 263, 3) := by decide +kernel
theorem dX12_whyNot_58 : decode cX12_whyNot 58 = .ok (.iconst (-1), 1) := by decide +kernel
theorem dX12_whyNot_59 : decode cX12_whyNot 59 = .ok (.if_icmp .ne 5, 3) := by decide +kernel
theorem dX12_whyNot_62 : decode cX12_whyNot 62 = .ok (.iconst 2, 1) := by decide +kernel
theorem dX12_whyNot_63 : decode cX12_whyNot 63 = .ok (.ireturn, 1) := by decide +kernel
theorem dX12_whyNot_64 : decode cX12_whyNot 64 = .ok (.lload_n 3, 1) := by decide +kernel
theorem dX12_whyNot_65 : decode cX12_whyNot 65 = .ok (.ldc2_w 281, 3) := by decide +kernel
theorem dX12_whyNot_68 : decode cX12_whyNot 68 = .ok (.lcmp, 1) := by decide +kernel
theorem dX12_whyNot_69 : decode cX12_whyNot 69 = .ok (.ifCond .ge 5, 3) := by decide +kernel
theorem dX12_whyNot_72 : decode cX12_whyNot 72 = .ok (.iconst 0, 1) := by decide +kernel
theorem dX12_whyNot_73 : decode cX12_whyNot 73 = .ok (.ireturn, 1) := by decide +kernel
theorem dX12_whyNot_74 : decode cX12_whyNot 74 = .ok (.aload_n 0, 1) := by decide +kernel
theorem dX12_whyNot_75 : decode cX12_whyNot 75 = .ok (.iload 5, 2) := by decide +kernel
theorem dX12_whyNot_77 : decode cX12_whyNot 77 = .ok (.iconst 0, 1) := by decide +kernel
theorem dX12_whyNot_78 : decode cX12_whyNot 78 = .ok (.iload 6, 2) := by decide +kernel
theorem dX12_whyNot_80 : decode cX12_whyNot 80 = .ok (.invokevirtual 283, 3) := by decide +kernel
theorem dX12_whyNot_83 : decode cX12_whyNot 83 = .ok (.ifCond .ne 5, 3) := by decide +kernel
theorem dX12_whyNot_86 : decode cX12_whyNot 86 = .ok (.iconst 3, 1) := by decide +kernel
theorem dX12_whyNot_87 : decode cX12_whyNot 87 = .ok (.ireturn, 1) := by decide +kernel
theorem dX12_whyNot_88 : decode cX12_whyNot 88 = .ok (.aload_n 0, 1) := by decide +kernel
theorem dX12_whyNot_89 : decode cX12_whyNot 89 = .ok (.iload 5, 2) := by decide +kernel
theorem dX12_whyNot_91 : decode cX12_whyNot 91 = .ok (.iconst 0, 1) := by decide +kernel
theorem dX12_whyNot_92 : decode cX12_whyNot 92 = .ok (.invokevirtual 269, 3) := by decide +kernel
theorem dX12_whyNot_95 : decode cX12_whyNot 95 = .ok (.ifCond .ne 25, 3) := by decide +kernel
theorem dX12_whyNot_98 : decode cX12_whyNot 98 = .ok (.aload_n 0, 1) := by decide +kernel
theorem dX12_whyNot_99 : decode cX12_whyNot 99 = .ok (.getfield 13, 3) := by decide +kernel
theorem dX12_whyNot_102 : decode cX12_whyNot 102 = .ok (.bipush 46, 2) := by decide +kernel
theorem dX12_whyNot_104 : decode cX12_whyNot 104 = .ok (.lload_n 1, 1) := by decide +kernel
theorem dX12_whyNot_105 : decode cX12_whyNot 105 = .ok (.l2i, 1) := by decide +kernel
theorem dX12_whyNot_106 : decode cX12_whyNot 106 = .ok (.iadd, 1) := by decide +kernel
theorem dX12_whyNot_107 : decode cX12_whyNot 107 = .ok (.iaload, 1) := by decide +kernel
theorem dX12_whyNot_108 : decode cX12_whyNot 108 = .ok (.lload_n 3, 1) := by decide +kernel
theorem dX12_whyNot_109 : decode cX12_whyNot 109 = .ok (.l2i, 1) := by decide +kernel
theorem dX12_whyNot_110 : decode cX12_whyNot 110 = .ok (.invokestatic 287, 3) := by decide +kernel
theorem dX12_whyNot_113 : decode cX12_whyNot 113 = .ok (.if_icmp .ge 7, 3) := by decide +kernel
theorem dX12_whyNot_116 : decode cX12_whyNot 116 = .ok (.iconst 4, 1) := by decide +kernel
theorem dX12_whyNot_117 : decode cX12_whyNot 117 = .ok (.goto 4, 3) := by decide +kernel
theorem dX12_whyNot_120 : decode cX12_whyNot 120 = .ok (.iconst 0, 1) := by decide +kernel
theorem dX12_whyNot_121 : decode cX12_whyNot 121 = .ok (.ireturn, 1) := by decide +kernel
theorem o34_1 {x0 : Int} (h0 : 0 ≤ x0) (h1 : x0 ≤ 4) (h2 : 4 - x0 < 0) : False := by omega
theorem o34_2 {x0 : Int} (h0 : 0 ≤ x0) (h1 : x0 ≤ 24) : 0 ≤ x0 := by omega
theorem o34_3 {x0 : Int} (h0 : 0 ≤ x0) (h1 : x0 ≤ 24) : x0 ≤ 24 := by omega
theorem o34_4 {x0 x2 : Int} {x1 : Nat} (h0 : 0 ≤ x0) (h1 : x0 ≤ 4) (h2 : 4 - x0 < ((x1 + 1 : Nat) : Int)) (h3 : x2 = 4) (h4 : x0 < x2) : 0 ≤ x0 := by omega
theorem o34_5 {x0 x2 : Int} {x1 : Nat} (h0 : 0 ≤ x0) (h1 : x0 ≤ 4) (h2 : 4 - x0 < ((x1 + 1 : Nat) : Int)) (h3 : x2 = 4) (h4 : x0 < x2) : x0 ≤ 3 := by omega
theorem o34_6 {x0 x2 : Int} {x1 : Nat} (h0 : 0 ≤ x0) (h1 : x0 ≤ 4) (h2 : 4 - x0 < ((x1 + 1 : Nat) : Int)) (h3 : x2 = 4) (h4 : x0 < x2) (h5 : -2147483648 ≤ x0) (h6 : x0 ≤ 2147483647) (h7 : -2147483648 ≤ x2) (h8 : x2 ≤ 2147483647) : -2147483648 ≤ x0 + 1 := by omega
theorem o34_7 {x0 x2 : Int} {x1 : Nat} (h0 : 0 ≤ x0) (h1 : x0 ≤ 4) (h2 : 4 - x0 < ((x1 + 1 : Nat) : Int)) (h3 : x2 = 4) (h4 : x0 < x2) (h5 : -2147483648 ≤ x0) (h6 : x0 ≤ 2147483647) (h7 : -2147483648 ≤ x2) (h8 : x2 ≤ 2147483647) : x0 + 1 ≤ 2147483647 := by omega
theorem o34_8 {x0 x2 x3 : Int} {x1 : Nat} (h0 : 0 ≤ x2) (h1 : x2 ≤ 4) (h2 : 4 - x2 < ((x1 + 1 : Nat) : Int)) (h3 : x3 = 4) (h4 : x2 < x3) (h5 : x0 = x2 + 1) : 4 - x0 < (x1 : Int) := by omega
theorem o34_9 {x0 x1 x3 : Int} {x2 : Nat} (h0 : 0 ≤ x1) (h1 : x1 ≤ 4) (h2 : 4 - x1 < ((x2 + 1 : Nat) : Int)) (h3 : x3 = 4) (h4 : x1 < x3) (h5 : x0 = x1 + 1) : 0 ≤ x0 := by omega
theorem o34_10 {x0 x1 x3 : Int} {x2 : Nat} (h0 : 0 ≤ x1) (h1 : x1 ≤ 4) (h2 : 4 - x1 < ((x2 + 1 : Nat) : Int)) (h3 : x3 = 4) (h4 : x1 < x3) (h5 : x0 = x1 + 1) : x0 ≤ 4 := by omega
theorem o34_11 {x0 x1 : Int} (h0 : x1 = 0) (h1 : -2147483648 ≤ x0) (h2 : x0 ≤ 2147483647) (h3 : -2147483648 ≤ x1) (h4 : x1 ≤ 2147483647) : -2147483648 ≤ x0 + x1 := by omega
theorem o34_12 {x0 x1 : Int} (h0 : x1 = 0) (h1 : -2147483648 ≤ x0) (h2 : x0 ≤ 2147483647) (h3 : -2147483648 ≤ x1) (h4 : x1 ≤ 2147483647) : x0 + x1 ≤ 2147483647 := by omega
theorem o34_13 {x0 : Int} (h0 : x0 = 0) : 4 - x0 < (((4 - x0 + 1).toNat : Nat) : Int) := by omega
theorem o34_14 {x0 : Int} (h0 : x0 = 0) : 0 ≤ x0 := by omega
theorem o34_15 {x0 : Int} (h0 : x0 = 0) : x0 ≤ 4 := by omega
theorem o34_16 {x0 : Int} (h0 : x0 = 0) : x0 ≤ 1 := by omega
theorem o34_17 {x0 x1 x2 x3 x4 : Int} (h0 : x3 = x1) (h1 : 0 ≤ x4) (h2 : x4 ≤ 1) (h3 : (x4 = 0 ∨ (0 ≤ x3 ∧ x3 ≤ 4))) (h4 : x4 = 0) (h5 : x0 = 0) : (x0 = 0 ∨ (0 ≤ x1 ∧ x1 ≤ 4 ∧ 0 ≤ x2 ∧ x2 ≤ 24)) := by omega
theorem o34_18 {x0 : Int} (h0 : x0 = 0) : x0 = 0 := by omega
theorem o34_19 {x0 x1 x2 x3 x4 x5 x6 : Int} (h0 : x3 = x1) (h1 : 0 ≤ x4) (h2 : x4 ≤ 1) (h3 : (x4 = 0 ∨ (0 ≤ x3 ∧ x3 ≤ 4))) (h4 : ¬ x4 = 0) (h5 : x5 = x2) (h6 : 0 ≤ x6) (h7 : x6 ≤ 1) (h8 : (x6 = 0 ∨ (0 ≤ x5 ∧ x5 ≤ 24))) (h9 : x6 = 0) (h10 : x0 = 0) : (x0 = 0 ∨ (0 ≤ x1 ∧ x1 ≤ 4 ∧ 0 ≤ x2 ∧ x2 ≤ 24)) := by omega
theorem o34_20 {x0 : Int} (h0 : x0 = 1) : 0 ≤ x0 := by omega
theorem o34_21 {x0 : Int} (h0 : x0 = 1) : x0 ≤ 1 := by omega
theorem o34_22 {x0 x1 x2 x3 x4 x5 x6 : Int} (h0 : x3 = x1) (h1 : 0 ≤ x4) (h2 : x4 ≤ 1) (h3 : (x4 = 0 ∨ (0 ≤ x3 ∧ x3 ≤ 4))) (h4 : ¬ x4 = 0) (h5 : x5 = x2) (h6 : 0 ≤ x6) (h7 : x6 ≤ 1) (h8 : (x6 = 0 ∨ (0 ≤ x5 ∧ x5 ≤ 24))) (h9 : ¬ x6 = 0) (h10 : x0 = 1) : (x0 = 0 ∨ (0 ≤ x1 ∧ x1 ≤ 4 ∧ 0 ≤ x2 ∧ x2 ≤ 24)) := by omega
theorem o34_23 {x0 x1 x2 : Int} (h0 : x1 = x2) (h1 : 0 ≤ x0) (h2 : x0 ≤ 1) (h3 : (x0 = 0 ∨ (0 ≤ x1 ∧ x1 ≤ 4))) (h4 : ¬ x0 = 0) : ¬ x0 = 0 := by omega
theorem o34_24 {x0 : Int} (h0 : 0 ≤ x0) (h1 : x0 ≤ 76) (h2 : 76 - x0 < 0) : False := by omega
theorem o34_25 {x0 x1 x3 : Int} {x2 : Nat} (h0 : 0 ≤ x1) (h1 : x1 ≤ 76) (h2 : 76 - x1 < ((x2 + 1 : Nat) : Int)) (h3 : x3 = 76) (h4 : x1 < x3) (h5 : x0 = 36) (h6 : -2147483648 ≤ x0) (h7 : x0 ≤ 2147483647) (h8 : -2147483648 ≤ x1) (h9 : x1 ≤ 2147483647) (h10 : -2147483648 ≤ x3) (h11 : x3 ≤ 2147483647) : -2147483648 ≤ x0 + x1 := by omega
theorem o34_26 {x0 x1 x3 : Int} {x2 : Nat} (h0 : 0 ≤ x1) (h1 : x1 ≤ 76) (h2 : 76 - x1 < ((x2 + 1 : Nat) : Int)) (h3 : x3 = 76) (h4 : x1 < x3) (h5 : x0 = 36) (h6 : -2147483648 ≤ x0) (h7 : x0 ≤ 2147483647) (h8 : -2147483648 ≤ x1) (h9 : x1 ≤ 2147483647) (h10 : -2147483648 ≤ x3) (h11 : x3 ≤ 2147483647) : x0 + x1 ≤ 2147483647 := by omega
theorem o34_27 {x0 x1 x3 x4 : Int} {x2 : Nat} (h0 : 0 ≤ x1) (h1 : x1 ≤ 76) (h2 : 76 - x1 < ((x2 + 1 : Nat) : Int)) (h3 : x3 = 76) (h4 : x1 < x3) (h5 : x4 = 36) (h6 : x0 = x4 + x1) : 0 ≤ x0 := by omega
theorem o34_28 {x0 x1 x3 x4 : Int} {x2 : Nat} (h0 : 0 ≤ x1) (h1 : x1 ≤ 76) (h2 : 76 - x1 < ((x2 + 1 : Nat) : Int)) (h3 : x3 = 76) (h4 : x1 < x3) (h5 : x4 = 36) (h6 : x0 = x4 + x1) : x0 < (5322 : Nat) := by omega
theorem o34_29 {x0 x2 x3 x4 : Int} {x1 : Nat} (h0 : 0 ≤ x0) (h1 : x0 ≤ 76) (h2 : 76 - x0 < ((x1 + 1 : Nat) : Int)) (h3 : x2 = 76) (h4 : x0 < x2) (h5 : x3 = 36) (h6 : x4 = x3 + x0) : 0 ≤ x0 := by omega
theorem o34_30 {x0 x2 x3 x4 : Int} {x1 : Nat} (h0 : 0 ≤ x0) (h1 : x0 ≤ 76) (h2 : 76 - x0 < ((x1 + 1 : Nat) : Int)) (h3 : x2 = 76) (h4 : x0 < x2) (h5 : x3 = 36) (h6 : x4 = x3 + x0) : x0 < (76 : Nat) := by omega
theorem o34_31 {x0 x1 x3 x4 : Int} {x2 : Nat} (h0 : 0 ≤ x1) (h1 : x1 ≤ 76) (h2 : 76 - x1 < ((x2 + 1 : Nat) : Int)) (h3 : x3 = 76) (h4 : x1 < x3) (h5 : x4 = 36) (h6 : x0 = x4 + x1) : (x0).toNat = 36 + (x1).toNat := by omega
theorem o34_32 {x0 x2 x3 x4 : Int} {x1 : Nat} (h0 : 0 ≤ x0) (h1 : x0 ≤ 76) (h2 : 76 - x0 < ((x1 + 1 : Nat) : Int)) (h3 : x2 = 76) (h4 : x0 < x2) (h5 : x3 = 36) (h6 : x4 = x3 + x0) : (x0).toNat < 76 := by omega
theorem o34_33 {x0 x2 x3 x4 : Int} {x1 : Nat} (h0 : 0 ≤ x0) (h1 : x0 ≤ 76) (h2 : 76 - x0 < ((x1 + 1 : Nat) : Int)) (h3 : x2 = 76) (h4 : x0 < x2) (h5 : x3 = 36) (h6 : x4 = x3 + x0) (h7 : -2147483648 ≤ x0) (h8 : x0 ≤ 2147483647) (h9 : -2147483648 ≤ x2) (h10 : x2 ≤ 2147483647) (h11 : -2147483648 ≤ x3) (h12 : x3 ≤ 2147483647) (h13 : -2147483648 ≤ x4) (h14 : x4 ≤ 2147483647) : -2147483648 ≤ x0 + 1 := by omega
theorem o34_34 {x0 x2 x3 x4 : Int} {x1 : Nat} (h0 : 0 ≤ x0) (h1 : x0 ≤ 76) (h2 : 76 - x0 < ((x1 + 1 : Nat) : Int)) (h3 : x2 = 76) (h4 : x0 < x2) (h5 : x3 = 36) (h6 : x4 = x3 + x0) (h7 : -2147483648 ≤ x0) (h8 : x0 ≤ 2147483647) (h9 : -2147483648 ≤ x2) (h10 : x2 ≤ 2147483647) (h11 : -2147483648 ≤ x3) (h12 : x3 ≤ 2147483647) (h13 : -2147483648 ≤ x4) (h14 : x4 ≤ 2147483647) : x0 + 1 ≤ 2147483647 := by omega
theorem o34_35 {x0 x2 x3 x4 x5 : Int} {x1 : Nat} (h0 : 0 ≤ x2) (h1 : x2 ≤ 76) (h2 : 76 - x2 < ((x1 + 1 : Nat) : Int)) (h3 : x3 = 76) (h4 : x2 < x3) (h5 : x4 = 36) (h6 : x5 = x4 + x2) (h7 : x0 = x2 + 1) : 76 - x0 < (x1 : Int) := by omega
theorem o34_36 {x0 x1 x3 x4 x5 : Int} {x2 : Nat} (h0 : 0 ≤ x1) (h1 : x1 ≤ 76) (h2 : 76 - x1 < ((x2 + 1 : Nat) : Int)) (h3 : x3 = 76) (h4 : x1 < x3) (h5 : x4 = 36) (h6 : x5 = x4 + x1) (h7 : x0 = x1 + 1) : 0 ≤ x0 := by omega
theorem o34_37 {x0 x1 x3 x4 x5 : Int} {x2 : Nat} (h0 : 0 ≤ x1) (h1 : x1 ≤ 76) (h2 : 76 - x1 < ((x2 + 1 : Nat) : Int)) (h3 : x3 = 76) (h4 : x1 < x3) (h5 : x4 = 36) (h6 : x5 = x4 + x1) (h7 : x0 = x1 + 1) : x0 ≤ 76 := by omega
theorem o34_38 {x0 : Int} (h0 : x0 = 0) : 76 - x0 < (((76 - x0 + 1).toNat : Nat) : Int) := by omega
theorem o34_39 {x0 : Int} (h0 : x0 = 0) : x0 ≤ 76 := by omega
theorem o34_40 {x0 x1 x3 x4 : Int} {x2 : Nat} (h0 : 0 ≤ x1) (h1 : x1 ≤ 76) (h2 : 76 - x1 < ((x2 + 1 : Nat) : Int)) (h3 : x3 = 76) (h4 : x1 < x3) (h5 : x4 = 36) (h6 : x0 = x4 + x1) : (36 ≤ x0 ∨ x0 = 10) := by omega
theorem o34_41 {x0 x1 x3 x4 : Int} {x2 : Nat} (h0 : 0 ≤ x1) (h1 : x1 ≤ 76) (h2 : 76 - x1 < ((x2 + 1 : Nat) : Int)) (h3 : x3 = 76) (h4 : x1 < x3) (h5 : x4 = 36) (h6 : x0 = x4 + x1) : 10 ≤ x0 := by omega
theorem o34_42 {x0 x1 x3 x4 : Int} {x2 : Nat} (h0 : 0 ≤ x1) (h1 : x1 ≤ 76) (h2 : 76 - x1 < ((x2 + 1 : Nat) : Int)) (h3 : x3 = 76) (h4 : x1 < x3) (h5 : x4 = 36) (h6 : x0 = x4 + x1) : x0 ≤ 872 := by omega
theorem o34_43 {x0 : Int} (h0 : x0 = 112) : 0 ≤ x0 := by omega
theorem o34_44 {x0 : Int} (h0 : x0 = 112) : x0 < (5322 : Nat) := by omega
theorem o34_45 : ∀ p, p < 113 → 112 ≤ p → 0 ≤ (elAll p).1 ∧ (elAll p).2 ≤ 10 := by decide +kernel
theorem o34_46 {x0 : Int} (h0 : x0 = 112) : (x0).toNat < 113 := by omega
theorem o34_47 {x0 : Int} (h0 : x0 = 112) : 112 ≤ (x0).toNat := by omega
theorem o34_48 {x0 : Int} (h0 : x0 = 112) : x0 = ((112 : Nat) : Int) := by omega
theorem o34_49 {x0 x1 x2 : Int} (h0 : 0 ≤ x2) (h1 : x2 ≤ 9) (h2 : 0 ≤ x0) (h3 : x0 ≤ 10) (h4 : x0 = x2) (h5 : x1 = 1) (h6 : -2147483648 ≤ x0) (h7 : x0 ≤ 2147483647) (h8 : -2147483648 ≤ x1) (h9 : x1 ≤ 2147483647) (h10 : -2147483648 ≤ x2) (h11 : x2 ≤ 2147483647) : -2147483648 ≤ x0 + x1 := by omega
theorem o34_50 {x0 x1 x2 : Int} (h0 : 0 ≤ x2) (h1 : x2 ≤ 9) (h2 : 0 ≤ x0) (h3 : x0 ≤ 10) (h4 : x0 = x2) (h5 : x1 = 1) (h6 : -2147483648 ≤ x0) (h7 : x0 ≤ 2147483647) (h8 : -2147483648 ≤ x1) (h9 : x1 ≤ 2147483647) (h10 : -2147483648 ≤ x2) (h11 : x2 ≤ 2147483647) : x0 + x1 ≤ 2147483647 := by omega
theorem o34_51 : ∀ p, p < 113 → 112 ≤ p → (elAll p).1 ≤ 0 ∧ 10 ≤ (elAll p).2 := by decide +kernel
theorem o34_52 {x0 x1 x2 x3 : Int} (h0 : 0 ≤ x1) (h1 : x1 ≤ 9) (h2 : 0 ≤ x2) (h3 : x2 ≤ 10) (h4 : x2 = x1) (h5 : x3 = 1) (h6 : x0 = x2 + x3) : 0 ≤ x0 := by omega
theorem o34_53 {x0 x1 x2 x3 : Int} (h0 : 0 ≤ x1) (h1 : x1 ≤ 9) (h2 : 0 ≤ x2) (h3 : x2 ≤ 10) (h4 : x2 = x1) (h5 : x3 = 1) (h6 : x0 = x2 + x3) : x0 ≤ 10 := by omega
theorem o34_54 {x0 : Int} (h0 : x0 = 112) : (36 ≤ x0 ∨ x0 = 10) := by omega
theorem o34_55 {x0 : Int} (h0 : x0 = 112) : 10 ≤ x0 := by omega
theorem o34_56 {x0 : Int} (h0 : x0 = 112) : x0 ≤ 872 := by omega
theorem o34_57 {x0 : Int} (h0 : x0 = 76) : x0 = 76 := by omega
theorem o34_58 {x0 x1 : Int} (h0 : 0 ≤ x1) (h1 : x1 ≤ 9) (h2 : 0 ≤ x0) (h3 : x0 ≤ 10) (h4 : x0 = x1) (h5 : -2147483648 ≤ x0) (h6 : x0 ≤ 2147483647) (h7 : -2147483648 ≤ x1) (h8 : x1 ≤ 2147483647) : -2147483648 ≤ 76 * x0 := by omega
theorem o34_59 {x0 x1 : Int} (h0 : 0 ≤ x1) (h1 : x1 ≤ 9) (h2 : 0 ≤ x0) (h3 : x0 ≤ 10) (h4 : x0 = x1) (h5 : -2147483648 ≤ x0) (h6 : x0 ≤ 2147483647) (h7 : -2147483648 ≤ x1) (h8 : x1 ≤ 2147483647) : 76 * x0 ≤ 2147483647 := by omega
theorem o34_60 {x0 x1 x2 x3 : Int} (h0 : 0 ≤ x2) (h1 : x2 ≤ 9) (h2 : x0 = 113) (h3 : 0 ≤ x3) (h4 : x3 ≤ 10) (h5 : x3 = x2) (h6 : x1 = 76 * x3) (h7 : -2147483648 ≤ x0) (h8 : x0 ≤ 2147483647) (h9 : -2147483648 ≤ x1) (h10 : x1 ≤ 2147483647) (h11 : -2147483648 ≤ x2) (h12 : x2 ≤ 2147483647) (h13 : -2147483648 ≤ x3) (h14 : x3 ≤ 2147483647) : -2147483648 ≤ x0 + x1 := by omega
theorem o34_61 {x0 x1 x2 x3 : Int} (h0 : 0 ≤ x2) (h1 : x2 ≤ 9) (h2 : x0 = 113) (h3 : 0 ≤ x3) (h4 : x3 ≤ 10) (h5 : x3 = x2) (h6 : x1 = 76 * x3) (h7 : -2147483648 ≤ x0) (h8 : x0 ≤ 2147483647) (h9 : -2147483648 ≤ x1) (h10 : x1 ≤ 2147483647) (h11 : -2147483648 ≤ x2) (h12 : x2 ≤ 2147483647) (h13 : -2147483648 ≤ x3) (h14 : x3 ≤ 2147483647) : x0 + x1 ≤ 2147483647 := by omega
theorem o34_62 {x0 x1 x2 x4 x5 x6 x7 : Int} {x3 : Nat} (h0 : 0 ≤ x1) (h1 : x1 ≤ 76) (h2 : 0 ≤ x2) (h3 : x2 ≤ 9) (h4 : 76 - x1 < ((x3 + 1 : Nat) : Int)) (h5 : x4 = 76) (h6 : x1 < x4) (h7 : x5 = 113) (h8 : 0 ≤ x6) (h9 : x6 ≤ 10) (h10 : x6 = x2) (h11 : x7 = 76 * x6) (h12 : x0 = x5 + x7) (h13 : -2147483648 ≤ x0) (h14 : x0 ≤ 2147483647) (h15 : -2147483648 ≤ x1) (h16 : x1 ≤ 2147483647) (h17 : -2147483648 ≤ x2) (h18 : x2 ≤ 2147483647) (h19 : -2147483648 ≤ x4) (h20 : x4 ≤ 2147483647) (h21 : -2147483648 ≤ x5) (h22 : x5 ≤ 2147483647) (h23 : -2147483648 ≤ x6) (h24 : x6 ≤ 2147483647) (h25 : -2147483648 ≤ x7) (h26 : x7 ≤ 2147483647) : -2147483648 ≤ x0 + x1 := by omega
theorem o34_63 {x0 x1 x2 x4 x5 x6 x7 : Int} {x3 : Nat} (h0 : 0 ≤ x1) (h1 : x1 ≤ 76) (h2 : 0 ≤ x2) (h3 : x2 ≤ 9) (h4 : 76 - x1 < ((x3 + 1 : Nat) : Int)) (h5 : x4 = 76) (h6 : x1 < x4) (h7 : x5 = 113) (h8 : 0 ≤ x6) (h9 : x6 ≤ 10) (h10 : x6 = x2) (h11 : x7 = 76 * x6) (h12 : x0 = x5 + x7) (h13 : -2147483648 ≤ x0) (h14 : x0 ≤ 2147483647) (h15 : -2147483648 ≤ x1) (h16 : x1 ≤ 2147483647) (h17 : -2147483648 ≤ x2) (h18 : x2 ≤ 2147483647) (h19 : -2147483648 ≤ x4) (h20 : x4 ≤ 2147483647) (h21 : -2147483648 ≤ x5) (h22 : x5 ≤ 2147483647) (h23 : -2147483648 ≤ x6) (h24 : x6 ≤ 2147483647) (h25 : -2147483648 ≤ x7) (h26 : x7 ≤ 2147483647) : x0 + x1 ≤ 2147483647 := by omega
theorem o34_64 {x0 x1 x3 x4 x5 x6 x7 x8 : Int} {x2 : Nat} (h0 : 0 ≤ x0) (h1 : x0 ≤ 76) (h2 : 0 ≤ x1) (h3 : x1 ≤ 9) (h4 : 76 - x0 < ((x2 + 1 : Nat) : Int)) (h5 : x3 = 76) (h6 : x0 < x3) (h7 : x4 = 113) (h8 : 0 ≤ x5) (h9 : x5 ≤ 10) (h10 : x5 = x1) (h11 : x6 = 76 * x5) (h12 : x7 = x4 + x6) (h13 : x8 = x7 + x0) : 0 ≤ x0 := by omega
theorem o34_65 {x0 x1 x3 x4 x5 x6 x7 x8 : Int} {x2 : Nat} (h0 : 0 ≤ x0) (h1 : x0 ≤ 76) (h2 : 0 ≤ x1) (h3 : x1 ≤ 9) (h4 : 76 - x0 < ((x2 + 1 : Nat) : Int)) (h5 : x3 = 76) (h6 : x0 < x3) (h7 : x4 = 113) (h8 : 0 ≤ x5) (h9 : x5 ≤ 10) (h10 : x5 = x1) (h11 : x6 = 76 * x5) (h12 : x7 = x4 + x6) (h13 : x8 = x7 + x0) : x0 < (76 : Nat) := by omega
theorem o34_66 {x0 x1 x2 x4 x5 x6 x7 x8 : Int} {x3 : Nat} (h0 : 0 ≤ x1) (h1 : x1 ≤ 76) (h2 : 0 ≤ x2) (h3 : x2 ≤ 9) (h4 : 76 - x1 < ((x3 + 1 : Nat) : Int)) (h5 : x4 = 76) (h6 : x1 < x4) (h7 : x5 = 113) (h8 : 0 ≤ x6) (h9 : x6 ≤ 10) (h10 : x6 = x2) (h11 : x7 = 76 * x6) (h12 : x8 = x5 + x7) (h13 : x0 = x8 + x1) : 0 ≤ x0 := by omega
theorem o34_67 {x0 x1 x2 x4 x5 x6 x7 x8 : Int} {x3 : Nat} (h0 : 0 ≤ x1) (h1 : x1 ≤ 76) (h2 : 0 ≤ x2) (h3 : x2 ≤ 9) (h4 : 76 - x1 < ((x3 + 1 : Nat) : Int)) (h5 : x4 = 76) (h6 : x1 < x4) (h7 : x5 = 113) (h8 : 0 ≤ x6) (h9 : x6 ≤ 10) (h10 : x6 = x2) (h11 : x7 = 76 * x6) (h12 : x8 = x5 + x7) (h13 : x0 = x8 + x1) : x0 < (5322 : Nat) := by omega
theorem o34_68 {x0 x1 x2 x4 x5 x6 x7 x8 : Int} {x3 : Nat} (h0 : 0 ≤ x2) (h1 : x2 ≤ 76) (h2 : 0 ≤ x1) (h3 : x1 ≤ 9) (h4 : 76 - x2 < ((x3 + 1 : Nat) : Int)) (h5 : x4 = 76) (h6 : x2 < x4) (h7 : x5 = 113) (h8 : 0 ≤ x6) (h9 : x6 ≤ 10) (h10 : x6 = x1) (h11 : x7 = 76 * x6) (h12 : x8 = x5 + x7) (h13 : x0 = x8 + x2) : (x0).toNat = 113 + 76 * (x1).toNat + (x2).toNat := by omega
theorem o34_69 {x0 x1 x3 x4 x5 x6 x7 x8 : Int} {x2 : Nat} (h0 : 0 ≤ x1) (h1 : x1 ≤ 76) (h2 : 0 ≤ x0) (h3 : x0 ≤ 9) (h4 : 76 - x1 < ((x2 + 1 : Nat) : Int)) (h5 : x3 = 76) (h6 : x1 < x3) (h7 : x4 = 113) (h8 : 0 ≤ x5) (h9 : x5 ≤ 10) (h10 : x5 = x0) (h11 : x6 = 76 * x5) (h12 : x7 = x4 + x6) (h13 : x8 = x7 + x1) : (x0).toNat < 10 := by omega
theorem o34_70 {x0 x1 x3 x4 x5 x6 x7 x8 : Int} {x2 : Nat} (h0 : 0 ≤ x0) (h1 : x0 ≤ 76) (h2 : 0 ≤ x1) (h3 : x1 ≤ 9) (h4 : 76 - x0 < ((x2 + 1 : Nat) : Int)) (h5 : x3 = 76) (h6 : x0 < x3) (h7 : x4 = 113) (h8 : 0 ≤ x5) (h9 : x5 ≤ 10) (h10 : x5 = x1) (h11 : x6 = 76 * x5) (h12 : x7 = x4 + x6) (h13 : x8 = x7 + x0) : (x0).toNat < 76 := by omega
theorem o34_71 {x0 x1 x2 x4 x5 x6 x7 x8 : Int} {x3 : Nat} (h0 : 0 ≤ x1) (h1 : x1 ≤ 76) (h2 : 0 ≤ x2) (h3 : x2 ≤ 9) (h4 : 76 - x1 < ((x3 + 1 : Nat) : Int)) (h5 : x4 = 76) (h6 : x1 < x4) (h7 : x5 = 113) (h8 : 0 ≤ x6) (h9 : x6 ≤ 10) (h10 : x6 = x2) (h11 : x7 = 76 * x6) (h12 : x8 = x5 + x7) (h13 : x0 = x8 + x1) : (36 ≤ x0 ∨ x0 = 10) := by omega
theorem o34_72 {x0 x1 x2 x4 x5 x6 x7 x8 : Int} {x3 : Nat} (h0 : 0 ≤ x1) (h1 : x1 ≤ 76) (h2 : 0 ≤ x2) (h3 : x2 ≤ 9) (h4 : 76 - x1 < ((x3 + 1 : Nat) : Int)) (h5 : x4 = 76) (h6 : x1 < x4) (h7 : x5 = 113) (h8 : 0 ≤ x6) (h9 : x6 ≤ 10) (h10 : x6 = x2) (h11 : x7 = 76 * x6) (h12 : x8 = x5 + x7) (h13 : x0 = x8 + x1) : 10 ≤ x0 := by omega
theorem o34_73 {x0 x1 x2 x4 x5 x6 x7 x8 : Int} {x3 : Nat} (h0 : 0 ≤ x1) (h1 : x1 ≤ 76) (h2 : 0 ≤ x2) (h3 : x2 ≤ 9) (h4 : 76 - x1 < ((x3 + 1 : Nat) : Int)) (h5 : x4 = 76) (h6 : x1 < x4) (h7 : x5 = 113) (h8 : 0 ≤ x6) (h9 : x6 ≤ 10) (h10 : x6 = x2) (h11 : x7 = 76 * x6) (h12 : x8 = x5 + x7) (h13 : x0 = x8 + x1) : x0 ≤ 872 := by omega
theorem o34_74 {x0 x1 x3 x4 x5 x6 x7 x8 : Int} {x2 : Nat} (h0 : 0 ≤ x0) (h1 : x0 ≤ 76) (h2 : 0 ≤ x1) (h3 : x1 ≤ 9) (h4 : 76 - x0 < ((x2 + 1 : Nat) : Int)) (h5 : x3 = 76) (h6 : x0 < x3) (h7 : x4 = 113) (h8 : 0 ≤ x5) (h9 : x5 ≤ 10) (h10 : x5 = x1) (h11 : x6 = 76 * x5) (h12 : x7 = x4 + x6) (h13 : x8 = x7 + x0) (h14 : -2147483648 ≤ x0) (h15 : x0 ≤ 2147483647) (h16 : -2147483648 ≤ x1) (h17 : x1 ≤ 2147483647) (h18 : -2147483648 ≤ x3) (h19 : x3 ≤ 2147483647) (h20 : -2147483648 ≤ x4) (h21 : x4 ≤ 2147483647) (h22 : -2147483648 ≤ x5) (h23 : x5 ≤ 2147483647) (h24 : -2147483648 ≤ x6) (h25 : x6 ≤ 2147483647) (h26 : -2147483648 ≤ x7) (h27 : x7 ≤ 2147483647) (h28 : -2147483648 ≤ x8) (h29 : x8 ≤ 2147483647) : -2147483648 ≤ x0 + 1 := by omega
theorem o34_75 {x0 x1 x3 x4 x5 x6 x7 x8 : Int} {x2 : Nat} (h0 : 0 ≤ x0) (h1 : x0 ≤ 76) (h2 : 0 ≤ x1) (h3 : x1 ≤ 9) (h4 : 76 - x0 < ((x2 + 1 : Nat) : Int)) (h5 : x3 = 76) (h6 : x0 < x3) (h7 : x4 = 113) (h8 : 0 ≤ x5) (h9 : x5 ≤ 10) (h10 : x5 = x1) (h11 : x6 = 76 * x5) (h12 : x7 = x4 + x6) (h13 : x8 = x7 + x0) (h14 : -2147483648 ≤ x0) (h15 : x0 ≤ 2147483647) (h16 : -2147483648 ≤ x1) (h17 : x1 ≤ 2147483647) (h18 : -2147483648 ≤ x3) (h19 : x3 ≤ 2147483647) (h20 : -2147483648 ≤ x4) (h21 : x4 ≤ 2147483647) (h22 : -2147483648 ≤ x5) (h23 : x5 ≤ 2147483647) (h24 : -2147483648 ≤ x6) (h25 : x6 ≤ 2147483647) (h26 : -2147483648 ≤ x7) (h27 : x7 ≤ 2147483647) (h28 : -2147483648 ≤ x8) (h29 : x8 ≤ 2147483647) : x0 + 1 ≤ 2147483647 := by omega
theorem o34_76 {x0 x1 x2 x4 x5 x6 x7 x8 x9 : Int} {x3 : Nat} (h0 : 0 ≤ x1) (h1 : x1 ≤ 76) (h2 : 0 ≤ x2) (h3 : x2 ≤ 9) (h4 : 76 - x1 < ((x3 + 1 : Nat) : Int)) (h5 : x4 = 76) (h6 : x1 < x4) (h7 : x5 = 113) (h8 : 0 ≤ x6) (h9 : x6 ≤ 10) (h10 : x6 = x2) (h11 : x7 = 76 * x6) (h12 : x8 = x5 + x7) (h13 : x0 = x8 + x1) (h14 : x9 = x1 + 1) : 112 ≠ (x0).toNat := by omega
theorem o34_77 {x0 x2 x3 x4 x5 x6 x7 x8 x9 : Int} {x1 : Nat} (h0 : 0 ≤ x2) (h1 : x2 ≤ 76) (h2 : 0 ≤ x3) (h3 : x3 ≤ 9) (h4 : 76 - x2 < ((x1 + 1 : Nat) : Int)) (h5 : x4 = 76) (h6 : x2 < x4) (h7 : x5 = 113) (h8 : 0 ≤ x6) (h9 : x6 ≤ 10) (h10 : x6 = x3) (h11 : x7 = 76 * x6) (h12 : x8 = x5 + x7) (h13 : x9 = x8 + x2) (h14 : x0 = x2 + 1) : 76 - x0 < (x1 : Int) := by omega
theorem o34_78 {x0 x1 x2 x4 x5 x6 x7 x8 x9 : Int} {x3 : Nat} (h0 : 0 ≤ x1) (h1 : x1 ≤ 76) (h2 : 0 ≤ x2) (h3 : x2 ≤ 9) (h4 : 76 - x1 < ((x3 + 1 : Nat) : Int)) (h5 : x4 = 76) (h6 : x1 < x4) (h7 : x5 = 113) (h8 : 0 ≤ x6) (h9 : x6 ≤ 10) (h10 : x6 = x2) (h11 : x7 = 76 * x6) (h12 : x8 = x5 + x7) (h13 : x9 = x8 + x1) (h14 : x0 = x1 + 1) : 0 ≤ x0 := by omega
theorem o34_79 {x0 x1 x2 x4 x5 x6 x7 x8 x9 : Int} {x3 : Nat} (h0 : 0 ≤ x1) (h1 : x1 ≤ 76) (h2 : 0 ≤ x2) (h3 : x2 ≤ 9) (h4 : 76 - x1 < ((x3 + 1 : Nat) : Int)) (h5 : x4 = 76) (h6 : x1 < x4) (h7 : x5 = 113) (h8 : 0 ≤ x6) (h9 : x6 ≤ 10) (h10 : x6 = x2) (h11 : x7 = 76 * x6) (h12 : x8 = x5 + x7) (h13 : x9 = x8 + x1) (h14 : x0 = x1 + 1) : x0 ≤ 76 := by omega
theorem o34_80 {x0 x1 x3 x4 x5 x6 x7 x8 x9 : Int} {x2 : Nat} (h0 : 0 ≤ x1) (h1 : x1 ≤ 76) (h2 : 0 ≤ x0) (h3 : x0 ≤ 9) (h4 : 76 - x1 < ((x2 + 1 : Nat) : Int)) (h5 : x3 = 76) (h6 : x1 < x3) (h7 : x4 = 113) (h8 : 0 ≤ x5) (h9 : x5 ≤ 10) (h10 : x5 = x0) (h11 : x6 = 76 * x5) (h12 : x7 = x4 + x6) (h13 : x8 = x7 + x1) (h14 : x9 = x1 + 1) : 0 ≤ x0 := by omega
theorem o34_81 {x0 x1 x3 x4 x5 x6 x7 x8 x9 : Int} {x2 : Nat} (h0 : 0 ≤ x1) (h1 : x1 ≤ 76) (h2 : 0 ≤ x0) (h3 : x0 ≤ 9) (h4 : 76 - x1 < ((x2 + 1 : Nat) : Int)) (h5 : x3 = 76) (h6 : x1 < x3) (h7 : x4 = 113) (h8 : 0 ≤ x5) (h9 : x5 ≤ 10) (h10 : x5 = x0) (h11 : x6 = 76 * x5) (h12 : x7 = x4 + x6) (h13 : x8 = x7 + x1) (h14 : x9 = x1 + 1) : x0 ≤ 9 := by omega
theorem o34_82 {x0 x1 : Int} (h0 : 0 ≤ x0) (h1 : x0 ≤ 10) (h2 : x1 = 10) (h3 : ¬ x0 = x1) : 0 ≤ x0 := by omega
theorem o34_83 {x0 x1 : Int} (h0 : 0 ≤ x0) (h1 : x0 ≤ 10) (h2 : x1 = 10) (h3 : ¬ x0 = x1) : x0 ≤ 9 := by omega
theorem o34_84 {x0 : Int} (h0 : 0 ≤ x0) (h1 : x0 ≤ 684) (h2 : 684 - x0 < 0) : False := by omega
theorem o34_85 {x0 x1 x2 : Int} (h0 : 10 ≤ x2) (h1 : x2 ≤ 10) (h2 : 0 ≤ x0) (h3 : x0 ≤ 10) (h4 : x0 = x2) (h5 : x1 = 1) (h6 : -2147483648 ≤ x0) (h7 : x0 ≤ 2147483647) (h8 : -2147483648 ≤ x1) (h9 : x1 ≤ 2147483647) (h10 : -2147483648 ≤ x2) (h11 : x2 ≤ 2147483647) : -2147483648 ≤ x0 - x1 := by omega
theorem o34_86 {x0 x1 x2 : Int} (h0 : 10 ≤ x2) (h1 : x2 ≤ 10) (h2 : 0 ≤ x0) (h3 : x0 ≤ 10) (h4 : x0 = x2) (h5 : x1 = 1) (h6 : -2147483648 ≤ x0) (h7 : x0 ≤ 2147483647) (h8 : -2147483648 ≤ x1) (h9 : x1 ≤ 2147483647) (h10 : -2147483648 ≤ x2) (h11 : x2 ≤ 2147483647) : x0 - x1 ≤ 2147483647 := by omega
theorem o34_87 {x0 x1 x2 x3 : Int} (h0 : 10 ≤ x1) (h1 : x1 ≤ 10) (h2 : 0 ≤ x2) (h3 : x2 ≤ 10) (h4 : x2 = x1) (h5 : x3 = 1) (h6 : x0 = x2 - x3) : 0 ≤ x0 := by omega
theorem o34_88 {x0 x1 x2 x3 : Int} (h0 : 10 ≤ x1) (h1 : x1 ≤ 10) (h2 : 0 ≤ x2) (h3 : x2 ≤ 10) (h4 : x2 = x1) (h5 : x3 = 1) (h6 : x0 = x2 - x3) : x0 ≤ 10 := by omega
theorem o34_89 {x0 x1 x2 x3 : Int} (h0 : 10 ≤ x1) (h1 : x1 ≤ 10) (h2 : 0 ≤ x2) (h3 : x2 ≤ 10) (h4 : x2 = x1) (h5 : x3 = 1) (h6 : x0 = x2 - x3) : x0 ≤ 9 := by omega
theorem o34_90 {x0 x1 x3 : Int} {x2 : Nat} (h0 : 0 ≤ x1) (h1 : x1 ≤ 684) (h2 : 684 - x1 < ((x2 + 1 : Nat) : Int)) (h3 : x3 = 684) (h4 : x1 < x3) (h5 : x0 = 113) (h6 : -2147483648 ≤ x0) (h7 : x0 ≤ 2147483647) (h8 : -2147483648 ≤ x1) (h9 : x1 ≤ 2147483647) (h10 : -2147483648 ≤ x3) (h11 : x3 ≤ 2147483647) : -2147483648 ≤ x0 + x1 := by omega
theorem o34_91 {x0 x1 x3 : Int} {x2 : Nat} (h0 : 0 ≤ x1) (h1 : x1 ≤ 684) (h2 : 684 - x1 < ((x2 + 1 : Nat) : Int)) (h3 : x3 = 684) (h4 : x1 < x3) (h5 : x0 = 113) (h6 : -2147483648 ≤ x0) (h7 : x0 ≤ 2147483647) (h8 : -2147483648 ≤ x1) (h9 : x1 ≤ 2147483647) (h10 : -2147483648 ≤ x3) (h11 : x3 ≤ 2147483647) : x0 + x1 ≤ 2147483647 := by omega
theorem o34_92 {x0 x1 x3 x4 x5 : Int} {x2 : Nat} (h0 : 0 ≤ x1) (h1 : x1 ≤ 684) (h2 : 684 - x1 < ((x2 + 1 : Nat) : Int)) (h3 : x3 = 684) (h4 : x1 < x3) (h5 : x4 = 113) (h6 : x5 = x4 + x1) (h7 : x0 = 189) (h8 : -2147483648 ≤ x0) (h9 : x0 ≤ 2147483647) (h10 : -2147483648 ≤ x1) (h11 : x1 ≤ 2147483647) (h12 : -2147483648 ≤ x3) (h13 : x3 ≤ 2147483647) (h14 : -2147483648 ≤ x4) (h15 : x4 ≤ 2147483647) (h16 : -2147483648 ≤ x5) (h17 : x5 ≤ 2147483647) : -2147483648 ≤ x0 + x1 := by omega
theorem o34_93 {x0 x1 x3 x4 x5 : Int} {x2 : Nat} (h0 : 0 ≤ x1) (h1 : x1 ≤ 684) (h2 : 684 - x1 < ((x2 + 1 : Nat) : Int)) (h3 : x3 = 684) (h4 : x1 < x3) (h5 : x4 = 113) (h6 : x5 = x4 + x1) (h7 : x0 = 189) (h8 : -2147483648 ≤ x0) (h9 : x0 ≤ 2147483647) (h10 : -2147483648 ≤ x1) (h11 : x1 ≤ 2147483647) (h12 : -2147483648 ≤ x3) (h13 : x3 ≤ 2147483647) (h14 : -2147483648 ≤ x4) (h15 : x4 ≤ 2147483647) (h16 : -2147483648 ≤ x5) (h17 : x5 ≤ 2147483647) : x0 + x1 ≤ 2147483647 := by omega
theorem o34_94 {x0 x1 x3 x4 x5 x6 : Int} {x2 : Nat} (h0 : 0 ≤ x1) (h1 : x1 ≤ 684) (h2 : 684 - x1 < ((x2 + 1 : Nat) : Int)) (h3 : x3 = 684) (h4 : x1 < x3) (h5 : x4 = 113) (h6 : x5 = x4 + x1) (h7 : x6 = 189) (h8 : x0 = x6 + x1) : 0 ≤ x0 := by omega
theorem o34_95 {x0 x1 x3 x4 x5 x6 : Int} {x2 : Nat} (h0 : 0 ≤ x1) (h1 : x1 ≤ 684) (h2 : 684 - x1 < ((x2 + 1 : Nat) : Int)) (h3 : x3 = 684) (h4 : x1 < x3) (h5 : x4 = 113) (h6 : x5 = x4 + x1) (h7 : x6 = 189) (h8 : x0 = x6 + x1) : x0 < (5322 : Nat) := by omega
theorem o34_96 {x0 x1 x3 x4 x5 x6 : Int} {x2 : Nat} (h0 : 0 ≤ x1) (h1 : x1 ≤ 684) (h2 : 684 - x1 < ((x2 + 1 : Nat) : Int)) (h3 : x3 = 684) (h4 : x1 < x3) (h5 : x4 = 113) (h6 : x0 = x4 + x1) (h7 : x5 = 189) (h8 : x6 = x5 + x1) : 0 ≤ x0 := by omega
theorem o34_97 {x0 x1 x3 x4 x5 x6 : Int} {x2 : Nat} (h0 : 0 ≤ x1) (h1 : x1 ≤ 684) (h2 : 684 - x1 < ((x2 + 1 : Nat) : Int)) (h3 : x3 = 684) (h4 : x1 < x3) (h5 : x4 = 113) (h6 : x0 = x4 + x1) (h7 : x5 = 189) (h8 : x6 = x5 + x1) : x0 < (5322 : Nat) := by omega
theorem o34_98 {x0 x1 x3 x4 x5 x6 : Int} {x2 : Nat} (h0 : 0 ≤ x1) (h1 : x1 ≤ 684) (h2 : 684 - x1 < ((x2 + 1 : Nat) : Int)) (h3 : x3 = 684) (h4 : x1 < x3) (h5 : x4 = 113) (h6 : x0 = x4 + x1) (h7 : x5 = 189) (h8 : x6 = x5 + x1) : (x0).toNat = 113 + (x1).toNat := by omega
theorem o34_99 {x0 x1 x3 x4 x5 x6 : Int} {x2 : Nat} (h0 : 0 ≤ x1) (h1 : x1 ≤ 684) (h2 : 684 - x1 < ((x2 + 1 : Nat) : Int)) (h3 : x3 = 684) (h4 : x1 < x3) (h5 : x4 = 113) (h6 : x5 = x4 + x1) (h7 : x6 = 189) (h8 : x0 = x6 + x1) : (x0).toNat = 189 + (x1).toNat := by omega
theorem o34_100 {x0 x2 x3 x4 x5 x6 : Int} {x1 : Nat} (h0 : 0 ≤ x0) (h1 : x0 ≤ 684) (h2 : 684 - x0 < ((x1 + 1 : Nat) : Int)) (h3 : x2 = 684) (h4 : x0 < x2) (h5 : x3 = 113) (h6 : x4 = x3 + x0) (h7 : x5 = 189) (h8 : x6 = x5 + x0) : (x0).toNat < 684 := by omega
theorem o34_101 {x0 x1 x3 x4 x5 x6 : Int} {x2 : Nat} (h0 : 0 ≤ x1) (h1 : x1 ≤ 684) (h2 : 684 - x1 < ((x2 + 1 : Nat) : Int)) (h3 : x3 = 684) (h4 : x1 < x3) (h5 : x4 = 113) (h6 : x0 = x4 + x1) (h7 : x5 = 189) (h8 : x6 = x5 + x1) : (36 ≤ x0 ∨ x0 = 10) := by omega
theorem o34_102 {x0 x1 x3 x4 x5 x6 : Int} {x2 : Nat} (h0 : 0 ≤ x1) (h1 : x1 ≤ 684) (h2 : 684 - x1 < ((x2 + 1 : Nat) : Int)) (h3 : x3 = 684) (h4 : x1 < x3) (h5 : x4 = 113) (h6 : x0 = x4 + x1) (h7 : x5 = 189) (h8 : x6 = x5 + x1) : 10 ≤ x0 := by omega
theorem o34_103 {x0 x1 x3 x4 x5 x6 : Int} {x2 : Nat} (h0 : 0 ≤ x1) (h1 : x1 ≤ 684) (h2 : 684 - x1 < ((x2 + 1 : Nat) : Int)) (h3 : x3 = 684) (h4 : x1 < x3) (h5 : x4 = 113) (h6 : x0 = x4 + x1) (h7 : x5 = 189) (h8 : x6 = x5 + x1) : x0 ≤ 872 := by omega
theorem o34_104 {x0 x2 x3 x4 x5 x6 : Int} {x1 : Nat} (h0 : 0 ≤ x0) (h1 : x0 ≤ 684) (h2 : 684 - x0 < ((x1 + 1 : Nat) : Int)) (h3 : x2 = 684) (h4 : x0 < x2) (h5 : x3 = 113) (h6 : x4 = x3 + x0) (h7 : x5 = 189) (h8 : x6 = x5 + x0) (h9 : -2147483648 ≤ x0) (h10 : x0 ≤ 2147483647) (h11 : -2147483648 ≤ x2) (h12 : x2 ≤ 2147483647) (h13 : -2147483648 ≤ x3) (h14 : x3 ≤ 2147483647) (h15 : -2147483648 ≤ x4) (h16 : x4 ≤ 2147483647) (h17 : -2147483648 ≤ x5) (h18 : x5 ≤ 2147483647) (h19 : -2147483648 ≤ x6) (h20 : x6 ≤ 2147483647) : -2147483648 ≤ x0 + 1 := by omega
theorem o34_105 {x0 x2 x3 x4 x5 x6 : Int} {x1 : Nat} (h0 : 0 ≤ x0) (h1 : x0 ≤ 684) (h2 : 684 - x0 < ((x1 + 1 : Nat) : Int)) (h3 : x2 = 684) (h4 : x0 < x2) (h5 : x3 = 113) (h6 : x4 = x3 + x0) (h7 : x5 = 189) (h8 : x6 = x5 + x0) (h9 : -2147483648 ≤ x0) (h10 : x0 ≤ 2147483647) (h11 : -2147483648 ≤ x2) (h12 : x2 ≤ 2147483647) (h13 : -2147483648 ≤ x3) (h14 : x3 ≤ 2147483647) (h15 : -2147483648 ≤ x4) (h16 : x4 ≤ 2147483647) (h17 : -2147483648 ≤ x5) (h18 : x5 ≤ 2147483647) (h19 : -2147483648 ≤ x6) (h20 : x6 ≤ 2147483647) : x0 + 1 ≤ 2147483647 := by omega
theorem o34_106 {x0 x1 x3 x4 x5 x6 x7 : Int} {x2 : Nat} (h0 : 0 ≤ x1) (h1 : x1 ≤ 684) (h2 : 684 - x1 < ((x2 + 1 : Nat) : Int)) (h3 : x3 = 684) (h4 : x1 < x3) (h5 : x4 = 113) (h6 : x0 = x4 + x1) (h7 : x5 = 189) (h8 : x6 = x5 + x1) (h9 : x7 = x1 + 1) : 112 ≠ (x0).toNat := by omega
theorem o34_107 {x0 x2 x3 x4 x5 x6 x7 : Int} {x1 : Nat} (h0 : 0 ≤ x2) (h1 : x2 ≤ 684) (h2 : 684 - x2 < ((x1 + 1 : Nat) : Int)) (h3 : x3 = 684) (h4 : x2 < x3) (h5 : x4 = 113) (h6 : x5 = x4 + x2) (h7 : x6 = 189) (h8 : x7 = x6 + x2) (h9 : x0 = x2 + 1) : 684 - x0 < (x1 : Int) := by omega
theorem o34_108 {x0 x1 x3 x4 x5 x6 x7 : Int} {x2 : Nat} (h0 : 0 ≤ x1) (h1 : x1 ≤ 684) (h2 : 684 - x1 < ((x2 + 1 : Nat) : Int)) (h3 : x3 = 684) (h4 : x1 < x3) (h5 : x4 = 113) (h6 : x5 = x4 + x1) (h7 : x6 = 189) (h8 : x7 = x6 + x1) (h9 : x0 = x1 + 1) : 0 ≤ x0 := by omega
theorem o34_109 {x0 x1 x3 x4 x5 x6 x7 : Int} {x2 : Nat} (h0 : 0 ≤ x1) (h1 : x1 ≤ 684) (h2 : 684 - x1 < ((x2 + 1 : Nat) : Int)) (h3 : x3 = 684) (h4 : x1 < x3) (h5 : x4 = 113) (h6 : x5 = x4 + x1) (h7 : x6 = 189) (h8 : x7 = x6 + x1) (h9 : x0 = x1 + 1) : x0 ≤ 684 := by omega
theorem o34_110 {x0 : Int} (h0 : 10 ≤ x0) (h1 : x0 ≤ 10) : 10 ≤ x0 := by omega
theorem o34_111 {x0 : Int} (h0 : 10 ≤ x0) (h1 : x0 ≤ 10) : x0 ≤ 10 := by omega
theorem o34_112 {x0 : Int} (h0 : x0 = 0) : 684 - x0 < (((684 - x0 + 1).toNat : Nat) : Int) := by omega
theorem o34_113 {x0 : Int} (h0 : x0 = 0) : x0 ≤ 684 := by omega
theorem o34_114 {x0 x1 : Int} (h0 : 0 ≤ x0) (h1 : x0 ≤ 10) (h2 : x1 = 10) (h3 : x0 = x1) : 10 ≤ x0 := by omega
theorem o34_115 {x0 x1 : Int} (h0 : 0 ≤ x0) (h1 : x0 ≤ 10) (h2 : x1 = 10) (h3 : x0 = x1) : x0 ≤ 10 := by omega
theorem o34_116 {x0 : Int} (h0 : x0 = 1) : x0 ≤ 4 := by omega
theorem o34_117 {x0 x1 x2 x3 : Int} (h0 : 0 ≤ x3) (h1 : x3 ≤ 1) (h2 : (x3 = 0 ∨ (0 ≤ x1 ∧ x1 ≤ 4))) (h3 : x3 = 0) (h4 : x0 = 1) : (x0 = 0 → 0 ≤ x1) ∧ (x0 = 0 → x1 ≤ 4) ∧ (x0 = 0 → 0 ≤ x2) ∧ (x0 = 0 → x2 ≤ 3) := by omega
theorem o34_118 {x0 : Int} (h0 : x0 = 1) (h1 : x0 = 0) : False := by omega
theorem o34_119 {x0 x1 : Int} (h0 : 0 ≤ x1) (h1 : x1 ≤ 1) (h2 : (x1 = 0 ∨ (0 ≤ x0 ∧ x0 ≤ 4))) (h3 : ¬ x1 = 0) (h4 : -2147483648 ≤ x1) (h5 : x1 ≤ 2147483647) : -2147483648 ≤ x0 := by omega
theorem o34_120 {x0 x1 : Int} (h0 : 0 ≤ x1) (h1 : x1 ≤ 1) (h2 : (x1 = 0 ∨ (0 ≤ x0 ∧ x0 ≤ 4))) (h3 : ¬ x1 = 0) (h4 : -2147483648 ≤ x1) (h5 : x1 ≤ 2147483647) : x0 ≤ 2147483647 := by omega
theorem o34_121 {x0 x1 x2 x3 : Int} (h0 : 0 ≤ x2) (h1 : x2 ≤ 1) (h2 : (x2 = 0 ∨ (0 ≤ x3 ∧ x3 ≤ 4))) (h3 : ¬ x2 = 0) (h4 : x0 = 36) (h5 : x1 = x3) (h6 : -2147483648 ≤ x0) (h7 : x0 ≤ 2147483647) (h8 : -2147483648 ≤ x1) (h9 : x1 ≤ 2147483647) (h10 : -2147483648 ≤ x2) (h11 : x2 ≤ 2147483647) : -2147483648 ≤ x0 + x1 := by omega
theorem o34_122 {x0 x1 x2 x3 : Int} (h0 : 0 ≤ x2) (h1 : x2 ≤ 1) (h2 : (x2 = 0 ∨ (0 ≤ x3 ∧ x3 ≤ 4))) (h3 : ¬ x2 = 0) (h4 : x0 = 36) (h5 : x1 = x3) (h6 : -2147483648 ≤ x0) (h7 : x0 ≤ 2147483647) (h8 : -2147483648 ≤ x1) (h9 : x1 ≤ 2147483647) (h10 : -2147483648 ≤ x2) (h11 : x2 ≤ 2147483647) : x0 + x1 ≤ 2147483647 := by omega
theorem o34_123 {x0 x1 x2 x3 x4 : Int} (h0 : 0 ≤ x1) (h1 : x1 ≤ 1) (h2 : (x1 = 0 ∨ (0 ≤ x2 ∧ x2 ≤ 4))) (h3 : ¬ x1 = 0) (h4 : x3 = 36) (h5 : x4 = x2) (h6 : x0 = x3 + x4) : 0 ≤ x0 := by omega
theorem o34_124 {x0 x1 x2 x3 x4 : Int} (h0 : 0 ≤ x1) (h1 : x1 ≤ 1) (h2 : (x1 = 0 ∨ (0 ≤ x2 ∧ x2 ≤ 4))) (h3 : ¬ x1 = 0) (h4 : x3 = 36) (h5 : x4 = x2) (h6 : x0 = x3 + x4) : x0 < (5322 : Nat) := by omega
theorem o34_125 : ∀ p, p < 41 → 36 ≤ p → 0 ≤ (elAll p).1 ∧ (elAll p).2 ≤ 24 := by decide +kernel
theorem o34_126 {x0 x1 x2 x3 x4 : Int} (h0 : 0 ≤ x1) (h1 : x1 ≤ 1) (h2 : (x1 = 0 ∨ (0 ≤ x2 ∧ x2 ≤ 4))) (h3 : ¬ x1 = 0) (h4 : x3 = 36) (h5 : x4 = x2) (h6 : x0 = x3 + x4) : (x0).toNat < 41 := by omega
theorem o34_127 {x0 x1 x2 x3 x4 : Int} (h0 : 0 ≤ x1) (h1 : x1 ≤ 1) (h2 : (x1 = 0 ∨ (0 ≤ x2 ∧ x2 ≤ 4))) (h3 : ¬ x1 = 0) (h4 : x3 = 36) (h5 : x4 = x2) (h6 : x0 = x3 + x4) : 36 ≤ (x0).toNat := by omega
theorem o34_128 {x0 x1 x2 x3 x4 : Int} (h0 : 0 ≤ x1) (h1 : x1 ≤ 1) (h2 : (x1 = 0 ∨ (0 ≤ x0 ∧ x0 ≤ 4))) (h3 : ¬ x1 = 0) (h4 : x2 = 36) (h5 : x3 = x0) (h6 : x4 = x2 + x3) (h7 : -2147483648 ≤ x1) (h8 : x1 ≤ 2147483647) (h9 : -2147483648 ≤ x2) (h10 : x2 ≤ 2147483647) (h11 : -2147483648 ≤ x3) (h12 : x3 ≤ 2147483647) (h13 : -2147483648 ≤ x4) (h14 : x4 ≤ 2147483647) : -2147483648 ≤ x0 := by omega
theorem o34_129 {x0 x1 x2 x3 x4 : Int} (h0 : 0 ≤ x1) (h1 : x1 ≤ 1) (h2 : (x1 = 0 ∨ (0 ≤ x0 ∧ x0 ≤ 4))) (h3 : ¬ x1 = 0) (h4 : x2 = 36) (h5 : x3 = x0) (h6 : x4 = x2 + x3) (h7 : -2147483648 ≤ x1) (h8 : x1 ≤ 2147483647) (h9 : -2147483648 ≤ x2) (h10 : x2 ≤ 2147483647) (h11 : -2147483648 ≤ x3) (h12 : x3 ≤ 2147483647) (h13 : -2147483648 ≤ x4) (h14 : x4 ≤ 2147483647) : x0 ≤ 2147483647 := by omega
theorem o34_130 {x0 x1 x2 x3 x4 x5 x6 : Int} (h0 : 0 ≤ x2) (h1 : x2 ≤ 1) (h2 : (x2 = 0 ∨ (0 ≤ x3 ∧ x3 ≤ 4))) (h3 : ¬ x2 = 0) (h4 : x4 = 36) (h5 : x5 = x3) (h6 : x6 = x4 + x5) (h7 : x0 = 41) (h8 : x1 = x3) (h9 : -2147483648 ≤ x0) (h10 : x0 ≤ 2147483647) (h11 : -2147483648 ≤ x1) (h12 : x1 ≤ 2147483647) (h13 : -2147483648 ≤ x2) (h14 : x2 ≤ 2147483647) (h15 : -2147483648 ≤ x4) (h16 : x4 ≤ 2147483647) (h17 : -2147483648 ≤ x5) (h18 : x5 ≤ 2147483647) (h19 : -2147483648 ≤ x6) (h20 : x6 ≤ 2147483647) : -2147483648 ≤ x0 + x1 := by omega
theorem o34_131 {x0 x1 x2 x3 x4 x5 x6 : Int} (h0 : 0 ≤ x2) (h1 : x2 ≤ 1) (h2 : (x2 = 0 ∨ (0 ≤ x3 ∧ x3 ≤ 4))) (h3 : ¬ x2 = 0) (h4 : x4 = 36) (h5 : x5 = x3) (h6 : x6 = x4 + x5) (h7 : x0 = 41) (h8 : x1 = x3) (h9 : -2147483648 ≤ x0) (h10 : x0 ≤ 2147483647) (h11 : -2147483648 ≤ x1) (h12 : x1 ≤ 2147483647) (h13 : -2147483648 ≤ x2) (h14 : x2 ≤ 2147483647) (h15 : -2147483648 ≤ x4) (h16 : x4 ≤ 2147483647) (h17 : -2147483648 ≤ x5) (h18 : x5 ≤ 2147483647) (h19 : -2147483648 ≤ x6) (h20 : x6 ≤ 2147483647) : x0 + x1 ≤ 2147483647 := by omega
theorem o34_132 {x0 x1 x2 x3 x4 x5 x6 x7 : Int} (h0 : 0 ≤ x1) (h1 : x1 ≤ 1) (h2 : (x1 = 0 ∨ (0 ≤ x2 ∧ x2 ≤ 4))) (h3 : ¬ x1 = 0) (h4 : x3 = 36) (h5 : x4 = x2) (h6 : x5 = x3 + x4) (h7 : x6 = 41) (h8 : x7 = x2) (h9 : x0 = x6 + x7) : 0 ≤ x0 := by omega
theorem o34_133 {x0 x1 x2 x3 x4 x5 x6 x7 : Int} (h0 : 0 ≤ x1) (h1 : x1 ≤ 1) (h2 : (x1 = 0 ∨ (0 ≤ x2 ∧ x2 ≤ 4))) (h3 : ¬ x1 = 0) (h4 : x3 = 36) (h5 : x4 = x2) (h6 : x5 = x3 + x4) (h7 : x6 = 41) (h8 : x7 = x2) (h9 : x0 = x6 + x7) : x0 < (5322 : Nat) := by omega
theorem o34_134 : ∀ p, p < 46 → 41 ≤ p → 0 ≤ (elAll p).1 ∧ (elAll p).2 ≤ 3 := by decide +kernel
theorem o34_135 {x0 x1 x2 x3 x4 x5 x6 x7 : Int} (h0 : 0 ≤ x1) (h1 : x1 ≤ 1) (h2 : (x1 = 0 ∨ (0 ≤ x2 ∧ x2 ≤ 4))) (h3 : ¬ x1 = 0) (h4 : x3 = 36) (h5 : x4 = x2) (h6 : x5 = x3 + x4) (h7 : x6 = 41) (h8 : x7 = x2) (h9 : x0 = x6 + x7) : (x0).toNat < 46 := by omega
theorem o34_136 {x0 x1 x2 x3 x4 x5 x6 x7 : Int} (h0 : 0 ≤ x1) (h1 : x1 ≤ 1) (h2 : (x1 = 0 ∨ (0 ≤ x2 ∧ x2 ≤ 4))) (h3 : ¬ x1 = 0) (h4 : x3 = 36) (h5 : x4 = x2) (h6 : x5 = x3 + x4) (h7 : x6 = 41) (h8 : x7 = x2) (h9 : x0 = x6 + x7) : 41 ≤ (x0).toNat := by omega
theorem o34_137 {x0 x1 x2 x3 : Int} (h0 : x1 = 0) (h1 : x2 = 3) (h2 : 0 ≤ x3) (h3 : x3 ≤ 1) (h4 : ((x3 = 0 ∧ (x0 < x1 ∨ x2 < x0)) ∨ (x3 = 1 ∧ x1 ≤ x0 ∧ x0 ≤ x2))) (h5 : ¬ x3 = 0) (h6 : -2147483648 ≤ x3) (h7 : x3 ≤ 2147483647) : -2147483648 ≤ x0 := by omega
theorem o34_138 {x0 x1 x2 x3 : Int} (h0 : x1 = 0) (h1 : x2 = 3) (h2 : 0 ≤ x3) (h3 : x3 ≤ 1) (h4 : ((x3 = 0 ∧ (x0 < x1 ∨ x2 < x0)) ∨ (x3 = 1 ∧ x1 ≤ x0 ∧ x0 ≤ x2))) (h5 : ¬ x3 = 0) (h6 : -2147483648 ≤ x3) (h7 : x3 ≤ 2147483647) : x0 ≤ 2147483647 := by omega
theorem o34_139 {x0 : Int} (h0 : 0 ≤ x0) (h1 : x0 ≤ 3) : 0 ≤ x0 := by omega
theorem o34_140 {x0 : Int} (h0 : 0 ≤ x0) (h1 : x0 ≤ 3) : x0 ≤ 3 := by omega
theorem o34_141 {x0 x1 x2 x3 x4 : Int} (h0 : x1 = 0) (h1 : x2 = 3) (h2 : 0 ≤ x3) (h3 : x3 ≤ 1) (h4 : ((x3 = 0 ∧ (x4 < x1 ∨ x2 < x4)) ∨ (x3 = 1 ∧ x1 ≤ x4 ∧ x4 ≤ x2))) (h5 : ¬ x3 = 0) (h6 : x0 = x4) : 0 ≤ x0 := by omega
theorem o34_142 {x0 x1 x2 x3 x4 : Int} (h0 : x1 = 0) (h1 : x2 = 3) (h2 : 0 ≤ x3) (h3 : x3 ≤ 1) (h4 : ((x3 = 0 ∧ (x4 < x1 ∨ x2 < x4)) ∨ (x3 = 1 ∧ x1 ≤ x4 ∧ x4 ≤ x2))) (h5 : ¬ x3 = 0) (h6 : x0 = x4) : x0 ≤ 3 := by omega
theorem o34_143 {x0 x1 x2 x3 x4 x5 x6 x7 : Int} (h0 : 0 ≤ x0) (h1 : x0 ≤ 1) (h2 : (x0 = 0 ∨ (0 ≤ x1 ∧ x1 ≤ 4))) (h3 : ¬ x0 = 0) (h4 : x2 = 36) (h5 : x3 = x1) (h6 : x4 = x2 + x3) (h7 : x5 = 41) (h8 : x6 = x1) (h9 : x7 = x5 + x6) : ¬ x0 = 0 := by omega
theorem o34_144 {x0 x1 x2 x3 x4 x5 x6 x7 x8 x9 x10 x11 x12 x13 x14 x15 : Int} (h0 : 0 ≤ x3) (h1 : x3 ≤ 1) (h2 : (x3 = 0 ∨ (0 ≤ x1 ∧ x1 ≤ 4))) (h3 : ¬ x3 = 0) (h4 : x4 = 0) (h5 : x5 = 3) (h6 : 0 ≤ x6) (h7 : x6 ≤ 1) (h8 : ((x6 = 0 ∧ (x2 < x4 ∨ x5 < x2)) ∨ (x6 = 1 ∧ x4 ≤ x2 ∧ x2 ≤ x5))) (h9 : ¬ x6 = 0) (h10 : x7 = 36) (h11 : x8 = x1) (h12 : x9 = x7 + x8) (h13 : x10 = 41) (h14 : x11 = x1) (h15 : x12 = x10 + x11) (h16 : x13 = x2) (h17 : x14 = 2) (h18 : ((x15 = -1 ∧ x2 < x14) ∨ (x15 = 0 ∧ x2 = x14) ∨ (x15 = 1 ∧ x14 < x2))) (h19 : 0 ≤ x15) (h20 : x0 = 0) : (x0 = 0 → 0 ≤ x1) ∧ (x0 = 0 → x1 ≤ 4) ∧ (x0 = 0 → 0 ≤ x2) ∧ (x0 = 0 → x2 ≤ 3) := by omega
theorem o34_145 : ∀ p, p < 51 → 46 ≤ p → 0 ≤ (elAll p).1 ∧ (elAll p).2 ≤ 99 := by decide +kernel
theorem o34_146 {x0 : Int} (h0 : 0 ≤ x0) (h1 : x0 ≤ 1) (h2 : ¬ x0 = 0) (h3 : x0 = 0) : False := by omega
theorem o34_147 {x0 x1 x2 x3 x4 x5 x6 x7 : Int} (h0 : 0 ≤ x2) (h1 : x2 ≤ 1) (h2 : (x2 = 0 ∨ (0 ≤ x1 ∧ x1 ≤ 4))) (h3 : ¬ x2 = 0) (h4 : x3 = 36) (h5 : x4 = x1) (h6 : x0 = x3 + x4) (h7 : x5 = 41) (h8 : x6 = x1) (h9 : x7 = x5 + x6) : (x0).toNat = 36 + (x1).toNat := by omega
theorem o34_148 {x0 x1 x2 x3 x4 x5 x6 x7 : Int} (h0 : 0 ≤ x2) (h1 : x2 ≤ 1) (h2 : (x2 = 0 ∨ (0 ≤ x1 ∧ x1 ≤ 4))) (h3 : ¬ x2 = 0) (h4 : x3 = 36) (h5 : x4 = x1) (h6 : x5 = x3 + x4) (h7 : x6 = 41) (h8 : x7 = x1) (h9 : x0 = x6 + x7) : (x0).toNat = 41 + (x1).toNat := by omega
theorem o34_149 {x0 x1 x2 x3 x4 x5 x6 : Int} (h0 : x2 = 0) (h1 : x3 = 3) (h2 : 0 ≤ x4) (h3 : x4 ≤ 1) (h4 : ((x4 = 0 ∧ (x1 < x2 ∨ x3 < x1)) ∨ (x4 = 1 ∧ x2 ≤ x1 ∧ x1 ≤ x3))) (h5 : ¬ x4 = 0) (h6 : x0 = x1) (h7 : x5 = 2) (h8 : ((x6 = -1 ∧ x1 < x5) ∨ (x6 = 0 ∧ x1 = x5) ∨ (x6 = 1 ∧ x5 < x1))) (h9 : 0 ≤ x6) : x0 = x1 := by omega
theorem o34_150 {x0 x1 : Int} (h0 : (-1) ≤ x0) (h1 : x0 ≤ 24) (h2 : x1 = (-1)) (h3 : ¬ x0 = x1) : 0 ≤ x0 := by omega
theorem o34_151 {x0 x1 x2 x3 x4 x5 x6 x7 : Int} (h0 : 0 ≤ x1) (h1 : x1 ≤ 1) (h2 : (x1 = 0 ∨ (0 ≤ x0 ∧ x0 ≤ 4))) (h3 : ¬ x1 = 0) (h4 : x2 = 36) (h5 : x3 = x0) (h6 : x4 = x2 + x3) (h7 : x5 = 41) (h8 : x6 = x0) (h9 : x7 = x5 + x6) (h10 : -2147483648 ≤ x1) (h11 : x1 ≤ 2147483647) (h12 : -2147483648 ≤ x2) (h13 : x2 ≤ 2147483647) (h14 : -2147483648 ≤ x3) (h15 : x3 ≤ 2147483647) (h16 : -2147483648 ≤ x4) (h17 : x4 ≤ 2147483647) (h18 : -2147483648 ≤ x5) (h19 : x5 ≤ 2147483647) (h20 : -2147483648 ≤ x6) (h21 : x6 ≤ 2147483647) (h22 : -2147483648 ≤ x7) (h23 : x7 ≤ 2147483647) : -2147483648 ≤ x0 := by omega
theorem o34_152 {x0 x1 x2 x3 x4 x5 x6 x7 : Int} (h0 : 0 ≤ x1) (h1 : x1 ≤ 1) (h2 : (x1 = 0 ∨ (0 ≤ x0 ∧ x0 ≤ 4))) (h3 : ¬ x1 = 0) (h4 : x2 = 36) (h5 : x3 = x0) (h6 : x4 = x2 + x3) (h7 : x5 = 41) (h8 : x6 = x0) (h9 : x7 = x5 + x6) (h10 : -2147483648 ≤ x1) (h11 : x1 ≤ 2147483647) (h12 : -2147483648 ≤ x2) (h13 : x2 ≤ 2147483647) (h14 : -2147483648 ≤ x3) (h15 : x3 ≤ 2147483647) (h16 : -2147483648 ≤ x4) (h17 : x4 ≤ 2147483647) (h18 : -2147483648 ≤ x5) (h19 : x5 ≤ 2147483647) (h20 : -2147483648 ≤ x6) (h21 : x6 ≤ 2147483647) (h22 : -2147483648 ≤ x7) (h23 : x7 ≤ 2147483647) : x0 ≤ 2147483647 := by omega
theorem o34_153 {x0 x1 x2 x3 x4 x5 x6 x7 x8 x9 : Int} (h0 : 0 ≤ x2) (h1 : x2 ≤ 1) (h2 : (x2 = 0 ∨ (0 ≤ x3 ∧ x3 ≤ 4))) (h3 : ¬ x2 = 0) (h4 : x4 = 36) (h5 : x5 = x3) (h6 : x6 = x4 + x5) (h7 : x7 = 41) (h8 : x8 = x3) (h9 : x9 = x7 + x8) (h10 : x0 = 46) (h11 : x1 = x3) (h12 : -2147483648 ≤ x0) (h13 : x0 ≤ 2147483647) (h14 : -2147483648 ≤ x1) (h15 : x1 ≤ 2147483647) (h16 : -2147483648 ≤ x2) (h17 : x2 ≤ 2147483647) (h18 : -2147483648 ≤ x4) (h19 : x4 ≤ 2147483647) (h20 : -2147483648 ≤ x5) (h21 : x5 ≤ 2147483647) (h22 : -2147483648 ≤ x6) (h23 : x6 ≤ 2147483647) (h24 : -2147483648 ≤ x7) (h25 : x7 ≤ 2147483647) (h26 : -2147483648 ≤ x8) (h27 : x8 ≤ 2147483647) (h28 : -2147483648 ≤ x9) (h29 : x9 ≤ 2147483647) : -2147483648 ≤ x0 + x1 := by omega
theorem o34_154 {x0 x1 x2 x3 x4 x5 x6 x7 x8 x9 : Int} (h0 : 0 ≤ x2) (h1 : x2 ≤ 1) (h2 : (x2 = 0 ∨ (0 ≤ x3 ∧ x3 ≤ 4))) (h3 : ¬ x2 = 0) (h4 : x4 = 36) (h5 : x5 = x3) (h6 : x6 = x4 + x5) (h7 : x7 = 41) (h8 : x8 = x3) (h9 : x9 = x7 + x8) (h10 : x0 = 46) (h11 : x1 = x3) (h12 : -2147483648 ≤ x0) (h13 : x0 ≤ 2147483647) (h14 : -2147483648 ≤ x1) (h15 : x1 ≤ 2147483647) (h16 : -2147483648 ≤ x2) (h17 : x2 ≤ 2147483647) (h18 : -2147483648 ≤ x4) (h19 : x4 ≤ 2147483647) (h20 : -2147483648 ≤ x5) (h21 : x5 ≤ 2147483647) (h22 : -2147483648 ≤ x6) (h23 : x6 ≤ 2147483647) (h24 : -2147483648 ≤ x7) (h25 : x7 ≤ 2147483647) (h26 : -2147483648 ≤ x8) (h27 : x8 ≤ 2147483647) (h28 : -2147483648 ≤ x9) (h29 : x9 ≤ 2147483647) : x0 + x1 ≤ 2147483647 := by omega
theorem o34_155 {x0 x1 x2 x3 x4 x5 x6 x7 x8 x9 x10 : Int} (h0 : 0 ≤ x1) (h1 : x1 ≤ 1) (h2 : (x1 = 0 ∨ (0 ≤ x2 ∧ x2 ≤ 4))) (h3 : ¬ x1 = 0) (h4 : x3 = 36) (h5 : x4 = x2) (h6 : x5 = x3 + x4) (h7 : x6 = 41) (h8 : x7 = x2) (h9 : x8 = x6 + x7) (h10 : x9 = 46) (h11 : x10 = x2) (h12 : x0 = x9 + x10) : 0 ≤ x0 := by omega
theorem o34_156 {x0 x1 x2 x3 x4 x5 x6 x7 x8 x9 x10 : Int} (h0 : 0 ≤ x1) (h1 : x1 ≤ 1) (h2 : (x1 = 0 ∨ (0 ≤ x2 ∧ x2 ≤ 4))) (h3 : ¬ x1 = 0) (h4 : x3 = 36) (h5 : x4 = x2) (h6 : x5 = x3 + x4) (h7 : x6 = 41) (h8 : x7 = x2) (h9 : x8 = x6 + x7) (h10 : x9 = 46) (h11 : x10 = x2) (h12 : x0 = x9 + x10) : x0 < (5322 : Nat) := by omega
theorem o34_157 {x0 x1 x2 x3 x4 x5 x6 x7 x8 x9 x10 : Int} (h0 : 0 ≤ x1) (h1 : x1 ≤ 1) (h2 : (x1 = 0 ∨ (0 ≤ x2 ∧ x2 ≤ 4))) (h3 : ¬ x1 = 0) (h4 : x3 = 36) (h5 : x4 = x2) (h6 : x5 = x3 + x4) (h7 : x6 = 41) (h8 : x7 = x2) (h9 : x8 = x6 + x7) (h10 : x9 = 46) (h11 : x10 = x2) (h12 : x0 = x9 + x10) : (x0).toNat < 51 := by omega
theorem o34_158 {x0 x1 x2 x3 x4 x5 x6 x7 x8 x9 x10 : Int} (h0 : 0 ≤ x1) (h1 : x1 ≤ 1) (h2 : (x1 = 0 ∨ (0 ≤ x2 ∧ x2 ≤ 4))) (h3 : ¬ x1 = 0) (h4 : x3 = 36) (h5 : x4 = x2) (h6 : x5 = x3 + x4) (h7 : x6 = 41) (h8 : x7 = x2) (h9 : x8 = x6 + x7) (h10 : x9 = 46) (h11 : x10 = x2) (h12 : x0 = x9 + x10) : 46 ≤ (x0).toNat := by omega
theorem o34_159 {x0 x1 x2 x3 x4 x5 x6 : Int} (h0 : x1 = 0) (h1 : x2 = 3) (h2 : 0 ≤ x3) (h3 : x3 ≤ 1) (h4 : ((x3 = 0 ∧ (x0 < x1 ∨ x2 < x0)) ∨ (x3 = 1 ∧ x1 ≤ x0 ∧ x0 ≤ x2))) (h5 : ¬ x3 = 0) (h6 : x4 = x0) (h7 : x5 = 2) (h8 : ((x6 = -1 ∧ x0 < x5) ∨ (x6 = 0 ∧ x0 = x5) ∨ (x6 = 1 ∧ x5 < x0))) (h9 : 0 ≤ x6) (h10 : -2147483648 ≤ x3) (h11 : x3 ≤ 2147483647) (h12 : -2147483648 ≤ x4) (h13 : x4 ≤ 2147483647) (h14 : -2147483648 ≤ x6) (h15 : x6 ≤ 2147483647) : -2147483648 ≤ x0 := by omega
theorem o34_160 {x0 x1 x2 x3 x4 x5 x6 : Int} (h0 : x1 = 0) (h1 : x2 = 3) (h2 : 0 ≤ x3) (h3 : x3 ≤ 1) (h4 : ((x3 = 0 ∧ (x0 < x1 ∨ x2 < x0)) ∨ (x3 = 1 ∧ x1 ≤ x0 ∧ x0 ≤ x2))) (h5 : ¬ x3 = 0) (h6 : x4 = x0) (h7 : x5 = 2) (h8 : ((x6 = -1 ∧ x0 < x5) ∨ (x6 = 0 ∧ x0 = x5) ∨ (x6 = 1 ∧ x5 < x0))) (h9 : 0 ≤ x6) (h10 : -2147483648 ≤ x3) (h11 : x3 ≤ 2147483647) (h12 : -2147483648 ≤ x4) (h13 : x4 ≤ 2147483647) (h14 : -2147483648 ≤ x6) (h15 : x6 ≤ 2147483647) : x0 ≤ 2147483647 := by omega
theorem o34_161 {x0 x1 x2 x3 x4 x5 x6 x7 : Int} (h0 : x1 = 0) (h1 : x2 = 3) (h2 : 0 ≤ x3) (h3 : x3 ≤ 1) (h4 : ((x3 = 0 ∧ (x4 < x1 ∨ x2 < x4)) ∨ (x3 = 1 ∧ x1 ≤ x4 ∧ x4 ≤ x2))) (h5 : ¬ x3 = 0) (h6 : x5 = x4) (h7 : x6 = 2) (h8 : ((x7 = -1 ∧ x4 < x6) ∨ (x7 = 0 ∧ x4 = x6) ∨ (x7 = 1 ∧ x6 < x4))) (h9 : 0 ≤ x7) (h10 : x0 = x4) : 0 ≤ x0 := by omega
theorem o34_162 {x0 x1 x2 x3 x4 x5 x6 x7 : Int} (h0 : x1 = 0) (h1 : x2 = 3) (h2 : 0 ≤ x3) (h3 : x3 ≤ 1) (h4 : ((x3 = 0 ∧ (x4 < x1 ∨ x2 < x4)) ∨ (x3 = 1 ∧ x1 ≤ x4 ∧ x4 ≤ x2))) (h5 : ¬ x3 = 0) (h6 : x5 = x4) (h7 : x6 = 2) (h8 : ((x7 = -1 ∧ x4 < x6) ∨ (x7 = 0 ∧ x4 = x6) ∨ (x7 = 1 ∧ x6 < x4))) (h9 : 0 ≤ x7) (h10 : x0 = x4) : x0 ≤ 3 := by omega
theorem o34_163 {x0 x1 x2 x3 x4 x5 x6 x7 x8 x9 x10 x11 x12 x13 x14 x15 x16 x17 x18 x19 x20 x21 : Int} (h0 : 0 ≤ x3) (h1 : x3 ≤ 1) (h2 : (x3 = 0 ∨ (0 ≤ x1 ∧ x1 ≤ 4))) (h3 : ¬ x3 = 0) (h4 : x4 = 0) (h5 : x5 = 3) (h6 : 0 ≤ x6) (h7 : x6 ≤ 1) (h8 : ((x6 = 0 ∧ (x2 < x4 ∨ x5 < x2)) ∨ (x6 = 1 ∧ x4 ≤ x2 ∧ x2 ≤ x5))) (h9 : ¬ x6 = 0) (h10 : x7 = 36) (h11 : x8 = x1) (h12 : x9 = x7 + x8) (h13 : x10 = 41) (h14 : x11 = x1) (h15 : x12 = x10 + x11) (h16 : x13 = x2) (h17 : x14 = 2) (h18 : ((x15 = -1 ∧ x2 < x14) ∨ (x15 = 0 ∧ x2 = x14) ∨ (x15 = 1 ∧ x14 < x2))) (h19 : 0 ≤ x15) (h20 : x16 = 46) (h21 : x17 = x1) (h22 : x18 = x16 + x17) (h23 : 0 ≤ x19) (h24 : x19 ≤ 99) (h25 : x20 = x2) (h26 : 0 ≤ x21) (h27 : x21 ≤ 2) (h28 : ((x20 < 2 ∧ x21 = 0) ∨ (2 ≤ x20 ∧ x21 = x20 - 1))) (h29 : x21 ≤ x19) (h30 : x0 = 0) : (x0 = 0 → 0 ≤ x1) ∧ (x0 = 0 → x1 ≤ 4) ∧ (x0 = 0 → 0 ≤ x2) ∧ (x0 = 0 → x2 ≤ 3) := by omega
theorem o34_164 {x0 x1 x2 x3 x4 x5 x6 x7 x8 x9 x10 : Int} (h0 : 0 ≤ x2) (h1 : x2 ≤ 1) (h2 : (x2 = 0 ∨ (0 ≤ x1 ∧ x1 ≤ 4))) (h3 : ¬ x2 = 0) (h4 : x3 = 36) (h5 : x4 = x1) (h6 : x5 = x3 + x4) (h7 : x6 = 41) (h8 : x7 = x1) (h9 : x8 = x6 + x7) (h10 : x9 = 46) (h11 : x10 = x1) (h12 : x0 = x9 + x10) : (x0).toNat = 46 + (x1).toNat := by omega
theorem o34_165 {x0 x1 x2 x3 x4 x5 x6 x7 x8 x9 x10 : Int} (h0 : 0 ≤ x2) (h1 : x2 ≤ 1) (h2 : (x2 = 0 ∨ (0 ≤ x1 ∧ x1 ≤ 4))) (h3 : ¬ x2 = 0) (h4 : x3 = 36) (h5 : x4 = x1) (h6 : x0 = x3 + x4) (h7 : x5 = 41) (h8 : x6 = x1) (h9 : x7 = x5 + x6) (h10 : x8 = 46) (h11 : x9 = x1) (h12 : x10 = x8 + x9) : (x0).toNat = 36 + (x1).toNat := by omega
theorem o34_166 {x0 x1 x2 x3 x4 x5 x6 x7 x8 x9 x10 : Int} (h0 : 0 ≤ x2) (h1 : x2 ≤ 1) (h2 : (x2 = 0 ∨ (0 ≤ x1 ∧ x1 ≤ 4))) (h3 : ¬ x2 = 0) (h4 : x3 = 36) (h5 : x4 = x1) (h6 : x5 = x3 + x4) (h7 : x6 = 41) (h8 : x7 = x1) (h9 : x0 = x6 + x7) (h10 : x8 = 46) (h11 : x9 = x1) (h12 : x10 = x8 + x9) : (x0).toNat = 41 + (x1).toNat := by omega
theorem o34_167 {x0 x1 x2 x3 x4 x5 x6 x7 x8 x9 : Int} (h0 : x2 = 0) (h1 : x3 = 3) (h2 : 0 ≤ x4) (h3 : x4 ≤ 1) (h4 : ((x4 = 0 ∧ (x1 < x2 ∨ x3 < x1)) ∨ (x4 = 1 ∧ x2 ≤ x1 ∧ x1 ≤ x3))) (h5 : ¬ x4 = 0) (h6 : x0 = x1) (h7 : x5 = 2) (h8 : ((x6 = -1 ∧ x1 < x5) ∨ (x6 = 0 ∧ x1 = x5) ∨ (x6 = 1 ∧ x5 < x1))) (h9 : 0 ≤ x6) (h10 : 0 ≤ x7) (h11 : x7 ≤ 99) (h12 : x8 = x1) (h13 : 0 ≤ x9) (h14 : x9 ≤ 2) (h15 : ((x8 < 2 ∧ x9 = 0) ∨ (2 ≤ x8 ∧ x9 = x8 - 1))) (h16 : x9 ≤ x7) : x0 = x1 := by omega
theorem o34_168 {x0 x1 x2 x3 x4 x5 x6 x7 x8 x9 x10 : Int} (h0 : 0 ≤ x0) (h1 : x0 ≤ 1) (h2 : (x0 = 0 ∨ (0 ≤ x1 ∧ x1 ≤ 4))) (h3 : ¬ x0 = 0) (h4 : x2 = 36) (h5 : x3 = x1) (h6 : x4 = x2 + x3) (h7 : x5 = 41) (h8 : x6 = x1) (h9 : x7 = x5 + x6) (h10 : x8 = 46) (h11 : x9 = x1) (h12 : x10 = x8 + x9) : ¬ x0 = 0 := by omega
theorem o34_169 {x0 : Int} (h0 : x0 = 4) : 0 ≤ x0 := by omega
theorem o34_170 {x0 : Int} (h0 : x0 = 4) : x0 ≤ 4 := by omega
theorem o34_171 {x0 x1 x2 x3 x4 x5 x6 x7 x8 x9 x10 x11 x12 x13 x14 x15 x16 x17 x18 x19 x20 x21 : Int} (h0 : 0 ≤ x3) (h1 : x3 ≤ 1) (h2 : (x3 = 0 ∨ (0 ≤ x1 ∧ x1 ≤ 4))) (h3 : ¬ x3 = 0) (h4 : x4 = 0) (h5 : x5 = 3) (h6 : 0 ≤ x6) (h7 : x6 ≤ 1) (h8 : ((x6 = 0 ∧ (x2 < x4 ∨ x5 < x2)) ∨ (x6 = 1 ∧ x4 ≤ x2 ∧ x2 ≤ x5))) (h9 : ¬ x6 = 0) (h10 : x7 = 36) (h11 : x8 = x1) (h12 : x9 = x7 + x8) (h13 : x10 = 41) (h14 : x11 = x1) (h15 : x12 = x10 + x11) (h16 : x13 = x2) (h17 : x14 = 2) (h18 : ((x15 = -1 ∧ x2 < x14) ∨ (x15 = 0 ∧ x2 = x14) ∨ (x15 = 1 ∧ x14 < x2))) (h19 : 0 ≤ x15) (h20 : x16 = 46) (h21 : x17 = x1) (h22 : x18 = x16 + x17) (h23 : 0 ≤ x19) (h24 : x19 ≤ 99) (h25 : x20 = x2) (h26 : 0 ≤ x21) (h27 : x21 ≤ 2) (h28 : ((x20 < 2 ∧ x21 = 0) ∨ (2 ≤ x20 ∧ x21 = x20 - 1))) (h29 : x19 < x21) (h30 : x0 = 4) : (x0 = 0 → 0 ≤ x1) ∧ (x0 = 0 → x1 ≤ 4) ∧ (x0 = 0 → 0 ≤ x2) ∧ (x0 = 0 → x2 ≤ 3) := by omega
theorem o34_172 {x0 : Int} (h0 : x0 = 4) (h1 : x0 = 0) : False := by omega
theorem o34_173 {x0 : Int} (h0 : x0 = 3) : 0 ≤ x0 := by omega
theorem o34_174 {x0 : Int} (h0 : x0 = 3) : x0 ≤ 4 := by omega
theorem o34_175 {x0 x1 x2 x3 x4 x5 x6 x7 x8 x9 x10 x11 x12 x13 x14 x15 : Int} (h0 : 0 ≤ x3) (h1 : x3 ≤ 1) (h2 : (x3 = 0 ∨ (0 ≤ x1 ∧ x1 ≤ 4))) (h3 : ¬ x3 = 0) (h4 : x4 = 0) (h5 : x5 = 3) (h6 : 0 ≤ x6) (h7 : x6 ≤ 1) (h8 : ((x6 = 0 ∧ (x2 < x4 ∨ x5 < x2)) ∨ (x6 = 1 ∧ x4 ≤ x2 ∧ x2 ≤ x5))) (h9 : ¬ x6 = 0) (h10 : x7 = 36) (h11 : x8 = x1) (h12 : x9 = x7 + x8) (h13 : x10 = 41) (h14 : x11 = x1) (h15 : x12 = x10 + x11) (h16 : x13 = x2) (h17 : x14 = 2) (h18 : ((x15 = -1 ∧ x2 < x14) ∨ (x15 = 0 ∧ x2 = x14) ∨ (x15 = 1 ∧ x14 < x2))) (h19 : 0 ≤ x15) (h20 : x0 = 3) : (x0 = 0 → 0 ≤ x1) ∧ (x0 = 0 → x1 ≤ 4) ∧ (x0 = 0 → 0 ≤ x2) ∧ (x0 = 0 → x2 ≤ 3) := by omega
theorem o34_176 {x0 : Int} (h0 : x0 = 3) (h1 : x0 = 0) : False := by omega
theorem o34_177 {x0 x1 x2 x3 x4 x5 x6 x7 x8 x9 x10 x11 x12 x13 x14 x15 : Int} (h0 : 0 ≤ x3) (h1 : x3 ≤ 1) (h2 : (x3 = 0 ∨ (0 ≤ x1 ∧ x1 ≤ 4))) (h3 : ¬ x3 = 0) (h4 : x4 = 0) (h5 : x5 = 3) (h6 : 0 ≤ x6) (h7 : x6 ≤ 1) (h8 : ((x6 = 0 ∧ (x2 < x4 ∨ x5 < x2)) ∨ (x6 = 1 ∧ x4 ≤ x2 ∧ x2 ≤ x5))) (h9 : ¬ x6 = 0) (h10 : x7 = 36) (h11 : x8 = x1) (h12 : x9 = x7 + x8) (h13 : x10 = 41) (h14 : x11 = x1) (h15 : x12 = x10 + x11) (h16 : x13 = x2) (h17 : x14 = 2) (h18 : ((x15 = -1 ∧ x2 < x14) ∨ (x15 = 0 ∧ x2 = x14) ∨ (x15 = 1 ∧ x14 < x2))) (h19 : x15 < 0) (h20 : x0 = 0) : (x0 = 0 → 0 ≤ x1) ∧ (x0 = 0 → x1 ≤ 4) ∧ (x0 = 0 → 0 ≤ x2) ∧ (x0 = 0 → x2 ≤ 3) := by omega
theorem o34_178 {x0 x1 x2 x3 x4 x5 x6 : Int} (h0 : x2 = 0) (h1 : x3 = 3) (h2 : 0 ≤ x4) (h3 : x4 ≤ 1) (h4 : ((x4 = 0 ∧ (x1 < x2 ∨ x3 < x1)) ∨ (x4 = 1 ∧ x2 ≤ x1 ∧ x1 ≤ x3))) (h5 : ¬ x4 = 0) (h6 : x0 = x1) (h7 : x5 = 2) (h8 : ((x6 = -1 ∧ x1 < x5) ∨ (x6 = 0 ∧ x1 = x5) ∨ (x6 = 1 ∧ x5 < x1))) (h9 : x6 < 0) : x0 = x1 := by omega
theorem o34_179 {x0 : Int} (h0 : x0 = 2) : 0 ≤ x0 := by omega
theorem o34_180 {x0 : Int} (h0 : x0 = 2) : x0 ≤ 4 := by omega
theorem o34_181 {x0 x1 x2 x3 x4 x5 x6 x7 x8 x9 x10 x11 x12 x13 : Int} (h0 : 0 ≤ x3) (h1 : x3 ≤ 1) (h2 : (x3 = 0 ∨ (0 ≤ x1 ∧ x1 ≤ 4))) (h3 : ¬ x3 = 0) (h4 : x4 = 0) (h5 : x5 = 3) (h6 : 0 ≤ x6) (h7 : x6 ≤ 1) (h8 : ((x6 = 0 ∧ (x2 < x4 ∨ x5 < x2)) ∨ (x6 = 1 ∧ x4 ≤ x2 ∧ x2 ≤ x5))) (h9 : ¬ x6 = 0) (h10 : x7 = 36) (h11 : x8 = x1) (h12 : x9 = x7 + x8) (h13 : x10 = 41) (h14 : x11 = x1) (h15 : x12 = x10 + x11) (h16 : x13 = x2) (h17 : x0 = 2) : (x0 = 0 → 0 ≤ x1) ∧ (x0 = 0 → x1 ≤ 4) ∧ (x0 = 0 → 0 ≤ x2) ∧ (x0 = 0 → x2 ≤ 3) := by omega
theorem o34_182 {x0 : Int} (h0 : x0 = 2) (h1 : x0 = 0) : False := by omega
theorem o34_183 {x0 x1 x2 x3 x4 x5 x6 : Int} (h0 : 0 ≤ x3) (h1 : x3 ≤ 1) (h2 : (x3 = 0 ∨ (0 ≤ x1 ∧ x1 ≤ 4))) (h3 : ¬ x3 = 0) (h4 : x4 = 0) (h5 : x5 = 3) (h6 : 0 ≤ x6) (h7 : x6 ≤ 1) (h8 : ((x6 = 0 ∧ (x2 < x4 ∨ x5 < x2)) ∨ (x6 = 1 ∧ x4 ≤ x2 ∧ x2 ≤ x5))) (h9 : x6 = 0) (h10 : x0 = 1) : (x0 = 0 → 0 ≤ x1) ∧ (x0 = 0 → x1 ≤ 4) ∧ (x0 = 0 → 0 ≤ x2) ∧ (x0 = 0 → x2 ≤ 3) := by omega
theorem o34_184 {x0 x1 : Int} (h0 : 0 ≤ x1) (h1 : x1 ≤ 4) (h2 : x0 = 36) (h3 : -2147483648 ≤ x0) (h4 : x0 ≤ 2147483647) (h5 : -2147483648 ≤ x1) (h6 : x1 ≤ 2147483647) : -2147483648 ≤ x0 + x1 := by omega
theorem o34_185 {x0 x1 : Int} (h0 : 0 ≤ x1) (h1 : x1 ≤ 4) (h2 : x0 = 36) (h3 : -2147483648 ≤ x0) (h4 : x0 ≤ 2147483647) (h5 : -2147483648 ≤ x1) (h6 : x1 ≤ 2147483647) : x0 + x1 ≤ 2147483647 := by omega
theorem o34_186 {x0 x1 x2 : Int} (h0 : 0 ≤ x1) (h1 : x1 ≤ 4) (h2 : x2 = 36) (h3 : x0 = x2 + x1) : 0 ≤ x0 := by omega
theorem o34_187 {x0 x1 x2 : Int} (h0 : 0 ≤ x1) (h1 : x1 ≤ 4) (h2 : x2 = 36) (h3 : x0 = x2 + x1) : x0 < (5322 : Nat) := by omega
theorem o34_188 {x0 x1 x2 : Int} (h0 : 0 ≤ x1) (h1 : x1 ≤ 4) (h2 : x2 = 36) (h3 : x0 = x2 + x1) : (x0).toNat < 41 := by omega
theorem o34_189 {x0 x1 x2 : Int} (h0 : 0 ≤ x1) (h1 : x1 ≤ 4) (h2 : x2 = 36) (h3 : x0 = x2 + x1) : 36 ≤ (x0).toNat := by omega
theorem o34_190 {x0 x1 x2 x3 : Int} (h0 : 0 ≤ x1) (h1 : x1 ≤ 4) (h2 : x2 = 36) (h3 : x3 = x2 + x1) (h4 : x0 = 41) (h5 : -2147483648 ≤ x0) (h6 : x0 ≤ 2147483647) (h7 : -2147483648 ≤ x1) (h8 : x1 ≤ 2147483647) (h9 : -2147483648 ≤ x2) (h10 : x2 ≤ 2147483647) (h11 : -2147483648 ≤ x3) (h12 : x3 ≤ 2147483647) : -2147483648 ≤ x0 + x1 := by omega
theorem o34_191 {x0 x1 x2 x3 : Int} (h0 : 0 ≤ x1) (h1 : x1 ≤ 4) (h2 : x2 = 36) (h3 : x3 = x2 + x1) (h4 : x0 = 41) (h5 : -2147483648 ≤ x0) (h6 : x0 ≤ 2147483647) (h7 : -2147483648 ≤ x1) (h8 : x1 ≤ 2147483647) (h9 : -2147483648 ≤ x2) (h10 : x2 ≤ 2147483647) (h11 : -2147483648 ≤ x3) (h12 : x3 ≤ 2147483647) : x0 + x1 ≤ 2147483647 := by omega
theorem o34_192 {x0 x1 x2 x3 x4 x5 : Int} (h0 : 0 ≤ x1) (h1 : x1 ≤ 4) (h2 : x2 = 36) (h3 : x3 = x2 + x1) (h4 : x4 = 41) (h5 : x5 = x4 + x1) (h6 : x0 = 41) (h7 : -2147483648 ≤ x0) (h8 : x0 ≤ 2147483647) (h9 : -2147483648 ≤ x1) (h10 : x1 ≤ 2147483647) (h11 : -2147483648 ≤ x2) (h12 : x2 ≤ 2147483647) (h13 : -2147483648 ≤ x3) (h14 : x3 ≤ 2147483647) (h15 : -2147483648 ≤ x4) (h16 : x4 ≤ 2147483647) (h17 : -2147483648 ≤ x5) (h18 : x5 ≤ 2147483647) : -2147483648 ≤ x0 + x1 := by omega
theorem o34_193 {x0 x1 x2 x3 x4 x5 : Int} (h0 : 0 ≤ x1) (h1 : x1 ≤ 4) (h2 : x2 = 36) (h3 : x3 = x2 + x1) (h4 : x4 = 41) (h5 : x5 = x4 + x1) (h6 : x0 = 41) (h7 : -2147483648 ≤ x0) (h8 : x0 ≤ 2147483647) (h9 : -2147483648 ≤ x1) (h10 : x1 ≤ 2147483647) (h11 : -2147483648 ≤ x2) (h12 : x2 ≤ 2147483647) (h13 : -2147483648 ≤ x3) (h14 : x3 ≤ 2147483647) (h15 : -2147483648 ≤ x4) (h16 : x4 ≤ 2147483647) (h17 : -2147483648 ≤ x5) (h18 : x5 ≤ 2147483647) : x0 + x1 ≤ 2147483647 := by omega
theorem o34_194 {x0 x1 x2 x3 x4 x5 x6 : Int} (h0 : 0 ≤ x1) (h1 : x1 ≤ 4) (h2 : x2 = 36) (h3 : x3 = x2 + x1) (h4 : x4 = 41) (h5 : x5 = x4 + x1) (h6 : x6 = 41) (h7 : x0 = x6 + x1) : 0 ≤ x0 := by omega
theorem o34_195 {x0 x1 x2 x3 x4 x5 x6 : Int} (h0 : 0 ≤ x1) (h1 : x1 ≤ 4) (h2 : x2 = 36) (h3 : x3 = x2 + x1) (h4 : x4 = 41) (h5 : x5 = x4 + x1) (h6 : x6 = 41) (h7 : x0 = x6 + x1) : x0 < (5322 : Nat) := by omega
theorem o34_196 {x0 x1 x2 x3 x4 x5 x6 : Int} (h0 : 0 ≤ x1) (h1 : x1 ≤ 4) (h2 : x2 = 36) (h3 : x3 = x2 + x1) (h4 : x4 = 41) (h5 : x5 = x4 + x1) (h6 : x6 = 41) (h7 : x0 = x6 + x1) : (x0).toNat < 46 := by omega
theorem o34_197 {x0 x1 x2 x3 x4 x5 x6 : Int} (h0 : 0 ≤ x1) (h1 : x1 ≤ 4) (h2 : x2 = 36) (h3 : x3 = x2 + x1) (h4 : x4 = 41) (h5 : x5 = x4 + x1) (h6 : x6 = 41) (h7 : x0 = x6 + x1) : 41 ≤ (x0).toNat := by omega
theorem o34_198 {x0 x1 : Int} (h0 : 0 ≤ x0) (h1 : x0 ≤ 3) (h2 : 0 ≤ x1) (h3 : x1 ≤ 2) (h4 : ((x0 < 2 ∧ x1 = 0) ∨ (2 ≤ x0 ∧ x1 = x0 - 1))) : 0 ≤ x0 := by omega
theorem o34_199 {x0 x1 : Int} (h0 : 0 ≤ x0) (h1 : x0 ≤ 3) (h2 : 0 ≤ x1) (h3 : x1 ≤ 2) (h4 : ((x0 < 2 ∧ x1 = 0) ∨ (2 ≤ x0 ∧ x1 = x0 - 1))) : x0 ≤ 3 := by omega
theorem o34_200 {x0 x1 x2 x3 x4 x5 x6 : Int} (h0 : 0 ≤ x1) (h1 : x1 ≤ 4) (h2 : x2 = 36) (h3 : x3 = x2 + x1) (h4 : x4 = 41) (h5 : x0 = x4 + x1) (h6 : x5 = 41) (h7 : x6 = x5 + x1) : 0 ≤ x0 := by omega
theorem o34_201 {x0 x1 x2 x3 x4 x5 x6 : Int} (h0 : 0 ≤ x1) (h1 : x1 ≤ 4) (h2 : x2 = 36) (h3 : x3 = x2 + x1) (h4 : x4 = 41) (h5 : x0 = x4 + x1) (h6 : x5 = 41) (h7 : x6 = x5 + x1) : x0 < (5322 : Nat) := by omega
theorem o34_202 : ∀ p, p < 46 → 41 ≤ p → (elAll p).1 ≤ 0 ∧ 3 ≤ (elAll p).2 := by decide +kernel
theorem o34_203 {x0 x1 x2 x3 x4 x5 x6 : Int} (h0 : 0 ≤ x1) (h1 : x1 ≤ 4) (h2 : x2 = 36) (h3 : x3 = x2 + x1) (h4 : x4 = 41) (h5 : x0 = x4 + x1) (h6 : x5 = 41) (h7 : x6 = x5 + x1) : (x0).toNat < 46 := by omega
theorem o34_204 {x0 x1 x2 x3 x4 x5 x6 : Int} (h0 : 0 ≤ x1) (h1 : x1 ≤ 4) (h2 : x2 = 36) (h3 : x3 = x2 + x1) (h4 : x4 = 41) (h5 : x0 = x4 + x1) (h6 : x5 = 41) (h7 : x6 = x5 + x1) : 41 ≤ (x0).toNat := by omega
theorem o34_205 {x0 x1 x2 x3 x4 x5 x6 : Int} (h0 : 0 ≤ x1) (h1 : x1 ≤ 4) (h2 : x2 = 36) (h3 : x3 = x2 + x1) (h4 : x4 = 41) (h5 : x0 = x4 + x1) (h6 : x5 = 41) (h7 : x6 = x5 + x1) : (36 ≤ x0 ∨ x0 = 10) := by omega
theorem o34_206 {x0 x1 x2 x3 x4 x5 x6 : Int} (h0 : 0 ≤ x1) (h1 : x1 ≤ 4) (h2 : x2 = 36) (h3 : x3 = x2 + x1) (h4 : x4 = 41) (h5 : x0 = x4 + x1) (h6 : x5 = 41) (h7 : x6 = x5 + x1) : 10 ≤ x0 := by omega
theorem o34_207 {x0 x1 x2 x3 x4 x5 x6 : Int} (h0 : 0 ≤ x1) (h1 : x1 ≤ 4) (h2 : x2 = 36) (h3 : x3 = x2 + x1) (h4 : x4 = 41) (h5 : x0 = x4 + x1) (h6 : x5 = 41) (h7 : x6 = x5 + x1) : x0 ≤ 872 := by omega
theorem o34_208 {x0 x1 x2 x3 x4 x5 x6 x7 : Int} (h0 : 0 ≤ x1) (h1 : x1 ≤ 4) (h2 : x2 = 36) (h3 : x3 = x2 + x1) (h4 : x4 = 41) (h5 : x5 = x4 + x1) (h6 : x6 = 41) (h7 : x7 = x6 + x1) (h8 : x0 = 36) (h9 : -2147483648 ≤ x0) (h10 : x0 ≤ 2147483647) (h11 : -2147483648 ≤ x1) (h12 : x1 ≤ 2147483647) (h13 : -2147483648 ≤ x2) (h14 : x2 ≤ 2147483647) (h15 : -2147483648 ≤ x3) (h16 : x3 ≤ 2147483647) (h17 : -2147483648 ≤ x4) (h18 : x4 ≤ 2147483647) (h19 : -2147483648 ≤ x5) (h20 : x5 ≤ 2147483647) (h21 : -2147483648 ≤ x6) (h22 : x6 ≤ 2147483647) (h23 : -2147483648 ≤ x7) (h24 : x7 ≤ 2147483647) : -2147483648 ≤ x0 + x1 := by omega
theorem o34_209 {x0 x1 x2 x3 x4 x5 x6 x7 : Int} (h0 : 0 ≤ x1) (h1 : x1 ≤ 4) (h2 : x2 = 36) (h3 : x3 = x2 + x1) (h4 : x4 = 41) (h5 : x5 = x4 + x1) (h6 : x6 = 41) (h7 : x7 = x6 + x1) (h8 : x0 = 36) (h9 : -2147483648 ≤ x0) (h10 : x0 ≤ 2147483647) (h11 : -2147483648 ≤ x1) (h12 : x1 ≤ 2147483647) (h13 : -2147483648 ≤ x2) (h14 : x2 ≤ 2147483647) (h15 : -2147483648 ≤ x3) (h16 : x3 ≤ 2147483647) (h17 : -2147483648 ≤ x4) (h18 : x4 ≤ 2147483647) (h19 : -2147483648 ≤ x5) (h20 : x5 ≤ 2147483647) (h21 : -2147483648 ≤ x6) (h22 : x6 ≤ 2147483647) (h23 : -2147483648 ≤ x7) (h24 : x7 ≤ 2147483647) : x0 + x1 ≤ 2147483647 := by omega
theorem o34_210 {x0 x1 x2 x3 x4 x5 x6 x7 x8 x9 : Int} (h0 : 0 ≤ x1) (h1 : x1 ≤ 4) (h2 : x2 = 36) (h3 : x3 = x2 + x1) (h4 : x4 = 41) (h5 : x5 = x4 + x1) (h6 : x6 = 41) (h7 : x7 = x6 + x1) (h8 : x8 = 36) (h9 : x9 = x8 + x1) (h10 : x0 = 41) (h11 : -2147483648 ≤ x0) (h12 : x0 ≤ 2147483647) (h13 : -2147483648 ≤ x1) (h14 : x1 ≤ 2147483647) (h15 : -2147483648 ≤ x2) (h16 : x2 ≤ 2147483647) (h17 : -2147483648 ≤ x3) (h18 : x3 ≤ 2147483647) (h19 : -2147483648 ≤ x4) (h20 : x4 ≤ 2147483647) (h21 : -2147483648 ≤ x5) (h22 : x5 ≤ 2147483647) (h23 : -2147483648 ≤ x6) (h24 : x6 ≤ 2147483647) (h25 : -2147483648 ≤ x7) (h26 : x7 ≤ 2147483647) (h27 : -2147483648 ≤ x8) (h28 : x8 ≤ 2147483647) (h29 : -2147483648 ≤ x9) (h30 : x9 ≤ 2147483647) : -2147483648 ≤ x0 + x1 := by omega
theorem o34_211 {x0 x1 x2 x3 x4 x5 x6 x7 x8 x9 : Int} (h0 : 0 ≤ x1) (h1 : x1 ≤ 4) (h2 : x2 = 36) (h3 : x3 = x2 + x1) (h4 : x4 = 41) (h5 : x5 = x4 + x1) (h6 : x6 = 41) (h7 : x7 = x6 + x1) (h8 : x8 = 36) (h9 : x9 = x8 + x1) (h10 : x0 = 41) (h11 : -2147483648 ≤ x0) (h12 : x0 ≤ 2147483647) (h13 : -2147483648 ≤ x1) (h14 : x1 ≤ 2147483647) (h15 : -2147483648 ≤ x2) (h16 : x2 ≤ 2147483647) (h17 : -2147483648 ≤ x3) (h18 : x3 ≤ 2147483647) (h19 : -2147483648 ≤ x4) (h20 : x4 ≤ 2147483647) (h21 : -2147483648 ≤ x5) (h22 : x5 ≤ 2147483647) (h23 : -2147483648 ≤ x6) (h24 : x6 ≤ 2147483647) (h25 : -2147483648 ≤ x7) (h26 : x7 ≤ 2147483647) (h27 : -2147483648 ≤ x8) (h28 : x8 ≤ 2147483647) (h29 : -2147483648 ≤ x9) (h30 : x9 ≤ 2147483647) : x0 + x1 ≤ 2147483647 := by omega
theorem o34_212 {x0 x1 x2 x3 x4 x5 x6 x7 x8 x9 x10 : Int} (h0 : 0 ≤ x1) (h1 : x1 ≤ 4) (h2 : x2 = 36) (h3 : x3 = x2 + x1) (h4 : x4 = 41) (h5 : x5 = x4 + x1) (h6 : x6 = 41) (h7 : x7 = x6 + x1) (h8 : x8 = 36) (h9 : x9 = x8 + x1) (h10 : x10 = 41) (h11 : x0 = x10 + x1) : 0 ≤ x0 := by omega
theorem o34_213 {x0 x1 x2 x3 x4 x5 x6 x7 x8 x9 x10 : Int} (h0 : 0 ≤ x1) (h1 : x1 ≤ 4) (h2 : x2 = 36) (h3 : x3 = x2 + x1) (h4 : x4 = 41) (h5 : x5 = x4 + x1) (h6 : x6 = 41) (h7 : x7 = x6 + x1) (h8 : x8 = 36) (h9 : x9 = x8 + x1) (h10 : x10 = 41) (h11 : x0 = x10 + x1) : x0 < (5322 : Nat) := by omega
theorem o34_214 {x0 x1 x2 x3 x4 x5 x6 x7 x8 x9 x10 : Int} (h0 : 0 ≤ x1) (h1 : x1 ≤ 4) (h2 : x2 = 36) (h3 : x3 = x2 + x1) (h4 : x4 = 41) (h5 : x5 = x4 + x1) (h6 : x6 = 41) (h7 : x7 = x6 + x1) (h8 : x8 = 36) (h9 : x9 = x8 + x1) (h10 : x10 = 41) (h11 : x0 = x10 + x1) : (x0).toNat < 46 := by omega
theorem o34_215 {x0 x1 x2 x3 x4 x5 x6 x7 x8 x9 x10 : Int} (h0 : 0 ≤ x1) (h1 : x1 ≤ 4) (h2 : x2 = 36) (h3 : x3 = x2 + x1) (h4 : x4 = 41) (h5 : x5 = x4 + x1) (h6 : x6 = 41) (h7 : x7 = x6 + x1) (h8 : x8 = 36) (h9 : x9 = x8 + x1) (h10 : x10 = 41) (h11 : x0 = x10 + x1) : 41 ≤ (x0).toNat := by omega
theorem o34_216 {x0 x1 x2 x3 x4 x5 x6 x7 x8 x9 x10 : Int} (h0 : 0 ≤ x2) (h1 : x2 ≤ 4) (h2 : x3 = 36) (h3 : x4 = x3 + x2) (h4 : x5 = 41) (h5 : x1 = x5 + x2) (h6 : x6 = 41) (h7 : x7 = x6 + x2) (h8 : x8 = 36) (h9 : x9 = x8 + x2) (h10 : x10 = 41) (h11 : x0 = x10 + x2) : (x0).toNat = (x1).toNat := by omega
theorem o34_217 {x0 x1 : Int} (h0 : 0 ≤ x1) (h1 : x1 ≤ 3) (h2 : 0 ≤ x0) (h3 : x0 ≤ 3) (h4 : x0 = x1) : 0 ≤ x0 := by omega
theorem o34_218 {x0 x1 : Int} (h0 : 0 ≤ x1) (h1 : x1 ≤ 3) (h2 : 0 ≤ x0) (h3 : x0 ≤ 3) (h4 : x0 = x1) : x0 ≤ 3 := by omega
theorem o34_219 {x0 x1 x2 x3 x4 x5 x6 x7 x8 x9 x10 : Int} (h0 : 0 ≤ x1) (h1 : x1 ≤ 4) (h2 : x2 = 36) (h3 : x0 = x2 + x1) (h4 : x3 = 41) (h5 : x4 = x3 + x1) (h6 : x5 = 41) (h7 : x6 = x5 + x1) (h8 : x7 = 36) (h9 : x8 = x7 + x1) (h10 : x9 = 41) (h11 : x10 = x9 + x1) : (x0).toNat = 36 + (x1).toNat := by omega
theorem o34_220 {x0 x1 x2 x3 x4 x5 x6 x7 x8 x9 x10 : Int} (h0 : 0 ≤ x1) (h1 : x1 ≤ 4) (h2 : x2 = 36) (h3 : x3 = x2 + x1) (h4 : x4 = 41) (h5 : x5 = x4 + x1) (h6 : x6 = 41) (h7 : x0 = x6 + x1) (h8 : x7 = 36) (h9 : x8 = x7 + x1) (h10 : x9 = 41) (h11 : x10 = x9 + x1) : (x0).toNat = 41 + (x1).toNat := by omega
theorem o34_221 {x0 x1 : Int} (h0 : 0 ≤ x0) (h1 : x0 ≤ 3) (h2 : 0 ≤ x1) (h3 : x1 ≤ 2) (h4 : ((x0 < 2 ∧ x1 = 0) ∨ (2 ≤ x0 ∧ x1 = x0 - 1))) : x0 = x0 := by omega
theorem o34_222 {x0 x1 : Int} (h0 : 0 ≤ x1) (h1 : x1 ≤ 3) (h2 : 0 ≤ x0) (h3 : x0 ≤ 3) (h4 : x0 = x1) : x0 = x1 := by omega
theorem o34_223 {x0 x1 x2 x3 x4 x5 x6 x7 x8 x9 x10 : Int} (h0 : 0 ≤ x1) (h1 : x1 ≤ 4) (h2 : x2 = 36) (h3 : x3 = x2 + x1) (h4 : x4 = 41) (h5 : x5 = x4 + x1) (h6 : x6 = 41) (h7 : x7 = x6 + x1) (h8 : x8 = 36) (h9 : x0 = x8 + x1) (h10 : x9 = 41) (h11 : x10 = x9 + x1) : 0 ≤ x0 := by omega
theorem o34_224 {x0 x1 x2 x3 x4 x5 x6 x7 x8 x9 x10 : Int} (h0 : 0 ≤ x1) (h1 : x1 ≤ 4) (h2 : x2 = 36) (h3 : x3 = x2 + x1) (h4 : x4 = 41) (h5 : x5 = x4 + x1) (h6 : x6 = 41) (h7 : x7 = x6 + x1) (h8 : x8 = 36) (h9 : x0 = x8 + x1) (h10 : x9 = 41) (h11 : x10 = x9 + x1) : x0 < (5322 : Nat) := by omega
theorem o34_225 : ∀ p, p < 41 → 36 ≤ p → (elAll p).1 ≤ 0 ∧ 24 ≤ (elAll p).2 := by decide +kernel
theorem o34_226 {x0 x1 x2 x3 x4 x5 x6 x7 x8 x9 x10 : Int} (h0 : 0 ≤ x1) (h1 : x1 ≤ 4) (h2 : x2 = 36) (h3 : x3 = x2 + x1) (h4 : x4 = 41) (h5 : x5 = x4 + x1) (h6 : x6 = 41) (h7 : x7 = x6 + x1) (h8 : x8 = 36) (h9 : x0 = x8 + x1) (h10 : x9 = 41) (h11 : x10 = x9 + x1) : (x0).toNat < 41 := by omega
theorem o34_227 {x0 x1 x2 x3 x4 x5 x6 x7 x8 x9 x10 : Int} (h0 : 0 ≤ x1) (h1 : x1 ≤ 4) (h2 : x2 = 36) (h3 : x3 = x2 + x1) (h4 : x4 = 41) (h5 : x5 = x4 + x1) (h6 : x6 = 41) (h7 : x7 = x6 + x1) (h8 : x8 = 36) (h9 : x0 = x8 + x1) (h10 : x9 = 41) (h11 : x10 = x9 + x1) : 36 ≤ (x0).toNat := by omega
theorem o34_228 {x0 : Int} (h0 : (-1) ≤ x0) (h1 : x0 ≤ 24) (h2 : 0 ≤ x0) : 0 ≤ x0 := by omega
theorem o34_229 {x0 : Int} (h0 : (-1) ≤ x0) (h1 : x0 ≤ 24) (h2 : 0 ≤ x0) : x0 ≤ 24 := by omega
theorem o34_230 {x0 x1 x2 x3 x4 x5 x6 x7 x8 x9 x10 : Int} (h0 : 0 ≤ x1) (h1 : x1 ≤ 4) (h2 : x2 = 36) (h3 : x3 = x2 + x1) (h4 : x4 = 41) (h5 : x5 = x4 + x1) (h6 : x6 = 41) (h7 : x7 = x6 + x1) (h8 : x8 = 36) (h9 : x0 = x8 + x1) (h10 : x9 = 41) (h11 : x10 = x9 + x1) : (36 ≤ x0 ∨ x0 = 10) := by omega
theorem o34_231 {x0 x1 x2 x3 x4 x5 x6 x7 x8 x9 x10 : Int} (h0 : 0 ≤ x1) (h1 : x1 ≤ 4) (h2 : x2 = 36) (h3 : x3 = x2 + x1) (h4 : x4 = 41) (h5 : x5 = x4 + x1) (h6 : x6 = 41) (h7 : x7 = x6 + x1) (h8 : x8 = 36) (h9 : x0 = x8 + x1) (h10 : x9 = 41) (h11 : x10 = x9 + x1) : 10 ≤ x0 := by omega
theorem o34_232 {x0 x1 x2 x3 x4 x5 x6 x7 x8 x9 x10 : Int} (h0 : 0 ≤ x1) (h1 : x1 ≤ 4) (h2 : x2 = 36) (h3 : x3 = x2 + x1) (h4 : x4 = 41) (h5 : x5 = x4 + x1) (h6 : x6 = 41) (h7 : x7 = x6 + x1) (h8 : x8 = 36) (h9 : x0 = x8 + x1) (h10 : x9 = 41) (h11 : x10 = x9 + x1) : x0 ≤ 872 := by omega
theorem o34_233 {x0 x1 x2 x3 x4 x5 x6 x7 x8 x9 x10 x11 : Int} (h0 : 0 ≤ x1) (h1 : x1 ≤ 4) (h2 : x2 = 36) (h3 : x3 = x2 + x1) (h4 : x4 = 41) (h5 : x5 = x4 + x1) (h6 : x6 = 41) (h7 : x7 = x6 + x1) (h8 : x8 = 36) (h9 : x9 = x8 + x1) (h10 : x10 = 41) (h11 : x11 = x10 + x1) (h12 : x0 = 46) (h13 : -2147483648 ≤ x0) (h14 : x0 ≤ 2147483647) (h15 : -2147483648 ≤ x1) (h16 : x1 ≤ 2147483647) (h17 : -2147483648 ≤ x2) (h18 : x2 ≤ 2147483647) (h19 : -2147483648 ≤ x3) (h20 : x3 ≤ 2147483647) (h21 : -2147483648 ≤ x4) (h22 : x4 ≤ 2147483647) (h23 : -2147483648 ≤ x5) (h24 : x5 ≤ 2147483647) (h25 : -2147483648 ≤ x6) (h26 : x6 ≤ 2147483647) (h27 : -2147483648 ≤ x7) (h28 : x7 ≤ 2147483647) (h29 : -2147483648 ≤ x8) (h30 : x8 ≤ 2147483647) (h31 : -2147483648 ≤ x9) (h32 : x9 ≤ 2147483647) (h33 : -2147483648 ≤ x10) (h34 : x10 ≤ 2147483647) (h35 : -2147483648 ≤ x11) (h36 : x11 ≤ 2147483647) : -2147483648 ≤ x0 + x1 := by omega
theorem o34_234 {x0 x1 x2 x3 x4 x5 x6 x7 x8 x9 x10 x11 : Int} (h0 : 0 ≤ x1) (h1 : x1 ≤ 4) (h2 : x2 = 36) (h3 : x3 = x2 + x1) (h4 : x4 = 41) (h5 : x5 = x4 + x1) (h6 : x6 = 41) (h7 : x7 = x6 + x1) (h8 : x8 = 36) (h9 : x9 = x8 + x1) (h10 : x10 = 41) (h11 : x11 = x10 + x1) (h12 : x0 = 46) (h13 : -2147483648 ≤ x0) (h14 : x0 ≤ 2147483647) (h15 : -2147483648 ≤ x1) (h16 : x1 ≤ 2147483647) (h17 : -2147483648 ≤ x2) (h18 : x2 ≤ 2147483647) (h19 : -2147483648 ≤ x3) (h20 : x3 ≤ 2147483647) (h21 : -2147483648 ≤ x4) (h22 : x4 ≤ 2147483647) (h23 : -2147483648 ≤ x5) (h24 : x5 ≤ 2147483647) (h25 : -2147483648 ≤ x6) (h26 : x6 ≤ 2147483647) (h27 : -2147483648 ≤ x7) (h28 : x7 ≤ 2147483647) (h29 : -2147483648 ≤ x8) (h30 : x8 ≤ 2147483647) (h31 : -2147483648 ≤ x9) (h32 : x9 ≤ 2147483647) (h33 : -2147483648 ≤ x10) (h34 : x10 ≤ 2147483647) (h35 : -2147483648 ≤ x11) (h36 : x11 ≤ 2147483647) : x0 + x1 ≤ 2147483647 := by omega
theorem o34_235 {x0 x1 x2 x3 x4 x5 x6 x7 x8 x9 x10 x11 x12 : Int} (h0 : 0 ≤ x1) (h1 : x1 ≤ 4) (h2 : x2 = 36) (h3 : x3 = x2 + x1) (h4 : x4 = 41) (h5 : x5 = x4 + x1) (h6 : x6 = 41) (h7 : x7 = x6 + x1) (h8 : x8 = 36) (h9 : x9 = x8 + x1) (h10 : x10 = 41) (h11 : x11 = x10 + x1) (h12 : x12 = 46) (h13 : x0 = x12 + x1) : 0 ≤ x0 := by omega
theorem o34_236 {x0 x1 x2 x3 x4 x5 x6 x7 x8 x9 x10 x11 x12 : Int} (h0 : 0 ≤ x1) (h1 : x1 ≤ 4) (h2 : x2 = 36) (h3 : x3 = x2 + x1) (h4 : x4 = 41) (h5 : x5 = x4 + x1) (h6 : x6 = 41) (h7 : x7 = x6 + x1) (h8 : x8 = 36) (h9 : x9 = x8 + x1) (h10 : x10 = 41) (h11 : x11 = x10 + x1) (h12 : x12 = 46) (h13 : x0 = x12 + x1) : x0 < (5322 : Nat) := by omega
theorem o34_237 {x0 x1 x2 x3 x4 x5 x6 x7 x8 x9 x10 x11 x12 : Int} (h0 : 0 ≤ x1) (h1 : x1 ≤ 4) (h2 : x2 = 36) (h3 : x3 = x2 + x1) (h4 : x4 = 41) (h5 : x5 = x4 + x1) (h6 : x6 = 41) (h7 : x7 = x6 + x1) (h8 : x8 = 36) (h9 : x9 = x8 + x1) (h10 : x10 = 41) (h11 : x11 = x10 + x1) (h12 : x12 = 46) (h13 : x0 = x12 + x1) : (x0).toNat < 51 := by omega
theorem o34_238 {x0 x1 x2 x3 x4 x5 x6 x7 x8 x9 x10 x11 x12 : Int} (h0 : 0 ≤ x1) (h1 : x1 ≤ 4) (h2 : x2 = 36) (h3 : x3 = x2 + x1) (h4 : x4 = 41) (h5 : x5 = x4 + x1) (h6 : x6 = 41) (h7 : x7 = x6 + x1) (h8 : x8 = 36) (h9 : x9 = x8 + x1) (h10 : x10 = 41) (h11 : x11 = x10 + x1) (h12 : x12 = 46) (h13 : x0 = x12 + x1) : 46 ≤ (x0).toNat := by omega
theorem o34_239 {x0 x1 x2 x3 x4 x5 x6 x7 x8 x9 x10 x11 x12 : Int} (h0 : 0 ≤ x1) (h1 : x1 ≤ 4) (h2 : x2 = 36) (h3 : x0 = x2 + x1) (h4 : x3 = 41) (h5 : x4 = x3 + x1) (h6 : x5 = 41) (h7 : x6 = x5 + x1) (h8 : x7 = 36) (h9 : x8 = x7 + x1) (h10 : x9 = 41) (h11 : x10 = x9 + x1) (h12 : x11 = 46) (h13 : x12 = x11 + x1) : (x0).toNat = 36 + (x1).toNat := by omega
theorem o34_240 {x0 x1 x2 x3 x4 x5 x6 x7 x8 x9 x10 x11 x12 : Int} (h0 : 0 ≤ x1) (h1 : x1 ≤ 4) (h2 : x2 = 36) (h3 : x3 = x2 + x1) (h4 : x4 = 41) (h5 : x5 = x4 + x1) (h6 : x6 = 41) (h7 : x7 = x6 + x1) (h8 : x8 = 36) (h9 : x9 = x8 + x1) (h10 : x10 = 41) (h11 : x11 = x10 + x1) (h12 : x12 = 46) (h13 : x0 = x12 + x1) : (x0).toNat = 46 + (x1).toNat := by omega
theorem o34_241 {x0 x1 x2 x3 x4 x5 x6 x7 x8 x9 x10 x11 x12 : Int} (h0 : 0 ≤ x2) (h1 : x2 ≤ 4) (h2 : x3 = 36) (h3 : x4 = x3 + x2) (h4 : x5 = 41) (h5 : x1 = x5 + x2) (h6 : x6 = 41) (h7 : x7 = x6 + x2) (h8 : x8 = 36) (h9 : x9 = x8 + x2) (h10 : x10 = 41) (h11 : x11 = x10 + x2) (h12 : x12 = 46) (h13 : x0 = x12 + x2) : (x0).toNat ≠ (x1).toNat := by omega
theorem o34_242 {x0 x1 x2 x3 x4 x5 x6 x7 x8 x9 x10 x11 x12 : Int} (h0 : 0 ≤ x2) (h1 : x2 ≤ 4) (h2 : x3 = 36) (h3 : x4 = x3 + x2) (h4 : x5 = 41) (h5 : x6 = x5 + x2) (h6 : x7 = 41) (h7 : x8 = x7 + x2) (h8 : x9 = 36) (h9 : x1 = x9 + x2) (h10 : x10 = 41) (h11 : x11 = x10 + x2) (h12 : x12 = 46) (h13 : x0 = x12 + x2) : (x0).toNat ≠ (x1).toNat := by omega
theorem o34_243 {x0 : Int} (h0 : 0 ≤ x0) (h1 : x0 ≤ 1) (h2 : x0 = 0) (h3 : x0 = 1) : False := by omega
theorem o34_244 {x0 x1 x2 : Int} (h0 : 0 ≤ x2) (h1 : x2 ≤ 3) (h2 : 0 ≤ x1) (h3 : x1 ≤ 2) (h4 : ((x2 < 2 ∧ x1 = 0) ∨ (2 ≤ x2 ∧ x1 = x2 - 1))) (h5 : 0 ≤ x0) (h6 : x0 ≤ 99) (h7 : ((x2 < 2 ∧ 0 ≤ x0) ∨ (2 ≤ x2 ∧ x2 - 1 ≤ x0))) (h8 : -2147483648 ≤ x0) (h9 : x0 ≤ 2147483647) (h10 : -2147483648 ≤ x1) (h11 : x1 ≤ 2147483647) (h12 : -2147483648 ≤ x2) (h13 : x2 ≤ 2147483647) : -2147483648 ≤ x0 - x1 := by omega
theorem o34_245 {x0 x1 x2 : Int} (h0 : 0 ≤ x2) (h1 : x2 ≤ 3) (h2 : 0 ≤ x1) (h3 : x1 ≤ 2) (h4 : ((x2 < 2 ∧ x1 = 0) ∨ (2 ≤ x2 ∧ x1 = x2 - 1))) (h5 : 0 ≤ x0) (h6 : x0 ≤ 99) (h7 : ((x2 < 2 ∧ 0 ≤ x0) ∨ (2 ≤ x2 ∧ x2 - 1 ≤ x0))) (h8 : -2147483648 ≤ x0) (h9 : x0 ≤ 2147483647) (h10 : -2147483648 ≤ x1) (h11 : x1 ≤ 2147483647) (h12 : -2147483648 ≤ x2) (h13 : x2 ≤ 2147483647) : x0 - x1 ≤ 2147483647 := by omega
theorem o34_246 : ∀ p, p < 51 → 46 ≤ p → (elAll p).1 ≤ 0 ∧ 99 ≤ (elAll p).2 := by decide +kernel
theorem o34_247 {x0 x1 x2 x3 : Int} (h0 : 0 ≤ x1) (h1 : x1 ≤ 3) (h2 : 0 ≤ x2) (h3 : x2 ≤ 2) (h4 : ((x1 < 2 ∧ x2 = 0) ∨ (2 ≤ x1 ∧ x2 = x1 - 1))) (h5 : 0 ≤ x3) (h6 : x3 ≤ 99) (h7 : ((x1 < 2 ∧ 0 ≤ x3) ∨ (2 ≤ x1 ∧ x1 - 1 ≤ x3))) (h8 : x0 = x3 - x2) : 0 ≤ x0 := by omega
theorem o34_248 {x0 x1 x2 x3 : Int} (h0 : 0 ≤ x1) (h1 : x1 ≤ 3) (h2 : 0 ≤ x2) (h3 : x2 ≤ 2) (h4 : ((x1 < 2 ∧ x2 = 0) ∨ (2 ≤ x1 ∧ x2 = x1 - 1))) (h5 : 0 ≤ x3) (h6 : x3 ≤ 99) (h7 : ((x1 < 2 ∧ 0 ≤ x3) ∨ (2 ≤ x1 ∧ x1 - 1 ≤ x3))) (h8 : x0 = x3 - x2) : x0 ≤ 99 := by omega
theorem o34_249 {x0 x1 x2 x3 x4 x5 x6 x7 x8 x9 x10 x11 x12 : Int} (h0 : 0 ≤ x1) (h1 : x1 ≤ 4) (h2 : x2 = 36) (h3 : x3 = x2 + x1) (h4 : x4 = 41) (h5 : x5 = x4 + x1) (h6 : x6 = 41) (h7 : x7 = x6 + x1) (h8 : x8 = 36) (h9 : x9 = x8 + x1) (h10 : x10 = 41) (h11 : x11 = x10 + x1) (h12 : x12 = 46) (h13 : x0 = x12 + x1) : (36 ≤ x0 ∨ x0 = 10) := by omega
theorem o34_250 {x0 x1 x2 x3 x4 x5 x6 x7 x8 x9 x10 x11 x12 : Int} (h0 : 0 ≤ x1) (h1 : x1 ≤ 4) (h2 : x2 = 36) (h3 : x3 = x2 + x1) (h4 : x4 = 41) (h5 : x5 = x4 + x1) (h6 : x6 = 41) (h7 : x7 = x6 + x1) (h8 : x8 = 36) (h9 : x9 = x8 + x1) (h10 : x10 = 41) (h11 : x11 = x10 + x1) (h12 : x12 = 46) (h13 : x0 = x12 + x1) : 10 ≤ x0 := by omega
theorem o34_251 {x0 x1 x2 x3 x4 x5 x6 x7 x8 x9 x10 x11 x12 : Int} (h0 : 0 ≤ x1) (h1 : x1 ≤ 4) (h2 : x2 = 36) (h3 : x3 = x2 + x1) (h4 : x4 = 41) (h5 : x5 = x4 + x1) (h6 : x6 = 41) (h7 : x7 = x6 + x1) (h8 : x8 = 36) (h9 : x9 = x8 + x1) (h10 : x10 = 41) (h11 : x11 = x10 + x1) (h12 : x12 = 46) (h13 : x0 = x12 + x1) : x0 ≤ 872 := by omega
theorem o34_252 {x0 x1 x2 x3 x4 x5 x6 x7 x8 x9 x10 x11 x12 x13 : Int} (h0 : 0 ≤ x1) (h1 : x1 ≤ 4) (h2 : x2 = 36) (h3 : x3 = x2 + x1) (h4 : x4 = 41) (h5 : x5 = x4 + x1) (h6 : x6 = 41) (h7 : x7 = x6 + x1) (h8 : x8 = 36) (h9 : x9 = x8 + x1) (h10 : x10 = 41) (h11 : x11 = x10 + x1) (h12 : x12 = 46) (h13 : x13 = x12 + x1) (h14 : x0 = 56) (h15 : -2147483648 ≤ x0) (h16 : x0 ≤ 2147483647) (h17 : -2147483648 ≤ x1) (h18 : x1 ≤ 2147483647) (h19 : -2147483648 ≤ x2) (h20 : x2 ≤ 2147483647) (h21 : -2147483648 ≤ x3) (h22 : x3 ≤ 2147483647) (h23 : -2147483648 ≤ x4) (h24 : x4 ≤ 2147483647) (h25 : -2147483648 ≤ x5) (h26 : x5 ≤ 2147483647) (h27 : -2147483648 ≤ x6) (h28 : x6 ≤ 2147483647) (h29 : -2147483648 ≤ x7) (h30 : x7 ≤ 2147483647) (h31 : -2147483648 ≤ x8) (h32 : x8 ≤ 2147483647) (h33 : -2147483648 ≤ x9) (h34 : x9 ≤ 2147483647) (h35 : -2147483648 ≤ x10) (h36 : x10 ≤ 2147483647) (h37 : -2147483648 ≤ x11) (h38 : x11 ≤ 2147483647) (h39 : -2147483648 ≤ x12) (h40 : x12 ≤ 2147483647) (h41 : -2147483648 ≤ x13) (h42 : x13 ≤ 2147483647) : -2147483648 ≤ x0 + x1 := by omega
theorem o34_253 {x0 x1 x2 x3 x4 x5 x6 x7 x8 x9 x10 x11 x12 x13 : Int} (h0 : 0 ≤ x1) (h1 : x1 ≤ 4) (h2 : x2 = 36) (h3 : x3 = x2 + x1) (h4 : x4 = 41) (h5 : x5 = x4 + x1) (h6 : x6 = 41) (h7 : x7 = x6 + x1) (h8 : x8 = 36) (h9 : x9 = x8 + x1) (h10 : x10 = 41) (h11 : x11 = x10 + x1) (h12 : x12 = 46) (h13 : x13 = x12 + x1) (h14 : x0 = 56) (h15 : -2147483648 ≤ x0) (h16 : x0 ≤ 2147483647) (h17 : -2147483648 ≤ x1) (h18 : x1 ≤ 2147483647) (h19 : -2147483648 ≤ x2) (h20 : x2 ≤ 2147483647) (h21 : -2147483648 ≤ x3) (h22 : x3 ≤ 2147483647) (h23 : -2147483648 ≤ x4) (h24 : x4 ≤ 2147483647) (h25 : -2147483648 ≤ x5) (h26 : x5 ≤ 2147483647) (h27 : -2147483648 ≤ x6) (h28 : x6 ≤ 2147483647) (h29 : -2147483648 ≤ x7) (h30 : x7 ≤ 2147483647) (h31 : -2147483648 ≤ x8) (h32 : x8 ≤ 2147483647) (h33 : -2147483648 ≤ x9) (h34 : x9 ≤ 2147483647) (h35 : -2147483648 ≤ x10) (h36 : x10 ≤ 2147483647) (h37 : -2147483648 ≤ x11) (h38 : x11 ≤ 2147483647) (h39 : -2147483648 ≤ x12) (h40 : x12 ≤ 2147483647) (h41 : -2147483648 ≤ x13) (h42 : x13 ≤ 2147483647) : x0 + x1 ≤ 2147483647 := by omega
theorem o34_254 {x0 x1 x2 x3 x4 x5 x6 x7 x8 x9 x10 x11 x12 x13 x14 x15 : Int} (h0 : 0 ≤ x1) (h1 : x1 ≤ 4) (h2 : x2 = 36) (h3 : x3 = x2 + x1) (h4 : x4 = 41) (h5 : x5 = x4 + x1) (h6 : x6 = 41) (h7 : x7 = x6 + x1) (h8 : x8 = 36) (h9 : x9 = x8 + x1) (h10 : x10 = 41) (h11 : x11 = x10 + x1) (h12 : x12 = 46) (h13 : x13 = x12 + x1) (h14 : x14 = 56) (h15 : x15 = x14 + x1) (h16 : x0 = 56) (h17 : -2147483648 ≤ x0) (h18 : x0 ≤ 2147483647) (h19 : -2147483648 ≤ x1) (h20 : x1 ≤ 2147483647) (h21 : -2147483648 ≤ x2) (h22 : x2 ≤ 2147483647) (h23 : -2147483648 ≤ x3) (h24 : x3 ≤ 2147483647) (h25 : -2147483648 ≤ x4) (h26 : x4 ≤ 2147483647) (h27 : -2147483648 ≤ x5) (h28 : x5 ≤ 2147483647) (h29 : -2147483648 ≤ x6) (h30 : x6 ≤ 2147483647) (h31 : -2147483648 ≤ x7) (h32 : x7 ≤ 2147483647) (h33 : -2147483648 ≤ x8) (h34 : x8 ≤ 2147483647) (h35 : -2147483648 ≤ x9) (h36 : x9 ≤ 2147483647) (h37 : -2147483648 ≤ x10) (h38 : x10 ≤ 2147483647) (h39 : -2147483648 ≤ x11) (h40 : x11 ≤ 2147483647) (h41 : -2147483648 ≤ x12) (h42 : x12 ≤ 2147483647) (h43 : -2147483648 ≤ x13) (h44 : x13 ≤ 2147483647) (h45 : -2147483648 ≤ x14) (h46 : x14 ≤ 2147483647) (h47 : -2147483648 ≤ x15) (h48 : x15 ≤ 2147483647) : -2147483648 ≤ x0 + x1 := by omega
theorem o34_255 {x0 x1 x2 x3 x4 x5 x6 x7 x8 x9 x10 x11 x12 x13 x14 x15 : Int} (h0 : 0 ≤ x1) (h1 : x1 ≤ 4) (h2 : x2 = 36) (h3 : x3 = x2 + x1) (h4 : x4 = 41) (h5 : x5 = x4 + x1) (h6 : x6 = 41) (h7 : x7 = x6 + x1) (h8 : x8 = 36) (h9 : x9 = x8 + x1) (h10 : x10 = 41) (h11 : x11 = x10 + x1) (h12 : x12 = 46) (h13 : x13 = x12 + x1) (h14 : x14 = 56) (h15 : x15 = x14 + x1) (h16 : x0 = 56) (h17 : -2147483648 ≤ x0) (h18 : x0 ≤ 2147483647) (h19 : -2147483648 ≤ x1) (h20 : x1 ≤ 2147483647) (h21 : -2147483648 ≤ x2) (h22 : x2 ≤ 2147483647) (h23 : -2147483648 ≤ x3) (h24 : x3 ≤ 2147483647) (h25 : -2147483648 ≤ x4) (h26 : x4 ≤ 2147483647) (h27 : -2147483648 ≤ x5) (h28 : x5 ≤ 2147483647) (h29 : -2147483648 ≤ x6) (h30 : x6 ≤ 2147483647) (h31 : -2147483648 ≤ x7) (h32 : x7 ≤ 2147483647) (h33 : -2147483648 ≤ x8) (h34 : x8 ≤ 2147483647) (h35 : -2147483648 ≤ x9) (h36 : x9 ≤ 2147483647) (h37 : -2147483648 ≤ x10) (h38 : x10 ≤ 2147483647) (h39 : -2147483648 ≤ x11) (h40 : x11 ≤ 2147483647) (h41 : -2147483648 ≤ x12) (h42 : x12 ≤ 2147483647) (h43 : -2147483648 ≤ x13) (h44 : x13 ≤ 2147483647) (h45 : -2147483648 ≤ x14) (h46 : x14 ≤ 2147483647) (h47 : -2147483648 ≤ x15) (h48 : x15 ≤ 2147483647) : x0 + x1 ≤ 2147483647 := by omega
theorem o34_256 {x0 x1 x2 x3 x4 x5 x6 x7 x8 x9 x10 x11 x12 x13 x14 x15 x16 : Int} (h0 : 0 ≤ x1) (h1 : x1 ≤ 4) (h2 : x2 = 36) (h3 : x3 = x2 + x1) (h4 : x4 = 41) (h5 : x5 = x4 + x1) (h6 : x6 = 41) (h7 : x7 = x6 + x1) (h8 : x8 = 36) (h9 : x9 = x8 + x1) (h10 : x10 = 41) (h11 : x11 = x10 + x1) (h12 : x12 = 46) (h13 : x13 = x12 + x1) (h14 : x14 = 56) (h15 : x15 = x14 + x1) (h16 : x16 = 56) (h17 : x0 = x16 + x1) : 0 ≤ x0 := by omega
theorem o34_257 {x0 x1 x2 x3 x4 x5 x6 x7 x8 x9 x10 x11 x12 x13 x14 x15 x16 : Int} (h0 : 0 ≤ x1) (h1 : x1 ≤ 4) (h2 : x2 = 36) (h3 : x3 = x2 + x1) (h4 : x4 = 41) (h5 : x5 = x4 + x1) (h6 : x6 = 41) (h7 : x7 = x6 + x1) (h8 : x8 = 36) (h9 : x9 = x8 + x1) (h10 : x10 = 41) (h11 : x11 = x10 + x1) (h12 : x12 = 46) (h13 : x13 = x12 + x1) (h14 : x14 = 56) (h15 : x15 = x14 + x1) (h16 : x16 = 56) (h17 : x0 = x16 + x1) : x0 < (5322 : Nat) := by omega
theorem o34_258 {x0 x1 x2 x3 x4 x5 x6 x7 x8 x9 x10 x11 x12 x13 x14 x15 x16 : Int} (h0 : 0 ≤ x1) (h1 : x1 ≤ 4) (h2 : x2 = 36) (h3 : x3 = x2 + x1) (h4 : x4 = 41) (h5 : x5 = x4 + x1) (h6 : x6 = 41) (h7 : x7 = x6 + x1) (h8 : x8 = 36) (h9 : x9 = x8 + x1) (h10 : x10 = 41) (h11 : x11 = x10 + x1) (h12 : x12 = 46) (h13 : x13 = x12 + x1) (h14 : x14 = 56) (h15 : x0 = x14 + x1) (h16 : x15 = 56) (h17 : x16 = x15 + x1) : 0 ≤ x0 := by omega
theorem o34_259 {x0 x1 x2 x3 x4 x5 x6 x7 x8 x9 x10 x11 x12 x13 x14 x15 x16 : Int} (h0 : 0 ≤ x1) (h1 : x1 ≤ 4) (h2 : x2 = 36) (h3 : x3 = x2 + x1) (h4 : x4 = 41) (h5 : x5 = x4 + x1) (h6 : x6 = 41) (h7 : x7 = x6 + x1) (h8 : x8 = 36) (h9 : x9 = x8 + x1) (h10 : x10 = 41) (h11 : x11 = x10 + x1) (h12 : x12 = 46) (h13 : x13 = x12 + x1) (h14 : x14 = 56) (h15 : x0 = x14 + x1) (h16 : x15 = 56) (h17 : x16 = x15 + x1) : x0 < (5322 : Nat) := by omega
theorem o34_260 : ∀ p, p < 61 → 56 ≤ p → (elAll p).1 ≤ (-2147483648) ∧ 2147483647 ≤ (elAll p).2 := by decide +kernel
theorem o34_261 {x0 x1 x2 x3 x4 x5 x6 x7 x8 x9 x10 x11 x12 x13 x14 x15 x16 : Int} (h0 : 0 ≤ x1) (h1 : x1 ≤ 4) (h2 : x2 = 36) (h3 : x3 = x2 + x1) (h4 : x4 = 41) (h5 : x5 = x4 + x1) (h6 : x6 = 41) (h7 : x7 = x6 + x1) (h8 : x8 = 36) (h9 : x9 = x8 + x1) (h10 : x10 = 41) (h11 : x11 = x10 + x1) (h12 : x12 = 46) (h13 : x13 = x12 + x1) (h14 : x14 = 56) (h15 : x0 = x14 + x1) (h16 : x15 = 56) (h17 : x16 = x15 + x1) : (x0).toNat < 61 := by omega
theorem o34_262 {x0 x1 x2 x3 x4 x5 x6 x7 x8 x9 x10 x11 x12 x13 x14 x15 x16 : Int} (h0 : 0 ≤ x1) (h1 : x1 ≤ 4) (h2 : x2 = 36) (h3 : x3 = x2 + x1) (h4 : x4 = 41) (h5 : x5 = x4 + x1) (h6 : x6 = 41) (h7 : x7 = x6 + x1) (h8 : x8 = 36) (h9 : x9 = x8 + x1) (h10 : x10 = 41) (h11 : x11 = x10 + x1) (h12 : x12 = 46) (h13 : x13 = x12 + x1) (h14 : x14 = 56) (h15 : x0 = x14 + x1) (h16 : x15 = 56) (h17 : x16 = x15 + x1) : 56 ≤ (x0).toNat := by omega
theorem o34_263 {x0 x1 x2 x3 x4 x5 x6 x7 x8 x9 x10 x11 x12 x13 x14 x15 x16 : Int} (h0 : 0 ≤ x1) (h1 : x1 ≤ 4) (h2 : x2 = 36) (h3 : x3 = x2 + x1) (h4 : x4 = 41) (h5 : x5 = x4 + x1) (h6 : x6 = 41) (h7 : x7 = x6 + x1) (h8 : x8 = 36) (h9 : x9 = x8 + x1) (h10 : x10 = 41) (h11 : x11 = x10 + x1) (h12 : x12 = 46) (h13 : x13 = x12 + x1) (h14 : x14 = 56) (h15 : x0 = x14 + x1) (h16 : x15 = 56) (h17 : x16 = x15 + x1) : (36 ≤ x0 ∨ x0 = 10) := by omega
theorem o34_264 {x0 x1 x2 x3 x4 x5 x6 x7 x8 x9 x10 x11 x12 x13 x14 x15 x16 : Int} (h0 : 0 ≤ x1) (h1 : x1 ≤ 4) (h2 : x2 = 36) (h3 : x3 = x2 + x1) (h4 : x4 = 41) (h5 : x5 = x4 + x1) (h6 : x6 = 41) (h7 : x7 = x6 + x1) (h8 : x8 = 36) (h9 : x9 = x8 + x1) (h10 : x10 = 41) (h11 : x11 = x10 + x1) (h12 : x12 = 46) (h13 : x13 = x12 + x1) (h14 : x14 = 56) (h15 : x0 = x14 + x1) (h16 : x15 = 56) (h17 : x16 = x15 + x1) : 10 ≤ x0 := by omega
theorem o34_265 {x0 x1 x2 x3 x4 x5 x6 x7 x8 x9 x10 x11 x12 x13 x14 x15 x16 : Int} (h0 : 0 ≤ x1) (h1 : x1 ≤ 4) (h2 : x2 = 36) (h3 : x3 = x2 + x1) (h4 : x4 = 41) (h5 : x5 = x4 + x1) (h6 : x6 = 41) (h7 : x7 = x6 + x1) (h8 : x8 = 36) (h9 : x9 = x8 + x1) (h10 : x10 = 41) (h11 : x11 = x10 + x1) (h12 : x12 = 46) (h13 : x13 = x12 + x1) (h14 : x14 = 56) (h15 : x0 = x14 + x1) (h16 : x15 = 56) (h17 : x16 = x15 + x1) : x0 ≤ 872 := by omega
theorem o34_266 {x0 : Int} (h0 : x0 = 111) : 0 ≤ x0 := by omega
theorem o34_267 {x0 : Int} (h0 : x0 = 111) : x0 < (5322 : Nat) := by omega
theorem o34_268 {x0 : Int} (h0 : x0 = 111) : x0 = ((111 : Nat) : Int) := by omega
theorem o34_269 : ∀ p, p < 112 → 111 ≤ p → (elAll p).1 ≤ (-2147483648) ∧ 2147483647 ≤ (elAll p).2 := by decide +kernel
theorem o34_270 {x0 : Int} (h0 : x0 = 111) : (x0).toNat < 112 := by omega
theorem o34_271 {x0 : Int} (h0 : x0 = 111) : 111 ≤ (x0).toNat := by omega
theorem o34_272 {x0 : Int} (h0 : x0 = 111) : (36 ≤ x0 ∨ x0 = 10) := by omega
theorem o34_273 {x0 : Int} (h0 : x0 = 111) : 10 ≤ x0 := by omega
theorem o34_274 {x0 : Int} (h0 : x0 = 111) : x0 ≤ 872 := by omega
theorem o34_275 {x0 x1 x2 x3 : Int} (h0 : 0 ≤ x1) (h1 : x1 ≤ 3) (h2 : 0 ≤ x0) (h3 : x0 ≤ 2) (h4 : ((x1 < 2 ∧ x0 = 0) ∨ (2 ≤ x1 ∧ x0 = x1 - 1))) (h5 : 0 ≤ x2) (h6 : x2 ≤ 99) (h7 : ((x1 < 2 ∧ 0 ≤ x2) ∨ (2 ≤ x1 ∧ x1 - 1 ≤ x2))) (h8 : x3 = x2 - x0) : 0 ≤ x0 := by omega
theorem o34_276 {x0 x1 x2 x3 : Int} (h0 : 0 ≤ x1) (h1 : x1 ≤ 3) (h2 : 0 ≤ x0) (h3 : x0 ≤ 2) (h4 : ((x1 < 2 ∧ x0 = 0) ∨ (2 ≤ x1 ∧ x0 = x1 - 1))) (h5 : 0 ≤ x2) (h6 : x2 ≤ 99) (h7 : ((x1 < 2 ∧ 0 ≤ x2) ∨ (2 ≤ x1 ∧ x1 - 1 ≤ x2))) (h8 : x3 = x2 - x0) : x0 ≤ 2 := by omega
theorem o34_277 {x0 : Int} (h0 : 0 ≤ x0) (h1 : x0 ≤ 3) : x0 = x0 := by omega
theorem o34_278 {x0 x1 : Int} (h0 : x1 = 0) (h1 : 0 ≤ x0) (h2 : x0 ≤ 99) (h3 : -2147483648 ≤ x0) (h4 : x0 ≤ 2147483647) (h5 : -2147483648 ≤ x1) (h6 : x1 ≤ 2147483647) : -2147483648 ≤ x0 - x1 := by omega
theorem o34_279 {x0 x1 : Int} (h0 : x1 = 0) (h1 : 0 ≤ x0) (h2 : x0 ≤ 99) (h3 : -2147483648 ≤ x0) (h4 : x0 ≤ 2147483647) (h5 : -2147483648 ≤ x1) (h6 : x1 ≤ 2147483647) : x0 - x1 ≤ 2147483647 := by omega
theorem o34_280 {x0 x1 x2 : Int} (h0 : x1 = 0) (h1 : 0 ≤ x2) (h2 : x2 ≤ 99) (h3 : x0 = x2 - x1) : 0 ≤ x0 := by omega
theorem o34_281 {x0 x1 x2 : Int} (h0 : x1 = 0) (h1 : 0 ≤ x2) (h2 : x2 ≤ 99) (h3 : x0 = x2 - x1) : x0 ≤ 99 := by omega
theorem o34_282 {x0 x1 x2 x3 : Int} (h0 : x1 = 0) (h1 : 0 ≤ x2) (h2 : x2 ≤ 99) (h3 : x3 = x2 - x1) (h4 : -2147483648 ≤ x0) (h5 : x0 ≤ 2147483647) (h6 : -2147483648 ≤ x1) (h7 : x1 ≤ 2147483647) (h8 : -2147483648 ≤ x2) (h9 : x2 ≤ 2147483647) (h10 : -2147483648 ≤ x3) (h11 : x3 ≤ 2147483647) : -2147483648 ≤ x0 + x1 := by omega
theorem o34_283 {x0 x1 x2 x3 : Int} (h0 : x1 = 0) (h1 : 0 ≤ x2) (h2 : x2 ≤ 99) (h3 : x3 = x2 - x1) (h4 : -2147483648 ≤ x0) (h5 : x0 ≤ 2147483647) (h6 : -2147483648 ≤ x1) (h7 : x1 ≤ 2147483647) (h8 : -2147483648 ≤ x2) (h9 : x2 ≤ 2147483647) (h10 : -2147483648 ≤ x3) (h11 : x3 ≤ 2147483647) : x0 + x1 ≤ 2147483647 := by omega
theorem o34_284 {x0 x1 x2 x3 x4 x5 x6 : Int} (h0 : x0 = 0) (h1 : 0 ≤ x1) (h2 : x1 ≤ 99) (h3 : x2 = x1 - x0) (h4 : x3 = 999) (h5 : x4 = x5 + x0) (h6 : (x6 = x3 ∨ x6 = x4)) (h7 : x6 ≤ x3 ∧ x6 ≤ x4) : 0 ≤ x0 := by omega
theorem o34_285 {x0 x1 x2 x3 x4 x5 x6 : Int} (h0 : x0 = 0) (h1 : 0 ≤ x1) (h2 : x1 ≤ 99) (h3 : x2 = x1 - x0) (h4 : x3 = 999) (h5 : x4 = x5 + x0) (h6 : (x6 = x3 ∨ x6 = x4)) (h7 : x6 ≤ x3 ∧ x6 ≤ x4) : x0 ≤ 2 := by omega
set_option maxHeartbeats 4000000 in
set_option maxRecDepth 100000 in
theorem c_X12_streetsFrom (l : Launch) (G : GG) (Z : RZ) (ad : Nat → Nat) (ws0 : va_W) (hT : Ty G (SM tt) ad ws0) (a1 : Int32) (l1 : 0 ≤ a1.toInt) (u1 : a1.toInt ≤ 24) (hLd : Laid ws0) : Mq l yX12_streetsFrom cX12_streetsFrom 4 (some .int) 4 G Z [.ref (ad 0), .int a1] ws0 (PI G (SM tt) ad [] ws0 (fun r u => True)) := by
  refine Mq.start (by decide) (Nat.le_of_ble_eq_true rfl) ?_
  intro p e s m below meth c A ls C0 hZ h hl
  have hl : lv_has ls 4 [(0, .ref (ad 0)), (1, .int a1)] := hl
  have h : Wt G (SM tt) ad A s s.heap [] ws0 := ⟨h, hT⟩
  obtain ⟨args, hargs⟩ : ∃ z, z = ([.ref (ad 0), .int a1] : List Value).toArray := ⟨_, rfl⟩
  rw [← hargs] at C0 ⊢
  have C0 : Cx p s m args meth c RX12 cX12_streetsFrom 4 (some .int) := C0
  obtain ⟨Q, hQ⟩ : ∃ z, z = MQ below ((PI G (SM tt) ad [] ws0 (fun r u => True)) A) args s 0 0 A := ⟨_, rfl⟩
  rw [← hQ]
  refine y_c1 (n := 0) C0 (by decide) dX12_streetsFrom_0 (fun v_1 e_2 => ?_)
  refine lv_istore_n (lv' := [(2, .int v_1), (0, .ref (ad 0)), (1, .int a1)]) C0.1 C0.2.1 dX12_streetsFrom_1 rfl hl (by decide) rfl (fun ls hl => ?_)
  refine y_c1 (n := 0) C0 (by decide) dX12_streetsFrom_2 (fun v_3 e_4 => ?_)
  refine lv_istore_n (lv' := [(3, .int v_3), (2, .int v_1), (0, .ref (ad 0)), (1, .int a1)]) C0.1 C0.2.1 dX12_streetsFrom_3 rfl hl (by decide) rfl (fun ls hl => ?_)
  have lp_9 : ∀ (n_11 : Nat) (x3_5 : Int32) (x2_6 : Int32) (H : Heap) (locs : List Loc) (ls : Array Slot) (ws_7 : va_W), 4 - x3_5.toInt < (n_11 : Int) → 0 ≤ x3_5.toInt → x3_5.toInt ≤ 4 → Wt G (SM tt) ad A s H locs ws_7 → Fr (SM tt) [] ws0 ws_7 → lv_has ls 4 [(3, .int x3_5), (2, .int x2_6), (0, .ref (ad 0)), (1, .int a1)] → W p l e (rmd 4 0 0) s m args below meth c H locs 0 0 Q (F0 m 4 ls []) := by
    intro n_11
    induction n_11 with
    | zero => intro x3_5 x2_6 H locs ls ws_7 hn_12 b_13 b_14 h hF_8 hl; exact ((o34_1 b_13 b_14 hn_12)).elim
    | succ n_11 ih_10 =>
      intro x3_5 x2_6 H locs ls ws_7 hn_12 b_13 b_14 h hF_8 hl
      refine lv_iload_n C0.1 C0.2.1 dX12_streetsFrom_4 rfl (lv_at hl 0 rfl) ?_
      refine y_c1 (n := 4) C0 (by decide) dX12_streetsFrom_5 (fun v_15 e_16 => ?_)
      refine y_icmp_ge (tgt := 33) C0 dX12_streetsFrom_6 (by decide) (fun c_17 => ?_) (fun c_17 => ?_)
      · -- 6
        refine lv_iload_n C0.1 C0.2.1 dX12_streetsFrom_33 rfl (lv_at hl 1 rfl) ?_
        rw [hQ]
        exact y_iret C0 h hF_8 trivial dX12_streetsFrom_34
      · -- 6
        refine lv_iload_n C0.1 C0.2.1 dX12_streetsFrom_9 rfl (lv_at hl 1 rfl) ?_
        refine lv_aload_n C0.1 C0.2.1 dX12_streetsFrom_10 rfl (lv_at hl 2 rfl) ?_
        refine lv_iload_n C0.1 C0.2.1 dX12_streetsFrom_11 rfl (lv_at hl 3 rfl) ?_
        refine lv_iload_n C0.1 C0.2.1 dX12_streetsFrom_12 rfl (lv_at hl 0 rfl) ?_
        refine y_ci h (y_rV (As := [.int a1, .int x3_5]) (rest := [.int x2_6]) C0 hZ h (c_X12_streetFrom l G Z ad _ h.2 a1 x3_5 (o34_2 l1 u1) (o34_3 l1 u1) (o34_4 b_13 b_14 hn_12 e_16 c_17) (o34_5 b_13 b_14 hn_12 e_16 c_17) (Laid.pa hLd (Pa.fr hF_8 (by decide)))) k_X12_streetFrom q_1713 q_80 q_1711 kSM_0 rfl rfl rfl hl.1 rfl rfl (Nat.le_of_ble_eq_true rfl) dX12_streetsFrom_13 ⟨Nat.le_of_ble_eq_true rfl, Nat.le_of_ble_eq_true rfl⟩ ⟨Nat.le_of_ble_eq_true rfl, Nat.le_of_ble_eq_true rfl⟩) (fun r_21 H locs ws_18 h u_19 p_20 => ?_)
        obtain ⟨e_22, e_23, e_24⟩ := p_20
        refine y_c1 (n := (-1)) C0 (by decide) dX12_streetsFrom_16 (fun v_25 e_26 => ?_)
        refine y_icmp_ne (tgt := 24) C0 dX12_streetsFrom_17 (by decide) (fun c_27 => ?_) (fun c_27 => ?_)
        · -- 17
          refine y_c1 (n := 1) C0 (by decide) dX12_streetsFrom_24 (fun v_28 e_29 => ?_)
          refine y_iaddU C0 dX12_streetsFrom_25 (fun v_30 => ?_)
          refine lv_istore_n (lv' := [(2, .int v_30), (3, .int x3_5), (0, .ref (ad 0)), (1, .int a1)]) C0.1 C0.2.1 dX12_streetsFrom_26 rfl hl (by decide) rfl (fun ls hl => ?_)
          refine y_inc (kp := 1) (n := 1) (fun v_31 => [(3, .int v_31), (2, .int v_30), (0, .ref (ad 0)), (1, .int a1)]) C0 hl rfl (by decide) (by decide) (fun _ => rfl) (o34_6 b_13 b_14 hn_12 e_16 c_17 (le_min x3_5) (le_max x3_5) (le_min v_15) (le_max v_15)) (o34_7 b_13 b_14 hn_12 e_16 c_17 (le_min x3_5) (le_max x3_5) (le_min v_15) (le_max v_15)) dX12_streetsFrom_27 (fun v_31 ls e_32 hl => ?_)
          refine lv_goto (tgt := 4) C0.1 C0.2.1 dX12_streetsFrom_30 (by decide) ?_
          exact ih_10 v_31 v_30 _ _ _ _ (o34_8 b_13 b_14 hn_12 e_16 c_17 e_32) (o34_9 b_13 b_14 hn_12 e_16 c_17 e_32) (o34_10 b_13 b_14 hn_12 e_16 c_17 e_32) h (Fr.tr hF_8 u_19) (lv_sub hl [0, 1, 2, 3] rfl)
        · -- 17
          refine y_c1 (n := 0) C0 (by decide) dX12_streetsFrom_20 (fun v_33 e_34 => ?_)
          refine lv_goto (tgt := 25) C0.1 C0.2.1 dX12_streetsFrom_21 (by decide) ?_
          refine y_add C0 (o34_11 e_34 (le_min x2_6) (le_max x2_6) (le_min v_33) (le_max v_33)) (o34_12 e_34 (le_min x2_6) (le_max x2_6) (le_min v_33) (le_max v_33)) dX12_streetsFrom_25 (fun v_35 e_36 => ?_)
          refine lv_istore_n (lv' := [(2, .int v_35), (3, .int x3_5), (0, .ref (ad 0)), (1, .int a1)]) C0.1 C0.2.1 dX12_streetsFrom_26 rfl hl (by decide) rfl (fun ls hl => ?_)
          refine y_inc (kp := 1) (n := 1) (fun v_37 => [(3, .int v_37), (2, .int v_35), (0, .ref (ad 0)), (1, .int a1)]) C0 hl rfl (by decide) (by decide) (fun _ => rfl) (o34_6 b_13 b_14 hn_12 e_16 c_17 (le_min x3_5) (le_max x3_5) (le_min v_15) (le_max v_15)) (o34_7 b_13 b_14 hn_12 e_16 c_17 (le_min x3_5) (le_max x3_5) (le_min v_15) (le_max v_15)) dX12_streetsFrom_27 (fun v_37 ls e_38 hl => ?_)
          refine lv_goto (tgt := 4) C0.1 C0.2.1 dX12_streetsFrom_30 (by decide) ?_
          exact ih_10 v_37 v_35 _ _ _ _ (o34_8 b_13 b_14 hn_12 e_16 c_17 e_38) (o34_9 b_13 b_14 hn_12 e_16 c_17 e_38) (o34_10 b_13 b_14 hn_12 e_16 c_17 e_38) h (Fr.tr hF_8 u_19) (lv_sub hl [0, 1, 2, 3] rfl)
  exact lp_9 ((4 - v_3.toInt + 1).toNat) v_3 v_1 _ _ _ _ (o34_13 e_4) (o34_14 e_4) (o34_15 e_4) h Fr.rf (lv_sub hl [0, 1, 2, 3] rfl)
set_option maxHeartbeats 4000000 in
set_option maxRecDepth 100000 in
theorem c_X12_areThere (l : Launch) (G : GG) (Z : RZ) (ad : Nat → Nat) (ws0 : va_W) (hT : Ty G (SM tt) ad ws0) (a1 : Int32) (a2 : Int32) (hJ : J ws0) : Mq l yX12_areThere cX12_areThere 3 (some .boolean) 3 G Z [.ref (ad 0), .int a1, .int a2] ws0 (PI G (SM tt) ad [] ws0 (fun r u => (0 ≤ r.toInt) ∧ (r.toInt ≤ 1) ∧ ((r.toInt = 0 ∨ (0 ≤ a1.toInt ∧ a1.toInt ≤ 4 ∧ 0 ≤ a2.toInt ∧ a2.toInt ≤ 24))) ∧ (r.toInt = 0 ∨ Laid ws0))) := by
  refine Mq.start (by decide) (Nat.le_of_ble_eq_true rfl) ?_
  intro p e s m below meth c A ls C0 hZ h hl
  have hl : lv_has ls 3 [(0, .ref (ad 0)), (1, .int a1), (2, .int a2)] := hl
  have h : Wt G (SM tt) ad A s s.heap [] ws0 := ⟨h, hT⟩
  obtain ⟨args, hargs⟩ : ∃ z, z = ([.ref (ad 0), .int a1, .int a2] : List Value).toArray := ⟨_, rfl⟩
  rw [← hargs] at C0 ⊢
  have C0 : Cx p s m args meth c RX12 cX12_areThere 3 (some .boolean) := C0
  obtain ⟨Q, hQ⟩ : ∃ z, z = MQ below ((PI G (SM tt) ad [] ws0 (fun r u => (0 ≤ r.toInt) ∧ (r.toInt ≤ 1) ∧ ((r.toInt = 0 ∨ (0 ≤ a1.toInt ∧ a1.toInt ≤ 4 ∧ 0 ≤ a2.toInt ∧ a2.toInt ≤ 24))) ∧ (r.toInt = 0 ∨ Laid ws0))) A) args s 0 0 A := ⟨_, rfl⟩
  rw [← hQ]
  refine lv_aload_n C0.1 C0.2.1 dX12_areThere_0 rfl (lv_at hl 0 rfl) ?_
  refine lv_iload_n C0.1 C0.2.1 dX12_areThere_1 rfl (lv_at hl 1 rfl) ?_
  refine y_i2l C0 dX12_areThere_2 (fun w_1 e_2 => ?_)
  refine y_ci h (y_rV (As := [.long w_1]) (rest := []) C0 hZ h (c_X12_isPerson l G Z ad _ h.2 w_1 hJ) k_X12_isPerson q_1693 q_77 q_1691 kSM_0 rfl rfl rfl hl.1 rfl rfl (Nat.le_of_ble_eq_true rfl) dX12_areThere_3 ⟨Nat.le_of_ble_eq_true rfl, Nat.le_of_ble_eq_true rfl⟩ ⟨Nat.le_of_ble_eq_true rfl, Nat.le_of_ble_eq_true rfl⟩) (fun r_6 H locs ws_3 h u_4 p_5 => ?_)
  obtain ⟨e_7, e_8, e_9, e_10⟩ := p_5
  refine y_if_eq (tgt := 22) C0 dX12_areThere_6 (by decide) (fun c_11 => ?_) (fun c_11 => ?_)
  · -- 6
    refine y_c1 (n := 0) C0 (by decide) dX12_areThere_22 (fun v_12 e_13 => ?_)
    rw [hQ]
    exact y_zret C0 h (o34_14 e_13) (o34_16 e_13) u_4 ⟨(o34_14 e_13), (o34_16 e_13), (o34_17 e_2 e_7 e_8 e_9 c_11 e_13), (Or.inl (o34_18 e_13))⟩ dX12_areThere_23
  · -- 6
    refine lv_aload_n C0.1 C0.2.1 dX12_areThere_9 rfl (lv_at hl 0 rfl) ?_
    refine lv_iload_n C0.1 C0.2.1 dX12_areThere_10 rfl (lv_at hl 2 rfl) ?_
    refine y_i2l C0 dX12_areThere_11 (fun w_14 e_15 => ?_)
    refine y_ci h (y_rV (As := [.long w_14]) (rest := []) C0 hZ h (c_X12_isCrossing l G Z ad _ h.2 w_14) k_X12_isCrossing q_1701 q_78 q_1699 kSM_0 rfl rfl rfl hl.1 rfl rfl (Nat.le_of_ble_eq_true rfl) dX12_areThere_12 ⟨Nat.le_of_ble_eq_true rfl, Nat.le_of_ble_eq_true rfl⟩ ⟨Nat.le_of_ble_eq_true rfl, Nat.le_of_ble_eq_true rfl⟩) (fun r_19 H locs ws_16 h u_17 p_18 => ?_)
    obtain ⟨e_20, e_21, e_22, e_23⟩ := p_18
    refine y_if_eq (tgt := 22) C0 dX12_areThere_15 (by decide) (fun c_24 => ?_) (fun c_24 => ?_)
    · -- 15
      refine y_c1 (n := 0) C0 (by decide) dX12_areThere_22 (fun v_25 e_26 => ?_)
      rw [hQ]
      exact y_zret C0 h (o34_14 e_26) (o34_16 e_26) (Fr.tr u_4 u_17) ⟨(o34_14 e_26), (o34_16 e_26), (o34_19 e_2 e_7 e_8 e_9 c_11 e_15 e_20 e_21 e_22 c_24 e_26), (Or.inl (o34_18 e_26))⟩ dX12_areThere_23
    · -- 15
      refine y_c1 (n := 1) C0 (by decide) dX12_areThere_18 (fun v_27 e_28 => ?_)
      refine lv_goto (tgt := 23) C0.1 C0.2.1 dX12_areThere_19 (by decide) ?_
      rw [hQ]
      exact y_zret C0 h (o34_20 e_28) (o34_21 e_28) (Fr.tr u_4 u_17) ⟨(o34_20 e_28), (o34_21 e_28), (o34_22 e_2 e_7 e_8 e_9 c_11 e_15 e_20 e_21 e_22 c_24 e_28), (Or.inr (Or.resolve_left e_10 (o34_23 e_2 e_7 e_8 e_9 c_11)))⟩ dX12_areThere_23
set_option maxHeartbeats 4000000 in
set_option maxRecDepth 100000 in
theorem c_X12_keeps (l : Launch) (G : GG) (Z : RZ) (ad : Nat → Nat) (ws0 : va_W) (hT : Ty G (SM tt) ad ws0) : Mq l yX12_keeps cX12_keeps 2 none 1 G Z [.ref (ad 0)] ws0 (PV G (SM tt) ad [6] ws0 (fun u => True)) := by
  refine Mq.start (by decide) (Nat.le_of_ble_eq_true rfl) ?_
  intro p e s m below meth c A ls C0 hZ h hl
  have hl : lv_has ls 2 [(0, .ref (ad 0))] := hl
  have h : Wt G (SM tt) ad A s s.heap [] ws0 := ⟨h, hT⟩
  obtain ⟨args, hargs⟩ : ∃ z, z = ([.ref (ad 0)] : List Value).toArray := ⟨_, rfl⟩
  rw [← hargs] at C0 ⊢
  have C0 : Cx p s m args meth c RX12 cX12_keeps 2 none := C0
  obtain ⟨Q, hQ⟩ : ∃ z, z = MQ below ((PV G (SM tt) ad [6] ws0 (fun u => True)) A) args s 0 0 A := ⟨_, rfl⟩
  rw [← hQ]
  refine y_c1 (n := 0) C0 (by decide) dX12_keeps_0 (fun v_1 e_2 => ?_)
  refine lv_istore_n (lv' := [(1, .int v_1), (0, .ref (ad 0))]) C0.1 C0.2.1 dX12_keeps_1 rfl hl (by decide) rfl (fun ls hl => ?_)
  have lp_6 : ∀ (n_8 : Nat) (x1_3 : Int32) (H : Heap) (locs : List Loc) (ls : Array Slot) (ws_4 : va_W), 76 - x1_3.toInt < (n_8 : Int) → 0 ≤ x1_3.toInt → x1_3.toInt ≤ 76 → Wt G (SM tt) ad A s H locs ws_4 → Fr (SM tt) [6] ws0 ws_4 → lv_has ls 2 [(1, .int x1_3), (0, .ref (ad 0))] → W p l e (rmd 1 0 0) s m args below meth c H locs 0 0 Q (F0 m 2 ls []) := by
    intro n_8
    induction n_8 with
    | zero => intro x1_3 H locs ls ws_4 hn_9 b_10 b_11 h hF_5 hl; exact ((o34_24 b_10 b_11 hn_9)).elim
    | succ n_8 ih_7 =>
      intro x1_3 H locs ls ws_4 hn_9 b_10 b_11 h hF_5 hl
      refine lv_iload_n C0.1 C0.2.1 dX12_keeps_2 rfl (lv_at hl 0 rfl) ?_
      refine y_c2 (n := 76) C0 (by decide) dX12_keeps_3 (fun v_12 e_13 => ?_)
      refine y_icmp_ge (tgt := 29) C0 dX12_keeps_5 (by decide) (fun c_14 => ?_) (fun c_14 => ?_)
      · -- 5
        rw [hQ]
        exact y_vret C0 h hF_5 trivial dX12_keeps_29
      · -- 5
        refine lv_aload_n C0.1 C0.2.1 dX12_keeps_8 rfl (lv_at hl 1 rfl) ?_
        refine ng_X12_was C0 h kSM_0 q_1454 dX12_keeps_9 ?_
        refine lv_iload_n C0.1 C0.2.1 dX12_keeps_12 rfl (lv_at hl 0 rfl) ?_
        refine lv_aload_n C0.1 C0.2.1 dX12_keeps_13 rfl (lv_at hl 1 rfl) ?_
        refine ng_X12_all C0 h kSM_0 q_1439 dX12_keeps_14 ?_
        refine y_c2 (n := 36) C0 (by decide) dX12_keeps_17 (fun v_15 e_16 => ?_)
        refine lv_iload_n C0.1 C0.2.1 dX12_keeps_19 rfl (lv_at hl 0 rfl) ?_
        refine y_add C0 (o34_25 b_10 b_11 hn_9 e_13 c_14 e_16 (le_min v_15) (le_max v_15) (le_min x1_3) (le_max x1_3) (le_min v_12) (le_max v_12)) (o34_26 b_10 b_11 hn_9 e_13 c_14 e_16 (le_min v_15) (le_max v_15) (le_min x1_3) (le_max x1_3) (le_min v_12) (le_max v_12)) dX12_keeps_20 (fun v_17 e_18 => ?_)
        refine y_iald C0 h kSM_1 rfl (by decide) (o34_27 b_10 b_11 hn_9 e_13 c_14 e_16 e_18) (o34_28 b_10 b_11 hn_9 e_13 c_14 e_16 e_18) dX12_keeps_21 (fun v_19 e_20 e_21 e_22 => ?_)
        refine y_iast C0 h kSM_6 rfl (by decide) (o34_29 b_10 b_11 hn_9 e_13 c_14 e_16 e_18) (o34_30 b_10 b_11 hn_9 e_13 c_14 e_16 e_18) (el_lo (ec_wa (o34_31 b_10 b_11 hn_9 e_13 c_14 e_16 e_18) (o34_32 b_10 b_11 hn_9 e_13 c_14 e_16 e_18)) e_21) (el_hi (ec_wa (o34_31 b_10 b_11 hn_9 e_13 c_14 e_16 e_18) (o34_32 b_10 b_11 hn_9 e_13 c_14 e_16 e_18)) e_22) dX12_keeps_22 (fun H locs ws_23 h u_24 => ?_)
        refine y_inc (kp := 0) (n := 1) (fun v_25 => [(1, .int v_25), (0, .ref (ad 0))]) C0 hl rfl (by decide) (by decide) (fun _ => rfl) (o34_33 b_10 b_11 hn_9 e_13 c_14 e_16 e_18 (le_min x1_3) (le_max x1_3) (le_min v_12) (le_max v_12) (le_min v_15) (le_max v_15) (le_min v_17) (le_max v_17)) (o34_34 b_10 b_11 hn_9 e_13 c_14 e_16 e_18 (le_min x1_3) (le_max x1_3) (le_min v_12) (le_max v_12) (le_min v_15) (le_max v_15) (le_min v_17) (le_max v_17)) dX12_keeps_23 (fun v_25 ls e_26 hl => ?_)
        refine lv_goto (tgt := 2) C0.1 C0.2.1 dX12_keeps_26 (by decide) ?_
        exact ih_7 v_25 _ _ _ _ (o34_35 b_10 b_11 hn_9 e_13 c_14 e_16 e_18 e_26) (o34_36 b_10 b_11 hn_9 e_13 c_14 e_16 e_18 e_26) (o34_37 b_10 b_11 hn_9 e_13 c_14 e_16 e_18 e_26) h (Fr.tr hF_5 (Fr.up u_24.1 kSM_6 (by decide))) (lv_sub hl [0, 1] rfl)
  exact lp_6 ((76 - v_1.toInt + 1).toNat) v_1 _ _ _ _ (o34_38 e_2) (o34_14 e_2) (o34_39 e_2) h Fr.rf (lv_sub hl [0, 1] rfl)
set_option maxHeartbeats 4000000 in
set_option maxRecDepth 100000 in
theorem c_X12_isAgain (l : Launch) (G : GG) (Z : RZ) (ad : Nat → Nat) (ws0 : va_W) (hT : Ty G (SM tt) ad ws0) : Mq l yX12_isAgain cX12_isAgain 2 none 1 G Z [.ref (ad 0)] ws0 (PV G (SM tt) ad [1] ws0 (fun u => (Pa ws0 u) ∧ (Pw ws0 u))) := by
  refine Mq.start (by decide) (Nat.le_of_ble_eq_true rfl) ?_
  intro p e s m below meth c A ls C0 hZ h hl
  have hl : lv_has ls 2 [(0, .ref (ad 0))] := hl
  have h : Wt G (SM tt) ad A s s.heap [] ws0 := ⟨h, hT⟩
  obtain ⟨args, hargs⟩ : ∃ z, z = ([.ref (ad 0)] : List Value).toArray := ⟨_, rfl⟩
  rw [← hargs] at C0 ⊢
  have C0 : Cx p s m args meth c RX12 cX12_isAgain 2 none := C0
  obtain ⟨Q, hQ⟩ : ∃ z, z = MQ below ((PV G (SM tt) ad [1] ws0 (fun u => (Pa ws0 u) ∧ (Pw ws0 u))) A) args s 0 0 A := ⟨_, rfl⟩
  rw [← hQ]
  refine y_c1 (n := 0) C0 (by decide) dX12_isAgain_0 (fun v_1 e_2 => ?_)
  refine lv_istore_n (lv' := [(1, .int v_1), (0, .ref (ad 0))]) C0.1 C0.2.1 dX12_isAgain_1 rfl hl (by decide) rfl (fun ls hl => ?_)
  have lp_6 : ∀ (n_8 : Nat) (x1_3 : Int32) (H : Heap) (locs : List Loc) (ls : Array Slot) (ws_4 : va_W), 76 - x1_3.toInt < (n_8 : Int) → 0 ≤ x1_3.toInt → x1_3.toInt ≤ 76 → (Pa ws0 ws_4) → (Pw ws0 ws_4) → Wt G (SM tt) ad A s H locs ws_4 → Fr (SM tt) [1] ws0 ws_4 → lv_has ls 2 [(1, .int x1_3), (0, .ref (ad 0))] → W p l e (rmd 1 0 0) s m args below meth c H locs 0 0 Q (F0 m 2 ls []) := by
    intro n_8
    induction n_8 with
    | zero => intro x1_3 H locs ls ws_4 hn_9 b_10 b_11 hPa_2 hPw_2 h hF_5 hl; exact ((o34_24 b_10 b_11 hn_9)).elim
    | succ n_8 ih_7 =>
      intro x1_3 H locs ls ws_4 hn_9 b_10 b_11 hPa_2 hPw_2 h hF_5 hl
      refine lv_iload_n C0.1 C0.2.1 dX12_isAgain_2 rfl (lv_at hl 0 rfl) ?_
      refine y_c2 (n := 76) C0 (by decide) dX12_isAgain_3 (fun v_12 e_13 => ?_)
      refine y_icmp_ge (tgt := 29) C0 dX12_isAgain_5 (by decide) (fun c_14 => ?_) (fun c_14 => ?_)
      · -- 5
        rw [hQ]
        exact y_vret C0 h hF_5 ⟨hPa_2, hPw_2⟩ dX12_isAgain_29
      · -- 5
        refine lv_aload_n C0.1 C0.2.1 dX12_isAgain_8 rfl (lv_at hl 1 rfl) ?_
        refine ng_X12_all C0 h kSM_0 q_1439 dX12_isAgain_9 ?_
        refine y_c2 (n := 36) C0 (by decide) dX12_isAgain_12 (fun v_15 e_16 => ?_)
        refine lv_iload_n C0.1 C0.2.1 dX12_isAgain_14 rfl (lv_at hl 0 rfl) ?_
        refine y_add C0 (o34_25 b_10 b_11 hn_9 e_13 c_14 e_16 (le_min v_15) (le_max v_15) (le_min x1_3) (le_max x1_3) (le_min v_12) (le_max v_12)) (o34_26 b_10 b_11 hn_9 e_13 c_14 e_16 (le_min v_15) (le_max v_15) (le_min x1_3) (le_max x1_3) (le_min v_12) (le_max v_12)) dX12_isAgain_15 (fun v_17 e_18 => ?_)
        refine lv_aload_n C0.1 C0.2.1 dX12_isAgain_16 rfl (lv_at hl 1 rfl) ?_
        refine ng_X12_was C0 h kSM_0 q_1454 dX12_isAgain_17 ?_
        refine lv_iload_n C0.1 C0.2.1 dX12_isAgain_20 rfl (lv_at hl 0 rfl) ?_
        refine y_iald C0 h kSM_6 rfl (by decide) (o34_29 b_10 b_11 hn_9 e_13 c_14 e_16 e_18) (o34_30 b_10 b_11 hn_9 e_13 c_14 e_16 e_18) dX12_isAgain_21 (fun v_19 e_20 e_21 e_22 => ?_)
        refine y_iast C0 h kSM_1 rfl (by decide) (o34_27 b_10 b_11 hn_9 e_13 c_14 e_16 e_18) (o34_28 b_10 b_11 hn_9 e_13 c_14 e_16 e_18) (el_lo (Eq.symm (ec_wa (o34_31 b_10 b_11 hn_9 e_13 c_14 e_16 e_18) (o34_32 b_10 b_11 hn_9 e_13 c_14 e_16 e_18))) e_21) (el_hi (Eq.symm (ec_wa (o34_31 b_10 b_11 hn_9 e_13 c_14 e_16 e_18) (o34_32 b_10 b_11 hn_9 e_13 c_14 e_16 e_18))) e_22) dX12_isAgain_22 (fun H locs ws_23 h u_24 => ?_)
        refine y_inc (kp := 0) (n := 1) (fun v_25 => [(1, .int v_25), (0, .ref (ad 0))]) C0 hl rfl (by decide) (by decide) (fun _ => rfl) (o34_33 b_10 b_11 hn_9 e_13 c_14 e_16 e_18 (le_min x1_3) (le_max x1_3) (le_min v_12) (le_max v_12) (le_min v_15) (le_max v_15) (le_min v_17) (le_max v_17)) (o34_34 b_10 b_11 hn_9 e_13 c_14 e_16 e_18 (le_min x1_3) (le_max x1_3) (le_min v_12) (le_max v_12) (le_min v_15) (le_max v_15) (le_min v_17) (le_max v_17)) dX12_isAgain_23 (fun v_25 ls e_26 hl => ?_)
        refine lv_goto (tgt := 2) C0.1 C0.2.1 dX12_isAgain_26 (by decide) ?_
        exact ih_7 v_25 _ _ _ _ (o34_35 b_10 b_11 hn_9 e_13 c_14 e_16 e_18 e_26) (o34_36 b_10 b_11 hn_9 e_13 c_14 e_16 e_18 e_26) (o34_37 b_10 b_11 hn_9 e_13 c_14 e_16 e_18 e_26) ((Pa.tr hPa_2 (Pa.st u_24 (o34_41 b_10 b_11 hn_9 e_13 c_14 e_16 e_18) (o34_42 b_10 b_11 hn_9 e_13 c_14 e_16 e_18)))) ((Pw.tr hPw_2 (Pw.st u_24 (o34_40 b_10 b_11 hn_9 e_13 c_14 e_16 e_18)))) h (Fr.tr hF_5 (Fr.up u_24.1 kSM_1 (by decide))) (lv_sub hl [0, 1] rfl)
  exact lp_6 ((76 - v_1.toInt + 1).toNat) v_1 _ _ _ _ (o34_38 e_2) (o34_14 e_2) (o34_39 e_2) Pa.rf Pw.rf h Fr.rf (lv_sub hl [0, 1] rfl)
set_option maxHeartbeats 4000000 in
set_option maxRecDepth 100000 in
theorem c_X12_notes (l : Launch) (G : GG) (Z : RZ) (ad : Nat → Nat) (ws0 : va_W) (hT : Ty G (SM tt) ad ws0) : Mq l yX12_notes cX12_notes 2 none 1 G Z [.ref (ad 0)] ws0 (PV G (SM tt) ad [1] ws0 (fun u => (Pa ws0 u) ∧ (Pw ws0 u))) := by
  refine Mq.start (by decide) (Nat.le_of_ble_eq_true rfl) ?_
  intro p e s m below meth c A ls C0 hZ h hl
  have hl : lv_has ls 2 [(0, .ref (ad 0))] := hl
  have h : Wt G (SM tt) ad A s s.heap [] ws0 := ⟨h, hT⟩
  obtain ⟨args, hargs⟩ : ∃ z, z = ([.ref (ad 0)] : List Value).toArray := ⟨_, rfl⟩
  rw [← hargs] at C0 ⊢
  have C0 : Cx p s m args meth c RX12 cX12_notes 2 none := C0
  obtain ⟨Q, hQ⟩ : ∃ z, z = MQ below ((PV G (SM tt) ad [1] ws0 (fun u => (Pa ws0 u) ∧ (Pw ws0 u))) A) args s 0 0 A := ⟨_, rfl⟩
  rw [← hQ]
  refine lv_aload_n C0.1 C0.2.1 dX12_notes_0 rfl (lv_at hl 0 rfl) ?_
  refine ng_X12_all C0 h kSM_0 q_1439 dX12_notes_1 ?_
  refine y_c2 (n := 112) C0 (by decide) dX12_notes_4 (fun v_1 e_2 => ?_)
  refine y_iald C0 h kSM_1 rfl (by decide) (o34_43 e_2) (o34_44 e_2) dX12_notes_6 (fun v_3 e_4 e_5 e_6 => ?_)
  have f_7 := o34_45 v_1.toInt.toNat (o34_46 e_2) (o34_47 e_2)
  have e_8 : aI ws0 1 112 = v_3 := (congrArg (aI ws0 1) (ix_c (c := 112) (o34_48 e_2))).symm.trans e_4
  refine y_c2 (n := 10) C0 (by decide) dX12_notes_7 (fun v_9 e_10 => ?_)
  refine y_icmp_ne (tgt := 57) C0 dX12_notes_9 (by decide) (fun c_11 => ?_) (fun c_11 => ?_)
  · -- 9
    refine y_c1 (n := 0) C0 (by decide) dX12_notes_57 (fun v_12 e_13 => ?_)
    refine lv_istore_n (lv' := [(1, .int v_12), (0, .ref (ad 0))]) C0.1 C0.2.1 dX12_notes_58 rfl hl (by decide) rfl (fun ls hl => ?_)
    have lp_17 : ∀ (n_19 : Nat) (x1_14 : Int32) (f_23 : Int32) (H : Heap) (locs : List Loc) (ls : Array Slot) (ws_15 : va_W), 76 - x1_14.toInt < (n_19 : Int) → 0 ≤ x1_14.toInt → x1_14.toInt ≤ 76 → 0 ≤ f_23.toInt → f_23.toInt ≤ 9 → (Pa ws0 ws_15) → (Pw ws0 ws_15) → aI ws_15 1 112 = f_23 → Wt G (SM tt) ad A s H locs ws_15 → Fr (SM tt) [1] ws0 ws_15 → lv_has ls 2 [(1, .int x1_14), (0, .ref (ad 0))] → W p l e (rmd 1 0 0) s m args below meth c H locs 0 0 Q (F0 m 59 ls []) := by
      intro n_19
      induction n_19 with
      | zero => intro x1_14 f_23 H locs ls ws_15 hn_20 b_21 b_22 b_25 b_26 hPa_59 hPw_59 e_24 h hF_16 hl; exact ((o34_24 b_21 b_22 hn_20)).elim
      | succ n_19 ih_18 =>
        intro x1_14 f_23 H locs ls ws_15 hn_20 b_21 b_22 b_25 b_26 hPa_59 hPw_59 e_24 h hF_16 hl
        refine lv_iload_n C0.1 C0.2.1 dX12_notes_59 rfl (lv_at hl 0 rfl) ?_
        refine y_c2 (n := 76) C0 (by decide) dX12_notes_60 (fun v_27 e_28 => ?_)
        refine y_icmp_ge (tgt := 97) C0 dX12_notes_62 (by decide) (fun c_29 => ?_) (fun c_29 => ?_)
        · -- 62
          refine lv_aload_n C0.1 C0.2.1 dX12_notes_97 rfl (lv_at hl 1 rfl) ?_
          refine ng_X12_all C0 h kSM_0 q_1439 dX12_notes_98 ?_
          refine y_c2 (n := 112) C0 (by decide) dX12_notes_101 (fun v_30 e_31 => ?_)
          refine lv_dup2_11 C0.1 C0.2.1 dX12_notes_103 rfl rfl ?_
          refine y_iald C0 h kSM_1 rfl (by decide) (o34_43 e_31) (o34_44 e_31) dX12_notes_104 (fun v_32 e_33 e_34 e_35 => ?_)
          have f_36 := o34_45 v_30.toInt.toNat (o34_46 e_31) (o34_47 e_31)
          have e_37 : aI ws_15 1 112 = v_32 := (congrArg (aI ws_15 1) (ix_c (c := 112) (o34_48 e_31))).symm.trans e_33
          have q_38 : v_32.toInt = f_23.toInt := congrArg Int32.toInt (e_37.symm.trans (Eq.trans rfl e_24))
          refine y_c1 (n := 1) C0 (by decide) dX12_notes_105 (fun v_39 e_40 => ?_)
          refine y_add C0 (o34_49 b_25 b_26 (Int.le_trans f_36.1 e_34) (Int.le_trans e_35 f_36.2) q_38 e_40 (le_min v_32) (le_max v_32) (le_min v_39) (le_max v_39) (le_min f_23) (le_max f_23)) (o34_50 b_25 b_26 (Int.le_trans f_36.1 e_34) (Int.le_trans e_35 f_36.2) q_38 e_40 (le_min v_32) (le_max v_32) (le_min v_39) (le_max v_39) (le_min f_23) (le_max f_23)) dX12_notes_106 (fun v_41 e_42 => ?_)
          have f_45 := o34_51 v_30.toInt.toNat (o34_46 e_31) (o34_47 e_31)
          refine y_iast C0 h kSM_1 rfl (by decide) (o34_43 e_31) (o34_44 e_31) (Int.le_trans f_45.1 (o34_52 b_25 b_26 (Int.le_trans f_36.1 e_34) (Int.le_trans e_35 f_36.2) q_38 e_40 e_42)) (Int.le_trans (o34_53 b_25 b_26 (Int.le_trans f_36.1 e_34) (Int.le_trans e_35 f_36.2) q_38 e_40 e_42) f_45.2) dX12_notes_107 (fun H locs ws_43 h u_44 => ?_)
          have e_46 : aI ws_43 1 112 = v_41 := (congrArg (aI ws_43 1) (ix_c (c := 112) (o34_48 e_31))).symm.trans u_44.2.1
          rw [hQ]
          exact y_vret C0 h (Fr.tr hF_16 (Fr.up u_44.1 kSM_1 (by decide))) ⟨(Pa.tr hPa_59 (Pa.st u_44 (o34_55 e_31) (o34_56 e_31))), (Pw.tr hPw_59 (Pw.st u_44 (o34_54 e_31)))⟩ dX12_notes_108
        · -- 62
          refine lv_aload_n C0.1 C0.2.1 dX12_notes_65 rfl (lv_at hl 1 rfl) ?_
          refine ng_X12_all C0 h kSM_0 q_1439 dX12_notes_66 ?_
          refine y_c2 (n := 113) C0 (by decide) dX12_notes_69 (fun v_47 e_48 => ?_)
          refine y_c2 (n := 76) C0 (by decide) dX12_notes_71 (fun v_49 e_50 => ?_)
          refine lv_aload_n C0.1 C0.2.1 dX12_notes_73 rfl (lv_at hl 1 rfl) ?_
          refine ng_X12_all C0 h kSM_0 q_1439 dX12_notes_74 ?_
          refine y_c2 (n := 112) C0 (by decide) dX12_notes_77 (fun v_51 e_52 => ?_)
          refine y_iald C0 h kSM_1 rfl (by decide) (o34_43 e_52) (o34_44 e_52) dX12_notes_79 (fun v_53 e_54 e_55 e_56 => ?_)
          have f_57 := o34_45 v_51.toInt.toNat (o34_46 e_52) (o34_47 e_52)
          have e_58 : aI ws_15 1 112 = v_53 := (congrArg (aI ws_15 1) (ix_c (c := 112) (o34_48 e_52))).symm.trans e_54
          have q_59 : v_53.toInt = f_23.toInt := congrArg Int32.toInt (e_58.symm.trans (Eq.trans rfl e_24))
          refine y_cmul (n := 76) C0 (o34_57 e_50) (o34_58 b_25 b_26 (Int.le_trans f_57.1 e_55) (Int.le_trans e_56 f_57.2) q_59 (le_min v_53) (le_max v_53) (le_min f_23) (le_max f_23)) (o34_59 b_25 b_26 (Int.le_trans f_57.1 e_55) (Int.le_trans e_56 f_57.2) q_59 (le_min v_53) (le_max v_53) (le_min f_23) (le_max f_23)) dX12_notes_80 (fun v_60 e_61 => ?_)
          refine y_add C0 (o34_60 b_25 b_26 e_48 (Int.le_trans f_57.1 e_55) (Int.le_trans e_56 f_57.2) q_59 e_61 (le_min v_47) (le_max v_47) (le_min v_60) (le_max v_60) (le_min f_23) (le_max f_23) (le_min v_53) (le_max v_53)) (o34_61 b_25 b_26 e_48 (Int.le_trans f_57.1 e_55) (Int.le_trans e_56 f_57.2) q_59 e_61 (le_min v_47) (le_max v_47) (le_min v_60) (le_max v_60) (le_min f_23) (le_max f_23) (le_min v_53) (le_max v_53)) dX12_notes_81 (fun v_62 e_63 => ?_)
          refine lv_iload_n C0.1 C0.2.1 dX12_notes_82 rfl (lv_at hl 0 rfl) ?_
          refine y_add C0 (o34_62 b_21 b_22 b_25 b_26 hn_20 e_28 c_29 e_48 (Int.le_trans f_57.1 e_55) (Int.le_trans e_56 f_57.2) q_59 e_61 e_63 (le_min v_62) (le_max v_62) (le_min x1_14) (le_max x1_14) (le_min f_23) (le_max f_23) (le_min v_27) (le_max v_27) (le_min v_47) (le_max v_47) (le_min v_53) (le_max v_53) (le_min v_60) (le_max v_60)) (o34_63 b_21 b_22 b_25 b_26 hn_20 e_28 c_29 e_48 (Int.le_trans f_57.1 e_55) (Int.le_trans e_56 f_57.2) q_59 e_61 e_63 (le_min v_62) (le_max v_62) (le_min x1_14) (le_max x1_14) (le_min f_23) (le_max f_23) (le_min v_27) (le_max v_27) (le_min v_47) (le_max v_47) (le_min v_53) (le_max v_53) (le_min v_60) (le_max v_60)) dX12_notes_83 (fun v_64 e_65 => ?_)
          refine lv_aload_n C0.1 C0.2.1 dX12_notes_84 rfl (lv_at hl 1 rfl) ?_
          refine ng_X12_was C0 h kSM_0 q_1454 dX12_notes_85 ?_
          refine lv_iload_n C0.1 C0.2.1 dX12_notes_88 rfl (lv_at hl 0 rfl) ?_
          refine y_iald C0 h kSM_6 rfl (by decide) (o34_64 b_21 b_22 b_25 b_26 hn_20 e_28 c_29 e_48 (Int.le_trans f_57.1 e_55) (Int.le_trans e_56 f_57.2) q_59 e_61 e_63 e_65) (o34_65 b_21 b_22 b_25 b_26 hn_20 e_28 c_29 e_48 (Int.le_trans f_57.1 e_55) (Int.le_trans e_56 f_57.2) q_59 e_61 e_63 e_65) dX12_notes_89 (fun v_66 e_67 e_68 e_69 => ?_)
          refine y_iast C0 h kSM_1 rfl (by decide) (o34_66 b_21 b_22 b_25 b_26 hn_20 e_28 c_29 e_48 (Int.le_trans f_57.1 e_55) (Int.le_trans e_56 f_57.2) q_59 e_61 e_63 e_65) (o34_67 b_21 b_22 b_25 b_26 hn_20 e_28 c_29 e_48 (Int.le_trans f_57.1 e_55) (Int.le_trans e_56 f_57.2) q_59 e_61 e_63 e_65) (el_lo (ec_nk (n := f_23.toInt.toNat) (o34_68 b_21 b_22 b_25 b_26 hn_20 e_28 c_29 e_48 (Int.le_trans f_57.1 e_55) (Int.le_trans e_56 f_57.2) q_59 e_61 e_63 e_65) (o34_69 b_21 b_22 b_25 b_26 hn_20 e_28 c_29 e_48 (Int.le_trans f_57.1 e_55) (Int.le_trans e_56 f_57.2) q_59 e_61 e_63 e_65) (o34_70 b_21 b_22 b_25 b_26 hn_20 e_28 c_29 e_48 (Int.le_trans f_57.1 e_55) (Int.le_trans e_56 f_57.2) q_59 e_61 e_63 e_65)) e_68) (el_hi (ec_nk (n := f_23.toInt.toNat) (o34_68 b_21 b_22 b_25 b_26 hn_20 e_28 c_29 e_48 (Int.le_trans f_57.1 e_55) (Int.le_trans e_56 f_57.2) q_59 e_61 e_63 e_65) (o34_69 b_21 b_22 b_25 b_26 hn_20 e_28 c_29 e_48 (Int.le_trans f_57.1 e_55) (Int.le_trans e_56 f_57.2) q_59 e_61 e_63 e_65) (o34_70 b_21 b_22 b_25 b_26 hn_20 e_28 c_29 e_48 (Int.le_trans f_57.1 e_55) (Int.le_trans e_56 f_57.2) q_59 e_61 e_63 e_65)) e_69) dX12_notes_90 (fun H locs ws_70 h u_71 => ?_)
          refine y_inc (kp := 0) (n := 1) (fun v_72 => [(1, .int v_72), (0, .ref (ad 0))]) C0 hl rfl (by decide) (by decide) (fun _ => rfl) (o34_74 b_21 b_22 b_25 b_26 hn_20 e_28 c_29 e_48 (Int.le_trans f_57.1 e_55) (Int.le_trans e_56 f_57.2) q_59 e_61 e_63 e_65 (le_min x1_14) (le_max x1_14) (le_min f_23) (le_max f_23) (le_min v_27) (le_max v_27) (le_min v_47) (le_max v_47) (le_min v_53) (le_max v_53) (le_min v_60) (le_max v_60) (le_min v_62) (le_max v_62) (le_min v_64) (le_max v_64)) (o34_75 b_21 b_22 b_25 b_26 hn_20 e_28 c_29 e_48 (Int.le_trans f_57.1 e_55) (Int.le_trans e_56 f_57.2) q_59 e_61 e_63 e_65 (le_min x1_14) (le_max x1_14) (le_min f_23) (le_max f_23) (le_min v_27) (le_max v_27) (le_min v_47) (le_max v_47) (le_min v_53) (le_max v_53) (le_min v_60) (le_max v_60) (le_min v_62) (le_max v_62) (le_min v_64) (le_max v_64)) dX12_notes_91 (fun v_72 ls e_73 hl => ?_)
          refine lv_goto (tgt := 59) C0.1 C0.2.1 dX12_notes_94 (by decide) ?_
          exact ih_18 v_72 f_23 _ _ _ _ (o34_77 b_21 b_22 b_25 b_26 hn_20 e_28 c_29 e_48 (Int.le_trans f_57.1 e_55) (Int.le_trans e_56 f_57.2) q_59 e_61 e_63 e_65 e_73) (o34_78 b_21 b_22 b_25 b_26 hn_20 e_28 c_29 e_48 (Int.le_trans f_57.1 e_55) (Int.le_trans e_56 f_57.2) q_59 e_61 e_63 e_65 e_73) (o34_79 b_21 b_22 b_25 b_26 hn_20 e_28 c_29 e_48 (Int.le_trans f_57.1 e_55) (Int.le_trans e_56 f_57.2) q_59 e_61 e_63 e_65 e_73) (o34_80 b_21 b_22 b_25 b_26 hn_20 e_28 c_29 e_48 (Int.le_trans f_57.1 e_55) (Int.le_trans e_56 f_57.2) q_59 e_61 e_63 e_65 e_73) (o34_81 b_21 b_22 b_25 b_26 hn_20 e_28 c_29 e_48 (Int.le_trans f_57.1 e_55) (Int.le_trans e_56 f_57.2) q_59 e_61 e_63 e_65 e_73) ((Pa.tr hPa_59 (Pa.st u_71 (o34_72 b_21 b_22 b_25 b_26 hn_20 e_28 c_29 e_48 (Int.le_trans f_57.1 e_55) (Int.le_trans e_56 f_57.2) q_59 e_61 e_63 e_65) (o34_73 b_21 b_22 b_25 b_26 hn_20 e_28 c_29 e_48 (Int.le_trans f_57.1 e_55) (Int.le_trans e_56 f_57.2) q_59 e_61 e_63 e_65)))) ((Pw.tr hPw_59 (Pw.st u_71 (o34_71 b_21 b_22 b_25 b_26 hn_20 e_28 c_29 e_48 (Int.le_trans f_57.1 e_55) (Int.le_trans e_56 f_57.2) q_59 e_61 e_63 e_65)))) (Eq.trans (u_71.2.2 112 (o34_76 b_21 b_22 b_25 b_26 hn_20 e_28 c_29 e_48 (Int.le_trans f_57.1 e_55) (Int.le_trans e_56 f_57.2) q_59 e_61 e_63 e_65 e_73)) e_24) h (Fr.tr hF_16 (Fr.up u_71.1 kSM_1 (by decide))) (lv_sub hl [0, 1] rfl)
    exact lp_17 ((76 - v_12.toInt + 1).toNat) v_12 v_3 _ _ _ _ (o34_38 e_13) (o34_14 e_13) (o34_39 e_13) (o34_82 (Int.le_trans f_7.1 e_5) (Int.le_trans e_6 f_7.2) e_10 c_11) (o34_83 (Int.le_trans f_7.1 e_5) (Int.le_trans e_6 f_7.2) e_10 c_11) Pa.rf Pw.rf (Eq.trans rfl e_8) h Fr.rf (lv_sub hl [0, 1] rfl)
  · -- 9
    refine y_c1 (n := 0) C0 (by decide) dX12_notes_12 (fun v_74 e_75 => ?_)
    refine lv_istore_n (lv' := [(1, .int v_74), (0, .ref (ad 0))]) C0.1 C0.2.1 dX12_notes_13 rfl hl (by decide) rfl (fun ls hl => ?_)
    have lp_79 : ∀ (n_81 : Nat) (x1_76 : Int32) (f_85 : Int32) (H : Heap) (locs : List Loc) (ls : Array Slot) (ws_77 : va_W), 684 - x1_76.toInt < (n_81 : Int) → 0 ≤ x1_76.toInt → x1_76.toInt ≤ 684 → 10 ≤ f_85.toInt → f_85.toInt ≤ 10 → (Pa ws0 ws_77) → (Pw ws0 ws_77) → aI ws_77 1 112 = f_85 → Wt G (SM tt) ad A s H locs ws_77 → Fr (SM tt) [1] ws0 ws_77 → lv_has ls 2 [(1, .int x1_76), (0, .ref (ad 0))] → W p l e (rmd 1 0 0) s m args below meth c H locs 0 0 Q (F0 m 14 ls []) := by
      intro n_81
      induction n_81 with
      | zero => intro x1_76 f_85 H locs ls ws_77 hn_82 b_83 b_84 b_87 b_88 hPa_14 hPw_14 e_86 h hF_78 hl; exact ((o34_84 b_83 b_84 hn_82)).elim
      | succ n_81 ih_80 =>
        intro x1_76 f_85 H locs ls ws_77 hn_82 b_83 b_84 b_87 b_88 hPa_14 hPw_14 e_86 h hF_78 hl
        refine lv_iload_n C0.1 C0.2.1 dX12_notes_14 rfl (lv_at hl 0 rfl) ?_
        refine y_c3 (n := 684) C0 (by decide) dX12_notes_15 (fun v_89 e_90 => ?_)
        refine y_icmp_ge (tgt := 46) C0 dX12_notes_18 (by decide) (fun c_91 => ?_) (fun c_91 => ?_)
        · -- 18
          refine lv_aload_n C0.1 C0.2.1 dX12_notes_46 rfl (lv_at hl 1 rfl) ?_
          refine ng_X12_all C0 h kSM_0 q_1439 dX12_notes_47 ?_
          refine y_c2 (n := 112) C0 (by decide) dX12_notes_50 (fun v_92 e_93 => ?_)
          refine lv_dup2_11 C0.1 C0.2.1 dX12_notes_52 rfl rfl ?_
          refine y_iald C0 h kSM_1 rfl (by decide) (o34_43 e_93) (o34_44 e_93) dX12_notes_53 (fun v_94 e_95 e_96 e_97 => ?_)
          have f_98 := o34_45 v_92.toInt.toNat (o34_46 e_93) (o34_47 e_93)
          have e_99 : aI ws_77 1 112 = v_94 := (congrArg (aI ws_77 1) (ix_c (c := 112) (o34_48 e_93))).symm.trans e_95
          have q_100 : v_94.toInt = f_85.toInt := congrArg Int32.toInt (e_99.symm.trans (Eq.trans rfl e_86))
          refine y_c1 (n := 1) C0 (by decide) dX12_notes_54 (fun v_101 e_102 => ?_)
          refine y_sub C0 (o34_85 b_87 b_88 (Int.le_trans f_98.1 e_96) (Int.le_trans e_97 f_98.2) q_100 e_102 (le_min v_94) (le_max v_94) (le_min v_101) (le_max v_101) (le_min f_85) (le_max f_85)) (o34_86 b_87 b_88 (Int.le_trans f_98.1 e_96) (Int.le_trans e_97 f_98.2) q_100 e_102 (le_min v_94) (le_max v_94) (le_min v_101) (le_max v_101) (le_min f_85) (le_max f_85)) dX12_notes_55 (fun v_103 e_104 => ?_)
          have f_107 := o34_51 v_92.toInt.toNat (o34_46 e_93) (o34_47 e_93)
          refine y_iast C0 h kSM_1 rfl (by decide) (o34_43 e_93) (o34_44 e_93) (Int.le_trans f_107.1 (o34_87 b_87 b_88 (Int.le_trans f_98.1 e_96) (Int.le_trans e_97 f_98.2) q_100 e_102 e_104)) (Int.le_trans (o34_88 b_87 b_88 (Int.le_trans f_98.1 e_96) (Int.le_trans e_97 f_98.2) q_100 e_102 e_104) f_107.2) dX12_notes_56 (fun H locs ws_105 h u_106 => ?_)
          have e_108 : aI ws_105 1 112 = v_103 := (congrArg (aI ws_105 1) (ix_c (c := 112) (o34_48 e_93))).symm.trans u_106.2.1
          refine y_c1 (n := 0) C0 (by decide) dX12_notes_57 (fun v_109 e_110 => ?_)
          refine lv_istore_n (lv' := [(1, .int v_109), (0, .ref (ad 0))]) C0.1 C0.2.1 dX12_notes_58 rfl hl (by decide) rfl (fun ls hl => ?_)
          have lp_114 : ∀ (n_116 : Nat) (x1_111 : Int32) (f_120 : Int32) (H : Heap) (locs : List Loc) (ls : Array Slot) (ws_112 : va_W), 76 - x1_111.toInt < (n_116 : Int) → 0 ≤ x1_111.toInt → x1_111.toInt ≤ 76 → 0 ≤ f_120.toInt → f_120.toInt ≤ 9 → (Pa ws_105 ws_112) → (Pw ws_105 ws_112) → aI ws_112 1 112 = f_120 → Wt G (SM tt) ad A s H locs ws_112 → Fr (SM tt) [1] ws_105 ws_112 → lv_has ls 2 [(1, .int x1_111), (0, .ref (ad 0))] → W p l e (rmd 1 0 0) s m args below meth c H locs 0 0 Q (F0 m 59 ls []) := by
            intro n_116
            induction n_116 with
            | zero => intro x1_111 f_120 H locs ls ws_112 hn_117 b_118 b_119 b_122 b_123 hPa_59 hPw_59 e_121 h hF_113 hl; exact ((o34_24 b_118 b_119 hn_117)).elim
            | succ n_116 ih_115 =>
              intro x1_111 f_120 H locs ls ws_112 hn_117 b_118 b_119 b_122 b_123 hPa_59 hPw_59 e_121 h hF_113 hl
              refine lv_iload_n C0.1 C0.2.1 dX12_notes_59 rfl (lv_at hl 0 rfl) ?_
              refine y_c2 (n := 76) C0 (by decide) dX12_notes_60 (fun v_124 e_125 => ?_)
              refine y_icmp_ge (tgt := 97) C0 dX12_notes_62 (by decide) (fun c_126 => ?_) (fun c_126 => ?_)
              · -- 62
                refine lv_aload_n C0.1 C0.2.1 dX12_notes_97 rfl (lv_at hl 1 rfl) ?_
                refine ng_X12_all C0 h kSM_0 q_1439 dX12_notes_98 ?_
                refine y_c2 (n := 112) C0 (by decide) dX12_notes_101 (fun v_127 e_128 => ?_)
                refine lv_dup2_11 C0.1 C0.2.1 dX12_notes_103 rfl rfl ?_
                refine y_iald C0 h kSM_1 rfl (by decide) (o34_43 e_128) (o34_44 e_128) dX12_notes_104 (fun v_129 e_130 e_131 e_132 => ?_)
                have f_133 := o34_45 v_127.toInt.toNat (o34_46 e_128) (o34_47 e_128)
                have e_134 : aI ws_112 1 112 = v_129 := (congrArg (aI ws_112 1) (ix_c (c := 112) (o34_48 e_128))).symm.trans e_130
                have q_135 : v_129.toInt = f_120.toInt := congrArg Int32.toInt (e_134.symm.trans (Eq.trans rfl e_121))
                refine y_c1 (n := 1) C0 (by decide) dX12_notes_105 (fun v_136 e_137 => ?_)
                refine y_add C0 (o34_49 b_122 b_123 (Int.le_trans f_133.1 e_131) (Int.le_trans e_132 f_133.2) q_135 e_137 (le_min v_129) (le_max v_129) (le_min v_136) (le_max v_136) (le_min f_120) (le_max f_120)) (o34_50 b_122 b_123 (Int.le_trans f_133.1 e_131) (Int.le_trans e_132 f_133.2) q_135 e_137 (le_min v_129) (le_max v_129) (le_min v_136) (le_max v_136) (le_min f_120) (le_max f_120)) dX12_notes_106 (fun v_138 e_139 => ?_)
                have f_142 := o34_51 v_127.toInt.toNat (o34_46 e_128) (o34_47 e_128)
                refine y_iast C0 h kSM_1 rfl (by decide) (o34_43 e_128) (o34_44 e_128) (Int.le_trans f_142.1 (o34_52 b_122 b_123 (Int.le_trans f_133.1 e_131) (Int.le_trans e_132 f_133.2) q_135 e_137 e_139)) (Int.le_trans (o34_53 b_122 b_123 (Int.le_trans f_133.1 e_131) (Int.le_trans e_132 f_133.2) q_135 e_137 e_139) f_142.2) dX12_notes_107 (fun H locs ws_140 h u_141 => ?_)
                have e_143 : aI ws_140 1 112 = v_138 := (congrArg (aI ws_140 1) (ix_c (c := 112) (o34_48 e_128))).symm.trans u_141.2.1
                rw [hQ]
                exact y_vret C0 h (Fr.tr (Fr.tr (Fr.tr hF_78 (Fr.up u_106.1 kSM_1 (by decide))) hF_113) (Fr.up u_141.1 kSM_1 (by decide))) ⟨(Pa.tr (Pa.tr (Pa.tr hPa_14 (Pa.st u_106 (o34_55 e_93) (o34_56 e_93))) hPa_59) (Pa.st u_141 (o34_55 e_128) (o34_56 e_128))), (Pw.tr (Pw.tr (Pw.tr hPw_14 (Pw.st u_106 (o34_54 e_93))) hPw_59) (Pw.st u_141 (o34_54 e_128)))⟩ dX12_notes_108
              · -- 62
                refine lv_aload_n C0.1 C0.2.1 dX12_notes_65 rfl (lv_at hl 1 rfl) ?_
                refine ng_X12_all C0 h kSM_0 q_1439 dX12_notes_66 ?_
                refine y_c2 (n := 113) C0 (by decide) dX12_notes_69 (fun v_144 e_145 => ?_)
                refine y_c2 (n := 76) C0 (by decide) dX12_notes_71 (fun v_146 e_147 => ?_)
                refine lv_aload_n C0.1 C0.2.1 dX12_notes_73 rfl (lv_at hl 1 rfl) ?_
                refine ng_X12_all C0 h kSM_0 q_1439 dX12_notes_74 ?_
                refine y_c2 (n := 112) C0 (by decide) dX12_notes_77 (fun v_148 e_149 => ?_)
                refine y_iald C0 h kSM_1 rfl (by decide) (o34_43 e_149) (o34_44 e_149) dX12_notes_79 (fun v_150 e_151 e_152 e_153 => ?_)
                have f_154 := o34_45 v_148.toInt.toNat (o34_46 e_149) (o34_47 e_149)
                have e_155 : aI ws_112 1 112 = v_150 := (congrArg (aI ws_112 1) (ix_c (c := 112) (o34_48 e_149))).symm.trans e_151
                have q_156 : v_150.toInt = f_120.toInt := congrArg Int32.toInt (e_155.symm.trans (Eq.trans rfl e_121))
                refine y_cmul (n := 76) C0 (o34_57 e_147) (o34_58 b_122 b_123 (Int.le_trans f_154.1 e_152) (Int.le_trans e_153 f_154.2) q_156 (le_min v_150) (le_max v_150) (le_min f_120) (le_max f_120)) (o34_59 b_122 b_123 (Int.le_trans f_154.1 e_152) (Int.le_trans e_153 f_154.2) q_156 (le_min v_150) (le_max v_150) (le_min f_120) (le_max f_120)) dX12_notes_80 (fun v_157 e_158 => ?_)
                refine y_add C0 (o34_60 b_122 b_123 e_145 (Int.le_trans f_154.1 e_152) (Int.le_trans e_153 f_154.2) q_156 e_158 (le_min v_144) (le_max v_144) (le_min v_157) (le_max v_157) (le_min f_120) (le_max f_120) (le_min v_150) (le_max v_150)) (o34_61 b_122 b_123 e_145 (Int.le_trans f_154.1 e_152) (Int.le_trans e_153 f_154.2) q_156 e_158 (le_min v_144) (le_max v_144) (le_min v_157) (le_max v_157) (le_min f_120) (le_max f_120) (le_min v_150) (le_max v_150)) dX12_notes_81 (fun v_159 e_160 => ?_)
                refine lv_iload_n C0.1 C0.2.1 dX12_notes_82 rfl (lv_at hl 0 rfl) ?_
                refine y_add C0 (o34_62 b_118 b_119 b_122 b_123 hn_117 e_125 c_126 e_145 (Int.le_trans f_154.1 e_152) (Int.le_trans e_153 f_154.2) q_156 e_158 e_160 (le_min v_159) (le_max v_159) (le_min x1_111) (le_max x1_111) (le_min f_120) (le_max f_120) (le_min v_124) (le_max v_124) (le_min v_144) (le_max v_144) (le_min v_150) (le_max v_150) (le_min v_157) (le_max v_157)) (o34_63 b_118 b_119 b_122 b_123 hn_117 e_125 c_126 e_145 (Int.le_trans f_154.1 e_152) (Int.le_trans e_153 f_154.2) q_156 e_158 e_160 (le_min v_159) (le_max v_159) (le_min x1_111) (le_max x1_111) (le_min f_120) (le_max f_120) (le_min v_124) (le_max v_124) (le_min v_144) (le_max v_144) (le_min v_150) (le_max v_150) (le_min v_157) (le_max v_157)) dX12_notes_83 (fun v_161 e_162 => ?_)
                refine lv_aload_n C0.1 C0.2.1 dX12_notes_84 rfl (lv_at hl 1 rfl) ?_
                refine ng_X12_was C0 h kSM_0 q_1454 dX12_notes_85 ?_
                refine lv_iload_n C0.1 C0.2.1 dX12_notes_88 rfl (lv_at hl 0 rfl) ?_
                refine y_iald C0 h kSM_6 rfl (by decide) (o34_64 b_118 b_119 b_122 b_123 hn_117 e_125 c_126 e_145 (Int.le_trans f_154.1 e_152) (Int.le_trans e_153 f_154.2) q_156 e_158 e_160 e_162) (o34_65 b_118 b_119 b_122 b_123 hn_117 e_125 c_126 e_145 (Int.le_trans f_154.1 e_152) (Int.le_trans e_153 f_154.2) q_156 e_158 e_160 e_162) dX12_notes_89 (fun v_163 e_164 e_165 e_166 => ?_)
                refine y_iast C0 h kSM_1 rfl (by decide) (o34_66 b_118 b_119 b_122 b_123 hn_117 e_125 c_126 e_145 (Int.le_trans f_154.1 e_152) (Int.le_trans e_153 f_154.2) q_156 e_158 e_160 e_162) (o34_67 b_118 b_119 b_122 b_123 hn_117 e_125 c_126 e_145 (Int.le_trans f_154.1 e_152) (Int.le_trans e_153 f_154.2) q_156 e_158 e_160 e_162) (el_lo (ec_nk (n := f_120.toInt.toNat) (o34_68 b_118 b_119 b_122 b_123 hn_117 e_125 c_126 e_145 (Int.le_trans f_154.1 e_152) (Int.le_trans e_153 f_154.2) q_156 e_158 e_160 e_162) (o34_69 b_118 b_119 b_122 b_123 hn_117 e_125 c_126 e_145 (Int.le_trans f_154.1 e_152) (Int.le_trans e_153 f_154.2) q_156 e_158 e_160 e_162) (o34_70 b_118 b_119 b_122 b_123 hn_117 e_125 c_126 e_145 (Int.le_trans f_154.1 e_152) (Int.le_trans e_153 f_154.2) q_156 e_158 e_160 e_162)) e_165) (el_hi (ec_nk (n := f_120.toInt.toNat) (o34_68 b_118 b_119 b_122 b_123 hn_117 e_125 c_126 e_145 (Int.le_trans f_154.1 e_152) (Int.le_trans e_153 f_154.2) q_156 e_158 e_160 e_162) (o34_69 b_118 b_119 b_122 b_123 hn_117 e_125 c_126 e_145 (Int.le_trans f_154.1 e_152) (Int.le_trans e_153 f_154.2) q_156 e_158 e_160 e_162) (o34_70 b_118 b_119 b_122 b_123 hn_117 e_125 c_126 e_145 (Int.le_trans f_154.1 e_152) (Int.le_trans e_153 f_154.2) q_156 e_158 e_160 e_162)) e_166) dX12_notes_90 (fun H locs ws_167 h u_168 => ?_)
                refine y_inc (kp := 0) (n := 1) (fun v_169 => [(1, .int v_169), (0, .ref (ad 0))]) C0 hl rfl (by decide) (by decide) (fun _ => rfl) (o34_74 b_118 b_119 b_122 b_123 hn_117 e_125 c_126 e_145 (Int.le_trans f_154.1 e_152) (Int.le_trans e_153 f_154.2) q_156 e_158 e_160 e_162 (le_min x1_111) (le_max x1_111) (le_min f_120) (le_max f_120) (le_min v_124) (le_max v_124) (le_min v_144) (le_max v_144) (le_min v_150) (le_max v_150) (le_min v_157) (le_max v_157) (le_min v_159) (le_max v_159) (le_min v_161) (le_max v_161)) (o34_75 b_118 b_119 b_122 b_123 hn_117 e_125 c_126 e_145 (Int.le_trans f_154.1 e_152) (Int.le_trans e_153 f_154.2) q_156 e_158 e_160 e_162 (le_min x1_111) (le_max x1_111) (le_min f_120) (le_max f_120) (le_min v_124) (le_max v_124) (le_min v_144) (le_max v_144) (le_min v_150) (le_max v_150) (le_min v_157) (le_max v_157) (le_min v_159) (le_max v_159) (le_min v_161) (le_max v_161)) dX12_notes_91 (fun v_169 ls e_170 hl => ?_)
                refine lv_goto (tgt := 59) C0.1 C0.2.1 dX12_notes_94 (by decide) ?_
                exact ih_115 v_169 f_120 _ _ _ _ (o34_77 b_118 b_119 b_122 b_123 hn_117 e_125 c_126 e_145 (Int.le_trans f_154.1 e_152) (Int.le_trans e_153 f_154.2) q_156 e_158 e_160 e_162 e_170) (o34_78 b_118 b_119 b_122 b_123 hn_117 e_125 c_126 e_145 (Int.le_trans f_154.1 e_152) (Int.le_trans e_153 f_154.2) q_156 e_158 e_160 e_162 e_170) (o34_79 b_118 b_119 b_122 b_123 hn_117 e_125 c_126 e_145 (Int.le_trans f_154.1 e_152) (Int.le_trans e_153 f_154.2) q_156 e_158 e_160 e_162 e_170) (o34_80 b_118 b_119 b_122 b_123 hn_117 e_125 c_126 e_145 (Int.le_trans f_154.1 e_152) (Int.le_trans e_153 f_154.2) q_156 e_158 e_160 e_162 e_170) (o34_81 b_118 b_119 b_122 b_123 hn_117 e_125 c_126 e_145 (Int.le_trans f_154.1 e_152) (Int.le_trans e_153 f_154.2) q_156 e_158 e_160 e_162 e_170) ((Pa.tr hPa_59 (Pa.st u_168 (o34_72 b_118 b_119 b_122 b_123 hn_117 e_125 c_126 e_145 (Int.le_trans f_154.1 e_152) (Int.le_trans e_153 f_154.2) q_156 e_158 e_160 e_162) (o34_73 b_118 b_119 b_122 b_123 hn_117 e_125 c_126 e_145 (Int.le_trans f_154.1 e_152) (Int.le_trans e_153 f_154.2) q_156 e_158 e_160 e_162)))) ((Pw.tr hPw_59 (Pw.st u_168 (o34_71 b_118 b_119 b_122 b_123 hn_117 e_125 c_126 e_145 (Int.le_trans f_154.1 e_152) (Int.le_trans e_153 f_154.2) q_156 e_158 e_160 e_162)))) (Eq.trans (u_168.2.2 112 (o34_76 b_118 b_119 b_122 b_123 hn_117 e_125 c_126 e_145 (Int.le_trans f_154.1 e_152) (Int.le_trans e_153 f_154.2) q_156 e_158 e_160 e_162 e_170)) e_121) h (Fr.tr hF_113 (Fr.up u_168.1 kSM_1 (by decide))) (lv_sub hl [0, 1] rfl)
          exact lp_114 ((76 - v_109.toInt + 1).toNat) v_109 v_103 _ _ _ _ (o34_38 e_110) (o34_14 e_110) (o34_39 e_110) (o34_87 b_87 b_88 (Int.le_trans f_98.1 e_96) (Int.le_trans e_97 f_98.2) q_100 e_102 e_104) (o34_89 b_87 b_88 (Int.le_trans f_98.1 e_96) (Int.le_trans e_97 f_98.2) q_100 e_102 e_104) Pa.rf Pw.rf (Eq.trans rfl e_108) h Fr.rf (lv_sub hl [0, 1] rfl)
        · -- 18
          refine lv_aload_n C0.1 C0.2.1 dX12_notes_21 rfl (lv_at hl 1 rfl) ?_
          refine ng_X12_all C0 h kSM_0 q_1439 dX12_notes_22 ?_
          refine y_c2 (n := 113) C0 (by decide) dX12_notes_25 (fun v_171 e_172 => ?_)
          refine lv_iload_n C0.1 C0.2.1 dX12_notes_27 rfl (lv_at hl 0 rfl) ?_
          refine y_add C0 (o34_90 b_83 b_84 hn_82 e_90 c_91 e_172 (le_min v_171) (le_max v_171) (le_min x1_76) (le_max x1_76) (le_min v_89) (le_max v_89)) (o34_91 b_83 b_84 hn_82 e_90 c_91 e_172 (le_min v_171) (le_max v_171) (le_min x1_76) (le_max x1_76) (le_min v_89) (le_max v_89)) dX12_notes_28 (fun v_173 e_174 => ?_)
          refine lv_aload_n C0.1 C0.2.1 dX12_notes_29 rfl (lv_at hl 1 rfl) ?_
          refine ng_X12_all C0 h kSM_0 q_1439 dX12_notes_30 ?_
          refine y_c3 (n := 189) C0 (by decide) dX12_notes_33 (fun v_175 e_176 => ?_)
          refine lv_iload_n C0.1 C0.2.1 dX12_notes_36 rfl (lv_at hl 0 rfl) ?_
          refine y_add C0 (o34_92 b_83 b_84 hn_82 e_90 c_91 e_172 e_174 e_176 (le_min v_175) (le_max v_175) (le_min x1_76) (le_max x1_76) (le_min v_89) (le_max v_89) (le_min v_171) (le_max v_171) (le_min v_173) (le_max v_173)) (o34_93 b_83 b_84 hn_82 e_90 c_91 e_172 e_174 e_176 (le_min v_175) (le_max v_175) (le_min x1_76) (le_max x1_76) (le_min v_89) (le_max v_89) (le_min v_171) (le_max v_171) (le_min v_173) (le_max v_173)) dX12_notes_37 (fun v_177 e_178 => ?_)
          refine y_iald C0 h kSM_1 rfl (by decide) (o34_94 b_83 b_84 hn_82 e_90 c_91 e_172 e_174 e_176 e_178) (o34_95 b_83 b_84 hn_82 e_90 c_91 e_172 e_174 e_176 e_178) dX12_notes_38 (fun v_179 e_180 e_181 e_182 => ?_)
          refine y_iast C0 h kSM_1 rfl (by decide) (o34_96 b_83 b_84 hn_82 e_90 c_91 e_172 e_174 e_176 e_178) (o34_97 b_83 b_84 hn_82 e_90 c_91 e_172 e_174 e_176 e_178) (el_lo (ec_sh (k := x1_76.toInt.toNat) (o34_98 b_83 b_84 hn_82 e_90 c_91 e_172 e_174 e_176 e_178) (o34_99 b_83 b_84 hn_82 e_90 c_91 e_172 e_174 e_176 e_178) (o34_100 b_83 b_84 hn_82 e_90 c_91 e_172 e_174 e_176 e_178)) e_181) (el_hi (ec_sh (k := x1_76.toInt.toNat) (o34_98 b_83 b_84 hn_82 e_90 c_91 e_172 e_174 e_176 e_178) (o34_99 b_83 b_84 hn_82 e_90 c_91 e_172 e_174 e_176 e_178) (o34_100 b_83 b_84 hn_82 e_90 c_91 e_172 e_174 e_176 e_178)) e_182) dX12_notes_39 (fun H locs ws_183 h u_184 => ?_)
          refine y_inc (kp := 0) (n := 1) (fun v_185 => [(1, .int v_185), (0, .ref (ad 0))]) C0 hl rfl (by decide) (by decide) (fun _ => rfl) (o34_104 b_83 b_84 hn_82 e_90 c_91 e_172 e_174 e_176 e_178 (le_min x1_76) (le_max x1_76) (le_min v_89) (le_max v_89) (le_min v_171) (le_max v_171) (le_min v_173) (le_max v_173) (le_min v_175) (le_max v_175) (le_min v_177) (le_max v_177)) (o34_105 b_83 b_84 hn_82 e_90 c_91 e_172 e_174 e_176 e_178 (le_min x1_76) (le_max x1_76) (le_min v_89) (le_max v_89) (le_min v_171) (le_max v_171) (le_min v_173) (le_max v_173) (le_min v_175) (le_max v_175) (le_min v_177) (le_max v_177)) dX12_notes_40 (fun v_185 ls e_186 hl => ?_)
          refine lv_goto (tgt := 14) C0.1 C0.2.1 dX12_notes_43 (by decide) ?_
          exact ih_80 v_185 f_85 _ _ _ _ (o34_107 b_83 b_84 hn_82 e_90 c_91 e_172 e_174 e_176 e_178 e_186) (o34_108 b_83 b_84 hn_82 e_90 c_91 e_172 e_174 e_176 e_178 e_186) (o34_109 b_83 b_84 hn_82 e_90 c_91 e_172 e_174 e_176 e_178 e_186) (o34_110 b_87 b_88) (o34_111 b_87 b_88) ((Pa.tr hPa_14 (Pa.st u_184 (o34_102 b_83 b_84 hn_82 e_90 c_91 e_172 e_174 e_176 e_178) (o34_103 b_83 b_84 hn_82 e_90 c_91 e_172 e_174 e_176 e_178)))) ((Pw.tr hPw_14 (Pw.st u_184 (o34_101 b_83 b_84 hn_82 e_90 c_91 e_172 e_174 e_176 e_178)))) (Eq.trans (u_184.2.2 112 (o34_106 b_83 b_84 hn_82 e_90 c_91 e_172 e_174 e_176 e_178 e_186)) e_86) h (Fr.tr hF_78 (Fr.up u_184.1 kSM_1 (by decide))) (lv_sub hl [0, 1] rfl)
    exact lp_79 ((684 - v_74.toInt + 1).toNat) v_74 v_3 _ _ _ _ (o34_112 e_75) (o34_14 e_75) (o34_113 e_75) (o34_114 (Int.le_trans f_7.1 e_5) (Int.le_trans e_6 f_7.2) e_10 c_11) (o34_115 (Int.le_trans f_7.1 e_5) (Int.le_trans e_6 f_7.2) e_10 c_11) Pa.rf Pw.rf (Eq.trans rfl e_8) h Fr.rf (lv_sub hl [0, 1] rfl)
set_option maxHeartbeats 4000000 in
set_option maxRecDepth 100000 in
theorem c_X12_whyNot (l : Launch) (G : GG) (Z : RZ) (ad : Nat → Nat) (ws0 : va_W) (hT : Ty G (SM tt) ad ws0) (a1 : Int64) (a2 : Int64) (hJ : J ws0) : Mq l yX12_whyNot cX12_whyNot 7 (some .int) 4 G Z [.ref (ad 0), .long a1, .long a2] ws0 (PI G (SM tt) ad [5] ws0 (fun r u => (0 ≤ r.toInt) ∧ (r.toInt ≤ 4) ∧ ((r.toInt = 0 → 0 ≤ a1.toInt) ∧ (r.toInt = 0 → a1.toInt ≤ 4) ∧ (r.toInt = 0 → 0 ≤ a2.toInt) ∧ (r.toInt = 0 → a2.toInt ≤ 3)) ∧ (r.toInt = 0 → CanM ws0 a1.toInt.toNat a2.toInt) ∧ (r.toInt = 0 → Laid ws0))) := by
  refine Mq.start (by decide) (Nat.le_of_ble_eq_true rfl) ?_
  intro p e s m below meth c A ls C0 hZ h hl
  have hl : lv_has ls 7 [(0, .ref (ad 0)), (1, .long a1), (3, .long a2)] := hl
  have h : Wt G (SM tt) ad A s s.heap [] ws0 := ⟨h, hT⟩
  obtain ⟨args, hargs⟩ : ∃ z, z = ([.ref (ad 0), .long a1, .long a2] : List Value).toArray := ⟨_, rfl⟩
  rw [← hargs] at C0 ⊢
  have C0 : Cx p s m args meth c RX12 cX12_whyNot 7 (some .int) := C0
  obtain ⟨Q, hQ⟩ : ∃ z, z = MQ below ((PI G (SM tt) ad [5] ws0 (fun r u => (0 ≤ r.toInt) ∧ (r.toInt ≤ 4) ∧ ((r.toInt = 0 → 0 ≤ a1.toInt) ∧ (r.toInt = 0 → a1.toInt ≤ 4) ∧ (r.toInt = 0 → 0 ≤ a2.toInt) ∧ (r.toInt = 0 → a2.toInt ≤ 3)) ∧ (r.toInt = 0 → CanM ws0 a1.toInt.toNat a2.toInt) ∧ (r.toInt = 0 → Laid ws0))) A) args s 0 0 A := ⟨_, rfl⟩
  rw [← hQ]
  refine lv_aload_n C0.1 C0.2.1 dX12_whyNot_0 rfl (lv_at hl 0 rfl) ?_
  refine lv_lload_n C0.1 C0.2.1 dX12_whyNot_1 rfl (lv_at hl 1 rfl) ?_
  refine y_ci h (y_rV (As := [.long a1]) (rest := []) C0 hZ h (c_X12_isPerson l G Z ad _ h.2 a1 hJ) k_X12_isPerson q_1693 q_77 q_1691 kSM_0 rfl rfl rfl hl.1 rfl rfl (Nat.le_of_ble_eq_true rfl) dX12_whyNot_2 ⟨Nat.le_of_ble_eq_true rfl, Nat.le_of_ble_eq_true rfl⟩ ⟨Nat.le_of_ble_eq_true rfl, Nat.le_of_ble_eq_true rfl⟩) (fun r_4 H locs ws_1 h u_2 p_3 => ?_)
  obtain ⟨e_5, e_6, e_7, e_8⟩ := p_3
  refine y_if_eq (tgt := 19) C0 dX12_whyNot_5 (by decide) (fun c_9 => ?_) (fun c_9 => ?_)
  · -- 5
    refine y_c1 (n := 1) C0 (by decide) dX12_whyNot_19 (fun v_10 e_11 => ?_)
    rw [hQ]
    exact y_iret C0 h (Fr.mono u_2 (by decide)) ⟨(o34_20 e_11), (o34_116 e_11), (o34_117 e_5 e_6 e_7 c_9 e_11), (fun q => ((o34_118 e_11) q).elim), (fun q => ((o34_118 e_11) q).elim)⟩ dX12_whyNot_20
  · -- 5
    refine lv_lload_n C0.1 C0.2.1 dX12_whyNot_8 rfl (lv_at hl 2 rfl) ?_
    refine y_lc (v := 0) C0 (by decide) dX12_whyNot_9 (fun w_12 e_13 => ?_)
    refine y_lc2 (n := 3) C0 q_1710 (by decide) dX12_whyNot_10 (fun w_14 e_15 => ?_)
    refine y_ci h (y_rS (As := [.long a2, .long w_12, .long w_14]) (rest := []) C0 hZ h (c_X12_within l G Z ad _ h.2 a2 w_12 w_14) k_X12_within q_1580 q_1579 hl.1 rfl rfl (Nat.le_of_ble_eq_true rfl) dX12_whyNot_13 ⟨Nat.le_of_ble_eq_true rfl, Nat.le_of_ble_eq_true rfl⟩ ⟨Nat.le_of_ble_eq_true rfl, Nat.le_of_ble_eq_true rfl⟩) (fun r_19 H locs ws_16 h u_17 p_18 => ?_)
    obtain ⟨e_20, e_21, e_22⟩ := p_18
    refine y_if_ne (tgt := 21) C0 dX12_whyNot_16 (by decide) (fun c_23 => ?_) (fun c_23 => ?_)
    · -- 16
      refine lv_aload_n C0.1 C0.2.1 dX12_whyNot_21 rfl (lv_at hl 0 rfl) ?_
      refine ng_X12_all C0 h kSM_0 q_1439 dX12_whyNot_22 ?_
      refine y_c2 (n := 36) C0 (by decide) dX12_whyNot_25 (fun v_24 e_25 => ?_)
      refine lv_lload_n C0.1 C0.2.1 dX12_whyNot_27 rfl (lv_at hl 1 rfl) ?_
      refine y_l2i C0 (o34_119 e_5 e_6 e_7 c_9 (le_min r_4) (le_max r_4)) (o34_120 e_5 e_6 e_7 c_9 (le_min r_4) (le_max r_4)) dX12_whyNot_28 (fun v_26 e_27 => ?_)
      refine y_add C0 (o34_121 e_5 e_6 e_7 c_9 e_25 e_27 (le_min v_24) (le_max v_24) (le_min v_26) (le_max v_26) (le_min r_4) (le_max r_4)) (o34_122 e_5 e_6 e_7 c_9 e_25 e_27 (le_min v_24) (le_max v_24) (le_min v_26) (le_max v_26) (le_min r_4) (le_max r_4)) dX12_whyNot_29 (fun v_28 e_29 => ?_)
      refine y_iald C0 h kSM_1 rfl (by decide) (o34_123 e_5 e_6 e_7 c_9 e_25 e_27 e_29) (o34_124 e_5 e_6 e_7 c_9 e_25 e_27 e_29) dX12_whyNot_30 (fun v_30 e_31 e_32 e_33 => ?_)
      have f_34 := o34_125 v_28.toInt.toNat (o34_126 e_5 e_6 e_7 c_9 e_25 e_27 e_29) (o34_127 e_5 e_6 e_7 c_9 e_25 e_27 e_29)
      refine lv_istore (lv' := [(5, .int v_30), (0, .ref (ad 0)), (1, .long a1), (3, .long a2)]) C0.1 C0.2.1 dX12_whyNot_31 hl (by decide) rfl (fun ls hl => ?_)
      refine lv_aload_n C0.1 C0.2.1 dX12_whyNot_33 rfl (lv_at hl 1 rfl) ?_
      refine ng_X12_all C0 h kSM_0 q_1439 dX12_whyNot_34 ?_
      refine y_c2 (n := 41) C0 (by decide) dX12_whyNot_37 (fun v_35 e_36 => ?_)
      refine lv_lload_n C0.1 C0.2.1 dX12_whyNot_39 rfl (lv_at hl 2 rfl) ?_
      refine y_l2i C0 (o34_128 e_5 e_6 e_7 c_9 e_25 e_27 e_29 (le_min r_4) (le_max r_4) (le_min v_24) (le_max v_24) (le_min v_26) (le_max v_26) (le_min v_28) (le_max v_28)) (o34_129 e_5 e_6 e_7 c_9 e_25 e_27 e_29 (le_min r_4) (le_max r_4) (le_min v_24) (le_max v_24) (le_min v_26) (le_max v_26) (le_min v_28) (le_max v_28)) dX12_whyNot_40 (fun v_37 e_38 => ?_)
      refine y_add C0 (o34_130 e_5 e_6 e_7 c_9 e_25 e_27 e_29 e_36 e_38 (le_min v_35) (le_max v_35) (le_min v_37) (le_max v_37) (le_min r_4) (le_max r_4) (le_min v_24) (le_max v_24) (le_min v_26) (le_max v_26) (le_min v_28) (le_max v_28)) (o34_131 e_5 e_6 e_7 c_9 e_25 e_27 e_29 e_36 e_38 (le_min v_35) (le_max v_35) (le_min v_37) (le_max v_37) (le_min r_4) (le_max r_4) (le_min v_24) (le_max v_24) (le_min v_26) (le_max v_26) (le_min v_28) (le_max v_28)) dX12_whyNot_41 (fun v_39 e_40 => ?_)
      refine y_iald C0 h kSM_1 rfl (by decide) (o34_132 e_5 e_6 e_7 c_9 e_25 e_27 e_29 e_36 e_38 e_40) (o34_133 e_5 e_6 e_7 c_9 e_25 e_27 e_29 e_36 e_38 e_40) dX12_whyNot_42 (fun v_41 e_42 e_43 e_44 => ?_)
      have f_45 := o34_134 v_39.toInt.toNat (o34_135 e_5 e_6 e_7 c_9 e_25 e_27 e_29 e_36 e_38 e_40) (o34_136 e_5 e_6 e_7 c_9 e_25 e_27 e_29 e_36 e_38 e_40)
      refine lv_lload_n C0.1 C0.2.1 dX12_whyNot_43 rfl (lv_at hl 3 rfl) ?_
      refine y_l2i C0 (o34_137 e_13 e_15 e_20 e_21 e_22 c_23 (le_min r_19) (le_max r_19)) (o34_138 e_13 e_15 e_20 e_21 e_22 c_23 (le_min r_19) (le_max r_19)) dX12_whyNot_44 (fun v_46 e_47 => ?_)
      refine y_ci h (y_rS (As := [.int v_41, .int v_46]) (rest := []) C0 hZ h (c_X12_directionBy l G Z ad _ h.2 v_41 v_46 (o34_139 (Int.le_trans f_45.1 e_43) (Int.le_trans e_44 f_45.2)) (o34_140 (Int.le_trans f_45.1 e_43) (Int.le_trans e_44 f_45.2)) (o34_141 e_13 e_15 e_20 e_21 e_22 c_23 e_47) (o34_142 e_13 e_15 e_20 e_21 e_22 c_23 e_47)) k_X12_directionBy q_1761 q_1760 hl.1 rfl rfl (Nat.le_of_ble_eq_true rfl) dX12_whyNot_45 ⟨Nat.le_of_ble_eq_true rfl, Nat.le_of_ble_eq_true rfl⟩ ⟨Nat.le_of_ble_eq_true rfl, Nat.le_of_ble_eq_true rfl⟩) (fun r_51 H locs ws_48 h u_49 p_50 => ?_)
      obtain ⟨e_52, e_53, e_54⟩ := p_50
      refine lv_istore (lv' := [(6, .int r_51), (5, .int v_30), (0, .ref (ad 0)), (1, .long a1), (3, .long a2)]) C0.1 C0.2.1 dX12_whyNot_48 hl (by decide) rfl (fun ls hl => ?_)
      refine lv_aload_n C0.1 C0.2.1 dX12_whyNot_50 rfl (lv_at hl 2 rfl) ?_
      refine lv_iload C0.1 C0.2.1 dX12_whyNot_51 (lv_at hl 1 rfl) ?_
      refine lv_iload C0.1 C0.2.1 dX12_whyNot_53 (lv_at hl 0 rfl) ?_
      refine y_ci h (y_rV (As := [.int v_30, .int r_51]) (rest := []) C0 hZ h (c_X12_streetFrom l G Z ad _ h.2 v_30 r_51 (o34_2 (Int.le_trans f_34.1 e_32) (Int.le_trans e_33 f_34.2)) (o34_3 (Int.le_trans f_34.1 e_32) (Int.le_trans e_33 f_34.2)) (o34_139 e_52 e_53) (o34_140 e_52 e_53) (Laid.pa (Or.resolve_left e_8 (o34_143 e_5 e_6 e_7 c_9 e_25 e_27 e_29 e_36 e_38 e_40)) (Pa.tr (Pa.tr (Pa.fr u_2 (by decide)) (Pa.fr u_17 (by decide))) (Pa.fr u_49 (by decide))))) k_X12_streetFrom q_1713 q_80 q_1711 kSM_0 rfl rfl rfl hl.1 rfl rfl (Nat.le_of_ble_eq_true rfl) dX12_whyNot_55 ⟨Nat.le_of_ble_eq_true rfl, Nat.le_of_ble_eq_true rfl⟩ ⟨Nat.le_of_ble_eq_true rfl, Nat.le_of_ble_eq_true rfl⟩) (fun r_58 H locs ws_55 h u_56 p_57 => ?_)
      obtain ⟨e_59, e_60, e_61⟩ := p_57
      refine y_c1 (n := (-1)) C0 (by decide) dX12_whyNot_58 (fun v_62 e_63 => ?_)
      refine y_icmp_ne (tgt := 64) C0 dX12_whyNot_59 (by decide) (fun c_64 => ?_) (fun c_64 => ?_)
      · -- 59
        refine lv_lload_n C0.1 C0.2.1 dX12_whyNot_64 rfl (lv_at hl 4 rfl) ?_
        refine y_lc2 (n := 2) C0 q_1763 (by decide) dX12_whyNot_65 (fun w_65 e_66 => ?_)
        refine y_lcmp C0 dX12_whyNot_68 (fun v_67 e_68 => ?_)
        refine y_if_ge (tgt := 74) C0 dX12_whyNot_69 (by decide) (fun c_69 => ?_) (fun c_69 => ?_)
        · -- 69
          refine lv_aload_n C0.1 C0.2.1 dX12_whyNot_74 rfl (lv_at hl 2 rfl) ?_
          refine lv_iload C0.1 C0.2.1 dX12_whyNot_75 (lv_at hl 1 rfl) ?_
          refine y_c1 (n := 0) C0 (by decide) dX12_whyNot_77 (fun v_70 e_71 => ?_)
          refine lv_iload C0.1 C0.2.1 dX12_whyNot_78 (lv_at hl 0 rfl) ?_
          refine y_ci h (y_rV (As := [.int v_30, .int v_70, .int r_51]) (rest := []) C0 hZ h (c_X12_mayTurn l G Z ad _ h.2 v_30 v_70 r_51 (o34_2 (Int.le_trans f_34.1 e_32) (Int.le_trans e_33 f_34.2)) (o34_3 (Int.le_trans f_34.1 e_32) (Int.le_trans e_33 f_34.2)) (o34_139 e_52 e_53) (o34_140 e_52 e_53) (J.pa hT hJ (Pa.tr (Pa.tr (Pa.tr (Pa.fr u_2 (by decide)) (Pa.fr u_17 (by decide))) (Pa.fr u_49 (by decide))) (Pa.fr u_56 (by decide)))) (Laid.pa (Or.resolve_left e_8 (o34_143 e_5 e_6 e_7 c_9 e_25 e_27 e_29 e_36 e_38 e_40)) (Pa.tr (Pa.tr (Pa.tr (Pa.fr u_2 (by decide)) (Pa.fr u_17 (by decide))) (Pa.fr u_49 (by decide))) (Pa.fr u_56 (by decide))))) k_X12_mayTurn q_1766 q_87 q_1764 kSM_0 rfl rfl rfl hl.1 rfl rfl (Nat.le_of_ble_eq_true rfl) dX12_whyNot_80 ⟨Nat.le_of_ble_eq_true rfl, Nat.le_of_ble_eq_true rfl⟩ ⟨Nat.le_of_ble_eq_true rfl, Nat.le_of_ble_eq_true rfl⟩) (fun r_75 H locs ws_72 h u_73 p_74 => ?_)
          obtain ⟨e_76, e_77⟩ := p_74
          refine y_if_ne (tgt := 88) C0 dX12_whyNot_83 (by decide) (fun c_78 => ?_) (fun c_78 => ?_)
          · -- 83
            refine lv_aload_n C0.1 C0.2.1 dX12_whyNot_88 rfl (lv_at hl 2 rfl) ?_
            refine lv_iload C0.1 C0.2.1 dX12_whyNot_89 (lv_at hl 1 rfl) ?_
            refine y_c1 (n := 0) C0 (by decide) dX12_whyNot_91 (fun v_79 e_80 => ?_)
            refine y_ci h (y_rV (As := [.int v_30, .int v_79]) (rest := []) C0 hZ h (c_X12_isFreeIn l G Z ad _ h.2 v_30 v_79 (o34_2 (Int.le_trans f_34.1 e_32) (Int.le_trans e_33 f_34.2)) (o34_3 (Int.le_trans f_34.1 e_32) (Int.le_trans e_33 f_34.2))) k_X12_isFreeIn q_1741 q_84 q_1739 kSM_0 rfl rfl rfl hl.1 rfl rfl (Nat.le_of_ble_eq_true rfl) dX12_whyNot_92 ⟨Nat.le_of_ble_eq_true rfl, Nat.le_of_ble_eq_true rfl⟩ ⟨Nat.le_of_ble_eq_true rfl, Nat.le_of_ble_eq_true rfl⟩) (fun r_84 H locs ws_81 h u_82 p_83 => ?_)
            obtain ⟨e_85, e_86, e_87⟩ := p_83
            refine y_if_ne (tgt := 120) C0 dX12_whyNot_95 (by decide) (fun c_88 => ?_) (fun c_88 => ?_)
            · -- 95
              refine y_c1 (n := 0) C0 (by decide) dX12_whyNot_120 (fun v_89 e_90 => ?_)
              obtain ⟨f_93, e_94⟩ : ∃ v, aI ws0 1 (46 + a1.toInt.toNat) = v := ⟨_, rfl⟩
              have b_95 := ty_aI (46 + a1.toInt.toNat) hT kSM_1 rfl (by omega)
              rw [e_94] at b_95
              have f_96 := o34_145 (46 + a1.toInt.toNat) (by omega) (by omega)
              rw [hQ]
              exact y_iret C0 h (Fr.tr (Fr.tr (Fr.tr (Fr.tr (Fr.tr (Fr.mono u_2 (by decide)) (Fr.mono u_17 (by decide))) (Fr.mono u_49 (by decide))) (Fr.mono u_56 (by decide))) u_73) (Fr.mono u_82 (by decide))) ⟨(o34_14 e_90), (o34_15 e_90), (o34_144 e_5 e_6 e_7 c_9 e_13 e_15 e_20 e_21 e_22 c_23 e_25 e_27 e_29 e_36 e_38 e_40 e_47 e_66 e_68 c_69 e_90), (fun _ => canM_of (z := v_79) (o34_147 e_5 e_6 e_7 c_9 e_25 e_27 e_29 e_36 e_38 e_40) (o34_148 e_5 e_6 e_7 c_9 e_25 e_27 e_29 e_36 e_38 e_40) rfl (Eq.trans (Eq.symm (Eq.trans (Fr.aI u_17 kSM_1 (by decide)) (Fr.aI u_2 kSM_1 (by decide)))) e_31) (Eq.trans (Eq.symm (Eq.trans (Fr.aI u_17 kSM_1 (by decide)) (Fr.aI u_2 kSM_1 (by decide)))) e_42) e_94 (o34_149 e_13 e_15 e_20 e_21 e_22 c_23 e_47 e_66 e_68 c_69) e_80 e_54 (SF.pw (o34_3 (Int.le_trans f_34.1 e_32) (Int.le_trans e_33 f_34.2)) (Pw.sy (Pw.tr (Pw.tr (Pw.fr u_2 (by decide)) (Pw.fr u_17 (by decide))) (Pw.fr u_49 (by decide)))) e_61) (o34_150 e_59 e_60 e_63 c_64) (Or.inl (Or.elim e_87 (fun q => fb_fr (M := [5]) (Fr.tr (Fr.tr (Fr.tr (Fr.tr (Fr.mono u_2 (by decide)) (Fr.mono u_17 (by decide))) (Fr.mono u_49 (by decide))) (Fr.mono u_56 (by decide))) u_73) (by decide) q.2) (fun q => ((o34_146 e_85 e_86 c_88 q.1)).elim)))), (fun _ => Or.resolve_left e_8 (o34_143 e_5 e_6 e_7 c_9 e_25 e_27 e_29 e_36 e_38 e_40))⟩ dX12_whyNot_121
            · -- 95
              refine lv_aload_n C0.1 C0.2.1 dX12_whyNot_98 rfl (lv_at hl 2 rfl) ?_
              refine ng_X12_all C0 h kSM_0 q_1439 dX12_whyNot_99 ?_
              refine y_c2 (n := 46) C0 (by decide) dX12_whyNot_102 (fun v_97 e_98 => ?_)
              refine lv_lload_n C0.1 C0.2.1 dX12_whyNot_104 rfl (lv_at hl 3 rfl) ?_
              refine y_l2i C0 (o34_151 e_5 e_6 e_7 c_9 e_25 e_27 e_29 e_36 e_38 e_40 (le_min r_4) (le_max r_4) (le_min v_24) (le_max v_24) (le_min v_26) (le_max v_26) (le_min v_28) (le_max v_28) (le_min v_35) (le_max v_35) (le_min v_37) (le_max v_37) (le_min v_39) (le_max v_39)) (o34_152 e_5 e_6 e_7 c_9 e_25 e_27 e_29 e_36 e_38 e_40 (le_min r_4) (le_max r_4) (le_min v_24) (le_max v_24) (le_min v_26) (le_max v_26) (le_min v_28) (le_max v_28) (le_min v_35) (le_max v_35) (le_min v_37) (le_max v_37) (le_min v_39) (le_max v_39)) dX12_whyNot_105 (fun v_99 e_100 => ?_)
              refine y_add C0 (o34_153 e_5 e_6 e_7 c_9 e_25 e_27 e_29 e_36 e_38 e_40 e_98 e_100 (le_min v_97) (le_max v_97) (le_min v_99) (le_max v_99) (le_min r_4) (le_max r_4) (le_min v_24) (le_max v_24) (le_min v_26) (le_max v_26) (le_min v_28) (le_max v_28) (le_min v_35) (le_max v_35) (le_min v_37) (le_max v_37) (le_min v_39) (le_max v_39)) (o34_154 e_5 e_6 e_7 c_9 e_25 e_27 e_29 e_36 e_38 e_40 e_98 e_100 (le_min v_97) (le_max v_97) (le_min v_99) (le_max v_99) (le_min r_4) (le_max r_4) (le_min v_24) (le_max v_24) (le_min v_26) (le_max v_26) (le_min v_28) (le_max v_28) (le_min v_35) (le_max v_35) (le_min v_37) (le_max v_37) (le_min v_39) (le_max v_39)) dX12_whyNot_106 (fun v_101 e_102 => ?_)
              refine y_iald C0 h kSM_1 rfl (by decide) (o34_155 e_5 e_6 e_7 c_9 e_25 e_27 e_29 e_36 e_38 e_40 e_98 e_100 e_102) (o34_156 e_5 e_6 e_7 c_9 e_25 e_27 e_29 e_36 e_38 e_40 e_98 e_100 e_102) dX12_whyNot_107 (fun v_103 e_104 e_105 e_106 => ?_)
              have f_107 := o34_145 v_101.toInt.toNat (o34_157 e_5 e_6 e_7 c_9 e_25 e_27 e_29 e_36 e_38 e_40 e_98 e_100 e_102) (o34_158 e_5 e_6 e_7 c_9 e_25 e_27 e_29 e_36 e_38 e_40 e_98 e_100 e_102)
              refine lv_lload_n C0.1 C0.2.1 dX12_whyNot_108 rfl (lv_at hl 4 rfl) ?_
              refine y_l2i C0 (o34_159 e_13 e_15 e_20 e_21 e_22 c_23 e_47 e_66 e_68 c_69 (le_min r_19) (le_max r_19) (le_min v_46) (le_max v_46) (le_min v_67) (le_max v_67)) (o34_160 e_13 e_15 e_20 e_21 e_22 c_23 e_47 e_66 e_68 c_69 (le_min r_19) (le_max r_19) (le_min v_46) (le_max v_46) (le_min v_67) (le_max v_67)) dX12_whyNot_109 (fun v_108 e_109 => ?_)
              refine y_ci h (y_rS (As := [.int v_108]) (rest := [.int v_103]) C0 hZ h (c_X12_leftsOf l G Z ad _ h.2 v_108 (o34_161 e_13 e_15 e_20 e_21 e_22 c_23 e_47 e_66 e_68 c_69 e_109) (o34_162 e_13 e_15 e_20 e_21 e_22 c_23 e_47 e_66 e_68 c_69 e_109)) k_X12_leftsOf q_1769 q_1768 hl.1 rfl rfl (Nat.le_of_ble_eq_true rfl) dX12_whyNot_110 ⟨Nat.le_of_ble_eq_true rfl, Nat.le_of_ble_eq_true rfl⟩ ⟨Nat.le_of_ble_eq_true rfl, Nat.le_of_ble_eq_true rfl⟩) (fun r_113 H locs ws_110 h u_111 p_112 => ?_)
              obtain ⟨e_114, e_115, e_116⟩ := p_112
              refine y_icmp_ge (tgt := 120) C0 dX12_whyNot_113 (by decide) (fun c_117 => ?_) (fun c_117 => ?_)
              · -- 113
                refine y_c1 (n := 0) C0 (by decide) dX12_whyNot_120 (fun v_118 e_119 => ?_)
                rw [hQ]
                exact y_iret C0 h (Fr.tr (Fr.tr (Fr.tr (Fr.tr (Fr.tr (Fr.tr (Fr.mono u_2 (by decide)) (Fr.mono u_17 (by decide))) (Fr.mono u_49 (by decide))) (Fr.mono u_56 (by decide))) u_73) (Fr.mono u_82 (by decide))) (Fr.mono u_111 (by decide))) ⟨(o34_14 e_119), (o34_15 e_119), (o34_163 e_5 e_6 e_7 c_9 e_13 e_15 e_20 e_21 e_22 c_23 e_25 e_27 e_29 e_36 e_38 e_40 e_47 e_66 e_68 c_69 e_98 e_100 e_102 (Int.le_trans f_107.1 e_105) (Int.le_trans e_106 f_107.2) e_109 e_114 e_115 e_116 c_117 e_119), (fun _ => canM_of (z := v_79) (o34_165 e_5 e_6 e_7 c_9 e_25 e_27 e_29 e_36 e_38 e_40 e_98 e_100 e_102) (o34_166 e_5 e_6 e_7 c_9 e_25 e_27 e_29 e_36 e_38 e_40 e_98 e_100 e_102) (o34_164 e_5 e_6 e_7 c_9 e_25 e_27 e_29 e_36 e_38 e_40 e_98 e_100 e_102) (Eq.trans (Eq.symm (Eq.trans (Fr.aI u_17 kSM_1 (by decide)) (Fr.aI u_2 kSM_1 (by decide)))) e_31) (Eq.trans (Eq.symm (Eq.trans (Fr.aI u_17 kSM_1 (by decide)) (Fr.aI u_2 kSM_1 (by decide)))) e_42) (Eq.trans (Eq.symm (Eq.trans (Fr.aI u_82 kSM_1 (by decide)) (Eq.trans (Fr.aI u_73 kSM_1 (by decide)) (Eq.trans (Fr.aI u_56 kSM_1 (by decide)) (Eq.trans (Fr.aI u_49 kSM_1 (by decide)) (Eq.trans (Fr.aI u_17 kSM_1 (by decide)) (Fr.aI u_2 kSM_1 (by decide)))))))) e_104) (o34_167 e_13 e_15 e_20 e_21 e_22 c_23 e_47 e_66 e_68 c_69 (Int.le_trans f_107.1 e_105) (Int.le_trans e_106 f_107.2) e_109 e_114 e_115 e_116 c_117) e_80 e_54 (SF.pw (o34_3 (Int.le_trans f_34.1 e_32) (Int.le_trans e_33 f_34.2)) (Pw.sy (Pw.tr (Pw.tr (Pw.fr u_2 (by decide)) (Pw.fr u_17 (by decide))) (Pw.fr u_49 (by decide)))) e_61) (o34_150 e_59 e_60 e_63 c_64) (Or.inr (by unfold lefI; split <;> omega))), (fun _ => Or.resolve_left e_8 (o34_168 e_5 e_6 e_7 c_9 e_25 e_27 e_29 e_36 e_38 e_40 e_98 e_100 e_102))⟩ dX12_whyNot_121
              · -- 113
                refine y_c1 (n := 4) C0 (by decide) dX12_whyNot_116 (fun v_120 e_121 => ?_)
                refine lv_goto (tgt := 121) C0.1 C0.2.1 dX12_whyNot_117 (by decide) ?_
                rw [hQ]
                exact y_iret C0 h (Fr.tr (Fr.tr (Fr.tr (Fr.tr (Fr.tr (Fr.tr (Fr.mono u_2 (by decide)) (Fr.mono u_17 (by decide))) (Fr.mono u_49 (by decide))) (Fr.mono u_56 (by decide))) u_73) (Fr.mono u_82 (by decide))) (Fr.mono u_111 (by decide))) ⟨(o34_169 e_121), (o34_170 e_121), (o34_171 e_5 e_6 e_7 c_9 e_13 e_15 e_20 e_21 e_22 c_23 e_25 e_27 e_29 e_36 e_38 e_40 e_47 e_66 e_68 c_69 e_98 e_100 e_102 (Int.le_trans f_107.1 e_105) (Int.le_trans e_106 f_107.2) e_109 e_114 e_115 e_116 c_117 e_121), (fun q => ((o34_172 e_121) q).elim), (fun q => ((o34_172 e_121) q).elim)⟩ dX12_whyNot_121
          · -- 83
            refine y_c1 (n := 3) C0 (by decide) dX12_whyNot_86 (fun v_122 e_123 => ?_)
            rw [hQ]
            exact y_iret C0 h (Fr.tr (Fr.tr (Fr.tr (Fr.tr (Fr.mono u_2 (by decide)) (Fr.mono u_17 (by decide))) (Fr.mono u_49 (by decide))) (Fr.mono u_56 (by decide))) u_73) ⟨(o34_173 e_123), (o34_174 e_123), (o34_175 e_5 e_6 e_7 c_9 e_13 e_15 e_20 e_21 e_22 c_23 e_25 e_27 e_29 e_36 e_38 e_40 e_47 e_66 e_68 c_69 e_123), (fun q => ((o34_176 e_123) q).elim), (fun q => ((o34_176 e_123) q).elim)⟩ dX12_whyNot_87
        · -- 69
          refine y_c1 (n := 0) C0 (by decide) dX12_whyNot_72 (fun v_124 e_125 => ?_)
          obtain ⟨f_128, e_129⟩ : ∃ v, aI ws0 1 (46 + a1.toInt.toNat) = v := ⟨_, rfl⟩
          have b_130 := ty_aI (46 + a1.toInt.toNat) hT kSM_1 rfl (by omega)
          rw [e_129] at b_130
          have f_131 := o34_145 (46 + a1.toInt.toNat) (by omega) (by omega)
          obtain ⟨v_132, ev_132⟩ : ∃ v : Int32, v.toInt = 0 := ⟨0, by decide⟩
          rw [hQ]
          exact y_iret C0 h (Fr.tr (Fr.tr (Fr.tr (Fr.mono u_2 (by decide)) (Fr.mono u_17 (by decide))) (Fr.mono u_49 (by decide))) (Fr.mono u_56 (by decide))) ⟨(o34_14 e_125), (o34_15 e_125), (o34_177 e_5 e_6 e_7 c_9 e_13 e_15 e_20 e_21 e_22 c_23 e_25 e_27 e_29 e_36 e_38 e_40 e_47 e_66 e_68 c_69 e_125), (fun _ => canM_of (z := v_132) (o34_147 e_5 e_6 e_7 c_9 e_25 e_27 e_29 e_36 e_38 e_40) (o34_148 e_5 e_6 e_7 c_9 e_25 e_27 e_29 e_36 e_38 e_40) rfl (Eq.trans (Eq.symm (Eq.trans (Fr.aI u_17 kSM_1 (by decide)) (Fr.aI u_2 kSM_1 (by decide)))) e_31) (Eq.trans (Eq.symm (Eq.trans (Fr.aI u_17 kSM_1 (by decide)) (Fr.aI u_2 kSM_1 (by decide)))) e_42) e_129 (o34_178 e_13 e_15 e_20 e_21 e_22 c_23 e_47 e_66 e_68 c_69) ev_132 e_54 (SF.pw (o34_3 (Int.le_trans f_34.1 e_32) (Int.le_trans e_33 f_34.2)) (Pw.sy (Pw.tr (Pw.tr (Pw.fr u_2 (by decide)) (Pw.fr u_17 (by decide))) (Pw.fr u_49 (by decide)))) e_61) (o34_150 e_59 e_60 e_63 c_64) (Or.inr (by unfold lefI; split <;> omega))), (fun _ => Or.resolve_left e_8 (o34_143 e_5 e_6 e_7 c_9 e_25 e_27 e_29 e_36 e_38 e_40))⟩ dX12_whyNot_73
      · -- 59
        refine y_c1 (n := 2) C0 (by decide) dX12_whyNot_62 (fun v_133 e_134 => ?_)
        rw [hQ]
        exact y_iret C0 h (Fr.tr (Fr.tr (Fr.tr (Fr.mono u_2 (by decide)) (Fr.mono u_17 (by decide))) (Fr.mono u_49 (by decide))) (Fr.mono u_56 (by decide))) ⟨(o34_179 e_134), (o34_180 e_134), (o34_181 e_5 e_6 e_7 c_9 e_13 e_15 e_20 e_21 e_22 c_23 e_25 e_27 e_29 e_36 e_38 e_40 e_47 e_134), (fun q => ((o34_182 e_134) q).elim), (fun q => ((o34_182 e_134) q).elim)⟩ dX12_whyNot_63
    · -- 16
      refine y_c1 (n := 1) C0 (by decide) dX12_whyNot_19 (fun v_135 e_136 => ?_)
      rw [hQ]
      exact y_iret C0 h (Fr.tr (Fr.mono u_2 (by decide)) (Fr.mono u_17 (by decide))) ⟨(o34_20 e_136), (o34_116 e_136), (o34_183 e_5 e_6 e_7 c_9 e_13 e_15 e_20 e_21 e_22 c_23 e_136), (fun q => ((o34_118 e_136) q).elim), (fun q => ((o34_118 e_136) q).elim)⟩ dX12_whyNot_20
set_option maxHeartbeats 4000000 in
set_option maxRecDepth 100000 in
theorem c_X12_goes (l : Launch) (G : GG) (Z : RZ) (ad : Nat → Nat) (ws0 : va_W) (hT : Ty G (SM tt) ad ws0) (a1 : Int32) (a2 : Int32) (l1 : 0 ≤ a1.toInt) (u1 : a1.toInt ≤ 4) (l2 : 0 ≤ a2.toInt) (u2 : a2.toInt ≤ 3) (hC : CanM ws0 a1.toInt.toNat a2.toInt) (hLd : Laid ws0) : Mq l yX12_goes cX12_goes 5 (some .int) 4 G Z [.ref (ad 0), .int a1, .int a2] ws0 (PI G (SM tt) ad [1] ws0 (fun r u => (0 ≤ r.toInt) ∧ (r.toInt ≤ 2) ∧ (Pa ws0 u) ∧ (Pw ws0 u))) := by
  refine Mq.start (by decide) (Nat.le_of_ble_eq_true rfl) ?_
  intro p e s m below meth c A ls C0 hZ h hl
  have hl : lv_has ls 5 [(0, .ref (ad 0)), (1, .int a1), (2, .int a2)] := hl
  have h : Wt G (SM tt) ad A s s.heap [] ws0 := ⟨h, hT⟩
  obtain ⟨args, hargs⟩ : ∃ z, z = ([.ref (ad 0), .int a1, .int a2] : List Value).toArray := ⟨_, rfl⟩
  rw [← hargs] at C0 ⊢
  have C0 : Cx p s m args meth c RX12 cX12_goes 5 (some .int) := C0
  obtain ⟨Q, hQ⟩ : ∃ z, z = MQ below ((PI G (SM tt) ad [1] ws0 (fun r u => (0 ≤ r.toInt) ∧ (r.toInt ≤ 2) ∧ (Pa ws0 u) ∧ (Pw ws0 u))) A) args s 0 0 A := ⟨_, rfl⟩
  rw [← hQ]
  refine lv_aload_n C0.1 C0.2.1 dX12_goes_0 rfl (lv_at hl 0 rfl) ?_
  refine ng_X12_all C0 h kSM_0 q_1439 dX12_goes_1 ?_
  refine y_c2 (n := 36) C0 (by decide) dX12_goes_4 (fun v_1 e_2 => ?_)
  refine lv_iload_n C0.1 C0.2.1 dX12_goes_6 rfl (lv_at hl 1 rfl) ?_
  refine y_add C0 (o34_184 l1 u1 e_2 (le_min v_1) (le_max v_1) (le_min a1) (le_max a1)) (o34_185 l1 u1 e_2 (le_min v_1) (le_max v_1) (le_min a1) (le_max a1)) dX12_goes_7 (fun v_3 e_4 => ?_)
  refine y_iald C0 h kSM_1 rfl (by decide) (o34_186 l1 u1 e_2 e_4) (o34_187 l1 u1 e_2 e_4) dX12_goes_8 (fun v_5 e_6 e_7 e_8 => ?_)
  have f_9 := o34_125 v_3.toInt.toNat (o34_188 l1 u1 e_2 e_4) (o34_189 l1 u1 e_2 e_4)
  refine lv_istore_n (lv' := [(3, .int v_5), (0, .ref (ad 0)), (1, .int a1), (2, .int a2)]) C0.1 C0.2.1 dX12_goes_9 rfl hl (by decide) rfl (fun ls hl => ?_)
  refine lv_aload_n C0.1 C0.2.1 dX12_goes_10 rfl (lv_at hl 1 rfl) ?_
  refine lv_iload_n C0.1 C0.2.1 dX12_goes_11 rfl (lv_at hl 0 rfl) ?_
  refine y_c1 (n := 0) C0 (by decide) dX12_goes_12 (fun v_10 e_11 => ?_)
  refine y_ci h (y_rV (As := [.int v_5, .int v_10]) (rest := []) C0 hZ h (c_X12_isFreeIn l G Z ad _ h.2 v_5 v_10 (o34_2 (Int.le_trans f_9.1 e_7) (Int.le_trans e_8 f_9.2)) (o34_3 (Int.le_trans f_9.1 e_7) (Int.le_trans e_8 f_9.2))) k_X12_isFreeIn q_1741 q_84 q_1739 kSM_0 rfl rfl rfl hl.1 rfl rfl (Nat.le_of_ble_eq_true rfl) dX12_goes_13 ⟨Nat.le_of_ble_eq_true rfl, Nat.le_of_ble_eq_true rfl⟩ ⟨Nat.le_of_ble_eq_true rfl, Nat.le_of_ble_eq_true rfl⟩) (fun r_15 H locs ws_12 h u_13 p_14 => ?_)
  obtain ⟨e_16, e_17, e_18⟩ := p_14
  refine y_if_eq (tgt := 23) C0 dX12_goes_16 (by decide) (fun c_19 => ?_) (fun c_19 => ?_)
  · -- 16
    refine lv_iload_n C0.1 C0.2.1 dX12_goes_23 rfl (lv_at hl 3 rfl) ?_
    refine y_ci h (y_rS (As := [.int a2]) (rest := []) C0 hZ h (c_X12_leftsOf l G Z ad _ h.2 a2 (o34_139 l2 u2) (o34_140 l2 u2)) k_X12_leftsOf q_1769 q_1768 hl.1 rfl rfl (Nat.le_of_ble_eq_true rfl) dX12_goes_24 ⟨Nat.le_of_ble_eq_true rfl, Nat.le_of_ble_eq_true rfl⟩ ⟨Nat.le_of_ble_eq_true rfl, Nat.le_of_ble_eq_true rfl⟩) (fun r_23 H locs ws_20 h u_21 p_22 => ?_)
    obtain ⟨e_24, e_25, e_26⟩ := p_22
    refine lv_istore (lv' := [(4, .int r_23), (3, .int v_5), (0, .ref (ad 0)), (1, .int a1), (2, .int a2)]) C0.1 C0.2.1 dX12_goes_27 hl (by decide) rfl (fun ls hl => ?_)
    refine lv_aload_n C0.1 C0.2.1 dX12_goes_29 rfl (lv_at hl 2 rfl) ?_
    refine ng_X12_all C0 h kSM_0 q_1439 dX12_goes_30 ?_
    refine y_c2 (n := 41) C0 (by decide) dX12_goes_33 (fun v_27 e_28 => ?_)
    refine lv_iload_n C0.1 C0.2.1 dX12_goes_35 rfl (lv_at hl 3 rfl) ?_
    refine y_add C0 (o34_190 l1 u1 e_2 e_4 e_28 (le_min v_27) (le_max v_27) (le_min a1) (le_max a1) (le_min v_1) (le_max v_1) (le_min v_3) (le_max v_3)) (o34_191 l1 u1 e_2 e_4 e_28 (le_min v_27) (le_max v_27) (le_min a1) (le_max a1) (le_min v_1) (le_max v_1) (le_min v_3) (le_max v_3)) dX12_goes_36 (fun v_29 e_30 => ?_)
    refine lv_aload_n C0.1 C0.2.1 dX12_goes_37 rfl (lv_at hl 2 rfl) ?_
    refine ng_X12_all C0 h kSM_0 q_1439 dX12_goes_38 ?_
    refine y_c2 (n := 41) C0 (by decide) dX12_goes_41 (fun v_31 e_32 => ?_)
    refine lv_iload_n C0.1 C0.2.1 dX12_goes_43 rfl (lv_at hl 3 rfl) ?_
    refine y_add C0 (o34_192 l1 u1 e_2 e_4 e_28 e_30 e_32 (le_min v_31) (le_max v_31) (le_min a1) (le_max a1) (le_min v_1) (le_max v_1) (le_min v_3) (le_max v_3) (le_min v_27) (le_max v_27) (le_min v_29) (le_max v_29)) (o34_193 l1 u1 e_2 e_4 e_28 e_30 e_32 (le_min v_31) (le_max v_31) (le_min a1) (le_max a1) (le_min v_1) (le_max v_1) (le_min v_3) (le_max v_3) (le_min v_27) (le_max v_27) (le_min v_29) (le_max v_29)) dX12_goes_44 (fun v_33 e_34 => ?_)
    refine y_iald C0 h kSM_1 rfl (by decide) (o34_194 l1 u1 e_2 e_4 e_28 e_30 e_32 e_34) (o34_195 l1 u1 e_2 e_4 e_28 e_30 e_32 e_34) dX12_goes_45 (fun v_35 e_36 e_37 e_38 => ?_)
    have f_39 := o34_134 v_33.toInt.toNat (o34_196 l1 u1 e_2 e_4 e_28 e_30 e_32 e_34) (o34_197 l1 u1 e_2 e_4 e_28 e_30 e_32 e_34)
    refine lv_iload_n C0.1 C0.2.1 dX12_goes_46 rfl (lv_at hl 4 rfl) ?_
    refine y_ci h (y_rS (As := [.int v_35, .int a2]) (rest := [.int v_29, .ref (ad 1)]) C0 hZ h (c_X12_directionBy l G Z ad _ h.2 v_35 a2 (o34_139 (Int.le_trans f_39.1 e_37) (Int.le_trans e_38 f_39.2)) (o34_140 (Int.le_trans f_39.1 e_37) (Int.le_trans e_38 f_39.2)) (o34_198 l2 u2 e_24 e_25 e_26) (o34_199 l2 u2 e_24 e_25 e_26)) k_X12_directionBy q_1761 q_1760 hl.1 rfl rfl (Nat.le_of_ble_eq_true rfl) dX12_goes_47 ⟨Nat.le_of_ble_eq_true rfl, Nat.le_of_ble_eq_true rfl⟩ ⟨Nat.le_of_ble_eq_true rfl, Nat.le_of_ble_eq_true rfl⟩) (fun r_43 H locs ws_40 h u_41 p_42 => ?_)
    obtain ⟨e_44, e_45, e_46⟩ := p_42
    have f_49 := o34_202 v_29.toInt.toNat (o34_203 l1 u1 e_2 e_4 e_28 e_30 e_32 e_34) (o34_204 l1 u1 e_2 e_4 e_28 e_30 e_32 e_34)
    refine y_iast C0 h kSM_1 rfl (by decide) (o34_200 l1 u1 e_2 e_4 e_28 e_30 e_32 e_34) (o34_201 l1 u1 e_2 e_4 e_28 e_30 e_32 e_34) (Int.le_trans f_49.1 (o34_139 e_44 e_45)) (Int.le_trans (o34_140 e_44 e_45) f_49.2) dX12_goes_50 (fun H locs ws_47 h u_48 => ?_)
    refine lv_aload_n C0.1 C0.2.1 dX12_goes_51 rfl (lv_at hl 2 rfl) ?_
    refine ng_X12_all C0 h kSM_0 q_1439 dX12_goes_52 ?_
    refine y_c2 (n := 36) C0 (by decide) dX12_goes_55 (fun v_50 e_51 => ?_)
    refine lv_iload_n C0.1 C0.2.1 dX12_goes_57 rfl (lv_at hl 3 rfl) ?_
    refine y_add C0 (o34_208 l1 u1 e_2 e_4 e_28 e_30 e_32 e_34 e_51 (le_min v_50) (le_max v_50) (le_min a1) (le_max a1) (le_min v_1) (le_max v_1) (le_min v_3) (le_max v_3) (le_min v_27) (le_max v_27) (le_min v_29) (le_max v_29) (le_min v_31) (le_max v_31) (le_min v_33) (le_max v_33)) (o34_209 l1 u1 e_2 e_4 e_28 e_30 e_32 e_34 e_51 (le_min v_50) (le_max v_50) (le_min a1) (le_max a1) (le_min v_1) (le_max v_1) (le_min v_3) (le_max v_3) (le_min v_27) (le_max v_27) (le_min v_29) (le_max v_29) (le_min v_31) (le_max v_31) (le_min v_33) (le_max v_33)) dX12_goes_58 (fun v_52 e_53 => ?_)
    refine lv_aload_n C0.1 C0.2.1 dX12_goes_59 rfl (lv_at hl 2 rfl) ?_
    refine lv_iload_n C0.1 C0.2.1 dX12_goes_60 rfl (lv_at hl 1 rfl) ?_
    refine lv_aload_n C0.1 C0.2.1 dX12_goes_61 rfl (lv_at hl 2 rfl) ?_
    refine ng_X12_all C0 h kSM_0 q_1439 dX12_goes_62 ?_
    refine y_c2 (n := 41) C0 (by decide) dX12_goes_65 (fun v_54 e_55 => ?_)
    refine lv_iload_n C0.1 C0.2.1 dX12_goes_67 rfl (lv_at hl 3 rfl) ?_
    refine y_add C0 (o34_210 l1 u1 e_2 e_4 e_28 e_30 e_32 e_34 e_51 e_53 e_55 (le_min v_54) (le_max v_54) (le_min a1) (le_max a1) (le_min v_1) (le_max v_1) (le_min v_3) (le_max v_3) (le_min v_27) (le_max v_27) (le_min v_29) (le_max v_29) (le_min v_31) (le_max v_31) (le_min v_33) (le_max v_33) (le_min v_50) (le_max v_50) (le_min v_52) (le_max v_52)) (o34_211 l1 u1 e_2 e_4 e_28 e_30 e_32 e_34 e_51 e_53 e_55 (le_min v_54) (le_max v_54) (le_min a1) (le_max a1) (le_min v_1) (le_max v_1) (le_min v_3) (le_max v_3) (le_min v_27) (le_max v_27) (le_min v_29) (le_max v_29) (le_min v_31) (le_max v_31) (le_min v_33) (le_max v_33) (le_min v_50) (le_max v_50) (le_min v_52) (le_max v_52)) dX12_goes_68 (fun v_56 e_57 => ?_)
    refine y_iald C0 h kSM_1 rfl (by decide) (o34_212 l1 u1 e_2 e_4 e_28 e_30 e_32 e_34 e_51 e_53 e_55 e_57) (o34_213 l1 u1 e_2 e_4 e_28 e_30 e_32 e_34 e_51 e_53 e_55 e_57) dX12_goes_69 (fun v_58 e_59 e_60 e_61 => ?_)
    have f_62 := o34_134 v_56.toInt.toNat (o34_214 l1 u1 e_2 e_4 e_28 e_30 e_32 e_34 e_51 e_53 e_55 e_57) (o34_215 l1 u1 e_2 e_4 e_28 e_30 e_32 e_34 e_51 e_53 e_55 e_57)
    have q_63 : v_58.toInt = r_43.toInt := congrArg Int32.toInt (e_59.symm.trans (Eq.trans (congrArg (aI ws_47 1) (o34_216 l1 u1 e_2 e_4 e_28 e_30 e_32 e_34 e_51 e_53 e_55 e_57)) (Eq.trans rfl u_48.2.1)))
    refine y_ci h (y_rV (As := [.int v_5, .int v_58]) (rest := [.int v_52, .ref (ad 1)]) C0 hZ h (c_X12_streetFrom l G Z ad _ h.2 v_5 v_58 (o34_2 (Int.le_trans f_9.1 e_7) (Int.le_trans e_8 f_9.2)) (o34_3 (Int.le_trans f_9.1 e_7) (Int.le_trans e_8 f_9.2)) (o34_217 e_44 e_45 (Int.le_trans f_62.1 e_60) (Int.le_trans e_61 f_62.2) q_63) (o34_218 e_44 e_45 (Int.le_trans f_62.1 e_60) (Int.le_trans e_61 f_62.2) q_63) (Laid.pa hLd (Pa.tr (Pa.tr (Pa.tr (Pa.fr u_13 (by decide)) (Pa.fr u_21 (by decide))) (Pa.fr u_41 (by decide))) (Pa.st u_48 (o34_206 l1 u1 e_2 e_4 e_28 e_30 e_32 e_34) (o34_207 l1 u1 e_2 e_4 e_28 e_30 e_32 e_34))))) k_X12_streetFrom q_1713 q_80 q_1711 kSM_0 rfl rfl rfl hl.1 rfl rfl (Nat.le_of_ble_eq_true rfl) dX12_goes_70 ⟨Nat.le_of_ble_eq_true rfl, Nat.le_of_ble_eq_true rfl⟩ ⟨Nat.le_of_ble_eq_true rfl, Nat.le_of_ble_eq_true rfl⟩) (fun r_67 H locs ws_64 h u_65 p_66 => ?_)
    obtain ⟨e_68, e_69, e_70⟩ := p_66
    have g_71 := goes_ge hC (o34_219 l1 u1 e_2 e_4 e_28 e_30 e_32 e_34 e_51 e_53 e_55 e_57) (o34_220 l1 u1 e_2 e_4 e_28 e_30 e_32 e_34 e_51 e_53 e_55 e_57) e_6 (Eq.trans (Eq.symm (Eq.trans (Fr.aI u_21 kSM_1 (by decide)) (Fr.aI u_13 kSM_1 (by decide)))) e_36) e_46 (o34_221 l2 u2 e_24 e_25 e_26) (o34_222 e_44 e_45 (Int.le_trans f_62.1 e_60) (Int.le_trans e_61 f_62.2) q_63) (Pw.tr (Pw.tr (Pw.tr (Pw.fr u_13 (by decide)) (Pw.fr u_21 (by decide))) (Pw.fr u_41 (by decide))) (Pw.st u_48 (o34_205 l1 u1 e_2 e_4 e_28 e_30 e_32 e_34))) e_70 (o34_3 (Int.le_trans f_9.1 e_7) (Int.le_trans e_8 f_9.2))
    have f_74 := o34_225 v_52.toInt.toNat (o34_226 l1 u1 e_2 e_4 e_28 e_30 e_32 e_34 e_51 e_53 e_55 e_57) (o34_227 l1 u1 e_2 e_4 e_28 e_30 e_32 e_34 e_51 e_53 e_55 e_57)
    refine y_iast C0 h kSM_1 rfl (by decide) (o34_223 l1 u1 e_2 e_4 e_28 e_30 e_32 e_34 e_51 e_53 e_55 e_57) (o34_224 l1 u1 e_2 e_4 e_28 e_30 e_32 e_34 e_51 e_53 e_55 e_57) (Int.le_trans f_74.1 (o34_228 e_68 e_69 g_71)) (Int.le_trans (o34_229 e_68 e_69 g_71) f_74.2) dX12_goes_73 (fun H locs ws_72 h u_73 => ?_)
    refine lv_aload_n C0.1 C0.2.1 dX12_goes_74 rfl (lv_at hl 2 rfl) ?_
    refine ng_X12_all C0 h kSM_0 q_1439 dX12_goes_75 ?_
    refine y_c2 (n := 46) C0 (by decide) dX12_goes_78 (fun v_75 e_76 => ?_)
    refine lv_iload_n C0.1 C0.2.1 dX12_goes_80 rfl (lv_at hl 3 rfl) ?_
    refine y_add C0 (o34_233 l1 u1 e_2 e_4 e_28 e_30 e_32 e_34 e_51 e_53 e_55 e_57 e_76 (le_min v_75) (le_max v_75) (le_min a1) (le_max a1) (le_min v_1) (le_max v_1) (le_min v_3) (le_max v_3) (le_min v_27) (le_max v_27) (le_min v_29) (le_max v_29) (le_min v_31) (le_max v_31) (le_min v_33) (le_max v_33) (le_min v_50) (le_max v_50) (le_min v_52) (le_max v_52) (le_min v_54) (le_max v_54) (le_min v_56) (le_max v_56)) (o34_234 l1 u1 e_2 e_4 e_28 e_30 e_32 e_34 e_51 e_53 e_55 e_57 e_76 (le_min v_75) (le_max v_75) (le_min a1) (le_max a1) (le_min v_1) (le_max v_1) (le_min v_3) (le_max v_3) (le_min v_27) (le_max v_27) (le_min v_29) (le_max v_29) (le_min v_31) (le_max v_31) (le_min v_33) (le_max v_33) (le_min v_50) (le_max v_50) (le_min v_52) (le_max v_52) (le_min v_54) (le_max v_54) (le_min v_56) (le_max v_56)) dX12_goes_81 (fun v_77 e_78 => ?_)
    refine lv_dup2_11 C0.1 C0.2.1 dX12_goes_82 rfl rfl ?_
    refine y_iald C0 h kSM_1 rfl (by decide) (o34_235 l1 u1 e_2 e_4 e_28 e_30 e_32 e_34 e_51 e_53 e_55 e_57 e_76 e_78) (o34_236 l1 u1 e_2 e_4 e_28 e_30 e_32 e_34 e_51 e_53 e_55 e_57 e_76 e_78) dX12_goes_83 (fun v_79 e_80 e_81 e_82 => ?_)
    have f_83 := o34_145 v_77.toInt.toNat (o34_237 l1 u1 e_2 e_4 e_28 e_30 e_32 e_34 e_51 e_53 e_55 e_57 e_76 e_78) (o34_238 l1 u1 e_2 e_4 e_28 e_30 e_32 e_34 e_51 e_53 e_55 e_57 e_76 e_78)
    refine lv_iload C0.1 C0.2.1 dX12_goes_84 (lv_at hl 0 rfl) ?_
    have g_84 := goes_lf (z := v_10) hC (o34_239 l1 u1 e_2 e_4 e_28 e_30 e_32 e_34 e_51 e_53 e_55 e_57 e_76 e_78) (o34_240 l1 u1 e_2 e_4 e_28 e_30 e_32 e_34 e_51 e_53 e_55 e_57 e_76 e_78) e_6 (Eq.trans (Eq.symm (Eq.trans (u_73.2.2 v_77.toInt.toNat (o34_242 l1 u1 e_2 e_4 e_28 e_30 e_32 e_34 e_51 e_53 e_55 e_57 e_76 e_78)) (Eq.trans (Fr.aI u_65 kSM_1 (by decide)) (Eq.trans (u_48.2.2 v_77.toInt.toNat (o34_241 l1 u1 e_2 e_4 e_28 e_30 e_32 e_34 e_51 e_53 e_55 e_57 e_76 e_78)) (Eq.trans (Fr.aI u_41 kSM_1 (by decide)) (Eq.trans (Fr.aI u_21 kSM_1 (by decide)) (Fr.aI u_13 kSM_1 (by decide)))))))) e_80) e_11 (Or.elim e_18 (fun q => ((o34_243 e_16 e_17 c_19 q.1)).elim) (fun q => q.2))
    have g_85 : (a2.toInt < 2 ∧ 0 ≤ v_79.toInt) ∨ (2 ≤ a2.toInt ∧ a2.toInt - 1 ≤ v_79.toInt) := by
      unfold lefI at g_84
      split at g_84 <;> omega
    refine y_sub C0 (o34_244 l2 u2 e_24 e_25 e_26 (Int.le_trans f_83.1 e_81) (Int.le_trans e_82 f_83.2) g_85 (le_min v_79) (le_max v_79) (le_min r_23) (le_max r_23) (le_min a2) (le_max a2)) (o34_245 l2 u2 e_24 e_25 e_26 (Int.le_trans f_83.1 e_81) (Int.le_trans e_82 f_83.2) g_85 (le_min v_79) (le_max v_79) (le_min r_23) (le_max r_23) (le_min a2) (le_max a2)) dX12_goes_86 (fun v_86 e_87 => ?_)
    have f_90 := o34_246 v_77.toInt.toNat (o34_237 l1 u1 e_2 e_4 e_28 e_30 e_32 e_34 e_51 e_53 e_55 e_57 e_76 e_78) (o34_238 l1 u1 e_2 e_4 e_28 e_30 e_32 e_34 e_51 e_53 e_55 e_57 e_76 e_78)
    refine y_iast C0 h kSM_1 rfl (by decide) (o34_235 l1 u1 e_2 e_4 e_28 e_30 e_32 e_34 e_51 e_53 e_55 e_57 e_76 e_78) (o34_236 l1 u1 e_2 e_4 e_28 e_30 e_32 e_34 e_51 e_53 e_55 e_57 e_76 e_78) (Int.le_trans f_90.1 (o34_247 l2 u2 e_24 e_25 e_26 (Int.le_trans f_83.1 e_81) (Int.le_trans e_82 f_83.2) g_85 e_87)) (Int.le_trans (o34_248 l2 u2 e_24 e_25 e_26 (Int.le_trans f_83.1 e_81) (Int.le_trans e_82 f_83.2) g_85 e_87) f_90.2) dX12_goes_87 (fun H locs ws_88 h u_89 => ?_)
    refine lv_aload_n C0.1 C0.2.1 dX12_goes_88 rfl (lv_at hl 2 rfl) ?_
    refine ng_X12_all C0 h kSM_0 q_1439 dX12_goes_89 ?_
    refine y_c2 (n := 56) C0 (by decide) dX12_goes_92 (fun v_91 e_92 => ?_)
    refine lv_iload_n C0.1 C0.2.1 dX12_goes_94 rfl (lv_at hl 3 rfl) ?_
    refine y_add C0 (o34_252 l1 u1 e_2 e_4 e_28 e_30 e_32 e_34 e_51 e_53 e_55 e_57 e_76 e_78 e_92 (le_min v_91) (le_max v_91) (le_min a1) (le_max a1) (le_min v_1) (le_max v_1) (le_min v_3) (le_max v_3) (le_min v_27) (le_max v_27) (le_min v_29) (le_max v_29) (le_min v_31) (le_max v_31) (le_min v_33) (le_max v_33) (le_min v_50) (le_max v_50) (le_min v_52) (le_max v_52) (le_min v_54) (le_max v_54) (le_min v_56) (le_max v_56) (le_min v_75) (le_max v_75) (le_min v_77) (le_max v_77)) (o34_253 l1 u1 e_2 e_4 e_28 e_30 e_32 e_34 e_51 e_53 e_55 e_57 e_76 e_78 e_92 (le_min v_91) (le_max v_91) (le_min a1) (le_max a1) (le_min v_1) (le_max v_1) (le_min v_3) (le_max v_3) (le_min v_27) (le_max v_27) (le_min v_29) (le_max v_29) (le_min v_31) (le_max v_31) (le_min v_33) (le_max v_33) (le_min v_50) (le_max v_50) (le_min v_52) (le_max v_52) (le_min v_54) (le_max v_54) (le_min v_56) (le_max v_56) (le_min v_75) (le_max v_75) (le_min v_77) (le_max v_77)) dX12_goes_95 (fun v_93 e_94 => ?_)
    refine y_c3 (n := 999) C0 (by decide) dX12_goes_96 (fun v_95 e_96 => ?_)
    refine lv_aload_n C0.1 C0.2.1 dX12_goes_99 rfl (lv_at hl 2 rfl) ?_
    refine ng_X12_all C0 h kSM_0 q_1439 dX12_goes_100 ?_
    refine y_c2 (n := 56) C0 (by decide) dX12_goes_103 (fun v_97 e_98 => ?_)
    refine lv_iload_n C0.1 C0.2.1 dX12_goes_105 rfl (lv_at hl 3 rfl) ?_
    refine y_add C0 (o34_254 l1 u1 e_2 e_4 e_28 e_30 e_32 e_34 e_51 e_53 e_55 e_57 e_76 e_78 e_92 e_94 e_98 (le_min v_97) (le_max v_97) (le_min a1) (le_max a1) (le_min v_1) (le_max v_1) (le_min v_3) (le_max v_3) (le_min v_27) (le_max v_27) (le_min v_29) (le_max v_29) (le_min v_31) (le_max v_31) (le_min v_33) (le_max v_33) (le_min v_50) (le_max v_50) (le_min v_52) (le_max v_52) (le_min v_54) (le_max v_54) (le_min v_56) (le_max v_56) (le_min v_75) (le_max v_75) (le_min v_77) (le_max v_77) (le_min v_91) (le_max v_91) (le_min v_93) (le_max v_93)) (o34_255 l1 u1 e_2 e_4 e_28 e_30 e_32 e_34 e_51 e_53 e_55 e_57 e_76 e_78 e_92 e_94 e_98 (le_min v_97) (le_max v_97) (le_min a1) (le_max a1) (le_min v_1) (le_max v_1) (le_min v_3) (le_max v_3) (le_min v_27) (le_max v_27) (le_min v_29) (le_max v_29) (le_min v_31) (le_max v_31) (le_min v_33) (le_max v_33) (le_min v_50) (le_max v_50) (le_min v_52) (le_max v_52) (le_min v_54) (le_max v_54) (le_min v_56) (le_max v_56) (le_min v_75) (le_max v_75) (le_min v_77) (le_max v_77) (le_min v_91) (le_max v_91) (le_min v_93) (le_max v_93)) dX12_goes_106 (fun v_99 e_100 => ?_)
    refine y_iald C0 h kSM_1 rfl (by decide) (o34_256 l1 u1 e_2 e_4 e_28 e_30 e_32 e_34 e_51 e_53 e_55 e_57 e_76 e_78 e_92 e_94 e_98 e_100) (o34_257 l1 u1 e_2 e_4 e_28 e_30 e_32 e_34 e_51 e_53 e_55 e_57 e_76 e_78 e_92 e_94 e_98 e_100) dX12_goes_107 (fun v_101 e_102 e_103 e_104 => ?_)
    refine lv_iload C0.1 C0.2.1 dX12_goes_108 (lv_at hl 0 rfl) ?_
    refine y_iaddU C0 dX12_goes_110 (fun v_105 => ?_)
    refine y_ci h (y_rS (As := [.int v_95, .int v_105]) (rest := [.int v_93, .ref (ad 1)]) C0 hZ h (c_X12_lesser l G Z ad _ h.2 v_95 v_105) k_X12_lesser q_1784 q_1783 hl.1 rfl rfl (Nat.le_of_ble_eq_true rfl) dX12_goes_111 ⟨Nat.le_of_ble_eq_true rfl, Nat.le_of_ble_eq_true rfl⟩ ⟨Nat.le_of_ble_eq_true rfl, Nat.le_of_ble_eq_true rfl⟩) (fun r_109 H locs ws_106 h u_107 p_108 => ?_)
    obtain ⟨e_110, e_111⟩ := p_108
    have f_114 := o34_260 v_93.toInt.toNat (o34_261 l1 u1 e_2 e_4 e_28 e_30 e_32 e_34 e_51 e_53 e_55 e_57 e_76 e_78 e_92 e_94 e_98 e_100) (o34_262 l1 u1 e_2 e_4 e_28 e_30 e_32 e_34 e_51 e_53 e_55 e_57 e_76 e_78 e_92 e_94 e_98 e_100)
    refine y_iast C0 h kSM_1 rfl (by decide) (o34_258 l1 u1 e_2 e_4 e_28 e_30 e_32 e_34 e_51 e_53 e_55 e_57 e_76 e_78 e_92 e_94 e_98 e_100) (o34_259 l1 u1 e_2 e_4 e_28 e_30 e_32 e_34 e_51 e_53 e_55 e_57 e_76 e_78 e_92 e_94 e_98 e_100) (Int.le_trans f_114.1 (le_min r_109)) (Int.le_trans (le_max r_109) f_114.2) dX12_goes_114 (fun H locs ws_112 h u_113 => ?_)
    refine lv_aload_n C0.1 C0.2.1 dX12_goes_115 rfl (lv_at hl 2 rfl) ?_
    refine ng_X12_all C0 h kSM_0 q_1439 dX12_goes_116 ?_
    refine y_c2 (n := 111) C0 (by decide) dX12_goes_119 (fun v_115 e_116 => ?_)
    refine lv_dup2_11 C0.1 C0.2.1 dX12_goes_121 rfl rfl ?_
    refine y_iald C0 h kSM_1 rfl (by decide) (o34_266 e_116) (o34_267 e_116) dX12_goes_122 (fun v_117 e_118 e_119 e_120 => ?_)
    have e_121 : aI ws_112 1 111 = v_117 := (congrArg (aI ws_112 1) (ix_c (c := 111) (o34_268 e_116))).symm.trans e_118
    refine y_c1 (n := 1) C0 (by decide) dX12_goes_123 (fun v_122 e_123 => ?_)
    refine y_iaddU C0 dX12_goes_124 (fun v_124 => ?_)
    have f_127 := o34_269 v_115.toInt.toNat (o34_270 e_116) (o34_271 e_116)
    refine y_iast C0 h kSM_1 rfl (by decide) (o34_266 e_116) (o34_267 e_116) (Int.le_trans f_127.1 (le_min v_124)) (Int.le_trans (le_max v_124) f_127.2) dX12_goes_125 (fun H locs ws_125 h u_126 => ?_)
    have e_128 : aI ws_125 1 111 = v_124 := (congrArg (aI ws_125 1) (ix_c (c := 111) (o34_268 e_116))).symm.trans u_126.2.1
    refine lv_iload C0.1 C0.2.1 dX12_goes_126 (lv_at hl 0 rfl) ?_
    rw [hQ]
    exact y_iret C0 h (Fr.tr (Fr.tr (Fr.tr (Fr.tr (Fr.tr (Fr.tr (Fr.tr (Fr.tr (Fr.tr (Fr.mono u_13 (by decide)) (Fr.mono u_21 (by decide))) (Fr.mono u_41 (by decide))) (Fr.up u_48.1 kSM_1 (by decide))) (Fr.mono u_65 (by decide))) (Fr.up u_73.1 kSM_1 (by decide))) (Fr.up u_89.1 kSM_1 (by decide))) (Fr.mono u_107 (by decide))) (Fr.up u_113.1 kSM_1 (by decide))) (Fr.up u_126.1 kSM_1 (by decide))) ⟨(o34_275 l2 u2 e_24 e_25 e_26 (Int.le_trans f_83.1 e_81) (Int.le_trans e_82 f_83.2) g_85 e_87), (o34_276 l2 u2 e_24 e_25 e_26 (Int.le_trans f_83.1 e_81) (Int.le_trans e_82 f_83.2) g_85 e_87), (Pa.tr (Pa.tr (Pa.tr (Pa.tr (Pa.tr (Pa.tr (Pa.tr (Pa.tr (Pa.tr (Pa.fr u_13 (by decide)) (Pa.fr u_21 (by decide))) (Pa.fr u_41 (by decide))) (Pa.st u_48 (o34_206 l1 u1 e_2 e_4 e_28 e_30 e_32 e_34) (o34_207 l1 u1 e_2 e_4 e_28 e_30 e_32 e_34))) (Pa.fr u_65 (by decide))) (Pa.st u_73 (o34_231 l1 u1 e_2 e_4 e_28 e_30 e_32 e_34 e_51 e_53 e_55 e_57) (o34_232 l1 u1 e_2 e_4 e_28 e_30 e_32 e_34 e_51 e_53 e_55 e_57))) (Pa.st u_89 (o34_250 l1 u1 e_2 e_4 e_28 e_30 e_32 e_34 e_51 e_53 e_55 e_57 e_76 e_78) (o34_251 l1 u1 e_2 e_4 e_28 e_30 e_32 e_34 e_51 e_53 e_55 e_57 e_76 e_78))) (Pa.fr u_107 (by decide))) (Pa.st u_113 (o34_264 l1 u1 e_2 e_4 e_28 e_30 e_32 e_34 e_51 e_53 e_55 e_57 e_76 e_78 e_92 e_94 e_98 e_100) (o34_265 l1 u1 e_2 e_4 e_28 e_30 e_32 e_34 e_51 e_53 e_55 e_57 e_76 e_78 e_92 e_94 e_98 e_100))) (Pa.st u_126 (o34_273 e_116) (o34_274 e_116))), (Pw.tr (Pw.tr (Pw.tr (Pw.tr (Pw.tr (Pw.tr (Pw.tr (Pw.tr (Pw.tr (Pw.fr u_13 (by decide)) (Pw.fr u_21 (by decide))) (Pw.fr u_41 (by decide))) (Pw.st u_48 (o34_205 l1 u1 e_2 e_4 e_28 e_30 e_32 e_34))) (Pw.fr u_65 (by decide))) (Pw.st u_73 (o34_230 l1 u1 e_2 e_4 e_28 e_30 e_32 e_34 e_51 e_53 e_55 e_57))) (Pw.st u_89 (o34_249 l1 u1 e_2 e_4 e_28 e_30 e_32 e_34 e_51 e_53 e_55 e_57 e_76 e_78))) (Pw.fr u_107 (by decide))) (Pw.st u_113 (o34_263 l1 u1 e_2 e_4 e_28 e_30 e_32 e_34 e_51 e_53 e_55 e_57 e_76 e_78 e_92 e_94 e_98 e_100))) (Pw.st u_126 (o34_272 e_116)))⟩ dX12_goes_128
  · -- 16
    refine y_c1 (n := 0) C0 (by decide) dX12_goes_19 (fun v_129 e_130 => ?_)
    refine lv_goto (tgt := 27) C0.1 C0.2.1 dX12_goes_20 (by decide) ?_
    refine lv_istore (lv' := [(4, .int v_129), (3, .int v_5), (0, .ref (ad 0)), (1, .int a1), (2, .int a2)]) C0.1 C0.2.1 dX12_goes_27 hl (by decide) rfl (fun ls hl => ?_)
    refine lv_aload_n C0.1 C0.2.1 dX12_goes_29 rfl (lv_at hl 2 rfl) ?_
    refine ng_X12_all C0 h kSM_0 q_1439 dX12_goes_30 ?_
    refine y_c2 (n := 41) C0 (by decide) dX12_goes_33 (fun v_131 e_132 => ?_)
    refine lv_iload_n C0.1 C0.2.1 dX12_goes_35 rfl (lv_at hl 3 rfl) ?_
    refine y_add C0 (o34_190 l1 u1 e_2 e_4 e_132 (le_min v_131) (le_max v_131) (le_min a1) (le_max a1) (le_min v_1) (le_max v_1) (le_min v_3) (le_max v_3)) (o34_191 l1 u1 e_2 e_4 e_132 (le_min v_131) (le_max v_131) (le_min a1) (le_max a1) (le_min v_1) (le_max v_1) (le_min v_3) (le_max v_3)) dX12_goes_36 (fun v_133 e_134 => ?_)
    refine lv_aload_n C0.1 C0.2.1 dX12_goes_37 rfl (lv_at hl 2 rfl) ?_
    refine ng_X12_all C0 h kSM_0 q_1439 dX12_goes_38 ?_
    refine y_c2 (n := 41) C0 (by decide) dX12_goes_41 (fun v_135 e_136 => ?_)
    refine lv_iload_n C0.1 C0.2.1 dX12_goes_43 rfl (lv_at hl 3 rfl) ?_
    refine y_add C0 (o34_192 l1 u1 e_2 e_4 e_132 e_134 e_136 (le_min v_135) (le_max v_135) (le_min a1) (le_max a1) (le_min v_1) (le_max v_1) (le_min v_3) (le_max v_3) (le_min v_131) (le_max v_131) (le_min v_133) (le_max v_133)) (o34_193 l1 u1 e_2 e_4 e_132 e_134 e_136 (le_min v_135) (le_max v_135) (le_min a1) (le_max a1) (le_min v_1) (le_max v_1) (le_min v_3) (le_max v_3) (le_min v_131) (le_max v_131) (le_min v_133) (le_max v_133)) dX12_goes_44 (fun v_137 e_138 => ?_)
    refine y_iald C0 h kSM_1 rfl (by decide) (o34_194 l1 u1 e_2 e_4 e_132 e_134 e_136 e_138) (o34_195 l1 u1 e_2 e_4 e_132 e_134 e_136 e_138) dX12_goes_45 (fun v_139 e_140 e_141 e_142 => ?_)
    have f_143 := o34_134 v_137.toInt.toNat (o34_196 l1 u1 e_2 e_4 e_132 e_134 e_136 e_138) (o34_197 l1 u1 e_2 e_4 e_132 e_134 e_136 e_138)
    refine lv_iload_n C0.1 C0.2.1 dX12_goes_46 rfl (lv_at hl 4 rfl) ?_
    refine y_ci h (y_rS (As := [.int v_139, .int a2]) (rest := [.int v_133, .ref (ad 1)]) C0 hZ h (c_X12_directionBy l G Z ad _ h.2 v_139 a2 (o34_139 (Int.le_trans f_143.1 e_141) (Int.le_trans e_142 f_143.2)) (o34_140 (Int.le_trans f_143.1 e_141) (Int.le_trans e_142 f_143.2)) (o34_139 l2 u2) (o34_140 l2 u2)) k_X12_directionBy q_1761 q_1760 hl.1 rfl rfl (Nat.le_of_ble_eq_true rfl) dX12_goes_47 ⟨Nat.le_of_ble_eq_true rfl, Nat.le_of_ble_eq_true rfl⟩ ⟨Nat.le_of_ble_eq_true rfl, Nat.le_of_ble_eq_true rfl⟩) (fun r_147 H locs ws_144 h u_145 p_146 => ?_)
    obtain ⟨e_148, e_149, e_150⟩ := p_146
    have f_153 := o34_202 v_133.toInt.toNat (o34_203 l1 u1 e_2 e_4 e_132 e_134 e_136 e_138) (o34_204 l1 u1 e_2 e_4 e_132 e_134 e_136 e_138)
    refine y_iast C0 h kSM_1 rfl (by decide) (o34_200 l1 u1 e_2 e_4 e_132 e_134 e_136 e_138) (o34_201 l1 u1 e_2 e_4 e_132 e_134 e_136 e_138) (Int.le_trans f_153.1 (o34_139 e_148 e_149)) (Int.le_trans (o34_140 e_148 e_149) f_153.2) dX12_goes_50 (fun H locs ws_151 h u_152 => ?_)
    refine lv_aload_n C0.1 C0.2.1 dX12_goes_51 rfl (lv_at hl 2 rfl) ?_
    refine ng_X12_all C0 h kSM_0 q_1439 dX12_goes_52 ?_
    refine y_c2 (n := 36) C0 (by decide) dX12_goes_55 (fun v_154 e_155 => ?_)
    refine lv_iload_n C0.1 C0.2.1 dX12_goes_57 rfl (lv_at hl 3 rfl) ?_
    refine y_add C0 (o34_208 l1 u1 e_2 e_4 e_132 e_134 e_136 e_138 e_155 (le_min v_154) (le_max v_154) (le_min a1) (le_max a1) (le_min v_1) (le_max v_1) (le_min v_3) (le_max v_3) (le_min v_131) (le_max v_131) (le_min v_133) (le_max v_133) (le_min v_135) (le_max v_135) (le_min v_137) (le_max v_137)) (o34_209 l1 u1 e_2 e_4 e_132 e_134 e_136 e_138 e_155 (le_min v_154) (le_max v_154) (le_min a1) (le_max a1) (le_min v_1) (le_max v_1) (le_min v_3) (le_max v_3) (le_min v_131) (le_max v_131) (le_min v_133) (le_max v_133) (le_min v_135) (le_max v_135) (le_min v_137) (le_max v_137)) dX12_goes_58 (fun v_156 e_157 => ?_)
    refine lv_aload_n C0.1 C0.2.1 dX12_goes_59 rfl (lv_at hl 2 rfl) ?_
    refine lv_iload_n C0.1 C0.2.1 dX12_goes_60 rfl (lv_at hl 1 rfl) ?_
    refine lv_aload_n C0.1 C0.2.1 dX12_goes_61 rfl (lv_at hl 2 rfl) ?_
    refine ng_X12_all C0 h kSM_0 q_1439 dX12_goes_62 ?_
    refine y_c2 (n := 41) C0 (by decide) dX12_goes_65 (fun v_158 e_159 => ?_)
    refine lv_iload_n C0.1 C0.2.1 dX12_goes_67 rfl (lv_at hl 3 rfl) ?_
    refine y_add C0 (o34_210 l1 u1 e_2 e_4 e_132 e_134 e_136 e_138 e_155 e_157 e_159 (le_min v_158) (le_max v_158) (le_min a1) (le_max a1) (le_min v_1) (le_max v_1) (le_min v_3) (le_max v_3) (le_min v_131) (le_max v_131) (le_min v_133) (le_max v_133) (le_min v_135) (le_max v_135) (le_min v_137) (le_max v_137) (le_min v_154) (le_max v_154) (le_min v_156) (le_max v_156)) (o34_211 l1 u1 e_2 e_4 e_132 e_134 e_136 e_138 e_155 e_157 e_159 (le_min v_158) (le_max v_158) (le_min a1) (le_max a1) (le_min v_1) (le_max v_1) (le_min v_3) (le_max v_3) (le_min v_131) (le_max v_131) (le_min v_133) (le_max v_133) (le_min v_135) (le_max v_135) (le_min v_137) (le_max v_137) (le_min v_154) (le_max v_154) (le_min v_156) (le_max v_156)) dX12_goes_68 (fun v_160 e_161 => ?_)
    refine y_iald C0 h kSM_1 rfl (by decide) (o34_212 l1 u1 e_2 e_4 e_132 e_134 e_136 e_138 e_155 e_157 e_159 e_161) (o34_213 l1 u1 e_2 e_4 e_132 e_134 e_136 e_138 e_155 e_157 e_159 e_161) dX12_goes_69 (fun v_162 e_163 e_164 e_165 => ?_)
    have f_166 := o34_134 v_160.toInt.toNat (o34_214 l1 u1 e_2 e_4 e_132 e_134 e_136 e_138 e_155 e_157 e_159 e_161) (o34_215 l1 u1 e_2 e_4 e_132 e_134 e_136 e_138 e_155 e_157 e_159 e_161)
    have q_167 : v_162.toInt = r_147.toInt := congrArg Int32.toInt (e_163.symm.trans (Eq.trans (congrArg (aI ws_151 1) (o34_216 l1 u1 e_2 e_4 e_132 e_134 e_136 e_138 e_155 e_157 e_159 e_161)) (Eq.trans rfl u_152.2.1)))
    refine y_ci h (y_rV (As := [.int v_5, .int v_162]) (rest := [.int v_156, .ref (ad 1)]) C0 hZ h (c_X12_streetFrom l G Z ad _ h.2 v_5 v_162 (o34_2 (Int.le_trans f_9.1 e_7) (Int.le_trans e_8 f_9.2)) (o34_3 (Int.le_trans f_9.1 e_7) (Int.le_trans e_8 f_9.2)) (o34_217 e_148 e_149 (Int.le_trans f_166.1 e_164) (Int.le_trans e_165 f_166.2) q_167) (o34_218 e_148 e_149 (Int.le_trans f_166.1 e_164) (Int.le_trans e_165 f_166.2) q_167) (Laid.pa hLd (Pa.tr (Pa.tr (Pa.fr u_13 (by decide)) (Pa.fr u_145 (by decide))) (Pa.st u_152 (o34_206 l1 u1 e_2 e_4 e_132 e_134 e_136 e_138) (o34_207 l1 u1 e_2 e_4 e_132 e_134 e_136 e_138))))) k_X12_streetFrom q_1713 q_80 q_1711 kSM_0 rfl rfl rfl hl.1 rfl rfl (Nat.le_of_ble_eq_true rfl) dX12_goes_70 ⟨Nat.le_of_ble_eq_true rfl, Nat.le_of_ble_eq_true rfl⟩ ⟨Nat.le_of_ble_eq_true rfl, Nat.le_of_ble_eq_true rfl⟩) (fun r_171 H locs ws_168 h u_169 p_170 => ?_)
    obtain ⟨e_172, e_173, e_174⟩ := p_170
    have g_175 := goes_ge hC (o34_219 l1 u1 e_2 e_4 e_132 e_134 e_136 e_138 e_155 e_157 e_159 e_161) (o34_220 l1 u1 e_2 e_4 e_132 e_134 e_136 e_138 e_155 e_157 e_159 e_161) e_6 (Eq.trans (Eq.symm (Fr.aI u_13 kSM_1 (by decide))) e_140) e_150 (o34_277 l2 u2) (o34_222 e_148 e_149 (Int.le_trans f_166.1 e_164) (Int.le_trans e_165 f_166.2) q_167) (Pw.tr (Pw.tr (Pw.fr u_13 (by decide)) (Pw.fr u_145 (by decide))) (Pw.st u_152 (o34_205 l1 u1 e_2 e_4 e_132 e_134 e_136 e_138))) e_174 (o34_3 (Int.le_trans f_9.1 e_7) (Int.le_trans e_8 f_9.2))
    have f_178 := o34_225 v_156.toInt.toNat (o34_226 l1 u1 e_2 e_4 e_132 e_134 e_136 e_138 e_155 e_157 e_159 e_161) (o34_227 l1 u1 e_2 e_4 e_132 e_134 e_136 e_138 e_155 e_157 e_159 e_161)
    refine y_iast C0 h kSM_1 rfl (by decide) (o34_223 l1 u1 e_2 e_4 e_132 e_134 e_136 e_138 e_155 e_157 e_159 e_161) (o34_224 l1 u1 e_2 e_4 e_132 e_134 e_136 e_138 e_155 e_157 e_159 e_161) (Int.le_trans f_178.1 (o34_228 e_172 e_173 g_175)) (Int.le_trans (o34_229 e_172 e_173 g_175) f_178.2) dX12_goes_73 (fun H locs ws_176 h u_177 => ?_)
    refine lv_aload_n C0.1 C0.2.1 dX12_goes_74 rfl (lv_at hl 2 rfl) ?_
    refine ng_X12_all C0 h kSM_0 q_1439 dX12_goes_75 ?_
    refine y_c2 (n := 46) C0 (by decide) dX12_goes_78 (fun v_179 e_180 => ?_)
    refine lv_iload_n C0.1 C0.2.1 dX12_goes_80 rfl (lv_at hl 3 rfl) ?_
    refine y_add C0 (o34_233 l1 u1 e_2 e_4 e_132 e_134 e_136 e_138 e_155 e_157 e_159 e_161 e_180 (le_min v_179) (le_max v_179) (le_min a1) (le_max a1) (le_min v_1) (le_max v_1) (le_min v_3) (le_max v_3) (le_min v_131) (le_max v_131) (le_min v_133) (le_max v_133) (le_min v_135) (le_max v_135) (le_min v_137) (le_max v_137) (le_min v_154) (le_max v_154) (le_min v_156) (le_max v_156) (le_min v_158) (le_max v_158) (le_min v_160) (le_max v_160)) (o34_234 l1 u1 e_2 e_4 e_132 e_134 e_136 e_138 e_155 e_157 e_159 e_161 e_180 (le_min v_179) (le_max v_179) (le_min a1) (le_max a1) (le_min v_1) (le_max v_1) (le_min v_3) (le_max v_3) (le_min v_131) (le_max v_131) (le_min v_133) (le_max v_133) (le_min v_135) (le_max v_135) (le_min v_137) (le_max v_137) (le_min v_154) (le_max v_154) (le_min v_156) (le_max v_156) (le_min v_158) (le_max v_158) (le_min v_160) (le_max v_160)) dX12_goes_81 (fun v_181 e_182 => ?_)
    refine lv_dup2_11 C0.1 C0.2.1 dX12_goes_82 rfl rfl ?_
    refine y_iald C0 h kSM_1 rfl (by decide) (o34_235 l1 u1 e_2 e_4 e_132 e_134 e_136 e_138 e_155 e_157 e_159 e_161 e_180 e_182) (o34_236 l1 u1 e_2 e_4 e_132 e_134 e_136 e_138 e_155 e_157 e_159 e_161 e_180 e_182) dX12_goes_83 (fun v_183 e_184 e_185 e_186 => ?_)
    have f_187 := o34_145 v_181.toInt.toNat (o34_237 l1 u1 e_2 e_4 e_132 e_134 e_136 e_138 e_155 e_157 e_159 e_161 e_180 e_182) (o34_238 l1 u1 e_2 e_4 e_132 e_134 e_136 e_138 e_155 e_157 e_159 e_161 e_180 e_182)
    refine lv_iload C0.1 C0.2.1 dX12_goes_84 (lv_at hl 0 rfl) ?_
    refine y_sub C0 (o34_278 e_130 (Int.le_trans f_187.1 e_185) (Int.le_trans e_186 f_187.2) (le_min v_183) (le_max v_183) (le_min v_129) (le_max v_129)) (o34_279 e_130 (Int.le_trans f_187.1 e_185) (Int.le_trans e_186 f_187.2) (le_min v_183) (le_max v_183) (le_min v_129) (le_max v_129)) dX12_goes_86 (fun v_188 e_189 => ?_)
    have f_192 := o34_246 v_181.toInt.toNat (o34_237 l1 u1 e_2 e_4 e_132 e_134 e_136 e_138 e_155 e_157 e_159 e_161 e_180 e_182) (o34_238 l1 u1 e_2 e_4 e_132 e_134 e_136 e_138 e_155 e_157 e_159 e_161 e_180 e_182)
    refine y_iast C0 h kSM_1 rfl (by decide) (o34_235 l1 u1 e_2 e_4 e_132 e_134 e_136 e_138 e_155 e_157 e_159 e_161 e_180 e_182) (o34_236 l1 u1 e_2 e_4 e_132 e_134 e_136 e_138 e_155 e_157 e_159 e_161 e_180 e_182) (Int.le_trans f_192.1 (o34_280 e_130 (Int.le_trans f_187.1 e_185) (Int.le_trans e_186 f_187.2) e_189)) (Int.le_trans (o34_281 e_130 (Int.le_trans f_187.1 e_185) (Int.le_trans e_186 f_187.2) e_189) f_192.2) dX12_goes_87 (fun H locs ws_190 h u_191 => ?_)
    refine lv_aload_n C0.1 C0.2.1 dX12_goes_88 rfl (lv_at hl 2 rfl) ?_
    refine ng_X12_all C0 h kSM_0 q_1439 dX12_goes_89 ?_
    refine y_c2 (n := 56) C0 (by decide) dX12_goes_92 (fun v_193 e_194 => ?_)
    refine lv_iload_n C0.1 C0.2.1 dX12_goes_94 rfl (lv_at hl 3 rfl) ?_
    refine y_add C0 (o34_252 l1 u1 e_2 e_4 e_132 e_134 e_136 e_138 e_155 e_157 e_159 e_161 e_180 e_182 e_194 (le_min v_193) (le_max v_193) (le_min a1) (le_max a1) (le_min v_1) (le_max v_1) (le_min v_3) (le_max v_3) (le_min v_131) (le_max v_131) (le_min v_133) (le_max v_133) (le_min v_135) (le_max v_135) (le_min v_137) (le_max v_137) (le_min v_154) (le_max v_154) (le_min v_156) (le_max v_156) (le_min v_158) (le_max v_158) (le_min v_160) (le_max v_160) (le_min v_179) (le_max v_179) (le_min v_181) (le_max v_181)) (o34_253 l1 u1 e_2 e_4 e_132 e_134 e_136 e_138 e_155 e_157 e_159 e_161 e_180 e_182 e_194 (le_min v_193) (le_max v_193) (le_min a1) (le_max a1) (le_min v_1) (le_max v_1) (le_min v_3) (le_max v_3) (le_min v_131) (le_max v_131) (le_min v_133) (le_max v_133) (le_min v_135) (le_max v_135) (le_min v_137) (le_max v_137) (le_min v_154) (le_max v_154) (le_min v_156) (le_max v_156) (le_min v_158) (le_max v_158) (le_min v_160) (le_max v_160) (le_min v_179) (le_max v_179) (le_min v_181) (le_max v_181)) dX12_goes_95 (fun v_195 e_196 => ?_)
    refine y_c3 (n := 999) C0 (by decide) dX12_goes_96 (fun v_197 e_198 => ?_)
    refine lv_aload_n C0.1 C0.2.1 dX12_goes_99 rfl (lv_at hl 2 rfl) ?_
    refine ng_X12_all C0 h kSM_0 q_1439 dX12_goes_100 ?_
    refine y_c2 (n := 56) C0 (by decide) dX12_goes_103 (fun v_199 e_200 => ?_)
    refine lv_iload_n C0.1 C0.2.1 dX12_goes_105 rfl (lv_at hl 3 rfl) ?_
    refine y_add C0 (o34_254 l1 u1 e_2 e_4 e_132 e_134 e_136 e_138 e_155 e_157 e_159 e_161 e_180 e_182 e_194 e_196 e_200 (le_min v_199) (le_max v_199) (le_min a1) (le_max a1) (le_min v_1) (le_max v_1) (le_min v_3) (le_max v_3) (le_min v_131) (le_max v_131) (le_min v_133) (le_max v_133) (le_min v_135) (le_max v_135) (le_min v_137) (le_max v_137) (le_min v_154) (le_max v_154) (le_min v_156) (le_max v_156) (le_min v_158) (le_max v_158) (le_min v_160) (le_max v_160) (le_min v_179) (le_max v_179) (le_min v_181) (le_max v_181) (le_min v_193) (le_max v_193) (le_min v_195) (le_max v_195)) (o34_255 l1 u1 e_2 e_4 e_132 e_134 e_136 e_138 e_155 e_157 e_159 e_161 e_180 e_182 e_194 e_196 e_200 (le_min v_199) (le_max v_199) (le_min a1) (le_max a1) (le_min v_1) (le_max v_1) (le_min v_3) (le_max v_3) (le_min v_131) (le_max v_131) (le_min v_133) (le_max v_133) (le_min v_135) (le_max v_135) (le_min v_137) (le_max v_137) (le_min v_154) (le_max v_154) (le_min v_156) (le_max v_156) (le_min v_158) (le_max v_158) (le_min v_160) (le_max v_160) (le_min v_179) (le_max v_179) (le_min v_181) (le_max v_181) (le_min v_193) (le_max v_193) (le_min v_195) (le_max v_195)) dX12_goes_106 (fun v_201 e_202 => ?_)
    refine y_iald C0 h kSM_1 rfl (by decide) (o34_256 l1 u1 e_2 e_4 e_132 e_134 e_136 e_138 e_155 e_157 e_159 e_161 e_180 e_182 e_194 e_196 e_200 e_202) (o34_257 l1 u1 e_2 e_4 e_132 e_134 e_136 e_138 e_155 e_157 e_159 e_161 e_180 e_182 e_194 e_196 e_200 e_202) dX12_goes_107 (fun v_203 e_204 e_205 e_206 => ?_)
    refine lv_iload C0.1 C0.2.1 dX12_goes_108 (lv_at hl 0 rfl) ?_
    refine y_add C0 (o34_282 e_130 (Int.le_trans f_187.1 e_185) (Int.le_trans e_186 f_187.2) e_189 (le_min v_203) (le_max v_203) (le_min v_129) (le_max v_129) (le_min v_183) (le_max v_183) (le_min v_188) (le_max v_188)) (o34_283 e_130 (Int.le_trans f_187.1 e_185) (Int.le_trans e_186 f_187.2) e_189 (le_min v_203) (le_max v_203) (le_min v_129) (le_max v_129) (le_min v_183) (le_max v_183) (le_min v_188) (le_max v_188)) dX12_goes_110 (fun v_207 e_208 => ?_)
    refine y_ci h (y_rS (As := [.int v_197, .int v_207]) (rest := [.int v_195, .ref (ad 1)]) C0 hZ h (c_X12_lesser l G Z ad _ h.2 v_197 v_207) k_X12_lesser q_1784 q_1783 hl.1 rfl rfl (Nat.le_of_ble_eq_true rfl) dX12_goes_111 ⟨Nat.le_of_ble_eq_true rfl, Nat.le_of_ble_eq_true rfl⟩ ⟨Nat.le_of_ble_eq_true rfl, Nat.le_of_ble_eq_true rfl⟩) (fun r_212 H locs ws_209 h u_210 p_211 => ?_)
    obtain ⟨e_213, e_214⟩ := p_211
    have f_217 := o34_260 v_195.toInt.toNat (o34_261 l1 u1 e_2 e_4 e_132 e_134 e_136 e_138 e_155 e_157 e_159 e_161 e_180 e_182 e_194 e_196 e_200 e_202) (o34_262 l1 u1 e_2 e_4 e_132 e_134 e_136 e_138 e_155 e_157 e_159 e_161 e_180 e_182 e_194 e_196 e_200 e_202)
    refine y_iast C0 h kSM_1 rfl (by decide) (o34_258 l1 u1 e_2 e_4 e_132 e_134 e_136 e_138 e_155 e_157 e_159 e_161 e_180 e_182 e_194 e_196 e_200 e_202) (o34_259 l1 u1 e_2 e_4 e_132 e_134 e_136 e_138 e_155 e_157 e_159 e_161 e_180 e_182 e_194 e_196 e_200 e_202) (Int.le_trans f_217.1 (le_min r_212)) (Int.le_trans (le_max r_212) f_217.2) dX12_goes_114 (fun H locs ws_215 h u_216 => ?_)
    refine lv_aload_n C0.1 C0.2.1 dX12_goes_115 rfl (lv_at hl 2 rfl) ?_
    refine ng_X12_all C0 h kSM_0 q_1439 dX12_goes_116 ?_
    refine y_c2 (n := 111) C0 (by decide) dX12_goes_119 (fun v_218 e_219 => ?_)
    refine lv_dup2_11 C0.1 C0.2.1 dX12_goes_121 rfl rfl ?_
    refine y_iald C0 h kSM_1 rfl (by decide) (o34_266 e_219) (o34_267 e_219) dX12_goes_122 (fun v_220 e_221 e_222 e_223 => ?_)
    have e_224 : aI ws_215 1 111 = v_220 := (congrArg (aI ws_215 1) (ix_c (c := 111) (o34_268 e_219))).symm.trans e_221
    refine y_c1 (n := 1) C0 (by decide) dX12_goes_123 (fun v_225 e_226 => ?_)
    refine y_iaddU C0 dX12_goes_124 (fun v_227 => ?_)
    have f_230 := o34_269 v_218.toInt.toNat (o34_270 e_219) (o34_271 e_219)
    refine y_iast C0 h kSM_1 rfl (by decide) (o34_266 e_219) (o34_267 e_219) (Int.le_trans f_230.1 (le_min v_227)) (Int.le_trans (le_max v_227) f_230.2) dX12_goes_125 (fun H locs ws_228 h u_229 => ?_)
    have e_231 : aI ws_228 1 111 = v_227 := (congrArg (aI ws_228 1) (ix_c (c := 111) (o34_268 e_219))).symm.trans u_229.2.1
    refine lv_iload C0.1 C0.2.1 dX12_goes_126 (lv_at hl 0 rfl) ?_
    rw [hQ]
    exact y_iret C0 h (Fr.tr (Fr.tr (Fr.tr (Fr.tr (Fr.tr (Fr.tr (Fr.tr (Fr.tr (Fr.mono u_13 (by decide)) (Fr.mono u_145 (by decide))) (Fr.up u_152.1 kSM_1 (by decide))) (Fr.mono u_169 (by decide))) (Fr.up u_177.1 kSM_1 (by decide))) (Fr.up u_191.1 kSM_1 (by decide))) (Fr.mono u_210 (by decide))) (Fr.up u_216.1 kSM_1 (by decide))) (Fr.up u_229.1 kSM_1 (by decide))) ⟨(o34_284 e_130 (Int.le_trans f_187.1 e_185) (Int.le_trans e_186 f_187.2) e_189 e_198 e_208 e_213 e_214), (o34_285 e_130 (Int.le_trans f_187.1 e_185) (Int.le_trans e_186 f_187.2) e_189 e_198 e_208 e_213 e_214), (Pa.tr (Pa.tr (Pa.tr (Pa.tr (Pa.tr (Pa.tr (Pa.tr (Pa.tr (Pa.fr u_13 (by decide)) (Pa.fr u_145 (by decide))) (Pa.st u_152 (o34_206 l1 u1 e_2 e_4 e_132 e_134 e_136 e_138) (o34_207 l1 u1 e_2 e_4 e_132 e_134 e_136 e_138))) (Pa.fr u_169 (by decide))) (Pa.st u_177 (o34_231 l1 u1 e_2 e_4 e_132 e_134 e_136 e_138 e_155 e_157 e_159 e_161) (o34_232 l1 u1 e_2 e_4 e_132 e_134 e_136 e_138 e_155 e_157 e_159 e_161))) (Pa.st u_191 (o34_250 l1 u1 e_2 e_4 e_132 e_134 e_136 e_138 e_155 e_157 e_159 e_161 e_180 e_182) (o34_251 l1 u1 e_2 e_4 e_132 e_134 e_136 e_138 e_155 e_157 e_159 e_161 e_180 e_182))) (Pa.fr u_210 (by decide))) (Pa.st u_216 (o34_264 l1 u1 e_2 e_4 e_132 e_134 e_136 e_138 e_155 e_157 e_159 e_161 e_180 e_182 e_194 e_196 e_200 e_202) (o34_265 l1 u1 e_2 e_4 e_132 e_134 e_136 e_138 e_155 e_157 e_159 e_161 e_180 e_182 e_194 e_196 e_200 e_202))) (Pa.st u_229 (o34_273 e_219) (o34_274 e_219))), (Pw.tr (Pw.tr (Pw.tr (Pw.tr (Pw.tr (Pw.tr (Pw.tr (Pw.tr (Pw.fr u_13 (by decide)) (Pw.fr u_145 (by decide))) (Pw.st u_152 (o34_205 l1 u1 e_2 e_4 e_132 e_134 e_136 e_138))) (Pw.fr u_169 (by decide))) (Pw.st u_177 (o34_230 l1 u1 e_2 e_4 e_132 e_134 e_136 e_138 e_155 e_157 e_159 e_161))) (Pw.st u_191 (o34_249 l1 u1 e_2 e_4 e_132 e_134 e_136 e_138 e_155 e_157 e_159 e_161 e_180 e_182))) (Pw.fr u_210 (by decide))) (Pw.st u_216 (o34_263 l1 u1 e_2 e_4 e_132 e_134 e_136 e_138 e_155 e_157 e_159 e_161 e_180 e_182 e_194 e_196 e_200 e_202))) (Pw.st u_229 (o34_272 e_219)))⟩ dX12_goes_128
