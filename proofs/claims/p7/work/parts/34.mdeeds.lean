theorem dX12_areThere_0 : decode cX12_areThere 0 = .ok (.aload_n 0, 1) := by decide +kernel
theorem dX12_areThere_1 : decode cX12_areThere 1 = .ok (.iload_n 1, 1) := by decide +kernel
theorem dX12_areThere_2 : decode cX12_areThere 2 = .ok (.i2l, 1) := by decide +kernel
theorem dX12_areThere_3 : decode cX12_areThere 3 = .ok (.invokevirtual 253, 3) := by decide +kernel
theorem dX12_areThere_6 : decode cX12_areThere 6 = .ok (.ifCond .eq 16, 3) := by decide +kernel
theorem dX12_areThere_9 : decode cX12_areThere 9 = .ok (.aload_n 0, 1) := by decide +kernel
theorem dX12_areThere_10 : decode cX12_areThere 10 = .ok (.iload_n 2, 1) := by decide +kernel
theorem dX12_areThere_11 : decode cX12_areThere 11 = .ok (.i2l, 1) := by decide +kernel
theorem dX12_areThere_12 : decode cX12_areThere 12 = .ok (.invokevirtual 257, 3) := by decide +kernel
theorem dX12_areThere_15 : decode cX12_areThere 15 = .ok (.ifCond .eq 7, 3) := by decide +kernel
theorem dX12_areThere_18 : decode cX12_areThere 18 = .ok (.iconst 1, 1) := by decide +kernel
theorem dX12_areThere_19 : decode cX12_areThere 19 = .ok (.goto 4, 3) := by decide +kernel
theorem dX12_areThere_22 : decode cX12_areThere 22 = .ok (.iconst 0, 1) := by decide +kernel
theorem dX12_areThere_23 : decode cX12_areThere 23 = .ok (.ireturn, 1) := by decide +kernel
theorem dX12_goes_0 : decode cX12_goes 0 = .ok (.aload_n 0, 1) := by decide +kernel
theorem dX12_goes_1 : decode cX12_goes 1 = .ok (.getfield 13, 3) := by decide +kernel
theorem dX12_goes_4 : decode cX12_goes 4 = .ok (.bipush 36, 2) := by decide +kernel
theorem dX12_goes_6 : decode cX12_goes 6 = .ok (.iload_n 1, 1) := by decide +kernel
theorem dX12_goes_7 : decode cX12_goes 7 = .ok (.iadd, 1) := by decide +kernel
theorem dX12_goes_8 : decode cX12_goes 8 = .ok (.iaload, 1) := by decide +kernel
theorem dX12_goes_9 : decode cX12_goes 9 = .ok (.istore_n 3, 1) := by decide +kernel
theorem dX12_goes_10 : decode cX12_goes 10 = .ok (.aload_n 0, 1) := by decide +kernel
theorem dX12_goes_11 : decode cX12_goes 11 = .ok (.iload_n 3, 1) := by decide +kernel
theorem dX12_goes_12 : decode cX12_goes 12 = .ok (.iconst 0, 1) := by decide +kernel
theorem dX12_goes_13 : decode cX12_goes 13 = .ok (.invokevirtual 269, 3) := by decide +kernel
theorem dX12_goes_16 : decode cX12_goes 16 = .ok (.ifCond .eq 7, 3) := by decide +kernel
theorem dX12_goes_19 : decode cX12_goes 19 = .ok (.iconst 0, 1) := by decide +kernel
theorem dX12_goes_20 : decode cX12_goes 20 = .ok (.goto 7, 3) := by decide +kernel
theorem dX12_goes_23 : decode cX12_goes 23 = .ok (.iload_n 2, 1) := by decide +kernel
theorem dX12_goes_24 : decode cX12_goes 24 = .ok (.invokestatic 287, 3) := by decide +kernel
theorem dX12_goes_27 : decode cX12_goes 27 = .ok (.istore 4, 2) := by decide +kernel
theorem dX12_goes_29 : decode cX12_goes 29 = .ok (.aload_n 0, 1) := by decide +kernel
theorem dX12_goes_30 : decode cX12_goes 30 = .ok (.getfield 13, 3) := by decide +kernel
theorem dX12_goes_33 : decode cX12_goes 33 = .ok (.bipush 41, 2) := by decide +kernel
theorem dX12_goes_35 : decode cX12_goes 35 = .ok (.iload_n 1, 1) := by decide +kernel
theorem dX12_goes_36 : decode cX12_goes 36 = .ok (.iadd, 1) := by decide +kernel
theorem dX12_goes_37 : decode cX12_goes 37 = .ok (.aload_n 0, 1) := by decide +kernel
theorem dX12_goes_38 : decode cX12_goes 38 = .ok (.getfield 13, 3) := by decide +kernel
theorem dX12_goes_41 : decode cX12_goes 41 = .ok (.bipush 41, 2) := by decide +kernel
theorem dX12_goes_43 : decode cX12_goes 43 = .ok (.iload_n 1, 1) := by decide +kernel
theorem dX12_goes_44 : decode cX12_goes 44 = .ok (.iadd, 1) := by decide +kernel
theorem dX12_goes_45 : decode cX12_goes 45 = .ok (.iaload, 1) := by decide +kernel
theorem dX12_goes_46 : decode cX12_goes 46 = .ok (.iload_n 2, 1) := by decide +kernel
theorem dX12_goes_47 : decode cX12_goes 47 = .ok (.invokestatic 278, 3) := by decide +kernel
theorem dX12_goes_50 : decode cX12_goes 50 = .ok (.iastore, 1) := by decide +kernel
theorem dX12_goes_51 : decode cX12_goes 51 = .ok (.aload_n 0, 1) := by decide +kernel
theorem dX12_goes_52 : decode cX12_goes 52 = .ok (.getfield 13, 3) := by decide +kernel
theorem dX12_goes_55 : decode cX12_goes 55 = .ok (.bipush 36, 2) := by decide +kernel
theorem dX12_goes_57 : decode cX12_goes 57 = .ok (.iload_n 1, 1) := by decide +kernel
theorem dX12_goes_58 : decode cX12_goes 58 = .ok (.iadd, 1) := by decide +kernel
theorem dX12_goes_59 : decode cX12_goes 59 = .ok (.aload_n 0, 1) := by decide +kernel
theorem dX12_goes_60 : decode cX12_goes 60 = .ok (.iload_n 3, 1) := by decide +kernel
theorem dX12_goes_61 : decode cX12_goes 61 = .ok (.aload_n 0, 1) := by decide +kernel
theorem dX12_goes_62 : decode cX12_goes 62 = .ok (.getfield 13, 3) := by decide +kernel
theorem dX12_goes_65 : decode cX12_goes 65 = .ok (.bipush 41, 2) := by decide +kernel
theorem dX12_goes_67 : decode cX12_goes 67 = .ok (.iload_n 1, 1) := by decide +kernel
theorem dX12_goes_68 : decode cX12_goes 68 = .ok (.iadd, 1) := by decide +kernel
theorem dX12_goes_69 : decode cX12_goes 69 = .ok (.iaload, 1) := by decide +kernel
theorem dX12_goes_70 : decode cX12_goes 70 = .ok (.invokevirtual 263, 3) := by decide +kernel
theorem dX12_goes_73 : decode cX12_goes 73 = .ok (.iastore, 1) := by decide +kernel
theorem dX12_goes_74 : decode cX12_goes 74 = .ok (.aload_n 0, 1) := by decide +kernel
theorem dX12_goes_75 : decode cX12_goes 75 = .ok (.getfield 13, 3) := by decide +kernel
theorem dX12_goes_78 : decode cX12_goes 78 = .ok (.bipush 46, 2) := by decide +kernel
theorem dX12_goes_80 : decode cX12_goes 80 = .ok (.iload_n 1, 1) := by decide +kernel
theorem dX12_goes_81 : decode cX12_goes 81 = .ok (.iadd, 1) := by decide +kernel
theorem dX12_goes_82 : decode cX12_goes 82 = .ok (.dup2, 1) := by decide +kernel
theorem dX12_goes_83 : decode cX12_goes 83 = .ok (.iaload, 1) := by decide +kernel
theorem dX12_goes_84 : decode cX12_goes 84 = .ok (.iload 4, 2) := by decide +kernel
theorem dX12_goes_86 : decode cX12_goes 86 = .ok (.isub, 1) := by decide +kernel
theorem dX12_goes_87 : decode cX12_goes 87 = .ok (.iastore, 1) := by decide +kernel
theorem dX12_goes_88 : decode cX12_goes 88 = .ok (.aload_n 0, 1) := by decide +kernel
theorem dX12_goes_89 : decode cX12_goes 89 = .ok (.getfield 13, 3) := by decide +kernel
theorem dX12_goes_92 : decode cX12_goes 92 = .ok (.bipush 56, 2) := by decide +kernel
theorem dX12_goes_94 : decode cX12_goes 94 = .ok (.iload_n 1, 1) := by decide +kernel
theorem dX12_goes_95 : decode cX12_goes 95 = .ok (.iadd, 1) := by decide +kernel
theorem dX12_goes_96 : decode cX12_goes 96 = .ok (.sipush 999, 3) := by decide +kernel
theorem dX12_goes_99 : decode cX12_goes 99 = .ok (.aload_n 0, 1) := by decide +kernel
theorem dX12_goes_100 : decode cX12_goes 100 = .ok (.getfield 13, 3) := by decide +kernel
theorem dX12_goes_103 : decode cX12_goes 103 = .ok (.bipush 56, 2) := by decide +kernel
theorem dX12_goes_105 : decode cX12_goes 105 = .ok (.iload_n 1, 1) := by decide +kernel
theorem dX12_goes_106 : decode cX12_goes 106 = .ok (.iadd, 1) := by decide +kernel
theorem dX12_goes_107 : decode cX12_goes 107 = .ok (.iaload, 1) := by decide +kernel
theorem dX12_goes_108 : decode cX12_goes 108 = .ok (.iload 4, 2) := by decide +kernel
theorem dX12_goes_110 : decode cX12_goes 110 = .ok (.iadd, 1) := by decide +kernel
theorem dX12_goes_111 : decode cX12_goes 111 = .ok (.invokestatic 294, 3) := by decide +kernel
theorem dX12_goes_114 : decode cX12_goes 114 = .ok (.iastore, 1) := by decide +kernel
theorem dX12_goes_115 : decode cX12_goes 115 = .ok (.aload_n 0, 1) := by decide +kernel
theorem dX12_goes_116 : decode cX12_goes 116 = .ok (.getfield 13, 3) := by decide +kernel
theorem dX12_goes_119 : decode cX12_goes 119 = .ok (.bipush 111, 2) := by decide +kernel
theorem dX12_goes_121 : decode cX12_goes 121 = .ok (.dup2, 1) := by decide +kernel
theorem dX12_goes_122 : decode cX12_goes 122 = .ok (.iaload, 1) := by decide +kernel
theorem dX12_goes_123 : decode cX12_goes 123 = .ok (.iconst 1, 1) := by decide +kernel
theorem dX12_goes_124 : decode cX12_goes 124 = .ok (.iadd, 1) := by decide +kernel
theorem dX12_goes_125 : decode cX12_goes 125 = .ok (.iastore, 1) := by decide +kernel
theorem dX12_goes_126 : decode cX12_goes 126 = .ok (.iload 4, 2) := by decide +kernel
theorem dX12_goes_128 : decode cX12_goes 128 = .ok (.ireturn, 1) := by decide +kernel
theorem dX12_isAgain_0 : decode cX12_isAgain 0 = .ok (.iconst 0, 1) := by decide +kernel
theorem dX12_isAgain_1 : decode cX12_isAgain 1 = .ok (.istore_n 1, 1) := by decide +kernel
theorem dX12_isAgain_2 : decode cX12_isAgain 2 = .ok (.iload_n 1, 1) := by decide +kernel
theorem dX12_isAgain_3 : decode cX12_isAgain 3 = .ok (.bipush 76, 2) := by decide +kernel
theorem dX12_isAgain_5 : decode cX12_isAgain 5 = .ok (.if_icmp .ge 24, 3) := by decide +kernel
theorem dX12_isAgain_8 : decode cX12_isAgain 8 = .ok (.aload_n 0, 1) := by decide +kernel
theorem dX12_isAgain_9 : decode cX12_isAgain 9 = .ok (.getfield 13, 3) := by decide +kernel
theorem dX12_isAgain_12 : decode cX12_isAgain 12 = .ok (.bipush 36, 2) := by decide +kernel
theorem dX12_isAgain_14 : decode cX12_isAgain 14 = .ok (.iload_n 1, 1) := by decide +kernel
theorem dX12_isAgain_15 : decode cX12_isAgain 15 = .ok (.iadd, 1) := by decide +kernel
theorem dX12_isAgain_16 : decode cX12_isAgain 16 = .ok (.aload_n 0, 1) := by decide +kernel
theorem dX12_isAgain_17 : decode cX12_isAgain 17 = .ok (.getfield 33, 3) := by decide +kernel
theorem dX12_isAgain_20 : decode cX12_isAgain 20 = .ok (.iload_n 1, 1) := by decide +kernel
theorem dX12_isAgain_21 : decode cX12_isAgain 21 = .ok (.iaload, 1) := by decide +kernel
theorem dX12_isAgain_22 : decode cX12_isAgain 22 = .ok (.iastore, 1) := by decide +kernel
theorem dX12_isAgain_23 : decode cX12_isAgain 23 = .ok (.iinc 1 1, 3) := by decide +kernel
theorem dX12_isAgain_26 : decode cX12_isAgain 26 = .ok (.goto (-24), 3) := by decide +kernel
theorem dX12_isAgain_29 : decode cX12_isAgain 29 = .ok (.return_, 1) := by decide +kernel
theorem dX12_keeps_0 : decode cX12_keeps 0 = .ok (.iconst 0, 1) := by decide +kernel
theorem dX12_keeps_1 : decode cX12_keeps 1 = .ok (.istore_n 1, 1) := by decide +kernel
theorem dX12_keeps_2 : decode cX12_keeps 2 = .ok (.iload_n 1, 1) := by decide +kernel
theorem dX12_keeps_3 : decode cX12_keeps 3 = .ok (.bipush 76, 2) := by decide +kernel
theorem dX12_keeps_5 : decode cX12_keeps 5 = .ok (.if_icmp .ge 24, 3) := by decide +kernel
theorem dX12_keeps_8 : decode cX12_keeps 8 = .ok (.aload_n 0, 1) := by decide +kernel
theorem dX12_keeps_9 : decode cX12_keeps 9 = .ok (.getfield 33, 3) := by decide +kernel
theorem dX12_keeps_12 : decode cX12_keeps 12 = .ok (.iload_n 1, 1) := by decide +kernel
theorem dX12_keeps_13 : decode cX12_keeps 13 = .ok (.aload_n 0, 1) := by decide +kernel
theorem dX12_keeps_14 : decode cX12_keeps 14 = .ok (.getfield 13, 3) := by decide +kernel
theorem dX12_keeps_17 : decode cX12_keeps 17 = .ok (.bipush 36, 2) := by decide +kernel
theorem dX12_keeps_19 : decode cX12_keeps 19 = .ok (.iload_n 1, 1) := by decide +kernel
theorem dX12_keeps_20 : decode cX12_keeps 20 = .ok (.iadd, 1) := by decide +kernel
theorem dX12_keeps_21 : decode cX12_keeps 21 = .ok (.iaload, 1) := by decide +kernel
theorem dX12_keeps_22 : decode cX12_keeps 22 = .ok (.iastore, 1) := by decide +kernel
theorem dX12_keeps_23 : decode cX12_keeps 23 = .ok (.iinc 1 1, 3) := by decide +kernel
theorem dX12_keeps_26 : decode cX12_keeps 26 = .ok (.goto (-24), 3) := by decide +kernel
theorem dX12_keeps_29 : decode cX12_keeps 29 = .ok (.return_, 1) := by decide +kernel
theorem dX12_notes_0 : decode cX12_notes 0 = .ok (.aload_n 0, 1) := by decide +kernel
theorem dX12_notes_1 : decode cX12_notes 1 = .ok (.getfield 13, 3) := by decide +kernel
theorem dX12_notes_4 : decode cX12_notes 4 = .ok (.bipush 112, 2) := by decide +kernel
theorem dX12_notes_6 : decode cX12_notes 6 = .ok (.iaload, 1) := by decide +kernel
theorem dX12_notes_7 : decode cX12_notes 7 = .ok (.bipush 10, 2) := by decide +kernel
theorem dX12_notes_9 : decode cX12_notes 9 = .ok (.if_icmp .ne 48, 3) := by decide +kernel
theorem dX12_notes_12 : decode cX12_notes 12 = .ok (.iconst 0, 1) := by decide +kernel
theorem dX12_notes_13 : decode cX12_notes 13 = .ok (.istore_n 1, 1) := by decide +kernel
theorem dX12_notes_14 : decode cX12_notes 14 = .ok (.iload_n 1, 1) := by decide +kernel
theorem dX12_notes_15 : decode cX12_notes 15 = .ok (.sipush 684, 3) := by decide +kernel
theorem dX12_notes_18 : decode cX12_notes 18 = .ok (.if_icmp .ge 28, 3) := by decide +kernel
theorem dX12_notes_21 : decode cX12_notes 21 = .ok (.aload_n 0, 1) := by decide +kernel
theorem dX12_notes_22 : decode cX12_notes 22 = .ok (.getfield 13, 3) := by decide +kernel
theorem dX12_notes_25 : decode cX12_notes 25 = .ok (.bipush 113, 2) := by decide +kernel
theorem dX12_notes_27 : decode cX12_notes 27 = .ok (.iload_n 1, 1) := by decide +kernel
theorem dX12_notes_28 : decode cX12_notes 28 = .ok (.iadd, 1) := by decide +kernel
theorem dX12_notes_29 : decode cX12_notes 29 = .ok (.aload_n 0, 1) := by decide +kernel
theorem dX12_notes_30 : decode cX12_notes 30 = .ok (.getfield 13, 3) := by decide +kernel
theorem dX12_notes_33 : decode cX12_notes 33 = .ok (.sipush 189, 3) := by decide +kernel
theorem dX12_notes_36 : decode cX12_notes 36 = .ok (.iload_n 1, 1) := by decide +kernel
theorem dX12_notes_37 : decode cX12_notes 37 = .ok (.iadd, 1) := by decide +kernel
theorem dX12_notes_38 : decode cX12_notes 38 = .ok (.iaload, 1) := by decide +kernel
theorem dX12_notes_39 : decode cX12_notes 39 = .ok (.iastore, 1) := by decide +kernel
theorem dX12_notes_40 : decode cX12_notes 40 = .ok (.iinc 1 1, 3) := by decide +kernel
theorem dX12_notes_43 : decode cX12_notes 43 = .ok (.goto (-29), 3) := by decide +kernel
theorem dX12_notes_46 : decode cX12_notes 46 = .ok (.aload_n 0, 1) := by decide +kernel
theorem dX12_notes_47 : decode cX12_notes 47 = .ok (.getfield 13, 3) := by decide +kernel
theorem dX12_notes_50 : decode cX12_notes 50 = .ok (.bipush 112, 2) := by decide +kernel
theorem dX12_notes_52 : decode cX12_notes 52 = .ok (.dup2, 1) := by decide +kernel
theorem dX12_notes_53 : decode cX12_notes 53 = .ok (.iaload, 1) := by decide +kernel
theorem dX12_notes_54 : decode cX12_notes 54 = .ok (.iconst 1, 1) := by decide +kernel
theorem dX12_notes_55 : decode cX12_notes 55 = .ok (.isub, 1) := by decide +kernel
theorem dX12_notes_56 : decode cX12_notes 56 = .ok (.iastore, 1) := by decide +kernel
theorem dX12_notes_57 : decode cX12_notes 57 = .ok (.iconst 0, 1) := by decide +kernel
theorem dX12_notes_58 : decode cX12_notes 58 = .ok (.istore_n 1, 1) := by decide +kernel
theorem dX12_notes_59 : decode cX12_notes 59 = .ok (.iload_n 1, 1) := by decide +kernel
theorem dX12_notes_60 : decode cX12_notes 60 = .ok (.bipush 76, 2) := by decide +kernel
theorem dX12_notes_62 : decode cX12_notes 62 = .ok (.if_icmp .ge 35, 3) := by decide +kernel
theorem dX12_notes_65 : decode cX12_notes 65 = .ok (.aload_n 0, 1) := by decide +kernel
theorem dX12_notes_66 : decode cX12_notes 66 = .ok (.getfield 13, 3) := by decide +kernel
theorem dX12_notes_69 : decode cX12_notes 69 = .ok (.bipush 113, 2) := by decide +kernel
theorem dX12_notes_71 : decode cX12_notes 71 = .ok (.bipush 76, 2) := by decide +kernel
theorem dX12_notes_73 : decode cX12_notes 73 = .ok (.aload_n 0, 1) := by decide +kernel
theorem dX12_notes_74 : decode cX12_notes 74 = .ok (.getfield 13, 3) := by decide +kernel
theorem dX12_notes_77 : decode cX12_notes 77 = .ok (.bipush 112, 2) := by decide +kernel
theorem dX12_notes_79 : decode cX12_notes 79 = .ok (.iaload, 1) := by decide +kernel
theorem dX12_notes_80 : decode cX12_notes 80 = .ok (.imul, 1) := by decide +kernel
theorem dX12_notes_81 : decode cX12_notes 81 = .ok (.iadd, 1) := by decide +kernel
theorem dX12_notes_82 : decode cX12_notes 82 = .ok (.iload_n 1, 1) := by decide +kernel
theorem dX12_notes_83 : decode cX12_notes 83 = .ok (.iadd, 1) := by decide +kernel
theorem dX12_notes_84 : decode cX12_notes 84 = .ok (.aload_n 0, 1) := by decide +kernel
theorem dX12_notes_85 : decode cX12_notes 85 = .ok (.getfield 33, 3) := by decide +kernel
theorem dX12_notes_88 : decode cX12_notes 88 = .ok (.iload_n 1, 1) := by decide +kernel
theorem dX12_notes_89 : decode cX12_notes 89 = .ok (.iaload, 1) := by decide +kernel
theorem dX12_notes_90 : decode cX12_notes 90 = .ok (.iastore, 1) := by decide +kernel
theorem dX12_notes_91 : decode cX12_notes 91 = .ok (.iinc 1 1, 3) := by decide +kernel
theorem dX12_notes_94 : decode cX12_notes 94 = .ok (.goto (-35), 3) := by decide +kernel
theorem dX12_notes_97 : decode cX12_notes 97 = .ok (.aload_n 0, 1) := by decide +kernel
theorem dX12_notes_98 : decode cX12_notes 98 = .ok (.getfield 13, 3) := by decide +kernel
theorem dX12_notes_101 : decode cX12_notes 101 = .ok (.bipush 112, 2) := by decide +kernel
theorem dX12_notes_103 : decode cX12_notes 103 = .ok (.dup2, 1) := by decide +kernel
theorem dX12_notes_104 : decode cX12_notes 104 = .ok (.iaload, 1) := by decide +kernel
theorem dX12_notes_105 : decode cX12_notes 105 = .ok (.iconst 1, 1) := by decide +kernel
theorem dX12_notes_106 : decode cX12_notes 106 = .ok (.iadd, 1) := by decide +kernel
theorem dX12_notes_107 : decode cX12_notes 107 = .ok (.iastore, 1) := by decide +kernel
theorem dX12_notes_108 : decode cX12_notes 108 = .ok (.return_, 1) := by decide +kernel
theorem dX12_streetsFrom_0 : decode cX12_streetsFrom 0 = .ok (.iconst 0, 1) := by decide +kernel
theorem dX12_streetsFrom_1 : decode cX12_streetsFrom 1 = .ok (.istore_n 2, 1) := by decide +kernel
theorem dX12_streetsFrom_2 : decode cX12_streetsFrom 2 = .ok (.iconst 0, 1) := by decide +kernel
theorem dX12_streetsFrom_3 : decode cX12_streetsFrom 3 = .ok (.istore_n 3, 1) := by decide +kernel
theorem dX12_streetsFrom_4 : decode cX12_streetsFrom 4 = .ok (.iload_n 3, 1) := by decide +kernel
theorem dX12_streetsFrom_5 : decode cX12_streetsFrom 5 = .ok (.iconst 4, 1) := by decide +kernel
theorem dX12_streetsFrom_6 : decode cX12_streetsFrom 6 = .ok (.if_icmp .ge 27, 3) := by decide +kernel
theorem dX12_streetsFrom_9 : decode cX12_streetsFrom 9 = .ok (.iload_n 2, 1) := by decide +kernel
theorem dX12_streetsFrom_10 : decode cX12_streetsFrom 10 = .ok (.aload_n 0, 1) := by decide +kernel
theorem dX12_streetsFrom_11 : decode cX12_streetsFrom 11 = .ok (.iload_n 1, 1) := by decide +kernel
theorem dX12_streetsFrom_12 : decode cX12_streetsFrom 12 = .ok (.iload_n 3, 1) := by decide +kernel
theorem dX12_streetsFrom_13 : decode cX12_streetsFrom 13 = .ok (.invokevirtual 263, 3) := by decide +kernel
theorem dX12_streetsFrom_16 : decode cX12_streetsFrom 16 = .ok (.iconst (-1), 1) := by decide +kernel
theorem dX12_streetsFrom_17 : decode cX12_streetsFrom 17 = .ok (.if_icmp .ne 7, 3) := by decide +kernel
theorem dX12_streetsFrom_20 : decode cX12_streetsFrom 20 = .ok (.iconst 0, 1) := by decide +kernel
theorem dX12_streetsFrom_21 : decode cX12_streetsFrom 21 = .ok (.goto 4, 3) := by decide +kernel
theorem dX12_streetsFrom_24 : decode cX12_streetsFrom 24 = .ok (.iconst 1, 1) := by decide +kernel
theorem dX12_streetsFrom_25 : decode cX12_streetsFrom 25 = .ok (.iadd, 1) := by decide +kernel
theorem dX12_streetsFrom_26 : decode cX12_streetsFrom 26 = .ok (.istore_n 2, 1) := by decide +kernel
theorem dX12_streetsFrom_27 : decode cX12_streetsFrom 27 = .ok (.iinc 3 1, 3) := by decide +kernel
theorem dX12_streetsFrom_30 : decode cX12_streetsFrom 30 = .ok (.goto (-26), 3) := by decide +kernel
theorem dX12_streetsFrom_33 : decode cX12_streetsFrom 33 = .ok (.iload_n 2, 1) := by decide +kernel
theorem dX12_streetsFrom_34 : decode cX12_streetsFrom 34 = .ok (.ireturn, 1) := by decide +kernel
theorem dX12_whyNot_0 : decode cX12_whyNot 0 = .ok (.aload_n 0, 1) := by decide +kernel
theorem dX12_whyNot_1 : decode cX12_whyNot 1 = .ok (.lload_n 1, 1) := by decide +kernel
theorem dX12_whyNot_2 : decode cX12_whyNot 2 = .ok (.invokevirtual 253, 3) := by decide +kernel
theorem dX12_whyNot_5 : decode cX12_whyNot 5 = .ok (.ifCond .eq 14, 3) := by decide +kernel
theorem dX12_whyNot_8 : decode cX12_whyNot 8 = .ok (.lload_n 3, 1) := by decide +kernel
theorem dX12_whyNot_9 : decode cX12_whyNot 9 = .ok (.lconst 0, 1) := by decide +kernel
theorem dX12_whyNot_10 : decode cX12_whyNot 10 = .ok (.ldc2_w 236, 3) := by decide +kernel
theorem dX12_whyNot_13 : decode cX12_whyNot 13 = .ok (.invokestatic 161, 3) := by decide +kernel
theorem dX12_whyNot_16 : decode cX12_whyNot 16 = .ok (.ifCond .ne 5, 3) := by decide +kernel
theorem dX12_whyNot_19 : decode cX12_whyNot 19 = .ok (.iconst 1, 1) := by decide +kernel
theorem dX12_whyNot_20 : decode cX12_whyNot 20 = .ok (.ireturn, 1) := by decide +kernel
theorem dX12_whyNot_21 : decode cX12_whyNot 21 = .ok (.aload_n 0, 1) := by decide +kernel
theorem dX12_whyNot_22 : decode cX12_whyNot 22 = .ok (.getfield 13, 3) := by decide +kernel
theorem dX12_whyNot_25 : decode cX12_whyNot 25 = .ok (.bipush 36, 2) := by decide +kernel
theorem dX12_whyNot_27 : decode cX12_whyNot 27 = .ok (.lload_n 1, 1) := by decide +kernel
theorem dX12_whyNot_28 : decode cX12_whyNot 28 = .ok (.l2i, 1) := by decide +kernel
theorem dX12_whyNot_29 : decode cX12_whyNot 29 = .ok (.iadd, 1) := by decide +kernel
theorem dX12_whyNot_30 : decode cX12_whyNot 30 = .ok (.iaload, 1) := by decide +kernel
theorem dX12_whyNot_31 : decode cX12_whyNot 31 = .ok (.istore 5, 2) := by decide +kernel
theorem dX12_whyNot_33 : decode cX12_whyNot 33 = .ok (.aload_n 0, 1) := by decide +kernel
theorem dX12_whyNot_34 : decode cX12_whyNot 34 = .ok (.getfield 13, 3) := by decide +kernel
theorem dX12_whyNot_37 : decode cX12_whyNot 37 = .ok (.bipush 41, 2) := by decide +kernel
theorem dX12_whyNot_39 : decode cX12_whyNot 39 = .ok (.lload_n 1, 1) := by decide +kernel
theorem dX12_whyNot_40 : decode cX12_whyNot 40 = .ok (.l2i, 1) := by decide +kernel
theorem dX12_whyNot_41 : decode cX12_whyNot 41 = .ok (.iadd, 1) := by decide +kernel
theorem dX12_whyNot_42 : decode cX12_whyNot 42 = .ok (.iaload, 1) := by decide +kernel
theorem dX12_whyNot_43 : decode cX12_whyNot 43 = .ok (.lload_n 3, 1) := by decide +kernel
theorem dX12_whyNot_44 : decode cX12_whyNot 44 = .ok (.l2i, 1) := by decide +kernel
theorem dX12_whyNot_45 : decode cX12_whyNot 45 = .ok (.invokestatic 278, 3) := by decide +kernel
theorem dX12_whyNot_48 : decode cX12_whyNot 48 = .ok (.istore 6, 2) := by decide +kernel
theorem dX12_whyNot_50 : decode cX12_whyNot 50 = .ok (.aload_n 0, 1) := by decide +kernel
theorem dX12_whyNot_51 : decode cX12_whyNot 51 = .ok (.iload 5, 2) := by decide +kernel
theorem dX12_whyNot_53 : decode cX12_whyNot 53 = .ok (.iload 6, 2) := by decide +kernel
theorem dX12_whyNot_55 : decode cX12_whyNot 55 = .ok (.invokevirtual 263, 3) := by decide +kernel
theorem dX12_whyNot_58 : decode cX12_whyNot 58 = .ok (.iconst (-1), 1) := by decide +kernel
theorem dX12_whyNot_59 : decode cX12_whyNot 59 = .ok (.if_icmp .ne 5, 3) := by decide +kernel
theorem dX12_whyNot_62 : decode cX12_whyNot 62 = .ok (.iconst 2, 1) := by decide +kernel
theorem dX12_whyNot_63 : decode cX12_whyNot 63 = .ok (.ireturn, 1) := by decide +kernel
theorem dX12_whyNot_64 : decode cX12_whyNot 64 = .ok (.lload_n 3, 1) := by decide +kernel
theorem dX12_whyNot_65 : decode cX12_whyNot 65 = .ok (.ldc2_w 281, 3) := by decide +kernel
theorem dX12_whyNot_68 : decode cX12_whyNot 68 = .ok (.lcmp, 1) := by decide +kernel
theorem dX12_whyNot_69 : decode cX12_whyNot 69 = .ok (.ifCond .ge 5, 3) := by decide +kernel
theorem dX12_whyNot_72 : decode cX12_whyNot 72 = .ok (.iconst 0, 1) := by decide +kernel
theorem dX12_whyNot_73 : decode cX12_whyNot 73 = .ok (.ireturn, 1) := by decide +kernel
theorem dX12_whyNot_74 : decode cX12_whyNot 74 = .ok (.aload_n 0, 1) := by decide +kernel
theorem dX12_whyNot_75 : decode cX12_whyNot 75 = .ok (.iload 5, 2) := by decide +kernel
theorem dX12_whyNot_77 : decode cX12_whyNot 77 = .ok (.iconst 0, 1) := by decide +kernel
theorem dX12_whyNot_78 : decode cX12_whyNot 78 = .ok (.iload 6, 2) := by decide +kernel
theorem dX12_whyNot_80 : decode cX12_whyNot 80 = .ok (.invokevirtual 283, 3) := by decide +kernel
theorem dX12_whyNot_83 : decode cX12_whyNot 83 = .ok (.ifCond .ne 5, 3) := by decide +kernel
theorem dX12_whyNot_86 : decode cX12_whyNot 86 = .ok (.iconst 3, 1) := by decide +kernel
theorem dX12_whyNot_87 : decode cX12_whyNot 87 = .ok (.ireturn, 1) := by decide +kernel
theorem dX12_whyNot_88 : decode cX12_whyNot 88 = .ok (.aload_n 0, 1) := by decide +kernel
theorem dX12_whyNot_89 : decode cX12_whyNot 89 = .ok (.iload 5, 2) := by decide +kernel
theorem dX12_whyNot_91 : decode cX12_whyNot 91 = .ok (.iconst 0, 1) := by decide +kernel
theorem dX12_whyNot_92 : decode cX12_whyNot 92 = .ok (.invokevirtual 269, 3) := by decide +kernel
theorem dX12_whyNot_95 : decode cX12_whyNot 95 = .ok (.ifCond .ne 25, 3) := by decide +kernel
theorem dX12_whyNot_98 : decode cX12_whyNot 98 = .ok (.aload_n 0, 1) := by decide +kernel
theorem dX12_whyNot_99 : decode cX12_whyNot 99 = .ok (.getfield 13, 3) := by decide +kernel
theorem dX12_whyNot_102 : decode cX12_whyNot 102 = .ok (.bipush 46, 2) := by decide +kernel
theorem dX12_whyNot_104 : decode cX12_whyNot 104 = .ok (.lload_n 1, 1) := by decide +kernel
theorem dX12_whyNot_105 : decode cX12_whyNot 105 = .ok (.l2i, 1) := by decide +kernel
theorem dX12_whyNot_106 : decode cX12_whyNot 106 = .ok (.iadd, 1) := by decide +kernel
theorem dX12_whyNot_107 : decode cX12_whyNot 107 = .ok (.iaload, 1) := by decide +kernel
theorem dX12_whyNot_108 : decode cX12_whyNot 108 = .ok (.lload_n 3, 1) := by decide +kernel
theorem dX12_whyNot_109 : decode cX12_whyNot 109 = .ok (.l2i, 1) := by decide +kernel
theorem dX12_whyNot_110 : decode cX12_whyNot 110 = .ok (.invokestatic 287, 3) := by decide +kernel
theorem dX12_whyNot_113 : decode cX12_whyNot 113 = .ok (.if_icmp .ge 7, 3) := by decide +kernel
theorem dX12_whyNot_116 : decode cX12_whyNot 116 = .ok (.iconst 4, 1) := by decide +kernel
theorem dX12_whyNot_117 : decode cX12_whyNot 117 = .ok (.goto 4, 3) := by decide +kernel
theorem dX12_whyNot_120 : decode cX12_whyNot 120 = .ok (.iconst 0, 1) := by decide +kernel
theorem dX12_whyNot_121 : decode cX12_whyNot 121 = .ok (.ireturn, 1) := by decide +kernel
theorem o34_1 {x0 : Int} (h0 : 0 ≤ x0) (h1 : x0 ≤ 4) (h2 : 4 - x0 < 0) : False := by omega
theorem o34_2 {x0 : Int} (h0 : x0 = 4) : x0 = 4 := by omega
theorem o34_3 {x0 x2 : Int} {x1 : Nat} (h0 : 0 ≤ x0) (h1 : x0 ≤ 4) (h2 : 4 - x0 < ((x1 + 1 : Nat) : Int)) (h3 : x2 = 4) (h4 : x2 ≤ x0) : ¬ x0 < 4 := by omega
theorem o34_4 {x0 x2 : Int} {x1 : Nat} (h0 : 0 ≤ x0) (h1 : x0 ≤ 4) (h2 : 4 - x0 < ((x1 + 1 : Nat) : Int)) (h3 : x2 = 4) (h4 : x0 < x2) : x0 < 4 := by omega
theorem o34_5 {x0 : Int} (h0 : 0 ≤ x0) (h1 : x0 ≤ 24) : 0 ≤ x0 := by omega
theorem o34_6 {x0 : Int} (h0 : 0 ≤ x0) (h1 : x0 ≤ 24) : x0 ≤ 24 := by omega
theorem o34_7 {x0 x2 : Int} {x1 : Nat} (h0 : 0 ≤ x0) (h1 : x0 ≤ 4) (h2 : 4 - x0 < ((x1 + 1 : Nat) : Int)) (h3 : x2 = 4) (h4 : x0 < x2) : 0 ≤ x0 := by omega
theorem o34_8 {x0 x2 : Int} {x1 : Nat} (h0 : 0 ≤ x0) (h1 : x0 ≤ 4) (h2 : 4 - x0 < ((x1 + 1 : Nat) : Int)) (h3 : x2 = 4) (h4 : x0 < x2) : x0 ≤ 3 := by omega
theorem o34_9 {x0 : Int} (h0 : x0 = (-1)) : x0 = (-1) := by omega
theorem o34_10 {x0 x1 : Int} (h0 : (-1) ≤ x0) (h1 : x0 ≤ 24) (h2 : x1 = (-1)) (h3 : ¬ x0 = x1) : ¬ x0 = (-1) := by omega
theorem o34_11 {x0 x1 : Int} (h0 : (-1) ≤ x0) (h1 : x0 ≤ 24) (h2 : x1 = (-1)) (h3 : x0 = x1) : x0 = (-1) := by omega
theorem o34_12 {x0 x2 : Int} {x1 : Nat} (h0 : 0 ≤ x0) (h1 : x0 ≤ 4) (h2 : 4 - x0 < ((x1 + 1 : Nat) : Int)) (h3 : x2 = 4) (h4 : x0 < x2) (h5 : -2147483648 ≤ x0) (h6 : x0 ≤ 2147483647) (h7 : -2147483648 ≤ x2) (h8 : x2 ≤ 2147483647) : -2147483648 ≤ x0 + 1 := by omega
theorem o34_13 {x0 x2 : Int} {x1 : Nat} (h0 : 0 ≤ x0) (h1 : x0 ≤ 4) (h2 : 4 - x0 < ((x1 + 1 : Nat) : Int)) (h3 : x2 = 4) (h4 : x0 < x2) (h5 : -2147483648 ≤ x0) (h6 : x0 ≤ 2147483647) (h7 : -2147483648 ≤ x2) (h8 : x2 ≤ 2147483647) : x0 + 1 ≤ 2147483647 := by omega
theorem o34_14 {x0 x2 x3 : Int} {x1 : Nat} (h0 : 0 ≤ x2) (h1 : x2 ≤ 4) (h2 : 4 - x2 < ((x1 + 1 : Nat) : Int)) (h3 : x3 = 4) (h4 : x2 < x3) (h5 : x0 = x2 + 1) : 4 - x0 < (x1 : Int) := by omega
theorem o34_15 {x0 x1 x3 : Int} {x2 : Nat} (h0 : 0 ≤ x1) (h1 : x1 ≤ 4) (h2 : 4 - x1 < ((x2 + 1 : Nat) : Int)) (h3 : x3 = 4) (h4 : x1 < x3) (h5 : x0 = x1 + 1) : 0 ≤ x0 := by omega
theorem o34_16 {x0 x1 x3 : Int} {x2 : Nat} (h0 : 0 ≤ x1) (h1 : x1 ≤ 4) (h2 : 4 - x1 < ((x2 + 1 : Nat) : Int)) (h3 : x3 = 4) (h4 : x1 < x3) (h5 : x0 = x1 + 1) : x0 ≤ 4 := by omega
theorem o34_17 {x0 x1 : Int} (h0 : x1 = 0) (h1 : -2147483648 ≤ x0) (h2 : x0 ≤ 2147483647) (h3 : -2147483648 ≤ x1) (h4 : x1 ≤ 2147483647) : -2147483648 ≤ x0 + x1 := by omega
theorem o34_18 {x0 x1 : Int} (h0 : x1 = 0) (h1 : -2147483648 ≤ x0) (h2 : x0 ≤ 2147483647) (h3 : -2147483648 ≤ x1) (h4 : x1 ≤ 2147483647) : x0 + x1 ≤ 2147483647 := by omega
theorem o34_19 {x0 : Int} (h0 : x0 = 0) : 4 - x0 < (((4 - x0 + 1).toNat : Nat) : Int) := by omega
theorem o34_20 {x0 : Int} (h0 : x0 = 0) : 0 ≤ x0 := by omega
theorem o34_21 {x0 : Int} (h0 : x0 = 0) : x0 ≤ 4 := by omega
theorem o34_22 {x0 : Int} (h0 : x0 = 0) : x0 ≤ 1 := by omega
theorem o34_23 {x0 x1 x2 x3 x4 : Int} (h0 : x3 = x1) (h1 : 0 ≤ x4) (h2 : x4 ≤ 1) (h3 : (x4 = 0 ∨ (0 ≤ x3 ∧ x3 ≤ 4))) (h4 : x4 = 0) (h5 : x0 = 0) : (x0 = 0 ∨ (0 ≤ x1 ∧ x1 ≤ 4 ∧ 0 ≤ x2 ∧ x2 ≤ 24)) := by omega
theorem o34_24 {x0 : Int} (h0 : x0 = 0) : x0 = 0 := by omega
theorem o34_25 {x0 x1 x2 x3 x4 x5 x6 : Int} (h0 : x3 = x1) (h1 : 0 ≤ x4) (h2 : x4 ≤ 1) (h3 : (x4 = 0 ∨ (0 ≤ x3 ∧ x3 ≤ 4))) (h4 : ¬ x4 = 0) (h5 : x5 = x2) (h6 : 0 ≤ x6) (h7 : x6 ≤ 1) (h8 : (x6 = 0 ∨ (0 ≤ x5 ∧ x5 ≤ 24))) (h9 : x6 = 0) (h10 : x0 = 0) : (x0 = 0 ∨ (0 ≤ x1 ∧ x1 ≤ 4 ∧ 0 ≤ x2 ∧ x2 ≤ 24)) := by omega
theorem o34_26 {x0 : Int} (h0 : x0 = 1) : 0 ≤ x0 := by omega
theorem o34_27 {x0 : Int} (h0 : x0 = 1) : x0 ≤ 1 := by omega
theorem o34_28 {x0 x1 x2 x3 x4 x5 x6 : Int} (h0 : x3 = x1) (h1 : 0 ≤ x4) (h2 : x4 ≤ 1) (h3 : (x4 = 0 ∨ (0 ≤ x3 ∧ x3 ≤ 4))) (h4 : ¬ x4 = 0) (h5 : x5 = x2) (h6 : 0 ≤ x6) (h7 : x6 ≤ 1) (h8 : (x6 = 0 ∨ (0 ≤ x5 ∧ x5 ≤ 24))) (h9 : ¬ x6 = 0) (h10 : x0 = 1) : (x0 = 0 ∨ (0 ≤ x1 ∧ x1 ≤ 4 ∧ 0 ≤ x2 ∧ x2 ≤ 24)) := by omega
theorem o34_29 {x0 x1 x2 : Int} (h0 : x1 = x2) (h1 : 0 ≤ x0) (h2 : x0 ≤ 1) (h3 : (x0 = 0 ∨ (0 ≤ x1 ∧ x1 ≤ 4))) (h4 : ¬ x0 = 0) : ¬ x0 = 0 := by omega
theorem o34_30 {x0 : Int} (h0 : 0 ≤ x0) (h1 : x0 ≤ 76) (h2 : 76 - x0 < 0) : False := by omega
theorem o34_31 {x0 : Int} (h0 : x0 = 76) : x0 = 76 := by omega
theorem o34_32 {x0 x2 : Int} {x1 : Nat} (h0 : 0 ≤ x0) (h1 : x0 ≤ 76) (h2 : 76 - x0 < ((x1 + 1 : Nat) : Int)) (h3 : x2 = 76) (h4 : x2 ≤ x0) : ¬ x0 < 76 := by omega
theorem o34_33 {x0 x2 : Int} {x1 : Nat} (h0 : 0 ≤ x0) (h1 : x0 ≤ 76) (h2 : 76 - x0 < ((x1 + 1 : Nat) : Int)) (h3 : x2 = 76) (h4 : x0 < x2) : x0 < 76 := by omega
theorem o34_34 {x0 x1 x3 : Int} {x2 : Nat} (h0 : 0 ≤ x1) (h1 : x1 ≤ 76) (h2 : 76 - x1 < ((x2 + 1 : Nat) : Int)) (h3 : x3 = 76) (h4 : x1 < x3) (h5 : x0 = 36) (h6 : -2147483648 ≤ x0) (h7 : x0 ≤ 2147483647) (h8 : -2147483648 ≤ x1) (h9 : x1 ≤ 2147483647) (h10 : -2147483648 ≤ x3) (h11 : x3 ≤ 2147483647) : -2147483648 ≤ x0 + x1 := by omega
theorem o34_35 {x0 x1 x3 : Int} {x2 : Nat} (h0 : 0 ≤ x1) (h1 : x1 ≤ 76) (h2 : 76 - x1 < ((x2 + 1 : Nat) : Int)) (h3 : x3 = 76) (h4 : x1 < x3) (h5 : x0 = 36) (h6 : -2147483648 ≤ x0) (h7 : x0 ≤ 2147483647) (h8 : -2147483648 ≤ x1) (h9 : x1 ≤ 2147483647) (h10 : -2147483648 ≤ x3) (h11 : x3 ≤ 2147483647) : x0 + x1 ≤ 2147483647 := by omega
theorem o34_36 {x0 x1 x3 x4 : Int} {x2 : Nat} (h0 : 0 ≤ x1) (h1 : x1 ≤ 76) (h2 : 76 - x1 < ((x2 + 1 : Nat) : Int)) (h3 : x3 = 76) (h4 : x1 < x3) (h5 : x4 = 36) (h6 : x0 = x4 + x1) : 0 ≤ x0 := by omega
theorem o34_37 {x0 x1 x3 x4 : Int} {x2 : Nat} (h0 : 0 ≤ x1) (h1 : x1 ≤ 76) (h2 : 76 - x1 < ((x2 + 1 : Nat) : Int)) (h3 : x3 = 76) (h4 : x1 < x3) (h5 : x4 = 36) (h6 : x0 = x4 + x1) : x0 < (5322 : Nat) := by omega
theorem o34_38 {x0 x2 x3 x4 : Int} {x1 : Nat} (h0 : 0 ≤ x0) (h1 : x0 ≤ 76) (h2 : 76 - x0 < ((x1 + 1 : Nat) : Int)) (h3 : x2 = 76) (h4 : x0 < x2) (h5 : x3 = 36) (h6 : x4 = x3 + x0) : 0 ≤ x0 := by omega
theorem o34_39 {x0 x2 x3 x4 : Int} {x1 : Nat} (h0 : 0 ≤ x0) (h1 : x0 ≤ 76) (h2 : 76 - x0 < ((x1 + 1 : Nat) : Int)) (h3 : x2 = 76) (h4 : x0 < x2) (h5 : x3 = 36) (h6 : x4 = x3 + x0) : x0 < (76 : Nat) := by omega
theorem o34_40 {x0 x1 x3 x4 : Int} {x2 : Nat} (h0 : 0 ≤ x1) (h1 : x1 ≤ 76) (h2 : 76 - x1 < ((x2 + 1 : Nat) : Int)) (h3 : x3 = 76) (h4 : x1 < x3) (h5 : x4 = 36) (h6 : x0 = x4 + x1) : (x0).toNat = 36 + (x1).toNat := by omega
theorem o34_41 {x0 x2 x3 x4 : Int} {x1 : Nat} (h0 : 0 ≤ x0) (h1 : x0 ≤ 76) (h2 : 76 - x0 < ((x1 + 1 : Nat) : Int)) (h3 : x2 = 76) (h4 : x0 < x2) (h5 : x3 = 36) (h6 : x4 = x3 + x0) : (x0).toNat < 76 := by omega
theorem o34_42 {x0 x2 x3 x4 : Int} {x1 : Nat} (h0 : 0 ≤ x0) (h1 : x0 ≤ 76) (h2 : 76 - x0 < ((x1 + 1 : Nat) : Int)) (h3 : x2 = 76) (h4 : x0 < x2) (h5 : x3 = 36) (h6 : x4 = x3 + x0) (h7 : -2147483648 ≤ x0) (h8 : x0 ≤ 2147483647) (h9 : -2147483648 ≤ x2) (h10 : x2 ≤ 2147483647) (h11 : -2147483648 ≤ x3) (h12 : x3 ≤ 2147483647) (h13 : -2147483648 ≤ x4) (h14 : x4 ≤ 2147483647) : -2147483648 ≤ x0 + 1 := by omega
theorem o34_43 {x0 x2 x3 x4 : Int} {x1 : Nat} (h0 : 0 ≤ x0) (h1 : x0 ≤ 76) (h2 : 76 - x0 < ((x1 + 1 : Nat) : Int)) (h3 : x2 = 76) (h4 : x0 < x2) (h5 : x3 = 36) (h6 : x4 = x3 + x0) (h7 : -2147483648 ≤ x0) (h8 : x0 ≤ 2147483647) (h9 : -2147483648 ≤ x2) (h10 : x2 ≤ 2147483647) (h11 : -2147483648 ≤ x3) (h12 : x3 ≤ 2147483647) (h13 : -2147483648 ≤ x4) (h14 : x4 ≤ 2147483647) : x0 + 1 ≤ 2147483647 := by omega
theorem o34_44 {x0 x2 x3 x4 x5 : Int} {x1 : Nat} (h0 : 0 ≤ x2) (h1 : x2 ≤ 76) (h2 : 76 - x2 < ((x1 + 1 : Nat) : Int)) (h3 : x3 = 76) (h4 : x2 < x3) (h5 : x4 = 36) (h6 : x5 = x4 + x2) (h7 : x0 = x2 + 1) : 76 - x0 < (x1 : Int) := by omega
theorem o34_45 {x0 x1 x3 x4 x5 : Int} {x2 : Nat} (h0 : 0 ≤ x1) (h1 : x1 ≤ 76) (h2 : 76 - x1 < ((x2 + 1 : Nat) : Int)) (h3 : x3 = 76) (h4 : x1 < x3) (h5 : x4 = 36) (h6 : x5 = x4 + x1) (h7 : x0 = x1 + 1) : 0 ≤ x0 := by omega
theorem o34_46 {x0 x1 x3 x4 x5 : Int} {x2 : Nat} (h0 : 0 ≤ x1) (h1 : x1 ≤ 76) (h2 : 76 - x1 < ((x2 + 1 : Nat) : Int)) (h3 : x3 = 76) (h4 : x1 < x3) (h5 : x4 = 36) (h6 : x5 = x4 + x1) (h7 : x0 = x1 + 1) : x0 ≤ 76 := by omega
theorem o34_47 {x0 : Int} (h0 : x0 = 0) : 76 - x0 < (((76 - x0 + 1).toNat : Nat) : Int) := by omega
theorem o34_48 {x0 : Int} (h0 : x0 = 0) : x0 ≤ 76 := by omega
theorem o34_49 {x0 x1 x3 x4 : Int} {x2 : Nat} (h0 : 0 ≤ x1) (h1 : x1 ≤ 76) (h2 : 76 - x1 < ((x2 + 1 : Nat) : Int)) (h3 : x3 = 76) (h4 : x1 < x3) (h5 : x4 = 36) (h6 : x0 = x4 + x1) : (36 ≤ x0 ∨ x0 = 10) := by omega
theorem o34_50 {x0 x1 x3 x4 : Int} {x2 : Nat} (h0 : 0 ≤ x1) (h1 : x1 ≤ 76) (h2 : 76 - x1 < ((x2 + 1 : Nat) : Int)) (h3 : x3 = 76) (h4 : x1 < x3) (h5 : x4 = 36) (h6 : x0 = x4 + x1) : 10 ≤ x0 := by omega
theorem o34_51 {x0 x1 x3 x4 : Int} {x2 : Nat} (h0 : 0 ≤ x1) (h1 : x1 ≤ 76) (h2 : 76 - x1 < ((x2 + 1 : Nat) : Int)) (h3 : x3 = 76) (h4 : x1 < x3) (h5 : x4 = 36) (h6 : x0 = x4 + x1) : x0 ≤ 872 := by omega
theorem o34_52 {x0 : Int} (h0 : x0 = 112) : 0 ≤ x0 := by omega
theorem o34_53 {x0 : Int} (h0 : x0 = 112) : x0 < (5322 : Nat) := by omega
theorem o34_54 : ∀ p, p < 113 → 112 ≤ p → 0 ≤ (elAll p).1 ∧ (elAll p).2 ≤ 10 := by decide +kernel
theorem o34_55 {x0 : Int} (h0 : x0 = 112) : (x0).toNat < 113 := by omega
theorem o34_56 {x0 : Int} (h0 : x0 = 112) : 112 ≤ (x0).toNat := by omega
theorem o34_57 {x0 : Int} (h0 : x0 = 112) : x0 = ((112 : Nat) : Int) := by omega
theorem o34_58 {x0 : Int} (h0 : x0 = 10) : x0 = 10 := by omega
theorem o34_59 {x0 x1 : Int} (h0 : 0 ≤ x0) (h1 : x0 ≤ 10) (h2 : x1 = 10) (h3 : ¬ x0 = x1) : ¬ x0 = 10 := by omega
theorem o34_60 {x0 x1 : Int} (h0 : 0 ≤ x0) (h1 : x0 ≤ 10) (h2 : x1 = 10) (h3 : x0 = x1) : x0 = 10 := by omega
theorem o34_61 {x0 x1 x2 : Int} (h0 : 0 ≤ x2) (h1 : x2 ≤ 9) (h2 : 0 ≤ x0) (h3 : x0 ≤ 10) (h4 : x0 = x2) (h5 : x1 = 1) (h6 : -2147483648 ≤ x0) (h7 : x0 ≤ 2147483647) (h8 : -2147483648 ≤ x1) (h9 : x1 ≤ 2147483647) (h10 : -2147483648 ≤ x2) (h11 : x2 ≤ 2147483647) : -2147483648 ≤ x0 + x1 := by omega
theorem o34_62 {x0 x1 x2 : Int} (h0 : 0 ≤ x2) (h1 : x2 ≤ 9) (h2 : 0 ≤ x0) (h3 : x0 ≤ 10) (h4 : x0 = x2) (h5 : x1 = 1) (h6 : -2147483648 ≤ x0) (h7 : x0 ≤ 2147483647) (h8 : -2147483648 ≤ x1) (h9 : x1 ≤ 2147483647) (h10 : -2147483648 ≤ x2) (h11 : x2 ≤ 2147483647) : x0 + x1 ≤ 2147483647 := by omega
theorem o34_63 : ∀ p, p < 113 → 112 ≤ p → (elAll p).1 ≤ 0 ∧ 10 ≤ (elAll p).2 := by decide +kernel
theorem o34_64 {x0 x1 x2 x3 : Int} (h0 : 0 ≤ x1) (h1 : x1 ≤ 9) (h2 : 0 ≤ x2) (h3 : x2 ≤ 10) (h4 : x2 = x1) (h5 : x3 = 1) (h6 : x0 = x2 + x3) : 0 ≤ x0 := by omega
theorem o34_65 {x0 x1 x2 x3 : Int} (h0 : 0 ≤ x1) (h1 : x1 ≤ 9) (h2 : 0 ≤ x2) (h3 : x2 ≤ 10) (h4 : x2 = x1) (h5 : x3 = 1) (h6 : x0 = x2 + x3) : x0 ≤ 10 := by omega
theorem o34_66 {x0 : Int} (h0 : x0 = 112) : (36 ≤ x0 ∨ x0 = 10) := by omega
theorem o34_67 {x0 : Int} (h0 : x0 = 112) : 10 ≤ x0 := by omega
theorem o34_68 {x0 : Int} (h0 : x0 = 112) : x0 ≤ 872 := by omega
theorem o34_69 {x0 x1 : Int} (h0 : 0 ≤ x1) (h1 : x1 ≤ 9) (h2 : 0 ≤ x0) (h3 : x0 ≤ 10) (h4 : x0 = x1) (h5 : -2147483648 ≤ x0) (h6 : x0 ≤ 2147483647) (h7 : -2147483648 ≤ x1) (h8 : x1 ≤ 2147483647) : -2147483648 ≤ 76 * x0 := by omega
theorem o34_70 {x0 x1 : Int} (h0 : 0 ≤ x1) (h1 : x1 ≤ 9) (h2 : 0 ≤ x0) (h3 : x0 ≤ 10) (h4 : x0 = x1) (h5 : -2147483648 ≤ x0) (h6 : x0 ≤ 2147483647) (h7 : -2147483648 ≤ x1) (h8 : x1 ≤ 2147483647) : 76 * x0 ≤ 2147483647 := by omega
theorem o34_71 {x0 x1 x2 x3 : Int} (h0 : 0 ≤ x2) (h1 : x2 ≤ 9) (h2 : x0 = 113) (h3 : 0 ≤ x3) (h4 : x3 ≤ 10) (h5 : x3 = x2) (h6 : x1 = 76 * x3) (h7 : -2147483648 ≤ x0) (h8 : x0 ≤ 2147483647) (h9 : -2147483648 ≤ x1) (h10 : x1 ≤ 2147483647) (h11 : -2147483648 ≤ x2) (h12 : x2 ≤ 2147483647) (h13 : -2147483648 ≤ x3) (h14 : x3 ≤ 2147483647) : -2147483648 ≤ x0 + x1 := by omega
theorem o34_72 {x0 x1 x2 x3 : Int} (h0 : 0 ≤ x2) (h1 : x2 ≤ 9) (h2 : x0 = 113) (h3 : 0 ≤ x3) (h4 : x3 ≤ 10) (h5 : x3 = x2) (h6 : x1 = 76 * x3) (h7 : -2147483648 ≤ x0) (h8 : x0 ≤ 2147483647) (h9 : -2147483648 ≤ x1) (h10 : x1 ≤ 2147483647) (h11 : -2147483648 ≤ x2) (h12 : x2 ≤ 2147483647) (h13 : -2147483648 ≤ x3) (h14 : x3 ≤ 2147483647) : x0 + x1 ≤ 2147483647 := by omega
theorem o34_73 {x0 x1 x2 x4 x5 x6 x7 : Int} {x3 : Nat} (h0 : 0 ≤ x1) (h1 : x1 ≤ 76) (h2 : 0 ≤ x2) (h3 : x2 ≤ 9) (h4 : 76 - x1 < ((x3 + 1 : Nat) : Int)) (h5 : x4 = 76) (h6 : x1 < x4) (h7 : x5 = 113) (h8 : 0 ≤ x6) (h9 : x6 ≤ 10) (h10 : x6 = x2) (h11 : x7 = 76 * x6) (h12 : x0 = x5 + x7) (h13 : -2147483648 ≤ x0) (h14 : x0 ≤ 2147483647) (h15 : -2147483648 ≤ x1) (h16 : x1 ≤ 2147483647) (h17 : -2147483648 ≤ x2) (h18 : x2 ≤ 2147483647) (h19 : -2147483648 ≤ x4) (h20 : x4 ≤ 2147483647) (h21 : -2147483648 ≤ x5) (h22 : x5 ≤ 2147483647) (h23 : -2147483648 ≤ x6) (h24 : x6 ≤ 2147483647) (h25 : -2147483648 ≤ x7) (h26 : x7 ≤ 2147483647) : -2147483648 ≤ x0 + x1 := by omega
theorem o34_74 {x0 x1 x2 x4 x5 x6 x7 : Int} {x3 : Nat} (h0 : 0 ≤ x1) (h1 : x1 ≤ 76) (h2 : 0 ≤ x2) (h3 : x2 ≤ 9) (h4 : 76 - x1 < ((x3 + 1 : Nat) : Int)) (h5 : x4 = 76) (h6 : x1 < x4) (h7 : x5 = 113) (h8 : 0 ≤ x6) (h9 : x6 ≤ 10) (h10 : x6 = x2) (h11 : x7 = 76 * x6) (h12 : x0 = x5 + x7) (h13 : -2147483648 ≤ x0) (h14 : x0 ≤ 2147483647) (h15 : -2147483648 ≤ x1) (h16 : x1 ≤ 2147483647) (h17 : -2147483648 ≤ x2) (h18 : x2 ≤ 2147483647) (h19 : -2147483648 ≤ x4) (h20 : x4 ≤ 2147483647) (h21 : -2147483648 ≤ x5) (h22 : x5 ≤ 2147483647) (h23 : -2147483648 ≤ x6) (h24 : x6 ≤ 2147483647) (h25 : -2147483648 ≤ x7) (h26 : x7 ≤ 2147483647) : x0 + x1 ≤ 2147483647 := by omega
theorem o34_75 {x0 x1 x3 x4 x5 x6 x7 x8 : Int} {x2 : Nat} (h0 : 0 ≤ x0) (h1 : x0 ≤ 76) (h2 : 0 ≤ x1) (h3 : x1 ≤ 9) (h4 : 76 - x0 < ((x2 + 1 : Nat) : Int)) (h5 : x3 = 76) (h6 : x0 < x3) (h7 : x4 = 113) (h8 : 0 ≤ x5) (h9 : x5 ≤ 10) (h10 : x5 = x1) (h11 : x6 = 76 * x5) (h12 : x7 = x4 + x6) (h13 : x8 = x7 + x0) : 0 ≤ x0 := by omega
theorem o34_76 {x0 x1 x3 x4 x5 x6 x7 x8 : Int} {x2 : Nat} (h0 : 0 ≤ x0) (h1 : x0 ≤ 76) (h2 : 0 ≤ x1) (h3 : x1 ≤ 9) (h4 : 76 - x0 < ((x2 + 1 : Nat) : Int)) (h5 : x3 = 76) (h6 : x0 < x3) (h7 : x4 = 113) (h8 : 0 ≤ x5) (h9 : x5 ≤ 10) (h10 : x5 = x1) (h11 : x6 = 76 * x5) (h12 : x7 = x4 + x6) (h13 : x8 = x7 + x0) : x0 < (76 : Nat) := by omega
theorem o34_77 {x0 x1 x2 x4 x5 x6 x7 x8 : Int} {x3 : Nat} (h0 : 0 ≤ x1) (h1 : x1 ≤ 76) (h2 : 0 ≤ x2) (h3 : x2 ≤ 9) (h4 : 76 - x1 < ((x3 + 1 : Nat) : Int)) (h5 : x4 = 76) (h6 : x1 < x4) (h7 : x5 = 113) (h8 : 0 ≤ x6) (h9 : x6 ≤ 10) (h10 : x6 = x2) (h11 : x7 = 76 * x6) (h12 : x8 = x5 + x7) (h13 : x0 = x8 + x1) : 0 ≤ x0 := by omega
theorem o34_78 {x0 x1 x2 x4 x5 x6 x7 x8 : Int} {x3 : Nat} (h0 : 0 ≤ x1) (h1 : x1 ≤ 76) (h2 : 0 ≤ x2) (h3 : x2 ≤ 9) (h4 : 76 - x1 < ((x3 + 1 : Nat) : Int)) (h5 : x4 = 76) (h6 : x1 < x4) (h7 : x5 = 113) (h8 : 0 ≤ x6) (h9 : x6 ≤ 10) (h10 : x6 = x2) (h11 : x7 = 76 * x6) (h12 : x8 = x5 + x7) (h13 : x0 = x8 + x1) : x0 < (5322 : Nat) := by omega
theorem o34_79 {x0 x1 x2 x4 x5 x6 x7 x8 : Int} {x3 : Nat} (h0 : 0 ≤ x2) (h1 : x2 ≤ 76) (h2 : 0 ≤ x1) (h3 : x1 ≤ 9) (h4 : 76 - x2 < ((x3 + 1 : Nat) : Int)) (h5 : x4 = 76) (h6 : x2 < x4) (h7 : x5 = 113) (h8 : 0 ≤ x6) (h9 : x6 ≤ 10) (h10 : x6 = x1) (h11 : x7 = 76 * x6) (h12 : x8 = x5 + x7) (h13 : x0 = x8 + x2) : (x0).toNat = 113 + 76 * (x1).toNat + (x2).toNat := by omega
theorem o34_80 {x0 x1 x3 x4 x5 x6 x7 x8 : Int} {x2 : Nat} (h0 : 0 ≤ x1) (h1 : x1 ≤ 76) (h2 : 0 ≤ x0) (h3 : x0 ≤ 9) (h4 : 76 - x1 < ((x2 + 1 : Nat) : Int)) (h5 : x3 = 76) (h6 : x1 < x3) (h7 : x4 = 113) (h8 : 0 ≤ x5) (h9 : x5 ≤ 10) (h10 : x5 = x0) (h11 : x6 = 76 * x5) (h12 : x7 = x4 + x6) (h13 : x8 = x7 + x1) : (x0).toNat < 10 := by omega
theorem o34_81 {x0 x1 x3 x4 x5 x6 x7 x8 : Int} {x2 : Nat} (h0 : 0 ≤ x0) (h1 : x0 ≤ 76) (h2 : 0 ≤ x1) (h3 : x1 ≤ 9) (h4 : 76 - x0 < ((x2 + 1 : Nat) : Int)) (h5 : x3 = 76) (h6 : x0 < x3) (h7 : x4 = 113) (h8 : 0 ≤ x5) (h9 : x5 ≤ 10) (h10 : x5 = x1) (h11 : x6 = 76 * x5) (h12 : x7 = x4 + x6) (h13 : x8 = x7 + x0) : (x0).toNat < 76 := by omega
theorem o34_82 {x0 x1 x2 x4 x5 x6 x7 x8 : Int} {x3 : Nat} (h0 : 0 ≤ x1) (h1 : x1 ≤ 76) (h2 : 0 ≤ x2) (h3 : x2 ≤ 9) (h4 : 76 - x1 < ((x3 + 1 : Nat) : Int)) (h5 : x4 = 76) (h6 : x1 < x4) (h7 : x5 = 113) (h8 : 0 ≤ x6) (h9 : x6 ≤ 10) (h10 : x6 = x2) (h11 : x7 = 76 * x6) (h12 : x8 = x5 + x7) (h13 : x0 = x8 + x1) : (36 ≤ x0 ∨ x0 = 10) := by omega
theorem o34_83 {x0 x1 x2 x4 x5 x6 x7 x8 : Int} {x3 : Nat} (h0 : 0 ≤ x1) (h1 : x1 ≤ 76) (h2 : 0 ≤ x2) (h3 : x2 ≤ 9) (h4 : 76 - x1 < ((x3 + 1 : Nat) : Int)) (h5 : x4 = 76) (h6 : x1 < x4) (h7 : x5 = 113) (h8 : 0 ≤ x6) (h9 : x6 ≤ 10) (h10 : x6 = x2) (h11 : x7 = 76 * x6) (h12 : x8 = x5 + x7) (h13 : x0 = x8 + x1) : 10 ≤ x0 := by omega
theorem o34_84 {x0 x1 x2 x4 x5 x6 x7 x8 : Int} {x3 : Nat} (h0 : 0 ≤ x1) (h1 : x1 ≤ 76) (h2 : 0 ≤ x2) (h3 : x2 ≤ 9) (h4 : 76 - x1 < ((x3 + 1 : Nat) : Int)) (h5 : x4 = 76) (h6 : x1 < x4) (h7 : x5 = 113) (h8 : 0 ≤ x6) (h9 : x6 ≤ 10) (h10 : x6 = x2) (h11 : x7 = 76 * x6) (h12 : x8 = x5 + x7) (h13 : x0 = x8 + x1) : x0 ≤ 872 := by omega
theorem o34_85 {x0 x1 x3 x4 x5 x6 x7 x8 : Int} {x2 : Nat} (h0 : 0 ≤ x0) (h1 : x0 ≤ 76) (h2 : 0 ≤ x1) (h3 : x1 ≤ 9) (h4 : 76 - x0 < ((x2 + 1 : Nat) : Int)) (h5 : x3 = 76) (h6 : x0 < x3) (h7 : x4 = 113) (h8 : 0 ≤ x5) (h9 : x5 ≤ 10) (h10 : x5 = x1) (h11 : x6 = 76 * x5) (h12 : x7 = x4 + x6) (h13 : x8 = x7 + x0) (h14 : -2147483648 ≤ x0) (h15 : x0 ≤ 2147483647) (h16 : -2147483648 ≤ x1) (h17 : x1 ≤ 2147483647) (h18 : -2147483648 ≤ x3) (h19 : x3 ≤ 2147483647) (h20 : -2147483648 ≤ x4) (h21 : x4 ≤ 2147483647) (h22 : -2147483648 ≤ x5) (h23 : x5 ≤ 2147483647) (h24 : -2147483648 ≤ x6) (h25 : x6 ≤ 2147483647) (h26 : -2147483648 ≤ x7) (h27 : x7 ≤ 2147483647) (h28 : -2147483648 ≤ x8) (h29 : x8 ≤ 2147483647) : -2147483648 ≤ x0 + 1 := by omega
theorem o34_86 {x0 x1 x3 x4 x5 x6 x7 x8 : Int} {x2 : Nat} (h0 : 0 ≤ x0) (h1 : x0 ≤ 76) (h2 : 0 ≤ x1) (h3 : x1 ≤ 9) (h4 : 76 - x0 < ((x2 + 1 : Nat) : Int)) (h5 : x3 = 76) (h6 : x0 < x3) (h7 : x4 = 113) (h8 : 0 ≤ x5) (h9 : x5 ≤ 10) (h10 : x5 = x1) (h11 : x6 = 76 * x5) (h12 : x7 = x4 + x6) (h13 : x8 = x7 + x0) (h14 : -2147483648 ≤ x0) (h15 : x0 ≤ 2147483647) (h16 : -2147483648 ≤ x1) (h17 : x1 ≤ 2147483647) (h18 : -2147483648 ≤ x3) (h19 : x3 ≤ 2147483647) (h20 : -2147483648 ≤ x4) (h21 : x4 ≤ 2147483647) (h22 : -2147483648 ≤ x5) (h23 : x5 ≤ 2147483647) (h24 : -2147483648 ≤ x6) (h25 : x6 ≤ 2147483647) (h26 : -2147483648 ≤ x7) (h27 : x7 ≤ 2147483647) (h28 : -2147483648 ≤ x8) (h29 : x8 ≤ 2147483647) : x0 + 1 ≤ 2147483647 := by omega
theorem o34_87 {x0 x1 x2 x4 x5 x6 x7 x8 x9 : Int} {x3 : Nat} (h0 : 0 ≤ x1) (h1 : x1 ≤ 76) (h2 : 0 ≤ x2) (h3 : x2 ≤ 9) (h4 : 76 - x1 < ((x3 + 1 : Nat) : Int)) (h5 : x4 = 76) (h6 : x1 < x4) (h7 : x5 = 113) (h8 : 0 ≤ x6) (h9 : x6 ≤ 10) (h10 : x6 = x2) (h11 : x7 = 76 * x6) (h12 : x8 = x5 + x7) (h13 : x0 = x8 + x1) (h14 : x9 = x1 + 1) : 112 ≠ (x0).toNat := by omega
theorem o34_88 {x0 x2 x3 x4 x5 x6 x7 x8 x9 : Int} {x1 : Nat} (h0 : 0 ≤ x2) (h1 : x2 ≤ 76) (h2 : 0 ≤ x3) (h3 : x3 ≤ 9) (h4 : 76 - x2 < ((x1 + 1 : Nat) : Int)) (h5 : x4 = 76) (h6 : x2 < x4) (h7 : x5 = 113) (h8 : 0 ≤ x6) (h9 : x6 ≤ 10) (h10 : x6 = x3) (h11 : x7 = 76 * x6) (h12 : x8 = x5 + x7) (h13 : x9 = x8 + x2) (h14 : x0 = x2 + 1) : 76 - x0 < (x1 : Int) := by omega
theorem o34_89 {x0 x1 x2 x4 x5 x6 x7 x8 x9 : Int} {x3 : Nat} (h0 : 0 ≤ x1) (h1 : x1 ≤ 76) (h2 : 0 ≤ x2) (h3 : x2 ≤ 9) (h4 : 76 - x1 < ((x3 + 1 : Nat) : Int)) (h5 : x4 = 76) (h6 : x1 < x4) (h7 : x5 = 113) (h8 : 0 ≤ x6) (h9 : x6 ≤ 10) (h10 : x6 = x2) (h11 : x7 = 76 * x6) (h12 : x8 = x5 + x7) (h13 : x9 = x8 + x1) (h14 : x0 = x1 + 1) : 0 ≤ x0 := by omega
theorem o34_90 {x0 x1 x2 x4 x5 x6 x7 x8 x9 : Int} {x3 : Nat} (h0 : 0 ≤ x1) (h1 : x1 ≤ 76) (h2 : 0 ≤ x2) (h3 : x2 ≤ 9) (h4 : 76 - x1 < ((x3 + 1 : Nat) : Int)) (h5 : x4 = 76) (h6 : x1 < x4) (h7 : x5 = 113) (h8 : 0 ≤ x6) (h9 : x6 ≤ 10) (h10 : x6 = x2) (h11 : x7 = 76 * x6) (h12 : x8 = x5 + x7) (h13 : x9 = x8 + x1) (h14 : x0 = x1 + 1) : x0 ≤ 76 := by omega
theorem o34_91 {x0 x1 x3 x4 x5 x6 x7 x8 x9 : Int} {x2 : Nat} (h0 : 0 ≤ x1) (h1 : x1 ≤ 76) (h2 : 0 ≤ x0) (h3 : x0 ≤ 9) (h4 : 76 - x1 < ((x2 + 1 : Nat) : Int)) (h5 : x3 = 76) (h6 : x1 < x3) (h7 : x4 = 113) (h8 : 0 ≤ x5) (h9 : x5 ≤ 10) (h10 : x5 = x0) (h11 : x6 = 76 * x5) (h12 : x7 = x4 + x6) (h13 : x8 = x7 + x1) (h14 : x9 = x1 + 1) : 0 ≤ x0 := by omega
theorem o34_92 {x0 x1 x3 x4 x5 x6 x7 x8 x9 : Int} {x2 : Nat} (h0 : 0 ≤ x1) (h1 : x1 ≤ 76) (h2 : 0 ≤ x0) (h3 : x0 ≤ 9) (h4 : 76 - x1 < ((x2 + 1 : Nat) : Int)) (h5 : x3 = 76) (h6 : x1 < x3) (h7 : x4 = 113) (h8 : 0 ≤ x5) (h9 : x5 ≤ 10) (h10 : x5 = x0) (h11 : x6 = 76 * x5) (h12 : x7 = x4 + x6) (h13 : x8 = x7 + x1) (h14 : x9 = x1 + 1) : x0 ≤ 9 := by omega
theorem o34_93 {x0 x1 : Int} (h0 : 0 ≤ x0) (h1 : x0 ≤ 10) (h2 : x1 = 10) (h3 : ¬ x0 = x1) : 0 ≤ x0 := by omega
theorem o34_94 {x0 x1 : Int} (h0 : 0 ≤ x0) (h1 : x0 ≤ 10) (h2 : x1 = 10) (h3 : ¬ x0 = x1) : x0 ≤ 9 := by omega
theorem o34_95 {x0 : Int} (h0 : 0 ≤ x0) (h1 : x0 ≤ 684) (h2 : 684 - x0 < 0) : False := by omega
theorem o34_96 {x0 : Int} (h0 : x0 = 684) : x0 = 684 := by omega
theorem o34_97 {x0 x2 : Int} {x1 : Nat} (h0 : 0 ≤ x0) (h1 : x0 ≤ 684) (h2 : 684 - x0 < ((x1 + 1 : Nat) : Int)) (h3 : x2 = 684) (h4 : x2 ≤ x0) : ¬ x0 < 684 := by omega
theorem o34_98 {x0 x2 : Int} {x1 : Nat} (h0 : 0 ≤ x0) (h1 : x0 ≤ 684) (h2 : 684 - x0 < ((x1 + 1 : Nat) : Int)) (h3 : x2 = 684) (h4 : x0 < x2) : x0 < 684 := by omega
theorem o34_99 {x0 x1 x2 : Int} (h0 : 10 ≤ x2) (h1 : x2 ≤ 10) (h2 : 0 ≤ x0) (h3 : x0 ≤ 10) (h4 : x0 = x2) (h5 : x1 = 1) (h6 : -2147483648 ≤ x0) (h7 : x0 ≤ 2147483647) (h8 : -2147483648 ≤ x1) (h9 : x1 ≤ 2147483647) (h10 : -2147483648 ≤ x2) (h11 : x2 ≤ 2147483647) : -2147483648 ≤ x0 - x1 := by omega
theorem o34_100 {x0 x1 x2 : Int} (h0 : 10 ≤ x2) (h1 : x2 ≤ 10) (h2 : 0 ≤ x0) (h3 : x0 ≤ 10) (h4 : x0 = x2) (h5 : x1 = 1) (h6 : -2147483648 ≤ x0) (h7 : x0 ≤ 2147483647) (h8 : -2147483648 ≤ x1) (h9 : x1 ≤ 2147483647) (h10 : -2147483648 ≤ x2) (h11 : x2 ≤ 2147483647) : x0 - x1 ≤ 2147483647 := by omega
theorem o34_101 {x0 x1 x2 x3 : Int} (h0 : 10 ≤ x1) (h1 : x1 ≤ 10) (h2 : 0 ≤ x2) (h3 : x2 ≤ 10) (h4 : x2 = x1) (h5 : x3 = 1) (h6 : x0 = x2 - x3) : 0 ≤ x0 := by omega
theorem o34_102 {x0 x1 x2 x3 : Int} (h0 : 10 ≤ x1) (h1 : x1 ≤ 10) (h2 : 0 ≤ x2) (h3 : x2 ≤ 10) (h4 : x2 = x1) (h5 : x3 = 1) (h6 : x0 = x2 - x3) : x0 ≤ 10 := by omega
theorem o34_103 {x0 x1 x2 x3 : Int} (h0 : 10 ≤ x1) (h1 : x1 ≤ 10) (h2 : 0 ≤ x2) (h3 : x2 ≤ 10) (h4 : x2 = x1) (h5 : x3 = 1) (h6 : x0 = x2 - x3) : x0 ≤ 9 := by omega
theorem o34_104 {x0 x1 x3 : Int} {x2 : Nat} (h0 : 0 ≤ x1) (h1 : x1 ≤ 684) (h2 : 684 - x1 < ((x2 + 1 : Nat) : Int)) (h3 : x3 = 684) (h4 : x1 < x3) (h5 : x0 = 113) (h6 : -2147483648 ≤ x0) (h7 : x0 ≤ 2147483647) (h8 : -2147483648 ≤ x1) (h9 : x1 ≤ 2147483647) (h10 : -2147483648 ≤ x3) (h11 : x3 ≤ 2147483647) : -2147483648 ≤ x0 + x1 := by omega
theorem o34_105 {x0 x1 x3 : Int} {x2 : Nat} (h0 : 0 ≤ x1) (h1 : x1 ≤ 684) (h2 : 684 - x1 < ((x2 + 1 : Nat) : Int)) (h3 : x3 = 684) (h4 : x1 < x3) (h5 : x0 = 113) (h6 : -2147483648 ≤ x0) (h7 : x0 ≤ 2147483647) (h8 : -2147483648 ≤ x1) (h9 : x1 ≤ 2147483647) (h10 : -2147483648 ≤ x3) (h11 : x3 ≤ 2147483647) : x0 + x1 ≤ 2147483647 := by omega
theorem o34_106 {x0 x1 x3 x4 x5 : Int} {x2 : Nat} (h0 : 0 ≤ x1) (h1 : x1 ≤ 684) (h2 : 684 - x1 < ((x2 + 1 : Nat) : Int)) (h3 : x3 = 684) (h4 : x1 < x3) (h5 : x4 = 113) (h6 : x5 = x4 + x1) (h7 : x0 = 189) (h8 : -2147483648 ≤ x0) (h9 : x0 ≤ 2147483647) (h10 : -2147483648 ≤ x1) (h11 : x1 ≤ 2147483647) (h12 : -2147483648 ≤ x3) (h13 : x3 ≤ 2147483647) (h14 : -2147483648 ≤ x4) (h15 : x4 ≤ 2147483647) (h16 : -2147483648 ≤ x5) (h17 : x5 ≤ 2147483647) : -2147483648 ≤ x0 + x1 := by omega
theorem o34_107 {x0 x1 x3 x4 x5 : Int} {x2 : Nat} (h0 : 0 ≤ x1) (h1 : x1 ≤ 684) (h2 : 684 - x1 < ((x2 + 1 : Nat) : Int)) (h3 : x3 = 684) (h4 : x1 < x3) (h5 : x4 = 113) (h6 : x5 = x4 + x1) (h7 : x0 = 189) (h8 : -2147483648 ≤ x0) (h9 : x0 ≤ 2147483647) (h10 : -2147483648 ≤ x1) (h11 : x1 ≤ 2147483647) (h12 : -2147483648 ≤ x3) (h13 : x3 ≤ 2147483647) (h14 : -2147483648 ≤ x4) (h15 : x4 ≤ 2147483647) (h16 : -2147483648 ≤ x5) (h17 : x5 ≤ 2147483647) : x0 + x1 ≤ 2147483647 := by omega
theorem o34_108 {x0 x1 x3 x4 x5 x6 : Int} {x2 : Nat} (h0 : 0 ≤ x1) (h1 : x1 ≤ 684) (h2 : 684 - x1 < ((x2 + 1 : Nat) : Int)) (h3 : x3 = 684) (h4 : x1 < x3) (h5 : x4 = 113) (h6 : x5 = x4 + x1) (h7 : x6 = 189) (h8 : x0 = x6 + x1) : 0 ≤ x0 := by omega
theorem o34_109 {x0 x1 x3 x4 x5 x6 : Int} {x2 : Nat} (h0 : 0 ≤ x1) (h1 : x1 ≤ 684) (h2 : 684 - x1 < ((x2 + 1 : Nat) : Int)) (h3 : x3 = 684) (h4 : x1 < x3) (h5 : x4 = 113) (h6 : x5 = x4 + x1) (h7 : x6 = 189) (h8 : x0 = x6 + x1) : x0 < (5322 : Nat) := by omega
theorem o34_110 {x0 x1 x3 x4 x5 x6 : Int} {x2 : Nat} (h0 : 0 ≤ x1) (h1 : x1 ≤ 684) (h2 : 684 - x1 < ((x2 + 1 : Nat) : Int)) (h3 : x3 = 684) (h4 : x1 < x3) (h5 : x4 = 113) (h6 : x0 = x4 + x1) (h7 : x5 = 189) (h8 : x6 = x5 + x1) : 0 ≤ x0 := by omega
theorem o34_111 {x0 x1 x3 x4 x5 x6 : Int} {x2 : Nat} (h0 : 0 ≤ x1) (h1 : x1 ≤ 684) (h2 : 684 - x1 < ((x2 + 1 : Nat) : Int)) (h3 : x3 = 684) (h4 : x1 < x3) (h5 : x4 = 113) (h6 : x0 = x4 + x1) (h7 : x5 = 189) (h8 : x6 = x5 + x1) : x0 < (5322 : Nat) := by omega
theorem o34_112 {x0 x1 x3 x4 x5 x6 : Int} {x2 : Nat} (h0 : 0 ≤ x1) (h1 : x1 ≤ 684) (h2 : 684 - x1 < ((x2 + 1 : Nat) : Int)) (h3 : x3 = 684) (h4 : x1 < x3) (h5 : x4 = 113) (h6 : x0 = x4 + x1) (h7 : x5 = 189) (h8 : x6 = x5 + x1) : (x0).toNat = 113 + (x1).toNat := by omega
theorem o34_113 {x0 x1 x3 x4 x5 x6 : Int} {x2 : Nat} (h0 : 0 ≤ x1) (h1 : x1 ≤ 684) (h2 : 684 - x1 < ((x2 + 1 : Nat) : Int)) (h3 : x3 = 684) (h4 : x1 < x3) (h5 : x4 = 113) (h6 : x5 = x4 + x1) (h7 : x6 = 189) (h8 : x0 = x6 + x1) : (x0).toNat = 189 + (x1).toNat := by omega
theorem o34_114 {x0 x2 x3 x4 x5 x6 : Int} {x1 : Nat} (h0 : 0 ≤ x0) (h1 : x0 ≤ 684) (h2 : 684 - x0 < ((x1 + 1 : Nat) : Int)) (h3 : x2 = 684) (h4 : x0 < x2) (h5 : x3 = 113) (h6 : x4 = x3 + x0) (h7 : x5 = 189) (h8 : x6 = x5 + x0) : (x0).toNat < 684 := by omega
theorem o34_115 {x0 x1 x3 x4 x5 x6 : Int} {x2 : Nat} (h0 : 0 ≤ x1) (h1 : x1 ≤ 684) (h2 : 684 - x1 < ((x2 + 1 : Nat) : Int)) (h3 : x3 = 684) (h4 : x1 < x3) (h5 : x4 = 113) (h6 : x0 = x4 + x1) (h7 : x5 = 189) (h8 : x6 = x5 + x1) : (36 ≤ x0 ∨ x0 = 10) := by omega
theorem o34_116 {x0 x1 x3 x4 x5 x6 : Int} {x2 : Nat} (h0 : 0 ≤ x1) (h1 : x1 ≤ 684) (h2 : 684 - x1 < ((x2 + 1 : Nat) : Int)) (h3 : x3 = 684) (h4 : x1 < x3) (h5 : x4 = 113) (h6 : x0 = x4 + x1) (h7 : x5 = 189) (h8 : x6 = x5 + x1) : 10 ≤ x0 := by omega
theorem o34_117 {x0 x1 x3 x4 x5 x6 : Int} {x2 : Nat} (h0 : 0 ≤ x1) (h1 : x1 ≤ 684) (h2 : 684 - x1 < ((x2 + 1 : Nat) : Int)) (h3 : x3 = 684) (h4 : x1 < x3) (h5 : x4 = 113) (h6 : x0 = x4 + x1) (h7 : x5 = 189) (h8 : x6 = x5 + x1) : x0 ≤ 872 := by omega
theorem o34_118 {x0 x2 x3 x4 x5 x6 : Int} {x1 : Nat} (h0 : 0 ≤ x0) (h1 : x0 ≤ 684) (h2 : 684 - x0 < ((x1 + 1 : Nat) : Int)) (h3 : x2 = 684) (h4 : x0 < x2) (h5 : x3 = 113) (h6 : x4 = x3 + x0) (h7 : x5 = 189) (h8 : x6 = x5 + x0) (h9 : -2147483648 ≤ x0) (h10 : x0 ≤ 2147483647) (h11 : -2147483648 ≤ x2) (h12 : x2 ≤ 2147483647) (h13 : -2147483648 ≤ x3) (h14 : x3 ≤ 2147483647) (h15 : -2147483648 ≤ x4) (h16 : x4 ≤ 2147483647) (h17 : -2147483648 ≤ x5) (h18 : x5 ≤ 2147483647) (h19 : -2147483648 ≤ x6) (h20 : x6 ≤ 2147483647) : -2147483648 ≤ x0 + 1 := by omega
theorem o34_119 {x0 x2 x3 x4 x5 x6 : Int} {x1 : Nat} (h0 : 0 ≤ x0) (h1 : x0 ≤ 684) (h2 : 684 - x0 < ((x1 + 1 : Nat) : Int)) (h3 : x2 = 684) (h4 : x0 < x2) (h5 : x3 = 113) (h6 : x4 = x3 + x0) (h7 : x5 = 189) (h8 : x6 = x5 + x0) (h9 : -2147483648 ≤ x0) (h10 : x0 ≤ 2147483647) (h11 : -2147483648 ≤ x2) (h12 : x2 ≤ 2147483647) (h13 : -2147483648 ≤ x3) (h14 : x3 ≤ 2147483647) (h15 : -2147483648 ≤ x4) (h16 : x4 ≤ 2147483647) (h17 : -2147483648 ≤ x5) (h18 : x5 ≤ 2147483647) (h19 : -2147483648 ≤ x6) (h20 : x6 ≤ 2147483647) : x0 + 1 ≤ 2147483647 := by omega
theorem o34_120 {x0 x1 x3 x4 x5 x6 x7 : Int} {x2 : Nat} (h0 : 0 ≤ x1) (h1 : x1 ≤ 684) (h2 : 684 - x1 < ((x2 + 1 : Nat) : Int)) (h3 : x3 = 684) (h4 : x1 < x3) (h5 : x4 = 113) (h6 : x0 = x4 + x1) (h7 : x5 = 189) (h8 : x6 = x5 + x1) (h9 : x7 = x1 + 1) : 112 ≠ (x0).toNat := by omega
theorem o34_121 {x0 x2 x3 x4 x5 x6 x7 : Int} {x1 : Nat} (h0 : 0 ≤ x2) (h1 : x2 ≤ 684) (h2 : 684 - x2 < ((x1 + 1 : Nat) : Int)) (h3 : x3 = 684) (h4 : x2 < x3) (h5 : x4 = 113) (h6 : x5 = x4 + x2) (h7 : x6 = 189) (h8 : x7 = x6 + x2) (h9 : x0 = x2 + 1) : 684 - x0 < (x1 : Int) := by omega
theorem o34_122 {x0 x1 x3 x4 x5 x6 x7 : Int} {x2 : Nat} (h0 : 0 ≤ x1) (h1 : x1 ≤ 684) (h2 : 684 - x1 < ((x2 + 1 : Nat) : Int)) (h3 : x3 = 684) (h4 : x1 < x3) (h5 : x4 = 113) (h6 : x5 = x4 + x1) (h7 : x6 = 189) (h8 : x7 = x6 + x1) (h9 : x0 = x1 + 1) : 0 ≤ x0 := by omega
theorem o34_123 {x0 x1 x3 x4 x5 x6 x7 : Int} {x2 : Nat} (h0 : 0 ≤ x1) (h1 : x1 ≤ 684) (h2 : 684 - x1 < ((x2 + 1 : Nat) : Int)) (h3 : x3 = 684) (h4 : x1 < x3) (h5 : x4 = 113) (h6 : x5 = x4 + x1) (h7 : x6 = 189) (h8 : x7 = x6 + x1) (h9 : x0 = x1 + 1) : x0 ≤ 684 := by omega
theorem o34_124 {x0 : Int} (h0 : 10 ≤ x0) (h1 : x0 ≤ 10) : 10 ≤ x0 := by omega
theorem o34_125 {x0 : Int} (h0 : 10 ≤ x0) (h1 : x0 ≤ 10) : x0 ≤ 10 := by omega
theorem o34_126 {x0 : Int} (h0 : x0 = 0) : 684 - x0 < (((684 - x0 + 1).toNat : Nat) : Int) := by omega
theorem o34_127 {x0 : Int} (h0 : x0 = 0) : x0 ≤ 684 := by omega
theorem o34_128 {x0 x1 : Int} (h0 : 0 ≤ x0) (h1 : x0 ≤ 10) (h2 : x1 = 10) (h3 : x0 = x1) : 10 ≤ x0 := by omega
theorem o34_129 {x0 x1 : Int} (h0 : 0 ≤ x0) (h1 : x0 ≤ 10) (h2 : x1 = 10) (h3 : x0 = x1) : x0 ≤ 10 := by omega
theorem o34_130 {x0 : Int} (h0 : x0 = 1) : x0 ≤ 4 := by omega
theorem o34_131 {x0 x1 x2 x3 : Int} (h0 : 0 ≤ x3) (h1 : x3 ≤ 1) (h2 : (x3 = 0 ∨ (0 ≤ x1 ∧ x1 ≤ 4))) (h3 : x3 = 0) (h4 : x0 = 1) : (x0 = 0 → 0 ≤ x1) ∧ (x0 = 0 → x1 ≤ 4) ∧ (x0 = 0 → 0 ≤ x2) ∧ (x0 = 0 → x2 ≤ 3) := by omega
theorem o34_132 {x0 : Int} (h0 : x0 = 1) (h1 : x0 = 0) : False := by omega
theorem o34_133 {x0 x1 : Int} (h0 : 0 ≤ x1) (h1 : x1 ≤ 1) (h2 : (x1 = 0 ∨ (0 ≤ x0 ∧ x0 ≤ 4))) (h3 : ¬ x1 = 0) (h4 : -2147483648 ≤ x1) (h5 : x1 ≤ 2147483647) : -2147483648 ≤ x0 := by omega
theorem o34_134 {x0 x1 : Int} (h0 : 0 ≤ x1) (h1 : x1 ≤ 1) (h2 : (x1 = 0 ∨ (0 ≤ x0 ∧ x0 ≤ 4))) (h3 : ¬ x1 = 0) (h4 : -2147483648 ≤ x1) (h5 : x1 ≤ 2147483647) : x0 ≤ 2147483647 := by omega
theorem o34_135 {x0 x1 x2 x3 : Int} (h0 : 0 ≤ x2) (h1 : x2 ≤ 1) (h2 : (x2 = 0 ∨ (0 ≤ x3 ∧ x3 ≤ 4))) (h3 : ¬ x2 = 0) (h4 : x0 = 36) (h5 : x1 = x3) (h6 : -2147483648 ≤ x0) (h7 : x0 ≤ 2147483647) (h8 : -2147483648 ≤ x1) (h9 : x1 ≤ 2147483647) (h10 : -2147483648 ≤ x2) (h11 : x2 ≤ 2147483647) : -2147483648 ≤ x0 + x1 := by omega
theorem o34_136 {x0 x1 x2 x3 : Int} (h0 : 0 ≤ x2) (h1 : x2 ≤ 1) (h2 : (x2 = 0 ∨ (0 ≤ x3 ∧ x3 ≤ 4))) (h3 : ¬ x2 = 0) (h4 : x0 = 36) (h5 : x1 = x3) (h6 : -2147483648 ≤ x0) (h7 : x0 ≤ 2147483647) (h8 : -2147483648 ≤ x1) (h9 : x1 ≤ 2147483647) (h10 : -2147483648 ≤ x2) (h11 : x2 ≤ 2147483647) : x0 + x1 ≤ 2147483647 := by omega
theorem o34_137 {x0 x1 x2 x3 x4 : Int} (h0 : 0 ≤ x1) (h1 : x1 ≤ 1) (h2 : (x1 = 0 ∨ (0 ≤ x2 ∧ x2 ≤ 4))) (h3 : ¬ x1 = 0) (h4 : x3 = 36) (h5 : x4 = x2) (h6 : x0 = x3 + x4) : 0 ≤ x0 := by omega
theorem o34_138 {x0 x1 x2 x3 x4 : Int} (h0 : 0 ≤ x1) (h1 : x1 ≤ 1) (h2 : (x1 = 0 ∨ (0 ≤ x2 ∧ x2 ≤ 4))) (h3 : ¬ x1 = 0) (h4 : x3 = 36) (h5 : x4 = x2) (h6 : x0 = x3 + x4) : x0 < (5322 : Nat) := by omega
theorem o34_139 : ∀ p, p < 41 → 36 ≤ p → 0 ≤ (elAll p).1 ∧ (elAll p).2 ≤ 24 := by decide +kernel
theorem o34_140 {x0 x1 x2 x3 x4 : Int} (h0 : 0 ≤ x1) (h1 : x1 ≤ 1) (h2 : (x1 = 0 ∨ (0 ≤ x2 ∧ x2 ≤ 4))) (h3 : ¬ x1 = 0) (h4 : x3 = 36) (h5 : x4 = x2) (h6 : x0 = x3 + x4) : (x0).toNat < 41 := by omega
theorem o34_141 {x0 x1 x2 x3 x4 : Int} (h0 : 0 ≤ x1) (h1 : x1 ≤ 1) (h2 : (x1 = 0 ∨ (0 ≤ x2 ∧ x2 ≤ 4))) (h3 : ¬ x1 = 0) (h4 : x3 = 36) (h5 : x4 = x2) (h6 : x0 = x3 + x4) : 36 ≤ (x0).toNat := by omega
theorem o34_142 {x0 x1 x2 x3 x4 : Int} (h0 : 0 ≤ x1) (h1 : x1 ≤ 1) (h2 : (x1 = 0 ∨ (0 ≤ x0 ∧ x0 ≤ 4))) (h3 : ¬ x1 = 0) (h4 : x2 = 36) (h5 : x3 = x0) (h6 : x4 = x2 + x3) (h7 : -2147483648 ≤ x1) (h8 : x1 ≤ 2147483647) (h9 : -2147483648 ≤ x2) (h10 : x2 ≤ 2147483647) (h11 : -2147483648 ≤ x3) (h12 : x3 ≤ 2147483647) (h13 : -2147483648 ≤ x4) (h14 : x4 ≤ 2147483647) : -2147483648 ≤ x0 := by omega
theorem o34_143 {x0 x1 x2 x3 x4 : Int} (h0 : 0 ≤ x1) (h1 : x1 ≤ 1) (h2 : (x1 = 0 ∨ (0 ≤ x0 ∧ x0 ≤ 4))) (h3 : ¬ x1 = 0) (h4 : x2 = 36) (h5 : x3 = x0) (h6 : x4 = x2 + x3) (h7 : -2147483648 ≤ x1) (h8 : x1 ≤ 2147483647) (h9 : -2147483648 ≤ x2) (h10 : x2 ≤ 2147483647) (h11 : -2147483648 ≤ x3) (h12 : x3 ≤ 2147483647) (h13 : -2147483648 ≤ x4) (h14 : x4 ≤ 2147483647) : x0 ≤ 2147483647 := by omega
theorem o34_144 {x0 x1 x2 x3 x4 x5 x6 : Int} (h0 : 0 ≤ x2) (h1 : x2 ≤ 1) (h2 : (x2 = 0 ∨ (0 ≤ x3 ∧ x3 ≤ 4))) (h3 : ¬ x2 = 0) (h4 : x4 = 36) (h5 : x5 = x3) (h6 : x6 = x4 + x5) (h7 : x0 = 41) (h8 : x1 = x3) (h9 : -2147483648 ≤ x0) (h10 : x0 ≤ 2147483647) (h11 : -2147483648 ≤ x1) (h12 : x1 ≤ 2147483647) (h13 : -2147483648 ≤ x2) (h14 : x2 ≤ 2147483647) (h15 : -2147483648 ≤ x4) (h16 : x4 ≤ 2147483647) (h17 : -2147483648 ≤ x5) (h18 : x5 ≤ 2147483647) (h19 : -2147483648 ≤ x6) (h20 : x6 ≤ 2147483647) : -2147483648 ≤ x0 + x1 := by omega
theorem o34_145 {x0 x1 x2 x3 x4 x5 x6 : Int} (h0 : 0 ≤ x2) (h1 : x2 ≤ 1) (h2 : (x2 = 0 ∨ (0 ≤ x3 ∧ x3 ≤ 4))) (h3 : ¬ x2 = 0) (h4 : x4 = 36) (h5 : x5 = x3) (h6 : x6 = x4 + x5) (h7 : x0 = 41) (h8 : x1 = x3) (h9 : -2147483648 ≤ x0) (h10 : x0 ≤ 2147483647) (h11 : -2147483648 ≤ x1) (h12 : x1 ≤ 2147483647) (h13 : -2147483648 ≤ x2) (h14 : x2 ≤ 2147483647) (h15 : -2147483648 ≤ x4) (h16 : x4 ≤ 2147483647) (h17 : -2147483648 ≤ x5) (h18 : x5 ≤ 2147483647) (h19 : -2147483648 ≤ x6) (h20 : x6 ≤ 2147483647) : x0 + x1 ≤ 2147483647 := by omega
theorem o34_146 {x0 x1 x2 x3 x4 x5 x6 x7 : Int} (h0 : 0 ≤ x1) (h1 : x1 ≤ 1) (h2 : (x1 = 0 ∨ (0 ≤ x2 ∧ x2 ≤ 4))) (h3 : ¬ x1 = 0) (h4 : x3 = 36) (h5 : x4 = x2) (h6 : x5 = x3 + x4) (h7 : x6 = 41) (h8 : x7 = x2) (h9 : x0 = x6 + x7) : 0 ≤ x0 := by omega
theorem o34_147 {x0 x1 x2 x3 x4 x5 x6 x7 : Int} (h0 : 0 ≤ x1) (h1 : x1 ≤ 1) (h2 : (x1 = 0 ∨ (0 ≤ x2 ∧ x2 ≤ 4))) (h3 : ¬ x1 = 0) (h4 : x3 = 36) (h5 : x4 = x2) (h6 : x5 = x3 + x4) (h7 : x6 = 41) (h8 : x7 = x2) (h9 : x0 = x6 + x7) : x0 < (5322 : Nat) := by omega
theorem o34_148 : ∀ p, p < 46 → 41 ≤ p → 0 ≤ (elAll p).1 ∧ (elAll p).2 ≤ 3 := by decide +kernel
theorem o34_149 {x0 x1 x2 x3 x4 x5 x6 x7 : Int} (h0 : 0 ≤ x1) (h1 : x1 ≤ 1) (h2 : (x1 = 0 ∨ (0 ≤ x2 ∧ x2 ≤ 4))) (h3 : ¬ x1 = 0) (h4 : x3 = 36) (h5 : x4 = x2) (h6 : x5 = x3 + x4) (h7 : x6 = 41) (h8 : x7 = x2) (h9 : x0 = x6 + x7) : (x0).toNat < 46 := by omega
theorem o34_150 {x0 x1 x2 x3 x4 x5 x6 x7 : Int} (h0 : 0 ≤ x1) (h1 : x1 ≤ 1) (h2 : (x1 = 0 ∨ (0 ≤ x2 ∧ x2 ≤ 4))) (h3 : ¬ x1 = 0) (h4 : x3 = 36) (h5 : x4 = x2) (h6 : x5 = x3 + x4) (h7 : x6 = 41) (h8 : x7 = x2) (h9 : x0 = x6 + x7) : 41 ≤ (x0).toNat := by omega
theorem o34_151 {x0 x1 x2 x3 : Int} (h0 : x1 = 0) (h1 : x2 = 3) (h2 : 0 ≤ x3) (h3 : x3 ≤ 1) (h4 : ((x3 = 0 ∧ (x0 < x1 ∨ x2 < x0)) ∨ (x3 = 1 ∧ x1 ≤ x0 ∧ x0 ≤ x2))) (h5 : ¬ x3 = 0) (h6 : -2147483648 ≤ x3) (h7 : x3 ≤ 2147483647) : -2147483648 ≤ x0 := by omega
theorem o34_152 {x0 x1 x2 x3 : Int} (h0 : x1 = 0) (h1 : x2 = 3) (h2 : 0 ≤ x3) (h3 : x3 ≤ 1) (h4 : ((x3 = 0 ∧ (x0 < x1 ∨ x2 < x0)) ∨ (x3 = 1 ∧ x1 ≤ x0 ∧ x0 ≤ x2))) (h5 : ¬ x3 = 0) (h6 : -2147483648 ≤ x3) (h7 : x3 ≤ 2147483647) : x0 ≤ 2147483647 := by omega
theorem o34_153 {x0 : Int} (h0 : 0 ≤ x0) (h1 : x0 ≤ 3) : 0 ≤ x0 := by omega
theorem o34_154 {x0 : Int} (h0 : 0 ≤ x0) (h1 : x0 ≤ 3) : x0 ≤ 3 := by omega
theorem o34_155 {x0 x1 x2 x3 x4 : Int} (h0 : x1 = 0) (h1 : x2 = 3) (h2 : 0 ≤ x3) (h3 : x3 ≤ 1) (h4 : ((x3 = 0 ∧ (x4 < x1 ∨ x2 < x4)) ∨ (x3 = 1 ∧ x1 ≤ x4 ∧ x4 ≤ x2))) (h5 : ¬ x3 = 0) (h6 : x0 = x4) : 0 ≤ x0 := by omega
theorem o34_156 {x0 x1 x2 x3 x4 : Int} (h0 : x1 = 0) (h1 : x2 = 3) (h2 : 0 ≤ x3) (h3 : x3 ≤ 1) (h4 : ((x3 = 0 ∧ (x4 < x1 ∨ x2 < x4)) ∨ (x3 = 1 ∧ x1 ≤ x4 ∧ x4 ≤ x2))) (h5 : ¬ x3 = 0) (h6 : x0 = x4) : x0 ≤ 3 := by omega
theorem o34_157 {x0 x1 x2 x3 x4 x5 x6 x7 : Int} (h0 : 0 ≤ x0) (h1 : x0 ≤ 1) (h2 : (x0 = 0 ∨ (0 ≤ x1 ∧ x1 ≤ 4))) (h3 : ¬ x0 = 0) (h4 : x2 = 36) (h5 : x3 = x1) (h6 : x4 = x2 + x3) (h7 : x5 = 41) (h8 : x6 = x1) (h9 : x7 = x5 + x6) : ¬ x0 = 0 := by omega
theorem o34_158 {x0 x1 x2 x3 x4 x5 x6 x7 x8 x9 x10 x11 x12 x13 x14 x15 : Int} (h0 : 0 ≤ x3) (h1 : x3 ≤ 1) (h2 : (x3 = 0 ∨ (0 ≤ x1 ∧ x1 ≤ 4))) (h3 : ¬ x3 = 0) (h4 : x4 = 0) (h5 : x5 = 3) (h6 : 0 ≤ x6) (h7 : x6 ≤ 1) (h8 : ((x6 = 0 ∧ (x2 < x4 ∨ x5 < x2)) ∨ (x6 = 1 ∧ x4 ≤ x2 ∧ x2 ≤ x5))) (h9 : ¬ x6 = 0) (h10 : x7 = 36) (h11 : x8 = x1) (h12 : x9 = x7 + x8) (h13 : x10 = 41) (h14 : x11 = x1) (h15 : x12 = x10 + x11) (h16 : x13 = x2) (h17 : x14 = 2) (h18 : ((x15 = -1 ∧ x2 < x14) ∨ (x15 = 0 ∧ x2 = x14) ∨ (x15 = 1 ∧ x14 < x2))) (h19 : 0 ≤ x15) (h20 : x0 = 0) : (x0 = 0 → 0 ≤ x1) ∧ (x0 = 0 → x1 ≤ 4) ∧ (x0 = 0 → 0 ≤ x2) ∧ (x0 = 0 → x2 ≤ 3) := by omega
theorem o34_159 : ∀ p, p < 51 → 46 ≤ p → 0 ≤ (elAll p).1 ∧ (elAll p).2 ≤ 99 := by decide +kernel
theorem o34_160 {x0 : Int} (h0 : 0 ≤ x0) (h1 : x0 ≤ 1) (h2 : ¬ x0 = 0) (h3 : x0 = 0) : False := by omega
theorem o34_161 {x0 x1 x2 x3 x4 x5 x6 x7 : Int} (h0 : 0 ≤ x2) (h1 : x2 ≤ 1) (h2 : (x2 = 0 ∨ (0 ≤ x1 ∧ x1 ≤ 4))) (h3 : ¬ x2 = 0) (h4 : x3 = 36) (h5 : x4 = x1) (h6 : x0 = x3 + x4) (h7 : x5 = 41) (h8 : x6 = x1) (h9 : x7 = x5 + x6) : (x0).toNat = 36 + (x1).toNat := by omega
theorem o34_162 {x0 x1 x2 x3 x4 x5 x6 x7 : Int} (h0 : 0 ≤ x2) (h1 : x2 ≤ 1) (h2 : (x2 = 0 ∨ (0 ≤ x1 ∧ x1 ≤ 4))) (h3 : ¬ x2 = 0) (h4 : x3 = 36) (h5 : x4 = x1) (h6 : x5 = x3 + x4) (h7 : x6 = 41) (h8 : x7 = x1) (h9 : x0 = x6 + x7) : (x0).toNat = 41 + (x1).toNat := by omega
theorem o34_163 {x0 x1 x2 x3 x4 x5 x6 : Int} (h0 : x2 = 0) (h1 : x3 = 3) (h2 : 0 ≤ x4) (h3 : x4 ≤ 1) (h4 : ((x4 = 0 ∧ (x1 < x2 ∨ x3 < x1)) ∨ (x4 = 1 ∧ x2 ≤ x1 ∧ x1 ≤ x3))) (h5 : ¬ x4 = 0) (h6 : x0 = x1) (h7 : x5 = 2) (h8 : ((x6 = -1 ∧ x1 < x5) ∨ (x6 = 0 ∧ x1 = x5) ∨ (x6 = 1 ∧ x5 < x1))) (h9 : 0 ≤ x6) : x0 = x1 := by omega
theorem o34_164 {x0 x1 : Int} (h0 : (-1) ≤ x0) (h1 : x0 ≤ 24) (h2 : x1 = (-1)) (h3 : ¬ x0 = x1) : 0 ≤ x0 := by omega
theorem o34_165 {x0 x1 x2 x3 x4 x5 x6 x7 : Int} (h0 : 0 ≤ x1) (h1 : x1 ≤ 1) (h2 : (x1 = 0 ∨ (0 ≤ x0 ∧ x0 ≤ 4))) (h3 : ¬ x1 = 0) (h4 : x2 = 36) (h5 : x3 = x0) (h6 : x4 = x2 + x3) (h7 : x5 = 41) (h8 : x6 = x0) (h9 : x7 = x5 + x6) (h10 : -2147483648 ≤ x1) (h11 : x1 ≤ 2147483647) (h12 : -2147483648 ≤ x2) (h13 : x2 ≤ 2147483647) (h14 : -2147483648 ≤ x3) (h15 : x3 ≤ 2147483647) (h16 : -2147483648 ≤ x4) (h17 : x4 ≤ 2147483647) (h18 : -2147483648 ≤ x5) (h19 : x5 ≤ 2147483647) (h20 : -2147483648 ≤ x6) (h21 : x6 ≤ 2147483647) (h22 : -2147483648 ≤ x7) (h23 : x7 ≤ 2147483647) : -2147483648 ≤ x0 := by omega
theorem o34_166 {x0 x1 x2 x3 x4 x5 x6 x7 : Int} (h0 : 0 ≤ x1) (h1 : x1 ≤ 1) (h2 : (x1 = 0 ∨ (0 ≤ x0 ∧ x0 ≤ 4))) (h3 : ¬ x1 = 0) (h4 : x2 = 36) (h5 : x3 = x0) (h6 : x4 = x2 + x3) (h7 : x5 = 41) (h8 : x6 = x0) (h9 : x7 = x5 + x6) (h10 : -2147483648 ≤ x1) (h11 : x1 ≤ 2147483647) (h12 : -2147483648 ≤ x2) (h13 : x2 ≤ 2147483647) (h14 : -2147483648 ≤ x3) (h15 : x3 ≤ 2147483647) (h16 : -2147483648 ≤ x4) (h17 : x4 ≤ 2147483647) (h18 : -2147483648 ≤ x5) (h19 : x5 ≤ 2147483647) (h20 : -2147483648 ≤ x6) (h21 : x6 ≤ 2147483647) (h22 : -2147483648 ≤ x7) (h23 : x7 ≤ 2147483647) : x0 ≤ 2147483647 := by omega
theorem o34_167 {x0 x1 x2 x3 x4 x5 x6 x7 x8 x9 : Int} (h0 : 0 ≤ x2) (h1 : x2 ≤ 1) (h2 : (x2 = 0 ∨ (0 ≤ x3 ∧ x3 ≤ 4))) (h3 : ¬ x2 = 0) (h4 : x4 = 36) (h5 : x5 = x3) (h6 : x6 = x4 + x5) (h7 : x7 = 41) (h8 : x8 = x3) (h9 : x9 = x7 + x8) (h10 : x0 = 46) (h11 : x1 = x3) (h12 : -2147483648 ≤ x0) (h13 : x0 ≤ 2147483647) (h14 : -2147483648 ≤ x1) (h15 : x1 ≤ 2147483647) (h16 : -2147483648 ≤ x2) (h17 : x2 ≤ 2147483647) (h18 : -2147483648 ≤ x4) (h19 : x4 ≤ 2147483647) (h20 : -2147483648 ≤ x5) (h21 : x5 ≤ 2147483647) (h22 : -2147483648 ≤ x6) (h23 : x6 ≤ 2147483647) (h24 : -2147483648 ≤ x7) (h25 : x7 ≤ 2147483647) (h26 : -2147483648 ≤ x8) (h27 : x8 ≤ 2147483647) (h28 : -2147483648 ≤ x9) (h29 : x9 ≤ 2147483647) : -2147483648 ≤ x0 + x1 := by omega
theorem o34_168 {x0 x1 x2 x3 x4 x5 x6 x7 x8 x9 : Int} (h0 : 0 ≤ x2) (h1 : x2 ≤ 1) (h2 : (x2 = 0 ∨ (0 ≤ x3 ∧ x3 ≤ 4))) (h3 : ¬ x2 = 0) (h4 : x4 = 36) (h5 : x5 = x3) (h6 : x6 = x4 + x5) (h7 : x7 = 41) (h8 : x8 = x3) (h9 : x9 = x7 + x8) (h10 : x0 = 46) (h11 : x1 = x3) (h12 : -2147483648 ≤ x0) (h13 : x0 ≤ 2147483647) (h14 : -2147483648 ≤ x1) (h15 : x1 ≤ 2147483647) (h16 : -2147483648 ≤ x2) (h17 : x2 ≤ 2147483647) (h18 : -2147483648 ≤ x4) (h19 : x4 ≤ 2147483647) (h20 : -2147483648 ≤ x5) (h21 : x5 ≤ 2147483647) (h22 : -2147483648 ≤ x6) (h23 : x6 ≤ 2147483647) (h24 : -2147483648 ≤ x7) (h25 : x7 ≤ 2147483647) (h26 : -2147483648 ≤ x8) (h27 : x8 ≤ 2147483647) (h28 : -2147483648 ≤ x9) (h29 : x9 ≤ 2147483647) : x0 + x1 ≤ 2147483647 := by omega
theorem o34_169 {x0 x1 x2 x3 x4 x5 x6 x7 x8 x9 x10 : Int} (h0 : 0 ≤ x1) (h1 : x1 ≤ 1) (h2 : (x1 = 0 ∨ (0 ≤ x2 ∧ x2 ≤ 4))) (h3 : ¬ x1 = 0) (h4 : x3 = 36) (h5 : x4 = x2) (h6 : x5 = x3 + x4) (h7 : x6 = 41) (h8 : x7 = x2) (h9 : x8 = x6 + x7) (h10 : x9 = 46) (h11 : x10 = x2) (h12 : x0 = x9 + x10) : 0 ≤ x0 := by omega
theorem o34_170 {x0 x1 x2 x3 x4 x5 x6 x7 x8 x9 x10 : Int} (h0 : 0 ≤ x1) (h1 : x1 ≤ 1) (h2 : (x1 = 0 ∨ (0 ≤ x2 ∧ x2 ≤ 4))) (h3 : ¬ x1 = 0) (h4 : x3 = 36) (h5 : x4 = x2) (h6 : x5 = x3 + x4) (h7 : x6 = 41) (h8 : x7 = x2) (h9 : x8 = x6 + x7) (h10 : x9 = 46) (h11 : x10 = x2) (h12 : x0 = x9 + x10) : x0 < (5322 : Nat) := by omega
theorem o34_171 {x0 x1 x2 x3 x4 x5 x6 x7 x8 x9 x10 : Int} (h0 : 0 ≤ x1) (h1 : x1 ≤ 1) (h2 : (x1 = 0 ∨ (0 ≤ x2 ∧ x2 ≤ 4))) (h3 : ¬ x1 = 0) (h4 : x3 = 36) (h5 : x4 = x2) (h6 : x5 = x3 + x4) (h7 : x6 = 41) (h8 : x7 = x2) (h9 : x8 = x6 + x7) (h10 : x9 = 46) (h11 : x10 = x2) (h12 : x0 = x9 + x10) : (x0).toNat < 51 := by omega
theorem o34_172 {x0 x1 x2 x3 x4 x5 x6 x7 x8 x9 x10 : Int} (h0 : 0 ≤ x1) (h1 : x1 ≤ 1) (h2 : (x1 = 0 ∨ (0 ≤ x2 ∧ x2 ≤ 4))) (h3 : ¬ x1 = 0) (h4 : x3 = 36) (h5 : x4 = x2) (h6 : x5 = x3 + x4) (h7 : x6 = 41) (h8 : x7 = x2) (h9 : x8 = x6 + x7) (h10 : x9 = 46) (h11 : x10 = x2) (h12 : x0 = x9 + x10) : 46 ≤ (x0).toNat := by omega
theorem o34_173 {x0 x1 x2 x3 x4 x5 x6 : Int} (h0 : x1 = 0) (h1 : x2 = 3) (h2 : 0 ≤ x3) (h3 : x3 ≤ 1) (h4 : ((x3 = 0 ∧ (x0 < x1 ∨ x2 < x0)) ∨ (x3 = 1 ∧ x1 ≤ x0 ∧ x0 ≤ x2))) (h5 : ¬ x3 = 0) (h6 : x4 = x0) (h7 : x5 = 2) (h8 : ((x6 = -1 ∧ x0 < x5) ∨ (x6 = 0 ∧ x0 = x5) ∨ (x6 = 1 ∧ x5 < x0))) (h9 : 0 ≤ x6) (h10 : -2147483648 ≤ x3) (h11 : x3 ≤ 2147483647) (h12 : -2147483648 ≤ x4) (h13 : x4 ≤ 2147483647) (h14 : -2147483648 ≤ x6) (h15 : x6 ≤ 2147483647) : -2147483648 ≤ x0 := by omega
theorem o34_174 {x0 x1 x2 x3 x4 x5 x6 : Int} (h0 : x1 = 0) (h1 : x2 = 3) (h2 : 0 ≤ x3) (h3 : x3 ≤ 1) (h4 : ((x3 = 0 ∧ (x0 < x1 ∨ x2 < x0)) ∨ (x3 = 1 ∧ x1 ≤ x0 ∧ x0 ≤ x2))) (h5 : ¬ x3 = 0) (h6 : x4 = x0) (h7 : x5 = 2) (h8 : ((x6 = -1 ∧ x0 < x5) ∨ (x6 = 0 ∧ x0 = x5) ∨ (x6 = 1 ∧ x5 < x0))) (h9 : 0 ≤ x6) (h10 : -2147483648 ≤ x3) (h11 : x3 ≤ 2147483647) (h12 : -2147483648 ≤ x4) (h13 : x4 ≤ 2147483647) (h14 : -2147483648 ≤ x6) (h15 : x6 ≤ 2147483647) : x0 ≤ 2147483647 := by omega
theorem o34_175 {x0 x1 x2 x3 x4 x5 x6 x7 : Int} (h0 : x1 = 0) (h1 : x2 = 3) (h2 : 0 ≤ x3) (h3 : x3 ≤ 1) (h4 : ((x3 = 0 ∧ (x4 < x1 ∨ x2 < x4)) ∨ (x3 = 1 ∧ x1 ≤ x4 ∧ x4 ≤ x2))) (h5 : ¬ x3 = 0) (h6 : x5 = x4) (h7 : x6 = 2) (h8 : ((x7 = -1 ∧ x4 < x6) ∨ (x7 = 0 ∧ x4 = x6) ∨ (x7 = 1 ∧ x6 < x4))) (h9 : 0 ≤ x7) (h10 : x0 = x4) : 0 ≤ x0 := by omega
theorem o34_176 {x0 x1 x2 x3 x4 x5 x6 x7 : Int} (h0 : x1 = 0) (h1 : x2 = 3) (h2 : 0 ≤ x3) (h3 : x3 ≤ 1) (h4 : ((x3 = 0 ∧ (x4 < x1 ∨ x2 < x4)) ∨ (x3 = 1 ∧ x1 ≤ x4 ∧ x4 ≤ x2))) (h5 : ¬ x3 = 0) (h6 : x5 = x4) (h7 : x6 = 2) (h8 : ((x7 = -1 ∧ x4 < x6) ∨ (x7 = 0 ∧ x4 = x6) ∨ (x7 = 1 ∧ x6 < x4))) (h9 : 0 ≤ x7) (h10 : x0 = x4) : x0 ≤ 3 := by omega
theorem o34_177 {x0 x1 x2 x3 x4 x5 x6 x7 x8 x9 x10 x11 x12 x13 x14 x15 x16 x17 x18 x19 x20 x21 : Int} (h0 : 0 ≤ x3) (h1 : x3 ≤ 1) (h2 : (x3 = 0 ∨ (0 ≤ x1 ∧ x1 ≤ 4))) (h3 : ¬ x3 = 0) (h4 : x4 = 0) (h5 : x5 = 3) (h6 : 0 ≤ x6) (h7 : x6 ≤ 1) (h8 : ((x6 = 0 ∧ (x2 < x4 ∨ x5 < x2)) ∨ (x6 = 1 ∧ x4 ≤ x2 ∧ x2 ≤ x5))) (h9 : ¬ x6 = 0) (h10 : x7 = 36) (h11 : x8 = x1) (h12 : x9 = x7 + x8) (h13 : x10 = 41) (h14 : x11 = x1) (h15 : x12 = x10 + x11) (h16 : x13 = x2) (h17 : x14 = 2) (h18 : ((x15 = -1 ∧ x2 < x14) ∨ (x15 = 0 ∧ x2 = x14) ∨ (x15 = 1 ∧ x14 < x2))) (h19 : 0 ≤ x15) (h20 : x16 = 46) (h21 : x17 = x1) (h22 : x18 = x16 + x17) (h23 : 0 ≤ x19) (h24 : x19 ≤ 99) (h25 : x20 = x2) (h26 : 0 ≤ x21) (h27 : x21 ≤ 2) (h28 : ((x20 < 2 ∧ x21 = 0) ∨ (2 ≤ x20 ∧ x21 = x20 - 1))) (h29 : x21 ≤ x19) (h30 : x0 = 0) : (x0 = 0 → 0 ≤ x1) ∧ (x0 = 0 → x1 ≤ 4) ∧ (x0 = 0 → 0 ≤ x2) ∧ (x0 = 0 → x2 ≤ 3) := by omega
theorem o34_178 {x0 x1 x2 x3 x4 x5 x6 x7 x8 x9 x10 : Int} (h0 : 0 ≤ x2) (h1 : x2 ≤ 1) (h2 : (x2 = 0 ∨ (0 ≤ x1 ∧ x1 ≤ 4))) (h3 : ¬ x2 = 0) (h4 : x3 = 36) (h5 : x4 = x1) (h6 : x5 = x3 + x4) (h7 : x6 = 41) (h8 : x7 = x1) (h9 : x8 = x6 + x7) (h10 : x9 = 46) (h11 : x10 = x1) (h12 : x0 = x9 + x10) : (x0).toNat = 46 + (x1).toNat := by omega
theorem o34_179 {x0 x1 x2 x3 x4 x5 x6 x7 x8 x9 x10 : Int} (h0 : 0 ≤ x2) (h1 : x2 ≤ 1) (h2 : (x2 = 0 ∨ (0 ≤ x1 ∧ x1 ≤ 4))) (h3 : ¬ x2 = 0) (h4 : x3 = 36) (h5 : x4 = x1) (h6 : x0 = x3 + x4) (h7 : x5 = 41) (h8 : x6 = x1) (h9 : x7 = x5 + x6) (h10 : x8 = 46) (h11 : x9 = x1) (h12 : x10 = x8 + x9) : (x0).toNat = 36 + (x1).toNat := by omega
theorem o34_180 {x0 x1 x2 x3 x4 x5 x6 x7 x8 x9 x10 : Int} (h0 : 0 ≤ x2) (h1 : x2 ≤ 1) (h2 : (x2 = 0 ∨ (0 ≤ x1 ∧ x1 ≤ 4))) (h3 : ¬ x2 = 0) (h4 : x3 = 36) (h5 : x4 = x1) (h6 : x5 = x3 + x4) (h7 : x6 = 41) (h8 : x7 = x1) (h9 : x0 = x6 + x7) (h10 : x8 = 46) (h11 : x9 = x1) (h12 : x10 = x8 + x9) : (x0).toNat = 41 + (x1).toNat := by omega
theorem o34_181 {x0 x1 x2 x3 x4 x5 x6 x7 x8 x9 : Int} (h0 : x2 = 0) (h1 : x3 = 3) (h2 : 0 ≤ x4) (h3 : x4 ≤ 1) (h4 : ((x4 = 0 ∧ (x1 < x2 ∨ x3 < x1)) ∨ (x4 = 1 ∧ x2 ≤ x1 ∧ x1 ≤ x3))) (h5 : ¬ x4 = 0) (h6 : x0 = x1) (h7 : x5 = 2) (h8 : ((x6 = -1 ∧ x1 < x5) ∨ (x6 = 0 ∧ x1 = x5) ∨ (x6 = 1 ∧ x5 < x1))) (h9 : 0 ≤ x6) (h10 : 0 ≤ x7) (h11 : x7 ≤ 99) (h12 : x8 = x1) (h13 : 0 ≤ x9) (h14 : x9 ≤ 2) (h15 : ((x8 < 2 ∧ x9 = 0) ∨ (2 ≤ x8 ∧ x9 = x8 - 1))) (h16 : x9 ≤ x7) : x0 = x1 := by omega
theorem o34_182 {x0 x1 x2 x3 x4 x5 x6 x7 x8 x9 x10 : Int} (h0 : 0 ≤ x0) (h1 : x0 ≤ 1) (h2 : (x0 = 0 ∨ (0 ≤ x1 ∧ x1 ≤ 4))) (h3 : ¬ x0 = 0) (h4 : x2 = 36) (h5 : x3 = x1) (h6 : x4 = x2 + x3) (h7 : x5 = 41) (h8 : x6 = x1) (h9 : x7 = x5 + x6) (h10 : x8 = 46) (h11 : x9 = x1) (h12 : x10 = x8 + x9) : ¬ x0 = 0 := by omega
theorem o34_183 {x0 : Int} (h0 : x0 = 4) : 0 ≤ x0 := by omega
theorem o34_184 {x0 : Int} (h0 : x0 = 4) : x0 ≤ 4 := by omega
theorem o34_185 {x0 x1 x2 x3 x4 x5 x6 x7 x8 x9 x10 x11 x12 x13 x14 x15 x16 x17 x18 x19 x20 x21 : Int} (h0 : 0 ≤ x3) (h1 : x3 ≤ 1) (h2 : (x3 = 0 ∨ (0 ≤ x1 ∧ x1 ≤ 4))) (h3 : ¬ x3 = 0) (h4 : x4 = 0) (h5 : x5 = 3) (h6 : 0 ≤ x6) (h7 : x6 ≤ 1) (h8 : ((x6 = 0 ∧ (x2 < x4 ∨ x5 < x2)) ∨ (x6 = 1 ∧ x4 ≤ x2 ∧ x2 ≤ x5))) (h9 : ¬ x6 = 0) (h10 : x7 = 36) (h11 : x8 = x1) (h12 : x9 = x7 + x8) (h13 : x10 = 41) (h14 : x11 = x1) (h15 : x12 = x10 + x11) (h16 : x13 = x2) (h17 : x14 = 2) (h18 : ((x15 = -1 ∧ x2 < x14) ∨ (x15 = 0 ∧ x2 = x14) ∨ (x15 = 1 ∧ x14 < x2))) (h19 : 0 ≤ x15) (h20 : x16 = 46) (h21 : x17 = x1) (h22 : x18 = x16 + x17) (h23 : 0 ≤ x19) (h24 : x19 ≤ 99) (h25 : x20 = x2) (h26 : 0 ≤ x21) (h27 : x21 ≤ 2) (h28 : ((x20 < 2 ∧ x21 = 0) ∨ (2 ≤ x20 ∧ x21 = x20 - 1))) (h29 : x19 < x21) (h30 : x0 = 4) : (x0 = 0 → 0 ≤ x1) ∧ (x0 = 0 → x1 ≤ 4) ∧ (x0 = 0 → 0 ≤ x2) ∧ (x0 = 0 → x2 ≤ 3) := by omega
theorem o34_186 {x0 : Int} (h0 : x0 = 4) (h1 : x0 = 0) : False := by omega
theorem o34_187 {x0 : Int} (h0 : x0 = 3) : 0 ≤ x0 := by omega
theorem o34_188 {x0 : Int} (h0 : x0 = 3) : x0 ≤ 4 := by omega
theorem o34_189 {x0 x1 x2 x3 x4 x5 x6 x7 x8 x9 x10 x11 x12 x13 x14 x15 : Int} (h0 : 0 ≤ x3) (h1 : x3 ≤ 1) (h2 : (x3 = 0 ∨ (0 ≤ x1 ∧ x1 ≤ 4))) (h3 : ¬ x3 = 0) (h4 : x4 = 0) (h5 : x5 = 3) (h6 : 0 ≤ x6) (h7 : x6 ≤ 1) (h8 : ((x6 = 0 ∧ (x2 < x4 ∨ x5 < x2)) ∨ (x6 = 1 ∧ x4 ≤ x2 ∧ x2 ≤ x5))) (h9 : ¬ x6 = 0) (h10 : x7 = 36) (h11 : x8 = x1) (h12 : x9 = x7 + x8) (h13 : x10 = 41) (h14 : x11 = x1) (h15 : x12 = x10 + x11) (h16 : x13 = x2) (h17 : x14 = 2) (h18 : ((x15 = -1 ∧ x2 < x14) ∨ (x15 = 0 ∧ x2 = x14) ∨ (x15 = 1 ∧ x14 < x2))) (h19 : 0 ≤ x15) (h20 : x0 = 3) : (x0 = 0 → 0 ≤ x1) ∧ (x0 = 0 → x1 ≤ 4) ∧ (x0 = 0 → 0 ≤ x2) ∧ (x0 = 0 → x2 ≤ 3) := by omega
theorem o34_190 {x0 : Int} (h0 : x0 = 3) (h1 : x0 = 0) : False := by omega
theorem o34_191 {x0 x1 x2 x3 x4 x5 x6 x7 x8 x9 x10 x11 x12 x13 x14 x15 : Int} (h0 : 0 ≤ x3) (h1 : x3 ≤ 1) (h2 : (x3 = 0 ∨ (0 ≤ x1 ∧ x1 ≤ 4))) (h3 : ¬ x3 = 0) (h4 : x4 = 0) (h5 : x5 = 3) (h6 : 0 ≤ x6) (h7 : x6 ≤ 1) (h8 : ((x6 = 0 ∧ (x2 < x4 ∨ x5 < x2)) ∨ (x6 = 1 ∧ x4 ≤ x2 ∧ x2 ≤ x5))) (h9 : ¬ x6 = 0) (h10 : x7 = 36) (h11 : x8 = x1) (h12 : x9 = x7 + x8) (h13 : x10 = 41) (h14 : x11 = x1) (h15 : x12 = x10 + x11) (h16 : x13 = x2) (h17 : x14 = 2) (h18 : ((x15 = -1 ∧ x2 < x14) ∨ (x15 = 0 ∧ x2 = x14) ∨ (x15 = 1 ∧ x14 < x2))) (h19 : x15 < 0) (h20 : x0 = 0) : (x0 = 0 → 0 ≤ x1) ∧ (x0 = 0 → x1 ≤ 4) ∧ (x0 = 0 → 0 ≤ x2) ∧ (x0 = 0 → x2 ≤ 3) := by omega
theorem o34_192 {x0 x1 x2 x3 x4 x5 x6 : Int} (h0 : x2 = 0) (h1 : x3 = 3) (h2 : 0 ≤ x4) (h3 : x4 ≤ 1) (h4 : ((x4 = 0 ∧ (x1 < x2 ∨ x3 < x1)) ∨ (x4 = 1 ∧ x2 ≤ x1 ∧ x1 ≤ x3))) (h5 : ¬ x4 = 0) (h6 : x0 = x1) (h7 : x5 = 2) (h8 : ((x6 = -1 ∧ x1 < x5) ∨ (x6 = 0 ∧ x1 = x5) ∨ (x6 = 1 ∧ x5 < x1))) (h9 : x6 < 0) : x0 = x1 := by omega
theorem o34_193 {x0 : Int} (h0 : x0 = 2) : 0 ≤ x0 := by omega
theorem o34_194 {x0 : Int} (h0 : x0 = 2) : x0 ≤ 4 := by omega
theorem o34_195 {x0 x1 x2 x3 x4 x5 x6 x7 x8 x9 x10 x11 x12 x13 : Int} (h0 : 0 ≤ x3) (h1 : x3 ≤ 1) (h2 : (x3 = 0 ∨ (0 ≤ x1 ∧ x1 ≤ 4))) (h3 : ¬ x3 = 0) (h4 : x4 = 0) (h5 : x5 = 3) (h6 : 0 ≤ x6) (h7 : x6 ≤ 1) (h8 : ((x6 = 0 ∧ (x2 < x4 ∨ x5 < x2)) ∨ (x6 = 1 ∧ x4 ≤ x2 ∧ x2 ≤ x5))) (h9 : ¬ x6 = 0) (h10 : x7 = 36) (h11 : x8 = x1) (h12 : x9 = x7 + x8) (h13 : x10 = 41) (h14 : x11 = x1) (h15 : x12 = x10 + x11) (h16 : x13 = x2) (h17 : x0 = 2) : (x0 = 0 → 0 ≤ x1) ∧ (x0 = 0 → x1 ≤ 4) ∧ (x0 = 0 → 0 ≤ x2) ∧ (x0 = 0 → x2 ≤ 3) := by omega
theorem o34_196 {x0 : Int} (h0 : x0 = 2) (h1 : x0 = 0) : False := by omega
theorem o34_197 {x0 x1 x2 x3 x4 x5 x6 : Int} (h0 : 0 ≤ x3) (h1 : x3 ≤ 1) (h2 : (x3 = 0 ∨ (0 ≤ x1 ∧ x1 ≤ 4))) (h3 : ¬ x3 = 0) (h4 : x4 = 0) (h5 : x5 = 3) (h6 : 0 ≤ x6) (h7 : x6 ≤ 1) (h8 : ((x6 = 0 ∧ (x2 < x4 ∨ x5 < x2)) ∨ (x6 = 1 ∧ x4 ≤ x2 ∧ x2 ≤ x5))) (h9 : x6 = 0) (h10 : x0 = 1) : (x0 = 0 → 0 ≤ x1) ∧ (x0 = 0 → x1 ≤ 4) ∧ (x0 = 0 → 0 ≤ x2) ∧ (x0 = 0 → x2 ≤ 3) := by omega
theorem o34_198 {x0 x1 : Int} (h0 : 0 ≤ x1) (h1 : x1 ≤ 4) (h2 : x0 = 36) (h3 : -2147483648 ≤ x0) (h4 : x0 ≤ 2147483647) (h5 : -2147483648 ≤ x1) (h6 : x1 ≤ 2147483647) : -2147483648 ≤ x0 + x1 := by omega
theorem o34_199 {x0 x1 : Int} (h0 : 0 ≤ x1) (h1 : x1 ≤ 4) (h2 : x0 = 36) (h3 : -2147483648 ≤ x0) (h4 : x0 ≤ 2147483647) (h5 : -2147483648 ≤ x1) (h6 : x1 ≤ 2147483647) : x0 + x1 ≤ 2147483647 := by omega
theorem o34_200 {x0 x1 x2 : Int} (h0 : 0 ≤ x1) (h1 : x1 ≤ 4) (h2 : x2 = 36) (h3 : x0 = x2 + x1) : 0 ≤ x0 := by omega
theorem o34_201 {x0 x1 x2 : Int} (h0 : 0 ≤ x1) (h1 : x1 ≤ 4) (h2 : x2 = 36) (h3 : x0 = x2 + x1) : x0 < (5322 : Nat) := by omega
theorem o34_202 {x0 x1 x2 : Int} (h0 : 0 ≤ x1) (h1 : x1 ≤ 4) (h2 : x2 = 36) (h3 : x0 = x2 + x1) : (x0).toNat < 41 := by omega
theorem o34_203 {x0 x1 x2 : Int} (h0 : 0 ≤ x1) (h1 : x1 ≤ 4) (h2 : x2 = 36) (h3 : x0 = x2 + x1) : 36 ≤ (x0).toNat := by omega
theorem o34_204 {x0 x1 x2 x3 : Int} (h0 : 0 ≤ x1) (h1 : x1 ≤ 4) (h2 : x2 = 36) (h3 : x3 = x2 + x1) (h4 : x0 = 41) (h5 : -2147483648 ≤ x0) (h6 : x0 ≤ 2147483647) (h7 : -2147483648 ≤ x1) (h8 : x1 ≤ 2147483647) (h9 : -2147483648 ≤ x2) (h10 : x2 ≤ 2147483647) (h11 : -2147483648 ≤ x3) (h12 : x3 ≤ 2147483647) : -2147483648 ≤ x0 + x1 := by omega
theorem o34_205 {x0 x1 x2 x3 : Int} (h0 : 0 ≤ x1) (h1 : x1 ≤ 4) (h2 : x2 = 36) (h3 : x3 = x2 + x1) (h4 : x0 = 41) (h5 : -2147483648 ≤ x0) (h6 : x0 ≤ 2147483647) (h7 : -2147483648 ≤ x1) (h8 : x1 ≤ 2147483647) (h9 : -2147483648 ≤ x2) (h10 : x2 ≤ 2147483647) (h11 : -2147483648 ≤ x3) (h12 : x3 ≤ 2147483647) : x0 + x1 ≤ 2147483647 := by omega
theorem o34_206 {x0 x1 x2 x3 x4 x5 : Int} (h0 : 0 ≤ x1) (h1 : x1 ≤ 4) (h2 : x2 = 36) (h3 : x3 = x2 + x1) (h4 : x4 = 41) (h5 : x5 = x4 + x1) (h6 : x0 = 41) (h7 : -2147483648 ≤ x0) (h8 : x0 ≤ 2147483647) (h9 : -2147483648 ≤ x1) (h10 : x1 ≤ 2147483647) (h11 : -2147483648 ≤ x2) (h12 : x2 ≤ 2147483647) (h13 : -2147483648 ≤ x3) (h14 : x3 ≤ 2147483647) (h15 : -2147483648 ≤ x4) (h16 : x4 ≤ 2147483647) (h17 : -2147483648 ≤ x5) (h18 : x5 ≤ 2147483647) : -2147483648 ≤ x0 + x1 := by omega
theorem o34_207 {x0 x1 x2 x3 x4 x5 : Int} (h0 : 0 ≤ x1) (h1 : x1 ≤ 4) (h2 : x2 = 36) (h3 : x3 = x2 + x1) (h4 : x4 = 41) (h5 : x5 = x4 + x1) (h6 : x0 = 41) (h7 : -2147483648 ≤ x0) (h8 : x0 ≤ 2147483647) (h9 : -2147483648 ≤ x1) (h10 : x1 ≤ 2147483647) (h11 : -2147483648 ≤ x2) (h12 : x2 ≤ 2147483647) (h13 : -2147483648 ≤ x3) (h14 : x3 ≤ 2147483647) (h15 : -2147483648 ≤ x4) (h16 : x4 ≤ 2147483647) (h17 : -2147483648 ≤ x5) (h18 : x5 ≤ 2147483647) : x0 + x1 ≤ 2147483647 := by omega
theorem o34_208 {x0 x1 x2 x3 x4 x5 x6 : Int} (h0 : 0 ≤ x1) (h1 : x1 ≤ 4) (h2 : x2 = 36) (h3 : x3 = x2 + x1) (h4 : x4 = 41) (h5 : x5 = x4 + x1) (h6 : x6 = 41) (h7 : x0 = x6 + x1) : 0 ≤ x0 := by omega
theorem o34_209 {x0 x1 x2 x3 x4 x5 x6 : Int} (h0 : 0 ≤ x1) (h1 : x1 ≤ 4) (h2 : x2 = 36) (h3 : x3 = x2 + x1) (h4 : x4 = 41) (h5 : x5 = x4 + x1) (h6 : x6 = 41) (h7 : x0 = x6 + x1) : x0 < (5322 : Nat) := by omega
theorem o34_210 {x0 x1 x2 x3 x4 x5 x6 : Int} (h0 : 0 ≤ x1) (h1 : x1 ≤ 4) (h2 : x2 = 36) (h3 : x3 = x2 + x1) (h4 : x4 = 41) (h5 : x5 = x4 + x1) (h6 : x6 = 41) (h7 : x0 = x6 + x1) : (x0).toNat < 46 := by omega
theorem o34_211 {x0 x1 x2 x3 x4 x5 x6 : Int} (h0 : 0 ≤ x1) (h1 : x1 ≤ 4) (h2 : x2 = 36) (h3 : x3 = x2 + x1) (h4 : x4 = 41) (h5 : x5 = x4 + x1) (h6 : x6 = 41) (h7 : x0 = x6 + x1) : 41 ≤ (x0).toNat := by omega
theorem o34_212 {x0 x1 : Int} (h0 : 0 ≤ x0) (h1 : x0 ≤ 3) (h2 : 0 ≤ x1) (h3 : x1 ≤ 2) (h4 : ((x0 < 2 ∧ x1 = 0) ∨ (2 ≤ x0 ∧ x1 = x0 - 1))) : 0 ≤ x0 := by omega
theorem o34_213 {x0 x1 : Int} (h0 : 0 ≤ x0) (h1 : x0 ≤ 3) (h2 : 0 ≤ x1) (h3 : x1 ≤ 2) (h4 : ((x0 < 2 ∧ x1 = 0) ∨ (2 ≤ x0 ∧ x1 = x0 - 1))) : x0 ≤ 3 := by omega
theorem o34_214 {x0 x1 x2 x3 x4 x5 x6 : Int} (h0 : 0 ≤ x1) (h1 : x1 ≤ 4) (h2 : x2 = 36) (h3 : x3 = x2 + x1) (h4 : x4 = 41) (h5 : x0 = x4 + x1) (h6 : x5 = 41) (h7 : x6 = x5 + x1) : 0 ≤ x0 := by omega
theorem o34_215 {x0 x1 x2 x3 x4 x5 x6 : Int} (h0 : 0 ≤ x1) (h1 : x1 ≤ 4) (h2 : x2 = 36) (h3 : x3 = x2 + x1) (h4 : x4 = 41) (h5 : x0 = x4 + x1) (h6 : x5 = 41) (h7 : x6 = x5 + x1) : x0 < (5322 : Nat) := by omega
theorem o34_216 : ∀ p, p < 46 → 41 ≤ p → (elAll p).1 ≤ 0 ∧ 3 ≤ (elAll p).2 := by decide +kernel
theorem o34_217 {x0 x1 x2 x3 x4 x5 x6 : Int} (h0 : 0 ≤ x1) (h1 : x1 ≤ 4) (h2 : x2 = 36) (h3 : x3 = x2 + x1) (h4 : x4 = 41) (h5 : x0 = x4 + x1) (h6 : x5 = 41) (h7 : x6 = x5 + x1) : (x0).toNat < 46 := by omega
theorem o34_218 {x0 x1 x2 x3 x4 x5 x6 : Int} (h0 : 0 ≤ x1) (h1 : x1 ≤ 4) (h2 : x2 = 36) (h3 : x3 = x2 + x1) (h4 : x4 = 41) (h5 : x0 = x4 + x1) (h6 : x5 = 41) (h7 : x6 = x5 + x1) : 41 ≤ (x0).toNat := by omega
theorem o34_219 {x0 x1 x2 x3 x4 x5 x6 : Int} (h0 : 0 ≤ x1) (h1 : x1 ≤ 4) (h2 : x2 = 36) (h3 : x3 = x2 + x1) (h4 : x4 = 41) (h5 : x0 = x4 + x1) (h6 : x5 = 41) (h7 : x6 = x5 + x1) : (36 ≤ x0 ∨ x0 = 10) := by omega
theorem o34_220 {x0 x1 x2 x3 x4 x5 x6 : Int} (h0 : 0 ≤ x1) (h1 : x1 ≤ 4) (h2 : x2 = 36) (h3 : x3 = x2 + x1) (h4 : x4 = 41) (h5 : x0 = x4 + x1) (h6 : x5 = 41) (h7 : x6 = x5 + x1) : 10 ≤ x0 := by omega
theorem o34_221 {x0 x1 x2 x3 x4 x5 x6 : Int} (h0 : 0 ≤ x1) (h1 : x1 ≤ 4) (h2 : x2 = 36) (h3 : x3 = x2 + x1) (h4 : x4 = 41) (h5 : x0 = x4 + x1) (h6 : x5 = 41) (h7 : x6 = x5 + x1) : x0 ≤ 872 := by omega
theorem o34_222 {x0 x1 x2 x3 x4 x5 x6 x7 : Int} (h0 : 0 ≤ x1) (h1 : x1 ≤ 4) (h2 : x2 = 36) (h3 : x3 = x2 + x1) (h4 : x4 = 41) (h5 : x5 = x4 + x1) (h6 : x6 = 41) (h7 : x7 = x6 + x1) (h8 : x0 = 36) (h9 : -2147483648 ≤ x0) (h10 : x0 ≤ 2147483647) (h11 : -2147483648 ≤ x1) (h12 : x1 ≤ 2147483647) (h13 : -2147483648 ≤ x2) (h14 : x2 ≤ 2147483647) (h15 : -2147483648 ≤ x3) (h16 : x3 ≤ 2147483647) (h17 : -2147483648 ≤ x4) (h18 : x4 ≤ 2147483647) (h19 : -2147483648 ≤ x5) (h20 : x5 ≤ 2147483647) (h21 : -2147483648 ≤ x6) (h22 : x6 ≤ 2147483647) (h23 : -2147483648 ≤ x7) (h24 : x7 ≤ 2147483647) : -2147483648 ≤ x0 + x1 := by omega
theorem o34_223 {x0 x1 x2 x3 x4 x5 x6 x7 : Int} (h0 : 0 ≤ x1) (h1 : x1 ≤ 4) (h2 : x2 = 36) (h3 : x3 = x2 + x1) (h4 : x4 = 41) (h5 : x5 = x4 + x1) (h6 : x6 = 41) (h7 : x7 = x6 + x1) (h8 : x0 = 36) (h9 : -2147483648 ≤ x0) (h10 : x0 ≤ 2147483647) (h11 : -2147483648 ≤ x1) (h12 : x1 ≤ 2147483647) (h13 : -2147483648 ≤ x2) (h14 : x2 ≤ 2147483647) (h15 : -2147483648 ≤ x3) (h16 : x3 ≤ 2147483647) (h17 : -2147483648 ≤ x4) (h18 : x4 ≤ 2147483647) (h19 : -2147483648 ≤ x5) (h20 : x5 ≤ 2147483647) (h21 : -2147483648 ≤ x6) (h22 : x6 ≤ 2147483647) (h23 : -2147483648 ≤ x7) (h24 : x7 ≤ 2147483647) : x0 + x1 ≤ 2147483647 := by omega
theorem o34_224 {x0 x1 x2 x3 x4 x5 x6 x7 x8 x9 : Int} (h0 : 0 ≤ x1) (h1 : x1 ≤ 4) (h2 : x2 = 36) (h3 : x3 = x2 + x1) (h4 : x4 = 41) (h5 : x5 = x4 + x1) (h6 : x6 = 41) (h7 : x7 = x6 + x1) (h8 : x8 = 36) (h9 : x9 = x8 + x1) (h10 : x0 = 41) (h11 : -2147483648 ≤ x0) (h12 : x0 ≤ 2147483647) (h13 : -2147483648 ≤ x1) (h14 : x1 ≤ 2147483647) (h15 : -2147483648 ≤ x2) (h16 : x2 ≤ 2147483647) (h17 : -2147483648 ≤ x3) (h18 : x3 ≤ 2147483647) (h19 : -2147483648 ≤ x4) (h20 : x4 ≤ 2147483647) (h21 : -2147483648 ≤ x5) (h22 : x5 ≤ 2147483647) (h23 : -2147483648 ≤ x6) (h24 : x6 ≤ 2147483647) (h25 : -2147483648 ≤ x7) (h26 : x7 ≤ 2147483647) (h27 : -2147483648 ≤ x8) (h28 : x8 ≤ 2147483647) (h29 : -2147483648 ≤ x9) (h30 : x9 ≤ 2147483647) : -2147483648 ≤ x0 + x1 := by omega
theorem o34_225 {x0 x1 x2 x3 x4 x5 x6 x7 x8 x9 : Int} (h0 : 0 ≤ x1) (h1 : x1 ≤ 4) (h2 : x2 = 36) (h3 : x3 = x2 + x1) (h4 : x4 = 41) (h5 : x5 = x4 + x1) (h6 : x6 = 41) (h7 : x7 = x6 + x1) (h8 : x8 = 36) (h9 : x9 = x8 + x1) (h10 : x0 = 41) (h11 : -2147483648 ≤ x0) (h12 : x0 ≤ 2147483647) (h13 : -2147483648 ≤ x1) (h14 : x1 ≤ 2147483647) (h15 : -2147483648 ≤ x2) (h16 : x2 ≤ 2147483647) (h17 : -2147483648 ≤ x3) (h18 : x3 ≤ 2147483647) (h19 : -2147483648 ≤ x4) (h20 : x4 ≤ 2147483647) (h21 : -2147483648 ≤ x5) (h22 : x5 ≤ 2147483647) (h23 : -2147483648 ≤ x6) (h24 : x6 ≤ 2147483647) (h25 : -2147483648 ≤ x7) (h26 : x7 ≤ 2147483647) (h27 : -2147483648 ≤ x8) (h28 : x8 ≤ 2147483647) (h29 : -2147483648 ≤ x9) (h30 : x9 ≤ 2147483647) : x0 + x1 ≤ 2147483647 := by omega
theorem o34_226 {x0 x1 x2 x3 x4 x5 x6 x7 x8 x9 x10 : Int} (h0 : 0 ≤ x1) (h1 : x1 ≤ 4) (h2 : x2 = 36) (h3 : x3 = x2 + x1) (h4 : x4 = 41) (h5 : x5 = x4 + x1) (h6 : x6 = 41) (h7 : x7 = x6 + x1) (h8 : x8 = 36) (h9 : x9 = x8 + x1) (h10 : x10 = 41) (h11 : x0 = x10 + x1) : 0 ≤ x0 := by omega
theorem o34_227 {x0 x1 x2 x3 x4 x5 x6 x7 x8 x9 x10 : Int} (h0 : 0 ≤ x1) (h1 : x1 ≤ 4) (h2 : x2 = 36) (h3 : x3 = x2 + x1) (h4 : x4 = 41) (h5 : x5 = x4 + x1) (h6 : x6 = 41) (h7 : x7 = x6 + x1) (h8 : x8 = 36) (h9 : x9 = x8 + x1) (h10 : x10 = 41) (h11 : x0 = x10 + x1) : x0 < (5322 : Nat) := by omega
theorem o34_228 {x0 x1 x2 x3 x4 x5 x6 x7 x8 x9 x10 : Int} (h0 : 0 ≤ x1) (h1 : x1 ≤ 4) (h2 : x2 = 36) (h3 : x3 = x2 + x1) (h4 : x4 = 41) (h5 : x5 = x4 + x1) (h6 : x6 = 41) (h7 : x7 = x6 + x1) (h8 : x8 = 36) (h9 : x9 = x8 + x1) (h10 : x10 = 41) (h11 : x0 = x10 + x1) : (x0).toNat < 46 := by omega
theorem o34_229 {x0 x1 x2 x3 x4 x5 x6 x7 x8 x9 x10 : Int} (h0 : 0 ≤ x1) (h1 : x1 ≤ 4) (h2 : x2 = 36) (h3 : x3 = x2 + x1) (h4 : x4 = 41) (h5 : x5 = x4 + x1) (h6 : x6 = 41) (h7 : x7 = x6 + x1) (h8 : x8 = 36) (h9 : x9 = x8 + x1) (h10 : x10 = 41) (h11 : x0 = x10 + x1) : 41 ≤ (x0).toNat := by omega
theorem o34_230 {x0 x1 x2 x3 x4 x5 x6 x7 x8 x9 x10 : Int} (h0 : 0 ≤ x2) (h1 : x2 ≤ 4) (h2 : x3 = 36) (h3 : x4 = x3 + x2) (h4 : x5 = 41) (h5 : x1 = x5 + x2) (h6 : x6 = 41) (h7 : x7 = x6 + x2) (h8 : x8 = 36) (h9 : x9 = x8 + x2) (h10 : x10 = 41) (h11 : x0 = x10 + x2) : (x0).toNat = (x1).toNat := by omega
theorem o34_231 {x0 x1 : Int} (h0 : 0 ≤ x1) (h1 : x1 ≤ 3) (h2 : 0 ≤ x0) (h3 : x0 ≤ 3) (h4 : x0 = x1) : 0 ≤ x0 := by omega
theorem o34_232 {x0 x1 : Int} (h0 : 0 ≤ x1) (h1 : x1 ≤ 3) (h2 : 0 ≤ x0) (h3 : x0 ≤ 3) (h4 : x0 = x1) : x0 ≤ 3 := by omega
theorem o34_233 {x0 x1 x2 x3 x4 x5 x6 x7 x8 x9 x10 : Int} (h0 : 0 ≤ x1) (h1 : x1 ≤ 4) (h2 : x2 = 36) (h3 : x0 = x2 + x1) (h4 : x3 = 41) (h5 : x4 = x3 + x1) (h6 : x5 = 41) (h7 : x6 = x5 + x1) (h8 : x7 = 36) (h9 : x8 = x7 + x1) (h10 : x9 = 41) (h11 : x10 = x9 + x1) : (x0).toNat = 36 + (x1).toNat := by omega
theorem o34_234 {x0 x1 x2 x3 x4 x5 x6 x7 x8 x9 x10 : Int} (h0 : 0 ≤ x1) (h1 : x1 ≤ 4) (h2 : x2 = 36) (h3 : x3 = x2 + x1) (h4 : x4 = 41) (h5 : x5 = x4 + x1) (h6 : x6 = 41) (h7 : x0 = x6 + x1) (h8 : x7 = 36) (h9 : x8 = x7 + x1) (h10 : x9 = 41) (h11 : x10 = x9 + x1) : (x0).toNat = 41 + (x1).toNat := by omega
theorem o34_235 {x0 x1 : Int} (h0 : 0 ≤ x0) (h1 : x0 ≤ 3) (h2 : 0 ≤ x1) (h3 : x1 ≤ 2) (h4 : ((x0 < 2 ∧ x1 = 0) ∨ (2 ≤ x0 ∧ x1 = x0 - 1))) : x0 = x0 := by omega
theorem o34_236 {x0 x1 : Int} (h0 : 0 ≤ x1) (h1 : x1 ≤ 3) (h2 : 0 ≤ x0) (h3 : x0 ≤ 3) (h4 : x0 = x1) : x0 = x1 := by omega
theorem o34_237 {x0 x1 x2 x3 x4 x5 x6 x7 x8 x9 x10 : Int} (h0 : 0 ≤ x1) (h1 : x1 ≤ 4) (h2 : x2 = 36) (h3 : x3 = x2 + x1) (h4 : x4 = 41) (h5 : x5 = x4 + x1) (h6 : x6 = 41) (h7 : x7 = x6 + x1) (h8 : x8 = 36) (h9 : x0 = x8 + x1) (h10 : x9 = 41) (h11 : x10 = x9 + x1) : 0 ≤ x0 := by omega
theorem o34_238 {x0 x1 x2 x3 x4 x5 x6 x7 x8 x9 x10 : Int} (h0 : 0 ≤ x1) (h1 : x1 ≤ 4) (h2 : x2 = 36) (h3 : x3 = x2 + x1) (h4 : x4 = 41) (h5 : x5 = x4 + x1) (h6 : x6 = 41) (h7 : x7 = x6 + x1) (h8 : x8 = 36) (h9 : x0 = x8 + x1) (h10 : x9 = 41) (h11 : x10 = x9 + x1) : x0 < (5322 : Nat) := by omega
theorem o34_239 : ∀ p, p < 41 → 36 ≤ p → (elAll p).1 ≤ 0 ∧ 24 ≤ (elAll p).2 := by decide +kernel
theorem o34_240 {x0 x1 x2 x3 x4 x5 x6 x7 x8 x9 x10 : Int} (h0 : 0 ≤ x1) (h1 : x1 ≤ 4) (h2 : x2 = 36) (h3 : x3 = x2 + x1) (h4 : x4 = 41) (h5 : x5 = x4 + x1) (h6 : x6 = 41) (h7 : x7 = x6 + x1) (h8 : x8 = 36) (h9 : x0 = x8 + x1) (h10 : x9 = 41) (h11 : x10 = x9 + x1) : (x0).toNat < 41 := by omega
theorem o34_241 {x0 x1 x2 x3 x4 x5 x6 x7 x8 x9 x10 : Int} (h0 : 0 ≤ x1) (h1 : x1 ≤ 4) (h2 : x2 = 36) (h3 : x3 = x2 + x1) (h4 : x4 = 41) (h5 : x5 = x4 + x1) (h6 : x6 = 41) (h7 : x7 = x6 + x1) (h8 : x8 = 36) (h9 : x0 = x8 + x1) (h10 : x9 = 41) (h11 : x10 = x9 + x1) : 36 ≤ (x0).toNat := by omega
theorem o34_242 {x0 : Int} (h0 : (-1) ≤ x0) (h1 : x0 ≤ 24) (h2 : 0 ≤ x0) : 0 ≤ x0 := by omega
theorem o34_243 {x0 : Int} (h0 : (-1) ≤ x0) (h1 : x0 ≤ 24) (h2 : 0 ≤ x0) : x0 ≤ 24 := by omega
theorem o34_244 {x0 x1 x2 x3 x4 x5 x6 x7 x8 x9 x10 : Int} (h0 : 0 ≤ x1) (h1 : x1 ≤ 4) (h2 : x2 = 36) (h3 : x3 = x2 + x1) (h4 : x4 = 41) (h5 : x5 = x4 + x1) (h6 : x6 = 41) (h7 : x7 = x6 + x1) (h8 : x8 = 36) (h9 : x0 = x8 + x1) (h10 : x9 = 41) (h11 : x10 = x9 + x1) : (36 ≤ x0 ∨ x0 = 10) := by omega
theorem o34_245 {x0 x1 x2 x3 x4 x5 x6 x7 x8 x9 x10 : Int} (h0 : 0 ≤ x1) (h1 : x1 ≤ 4) (h2 : x2 = 36) (h3 : x3 = x2 + x1) (h4 : x4 = 41) (h5 : x5 = x4 + x1) (h6 : x6 = 41) (h7 : x7 = x6 + x1) (h8 : x8 = 36) (h9 : x0 = x8 + x1) (h10 : x9 = 41) (h11 : x10 = x9 + x1) : 10 ≤ x0 := by omega
theorem o34_246 {x0 x1 x2 x3 x4 x5 x6 x7 x8 x9 x10 : Int} (h0 : 0 ≤ x1) (h1 : x1 ≤ 4) (h2 : x2 = 36) (h3 : x3 = x2 + x1) (h4 : x4 = 41) (h5 : x5 = x4 + x1) (h6 : x6 = 41) (h7 : x7 = x6 + x1) (h8 : x8 = 36) (h9 : x0 = x8 + x1) (h10 : x9 = 41) (h11 : x10 = x9 + x1) : x0 ≤ 872 := by omega
theorem o34_247 {x0 x1 x2 x3 x4 x5 x6 x7 x8 x9 x10 x11 : Int} (h0 : 0 ≤ x1) (h1 : x1 ≤ 4) (h2 : x2 = 36) (h3 : x3 = x2 + x1) (h4 : x4 = 41) (h5 : x5 = x4 + x1) (h6 : x6 = 41) (h7 : x7 = x6 + x1) (h8 : x8 = 36) (h9 : x9 = x8 + x1) (h10 : x10 = 41) (h11 : x11 = x10 + x1) (h12 : x0 = 46) (h13 : -2147483648 ≤ x0) (h14 : x0 ≤ 2147483647) (h15 : -2147483648 ≤ x1) (h16 : x1 ≤ 2147483647) (h17 : -2147483648 ≤ x2) (h18 : x2 ≤ 2147483647) (h19 : -2147483648 ≤ x3) (h20 : x3 ≤ 2147483647) (h21 : -2147483648 ≤ x4) (h22 : x4 ≤ 2147483647) (h23 : -2147483648 ≤ x5) (h24 : x5 ≤ 2147483647) (h25 : -2147483648 ≤ x6) (h26 : x6 ≤ 2147483647) (h27 : -2147483648 ≤ x7) (h28 : x7 ≤ 2147483647) (h29 : -2147483648 ≤ x8) (h30 : x8 ≤ 2147483647) (h31 : -2147483648 ≤ x9) (h32 : x9 ≤ 2147483647) (h33 : -2147483648 ≤ x10) (h34 : x10 ≤ 2147483647) (h35 : -2147483648 ≤ x11) (h36 : x11 ≤ 2147483647) : -2147483648 ≤ x0 + x1 := by omega
theorem o34_248 {x0 x1 x2 x3 x4 x5 x6 x7 x8 x9 x10 x11 : Int} (h0 : 0 ≤ x1) (h1 : x1 ≤ 4) (h2 : x2 = 36) (h3 : x3 = x2 + x1) (h4 : x4 = 41) (h5 : x5 = x4 + x1) (h6 : x6 = 41) (h7 : x7 = x6 + x1) (h8 : x8 = 36) (h9 : x9 = x8 + x1) (h10 : x10 = 41) (h11 : x11 = x10 + x1) (h12 : x0 = 46) (h13 : -2147483648 ≤ x0) (h14 : x0 ≤ 2147483647) (h15 : -2147483648 ≤ x1) (h16 : x1 ≤ 2147483647) (h17 : -2147483648 ≤ x2) (h18 : x2 ≤ 2147483647) (h19 : -2147483648 ≤ x3) (h20 : x3 ≤ 2147483647) (h21 : -2147483648 ≤ x4) (h22 : x4 ≤ 2147483647) (h23 : -2147483648 ≤ x5) (h24 : x5 ≤ 2147483647) (h25 : -2147483648 ≤ x6) (h26 : x6 ≤ 2147483647) (h27 : -2147483648 ≤ x7) (h28 : x7 ≤ 2147483647) (h29 : -2147483648 ≤ x8) (h30 : x8 ≤ 2147483647) (h31 : -2147483648 ≤ x9) (h32 : x9 ≤ 2147483647) (h33 : -2147483648 ≤ x10) (h34 : x10 ≤ 2147483647) (h35 : -2147483648 ≤ x11) (h36 : x11 ≤ 2147483647) : x0 + x1 ≤ 2147483647 := by omega
theorem o34_249 {x0 x1 x2 x3 x4 x5 x6 x7 x8 x9 x10 x11 x12 : Int} (h0 : 0 ≤ x1) (h1 : x1 ≤ 4) (h2 : x2 = 36) (h3 : x3 = x2 + x1) (h4 : x4 = 41) (h5 : x5 = x4 + x1) (h6 : x6 = 41) (h7 : x7 = x6 + x1) (h8 : x8 = 36) (h9 : x9 = x8 + x1) (h10 : x10 = 41) (h11 : x11 = x10 + x1) (h12 : x12 = 46) (h13 : x0 = x12 + x1) : 0 ≤ x0 := by omega
theorem o34_250 {x0 x1 x2 x3 x4 x5 x6 x7 x8 x9 x10 x11 x12 : Int} (h0 : 0 ≤ x1) (h1 : x1 ≤ 4) (h2 : x2 = 36) (h3 : x3 = x2 + x1) (h4 : x4 = 41) (h5 : x5 = x4 + x1) (h6 : x6 = 41) (h7 : x7 = x6 + x1) (h8 : x8 = 36) (h9 : x9 = x8 + x1) (h10 : x10 = 41) (h11 : x11 = x10 + x1) (h12 : x12 = 46) (h13 : x0 = x12 + x1) : x0 < (5322 : Nat) := by omega
theorem o34_251 {x0 x1 x2 x3 x4 x5 x6 x7 x8 x9 x10 x11 x12 : Int} (h0 : 0 ≤ x1) (h1 : x1 ≤ 4) (h2 : x2 = 36) (h3 : x3 = x2 + x1) (h4 : x4 = 41) (h5 : x5 = x4 + x1) (h6 : x6 = 41) (h7 : x7 = x6 + x1) (h8 : x8 = 36) (h9 : x9 = x8 + x1) (h10 : x10 = 41) (h11 : x11 = x10 + x1) (h12 : x12 = 46) (h13 : x0 = x12 + x1) : (x0).toNat < 51 := by omega
theorem o34_252 {x0 x1 x2 x3 x4 x5 x6 x7 x8 x9 x10 x11 x12 : Int} (h0 : 0 ≤ x1) (h1 : x1 ≤ 4) (h2 : x2 = 36) (h3 : x3 = x2 + x1) (h4 : x4 = 41) (h5 : x5 = x4 + x1) (h6 : x6 = 41) (h7 : x7 = x6 + x1) (h8 : x8 = 36) (h9 : x9 = x8 + x1) (h10 : x10 = 41) (h11 : x11 = x10 + x1) (h12 : x12 = 46) (h13 : x0 = x12 + x1) : 46 ≤ (x0).toNat := by omega
theorem o34_253 {x0 x1 x2 x3 x4 x5 x6 x7 x8 x9 x10 x11 x12 : Int} (h0 : 0 ≤ x1) (h1 : x1 ≤ 4) (h2 : x2 = 36) (h3 : x0 = x2 + x1) (h4 : x3 = 41) (h5 : x4 = x3 + x1) (h6 : x5 = 41) (h7 : x6 = x5 + x1) (h8 : x7 = 36) (h9 : x8 = x7 + x1) (h10 : x9 = 41) (h11 : x10 = x9 + x1) (h12 : x11 = 46) (h13 : x12 = x11 + x1) : (x0).toNat = 36 + (x1).toNat := by omega
theorem o34_254 {x0 x1 x2 x3 x4 x5 x6 x7 x8 x9 x10 x11 x12 : Int} (h0 : 0 ≤ x1) (h1 : x1 ≤ 4) (h2 : x2 = 36) (h3 : x3 = x2 + x1) (h4 : x4 = 41) (h5 : x5 = x4 + x1) (h6 : x6 = 41) (h7 : x7 = x6 + x1) (h8 : x8 = 36) (h9 : x9 = x8 + x1) (h10 : x10 = 41) (h11 : x11 = x10 + x1) (h12 : x12 = 46) (h13 : x0 = x12 + x1) : (x0).toNat = 46 + (x1).toNat := by omega
theorem o34_255 {x0 x1 x2 x3 x4 x5 x6 x7 x8 x9 x10 x11 x12 : Int} (h0 : 0 ≤ x2) (h1 : x2 ≤ 4) (h2 : x3 = 36) (h3 : x4 = x3 + x2) (h4 : x5 = 41) (h5 : x1 = x5 + x2) (h6 : x6 = 41) (h7 : x7 = x6 + x2) (h8 : x8 = 36) (h9 : x9 = x8 + x2) (h10 : x10 = 41) (h11 : x11 = x10 + x2) (h12 : x12 = 46) (h13 : x0 = x12 + x2) : (x0).toNat ≠ (x1).toNat := by omega
theorem o34_256 {x0 x1 x2 x3 x4 x5 x6 x7 x8 x9 x10 x11 x12 : Int} (h0 : 0 ≤ x2) (h1 : x2 ≤ 4) (h2 : x3 = 36) (h3 : x4 = x3 + x2) (h4 : x5 = 41) (h5 : x6 = x5 + x2) (h6 : x7 = 41) (h7 : x8 = x7 + x2) (h8 : x9 = 36) (h9 : x1 = x9 + x2) (h10 : x10 = 41) (h11 : x11 = x10 + x2) (h12 : x12 = 46) (h13 : x0 = x12 + x2) : (x0).toNat ≠ (x1).toNat := by omega
theorem o34_257 {x0 : Int} (h0 : 0 ≤ x0) (h1 : x0 ≤ 1) (h2 : x0 = 0) (h3 : x0 = 1) : False := by omega
theorem o34_258 {x0 x1 x2 : Int} (h0 : 0 ≤ x2) (h1 : x2 ≤ 3) (h2 : 0 ≤ x1) (h3 : x1 ≤ 2) (h4 : ((x2 < 2 ∧ x1 = 0) ∨ (2 ≤ x2 ∧ x1 = x2 - 1))) (h5 : 0 ≤ x0) (h6 : x0 ≤ 99) (h7 : ((x2 < 2 ∧ 0 ≤ x0) ∨ (2 ≤ x2 ∧ x2 - 1 ≤ x0))) (h8 : -2147483648 ≤ x0) (h9 : x0 ≤ 2147483647) (h10 : -2147483648 ≤ x1) (h11 : x1 ≤ 2147483647) (h12 : -2147483648 ≤ x2) (h13 : x2 ≤ 2147483647) : -2147483648 ≤ x0 - x1 := by omega
theorem o34_259 {x0 x1 x2 : Int} (h0 : 0 ≤ x2) (h1 : x2 ≤ 3) (h2 : 0 ≤ x1) (h3 : x1 ≤ 2) (h4 : ((x2 < 2 ∧ x1 = 0) ∨ (2 ≤ x2 ∧ x1 = x2 - 1))) (h5 : 0 ≤ x0) (h6 : x0 ≤ 99) (h7 : ((x2 < 2 ∧ 0 ≤ x0) ∨ (2 ≤ x2 ∧ x2 - 1 ≤ x0))) (h8 : -2147483648 ≤ x0) (h9 : x0 ≤ 2147483647) (h10 : -2147483648 ≤ x1) (h11 : x1 ≤ 2147483647) (h12 : -2147483648 ≤ x2) (h13 : x2 ≤ 2147483647) : x0 - x1 ≤ 2147483647 := by omega
theorem o34_260 : ∀ p, p < 51 → 46 ≤ p → (elAll p).1 ≤ 0 ∧ 99 ≤ (elAll p).2 := by decide +kernel
theorem o34_261 {x0 x1 x2 x3 : Int} (h0 : 0 ≤ x1) (h1 : x1 ≤ 3) (h2 : 0 ≤ x2) (h3 : x2 ≤ 2) (h4 : ((x1 < 2 ∧ x2 = 0) ∨ (2 ≤ x1 ∧ x2 = x1 - 1))) (h5 : 0 ≤ x3) (h6 : x3 ≤ 99) (h7 : ((x1 < 2 ∧ 0 ≤ x3) ∨ (2 ≤ x1 ∧ x1 - 1 ≤ x3))) (h8 : x0 = x3 - x2) : 0 ≤ x0 := by omega
theorem o34_262 {x0 x1 x2 x3 : Int} (h0 : 0 ≤ x1) (h1 : x1 ≤ 3) (h2 : 0 ≤ x2) (h3 : x2 ≤ 2) (h4 : ((x1 < 2 ∧ x2 = 0) ∨ (2 ≤ x1 ∧ x2 = x1 - 1))) (h5 : 0 ≤ x3) (h6 : x3 ≤ 99) (h7 : ((x1 < 2 ∧ 0 ≤ x3) ∨ (2 ≤ x1 ∧ x1 - 1 ≤ x3))) (h8 : x0 = x3 - x2) : x0 ≤ 99 := by omega
theorem o34_263 {x0 x1 x2 x3 x4 x5 x6 x7 x8 x9 x10 x11 x12 : Int} (h0 : 0 ≤ x1) (h1 : x1 ≤ 4) (h2 : x2 = 36) (h3 : x3 = x2 + x1) (h4 : x4 = 41) (h5 : x5 = x4 + x1) (h6 : x6 = 41) (h7 : x7 = x6 + x1) (h8 : x8 = 36) (h9 : x9 = x8 + x1) (h10 : x10 = 41) (h11 : x11 = x10 + x1) (h12 : x12 = 46) (h13 : x0 = x12 + x1) : (36 ≤ x0 ∨ x0 = 10) := by omega
theorem o34_264 {x0 x1 x2 x3 x4 x5 x6 x7 x8 x9 x10 x11 x12 : Int} (h0 : 0 ≤ x1) (h1 : x1 ≤ 4) (h2 : x2 = 36) (h3 : x3 = x2 + x1) (h4 : x4 = 41) (h5 : x5 = x4 + x1) (h6 : x6 = 41) (h7 : x7 = x6 + x1) (h8 : x8 = 36) (h9 : x9 = x8 + x1) (h10 : x10 = 41) (h11 : x11 = x10 + x1) (h12 : x12 = 46) (h13 : x0 = x12 + x1) : 10 ≤ x0 := by omega
theorem o34_265 {x0 x1 x2 x3 x4 x5 x6 x7 x8 x9 x10 x11 x12 : Int} (h0 : 0 ≤ x1) (h1 : x1 ≤ 4) (h2 : x2 = 36) (h3 : x3 = x2 + x1) (h4 : x4 = 41) (h5 : x5 = x4 + x1) (h6 : x6 = 41) (h7 : x7 = x6 + x1) (h8 : x8 = 36) (h9 : x9 = x8 + x1) (h10 : x10 = 41) (h11 : x11 = x10 + x1) (h12 : x12 = 46) (h13 : x0 = x12 + x1) : x0 ≤ 872 := by omega
theorem o34_266 {x0 x1 x2 x3 x4 x5 x6 x7 x8 x9 x10 x11 x12 x13 : Int} (h0 : 0 ≤ x1) (h1 : x1 ≤ 4) (h2 : x2 = 36) (h3 : x3 = x2 + x1) (h4 : x4 = 41) (h5 : x5 = x4 + x1) (h6 : x6 = 41) (h7 : x7 = x6 + x1) (h8 : x8 = 36) (h9 : x9 = x8 + x1) (h10 : x10 = 41) (h11 : x11 = x10 + x1) (h12 : x12 = 46) (h13 : x13 = x12 + x1) (h14 : x0 = 56) (h15 : -2147483648 ≤ x0) (h16 : x0 ≤ 2147483647) (h17 : -2147483648 ≤ x1) (h18 : x1 ≤ 2147483647) (h19 : -2147483648 ≤ x2) (h20 : x2 ≤ 2147483647) (h21 : -2147483648 ≤ x3) (h22 : x3 ≤ 2147483647) (h23 : -2147483648 ≤ x4) (h24 : x4 ≤ 2147483647) (h25 : -2147483648 ≤ x5) (h26 : x5 ≤ 2147483647) (h27 : -2147483648 ≤ x6) (h28 : x6 ≤ 2147483647) (h29 : -2147483648 ≤ x7) (h30 : x7 ≤ 2147483647) (h31 : -2147483648 ≤ x8) (h32 : x8 ≤ 2147483647) (h33 : -2147483648 ≤ x9) (h34 : x9 ≤ 2147483647) (h35 : -2147483648 ≤ x10) (h36 : x10 ≤ 2147483647) (h37 : -2147483648 ≤ x11) (h38 : x11 ≤ 2147483647) (h39 : -2147483648 ≤ x12) (h40 : x12 ≤ 2147483647) (h41 : -2147483648 ≤ x13) (h42 : x13 ≤ 2147483647) : -2147483648 ≤ x0 + x1 := by omega
theorem o34_267 {x0 x1 x2 x3 x4 x5 x6 x7 x8 x9 x10 x11 x12 x13 : Int} (h0 : 0 ≤ x1) (h1 : x1 ≤ 4) (h2 : x2 = 36) (h3 : x3 = x2 + x1) (h4 : x4 = 41) (h5 : x5 = x4 + x1) (h6 : x6 = 41) (h7 : x7 = x6 + x1) (h8 : x8 = 36) (h9 : x9 = x8 + x1) (h10 : x10 = 41) (h11 : x11 = x10 + x1) (h12 : x12 = 46) (h13 : x13 = x12 + x1) (h14 : x0 = 56) (h15 : -2147483648 ≤ x0) (h16 : x0 ≤ 2147483647) (h17 : -2147483648 ≤ x1) (h18 : x1 ≤ 2147483647) (h19 : -2147483648 ≤ x2) (h20 : x2 ≤ 2147483647) (h21 : -2147483648 ≤ x3) (h22 : x3 ≤ 2147483647) (h23 : -2147483648 ≤ x4) (h24 : x4 ≤ 2147483647) (h25 : -2147483648 ≤ x5) (h26 : x5 ≤ 2147483647) (h27 : -2147483648 ≤ x6) (h28 : x6 ≤ 2147483647) (h29 : -2147483648 ≤ x7) (h30 : x7 ≤ 2147483647) (h31 : -2147483648 ≤ x8) (h32 : x8 ≤ 2147483647) (h33 : -2147483648 ≤ x9) (h34 : x9 ≤ 2147483647) (h35 : -2147483648 ≤ x10) (h36 : x10 ≤ 2147483647) (h37 : -2147483648 ≤ x11) (h38 : x11 ≤ 2147483647) (h39 : -2147483648 ≤ x12) (h40 : x12 ≤ 2147483647) (h41 : -2147483648 ≤ x13) (h42 : x13 ≤ 2147483647) : x0 + x1 ≤ 2147483647 := by omega
theorem o34_268 {x0 x1 x2 x3 x4 x5 x6 x7 x8 x9 x10 x11 x12 x13 x14 x15 : Int} (h0 : 0 ≤ x1) (h1 : x1 ≤ 4) (h2 : x2 = 36) (h3 : x3 = x2 + x1) (h4 : x4 = 41) (h5 : x5 = x4 + x1) (h6 : x6 = 41) (h7 : x7 = x6 + x1) (h8 : x8 = 36) (h9 : x9 = x8 + x1) (h10 : x10 = 41) (h11 : x11 = x10 + x1) (h12 : x12 = 46) (h13 : x13 = x12 + x1) (h14 : x14 = 56) (h15 : x15 = x14 + x1) (h16 : x0 = 56) (h17 : -2147483648 ≤ x0) (h18 : x0 ≤ 2147483647) (h19 : -2147483648 ≤ x1) (h20 : x1 ≤ 2147483647) (h21 : -2147483648 ≤ x2) (h22 : x2 ≤ 2147483647) (h23 : -2147483648 ≤ x3) (h24 : x3 ≤ 2147483647) (h25 : -2147483648 ≤ x4) (h26 : x4 ≤ 2147483647) (h27 : -2147483648 ≤ x5) (h28 : x5 ≤ 2147483647) (h29 : -2147483648 ≤ x6) (h30 : x6 ≤ 2147483647) (h31 : -2147483648 ≤ x7) (h32 : x7 ≤ 2147483647) (h33 : -2147483648 ≤ x8) (h34 : x8 ≤ 2147483647) (h35 : -2147483648 ≤ x9) (h36 : x9 ≤ 2147483647) (h37 : -2147483648 ≤ x10) (h38 : x10 ≤ 2147483647) (h39 : -2147483648 ≤ x11) (h40 : x11 ≤ 2147483647) (h41 : -2147483648 ≤ x12) (h42 : x12 ≤ 2147483647) (h43 : -2147483648 ≤ x13) (h44 : x13 ≤ 2147483647) (h45 : -2147483648 ≤ x14) (h46 : x14 ≤ 2147483647) (h47 : -2147483648 ≤ x15) (h48 : x15 ≤ 2147483647) : -2147483648 ≤ x0 + x1 := by omega
theorem o34_269 {x0 x1 x2 x3 x4 x5 x6 x7 x8 x9 x10 x11 x12 x13 x14 x15 : Int} (h0 : 0 ≤ x1) (h1 : x1 ≤ 4) (h2 : x2 = 36) (h3 : x3 = x2 + x1) (h4 : x4 = 41) (h5 : x5 = x4 + x1) (h6 : x6 = 41) (h7 : x7 = x6 + x1) (h8 : x8 = 36) (h9 : x9 = x8 + x1) (h10 : x10 = 41) (h11 : x11 = x10 + x1) (h12 : x12 = 46) (h13 : x13 = x12 + x1) (h14 : x14 = 56) (h15 : x15 = x14 + x1) (h16 : x0 = 56) (h17 : -2147483648 ≤ x0) (h18 : x0 ≤ 2147483647) (h19 : -2147483648 ≤ x1) (h20 : x1 ≤ 2147483647) (h21 : -2147483648 ≤ x2) (h22 : x2 ≤ 2147483647) (h23 : -2147483648 ≤ x3) (h24 : x3 ≤ 2147483647) (h25 : -2147483648 ≤ x4) (h26 : x4 ≤ 2147483647) (h27 : -2147483648 ≤ x5) (h28 : x5 ≤ 2147483647) (h29 : -2147483648 ≤ x6) (h30 : x6 ≤ 2147483647) (h31 : -2147483648 ≤ x7) (h32 : x7 ≤ 2147483647) (h33 : -2147483648 ≤ x8) (h34 : x8 ≤ 2147483647) (h35 : -2147483648 ≤ x9) (h36 : x9 ≤ 2147483647) (h37 : -2147483648 ≤ x10) (h38 : x10 ≤ 2147483647) (h39 : -2147483648 ≤ x11) (h40 : x11 ≤ 2147483647) (h41 : -2147483648 ≤ x12) (h42 : x12 ≤ 2147483647) (h43 : -2147483648 ≤ x13) (h44 : x13 ≤ 2147483647) (h45 : -2147483648 ≤ x14) (h46 : x14 ≤ 2147483647) (h47 : -2147483648 ≤ x15) (h48 : x15 ≤ 2147483647) : x0 + x1 ≤ 2147483647 := by omega
theorem o34_270 {x0 x1 x2 x3 x4 x5 x6 x7 x8 x9 x10 x11 x12 x13 x14 x15 x16 : Int} (h0 : 0 ≤ x1) (h1 : x1 ≤ 4) (h2 : x2 = 36) (h3 : x3 = x2 + x1) (h4 : x4 = 41) (h5 : x5 = x4 + x1) (h6 : x6 = 41) (h7 : x7 = x6 + x1) (h8 : x8 = 36) (h9 : x9 = x8 + x1) (h10 : x10 = 41) (h11 : x11 = x10 + x1) (h12 : x12 = 46) (h13 : x13 = x12 + x1) (h14 : x14 = 56) (h15 : x15 = x14 + x1) (h16 : x16 = 56) (h17 : x0 = x16 + x1) : 0 ≤ x0 := by omega
theorem o34_271 {x0 x1 x2 x3 x4 x5 x6 x7 x8 x9 x10 x11 x12 x13 x14 x15 x16 : Int} (h0 : 0 ≤ x1) (h1 : x1 ≤ 4) (h2 : x2 = 36) (h3 : x3 = x2 + x1) (h4 : x4 = 41) (h5 : x5 = x4 + x1) (h6 : x6 = 41) (h7 : x7 = x6 + x1) (h8 : x8 = 36) (h9 : x9 = x8 + x1) (h10 : x10 = 41) (h11 : x11 = x10 + x1) (h12 : x12 = 46) (h13 : x13 = x12 + x1) (h14 : x14 = 56) (h15 : x15 = x14 + x1) (h16 : x16 = 56) (h17 : x0 = x16 + x1) : x0 < (5322 : Nat) := by omega
theorem o34_272 {x0 x1 x2 x3 x4 x5 x6 x7 x8 x9 x10 x11 x12 x13 x14 x15 x16 : Int} (h0 : 0 ≤ x1) (h1 : x1 ≤ 4) (h2 : x2 = 36) (h3 : x3 = x2 + x1) (h4 : x4 = 41) (h5 : x5 = x4 + x1) (h6 : x6 = 41) (h7 : x7 = x6 + x1) (h8 : x8 = 36) (h9 : x9 = x8 + x1) (h10 : x10 = 41) (h11 : x11 = x10 + x1) (h12 : x12 = 46) (h13 : x13 = x12 + x1) (h14 : x14 = 56) (h15 : x0 = x14 + x1) (h16 : x15 = 56) (h17 : x16 = x15 + x1) : 0 ≤ x0 := by omega
theorem o34_273 {x0 x1 x2 x3 x4 x5 x6 x7 x8 x9 x10 x11 x12 x13 x14 x15 x16 : Int} (h0 : 0 ≤ x1) (h1 : x1 ≤ 4) (h2 : x2 = 36) (h3 : x3 = x2 + x1) (h4 : x4 = 41) (h5 : x5 = x4 + x1) (h6 : x6 = 41) (h7 : x7 = x6 + x1) (h8 : x8 = 36) (h9 : x9 = x8 + x1) (h10 : x10 = 41) (h11 : x11 = x10 + x1) (h12 : x12 = 46) (h13 : x13 = x12 + x1) (h14 : x14 = 56) (h15 : x0 = x14 + x1) (h16 : x15 = 56) (h17 : x16 = x15 + x1) : x0 < (5322 : Nat) := by omega
theorem o34_274 : ∀ p, p < 61 → 56 ≤ p → (elAll p).1 ≤ (-2147483648) ∧ 2147483647 ≤ (elAll p).2 := by decide +kernel
theorem o34_275 {x0 x1 x2 x3 x4 x5 x6 x7 x8 x9 x10 x11 x12 x13 x14 x15 x16 : Int} (h0 : 0 ≤ x1) (h1 : x1 ≤ 4) (h2 : x2 = 36) (h3 : x3 = x2 + x1) (h4 : x4 = 41) (h5 : x5 = x4 + x1) (h6 : x6 = 41) (h7 : x7 = x6 + x1) (h8 : x8 = 36) (h9 : x9 = x8 + x1) (h10 : x10 = 41) (h11 : x11 = x10 + x1) (h12 : x12 = 46) (h13 : x13 = x12 + x1) (h14 : x14 = 56) (h15 : x0 = x14 + x1) (h16 : x15 = 56) (h17 : x16 = x15 + x1) : (x0).toNat < 61 := by omega
theorem o34_276 {x0 x1 x2 x3 x4 x5 x6 x7 x8 x9 x10 x11 x12 x13 x14 x15 x16 : Int} (h0 : 0 ≤ x1) (h1 : x1 ≤ 4) (h2 : x2 = 36) (h3 : x3 = x2 + x1) (h4 : x4 = 41) (h5 : x5 = x4 + x1) (h6 : x6 = 41) (h7 : x7 = x6 + x1) (h8 : x8 = 36) (h9 : x9 = x8 + x1) (h10 : x10 = 41) (h11 : x11 = x10 + x1) (h12 : x12 = 46) (h13 : x13 = x12 + x1) (h14 : x14 = 56) (h15 : x0 = x14 + x1) (h16 : x15 = 56) (h17 : x16 = x15 + x1) : 56 ≤ (x0).toNat := by omega
theorem o34_277 {x0 x1 x2 x3 x4 x5 x6 x7 x8 x9 x10 x11 x12 x13 x14 x15 x16 : Int} (h0 : 0 ≤ x1) (h1 : x1 ≤ 4) (h2 : x2 = 36) (h3 : x3 = x2 + x1) (h4 : x4 = 41) (h5 : x5 = x4 + x1) (h6 : x6 = 41) (h7 : x7 = x6 + x1) (h8 : x8 = 36) (h9 : x9 = x8 + x1) (h10 : x10 = 41) (h11 : x11 = x10 + x1) (h12 : x12 = 46) (h13 : x13 = x12 + x1) (h14 : x14 = 56) (h15 : x0 = x14 + x1) (h16 : x15 = 56) (h17 : x16 = x15 + x1) : (36 ≤ x0 ∨ x0 = 10) := by omega
theorem o34_278 {x0 x1 x2 x3 x4 x5 x6 x7 x8 x9 x10 x11 x12 x13 x14 x15 x16 : Int} (h0 : 0 ≤ x1) (h1 : x1 ≤ 4) (h2 : x2 = 36) (h3 : x3 = x2 + x1) (h4 : x4 = 41) (h5 : x5 = x4 + x1) (h6 : x6 = 41) (h7 : x7 = x6 + x1) (h8 : x8 = 36) (h9 : x9 = x8 + x1) (h10 : x10 = 41) (h11 : x11 = x10 + x1) (h12 : x12 = 46) (h13 : x13 = x12 + x1) (h14 : x14 = 56) (h15 : x0 = x14 + x1) (h16 : x15 = 56) (h17 : x16 = x15 + x1) : 10 ≤ x0 := by omega
theorem o34_279 {x0 x1 x2 x3 x4 x5 x6 x7 x8 x9 x10 x11 x12 x13 x14 x15 x16 : Int} (h0 : 0 ≤ x1) (h1 : x1 ≤ 4) (h2 : x2 = 36) (h3 : x3 = x2 + x1) (h4 : x4 = 41) (h5 : x5 = x4 + x1) (h6 : x6 = 41) (h7 : x7 = x6 + x1) (h8 : x8 = 36) (h9 : x9 = x8 + x1) (h10 : x10 = 41) (h11 : x11 = x10 + x1) (h12 : x12 = 46) (h13 : x13 = x12 + x1) (h14 : x14 = 56) (h15 : x0 = x14 + x1) (h16 : x15 = 56) (h17 : x16 = x15 + x1) : x0 ≤ 872 := by omega
theorem o34_280 {x0 : Int} (h0 : x0 = 111) : 0 ≤ x0 := by omega
theorem o34_281 {x0 : Int} (h0 : x0 = 111) : x0 < (5322 : Nat) := by omega
theorem o34_282 {x0 : Int} (h0 : x0 = 111) : x0 = ((111 : Nat) : Int) := by omega
theorem o34_283 : ∀ p, p < 112 → 111 ≤ p → (elAll p).1 ≤ (-2147483648) ∧ 2147483647 ≤ (elAll p).2 := by decide +kernel
theorem o34_284 {x0 : Int} (h0 : x0 = 111) : (x0).toNat < 112 := by omega
theorem o34_285 {x0 : Int} (h0 : x0 = 111) : 111 ≤ (x0).toNat := by omega
theorem o34_286 {x0 : Int} (h0 : x0 = 111) : (36 ≤ x0 ∨ x0 = 10) := by omega
theorem o34_287 {x0 : Int} (h0 : x0 = 111) : 10 ≤ x0 := by omega
theorem o34_288 {x0 : Int} (h0 : x0 = 111) : x0 ≤ 872 := by omega
theorem o34_289 {x0 x1 x2 x3 : Int} (h0 : 0 ≤ x1) (h1 : x1 ≤ 3) (h2 : 0 ≤ x0) (h3 : x0 ≤ 2) (h4 : ((x1 < 2 ∧ x0 = 0) ∨ (2 ≤ x1 ∧ x0 = x1 - 1))) (h5 : 0 ≤ x2) (h6 : x2 ≤ 99) (h7 : ((x1 < 2 ∧ 0 ≤ x2) ∨ (2 ≤ x1 ∧ x1 - 1 ≤ x2))) (h8 : x3 = x2 - x0) : 0 ≤ x0 := by omega
theorem o34_290 {x0 x1 x2 x3 : Int} (h0 : 0 ≤ x1) (h1 : x1 ≤ 3) (h2 : 0 ≤ x0) (h3 : x0 ≤ 2) (h4 : ((x1 < 2 ∧ x0 = 0) ∨ (2 ≤ x1 ∧ x0 = x1 - 1))) (h5 : 0 ≤ x2) (h6 : x2 ≤ 99) (h7 : ((x1 < 2 ∧ 0 ≤ x2) ∨ (2 ≤ x1 ∧ x1 - 1 ≤ x2))) (h8 : x3 = x2 - x0) : x0 ≤ 2 := by omega
theorem o34_291 {x0 : Int} (h0 : 0 ≤ x0) (h1 : x0 ≤ 3) : x0 = x0 := by omega
theorem o34_292 {x0 x1 : Int} (h0 : x1 = 0) (h1 : 0 ≤ x0) (h2 : x0 ≤ 99) (h3 : -2147483648 ≤ x0) (h4 : x0 ≤ 2147483647) (h5 : -2147483648 ≤ x1) (h6 : x1 ≤ 2147483647) : -2147483648 ≤ x0 - x1 := by omega
theorem o34_293 {x0 x1 : Int} (h0 : x1 = 0) (h1 : 0 ≤ x0) (h2 : x0 ≤ 99) (h3 : -2147483648 ≤ x0) (h4 : x0 ≤ 2147483647) (h5 : -2147483648 ≤ x1) (h6 : x1 ≤ 2147483647) : x0 - x1 ≤ 2147483647 := by omega
theorem o34_294 {x0 x1 x2 : Int} (h0 : x1 = 0) (h1 : 0 ≤ x2) (h2 : x2 ≤ 99) (h3 : x0 = x2 - x1) : 0 ≤ x0 := by omega
theorem o34_295 {x0 x1 x2 : Int} (h0 : x1 = 0) (h1 : 0 ≤ x2) (h2 : x2 ≤ 99) (h3 : x0 = x2 - x1) : x0 ≤ 99 := by omega
theorem o34_296 {x0 x1 x2 : Int} (h0 : x0 = 0) (h1 : 0 ≤ x1) (h2 : x1 ≤ 99) (h3 : x2 = x1 - x0) : x0 = 0 := by omega
theorem o34_297 {x0 x1 x2 x3 : Int} (h0 : x1 = 0) (h1 : 0 ≤ x2) (h2 : x2 ≤ 99) (h3 : x3 = x2 - x1) (h4 : -2147483648 ≤ x0) (h5 : x0 ≤ 2147483647) (h6 : -2147483648 ≤ x1) (h7 : x1 ≤ 2147483647) (h8 : -2147483648 ≤ x2) (h9 : x2 ≤ 2147483647) (h10 : -2147483648 ≤ x3) (h11 : x3 ≤ 2147483647) : -2147483648 ≤ x0 + x1 := by omega
theorem o34_298 {x0 x1 x2 x3 : Int} (h0 : x1 = 0) (h1 : 0 ≤ x2) (h2 : x2 ≤ 99) (h3 : x3 = x2 - x1) (h4 : -2147483648 ≤ x0) (h5 : x0 ≤ 2147483647) (h6 : -2147483648 ≤ x1) (h7 : x1 ≤ 2147483647) (h8 : -2147483648 ≤ x2) (h9 : x2 ≤ 2147483647) (h10 : -2147483648 ≤ x3) (h11 : x3 ≤ 2147483647) : x0 + x1 ≤ 2147483647 := by omega
theorem o34_299 {x0 x1 x2 x3 x4 x5 x6 : Int} (h0 : x0 = 0) (h1 : 0 ≤ x1) (h2 : x1 ≤ 99) (h3 : x2 = x1 - x0) (h4 : x3 = 999) (h5 : x4 = x5 + x0) (h6 : (x6 = x3 ∨ x6 = x4)) (h7 : x6 ≤ x3 ∧ x6 ≤ x4) : x0 = 0 := by omega
theorem o34_300 {x0 x1 x2 x3 x4 x5 x6 : Int} (h0 : x0 = 0) (h1 : 0 ≤ x1) (h2 : x1 ≤ 99) (h3 : x2 = x1 - x0) (h4 : x3 = 999) (h5 : x4 = x5 + x0) (h6 : (x6 = x3 ∨ x6 = x4)) (h7 : x6 ≤ x3 ∧ x6 ≤ x4) : 0 ≤ x0 := by omega
theorem o34_301 {x0 x1 x2 x3 x4 x5 x6 : Int} (h0 : x0 = 0) (h1 : 0 ≤ x1) (h2 : x1 ≤ 99) (h3 : x2 = x1 - x0) (h4 : x3 = 999) (h5 : x4 = x5 + x0) (h6 : (x6 = x3 ∨ x6 = x4)) (h7 : x6 ≤ x3 ∧ x6 ≤ x4) : x0 ≤ 2 := by omega
noncomputable def g4_X12_streetsFrom (s : XS) (x2_6 : Int) : XR := (s, x2_6)
noncomputable def g8_X12_streetsFrom (R4 : XS → Int → Int → Int → XR) (s : XS) (x2_6 : Int) (a1 : Int) (x3_5 : Int) : XR := R4 s a1 ((Xiadd x2_6 1)) ((x3_5 + 1))
noncomputable def g9_X12_streetsFrom (R4 : XS → Int → Int → Int → XR) (s : XS) (x2_6 : Int) (a1 : Int) (x3_5 : Int) : XR := R4 s a1 ((x2_6 + 0)) ((x3_5 + 1))
noncomputable def g7b_X12_streetsFrom (R4 : XS → Int → Int → Int → XR) (s : XS) (r_21 : Int) (x2_6 : Int) (a1 : Int) (x3_5 : Int) : XR := if r_21 = ((-1)) then g9_X12_streetsFrom R4 s x2_6 a1 x3_5 else g8_X12_streetsFrom R4 s x2_6 a1 x3_5
noncomputable def g6c_X12_streetsFrom (R4 : XS → Int → Int → Int → XR) (s : XS) (r_21 : Int) (x2_6 : Int) (a1 : Int) (x3_5 : Int) : XR := g7b_X12_streetsFrom R4 s r_21 x2_6 a1 x3_5
noncomputable def g5_X12_streetsFrom (R4 : XS → Int → Int → Int → XR) (s : XS) (a1 : Int) (x2_6 : Int) (x3_5 : Int) : XR := g6c_X12_streetsFrom R4 ((f_X12_streetFrom s a1 x3_5).1) (((f_X12_streetFrom s a1 x3_5).2)) x2_6 a1 x3_5
noncomputable def g3b_X12_streetsFrom (R4 : XS → Int → Int → Int → XR) (s : XS) (x3_5 : Int) (a1 : Int) (x2_6 : Int) : XR := if x3_5 < 4 then g5_X12_streetsFrom R4 s a1 x2_6 x3_5 else g4_X12_streetsFrom s x2_6
noncomputable def g2l_X12_streetsFrom (R4 : XS → Int → Int → Int → XR) (s : XS) (a1 : Int) (x2_6 : Int) (x3_5 : Int) : XR := g3b_X12_streetsFrom R4 s x3_5 a1 x2_6
noncomputable def L1_X12_streetsFrom (n : Nat) : XS → Int → Int → Int → XR := Nat.rec (motive := fun _ => XS → Int → Int → Int → XR) (fun s _ _ _ => (s, 0)) (fun _ R4 => g2l_X12_streetsFrom R4) n
noncomputable def f_X12_streetsFrom (s : XS) (a1 : Int) : XR := L1_X12_streetsFrom (Int.toNat (4 - 0 + 1)) s a1 0 0
set_option maxHeartbeats 4000000 in
set_option maxRecDepth 100000 in
theorem c_X12_streetsFrom (l : Launch) (G : GG) (Z : RZ) (ad : Nat → Nat) (ws0 : va_W) (hT : Ty G SM ad ws0) (a1 : Int32) (l1 : 0 ≤ a1.toInt) (u1 : a1.toInt ≤ 24) (hLd : Laid ws0) : Mq l yX12_streetsFrom cX12_streetsFrom 4 (some .int) 4 G Z [.ref (ad 0), .int a1] ws0 (PI G SM ad [] ws0 (fun r u => (xso SM ad u = (f_X12_streetsFrom (xso SM ad ws0) a1.toInt).1) ∧ (r.toInt = (f_X12_streetsFrom (xso SM ad ws0) a1.toInt).2))) := by
  refine Mq.start (by decide) (Nat.le_of_ble_eq_true rfl) ?_
  intro p e s m below meth c A ls C0 hZ h hl
  have hl : lv_has ls 4 [(0, .ref (ad 0)), (1, .int a1)] := hl
  have h : Wt G SM ad A s s.heap [] ws0 := ⟨h, hT⟩
  obtain ⟨args, hargs⟩ : ∃ z, z = ([.ref (ad 0), .int a1] : List Value).toArray := ⟨_, rfl⟩
  rw [← hargs] at C0 ⊢
  have C0 : Cx p s m args meth c RX12 cX12_streetsFrom 4 (some .int) := C0
  obtain ⟨Q, hQ⟩ : ∃ z, z = MQ below ((PI G SM ad [] ws0 (fun r u => (xso SM ad u = (f_X12_streetsFrom (xso SM ad ws0) a1.toInt).1) ∧ (r.toInt = (f_X12_streetsFrom (xso SM ad ws0) a1.toInt).2))) A) args s 0 0 A := ⟨_, rfl⟩
  rw [← hQ]
  obtain ⟨FT, hFT⟩ : ∃ z, z = f_X12_streetsFrom (xso SM ad ws0) a1.toInt := ⟨_, rfl⟩
  have HE : FT = f_X12_streetsFrom (xso SM ad ws0) a1.toInt := hFT
  refine y_c1 (n := 0) C0 (by decide) dX12_streetsFrom_0 (fun v_1 e_2 => ?_)
  refine lv_istore_n (lv' := [(2, .int v_1), (0, .ref (ad 0)), (1, .int a1)]) C0.1 C0.2.1 dX12_streetsFrom_1 rfl hl (by decide) rfl (fun ls hl => ?_)
  refine y_c1 (n := 0) C0 (by decide) dX12_streetsFrom_2 (fun v_3 e_4 => ?_)
  refine lv_istore_n (lv' := [(3, .int v_3), (2, .int v_1), (0, .ref (ad 0)), (1, .int a1)]) C0.1 C0.2.1 dX12_streetsFrom_3 rfl hl (by decide) rfl (fun ls hl => ?_)
  have lp_9 : ∀ (n_11 : Nat) (x3_5 : Int32) (x2_6 : Int32) (H : Heap) (locs : List Loc) (ls : Array Slot) (ws_7 : va_W), 4 - x3_5.toInt < (n_11 : Int) → 0 ≤ x3_5.toInt → x3_5.toInt ≤ 4 → (FT = L1_X12_streetsFrom n_11 (xso SM ad ws_7) a1.toInt x2_6.toInt x3_5.toInt) → Wt G SM ad A s H locs ws_7 → Fr SM [] ws0 ws_7 → lv_has ls 4 [(3, .int x3_5), (2, .int x2_6), (0, .ref (ad 0)), (1, .int a1)] → W p l e (rmd 4 0 0) s m args below meth c H locs 0 0 Q (F0 m 4 ls []) := by
    intro n_11
    induction n_11 with
    | zero => intro x3_5 x2_6 H locs ls ws_7 hn_12 b_13 b_14 HE h hF_8 hl; exact ((o34_1 b_13 b_14 hn_12)).elim
    | succ n_11 ih_10 =>
      intro x3_5 x2_6 H locs ls ws_7 hn_12 b_13 b_14 HE h hF_8 hl
      obtain ⟨R4, hR4⟩ : ∃ z, z = L1_X12_streetsFrom n_11 := ⟨_, rfl⟩
      replace HE : FT = g2l_X12_streetsFrom R4 (xso SM ad ws_7) a1.toInt x2_6.toInt x3_5.toInt := HE.trans (by rw [hR4]; rfl)
      refine lv_iload_n C0.1 C0.2.1 dX12_streetsFrom_4 rfl (lv_at hl 0 rfl) ?_
      refine y_c1 (n := 4) C0 (by decide) dX12_streetsFrom_5 (fun v_15 e_16 => ?_)
      replace HE : FT = g3b_X12_streetsFrom R4 (xso SM ad ws_7) x3_5.toInt a1.toInt x2_6.toInt := HE.trans rfl
      refine y_icmp_ge (tgt := 33) C0 dX12_streetsFrom_6 (by decide) (fun c_17 => ?_) (fun c_17 => ?_)
      · -- 6
        replace HE : FT = g4_X12_streetsFrom (xso SM ad ws_7) x2_6.toInt := HE.trans (if_neg (o34_3 b_13 b_14 hn_12 e_16 c_17))
        refine lv_iload_n C0.1 C0.2.1 dX12_streetsFrom_33 rfl (lv_at hl 1 rfl) ?_
        replace HE : FT = ((xso SM ad ws_7), x2_6.toInt) := HE.trans rfl
        rw [hQ]
        exact y_iret C0 h hF_8 ⟨(congrArg Prod.fst (HE.symm.trans hFT)), (congrArg Prod.snd (HE.symm.trans hFT))⟩ dX12_streetsFrom_34
      · -- 6
        replace HE : FT = g5_X12_streetsFrom R4 (xso SM ad ws_7) a1.toInt x2_6.toInt x3_5.toInt := HE.trans (if_pos (o34_4 b_13 b_14 hn_12 e_16 c_17))
        refine lv_iload_n C0.1 C0.2.1 dX12_streetsFrom_9 rfl (lv_at hl 1 rfl) ?_
        refine lv_aload_n C0.1 C0.2.1 dX12_streetsFrom_10 rfl (lv_at hl 2 rfl) ?_
        refine lv_iload_n C0.1 C0.2.1 dX12_streetsFrom_11 rfl (lv_at hl 3 rfl) ?_
        refine lv_iload_n C0.1 C0.2.1 dX12_streetsFrom_12 rfl (lv_at hl 0 rfl) ?_
        refine y_ci h (y_rV (As := [.int a1, .int x3_5]) (rest := [.int x2_6]) C0 hZ h (c_X12_streetFrom l G Z ad _ h.2 a1 x3_5 (o34_5 l1 u1) (o34_6 l1 u1) (o34_7 b_13 b_14 hn_12 e_16 c_17) (o34_8 b_13 b_14 hn_12 e_16 c_17) (Laid.pa hLd (Pa.fr hF_8 (by decide)))) k_X12_streetFrom q_1713 q_80 q_1711 kSM_0 rfl rfl rfl hl.1 rfl rfl (Nat.le_of_ble_eq_true rfl) dX12_streetsFrom_13 ⟨Nat.le_of_ble_eq_true rfl, Nat.le_of_ble_eq_true rfl⟩ ⟨Nat.le_of_ble_eq_true rfl, Nat.le_of_ble_eq_true rfl⟩) (fun r_21 H locs ws_18 h u_19 p_20 => ?_)
        obtain ⟨e_22, e_23, e_24, e_25, e_26⟩ := p_20
        replace HE : FT = g6c_X12_streetsFrom R4 (xso SM ad ws_18) r_21.toInt x2_6.toInt a1.toInt x3_5.toInt := HE.trans (by rw [e_22, e_23]; rfl)
        refine y_c1 (n := (-1)) C0 (by decide) dX12_streetsFrom_16 (fun v_27 e_28 => ?_)
        replace HE : FT = g7b_X12_streetsFrom R4 (xso SM ad ws_18) r_21.toInt x2_6.toInt a1.toInt x3_5.toInt := HE.trans rfl
        refine y_icmp_ne (tgt := 24) C0 dX12_streetsFrom_17 (by decide) (fun c_29 => ?_) (fun c_29 => ?_)
        · -- 17
          replace HE : FT = g8_X12_streetsFrom R4 (xso SM ad ws_18) x2_6.toInt a1.toInt x3_5.toInt := HE.trans (if_neg (o34_10 e_24 e_25 e_28 c_29))
          refine y_c1 (n := 1) C0 (by decide) dX12_streetsFrom_24 (fun v_30 e_31 => ?_)
          refine xr_iadd C0 dX12_streetsFrom_25 (fun v_32 e_33 => ?_)
          refine lv_istore_n (lv' := [(2, .int v_32), (3, .int x3_5), (0, .ref (ad 0)), (1, .int a1)]) C0.1 C0.2.1 dX12_streetsFrom_26 rfl hl (by decide) rfl (fun ls hl => ?_)
          refine y_inc (kp := 1) (n := 1) (fun v_34 => [(3, .int v_34), (2, .int v_32), (0, .ref (ad 0)), (1, .int a1)]) C0 hl rfl (by decide) (by decide) (fun _ => rfl) (o34_12 b_13 b_14 hn_12 e_16 c_17 (le_min x3_5) (le_max x3_5) (le_min v_15) (le_max v_15)) (o34_13 b_13 b_14 hn_12 e_16 c_17 (le_min x3_5) (le_max x3_5) (le_min v_15) (le_max v_15)) dX12_streetsFrom_27 (fun v_34 ls e_35 hl => ?_)
          refine lv_goto (tgt := 4) C0.1 C0.2.1 dX12_streetsFrom_30 (by decide) ?_
          exact ih_10 v_34 v_32 _ _ _ _ (o34_14 b_13 b_14 hn_12 e_16 c_17 e_35) (o34_15 b_13 b_14 hn_12 e_16 c_17 e_35) (o34_16 b_13 b_14 hn_12 e_16 c_17 e_35) (((show FT = R4 (xso SM ad ws_18) a1.toInt v_32.toInt v_34.toInt from HE.trans (by rw [e_35, e_33, e_31]; rfl)).trans (by rw [hR4]))) h (Fr.tr hF_8 u_19) (lv_sub hl [0, 1, 2, 3] rfl)
        · -- 17
          replace HE : FT = g9_X12_streetsFrom R4 (xso SM ad ws_18) x2_6.toInt a1.toInt x3_5.toInt := HE.trans (if_pos (o34_11 e_24 e_25 e_28 c_29))
          refine y_c1 (n := 0) C0 (by decide) dX12_streetsFrom_20 (fun v_36 e_37 => ?_)
          refine lv_goto (tgt := 25) C0.1 C0.2.1 dX12_streetsFrom_21 (by decide) ?_
          refine y_add C0 (o34_17 e_37 (le_min x2_6) (le_max x2_6) (le_min v_36) (le_max v_36)) (o34_18 e_37 (le_min x2_6) (le_max x2_6) (le_min v_36) (le_max v_36)) dX12_streetsFrom_25 (fun v_38 e_39 => ?_)
          refine lv_istore_n (lv' := [(2, .int v_38), (3, .int x3_5), (0, .ref (ad 0)), (1, .int a1)]) C0.1 C0.2.1 dX12_streetsFrom_26 rfl hl (by decide) rfl (fun ls hl => ?_)
          refine y_inc (kp := 1) (n := 1) (fun v_40 => [(3, .int v_40), (2, .int v_38), (0, .ref (ad 0)), (1, .int a1)]) C0 hl rfl (by decide) (by decide) (fun _ => rfl) (o34_12 b_13 b_14 hn_12 e_16 c_17 (le_min x3_5) (le_max x3_5) (le_min v_15) (le_max v_15)) (o34_13 b_13 b_14 hn_12 e_16 c_17 (le_min x3_5) (le_max x3_5) (le_min v_15) (le_max v_15)) dX12_streetsFrom_27 (fun v_40 ls e_41 hl => ?_)
          refine lv_goto (tgt := 4) C0.1 C0.2.1 dX12_streetsFrom_30 (by decide) ?_
          exact ih_10 v_40 v_38 _ _ _ _ (o34_14 b_13 b_14 hn_12 e_16 c_17 e_41) (o34_15 b_13 b_14 hn_12 e_16 c_17 e_41) (o34_16 b_13 b_14 hn_12 e_16 c_17 e_41) (((show FT = R4 (xso SM ad ws_18) a1.toInt v_38.toInt v_40.toInt from HE.trans (by rw [e_41, e_39, e_37]; rfl)).trans (by rw [hR4]))) h (Fr.tr hF_8 u_19) (lv_sub hl [0, 1, 2, 3] rfl)
  exact lp_9 ((4 - v_3.toInt + 1).toNat) v_3 v_1 _ _ _ _ (o34_19 e_4) (o34_20 e_4) (o34_21 e_4) ((show FT = L1_X12_streetsFrom (Int.toNat (4 - v_3.toInt + 1)) (xso SM ad ws0) a1.toInt v_1.toInt v_3.toInt from HE.trans (by rw [e_4, e_2]; rfl))) h Fr.rf (lv_sub hl [0, 1, 2, 3] rfl)
noncomputable def g3_X12_areThere (s : XS) : XR := (s, 0)
noncomputable def g7_X12_areThere (s : XS) : XR := (s, 0)
noncomputable def g8_X12_areThere (s : XS) : XR := (s, 1)
noncomputable def g6b_X12_areThere (s : XS) (r_21 : Int) : XR := if r_21 = 0 then g7_X12_areThere s else g8_X12_areThere s
noncomputable def g5c_X12_areThere (s : XS) (r_21 : Int) : XR := g6b_X12_areThere s r_21
noncomputable def g4_X12_areThere (s : XS) (a2 : Int) : XR := g5c_X12_areThere ((f_X12_isCrossing s a2).1) (((f_X12_isCrossing s a2).2))
noncomputable def g2b_X12_areThere (s : XS) (r_6 : Int) (a2 : Int) : XR := if r_6 = 0 then g3_X12_areThere s else g4_X12_areThere s a2
noncomputable def g1c_X12_areThere (s : XS) (r_6 : Int) (a2 : Int) : XR := g2b_X12_areThere s r_6 a2
noncomputable def f_X12_areThere (s : XS) (a1 : Int) (a2 : Int) : XR := g1c_X12_areThere ((f_X12_isPerson s a1).1) (((f_X12_isPerson s a1).2)) a2
set_option maxHeartbeats 4000000 in
set_option maxRecDepth 100000 in
theorem c_X12_areThere (l : Launch) (G : GG) (Z : RZ) (ad : Nat → Nat) (ws0 : va_W) (hT : Ty G SM ad ws0) (a1 : Int32) (a2 : Int32) (hJ : J ws0) : Mq l yX12_areThere cX12_areThere 3 (some .boolean) 3 G Z [.ref (ad 0), .int a1, .int a2] ws0 (PI G SM ad [] ws0 (fun r u => (xso SM ad u = (f_X12_areThere (xso SM ad ws0) a1.toInt a2.toInt).1) ∧ (r.toInt = (f_X12_areThere (xso SM ad ws0) a1.toInt a2.toInt).2) ∧ (0 ≤ r.toInt) ∧ (r.toInt ≤ 1) ∧ ((r.toInt = 0 ∨ (0 ≤ a1.toInt ∧ a1.toInt ≤ 4 ∧ 0 ≤ a2.toInt ∧ a2.toInt ≤ 24))) ∧ (r.toInt = 0 ∨ Laid ws0))) := by
  refine Mq.start (by decide) (Nat.le_of_ble_eq_true rfl) ?_
  intro p e s m below meth c A ls C0 hZ h hl
  have hl : lv_has ls 3 [(0, .ref (ad 0)), (1, .int a1), (2, .int a2)] := hl
  have h : Wt G SM ad A s s.heap [] ws0 := ⟨h, hT⟩
  obtain ⟨args, hargs⟩ : ∃ z, z = ([.ref (ad 0), .int a1, .int a2] : List Value).toArray := ⟨_, rfl⟩
  rw [← hargs] at C0 ⊢
  have C0 : Cx p s m args meth c RX12 cX12_areThere 3 (some .boolean) := C0
  obtain ⟨Q, hQ⟩ : ∃ z, z = MQ below ((PI G SM ad [] ws0 (fun r u => (xso SM ad u = (f_X12_areThere (xso SM ad ws0) a1.toInt a2.toInt).1) ∧ (r.toInt = (f_X12_areThere (xso SM ad ws0) a1.toInt a2.toInt).2) ∧ (0 ≤ r.toInt) ∧ (r.toInt ≤ 1) ∧ ((r.toInt = 0 ∨ (0 ≤ a1.toInt ∧ a1.toInt ≤ 4 ∧ 0 ≤ a2.toInt ∧ a2.toInt ≤ 24))) ∧ (r.toInt = 0 ∨ Laid ws0))) A) args s 0 0 A := ⟨_, rfl⟩
  rw [← hQ]
  obtain ⟨FT, hFT⟩ : ∃ z, z = f_X12_areThere (xso SM ad ws0) a1.toInt a2.toInt := ⟨_, rfl⟩
  have HE : FT = f_X12_areThere (xso SM ad ws0) a1.toInt a2.toInt := hFT
  refine lv_aload_n C0.1 C0.2.1 dX12_areThere_0 rfl (lv_at hl 0 rfl) ?_
  refine lv_iload_n C0.1 C0.2.1 dX12_areThere_1 rfl (lv_at hl 1 rfl) ?_
  refine y_i2l C0 dX12_areThere_2 (fun w_1 e_2 => ?_)
  refine y_ci h (y_rV (As := [.long w_1]) (rest := []) C0 hZ h (c_X12_isPerson l G Z ad _ h.2 w_1 hJ) k_X12_isPerson q_1693 q_77 q_1691 kSM_0 rfl rfl rfl hl.1 rfl rfl (Nat.le_of_ble_eq_true rfl) dX12_areThere_3 ⟨Nat.le_of_ble_eq_true rfl, Nat.le_of_ble_eq_true rfl⟩ ⟨Nat.le_of_ble_eq_true rfl, Nat.le_of_ble_eq_true rfl⟩) (fun r_6 H locs ws_3 h u_4 p_5 => ?_)
  obtain ⟨e_7, e_8, e_9, e_10, e_11, e_12⟩ := p_5
  replace HE : FT = g1c_X12_areThere (xso SM ad ws_3) r_6.toInt a2.toInt := HE.trans (by rw [e_7, e_8, e_2]; rfl)
  replace HE : FT = g2b_X12_areThere (xso SM ad ws_3) r_6.toInt a2.toInt := HE.trans rfl
  refine y_if_eq (tgt := 22) C0 dX12_areThere_6 (by decide) (fun c_13 => ?_) (fun c_13 => ?_)
  · -- 6
    replace HE : FT = g3_X12_areThere (xso SM ad ws_3) := HE.trans (if_pos c_13)
    refine y_c1 (n := 0) C0 (by decide) dX12_areThere_22 (fun v_14 e_15 => ?_)
    replace HE : FT = ((xso SM ad ws_3), v_14.toInt) := HE.trans (by rw [e_15]; rfl)
    rw [hQ]
    exact y_zret C0 h (o34_20 e_15) (o34_22 e_15) u_4 ⟨(congrArg Prod.fst (HE.symm.trans hFT)), (congrArg Prod.snd (HE.symm.trans hFT)), (o34_20 e_15), (o34_22 e_15), (o34_23 e_2 e_9 e_10 e_11 c_13 e_15), (Or.inl (o34_24 e_15))⟩ dX12_areThere_23
  · -- 6
    replace HE : FT = g4_X12_areThere (xso SM ad ws_3) a2.toInt := HE.trans (if_neg c_13)
    refine lv_aload_n C0.1 C0.2.1 dX12_areThere_9 rfl (lv_at hl 0 rfl) ?_
    refine lv_iload_n C0.1 C0.2.1 dX12_areThere_10 rfl (lv_at hl 2 rfl) ?_
    refine y_i2l C0 dX12_areThere_11 (fun w_16 e_17 => ?_)
    refine y_ci h (y_rV (As := [.long w_16]) (rest := []) C0 hZ h (c_X12_isCrossing l G Z ad _ h.2 w_16) k_X12_isCrossing q_1701 q_78 q_1699 kSM_0 rfl rfl rfl hl.1 rfl rfl (Nat.le_of_ble_eq_true rfl) dX12_areThere_12 ⟨Nat.le_of_ble_eq_true rfl, Nat.le_of_ble_eq_true rfl⟩ ⟨Nat.le_of_ble_eq_true rfl, Nat.le_of_ble_eq_true rfl⟩) (fun r_21 H locs ws_18 h u_19 p_20 => ?_)
    obtain ⟨e_22, e_23, e_24, e_25, e_26, e_27⟩ := p_20
    replace HE : FT = g5c_X12_areThere (xso SM ad ws_18) r_21.toInt := HE.trans (by rw [e_22, e_23, e_17]; rfl)
    replace HE : FT = g6b_X12_areThere (xso SM ad ws_18) r_21.toInt := HE.trans rfl
    refine y_if_eq (tgt := 22) C0 dX12_areThere_15 (by decide) (fun c_28 => ?_) (fun c_28 => ?_)
    · -- 15
      replace HE : FT = g7_X12_areThere (xso SM ad ws_18) := HE.trans (if_pos c_28)
      refine y_c1 (n := 0) C0 (by decide) dX12_areThere_22 (fun v_29 e_30 => ?_)
      replace HE : FT = ((xso SM ad ws_18), v_29.toInt) := HE.trans (by rw [e_30]; rfl)
      rw [hQ]
      exact y_zret C0 h (o34_20 e_30) (o34_22 e_30) (Fr.tr u_4 u_19) ⟨(congrArg Prod.fst (HE.symm.trans hFT)), (congrArg Prod.snd (HE.symm.trans hFT)), (o34_20 e_30), (o34_22 e_30), (o34_25 e_2 e_9 e_10 e_11 c_13 e_17 e_24 e_25 e_26 c_28 e_30), (Or.inl (o34_24 e_30))⟩ dX12_areThere_23
    · -- 15
      replace HE : FT = g8_X12_areThere (xso SM ad ws_18) := HE.trans (if_neg c_28)
      refine y_c1 (n := 1) C0 (by decide) dX12_areThere_18 (fun v_31 e_32 => ?_)
      refine lv_goto (tgt := 23) C0.1 C0.2.1 dX12_areThere_19 (by decide) ?_
      replace HE : FT = ((xso SM ad ws_18), v_31.toInt) := HE.trans (by rw [e_32]; rfl)
      rw [hQ]
      exact y_zret C0 h (o34_26 e_32) (o34_27 e_32) (Fr.tr u_4 u_19) ⟨(congrArg Prod.fst (HE.symm.trans hFT)), (congrArg Prod.snd (HE.symm.trans hFT)), (o34_26 e_32), (o34_27 e_32), (o34_28 e_2 e_9 e_10 e_11 c_13 e_17 e_24 e_25 e_26 c_28 e_32), (Or.inr (Or.resolve_left e_12 (o34_29 e_2 e_9 e_10 e_11 c_13)))⟩ dX12_areThere_23
noncomputable def g4_X12_keeps (s : XS) : XR := (s, 0)
noncomputable def g6w_X12_keeps (R2 : XS → Int → XR) (s : XS) (x1_3 : Int) : XR := R2 s ((x1_3 + 1))
noncomputable def g5_X12_keeps (R2 : XS → Int → XR) (s : XS) (x1_3 : Int) : XR := g6w_X12_keeps R2 (xup s 1 6 (Int.toNat x1_3) ((s 1 1 (Int.toNat (36 + x1_3))))) x1_3
noncomputable def g3b_X12_keeps (R2 : XS → Int → XR) (s : XS) (x1_3 : Int) : XR := if x1_3 < 76 then g5_X12_keeps R2 s x1_3 else g4_X12_keeps s
noncomputable def g2l_X12_keeps (R2 : XS → Int → XR) (s : XS) (x1_3 : Int) : XR := g3b_X12_keeps R2 s x1_3
noncomputable def L1_X12_keeps (n : Nat) : XS → Int → XR := Nat.rec (motive := fun _ => XS → Int → XR) (fun s _ => (s, 0)) (fun _ R2 => g2l_X12_keeps R2) n
noncomputable def f_X12_keeps (s : XS) : XR := L1_X12_keeps (Int.toNat (76 - 0 + 1)) s 0
set_option maxHeartbeats 4000000 in
set_option maxRecDepth 100000 in
theorem c_X12_keeps (l : Launch) (G : GG) (Z : RZ) (ad : Nat → Nat) (ws0 : va_W) (hT : Ty G SM ad ws0) : Mq l yX12_keeps cX12_keeps 2 none 1 G Z [.ref (ad 0)] ws0 (PV G SM ad [6] ws0 (fun u => (xso SM ad u = (f_X12_keeps (xso SM ad ws0)).1))) := by
  refine Mq.start (by decide) (Nat.le_of_ble_eq_true rfl) ?_
  intro p e s m below meth c A ls C0 hZ h hl
  have hl : lv_has ls 2 [(0, .ref (ad 0))] := hl
  have h : Wt G SM ad A s s.heap [] ws0 := ⟨h, hT⟩
  obtain ⟨args, hargs⟩ : ∃ z, z = ([.ref (ad 0)] : List Value).toArray := ⟨_, rfl⟩
  rw [← hargs] at C0 ⊢
  have C0 : Cx p s m args meth c RX12 cX12_keeps 2 none := C0
  obtain ⟨Q, hQ⟩ : ∃ z, z = MQ below ((PV G SM ad [6] ws0 (fun u => (xso SM ad u = (f_X12_keeps (xso SM ad ws0)).1))) A) args s 0 0 A := ⟨_, rfl⟩
  rw [← hQ]
  obtain ⟨FT, hFT⟩ : ∃ z, z = f_X12_keeps (xso SM ad ws0) := ⟨_, rfl⟩
  have HE : FT = f_X12_keeps (xso SM ad ws0) := hFT
  refine y_c1 (n := 0) C0 (by decide) dX12_keeps_0 (fun v_1 e_2 => ?_)
  refine lv_istore_n (lv' := [(1, .int v_1), (0, .ref (ad 0))]) C0.1 C0.2.1 dX12_keeps_1 rfl hl (by decide) rfl (fun ls hl => ?_)
  have lp_6 : ∀ (n_8 : Nat) (x1_3 : Int32) (H : Heap) (locs : List Loc) (ls : Array Slot) (ws_4 : va_W), 76 - x1_3.toInt < (n_8 : Int) → 0 ≤ x1_3.toInt → x1_3.toInt ≤ 76 → (FT = L1_X12_keeps n_8 (xso SM ad ws_4) x1_3.toInt) → Wt G SM ad A s H locs ws_4 → Fr SM [6] ws0 ws_4 → lv_has ls 2 [(1, .int x1_3), (0, .ref (ad 0))] → W p l e (rmd 1 0 0) s m args below meth c H locs 0 0 Q (F0 m 2 ls []) := by
    intro n_8
    induction n_8 with
    | zero => intro x1_3 H locs ls ws_4 hn_9 b_10 b_11 HE h hF_5 hl; exact ((o34_30 b_10 b_11 hn_9)).elim
    | succ n_8 ih_7 =>
      intro x1_3 H locs ls ws_4 hn_9 b_10 b_11 HE h hF_5 hl
      obtain ⟨R2, hR2⟩ : ∃ z, z = L1_X12_keeps n_8 := ⟨_, rfl⟩
      replace HE : FT = g2l_X12_keeps R2 (xso SM ad ws_4) x1_3.toInt := HE.trans (by rw [hR2]; rfl)
      refine lv_iload_n C0.1 C0.2.1 dX12_keeps_2 rfl (lv_at hl 0 rfl) ?_
      refine y_c2 (n := 76) C0 (by decide) dX12_keeps_3 (fun v_12 e_13 => ?_)
      replace HE : FT = g3b_X12_keeps R2 (xso SM ad ws_4) x1_3.toInt := HE.trans rfl
      refine y_icmp_ge (tgt := 29) C0 dX12_keeps_5 (by decide) (fun c_14 => ?_) (fun c_14 => ?_)
      · -- 5
        replace HE : FT = g4_X12_keeps (xso SM ad ws_4) := HE.trans (if_neg (o34_32 b_10 b_11 hn_9 e_13 c_14))
        replace HE : FT = ((xso SM ad ws_4), 0) := HE.trans rfl
        rw [hQ]
        exact y_vret C0 h hF_5 (congrArg Prod.fst (HE.symm.trans hFT)) dX12_keeps_29
      · -- 5
        replace HE : FT = g5_X12_keeps R2 (xso SM ad ws_4) x1_3.toInt := HE.trans (if_pos (o34_33 b_10 b_11 hn_9 e_13 c_14))
        refine lv_aload_n C0.1 C0.2.1 dX12_keeps_8 rfl (lv_at hl 1 rfl) ?_
        refine ng_X12_was C0 h kSM_0 q_1454 dX12_keeps_9 ?_
        refine lv_iload_n C0.1 C0.2.1 dX12_keeps_12 rfl (lv_at hl 0 rfl) ?_
        refine lv_aload_n C0.1 C0.2.1 dX12_keeps_13 rfl (lv_at hl 1 rfl) ?_
        refine ng_X12_all C0 h kSM_0 q_1439 dX12_keeps_14 ?_
        refine y_c2 (n := 36) C0 (by decide) dX12_keeps_17 (fun v_15 e_16 => ?_)
        refine lv_iload_n C0.1 C0.2.1 dX12_keeps_19 rfl (lv_at hl 0 rfl) ?_
        refine y_add C0 (o34_34 b_10 b_11 hn_9 e_13 c_14 e_16 (le_min v_15) (le_max v_15) (le_min x1_3) (le_max x1_3) (le_min v_12) (le_max v_12)) (o34_35 b_10 b_11 hn_9 e_13 c_14 e_16 (le_min v_15) (le_max v_15) (le_min x1_3) (le_max x1_3) (le_min v_12) (le_max v_12)) dX12_keeps_20 (fun v_17 e_18 => ?_)
        refine y_iald C0 h kSM_1 rfl (by decide) (o34_36 b_10 b_11 hn_9 e_13 c_14 e_16 e_18) (o34_37 b_10 b_11 hn_9 e_13 c_14 e_16 e_18) dX12_keeps_21 (fun v_19 e_20 e_21 e_22 => ?_)
        have hO_25 := h.2
        refine y_iast C0 h kSM_6 rfl (by decide) (o34_38 b_10 b_11 hn_9 e_13 c_14 e_16 e_18) (o34_39 b_10 b_11 hn_9 e_13 c_14 e_16 e_18) (el_lo (ec_wa (o34_40 b_10 b_11 hn_9 e_13 c_14 e_16 e_18) (o34_41 b_10 b_11 hn_9 e_13 c_14 e_16 e_18)) e_21) (el_hi (ec_wa (o34_40 b_10 b_11 hn_9 e_13 c_14 e_16 e_18) (o34_41 b_10 b_11 hn_9 e_13 c_14 e_16 e_18)) e_22) dX12_keeps_22 (fun H locs ws_23 h u_24 => ?_)
        replace HE : FT = g6w_X12_keeps R2 (xso SM ad ws_23) x1_3.toInt := HE.trans (by rw [(xso_A (i := 6) hO_25 h.2 kSM_6 rfl u_24), (xg1 e_20 : v_19.toInt = (xso SM ad ws_4) 1 1 v_17.toInt.toNat), e_18, e_16]; rfl)
        refine y_inc (kp := 0) (n := 1) (fun v_26 => [(1, .int v_26), (0, .ref (ad 0))]) C0 hl rfl (by decide) (by decide) (fun _ => rfl) (o34_42 b_10 b_11 hn_9 e_13 c_14 e_16 e_18 (le_min x1_3) (le_max x1_3) (le_min v_12) (le_max v_12) (le_min v_15) (le_max v_15) (le_min v_17) (le_max v_17)) (o34_43 b_10 b_11 hn_9 e_13 c_14 e_16 e_18 (le_min x1_3) (le_max x1_3) (le_min v_12) (le_max v_12) (le_min v_15) (le_max v_15) (le_min v_17) (le_max v_17)) dX12_keeps_23 (fun v_26 ls e_27 hl => ?_)
        refine lv_goto (tgt := 2) C0.1 C0.2.1 dX12_keeps_26 (by decide) ?_
        exact ih_7 v_26 _ _ _ _ (o34_44 b_10 b_11 hn_9 e_13 c_14 e_16 e_18 e_27) (o34_45 b_10 b_11 hn_9 e_13 c_14 e_16 e_18 e_27) (o34_46 b_10 b_11 hn_9 e_13 c_14 e_16 e_18 e_27) (((show FT = R2 (xso SM ad ws_23) v_26.toInt from HE.trans (by rw [e_27]; rfl)).trans (by rw [hR2]))) h (Fr.tr hF_5 (Fr.up u_24.1 kSM_6 (by decide))) (lv_sub hl [0, 1] rfl)
  exact lp_6 ((76 - v_1.toInt + 1).toNat) v_1 _ _ _ _ (o34_47 e_2) (o34_20 e_2) (o34_48 e_2) ((show FT = L1_X12_keeps (Int.toNat (76 - v_1.toInt + 1)) (xso SM ad ws0) v_1.toInt from HE.trans (by rw [e_2]; rfl))) h Fr.rf (lv_sub hl [0, 1] rfl)
noncomputable def g4_X12_isAgain (s : XS) : XR := (s, 0)
noncomputable def g6w_X12_isAgain (R2 : XS → Int → XR) (s : XS) (x1_3 : Int) : XR := R2 s ((x1_3 + 1))
noncomputable def g5_X12_isAgain (R2 : XS → Int → XR) (s : XS) (x1_3 : Int) : XR := g6w_X12_isAgain R2 (xup s 1 1 (Int.toNat (36 + x1_3)) ((s 1 6 (Int.toNat x1_3)))) x1_3
noncomputable def g3b_X12_isAgain (R2 : XS → Int → XR) (s : XS) (x1_3 : Int) : XR := if x1_3 < 76 then g5_X12_isAgain R2 s x1_3 else g4_X12_isAgain s
noncomputable def g2l_X12_isAgain (R2 : XS → Int → XR) (s : XS) (x1_3 : Int) : XR := g3b_X12_isAgain R2 s x1_3
noncomputable def L1_X12_isAgain (n : Nat) : XS → Int → XR := Nat.rec (motive := fun _ => XS → Int → XR) (fun s _ => (s, 0)) (fun _ R2 => g2l_X12_isAgain R2) n
noncomputable def f_X12_isAgain (s : XS) : XR := L1_X12_isAgain (Int.toNat (76 - 0 + 1)) s 0
set_option maxHeartbeats 4000000 in
set_option maxRecDepth 100000 in
theorem c_X12_isAgain (l : Launch) (G : GG) (Z : RZ) (ad : Nat → Nat) (ws0 : va_W) (hT : Ty G SM ad ws0) : Mq l yX12_isAgain cX12_isAgain 2 none 1 G Z [.ref (ad 0)] ws0 (PV G SM ad [1] ws0 (fun u => (xso SM ad u = (f_X12_isAgain (xso SM ad ws0)).1) ∧ (Pa ws0 u) ∧ (Pw ws0 u))) := by
  refine Mq.start (by decide) (Nat.le_of_ble_eq_true rfl) ?_
  intro p e s m below meth c A ls C0 hZ h hl
  have hl : lv_has ls 2 [(0, .ref (ad 0))] := hl
  have h : Wt G SM ad A s s.heap [] ws0 := ⟨h, hT⟩
  obtain ⟨args, hargs⟩ : ∃ z, z = ([.ref (ad 0)] : List Value).toArray := ⟨_, rfl⟩
  rw [← hargs] at C0 ⊢
  have C0 : Cx p s m args meth c RX12 cX12_isAgain 2 none := C0
  obtain ⟨Q, hQ⟩ : ∃ z, z = MQ below ((PV G SM ad [1] ws0 (fun u => (xso SM ad u = (f_X12_isAgain (xso SM ad ws0)).1) ∧ (Pa ws0 u) ∧ (Pw ws0 u))) A) args s 0 0 A := ⟨_, rfl⟩
  rw [← hQ]
  obtain ⟨FT, hFT⟩ : ∃ z, z = f_X12_isAgain (xso SM ad ws0) := ⟨_, rfl⟩
  have HE : FT = f_X12_isAgain (xso SM ad ws0) := hFT
  refine y_c1 (n := 0) C0 (by decide) dX12_isAgain_0 (fun v_1 e_2 => ?_)
  refine lv_istore_n (lv' := [(1, .int v_1), (0, .ref (ad 0))]) C0.1 C0.2.1 dX12_isAgain_1 rfl hl (by decide) rfl (fun ls hl => ?_)
  have lp_6 : ∀ (n_8 : Nat) (x1_3 : Int32) (H : Heap) (locs : List Loc) (ls : Array Slot) (ws_4 : va_W), 76 - x1_3.toInt < (n_8 : Int) → 0 ≤ x1_3.toInt → x1_3.toInt ≤ 76 → (Pa ws0 ws_4) → (Pw ws0 ws_4) → (FT = L1_X12_isAgain n_8 (xso SM ad ws_4) x1_3.toInt) → Wt G SM ad A s H locs ws_4 → Fr SM [1] ws0 ws_4 → lv_has ls 2 [(1, .int x1_3), (0, .ref (ad 0))] → W p l e (rmd 1 0 0) s m args below meth c H locs 0 0 Q (F0 m 2 ls []) := by
    intro n_8
    induction n_8 with
    | zero => intro x1_3 H locs ls ws_4 hn_9 b_10 b_11 hPa_2 hPw_2 HE h hF_5 hl; exact ((o34_30 b_10 b_11 hn_9)).elim
    | succ n_8 ih_7 =>
      intro x1_3 H locs ls ws_4 hn_9 b_10 b_11 hPa_2 hPw_2 HE h hF_5 hl
      obtain ⟨R2, hR2⟩ : ∃ z, z = L1_X12_isAgain n_8 := ⟨_, rfl⟩
      replace HE : FT = g2l_X12_isAgain R2 (xso SM ad ws_4) x1_3.toInt := HE.trans (by rw [hR2]; rfl)
      refine lv_iload_n C0.1 C0.2.1 dX12_isAgain_2 rfl (lv_at hl 0 rfl) ?_
      refine y_c2 (n := 76) C0 (by decide) dX12_isAgain_3 (fun v_12 e_13 => ?_)
      replace HE : FT = g3b_X12_isAgain R2 (xso SM ad ws_4) x1_3.toInt := HE.trans rfl
      refine y_icmp_ge (tgt := 29) C0 dX12_isAgain_5 (by decide) (fun c_14 => ?_) (fun c_14 => ?_)
      · -- 5
        replace HE : FT = g4_X12_isAgain (xso SM ad ws_4) := HE.trans (if_neg (o34_32 b_10 b_11 hn_9 e_13 c_14))
        replace HE : FT = ((xso SM ad ws_4), 0) := HE.trans rfl
        rw [hQ]
        exact y_vret C0 h hF_5 ⟨(congrArg Prod.fst (HE.symm.trans hFT)), hPa_2, hPw_2⟩ dX12_isAgain_29
      · -- 5
        replace HE : FT = g5_X12_isAgain R2 (xso SM ad ws_4) x1_3.toInt := HE.trans (if_pos (o34_33 b_10 b_11 hn_9 e_13 c_14))
        refine lv_aload_n C0.1 C0.2.1 dX12_isAgain_8 rfl (lv_at hl 1 rfl) ?_
        refine ng_X12_all C0 h kSM_0 q_1439 dX12_isAgain_9 ?_
        refine y_c2 (n := 36) C0 (by decide) dX12_isAgain_12 (fun v_15 e_16 => ?_)
        refine lv_iload_n C0.1 C0.2.1 dX12_isAgain_14 rfl (lv_at hl 0 rfl) ?_
        refine y_add C0 (o34_34 b_10 b_11 hn_9 e_13 c_14 e_16 (le_min v_15) (le_max v_15) (le_min x1_3) (le_max x1_3) (le_min v_12) (le_max v_12)) (o34_35 b_10 b_11 hn_9 e_13 c_14 e_16 (le_min v_15) (le_max v_15) (le_min x1_3) (le_max x1_3) (le_min v_12) (le_max v_12)) dX12_isAgain_15 (fun v_17 e_18 => ?_)
        refine lv_aload_n C0.1 C0.2.1 dX12_isAgain_16 rfl (lv_at hl 1 rfl) ?_
        refine ng_X12_was C0 h kSM_0 q_1454 dX12_isAgain_17 ?_
        refine lv_iload_n C0.1 C0.2.1 dX12_isAgain_20 rfl (lv_at hl 0 rfl) ?_
        refine y_iald C0 h kSM_6 rfl (by decide) (o34_38 b_10 b_11 hn_9 e_13 c_14 e_16 e_18) (o34_39 b_10 b_11 hn_9 e_13 c_14 e_16 e_18) dX12_isAgain_21 (fun v_19 e_20 e_21 e_22 => ?_)
        have hO_25 := h.2
        refine y_iast C0 h kSM_1 rfl (by decide) (o34_36 b_10 b_11 hn_9 e_13 c_14 e_16 e_18) (o34_37 b_10 b_11 hn_9 e_13 c_14 e_16 e_18) (el_lo (Eq.symm (ec_wa (o34_40 b_10 b_11 hn_9 e_13 c_14 e_16 e_18) (o34_41 b_10 b_11 hn_9 e_13 c_14 e_16 e_18))) e_21) (el_hi (Eq.symm (ec_wa (o34_40 b_10 b_11 hn_9 e_13 c_14 e_16 e_18) (o34_41 b_10 b_11 hn_9 e_13 c_14 e_16 e_18))) e_22) dX12_isAgain_22 (fun H locs ws_23 h u_24 => ?_)
        replace HE : FT = g6w_X12_isAgain R2 (xso SM ad ws_23) x1_3.toInt := HE.trans (by rw [(xso_A (i := 1) hO_25 h.2 kSM_1 rfl u_24), (xg1 e_20 : v_19.toInt = (xso SM ad ws_4) 1 6 x1_3.toInt.toNat), e_18, e_16]; rfl)
        refine y_inc (kp := 0) (n := 1) (fun v_26 => [(1, .int v_26), (0, .ref (ad 0))]) C0 hl rfl (by decide) (by decide) (fun _ => rfl) (o34_42 b_10 b_11 hn_9 e_13 c_14 e_16 e_18 (le_min x1_3) (le_max x1_3) (le_min v_12) (le_max v_12) (le_min v_15) (le_max v_15) (le_min v_17) (le_max v_17)) (o34_43 b_10 b_11 hn_9 e_13 c_14 e_16 e_18 (le_min x1_3) (le_max x1_3) (le_min v_12) (le_max v_12) (le_min v_15) (le_max v_15) (le_min v_17) (le_max v_17)) dX12_isAgain_23 (fun v_26 ls e_27 hl => ?_)
        refine lv_goto (tgt := 2) C0.1 C0.2.1 dX12_isAgain_26 (by decide) ?_
        exact ih_7 v_26 _ _ _ _ (o34_44 b_10 b_11 hn_9 e_13 c_14 e_16 e_18 e_27) (o34_45 b_10 b_11 hn_9 e_13 c_14 e_16 e_18 e_27) (o34_46 b_10 b_11 hn_9 e_13 c_14 e_16 e_18 e_27) ((Pa.tr hPa_2 (Pa.st u_24 (o34_50 b_10 b_11 hn_9 e_13 c_14 e_16 e_18) (o34_51 b_10 b_11 hn_9 e_13 c_14 e_16 e_18)))) ((Pw.tr hPw_2 (Pw.st u_24 (o34_49 b_10 b_11 hn_9 e_13 c_14 e_16 e_18)))) (((show FT = R2 (xso SM ad ws_23) v_26.toInt from HE.trans (by rw [e_27]; rfl)).trans (by rw [hR2]))) h (Fr.tr hF_5 (Fr.up u_24.1 kSM_1 (by decide))) (lv_sub hl [0, 1] rfl)
  exact lp_6 ((76 - v_1.toInt + 1).toNat) v_1 _ _ _ _ (o34_47 e_2) (o34_20 e_2) (o34_48 e_2) Pa.rf Pw.rf ((show FT = L1_X12_isAgain (Int.toNat (76 - v_1.toInt + 1)) (xso SM ad ws0) v_1.toInt from HE.trans (by rw [e_2]; rfl))) h Fr.rf (lv_sub hl [0, 1] rfl)
noncomputable def g9w_X12_notes (s : XS) : XR := (s, 0)
noncomputable def g7_X12_notes (s : XS) : XR := g9w_X12_notes (xup s 1 1 (Int.toNat 112) (((s 1 1 (Int.toNat 112)) + 1)))
noncomputable def g10w_X12_notes (R59 : XS → Int → XR) (s : XS) (x1_14 : Int) : XR := R59 s ((x1_14 + 1))
noncomputable def g8_X12_notes (R59 : XS → Int → XR) (s : XS) (x1_14 : Int) : XR := g10w_X12_notes R59 (xup s 1 1 (Int.toNat ((113 + (76 * (s 1 1 (Int.toNat 112)))) + x1_14)) ((s 1 6 (Int.toNat x1_14)))) x1_14
noncomputable def g6b_X12_notes (R59 : XS → Int → XR) (s : XS) (x1_14 : Int) : XR := if x1_14 < 76 then g8_X12_notes R59 s x1_14 else g7_X12_notes s
noncomputable def g5l_X12_notes (R59 : XS → Int → XR) (s : XS) (x1_14 : Int) : XR := g6b_X12_notes R59 s x1_14
noncomputable def L4_X12_notes (n : Nat) : XS → Int → XR := Nat.rec (motive := fun _ => XS → Int → XR) (fun s _ => (s, 0)) (fun _ R59 => g5l_X12_notes R59) n
noncomputable def g2_X12_notes (s : XS) : XR := L4_X12_notes (Int.toNat (76 - 0 + 1)) s 0
noncomputable def g22w_X12_notes (s : XS) : XR := (s, 0)
noncomputable def g20_X12_notes (s : XS) : XR := g22w_X12_notes (xup s 1 1 (Int.toNat 112) (((s 1 1 (Int.toNat 112)) + 1)))
noncomputable def g23w_X12_notes (R59 : XS → Int → XR) (s : XS) (x1_114 : Int) : XR := R59 s ((x1_114 + 1))
noncomputable def g21_X12_notes (R59 : XS → Int → XR) (s : XS) (x1_114 : Int) : XR := g23w_X12_notes R59 (xup s 1 1 (Int.toNat ((113 + (76 * (s 1 1 (Int.toNat 112)))) + x1_114)) ((s 1 6 (Int.toNat x1_114)))) x1_114
noncomputable def g19b_X12_notes (R59 : XS → Int → XR) (s : XS) (x1_114 : Int) : XR := if x1_114 < 76 then g21_X12_notes R59 s x1_114 else g20_X12_notes s
noncomputable def g18l_X12_notes (R59 : XS → Int → XR) (s : XS) (x1_114 : Int) : XR := g19b_X12_notes R59 s x1_114
noncomputable def L17_X12_notes (n : Nat) : XS → Int → XR := Nat.rec (motive := fun _ => XS → Int → XR) (fun s _ => (s, 0)) (fun _ R59 => g18l_X12_notes R59) n
noncomputable def g16w_X12_notes (s : XS) : XR := L17_X12_notes (Int.toNat (76 - 0 + 1)) s 0
noncomputable def g14_X12_notes (s : XS) : XR := g16w_X12_notes (xup s 1 1 (Int.toNat 112) (((s 1 1 (Int.toNat 112)) - 1)))
noncomputable def g24w_X12_notes (R14 : XS → Int → XR) (s : XS) (x1_78 : Int) : XR := R14 s ((x1_78 + 1))
noncomputable def g15_X12_notes (R14 : XS → Int → XR) (s : XS) (x1_78 : Int) : XR := g24w_X12_notes R14 (xup s 1 1 (Int.toNat (113 + x1_78)) ((s 1 1 (Int.toNat (189 + x1_78))))) x1_78
noncomputable def g13b_X12_notes (R14 : XS → Int → XR) (s : XS) (x1_78 : Int) : XR := if x1_78 < 684 then g15_X12_notes R14 s x1_78 else g14_X12_notes s
noncomputable def g12l_X12_notes (R14 : XS → Int → XR) (s : XS) (x1_78 : Int) : XR := g13b_X12_notes R14 s x1_78
noncomputable def L11_X12_notes (n : Nat) : XS → Int → XR := Nat.rec (motive := fun _ => XS → Int → XR) (fun s _ => (s, 0)) (fun _ R14 => g12l_X12_notes R14) n
noncomputable def g3_X12_notes (s : XS) : XR := L11_X12_notes (Int.toNat (684 - 0 + 1)) s 0
noncomputable def g1b_X12_notes (s : XS) (v_3 : Int) : XR := if v_3 = 10 then g3_X12_notes s else g2_X12_notes s
noncomputable def f_X12_notes (s : XS) : XR := g1b_X12_notes s ((s 1 1 (Int.toNat 112)))
set_option maxHeartbeats 4000000 in
set_option maxRecDepth 100000 in
theorem c_X12_notes (l : Launch) (G : GG) (Z : RZ) (ad : Nat → Nat) (ws0 : va_W) (hT : Ty G SM ad ws0) : Mq l yX12_notes cX12_notes 2 none 1 G Z [.ref (ad 0)] ws0 (PV G SM ad [1] ws0 (fun u => (xso SM ad u = (f_X12_notes (xso SM ad ws0)).1) ∧ (Pa ws0 u) ∧ (Pw ws0 u))) := by
  refine Mq.start (by decide) (Nat.le_of_ble_eq_true rfl) ?_
  intro p e s m below meth c A ls C0 hZ h hl
  have hl : lv_has ls 2 [(0, .ref (ad 0))] := hl
  have h : Wt G SM ad A s s.heap [] ws0 := ⟨h, hT⟩
  obtain ⟨args, hargs⟩ : ∃ z, z = ([.ref (ad 0)] : List Value).toArray := ⟨_, rfl⟩
  rw [← hargs] at C0 ⊢
  have C0 : Cx p s m args meth c RX12 cX12_notes 2 none := C0
  obtain ⟨Q, hQ⟩ : ∃ z, z = MQ below ((PV G SM ad [1] ws0 (fun u => (xso SM ad u = (f_X12_notes (xso SM ad ws0)).1) ∧ (Pa ws0 u) ∧ (Pw ws0 u))) A) args s 0 0 A := ⟨_, rfl⟩
  rw [← hQ]
  obtain ⟨FT, hFT⟩ : ∃ z, z = f_X12_notes (xso SM ad ws0) := ⟨_, rfl⟩
  have HE : FT = f_X12_notes (xso SM ad ws0) := hFT
  refine lv_aload_n C0.1 C0.2.1 dX12_notes_0 rfl (lv_at hl 0 rfl) ?_
  refine ng_X12_all C0 h kSM_0 q_1439 dX12_notes_1 ?_
  refine y_c2 (n := 112) C0 (by decide) dX12_notes_4 (fun v_1 e_2 => ?_)
  refine y_iald C0 h kSM_1 rfl (by decide) (o34_52 e_2) (o34_53 e_2) dX12_notes_6 (fun v_3 e_4 e_5 e_6 => ?_)
  have f_7 := o34_54 v_1.toInt.toNat (o34_55 e_2) (o34_56 e_2)
  have e_8 : aI ws0 1 112 = v_3 := (congrArg (aI ws0 1) (ix_c (c := 112) (o34_57 e_2))).symm.trans e_4
  refine y_c2 (n := 10) C0 (by decide) dX12_notes_7 (fun v_9 e_10 => ?_)
  replace HE : FT = g1b_X12_notes (xso SM ad ws0) v_3.toInt := HE.trans (by rw [(xg1 e_4 : v_3.toInt = (xso SM ad ws0) 1 1 v_1.toInt.toNat), e_2]; rfl)
  refine y_icmp_ne (tgt := 57) C0 dX12_notes_9 (by decide) (fun c_11 => ?_) (fun c_11 => ?_)
  · -- 9
    replace HE : FT = g2_X12_notes (xso SM ad ws0) := HE.trans (if_neg (o34_59 (Int.le_trans f_7.1 e_5) (Int.le_trans e_6 f_7.2) e_10 c_11))
    refine y_c1 (n := 0) C0 (by decide) dX12_notes_57 (fun v_12 e_13 => ?_)
    refine lv_istore_n (lv' := [(1, .int v_12), (0, .ref (ad 0))]) C0.1 C0.2.1 dX12_notes_58 rfl hl (by decide) rfl (fun ls hl => ?_)
    have lp_17 : ∀ (n_19 : Nat) (x1_14 : Int32) (f_23 : Int32) (H : Heap) (locs : List Loc) (ls : Array Slot) (ws_15 : va_W), 76 - x1_14.toInt < (n_19 : Int) → 0 ≤ x1_14.toInt → x1_14.toInt ≤ 76 → 0 ≤ f_23.toInt → f_23.toInt ≤ 9 → (Pa ws0 ws_15) → (Pw ws0 ws_15) → (FT = L4_X12_notes n_19 (xso SM ad ws_15) x1_14.toInt) → aI ws_15 1 112 = f_23 → Wt G SM ad A s H locs ws_15 → Fr SM [1] ws0 ws_15 → lv_has ls 2 [(1, .int x1_14), (0, .ref (ad 0))] → W p l e (rmd 1 0 0) s m args below meth c H locs 0 0 Q (F0 m 59 ls []) := by
      intro n_19
      induction n_19 with
      | zero => intro x1_14 f_23 H locs ls ws_15 hn_20 b_21 b_22 b_25 b_26 hPa_59 hPw_59 HE e_24 h hF_16 hl; exact ((o34_30 b_21 b_22 hn_20)).elim
      | succ n_19 ih_18 =>
        intro x1_14 f_23 H locs ls ws_15 hn_20 b_21 b_22 b_25 b_26 hPa_59 hPw_59 HE e_24 h hF_16 hl
        obtain ⟨R59, hR59⟩ : ∃ z, z = L4_X12_notes n_19 := ⟨_, rfl⟩
        replace HE : FT = g5l_X12_notes R59 (xso SM ad ws_15) x1_14.toInt := HE.trans (by rw [hR59]; rfl)
        refine lv_iload_n C0.1 C0.2.1 dX12_notes_59 rfl (lv_at hl 0 rfl) ?_
        refine y_c2 (n := 76) C0 (by decide) dX12_notes_60 (fun v_27 e_28 => ?_)
        replace HE : FT = g6b_X12_notes R59 (xso SM ad ws_15) x1_14.toInt := HE.trans rfl
        refine y_icmp_ge (tgt := 97) C0 dX12_notes_62 (by decide) (fun c_29 => ?_) (fun c_29 => ?_)
        · -- 62
          replace HE : FT = g7_X12_notes (xso SM ad ws_15) := HE.trans (if_neg (o34_32 b_21 b_22 hn_20 e_28 c_29))
          refine lv_aload_n C0.1 C0.2.1 dX12_notes_97 rfl (lv_at hl 1 rfl) ?_
          refine ng_X12_all C0 h kSM_0 q_1439 dX12_notes_98 ?_
          refine y_c2 (n := 112) C0 (by decide) dX12_notes_101 (fun v_30 e_31 => ?_)
          refine lv_dup2_11 C0.1 C0.2.1 dX12_notes_103 rfl rfl ?_
          refine y_iald C0 h kSM_1 rfl (by decide) (o34_52 e_31) (o34_53 e_31) dX12_notes_104 (fun v_32 e_33 e_34 e_35 => ?_)
          have f_36 := o34_54 v_30.toInt.toNat (o34_55 e_31) (o34_56 e_31)
          have e_37 : aI ws_15 1 112 = v_32 := (congrArg (aI ws_15 1) (ix_c (c := 112) (o34_57 e_31))).symm.trans e_33
          have qh_38 : v_32.toInt = f_23.toInt := congrArg Int32.toInt (e_37.symm.trans (Eq.trans rfl e_24))
          refine y_c1 (n := 1) C0 (by decide) dX12_notes_105 (fun v_39 e_40 => ?_)
          refine y_add C0 (o34_61 b_25 b_26 (Int.le_trans f_36.1 e_34) (Int.le_trans e_35 f_36.2) qh_38 e_40 (le_min v_32) (le_max v_32) (le_min v_39) (le_max v_39) (le_min f_23) (le_max f_23)) (o34_62 b_25 b_26 (Int.le_trans f_36.1 e_34) (Int.le_trans e_35 f_36.2) qh_38 e_40 (le_min v_32) (le_max v_32) (le_min v_39) (le_max v_39) (le_min f_23) (le_max f_23)) dX12_notes_106 (fun v_41 e_42 => ?_)
          have hO_45 := h.2
          have f_46 := o34_63 v_30.toInt.toNat (o34_55 e_31) (o34_56 e_31)
          refine y_iast C0 h kSM_1 rfl (by decide) (o34_52 e_31) (o34_53 e_31) (Int.le_trans f_46.1 (o34_64 b_25 b_26 (Int.le_trans f_36.1 e_34) (Int.le_trans e_35 f_36.2) qh_38 e_40 e_42)) (Int.le_trans (o34_65 b_25 b_26 (Int.le_trans f_36.1 e_34) (Int.le_trans e_35 f_36.2) qh_38 e_40 e_42) f_46.2) dX12_notes_107 (fun H locs ws_43 h u_44 => ?_)
          have e_47 : aI ws_43 1 112 = v_41 := (congrArg (aI ws_43 1) (ix_c (c := 112) (o34_57 e_31))).symm.trans u_44.2.1
          replace HE : FT = g9w_X12_notes (xso SM ad ws_43) := HE.trans (by rw [(xso_A (i := 1) hO_45 h.2 kSM_1 rfl u_44), e_42, e_40, (xg1 e_33 : v_32.toInt = (xso SM ad ws_15) 1 1 v_30.toInt.toNat), e_31]; rfl)
          replace HE : FT = ((xso SM ad ws_43), 0) := HE.trans rfl
          rw [hQ]
          exact y_vret C0 h (Fr.tr hF_16 (Fr.up u_44.1 kSM_1 (by decide))) ⟨(congrArg Prod.fst (HE.symm.trans hFT)), (Pa.tr hPa_59 (Pa.st u_44 (o34_67 e_31) (o34_68 e_31))), (Pw.tr hPw_59 (Pw.st u_44 (o34_66 e_31)))⟩ dX12_notes_108
        · -- 62
          replace HE : FT = g8_X12_notes R59 (xso SM ad ws_15) x1_14.toInt := HE.trans (if_pos (o34_33 b_21 b_22 hn_20 e_28 c_29))
          refine lv_aload_n C0.1 C0.2.1 dX12_notes_65 rfl (lv_at hl 1 rfl) ?_
          refine ng_X12_all C0 h kSM_0 q_1439 dX12_notes_66 ?_
          refine y_c2 (n := 113) C0 (by decide) dX12_notes_69 (fun v_48 e_49 => ?_)
          refine y_c2 (n := 76) C0 (by decide) dX12_notes_71 (fun v_50 e_51 => ?_)
          refine lv_aload_n C0.1 C0.2.1 dX12_notes_73 rfl (lv_at hl 1 rfl) ?_
          refine ng_X12_all C0 h kSM_0 q_1439 dX12_notes_74 ?_
          refine y_c2 (n := 112) C0 (by decide) dX12_notes_77 (fun v_52 e_53 => ?_)
          refine y_iald C0 h kSM_1 rfl (by decide) (o34_52 e_53) (o34_53 e_53) dX12_notes_79 (fun v_54 e_55 e_56 e_57 => ?_)
          have f_58 := o34_54 v_52.toInt.toNat (o34_55 e_53) (o34_56 e_53)
          have e_59 : aI ws_15 1 112 = v_54 := (congrArg (aI ws_15 1) (ix_c (c := 112) (o34_57 e_53))).symm.trans e_55
          have qh_60 : v_54.toInt = f_23.toInt := congrArg Int32.toInt (e_59.symm.trans (Eq.trans rfl e_24))
          refine y_cmul (n := 76) C0 (o34_31 e_51) (o34_69 b_25 b_26 (Int.le_trans f_58.1 e_56) (Int.le_trans e_57 f_58.2) qh_60 (le_min v_54) (le_max v_54) (le_min f_23) (le_max f_23)) (o34_70 b_25 b_26 (Int.le_trans f_58.1 e_56) (Int.le_trans e_57 f_58.2) qh_60 (le_min v_54) (le_max v_54) (le_min f_23) (le_max f_23)) dX12_notes_80 (fun v_61 e_62 => ?_)
          refine y_add C0 (o34_71 b_25 b_26 e_49 (Int.le_trans f_58.1 e_56) (Int.le_trans e_57 f_58.2) qh_60 e_62 (le_min v_48) (le_max v_48) (le_min v_61) (le_max v_61) (le_min f_23) (le_max f_23) (le_min v_54) (le_max v_54)) (o34_72 b_25 b_26 e_49 (Int.le_trans f_58.1 e_56) (Int.le_trans e_57 f_58.2) qh_60 e_62 (le_min v_48) (le_max v_48) (le_min v_61) (le_max v_61) (le_min f_23) (le_max f_23) (le_min v_54) (le_max v_54)) dX12_notes_81 (fun v_63 e_64 => ?_)
          refine lv_iload_n C0.1 C0.2.1 dX12_notes_82 rfl (lv_at hl 0 rfl) ?_
          refine y_add C0 (o34_73 b_21 b_22 b_25 b_26 hn_20 e_28 c_29 e_49 (Int.le_trans f_58.1 e_56) (Int.le_trans e_57 f_58.2) qh_60 e_62 e_64 (le_min v_63) (le_max v_63) (le_min x1_14) (le_max x1_14) (le_min f_23) (le_max f_23) (le_min v_27) (le_max v_27) (le_min v_48) (le_max v_48) (le_min v_54) (le_max v_54) (le_min v_61) (le_max v_61)) (o34_74 b_21 b_22 b_25 b_26 hn_20 e_28 c_29 e_49 (Int.le_trans f_58.1 e_56) (Int.le_trans e_57 f_58.2) qh_60 e_62 e_64 (le_min v_63) (le_max v_63) (le_min x1_14) (le_max x1_14) (le_min f_23) (le_max f_23) (le_min v_27) (le_max v_27) (le_min v_48) (le_max v_48) (le_min v_54) (le_max v_54) (le_min v_61) (le_max v_61)) dX12_notes_83 (fun v_65 e_66 => ?_)
          refine lv_aload_n C0.1 C0.2.1 dX12_notes_84 rfl (lv_at hl 1 rfl) ?_
          refine ng_X12_was C0 h kSM_0 q_1454 dX12_notes_85 ?_
          refine lv_iload_n C0.1 C0.2.1 dX12_notes_88 rfl (lv_at hl 0 rfl) ?_
          refine y_iald C0 h kSM_6 rfl (by decide) (o34_75 b_21 b_22 b_25 b_26 hn_20 e_28 c_29 e_49 (Int.le_trans f_58.1 e_56) (Int.le_trans e_57 f_58.2) qh_60 e_62 e_64 e_66) (o34_76 b_21 b_22 b_25 b_26 hn_20 e_28 c_29 e_49 (Int.le_trans f_58.1 e_56) (Int.le_trans e_57 f_58.2) qh_60 e_62 e_64 e_66) dX12_notes_89 (fun v_67 e_68 e_69 e_70 => ?_)
          have hO_73 := h.2
          refine y_iast C0 h kSM_1 rfl (by decide) (o34_77 b_21 b_22 b_25 b_26 hn_20 e_28 c_29 e_49 (Int.le_trans f_58.1 e_56) (Int.le_trans e_57 f_58.2) qh_60 e_62 e_64 e_66) (o34_78 b_21 b_22 b_25 b_26 hn_20 e_28 c_29 e_49 (Int.le_trans f_58.1 e_56) (Int.le_trans e_57 f_58.2) qh_60 e_62 e_64 e_66) (el_lo (ec_nk (n := f_23.toInt.toNat) (o34_79 b_21 b_22 b_25 b_26 hn_20 e_28 c_29 e_49 (Int.le_trans f_58.1 e_56) (Int.le_trans e_57 f_58.2) qh_60 e_62 e_64 e_66) (o34_80 b_21 b_22 b_25 b_26 hn_20 e_28 c_29 e_49 (Int.le_trans f_58.1 e_56) (Int.le_trans e_57 f_58.2) qh_60 e_62 e_64 e_66) (o34_81 b_21 b_22 b_25 b_26 hn_20 e_28 c_29 e_49 (Int.le_trans f_58.1 e_56) (Int.le_trans e_57 f_58.2) qh_60 e_62 e_64 e_66)) e_69) (el_hi (ec_nk (n := f_23.toInt.toNat) (o34_79 b_21 b_22 b_25 b_26 hn_20 e_28 c_29 e_49 (Int.le_trans f_58.1 e_56) (Int.le_trans e_57 f_58.2) qh_60 e_62 e_64 e_66) (o34_80 b_21 b_22 b_25 b_26 hn_20 e_28 c_29 e_49 (Int.le_trans f_58.1 e_56) (Int.le_trans e_57 f_58.2) qh_60 e_62 e_64 e_66) (o34_81 b_21 b_22 b_25 b_26 hn_20 e_28 c_29 e_49 (Int.le_trans f_58.1 e_56) (Int.le_trans e_57 f_58.2) qh_60 e_62 e_64 e_66)) e_70) dX12_notes_90 (fun H locs ws_71 h u_72 => ?_)
          replace HE : FT = g10w_X12_notes R59 (xso SM ad ws_71) x1_14.toInt := HE.trans (by rw [(xso_A (i := 1) hO_73 h.2 kSM_1 rfl u_72), (xg1 e_68 : v_67.toInt = (xso SM ad ws_15) 1 6 x1_14.toInt.toNat), e_66, e_64, e_62, (xg1 e_55 : v_54.toInt = (xso SM ad ws_15) 1 1 v_52.toInt.toNat), e_53, e_49]; rfl)
          refine y_inc (kp := 0) (n := 1) (fun v_74 => [(1, .int v_74), (0, .ref (ad 0))]) C0 hl rfl (by decide) (by decide) (fun _ => rfl) (o34_85 b_21 b_22 b_25 b_26 hn_20 e_28 c_29 e_49 (Int.le_trans f_58.1 e_56) (Int.le_trans e_57 f_58.2) qh_60 e_62 e_64 e_66 (le_min x1_14) (le_max x1_14) (le_min f_23) (le_max f_23) (le_min v_27) (le_max v_27) (le_min v_48) (le_max v_48) (le_min v_54) (le_max v_54) (le_min v_61) (le_max v_61) (le_min v_63) (le_max v_63) (le_min v_65) (le_max v_65)) (o34_86 b_21 b_22 b_25 b_26 hn_20 e_28 c_29 e_49 (Int.le_trans f_58.1 e_56) (Int.le_trans e_57 f_58.2) qh_60 e_62 e_64 e_66 (le_min x1_14) (le_max x1_14) (le_min f_23) (le_max f_23) (le_min v_27) (le_max v_27) (le_min v_48) (le_max v_48) (le_min v_54) (le_max v_54) (le_min v_61) (le_max v_61) (le_min v_63) (le_max v_63) (le_min v_65) (le_max v_65)) dX12_notes_91 (fun v_74 ls e_75 hl => ?_)
          refine lv_goto (tgt := 59) C0.1 C0.2.1 dX12_notes_94 (by decide) ?_
          exact ih_18 v_74 f_23 _ _ _ _ (o34_88 b_21 b_22 b_25 b_26 hn_20 e_28 c_29 e_49 (Int.le_trans f_58.1 e_56) (Int.le_trans e_57 f_58.2) qh_60 e_62 e_64 e_66 e_75) (o34_89 b_21 b_22 b_25 b_26 hn_20 e_28 c_29 e_49 (Int.le_trans f_58.1 e_56) (Int.le_trans e_57 f_58.2) qh_60 e_62 e_64 e_66 e_75) (o34_90 b_21 b_22 b_25 b_26 hn_20 e_28 c_29 e_49 (Int.le_trans f_58.1 e_56) (Int.le_trans e_57 f_58.2) qh_60 e_62 e_64 e_66 e_75) (o34_91 b_21 b_22 b_25 b_26 hn_20 e_28 c_29 e_49 (Int.le_trans f_58.1 e_56) (Int.le_trans e_57 f_58.2) qh_60 e_62 e_64 e_66 e_75) (o34_92 b_21 b_22 b_25 b_26 hn_20 e_28 c_29 e_49 (Int.le_trans f_58.1 e_56) (Int.le_trans e_57 f_58.2) qh_60 e_62 e_64 e_66 e_75) ((Pa.tr hPa_59 (Pa.st u_72 (o34_83 b_21 b_22 b_25 b_26 hn_20 e_28 c_29 e_49 (Int.le_trans f_58.1 e_56) (Int.le_trans e_57 f_58.2) qh_60 e_62 e_64 e_66) (o34_84 b_21 b_22 b_25 b_26 hn_20 e_28 c_29 e_49 (Int.le_trans f_58.1 e_56) (Int.le_trans e_57 f_58.2) qh_60 e_62 e_64 e_66)))) ((Pw.tr hPw_59 (Pw.st u_72 (o34_82 b_21 b_22 b_25 b_26 hn_20 e_28 c_29 e_49 (Int.le_trans f_58.1 e_56) (Int.le_trans e_57 f_58.2) qh_60 e_62 e_64 e_66)))) (((show FT = R59 (xso SM ad ws_71) v_74.toInt from HE.trans (by rw [e_75]; rfl)).trans (by rw [hR59]))) (Eq.trans (u_72.2.2 112 (o34_87 b_21 b_22 b_25 b_26 hn_20 e_28 c_29 e_49 (Int.le_trans f_58.1 e_56) (Int.le_trans e_57 f_58.2) qh_60 e_62 e_64 e_66 e_75)) e_24) h (Fr.tr hF_16 (Fr.up u_72.1 kSM_1 (by decide))) (lv_sub hl [0, 1] rfl)
    exact lp_17 ((76 - v_12.toInt + 1).toNat) v_12 v_3 _ _ _ _ (o34_47 e_13) (o34_20 e_13) (o34_48 e_13) (o34_93 (Int.le_trans f_7.1 e_5) (Int.le_trans e_6 f_7.2) e_10 c_11) (o34_94 (Int.le_trans f_7.1 e_5) (Int.le_trans e_6 f_7.2) e_10 c_11) Pa.rf Pw.rf ((show FT = L4_X12_notes (Int.toNat (76 - v_12.toInt + 1)) (xso SM ad ws0) v_12.toInt from HE.trans (by rw [e_13]; rfl))) (Eq.trans rfl e_8) h Fr.rf (lv_sub hl [0, 1] rfl)
  · -- 9
    replace HE : FT = g3_X12_notes (xso SM ad ws0) := HE.trans (if_pos (o34_60 (Int.le_trans f_7.1 e_5) (Int.le_trans e_6 f_7.2) e_10 c_11))
    refine y_c1 (n := 0) C0 (by decide) dX12_notes_12 (fun v_76 e_77 => ?_)
    refine lv_istore_n (lv' := [(1, .int v_76), (0, .ref (ad 0))]) C0.1 C0.2.1 dX12_notes_13 rfl hl (by decide) rfl (fun ls hl => ?_)
    have lp_81 : ∀ (n_83 : Nat) (x1_78 : Int32) (f_87 : Int32) (H : Heap) (locs : List Loc) (ls : Array Slot) (ws_79 : va_W), 684 - x1_78.toInt < (n_83 : Int) → 0 ≤ x1_78.toInt → x1_78.toInt ≤ 684 → 10 ≤ f_87.toInt → f_87.toInt ≤ 10 → (Pa ws0 ws_79) → (Pw ws0 ws_79) → (FT = L11_X12_notes n_83 (xso SM ad ws_79) x1_78.toInt) → aI ws_79 1 112 = f_87 → Wt G SM ad A s H locs ws_79 → Fr SM [1] ws0 ws_79 → lv_has ls 2 [(1, .int x1_78), (0, .ref (ad 0))] → W p l e (rmd 1 0 0) s m args below meth c H locs 0 0 Q (F0 m 14 ls []) := by
      intro n_83
      induction n_83 with
      | zero => intro x1_78 f_87 H locs ls ws_79 hn_84 b_85 b_86 b_89 b_90 hPa_14 hPw_14 HE e_88 h hF_80 hl; exact ((o34_95 b_85 b_86 hn_84)).elim
      | succ n_83 ih_82 =>
        intro x1_78 f_87 H locs ls ws_79 hn_84 b_85 b_86 b_89 b_90 hPa_14 hPw_14 HE e_88 h hF_80 hl
        obtain ⟨R14, hR14⟩ : ∃ z, z = L11_X12_notes n_83 := ⟨_, rfl⟩
        replace HE : FT = g12l_X12_notes R14 (xso SM ad ws_79) x1_78.toInt := HE.trans (by rw [hR14]; rfl)
        refine lv_iload_n C0.1 C0.2.1 dX12_notes_14 rfl (lv_at hl 0 rfl) ?_
        refine y_c3 (n := 684) C0 (by decide) dX12_notes_15 (fun v_91 e_92 => ?_)
        replace HE : FT = g13b_X12_notes R14 (xso SM ad ws_79) x1_78.toInt := HE.trans rfl
        refine y_icmp_ge (tgt := 46) C0 dX12_notes_18 (by decide) (fun c_93 => ?_) (fun c_93 => ?_)
        · -- 18
          replace HE : FT = g14_X12_notes (xso SM ad ws_79) := HE.trans (if_neg (o34_97 b_85 b_86 hn_84 e_92 c_93))
          refine lv_aload_n C0.1 C0.2.1 dX12_notes_46 rfl (lv_at hl 1 rfl) ?_
          refine ng_X12_all C0 h kSM_0 q_1439 dX12_notes_47 ?_
          refine y_c2 (n := 112) C0 (by decide) dX12_notes_50 (fun v_94 e_95 => ?_)
          refine lv_dup2_11 C0.1 C0.2.1 dX12_notes_52 rfl rfl ?_
          refine y_iald C0 h kSM_1 rfl (by decide) (o34_52 e_95) (o34_53 e_95) dX12_notes_53 (fun v_96 e_97 e_98 e_99 => ?_)
          have f_100 := o34_54 v_94.toInt.toNat (o34_55 e_95) (o34_56 e_95)
          have e_101 : aI ws_79 1 112 = v_96 := (congrArg (aI ws_79 1) (ix_c (c := 112) (o34_57 e_95))).symm.trans e_97
          have qh_102 : v_96.toInt = f_87.toInt := congrArg Int32.toInt (e_101.symm.trans (Eq.trans rfl e_88))
          refine y_c1 (n := 1) C0 (by decide) dX12_notes_54 (fun v_103 e_104 => ?_)
          refine y_sub C0 (o34_99 b_89 b_90 (Int.le_trans f_100.1 e_98) (Int.le_trans e_99 f_100.2) qh_102 e_104 (le_min v_96) (le_max v_96) (le_min v_103) (le_max v_103) (le_min f_87) (le_max f_87)) (o34_100 b_89 b_90 (Int.le_trans f_100.1 e_98) (Int.le_trans e_99 f_100.2) qh_102 e_104 (le_min v_96) (le_max v_96) (le_min v_103) (le_max v_103) (le_min f_87) (le_max f_87)) dX12_notes_55 (fun v_105 e_106 => ?_)
          have hO_109 := h.2
          have f_110 := o34_63 v_94.toInt.toNat (o34_55 e_95) (o34_56 e_95)
          refine y_iast C0 h kSM_1 rfl (by decide) (o34_52 e_95) (o34_53 e_95) (Int.le_trans f_110.1 (o34_101 b_89 b_90 (Int.le_trans f_100.1 e_98) (Int.le_trans e_99 f_100.2) qh_102 e_104 e_106)) (Int.le_trans (o34_102 b_89 b_90 (Int.le_trans f_100.1 e_98) (Int.le_trans e_99 f_100.2) qh_102 e_104 e_106) f_110.2) dX12_notes_56 (fun H locs ws_107 h u_108 => ?_)
          have e_111 : aI ws_107 1 112 = v_105 := (congrArg (aI ws_107 1) (ix_c (c := 112) (o34_57 e_95))).symm.trans u_108.2.1
          replace HE : FT = g16w_X12_notes (xso SM ad ws_107) := HE.trans (by rw [(xso_A (i := 1) hO_109 h.2 kSM_1 rfl u_108), e_106, e_104, (xg1 e_97 : v_96.toInt = (xso SM ad ws_79) 1 1 v_94.toInt.toNat), e_95]; rfl)
          refine y_c1 (n := 0) C0 (by decide) dX12_notes_57 (fun v_112 e_113 => ?_)
          refine lv_istore_n (lv' := [(1, .int v_112), (0, .ref (ad 0))]) C0.1 C0.2.1 dX12_notes_58 rfl hl (by decide) rfl (fun ls hl => ?_)
          have lp_117 : ∀ (n_119 : Nat) (x1_114 : Int32) (f_123 : Int32) (H : Heap) (locs : List Loc) (ls : Array Slot) (ws_115 : va_W), 76 - x1_114.toInt < (n_119 : Int) → 0 ≤ x1_114.toInt → x1_114.toInt ≤ 76 → 0 ≤ f_123.toInt → f_123.toInt ≤ 9 → (Pa ws_107 ws_115) → (Pw ws_107 ws_115) → (FT = L17_X12_notes n_119 (xso SM ad ws_115) x1_114.toInt) → aI ws_115 1 112 = f_123 → Wt G SM ad A s H locs ws_115 → Fr SM [1] ws_107 ws_115 → lv_has ls 2 [(1, .int x1_114), (0, .ref (ad 0))] → W p l e (rmd 1 0 0) s m args below meth c H locs 0 0 Q (F0 m 59 ls []) := by
            intro n_119
            induction n_119 with
            | zero => intro x1_114 f_123 H locs ls ws_115 hn_120 b_121 b_122 b_125 b_126 hPa_59 hPw_59 HE e_124 h hF_116 hl; exact ((o34_30 b_121 b_122 hn_120)).elim
            | succ n_119 ih_118 =>
              intro x1_114 f_123 H locs ls ws_115 hn_120 b_121 b_122 b_125 b_126 hPa_59 hPw_59 HE e_124 h hF_116 hl
              obtain ⟨R59, hR59⟩ : ∃ z, z = L17_X12_notes n_119 := ⟨_, rfl⟩
              replace HE : FT = g18l_X12_notes R59 (xso SM ad ws_115) x1_114.toInt := HE.trans (by rw [hR59]; rfl)
              refine lv_iload_n C0.1 C0.2.1 dX12_notes_59 rfl (lv_at hl 0 rfl) ?_
              refine y_c2 (n := 76) C0 (by decide) dX12_notes_60 (fun v_127 e_128 => ?_)
              replace HE : FT = g19b_X12_notes R59 (xso SM ad ws_115) x1_114.toInt := HE.trans rfl
              refine y_icmp_ge (tgt := 97) C0 dX12_notes_62 (by decide) (fun c_129 => ?_) (fun c_129 => ?_)
              · -- 62
                replace HE : FT = g20_X12_notes (xso SM ad ws_115) := HE.trans (if_neg (o34_32 b_121 b_122 hn_120 e_128 c_129))
                refine lv_aload_n C0.1 C0.2.1 dX12_notes_97 rfl (lv_at hl 1 rfl) ?_
                refine ng_X12_all C0 h kSM_0 q_1439 dX12_notes_98 ?_
                refine y_c2 (n := 112) C0 (by decide) dX12_notes_101 (fun v_130 e_131 => ?_)
                refine lv_dup2_11 C0.1 C0.2.1 dX12_notes_103 rfl rfl ?_
                refine y_iald C0 h kSM_1 rfl (by decide) (o34_52 e_131) (o34_53 e_131) dX12_notes_104 (fun v_132 e_133 e_134 e_135 => ?_)
                have f_136 := o34_54 v_130.toInt.toNat (o34_55 e_131) (o34_56 e_131)
                have e_137 : aI ws_115 1 112 = v_132 := (congrArg (aI ws_115 1) (ix_c (c := 112) (o34_57 e_131))).symm.trans e_133
                have qh_138 : v_132.toInt = f_123.toInt := congrArg Int32.toInt (e_137.symm.trans (Eq.trans rfl e_124))
                refine y_c1 (n := 1) C0 (by decide) dX12_notes_105 (fun v_139 e_140 => ?_)
                refine y_add C0 (o34_61 b_125 b_126 (Int.le_trans f_136.1 e_134) (Int.le_trans e_135 f_136.2) qh_138 e_140 (le_min v_132) (le_max v_132) (le_min v_139) (le_max v_139) (le_min f_123) (le_max f_123)) (o34_62 b_125 b_126 (Int.le_trans f_136.1 e_134) (Int.le_trans e_135 f_136.2) qh_138 e_140 (le_min v_132) (le_max v_132) (le_min v_139) (le_max v_139) (le_min f_123) (le_max f_123)) dX12_notes_106 (fun v_141 e_142 => ?_)
                have hO_145 := h.2
                have f_146 := o34_63 v_130.toInt.toNat (o34_55 e_131) (o34_56 e_131)
                refine y_iast C0 h kSM_1 rfl (by decide) (o34_52 e_131) (o34_53 e_131) (Int.le_trans f_146.1 (o34_64 b_125 b_126 (Int.le_trans f_136.1 e_134) (Int.le_trans e_135 f_136.2) qh_138 e_140 e_142)) (Int.le_trans (o34_65 b_125 b_126 (Int.le_trans f_136.1 e_134) (Int.le_trans e_135 f_136.2) qh_138 e_140 e_142) f_146.2) dX12_notes_107 (fun H locs ws_143 h u_144 => ?_)
                have e_147 : aI ws_143 1 112 = v_141 := (congrArg (aI ws_143 1) (ix_c (c := 112) (o34_57 e_131))).symm.trans u_144.2.1
                replace HE : FT = g22w_X12_notes (xso SM ad ws_143) := HE.trans (by rw [(xso_A (i := 1) hO_145 h.2 kSM_1 rfl u_144), e_142, e_140, (xg1 e_133 : v_132.toInt = (xso SM ad ws_115) 1 1 v_130.toInt.toNat), e_131]; rfl)
                replace HE : FT = ((xso SM ad ws_143), 0) := HE.trans rfl
                rw [hQ]
                exact y_vret C0 h (Fr.tr (Fr.tr (Fr.tr hF_80 (Fr.up u_108.1 kSM_1 (by decide))) hF_116) (Fr.up u_144.1 kSM_1 (by decide))) ⟨(congrArg Prod.fst (HE.symm.trans hFT)), (Pa.tr (Pa.tr (Pa.tr hPa_14 (Pa.st u_108 (o34_67 e_95) (o34_68 e_95))) hPa_59) (Pa.st u_144 (o34_67 e_131) (o34_68 e_131))), (Pw.tr (Pw.tr (Pw.tr hPw_14 (Pw.st u_108 (o34_66 e_95))) hPw_59) (Pw.st u_144 (o34_66 e_131)))⟩ dX12_notes_108
              · -- 62
                replace HE : FT = g21_X12_notes R59 (xso SM ad ws_115) x1_114.toInt := HE.trans (if_pos (o34_33 b_121 b_122 hn_120 e_128 c_129))
                refine lv_aload_n C0.1 C0.2.1 dX12_notes_65 rfl (lv_at hl 1 rfl) ?_
                refine ng_X12_all C0 h kSM_0 q_1439 dX12_notes_66 ?_
                refine y_c2 (n := 113) C0 (by decide) dX12_notes_69 (fun v_148 e_149 => ?_)
                refine y_c2 (n := 76) C0 (by decide) dX12_notes_71 (fun v_150 e_151 => ?_)
                refine lv_aload_n C0.1 C0.2.1 dX12_notes_73 rfl (lv_at hl 1 rfl) ?_
                refine ng_X12_all C0 h kSM_0 q_1439 dX12_notes_74 ?_
                refine y_c2 (n := 112) C0 (by decide) dX12_notes_77 (fun v_152 e_153 => ?_)
                refine y_iald C0 h kSM_1 rfl (by decide) (o34_52 e_153) (o34_53 e_153) dX12_notes_79 (fun v_154 e_155 e_156 e_157 => ?_)
                have f_158 := o34_54 v_152.toInt.toNat (o34_55 e_153) (o34_56 e_153)
                have e_159 : aI ws_115 1 112 = v_154 := (congrArg (aI ws_115 1) (ix_c (c := 112) (o34_57 e_153))).symm.trans e_155
                have qh_160 : v_154.toInt = f_123.toInt := congrArg Int32.toInt (e_159.symm.trans (Eq.trans rfl e_124))
                refine y_cmul (n := 76) C0 (o34_31 e_151) (o34_69 b_125 b_126 (Int.le_trans f_158.1 e_156) (Int.le_trans e_157 f_158.2) qh_160 (le_min v_154) (le_max v_154) (le_min f_123) (le_max f_123)) (o34_70 b_125 b_126 (Int.le_trans f_158.1 e_156) (Int.le_trans e_157 f_158.2) qh_160 (le_min v_154) (le_max v_154) (le_min f_123) (le_max f_123)) dX12_notes_80 (fun v_161 e_162 => ?_)
                refine y_add C0 (o34_71 b_125 b_126 e_149 (Int.le_trans f_158.1 e_156) (Int.le_trans e_157 f_158.2) qh_160 e_162 (le_min v_148) (le_max v_148) (le_min v_161) (le_max v_161) (le_min f_123) (le_max f_123) (le_min v_154) (le_max v_154)) (o34_72 b_125 b_126 e_149 (Int.le_trans f_158.1 e_156) (Int.le_trans e_157 f_158.2) qh_160 e_162 (le_min v_148) (le_max v_148) (le_min v_161) (le_max v_161) (le_min f_123) (le_max f_123) (le_min v_154) (le_max v_154)) dX12_notes_81 (fun v_163 e_164 => ?_)
                refine lv_iload_n C0.1 C0.2.1 dX12_notes_82 rfl (lv_at hl 0 rfl) ?_
                refine y_add C0 (o34_73 b_121 b_122 b_125 b_126 hn_120 e_128 c_129 e_149 (Int.le_trans f_158.1 e_156) (Int.le_trans e_157 f_158.2) qh_160 e_162 e_164 (le_min v_163) (le_max v_163) (le_min x1_114) (le_max x1_114) (le_min f_123) (le_max f_123) (le_min v_127) (le_max v_127) (le_min v_148) (le_max v_148) (le_min v_154) (le_max v_154) (le_min v_161) (le_max v_161)) (o34_74 b_121 b_122 b_125 b_126 hn_120 e_128 c_129 e_149 (Int.le_trans f_158.1 e_156) (Int.le_trans e_157 f_158.2) qh_160 e_162 e_164 (le_min v_163) (le_max v_163) (le_min x1_114) (le_max x1_114) (le_min f_123) (le_max f_123) (le_min v_127) (le_max v_127) (le_min v_148) (le_max v_148) (le_min v_154) (le_max v_154) (le_min v_161) (le_max v_161)) dX12_notes_83 (fun v_165 e_166 => ?_)
                refine lv_aload_n C0.1 C0.2.1 dX12_notes_84 rfl (lv_at hl 1 rfl) ?_
                refine ng_X12_was C0 h kSM_0 q_1454 dX12_notes_85 ?_
                refine lv_iload_n C0.1 C0.2.1 dX12_notes_88 rfl (lv_at hl 0 rfl) ?_
                refine y_iald C0 h kSM_6 rfl (by decide) (o34_75 b_121 b_122 b_125 b_126 hn_120 e_128 c_129 e_149 (Int.le_trans f_158.1 e_156) (Int.le_trans e_157 f_158.2) qh_160 e_162 e_164 e_166) (o34_76 b_121 b_122 b_125 b_126 hn_120 e_128 c_129 e_149 (Int.le_trans f_158.1 e_156) (Int.le_trans e_157 f_158.2) qh_160 e_162 e_164 e_166) dX12_notes_89 (fun v_167 e_168 e_169 e_170 => ?_)
                have hO_173 := h.2
                refine y_iast C0 h kSM_1 rfl (by decide) (o34_77 b_121 b_122 b_125 b_126 hn_120 e_128 c_129 e_149 (Int.le_trans f_158.1 e_156) (Int.le_trans e_157 f_158.2) qh_160 e_162 e_164 e_166) (o34_78 b_121 b_122 b_125 b_126 hn_120 e_128 c_129 e_149 (Int.le_trans f_158.1 e_156) (Int.le_trans e_157 f_158.2) qh_160 e_162 e_164 e_166) (el_lo (ec_nk (n := f_123.toInt.toNat) (o34_79 b_121 b_122 b_125 b_126 hn_120 e_128 c_129 e_149 (Int.le_trans f_158.1 e_156) (Int.le_trans e_157 f_158.2) qh_160 e_162 e_164 e_166) (o34_80 b_121 b_122 b_125 b_126 hn_120 e_128 c_129 e_149 (Int.le_trans f_158.1 e_156) (Int.le_trans e_157 f_158.2) qh_160 e_162 e_164 e_166) (o34_81 b_121 b_122 b_125 b_126 hn_120 e_128 c_129 e_149 (Int.le_trans f_158.1 e_156) (Int.le_trans e_157 f_158.2) qh_160 e_162 e_164 e_166)) e_169) (el_hi (ec_nk (n := f_123.toInt.toNat) (o34_79 b_121 b_122 b_125 b_126 hn_120 e_128 c_129 e_149 (Int.le_trans f_158.1 e_156) (Int.le_trans e_157 f_158.2) qh_160 e_162 e_164 e_166) (o34_80 b_121 b_122 b_125 b_126 hn_120 e_128 c_129 e_149 (Int.le_trans f_158.1 e_156) (Int.le_trans e_157 f_158.2) qh_160 e_162 e_164 e_166) (o34_81 b_121 b_122 b_125 b_126 hn_120 e_128 c_129 e_149 (Int.le_trans f_158.1 e_156) (Int.le_trans e_157 f_158.2) qh_160 e_162 e_164 e_166)) e_170) dX12_notes_90 (fun H locs ws_171 h u_172 => ?_)
                replace HE : FT = g23w_X12_notes R59 (xso SM ad ws_171) x1_114.toInt := HE.trans (by rw [(xso_A (i := 1) hO_173 h.2 kSM_1 rfl u_172), (xg1 e_168 : v_167.toInt = (xso SM ad ws_115) 1 6 x1_114.toInt.toNat), e_166, e_164, e_162, (xg1 e_155 : v_154.toInt = (xso SM ad ws_115) 1 1 v_152.toInt.toNat), e_153, e_149]; rfl)
                refine y_inc (kp := 0) (n := 1) (fun v_174 => [(1, .int v_174), (0, .ref (ad 0))]) C0 hl rfl (by decide) (by decide) (fun _ => rfl) (o34_85 b_121 b_122 b_125 b_126 hn_120 e_128 c_129 e_149 (Int.le_trans f_158.1 e_156) (Int.le_trans e_157 f_158.2) qh_160 e_162 e_164 e_166 (le_min x1_114) (le_max x1_114) (le_min f_123) (le_max f_123) (le_min v_127) (le_max v_127) (le_min v_148) (le_max v_148) (le_min v_154) (le_max v_154) (le_min v_161) (le_max v_161) (le_min v_163) (le_max v_163) (le_min v_165) (le_max v_165)) (o34_86 b_121 b_122 b_125 b_126 hn_120 e_128 c_129 e_149 (Int.le_trans f_158.1 e_156) (Int.le_trans e_157 f_158.2) qh_160 e_162 e_164 e_166 (le_min x1_114) (le_max x1_114) (le_min f_123) (le_max f_123) (le_min v_127) (le_max v_127) (le_min v_148) (le_max v_148) (le_min v_154) (le_max v_154) (le_min v_161) (le_max v_161) (le_min v_163) (le_max v_163) (le_min v_165) (le_max v_165)) dX12_notes_91 (fun v_174 ls e_175 hl => ?_)
                refine lv_goto (tgt := 59) C0.1 C0.2.1 dX12_notes_94 (by decide) ?_
                exact ih_118 v_174 f_123 _ _ _ _ (o34_88 b_121 b_122 b_125 b_126 hn_120 e_128 c_129 e_149 (Int.le_trans f_158.1 e_156) (Int.le_trans e_157 f_158.2) qh_160 e_162 e_164 e_166 e_175) (o34_89 b_121 b_122 b_125 b_126 hn_120 e_128 c_129 e_149 (Int.le_trans f_158.1 e_156) (Int.le_trans e_157 f_158.2) qh_160 e_162 e_164 e_166 e_175) (o34_90 b_121 b_122 b_125 b_126 hn_120 e_128 c_129 e_149 (Int.le_trans f_158.1 e_156) (Int.le_trans e_157 f_158.2) qh_160 e_162 e_164 e_166 e_175) (o34_91 b_121 b_122 b_125 b_126 hn_120 e_128 c_129 e_149 (Int.le_trans f_158.1 e_156) (Int.le_trans e_157 f_158.2) qh_160 e_162 e_164 e_166 e_175) (o34_92 b_121 b_122 b_125 b_126 hn_120 e_128 c_129 e_149 (Int.le_trans f_158.1 e_156) (Int.le_trans e_157 f_158.2) qh_160 e_162 e_164 e_166 e_175) ((Pa.tr hPa_59 (Pa.st u_172 (o34_83 b_121 b_122 b_125 b_126 hn_120 e_128 c_129 e_149 (Int.le_trans f_158.1 e_156) (Int.le_trans e_157 f_158.2) qh_160 e_162 e_164 e_166) (o34_84 b_121 b_122 b_125 b_126 hn_120 e_128 c_129 e_149 (Int.le_trans f_158.1 e_156) (Int.le_trans e_157 f_158.2) qh_160 e_162 e_164 e_166)))) ((Pw.tr hPw_59 (Pw.st u_172 (o34_82 b_121 b_122 b_125 b_126 hn_120 e_128 c_129 e_149 (Int.le_trans f_158.1 e_156) (Int.le_trans e_157 f_158.2) qh_160 e_162 e_164 e_166)))) (((show FT = R59 (xso SM ad ws_171) v_174.toInt from HE.trans (by rw [e_175]; rfl)).trans (by rw [hR59]))) (Eq.trans (u_172.2.2 112 (o34_87 b_121 b_122 b_125 b_126 hn_120 e_128 c_129 e_149 (Int.le_trans f_158.1 e_156) (Int.le_trans e_157 f_158.2) qh_160 e_162 e_164 e_166 e_175)) e_124) h (Fr.tr hF_116 (Fr.up u_172.1 kSM_1 (by decide))) (lv_sub hl [0, 1] rfl)
          exact lp_117 ((76 - v_112.toInt + 1).toNat) v_112 v_105 _ _ _ _ (o34_47 e_113) (o34_20 e_113) (o34_48 e_113) (o34_101 b_89 b_90 (Int.le_trans f_100.1 e_98) (Int.le_trans e_99 f_100.2) qh_102 e_104 e_106) (o34_103 b_89 b_90 (Int.le_trans f_100.1 e_98) (Int.le_trans e_99 f_100.2) qh_102 e_104 e_106) Pa.rf Pw.rf ((show FT = L17_X12_notes (Int.toNat (76 - v_112.toInt + 1)) (xso SM ad ws_107) v_112.toInt from HE.trans (by rw [e_113]; rfl))) (Eq.trans rfl e_111) h Fr.rf (lv_sub hl [0, 1] rfl)
        · -- 18
          replace HE : FT = g15_X12_notes R14 (xso SM ad ws_79) x1_78.toInt := HE.trans (if_pos (o34_98 b_85 b_86 hn_84 e_92 c_93))
          refine lv_aload_n C0.1 C0.2.1 dX12_notes_21 rfl (lv_at hl 1 rfl) ?_
          refine ng_X12_all C0 h kSM_0 q_1439 dX12_notes_22 ?_
          refine y_c2 (n := 113) C0 (by decide) dX12_notes_25 (fun v_176 e_177 => ?_)
          refine lv_iload_n C0.1 C0.2.1 dX12_notes_27 rfl (lv_at hl 0 rfl) ?_
          refine y_add C0 (o34_104 b_85 b_86 hn_84 e_92 c_93 e_177 (le_min v_176) (le_max v_176) (le_min x1_78) (le_max x1_78) (le_min v_91) (le_max v_91)) (o34_105 b_85 b_86 hn_84 e_92 c_93 e_177 (le_min v_176) (le_max v_176) (le_min x1_78) (le_max x1_78) (le_min v_91) (le_max v_91)) dX12_notes_28 (fun v_178 e_179 => ?_)
          refine lv_aload_n C0.1 C0.2.1 dX12_notes_29 rfl (lv_at hl 1 rfl) ?_
          refine ng_X12_all C0 h kSM_0 q_1439 dX12_notes_30 ?_
          refine y_c3 (n := 189) C0 (by decide) dX12_notes_33 (fun v_180 e_181 => ?_)
          refine lv_iload_n C0.1 C0.2.1 dX12_notes_36 rfl (lv_at hl 0 rfl) ?_
          refine y_add C0 (o34_106 b_85 b_86 hn_84 e_92 c_93 e_177 e_179 e_181 (le_min v_180) (le_max v_180) (le_min x1_78) (le_max x1_78) (le_min v_91) (le_max v_91) (le_min v_176) (le_max v_176) (le_min v_178) (le_max v_178)) (o34_107 b_85 b_86 hn_84 e_92 c_93 e_177 e_179 e_181 (le_min v_180) (le_max v_180) (le_min x1_78) (le_max x1_78) (le_min v_91) (le_max v_91) (le_min v_176) (le_max v_176) (le_min v_178) (le_max v_178)) dX12_notes_37 (fun v_182 e_183 => ?_)
          refine y_iald C0 h kSM_1 rfl (by decide) (o34_108 b_85 b_86 hn_84 e_92 c_93 e_177 e_179 e_181 e_183) (o34_109 b_85 b_86 hn_84 e_92 c_93 e_177 e_179 e_181 e_183) dX12_notes_38 (fun v_184 e_185 e_186 e_187 => ?_)
          have hO_190 := h.2
          refine y_iast C0 h kSM_1 rfl (by decide) (o34_110 b_85 b_86 hn_84 e_92 c_93 e_177 e_179 e_181 e_183) (o34_111 b_85 b_86 hn_84 e_92 c_93 e_177 e_179 e_181 e_183) (el_lo (ec_sh (k := x1_78.toInt.toNat) (o34_112 b_85 b_86 hn_84 e_92 c_93 e_177 e_179 e_181 e_183) (o34_113 b_85 b_86 hn_84 e_92 c_93 e_177 e_179 e_181 e_183) (o34_114 b_85 b_86 hn_84 e_92 c_93 e_177 e_179 e_181 e_183)) e_186) (el_hi (ec_sh (k := x1_78.toInt.toNat) (o34_112 b_85 b_86 hn_84 e_92 c_93 e_177 e_179 e_181 e_183) (o34_113 b_85 b_86 hn_84 e_92 c_93 e_177 e_179 e_181 e_183) (o34_114 b_85 b_86 hn_84 e_92 c_93 e_177 e_179 e_181 e_183)) e_187) dX12_notes_39 (fun H locs ws_188 h u_189 => ?_)
          replace HE : FT = g24w_X12_notes R14 (xso SM ad ws_188) x1_78.toInt := HE.trans (by rw [(xso_A (i := 1) hO_190 h.2 kSM_1 rfl u_189), (xg1 e_185 : v_184.toInt = (xso SM ad ws_79) 1 1 v_182.toInt.toNat), e_183, e_181, e_179, e_177]; rfl)
          refine y_inc (kp := 0) (n := 1) (fun v_191 => [(1, .int v_191), (0, .ref (ad 0))]) C0 hl rfl (by decide) (by decide) (fun _ => rfl) (o34_118 b_85 b_86 hn_84 e_92 c_93 e_177 e_179 e_181 e_183 (le_min x1_78) (le_max x1_78) (le_min v_91) (le_max v_91) (le_min v_176) (le_max v_176) (le_min v_178) (le_max v_178) (le_min v_180) (le_max v_180) (le_min v_182) (le_max v_182)) (o34_119 b_85 b_86 hn_84 e_92 c_93 e_177 e_179 e_181 e_183 (le_min x1_78) (le_max x1_78) (le_min v_91) (le_max v_91) (le_min v_176) (le_max v_176) (le_min v_178) (le_max v_178) (le_min v_180) (le_max v_180) (le_min v_182) (le_max v_182)) dX12_notes_40 (fun v_191 ls e_192 hl => ?_)
          refine lv_goto (tgt := 14) C0.1 C0.2.1 dX12_notes_43 (by decide) ?_
          exact ih_82 v_191 f_87 _ _ _ _ (o34_121 b_85 b_86 hn_84 e_92 c_93 e_177 e_179 e_181 e_183 e_192) (o34_122 b_85 b_86 hn_84 e_92 c_93 e_177 e_179 e_181 e_183 e_192) (o34_123 b_85 b_86 hn_84 e_92 c_93 e_177 e_179 e_181 e_183 e_192) (o34_124 b_89 b_90) (o34_125 b_89 b_90) ((Pa.tr hPa_14 (Pa.st u_189 (o34_116 b_85 b_86 hn_84 e_92 c_93 e_177 e_179 e_181 e_183) (o34_117 b_85 b_86 hn_84 e_92 c_93 e_177 e_179 e_181 e_183)))) ((Pw.tr hPw_14 (Pw.st u_189 (o34_115 b_85 b_86 hn_84 e_92 c_93 e_177 e_179 e_181 e_183)))) (((show FT = R14 (xso SM ad ws_188) v_191.toInt from HE.trans (by rw [e_192]; rfl)).trans (by rw [hR14]))) (Eq.trans (u_189.2.2 112 (o34_120 b_85 b_86 hn_84 e_92 c_93 e_177 e_179 e_181 e_183 e_192)) e_88) h (Fr.tr hF_80 (Fr.up u_189.1 kSM_1 (by decide))) (lv_sub hl [0, 1] rfl)
    exact lp_81 ((684 - v_76.toInt + 1).toNat) v_76 v_3 _ _ _ _ (o34_126 e_77) (o34_20 e_77) (o34_127 e_77) (o34_128 (Int.le_trans f_7.1 e_5) (Int.le_trans e_6 f_7.2) e_10 c_11) (o34_129 (Int.le_trans f_7.1 e_5) (Int.le_trans e_6 f_7.2) e_10 c_11) Pa.rf Pw.rf ((show FT = L11_X12_notes (Int.toNat (684 - v_76.toInt + 1)) (xso SM ad ws0) v_76.toInt from HE.trans (by rw [e_77]; rfl))) (Eq.trans rfl e_8) h Fr.rf (lv_sub hl [0, 1] rfl)
noncomputable def g3_X12_whyNot (s : XS) : XR := (s, 1)
noncomputable def g23_X12_whyNot (s : XS) : XR := (s, 0)
noncomputable def g27_X12_whyNot (s : XS) : XR := (s, 0)
noncomputable def g28_X12_whyNot (s : XS) : XR := (s, 4)
noncomputable def g26b_X12_whyNot (s : XS) (r_125 : Int) (v_115 : Int) : XR := if v_115 < r_125 then g28_X12_whyNot s else g27_X12_whyNot s
noncomputable def g25c_X12_whyNot (s : XS) (r_125 : Int) (v_115 : Int) : XR := g26b_X12_whyNot s r_125 v_115
noncomputable def g24_X12_whyNot (s : XS) (a1 : Int) (a2 : Int) : XR := g25c_X12_whyNot ((f_X12_leftsOf s a2).1) (((f_X12_leftsOf s a2).2)) ((s 1 1 (Int.toNat (46 + a1))))
noncomputable def g22b_X12_whyNot (s : XS) (r_94 : Int) (a1 : Int) (a2 : Int) : XR := if r_94 = 0 then g24_X12_whyNot s a1 a2 else g23_X12_whyNot s
noncomputable def g21c_X12_whyNot (s : XS) (r_94 : Int) (a1 : Int) (a2 : Int) : XR := g22b_X12_whyNot s r_94 a1 a2
noncomputable def g19_X12_whyNot (s : XS) (a1 : Int) (a2 : Int) (v_34 : Int) : XR := g21c_X12_whyNot ((f_X12_isFreeIn s v_34 0).1) (((f_X12_isFreeIn s v_34 0).2)) a1 a2
noncomputable def g20_X12_whyNot (s : XS) : XR := (s, 3)
noncomputable def g18b_X12_whyNot (s : XS) (r_83 : Int) (a1 : Int) (a2 : Int) (v_34 : Int) : XR := if r_83 = 0 then g20_X12_whyNot s else g19_X12_whyNot s a1 a2 v_34
noncomputable def g17c_X12_whyNot (s : XS) (r_83 : Int) (a1 : Int) (a2 : Int) (v_34 : Int) : XR := g18b_X12_whyNot s r_83 a1 a2 v_34
noncomputable def g15_X12_whyNot (s : XS) (a1 : Int) (a2 : Int) (v_34 : Int) (r_55 : Int) : XR := g17c_X12_whyNot ((f_X12_mayTurn s v_34 0 r_55).1) (((f_X12_mayTurn s v_34 0 r_55).2)) a1 a2 v_34
noncomputable def g16_X12_whyNot (s : XS) : XR := (s, 0)
noncomputable def g14b_X12_whyNot (s : XS) (v_75 : Int) (a1 : Int) (a2 : Int) (v_34 : Int) (r_55 : Int) : XR := if v_75 < 0 then g16_X12_whyNot s else g15_X12_whyNot s a1 a2 v_34 r_55
noncomputable def g12_X12_whyNot (s : XS) (a1 : Int) (a2 : Int) (v_34 : Int) (r_55 : Int) : XR := g14b_X12_whyNot s ((Xcmp a2 2)) a1 a2 v_34 r_55
noncomputable def g13_X12_whyNot (s : XS) : XR := (s, 2)
noncomputable def g11b_X12_whyNot (s : XS) (r_64 : Int) (a1 : Int) (a2 : Int) (v_34 : Int) (r_55 : Int) : XR := if r_64 = ((-1)) then g13_X12_whyNot s else g12_X12_whyNot s a1 a2 v_34 r_55
noncomputable def g10c_X12_whyNot (s : XS) (r_64 : Int) (a1 : Int) (a2 : Int) (v_34 : Int) (r_55 : Int) : XR := g11b_X12_whyNot s r_64 a1 a2 v_34 r_55
noncomputable def g9c_X12_whyNot (s : XS) (r_55 : Int) (a1 : Int) (a2 : Int) (v_34 : Int) : XR := g10c_X12_whyNot ((f_X12_streetFrom s v_34 r_55).1) (((f_X12_streetFrom s v_34 r_55).2)) a1 a2 v_34 r_55
noncomputable def g7_X12_whyNot (s : XS) (a1 : Int) (a2 : Int) : XR := g9c_X12_whyNot ((f_X12_directionBy s (s 1 1 (Int.toNat (41 + a1))) a2).1) (((f_X12_directionBy s (s 1 1 (Int.toNat (41 + a1))) a2).2)) a1 a2 ((s 1 1 (Int.toNat (36 + a1))))
noncomputable def g8_X12_whyNot (s : XS) : XR := (s, 1)
noncomputable def g6b_X12_whyNot (s : XS) (r_21 : Int) (a1 : Int) (a2 : Int) : XR := if r_21 = 0 then g8_X12_whyNot s else g7_X12_whyNot s a1 a2
noncomputable def g5c_X12_whyNot (s : XS) (r_21 : Int) (a1 : Int) (a2 : Int) : XR := g6b_X12_whyNot s r_21 a1 a2
noncomputable def g4_X12_whyNot (s : XS) (a1 : Int) (a2 : Int) : XR := g5c_X12_whyNot ((f_X12_within s a2 0 3).1) (((f_X12_within s a2 0 3).2)) a1 a2
noncomputable def g2b_X12_whyNot (s : XS) (r_4 : Int) (a1 : Int) (a2 : Int) : XR := if r_4 = 0 then g3_X12_whyNot s else g4_X12_whyNot s a1 a2
noncomputable def g1c_X12_whyNot (s : XS) (r_4 : Int) (a1 : Int) (a2 : Int) : XR := g2b_X12_whyNot s r_4 a1 a2
noncomputable def f_X12_whyNot (s : XS) (a1 : Int) (a2 : Int) : XR := g1c_X12_whyNot ((f_X12_isPerson s a1).1) (((f_X12_isPerson s a1).2)) a1 a2
set_option maxHeartbeats 4000000 in
set_option maxRecDepth 100000 in
theorem c_X12_whyNot (l : Launch) (G : GG) (Z : RZ) (ad : Nat → Nat) (ws0 : va_W) (hT : Ty G SM ad ws0) (a1 : Int64) (a2 : Int64) (hJ : J ws0) : Mq l yX12_whyNot cX12_whyNot 7 (some .int) 4 G Z [.ref (ad 0), .long a1, .long a2] ws0 (PI G SM ad [5] ws0 (fun r u => (xso SM ad u = (f_X12_whyNot (xso SM ad ws0) a1.toInt a2.toInt).1) ∧ (r.toInt = (f_X12_whyNot (xso SM ad ws0) a1.toInt a2.toInt).2) ∧ (0 ≤ r.toInt) ∧ (r.toInt ≤ 4) ∧ ((r.toInt = 0 → 0 ≤ a1.toInt) ∧ (r.toInt = 0 → a1.toInt ≤ 4) ∧ (r.toInt = 0 → 0 ≤ a2.toInt) ∧ (r.toInt = 0 → a2.toInt ≤ 3)) ∧ (r.toInt = 0 → CanM ws0 a1.toInt.toNat a2.toInt) ∧ (r.toInt = 0 → Laid ws0))) := by
  refine Mq.start (by decide) (Nat.le_of_ble_eq_true rfl) ?_
  intro p e s m below meth c A ls C0 hZ h hl
  have hl : lv_has ls 7 [(0, .ref (ad 0)), (1, .long a1), (3, .long a2)] := hl
  have h : Wt G SM ad A s s.heap [] ws0 := ⟨h, hT⟩
  obtain ⟨args, hargs⟩ : ∃ z, z = ([.ref (ad 0), .long a1, .long a2] : List Value).toArray := ⟨_, rfl⟩
  rw [← hargs] at C0 ⊢
  have C0 : Cx p s m args meth c RX12 cX12_whyNot 7 (some .int) := C0
  obtain ⟨Q, hQ⟩ : ∃ z, z = MQ below ((PI G SM ad [5] ws0 (fun r u => (xso SM ad u = (f_X12_whyNot (xso SM ad ws0) a1.toInt a2.toInt).1) ∧ (r.toInt = (f_X12_whyNot (xso SM ad ws0) a1.toInt a2.toInt).2) ∧ (0 ≤ r.toInt) ∧ (r.toInt ≤ 4) ∧ ((r.toInt = 0 → 0 ≤ a1.toInt) ∧ (r.toInt = 0 → a1.toInt ≤ 4) ∧ (r.toInt = 0 → 0 ≤ a2.toInt) ∧ (r.toInt = 0 → a2.toInt ≤ 3)) ∧ (r.toInt = 0 → CanM ws0 a1.toInt.toNat a2.toInt) ∧ (r.toInt = 0 → Laid ws0))) A) args s 0 0 A := ⟨_, rfl⟩
  rw [← hQ]
  obtain ⟨FT, hFT⟩ : ∃ z, z = f_X12_whyNot (xso SM ad ws0) a1.toInt a2.toInt := ⟨_, rfl⟩
  have HE : FT = f_X12_whyNot (xso SM ad ws0) a1.toInt a2.toInt := hFT
  refine lv_aload_n C0.1 C0.2.1 dX12_whyNot_0 rfl (lv_at hl 0 rfl) ?_
  refine lv_lload_n C0.1 C0.2.1 dX12_whyNot_1 rfl (lv_at hl 1 rfl) ?_
  refine y_ci h (y_rV (As := [.long a1]) (rest := []) C0 hZ h (c_X12_isPerson l G Z ad _ h.2 a1 hJ) k_X12_isPerson q_1693 q_77 q_1691 kSM_0 rfl rfl rfl hl.1 rfl rfl (Nat.le_of_ble_eq_true rfl) dX12_whyNot_2 ⟨Nat.le_of_ble_eq_true rfl, Nat.le_of_ble_eq_true rfl⟩ ⟨Nat.le_of_ble_eq_true rfl, Nat.le_of_ble_eq_true rfl⟩) (fun r_4 H locs ws_1 h u_2 p_3 => ?_)
  obtain ⟨e_5, e_6, e_7, e_8, e_9, e_10⟩ := p_3
  replace HE : FT = g1c_X12_whyNot (xso SM ad ws_1) r_4.toInt a1.toInt a2.toInt := HE.trans (by rw [e_5, e_6]; rfl)
  replace HE : FT = g2b_X12_whyNot (xso SM ad ws_1) r_4.toInt a1.toInt a2.toInt := HE.trans rfl
  refine y_if_eq (tgt := 19) C0 dX12_whyNot_5 (by decide) (fun c_11 => ?_) (fun c_11 => ?_)
  · -- 5
    replace HE : FT = g3_X12_whyNot (xso SM ad ws_1) := HE.trans (if_pos c_11)
    refine y_c1 (n := 1) C0 (by decide) dX12_whyNot_19 (fun v_12 e_13 => ?_)
    replace HE : FT = ((xso SM ad ws_1), v_12.toInt) := HE.trans (by rw [e_13]; rfl)
    rw [hQ]
    exact y_iret C0 h (Fr.mono u_2 (by decide)) ⟨(congrArg Prod.fst (HE.symm.trans hFT)), (congrArg Prod.snd (HE.symm.trans hFT)), (o34_26 e_13), (o34_130 e_13), (o34_131 e_7 e_8 e_9 c_11 e_13), (fun q => ((o34_132 e_13) q).elim), (fun q => ((o34_132 e_13) q).elim)⟩ dX12_whyNot_20
  · -- 5
    replace HE : FT = g4_X12_whyNot (xso SM ad ws_1) a1.toInt a2.toInt := HE.trans (if_neg c_11)
    refine lv_lload_n C0.1 C0.2.1 dX12_whyNot_8 rfl (lv_at hl 2 rfl) ?_
    refine y_lc (v := 0) C0 (by decide) dX12_whyNot_9 (fun w_14 e_15 => ?_)
    refine y_lc2 (n := 3) C0 q_1710 (by decide) dX12_whyNot_10 (fun w_16 e_17 => ?_)
    refine y_ci h (y_rS (As := [.long a2, .long w_14, .long w_16]) (rest := []) C0 hZ h (c_X12_within l G Z ad _ h.2 a2 w_14 w_16) k_X12_within q_1580 q_1579 hl.1 rfl rfl (Nat.le_of_ble_eq_true rfl) dX12_whyNot_13 ⟨Nat.le_of_ble_eq_true rfl, Nat.le_of_ble_eq_true rfl⟩ ⟨Nat.le_of_ble_eq_true rfl, Nat.le_of_ble_eq_true rfl⟩) (fun r_21 H locs ws_18 h u_19 p_20 => ?_)
    obtain ⟨e_22, e_23, e_24, e_25, e_26⟩ := p_20
    replace HE : FT = g5c_X12_whyNot (xso SM ad ws_18) r_21.toInt a1.toInt a2.toInt := HE.trans (by rw [e_22, e_23, e_17, e_15]; rfl)
    replace HE : FT = g6b_X12_whyNot (xso SM ad ws_18) r_21.toInt a1.toInt a2.toInt := HE.trans rfl
    refine y_if_ne (tgt := 21) C0 dX12_whyNot_16 (by decide) (fun c_27 => ?_) (fun c_27 => ?_)
    · -- 16
      replace HE : FT = g7_X12_whyNot (xso SM ad ws_18) a1.toInt a2.toInt := HE.trans (if_neg c_27)
      refine lv_aload_n C0.1 C0.2.1 dX12_whyNot_21 rfl (lv_at hl 0 rfl) ?_
      refine ng_X12_all C0 h kSM_0 q_1439 dX12_whyNot_22 ?_
      refine y_c2 (n := 36) C0 (by decide) dX12_whyNot_25 (fun v_28 e_29 => ?_)
      refine lv_lload_n C0.1 C0.2.1 dX12_whyNot_27 rfl (lv_at hl 1 rfl) ?_
      refine y_l2i C0 (o34_133 e_7 e_8 e_9 c_11 (le_min r_4) (le_max r_4)) (o34_134 e_7 e_8 e_9 c_11 (le_min r_4) (le_max r_4)) dX12_whyNot_28 (fun v_30 e_31 => ?_)
      refine y_add C0 (o34_135 e_7 e_8 e_9 c_11 e_29 e_31 (le_min v_28) (le_max v_28) (le_min v_30) (le_max v_30) (le_min r_4) (le_max r_4)) (o34_136 e_7 e_8 e_9 c_11 e_29 e_31 (le_min v_28) (le_max v_28) (le_min v_30) (le_max v_30) (le_min r_4) (le_max r_4)) dX12_whyNot_29 (fun v_32 e_33 => ?_)
      refine y_iald C0 h kSM_1 rfl (by decide) (o34_137 e_7 e_8 e_9 c_11 e_29 e_31 e_33) (o34_138 e_7 e_8 e_9 c_11 e_29 e_31 e_33) dX12_whyNot_30 (fun v_34 e_35 e_36 e_37 => ?_)
      have f_38 := o34_139 v_32.toInt.toNat (o34_140 e_7 e_8 e_9 c_11 e_29 e_31 e_33) (o34_141 e_7 e_8 e_9 c_11 e_29 e_31 e_33)
      refine lv_istore (lv' := [(5, .int v_34), (0, .ref (ad 0)), (1, .long a1), (3, .long a2)]) C0.1 C0.2.1 dX12_whyNot_31 hl (by decide) rfl (fun ls hl => ?_)
      refine lv_aload_n C0.1 C0.2.1 dX12_whyNot_33 rfl (lv_at hl 1 rfl) ?_
      refine ng_X12_all C0 h kSM_0 q_1439 dX12_whyNot_34 ?_
      refine y_c2 (n := 41) C0 (by decide) dX12_whyNot_37 (fun v_39 e_40 => ?_)
      refine lv_lload_n C0.1 C0.2.1 dX12_whyNot_39 rfl (lv_at hl 2 rfl) ?_
      refine y_l2i C0 (o34_142 e_7 e_8 e_9 c_11 e_29 e_31 e_33 (le_min r_4) (le_max r_4) (le_min v_28) (le_max v_28) (le_min v_30) (le_max v_30) (le_min v_32) (le_max v_32)) (o34_143 e_7 e_8 e_9 c_11 e_29 e_31 e_33 (le_min r_4) (le_max r_4) (le_min v_28) (le_max v_28) (le_min v_30) (le_max v_30) (le_min v_32) (le_max v_32)) dX12_whyNot_40 (fun v_41 e_42 => ?_)
      refine y_add C0 (o34_144 e_7 e_8 e_9 c_11 e_29 e_31 e_33 e_40 e_42 (le_min v_39) (le_max v_39) (le_min v_41) (le_max v_41) (le_min r_4) (le_max r_4) (le_min v_28) (le_max v_28) (le_min v_30) (le_max v_30) (le_min v_32) (le_max v_32)) (o34_145 e_7 e_8 e_9 c_11 e_29 e_31 e_33 e_40 e_42 (le_min v_39) (le_max v_39) (le_min v_41) (le_max v_41) (le_min r_4) (le_max r_4) (le_min v_28) (le_max v_28) (le_min v_30) (le_max v_30) (le_min v_32) (le_max v_32)) dX12_whyNot_41 (fun v_43 e_44 => ?_)
      refine y_iald C0 h kSM_1 rfl (by decide) (o34_146 e_7 e_8 e_9 c_11 e_29 e_31 e_33 e_40 e_42 e_44) (o34_147 e_7 e_8 e_9 c_11 e_29 e_31 e_33 e_40 e_42 e_44) dX12_whyNot_42 (fun v_45 e_46 e_47 e_48 => ?_)
      have f_49 := o34_148 v_43.toInt.toNat (o34_149 e_7 e_8 e_9 c_11 e_29 e_31 e_33 e_40 e_42 e_44) (o34_150 e_7 e_8 e_9 c_11 e_29 e_31 e_33 e_40 e_42 e_44)
      refine lv_lload_n C0.1 C0.2.1 dX12_whyNot_43 rfl (lv_at hl 3 rfl) ?_
      refine y_l2i C0 (o34_151 e_15 e_17 e_24 e_25 e_26 c_27 (le_min r_21) (le_max r_21)) (o34_152 e_15 e_17 e_24 e_25 e_26 c_27 (le_min r_21) (le_max r_21)) dX12_whyNot_44 (fun v_50 e_51 => ?_)
      refine y_ci h (y_rS (As := [.int v_45, .int v_50]) (rest := []) C0 hZ h (c_X12_directionBy l G Z ad _ h.2 v_45 v_50 (o34_153 (Int.le_trans f_49.1 e_47) (Int.le_trans e_48 f_49.2)) (o34_154 (Int.le_trans f_49.1 e_47) (Int.le_trans e_48 f_49.2)) (o34_155 e_15 e_17 e_24 e_25 e_26 c_27 e_51) (o34_156 e_15 e_17 e_24 e_25 e_26 c_27 e_51)) k_X12_directionBy q_1761 q_1760 hl.1 rfl rfl (Nat.le_of_ble_eq_true rfl) dX12_whyNot_45 ⟨Nat.le_of_ble_eq_true rfl, Nat.le_of_ble_eq_true rfl⟩ ⟨Nat.le_of_ble_eq_true rfl, Nat.le_of_ble_eq_true rfl⟩) (fun r_55 H locs ws_52 h u_53 p_54 => ?_)
      obtain ⟨e_56, e_57, e_58, e_59, e_60⟩ := p_54
      replace HE : FT = g9c_X12_whyNot (xso SM ad ws_52) r_55.toInt a1.toInt a2.toInt v_34.toInt := HE.trans (by rw [e_56, (xg1 e_35 : v_34.toInt = (xso SM ad ws_18) 1 1 v_32.toInt.toNat), e_33, e_31, e_29, e_57, e_51, (xg1 e_46 : v_45.toInt = (xso SM ad ws_18) 1 1 v_43.toInt.toNat), e_44, e_42, e_40]; rfl)
      refine lv_istore (lv' := [(6, .int r_55), (5, .int v_34), (0, .ref (ad 0)), (1, .long a1), (3, .long a2)]) C0.1 C0.2.1 dX12_whyNot_48 hl (by decide) rfl (fun ls hl => ?_)
      refine lv_aload_n C0.1 C0.2.1 dX12_whyNot_50 rfl (lv_at hl 2 rfl) ?_
      refine lv_iload C0.1 C0.2.1 dX12_whyNot_51 (lv_at hl 1 rfl) ?_
      refine lv_iload C0.1 C0.2.1 dX12_whyNot_53 (lv_at hl 0 rfl) ?_
      refine y_ci h (y_rV (As := [.int v_34, .int r_55]) (rest := []) C0 hZ h (c_X12_streetFrom l G Z ad _ h.2 v_34 r_55 (o34_5 (Int.le_trans f_38.1 e_36) (Int.le_trans e_37 f_38.2)) (o34_6 (Int.le_trans f_38.1 e_36) (Int.le_trans e_37 f_38.2)) (o34_153 e_58 e_59) (o34_154 e_58 e_59) (Laid.pa (Or.resolve_left e_10 (o34_157 e_7 e_8 e_9 c_11 e_29 e_31 e_33 e_40 e_42 e_44)) (Pa.tr (Pa.tr (Pa.fr u_2 (by decide)) (Pa.fr u_19 (by decide))) (Pa.fr u_53 (by decide))))) k_X12_streetFrom q_1713 q_80 q_1711 kSM_0 rfl rfl rfl hl.1 rfl rfl (Nat.le_of_ble_eq_true rfl) dX12_whyNot_55 ⟨Nat.le_of_ble_eq_true rfl, Nat.le_of_ble_eq_true rfl⟩ ⟨Nat.le_of_ble_eq_true rfl, Nat.le_of_ble_eq_true rfl⟩) (fun r_64 H locs ws_61 h u_62 p_63 => ?_)
      obtain ⟨e_65, e_66, e_67, e_68, e_69⟩ := p_63
      replace HE : FT = g10c_X12_whyNot (xso SM ad ws_61) r_64.toInt a1.toInt a2.toInt v_34.toInt r_55.toInt := HE.trans (by rw [e_65, e_66]; rfl)
      refine y_c1 (n := (-1)) C0 (by decide) dX12_whyNot_58 (fun v_70 e_71 => ?_)
      replace HE : FT = g11b_X12_whyNot (xso SM ad ws_61) r_64.toInt a1.toInt a2.toInt v_34.toInt r_55.toInt := HE.trans rfl
      refine y_icmp_ne (tgt := 64) C0 dX12_whyNot_59 (by decide) (fun c_72 => ?_) (fun c_72 => ?_)
      · -- 59
        replace HE : FT = g12_X12_whyNot (xso SM ad ws_61) a1.toInt a2.toInt v_34.toInt r_55.toInt := HE.trans (if_neg (o34_10 e_67 e_68 e_71 c_72))
        refine lv_lload_n C0.1 C0.2.1 dX12_whyNot_64 rfl (lv_at hl 4 rfl) ?_
        refine y_lc2 (n := 2) C0 q_1763 (by decide) dX12_whyNot_65 (fun w_73 e_74 => ?_)
        refine y_lcmp C0 dX12_whyNot_68 (fun v_75 e_76 => ?_)
        replace HE : FT = g14b_X12_whyNot (xso SM ad ws_61) v_75.toInt a1.toInt a2.toInt v_34.toInt r_55.toInt := HE.trans (by rw [(ix_cmp e_76), e_74]; rfl)
        refine y_if_ge (tgt := 74) C0 dX12_whyNot_69 (by decide) (fun c_77 => ?_) (fun c_77 => ?_)
        · -- 69
          replace HE : FT = g15_X12_whyNot (xso SM ad ws_61) a1.toInt a2.toInt v_34.toInt r_55.toInt := HE.trans (if_neg (Int.not_lt.mpr c_77))
          refine lv_aload_n C0.1 C0.2.1 dX12_whyNot_74 rfl (lv_at hl 2 rfl) ?_
          refine lv_iload C0.1 C0.2.1 dX12_whyNot_75 (lv_at hl 1 rfl) ?_
          refine y_c1 (n := 0) C0 (by decide) dX12_whyNot_77 (fun v_78 e_79 => ?_)
          refine lv_iload C0.1 C0.2.1 dX12_whyNot_78 (lv_at hl 0 rfl) ?_
          refine y_ci h (y_rV (As := [.int v_34, .int v_78, .int r_55]) (rest := []) C0 hZ h (c_X12_mayTurn l G Z ad _ h.2 v_34 v_78 r_55 (o34_5 (Int.le_trans f_38.1 e_36) (Int.le_trans e_37 f_38.2)) (o34_6 (Int.le_trans f_38.1 e_36) (Int.le_trans e_37 f_38.2)) (o34_153 e_58 e_59) (o34_154 e_58 e_59) (J.pa hT hJ (Pa.tr (Pa.tr (Pa.tr (Pa.fr u_2 (by decide)) (Pa.fr u_19 (by decide))) (Pa.fr u_53 (by decide))) (Pa.fr u_62 (by decide)))) (Laid.pa (Or.resolve_left e_10 (o34_157 e_7 e_8 e_9 c_11 e_29 e_31 e_33 e_40 e_42 e_44)) (Pa.tr (Pa.tr (Pa.tr (Pa.fr u_2 (by decide)) (Pa.fr u_19 (by decide))) (Pa.fr u_53 (by decide))) (Pa.fr u_62 (by decide))))) k_X12_mayTurn q_1766 q_87 q_1764 kSM_0 rfl rfl rfl hl.1 rfl rfl (Nat.le_of_ble_eq_true rfl) dX12_whyNot_80 ⟨Nat.le_of_ble_eq_true rfl, Nat.le_of_ble_eq_true rfl⟩ ⟨Nat.le_of_ble_eq_true rfl, Nat.le_of_ble_eq_true rfl⟩) (fun r_83 H locs ws_80 h u_81 p_82 => ?_)
          obtain ⟨e_84, e_85, e_86, e_87⟩ := p_82
          replace HE : FT = g17c_X12_whyNot (xso SM ad ws_80) r_83.toInt a1.toInt a2.toInt v_34.toInt := HE.trans (by rw [e_84, e_85, e_79]; rfl)
          replace HE : FT = g18b_X12_whyNot (xso SM ad ws_80) r_83.toInt a1.toInt a2.toInt v_34.toInt := HE.trans rfl
          refine y_if_ne (tgt := 88) C0 dX12_whyNot_83 (by decide) (fun c_88 => ?_) (fun c_88 => ?_)
          · -- 83
            replace HE : FT = g19_X12_whyNot (xso SM ad ws_80) a1.toInt a2.toInt v_34.toInt := HE.trans (if_neg c_88)
            refine lv_aload_n C0.1 C0.2.1 dX12_whyNot_88 rfl (lv_at hl 2 rfl) ?_
            refine lv_iload C0.1 C0.2.1 dX12_whyNot_89 (lv_at hl 1 rfl) ?_
            refine y_c1 (n := 0) C0 (by decide) dX12_whyNot_91 (fun v_89 e_90 => ?_)
            refine y_ci h (y_rV (As := [.int v_34, .int v_89]) (rest := []) C0 hZ h (c_X12_isFreeIn l G Z ad _ h.2 v_34 v_89 (o34_5 (Int.le_trans f_38.1 e_36) (Int.le_trans e_37 f_38.2)) (o34_6 (Int.le_trans f_38.1 e_36) (Int.le_trans e_37 f_38.2))) k_X12_isFreeIn q_1741 q_84 q_1739 kSM_0 rfl rfl rfl hl.1 rfl rfl (Nat.le_of_ble_eq_true rfl) dX12_whyNot_92 ⟨Nat.le_of_ble_eq_true rfl, Nat.le_of_ble_eq_true rfl⟩ ⟨Nat.le_of_ble_eq_true rfl, Nat.le_of_ble_eq_true rfl⟩) (fun r_94 H locs ws_91 h u_92 p_93 => ?_)
            obtain ⟨e_95, e_96, e_97, e_98, e_99⟩ := p_93
            replace HE : FT = g21c_X12_whyNot (xso SM ad ws_91) r_94.toInt a1.toInt a2.toInt := HE.trans (by rw [e_95, e_96, e_90]; rfl)
            replace HE : FT = g22b_X12_whyNot (xso SM ad ws_91) r_94.toInt a1.toInt a2.toInt := HE.trans rfl
            refine y_if_ne (tgt := 120) C0 dX12_whyNot_95 (by decide) (fun c_100 => ?_) (fun c_100 => ?_)
            · -- 95
              replace HE : FT = g23_X12_whyNot (xso SM ad ws_91) := HE.trans (if_neg c_100)
              refine y_c1 (n := 0) C0 (by decide) dX12_whyNot_120 (fun v_101 e_102 => ?_)
              replace HE : FT = ((xso SM ad ws_91), v_101.toInt) := HE.trans (by rw [e_102]; rfl)
              obtain ⟨f_105, e_106⟩ : ∃ v, aI ws0 1 (46 + a1.toInt.toNat) = v := ⟨_, rfl⟩
              have b_107 := ty_aI (46 + a1.toInt.toNat) hT kSM_1 rfl (by omega)
              rw [e_106] at b_107
              have f_108 := o34_159 (46 + a1.toInt.toNat) (by omega) (by omega)
              rw [hQ]
              exact y_iret C0 h (Fr.tr (Fr.tr (Fr.tr (Fr.tr (Fr.tr (Fr.mono u_2 (by decide)) (Fr.mono u_19 (by decide))) (Fr.mono u_53 (by decide))) (Fr.mono u_62 (by decide))) u_81) (Fr.mono u_92 (by decide))) ⟨(congrArg Prod.fst (HE.symm.trans hFT)), (congrArg Prod.snd (HE.symm.trans hFT)), (o34_20 e_102), (o34_21 e_102), (o34_158 e_7 e_8 e_9 c_11 e_15 e_17 e_24 e_25 e_26 c_27 e_29 e_31 e_33 e_40 e_42 e_44 e_51 e_74 e_76 c_77 e_102), (fun _ => canM_of (z := v_89) (o34_161 e_7 e_8 e_9 c_11 e_29 e_31 e_33 e_40 e_42 e_44) (o34_162 e_7 e_8 e_9 c_11 e_29 e_31 e_33 e_40 e_42 e_44) rfl (Eq.trans (Eq.symm (Eq.trans (Fr.aI u_19 kSM_1 (by decide)) (Fr.aI u_2 kSM_1 (by decide)))) e_35) (Eq.trans (Eq.symm (Eq.trans (Fr.aI u_19 kSM_1 (by decide)) (Fr.aI u_2 kSM_1 (by decide)))) e_46) e_106 (o34_163 e_15 e_17 e_24 e_25 e_26 c_27 e_51 e_74 e_76 c_77) e_90 e_60 (SF.pw (o34_6 (Int.le_trans f_38.1 e_36) (Int.le_trans e_37 f_38.2)) (Pw.sy (Pw.tr (Pw.tr (Pw.fr u_2 (by decide)) (Pw.fr u_19 (by decide))) (Pw.fr u_53 (by decide)))) e_69) (o34_164 e_67 e_68 e_71 c_72) (Or.inl (Or.elim e_99 (fun q => fb_fr (M := [5]) (Fr.tr (Fr.tr (Fr.tr (Fr.tr (Fr.mono u_2 (by decide)) (Fr.mono u_19 (by decide))) (Fr.mono u_53 (by decide))) (Fr.mono u_62 (by decide))) u_81) (by decide) q.2) (fun q => ((o34_160 e_97 e_98 c_100 q.1)).elim)))), (fun _ => Or.resolve_left e_10 (o34_157 e_7 e_8 e_9 c_11 e_29 e_31 e_33 e_40 e_42 e_44))⟩ dX12_whyNot_121
            · -- 95
              replace HE : FT = g24_X12_whyNot (xso SM ad ws_91) a1.toInt a2.toInt := HE.trans (if_pos c_100)
              refine lv_aload_n C0.1 C0.2.1 dX12_whyNot_98 rfl (lv_at hl 2 rfl) ?_
              refine ng_X12_all C0 h kSM_0 q_1439 dX12_whyNot_99 ?_
              refine y_c2 (n := 46) C0 (by decide) dX12_whyNot_102 (fun v_109 e_110 => ?_)
              refine lv_lload_n C0.1 C0.2.1 dX12_whyNot_104 rfl (lv_at hl 3 rfl) ?_
              refine y_l2i C0 (o34_165 e_7 e_8 e_9 c_11 e_29 e_31 e_33 e_40 e_42 e_44 (le_min r_4) (le_max r_4) (le_min v_28) (le_max v_28) (le_min v_30) (le_max v_30) (le_min v_32) (le_max v_32) (le_min v_39) (le_max v_39) (le_min v_41) (le_max v_41) (le_min v_43) (le_max v_43)) (o34_166 e_7 e_8 e_9 c_11 e_29 e_31 e_33 e_40 e_42 e_44 (le_min r_4) (le_max r_4) (le_min v_28) (le_max v_28) (le_min v_30) (le_max v_30) (le_min v_32) (le_max v_32) (le_min v_39) (le_max v_39) (le_min v_41) (le_max v_41) (le_min v_43) (le_max v_43)) dX12_whyNot_105 (fun v_111 e_112 => ?_)
              refine y_add C0 (o34_167 e_7 e_8 e_9 c_11 e_29 e_31 e_33 e_40 e_42 e_44 e_110 e_112 (le_min v_109) (le_max v_109) (le_min v_111) (le_max v_111) (le_min r_4) (le_max r_4) (le_min v_28) (le_max v_28) (le_min v_30) (le_max v_30) (le_min v_32) (le_max v_32) (le_min v_39) (le_max v_39) (le_min v_41) (le_max v_41) (le_min v_43) (le_max v_43)) (o34_168 e_7 e_8 e_9 c_11 e_29 e_31 e_33 e_40 e_42 e_44 e_110 e_112 (le_min v_109) (le_max v_109) (le_min v_111) (le_max v_111) (le_min r_4) (le_max r_4) (le_min v_28) (le_max v_28) (le_min v_30) (le_max v_30) (le_min v_32) (le_max v_32) (le_min v_39) (le_max v_39) (le_min v_41) (le_max v_41) (le_min v_43) (le_max v_43)) dX12_whyNot_106 (fun v_113 e_114 => ?_)
              refine y_iald C0 h kSM_1 rfl (by decide) (o34_169 e_7 e_8 e_9 c_11 e_29 e_31 e_33 e_40 e_42 e_44 e_110 e_112 e_114) (o34_170 e_7 e_8 e_9 c_11 e_29 e_31 e_33 e_40 e_42 e_44 e_110 e_112 e_114) dX12_whyNot_107 (fun v_115 e_116 e_117 e_118 => ?_)
              have f_119 := o34_159 v_113.toInt.toNat (o34_171 e_7 e_8 e_9 c_11 e_29 e_31 e_33 e_40 e_42 e_44 e_110 e_112 e_114) (o34_172 e_7 e_8 e_9 c_11 e_29 e_31 e_33 e_40 e_42 e_44 e_110 e_112 e_114)
              refine lv_lload_n C0.1 C0.2.1 dX12_whyNot_108 rfl (lv_at hl 4 rfl) ?_
              refine y_l2i C0 (o34_173 e_15 e_17 e_24 e_25 e_26 c_27 e_51 e_74 e_76 c_77 (le_min r_21) (le_max r_21) (le_min v_50) (le_max v_50) (le_min v_75) (le_max v_75)) (o34_174 e_15 e_17 e_24 e_25 e_26 c_27 e_51 e_74 e_76 c_77 (le_min r_21) (le_max r_21) (le_min v_50) (le_max v_50) (le_min v_75) (le_max v_75)) dX12_whyNot_109 (fun v_120 e_121 => ?_)
              refine y_ci h (y_rS (As := [.int v_120]) (rest := [.int v_115]) C0 hZ h (c_X12_leftsOf l G Z ad _ h.2 v_120 (o34_175 e_15 e_17 e_24 e_25 e_26 c_27 e_51 e_74 e_76 c_77 e_121) (o34_176 e_15 e_17 e_24 e_25 e_26 c_27 e_51 e_74 e_76 c_77 e_121)) k_X12_leftsOf q_1769 q_1768 hl.1 rfl rfl (Nat.le_of_ble_eq_true rfl) dX12_whyNot_110 ⟨Nat.le_of_ble_eq_true rfl, Nat.le_of_ble_eq_true rfl⟩ ⟨Nat.le_of_ble_eq_true rfl, Nat.le_of_ble_eq_true rfl⟩) (fun r_125 H locs ws_122 h u_123 p_124 => ?_)
              obtain ⟨e_126, e_127, e_128, e_129, e_130⟩ := p_124
              replace HE : FT = g25c_X12_whyNot (xso SM ad ws_122) r_125.toInt v_115.toInt := HE.trans (by rw [e_126, (xg1 e_116 : v_115.toInt = (xso SM ad ws_91) 1 1 v_113.toInt.toNat), e_114, e_112, e_110, e_127, e_121]; rfl)
              replace HE : FT = g26b_X12_whyNot (xso SM ad ws_122) r_125.toInt v_115.toInt := HE.trans rfl
              refine y_icmp_ge (tgt := 120) C0 dX12_whyNot_113 (by decide) (fun c_131 => ?_) (fun c_131 => ?_)
              · -- 113
                replace HE : FT = g27_X12_whyNot (xso SM ad ws_122) := HE.trans (if_neg (Int.not_lt.mpr c_131))
                refine y_c1 (n := 0) C0 (by decide) dX12_whyNot_120 (fun v_132 e_133 => ?_)
                replace HE : FT = ((xso SM ad ws_122), v_132.toInt) := HE.trans (by rw [e_133]; rfl)
                rw [hQ]
                exact y_iret C0 h (Fr.tr (Fr.tr (Fr.tr (Fr.tr (Fr.tr (Fr.tr (Fr.mono u_2 (by decide)) (Fr.mono u_19 (by decide))) (Fr.mono u_53 (by decide))) (Fr.mono u_62 (by decide))) u_81) (Fr.mono u_92 (by decide))) (Fr.mono u_123 (by decide))) ⟨(congrArg Prod.fst (HE.symm.trans hFT)), (congrArg Prod.snd (HE.symm.trans hFT)), (o34_20 e_133), (o34_21 e_133), (o34_177 e_7 e_8 e_9 c_11 e_15 e_17 e_24 e_25 e_26 c_27 e_29 e_31 e_33 e_40 e_42 e_44 e_51 e_74 e_76 c_77 e_110 e_112 e_114 (Int.le_trans f_119.1 e_117) (Int.le_trans e_118 f_119.2) e_121 e_128 e_129 e_130 c_131 e_133), (fun _ => canM_of (z := v_89) (o34_179 e_7 e_8 e_9 c_11 e_29 e_31 e_33 e_40 e_42 e_44 e_110 e_112 e_114) (o34_180 e_7 e_8 e_9 c_11 e_29 e_31 e_33 e_40 e_42 e_44 e_110 e_112 e_114) (o34_178 e_7 e_8 e_9 c_11 e_29 e_31 e_33 e_40 e_42 e_44 e_110 e_112 e_114) (Eq.trans (Eq.symm (Eq.trans (Fr.aI u_19 kSM_1 (by decide)) (Fr.aI u_2 kSM_1 (by decide)))) e_35) (Eq.trans (Eq.symm (Eq.trans (Fr.aI u_19 kSM_1 (by decide)) (Fr.aI u_2 kSM_1 (by decide)))) e_46) (Eq.trans (Eq.symm (Eq.trans (Fr.aI u_92 kSM_1 (by decide)) (Eq.trans (Fr.aI u_81 kSM_1 (by decide)) (Eq.trans (Fr.aI u_62 kSM_1 (by decide)) (Eq.trans (Fr.aI u_53 kSM_1 (by decide)) (Eq.trans (Fr.aI u_19 kSM_1 (by decide)) (Fr.aI u_2 kSM_1 (by decide)))))))) e_116) (o34_181 e_15 e_17 e_24 e_25 e_26 c_27 e_51 e_74 e_76 c_77 (Int.le_trans f_119.1 e_117) (Int.le_trans e_118 f_119.2) e_121 e_128 e_129 e_130 c_131) e_90 e_60 (SF.pw (o34_6 (Int.le_trans f_38.1 e_36) (Int.le_trans e_37 f_38.2)) (Pw.sy (Pw.tr (Pw.tr (Pw.fr u_2 (by decide)) (Pw.fr u_19 (by decide))) (Pw.fr u_53 (by decide)))) e_69) (o34_164 e_67 e_68 e_71 c_72) (Or.inr (by unfold lefI; split <;> omega))), (fun _ => Or.resolve_left e_10 (o34_182 e_7 e_8 e_9 c_11 e_29 e_31 e_33 e_40 e_42 e_44 e_110 e_112 e_114))⟩ dX12_whyNot_121
              · -- 113
                replace HE : FT = g28_X12_whyNot (xso SM ad ws_122) := HE.trans (if_pos c_131)
                refine y_c1 (n := 4) C0 (by decide) dX12_whyNot_116 (fun v_134 e_135 => ?_)
                refine lv_goto (tgt := 121) C0.1 C0.2.1 dX12_whyNot_117 (by decide) ?_
                replace HE : FT = ((xso SM ad ws_122), v_134.toInt) := HE.trans (by rw [e_135]; rfl)
                rw [hQ]
                exact y_iret C0 h (Fr.tr (Fr.tr (Fr.tr (Fr.tr (Fr.tr (Fr.tr (Fr.mono u_2 (by decide)) (Fr.mono u_19 (by decide))) (Fr.mono u_53 (by decide))) (Fr.mono u_62 (by decide))) u_81) (Fr.mono u_92 (by decide))) (Fr.mono u_123 (by decide))) ⟨(congrArg Prod.fst (HE.symm.trans hFT)), (congrArg Prod.snd (HE.symm.trans hFT)), (o34_183 e_135), (o34_184 e_135), (o34_185 e_7 e_8 e_9 c_11 e_15 e_17 e_24 e_25 e_26 c_27 e_29 e_31 e_33 e_40 e_42 e_44 e_51 e_74 e_76 c_77 e_110 e_112 e_114 (Int.le_trans f_119.1 e_117) (Int.le_trans e_118 f_119.2) e_121 e_128 e_129 e_130 c_131 e_135), (fun q => ((o34_186 e_135) q).elim), (fun q => ((o34_186 e_135) q).elim)⟩ dX12_whyNot_121
          · -- 83
            replace HE : FT = g20_X12_whyNot (xso SM ad ws_80) := HE.trans (if_pos c_88)
            refine y_c1 (n := 3) C0 (by decide) dX12_whyNot_86 (fun v_136 e_137 => ?_)
            replace HE : FT = ((xso SM ad ws_80), v_136.toInt) := HE.trans (by rw [e_137]; rfl)
            rw [hQ]
            exact y_iret C0 h (Fr.tr (Fr.tr (Fr.tr (Fr.tr (Fr.mono u_2 (by decide)) (Fr.mono u_19 (by decide))) (Fr.mono u_53 (by decide))) (Fr.mono u_62 (by decide))) u_81) ⟨(congrArg Prod.fst (HE.symm.trans hFT)), (congrArg Prod.snd (HE.symm.trans hFT)), (o34_187 e_137), (o34_188 e_137), (o34_189 e_7 e_8 e_9 c_11 e_15 e_17 e_24 e_25 e_26 c_27 e_29 e_31 e_33 e_40 e_42 e_44 e_51 e_74 e_76 c_77 e_137), (fun q => ((o34_190 e_137) q).elim), (fun q => ((o34_190 e_137) q).elim)⟩ dX12_whyNot_87
        · -- 69
          replace HE : FT = g16_X12_whyNot (xso SM ad ws_61) := HE.trans (if_pos c_77)
          refine y_c1 (n := 0) C0 (by decide) dX12_whyNot_72 (fun v_138 e_139 => ?_)
          replace HE : FT = ((xso SM ad ws_61), v_138.toInt) := HE.trans (by rw [e_139]; rfl)
          obtain ⟨f_142, e_143⟩ : ∃ v, aI ws0 1 (46 + a1.toInt.toNat) = v := ⟨_, rfl⟩
          have b_144 := ty_aI (46 + a1.toInt.toNat) hT kSM_1 rfl (by omega)
          rw [e_143] at b_144
          have f_145 := o34_159 (46 + a1.toInt.toNat) (by omega) (by omega)
          obtain ⟨v_146, ev_146⟩ : ∃ v : Int32, v.toInt = 0 := ⟨0, by decide⟩
          rw [hQ]
          exact y_iret C0 h (Fr.tr (Fr.tr (Fr.tr (Fr.mono u_2 (by decide)) (Fr.mono u_19 (by decide))) (Fr.mono u_53 (by decide))) (Fr.mono u_62 (by decide))) ⟨(congrArg Prod.fst (HE.symm.trans hFT)), (congrArg Prod.snd (HE.symm.trans hFT)), (o34_20 e_139), (o34_21 e_139), (o34_191 e_7 e_8 e_9 c_11 e_15 e_17 e_24 e_25 e_26 c_27 e_29 e_31 e_33 e_40 e_42 e_44 e_51 e_74 e_76 c_77 e_139), (fun _ => canM_of (z := v_146) (o34_161 e_7 e_8 e_9 c_11 e_29 e_31 e_33 e_40 e_42 e_44) (o34_162 e_7 e_8 e_9 c_11 e_29 e_31 e_33 e_40 e_42 e_44) rfl (Eq.trans (Eq.symm (Eq.trans (Fr.aI u_19 kSM_1 (by decide)) (Fr.aI u_2 kSM_1 (by decide)))) e_35) (Eq.trans (Eq.symm (Eq.trans (Fr.aI u_19 kSM_1 (by decide)) (Fr.aI u_2 kSM_1 (by decide)))) e_46) e_143 (o34_192 e_15 e_17 e_24 e_25 e_26 c_27 e_51 e_74 e_76 c_77) ev_146 e_60 (SF.pw (o34_6 (Int.le_trans f_38.1 e_36) (Int.le_trans e_37 f_38.2)) (Pw.sy (Pw.tr (Pw.tr (Pw.fr u_2 (by decide)) (Pw.fr u_19 (by decide))) (Pw.fr u_53 (by decide)))) e_69) (o34_164 e_67 e_68 e_71 c_72) (Or.inr (by unfold lefI; split <;> omega))), (fun _ => Or.resolve_left e_10 (o34_157 e_7 e_8 e_9 c_11 e_29 e_31 e_33 e_40 e_42 e_44))⟩ dX12_whyNot_73
      · -- 59
        replace HE : FT = g13_X12_whyNot (xso SM ad ws_61) := HE.trans (if_pos (o34_11 e_67 e_68 e_71 c_72))
        refine y_c1 (n := 2) C0 (by decide) dX12_whyNot_62 (fun v_147 e_148 => ?_)
        replace HE : FT = ((xso SM ad ws_61), v_147.toInt) := HE.trans (by rw [e_148]; rfl)
        rw [hQ]
        exact y_iret C0 h (Fr.tr (Fr.tr (Fr.tr (Fr.mono u_2 (by decide)) (Fr.mono u_19 (by decide))) (Fr.mono u_53 (by decide))) (Fr.mono u_62 (by decide))) ⟨(congrArg Prod.fst (HE.symm.trans hFT)), (congrArg Prod.snd (HE.symm.trans hFT)), (o34_193 e_148), (o34_194 e_148), (o34_195 e_7 e_8 e_9 c_11 e_15 e_17 e_24 e_25 e_26 c_27 e_29 e_31 e_33 e_40 e_42 e_44 e_51 e_148), (fun q => ((o34_196 e_148) q).elim), (fun q => ((o34_196 e_148) q).elim)⟩ dX12_whyNot_63
    · -- 16
      replace HE : FT = g8_X12_whyNot (xso SM ad ws_18) := HE.trans (if_pos c_27)
      refine y_c1 (n := 1) C0 (by decide) dX12_whyNot_19 (fun v_149 e_150 => ?_)
      replace HE : FT = ((xso SM ad ws_18), v_149.toInt) := HE.trans (by rw [e_150]; rfl)
      rw [hQ]
      exact y_iret C0 h (Fr.tr (Fr.mono u_2 (by decide)) (Fr.mono u_19 (by decide))) ⟨(congrArg Prod.fst (HE.symm.trans hFT)), (congrArg Prod.snd (HE.symm.trans hFT)), (o34_26 e_150), (o34_130 e_150), (o34_197 e_7 e_8 e_9 c_11 e_15 e_17 e_24 e_25 e_26 c_27 e_150), (fun q => ((o34_132 e_150) q).elim), (fun q => ((o34_132 e_150) q).elim)⟩ dX12_whyNot_20
noncomputable def g13w_X12_goes (s : XS) (r_25 : Int) : XR := (s, r_25)
noncomputable def g12w_X12_goes (s : XS) (r_25 : Int) : XR := g13w_X12_goes (xup s 1 1 (Int.toNat 111) ((Xiadd (s 1 1 (Int.toNat 111)) 1))) r_25
noncomputable def g11c_X12_goes (s : XS) (r_121 : Int) (v_104 : Int) (r_25 : Int) : XR := g12w_X12_goes (xup s 1 1 (Int.toNat v_104) (r_121)) r_25
noncomputable def g10w_X12_goes (s : XS) (a1 : Int) (r_25 : Int) : XR := g11c_X12_goes ((f_X12_lesser s 999 (Xiadd (s 1 1 (Int.toNat (56 + a1))) r_25)).1) (((f_X12_lesser s 999 (Xiadd (s 1 1 (Int.toNat (56 + a1))) r_25)).2)) ((56 + a1)) r_25
noncomputable def g9w_X12_goes (s : XS) (a1 : Int) (r_25 : Int) : XR := g10w_X12_goes (xup s 1 1 (Int.toNat (46 + a1)) (((s 1 1 (Int.toNat (46 + a1))) - r_25))) a1 r_25
noncomputable def g8c_X12_goes (s : XS) (r_74 : Int) (v_59 : Int) (a1 : Int) (r_25 : Int) : XR := g9w_X12_goes (xup s 1 1 (Int.toNat v_59) (r_74)) a1 r_25
noncomputable def g7w_X12_goes (s : XS) (a1 : Int) (v_5 : Int) (r_25 : Int) : XR := g8c_X12_goes ((f_X12_streetFrom s v_5 (s 1 1 (Int.toNat (41 + a1)))).1) (((f_X12_streetFrom s v_5 (s 1 1 (Int.toNat (41 + a1)))).2)) ((36 + a1)) a1 r_25
noncomputable def g6c_X12_goes (s : XS) (r_47 : Int) (v_33 : Int) (a1 : Int) (v_5 : Int) (r_25 : Int) : XR := g7w_X12_goes (xup s 1 1 (Int.toNat v_33) (r_47)) a1 v_5 r_25
noncomputable def g5c_X12_goes (s : XS) (r_25 : Int) (a1 : Int) (a2 : Int) (v_5 : Int) : XR := g6c_X12_goes ((f_X12_directionBy s (s 1 1 (Int.toNat (41 + a1))) a2).1) (((f_X12_directionBy s (s 1 1 (Int.toNat (41 + a1))) a2).2)) ((41 + a1)) a1 v_5 r_25
noncomputable def g3_X12_goes (s : XS) (a1 : Int) (a2 : Int) (v_5 : Int) : XR := g5c_X12_goes ((f_X12_leftsOf s a2).1) (((f_X12_leftsOf s a2).2)) a1 a2 v_5
noncomputable def g21w_X12_goes (s : XS) : XR := (s, 0)
noncomputable def g20w_X12_goes (s : XS) : XR := g21w_X12_goes (xup s 1 1 (Int.toNat 111) ((Xiadd (s 1 1 (Int.toNat 111)) 1)))
noncomputable def g19c_X12_goes (s : XS) (r_236 : Int) (v_219 : Int) : XR := g20w_X12_goes (xup s 1 1 (Int.toNat v_219) (r_236))
noncomputable def g18w_X12_goes (s : XS) (a1 : Int) : XR := g19c_X12_goes ((f_X12_lesser s 999 ((s 1 1 (Int.toNat (56 + a1))) + 0)).1) (((f_X12_lesser s 999 ((s 1 1 (Int.toNat (56 + a1))) + 0)).2)) ((56 + a1))
noncomputable def g17w_X12_goes (s : XS) (a1 : Int) : XR := g18w_X12_goes (xup s 1 1 (Int.toNat (46 + a1)) (((s 1 1 (Int.toNat (46 + a1))) - 0))) a1
noncomputable def g16c_X12_goes (s : XS) (r_191 : Int) (v_176 : Int) (a1 : Int) : XR := g17w_X12_goes (xup s 1 1 (Int.toNat v_176) (r_191)) a1
noncomputable def g15w_X12_goes (s : XS) (a1 : Int) (v_5 : Int) : XR := g16c_X12_goes ((f_X12_streetFrom s v_5 (s 1 1 (Int.toNat (41 + a1)))).1) (((f_X12_streetFrom s v_5 (s 1 1 (Int.toNat (41 + a1)))).2)) ((36 + a1)) a1
noncomputable def g14c_X12_goes (s : XS) (r_164 : Int) (v_150 : Int) (a1 : Int) (v_5 : Int) : XR := g15w_X12_goes (xup s 1 1 (Int.toNat v_150) (r_164)) a1 v_5
noncomputable def g4_X12_goes (s : XS) (a1 : Int) (a2 : Int) (v_5 : Int) : XR := g14c_X12_goes ((f_X12_directionBy s (s 1 1 (Int.toNat (41 + a1))) a2).1) (((f_X12_directionBy s (s 1 1 (Int.toNat (41 + a1))) a2).2)) ((41 + a1)) a1 v_5
noncomputable def g2b_X12_goes (s : XS) (r_15 : Int) (a1 : Int) (a2 : Int) (v_5 : Int) : XR := if r_15 = 0 then g3_X12_goes s a1 a2 v_5 else g4_X12_goes s a1 a2 v_5
noncomputable def g1c_X12_goes (s : XS) (r_15 : Int) (a1 : Int) (a2 : Int) (v_5 : Int) : XR := g2b_X12_goes s r_15 a1 a2 v_5
noncomputable def f_X12_goes (s : XS) (a1 : Int) (a2 : Int) : XR := g1c_X12_goes ((f_X12_isFreeIn s (s 1 1 (Int.toNat (36 + a1))) 0).1) (((f_X12_isFreeIn s (s 1 1 (Int.toNat (36 + a1))) 0).2)) a1 a2 ((s 1 1 (Int.toNat (36 + a1))))
set_option maxHeartbeats 4000000 in
set_option maxRecDepth 100000 in
theorem c_X12_goes (l : Launch) (G : GG) (Z : RZ) (ad : Nat → Nat) (ws0 : va_W) (hT : Ty G SM ad ws0) (a1 : Int32) (a2 : Int32) (l1 : 0 ≤ a1.toInt) (u1 : a1.toInt ≤ 4) (l2 : 0 ≤ a2.toInt) (u2 : a2.toInt ≤ 3) (hC : CanM ws0 a1.toInt.toNat a2.toInt) (hLd : Laid ws0) : Mq l yX12_goes cX12_goes 5 (some .int) 4 G Z [.ref (ad 0), .int a1, .int a2] ws0 (PI G SM ad [1] ws0 (fun r u => (xso SM ad u = (f_X12_goes (xso SM ad ws0) a1.toInt a2.toInt).1) ∧ (r.toInt = (f_X12_goes (xso SM ad ws0) a1.toInt a2.toInt).2) ∧ (0 ≤ r.toInt) ∧ (r.toInt ≤ 2) ∧ (Pa ws0 u) ∧ (Pw ws0 u))) := by
  refine Mq.start (by decide) (Nat.le_of_ble_eq_true rfl) ?_
  intro p e s m below meth c A ls C0 hZ h hl
  have hl : lv_has ls 5 [(0, .ref (ad 0)), (1, .int a1), (2, .int a2)] := hl
  have h : Wt G SM ad A s s.heap [] ws0 := ⟨h, hT⟩
  obtain ⟨args, hargs⟩ : ∃ z, z = ([.ref (ad 0), .int a1, .int a2] : List Value).toArray := ⟨_, rfl⟩
  rw [← hargs] at C0 ⊢
  have C0 : Cx p s m args meth c RX12 cX12_goes 5 (some .int) := C0
  obtain ⟨Q, hQ⟩ : ∃ z, z = MQ below ((PI G SM ad [1] ws0 (fun r u => (xso SM ad u = (f_X12_goes (xso SM ad ws0) a1.toInt a2.toInt).1) ∧ (r.toInt = (f_X12_goes (xso SM ad ws0) a1.toInt a2.toInt).2) ∧ (0 ≤ r.toInt) ∧ (r.toInt ≤ 2) ∧ (Pa ws0 u) ∧ (Pw ws0 u))) A) args s 0 0 A := ⟨_, rfl⟩
  rw [← hQ]
  obtain ⟨FT, hFT⟩ : ∃ z, z = f_X12_goes (xso SM ad ws0) a1.toInt a2.toInt := ⟨_, rfl⟩
  have HE : FT = f_X12_goes (xso SM ad ws0) a1.toInt a2.toInt := hFT
  refine lv_aload_n C0.1 C0.2.1 dX12_goes_0 rfl (lv_at hl 0 rfl) ?_
  refine ng_X12_all C0 h kSM_0 q_1439 dX12_goes_1 ?_
  refine y_c2 (n := 36) C0 (by decide) dX12_goes_4 (fun v_1 e_2 => ?_)
  refine lv_iload_n C0.1 C0.2.1 dX12_goes_6 rfl (lv_at hl 1 rfl) ?_
  refine y_add C0 (o34_198 l1 u1 e_2 (le_min v_1) (le_max v_1) (le_min a1) (le_max a1)) (o34_199 l1 u1 e_2 (le_min v_1) (le_max v_1) (le_min a1) (le_max a1)) dX12_goes_7 (fun v_3 e_4 => ?_)
  refine y_iald C0 h kSM_1 rfl (by decide) (o34_200 l1 u1 e_2 e_4) (o34_201 l1 u1 e_2 e_4) dX12_goes_8 (fun v_5 e_6 e_7 e_8 => ?_)
  have f_9 := o34_139 v_3.toInt.toNat (o34_202 l1 u1 e_2 e_4) (o34_203 l1 u1 e_2 e_4)
  refine lv_istore_n (lv' := [(3, .int v_5), (0, .ref (ad 0)), (1, .int a1), (2, .int a2)]) C0.1 C0.2.1 dX12_goes_9 rfl hl (by decide) rfl (fun ls hl => ?_)
  refine lv_aload_n C0.1 C0.2.1 dX12_goes_10 rfl (lv_at hl 1 rfl) ?_
  refine lv_iload_n C0.1 C0.2.1 dX12_goes_11 rfl (lv_at hl 0 rfl) ?_
  refine y_c1 (n := 0) C0 (by decide) dX12_goes_12 (fun v_10 e_11 => ?_)
  refine y_ci h (y_rV (As := [.int v_5, .int v_10]) (rest := []) C0 hZ h (c_X12_isFreeIn l G Z ad _ h.2 v_5 v_10 (o34_5 (Int.le_trans f_9.1 e_7) (Int.le_trans e_8 f_9.2)) (o34_6 (Int.le_trans f_9.1 e_7) (Int.le_trans e_8 f_9.2))) k_X12_isFreeIn q_1741 q_84 q_1739 kSM_0 rfl rfl rfl hl.1 rfl rfl (Nat.le_of_ble_eq_true rfl) dX12_goes_13 ⟨Nat.le_of_ble_eq_true rfl, Nat.le_of_ble_eq_true rfl⟩ ⟨Nat.le_of_ble_eq_true rfl, Nat.le_of_ble_eq_true rfl⟩) (fun r_15 H locs ws_12 h u_13 p_14 => ?_)
  obtain ⟨e_16, e_17, e_18, e_19, e_20⟩ := p_14
  replace HE : FT = g1c_X12_goes (xso SM ad ws_12) r_15.toInt a1.toInt a2.toInt v_5.toInt := HE.trans (by rw [e_16, e_17, e_11, (xg1 e_6 : v_5.toInt = (xso SM ad ws0) 1 1 v_3.toInt.toNat), e_4, e_2]; rfl)
  replace HE : FT = g2b_X12_goes (xso SM ad ws_12) r_15.toInt a1.toInt a2.toInt v_5.toInt := HE.trans rfl
  refine y_if_eq (tgt := 23) C0 dX12_goes_16 (by decide) (fun c_21 => ?_) (fun c_21 => ?_)
  · -- 16
    replace HE : FT = g3_X12_goes (xso SM ad ws_12) a1.toInt a2.toInt v_5.toInt := HE.trans (if_pos c_21)
    refine lv_iload_n C0.1 C0.2.1 dX12_goes_23 rfl (lv_at hl 3 rfl) ?_
    refine y_ci h (y_rS (As := [.int a2]) (rest := []) C0 hZ h (c_X12_leftsOf l G Z ad _ h.2 a2 (o34_153 l2 u2) (o34_154 l2 u2)) k_X12_leftsOf q_1769 q_1768 hl.1 rfl rfl (Nat.le_of_ble_eq_true rfl) dX12_goes_24 ⟨Nat.le_of_ble_eq_true rfl, Nat.le_of_ble_eq_true rfl⟩ ⟨Nat.le_of_ble_eq_true rfl, Nat.le_of_ble_eq_true rfl⟩) (fun r_25 H locs ws_22 h u_23 p_24 => ?_)
    obtain ⟨e_26, e_27, e_28, e_29, e_30⟩ := p_24
    replace HE : FT = g5c_X12_goes (xso SM ad ws_22) r_25.toInt a1.toInt a2.toInt v_5.toInt := HE.trans (by rw [e_26, e_27]; rfl)
    refine lv_istore (lv' := [(4, .int r_25), (3, .int v_5), (0, .ref (ad 0)), (1, .int a1), (2, .int a2)]) C0.1 C0.2.1 dX12_goes_27 hl (by decide) rfl (fun ls hl => ?_)
    refine lv_aload_n C0.1 C0.2.1 dX12_goes_29 rfl (lv_at hl 2 rfl) ?_
    refine ng_X12_all C0 h kSM_0 q_1439 dX12_goes_30 ?_
    refine y_c2 (n := 41) C0 (by decide) dX12_goes_33 (fun v_31 e_32 => ?_)
    refine lv_iload_n C0.1 C0.2.1 dX12_goes_35 rfl (lv_at hl 3 rfl) ?_
    refine y_add C0 (o34_204 l1 u1 e_2 e_4 e_32 (le_min v_31) (le_max v_31) (le_min a1) (le_max a1) (le_min v_1) (le_max v_1) (le_min v_3) (le_max v_3)) (o34_205 l1 u1 e_2 e_4 e_32 (le_min v_31) (le_max v_31) (le_min a1) (le_max a1) (le_min v_1) (le_max v_1) (le_min v_3) (le_max v_3)) dX12_goes_36 (fun v_33 e_34 => ?_)
    refine lv_aload_n C0.1 C0.2.1 dX12_goes_37 rfl (lv_at hl 2 rfl) ?_
    refine ng_X12_all C0 h kSM_0 q_1439 dX12_goes_38 ?_
    refine y_c2 (n := 41) C0 (by decide) dX12_goes_41 (fun v_35 e_36 => ?_)
    refine lv_iload_n C0.1 C0.2.1 dX12_goes_43 rfl (lv_at hl 3 rfl) ?_
    refine y_add C0 (o34_206 l1 u1 e_2 e_4 e_32 e_34 e_36 (le_min v_35) (le_max v_35) (le_min a1) (le_max a1) (le_min v_1) (le_max v_1) (le_min v_3) (le_max v_3) (le_min v_31) (le_max v_31) (le_min v_33) (le_max v_33)) (o34_207 l1 u1 e_2 e_4 e_32 e_34 e_36 (le_min v_35) (le_max v_35) (le_min a1) (le_max a1) (le_min v_1) (le_max v_1) (le_min v_3) (le_max v_3) (le_min v_31) (le_max v_31) (le_min v_33) (le_max v_33)) dX12_goes_44 (fun v_37 e_38 => ?_)
    refine y_iald C0 h kSM_1 rfl (by decide) (o34_208 l1 u1 e_2 e_4 e_32 e_34 e_36 e_38) (o34_209 l1 u1 e_2 e_4 e_32 e_34 e_36 e_38) dX12_goes_45 (fun v_39 e_40 e_41 e_42 => ?_)
    have f_43 := o34_148 v_37.toInt.toNat (o34_210 l1 u1 e_2 e_4 e_32 e_34 e_36 e_38) (o34_211 l1 u1 e_2 e_4 e_32 e_34 e_36 e_38)
    refine lv_iload_n C0.1 C0.2.1 dX12_goes_46 rfl (lv_at hl 4 rfl) ?_
    refine y_ci h (y_rS (As := [.int v_39, .int a2]) (rest := [.int v_33, .ref (ad 1)]) C0 hZ h (c_X12_directionBy l G Z ad _ h.2 v_39 a2 (o34_153 (Int.le_trans f_43.1 e_41) (Int.le_trans e_42 f_43.2)) (o34_154 (Int.le_trans f_43.1 e_41) (Int.le_trans e_42 f_43.2)) (o34_212 l2 u2 e_28 e_29 e_30) (o34_213 l2 u2 e_28 e_29 e_30)) k_X12_directionBy q_1761 q_1760 hl.1 rfl rfl (Nat.le_of_ble_eq_true rfl) dX12_goes_47 ⟨Nat.le_of_ble_eq_true rfl, Nat.le_of_ble_eq_true rfl⟩ ⟨Nat.le_of_ble_eq_true rfl, Nat.le_of_ble_eq_true rfl⟩) (fun r_47 H locs ws_44 h u_45 p_46 => ?_)
    obtain ⟨e_48, e_49, e_50, e_51, e_52⟩ := p_46
    replace HE : FT = g6c_X12_goes (xso SM ad ws_44) r_47.toInt v_33.toInt a1.toInt v_5.toInt r_25.toInt := HE.trans (by rw [e_48, e_34, e_32, e_49, (xg1 e_40 : v_39.toInt = (xso SM ad ws_22) 1 1 v_37.toInt.toNat), e_38, e_36]; rfl)
    have hO_55 := h.2
    have f_56 := o34_216 v_33.toInt.toNat (o34_217 l1 u1 e_2 e_4 e_32 e_34 e_36 e_38) (o34_218 l1 u1 e_2 e_4 e_32 e_34 e_36 e_38)
    refine y_iast C0 h kSM_1 rfl (by decide) (o34_214 l1 u1 e_2 e_4 e_32 e_34 e_36 e_38) (o34_215 l1 u1 e_2 e_4 e_32 e_34 e_36 e_38) (Int.le_trans f_56.1 (o34_153 e_50 e_51)) (Int.le_trans (o34_154 e_50 e_51) f_56.2) dX12_goes_50 (fun H locs ws_53 h u_54 => ?_)
    replace HE : FT = g7w_X12_goes (xso SM ad ws_53) a1.toInt v_5.toInt r_25.toInt := HE.trans (by rw [(xso_A (i := 1) hO_55 h.2 kSM_1 rfl u_54)]; rfl)
    refine lv_aload_n C0.1 C0.2.1 dX12_goes_51 rfl (lv_at hl 2 rfl) ?_
    refine ng_X12_all C0 h kSM_0 q_1439 dX12_goes_52 ?_
    refine y_c2 (n := 36) C0 (by decide) dX12_goes_55 (fun v_57 e_58 => ?_)
    refine lv_iload_n C0.1 C0.2.1 dX12_goes_57 rfl (lv_at hl 3 rfl) ?_
    refine y_add C0 (o34_222 l1 u1 e_2 e_4 e_32 e_34 e_36 e_38 e_58 (le_min v_57) (le_max v_57) (le_min a1) (le_max a1) (le_min v_1) (le_max v_1) (le_min v_3) (le_max v_3) (le_min v_31) (le_max v_31) (le_min v_33) (le_max v_33) (le_min v_35) (le_max v_35) (le_min v_37) (le_max v_37)) (o34_223 l1 u1 e_2 e_4 e_32 e_34 e_36 e_38 e_58 (le_min v_57) (le_max v_57) (le_min a1) (le_max a1) (le_min v_1) (le_max v_1) (le_min v_3) (le_max v_3) (le_min v_31) (le_max v_31) (le_min v_33) (le_max v_33) (le_min v_35) (le_max v_35) (le_min v_37) (le_max v_37)) dX12_goes_58 (fun v_59 e_60 => ?_)
    refine lv_aload_n C0.1 C0.2.1 dX12_goes_59 rfl (lv_at hl 2 rfl) ?_
    refine lv_iload_n C0.1 C0.2.1 dX12_goes_60 rfl (lv_at hl 1 rfl) ?_
    refine lv_aload_n C0.1 C0.2.1 dX12_goes_61 rfl (lv_at hl 2 rfl) ?_
    refine ng_X12_all C0 h kSM_0 q_1439 dX12_goes_62 ?_
    refine y_c2 (n := 41) C0 (by decide) dX12_goes_65 (fun v_61 e_62 => ?_)
    refine lv_iload_n C0.1 C0.2.1 dX12_goes_67 rfl (lv_at hl 3 rfl) ?_
    refine y_add C0 (o34_224 l1 u1 e_2 e_4 e_32 e_34 e_36 e_38 e_58 e_60 e_62 (le_min v_61) (le_max v_61) (le_min a1) (le_max a1) (le_min v_1) (le_max v_1) (le_min v_3) (le_max v_3) (le_min v_31) (le_max v_31) (le_min v_33) (le_max v_33) (le_min v_35) (le_max v_35) (le_min v_37) (le_max v_37) (le_min v_57) (le_max v_57) (le_min v_59) (le_max v_59)) (o34_225 l1 u1 e_2 e_4 e_32 e_34 e_36 e_38 e_58 e_60 e_62 (le_min v_61) (le_max v_61) (le_min a1) (le_max a1) (le_min v_1) (le_max v_1) (le_min v_3) (le_max v_3) (le_min v_31) (le_max v_31) (le_min v_33) (le_max v_33) (le_min v_35) (le_max v_35) (le_min v_37) (le_max v_37) (le_min v_57) (le_max v_57) (le_min v_59) (le_max v_59)) dX12_goes_68 (fun v_63 e_64 => ?_)
    refine y_iald C0 h kSM_1 rfl (by decide) (o34_226 l1 u1 e_2 e_4 e_32 e_34 e_36 e_38 e_58 e_60 e_62 e_64) (o34_227 l1 u1 e_2 e_4 e_32 e_34 e_36 e_38 e_58 e_60 e_62 e_64) dX12_goes_69 (fun v_65 e_66 e_67 e_68 => ?_)
    have f_69 := o34_148 v_63.toInt.toNat (o34_228 l1 u1 e_2 e_4 e_32 e_34 e_36 e_38 e_58 e_60 e_62 e_64) (o34_229 l1 u1 e_2 e_4 e_32 e_34 e_36 e_38 e_58 e_60 e_62 e_64)
    have qh_70 : v_65.toInt = r_47.toInt := congrArg Int32.toInt (e_66.symm.trans (Eq.trans (congrArg (aI ws_53 1) (o34_230 l1 u1 e_2 e_4 e_32 e_34 e_36 e_38 e_58 e_60 e_62 e_64)) (Eq.trans rfl u_54.2.1)))
    refine y_ci h (y_rV (As := [.int v_5, .int v_65]) (rest := [.int v_59, .ref (ad 1)]) C0 hZ h (c_X12_streetFrom l G Z ad _ h.2 v_5 v_65 (o34_5 (Int.le_trans f_9.1 e_7) (Int.le_trans e_8 f_9.2)) (o34_6 (Int.le_trans f_9.1 e_7) (Int.le_trans e_8 f_9.2)) (o34_231 e_50 e_51 (Int.le_trans f_69.1 e_67) (Int.le_trans e_68 f_69.2) qh_70) (o34_232 e_50 e_51 (Int.le_trans f_69.1 e_67) (Int.le_trans e_68 f_69.2) qh_70) (Laid.pa hLd (Pa.tr (Pa.tr (Pa.tr (Pa.fr u_13 (by decide)) (Pa.fr u_23 (by decide))) (Pa.fr u_45 (by decide))) (Pa.st u_54 (o34_220 l1 u1 e_2 e_4 e_32 e_34 e_36 e_38) (o34_221 l1 u1 e_2 e_4 e_32 e_34 e_36 e_38))))) k_X12_streetFrom q_1713 q_80 q_1711 kSM_0 rfl rfl rfl hl.1 rfl rfl (Nat.le_of_ble_eq_true rfl) dX12_goes_70 ⟨Nat.le_of_ble_eq_true rfl, Nat.le_of_ble_eq_true rfl⟩ ⟨Nat.le_of_ble_eq_true rfl, Nat.le_of_ble_eq_true rfl⟩) (fun r_74 H locs ws_71 h u_72 p_73 => ?_)
    obtain ⟨e_75, e_76, e_77, e_78, e_79⟩ := p_73
    have g_80 := goes_ge hC (o34_233 l1 u1 e_2 e_4 e_32 e_34 e_36 e_38 e_58 e_60 e_62 e_64) (o34_234 l1 u1 e_2 e_4 e_32 e_34 e_36 e_38 e_58 e_60 e_62 e_64) e_6 (Eq.trans (Eq.symm (Eq.trans (Fr.aI u_23 kSM_1 (by decide)) (Fr.aI u_13 kSM_1 (by decide)))) e_40) e_52 (o34_235 l2 u2 e_28 e_29 e_30) (o34_236 e_50 e_51 (Int.le_trans f_69.1 e_67) (Int.le_trans e_68 f_69.2) qh_70) (Pw.tr (Pw.tr (Pw.tr (Pw.fr u_13 (by decide)) (Pw.fr u_23 (by decide))) (Pw.fr u_45 (by decide))) (Pw.st u_54 (o34_219 l1 u1 e_2 e_4 e_32 e_34 e_36 e_38))) e_79 (o34_6 (Int.le_trans f_9.1 e_7) (Int.le_trans e_8 f_9.2))
    replace HE : FT = g8c_X12_goes (xso SM ad ws_71) r_74.toInt v_59.toInt a1.toInt r_25.toInt := HE.trans (by rw [e_75, e_60, e_58, e_76, (xg1 e_66 : v_65.toInt = (xso SM ad ws_53) 1 1 v_63.toInt.toNat), e_64, e_62]; rfl)
    have hO_83 := h.2
    have f_84 := o34_239 v_59.toInt.toNat (o34_240 l1 u1 e_2 e_4 e_32 e_34 e_36 e_38 e_58 e_60 e_62 e_64) (o34_241 l1 u1 e_2 e_4 e_32 e_34 e_36 e_38 e_58 e_60 e_62 e_64)
    refine y_iast C0 h kSM_1 rfl (by decide) (o34_237 l1 u1 e_2 e_4 e_32 e_34 e_36 e_38 e_58 e_60 e_62 e_64) (o34_238 l1 u1 e_2 e_4 e_32 e_34 e_36 e_38 e_58 e_60 e_62 e_64) (Int.le_trans f_84.1 (o34_242 e_77 e_78 g_80)) (Int.le_trans (o34_243 e_77 e_78 g_80) f_84.2) dX12_goes_73 (fun H locs ws_81 h u_82 => ?_)
    replace HE : FT = g9w_X12_goes (xso SM ad ws_81) a1.toInt r_25.toInt := HE.trans (by rw [(xso_A (i := 1) hO_83 h.2 kSM_1 rfl u_82)]; rfl)
    refine lv_aload_n C0.1 C0.2.1 dX12_goes_74 rfl (lv_at hl 2 rfl) ?_
    refine ng_X12_all C0 h kSM_0 q_1439 dX12_goes_75 ?_
    refine y_c2 (n := 46) C0 (by decide) dX12_goes_78 (fun v_85 e_86 => ?_)
    refine lv_iload_n C0.1 C0.2.1 dX12_goes_80 rfl (lv_at hl 3 rfl) ?_
    refine y_add C0 (o34_247 l1 u1 e_2 e_4 e_32 e_34 e_36 e_38 e_58 e_60 e_62 e_64 e_86 (le_min v_85) (le_max v_85) (le_min a1) (le_max a1) (le_min v_1) (le_max v_1) (le_min v_3) (le_max v_3) (le_min v_31) (le_max v_31) (le_min v_33) (le_max v_33) (le_min v_35) (le_max v_35) (le_min v_37) (le_max v_37) (le_min v_57) (le_max v_57) (le_min v_59) (le_max v_59) (le_min v_61) (le_max v_61) (le_min v_63) (le_max v_63)) (o34_248 l1 u1 e_2 e_4 e_32 e_34 e_36 e_38 e_58 e_60 e_62 e_64 e_86 (le_min v_85) (le_max v_85) (le_min a1) (le_max a1) (le_min v_1) (le_max v_1) (le_min v_3) (le_max v_3) (le_min v_31) (le_max v_31) (le_min v_33) (le_max v_33) (le_min v_35) (le_max v_35) (le_min v_37) (le_max v_37) (le_min v_57) (le_max v_57) (le_min v_59) (le_max v_59) (le_min v_61) (le_max v_61) (le_min v_63) (le_max v_63)) dX12_goes_81 (fun v_87 e_88 => ?_)
    refine lv_dup2_11 C0.1 C0.2.1 dX12_goes_82 rfl rfl ?_
    refine y_iald C0 h kSM_1 rfl (by decide) (o34_249 l1 u1 e_2 e_4 e_32 e_34 e_36 e_38 e_58 e_60 e_62 e_64 e_86 e_88) (o34_250 l1 u1 e_2 e_4 e_32 e_34 e_36 e_38 e_58 e_60 e_62 e_64 e_86 e_88) dX12_goes_83 (fun v_89 e_90 e_91 e_92 => ?_)
    have f_93 := o34_159 v_87.toInt.toNat (o34_251 l1 u1 e_2 e_4 e_32 e_34 e_36 e_38 e_58 e_60 e_62 e_64 e_86 e_88) (o34_252 l1 u1 e_2 e_4 e_32 e_34 e_36 e_38 e_58 e_60 e_62 e_64 e_86 e_88)
    refine lv_iload C0.1 C0.2.1 dX12_goes_84 (lv_at hl 0 rfl) ?_
    have g_94 := goes_lf (z := v_10) hC (o34_253 l1 u1 e_2 e_4 e_32 e_34 e_36 e_38 e_58 e_60 e_62 e_64 e_86 e_88) (o34_254 l1 u1 e_2 e_4 e_32 e_34 e_36 e_38 e_58 e_60 e_62 e_64 e_86 e_88) e_6 (Eq.trans (Eq.symm (Eq.trans (u_82.2.2 v_87.toInt.toNat (o34_256 l1 u1 e_2 e_4 e_32 e_34 e_36 e_38 e_58 e_60 e_62 e_64 e_86 e_88)) (Eq.trans (Fr.aI u_72 kSM_1 (by decide)) (Eq.trans (u_54.2.2 v_87.toInt.toNat (o34_255 l1 u1 e_2 e_4 e_32 e_34 e_36 e_38 e_58 e_60 e_62 e_64 e_86 e_88)) (Eq.trans (Fr.aI u_45 kSM_1 (by decide)) (Eq.trans (Fr.aI u_23 kSM_1 (by decide)) (Fr.aI u_13 kSM_1 (by decide)))))))) e_90) e_11 (Or.elim e_20 (fun q => ((o34_257 e_18 e_19 c_21 q.1)).elim) (fun q => q.2))
    have g_95 : (a2.toInt < 2 ∧ 0 ≤ v_89.toInt) ∨ (2 ≤ a2.toInt ∧ a2.toInt - 1 ≤ v_89.toInt) := by
      unfold lefI at g_94
      split at g_94 <;> omega
    refine y_sub C0 (o34_258 l2 u2 e_28 e_29 e_30 (Int.le_trans f_93.1 e_91) (Int.le_trans e_92 f_93.2) g_95 (le_min v_89) (le_max v_89) (le_min r_25) (le_max r_25) (le_min a2) (le_max a2)) (o34_259 l2 u2 e_28 e_29 e_30 (Int.le_trans f_93.1 e_91) (Int.le_trans e_92 f_93.2) g_95 (le_min v_89) (le_max v_89) (le_min r_25) (le_max r_25) (le_min a2) (le_max a2)) dX12_goes_86 (fun v_96 e_97 => ?_)
    have hO_100 := h.2
    have f_101 := o34_260 v_87.toInt.toNat (o34_251 l1 u1 e_2 e_4 e_32 e_34 e_36 e_38 e_58 e_60 e_62 e_64 e_86 e_88) (o34_252 l1 u1 e_2 e_4 e_32 e_34 e_36 e_38 e_58 e_60 e_62 e_64 e_86 e_88)
    refine y_iast C0 h kSM_1 rfl (by decide) (o34_249 l1 u1 e_2 e_4 e_32 e_34 e_36 e_38 e_58 e_60 e_62 e_64 e_86 e_88) (o34_250 l1 u1 e_2 e_4 e_32 e_34 e_36 e_38 e_58 e_60 e_62 e_64 e_86 e_88) (Int.le_trans f_101.1 (o34_261 l2 u2 e_28 e_29 e_30 (Int.le_trans f_93.1 e_91) (Int.le_trans e_92 f_93.2) g_95 e_97)) (Int.le_trans (o34_262 l2 u2 e_28 e_29 e_30 (Int.le_trans f_93.1 e_91) (Int.le_trans e_92 f_93.2) g_95 e_97) f_101.2) dX12_goes_87 (fun H locs ws_98 h u_99 => ?_)
    replace HE : FT = g10w_X12_goes (xso SM ad ws_98) a1.toInt r_25.toInt := HE.trans (by rw [(xso_A (i := 1) hO_100 h.2 kSM_1 rfl u_99), e_97, (xg1 e_90 : v_89.toInt = (xso SM ad ws_81) 1 1 v_87.toInt.toNat), e_88, e_86]; rfl)
    refine lv_aload_n C0.1 C0.2.1 dX12_goes_88 rfl (lv_at hl 2 rfl) ?_
    refine ng_X12_all C0 h kSM_0 q_1439 dX12_goes_89 ?_
    refine y_c2 (n := 56) C0 (by decide) dX12_goes_92 (fun v_102 e_103 => ?_)
    refine lv_iload_n C0.1 C0.2.1 dX12_goes_94 rfl (lv_at hl 3 rfl) ?_
    refine y_add C0 (o34_266 l1 u1 e_2 e_4 e_32 e_34 e_36 e_38 e_58 e_60 e_62 e_64 e_86 e_88 e_103 (le_min v_102) (le_max v_102) (le_min a1) (le_max a1) (le_min v_1) (le_max v_1) (le_min v_3) (le_max v_3) (le_min v_31) (le_max v_31) (le_min v_33) (le_max v_33) (le_min v_35) (le_max v_35) (le_min v_37) (le_max v_37) (le_min v_57) (le_max v_57) (le_min v_59) (le_max v_59) (le_min v_61) (le_max v_61) (le_min v_63) (le_max v_63) (le_min v_85) (le_max v_85) (le_min v_87) (le_max v_87)) (o34_267 l1 u1 e_2 e_4 e_32 e_34 e_36 e_38 e_58 e_60 e_62 e_64 e_86 e_88 e_103 (le_min v_102) (le_max v_102) (le_min a1) (le_max a1) (le_min v_1) (le_max v_1) (le_min v_3) (le_max v_3) (le_min v_31) (le_max v_31) (le_min v_33) (le_max v_33) (le_min v_35) (le_max v_35) (le_min v_37) (le_max v_37) (le_min v_57) (le_max v_57) (le_min v_59) (le_max v_59) (le_min v_61) (le_max v_61) (le_min v_63) (le_max v_63) (le_min v_85) (le_max v_85) (le_min v_87) (le_max v_87)) dX12_goes_95 (fun v_104 e_105 => ?_)
    refine y_c3 (n := 999) C0 (by decide) dX12_goes_96 (fun v_106 e_107 => ?_)
    refine lv_aload_n C0.1 C0.2.1 dX12_goes_99 rfl (lv_at hl 2 rfl) ?_
    refine ng_X12_all C0 h kSM_0 q_1439 dX12_goes_100 ?_
    refine y_c2 (n := 56) C0 (by decide) dX12_goes_103 (fun v_108 e_109 => ?_)
    refine lv_iload_n C0.1 C0.2.1 dX12_goes_105 rfl (lv_at hl 3 rfl) ?_
    refine y_add C0 (o34_268 l1 u1 e_2 e_4 e_32 e_34 e_36 e_38 e_58 e_60 e_62 e_64 e_86 e_88 e_103 e_105 e_109 (le_min v_108) (le_max v_108) (le_min a1) (le_max a1) (le_min v_1) (le_max v_1) (le_min v_3) (le_max v_3) (le_min v_31) (le_max v_31) (le_min v_33) (le_max v_33) (le_min v_35) (le_max v_35) (le_min v_37) (le_max v_37) (le_min v_57) (le_max v_57) (le_min v_59) (le_max v_59) (le_min v_61) (le_max v_61) (le_min v_63) (le_max v_63) (le_min v_85) (le_max v_85) (le_min v_87) (le_max v_87) (le_min v_102) (le_max v_102) (le_min v_104) (le_max v_104)) (o34_269 l1 u1 e_2 e_4 e_32 e_34 e_36 e_38 e_58 e_60 e_62 e_64 e_86 e_88 e_103 e_105 e_109 (le_min v_108) (le_max v_108) (le_min a1) (le_max a1) (le_min v_1) (le_max v_1) (le_min v_3) (le_max v_3) (le_min v_31) (le_max v_31) (le_min v_33) (le_max v_33) (le_min v_35) (le_max v_35) (le_min v_37) (le_max v_37) (le_min v_57) (le_max v_57) (le_min v_59) (le_max v_59) (le_min v_61) (le_max v_61) (le_min v_63) (le_max v_63) (le_min v_85) (le_max v_85) (le_min v_87) (le_max v_87) (le_min v_102) (le_max v_102) (le_min v_104) (le_max v_104)) dX12_goes_106 (fun v_110 e_111 => ?_)
    refine y_iald C0 h kSM_1 rfl (by decide) (o34_270 l1 u1 e_2 e_4 e_32 e_34 e_36 e_38 e_58 e_60 e_62 e_64 e_86 e_88 e_103 e_105 e_109 e_111) (o34_271 l1 u1 e_2 e_4 e_32 e_34 e_36 e_38 e_58 e_60 e_62 e_64 e_86 e_88 e_103 e_105 e_109 e_111) dX12_goes_107 (fun v_112 e_113 e_114 e_115 => ?_)
    refine lv_iload C0.1 C0.2.1 dX12_goes_108 (lv_at hl 0 rfl) ?_
    refine xr_iadd C0 dX12_goes_110 (fun v_116 e_117 => ?_)
    refine y_ci h (y_rS (As := [.int v_106, .int v_116]) (rest := [.int v_104, .ref (ad 1)]) C0 hZ h (c_X12_lesser l G Z ad _ h.2 v_106 v_116) k_X12_lesser q_1784 q_1783 hl.1 rfl rfl (Nat.le_of_ble_eq_true rfl) dX12_goes_111 ⟨Nat.le_of_ble_eq_true rfl, Nat.le_of_ble_eq_true rfl⟩ ⟨Nat.le_of_ble_eq_true rfl, Nat.le_of_ble_eq_true rfl⟩) (fun r_121 H locs ws_118 h u_119 p_120 => ?_)
    obtain ⟨e_122, e_123, e_124, e_125⟩ := p_120
    replace HE : FT = g11c_X12_goes (xso SM ad ws_118) r_121.toInt v_104.toInt r_25.toInt := HE.trans (by rw [e_122, e_105, e_103, e_123, e_117, (xg1 e_113 : v_112.toInt = (xso SM ad ws_98) 1 1 v_110.toInt.toNat), e_111, e_109, e_107]; rfl)
    have hO_128 := h.2
    have f_129 := o34_274 v_104.toInt.toNat (o34_275 l1 u1 e_2 e_4 e_32 e_34 e_36 e_38 e_58 e_60 e_62 e_64 e_86 e_88 e_103 e_105 e_109 e_111) (o34_276 l1 u1 e_2 e_4 e_32 e_34 e_36 e_38 e_58 e_60 e_62 e_64 e_86 e_88 e_103 e_105 e_109 e_111)
    refine y_iast C0 h kSM_1 rfl (by decide) (o34_272 l1 u1 e_2 e_4 e_32 e_34 e_36 e_38 e_58 e_60 e_62 e_64 e_86 e_88 e_103 e_105 e_109 e_111) (o34_273 l1 u1 e_2 e_4 e_32 e_34 e_36 e_38 e_58 e_60 e_62 e_64 e_86 e_88 e_103 e_105 e_109 e_111) (Int.le_trans f_129.1 (le_min r_121)) (Int.le_trans (le_max r_121) f_129.2) dX12_goes_114 (fun H locs ws_126 h u_127 => ?_)
    replace HE : FT = g12w_X12_goes (xso SM ad ws_126) r_25.toInt := HE.trans (by rw [(xso_A (i := 1) hO_128 h.2 kSM_1 rfl u_127)]; rfl)
    refine lv_aload_n C0.1 C0.2.1 dX12_goes_115 rfl (lv_at hl 2 rfl) ?_
    refine ng_X12_all C0 h kSM_0 q_1439 dX12_goes_116 ?_
    refine y_c2 (n := 111) C0 (by decide) dX12_goes_119 (fun v_130 e_131 => ?_)
    refine lv_dup2_11 C0.1 C0.2.1 dX12_goes_121 rfl rfl ?_
    refine y_iald C0 h kSM_1 rfl (by decide) (o34_280 e_131) (o34_281 e_131) dX12_goes_122 (fun v_132 e_133 e_134 e_135 => ?_)
    have e_136 : aI ws_126 1 111 = v_132 := (congrArg (aI ws_126 1) (ix_c (c := 111) (o34_282 e_131))).symm.trans e_133
    refine y_c1 (n := 1) C0 (by decide) dX12_goes_123 (fun v_137 e_138 => ?_)
    refine xr_iadd C0 dX12_goes_124 (fun v_139 e_140 => ?_)
    have hO_143 := h.2
    have f_144 := o34_283 v_130.toInt.toNat (o34_284 e_131) (o34_285 e_131)
    refine y_iast C0 h kSM_1 rfl (by decide) (o34_280 e_131) (o34_281 e_131) (Int.le_trans f_144.1 (le_min v_139)) (Int.le_trans (le_max v_139) f_144.2) dX12_goes_125 (fun H locs ws_141 h u_142 => ?_)
    have e_145 : aI ws_141 1 111 = v_139 := (congrArg (aI ws_141 1) (ix_c (c := 111) (o34_282 e_131))).symm.trans u_142.2.1
    replace HE : FT = g13w_X12_goes (xso SM ad ws_141) r_25.toInt := HE.trans (by rw [(xso_A (i := 1) hO_143 h.2 kSM_1 rfl u_142), e_140, e_138, (xg1 e_133 : v_132.toInt = (xso SM ad ws_126) 1 1 v_130.toInt.toNat), e_131]; rfl)
    refine lv_iload C0.1 C0.2.1 dX12_goes_126 (lv_at hl 0 rfl) ?_
    replace HE : FT = ((xso SM ad ws_141), r_25.toInt) := HE.trans rfl
    rw [hQ]
    exact y_iret C0 h (Fr.tr (Fr.tr (Fr.tr (Fr.tr (Fr.tr (Fr.tr (Fr.tr (Fr.tr (Fr.tr (Fr.mono u_13 (by decide)) (Fr.mono u_23 (by decide))) (Fr.mono u_45 (by decide))) (Fr.up u_54.1 kSM_1 (by decide))) (Fr.mono u_72 (by decide))) (Fr.up u_82.1 kSM_1 (by decide))) (Fr.up u_99.1 kSM_1 (by decide))) (Fr.mono u_119 (by decide))) (Fr.up u_127.1 kSM_1 (by decide))) (Fr.up u_142.1 kSM_1 (by decide))) ⟨(congrArg Prod.fst (HE.symm.trans hFT)), (congrArg Prod.snd (HE.symm.trans hFT)), (o34_289 l2 u2 e_28 e_29 e_30 (Int.le_trans f_93.1 e_91) (Int.le_trans e_92 f_93.2) g_95 e_97), (o34_290 l2 u2 e_28 e_29 e_30 (Int.le_trans f_93.1 e_91) (Int.le_trans e_92 f_93.2) g_95 e_97), (Pa.tr (Pa.tr (Pa.tr (Pa.tr (Pa.tr (Pa.tr (Pa.tr (Pa.tr (Pa.tr (Pa.fr u_13 (by decide)) (Pa.fr u_23 (by decide))) (Pa.fr u_45 (by decide))) (Pa.st u_54 (o34_220 l1 u1 e_2 e_4 e_32 e_34 e_36 e_38) (o34_221 l1 u1 e_2 e_4 e_32 e_34 e_36 e_38))) (Pa.fr u_72 (by decide))) (Pa.st u_82 (o34_245 l1 u1 e_2 e_4 e_32 e_34 e_36 e_38 e_58 e_60 e_62 e_64) (o34_246 l1 u1 e_2 e_4 e_32 e_34 e_36 e_38 e_58 e_60 e_62 e_64))) (Pa.st u_99 (o34_264 l1 u1 e_2 e_4 e_32 e_34 e_36 e_38 e_58 e_60 e_62 e_64 e_86 e_88) (o34_265 l1 u1 e_2 e_4 e_32 e_34 e_36 e_38 e_58 e_60 e_62 e_64 e_86 e_88))) (Pa.fr u_119 (by decide))) (Pa.st u_127 (o34_278 l1 u1 e_2 e_4 e_32 e_34 e_36 e_38 e_58 e_60 e_62 e_64 e_86 e_88 e_103 e_105 e_109 e_111) (o34_279 l1 u1 e_2 e_4 e_32 e_34 e_36 e_38 e_58 e_60 e_62 e_64 e_86 e_88 e_103 e_105 e_109 e_111))) (Pa.st u_142 (o34_287 e_131) (o34_288 e_131))), (Pw.tr (Pw.tr (Pw.tr (Pw.tr (Pw.tr (Pw.tr (Pw.tr (Pw.tr (Pw.tr (Pw.fr u_13 (by decide)) (Pw.fr u_23 (by decide))) (Pw.fr u_45 (by decide))) (Pw.st u_54 (o34_219 l1 u1 e_2 e_4 e_32 e_34 e_36 e_38))) (Pw.fr u_72 (by decide))) (Pw.st u_82 (o34_244 l1 u1 e_2 e_4 e_32 e_34 e_36 e_38 e_58 e_60 e_62 e_64))) (Pw.st u_99 (o34_263 l1 u1 e_2 e_4 e_32 e_34 e_36 e_38 e_58 e_60 e_62 e_64 e_86 e_88))) (Pw.fr u_119 (by decide))) (Pw.st u_127 (o34_277 l1 u1 e_2 e_4 e_32 e_34 e_36 e_38 e_58 e_60 e_62 e_64 e_86 e_88 e_103 e_105 e_109 e_111))) (Pw.st u_142 (o34_286 e_131)))⟩ dX12_goes_128
  · -- 16
    replace HE : FT = g4_X12_goes (xso SM ad ws_12) a1.toInt a2.toInt v_5.toInt := HE.trans (if_neg c_21)
    refine y_c1 (n := 0) C0 (by decide) dX12_goes_19 (fun v_146 e_147 => ?_)
    refine lv_goto (tgt := 27) C0.1 C0.2.1 dX12_goes_20 (by decide) ?_
    refine lv_istore (lv' := [(4, .int v_146), (3, .int v_5), (0, .ref (ad 0)), (1, .int a1), (2, .int a2)]) C0.1 C0.2.1 dX12_goes_27 hl (by decide) rfl (fun ls hl => ?_)
    refine lv_aload_n C0.1 C0.2.1 dX12_goes_29 rfl (lv_at hl 2 rfl) ?_
    refine ng_X12_all C0 h kSM_0 q_1439 dX12_goes_30 ?_
    refine y_c2 (n := 41) C0 (by decide) dX12_goes_33 (fun v_148 e_149 => ?_)
    refine lv_iload_n C0.1 C0.2.1 dX12_goes_35 rfl (lv_at hl 3 rfl) ?_
    refine y_add C0 (o34_204 l1 u1 e_2 e_4 e_149 (le_min v_148) (le_max v_148) (le_min a1) (le_max a1) (le_min v_1) (le_max v_1) (le_min v_3) (le_max v_3)) (o34_205 l1 u1 e_2 e_4 e_149 (le_min v_148) (le_max v_148) (le_min a1) (le_max a1) (le_min v_1) (le_max v_1) (le_min v_3) (le_max v_3)) dX12_goes_36 (fun v_150 e_151 => ?_)
    refine lv_aload_n C0.1 C0.2.1 dX12_goes_37 rfl (lv_at hl 2 rfl) ?_
    refine ng_X12_all C0 h kSM_0 q_1439 dX12_goes_38 ?_
    refine y_c2 (n := 41) C0 (by decide) dX12_goes_41 (fun v_152 e_153 => ?_)
    refine lv_iload_n C0.1 C0.2.1 dX12_goes_43 rfl (lv_at hl 3 rfl) ?_
    refine y_add C0 (o34_206 l1 u1 e_2 e_4 e_149 e_151 e_153 (le_min v_152) (le_max v_152) (le_min a1) (le_max a1) (le_min v_1) (le_max v_1) (le_min v_3) (le_max v_3) (le_min v_148) (le_max v_148) (le_min v_150) (le_max v_150)) (o34_207 l1 u1 e_2 e_4 e_149 e_151 e_153 (le_min v_152) (le_max v_152) (le_min a1) (le_max a1) (le_min v_1) (le_max v_1) (le_min v_3) (le_max v_3) (le_min v_148) (le_max v_148) (le_min v_150) (le_max v_150)) dX12_goes_44 (fun v_154 e_155 => ?_)
    refine y_iald C0 h kSM_1 rfl (by decide) (o34_208 l1 u1 e_2 e_4 e_149 e_151 e_153 e_155) (o34_209 l1 u1 e_2 e_4 e_149 e_151 e_153 e_155) dX12_goes_45 (fun v_156 e_157 e_158 e_159 => ?_)
    have f_160 := o34_148 v_154.toInt.toNat (o34_210 l1 u1 e_2 e_4 e_149 e_151 e_153 e_155) (o34_211 l1 u1 e_2 e_4 e_149 e_151 e_153 e_155)
    refine lv_iload_n C0.1 C0.2.1 dX12_goes_46 rfl (lv_at hl 4 rfl) ?_
    refine y_ci h (y_rS (As := [.int v_156, .int a2]) (rest := [.int v_150, .ref (ad 1)]) C0 hZ h (c_X12_directionBy l G Z ad _ h.2 v_156 a2 (o34_153 (Int.le_trans f_160.1 e_158) (Int.le_trans e_159 f_160.2)) (o34_154 (Int.le_trans f_160.1 e_158) (Int.le_trans e_159 f_160.2)) (o34_153 l2 u2) (o34_154 l2 u2)) k_X12_directionBy q_1761 q_1760 hl.1 rfl rfl (Nat.le_of_ble_eq_true rfl) dX12_goes_47 ⟨Nat.le_of_ble_eq_true rfl, Nat.le_of_ble_eq_true rfl⟩ ⟨Nat.le_of_ble_eq_true rfl, Nat.le_of_ble_eq_true rfl⟩) (fun r_164 H locs ws_161 h u_162 p_163 => ?_)
    obtain ⟨e_165, e_166, e_167, e_168, e_169⟩ := p_163
    replace HE : FT = g14c_X12_goes (xso SM ad ws_161) r_164.toInt v_150.toInt a1.toInt v_5.toInt := HE.trans (by rw [e_165, e_151, e_149, e_166, (xg1 e_157 : v_156.toInt = (xso SM ad ws_12) 1 1 v_154.toInt.toNat), e_155, e_153]; rfl)
    have hO_172 := h.2
    have f_173 := o34_216 v_150.toInt.toNat (o34_217 l1 u1 e_2 e_4 e_149 e_151 e_153 e_155) (o34_218 l1 u1 e_2 e_4 e_149 e_151 e_153 e_155)
    refine y_iast C0 h kSM_1 rfl (by decide) (o34_214 l1 u1 e_2 e_4 e_149 e_151 e_153 e_155) (o34_215 l1 u1 e_2 e_4 e_149 e_151 e_153 e_155) (Int.le_trans f_173.1 (o34_153 e_167 e_168)) (Int.le_trans (o34_154 e_167 e_168) f_173.2) dX12_goes_50 (fun H locs ws_170 h u_171 => ?_)
    replace HE : FT = g15w_X12_goes (xso SM ad ws_170) a1.toInt v_5.toInt := HE.trans (by rw [(xso_A (i := 1) hO_172 h.2 kSM_1 rfl u_171)]; rfl)
    refine lv_aload_n C0.1 C0.2.1 dX12_goes_51 rfl (lv_at hl 2 rfl) ?_
    refine ng_X12_all C0 h kSM_0 q_1439 dX12_goes_52 ?_
    refine y_c2 (n := 36) C0 (by decide) dX12_goes_55 (fun v_174 e_175 => ?_)
    refine lv_iload_n C0.1 C0.2.1 dX12_goes_57 rfl (lv_at hl 3 rfl) ?_
    refine y_add C0 (o34_222 l1 u1 e_2 e_4 e_149 e_151 e_153 e_155 e_175 (le_min v_174) (le_max v_174) (le_min a1) (le_max a1) (le_min v_1) (le_max v_1) (le_min v_3) (le_max v_3) (le_min v_148) (le_max v_148) (le_min v_150) (le_max v_150) (le_min v_152) (le_max v_152) (le_min v_154) (le_max v_154)) (o34_223 l1 u1 e_2 e_4 e_149 e_151 e_153 e_155 e_175 (le_min v_174) (le_max v_174) (le_min a1) (le_max a1) (le_min v_1) (le_max v_1) (le_min v_3) (le_max v_3) (le_min v_148) (le_max v_148) (le_min v_150) (le_max v_150) (le_min v_152) (le_max v_152) (le_min v_154) (le_max v_154)) dX12_goes_58 (fun v_176 e_177 => ?_)
    refine lv_aload_n C0.1 C0.2.1 dX12_goes_59 rfl (lv_at hl 2 rfl) ?_
    refine lv_iload_n C0.1 C0.2.1 dX12_goes_60 rfl (lv_at hl 1 rfl) ?_
    refine lv_aload_n C0.1 C0.2.1 dX12_goes_61 rfl (lv_at hl 2 rfl) ?_
    refine ng_X12_all C0 h kSM_0 q_1439 dX12_goes_62 ?_
    refine y_c2 (n := 41) C0 (by decide) dX12_goes_65 (fun v_178 e_179 => ?_)
    refine lv_iload_n C0.1 C0.2.1 dX12_goes_67 rfl (lv_at hl 3 rfl) ?_
    refine y_add C0 (o34_224 l1 u1 e_2 e_4 e_149 e_151 e_153 e_155 e_175 e_177 e_179 (le_min v_178) (le_max v_178) (le_min a1) (le_max a1) (le_min v_1) (le_max v_1) (le_min v_3) (le_max v_3) (le_min v_148) (le_max v_148) (le_min v_150) (le_max v_150) (le_min v_152) (le_max v_152) (le_min v_154) (le_max v_154) (le_min v_174) (le_max v_174) (le_min v_176) (le_max v_176)) (o34_225 l1 u1 e_2 e_4 e_149 e_151 e_153 e_155 e_175 e_177 e_179 (le_min v_178) (le_max v_178) (le_min a1) (le_max a1) (le_min v_1) (le_max v_1) (le_min v_3) (le_max v_3) (le_min v_148) (le_max v_148) (le_min v_150) (le_max v_150) (le_min v_152) (le_max v_152) (le_min v_154) (le_max v_154) (le_min v_174) (le_max v_174) (le_min v_176) (le_max v_176)) dX12_goes_68 (fun v_180 e_181 => ?_)
    refine y_iald C0 h kSM_1 rfl (by decide) (o34_226 l1 u1 e_2 e_4 e_149 e_151 e_153 e_155 e_175 e_177 e_179 e_181) (o34_227 l1 u1 e_2 e_4 e_149 e_151 e_153 e_155 e_175 e_177 e_179 e_181) dX12_goes_69 (fun v_182 e_183 e_184 e_185 => ?_)
    have f_186 := o34_148 v_180.toInt.toNat (o34_228 l1 u1 e_2 e_4 e_149 e_151 e_153 e_155 e_175 e_177 e_179 e_181) (o34_229 l1 u1 e_2 e_4 e_149 e_151 e_153 e_155 e_175 e_177 e_179 e_181)
    have qh_187 : v_182.toInt = r_164.toInt := congrArg Int32.toInt (e_183.symm.trans (Eq.trans (congrArg (aI ws_170 1) (o34_230 l1 u1 e_2 e_4 e_149 e_151 e_153 e_155 e_175 e_177 e_179 e_181)) (Eq.trans rfl u_171.2.1)))
    refine y_ci h (y_rV (As := [.int v_5, .int v_182]) (rest := [.int v_176, .ref (ad 1)]) C0 hZ h (c_X12_streetFrom l G Z ad _ h.2 v_5 v_182 (o34_5 (Int.le_trans f_9.1 e_7) (Int.le_trans e_8 f_9.2)) (o34_6 (Int.le_trans f_9.1 e_7) (Int.le_trans e_8 f_9.2)) (o34_231 e_167 e_168 (Int.le_trans f_186.1 e_184) (Int.le_trans e_185 f_186.2) qh_187) (o34_232 e_167 e_168 (Int.le_trans f_186.1 e_184) (Int.le_trans e_185 f_186.2) qh_187) (Laid.pa hLd (Pa.tr (Pa.tr (Pa.fr u_13 (by decide)) (Pa.fr u_162 (by decide))) (Pa.st u_171 (o34_220 l1 u1 e_2 e_4 e_149 e_151 e_153 e_155) (o34_221 l1 u1 e_2 e_4 e_149 e_151 e_153 e_155))))) k_X12_streetFrom q_1713 q_80 q_1711 kSM_0 rfl rfl rfl hl.1 rfl rfl (Nat.le_of_ble_eq_true rfl) dX12_goes_70 ⟨Nat.le_of_ble_eq_true rfl, Nat.le_of_ble_eq_true rfl⟩ ⟨Nat.le_of_ble_eq_true rfl, Nat.le_of_ble_eq_true rfl⟩) (fun r_191 H locs ws_188 h u_189 p_190 => ?_)
    obtain ⟨e_192, e_193, e_194, e_195, e_196⟩ := p_190
    have g_197 := goes_ge hC (o34_233 l1 u1 e_2 e_4 e_149 e_151 e_153 e_155 e_175 e_177 e_179 e_181) (o34_234 l1 u1 e_2 e_4 e_149 e_151 e_153 e_155 e_175 e_177 e_179 e_181) e_6 (Eq.trans (Eq.symm (Fr.aI u_13 kSM_1 (by decide))) e_157) e_169 (o34_291 l2 u2) (o34_236 e_167 e_168 (Int.le_trans f_186.1 e_184) (Int.le_trans e_185 f_186.2) qh_187) (Pw.tr (Pw.tr (Pw.fr u_13 (by decide)) (Pw.fr u_162 (by decide))) (Pw.st u_171 (o34_219 l1 u1 e_2 e_4 e_149 e_151 e_153 e_155))) e_196 (o34_6 (Int.le_trans f_9.1 e_7) (Int.le_trans e_8 f_9.2))
    replace HE : FT = g16c_X12_goes (xso SM ad ws_188) r_191.toInt v_176.toInt a1.toInt := HE.trans (by rw [e_192, e_177, e_175, e_193, (xg1 e_183 : v_182.toInt = (xso SM ad ws_170) 1 1 v_180.toInt.toNat), e_181, e_179]; rfl)
    have hO_200 := h.2
    have f_201 := o34_239 v_176.toInt.toNat (o34_240 l1 u1 e_2 e_4 e_149 e_151 e_153 e_155 e_175 e_177 e_179 e_181) (o34_241 l1 u1 e_2 e_4 e_149 e_151 e_153 e_155 e_175 e_177 e_179 e_181)
    refine y_iast C0 h kSM_1 rfl (by decide) (o34_237 l1 u1 e_2 e_4 e_149 e_151 e_153 e_155 e_175 e_177 e_179 e_181) (o34_238 l1 u1 e_2 e_4 e_149 e_151 e_153 e_155 e_175 e_177 e_179 e_181) (Int.le_trans f_201.1 (o34_242 e_194 e_195 g_197)) (Int.le_trans (o34_243 e_194 e_195 g_197) f_201.2) dX12_goes_73 (fun H locs ws_198 h u_199 => ?_)
    replace HE : FT = g17w_X12_goes (xso SM ad ws_198) a1.toInt := HE.trans (by rw [(xso_A (i := 1) hO_200 h.2 kSM_1 rfl u_199)]; rfl)
    refine lv_aload_n C0.1 C0.2.1 dX12_goes_74 rfl (lv_at hl 2 rfl) ?_
    refine ng_X12_all C0 h kSM_0 q_1439 dX12_goes_75 ?_
    refine y_c2 (n := 46) C0 (by decide) dX12_goes_78 (fun v_202 e_203 => ?_)
    refine lv_iload_n C0.1 C0.2.1 dX12_goes_80 rfl (lv_at hl 3 rfl) ?_
    refine y_add C0 (o34_247 l1 u1 e_2 e_4 e_149 e_151 e_153 e_155 e_175 e_177 e_179 e_181 e_203 (le_min v_202) (le_max v_202) (le_min a1) (le_max a1) (le_min v_1) (le_max v_1) (le_min v_3) (le_max v_3) (le_min v_148) (le_max v_148) (le_min v_150) (le_max v_150) (le_min v_152) (le_max v_152) (le_min v_154) (le_max v_154) (le_min v_174) (le_max v_174) (le_min v_176) (le_max v_176) (le_min v_178) (le_max v_178) (le_min v_180) (le_max v_180)) (o34_248 l1 u1 e_2 e_4 e_149 e_151 e_153 e_155 e_175 e_177 e_179 e_181 e_203 (le_min v_202) (le_max v_202) (le_min a1) (le_max a1) (le_min v_1) (le_max v_1) (le_min v_3) (le_max v_3) (le_min v_148) (le_max v_148) (le_min v_150) (le_max v_150) (le_min v_152) (le_max v_152) (le_min v_154) (le_max v_154) (le_min v_174) (le_max v_174) (le_min v_176) (le_max v_176) (le_min v_178) (le_max v_178) (le_min v_180) (le_max v_180)) dX12_goes_81 (fun v_204 e_205 => ?_)
    refine lv_dup2_11 C0.1 C0.2.1 dX12_goes_82 rfl rfl ?_
    refine y_iald C0 h kSM_1 rfl (by decide) (o34_249 l1 u1 e_2 e_4 e_149 e_151 e_153 e_155 e_175 e_177 e_179 e_181 e_203 e_205) (o34_250 l1 u1 e_2 e_4 e_149 e_151 e_153 e_155 e_175 e_177 e_179 e_181 e_203 e_205) dX12_goes_83 (fun v_206 e_207 e_208 e_209 => ?_)
    have f_210 := o34_159 v_204.toInt.toNat (o34_251 l1 u1 e_2 e_4 e_149 e_151 e_153 e_155 e_175 e_177 e_179 e_181 e_203 e_205) (o34_252 l1 u1 e_2 e_4 e_149 e_151 e_153 e_155 e_175 e_177 e_179 e_181 e_203 e_205)
    refine lv_iload C0.1 C0.2.1 dX12_goes_84 (lv_at hl 0 rfl) ?_
    refine y_sub C0 (o34_292 e_147 (Int.le_trans f_210.1 e_208) (Int.le_trans e_209 f_210.2) (le_min v_206) (le_max v_206) (le_min v_146) (le_max v_146)) (o34_293 e_147 (Int.le_trans f_210.1 e_208) (Int.le_trans e_209 f_210.2) (le_min v_206) (le_max v_206) (le_min v_146) (le_max v_146)) dX12_goes_86 (fun v_211 e_212 => ?_)
    have hO_215 := h.2
    have f_216 := o34_260 v_204.toInt.toNat (o34_251 l1 u1 e_2 e_4 e_149 e_151 e_153 e_155 e_175 e_177 e_179 e_181 e_203 e_205) (o34_252 l1 u1 e_2 e_4 e_149 e_151 e_153 e_155 e_175 e_177 e_179 e_181 e_203 e_205)
    refine y_iast C0 h kSM_1 rfl (by decide) (o34_249 l1 u1 e_2 e_4 e_149 e_151 e_153 e_155 e_175 e_177 e_179 e_181 e_203 e_205) (o34_250 l1 u1 e_2 e_4 e_149 e_151 e_153 e_155 e_175 e_177 e_179 e_181 e_203 e_205) (Int.le_trans f_216.1 (o34_294 e_147 (Int.le_trans f_210.1 e_208) (Int.le_trans e_209 f_210.2) e_212)) (Int.le_trans (o34_295 e_147 (Int.le_trans f_210.1 e_208) (Int.le_trans e_209 f_210.2) e_212) f_216.2) dX12_goes_87 (fun H locs ws_213 h u_214 => ?_)
    replace HE : FT = g18w_X12_goes (xso SM ad ws_213) a1.toInt := HE.trans (by rw [(xso_A (i := 1) hO_215 h.2 kSM_1 rfl u_214), e_212, (o34_296 e_147 (Int.le_trans f_210.1 e_208) (Int.le_trans e_209 f_210.2) e_212), (xg1 e_207 : v_206.toInt = (xso SM ad ws_198) 1 1 v_204.toInt.toNat), e_205, e_203]; rfl)
    refine lv_aload_n C0.1 C0.2.1 dX12_goes_88 rfl (lv_at hl 2 rfl) ?_
    refine ng_X12_all C0 h kSM_0 q_1439 dX12_goes_89 ?_
    refine y_c2 (n := 56) C0 (by decide) dX12_goes_92 (fun v_217 e_218 => ?_)
    refine lv_iload_n C0.1 C0.2.1 dX12_goes_94 rfl (lv_at hl 3 rfl) ?_
    refine y_add C0 (o34_266 l1 u1 e_2 e_4 e_149 e_151 e_153 e_155 e_175 e_177 e_179 e_181 e_203 e_205 e_218 (le_min v_217) (le_max v_217) (le_min a1) (le_max a1) (le_min v_1) (le_max v_1) (le_min v_3) (le_max v_3) (le_min v_148) (le_max v_148) (le_min v_150) (le_max v_150) (le_min v_152) (le_max v_152) (le_min v_154) (le_max v_154) (le_min v_174) (le_max v_174) (le_min v_176) (le_max v_176) (le_min v_178) (le_max v_178) (le_min v_180) (le_max v_180) (le_min v_202) (le_max v_202) (le_min v_204) (le_max v_204)) (o34_267 l1 u1 e_2 e_4 e_149 e_151 e_153 e_155 e_175 e_177 e_179 e_181 e_203 e_205 e_218 (le_min v_217) (le_max v_217) (le_min a1) (le_max a1) (le_min v_1) (le_max v_1) (le_min v_3) (le_max v_3) (le_min v_148) (le_max v_148) (le_min v_150) (le_max v_150) (le_min v_152) (le_max v_152) (le_min v_154) (le_max v_154) (le_min v_174) (le_max v_174) (le_min v_176) (le_max v_176) (le_min v_178) (le_max v_178) (le_min v_180) (le_max v_180) (le_min v_202) (le_max v_202) (le_min v_204) (le_max v_204)) dX12_goes_95 (fun v_219 e_220 => ?_)
    refine y_c3 (n := 999) C0 (by decide) dX12_goes_96 (fun v_221 e_222 => ?_)
    refine lv_aload_n C0.1 C0.2.1 dX12_goes_99 rfl (lv_at hl 2 rfl) ?_
    refine ng_X12_all C0 h kSM_0 q_1439 dX12_goes_100 ?_
    refine y_c2 (n := 56) C0 (by decide) dX12_goes_103 (fun v_223 e_224 => ?_)
    refine lv_iload_n C0.1 C0.2.1 dX12_goes_105 rfl (lv_at hl 3 rfl) ?_
    refine y_add C0 (o34_268 l1 u1 e_2 e_4 e_149 e_151 e_153 e_155 e_175 e_177 e_179 e_181 e_203 e_205 e_218 e_220 e_224 (le_min v_223) (le_max v_223) (le_min a1) (le_max a1) (le_min v_1) (le_max v_1) (le_min v_3) (le_max v_3) (le_min v_148) (le_max v_148) (le_min v_150) (le_max v_150) (le_min v_152) (le_max v_152) (le_min v_154) (le_max v_154) (le_min v_174) (le_max v_174) (le_min v_176) (le_max v_176) (le_min v_178) (le_max v_178) (le_min v_180) (le_max v_180) (le_min v_202) (le_max v_202) (le_min v_204) (le_max v_204) (le_min v_217) (le_max v_217) (le_min v_219) (le_max v_219)) (o34_269 l1 u1 e_2 e_4 e_149 e_151 e_153 e_155 e_175 e_177 e_179 e_181 e_203 e_205 e_218 e_220 e_224 (le_min v_223) (le_max v_223) (le_min a1) (le_max a1) (le_min v_1) (le_max v_1) (le_min v_3) (le_max v_3) (le_min v_148) (le_max v_148) (le_min v_150) (le_max v_150) (le_min v_152) (le_max v_152) (le_min v_154) (le_max v_154) (le_min v_174) (le_max v_174) (le_min v_176) (le_max v_176) (le_min v_178) (le_max v_178) (le_min v_180) (le_max v_180) (le_min v_202) (le_max v_202) (le_min v_204) (le_max v_204) (le_min v_217) (le_max v_217) (le_min v_219) (le_max v_219)) dX12_goes_106 (fun v_225 e_226 => ?_)
    refine y_iald C0 h kSM_1 rfl (by decide) (o34_270 l1 u1 e_2 e_4 e_149 e_151 e_153 e_155 e_175 e_177 e_179 e_181 e_203 e_205 e_218 e_220 e_224 e_226) (o34_271 l1 u1 e_2 e_4 e_149 e_151 e_153 e_155 e_175 e_177 e_179 e_181 e_203 e_205 e_218 e_220 e_224 e_226) dX12_goes_107 (fun v_227 e_228 e_229 e_230 => ?_)
    refine lv_iload C0.1 C0.2.1 dX12_goes_108 (lv_at hl 0 rfl) ?_
    refine y_add C0 (o34_297 e_147 (Int.le_trans f_210.1 e_208) (Int.le_trans e_209 f_210.2) e_212 (le_min v_227) (le_max v_227) (le_min v_146) (le_max v_146) (le_min v_206) (le_max v_206) (le_min v_211) (le_max v_211)) (o34_298 e_147 (Int.le_trans f_210.1 e_208) (Int.le_trans e_209 f_210.2) e_212 (le_min v_227) (le_max v_227) (le_min v_146) (le_max v_146) (le_min v_206) (le_max v_206) (le_min v_211) (le_max v_211)) dX12_goes_110 (fun v_231 e_232 => ?_)
    refine y_ci h (y_rS (As := [.int v_221, .int v_231]) (rest := [.int v_219, .ref (ad 1)]) C0 hZ h (c_X12_lesser l G Z ad _ h.2 v_221 v_231) k_X12_lesser q_1784 q_1783 hl.1 rfl rfl (Nat.le_of_ble_eq_true rfl) dX12_goes_111 ⟨Nat.le_of_ble_eq_true rfl, Nat.le_of_ble_eq_true rfl⟩ ⟨Nat.le_of_ble_eq_true rfl, Nat.le_of_ble_eq_true rfl⟩) (fun r_236 H locs ws_233 h u_234 p_235 => ?_)
    obtain ⟨e_237, e_238, e_239, e_240⟩ := p_235
    replace HE : FT = g19c_X12_goes (xso SM ad ws_233) r_236.toInt v_219.toInt := HE.trans (by rw [e_237, e_220, e_218, e_238, e_232, (o34_299 e_147 (Int.le_trans f_210.1 e_208) (Int.le_trans e_209 f_210.2) e_212 e_222 e_232 e_239 e_240), (xg1 e_228 : v_227.toInt = (xso SM ad ws_213) 1 1 v_225.toInt.toNat), e_226, e_224, e_222]; rfl)
    have hO_243 := h.2
    have f_244 := o34_274 v_219.toInt.toNat (o34_275 l1 u1 e_2 e_4 e_149 e_151 e_153 e_155 e_175 e_177 e_179 e_181 e_203 e_205 e_218 e_220 e_224 e_226) (o34_276 l1 u1 e_2 e_4 e_149 e_151 e_153 e_155 e_175 e_177 e_179 e_181 e_203 e_205 e_218 e_220 e_224 e_226)
    refine y_iast C0 h kSM_1 rfl (by decide) (o34_272 l1 u1 e_2 e_4 e_149 e_151 e_153 e_155 e_175 e_177 e_179 e_181 e_203 e_205 e_218 e_220 e_224 e_226) (o34_273 l1 u1 e_2 e_4 e_149 e_151 e_153 e_155 e_175 e_177 e_179 e_181 e_203 e_205 e_218 e_220 e_224 e_226) (Int.le_trans f_244.1 (le_min r_236)) (Int.le_trans (le_max r_236) f_244.2) dX12_goes_114 (fun H locs ws_241 h u_242 => ?_)
    replace HE : FT = g20w_X12_goes (xso SM ad ws_241) := HE.trans (by rw [(xso_A (i := 1) hO_243 h.2 kSM_1 rfl u_242)]; rfl)
    refine lv_aload_n C0.1 C0.2.1 dX12_goes_115 rfl (lv_at hl 2 rfl) ?_
    refine ng_X12_all C0 h kSM_0 q_1439 dX12_goes_116 ?_
    refine y_c2 (n := 111) C0 (by decide) dX12_goes_119 (fun v_245 e_246 => ?_)
    refine lv_dup2_11 C0.1 C0.2.1 dX12_goes_121 rfl rfl ?_
    refine y_iald C0 h kSM_1 rfl (by decide) (o34_280 e_246) (o34_281 e_246) dX12_goes_122 (fun v_247 e_248 e_249 e_250 => ?_)
    have e_251 : aI ws_241 1 111 = v_247 := (congrArg (aI ws_241 1) (ix_c (c := 111) (o34_282 e_246))).symm.trans e_248
    refine y_c1 (n := 1) C0 (by decide) dX12_goes_123 (fun v_252 e_253 => ?_)
    refine xr_iadd C0 dX12_goes_124 (fun v_254 e_255 => ?_)
    have hO_258 := h.2
    have f_259 := o34_283 v_245.toInt.toNat (o34_284 e_246) (o34_285 e_246)
    refine y_iast C0 h kSM_1 rfl (by decide) (o34_280 e_246) (o34_281 e_246) (Int.le_trans f_259.1 (le_min v_254)) (Int.le_trans (le_max v_254) f_259.2) dX12_goes_125 (fun H locs ws_256 h u_257 => ?_)
    have e_260 : aI ws_256 1 111 = v_254 := (congrArg (aI ws_256 1) (ix_c (c := 111) (o34_282 e_246))).symm.trans u_257.2.1
    replace HE : FT = g21w_X12_goes (xso SM ad ws_256) := HE.trans (by rw [(xso_A (i := 1) hO_258 h.2 kSM_1 rfl u_257), e_255, e_253, (xg1 e_248 : v_247.toInt = (xso SM ad ws_241) 1 1 v_245.toInt.toNat), e_246]; rfl)
    refine lv_iload C0.1 C0.2.1 dX12_goes_126 (lv_at hl 0 rfl) ?_
    replace HE : FT = ((xso SM ad ws_256), v_146.toInt) := HE.trans (by rw [(o34_299 e_147 (Int.le_trans f_210.1 e_208) (Int.le_trans e_209 f_210.2) e_212 e_222 e_232 e_239 e_240)]; rfl)
    rw [hQ]
    exact y_iret C0 h (Fr.tr (Fr.tr (Fr.tr (Fr.tr (Fr.tr (Fr.tr (Fr.tr (Fr.tr (Fr.mono u_13 (by decide)) (Fr.mono u_162 (by decide))) (Fr.up u_171.1 kSM_1 (by decide))) (Fr.mono u_189 (by decide))) (Fr.up u_199.1 kSM_1 (by decide))) (Fr.up u_214.1 kSM_1 (by decide))) (Fr.mono u_234 (by decide))) (Fr.up u_242.1 kSM_1 (by decide))) (Fr.up u_257.1 kSM_1 (by decide))) ⟨(congrArg Prod.fst (HE.symm.trans hFT)), (congrArg Prod.snd (HE.symm.trans hFT)), (o34_300 e_147 (Int.le_trans f_210.1 e_208) (Int.le_trans e_209 f_210.2) e_212 e_222 e_232 e_239 e_240), (o34_301 e_147 (Int.le_trans f_210.1 e_208) (Int.le_trans e_209 f_210.2) e_212 e_222 e_232 e_239 e_240), (Pa.tr (Pa.tr (Pa.tr (Pa.tr (Pa.tr (Pa.tr (Pa.tr (Pa.tr (Pa.fr u_13 (by decide)) (Pa.fr u_162 (by decide))) (Pa.st u_171 (o34_220 l1 u1 e_2 e_4 e_149 e_151 e_153 e_155) (o34_221 l1 u1 e_2 e_4 e_149 e_151 e_153 e_155))) (Pa.fr u_189 (by decide))) (Pa.st u_199 (o34_245 l1 u1 e_2 e_4 e_149 e_151 e_153 e_155 e_175 e_177 e_179 e_181) (o34_246 l1 u1 e_2 e_4 e_149 e_151 e_153 e_155 e_175 e_177 e_179 e_181))) (Pa.st u_214 (o34_264 l1 u1 e_2 e_4 e_149 e_151 e_153 e_155 e_175 e_177 e_179 e_181 e_203 e_205) (o34_265 l1 u1 e_2 e_4 e_149 e_151 e_153 e_155 e_175 e_177 e_179 e_181 e_203 e_205))) (Pa.fr u_234 (by decide))) (Pa.st u_242 (o34_278 l1 u1 e_2 e_4 e_149 e_151 e_153 e_155 e_175 e_177 e_179 e_181 e_203 e_205 e_218 e_220 e_224 e_226) (o34_279 l1 u1 e_2 e_4 e_149 e_151 e_153 e_155 e_175 e_177 e_179 e_181 e_203 e_205 e_218 e_220 e_224 e_226))) (Pa.st u_257 (o34_287 e_246) (o34_288 e_246))), (Pw.tr (Pw.tr (Pw.tr (Pw.tr (Pw.tr (Pw.tr (Pw.tr (Pw.tr (Pw.fr u_13 (by decide)) (Pw.fr u_162 (by decide))) (Pw.st u_171 (o34_219 l1 u1 e_2 e_4 e_149 e_151 e_153 e_155))) (Pw.fr u_189 (by decide))) (Pw.st u_199 (o34_244 l1 u1 e_2 e_4 e_149 e_151 e_153 e_155 e_175 e_177 e_179 e_181))) (Pw.st u_214 (o34_263 l1 u1 e_2 e_4 e_149 e_151 e_153 e_155 e_175 e_177 e_179 e_181 e_203 e_205))) (Pw.fr u_234 (by decide))) (Pw.st u_242 (o34_277 l1 u1 e_2 e_4 e_149 e_151 e_153 e_155 e_175 e_177 e_179 e_181 e_203 e_205 e_218 e_220 e_224 e_226))) (Pw.st u_257 (o34_286 e_246)))⟩ dX12_goes_128
