theorem dX11_buy_0 : decode cX11_buy 0 = .ok (.aload_n 0, 1) := by decide +kernel
theorem dX11_buy_1 : decode cX11_buy 1 = .ok (.iload_n 1, 1) := by decide +kernel
theorem dX11_buy_2 : decode cX11_buy 2 = .ok (.invokevirtual 141, 3) := by decide +kernel
theorem dX11_buy_5 : decode cX11_buy 5 = .ok (.ifCond .ne 6, 3) := by decide +kernel
theorem dX11_buy_8 : decode cX11_buy 8 = .ok (.bipush (-2), 2) := by decide +kernel
theorem dX11_buy_10 : decode cX11_buy 10 = .ok (.ireturn, 1) := by decide +kernel
theorem dX11_buy_11 : decode cX11_buy 11 = .ok (.iload_n 2, 1) := by decide +kernel
theorem dX11_buy_12 : decode cX11_buy 12 = .ok (.iconst 1, 1) := by decide +kernel
theorem dX11_buy_13 : decode cX11_buy 13 = .ok (.if_icmp .lt 9, 3) := by decide +kernel
theorem dX11_buy_16 : decode cX11_buy 16 = .ok (.iload_n 2, 1) := by decide +kernel
theorem dX11_buy_17 : decode cX11_buy 17 = .ok (.bipush 20, 2) := by decide +kernel
theorem dX11_buy_19 : decode cX11_buy 19 = .ok (.if_icmp .le 6, 3) := by decide +kernel
theorem dX11_buy_22 : decode cX11_buy 22 = .ok (.bipush (-3), 2) := by decide +kernel
theorem dX11_buy_24 : decode cX11_buy 24 = .ok (.ireturn, 1) := by decide +kernel
theorem dX11_buy_25 : decode cX11_buy 25 = .ok (.iconst 0, 1) := by decide +kernel
theorem dX11_buy_26 : decode cX11_buy 26 = .ok (.istore_n 3, 1) := by decide +kernel
theorem dX11_buy_27 : decode cX11_buy 27 = .ok (.iconst 0, 1) := by decide +kernel
theorem dX11_buy_28 : decode cX11_buy 28 = .ok (.istore 4, 2) := by decide +kernel
theorem dX11_buy_30 : decode cX11_buy 30 = .ok (.iload 4, 2) := by decide +kernel
theorem dX11_buy_32 : decode cX11_buy 32 = .ok (.iload_n 2, 1) := by decide +kernel
theorem dX11_buy_33 : decode cX11_buy 33 = .ok (.if_icmp .ge 22, 3) := by decide +kernel
theorem dX11_buy_36 : decode cX11_buy 36 = .ok (.iload_n 3, 1) := by decide +kernel
theorem dX11_buy_37 : decode cX11_buy 37 = .ok (.aload_n 0, 1) := by decide +kernel
theorem dX11_buy_38 : decode cX11_buy 38 = .ok (.getfield 27, 3) := by decide +kernel
theorem dX11_buy_41 : decode cX11_buy 41 = .ok (.iload_n 1, 1) := by decide +kernel
theorem dX11_buy_42 : decode cX11_buy 42 = .ok (.iload 4, 2) := by decide +kernel
theorem dX11_buy_44 : decode cX11_buy 44 = .ok (.invokevirtual 223, 3) := by decide +kernel
theorem dX11_buy_47 : decode cX11_buy 47 = .ok (.iadd, 1) := by decide +kernel
theorem dX11_buy_48 : decode cX11_buy 48 = .ok (.istore_n 3, 1) := by decide +kernel
theorem dX11_buy_49 : decode cX11_buy 49 = .ok (.iinc 4 1, 3) := by decide +kernel
theorem dX11_buy_52 : decode cX11_buy 52 = .ok (.goto (-22), 3) := by decide +kernel
theorem dX11_buy_55 : decode cX11_buy 55 = .ok (.aload_n 0, 1) := by decide +kernel
theorem dX11_buy_56 : decode cX11_buy 56 = .ok (.getfield 27, 3) := by decide +kernel
theorem dX11_buy_59 : decode cX11_buy 59 = .ok (.getfield 145, 3) := by decide +kernel
theorem dX11_buy_62 : decode cX11_buy 62 = .ok (.astore 4, 2) := by decide +kernel
theorem dX11_buy_64 : decode cX11_buy 64 = .ok (.iload_n 3, 1) := by decide +kernel
theorem dX11_buy_65 : decode cX11_buy 65 = .ok (.aload 4, 2) := by decide +kernel
theorem dX11_buy_67 : decode cX11_buy 67 = .ok (.getfield 157, 3) := by decide +kernel
theorem dX11_buy_70 : decode cX11_buy 70 = .ok (.iload_n 1, 1) := by decide +kernel
theorem dX11_buy_71 : decode cX11_buy 71 = .ok (.iaload, 1) := by decide +kernel
theorem dX11_buy_72 : decode cX11_buy 72 = .ok (.if_icmp .le 6, 3) := by decide +kernel
theorem dX11_buy_75 : decode cX11_buy 75 = .ok (.bipush (-5), 2) := by decide +kernel
theorem dX11_buy_77 : decode cX11_buy 77 = .ok (.ireturn, 1) := by decide +kernel
theorem dX11_buy_78 : decode cX11_buy 78 = .ok (.aload 4, 2) := by decide +kernel
theorem dX11_buy_80 : decode cX11_buy 80 = .ok (.getfield 154, 3) := by decide +kernel
theorem dX11_buy_83 : decode cX11_buy 83 = .ok (.iload_n 1, 1) := by decide +kernel
theorem dX11_buy_84 : decode cX11_buy 84 = .ok (.iaload, 1) := by decide +kernel
theorem dX11_buy_85 : decode cX11_buy 85 = .ok (.iload_n 2, 1) := by decide +kernel
theorem dX11_buy_86 : decode cX11_buy 86 = .ok (.iadd, 1) := by decide +kernel
theorem dX11_buy_87 : decode cX11_buy 87 = .ok (.bipush 99, 2) := by decide +kernel
theorem dX11_buy_89 : decode cX11_buy 89 = .ok (.if_icmp .le 6, 3) := by decide +kernel
theorem dX11_buy_92 : decode cX11_buy 92 = .ok (.bipush (-4), 2) := by decide +kernel
theorem dX11_buy_94 : decode cX11_buy 94 = .ok (.ireturn, 1) := by decide +kernel
theorem dX11_buy_95 : decode cX11_buy 95 = .ok (.aload_n 0, 1) := by decide +kernel
theorem dX11_buy_96 : decode cX11_buy 96 = .ok (.aload 4, 2) := by decide +kernel
theorem dX11_buy_98 : decode cX11_buy 98 = .ok (.invokevirtual 201, 3) := by decide +kernel
theorem dX11_buy_101 : decode cX11_buy 101 = .ok (.aload 4, 2) := by decide +kernel
theorem dX11_buy_103 : decode cX11_buy 103 = .ok (.getfield 157, 3) := by decide +kernel
theorem dX11_buy_106 : decode cX11_buy 106 = .ok (.iload_n 1, 1) := by decide +kernel
theorem dX11_buy_107 : decode cX11_buy 107 = .ok (.dup2, 1) := by decide +kernel
theorem dX11_buy_108 : decode cX11_buy 108 = .ok (.iaload, 1) := by decide +kernel
theorem dX11_buy_109 : decode cX11_buy 109 = .ok (.iload_n 3, 1) := by decide +kernel
theorem dX11_buy_110 : decode cX11_buy 110 = .ok (.isub, 1) := by decide +kernel
theorem dX11_buy_111 : decode cX11_buy 111 = .ok (.iastore, 1) := by decide +kernel
theorem dX11_buy_112 : decode cX11_buy 112 = .ok (.aload 4, 2) := by decide +kernel
theorem dX11_buy_114 : decode cX11_buy 114 = .ok (.getfield 154, 3) := by decide +kernel
theorem dX11_buy_117 : decode cX11_buy 117 = .ok (.iload_n 1, 1) := by decide +kernel
theorem dX11_buy_118 : decode cX11_buy 118 = .ok (.dup2, 1) := by decide +kernel
theorem dX11_buy_119 : decode cX11_buy 119 = .ok (.iaload, 1) := by decide +kernel
theorem dX11_buy_120 : decode cX11_buy 120 = .ok (.iload_n 2, 1) := by decide +kernel
theorem dX11_buy_121 : decode cX11_buy 121 = .ok (.iadd, 1) := by decide +kernel
theorem dX11_buy_122 : decode cX11_buy 122 = .ok (.iastore, 1) := by decide +kernel
theorem dX11_buy_123 : decode cX11_buy 123 = .ok (.aload 4, 2) := by decide +kernel
theorem dX11_buy_125 : decode cX11_buy 125 = .ok (.getfield 177, 3) := by decide +kernel
theorem dX11_buy_128 : decode cX11_buy 128 = .ok (.aload 4, 2) := by decide +kernel
theorem dX11_buy_130 : decode cX11_buy 130 = .ok (.getfield 148, 3) := by decide +kernel
theorem dX11_buy_133 : decode cX11_buy 133 = .ok (.iload_n 1, 1) := by decide +kernel
theorem dX11_buy_134 : decode cX11_buy 134 = .ok (.iaload, 1) := by decide +kernel
theorem dX11_buy_135 : decode cX11_buy 135 = .ok (.dup2, 1) := by decide +kernel
theorem dX11_buy_136 : decode cX11_buy 136 = .ok (.iaload, 1) := by decide +kernel
theorem dX11_buy_137 : decode cX11_buy 137 = .ok (.iload_n 2, 1) := by decide +kernel
theorem dX11_buy_138 : decode cX11_buy 138 = .ok (.iadd, 1) := by decide +kernel
theorem dX11_buy_139 : decode cX11_buy 139 = .ok (.iastore, 1) := by decide +kernel
theorem dX11_buy_140 : decode cX11_buy 140 = .ok (.aload_n 0, 1) := by decide +kernel
theorem dX11_buy_141 : decode cX11_buy 141 = .ok (.getfield 41, 3) := by decide +kernel
theorem dX11_buy_144 : decode cX11_buy 144 = .ok (.invokevirtual 208, 3) := by decide +kernel
theorem dX11_buy_147 : decode cX11_buy 147 = .ok (.iload_n 3, 1) := by decide +kernel
theorem dX11_buy_148 : decode cX11_buy 148 = .ok (.ireturn, 1) := by decide +kernel
theorem dX11_city_0 : decode cX11_city 0 = .ok (.iload_n 1, 1) := by decide +kernel
theorem dX11_city_1 : decode cX11_city 1 = .ok (.ifCond .lt 14, 3) := by decide +kernel
theorem dX11_city_4 : decode cX11_city 4 = .ok (.iload_n 1, 1) := by decide +kernel
theorem dX11_city_5 : decode cX11_city 5 = .ok (.aload_n 0, 1) := by decide +kernel
theorem dX11_city_6 : decode cX11_city 6 = .ok (.getfield 37, 3) := by decide +kernel
theorem dX11_city_9 : decode cX11_city 9 = .ok (.invokevirtual 117, 3) := by decide +kernel
theorem dX11_city_12 : decode cX11_city 12 = .ok (.if_icmp .le 6, 3) := by decide +kernel
theorem dX11_city_15 : decode cX11_city 15 = .ok (.bipush (-3), 2) := by decide +kernel
theorem dX11_city_17 : decode cX11_city 17 = .ok (.ireturn, 1) := by decide +kernel
theorem dX11_city_18 : decode cX11_city 18 = .ok (.aload_n 0, 1) := by decide +kernel
theorem dX11_city_19 : decode cX11_city 19 = .ok (.getfield 37, 3) := by decide +kernel
theorem dX11_city_22 : decode cX11_city 22 = .ok (.iload_n 1, 1) := by decide +kernel
theorem dX11_city_23 : decode cX11_city 23 = .ok (.invokevirtual 121, 3) := by decide +kernel
theorem dX11_city_26 : decode cX11_city 26 = .ok (.istore_n 2, 1) := by decide +kernel
theorem dX11_city_27 : decode cX11_city 27 = .ok (.iload_n 2, 1) := by decide +kernel
theorem dX11_city_28 : decode cX11_city 28 = .ok (.ifCond .eq 8, 3) := by decide +kernel
theorem dX11_city_31 : decode cX11_city 31 = .ok (.bipush (-30), 2) := by decide +kernel
theorem dX11_city_33 : decode cX11_city 33 = .ok (.iload_n 2, 1) := by decide +kernel
theorem dX11_city_34 : decode cX11_city 34 = .ok (.isub, 1) := by decide +kernel
theorem dX11_city_35 : decode cX11_city 35 = .ok (.ireturn, 1) := by decide +kernel
theorem dX11_city_36 : decode cX11_city 36 = .ok (.aload_n 0, 1) := by decide +kernel
theorem dX11_city_37 : decode cX11_city 37 = .ok (.getfield 27, 3) := by decide +kernel
theorem dX11_city_40 : decode cX11_city 40 = .ok (.aload_n 0, 1) := by decide +kernel
theorem dX11_city_41 : decode cX11_city 41 = .ok (.getfield 31, 3) := by decide +kernel
theorem dX11_city_44 : decode cX11_city 44 = .ok (.invokevirtual 125, 3) := by decide +kernel
theorem dX11_city_47 : decode cX11_city 47 = .ok (.aload_n 0, 1) := by decide +kernel
theorem dX11_city_48 : decode cX11_city 48 = .ok (.invokevirtual 128, 3) := by decide +kernel
theorem dX11_city_51 : decode cX11_city 51 = .ok (.aload_n 0, 1) := by decide +kernel
theorem dX11_city_52 : decode cX11_city 52 = .ok (.getfield 27, 3) := by decide +kernel
theorem dX11_city_55 : decode cX11_city 55 = .ok (.getfield 131, 3) := by decide +kernel
theorem dX11_city_58 : decode cX11_city 58 = .ok (.ireturn, 1) := by decide +kernel
theorem dX11_crossing_0 : decode cX11_crossing 0 = .ok (.aload_n 0, 1) := by decide +kernel
theorem dX11_crossing_1 : decode cX11_crossing 1 = .ok (.iload_n 1, 1) := by decide +kernel
theorem dX11_crossing_2 : decode cX11_crossing 2 = .ok (.invokevirtual 171, 3) := by decide +kernel
theorem dX11_crossing_5 : decode cX11_crossing 5 = .ok (.ifCond .ne 6, 3) := by decide +kernel
theorem dX11_crossing_8 : decode cX11_crossing 8 = .ok (.bipush (-2), 2) := by decide +kernel
theorem dX11_crossing_10 : decode cX11_crossing 10 = .ok (.ireturn, 1) := by decide +kernel
theorem dX11_crossing_11 : decode cX11_crossing 11 = .ok (.aload_n 0, 1) := by decide +kernel
theorem dX11_crossing_12 : decode cX11_crossing 12 = .ok (.getfield 27, 3) := by decide +kernel
theorem dX11_crossing_15 : decode cX11_crossing 15 = .ok (.getfield 145, 3) := by decide +kernel
theorem dX11_crossing_18 : decode cX11_crossing 18 = .ok (.astore_n 3, 1) := by decide +kernel
theorem dX11_crossing_19 : decode cX11_crossing 19 = .ok (.iload_n 2, 1) := by decide +kernel
theorem dX11_crossing_20 : decode cX11_crossing 20 = .ok (.tableswitch 104 0 4 #[36, 56, 63, 79, 95], 36) := by decide +kernel
theorem dX11_crossing_56 : decode cX11_crossing 56 = .ok (.aload_n 0, 1) := by decide +kernel
theorem dX11_crossing_57 : decode cX11_crossing 57 = .ok (.getfield 27, 3) := by decide +kernel
theorem dX11_crossing_60 : decode cX11_crossing 60 = .ok (.iload_n 1, 1) := by decide +kernel
theorem dX11_crossing_61 : decode cX11_crossing 61 = .ok (.aload_n 3, 1) := by decide +kernel
theorem dX11_crossing_62 : decode cX11_crossing 62 = .ok (.getfield 174, 3) := by decide +kernel
theorem dX11_crossing_65 : decode cX11_crossing 65 = .ok (.aload_n 3, 1) := by decide +kernel
theorem dX11_crossing_66 : decode cX11_crossing 66 = .ok (.getfield 177, 3) := by decide +kernel
theorem dX11_crossing_69 : decode cX11_crossing 69 = .ok (.iload_n 1, 1) := by decide +kernel
theorem dX11_crossing_70 : decode cX11_crossing 70 = .ok (.iaload, 1) := by decide +kernel
theorem dX11_crossing_71 : decode cX11_crossing 71 = .ok (.iconst 0, 1) := by decide +kernel
theorem dX11_crossing_72 : decode cX11_crossing 72 = .ok (.invokevirtual 180, 3) := by decide +kernel
theorem dX11_crossing_75 : decode cX11_crossing 75 = .ok (.ireturn, 1) := by decide +kernel
theorem dX11_crossing_76 : decode cX11_crossing 76 = .ok (.aload_n 3, 1) := by decide +kernel
theorem dX11_crossing_77 : decode cX11_crossing 77 = .ok (.getfield 177, 3) := by decide +kernel
theorem dX11_crossing_80 : decode cX11_crossing 80 = .ok (.iload_n 1, 1) := by decide +kernel
theorem dX11_crossing_81 : decode cX11_crossing 81 = .ok (.iaload, 1) := by decide +kernel
theorem dX11_crossing_82 : decode cX11_crossing 82 = .ok (.ireturn, 1) := by decide +kernel
theorem dX11_crossing_83 : decode cX11_crossing 83 = .ok (.aload_n 0, 1) := by decide +kernel
theorem dX11_crossing_84 : decode cX11_crossing 84 = .ok (.getfield 27, 3) := by decide +kernel
theorem dX11_crossing_87 : decode cX11_crossing 87 = .ok (.aload_n 3, 1) := by decide +kernel
theorem dX11_crossing_88 : decode cX11_crossing 88 = .ok (.getfield 174, 3) := by decide +kernel
theorem dX11_crossing_91 : decode cX11_crossing 91 = .ok (.invokevirtual 184, 3) := by decide +kernel
theorem dX11_crossing_94 : decode cX11_crossing 94 = .ok (.iload_n 1, 1) := by decide +kernel
theorem dX11_crossing_95 : decode cX11_crossing 95 = .ok (.ishr, 1) := by decide +kernel
theorem dX11_crossing_96 : decode cX11_crossing 96 = .ok (.iconst 1, 1) := by decide +kernel
theorem dX11_crossing_97 : decode cX11_crossing 97 = .ok (.iand, 1) := by decide +kernel
theorem dX11_crossing_98 : decode cX11_crossing 98 = .ok (.ireturn, 1) := by decide +kernel
theorem dX11_crossing_99 : decode cX11_crossing 99 = .ok (.iconst 0, 1) := by decide +kernel
theorem dX11_crossing_100 : decode cX11_crossing 100 = .ok (.aload_n 3, 1) := by decide +kernel
theorem dX11_crossing_101 : decode cX11_crossing 101 = .ok (.getfield 187, 3) := by decide +kernel
theorem dX11_crossing_104 : decode cX11_crossing 104 = .ok (.iload_n 1, 1) := by decide +kernel
theorem dX11_crossing_105 : decode cX11_crossing 105 = .ok (.iaload, 1) := by decide +kernel
theorem dX11_crossing_106 : decode cX11_crossing 106 = .ok (.aload_n 3, 1) := by decide +kernel
theorem dX11_crossing_107 : decode cX11_crossing 107 = .ok (.getfield 174, 3) := by decide +kernel
theorem dX11_crossing_110 : decode cX11_crossing 110 = .ok (.isub, 1) := by decide +kernel
theorem dX11_crossing_111 : decode cX11_crossing 111 = .ok (.invokestatic 190, 3) := by decide +kernel
theorem dX11_crossing_114 : decode cX11_crossing 114 = .ok (.ireturn, 1) := by decide +kernel
theorem dX11_crossing_115 : decode cX11_crossing 115 = .ok (.aload_n 0, 1) := by decide +kernel
theorem dX11_crossing_116 : decode cX11_crossing 116 = .ok (.getfield 27, 3) := by decide +kernel
theorem dX11_crossing_119 : decode cX11_crossing 119 = .ok (.iload_n 1, 1) := by decide +kernel
theorem dX11_crossing_120 : decode cX11_crossing 120 = .ok (.invokevirtual 195, 3) := by decide +kernel
theorem dX11_crossing_123 : decode cX11_crossing 123 = .ok (.ireturn, 1) := by decide +kernel
theorem dX11_crossing_124 : decode cX11_crossing 124 = .ok (.bipush (-2), 2) := by decide +kernel
theorem dX11_crossing_126 : decode cX11_crossing 126 = .ok (.ireturn, 1) := by decide +kernel
theorem dX11_fault_0 : decode cX11_fault 0 = .ok (.iload_n 1, 1) := by decide +kernel
theorem dX11_fault_1 : decode cX11_fault 1 = .ok (.ifCond .ne 13, 3) := by decide +kernel
theorem dX11_fault_4 : decode cX11_fault 4 = .ok (.aload_n 0, 1) := by decide +kernel
theorem dX11_fault_5 : decode cX11_fault 5 = .ok (.getfield 37, 3) := by decide +kernel
theorem dX11_fault_8 : decode cX11_fault 8 = .ok (.invokevirtual 135, 3) := by decide +kernel
theorem dX11_fault_11 : decode cX11_fault 11 = .ok (.goto 19, 3) := by decide +kernel
theorem dX11_fault_14 : decode cX11_fault 14 = .ok (.iload_n 1, 1) := by decide +kernel
theorem dX11_fault_15 : decode cX11_fault 15 = .ok (.iconst 1, 1) := by decide +kernel
theorem dX11_fault_16 : decode cX11_fault 16 = .ok (.if_icmp .ne 13, 3) := by decide +kernel
theorem dX11_fault_19 : decode cX11_fault 19 = .ok (.aload_n 0, 1) := by decide +kernel
theorem dX11_fault_20 : decode cX11_fault 20 = .ok (.getfield 37, 3) := by decide +kernel
theorem dX11_fault_23 : decode cX11_fault 23 = .ok (.invokevirtual 138, 3) := by decide +kernel
theorem dX11_fault_26 : decode cX11_fault 26 = .ok (.goto 4, 3) := by decide +kernel
theorem dX11_fault_29 : decode cX11_fault 29 = .ok (.iconst (-1), 1) := by decide +kernel
theorem dX11_fault_30 : decode cX11_fault 30 = .ok (.ireturn, 1) := by decide +kernel
theorem dX11_feed_0 : decode cX11_feed 0 = .ok (.aload_n 0, 1) := by decide +kernel
theorem dX11_feed_1 : decode cX11_feed 1 = .ok (.getfield 37, 3) := by decide +kernel
theorem dX11_feed_4 : decode cX11_feed 4 = .ok (.invokevirtual 109, 3) := by decide +kernel
theorem dX11_feed_7 : decode cX11_feed 7 = .ok (.ifCond .ne 6, 3) := by decide +kernel
theorem dX11_feed_10 : decode cX11_feed 10 = .ok (.bipush (-5), 2) := by decide +kernel
theorem dX11_feed_12 : decode cX11_feed 12 = .ok (.ireturn, 1) := by decide +kernel
theorem dX11_feed_13 : decode cX11_feed 13 = .ok (.aload_n 0, 1) := by decide +kernel
theorem dX11_feed_14 : decode cX11_feed 14 = .ok (.getfield 37, 3) := by decide +kernel
theorem dX11_feed_17 : decode cX11_feed 17 = .ok (.iload_n 1, 1) := by decide +kernel
theorem dX11_feed_18 : decode cX11_feed 18 = .ok (.invokevirtual 113, 3) := by decide +kernel
theorem dX11_feed_21 : decode cX11_feed 21 = .ok (.aload_n 0, 1) := by decide +kernel
theorem dX11_feed_22 : decode cX11_feed 22 = .ok (.getfield 37, 3) := by decide +kernel
theorem dX11_feed_25 : decode cX11_feed 25 = .ok (.iload_n 2, 1) := by decide +kernel
theorem dX11_feed_26 : decode cX11_feed 26 = .ok (.invokevirtual 113, 3) := by decide +kernel
theorem dX11_feed_29 : decode cX11_feed 29 = .ok (.aload_n 0, 1) := by decide +kernel
theorem dX11_feed_30 : decode cX11_feed 30 = .ok (.getfield 37, 3) := by decide +kernel
theorem dX11_feed_33 : decode cX11_feed 33 = .ok (.iload_n 3, 1) := by decide +kernel
theorem dX11_feed_34 : decode cX11_feed 34 = .ok (.invokevirtual 113, 3) := by decide +kernel
theorem dX11_feed_37 : decode cX11_feed 37 = .ok (.aload_n 0, 1) := by decide +kernel
theorem dX11_feed_38 : decode cX11_feed 38 = .ok (.getfield 37, 3) := by decide +kernel
theorem dX11_feed_41 : decode cX11_feed 41 = .ok (.iload 4, 2) := by decide +kernel
theorem dX11_feed_43 : decode cX11_feed 43 = .ok (.invokevirtual 113, 3) := by decide +kernel
theorem dX11_feed_46 : decode cX11_feed 46 = .ok (.aload_n 0, 1) := by decide +kernel
theorem dX11_feed_47 : decode cX11_feed 47 = .ok (.getfield 37, 3) := by decide +kernel
theorem dX11_feed_50 : decode cX11_feed 50 = .ok (.iload 5, 2) := by decide +kernel
theorem dX11_feed_52 : decode cX11_feed 52 = .ok (.invokevirtual 113, 3) := by decide +kernel
theorem dX11_feed_55 : decode cX11_feed 55 = .ok (.aload_n 0, 1) := by decide +kernel
theorem dX11_feed_56 : decode cX11_feed 56 = .ok (.getfield 37, 3) := by decide +kernel
theorem dX11_feed_59 : decode cX11_feed 59 = .ok (.invokevirtual 117, 3) := by decide +kernel
theorem dX11_feed_62 : decode cX11_feed 62 = .ok (.ireturn, 1) := by decide +kernel
theorem dX11_fog_0 : decode cX11_fog 0 = .ok (.aload_n 0, 1) := by decide +kernel
theorem dX11_fog_1 : decode cX11_fog 1 = .ok (.iload_n 1, 1) := by decide +kernel
theorem dX11_fog_2 : decode cX11_fog 2 = .ok (.invokevirtual 171, 3) := by decide +kernel
theorem dX11_fog_5 : decode cX11_fog 5 = .ok (.ifCond .ne 6, 3) := by decide +kernel
theorem dX11_fog_8 : decode cX11_fog 8 = .ok (.bipush (-2), 2) := by decide +kernel
theorem dX11_fog_10 : decode cX11_fog 10 = .ok (.ireturn, 1) := by decide +kernel
theorem dX11_fog_11 : decode cX11_fog 11 = .ok (.iload_n 2, 1) := by decide +kernel
theorem dX11_fog_12 : decode cX11_fog 12 = .ok (.iconst 1, 1) := by decide +kernel
theorem dX11_fog_13 : decode cX11_fog 13 = .ok (.if_icmp .lt 9, 3) := by decide +kernel
theorem dX11_fog_16 : decode cX11_fog 16 = .ok (.iload_n 2, 1) := by decide +kernel
theorem dX11_fog_17 : decode cX11_fog 17 = .ok (.bipush 99, 2) := by decide +kernel
theorem dX11_fog_19 : decode cX11_fog 19 = .ok (.if_icmp .le 6, 3) := by decide +kernel
theorem dX11_fog_22 : decode cX11_fog 22 = .ok (.bipush (-3), 2) := by decide +kernel
theorem dX11_fog_24 : decode cX11_fog 24 = .ok (.ireturn, 1) := by decide +kernel
theorem dX11_fog_25 : decode cX11_fog 25 = .ok (.aload_n 0, 1) := by decide +kernel
theorem dX11_fog_26 : decode cX11_fog 26 = .ok (.aload_n 0, 1) := by decide +kernel
theorem dX11_fog_27 : decode cX11_fog 27 = .ok (.getfield 27, 3) := by decide +kernel
theorem dX11_fog_30 : decode cX11_fog 30 = .ok (.getfield 145, 3) := by decide +kernel
theorem dX11_fog_33 : decode cX11_fog 33 = .ok (.invokevirtual 201, 3) := by decide +kernel
theorem dX11_fog_36 : decode cX11_fog 36 = .ok (.aload_n 0, 1) := by decide +kernel
theorem dX11_fog_37 : decode cX11_fog 37 = .ok (.getfield 27, 3) := by decide +kernel
theorem dX11_fog_40 : decode cX11_fog 40 = .ok (.getfield 145, 3) := by decide +kernel
theorem dX11_fog_43 : decode cX11_fog 43 = .ok (.getfield 187, 3) := by decide +kernel
theorem dX11_fog_46 : decode cX11_fog 46 = .ok (.iload_n 1, 1) := by decide +kernel
theorem dX11_fog_47 : decode cX11_fog 47 = .ok (.aload_n 0, 1) := by decide +kernel
theorem dX11_fog_48 : decode cX11_fog 48 = .ok (.getfield 27, 3) := by decide +kernel
theorem dX11_fog_51 : decode cX11_fog 51 = .ok (.getfield 145, 3) := by decide +kernel
theorem dX11_fog_54 : decode cX11_fog 54 = .ok (.getfield 174, 3) := by decide +kernel
theorem dX11_fog_57 : decode cX11_fog 57 = .ok (.iload_n 2, 1) := by decide +kernel
theorem dX11_fog_58 : decode cX11_fog 58 = .ok (.iadd, 1) := by decide +kernel
theorem dX11_fog_59 : decode cX11_fog 59 = .ok (.iastore, 1) := by decide +kernel
theorem dX11_fog_60 : decode cX11_fog 60 = .ok (.aload_n 0, 1) := by decide +kernel
theorem dX11_fog_61 : decode cX11_fog 61 = .ok (.getfield 41, 3) := by decide +kernel
theorem dX11_fog_64 : decode cX11_fog 64 = .ok (.invokevirtual 208, 3) := by decide +kernel
theorem dX11_fog_67 : decode cX11_fog 67 = .ok (.aload_n 0, 1) := by decide +kernel
theorem dX11_fog_68 : decode cX11_fog 68 = .ok (.getfield 27, 3) := by decide +kernel
theorem dX11_fog_71 : decode cX11_fog 71 = .ok (.aload_n 0, 1) := by decide +kernel
theorem dX11_fog_72 : decode cX11_fog 72 = .ok (.getfield 27, 3) := by decide +kernel
theorem dX11_fog_75 : decode cX11_fog 75 = .ok (.getfield 145, 3) := by decide +kernel
theorem dX11_fog_78 : decode cX11_fog 78 = .ok (.getfield 174, 3) := by decide +kernel
theorem dX11_fog_81 : decode cX11_fog 81 = .ok (.invokevirtual 184, 3) := by decide +kernel
theorem dX11_fog_84 : decode cX11_fog 84 = .ok (.invokestatic 229, 3) := by decide +kernel
theorem dX11_fog_87 : decode cX11_fog 87 = .ok (.ireturn, 1) := by decide +kernel
theorem dX11_go_0 : decode cX11_go 0 = .ok (.aload_n 0, 1) := by decide +kernel
theorem dX11_go_1 : decode cX11_go 1 = .ok (.getfield 27, 3) := by decide +kernel
theorem dX11_go_4 : decode cX11_go 4 = .ok (.iload_n 1, 1) := by decide +kernel
theorem dX11_go_5 : decode cX11_go 5 = .ok (.iload_n 2, 1) := by decide +kernel
theorem dX11_go_6 : decode cX11_go 6 = .ok (.invokevirtual 198, 3) := by decide +kernel
theorem dX11_go_9 : decode cX11_go 9 = .ok (.istore_n 3, 1) := by decide +kernel
theorem dX11_go_10 : decode cX11_go 10 = .ok (.iload_n 3, 1) := by decide +kernel
theorem dX11_go_11 : decode cX11_go 11 = .ok (.ifCond .eq 8, 3) := by decide +kernel
theorem dX11_go_14 : decode cX11_go 14 = .ok (.bipush (-10), 2) := by decide +kernel
theorem dX11_go_16 : decode cX11_go 16 = .ok (.iload_n 3, 1) := by decide +kernel
theorem dX11_go_17 : decode cX11_go 17 = .ok (.isub, 1) := by decide +kernel
theorem dX11_go_18 : decode cX11_go 18 = .ok (.ireturn, 1) := by decide +kernel
theorem dX11_go_19 : decode cX11_go 19 = .ok (.aload_n 0, 1) := by decide +kernel
theorem dX11_go_20 : decode cX11_go 20 = .ok (.aload_n 0, 1) := by decide +kernel
theorem dX11_go_21 : decode cX11_go 21 = .ok (.getfield 27, 3) := by decide +kernel
theorem dX11_go_24 : decode cX11_go 24 = .ok (.getfield 145, 3) := by decide +kernel
theorem dX11_go_27 : decode cX11_go 27 = .ok (.invokevirtual 201, 3) := by decide +kernel
theorem dX11_go_30 : decode cX11_go 30 = .ok (.aload_n 0, 1) := by decide +kernel
theorem dX11_go_31 : decode cX11_go 31 = .ok (.getfield 27, 3) := by decide +kernel
theorem dX11_go_34 : decode cX11_go 34 = .ok (.iload_n 1, 1) := by decide +kernel
theorem dX11_go_35 : decode cX11_go 35 = .ok (.iload_n 2, 1) := by decide +kernel
theorem dX11_go_36 : decode cX11_go 36 = .ok (.invokevirtual 205, 3) := by decide +kernel
theorem dX11_go_39 : decode cX11_go 39 = .ok (.pop, 1) := by decide +kernel
theorem dX11_go_40 : decode cX11_go 40 = .ok (.aload_n 0, 1) := by decide +kernel
theorem dX11_go_41 : decode cX11_go 41 = .ok (.getfield 41, 3) := by decide +kernel
theorem dX11_go_44 : decode cX11_go 44 = .ok (.invokevirtual 208, 3) := by decide +kernel
theorem dX11_go_47 : decode cX11_go 47 = .ok (.aload_n 0, 1) := by decide +kernel
theorem dX11_go_48 : decode cX11_go 48 = .ok (.getfield 27, 3) := by decide +kernel
theorem dX11_go_51 : decode cX11_go 51 = .ok (.getfield 145, 3) := by decide +kernel
theorem dX11_go_54 : decode cX11_go 54 = .ok (.getfield 148, 3) := by decide +kernel
theorem dX11_go_57 : decode cX11_go 57 = .ok (.iload_n 1, 1) := by decide +kernel
theorem dX11_go_58 : decode cX11_go 58 = .ok (.iaload, 1) := by decide +kernel
theorem dX11_go_59 : decode cX11_go 59 = .ok (.ireturn, 1) := by decide +kernel
theorem dX11_hand_0 : decode cX11_hand 0 = .ok (.aload_n 0, 1) := by decide +kernel
theorem dX11_hand_1 : decode cX11_hand 1 = .ok (.iload_n 1, 1) := by decide +kernel
theorem dX11_hand_2 : decode cX11_hand 2 = .ok (.invokevirtual 141, 3) := by decide +kernel
theorem dX11_hand_5 : decode cX11_hand 5 = .ok (.ifCond .eq 16, 3) := by decide +kernel
theorem dX11_hand_8 : decode cX11_hand 8 = .ok (.aload_n 0, 1) := by decide +kernel
theorem dX11_hand_9 : decode cX11_hand 9 = .ok (.iload_n 2, 1) := by decide +kernel
theorem dX11_hand_10 : decode cX11_hand 10 = .ok (.invokevirtual 141, 3) := by decide +kernel
theorem dX11_hand_13 : decode cX11_hand 13 = .ok (.ifCond .eq 8, 3) := by decide +kernel
theorem dX11_hand_16 : decode cX11_hand 16 = .ok (.iload_n 1, 1) := by decide +kernel
theorem dX11_hand_17 : decode cX11_hand 17 = .ok (.iload_n 2, 1) := by decide +kernel
theorem dX11_hand_18 : decode cX11_hand 18 = .ok (.if_icmp .ne 6, 3) := by decide +kernel
theorem dX11_hand_21 : decode cX11_hand 21 = .ok (.bipush (-2), 2) := by decide +kernel
theorem dX11_hand_23 : decode cX11_hand 23 = .ok (.ireturn, 1) := by decide +kernel
theorem dX11_hand_24 : decode cX11_hand 24 = .ok (.iload_n 3, 1) := by decide +kernel
theorem dX11_hand_25 : decode cX11_hand 25 = .ok (.iconst 1, 1) := by decide +kernel
theorem dX11_hand_26 : decode cX11_hand 26 = .ok (.if_icmp .lt 9, 3) := by decide +kernel
theorem dX11_hand_29 : decode cX11_hand 29 = .ok (.iload_n 3, 1) := by decide +kernel
theorem dX11_hand_30 : decode cX11_hand 30 = .ok (.bipush 99, 2) := by decide +kernel
theorem dX11_hand_32 : decode cX11_hand 32 = .ok (.if_icmp .le 6, 3) := by decide +kernel
theorem dX11_hand_35 : decode cX11_hand 35 = .ok (.bipush (-3), 2) := by decide +kernel
theorem dX11_hand_37 : decode cX11_hand 37 = .ok (.ireturn, 1) := by decide +kernel
theorem dX11_hand_38 : decode cX11_hand 38 = .ok (.aload_n 0, 1) := by decide +kernel
theorem dX11_hand_39 : decode cX11_hand 39 = .ok (.getfield 27, 3) := by decide +kernel
theorem dX11_hand_42 : decode cX11_hand 42 = .ok (.getfield 145, 3) := by decide +kernel
theorem dX11_hand_45 : decode cX11_hand 45 = .ok (.astore 4, 2) := by decide +kernel
theorem dX11_hand_47 : decode cX11_hand 47 = .ok (.aload 4, 2) := by decide +kernel
theorem dX11_hand_49 : decode cX11_hand 49 = .ok (.getfield 148, 3) := by decide +kernel
theorem dX11_hand_52 : decode cX11_hand 52 = .ok (.iload_n 1, 1) := by decide +kernel
theorem dX11_hand_53 : decode cX11_hand 53 = .ok (.iaload, 1) := by decide +kernel
theorem dX11_hand_54 : decode cX11_hand 54 = .ok (.aload 4, 2) := by decide +kernel
theorem dX11_hand_56 : decode cX11_hand 56 = .ok (.getfield 148, 3) := by decide +kernel
theorem dX11_hand_59 : decode cX11_hand 59 = .ok (.iload_n 2, 1) := by decide +kernel
theorem dX11_hand_60 : decode cX11_hand 60 = .ok (.iaload, 1) := by decide +kernel
theorem dX11_hand_61 : decode cX11_hand 61 = .ok (.if_icmp .ne 14, 3) := by decide +kernel
theorem dX11_hand_64 : decode cX11_hand 64 = .ok (.aload 4, 2) := by decide +kernel
theorem dX11_hand_66 : decode cX11_hand 66 = .ok (.getfield 154, 3) := by decide +kernel
theorem dX11_hand_69 : decode cX11_hand 69 = .ok (.iload_n 1, 1) := by decide +kernel
theorem dX11_hand_70 : decode cX11_hand 70 = .ok (.iaload, 1) := by decide +kernel
theorem dX11_hand_71 : decode cX11_hand 71 = .ok (.iload_n 3, 1) := by decide +kernel
theorem dX11_hand_72 : decode cX11_hand 72 = .ok (.if_icmp .ge 6, 3) := by decide +kernel
theorem dX11_hand_75 : decode cX11_hand 75 = .ok (.bipush (-5), 2) := by decide +kernel
theorem dX11_hand_77 : decode cX11_hand 77 = .ok (.ireturn, 1) := by decide +kernel
theorem dX11_hand_78 : decode cX11_hand 78 = .ok (.aload 4, 2) := by decide +kernel
theorem dX11_hand_80 : decode cX11_hand 80 = .ok (.getfield 154, 3) := by decide +kernel
theorem dX11_hand_83 : decode cX11_hand 83 = .ok (.iload_n 2, 1) := by decide +kernel
theorem dX11_hand_84 : decode cX11_hand 84 = .ok (.iaload, 1) := by decide +kernel
theorem dX11_hand_85 : decode cX11_hand 85 = .ok (.iload_n 3, 1) := by decide +kernel
theorem dX11_hand_86 : decode cX11_hand 86 = .ok (.iadd, 1) := by decide +kernel
theorem dX11_hand_87 : decode cX11_hand 87 = .ok (.bipush 99, 2) := by decide +kernel
theorem dX11_hand_89 : decode cX11_hand 89 = .ok (.if_icmp .le 6, 3) := by decide +kernel
theorem dX11_hand_92 : decode cX11_hand 92 = .ok (.bipush (-4), 2) := by decide +kernel
theorem dX11_hand_94 : decode cX11_hand 94 = .ok (.ireturn, 1) := by decide +kernel
theorem dX11_hand_95 : decode cX11_hand 95 = .ok (.aload_n 0, 1) := by decide +kernel
theorem dX11_hand_96 : decode cX11_hand 96 = .ok (.aload 4, 2) := by decide +kernel
theorem dX11_hand_98 : decode cX11_hand 98 = .ok (.invokevirtual 201, 3) := by decide +kernel
theorem dX11_hand_101 : decode cX11_hand 101 = .ok (.aload 4, 2) := by decide +kernel
theorem dX11_hand_103 : decode cX11_hand 103 = .ok (.getfield 154, 3) := by decide +kernel
theorem dX11_hand_106 : decode cX11_hand 106 = .ok (.iload_n 1, 1) := by decide +kernel
theorem dX11_hand_107 : decode cX11_hand 107 = .ok (.dup2, 1) := by decide +kernel
theorem dX11_hand_108 : decode cX11_hand 108 = .ok (.iaload, 1) := by decide +kernel
theorem dX11_hand_109 : decode cX11_hand 109 = .ok (.iload_n 3, 1) := by decide +kernel
theorem dX11_hand_110 : decode cX11_hand 110 = .ok (.isub, 1) := by decide +kernel
theorem dX11_hand_111 : decode cX11_hand 111 = .ok (.iastore, 1) := by decide +kernel
theorem dX11_hand_112 : decode cX11_hand 112 = .ok (.aload 4, 2) := by decide +kernel
theorem dX11_hand_114 : decode cX11_hand 114 = .ok (.getfield 154, 3) := by decide +kernel
theorem dX11_hand_117 : decode cX11_hand 117 = .ok (.iload_n 2, 1) := by decide +kernel
theorem dX11_hand_118 : decode cX11_hand 118 = .ok (.dup2, 1) := by decide +kernel
theorem dX11_hand_119 : decode cX11_hand 119 = .ok (.iaload, 1) := by decide +kernel
theorem dX11_hand_120 : decode cX11_hand 120 = .ok (.iload_n 3, 1) := by decide +kernel
theorem dX11_hand_121 : decode cX11_hand 121 = .ok (.iadd, 1) := by decide +kernel
theorem dX11_hand_122 : decode cX11_hand 122 = .ok (.iastore, 1) := by decide +kernel
theorem dX11_hand_123 : decode cX11_hand 123 = .ok (.aload 4, 2) := by decide +kernel
theorem dX11_hand_125 : decode cX11_hand 125 = .ok (.getfield 154, 3) := by decide +kernel
theorem dX11_hand_128 : decode cX11_hand 128 = .ok (.iload_n 2, 1) := by decide +kernel
theorem dX11_hand_129 : decode cX11_hand 129 = .ok (.iaload, 1) := by decide +kernel
theorem dX11_hand_130 : decode cX11_hand 130 = .ok (.ireturn, 1) := by decide +kernel
theorem dX11_hours_0 : decode cX11_hours 0 = .ok (.iload_n 1, 1) := by decide +kernel
theorem dX11_hours_1 : decode cX11_hours 1 = .ok (.iconst 1, 1) := by decide +kernel
theorem dX11_hours_2 : decode cX11_hours 2 = .ok (.if_icmp .lt 9, 3) := by decide +kernel
theorem dX11_hours_5 : decode cX11_hours 5 = .ok (.iload_n 1, 1) := by decide +kernel
theorem dX11_hours_6 : decode cX11_hours 6 = .ok (.bipush 99, 2) := by decide +kernel
theorem dX11_hours_8 : decode cX11_hours 8 = .ok (.if_icmp .le 6, 3) := by decide +kernel
theorem dX11_hours_11 : decode cX11_hours 11 = .ok (.bipush (-3), 2) := by decide +kernel
theorem dX11_hours_13 : decode cX11_hours 13 = .ok (.ireturn, 1) := by decide +kernel
theorem dX11_hours_14 : decode cX11_hours 14 = .ok (.aload_n 0, 1) := by decide +kernel
theorem dX11_hours_15 : decode cX11_hours 15 = .ok (.aload_n 0, 1) := by decide +kernel
theorem dX11_hours_16 : decode cX11_hours 16 = .ok (.getfield 27, 3) := by decide +kernel
theorem dX11_hours_19 : decode cX11_hours 19 = .ok (.getfield 145, 3) := by decide +kernel
theorem dX11_hours_22 : decode cX11_hours 22 = .ok (.invokevirtual 201, 3) := by decide +kernel
theorem dX11_hours_25 : decode cX11_hours 25 = .ok (.aload_n 0, 1) := by decide +kernel
theorem dX11_hours_26 : decode cX11_hours 26 = .ok (.getfield 27, 3) := by decide +kernel
theorem dX11_hours_29 : decode cX11_hours 29 = .ok (.getfield 145, 3) := by decide +kernel
theorem dX11_hours_32 : decode cX11_hours 32 = .ok (.dup, 1) := by decide +kernel
theorem dX11_hours_33 : decode cX11_hours 33 = .ok (.getfield 174, 3) := by decide +kernel
theorem dX11_hours_36 : decode cX11_hours 36 = .ok (.iload_n 1, 1) := by decide +kernel
theorem dX11_hours_37 : decode cX11_hours 37 = .ok (.iadd, 1) := by decide +kernel
theorem dX11_hours_38 : decode cX11_hours 38 = .ok (.putfield 174, 3) := by decide +kernel
theorem dX11_hours_41 : decode cX11_hours 41 = .ok (.aload_n 0, 1) := by decide +kernel
theorem dX11_hours_42 : decode cX11_hours 42 = .ok (.getfield 41, 3) := by decide +kernel
theorem dX11_hours_45 : decode cX11_hours 45 = .ok (.invokevirtual 208, 3) := by decide +kernel
theorem dX11_hours_48 : decode cX11_hours 48 = .ok (.aload_n 0, 1) := by decide +kernel
theorem dX11_hours_49 : decode cX11_hours 49 = .ok (.getfield 27, 3) := by decide +kernel
theorem dX11_hours_52 : decode cX11_hours 52 = .ok (.getfield 145, 3) := by decide +kernel
theorem dX11_hours_55 : decode cX11_hours 55 = .ok (.getfield 174, 3) := by decide +kernel
theorem dX11_hours_58 : decode cX11_hours 58 = .ok (.ireturn, 1) := by decide +kernel
theorem dX11_judge_0 : decode cX11_judge 0 = .ok (.iload_n 1, 1) := by decide +kernel
theorem dX11_judge_1 : decode cX11_judge 1 = .ok (.invokestatic 211, 3) := by decide +kernel
theorem dX11_judge_4 : decode cX11_judge 4 = .ok (.ifCond .eq 16, 3) := by decide +kernel
theorem dX11_judge_7 : decode cX11_judge 7 = .ok (.iload_n 2, 1) := by decide +kernel
theorem dX11_judge_8 : decode cX11_judge 8 = .ok (.ifCond .lt 12, 3) := by decide +kernel
theorem dX11_judge_11 : decode cX11_judge 11 = .ok (.iload_n 2, 1) := by decide +kernel
theorem dX11_judge_12 : decode cX11_judge 12 = .ok (.aload_n 0, 1) := by decide +kernel
theorem dX11_judge_13 : decode cX11_judge 13 = .ok (.getfield 102, 3) := by decide +kernel
theorem dX11_judge_16 : decode cX11_judge 16 = .ok (.arraylength, 1) := by decide +kernel
theorem dX11_judge_17 : decode cX11_judge 17 = .ok (.if_icmp .lt 6, 3) := by decide +kernel
theorem dX11_judge_20 : decode cX11_judge 20 = .ok (.bipush (-2), 2) := by decide +kernel
theorem dX11_judge_22 : decode cX11_judge 22 = .ok (.ireturn, 1) := by decide +kernel
theorem dX11_judge_23 : decode cX11_judge 23 = .ok (.aload_n 0, 1) := by decide +kernel
theorem dX11_judge_24 : decode cX11_judge 24 = .ok (.getfield 78, 3) := by decide +kernel
theorem dX11_judge_27 : decode cX11_judge 27 = .ok (.iload_n 1, 1) := by decide +kernel
theorem dX11_judge_28 : decode cX11_judge 28 = .ok (.aaload, 1) := by decide +kernel
theorem dX11_judge_29 : decode cX11_judge 29 = .ok (.getfield 214, 3) := by decide +kernel
theorem dX11_judge_32 : decode cX11_judge 32 = .ok (.ifCond .ge 6, 3) := by decide +kernel
theorem dX11_judge_35 : decode cX11_judge 35 = .ok (.bipush (-6), 2) := by decide +kernel
theorem dX11_judge_37 : decode cX11_judge 37 = .ok (.ireturn, 1) := by decide +kernel
theorem dX11_judge_38 : decode cX11_judge 38 = .ok (.aload_n 0, 1) := by decide +kernel
theorem dX11_judge_39 : decode cX11_judge 39 = .ok (.getfield 98, 3) := by decide +kernel
theorem dX11_judge_42 : decode cX11_judge 42 = .ok (.aload_n 0, 1) := by decide +kernel
theorem dX11_judge_43 : decode cX11_judge 43 = .ok (.getfield 27, 3) := by decide +kernel
theorem dX11_judge_46 : decode cX11_judge 46 = .ok (.getfield 145, 3) := by decide +kernel
theorem dX11_judge_49 : decode cX11_judge 49 = .ok (.invokevirtual 217, 3) := by decide +kernel
theorem dX11_judge_52 : decode cX11_judge 52 = .ok (.aload_n 0, 1) := by decide +kernel
theorem dX11_judge_53 : decode cX11_judge 53 = .ok (.aload_n 0, 1) := by decide +kernel
theorem dX11_judge_54 : decode cX11_judge 54 = .ok (.getfield 78, 3) := by decide +kernel
theorem dX11_judge_57 : decode cX11_judge 57 = .ok (.iload_n 1, 1) := by decide +kernel
theorem dX11_judge_58 : decode cX11_judge 58 = .ok (.aaload, 1) := by decide +kernel
theorem dX11_judge_59 : decode cX11_judge 59 = .ok (.invokevirtual 219, 3) := by decide +kernel
theorem dX11_judge_62 : decode cX11_judge 62 = .ok (.pop, 1) := by decide +kernel
theorem dX11_judge_63 : decode cX11_judge 63 = .ok (.aload_n 0, 1) := by decide +kernel
theorem dX11_judge_64 : decode cX11_judge 64 = .ok (.getfield 27, 3) := by decide +kernel
theorem dX11_judge_67 : decode cX11_judge 67 = .ok (.getfield 145, 3) := by decide +kernel
theorem dX11_judge_70 : decode cX11_judge 70 = .ok (.aload_n 0, 1) := by decide +kernel
theorem dX11_judge_71 : decode cX11_judge 71 = .ok (.getfield 98, 3) := by decide +kernel
theorem dX11_judge_74 : decode cX11_judge 74 = .ok (.invokevirtual 217, 3) := by decide +kernel
theorem dX11_judge_77 : decode cX11_judge 77 = .ok (.aload_n 0, 1) := by decide +kernel
theorem dX11_judge_78 : decode cX11_judge 78 = .ok (.getfield 102, 3) := by decide +kernel
theorem dX11_judge_81 : decode cX11_judge 81 = .ok (.iload_n 2, 1) := by decide +kernel
theorem dX11_judge_82 : decode cX11_judge 82 = .ok (.iaload, 1) := by decide +kernel
theorem dX11_judge_83 : decode cX11_judge 83 = .ok (.ireturn, 1) := by decide +kernel
theorem dX11_person_0 : decode cX11_person 0 = .ok (.aload_n 0, 1) := by decide +kernel
theorem dX11_person_1 : decode cX11_person 1 = .ok (.iload_n 1, 1) := by decide +kernel
theorem dX11_person_2 : decode cX11_person 2 = .ok (.invokevirtual 141, 3) := by decide +kernel
theorem dX11_person_5 : decode cX11_person 5 = .ok (.ifCond .ne 6, 3) := by decide +kernel
theorem dX11_person_8 : decode cX11_person 8 = .ok (.bipush (-8), 2) := by decide +kernel
theorem dX11_person_10 : decode cX11_person 10 = .ok (.ireturn, 1) := by decide +kernel
theorem dX11_person_11 : decode cX11_person 11 = .ok (.iload_n 2, 1) := by decide +kernel
theorem dX11_person_12 : decode cX11_person 12 = .ok (.tableswitch 101 0 4 #[36, 49, 62, 75, 88], 36) := by decide +kernel
theorem dX11_person_48 : decode cX11_person 48 = .ok (.aload_n 0, 1) := by decide +kernel
theorem dX11_person_49 : decode cX11_person 49 = .ok (.getfield 27, 3) := by decide +kernel
theorem dX11_person_52 : decode cX11_person 52 = .ok (.getfield 145, 3) := by decide +kernel
theorem dX11_person_55 : decode cX11_person 55 = .ok (.getfield 148, 3) := by decide +kernel
theorem dX11_person_58 : decode cX11_person 58 = .ok (.iload_n 1, 1) := by decide +kernel
theorem dX11_person_59 : decode cX11_person 59 = .ok (.iaload, 1) := by decide +kernel
theorem dX11_person_60 : decode cX11_person 60 = .ok (.ireturn, 1) := by decide +kernel
theorem dX11_person_61 : decode cX11_person 61 = .ok (.aload_n 0, 1) := by decide +kernel
theorem dX11_person_62 : decode cX11_person 62 = .ok (.getfield 27, 3) := by decide +kernel
theorem dX11_person_65 : decode cX11_person 65 = .ok (.getfield 145, 3) := by decide +kernel
theorem dX11_person_68 : decode cX11_person 68 = .ok (.getfield 151, 3) := by decide +kernel
theorem dX11_person_71 : decode cX11_person 71 = .ok (.iload_n 1, 1) := by decide +kernel
theorem dX11_person_72 : decode cX11_person 72 = .ok (.iaload, 1) := by decide +kernel
theorem dX11_person_73 : decode cX11_person 73 = .ok (.ireturn, 1) := by decide +kernel
theorem dX11_person_74 : decode cX11_person 74 = .ok (.aload_n 0, 1) := by decide +kernel
theorem dX11_person_75 : decode cX11_person 75 = .ok (.getfield 27, 3) := by decide +kernel
theorem dX11_person_78 : decode cX11_person 78 = .ok (.getfield 145, 3) := by decide +kernel
theorem dX11_person_81 : decode cX11_person 81 = .ok (.getfield 154, 3) := by decide +kernel
theorem dX11_person_84 : decode cX11_person 84 = .ok (.iload_n 1, 1) := by decide +kernel
theorem dX11_person_85 : decode cX11_person 85 = .ok (.iaload, 1) := by decide +kernel
theorem dX11_person_86 : decode cX11_person 86 = .ok (.ireturn, 1) := by decide +kernel
theorem dX11_person_87 : decode cX11_person 87 = .ok (.aload_n 0, 1) := by decide +kernel
theorem dX11_person_88 : decode cX11_person 88 = .ok (.getfield 27, 3) := by decide +kernel
theorem dX11_person_91 : decode cX11_person 91 = .ok (.getfield 145, 3) := by decide +kernel
theorem dX11_person_94 : decode cX11_person 94 = .ok (.getfield 157, 3) := by decide +kernel
theorem dX11_person_97 : decode cX11_person 97 = .ok (.iload_n 1, 1) := by decide +kernel
theorem dX11_person_98 : decode cX11_person 98 = .ok (.iaload, 1) := by decide +kernel
theorem dX11_person_99 : decode cX11_person 99 = .ok (.ireturn, 1) := by decide +kernel
theorem dX11_person_100 : decode cX11_person 100 = .ok (.aload_n 0, 1) := by decide +kernel
theorem dX11_person_101 : decode cX11_person 101 = .ok (.getfield 27, 3) := by decide +kernel
theorem dX11_person_104 : decode cX11_person 104 = .ok (.getfield 145, 3) := by decide +kernel
theorem dX11_person_107 : decode cX11_person 107 = .ok (.getfield 160, 3) := by decide +kernel
theorem dX11_person_110 : decode cX11_person 110 = .ok (.iload_n 1, 1) := by decide +kernel
theorem dX11_person_111 : decode cX11_person 111 = .ok (.iaload, 1) := by decide +kernel
theorem dX11_person_112 : decode cX11_person 112 = .ok (.ireturn, 1) := by decide +kernel
theorem dX11_person_113 : decode cX11_person 113 = .ok (.bipush (-8), 2) := by decide +kernel
theorem dX11_person_115 : decode cX11_person 115 = .ok (.ireturn, 1) := by decide +kernel
theorem dX11_price_0 : decode cX11_price 0 = .ok (.aload_n 0, 1) := by decide +kernel
theorem dX11_price_1 : decode cX11_price 1 = .ok (.iload_n 1, 1) := by decide +kernel
theorem dX11_price_2 : decode cX11_price 2 = .ok (.iload_n 2, 1) := by decide +kernel
theorem dX11_price_3 : decode cX11_price 3 = .ok (.invokevirtual 163, 3) := by decide +kernel
theorem dX11_price_6 : decode cX11_price 6 = .ok (.ifCond .ne 6, 3) := by decide +kernel
theorem dX11_price_9 : decode cX11_price 9 = .ok (.bipush (-2), 2) := by decide +kernel
theorem dX11_price_11 : decode cX11_price 11 = .ok (.ireturn, 1) := by decide +kernel
theorem dX11_price_12 : decode cX11_price 12 = .ok (.iload_n 3, 1) := by decide +kernel
theorem dX11_price_13 : decode cX11_price 13 = .ok (.ifCond .lt 10, 3) := by decide +kernel
theorem dX11_price_16 : decode cX11_price 16 = .ok (.iload_n 3, 1) := by decide +kernel
theorem dX11_price_17 : decode cX11_price 17 = .ok (.sipush 999, 3) := by decide +kernel
theorem dX11_price_20 : decode cX11_price 20 = .ok (.if_icmp .le 6, 3) := by decide +kernel
theorem dX11_price_23 : decode cX11_price 23 = .ok (.bipush (-3), 2) := by decide +kernel
theorem dX11_price_25 : decode cX11_price 25 = .ok (.ireturn, 1) := by decide +kernel
theorem dX11_price_26 : decode cX11_price 26 = .ok (.aload_n 0, 1) := by decide +kernel
theorem dX11_price_27 : decode cX11_price 27 = .ok (.getfield 27, 3) := by decide +kernel
theorem dX11_price_30 : decode cX11_price 30 = .ok (.iload_n 1, 1) := by decide +kernel
theorem dX11_price_31 : decode cX11_price 31 = .ok (.aload_n 0, 1) := by decide +kernel
theorem dX11_price_32 : decode cX11_price 32 = .ok (.getfield 27, 3) := by decide +kernel
theorem dX11_price_35 : decode cX11_price 35 = .ok (.getfield 145, 3) := by decide +kernel
theorem dX11_price_38 : decode cX11_price 38 = .ok (.getfield 174, 3) := by decide +kernel
theorem dX11_price_41 : decode cX11_price 41 = .ok (.iload_n 3, 1) := by decide +kernel
theorem dX11_price_42 : decode cX11_price 42 = .ok (.iadd, 1) := by decide +kernel
theorem dX11_price_43 : decode cX11_price 43 = .ok (.aload_n 0, 1) := by decide +kernel
theorem dX11_price_44 : decode cX11_price 44 = .ok (.getfield 27, 3) := by decide +kernel
theorem dX11_price_47 : decode cX11_price 47 = .ok (.getfield 145, 3) := by decide +kernel
theorem dX11_price_50 : decode cX11_price 50 = .ok (.getfield 177, 3) := by decide +kernel
theorem dX11_price_53 : decode cX11_price 53 = .ok (.iload_n 1, 1) := by decide +kernel
theorem dX11_price_54 : decode cX11_price 54 = .ok (.iaload, 1) := by decide +kernel
theorem dX11_price_55 : decode cX11_price 55 = .ok (.iload_n 2, 1) := by decide +kernel
theorem dX11_price_56 : decode cX11_price 56 = .ok (.invokevirtual 180, 3) := by decide +kernel
theorem dX11_price_59 : decode cX11_price 59 = .ok (.ireturn, 1) := by decide +kernel
theorem dX11_sell_0 : decode cX11_sell 0 = .ok (.aload_n 0, 1) := by decide +kernel
theorem dX11_sell_1 : decode cX11_sell 1 = .ok (.iload_n 1, 1) := by decide +kernel
theorem dX11_sell_2 : decode cX11_sell 2 = .ok (.invokevirtual 141, 3) := by decide +kernel
theorem dX11_sell_5 : decode cX11_sell 5 = .ok (.ifCond .ne 6, 3) := by decide +kernel
theorem dX11_sell_8 : decode cX11_sell 8 = .ok (.bipush (-2), 2) := by decide +kernel
theorem dX11_sell_10 : decode cX11_sell 10 = .ok (.ireturn, 1) := by decide +kernel
theorem dX11_sell_11 : decode cX11_sell 11 = .ok (.aload_n 0, 1) := by decide +kernel
theorem dX11_sell_12 : decode cX11_sell 12 = .ok (.getfield 27, 3) := by decide +kernel
theorem dX11_sell_15 : decode cX11_sell 15 = .ok (.getfield 145, 3) := by decide +kernel
theorem dX11_sell_18 : decode cX11_sell 18 = .ok (.astore_n 2, 1) := by decide +kernel
theorem dX11_sell_19 : decode cX11_sell 19 = .ok (.aload_n 2, 1) := by decide +kernel
theorem dX11_sell_20 : decode cX11_sell 20 = .ok (.getfield 160, 3) := by decide +kernel
theorem dX11_sell_23 : decode cX11_sell 23 = .ok (.iload_n 1, 1) := by decide +kernel
theorem dX11_sell_24 : decode cX11_sell 24 = .ok (.iaload, 1) := by decide +kernel
theorem dX11_sell_25 : decode cX11_sell 25 = .ok (.ifCond .ne 6, 3) := by decide +kernel
theorem dX11_sell_28 : decode cX11_sell 28 = .ok (.bipush (-5), 2) := by decide +kernel
theorem dX11_sell_30 : decode cX11_sell 30 = .ok (.ireturn, 1) := by decide +kernel
theorem dX11_sell_31 : decode cX11_sell 31 = .ok (.aload_n 0, 1) := by decide +kernel
theorem dX11_sell_32 : decode cX11_sell 32 = .ok (.aload_n 2, 1) := by decide +kernel
theorem dX11_sell_33 : decode cX11_sell 33 = .ok (.invokevirtual 201, 3) := by decide +kernel
theorem dX11_sell_36 : decode cX11_sell 36 = .ok (.aload_n 2, 1) := by decide +kernel
theorem dX11_sell_37 : decode cX11_sell 37 = .ok (.getfield 160, 3) := by decide +kernel
theorem dX11_sell_40 : decode cX11_sell 40 = .ok (.iload_n 1, 1) := by decide +kernel
theorem dX11_sell_41 : decode cX11_sell 41 = .ok (.iaload, 1) := by decide +kernel
theorem dX11_sell_42 : decode cX11_sell 42 = .ok (.aload_n 0, 1) := by decide +kernel
theorem dX11_sell_43 : decode cX11_sell 43 = .ok (.getfield 27, 3) := by decide +kernel
theorem dX11_sell_46 : decode cX11_sell 46 = .ok (.iload_n 1, 1) := by decide +kernel
theorem dX11_sell_47 : decode cX11_sell 47 = .ok (.iconst 0, 1) := by decide +kernel
theorem dX11_sell_48 : decode cX11_sell 48 = .ok (.invokevirtual 223, 3) := by decide +kernel
theorem dX11_sell_51 : decode cX11_sell 51 = .ok (.iconst 3, 1) := by decide +kernel
theorem dX11_sell_52 : decode cX11_sell 52 = .ok (.idiv, 1) := by decide +kernel
theorem dX11_sell_53 : decode cX11_sell 53 = .ok (.imul, 1) := by decide +kernel
theorem dX11_sell_54 : decode cX11_sell 54 = .ok (.istore_n 3, 1) := by decide +kernel
theorem dX11_sell_55 : decode cX11_sell 55 = .ok (.aload_n 2, 1) := by decide +kernel
theorem dX11_sell_56 : decode cX11_sell 56 = .ok (.getfield 157, 3) := by decide +kernel
theorem dX11_sell_59 : decode cX11_sell 59 = .ok (.iload_n 1, 1) := by decide +kernel
theorem dX11_sell_60 : decode cX11_sell 60 = .ok (.sipush 9999, 3) := by decide +kernel
theorem dX11_sell_63 : decode cX11_sell 63 = .ok (.aload_n 2, 1) := by decide +kernel
theorem dX11_sell_64 : decode cX11_sell 64 = .ok (.getfield 157, 3) := by decide +kernel
theorem dX11_sell_67 : decode cX11_sell 67 = .ok (.iload_n 1, 1) := by decide +kernel
theorem dX11_sell_68 : decode cX11_sell 68 = .ok (.iaload, 1) := by decide +kernel
theorem dX11_sell_69 : decode cX11_sell 69 = .ok (.iload_n 3, 1) := by decide +kernel
theorem dX11_sell_70 : decode cX11_sell 70 = .ok (.iadd, 1) := by decide +kernel
theorem dX11_sell_71 : decode cX11_sell 71 = .ok (.invokestatic 226, 3) := by decide +kernel
theorem dX11_sell_74 : decode cX11_sell 74 = .ok (.iastore, 1) := by decide +kernel
theorem dX11_sell_75 : decode cX11_sell 75 = .ok (.aload_n 2, 1) := by decide +kernel
theorem dX11_sell_76 : decode cX11_sell 76 = .ok (.getfield 160, 3) := by decide +kernel
theorem dX11_sell_79 : decode cX11_sell 79 = .ok (.iload_n 1, 1) := by decide +kernel
theorem dX11_sell_80 : decode cX11_sell 80 = .ok (.iconst 0, 1) := by decide +kernel
theorem dX11_sell_81 : decode cX11_sell 81 = .ok (.iastore, 1) := by decide +kernel
theorem dX11_sell_82 : decode cX11_sell 82 = .ok (.iload_n 3, 1) := by decide +kernel
theorem dX11_sell_83 : decode cX11_sell 83 = .ok (.ireturn, 1) := by decide +kernel
theorem dX11_street_0 : decode cX11_street 0 = .ok (.aload_n 0, 1) := by decide +kernel
theorem dX11_street_1 : decode cX11_street 1 = .ok (.iload_n 1, 1) := by decide +kernel
theorem dX11_street_2 : decode cX11_street 2 = .ok (.iload_n 2, 1) := by decide +kernel
theorem dX11_street_3 : decode cX11_street 3 = .ok (.invokevirtual 163, 3) := by decide +kernel
theorem dX11_street_6 : decode cX11_street 6 = .ok (.ifCond .ne 6, 3) := by decide +kernel
theorem dX11_street_9 : decode cX11_street 9 = .ok (.bipush (-2), 2) := by decide +kernel
theorem dX11_street_11 : decode cX11_street 11 = .ok (.ireturn, 1) := by decide +kernel
theorem dX11_street_12 : decode cX11_street 12 = .ok (.aload_n 0, 1) := by decide +kernel
theorem dX11_street_13 : decode cX11_street 13 = .ok (.getfield 27, 3) := by decide +kernel
theorem dX11_street_16 : decode cX11_street 16 = .ok (.iload_n 1, 1) := by decide +kernel
theorem dX11_street_17 : decode cX11_street 17 = .ok (.iload_n 2, 1) := by decide +kernel
theorem dX11_street_18 : decode cX11_street 18 = .ok (.invokevirtual 167, 3) := by decide +kernel
theorem dX11_street_21 : decode cX11_street 21 = .ok (.ireturn, 1) := by decide +kernel
theorem dX11_undo_0 : decode cX11_undo 0 = .ok (.iload_n 1, 1) := by decide +kernel
theorem dX11_undo_1 : decode cX11_undo 1 = .ok (.iconst 1, 1) := by decide +kernel
theorem dX11_undo_2 : decode cX11_undo 2 = .ok (.if_icmp .lt 11, 3) := by decide +kernel
theorem dX11_undo_5 : decode cX11_undo 5 = .ok (.iload_n 1, 1) := by decide +kernel
theorem dX11_undo_6 : decode cX11_undo 6 = .ok (.aload_n 0, 1) := by decide +kernel
theorem dX11_undo_7 : decode cX11_undo 7 = .ok (.getfield 234, 3) := by decide +kernel
theorem dX11_undo_10 : decode cX11_undo 10 = .ok (.if_icmp .le 6, 3) := by decide +kernel
theorem dX11_undo_13 : decode cX11_undo 13 = .ok (.bipush (-3), 2) := by decide +kernel
theorem dX11_undo_15 : decode cX11_undo 15 = .ok (.ireturn, 1) := by decide +kernel
theorem dX11_undo_16 : decode cX11_undo 16 = .ok (.aload_n 0, 1) := by decide +kernel
theorem dX11_undo_17 : decode cX11_undo 17 = .ok (.dup, 1) := by decide +kernel
theorem dX11_undo_18 : decode cX11_undo 18 = .ok (.getfield 234, 3) := by decide +kernel
theorem dX11_undo_21 : decode cX11_undo 21 = .ok (.iload_n 1, 1) := by decide +kernel
theorem dX11_undo_22 : decode cX11_undo 22 = .ok (.isub, 1) := by decide +kernel
theorem dX11_undo_23 : decode cX11_undo 23 = .ok (.putfield 234, 3) := by decide +kernel
theorem dX11_undo_26 : decode cX11_undo 26 = .ok (.aload_n 0, 1) := by decide +kernel
theorem dX11_undo_27 : decode cX11_undo 27 = .ok (.getfield 27, 3) := by decide +kernel
theorem dX11_undo_30 : decode cX11_undo 30 = .ok (.getfield 145, 3) := by decide +kernel
theorem dX11_undo_33 : decode cX11_undo 33 = .ok (.aload_n 0, 1) := by decide +kernel
theorem dX11_undo_34 : decode cX11_undo 34 = .ok (.getfield 93, 3) := by decide +kernel
theorem dX11_undo_37 : decode cX11_undo 37 = .ok (.aload_n 0, 1) := by decide +kernel
theorem dX11_undo_38 : decode cX11_undo 38 = .ok (.getfield 237, 3) := by decide +kernel
theorem dX11_undo_41 : decode cX11_undo 41 = .ok (.aload_n 0, 1) := by decide +kernel
theorem dX11_undo_42 : decode cX11_undo 42 = .ok (.getfield 234, 3) := by decide +kernel
theorem dX11_undo_45 : decode cX11_undo 45 = .ok (.iadd, 1) := by decide +kernel
theorem dX11_undo_46 : decode cX11_undo 46 = .ok (.bipush 10, 2) := by decide +kernel
theorem dX11_undo_48 : decode cX11_undo 48 = .ok (.irem, 1) := by decide +kernel
theorem dX11_undo_49 : decode cX11_undo 49 = .ok (.aaload, 1) := by decide +kernel
theorem dX11_undo_50 : decode cX11_undo 50 = .ok (.invokevirtual 217, 3) := by decide +kernel
theorem dX11_undo_53 : decode cX11_undo 53 = .ok (.aload_n 0, 1) := by decide +kernel
theorem dX11_undo_54 : decode cX11_undo 54 = .ok (.getfield 41, 3) := by decide +kernel
theorem dX11_undo_57 : decode cX11_undo 57 = .ok (.invokevirtual 208, 3) := by decide +kernel
theorem dX11_undo_60 : decode cX11_undo 60 = .ok (.aload_n 0, 1) := by decide +kernel
theorem dX11_undo_61 : decode cX11_undo 61 = .ok (.getfield 234, 3) := by decide +kernel
theorem dX11_undo_64 : decode cX11_undo 64 = .ok (.ireturn, 1) := by decide +kernel
theorem dX11_walk_0 : decode cX11_walk 0 = .ok (.iload_n 1, 1) := by decide +kernel
theorem dX11_walk_1 : decode cX11_walk 1 = .ok (.invokestatic 211, 3) := by decide +kernel
theorem dX11_walk_4 : decode cX11_walk 4 = .ok (.ifCond .ne 6, 3) := by decide +kernel
theorem dX11_walk_7 : decode cX11_walk 7 = .ok (.bipush (-2), 2) := by decide +kernel
theorem dX11_walk_9 : decode cX11_walk 9 = .ok (.ireturn, 1) := by decide +kernel
theorem dX11_walk_10 : decode cX11_walk 10 = .ok (.aload_n 0, 1) := by decide +kernel
theorem dX11_walk_11 : decode cX11_walk 11 = .ok (.getfield 78, 3) := by decide +kernel
theorem dX11_walk_14 : decode cX11_walk 14 = .ok (.iload_n 1, 1) := by decide +kernel
theorem dX11_walk_15 : decode cX11_walk 15 = .ok (.aaload, 1) := by decide +kernel
theorem dX11_walk_16 : decode cX11_walk 16 = .ok (.getfield 214, 3) := by decide +kernel
theorem dX11_walk_19 : decode cX11_walk 19 = .ok (.ifCond .ge 6, 3) := by decide +kernel
theorem dX11_walk_22 : decode cX11_walk 22 = .ok (.bipush (-6), 2) := by decide +kernel
theorem dX11_walk_24 : decode cX11_walk 24 = .ok (.ireturn, 1) := by decide +kernel
theorem dX11_walk_25 : decode cX11_walk 25 = .ok (.aload_n 0, 1) := by decide +kernel
theorem dX11_walk_26 : decode cX11_walk 26 = .ok (.getfield 98, 3) := by decide +kernel
theorem dX11_walk_29 : decode cX11_walk 29 = .ok (.aload_n 0, 1) := by decide +kernel
theorem dX11_walk_30 : decode cX11_walk 30 = .ok (.getfield 27, 3) := by decide +kernel
theorem dX11_walk_33 : decode cX11_walk 33 = .ok (.getfield 145, 3) := by decide +kernel
theorem dX11_walk_36 : decode cX11_walk 36 = .ok (.invokevirtual 217, 3) := by decide +kernel
theorem dX11_walk_39 : decode cX11_walk 39 = .ok (.aload_n 0, 1) := by decide +kernel
theorem dX11_walk_40 : decode cX11_walk 40 = .ok (.aload_n 0, 1) := by decide +kernel
theorem dX11_walk_41 : decode cX11_walk 41 = .ok (.getfield 78, 3) := by decide +kernel
theorem dX11_walk_44 : decode cX11_walk 44 = .ok (.iload_n 1, 1) := by decide +kernel
theorem dX11_walk_45 : decode cX11_walk 45 = .ok (.aaload, 1) := by decide +kernel
theorem dX11_walk_46 : decode cX11_walk 46 = .ok (.invokevirtual 219, 3) := by decide +kernel
theorem dX11_walk_49 : decode cX11_walk 49 = .ok (.istore_n 2, 1) := by decide +kernel
theorem dX11_walk_50 : decode cX11_walk 50 = .ok (.iload_n 2, 1) := by decide +kernel
theorem dX11_walk_51 : decode cX11_walk 51 = .ok (.ifCond .le 18, 3) := by decide +kernel
theorem dX11_walk_54 : decode cX11_walk 54 = .ok (.aload_n 0, 1) := by decide +kernel
theorem dX11_walk_55 : decode cX11_walk 55 = .ok (.aload_n 0, 1) := by decide +kernel
theorem dX11_walk_56 : decode cX11_walk 56 = .ok (.getfield 98, 3) := by decide +kernel
theorem dX11_walk_59 : decode cX11_walk 59 = .ok (.invokevirtual 201, 3) := by decide +kernel
theorem dX11_walk_62 : decode cX11_walk 62 = .ok (.aload_n 0, 1) := by decide +kernel
theorem dX11_walk_63 : decode cX11_walk 63 = .ok (.getfield 41, 3) := by decide +kernel
theorem dX11_walk_66 : decode cX11_walk 66 = .ok (.invokevirtual 208, 3) := by decide +kernel
theorem dX11_walk_69 : decode cX11_walk 69 = .ok (.iload_n 2, 1) := by decide +kernel
theorem dX11_walk_70 : decode cX11_walk 70 = .ok (.ireturn, 1) := by decide +kernel
theorem dX11_week_0 : decode cX11_week 0 = .ok (.iload_n 2, 1) := by decide +kernel
theorem dX11_week_1 : decode cX11_week 1 = .ok (.iconst 1, 1) := by decide +kernel
theorem dX11_week_2 : decode cX11_week 2 = .ok (.if_icmp .lt 9, 3) := by decide +kernel
theorem dX11_week_5 : decode cX11_week 5 = .ok (.iload_n 2, 1) := by decide +kernel
theorem dX11_week_6 : decode cX11_week 6 = .ok (.bipush 60, 2) := by decide +kernel
theorem dX11_week_8 : decode cX11_week 8 = .ok (.if_icmp .le 6, 3) := by decide +kernel
theorem dX11_week_11 : decode cX11_week 11 = .ok (.bipush (-3), 2) := by decide +kernel
theorem dX11_week_13 : decode cX11_week 13 = .ok (.ireturn, 1) := by decide +kernel
theorem dX11_week_14 : decode cX11_week 14 = .ok (.aload_n 0, 1) := by decide +kernel
theorem dX11_week_15 : decode cX11_week 15 = .ok (.getfield 27, 3) := by decide +kernel
theorem dX11_week_18 : decode cX11_week 18 = .ok (.getfield 145, 3) := by decide +kernel
theorem dX11_week_21 : decode cX11_week 21 = .ok (.getfield 240, 3) := by decide +kernel
theorem dX11_week_24 : decode cX11_week 24 = .ok (.ifCond .ne 6, 3) := by decide +kernel
theorem dX11_week_27 : decode cX11_week 27 = .ok (.bipush (-5), 2) := by decide +kernel
theorem dX11_week_29 : decode cX11_week 29 = .ok (.ireturn, 1) := by decide +kernel
theorem dX11_week_30 : decode cX11_week 30 = .ok (.aload_n 0, 1) := by decide +kernel
theorem dX11_week_31 : decode cX11_week 31 = .ok (.getfield 98, 3) := by decide +kernel
theorem dX11_week_34 : decode cX11_week 34 = .ok (.aload_n 0, 1) := by decide +kernel
theorem dX11_week_35 : decode cX11_week 35 = .ok (.getfield 27, 3) := by decide +kernel
theorem dX11_week_38 : decode cX11_week 38 = .ok (.getfield 145, 3) := by decide +kernel
theorem dX11_week_41 : decode cX11_week 41 = .ok (.invokevirtual 217, 3) := by decide +kernel
theorem dX11_week_44 : decode cX11_week 44 = .ok (.aload_n 0, 1) := by decide +kernel
theorem dX11_week_45 : decode cX11_week 45 = .ok (.iload_n 1, 1) := by decide +kernel
theorem dX11_week_46 : decode cX11_week 46 = .ok (.putfield 243, 3) := by decide +kernel
theorem dX11_week_49 : decode cX11_week 49 = .ok (.iconst 0, 1) := by decide +kernel
theorem dX11_week_50 : decode cX11_week 50 = .ok (.istore_n 3, 1) := by decide +kernel
theorem dX11_week_51 : decode cX11_week 51 = .ok (.iconst 0, 1) := by decide +kernel
theorem dX11_week_52 : decode cX11_week 52 = .ok (.istore 4, 2) := by decide +kernel
theorem dX11_week_54 : decode cX11_week 54 = .ok (.iload 4, 2) := by decide +kernel
theorem dX11_week_56 : decode cX11_week 56 = .ok (.iload_n 2, 1) := by decide +kernel
theorem dX11_week_57 : decode cX11_week 57 = .ok (.if_icmp .ge 19, 3) := by decide +kernel
theorem dX11_week_60 : decode cX11_week 60 = .ok (.aload_n 0, 1) := by decide +kernel
theorem dX11_week_61 : decode cX11_week 61 = .ok (.invokevirtual 246, 3) := by decide +kernel
theorem dX11_week_64 : decode cX11_week 64 = .ok (.ifCond .eq 6, 3) := by decide +kernel
theorem dX11_week_67 : decode cX11_week 67 = .ok (.iinc 3 1, 3) := by decide +kernel
theorem dX11_week_70 : decode cX11_week 70 = .ok (.iinc 4 1, 3) := by decide +kernel
theorem dX11_week_73 : decode cX11_week 73 = .ok (.goto (-19), 3) := by decide +kernel
theorem dX11_week_76 : decode cX11_week 76 = .ok (.iload_n 3, 1) := by decide +kernel
theorem dX11_week_77 : decode cX11_week 77 = .ok (.ifCond .le 18, 3) := by decide +kernel
theorem dX11_week_80 : decode cX11_week 80 = .ok (.aload_n 0, 1) := by decide +kernel
theorem dX11_week_81 : decode cX11_week 81 = .ok (.aload_n 0, 1) := by decide +kernel
theorem dX11_week_82 : decode cX11_week 82 = .ok (.getfield 98, 3) := by decide +kernel
theorem dX11_week_85 : decode cX11_week 85 = .ok (.invokevirtual 201, 3) := by decide +kernel
theorem dX11_week_88 : decode cX11_week 88 = .ok (.aload_n 0, 1) := by decide +kernel
theorem dX11_week_89 : decode cX11_week 89 = .ok (.getfield 41, 3) := by decide +kernel
theorem dX11_week_92 : decode cX11_week 92 = .ok (.invokevirtual 208, 3) := by decide +kernel
theorem dX11_week_95 : decode cX11_week 95 = .ok (.iload_n 3, 1) := by decide +kernel
theorem dX11_week_96 : decode cX11_week 96 = .ok (.ireturn, 1) := by decide +kernel
theorem dX11_why_0 : decode cX11_why 0 = .ok (.aload_n 0, 1) := by decide +kernel
theorem dX11_why_1 : decode cX11_why 1 = .ok (.getfield 27, 3) := by decide +kernel
theorem dX11_why_4 : decode cX11_why 4 = .ok (.iload_n 1, 1) := by decide +kernel
theorem dX11_why_5 : decode cX11_why 5 = .ok (.iload_n 2, 1) := by decide +kernel
theorem dX11_why_6 : decode cX11_why 6 = .ok (.invokevirtual 198, 3) := by decide +kernel
theorem dX11_why_9 : decode cX11_why 9 = .ok (.ireturn, 1) := by decide +kernel
theorem o27_1 {x0 : Int} (h0 : 0 ≤ x0) (h1 : x0 ≤ 900) : (-5) ≤ x0 := by omega
theorem o27_2 {x0 : Int} (h0 : 0 ≤ x0) (h1 : x0 ≤ 900) : x0 ≤ 900 := by omega
theorem o27_3 {x0 : Int} (h0 : x0 = (-5)) : (-5) ≤ x0 := by omega
theorem o27_4 {x0 : Int} (h0 : x0 = (-5)) : x0 ≤ 900 := by omega
theorem o27_5 {x0 x1 : Int} (h0 : 0 ≤ x0) (h1 : 0 ≤ x1) (h2 : x1 ≤ 900) (h3 : x0 ≤ x1) : 0 ≤ x0 := by omega
theorem o27_6 {x0 x1 : Int} (h0 : 0 ≤ x0) (h1 : 0 ≤ x1) (h2 : x1 ≤ 900) (h3 : x0 ≤ x1) : x0 ≤ 900 := by omega
theorem o27_7 {x0 : Int} (h0 : x0 = 1) : x0 = 1 := by omega
theorem o27_8 {x0 x1 : Int} (h0 : ¬ x0 = 0) (h1 : x1 = 1) (h2 : ¬ x0 = x1) : ¬ x0 = 1 := by omega
theorem o27_9 {x0 x1 : Int} (h0 : ¬ x0 = 0) (h1 : x1 = 1) (h2 : x0 = x1) : x0 = 1 := by omega
theorem o27_10 {x0 x1 : Int} (h0 : 0 ≤ x1) (h1 : x1 ≤ 1) (h2 : (x1 = 0 ∨ (0 ≤ x0 ∧ x0 ≤ 4))) (h3 : ¬ x1 = 0) : 0 ≤ x0 := by omega
theorem o27_11 {x0 x1 : Int} (h0 : 0 ≤ x1) (h1 : x1 ≤ 1) (h2 : (x1 = 0 ∨ (0 ≤ x0 ∧ x0 ≤ 4))) (h3 : ¬ x1 = 0) : x0 < (5 : Nat) := by omega
theorem o27_12 {x0 x1 x2 : Int} (h0 : 0 ≤ x1) (h1 : x1 ≤ 1) (h2 : (x1 = 0 ∨ (0 ≤ x0 ∧ x0 ≤ 24 ∧ 0 ≤ x2 ∧ x2 ≤ 3))) (h3 : ¬ x1 = 0) : 0 ≤ x0 := by omega
theorem o27_13 {x0 x1 x2 : Int} (h0 : 0 ≤ x1) (h1 : x1 ≤ 1) (h2 : (x1 = 0 ∨ (0 ≤ x0 ∧ x0 ≤ 24 ∧ 0 ≤ x2 ∧ x2 ≤ 3))) (h3 : ¬ x1 = 0) : x0 ≤ 24 := by omega
theorem o27_14 {x0 x1 x2 : Int} (h0 : 0 ≤ x1) (h1 : x1 ≤ 1) (h2 : (x1 = 0 ∨ (0 ≤ x2 ∧ x2 ≤ 24 ∧ 0 ≤ x0 ∧ x0 ≤ 3))) (h3 : ¬ x1 = 0) : 0 ≤ x0 := by omega
theorem o27_15 {x0 x1 x2 : Int} (h0 : 0 ≤ x1) (h1 : x1 ≤ 1) (h2 : (x1 = 0 ∨ (0 ≤ x2 ∧ x2 ≤ 24 ∧ 0 ≤ x0 ∧ x0 ≤ 3))) (h3 : ¬ x1 = 0) : x0 ≤ 3 := by omega
theorem o27_16 {x0 : Int} (h0 : (-1) ≤ x0) (h1 : x0 ≤ 24) : (-2) ≤ x0 := by omega
theorem o27_17 {x0 : Int} (h0 : (-1) ≤ x0) (h1 : x0 ≤ 24) : x0 ≤ 24 := by omega
theorem o27_18 {x0 : Int} (h0 : x0 = (-2)) : (-2) ≤ x0 := by omega
theorem o27_19 {x0 : Int} (h0 : x0 = (-2)) : x0 ≤ 24 := by omega
theorem o27_20 {x0 x1 : Int} (h0 : 0 ≤ x1) (h1 : x1 ≤ 1) (h2 : (x1 = 0 ∨ (0 ≤ x0 ∧ x0 ≤ 24))) (h3 : ¬ x1 = 0) : 0 ≤ x0 := by omega
theorem o27_21 {x0 x1 : Int} (h0 : 0 ≤ x1) (h1 : x1 ≤ 1) (h2 : (x1 = 0 ∨ (0 ≤ x0 ∧ x0 ≤ 24))) (h3 : ¬ x1 = 0) : x0 < (25 : Nat) := by omega
theorem o27_22 {x0 x1 : Int} (h0 : 0 ≤ x1) (h1 : x1 ≤ 1) (h2 : (x1 = 0 ∨ (0 ≤ x0 ∧ x0 ≤ 24))) (h3 : ¬ x1 = 0) : x0 ≤ 24 := by omega
theorem o27_23 {x0 : Int} (h0 : x0 = (-3)) : (-3) ≤ x0 := by omega
theorem o27_24 {x0 : Int} (h0 : x0 = 999) : x0 = 999 := by omega
theorem o27_25 {x0 x1 : Int} (h0 : 0 ≤ x0) (h1 : x1 = 999) (h2 : x0 ≤ x1) : ¬ 999 < x0 := by omega
theorem o27_26 {x0 x1 : Int} (h0 : 0 ≤ x0) (h1 : x1 = 999) (h2 : x1 < x0) : 999 < x0 := by omega
theorem o27_27 {x0 x1 x2 : Int} (h0 : 0 ≤ x1) (h1 : x1 ≤ 1) (h2 : (x1 = 0 ∨ (0 ≤ x0 ∧ x0 ≤ 24 ∧ 0 ≤ x2 ∧ x2 ≤ 3))) (h3 : ¬ x1 = 0) : x0 < (25 : Nat) := by omega
theorem o27_28 {x0 : Int} (h0 : 0 ≤ x0) : (-3) ≤ x0 := by omega
theorem o27_29 {x0 : Int} (h0 : x0 = (-2)) : (-3) ≤ x0 := by omega
theorem o27_30 {x0 x1 x2 : Int} (h0 : 0 ≤ x0) (h1 : x0 ≤ 4) (h2 : (x0 = 0 → 0 ≤ x1) ∧ (x0 = 0 → x1 ≤ 4) ∧ (x0 = 0 → 0 ≤ x2) ∧ (x0 = 0 → x2 ≤ 3)) : 0 ≤ x0 := by omega
theorem o27_31 {x0 x1 x2 : Int} (h0 : 0 ≤ x0) (h1 : x0 ≤ 4) (h2 : (x0 = 0 → 0 ≤ x1) ∧ (x0 = 0 → x1 ≤ 4) ∧ (x0 = 0 → 0 ≤ x2) ∧ (x0 = 0 → x2 ≤ 3)) : x0 ≤ 4 := by omega
theorem o27_32 {x0 x1 x2 : Int} (h0 : 0 ≤ x1) (h1 : x1 ≤ 4) (h2 : (x1 = 0 → 0 ≤ x0) ∧ (x1 = 0 → x0 ≤ 4) ∧ (x1 = 0 → 0 ≤ x2) ∧ (x1 = 0 → x2 ≤ 3)) (h3 : x1 = 0) : 0 ≤ x0 := by omega
theorem o27_33 {x0 x1 x2 : Int} (h0 : 0 ≤ x1) (h1 : x1 ≤ 4) (h2 : (x1 = 0 → 0 ≤ x0) ∧ (x1 = 0 → x0 ≤ 4) ∧ (x1 = 0 → 0 ≤ x2) ∧ (x1 = 0 → x2 ≤ 3)) (h3 : x1 = 0) : x0 ≤ 4 := by omega
theorem o27_34 {x0 x1 x2 : Int} (h0 : 0 ≤ x1) (h1 : x1 ≤ 4) (h2 : (x1 = 0 → 0 ≤ x2) ∧ (x1 = 0 → x2 ≤ 4) ∧ (x1 = 0 → 0 ≤ x0) ∧ (x1 = 0 → x0 ≤ 3)) (h3 : x1 = 0) : 0 ≤ x0 := by omega
theorem o27_35 {x0 x1 x2 : Int} (h0 : 0 ≤ x1) (h1 : x1 ≤ 4) (h2 : (x1 = 0 → 0 ≤ x2) ∧ (x1 = 0 → x2 ≤ 4) ∧ (x1 = 0 → 0 ≤ x0) ∧ (x1 = 0 → x0 ≤ 3)) (h3 : x1 = 0) : x0 ≤ 3 := by omega
theorem o27_36 {x0 x1 x2 : Int} (h0 : 0 ≤ x0) (h1 : x0 ≤ 4) (h2 : (x0 = 0 → 0 ≤ x1) ∧ (x0 = 0 → x1 ≤ 4) ∧ (x0 = 0 → 0 ≤ x2) ∧ (x0 = 0 → x2 ≤ 3)) (h3 : x0 = 0) : x0 = 0 := by omega
theorem o27_37 {x0 x1 x2 : Int} (h0 : 0 ≤ x1) (h1 : x1 ≤ 4) (h2 : (x1 = 0 → 0 ≤ x0) ∧ (x1 = 0 → x0 ≤ 4) ∧ (x1 = 0 → 0 ≤ x2) ∧ (x1 = 0 → x2 ≤ 3)) (h3 : x1 = 0) : x0 < (5 : Nat) := by omega
theorem o27_38 {x0 : Int} (h0 : 0 ≤ x0) (h1 : x0 ≤ 24) : (-14) ≤ x0 := by omega
theorem o27_39 {x0 : Int} (h0 : 0 ≤ x0) (h1 : x0 ≤ 24) : x0 ≤ 24 := by omega
theorem o27_40 {x0 x1 x2 x3 : Int} (h0 : 0 ≤ x1) (h1 : x1 ≤ 4) (h2 : (x1 = 0 → 0 ≤ x2) ∧ (x1 = 0 → x2 ≤ 4) ∧ (x1 = 0 → 0 ≤ x3) ∧ (x1 = 0 → x3 ≤ 3)) (h3 : ¬ x1 = 0) (h4 : x0 = (-10)) (h5 : -2147483648 ≤ x0) (h6 : x0 ≤ 2147483647) (h7 : -2147483648 ≤ x1) (h8 : x1 ≤ 2147483647) (h9 : -2147483648 ≤ x2) (h10 : x2 ≤ 2147483647) (h11 : -2147483648 ≤ x3) (h12 : x3 ≤ 2147483647) : -2147483648 ≤ x0 - x1 := by omega
theorem o27_41 {x0 x1 x2 x3 : Int} (h0 : 0 ≤ x1) (h1 : x1 ≤ 4) (h2 : (x1 = 0 → 0 ≤ x2) ∧ (x1 = 0 → x2 ≤ 4) ∧ (x1 = 0 → 0 ≤ x3) ∧ (x1 = 0 → x3 ≤ 3)) (h3 : ¬ x1 = 0) (h4 : x0 = (-10)) (h5 : -2147483648 ≤ x0) (h6 : x0 ≤ 2147483647) (h7 : -2147483648 ≤ x1) (h8 : x1 ≤ 2147483647) (h9 : -2147483648 ≤ x2) (h10 : x2 ≤ 2147483647) (h11 : -2147483648 ≤ x3) (h12 : x3 ≤ 2147483647) : x0 - x1 ≤ 2147483647 := by omega
theorem o27_42 {x0 x1 x2 x3 x4 : Int} (h0 : 0 ≤ x1) (h1 : x1 ≤ 4) (h2 : (x1 = 0 → 0 ≤ x2) ∧ (x1 = 0 → x2 ≤ 4) ∧ (x1 = 0 → 0 ≤ x3) ∧ (x1 = 0 → x3 ≤ 3)) (h3 : ¬ x1 = 0) (h4 : x4 = (-10)) (h5 : x0 = x4 - x1) : (-14) ≤ x0 := by omega
theorem o27_43 {x0 x1 x2 x3 x4 : Int} (h0 : 0 ≤ x1) (h1 : x1 ≤ 4) (h2 : (x1 = 0 → 0 ≤ x2) ∧ (x1 = 0 → x2 ≤ 4) ∧ (x1 = 0 → 0 ≤ x3) ∧ (x1 = 0 → x3 ≤ 3)) (h3 : ¬ x1 = 0) (h4 : x4 = (-10)) (h5 : x0 = x4 - x1) : x0 ≤ 24 := by omega
theorem o27_44 {x0 : Int} (h0 : x0 = (4 : Nat)) : x0 = 4 := by omega
theorem o27_45 {x0 x1 : Int} (h0 : 0 ≤ x0) (h1 : x1 = (4 : Nat)) (h2 : x0 < x1) : x0 < 4 := by omega
theorem o27_46 {x0 x1 : Int} (h0 : 0 ≤ x0) (h1 : x1 = (4 : Nat)) (h2 : x1 ≤ x0) : ¬ x0 < 4 := by omega
theorem o27_47 {x0 x1 : Int} (h0 : 0 ≤ x1) (h1 : x1 ≤ 1) (h2 : ((x1 = 0 ∧ (x0 < 0 ∨ 3 < x0)) ∨ (x1 = 1 ∧ 0 ≤ x0 ∧ x0 ≤ 3))) (h3 : ¬ x1 = 0) : 0 ≤ x0 := by omega
theorem o27_48 {x0 x1 : Int} (h0 : 0 ≤ x1) (h1 : x1 ≤ 1) (h2 : ((x1 = 0 ∧ (x0 < 0 ∨ 3 < x0)) ∨ (x1 = 1 ∧ 0 ≤ x0 ∧ x0 ≤ 3))) (h3 : ¬ x1 = 0) : x0 < (4 : Nat) := by omega
theorem o27_49 {x0 x1 : Int} (h0 : 0 ≤ x1) (h1 : x1 ≤ 1) (h2 : ((x1 = 0 ∧ (x0 < 0 ∨ 3 < x0)) ∨ (x1 = 1 ∧ 0 ≤ x0 ∧ x0 ≤ 3))) (h3 : ¬ x1 = 0) : (x0).toNat < 4 := by omega
theorem o27_50 {x0 x1 : Int} (h0 : 0 ≤ x0) (h1 : x1 = (4 : Nat)) (h2 : x0 < x1) : 0 ≤ x0 := by omega
theorem o27_51 {x0 x1 : Int} (h0 : 0 ≤ x0) (h1 : x1 = (4 : Nat)) (h2 : x0 < x1) : x0 < (4 : Nat) := by omega
theorem o27_52 {x0 x1 : Int} (h0 : x1 = 1) (h1 : x0 < x1) : x0 < 1 := by omega
theorem o27_53 {x0 x1 : Int} (h0 : x1 = 1) (h1 : x1 ≤ x0) : ¬ x0 < 1 := by omega
theorem o27_54 {x0 : Int} (h0 : x0 = 20) : x0 = 20 := by omega
theorem o27_55 {x0 x1 x2 : Int} (h0 : x1 = 1) (h1 : x1 ≤ x0) (h2 : x2 = 20) (h3 : x0 ≤ x2) : ¬ 20 < x0 := by omega
theorem o27_56 {x0 x1 x2 : Int} (h0 : x1 = 1) (h1 : x1 ≤ x0) (h2 : x2 = 20) (h3 : x2 < x0) : 20 < x0 := by omega
theorem o27_57 {x0 : Int} (h0 : 0 ≤ x0) (h1 : x0 ≤ 20) (h2 : 20 - x0 < 0) : False := by omega
theorem o27_58 {x0 : Int} (h0 : x0 = 99) : x0 = 99 := by omega
theorem o27_59 {x0 x1 : Int} (h0 : x1 = 99) (h1 : x0 ≤ x1) : ¬ 99 < x0 := by omega
theorem o27_60 {x0 x1 : Int} (h0 : x1 = 99) (h1 : x1 < x0) : 99 < x0 := by omega
theorem o27_61 {x0 : Int} (h0 : 0 ≤ x0) (h1 : x0 ≤ 24) : 0 ≤ x0 := by omega
theorem o27_62 {x0 : Int} (h0 : 0 ≤ x0) (h1 : x0 ≤ 24) : x0 < (25 : Nat) := by omega
theorem o27_63 {x0 x1 : Int} (h0 : 0 ≤ x1) (h1 : x1 ≤ 1) (h2 : (x1 = 0 ∨ (0 ≤ x0 ∧ x0 ≤ 4))) (h3 : ¬ x1 = 0) : x0 ≤ 4 := by omega
theorem o27_64 {x0 x1 x2 x3 : Int} {x4 : Nat} (h0 : x1 = 1) (h1 : x1 ≤ x2) (h2 : x3 = 20) (h3 : x2 ≤ x3) (h4 : 0 ≤ x0) (h5 : x0 ≤ 20) (h6 : 20 - x0 < ((x4 + 1 : Nat) : Int)) (h7 : x0 < x2) (h8 : -2147483648 ≤ x0) (h9 : x0 ≤ 2147483647) (h10 : -2147483648 ≤ x1) (h11 : x1 ≤ 2147483647) (h12 : -2147483648 ≤ x2) (h13 : x2 ≤ 2147483647) (h14 : -2147483648 ≤ x3) (h15 : x3 ≤ 2147483647) : -2147483648 ≤ x0 + 1 := by omega
theorem o27_65 {x0 x1 x2 x3 : Int} {x4 : Nat} (h0 : x1 = 1) (h1 : x1 ≤ x2) (h2 : x3 = 20) (h3 : x2 ≤ x3) (h4 : 0 ≤ x0) (h5 : x0 ≤ 20) (h6 : 20 - x0 < ((x4 + 1 : Nat) : Int)) (h7 : x0 < x2) (h8 : -2147483648 ≤ x0) (h9 : x0 ≤ 2147483647) (h10 : -2147483648 ≤ x1) (h11 : x1 ≤ 2147483647) (h12 : -2147483648 ≤ x2) (h13 : x2 ≤ 2147483647) (h14 : -2147483648 ≤ x3) (h15 : x3 ≤ 2147483647) : x0 + 1 ≤ 2147483647 := by omega
theorem o27_66 {x0 x2 x3 x4 x5 : Int} {x1 : Nat} (h0 : x2 = 1) (h1 : x2 ≤ x3) (h2 : x4 = 20) (h3 : x3 ≤ x4) (h4 : 0 ≤ x5) (h5 : x5 ≤ 20) (h6 : 20 - x5 < ((x1 + 1 : Nat) : Int)) (h7 : x5 < x3) (h8 : x0 = x5 + 1) : 20 - x0 < (x1 : Int) := by omega
theorem o27_67 {x0 x1 x2 x3 x4 : Int} {x5 : Nat} (h0 : x1 = 1) (h1 : x1 ≤ x2) (h2 : x3 = 20) (h3 : x2 ≤ x3) (h4 : 0 ≤ x4) (h5 : x4 ≤ 20) (h6 : 20 - x4 < ((x5 + 1 : Nat) : Int)) (h7 : x4 < x2) (h8 : x0 = x4 + 1) : 0 ≤ x0 := by omega
theorem o27_68 {x0 x1 x2 x3 x4 : Int} {x5 : Nat} (h0 : x1 = 1) (h1 : x1 ≤ x2) (h2 : x3 = 20) (h3 : x2 ≤ x3) (h4 : 0 ≤ x4) (h5 : x4 ≤ 20) (h6 : 20 - x4 < ((x5 + 1 : Nat) : Int)) (h7 : x4 < x2) (h8 : x0 = x4 + 1) : x0 ≤ 20 := by omega
theorem o27_69 {x0 : Int} (h0 : x0 = 0) : 20 - x0 < (((20 - x0 + 1).toNat : Nat) : Int) := by omega
theorem o27_70 {x0 : Int} (h0 : x0 = 0) : 0 ≤ x0 := by omega
theorem o27_71 {x0 : Int} (h0 : x0 = 0) : x0 ≤ 20 := by omega
theorem o27_72 {x0 : Int} (h0 : x0 = 3) : x0 = 3 := by omega
theorem o27_73 {x0 : Int} (h0 : 0 ≤ x0) : 0 ≤ x0 := by omega
theorem o27_74 {x0 x1 x2 : Int} (h0 : x1 = 1) (h1 : x1 ≤ x0) (h2 : x2 = 99) (h3 : x0 ≤ x2) : ¬ 99 < x0 := by omega
theorem o27_75 {x0 x1 x2 : Int} (h0 : x1 = 1) (h1 : x1 ≤ x0) (h2 : x2 = 99) (h3 : x2 < x0) : 99 < x0 := by omega
theorem o27_76 {x0 x1 x2 x3 : Int} (h0 : 0 ≤ x1) (h1 : x1 ≤ 1) (h2 : (x1 = 0 ∨ (0 ≤ x0 ∧ x0 ≤ 4))) (h3 : ¬ x1 = 0) (h4 : 0 ≤ x2) (h5 : x2 ≤ 1) (h6 : (x2 = 0 ∨ (0 ≤ x3 ∧ x3 ≤ 4))) (h7 : ¬ x2 = 0) (h8 : ¬ x0 = x3) : 0 ≤ x0 := by omega
theorem o27_77 {x0 x1 x2 x3 : Int} (h0 : 0 ≤ x1) (h1 : x1 ≤ 1) (h2 : (x1 = 0 ∨ (0 ≤ x0 ∧ x0 ≤ 4))) (h3 : ¬ x1 = 0) (h4 : 0 ≤ x2) (h5 : x2 ≤ 1) (h6 : (x2 = 0 ∨ (0 ≤ x3 ∧ x3 ≤ 4))) (h7 : ¬ x2 = 0) (h8 : ¬ x0 = x3) : x0 < (5 : Nat) := by omega
theorem o27_78 {x0 x1 x2 x3 : Int} (h0 : 0 ≤ x1) (h1 : x1 ≤ 1) (h2 : (x1 = 0 ∨ (0 ≤ x2 ∧ x2 ≤ 4))) (h3 : ¬ x1 = 0) (h4 : 0 ≤ x3) (h5 : x3 ≤ 1) (h6 : (x3 = 0 ∨ (0 ≤ x0 ∧ x0 ≤ 4))) (h7 : ¬ x3 = 0) (h8 : ¬ x2 = x0) : 0 ≤ x0 := by omega
theorem o27_79 {x0 x1 x2 x3 : Int} (h0 : 0 ≤ x1) (h1 : x1 ≤ 1) (h2 : (x1 = 0 ∨ (0 ≤ x2 ∧ x2 ≤ 4))) (h3 : ¬ x1 = 0) (h4 : 0 ≤ x3) (h5 : x3 ≤ 1) (h6 : (x3 = 0 ∨ (0 ≤ x0 ∧ x0 ≤ 4))) (h7 : ¬ x3 = 0) (h8 : ¬ x2 = x0) : x0 < (5 : Nat) := by omega
theorem o27_80 {x0 : Int} (h0 : x0 = (-3)) : x0 ≤ 63 := by omega
theorem o27_81 {x0 : Int} (h0 : 0 ≤ x0) (h1 : x0 ≤ 63) : (-3) ≤ x0 := by omega
theorem o27_82 {x0 : Int} (h0 : 0 ≤ x0) (h1 : x0 ≤ 63) : x0 ≤ 63 := by omega
theorem o27_83 {x0 : Int} (h0 : x0 = (-2)) : x0 ≤ 63 := by omega
theorem o27_84 {x0 : Int} (h0 : x0 = (-3)) : x0 ≤ 9 := by omega
theorem o27_85 {x0 x1 x2 x3 : Int} (h0 : x2 = 1) (h1 : x2 ≤ x1) (h2 : 0 ≤ x3) (h3 : x3 ≤ 10) (h4 : x1 ≤ x3) (h5 : 0 ≤ x0) (h6 : x0 ≤ 10) (h7 : x0 = x3) (h8 : -2147483648 ≤ x0) (h9 : x0 ≤ 2147483647) (h10 : -2147483648 ≤ x1) (h11 : x1 ≤ 2147483647) (h12 : -2147483648 ≤ x2) (h13 : x2 ≤ 2147483647) (h14 : -2147483648 ≤ x3) (h15 : x3 ≤ 2147483647) : -2147483648 ≤ x0 - x1 := by omega
theorem o27_86 {x0 x1 x2 x3 : Int} (h0 : x2 = 1) (h1 : x2 ≤ x1) (h2 : 0 ≤ x3) (h3 : x3 ≤ 10) (h4 : x1 ≤ x3) (h5 : 0 ≤ x0) (h6 : x0 ≤ 10) (h7 : x0 = x3) (h8 : -2147483648 ≤ x0) (h9 : x0 ≤ 2147483647) (h10 : -2147483648 ≤ x1) (h11 : x1 ≤ 2147483647) (h12 : -2147483648 ≤ x2) (h13 : x2 ≤ 2147483647) (h14 : -2147483648 ≤ x3) (h15 : x3 ≤ 2147483647) : x0 - x1 ≤ 2147483647 := by omega
theorem o27_87 {x0 x1 x2 x3 x4 : Int} (h0 : x1 = 1) (h1 : x1 ≤ x2) (h2 : 0 ≤ x3) (h3 : x3 ≤ 10) (h4 : x2 ≤ x3) (h5 : 0 ≤ x4) (h6 : x4 ≤ 10) (h7 : x4 = x3) (h8 : x0 = x4 - x2) : 0 ≤ x0 := by omega
theorem o27_88 {x0 x1 x2 x3 x4 : Int} (h0 : x1 = 1) (h1 : x1 ≤ x2) (h2 : 0 ≤ x3) (h3 : x3 ≤ 10) (h4 : x2 ≤ x3) (h5 : 0 ≤ x4) (h6 : x4 ≤ 10) (h7 : x4 = x3) (h8 : x0 = x4 - x2) : x0 ≤ 10 := by omega
theorem o27_89 {x0 x1 x2 x3 x4 x5 x6 : Int} (h0 : x2 = 1) (h1 : x2 ≤ x3) (h2 : 0 ≤ x4) (h3 : x4 ≤ 10) (h4 : x3 ≤ x4) (h5 : 0 ≤ x5) (h6 : x5 ≤ 10) (h7 : x5 = x4) (h8 : x6 = x5 - x3) (h9 : 0 ≤ x0) (h10 : x0 ≤ 9) (h11 : 0 ≤ x1) (h12 : x1 ≤ 10) (h13 : x1 = x6) (h14 : -2147483648 ≤ x0) (h15 : x0 ≤ 2147483647) (h16 : -2147483648 ≤ x1) (h17 : x1 ≤ 2147483647) (h18 : -2147483648 ≤ x2) (h19 : x2 ≤ 2147483647) (h20 : -2147483648 ≤ x3) (h21 : x3 ≤ 2147483647) (h22 : -2147483648 ≤ x4) (h23 : x4 ≤ 2147483647) (h24 : -2147483648 ≤ x5) (h25 : x5 ≤ 2147483647) (h26 : -2147483648 ≤ x6) (h27 : x6 ≤ 2147483647) : -2147483648 ≤ x0 + x1 := by omega
theorem o27_90 {x0 x1 x2 x3 x4 x5 x6 : Int} (h0 : x2 = 1) (h1 : x2 ≤ x3) (h2 : 0 ≤ x4) (h3 : x4 ≤ 10) (h4 : x3 ≤ x4) (h5 : 0 ≤ x5) (h6 : x5 ≤ 10) (h7 : x5 = x4) (h8 : x6 = x5 - x3) (h9 : 0 ≤ x0) (h10 : x0 ≤ 9) (h11 : 0 ≤ x1) (h12 : x1 ≤ 10) (h13 : x1 = x6) (h14 : -2147483648 ≤ x0) (h15 : x0 ≤ 2147483647) (h16 : -2147483648 ≤ x1) (h17 : x1 ≤ 2147483647) (h18 : -2147483648 ≤ x2) (h19 : x2 ≤ 2147483647) (h20 : -2147483648 ≤ x3) (h21 : x3 ≤ 2147483647) (h22 : -2147483648 ≤ x4) (h23 : x4 ≤ 2147483647) (h24 : -2147483648 ≤ x5) (h25 : x5 ≤ 2147483647) (h26 : -2147483648 ≤ x6) (h27 : x6 ≤ 2147483647) : x0 + x1 ≤ 2147483647 := by omega
theorem o27_91 {x0 : Int} (h0 : x0 = 10) : x0 = 10 := by omega
theorem o27_92 {x0 x1 x2 x3 x4 x5 x6 x7 : Int} (h0 : x1 = 1) (h1 : x1 ≤ x2) (h2 : 0 ≤ x3) (h3 : x3 ≤ 10) (h4 : x2 ≤ x3) (h5 : 0 ≤ x4) (h6 : x4 ≤ 10) (h7 : x4 = x3) (h8 : x5 = x4 - x2) (h9 : 0 ≤ x6) (h10 : x6 ≤ 9) (h11 : 0 ≤ x7) (h12 : x7 ≤ 10) (h13 : x7 = x5) (h14 : x0 = x6 + x7) : 0 ≤ x0 := by omega
theorem o27_93 {x0 x1 x2 x3 x4 x5 x6 x7 x8 : Int} (h0 : x1 = 1) (h1 : x1 ≤ x2) (h2 : 0 ≤ x3) (h3 : x3 ≤ 10) (h4 : x2 ≤ x3) (h5 : 0 ≤ x4) (h6 : x4 ≤ 10) (h7 : x4 = x3) (h8 : x5 = x4 - x2) (h9 : 0 ≤ x6) (h10 : x6 ≤ 9) (h11 : 0 ≤ x7) (h12 : x7 ≤ 10) (h13 : x7 = x5) (h14 : x8 = x6 + x7) (h15 : x0 = x8 % 10) : 0 ≤ x0 := by omega
theorem o27_94 {x0 x1 x2 x3 x4 x5 x6 x7 x8 : Int} (h0 : x1 = 1) (h1 : x1 ≤ x2) (h2 : 0 ≤ x3) (h3 : x3 ≤ 10) (h4 : x2 ≤ x3) (h5 : 0 ≤ x4) (h6 : x4 ≤ 10) (h7 : x4 = x3) (h8 : x5 = x4 - x2) (h9 : 0 ≤ x6) (h10 : x6 ≤ 9) (h11 : 0 ≤ x7) (h12 : x7 ≤ 10) (h13 : x7 = x5) (h14 : x8 = x6 + x7) (h15 : x0 = x8 % 10) : x0 < (10 : Nat) := by omega
theorem o27_95 {x0 x1 x2 x3 x4 x5 x6 x7 x8 : Int} (h0 : x1 = 1) (h1 : x1 ≤ x2) (h2 : 0 ≤ x3) (h3 : x3 ≤ 10) (h4 : x2 ≤ x3) (h5 : 0 ≤ x4) (h6 : x4 ≤ 10) (h7 : x4 = x3) (h8 : x5 = x4 - x2) (h9 : 0 ≤ x6) (h10 : x6 ≤ 9) (h11 : 0 ≤ x7) (h12 : x7 ≤ 10) (h13 : x7 = x5) (h14 : x8 = x6 + x7) (h15 : x0 = x8 % 10) : (x0).toNat < 10 := by omega
theorem o27_96 {x0 x1 x2 x3 x4 x5 x6 x7 x8 x9 : Int} (h0 : x1 = 1) (h1 : x1 ≤ x2) (h2 : 0 ≤ x3) (h3 : x3 ≤ 10) (h4 : x2 ≤ x3) (h5 : 0 ≤ x4) (h6 : x4 ≤ 10) (h7 : x4 = x3) (h8 : x5 = x4 - x2) (h9 : 0 ≤ x6) (h10 : x6 ≤ 9) (h11 : 0 ≤ x7) (h12 : x7 ≤ 10) (h13 : x7 = x5) (h14 : x8 = x6 + x7) (h15 : x9 = x8 % 10) (h16 : 0 ≤ x0) (h17 : x0 ≤ 10) (h18 : x0 = x5) : (-3) ≤ x0 := by omega
theorem o27_97 {x0 x1 x2 x3 x4 x5 x6 x7 x8 x9 : Int} (h0 : x1 = 1) (h1 : x1 ≤ x2) (h2 : 0 ≤ x3) (h3 : x3 ≤ 10) (h4 : x2 ≤ x3) (h5 : 0 ≤ x4) (h6 : x4 ≤ 10) (h7 : x4 = x3) (h8 : x5 = x4 - x2) (h9 : 0 ≤ x6) (h10 : x6 ≤ 9) (h11 : 0 ≤ x7) (h12 : x7 ≤ 10) (h13 : x7 = x5) (h14 : x8 = x6 + x7) (h15 : x9 = x8 % 10) (h16 : 0 ≤ x0) (h17 : x0 ≤ 10) (h18 : x0 = x5) : x0 ≤ 9 := by omega
theorem o27_98 {x0 : Int} (h0 : x0 = 60) : x0 = 60 := by omega
theorem o27_99 {x0 x1 x2 : Int} (h0 : x1 = 1) (h1 : x1 ≤ x0) (h2 : x2 = 60) (h3 : x0 ≤ x2) : ¬ 60 < x0 := by omega
theorem o27_100 {x0 x1 x2 : Int} (h0 : x1 = 1) (h1 : x1 ≤ x0) (h2 : x2 = 60) (h3 : x2 < x0) : 60 < x0 := by omega
theorem o27_101 {x0 : Int} (h0 : 0 ≤ x0) (h1 : x0 ≤ 60) (h2 : 60 - x0 < 0) : False := by omega
theorem o27_102 {x0 x1 x2 x3 : Int} {x4 : Nat} (h0 : x1 = 1) (h1 : x1 ≤ x2) (h2 : x3 = 60) (h3 : x2 ≤ x3) (h4 : 0 ≤ x0) (h5 : x0 ≤ 60) (h6 : 60 - x0 < ((x4 + 1 : Nat) : Int)) (h7 : x0 < x2) (h8 : -2147483648 ≤ x0) (h9 : x0 ≤ 2147483647) (h10 : -2147483648 ≤ x1) (h11 : x1 ≤ 2147483647) (h12 : -2147483648 ≤ x2) (h13 : x2 ≤ 2147483647) (h14 : -2147483648 ≤ x3) (h15 : x3 ≤ 2147483647) : -2147483648 ≤ x0 + 1 := by omega
theorem o27_103 {x0 x1 x2 x3 : Int} {x4 : Nat} (h0 : x1 = 1) (h1 : x1 ≤ x2) (h2 : x3 = 60) (h3 : x2 ≤ x3) (h4 : 0 ≤ x0) (h5 : x0 ≤ 60) (h6 : 60 - x0 < ((x4 + 1 : Nat) : Int)) (h7 : x0 < x2) (h8 : -2147483648 ≤ x0) (h9 : x0 ≤ 2147483647) (h10 : -2147483648 ≤ x1) (h11 : x1 ≤ 2147483647) (h12 : -2147483648 ≤ x2) (h13 : x2 ≤ 2147483647) (h14 : -2147483648 ≤ x3) (h15 : x3 ≤ 2147483647) : x0 + 1 ≤ 2147483647 := by omega
theorem o27_104 {x0 x2 x3 x4 x5 : Int} {x1 : Nat} (h0 : x2 = 1) (h1 : x2 ≤ x3) (h2 : x4 = 60) (h3 : x3 ≤ x4) (h4 : 0 ≤ x5) (h5 : x5 ≤ 60) (h6 : 60 - x5 < ((x1 + 1 : Nat) : Int)) (h7 : x5 < x3) (h8 : x0 = x5 + 1) : 60 - x0 < (x1 : Int) := by omega
theorem o27_105 {x0 x1 x2 x3 x4 : Int} {x5 : Nat} (h0 : x1 = 1) (h1 : x1 ≤ x2) (h2 : x3 = 60) (h3 : x2 ≤ x3) (h4 : 0 ≤ x4) (h5 : x4 ≤ 60) (h6 : 60 - x4 < ((x5 + 1 : Nat) : Int)) (h7 : x4 < x2) (h8 : x0 = x4 + 1) : 0 ≤ x0 := by omega
theorem o27_106 {x0 x1 x2 x3 x4 : Int} {x5 : Nat} (h0 : x1 = 1) (h1 : x1 ≤ x2) (h2 : x3 = 60) (h3 : x2 ≤ x3) (h4 : 0 ≤ x4) (h5 : x4 ≤ 60) (h6 : 60 - x4 < ((x5 + 1 : Nat) : Int)) (h7 : x4 < x2) (h8 : x0 = x4 + 1) : x0 ≤ 60 := by omega
theorem o27_107 {x0 : Int} (h0 : x0 = 0) : 60 - x0 < (((60 - x0 + 1).toNat : Nat) : Int) := by omega
theorem o27_108 {x0 : Int} (h0 : x0 = 0) : x0 ≤ 60 := by omega
noncomputable def g10c_X11_feed (s : XS) (r_33 : Int) : XR := (s, r_33)
noncomputable def g9c_X11_feed (s : XS) : XR := g10c_X11_feed ((f_X5_fed s).1) (((f_X5_fed s).2))
noncomputable def g8c_X11_feed (s : XS) (a5 : Int) : XR := g9c_X11_feed ((f_X5_put s a5).1)
noncomputable def g7c_X11_feed (s : XS) (a4 : Int) (a5 : Int) : XR := g8c_X11_feed ((f_X5_put s a4).1) a5
noncomputable def g6c_X11_feed (s : XS) (a3 : Int) (a4 : Int) (a5 : Int) : XR := g7c_X11_feed ((f_X5_put s a3).1) a4 a5
noncomputable def g5c_X11_feed (s : XS) (a2 : Int) (a3 : Int) (a4 : Int) (a5 : Int) : XR := g6c_X11_feed ((f_X5_put s a2).1) a3 a4 a5
noncomputable def g3_X11_feed (s : XS) (a1 : Int) (a2 : Int) (a3 : Int) (a4 : Int) (a5 : Int) : XR := g5c_X11_feed ((f_X5_put s a1).1) a2 a3 a4 a5
noncomputable def g4_X11_feed (s : XS) : XR := (s, ((-5)))
noncomputable def g2b_X11_feed (s : XS) (r_4 : Int) (a1 : Int) (a2 : Int) (a3 : Int) (a4 : Int) (a5 : Int) : XR := if r_4 = 0 then g4_X11_feed s else g3_X11_feed s a1 a2 a3 a4 a5
noncomputable def g1c_X11_feed (s : XS) (r_4 : Int) (a1 : Int) (a2 : Int) (a3 : Int) (a4 : Int) (a5 : Int) : XR := g2b_X11_feed s r_4 a1 a2 a3 a4 a5
noncomputable def f_X11_feed (s : XS) (a1 : Int) (a2 : Int) (a3 : Int) (a4 : Int) (a5 : Int) : XR := g1c_X11_feed ((f_X5_hasRoom s).1) (((f_X5_hasRoom s).2)) a1 a2 a3 a4 a5
set_option maxHeartbeats 4000000 in
set_option maxRecDepth 100000 in
theorem c_X11_feed (l : Launch) (G : GG) (Z : RZ) (ad : Nat → Nat) (ws0 : va_W) (hT : Ty G SC ad ws0) (a1 : Int32) (a2 : Int32) (a3 : Int32) (a4 : Int32) (a5 : Int32) (hR : Rel ws0) (hH : Hok ws0) : Mq l yX11_feed cX11_feed 6 (some .int) 2 G Z [.ref (ad 0), .int a1, .int a2, .int a3, .int a4, .int a5] ws0 (PI G SC ad [16, 17] ws0 (fun r u => (xso SC ad u = (f_X11_feed (xso SC ad ws0) a1.toInt a2.toInt a3.toInt a4.toInt a5.toInt).1) ∧ (r.toInt = (f_X11_feed (xso SC ad ws0) a1.toInt a2.toInt a3.toInt a4.toInt a5.toInt).2) ∧ ((-5) ≤ r.toInt) ∧ (r.toInt ≤ 900) ∧ (Rel u) ∧ (Hok u))) := by
  refine Mq.start (by decide) (Nat.le_of_ble_eq_true rfl) ?_
  intro p e s m below meth c A ls C0 hZ h hl
  have hl : lv_has ls 6 [(0, .ref (ad 0)), (1, .int a1), (2, .int a2), (3, .int a3), (4, .int a4), (5, .int a5)] := hl
  have h : Wt G SC ad A s s.heap [] ws0 := ⟨h, hT⟩
  obtain ⟨args, hargs⟩ : ∃ z, z = ([.ref (ad 0), .int a1, .int a2, .int a3, .int a4, .int a5] : List Value).toArray := ⟨_, rfl⟩
  rw [← hargs] at C0 ⊢
  have C0 : Cx p s m args meth c RX11 cX11_feed 6 (some .int) := C0
  obtain ⟨Q, hQ⟩ : ∃ z, z = MQ below ((PI G SC ad [16, 17] ws0 (fun r u => (xso SC ad u = (f_X11_feed (xso SC ad ws0) a1.toInt a2.toInt a3.toInt a4.toInt a5.toInt).1) ∧ (r.toInt = (f_X11_feed (xso SC ad ws0) a1.toInt a2.toInt a3.toInt a4.toInt a5.toInt).2) ∧ ((-5) ≤ r.toInt) ∧ (r.toInt ≤ 900) ∧ (Rel u) ∧ (Hok u))) A) args s 0 0 A := ⟨_, rfl⟩
  rw [← hQ]
  obtain ⟨FT, hFT⟩ : ∃ z, z = f_X11_feed (xso SC ad ws0) a1.toInt a2.toInt a3.toInt a4.toInt a5.toInt := ⟨_, rfl⟩
  have HE : FT = f_X11_feed (xso SC ad ws0) a1.toInt a2.toInt a3.toInt a4.toInt a5.toInt := hFT
  refine lv_aload_n C0.1 C0.2.1 dX11_feed_0 rfl (lv_at hl 0 rfl) ?_
  refine tg_X11_reader C0 h kSC_0 q_517 dX11_feed_1 ?_
  refine y_ci h (y_rV (As := []) (rest := []) C0 hZ h (c_X5_hasRoom l G Z ad _ h.2) k_X5_hasRoom q_579 q_580 q_578 kSC_77 rfl rfl rfl hl.1 rfl rfl (Nat.le_of_ble_eq_true rfl) dX11_feed_4 ⟨Nat.le_of_ble_eq_true rfl, Nat.le_of_ble_eq_true rfl⟩ ⟨Nat.le_of_ble_eq_true rfl, Nat.le_of_ble_eq_true rfl⟩) (fun r_4 H locs ws_1 h u_2 p_3 => ?_)
  obtain ⟨e_5, e_6, e_7, e_8⟩ := p_3
  replace HE : FT = g1c_X11_feed (xso SC ad ws_1) r_4.toInt a1.toInt a2.toInt a3.toInt a4.toInt a5.toInt := HE.trans (by rw [e_5, e_6]; rfl)
  replace HE : FT = g2b_X11_feed (xso SC ad ws_1) r_4.toInt a1.toInt a2.toInt a3.toInt a4.toInt a5.toInt := HE.trans rfl
  refine y_if_ne (tgt := 13) C0 dX11_feed_7 (by decide) (fun c_9 => ?_) (fun c_9 => ?_)
  · -- 7
    replace HE : FT = g3_X11_feed (xso SC ad ws_1) a1.toInt a2.toInt a3.toInt a4.toInt a5.toInt := HE.trans (if_neg c_9)
    refine lv_aload_n C0.1 C0.2.1 dX11_feed_13 rfl (lv_at hl 0 rfl) ?_
    refine tg_X11_reader C0 h kSC_0 q_517 dX11_feed_14 ?_
    refine lv_iload_n C0.1 C0.2.1 dX11_feed_17 rfl (lv_at hl 1 rfl) ?_
    refine y_cv h (y_rV (As := [.int a1]) (rest := []) C0 hZ h (c_X5_put l G Z ad _ h.2 a1) k_X5_put q_583 q_584 q_582 kSC_77 rfl rfl rfl hl.1 rfl rfl (Nat.le_of_ble_eq_true rfl) dX11_feed_18 ⟨Nat.le_of_ble_eq_true rfl, Nat.le_of_ble_eq_true rfl⟩ ⟨Nat.le_of_ble_eq_true rfl, Nat.le_of_ble_eq_true rfl⟩) (fun H locs ws_10 h u_11 p_12 => ?_)
    have e_13 := p_12
    replace HE : FT = g5c_X11_feed (xso SC ad ws_10) a2.toInt a3.toInt a4.toInt a5.toInt := HE.trans (by rw [e_13]; rfl)
    refine lv_aload_n C0.1 C0.2.1 dX11_feed_21 rfl (lv_at hl 0 rfl) ?_
    refine tg_X11_reader C0 h kSC_0 q_517 dX11_feed_22 ?_
    refine lv_iload_n C0.1 C0.2.1 dX11_feed_25 rfl (lv_at hl 2 rfl) ?_
    refine y_cv h (y_rV (As := [.int a2]) (rest := []) C0 hZ h (c_X5_put l G Z ad _ h.2 a2) k_X5_put q_583 q_584 q_582 kSC_77 rfl rfl rfl hl.1 rfl rfl (Nat.le_of_ble_eq_true rfl) dX11_feed_26 ⟨Nat.le_of_ble_eq_true rfl, Nat.le_of_ble_eq_true rfl⟩ ⟨Nat.le_of_ble_eq_true rfl, Nat.le_of_ble_eq_true rfl⟩) (fun H locs ws_14 h u_15 p_16 => ?_)
    have e_17 := p_16
    replace HE : FT = g6c_X11_feed (xso SC ad ws_14) a3.toInt a4.toInt a5.toInt := HE.trans (by rw [e_17]; rfl)
    refine lv_aload_n C0.1 C0.2.1 dX11_feed_29 rfl (lv_at hl 0 rfl) ?_
    refine tg_X11_reader C0 h kSC_0 q_517 dX11_feed_30 ?_
    refine lv_iload_n C0.1 C0.2.1 dX11_feed_33 rfl (lv_at hl 3 rfl) ?_
    refine y_cv h (y_rV (As := [.int a3]) (rest := []) C0 hZ h (c_X5_put l G Z ad _ h.2 a3) k_X5_put q_583 q_584 q_582 kSC_77 rfl rfl rfl hl.1 rfl rfl (Nat.le_of_ble_eq_true rfl) dX11_feed_34 ⟨Nat.le_of_ble_eq_true rfl, Nat.le_of_ble_eq_true rfl⟩ ⟨Nat.le_of_ble_eq_true rfl, Nat.le_of_ble_eq_true rfl⟩) (fun H locs ws_18 h u_19 p_20 => ?_)
    have e_21 := p_20
    replace HE : FT = g7c_X11_feed (xso SC ad ws_18) a4.toInt a5.toInt := HE.trans (by rw [e_21]; rfl)
    refine lv_aload_n C0.1 C0.2.1 dX11_feed_37 rfl (lv_at hl 0 rfl) ?_
    refine tg_X11_reader C0 h kSC_0 q_517 dX11_feed_38 ?_
    refine lv_iload C0.1 C0.2.1 dX11_feed_41 (lv_at hl 4 rfl) ?_
    refine y_cv h (y_rV (As := [.int a4]) (rest := []) C0 hZ h (c_X5_put l G Z ad _ h.2 a4) k_X5_put q_583 q_584 q_582 kSC_77 rfl rfl rfl hl.1 rfl rfl (Nat.le_of_ble_eq_true rfl) dX11_feed_43 ⟨Nat.le_of_ble_eq_true rfl, Nat.le_of_ble_eq_true rfl⟩ ⟨Nat.le_of_ble_eq_true rfl, Nat.le_of_ble_eq_true rfl⟩) (fun H locs ws_22 h u_23 p_24 => ?_)
    have e_25 := p_24
    replace HE : FT = g8c_X11_feed (xso SC ad ws_22) a5.toInt := HE.trans (by rw [e_25]; rfl)
    refine lv_aload_n C0.1 C0.2.1 dX11_feed_46 rfl (lv_at hl 0 rfl) ?_
    refine tg_X11_reader C0 h kSC_0 q_517 dX11_feed_47 ?_
    refine lv_iload C0.1 C0.2.1 dX11_feed_50 (lv_at hl 5 rfl) ?_
    refine y_cv h (y_rV (As := [.int a5]) (rest := []) C0 hZ h (c_X5_put l G Z ad _ h.2 a5) k_X5_put q_583 q_584 q_582 kSC_77 rfl rfl rfl hl.1 rfl rfl (Nat.le_of_ble_eq_true rfl) dX11_feed_52 ⟨Nat.le_of_ble_eq_true rfl, Nat.le_of_ble_eq_true rfl⟩ ⟨Nat.le_of_ble_eq_true rfl, Nat.le_of_ble_eq_true rfl⟩) (fun H locs ws_26 h u_27 p_28 => ?_)
    have e_29 := p_28
    replace HE : FT = g9c_X11_feed (xso SC ad ws_26) := HE.trans (by rw [e_29]; rfl)
    refine lv_aload_n C0.1 C0.2.1 dX11_feed_55 rfl (lv_at hl 0 rfl) ?_
    refine tg_X11_reader C0 h kSC_0 q_517 dX11_feed_56 ?_
    refine y_ci h (y_rV (As := []) (rest := []) C0 hZ h (c_X5_fed l G Z ad _ h.2) k_X5_fed q_587 q_588 q_586 kSC_77 rfl rfl rfl hl.1 rfl rfl (Nat.le_of_ble_eq_true rfl) dX11_feed_59 ⟨Nat.le_of_ble_eq_true rfl, Nat.le_of_ble_eq_true rfl⟩ ⟨Nat.le_of_ble_eq_true rfl, Nat.le_of_ble_eq_true rfl⟩) (fun r_33 H locs ws_30 h u_31 p_32 => ?_)
    obtain ⟨e_34, e_35, e_36, e_37⟩ := p_32
    replace HE : FT = g10c_X11_feed (xso SC ad ws_30) r_33.toInt := HE.trans (by rw [e_34, e_35]; rfl)
    replace HE : FT = ((xso SC ad ws_30), r_33.toInt) := HE.trans rfl
    rw [hQ]
    exact y_iret C0 h (Fr.tr (Fr.tr (Fr.tr (Fr.tr (Fr.tr (Fr.tr (Fr.mono u_2 (by decide)) u_11) u_15) u_19) u_23) u_27) (Fr.mono u_31 (by decide))) ⟨(congrArg Prod.fst (HE.symm.trans hFT)), (congrArg Prod.snd (HE.symm.trans hFT)), (o27_1 e_36 e_37), (o27_2 e_36 e_37), (Rel.fr (M := [16, 17]) hR (Fr.tr (Fr.tr (Fr.tr (Fr.tr (Fr.tr (Fr.tr (Fr.mono u_2 (by decide)) u_11) u_15) u_19) u_23) u_27) (Fr.mono u_31 (by decide))) (by decide) (by decide)), (Hok.fr (M := [16, 17]) hH (Fr.tr (Fr.tr (Fr.tr (Fr.tr (Fr.tr (Fr.tr (Fr.mono u_2 (by decide)) u_11) u_15) u_19) u_23) u_27) (Fr.mono u_31 (by decide))) (by decide))⟩ dX11_feed_62
  · -- 7
    replace HE : FT = g4_X11_feed (xso SC ad ws_1) := HE.trans (if_pos c_9)
    refine y_c2 (n := (-5)) C0 (by decide) dX11_feed_10 (fun v_38 e_39 => ?_)
    replace HE : FT = ((xso SC ad ws_1), v_38.toInt) := HE.trans (by rw [e_39]; rfl)
    rw [hQ]
    exact y_iret C0 h (Fr.mono u_2 (by decide)) ⟨(congrArg Prod.fst (HE.symm.trans hFT)), (congrArg Prod.snd (HE.symm.trans hFT)), (o27_3 e_39), (o27_4 e_39), (Rel.fr (M := []) hR u_2 (by decide) (by decide)), (Hok.fr (M := []) hH u_2 (by decide))⟩ dX11_feed_12
noncomputable def g2_X11_city (s : XS) : XR := (s, ((-3)))
noncomputable def g13c_X11_city (s : XS) : XR := (s, (s 0 1 7))
noncomputable def g12c_X11_city (s : XS) : XR := g13c_X11_city ((f_X11_startAnew s).1)
noncomputable def g10_X11_city (s : XS) : XR := g12c_X11_city ((f_X0_copy s 1 20).1)
noncomputable def g11_X11_city (s : XS) (r_16 : Int) : XR := (s, (Xisub ((-30)) r_16))
noncomputable def g9b_X11_city (s : XS) (r_16 : Int) : XR := if r_16 = 0 then g10_X11_city s else g11_X11_city s r_16
noncomputable def g8c_X11_city (s : XS) (r_16 : Int) : XR := g9b_X11_city s r_16
noncomputable def g6_X11_city (s : XS) (a1 : Int) : XR := g8c_X11_city ((f_X5_read s a1).1) (((f_X5_read s a1).2))
noncomputable def g7_X11_city (s : XS) : XR := (s, ((-3)))
noncomputable def g5b_X11_city (s : XS) (r_7 : Int) (a1 : Int) : XR := if r_7 < a1 then g7_X11_city s else g6_X11_city s a1
noncomputable def g4c_X11_city (s : XS) (r_7 : Int) (a1 : Int) : XR := g5b_X11_city s r_7 a1
noncomputable def g3_X11_city (s : XS) (a1 : Int) : XR := g4c_X11_city ((f_X5_fed s).1) (((f_X5_fed s).2)) a1
noncomputable def g1b_X11_city (s : XS) (a1 : Int) : XR := if a1 < 0 then g2_X11_city s else g3_X11_city s a1
noncomputable def f_X11_city (s : XS) (a1 : Int) : XR := g1b_X11_city s a1
set_option maxHeartbeats 4000000 in
set_option maxRecDepth 100000 in
theorem c_X11_city (l : Launch) (G : GG) (Z : RZ) (ad : Nat → Nat) (ws0 : va_W) (hT : Ty G SC ad ws0) (a1 : Int32) (hR : Rel ws0) (hH : Hok ws0) : Mq l yX11_city cX11_city 3 (some .int) 32 G Z [.ref (ad 0), .int a1] ws0 (PI G SC ad [0, 1, 2, 3, 6, 7, 8, 9, 10, 11, 12, 13, 14, 15, 16, 18, 39] ws0 (fun r u => (xso SC ad u = (f_X11_city (xso SC ad ws0) a1.toInt).1) ∧ (r.toInt = (f_X11_city (xso SC ad ws0) a1.toInt).2) ∧ (Rel u) ∧ (Hok u))) := by
  refine Mq.start (by decide) (Nat.le_of_ble_eq_true rfl) ?_
  intro p e s m below meth c A ls C0 hZ h hl
  have hl : lv_has ls 3 [(0, .ref (ad 0)), (1, .int a1)] := hl
  have h : Wt G SC ad A s s.heap [] ws0 := ⟨h, hT⟩
  obtain ⟨args, hargs⟩ : ∃ z, z = ([.ref (ad 0), .int a1] : List Value).toArray := ⟨_, rfl⟩
  rw [← hargs] at C0 ⊢
  have C0 : Cx p s m args meth c RX11 cX11_city 3 (some .int) := C0
  obtain ⟨Q, hQ⟩ : ∃ z, z = MQ below ((PI G SC ad [0, 1, 2, 3, 6, 7, 8, 9, 10, 11, 12, 13, 14, 15, 16, 18, 39] ws0 (fun r u => (xso SC ad u = (f_X11_city (xso SC ad ws0) a1.toInt).1) ∧ (r.toInt = (f_X11_city (xso SC ad ws0) a1.toInt).2) ∧ (Rel u) ∧ (Hok u))) A) args s 0 0 A := ⟨_, rfl⟩
  rw [← hQ]
  obtain ⟨FT, hFT⟩ : ∃ z, z = f_X11_city (xso SC ad ws0) a1.toInt := ⟨_, rfl⟩
  have HE : FT = f_X11_city (xso SC ad ws0) a1.toInt := hFT
  refine lv_iload_n C0.1 C0.2.1 dX11_city_0 rfl (lv_at hl 1 rfl) ?_
  replace HE : FT = g1b_X11_city (xso SC ad ws0) a1.toInt := HE.trans rfl
  refine y_if_lt (tgt := 15) C0 dX11_city_1 (by decide) (fun c_1 => ?_) (fun c_1 => ?_)
  · -- 1
    replace HE : FT = g2_X11_city (xso SC ad ws0) := HE.trans (if_pos c_1)
    refine y_c2 (n := (-3)) C0 (by decide) dX11_city_15 (fun v_2 e_3 => ?_)
    replace HE : FT = ((xso SC ad ws0), v_2.toInt) := HE.trans (by rw [e_3]; rfl)
    rw [hQ]
    exact y_iret C0 h Fr.rf ⟨(congrArg Prod.fst (HE.symm.trans hFT)), (congrArg Prod.snd (HE.symm.trans hFT)), hR, hH⟩ dX11_city_17
  · -- 1
    replace HE : FT = g3_X11_city (xso SC ad ws0) a1.toInt := HE.trans (if_neg (Int.not_lt.mpr c_1))
    refine lv_iload_n C0.1 C0.2.1 dX11_city_4 rfl (lv_at hl 1 rfl) ?_
    refine lv_aload_n C0.1 C0.2.1 dX11_city_5 rfl (lv_at hl 0 rfl) ?_
    refine tg_X11_reader C0 h kSC_0 q_517 dX11_city_6 ?_
    refine y_ci h (y_rV (As := []) (rest := [.int a1]) C0 hZ h (c_X5_fed l G Z ad _ h.2) k_X5_fed q_587 q_588 q_586 kSC_77 rfl rfl rfl hl.1 rfl rfl (Nat.le_of_ble_eq_true rfl) dX11_city_9 ⟨Nat.le_of_ble_eq_true rfl, Nat.le_of_ble_eq_true rfl⟩ ⟨Nat.le_of_ble_eq_true rfl, Nat.le_of_ble_eq_true rfl⟩) (fun r_7 H locs ws_4 h u_5 p_6 => ?_)
    obtain ⟨e_8, e_9, e_10, e_11⟩ := p_6
    replace HE : FT = g4c_X11_city (xso SC ad ws_4) r_7.toInt a1.toInt := HE.trans (by rw [e_8, e_9]; rfl)
    replace HE : FT = g5b_X11_city (xso SC ad ws_4) r_7.toInt a1.toInt := HE.trans rfl
    refine y_icmp_le (tgt := 18) C0 dX11_city_12 (by decide) (fun c_12 => ?_) (fun c_12 => ?_)
    · -- 12
      replace HE : FT = g6_X11_city (xso SC ad ws_4) a1.toInt := HE.trans (if_neg (Int.not_lt.mpr c_12))
      refine lv_aload_n C0.1 C0.2.1 dX11_city_18 rfl (lv_at hl 0 rfl) ?_
      refine tg_X11_reader C0 h kSC_0 q_517 dX11_city_19 ?_
      refine lv_iload_n C0.1 C0.2.1 dX11_city_22 rfl (lv_at hl 1 rfl) ?_
      refine y_ci h (y_rV (As := [.int a1]) (rest := []) C0 hZ h (c_X5_read l G Z ad _ h.2 a1 (o27_5 c_1 e_10 e_11 c_12) (o27_6 c_1 e_10 e_11 c_12) (Rel.fr (M := []) hR u_5 (by decide) (by decide))) k_X5_read q_595 q_596 q_594 kSC_77 rfl rfl rfl hl.1 rfl rfl (Nat.le_of_ble_eq_true rfl) dX11_city_23 ⟨Nat.le_of_ble_eq_true rfl, Nat.le_of_ble_eq_true rfl⟩ ⟨Nat.le_of_ble_eq_true rfl, Nat.le_of_ble_eq_true rfl⟩) (fun r_16 H locs ws_13 h u_14 p_15 => ?_)
      obtain ⟨e_17, e_18, e_19⟩ := p_15
      replace HE : FT = g8c_X11_city (xso SC ad ws_13) r_16.toInt := HE.trans (by rw [e_17, e_18]; rfl)
      refine lv_istore_n (lv' := [(2, .int r_16), (0, .ref (ad 0)), (1, .int a1)]) C0.1 C0.2.1 dX11_city_26 rfl hl (by decide) rfl (fun ls hl => ?_)
      refine lv_iload_n C0.1 C0.2.1 dX11_city_27 rfl (lv_at hl 0 rfl) ?_
      replace HE : FT = g9b_X11_city (xso SC ad ws_13) r_16.toInt := HE.trans rfl
      refine y_if_eq (tgt := 36) C0 dX11_city_28 (by decide) (fun c_20 => ?_) (fun c_20 => ?_)
      · -- 28
        replace HE : FT = g10_X11_city (xso SC ad ws_13) := HE.trans (if_pos c_20)
        refine lv_aload_n C0.1 C0.2.1 dX11_city_36 rfl (lv_at hl 1 rfl) ?_
        refine tg_X11_now C0 h kSC_0 q_515 dX11_city_37 ?_
        refine lv_aload_n C0.1 C0.2.1 dX11_city_40 rfl (lv_at hl 1 rfl) ?_
        refine tg_X11_spare C0 h kSC_0 q_516 dX11_city_41 ?_
        refine y_cv h (y_rV (As := [.ref (ad 20)]) (rest := []) C0 hZ h (c_X0_copy l G Z ad _ h.2 1 kSC_1 20 kSC_20 e_19) k_X0_copy q_857 q_858 q_856 kSC_1 rfl rfl rfl hl.1 rfl rfl (Nat.le_of_ble_eq_true rfl) dX11_city_44 ⟨Nat.le_of_ble_eq_true rfl, Nat.le_of_ble_eq_true rfl⟩ ⟨Nat.le_of_ble_eq_true rfl, Nat.le_of_ble_eq_true rfl⟩) (fun H locs ws_21 h u_22 p_23 => ?_)
        obtain ⟨e_24, e_25⟩ := p_23
        replace HE : FT = g12c_X11_city (xso SC ad ws_21) := HE.trans (by rw [e_24]; rfl)
        refine lv_aload_n C0.1 C0.2.1 dX11_city_47 rfl (lv_at hl 1 rfl) ?_
        refine y_cv h (y_rV (As := []) (rest := []) C0 hZ h (c_X11_startAnew l G Z ad _ h.2 (Hok.fr (M := [1, 2, 3, 6, 7, 8, 9, 10, 11, 12, 13, 14, 15, 16]) hH (Fr.tr (Fr.tr (Fr.mono u_5 (by decide)) u_14) (Fr.mono u_22 (by decide))) (by decide))) k_X11_startAnew q_875 q_22 q_873 kSC_0 rfl rfl rfl hl.1 rfl rfl (Nat.le_of_ble_eq_true rfl) dX11_city_48 ⟨Nat.le_of_ble_eq_true rfl, Nat.le_of_ble_eq_true rfl⟩ ⟨Nat.le_of_ble_eq_true rfl, Nat.le_of_ble_eq_true rfl⟩) (fun H locs ws_26 h u_27 p_28 => ?_)
        obtain ⟨e_29, e_30⟩ := p_28
        replace HE : FT = g13c_X11_city (xso SC ad ws_26) := HE.trans (by rw [e_29]; rfl)
        refine lv_aload_n C0.1 C0.2.1 dX11_city_51 rfl (lv_at hl 1 rfl) ?_
        refine tg_X11_now C0 h kSC_0 q_515 dX11_city_52 ?_
        refine tg_X0_lines C0 h kSC_1 q_264 dX11_city_55 (fun v_31 e_32 e_33 e_34 => ?_)
        replace HE : FT = ((xso SC ad ws_26), v_31.toInt) := HE.trans (by rw [(xg0 e_32 : v_31.toInt = (xso SC ad ws_26) 0 1 7)]; rfl)
        rw [hQ]
        exact y_iret C0 h (Fr.tr (Fr.tr (Fr.tr (Fr.mono u_5 (by decide)) (Fr.mono u_14 (by decide))) (Fr.mono u_22 (by decide))) (Fr.mono u_27 (by decide))) ⟨(congrArg Prod.fst (HE.symm.trans hFT)), (congrArg Prod.snd (HE.symm.trans hFT)), (Rel.fr (M := [0, 18, 39]) e_25 u_27 (by decide) (by decide)), e_30⟩ dX11_city_58
      · -- 28
        replace HE : FT = g11_X11_city (xso SC ad ws_13) r_16.toInt := HE.trans (if_neg c_20)
        refine y_c2 (n := (-30)) C0 (by decide) dX11_city_31 (fun v_35 e_36 => ?_)
        refine lv_iload_n C0.1 C0.2.1 dX11_city_33 rfl (lv_at hl 0 rfl) ?_
        refine xr_isub C0 dX11_city_34 (fun v_37 e_38 => ?_)
        replace HE : FT = ((xso SC ad ws_13), v_37.toInt) := HE.trans (by rw [e_38, e_36]; rfl)
        rw [hQ]
        exact y_iret C0 h (Fr.tr (Fr.mono u_5 (by decide)) (Fr.mono u_14 (by decide))) ⟨(congrArg Prod.fst (HE.symm.trans hFT)), (congrArg Prod.snd (HE.symm.trans hFT)), e_19, (Hok.fr (M := [1, 2, 3, 6, 7, 8, 9, 10, 11, 12, 13, 14, 15, 16]) hH (Fr.tr (Fr.mono u_5 (by decide)) u_14) (by decide))⟩ dX11_city_35
    · -- 12
      replace HE : FT = g7_X11_city (xso SC ad ws_4) := HE.trans (if_pos c_12)
      refine y_c2 (n := (-3)) C0 (by decide) dX11_city_15 (fun v_39 e_40 => ?_)
      replace HE : FT = ((xso SC ad ws_4), v_39.toInt) := HE.trans (by rw [e_40]; rfl)
      rw [hQ]
      exact y_iret C0 h (Fr.mono u_5 (by decide)) ⟨(congrArg Prod.fst (HE.symm.trans hFT)), (congrArg Prod.snd (HE.symm.trans hFT)), (Rel.fr (M := []) hR u_5 (by decide) (by decide)), (Hok.fr (M := []) hH u_5 (by decide))⟩ dX11_city_17
noncomputable def g5_X11_fault (s : XS) : XR := (s, ((-1)))
noncomputable def g7c_X11_fault (s : XS) (r_10 : Int) : XR := (s, r_10)
noncomputable def g6_X11_fault (s : XS) : XR := g7c_X11_fault ((f_X5_faultPlace s).1) (((f_X5_faultPlace s).2))
noncomputable def g4b_X11_fault (s : XS) (a1 : Int) : XR := if a1 = 1 then g6_X11_fault s else g5_X11_fault s
noncomputable def g2_X11_fault (s : XS) (a1 : Int) : XR := g4b_X11_fault s a1
noncomputable def g8c_X11_fault (s : XS) (r_16 : Int) : XR := (s, r_16)
noncomputable def g3_X11_fault (s : XS) : XR := g8c_X11_fault ((f_X5_faultKind s).1) (((f_X5_faultKind s).2))
noncomputable def g1b_X11_fault (s : XS) (a1 : Int) : XR := if a1 = 0 then g3_X11_fault s else g2_X11_fault s a1
noncomputable def f_X11_fault (s : XS) (a1 : Int) : XR := g1b_X11_fault s a1
set_option maxHeartbeats 4000000 in
set_option maxRecDepth 100000 in
theorem c_X11_fault (l : Launch) (G : GG) (Z : RZ) (ad : Nat → Nat) (ws0 : va_W) (hT : Ty G SC ad ws0) (a1 : Int32) (hR : Rel ws0) (hH : Hok ws0) : Mq l yX11_fault cX11_fault 2 (some .int) 2 G Z [.ref (ad 0), .int a1] ws0 (PI G SC ad [] ws0 (fun r u => (xso SC ad u = (f_X11_fault (xso SC ad ws0) a1.toInt).1) ∧ (r.toInt = (f_X11_fault (xso SC ad ws0) a1.toInt).2) ∧ (Rel u) ∧ (Hok u))) := by
  refine Mq.start (by decide) (Nat.le_of_ble_eq_true rfl) ?_
  intro p e s m below meth c A ls C0 hZ h hl
  have hl : lv_has ls 2 [(0, .ref (ad 0)), (1, .int a1)] := hl
  have h : Wt G SC ad A s s.heap [] ws0 := ⟨h, hT⟩
  obtain ⟨args, hargs⟩ : ∃ z, z = ([.ref (ad 0), .int a1] : List Value).toArray := ⟨_, rfl⟩
  rw [← hargs] at C0 ⊢
  have C0 : Cx p s m args meth c RX11 cX11_fault 2 (some .int) := C0
  obtain ⟨Q, hQ⟩ : ∃ z, z = MQ below ((PI G SC ad [] ws0 (fun r u => (xso SC ad u = (f_X11_fault (xso SC ad ws0) a1.toInt).1) ∧ (r.toInt = (f_X11_fault (xso SC ad ws0) a1.toInt).2) ∧ (Rel u) ∧ (Hok u))) A) args s 0 0 A := ⟨_, rfl⟩
  rw [← hQ]
  obtain ⟨FT, hFT⟩ : ∃ z, z = f_X11_fault (xso SC ad ws0) a1.toInt := ⟨_, rfl⟩
  have HE : FT = f_X11_fault (xso SC ad ws0) a1.toInt := hFT
  refine lv_iload_n C0.1 C0.2.1 dX11_fault_0 rfl (lv_at hl 1 rfl) ?_
  replace HE : FT = g1b_X11_fault (xso SC ad ws0) a1.toInt := HE.trans rfl
  refine y_if_ne (tgt := 14) C0 dX11_fault_1 (by decide) (fun c_1 => ?_) (fun c_1 => ?_)
  · -- 1
    replace HE : FT = g2_X11_fault (xso SC ad ws0) a1.toInt := HE.trans (if_neg c_1)
    refine lv_iload_n C0.1 C0.2.1 dX11_fault_14 rfl (lv_at hl 1 rfl) ?_
    refine y_c1 (n := 1) C0 (by decide) dX11_fault_15 (fun v_2 e_3 => ?_)
    replace HE : FT = g4b_X11_fault (xso SC ad ws0) a1.toInt := HE.trans rfl
    refine y_icmp_ne (tgt := 29) C0 dX11_fault_16 (by decide) (fun c_4 => ?_) (fun c_4 => ?_)
    · -- 16
      replace HE : FT = g5_X11_fault (xso SC ad ws0) := HE.trans (if_neg (o27_8 c_1 e_3 c_4))
      refine y_c1 (n := (-1)) C0 (by decide) dX11_fault_29 (fun v_5 e_6 => ?_)
      replace HE : FT = ((xso SC ad ws0), v_5.toInt) := HE.trans (by rw [e_6]; rfl)
      rw [hQ]
      exact y_iret C0 h Fr.rf ⟨(congrArg Prod.fst (HE.symm.trans hFT)), (congrArg Prod.snd (HE.symm.trans hFT)), hR, hH⟩ dX11_fault_30
    · -- 16
      replace HE : FT = g6_X11_fault (xso SC ad ws0) := HE.trans (if_pos (o27_9 c_1 e_3 c_4))
      refine lv_aload_n C0.1 C0.2.1 dX11_fault_19 rfl (lv_at hl 0 rfl) ?_
      refine tg_X11_reader C0 h kSC_0 q_517 dX11_fault_20 ?_
      refine y_ci h (y_rV (As := []) (rest := []) C0 hZ h (c_X5_faultPlace l G Z ad _ h.2) k_X5_faultPlace q_894 q_895 q_893 kSC_77 rfl rfl rfl hl.1 rfl rfl (Nat.le_of_ble_eq_true rfl) dX11_fault_23 ⟨Nat.le_of_ble_eq_true rfl, Nat.le_of_ble_eq_true rfl⟩ ⟨Nat.le_of_ble_eq_true rfl, Nat.le_of_ble_eq_true rfl⟩) (fun r_10 H locs ws_7 h u_8 p_9 => ?_)
      obtain ⟨e_11, e_12⟩ := p_9
      replace HE : FT = g7c_X11_fault (xso SC ad ws_7) r_10.toInt := HE.trans (by rw [e_11, e_12]; rfl)
      refine lv_goto (tgt := 30) C0.1 C0.2.1 dX11_fault_26 (by decide) ?_
      replace HE : FT = ((xso SC ad ws_7), r_10.toInt) := HE.trans rfl
      rw [hQ]
      exact y_iret C0 h u_8 ⟨(congrArg Prod.fst (HE.symm.trans hFT)), (congrArg Prod.snd (HE.symm.trans hFT)), (Rel.fr (M := []) hR u_8 (by decide) (by decide)), (Hok.fr (M := []) hH u_8 (by decide))⟩ dX11_fault_30
  · -- 1
    replace HE : FT = g3_X11_fault (xso SC ad ws0) := HE.trans (if_pos c_1)
    refine lv_aload_n C0.1 C0.2.1 dX11_fault_4 rfl (lv_at hl 0 rfl) ?_
    refine tg_X11_reader C0 h kSC_0 q_517 dX11_fault_5 ?_
    refine y_ci h (y_rV (As := []) (rest := []) C0 hZ h (c_X5_faultKind l G Z ad _ h.2) k_X5_faultKind q_890 q_891 q_889 kSC_77 rfl rfl rfl hl.1 rfl rfl (Nat.le_of_ble_eq_true rfl) dX11_fault_8 ⟨Nat.le_of_ble_eq_true rfl, Nat.le_of_ble_eq_true rfl⟩ ⟨Nat.le_of_ble_eq_true rfl, Nat.le_of_ble_eq_true rfl⟩) (fun r_16 H locs ws_13 h u_14 p_15 => ?_)
    obtain ⟨e_17, e_18⟩ := p_15
    replace HE : FT = g8c_X11_fault (xso SC ad ws_13) r_16.toInt := HE.trans (by rw [e_17, e_18]; rfl)
    refine lv_goto (tgt := 30) C0.1 C0.2.1 dX11_fault_11 (by decide) ?_
    replace HE : FT = ((xso SC ad ws_13), r_16.toInt) := HE.trans rfl
    rw [hQ]
    exact y_iret C0 h u_14 ⟨(congrArg Prod.fst (HE.symm.trans hFT)), (congrArg Prod.snd (HE.symm.trans hFT)), (Rel.fr (M := []) hR u_14 (by decide) (by decide)), (Hok.fr (M := []) hH u_14 (by decide))⟩ dX11_fault_30
noncomputable def g6_X11_person (s : XS) : XR := (s, ((-8)))
noncomputable def g7_X11_person (s : XS) (a1 : Int) : XR := (s, (s 1 11 (Int.toNat a1)))
noncomputable def g8_X11_person (s : XS) (a1 : Int) : XR := (s, (s 1 12 (Int.toNat a1)))
noncomputable def g9_X11_person (s : XS) (a1 : Int) : XR := (s, (s 1 13 (Int.toNat a1)))
noncomputable def g10_X11_person (s : XS) (a1 : Int) : XR := (s, (s 1 14 (Int.toNat a1)))
noncomputable def g11_X11_person (s : XS) (a1 : Int) : XR := (s, (s 1 15 (Int.toNat a1)))
noncomputable def g5s_X11_person (s : XS) (a2 : Int) (a1 : Int) : XR := if a2 < 0 ∨ 4 < a2 then g6_X11_person s else if a2 = 0 then g7_X11_person s a1 else if a2 = 1 then g8_X11_person s a1 else if a2 = 2 then g9_X11_person s a1 else if a2 = 3 then g10_X11_person s a1 else if a2 = 4 then g11_X11_person s a1 else (s, 0)
noncomputable def g3_X11_person (s : XS) (a1 : Int) (a2 : Int) : XR := g5s_X11_person s a2 a1
noncomputable def g4_X11_person (s : XS) : XR := (s, ((-8)))
noncomputable def g2b_X11_person (s : XS) (r_4 : Int) (a1 : Int) (a2 : Int) : XR := if r_4 = 0 then g4_X11_person s else g3_X11_person s a1 a2
noncomputable def g1c_X11_person (s : XS) (r_4 : Int) (a1 : Int) (a2 : Int) : XR := g2b_X11_person s r_4 a1 a2
noncomputable def f_X11_person (s : XS) (a1 : Int) (a2 : Int) : XR := g1c_X11_person ((f_X11_isPerson s a1).1) (((f_X11_isPerson s a1).2)) a1 a2
set_option maxHeartbeats 4000000 in
set_option maxRecDepth 100000 in
theorem c_X11_person (l : Launch) (G : GG) (Z : RZ) (ad : Nat → Nat) (ws0 : va_W) (hT : Ty G SC ad ws0) (a1 : Int32) (a2 : Int32) (hR : Rel ws0) (hH : Hok ws0) : Mq l yX11_person cX11_person 3 (some .int) 2 G Z [.ref (ad 0), .int a1, .int a2] ws0 (PI G SC ad [] ws0 (fun r u => (xso SC ad u = (f_X11_person (xso SC ad ws0) a1.toInt a2.toInt).1) ∧ (r.toInt = (f_X11_person (xso SC ad ws0) a1.toInt a2.toInt).2) ∧ (Rel u) ∧ (Hok u))) := by
  refine Mq.start (by decide) (Nat.le_of_ble_eq_true rfl) ?_
  intro p e s m below meth c A ls C0 hZ h hl
  have hl : lv_has ls 3 [(0, .ref (ad 0)), (1, .int a1), (2, .int a2)] := hl
  have h : Wt G SC ad A s s.heap [] ws0 := ⟨h, hT⟩
  obtain ⟨args, hargs⟩ : ∃ z, z = ([.ref (ad 0), .int a1, .int a2] : List Value).toArray := ⟨_, rfl⟩
  rw [← hargs] at C0 ⊢
  have C0 : Cx p s m args meth c RX11 cX11_person 3 (some .int) := C0
  obtain ⟨Q, hQ⟩ : ∃ z, z = MQ below ((PI G SC ad [] ws0 (fun r u => (xso SC ad u = (f_X11_person (xso SC ad ws0) a1.toInt a2.toInt).1) ∧ (r.toInt = (f_X11_person (xso SC ad ws0) a1.toInt a2.toInt).2) ∧ (Rel u) ∧ (Hok u))) A) args s 0 0 A := ⟨_, rfl⟩
  rw [← hQ]
  obtain ⟨FT, hFT⟩ : ∃ z, z = f_X11_person (xso SC ad ws0) a1.toInt a2.toInt := ⟨_, rfl⟩
  have HE : FT = f_X11_person (xso SC ad ws0) a1.toInt a2.toInt := hFT
  refine lv_aload_n C0.1 C0.2.1 dX11_person_0 rfl (lv_at hl 0 rfl) ?_
  refine lv_iload_n C0.1 C0.2.1 dX11_person_1 rfl (lv_at hl 1 rfl) ?_
  refine y_ci h (y_rV (As := [.int a1]) (rest := []) C0 hZ h (c_X11_isPerson l G Z ad _ h.2 a1) k_X11_isPerson q_903 q_23 q_901 kSC_0 rfl rfl rfl hl.1 rfl rfl (Nat.le_of_ble_eq_true rfl) dX11_person_2 ⟨Nat.le_of_ble_eq_true rfl, Nat.le_of_ble_eq_true rfl⟩ ⟨Nat.le_of_ble_eq_true rfl, Nat.le_of_ble_eq_true rfl⟩) (fun r_4 H locs ws_1 h u_2 p_3 => ?_)
  obtain ⟨e_5, e_6, e_7, e_8, e_9⟩ := p_3
  replace HE : FT = g1c_X11_person (xso SC ad ws_1) r_4.toInt a1.toInt a2.toInt := HE.trans (by rw [e_5, e_6]; rfl)
  replace HE : FT = g2b_X11_person (xso SC ad ws_1) r_4.toInt a1.toInt a2.toInt := HE.trans rfl
  refine y_if_ne (tgt := 11) C0 dX11_person_5 (by decide) (fun c_10 => ?_) (fun c_10 => ?_)
  · -- 5
    replace HE : FT = g3_X11_person (xso SC ad ws_1) a1.toInt a2.toInt := HE.trans (if_neg c_10)
    refine lv_iload_n C0.1 C0.2.1 dX11_person_11 rfl (lv_at hl 2 rfl) ?_
    replace HE : FT = g5s_X11_person (xso SC ad ws_1) a2.toInt a1.toInt := HE.trans rfl
    by_cases sw_11 : a2.toInt < 0 ∨ 4 < a2.toInt
    · refine lv_tableOut (tgt := 113) C0.1 C0.2.1 dX11_person_12 sw_11 (by decide) ?_
      replace HE : FT = g6_X11_person (xso SC ad ws_1) := HE.trans (if_pos sw_11)
      refine y_c2 (n := (-8)) C0 (by decide) dX11_person_113 (fun v_12 e_13 => ?_)
      replace HE : FT = ((xso SC ad ws_1), v_12.toInt) := HE.trans (by rw [e_13]; rfl)
      rw [hQ]
      exact y_iret C0 h u_2 ⟨(congrArg Prod.fst (HE.symm.trans hFT)), (congrArg Prod.snd (HE.symm.trans hFT)), (Rel.fr (M := []) hR u_2 (by decide) (by decide)), (Hok.fr (M := []) hH u_2 (by decide))⟩ dX11_person_115
    · obtain ⟨sw_111, sw_112⟩ := not_or.mp sw_11
      rcases (show a2.toInt = 0 ∨ a2.toInt = 1 ∨ a2.toInt = 2 ∨ a2.toInt = 3 ∨ a2.toInt = 4 by omega) with sw_114 | sw_114 | sw_114 | sw_114 | sw_114
      · refine lv_tableIn (off := 36) (tgt := 48) C0.1 C0.2.1 dX11_person_12 sw_111 sw_112 (by rw [sw_114]; rfl) (by decide) ?_
        replace HE : FT = g7_X11_person (xso SC ad ws_1) a1.toInt := HE.trans ((if_neg (not_or.mpr ⟨sw_111, sw_112⟩)).trans (if_pos sw_114))
        refine lv_aload_n C0.1 C0.2.1 dX11_person_48 rfl (lv_at hl 0 rfl) ?_
        refine tg_X11_now C0 h kSC_0 q_515 dX11_person_49 ?_
        refine tg_X0_folk C0 h kSC_1 q_249 dX11_person_52 ?_
        refine tg_X1_at C0 h kSC_10 q_191 dX11_person_55 ?_
        refine lv_iload_n C0.1 C0.2.1 dX11_person_58 rfl (lv_at hl 1 rfl) ?_
        refine y_iald C0 h kSC_11 rfl (by decide) (o27_10 e_7 e_8 e_9 c_10) (o27_11 e_7 e_8 e_9 c_10) dX11_person_59 (fun v_14 e_15 e_16 e_17 => ?_)
        replace HE : FT = ((xso SC ad ws_1), v_14.toInt) := HE.trans (by rw [(xg1 e_15 : v_14.toInt = (xso SC ad ws_1) 1 11 a1.toInt.toNat)]; rfl)
        rw [hQ]
        exact y_iret C0 h u_2 ⟨(congrArg Prod.fst (HE.symm.trans hFT)), (congrArg Prod.snd (HE.symm.trans hFT)), (Rel.fr (M := []) hR u_2 (by decide) (by decide)), (Hok.fr (M := []) hH u_2 (by decide))⟩ dX11_person_60
      · refine lv_tableIn (off := 49) (tgt := 61) C0.1 C0.2.1 dX11_person_12 sw_111 sw_112 (by rw [sw_114]; rfl) (by decide) ?_
        replace HE : FT = g8_X11_person (xso SC ad ws_1) a1.toInt := HE.trans ((if_neg (not_or.mpr ⟨sw_111, sw_112⟩)).trans ((if_neg (fun q => absurd (sw_114.symm.trans q) (by decide))).trans (if_pos sw_114)))
        refine lv_aload_n C0.1 C0.2.1 dX11_person_61 rfl (lv_at hl 0 rfl) ?_
        refine tg_X11_now C0 h kSC_0 q_515 dX11_person_62 ?_
        refine tg_X0_folk C0 h kSC_1 q_249 dX11_person_65 ?_
        refine tg_X1_heads C0 h kSC_10 q_194 dX11_person_68 ?_
        refine lv_iload_n C0.1 C0.2.1 dX11_person_71 rfl (lv_at hl 1 rfl) ?_
        refine y_iald C0 h kSC_12 rfl (by decide) (o27_10 e_7 e_8 e_9 c_10) (o27_11 e_7 e_8 e_9 c_10) dX11_person_72 (fun v_18 e_19 e_20 e_21 => ?_)
        replace HE : FT = ((xso SC ad ws_1), v_18.toInt) := HE.trans (by rw [(xg1 e_19 : v_18.toInt = (xso SC ad ws_1) 1 12 a1.toInt.toNat)]; rfl)
        rw [hQ]
        exact y_iret C0 h u_2 ⟨(congrArg Prod.fst (HE.symm.trans hFT)), (congrArg Prod.snd (HE.symm.trans hFT)), (Rel.fr (M := []) hR u_2 (by decide) (by decide)), (Hok.fr (M := []) hH u_2 (by decide))⟩ dX11_person_73
      · refine lv_tableIn (off := 62) (tgt := 74) C0.1 C0.2.1 dX11_person_12 sw_111 sw_112 (by rw [sw_114]; rfl) (by decide) ?_
        replace HE : FT = g9_X11_person (xso SC ad ws_1) a1.toInt := HE.trans ((if_neg (not_or.mpr ⟨sw_111, sw_112⟩)).trans ((if_neg (fun q => absurd (sw_114.symm.trans q) (by decide))).trans ((if_neg (fun q => absurd (sw_114.symm.trans q) (by decide))).trans (if_pos sw_114))))
        refine lv_aload_n C0.1 C0.2.1 dX11_person_74 rfl (lv_at hl 0 rfl) ?_
        refine tg_X11_now C0 h kSC_0 q_515 dX11_person_75 ?_
        refine tg_X0_folk C0 h kSC_1 q_249 dX11_person_78 ?_
        refine tg_X1_lefts C0 h kSC_10 q_197 dX11_person_81 ?_
        refine lv_iload_n C0.1 C0.2.1 dX11_person_84 rfl (lv_at hl 1 rfl) ?_
        refine y_iald C0 h kSC_13 rfl (by decide) (o27_10 e_7 e_8 e_9 c_10) (o27_11 e_7 e_8 e_9 c_10) dX11_person_85 (fun v_22 e_23 e_24 e_25 => ?_)
        replace HE : FT = ((xso SC ad ws_1), v_22.toInt) := HE.trans (by rw [(xg1 e_23 : v_22.toInt = (xso SC ad ws_1) 1 13 a1.toInt.toNat)]; rfl)
        rw [hQ]
        exact y_iret C0 h u_2 ⟨(congrArg Prod.fst (HE.symm.trans hFT)), (congrArg Prod.snd (HE.symm.trans hFT)), (Rel.fr (M := []) hR u_2 (by decide) (by decide)), (Hok.fr (M := []) hH u_2 (by decide))⟩ dX11_person_86
      · refine lv_tableIn (off := 75) (tgt := 87) C0.1 C0.2.1 dX11_person_12 sw_111 sw_112 (by rw [sw_114]; rfl) (by decide) ?_
        replace HE : FT = g10_X11_person (xso SC ad ws_1) a1.toInt := HE.trans ((if_neg (not_or.mpr ⟨sw_111, sw_112⟩)).trans ((if_neg (fun q => absurd (sw_114.symm.trans q) (by decide))).trans ((if_neg (fun q => absurd (sw_114.symm.trans q) (by decide))).trans ((if_neg (fun q => absurd (sw_114.symm.trans q) (by decide))).trans (if_pos sw_114)))))
        refine lv_aload_n C0.1 C0.2.1 dX11_person_87 rfl (lv_at hl 0 rfl) ?_
        refine tg_X11_now C0 h kSC_0 q_515 dX11_person_88 ?_
        refine tg_X0_folk C0 h kSC_1 q_249 dX11_person_91 ?_
        refine tg_X1_coins C0 h kSC_10 q_200 dX11_person_94 ?_
        refine lv_iload_n C0.1 C0.2.1 dX11_person_97 rfl (lv_at hl 1 rfl) ?_
        refine y_iald C0 h kSC_14 rfl (by decide) (o27_10 e_7 e_8 e_9 c_10) (o27_11 e_7 e_8 e_9 c_10) dX11_person_98 (fun v_26 e_27 e_28 e_29 => ?_)
        replace HE : FT = ((xso SC ad ws_1), v_26.toInt) := HE.trans (by rw [(xg1 e_27 : v_26.toInt = (xso SC ad ws_1) 1 14 a1.toInt.toNat)]; rfl)
        rw [hQ]
        exact y_iret C0 h u_2 ⟨(congrArg Prod.fst (HE.symm.trans hFT)), (congrArg Prod.snd (HE.symm.trans hFT)), (Rel.fr (M := []) hR u_2 (by decide) (by decide)), (Hok.fr (M := []) hH u_2 (by decide))⟩ dX11_person_99
      · refine lv_tableIn (off := 88) (tgt := 100) C0.1 C0.2.1 dX11_person_12 sw_111 sw_112 (by rw [sw_114]; rfl) (by decide) ?_
        replace HE : FT = g11_X11_person (xso SC ad ws_1) a1.toInt := HE.trans ((if_neg (not_or.mpr ⟨sw_111, sw_112⟩)).trans ((if_neg (fun q => absurd (sw_114.symm.trans q) (by decide))).trans ((if_neg (fun q => absurd (sw_114.symm.trans q) (by decide))).trans ((if_neg (fun q => absurd (sw_114.symm.trans q) (by decide))).trans ((if_neg (fun q => absurd (sw_114.symm.trans q) (by decide))).trans (if_pos sw_114))))))
        refine lv_aload_n C0.1 C0.2.1 dX11_person_100 rfl (lv_at hl 0 rfl) ?_
        refine tg_X11_now C0 h kSC_0 q_515 dX11_person_101 ?_
        refine tg_X0_folk C0 h kSC_1 q_249 dX11_person_104 ?_
        refine tg_X1_used C0 h kSC_10 q_203 dX11_person_107 ?_
        refine lv_iload_n C0.1 C0.2.1 dX11_person_110 rfl (lv_at hl 1 rfl) ?_
        refine y_iald C0 h kSC_15 rfl (by decide) (o27_10 e_7 e_8 e_9 c_10) (o27_11 e_7 e_8 e_9 c_10) dX11_person_111 (fun v_30 e_31 e_32 e_33 => ?_)
        replace HE : FT = ((xso SC ad ws_1), v_30.toInt) := HE.trans (by rw [(xg1 e_31 : v_30.toInt = (xso SC ad ws_1) 1 15 a1.toInt.toNat)]; rfl)
        rw [hQ]
        exact y_iret C0 h u_2 ⟨(congrArg Prod.fst (HE.symm.trans hFT)), (congrArg Prod.snd (HE.symm.trans hFT)), (Rel.fr (M := []) hR u_2 (by decide) (by decide)), (Hok.fr (M := []) hH u_2 (by decide))⟩ dX11_person_112
  · -- 5
    replace HE : FT = g4_X11_person (xso SC ad ws_1) := HE.trans (if_pos c_10)
    refine y_c2 (n := (-8)) C0 (by decide) dX11_person_8 (fun v_34 e_35 => ?_)
    replace HE : FT = ((xso SC ad ws_1), v_34.toInt) := HE.trans (by rw [e_35]; rfl)
    rw [hQ]
    exact y_iret C0 h u_2 ⟨(congrArg Prod.fst (HE.symm.trans hFT)), (congrArg Prod.snd (HE.symm.trans hFT)), (Rel.fr (M := []) hR u_2 (by decide) (by decide)), (Hok.fr (M := []) hH u_2 (by decide))⟩ dX11_person_10
noncomputable def g5c_X11_street (s : XS) (r_14 : Int) : XR := (s, r_14)
noncomputable def g3_X11_street (s : XS) (a1 : Int) (a2 : Int) : XR := g5c_X11_street ((f_X0_to s 1 a1 a2).1) (((f_X0_to s 1 a1 a2).2))
noncomputable def g4_X11_street (s : XS) : XR := (s, ((-2)))
noncomputable def g2b_X11_street (s : XS) (r_4 : Int) (a1 : Int) (a2 : Int) : XR := if r_4 = 0 then g4_X11_street s else g3_X11_street s a1 a2
noncomputable def g1c_X11_street (s : XS) (r_4 : Int) (a1 : Int) (a2 : Int) : XR := g2b_X11_street s r_4 a1 a2
noncomputable def f_X11_street (s : XS) (a1 : Int) (a2 : Int) : XR := g1c_X11_street ((f_X11_isStand s a1 a2).1) (((f_X11_isStand s a1 a2).2)) a1 a2
set_option maxHeartbeats 4000000 in
set_option maxRecDepth 100000 in
theorem c_X11_street (l : Launch) (G : GG) (Z : RZ) (ad : Nat → Nat) (ws0 : va_W) (hT : Ty G SC ad ws0) (a1 : Int32) (a2 : Int32) (hR : Rel ws0) (hH : Hok ws0) : Mq l yX11_street cX11_street 3 (some .int) 4 G Z [.ref (ad 0), .int a1, .int a2] ws0 (PI G SC ad [] ws0 (fun r u => (xso SC ad u = (f_X11_street (xso SC ad ws0) a1.toInt a2.toInt).1) ∧ (r.toInt = (f_X11_street (xso SC ad ws0) a1.toInt a2.toInt).2) ∧ ((-2) ≤ r.toInt) ∧ (r.toInt ≤ 24) ∧ (Rel u) ∧ (Hok u))) := by
  refine Mq.start (by decide) (Nat.le_of_ble_eq_true rfl) ?_
  intro p e s m below meth c A ls C0 hZ h hl
  have hl : lv_has ls 3 [(0, .ref (ad 0)), (1, .int a1), (2, .int a2)] := hl
  have h : Wt G SC ad A s s.heap [] ws0 := ⟨h, hT⟩
  obtain ⟨args, hargs⟩ : ∃ z, z = ([.ref (ad 0), .int a1, .int a2] : List Value).toArray := ⟨_, rfl⟩
  rw [← hargs] at C0 ⊢
  have C0 : Cx p s m args meth c RX11 cX11_street 3 (some .int) := C0
  obtain ⟨Q, hQ⟩ : ∃ z, z = MQ below ((PI G SC ad [] ws0 (fun r u => (xso SC ad u = (f_X11_street (xso SC ad ws0) a1.toInt a2.toInt).1) ∧ (r.toInt = (f_X11_street (xso SC ad ws0) a1.toInt a2.toInt).2) ∧ ((-2) ≤ r.toInt) ∧ (r.toInt ≤ 24) ∧ (Rel u) ∧ (Hok u))) A) args s 0 0 A := ⟨_, rfl⟩
  rw [← hQ]
  obtain ⟨FT, hFT⟩ : ∃ z, z = f_X11_street (xso SC ad ws0) a1.toInt a2.toInt := ⟨_, rfl⟩
  have HE : FT = f_X11_street (xso SC ad ws0) a1.toInt a2.toInt := hFT
  refine lv_aload_n C0.1 C0.2.1 dX11_street_0 rfl (lv_at hl 0 rfl) ?_
  refine lv_iload_n C0.1 C0.2.1 dX11_street_1 rfl (lv_at hl 1 rfl) ?_
  refine lv_iload_n C0.1 C0.2.1 dX11_street_2 rfl (lv_at hl 2 rfl) ?_
  refine y_ci h (y_rV (As := [.int a1, .int a2]) (rest := []) C0 hZ h (c_X11_isStand l G Z ad _ h.2 a1 a2) k_X11_isStand q_911 q_24 q_909 kSC_0 rfl rfl rfl hl.1 rfl rfl (Nat.le_of_ble_eq_true rfl) dX11_street_3 ⟨Nat.le_of_ble_eq_true rfl, Nat.le_of_ble_eq_true rfl⟩ ⟨Nat.le_of_ble_eq_true rfl, Nat.le_of_ble_eq_true rfl⟩) (fun r_4 H locs ws_1 h u_2 p_3 => ?_)
  obtain ⟨e_5, e_6, e_7, e_8, e_9⟩ := p_3
  replace HE : FT = g1c_X11_street (xso SC ad ws_1) r_4.toInt a1.toInt a2.toInt := HE.trans (by rw [e_5, e_6]; rfl)
  replace HE : FT = g2b_X11_street (xso SC ad ws_1) r_4.toInt a1.toInt a2.toInt := HE.trans rfl
  refine y_if_ne (tgt := 12) C0 dX11_street_6 (by decide) (fun c_10 => ?_) (fun c_10 => ?_)
  · -- 6
    replace HE : FT = g3_X11_street (xso SC ad ws_1) a1.toInt a2.toInt := HE.trans (if_neg c_10)
    refine lv_aload_n C0.1 C0.2.1 dX11_street_12 rfl (lv_at hl 0 rfl) ?_
    refine tg_X11_now C0 h kSC_0 q_515 dX11_street_13 ?_
    refine lv_iload_n C0.1 C0.2.1 dX11_street_16 rfl (lv_at hl 1 rfl) ?_
    refine lv_iload_n C0.1 C0.2.1 dX11_street_17 rfl (lv_at hl 2 rfl) ?_
    refine y_ci h (y_rV (As := [.int a1, .int a2]) (rest := []) C0 hZ h (c_X0_to l G Z ad _ h.2 1 kSC_1 a1 a2 (o27_12 e_7 e_8 e_9 c_10) (o27_13 e_7 e_8 e_9 c_10) (o27_14 e_7 e_8 e_9 c_10) (o27_15 e_7 e_8 e_9 c_10) (Rel.fr (M := []) hR u_2 (by decide) (by decide))) k_X0_to q_773 q_774 q_921 kSC_1 rfl rfl rfl hl.1 rfl rfl (Nat.le_of_ble_eq_true rfl) dX11_street_18 ⟨Nat.le_of_ble_eq_true rfl, Nat.le_of_ble_eq_true rfl⟩ ⟨Nat.le_of_ble_eq_true rfl, Nat.le_of_ble_eq_true rfl⟩) (fun r_14 H locs ws_11 h u_12 p_13 => ?_)
    obtain ⟨e_15, e_16, e_17, e_18, e_19⟩ := p_13
    replace HE : FT = g5c_X11_street (xso SC ad ws_11) r_14.toInt := HE.trans (by rw [e_15, e_16]; rfl)
    replace HE : FT = ((xso SC ad ws_11), r_14.toInt) := HE.trans rfl
    rw [hQ]
    exact y_iret C0 h (Fr.tr u_2 u_12) ⟨(congrArg Prod.fst (HE.symm.trans hFT)), (congrArg Prod.snd (HE.symm.trans hFT)), (o27_16 e_17 e_18), (o27_17 e_17 e_18), (Rel.fr (M := []) hR (Fr.tr u_2 u_12) (by decide) (by decide)), (Hok.fr (M := []) hH (Fr.tr u_2 u_12) (by decide))⟩ dX11_street_21
  · -- 6
    replace HE : FT = g4_X11_street (xso SC ad ws_1) := HE.trans (if_pos c_10)
    refine y_c2 (n := (-2)) C0 (by decide) dX11_street_9 (fun v_20 e_21 => ?_)
    replace HE : FT = ((xso SC ad ws_1), v_20.toInt) := HE.trans (by rw [e_21]; rfl)
    rw [hQ]
    exact y_iret C0 h u_2 ⟨(congrArg Prod.fst (HE.symm.trans hFT)), (congrArg Prod.snd (HE.symm.trans hFT)), (o27_18 e_21), (o27_19 e_21), (Rel.fr (M := []) hR u_2 (by decide) (by decide)), (Hok.fr (M := []) hH u_2 (by decide))⟩ dX11_street_11
noncomputable def g6_X11_crossing (s : XS) : XR := (s, ((-2)))
noncomputable def g8c_X11_crossing (s : XS) (r_27 : Int) : XR := (s, r_27)
noncomputable def g7_X11_crossing (s : XS) (a1 : Int) : XR := g8c_X11_crossing ((f_X0_cost s 1 a1 (s 0 10 8) (s 1 16 (Int.toNat a1)) 0).1) (((f_X0_cost s 1 a1 (s 0 10 8) (s 1 16 (Int.toNat a1)) 0).2))
noncomputable def g9_X11_crossing (s : XS) (a1 : Int) : XR := (s, (s 1 16 (Int.toNat a1)))
noncomputable def g11c_X11_crossing (s : XS) (r_42 : Int) (a1 : Int) : XR := (s, (Xiand (Xishr r_42 a1) 1))
noncomputable def g10_X11_crossing (s : XS) (a1 : Int) : XR := g11c_X11_crossing ((f_X0_freeBits s 1 (s 0 10 8)).1) (((f_X0_freeBits s 1 (s 0 10 8)).2)) a1
noncomputable def g12_X11_crossing (s : XS) (a1 : Int) : XR := (s, (max 0 (Xisub (s 1 17 (Int.toNat a1)) (s 0 10 8))))
noncomputable def g14c_X11_crossing (s : XS) (r_68 : Int) : XR := (s, r_68)
noncomputable def g13_X11_crossing (s : XS) (a1 : Int) : XR := g14c_X11_crossing ((f_X0_streetsFrom s 1 a1).1) (((f_X0_streetsFrom s 1 a1).2))
noncomputable def g5s_X11_crossing (s : XS) (a2 : Int) (a1 : Int) : XR := if a2 < 0 ∨ 4 < a2 then g6_X11_crossing s else if a2 = 0 then g7_X11_crossing s a1 else if a2 = 1 then g9_X11_crossing s a1 else if a2 = 2 then g10_X11_crossing s a1 else if a2 = 3 then g12_X11_crossing s a1 else if a2 = 4 then g13_X11_crossing s a1 else (s, 0)
noncomputable def g3_X11_crossing (s : XS) (a1 : Int) (a2 : Int) : XR := g5s_X11_crossing s a2 a1
noncomputable def g4_X11_crossing (s : XS) : XR := (s, ((-2)))
noncomputable def g2b_X11_crossing (s : XS) (r_4 : Int) (a1 : Int) (a2 : Int) : XR := if r_4 = 0 then g4_X11_crossing s else g3_X11_crossing s a1 a2
noncomputable def g1c_X11_crossing (s : XS) (r_4 : Int) (a1 : Int) (a2 : Int) : XR := g2b_X11_crossing s r_4 a1 a2
noncomputable def f_X11_crossing (s : XS) (a1 : Int) (a2 : Int) : XR := g1c_X11_crossing ((f_X11_isCrossing s a1).1) (((f_X11_isCrossing s a1).2)) a1 a2
set_option maxHeartbeats 4000000 in
set_option maxRecDepth 100000 in
theorem c_X11_crossing (l : Launch) (G : GG) (Z : RZ) (ad : Nat → Nat) (ws0 : va_W) (hT : Ty G SC ad ws0) (a1 : Int32) (a2 : Int32) (hR : Rel ws0) (hH : Hok ws0) : Mq l yX11_crossing cX11_crossing 4 (some .int) 3 G Z [.ref (ad 0), .int a1, .int a2] ws0 (PI G SC ad [4, 5] ws0 (fun r u => (xso SC ad u = (f_X11_crossing (xso SC ad ws0) a1.toInt a2.toInt).1) ∧ (r.toInt = (f_X11_crossing (xso SC ad ws0) a1.toInt a2.toInt).2) ∧ (Rel u) ∧ (Hok u))) := by
  refine Mq.start (by decide) (Nat.le_of_ble_eq_true rfl) ?_
  intro p e s m below meth c A ls C0 hZ h hl
  have hl : lv_has ls 4 [(0, .ref (ad 0)), (1, .int a1), (2, .int a2)] := hl
  have h : Wt G SC ad A s s.heap [] ws0 := ⟨h, hT⟩
  obtain ⟨args, hargs⟩ : ∃ z, z = ([.ref (ad 0), .int a1, .int a2] : List Value).toArray := ⟨_, rfl⟩
  rw [← hargs] at C0 ⊢
  have C0 : Cx p s m args meth c RX11 cX11_crossing 4 (some .int) := C0
  obtain ⟨Q, hQ⟩ : ∃ z, z = MQ below ((PI G SC ad [4, 5] ws0 (fun r u => (xso SC ad u = (f_X11_crossing (xso SC ad ws0) a1.toInt a2.toInt).1) ∧ (r.toInt = (f_X11_crossing (xso SC ad ws0) a1.toInt a2.toInt).2) ∧ (Rel u) ∧ (Hok u))) A) args s 0 0 A := ⟨_, rfl⟩
  rw [← hQ]
  obtain ⟨FT, hFT⟩ : ∃ z, z = f_X11_crossing (xso SC ad ws0) a1.toInt a2.toInt := ⟨_, rfl⟩
  have HE : FT = f_X11_crossing (xso SC ad ws0) a1.toInt a2.toInt := hFT
  refine lv_aload_n C0.1 C0.2.1 dX11_crossing_0 rfl (lv_at hl 0 rfl) ?_
  refine lv_iload_n C0.1 C0.2.1 dX11_crossing_1 rfl (lv_at hl 1 rfl) ?_
  refine y_ci h (y_rV (As := [.int a1]) (rest := []) C0 hZ h (c_X11_isCrossing l G Z ad _ h.2 a1) k_X11_isCrossing q_915 q_25 q_913 kSC_0 rfl rfl rfl hl.1 rfl rfl (Nat.le_of_ble_eq_true rfl) dX11_crossing_2 ⟨Nat.le_of_ble_eq_true rfl, Nat.le_of_ble_eq_true rfl⟩ ⟨Nat.le_of_ble_eq_true rfl, Nat.le_of_ble_eq_true rfl⟩) (fun r_4 H locs ws_1 h u_2 p_3 => ?_)
  obtain ⟨e_5, e_6, e_7, e_8, e_9⟩ := p_3
  replace HE : FT = g1c_X11_crossing (xso SC ad ws_1) r_4.toInt a1.toInt a2.toInt := HE.trans (by rw [e_5, e_6]; rfl)
  replace HE : FT = g2b_X11_crossing (xso SC ad ws_1) r_4.toInt a1.toInt a2.toInt := HE.trans rfl
  refine y_if_ne (tgt := 11) C0 dX11_crossing_5 (by decide) (fun c_10 => ?_) (fun c_10 => ?_)
  · -- 5
    replace HE : FT = g3_X11_crossing (xso SC ad ws_1) a1.toInt a2.toInt := HE.trans (if_neg c_10)
    refine lv_aload_n C0.1 C0.2.1 dX11_crossing_11 rfl (lv_at hl 0 rfl) ?_
    refine tg_X11_now C0 h kSC_0 q_515 dX11_crossing_12 ?_
    refine tg_X0_folk C0 h kSC_1 q_249 dX11_crossing_15 ?_
    refine lv_astore_n (lv' := [(3, .ref (ad 10)), (0, .ref (ad 0)), (1, .int a1), (2, .int a2)]) C0.1 C0.2.1 dX11_crossing_18 rfl hl (by decide) rfl (fun ls hl => ?_)
    refine lv_iload_n C0.1 C0.2.1 dX11_crossing_19 rfl (lv_at hl 3 rfl) ?_
    replace HE : FT = g5s_X11_crossing (xso SC ad ws_1) a2.toInt a1.toInt := HE.trans rfl
    by_cases sw_11 : a2.toInt < 0 ∨ 4 < a2.toInt
    · refine lv_tableOut (tgt := 124) C0.1 C0.2.1 dX11_crossing_20 sw_11 (by decide) ?_
      replace HE : FT = g6_X11_crossing (xso SC ad ws_1) := HE.trans (if_pos sw_11)
      refine y_c2 (n := (-2)) C0 (by decide) dX11_crossing_124 (fun v_12 e_13 => ?_)
      replace HE : FT = ((xso SC ad ws_1), v_12.toInt) := HE.trans (by rw [e_13]; rfl)
      rw [hQ]
      exact y_iret C0 h (Fr.mono u_2 (by decide)) ⟨(congrArg Prod.fst (HE.symm.trans hFT)), (congrArg Prod.snd (HE.symm.trans hFT)), (Rel.fr (M := []) hR u_2 (by decide) (by decide)), (Hok.fr (M := []) hH u_2 (by decide))⟩ dX11_crossing_126
    · obtain ⟨sw_111, sw_112⟩ := not_or.mp sw_11
      rcases (show a2.toInt = 0 ∨ a2.toInt = 1 ∨ a2.toInt = 2 ∨ a2.toInt = 3 ∨ a2.toInt = 4 by omega) with sw_114 | sw_114 | sw_114 | sw_114 | sw_114
      · refine lv_tableIn (off := 36) (tgt := 56) C0.1 C0.2.1 dX11_crossing_20 sw_111 sw_112 (by rw [sw_114]; rfl) (by decide) ?_
        replace HE : FT = g7_X11_crossing (xso SC ad ws_1) a1.toInt := HE.trans ((if_neg (not_or.mpr ⟨sw_111, sw_112⟩)).trans (if_pos sw_114))
        refine lv_aload_n C0.1 C0.2.1 dX11_crossing_56 rfl (lv_at hl 1 rfl) ?_
        refine tg_X11_now C0 h kSC_0 q_515 dX11_crossing_57 ?_
        refine lv_iload_n C0.1 C0.2.1 dX11_crossing_60 rfl (lv_at hl 2 rfl) ?_
        refine lv_aload_n C0.1 C0.2.1 dX11_crossing_61 rfl (lv_at hl 0 rfl) ?_
        refine tg_X1_hours C0 h kSC_10 q_220 dX11_crossing_62 (fun v_14 e_15 e_16 e_17 => ?_)
        refine lv_aload_n C0.1 C0.2.1 dX11_crossing_65 rfl (lv_at hl 0 rfl) ?_
        refine tg_X1_sold C0 h kSC_10 q_208 dX11_crossing_66 ?_
        refine lv_iload_n C0.1 C0.2.1 dX11_crossing_69 rfl (lv_at hl 2 rfl) ?_
        refine y_iald C0 h kSC_16 rfl (by decide) (o27_20 e_7 e_8 e_9 c_10) (o27_21 e_7 e_8 e_9 c_10) dX11_crossing_70 (fun v_18 e_19 e_20 e_21 => ?_)
        refine y_c1 (n := 0) C0 (by decide) dX11_crossing_71 (fun v_22 e_23 => ?_)
        refine y_ci h (y_rV (As := [.int a1, .int v_14, .int v_18, .int v_22]) (rest := []) C0 hZ h (c_X0_cost l G Z ad _ h.2 1 kSC_1 a1 v_14 v_18 v_22 (o27_20 e_7 e_8 e_9 c_10) (o27_22 e_7 e_8 e_9 c_10)) k_X0_cost q_927 q_928 q_926 kSC_1 rfl rfl rfl hl.1 rfl rfl (Nat.le_of_ble_eq_true rfl) dX11_crossing_72 ⟨Nat.le_of_ble_eq_true rfl, Nat.le_of_ble_eq_true rfl⟩ ⟨Nat.le_of_ble_eq_true rfl, Nat.le_of_ble_eq_true rfl⟩) (fun r_27 H locs ws_24 h u_25 p_26 => ?_)
        obtain ⟨e_28, e_29, e_30⟩ := p_26
        replace HE : FT = g8c_X11_crossing (xso SC ad ws_24) r_27.toInt := HE.trans (by rw [e_28, e_29, e_23, (xg1 e_19 : v_18.toInt = (xso SC ad ws_1) 1 16 a1.toInt.toNat), (xg0 e_15 : v_14.toInt = (xso SC ad ws_1) 0 10 8)]; rfl)
        replace HE : FT = ((xso SC ad ws_24), r_27.toInt) := HE.trans rfl
        rw [hQ]
        exact y_iret C0 h (Fr.tr (Fr.mono u_2 (by decide)) u_25) ⟨(congrArg Prod.fst (HE.symm.trans hFT)), (congrArg Prod.snd (HE.symm.trans hFT)), (Rel.fr (M := [4, 5]) hR (Fr.tr (Fr.mono u_2 (by decide)) u_25) (by decide) (by decide)), (Hok.fr (M := [4, 5]) hH (Fr.tr (Fr.mono u_2 (by decide)) u_25) (by decide))⟩ dX11_crossing_75
      · refine lv_tableIn (off := 56) (tgt := 76) C0.1 C0.2.1 dX11_crossing_20 sw_111 sw_112 (by rw [sw_114]; rfl) (by decide) ?_
        replace HE : FT = g9_X11_crossing (xso SC ad ws_1) a1.toInt := HE.trans ((if_neg (not_or.mpr ⟨sw_111, sw_112⟩)).trans ((if_neg (fun q => absurd (sw_114.symm.trans q) (by decide))).trans (if_pos sw_114)))
        refine lv_aload_n C0.1 C0.2.1 dX11_crossing_76 rfl (lv_at hl 0 rfl) ?_
        refine tg_X1_sold C0 h kSC_10 q_208 dX11_crossing_77 ?_
        refine lv_iload_n C0.1 C0.2.1 dX11_crossing_80 rfl (lv_at hl 2 rfl) ?_
        refine y_iald C0 h kSC_16 rfl (by decide) (o27_20 e_7 e_8 e_9 c_10) (o27_21 e_7 e_8 e_9 c_10) dX11_crossing_81 (fun v_31 e_32 e_33 e_34 => ?_)
        replace HE : FT = ((xso SC ad ws_1), v_31.toInt) := HE.trans (by rw [(xg1 e_32 : v_31.toInt = (xso SC ad ws_1) 1 16 a1.toInt.toNat)]; rfl)
        rw [hQ]
        exact y_iret C0 h (Fr.mono u_2 (by decide)) ⟨(congrArg Prod.fst (HE.symm.trans hFT)), (congrArg Prod.snd (HE.symm.trans hFT)), (Rel.fr (M := []) hR u_2 (by decide) (by decide)), (Hok.fr (M := []) hH u_2 (by decide))⟩ dX11_crossing_82
      · refine lv_tableIn (off := 63) (tgt := 83) C0.1 C0.2.1 dX11_crossing_20 sw_111 sw_112 (by rw [sw_114]; rfl) (by decide) ?_
        replace HE : FT = g10_X11_crossing (xso SC ad ws_1) a1.toInt := HE.trans ((if_neg (not_or.mpr ⟨sw_111, sw_112⟩)).trans ((if_neg (fun q => absurd (sw_114.symm.trans q) (by decide))).trans ((if_neg (fun q => absurd (sw_114.symm.trans q) (by decide))).trans (if_pos sw_114))))
        refine lv_aload_n C0.1 C0.2.1 dX11_crossing_83 rfl (lv_at hl 1 rfl) ?_
        refine tg_X11_now C0 h kSC_0 q_515 dX11_crossing_84 ?_
        refine lv_aload_n C0.1 C0.2.1 dX11_crossing_87 rfl (lv_at hl 0 rfl) ?_
        refine tg_X1_hours C0 h kSC_10 q_220 dX11_crossing_88 (fun v_35 e_36 e_37 e_38 => ?_)
        refine y_ci h (y_rV (As := [.int v_35]) (rest := []) C0 hZ h (c_X0_freeBits l G Z ad _ h.2 1 kSC_1 v_35) k_X0_freeBits q_948 q_949 q_947 kSC_1 rfl rfl rfl hl.1 rfl rfl (Nat.le_of_ble_eq_true rfl) dX11_crossing_91 ⟨Nat.le_of_ble_eq_true rfl, Nat.le_of_ble_eq_true rfl⟩ ⟨Nat.le_of_ble_eq_true rfl, Nat.le_of_ble_eq_true rfl⟩) (fun r_42 H locs ws_39 h u_40 p_41 => ?_)
        obtain ⟨e_43, e_44⟩ := p_41
        replace HE : FT = g11c_X11_crossing (xso SC ad ws_39) r_42.toInt a1.toInt := HE.trans (by rw [e_43, e_44, (xg0 e_36 : v_35.toInt = (xso SC ad ws_1) 0 10 8)]; rfl)
        refine lv_iload_n C0.1 C0.2.1 dX11_crossing_94 rfl (lv_at hl 2 rfl) ?_
        refine xr_ishr C0 dX11_crossing_95 (fun v_45 e_46 => ?_)
        refine y_c1 (n := 1) C0 (by decide) dX11_crossing_96 (fun v_47 e_48 => ?_)
        refine xr_iand C0 dX11_crossing_97 (fun v_49 e_50 => ?_)
        replace HE : FT = ((xso SC ad ws_39), v_49.toInt) := HE.trans (by rw [e_50, e_48, e_46]; rfl)
        rw [hQ]
        exact y_iret C0 h (Fr.tr (Fr.mono u_2 (by decide)) (Fr.mono u_40 (by decide))) ⟨(congrArg Prod.fst (HE.symm.trans hFT)), (congrArg Prod.snd (HE.symm.trans hFT)), (Rel.fr (M := []) hR (Fr.tr u_2 u_40) (by decide) (by decide)), (Hok.fr (M := []) hH (Fr.tr u_2 u_40) (by decide))⟩ dX11_crossing_98
      · refine lv_tableIn (off := 79) (tgt := 99) C0.1 C0.2.1 dX11_crossing_20 sw_111 sw_112 (by rw [sw_114]; rfl) (by decide) ?_
        replace HE : FT = g12_X11_crossing (xso SC ad ws_1) a1.toInt := HE.trans ((if_neg (not_or.mpr ⟨sw_111, sw_112⟩)).trans ((if_neg (fun q => absurd (sw_114.symm.trans q) (by decide))).trans ((if_neg (fun q => absurd (sw_114.symm.trans q) (by decide))).trans ((if_neg (fun q => absurd (sw_114.symm.trans q) (by decide))).trans (if_pos sw_114)))))
        refine y_c1 (n := 0) C0 (by decide) dX11_crossing_99 (fun v_51 e_52 => ?_)
        refine lv_aload_n C0.1 C0.2.1 dX11_crossing_100 rfl (lv_at hl 0 rfl) ?_
        refine tg_X1_fogEnds C0 h kSC_10 q_211 dX11_crossing_101 ?_
        refine lv_iload_n C0.1 C0.2.1 dX11_crossing_104 rfl (lv_at hl 2 rfl) ?_
        refine y_iald C0 h kSC_17 rfl (by decide) (o27_20 e_7 e_8 e_9 c_10) (o27_21 e_7 e_8 e_9 c_10) dX11_crossing_105 (fun v_53 e_54 e_55 e_56 => ?_)
        refine lv_aload_n C0.1 C0.2.1 dX11_crossing_106 rfl (lv_at hl 0 rfl) ?_
        refine tg_X1_hours C0 h kSC_10 q_220 dX11_crossing_107 (fun v_57 e_58 e_59 e_60 => ?_)
        refine xr_isub C0 dX11_crossing_110 (fun v_61 e_62 => ?_)
        refine y_max C0 hl.1 q_951 q_660 q_141 q_661 (Nat.le_of_ble_eq_true rfl) (Nat.le_of_ble_eq_true rfl) (Nat.le_of_ble_eq_true rfl) (Nat.le_of_ble_eq_true rfl) dX11_crossing_111 (fun v_63 e_64 => ?_)
        replace HE : FT = ((xso SC ad ws_1), v_63.toInt) := HE.trans (by rw [(ix_max e_64), e_62, (xg0 e_58 : v_57.toInt = (xso SC ad ws_1) 0 10 8), (xg1 e_54 : v_53.toInt = (xso SC ad ws_1) 1 17 a1.toInt.toNat), e_52]; rfl)
        rw [hQ]
        exact y_iret C0 h (Fr.mono u_2 (by decide)) ⟨(congrArg Prod.fst (HE.symm.trans hFT)), (congrArg Prod.snd (HE.symm.trans hFT)), (Rel.fr (M := []) hR u_2 (by decide) (by decide)), (Hok.fr (M := []) hH u_2 (by decide))⟩ dX11_crossing_114
      · refine lv_tableIn (off := 95) (tgt := 115) C0.1 C0.2.1 dX11_crossing_20 sw_111 sw_112 (by rw [sw_114]; rfl) (by decide) ?_
        replace HE : FT = g13_X11_crossing (xso SC ad ws_1) a1.toInt := HE.trans ((if_neg (not_or.mpr ⟨sw_111, sw_112⟩)).trans ((if_neg (fun q => absurd (sw_114.symm.trans q) (by decide))).trans ((if_neg (fun q => absurd (sw_114.symm.trans q) (by decide))).trans ((if_neg (fun q => absurd (sw_114.symm.trans q) (by decide))).trans ((if_neg (fun q => absurd (sw_114.symm.trans q) (by decide))).trans (if_pos sw_114))))))
        refine lv_aload_n C0.1 C0.2.1 dX11_crossing_115 rfl (lv_at hl 1 rfl) ?_
        refine tg_X11_now C0 h kSC_0 q_515 dX11_crossing_116 ?_
        refine lv_iload_n C0.1 C0.2.1 dX11_crossing_119 rfl (lv_at hl 2 rfl) ?_
        refine y_ci h (y_rV (As := [.int a1]) (rest := []) C0 hZ h (c_X0_streetsFrom l G Z ad _ h.2 1 kSC_1 a1) k_X0_streetsFrom q_953 q_954 q_952 kSC_1 rfl rfl rfl hl.1 rfl rfl (Nat.le_of_ble_eq_true rfl) dX11_crossing_120 ⟨Nat.le_of_ble_eq_true rfl, Nat.le_of_ble_eq_true rfl⟩ ⟨Nat.le_of_ble_eq_true rfl, Nat.le_of_ble_eq_true rfl⟩) (fun r_68 H locs ws_65 h u_66 p_67 => ?_)
        obtain ⟨e_69, e_70⟩ := p_67
        replace HE : FT = g14c_X11_crossing (xso SC ad ws_65) r_68.toInt := HE.trans (by rw [e_69, e_70]; rfl)
        replace HE : FT = ((xso SC ad ws_65), r_68.toInt) := HE.trans rfl
        rw [hQ]
        exact y_iret C0 h (Fr.tr (Fr.mono u_2 (by decide)) (Fr.mono u_66 (by decide))) ⟨(congrArg Prod.fst (HE.symm.trans hFT)), (congrArg Prod.snd (HE.symm.trans hFT)), (Rel.fr (M := []) hR (Fr.tr u_2 u_66) (by decide) (by decide)), (Hok.fr (M := []) hH (Fr.tr u_2 u_66) (by decide))⟩ dX11_crossing_123
  · -- 5
    replace HE : FT = g4_X11_crossing (xso SC ad ws_1) := HE.trans (if_pos c_10)
    refine y_c2 (n := (-2)) C0 (by decide) dX11_crossing_8 (fun v_71 e_72 => ?_)
    replace HE : FT = ((xso SC ad ws_1), v_71.toInt) := HE.trans (by rw [e_72]; rfl)
    rw [hQ]
    exact y_iret C0 h (Fr.mono u_2 (by decide)) ⟨(congrArg Prod.fst (HE.symm.trans hFT)), (congrArg Prod.snd (HE.symm.trans hFT)), (Rel.fr (M := []) hR u_2 (by decide) (by decide)), (Hok.fr (M := []) hH u_2 (by decide))⟩ dX11_crossing_10
noncomputable def g6_X11_price (s : XS) : XR := (s, ((-3)))
noncomputable def g11c_X11_price (s : XS) (r_30 : Int) : XR := (s, r_30)
noncomputable def g9_X11_price (s : XS) (a1 : Int) (a2 : Int) (a3 : Int) : XR := g11c_X11_price ((f_X0_cost s 1 a1 (Xiadd (s 0 10 8) a3) (s 1 16 (Int.toNat a1)) a2).1) (((f_X0_cost s 1 a1 (Xiadd (s 0 10 8) a3) (s 1 16 (Int.toNat a1)) a2).2))
noncomputable def g10_X11_price (s : XS) : XR := (s, ((-3)))
noncomputable def g8b_X11_price (s : XS) (a3 : Int) (a1 : Int) (a2 : Int) : XR := if 999 < a3 then g10_X11_price s else g9_X11_price s a1 a2 a3
noncomputable def g7_X11_price (s : XS) (a1 : Int) (a2 : Int) (a3 : Int) : XR := g8b_X11_price s a3 a1 a2
noncomputable def g5b_X11_price (s : XS) (a3 : Int) (a1 : Int) (a2 : Int) : XR := if a3 < 0 then g6_X11_price s else g7_X11_price s a1 a2 a3
noncomputable def g3_X11_price (s : XS) (a1 : Int) (a2 : Int) (a3 : Int) : XR := g5b_X11_price s a3 a1 a2
noncomputable def g4_X11_price (s : XS) : XR := (s, ((-2)))
noncomputable def g2b_X11_price (s : XS) (r_4 : Int) (a1 : Int) (a2 : Int) (a3 : Int) : XR := if r_4 = 0 then g4_X11_price s else g3_X11_price s a1 a2 a3
noncomputable def g1c_X11_price (s : XS) (r_4 : Int) (a1 : Int) (a2 : Int) (a3 : Int) : XR := g2b_X11_price s r_4 a1 a2 a3
noncomputable def f_X11_price (s : XS) (a1 : Int) (a2 : Int) (a3 : Int) : XR := g1c_X11_price ((f_X11_isStand s a1 a2).1) (((f_X11_isStand s a1 a2).2)) a1 a2 a3
set_option maxHeartbeats 4000000 in
set_option maxRecDepth 100000 in
theorem c_X11_price (l : Launch) (G : GG) (Z : RZ) (ad : Nat → Nat) (ws0 : va_W) (hT : Ty G SC ad ws0) (a1 : Int32) (a2 : Int32) (a3 : Int32) (hR : Rel ws0) (hH : Hok ws0) : Mq l yX11_price cX11_price 4 (some .int) 4 G Z [.ref (ad 0), .int a1, .int a2, .int a3] ws0 (PI G SC ad [4, 5] ws0 (fun r u => (xso SC ad u = (f_X11_price (xso SC ad ws0) a1.toInt a2.toInt a3.toInt).1) ∧ (r.toInt = (f_X11_price (xso SC ad ws0) a1.toInt a2.toInt a3.toInt).2) ∧ ((-3) ≤ r.toInt) ∧ (Rel u) ∧ (Hok u))) := by
  refine Mq.start (by decide) (Nat.le_of_ble_eq_true rfl) ?_
  intro p e s m below meth c A ls C0 hZ h hl
  have hl : lv_has ls 4 [(0, .ref (ad 0)), (1, .int a1), (2, .int a2), (3, .int a3)] := hl
  have h : Wt G SC ad A s s.heap [] ws0 := ⟨h, hT⟩
  obtain ⟨args, hargs⟩ : ∃ z, z = ([.ref (ad 0), .int a1, .int a2, .int a3] : List Value).toArray := ⟨_, rfl⟩
  rw [← hargs] at C0 ⊢
  have C0 : Cx p s m args meth c RX11 cX11_price 4 (some .int) := C0
  obtain ⟨Q, hQ⟩ : ∃ z, z = MQ below ((PI G SC ad [4, 5] ws0 (fun r u => (xso SC ad u = (f_X11_price (xso SC ad ws0) a1.toInt a2.toInt a3.toInt).1) ∧ (r.toInt = (f_X11_price (xso SC ad ws0) a1.toInt a2.toInt a3.toInt).2) ∧ ((-3) ≤ r.toInt) ∧ (Rel u) ∧ (Hok u))) A) args s 0 0 A := ⟨_, rfl⟩
  rw [← hQ]
  obtain ⟨FT, hFT⟩ : ∃ z, z = f_X11_price (xso SC ad ws0) a1.toInt a2.toInt a3.toInt := ⟨_, rfl⟩
  have HE : FT = f_X11_price (xso SC ad ws0) a1.toInt a2.toInt a3.toInt := hFT
  refine lv_aload_n C0.1 C0.2.1 dX11_price_0 rfl (lv_at hl 0 rfl) ?_
  refine lv_iload_n C0.1 C0.2.1 dX11_price_1 rfl (lv_at hl 1 rfl) ?_
  refine lv_iload_n C0.1 C0.2.1 dX11_price_2 rfl (lv_at hl 2 rfl) ?_
  refine y_ci h (y_rV (As := [.int a1, .int a2]) (rest := []) C0 hZ h (c_X11_isStand l G Z ad _ h.2 a1 a2) k_X11_isStand q_911 q_24 q_909 kSC_0 rfl rfl rfl hl.1 rfl rfl (Nat.le_of_ble_eq_true rfl) dX11_price_3 ⟨Nat.le_of_ble_eq_true rfl, Nat.le_of_ble_eq_true rfl⟩ ⟨Nat.le_of_ble_eq_true rfl, Nat.le_of_ble_eq_true rfl⟩) (fun r_4 H locs ws_1 h u_2 p_3 => ?_)
  obtain ⟨e_5, e_6, e_7, e_8, e_9⟩ := p_3
  replace HE : FT = g1c_X11_price (xso SC ad ws_1) r_4.toInt a1.toInt a2.toInt a3.toInt := HE.trans (by rw [e_5, e_6]; rfl)
  replace HE : FT = g2b_X11_price (xso SC ad ws_1) r_4.toInt a1.toInt a2.toInt a3.toInt := HE.trans rfl
  refine y_if_ne (tgt := 12) C0 dX11_price_6 (by decide) (fun c_10 => ?_) (fun c_10 => ?_)
  · -- 6
    replace HE : FT = g3_X11_price (xso SC ad ws_1) a1.toInt a2.toInt a3.toInt := HE.trans (if_neg c_10)
    refine lv_iload_n C0.1 C0.2.1 dX11_price_12 rfl (lv_at hl 3 rfl) ?_
    replace HE : FT = g5b_X11_price (xso SC ad ws_1) a3.toInt a1.toInt a2.toInt := HE.trans rfl
    refine y_if_lt (tgt := 23) C0 dX11_price_13 (by decide) (fun c_11 => ?_) (fun c_11 => ?_)
    · -- 13
      replace HE : FT = g6_X11_price (xso SC ad ws_1) := HE.trans (if_pos c_11)
      refine y_c2 (n := (-3)) C0 (by decide) dX11_price_23 (fun v_12 e_13 => ?_)
      replace HE : FT = ((xso SC ad ws_1), v_12.toInt) := HE.trans (by rw [e_13]; rfl)
      rw [hQ]
      exact y_iret C0 h (Fr.mono u_2 (by decide)) ⟨(congrArg Prod.fst (HE.symm.trans hFT)), (congrArg Prod.snd (HE.symm.trans hFT)), (o27_23 e_13), (Rel.fr (M := []) hR u_2 (by decide) (by decide)), (Hok.fr (M := []) hH u_2 (by decide))⟩ dX11_price_25
    · -- 13
      replace HE : FT = g7_X11_price (xso SC ad ws_1) a1.toInt a2.toInt a3.toInt := HE.trans (if_neg (Int.not_lt.mpr c_11))
      refine lv_iload_n C0.1 C0.2.1 dX11_price_16 rfl (lv_at hl 3 rfl) ?_
      refine y_c3 (n := 999) C0 (by decide) dX11_price_17 (fun v_14 e_15 => ?_)
      replace HE : FT = g8b_X11_price (xso SC ad ws_1) a3.toInt a1.toInt a2.toInt := HE.trans rfl
      refine y_icmp_le (tgt := 26) C0 dX11_price_20 (by decide) (fun c_16 => ?_) (fun c_16 => ?_)
      · -- 20
        replace HE : FT = g9_X11_price (xso SC ad ws_1) a1.toInt a2.toInt a3.toInt := HE.trans (if_neg (o27_25 c_11 e_15 c_16))
        refine lv_aload_n C0.1 C0.2.1 dX11_price_26 rfl (lv_at hl 0 rfl) ?_
        refine tg_X11_now C0 h kSC_0 q_515 dX11_price_27 ?_
        refine lv_iload_n C0.1 C0.2.1 dX11_price_30 rfl (lv_at hl 1 rfl) ?_
        refine lv_aload_n C0.1 C0.2.1 dX11_price_31 rfl (lv_at hl 0 rfl) ?_
        refine tg_X11_now C0 h kSC_0 q_515 dX11_price_32 ?_
        refine tg_X0_folk C0 h kSC_1 q_249 dX11_price_35 ?_
        refine tg_X1_hours C0 h kSC_10 q_220 dX11_price_38 (fun v_17 e_18 e_19 e_20 => ?_)
        refine lv_iload_n C0.1 C0.2.1 dX11_price_41 rfl (lv_at hl 3 rfl) ?_
        refine xr_iadd C0 dX11_price_42 (fun v_21 e_22 => ?_)
        refine lv_aload_n C0.1 C0.2.1 dX11_price_43 rfl (lv_at hl 0 rfl) ?_
        refine tg_X11_now C0 h kSC_0 q_515 dX11_price_44 ?_
        refine tg_X0_folk C0 h kSC_1 q_249 dX11_price_47 ?_
        refine tg_X1_sold C0 h kSC_10 q_208 dX11_price_50 ?_
        refine lv_iload_n C0.1 C0.2.1 dX11_price_53 rfl (lv_at hl 1 rfl) ?_
        refine y_iald C0 h kSC_16 rfl (by decide) (o27_12 e_7 e_8 e_9 c_10) (o27_27 e_7 e_8 e_9 c_10) dX11_price_54 (fun v_23 e_24 e_25 e_26 => ?_)
        refine lv_iload_n C0.1 C0.2.1 dX11_price_55 rfl (lv_at hl 2 rfl) ?_
        refine y_ci h (y_rV (As := [.int a1, .int v_21, .int v_23, .int a2]) (rest := []) C0 hZ h (c_X0_cost l G Z ad _ h.2 1 kSC_1 a1 v_21 v_23 a2 (o27_12 e_7 e_8 e_9 c_10) (o27_13 e_7 e_8 e_9 c_10)) k_X0_cost q_927 q_928 q_926 kSC_1 rfl rfl rfl hl.1 rfl rfl (Nat.le_of_ble_eq_true rfl) dX11_price_56 ⟨Nat.le_of_ble_eq_true rfl, Nat.le_of_ble_eq_true rfl⟩ ⟨Nat.le_of_ble_eq_true rfl, Nat.le_of_ble_eq_true rfl⟩) (fun r_30 H locs ws_27 h u_28 p_29 => ?_)
        obtain ⟨e_31, e_32, e_33⟩ := p_29
        replace HE : FT = g11c_X11_price (xso SC ad ws_27) r_30.toInt := HE.trans (by rw [e_31, e_32, (xg1 e_24 : v_23.toInt = (xso SC ad ws_1) 1 16 a1.toInt.toNat), e_22, (xg0 e_18 : v_17.toInt = (xso SC ad ws_1) 0 10 8)]; rfl)
        replace HE : FT = ((xso SC ad ws_27), r_30.toInt) := HE.trans rfl
        rw [hQ]
        exact y_iret C0 h (Fr.tr (Fr.mono u_2 (by decide)) u_28) ⟨(congrArg Prod.fst (HE.symm.trans hFT)), (congrArg Prod.snd (HE.symm.trans hFT)), (o27_28 e_33), (Rel.fr (M := [4, 5]) hR (Fr.tr (Fr.mono u_2 (by decide)) u_28) (by decide) (by decide)), (Hok.fr (M := [4, 5]) hH (Fr.tr (Fr.mono u_2 (by decide)) u_28) (by decide))⟩ dX11_price_59
      · -- 20
        replace HE : FT = g10_X11_price (xso SC ad ws_1) := HE.trans (if_pos (o27_26 c_11 e_15 c_16))
        refine y_c2 (n := (-3)) C0 (by decide) dX11_price_23 (fun v_34 e_35 => ?_)
        replace HE : FT = ((xso SC ad ws_1), v_34.toInt) := HE.trans (by rw [e_35]; rfl)
        rw [hQ]
        exact y_iret C0 h (Fr.mono u_2 (by decide)) ⟨(congrArg Prod.fst (HE.symm.trans hFT)), (congrArg Prod.snd (HE.symm.trans hFT)), (o27_23 e_35), (Rel.fr (M := []) hR u_2 (by decide) (by decide)), (Hok.fr (M := []) hH u_2 (by decide))⟩ dX11_price_25
  · -- 6
    replace HE : FT = g4_X11_price (xso SC ad ws_1) := HE.trans (if_pos c_10)
    refine y_c2 (n := (-2)) C0 (by decide) dX11_price_9 (fun v_36 e_37 => ?_)
    replace HE : FT = ((xso SC ad ws_1), v_36.toInt) := HE.trans (by rw [e_37]; rfl)
    rw [hQ]
    exact y_iret C0 h (Fr.mono u_2 (by decide)) ⟨(congrArg Prod.fst (HE.symm.trans hFT)), (congrArg Prod.snd (HE.symm.trans hFT)), (o27_29 e_37), (Rel.fr (M := []) hR u_2 (by decide) (by decide)), (Hok.fr (M := []) hH u_2 (by decide))⟩ dX11_price_11
noncomputable def g1c_X11_why (s : XS) (r_4 : Int) : XR := (s, r_4)
noncomputable def f_X11_why (s : XS) (a1 : Int) (a2 : Int) : XR := g1c_X11_why ((f_X0_hindrance s 1 a1 a2).1) (((f_X0_hindrance s 1 a1 a2).2))
set_option maxHeartbeats 4000000 in
set_option maxRecDepth 100000 in
theorem c_X11_why (l : Launch) (G : GG) (Z : RZ) (ad : Nat → Nat) (ws0 : va_W) (hT : Ty G SC ad ws0) (a1 : Int32) (a2 : Int32) (hR : Rel ws0) (hH : Hok ws0) : Mq l yX11_why cX11_why 3 (some .int) 4 G Z [.ref (ad 0), .int a1, .int a2] ws0 (PI G SC ad [4, 5] ws0 (fun r u => (xso SC ad u = (f_X11_why (xso SC ad ws0) a1.toInt a2.toInt).1) ∧ (r.toInt = (f_X11_why (xso SC ad ws0) a1.toInt a2.toInt).2) ∧ (0 ≤ r.toInt) ∧ (r.toInt ≤ 4) ∧ (Rel u) ∧ (Hok u))) := by
  refine Mq.start (by decide) (Nat.le_of_ble_eq_true rfl) ?_
  intro p e s m below meth c A ls C0 hZ h hl
  have hl : lv_has ls 3 [(0, .ref (ad 0)), (1, .int a1), (2, .int a2)] := hl
  have h : Wt G SC ad A s s.heap [] ws0 := ⟨h, hT⟩
  obtain ⟨args, hargs⟩ : ∃ z, z = ([.ref (ad 0), .int a1, .int a2] : List Value).toArray := ⟨_, rfl⟩
  rw [← hargs] at C0 ⊢
  have C0 : Cx p s m args meth c RX11 cX11_why 3 (some .int) := C0
  obtain ⟨Q, hQ⟩ : ∃ z, z = MQ below ((PI G SC ad [4, 5] ws0 (fun r u => (xso SC ad u = (f_X11_why (xso SC ad ws0) a1.toInt a2.toInt).1) ∧ (r.toInt = (f_X11_why (xso SC ad ws0) a1.toInt a2.toInt).2) ∧ (0 ≤ r.toInt) ∧ (r.toInt ≤ 4) ∧ (Rel u) ∧ (Hok u))) A) args s 0 0 A := ⟨_, rfl⟩
  rw [← hQ]
  obtain ⟨FT, hFT⟩ : ∃ z, z = f_X11_why (xso SC ad ws0) a1.toInt a2.toInt := ⟨_, rfl⟩
  have HE : FT = f_X11_why (xso SC ad ws0) a1.toInt a2.toInt := hFT
  refine lv_aload_n C0.1 C0.2.1 dX11_why_0 rfl (lv_at hl 0 rfl) ?_
  refine tg_X11_now C0 h kSC_0 q_515 dX11_why_1 ?_
  refine lv_iload_n C0.1 C0.2.1 dX11_why_4 rfl (lv_at hl 1 rfl) ?_
  refine lv_iload_n C0.1 C0.2.1 dX11_why_5 rfl (lv_at hl 2 rfl) ?_
  refine y_ci h (y_rV (As := [.int a1, .int a2]) (rest := []) C0 hZ h (c_X0_hindrance l G Z ad _ h.2 1 kSC_1 a1 a2 hR) k_X0_hindrance q_965 q_966 q_964 kSC_1 rfl rfl rfl hl.1 rfl rfl (Nat.le_of_ble_eq_true rfl) dX11_why_6 ⟨Nat.le_of_ble_eq_true rfl, Nat.le_of_ble_eq_true rfl⟩ ⟨Nat.le_of_ble_eq_true rfl, Nat.le_of_ble_eq_true rfl⟩) (fun r_4 H locs ws_1 h u_2 p_3 => ?_)
  obtain ⟨e_5, e_6, e_7, e_8, e_9, e_10⟩ := p_3
  replace HE : FT = g1c_X11_why (xso SC ad ws_1) r_4.toInt := HE.trans (by rw [e_5, e_6]; rfl)
  replace HE : FT = ((xso SC ad ws_1), r_4.toInt) := HE.trans rfl
  rw [hQ]
  exact y_iret C0 h u_2 ⟨(congrArg Prod.fst (HE.symm.trans hFT)), (congrArg Prod.snd (HE.symm.trans hFT)), (o27_30 e_7 e_8 e_9), (o27_31 e_7 e_8 e_9), (Rel.fr (M := [4, 5]) hR u_2 (by decide) (by decide)), (Hok.fr (M := [4, 5]) hH u_2 (by decide))⟩ dX11_why_9
noncomputable def g7c_X11_go (s : XS) (a1 : Int) : XR := (s, (s 1 11 (Int.toNat a1)))
noncomputable def g6c_X11_go (s : XS) (r_20 : Int) (a1 : Int) : XR := g7c_X11_go ((f_X2_forget s).1) a1
noncomputable def g5c_X11_go (s : XS) (a1 : Int) (a2 : Int) : XR := g6c_X11_go ((f_X0_step s 1 a1 a2).1) (((f_X0_step s 1 a1 a2).2)) a1
noncomputable def g3_X11_go (s : XS) (a1 : Int) (a2 : Int) : XR := g5c_X11_go ((f_X11_keep s 10).1) a1 a2
noncomputable def g4_X11_go (s : XS) (r_4 : Int) : XR := (s, (((-10)) - r_4))
noncomputable def g2b_X11_go (s : XS) (r_4 : Int) (a1 : Int) (a2 : Int) : XR := if r_4 = 0 then g3_X11_go s a1 a2 else g4_X11_go s r_4
noncomputable def g1c_X11_go (s : XS) (r_4 : Int) (a1 : Int) (a2 : Int) : XR := g2b_X11_go s r_4 a1 a2
noncomputable def f_X11_go (s : XS) (a1 : Int) (a2 : Int) : XR := g1c_X11_go ((f_X0_hindrance s 1 a1 a2).1) (((f_X0_hindrance s 1 a1 a2).2)) a1 a2
set_option maxHeartbeats 4000000 in
set_option maxRecDepth 100000 in
theorem c_X11_go (l : Launch) (G : GG) (Z : RZ) (ad : Nat → Nat) (ws0 : va_W) (hT : Ty G SC ad ws0) (a1 : Int32) (a2 : Int32) (hR : Rel ws0) (hH : Hok ws0) : Mq l yX11_go cX11_go 4 (some .int) 4 G Z [.ref (ad 0), .int a1, .int a2] ws0 (PI G SC ad [0, 4, 5, 6, 7, 8, 9, 10, 11, 12, 13, 18] ws0 (fun r u => (xso SC ad u = (f_X11_go (xso SC ad ws0) a1.toInt a2.toInt).1) ∧ (r.toInt = (f_X11_go (xso SC ad ws0) a1.toInt a2.toInt).2) ∧ ((-14) ≤ r.toInt) ∧ (r.toInt ≤ 24) ∧ (Rel u) ∧ (Hok u))) := by
  refine Mq.start (by decide) (Nat.le_of_ble_eq_true rfl) ?_
  intro p e s m below meth c A ls C0 hZ h hl
  have hl : lv_has ls 4 [(0, .ref (ad 0)), (1, .int a1), (2, .int a2)] := hl
  have h : Wt G SC ad A s s.heap [] ws0 := ⟨h, hT⟩
  obtain ⟨args, hargs⟩ : ∃ z, z = ([.ref (ad 0), .int a1, .int a2] : List Value).toArray := ⟨_, rfl⟩
  rw [← hargs] at C0 ⊢
  have C0 : Cx p s m args meth c RX11 cX11_go 4 (some .int) := C0
  obtain ⟨Q, hQ⟩ : ∃ z, z = MQ below ((PI G SC ad [0, 4, 5, 6, 7, 8, 9, 10, 11, 12, 13, 18] ws0 (fun r u => (xso SC ad u = (f_X11_go (xso SC ad ws0) a1.toInt a2.toInt).1) ∧ (r.toInt = (f_X11_go (xso SC ad ws0) a1.toInt a2.toInt).2) ∧ ((-14) ≤ r.toInt) ∧ (r.toInt ≤ 24) ∧ (Rel u) ∧ (Hok u))) A) args s 0 0 A := ⟨_, rfl⟩
  rw [← hQ]
  obtain ⟨FT, hFT⟩ : ∃ z, z = f_X11_go (xso SC ad ws0) a1.toInt a2.toInt := ⟨_, rfl⟩
  have HE : FT = f_X11_go (xso SC ad ws0) a1.toInt a2.toInt := hFT
  refine lv_aload_n C0.1 C0.2.1 dX11_go_0 rfl (lv_at hl 0 rfl) ?_
  refine tg_X11_now C0 h kSC_0 q_515 dX11_go_1 ?_
  refine lv_iload_n C0.1 C0.2.1 dX11_go_4 rfl (lv_at hl 1 rfl) ?_
  refine lv_iload_n C0.1 C0.2.1 dX11_go_5 rfl (lv_at hl 2 rfl) ?_
  refine y_ci h (y_rV (As := [.int a1, .int a2]) (rest := []) C0 hZ h (c_X0_hindrance l G Z ad _ h.2 1 kSC_1 a1 a2 hR) k_X0_hindrance q_965 q_966 q_964 kSC_1 rfl rfl rfl hl.1 rfl rfl (Nat.le_of_ble_eq_true rfl) dX11_go_6 ⟨Nat.le_of_ble_eq_true rfl, Nat.le_of_ble_eq_true rfl⟩ ⟨Nat.le_of_ble_eq_true rfl, Nat.le_of_ble_eq_true rfl⟩) (fun r_4 H locs ws_1 h u_2 p_3 => ?_)
  obtain ⟨e_5, e_6, e_7, e_8, e_9, e_10⟩ := p_3
  replace HE : FT = g1c_X11_go (xso SC ad ws_1) r_4.toInt a1.toInt a2.toInt := HE.trans (by rw [e_5, e_6]; rfl)
  refine lv_istore_n (lv' := [(3, .int r_4), (0, .ref (ad 0)), (1, .int a1), (2, .int a2)]) C0.1 C0.2.1 dX11_go_9 rfl hl (by decide) rfl (fun ls hl => ?_)
  refine lv_iload_n C0.1 C0.2.1 dX11_go_10 rfl (lv_at hl 0 rfl) ?_
  replace HE : FT = g2b_X11_go (xso SC ad ws_1) r_4.toInt a1.toInt a2.toInt := HE.trans rfl
  refine y_if_eq (tgt := 19) C0 dX11_go_11 (by decide) (fun c_11 => ?_) (fun c_11 => ?_)
  · -- 11
    replace HE : FT = g3_X11_go (xso SC ad ws_1) a1.toInt a2.toInt := HE.trans (if_pos c_11)
    refine lv_aload_n C0.1 C0.2.1 dX11_go_19 rfl (lv_at hl 1 rfl) ?_
    refine lv_aload_n C0.1 C0.2.1 dX11_go_20 rfl (lv_at hl 1 rfl) ?_
    refine tg_X11_now C0 h kSC_0 q_515 dX11_go_21 ?_
    refine tg_X0_folk C0 h kSC_1 q_249 dX11_go_24 ?_
    refine y_cv h (y_rV (As := [.ref (ad 10)]) (rest := []) C0 hZ h (c_X11_keep l G Z ad _ h.2 10 kSC_10) k_X11_keep q_985 q_27 q_983 kSC_0 rfl rfl rfl hl.1 rfl rfl (Nat.le_of_ble_eq_true rfl) dX11_go_27 ⟨Nat.le_of_ble_eq_true rfl, Nat.le_of_ble_eq_true rfl⟩ ⟨Nat.le_of_ble_eq_true rfl, Nat.le_of_ble_eq_true rfl⟩) (fun H locs ws_12 h u_13 p_14 => ?_)
    obtain ⟨e_15, e_16⟩ := p_14
    replace HE : FT = g5c_X11_go (xso SC ad ws_12) a1.toInt a2.toInt := HE.trans (by rw [e_15]; rfl)
    refine lv_aload_n C0.1 C0.2.1 dX11_go_30 rfl (lv_at hl 1 rfl) ?_
    refine tg_X11_now C0 h kSC_0 q_515 dX11_go_31 ?_
    refine lv_iload_n C0.1 C0.2.1 dX11_go_34 rfl (lv_at hl 2 rfl) ?_
    refine lv_iload_n C0.1 C0.2.1 dX11_go_35 rfl (lv_at hl 3 rfl) ?_
    refine y_ci h (y_rV (As := [.int a1, .int a2]) (rest := []) C0 hZ h (c_X0_step l G Z ad _ h.2 1 kSC_1 a1 a2 (o27_32 e_7 e_8 e_9 c_11) (o27_33 e_7 e_8 e_9 c_11) (o27_34 e_7 e_8 e_9 c_11) (o27_35 e_7 e_8 e_9 c_11) (Rel.fr (M := [0, 4, 5, 6, 7, 8, 9, 10, 11, 12, 13]) hR (Fr.tr (Fr.mono u_2 (by decide)) (Fr.mono u_13 (by decide))) (by decide) (by decide)) ((CanGo.of (e_16 11 (by decide) (by decide)) (e_16 12 (by decide) (by decide)) (e_16 18 (by decide) (by decide)) (CanGo.fr u_2 kSC_1 (by decide) (by decide) (by decide) (e_10 (o27_36 e_7 e_8 e_9 c_11)))))) k_X0_step q_989 q_990 q_988 kSC_1 rfl rfl rfl hl.1 rfl rfl (Nat.le_of_ble_eq_true rfl) dX11_go_36 ⟨Nat.le_of_ble_eq_true rfl, Nat.le_of_ble_eq_true rfl⟩ ⟨Nat.le_of_ble_eq_true rfl, Nat.le_of_ble_eq_true rfl⟩) (fun r_20 H locs ws_17 h u_18 p_19 => ?_)
    obtain ⟨e_21, e_22, e_23, e_24⟩ := p_19
    replace HE : FT = g6c_X11_go (xso SC ad ws_17) r_20.toInt a1.toInt := HE.trans (by rw [e_21, e_22]; rfl)
    refine lv_pop C0.1 C0.2.1 dX11_go_39 rfl ?_
    refine lv_aload_n C0.1 C0.2.1 dX11_go_40 rfl (lv_at hl 1 rfl) ?_
    refine tg_X11_forecast C0 h kSC_0 q_518 dX11_go_41 ?_
    refine y_cv h (y_rV (As := []) (rest := []) C0 hZ h (c_X2_forget l G Z ad _ h.2) k_X2_forget q_878 q_879 q_877 kSC_79 rfl rfl rfl hl.1 rfl rfl (Nat.le_of_ble_eq_true rfl) dX11_go_44 ⟨Nat.le_of_ble_eq_true rfl, Nat.le_of_ble_eq_true rfl⟩ ⟨Nat.le_of_ble_eq_true rfl, Nat.le_of_ble_eq_true rfl⟩) (fun H locs ws_25 h u_26 p_27 => ?_)
    have e_28 := p_27
    replace HE : FT = g7c_X11_go (xso SC ad ws_25) a1.toInt := HE.trans (by rw [e_28]; rfl)
    refine lv_aload_n C0.1 C0.2.1 dX11_go_47 rfl (lv_at hl 1 rfl) ?_
    refine tg_X11_now C0 h kSC_0 q_515 dX11_go_48 ?_
    refine tg_X0_folk C0 h kSC_1 q_249 dX11_go_51 ?_
    refine tg_X1_at C0 h kSC_10 q_191 dX11_go_54 ?_
    refine lv_iload_n C0.1 C0.2.1 dX11_go_57 rfl (lv_at hl 2 rfl) ?_
    refine y_iald C0 h kSC_11 rfl (by decide) (o27_32 e_7 e_8 e_9 c_11) (o27_37 e_7 e_8 e_9 c_11) dX11_go_58 (fun v_29 e_30 e_31 e_32 => ?_)
    replace HE : FT = ((xso SC ad ws_25), v_29.toInt) := HE.trans (by rw [(xg1 e_30 : v_29.toInt = (xso SC ad ws_25) 1 11 a1.toInt.toNat)]; rfl)
    rw [hQ]
    exact y_iret C0 h (Fr.tr (Fr.tr (Fr.tr (Fr.mono u_2 (by decide)) (Fr.mono u_13 (by decide))) (Fr.mono u_18 (by decide))) (Fr.mono u_26 (by decide))) ⟨(congrArg Prod.fst (HE.symm.trans hFT)), (congrArg Prod.snd (HE.symm.trans hFT)), (o27_38 e_31 e_32), (o27_39 e_31 e_32), (Rel.fr (M := [0, 4, 5, 6, 7, 8, 9, 10, 11, 12, 13, 18]) hR (Fr.tr (Fr.tr (Fr.tr (Fr.mono u_2 (by decide)) (Fr.mono u_13 (by decide))) (Fr.mono u_18 (by decide))) (Fr.mono u_26 (by decide))) (by decide) (by decide)), (Hok.fr (M := [0, 4, 5, 6, 7, 8, 9, 10, 11, 12, 13, 18]) hH (Fr.tr (Fr.tr (Fr.tr (Fr.mono u_2 (by decide)) (Fr.mono u_13 (by decide))) (Fr.mono u_18 (by decide))) (Fr.mono u_26 (by decide))) (by decide))⟩ dX11_go_59
  · -- 11
    replace HE : FT = g4_X11_go (xso SC ad ws_1) r_4.toInt := HE.trans (if_neg c_11)
    refine y_c2 (n := (-10)) C0 (by decide) dX11_go_14 (fun v_33 e_34 => ?_)
    refine lv_iload_n C0.1 C0.2.1 dX11_go_16 rfl (lv_at hl 0 rfl) ?_
    refine y_sub C0 (o27_40 e_7 e_8 e_9 c_11 e_34 (le_min v_33) (le_max v_33) (le_min r_4) (le_max r_4) (le_min a1) (le_max a1) (le_min a2) (le_max a2)) (o27_41 e_7 e_8 e_9 c_11 e_34 (le_min v_33) (le_max v_33) (le_min r_4) (le_max r_4) (le_min a1) (le_max a1) (le_min a2) (le_max a2)) dX11_go_17 (fun v_35 e_36 => ?_)
    replace HE : FT = ((xso SC ad ws_1), v_35.toInt) := HE.trans (by rw [e_36, e_34]; rfl)
    rw [hQ]
    exact y_iret C0 h (Fr.mono u_2 (by decide)) ⟨(congrArg Prod.fst (HE.symm.trans hFT)), (congrArg Prod.snd (HE.symm.trans hFT)), (o27_42 e_7 e_8 e_9 c_11 e_34 e_36), (o27_43 e_7 e_8 e_9 c_11 e_34 e_36), (Rel.fr (M := [4, 5]) hR u_2 (by decide) (by decide)), (Hok.fr (M := [4, 5]) hH u_2 (by decide))⟩ dX11_go_18
noncomputable def g3_X11_judge (s : XS) : XR := (s, ((-2)))
noncomputable def g6_X11_judge (s : XS) : XR := (s, ((-2)))
noncomputable def g16c_X11_judge (s : XS) (a2 : Int) : XR := (s, (s 1 207 (Int.toNat a2)))
noncomputable def g15c_X11_judge (s : XS) (r_34 : Int) (a2 : Int) : XR := g16c_X11_judge ((f_X1_copy s 10 199).1) a2
noncomputable def g14c_X11_judge (s : XS) (a1 : Int) (a2 : Int) : XR := g15c_X11_judge ((f_X11_goWalk s (107 + 2 * Int.toNat a1)).1) (((f_X11_goWalk s (107 + 2 * Int.toNat a1)).2)) a2
noncomputable def g12_X11_judge (s : XS) (a1 : Int) (a2 : Int) : XR := g14c_X11_judge ((f_X1_copy s 199 10).1) a1 a2
noncomputable def g13_X11_judge (s : XS) : XR := (s, ((-6)))
noncomputable def g11b_X11_judge (s : XS) (v_20 : Int) (a1 : Int) (a2 : Int) : XR := if v_20 < 0 then g13_X11_judge s else g12_X11_judge s a1 a2
noncomputable def g9_X11_judge (s : XS) (a1 : Int) (a2 : Int) : XR := g11b_X11_judge s ((s 0 (107 + 2 * Int.toNat a1) 2)) a1 a2
noncomputable def g10_X11_judge (s : XS) : XR := (s, ((-2)))
noncomputable def g8b_X11_judge (s : XS) (a2 : Int) (a1 : Int) : XR := if a2 < 4 then g9_X11_judge s a1 a2 else g10_X11_judge s
noncomputable def g7_X11_judge (s : XS) (a1 : Int) (a2 : Int) : XR := g8b_X11_judge s a2 a1
noncomputable def g5b_X11_judge (s : XS) (a2 : Int) (a1 : Int) : XR := if a2 < 0 then g6_X11_judge s else g7_X11_judge s a1 a2
noncomputable def g4_X11_judge (s : XS) (a1 : Int) (a2 : Int) : XR := g5b_X11_judge s a2 a1
noncomputable def g2b_X11_judge (s : XS) (r_4 : Int) (a1 : Int) (a2 : Int) : XR := if r_4 = 0 then g3_X11_judge s else g4_X11_judge s a1 a2
noncomputable def g1c_X11_judge (s : XS) (r_4 : Int) (a1 : Int) (a2 : Int) : XR := g2b_X11_judge s r_4 a1 a2
noncomputable def f_X11_judge (s : XS) (a1 : Int) (a2 : Int) : XR := g1c_X11_judge ((f_X11_isTray s a1).1) (((f_X11_isTray s a1).2)) a1 a2
set_option maxHeartbeats 4000000 in
set_option maxRecDepth 100000 in
theorem c_X11_judge (l : Launch) (G : GG) (Z : RZ) (ad : Nat → Nat) (ws0 : va_W) (hT : Ty G SC ad ws0) (a1 : Int32) (a2 : Int32) (hR : Rel ws0) (hH : Hok ws0) : Mq l yX11_judge cX11_judge 3 (some .int) 5 G Z [.ref (ad 0), .int a1, .int a2] ws0 (PI G SC ad [4, 5, 6, 7, 8, 9, 10, 11, 12, 13, 48] ws0 (fun r u => (xso SC ad u = (f_X11_judge (xso SC ad ws0) a1.toInt a2.toInt).1) ∧ (r.toInt = (f_X11_judge (xso SC ad ws0) a1.toInt a2.toInt).2) ∧ (Rel u) ∧ (Hok u))) := by
  refine Mq.start (by decide) (Nat.le_of_ble_eq_true rfl) ?_
  intro p e s m below meth c A ls C0 hZ h hl
  have hl : lv_has ls 3 [(0, .ref (ad 0)), (1, .int a1), (2, .int a2)] := hl
  have h : Wt G SC ad A s s.heap [] ws0 := ⟨h, hT⟩
  obtain ⟨args, hargs⟩ : ∃ z, z = ([.ref (ad 0), .int a1, .int a2] : List Value).toArray := ⟨_, rfl⟩
  rw [← hargs] at C0 ⊢
  have C0 : Cx p s m args meth c RX11 cX11_judge 3 (some .int) := C0
  obtain ⟨Q, hQ⟩ : ∃ z, z = MQ below ((PI G SC ad [4, 5, 6, 7, 8, 9, 10, 11, 12, 13, 48] ws0 (fun r u => (xso SC ad u = (f_X11_judge (xso SC ad ws0) a1.toInt a2.toInt).1) ∧ (r.toInt = (f_X11_judge (xso SC ad ws0) a1.toInt a2.toInt).2) ∧ (Rel u) ∧ (Hok u))) A) args s 0 0 A := ⟨_, rfl⟩
  rw [← hQ]
  obtain ⟨FT, hFT⟩ : ∃ z, z = f_X11_judge (xso SC ad ws0) a1.toInt a2.toInt := ⟨_, rfl⟩
  have HE : FT = f_X11_judge (xso SC ad ws0) a1.toInt a2.toInt := hFT
  refine lv_iload_n C0.1 C0.2.1 dX11_judge_0 rfl (lv_at hl 1 rfl) ?_
  refine y_ci h (y_rS (As := [.int a1]) (rest := []) C0 hZ h (c_X11_isTray l G Z ad _ h.2 a1) k_X11_isTray q_998 q_997 hl.1 rfl rfl (Nat.le_of_ble_eq_true rfl) dX11_judge_1 ⟨Nat.le_of_ble_eq_true rfl, Nat.le_of_ble_eq_true rfl⟩ ⟨Nat.le_of_ble_eq_true rfl, Nat.le_of_ble_eq_true rfl⟩) (fun r_4 H locs ws_1 h u_2 p_3 => ?_)
  obtain ⟨e_5, e_6, e_7, e_8, e_9⟩ := p_3
  replace HE : FT = g1c_X11_judge (xso SC ad ws_1) r_4.toInt a1.toInt a2.toInt := HE.trans (by rw [e_5, e_6]; rfl)
  replace HE : FT = g2b_X11_judge (xso SC ad ws_1) r_4.toInt a1.toInt a2.toInt := HE.trans rfl
  refine y_if_eq (tgt := 20) C0 dX11_judge_4 (by decide) (fun c_10 => ?_) (fun c_10 => ?_)
  · -- 4
    replace HE : FT = g3_X11_judge (xso SC ad ws_1) := HE.trans (if_pos c_10)
    refine y_c2 (n := (-2)) C0 (by decide) dX11_judge_20 (fun v_11 e_12 => ?_)
    replace HE : FT = ((xso SC ad ws_1), v_11.toInt) := HE.trans (by rw [e_12]; rfl)
    rw [hQ]
    exact y_iret C0 h (Fr.mono u_2 (by decide)) ⟨(congrArg Prod.fst (HE.symm.trans hFT)), (congrArg Prod.snd (HE.symm.trans hFT)), (Rel.fr (M := []) hR u_2 (by decide) (by decide)), (Hok.fr (M := []) hH u_2 (by decide))⟩ dX11_judge_22
  · -- 4
    replace HE : FT = g4_X11_judge (xso SC ad ws_1) a1.toInt a2.toInt := HE.trans (if_neg c_10)
    refine lv_iload_n C0.1 C0.2.1 dX11_judge_7 rfl (lv_at hl 2 rfl) ?_
    replace HE : FT = g5b_X11_judge (xso SC ad ws_1) a2.toInt a1.toInt := HE.trans rfl
    refine y_if_lt (tgt := 20) C0 dX11_judge_8 (by decide) (fun c_13 => ?_) (fun c_13 => ?_)
    · -- 8
      replace HE : FT = g6_X11_judge (xso SC ad ws_1) := HE.trans (if_pos c_13)
      refine y_c2 (n := (-2)) C0 (by decide) dX11_judge_20 (fun v_14 e_15 => ?_)
      replace HE : FT = ((xso SC ad ws_1), v_14.toInt) := HE.trans (by rw [e_15]; rfl)
      rw [hQ]
      exact y_iret C0 h (Fr.mono u_2 (by decide)) ⟨(congrArg Prod.fst (HE.symm.trans hFT)), (congrArg Prod.snd (HE.symm.trans hFT)), (Rel.fr (M := []) hR u_2 (by decide) (by decide)), (Hok.fr (M := []) hH u_2 (by decide))⟩ dX11_judge_22
    · -- 8
      replace HE : FT = g7_X11_judge (xso SC ad ws_1) a1.toInt a2.toInt := HE.trans (if_neg (Int.not_lt.mpr c_13))
      refine lv_iload_n C0.1 C0.2.1 dX11_judge_11 rfl (lv_at hl 2 rfl) ?_
      refine lv_aload_n C0.1 C0.2.1 dX11_judge_12 rfl (lv_at hl 0 rfl) ?_
      refine tg_X11_walked C0 h kSC_0 q_529 dX11_judge_13 ?_
      refine y_alenI (cA := G.2 0) C0 h kSC_207 rfl rfl (by decide) dX11_judge_16 (fun v_16 e_17 => ?_)
      replace HE : FT = g8b_X11_judge (xso SC ad ws_1) a2.toInt a1.toInt := HE.trans rfl
      refine y_icmp_lt (tgt := 23) C0 dX11_judge_17 (by decide) (fun c_18 => ?_) (fun c_18 => ?_)
      · -- 17
        replace HE : FT = g9_X11_judge (xso SC ad ws_1) a1.toInt a2.toInt := HE.trans (if_pos (o27_45 c_13 e_17 c_18))
        refine lv_aload_n C0.1 C0.2.1 dX11_judge_23 rfl (lv_at hl 0 rfl) ?_
        refine tg_X11_trays C0 h kSC_0 q_524 dX11_judge_24 ?_
        refine lv_iload_n C0.1 C0.2.1 dX11_judge_27 rfl (lv_at hl 1 rfl) ?_
        refine y_aald C0 h kSC_115 rfl rfl (by decide) (o27_47 e_7 e_8 e_9 c_10) (o27_48 e_7 e_8 e_9 c_10) dX11_judge_28 ?_
        obtain ⟨i_19, hi_19, ei_19⟩ : ∃ j : Nat, Kd SC j 42 ∧ j = 107 + 2 * a1.toInt.toNat := ⟨_, aSC_44 (o27_49 e_7 e_8 e_9 c_10), rfl⟩
        rw [← ei_19]
        refine tg_X10_size C0 h hi_19 q_502 dX11_judge_29 (fun v_20 e_21 e_22 e_23 => ?_)
        replace HE : FT = g11b_X11_judge (xso SC ad ws_1) v_20.toInt a1.toInt a2.toInt := HE.trans (by rw [(xg0 e_21 : v_20.toInt = (xso SC ad ws_1) 0 i_19 2), ei_19]; rfl)
        refine y_if_ge (tgt := 38) C0 dX11_judge_32 (by decide) (fun c_24 => ?_) (fun c_24 => ?_)
        · -- 32
          replace HE : FT = g12_X11_judge (xso SC ad ws_1) a1.toInt a2.toInt := HE.trans (if_neg (Int.not_lt.mpr c_24))
          refine lv_aload_n C0.1 C0.2.1 dX11_judge_38 rfl (lv_at hl 0 rfl) ?_
          refine tg_X11_before C0 h kSC_0 q_528 dX11_judge_39 ?_
          refine lv_aload_n C0.1 C0.2.1 dX11_judge_42 rfl (lv_at hl 0 rfl) ?_
          refine tg_X11_now C0 h kSC_0 q_515 dX11_judge_43 ?_
          refine tg_X0_folk C0 h kSC_1 q_249 dX11_judge_46 ?_
          refine y_cv h (y_rV (As := [.ref (ad 10)]) (rest := []) C0 hZ h (c_X1_copy l G Z ad _ h.2 199 kSC_199 10 kSC_10) k_X1_copy q_868 q_869 q_987 kSC_199 rfl rfl rfl hl.1 rfl rfl (Nat.le_of_ble_eq_true rfl) dX11_judge_49 ⟨Nat.le_of_ble_eq_true rfl, Nat.le_of_ble_eq_true rfl⟩ ⟨Nat.le_of_ble_eq_true rfl, Nat.le_of_ble_eq_true rfl⟩) (fun H locs ws_25 h u_26 p_27 => ?_)
          obtain ⟨e_28, e_29⟩ := p_27
          replace HE : FT = g14c_X11_judge (xso SC ad ws_25) a1.toInt a2.toInt := HE.trans (by rw [e_28]; rfl)
          refine lv_aload_n C0.1 C0.2.1 dX11_judge_52 rfl (lv_at hl 0 rfl) ?_
          refine lv_aload_n C0.1 C0.2.1 dX11_judge_53 rfl (lv_at hl 0 rfl) ?_
          refine tg_X11_trays C0 h kSC_0 q_524 dX11_judge_54 ?_
          refine lv_iload_n C0.1 C0.2.1 dX11_judge_57 rfl (lv_at hl 1 rfl) ?_
          refine y_aald C0 h kSC_115 rfl rfl (by decide) (o27_47 e_7 e_8 e_9 c_10) (o27_48 e_7 e_8 e_9 c_10) dX11_judge_58 ?_
          obtain ⟨i_30, hi_30, ei_30⟩ : ∃ j : Nat, Kd SC j 42 ∧ j = 107 + 2 * a1.toInt.toNat := ⟨_, aSC_44 (o27_49 e_7 e_8 e_9 c_10), rfl⟩
          rw [← ei_30]
          refine y_ci h (y_rV (As := [.ref (ad i_30)]) (rest := []) C0 hZ h (c_X11_goWalk l G Z ad _ h.2 i_30 hi_30 (Rel.fr (M := [6, 7, 8, 9, 10, 11, 12, 13]) hR (Fr.tr (Fr.mono u_2 (by decide)) u_26) (by decide) (by decide))) k_X11_goWalk q_1002 q_28 q_1000 kSC_0 rfl rfl rfl hl.1 rfl rfl (Nat.le_of_ble_eq_true rfl) dX11_judge_59 ⟨Nat.le_of_ble_eq_true rfl, Nat.le_of_ble_eq_true rfl⟩ ⟨Nat.le_of_ble_eq_true rfl, Nat.le_of_ble_eq_true rfl⟩) (fun r_34 H locs ws_31 h u_32 p_33 => ?_)
          obtain ⟨e_35, e_36⟩ := p_33
          replace HE : FT = g15c_X11_judge (xso SC ad ws_31) r_34.toInt a2.toInt := HE.trans (by rw [e_35, e_36, ei_30]; rfl)
          refine lv_pop C0.1 C0.2.1 dX11_judge_62 rfl ?_
          refine lv_aload_n C0.1 C0.2.1 dX11_judge_63 rfl (lv_at hl 0 rfl) ?_
          refine tg_X11_now C0 h kSC_0 q_515 dX11_judge_64 ?_
          refine tg_X0_folk C0 h kSC_1 q_249 dX11_judge_67 ?_
          refine lv_aload_n C0.1 C0.2.1 dX11_judge_70 rfl (lv_at hl 0 rfl) ?_
          refine tg_X11_before C0 h kSC_0 q_528 dX11_judge_71 ?_
          refine y_cv h (y_rV (As := [.ref (ad 199)]) (rest := []) C0 hZ h (c_X1_copy l G Z ad _ h.2 10 kSC_10 199 kSC_199) k_X1_copy q_868 q_869 q_987 kSC_10 rfl rfl rfl hl.1 rfl rfl (Nat.le_of_ble_eq_true rfl) dX11_judge_74 ⟨Nat.le_of_ble_eq_true rfl, Nat.le_of_ble_eq_true rfl⟩ ⟨Nat.le_of_ble_eq_true rfl, Nat.le_of_ble_eq_true rfl⟩) (fun H locs ws_37 h u_38 p_39 => ?_)
          obtain ⟨e_40, e_41⟩ := p_39
          replace HE : FT = g16c_X11_judge (xso SC ad ws_37) a2.toInt := HE.trans (by rw [e_40]; rfl)
          refine lv_aload_n C0.1 C0.2.1 dX11_judge_77 rfl (lv_at hl 0 rfl) ?_
          refine tg_X11_walked C0 h kSC_0 q_529 dX11_judge_78 ?_
          refine lv_iload_n C0.1 C0.2.1 dX11_judge_81 rfl (lv_at hl 2 rfl) ?_
          refine y_iald C0 h kSC_207 rfl (by decide) (o27_50 c_13 e_17 c_18) (o27_51 c_13 e_17 c_18) dX11_judge_82 (fun v_42 e_43 e_44 e_45 => ?_)
          replace HE : FT = ((xso SC ad ws_37), v_42.toInt) := HE.trans (by rw [(xg1 e_43 : v_42.toInt = (xso SC ad ws_37) 1 207 a2.toInt.toNat)]; rfl)
          rw [hQ]
          exact y_iret C0 h (Fr.tr (Fr.tr (Fr.tr (Fr.mono u_2 (by decide)) (Fr.mono u_26 (by decide))) (Fr.mono u_32 (by decide))) (Fr.mono u_38 (by decide))) ⟨(congrArg Prod.fst (HE.symm.trans hFT)), (congrArg Prod.snd (HE.symm.trans hFT)), (Rel.fr (M := [4, 5, 6, 7, 8, 9, 10, 11, 12, 13, 48]) hR (Fr.tr (Fr.tr (Fr.tr (Fr.mono u_2 (by decide)) (Fr.mono u_26 (by decide))) (Fr.mono u_32 (by decide))) (Fr.mono u_38 (by decide))) (by decide) (by decide)), (Hok.fr (M := [4, 5, 6, 7, 8, 9, 10, 11, 12, 13, 48]) hH (Fr.tr (Fr.tr (Fr.tr (Fr.mono u_2 (by decide)) (Fr.mono u_26 (by decide))) (Fr.mono u_32 (by decide))) (Fr.mono u_38 (by decide))) (by decide))⟩ dX11_judge_83
        · -- 32
          replace HE : FT = g13_X11_judge (xso SC ad ws_1) := HE.trans (if_pos c_24)
          refine y_c2 (n := (-6)) C0 (by decide) dX11_judge_35 (fun v_46 e_47 => ?_)
          replace HE : FT = ((xso SC ad ws_1), v_46.toInt) := HE.trans (by rw [e_47]; rfl)
          rw [hQ]
          exact y_iret C0 h (Fr.mono u_2 (by decide)) ⟨(congrArg Prod.fst (HE.symm.trans hFT)), (congrArg Prod.snd (HE.symm.trans hFT)), (Rel.fr (M := []) hR u_2 (by decide) (by decide)), (Hok.fr (M := []) hH u_2 (by decide))⟩ dX11_judge_37
      · -- 17
        replace HE : FT = g10_X11_judge (xso SC ad ws_1) := HE.trans (if_neg (o27_46 c_13 e_17 c_18))
        refine y_c2 (n := (-2)) C0 (by decide) dX11_judge_20 (fun v_48 e_49 => ?_)
        replace HE : FT = ((xso SC ad ws_1), v_48.toInt) := HE.trans (by rw [e_49]; rfl)
        rw [hQ]
        exact y_iret C0 h (Fr.mono u_2 (by decide)) ⟨(congrArg Prod.fst (HE.symm.trans hFT)), (congrArg Prod.snd (HE.symm.trans hFT)), (Rel.fr (M := []) hR u_2 (by decide) (by decide)), (Hok.fr (M := []) hH u_2 (by decide))⟩ dX11_judge_22
noncomputable def g11_X11_walk (s : XS) (r_26 : Int) : XR := (s, r_26)
noncomputable def g14c_X11_walk (s : XS) (r_26 : Int) : XR := (s, r_26)
noncomputable def g13c_X11_walk (s : XS) (r_26 : Int) : XR := g14c_X11_walk ((f_X2_forget s).1) r_26
noncomputable def g12_X11_walk (s : XS) (r_26 : Int) : XR := g13c_X11_walk ((f_X11_keep s 199).1) r_26
noncomputable def g10b_X11_walk (s : XS) (r_26 : Int) : XR := if 0 < r_26 then g12_X11_walk s r_26 else g11_X11_walk s r_26
noncomputable def g9c_X11_walk (s : XS) (r_26 : Int) : XR := g10b_X11_walk s r_26
noncomputable def g8c_X11_walk (s : XS) (a1 : Int) : XR := g9c_X11_walk ((f_X11_goWalk s (107 + 2 * Int.toNat a1)).1) (((f_X11_goWalk s (107 + 2 * Int.toNat a1)).2))
noncomputable def g6_X11_walk (s : XS) (a1 : Int) : XR := g8c_X11_walk ((f_X1_copy s 199 10).1) a1
noncomputable def g7_X11_walk (s : XS) : XR := (s, ((-6)))
noncomputable def g5b_X11_walk (s : XS) (v_12 : Int) (a1 : Int) : XR := if v_12 < 0 then g7_X11_walk s else g6_X11_walk s a1
noncomputable def g3_X11_walk (s : XS) (a1 : Int) : XR := g5b_X11_walk s ((s 0 (107 + 2 * Int.toNat a1) 2)) a1
noncomputable def g4_X11_walk (s : XS) : XR := (s, ((-2)))
noncomputable def g2b_X11_walk (s : XS) (r_4 : Int) (a1 : Int) : XR := if r_4 = 0 then g4_X11_walk s else g3_X11_walk s a1
noncomputable def g1c_X11_walk (s : XS) (r_4 : Int) (a1 : Int) : XR := g2b_X11_walk s r_4 a1
noncomputable def f_X11_walk (s : XS) (a1 : Int) : XR := g1c_X11_walk ((f_X11_isTray s a1).1) (((f_X11_isTray s a1).2)) a1
set_option maxHeartbeats 4000000 in
set_option maxRecDepth 100000 in
theorem c_X11_walk (l : Launch) (G : GG) (Z : RZ) (ad : Nat → Nat) (ws0 : va_W) (hT : Ty G SC ad ws0) (a1 : Int32) (hR : Rel ws0) (hH : Hok ws0) : Mq l yX11_walk cX11_walk 3 (some .int) 5 G Z [.ref (ad 0), .int a1] ws0 (PI G SC ad [0, 4, 5, 6, 7, 8, 9, 10, 11, 12, 13, 18, 48] ws0 (fun r u => (xso SC ad u = (f_X11_walk (xso SC ad ws0) a1.toInt).1) ∧ (r.toInt = (f_X11_walk (xso SC ad ws0) a1.toInt).2) ∧ (Rel u) ∧ (Hok u))) := by
  refine Mq.start (by decide) (Nat.le_of_ble_eq_true rfl) ?_
  intro p e s m below meth c A ls C0 hZ h hl
  have hl : lv_has ls 3 [(0, .ref (ad 0)), (1, .int a1)] := hl
  have h : Wt G SC ad A s s.heap [] ws0 := ⟨h, hT⟩
  obtain ⟨args, hargs⟩ : ∃ z, z = ([.ref (ad 0), .int a1] : List Value).toArray := ⟨_, rfl⟩
  rw [← hargs] at C0 ⊢
  have C0 : Cx p s m args meth c RX11 cX11_walk 3 (some .int) := C0
  obtain ⟨Q, hQ⟩ : ∃ z, z = MQ below ((PI G SC ad [0, 4, 5, 6, 7, 8, 9, 10, 11, 12, 13, 18, 48] ws0 (fun r u => (xso SC ad u = (f_X11_walk (xso SC ad ws0) a1.toInt).1) ∧ (r.toInt = (f_X11_walk (xso SC ad ws0) a1.toInt).2) ∧ (Rel u) ∧ (Hok u))) A) args s 0 0 A := ⟨_, rfl⟩
  rw [← hQ]
  obtain ⟨FT, hFT⟩ : ∃ z, z = f_X11_walk (xso SC ad ws0) a1.toInt := ⟨_, rfl⟩
  have HE : FT = f_X11_walk (xso SC ad ws0) a1.toInt := hFT
  refine lv_iload_n C0.1 C0.2.1 dX11_walk_0 rfl (lv_at hl 1 rfl) ?_
  refine y_ci h (y_rS (As := [.int a1]) (rest := []) C0 hZ h (c_X11_isTray l G Z ad _ h.2 a1) k_X11_isTray q_998 q_997 hl.1 rfl rfl (Nat.le_of_ble_eq_true rfl) dX11_walk_1 ⟨Nat.le_of_ble_eq_true rfl, Nat.le_of_ble_eq_true rfl⟩ ⟨Nat.le_of_ble_eq_true rfl, Nat.le_of_ble_eq_true rfl⟩) (fun r_4 H locs ws_1 h u_2 p_3 => ?_)
  obtain ⟨e_5, e_6, e_7, e_8, e_9⟩ := p_3
  replace HE : FT = g1c_X11_walk (xso SC ad ws_1) r_4.toInt a1.toInt := HE.trans (by rw [e_5, e_6]; rfl)
  replace HE : FT = g2b_X11_walk (xso SC ad ws_1) r_4.toInt a1.toInt := HE.trans rfl
  refine y_if_ne (tgt := 10) C0 dX11_walk_4 (by decide) (fun c_10 => ?_) (fun c_10 => ?_)
  · -- 4
    replace HE : FT = g3_X11_walk (xso SC ad ws_1) a1.toInt := HE.trans (if_neg c_10)
    refine lv_aload_n C0.1 C0.2.1 dX11_walk_10 rfl (lv_at hl 0 rfl) ?_
    refine tg_X11_trays C0 h kSC_0 q_524 dX11_walk_11 ?_
    refine lv_iload_n C0.1 C0.2.1 dX11_walk_14 rfl (lv_at hl 1 rfl) ?_
    refine y_aald C0 h kSC_115 rfl rfl (by decide) (o27_47 e_7 e_8 e_9 c_10) (o27_48 e_7 e_8 e_9 c_10) dX11_walk_15 ?_
    obtain ⟨i_11, hi_11, ei_11⟩ : ∃ j : Nat, Kd SC j 42 ∧ j = 107 + 2 * a1.toInt.toNat := ⟨_, aSC_44 (o27_49 e_7 e_8 e_9 c_10), rfl⟩
    rw [← ei_11]
    refine tg_X10_size C0 h hi_11 q_502 dX11_walk_16 (fun v_12 e_13 e_14 e_15 => ?_)
    replace HE : FT = g5b_X11_walk (xso SC ad ws_1) v_12.toInt a1.toInt := HE.trans (by rw [(xg0 e_13 : v_12.toInt = (xso SC ad ws_1) 0 i_11 2), ei_11]; rfl)
    refine y_if_ge (tgt := 25) C0 dX11_walk_19 (by decide) (fun c_16 => ?_) (fun c_16 => ?_)
    · -- 19
      replace HE : FT = g6_X11_walk (xso SC ad ws_1) a1.toInt := HE.trans (if_neg (Int.not_lt.mpr c_16))
      refine lv_aload_n C0.1 C0.2.1 dX11_walk_25 rfl (lv_at hl 0 rfl) ?_
      refine tg_X11_before C0 h kSC_0 q_528 dX11_walk_26 ?_
      refine lv_aload_n C0.1 C0.2.1 dX11_walk_29 rfl (lv_at hl 0 rfl) ?_
      refine tg_X11_now C0 h kSC_0 q_515 dX11_walk_30 ?_
      refine tg_X0_folk C0 h kSC_1 q_249 dX11_walk_33 ?_
      refine y_cv h (y_rV (As := [.ref (ad 10)]) (rest := []) C0 hZ h (c_X1_copy l G Z ad _ h.2 199 kSC_199 10 kSC_10) k_X1_copy q_868 q_869 q_987 kSC_199 rfl rfl rfl hl.1 rfl rfl (Nat.le_of_ble_eq_true rfl) dX11_walk_36 ⟨Nat.le_of_ble_eq_true rfl, Nat.le_of_ble_eq_true rfl⟩ ⟨Nat.le_of_ble_eq_true rfl, Nat.le_of_ble_eq_true rfl⟩) (fun H locs ws_17 h u_18 p_19 => ?_)
      obtain ⟨e_20, e_21⟩ := p_19
      replace HE : FT = g8c_X11_walk (xso SC ad ws_17) a1.toInt := HE.trans (by rw [e_20]; rfl)
      refine lv_aload_n C0.1 C0.2.1 dX11_walk_39 rfl (lv_at hl 0 rfl) ?_
      refine lv_aload_n C0.1 C0.2.1 dX11_walk_40 rfl (lv_at hl 0 rfl) ?_
      refine tg_X11_trays C0 h kSC_0 q_524 dX11_walk_41 ?_
      refine lv_iload_n C0.1 C0.2.1 dX11_walk_44 rfl (lv_at hl 1 rfl) ?_
      refine y_aald C0 h kSC_115 rfl rfl (by decide) (o27_47 e_7 e_8 e_9 c_10) (o27_48 e_7 e_8 e_9 c_10) dX11_walk_45 ?_
      obtain ⟨i_22, hi_22, ei_22⟩ : ∃ j : Nat, Kd SC j 42 ∧ j = 107 + 2 * a1.toInt.toNat := ⟨_, aSC_44 (o27_49 e_7 e_8 e_9 c_10), rfl⟩
      rw [← ei_22]
      refine y_ci h (y_rV (As := [.ref (ad i_22)]) (rest := []) C0 hZ h (c_X11_goWalk l G Z ad _ h.2 i_22 hi_22 (Rel.fr (M := [6, 7, 8, 9, 10, 11, 12, 13]) hR (Fr.tr (Fr.mono u_2 (by decide)) u_18) (by decide) (by decide))) k_X11_goWalk q_1002 q_28 q_1000 kSC_0 rfl rfl rfl hl.1 rfl rfl (Nat.le_of_ble_eq_true rfl) dX11_walk_46 ⟨Nat.le_of_ble_eq_true rfl, Nat.le_of_ble_eq_true rfl⟩ ⟨Nat.le_of_ble_eq_true rfl, Nat.le_of_ble_eq_true rfl⟩) (fun r_26 H locs ws_23 h u_24 p_25 => ?_)
      obtain ⟨e_27, e_28⟩ := p_25
      replace HE : FT = g9c_X11_walk (xso SC ad ws_23) r_26.toInt := HE.trans (by rw [e_27, e_28, ei_22]; rfl)
      refine lv_istore_n (lv' := [(2, .int r_26), (0, .ref (ad 0)), (1, .int a1)]) C0.1 C0.2.1 dX11_walk_49 rfl hl (by decide) rfl (fun ls hl => ?_)
      refine lv_iload_n C0.1 C0.2.1 dX11_walk_50 rfl (lv_at hl 0 rfl) ?_
      replace HE : FT = g10b_X11_walk (xso SC ad ws_23) r_26.toInt := HE.trans rfl
      refine y_if_le (tgt := 69) C0 dX11_walk_51 (by decide) (fun c_29 => ?_) (fun c_29 => ?_)
      · -- 51
        replace HE : FT = g11_X11_walk (xso SC ad ws_23) r_26.toInt := HE.trans (if_neg (Int.not_lt.mpr c_29))
        refine lv_iload_n C0.1 C0.2.1 dX11_walk_69 rfl (lv_at hl 0 rfl) ?_
        replace HE : FT = ((xso SC ad ws_23), r_26.toInt) := HE.trans rfl
        rw [hQ]
        exact y_iret C0 h (Fr.tr (Fr.tr (Fr.mono u_2 (by decide)) (Fr.mono u_18 (by decide))) (Fr.mono u_24 (by decide))) ⟨(congrArg Prod.fst (HE.symm.trans hFT)), (congrArg Prod.snd (HE.symm.trans hFT)), (Rel.fr (M := [4, 5, 6, 7, 8, 9, 10, 11, 12, 13, 48]) hR (Fr.tr (Fr.tr (Fr.mono u_2 (by decide)) (Fr.mono u_18 (by decide))) (Fr.mono u_24 (by decide))) (by decide) (by decide)), (Hok.fr (M := [4, 5, 6, 7, 8, 9, 10, 11, 12, 13, 48]) hH (Fr.tr (Fr.tr (Fr.mono u_2 (by decide)) (Fr.mono u_18 (by decide))) (Fr.mono u_24 (by decide))) (by decide))⟩ dX11_walk_70
      · -- 51
        replace HE : FT = g12_X11_walk (xso SC ad ws_23) r_26.toInt := HE.trans (if_pos c_29)
        refine lv_aload_n C0.1 C0.2.1 dX11_walk_54 rfl (lv_at hl 1 rfl) ?_
        refine lv_aload_n C0.1 C0.2.1 dX11_walk_55 rfl (lv_at hl 1 rfl) ?_
        refine tg_X11_before C0 h kSC_0 q_528 dX11_walk_56 ?_
        refine y_cv h (y_rV (As := [.ref (ad 199)]) (rest := []) C0 hZ h (c_X11_keep l G Z ad _ h.2 199 kSC_199) k_X11_keep q_985 q_27 q_983 kSC_0 rfl rfl rfl hl.1 rfl rfl (Nat.le_of_ble_eq_true rfl) dX11_walk_59 ⟨Nat.le_of_ble_eq_true rfl, Nat.le_of_ble_eq_true rfl⟩ ⟨Nat.le_of_ble_eq_true rfl, Nat.le_of_ble_eq_true rfl⟩) (fun H locs ws_30 h u_31 p_32 => ?_)
        obtain ⟨e_33, e_34⟩ := p_32
        replace HE : FT = g13c_X11_walk (xso SC ad ws_30) r_26.toInt := HE.trans (by rw [e_33]; rfl)
        refine lv_aload_n C0.1 C0.2.1 dX11_walk_62 rfl (lv_at hl 1 rfl) ?_
        refine tg_X11_forecast C0 h kSC_0 q_518 dX11_walk_63 ?_
        refine y_cv h (y_rV (As := []) (rest := []) C0 hZ h (c_X2_forget l G Z ad _ h.2) k_X2_forget q_878 q_879 q_877 kSC_79 rfl rfl rfl hl.1 rfl rfl (Nat.le_of_ble_eq_true rfl) dX11_walk_66 ⟨Nat.le_of_ble_eq_true rfl, Nat.le_of_ble_eq_true rfl⟩ ⟨Nat.le_of_ble_eq_true rfl, Nat.le_of_ble_eq_true rfl⟩) (fun H locs ws_35 h u_36 p_37 => ?_)
        have e_38 := p_37
        replace HE : FT = g14c_X11_walk (xso SC ad ws_35) r_26.toInt := HE.trans (by rw [e_38]; rfl)
        refine lv_iload_n C0.1 C0.2.1 dX11_walk_69 rfl (lv_at hl 0 rfl) ?_
        replace HE : FT = ((xso SC ad ws_35), r_26.toInt) := HE.trans rfl
        rw [hQ]
        exact y_iret C0 h (Fr.tr (Fr.tr (Fr.tr (Fr.tr (Fr.mono u_2 (by decide)) (Fr.mono u_18 (by decide))) (Fr.mono u_24 (by decide))) (Fr.mono u_31 (by decide))) (Fr.mono u_36 (by decide))) ⟨(congrArg Prod.fst (HE.symm.trans hFT)), (congrArg Prod.snd (HE.symm.trans hFT)), (Rel.fr (M := [0, 4, 5, 6, 7, 8, 9, 10, 11, 12, 13, 18, 48]) hR (Fr.tr (Fr.tr (Fr.tr (Fr.tr (Fr.mono u_2 (by decide)) (Fr.mono u_18 (by decide))) (Fr.mono u_24 (by decide))) (Fr.mono u_31 (by decide))) (Fr.mono u_36 (by decide))) (by decide) (by decide)), (Hok.fr (M := [0, 4, 5, 6, 7, 8, 9, 10, 11, 12, 13, 18, 48]) hH (Fr.tr (Fr.tr (Fr.tr (Fr.tr (Fr.mono u_2 (by decide)) (Fr.mono u_18 (by decide))) (Fr.mono u_24 (by decide))) (Fr.mono u_31 (by decide))) (Fr.mono u_36 (by decide))) (by decide))⟩ dX11_walk_70
    · -- 19
      replace HE : FT = g7_X11_walk (xso SC ad ws_1) := HE.trans (if_pos c_16)
      refine y_c2 (n := (-6)) C0 (by decide) dX11_walk_22 (fun v_39 e_40 => ?_)
      replace HE : FT = ((xso SC ad ws_1), v_39.toInt) := HE.trans (by rw [e_40]; rfl)
      rw [hQ]
      exact y_iret C0 h (Fr.mono u_2 (by decide)) ⟨(congrArg Prod.fst (HE.symm.trans hFT)), (congrArg Prod.snd (HE.symm.trans hFT)), (Rel.fr (M := []) hR u_2 (by decide) (by decide)), (Hok.fr (M := []) hH u_2 (by decide))⟩ dX11_walk_24
  · -- 4
    replace HE : FT = g4_X11_walk (xso SC ad ws_1) := HE.trans (if_pos c_10)
    refine y_c2 (n := (-2)) C0 (by decide) dX11_walk_7 (fun v_41 e_42 => ?_)
    replace HE : FT = ((xso SC ad ws_1), v_41.toInt) := HE.trans (by rw [e_42]; rfl)
    rw [hQ]
    exact y_iret C0 h (Fr.mono u_2 (by decide)) ⟨(congrArg Prod.fst (HE.symm.trans hFT)), (congrArg Prod.snd (HE.symm.trans hFT)), (Rel.fr (M := []) hR u_2 (by decide) (by decide)), (Hok.fr (M := []) hH u_2 (by decide))⟩ dX11_walk_9
noncomputable def g6_X11_buy (s : XS) : XR := (s, ((-3)))
noncomputable def g26c_X11_buy (s : XS) (x3_24 : Int) : XR := (s, x3_24)
noncomputable def g25w_X11_buy (s : XS) (x3_24 : Int) : XR := g26c_X11_buy ((f_X2_forget s).1) x3_24
noncomputable def g24w_X11_buy (s : XS) (a1 : Int) (a2 : Int) (x3_24 : Int) : XR := g25w_X11_buy (xup s 1 16 (Int.toNat (s 1 11 (Int.toNat a1))) ((Xiadd (s 1 16 (Int.toNat (s 1 11 (Int.toNat a1)))) a2))) x3_24
noncomputable def g23w_X11_buy (s : XS) (a1 : Int) (a2 : Int) (x3_24 : Int) : XR := g24w_X11_buy (xup s 1 13 (Int.toNat a1) ((Xiadd (s 1 13 (Int.toNat a1)) a2))) a1 a2 x3_24
noncomputable def g22c_X11_buy (s : XS) (a1 : Int) (a2 : Int) (x3_24 : Int) : XR := g23w_X11_buy (xup s 1 14 (Int.toNat a1) ((Xisub (s 1 14 (Int.toNat a1)) x3_24))) a1 a2 x3_24
noncomputable def g20_X11_buy (s : XS) (a1 : Int) (a2 : Int) (x3_24 : Int) : XR := g22c_X11_buy ((f_X11_keep s 10).1) a1 a2 x3_24
noncomputable def g21_X11_buy (s : XS) : XR := (s, ((-4)))
noncomputable def g19b_X11_buy (s : XS) (v_43 : Int) (a1 : Int) (a2 : Int) (x3_24 : Int) : XR := if 99 < v_43 then g21_X11_buy s else g20_X11_buy s a1 a2 x3_24
noncomputable def g17_X11_buy (s : XS) (a1 : Int) (a2 : Int) (x3_24 : Int) : XR := g19b_X11_buy s ((Xiadd (s 1 13 (Int.toNat a1)) a2)) a1 a2 x3_24
noncomputable def g18_X11_buy (s : XS) : XR := (s, ((-5)))
noncomputable def g16b_X11_buy (s : XS) (v_34 : Int) (x3_24 : Int) (a1 : Int) (a2 : Int) : XR := if v_34 < x3_24 then g18_X11_buy s else g17_X11_buy s a1 a2 x3_24
noncomputable def g14_X11_buy (s : XS) (a1 : Int) (a2 : Int) (x3_24 : Int) : XR := g16b_X11_buy s ((s 1 14 (Int.toNat a1))) x3_24 a1 a2
noncomputable def g27c_X11_buy (R30 : XS → Int → Int → Int → Int → XR) (s : XS) (r_95 : Int) (x3_24 : Int) (a1 : Int) (a2 : Int) (x4_23 : Int) : XR := R30 s a1 a2 ((Xiadd x3_24 r_95)) ((x4_23 + 1))
noncomputable def g15_X11_buy (R30 : XS → Int → Int → Int → Int → XR) (s : XS) (a1 : Int) (a2 : Int) (x3_24 : Int) (x4_23 : Int) : XR := g27c_X11_buy R30 ((f_X0_costTo s 1 a1 x4_23).1) (((f_X0_costTo s 1 a1 x4_23).2)) x3_24 a1 a2 x4_23
noncomputable def g13b_X11_buy (R30 : XS → Int → Int → Int → Int → XR) (s : XS) (a2 : Int) (x4_23 : Int) (a1 : Int) (x3_24 : Int) : XR := if x4_23 < a2 then g15_X11_buy R30 s a1 a2 x3_24 x4_23 else g14_X11_buy s a1 a2 x3_24
noncomputable def g12l_X11_buy (R30 : XS → Int → Int → Int → Int → XR) (s : XS) (a1 : Int) (a2 : Int) (x3_24 : Int) (x4_23 : Int) : XR := g13b_X11_buy R30 s a2 x4_23 a1 x3_24
noncomputable def L11_X11_buy (n : Nat) : XS → Int → Int → Int → Int → XR := Nat.rec (motive := fun _ => XS → Int → Int → Int → Int → XR) (fun s _ _ _ _ => (s, 0)) (fun _ R30 => g12l_X11_buy R30) n
noncomputable def g9_X11_buy (s : XS) (a1 : Int) (a2 : Int) : XR := L11_X11_buy (Int.toNat (20 - 0 + 1)) s a1 a2 0 0
noncomputable def g10_X11_buy (s : XS) : XR := (s, ((-3)))
noncomputable def g8b_X11_buy (s : XS) (a2 : Int) (a1 : Int) : XR := if 20 < a2 then g10_X11_buy s else g9_X11_buy s a1 a2
noncomputable def g7_X11_buy (s : XS) (a1 : Int) (a2 : Int) : XR := g8b_X11_buy s a2 a1
noncomputable def g5b_X11_buy (s : XS) (a2 : Int) (a1 : Int) : XR := if a2 < 1 then g6_X11_buy s else g7_X11_buy s a1 a2
noncomputable def g3_X11_buy (s : XS) (a1 : Int) (a2 : Int) : XR := g5b_X11_buy s a2 a1
noncomputable def g4_X11_buy (s : XS) : XR := (s, ((-2)))
noncomputable def g2b_X11_buy (s : XS) (r_4 : Int) (a1 : Int) (a2 : Int) : XR := if r_4 = 0 then g4_X11_buy s else g3_X11_buy s a1 a2
noncomputable def g1c_X11_buy (s : XS) (r_4 : Int) (a1 : Int) (a2 : Int) : XR := g2b_X11_buy s r_4 a1 a2
noncomputable def f_X11_buy (s : XS) (a1 : Int) (a2 : Int) : XR := g1c_X11_buy ((f_X11_isPerson s a1).1) (((f_X11_isPerson s a1).2)) a1 a2
set_option maxHeartbeats 4000000 in
set_option maxRecDepth 100000 in
theorem c_X11_buy (l : Launch) (G : GG) (Z : RZ) (ad : Nat → Nat) (ws0 : va_W) (hT : Ty G SC ad ws0) (a1 : Int32) (a2 : Int32) (hR : Rel ws0) (hH : Hok ws0) : Mq l yX11_buy cX11_buy 5 (some .int) 4 G Z [.ref (ad 0), .int a1, .int a2] ws0 (PI G SC ad [0, 4, 5, 6, 7, 8, 9, 10, 11, 12, 13, 18] ws0 (fun r u => (xso SC ad u = (f_X11_buy (xso SC ad ws0) a1.toInt a2.toInt).1) ∧ (r.toInt = (f_X11_buy (xso SC ad ws0) a1.toInt a2.toInt).2) ∧ (Rel u) ∧ (Hok u))) := by
  refine Mq.start (by decide) (Nat.le_of_ble_eq_true rfl) ?_
  intro p e s m below meth c A ls C0 hZ h hl
  have hl : lv_has ls 5 [(0, .ref (ad 0)), (1, .int a1), (2, .int a2)] := hl
  have h : Wt G SC ad A s s.heap [] ws0 := ⟨h, hT⟩
  obtain ⟨args, hargs⟩ : ∃ z, z = ([.ref (ad 0), .int a1, .int a2] : List Value).toArray := ⟨_, rfl⟩
  rw [← hargs] at C0 ⊢
  have C0 : Cx p s m args meth c RX11 cX11_buy 5 (some .int) := C0
  obtain ⟨Q, hQ⟩ : ∃ z, z = MQ below ((PI G SC ad [0, 4, 5, 6, 7, 8, 9, 10, 11, 12, 13, 18] ws0 (fun r u => (xso SC ad u = (f_X11_buy (xso SC ad ws0) a1.toInt a2.toInt).1) ∧ (r.toInt = (f_X11_buy (xso SC ad ws0) a1.toInt a2.toInt).2) ∧ (Rel u) ∧ (Hok u))) A) args s 0 0 A := ⟨_, rfl⟩
  rw [← hQ]
  obtain ⟨FT, hFT⟩ : ∃ z, z = f_X11_buy (xso SC ad ws0) a1.toInt a2.toInt := ⟨_, rfl⟩
  have HE : FT = f_X11_buy (xso SC ad ws0) a1.toInt a2.toInt := hFT
  refine lv_aload_n C0.1 C0.2.1 dX11_buy_0 rfl (lv_at hl 0 rfl) ?_
  refine lv_iload_n C0.1 C0.2.1 dX11_buy_1 rfl (lv_at hl 1 rfl) ?_
  refine y_ci h (y_rV (As := [.int a1]) (rest := []) C0 hZ h (c_X11_isPerson l G Z ad _ h.2 a1) k_X11_isPerson q_903 q_23 q_901 kSC_0 rfl rfl rfl hl.1 rfl rfl (Nat.le_of_ble_eq_true rfl) dX11_buy_2 ⟨Nat.le_of_ble_eq_true rfl, Nat.le_of_ble_eq_true rfl⟩ ⟨Nat.le_of_ble_eq_true rfl, Nat.le_of_ble_eq_true rfl⟩) (fun r_4 H locs ws_1 h u_2 p_3 => ?_)
  obtain ⟨e_5, e_6, e_7, e_8, e_9⟩ := p_3
  replace HE : FT = g1c_X11_buy (xso SC ad ws_1) r_4.toInt a1.toInt a2.toInt := HE.trans (by rw [e_5, e_6]; rfl)
  replace HE : FT = g2b_X11_buy (xso SC ad ws_1) r_4.toInt a1.toInt a2.toInt := HE.trans rfl
  refine y_if_ne (tgt := 11) C0 dX11_buy_5 (by decide) (fun c_10 => ?_) (fun c_10 => ?_)
  · -- 5
    replace HE : FT = g3_X11_buy (xso SC ad ws_1) a1.toInt a2.toInt := HE.trans (if_neg c_10)
    refine lv_iload_n C0.1 C0.2.1 dX11_buy_11 rfl (lv_at hl 2 rfl) ?_
    refine y_c1 (n := 1) C0 (by decide) dX11_buy_12 (fun v_11 e_12 => ?_)
    replace HE : FT = g5b_X11_buy (xso SC ad ws_1) a2.toInt a1.toInt := HE.trans rfl
    refine y_icmp_lt (tgt := 22) C0 dX11_buy_13 (by decide) (fun c_13 => ?_) (fun c_13 => ?_)
    · -- 13
      replace HE : FT = g6_X11_buy (xso SC ad ws_1) := HE.trans (if_pos (o27_52 e_12 c_13))
      refine y_c2 (n := (-3)) C0 (by decide) dX11_buy_22 (fun v_14 e_15 => ?_)
      replace HE : FT = ((xso SC ad ws_1), v_14.toInt) := HE.trans (by rw [e_15]; rfl)
      rw [hQ]
      exact y_iret C0 h (Fr.mono u_2 (by decide)) ⟨(congrArg Prod.fst (HE.symm.trans hFT)), (congrArg Prod.snd (HE.symm.trans hFT)), (Rel.fr (M := []) hR u_2 (by decide) (by decide)), (Hok.fr (M := []) hH u_2 (by decide))⟩ dX11_buy_24
    · -- 13
      replace HE : FT = g7_X11_buy (xso SC ad ws_1) a1.toInt a2.toInt := HE.trans (if_neg (o27_53 e_12 c_13))
      refine lv_iload_n C0.1 C0.2.1 dX11_buy_16 rfl (lv_at hl 2 rfl) ?_
      refine y_c2 (n := 20) C0 (by decide) dX11_buy_17 (fun v_16 e_17 => ?_)
      replace HE : FT = g8b_X11_buy (xso SC ad ws_1) a2.toInt a1.toInt := HE.trans rfl
      refine y_icmp_le (tgt := 25) C0 dX11_buy_19 (by decide) (fun c_18 => ?_) (fun c_18 => ?_)
      · -- 19
        replace HE : FT = g9_X11_buy (xso SC ad ws_1) a1.toInt a2.toInt := HE.trans (if_neg (o27_55 e_12 c_13 e_17 c_18))
        refine y_c1 (n := 0) C0 (by decide) dX11_buy_25 (fun v_19 e_20 => ?_)
        refine lv_istore_n (lv' := [(3, .int v_19), (0, .ref (ad 0)), (1, .int a1), (2, .int a2)]) C0.1 C0.2.1 dX11_buy_26 rfl hl (by decide) rfl (fun ls hl => ?_)
        refine y_c1 (n := 0) C0 (by decide) dX11_buy_27 (fun v_21 e_22 => ?_)
        refine lv_istore (lv' := [(4, .int v_21), (3, .int v_19), (0, .ref (ad 0)), (1, .int a1), (2, .int a2)]) C0.1 C0.2.1 dX11_buy_28 hl (by decide) rfl (fun ls hl => ?_)
        have lp_27 : ∀ (n_29 : Nat) (x4_23 : Int32) (x3_24 : Int32) (H : Heap) (locs : List Loc) (ls : Array Slot) (ws_25 : va_W), 20 - x4_23.toInt < (n_29 : Int) → 0 ≤ x4_23.toInt → x4_23.toInt ≤ 20 → (FT = L11_X11_buy n_29 (xso SC ad ws_25) a1.toInt a2.toInt x3_24.toInt x4_23.toInt) → Wt G SC ad A s H locs ws_25 → Fr SC [4, 5] ws_1 ws_25 → lv_has ls 5 [(4, .int x4_23), (3, .int x3_24), (0, .ref (ad 0)), (1, .int a1), (2, .int a2)] → W p l e (rmd 4 0 0) s m args below meth c H locs 0 0 Q (F0 m 30 ls []) := by
          intro n_29
          induction n_29 with
          | zero => intro x4_23 x3_24 H locs ls ws_25 hn_30 b_31 b_32 HE h hF_26 hl; exact ((o27_57 b_31 b_32 hn_30)).elim
          | succ n_29 ih_28 =>
            intro x4_23 x3_24 H locs ls ws_25 hn_30 b_31 b_32 HE h hF_26 hl
            obtain ⟨R30, hR30⟩ : ∃ z, z = L11_X11_buy n_29 := ⟨_, rfl⟩
            replace HE : FT = g12l_X11_buy R30 (xso SC ad ws_25) a1.toInt a2.toInt x3_24.toInt x4_23.toInt := HE.trans (by rw [hR30]; rfl)
            refine lv_iload C0.1 C0.2.1 dX11_buy_30 (lv_at hl 0 rfl) ?_
            refine lv_iload_n C0.1 C0.2.1 dX11_buy_32 rfl (lv_at hl 4 rfl) ?_
            replace HE : FT = g13b_X11_buy R30 (xso SC ad ws_25) a2.toInt x4_23.toInt a1.toInt x3_24.toInt := HE.trans rfl
            refine y_icmp_ge (tgt := 55) C0 dX11_buy_33 (by decide) (fun c_33 => ?_) (fun c_33 => ?_)
            · -- 33
              replace HE : FT = g14_X11_buy (xso SC ad ws_25) a1.toInt a2.toInt x3_24.toInt := HE.trans (if_neg (Int.not_lt.mpr c_33))
              refine lv_aload_n C0.1 C0.2.1 dX11_buy_55 rfl (lv_at hl 2 rfl) ?_
              refine tg_X11_now C0 h kSC_0 q_515 dX11_buy_56 ?_
              refine tg_X0_folk C0 h kSC_1 q_249 dX11_buy_59 ?_
              refine lv_astore (lv' := [(4, .ref (ad 10)), (3, .int x3_24), (0, .ref (ad 0)), (1, .int a1), (2, .int a2)]) C0.1 C0.2.1 dX11_buy_62 hl (by decide) rfl (fun ls hl => ?_)
              refine lv_iload_n C0.1 C0.2.1 dX11_buy_64 rfl (lv_at hl 1 rfl) ?_
              refine lv_aload C0.1 C0.2.1 dX11_buy_65 (lv_at hl 0 rfl) ?_
              refine tg_X1_coins C0 h kSC_10 q_200 dX11_buy_67 ?_
              refine lv_iload_n C0.1 C0.2.1 dX11_buy_70 rfl (lv_at hl 3 rfl) ?_
              refine y_iald C0 h kSC_14 rfl (by decide) (o27_10 e_7 e_8 e_9 c_10) (o27_11 e_7 e_8 e_9 c_10) dX11_buy_71 (fun v_34 e_35 e_36 e_37 => ?_)
              replace HE : FT = g16b_X11_buy (xso SC ad ws_25) v_34.toInt x3_24.toInt a1.toInt a2.toInt := HE.trans (by rw [(xg1 e_35 : v_34.toInt = (xso SC ad ws_25) 1 14 a1.toInt.toNat)]; rfl)
              refine y_icmp_le (tgt := 78) C0 dX11_buy_72 (by decide) (fun c_38 => ?_) (fun c_38 => ?_)
              · -- 72
                replace HE : FT = g17_X11_buy (xso SC ad ws_25) a1.toInt a2.toInt x3_24.toInt := HE.trans (if_neg (Int.not_lt.mpr c_38))
                refine lv_aload C0.1 C0.2.1 dX11_buy_78 (lv_at hl 0 rfl) ?_
                refine tg_X1_lefts C0 h kSC_10 q_197 dX11_buy_80 ?_
                refine lv_iload_n C0.1 C0.2.1 dX11_buy_83 rfl (lv_at hl 3 rfl) ?_
                refine y_iald C0 h kSC_13 rfl (by decide) (o27_10 e_7 e_8 e_9 c_10) (o27_11 e_7 e_8 e_9 c_10) dX11_buy_84 (fun v_39 e_40 e_41 e_42 => ?_)
                refine lv_iload_n C0.1 C0.2.1 dX11_buy_85 rfl (lv_at hl 4 rfl) ?_
                refine xr_iadd C0 dX11_buy_86 (fun v_43 e_44 => ?_)
                refine y_c2 (n := 99) C0 (by decide) dX11_buy_87 (fun v_45 e_46 => ?_)
                replace HE : FT = g19b_X11_buy (xso SC ad ws_25) v_43.toInt a1.toInt a2.toInt x3_24.toInt := HE.trans (by rw [e_44, (xg1 e_40 : v_39.toInt = (xso SC ad ws_25) 1 13 a1.toInt.toNat)]; rfl)
                refine y_icmp_le (tgt := 95) C0 dX11_buy_89 (by decide) (fun c_47 => ?_) (fun c_47 => ?_)
                · -- 89
                  replace HE : FT = g20_X11_buy (xso SC ad ws_25) a1.toInt a2.toInt x3_24.toInt := HE.trans (if_neg (o27_59 e_46 c_47))
                  refine lv_aload_n C0.1 C0.2.1 dX11_buy_95 rfl (lv_at hl 2 rfl) ?_
                  refine lv_aload C0.1 C0.2.1 dX11_buy_96 (lv_at hl 0 rfl) ?_
                  refine y_cv h (y_rV (As := [.ref (ad 10)]) (rest := []) C0 hZ h (c_X11_keep l G Z ad _ h.2 10 kSC_10) k_X11_keep q_985 q_27 q_983 kSC_0 rfl rfl rfl hl.1 rfl rfl (Nat.le_of_ble_eq_true rfl) dX11_buy_98 ⟨Nat.le_of_ble_eq_true rfl, Nat.le_of_ble_eq_true rfl⟩ ⟨Nat.le_of_ble_eq_true rfl, Nat.le_of_ble_eq_true rfl⟩) (fun H locs ws_48 h u_49 p_50 => ?_)
                  obtain ⟨e_51, e_52⟩ := p_50
                  replace HE : FT = g22c_X11_buy (xso SC ad ws_48) a1.toInt a2.toInt x3_24.toInt := HE.trans (by rw [e_51]; rfl)
                  refine lv_aload C0.1 C0.2.1 dX11_buy_101 (lv_at hl 0 rfl) ?_
                  refine tg_X1_coins C0 h kSC_10 q_200 dX11_buy_103 ?_
                  refine lv_iload_n C0.1 C0.2.1 dX11_buy_106 rfl (lv_at hl 3 rfl) ?_
                  refine lv_dup2_11 C0.1 C0.2.1 dX11_buy_107 rfl rfl ?_
                  refine y_iald C0 h kSC_14 rfl (by decide) (o27_10 e_7 e_8 e_9 c_10) (o27_11 e_7 e_8 e_9 c_10) dX11_buy_108 (fun v_53 e_54 e_55 e_56 => ?_)
                  refine lv_iload_n C0.1 C0.2.1 dX11_buy_109 rfl (lv_at hl 1 rfl) ?_
                  refine xr_isub C0 dX11_buy_110 (fun v_57 e_58 => ?_)
                  have hO_61 := h.2
                  refine y_iast C0 h kSC_14 rfl (by decide) (o27_10 e_7 e_8 e_9 c_10) (o27_11 e_7 e_8 e_9 c_10) (le_min v_57) (le_max v_57) dX11_buy_111 (fun H locs ws_59 h u_60 => ?_)
                  replace HE : FT = g23w_X11_buy (xso SC ad ws_59) a1.toInt a2.toInt x3_24.toInt := HE.trans (by rw [(xso_A (i := 14) hO_61 h.2 kSC_14 rfl u_60), e_58, (xg1 e_54 : v_53.toInt = (xso SC ad ws_48) 1 14 a1.toInt.toNat)]; rfl)
                  refine lv_aload C0.1 C0.2.1 dX11_buy_112 (lv_at hl 0 rfl) ?_
                  refine tg_X1_lefts C0 h kSC_10 q_197 dX11_buy_114 ?_
                  refine lv_iload_n C0.1 C0.2.1 dX11_buy_117 rfl (lv_at hl 3 rfl) ?_
                  refine lv_dup2_11 C0.1 C0.2.1 dX11_buy_118 rfl rfl ?_
                  refine y_iald C0 h kSC_13 rfl (by decide) (o27_10 e_7 e_8 e_9 c_10) (o27_11 e_7 e_8 e_9 c_10) dX11_buy_119 (fun v_62 e_63 e_64 e_65 => ?_)
                  refine lv_iload_n C0.1 C0.2.1 dX11_buy_120 rfl (lv_at hl 4 rfl) ?_
                  refine xr_iadd C0 dX11_buy_121 (fun v_66 e_67 => ?_)
                  have hO_70 := h.2
                  refine y_iast C0 h kSC_13 rfl (by decide) (o27_10 e_7 e_8 e_9 c_10) (o27_11 e_7 e_8 e_9 c_10) (le_min v_66) (le_max v_66) dX11_buy_122 (fun H locs ws_68 h u_69 => ?_)
                  replace HE : FT = g24w_X11_buy (xso SC ad ws_68) a1.toInt a2.toInt x3_24.toInt := HE.trans (by rw [(xso_A (i := 13) hO_70 h.2 kSC_13 rfl u_69), e_67, (xg1 e_63 : v_62.toInt = (xso SC ad ws_59) 1 13 a1.toInt.toNat)]; rfl)
                  refine lv_aload C0.1 C0.2.1 dX11_buy_123 (lv_at hl 0 rfl) ?_
                  refine tg_X1_sold C0 h kSC_10 q_208 dX11_buy_125 ?_
                  refine lv_aload C0.1 C0.2.1 dX11_buy_128 (lv_at hl 0 rfl) ?_
                  refine tg_X1_at C0 h kSC_10 q_191 dX11_buy_130 ?_
                  refine lv_iload_n C0.1 C0.2.1 dX11_buy_133 rfl (lv_at hl 3 rfl) ?_
                  refine y_iald C0 h kSC_11 rfl (by decide) (o27_10 e_7 e_8 e_9 c_10) (o27_11 e_7 e_8 e_9 c_10) dX11_buy_134 (fun v_71 e_72 e_73 e_74 => ?_)
                  refine lv_dup2_11 C0.1 C0.2.1 dX11_buy_135 rfl rfl ?_
                  refine y_iald C0 h kSC_16 rfl (by decide) (o27_61 e_73 e_74) (o27_62 e_73 e_74) dX11_buy_136 (fun v_75 e_76 e_77 e_78 => ?_)
                  refine lv_iload_n C0.1 C0.2.1 dX11_buy_137 rfl (lv_at hl 4 rfl) ?_
                  refine xr_iadd C0 dX11_buy_138 (fun v_79 e_80 => ?_)
                  have hO_83 := h.2
                  refine y_iast C0 h kSC_16 rfl (by decide) (o27_61 e_73 e_74) (o27_62 e_73 e_74) (le_min v_79) (le_max v_79) dX11_buy_139 (fun H locs ws_81 h u_82 => ?_)
                  replace HE : FT = g25w_X11_buy (xso SC ad ws_81) x3_24.toInt := HE.trans (by rw [(xso_A (i := 16) hO_83 h.2 kSC_16 rfl u_82), e_80, (xg1 e_76 : v_75.toInt = (xso SC ad ws_68) 1 16 v_71.toInt.toNat), (xg1 e_72 : v_71.toInt = (xso SC ad ws_68) 1 11 a1.toInt.toNat)]; rfl)
                  refine lv_aload_n C0.1 C0.2.1 dX11_buy_140 rfl (lv_at hl 2 rfl) ?_
                  refine tg_X11_forecast C0 h kSC_0 q_518 dX11_buy_141 ?_
                  refine y_cv h (y_rV (As := []) (rest := []) C0 hZ h (c_X2_forget l G Z ad _ h.2) k_X2_forget q_878 q_879 q_877 kSC_79 rfl rfl rfl hl.1 rfl rfl (Nat.le_of_ble_eq_true rfl) dX11_buy_144 ⟨Nat.le_of_ble_eq_true rfl, Nat.le_of_ble_eq_true rfl⟩ ⟨Nat.le_of_ble_eq_true rfl, Nat.le_of_ble_eq_true rfl⟩) (fun H locs ws_84 h u_85 p_86 => ?_)
                  have e_87 := p_86
                  replace HE : FT = g26c_X11_buy (xso SC ad ws_84) x3_24.toInt := HE.trans (by rw [e_87]; rfl)
                  refine lv_iload_n C0.1 C0.2.1 dX11_buy_147 rfl (lv_at hl 1 rfl) ?_
                  replace HE : FT = ((xso SC ad ws_84), x3_24.toInt) := HE.trans rfl
                  rw [hQ]
                  exact y_iret C0 h (Fr.tr (Fr.tr (Fr.tr (Fr.tr (Fr.tr (Fr.tr (Fr.mono u_2 (by decide)) (Fr.mono hF_26 (by decide))) (Fr.mono u_49 (by decide))) (Fr.up u_60.1 kSC_14 (by decide))) (Fr.up u_69.1 kSC_13 (by decide))) (Fr.up u_82.1 kSC_16 (by decide))) (Fr.mono u_85 (by decide))) ⟨(congrArg Prod.fst (HE.symm.trans hFT)), (congrArg Prod.snd (HE.symm.trans hFT)), (Rel.fr (M := [0, 4, 5, 6, 7, 8, 9, 10, 11, 12, 13, 18]) hR (Fr.tr (Fr.tr (Fr.tr (Fr.tr (Fr.tr (Fr.tr (Fr.mono u_2 (by decide)) (Fr.mono hF_26 (by decide))) (Fr.mono u_49 (by decide))) (Fr.up u_60.1 kSC_14 (by decide))) (Fr.up u_69.1 kSC_13 (by decide))) (Fr.up u_82.1 kSC_16 (by decide))) (Fr.mono u_85 (by decide))) (by decide) (by decide)), (Hok.fr (M := [0, 4, 5, 6, 7, 8, 9, 10, 11, 12, 13, 18]) hH (Fr.tr (Fr.tr (Fr.tr (Fr.tr (Fr.tr (Fr.tr (Fr.mono u_2 (by decide)) (Fr.mono hF_26 (by decide))) (Fr.mono u_49 (by decide))) (Fr.up u_60.1 kSC_14 (by decide))) (Fr.up u_69.1 kSC_13 (by decide))) (Fr.up u_82.1 kSC_16 (by decide))) (Fr.mono u_85 (by decide))) (by decide))⟩ dX11_buy_148
                · -- 89
                  replace HE : FT = g21_X11_buy (xso SC ad ws_25) := HE.trans (if_pos (o27_60 e_46 c_47))
                  refine y_c2 (n := (-4)) C0 (by decide) dX11_buy_92 (fun v_88 e_89 => ?_)
                  replace HE : FT = ((xso SC ad ws_25), v_88.toInt) := HE.trans (by rw [e_89]; rfl)
                  rw [hQ]
                  exact y_iret C0 h (Fr.tr (Fr.mono u_2 (by decide)) (Fr.mono hF_26 (by decide))) ⟨(congrArg Prod.fst (HE.symm.trans hFT)), (congrArg Prod.snd (HE.symm.trans hFT)), (Rel.fr (M := [4, 5]) hR (Fr.tr (Fr.mono u_2 (by decide)) hF_26) (by decide) (by decide)), (Hok.fr (M := [4, 5]) hH (Fr.tr (Fr.mono u_2 (by decide)) hF_26) (by decide))⟩ dX11_buy_94
              · -- 72
                replace HE : FT = g18_X11_buy (xso SC ad ws_25) := HE.trans (if_pos c_38)
                refine y_c2 (n := (-5)) C0 (by decide) dX11_buy_75 (fun v_90 e_91 => ?_)
                replace HE : FT = ((xso SC ad ws_25), v_90.toInt) := HE.trans (by rw [e_91]; rfl)
                rw [hQ]
                exact y_iret C0 h (Fr.tr (Fr.mono u_2 (by decide)) (Fr.mono hF_26 (by decide))) ⟨(congrArg Prod.fst (HE.symm.trans hFT)), (congrArg Prod.snd (HE.symm.trans hFT)), (Rel.fr (M := [4, 5]) hR (Fr.tr (Fr.mono u_2 (by decide)) hF_26) (by decide) (by decide)), (Hok.fr (M := [4, 5]) hH (Fr.tr (Fr.mono u_2 (by decide)) hF_26) (by decide))⟩ dX11_buy_77
            · -- 33
              replace HE : FT = g15_X11_buy R30 (xso SC ad ws_25) a1.toInt a2.toInt x3_24.toInt x4_23.toInt := HE.trans (if_pos c_33)
              refine lv_iload_n C0.1 C0.2.1 dX11_buy_36 rfl (lv_at hl 1 rfl) ?_
              refine lv_aload_n C0.1 C0.2.1 dX11_buy_37 rfl (lv_at hl 2 rfl) ?_
              refine tg_X11_now C0 h kSC_0 q_515 dX11_buy_38 ?_
              refine lv_iload_n C0.1 C0.2.1 dX11_buy_41 rfl (lv_at hl 3 rfl) ?_
              refine lv_iload C0.1 C0.2.1 dX11_buy_42 (lv_at hl 0 rfl) ?_
              refine y_ci h (y_rV (As := [.int a1, .int x4_23]) (rest := [.int x3_24]) C0 hZ h (c_X0_costTo l G Z ad _ h.2 1 kSC_1 a1 x4_23 (o27_10 e_7 e_8 e_9 c_10) (o27_63 e_7 e_8 e_9 c_10)) k_X0_costTo q_1017 q_1018 q_1016 kSC_1 rfl rfl rfl hl.1 rfl rfl (Nat.le_of_ble_eq_true rfl) dX11_buy_44 ⟨Nat.le_of_ble_eq_true rfl, Nat.le_of_ble_eq_true rfl⟩ ⟨Nat.le_of_ble_eq_true rfl, Nat.le_of_ble_eq_true rfl⟩) (fun r_95 H locs ws_92 h u_93 p_94 => ?_)
              obtain ⟨e_96, e_97, e_98⟩ := p_94
              replace HE : FT = g27c_X11_buy R30 (xso SC ad ws_92) r_95.toInt x3_24.toInt a1.toInt a2.toInt x4_23.toInt := HE.trans (by rw [e_96, e_97]; rfl)
              refine xr_iadd C0 dX11_buy_47 (fun v_99 e_100 => ?_)
              refine lv_istore_n (lv' := [(3, .int v_99), (4, .int x4_23), (0, .ref (ad 0)), (1, .int a1), (2, .int a2)]) C0.1 C0.2.1 dX11_buy_48 rfl hl (by decide) rfl (fun ls hl => ?_)
              refine y_inc (kp := 1) (n := 1) (fun v_101 => [(4, .int v_101), (3, .int v_99), (0, .ref (ad 0)), (1, .int a1), (2, .int a2)]) C0 hl rfl (by decide) (by decide) (fun _ => rfl) (o27_64 e_12 c_13 e_17 c_18 b_31 b_32 hn_30 c_33 (le_min x4_23) (le_max x4_23) (le_min v_11) (le_max v_11) (le_min a2) (le_max a2) (le_min v_16) (le_max v_16)) (o27_65 e_12 c_13 e_17 c_18 b_31 b_32 hn_30 c_33 (le_min x4_23) (le_max x4_23) (le_min v_11) (le_max v_11) (le_min a2) (le_max a2) (le_min v_16) (le_max v_16)) dX11_buy_49 (fun v_101 ls e_102 hl => ?_)
              refine lv_goto (tgt := 30) C0.1 C0.2.1 dX11_buy_52 (by decide) ?_
              exact ih_28 v_101 v_99 _ _ _ _ (o27_66 e_12 c_13 e_17 c_18 b_31 b_32 hn_30 c_33 e_102) (o27_67 e_12 c_13 e_17 c_18 b_31 b_32 hn_30 c_33 e_102) (o27_68 e_12 c_13 e_17 c_18 b_31 b_32 hn_30 c_33 e_102) (((show FT = R30 (xso SC ad ws_92) a1.toInt a2.toInt v_99.toInt v_101.toInt from HE.trans (by rw [e_102, e_100]; rfl)).trans (by rw [hR30]))) h (Fr.tr hF_26 u_93) (lv_sub hl [0, 1, 2, 3, 4] rfl)
        exact lp_27 ((20 - v_21.toInt + 1).toNat) v_21 v_19 _ _ _ _ (o27_69 e_22) (o27_70 e_22) (o27_71 e_22) ((show FT = L11_X11_buy (Int.toNat (20 - v_21.toInt + 1)) (xso SC ad ws_1) a1.toInt a2.toInt v_19.toInt v_21.toInt from HE.trans (by rw [e_22, e_20]; rfl))) h Fr.rf (lv_sub hl [0, 1, 2, 3, 4] rfl)
      · -- 19
        replace HE : FT = g10_X11_buy (xso SC ad ws_1) := HE.trans (if_pos (o27_56 e_12 c_13 e_17 c_18))
        refine y_c2 (n := (-3)) C0 (by decide) dX11_buy_22 (fun v_103 e_104 => ?_)
        replace HE : FT = ((xso SC ad ws_1), v_103.toInt) := HE.trans (by rw [e_104]; rfl)
        rw [hQ]
        exact y_iret C0 h (Fr.mono u_2 (by decide)) ⟨(congrArg Prod.fst (HE.symm.trans hFT)), (congrArg Prod.snd (HE.symm.trans hFT)), (Rel.fr (M := []) hR u_2 (by decide) (by decide)), (Hok.fr (M := []) hH u_2 (by decide))⟩ dX11_buy_24
  · -- 5
    replace HE : FT = g4_X11_buy (xso SC ad ws_1) := HE.trans (if_pos c_10)
    refine y_c2 (n := (-2)) C0 (by decide) dX11_buy_8 (fun v_105 e_106 => ?_)
    replace HE : FT = ((xso SC ad ws_1), v_105.toInt) := HE.trans (by rw [e_106]; rfl)
    rw [hQ]
    exact y_iret C0 h (Fr.mono u_2 (by decide)) ⟨(congrArg Prod.fst (HE.symm.trans hFT)), (congrArg Prod.snd (HE.symm.trans hFT)), (Rel.fr (M := []) hR u_2 (by decide) (by decide)), (Hok.fr (M := []) hH u_2 (by decide))⟩ dX11_buy_10
noncomputable def g11w_X11_sell (s : XS) (v_38 : Int) : XR := (s, v_38)
noncomputable def g10w_X11_sell (s : XS) (a1 : Int) (v_38 : Int) : XR := g11w_X11_sell (xup s 1 15 (Int.toNat a1) (0)) v_38
noncomputable def g9c_X11_sell (s : XS) (r_30 : Int) (v_21 : Int) (a1 : Int) : XR := g10w_X11_sell (xup s 1 14 (Int.toNat a1) ((min 9999 (Xiadd (s 1 14 (Int.toNat a1)) (Ximul v_21 (r_30 / 3)))))) a1 ((Ximul v_21 (r_30 / 3)))
noncomputable def g8c_X11_sell (s : XS) (a1 : Int) : XR := g9c_X11_sell ((f_X0_costTo s 1 a1 0).1) (((f_X0_costTo s 1 a1 0).2)) ((s 1 15 (Int.toNat a1))) a1
noncomputable def g6_X11_sell (s : XS) (a1 : Int) : XR := g8c_X11_sell ((f_X11_keep s 10).1) a1
noncomputable def g7_X11_sell (s : XS) : XR := (s, ((-5)))
noncomputable def g5b_X11_sell (s : XS) (v_11 : Int) (a1 : Int) : XR := if v_11 = 0 then g7_X11_sell s else g6_X11_sell s a1
noncomputable def g3_X11_sell (s : XS) (a1 : Int) : XR := g5b_X11_sell s ((s 1 15 (Int.toNat a1))) a1
noncomputable def g4_X11_sell (s : XS) : XR := (s, ((-2)))
noncomputable def g2b_X11_sell (s : XS) (r_4 : Int) (a1 : Int) : XR := if r_4 = 0 then g4_X11_sell s else g3_X11_sell s a1
noncomputable def g1c_X11_sell (s : XS) (r_4 : Int) (a1 : Int) : XR := g2b_X11_sell s r_4 a1
noncomputable def f_X11_sell (s : XS) (a1 : Int) : XR := g1c_X11_sell ((f_X11_isPerson s a1).1) (((f_X11_isPerson s a1).2)) a1
set_option maxHeartbeats 4000000 in
set_option maxRecDepth 100000 in
theorem c_X11_sell (l : Launch) (G : GG) (Z : RZ) (ad : Nat → Nat) (ws0 : va_W) (hT : Ty G SC ad ws0) (a1 : Int32) (hR : Rel ws0) (hH : Hok ws0) : Mq l yX11_sell cX11_sell 4 (some .int) 4 G Z [.ref (ad 0), .int a1] ws0 (PI G SC ad [0, 4, 5, 6, 7, 8, 9, 10, 11, 12, 13] ws0 (fun r u => (xso SC ad u = (f_X11_sell (xso SC ad ws0) a1.toInt).1) ∧ (r.toInt = (f_X11_sell (xso SC ad ws0) a1.toInt).2) ∧ (Rel u) ∧ (Hok u))) := by
  refine Mq.start (by decide) (Nat.le_of_ble_eq_true rfl) ?_
  intro p e s m below meth c A ls C0 hZ h hl
  have hl : lv_has ls 4 [(0, .ref (ad 0)), (1, .int a1)] := hl
  have h : Wt G SC ad A s s.heap [] ws0 := ⟨h, hT⟩
  obtain ⟨args, hargs⟩ : ∃ z, z = ([.ref (ad 0), .int a1] : List Value).toArray := ⟨_, rfl⟩
  rw [← hargs] at C0 ⊢
  have C0 : Cx p s m args meth c RX11 cX11_sell 4 (some .int) := C0
  obtain ⟨Q, hQ⟩ : ∃ z, z = MQ below ((PI G SC ad [0, 4, 5, 6, 7, 8, 9, 10, 11, 12, 13] ws0 (fun r u => (xso SC ad u = (f_X11_sell (xso SC ad ws0) a1.toInt).1) ∧ (r.toInt = (f_X11_sell (xso SC ad ws0) a1.toInt).2) ∧ (Rel u) ∧ (Hok u))) A) args s 0 0 A := ⟨_, rfl⟩
  rw [← hQ]
  obtain ⟨FT, hFT⟩ : ∃ z, z = f_X11_sell (xso SC ad ws0) a1.toInt := ⟨_, rfl⟩
  have HE : FT = f_X11_sell (xso SC ad ws0) a1.toInt := hFT
  refine lv_aload_n C0.1 C0.2.1 dX11_sell_0 rfl (lv_at hl 0 rfl) ?_
  refine lv_iload_n C0.1 C0.2.1 dX11_sell_1 rfl (lv_at hl 1 rfl) ?_
  refine y_ci h (y_rV (As := [.int a1]) (rest := []) C0 hZ h (c_X11_isPerson l G Z ad _ h.2 a1) k_X11_isPerson q_903 q_23 q_901 kSC_0 rfl rfl rfl hl.1 rfl rfl (Nat.le_of_ble_eq_true rfl) dX11_sell_2 ⟨Nat.le_of_ble_eq_true rfl, Nat.le_of_ble_eq_true rfl⟩ ⟨Nat.le_of_ble_eq_true rfl, Nat.le_of_ble_eq_true rfl⟩) (fun r_4 H locs ws_1 h u_2 p_3 => ?_)
  obtain ⟨e_5, e_6, e_7, e_8, e_9⟩ := p_3
  replace HE : FT = g1c_X11_sell (xso SC ad ws_1) r_4.toInt a1.toInt := HE.trans (by rw [e_5, e_6]; rfl)
  replace HE : FT = g2b_X11_sell (xso SC ad ws_1) r_4.toInt a1.toInt := HE.trans rfl
  refine y_if_ne (tgt := 11) C0 dX11_sell_5 (by decide) (fun c_10 => ?_) (fun c_10 => ?_)
  · -- 5
    replace HE : FT = g3_X11_sell (xso SC ad ws_1) a1.toInt := HE.trans (if_neg c_10)
    refine lv_aload_n C0.1 C0.2.1 dX11_sell_11 rfl (lv_at hl 0 rfl) ?_
    refine tg_X11_now C0 h kSC_0 q_515 dX11_sell_12 ?_
    refine tg_X0_folk C0 h kSC_1 q_249 dX11_sell_15 ?_
    refine lv_astore_n (lv' := [(2, .ref (ad 10)), (0, .ref (ad 0)), (1, .int a1)]) C0.1 C0.2.1 dX11_sell_18 rfl hl (by decide) rfl (fun ls hl => ?_)
    refine lv_aload_n C0.1 C0.2.1 dX11_sell_19 rfl (lv_at hl 0 rfl) ?_
    refine tg_X1_used C0 h kSC_10 q_203 dX11_sell_20 ?_
    refine lv_iload_n C0.1 C0.2.1 dX11_sell_23 rfl (lv_at hl 2 rfl) ?_
    refine y_iald C0 h kSC_15 rfl (by decide) (o27_10 e_7 e_8 e_9 c_10) (o27_11 e_7 e_8 e_9 c_10) dX11_sell_24 (fun v_11 e_12 e_13 e_14 => ?_)
    replace HE : FT = g5b_X11_sell (xso SC ad ws_1) v_11.toInt a1.toInt := HE.trans (by rw [(xg1 e_12 : v_11.toInt = (xso SC ad ws_1) 1 15 a1.toInt.toNat)]; rfl)
    refine y_if_ne (tgt := 31) C0 dX11_sell_25 (by decide) (fun c_15 => ?_) (fun c_15 => ?_)
    · -- 25
      replace HE : FT = g6_X11_sell (xso SC ad ws_1) a1.toInt := HE.trans (if_neg c_15)
      refine lv_aload_n C0.1 C0.2.1 dX11_sell_31 rfl (lv_at hl 1 rfl) ?_
      refine lv_aload_n C0.1 C0.2.1 dX11_sell_32 rfl (lv_at hl 0 rfl) ?_
      refine y_cv h (y_rV (As := [.ref (ad 10)]) (rest := []) C0 hZ h (c_X11_keep l G Z ad _ h.2 10 kSC_10) k_X11_keep q_985 q_27 q_983 kSC_0 rfl rfl rfl hl.1 rfl rfl (Nat.le_of_ble_eq_true rfl) dX11_sell_33 ⟨Nat.le_of_ble_eq_true rfl, Nat.le_of_ble_eq_true rfl⟩ ⟨Nat.le_of_ble_eq_true rfl, Nat.le_of_ble_eq_true rfl⟩) (fun H locs ws_16 h u_17 p_18 => ?_)
      obtain ⟨e_19, e_20⟩ := p_18
      replace HE : FT = g8c_X11_sell (xso SC ad ws_16) a1.toInt := HE.trans (by rw [e_19]; rfl)
      refine lv_aload_n C0.1 C0.2.1 dX11_sell_36 rfl (lv_at hl 0 rfl) ?_
      refine tg_X1_used C0 h kSC_10 q_203 dX11_sell_37 ?_
      refine lv_iload_n C0.1 C0.2.1 dX11_sell_40 rfl (lv_at hl 2 rfl) ?_
      refine y_iald C0 h kSC_15 rfl (by decide) (o27_10 e_7 e_8 e_9 c_10) (o27_11 e_7 e_8 e_9 c_10) dX11_sell_41 (fun v_21 e_22 e_23 e_24 => ?_)
      refine lv_aload_n C0.1 C0.2.1 dX11_sell_42 rfl (lv_at hl 1 rfl) ?_
      refine tg_X11_now C0 h kSC_0 q_515 dX11_sell_43 ?_
      refine lv_iload_n C0.1 C0.2.1 dX11_sell_46 rfl (lv_at hl 2 rfl) ?_
      refine y_c1 (n := 0) C0 (by decide) dX11_sell_47 (fun v_25 e_26 => ?_)
      refine y_ci h (y_rV (As := [.int a1, .int v_25]) (rest := [.int v_21]) C0 hZ h (c_X0_costTo l G Z ad _ h.2 1 kSC_1 a1 v_25 (o27_10 e_7 e_8 e_9 c_10) (o27_63 e_7 e_8 e_9 c_10)) k_X0_costTo q_1017 q_1018 q_1016 kSC_1 rfl rfl rfl hl.1 rfl rfl (Nat.le_of_ble_eq_true rfl) dX11_sell_48 ⟨Nat.le_of_ble_eq_true rfl, Nat.le_of_ble_eq_true rfl⟩ ⟨Nat.le_of_ble_eq_true rfl, Nat.le_of_ble_eq_true rfl⟩) (fun r_30 H locs ws_27 h u_28 p_29 => ?_)
      obtain ⟨e_31, e_32, e_33⟩ := p_29
      replace HE : FT = g9c_X11_sell (xso SC ad ws_27) r_30.toInt v_21.toInt a1.toInt := HE.trans (by rw [e_31, (xg1 e_22 : v_21.toInt = (xso SC ad ws_16) 1 15 a1.toInt.toNat), e_32, e_26]; rfl)
      refine y_c1 (n := 3) C0 (by decide) dX11_sell_51 (fun v_34 e_35 => ?_)
      refine y_divc (n := 3) C0 (o27_72 e_35) (by decide) (o27_73 e_33) dX11_sell_52 (fun v_36 e_37 => ?_)
      refine xr_imul C0 dX11_sell_53 (fun v_38 e_39 => ?_)
      refine lv_istore_n (lv' := [(3, .int v_38), (2, .ref (ad 10)), (0, .ref (ad 0)), (1, .int a1)]) C0.1 C0.2.1 dX11_sell_54 rfl hl (by decide) rfl (fun ls hl => ?_)
      refine lv_aload_n C0.1 C0.2.1 dX11_sell_55 rfl (lv_at hl 1 rfl) ?_
      refine tg_X1_coins C0 h kSC_10 q_200 dX11_sell_56 ?_
      refine lv_iload_n C0.1 C0.2.1 dX11_sell_59 rfl (lv_at hl 3 rfl) ?_
      refine y_c3 (n := 9999) C0 (by decide) dX11_sell_60 (fun v_40 e_41 => ?_)
      refine lv_aload_n C0.1 C0.2.1 dX11_sell_63 rfl (lv_at hl 1 rfl) ?_
      refine tg_X1_coins C0 h kSC_10 q_200 dX11_sell_64 ?_
      refine lv_iload_n C0.1 C0.2.1 dX11_sell_67 rfl (lv_at hl 3 rfl) ?_
      refine y_iald C0 h kSC_14 rfl (by decide) (o27_10 e_7 e_8 e_9 c_10) (o27_11 e_7 e_8 e_9 c_10) dX11_sell_68 (fun v_42 e_43 e_44 e_45 => ?_)
      refine lv_iload_n C0.1 C0.2.1 dX11_sell_69 rfl (lv_at hl 0 rfl) ?_
      refine xr_iadd C0 dX11_sell_70 (fun v_46 e_47 => ?_)
      refine y_min C0 hl.1 q_1025 q_663 q_141 q_664 (Nat.le_of_ble_eq_true rfl) (Nat.le_of_ble_eq_true rfl) (Nat.le_of_ble_eq_true rfl) (Nat.le_of_ble_eq_true rfl) dX11_sell_71 (fun v_48 e_49 => ?_)
      have hO_52 := h.2
      refine y_iast C0 h kSC_14 rfl (by decide) (o27_10 e_7 e_8 e_9 c_10) (o27_11 e_7 e_8 e_9 c_10) (le_min v_48) (le_max v_48) dX11_sell_74 (fun H locs ws_50 h u_51 => ?_)
      replace HE : FT = g10w_X11_sell (xso SC ad ws_50) a1.toInt v_38.toInt := HE.trans (by rw [(xso_A (i := 14) hO_52 h.2 kSC_14 rfl u_51), (ix_min e_49), e_47, (xg1 e_43 : v_42.toInt = (xso SC ad ws_27) 1 14 a1.toInt.toNat), e_41, e_39, e_37]; rfl)
      refine lv_aload_n C0.1 C0.2.1 dX11_sell_75 rfl (lv_at hl 1 rfl) ?_
      refine tg_X1_used C0 h kSC_10 q_203 dX11_sell_76 ?_
      refine lv_iload_n C0.1 C0.2.1 dX11_sell_79 rfl (lv_at hl 3 rfl) ?_
      refine y_c1 (n := 0) C0 (by decide) dX11_sell_80 (fun v_53 e_54 => ?_)
      have hO_57 := h.2
      refine y_iast C0 h kSC_15 rfl (by decide) (o27_10 e_7 e_8 e_9 c_10) (o27_11 e_7 e_8 e_9 c_10) (le_min v_53) (le_max v_53) dX11_sell_81 (fun H locs ws_55 h u_56 => ?_)
      replace HE : FT = g11w_X11_sell (xso SC ad ws_55) v_38.toInt := HE.trans (by rw [(xso_A (i := 15) hO_57 h.2 kSC_15 rfl u_56), e_54]; rfl)
      refine lv_iload_n C0.1 C0.2.1 dX11_sell_82 rfl (lv_at hl 0 rfl) ?_
      replace HE : FT = ((xso SC ad ws_55), v_38.toInt) := HE.trans rfl
      rw [hQ]
      exact y_iret C0 h (Fr.tr (Fr.tr (Fr.tr (Fr.tr (Fr.mono u_2 (by decide)) (Fr.mono u_17 (by decide))) (Fr.mono u_28 (by decide))) (Fr.up u_51.1 kSC_14 (by decide))) (Fr.up u_56.1 kSC_15 (by decide))) ⟨(congrArg Prod.fst (HE.symm.trans hFT)), (congrArg Prod.snd (HE.symm.trans hFT)), (Rel.fr (M := [0, 4, 5, 6, 7, 8, 9, 10, 11, 12, 13]) hR (Fr.tr (Fr.tr (Fr.tr (Fr.tr (Fr.mono u_2 (by decide)) (Fr.mono u_17 (by decide))) (Fr.mono u_28 (by decide))) (Fr.up u_51.1 kSC_14 (by decide))) (Fr.up u_56.1 kSC_15 (by decide))) (by decide) (by decide)), (Hok.fr (M := [0, 4, 5, 6, 7, 8, 9, 10, 11, 12, 13]) hH (Fr.tr (Fr.tr (Fr.tr (Fr.tr (Fr.mono u_2 (by decide)) (Fr.mono u_17 (by decide))) (Fr.mono u_28 (by decide))) (Fr.up u_51.1 kSC_14 (by decide))) (Fr.up u_56.1 kSC_15 (by decide))) (by decide))⟩ dX11_sell_83
    · -- 25
      replace HE : FT = g7_X11_sell (xso SC ad ws_1) := HE.trans (if_pos c_15)
      refine y_c2 (n := (-5)) C0 (by decide) dX11_sell_28 (fun v_58 e_59 => ?_)
      replace HE : FT = ((xso SC ad ws_1), v_58.toInt) := HE.trans (by rw [e_59]; rfl)
      rw [hQ]
      exact y_iret C0 h (Fr.mono u_2 (by decide)) ⟨(congrArg Prod.fst (HE.symm.trans hFT)), (congrArg Prod.snd (HE.symm.trans hFT)), (Rel.fr (M := []) hR u_2 (by decide) (by decide)), (Hok.fr (M := []) hH u_2 (by decide))⟩ dX11_sell_30
  · -- 5
    replace HE : FT = g4_X11_sell (xso SC ad ws_1) := HE.trans (if_pos c_10)
    refine y_c2 (n := (-2)) C0 (by decide) dX11_sell_8 (fun v_60 e_61 => ?_)
    replace HE : FT = ((xso SC ad ws_1), v_60.toInt) := HE.trans (by rw [e_61]; rfl)
    rw [hQ]
    exact y_iret C0 h (Fr.mono u_2 (by decide)) ⟨(congrArg Prod.fst (HE.symm.trans hFT)), (congrArg Prod.snd (HE.symm.trans hFT)), (Rel.fr (M := []) hR u_2 (by decide) (by decide)), (Hok.fr (M := []) hH u_2 (by decide))⟩ dX11_sell_10
noncomputable def g3_X11_hand (s : XS) : XR := (s, ((-2)))
noncomputable def g7_X11_hand (s : XS) : XR := (s, ((-2)))
noncomputable def g13_X11_hand (s : XS) : XR := (s, ((-3)))
noncomputable def g19_X11_hand (s : XS) : XR := (s, ((-5)))
noncomputable def g29w_X11_hand (s : XS) (a2 : Int) : XR := (s, (s 1 13 (Int.toNat a2)))
noncomputable def g28w_X11_hand (s : XS) (a2 : Int) (a3 : Int) : XR := g29w_X11_hand (xup s 1 13 (Int.toNat a2) ((Xiadd (s 1 13 (Int.toNat a2)) a3))) a2
noncomputable def g27c_X11_hand (s : XS) (a1 : Int) (a2 : Int) (a3 : Int) : XR := g28w_X11_hand (xup s 1 13 (Int.toNat a1) ((Xisub (s 1 13 (Int.toNat a1)) a3))) a2 a3
noncomputable def g25_X11_hand (s : XS) (a1 : Int) (a2 : Int) (a3 : Int) : XR := g27c_X11_hand ((f_X11_keep s 10).1) a1 a2 a3
noncomputable def g26_X11_hand (s : XS) : XR := (s, ((-4)))
noncomputable def g24b_X11_hand (s : XS) (v_54 : Int) (a1 : Int) (a2 : Int) (a3 : Int) : XR := if 99 < v_54 then g26_X11_hand s else g25_X11_hand s a1 a2 a3
noncomputable def g22_X11_hand (s : XS) (a1 : Int) (a2 : Int) (a3 : Int) : XR := g24b_X11_hand s ((Xiadd (s 1 13 (Int.toNat a2)) a3)) a1 a2 a3
noncomputable def g23_X11_hand (s : XS) : XR := (s, ((-5)))
noncomputable def g21b_X11_hand (s : XS) (a3 : Int) (v_45 : Int) (a1 : Int) (a2 : Int) : XR := if v_45 < a3 then g23_X11_hand s else g22_X11_hand s a1 a2 a3
noncomputable def g20_X11_hand (s : XS) (a1 : Int) (a2 : Int) (a3 : Int) : XR := g21b_X11_hand s a3 ((s 1 13 (Int.toNat a1))) a1 a2
noncomputable def g18b_X11_hand (s : XS) (v_38 : Int) (v_34 : Int) (a1 : Int) (a2 : Int) (a3 : Int) : XR := if v_34 = v_38 then g20_X11_hand s a1 a2 a3 else g19_X11_hand s
noncomputable def g16_X11_hand (s : XS) (a1 : Int) (a2 : Int) (a3 : Int) : XR := g18b_X11_hand s ((s 1 11 (Int.toNat a2))) ((s 1 11 (Int.toNat a1))) a1 a2 a3
noncomputable def g17_X11_hand (s : XS) : XR := (s, ((-3)))
noncomputable def g15b_X11_hand (s : XS) (a3 : Int) (a1 : Int) (a2 : Int) : XR := if 99 < a3 then g17_X11_hand s else g16_X11_hand s a1 a2 a3
noncomputable def g14_X11_hand (s : XS) (a1 : Int) (a2 : Int) (a3 : Int) : XR := g15b_X11_hand s a3 a1 a2
noncomputable def g12b_X11_hand (s : XS) (a3 : Int) (a1 : Int) (a2 : Int) : XR := if a3 < 1 then g13_X11_hand s else g14_X11_hand s a1 a2 a3
noncomputable def g10_X11_hand (s : XS) (a1 : Int) (a2 : Int) (a3 : Int) : XR := g12b_X11_hand s a3 a1 a2
noncomputable def g11_X11_hand (s : XS) : XR := (s, ((-2)))
noncomputable def g9b_X11_hand (s : XS) (a2 : Int) (a1 : Int) (a3 : Int) : XR := if a1 = a2 then g11_X11_hand s else g10_X11_hand s a1 a2 a3
noncomputable def g8_X11_hand (s : XS) (a1 : Int) (a2 : Int) (a3 : Int) : XR := g9b_X11_hand s a2 a1 a3
noncomputable def g6b_X11_hand (s : XS) (r_16 : Int) (a1 : Int) (a2 : Int) (a3 : Int) : XR := if r_16 = 0 then g7_X11_hand s else g8_X11_hand s a1 a2 a3
noncomputable def g5c_X11_hand (s : XS) (r_16 : Int) (a1 : Int) (a2 : Int) (a3 : Int) : XR := g6b_X11_hand s r_16 a1 a2 a3
noncomputable def g4_X11_hand (s : XS) (a1 : Int) (a2 : Int) (a3 : Int) : XR := g5c_X11_hand ((f_X11_isPerson s a2).1) (((f_X11_isPerson s a2).2)) a1 a2 a3
noncomputable def g2b_X11_hand (s : XS) (r_4 : Int) (a1 : Int) (a2 : Int) (a3 : Int) : XR := if r_4 = 0 then g3_X11_hand s else g4_X11_hand s a1 a2 a3
noncomputable def g1c_X11_hand (s : XS) (r_4 : Int) (a1 : Int) (a2 : Int) (a3 : Int) : XR := g2b_X11_hand s r_4 a1 a2 a3
noncomputable def f_X11_hand (s : XS) (a1 : Int) (a2 : Int) (a3 : Int) : XR := g1c_X11_hand ((f_X11_isPerson s a1).1) (((f_X11_isPerson s a1).2)) a1 a2 a3
set_option maxHeartbeats 4000000 in
set_option maxRecDepth 100000 in
theorem c_X11_hand (l : Launch) (G : GG) (Z : RZ) (ad : Nat → Nat) (ws0 : va_W) (hT : Ty G SC ad ws0) (a1 : Int32) (a2 : Int32) (a3 : Int32) (hR : Rel ws0) (hH : Hok ws0) : Mq l yX11_hand cX11_hand 5 (some .int) 3 G Z [.ref (ad 0), .int a1, .int a2, .int a3] ws0 (PI G SC ad [0, 6, 7, 8, 9, 10, 11, 12, 13] ws0 (fun r u => (xso SC ad u = (f_X11_hand (xso SC ad ws0) a1.toInt a2.toInt a3.toInt).1) ∧ (r.toInt = (f_X11_hand (xso SC ad ws0) a1.toInt a2.toInt a3.toInt).2) ∧ (Rel u) ∧ (Hok u))) := by
  refine Mq.start (by decide) (Nat.le_of_ble_eq_true rfl) ?_
  intro p e s m below meth c A ls C0 hZ h hl
  have hl : lv_has ls 5 [(0, .ref (ad 0)), (1, .int a1), (2, .int a2), (3, .int a3)] := hl
  have h : Wt G SC ad A s s.heap [] ws0 := ⟨h, hT⟩
  obtain ⟨args, hargs⟩ : ∃ z, z = ([.ref (ad 0), .int a1, .int a2, .int a3] : List Value).toArray := ⟨_, rfl⟩
  rw [← hargs] at C0 ⊢
  have C0 : Cx p s m args meth c RX11 cX11_hand 5 (some .int) := C0
  obtain ⟨Q, hQ⟩ : ∃ z, z = MQ below ((PI G SC ad [0, 6, 7, 8, 9, 10, 11, 12, 13] ws0 (fun r u => (xso SC ad u = (f_X11_hand (xso SC ad ws0) a1.toInt a2.toInt a3.toInt).1) ∧ (r.toInt = (f_X11_hand (xso SC ad ws0) a1.toInt a2.toInt a3.toInt).2) ∧ (Rel u) ∧ (Hok u))) A) args s 0 0 A := ⟨_, rfl⟩
  rw [← hQ]
  obtain ⟨FT, hFT⟩ : ∃ z, z = f_X11_hand (xso SC ad ws0) a1.toInt a2.toInt a3.toInt := ⟨_, rfl⟩
  have HE : FT = f_X11_hand (xso SC ad ws0) a1.toInt a2.toInt a3.toInt := hFT
  refine lv_aload_n C0.1 C0.2.1 dX11_hand_0 rfl (lv_at hl 0 rfl) ?_
  refine lv_iload_n C0.1 C0.2.1 dX11_hand_1 rfl (lv_at hl 1 rfl) ?_
  refine y_ci h (y_rV (As := [.int a1]) (rest := []) C0 hZ h (c_X11_isPerson l G Z ad _ h.2 a1) k_X11_isPerson q_903 q_23 q_901 kSC_0 rfl rfl rfl hl.1 rfl rfl (Nat.le_of_ble_eq_true rfl) dX11_hand_2 ⟨Nat.le_of_ble_eq_true rfl, Nat.le_of_ble_eq_true rfl⟩ ⟨Nat.le_of_ble_eq_true rfl, Nat.le_of_ble_eq_true rfl⟩) (fun r_4 H locs ws_1 h u_2 p_3 => ?_)
  obtain ⟨e_5, e_6, e_7, e_8, e_9⟩ := p_3
  replace HE : FT = g1c_X11_hand (xso SC ad ws_1) r_4.toInt a1.toInt a2.toInt a3.toInt := HE.trans (by rw [e_5, e_6]; rfl)
  replace HE : FT = g2b_X11_hand (xso SC ad ws_1) r_4.toInt a1.toInt a2.toInt a3.toInt := HE.trans rfl
  refine y_if_eq (tgt := 21) C0 dX11_hand_5 (by decide) (fun c_10 => ?_) (fun c_10 => ?_)
  · -- 5
    replace HE : FT = g3_X11_hand (xso SC ad ws_1) := HE.trans (if_pos c_10)
    refine y_c2 (n := (-2)) C0 (by decide) dX11_hand_21 (fun v_11 e_12 => ?_)
    replace HE : FT = ((xso SC ad ws_1), v_11.toInt) := HE.trans (by rw [e_12]; rfl)
    rw [hQ]
    exact y_iret C0 h (Fr.mono u_2 (by decide)) ⟨(congrArg Prod.fst (HE.symm.trans hFT)), (congrArg Prod.snd (HE.symm.trans hFT)), (Rel.fr (M := []) hR u_2 (by decide) (by decide)), (Hok.fr (M := []) hH u_2 (by decide))⟩ dX11_hand_23
  · -- 5
    replace HE : FT = g4_X11_hand (xso SC ad ws_1) a1.toInt a2.toInt a3.toInt := HE.trans (if_neg c_10)
    refine lv_aload_n C0.1 C0.2.1 dX11_hand_8 rfl (lv_at hl 0 rfl) ?_
    refine lv_iload_n C0.1 C0.2.1 dX11_hand_9 rfl (lv_at hl 2 rfl) ?_
    refine y_ci h (y_rV (As := [.int a2]) (rest := []) C0 hZ h (c_X11_isPerson l G Z ad _ h.2 a2) k_X11_isPerson q_903 q_23 q_901 kSC_0 rfl rfl rfl hl.1 rfl rfl (Nat.le_of_ble_eq_true rfl) dX11_hand_10 ⟨Nat.le_of_ble_eq_true rfl, Nat.le_of_ble_eq_true rfl⟩ ⟨Nat.le_of_ble_eq_true rfl, Nat.le_of_ble_eq_true rfl⟩) (fun r_16 H locs ws_13 h u_14 p_15 => ?_)
    obtain ⟨e_17, e_18, e_19, e_20, e_21⟩ := p_15
    replace HE : FT = g5c_X11_hand (xso SC ad ws_13) r_16.toInt a1.toInt a2.toInt a3.toInt := HE.trans (by rw [e_17, e_18]; rfl)
    replace HE : FT = g6b_X11_hand (xso SC ad ws_13) r_16.toInt a1.toInt a2.toInt a3.toInt := HE.trans rfl
    refine y_if_eq (tgt := 21) C0 dX11_hand_13 (by decide) (fun c_22 => ?_) (fun c_22 => ?_)
    · -- 13
      replace HE : FT = g7_X11_hand (xso SC ad ws_13) := HE.trans (if_pos c_22)
      refine y_c2 (n := (-2)) C0 (by decide) dX11_hand_21 (fun v_23 e_24 => ?_)
      replace HE : FT = ((xso SC ad ws_13), v_23.toInt) := HE.trans (by rw [e_24]; rfl)
      rw [hQ]
      exact y_iret C0 h (Fr.tr (Fr.mono u_2 (by decide)) (Fr.mono u_14 (by decide))) ⟨(congrArg Prod.fst (HE.symm.trans hFT)), (congrArg Prod.snd (HE.symm.trans hFT)), (Rel.fr (M := []) hR (Fr.tr u_2 u_14) (by decide) (by decide)), (Hok.fr (M := []) hH (Fr.tr u_2 u_14) (by decide))⟩ dX11_hand_23
    · -- 13
      replace HE : FT = g8_X11_hand (xso SC ad ws_13) a1.toInt a2.toInt a3.toInt := HE.trans (if_neg c_22)
      refine lv_iload_n C0.1 C0.2.1 dX11_hand_16 rfl (lv_at hl 1 rfl) ?_
      refine lv_iload_n C0.1 C0.2.1 dX11_hand_17 rfl (lv_at hl 2 rfl) ?_
      replace HE : FT = g9b_X11_hand (xso SC ad ws_13) a2.toInt a1.toInt a3.toInt := HE.trans rfl
      refine y_icmp_ne (tgt := 24) C0 dX11_hand_18 (by decide) (fun c_25 => ?_) (fun c_25 => ?_)
      · -- 18
        replace HE : FT = g10_X11_hand (xso SC ad ws_13) a1.toInt a2.toInt a3.toInt := HE.trans (if_neg c_25)
        refine lv_iload_n C0.1 C0.2.1 dX11_hand_24 rfl (lv_at hl 3 rfl) ?_
        refine y_c1 (n := 1) C0 (by decide) dX11_hand_25 (fun v_26 e_27 => ?_)
        replace HE : FT = g12b_X11_hand (xso SC ad ws_13) a3.toInt a1.toInt a2.toInt := HE.trans rfl
        refine y_icmp_lt (tgt := 35) C0 dX11_hand_26 (by decide) (fun c_28 => ?_) (fun c_28 => ?_)
        · -- 26
          replace HE : FT = g13_X11_hand (xso SC ad ws_13) := HE.trans (if_pos (o27_52 e_27 c_28))
          refine y_c2 (n := (-3)) C0 (by decide) dX11_hand_35 (fun v_29 e_30 => ?_)
          replace HE : FT = ((xso SC ad ws_13), v_29.toInt) := HE.trans (by rw [e_30]; rfl)
          rw [hQ]
          exact y_iret C0 h (Fr.tr (Fr.mono u_2 (by decide)) (Fr.mono u_14 (by decide))) ⟨(congrArg Prod.fst (HE.symm.trans hFT)), (congrArg Prod.snd (HE.symm.trans hFT)), (Rel.fr (M := []) hR (Fr.tr u_2 u_14) (by decide) (by decide)), (Hok.fr (M := []) hH (Fr.tr u_2 u_14) (by decide))⟩ dX11_hand_37
        · -- 26
          replace HE : FT = g14_X11_hand (xso SC ad ws_13) a1.toInt a2.toInt a3.toInt := HE.trans (if_neg (o27_53 e_27 c_28))
          refine lv_iload_n C0.1 C0.2.1 dX11_hand_29 rfl (lv_at hl 3 rfl) ?_
          refine y_c2 (n := 99) C0 (by decide) dX11_hand_30 (fun v_31 e_32 => ?_)
          replace HE : FT = g15b_X11_hand (xso SC ad ws_13) a3.toInt a1.toInt a2.toInt := HE.trans rfl
          refine y_icmp_le (tgt := 38) C0 dX11_hand_32 (by decide) (fun c_33 => ?_) (fun c_33 => ?_)
          · -- 32
            replace HE : FT = g16_X11_hand (xso SC ad ws_13) a1.toInt a2.toInt a3.toInt := HE.trans (if_neg (o27_74 e_27 c_28 e_32 c_33))
            refine lv_aload_n C0.1 C0.2.1 dX11_hand_38 rfl (lv_at hl 0 rfl) ?_
            refine tg_X11_now C0 h kSC_0 q_515 dX11_hand_39 ?_
            refine tg_X0_folk C0 h kSC_1 q_249 dX11_hand_42 ?_
            refine lv_astore (lv' := [(4, .ref (ad 10)), (0, .ref (ad 0)), (1, .int a1), (2, .int a2), (3, .int a3)]) C0.1 C0.2.1 dX11_hand_45 hl (by decide) rfl (fun ls hl => ?_)
            refine lv_aload C0.1 C0.2.1 dX11_hand_47 (lv_at hl 0 rfl) ?_
            refine tg_X1_at C0 h kSC_10 q_191 dX11_hand_49 ?_
            refine lv_iload_n C0.1 C0.2.1 dX11_hand_52 rfl (lv_at hl 2 rfl) ?_
            refine y_iald C0 h kSC_11 rfl (by decide) (o27_76 e_7 e_8 e_9 c_10 e_19 e_20 e_21 c_22 c_25) (o27_77 e_7 e_8 e_9 c_10 e_19 e_20 e_21 c_22 c_25) dX11_hand_53 (fun v_34 e_35 e_36 e_37 => ?_)
            refine lv_aload C0.1 C0.2.1 dX11_hand_54 (lv_at hl 0 rfl) ?_
            refine tg_X1_at C0 h kSC_10 q_191 dX11_hand_56 ?_
            refine lv_iload_n C0.1 C0.2.1 dX11_hand_59 rfl (lv_at hl 3 rfl) ?_
            refine y_iald C0 h kSC_11 rfl (by decide) (o27_78 e_7 e_8 e_9 c_10 e_19 e_20 e_21 c_22 c_25) (o27_79 e_7 e_8 e_9 c_10 e_19 e_20 e_21 c_22 c_25) dX11_hand_60 (fun v_38 e_39 e_40 e_41 => ?_)
            replace HE : FT = g18b_X11_hand (xso SC ad ws_13) v_38.toInt v_34.toInt a1.toInt a2.toInt a3.toInt := HE.trans (by rw [(xg1 e_35 : v_34.toInt = (xso SC ad ws_13) 1 11 a1.toInt.toNat), (xg1 e_39 : v_38.toInt = (xso SC ad ws_13) 1 11 a2.toInt.toNat)]; rfl)
            refine y_icmp_ne (tgt := 75) C0 dX11_hand_61 (by decide) (fun c_42 => ?_) (fun c_42 => ?_)
            · -- 61
              replace HE : FT = g19_X11_hand (xso SC ad ws_13) := HE.trans (if_neg c_42)
              refine y_c2 (n := (-5)) C0 (by decide) dX11_hand_75 (fun v_43 e_44 => ?_)
              replace HE : FT = ((xso SC ad ws_13), v_43.toInt) := HE.trans (by rw [e_44]; rfl)
              rw [hQ]
              exact y_iret C0 h (Fr.tr (Fr.mono u_2 (by decide)) (Fr.mono u_14 (by decide))) ⟨(congrArg Prod.fst (HE.symm.trans hFT)), (congrArg Prod.snd (HE.symm.trans hFT)), (Rel.fr (M := []) hR (Fr.tr u_2 u_14) (by decide) (by decide)), (Hok.fr (M := []) hH (Fr.tr u_2 u_14) (by decide))⟩ dX11_hand_77
            · -- 61
              replace HE : FT = g20_X11_hand (xso SC ad ws_13) a1.toInt a2.toInt a3.toInt := HE.trans (if_pos c_42)
              refine lv_aload C0.1 C0.2.1 dX11_hand_64 (lv_at hl 0 rfl) ?_
              refine tg_X1_lefts C0 h kSC_10 q_197 dX11_hand_66 ?_
              refine lv_iload_n C0.1 C0.2.1 dX11_hand_69 rfl (lv_at hl 2 rfl) ?_
              refine y_iald C0 h kSC_13 rfl (by decide) (o27_76 e_7 e_8 e_9 c_10 e_19 e_20 e_21 c_22 c_25) (o27_77 e_7 e_8 e_9 c_10 e_19 e_20 e_21 c_22 c_25) dX11_hand_70 (fun v_45 e_46 e_47 e_48 => ?_)
              refine lv_iload_n C0.1 C0.2.1 dX11_hand_71 rfl (lv_at hl 4 rfl) ?_
              replace HE : FT = g21b_X11_hand (xso SC ad ws_13) a3.toInt v_45.toInt a1.toInt a2.toInt := HE.trans (by rw [(xg1 e_46 : v_45.toInt = (xso SC ad ws_13) 1 13 a1.toInt.toNat)]; rfl)
              refine y_icmp_ge (tgt := 78) C0 dX11_hand_72 (by decide) (fun c_49 => ?_) (fun c_49 => ?_)
              · -- 72
                replace HE : FT = g22_X11_hand (xso SC ad ws_13) a1.toInt a2.toInt a3.toInt := HE.trans (if_neg (Int.not_lt.mpr c_49))
                refine lv_aload C0.1 C0.2.1 dX11_hand_78 (lv_at hl 0 rfl) ?_
                refine tg_X1_lefts C0 h kSC_10 q_197 dX11_hand_80 ?_
                refine lv_iload_n C0.1 C0.2.1 dX11_hand_83 rfl (lv_at hl 3 rfl) ?_
                refine y_iald C0 h kSC_13 rfl (by decide) (o27_78 e_7 e_8 e_9 c_10 e_19 e_20 e_21 c_22 c_25) (o27_79 e_7 e_8 e_9 c_10 e_19 e_20 e_21 c_22 c_25) dX11_hand_84 (fun v_50 e_51 e_52 e_53 => ?_)
                refine lv_iload_n C0.1 C0.2.1 dX11_hand_85 rfl (lv_at hl 4 rfl) ?_
                refine xr_iadd C0 dX11_hand_86 (fun v_54 e_55 => ?_)
                refine y_c2 (n := 99) C0 (by decide) dX11_hand_87 (fun v_56 e_57 => ?_)
                replace HE : FT = g24b_X11_hand (xso SC ad ws_13) v_54.toInt a1.toInt a2.toInt a3.toInt := HE.trans (by rw [e_55, (xg1 e_51 : v_50.toInt = (xso SC ad ws_13) 1 13 a2.toInt.toNat)]; rfl)
                refine y_icmp_le (tgt := 95) C0 dX11_hand_89 (by decide) (fun c_58 => ?_) (fun c_58 => ?_)
                · -- 89
                  replace HE : FT = g25_X11_hand (xso SC ad ws_13) a1.toInt a2.toInt a3.toInt := HE.trans (if_neg (o27_59 e_57 c_58))
                  refine lv_aload_n C0.1 C0.2.1 dX11_hand_95 rfl (lv_at hl 1 rfl) ?_
                  refine lv_aload C0.1 C0.2.1 dX11_hand_96 (lv_at hl 0 rfl) ?_
                  refine y_cv h (y_rV (As := [.ref (ad 10)]) (rest := []) C0 hZ h (c_X11_keep l G Z ad _ h.2 10 kSC_10) k_X11_keep q_985 q_27 q_983 kSC_0 rfl rfl rfl hl.1 rfl rfl (Nat.le_of_ble_eq_true rfl) dX11_hand_98 ⟨Nat.le_of_ble_eq_true rfl, Nat.le_of_ble_eq_true rfl⟩ ⟨Nat.le_of_ble_eq_true rfl, Nat.le_of_ble_eq_true rfl⟩) (fun H locs ws_59 h u_60 p_61 => ?_)
                  obtain ⟨e_62, e_63⟩ := p_61
                  replace HE : FT = g27c_X11_hand (xso SC ad ws_59) a1.toInt a2.toInt a3.toInt := HE.trans (by rw [e_62]; rfl)
                  refine lv_aload C0.1 C0.2.1 dX11_hand_101 (lv_at hl 0 rfl) ?_
                  refine tg_X1_lefts C0 h kSC_10 q_197 dX11_hand_103 ?_
                  refine lv_iload_n C0.1 C0.2.1 dX11_hand_106 rfl (lv_at hl 2 rfl) ?_
                  refine lv_dup2_11 C0.1 C0.2.1 dX11_hand_107 rfl rfl ?_
                  refine y_iald C0 h kSC_13 rfl (by decide) (o27_76 e_7 e_8 e_9 c_10 e_19 e_20 e_21 c_22 c_25) (o27_77 e_7 e_8 e_9 c_10 e_19 e_20 e_21 c_22 c_25) dX11_hand_108 (fun v_64 e_65 e_66 e_67 => ?_)
                  refine lv_iload_n C0.1 C0.2.1 dX11_hand_109 rfl (lv_at hl 4 rfl) ?_
                  refine xr_isub C0 dX11_hand_110 (fun v_68 e_69 => ?_)
                  have hO_72 := h.2
                  refine y_iast C0 h kSC_13 rfl (by decide) (o27_76 e_7 e_8 e_9 c_10 e_19 e_20 e_21 c_22 c_25) (o27_77 e_7 e_8 e_9 c_10 e_19 e_20 e_21 c_22 c_25) (le_min v_68) (le_max v_68) dX11_hand_111 (fun H locs ws_70 h u_71 => ?_)
                  replace HE : FT = g28w_X11_hand (xso SC ad ws_70) a2.toInt a3.toInt := HE.trans (by rw [(xso_A (i := 13) hO_72 h.2 kSC_13 rfl u_71), e_69, (xg1 e_65 : v_64.toInt = (xso SC ad ws_59) 1 13 a1.toInt.toNat)]; rfl)
                  refine lv_aload C0.1 C0.2.1 dX11_hand_112 (lv_at hl 0 rfl) ?_
                  refine tg_X1_lefts C0 h kSC_10 q_197 dX11_hand_114 ?_
                  refine lv_iload_n C0.1 C0.2.1 dX11_hand_117 rfl (lv_at hl 3 rfl) ?_
                  refine lv_dup2_11 C0.1 C0.2.1 dX11_hand_118 rfl rfl ?_
                  refine y_iald C0 h kSC_13 rfl (by decide) (o27_78 e_7 e_8 e_9 c_10 e_19 e_20 e_21 c_22 c_25) (o27_79 e_7 e_8 e_9 c_10 e_19 e_20 e_21 c_22 c_25) dX11_hand_119 (fun v_73 e_74 e_75 e_76 => ?_)
                  refine lv_iload_n C0.1 C0.2.1 dX11_hand_120 rfl (lv_at hl 4 rfl) ?_
                  refine xr_iadd C0 dX11_hand_121 (fun v_77 e_78 => ?_)
                  have hO_81 := h.2
                  refine y_iast C0 h kSC_13 rfl (by decide) (o27_78 e_7 e_8 e_9 c_10 e_19 e_20 e_21 c_22 c_25) (o27_79 e_7 e_8 e_9 c_10 e_19 e_20 e_21 c_22 c_25) (le_min v_77) (le_max v_77) dX11_hand_122 (fun H locs ws_79 h u_80 => ?_)
                  replace HE : FT = g29w_X11_hand (xso SC ad ws_79) a2.toInt := HE.trans (by rw [(xso_A (i := 13) hO_81 h.2 kSC_13 rfl u_80), e_78, (xg1 e_74 : v_73.toInt = (xso SC ad ws_70) 1 13 a2.toInt.toNat)]; rfl)
                  refine lv_aload C0.1 C0.2.1 dX11_hand_123 (lv_at hl 0 rfl) ?_
                  refine tg_X1_lefts C0 h kSC_10 q_197 dX11_hand_125 ?_
                  refine lv_iload_n C0.1 C0.2.1 dX11_hand_128 rfl (lv_at hl 3 rfl) ?_
                  refine y_iald C0 h kSC_13 rfl (by decide) (o27_78 e_7 e_8 e_9 c_10 e_19 e_20 e_21 c_22 c_25) (o27_79 e_7 e_8 e_9 c_10 e_19 e_20 e_21 c_22 c_25) dX11_hand_129 (fun v_82 e_83 e_84 e_85 => ?_)
                  have qh_86 : v_82.toInt = v_77.toInt := congrArg Int32.toInt (e_83.symm.trans (Eq.trans rfl u_80.2.1))
                  replace HE : FT = ((xso SC ad ws_79), v_82.toInt) := HE.trans (by rw [(xg1 e_83 : v_82.toInt = (xso SC ad ws_79) 1 13 a2.toInt.toNat)]; rfl)
                  rw [hQ]
                  exact y_iret C0 h (Fr.tr (Fr.tr (Fr.tr (Fr.tr (Fr.mono u_2 (by decide)) (Fr.mono u_14 (by decide))) u_60) (Fr.up u_71.1 kSC_13 (by decide))) (Fr.up u_80.1 kSC_13 (by decide))) ⟨(congrArg Prod.fst (HE.symm.trans hFT)), (congrArg Prod.snd (HE.symm.trans hFT)), (Rel.fr (M := [0, 6, 7, 8, 9, 10, 11, 12, 13]) hR (Fr.tr (Fr.tr (Fr.tr (Fr.tr (Fr.mono u_2 (by decide)) (Fr.mono u_14 (by decide))) u_60) (Fr.up u_71.1 kSC_13 (by decide))) (Fr.up u_80.1 kSC_13 (by decide))) (by decide) (by decide)), (Hok.fr (M := [0, 6, 7, 8, 9, 10, 11, 12, 13]) hH (Fr.tr (Fr.tr (Fr.tr (Fr.tr (Fr.mono u_2 (by decide)) (Fr.mono u_14 (by decide))) u_60) (Fr.up u_71.1 kSC_13 (by decide))) (Fr.up u_80.1 kSC_13 (by decide))) (by decide))⟩ dX11_hand_130
                · -- 89
                  replace HE : FT = g26_X11_hand (xso SC ad ws_13) := HE.trans (if_pos (o27_60 e_57 c_58))
                  refine y_c2 (n := (-4)) C0 (by decide) dX11_hand_92 (fun v_87 e_88 => ?_)
                  replace HE : FT = ((xso SC ad ws_13), v_87.toInt) := HE.trans (by rw [e_88]; rfl)
                  rw [hQ]
                  exact y_iret C0 h (Fr.tr (Fr.mono u_2 (by decide)) (Fr.mono u_14 (by decide))) ⟨(congrArg Prod.fst (HE.symm.trans hFT)), (congrArg Prod.snd (HE.symm.trans hFT)), (Rel.fr (M := []) hR (Fr.tr u_2 u_14) (by decide) (by decide)), (Hok.fr (M := []) hH (Fr.tr u_2 u_14) (by decide))⟩ dX11_hand_94
              · -- 72
                replace HE : FT = g23_X11_hand (xso SC ad ws_13) := HE.trans (if_pos c_49)
                refine y_c2 (n := (-5)) C0 (by decide) dX11_hand_75 (fun v_89 e_90 => ?_)
                replace HE : FT = ((xso SC ad ws_13), v_89.toInt) := HE.trans (by rw [e_90]; rfl)
                rw [hQ]
                exact y_iret C0 h (Fr.tr (Fr.mono u_2 (by decide)) (Fr.mono u_14 (by decide))) ⟨(congrArg Prod.fst (HE.symm.trans hFT)), (congrArg Prod.snd (HE.symm.trans hFT)), (Rel.fr (M := []) hR (Fr.tr u_2 u_14) (by decide) (by decide)), (Hok.fr (M := []) hH (Fr.tr u_2 u_14) (by decide))⟩ dX11_hand_77
          · -- 32
            replace HE : FT = g17_X11_hand (xso SC ad ws_13) := HE.trans (if_pos (o27_75 e_27 c_28 e_32 c_33))
            refine y_c2 (n := (-3)) C0 (by decide) dX11_hand_35 (fun v_91 e_92 => ?_)
            replace HE : FT = ((xso SC ad ws_13), v_91.toInt) := HE.trans (by rw [e_92]; rfl)
            rw [hQ]
            exact y_iret C0 h (Fr.tr (Fr.mono u_2 (by decide)) (Fr.mono u_14 (by decide))) ⟨(congrArg Prod.fst (HE.symm.trans hFT)), (congrArg Prod.snd (HE.symm.trans hFT)), (Rel.fr (M := []) hR (Fr.tr u_2 u_14) (by decide) (by decide)), (Hok.fr (M := []) hH (Fr.tr u_2 u_14) (by decide))⟩ dX11_hand_37
      · -- 18
        replace HE : FT = g11_X11_hand (xso SC ad ws_13) := HE.trans (if_pos c_25)
        refine y_c2 (n := (-2)) C0 (by decide) dX11_hand_21 (fun v_93 e_94 => ?_)
        replace HE : FT = ((xso SC ad ws_13), v_93.toInt) := HE.trans (by rw [e_94]; rfl)
        rw [hQ]
        exact y_iret C0 h (Fr.tr (Fr.mono u_2 (by decide)) (Fr.mono u_14 (by decide))) ⟨(congrArg Prod.fst (HE.symm.trans hFT)), (congrArg Prod.snd (HE.symm.trans hFT)), (Rel.fr (M := []) hR (Fr.tr u_2 u_14) (by decide) (by decide)), (Hok.fr (M := []) hH (Fr.tr u_2 u_14) (by decide))⟩ dX11_hand_23
noncomputable def g6_X11_fog (s : XS) : XR := (s, ((-3)))
noncomputable def g15c_X11_fog (s : XS) (r_51 : Int) : XR := (s, r_51)
noncomputable def g14c_X11_fog (s : XS) (r_45 : Int) : XR := g15c_X11_fog ((f_J6_bitCount_0f7a4 s r_45).1) (((f_J6_bitCount_0f7a4 s r_45).2))
noncomputable def g13c_X11_fog (s : XS) : XR := g14c_X11_fog ((f_X0_freeBits s 1 (s 0 10 8)).1) (((f_X0_freeBits s 1 (s 0 10 8)).2))
noncomputable def g12w_X11_fog (s : XS) : XR := g13c_X11_fog ((f_X2_forget s).1)
noncomputable def g11c_X11_fog (s : XS) (a1 : Int) (a2 : Int) : XR := g12w_X11_fog (xup s 1 17 (Int.toNat a1) ((Xiadd (s 0 10 8) a2)))
noncomputable def g9_X11_fog (s : XS) (a1 : Int) (a2 : Int) : XR := g11c_X11_fog ((f_X11_keep s 10).1) a1 a2
noncomputable def g10_X11_fog (s : XS) : XR := (s, ((-3)))
noncomputable def g8b_X11_fog (s : XS) (a2 : Int) (a1 : Int) : XR := if 99 < a2 then g10_X11_fog s else g9_X11_fog s a1 a2
noncomputable def g7_X11_fog (s : XS) (a1 : Int) (a2 : Int) : XR := g8b_X11_fog s a2 a1
noncomputable def g5b_X11_fog (s : XS) (a2 : Int) (a1 : Int) : XR := if a2 < 1 then g6_X11_fog s else g7_X11_fog s a1 a2
noncomputable def g3_X11_fog (s : XS) (a1 : Int) (a2 : Int) : XR := g5b_X11_fog s a2 a1
noncomputable def g4_X11_fog (s : XS) : XR := (s, ((-2)))
noncomputable def g2b_X11_fog (s : XS) (r_4 : Int) (a1 : Int) (a2 : Int) : XR := if r_4 = 0 then g4_X11_fog s else g3_X11_fog s a1 a2
noncomputable def g1c_X11_fog (s : XS) (r_4 : Int) (a1 : Int) (a2 : Int) : XR := g2b_X11_fog s r_4 a1 a2
noncomputable def f_X11_fog (s : XS) (a1 : Int) (a2 : Int) : XR := g1c_X11_fog ((f_X11_isCrossing s a1).1) (((f_X11_isCrossing s a1).2)) a1 a2
set_option maxHeartbeats 4000000 in
set_option maxRecDepth 100000 in
theorem c_X11_fog (l : Launch) (G : GG) (Z : RZ) (ad : Nat → Nat) (ws0 : va_W) (hT : Ty G SC ad ws0) (a1 : Int32) (a2 : Int32) (hR : Rel ws0) (hH : Hok ws0) : Mq l yX11_fog cX11_fog 3 (some .int) 3 G Z [.ref (ad 0), .int a1, .int a2] ws0 (PI G SC ad [0, 6, 7, 8, 9, 10, 11, 12, 13, 18] ws0 (fun r u => (xso SC ad u = (f_X11_fog (xso SC ad ws0) a1.toInt a2.toInt).1) ∧ (r.toInt = (f_X11_fog (xso SC ad ws0) a1.toInt a2.toInt).2) ∧ ((-3) ≤ r.toInt) ∧ (r.toInt ≤ 63) ∧ (Rel u) ∧ (Hok u))) := by
  refine Mq.start (by decide) (Nat.le_of_ble_eq_true rfl) ?_
  intro p e s m below meth c A ls C0 hZ h hl
  have hl : lv_has ls 3 [(0, .ref (ad 0)), (1, .int a1), (2, .int a2)] := hl
  have h : Wt G SC ad A s s.heap [] ws0 := ⟨h, hT⟩
  obtain ⟨args, hargs⟩ : ∃ z, z = ([.ref (ad 0), .int a1, .int a2] : List Value).toArray := ⟨_, rfl⟩
  rw [← hargs] at C0 ⊢
  have C0 : Cx p s m args meth c RX11 cX11_fog 3 (some .int) := C0
  obtain ⟨Q, hQ⟩ : ∃ z, z = MQ below ((PI G SC ad [0, 6, 7, 8, 9, 10, 11, 12, 13, 18] ws0 (fun r u => (xso SC ad u = (f_X11_fog (xso SC ad ws0) a1.toInt a2.toInt).1) ∧ (r.toInt = (f_X11_fog (xso SC ad ws0) a1.toInt a2.toInt).2) ∧ ((-3) ≤ r.toInt) ∧ (r.toInt ≤ 63) ∧ (Rel u) ∧ (Hok u))) A) args s 0 0 A := ⟨_, rfl⟩
  rw [← hQ]
  obtain ⟨FT, hFT⟩ : ∃ z, z = f_X11_fog (xso SC ad ws0) a1.toInt a2.toInt := ⟨_, rfl⟩
  have HE : FT = f_X11_fog (xso SC ad ws0) a1.toInt a2.toInt := hFT
  refine lv_aload_n C0.1 C0.2.1 dX11_fog_0 rfl (lv_at hl 0 rfl) ?_
  refine lv_iload_n C0.1 C0.2.1 dX11_fog_1 rfl (lv_at hl 1 rfl) ?_
  refine y_ci h (y_rV (As := [.int a1]) (rest := []) C0 hZ h (c_X11_isCrossing l G Z ad _ h.2 a1) k_X11_isCrossing q_915 q_25 q_913 kSC_0 rfl rfl rfl hl.1 rfl rfl (Nat.le_of_ble_eq_true rfl) dX11_fog_2 ⟨Nat.le_of_ble_eq_true rfl, Nat.le_of_ble_eq_true rfl⟩ ⟨Nat.le_of_ble_eq_true rfl, Nat.le_of_ble_eq_true rfl⟩) (fun r_4 H locs ws_1 h u_2 p_3 => ?_)
  obtain ⟨e_5, e_6, e_7, e_8, e_9⟩ := p_3
  replace HE : FT = g1c_X11_fog (xso SC ad ws_1) r_4.toInt a1.toInt a2.toInt := HE.trans (by rw [e_5, e_6]; rfl)
  replace HE : FT = g2b_X11_fog (xso SC ad ws_1) r_4.toInt a1.toInt a2.toInt := HE.trans rfl
  refine y_if_ne (tgt := 11) C0 dX11_fog_5 (by decide) (fun c_10 => ?_) (fun c_10 => ?_)
  · -- 5
    replace HE : FT = g3_X11_fog (xso SC ad ws_1) a1.toInt a2.toInt := HE.trans (if_neg c_10)
    refine lv_iload_n C0.1 C0.2.1 dX11_fog_11 rfl (lv_at hl 2 rfl) ?_
    refine y_c1 (n := 1) C0 (by decide) dX11_fog_12 (fun v_11 e_12 => ?_)
    replace HE : FT = g5b_X11_fog (xso SC ad ws_1) a2.toInt a1.toInt := HE.trans rfl
    refine y_icmp_lt (tgt := 22) C0 dX11_fog_13 (by decide) (fun c_13 => ?_) (fun c_13 => ?_)
    · -- 13
      replace HE : FT = g6_X11_fog (xso SC ad ws_1) := HE.trans (if_pos (o27_52 e_12 c_13))
      refine y_c2 (n := (-3)) C0 (by decide) dX11_fog_22 (fun v_14 e_15 => ?_)
      replace HE : FT = ((xso SC ad ws_1), v_14.toInt) := HE.trans (by rw [e_15]; rfl)
      rw [hQ]
      exact y_iret C0 h (Fr.mono u_2 (by decide)) ⟨(congrArg Prod.fst (HE.symm.trans hFT)), (congrArg Prod.snd (HE.symm.trans hFT)), (o27_23 e_15), (o27_80 e_15), (Rel.fr (M := []) hR u_2 (by decide) (by decide)), (Hok.fr (M := []) hH u_2 (by decide))⟩ dX11_fog_24
    · -- 13
      replace HE : FT = g7_X11_fog (xso SC ad ws_1) a1.toInt a2.toInt := HE.trans (if_neg (o27_53 e_12 c_13))
      refine lv_iload_n C0.1 C0.2.1 dX11_fog_16 rfl (lv_at hl 2 rfl) ?_
      refine y_c2 (n := 99) C0 (by decide) dX11_fog_17 (fun v_16 e_17 => ?_)
      replace HE : FT = g8b_X11_fog (xso SC ad ws_1) a2.toInt a1.toInt := HE.trans rfl
      refine y_icmp_le (tgt := 25) C0 dX11_fog_19 (by decide) (fun c_18 => ?_) (fun c_18 => ?_)
      · -- 19
        replace HE : FT = g9_X11_fog (xso SC ad ws_1) a1.toInt a2.toInt := HE.trans (if_neg (o27_74 e_12 c_13 e_17 c_18))
        refine lv_aload_n C0.1 C0.2.1 dX11_fog_25 rfl (lv_at hl 0 rfl) ?_
        refine lv_aload_n C0.1 C0.2.1 dX11_fog_26 rfl (lv_at hl 0 rfl) ?_
        refine tg_X11_now C0 h kSC_0 q_515 dX11_fog_27 ?_
        refine tg_X0_folk C0 h kSC_1 q_249 dX11_fog_30 ?_
        refine y_cv h (y_rV (As := [.ref (ad 10)]) (rest := []) C0 hZ h (c_X11_keep l G Z ad _ h.2 10 kSC_10) k_X11_keep q_985 q_27 q_983 kSC_0 rfl rfl rfl hl.1 rfl rfl (Nat.le_of_ble_eq_true rfl) dX11_fog_33 ⟨Nat.le_of_ble_eq_true rfl, Nat.le_of_ble_eq_true rfl⟩ ⟨Nat.le_of_ble_eq_true rfl, Nat.le_of_ble_eq_true rfl⟩) (fun H locs ws_19 h u_20 p_21 => ?_)
        obtain ⟨e_22, e_23⟩ := p_21
        replace HE : FT = g11c_X11_fog (xso SC ad ws_19) a1.toInt a2.toInt := HE.trans (by rw [e_22]; rfl)
        refine lv_aload_n C0.1 C0.2.1 dX11_fog_36 rfl (lv_at hl 0 rfl) ?_
        refine tg_X11_now C0 h kSC_0 q_515 dX11_fog_37 ?_
        refine tg_X0_folk C0 h kSC_1 q_249 dX11_fog_40 ?_
        refine tg_X1_fogEnds C0 h kSC_10 q_211 dX11_fog_43 ?_
        refine lv_iload_n C0.1 C0.2.1 dX11_fog_46 rfl (lv_at hl 1 rfl) ?_
        refine lv_aload_n C0.1 C0.2.1 dX11_fog_47 rfl (lv_at hl 0 rfl) ?_
        refine tg_X11_now C0 h kSC_0 q_515 dX11_fog_48 ?_
        refine tg_X0_folk C0 h kSC_1 q_249 dX11_fog_51 ?_
        refine tg_X1_hours C0 h kSC_10 q_220 dX11_fog_54 (fun v_24 e_25 e_26 e_27 => ?_)
        refine lv_iload_n C0.1 C0.2.1 dX11_fog_57 rfl (lv_at hl 2 rfl) ?_
        refine xr_iadd C0 dX11_fog_58 (fun v_28 e_29 => ?_)
        have hO_32 := h.2
        refine y_iast C0 h kSC_17 rfl (by decide) (o27_20 e_7 e_8 e_9 c_10) (o27_21 e_7 e_8 e_9 c_10) (le_min v_28) (le_max v_28) dX11_fog_59 (fun H locs ws_30 h u_31 => ?_)
        replace HE : FT = g12w_X11_fog (xso SC ad ws_30) := HE.trans (by rw [(xso_A (i := 17) hO_32 h.2 kSC_17 rfl u_31), e_29, (xg0 e_25 : v_24.toInt = (xso SC ad ws_19) 0 10 8)]; rfl)
        refine lv_aload_n C0.1 C0.2.1 dX11_fog_60 rfl (lv_at hl 0 rfl) ?_
        refine tg_X11_forecast C0 h kSC_0 q_518 dX11_fog_61 ?_
        refine y_cv h (y_rV (As := []) (rest := []) C0 hZ h (c_X2_forget l G Z ad _ h.2) k_X2_forget q_878 q_879 q_877 kSC_79 rfl rfl rfl hl.1 rfl rfl (Nat.le_of_ble_eq_true rfl) dX11_fog_64 ⟨Nat.le_of_ble_eq_true rfl, Nat.le_of_ble_eq_true rfl⟩ ⟨Nat.le_of_ble_eq_true rfl, Nat.le_of_ble_eq_true rfl⟩) (fun H locs ws_33 h u_34 p_35 => ?_)
        have e_36 := p_35
        replace HE : FT = g13c_X11_fog (xso SC ad ws_33) := HE.trans (by rw [e_36]; rfl)
        refine lv_aload_n C0.1 C0.2.1 dX11_fog_67 rfl (lv_at hl 0 rfl) ?_
        refine tg_X11_now C0 h kSC_0 q_515 dX11_fog_68 ?_
        refine lv_aload_n C0.1 C0.2.1 dX11_fog_71 rfl (lv_at hl 0 rfl) ?_
        refine tg_X11_now C0 h kSC_0 q_515 dX11_fog_72 ?_
        refine tg_X0_folk C0 h kSC_1 q_249 dX11_fog_75 ?_
        refine tg_X1_hours C0 h kSC_10 q_220 dX11_fog_78 (fun v_37 e_38 e_39 e_40 => ?_)
        have qh_41 : v_37.toInt = v_24.toInt := congrArg Int32.toInt (e_38.symm.trans (Eq.trans (Eq.trans (Fr.fI u_34 kSC_10 (by decide)) (fI_of (u_31.1 10 (kd_ne kSC_10 kSC_17 (by decide))))) e_25))
        refine y_ci h (y_rV (As := [.int v_37]) (rest := []) C0 hZ h (c_X0_freeBits l G Z ad _ h.2 1 kSC_1 v_37) k_X0_freeBits q_948 q_949 q_947 kSC_1 rfl rfl rfl hl.1 rfl rfl (Nat.le_of_ble_eq_true rfl) dX11_fog_81 ⟨Nat.le_of_ble_eq_true rfl, Nat.le_of_ble_eq_true rfl⟩ ⟨Nat.le_of_ble_eq_true rfl, Nat.le_of_ble_eq_true rfl⟩) (fun r_45 H locs ws_42 h u_43 p_44 => ?_)
        obtain ⟨e_46, e_47⟩ := p_44
        replace HE : FT = g14c_X11_fog (xso SC ad ws_42) r_45.toInt := HE.trans (by rw [e_46, e_47, (xg0 e_38 : v_37.toInt = (xso SC ad ws_33) 0 10 8)]; rfl)
        refine y_ci h (y_rS (As := [.int r_45]) (rest := []) C0 hZ h (c_J6_bitCount_0f7a4 l G Z ad _ h.2 r_45) k_J6_bitCount_0f7a4 q_1035 q_1034 hl.1 rfl rfl (Nat.le_of_ble_eq_true rfl) dX11_fog_84 ⟨Nat.le_of_ble_eq_true rfl, Nat.le_of_ble_eq_true rfl⟩ ⟨Nat.le_of_ble_eq_true rfl, Nat.le_of_ble_eq_true rfl⟩) (fun r_51 H locs ws_48 h u_49 p_50 => ?_)
        obtain ⟨e_52, e_53, e_54, e_55⟩ := p_50
        replace HE : FT = g15c_X11_fog (xso SC ad ws_48) r_51.toInt := HE.trans (by rw [e_52, e_53]; rfl)
        replace HE : FT = ((xso SC ad ws_48), r_51.toInt) := HE.trans rfl
        rw [hQ]
        exact y_iret C0 h (Fr.tr (Fr.tr (Fr.tr (Fr.tr (Fr.tr (Fr.mono u_2 (by decide)) (Fr.mono u_20 (by decide))) (Fr.up u_31.1 kSC_17 (by decide))) (Fr.mono u_34 (by decide))) (Fr.mono u_43 (by decide))) (Fr.mono u_49 (by decide))) ⟨(congrArg Prod.fst (HE.symm.trans hFT)), (congrArg Prod.snd (HE.symm.trans hFT)), (o27_81 e_54 e_55), (o27_82 e_54 e_55), (Rel.fr (M := [0, 6, 7, 8, 9, 10, 11, 12, 13, 18]) hR (Fr.tr (Fr.tr (Fr.tr (Fr.tr (Fr.tr (Fr.mono u_2 (by decide)) (Fr.mono u_20 (by decide))) (Fr.up u_31.1 kSC_17 (by decide))) (Fr.mono u_34 (by decide))) (Fr.mono u_43 (by decide))) (Fr.mono u_49 (by decide))) (by decide) (by decide)), (Hok.fr (M := [0, 6, 7, 8, 9, 10, 11, 12, 13, 18]) hH (Fr.tr (Fr.tr (Fr.tr (Fr.tr (Fr.tr (Fr.mono u_2 (by decide)) (Fr.mono u_20 (by decide))) (Fr.up u_31.1 kSC_17 (by decide))) (Fr.mono u_34 (by decide))) (Fr.mono u_43 (by decide))) (Fr.mono u_49 (by decide))) (by decide))⟩ dX11_fog_87
      · -- 19
        replace HE : FT = g10_X11_fog (xso SC ad ws_1) := HE.trans (if_pos (o27_75 e_12 c_13 e_17 c_18))
        refine y_c2 (n := (-3)) C0 (by decide) dX11_fog_22 (fun v_56 e_57 => ?_)
        replace HE : FT = ((xso SC ad ws_1), v_56.toInt) := HE.trans (by rw [e_57]; rfl)
        rw [hQ]
        exact y_iret C0 h (Fr.mono u_2 (by decide)) ⟨(congrArg Prod.fst (HE.symm.trans hFT)), (congrArg Prod.snd (HE.symm.trans hFT)), (o27_23 e_57), (o27_80 e_57), (Rel.fr (M := []) hR u_2 (by decide) (by decide)), (Hok.fr (M := []) hH u_2 (by decide))⟩ dX11_fog_24
  · -- 5
    replace HE : FT = g4_X11_fog (xso SC ad ws_1) := HE.trans (if_pos c_10)
    refine y_c2 (n := (-2)) C0 (by decide) dX11_fog_8 (fun v_58 e_59 => ?_)
    replace HE : FT = ((xso SC ad ws_1), v_58.toInt) := HE.trans (by rw [e_59]; rfl)
    rw [hQ]
    exact y_iret C0 h (Fr.mono u_2 (by decide)) ⟨(congrArg Prod.fst (HE.symm.trans hFT)), (congrArg Prod.snd (HE.symm.trans hFT)), (o27_29 e_59), (o27_83 e_59), (Rel.fr (M := []) hR u_2 (by decide) (by decide)), (Hok.fr (M := []) hH u_2 (by decide))⟩ dX11_fog_10
noncomputable def g2_X11_hours (s : XS) : XR := (s, ((-3)))
noncomputable def g9c_X11_hours (s : XS) : XR := (s, (s 0 10 8))
noncomputable def g8w_X11_hours (s : XS) : XR := g9c_X11_hours ((f_X2_forget s).1)
noncomputable def g7c_X11_hours (s : XS) (a1 : Int) : XR := g8w_X11_hours (xup s 0 10 8 (Xiadd (s 0 10 8) a1))
noncomputable def g5_X11_hours (s : XS) (a1 : Int) : XR := g7c_X11_hours ((f_X11_keep s 10).1) a1
noncomputable def g6_X11_hours (s : XS) : XR := (s, ((-3)))
noncomputable def g4b_X11_hours (s : XS) (a1 : Int) : XR := if 99 < a1 then g6_X11_hours s else g5_X11_hours s a1
noncomputable def g3_X11_hours (s : XS) (a1 : Int) : XR := g4b_X11_hours s a1
noncomputable def g1b_X11_hours (s : XS) (a1 : Int) : XR := if a1 < 1 then g2_X11_hours s else g3_X11_hours s a1
noncomputable def f_X11_hours (s : XS) (a1 : Int) : XR := g1b_X11_hours s a1
set_option maxHeartbeats 4000000 in
set_option maxRecDepth 100000 in
theorem c_X11_hours (l : Launch) (G : GG) (Z : RZ) (ad : Nat → Nat) (ws0 : va_W) (hT : Ty G SC ad ws0) (a1 : Int32) (hR : Rel ws0) (hH : Hok ws0) : Mq l yX11_hours cX11_hours 2 (some .int) 3 G Z [.ref (ad 0), .int a1] ws0 (PI G SC ad [0, 6, 7, 8, 9, 10, 11, 12, 13, 18] ws0 (fun r u => (xso SC ad u = (f_X11_hours (xso SC ad ws0) a1.toInt).1) ∧ (r.toInt = (f_X11_hours (xso SC ad ws0) a1.toInt).2) ∧ (Rel u) ∧ (Hok u))) := by
  refine Mq.start (by decide) (Nat.le_of_ble_eq_true rfl) ?_
  intro p e s m below meth c A ls C0 hZ h hl
  have hl : lv_has ls 2 [(0, .ref (ad 0)), (1, .int a1)] := hl
  have h : Wt G SC ad A s s.heap [] ws0 := ⟨h, hT⟩
  obtain ⟨args, hargs⟩ : ∃ z, z = ([.ref (ad 0), .int a1] : List Value).toArray := ⟨_, rfl⟩
  rw [← hargs] at C0 ⊢
  have C0 : Cx p s m args meth c RX11 cX11_hours 2 (some .int) := C0
  obtain ⟨Q, hQ⟩ : ∃ z, z = MQ below ((PI G SC ad [0, 6, 7, 8, 9, 10, 11, 12, 13, 18] ws0 (fun r u => (xso SC ad u = (f_X11_hours (xso SC ad ws0) a1.toInt).1) ∧ (r.toInt = (f_X11_hours (xso SC ad ws0) a1.toInt).2) ∧ (Rel u) ∧ (Hok u))) A) args s 0 0 A := ⟨_, rfl⟩
  rw [← hQ]
  obtain ⟨FT, hFT⟩ : ∃ z, z = f_X11_hours (xso SC ad ws0) a1.toInt := ⟨_, rfl⟩
  have HE : FT = f_X11_hours (xso SC ad ws0) a1.toInt := hFT
  refine lv_iload_n C0.1 C0.2.1 dX11_hours_0 rfl (lv_at hl 1 rfl) ?_
  refine y_c1 (n := 1) C0 (by decide) dX11_hours_1 (fun v_1 e_2 => ?_)
  replace HE : FT = g1b_X11_hours (xso SC ad ws0) a1.toInt := HE.trans rfl
  refine y_icmp_lt (tgt := 11) C0 dX11_hours_2 (by decide) (fun c_3 => ?_) (fun c_3 => ?_)
  · -- 2
    replace HE : FT = g2_X11_hours (xso SC ad ws0) := HE.trans (if_pos (o27_52 e_2 c_3))
    refine y_c2 (n := (-3)) C0 (by decide) dX11_hours_11 (fun v_4 e_5 => ?_)
    replace HE : FT = ((xso SC ad ws0), v_4.toInt) := HE.trans (by rw [e_5]; rfl)
    rw [hQ]
    exact y_iret C0 h Fr.rf ⟨(congrArg Prod.fst (HE.symm.trans hFT)), (congrArg Prod.snd (HE.symm.trans hFT)), hR, hH⟩ dX11_hours_13
  · -- 2
    replace HE : FT = g3_X11_hours (xso SC ad ws0) a1.toInt := HE.trans (if_neg (o27_53 e_2 c_3))
    refine lv_iload_n C0.1 C0.2.1 dX11_hours_5 rfl (lv_at hl 1 rfl) ?_
    refine y_c2 (n := 99) C0 (by decide) dX11_hours_6 (fun v_6 e_7 => ?_)
    replace HE : FT = g4b_X11_hours (xso SC ad ws0) a1.toInt := HE.trans rfl
    refine y_icmp_le (tgt := 14) C0 dX11_hours_8 (by decide) (fun c_8 => ?_) (fun c_8 => ?_)
    · -- 8
      replace HE : FT = g5_X11_hours (xso SC ad ws0) a1.toInt := HE.trans (if_neg (o27_74 e_2 c_3 e_7 c_8))
      refine lv_aload_n C0.1 C0.2.1 dX11_hours_14 rfl (lv_at hl 0 rfl) ?_
      refine lv_aload_n C0.1 C0.2.1 dX11_hours_15 rfl (lv_at hl 0 rfl) ?_
      refine tg_X11_now C0 h kSC_0 q_515 dX11_hours_16 ?_
      refine tg_X0_folk C0 h kSC_1 q_249 dX11_hours_19 ?_
      refine y_cv h (y_rV (As := [.ref (ad 10)]) (rest := []) C0 hZ h (c_X11_keep l G Z ad _ h.2 10 kSC_10) k_X11_keep q_985 q_27 q_983 kSC_0 rfl rfl rfl hl.1 rfl rfl (Nat.le_of_ble_eq_true rfl) dX11_hours_22 ⟨Nat.le_of_ble_eq_true rfl, Nat.le_of_ble_eq_true rfl⟩ ⟨Nat.le_of_ble_eq_true rfl, Nat.le_of_ble_eq_true rfl⟩) (fun H locs ws_9 h u_10 p_11 => ?_)
      obtain ⟨e_12, e_13⟩ := p_11
      replace HE : FT = g7c_X11_hours (xso SC ad ws_9) a1.toInt := HE.trans (by rw [e_12]; rfl)
      refine lv_aload_n C0.1 C0.2.1 dX11_hours_25 rfl (lv_at hl 0 rfl) ?_
      refine tg_X11_now C0 h kSC_0 q_515 dX11_hours_26 ?_
      refine tg_X0_folk C0 h kSC_1 q_249 dX11_hours_29 ?_
      refine lv_dup C0.1 C0.2.1 dX11_hours_32 rfl ?_
      refine tg_X1_hours C0 h kSC_10 q_220 dX11_hours_33 (fun v_14 e_15 e_16 e_17 => ?_)
      refine lv_iload_n C0.1 C0.2.1 dX11_hours_36 rfl (lv_at hl 1 rfl) ?_
      refine xr_iadd C0 dX11_hours_37 (fun v_18 e_19 => ?_)
      refine tp_X1_hours C0 h kSC_10 q_220 (le_min v_18) (le_max v_18) dX11_hours_38 (fun H locs ws_20 h u_21 Xu_21 => ?_)
      replace HE : FT = g8w_X11_hours (xso SC ad ws_20) := HE.trans (by rw [Xu_21, e_19, (xg0 e_15 : v_14.toInt = (xso SC ad ws_9) 0 10 8)]; rfl)
      refine lv_aload_n C0.1 C0.2.1 dX11_hours_41 rfl (lv_at hl 0 rfl) ?_
      refine tg_X11_forecast C0 h kSC_0 q_518 dX11_hours_42 ?_
      refine y_cv h (y_rV (As := []) (rest := []) C0 hZ h (c_X2_forget l G Z ad _ h.2) k_X2_forget q_878 q_879 q_877 kSC_79 rfl rfl rfl hl.1 rfl rfl (Nat.le_of_ble_eq_true rfl) dX11_hours_45 ⟨Nat.le_of_ble_eq_true rfl, Nat.le_of_ble_eq_true rfl⟩ ⟨Nat.le_of_ble_eq_true rfl, Nat.le_of_ble_eq_true rfl⟩) (fun H locs ws_22 h u_23 p_24 => ?_)
      have e_25 := p_24
      replace HE : FT = g9c_X11_hours (xso SC ad ws_22) := HE.trans (by rw [e_25]; rfl)
      refine lv_aload_n C0.1 C0.2.1 dX11_hours_48 rfl (lv_at hl 0 rfl) ?_
      refine tg_X11_now C0 h kSC_0 q_515 dX11_hours_49 ?_
      refine tg_X0_folk C0 h kSC_1 q_249 dX11_hours_52 ?_
      refine tg_X1_hours C0 h kSC_10 q_220 dX11_hours_55 (fun v_26 e_27 e_28 e_29 => ?_)
      have qh_30 : v_26.toInt = v_18.toInt := congrArg Int32.toInt (e_27.symm.trans (Eq.trans (Fr.fI u_23 kSC_10 (by decide)) u_21.2.1))
      replace HE : FT = ((xso SC ad ws_22), v_26.toInt) := HE.trans (by rw [(xg0 e_27 : v_26.toInt = (xso SC ad ws_22) 0 10 8)]; rfl)
      rw [hQ]
      exact y_iret C0 h (Fr.tr (Fr.tr (Fr.mono u_10 (by decide)) (Fr.up u_21.1 kSC_10 (by decide))) (Fr.mono u_23 (by decide))) ⟨(congrArg Prod.fst (HE.symm.trans hFT)), (congrArg Prod.snd (HE.symm.trans hFT)), (Rel.fr (M := [0, 6, 7, 8, 9, 10, 11, 12, 13, 18]) hR (Fr.tr (Fr.tr (Fr.mono u_10 (by decide)) (Fr.up u_21.1 kSC_10 (by decide))) (Fr.mono u_23 (by decide))) (by decide) (by decide)), (Hok.fr (M := [0, 6, 7, 8, 9, 10, 11, 12, 13, 18]) hH (Fr.tr (Fr.tr (Fr.mono u_10 (by decide)) (Fr.up u_21.1 kSC_10 (by decide))) (Fr.mono u_23 (by decide))) (by decide))⟩ dX11_hours_58
    · -- 8
      replace HE : FT = g6_X11_hours (xso SC ad ws0) := HE.trans (if_pos (o27_75 e_2 c_3 e_7 c_8))
      refine y_c2 (n := (-3)) C0 (by decide) dX11_hours_11 (fun v_31 e_32 => ?_)
      replace HE : FT = ((xso SC ad ws0), v_31.toInt) := HE.trans (by rw [e_32]; rfl)
      rw [hQ]
      exact y_iret C0 h Fr.rf ⟨(congrArg Prod.fst (HE.symm.trans hFT)), (congrArg Prod.snd (HE.symm.trans hFT)), hR, hH⟩ dX11_hours_13
noncomputable def g2_X11_undo (s : XS) : XR := (s, ((-3)))
noncomputable def g9c_X11_undo (s : XS) : XR := (s, (s 0 0 17))
noncomputable def g8c_X11_undo (s : XS) : XR := g9c_X11_undo ((f_X2_forget s).1)
noncomputable def g7w_X11_undo (s : XS) : XR := g8c_X11_undo ((f_X1_copy s 10 (119 + 8 * Int.toNat (((s 0 0 16) + (s 0 0 17)) % 10))).1)
noncomputable def g5_X11_undo (s : XS) (a1 : Int) : XR := g7w_X11_undo (xup s 0 0 17 ((s 0 0 17) - a1))
noncomputable def g6_X11_undo (s : XS) : XR := (s, ((-3)))
noncomputable def g4b_X11_undo (s : XS) (v_6 : Int) (a1 : Int) : XR := if v_6 < a1 then g6_X11_undo s else g5_X11_undo s a1
noncomputable def g3_X11_undo (s : XS) (a1 : Int) : XR := g4b_X11_undo s ((s 0 0 17)) a1
noncomputable def g1b_X11_undo (s : XS) (a1 : Int) : XR := if a1 < 1 then g2_X11_undo s else g3_X11_undo s a1
noncomputable def f_X11_undo (s : XS) (a1 : Int) : XR := g1b_X11_undo s a1
set_option maxHeartbeats 4000000 in
set_option maxRecDepth 100000 in
theorem c_X11_undo (l : Launch) (G : GG) (Z : RZ) (ad : Nat → Nat) (ws0 : va_W) (hT : Ty G SC ad ws0) (a1 : Int32) (hR : Rel ws0) (hH : Hok ws0) : Mq l yX11_undo cX11_undo 2 (some .int) 2 G Z [.ref (ad 0), .int a1] ws0 (PI G SC ad [0, 6, 7, 8, 9, 10, 11, 12, 13, 18] ws0 (fun r u => (xso SC ad u = (f_X11_undo (xso SC ad ws0) a1.toInt).1) ∧ (r.toInt = (f_X11_undo (xso SC ad ws0) a1.toInt).2) ∧ ((-3) ≤ r.toInt) ∧ (r.toInt ≤ 9) ∧ (Rel u) ∧ (Hok u))) := by
  refine Mq.start (by decide) (Nat.le_of_ble_eq_true rfl) ?_
  intro p e s m below meth c A ls C0 hZ h hl
  have hl : lv_has ls 2 [(0, .ref (ad 0)), (1, .int a1)] := hl
  have h : Wt G SC ad A s s.heap [] ws0 := ⟨h, hT⟩
  obtain ⟨args, hargs⟩ : ∃ z, z = ([.ref (ad 0), .int a1] : List Value).toArray := ⟨_, rfl⟩
  rw [← hargs] at C0 ⊢
  have C0 : Cx p s m args meth c RX11 cX11_undo 2 (some .int) := C0
  obtain ⟨Q, hQ⟩ : ∃ z, z = MQ below ((PI G SC ad [0, 6, 7, 8, 9, 10, 11, 12, 13, 18] ws0 (fun r u => (xso SC ad u = (f_X11_undo (xso SC ad ws0) a1.toInt).1) ∧ (r.toInt = (f_X11_undo (xso SC ad ws0) a1.toInt).2) ∧ ((-3) ≤ r.toInt) ∧ (r.toInt ≤ 9) ∧ (Rel u) ∧ (Hok u))) A) args s 0 0 A := ⟨_, rfl⟩
  rw [← hQ]
  obtain ⟨FT, hFT⟩ : ∃ z, z = f_X11_undo (xso SC ad ws0) a1.toInt := ⟨_, rfl⟩
  have HE : FT = f_X11_undo (xso SC ad ws0) a1.toInt := hFT
  refine lv_iload_n C0.1 C0.2.1 dX11_undo_0 rfl (lv_at hl 1 rfl) ?_
  refine y_c1 (n := 1) C0 (by decide) dX11_undo_1 (fun v_1 e_2 => ?_)
  replace HE : FT = g1b_X11_undo (xso SC ad ws0) a1.toInt := HE.trans rfl
  refine y_icmp_lt (tgt := 13) C0 dX11_undo_2 (by decide) (fun c_3 => ?_) (fun c_3 => ?_)
  · -- 2
    replace HE : FT = g2_X11_undo (xso SC ad ws0) := HE.trans (if_pos (o27_52 e_2 c_3))
    refine y_c2 (n := (-3)) C0 (by decide) dX11_undo_13 (fun v_4 e_5 => ?_)
    replace HE : FT = ((xso SC ad ws0), v_4.toInt) := HE.trans (by rw [e_5]; rfl)
    rw [hQ]
    exact y_iret C0 h Fr.rf ⟨(congrArg Prod.fst (HE.symm.trans hFT)), (congrArg Prod.snd (HE.symm.trans hFT)), (o27_23 e_5), (o27_84 e_5), hR, hH⟩ dX11_undo_15
  · -- 2
    replace HE : FT = g3_X11_undo (xso SC ad ws0) a1.toInt := HE.trans (if_neg (o27_53 e_2 c_3))
    refine lv_iload_n C0.1 C0.2.1 dX11_undo_5 rfl (lv_at hl 1 rfl) ?_
    refine lv_aload_n C0.1 C0.2.1 dX11_undo_6 rfl (lv_at hl 0 rfl) ?_
    refine tg_X11_pastSize C0 h kSC_0 q_532 dX11_undo_7 (fun v_6 e_7 e_8 e_9 => ?_)
    replace HE : FT = g4b_X11_undo (xso SC ad ws0) v_6.toInt a1.toInt := HE.trans (by rw [(xg0 e_7 : v_6.toInt = (xso SC ad ws0) 0 0 17)]; rfl)
    refine y_icmp_le (tgt := 16) C0 dX11_undo_10 (by decide) (fun c_10 => ?_) (fun c_10 => ?_)
    · -- 10
      replace HE : FT = g5_X11_undo (xso SC ad ws0) a1.toInt := HE.trans (if_neg (Int.not_lt.mpr c_10))
      refine lv_aload_n C0.1 C0.2.1 dX11_undo_16 rfl (lv_at hl 0 rfl) ?_
      refine lv_dup C0.1 C0.2.1 dX11_undo_17 rfl ?_
      refine tg_X11_pastSize C0 h kSC_0 q_532 dX11_undo_18 (fun v_11 e_12 e_13 e_14 => ?_)
      have qh_15 : v_11.toInt = v_6.toInt := congrArg Int32.toInt (e_12.symm.trans (Eq.trans rfl e_7))
      refine lv_iload_n C0.1 C0.2.1 dX11_undo_21 rfl (lv_at hl 1 rfl) ?_
      refine y_sub C0 (o27_85 e_2 c_3 e_8 e_9 c_10 e_13 e_14 qh_15 (le_min v_11) (le_max v_11) (le_min a1) (le_max a1) (le_min v_1) (le_max v_1) (le_min v_6) (le_max v_6)) (o27_86 e_2 c_3 e_8 e_9 c_10 e_13 e_14 qh_15 (le_min v_11) (le_max v_11) (le_min a1) (le_max a1) (le_min v_1) (le_max v_1) (le_min v_6) (le_max v_6)) dX11_undo_22 (fun v_16 e_17 => ?_)
      refine tp_X11_pastSize C0 h kSC_0 q_532 (o27_87 e_2 c_3 e_8 e_9 c_10 e_13 e_14 qh_15 e_17) (o27_88 e_2 c_3 e_8 e_9 c_10 e_13 e_14 qh_15 e_17) dX11_undo_23 (fun H locs ws_18 h u_19 Xu_19 => ?_)
      replace HE : FT = g7w_X11_undo (xso SC ad ws_18) := HE.trans (by rw [Xu_19, e_17, (xg0 e_12 : v_11.toInt = (xso SC ad ws0) 0 0 17)]; rfl)
      refine lv_aload_n C0.1 C0.2.1 dX11_undo_26 rfl (lv_at hl 0 rfl) ?_
      refine tg_X11_now C0 h kSC_0 q_515 dX11_undo_27 ?_
      refine tg_X0_folk C0 h kSC_1 q_249 dX11_undo_30 ?_
      refine lv_aload_n C0.1 C0.2.1 dX11_undo_33 rfl (lv_at hl 0 rfl) ?_
      refine tg_X11_past C0 h kSC_0 q_527 dX11_undo_34 ?_
      refine lv_aload_n C0.1 C0.2.1 dX11_undo_37 rfl (lv_at hl 0 rfl) ?_
      refine tg_X11_pastFirst C0 h kSC_0 q_531 dX11_undo_38 (fun v_20 e_21 e_22 e_23 => ?_)
      refine lv_aload_n C0.1 C0.2.1 dX11_undo_41 rfl (lv_at hl 0 rfl) ?_
      refine tg_X11_pastSize C0 h kSC_0 q_532 dX11_undo_42 (fun v_24 e_25 e_26 e_27 => ?_)
      have qh_28 : v_24.toInt = v_16.toInt := congrArg Int32.toInt (e_25.symm.trans (Eq.trans rfl u_19.2.1))
      refine y_add C0 (o27_89 e_2 c_3 e_8 e_9 c_10 e_13 e_14 qh_15 e_17 e_22 e_23 e_26 e_27 qh_28 (le_min v_20) (le_max v_20) (le_min v_24) (le_max v_24) (le_min v_1) (le_max v_1) (le_min a1) (le_max a1) (le_min v_6) (le_max v_6) (le_min v_11) (le_max v_11) (le_min v_16) (le_max v_16)) (o27_90 e_2 c_3 e_8 e_9 c_10 e_13 e_14 qh_15 e_17 e_22 e_23 e_26 e_27 qh_28 (le_min v_20) (le_max v_20) (le_min v_24) (le_max v_24) (le_min v_1) (le_max v_1) (le_min a1) (le_max a1) (le_min v_6) (le_max v_6) (le_min v_11) (le_max v_11) (le_min v_16) (le_max v_16)) dX11_undo_45 (fun v_29 e_30 => ?_)
      refine y_c2 (n := 10) C0 (by decide) dX11_undo_46 (fun v_31 e_32 => ?_)
      refine y_remc (n := 10) C0 (o27_91 e_32) (by decide) (o27_92 e_2 c_3 e_8 e_9 c_10 e_13 e_14 qh_15 e_17 e_22 e_23 e_26 e_27 qh_28 e_30) dX11_undo_48 (fun v_33 e_34 => ?_)
      refine y_aald C0 h kSC_118 rfl rfl (by decide) (o27_93 e_2 c_3 e_8 e_9 c_10 e_13 e_14 qh_15 e_17 e_22 e_23 e_26 e_27 qh_28 e_30 e_34) (o27_94 e_2 c_3 e_8 e_9 c_10 e_13 e_14 qh_15 e_17 e_22 e_23 e_26 e_27 qh_28 e_30 e_34) dX11_undo_49 ?_
      obtain ⟨i_35, hi_35, ei_35⟩ : ∃ j : Nat, Kd SC j 6 ∧ j = 119 + 8 * v_33.toInt.toNat := ⟨_, aSC_47 (o27_95 e_2 c_3 e_8 e_9 c_10 e_13 e_14 qh_15 e_17 e_22 e_23 e_26 e_27 qh_28 e_30 e_34), rfl⟩
      rw [← ei_35]
      refine y_cv h (y_rV (As := [.ref (ad i_35)]) (rest := []) C0 hZ h (c_X1_copy l G Z ad _ h.2 10 kSC_10 i_35 hi_35) k_X1_copy q_868 q_869 q_987 kSC_10 rfl rfl rfl hl.1 rfl rfl (Nat.le_of_ble_eq_true rfl) dX11_undo_50 ⟨Nat.le_of_ble_eq_true rfl, Nat.le_of_ble_eq_true rfl⟩ ⟨Nat.le_of_ble_eq_true rfl, Nat.le_of_ble_eq_true rfl⟩) (fun H locs ws_36 h u_37 p_38 => ?_)
      obtain ⟨e_39, e_40⟩ := p_38
      replace HE : FT = g8c_X11_undo (xso SC ad ws_36) := HE.trans (by rw [e_39, ei_35, e_34, e_30, (xg0 e_25 : v_24.toInt = (xso SC ad ws_18) 0 0 17), (xg0 e_21 : v_20.toInt = (xso SC ad ws_18) 0 0 16)]; rfl)
      refine lv_aload_n C0.1 C0.2.1 dX11_undo_53 rfl (lv_at hl 0 rfl) ?_
      refine tg_X11_forecast C0 h kSC_0 q_518 dX11_undo_54 ?_
      refine y_cv h (y_rV (As := []) (rest := []) C0 hZ h (c_X2_forget l G Z ad _ h.2) k_X2_forget q_878 q_879 q_877 kSC_79 rfl rfl rfl hl.1 rfl rfl (Nat.le_of_ble_eq_true rfl) dX11_undo_57 ⟨Nat.le_of_ble_eq_true rfl, Nat.le_of_ble_eq_true rfl⟩ ⟨Nat.le_of_ble_eq_true rfl, Nat.le_of_ble_eq_true rfl⟩) (fun H locs ws_41 h u_42 p_43 => ?_)
      have e_44 := p_43
      replace HE : FT = g9c_X11_undo (xso SC ad ws_41) := HE.trans (by rw [e_44]; rfl)
      refine lv_aload_n C0.1 C0.2.1 dX11_undo_60 rfl (lv_at hl 0 rfl) ?_
      refine tg_X11_pastSize C0 h kSC_0 q_532 dX11_undo_61 (fun v_45 e_46 e_47 e_48 => ?_)
      have qh_49 : v_45.toInt = v_16.toInt := congrArg Int32.toInt (e_46.symm.trans (Eq.trans (Eq.trans (Fr.fI u_42 kSC_0 (by decide)) (Fr.fI u_37 kSC_0 (by decide))) u_19.2.1))
      replace HE : FT = ((xso SC ad ws_41), v_45.toInt) := HE.trans (by rw [(xg0 e_46 : v_45.toInt = (xso SC ad ws_41) 0 0 17)]; rfl)
      rw [hQ]
      exact y_iret C0 h (Fr.tr (Fr.tr (Fr.up u_19.1 kSC_0 (by decide)) (Fr.mono u_37 (by decide))) (Fr.mono u_42 (by decide))) ⟨(congrArg Prod.fst (HE.symm.trans hFT)), (congrArg Prod.snd (HE.symm.trans hFT)), (o27_96 e_2 c_3 e_8 e_9 c_10 e_13 e_14 qh_15 e_17 e_22 e_23 e_26 e_27 qh_28 e_30 e_34 e_47 e_48 qh_49), (o27_97 e_2 c_3 e_8 e_9 c_10 e_13 e_14 qh_15 e_17 e_22 e_23 e_26 e_27 qh_28 e_30 e_34 e_47 e_48 qh_49), (Rel.fr (M := [0, 6, 7, 8, 9, 10, 11, 12, 13, 18]) hR (Fr.tr (Fr.tr (Fr.up u_19.1 kSC_0 (by decide)) (Fr.mono u_37 (by decide))) (Fr.mono u_42 (by decide))) (by decide) (by decide)), (Hok.fr (M := [0, 6, 7, 8, 9, 10, 11, 12, 13, 18]) hH (Fr.tr (Fr.tr (Fr.up u_19.1 kSC_0 (by decide)) (Fr.mono u_37 (by decide))) (Fr.mono u_42 (by decide))) (by decide))⟩ dX11_undo_64
    · -- 10
      replace HE : FT = g6_X11_undo (xso SC ad ws0) := HE.trans (if_pos c_10)
      refine y_c2 (n := (-3)) C0 (by decide) dX11_undo_13 (fun v_50 e_51 => ?_)
      replace HE : FT = ((xso SC ad ws0), v_50.toInt) := HE.trans (by rw [e_51]; rfl)
      rw [hQ]
      exact y_iret C0 h Fr.rf ⟨(congrArg Prod.fst (HE.symm.trans hFT)), (congrArg Prod.snd (HE.symm.trans hFT)), (o27_23 e_51), (o27_84 e_51), hR, hH⟩ dX11_undo_15
noncomputable def g2_X11_week (s : XS) : XR := (s, ((-3)))
noncomputable def g18_X11_week (s : XS) (x3_26 : Int) : XR := (s, x3_26)
noncomputable def g21c_X11_week (s : XS) (x3_26 : Int) : XR := (s, x3_26)
noncomputable def g20c_X11_week (s : XS) (x3_26 : Int) : XR := g21c_X11_week ((f_X2_forget s).1) x3_26
noncomputable def g19_X11_week (s : XS) (x3_26 : Int) : XR := g20c_X11_week ((f_X11_keep s 199).1) x3_26
noncomputable def g17b_X11_week (s : XS) (x3_26 : Int) : XR := if 0 < x3_26 then g19_X11_week s x3_26 else g18_X11_week s x3_26
noncomputable def g15_X11_week (s : XS) (x3_26 : Int) : XR := g17b_X11_week s x3_26
noncomputable def g24_X11_week (R54 : XS → Int → Int → Int → XR) (s : XS) (a2 : Int) (x3_26 : Int) (x4_25 : Int) : XR := R54 s a2 x3_26 ((x4_25 + 1))
noncomputable def g25_X11_week (R54 : XS → Int → Int → Int → XR) (s : XS) (a2 : Int) (x3_26 : Int) (x4_25 : Int) : XR := R54 s a2 ((Xiadd x3_26 1)) ((x4_25 + 1))
noncomputable def g23b_X11_week (R54 : XS → Int → Int → Int → XR) (s : XS) (r_49 : Int) (a2 : Int) (x3_26 : Int) (x4_25 : Int) : XR := if r_49 = 0 then g24_X11_week R54 s a2 x3_26 x4_25 else g25_X11_week R54 s a2 x3_26 x4_25
noncomputable def g22c_X11_week (R54 : XS → Int → Int → Int → XR) (s : XS) (r_49 : Int) (a2 : Int) (x3_26 : Int) (x4_25 : Int) : XR := g23b_X11_week R54 s r_49 a2 x3_26 x4_25
noncomputable def g16_X11_week (R54 : XS → Int → Int → Int → XR) (s : XS) (a2 : Int) (x3_26 : Int) (x4_25 : Int) : XR := g22c_X11_week R54 ((f_X11_liveOnce s).1) (((f_X11_liveOnce s).2)) a2 x3_26 x4_25
noncomputable def g14b_X11_week (R54 : XS → Int → Int → Int → XR) (s : XS) (a2 : Int) (x4_25 : Int) (x3_26 : Int) : XR := if x4_25 < a2 then g16_X11_week R54 s a2 x3_26 x4_25 else g15_X11_week s x3_26
noncomputable def g13l_X11_week (R54 : XS → Int → Int → Int → XR) (s : XS) (a2 : Int) (x3_26 : Int) (x4_25 : Int) : XR := g14b_X11_week R54 s a2 x4_25 x3_26
noncomputable def L12_X11_week (n : Nat) : XS → Int → Int → Int → XR := Nat.rec (motive := fun _ => XS → Int → Int → Int → XR) (fun s _ _ _ => (s, 0)) (fun _ R54 => g13l_X11_week R54) n
noncomputable def g11w_X11_week (s : XS) (a2 : Int) : XR := L12_X11_week (Int.toNat (60 - 0 + 1)) s a2 0 0
noncomputable def g10c_X11_week (s : XS) (a1 : Int) (a2 : Int) : XR := g11w_X11_week (xup s 0 0 18 a1) a2
noncomputable def g8_X11_week (s : XS) (a1 : Int) (a2 : Int) : XR := g10c_X11_week ((f_X1_copy s 199 10).1) a1 a2
noncomputable def g9_X11_week (s : XS) : XR := (s, ((-5)))
noncomputable def g7b_X11_week (s : XS) (v_9 : Int) (a1 : Int) (a2 : Int) : XR := if v_9 = 0 then g9_X11_week s else g8_X11_week s a1 a2
noncomputable def g5_X11_week (s : XS) (a1 : Int) (a2 : Int) : XR := g7b_X11_week s ((s 0 10 7)) a1 a2
noncomputable def g6_X11_week (s : XS) : XR := (s, ((-3)))
noncomputable def g4b_X11_week (s : XS) (a2 : Int) (a1 : Int) : XR := if 60 < a2 then g6_X11_week s else g5_X11_week s a1 a2
noncomputable def g3_X11_week (s : XS) (a1 : Int) (a2 : Int) : XR := g4b_X11_week s a2 a1
noncomputable def g1b_X11_week (s : XS) (a2 : Int) (a1 : Int) : XR := if a2 < 1 then g2_X11_week s else g3_X11_week s a1 a2
noncomputable def f_X11_week (s : XS) (a1 : Int) (a2 : Int) : XR := g1b_X11_week s a2 a1
set_option maxHeartbeats 4000000 in
set_option maxRecDepth 100000 in
theorem c_X11_week (l : Launch) (G : GG) (Z : RZ) (ad : Nat → Nat) (ws0 : va_W) (hT : Ty G SC ad ws0) (a1 : Int32) (a2 : Int32) (hR : Rel ws0) (hH : Hok ws0) : Mq l yX11_week cX11_week 5 (some .int) 6 G Z [.ref (ad 0), .int a1, .int a2] ws0 (PI G SC ad [0, 4, 5, 6, 7, 8, 9, 10, 11, 12, 13, 18] ws0 (fun r u => (xso SC ad u = (f_X11_week (xso SC ad ws0) a1.toInt a2.toInt).1) ∧ (r.toInt = (f_X11_week (xso SC ad ws0) a1.toInt a2.toInt).2) ∧ (Rel u) ∧ (Hok u))) := by
  refine Mq.start (by decide) (Nat.le_of_ble_eq_true rfl) ?_
  intro p e s m below meth c A ls C0 hZ h hl
  have hl : lv_has ls 5 [(0, .ref (ad 0)), (1, .int a1), (2, .int a2)] := hl
  have h : Wt G SC ad A s s.heap [] ws0 := ⟨h, hT⟩
  obtain ⟨args, hargs⟩ : ∃ z, z = ([.ref (ad 0), .int a1, .int a2] : List Value).toArray := ⟨_, rfl⟩
  rw [← hargs] at C0 ⊢
  have C0 : Cx p s m args meth c RX11 cX11_week 5 (some .int) := C0
  obtain ⟨Q, hQ⟩ : ∃ z, z = MQ below ((PI G SC ad [0, 4, 5, 6, 7, 8, 9, 10, 11, 12, 13, 18] ws0 (fun r u => (xso SC ad u = (f_X11_week (xso SC ad ws0) a1.toInt a2.toInt).1) ∧ (r.toInt = (f_X11_week (xso SC ad ws0) a1.toInt a2.toInt).2) ∧ (Rel u) ∧ (Hok u))) A) args s 0 0 A := ⟨_, rfl⟩
  rw [← hQ]
  obtain ⟨FT, hFT⟩ : ∃ z, z = f_X11_week (xso SC ad ws0) a1.toInt a2.toInt := ⟨_, rfl⟩
  have HE : FT = f_X11_week (xso SC ad ws0) a1.toInt a2.toInt := hFT
  refine lv_iload_n C0.1 C0.2.1 dX11_week_0 rfl (lv_at hl 2 rfl) ?_
  refine y_c1 (n := 1) C0 (by decide) dX11_week_1 (fun v_1 e_2 => ?_)
  replace HE : FT = g1b_X11_week (xso SC ad ws0) a2.toInt a1.toInt := HE.trans rfl
  refine y_icmp_lt (tgt := 11) C0 dX11_week_2 (by decide) (fun c_3 => ?_) (fun c_3 => ?_)
  · -- 2
    replace HE : FT = g2_X11_week (xso SC ad ws0) := HE.trans (if_pos (o27_52 e_2 c_3))
    refine y_c2 (n := (-3)) C0 (by decide) dX11_week_11 (fun v_4 e_5 => ?_)
    replace HE : FT = ((xso SC ad ws0), v_4.toInt) := HE.trans (by rw [e_5]; rfl)
    rw [hQ]
    exact y_iret C0 h Fr.rf ⟨(congrArg Prod.fst (HE.symm.trans hFT)), (congrArg Prod.snd (HE.symm.trans hFT)), hR, hH⟩ dX11_week_13
  · -- 2
    replace HE : FT = g3_X11_week (xso SC ad ws0) a1.toInt a2.toInt := HE.trans (if_neg (o27_53 e_2 c_3))
    refine lv_iload_n C0.1 C0.2.1 dX11_week_5 rfl (lv_at hl 2 rfl) ?_
    refine y_c2 (n := 60) C0 (by decide) dX11_week_6 (fun v_6 e_7 => ?_)
    replace HE : FT = g4b_X11_week (xso SC ad ws0) a2.toInt a1.toInt := HE.trans rfl
    refine y_icmp_le (tgt := 14) C0 dX11_week_8 (by decide) (fun c_8 => ?_) (fun c_8 => ?_)
    · -- 8
      replace HE : FT = g5_X11_week (xso SC ad ws0) a1.toInt a2.toInt := HE.trans (if_neg (o27_99 e_2 c_3 e_7 c_8))
      refine lv_aload_n C0.1 C0.2.1 dX11_week_14 rfl (lv_at hl 0 rfl) ?_
      refine tg_X11_now C0 h kSC_0 q_515 dX11_week_15 ?_
      refine tg_X0_folk C0 h kSC_1 q_249 dX11_week_18 ?_
      refine tg_X1_people C0 h kSC_10 q_215 dX11_week_21 (fun v_9 e_10 e_11 e_12 => ?_)
      replace HE : FT = g7b_X11_week (xso SC ad ws0) v_9.toInt a1.toInt a2.toInt := HE.trans (by rw [(xg0 e_10 : v_9.toInt = (xso SC ad ws0) 0 10 7)]; rfl)
      refine y_if_ne (tgt := 30) C0 dX11_week_24 (by decide) (fun c_13 => ?_) (fun c_13 => ?_)
      · -- 24
        replace HE : FT = g8_X11_week (xso SC ad ws0) a1.toInt a2.toInt := HE.trans (if_neg c_13)
        refine lv_aload_n C0.1 C0.2.1 dX11_week_30 rfl (lv_at hl 0 rfl) ?_
        refine tg_X11_before C0 h kSC_0 q_528 dX11_week_31 ?_
        refine lv_aload_n C0.1 C0.2.1 dX11_week_34 rfl (lv_at hl 0 rfl) ?_
        refine tg_X11_now C0 h kSC_0 q_515 dX11_week_35 ?_
        refine tg_X0_folk C0 h kSC_1 q_249 dX11_week_38 ?_
        refine y_cv h (y_rV (As := [.ref (ad 10)]) (rest := []) C0 hZ h (c_X1_copy l G Z ad _ h.2 199 kSC_199 10 kSC_10) k_X1_copy q_868 q_869 q_987 kSC_199 rfl rfl rfl hl.1 rfl rfl (Nat.le_of_ble_eq_true rfl) dX11_week_41 ⟨Nat.le_of_ble_eq_true rfl, Nat.le_of_ble_eq_true rfl⟩ ⟨Nat.le_of_ble_eq_true rfl, Nat.le_of_ble_eq_true rfl⟩) (fun H locs ws_14 h u_15 p_16 => ?_)
        obtain ⟨e_17, e_18⟩ := p_16
        replace HE : FT = g10c_X11_week (xso SC ad ws_14) a1.toInt a2.toInt := HE.trans (by rw [e_17]; rfl)
        refine lv_aload_n C0.1 C0.2.1 dX11_week_44 rfl (lv_at hl 0 rfl) ?_
        refine lv_iload_n C0.1 C0.2.1 dX11_week_45 rfl (lv_at hl 1 rfl) ?_
        refine tp_X11_seed C0 h kSC_0 q_533 (le_min a1) (le_max a1) dX11_week_46 (fun H locs ws_19 h u_20 Xu_20 => ?_)
        replace HE : FT = g11w_X11_week (xso SC ad ws_19) a2.toInt := HE.trans (by rw [Xu_20]; rfl)
        refine y_c1 (n := 0) C0 (by decide) dX11_week_49 (fun v_21 e_22 => ?_)
        refine lv_istore_n (lv' := [(3, .int v_21), (0, .ref (ad 0)), (1, .int a1), (2, .int a2)]) C0.1 C0.2.1 dX11_week_50 rfl hl (by decide) rfl (fun ls hl => ?_)
        refine y_c1 (n := 0) C0 (by decide) dX11_week_51 (fun v_23 e_24 => ?_)
        refine lv_istore (lv' := [(4, .int v_23), (3, .int v_21), (0, .ref (ad 0)), (1, .int a1), (2, .int a2)]) C0.1 C0.2.1 dX11_week_52 hl (by decide) rfl (fun ls hl => ?_)
        have lp_29 : ∀ (n_31 : Nat) (x4_25 : Int32) (x3_26 : Int32) (H : Heap) (locs : List Loc) (ls : Array Slot) (ws_27 : va_W), 60 - x4_25.toInt < (n_31 : Int) → 0 ≤ x4_25.toInt → x4_25.toInt ≤ 60 → (FT = L12_X11_week n_31 (xso SC ad ws_27) a2.toInt x3_26.toInt x4_25.toInt) → Wt G SC ad A s H locs ws_27 → Fr SC [0, 4, 5, 6, 7, 8, 9, 10, 11, 12] ws_19 ws_27 → lv_has ls 5 [(4, .int x4_25), (3, .int x3_26), (0, .ref (ad 0)), (1, .int a1), (2, .int a2)] → W p l e (rmd 6 0 0) s m args below meth c H locs 0 0 Q (F0 m 54 ls []) := by
          intro n_31
          induction n_31 with
          | zero => intro x4_25 x3_26 H locs ls ws_27 hn_32 b_33 b_34 HE h hF_28 hl; exact ((o27_101 b_33 b_34 hn_32)).elim
          | succ n_31 ih_30 =>
            intro x4_25 x3_26 H locs ls ws_27 hn_32 b_33 b_34 HE h hF_28 hl
            obtain ⟨R54, hR54⟩ : ∃ z, z = L12_X11_week n_31 := ⟨_, rfl⟩
            replace HE : FT = g13l_X11_week R54 (xso SC ad ws_27) a2.toInt x3_26.toInt x4_25.toInt := HE.trans (by rw [hR54]; rfl)
            refine lv_iload C0.1 C0.2.1 dX11_week_54 (lv_at hl 0 rfl) ?_
            refine lv_iload_n C0.1 C0.2.1 dX11_week_56 rfl (lv_at hl 4 rfl) ?_
            replace HE : FT = g14b_X11_week R54 (xso SC ad ws_27) a2.toInt x4_25.toInt x3_26.toInt := HE.trans rfl
            refine y_icmp_ge (tgt := 76) C0 dX11_week_57 (by decide) (fun c_35 => ?_) (fun c_35 => ?_)
            · -- 57
              replace HE : FT = g15_X11_week (xso SC ad ws_27) x3_26.toInt := HE.trans (if_neg (Int.not_lt.mpr c_35))
              refine lv_iload_n C0.1 C0.2.1 dX11_week_76 rfl (lv_at hl 1 rfl) ?_
              replace HE : FT = g17b_X11_week (xso SC ad ws_27) x3_26.toInt := HE.trans rfl
              refine y_if_le (tgt := 95) C0 dX11_week_77 (by decide) (fun c_36 => ?_) (fun c_36 => ?_)
              · -- 77
                replace HE : FT = g18_X11_week (xso SC ad ws_27) x3_26.toInt := HE.trans (if_neg (Int.not_lt.mpr c_36))
                refine lv_iload_n C0.1 C0.2.1 dX11_week_95 rfl (lv_at hl 1 rfl) ?_
                replace HE : FT = ((xso SC ad ws_27), x3_26.toInt) := HE.trans rfl
                rw [hQ]
                exact y_iret C0 h (Fr.tr (Fr.tr (Fr.mono u_15 (by decide)) (Fr.up u_20.1 kSC_0 (by decide))) (Fr.mono hF_28 (by decide))) ⟨(congrArg Prod.fst (HE.symm.trans hFT)), (congrArg Prod.snd (HE.symm.trans hFT)), (Rel.fr (M := [0, 4, 5, 6, 7, 8, 9, 10, 11, 12, 13]) hR (Fr.tr (Fr.tr (Fr.mono u_15 (by decide)) (Fr.up u_20.1 kSC_0 (by decide))) (Fr.mono hF_28 (by decide))) (by decide) (by decide)), (Hok.fr (M := [0, 4, 5, 6, 7, 8, 9, 10, 11, 12, 13]) hH (Fr.tr (Fr.tr (Fr.mono u_15 (by decide)) (Fr.up u_20.1 kSC_0 (by decide))) (Fr.mono hF_28 (by decide))) (by decide))⟩ dX11_week_96
              · -- 77
                replace HE : FT = g19_X11_week (xso SC ad ws_27) x3_26.toInt := HE.trans (if_pos c_36)
                refine lv_aload_n C0.1 C0.2.1 dX11_week_80 rfl (lv_at hl 2 rfl) ?_
                refine lv_aload_n C0.1 C0.2.1 dX11_week_81 rfl (lv_at hl 2 rfl) ?_
                refine tg_X11_before C0 h kSC_0 q_528 dX11_week_82 ?_
                refine y_cv h (y_rV (As := [.ref (ad 199)]) (rest := []) C0 hZ h (c_X11_keep l G Z ad _ h.2 199 kSC_199) k_X11_keep q_985 q_27 q_983 kSC_0 rfl rfl rfl hl.1 rfl rfl (Nat.le_of_ble_eq_true rfl) dX11_week_85 ⟨Nat.le_of_ble_eq_true rfl, Nat.le_of_ble_eq_true rfl⟩ ⟨Nat.le_of_ble_eq_true rfl, Nat.le_of_ble_eq_true rfl⟩) (fun H locs ws_37 h u_38 p_39 => ?_)
                obtain ⟨e_40, e_41⟩ := p_39
                replace HE : FT = g20c_X11_week (xso SC ad ws_37) x3_26.toInt := HE.trans (by rw [e_40]; rfl)
                refine lv_aload_n C0.1 C0.2.1 dX11_week_88 rfl (lv_at hl 2 rfl) ?_
                refine tg_X11_forecast C0 h kSC_0 q_518 dX11_week_89 ?_
                refine y_cv h (y_rV (As := []) (rest := []) C0 hZ h (c_X2_forget l G Z ad _ h.2) k_X2_forget q_878 q_879 q_877 kSC_79 rfl rfl rfl hl.1 rfl rfl (Nat.le_of_ble_eq_true rfl) dX11_week_92 ⟨Nat.le_of_ble_eq_true rfl, Nat.le_of_ble_eq_true rfl⟩ ⟨Nat.le_of_ble_eq_true rfl, Nat.le_of_ble_eq_true rfl⟩) (fun H locs ws_42 h u_43 p_44 => ?_)
                have e_45 := p_44
                replace HE : FT = g21c_X11_week (xso SC ad ws_42) x3_26.toInt := HE.trans (by rw [e_45]; rfl)
                refine lv_iload_n C0.1 C0.2.1 dX11_week_95 rfl (lv_at hl 1 rfl) ?_
                replace HE : FT = ((xso SC ad ws_42), x3_26.toInt) := HE.trans rfl
                rw [hQ]
                exact y_iret C0 h (Fr.tr (Fr.tr (Fr.tr (Fr.tr (Fr.mono u_15 (by decide)) (Fr.up u_20.1 kSC_0 (by decide))) (Fr.mono hF_28 (by decide))) (Fr.mono u_38 (by decide))) (Fr.mono u_43 (by decide))) ⟨(congrArg Prod.fst (HE.symm.trans hFT)), (congrArg Prod.snd (HE.symm.trans hFT)), (Rel.fr (M := [0, 4, 5, 6, 7, 8, 9, 10, 11, 12, 13, 18]) hR (Fr.tr (Fr.tr (Fr.tr (Fr.tr (Fr.mono u_15 (by decide)) (Fr.up u_20.1 kSC_0 (by decide))) (Fr.mono hF_28 (by decide))) (Fr.mono u_38 (by decide))) (Fr.mono u_43 (by decide))) (by decide) (by decide)), (Hok.fr (M := [0, 4, 5, 6, 7, 8, 9, 10, 11, 12, 13, 18]) hH (Fr.tr (Fr.tr (Fr.tr (Fr.tr (Fr.mono u_15 (by decide)) (Fr.up u_20.1 kSC_0 (by decide))) (Fr.mono hF_28 (by decide))) (Fr.mono u_38 (by decide))) (Fr.mono u_43 (by decide))) (by decide))⟩ dX11_week_96
            · -- 57
              replace HE : FT = g16_X11_week R54 (xso SC ad ws_27) a2.toInt x3_26.toInt x4_25.toInt := HE.trans (if_pos c_35)
              refine lv_aload_n C0.1 C0.2.1 dX11_week_60 rfl (lv_at hl 2 rfl) ?_
              refine y_ci h (y_rV (As := []) (rest := []) C0 hZ h (c_X11_liveOnce l G Z ad _ h.2 (Rel.fr (M := [0, 4, 5, 6, 7, 8, 9, 10, 11, 12, 13]) hR (Fr.tr (Fr.tr (Fr.mono u_15 (by decide)) (Fr.up u_20.1 kSC_0 (by decide))) (Fr.mono hF_28 (by decide))) (by decide) (by decide))) k_X11_liveOnce q_1054 q_29 q_1052 kSC_0 rfl rfl rfl hl.1 rfl rfl (Nat.le_of_ble_eq_true rfl) dX11_week_61 ⟨Nat.le_of_ble_eq_true rfl, Nat.le_of_ble_eq_true rfl⟩ ⟨Nat.le_of_ble_eq_true rfl, Nat.le_of_ble_eq_true rfl⟩) (fun r_49 H locs ws_46 h u_47 p_48 => ?_)
              obtain ⟨e_50, e_51, e_52, e_53⟩ := p_48
              replace HE : FT = g22c_X11_week R54 (xso SC ad ws_46) r_49.toInt a2.toInt x3_26.toInt x4_25.toInt := HE.trans (by rw [e_50, e_51]; rfl)
              replace HE : FT = g23b_X11_week R54 (xso SC ad ws_46) r_49.toInt a2.toInt x3_26.toInt x4_25.toInt := HE.trans rfl
              refine y_if_eq (tgt := 70) C0 dX11_week_64 (by decide) (fun c_54 => ?_) (fun c_54 => ?_)
              · -- 64
                replace HE : FT = g24_X11_week R54 (xso SC ad ws_46) a2.toInt x3_26.toInt x4_25.toInt := HE.trans (if_pos c_54)
                refine y_inc (kp := 0) (n := 1) (fun v_55 => [(4, .int v_55), (3, .int x3_26), (0, .ref (ad 0)), (1, .int a1), (2, .int a2)]) C0 hl rfl (by decide) (by decide) (fun _ => rfl) (o27_102 e_2 c_3 e_7 c_8 b_33 b_34 hn_32 c_35 (le_min x4_25) (le_max x4_25) (le_min v_1) (le_max v_1) (le_min a2) (le_max a2) (le_min v_6) (le_max v_6)) (o27_103 e_2 c_3 e_7 c_8 b_33 b_34 hn_32 c_35 (le_min x4_25) (le_max x4_25) (le_min v_1) (le_max v_1) (le_min a2) (le_max a2) (le_min v_6) (le_max v_6)) dX11_week_70 (fun v_55 ls e_56 hl => ?_)
                refine lv_goto (tgt := 54) C0.1 C0.2.1 dX11_week_73 (by decide) ?_
                exact ih_30 v_55 x3_26 _ _ _ _ (o27_104 e_2 c_3 e_7 c_8 b_33 b_34 hn_32 c_35 e_56) (o27_105 e_2 c_3 e_7 c_8 b_33 b_34 hn_32 c_35 e_56) (o27_106 e_2 c_3 e_7 c_8 b_33 b_34 hn_32 c_35 e_56) (((show FT = R54 (xso SC ad ws_46) a2.toInt x3_26.toInt v_55.toInt from HE.trans (by rw [e_56]; rfl)).trans (by rw [hR54]))) h (Fr.tr hF_28 u_47) (lv_sub hl [0, 1, 2, 3, 4] rfl)
              · -- 64
                replace HE : FT = g25_X11_week R54 (xso SC ad ws_46) a2.toInt x3_26.toInt x4_25.toInt := HE.trans (if_neg c_54)
                refine xr_inc (kp := 1) (fun v_57 => [(3, .int v_57), (4, .int x4_25), (0, .ref (ad 0)), (1, .int a1), (2, .int a2)]) C0 hl rfl (by decide) (fun _ => rfl) dX11_week_67 (fun v_57 ls e_58 hl => ?_)
                refine y_inc (kp := 1) (n := 1) (fun v_59 => [(4, .int v_59), (3, .int v_57), (0, .ref (ad 0)), (1, .int a1), (2, .int a2)]) C0 hl rfl (by decide) (by decide) (fun _ => rfl) (o27_102 e_2 c_3 e_7 c_8 b_33 b_34 hn_32 c_35 (le_min x4_25) (le_max x4_25) (le_min v_1) (le_max v_1) (le_min a2) (le_max a2) (le_min v_6) (le_max v_6)) (o27_103 e_2 c_3 e_7 c_8 b_33 b_34 hn_32 c_35 (le_min x4_25) (le_max x4_25) (le_min v_1) (le_max v_1) (le_min a2) (le_max a2) (le_min v_6) (le_max v_6)) dX11_week_70 (fun v_59 ls e_60 hl => ?_)
                refine lv_goto (tgt := 54) C0.1 C0.2.1 dX11_week_73 (by decide) ?_
                exact ih_30 v_59 v_57 _ _ _ _ (o27_104 e_2 c_3 e_7 c_8 b_33 b_34 hn_32 c_35 e_60) (o27_105 e_2 c_3 e_7 c_8 b_33 b_34 hn_32 c_35 e_60) (o27_106 e_2 c_3 e_7 c_8 b_33 b_34 hn_32 c_35 e_60) (((show FT = R54 (xso SC ad ws_46) a2.toInt v_57.toInt v_59.toInt from HE.trans (by rw [e_60, e_58]; rfl)).trans (by rw [hR54]))) h (Fr.tr hF_28 u_47) (lv_sub hl [0, 1, 2, 3, 4] rfl)
        exact lp_29 ((60 - v_23.toInt + 1).toNat) v_23 v_21 _ _ _ _ (o27_107 e_24) (o27_70 e_24) (o27_108 e_24) ((show FT = L12_X11_week (Int.toNat (60 - v_23.toInt + 1)) (xso SC ad ws_19) a2.toInt v_21.toInt v_23.toInt from HE.trans (by rw [e_24, e_22]; rfl))) h Fr.rf (lv_sub hl [0, 1, 2, 3, 4] rfl)
      · -- 24
        replace HE : FT = g9_X11_week (xso SC ad ws0) := HE.trans (if_pos c_13)
        refine y_c2 (n := (-5)) C0 (by decide) dX11_week_27 (fun v_61 e_62 => ?_)
        replace HE : FT = ((xso SC ad ws0), v_61.toInt) := HE.trans (by rw [e_62]; rfl)
        rw [hQ]
        exact y_iret C0 h Fr.rf ⟨(congrArg Prod.fst (HE.symm.trans hFT)), (congrArg Prod.snd (HE.symm.trans hFT)), hR, hH⟩ dX11_week_29
    · -- 8
      replace HE : FT = g6_X11_week (xso SC ad ws0) := HE.trans (if_pos (o27_100 e_2 c_3 e_7 c_8))
      refine y_c2 (n := (-3)) C0 (by decide) dX11_week_11 (fun v_63 e_64 => ?_)
      replace HE : FT = ((xso SC ad ws0), v_63.toInt) := HE.trans (by rw [e_64]; rfl)
      rw [hQ]
      exact y_iret C0 h Fr.rf ⟨(congrArg Prod.fst (HE.symm.trans hFT)), (congrArg Prod.snd (HE.symm.trans hFT)), hR, hH⟩ dX11_week_13
