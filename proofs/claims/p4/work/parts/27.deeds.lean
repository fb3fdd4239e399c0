variable {tt : QQ}
theorem dX11_buy_0 : decode cX11_buy 0 = .ok (.aload_n 0, 1) := by decide +kernel
theorem dX11_buy_1 : decode cX11_buy 1 = .ok (.iload_n 1, 1) := by decide +kernel
theorem dX11_buy_2 : decode cX11_buy 2 = .ok (.invokevirtual 141, 3) := by decide +kernel
theorem dX11_buy_5 : decode cX11_buy 5 = .ok (.ifCond .ne 6, 3) := by decide +kernel
theorem dX11_buy_8 : decode cX11_buy 8 = .ok (.bipush (-2), 2) := by decide +kernel
theorem dX11_buy_10 : decode cX11_buy 10 = .ok (.ireturn, 1) := by decide +kernel
theorem dX11_buy_11 : decode cX11_buy 11 = .ok (.iload_n 2, 1) := by decide +kernel
theorem dX11_buy_12 : decode cX11_buy 12 = .ok (.iconst 1, 1) := by decide +kernel
theorem dX11_buy_13 : decode cX11_buy 13 = .ok (.if_icmp .lt 9, 3) := by decide +kernel
theorem dX11_buy_16 : decode cX11_buy 16 = .ok (.iload_n 2, 1) := by decide +kernel
theorem dX11_buy_17 : decode cX11_buy 17 = .ok (.bipush 20, 2) := by decide +kernel
theorem dX11_buy_19 : decode cX11_buy 19 = .ok (.if_icmp .le 6, 3) := by decide +kernel
theorem dX11_buy_22 : decode cX11_buy 22 = .ok (.bipush (-3), 2) := by decide +kernel
theorem dX11_buy_24 : decode cX11_buy 24 = .ok (.ireturn, 1) := by decide +kernel
theorem dX11_buy_25 : decode cX11_buy 25 = .ok (.iconst 0, 1) := by decide +kernel
theorem dX11_buy_26 : decode cX11_buy 26 = .ok (.istore_n 3, 1) := by decide +kernel
theorem dX11_buy_27 : decode cX11_buy 27 = .ok (.iconst 0, 1) := by decide +kernel
theorem dX11_buy_28 : decode cX11_buy 28 = .ok (.istore 4, 2) := by decide +kernel
theorem dX11_buy_30 : decode cX11_buy 30 = .ok (.iload 4, 2) := by decide +kernel
theorem dX11_buy_32 : decode cX11_buy 32 = .ok (.iload_n 2, 1) := by decide +kernel
theorem dX11_buy_33 : decode cX11_buy 33 = .ok (.if_icmp .ge 22, 3) := by decide +kernel
theorem dX11_buy_36 : decode cX11_buy 36 = .ok (.iload_n 3, 1) := by decide +kernel
theorem dX11_buy_37 : decode cX11_buy 37 = .ok (.aload_n 0, 1) := by decide +kernel
theorem dX11_buy_38 : decode cX11_buy 38 = .ok (.getfield 27, 3) := by decide +kernel
theorem dX11_buy_41 : decode cX11_buy 41 = .ok (.iload_n 1, 1) := by decide +kernel
theorem dX11_buy_42 : decode cX11_buy 42 = .ok (.iload 4, 2) := by decide +kernel
theorem dX11_buy_44 : decode cX11_buy 44 = .ok (.invokevirtual 223, 3) := by decide +kernel
theorem dX11_buy_47 : decode cX11_buy 47 = .ok (.iadd, 1) := by decide +kernel
theorem dX11_buy_48 : decode cX11_buy 48 = .ok (.istore_n 3, 1) := by decide +kernel
theorem dX11_buy_49 : decode cX11_buy 49 = .ok (.iinc 4 1, 3) := by decide +kernel
theorem dX11_buy_52 : decode cX11_buy 52 = .ok (.goto (-22), 3) := by decide +kernel
theorem dX11_buy_55 : decode cX11_buy 55 = .ok (.aload_n 0, 1) := by decide +kernel
theorem dX11_buy_56 : decode cX11_buy 56 = .ok (.getfield 27, 3) := by decide +kernel
theorem dX11_buy_59 : decode cX11_buy 59 = .ok (.getfield 145, 3) := by decide +kernel
theorem dX11_buy_62 : decode cX11_buy 62 = .ok (.astore 4, 2) := by decide +kernel
theorem dX11_buy_64 : decode cX11_buy 64 = .ok (.iload_n 3, 1) := by decide +kernel
theorem dX11_buy_65 : decode cX11_buy 65 = .ok (.aload 4, 2) := by decide +kernel
theorem dX11_buy_67 : decode cX11_buy 67 = .ok (.getfield 157, 3) := by decide +kernel
theorem dX11_buy_70 : decode cX11_buy 70 = .ok (.iload_n 1, 1) := by decide +kernel
theorem dX11_buy_71 : decode cX11_buy 71 = .ok (.iaload, 1) := by decide +kernel
theorem dX11_buy_72 : decode cX11_buy 72 = .ok (.if_icmp .le 6, 3) := by decide +kernel
theorem dX11_buy_75 : decode cX11_buy 75 = .ok (.bipush (-5), 2) := by decide +kernel
theorem dX11_buy_77 : decode cX11_buy 77 = .ok (.ireturn, 1) := by decide +kernel
theorem dX11_buy_78 : decode cX11_buy 78 = .ok (.aload 4, 2) := by decide +kernel
theorem dX11_buy_80 : decode cX11_buy 80 = .ok (.getfield 154, 3) := by decide +kernel
theorem dX11_buy_83 : decode cX11_buy 83 = .ok (.iload_n 1, 1) := by decide +kernel
theorem dX11_buy_84 : decode cX11_buy 84 = .ok (.iaload, 1) := by decide +kernel
theorem dX11_buy_85 : decode cX11_buy 85 = .ok (.iload_n 2, 1) := by decide +kernel
theorem dX11_buy_86 : decode cX11_buy 86 = .ok (.iadd, 1) := by decide +kernel
theorem dX11_buy_87 : decode cX11_buy 87 = .ok (.bipush 99, 2) := by decide +kernel
theorem dX11_buy_89 : decode cX11_buy 89 = .ok (.if_icmp .le 6, 3) := by decide +kernel
theorem dX11_buy_92 : decode cX11_buy 92 = .ok (.bipush (-4), 2) := by decide +kernel
theorem dX11_buy_94 : decode cX11_buy 94 = .ok (.ireturn, 1) := by decide +kernel
theorem dX11_buy_95 : decode cX11_buy 95 = .ok (.aload_n 0, 1) := by decide +kernel
theorem dX11_buy_96 : decode cX11_buy 96 = .ok (.aload 4, 2) := by decide +kernel
theorem dX11_buy_98 : decode cX11_buy 98 = .ok (.invokevirtual 201, 3) := by decide +kernel
theorem dX11_buy_101 : decode cX11_buy 101 = .ok (.aload 4, 2) := by decide +kernel
theorem dX11_buy_103 : decode cX11_buy 103 = .ok (.getfield 157, 3) := by decide +kernel
theorem dX11_buy_106 : decode cX11_buy 106 = .ok (.iload_n 1, 1) := by decide +kernel
theorem dX11_buy_107 : decode cX11_buy 107 = .ok (.dup2, 1) := by decide +kernel
theorem dX11_buy_108 : decode cX11_buy 108 = .ok (.iaload, 1) := by decide +kernel
theorem dX11_buy_109 : decode cX11_buy 109 = .ok (.iload_n 3, 1) := by decide +kernel
theorem dX11_buy_110 : decode cX11_buy 110 = .ok (.isub, 1) := by decide +kernel
theorem dX11_buy_111 : decode cX11_buy 111 = .ok (.iastore, 1) := by decide +kernel
theorem dX11_buy_112 : decode cX11_buy 112 = .ok (.aload 4, 2) := by decide +kernel
theorem dX11_buy_114 : decode cX11_buy 114 = .ok (.getfield 154, 3) := by decide +kernel
theorem dX11_buy_117 : decode cX11_buy 117 = .ok (.iload_n 1, 1) := by decide +kernel
theorem dX11_buy_118 : decode cX11_buy 118 = .ok (.dup2, 1) := by decide +kernel
theorem dX11_buy_119 : decode cX11_buy 119 = .ok (.iaload, 1) := by decide +kernel
theorem dX11_buy_120 : decode cX11_buy 120 = .ok (.iload_n 2, 1) := by decide +kernel
theorem dX11_buy_121 : decode cX11_buy 121 = .ok (.iadd, 1) := by decide +kernel
theorem dX11_buy_122 : decode cX11_buy 122 = .ok (.iastore, 1) := by decide +kernel
theorem dX11_buy_123 : decode cX11_buy 123 = .ok (.aload 4, 2) := by decide +kernel
theorem dX11_buy_125 : decode cX11_buy 125 = .ok (.getfield 177, 3) := by decide +kernel
theorem dX11_buy_128 : decode cX11_buy 128 = .ok (.aload 4, 2) := by decide +kernel
theorem dX11_buy_130 : decode cX11_buy 130 = .ok (.getfield 148, 3) := by decide +kernel
theorem dX11_buy_133 : decode cX11_buy 133 = .ok (.iload_n 1, 1) := by decide +kernel
theorem dX11_buy_134 : decode cX11_buy 134 = .ok (.iaload, 1) := by decide +kernel
theorem dX11_buy_135 : decode cX11_buy 135 = .ok (.dup2, 1) := by decide +kernel
theorem dX11_buy_136 : decode cX11_buy 136 = .ok (.iaload, 1) := by decide +kernel
theorem dX11_buy_137 : decode cX11_buy 137 = .ok (.iload_n 2, 1) := by decide +kernel
theorem dX11_buy_138 : decode cX11_buy 138 = .ok (.iadd, 1) := by decide +kernel
theorem dX11_buy_139 : decode cX11_buy 139 = .ok (.iastore, 1) := by decide +kernel
theorem dX11_buy_140 : decode cX11_buy 140 = .ok (.aload_n 0, 1) := by decide +kernel
theorem dX11_buy_141 : decode cX11_buy 141 = .ok (.getfield 41, 3) := by decide +kernel
theorem dX11_buy_144 : decode cX11_buy 144 = .ok (.invokevirtual 208, 3) := by decide +kernel
theorem dX11_buy_147 : decode cX11_buy 147 = .ok (.iload_n 3, 1) := by decide +kernel
theorem dX11_buy_148 : decode cX11_buy 148 = .ok (.ireturn, 1) := by decide +kernel
theorem dX11_city_0 : decode cX11_city 0 = .ok (.iload_n 1, 1) := by decide +kernel
theorem dX11_city_1 : decode cX11_city 1 = .ok (.ifCond .lt 14, 3) := by decide +kernel
theorem dX11_city_4 : decode cX11_city 4 = .ok (.iload_n 1, 1) := by decide +kernel
theorem dX11_city_5 : decode cX11_city 5 = .ok (.aload_n 0, 1) := by decide +kernel
theorem dX11_city_6 : decode cX11_city 6 = .ok (.getfield 37, 3) := by decide +kernel
theorem dX11_city_9 : decode cX11_city 9 = .ok (.invokevirtual 117, 3) := by decide +kernel
theorem dX11_city_12 : decode cX11_city 12 = .ok (.if_icmp .le 6, 3) := by decide +kernel
theorem dX11_city_15 : decode cX11_city 15 = .ok (.bipush (-3), 2) := by decide +kernel
theorem dX11_city_17 : decode cX11_city 17 = .ok (.ireturn, 1) := by decide +kernel
theorem dX11_city_18 : decode cX11_city 18 = .ok (.aload_n 0, 1) := by decide +kernel
theorem dX11_city_19 : decode cX11_city 19 = .ok (.getfield 37, 3) := by decide +kernel
theorem dX11_city_22 : decode cX11_city 22 = .ok (.iload_n 1, 1) := by decide +kernel
theorem dX11_city_23 : decode cX11_city 23 = .ok (.invokevirtual 121, 3) := by decide +kernel
theorem dX11_city_26 : decode cX11_city 26 = .ok (.istore_n 2, 1) := by decide +kernel
theorem dX11_city_27 : decode cX11_city 27 = .ok (.iload_n 2, 1) := by decide +kernel
theorem dX11_city_28 : decode cX11_city 28 = .ok (.ifCond .eq 8, 3) := by decide +kernel
theorem dX11_city_31 : decode cX11_city 31 = .ok (.bipush (-30), 2) := by decide +kernel
theorem dX11_city_33 : decode cX11_city 33 = .ok (.iload_n 2, 1) := by decide +kernel
theorem dX11_city_34 : decode cX11_city 34 = .ok (.isub, 1) := by decide +kernel
theorem dX11_city_35 : decode cX11_city 35 = .ok (.ireturn, 1) := by decide +kernel
theorem dX11_city_36 : decode cX11_city 36 = .ok (.aload_n 0, 1) := by decide +kernel
theorem dX11_city_37 : decode cX11_city 37 = .ok (.getfield 27, 3) := by decide +kernel
theorem dX11_city_40 : decode cX11_city 40 = .ok (.aload_n 0, 1) := by decide +kernel
theorem dX11_city_41 : decode cX11_city 41 = .ok (.getfield 31, 3) := by decide +kernel
theorem dX11_city_44 : decode cX11_city 44 = .ok (.invokevirtual 125, 3) := by decide +kernel
theorem dX11_city_47 : decode cX11_city 47 = .ok (.aload_n 0, 1) := by decide +kernel
theorem dX11_city_48 : decode cX11_city 48 = .ok (.invokevirtual 128, 3) := by decide +kernel
theorem dX11_city_51 : decode cX11_city 51 = .ok (.aload_n 0, 1) := by decide +kernel
theorem dX11_city_52 : decode cX11_city 52 = .ok (.getfield 27, 3) := by decide +kernel
theorem dX11_city_55 : decode cX11_city 55 = .ok (.getfield 131, 3) := by decide +kernel
theorem dX11_city_58 : decode cX11_city 58 = .ok (.ireturn, 1) := by decide +kernel
theorem dX11_crossing_0 : decode cX11_crossing 0 = .ok (.aload_n 0, 1) := by decide +kernel
theorem dX11_crossing_1 : decode cX11_crossing 1 = .ok (.iload_n 1, 1) := by decide +kernel
theorem dX11_crossing_2 : decode cX11_crossing 2 = .ok (.invokevirtual 171, 3) := by decide +kernel
theorem dX11_crossing_5 : decode cX11_crossing 5 = .ok (.ifCond .ne 6, 3) := by decide +kernel
theorem dX11_crossing_8 : decode cX11_crossing 8 = .ok (.bipush (-2), 2) := by decide +kernel
theorem dX11_crossing_10 : decode cX11_crossing 10 = .ok (.ireturn, 1) := by decide +kernel
theorem dX11_crossing_11 : decode cX11_crossing 11 = .ok (.aload_n 0, 1) := by decide +kernel
theorem dX11_crossing_12 : decode cX11_crossing 12 = .ok (.getfield 27, 3) := by decide +kernel
theorem dX11_crossing_15 : decode cX11_crossing 15 = .ok (.getfield 145, 3) := by decide +kernel
theorem dX11_crossing_18 : decode cX11_crossing 18 = .ok (.astore_n 3, 1) := by decide +kernel
theorem dX11_crossing_19 : decode cX11_crossing 19 = .ok (.iload_n 2, 1) := by decide +kernel
theorem dX11_crossing_20 : decode cX11_crossing 20 = .ok (.tableswitch 104 0 4 #[36, 56, 63, 79, 95], 36) := by decide +kernel
theorem dX11_crossing_56 : decode cX11_crossing 56 = .ok (.aload_n 0, 1) := by decide +kernel
theorem dX11_crossing_57 : decode cX11_crossing 57 = .ok (.getfield 27, 3) := by decide +kernel
theorem dX11_crossing_60 : decode cX11_crossing 60 = .ok (.iload_n 1, 1) := by decide +kernel
theorem dX11_crossing_61 : decode cX11_crossing 61 = .ok (.aload_n 3, 1) := by decide +kernel
theorem dX11_crossing_62 : decode cX11_crossing 62 = .ok (.getfield 174, 3) := by decide +kernel
theorem dX11_crossing_65 : decode cX11_crossing 65 = .ok (.aload_n 3, 1) := by decide +kernel
theorem dX11_crossing_66 : decode cX11_crossing 66 = .ok (.getfield 177, 3) := by decide +kernel
theorem dX11_crossing_69 : decode cX11_crossing 69 = .ok (.iload_n 1, 1) := by decide +kernel
theorem dX11_crossing_70 : decode cX11_crossing 70 = .ok (.iaload, 1) := by decide +kernel
theorem dX11_crossing_71 : decode cX11_crossing 71 = .ok (.iconst 0, 1) := by decide +kernel
theorem dX11_crossing_72 : decode cX11_crossing 72 = .ok (.invokevirtual 180, 3) := by decide +kernel
theorem dX11_crossing_75 : decode cX11_crossing 75 = .ok (.ireturn, 1) := by decide +kernel
theorem dX11_crossing_76 : decode cX11_crossing 76 = .ok (.aload_n 3, 1) := by decide +kernel
theorem dX11_crossing_77 : decode cX11_crossing 77 = .ok (.getfield 177, 3) := by decide +kernel
theorem dX11_crossing_80 : decode cX11_crossing 80 = .ok (.iload_n 1, 1) := by decide +kernel
theorem dX11_crossing_81 : decode cX11_crossing 81 = .ok (.iaload, 1) := by decide +kernel
theorem dX11_crossing_82 : decode cX11_crossing 82 = .ok (.ireturn, 1) := by decide +kernel
theorem dX11_crossing_83 : decode cX11_crossing 83 = .ok (.aload_n 0, 1) := by decide +kernel
theorem dX11_crossing_84 : decode cX11_crossing 84 = .ok (.getfield 27, 3) := by decide +kernel
theorem dX11_crossing_87 : decode cX11_crossing 87 = .ok (.aload_n 3, 1) := by decide +kernel
theorem dX11_crossing_88 : decode cX11_crossing 88 = .ok (.getfield 174, 3) := by decide +kernel
theorem dX11_crossing_91 : decode cX11_crossing 91 = .ok (.invokevirtual 184, 3) := by decide +kernel
theorem dX11_crossing_94 : decode cX11_crossing 94 = .ok (.iload_n 1, 1) := by decide +kernel
theorem dX11_crossing_95 : decode cX11_crossing 95 = .ok (.ishr, 1) := by decide +kernel
theorem dX11_crossing_96 : decode cX11_crossing 96 = .ok (.iconst 1, 1) := by decide +kernel
theorem dX11_crossing_97 : decode cX11_crossing 97 = .ok (.iand, 1) := by decide +kernel
theorem dX11_crossing_98 : decode cX11_crossing 98 = .ok (.ireturn, 1) := by decide +kernel
theorem dX11_crossing_99 : decode cX11_crossing 99 = .ok (.iconst 0, 1) := by decide +kernel
theorem dX11_crossing_100 : decode cX11_crossing 100 = .ok (.aload_n 3, 1) := by decide +kernel
theorem dX11_crossing_101 : decode cX11_crossing 101 = .ok (.getfield 187, 3) := by decide +kernel
theorem dX11_crossing_104 : decode cX11_crossing 104 = .ok (.iload_n 1, 1) := by decide +kernel
theorem dX11_crossing_105 : decode cX11_crossing 105 = .ok (.iaload, 1) := by decide +kernel
theorem dX11_crossing_106 : decode cX11_crossing 106 = .ok (.aload_n 3, 1) := by decide +kernel
theorem dX11_crossing_107 : decode cX11_crossing 107 = .ok (.getfield 174, 3) := by decide +kernel
theorem dX11_crossing_110 : decode cX11_crossing 110 = .ok (.isub, 1) := by decide +kernel
theorem dX11_crossing_111 : decode cX11_crossing 111 = .ok (.invokestatic 190, 3) := by decide +kernel
theorem dX11_crossing_114 : decode cX11_crossing 114 = .ok (.ireturn, 1) := by decide +kernel
theorem dX11_crossing_115 : decode cX11_crossing 115 = .ok (.aload_n 0, 1) := by decide +kernel
theorem dX11_crossing_116 : decode cX11_crossing 116 = .ok (.getfield 27, 3) := by decide +kernel
theorem dX11_crossing_119 : decode cX11_crossing 119 = .ok (.iload_n 1, 1) := by decide +kernel
theorem dX11_crossing_120 : decode cX11_crossing 120 = .ok (.invokevirtual 195, 3) := by decide +kernel
theorem dX11_crossing_123 : decode cX11_crossing 123 = .ok (.ireturn, 1) := by decide +kernel
theorem dX11_crossing_124 : decode cX11_crossing 124 = .ok (.bipush (-2), 2) := by decide +kernel
theorem dX11_crossing_126 : decode cX11_crossing 126 = .ok (.ireturn, 1) := by decide +kernel
theorem dX11_fault_0 : decode cX11_fault 0 = .ok (.iload_n 1, 1) := by decide +kernel
theorem dX11_fault_1 : decode cX11_fault 1 = .ok (.ifCond .ne 13, 3) := by decide +kernel
theorem dX11_fault_4 : decode cX11_fault 4 = .ok (.aload_n 0, 1) := by decide +kernel
theorem dX11_fault_5 : decode cX11_fault 5 = .ok (.getfield 37, 3) := by decide +kernel
theorem dX11_fault_8 : decode cX11_fault 8 = .ok (.invokevirtual 135, 3) := by decide +kernel
theorem dX11_fault_11 : decode cX11_fault 11 = .ok (.goto 19, 3) := by decide +kernel
theorem dX11_fault_14 : decode cX11_fault 14 = .ok (.iload_n 1, 1) := by decide +kernel
theorem dX11_fault_15 : decode cX11_fault 15 = .ok (.iconst 1, 1) := by decide +kernel
theorem dX11_fault_16 : decode cX11_fault 16 = .ok (.if_icmp .ne 13, 3) := by decide +kernel
theorem dX11_fault_19 : decode cX11_fault 19 = .ok (.aload_n 0, 1) := by decide +kernel
theorem dX11_fault_20 : decode cX11_fault 20 = .ok (.getfield 37, 3) := by decide +kernel
theorem dX11_fault_23 : decode cX11_fault 23 = .ok (.invokevirtual 138, 3) := by decide +kernel
theorem dX11_fault_26 : decode cX11_fault 26 = .ok (.goto 4, 3) := by decide +kernel
theorem dX11_fault_29 : decode cX11_fault 29 = .ok (.iconst (-1), 1) := by decide +kernel
theorem dX11_fault_30 : decode cX11_fault 30 = .ok (.ireturn, 1) := by decide +kernel
theorem dX11_feed_0 : decode cX11_feed 0 = .ok (.aload_n 0, 1) := by decide +kernel
theorem dX11_feed_1 : decode cX11_feed 1 = .ok (.getfield 37, 3) := by decide +kernel
theorem dX11_feed_4 : decode cX11_feed 4 = .ok (.invokevirtual 109, 3) := by decide +kernel
theorem dX11_feed_7 : decode cX11_feed 7 = .ok (.ifCond .ne 6, 3) := by decide +kernel
theorem dX11_feed_10 : decode cX11_feed 10 = .ok (.bipush (-5), 2) := by decide +kernel
theorem dX11_feed_12 : decode cX11_feed 12 = .ok (.ireturn, 1) := by decide +kernel
theorem dX11_feed_13 : decode cX11_feed 13 = .ok (.aload_n 0, 1) := by decide +kernel
theorem dX11_feed_14 : decode cX11_feed 14 = .ok (.getfield 37, 3) := by decide +kernel
theorem dX11_feed_17 : decode cX11_feed 17 = .ok (.iload_n 1, 1) := by decide +kernel
theorem dX11_feed_18 : decode cX11_feed 18 = .ok (.invokevirtual 113, 3) := by decide +kernel
theorem dX11_feed_21 : decode cX11_feed 21 = .ok (.aload_n 0, 1) := by decide +kernel
theorem dX11_feed_22 : decode cX11_feed 22 = .ok (.getfield 37, 3) := by decide +kernel
theorem dX11_feed_25 : decode cX11_feed 25 = .ok (.iload_n 2, 1) := by decide +kernel
theorem dX11_feed_26 : decode cX11_feed 26 = .ok (.invokevirtual 113, 3) := by decide +kernel
theorem dX11_feed_29 : decode cX11_feed 29 = .ok (.aload_n 0, 1) := by decide +kernel
theorem dX11_feed_30 : decode cX11_feed 30 = .ok (.getfield 37, 3) := by decide +kernel
theorem dX11_feed_33 : decode cX11_feed 33 = .ok (.iload_n 3, 1) := by decide +kernel
theorem dX11_feed_34 : decode cX11_feed 34 = .ok (.invokevirtual 113, 3) := by decide +kernel
theorem dX11_feed_37 : decode cX11_feed 37 = .ok (.aload_n 0, 1) := by decide +kernel
theorem dX11_feed_38 : decode cX11_feed 38 = .ok (.getfield 37, 3) := by decide +kernel
theorem dX11_feed_41 : decode cX11_feed 41 = .ok (.iload 4, 2) := by decide +kernel
theorem dX11_feed_43 : decode cX11_feed 43 = .ok (.invokevirtual 113, 3) := by decide +kernel
theorem dX11_feed_46 : decode cX11_feed 46 = .ok (.aload_n 0, 1) := by decide +kernel
theorem dX11_feed_47 : decode cX11_feed 47 = .ok (.getfield 37, 3) := by decide +kernel
theorem dX11_feed_50 : decode cX11_feed 50 = .ok (.iload 5, 2) := by decide +kernel
theorem dX11_feed_52 : decode cX11_feed 52 = .ok (.invokevirtual 113, 3) := by decide +kernel
theorem dX11_feed_55 : decode cX11_feed 55 = .ok (.aload_n 0, 1) := by decide +kernel
theorem dX11_feed_56 : decode cX11_feed 56 = .ok (.getfield 37, 3) := by decide +kernel
theorem dX11_feed_59 : decode cX11_feed 59 = .ok (.invokevirtual 117, 3) := by decide +kernel
theorem dX11_feed_62 : decode cX11_feed 62 = .ok (.ireturn, 1) := by decide +kernel
theorem dX11_fog_0 : decode cX11_fog 0 = .ok (.aload_n 0, 1) := by decide +kernel
theorem dX11_fog_1 : decode cX11_fog 1 = .ok (.iload_n 1, 1) := by decide +kernel
theorem dX11_fog_2 : decode cX11_fog 2 = .ok (.invokevirtual 171, 3) := by decide +kernel
theorem dX11_fog_5 : decode cX11_fog 5 = .ok (.ifCond .ne 6, 3) := by decide +kernel
theorem dX11_fog_8 : decode cX11_fog 8 = .ok (.bipush (-2), 2) := by decide +kernel
theorem dX11_fog_10 : decode cX11_fog 10 = .ok (.ireturn, 1) := by decide +kernel
theorem dX11_fog_11 : decode cX11_fog 11 = .ok (.iload_n 2, 1) := by decide +kernel
theorem dX11_fog_12 : decode cX11_fog 12 = .ok (.iconst 1, 1) := by decide +kernel
theorem dX11_fog_13 : decode cX11_fog 13 = .ok (.if_icmp .lt 9, 3) := by decide +kernel
theorem dX11_fog_16 : decode cX11_fog 16 = .ok (.iload_n 2, 1) := by decide +kernel
theorem dX11_fog_17 : decode cX11_fog 17 = .ok (.bipush 99, 2) := by decide +kernel
theorem dX11_fog_19 : decode cX11_fog 19 = .ok (.if_icmp .le 6, 3) := by decide +kernel
theorem dX11_fog_22 : decode cX11_fog 22 = .ok (.bipush (-3), 2) := by decide +kernel
theorem dX11_fog_24 : decode cX11_fog 24 = .ok (.ireturn, 1) := by decide +kernel
theorem dX11_fog_25 : decode cX11_fog 25 = .ok (.aload_n 0, 1) := by decide +kernel
theorem dX11_fog_26 : decode cX11_fog 26 = .ok (.aload_n 0, 1) := by decide +kernel
theorem dX11_fog_27 : decode cX11_fog 27 = .ok (.getfield 27, 3) := by decide +kernel
theorem dX11_fog_30 : decode cX11_fog 30 = .ok (.getfield 145, 3) := by decide +kernel
theorem dX11_fog_33 : decode cX11_fog 33 = .ok (.invokevirtual 201, 3) := by decide +kernel
theorem dX11_fog_36 : decode cX11_fog 36 = .ok (.aload_n 0, 1) := by decide +kernel
theorem dX11_fog_37 : decode cX11_fog 37 = .ok (.getfield 27, 3) := by decide +kernel
theorem dX11_fog_40 : decode cX11_fog 40 = .ok (.getfield 145, 3) := by decide +kernel
theorem dX11_fog_43 : decode cX11_fog 43 = .ok (.getfield 187, 3) := by decide +kernel
theorem dX11_fog_46 : decode cX11_fog 46 = .ok (.iload_n 1, 1) := by decide +kernel
theorem dX11_fog_47 : decode cX11_fog 47 = .ok (.aload_n 0, 1) := by decide +kernel
theorem dX11_fog_48 : decode cX11_fog 48 = .ok (.getfield 27, 3) := by decide +kernel
theorem dX11_fog_51 : decode cX11_fog 51 = .ok (.getfield 145, 3) := by decide +kernel
theorem dX11_fog_54 : decode cX11_fog 54 = .ok (.getfield 174, 3) := by decide +kernel
theorem dX11_fog_57 : decode cX11_fog 57 = .ok (.iload_n 2, 1) := by decide +kernel
theorem dX11_fog_58 : decode cX11_fog 58 = .ok (.iadd, 1) := by decide +kernel
theorem dX11_fog_59 : decode cX11_fog 59 = .ok (.iastore, 1) := by decide +kernel
theorem dX11_fog_60 : decode cX11_fog 60 = .ok (.aload_n 0, 1) := by decide +kernel
theorem dX11_fog_61 : decode cX11_fog 61 = .ok (.getfield 41, 3) := by decide +kernel
theorem dX11_fog_64 : decode cX11_fog 64 = .ok (.invokevirtual 208, 3) := by decide +kernel
theorem dX11_fog_67 : decode cX11_fog 67 = .ok (.aload_n 0, 1) := by decide +kernel
theorem dX11_fog_68 : decode cX11_fog 68 = .ok (.getfield 27, 3) := by decide +kernel
theorem dX11_fog_71 : decode cX11_fog 71 = .ok (.aload_n 0, 1) := by decide +kernel
theorem dX11_fog_72 : decode cX11_fog 72 = .ok (.getfield 27, 3) := by decide +kernel
theorem dX11_fog_75 : decode cX11_fog 75 = .ok (.getfield 145, 3) := by decide +kernel
theorem dX11_fog_78 : decode cX11_fog 78 = .ok (.getfield 174, 3) := by decide +kernel
theorem dX11_fog_81 : decode cX11_fog 81 = .ok (.invokevirtual 184, 3) := by decide +kernel
theorem dX11_fog_84 : decode cX11_fog 84 = .ok (.invokestatic 229, 3) := by decide +kernel
theorem dX11_fog_87 : decode cX11_fog 87 = .ok (.ireturn, 1) := by decide +kernel
theorem dX11_go_0 : decode cX11_go 0 = .ok (.aload_n 0, 1) := by decide +kernel
theorem dX11_go_1 : decode cX11_go 1 = .ok (.getfield 27, 3) := by decide +kernel
theorem dX11_go_4 : decode cX11_go 4 = .ok (.iload_n 1, 1) := by decide +kernel
theorem dX11_go_5 : decode cX11_go 5 = .ok (.iload_n 2, 1) := by decide +kernel
theorem dX11_go_6 : decode cX11_go 6 = .ok (.invokevirtual 198, 3) := by decide +kernel
theorem dX11_go_9 : decode cX11_go 9 = .ok (.istore_n 3, 1) := by decide +kernel
theorem dX11_go_10 : decode cX11_go 10 = .ok (.iload_n 3, 1) := by decide +kernel
theorem dX11_go_11 : decode cX11_go 11 = .ok (.ifCond .eq 8, 3) := by decide +kernel
theorem dX11_go_14 : decode cX11_go 14 = .ok (.bipush (-10), 2) := by decide +kernel
theorem dX11_go_16 : decode cX11_go 16 = .ok (.iload_n 3, 1) := by decide +kernel
theorem dX11_go_17 : decode cX11_go 17 = .ok (.isub, 1) := by decide +kernel
theorem dX11_go_18 : decode cX11_go 18 = .ok (.ireturn, 1) := by decide +kernel
theorem dX11_go_19 : decode cX11_go 19 = .ok (.aload_n 0, 1) := by decide +kernel
theorem dX11_go_20 : decode cX11_go 20 = .ok (.aload_n 0, 1) := by decide +kernel
theorem dX11_go_21 : decode cX11_go 21 = .ok (.getfield 27, 3) := by decide +kernel
theorem dX11_go_24 : decode cX11_go 24 = .ok (.getfield 145, 3) := by decide +kernel
theorem dX11_go_27 : decode cX11_go 27 = .ok (.invokevirtual 201, 3) := by decide +kernel
theorem dX11_go_30 : decode cX11_go 30 = .ok (.aload_n 0, 1) := by decide +kernel
theorem dX11_go_31 : decode cX11_go 31 = .ok (.getfield 27, 3) := by decide +kernel
theorem dX11_go_34 : decode cX11_go 34 = .ok (.iload_n 1, 1) := by decide +kernel
theorem dX11_go_35 : decode cX11_go 35 = .ok (.iload_n 2, 1) := by decide +kernel
theorem dX11_go_36 : decode cX11_go 36 = .ok (.invokevirtual 205, 3) := by decide +kernel
theorem dX11_go_39 : decode cX11_go 39 = .ok (.pop, 1) := by decide +kernel
theorem dX11_go_40 : decode cX11_go 40 = .ok (.aload_n 0, 1) := by decide +kernel
theorem dX11_go_41 : decode cX11_go 41 = .ok (.getfield 41, 3) := by decide +kernel
theorem dX11_go_44 : decode cX11_go 44 = .ok (.invokevirtual 208, 3) := by decide +kernel
theorem dX11_go_47 : decode cX11_go 47 = .ok (.aload_n 0, 1) := by decide +kernel
theorem dX11_go_48 : decode cX11_go 48 = .ok (.getfield 27, 3) := by decide +kernel
theorem dX11_go_51 : decode cX11_go 51 = .ok (.getfield 145, 3) := by decide +kernel
theorem dX11_go_54 : decode cX11_go 54 = .ok (.getfield 148, 3) := by decide +kernel
theorem dX11_go_57 : decode cX11_go 57 = .ok (.iload_n 1, 1) := by decide +kernel
theorem dX11_go_58 : decode cX11_go 58 = .ok (.iaload, 1) := by decide +kernel
theorem dX11_go_59 : decode cX11_go 59 = .ok (.ireturn, 1) := by decide +kernel
theorem dX11_hand_0 : decode cX11_hand 0 = .ok (.aload_n 0, 1) := by decide +kernel
theorem dX11_hand_1 : decode cX11_hand 1 = .ok (.iload_n 1, 1) := by decide +kernel
theorem dX11_hand_2 : decode cX11_hand 2 = .ok (.invokevirtual 141, 3) := by decide +kernel
theorem dX11_hand_5 : decode cX11_hand 5 = .ok (.ifCond .eq 16, 3) := by decide +kernel
theorem dX11_hand_8 : decode cX11_hand 8 = .ok (.aload_n 0, 1) := by decide +kernel
theorem dX11_hand_9 : decode cX11_hand 9 = .ok (.iload_n 2, 1) := by decide +kernel
theorem dX11_hand_10 : decode cX11_hand 10 = .ok (.invokevirtual 141, 3) := by decide +kernel
theorem dX11_hand_13 : decode cX11_hand 13 = .ok (.ifCond .eq 8, 3) := by decide +kernel
theorem dX11_hand_16 : decode cX11_hand 16 = .ok (.iload_n 1, 1) := by decide +kernel
theorem dX11_hand_17 : decode cX11_hand 17 = .ok (.iload_n 2, 1) := by decide +kernel
theorem dX11_hand_18 : decode cX11_hand 18 = .ok (.if_icmp .ne 6, 3) := by decide +kernel
theorem dX11_hand_21 : decode cX11_hand 21 = .ok (.bipush (-2), 2) := by decide +kernel
theorem dX11_hand_23 : decode cX11_hand 23 = .ok (.ireturn, 1) := by decide +kernel
theorem dX11_hand_24 : decode cX11_hand 24 = .ok (.iload_n 3, 1) := by decide +kernel
theorem dX11_hand_25 : decode cX11_hand 25 = .ok (.iconst 1, 1) := by decide +kernel
theorem dX11_hand_26 : decode cX11_hand 26 = .ok (.if_icmp .lt 9, 3) := by decide +kernel
theorem dX11_hand_29 : decode cX11_hand 29 = .ok (.iload_n 3, 1) := by decide +kernel
theorem dX11_hand_30 : decode cX11_hand 30 = .ok (.bipush 99, 2) := by decide +kernel
theorem dX11_hand_32 : decode cX11_hand 32 = .ok (.if_icmp .le 6, 3) := by decide +kernel
theorem dX11_hand_35 : decode cX11_hand 35 = .ok (.bipush (-3), 2) := by decide +kernel
theorem dX11_hand_37 : decode cX11_hand 37 = .ok (.ireturn, 1) := by decide +kernel
theorem dX11_hand_38 : decode cX11_hand 38 = .ok (.aload_n 0, 1) := by decide +kernel
theorem dX11_hand_39 : decode cX11_hand 39 = .ok (.getfield 27, 3) := by decide +kernel
theorem dX11_hand_42 : decode cX11_hand 42 = .ok (.getfield 145, 3) := by decide +kernel
theorem dX11_hand_45 : decode cX11_hand 45 = .ok (.astore 4, 2) := by decide +kernel
theorem dX11_hand_47 : decode cX11_hand 47 = .ok (.aload 4, 2) := by decide +kernel
theorem dX11_hand_49 : decode cX11_hand 49 = .ok (.getfield 148, 3) := by decide +kernel
theorem dX11_hand_52 : decode cX11_hand 52 = .ok (.iload_n 1, 1) := by decide +kernel
theorem dX11_hand_53 : decode cX11_hand 53 = .ok (.iaload, 1) := by decide +kernel
theorem dX11_hand_54 : decode cX11_hand 54 = .ok (.aload 4, 2) := by decide +kernel
theorem dX11_hand_56 : decode cX11_hand 56 = .ok (.getfield 148, 3) := by decide +kernel
theorem dX11_hand_59 : decode cX11_hand 59 = .ok (.iload_n 2, 1) := by decide +kernel
theorem dX11_hand_60 : decode cX11_hand 60 = .ok (.iaload, 1) := by decide +kernel
theorem dX11_hand_61 : decode cX11_hand 61 = .ok (.if_icmp .ne 14, 3) := by decide +kernel
theorem dX11_hand_64 : decode cX11_hand 64 = .ok (.aload 4, 2) := by decide +kernel
theorem dX11_hand_66 : decode cX11_hand 66 = .ok (.getfield 154, 3) := by decide +kernel
theorem dX11_hand_69 : decode cX11_hand 69 = .ok (.iload_n 1, 1) := by decide +kernel
theorem dX11_hand_70 : decode cX11_hand 70 = .ok (.iaload, 1) := by decide +kernel
theorem dX11_hand_71 : decode cX11_hand 71 = .ok (.iload_n 3, 1) := by decide +kernel
theorem dX11_hand_72 : decode cX11_hand 72 = .ok (.if_icmp .ge 6, 3) := by decide +kernel
theorem dX11_hand_75 : decode cX11_hand 75 = .ok (.bipush (-5), 2) := by decide +kernel
theorem dX11_hand_77 : decode cX11_hand 77 = .ok (.ireturn, 1) := by decide +kernel
theorem dX11_hand_78 : decode cX11_hand 78 = .ok (.aload 4, 2) := by decide +kernel
theorem dX11_hand_80 : decode cX11_hand 80 = .ok (.getfield 154, 3) := by decide +kernel
theorem dX11_hand_83 : decode cX11_hand 83 = .ok (.iload_n 2, 1) := by decide +kernel
theorem dX11_hand_84 : decode cX11_hand 84 = .ok (.iaload, 1) := by decide +kernel
theorem dX11_hand_85 : decode cX11_hand 85 = .ok (.iload_n 3, 1) := by decide +kernel
theorem dX11_hand_86 : decode cX11_hand 86 = .ok (.iadd, 1) := by decide +kernel
theorem dX11_hand_87 : decode cX11_hand 87 = .ok (.bipush 99, 2) := by decide +kernel
theorem dX11_hand_89 : decode cX11_hand 89 = .ok (.if_icmp .le 6, 3) := by decide +kernel
theorem dX11_hand_92 : decode cX11_hand 92 = .ok (.bipush (-4), 2) := by decide +kernel
theorem dX11_hand_94 : decode cX11_hand 94 = .ok (.ireturn, 1) := by decide +kernel
theorem dX11_hand_95 : decode cX11_hand 95 = .ok (.aload_n 0, 1) := by decide +kernel
theorem dX11_hand_96 : decode cX11_hand 96 = .ok (.aload 4, 2) := by decide +kernel
theorem dX11_hand_98 : decode cX11_hand 98 = .ok (.invokevirtual 201, 3) := by decide +kernel
theorem dX11_hand_101 : decode cX11_hand 101 = .ok (.aload 4, 2) := by decide +kernel
theorem dX11_hand_103 : decode cX11_hand 103 = .ok (.getfield 154, 3) := by decide +kernel
theorem dX11_hand_106 : decode cX11_hand 106 = .ok (.iload_n 1, 1) := by decide +kernel
theorem dX11_hand_107 : decode cX11_hand 107 = .ok (.dup2, 1) := by decide +kernel
theorem dX11_hand_108 : decode cX11_hand 108 = .ok (.iaload, 1) := by decide +kernel
theorem dX11_hand_109 : decode cX11_hand 109 = .ok (.iload_n 3, 1) := by decide +kernel
theorem dX11_hand_110 : decode cX11_hand 110 = .ok (.isub, 1) := by decide +kernel
theorem dX11_hand_111 : decode cX11_hand 111 = .ok (.iastore, 1) := by decide +kernel
theorem dX11_hand_112 : decode cX11_hand 112 = .ok (.aload 4, 2) := by decide +kernel
theorem dX11_hand_114 : decode cX11_hand 114 = .ok (.getfield 154, 3) := by decide +kernel
theorem dX11_hand_117 : decode cX11_hand 117 = .ok (.iload_n 2, 1) := by decide +kernel
theorem dX11_hand_118 : decode cX11_hand 118 = .ok (.dup2, 1) := by decide +kernel
theorem dX11_hand_119 : decode cX11_hand 119 = .ok (.iaload, 1) := by decide +kernel
theorem dX11_hand_120 : decode cX11_hand 120 = .ok (.iload_n 3, 1) := by decide +kernel
theorem dX11_hand_121 : decode cX11_hand 121 = .ok (.iadd, 1) := by decide +kernel
theorem dX11_hand_122 : decode cX11_hand 122 = .ok (.iastore, 1) := by decide +kernel
theorem dX11_hand_123 : decode cX11_hand 123 = .ok (.aload 4, 2) := by decide +kernel
theorem dX11_hand_125 : decode cX11_hand 125 = .ok (.getfield 154, 3) := by decide +kernel
theorem dX11_hand_128 : decode cX11_hand 128 = .ok (.iload_n 2, 1) := by decide +kernel
theorem dX11_hand_129 : decode cX11_hand 129 = .ok (.iaload, 1) := by decide +kernel
theorem dX11_hand_130 : decode cX11_hand 130 = .ok (.ireturn, 1) := by decide +kernel
theorem dX11_hours_0 : decode cX11_hours 0 = .ok (.iload_n 1, 1) := by decide +kernel
theorem dX11_hours_1 : decode cX11_hours 1 = .ok (.iconst 1, 1) := by decide +kernel
theorem dX11_hours_2 : decode cX11_hours 2 = .ok (.if_icmp .lt 9, 3) := by decide +kernel
theorem dX11_hours_5 : decode cX11_hours 5 = .ok (.iload_n 1, 1) := by decide +kernel
theorem dX11_hours_6 : decode cX11_hours 6 = .ok (.bipush 99, 2) := by decide +kernel
theorem dX11_hours_8 : decode cX11_hours 8 = .ok (.if_icmp .le 6, 3) := by decide +kernel
theorem dX11_hours_11 : decode cX11_hours 11 = .ok (.bipush (-3), 2) := by decide +kernel
theorem dX11_hours_13 : decode cX11_hours 13 = .ok (.ireturn, 1) := by decide +kernel
theorem dX11_hours_14 : decode cX11_hours 14 = .ok (.aload_n 0, 1) := by decide +kernel
theorem dX11_hours_15 : decode cX11_hours 15 = .ok (.aload_n 0, 1) := by decide +kernel
theorem dX11_hours_16 : decode cX11_hours 16 = .ok (.getfield 27, 3) := by decide +kernel
theorem dX11_hours_19 : decode cX11_hours 19 = .ok (.getfield 145, 3) := by decide +kernel
theorem dX11_hours_22 : decode cX11_hours 22 = .ok (.invokevirtual 201, 3) := by decide +kernel
theorem dX11_hours_25 : decode cX11_hours 25 = .ok (.aload_n 0, 1) := by decide +kernel
theorem dX11_hours_26 : decode cX11_hours 26 = .ok (.getfield 27, 3) := by decide +kernel
theorem dX11_hours_29 : decode cX11_hours 29 = .ok (.getfield 145, 3) := by decide +kernel
theorem dX11_hours_32 : decode cX11_hours 32 = .ok (.dup, 1) := by decide +kernel
theorem dX11_hours_33 : decode cX11_hours 33 = .ok (.getfield 174, 3) := by decide +kernel
theorem dX11_hours_36 : decode cX11_hours 36 = .ok (.iload_n 1, 1) := by decide +kernel
theorem dX11_hours_37 : decode cX11_hours 37 = .ok (.iadd, 1) := by decide +kernel
theorem dX11_hours_38 : decode cX11_hours 38 = .ok (.putfield 174, 3) := by decide +kernel
theorem dX11_hours_41 : decode cX11_hours 41 = .ok (.aload_n 0, 1) := by decide +kernel
theorem dX11_hours_42 : decode cX11_hours 42 = .ok (.getfield 41, 3) := by decide +kernel
theorem dX11_hours_45 : decode cX11_hours 45 = .ok (.invokevirtual 208, 3) := by decide +kernel
theorem dX11_hours_48 : decode cX11_hours 48 = .ok (.aload_n 0, 1) := by decide +kernel
theorem dX11_hours_49 : decode cX11_hours 49 = .ok (.getfield 27, 3) := by decide +kernel
theorem dX11_hours_52 : decode cX11_hours 52 = .ok (.getfield 145, 3) := by decide +kernel
theorem dX11_hours_55 : decode cX11_hours 55 = .ok (.getfield 174, 3) := by decide +kernel
theorem dX11_hours_58 : decode cX11_hours 58 = .ok (.ireturn, 1) := by decide +kernel
theorem dX11_judge_0 : decode cX11_judge 0 = .ok (.iload_n 1, 1) := by decide +kernel
theorem dX11_judge_1 : decode cX11_judge 1 = .ok (.invokestatic 211, 3) := by decide +kernel
theorem dX11_judge_4 : decode cX11_judge 4 = .ok (.ifCond .eq 16, 3) := by decide +kernel
theorem dX11_judge_7 : decode cX11_judge 7 = .ok (.iload_n 2, 1) := by decide +kernel
theorem dX11_judge_8 : decode cX11_judge 8 = .ok (.ifCond .lt 12, 3) := by decide +kernel
theorem dX11_judge_11 : decode cX11_judge 11 = .ok (.iload_n 2, 1) := by decide +kernel
theorem dX11_judge_12 : decode cX11_judge 12 = .ok (.aload_n 0, 1) := by decide +kernel
theorem dX11_judge_13 : decode cX11_judge 13 = .ok (.getfield 102, 3) := by decide +kernel
theorem dX11_judge_16 : decode cX11_judge 16 = .ok (.arraylength, 1) := by decide +kernel
theorem dX11_judge_17 : decode cX11_judge 17 = .ok (.if_icmp .lt 6, 3) := by decide +kernel
theorem dX11_judge_20 : decode cX11_judge 20 = .ok (.bipush (-2), 2) := by decide +kernel
theorem dX11_judge_22 : decode cX11_judge 22 = .ok (.ireturn, 1) := by decide +kernel
theorem dX11_judge_23 : decode cX11_judge 23 = .ok (.aload_n 0, 1) := by decide +kernel
theorem dX11_judge_24 : decode cX11_judge 24 = .ok (.getfield 78, 3) := by decide +kernel
theorem dX11_judge_27 : decode cX11_judge 27 = .ok (.iload_n 1, 1) := by decide +kernel
theorem dX11_judge_28 : decode cX11_judge 28 = .ok (.aaload, 1) := by decide +kernel
theorem dX11_judge_29 : decode cX11_judge 29 = .ok (.getfield 214, 3) := by decide +kernel
theorem dX11_judge_32 : decode cX11_judge 32 = .ok (.ifCond .ge 6, 3) := by decide +kernel
theorem dX11_judge_35 : decode cX11_judge 35 = .ok (.bipush (-6), 2) := by decide +kernel
theorem dX11_judge_37 : decode cX11_judge 37 = .ok (.ireturn, 1) := by decide +kernel
theorem dX11_judge_38 : decode cX11_judge 38 = .ok (.aload_n 0, 1) := by decide +kernel
theorem dX11_judge_39 : decode cX11_judge 39 = .ok (.getfield 98, 3) := by decide +kernel
theorem dX11_judge_42 : decode cX11_judge 42 = .ok (.aload_n 0, 1) := by decide +kernel
theorem dX11_judge_43 : decode cX11_judge 43 = .ok (.getfield 27, 3) := by decide +kernel
theorem dX11_judge_46 : decode cX11_judge 46 = .ok (.getfield 145, 3) := by decide +kernel
theorem dX11_judge_49 : decode cX11_judge 49 = .ok (.invokevirtual 217, 3) := by decide +kernel
theorem dX11_judge_52 : decode cX11_judge 52 = .ok (.aload_n 0, 1) := by decide +kernel
theorem dX11_judge_53 : decode cX11_judge 53 = .ok (.aload_n 0, 1) := by decide +kernel
theorem dX11_judge_54 : decode cX11_judge 54 = .ok (.getfield 78, 3) := by decide +kernel
theorem dX11_judge_57 : decode cX11_judge 57 = .ok (.iload_n 1, 1) := by decide +kernel
theorem dX11_judge_58 : decode cX11_judge 58 = .ok (.aaload, 1) := by decide +kernel
theorem dX11_judge_59 : decode cX11_judge 59 = .ok (.invokevirtual 219, 3) := by decide +kernel
theorem dX11_judge_62 : decode cX11_judge 62 = .ok (.pop, 1) := by decide +kernel
theorem dX11_judge_63 : decode cX11_judge 63 = .ok (.aload_n 0, 1) := by decide +kernel
theorem dX11_judge_64 : decode cX11_judge 64 = .ok (.getfield 27, 3) := by decide +kernel
theorem dX11_judge_67 : decode cX11_judge 67 = .ok (.getfield 145, 3) := by decide +kernel
theorem dX11_judge_70 : decode cX11_judge 70 = .ok (.aload_n 0, 1) := by decide +kernel
theorem dX11_judge_71 : decode cX11_judge 71 = .ok (.getfield 98, 3) := by decide +kernel
theorem dX11_judge_74 : decode cX11_judge 74 = .ok (.invokevirtual 217, 3) := by decide +kernel
theorem dX11_judge_77 : decode cX11_judge 77 = .ok (.aload_n 0, 1) := by decide +kernel
theorem dX11_judge_78 : decode cX11_judge 78 = .ok (.getfield 102, 3) := by decide +kernel
theorem dX11_judge_81 : decode cX11_judge 81 = .ok (.iload_n 2, 1) := by decide +kernel
theorem dX11_judge_82 : decode cX11_judge 82 = .ok (.iaload, 1) := by decide +kernel
theorem dX11_judge_83 : decode cX11_judge 83 = .ok (.ireturn, 1) := by decide +kernel
theorem dX11_person_0 : decode cX11_person 0 = .ok (.aload_n 0, 1) := by decide +kernel
theorem dX11_person_1 : decode cX11_person 1 = .ok (.iload_n 1, 1) := by decide +kernel
theorem dX11_person_2 : decode cX11_person 2 = .ok (.invokevirtual 141, 3) := by decide +kernel
theorem dX11_person_5 : decode cX11_person 5 = .ok (.ifCond .ne 6, 3) := by decide +kernel
theorem dX11_person_8 : decode cX11_person 8 = .ok (.bipush (-8), 2) := by decide +kernel
theorem dX11_person_10 : decode cX11_person 10 = .ok (.ireturn, 1) := by decide +kernel
theorem dX11_person_11 : decode cX11_person 11 = .ok (.iload_n 2, 1) := by decide +kernel
theorem dX11_person_12 : decode cX11_person 12 = .ok (.tableswitch 101 0 4 #[36, 49, 62, 75, 88], 36) := by decide +kernel
theorem dX11_person_48 : decode cX11_person 48 = .ok (.aload_n 0, 1) := by decide +kernel
theorem dX11_person_49 : decode cX11_person 49 = .ok (.getfield 27, 3) := by decide +kernel
theorem dX11_person_52 : decode cX11_person 52 = .ok (.getfield 145, 3) := by decide +kernel
theorem dX11_person_55 : decode cX11_person 55 = .ok (.getfield 148, 3) := by decide +kernel
theorem dX11_person_58 : decode cX11_person 58 = .ok (.iload_n 1, 1) := by decide +kernel
theorem dX11_person_59 : decode cX11_person 59 = .ok (.iaload, 1) := by decide +kernel
theorem dX11_person_60 : decode cX11_person 60 = .ok (.ireturn, 1) := by decide +kernel
theorem dX11_person_61 : decode cX11_person 61 = .ok (.aload_n 0, 1) := by decide +kernel
theorem dX11_person_62 : decode cX11_person 62 = .ok (.getfield 27, 3) := by decide +kernel
theorem dX11_person_65 : decode cX11_person 65 = .ok (.getfield 145, 3) := by decide +kernel
theorem dX11_person_68 : decode cX11_person 68 = .ok (.getfield 151, 3) := by decide +kernel
theorem dX11_person_71 : decode cX11_person 71 = .ok (.iload_n 1, 1) := by decide +kernel
theorem dX11_person_72 : decode cX11_person 72 = .ok (.iaload, 1) := by decide +kernel
theorem dX11_person_73 : decode cX11_person 73 = .ok (.ireturn, 1) := by decide +kernel
theorem dX11_person_74 : decode cX11_person 74 = .ok (.aload_n 0, 1) := by decide +kernel
theorem dX11_person_75 : decode cX11_person 75 = .ok (.getfield 27, 3) := by decide +kernel
theorem dX11_person_78 : decode cX11_person 78 = .ok (.getfield 145, 3) := by decide +kernel
theorem dX11_person_81 : decode cX11_person 81 = .ok (.getfield 154, 3) := by decide +kernel
theorem dX11_person_84 : decode cX11_person 84 = .ok (.iload_n 1, 1) := by decide +kernel
theorem dX11_person_85 : decode cX11_person 85 = .ok (.iaload, 1) := by decide +kernel
theorem dX11_person_86 : decode cX11_person 86 = .ok (.ireturn, 1) := by decide +kernel
theorem dX11_person_87 : decode cX11_person 87 = .ok (.aload_n 0, 1) := by decide +kernel
theorem dX11_person_88 : decode cX11_person 88 = .ok (.getfield 27, 3) := by decide +kernel
theorem dX11_person_91 : decode cX11_person 91 = .ok (.getfield 145, 3) := by decide +kernel
theorem dX11_person_94 : decode cX11_person 94 = .ok (.getfield 157, 3) := by decide +kernel
theorem dX11_person_97 : decode cX11_person 97 = .ok (.iload_n 1, 1) := by decide +kernel
theorem dX11_person_98 : decode cX11_person 98 = .ok (.iaload, 1) := by decide +kernel
theorem dX11_person_99 : decode cX11_person 99 = .ok (.ireturn, 1) := by decide +kernel
theorem dX11_person_100 : decode cX11_person 100 = .ok (.aload_n 0, 1) := by decide +kernel
theorem dX11_person_101 : decode cX11_person 101 = .ok (.getfield 27, 3) := by decide +kernel
theorem dX11_person_104 : decode cX11_person 104 = .ok (.getfield 145, 3) := by decide +kernel
theorem dX11_person_107 : decode cX11_person 107 = .ok (.getfield 160, 3) := by decide +kernel
theorem dX11_person_110 : decode cX11_person 110 = .ok (.iload_n 1, 1) := by decide +kernel
theorem dX11_person_111 : decode cX11_person 111 = .ok (.iaload, 1) := by decide +kernel
theorem dX11_person_112 : decode cX11_person 112 = .ok (.ireturn, 1) := by decide +kernel
theorem dX11_person_113 : decode cX11_person 113 = .ok (.bipush (-8), 2) := by decide +kernel
theorem dX11_person_115 : decode cX11_person 115 = .ok (.ireturn, 1) := by decide +kernel
theorem dX11_price_0 : decode cX11_price 0 = .ok (.aload_n 0, 1) := by decide +kernel
theorem dX11_price_1 : decode cX11_price 1 = .ok (.iload_n 1, 1) := by decide +kernel
theorem dX11_price_2 : decode cX11_price 2 = .ok (.iload_n 2, 1) := by decide +kernel
theorem dX11_price_3 : decode cX11_price 3 = .ok (.invokevirtual 163, 3) := by decide +kernel
theorem dX11_price_6 : decode cX11_price 6 = .ok (.ifCond .ne 6, 3) := by decide +kernel
theorem dX11_price_9 : decode cX11_price 9 = .ok (.bipush (-2), 2) := by decide +kernel
theorem dX11_price_11 : decode cX11_price 11 = .ok (.ireturn, 1) := by decide +kernel
theorem dX11_price_12 : decode cX11_price 12 = .ok (.iload_n 3, 1) := by decide +kernel
theorem dX11_price_13 : decode cX11_price 13 = .ok (.ifCond .lt 10, 3) := by decide +kernel
theorem dX11_price_16 : decode cX11_price 16 = .ok (.iload_n 3, 1) := by decide +kernel
theorem dX11_price_17 : decode cX11_price 17 = .ok (.sipush 999, 3) := by decide +kernel
theorem dX11_price_20 : decode cX11_price 20 = .ok (.if_icmp .le 6, 3) := by decide +kernel
theorem dX11_price_23 : decode cX11_price 23 = .ok (.bipush (-3), 2) := by decide +kernel
theorem dX11_price_25 : decode cX11_price 25 = .ok (.ireturn, 1) := by decide +kernel
theorem dX11_price_26 : decode cX11_price 26 = .ok (.aload_n 0, 1) := by decide +kernel
theorem dX11_price_27 : decode cX11_price 27 = .ok (.getfield 27, 3) := by decide +kernel
theorem dX11_price_30 : decode cX11_price 30 = .ok (.iload_n 1, 1) := by decide +kernel
theorem dX11_price_31 : decode cX11_price 31 = .ok (.aload_n 0, 1) := by decide +kernel
theorem dX11_price_32 : decode cX11_price 32 = .ok (.getfield 27, 3) := by decide +kernel
theorem dX11_price_35 : decode cX11_price 35 = .ok (.getfield 145, 3) := by decide +kernel
theorem dX11_price_38 : decode cX11_price 38 = .ok (.getfield 174, 3) := by decide +kernel
theorem dX11_price_41 : decode cX11_price 41 = .ok (.iload_n 3, 1) := by decide +kernel
theorem dX11_price_42 : decode cX11_price 42 = .ok (.iadd, 1) := by decide +kernel
theorem dX11_price_43 : decode cX11_price 43 = .ok (.aload_n 0, 1) := by decide +kernel
theorem dX11_price_44 : decode cX11_price 44 = .ok (.getfield 27, 3) := by decide +kernel
theorem dX11_price_47 : decode cX11_price 47 = .ok (.getfield 145, 3) := by decide +kernel
theorem dX11_price_50 : decode cX11_price 50 = .ok (.getfield 177, 3) := by decide +kernel
theorem dX11_price_53 : decode cX11_price 53 = .ok (.iload_n 1, 1) := by decide +kernel
theorem dX11_price_54 : decode cX11_price 54 = .ok (.iaload, 1) := by decide +kernel
theorem dX11_price_55 : decode cX11_price 55 = .ok (.iload_n 2, 1) := by decide +kernel
theorem dX11_price_56 : decode cX11_price 56 = .ok (.invokevirtual 180, 3) := by decide +kernel
theorem dX11_price_59 : decode cX11_price 59 = .ok (.ireturn, 1) := by decide +kernel
theorem dX11_sell_0 : decode cX11_sell 0 = .ok (.aload_n 0, 1) := by decide +kernel
theorem dX11_sell_1 : decode cX11_sell 1 = .ok (.iload_n 1, 1) := by decide +kernel
theorem dX11_sell_2 : decode cX11_sell 2 = .ok (.invokevirtual 141, 3) := by decide +kernel
theorem dX11_sell_5 : decode cX11_sell 5 = .ok (.ifCond .ne 6, 3) := by decide +kernel
theorem dX11_sell_8 : decode cX11_sell 8 = .ok (.bipush (-2), 2) := by decide +kernel
theorem dX11_sell_10 : decode cX11_sell 10 = .ok (.ireturn, 1) := by decide +kernel
theorem dX11_sell_11 : decode cX11_sell 11 = .ok (.aload_n 0, 1) := by decide +kernel
theorem dX11_sell_12 : decode cX11_sell 12 = .ok (.getfield 27, 3) := by decide +kernel
theorem dX11_sell_15 : decode cX11_sell 15 = .ok (.getfield 145, 3) := by decide +kernel
theorem dX11_sell_18 : decode cX11_sell 18 = .ok (.astore_n 2, 1) := by decide +kernel
theorem dX11_sell_19 : decode cX11_sell 19 = .ok (.aload_n 2, 1) := by decide +kernel
theorem dX11_sell_20 : decode cX11_sell 20 = .ok (.getfield 160, 3) := by decide +kernel
theorem dX11_sell_23 : decode cX11_sell 23 = .ok (.iload_n 1, 1) := by decide +kernel
theorem dX11_sell_24 : decode cX11_sell 24 = .ok (.iaload, 1) := by decide +kernel
theorem dX11_sell_25 : decode cX11_sell 25 = .ok (.ifCond .ne 6, 3) := by decide +kernel
theorem dX11_sell_28 : decode cX11_sell 28 = .ok (.bipush (-5), 2) := by decide +kernel
theorem dX11_sell_30 : decode cX11_sell 30 = .ok (.ireturn, 1) := by decide +kernel
theorem dX11_sell_31 : decode cX11_sell 31 = .ok (.aload_n 0, 1) := by decide +kernel
theorem dX11_sell_32 : decode cX11_sell 32 = .ok (.aload_n 2, 1) := by decide +kernel
theorem dX11_sell_33 : decode cX11_sell 33 = .ok (.invokevirtual 201, 3) := by decide +kernel
theorem dX11_sell_36 : decode cX11_sell 36 = .ok (.aload_n 2, 1) := by decide +kernel
theorem dX11_sell_37 : decode cX11_sell 37 = .ok (.getfield 160, 3) := by decide +kernel
theorem dX11_sell_40 : decode cX11_sell 40 = .ok (.iload_n 1, 1) := by decide +kernel
theorem dX11_sell_41 : decode cX11_sell 41 = .ok (.iaload, 1) := by decide +kernel
theorem dX11_sell_42 : decode cX11_sell 42 = .ok (.aload_n 0, 1) := by decide +kernel
theorem dX11_sell_43 : decode cX11_sell 43 = .ok (.getfield 27, 3) := by decide +kernel
theorem dX11_sell_46 : decode cX11_sell 46 = .ok (.iload_n 1, 1) := by decide +kernel
theorem dX11_sell_47 : decode cX11_sell 47 = .ok (.iconst 0, 1) := by decide +kernel
theorem dX11_sell_48 : decode cX11_sell 48 = .ok (.invokevirtual 223, 3) := by decide +kernel
theorem dX11_sell_51 : decode cX11_sell 51 = .ok (.iconst 3, 1) := by decide +kernel
theorem dX11_sell_52 : decode cX11_sell 52 = .ok (.idiv, 1) := by decide +kernel
theorem dX11_sell_53 : decode cX11_sell 53 = .ok (.imul, 1) := by decide +kernel
theorem dX11_sell_54 : decode cX11_sell 54 = .ok (.istore_n 3, 1) := by decide +kernel
theorem dX11_sell_55 : decode cX11_sell 55 = .ok (.aload_n 2, 1) := by decide +kernel
theorem dX11_sell_56 : decode cX11_sell 56 = .ok (.getfield 157, 3) := by decide +kernel
theorem dX11_sell_59 : decode cX11_sell 59 = .ok (.iload_n 1, 1) := by decide +kernel
theorem dX11_sell_60 : decode cX11_sell 60 = .ok (.sipush 9999, 3) := by decide +kernel
theorem dX11_sell_63 : decode cX11_sell 63 = .ok (.aload_n 2, 1) := by decide +kernel
theorem dX11_sell_64 : decode cX11_sell 64 = .ok (.getfield 157, 3) := by decide +kernel
theorem dX11_sell_67 : decode cX11_sell 67 = .ok (.iload_n 1, 1) := by decide +kernel
theorem dX11_sell_68 : decode cX11_sell 68 = .ok (.iaload, 1) := by decide +kernel
theorem dX11_sell_69 : decode cX11_sell 69 = .ok (.iload_n 3, 1) := by decide +kernel
theorem dX11_sell_70 : decode cX11_sell 70 = .ok (.iadd, 1) := by decide +kernel
theorem dX11_sell_71 : decode cX11_sell 71 = .ok (.invokestatic 226, 3) := by decide +kernel
theorem dX11_sell_74 : decode cX11_sell 74 = .ok (.iastore, 1) := by decide +kernel
theorem dX11_sell_75 : decode cX11_sell 75 = .ok (.aload_n 2, 1) := by decide +kernel
theorem dX11_sell_76 : decode cX11_sell 76 = .ok (.getfield 160, 3) := by decide +kernel
theorem dX11_sell_79 : decode cX11_sell 79 = .ok (.iload_n 1, 1) := by decide +kernel
theorem dX11_sell_80 : decode cX11_sell 80 = .ok (.iconst 0, 1) := by decide +kernel
theorem dX11_sell_81 : decode cX11_sell 81 = .ok (.iastore, 1) := by decide +kernel
theorem dX11_sell_82 : decode cX11_sell 82 = .ok (.iload_n 3, 1) := by decide +kernel
theorem dX11_sell_83 : decode cX11_sell 83 = .ok (.ireturn, 1) := by decide +kernel
theorem dX11_street_0 : decode cX11_street 0 = .ok (.aload_n 0, 1) := by decide +kernel
theorem dX11_street_1 : decode cX11_street 1 = .ok (.iload_n 1, 1) := by decide +kernel
theorem dX11_street_2 : decode cX11_street 2 = .ok (.iload_n 2, 1) := by decide +kernel
theorem dX11_street_3 : decode cX11_street 3 = .ok (.invokevirtual 163, 3) := by decide +kernel
theorem dX11_street_6 : decode cX11_street 6 = .ok (.ifCond .ne 6, 3) := by decide +kernel
theorem dX11_street_9 : decode cX11_street 9 = .ok (.bipush (-2), 2) := by decide +kernel
theorem dX11_street_11 : decode cX11_street 11 = .ok (.ireturn, 1) := by decide +kernel
theorem dX11_street_12 : decode cX11_street 12 = .ok (.aload_n 0, 1) := by decide +kernel
theorem dX11_street_13 : decode cX11_street 13 = .ok (.getfield 27, 3) := by decide +kernel
theorem dX11_street_16 : decode cX11_street 16 = .ok (.iload_n 1, 1) := by decide +kernel
theorem dX11_street_17 : decode cX11_street 17 = .ok (.iload_n 2, 1) := by decide +kernel
theorem dX11_street_18 : decode cX11_street 18 = .ok (.invokevirtual 167, 3) := by decide +kernel
theorem dX11_street_21 : decode cX11_street 21 = .ok (.ireturn, 1) := by decide +kernel
theorem dX11_undo_0 : decode cX11_undo 0 = .ok (.iload_n 1, 1) := by decide +kernel
theorem dX11_undo_1 : decode cX11_undo 1 = .ok (.iconst 1, 1) := by decide +kernel
theorem dX11_undo_2 : decode cX11_undo 2 = .ok (.if_icmp .lt 11, 3) := by decide +kernel
theorem dX11_undo_5 : decode cX11_undo 5 = .ok (.iload_n 1, 1) := by decide +kernel
theorem dX11_undo_6 : decode cX11_undo 6 = .ok (.aload_n 0, 1) := by decide +kernel
theorem dX11_undo_7 : decode cX11_undo 7 = .ok (.getfield 234, 3) := by decide +kernel
theorem dX11_undo_10 : decode cX11_undo 10 = .ok (.if_icmp .le 6, 3) := by decide +kernel
theorem dX11_undo_13 : decode cX11_undo 13 = .ok (.bipush (-3), 2) := by decide +kernel
theorem dX11_undo_15 : decode cX11_undo 15 = .ok (.ireturn, 1) := by decide +kernel
theorem dX11_undo_16 : decode cX11_undo 16 = .ok (.aload_n 0, 1) := by decide +kernel
theorem dX11_undo_17 : decode cX11_undo 17 = .ok (.dup, 1) := by decide +kernel
theorem dX11_undo_18 : decode cX11_undo 18 = .ok (.getfield 234, 3) := by decide +kernel
theorem dX11_undo_21 : decode cX11_undo 21 = .ok (.iload_n 1, 1) := by decide +kernel
theorem dX11_undo_22 : decode cX11_undo 22 = .ok (.isub, 1) := by decide +kernel
theorem dX11_undo_23 : decode cX11_undo 23 = .ok (.putfield 234, 3) := by decide +kernel
theorem dX11_undo_26 : decode cX11_undo 26 = .ok (.aload_n 0, 1) := by decide +kernel
theorem dX11_undo_27 : decode cX11_undo 27 = .ok (.getfield 27, 3) := by decide +kernel
theorem dX11_undo_30 : decode cX11_undo 30 = .ok (.getfield 145, 3) := by decide +kernel
theorem dX11_undo_33 : decode cX11_undo 33 = .ok (.aload_n 0, 1) := by decide +kernel
theorem dX11_undo_34 : decode cX11_undo 34 = .ok (.getfield 93, 3) := by decide +kernel
theorem dX11_undo_37 : decode cX11_undo 37 = .ok (.aload_n 0, 1) := by decide +kernel
theorem dX11_undo_38 : decode cX11_undo 38 = .ok (.getfield 237, 3) := by decide +kernel
theorem dX11_undo_41 : decode cX11_undo 41 = .ok (.aload_n 0, 1) := by decide +kernel
theorem dX11_undo_42 : decode cX11_undo 42 = .ok (.getfield 234, 3) := by decide +kernel
theorem dX11_undo_45 : decode cX11_undo 45 = .ok (.iadd, 1) := by decide +kernel
theorem dX11_undo_46 : decode cX11_undo 46 = .ok (.bipush 10, 2) := by decide +kernel
theorem dX11_undo_48 : decode cX11_undo 48 = .ok (.irem, 1) := by decide +kernel
theorem dX11_undo_49 : decode cX11_undo 49 = .ok (.aaload, 1) := by decide +kernel
theorem dX11_undo_50 : decode cX11_undo 50 = .ok (.invokevirtual 217, 3) := by decide +kernel
theorem dX11_undo_53 : decode cX11_undo 53 = .ok (.aload_n 0, 1) := by decide +kernel
theorem dX11_undo_54 : decode cX11_undo 54 = .ok (.getfield 41, 3) := by decide +kernel
theorem dX11_undo_57 : decode cX11_undo 57 = .ok (.invokevirtual 208, 3) := by decide +kernel
theorem dX11_undo_60 : decode cX11_undo 60 = .ok (.aload_n 0, 1) := by decide +kernel
theorem dX11_undo_61 : decode cX11_undo 61 = .ok (.getfield 234, 3) := by decide +kernel
theorem dX11_undo_64 : decode cX11_undo 64 = .ok (.ireturn, 1) := by decide +kernel
theorem dX11_walk_0 : decode cX11_walk 0 = .ok (.iload_n 1, 1) := by decide +kernel
theorem dX11_walk_1 : decode cX11_walk 1 = .ok (.invokestatic 211, 3) := by decide +kernel
theorem dX11_walk_4 : decode cX11_walk 4 = .ok (.ifCond .ne 6, 3) := by decide +kernel
theorem dX11_walk_7 : decode cX11_walk 7 = .ok (.bipush (-2), 2) := by decide +kernel
theorem dX11_walk_9 : decode cX11_walk 9 = .ok (.ireturn, 1) := by decide +kernel
theorem dX11_walk_10 : decode cX11_walk 10 = .ok (.aload_n 0, 1) := by decide +kernel
theorem dX11_walk_11 : decode cX11_walk 11 = .ok (.getfield 78, 3) := by decide +kernel
theorem dX11_walk_14 : decode cX11_walk 14 = .ok (.iload_n 1, 1) := by decide +kernel
theorem dX11_walk_15 : decode cX11_walk 15 = .ok (.aaload, 1) := by decide +kernel
theorem dX11_walk_16 : decode cX11_walk 16 = .ok (.getfield 214, 3) := by decide +kernel
theorem dX11_walk_19 : decode cX11_walk 19 = .ok (.ifCond .ge 6, 3) := by decide +kernel
theorem dX11_walk_22 : decode cX11_walk 22 = .ok (.bipush (-6), 2) := by decide +kernel
theorem dX11_walk_24 : decode cX11_walk 24 = .ok (.ireturn, 1) := by decide +kernel
theorem dX11_walk_25 : decode cX11_walk 25 = .ok (.aload_n 0, 1) := by decide +kernel
theorem dX11_walk_26 : decode cX11_walk 26 = .ok (.getfield 98, 3) := by decide +kernel
theorem dX11_walk_29 : decode cX11_walk 29 = .ok (.aload_n 0, 1) := by decide +kernel
theorem dX11_walk_30 : decode cX11_walk 30 = .ok (.getfield 27, 3) := by decide +kernel
theorem dX11_walk_33 : decode cX11_walk 33 = .ok (.getfield 145, 3) := by decide +kernel
theorem dX11_walk_36 : decode cX11_walk 36 = .ok (.invokevirtual 217, 3) := by decide +kernel
theorem dX11_walk_39 : decode cX11_walk 39 = .ok (.aload_n 0, 1) := by decide +kernel
theorem dX11_walk_40 : decode cX11_walk 40 = .ok (.aload_n 0, 1) := by decide +kernel
theorem dX11_walk_41 : decode cX11_walk 41 = .ok (.getfield 78, 3) := by decide +kernel
theorem dX11_walk_44 : decode cX11_walk 44 = .ok (.iload_n 1, 1) := by decide +kernel
theorem dX11_walk_45 : decode cX11_walk 45 = .ok (.aaload, 1) := by decide +kernel
theorem dX11_walk_46 : decode cX11_walk 46 = .ok (.invokevirtual 219, 3) := by decide +kernel
theorem dX11_walk_49 : decode cX11_walk 49 = .ok (.istore_n 2, 1) := by decide +kernel
theorem dX11_walk_50 : decode cX11_walk 50 = .ok (.iload_n 2, 1) := by decide +kernel
theorem dX11_walk_51 : decode cX11_walk 51 = .ok (.ifCond .le 18, 3) := by decide +kernel
theorem dX11_walk_54 : decode cX11_walk 54 = .ok (.aload_n 0, 1) := by decide +kernel
theorem dX11_walk_55 : decode cX11_walk 55 = .ok (.aload_n 0, 1) := by decide +kernel
theorem dX11_walk_56 : decode cX11_walk 56 = .ok (.getfield 98, 3) := by decide +kernel
theorem dX11_walk_59 : decode cX11_walk 59 = .ok (.invokevirtual 201, 3) := by decide +kernel
theorem dX11_walk_62 : decode cX11_walk 62 = .ok (.aload_n 0, 1) := by decide +kernel
theorem dX11_walk_63 : decode cX11_walk 63 = .ok (.getfield 41, 3) := by decide +kernel
theorem dX11_walk_66 : decode cX11_walk 66 = .ok (.invokevirtual 208, 3) := by decide +kernel
theorem dX11_walk_69 : decode cX11_walk 69 = .ok (.iload_n 2, 1) := by decide +kernel
theorem dX11_walk_70 : decode cX11_walk 70 = .ok (.ireturn, 1) := by decide +kernel
theorem dX11_week_0 : decode cX11_week 0 = .ok (.iload_n 2, 1) := by decide +kernel
theorem dX11_week_1 : decode cX11_week 1 = .ok (.iconst 1, 1) := by decide +kernel
theorem dX11_week_2 : decode cX11_week 2 = .ok (.if_icmp .lt 9, 3) := by decide +kernel
theorem dX11_week_5 : decode cX11_week 5 = .ok (.iload_n 2, 1) := by decide +kernel
theorem dX11_week_6 : decode cX11_week 6 = .ok (.bipush 60, 2) := by decide +kernel
theorem dX11_week_8 : decode cX11_week 8 = .ok (.if_icmp .le 6, 3) := by decide +kernel
theorem dX11_week_11 : decode cX11_week 11 = .ok (.bipush (-3), 2) := by decide +kernel
theorem dX11_week_13 : decode cX11_week 13 = .ok (.ireturn, 1) := by decide +kernel
theorem dX11_week_14 : decode cX11_week 14 = .ok (.aload_n 0, 1) := by decide +kernel
theorem dX11_week_15 : decode cX11_week 15 = .ok (.getfield 27, 3) := by decide +kernel
theorem dX11_week_18 : decode cX11_week 18 = .ok (.getfield 145, 3) := by decide +kernel
theorem dX11_week_21 : decode cX11_week 21 = .ok (.getfield 240, 3) := by decide +kernel
theorem dX11_week_24 : decode cX11_week 24 = .ok (.ifCond .ne 6, 3) := by decide +kernel
theorem dX11_week_27 : decode cX11_week 27 = .ok (.bipush (-5), 2) := by decide +kernel
theorem dX11_week_29 : decode cX11_week 29 = .ok (.ireturn, 1) := by decide +kernel
theorem dX11_week_30 : decode cX11_week 30 = .ok (.aload_n 0, 1) := by decide +kernel
theorem dX11_week_31 : decode cX11_week 31 = .ok (.getfield 98, 3) := by decide +kernel
theorem dX11_week_34 : decode cX11_week 34 = .ok (.aload_n 0, 1) := by decide +kernel
theorem dX11_week_35 : decode cX11_week 35 = .ok (.getfield 27, 3) := by decide +kernel
theorem dX11_week_38 : decode cX11_week 38 = .ok (.getfield 145, 3) := by decide +kernel
theorem dX11_week_41 : decode cX11_week 41 = .ok (.invokevirtual 217, 3) := by decide +kernel
theorem dX11_week_44 : decode cX11_week 44 = .ok (.aload_n 0, 1) := by decide +kernel
theorem dX11_week_45 : decode cX11_week 45 = .ok (.iload_n 1, 1) := by decide +kernel
theorem dX11_week_46 : decode cX11_week 46 = .ok (.putfield 243, 3) := by decide +kernel
theorem dX11_week_49 : decode cX11_week 49 = .ok (.iconst 0, 1) := by decide +kernel
theorem dX11_week_50 : decode cX11_week 50 = .ok (.istore_n 3, 1) := by decide +kernel
theorem dX11_week_51 : decode cX11_week 51 = .ok (.iconst 0, 1) := by decide +kernel
theorem dX11_week_52 : decode cX11_week 52 = .ok (.istore 4, 2) := by decide +kernel
theorem dX11_week_54 : decode cX11_week 54 = .ok (.iload 4, 2) := by decide +kernel
theorem dX11_week_56 : decode cX11_week 56 = .ok (.iload_n 2, 1) := by decide +kernel
theorem dX11_week_57 : decode cX11_week 57 = .ok (.if_icmp .ge 19, 3) := by decide +kernel
theorem dX11_week_60 : decode cX11_week 60 = .ok (.aload_n 0, 1) := by decide +kernel
theorem dX11_week_61 : decode cX11_week 61 = .ok (.invokevirtual 246, 3) := by decide +kernel
theorem dX11_week_64 : decode cX11_week 64 = .ok (.ifCond .eq 6, 3) := by decide +kernel
theorem dX11_week_67 : decode cX11_week 67 = .ok (.iinc 3 1, 3) := by decide +kernel
theorem dX11_week_70 : decode cX11_week 70 = .ok (.iinc 4 1, 3) := by decide +kernel
theorem dX11_week_73 : decode cX11_week 73 = .ok (.goto (-19), 3) := by decide +kernel
theorem dX11_week_76 : decode cX11_week 76 = .ok (.iload_n 3, 1) := by decide +kernel
theorem dX11_week_77 : decode cX11_week 77 = .ok (.ifCond .le 18, 3) := by decide +kernel
theorem dX11_week_80 : decode cX11_week 80 = .ok (.aload_n 0, 1) := by decide +kernel
theorem dX11_week_81 : decode cX11_week 81 = .ok (.aload_n 0, 1) := by decide +kernel
theorem dX11_week_82 : decode cX11_week 82 = .ok (.getfield 98, 3) := by decide +kernel
theorem dX11_week_85 : decode cX11_week 85 = .ok (.invokevirtual 201, 3) := by decide +kernel
theorem dX11_week_88 : decode cX11_week 88 = .ok (.aload_n 0, 1) := by decide +kernel
theorem dX11_week_89 : decode cX11_week 89 = .ok (.getfield 41, 3) := by decide +kernel
theorem dX11_week_92 : decode cX11_week 92 = .ok (.invokevirtual 208, 3) := by decide +kernel
theorem dX11_week_95 : decode cX11_week 95 = .ok (.iload_n 3, 1) := by decide +kernel
theorem dX11_week_96 : decode cX11_week 96 = .ok (.ireturn, 1) := by decide +kernel
theorem dX11_why_0 : decode cX11_why 0 = .ok (.aload_n 0, 1) := by decide +kernel
theorem dX11_why_1 : decode cX11_why 1 = .ok (.getfield 27, 3) := by decide +kernel
theorem dX11_why_4 : decode cX11_why 4 = .ok (.iload_n 1, 1) := by decide +kernel
theorem dX11_why_5 : decode cX11_why 5 = .ok (.iload_n 2, 1) := by decide +kernel
theorem dX11_why_6 : decode cX11_why 6 = .ok (.invokevirtual 198, 3) := by decide +kernel
theorem dX11_why_9 : decode cX11_why 9 = .ok (.ireturn, 1) := by decide +kernel
theorem o27_1 {x0 : Int} (h0 : 0 ≤ x0) (h1 : x0 ≤ 900) : (-5) ≤ x0 := by omega
theorem o27_2 {x0 : Int} (h0 : 0 ≤ x0) (h1 : x0 ≤ 900) : x0 ≤ 900 := by omega
theorem o27_3 {x0 : Int} (h0 : x0 = (-5)) : (-5) ≤ x0 := by omega
theorem o27_4 {x0 : Int} (h0 : x0 = (-5)) : x0 ≤ 900 := by omega
theorem o27_5 {x0 x1 : Int} (h0 : 0 ≤ x0) (h1 : 0 ≤ x1) (h2 : x1 ≤ 900) (h3 : x0 ≤ x1) : 0 ≤ x0 := by omega
theorem o27_6 {x0 x1 : Int} (h0 : 0 ≤ x0) (h1 : 0 ≤ x1) (h2 : x1 ≤ 900) (h3 : x0 ≤ x1) : x0 ≤ 900 := by omega
theorem o27_7 {x0 x1 : Int} (h0 : 0 ≤ x1) (h1 : x1 ≤ 1) (h2 : (x1 = 0 ∨ (0 ≤ x0 ∧ x0 ≤ 4))) (h3 : ¬ x1 = 0) : 0 ≤ x0 := by omega
theorem o27_8 {x0 x1 : Int} (h0 : 0 ≤ x1) (h1 : x1 ≤ 1) (h2 : (x1 = 0 ∨ (0 ≤ x0 ∧ x0 ≤ 4))) (h3 : ¬ x1 = 0) : x0 < (5 : Nat) := by omega
theorem o27_9 {x0 x1 x2 : Int} (h0 : 0 ≤ x1) (h1 : x1 ≤ 1) (h2 : (x1 = 0 ∨ (0 ≤ x0 ∧ x0 ≤ 24 ∧ 0 ≤ x2 ∧ x2 ≤ 3))) (h3 : ¬ x1 = 0) : 0 ≤ x0 := by omega
theorem o27_10 {x0 x1 x2 : Int} (h0 : 0 ≤ x1) (h1 : x1 ≤ 1) (h2 : (x1 = 0 ∨ (0 ≤ x0 ∧ x0 ≤ 24 ∧ 0 ≤ x2 ∧ x2 ≤ 3))) (h3 : ¬ x1 = 0) : x0 ≤ 24 := by omega
theorem o27_11 {x0 x1 x2 : Int} (h0 : 0 ≤ x1) (h1 : x1 ≤ 1) (h2 : (x1 = 0 ∨ (0 ≤ x2 ∧ x2 ≤ 24 ∧ 0 ≤ x0 ∧ x0 ≤ 3))) (h3 : ¬ x1 = 0) : 0 ≤ x0 := by omega
theorem o27_12 {x0 x1 x2 : Int} (h0 : 0 ≤ x1) (h1 : x1 ≤ 1) (h2 : (x1 = 0 ∨ (0 ≤ x2 ∧ x2 ≤ 24 ∧ 0 ≤ x0 ∧ x0 ≤ 3))) (h3 : ¬ x1 = 0) : x0 ≤ 3 := by omega
theorem o27_13 {x0 : Int} (h0 : (-1) ≤ x0) (h1 : x0 ≤ 24) : (-2) ≤ x0 := by omega
theorem o27_14 {x0 : Int} (h0 : (-1) ≤ x0) (h1 : x0 ≤ 24) : x0 ≤ 24 := by omega
theorem o27_15 {x0 : Int} (h0 : x0 = (-2)) : (-2) ≤ x0 := by omega
theorem o27_16 {x0 : Int} (h0 : x0 = (-2)) : x0 ≤ 24 := by omega
theorem o27_17 {x0 x1 : Int} (h0 : 0 ≤ x1) (h1 : x1 ≤ 1) (h2 : (x1 = 0 ∨ (0 ≤ x0 ∧ x0 ≤ 24))) (h3 : ¬ x1 = 0) : 0 ≤ x0 := by omega
theorem o27_18 {x0 x1 : Int} (h0 : 0 ≤ x1) (h1 : x1 ≤ 1) (h2 : (x1 = 0 ∨ (0 ≤ x0 ∧ x0 ≤ 24))) (h3 : ¬ x1 = 0) : x0 < (25 : Nat) := by omega
theorem o27_19 {x0 x1 : Int} (h0 : 0 ≤ x1) (h1 : x1 ≤ 1) (h2 : (x1 = 0 ∨ (0 ≤ x0 ∧ x0 ≤ 24))) (h3 : ¬ x1 = 0) : x0 ≤ 24 := by omega
theorem o27_20 {x0 : Int} (h0 : x0 = 1) : x0 = 1 := by omega
theorem o27_21 {x0 : Int} (h0 : x0 = (-3)) : (-3) ≤ x0 := by omega
theorem o27_22 {x0 x1 x2 : Int} (h0 : 0 ≤ x1) (h1 : x1 ≤ 1) (h2 : (x1 = 0 ∨ (0 ≤ x0 ∧ x0 ≤ 24 ∧ 0 ≤ x2 ∧ x2 ≤ 3))) (h3 : ¬ x1 = 0) : x0 < (25 : Nat) := by omega
theorem o27_23 {x0 : Int} (h0 : 0 ≤ x0) : (-3) ≤ x0 := by omega
theorem o27_24 {x0 : Int} (h0 : x0 = (-2)) : (-3) ≤ x0 := by omega
theorem o27_25 {x0 x1 x2 : Int} (h0 : 0 ≤ x0) (h1 : x0 ≤ 4) (h2 : (x0 = 0 → 0 ≤ x1) ∧ (x0 = 0 → x1 ≤ 4) ∧ (x0 = 0 → 0 ≤ x2) ∧ (x0 = 0 → x2 ≤ 3)) : 0 ≤ x0 := by omega
theorem o27_26 {x0 x1 x2 : Int} (h0 : 0 ≤ x0) (h1 : x0 ≤ 4) (h2 : (x0 = 0 → 0 ≤ x1) ∧ (x0 = 0 → x1 ≤ 4) ∧ (x0 = 0 → 0 ≤ x2) ∧ (x0 = 0 → x2 ≤ 3)) : x0 ≤ 4 := by omega
theorem o27_27 {x0 x1 x2 : Int} (h0 : 0 ≤ x1) (h1 : x1 ≤ 4) (h2 : (x1 = 0 → 0 ≤ x0) ∧ (x1 = 0 → x0 ≤ 4) ∧ (x1 = 0 → 0 ≤ x2) ∧ (x1 = 0 → x2 ≤ 3)) (h3 : x1 = 0) : 0 ≤ x0 := by omega
theorem o27_28 {x0 x1 x2 : Int} (h0 : 0 ≤ x1) (h1 : x1 ≤ 4) (h2 : (x1 = 0 → 0 ≤ x0) ∧ (x1 = 0 → x0 ≤ 4) ∧ (x1 = 0 → 0 ≤ x2) ∧ (x1 = 0 → x2 ≤ 3)) (h3 : x1 = 0) : x0 ≤ 4 := by omega
theorem o27_29 {x0 x1 x2 : Int} (h0 : 0 ≤ x1) (h1 : x1 ≤ 4) (h2 : (x1 = 0 → 0 ≤ x2) ∧ (x1 = 0 → x2 ≤ 4) ∧ (x1 = 0 → 0 ≤ x0) ∧ (x1 = 0 → x0 ≤ 3)) (h3 : x1 = 0) : 0 ≤ x0 := by omega
theorem o27_30 {x0 x1 x2 : Int} (h0 : 0 ≤ x1) (h1 : x1 ≤ 4) (h2 : (x1 = 0 → 0 ≤ x2) ∧ (x1 = 0 → x2 ≤ 4) ∧ (x1 = 0 → 0 ≤ x0) ∧ (x1 = 0 → x0 ≤ 3)) (h3 : x1 = 0) : x0 ≤ 3 := by omega
theorem o27_31 {x0 x1 x2 : Int} (h0 : 0 ≤ x0) (h1 : x0 ≤ 4) (h2 : (x0 = 0 → 0 ≤ x1) ∧ (x0 = 0 → x1 ≤ 4) ∧ (x0 = 0 → 0 ≤ x2) ∧ (x0 = 0 → x2 ≤ 3)) (h3 : x0 = 0) : x0 = 0 := by omega
theorem o27_32 {x0 x1 x2 : Int} (h0 : 0 ≤ x1) (h1 : x1 ≤ 4) (h2 : (x1 = 0 → 0 ≤ x0) ∧ (x1 = 0 → x0 ≤ 4) ∧ (x1 = 0 → 0 ≤ x2) ∧ (x1 = 0 → x2 ≤ 3)) (h3 : x1 = 0) : x0 < (5 : Nat) := by omega
theorem o27_33 {x0 : Int} (h0 : 0 ≤ x0) (h1 : x0 ≤ 24) : (-14) ≤ x0 := by omega
theorem o27_34 {x0 : Int} (h0 : 0 ≤ x0) (h1 : x0 ≤ 24) : x0 ≤ 24 := by omega
theorem o27_35 {x0 x1 x2 x3 : Int} (h0 : 0 ≤ x1) (h1 : x1 ≤ 4) (h2 : (x1 = 0 → 0 ≤ x2) ∧ (x1 = 0 → x2 ≤ 4) ∧ (x1 = 0 → 0 ≤ x3) ∧ (x1 = 0 → x3 ≤ 3)) (h3 : ¬ x1 = 0) (h4 : x0 = (-10)) (h5 : -2147483648 ≤ x0) (h6 : x0 ≤ 2147483647) (h7 : -2147483648 ≤ x1) (h8 : x1 ≤ 2147483647) (h9 : -2147483648 ≤ x2) (h10 : x2 ≤ 2147483647) (h11 : -2147483648 ≤ x3) (h12 : x3 ≤ 2147483647) : -2147483648 ≤ x0 - x1 := by omega
theorem o27_36 {x0 x1 x2 x3 : Int} (h0 : 0 ≤ x1) (h1 : x1 ≤ 4) (h2 : (x1 = 0 → 0 ≤ x2) ∧ (x1 = 0 → x2 ≤ 4) ∧ (x1 = 0 → 0 ≤ x3) ∧ (x1 = 0 → x3 ≤ 3)) (h3 : ¬ x1 = 0) (h4 : x0 = (-10)) (h5 : -2147483648 ≤ x0) (h6 : x0 ≤ 2147483647) (h7 : -2147483648 ≤ x1) (h8 : x1 ≤ 2147483647) (h9 : -2147483648 ≤ x2) (h10 : x2 ≤ 2147483647) (h11 : -2147483648 ≤ x3) (h12 : x3 ≤ 2147483647) : x0 - x1 ≤ 2147483647 := by omega
theorem o27_37 {x0 x1 x2 x3 x4 : Int} (h0 : 0 ≤ x1) (h1 : x1 ≤ 4) (h2 : (x1 = 0 → 0 ≤ x2) ∧ (x1 = 0 → x2 ≤ 4) ∧ (x1 = 0 → 0 ≤ x3) ∧ (x1 = 0 → x3 ≤ 3)) (h3 : ¬ x1 = 0) (h4 : x4 = (-10)) (h5 : x0 = x4 - x1) : (-14) ≤ x0 := by omega
theorem o27_38 {x0 x1 x2 x3 x4 : Int} (h0 : 0 ≤ x1) (h1 : x1 ≤ 4) (h2 : (x1 = 0 → 0 ≤ x2) ∧ (x1 = 0 → x2 ≤ 4) ∧ (x1 = 0 → 0 ≤ x3) ∧ (x1 = 0 → x3 ≤ 3)) (h3 : ¬ x1 = 0) (h4 : x4 = (-10)) (h5 : x0 = x4 - x1) : x0 ≤ 24 := by omega
theorem o27_39 {x0 x1 : Int} (h0 : 0 ≤ x1) (h1 : x1 ≤ 1) (h2 : ((x1 = 0 ∧ (x0 < 0 ∨ 3 < x0)) ∨ (x1 = 1 ∧ 0 ≤ x0 ∧ x0 ≤ 3))) (h3 : ¬ x1 = 0) : 0 ≤ x0 := by omega
theorem o27_40 {x0 x1 : Int} (h0 : 0 ≤ x1) (h1 : x1 ≤ 1) (h2 : ((x1 = 0 ∧ (x0 < 0 ∨ 3 < x0)) ∨ (x1 = 1 ∧ 0 ≤ x0 ∧ x0 ≤ 3))) (h3 : ¬ x1 = 0) : x0 < (4 : Nat) := by omega
theorem o27_41 {x0 x1 : Int} (h0 : 0 ≤ x1) (h1 : x1 ≤ 1) (h2 : ((x1 = 0 ∧ (x0 < 0 ∨ 3 < x0)) ∨ (x1 = 1 ∧ 0 ≤ x0 ∧ x0 ≤ 3))) (h3 : ¬ x1 = 0) : (x0).toNat < 4 := by omega
theorem o27_42 {x0 x1 : Int} (h0 : 0 ≤ x0) (h1 : x1 = (4 : Nat)) (h2 : x0 < x1) : 0 ≤ x0 := by omega
theorem o27_43 {x0 x1 : Int} (h0 : 0 ≤ x0) (h1 : x1 = (4 : Nat)) (h2 : x0 < x1) : x0 < (4 : Nat) := by omega
theorem o27_44 {x0 : Int} (h0 : 0 ≤ x0) (h1 : x0 ≤ 20) (h2 : 20 - x0 < 0) : False := by omega
theorem o27_45 {x0 : Int} (h0 : 0 ≤ x0) (h1 : x0 ≤ 24) : 0 ≤ x0 := by omega
theorem o27_46 {x0 : Int} (h0 : 0 ≤ x0) (h1 : x0 ≤ 24) : x0 < (25 : Nat) := by omega
theorem o27_47 {x0 x1 : Int} (h0 : 0 ≤ x1) (h1 : x1 ≤ 1) (h2 : (x1 = 0 ∨ (0 ≤ x0 ∧ x0 ≤ 4))) (h3 : ¬ x1 = 0) : x0 ≤ 4 := by omega
theorem o27_48 {x0 x1 x2 x3 : Int} {x4 : Nat} (h0 : x1 = 1) (h1 : x1 ≤ x2) (h2 : x3 = 20) (h3 : x2 ≤ x3) (h4 : 0 ≤ x0) (h5 : x0 ≤ 20) (h6 : 20 - x0 < ((x4 + 1 : Nat) : Int)) (h7 : x0 < x2) (h8 : -2147483648 ≤ x0) (h9 : x0 ≤ 2147483647) (h10 : -2147483648 ≤ x1) (h11 : x1 ≤ 2147483647) (h12 : -2147483648 ≤ x2) (h13 : x2 ≤ 2147483647) (h14 : -2147483648 ≤ x3) (h15 : x3 ≤ 2147483647) : -2147483648 ≤ x0 + 1 := by omega
theorem o27_49 {x0 x1 x2 x3 : Int} {x4 : Nat} (h0 : x1 = 1) (h1 : x1 ≤ x2) (h2 : x3 = 20) (h3 : x2 ≤ x3) (h4 : 0 ≤ x0) (h5 : x0 ≤ 20) (h6 : 20 - x0 < ((x4 + 1 : Nat) : Int)) (h7 : x0 < x2) (h8 : -2147483648 ≤ x0) (h9 : x0 ≤ 2147483647) (h10 : -2147483648 ≤ x1) (h11 : x1 ≤ 2147483647) (h12 : -2147483648 ≤ x2) (h13 : x2 ≤ 2147483647) (h14 : -2147483648 ≤ x3) (h15 : x3 ≤ 2147483647) : x0 + 1 ≤ 2147483647 := by omega
theorem o27_50 {x0 x2 x3 x4 x5 : Int} {x1 : Nat} (h0 : x2 = 1) (h1 : x2 ≤ x3) (h2 : x4 = 20) (h3 : x3 ≤ x4) (h4 : 0 ≤ x5) (h5 : x5 ≤ 20) (h6 : 20 - x5 < ((x1 + 1 : Nat) : Int)) (h7 : x5 < x3) (h8 : x0 = x5 + 1) : 20 - x0 < (x1 : Int) := by omega
theorem o27_51 {x0 x1 x2 x3 x4 : Int} {x5 : Nat} (h0 : x1 = 1) (h1 : x1 ≤ x2) (h2 : x3 = 20) (h3 : x2 ≤ x3) (h4 : 0 ≤ x4) (h5 : x4 ≤ 20) (h6 : 20 - x4 < ((x5 + 1 : Nat) : Int)) (h7 : x4 < x2) (h8 : x0 = x4 + 1) : 0 ≤ x0 := by omega
theorem o27_52 {x0 x1 x2 x3 x4 : Int} {x5 : Nat} (h0 : x1 = 1) (h1 : x1 ≤ x2) (h2 : x3 = 20) (h3 : x2 ≤ x3) (h4 : 0 ≤ x4) (h5 : x4 ≤ 20) (h6 : 20 - x4 < ((x5 + 1 : Nat) : Int)) (h7 : x4 < x2) (h8 : x0 = x4 + 1) : x0 ≤ 20 := by omega
theorem o27_53 {x0 : Int} (h0 : x0 = 0) : 20 - x0 < (((20 - x0 + 1).toNat : Nat) : Int) := by omega
theorem o27_54 {x0 : Int} (h0 : x0 = 0) : 0 ≤ x0 := by omega
theorem o27_55 {x0 : Int} (h0 : x0 = 0) : x0 ≤ 20 := by omega
theorem o27_56 {x0 : Int} (h0 : x0 = 3) : x0 = 3 := by omega
theorem o27_57 {x0 : Int} (h0 : 0 ≤ x0) : 0 ≤ x0 := by omega
theorem o27_58 {x0 x1 x2 x3 : Int} (h0 : 0 ≤ x1) (h1 : x1 ≤ 1) (h2 : (x1 = 0 ∨ (0 ≤ x0 ∧ x0 ≤ 4))) (h3 : ¬ x1 = 0) (h4 : 0 ≤ x2) (h5 : x2 ≤ 1) (h6 : (x2 = 0 ∨ (0 ≤ x3 ∧ x3 ≤ 4))) (h7 : ¬ x2 = 0) (h8 : ¬ x0 = x3) : 0 ≤ x0 := by omega
theorem o27_59 {x0 x1 x2 x3 : Int} (h0 : 0 ≤ x1) (h1 : x1 ≤ 1) (h2 : (x1 = 0 ∨ (0 ≤ x0 ∧ x0 ≤ 4))) (h3 : ¬ x1 = 0) (h4 : 0 ≤ x2) (h5 : x2 ≤ 1) (h6 : (x2 = 0 ∨ (0 ≤ x3 ∧ x3 ≤ 4))) (h7 : ¬ x2 = 0) (h8 : ¬ x0 = x3) : x0 < (5 : Nat) := by omega
theorem o27_60 {x0 x1 x2 x3 : Int} (h0 : 0 ≤ x1) (h1 : x1 ≤ 1) (h2 : (x1 = 0 ∨ (0 ≤ x2 ∧ x2 ≤ 4))) (h3 : ¬ x1 = 0) (h4 : 0 ≤ x3) (h5 : x3 ≤ 1) (h6 : (x3 = 0 ∨ (0 ≤ x0 ∧ x0 ≤ 4))) (h7 : ¬ x3 = 0) (h8 : ¬ x2 = x0) : 0 ≤ x0 := by omega
theorem o27_61 {x0 x1 x2 x3 : Int} (h0 : 0 ≤ x1) (h1 : x1 ≤ 1) (h2 : (x1 = 0 ∨ (0 ≤ x2 ∧ x2 ≤ 4))) (h3 : ¬ x1 = 0) (h4 : 0 ≤ x3) (h5 : x3 ≤ 1) (h6 : (x3 = 0 ∨ (0 ≤ x0 ∧ x0 ≤ 4))) (h7 : ¬ x3 = 0) (h8 : ¬ x2 = x0) : x0 < (5 : Nat) := by omega
theorem o27_62 {x0 : Int} (h0 : x0 = (-3)) : x0 ≤ 63 := by omega
theorem o27_63 {x0 : Int} (h0 : 0 ≤ x0) (h1 : x0 ≤ 63) : (-3) ≤ x0 := by omega
theorem o27_64 {x0 : Int} (h0 : 0 ≤ x0) (h1 : x0 ≤ 63) : x0 ≤ 63 := by omega
theorem o27_65 {x0 : Int} (h0 : x0 = (-2)) : x0 ≤ 63 := by omega
theorem o27_66 {x0 : Int} (h0 : x0 = (-3)) : x0 ≤ 9 := by omega
theorem o27_67 {x0 x1 x2 x3 : Int} (h0 : x2 = 1) (h1 : x2 ≤ x1) (h2 : 0 ≤ x3) (h3 : x3 ≤ 10) (h4 : x1 ≤ x3) (h5 : 0 ≤ x0) (h6 : x0 ≤ 10) (h7 : x0 = x3) (h8 : -2147483648 ≤ x0) (h9 : x0 ≤ 2147483647) (h10 : -2147483648 ≤ x1) (h11 : x1 ≤ 2147483647) (h12 : -2147483648 ≤ x2) (h13 : x2 ≤ 2147483647) (h14 : -2147483648 ≤ x3) (h15 : x3 ≤ 2147483647) : -2147483648 ≤ x0 - x1 := by omega
theorem o27_68 {x0 x1 x2 x3 : Int} (h0 : x2 = 1) (h1 : x2 ≤ x1) (h2 : 0 ≤ x3) (h3 : x3 ≤ 10) (h4 : x1 ≤ x3) (h5 : 0 ≤ x0) (h6 : x0 ≤ 10) (h7 : x0 = x3) (h8 : -2147483648 ≤ x0) (h9 : x0 ≤ 2147483647) (h10 : -2147483648 ≤ x1) (h11 : x1 ≤ 2147483647) (h12 : -2147483648 ≤ x2) (h13 : x2 ≤ 2147483647) (h14 : -2147483648 ≤ x3) (h15 : x3 ≤ 2147483647) : x0 - x1 ≤ 2147483647 := by omega
theorem o27_69 {x0 x1 x2 x3 x4 : Int} (h0 : x1 = 1) (h1 : x1 ≤ x2) (h2 : 0 ≤ x3) (h3 : x3 ≤ 10) (h4 : x2 ≤ x3) (h5 : 0 ≤ x4) (h6 : x4 ≤ 10) (h7 : x4 = x3) (h8 : x0 = x4 - x2) : 0 ≤ x0 := by omega
theorem o27_70 {x0 x1 x2 x3 x4 : Int} (h0 : x1 = 1) (h1 : x1 ≤ x2) (h2 : 0 ≤ x3) (h3 : x3 ≤ 10) (h4 : x2 ≤ x3) (h5 : 0 ≤ x4) (h6 : x4 ≤ 10) (h7 : x4 = x3) (h8 : x0 = x4 - x2) : x0 ≤ 10 := by omega
theorem o27_71 {x0 x1 x2 x3 x4 x5 x6 : Int} (h0 : x2 = 1) (h1 : x2 ≤ x3) (h2 : 0 ≤ x4) (h3 : x4 ≤ 10) (h4 : x3 ≤ x4) (h5 : 0 ≤ x5) (h6 : x5 ≤ 10) (h7 : x5 = x4) (h8 : x6 = x5 - x3) (h9 : 0 ≤ x0) (h10 : x0 ≤ 9) (h11 : 0 ≤ x1) (h12 : x1 ≤ 10) (h13 : x1 = x6) (h14 : -2147483648 ≤ x0) (h15 : x0 ≤ 2147483647) (h16 : -2147483648 ≤ x1) (h17 : x1 ≤ 2147483647) (h18 : -2147483648 ≤ x2) (h19 : x2 ≤ 2147483647) (h20 : -2147483648 ≤ x3) (h21 : x3 ≤ 2147483647) (h22 : -2147483648 ≤ x4) (h23 : x4 ≤ 2147483647) (h24 : -2147483648 ≤ x5) (h25 : x5 ≤ 2147483647) (h26 : -2147483648 ≤ x6) (h27 : x6 ≤ 2147483647) : -2147483648 ≤ x0 + x1 := by omega
theorem o27_72 {x0 x1 x2 x3 x4 x5 x6 : Int} (h0 : x2 = 1) (h1 : x2 ≤ x3) (h2 : 0 ≤ x4) (h3 : x4 ≤ 10) (h4 : x3 ≤ x4) (h5 : 0 ≤ x5) (h6 : x5 ≤ 10) (h7 : x5 = x4) (h8 : x6 = x5 - x3) (h9 : 0 ≤ x0) (h10 : x0 ≤ 9) (h11 : 0 ≤ x1) (h12 : x1 ≤ 10) (h13 : x1 = x6) (h14 : -2147483648 ≤ x0) (h15 : x0 ≤ 2147483647) (h16 : -2147483648 ≤ x1) (h17 : x1 ≤ 2147483647) (h18 : -2147483648 ≤ x2) (h19 : x2 ≤ 2147483647) (h20 : -2147483648 ≤ x3) (h21 : x3 ≤ 2147483647) (h22 : -2147483648 ≤ x4) (h23 : x4 ≤ 2147483647) (h24 : -2147483648 ≤ x5) (h25 : x5 ≤ 2147483647) (h26 : -2147483648 ≤ x6) (h27 : x6 ≤ 2147483647) : x0 + x1 ≤ 2147483647 := by omega
theorem o27_73 {x0 : Int} (h0 : x0 = 10) : x0 = 10 := by omega
theorem o27_74 {x0 x1 x2 x3 x4 x5 x6 x7 : Int} (h0 : x1 = 1) (h1 : x1 ≤ x2) (h2 : 0 ≤ x3) (h3 : x3 ≤ 10) (h4 : x2 ≤ x3) (h5 : 0 ≤ x4) (h6 : x4 ≤ 10) (h7 : x4 = x3) (h8 : x5 = x4 - x2) (h9 : 0 ≤ x6) (h10 : x6 ≤ 9) (h11 : 0 ≤ x7) (h12 : x7 ≤ 10) (h13 : x7 = x5) (h14 : x0 = x6 + x7) : 0 ≤ x0 := by omega
theorem o27_75 {x0 x1 x2 x3 x4 x5 x6 x7 x8 : Int} (h0 : x1 = 1) (h1 : x1 ≤ x2) (h2 : 0 ≤ x3) (h3 : x3 ≤ 10) (h4 : x2 ≤ x3) (h5 : 0 ≤ x4) (h6 : x4 ≤ 10) (h7 : x4 = x3) (h8 : x5 = x4 - x2) (h9 : 0 ≤ x6) (h10 : x6 ≤ 9) (h11 : 0 ≤ x7) (h12 : x7 ≤ 10) (h13 : x7 = x5) (h14 : x8 = x6 + x7) (h15 : x0 = x8 % 10) : 0 ≤ x0 := by omega
theorem o27_76 {x0 x1 x2 x3 x4 x5 x6 x7 x8 : Int} (h0 : x1 = 1) (h1 : x1 ≤ x2) (h2 : 0 ≤ x3) (h3 : x3 ≤ 10) (h4 : x2 ≤ x3) (h5 : 0 ≤ x4) (h6 : x4 ≤ 10) (h7 : x4 = x3) (h8 : x5 = x4 - x2) (h9 : 0 ≤ x6) (h10 : x6 ≤ 9) (h11 : 0 ≤ x7) (h12 : x7 ≤ 10) (h13 : x7 = x5) (h14 : x8 = x6 + x7) (h15 : x0 = x8 % 10) : x0 < (10 : Nat) := by omega
theorem o27_77 {x0 x1 x2 x3 x4 x5 x6 x7 x8 : Int} (h0 : x1 = 1) (h1 : x1 ≤ x2) (h2 : 0 ≤ x3) (h3 : x3 ≤ 10) (h4 : x2 ≤ x3) (h5 : 0 ≤ x4) (h6 : x4 ≤ 10) (h7 : x4 = x3) (h8 : x5 = x4 - x2) (h9 : 0 ≤ x6) (h10 : x6 ≤ 9) (h11 : 0 ≤ x7) (h12 : x7 ≤ 10) (h13 : x7 = x5) (h14 : x8 = x6 + x7) (h15 : x0 = x8 % 10) : (x0).toNat < 10 := by omega
theorem o27_78 {x0 x1 x2 x3 x4 x5 x6 x7 x8 x9 : Int} (h0 : x1 = 1) (h1 : x1 ≤ x2) (h2 : 0 ≤ x3) (h3 : x3 ≤ 10) (h4 : x2 ≤ x3) (h5 : 0 ≤ x4) (h6 : x4 ≤ 10) (h7 : x4 = x3) (h8 : x5 = x4 - x2) (h9 : 0 ≤ x6) (h10 : x6 ≤ 9) (h11 : 0 ≤ x7) (h12 : x7 ≤ 10) (h13 : x7 = x5) (h14 : x8 = x6 + x7) (h15 : x9 = x8 % 10) (h16 : 0 ≤ x0) (h17 : x0 ≤ 10) (h18 : x0 = x5) : (-3) ≤ x0 := by omega
theorem o27_79 {x0 x1 x2 x3 x4 x5 x6 x7 x8 x9 : Int} (h0 : x1 = 1) (h1 : x1 ≤ x2) (h2 : 0 ≤ x3) (h3 : x3 ≤ 10) (h4 : x2 ≤ x3) (h5 : 0 ≤ x4) (h6 : x4 ≤ 10) (h7 : x4 = x3) (h8 : x5 = x4 - x2) (h9 : 0 ≤ x6) (h10 : x6 ≤ 9) (h11 : 0 ≤ x7) (h12 : x7 ≤ 10) (h13 : x7 = x5) (h14 : x8 = x6 + x7) (h15 : x9 = x8 % 10) (h16 : 0 ≤ x0) (h17 : x0 ≤ 10) (h18 : x0 = x5) : x0 ≤ 9 := by omega
theorem o27_80 {x0 : Int} (h0 : 0 ≤ x0) (h1 : x0 ≤ 60) (h2 : 60 - x0 < 0) : False := by omega
theorem o27_81 {x0 x1 x2 x3 : Int} {x4 : Nat} (h0 : x1 = 1) (h1 : x1 ≤ x2) (h2 : x3 = 60) (h3 : x2 ≤ x3) (h4 : 0 ≤ x0) (h5 : x0 ≤ 60) (h6 : 60 - x0 < ((x4 + 1 : Nat) : Int)) (h7 : x0 < x2) (h8 : -2147483648 ≤ x0) (h9 : x0 ≤ 2147483647) (h10 : -2147483648 ≤ x1) (h11 : x1 ≤ 2147483647) (h12 : -2147483648 ≤ x2) (h13 : x2 ≤ 2147483647) (h14 : -2147483648 ≤ x3) (h15 : x3 ≤ 2147483647) : -2147483648 ≤ x0 + 1 := by omega
theorem o27_82 {x0 x1 x2 x3 : Int} {x4 : Nat} (h0 : x1 = 1) (h1 : x1 ≤ x2) (h2 : x3 = 60) (h3 : x2 ≤ x3) (h4 : 0 ≤ x0) (h5 : x0 ≤ 60) (h6 : 60 - x0 < ((x4 + 1 : Nat) : Int)) (h7 : x0 < x2) (h8 : -2147483648 ≤ x0) (h9 : x0 ≤ 2147483647) (h10 : -2147483648 ≤ x1) (h11 : x1 ≤ 2147483647) (h12 : -2147483648 ≤ x2) (h13 : x2 ≤ 2147483647) (h14 : -2147483648 ≤ x3) (h15 : x3 ≤ 2147483647) : x0 + 1 ≤ 2147483647 := by omega
theorem o27_83 {x0 x2 x3 x4 x5 : Int} {x1 : Nat} (h0 : x2 = 1) (h1 : x2 ≤ x3) (h2 : x4 = 60) (h3 : x3 ≤ x4) (h4 : 0 ≤ x5) (h5 : x5 ≤ 60) (h6 : 60 - x5 < ((x1 + 1 : Nat) : Int)) (h7 : x5 < x3) (h8 : x0 = x5 + 1) : 60 - x0 < (x1 : Int) := by omega
theorem o27_84 {x0 x1 x2 x3 x4 : Int} {x5 : Nat} (h0 : x1 = 1) (h1 : x1 ≤ x2) (h2 : x3 = 60) (h3 : x2 ≤ x3) (h4 : 0 ≤ x4) (h5 : x4 ≤ 60) (h6 : 60 - x4 < ((x5 + 1 : Nat) : Int)) (h7 : x4 < x2) (h8 : x0 = x4 + 1) : 0 ≤ x0 := by omega
theorem o27_85 {x0 x1 x2 x3 x4 : Int} {x5 : Nat} (h0 : x1 = 1) (h1 : x1 ≤ x2) (h2 : x3 = 60) (h3 : x2 ≤ x3) (h4 : 0 ≤ x4) (h5 : x4 ≤ 60) (h6 : 60 - x4 < ((x5 + 1 : Nat) : Int)) (h7 : x4 < x2) (h8 : x0 = x4 + 1) : x0 ≤ 60 := by omega
theorem o27_86 {x0 : Int} (h0 : x0 = 0) : 60 - x0 < (((60 - x0 + 1).toNat : Nat) : Int) := by omega
theorem o27_87 {x0 : Int} (h0 : x0 = 0) : x0 ≤ 60 := by omega
set_option maxHeartbeats 4000000 in
set_option maxRecDepth 100000 in
theorem c_X11_feed (l : Launch) (G : GG) (Z : RZ) (ad : Nat → Nat) (ws0 : va_W) (hT : Ty G (SC q0) ad ws0) (a1 : Int32) (a2 : Int32) (a3 : Int32) (a4 : Int32) (a5 : Int32) (hR : Rel ws0) (hH : Hok ws0) : Mq l yX11_feed cX11_feed 6 (some .int) 2 G Z [.ref (ad 0), .int a1, .int a2, .int a3, .int a4, .int a5] ws0 (PI G (SC q0) ad [16, 17] ws0 (fun r u => ((-5) ≤ r.toInt) ∧ (r.toInt ≤ 900) ∧ (Rel u) ∧ (Hok u))) := by
  refine Mq.start (by decide) (Nat.le_of_ble_eq_true rfl) ?_
  intro p e s m below meth c A ls C0 hZ h hl
  have hl : lv_has ls 6 [(0, .ref (ad 0)), (1, .int a1), (2, .int a2), (3, .int a3), (4, .int a4), (5, .int a5)] := hl
  have h : Wt G (SC q0) ad A s s.heap [] ws0 := ⟨h, hT⟩
  obtain ⟨args, hargs⟩ : ∃ z, z = ([.ref (ad 0), .int a1, .int a2, .int a3, .int a4, .int a5] : List Value).toArray := ⟨_, rfl⟩
  rw [← hargs] at C0 ⊢
  have C0 : Cx p s m args meth c RX11 cX11_feed 6 (some .int) := C0
  obtain ⟨Q, hQ⟩ : ∃ z, z = MQ below ((PI G (SC q0) ad [16, 17] ws0 (fun r u => ((-5) ≤ r.toInt) ∧ (r.toInt ≤ 900) ∧ (Rel u) ∧ (Hok u))) A) args s 0 0 A := ⟨_, rfl⟩
  rw [← hQ]
  refine lv_aload_n C0.1 C0.2.1 dX11_feed_0 rfl (lv_at hl 0 rfl) ?_
  refine tg_X11_reader C0 h kSC_0 q_517 dX11_feed_1 ?_
  refine y_ci h (y_rV (As := []) (rest := []) C0 hZ h (c_X5_hasRoom l G Z ad _ h.2) k_X5_hasRoom q_579 q_580 q_578 kSC_77 rfl rfl rfl hl.1 rfl rfl (Nat.le_of_ble_eq_true rfl) dX11_feed_4 ⟨Nat.le_of_ble_eq_true rfl, Nat.le_of_ble_eq_true rfl⟩ ⟨Nat.le_of_ble_eq_true rfl, Nat.le_of_ble_eq_true rfl⟩) (fun r_4 H locs ws_1 h u_2 p_3 => ?_)
  obtain ⟨e_5, e_6⟩ := p_3
  refine y_if_ne (tgt := 13) C0 dX11_feed_7 (by decide) (fun c_7 => ?_) (fun c_7 => ?_)
  · -- 7
    refine lv_aload_n C0.1 C0.2.1 dX11_feed_13 rfl (lv_at hl 0 rfl) ?_
    refine tg_X11_reader C0 h kSC_0 q_517 dX11_feed_14 ?_
    refine lv_iload_n C0.1 C0.2.1 dX11_feed_17 rfl (lv_at hl 1 rfl) ?_
    refine y_cv h (y_rV (As := [.int a1]) (rest := []) C0 hZ h (c_X5_put l G Z ad _ h.2 a1) k_X5_put q_583 q_584 q_582 kSC_77 rfl rfl rfl hl.1 rfl rfl (Nat.le_of_ble_eq_true rfl) dX11_feed_18 ⟨Nat.le_of_ble_eq_true rfl, Nat.le_of_ble_eq_true rfl⟩ ⟨Nat.le_of_ble_eq_true rfl, Nat.le_of_ble_eq_true rfl⟩) (fun H locs ws_8 h u_9 p_10 => ?_)
    refine lv_aload_n C0.1 C0.2.1 dX11_feed_21 rfl (lv_at hl 0 rfl) ?_
    refine tg_X11_reader C0 h kSC_0 q_517 dX11_feed_22 ?_
    refine lv_iload_n C0.1 C0.2.1 dX11_feed_25 rfl (lv_at hl 2 rfl) ?_
    refine y_cv h (y_rV (As := [.int a2]) (rest := []) C0 hZ h (c_X5_put l G Z ad _ h.2 a2) k_X5_put q_583 q_584 q_582 kSC_77 rfl rfl rfl hl.1 rfl rfl (Nat.le_of_ble_eq_true rfl) dX11_feed_26 ⟨Nat.le_of_ble_eq_true rfl, Nat.le_of_ble_eq_true rfl⟩ ⟨Nat.le_of_ble_eq_true rfl, Nat.le_of_ble_eq_true rfl⟩) (fun H locs ws_11 h u_12 p_13 => ?_)
    refine lv_aload_n C0.1 C0.2.1 dX11_feed_29 rfl (lv_at hl 0 rfl) ?_
    refine tg_X11_reader C0 h kSC_0 q_517 dX11_feed_30 ?_
    refine lv_iload_n C0.1 C0.2.1 dX11_feed_33 rfl (lv_at hl 3 rfl) ?_
    refine y_cv h (y_rV (As := [.int a3]) (rest := []) C0 hZ h (c_X5_put l G Z ad _ h.2 a3) k_X5_put q_583 q_584 q_582 kSC_77 rfl rfl rfl hl.1 rfl rfl (Nat.le_of_ble_eq_true rfl) dX11_feed_34 ⟨Nat.le_of_ble_eq_true rfl, Nat.le_of_ble_eq_true rfl⟩ ⟨Nat.le_of_ble_eq_true rfl, Nat.le_of_ble_eq_true rfl⟩) (fun H locs ws_14 h u_15 p_16 => ?_)
    refine lv_aload_n C0.1 C0.2.1 dX11_feed_37 rfl (lv_at hl 0 rfl) ?_
    refine tg_X11_reader C0 h kSC_0 q_517 dX11_feed_38 ?_
    refine lv_iload C0.1 C0.2.1 dX11_feed_41 (lv_at hl 4 rfl) ?_
    refine y_cv h (y_rV (As := [.int a4]) (rest := []) C0 hZ h (c_X5_put l G Z ad _ h.2 a4) k_X5_put q_583 q_584 q_582 kSC_77 rfl rfl rfl hl.1 rfl rfl (Nat.le_of_ble_eq_true rfl) dX11_feed_43 ⟨Nat.le_of_ble_eq_true rfl, Nat.le_of_ble_eq_true rfl⟩ ⟨Nat.le_of_ble_eq_true rfl, Nat.le_of_ble_eq_true rfl⟩) (fun H locs ws_17 h u_18 p_19 => ?_)
    refine lv_aload_n C0.1 C0.2.1 dX11_feed_46 rfl (lv_at hl 0 rfl) ?_
    refine tg_X11_reader C0 h kSC_0 q_517 dX11_feed_47 ?_
    refine lv_iload C0.1 C0.2.1 dX11_feed_50 (lv_at hl 5 rfl) ?_
    refine y_cv h (y_rV (As := [.int a5]) (rest := []) C0 hZ h (c_X5_put l G Z ad _ h.2 a5) k_X5_put q_583 q_584 q_582 kSC_77 rfl rfl rfl hl.1 rfl rfl (Nat.le_of_ble_eq_true rfl) dX11_feed_52 ⟨Nat.le_of_ble_eq_true rfl, Nat.le_of_ble_eq_true rfl⟩ ⟨Nat.le_of_ble_eq_true rfl, Nat.le_of_ble_eq_true rfl⟩) (fun H locs ws_20 h u_21 p_22 => ?_)
    refine lv_aload_n C0.1 C0.2.1 dX11_feed_55 rfl (lv_at hl 0 rfl) ?_
    refine tg_X11_reader C0 h kSC_0 q_517 dX11_feed_56 ?_
    refine y_ci h (y_rV (As := []) (rest := []) C0 hZ h (c_X5_fed l G Z ad _ h.2) k_X5_fed q_587 q_588 q_586 kSC_77 rfl rfl rfl hl.1 rfl rfl (Nat.le_of_ble_eq_true rfl) dX11_feed_59 ⟨Nat.le_of_ble_eq_true rfl, Nat.le_of_ble_eq_true rfl⟩ ⟨Nat.le_of_ble_eq_true rfl, Nat.le_of_ble_eq_true rfl⟩) (fun r_26 H locs ws_23 h u_24 p_25 => ?_)
    obtain ⟨e_27, e_28⟩ := p_25
    rw [hQ]
    exact y_iret C0 h (Fr.tr (Fr.tr (Fr.tr (Fr.tr (Fr.tr (Fr.tr (Fr.mono u_2 (by decide)) u_9) u_12) u_15) u_18) u_21) (Fr.mono u_24 (by decide))) ⟨(o27_1 e_27 e_28), (o27_2 e_27 e_28), (Rel.fr (M := [16, 17]) hR (Fr.tr (Fr.tr (Fr.tr (Fr.tr (Fr.tr (Fr.tr (Fr.mono u_2 (by decide)) u_9) u_12) u_15) u_18) u_21) (Fr.mono u_24 (by decide))) (by decide) (by decide)), (Hok.fr (M := [16, 17]) hH (Fr.tr (Fr.tr (Fr.tr (Fr.tr (Fr.tr (Fr.tr (Fr.mono u_2 (by decide)) u_9) u_12) u_15) u_18) u_21) (Fr.mono u_24 (by decide))) (by decide))⟩ dX11_feed_62
  · -- 7
    refine y_c2 (n := (-5)) C0 (by decide) dX11_feed_10 (fun v_29 e_30 => ?_)
    rw [hQ]
    exact y_iret C0 h (Fr.mono u_2 (by decide)) ⟨(o27_3 e_30), (o27_4 e_30), (Rel.fr (M := []) hR u_2 (by decide) (by decide)), (Hok.fr (M := []) hH u_2 (by decide))⟩ dX11_feed_12
set_option maxHeartbeats 4000000 in
set_option maxRecDepth 100000 in
theorem c_X11_cityR (l : Launch) (G : GG) (Z : RZ) (ad : Nat → Nat) (ws0 : va_W) (hT : Ty G (SC q0) ad ws0) (a1 : Int32) (hR : Rel ws0) (hH : Hok ws0) : Mq l yX11_city cX11_city 3 (some .int) 32 G Z [.ref (ad 0), .int a1] ws0 (PI G (SC q0) ad [0, 1, 2, 3, 6, 7, 8, 9, 10, 11, 12, 13, 14, 15, 16, 18, 39] ws0 (fun r u => (Rel u) ∧ (Hok u) ∧ (CtF (fI ws0 77 2).toInt (fI u 77 2).toInt a1))) := by
  refine Mq.start (by decide) (Nat.le_of_ble_eq_true rfl) ?_
  intro p e s m below meth c A ls C0 hZ h hl
  have hl : lv_has ls 3 [(0, .ref (ad 0)), (1, .int a1)] := hl
  have h : Wt G (SC q0) ad A s s.heap [] ws0 := ⟨h, hT⟩
  obtain ⟨args, hargs⟩ : ∃ z, z = ([.ref (ad 0), .int a1] : List Value).toArray := ⟨_, rfl⟩
  rw [← hargs] at C0 ⊢
  have C0 : Cx p s m args meth c RX11 cX11_city 3 (some .int) := C0
  obtain ⟨Q, hQ⟩ : ∃ z, z = MQ below ((PI G (SC q0) ad [0, 1, 2, 3, 6, 7, 8, 9, 10, 11, 12, 13, 14, 15, 16, 18, 39] ws0 (fun r u => (Rel u) ∧ (Hok u) ∧ (CtF (fI ws0 77 2).toInt (fI u 77 2).toInt a1))) A) args s 0 0 A := ⟨_, rfl⟩
  rw [← hQ]
  refine lv_iload_n C0.1 C0.2.1 dX11_city_0 rfl (lv_at hl 1 rfl) ?_
  refine y_if_lt (tgt := 15) C0 dX11_city_1 (by decide) (fun c_1 => ?_) (fun c_1 => ?_)
  · -- 1
    refine y_c2 (n := (-3)) C0 (by decide) dX11_city_15 (fun v_2 e_3 => ?_)
    rw [hQ]
    exact y_iret C0 h Fr.rf ⟨hR, hH, Or.inl ⟨by omega, rfl⟩⟩ dX11_city_17
  · -- 1
    refine lv_iload_n C0.1 C0.2.1 dX11_city_4 rfl (lv_at hl 1 rfl) ?_
    refine lv_aload_n C0.1 C0.2.1 dX11_city_5 rfl (lv_at hl 0 rfl) ?_
    refine tg_X11_reader C0 h kSC_0 q_517 dX11_city_6 ?_
    refine y_ci h (y_rV (As := []) (rest := [.int a1]) C0 hZ h (c_X5_fedR l G Z ad _ h.2) k_X5_fed q_587 q_588 q_586 kSC_77 rfl rfl rfl hl.1 rfl rfl (Nat.le_of_ble_eq_true rfl) dX11_city_9 ⟨Nat.le_of_ble_eq_true rfl, Nat.le_of_ble_eq_true rfl⟩ ⟨Nat.le_of_ble_eq_true rfl, Nat.le_of_ble_eq_true rfl⟩) (fun r_7 H locs ws_4 h u_5 p_6 => ?_)
    obtain ⟨e_8, e_9, e_9x⟩ := p_6
    refine y_icmp_le (tgt := 18) C0 dX11_city_12 (by decide) (fun c_10 => ?_) (fun c_10 => ?_)
    · -- 12
      refine lv_aload_n C0.1 C0.2.1 dX11_city_18 rfl (lv_at hl 0 rfl) ?_
      refine tg_X11_reader C0 h kSC_0 q_517 dX11_city_19 ?_
      refine lv_iload_n C0.1 C0.2.1 dX11_city_22 rfl (lv_at hl 1 rfl) ?_
      refine y_ciX h (y_rV (As := [.int a1]) (rest := []) C0 hZ h (c_X5_read l G Z ad _ h.2 a1 (o27_5 c_1 e_8 e_9 c_10) (o27_6 c_1 e_8 e_9 c_10) (Rel.fr (M := []) hR u_5 (by decide) (by decide))) k_X5_read q_595 q_596 q_594 kSC_77 rfl rfl rfl hl.1 rfl rfl (Nat.le_of_ble_eq_true rfl) dX11_city_23 ⟨Nat.le_of_ble_eq_true rfl, Nat.le_of_ble_eq_true rfl⟩ ⟨Nat.le_of_ble_eq_true rfl, Nat.le_of_ble_eq_true rfl⟩) (fun r_14 H locs ws_11 h u_12 p_13 => ?_)
      have h00 : (fI ws_11 77 2).toInt = 0 := SC_is (a := q00) rfl h.2
      have h : Wt G (SC q0) ad A s H locs ws_11 := ⟨h.1, SC_q0 h.2⟩
      have e_15 := p_13
      refine lv_istore_n (lv' := [(2, .int r_14), (0, .ref (ad 0)), (1, .int a1)]) C0.1 C0.2.1 dX11_city_26 rfl hl (by decide) rfl (fun ls hl => ?_)
      refine lv_iload_n C0.1 C0.2.1 dX11_city_27 rfl (lv_at hl 0 rfl) ?_
      refine y_if_eq (tgt := 36) C0 dX11_city_28 (by decide) (fun c_16 => ?_) (fun c_16 => ?_)
      · -- 28
        refine lv_aload_n C0.1 C0.2.1 dX11_city_36 rfl (lv_at hl 1 rfl) ?_
        refine tg_X11_now C0 h kSC_0 q_515 dX11_city_37 ?_
        refine lv_aload_n C0.1 C0.2.1 dX11_city_40 rfl (lv_at hl 1 rfl) ?_
        refine tg_X11_spare C0 h kSC_0 q_516 dX11_city_41 ?_
        refine y_cv h (y_rV (As := [.ref (ad 20)]) (rest := []) C0 hZ h (c_X0_copy l G Z ad _ h.2 1 kSC_1 20 kSC_20 e_15) k_X0_copy q_857 q_858 q_856 kSC_1 rfl rfl rfl hl.1 rfl rfl (Nat.le_of_ble_eq_true rfl) dX11_city_44 ⟨Nat.le_of_ble_eq_true rfl, Nat.le_of_ble_eq_true rfl⟩ ⟨Nat.le_of_ble_eq_true rfl, Nat.le_of_ble_eq_true rfl⟩) (fun H locs ws_17 h u_18 p_19 => ?_)
        have e_20 := p_19
        refine lv_aload_n C0.1 C0.2.1 dX11_city_47 rfl (lv_at hl 1 rfl) ?_
        refine y_cv h (y_rV (As := []) (rest := []) C0 hZ h (c_X11_startAnew l G Z ad _ h.2 (Hok.fr (M := [1, 2, 3, 6, 7, 8, 9, 10, 11, 12, 13, 14, 15, 16]) hH (Fr.tr (Fr.tr (Fr.mono u_5 (by decide)) u_12) (Fr.mono u_18 (by decide))) (by decide))) k_X11_startAnew q_875 q_22 q_873 kSC_0 rfl rfl rfl hl.1 rfl rfl (Nat.le_of_ble_eq_true rfl) dX11_city_48 ⟨Nat.le_of_ble_eq_true rfl, Nat.le_of_ble_eq_true rfl⟩ ⟨Nat.le_of_ble_eq_true rfl, Nat.le_of_ble_eq_true rfl⟩) (fun H locs ws_21 h u_22 p_23 => ?_)
        have e_24 := p_23
        refine lv_aload_n C0.1 C0.2.1 dX11_city_51 rfl (lv_at hl 1 rfl) ?_
        refine tg_X11_now C0 h kSC_0 q_515 dX11_city_52 ?_
        refine tg_X0_lines C0 h kSC_1 q_264 dX11_city_55 (fun v_25 e_26 e_27 e_28 => ?_)
        rw [hQ]
        exact y_iret C0 h (Fr.tr (Fr.tr (Fr.tr (Fr.mono u_5 (by decide)) (Fr.mono u_12 (by decide))) (Fr.mono u_18 (by decide))) (Fr.mono u_22 (by decide))) ⟨(Rel.fr (M := [0, 18, 39]) e_20 u_22 (by decide) (by decide)), e_24, (by have g1 := congrArg Int32.toInt (Fr.fI (k := 2) u_18 kSC_77 (by decide)); have g2 := congrArg Int32.toInt (Fr.fI (k := 2) u_22 kSC_77 (by decide)); have g3 := congrArg Int32.toInt e_9x; exact Or.inr ⟨by omega, by omega, by omega⟩)⟩ dX11_city_58
      · -- 28
        refine y_c2 (n := (-30)) C0 (by decide) dX11_city_31 (fun v_29 e_30 => ?_)
        refine lv_iload_n C0.1 C0.2.1 dX11_city_33 rfl (lv_at hl 0 rfl) ?_
        refine y_isubU C0 dX11_city_34 (fun v_31 => ?_)
        rw [hQ]
        exact y_iret C0 h (Fr.tr (Fr.mono u_5 (by decide)) (Fr.mono u_12 (by decide))) ⟨e_15, (Hok.fr (M := [1, 2, 3, 6, 7, 8, 9, 10, 11, 12, 13, 14, 15, 16]) hH (Fr.tr (Fr.mono u_5 (by decide)) u_12) (by decide)), (by have g3 := congrArg Int32.toInt e_9x; exact Or.inr ⟨by omega, by omega, h00⟩)⟩ dX11_city_35
    · -- 12
      refine y_c2 (n := (-3)) C0 (by decide) dX11_city_15 (fun v_32 e_33 => ?_)
      rw [hQ]
      exact y_iret C0 h (Fr.mono u_5 (by decide)) ⟨(Rel.fr (M := []) hR u_5 (by decide) (by decide)), (Hok.fr (M := []) hH u_5 (by decide)), (by have g3 := congrArg Int32.toInt e_9x; have g4 := congrArg Int32.toInt (Fr.fI (k := 2) u_5 kSC_77 (by decide)); exact Or.inl ⟨by omega, by omega⟩)⟩ dX11_city_17
set_option maxHeartbeats 4000000 in
set_option maxRecDepth 100000 in
theorem c_X11_fault (l : Launch) (G : GG) (Z : RZ) (ad : Nat → Nat) (ws0 : va_W) (hT : Ty G (SC tt) ad ws0) (a1 : Int32) (hR : Rel ws0) (hH : Hok ws0) : Mq l yX11_fault cX11_fault 2 (some .int) 2 G Z [.ref (ad 0), .int a1] ws0 (PI G (SC tt) ad [] ws0 (fun r u => (Rel u) ∧ (Hok u))) := by
  refine Mq.start (by decide) (Nat.le_of_ble_eq_true rfl) ?_
  intro p e s m below meth c A ls C0 hZ h hl
  have hl : lv_has ls 2 [(0, .ref (ad 0)), (1, .int a1)] := hl
  have h : Wt G (SC tt) ad A s s.heap [] ws0 := ⟨h, hT⟩
  obtain ⟨args, hargs⟩ : ∃ z, z = ([.ref (ad 0), .int a1] : List Value).toArray := ⟨_, rfl⟩
  rw [← hargs] at C0 ⊢
  have C0 : Cx p s m args meth c RX11 cX11_fault 2 (some .int) := C0
  obtain ⟨Q, hQ⟩ : ∃ z, z = MQ below ((PI G (SC tt) ad [] ws0 (fun r u => (Rel u) ∧ (Hok u))) A) args s 0 0 A := ⟨_, rfl⟩
  rw [← hQ]
  refine lv_iload_n C0.1 C0.2.1 dX11_fault_0 rfl (lv_at hl 1 rfl) ?_
  refine y_if_ne (tgt := 14) C0 dX11_fault_1 (by decide) (fun c_1 => ?_) (fun c_1 => ?_)
  · -- 1
    refine lv_iload_n C0.1 C0.2.1 dX11_fault_14 rfl (lv_at hl 1 rfl) ?_
    refine y_c1 (n := 1) C0 (by decide) dX11_fault_15 (fun v_2 e_3 => ?_)
    refine y_icmp_ne (tgt := 29) C0 dX11_fault_16 (by decide) (fun c_4 => ?_) (fun c_4 => ?_)
    · -- 16
      refine y_c1 (n := (-1)) C0 (by decide) dX11_fault_29 (fun v_5 e_6 => ?_)
      rw [hQ]
      exact y_iret C0 h Fr.rf ⟨hR, hH⟩ dX11_fault_30
    · -- 16
      refine lv_aload_n C0.1 C0.2.1 dX11_fault_19 rfl (lv_at hl 0 rfl) ?_
      refine tg_X11_reader C0 h kSC_0 q_517 dX11_fault_20 ?_
      refine y_ci h (y_rV (As := []) (rest := []) C0 hZ h (c_X5_faultPlace l G Z ad _ h.2) k_X5_faultPlace q_894 q_895 q_893 kSC_77 rfl rfl rfl hl.1 rfl rfl (Nat.le_of_ble_eq_true rfl) dX11_fault_23 ⟨Nat.le_of_ble_eq_true rfl, Nat.le_of_ble_eq_true rfl⟩ ⟨Nat.le_of_ble_eq_true rfl, Nat.le_of_ble_eq_true rfl⟩) (fun r_10 H locs ws_7 h u_8 p_9 => ?_)
      refine lv_goto (tgt := 30) C0.1 C0.2.1 dX11_fault_26 (by decide) ?_
      rw [hQ]
      exact y_iret C0 h u_8 ⟨(Rel.fr (M := []) hR u_8 (by decide) (by decide)), (Hok.fr (M := []) hH u_8 (by decide))⟩ dX11_fault_30
  · -- 1
    refine lv_aload_n C0.1 C0.2.1 dX11_fault_4 rfl (lv_at hl 0 rfl) ?_
    refine tg_X11_reader C0 h kSC_0 q_517 dX11_fault_5 ?_
    refine y_ci h (y_rV (As := []) (rest := []) C0 hZ h (c_X5_faultKind l G Z ad _ h.2) k_X5_faultKind q_890 q_891 q_889 kSC_77 rfl rfl rfl hl.1 rfl rfl (Nat.le_of_ble_eq_true rfl) dX11_fault_8 ⟨Nat.le_of_ble_eq_true rfl, Nat.le_of_ble_eq_true rfl⟩ ⟨Nat.le_of_ble_eq_true rfl, Nat.le_of_ble_eq_true rfl⟩) (fun r_14 H locs ws_11 h u_12 p_13 => ?_)
    refine lv_goto (tgt := 30) C0.1 C0.2.1 dX11_fault_11 (by decide) ?_
    rw [hQ]
    exact y_iret C0 h u_12 ⟨(Rel.fr (M := []) hR u_12 (by decide) (by decide)), (Hok.fr (M := []) hH u_12 (by decide))⟩ dX11_fault_30
set_option maxHeartbeats 4000000 in
set_option maxRecDepth 100000 in
theorem c_X11_person (l : Launch) (G : GG) (Z : RZ) (ad : Nat → Nat) (ws0 : va_W) (hT : Ty G (SC tt) ad ws0) (a1 : Int32) (a2 : Int32) (hR : Rel ws0) (hH : Hok ws0) : Mq l yX11_person cX11_person 3 (some .int) 2 G Z [.ref (ad 0), .int a1, .int a2] ws0 (PI G (SC tt) ad [] ws0 (fun r u => (Rel u) ∧ (Hok u))) := by
  refine Mq.start (by decide) (Nat.le_of_ble_eq_true rfl) ?_
  intro p e s m below meth c A ls C0 hZ h hl
  have hl : lv_has ls 3 [(0, .ref (ad 0)), (1, .int a1), (2, .int a2)] := hl
  have h : Wt G (SC tt) ad A s s.heap [] ws0 := ⟨h, hT⟩
  obtain ⟨args, hargs⟩ : ∃ z, z = ([.ref (ad 0), .int a1, .int a2] : List Value).toArray := ⟨_, rfl⟩
  rw [← hargs] at C0 ⊢
  have C0 : Cx p s m args meth c RX11 cX11_person 3 (some .int) := C0
  obtain ⟨Q, hQ⟩ : ∃ z, z = MQ below ((PI G (SC tt) ad [] ws0 (fun r u => (Rel u) ∧ (Hok u))) A) args s 0 0 A := ⟨_, rfl⟩
  rw [← hQ]
  refine lv_aload_n C0.1 C0.2.1 dX11_person_0 rfl (lv_at hl 0 rfl) ?_
  refine lv_iload_n C0.1 C0.2.1 dX11_person_1 rfl (lv_at hl 1 rfl) ?_
  refine y_ci h (y_rV (As := [.int a1]) (rest := []) C0 hZ h (c_X11_isPerson l G Z ad _ h.2 a1) k_X11_isPerson q_903 q_23 q_901 kSC_0 rfl rfl rfl hl.1 rfl rfl (Nat.le_of_ble_eq_true rfl) dX11_person_2 ⟨Nat.le_of_ble_eq_true rfl, Nat.le_of_ble_eq_true rfl⟩ ⟨Nat.le_of_ble_eq_true rfl, Nat.le_of_ble_eq_true rfl⟩) (fun r_4 H locs ws_1 h u_2 p_3 => ?_)
  obtain ⟨e_5, e_6, e_7⟩ := p_3
  refine y_if_ne (tgt := 11) C0 dX11_person_5 (by decide) (fun c_8 => ?_) (fun c_8 => ?_)
  · -- 5
    refine lv_iload_n C0.1 C0.2.1 dX11_person_11 rfl (lv_at hl 2 rfl) ?_
    by_cases sw_9 : a2.toInt < 0 ∨ 4 < a2.toInt
    · refine lv_tableOut (tgt := 113) C0.1 C0.2.1 dX11_person_12 sw_9 (by decide) ?_
      refine y_c2 (n := (-8)) C0 (by decide) dX11_person_113 (fun v_10 e_11 => ?_)
      rw [hQ]
      exact y_iret C0 h u_2 ⟨(Rel.fr (M := []) hR u_2 (by decide) (by decide)), (Hok.fr (M := []) hH u_2 (by decide))⟩ dX11_person_115
    · obtain ⟨sw_91, sw_92⟩ := not_or.mp sw_9
      rcases (show a2.toInt = 0 ∨ a2.toInt = 1 ∨ a2.toInt = 2 ∨ a2.toInt = 3 ∨ a2.toInt = 4 by omega) with sw_94 | sw_94 | sw_94 | sw_94 | sw_94
      · refine lv_tableIn (off := 36) (tgt := 48) C0.1 C0.2.1 dX11_person_12 sw_91 sw_92 (by rw [sw_94]; rfl) (by decide) ?_
        refine lv_aload_n C0.1 C0.2.1 dX11_person_48 rfl (lv_at hl 0 rfl) ?_
        refine tg_X11_now C0 h kSC_0 q_515 dX11_person_49 ?_
        refine tg_X0_folk C0 h kSC_1 q_249 dX11_person_52 ?_
        refine tg_X1_at C0 h kSC_10 q_191 dX11_person_55 ?_
        refine lv_iload_n C0.1 C0.2.1 dX11_person_58 rfl (lv_at hl 1 rfl) ?_
        refine y_iald C0 h kSC_11 rfl (by decide) (o27_7 e_5 e_6 e_7 c_8) (o27_8 e_5 e_6 e_7 c_8) dX11_person_59 (fun v_12 e_13 e_14 e_15 => ?_)
        rw [hQ]
        exact y_iret C0 h u_2 ⟨(Rel.fr (M := []) hR u_2 (by decide) (by decide)), (Hok.fr (M := []) hH u_2 (by decide))⟩ dX11_person_60
      · refine lv_tableIn (off := 49) (tgt := 61) C0.1 C0.2.1 dX11_person_12 sw_91 sw_92 (by rw [sw_94]; rfl) (by decide) ?_
        refine lv_aload_n C0.1 C0.2.1 dX11_person_61 rfl (lv_at hl 0 rfl) ?_
        refine tg_X11_now C0 h kSC_0 q_515 dX11_person_62 ?_
        refine tg_X0_folk C0 h kSC_1 q_249 dX11_person_65 ?_
        refine tg_X1_heads C0 h kSC_10 q_194 dX11_person_68 ?_
        refine lv_iload_n C0.1 C0.2.1 dX11_person_71 rfl (lv_at hl 1 rfl) ?_
        refine y_iald C0 h kSC_12 rfl (by decide) (o27_7 e_5 e_6 e_7 c_8) (o27_8 e_5 e_6 e_7 c_8) dX11_person_72 (fun v_16 e_17 e_18 e_19 => ?_)
        rw [hQ]
        exact y_iret C0 h u_2 ⟨(Rel.fr (M := []) hR u_2 (by decide) (by decide)), (Hok.fr (M := []) hH u_2 (by decide))⟩ dX11_person_73
      · refine lv_tableIn (off := 62) (tgt := 74) C0.1 C0.2.1 dX11_person_12 sw_91 sw_92 (by rw [sw_94]; rfl) (by decide) ?_
        refine lv_aload_n C0.1 C0.2.1 dX11_person_74 rfl (lv_at hl 0 rfl) ?_
        refine tg_X11_now C0 h kSC_0 q_515 dX11_person_75 ?_
        refine tg_X0_folk C0 h kSC_1 q_249 dX11_person_78 ?_
        refine tg_X1_lefts C0 h kSC_10 q_197 dX11_person_81 ?_
        refine lv_iload_n C0.1 C0.2.1 dX11_person_84 rfl (lv_at hl 1 rfl) ?_
        refine y_iald C0 h kSC_13 rfl (by decide) (o27_7 e_5 e_6 e_7 c_8) (o27_8 e_5 e_6 e_7 c_8) dX11_person_85 (fun v_20 e_21 e_22 e_23 => ?_)
        rw [hQ]
        exact y_iret C0 h u_2 ⟨(Rel.fr (M := []) hR u_2 (by decide) (by decide)), (Hok.fr (M := []) hH u_2 (by decide))⟩ dX11_person_86
      · refine lv_tableIn (off := 75) (tgt := 87) C0.1 C0.2.1 dX11_person_12 sw_91 sw_92 (by rw [sw_94]; rfl) (by decide) ?_
        refine lv_aload_n C0.1 C0.2.1 dX11_person_87 rfl (lv_at hl 0 rfl) ?_
        refine tg_X11_now C0 h kSC_0 q_515 dX11_person_88 ?_
        refine tg_X0_folk C0 h kSC_1 q_249 dX11_person_91 ?_
        refine tg_X1_coins C0 h kSC_10 q_200 dX11_person_94 ?_
        refine lv_iload_n C0.1 C0.2.1 dX11_person_97 rfl (lv_at hl 1 rfl) ?_
        refine y_iald C0 h kSC_14 rfl (by decide) (o27_7 e_5 e_6 e_7 c_8) (o27_8 e_5 e_6 e_7 c_8) dX11_person_98 (fun v_24 e_25 e_26 e_27 => ?_)
        rw [hQ]
        exact y_iret C0 h u_2 ⟨(Rel.fr (M := []) hR u_2 (by decide) (by decide)), (Hok.fr (M := []) hH u_2 (by decide))⟩ dX11_person_99
      · refine lv_tableIn (off := 88) (tgt := 100) C0.1 C0.2.1 dX11_person_12 sw_91 sw_92 (by rw [sw_94]; rfl) (by decide) ?_
        refine lv_aload_n C0.1 C0.2.1 dX11_person_100 rfl (lv_at hl 0 rfl) ?_
        refine tg_X11_now C0 h kSC_0 q_515 dX11_person_101 ?_
        refine tg_X0_folk C0 h kSC_1 q_249 dX11_person_104 ?_
        refine tg_X1_used C0 h kSC_10 q_203 dX11_person_107 ?_
        refine lv_iload_n C0.1 C0.2.1 dX11_person_110 rfl (lv_at hl 1 rfl) ?_
        refine y_iald C0 h kSC_15 rfl (by decide) (o27_7 e_5 e_6 e_7 c_8) (o27_8 e_5 e_6 e_7 c_8) dX11_person_111 (fun v_28 e_29 e_30 e_31 => ?_)
        rw [hQ]
        exact y_iret C0 h u_2 ⟨(Rel.fr (M := []) hR u_2 (by decide) (by decide)), (Hok.fr (M := []) hH u_2 (by decide))⟩ dX11_person_112
  · -- 5
    refine y_c2 (n := (-8)) C0 (by decide) dX11_person_8 (fun v_32 e_33 => ?_)
    rw [hQ]
    exact y_iret C0 h u_2 ⟨(Rel.fr (M := []) hR u_2 (by decide) (by decide)), (Hok.fr (M := []) hH u_2 (by decide))⟩ dX11_person_10
set_option maxHeartbeats 4000000 in
set_option maxRecDepth 100000 in
theorem c_X11_street (l : Launch) (G : GG) (Z : RZ) (ad : Nat → Nat) (ws0 : va_W) (hT : Ty G (SC tt) ad ws0) (a1 : Int32) (a2 : Int32) (hR : Rel ws0) (hH : Hok ws0) : Mq l yX11_street cX11_street 3 (some .int) 4 G Z [.ref (ad 0), .int a1, .int a2] ws0 (PI G (SC tt) ad [] ws0 (fun r u => ((-2) ≤ r.toInt) ∧ (r.toInt ≤ 24) ∧ (Rel u) ∧ (Hok u))) := by
  refine Mq.start (by decide) (Nat.le_of_ble_eq_true rfl) ?_
  intro p e s m below meth c A ls C0 hZ h hl
  have hl : lv_has ls 3 [(0, .ref (ad 0)), (1, .int a1), (2, .int a2)] := hl
  have h : Wt G (SC tt) ad A s s.heap [] ws0 := ⟨h, hT⟩
  obtain ⟨args, hargs⟩ : ∃ z, z = ([.ref (ad 0), .int a1, .int a2] : List Value).toArray := ⟨_, rfl⟩
  rw [← hargs] at C0 ⊢
  have C0 : Cx p s m args meth c RX11 cX11_street 3 (some .int) := C0
  obtain ⟨Q, hQ⟩ : ∃ z, z = MQ below ((PI G (SC tt) ad [] ws0 (fun r u => ((-2) ≤ r.toInt) ∧ (r.toInt ≤ 24) ∧ (Rel u) ∧ (Hok u))) A) args s 0 0 A := ⟨_, rfl⟩
  rw [← hQ]
  refine lv_aload_n C0.1 C0.2.1 dX11_street_0 rfl (lv_at hl 0 rfl) ?_
  refine lv_iload_n C0.1 C0.2.1 dX11_street_1 rfl (lv_at hl 1 rfl) ?_
  refine lv_iload_n C0.1 C0.2.1 dX11_street_2 rfl (lv_at hl 2 rfl) ?_
  refine y_ci h (y_rV (As := [.int a1, .int a2]) (rest := []) C0 hZ h (c_X11_isStand l G Z ad _ h.2 a1 a2) k_X11_isStand q_911 q_24 q_909 kSC_0 rfl rfl rfl hl.1 rfl rfl (Nat.le_of_ble_eq_true rfl) dX11_street_3 ⟨Nat.le_of_ble_eq_true rfl, Nat.le_of_ble_eq_true rfl⟩ ⟨Nat.le_of_ble_eq_true rfl, Nat.le_of_ble_eq_true rfl⟩) (fun r_4 H locs ws_1 h u_2 p_3 => ?_)
  obtain ⟨e_5, e_6, e_7⟩ := p_3
  refine y_if_ne (tgt := 12) C0 dX11_street_6 (by decide) (fun c_8 => ?_) (fun c_8 => ?_)
  · -- 6
    refine lv_aload_n C0.1 C0.2.1 dX11_street_12 rfl (lv_at hl 0 rfl) ?_
    refine tg_X11_now C0 h kSC_0 q_515 dX11_street_13 ?_
    refine lv_iload_n C0.1 C0.2.1 dX11_street_16 rfl (lv_at hl 1 rfl) ?_
    refine lv_iload_n C0.1 C0.2.1 dX11_street_17 rfl (lv_at hl 2 rfl) ?_
    refine y_ci h (y_rV (As := [.int a1, .int a2]) (rest := []) C0 hZ h (c_X0_to l G Z ad _ h.2 1 kSC_1 a1 a2 (o27_9 e_5 e_6 e_7 c_8) (o27_10 e_5 e_6 e_7 c_8) (o27_11 e_5 e_6 e_7 c_8) (o27_12 e_5 e_6 e_7 c_8) (Rel.fr (M := []) hR u_2 (by decide) (by decide))) k_X0_to q_773 q_774 q_921 kSC_1 rfl rfl rfl hl.1 rfl rfl (Nat.le_of_ble_eq_true rfl) dX11_street_18 ⟨Nat.le_of_ble_eq_true rfl, Nat.le_of_ble_eq_true rfl⟩ ⟨Nat.le_of_ble_eq_true rfl, Nat.le_of_ble_eq_true rfl⟩) (fun r_12 H locs ws_9 h u_10 p_11 => ?_)
    obtain ⟨e_13, e_14, e_15⟩ := p_11
    rw [hQ]
    exact y_iret C0 h (Fr.tr u_2 u_10) ⟨(o27_13 e_13 e_14), (o27_14 e_13 e_14), (Rel.fr (M := []) hR (Fr.tr u_2 u_10) (by decide) (by decide)), (Hok.fr (M := []) hH (Fr.tr u_2 u_10) (by decide))⟩ dX11_street_21
  · -- 6
    refine y_c2 (n := (-2)) C0 (by decide) dX11_street_9 (fun v_16 e_17 => ?_)
    rw [hQ]
    exact y_iret C0 h u_2 ⟨(o27_15 e_17), (o27_16 e_17), (Rel.fr (M := []) hR u_2 (by decide) (by decide)), (Hok.fr (M := []) hH u_2 (by decide))⟩ dX11_street_11
set_option maxHeartbeats 4000000 in
set_option maxRecDepth 100000 in
theorem c_X11_crossing (l : Launch) (G : GG) (Z : RZ) (ad : Nat → Nat) (ws0 : va_W) (hT : Ty G (SC tt) ad ws0) (a1 : Int32) (a2 : Int32) (hR : Rel ws0) (hH : Hok ws0) : Mq l yX11_crossing cX11_crossing 4 (some .int) 3 G Z [.ref (ad 0), .int a1, .int a2] ws0 (PI G (SC tt) ad [4, 5] ws0 (fun r u => (Rel u) ∧ (Hok u))) := by
  refine Mq.start (by decide) (Nat.le_of_ble_eq_true rfl) ?_
  intro p e s m below meth c A ls C0 hZ h hl
  have hl : lv_has ls 4 [(0, .ref (ad 0)), (1, .int a1), (2, .int a2)] := hl
  have h : Wt G (SC tt) ad A s s.heap [] ws0 := ⟨h, hT⟩
  obtain ⟨args, hargs⟩ : ∃ z, z = ([.ref (ad 0), .int a1, .int a2] : List Value).toArray := ⟨_, rfl⟩
  rw [← hargs] at C0 ⊢
  have C0 : Cx p s m args meth c RX11 cX11_crossing 4 (some .int) := C0
  obtain ⟨Q, hQ⟩ : ∃ z, z = MQ below ((PI G (SC tt) ad [4, 5] ws0 (fun r u => (Rel u) ∧ (Hok u))) A) args s 0 0 A := ⟨_, rfl⟩
  rw [← hQ]
  refine lv_aload_n C0.1 C0.2.1 dX11_crossing_0 rfl (lv_at hl 0 rfl) ?_
  refine lv_iload_n C0.1 C0.2.1 dX11_crossing_1 rfl (lv_at hl 1 rfl) ?_
  refine y_ci h (y_rV (As := [.int a1]) (rest := []) C0 hZ h (c_X11_isCrossing l G Z ad _ h.2 a1) k_X11_isCrossing q_915 q_25 q_913 kSC_0 rfl rfl rfl hl.1 rfl rfl (Nat.le_of_ble_eq_true rfl) dX11_crossing_2 ⟨Nat.le_of_ble_eq_true rfl, Nat.le_of_ble_eq_true rfl⟩ ⟨Nat.le_of_ble_eq_true rfl, Nat.le_of_ble_eq_true rfl⟩) (fun r_4 H locs ws_1 h u_2 p_3 => ?_)
  obtain ⟨e_5, e_6, e_7⟩ := p_3
  refine y_if_ne (tgt := 11) C0 dX11_crossing_5 (by decide) (fun c_8 => ?_) (fun c_8 => ?_)
  · -- 5
    refine lv_aload_n C0.1 C0.2.1 dX11_crossing_11 rfl (lv_at hl 0 rfl) ?_
    refine tg_X11_now C0 h kSC_0 q_515 dX11_crossing_12 ?_
    refine tg_X0_folk C0 h kSC_1 q_249 dX11_crossing_15 ?_
    refine lv_astore_n (lv' := [(3, .ref (ad 10)), (0, .ref (ad 0)), (1, .int a1), (2, .int a2)]) C0.1 C0.2.1 dX11_crossing_18 rfl hl (by decide) rfl (fun ls hl => ?_)
    refine lv_iload_n C0.1 C0.2.1 dX11_crossing_19 rfl (lv_at hl 3 rfl) ?_
    by_cases sw_9 : a2.toInt < 0 ∨ 4 < a2.toInt
    · refine lv_tableOut (tgt := 124) C0.1 C0.2.1 dX11_crossing_20 sw_9 (by decide) ?_
      refine y_c2 (n := (-2)) C0 (by decide) dX11_crossing_124 (fun v_10 e_11 => ?_)
      rw [hQ]
      exact y_iret C0 h (Fr.mono u_2 (by decide)) ⟨(Rel.fr (M := []) hR u_2 (by decide) (by decide)), (Hok.fr (M := []) hH u_2 (by decide))⟩ dX11_crossing_126
    · obtain ⟨sw_91, sw_92⟩ := not_or.mp sw_9
      rcases (show a2.toInt = 0 ∨ a2.toInt = 1 ∨ a2.toInt = 2 ∨ a2.toInt = 3 ∨ a2.toInt = 4 by omega) with sw_94 | sw_94 | sw_94 | sw_94 | sw_94
      · refine lv_tableIn (off := 36) (tgt := 56) C0.1 C0.2.1 dX11_crossing_20 sw_91 sw_92 (by rw [sw_94]; rfl) (by decide) ?_
        refine lv_aload_n C0.1 C0.2.1 dX11_crossing_56 rfl (lv_at hl 1 rfl) ?_
        refine tg_X11_now C0 h kSC_0 q_515 dX11_crossing_57 ?_
        refine lv_iload_n C0.1 C0.2.1 dX11_crossing_60 rfl (lv_at hl 2 rfl) ?_
        refine lv_aload_n C0.1 C0.2.1 dX11_crossing_61 rfl (lv_at hl 0 rfl) ?_
        refine tg_X1_hours C0 h kSC_10 q_220 dX11_crossing_62 (fun v_12 e_13 e_14 e_15 => ?_)
        refine lv_aload_n C0.1 C0.2.1 dX11_crossing_65 rfl (lv_at hl 0 rfl) ?_
        refine tg_X1_sold C0 h kSC_10 q_208 dX11_crossing_66 ?_
        refine lv_iload_n C0.1 C0.2.1 dX11_crossing_69 rfl (lv_at hl 2 rfl) ?_
        refine y_iald C0 h kSC_16 rfl (by decide) (o27_17 e_5 e_6 e_7 c_8) (o27_18 e_5 e_6 e_7 c_8) dX11_crossing_70 (fun v_16 e_17 e_18 e_19 => ?_)
        refine y_c1 (n := 0) C0 (by decide) dX11_crossing_71 (fun v_20 e_21 => ?_)
        refine y_ci h (y_rV (As := [.int a1, .int v_12, .int v_16, .int v_20]) (rest := []) C0 hZ h (c_X0_cost l G Z ad _ h.2 1 kSC_1 a1 v_12 v_16 v_20 (o27_17 e_5 e_6 e_7 c_8) (o27_19 e_5 e_6 e_7 c_8)) k_X0_cost q_927 q_928 q_926 kSC_1 rfl rfl rfl hl.1 rfl rfl (Nat.le_of_ble_eq_true rfl) dX11_crossing_72 ⟨Nat.le_of_ble_eq_true rfl, Nat.le_of_ble_eq_true rfl⟩ ⟨Nat.le_of_ble_eq_true rfl, Nat.le_of_ble_eq_true rfl⟩) (fun r_25 H locs ws_22 h u_23 p_24 => ?_)
        have e_26 := p_24
        rw [hQ]
        exact y_iret C0 h (Fr.tr (Fr.mono u_2 (by decide)) u_23) ⟨(Rel.fr (M := [4, 5]) hR (Fr.tr (Fr.mono u_2 (by decide)) u_23) (by decide) (by decide)), (Hok.fr (M := [4, 5]) hH (Fr.tr (Fr.mono u_2 (by decide)) u_23) (by decide))⟩ dX11_crossing_75
      · refine lv_tableIn (off := 56) (tgt := 76) C0.1 C0.2.1 dX11_crossing_20 sw_91 sw_92 (by rw [sw_94]; rfl) (by decide) ?_
        refine lv_aload_n C0.1 C0.2.1 dX11_crossing_76 rfl (lv_at hl 0 rfl) ?_
        refine tg_X1_sold C0 h kSC_10 q_208 dX11_crossing_77 ?_
        refine lv_iload_n C0.1 C0.2.1 dX11_crossing_80 rfl (lv_at hl 2 rfl) ?_
        refine y_iald C0 h kSC_16 rfl (by decide) (o27_17 e_5 e_6 e_7 c_8) (o27_18 e_5 e_6 e_7 c_8) dX11_crossing_81 (fun v_27 e_28 e_29 e_30 => ?_)
        rw [hQ]
        exact y_iret C0 h (Fr.mono u_2 (by decide)) ⟨(Rel.fr (M := []) hR u_2 (by decide) (by decide)), (Hok.fr (M := []) hH u_2 (by decide))⟩ dX11_crossing_82
      · refine lv_tableIn (off := 63) (tgt := 83) C0.1 C0.2.1 dX11_crossing_20 sw_91 sw_92 (by rw [sw_94]; rfl) (by decide) ?_
        refine lv_aload_n C0.1 C0.2.1 dX11_crossing_83 rfl (lv_at hl 1 rfl) ?_
        refine tg_X11_now C0 h kSC_0 q_515 dX11_crossing_84 ?_
        refine lv_aload_n C0.1 C0.2.1 dX11_crossing_87 rfl (lv_at hl 0 rfl) ?_
        refine tg_X1_hours C0 h kSC_10 q_220 dX11_crossing_88 (fun v_31 e_32 e_33 e_34 => ?_)
        refine y_ci h (y_rV (As := [.int v_31]) (rest := []) C0 hZ h (c_X0_freeBits l G Z ad _ h.2 1 kSC_1 v_31) k_X0_freeBits q_948 q_949 q_947 kSC_1 rfl rfl rfl hl.1 rfl rfl (Nat.le_of_ble_eq_true rfl) dX11_crossing_91 ⟨Nat.le_of_ble_eq_true rfl, Nat.le_of_ble_eq_true rfl⟩ ⟨Nat.le_of_ble_eq_true rfl, Nat.le_of_ble_eq_true rfl⟩) (fun r_38 H locs ws_35 h u_36 p_37 => ?_)
        refine lv_iload_n C0.1 C0.2.1 dX11_crossing_94 rfl (lv_at hl 2 rfl) ?_
        refine y_ishrU C0 dX11_crossing_95 (fun v_39 => ?_)
        refine y_c1 (n := 1) C0 (by decide) dX11_crossing_96 (fun v_40 e_41 => ?_)
        refine y_and 1 1 (n := 1) C0 (Eq.trans (o27_20 e_41) (by decide)) (by decide) (by decide) (by decide) dX11_crossing_97 (fun v_42 e_43 e_44 => ?_)
        rw [hQ]
        exact y_iret C0 h (Fr.tr (Fr.mono u_2 (by decide)) (Fr.mono u_36 (by decide))) ⟨(Rel.fr (M := []) hR (Fr.tr u_2 u_36) (by decide) (by decide)), (Hok.fr (M := []) hH (Fr.tr u_2 u_36) (by decide))⟩ dX11_crossing_98
      · refine lv_tableIn (off := 79) (tgt := 99) C0.1 C0.2.1 dX11_crossing_20 sw_91 sw_92 (by rw [sw_94]; rfl) (by decide) ?_
        refine y_c1 (n := 0) C0 (by decide) dX11_crossing_99 (fun v_45 e_46 => ?_)
        refine lv_aload_n C0.1 C0.2.1 dX11_crossing_100 rfl (lv_at hl 0 rfl) ?_
        refine tg_X1_fogEnds C0 h kSC_10 q_211 dX11_crossing_101 ?_
        refine lv_iload_n C0.1 C0.2.1 dX11_crossing_104 rfl (lv_at hl 2 rfl) ?_
        refine y_iald C0 h kSC_17 rfl (by decide) (o27_17 e_5 e_6 e_7 c_8) (o27_18 e_5 e_6 e_7 c_8) dX11_crossing_105 (fun v_47 e_48 e_49 e_50 => ?_)
        refine lv_aload_n C0.1 C0.2.1 dX11_crossing_106 rfl (lv_at hl 0 rfl) ?_
        refine tg_X1_hours C0 h kSC_10 q_220 dX11_crossing_107 (fun v_51 e_52 e_53 e_54 => ?_)
        refine y_isubU C0 dX11_crossing_110 (fun v_55 => ?_)
        refine y_max C0 hl.1 q_951 q_660 q_141 q_661 (Nat.le_of_ble_eq_true rfl) (Nat.le_of_ble_eq_true rfl) (Nat.le_of_ble_eq_true rfl) (Nat.le_of_ble_eq_true rfl) dX11_crossing_111 (fun v_56 e_57 => ?_)
        rw [hQ]
        exact y_iret C0 h (Fr.mono u_2 (by decide)) ⟨(Rel.fr (M := []) hR u_2 (by decide) (by decide)), (Hok.fr (M := []) hH u_2 (by decide))⟩ dX11_crossing_114
      · refine lv_tableIn (off := 95) (tgt := 115) C0.1 C0.2.1 dX11_crossing_20 sw_91 sw_92 (by rw [sw_94]; rfl) (by decide) ?_
        refine lv_aload_n C0.1 C0.2.1 dX11_crossing_115 rfl (lv_at hl 1 rfl) ?_
        refine tg_X11_now C0 h kSC_0 q_515 dX11_crossing_116 ?_
        refine lv_iload_n C0.1 C0.2.1 dX11_crossing_119 rfl (lv_at hl 2 rfl) ?_
        refine y_ci h (y_rV (As := [.int a1]) (rest := []) C0 hZ h (c_X0_streetsFrom l G Z ad _ h.2 1 kSC_1 a1) k_X0_streetsFrom q_953 q_954 q_952 kSC_1 rfl rfl rfl hl.1 rfl rfl (Nat.le_of_ble_eq_true rfl) dX11_crossing_120 ⟨Nat.le_of_ble_eq_true rfl, Nat.le_of_ble_eq_true rfl⟩ ⟨Nat.le_of_ble_eq_true rfl, Nat.le_of_ble_eq_true rfl⟩) (fun r_61 H locs ws_58 h u_59 p_60 => ?_)
        rw [hQ]
        exact y_iret C0 h (Fr.tr (Fr.mono u_2 (by decide)) (Fr.mono u_59 (by decide))) ⟨(Rel.fr (M := []) hR (Fr.tr u_2 u_59) (by decide) (by decide)), (Hok.fr (M := []) hH (Fr.tr u_2 u_59) (by decide))⟩ dX11_crossing_123
  · -- 5
    refine y_c2 (n := (-2)) C0 (by decide) dX11_crossing_8 (fun v_62 e_63 => ?_)
    rw [hQ]
    exact y_iret C0 h (Fr.mono u_2 (by decide)) ⟨(Rel.fr (M := []) hR u_2 (by decide) (by decide)), (Hok.fr (M := []) hH u_2 (by decide))⟩ dX11_crossing_10
set_option maxHeartbeats 4000000 in
set_option maxRecDepth 100000 in
theorem c_X11_price (l : Launch) (G : GG) (Z : RZ) (ad : Nat → Nat) (ws0 : va_W) (hT : Ty G (SC tt) ad ws0) (a1 : Int32) (a2 : Int32) (a3 : Int32) (hR : Rel ws0) (hH : Hok ws0) : Mq l yX11_price cX11_price 4 (some .int) 4 G Z [.ref (ad 0), .int a1, .int a2, .int a3] ws0 (PI G (SC tt) ad [4, 5] ws0 (fun r u => ((-3) ≤ r.toInt) ∧ (Rel u) ∧ (Hok u))) := by
  refine Mq.start (by decide) (Nat.le_of_ble_eq_true rfl) ?_
  intro p e s m below meth c A ls C0 hZ h hl
  have hl : lv_has ls 4 [(0, .ref (ad 0)), (1, .int a1), (2, .int a2), (3, .int a3)] := hl
  have h : Wt G (SC tt) ad A s s.heap [] ws0 := ⟨h, hT⟩
  obtain ⟨args, hargs⟩ : ∃ z, z = ([.ref (ad 0), .int a1, .int a2, .int a3] : List Value).toArray := ⟨_, rfl⟩
  rw [← hargs] at C0 ⊢
  have C0 : Cx p s m args meth c RX11 cX11_price 4 (some .int) := C0
  obtain ⟨Q, hQ⟩ : ∃ z, z = MQ below ((PI G (SC tt) ad [4, 5] ws0 (fun r u => ((-3) ≤ r.toInt) ∧ (Rel u) ∧ (Hok u))) A) args s 0 0 A := ⟨_, rfl⟩
  rw [← hQ]
  refine lv_aload_n C0.1 C0.2.1 dX11_price_0 rfl (lv_at hl 0 rfl) ?_
  refine lv_iload_n C0.1 C0.2.1 dX11_price_1 rfl (lv_at hl 1 rfl) ?_
  refine lv_iload_n C0.1 C0.2.1 dX11_price_2 rfl (lv_at hl 2 rfl) ?_
  refine y_ci h (y_rV (As := [.int a1, .int a2]) (rest := []) C0 hZ h (c_X11_isStand l G Z ad _ h.2 a1 a2) k_X11_isStand q_911 q_24 q_909 kSC_0 rfl rfl rfl hl.1 rfl rfl (Nat.le_of_ble_eq_true rfl) dX11_price_3 ⟨Nat.le_of_ble_eq_true rfl, Nat.le_of_ble_eq_true rfl⟩ ⟨Nat.le_of_ble_eq_true rfl, Nat.le_of_ble_eq_true rfl⟩) (fun r_4 H locs ws_1 h u_2 p_3 => ?_)
  obtain ⟨e_5, e_6, e_7⟩ := p_3
  refine y_if_ne (tgt := 12) C0 dX11_price_6 (by decide) (fun c_8 => ?_) (fun c_8 => ?_)
  · -- 6
    refine lv_iload_n C0.1 C0.2.1 dX11_price_12 rfl (lv_at hl 3 rfl) ?_
    refine y_if_lt (tgt := 23) C0 dX11_price_13 (by decide) (fun c_9 => ?_) (fun c_9 => ?_)
    · -- 13
      refine y_c2 (n := (-3)) C0 (by decide) dX11_price_23 (fun v_10 e_11 => ?_)
      rw [hQ]
      exact y_iret C0 h (Fr.mono u_2 (by decide)) ⟨(o27_21 e_11), (Rel.fr (M := []) hR u_2 (by decide) (by decide)), (Hok.fr (M := []) hH u_2 (by decide))⟩ dX11_price_25
    · -- 13
      refine lv_iload_n C0.1 C0.2.1 dX11_price_16 rfl (lv_at hl 3 rfl) ?_
      refine y_c3 (n := 999) C0 (by decide) dX11_price_17 (fun v_12 e_13 => ?_)
      refine y_icmp_le (tgt := 26) C0 dX11_price_20 (by decide) (fun c_14 => ?_) (fun c_14 => ?_)
      · -- 20
        refine lv_aload_n C0.1 C0.2.1 dX11_price_26 rfl (lv_at hl 0 rfl) ?_
        refine tg_X11_now C0 h kSC_0 q_515 dX11_price_27 ?_
        refine lv_iload_n C0.1 C0.2.1 dX11_price_30 rfl (lv_at hl 1 rfl) ?_
        refine lv_aload_n C0.1 C0.2.1 dX11_price_31 rfl (lv_at hl 0 rfl) ?_
        refine tg_X11_now C0 h kSC_0 q_515 dX11_price_32 ?_
        refine tg_X0_folk C0 h kSC_1 q_249 dX11_price_35 ?_
        refine tg_X1_hours C0 h kSC_10 q_220 dX11_price_38 (fun v_15 e_16 e_17 e_18 => ?_)
        refine lv_iload_n C0.1 C0.2.1 dX11_price_41 rfl (lv_at hl 3 rfl) ?_
        refine y_iaddU C0 dX11_price_42 (fun v_19 => ?_)
        refine lv_aload_n C0.1 C0.2.1 dX11_price_43 rfl (lv_at hl 0 rfl) ?_
        refine tg_X11_now C0 h kSC_0 q_515 dX11_price_44 ?_
        refine tg_X0_folk C0 h kSC_1 q_249 dX11_price_47 ?_
        refine tg_X1_sold C0 h kSC_10 q_208 dX11_price_50 ?_
        refine lv_iload_n C0.1 C0.2.1 dX11_price_53 rfl (lv_at hl 1 rfl) ?_
        refine y_iald C0 h kSC_16 rfl (by decide) (o27_9 e_5 e_6 e_7 c_8) (o27_22 e_5 e_6 e_7 c_8) dX11_price_54 (fun v_20 e_21 e_22 e_23 => ?_)
        refine lv_iload_n C0.1 C0.2.1 dX11_price_55 rfl (lv_at hl 2 rfl) ?_
        refine y_ci h (y_rV (As := [.int a1, .int v_19, .int v_20, .int a2]) (rest := []) C0 hZ h (c_X0_cost l G Z ad _ h.2 1 kSC_1 a1 v_19 v_20 a2 (o27_9 e_5 e_6 e_7 c_8) (o27_10 e_5 e_6 e_7 c_8)) k_X0_cost q_927 q_928 q_926 kSC_1 rfl rfl rfl hl.1 rfl rfl (Nat.le_of_ble_eq_true rfl) dX11_price_56 ⟨Nat.le_of_ble_eq_true rfl, Nat.le_of_ble_eq_true rfl⟩ ⟨Nat.le_of_ble_eq_true rfl, Nat.le_of_ble_eq_true rfl⟩) (fun r_27 H locs ws_24 h u_25 p_26 => ?_)
        have e_28 := p_26
        rw [hQ]
        exact y_iret C0 h (Fr.tr (Fr.mono u_2 (by decide)) u_25) ⟨(o27_23 e_28), (Rel.fr (M := [4, 5]) hR (Fr.tr (Fr.mono u_2 (by decide)) u_25) (by decide) (by decide)), (Hok.fr (M := [4, 5]) hH (Fr.tr (Fr.mono u_2 (by decide)) u_25) (by decide))⟩ dX11_price_59
      · -- 20
        refine y_c2 (n := (-3)) C0 (by decide) dX11_price_23 (fun v_29 e_30 => ?_)
        rw [hQ]
        exact y_iret C0 h (Fr.mono u_2 (by decide)) ⟨(o27_21 e_30), (Rel.fr (M := []) hR u_2 (by decide) (by decide)), (Hok.fr (M := []) hH u_2 (by decide))⟩ dX11_price_25
  · -- 6
    refine y_c2 (n := (-2)) C0 (by decide) dX11_price_9 (fun v_31 e_32 => ?_)
    rw [hQ]
    exact y_iret C0 h (Fr.mono u_2 (by decide)) ⟨(o27_24 e_32), (Rel.fr (M := []) hR u_2 (by decide) (by decide)), (Hok.fr (M := []) hH u_2 (by decide))⟩ dX11_price_11
set_option maxHeartbeats 4000000 in
set_option maxRecDepth 100000 in
theorem c_X11_why (l : Launch) (G : GG) (Z : RZ) (ad : Nat → Nat) (ws0 : va_W) (hT : Ty G (SC tt) ad ws0) (a1 : Int32) (a2 : Int32) (hR : Rel ws0) (hH : Hok ws0) : Mq l yX11_why cX11_why 3 (some .int) 4 G Z [.ref (ad 0), .int a1, .int a2] ws0 (PI G (SC tt) ad [4, 5] ws0 (fun r u => (0 ≤ r.toInt) ∧ (r.toInt ≤ 4) ∧ (Rel u) ∧ (Hok u))) := by
  refine Mq.start (by decide) (Nat.le_of_ble_eq_true rfl) ?_
  intro p e s m below meth c A ls C0 hZ h hl
  have hl : lv_has ls 3 [(0, .ref (ad 0)), (1, .int a1), (2, .int a2)] := hl
  have h : Wt G (SC tt) ad A s s.heap [] ws0 := ⟨h, hT⟩
  obtain ⟨args, hargs⟩ : ∃ z, z = ([.ref (ad 0), .int a1, .int a2] : List Value).toArray := ⟨_, rfl⟩
  rw [← hargs] at C0 ⊢
  have C0 : Cx p s m args meth c RX11 cX11_why 3 (some .int) := C0
  obtain ⟨Q, hQ⟩ : ∃ z, z = MQ below ((PI G (SC tt) ad [4, 5] ws0 (fun r u => (0 ≤ r.toInt) ∧ (r.toInt ≤ 4) ∧ (Rel u) ∧ (Hok u))) A) args s 0 0 A := ⟨_, rfl⟩
  rw [← hQ]
  refine lv_aload_n C0.1 C0.2.1 dX11_why_0 rfl (lv_at hl 0 rfl) ?_
  refine tg_X11_now C0 h kSC_0 q_515 dX11_why_1 ?_
  refine lv_iload_n C0.1 C0.2.1 dX11_why_4 rfl (lv_at hl 1 rfl) ?_
  refine lv_iload_n C0.1 C0.2.1 dX11_why_5 rfl (lv_at hl 2 rfl) ?_
  refine y_ci h (y_rV (As := [.int a1, .int a2]) (rest := []) C0 hZ h (c_X0_hindrance l G Z ad _ h.2 1 kSC_1 a1 a2 hR) k_X0_hindrance q_965 q_966 q_964 kSC_1 rfl rfl rfl hl.1 rfl rfl (Nat.le_of_ble_eq_true rfl) dX11_why_6 ⟨Nat.le_of_ble_eq_true rfl, Nat.le_of_ble_eq_true rfl⟩ ⟨Nat.le_of_ble_eq_true rfl, Nat.le_of_ble_eq_true rfl⟩) (fun r_4 H locs ws_1 h u_2 p_3 => ?_)
  obtain ⟨e_5, e_6, e_7, e_8⟩ := p_3
  rw [hQ]
  exact y_iret C0 h u_2 ⟨(o27_25 e_5 e_6 e_7), (o27_26 e_5 e_6 e_7), (Rel.fr (M := [4, 5]) hR u_2 (by decide) (by decide)), (Hok.fr (M := [4, 5]) hH u_2 (by decide))⟩ dX11_why_9
set_option maxHeartbeats 4000000 in
set_option maxRecDepth 100000 in
theorem c_X11_go (l : Launch) (G : GG) (Z : RZ) (ad : Nat → Nat) (ws0 : va_W) (hT : Ty G (SC tt) ad ws0) (a1 : Int32) (a2 : Int32) (hR : Rel ws0) (hH : Hok ws0) : Mq l yX11_go cX11_go 4 (some .int) 4 G Z [.ref (ad 0), .int a1, .int a2] ws0 (PI G (SC tt) ad [0, 4, 5, 6, 7, 8, 9, 10, 11, 12, 13, 18] ws0 (fun r u => ((-14) ≤ r.toInt) ∧ (r.toInt ≤ 24) ∧ (Rel u) ∧ (Hok u))) := by
  refine Mq.start (by decide) (Nat.le_of_ble_eq_true rfl) ?_
  intro p e s m below meth c A ls C0 hZ h hl
  have hl : lv_has ls 4 [(0, .ref (ad 0)), (1, .int a1), (2, .int a2)] := hl
  have h : Wt G (SC tt) ad A s s.heap [] ws0 := ⟨h, hT⟩
  obtain ⟨args, hargs⟩ : ∃ z, z = ([.ref (ad 0), .int a1, .int a2] : List Value).toArray := ⟨_, rfl⟩
  rw [← hargs] at C0 ⊢
  have C0 : Cx p s m args meth c RX11 cX11_go 4 (some .int) := C0
  obtain ⟨Q, hQ⟩ : ∃ z, z = MQ below ((PI G (SC tt) ad [0, 4, 5, 6, 7, 8, 9, 10, 11, 12, 13, 18] ws0 (fun r u => ((-14) ≤ r.toInt) ∧ (r.toInt ≤ 24) ∧ (Rel u) ∧ (Hok u))) A) args s 0 0 A := ⟨_, rfl⟩
  rw [← hQ]
  refine lv_aload_n C0.1 C0.2.1 dX11_go_0 rfl (lv_at hl 0 rfl) ?_
  refine tg_X11_now C0 h kSC_0 q_515 dX11_go_1 ?_
  refine lv_iload_n C0.1 C0.2.1 dX11_go_4 rfl (lv_at hl 1 rfl) ?_
  refine lv_iload_n C0.1 C0.2.1 dX11_go_5 rfl (lv_at hl 2 rfl) ?_
  refine y_ci h (y_rV (As := [.int a1, .int a2]) (rest := []) C0 hZ h (c_X0_hindrance l G Z ad _ h.2 1 kSC_1 a1 a2 hR) k_X0_hindrance q_965 q_966 q_964 kSC_1 rfl rfl rfl hl.1 rfl rfl (Nat.le_of_ble_eq_true rfl) dX11_go_6 ⟨Nat.le_of_ble_eq_true rfl, Nat.le_of_ble_eq_true rfl⟩ ⟨Nat.le_of_ble_eq_true rfl, Nat.le_of_ble_eq_true rfl⟩) (fun r_4 H locs ws_1 h u_2 p_3 => ?_)
  obtain ⟨e_5, e_6, e_7, e_8⟩ := p_3
  refine lv_istore_n (lv' := [(3, .int r_4), (0, .ref (ad 0)), (1, .int a1), (2, .int a2)]) C0.1 C0.2.1 dX11_go_9 rfl hl (by decide) rfl (fun ls hl => ?_)
  refine lv_iload_n C0.1 C0.2.1 dX11_go_10 rfl (lv_at hl 0 rfl) ?_
  refine y_if_eq (tgt := 19) C0 dX11_go_11 (by decide) (fun c_9 => ?_) (fun c_9 => ?_)
  · -- 11
    refine lv_aload_n C0.1 C0.2.1 dX11_go_19 rfl (lv_at hl 1 rfl) ?_
    refine lv_aload_n C0.1 C0.2.1 dX11_go_20 rfl (lv_at hl 1 rfl) ?_
    refine tg_X11_now C0 h kSC_0 q_515 dX11_go_21 ?_
    refine tg_X0_folk C0 h kSC_1 q_249 dX11_go_24 ?_
    refine y_cv h (y_rV (As := [.ref (ad 10)]) (rest := []) C0 hZ h (c_X11_keep l G Z ad _ h.2 10 kSC_10) k_X11_keep q_985 q_27 q_983 kSC_0 rfl rfl rfl hl.1 rfl rfl (Nat.le_of_ble_eq_true rfl) dX11_go_27 ⟨Nat.le_of_ble_eq_true rfl, Nat.le_of_ble_eq_true rfl⟩ ⟨Nat.le_of_ble_eq_true rfl, Nat.le_of_ble_eq_true rfl⟩) (fun H locs ws_10 h u_11 p_12 => ?_)
    have e_13 := p_12
    refine lv_aload_n C0.1 C0.2.1 dX11_go_30 rfl (lv_at hl 1 rfl) ?_
    refine tg_X11_now C0 h kSC_0 q_515 dX11_go_31 ?_
    refine lv_iload_n C0.1 C0.2.1 dX11_go_34 rfl (lv_at hl 2 rfl) ?_
    refine lv_iload_n C0.1 C0.2.1 dX11_go_35 rfl (lv_at hl 3 rfl) ?_
    refine y_ci h (y_rV (As := [.int a1, .int a2]) (rest := []) C0 hZ h (c_X0_step l G Z ad _ h.2 1 kSC_1 a1 a2 (o27_27 e_5 e_6 e_7 c_9) (o27_28 e_5 e_6 e_7 c_9) (o27_29 e_5 e_6 e_7 c_9) (o27_30 e_5 e_6 e_7 c_9) (Rel.fr (M := [0, 4, 5, 6, 7, 8, 9, 10, 11, 12, 13]) hR (Fr.tr (Fr.mono u_2 (by decide)) (Fr.mono u_11 (by decide))) (by decide) (by decide)) ((CanGo.of (e_13 11 (by decide) (by decide)) (e_13 12 (by decide) (by decide)) (e_13 18 (by decide) (by decide)) (CanGo.fr u_2 kSC_1 (by decide) (by decide) (by decide) (e_8 (o27_31 e_5 e_6 e_7 c_9)))))) k_X0_step q_989 q_990 q_988 kSC_1 rfl rfl rfl hl.1 rfl rfl (Nat.le_of_ble_eq_true rfl) dX11_go_36 ⟨Nat.le_of_ble_eq_true rfl, Nat.le_of_ble_eq_true rfl⟩ ⟨Nat.le_of_ble_eq_true rfl, Nat.le_of_ble_eq_true rfl⟩) (fun r_17 H locs ws_14 h u_15 p_16 => ?_)
    obtain ⟨e_18, e_19⟩ := p_16
    refine lv_pop C0.1 C0.2.1 dX11_go_39 rfl ?_
    refine lv_aload_n C0.1 C0.2.1 dX11_go_40 rfl (lv_at hl 1 rfl) ?_
    refine tg_X11_forecast C0 h kSC_0 q_518 dX11_go_41 ?_
    refine y_cv h (y_rV (As := []) (rest := []) C0 hZ h (c_X2_forget l G Z ad _ h.2) k_X2_forget q_878 q_879 q_877 kSC_79 rfl rfl rfl hl.1 rfl rfl (Nat.le_of_ble_eq_true rfl) dX11_go_44 ⟨Nat.le_of_ble_eq_true rfl, Nat.le_of_ble_eq_true rfl⟩ ⟨Nat.le_of_ble_eq_true rfl, Nat.le_of_ble_eq_true rfl⟩) (fun H locs ws_20 h u_21 p_22 => ?_)
    refine lv_aload_n C0.1 C0.2.1 dX11_go_47 rfl (lv_at hl 1 rfl) ?_
    refine tg_X11_now C0 h kSC_0 q_515 dX11_go_48 ?_
    refine tg_X0_folk C0 h kSC_1 q_249 dX11_go_51 ?_
    refine tg_X1_at C0 h kSC_10 q_191 dX11_go_54 ?_
    refine lv_iload_n C0.1 C0.2.1 dX11_go_57 rfl (lv_at hl 2 rfl) ?_
    refine y_iald C0 h kSC_11 rfl (by decide) (o27_27 e_5 e_6 e_7 c_9) (o27_32 e_5 e_6 e_7 c_9) dX11_go_58 (fun v_23 e_24 e_25 e_26 => ?_)
    rw [hQ]
    exact y_iret C0 h (Fr.tr (Fr.tr (Fr.tr (Fr.mono u_2 (by decide)) (Fr.mono u_11 (by decide))) (Fr.mono u_15 (by decide))) (Fr.mono u_21 (by decide))) ⟨(o27_33 e_25 e_26), (o27_34 e_25 e_26), (Rel.fr (M := [0, 4, 5, 6, 7, 8, 9, 10, 11, 12, 13, 18]) hR (Fr.tr (Fr.tr (Fr.tr (Fr.mono u_2 (by decide)) (Fr.mono u_11 (by decide))) (Fr.mono u_15 (by decide))) (Fr.mono u_21 (by decide))) (by decide) (by decide)), (Hok.fr (M := [0, 4, 5, 6, 7, 8, 9, 10, 11, 12, 13, 18]) hH (Fr.tr (Fr.tr (Fr.tr (Fr.mono u_2 (by decide)) (Fr.mono u_11 (by decide))) (Fr.mono u_15 (by decide))) (Fr.mono u_21 (by decide))) (by decide))⟩ dX11_go_59
  · -- 11
    refine y_c2 (n := (-10)) C0 (by decide) dX11_go_14 (fun v_27 e_28 => ?_)
    refine lv_iload_n C0.1 C0.2.1 dX11_go_16 rfl (lv_at hl 0 rfl) ?_
    refine y_sub C0 (o27_35 e_5 e_6 e_7 c_9 e_28 (le_min v_27) (le_max v_27) (le_min r_4) (le_max r_4) (le_min a1) (le_max a1) (le_min a2) (le_max a2)) (o27_36 e_5 e_6 e_7 c_9 e_28 (le_min v_27) (le_max v_27) (le_min r_4) (le_max r_4) (le_min a1) (le_max a1) (le_min a2) (le_max a2)) dX11_go_17 (fun v_29 e_30 => ?_)
    rw [hQ]
    exact y_iret C0 h (Fr.mono u_2 (by decide)) ⟨(o27_37 e_5 e_6 e_7 c_9 e_28 e_30), (o27_38 e_5 e_6 e_7 c_9 e_28 e_30), (Rel.fr (M := [4, 5]) hR u_2 (by decide) (by decide)), (Hok.fr (M := [4, 5]) hH u_2 (by decide))⟩ dX11_go_18
set_option maxHeartbeats 4000000 in
set_option maxRecDepth 100000 in
theorem c_X11_judge (l : Launch) (G : GG) (Z : RZ) (ad : Nat → Nat) (ws0 : va_W) (hT : Ty G (SC tt) ad ws0) (a1 : Int32) (a2 : Int32) (hR : Rel ws0) (hH : Hok ws0) : Mq l yX11_judge cX11_judge 3 (some .int) 5 G Z [.ref (ad 0), .int a1, .int a2] ws0 (PI G (SC tt) ad [4, 5, 6, 7, 8, 9, 10, 11, 12, 13, 48] ws0 (fun r u => (Rel u) ∧ (Hok u))) := by
  refine Mq.start (by decide) (Nat.le_of_ble_eq_true rfl) ?_
  intro p e s m below meth c A ls C0 hZ h hl
  have hl : lv_has ls 3 [(0, .ref (ad 0)), (1, .int a1), (2, .int a2)] := hl
  have h : Wt G (SC tt) ad A s s.heap [] ws0 := ⟨h, hT⟩
  obtain ⟨args, hargs⟩ : ∃ z, z = ([.ref (ad 0), .int a1, .int a2] : List Value).toArray := ⟨_, rfl⟩
  rw [← hargs] at C0 ⊢
  have C0 : Cx p s m args meth c RX11 cX11_judge 3 (some .int) := C0
  obtain ⟨Q, hQ⟩ : ∃ z, z = MQ below ((PI G (SC tt) ad [4, 5, 6, 7, 8, 9, 10, 11, 12, 13, 48] ws0 (fun r u => (Rel u) ∧ (Hok u))) A) args s 0 0 A := ⟨_, rfl⟩
  rw [← hQ]
  refine lv_iload_n C0.1 C0.2.1 dX11_judge_0 rfl (lv_at hl 1 rfl) ?_
  refine y_ci h (y_rS (As := [.int a1]) (rest := []) C0 hZ h (c_X11_isTray l G Z ad _ h.2 a1) k_X11_isTray q_998 q_997 hl.1 rfl rfl (Nat.le_of_ble_eq_true rfl) dX11_judge_1 ⟨Nat.le_of_ble_eq_true rfl, Nat.le_of_ble_eq_true rfl⟩ ⟨Nat.le_of_ble_eq_true rfl, Nat.le_of_ble_eq_true rfl⟩) (fun r_4 H locs ws_1 h u_2 p_3 => ?_)
  obtain ⟨e_5, e_6, e_7⟩ := p_3
  refine y_if_eq (tgt := 20) C0 dX11_judge_4 (by decide) (fun c_8 => ?_) (fun c_8 => ?_)
  · -- 4
    refine y_c2 (n := (-2)) C0 (by decide) dX11_judge_20 (fun v_9 e_10 => ?_)
    rw [hQ]
    exact y_iret C0 h (Fr.mono u_2 (by decide)) ⟨(Rel.fr (M := []) hR u_2 (by decide) (by decide)), (Hok.fr (M := []) hH u_2 (by decide))⟩ dX11_judge_22
  · -- 4
    refine lv_iload_n C0.1 C0.2.1 dX11_judge_7 rfl (lv_at hl 2 rfl) ?_
    refine y_if_lt (tgt := 20) C0 dX11_judge_8 (by decide) (fun c_11 => ?_) (fun c_11 => ?_)
    · -- 8
      refine y_c2 (n := (-2)) C0 (by decide) dX11_judge_20 (fun v_12 e_13 => ?_)
      rw [hQ]
      exact y_iret C0 h (Fr.mono u_2 (by decide)) ⟨(Rel.fr (M := []) hR u_2 (by decide) (by decide)), (Hok.fr (M := []) hH u_2 (by decide))⟩ dX11_judge_22
    · -- 8
      refine lv_iload_n C0.1 C0.2.1 dX11_judge_11 rfl (lv_at hl 2 rfl) ?_
      refine lv_aload_n C0.1 C0.2.1 dX11_judge_12 rfl (lv_at hl 0 rfl) ?_
      refine tg_X11_walked C0 h kSC_0 q_529 dX11_judge_13 ?_
      refine y_alenI (cA := G.2 0) C0 h kSC_207 rfl rfl (by decide) dX11_judge_16 (fun v_14 e_15 => ?_)
      refine y_icmp_lt (tgt := 23) C0 dX11_judge_17 (by decide) (fun c_16 => ?_) (fun c_16 => ?_)
      · -- 17
        refine lv_aload_n C0.1 C0.2.1 dX11_judge_23 rfl (lv_at hl 0 rfl) ?_
        refine tg_X11_trays C0 h kSC_0 q_524 dX11_judge_24 ?_
        refine lv_iload_n C0.1 C0.2.1 dX11_judge_27 rfl (lv_at hl 1 rfl) ?_
        refine y_aald C0 h kSC_115 rfl rfl (by decide) (o27_39 e_5 e_6 e_7 c_8) (o27_40 e_5 e_6 e_7 c_8) dX11_judge_28 ?_
        obtain ⟨i_17, hi_17, ei_17⟩ : ∃ j : Nat, Kd (SC tt) j 42 ∧ j = 107 + 2 * a1.toInt.toNat := ⟨_, aSC_44 (o27_41 e_5 e_6 e_7 c_8), rfl⟩
        rw [← ei_17]
        refine tg_X10_size C0 h hi_17 q_502 dX11_judge_29 (fun v_18 e_19 e_20 e_21 => ?_)
        refine y_if_ge (tgt := 38) C0 dX11_judge_32 (by decide) (fun c_22 => ?_) (fun c_22 => ?_)
        · -- 32
          refine lv_aload_n C0.1 C0.2.1 dX11_judge_38 rfl (lv_at hl 0 rfl) ?_
          refine tg_X11_before C0 h kSC_0 q_528 dX11_judge_39 ?_
          refine lv_aload_n C0.1 C0.2.1 dX11_judge_42 rfl (lv_at hl 0 rfl) ?_
          refine tg_X11_now C0 h kSC_0 q_515 dX11_judge_43 ?_
          refine tg_X0_folk C0 h kSC_1 q_249 dX11_judge_46 ?_
          refine y_cv h (y_rV (As := [.ref (ad 10)]) (rest := []) C0 hZ h (c_X1_copy l G Z ad _ h.2 199 kSC_199 10 kSC_10) k_X1_copy q_868 q_869 q_987 kSC_199 rfl rfl rfl hl.1 rfl rfl (Nat.le_of_ble_eq_true rfl) dX11_judge_49 ⟨Nat.le_of_ble_eq_true rfl, Nat.le_of_ble_eq_true rfl⟩ ⟨Nat.le_of_ble_eq_true rfl, Nat.le_of_ble_eq_true rfl⟩) (fun H locs ws_23 h u_24 p_25 => ?_)
          have e_26 := p_25
          refine lv_aload_n C0.1 C0.2.1 dX11_judge_52 rfl (lv_at hl 0 rfl) ?_
          refine lv_aload_n C0.1 C0.2.1 dX11_judge_53 rfl (lv_at hl 0 rfl) ?_
          refine tg_X11_trays C0 h kSC_0 q_524 dX11_judge_54 ?_
          refine lv_iload_n C0.1 C0.2.1 dX11_judge_57 rfl (lv_at hl 1 rfl) ?_
          refine y_aald C0 h kSC_115 rfl rfl (by decide) (o27_39 e_5 e_6 e_7 c_8) (o27_40 e_5 e_6 e_7 c_8) dX11_judge_58 ?_
          obtain ⟨i_27, hi_27, ei_27⟩ : ∃ j : Nat, Kd (SC tt) j 42 ∧ j = 107 + 2 * a1.toInt.toNat := ⟨_, aSC_44 (o27_41 e_5 e_6 e_7 c_8), rfl⟩
          rw [← ei_27]
          refine y_ci h (y_rV (As := [.ref (ad i_27)]) (rest := []) C0 hZ h (c_X11_goWalk l G Z ad _ h.2 i_27 hi_27 (Rel.fr (M := [6, 7, 8, 9, 10, 11, 12, 13]) hR (Fr.tr (Fr.mono u_2 (by decide)) u_24) (by decide) (by decide))) k_X11_goWalk q_1002 q_28 q_1000 kSC_0 rfl rfl rfl hl.1 rfl rfl (Nat.le_of_ble_eq_true rfl) dX11_judge_59 ⟨Nat.le_of_ble_eq_true rfl, Nat.le_of_ble_eq_true rfl⟩ ⟨Nat.le_of_ble_eq_true rfl, Nat.le_of_ble_eq_true rfl⟩) (fun r_31 H locs ws_28 h u_29 p_30 => ?_)
          refine lv_pop C0.1 C0.2.1 dX11_judge_62 rfl ?_
          refine lv_aload_n C0.1 C0.2.1 dX11_judge_63 rfl (lv_at hl 0 rfl) ?_
          refine tg_X11_now C0 h kSC_0 q_515 dX11_judge_64 ?_
          refine tg_X0_folk C0 h kSC_1 q_249 dX11_judge_67 ?_
          refine lv_aload_n C0.1 C0.2.1 dX11_judge_70 rfl (lv_at hl 0 rfl) ?_
          refine tg_X11_before C0 h kSC_0 q_528 dX11_judge_71 ?_
          refine y_cv h (y_rV (As := [.ref (ad 199)]) (rest := []) C0 hZ h (c_X1_copy l G Z ad _ h.2 10 kSC_10 199 kSC_199) k_X1_copy q_868 q_869 q_987 kSC_10 rfl rfl rfl hl.1 rfl rfl (Nat.le_of_ble_eq_true rfl) dX11_judge_74 ⟨Nat.le_of_ble_eq_true rfl, Nat.le_of_ble_eq_true rfl⟩ ⟨Nat.le_of_ble_eq_true rfl, Nat.le_of_ble_eq_true rfl⟩) (fun H locs ws_32 h u_33 p_34 => ?_)
          have e_35 := p_34
          refine lv_aload_n C0.1 C0.2.1 dX11_judge_77 rfl (lv_at hl 0 rfl) ?_
          refine tg_X11_walked C0 h kSC_0 q_529 dX11_judge_78 ?_
          refine lv_iload_n C0.1 C0.2.1 dX11_judge_81 rfl (lv_at hl 2 rfl) ?_
          refine y_iald C0 h kSC_207 rfl (by decide) (o27_42 c_11 e_15 c_16) (o27_43 c_11 e_15 c_16) dX11_judge_82 (fun v_36 e_37 e_38 e_39 => ?_)
          rw [hQ]
          exact y_iret C0 h (Fr.tr (Fr.tr (Fr.tr (Fr.mono u_2 (by decide)) (Fr.mono u_24 (by decide))) (Fr.mono u_29 (by decide))) (Fr.mono u_33 (by decide))) ⟨(Rel.fr (M := [4, 5, 6, 7, 8, 9, 10, 11, 12, 13, 48]) hR (Fr.tr (Fr.tr (Fr.tr (Fr.mono u_2 (by decide)) (Fr.mono u_24 (by decide))) (Fr.mono u_29 (by decide))) (Fr.mono u_33 (by decide))) (by decide) (by decide)), (Hok.fr (M := [4, 5, 6, 7, 8, 9, 10, 11, 12, 13, 48]) hH (Fr.tr (Fr.tr (Fr.tr (Fr.mono u_2 (by decide)) (Fr.mono u_24 (by decide))) (Fr.mono u_29 (by decide))) (Fr.mono u_33 (by decide))) (by decide))⟩ dX11_judge_83
        · -- 32
          refine y_c2 (n := (-6)) C0 (by decide) dX11_judge_35 (fun v_40 e_41 => ?_)
          rw [hQ]
          exact y_iret C0 h (Fr.mono u_2 (by decide)) ⟨(Rel.fr (M := []) hR u_2 (by decide) (by decide)), (Hok.fr (M := []) hH u_2 (by decide))⟩ dX11_judge_37
      · -- 17
        refine y_c2 (n := (-2)) C0 (by decide) dX11_judge_20 (fun v_42 e_43 => ?_)
        rw [hQ]
        exact y_iret C0 h (Fr.mono u_2 (by decide)) ⟨(Rel.fr (M := []) hR u_2 (by decide) (by decide)), (Hok.fr (M := []) hH u_2 (by decide))⟩ dX11_judge_22
set_option maxHeartbeats 4000000 in
set_option maxRecDepth 100000 in
theorem c_X11_walk (l : Launch) (G : GG) (Z : RZ) (ad : Nat → Nat) (ws0 : va_W) (hT : Ty G (SC tt) ad ws0) (a1 : Int32) (hR : Rel ws0) (hH : Hok ws0) : Mq l yX11_walk cX11_walk 3 (some .int) 5 G Z [.ref (ad 0), .int a1] ws0 (PI G (SC tt) ad [0, 4, 5, 6, 7, 8, 9, 10, 11, 12, 13, 18, 48] ws0 (fun r u => (Rel u) ∧ (Hok u))) := by
  refine Mq.start (by decide) (Nat.le_of_ble_eq_true rfl) ?_
  intro p e s m below meth c A ls C0 hZ h hl
  have hl : lv_has ls 3 [(0, .ref (ad 0)), (1, .int a1)] := hl
  have h : Wt G (SC tt) ad A s s.heap [] ws0 := ⟨h, hT⟩
  obtain ⟨args, hargs⟩ : ∃ z, z = ([.ref (ad 0), .int a1] : List Value).toArray := ⟨_, rfl⟩
  rw [← hargs] at C0 ⊢
  have C0 : Cx p s m args meth c RX11 cX11_walk 3 (some .int) := C0
  obtain ⟨Q, hQ⟩ : ∃ z, z = MQ below ((PI G (SC tt) ad [0, 4, 5, 6, 7, 8, 9, 10, 11, 12, 13, 18, 48] ws0 (fun r u => (Rel u) ∧ (Hok u))) A) args s 0 0 A := ⟨_, rfl⟩
  rw [← hQ]
  refine lv_iload_n C0.1 C0.2.1 dX11_walk_0 rfl (lv_at hl 1 rfl) ?_
  refine y_ci h (y_rS (As := [.int a1]) (rest := []) C0 hZ h (c_X11_isTray l G Z ad _ h.2 a1) k_X11_isTray q_998 q_997 hl.1 rfl rfl (Nat.le_of_ble_eq_true rfl) dX11_walk_1 ⟨Nat.le_of_ble_eq_true rfl, Nat.le_of_ble_eq_true rfl⟩ ⟨Nat.le_of_ble_eq_true rfl, Nat.le_of_ble_eq_true rfl⟩) (fun r_4 H locs ws_1 h u_2 p_3 => ?_)
  obtain ⟨e_5, e_6, e_7⟩ := p_3
  refine y_if_ne (tgt := 10) C0 dX11_walk_4 (by decide) (fun c_8 => ?_) (fun c_8 => ?_)
  · -- 4
    refine lv_aload_n C0.1 C0.2.1 dX11_walk_10 rfl (lv_at hl 0 rfl) ?_
    refine tg_X11_trays C0 h kSC_0 q_524 dX11_walk_11 ?_
    refine lv_iload_n C0.1 C0.2.1 dX11_walk_14 rfl (lv_at hl 1 rfl) ?_
    refine y_aald C0 h kSC_115 rfl rfl (by decide) (o27_39 e_5 e_6 e_7 c_8) (o27_40 e_5 e_6 e_7 c_8) dX11_walk_15 ?_
    obtain ⟨i_9, hi_9, ei_9⟩ : ∃ j : Nat, Kd (SC tt) j 42 ∧ j = 107 + 2 * a1.toInt.toNat := ⟨_, aSC_44 (o27_41 e_5 e_6 e_7 c_8), rfl⟩
    rw [← ei_9]
    refine tg_X10_size C0 h hi_9 q_502 dX11_walk_16 (fun v_10 e_11 e_12 e_13 => ?_)
    refine y_if_ge (tgt := 25) C0 dX11_walk_19 (by decide) (fun c_14 => ?_) (fun c_14 => ?_)
    · -- 19
      refine lv_aload_n C0.1 C0.2.1 dX11_walk_25 rfl (lv_at hl 0 rfl) ?_
      refine tg_X11_before C0 h kSC_0 q_528 dX11_walk_26 ?_
      refine lv_aload_n C0.1 C0.2.1 dX11_walk_29 rfl (lv_at hl 0 rfl) ?_
      refine tg_X11_now C0 h kSC_0 q_515 dX11_walk_30 ?_
      refine tg_X0_folk C0 h kSC_1 q_249 dX11_walk_33 ?_
      refine y_cv h (y_rV (As := [.ref (ad 10)]) (rest := []) C0 hZ h (c_X1_copy l G Z ad _ h.2 199 kSC_199 10 kSC_10) k_X1_copy q_868 q_869 q_987 kSC_199 rfl rfl rfl hl.1 rfl rfl (Nat.le_of_ble_eq_true rfl) dX11_walk_36 ⟨Nat.le_of_ble_eq_true rfl, Nat.le_of_ble_eq_true rfl⟩ ⟨Nat.le_of_ble_eq_true rfl, Nat.le_of_ble_eq_true rfl⟩) (fun H locs ws_15 h u_16 p_17 => ?_)
      have e_18 := p_17
      refine lv_aload_n C0.1 C0.2.1 dX11_walk_39 rfl (lv_at hl 0 rfl) ?_
      refine lv_aload_n C0.1 C0.2.1 dX11_walk_40 rfl (lv_at hl 0 rfl) ?_
      refine tg_X11_trays C0 h kSC_0 q_524 dX11_walk_41 ?_
      refine lv_iload_n C0.1 C0.2.1 dX11_walk_44 rfl (lv_at hl 1 rfl) ?_
      refine y_aald C0 h kSC_115 rfl rfl (by decide) (o27_39 e_5 e_6 e_7 c_8) (o27_40 e_5 e_6 e_7 c_8) dX11_walk_45 ?_
      obtain ⟨i_19, hi_19, ei_19⟩ : ∃ j : Nat, Kd (SC tt) j 42 ∧ j = 107 + 2 * a1.toInt.toNat := ⟨_, aSC_44 (o27_41 e_5 e_6 e_7 c_8), rfl⟩
      rw [← ei_19]
      refine y_ci h (y_rV (As := [.ref (ad i_19)]) (rest := []) C0 hZ h (c_X11_goWalk l G Z ad _ h.2 i_19 hi_19 (Rel.fr (M := [6, 7, 8, 9, 10, 11, 12, 13]) hR (Fr.tr (Fr.mono u_2 (by decide)) u_16) (by decide) (by decide))) k_X11_goWalk q_1002 q_28 q_1000 kSC_0 rfl rfl rfl hl.1 rfl rfl (Nat.le_of_ble_eq_true rfl) dX11_walk_46 ⟨Nat.le_of_ble_eq_true rfl, Nat.le_of_ble_eq_true rfl⟩ ⟨Nat.le_of_ble_eq_true rfl, Nat.le_of_ble_eq_true rfl⟩) (fun r_23 H locs ws_20 h u_21 p_22 => ?_)
      refine lv_istore_n (lv' := [(2, .int r_23), (0, .ref (ad 0)), (1, .int a1)]) C0.1 C0.2.1 dX11_walk_49 rfl hl (by decide) rfl (fun ls hl => ?_)
      refine lv_iload_n C0.1 C0.2.1 dX11_walk_50 rfl (lv_at hl 0 rfl) ?_
      refine y_if_le (tgt := 69) C0 dX11_walk_51 (by decide) (fun c_24 => ?_) (fun c_24 => ?_)
      · -- 51
        refine lv_iload_n C0.1 C0.2.1 dX11_walk_69 rfl (lv_at hl 0 rfl) ?_
        rw [hQ]
        exact y_iret C0 h (Fr.tr (Fr.tr (Fr.mono u_2 (by decide)) (Fr.mono u_16 (by decide))) (Fr.mono u_21 (by decide))) ⟨(Rel.fr (M := [4, 5, 6, 7, 8, 9, 10, 11, 12, 13, 48]) hR (Fr.tr (Fr.tr (Fr.mono u_2 (by decide)) (Fr.mono u_16 (by decide))) (Fr.mono u_21 (by decide))) (by decide) (by decide)), (Hok.fr (M := [4, 5, 6, 7, 8, 9, 10, 11, 12, 13, 48]) hH (Fr.tr (Fr.tr (Fr.mono u_2 (by decide)) (Fr.mono u_16 (by decide))) (Fr.mono u_21 (by decide))) (by decide))⟩ dX11_walk_70
      · -- 51
        refine lv_aload_n C0.1 C0.2.1 dX11_walk_54 rfl (lv_at hl 1 rfl) ?_
        refine lv_aload_n C0.1 C0.2.1 dX11_walk_55 rfl (lv_at hl 1 rfl) ?_
        refine tg_X11_before C0 h kSC_0 q_528 dX11_walk_56 ?_
        refine y_cv h (y_rV (As := [.ref (ad 199)]) (rest := []) C0 hZ h (c_X11_keep l G Z ad _ h.2 199 kSC_199) k_X11_keep q_985 q_27 q_983 kSC_0 rfl rfl rfl hl.1 rfl rfl (Nat.le_of_ble_eq_true rfl) dX11_walk_59 ⟨Nat.le_of_ble_eq_true rfl, Nat.le_of_ble_eq_true rfl⟩ ⟨Nat.le_of_ble_eq_true rfl, Nat.le_of_ble_eq_true rfl⟩) (fun H locs ws_25 h u_26 p_27 => ?_)
        have e_28 := p_27
        refine lv_aload_n C0.1 C0.2.1 dX11_walk_62 rfl (lv_at hl 1 rfl) ?_
        refine tg_X11_forecast C0 h kSC_0 q_518 dX11_walk_63 ?_
        refine y_cv h (y_rV (As := []) (rest := []) C0 hZ h (c_X2_forget l G Z ad _ h.2) k_X2_forget q_878 q_879 q_877 kSC_79 rfl rfl rfl hl.1 rfl rfl (Nat.le_of_ble_eq_true rfl) dX11_walk_66 ⟨Nat.le_of_ble_eq_true rfl, Nat.le_of_ble_eq_true rfl⟩ ⟨Nat.le_of_ble_eq_true rfl, Nat.le_of_ble_eq_true rfl⟩) (fun H locs ws_29 h u_30 p_31 => ?_)
        refine lv_iload_n C0.1 C0.2.1 dX11_walk_69 rfl (lv_at hl 0 rfl) ?_
        rw [hQ]
        exact y_iret C0 h (Fr.tr (Fr.tr (Fr.tr (Fr.tr (Fr.mono u_2 (by decide)) (Fr.mono u_16 (by decide))) (Fr.mono u_21 (by decide))) (Fr.mono u_26 (by decide))) (Fr.mono u_30 (by decide))) ⟨(Rel.fr (M := [0, 4, 5, 6, 7, 8, 9, 10, 11, 12, 13, 18, 48]) hR (Fr.tr (Fr.tr (Fr.tr (Fr.tr (Fr.mono u_2 (by decide)) (Fr.mono u_16 (by decide))) (Fr.mono u_21 (by decide))) (Fr.mono u_26 (by decide))) (Fr.mono u_30 (by decide))) (by decide) (by decide)), (Hok.fr (M := [0, 4, 5, 6, 7, 8, 9, 10, 11, 12, 13, 18, 48]) hH (Fr.tr (Fr.tr (Fr.tr (Fr.tr (Fr.mono u_2 (by decide)) (Fr.mono u_16 (by decide))) (Fr.mono u_21 (by decide))) (Fr.mono u_26 (by decide))) (Fr.mono u_30 (by decide))) (by decide))⟩ dX11_walk_70
    · -- 19
      refine y_c2 (n := (-6)) C0 (by decide) dX11_walk_22 (fun v_32 e_33 => ?_)
      rw [hQ]
      exact y_iret C0 h (Fr.mono u_2 (by decide)) ⟨(Rel.fr (M := []) hR u_2 (by decide) (by decide)), (Hok.fr (M := []) hH u_2 (by decide))⟩ dX11_walk_24
  · -- 4
    refine y_c2 (n := (-2)) C0 (by decide) dX11_walk_7 (fun v_34 e_35 => ?_)
    rw [hQ]
    exact y_iret C0 h (Fr.mono u_2 (by decide)) ⟨(Rel.fr (M := []) hR u_2 (by decide) (by decide)), (Hok.fr (M := []) hH u_2 (by decide))⟩ dX11_walk_9
set_option maxHeartbeats 4000000 in
set_option maxRecDepth 100000 in
theorem c_X11_buy (l : Launch) (G : GG) (Z : RZ) (ad : Nat → Nat) (ws0 : va_W) (hT : Ty G (SC tt) ad ws0) (a1 : Int32) (a2 : Int32) (hR : Rel ws0) (hH : Hok ws0) : Mq l yX11_buy cX11_buy 5 (some .int) 4 G Z [.ref (ad 0), .int a1, .int a2] ws0 (PI G (SC tt) ad [0, 4, 5, 6, 7, 8, 9, 10, 11, 12, 13, 18] ws0 (fun r u => (Rel u) ∧ (Hok u))) := by
  refine Mq.start (by decide) (Nat.le_of_ble_eq_true rfl) ?_
  intro p e s m below meth c A ls C0 hZ h hl
  have hl : lv_has ls 5 [(0, .ref (ad 0)), (1, .int a1), (2, .int a2)] := hl
  have h : Wt G (SC tt) ad A s s.heap [] ws0 := ⟨h, hT⟩
  obtain ⟨args, hargs⟩ : ∃ z, z = ([.ref (ad 0), .int a1, .int a2] : List Value).toArray := ⟨_, rfl⟩
  rw [← hargs] at C0 ⊢
  have C0 : Cx p s m args meth c RX11 cX11_buy 5 (some .int) := C0
  obtain ⟨Q, hQ⟩ : ∃ z, z = MQ below ((PI G (SC tt) ad [0, 4, 5, 6, 7, 8, 9, 10, 11, 12, 13, 18] ws0 (fun r u => (Rel u) ∧ (Hok u))) A) args s 0 0 A := ⟨_, rfl⟩
  rw [← hQ]
  refine lv_aload_n C0.1 C0.2.1 dX11_buy_0 rfl (lv_at hl 0 rfl) ?_
  refine lv_iload_n C0.1 C0.2.1 dX11_buy_1 rfl (lv_at hl 1 rfl) ?_
  refine y_ci h (y_rV (As := [.int a1]) (rest := []) C0 hZ h (c_X11_isPerson l G Z ad _ h.2 a1) k_X11_isPerson q_903 q_23 q_901 kSC_0 rfl rfl rfl hl.1 rfl rfl (Nat.le_of_ble_eq_true rfl) dX11_buy_2 ⟨Nat.le_of_ble_eq_true rfl, Nat.le_of_ble_eq_true rfl⟩ ⟨Nat.le_of_ble_eq_true rfl, Nat.le_of_ble_eq_true rfl⟩) (fun r_4 H locs ws_1 h u_2 p_3 => ?_)
  obtain ⟨e_5, e_6, e_7⟩ := p_3
  refine y_if_ne (tgt := 11) C0 dX11_buy_5 (by decide) (fun c_8 => ?_) (fun c_8 => ?_)
  · -- 5
    refine lv_iload_n C0.1 C0.2.1 dX11_buy_11 rfl (lv_at hl 2 rfl) ?_
    refine y_c1 (n := 1) C0 (by decide) dX11_buy_12 (fun v_9 e_10 => ?_)
    refine y_icmp_lt (tgt := 22) C0 dX11_buy_13 (by decide) (fun c_11 => ?_) (fun c_11 => ?_)
    · -- 13
      refine y_c2 (n := (-3)) C0 (by decide) dX11_buy_22 (fun v_12 e_13 => ?_)
      rw [hQ]
      exact y_iret C0 h (Fr.mono u_2 (by decide)) ⟨(Rel.fr (M := []) hR u_2 (by decide) (by decide)), (Hok.fr (M := []) hH u_2 (by decide))⟩ dX11_buy_24
    · -- 13
      refine lv_iload_n C0.1 C0.2.1 dX11_buy_16 rfl (lv_at hl 2 rfl) ?_
      refine y_c2 (n := 20) C0 (by decide) dX11_buy_17 (fun v_14 e_15 => ?_)
      refine y_icmp_le (tgt := 25) C0 dX11_buy_19 (by decide) (fun c_16 => ?_) (fun c_16 => ?_)
      · -- 19
        refine y_c1 (n := 0) C0 (by decide) dX11_buy_25 (fun v_17 e_18 => ?_)
        refine lv_istore_n (lv' := [(3, .int v_17), (0, .ref (ad 0)), (1, .int a1), (2, .int a2)]) C0.1 C0.2.1 dX11_buy_26 rfl hl (by decide) rfl (fun ls hl => ?_)
        refine y_c1 (n := 0) C0 (by decide) dX11_buy_27 (fun v_19 e_20 => ?_)
        refine lv_istore (lv' := [(4, .int v_19), (3, .int v_17), (0, .ref (ad 0)), (1, .int a1), (2, .int a2)]) C0.1 C0.2.1 dX11_buy_28 hl (by decide) rfl (fun ls hl => ?_)
        have lp_25 : ∀ (n_27 : Nat) (x4_21 : Int32) (x3_22 : Int32) (H : Heap) (locs : List Loc) (ls : Array Slot) (ws_23 : va_W), 20 - x4_21.toInt < (n_27 : Int) → 0 ≤ x4_21.toInt → x4_21.toInt ≤ 20 → Wt G (SC tt) ad A s H locs ws_23 → Fr (SC tt) [4, 5] ws_1 ws_23 → lv_has ls 5 [(4, .int x4_21), (3, .int x3_22), (0, .ref (ad 0)), (1, .int a1), (2, .int a2)] → W p l e (rmd 4 0 0) s m args below meth c H locs 0 0 Q (F0 m 30 ls []) := by
          intro n_27
          induction n_27 with
          | zero => intro x4_21 x3_22 H locs ls ws_23 hn_28 b_29 b_30 h hF_24 hl; exact ((o27_44 b_29 b_30 hn_28)).elim
          | succ n_27 ih_26 =>
            intro x4_21 x3_22 H locs ls ws_23 hn_28 b_29 b_30 h hF_24 hl
            refine lv_iload C0.1 C0.2.1 dX11_buy_30 (lv_at hl 0 rfl) ?_
            refine lv_iload_n C0.1 C0.2.1 dX11_buy_32 rfl (lv_at hl 4 rfl) ?_
            refine y_icmp_ge (tgt := 55) C0 dX11_buy_33 (by decide) (fun c_31 => ?_) (fun c_31 => ?_)
            · -- 33
              refine lv_aload_n C0.1 C0.2.1 dX11_buy_55 rfl (lv_at hl 2 rfl) ?_
              refine tg_X11_now C0 h kSC_0 q_515 dX11_buy_56 ?_
              refine tg_X0_folk C0 h kSC_1 q_249 dX11_buy_59 ?_
              refine lv_astore (lv' := [(4, .ref (ad 10)), (3, .int x3_22), (0, .ref (ad 0)), (1, .int a1), (2, .int a2)]) C0.1 C0.2.1 dX11_buy_62 hl (by decide) rfl (fun ls hl => ?_)
              refine lv_iload_n C0.1 C0.2.1 dX11_buy_64 rfl (lv_at hl 1 rfl) ?_
              refine lv_aload C0.1 C0.2.1 dX11_buy_65 (lv_at hl 0 rfl) ?_
              refine tg_X1_coins C0 h kSC_10 q_200 dX11_buy_67 ?_
              refine lv_iload_n C0.1 C0.2.1 dX11_buy_70 rfl (lv_at hl 3 rfl) ?_
              refine y_iald C0 h kSC_14 rfl (by decide) (o27_7 e_5 e_6 e_7 c_8) (o27_8 e_5 e_6 e_7 c_8) dX11_buy_71 (fun v_32 e_33 e_34 e_35 => ?_)
              refine y_icmp_le (tgt := 78) C0 dX11_buy_72 (by decide) (fun c_36 => ?_) (fun c_36 => ?_)
              · -- 72
                refine lv_aload C0.1 C0.2.1 dX11_buy_78 (lv_at hl 0 rfl) ?_
                refine tg_X1_lefts C0 h kSC_10 q_197 dX11_buy_80 ?_
                refine lv_iload_n C0.1 C0.2.1 dX11_buy_83 rfl (lv_at hl 3 rfl) ?_
                refine y_iald C0 h kSC_13 rfl (by decide) (o27_7 e_5 e_6 e_7 c_8) (o27_8 e_5 e_6 e_7 c_8) dX11_buy_84 (fun v_37 e_38 e_39 e_40 => ?_)
                refine lv_iload_n C0.1 C0.2.1 dX11_buy_85 rfl (lv_at hl 4 rfl) ?_
                refine y_iaddU C0 dX11_buy_86 (fun v_41 => ?_)
                refine y_c2 (n := 99) C0 (by decide) dX11_buy_87 (fun v_42 e_43 => ?_)
                refine y_icmp_le (tgt := 95) C0 dX11_buy_89 (by decide) (fun c_44 => ?_) (fun c_44 => ?_)
                · -- 89
                  refine lv_aload_n C0.1 C0.2.1 dX11_buy_95 rfl (lv_at hl 2 rfl) ?_
                  refine lv_aload C0.1 C0.2.1 dX11_buy_96 (lv_at hl 0 rfl) ?_
                  refine y_cv h (y_rV (As := [.ref (ad 10)]) (rest := []) C0 hZ h (c_X11_keep l G Z ad _ h.2 10 kSC_10) k_X11_keep q_985 q_27 q_983 kSC_0 rfl rfl rfl hl.1 rfl rfl (Nat.le_of_ble_eq_true rfl) dX11_buy_98 ⟨Nat.le_of_ble_eq_true rfl, Nat.le_of_ble_eq_true rfl⟩ ⟨Nat.le_of_ble_eq_true rfl, Nat.le_of_ble_eq_true rfl⟩) (fun H locs ws_45 h u_46 p_47 => ?_)
                  have e_48 := p_47
                  refine lv_aload C0.1 C0.2.1 dX11_buy_101 (lv_at hl 0 rfl) ?_
                  refine tg_X1_coins C0 h kSC_10 q_200 dX11_buy_103 ?_
                  refine lv_iload_n C0.1 C0.2.1 dX11_buy_106 rfl (lv_at hl 3 rfl) ?_
                  refine lv_dup2_11 C0.1 C0.2.1 dX11_buy_107 rfl rfl ?_
                  refine y_iald C0 h kSC_14 rfl (by decide) (o27_7 e_5 e_6 e_7 c_8) (o27_8 e_5 e_6 e_7 c_8) dX11_buy_108 (fun v_49 e_50 e_51 e_52 => ?_)
                  refine lv_iload_n C0.1 C0.2.1 dX11_buy_109 rfl (lv_at hl 1 rfl) ?_
                  refine y_isubU C0 dX11_buy_110 (fun v_53 => ?_)
                  refine y_iast C0 h kSC_14 rfl (by decide) (o27_7 e_5 e_6 e_7 c_8) (o27_8 e_5 e_6 e_7 c_8) (le_min v_53) (le_max v_53) dX11_buy_111 (fun H locs ws_54 h u_55 => ?_)
                  refine lv_aload C0.1 C0.2.1 dX11_buy_112 (lv_at hl 0 rfl) ?_
                  refine tg_X1_lefts C0 h kSC_10 q_197 dX11_buy_114 ?_
                  refine lv_iload_n C0.1 C0.2.1 dX11_buy_117 rfl (lv_at hl 3 rfl) ?_
                  refine lv_dup2_11 C0.1 C0.2.1 dX11_buy_118 rfl rfl ?_
                  refine y_iald C0 h kSC_13 rfl (by decide) (o27_7 e_5 e_6 e_7 c_8) (o27_8 e_5 e_6 e_7 c_8) dX11_buy_119 (fun v_56 e_57 e_58 e_59 => ?_)
                  refine lv_iload_n C0.1 C0.2.1 dX11_buy_120 rfl (lv_at hl 4 rfl) ?_
                  refine y_iaddU C0 dX11_buy_121 (fun v_60 => ?_)
                  refine y_iast C0 h kSC_13 rfl (by decide) (o27_7 e_5 e_6 e_7 c_8) (o27_8 e_5 e_6 e_7 c_8) (le_min v_60) (le_max v_60) dX11_buy_122 (fun H locs ws_61 h u_62 => ?_)
                  refine lv_aload C0.1 C0.2.1 dX11_buy_123 (lv_at hl 0 rfl) ?_
                  refine tg_X1_sold C0 h kSC_10 q_208 dX11_buy_125 ?_
                  refine lv_aload C0.1 C0.2.1 dX11_buy_128 (lv_at hl 0 rfl) ?_
                  refine tg_X1_at C0 h kSC_10 q_191 dX11_buy_130 ?_
                  refine lv_iload_n C0.1 C0.2.1 dX11_buy_133 rfl (lv_at hl 3 rfl) ?_
                  refine y_iald C0 h kSC_11 rfl (by decide) (o27_7 e_5 e_6 e_7 c_8) (o27_8 e_5 e_6 e_7 c_8) dX11_buy_134 (fun v_63 e_64 e_65 e_66 => ?_)
                  refine lv_dup2_11 C0.1 C0.2.1 dX11_buy_135 rfl rfl ?_
                  refine y_iald C0 h kSC_16 rfl (by decide) (o27_45 e_65 e_66) (o27_46 e_65 e_66) dX11_buy_136 (fun v_67 e_68 e_69 e_70 => ?_)
                  refine lv_iload_n C0.1 C0.2.1 dX11_buy_137 rfl (lv_at hl 4 rfl) ?_
                  refine y_iaddU C0 dX11_buy_138 (fun v_71 => ?_)
                  refine y_iast C0 h kSC_16 rfl (by decide) (o27_45 e_65 e_66) (o27_46 e_65 e_66) (le_min v_71) (le_max v_71) dX11_buy_139 (fun H locs ws_72 h u_73 => ?_)
                  refine lv_aload_n C0.1 C0.2.1 dX11_buy_140 rfl (lv_at hl 2 rfl) ?_
                  refine tg_X11_forecast C0 h kSC_0 q_518 dX11_buy_141 ?_
                  refine y_cv h (y_rV (As := []) (rest := []) C0 hZ h (c_X2_forget l G Z ad _ h.2) k_X2_forget q_878 q_879 q_877 kSC_79 rfl rfl rfl hl.1 rfl rfl (Nat.le_of_ble_eq_true rfl) dX11_buy_144 ⟨Nat.le_of_ble_eq_true rfl, Nat.le_of_ble_eq_true rfl⟩ ⟨Nat.le_of_ble_eq_true rfl, Nat.le_of_ble_eq_true rfl⟩) (fun H locs ws_74 h u_75 p_76 => ?_)
                  refine lv_iload_n C0.1 C0.2.1 dX11_buy_147 rfl (lv_at hl 1 rfl) ?_
                  rw [hQ]
                  exact y_iret C0 h (Fr.tr (Fr.tr (Fr.tr (Fr.tr (Fr.tr (Fr.tr (Fr.mono u_2 (by decide)) (Fr.mono hF_24 (by decide))) (Fr.mono u_46 (by decide))) (Fr.up u_55.1 kSC_14 (by decide))) (Fr.up u_62.1 kSC_13 (by decide))) (Fr.up u_73.1 kSC_16 (by decide))) (Fr.mono u_75 (by decide))) ⟨(Rel.fr (M := [0, 4, 5, 6, 7, 8, 9, 10, 11, 12, 13, 18]) hR (Fr.tr (Fr.tr (Fr.tr (Fr.tr (Fr.tr (Fr.tr (Fr.mono u_2 (by decide)) (Fr.mono hF_24 (by decide))) (Fr.mono u_46 (by decide))) (Fr.up u_55.1 kSC_14 (by decide))) (Fr.up u_62.1 kSC_13 (by decide))) (Fr.up u_73.1 kSC_16 (by decide))) (Fr.mono u_75 (by decide))) (by decide) (by decide)), (Hok.fr (M := [0, 4, 5, 6, 7, 8, 9, 10, 11, 12, 13, 18]) hH (Fr.tr (Fr.tr (Fr.tr (Fr.tr (Fr.tr (Fr.tr (Fr.mono u_2 (by decide)) (Fr.mono hF_24 (by decide))) (Fr.mono u_46 (by decide))) (Fr.up u_55.1 kSC_14 (by decide))) (Fr.up u_62.1 kSC_13 (by decide))) (Fr.up u_73.1 kSC_16 (by decide))) (Fr.mono u_75 (by decide))) (by decide))⟩ dX11_buy_148
                · -- 89
                  refine y_c2 (n := (-4)) C0 (by decide) dX11_buy_92 (fun v_77 e_78 => ?_)
                  rw [hQ]
                  exact y_iret C0 h (Fr.tr (Fr.mono u_2 (by decide)) (Fr.mono hF_24 (by decide))) ⟨(Rel.fr (M := [4, 5]) hR (Fr.tr (Fr.mono u_2 (by decide)) hF_24) (by decide) (by decide)), (Hok.fr (M := [4, 5]) hH (Fr.tr (Fr.mono u_2 (by decide)) hF_24) (by decide))⟩ dX11_buy_94
              · -- 72
                refine y_c2 (n := (-5)) C0 (by decide) dX11_buy_75 (fun v_79 e_80 => ?_)
                rw [hQ]
                exact y_iret C0 h (Fr.tr (Fr.mono u_2 (by decide)) (Fr.mono hF_24 (by decide))) ⟨(Rel.fr (M := [4, 5]) hR (Fr.tr (Fr.mono u_2 (by decide)) hF_24) (by decide) (by decide)), (Hok.fr (M := [4, 5]) hH (Fr.tr (Fr.mono u_2 (by decide)) hF_24) (by decide))⟩ dX11_buy_77
            · -- 33
              refine lv_iload_n C0.1 C0.2.1 dX11_buy_36 rfl (lv_at hl 1 rfl) ?_
              refine lv_aload_n C0.1 C0.2.1 dX11_buy_37 rfl (lv_at hl 2 rfl) ?_
              refine tg_X11_now C0 h kSC_0 q_515 dX11_buy_38 ?_
              refine lv_iload_n C0.1 C0.2.1 dX11_buy_41 rfl (lv_at hl 3 rfl) ?_
              refine lv_iload C0.1 C0.2.1 dX11_buy_42 (lv_at hl 0 rfl) ?_
              refine y_ci h (y_rV (As := [.int a1, .int x4_21]) (rest := [.int x3_22]) C0 hZ h (c_X0_costTo l G Z ad _ h.2 1 kSC_1 a1 x4_21 (o27_7 e_5 e_6 e_7 c_8) (o27_47 e_5 e_6 e_7 c_8)) k_X0_costTo q_1017 q_1018 q_1016 kSC_1 rfl rfl rfl hl.1 rfl rfl (Nat.le_of_ble_eq_true rfl) dX11_buy_44 ⟨Nat.le_of_ble_eq_true rfl, Nat.le_of_ble_eq_true rfl⟩ ⟨Nat.le_of_ble_eq_true rfl, Nat.le_of_ble_eq_true rfl⟩) (fun r_84 H locs ws_81 h u_82 p_83 => ?_)
              have e_85 := p_83
              refine y_iaddU C0 dX11_buy_47 (fun v_86 => ?_)
              refine lv_istore_n (lv' := [(3, .int v_86), (4, .int x4_21), (0, .ref (ad 0)), (1, .int a1), (2, .int a2)]) C0.1 C0.2.1 dX11_buy_48 rfl hl (by decide) rfl (fun ls hl => ?_)
              refine y_inc (kp := 1) (n := 1) (fun v_87 => [(4, .int v_87), (3, .int v_86), (0, .ref (ad 0)), (1, .int a1), (2, .int a2)]) C0 hl rfl (by decide) (by decide) (fun _ => rfl) (o27_48 e_10 c_11 e_15 c_16 b_29 b_30 hn_28 c_31 (le_min x4_21) (le_max x4_21) (le_min v_9) (le_max v_9) (le_min a2) (le_max a2) (le_min v_14) (le_max v_14)) (o27_49 e_10 c_11 e_15 c_16 b_29 b_30 hn_28 c_31 (le_min x4_21) (le_max x4_21) (le_min v_9) (le_max v_9) (le_min a2) (le_max a2) (le_min v_14) (le_max v_14)) dX11_buy_49 (fun v_87 ls e_88 hl => ?_)
              refine lv_goto (tgt := 30) C0.1 C0.2.1 dX11_buy_52 (by decide) ?_
              exact ih_26 v_87 v_86 _ _ _ _ (o27_50 e_10 c_11 e_15 c_16 b_29 b_30 hn_28 c_31 e_88) (o27_51 e_10 c_11 e_15 c_16 b_29 b_30 hn_28 c_31 e_88) (o27_52 e_10 c_11 e_15 c_16 b_29 b_30 hn_28 c_31 e_88) h (Fr.tr hF_24 u_82) (lv_sub hl [0, 1, 2, 3, 4] rfl)
        exact lp_25 ((20 - v_19.toInt + 1).toNat) v_19 v_17 _ _ _ _ (o27_53 e_20) (o27_54 e_20) (o27_55 e_20) h Fr.rf (lv_sub hl [0, 1, 2, 3, 4] rfl)
      · -- 19
        refine y_c2 (n := (-3)) C0 (by decide) dX11_buy_22 (fun v_89 e_90 => ?_)
        rw [hQ]
        exact y_iret C0 h (Fr.mono u_2 (by decide)) ⟨(Rel.fr (M := []) hR u_2 (by decide) (by decide)), (Hok.fr (M := []) hH u_2 (by decide))⟩ dX11_buy_24
  · -- 5
    refine y_c2 (n := (-2)) C0 (by decide) dX11_buy_8 (fun v_91 e_92 => ?_)
    rw [hQ]
    exact y_iret C0 h (Fr.mono u_2 (by decide)) ⟨(Rel.fr (M := []) hR u_2 (by decide) (by decide)), (Hok.fr (M := []) hH u_2 (by decide))⟩ dX11_buy_10
set_option maxHeartbeats 4000000 in
set_option maxRecDepth 100000 in
theorem c_X11_sell (l : Launch) (G : GG) (Z : RZ) (ad : Nat → Nat) (ws0 : va_W) (hT : Ty G (SC tt) ad ws0) (a1 : Int32) (hR : Rel ws0) (hH : Hok ws0) : Mq l yX11_sell cX11_sell 4 (some .int) 4 G Z [.ref (ad 0), .int a1] ws0 (PI G (SC tt) ad [0, 4, 5, 6, 7, 8, 9, 10, 11, 12, 13] ws0 (fun r u => (Rel u) ∧ (Hok u))) := by
  refine Mq.start (by decide) (Nat.le_of_ble_eq_true rfl) ?_
  intro p e s m below meth c A ls C0 hZ h hl
  have hl : lv_has ls 4 [(0, .ref (ad 0)), (1, .int a1)] := hl
  have h : Wt G (SC tt) ad A s s.heap [] ws0 := ⟨h, hT⟩
  obtain ⟨args, hargs⟩ : ∃ z, z = ([.ref (ad 0), .int a1] : List Value).toArray := ⟨_, rfl⟩
  rw [← hargs] at C0 ⊢
  have C0 : Cx p s m args meth c RX11 cX11_sell 4 (some .int) := C0
  obtain ⟨Q, hQ⟩ : ∃ z, z = MQ below ((PI G (SC tt) ad [0, 4, 5, 6, 7, 8, 9, 10, 11, 12, 13] ws0 (fun r u => (Rel u) ∧ (Hok u))) A) args s 0 0 A := ⟨_, rfl⟩
  rw [← hQ]
  refine lv_aload_n C0.1 C0.2.1 dX11_sell_0 rfl (lv_at hl 0 rfl) ?_
  refine lv_iload_n C0.1 C0.2.1 dX11_sell_1 rfl (lv_at hl 1 rfl) ?_
  refine y_ci h (y_rV (As := [.int a1]) (rest := []) C0 hZ h (c_X11_isPerson l G Z ad _ h.2 a1) k_X11_isPerson q_903 q_23 q_901 kSC_0 rfl rfl rfl hl.1 rfl rfl (Nat.le_of_ble_eq_true rfl) dX11_sell_2 ⟨Nat.le_of_ble_eq_true rfl, Nat.le_of_ble_eq_true rfl⟩ ⟨Nat.le_of_ble_eq_true rfl, Nat.le_of_ble_eq_true rfl⟩) (fun r_4 H locs ws_1 h u_2 p_3 => ?_)
  obtain ⟨e_5, e_6, e_7⟩ := p_3
  refine y_if_ne (tgt := 11) C0 dX11_sell_5 (by decide) (fun c_8 => ?_) (fun c_8 => ?_)
  · -- 5
    refine lv_aload_n C0.1 C0.2.1 dX11_sell_11 rfl (lv_at hl 0 rfl) ?_
    refine tg_X11_now C0 h kSC_0 q_515 dX11_sell_12 ?_
    refine tg_X0_folk C0 h kSC_1 q_249 dX11_sell_15 ?_
    refine lv_astore_n (lv' := [(2, .ref (ad 10)), (0, .ref (ad 0)), (1, .int a1)]) C0.1 C0.2.1 dX11_sell_18 rfl hl (by decide) rfl (fun ls hl => ?_)
    refine lv_aload_n C0.1 C0.2.1 dX11_sell_19 rfl (lv_at hl 0 rfl) ?_
    refine tg_X1_used C0 h kSC_10 q_203 dX11_sell_20 ?_
    refine lv_iload_n C0.1 C0.2.1 dX11_sell_23 rfl (lv_at hl 2 rfl) ?_
    refine y_iald C0 h kSC_15 rfl (by decide) (o27_7 e_5 e_6 e_7 c_8) (o27_8 e_5 e_6 e_7 c_8) dX11_sell_24 (fun v_9 e_10 e_11 e_12 => ?_)
    refine y_if_ne (tgt := 31) C0 dX11_sell_25 (by decide) (fun c_13 => ?_) (fun c_13 => ?_)
    · -- 25
      refine lv_aload_n C0.1 C0.2.1 dX11_sell_31 rfl (lv_at hl 1 rfl) ?_
      refine lv_aload_n C0.1 C0.2.1 dX11_sell_32 rfl (lv_at hl 0 rfl) ?_
      refine y_cv h (y_rV (As := [.ref (ad 10)]) (rest := []) C0 hZ h (c_X11_keep l G Z ad _ h.2 10 kSC_10) k_X11_keep q_985 q_27 q_983 kSC_0 rfl rfl rfl hl.1 rfl rfl (Nat.le_of_ble_eq_true rfl) dX11_sell_33 ⟨Nat.le_of_ble_eq_true rfl, Nat.le_of_ble_eq_true rfl⟩ ⟨Nat.le_of_ble_eq_true rfl, Nat.le_of_ble_eq_true rfl⟩) (fun H locs ws_14 h u_15 p_16 => ?_)
      have e_17 := p_16
      refine lv_aload_n C0.1 C0.2.1 dX11_sell_36 rfl (lv_at hl 0 rfl) ?_
      refine tg_X1_used C0 h kSC_10 q_203 dX11_sell_37 ?_
      refine lv_iload_n C0.1 C0.2.1 dX11_sell_40 rfl (lv_at hl 2 rfl) ?_
      refine y_iald C0 h kSC_15 rfl (by decide) (o27_7 e_5 e_6 e_7 c_8) (o27_8 e_5 e_6 e_7 c_8) dX11_sell_41 (fun v_18 e_19 e_20 e_21 => ?_)
      refine lv_aload_n C0.1 C0.2.1 dX11_sell_42 rfl (lv_at hl 1 rfl) ?_
      refine tg_X11_now C0 h kSC_0 q_515 dX11_sell_43 ?_
      refine lv_iload_n C0.1 C0.2.1 dX11_sell_46 rfl (lv_at hl 2 rfl) ?_
      refine y_c1 (n := 0) C0 (by decide) dX11_sell_47 (fun v_22 e_23 => ?_)
      refine y_ci h (y_rV (As := [.int a1, .int v_22]) (rest := [.int v_18]) C0 hZ h (c_X0_costTo l G Z ad _ h.2 1 kSC_1 a1 v_22 (o27_7 e_5 e_6 e_7 c_8) (o27_47 e_5 e_6 e_7 c_8)) k_X0_costTo q_1017 q_1018 q_1016 kSC_1 rfl rfl rfl hl.1 rfl rfl (Nat.le_of_ble_eq_true rfl) dX11_sell_48 ⟨Nat.le_of_ble_eq_true rfl, Nat.le_of_ble_eq_true rfl⟩ ⟨Nat.le_of_ble_eq_true rfl, Nat.le_of_ble_eq_true rfl⟩) (fun r_27 H locs ws_24 h u_25 p_26 => ?_)
      have e_28 := p_26
      refine y_c1 (n := 3) C0 (by decide) dX11_sell_51 (fun v_29 e_30 => ?_)
      refine y_divc (n := 3) C0 (o27_56 e_30) (by decide) (o27_57 e_28) dX11_sell_52 (fun v_31 e_32 => ?_)
      refine y_imulU C0 dX11_sell_53 (fun v_33 => ?_)
      refine lv_istore_n (lv' := [(3, .int v_33), (2, .ref (ad 10)), (0, .ref (ad 0)), (1, .int a1)]) C0.1 C0.2.1 dX11_sell_54 rfl hl (by decide) rfl (fun ls hl => ?_)
      refine lv_aload_n C0.1 C0.2.1 dX11_sell_55 rfl (lv_at hl 1 rfl) ?_
      refine tg_X1_coins C0 h kSC_10 q_200 dX11_sell_56 ?_
      refine lv_iload_n C0.1 C0.2.1 dX11_sell_59 rfl (lv_at hl 3 rfl) ?_
      refine y_c3 (n := 9999) C0 (by decide) dX11_sell_60 (fun v_34 e_35 => ?_)
      refine lv_aload_n C0.1 C0.2.1 dX11_sell_63 rfl (lv_at hl 1 rfl) ?_
      refine tg_X1_coins C0 h kSC_10 q_200 dX11_sell_64 ?_
      refine lv_iload_n C0.1 C0.2.1 dX11_sell_67 rfl (lv_at hl 3 rfl) ?_
      refine y_iald C0 h kSC_14 rfl (by decide) (o27_7 e_5 e_6 e_7 c_8) (o27_8 e_5 e_6 e_7 c_8) dX11_sell_68 (fun v_36 e_37 e_38 e_39 => ?_)
      refine lv_iload_n C0.1 C0.2.1 dX11_sell_69 rfl (lv_at hl 0 rfl) ?_
      refine y_iaddU C0 dX11_sell_70 (fun v_40 => ?_)
      refine y_min C0 hl.1 q_1025 q_663 q_141 q_664 (Nat.le_of_ble_eq_true rfl) (Nat.le_of_ble_eq_true rfl) (Nat.le_of_ble_eq_true rfl) (Nat.le_of_ble_eq_true rfl) dX11_sell_71 (fun v_41 e_42 => ?_)
      refine y_iast C0 h kSC_14 rfl (by decide) (o27_7 e_5 e_6 e_7 c_8) (o27_8 e_5 e_6 e_7 c_8) (le_min v_41) (le_max v_41) dX11_sell_74 (fun H locs ws_43 h u_44 => ?_)
      refine lv_aload_n C0.1 C0.2.1 dX11_sell_75 rfl (lv_at hl 1 rfl) ?_
      refine tg_X1_used C0 h kSC_10 q_203 dX11_sell_76 ?_
      refine lv_iload_n C0.1 C0.2.1 dX11_sell_79 rfl (lv_at hl 3 rfl) ?_
      refine y_c1 (n := 0) C0 (by decide) dX11_sell_80 (fun v_45 e_46 => ?_)
      refine y_iast C0 h kSC_15 rfl (by decide) (o27_7 e_5 e_6 e_7 c_8) (o27_8 e_5 e_6 e_7 c_8) (le_min v_45) (le_max v_45) dX11_sell_81 (fun H locs ws_47 h u_48 => ?_)
      refine lv_iload_n C0.1 C0.2.1 dX11_sell_82 rfl (lv_at hl 0 rfl) ?_
      rw [hQ]
      exact y_iret C0 h (Fr.tr (Fr.tr (Fr.tr (Fr.tr (Fr.mono u_2 (by decide)) (Fr.mono u_15 (by decide))) (Fr.mono u_25 (by decide))) (Fr.up u_44.1 kSC_14 (by decide))) (Fr.up u_48.1 kSC_15 (by decide))) ⟨(Rel.fr (M := [0, 4, 5, 6, 7, 8, 9, 10, 11, 12, 13]) hR (Fr.tr (Fr.tr (Fr.tr (Fr.tr (Fr.mono u_2 (by decide)) (Fr.mono u_15 (by decide))) (Fr.mono u_25 (by decide))) (Fr.up u_44.1 kSC_14 (by decide))) (Fr.up u_48.1 kSC_15 (by decide))) (by decide) (by decide)), (Hok.fr (M := [0, 4, 5, 6, 7, 8, 9, 10, 11, 12, 13]) hH (Fr.tr (Fr.tr (Fr.tr (Fr.tr (Fr.mono u_2 (by decide)) (Fr.mono u_15 (by decide))) (Fr.mono u_25 (by decide))) (Fr.up u_44.1 kSC_14 (by decide))) (Fr.up u_48.1 kSC_15 (by decide))) (by decide))⟩ dX11_sell_83
    · -- 25
      refine y_c2 (n := (-5)) C0 (by decide) dX11_sell_28 (fun v_49 e_50 => ?_)
      rw [hQ]
      exact y_iret C0 h (Fr.mono u_2 (by decide)) ⟨(Rel.fr (M := []) hR u_2 (by decide) (by decide)), (Hok.fr (M := []) hH u_2 (by decide))⟩ dX11_sell_30
  · -- 5
    refine y_c2 (n := (-2)) C0 (by decide) dX11_sell_8 (fun v_51 e_52 => ?_)
    rw [hQ]
    exact y_iret C0 h (Fr.mono u_2 (by decide)) ⟨(Rel.fr (M := []) hR u_2 (by decide) (by decide)), (Hok.fr (M := []) hH u_2 (by decide))⟩ dX11_sell_10
set_option maxHeartbeats 4000000 in
set_option maxRecDepth 100000 in
theorem c_X11_hand (l : Launch) (G : GG) (Z : RZ) (ad : Nat → Nat) (ws0 : va_W) (hT : Ty G (SC tt) ad ws0) (a1 : Int32) (a2 : Int32) (a3 : Int32) (hR : Rel ws0) (hH : Hok ws0) : Mq l yX11_hand cX11_hand 5 (some .int) 3 G Z [.ref (ad 0), .int a1, .int a2, .int a3] ws0 (PI G (SC tt) ad [0, 6, 7, 8, 9, 10, 11, 12, 13] ws0 (fun r u => (Rel u) ∧ (Hok u))) := by
  refine Mq.start (by decide) (Nat.le_of_ble_eq_true rfl) ?_
  intro p e s m below meth c A ls C0 hZ h hl
  have hl : lv_has ls 5 [(0, .ref (ad 0)), (1, .int a1), (2, .int a2), (3, .int a3)] := hl
  have h : Wt G (SC tt) ad A s s.heap [] ws0 := ⟨h, hT⟩
  obtain ⟨args, hargs⟩ : ∃ z, z = ([.ref (ad 0), .int a1, .int a2, .int a3] : List Value).toArray := ⟨_, rfl⟩
  rw [← hargs] at C0 ⊢
  have C0 : Cx p s m args meth c RX11 cX11_hand 5 (some .int) := C0
  obtain ⟨Q, hQ⟩ : ∃ z, z = MQ below ((PI G (SC tt) ad [0, 6, 7, 8, 9, 10, 11, 12, 13] ws0 (fun r u => (Rel u) ∧ (Hok u))) A) args s 0 0 A := ⟨_, rfl⟩
  rw [← hQ]
  refine lv_aload_n C0.1 C0.2.1 dX11_hand_0 rfl (lv_at hl 0 rfl) ?_
  refine lv_iload_n C0.1 C0.2.1 dX11_hand_1 rfl (lv_at hl 1 rfl) ?_
  refine y_ci h (y_rV (As := [.int a1]) (rest := []) C0 hZ h (c_X11_isPerson l G Z ad _ h.2 a1) k_X11_isPerson q_903 q_23 q_901 kSC_0 rfl rfl rfl hl.1 rfl rfl (Nat.le_of_ble_eq_true rfl) dX11_hand_2 ⟨Nat.le_of_ble_eq_true rfl, Nat.le_of_ble_eq_true rfl⟩ ⟨Nat.le_of_ble_eq_true rfl, Nat.le_of_ble_eq_true rfl⟩) (fun r_4 H locs ws_1 h u_2 p_3 => ?_)
  obtain ⟨e_5, e_6, e_7⟩ := p_3
  refine y_if_eq (tgt := 21) C0 dX11_hand_5 (by decide) (fun c_8 => ?_) (fun c_8 => ?_)
  · -- 5
    refine y_c2 (n := (-2)) C0 (by decide) dX11_hand_21 (fun v_9 e_10 => ?_)
    rw [hQ]
    exact y_iret C0 h (Fr.mono u_2 (by decide)) ⟨(Rel.fr (M := []) hR u_2 (by decide) (by decide)), (Hok.fr (M := []) hH u_2 (by decide))⟩ dX11_hand_23
  · -- 5
    refine lv_aload_n C0.1 C0.2.1 dX11_hand_8 rfl (lv_at hl 0 rfl) ?_
    refine lv_iload_n C0.1 C0.2.1 dX11_hand_9 rfl (lv_at hl 2 rfl) ?_
    refine y_ci h (y_rV (As := [.int a2]) (rest := []) C0 hZ h (c_X11_isPerson l G Z ad _ h.2 a2) k_X11_isPerson q_903 q_23 q_901 kSC_0 rfl rfl rfl hl.1 rfl rfl (Nat.le_of_ble_eq_true rfl) dX11_hand_10 ⟨Nat.le_of_ble_eq_true rfl, Nat.le_of_ble_eq_true rfl⟩ ⟨Nat.le_of_ble_eq_true rfl, Nat.le_of_ble_eq_true rfl⟩) (fun r_14 H locs ws_11 h u_12 p_13 => ?_)
    obtain ⟨e_15, e_16, e_17⟩ := p_13
    refine y_if_eq (tgt := 21) C0 dX11_hand_13 (by decide) (fun c_18 => ?_) (fun c_18 => ?_)
    · -- 13
      refine y_c2 (n := (-2)) C0 (by decide) dX11_hand_21 (fun v_19 e_20 => ?_)
      rw [hQ]
      exact y_iret C0 h (Fr.tr (Fr.mono u_2 (by decide)) (Fr.mono u_12 (by decide))) ⟨(Rel.fr (M := []) hR (Fr.tr u_2 u_12) (by decide) (by decide)), (Hok.fr (M := []) hH (Fr.tr u_2 u_12) (by decide))⟩ dX11_hand_23
    · -- 13
      refine lv_iload_n C0.1 C0.2.1 dX11_hand_16 rfl (lv_at hl 1 rfl) ?_
      refine lv_iload_n C0.1 C0.2.1 dX11_hand_17 rfl (lv_at hl 2 rfl) ?_
      refine y_icmp_ne (tgt := 24) C0 dX11_hand_18 (by decide) (fun c_21 => ?_) (fun c_21 => ?_)
      · -- 18
        refine lv_iload_n C0.1 C0.2.1 dX11_hand_24 rfl (lv_at hl 3 rfl) ?_
        refine y_c1 (n := 1) C0 (by decide) dX11_hand_25 (fun v_22 e_23 => ?_)
        refine y_icmp_lt (tgt := 35) C0 dX11_hand_26 (by decide) (fun c_24 => ?_) (fun c_24 => ?_)
        · -- 26
          refine y_c2 (n := (-3)) C0 (by decide) dX11_hand_35 (fun v_25 e_26 => ?_)
          rw [hQ]
          exact y_iret C0 h (Fr.tr (Fr.mono u_2 (by decide)) (Fr.mono u_12 (by decide))) ⟨(Rel.fr (M := []) hR (Fr.tr u_2 u_12) (by decide) (by decide)), (Hok.fr (M := []) hH (Fr.tr u_2 u_12) (by decide))⟩ dX11_hand_37
        · -- 26
          refine lv_iload_n C0.1 C0.2.1 dX11_hand_29 rfl (lv_at hl 3 rfl) ?_
          refine y_c2 (n := 99) C0 (by decide) dX11_hand_30 (fun v_27 e_28 => ?_)
          refine y_icmp_le (tgt := 38) C0 dX11_hand_32 (by decide) (fun c_29 => ?_) (fun c_29 => ?_)
          · -- 32
            refine lv_aload_n C0.1 C0.2.1 dX11_hand_38 rfl (lv_at hl 0 rfl) ?_
            refine tg_X11_now C0 h kSC_0 q_515 dX11_hand_39 ?_
            refine tg_X0_folk C0 h kSC_1 q_249 dX11_hand_42 ?_
            refine lv_astore (lv' := [(4, .ref (ad 10)), (0, .ref (ad 0)), (1, .int a1), (2, .int a2), (3, .int a3)]) C0.1 C0.2.1 dX11_hand_45 hl (by decide) rfl (fun ls hl => ?_)
            refine lv_aload C0.1 C0.2.1 dX11_hand_47 (lv_at hl 0 rfl) ?_
            refine tg_X1_at C0 h kSC_10 q_191 dX11_hand_49 ?_
            refine lv_iload_n C0.1 C0.2.1 dX11_hand_52 rfl (lv_at hl 2 rfl) ?_
            refine y_iald C0 h kSC_11 rfl (by decide) (o27_58 e_5 e_6 e_7 c_8 e_15 e_16 e_17 c_18 c_21) (o27_59 e_5 e_6 e_7 c_8 e_15 e_16 e_17 c_18 c_21) dX11_hand_53 (fun v_30 e_31 e_32 e_33 => ?_)
            refine lv_aload C0.1 C0.2.1 dX11_hand_54 (lv_at hl 0 rfl) ?_
            refine tg_X1_at C0 h kSC_10 q_191 dX11_hand_56 ?_
            refine lv_iload_n C0.1 C0.2.1 dX11_hand_59 rfl (lv_at hl 3 rfl) ?_
            refine y_iald C0 h kSC_11 rfl (by decide) (o27_60 e_5 e_6 e_7 c_8 e_15 e_16 e_17 c_18 c_21) (o27_61 e_5 e_6 e_7 c_8 e_15 e_16 e_17 c_18 c_21) dX11_hand_60 (fun v_34 e_35 e_36 e_37 => ?_)
            refine y_icmp_ne (tgt := 75) C0 dX11_hand_61 (by decide) (fun c_38 => ?_) (fun c_38 => ?_)
            · -- 61
              refine y_c2 (n := (-5)) C0 (by decide) dX11_hand_75 (fun v_39 e_40 => ?_)
              rw [hQ]
              exact y_iret C0 h (Fr.tr (Fr.mono u_2 (by decide)) (Fr.mono u_12 (by decide))) ⟨(Rel.fr (M := []) hR (Fr.tr u_2 u_12) (by decide) (by decide)), (Hok.fr (M := []) hH (Fr.tr u_2 u_12) (by decide))⟩ dX11_hand_77
            · -- 61
              refine lv_aload C0.1 C0.2.1 dX11_hand_64 (lv_at hl 0 rfl) ?_
              refine tg_X1_lefts C0 h kSC_10 q_197 dX11_hand_66 ?_
              refine lv_iload_n C0.1 C0.2.1 dX11_hand_69 rfl (lv_at hl 2 rfl) ?_
              refine y_iald C0 h kSC_13 rfl (by decide) (o27_58 e_5 e_6 e_7 c_8 e_15 e_16 e_17 c_18 c_21) (o27_59 e_5 e_6 e_7 c_8 e_15 e_16 e_17 c_18 c_21) dX11_hand_70 (fun v_41 e_42 e_43 e_44 => ?_)
              refine lv_iload_n C0.1 C0.2.1 dX11_hand_71 rfl (lv_at hl 4 rfl) ?_
              refine y_icmp_ge (tgt := 78) C0 dX11_hand_72 (by decide) (fun c_45 => ?_) (fun c_45 => ?_)
              · -- 72
                refine lv_aload C0.1 C0.2.1 dX11_hand_78 (lv_at hl 0 rfl) ?_
                refine tg_X1_lefts C0 h kSC_10 q_197 dX11_hand_80 ?_
                refine lv_iload_n C0.1 C0.2.1 dX11_hand_83 rfl (lv_at hl 3 rfl) ?_
                refine y_iald C0 h kSC_13 rfl (by decide) (o27_60 e_5 e_6 e_7 c_8 e_15 e_16 e_17 c_18 c_21) (o27_61 e_5 e_6 e_7 c_8 e_15 e_16 e_17 c_18 c_21) dX11_hand_84 (fun v_46 e_47 e_48 e_49 => ?_)
                refine lv_iload_n C0.1 C0.2.1 dX11_hand_85 rfl (lv_at hl 4 rfl) ?_
                refine y_iaddU C0 dX11_hand_86 (fun v_50 => ?_)
                refine y_c2 (n := 99) C0 (by decide) dX11_hand_87 (fun v_51 e_52 => ?_)
                refine y_icmp_le (tgt := 95) C0 dX11_hand_89 (by decide) (fun c_53 => ?_) (fun c_53 => ?_)
                · -- 89
                  refine lv_aload_n C0.1 C0.2.1 dX11_hand_95 rfl (lv_at hl 1 rfl) ?_
                  refine lv_aload C0.1 C0.2.1 dX11_hand_96 (lv_at hl 0 rfl) ?_
                  refine y_cv h (y_rV (As := [.ref (ad 10)]) (rest := []) C0 hZ h (c_X11_keep l G Z ad _ h.2 10 kSC_10) k_X11_keep q_985 q_27 q_983 kSC_0 rfl rfl rfl hl.1 rfl rfl (Nat.le_of_ble_eq_true rfl) dX11_hand_98 ⟨Nat.le_of_ble_eq_true rfl, Nat.le_of_ble_eq_true rfl⟩ ⟨Nat.le_of_ble_eq_true rfl, Nat.le_of_ble_eq_true rfl⟩) (fun H locs ws_54 h u_55 p_56 => ?_)
                  have e_57 := p_56
                  refine lv_aload C0.1 C0.2.1 dX11_hand_101 (lv_at hl 0 rfl) ?_
                  refine tg_X1_lefts C0 h kSC_10 q_197 dX11_hand_103 ?_
                  refine lv_iload_n C0.1 C0.2.1 dX11_hand_106 rfl (lv_at hl 2 rfl) ?_
                  refine lv_dup2_11 C0.1 C0.2.1 dX11_hand_107 rfl rfl ?_
                  refine y_iald C0 h kSC_13 rfl (by decide) (o27_58 e_5 e_6 e_7 c_8 e_15 e_16 e_17 c_18 c_21) (o27_59 e_5 e_6 e_7 c_8 e_15 e_16 e_17 c_18 c_21) dX11_hand_108 (fun v_58 e_59 e_60 e_61 => ?_)
                  refine lv_iload_n C0.1 C0.2.1 dX11_hand_109 rfl (lv_at hl 4 rfl) ?_
                  refine y_isubU C0 dX11_hand_110 (fun v_62 => ?_)
                  refine y_iast C0 h kSC_13 rfl (by decide) (o27_58 e_5 e_6 e_7 c_8 e_15 e_16 e_17 c_18 c_21) (o27_59 e_5 e_6 e_7 c_8 e_15 e_16 e_17 c_18 c_21) (le_min v_62) (le_max v_62) dX11_hand_111 (fun H locs ws_63 h u_64 => ?_)
                  refine lv_aload C0.1 C0.2.1 dX11_hand_112 (lv_at hl 0 rfl) ?_
                  refine tg_X1_lefts C0 h kSC_10 q_197 dX11_hand_114 ?_
                  refine lv_iload_n C0.1 C0.2.1 dX11_hand_117 rfl (lv_at hl 3 rfl) ?_
                  refine lv_dup2_11 C0.1 C0.2.1 dX11_hand_118 rfl rfl ?_
                  refine y_iald C0 h kSC_13 rfl (by decide) (o27_60 e_5 e_6 e_7 c_8 e_15 e_16 e_17 c_18 c_21) (o27_61 e_5 e_6 e_7 c_8 e_15 e_16 e_17 c_18 c_21) dX11_hand_119 (fun v_65 e_66 e_67 e_68 => ?_)
                  refine lv_iload_n C0.1 C0.2.1 dX11_hand_120 rfl (lv_at hl 4 rfl) ?_
                  refine y_iaddU C0 dX11_hand_121 (fun v_69 => ?_)
                  refine y_iast C0 h kSC_13 rfl (by decide) (o27_60 e_5 e_6 e_7 c_8 e_15 e_16 e_17 c_18 c_21) (o27_61 e_5 e_6 e_7 c_8 e_15 e_16 e_17 c_18 c_21) (le_min v_69) (le_max v_69) dX11_hand_122 (fun H locs ws_70 h u_71 => ?_)
                  refine lv_aload C0.1 C0.2.1 dX11_hand_123 (lv_at hl 0 rfl) ?_
                  refine tg_X1_lefts C0 h kSC_10 q_197 dX11_hand_125 ?_
                  refine lv_iload_n C0.1 C0.2.1 dX11_hand_128 rfl (lv_at hl 3 rfl) ?_
                  refine y_iald C0 h kSC_13 rfl (by decide) (o27_60 e_5 e_6 e_7 c_8 e_15 e_16 e_17 c_18 c_21) (o27_61 e_5 e_6 e_7 c_8 e_15 e_16 e_17 c_18 c_21) dX11_hand_129 (fun v_72 e_73 e_74 e_75 => ?_)
                  have q_76 : v_72.toInt = v_69.toInt := congrArg Int32.toInt (e_73.symm.trans (Eq.trans rfl u_71.2.1))
                  rw [hQ]
                  exact y_iret C0 h (Fr.tr (Fr.tr (Fr.tr (Fr.tr (Fr.mono u_2 (by decide)) (Fr.mono u_12 (by decide))) u_55) (Fr.up u_64.1 kSC_13 (by decide))) (Fr.up u_71.1 kSC_13 (by decide))) ⟨(Rel.fr (M := [0, 6, 7, 8, 9, 10, 11, 12, 13]) hR (Fr.tr (Fr.tr (Fr.tr (Fr.tr (Fr.mono u_2 (by decide)) (Fr.mono u_12 (by decide))) u_55) (Fr.up u_64.1 kSC_13 (by decide))) (Fr.up u_71.1 kSC_13 (by decide))) (by decide) (by decide)), (Hok.fr (M := [0, 6, 7, 8, 9, 10, 11, 12, 13]) hH (Fr.tr (Fr.tr (Fr.tr (Fr.tr (Fr.mono u_2 (by decide)) (Fr.mono u_12 (by decide))) u_55) (Fr.up u_64.1 kSC_13 (by decide))) (Fr.up u_71.1 kSC_13 (by decide))) (by decide))⟩ dX11_hand_130
                · -- 89
                  refine y_c2 (n := (-4)) C0 (by decide) dX11_hand_92 (fun v_77 e_78 => ?_)
                  rw [hQ]
                  exact y_iret C0 h (Fr.tr (Fr.mono u_2 (by decide)) (Fr.mono u_12 (by decide))) ⟨(Rel.fr (M := []) hR (Fr.tr u_2 u_12) (by decide) (by decide)), (Hok.fr (M := []) hH (Fr.tr u_2 u_12) (by decide))⟩ dX11_hand_94
              · -- 72
                refine y_c2 (n := (-5)) C0 (by decide) dX11_hand_75 (fun v_79 e_80 => ?_)
                rw [hQ]
                exact y_iret C0 h (Fr.tr (Fr.mono u_2 (by decide)) (Fr.mono u_12 (by decide))) ⟨(Rel.fr (M := []) hR (Fr.tr u_2 u_12) (by decide) (by decide)), (Hok.fr (M := []) hH (Fr.tr u_2 u_12) (by decide))⟩ dX11_hand_77
          · -- 32
            refine y_c2 (n := (-3)) C0 (by decide) dX11_hand_35 (fun v_81 e_82 => ?_)
            rw [hQ]
            exact y_iret C0 h (Fr.tr (Fr.mono u_2 (by decide)) (Fr.mono u_12 (by decide))) ⟨(Rel.fr (M := []) hR (Fr.tr u_2 u_12) (by decide) (by decide)), (Hok.fr (M := []) hH (Fr.tr u_2 u_12) (by decide))⟩ dX11_hand_37
      · -- 18
        refine y_c2 (n := (-2)) C0 (by decide) dX11_hand_21 (fun v_83 e_84 => ?_)
        rw [hQ]
        exact y_iret C0 h (Fr.tr (Fr.mono u_2 (by decide)) (Fr.mono u_12 (by decide))) ⟨(Rel.fr (M := []) hR (Fr.tr u_2 u_12) (by decide) (by decide)), (Hok.fr (M := []) hH (Fr.tr u_2 u_12) (by decide))⟩ dX11_hand_23
set_option maxHeartbeats 4000000 in
set_option maxRecDepth 100000 in
theorem c_X11_fog (l : Launch) (G : GG) (Z : RZ) (ad : Nat → Nat) (ws0 : va_W) (hT : Ty G (SC tt) ad ws0) (a1 : Int32) (a2 : Int32) (hR : Rel ws0) (hH : Hok ws0) : Mq l yX11_fog cX11_fog 3 (some .int) 3 G Z [.ref (ad 0), .int a1, .int a2] ws0 (PI G (SC tt) ad [0, 6, 7, 8, 9, 10, 11, 12, 13, 18] ws0 (fun r u => ((-3) ≤ r.toInt) ∧ (r.toInt ≤ 63) ∧ (Rel u) ∧ (Hok u))) := by
  refine Mq.start (by decide) (Nat.le_of_ble_eq_true rfl) ?_
  intro p e s m below meth c A ls C0 hZ h hl
  have hl : lv_has ls 3 [(0, .ref (ad 0)), (1, .int a1), (2, .int a2)] := hl
  have h : Wt G (SC tt) ad A s s.heap [] ws0 := ⟨h, hT⟩
  obtain ⟨args, hargs⟩ : ∃ z, z = ([.ref (ad 0), .int a1, .int a2] : List Value).toArray := ⟨_, rfl⟩
  rw [← hargs] at C0 ⊢
  have C0 : Cx p s m args meth c RX11 cX11_fog 3 (some .int) := C0
  obtain ⟨Q, hQ⟩ : ∃ z, z = MQ below ((PI G (SC tt) ad [0, 6, 7, 8, 9, 10, 11, 12, 13, 18] ws0 (fun r u => ((-3) ≤ r.toInt) ∧ (r.toInt ≤ 63) ∧ (Rel u) ∧ (Hok u))) A) args s 0 0 A := ⟨_, rfl⟩
  rw [← hQ]
  refine lv_aload_n C0.1 C0.2.1 dX11_fog_0 rfl (lv_at hl 0 rfl) ?_
  refine lv_iload_n C0.1 C0.2.1 dX11_fog_1 rfl (lv_at hl 1 rfl) ?_
  refine y_ci h (y_rV (As := [.int a1]) (rest := []) C0 hZ h (c_X11_isCrossing l G Z ad _ h.2 a1) k_X11_isCrossing q_915 q_25 q_913 kSC_0 rfl rfl rfl hl.1 rfl rfl (Nat.le_of_ble_eq_true rfl) dX11_fog_2 ⟨Nat.le_of_ble_eq_true rfl, Nat.le_of_ble_eq_true rfl⟩ ⟨Nat.le_of_ble_eq_true rfl, Nat.le_of_ble_eq_true rfl⟩) (fun r_4 H locs ws_1 h u_2 p_3 => ?_)
  obtain ⟨e_5, e_6, e_7⟩ := p_3
  refine y_if_ne (tgt := 11) C0 dX11_fog_5 (by decide) (fun c_8 => ?_) (fun c_8 => ?_)
  · -- 5
    refine lv_iload_n C0.1 C0.2.1 dX11_fog_11 rfl (lv_at hl 2 rfl) ?_
    refine y_c1 (n := 1) C0 (by decide) dX11_fog_12 (fun v_9 e_10 => ?_)
    refine y_icmp_lt (tgt := 22) C0 dX11_fog_13 (by decide) (fun c_11 => ?_) (fun c_11 => ?_)
    · -- 13
      refine y_c2 (n := (-3)) C0 (by decide) dX11_fog_22 (fun v_12 e_13 => ?_)
      rw [hQ]
      exact y_iret C0 h (Fr.mono u_2 (by decide)) ⟨(o27_21 e_13), (o27_62 e_13), (Rel.fr (M := []) hR u_2 (by decide) (by decide)), (Hok.fr (M := []) hH u_2 (by decide))⟩ dX11_fog_24
    · -- 13
      refine lv_iload_n C0.1 C0.2.1 dX11_fog_16 rfl (lv_at hl 2 rfl) ?_
      refine y_c2 (n := 99) C0 (by decide) dX11_fog_17 (fun v_14 e_15 => ?_)
      refine y_icmp_le (tgt := 25) C0 dX11_fog_19 (by decide) (fun c_16 => ?_) (fun c_16 => ?_)
      · -- 19
        refine lv_aload_n C0.1 C0.2.1 dX11_fog_25 rfl (lv_at hl 0 rfl) ?_
        refine lv_aload_n C0.1 C0.2.1 dX11_fog_26 rfl (lv_at hl 0 rfl) ?_
        refine tg_X11_now C0 h kSC_0 q_515 dX11_fog_27 ?_
        refine tg_X0_folk C0 h kSC_1 q_249 dX11_fog_30 ?_
        refine y_cv h (y_rV (As := [.ref (ad 10)]) (rest := []) C0 hZ h (c_X11_keep l G Z ad _ h.2 10 kSC_10) k_X11_keep q_985 q_27 q_983 kSC_0 rfl rfl rfl hl.1 rfl rfl (Nat.le_of_ble_eq_true rfl) dX11_fog_33 ⟨Nat.le_of_ble_eq_true rfl, Nat.le_of_ble_eq_true rfl⟩ ⟨Nat.le_of_ble_eq_true rfl, Nat.le_of_ble_eq_true rfl⟩) (fun H locs ws_17 h u_18 p_19 => ?_)
        have e_20 := p_19
        refine lv_aload_n C0.1 C0.2.1 dX11_fog_36 rfl (lv_at hl 0 rfl) ?_
        refine tg_X11_now C0 h kSC_0 q_515 dX11_fog_37 ?_
        refine tg_X0_folk C0 h kSC_1 q_249 dX11_fog_40 ?_
        refine tg_X1_fogEnds C0 h kSC_10 q_211 dX11_fog_43 ?_
        refine lv_iload_n C0.1 C0.2.1 dX11_fog_46 rfl (lv_at hl 1 rfl) ?_
        refine lv_aload_n C0.1 C0.2.1 dX11_fog_47 rfl (lv_at hl 0 rfl) ?_
        refine tg_X11_now C0 h kSC_0 q_515 dX11_fog_48 ?_
        refine tg_X0_folk C0 h kSC_1 q_249 dX11_fog_51 ?_
        refine tg_X1_hours C0 h kSC_10 q_220 dX11_fog_54 (fun v_21 e_22 e_23 e_24 => ?_)
        refine lv_iload_n C0.1 C0.2.1 dX11_fog_57 rfl (lv_at hl 2 rfl) ?_
        refine y_iaddU C0 dX11_fog_58 (fun v_25 => ?_)
        refine y_iast C0 h kSC_17 rfl (by decide) (o27_17 e_5 e_6 e_7 c_8) (o27_18 e_5 e_6 e_7 c_8) (le_min v_25) (le_max v_25) dX11_fog_59 (fun H locs ws_26 h u_27 => ?_)
        refine lv_aload_n C0.1 C0.2.1 dX11_fog_60 rfl (lv_at hl 0 rfl) ?_
        refine tg_X11_forecast C0 h kSC_0 q_518 dX11_fog_61 ?_
        refine y_cv h (y_rV (As := []) (rest := []) C0 hZ h (c_X2_forget l G Z ad _ h.2) k_X2_forget q_878 q_879 q_877 kSC_79 rfl rfl rfl hl.1 rfl rfl (Nat.le_of_ble_eq_true rfl) dX11_fog_64 ⟨Nat.le_of_ble_eq_true rfl, Nat.le_of_ble_eq_true rfl⟩ ⟨Nat.le_of_ble_eq_true rfl, Nat.le_of_ble_eq_true rfl⟩) (fun H locs ws_28 h u_29 p_30 => ?_)
        refine lv_aload_n C0.1 C0.2.1 dX11_fog_67 rfl (lv_at hl 0 rfl) ?_
        refine tg_X11_now C0 h kSC_0 q_515 dX11_fog_68 ?_
        refine lv_aload_n C0.1 C0.2.1 dX11_fog_71 rfl (lv_at hl 0 rfl) ?_
        refine tg_X11_now C0 h kSC_0 q_515 dX11_fog_72 ?_
        refine tg_X0_folk C0 h kSC_1 q_249 dX11_fog_75 ?_
        refine tg_X1_hours C0 h kSC_10 q_220 dX11_fog_78 (fun v_31 e_32 e_33 e_34 => ?_)
        have q_35 : v_31.toInt = v_21.toInt := congrArg Int32.toInt (e_32.symm.trans (Eq.trans (Eq.trans (Fr.fI u_29 kSC_10 (by decide)) (fI_of (u_27.1 10 (kd_ne (S := SC q0) kSC_10 kSC_17 (by decide))))) e_22))
        refine y_ci h (y_rV (As := [.int v_31]) (rest := []) C0 hZ h (c_X0_freeBits l G Z ad _ h.2 1 kSC_1 v_31) k_X0_freeBits q_948 q_949 q_947 kSC_1 rfl rfl rfl hl.1 rfl rfl (Nat.le_of_ble_eq_true rfl) dX11_fog_81 ⟨Nat.le_of_ble_eq_true rfl, Nat.le_of_ble_eq_true rfl⟩ ⟨Nat.le_of_ble_eq_true rfl, Nat.le_of_ble_eq_true rfl⟩) (fun r_39 H locs ws_36 h u_37 p_38 => ?_)
        refine y_ci h (y_rS (As := [.int r_39]) (rest := []) C0 hZ h (c_J6_bitCount_0f7a4 l G Z ad _ h.2 r_39) k_J6_bitCount_0f7a4 q_1035 q_1034 hl.1 rfl rfl (Nat.le_of_ble_eq_true rfl) dX11_fog_84 ⟨Nat.le_of_ble_eq_true rfl, Nat.le_of_ble_eq_true rfl⟩ ⟨Nat.le_of_ble_eq_true rfl, Nat.le_of_ble_eq_true rfl⟩) (fun r_43 H locs ws_40 h u_41 p_42 => ?_)
        obtain ⟨e_44, e_45⟩ := p_42
        rw [hQ]
        exact y_iret C0 h (Fr.tr (Fr.tr (Fr.tr (Fr.tr (Fr.tr (Fr.mono u_2 (by decide)) (Fr.mono u_18 (by decide))) (Fr.up u_27.1 kSC_17 (by decide))) (Fr.mono u_29 (by decide))) (Fr.mono u_37 (by decide))) (Fr.mono u_41 (by decide))) ⟨(o27_63 e_44 e_45), (o27_64 e_44 e_45), (Rel.fr (M := [0, 6, 7, 8, 9, 10, 11, 12, 13, 18]) hR (Fr.tr (Fr.tr (Fr.tr (Fr.tr (Fr.tr (Fr.mono u_2 (by decide)) (Fr.mono u_18 (by decide))) (Fr.up u_27.1 kSC_17 (by decide))) (Fr.mono u_29 (by decide))) (Fr.mono u_37 (by decide))) (Fr.mono u_41 (by decide))) (by decide) (by decide)), (Hok.fr (M := [0, 6, 7, 8, 9, 10, 11, 12, 13, 18]) hH (Fr.tr (Fr.tr (Fr.tr (Fr.tr (Fr.tr (Fr.mono u_2 (by decide)) (Fr.mono u_18 (by decide))) (Fr.up u_27.1 kSC_17 (by decide))) (Fr.mono u_29 (by decide))) (Fr.mono u_37 (by decide))) (Fr.mono u_41 (by decide))) (by decide))⟩ dX11_fog_87
      · -- 19
        refine y_c2 (n := (-3)) C0 (by decide) dX11_fog_22 (fun v_46 e_47 => ?_)
        rw [hQ]
        exact y_iret C0 h (Fr.mono u_2 (by decide)) ⟨(o27_21 e_47), (o27_62 e_47), (Rel.fr (M := []) hR u_2 (by decide) (by decide)), (Hok.fr (M := []) hH u_2 (by decide))⟩ dX11_fog_24
  · -- 5
    refine y_c2 (n := (-2)) C0 (by decide) dX11_fog_8 (fun v_48 e_49 => ?_)
    rw [hQ]
    exact y_iret C0 h (Fr.mono u_2 (by decide)) ⟨(o27_24 e_49), (o27_65 e_49), (Rel.fr (M := []) hR u_2 (by decide) (by decide)), (Hok.fr (M := []) hH u_2 (by decide))⟩ dX11_fog_10
set_option maxHeartbeats 4000000 in
set_option maxRecDepth 100000 in
theorem c_X11_hours (l : Launch) (G : GG) (Z : RZ) (ad : Nat → Nat) (ws0 : va_W) (hT : Ty G (SC tt) ad ws0) (a1 : Int32) (hR : Rel ws0) (hH : Hok ws0) : Mq l yX11_hours cX11_hours 2 (some .int) 3 G Z [.ref (ad 0), .int a1] ws0 (PI G (SC tt) ad [0, 6, 7, 8, 9, 10, 11, 12, 13, 18] ws0 (fun r u => (Rel u) ∧ (Hok u))) := by
  refine Mq.start (by decide) (Nat.le_of_ble_eq_true rfl) ?_
  intro p e s m below meth c A ls C0 hZ h hl
  have hl : lv_has ls 2 [(0, .ref (ad 0)), (1, .int a1)] := hl
  have h : Wt G (SC tt) ad A s s.heap [] ws0 := ⟨h, hT⟩
  obtain ⟨args, hargs⟩ : ∃ z, z = ([.ref (ad 0), .int a1] : List Value).toArray := ⟨_, rfl⟩
  rw [← hargs] at C0 ⊢
  have C0 : Cx p s m args meth c RX11 cX11_hours 2 (some .int) := C0
  obtain ⟨Q, hQ⟩ : ∃ z, z = MQ below ((PI G (SC tt) ad [0, 6, 7, 8, 9, 10, 11, 12, 13, 18] ws0 (fun r u => (Rel u) ∧ (Hok u))) A) args s 0 0 A := ⟨_, rfl⟩
  rw [← hQ]
  refine lv_iload_n C0.1 C0.2.1 dX11_hours_0 rfl (lv_at hl 1 rfl) ?_
  refine y_c1 (n := 1) C0 (by decide) dX11_hours_1 (fun v_1 e_2 => ?_)
  refine y_icmp_lt (tgt := 11) C0 dX11_hours_2 (by decide) (fun c_3 => ?_) (fun c_3 => ?_)
  · -- 2
    refine y_c2 (n := (-3)) C0 (by decide) dX11_hours_11 (fun v_4 e_5 => ?_)
    rw [hQ]
    exact y_iret C0 h Fr.rf ⟨hR, hH⟩ dX11_hours_13
  · -- 2
    refine lv_iload_n C0.1 C0.2.1 dX11_hours_5 rfl (lv_at hl 1 rfl) ?_
    refine y_c2 (n := 99) C0 (by decide) dX11_hours_6 (fun v_6 e_7 => ?_)
    refine y_icmp_le (tgt := 14) C0 dX11_hours_8 (by decide) (fun c_8 => ?_) (fun c_8 => ?_)
    · -- 8
      refine lv_aload_n C0.1 C0.2.1 dX11_hours_14 rfl (lv_at hl 0 rfl) ?_
      refine lv_aload_n C0.1 C0.2.1 dX11_hours_15 rfl (lv_at hl 0 rfl) ?_
      refine tg_X11_now C0 h kSC_0 q_515 dX11_hours_16 ?_
      refine tg_X0_folk C0 h kSC_1 q_249 dX11_hours_19 ?_
      refine y_cv h (y_rV (As := [.ref (ad 10)]) (rest := []) C0 hZ h (c_X11_keep l G Z ad _ h.2 10 kSC_10) k_X11_keep q_985 q_27 q_983 kSC_0 rfl rfl rfl hl.1 rfl rfl (Nat.le_of_ble_eq_true rfl) dX11_hours_22 ⟨Nat.le_of_ble_eq_true rfl, Nat.le_of_ble_eq_true rfl⟩ ⟨Nat.le_of_ble_eq_true rfl, Nat.le_of_ble_eq_true rfl⟩) (fun H locs ws_9 h u_10 p_11 => ?_)
      have e_12 := p_11
      refine lv_aload_n C0.1 C0.2.1 dX11_hours_25 rfl (lv_at hl 0 rfl) ?_
      refine tg_X11_now C0 h kSC_0 q_515 dX11_hours_26 ?_
      refine tg_X0_folk C0 h kSC_1 q_249 dX11_hours_29 ?_
      refine lv_dup C0.1 C0.2.1 dX11_hours_32 rfl ?_
      refine tg_X1_hours C0 h kSC_10 q_220 dX11_hours_33 (fun v_13 e_14 e_15 e_16 => ?_)
      refine lv_iload_n C0.1 C0.2.1 dX11_hours_36 rfl (lv_at hl 1 rfl) ?_
      refine y_iaddU C0 dX11_hours_37 (fun v_17 => ?_)
      refine tp_X1_hours C0 h kSC_10 q_220 (le_min v_17) (le_max v_17) dX11_hours_38 (fun H locs ws_18 h u_19 => ?_)
      refine lv_aload_n C0.1 C0.2.1 dX11_hours_41 rfl (lv_at hl 0 rfl) ?_
      refine tg_X11_forecast C0 h kSC_0 q_518 dX11_hours_42 ?_
      refine y_cv h (y_rV (As := []) (rest := []) C0 hZ h (c_X2_forget l G Z ad _ h.2) k_X2_forget q_878 q_879 q_877 kSC_79 rfl rfl rfl hl.1 rfl rfl (Nat.le_of_ble_eq_true rfl) dX11_hours_45 ⟨Nat.le_of_ble_eq_true rfl, Nat.le_of_ble_eq_true rfl⟩ ⟨Nat.le_of_ble_eq_true rfl, Nat.le_of_ble_eq_true rfl⟩) (fun H locs ws_20 h u_21 p_22 => ?_)
      refine lv_aload_n C0.1 C0.2.1 dX11_hours_48 rfl (lv_at hl 0 rfl) ?_
      refine tg_X11_now C0 h kSC_0 q_515 dX11_hours_49 ?_
      refine tg_X0_folk C0 h kSC_1 q_249 dX11_hours_52 ?_
      refine tg_X1_hours C0 h kSC_10 q_220 dX11_hours_55 (fun v_23 e_24 e_25 e_26 => ?_)
      have q_27 : v_23.toInt = v_17.toInt := congrArg Int32.toInt (e_24.symm.trans (Eq.trans (Fr.fI u_21 kSC_10 (by decide)) u_19.2.1))
      rw [hQ]
      exact y_iret C0 h (Fr.tr (Fr.tr (Fr.mono u_10 (by decide)) (Fr.up u_19.1 kSC_10 (by decide))) (Fr.mono u_21 (by decide))) ⟨(Rel.fr (M := [0, 6, 7, 8, 9, 10, 11, 12, 13, 18]) hR (Fr.tr (Fr.tr (Fr.mono u_10 (by decide)) (Fr.up u_19.1 kSC_10 (by decide))) (Fr.mono u_21 (by decide))) (by decide) (by decide)), (Hok.fr (M := [0, 6, 7, 8, 9, 10, 11, 12, 13, 18]) hH (Fr.tr (Fr.tr (Fr.mono u_10 (by decide)) (Fr.up u_19.1 kSC_10 (by decide))) (Fr.mono u_21 (by decide))) (by decide))⟩ dX11_hours_58
    · -- 8
      refine y_c2 (n := (-3)) C0 (by decide) dX11_hours_11 (fun v_28 e_29 => ?_)
      rw [hQ]
      exact y_iret C0 h Fr.rf ⟨hR, hH⟩ dX11_hours_13
set_option maxHeartbeats 4000000 in
set_option maxRecDepth 100000 in
theorem c_X11_undo (l : Launch) (G : GG) (Z : RZ) (ad : Nat → Nat) (ws0 : va_W) (hT : Ty G (SC tt) ad ws0) (a1 : Int32) (hR : Rel ws0) (hH : Hok ws0) : Mq l yX11_undo cX11_undo 2 (some .int) 2 G Z [.ref (ad 0), .int a1] ws0 (PI G (SC tt) ad [0, 6, 7, 8, 9, 10, 11, 12, 13, 18] ws0 (fun r u => ((-3) ≤ r.toInt) ∧ (r.toInt ≤ 9) ∧ (Rel u) ∧ (Hok u))) := by
  refine Mq.start (by decide) (Nat.le_of_ble_eq_true rfl) ?_
  intro p e s m below meth c A ls C0 hZ h hl
  have hl : lv_has ls 2 [(0, .ref (ad 0)), (1, .int a1)] := hl
  have h : Wt G (SC tt) ad A s s.heap [] ws0 := ⟨h, hT⟩
  obtain ⟨args, hargs⟩ : ∃ z, z = ([.ref (ad 0), .int a1] : List Value).toArray := ⟨_, rfl⟩
  rw [← hargs] at C0 ⊢
  have C0 : Cx p s m args meth c RX11 cX11_undo 2 (some .int) := C0
  obtain ⟨Q, hQ⟩ : ∃ z, z = MQ below ((PI G (SC tt) ad [0, 6, 7, 8, 9, 10, 11, 12, 13, 18] ws0 (fun r u => ((-3) ≤ r.toInt) ∧ (r.toInt ≤ 9) ∧ (Rel u) ∧ (Hok u))) A) args s 0 0 A := ⟨_, rfl⟩
  rw [← hQ]
  refine lv_iload_n C0.1 C0.2.1 dX11_undo_0 rfl (lv_at hl 1 rfl) ?_
  refine y_c1 (n := 1) C0 (by decide) dX11_undo_1 (fun v_1 e_2 => ?_)
  refine y_icmp_lt (tgt := 13) C0 dX11_undo_2 (by decide) (fun c_3 => ?_) (fun c_3 => ?_)
  · -- 2
    refine y_c2 (n := (-3)) C0 (by decide) dX11_undo_13 (fun v_4 e_5 => ?_)
    rw [hQ]
    exact y_iret C0 h Fr.rf ⟨(o27_21 e_5), (o27_66 e_5), hR, hH⟩ dX11_undo_15
  · -- 2
    refine lv_iload_n C0.1 C0.2.1 dX11_undo_5 rfl (lv_at hl 1 rfl) ?_
    refine lv_aload_n C0.1 C0.2.1 dX11_undo_6 rfl (lv_at hl 0 rfl) ?_
    refine tg_X11_pastSize C0 h kSC_0 q_532 dX11_undo_7 (fun v_6 e_7 e_8 e_9 => ?_)
    refine y_icmp_le (tgt := 16) C0 dX11_undo_10 (by decide) (fun c_10 => ?_) (fun c_10 => ?_)
    · -- 10
      refine lv_aload_n C0.1 C0.2.1 dX11_undo_16 rfl (lv_at hl 0 rfl) ?_
      refine lv_dup C0.1 C0.2.1 dX11_undo_17 rfl ?_
      refine tg_X11_pastSize C0 h kSC_0 q_532 dX11_undo_18 (fun v_11 e_12 e_13 e_14 => ?_)
      have q_15 : v_11.toInt = v_6.toInt := congrArg Int32.toInt (e_12.symm.trans (Eq.trans rfl e_7))
      refine lv_iload_n C0.1 C0.2.1 dX11_undo_21 rfl (lv_at hl 1 rfl) ?_
      refine y_sub C0 (o27_67 e_2 c_3 e_8 e_9 c_10 e_13 e_14 q_15 (le_min v_11) (le_max v_11) (le_min a1) (le_max a1) (le_min v_1) (le_max v_1) (le_min v_6) (le_max v_6)) (o27_68 e_2 c_3 e_8 e_9 c_10 e_13 e_14 q_15 (le_min v_11) (le_max v_11) (le_min a1) (le_max a1) (le_min v_1) (le_max v_1) (le_min v_6) (le_max v_6)) dX11_undo_22 (fun v_16 e_17 => ?_)
      refine tp_X11_pastSize C0 h kSC_0 q_532 (o27_69 e_2 c_3 e_8 e_9 c_10 e_13 e_14 q_15 e_17) (o27_70 e_2 c_3 e_8 e_9 c_10 e_13 e_14 q_15 e_17) dX11_undo_23 (fun H locs ws_18 h u_19 => ?_)
      refine lv_aload_n C0.1 C0.2.1 dX11_undo_26 rfl (lv_at hl 0 rfl) ?_
      refine tg_X11_now C0 h kSC_0 q_515 dX11_undo_27 ?_
      refine tg_X0_folk C0 h kSC_1 q_249 dX11_undo_30 ?_
      refine lv_aload_n C0.1 C0.2.1 dX11_undo_33 rfl (lv_at hl 0 rfl) ?_
      refine tg_X11_past C0 h kSC_0 q_527 dX11_undo_34 ?_
      refine lv_aload_n C0.1 C0.2.1 dX11_undo_37 rfl (lv_at hl 0 rfl) ?_
      refine tg_X11_pastFirst C0 h kSC_0 q_531 dX11_undo_38 (fun v_20 e_21 e_22 e_23 => ?_)
      refine lv_aload_n C0.1 C0.2.1 dX11_undo_41 rfl (lv_at hl 0 rfl) ?_
      refine tg_X11_pastSize C0 h kSC_0 q_532 dX11_undo_42 (fun v_24 e_25 e_26 e_27 => ?_)
      have q_28 : v_24.toInt = v_16.toInt := congrArg Int32.toInt (e_25.symm.trans (Eq.trans rfl u_19.2.1))
      refine y_add C0 (o27_71 e_2 c_3 e_8 e_9 c_10 e_13 e_14 q_15 e_17 e_22 e_23 e_26 e_27 q_28 (le_min v_20) (le_max v_20) (le_min v_24) (le_max v_24) (le_min v_1) (le_max v_1) (le_min a1) (le_max a1) (le_min v_6) (le_max v_6) (le_min v_11) (le_max v_11) (le_min v_16) (le_max v_16)) (o27_72 e_2 c_3 e_8 e_9 c_10 e_13 e_14 q_15 e_17 e_22 e_23 e_26 e_27 q_28 (le_min v_20) (le_max v_20) (le_min v_24) (le_max v_24) (le_min v_1) (le_max v_1) (le_min a1) (le_max a1) (le_min v_6) (le_max v_6) (le_min v_11) (le_max v_11) (le_min v_16) (le_max v_16)) dX11_undo_45 (fun v_29 e_30 => ?_)
      refine y_c2 (n := 10) C0 (by decide) dX11_undo_46 (fun v_31 e_32 => ?_)
      refine y_remc (n := 10) C0 (o27_73 e_32) (by decide) (o27_74 e_2 c_3 e_8 e_9 c_10 e_13 e_14 q_15 e_17 e_22 e_23 e_26 e_27 q_28 e_30) dX11_undo_48 (fun v_33 e_34 => ?_)
      refine y_aald C0 h kSC_118 rfl rfl (by decide) (o27_75 e_2 c_3 e_8 e_9 c_10 e_13 e_14 q_15 e_17 e_22 e_23 e_26 e_27 q_28 e_30 e_34) (o27_76 e_2 c_3 e_8 e_9 c_10 e_13 e_14 q_15 e_17 e_22 e_23 e_26 e_27 q_28 e_30 e_34) dX11_undo_49 ?_
      obtain ⟨i_35, hi_35, ei_35⟩ : ∃ j : Nat, Kd (SC tt) j 6 ∧ j = 119 + 8 * v_33.toInt.toNat := ⟨_, aSC_47 (o27_77 e_2 c_3 e_8 e_9 c_10 e_13 e_14 q_15 e_17 e_22 e_23 e_26 e_27 q_28 e_30 e_34), rfl⟩
      rw [← ei_35]
      refine y_cv h (y_rV (As := [.ref (ad i_35)]) (rest := []) C0 hZ h (c_X1_copy l G Z ad _ h.2 10 kSC_10 i_35 hi_35) k_X1_copy q_868 q_869 q_987 kSC_10 rfl rfl rfl hl.1 rfl rfl (Nat.le_of_ble_eq_true rfl) dX11_undo_50 ⟨Nat.le_of_ble_eq_true rfl, Nat.le_of_ble_eq_true rfl⟩ ⟨Nat.le_of_ble_eq_true rfl, Nat.le_of_ble_eq_true rfl⟩) (fun H locs ws_36 h u_37 p_38 => ?_)
      have e_39 := p_38
      refine lv_aload_n C0.1 C0.2.1 dX11_undo_53 rfl (lv_at hl 0 rfl) ?_
      refine tg_X11_forecast C0 h kSC_0 q_518 dX11_undo_54 ?_
      refine y_cv h (y_rV (As := []) (rest := []) C0 hZ h (c_X2_forget l G Z ad _ h.2) k_X2_forget q_878 q_879 q_877 kSC_79 rfl rfl rfl hl.1 rfl rfl (Nat.le_of_ble_eq_true rfl) dX11_undo_57 ⟨Nat.le_of_ble_eq_true rfl, Nat.le_of_ble_eq_true rfl⟩ ⟨Nat.le_of_ble_eq_true rfl, Nat.le_of_ble_eq_true rfl⟩) (fun H locs ws_40 h u_41 p_42 => ?_)
      refine lv_aload_n C0.1 C0.2.1 dX11_undo_60 rfl (lv_at hl 0 rfl) ?_
      refine tg_X11_pastSize C0 h kSC_0 q_532 dX11_undo_61 (fun v_43 e_44 e_45 e_46 => ?_)
      have q_47 : v_43.toInt = v_16.toInt := congrArg Int32.toInt (e_44.symm.trans (Eq.trans (Eq.trans (Fr.fI u_41 kSC_0 (by decide)) (Fr.fI u_37 kSC_0 (by decide))) u_19.2.1))
      rw [hQ]
      exact y_iret C0 h (Fr.tr (Fr.tr (Fr.up u_19.1 kSC_0 (by decide)) (Fr.mono u_37 (by decide))) (Fr.mono u_41 (by decide))) ⟨(o27_78 e_2 c_3 e_8 e_9 c_10 e_13 e_14 q_15 e_17 e_22 e_23 e_26 e_27 q_28 e_30 e_34 e_45 e_46 q_47), (o27_79 e_2 c_3 e_8 e_9 c_10 e_13 e_14 q_15 e_17 e_22 e_23 e_26 e_27 q_28 e_30 e_34 e_45 e_46 q_47), (Rel.fr (M := [0, 6, 7, 8, 9, 10, 11, 12, 13, 18]) hR (Fr.tr (Fr.tr (Fr.up u_19.1 kSC_0 (by decide)) (Fr.mono u_37 (by decide))) (Fr.mono u_41 (by decide))) (by decide) (by decide)), (Hok.fr (M := [0, 6, 7, 8, 9, 10, 11, 12, 13, 18]) hH (Fr.tr (Fr.tr (Fr.up u_19.1 kSC_0 (by decide)) (Fr.mono u_37 (by decide))) (Fr.mono u_41 (by decide))) (by decide))⟩ dX11_undo_64
    · -- 10
      refine y_c2 (n := (-3)) C0 (by decide) dX11_undo_13 (fun v_48 e_49 => ?_)
      rw [hQ]
      exact y_iret C0 h Fr.rf ⟨(o27_21 e_49), (o27_66 e_49), hR, hH⟩ dX11_undo_15
set_option maxHeartbeats 4000000 in
set_option maxRecDepth 100000 in
theorem c_X11_week (l : Launch) (G : GG) (Z : RZ) (ad : Nat → Nat) (ws0 : va_W) (hT : Ty G (SC tt) ad ws0) (a1 : Int32) (a2 : Int32) (hR : Rel ws0) (hH : Hok ws0) : Mq l yX11_week cX11_week 5 (some .int) 6 G Z [.ref (ad 0), .int a1, .int a2] ws0 (PI G (SC tt) ad [0, 4, 5, 6, 7, 8, 9, 10, 11, 12, 13, 18] ws0 (fun r u => (Rel u) ∧ (Hok u))) := by
  refine Mq.start (by decide) (Nat.le_of_ble_eq_true rfl) ?_
  intro p e s m below meth c A ls C0 hZ h hl
  have hl : lv_has ls 5 [(0, .ref (ad 0)), (1, .int a1), (2, .int a2)] := hl
  have h : Wt G (SC tt) ad A s s.heap [] ws0 := ⟨h, hT⟩
  obtain ⟨args, hargs⟩ : ∃ z, z = ([.ref (ad 0), .int a1, .int a2] : List Value).toArray := ⟨_, rfl⟩
  rw [← hargs] at C0 ⊢
  have C0 : Cx p s m args meth c RX11 cX11_week 5 (some .int) := C0
  obtain ⟨Q, hQ⟩ : ∃ z, z = MQ below ((PI G (SC tt) ad [0, 4, 5, 6, 7, 8, 9, 10, 11, 12, 13, 18] ws0 (fun r u => (Rel u) ∧ (Hok u))) A) args s 0 0 A := ⟨_, rfl⟩
  rw [← hQ]
  refine lv_iload_n C0.1 C0.2.1 dX11_week_0 rfl (lv_at hl 2 rfl) ?_
  refine y_c1 (n := 1) C0 (by decide) dX11_week_1 (fun v_1 e_2 => ?_)
  refine y_icmp_lt (tgt := 11) C0 dX11_week_2 (by decide) (fun c_3 => ?_) (fun c_3 => ?_)
  · -- 2
    refine y_c2 (n := (-3)) C0 (by decide) dX11_week_11 (fun v_4 e_5 => ?_)
    rw [hQ]
    exact y_iret C0 h Fr.rf ⟨hR, hH⟩ dX11_week_13
  · -- 2
    refine lv_iload_n C0.1 C0.2.1 dX11_week_5 rfl (lv_at hl 2 rfl) ?_
    refine y_c2 (n := 60) C0 (by decide) dX11_week_6 (fun v_6 e_7 => ?_)
    refine y_icmp_le (tgt := 14) C0 dX11_week_8 (by decide) (fun c_8 => ?_) (fun c_8 => ?_)
    · -- 8
      refine lv_aload_n C0.1 C0.2.1 dX11_week_14 rfl (lv_at hl 0 rfl) ?_
      refine tg_X11_now C0 h kSC_0 q_515 dX11_week_15 ?_
      refine tg_X0_folk C0 h kSC_1 q_249 dX11_week_18 ?_
      refine tg_X1_people C0 h kSC_10 q_215 dX11_week_21 (fun v_9 e_10 e_11 e_12 => ?_)
      refine y_if_ne (tgt := 30) C0 dX11_week_24 (by decide) (fun c_13 => ?_) (fun c_13 => ?_)
      · -- 24
        refine lv_aload_n C0.1 C0.2.1 dX11_week_30 rfl (lv_at hl 0 rfl) ?_
        refine tg_X11_before C0 h kSC_0 q_528 dX11_week_31 ?_
        refine lv_aload_n C0.1 C0.2.1 dX11_week_34 rfl (lv_at hl 0 rfl) ?_
        refine tg_X11_now C0 h kSC_0 q_515 dX11_week_35 ?_
        refine tg_X0_folk C0 h kSC_1 q_249 dX11_week_38 ?_
        refine y_cv h (y_rV (As := [.ref (ad 10)]) (rest := []) C0 hZ h (c_X1_copy l G Z ad _ h.2 199 kSC_199 10 kSC_10) k_X1_copy q_868 q_869 q_987 kSC_199 rfl rfl rfl hl.1 rfl rfl (Nat.le_of_ble_eq_true rfl) dX11_week_41 ⟨Nat.le_of_ble_eq_true rfl, Nat.le_of_ble_eq_true rfl⟩ ⟨Nat.le_of_ble_eq_true rfl, Nat.le_of_ble_eq_true rfl⟩) (fun H locs ws_14 h u_15 p_16 => ?_)
        have e_17 := p_16
        refine lv_aload_n C0.1 C0.2.1 dX11_week_44 rfl (lv_at hl 0 rfl) ?_
        refine lv_iload_n C0.1 C0.2.1 dX11_week_45 rfl (lv_at hl 1 rfl) ?_
        refine tp_X11_seed C0 h kSC_0 q_533 (le_min a1) (le_max a1) dX11_week_46 (fun H locs ws_18 h u_19 => ?_)
        refine y_c1 (n := 0) C0 (by decide) dX11_week_49 (fun v_20 e_21 => ?_)
        refine lv_istore_n (lv' := [(3, .int v_20), (0, .ref (ad 0)), (1, .int a1), (2, .int a2)]) C0.1 C0.2.1 dX11_week_50 rfl hl (by decide) rfl (fun ls hl => ?_)
        refine y_c1 (n := 0) C0 (by decide) dX11_week_51 (fun v_22 e_23 => ?_)
        refine lv_istore (lv' := [(4, .int v_22), (3, .int v_20), (0, .ref (ad 0)), (1, .int a1), (2, .int a2)]) C0.1 C0.2.1 dX11_week_52 hl (by decide) rfl (fun ls hl => ?_)
        have lp_28 : ∀ (n_30 : Nat) (x4_24 : Int32) (x3_25 : Int32) (H : Heap) (locs : List Loc) (ls : Array Slot) (ws_26 : va_W), 60 - x4_24.toInt < (n_30 : Int) → 0 ≤ x4_24.toInt → x4_24.toInt ≤ 60 → Wt G (SC tt) ad A s H locs ws_26 → Fr (SC tt) [0, 4, 5, 6, 7, 8, 9, 10, 11, 12] ws_18 ws_26 → lv_has ls 5 [(4, .int x4_24), (3, .int x3_25), (0, .ref (ad 0)), (1, .int a1), (2, .int a2)] → W p l e (rmd 6 0 0) s m args below meth c H locs 0 0 Q (F0 m 54 ls []) := by
          intro n_30
          induction n_30 with
          | zero => intro x4_24 x3_25 H locs ls ws_26 hn_31 b_32 b_33 h hF_27 hl; exact ((o27_80 b_32 b_33 hn_31)).elim
          | succ n_30 ih_29 =>
            intro x4_24 x3_25 H locs ls ws_26 hn_31 b_32 b_33 h hF_27 hl
            refine lv_iload C0.1 C0.2.1 dX11_week_54 (lv_at hl 0 rfl) ?_
            refine lv_iload_n C0.1 C0.2.1 dX11_week_56 rfl (lv_at hl 4 rfl) ?_
            refine y_icmp_ge (tgt := 76) C0 dX11_week_57 (by decide) (fun c_34 => ?_) (fun c_34 => ?_)
            · -- 57
              refine lv_iload_n C0.1 C0.2.1 dX11_week_76 rfl (lv_at hl 1 rfl) ?_
              refine y_if_le (tgt := 95) C0 dX11_week_77 (by decide) (fun c_35 => ?_) (fun c_35 => ?_)
              · -- 77
                refine lv_iload_n C0.1 C0.2.1 dX11_week_95 rfl (lv_at hl 1 rfl) ?_
                rw [hQ]
                exact y_iret C0 h (Fr.tr (Fr.tr (Fr.mono u_15 (by decide)) (Fr.up u_19.1 kSC_0 (by decide))) (Fr.mono hF_27 (by decide))) ⟨(Rel.fr (M := [0, 4, 5, 6, 7, 8, 9, 10, 11, 12, 13]) hR (Fr.tr (Fr.tr (Fr.mono u_15 (by decide)) (Fr.up u_19.1 kSC_0 (by decide))) (Fr.mono hF_27 (by decide))) (by decide) (by decide)), (Hok.fr (M := [0, 4, 5, 6, 7, 8, 9, 10, 11, 12, 13]) hH (Fr.tr (Fr.tr (Fr.mono u_15 (by decide)) (Fr.up u_19.1 kSC_0 (by decide))) (Fr.mono hF_27 (by decide))) (by decide))⟩ dX11_week_96
              · -- 77
                refine lv_aload_n C0.1 C0.2.1 dX11_week_80 rfl (lv_at hl 2 rfl) ?_
                refine lv_aload_n C0.1 C0.2.1 dX11_week_81 rfl (lv_at hl 2 rfl) ?_
                refine tg_X11_before C0 h kSC_0 q_528 dX11_week_82 ?_
                refine y_cv h (y_rV (As := [.ref (ad 199)]) (rest := []) C0 hZ h (c_X11_keep l G Z ad _ h.2 199 kSC_199) k_X11_keep q_985 q_27 q_983 kSC_0 rfl rfl rfl hl.1 rfl rfl (Nat.le_of_ble_eq_true rfl) dX11_week_85 ⟨Nat.le_of_ble_eq_true rfl, Nat.le_of_ble_eq_true rfl⟩ ⟨Nat.le_of_ble_eq_true rfl, Nat.le_of_ble_eq_true rfl⟩) (fun H locs ws_36 h u_37 p_38 => ?_)
                have e_39 := p_38
                refine lv_aload_n C0.1 C0.2.1 dX11_week_88 rfl (lv_at hl 2 rfl) ?_
                refine tg_X11_forecast C0 h kSC_0 q_518 dX11_week_89 ?_
                refine y_cv h (y_rV (As := []) (rest := []) C0 hZ h (c_X2_forget l G Z ad _ h.2) k_X2_forget q_878 q_879 q_877 kSC_79 rfl rfl rfl hl.1 rfl rfl (Nat.le_of_ble_eq_true rfl) dX11_week_92 ⟨Nat.le_of_ble_eq_true rfl, Nat.le_of_ble_eq_true rfl⟩ ⟨Nat.le_of_ble_eq_true rfl, Nat.le_of_ble_eq_true rfl⟩) (fun H locs ws_40 h u_41 p_42 => ?_)
                refine lv_iload_n C0.1 C0.2.1 dX11_week_95 rfl (lv_at hl 1 rfl) ?_
                rw [hQ]
                exact y_iret C0 h (Fr.tr (Fr.tr (Fr.tr (Fr.tr (Fr.mono u_15 (by decide)) (Fr.up u_19.1 kSC_0 (by decide))) (Fr.mono hF_27 (by decide))) (Fr.mono u_37 (by decide))) (Fr.mono u_41 (by decide))) ⟨(Rel.fr (M := [0, 4, 5, 6, 7, 8, 9, 10, 11, 12, 13, 18]) hR (Fr.tr (Fr.tr (Fr.tr (Fr.tr (Fr.mono u_15 (by decide)) (Fr.up u_19.1 kSC_0 (by decide))) (Fr.mono hF_27 (by decide))) (Fr.mono u_37 (by decide))) (Fr.mono u_41 (by decide))) (by decide) (by decide)), (Hok.fr (M := [0, 4, 5, 6, 7, 8, 9, 10, 11, 12, 13, 18]) hH (Fr.tr (Fr.tr (Fr.tr (Fr.tr (Fr.mono u_15 (by decide)) (Fr.up u_19.1 kSC_0 (by decide))) (Fr.mono hF_27 (by decide))) (Fr.mono u_37 (by decide))) (Fr.mono u_41 (by decide))) (by decide))⟩ dX11_week_96
            · -- 57
              refine lv_aload_n C0.1 C0.2.1 dX11_week_60 rfl (lv_at hl 2 rfl) ?_
              refine y_ci h (y_rV (As := []) (rest := []) C0 hZ h (c_X11_liveOnce l G Z ad _ h.2 (Rel.fr (M := [0, 4, 5, 6, 7, 8, 9, 10, 11, 12, 13]) hR (Fr.tr (Fr.tr (Fr.mono u_15 (by decide)) (Fr.up u_19.1 kSC_0 (by decide))) (Fr.mono hF_27 (by decide))) (by decide) (by decide))) k_X11_liveOnce q_1054 q_29 q_1052 kSC_0 rfl rfl rfl hl.1 rfl rfl (Nat.le_of_ble_eq_true rfl) dX11_week_61 ⟨Nat.le_of_ble_eq_true rfl, Nat.le_of_ble_eq_true rfl⟩ ⟨Nat.le_of_ble_eq_true rfl, Nat.le_of_ble_eq_true rfl⟩) (fun r_46 H locs ws_43 h u_44 p_45 => ?_)
              obtain ⟨e_47, e_48⟩ := p_45
              refine y_if_eq (tgt := 70) C0 dX11_week_64 (by decide) (fun c_49 => ?_) (fun c_49 => ?_)
              · -- 64
                refine y_inc (kp := 0) (n := 1) (fun v_50 => [(4, .int v_50), (3, .int x3_25), (0, .ref (ad 0)), (1, .int a1), (2, .int a2)]) C0 hl rfl (by decide) (by decide) (fun _ => rfl) (o27_81 e_2 c_3 e_7 c_8 b_32 b_33 hn_31 c_34 (le_min x4_24) (le_max x4_24) (le_min v_1) (le_max v_1) (le_min a2) (le_max a2) (le_min v_6) (le_max v_6)) (o27_82 e_2 c_3 e_7 c_8 b_32 b_33 hn_31 c_34 (le_min x4_24) (le_max x4_24) (le_min v_1) (le_max v_1) (le_min a2) (le_max a2) (le_min v_6) (le_max v_6)) dX11_week_70 (fun v_50 ls e_51 hl => ?_)
                refine lv_goto (tgt := 54) C0.1 C0.2.1 dX11_week_73 (by decide) ?_
                exact ih_29 v_50 x3_25 _ _ _ _ (o27_83 e_2 c_3 e_7 c_8 b_32 b_33 hn_31 c_34 e_51) (o27_84 e_2 c_3 e_7 c_8 b_32 b_33 hn_31 c_34 e_51) (o27_85 e_2 c_3 e_7 c_8 b_32 b_33 hn_31 c_34 e_51) h (Fr.tr hF_27 u_44) (lv_sub hl [0, 1, 2, 3, 4] rfl)
              · -- 64
                refine y_incU (kp := 1) (fun v_52 => [(3, .int v_52), (4, .int x4_24), (0, .ref (ad 0)), (1, .int a1), (2, .int a2)]) C0 hl rfl (by decide) (fun _ => rfl) dX11_week_67 (fun v_52 ls hl => ?_)
                refine y_inc (kp := 1) (n := 1) (fun v_53 => [(4, .int v_53), (3, .int v_52), (0, .ref (ad 0)), (1, .int a1), (2, .int a2)]) C0 hl rfl (by decide) (by decide) (fun _ => rfl) (o27_81 e_2 c_3 e_7 c_8 b_32 b_33 hn_31 c_34 (le_min x4_24) (le_max x4_24) (le_min v_1) (le_max v_1) (le_min a2) (le_max a2) (le_min v_6) (le_max v_6)) (o27_82 e_2 c_3 e_7 c_8 b_32 b_33 hn_31 c_34 (le_min x4_24) (le_max x4_24) (le_min v_1) (le_max v_1) (le_min a2) (le_max a2) (le_min v_6) (le_max v_6)) dX11_week_70 (fun v_53 ls e_54 hl => ?_)
                refine lv_goto (tgt := 54) C0.1 C0.2.1 dX11_week_73 (by decide) ?_
                exact ih_29 v_53 v_52 _ _ _ _ (o27_83 e_2 c_3 e_7 c_8 b_32 b_33 hn_31 c_34 e_54) (o27_84 e_2 c_3 e_7 c_8 b_32 b_33 hn_31 c_34 e_54) (o27_85 e_2 c_3 e_7 c_8 b_32 b_33 hn_31 c_34 e_54) h (Fr.tr hF_27 u_44) (lv_sub hl [0, 1, 2, 3, 4] rfl)
        exact lp_28 ((60 - v_22.toInt + 1).toNat) v_22 v_20 _ _ _ _ (o27_86 e_23) (o27_54 e_23) (o27_87 e_23) h Fr.rf (lv_sub hl [0, 1, 2, 3, 4] rfl)
      · -- 24
        refine y_c2 (n := (-5)) C0 (by decide) dX11_week_27 (fun v_55 e_56 => ?_)
        rw [hQ]
        exact y_iret C0 h Fr.rf ⟨hR, hH⟩ dX11_week_29
    · -- 8
      refine y_c2 (n := (-3)) C0 (by decide) dX11_week_11 (fun v_57 e_58 => ?_)
      rw [hQ]
      exact y_iret C0 h Fr.rf ⟨hR, hH⟩ dX11_week_13
