theorem dX0_allows_0 : decode cX0_allows 0 = .ok (.aload_n 0, 1) := by decide +kernel
theorem dX0_allows_1 : decode cX0_allows 1 = .ok (.getfield 45, 3) := by decide +kernel
theorem dX0_allows_4 : decode cX0_allows 4 = .ok (.ifCond .le 13, 3) := by decide +kernel
theorem dX0_allows_7 : decode cX0_allows 7 = .ok (.aload_n 0, 1) := by decide +kernel
theorem dX0_allows_8 : decode cX0_allows 8 = .ok (.getfield 18, 3) := by decide +kernel
theorem dX0_allows_11 : decode cX0_allows 11 = .ok (.invokevirtual 78, 3) := by decide +kernel
theorem dX0_allows_14 : decode cX0_allows 14 = .ok (.ifCond .ne 5, 3) := by decide +kernel
theorem dX0_allows_17 : decode cX0_allows 17 = .ok (.iconst 1, 1) := by decide +kernel
theorem dX0_allows_18 : decode cX0_allows 18 = .ok (.ireturn, 1) := by decide +kernel
theorem dX0_allows_19 : decode cX0_allows 19 = .ok (.aload_n 0, 1) := by decide +kernel
theorem dX0_allows_20 : decode cX0_allows 20 = .ok (.getfield 18, 3) := by decide +kernel
theorem dX0_allows_23 : decode cX0_allows 23 = .ok (.iload_n 1, 1) := by decide +kernel
theorem dX0_allows_24 : decode cX0_allows 24 = .ok (.aload_n 0, 1) := by decide +kernel
theorem dX0_allows_25 : decode cX0_allows 25 = .ok (.getfield 45, 3) := by decide +kernel
theorem dX0_allows_28 : decode cX0_allows 28 = .ok (.irem, 1) := by decide +kernel
theorem dX0_allows_29 : decode cX0_allows 29 = .ok (.iload_n 1, 1) := by decide +kernel
theorem dX0_allows_30 : decode cX0_allows 30 = .ok (.aload_n 0, 1) := by decide +kernel
theorem dX0_allows_31 : decode cX0_allows 31 = .ok (.getfield 45, 3) := by decide +kernel
theorem dX0_allows_34 : decode cX0_allows 34 = .ok (.idiv, 1) := by decide +kernel
theorem dX0_allows_35 : decode cX0_allows 35 = .ok (.iload_n 2, 1) := by decide +kernel
theorem dX0_allows_36 : decode cX0_allows 36 = .ok (.aload_n 0, 1) := by decide +kernel
theorem dX0_allows_37 : decode cX0_allows 37 = .ok (.getfield 24, 3) := by decide +kernel
theorem dX0_allows_40 : decode cX0_allows 40 = .ok (.getfield 97, 3) := by decide +kernel
theorem dX0_allows_43 : decode cX0_allows 43 = .ok (.iload_n 1, 1) := by decide +kernel
theorem dX0_allows_44 : decode cX0_allows 44 = .ok (.iaload, 1) := by decide +kernel
theorem dX0_allows_45 : decode cX0_allows 45 = .ok (.iload_n 3, 1) := by decide +kernel
theorem dX0_allows_46 : decode cX0_allows 46 = .ok (.invokevirtual 82, 3) := by decide +kernel
theorem dX0_allows_49 : decode cX0_allows 49 = .ok (.ifCond .eq 7, 3) := by decide +kernel
theorem dX0_allows_52 : decode cX0_allows 52 = .ok (.iconst 1, 1) := by decide +kernel
theorem dX0_allows_53 : decode cX0_allows 53 = .ok (.goto 4, 3) := by decide +kernel
theorem dX0_allows_56 : decode cX0_allows 56 = .ok (.iconst 0, 1) := by decide +kernel
theorem dX0_allows_57 : decode cX0_allows 57 = .ok (.ireturn, 1) := by decide +kernel
theorem dX0_buysOne_0 : decode cX0_buysOne 0 = .ok (.aload_n 0, 1) := by decide +kernel
theorem dX0_buysOne_1 : decode cX0_buysOne 1 = .ok (.iload_n 1, 1) := by decide +kernel
theorem dX0_buysOne_2 : decode cX0_buysOne 2 = .ok (.iconst 0, 1) := by decide +kernel
theorem dX0_buysOne_3 : decode cX0_buysOne 3 = .ok (.invokevirtual 133, 3) := by decide +kernel
theorem dX0_buysOne_6 : decode cX0_buysOne 6 = .ok (.istore_n 2, 1) := by decide +kernel
theorem dX0_buysOne_7 : decode cX0_buysOne 7 = .ok (.iload_n 2, 1) := by decide +kernel
theorem dX0_buysOne_8 : decode cX0_buysOne 8 = .ok (.aload_n 0, 1) := by decide +kernel
theorem dX0_buysOne_9 : decode cX0_buysOne 9 = .ok (.getfield 24, 3) := by decide +kernel
theorem dX0_buysOne_12 : decode cX0_buysOne 12 = .ok (.getfield 136, 3) := by decide +kernel
theorem dX0_buysOne_15 : decode cX0_buysOne 15 = .ok (.iload_n 1, 1) := by decide +kernel
theorem dX0_buysOne_16 : decode cX0_buysOne 16 = .ok (.iaload, 1) := by decide +kernel
theorem dX0_buysOne_17 : decode cX0_buysOne 17 = .ok (.if_icmp .gt 17, 3) := by decide +kernel
theorem dX0_buysOne_20 : decode cX0_buysOne 20 = .ok (.aload_n 0, 1) := by decide +kernel
theorem dX0_buysOne_21 : decode cX0_buysOne 21 = .ok (.getfield 24, 3) := by decide +kernel
theorem dX0_buysOne_24 : decode cX0_buysOne 24 = .ok (.getfield 121, 3) := by decide +kernel
theorem dX0_buysOne_27 : decode cX0_buysOne 27 = .ok (.iload_n 1, 1) := by decide +kernel
theorem dX0_buysOne_28 : decode cX0_buysOne 28 = .ok (.iaload, 1) := by decide +kernel
theorem dX0_buysOne_29 : decode cX0_buysOne 29 = .ok (.bipush 99, 2) := by decide +kernel
theorem dX0_buysOne_31 : decode cX0_buysOne 31 = .ok (.if_icmp .lt 5, 3) := by decide +kernel
theorem dX0_buysOne_34 : decode cX0_buysOne 34 = .ok (.iconst 0, 1) := by decide +kernel
theorem dX0_buysOne_35 : decode cX0_buysOne 35 = .ok (.ireturn, 1) := by decide +kernel
theorem dX0_buysOne_36 : decode cX0_buysOne 36 = .ok (.aload_n 0, 1) := by decide +kernel
theorem dX0_buysOne_37 : decode cX0_buysOne 37 = .ok (.getfield 24, 3) := by decide +kernel
theorem dX0_buysOne_40 : decode cX0_buysOne 40 = .ok (.getfield 136, 3) := by decide +kernel
theorem dX0_buysOne_43 : decode cX0_buysOne 43 = .ok (.iload_n 1, 1) := by decide +kernel
theorem dX0_buysOne_44 : decode cX0_buysOne 44 = .ok (.dup2, 1) := by decide +kernel
theorem dX0_buysOne_45 : decode cX0_buysOne 45 = .ok (.iaload, 1) := by decide +kernel
theorem dX0_buysOne_46 : decode cX0_buysOne 46 = .ok (.iload_n 2, 1) := by decide +kernel
theorem dX0_buysOne_47 : decode cX0_buysOne 47 = .ok (.isub, 1) := by decide +kernel
theorem dX0_buysOne_48 : decode cX0_buysOne 48 = .ok (.iastore, 1) := by decide +kernel
theorem dX0_buysOne_49 : decode cX0_buysOne 49 = .ok (.aload_n 0, 1) := by decide +kernel
theorem dX0_buysOne_50 : decode cX0_buysOne 50 = .ok (.getfield 24, 3) := by decide +kernel
theorem dX0_buysOne_53 : decode cX0_buysOne 53 = .ok (.getfield 121, 3) := by decide +kernel
theorem dX0_buysOne_56 : decode cX0_buysOne 56 = .ok (.iload_n 1, 1) := by decide +kernel
theorem dX0_buysOne_57 : decode cX0_buysOne 57 = .ok (.dup2, 1) := by decide +kernel
theorem dX0_buysOne_58 : decode cX0_buysOne 58 = .ok (.iaload, 1) := by decide +kernel
theorem dX0_buysOne_59 : decode cX0_buysOne 59 = .ok (.iconst 1, 1) := by decide +kernel
theorem dX0_buysOne_60 : decode cX0_buysOne 60 = .ok (.iadd, 1) := by decide +kernel
theorem dX0_buysOne_61 : decode cX0_buysOne 61 = .ok (.iastore, 1) := by decide +kernel
theorem dX0_buysOne_62 : decode cX0_buysOne 62 = .ok (.aload_n 0, 1) := by decide +kernel
theorem dX0_buysOne_63 : decode cX0_buysOne 63 = .ok (.getfield 24, 3) := by decide +kernel
theorem dX0_buysOne_66 : decode cX0_buysOne 66 = .ok (.getfield 97, 3) := by decide +kernel
theorem dX0_buysOne_69 : decode cX0_buysOne 69 = .ok (.aload_n 0, 1) := by decide +kernel
theorem dX0_buysOne_70 : decode cX0_buysOne 70 = .ok (.getfield 24, 3) := by decide +kernel
theorem dX0_buysOne_73 : decode cX0_buysOne 73 = .ok (.getfield 91, 3) := by decide +kernel
theorem dX0_buysOne_76 : decode cX0_buysOne 76 = .ok (.iload_n 1, 1) := by decide +kernel
theorem dX0_buysOne_77 : decode cX0_buysOne 77 = .ok (.iaload, 1) := by decide +kernel
theorem dX0_buysOne_78 : decode cX0_buysOne 78 = .ok (.dup2, 1) := by decide +kernel
theorem dX0_buysOne_79 : decode cX0_buysOne 79 = .ok (.iaload, 1) := by decide +kernel
theorem dX0_buysOne_80 : decode cX0_buysOne 80 = .ok (.iconst 1, 1) := by decide +kernel
theorem dX0_buysOne_81 : decode cX0_buysOne 81 = .ok (.iadd, 1) := by decide +kernel
theorem dX0_buysOne_82 : decode cX0_buysOne 82 = .ok (.iastore, 1) := by decide +kernel
theorem dX0_buysOne_83 : decode cX0_buysOne 83 = .ok (.iconst 1, 1) := by decide +kernel
theorem dX0_buysOne_84 : decode cX0_buysOne 84 = .ok (.ireturn, 1) := by decide +kernel
theorem dX0_cost_0 : decode cX0_cost 0 = .ok (.aload_n 0, 1) := by decide +kernel
theorem dX0_cost_1 : decode cX0_cost 1 = .ok (.getfield 45, 3) := by decide +kernel
theorem dX0_cost_4 : decode cX0_cost 4 = .ok (.ifCond .le 13, 3) := by decide +kernel
theorem dX0_cost_7 : decode cX0_cost 7 = .ok (.aload_n 0, 1) := by decide +kernel
theorem dX0_cost_8 : decode cX0_cost 8 = .ok (.getfield 12, 3) := by decide +kernel
theorem dX0_cost_11 : decode cX0_cost 11 = .ok (.invokevirtual 78, 3) := by decide +kernel
theorem dX0_cost_14 : decode cX0_cost 14 = .ok (.ifCond .ne 5, 3) := by decide +kernel
theorem dX0_cost_17 : decode cX0_cost 17 = .ok (.iconst 1, 1) := by decide +kernel
theorem dX0_cost_18 : decode cX0_cost 18 = .ok (.ireturn, 1) := by decide +kernel
theorem dX0_cost_19 : decode cX0_cost 19 = .ok (.iconst 0, 1) := by decide +kernel
theorem dX0_cost_20 : decode cX0_cost 20 = .ok (.aload_n 0, 1) := by decide +kernel
theorem dX0_cost_21 : decode cX0_cost 21 = .ok (.getfield 12, 3) := by decide +kernel
theorem dX0_cost_24 : decode cX0_cost 24 = .ok (.iload_n 1, 1) := by decide +kernel
theorem dX0_cost_25 : decode cX0_cost 25 = .ok (.aload_n 0, 1) := by decide +kernel
theorem dX0_cost_26 : decode cX0_cost 26 = .ok (.getfield 45, 3) := by decide +kernel
theorem dX0_cost_29 : decode cX0_cost 29 = .ok (.irem, 1) := by decide +kernel
theorem dX0_cost_30 : decode cX0_cost 30 = .ok (.iload_n 1, 1) := by decide +kernel
theorem dX0_cost_31 : decode cX0_cost 31 = .ok (.aload_n 0, 1) := by decide +kernel
theorem dX0_cost_32 : decode cX0_cost 32 = .ok (.getfield 45, 3) := by decide +kernel
theorem dX0_cost_35 : decode cX0_cost 35 = .ok (.idiv, 1) := by decide +kernel
theorem dX0_cost_36 : decode cX0_cost 36 = .ok (.iload_n 2, 1) := by decide +kernel
theorem dX0_cost_37 : decode cX0_cost 37 = .ok (.iload_n 3, 1) := by decide +kernel
theorem dX0_cost_38 : decode cX0_cost 38 = .ok (.iload 4, 2) := by decide +kernel
theorem dX0_cost_40 : decode cX0_cost 40 = .ok (.invokevirtual 82, 3) := by decide +kernel
theorem dX0_cost_43 : decode cX0_cost 43 = .ok (.invokestatic 86, 3) := by decide +kernel
theorem dX0_cost_46 : decode cX0_cost 46 = .ok (.ireturn, 1) := by decide +kernel
theorem dX0_costTo_0 : decode cX0_costTo 0 = .ok (.aload_n 0, 1) := by decide +kernel
theorem dX0_costTo_1 : decode cX0_costTo 1 = .ok (.getfield 24, 3) := by decide +kernel
theorem dX0_costTo_4 : decode cX0_costTo 4 = .ok (.getfield 91, 3) := by decide +kernel
theorem dX0_costTo_7 : decode cX0_costTo 7 = .ok (.iload_n 1, 1) := by decide +kernel
theorem dX0_costTo_8 : decode cX0_costTo 8 = .ok (.iaload, 1) := by decide +kernel
theorem dX0_costTo_9 : decode cX0_costTo 9 = .ok (.istore_n 3, 1) := by decide +kernel
theorem dX0_costTo_10 : decode cX0_costTo 10 = .ok (.aload_n 0, 1) := by decide +kernel
theorem dX0_costTo_11 : decode cX0_costTo 11 = .ok (.iload_n 3, 1) := by decide +kernel
theorem dX0_costTo_12 : decode cX0_costTo 12 = .ok (.aload_n 0, 1) := by decide +kernel
theorem dX0_costTo_13 : decode cX0_costTo 13 = .ok (.getfield 24, 3) := by decide +kernel
theorem dX0_costTo_16 : decode cX0_costTo 16 = .ok (.getfield 94, 3) := by decide +kernel
theorem dX0_costTo_19 : decode cX0_costTo 19 = .ok (.aload_n 0, 1) := by decide +kernel
theorem dX0_costTo_20 : decode cX0_costTo 20 = .ok (.getfield 24, 3) := by decide +kernel
theorem dX0_costTo_23 : decode cX0_costTo 23 = .ok (.getfield 97, 3) := by decide +kernel
theorem dX0_costTo_26 : decode cX0_costTo 26 = .ok (.iload_n 3, 1) := by decide +kernel
theorem dX0_costTo_27 : decode cX0_costTo 27 = .ok (.iaload, 1) := by decide +kernel
theorem dX0_costTo_28 : decode cX0_costTo 28 = .ok (.iload_n 2, 1) := by decide +kernel
theorem dX0_costTo_29 : decode cX0_costTo 29 = .ok (.iadd, 1) := by decide +kernel
theorem dX0_costTo_30 : decode cX0_costTo 30 = .ok (.aload_n 0, 1) := by decide +kernel
theorem dX0_costTo_31 : decode cX0_costTo 31 = .ok (.getfield 24, 3) := by decide +kernel
theorem dX0_costTo_34 : decode cX0_costTo 34 = .ok (.getfield 100, 3) := by decide +kernel
theorem dX0_costTo_37 : decode cX0_costTo 37 = .ok (.iload_n 1, 1) := by decide +kernel
theorem dX0_costTo_38 : decode cX0_costTo 38 = .ok (.iaload, 1) := by decide +kernel
theorem dX0_costTo_39 : decode cX0_costTo 39 = .ok (.invokevirtual 103, 3) := by decide +kernel
theorem dX0_costTo_42 : decode cX0_costTo 42 = .ok (.ireturn, 1) := by decide +kernel
theorem dX0_crossings_0 : decode cX0_crossings 0 = .ok (.aload_n 0, 1) := by decide +kernel
theorem dX0_crossings_1 : decode cX0_crossings 1 = .ok (.getfield 45, 3) := by decide +kernel
theorem dX0_crossings_4 : decode cX0_crossings 4 = .ok (.aload_n 0, 1) := by decide +kernel
theorem dX0_crossings_5 : decode cX0_crossings 5 = .ok (.getfield 49, 3) := by decide +kernel
theorem dX0_crossings_8 : decode cX0_crossings 8 = .ok (.imul, 1) := by decide +kernel
theorem dX0_crossings_9 : decode cX0_crossings 9 = .ok (.ireturn, 1) := by decide +kernel
theorem dX0_freeBits_0 : decode cX0_freeBits 0 = .ok (.aload_n 0, 1) := by decide +kernel
theorem dX0_freeBits_1 : decode cX0_freeBits 1 = .ok (.getfield 55, 3) := by decide +kernel
theorem dX0_freeBits_4 : decode cX0_freeBits 4 = .ok (.istore_n 2, 1) := by decide +kernel
theorem dX0_freeBits_5 : decode cX0_freeBits 5 = .ok (.iconst 0, 1) := by decide +kernel
theorem dX0_freeBits_6 : decode cX0_freeBits 6 = .ok (.istore_n 3, 1) := by decide +kernel
theorem dX0_freeBits_7 : decode cX0_freeBits 7 = .ok (.iload_n 3, 1) := by decide +kernel
theorem dX0_freeBits_8 : decode cX0_freeBits 8 = .ok (.bipush 25, 2) := by decide +kernel
theorem dX0_freeBits_10 : decode cX0_freeBits 10 = .ok (.if_icmp .ge 28, 3) := by decide +kernel
theorem dX0_freeBits_13 : decode cX0_freeBits 13 = .ok (.aload_n 0, 1) := by decide +kernel
theorem dX0_freeBits_14 : decode cX0_freeBits 14 = .ok (.getfield 24, 3) := by decide +kernel
theorem dX0_freeBits_17 : decode cX0_freeBits 17 = .ok (.getfield 107, 3) := by decide +kernel
theorem dX0_freeBits_20 : decode cX0_freeBits 20 = .ok (.iload_n 3, 1) := by decide +kernel
theorem dX0_freeBits_21 : decode cX0_freeBits 21 = .ok (.iaload, 1) := by decide +kernel
theorem dX0_freeBits_22 : decode cX0_freeBits 22 = .ok (.iload_n 1, 1) := by decide +kernel
theorem dX0_freeBits_23 : decode cX0_freeBits 23 = .ok (.if_icmp .le 9, 3) := by decide +kernel
theorem dX0_freeBits_26 : decode cX0_freeBits 26 = .ok (.iload_n 2, 1) := by decide +kernel
theorem dX0_freeBits_27 : decode cX0_freeBits 27 = .ok (.iconst 1, 1) := by decide +kernel
theorem dX0_freeBits_28 : decode cX0_freeBits 28 = .ok (.iload_n 3, 1) := by decide +kernel
theorem dX0_freeBits_29 : decode cX0_freeBits 29 = .ok (.ishl, 1) := by decide +kernel
theorem dX0_freeBits_30 : decode cX0_freeBits 30 = .ok (.ior, 1) := by decide +kernel
theorem dX0_freeBits_31 : decode cX0_freeBits 31 = .ok (.istore_n 2, 1) := by decide +kernel
theorem dX0_freeBits_32 : decode cX0_freeBits 32 = .ok (.iinc 3 1, 3) := by decide +kernel
theorem dX0_freeBits_35 : decode cX0_freeBits 35 = .ok (.goto (-28), 3) := by decide +kernel
theorem dX0_freeBits_38 : decode cX0_freeBits 38 = .ok (.iload_n 2, 1) := by decide +kernel
theorem dX0_freeBits_39 : decode cX0_freeBits 39 = .ok (.ireturn, 1) := by decide +kernel
theorem dX0_hindrance_0 : decode cX0_hindrance 0 = .ok (.iload_n 1, 1) := by decide +kernel
theorem dX0_hindrance_1 : decode cX0_hindrance 1 = .ok (.ifCond .lt 23, 3) := by decide +kernel
theorem dX0_hindrance_4 : decode cX0_hindrance 4 = .ok (.iload_n 1, 1) := by decide +kernel
theorem dX0_hindrance_5 : decode cX0_hindrance 5 = .ok (.aload_n 0, 1) := by decide +kernel
theorem dX0_hindrance_6 : decode cX0_hindrance 6 = .ok (.getfield 24, 3) := by decide +kernel
theorem dX0_hindrance_9 : decode cX0_hindrance 9 = .ok (.getfield 114, 3) := by decide +kernel
theorem dX0_hindrance_12 : decode cX0_hindrance 12 = .ok (.if_icmp .ge 12, 3) := by decide +kernel
theorem dX0_hindrance_15 : decode cX0_hindrance 15 = .ok (.iload_n 2, 1) := by decide +kernel
theorem dX0_hindrance_16 : decode cX0_hindrance 16 = .ok (.ifCond .lt 8, 3) := by decide +kernel
theorem dX0_hindrance_19 : decode cX0_hindrance 19 = .ok (.iload_n 2, 1) := by decide +kernel
theorem dX0_hindrance_20 : decode cX0_hindrance 20 = .ok (.iconst 3, 1) := by decide +kernel
theorem dX0_hindrance_21 : decode cX0_hindrance 21 = .ok (.if_icmp .le 5, 3) := by decide +kernel
theorem dX0_hindrance_24 : decode cX0_hindrance 24 = .ok (.iconst 1, 1) := by decide +kernel
theorem dX0_hindrance_25 : decode cX0_hindrance 25 = .ok (.ireturn, 1) := by decide +kernel
theorem dX0_hindrance_26 : decode cX0_hindrance 26 = .ok (.aload_n 0, 1) := by decide +kernel
theorem dX0_hindrance_27 : decode cX0_hindrance 27 = .ok (.getfield 24, 3) := by decide +kernel
theorem dX0_hindrance_30 : decode cX0_hindrance 30 = .ok (.getfield 91, 3) := by decide +kernel
theorem dX0_hindrance_33 : decode cX0_hindrance 33 = .ok (.iload_n 1, 1) := by decide +kernel
theorem dX0_hindrance_34 : decode cX0_hindrance 34 = .ok (.iaload, 1) := by decide +kernel
theorem dX0_hindrance_35 : decode cX0_hindrance 35 = .ok (.istore_n 3, 1) := by decide +kernel
theorem dX0_hindrance_36 : decode cX0_hindrance 36 = .ok (.aload_n 0, 1) := by decide +kernel
theorem dX0_hindrance_37 : decode cX0_hindrance 37 = .ok (.getfield 24, 3) := by decide +kernel
theorem dX0_hindrance_40 : decode cX0_hindrance 40 = .ok (.getfield 100, 3) := by decide +kernel
theorem dX0_hindrance_43 : decode cX0_hindrance 43 = .ok (.iload_n 1, 1) := by decide +kernel
theorem dX0_hindrance_44 : decode cX0_hindrance 44 = .ok (.iaload, 1) := by decide +kernel
theorem dX0_hindrance_45 : decode cX0_hindrance 45 = .ok (.getstatic 75, 3) := by decide +kernel
theorem dX0_hindrance_48 : decode cX0_hindrance 48 = .ok (.iload_n 2, 1) := by decide +kernel
theorem dX0_hindrance_49 : decode cX0_hindrance 49 = .ok (.iaload, 1) := by decide +kernel
theorem dX0_hindrance_50 : decode cX0_hindrance 50 = .ok (.iadd, 1) := by decide +kernel
theorem dX0_hindrance_51 : decode cX0_hindrance 51 = .ok (.iconst 3, 1) := by decide +kernel
theorem dX0_hindrance_52 : decode cX0_hindrance 52 = .ok (.iand, 1) := by decide +kernel
theorem dX0_hindrance_53 : decode cX0_hindrance 53 = .ok (.istore 4, 2) := by decide +kernel
theorem dX0_hindrance_55 : decode cX0_hindrance 55 = .ok (.aload_n 0, 1) := by decide +kernel
theorem dX0_hindrance_56 : decode cX0_hindrance 56 = .ok (.iload_n 3, 1) := by decide +kernel
theorem dX0_hindrance_57 : decode cX0_hindrance 57 = .ok (.iload 4, 2) := by decide +kernel
theorem dX0_hindrance_59 : decode cX0_hindrance 59 = .ok (.invokevirtual 71, 3) := by decide +kernel
theorem dX0_hindrance_62 : decode cX0_hindrance 62 = .ok (.ifCond .ge 5, 3) := by decide +kernel
theorem dX0_hindrance_65 : decode cX0_hindrance 65 = .ok (.iconst 2, 1) := by decide +kernel
theorem dX0_hindrance_66 : decode cX0_hindrance 66 = .ok (.ireturn, 1) := by decide +kernel
theorem dX0_hindrance_67 : decode cX0_hindrance 67 = .ok (.iload_n 2, 1) := by decide +kernel
theorem dX0_hindrance_68 : decode cX0_hindrance 68 = .ok (.iconst 2, 1) := by decide +kernel
theorem dX0_hindrance_69 : decode cX0_hindrance 69 = .ok (.if_icmp .lt 22, 3) := by decide +kernel
theorem dX0_hindrance_72 : decode cX0_hindrance 72 = .ok (.aload_n 0, 1) := by decide +kernel
theorem dX0_hindrance_73 : decode cX0_hindrance 73 = .ok (.iload_n 3, 1) := by decide +kernel
theorem dX0_hindrance_74 : decode cX0_hindrance 74 = .ok (.aload_n 0, 1) := by decide +kernel
theorem dX0_hindrance_75 : decode cX0_hindrance 75 = .ok (.getfield 24, 3) := by decide +kernel
theorem dX0_hindrance_78 : decode cX0_hindrance 78 = .ok (.getfield 94, 3) := by decide +kernel
theorem dX0_hindrance_81 : decode cX0_hindrance 81 = .ok (.iload 4, 2) := by decide +kernel
theorem dX0_hindrance_83 : decode cX0_hindrance 83 = .ok (.invokevirtual 117, 3) := by decide +kernel
theorem dX0_hindrance_86 : decode cX0_hindrance 86 = .ok (.ifCond .ne 5, 3) := by decide +kernel
theorem dX0_hindrance_89 : decode cX0_hindrance 89 = .ok (.iconst 3, 1) := by decide +kernel
theorem dX0_hindrance_90 : decode cX0_hindrance 90 = .ok (.ireturn, 1) := by decide +kernel
theorem dX0_hindrance_91 : decode cX0_hindrance 91 = .ok (.aload_n 0, 1) := by decide +kernel
theorem dX0_hindrance_92 : decode cX0_hindrance 92 = .ok (.getfield 24, 3) := by decide +kernel
theorem dX0_hindrance_95 : decode cX0_hindrance 95 = .ok (.getfield 121, 3) := by decide +kernel
theorem dX0_hindrance_98 : decode cX0_hindrance 98 = .ok (.iload_n 1, 1) := by decide +kernel
theorem dX0_hindrance_99 : decode cX0_hindrance 99 = .ok (.iaload, 1) := by decide +kernel
theorem dX0_hindrance_100 : decode cX0_hindrance 100 = .ok (.aload_n 0, 1) := by decide +kernel
theorem dX0_hindrance_101 : decode cX0_hindrance 101 = .ok (.iload_n 3, 1) := by decide +kernel
theorem dX0_hindrance_102 : decode cX0_hindrance 102 = .ok (.iload_n 2, 1) := by decide +kernel
theorem dX0_hindrance_103 : decode cX0_hindrance 103 = .ok (.invokevirtual 124, 3) := by decide +kernel
theorem dX0_hindrance_106 : decode cX0_hindrance 106 = .ok (.if_icmp .ge 7, 3) := by decide +kernel
theorem dX0_hindrance_109 : decode cX0_hindrance 109 = .ok (.iconst 4, 1) := by decide +kernel
theorem dX0_hindrance_110 : decode cX0_hindrance 110 = .ok (.goto 4, 3) := by decide +kernel
theorem dX0_hindrance_113 : decode cX0_hindrance 113 = .ok (.iconst 0, 1) := by decide +kernel
theorem dX0_hindrance_114 : decode cX0_hindrance 114 = .ok (.ireturn, 1) := by decide +kernel
theorem dX0_leftsTaken_0 : decode cX0_leftsTaken 0 = .ok (.iload_n 2, 1) := by decide +kernel
theorem dX0_leftsTaken_1 : decode cX0_leftsTaken 1 = .ok (.iconst 2, 1) := by decide +kernel
theorem dX0_leftsTaken_2 : decode cX0_leftsTaken 2 = .ok (.if_icmp .lt 21, 3) := by decide +kernel
theorem dX0_leftsTaken_5 : decode cX0_leftsTaken 5 = .ok (.aload_n 0, 1) := by decide +kernel
theorem dX0_leftsTaken_6 : decode cX0_leftsTaken 6 = .ok (.aload_n 0, 1) := by decide +kernel
theorem dX0_leftsTaken_7 : decode cX0_leftsTaken 7 = .ok (.getfield 24, 3) := by decide +kernel
theorem dX0_leftsTaken_10 : decode cX0_leftsTaken 10 = .ok (.getfield 94, 3) := by decide +kernel
theorem dX0_leftsTaken_13 : decode cX0_leftsTaken 13 = .ok (.invokevirtual 110, 3) := by decide +kernel
theorem dX0_leftsTaken_16 : decode cX0_leftsTaken 16 = .ok (.iload_n 1, 1) := by decide +kernel
theorem dX0_leftsTaken_17 : decode cX0_leftsTaken 17 = .ok (.ishr, 1) := by decide +kernel
theorem dX0_leftsTaken_18 : decode cX0_leftsTaken 18 = .ok (.iconst 1, 1) := by decide +kernel
theorem dX0_leftsTaken_19 : decode cX0_leftsTaken 19 = .ok (.iand, 1) := by decide +kernel
theorem dX0_leftsTaken_20 : decode cX0_leftsTaken 20 = .ok (.ifCond .eq 5, 3) := by decide +kernel
theorem dX0_leftsTaken_23 : decode cX0_leftsTaken 23 = .ok (.iconst 0, 1) := by decide +kernel
theorem dX0_leftsTaken_24 : decode cX0_leftsTaken 24 = .ok (.ireturn, 1) := by decide +kernel
theorem dX0_leftsTaken_25 : decode cX0_leftsTaken 25 = .ok (.iload_n 2, 1) := by decide +kernel
theorem dX0_leftsTaken_26 : decode cX0_leftsTaken 26 = .ok (.iconst 1, 1) := by decide +kernel
theorem dX0_leftsTaken_27 : decode cX0_leftsTaken 27 = .ok (.isub, 1) := by decide +kernel
theorem dX0_leftsTaken_28 : decode cX0_leftsTaken 28 = .ok (.ireturn, 1) := by decide +kernel
theorem dX0_makeToldFree_0 : decode cX0_makeToldFree 0 = .ok (.aload_n 0, 1) := by decide +kernel
theorem dX0_makeToldFree_1 : decode cX0_makeToldFree 1 = .ok (.dup, 1) := by decide +kernel
theorem dX0_makeToldFree_2 : decode cX0_makeToldFree 2 = .ok (.getfield 55, 3) := by decide +kernel
theorem dX0_makeToldFree_5 : decode cX0_makeToldFree 5 = .ok (.iconst 1, 1) := by decide +kernel
theorem dX0_makeToldFree_6 : decode cX0_makeToldFree 6 = .ok (.iload_n 1, 1) := by decide +kernel
theorem dX0_makeToldFree_7 : decode cX0_makeToldFree 7 = .ok (.ishl, 1) := by decide +kernel
theorem dX0_makeToldFree_8 : decode cX0_makeToldFree 8 = .ok (.ior, 1) := by decide +kernel
theorem dX0_makeToldFree_9 : decode cX0_makeToldFree 9 = .ok (.putfield 55, 3) := by decide +kernel
theorem dX0_makeToldFree_12 : decode cX0_makeToldFree 12 = .ok (.return_, 1) := by decide +kernel
theorem dX0_moved_0 : decode cX0_moved 0 = .ok (.iload_n 1, 1) := by decide +kernel
theorem dX0_moved_1 : decode cX0_moved 1 = .ok (.aload_n 0, 1) := by decide +kernel
theorem dX0_moved_2 : decode cX0_moved 2 = .ok (.getfield 28, 3) := by decide +kernel
theorem dX0_moved_5 : decode cX0_moved 5 = .ok (.iload_n 2, 1) := by decide +kernel
theorem dX0_moved_6 : decode cX0_moved 6 = .ok (.iaload, 1) := by decide +kernel
theorem dX0_moved_7 : decode cX0_moved 7 = .ok (.iand, 1) := by decide +kernel
theorem dX0_moved_8 : decode cX0_moved 8 = .ok (.istore_n 3, 1) := by decide +kernel
theorem dX0_moved_9 : decode cX0_moved 9 = .ok (.aload_n 0, 1) := by decide +kernel
theorem dX0_moved_10 : decode cX0_moved 10 = .ok (.getfield 32, 3) := by decide +kernel
theorem dX0_moved_13 : decode cX0_moved 13 = .ok (.iload_n 2, 1) := by decide +kernel
theorem dX0_moved_14 : decode cX0_moved 14 = .ok (.iaload, 1) := by decide +kernel
theorem dX0_moved_15 : decode cX0_moved 15 = .ok (.ifCond .le 14, 3) := by decide +kernel
theorem dX0_moved_18 : decode cX0_moved 18 = .ok (.iload_n 3, 1) := by decide +kernel
theorem dX0_moved_19 : decode cX0_moved 19 = .ok (.aload_n 0, 1) := by decide +kernel
theorem dX0_moved_20 : decode cX0_moved 20 = .ok (.getfield 32, 3) := by decide +kernel
theorem dX0_moved_23 : decode cX0_moved 23 = .ok (.iload_n 2, 1) := by decide +kernel
theorem dX0_moved_24 : decode cX0_moved 24 = .ok (.iaload, 1) := by decide +kernel
theorem dX0_moved_25 : decode cX0_moved 25 = .ok (.ishl, 1) := by decide +kernel
theorem dX0_moved_26 : decode cX0_moved 26 = .ok (.goto 12, 3) := by decide +kernel
theorem dX0_moved_29 : decode cX0_moved 29 = .ok (.iload_n 3, 1) := by decide +kernel
theorem dX0_moved_30 : decode cX0_moved 30 = .ok (.aload_n 0, 1) := by decide +kernel
theorem dX0_moved_31 : decode cX0_moved 31 = .ok (.getfield 32, 3) := by decide +kernel
theorem dX0_moved_34 : decode cX0_moved 34 = .ok (.iload_n 2, 1) := by decide +kernel
theorem dX0_moved_35 : decode cX0_moved 35 = .ok (.iaload, 1) := by decide +kernel
theorem dX0_moved_36 : decode cX0_moved 36 = .ok (.ineg, 1) := by decide +kernel
theorem dX0_moved_37 : decode cX0_moved 37 = .ok (.ishr, 1) := by decide +kernel
theorem dX0_moved_38 : decode cX0_moved 38 = .ok (.ireturn, 1) := by decide +kernel
theorem dX0_movedBack_0 : decode cX0_movedBack 0 = .ok (.aload_n 0, 1) := by decide +kernel
theorem dX0_movedBack_1 : decode cX0_movedBack 1 = .ok (.getfield 32, 3) := by decide +kernel
theorem dX0_movedBack_4 : decode cX0_movedBack 4 = .ok (.iload_n 2, 1) := by decide +kernel
theorem dX0_movedBack_5 : decode cX0_movedBack 5 = .ok (.iaload, 1) := by decide +kernel
theorem dX0_movedBack_6 : decode cX0_movedBack 6 = .ok (.ifCond .le 14, 3) := by decide +kernel
theorem dX0_movedBack_9 : decode cX0_movedBack 9 = .ok (.iload_n 1, 1) := by decide +kernel
theorem dX0_movedBack_10 : decode cX0_movedBack 10 = .ok (.aload_n 0, 1) := by decide +kernel
theorem dX0_movedBack_11 : decode cX0_movedBack 11 = .ok (.getfield 32, 3) := by decide +kernel
theorem dX0_movedBack_14 : decode cX0_movedBack 14 = .ok (.iload_n 2, 1) := by decide +kernel
theorem dX0_movedBack_15 : decode cX0_movedBack 15 = .ok (.iaload, 1) := by decide +kernel
theorem dX0_movedBack_16 : decode cX0_movedBack 16 = .ok (.ishr, 1) := by decide +kernel
theorem dX0_movedBack_17 : decode cX0_movedBack 17 = .ok (.goto 12, 3) := by decide +kernel
theorem dX0_movedBack_20 : decode cX0_movedBack 20 = .ok (.iload_n 1, 1) := by decide +kernel
theorem dX0_movedBack_21 : decode cX0_movedBack 21 = .ok (.aload_n 0, 1) := by decide +kernel
theorem dX0_movedBack_22 : decode cX0_movedBack 22 = .ok (.getfield 32, 3) := by decide +kernel
theorem dX0_movedBack_25 : decode cX0_movedBack 25 = .ok (.iload_n 2, 1) := by decide +kernel
theorem dX0_movedBack_26 : decode cX0_movedBack 26 = .ok (.iaload, 1) := by decide +kernel
theorem dX0_movedBack_27 : decode cX0_movedBack 27 = .ok (.ineg, 1) := by decide +kernel
theorem dX0_movedBack_28 : decode cX0_movedBack 28 = .ok (.ishl, 1) := by decide +kernel
theorem dX0_movedBack_29 : decode cX0_movedBack 29 = .ok (.istore_n 3, 1) := by decide +kernel
theorem dX0_movedBack_30 : decode cX0_movedBack 30 = .ok (.iload_n 3, 1) := by decide +kernel
theorem dX0_movedBack_31 : decode cX0_movedBack 31 = .ok (.aload_n 0, 1) := by decide +kernel
theorem dX0_movedBack_32 : decode cX0_movedBack 32 = .ok (.getfield 28, 3) := by decide +kernel
theorem dX0_movedBack_35 : decode cX0_movedBack 35 = .ok (.iload_n 2, 1) := by decide +kernel
theorem dX0_movedBack_36 : decode cX0_movedBack 36 = .ok (.iaload, 1) := by decide +kernel
theorem dX0_movedBack_37 : decode cX0_movedBack 37 = .ok (.iand, 1) := by decide +kernel
theorem dX0_movedBack_38 : decode cX0_movedBack 38 = .ok (.ireturn, 1) := by decide +kernel
theorem dX0_standAfter_0 : decode cX0_standAfter 0 = .ok (.iload_n 1, 1) := by decide +kernel
theorem dX0_standAfter_1 : decode cX0_standAfter 1 = .ok (.getstatic 75, 3) := by decide +kernel
theorem dX0_standAfter_4 : decode cX0_standAfter 4 = .ok (.iload_n 2, 1) := by decide +kernel
theorem dX0_standAfter_5 : decode cX0_standAfter 5 = .ok (.iaload, 1) := by decide +kernel
theorem dX0_standAfter_6 : decode cX0_standAfter 6 = .ok (.iadd, 1) := by decide +kernel
theorem dX0_standAfter_7 : decode cX0_standAfter 7 = .ok (.iconst 3, 1) := by decide +kernel
theorem dX0_standAfter_8 : decode cX0_standAfter 8 = .ok (.iand, 1) := by decide +kernel
theorem dX0_standAfter_9 : decode cX0_standAfter 9 = .ok (.istore_n 3, 1) := by decide +kernel
theorem dX0_standAfter_10 : decode cX0_standAfter 10 = .ok (.iload_n 1, 1) := by decide +kernel
theorem dX0_standAfter_11 : decode cX0_standAfter 11 = .ok (.iconst 2, 1) := by decide +kernel
theorem dX0_standAfter_12 : decode cX0_standAfter 12 = .ok (.ishr, 1) := by decide +kernel
theorem dX0_standAfter_13 : decode cX0_standAfter 13 = .ok (.istore 4, 2) := by decide +kernel
theorem dX0_standAfter_15 : decode cX0_standAfter 15 = .ok (.aload_n 0, 1) := by decide +kernel
theorem dX0_standAfter_16 : decode cX0_standAfter 16 = .ok (.getfield 28, 3) := by decide +kernel
theorem dX0_standAfter_19 : decode cX0_standAfter 19 = .ok (.iload_n 3, 1) := by decide +kernel
theorem dX0_standAfter_20 : decode cX0_standAfter 20 = .ok (.iaload, 1) := by decide +kernel
theorem dX0_standAfter_21 : decode cX0_standAfter 21 = .ok (.iload 4, 2) := by decide +kernel
theorem dX0_standAfter_23 : decode cX0_standAfter 23 = .ok (.ishr, 1) := by decide +kernel
theorem dX0_standAfter_24 : decode cX0_standAfter 24 = .ok (.iconst 1, 1) := by decide +kernel
theorem dX0_standAfter_25 : decode cX0_standAfter 25 = .ok (.iand, 1) := by decide +kernel
theorem dX0_standAfter_26 : decode cX0_standAfter 26 = .ok (.ifCond .eq 19, 3) := by decide +kernel
theorem dX0_standAfter_29 : decode cX0_standAfter 29 = .ok (.iconst 4, 1) := by decide +kernel
theorem dX0_standAfter_30 : decode cX0_standAfter 30 = .ok (.iload 4, 2) := by decide +kernel
theorem dX0_standAfter_32 : decode cX0_standAfter 32 = .ok (.aload_n 0, 1) := by decide +kernel
theorem dX0_standAfter_33 : decode cX0_standAfter 33 = .ok (.getfield 32, 3) := by decide +kernel
theorem dX0_standAfter_36 : decode cX0_standAfter 36 = .ok (.iload_n 3, 1) := by decide +kernel
theorem dX0_standAfter_37 : decode cX0_standAfter 37 = .ok (.iaload, 1) := by decide +kernel
theorem dX0_standAfter_38 : decode cX0_standAfter 38 = .ok (.iadd, 1) := by decide +kernel
theorem dX0_standAfter_39 : decode cX0_standAfter 39 = .ok (.imul, 1) := by decide +kernel
theorem dX0_standAfter_40 : decode cX0_standAfter 40 = .ok (.iload_n 3, 1) := by decide +kernel
theorem dX0_standAfter_41 : decode cX0_standAfter 41 = .ok (.iadd, 1) := by decide +kernel
theorem dX0_standAfter_42 : decode cX0_standAfter 42 = .ok (.goto 4, 3) := by decide +kernel
theorem dX0_standAfter_45 : decode cX0_standAfter 45 = .ok (.iconst (-1), 1) := by decide +kernel
theorem dX0_standAfter_46 : decode cX0_standAfter 46 = .ok (.ireturn, 1) := by decide +kernel
theorem dX0_step_0 : decode cX0_step 0 = .ok (.aload_n 0, 1) := by decide +kernel
theorem dX0_step_1 : decode cX0_step 1 = .ok (.getfield 24, 3) := by decide +kernel
theorem dX0_step_4 : decode cX0_step 4 = .ok (.getfield 91, 3) := by decide +kernel
theorem dX0_step_7 : decode cX0_step 7 = .ok (.iload_n 1, 1) := by decide +kernel
theorem dX0_step_8 : decode cX0_step 8 = .ok (.iaload, 1) := by decide +kernel
theorem dX0_step_9 : decode cX0_step 9 = .ok (.istore_n 3, 1) := by decide +kernel
theorem dX0_step_10 : decode cX0_step 10 = .ok (.aload_n 0, 1) := by decide +kernel
theorem dX0_step_11 : decode cX0_step 11 = .ok (.getfield 24, 3) := by decide +kernel
theorem dX0_step_14 : decode cX0_step 14 = .ok (.getfield 100, 3) := by decide +kernel
theorem dX0_step_17 : decode cX0_step 17 = .ok (.iload_n 1, 1) := by decide +kernel
theorem dX0_step_18 : decode cX0_step 18 = .ok (.iaload, 1) := by decide +kernel
theorem dX0_step_19 : decode cX0_step 19 = .ok (.getstatic 75, 3) := by decide +kernel
theorem dX0_step_22 : decode cX0_step 22 = .ok (.iload_n 2, 1) := by decide +kernel
theorem dX0_step_23 : decode cX0_step 23 = .ok (.iaload, 1) := by decide +kernel
theorem dX0_step_24 : decode cX0_step 24 = .ok (.iadd, 1) := by decide +kernel
theorem dX0_step_25 : decode cX0_step 25 = .ok (.iconst 3, 1) := by decide +kernel
theorem dX0_step_26 : decode cX0_step 26 = .ok (.iand, 1) := by decide +kernel
theorem dX0_step_27 : decode cX0_step 27 = .ok (.istore 4, 2) := by decide +kernel
theorem dX0_step_29 : decode cX0_step 29 = .ok (.aload_n 0, 1) := by decide +kernel
theorem dX0_step_30 : decode cX0_step 30 = .ok (.iload_n 3, 1) := by decide +kernel
theorem dX0_step_31 : decode cX0_step 31 = .ok (.iload_n 2, 1) := by decide +kernel
theorem dX0_step_32 : decode cX0_step 32 = .ok (.invokevirtual 124, 3) := by decide +kernel
theorem dX0_step_35 : decode cX0_step 35 = .ok (.istore 5, 2) := by decide +kernel
theorem dX0_step_37 : decode cX0_step 37 = .ok (.aload_n 0, 1) := by decide +kernel
theorem dX0_step_38 : decode cX0_step 38 = .ok (.getfield 24, 3) := by decide +kernel
theorem dX0_step_41 : decode cX0_step 41 = .ok (.getfield 121, 3) := by decide +kernel
theorem dX0_step_44 : decode cX0_step 44 = .ok (.iload_n 1, 1) := by decide +kernel
theorem dX0_step_45 : decode cX0_step 45 = .ok (.dup2, 1) := by decide +kernel
theorem dX0_step_46 : decode cX0_step 46 = .ok (.iaload, 1) := by decide +kernel
theorem dX0_step_47 : decode cX0_step 47 = .ok (.iload 5, 2) := by decide +kernel
theorem dX0_step_49 : decode cX0_step 49 = .ok (.isub, 1) := by decide +kernel
theorem dX0_step_50 : decode cX0_step 50 = .ok (.iastore, 1) := by decide +kernel
theorem dX0_step_51 : decode cX0_step 51 = .ok (.aload_n 0, 1) := by decide +kernel
theorem dX0_step_52 : decode cX0_step 52 = .ok (.getfield 24, 3) := by decide +kernel
theorem dX0_step_55 : decode cX0_step 55 = .ok (.getfield 127, 3) := by decide +kernel
theorem dX0_step_58 : decode cX0_step 58 = .ok (.iload_n 1, 1) := by decide +kernel
theorem dX0_step_59 : decode cX0_step 59 = .ok (.sipush 999, 3) := by decide +kernel
theorem dX0_step_62 : decode cX0_step 62 = .ok (.aload_n 0, 1) := by decide +kernel
theorem dX0_step_63 : decode cX0_step 63 = .ok (.getfield 24, 3) := by decide +kernel
theorem dX0_step_66 : decode cX0_step 66 = .ok (.getfield 127, 3) := by decide +kernel
theorem dX0_step_69 : decode cX0_step 69 = .ok (.iload_n 1, 1) := by decide +kernel
theorem dX0_step_70 : decode cX0_step 70 = .ok (.iaload, 1) := by decide +kernel
theorem dX0_step_71 : decode cX0_step 71 = .ok (.iload 5, 2) := by decide +kernel
theorem dX0_step_73 : decode cX0_step 73 = .ok (.iadd, 1) := by decide +kernel
theorem dX0_step_74 : decode cX0_step 74 = .ok (.invokestatic 130, 3) := by decide +kernel
theorem dX0_step_77 : decode cX0_step 77 = .ok (.iastore, 1) := by decide +kernel
theorem dX0_step_78 : decode cX0_step 78 = .ok (.aload_n 0, 1) := by decide +kernel
theorem dX0_step_79 : decode cX0_step 79 = .ok (.getfield 24, 3) := by decide +kernel
theorem dX0_step_82 : decode cX0_step 82 = .ok (.getfield 91, 3) := by decide +kernel
theorem dX0_step_85 : decode cX0_step 85 = .ok (.iload_n 1, 1) := by decide +kernel
theorem dX0_step_86 : decode cX0_step 86 = .ok (.aload_n 0, 1) := by decide +kernel
theorem dX0_step_87 : decode cX0_step 87 = .ok (.iload_n 3, 1) := by decide +kernel
theorem dX0_step_88 : decode cX0_step 88 = .ok (.iload 4, 2) := by decide +kernel
theorem dX0_step_90 : decode cX0_step 90 = .ok (.invokevirtual 71, 3) := by decide +kernel
theorem dX0_step_93 : decode cX0_step 93 = .ok (.iastore, 1) := by decide +kernel
theorem dX0_step_94 : decode cX0_step 94 = .ok (.aload_n 0, 1) := by decide +kernel
theorem dX0_step_95 : decode cX0_step 95 = .ok (.getfield 24, 3) := by decide +kernel
theorem dX0_step_98 : decode cX0_step 98 = .ok (.getfield 100, 3) := by decide +kernel
theorem dX0_step_101 : decode cX0_step 101 = .ok (.iload_n 1, 1) := by decide +kernel
theorem dX0_step_102 : decode cX0_step 102 = .ok (.iload 4, 2) := by decide +kernel
theorem dX0_step_104 : decode cX0_step 104 = .ok (.iastore, 1) := by decide +kernel
theorem dX0_step_105 : decode cX0_step 105 = .ok (.aload_n 0, 1) := by decide +kernel
theorem dX0_step_106 : decode cX0_step 106 = .ok (.getfield 24, 3) := by decide +kernel
theorem dX0_step_109 : decode cX0_step 109 = .ok (.dup, 1) := by decide +kernel
theorem dX0_step_110 : decode cX0_step 110 = .ok (.getfield 94, 3) := by decide +kernel
theorem dX0_step_113 : decode cX0_step 113 = .ok (.iconst 1, 1) := by decide +kernel
theorem dX0_step_114 : decode cX0_step 114 = .ok (.iadd, 1) := by decide +kernel
theorem dX0_step_115 : decode cX0_step 115 = .ok (.putfield 94, 3) := by decide +kernel
theorem dX0_step_118 : decode cX0_step 118 = .ok (.iload 5, 2) := by decide +kernel
theorem dX0_step_120 : decode cX0_step 120 = .ok (.ireturn, 1) := by decide +kernel
theorem dX0_streetsFrom_0 : decode cX0_streetsFrom 0 = .ok (.iconst 0, 1) := by decide +kernel
theorem dX0_streetsFrom_1 : decode cX0_streetsFrom 1 = .ok (.istore_n 2, 1) := by decide +kernel
theorem dX0_streetsFrom_2 : decode cX0_streetsFrom 2 = .ok (.iconst 0, 1) := by decide +kernel
theorem dX0_streetsFrom_3 : decode cX0_streetsFrom 3 = .ok (.istore_n 3, 1) := by decide +kernel
theorem dX0_streetsFrom_4 : decode cX0_streetsFrom 4 = .ok (.iload_n 3, 1) := by decide +kernel
theorem dX0_streetsFrom_5 : decode cX0_streetsFrom 5 = .ok (.iconst 4, 1) := by decide +kernel
theorem dX0_streetsFrom_6 : decode cX0_streetsFrom 6 = .ok (.if_icmp .ge 22, 3) := by decide +kernel
theorem dX0_streetsFrom_9 : decode cX0_streetsFrom 9 = .ok (.iload_n 2, 1) := by decide +kernel
theorem dX0_streetsFrom_10 : decode cX0_streetsFrom 10 = .ok (.aload_n 0, 1) := by decide +kernel
theorem dX0_streetsFrom_11 : decode cX0_streetsFrom 11 = .ok (.getfield 28, 3) := by decide +kernel
theorem dX0_streetsFrom_14 : decode cX0_streetsFrom 14 = .ok (.iload_n 3, 1) := by decide +kernel
theorem dX0_streetsFrom_15 : decode cX0_streetsFrom 15 = .ok (.iaload, 1) := by decide +kernel
theorem dX0_streetsFrom_16 : decode cX0_streetsFrom 16 = .ok (.iload_n 1, 1) := by decide +kernel
theorem dX0_streetsFrom_17 : decode cX0_streetsFrom 17 = .ok (.ishr, 1) := by decide +kernel
theorem dX0_streetsFrom_18 : decode cX0_streetsFrom 18 = .ok (.iconst 1, 1) := by decide +kernel
theorem dX0_streetsFrom_19 : decode cX0_streetsFrom 19 = .ok (.iand, 1) := by decide +kernel
theorem dX0_streetsFrom_20 : decode cX0_streetsFrom 20 = .ok (.iadd, 1) := by decide +kernel
theorem dX0_streetsFrom_21 : decode cX0_streetsFrom 21 = .ok (.istore_n 2, 1) := by decide +kernel
theorem dX0_streetsFrom_22 : decode cX0_streetsFrom 22 = .ok (.iinc 3 1, 3) := by decide +kernel
theorem dX0_streetsFrom_25 : decode cX0_streetsFrom 25 = .ok (.goto (-21), 3) := by decide +kernel
theorem dX0_streetsFrom_28 : decode cX0_streetsFrom 28 = .ok (.iload_n 2, 1) := by decide +kernel
theorem dX0_streetsFrom_29 : decode cX0_streetsFrom 29 = .ok (.ireturn, 1) := by decide +kernel
theorem dX0_to_0 : decode cX0_to 0 = .ok (.aload_n 0, 1) := by decide +kernel
theorem dX0_to_1 : decode cX0_to 1 = .ok (.getfield 28, 3) := by decide +kernel
theorem dX0_to_4 : decode cX0_to 4 = .ok (.iload_n 2, 1) := by decide +kernel
theorem dX0_to_5 : decode cX0_to 5 = .ok (.iaload, 1) := by decide +kernel
theorem dX0_to_6 : decode cX0_to 6 = .ok (.iload_n 1, 1) := by decide +kernel
theorem dX0_to_7 : decode cX0_to 7 = .ok (.ishr, 1) := by decide +kernel
theorem dX0_to_8 : decode cX0_to 8 = .ok (.iconst 1, 1) := by decide +kernel
theorem dX0_to_9 : decode cX0_to 9 = .ok (.iand, 1) := by decide +kernel
theorem dX0_to_10 : decode cX0_to 10 = .ok (.ifCond .eq 14, 3) := by decide +kernel
theorem dX0_to_13 : decode cX0_to 13 = .ok (.iload_n 1, 1) := by decide +kernel
theorem dX0_to_14 : decode cX0_to 14 = .ok (.aload_n 0, 1) := by decide +kernel
theorem dX0_to_15 : decode cX0_to 15 = .ok (.getfield 32, 3) := by decide +kernel
theorem dX0_to_18 : decode cX0_to 18 = .ok (.iload_n 2, 1) := by decide +kernel
theorem dX0_to_19 : decode cX0_to 19 = .ok (.iaload, 1) := by decide +kernel
theorem dX0_to_20 : decode cX0_to 20 = .ok (.iadd, 1) := by decide +kernel
theorem dX0_to_21 : decode cX0_to 21 = .ok (.goto 4, 3) := by decide +kernel
theorem dX0_to_24 : decode cX0_to 24 = .ok (.iconst (-1), 1) := by decide +kernel
theorem dX0_to_25 : decode cX0_to 25 = .ok (.ireturn, 1) := by decide +kernel
theorem o14_1 {x0 : Int} (h0 : 0 ≤ x0) (h1 : x0 ≤ 3) : 0 ≤ x0 := by omega
theorem o14_2 {x0 : Int} (h0 : 0 ≤ x0) (h1 : x0 ≤ 3) : x0 < (4 : Nat) := by omega
theorem o14_3 {x0 : Int} (h0 : x0 = 1) : x0 = 1 := by omega
theorem o14_4 {x0 : Int} (h0 : x0 = (-1)) : (-1) ≤ x0 := by omega
theorem o14_5 {x0 : Int} (h0 : x0 = (-1)) : x0 ≤ 24 := by omega
theorem o14_6 {x0 : Int} (h0 : x0 = (-1)) : x0 = -1 := by omega
theorem o14_7 {x0 x1 : Int} (h0 : 0 ≤ x0) (h1 : x0 ≤ 24) (h2 : (-5) ≤ x1) (h3 : x1 ≤ 5) (h4 : 0 ≤ x0 + x1) (h5 : x0 + x1 ≤ 24) (h6 : -2147483648 ≤ x0) (h7 : x0 ≤ 2147483647) (h8 : -2147483648 ≤ x1) (h9 : x1 ≤ 2147483647) : -2147483648 ≤ x0 + x1 := by omega
theorem o14_8 {x0 x1 : Int} (h0 : 0 ≤ x0) (h1 : x0 ≤ 24) (h2 : (-5) ≤ x1) (h3 : x1 ≤ 5) (h4 : 0 ≤ x0 + x1) (h5 : x0 + x1 ≤ 24) (h6 : -2147483648 ≤ x0) (h7 : x0 ≤ 2147483647) (h8 : -2147483648 ≤ x1) (h9 : x1 ≤ 2147483647) : x0 + x1 ≤ 2147483647 := by omega
theorem o14_9 {x0 x1 x2 : Int} (h0 : 0 ≤ x1) (h1 : x1 ≤ 24) (h2 : (-5) ≤ x2) (h3 : x2 ≤ 5) (h4 : 0 ≤ x1 + x2) (h5 : x1 + x2 ≤ 24) (h6 : x0 = x1 + x2) : (-1) ≤ x0 := by omega
theorem o14_10 {x0 x1 x2 : Int} (h0 : 0 ≤ x1) (h1 : x1 ≤ 24) (h2 : (-5) ≤ x2) (h3 : x2 ≤ 5) (h4 : 0 ≤ x1 + x2) (h5 : x1 + x2 ≤ 24) (h6 : x0 = x1 + x2) : x0 ≤ 24 := by omega
theorem o14_11 {x0 x1 x2 : Int} (h0 : 0 ≤ x1) (h1 : x1 ≤ 24) (h2 : (-5) ≤ x2) (h3 : x2 ≤ 5) (h4 : 0 ≤ x1 + x2) (h5 : x1 + x2 ≤ 24) (h6 : x0 = x1 + x2) : 0 ≤ x0 := by omega
theorem o14_12 {x0 : Int} (h0 : 0 ≤ x0) (h1 : x0 ≤ 3) : x0 < 4 := by omega
theorem o14_13 {x0 x1 : Int} (h0 : 0 ≤ x0) (h1 : x0 ≤ 99) (h2 : 0 ≤ x1) (h3 : x1 ≤ 3) (h4 : -2147483648 ≤ x0) (h5 : x0 ≤ 2147483647) (h6 : -2147483648 ≤ x1) (h7 : x1 ≤ 2147483647) : -2147483648 ≤ x0 + x1 := by omega
theorem o14_14 {x0 x1 : Int} (h0 : 0 ≤ x0) (h1 : x0 ≤ 99) (h2 : 0 ≤ x1) (h3 : x1 ≤ 3) (h4 : -2147483648 ≤ x0) (h5 : x0 ≤ 2147483647) (h6 : -2147483648 ≤ x1) (h7 : x1 ≤ 2147483647) : x0 + x1 ≤ 2147483647 := by omega
theorem o14_15 {x0 : Int} (h0 : x0 = 3) : x0 = 3 := by omega
theorem o14_16 {x0 : Int} (h0 : x0 = 2) : x0 = 2 := by omega
theorem o14_17 {x0 : Int} (h0 : x0 = (-1)) : x0 ≤ 99 := by omega
theorem o14_18 {x0 x1 x2 x3 : Int} (h0 : 0 ≤ x1) (h1 : x1 ≤ 99) (h2 : 0 ≤ x2) (h3 : x2 ≤ 3) (h4 : x3 = x1 + x2) (h5 : x0 = x1 / 4) : 0 ≤ x0 := by omega
theorem o14_19 {x0 x1 x2 x3 : Int} (h0 : 0 ≤ x1) (h1 : x1 ≤ 99) (h2 : 0 ≤ x2) (h3 : x2 ≤ 3) (h4 : x3 = x1 + x2) (h5 : x0 = x1 / 4) : x0 ≤ 24 := by omega
theorem o14_20 {x0 : Int} (h0 : 0 ≤ x0) (h1 : x0 ≤ 3) : x0 ≤ 3 := by omega
theorem o14_21 {x0 x1 x2 x3 x4 : Int} (h0 : 0 ≤ x2) (h1 : x2 ≤ 99) (h2 : 0 ≤ x3) (h3 : x3 ≤ 3) (h4 : x4 = x2 + x3) (h5 : x0 = x2 / 4) (h6 : (-5) ≤ x1) (h7 : x1 ≤ 5) (h8 : 0 ≤ x0 + x1) (h9 : x0 + x1 ≤ 24) (h10 : -2147483648 ≤ x0) (h11 : x0 ≤ 2147483647) (h12 : -2147483648 ≤ x1) (h13 : x1 ≤ 2147483647) (h14 : -2147483648 ≤ x2) (h15 : x2 ≤ 2147483647) (h16 : -2147483648 ≤ x3) (h17 : x3 ≤ 2147483647) (h18 : -2147483648 ≤ x4) (h19 : x4 ≤ 2147483647) : -2147483648 ≤ x0 + x1 := by omega
theorem o14_22 {x0 x1 x2 x3 x4 : Int} (h0 : 0 ≤ x2) (h1 : x2 ≤ 99) (h2 : 0 ≤ x3) (h3 : x3 ≤ 3) (h4 : x4 = x2 + x3) (h5 : x0 = x2 / 4) (h6 : (-5) ≤ x1) (h7 : x1 ≤ 5) (h8 : 0 ≤ x0 + x1) (h9 : x0 + x1 ≤ 24) (h10 : -2147483648 ≤ x0) (h11 : x0 ≤ 2147483647) (h12 : -2147483648 ≤ x1) (h13 : x1 ≤ 2147483647) (h14 : -2147483648 ≤ x2) (h15 : x2 ≤ 2147483647) (h16 : -2147483648 ≤ x3) (h17 : x3 ≤ 2147483647) (h18 : -2147483648 ≤ x4) (h19 : x4 ≤ 2147483647) : x0 + x1 ≤ 2147483647 := by omega
theorem o14_23 {x0 : Int} (h0 : x0 = 4) : x0 = 4 := by omega
theorem o14_24 {x0 x1 x2 x3 x4 x5 : Int} (h0 : 0 ≤ x1) (h1 : x1 ≤ 99) (h2 : 0 ≤ x2) (h3 : x2 ≤ 3) (h4 : x3 = x1 + x2) (h5 : x4 = x1 / 4) (h6 : (-5) ≤ x5) (h7 : x5 ≤ 5) (h8 : 0 ≤ x4 + x5) (h9 : x4 + x5 ≤ 24) (h10 : x0 = x4 + x5) (h11 : -2147483648 ≤ x0) (h12 : x0 ≤ 2147483647) (h13 : -2147483648 ≤ x1) (h14 : x1 ≤ 2147483647) (h15 : -2147483648 ≤ x2) (h16 : x2 ≤ 2147483647) (h17 : -2147483648 ≤ x3) (h18 : x3 ≤ 2147483647) (h19 : -2147483648 ≤ x4) (h20 : x4 ≤ 2147483647) (h21 : -2147483648 ≤ x5) (h22 : x5 ≤ 2147483647) : -2147483648 ≤ 4 * x0 := by omega
theorem o14_25 {x0 x1 x2 x3 x4 x5 : Int} (h0 : 0 ≤ x1) (h1 : x1 ≤ 99) (h2 : 0 ≤ x2) (h3 : x2 ≤ 3) (h4 : x3 = x1 + x2) (h5 : x4 = x1 / 4) (h6 : (-5) ≤ x5) (h7 : x5 ≤ 5) (h8 : 0 ≤ x4 + x5) (h9 : x4 + x5 ≤ 24) (h10 : x0 = x4 + x5) (h11 : -2147483648 ≤ x0) (h12 : x0 ≤ 2147483647) (h13 : -2147483648 ≤ x1) (h14 : x1 ≤ 2147483647) (h15 : -2147483648 ≤ x2) (h16 : x2 ≤ 2147483647) (h17 : -2147483648 ≤ x3) (h18 : x3 ≤ 2147483647) (h19 : -2147483648 ≤ x4) (h20 : x4 ≤ 2147483647) (h21 : -2147483648 ≤ x5) (h22 : x5 ≤ 2147483647) : 4 * x0 ≤ 2147483647 := by omega
theorem o14_26 {x0 x1 x2 x3 x4 x5 x6 x7 : Int} (h0 : 0 ≤ x2) (h1 : x2 ≤ 99) (h2 : 0 ≤ x3) (h3 : x3 ≤ 3) (h4 : x4 = x2 + x3) (h5 : 0 ≤ x1) (h6 : x1 ≤ 3) (h7 : x5 = x2 / 4) (h8 : (-5) ≤ x6) (h9 : x6 ≤ 5) (h10 : 0 ≤ x5 + x6) (h11 : x5 + x6 ≤ 24) (h12 : x7 = x5 + x6) (h13 : x0 = 4 * x7) (h14 : -2147483648 ≤ x0) (h15 : x0 ≤ 2147483647) (h16 : -2147483648 ≤ x1) (h17 : x1 ≤ 2147483647) (h18 : -2147483648 ≤ x2) (h19 : x2 ≤ 2147483647) (h20 : -2147483648 ≤ x3) (h21 : x3 ≤ 2147483647) (h22 : -2147483648 ≤ x4) (h23 : x4 ≤ 2147483647) (h24 : -2147483648 ≤ x5) (h25 : x5 ≤ 2147483647) (h26 : -2147483648 ≤ x6) (h27 : x6 ≤ 2147483647) (h28 : -2147483648 ≤ x7) (h29 : x7 ≤ 2147483647) : -2147483648 ≤ x0 + x1 := by omega
theorem o14_27 {x0 x1 x2 x3 x4 x5 x6 x7 : Int} (h0 : 0 ≤ x2) (h1 : x2 ≤ 99) (h2 : 0 ≤ x3) (h3 : x3 ≤ 3) (h4 : x4 = x2 + x3) (h5 : 0 ≤ x1) (h6 : x1 ≤ 3) (h7 : x5 = x2 / 4) (h8 : (-5) ≤ x6) (h9 : x6 ≤ 5) (h10 : 0 ≤ x5 + x6) (h11 : x5 + x6 ≤ 24) (h12 : x7 = x5 + x6) (h13 : x0 = 4 * x7) (h14 : -2147483648 ≤ x0) (h15 : x0 ≤ 2147483647) (h16 : -2147483648 ≤ x1) (h17 : x1 ≤ 2147483647) (h18 : -2147483648 ≤ x2) (h19 : x2 ≤ 2147483647) (h20 : -2147483648 ≤ x3) (h21 : x3 ≤ 2147483647) (h22 : -2147483648 ≤ x4) (h23 : x4 ≤ 2147483647) (h24 : -2147483648 ≤ x5) (h25 : x5 ≤ 2147483647) (h26 : -2147483648 ≤ x6) (h27 : x6 ≤ 2147483647) (h28 : -2147483648 ≤ x7) (h29 : x7 ≤ 2147483647) : x0 + x1 ≤ 2147483647 := by omega
theorem o14_28 {x0 x1 x2 x3 x4 x5 x6 x7 x8 : Int} (h0 : 0 ≤ x1) (h1 : x1 ≤ 99) (h2 : 0 ≤ x2) (h3 : x2 ≤ 3) (h4 : x3 = x1 + x2) (h5 : 0 ≤ x4) (h6 : x4 ≤ 3) (h7 : x5 = x1 / 4) (h8 : (-5) ≤ x6) (h9 : x6 ≤ 5) (h10 : 0 ≤ x5 + x6) (h11 : x5 + x6 ≤ 24) (h12 : x7 = x5 + x6) (h13 : x8 = 4 * x7) (h14 : x0 = x8 + x4) : (-1) ≤ x0 := by omega
theorem o14_29 {x0 x1 x2 x3 x4 x5 x6 x7 x8 : Int} (h0 : 0 ≤ x1) (h1 : x1 ≤ 99) (h2 : 0 ≤ x2) (h3 : x2 ≤ 3) (h4 : x3 = x1 + x2) (h5 : 0 ≤ x4) (h6 : x4 ≤ 3) (h7 : x5 = x1 / 4) (h8 : (-5) ≤ x6) (h9 : x6 ≤ 5) (h10 : 0 ≤ x5 + x6) (h11 : x5 + x6 ≤ 24) (h12 : x7 = x5 + x6) (h13 : x8 = 4 * x7) (h14 : x0 = x8 + x4) : x0 ≤ 99 := by omega
theorem o14_30 {x0 : Int} (h0 : 0 ≤ x0) (h1 : x0 ≤ 5) : 0 ≤ x0 := by omega
theorem o14_31 {x0 : Int} (h0 : 0 ≤ x0) (h1 : x0 ≤ 5) : x0 ≤ 5 := by omega
theorem o14_32 {x0 : Int} (h0 : 0 * 0 ≤ x0) (h1 : x0 ≤ 5 * 5) : 0 ≤ x0 := by omega
theorem o14_33 {x0 : Int} (h0 : 0 * 0 ≤ x0) (h1 : x0 ≤ 5 * 5) : x0 ≤ 25 := by omega
theorem o14_34 {x0 : Int} (h0 : 0 ≤ x0) (h1 : x0 ≤ 4) (h2 : 4 - x0 < 0) : False := by omega
theorem o14_35 {x0 x2 : Int} {x1 : Nat} (h0 : 0 ≤ x0) (h1 : x0 ≤ 4) (h2 : 4 - x0 < ((x1 + 1 : Nat) : Int)) (h3 : x2 = 4) (h4 : x2 ≤ x0) : ¬ x0 < 4 := by omega
theorem o14_36 {x0 x2 : Int} {x1 : Nat} (h0 : 0 ≤ x0) (h1 : x0 ≤ 4) (h2 : 4 - x0 < ((x1 + 1 : Nat) : Int)) (h3 : x2 = 4) (h4 : x0 < x2) : x0 < 4 := by omega
theorem o14_37 {x0 x2 : Int} {x1 : Nat} (h0 : 0 ≤ x0) (h1 : x0 ≤ 4) (h2 : 4 - x0 < ((x1 + 1 : Nat) : Int)) (h3 : x2 = 4) (h4 : x0 < x2) : 0 ≤ x0 := by omega
theorem o14_38 {x0 x2 : Int} {x1 : Nat} (h0 : 0 ≤ x0) (h1 : x0 ≤ 4) (h2 : 4 - x0 < ((x1 + 1 : Nat) : Int)) (h3 : x2 = 4) (h4 : x0 < x2) : x0 < (4 : Nat) := by omega
theorem o14_39 {x0 x2 : Int} {x1 : Nat} (h0 : 0 ≤ x0) (h1 : x0 ≤ 4) (h2 : 4 - x0 < ((x1 + 1 : Nat) : Int)) (h3 : x2 = 4) (h4 : x0 < x2) (h5 : -2147483648 ≤ x0) (h6 : x0 ≤ 2147483647) (h7 : -2147483648 ≤ x2) (h8 : x2 ≤ 2147483647) : -2147483648 ≤ x0 + 1 := by omega
theorem o14_40 {x0 x2 : Int} {x1 : Nat} (h0 : 0 ≤ x0) (h1 : x0 ≤ 4) (h2 : 4 - x0 < ((x1 + 1 : Nat) : Int)) (h3 : x2 = 4) (h4 : x0 < x2) (h5 : -2147483648 ≤ x0) (h6 : x0 ≤ 2147483647) (h7 : -2147483648 ≤ x2) (h8 : x2 ≤ 2147483647) : x0 + 1 ≤ 2147483647 := by omega
theorem o14_41 {x0 x2 x3 : Int} {x1 : Nat} (h0 : 0 ≤ x2) (h1 : x2 ≤ 4) (h2 : 4 - x2 < ((x1 + 1 : Nat) : Int)) (h3 : x3 = 4) (h4 : x2 < x3) (h5 : x0 = x2 + 1) : 4 - x0 < (x1 : Int) := by omega
theorem o14_42 {x0 x1 x3 : Int} {x2 : Nat} (h0 : 0 ≤ x1) (h1 : x1 ≤ 4) (h2 : 4 - x1 < ((x2 + 1 : Nat) : Int)) (h3 : x3 = 4) (h4 : x1 < x3) (h5 : x0 = x1 + 1) : 0 ≤ x0 := by omega
theorem o14_43 {x0 x1 x3 : Int} {x2 : Nat} (h0 : 0 ≤ x1) (h1 : x1 ≤ 4) (h2 : 4 - x1 < ((x2 + 1 : Nat) : Int)) (h3 : x3 = 4) (h4 : x1 < x3) (h5 : x0 = x1 + 1) : x0 ≤ 4 := by omega
theorem o14_44 {x0 : Int} (h0 : x0 = 0) : 4 - x0 < (((4 - x0 + 1).toNat : Nat) : Int) := by omega
theorem o14_45 {x0 : Int} (h0 : x0 = 0) : 0 ≤ x0 := by omega
theorem o14_46 {x0 : Int} (h0 : x0 = 0) : x0 ≤ 4 := by omega
theorem o14_47 {x0 x1 : Int} (h0 : (-5) ≤ x1) (h1 : x1 ≤ 5) (h2 : x1 ≤ 0) (h3 : (-5) ≤ x0) (h4 : x0 ≤ 5) (h5 : x0 = x1) (h6 : -2147483648 ≤ x0) (h7 : x0 ≤ 2147483647) (h8 : -2147483648 ≤ x1) (h9 : x1 ≤ 2147483647) : -2147483648 < x0 := by omega
theorem o14_48 {x0 : Int} (h0 : x0 = 1) : 0 ≤ x0 := by omega
theorem o14_49 {x0 x1 : Int} (h0 : 0 ≤ x1) (h1 : x1 ≤ 5) (h2 : 0 < x1) (h3 : 0 ≤ x0) (h4 : x0 ≤ 5) (h5 : x0 = x1) : 0 < x0 := by omega
theorem o14_50 {x0 : Int} (h0 : 0 ≤ x0) (h1 : x0 ≤ 24) : 0 ≤ x0 := by omega
theorem o14_51 {x0 x1 x2 x3 x4 : Int} (h0 : 0 ≤ x1) (h1 : x1 ≤ 24) (h2 : 0 ≤ x2) (h3 : x2 ≤ 5) (h4 : 0 < x2) (h5 : 0 ≤ x3) (h6 : x3 ≤ 5) (h7 : x3 = x2) (h8 : x4 = x1 % x3) (h9 : 0 ≤ x4) (h10 : x4 < x3) (h11 : 0 ≤ x0) (h12 : x0 ≤ 5) (h13 : x0 = x2) : 0 < x0 := by omega
theorem o14_52 {x0 x1 x2 x3 x4 : Int} (h0 : 0 ≤ x0) (h1 : x0 ≤ 24) (h2 : 0 ≤ x1) (h3 : x1 ≤ 5) (h4 : 0 < x1) (h5 : 0 ≤ x2) (h6 : x2 ≤ 5) (h7 : x2 = x1) (h8 : x3 = x0 % x2) (h9 : 0 ≤ x3) (h10 : x3 < x2) (h11 : 0 ≤ x4) (h12 : x4 ≤ 5) (h13 : x4 = x1) : 0 ≤ x0 := by omega
theorem o14_53 {x0 x1 x2 : Int} (h0 : x0 = 0) (h1 : (x1 = x0 ∧ x2 ≤ x0) ∨ (x1 = x2 ∧ x0 ≤ x2)) : x0 = 0 := by omega
theorem o14_54 {x0 x1 x2 : Int} (h0 : x1 = 0) (h1 : (x0 = x1 ∧ x2 ≤ x1) ∨ (x0 = x2 ∧ x1 ≤ x2)) : 0 ≤ x0 := by omega
theorem o14_55 {x0 : Int} (h0 : 0 ≤ x0) (h1 : x0 ≤ 4) : 0 ≤ x0 := by omega
theorem o14_56 {x0 : Int} (h0 : 0 ≤ x0) (h1 : x0 ≤ 4) : x0 < (5 : Nat) := by omega
theorem o14_57 {x0 : Int} (h0 : 0 ≤ x0) (h1 : x0 ≤ 24) : x0 < (25 : Nat) := by omega
theorem o14_58 {x0 : Int} (h0 : 0 ≤ x0) (h1 : x0 ≤ 24) : x0 ≤ 24 := by omega
theorem o14_59 {x0 : Int} (h0 : 0 ≤ x0) : 0 ≤ x0 := by omega
theorem o14_60 {x0 : Int} (h0 : x0 = 1) : x0 ≤ 1 := by omega
theorem o14_61 {x0 x1 x2 x3 x4 x5 : Int} (h0 : 0 ≤ x0) (h1 : x0 ≤ 24) (h2 : 0 ≤ x1) (h3 : x1 ≤ 5) (h4 : 0 < x1) (h5 : 0 ≤ x2) (h6 : x2 ≤ 5) (h7 : x2 = x1) (h8 : x3 = x0 % x2) (h9 : 0 ≤ x3) (h10 : x3 < x2) (h11 : 0 ≤ x4) (h12 : x4 ≤ 5) (h13 : x4 = x1) (h14 : x5 = x0 / x4) (h15 : 0 ≤ x5) (h16 : x5 ≤ x0) : 0 ≤ x0 := by omega
theorem o14_62 {x0 x1 x2 x3 x4 x5 : Int} (h0 : 0 ≤ x0) (h1 : x0 ≤ 24) (h2 : 0 ≤ x1) (h3 : x1 ≤ 5) (h4 : 0 < x1) (h5 : 0 ≤ x2) (h6 : x2 ≤ 5) (h7 : x2 = x1) (h8 : x3 = x0 % x2) (h9 : 0 ≤ x3) (h10 : x3 < x2) (h11 : 0 ≤ x4) (h12 : x4 ≤ 5) (h13 : x4 = x1) (h14 : x5 = x0 / x4) (h15 : 0 ≤ x5) (h16 : x5 ≤ x0) : x0 < (25 : Nat) := by omega
theorem o14_63 {x0 : Int} (h0 : x0 = 0) : x0 ≤ 1 := by omega
theorem o14_64 {x0 : Int} (h0 : 0 ≤ x0) (h1 : x0 ≤ 25) (h2 : 25 - x0 < 0) : False := by omega
theorem o14_65 {x0 : Int} (h0 : x0 = 25) : x0 = 25 := by omega
theorem o14_66 {x0 x2 : Int} {x1 : Nat} (h0 : 0 ≤ x0) (h1 : x0 ≤ 25) (h2 : 25 - x0 < ((x1 + 1 : Nat) : Int)) (h3 : x2 = 25) (h4 : x2 ≤ x0) : ¬ x0 < 25 := by omega
theorem o14_67 {x0 x2 : Int} {x1 : Nat} (h0 : 0 ≤ x0) (h1 : x0 ≤ 25) (h2 : 25 - x0 < ((x1 + 1 : Nat) : Int)) (h3 : x2 = 25) (h4 : x0 < x2) : x0 < 25 := by omega
theorem o14_68 {x0 x2 : Int} {x1 : Nat} (h0 : 0 ≤ x0) (h1 : x0 ≤ 25) (h2 : 25 - x0 < ((x1 + 1 : Nat) : Int)) (h3 : x2 = 25) (h4 : x0 < x2) : 0 ≤ x0 := by omega
theorem o14_69 {x0 x2 : Int} {x1 : Nat} (h0 : 0 ≤ x0) (h1 : x0 ≤ 25) (h2 : 25 - x0 < ((x1 + 1 : Nat) : Int)) (h3 : x2 = 25) (h4 : x0 < x2) : x0 < (25 : Nat) := by omega
theorem o14_70 {x0 x2 : Int} {x1 : Nat} (h0 : 0 ≤ x0) (h1 : x0 ≤ 25) (h2 : 25 - x0 < ((x1 + 1 : Nat) : Int)) (h3 : x2 = 25) (h4 : x0 < x2) (h5 : -2147483648 ≤ x0) (h6 : x0 ≤ 2147483647) (h7 : -2147483648 ≤ x2) (h8 : x2 ≤ 2147483647) : -2147483648 ≤ x0 + 1 := by omega
theorem o14_71 {x0 x2 : Int} {x1 : Nat} (h0 : 0 ≤ x0) (h1 : x0 ≤ 25) (h2 : 25 - x0 < ((x1 + 1 : Nat) : Int)) (h3 : x2 = 25) (h4 : x0 < x2) (h5 : -2147483648 ≤ x0) (h6 : x0 ≤ 2147483647) (h7 : -2147483648 ≤ x2) (h8 : x2 ≤ 2147483647) : x0 + 1 ≤ 2147483647 := by omega
theorem o14_72 {x0 x2 x3 : Int} {x1 : Nat} (h0 : 0 ≤ x2) (h1 : x2 ≤ 25) (h2 : 25 - x2 < ((x1 + 1 : Nat) : Int)) (h3 : x3 = 25) (h4 : x2 < x3) (h5 : x0 = x2 + 1) : 25 - x0 < (x1 : Int) := by omega
theorem o14_73 {x0 x1 x3 : Int} {x2 : Nat} (h0 : 0 ≤ x1) (h1 : x1 ≤ 25) (h2 : 25 - x1 < ((x2 + 1 : Nat) : Int)) (h3 : x3 = 25) (h4 : x1 < x3) (h5 : x0 = x1 + 1) : 0 ≤ x0 := by omega
theorem o14_74 {x0 x1 x3 : Int} {x2 : Nat} (h0 : 0 ≤ x1) (h1 : x1 ≤ 25) (h2 : 25 - x1 < ((x2 + 1 : Nat) : Int)) (h3 : x3 = 25) (h4 : x1 < x3) (h5 : x0 = x1 + 1) : x0 ≤ 25 := by omega
theorem o14_75 {x0 : Int} (h0 : x0 = 0) : 25 - x0 < (((25 - x0 + 1).toNat : Nat) : Int) := by omega
theorem o14_76 {x0 : Int} (h0 : x0 = 0) : x0 ≤ 25 := by omega
theorem o14_77 {x0 x1 : Int} (h0 : 0 ≤ x0) (h1 : x0 ≤ 3) (h2 : x1 = 2) (h3 : x0 < x1) : x0 < 2 := by omega
theorem o14_78 {x0 x1 : Int} (h0 : 0 ≤ x0) (h1 : x0 ≤ 3) (h2 : x1 = 2) (h3 : x1 ≤ x0) : ¬ x0 < 2 := by omega
theorem o14_79 {x0 : Int} (h0 : x0 = 0) : x0 ≤ 2 := by omega
theorem o14_80 {x0 x1 x2 : Int} (h0 : 0 ≤ x0) (h1 : x0 ≤ 3) (h2 : x2 = 2) (h3 : x2 ≤ x0) (h4 : x1 = 1) (h5 : -2147483648 ≤ x0) (h6 : x0 ≤ 2147483647) (h7 : -2147483648 ≤ x1) (h8 : x1 ≤ 2147483647) (h9 : -2147483648 ≤ x2) (h10 : x2 ≤ 2147483647) : -2147483648 ≤ x0 - x1 := by omega
theorem o14_81 {x0 x1 x2 : Int} (h0 : 0 ≤ x0) (h1 : x0 ≤ 3) (h2 : x2 = 2) (h3 : x2 ≤ x0) (h4 : x1 = 1) (h5 : -2147483648 ≤ x0) (h6 : x0 ≤ 2147483647) (h7 : -2147483648 ≤ x1) (h8 : x1 ≤ 2147483647) (h9 : -2147483648 ≤ x2) (h10 : x2 ≤ 2147483647) : x0 - x1 ≤ 2147483647 := by omega
theorem o14_82 {x0 x1 x2 x3 : Int} (h0 : 0 ≤ x1) (h1 : x1 ≤ 3) (h2 : x2 = 2) (h3 : x2 ≤ x1) (h4 : x3 = 1) (h5 : x0 = x1 - x3) : 0 ≤ x0 := by omega
theorem o14_83 {x0 x1 x2 x3 : Int} (h0 : 0 ≤ x1) (h1 : x1 ≤ 3) (h2 : x2 = 2) (h3 : x2 ≤ x1) (h4 : x3 = 1) (h5 : x0 = x1 - x3) : x0 ≤ 2 := by omega
theorem o14_84 {x0 : Int} (h0 : x0 = 1) : x0 ≤ 4 := by omega
theorem o14_85 {x0 x1 x2 : Int} (h0 : x1 < 0) (h1 : x0 = 1) : (x0 = 0 → 0 ≤ x1) ∧ (x0 = 0 → x1 ≤ 4) ∧ (x0 = 0 → 0 ≤ x2) ∧ (x0 = 0 → x2 ≤ 3) := by omega
theorem o14_86 {x0 : Int} (h0 : x0 = 1) (h1 : x0 = 0) : False := by omega
theorem o14_87 {x0 x1 x2 x3 : Int} (h0 : 0 ≤ x1) (h1 : 0 ≤ x3) (h2 : x3 ≤ 5) (h3 : x3 ≤ x1) (h4 : x0 = 1) : (x0 = 0 → 0 ≤ x1) ∧ (x0 = 0 → x1 ≤ 4) ∧ (x0 = 0 → 0 ≤ x2) ∧ (x0 = 0 → x2 ≤ 3) := by omega
theorem o14_88 {x0 x1 x2 x3 : Int} (h0 : 0 ≤ x1) (h1 : 0 ≤ x3) (h2 : x3 ≤ 5) (h3 : x1 < x3) (h4 : x2 < 0) (h5 : x0 = 1) : (x0 = 0 → 0 ≤ x1) ∧ (x0 = 0 → x1 ≤ 4) ∧ (x0 = 0 → 0 ≤ x2) ∧ (x0 = 0 → x2 ≤ 3) := by omega
theorem o14_89 {x0 x1 : Int} (h0 : 0 ≤ x0) (h1 : x1 = 3) (h2 : x0 ≤ x1) : ¬ 3 < x0 := by omega
theorem o14_90 {x0 x1 : Int} (h0 : 0 ≤ x0) (h1 : x1 = 3) (h2 : x1 < x0) : 3 < x0 := by omega
theorem o14_91 {x0 x1 : Int} (h0 : 0 ≤ x0) (h1 : 0 ≤ x1) (h2 : x1 ≤ 5) (h3 : x0 < x1) : 0 ≤ x0 := by omega
theorem o14_92 {x0 x1 : Int} (h0 : 0 ≤ x0) (h1 : 0 ≤ x1) (h2 : x1 ≤ 5) (h3 : x0 < x1) : x0 < (5 : Nat) := by omega
theorem o14_93 {x0 x1 : Int} (h0 : 0 ≤ x0) (h1 : x1 = 3) (h2 : x0 ≤ x1) : 0 ≤ x0 := by omega
theorem o14_94 {x0 x1 : Int} (h0 : 0 ≤ x0) (h1 : x1 = 3) (h2 : x0 ≤ x1) : x0 < 4 := by omega
theorem o14_95 {x0 x1 x2 : Int} (h0 : 0 ≤ x0) (h1 : x1 = 3) (h2 : x0 ≤ x1) (h3 : x2 = 2) (h4 : x0 < x2) : x0 < 2 := by omega
theorem o14_96 {x0 x1 x2 : Int} (h0 : 0 ≤ x0) (h1 : x1 = 3) (h2 : x0 ≤ x1) (h3 : x2 = 2) (h4 : x2 ≤ x0) : ¬ x0 < 2 := by omega
theorem o14_97 {x0 x1 x2 : Int} (h0 : 0 ≤ x0) (h1 : x1 = 3) (h2 : x0 ≤ x1) (h3 : x2 = 2) (h4 : x0 < x2) : 0 ≤ x0 := by omega
theorem o14_98 {x0 x1 x2 : Int} (h0 : 0 ≤ x0) (h1 : x1 = 3) (h2 : x0 ≤ x1) (h3 : x2 = 2) (h4 : x0 < x2) : x0 ≤ 3 := by omega
theorem o14_99 {x0 x1 x2 x3 x4 x5 : Int} (h0 : 0 ≤ x1) (h1 : 0 ≤ x3) (h2 : x3 ≤ 5) (h3 : x1 < x3) (h4 : 0 ≤ x2) (h5 : x4 = 3) (h6 : x2 ≤ x4) (h7 : x5 = 2) (h8 : x2 < x5) (h9 : x0 = 0) : (x0 = 0 → 0 ≤ x1) ∧ (x0 = 0 → x1 ≤ 4) ∧ (x0 = 0 → 0 ≤ x2) ∧ (x0 = 0 → x2 ≤ 3) := by omega
theorem o14_100 {x0 : Int} (h0 : (-1) ≤ x0) (h1 : x0 ≤ 24) (h2 : 0 ≤ x0) (h3 : x0 = -1) : False := by omega
theorem o14_101 {x0 : Int} (h0 : x0 = 4) : 0 ≤ x0 := by omega
theorem o14_102 {x0 : Int} (h0 : x0 = 4) : x0 ≤ 4 := by omega
theorem o14_103 {x0 x1 x2 x3 x4 x5 : Int} (h0 : 0 ≤ x1) (h1 : 0 ≤ x3) (h2 : x3 ≤ 5) (h3 : x1 < x3) (h4 : 0 ≤ x2) (h5 : x4 = 3) (h6 : x2 ≤ x4) (h7 : x5 = 2) (h8 : x2 < x5) (h9 : x0 = 4) : (x0 = 0 → 0 ≤ x1) ∧ (x0 = 0 → x1 ≤ 4) ∧ (x0 = 0 → 0 ≤ x2) ∧ (x0 = 0 → x2 ≤ 3) := by omega
theorem o14_104 {x0 : Int} (h0 : x0 = 4) (h1 : x0 = 0) : False := by omega
theorem o14_105 {x0 x1 x2 : Int} (h0 : 0 ≤ x0) (h1 : x1 = 3) (h2 : x0 ≤ x1) (h3 : x2 = 2) (h4 : x2 ≤ x0) : 0 ≤ x0 := by omega
theorem o14_106 {x0 x1 x2 : Int} (h0 : 0 ≤ x0) (h1 : x1 = 3) (h2 : x0 ≤ x1) (h3 : x2 = 2) (h4 : x2 ≤ x0) : x0 ≤ 3 := by omega
theorem o14_107 {x0 x1 x2 x3 x4 x5 : Int} (h0 : 0 ≤ x1) (h1 : 0 ≤ x3) (h2 : x3 ≤ 5) (h3 : x1 < x3) (h4 : 0 ≤ x2) (h5 : x4 = 3) (h6 : x2 ≤ x4) (h7 : x5 = 2) (h8 : x5 ≤ x2) (h9 : x0 = 0) : (x0 = 0 → 0 ≤ x1) ∧ (x0 = 0 → x1 ≤ 4) ∧ (x0 = 0 → 0 ≤ x2) ∧ (x0 = 0 → x2 ≤ 3) := by omega
theorem o14_108 {x0 x1 x2 x3 x4 x5 : Int} (h0 : 0 ≤ x1) (h1 : 0 ≤ x3) (h2 : x3 ≤ 5) (h3 : x1 < x3) (h4 : 0 ≤ x2) (h5 : x4 = 3) (h6 : x2 ≤ x4) (h7 : x5 = 2) (h8 : x5 ≤ x2) (h9 : x0 = 4) : (x0 = 0 → 0 ≤ x1) ∧ (x0 = 0 → x1 ≤ 4) ∧ (x0 = 0 → 0 ≤ x2) ∧ (x0 = 0 → x2 ≤ 3) := by omega
theorem o14_109 {x0 : Int} (h0 : x0 = 3) : 0 ≤ x0 := by omega
theorem o14_110 {x0 : Int} (h0 : x0 = 3) : x0 ≤ 4 := by omega
theorem o14_111 {x0 x1 x2 x3 x4 x5 : Int} (h0 : 0 ≤ x1) (h1 : 0 ≤ x3) (h2 : x3 ≤ 5) (h3 : x1 < x3) (h4 : 0 ≤ x2) (h5 : x4 = 3) (h6 : x2 ≤ x4) (h7 : x5 = 2) (h8 : x5 ≤ x2) (h9 : x0 = 3) : (x0 = 0 → 0 ≤ x1) ∧ (x0 = 0 → x1 ≤ 4) ∧ (x0 = 0 → 0 ≤ x2) ∧ (x0 = 0 → x2 ≤ 3) := by omega
theorem o14_112 {x0 : Int} (h0 : x0 = 3) (h1 : x0 = 0) : False := by omega
theorem o14_113 {x0 : Int} (h0 : x0 = 2) : 0 ≤ x0 := by omega
theorem o14_114 {x0 : Int} (h0 : x0 = 2) : x0 ≤ 4 := by omega
theorem o14_115 {x0 x1 x2 x3 x4 : Int} (h0 : 0 ≤ x1) (h1 : 0 ≤ x3) (h2 : x3 ≤ 5) (h3 : x1 < x3) (h4 : 0 ≤ x2) (h5 : x4 = 3) (h6 : x2 ≤ x4) (h7 : x0 = 2) : (x0 = 0 → 0 ≤ x1) ∧ (x0 = 0 → x1 ≤ 4) ∧ (x0 = 0 → 0 ≤ x2) ∧ (x0 = 0 → x2 ≤ 3) := by omega
theorem o14_116 {x0 : Int} (h0 : x0 = 2) (h1 : x0 = 0) : False := by omega
theorem o14_117 {x0 x1 x2 x3 x4 : Int} (h0 : 0 ≤ x1) (h1 : 0 ≤ x3) (h2 : x3 ≤ 5) (h3 : x1 < x3) (h4 : 0 ≤ x2) (h5 : x4 = 3) (h6 : x4 < x2) (h7 : x0 = 1) : (x0 = 0 → 0 ≤ x1) ∧ (x0 = 0 → x1 ≤ 4) ∧ (x0 = 0 → 0 ≤ x2) ∧ (x0 = 0 → x2 ≤ 3) := by omega
theorem o14_118 {x0 : Int} (h0 : (-1) ≤ x0) (h1 : x0 ≤ 24) (h2 : 0 ≤ x0) : 0 ≤ x0 := by omega
theorem o14_119 {x0 : Int} (h0 : (-1) ≤ x0) (h1 : x0 ≤ 24) (h2 : 0 ≤ x0) : x0 ≤ 24 := by omega
theorem o14_120 {x0 : Int} (h0 : 0 ≤ x0) (h1 : x0 ≤ 2) : 0 ≤ x0 := by omega
theorem o14_121 {x0 : Int} (h0 : 0 ≤ x0) (h1 : x0 ≤ 2) : x0 ≤ 2 := by omega
theorem o14_122 {x0 : Int} (h0 : 0 ≤ x0) (h1 : x0 ≤ 4) : x0 ≤ 4 := by omega
theorem o14_123 {x0 : Int} (h0 : x0 = 99) : x0 = 99 := by omega
theorem o14_124 {x0 x1 : Int} (h0 : x1 = 99) (h1 : x0 < x1) : x0 < 99 := by omega
theorem o14_125 {x0 x1 : Int} (h0 : x1 = 99) (h1 : x1 ≤ x0) : ¬ x0 < 99 := by omega
theorem o14_126 {x0 x1 x2 : Int} (h0 : 0 ≤ x1) (h1 : x1 ≤ x2) (h2 : x0 = x2) (h3 : -2147483648 ≤ x0) (h4 : x0 ≤ 2147483647) (h5 : -2147483648 ≤ x1) (h6 : x1 ≤ 2147483647) (h7 : -2147483648 ≤ x2) (h8 : x2 ≤ 2147483647) : -2147483648 ≤ x0 - x1 := by omega
theorem o14_127 {x0 x1 x2 : Int} (h0 : 0 ≤ x1) (h1 : x1 ≤ x2) (h2 : x0 = x2) (h3 : -2147483648 ≤ x0) (h4 : x0 ≤ 2147483647) (h5 : -2147483648 ≤ x1) (h6 : x1 ≤ 2147483647) (h7 : -2147483648 ≤ x2) (h8 : x2 ≤ 2147483647) : x0 - x1 ≤ 2147483647 := by omega
theorem o14_128 {x0 x1 x2 x3 : Int} (h0 : x2 = 99) (h1 : x3 < x2) (h2 : x0 = x3) (h3 : x1 = 1) (h4 : -2147483648 ≤ x0) (h5 : x0 ≤ 2147483647) (h6 : -2147483648 ≤ x1) (h7 : x1 ≤ 2147483647) (h8 : -2147483648 ≤ x2) (h9 : x2 ≤ 2147483647) (h10 : -2147483648 ≤ x3) (h11 : x3 ≤ 2147483647) : -2147483648 ≤ x0 + x1 := by omega
theorem o14_129 {x0 x1 x2 x3 : Int} (h0 : x2 = 99) (h1 : x3 < x2) (h2 : x0 = x3) (h3 : x1 = 1) (h4 : -2147483648 ≤ x0) (h5 : x0 ≤ 2147483647) (h6 : -2147483648 ≤ x1) (h7 : x1 ≤ 2147483647) (h8 : -2147483648 ≤ x2) (h9 : x2 ≤ 2147483647) (h10 : -2147483648 ≤ x3) (h11 : x3 ≤ 2147483647) : x0 + x1 ≤ 2147483647 := by omega
noncomputable def g2_X0_to (s : XS) : XR := (s, ((-1)))
noncomputable def g3_X0_to (s : XS) (i0 : Nat) (a1 : Int) (a2 : Int) : XR := (s, (a1 + (s 1 (i0 + 18) (Int.toNat a2))))
noncomputable def g1b_X0_to (s : XS) (v_10 : Int) (i0 : Nat) (a1 : Int) (a2 : Int) : XR := if v_10 = 0 then g2_X0_to s else g3_X0_to s i0 a1 a2
noncomputable def f_X0_to (s : XS) (i0 : Nat) (a1 : Int) (a2 : Int) : XR := g1b_X0_to s ((Xiand (Xishr (s 1 (i0 + 17) (Int.toNat a2)) a1) 1)) i0 a1 a2
set_option maxHeartbeats 4000000 in
set_option maxRecDepth 100000 in
theorem c_X0_to (l : Launch) (G : GG) (Z : RZ) (ad : Nat → Nat) (ws0 : va_W) (hT : Ty G SC ad ws0) (i0 : Nat) (hi0 : Kd SC i0 1) (a1 : Int32) (a2 : Int32) (l1 : 0 ≤ a1.toInt) (u1 : a1.toInt ≤ 24) (l2 : 0 ≤ a2.toInt) (u2 : a2.toInt ≤ 3) (hR : Rel ws0) : Mq l yX0_to cX0_to 3 (some .int) 1 G Z [.ref (ad i0), .int a1, .int a2] ws0 (PI G SC ad [] ws0 (fun r u => (xso SC ad u = (f_X0_to (xso SC ad ws0) i0 a1.toInt a2.toInt).1) ∧ (r.toInt = (f_X0_to (xso SC ad ws0) i0 a1.toInt a2.toInt).2) ∧ ((-1) ≤ r.toInt) ∧ (r.toInt ≤ 24) ∧ ((Bit ws0 i0 a1.toInt.toNat a2.toInt.toNat ∧ 0 ≤ r.toInt) ∨ (¬ Bit ws0 i0 a1.toInt.toNat a2.toInt.toNat ∧ r.toInt = -1)))) := by
  refine Mq.start (by decide) (Nat.le_of_ble_eq_true rfl) ?_
  intro p e s m below meth c A ls C0 hZ h hl
  have hl : lv_has ls 3 [(0, .ref (ad i0)), (1, .int a1), (2, .int a2)] := hl
  have h : Wt G SC ad A s s.heap [] ws0 := ⟨h, hT⟩
  obtain ⟨args, hargs⟩ : ∃ z, z = ([.ref (ad i0), .int a1, .int a2] : List Value).toArray := ⟨_, rfl⟩
  rw [← hargs] at C0 ⊢
  have C0 : Cx p s m args meth c RX0 cX0_to 3 (some .int) := C0
  obtain ⟨Q, hQ⟩ : ∃ z, z = MQ below ((PI G SC ad [] ws0 (fun r u => (xso SC ad u = (f_X0_to (xso SC ad ws0) i0 a1.toInt a2.toInt).1) ∧ (r.toInt = (f_X0_to (xso SC ad ws0) i0 a1.toInt a2.toInt).2) ∧ ((-1) ≤ r.toInt) ∧ (r.toInt ≤ 24) ∧ ((Bit ws0 i0 a1.toInt.toNat a2.toInt.toNat ∧ 0 ≤ r.toInt) ∨ (¬ Bit ws0 i0 a1.toInt.toNat a2.toInt.toNat ∧ r.toInt = -1)))) A) args s 0 0 A := ⟨_, rfl⟩
  rw [← hQ]
  obtain ⟨FT, hFT⟩ : ∃ z, z = f_X0_to (xso SC ad ws0) i0 a1.toInt a2.toInt := ⟨_, rfl⟩
  have HE : FT = f_X0_to (xso SC ad ws0) i0 a1.toInt a2.toInt := hFT
  refine lv_aload_n C0.1 C0.2.1 dX0_to_0 rfl (lv_at hl 0 rfl) ?_
  refine tg_X0_streets C0 h hi0 q_252 dX0_to_1 ?_
  refine lv_iload_n C0.1 C0.2.1 dX0_to_4 rfl (lv_at hl 2 rfl) ?_
  refine y_iald C0 h (rSC_1_17 hi0) rfl (by decide) (o14_1 l2 u2) (o14_2 l2 u2) dX0_to_5 (fun v_1 e_2 e_3 e_4 => ?_)
  refine lv_iload_n C0.1 C0.2.1 dX0_to_6 rfl (lv_at hl 1 rfl) ?_
  refine y_ishrX C0 dX0_to_7 (fun v_6 e_5 => ?_)
  refine y_c1 (n := 1) C0 (by decide) dX0_to_8 (fun v_7 e_8 => ?_)
  refine y_andX 1 1 (n := 1) C0 (Eq.trans (o14_3 e_8) (by decide)) (by decide) (by decide) (by decide) dX0_to_9 (fun v_10 e_9 e_11 e_12 => ?_)
  replace HE : FT = g1b_X0_to (xso SC ad ws0) v_10.toInt i0 a1.toInt a2.toInt := HE.trans (by rw [(ix_iand e_9), e_8, (ix_ishr e_5), (xg1 e_2 : v_1.toInt = (xso SC ad ws0) 1 (i0 + 17) a2.toInt.toNat)]; rfl)
  refine y_if_eq (tgt := 24) C0 dX0_to_10 (by decide) (fun c_13 => ?_) (fun c_13 => ?_)
  · -- 10
    replace HE : FT = g2_X0_to (xso SC ad ws0) := HE.trans (if_pos c_13)
    refine y_c1 (n := (-1)) C0 (by decide) dX0_to_24 (fun v_14 e_15 => ?_)
    replace HE : FT = ((xso SC ad ws0), v_14.toInt) := HE.trans (by rw [e_15]; rfl)
    rw [hQ]
    exact y_iret C0 h Fr.rf ⟨(congrArg Prod.fst (HE.symm.trans hFT)), (congrArg Prod.snd (HE.symm.trans hFT)), (o14_4 e_15), (o14_5 e_15), (Or.inr ⟨fun q => (bit_of l1 e_2 e_5 e_8 e_9).mp q c_13, (o14_6 e_15)⟩)⟩ dX0_to_25
  · -- 10
    replace HE : FT = g3_X0_to (xso SC ad ws0) i0 a1.toInt a2.toInt := HE.trans (if_neg c_13)
    refine lv_iload_n C0.1 C0.2.1 dX0_to_13 rfl (lv_at hl 1 rfl) ?_
    refine lv_aload_n C0.1 C0.2.1 dX0_to_14 rfl (lv_at hl 0 rfl) ?_
    refine tg_X0_strides C0 h hi0 q_255 dX0_to_15 ?_
    refine lv_iload_n C0.1 C0.2.1 dX0_to_18 rfl (lv_at hl 2 rfl) ?_
    refine y_iald C0 h (rSC_1_18 hi0) rfl (by decide) (o14_1 l2 u2) (o14_2 l2 u2) dX0_to_19 (fun v_16 e_17 e_18 e_19 => ?_)
    have t_20 := to_ok hR hi0 l1 u1 l2 u2 e_2 e_5 e_8 e_9 c_13 e_17
    refine y_add C0 (o14_7 l1 u1 e_18 e_19 t_20.1 t_20.2 (le_min a1) (le_max a1) (le_min v_16) (le_max v_16)) (o14_8 l1 u1 e_18 e_19 t_20.1 t_20.2 (le_min a1) (le_max a1) (le_min v_16) (le_max v_16)) dX0_to_20 (fun v_21 e_22 => ?_)
    refine lv_goto (tgt := 25) C0.1 C0.2.1 dX0_to_21 (by decide) ?_
    replace HE : FT = ((xso SC ad ws0), v_21.toInt) := HE.trans (by rw [e_22, (xg1 e_17 : v_16.toInt = (xso SC ad ws0) 1 (i0 + 18) a2.toInt.toNat)]; rfl)
    rw [hQ]
    exact y_iret C0 h Fr.rf ⟨(congrArg Prod.fst (HE.symm.trans hFT)), (congrArg Prod.snd (HE.symm.trans hFT)), (o14_9 l1 u1 e_18 e_19 t_20.1 t_20.2 e_22), (o14_10 l1 u1 e_18 e_19 t_20.1 t_20.2 e_22), (Or.inl ⟨(bit_of l1 e_2 e_5 e_8 e_9).mpr c_13, (o14_11 l1 u1 e_18 e_19 t_20.1 t_20.2 e_22)⟩)⟩ dX0_to_25
noncomputable def g2_X0_standAfter (s : XS) : XR := (s, ((-1)))
noncomputable def g3_X0_standAfter (s : XS) (i0 : Nat) (v_9 : Int) (v_13 : Int) : XR := (s, ((4 * (v_13 + (s 1 (i0 + 18) (Int.toNat v_9)))) + v_9))
noncomputable def g1b_X0_standAfter (s : XS) (v_24 : Int) (i0 : Nat) (v_9 : Int) (v_13 : Int) : XR := if v_24 = 0 then g2_X0_standAfter s else g3_X0_standAfter s i0 v_9 v_13
noncomputable def f_X0_standAfter (s : XS) (i0 : Nat) (a1 : Int) (a2 : Int) : XR := g1b_X0_standAfter s ((Xiand (Xishr (s 1 (i0 + 17) (Int.toNat (Xiand (a1 + ((tTurn (Int.toNat a2)).toInt)) 3))) (a1 / 4)) 1)) i0 ((Xiand (a1 + ((tTurn (Int.toNat a2)).toInt)) 3)) ((a1 / 4))
set_option maxHeartbeats 4000000 in
set_option maxRecDepth 100000 in
theorem c_X0_standAfter (l : Launch) (G : GG) (Z : RZ) (ad : Nat → Nat) (ws0 : va_W) (hT : Ty G SC ad ws0) (i0 : Nat) (hi0 : Kd SC i0 1) (a1 : Int32) (a2 : Int32) (l1 : 0 ≤ a1.toInt) (u1 : a1.toInt ≤ 99) (l2 : 0 ≤ a2.toInt) (u2 : a2.toInt ≤ 3) (hR : Rel ws0) : Mq l yX0_standAfter cX0_standAfter 5 (some .int) 1 G Z [.ref (ad i0), .int a1, .int a2] ws0 (PI G SC ad [] ws0 (fun r u => (xso SC ad u = (f_X0_standAfter (xso SC ad ws0) i0 a1.toInt a2.toInt).1) ∧ (r.toInt = (f_X0_standAfter (xso SC ad ws0) i0 a1.toInt a2.toInt).2) ∧ ((-1) ≤ r.toInt) ∧ (r.toInt ≤ 99))) := by
  refine Mq.start (by decide) (Nat.le_of_ble_eq_true rfl) ?_
  intro p e s m below meth c A ls C0 hZ h hl
  have hl : lv_has ls 5 [(0, .ref (ad i0)), (1, .int a1), (2, .int a2)] := hl
  have h : Wt G SC ad A s s.heap [] ws0 := ⟨h, hT⟩
  obtain ⟨args, hargs⟩ : ∃ z, z = ([.ref (ad i0), .int a1, .int a2] : List Value).toArray := ⟨_, rfl⟩
  rw [← hargs] at C0 ⊢
  have C0 : Cx p s m args meth c RX0 cX0_standAfter 5 (some .int) := C0
  obtain ⟨Q, hQ⟩ : ∃ z, z = MQ below ((PI G SC ad [] ws0 (fun r u => (xso SC ad u = (f_X0_standAfter (xso SC ad ws0) i0 a1.toInt a2.toInt).1) ∧ (r.toInt = (f_X0_standAfter (xso SC ad ws0) i0 a1.toInt a2.toInt).2) ∧ ((-1) ≤ r.toInt) ∧ (r.toInt ≤ 99))) A) args s 0 0 A := ⟨_, rfl⟩
  rw [← hQ]
  obtain ⟨FT, hFT⟩ : ∃ z, z = f_X0_standAfter (xso SC ad ws0) i0 a1.toInt a2.toInt := ⟨_, rfl⟩
  have HE : FT = f_X0_standAfter (xso SC ad ws0) i0 a1.toInt a2.toInt := hFT
  refine lv_iload_n C0.1 C0.2.1 dX0_standAfter_0 rfl (lv_at hl 1 rfl) ?_
  refine y_turned C0 hZ h hZ.2.2.2.2.2.1 dX0_standAfter_1 ?_
  refine lv_iload_n C0.1 C0.2.1 dX0_standAfter_4 rfl (lv_at hl 2 rfl) ?_
  refine y_tald C0 hZ h (o14_1 l2 u2) (o14_12 l2 u2) dX0_standAfter_5 (fun v_4 e_1 e_2 e_3 => ?_)
  refine y_add C0 (o14_13 l1 u1 e_2 e_3 (le_min a1) (le_max a1) (le_min v_4) (le_max v_4)) (o14_14 l1 u1 e_2 e_3 (le_min a1) (le_max a1) (le_min v_4) (le_max v_4)) dX0_standAfter_6 (fun v_5 e_6 => ?_)
  refine y_c1 (n := 3) C0 (by decide) dX0_standAfter_7 (fun v_7 e_8 => ?_)
  refine xr_iand C0 dX0_standAfter_8 (fun v_9 e_10 => ?_)
  refine lv_istore_n (lv' := [(3, .int v_9), (0, .ref (ad i0)), (1, .int a1), (2, .int a2)]) C0.1 C0.2.1 dX0_standAfter_9 rfl hl (by decide) rfl (fun ls hl => ?_)
  refine lv_iload_n C0.1 C0.2.1 dX0_standAfter_10 rfl (lv_at hl 2 rfl) ?_
  refine y_c1 (n := 2) C0 (by decide) dX0_standAfter_11 (fun v_11 e_12 => ?_)
  refine y_shr 2 2 (n := 4) C0 (Eq.trans (o14_16 e_12) (by decide)) (by decide) (by decide) dX0_standAfter_12 (fun v_13 e_14 => ?_)
  refine lv_istore (lv' := [(4, .int v_13), (3, .int v_9), (0, .ref (ad i0)), (1, .int a1), (2, .int a2)]) C0.1 C0.2.1 dX0_standAfter_13 hl (by decide) rfl (fun ls hl => ?_)
  refine lv_aload_n C0.1 C0.2.1 dX0_standAfter_15 rfl (lv_at hl 2 rfl) ?_
  refine tg_X0_streets C0 h hi0 q_252 dX0_standAfter_16 ?_
  refine lv_iload_n C0.1 C0.2.1 dX0_standAfter_19 rfl (lv_at hl 1 rfl) ?_
  refine y_iald C0 h (rSC_1_17 hi0) rfl (by decide) (o14_1 (xb_and 3 2 (n := 3) e_10 (Eq.trans (o14_15 e_8) (by decide)) (by decide) (by decide) (by decide)).1 (xb_and 3 2 (n := 3) e_10 (Eq.trans (o14_15 e_8) (by decide)) (by decide) (by decide) (by decide)).2) (o14_2 (xb_and 3 2 (n := 3) e_10 (Eq.trans (o14_15 e_8) (by decide)) (by decide) (by decide) (by decide)).1 (xb_and 3 2 (n := 3) e_10 (Eq.trans (o14_15 e_8) (by decide)) (by decide) (by decide) (by decide)).2) dX0_standAfter_20 (fun v_15 e_16 e_17 e_18 => ?_)
  refine lv_iload C0.1 C0.2.1 dX0_standAfter_21 (lv_at hl 0 rfl) ?_
  refine y_ishrX C0 dX0_standAfter_23 (fun v_20 e_19 => ?_)
  refine y_c1 (n := 1) C0 (by decide) dX0_standAfter_24 (fun v_21 e_22 => ?_)
  refine y_andX 1 1 (n := 1) C0 (Eq.trans (o14_3 e_22) (by decide)) (by decide) (by decide) (by decide) dX0_standAfter_25 (fun v_24 e_23 e_25 e_26 => ?_)
  replace HE : FT = g1b_X0_standAfter (xso SC ad ws0) v_24.toInt i0 v_9.toInt v_13.toInt := HE.trans (by rw [(ix_iand e_23), e_22, (ix_ishr e_19), e_14, (xg1 e_16 : v_15.toInt = (xso SC ad ws0) 1 (i0 + 17) v_9.toInt.toNat), e_10, e_8, e_6, (congrArg Int32.toInt e_1)]; rfl)
  refine y_if_eq (tgt := 45) C0 dX0_standAfter_26 (by decide) (fun c_27 => ?_) (fun c_27 => ?_)
  · -- 26
    replace HE : FT = g2_X0_standAfter (xso SC ad ws0) := HE.trans (if_pos c_27)
    refine y_c1 (n := (-1)) C0 (by decide) dX0_standAfter_45 (fun v_28 e_29 => ?_)
    replace HE : FT = ((xso SC ad ws0), v_28.toInt) := HE.trans (by rw [e_29]; rfl)
    rw [hQ]
    exact y_iret C0 h Fr.rf ⟨(congrArg Prod.fst (HE.symm.trans hFT)), (congrArg Prod.snd (HE.symm.trans hFT)), (o14_4 e_29), (o14_17 e_29)⟩ dX0_standAfter_46
  · -- 26
    replace HE : FT = g3_X0_standAfter (xso SC ad ws0) i0 v_9.toInt v_13.toInt := HE.trans (if_neg c_27)
    refine y_c1 (n := 4) C0 (by decide) dX0_standAfter_29 (fun v_30 e_31 => ?_)
    refine lv_iload C0.1 C0.2.1 dX0_standAfter_30 (lv_at hl 0 rfl) ?_
    refine lv_aload_n C0.1 C0.2.1 dX0_standAfter_32 rfl (lv_at hl 2 rfl) ?_
    refine tg_X0_strides C0 h hi0 q_255 dX0_standAfter_33 ?_
    refine lv_iload_n C0.1 C0.2.1 dX0_standAfter_36 rfl (lv_at hl 1 rfl) ?_
    refine y_iald C0 h (rSC_1_18 hi0) rfl (by decide) (o14_1 (xb_and 3 2 (n := 3) e_10 (Eq.trans (o14_15 e_8) (by decide)) (by decide) (by decide) (by decide)).1 (xb_and 3 2 (n := 3) e_10 (Eq.trans (o14_15 e_8) (by decide)) (by decide) (by decide) (by decide)).2) (o14_2 (xb_and 3 2 (n := 3) e_10 (Eq.trans (o14_15 e_8) (by decide)) (by decide) (by decide) (by decide)).1 (xb_and 3 2 (n := 3) e_10 (Eq.trans (o14_15 e_8) (by decide)) (by decide) (by decide) (by decide)).2) dX0_standAfter_37 (fun v_32 e_33 e_34 e_35 => ?_)
    have t_36 := to_ok hR hi0 (o14_18 l1 u1 e_2 e_3 e_6 e_14) (o14_19 l1 u1 e_2 e_3 e_6 e_14) (o14_1 (xb_and 3 2 (n := 3) e_10 (Eq.trans (o14_15 e_8) (by decide)) (by decide) (by decide) (by decide)).1 (xb_and 3 2 (n := 3) e_10 (Eq.trans (o14_15 e_8) (by decide)) (by decide) (by decide) (by decide)).2) (o14_20 (xb_and 3 2 (n := 3) e_10 (Eq.trans (o14_15 e_8) (by decide)) (by decide) (by decide) (by decide)).1 (xb_and 3 2 (n := 3) e_10 (Eq.trans (o14_15 e_8) (by decide)) (by decide) (by decide) (by decide)).2) e_16 e_19 e_22 e_23 c_27 e_33
    refine y_add C0 (o14_21 l1 u1 e_2 e_3 e_6 e_14 e_34 e_35 t_36.1 t_36.2 (le_min v_13) (le_max v_13) (le_min v_32) (le_max v_32) (le_min a1) (le_max a1) (le_min v_4) (le_max v_4) (le_min v_5) (le_max v_5)) (o14_22 l1 u1 e_2 e_3 e_6 e_14 e_34 e_35 t_36.1 t_36.2 (le_min v_13) (le_max v_13) (le_min v_32) (le_max v_32) (le_min a1) (le_max a1) (le_min v_4) (le_max v_4) (le_min v_5) (le_max v_5)) dX0_standAfter_38 (fun v_37 e_38 => ?_)
    refine y_cmul (n := 4) C0 (o14_23 e_31) (o14_24 l1 u1 e_2 e_3 e_6 e_14 e_34 e_35 t_36.1 t_36.2 e_38 (le_min v_37) (le_max v_37) (le_min a1) (le_max a1) (le_min v_4) (le_max v_4) (le_min v_5) (le_max v_5) (le_min v_13) (le_max v_13) (le_min v_32) (le_max v_32)) (o14_25 l1 u1 e_2 e_3 e_6 e_14 e_34 e_35 t_36.1 t_36.2 e_38 (le_min v_37) (le_max v_37) (le_min a1) (le_max a1) (le_min v_4) (le_max v_4) (le_min v_5) (le_max v_5) (le_min v_13) (le_max v_13) (le_min v_32) (le_max v_32)) dX0_standAfter_39 (fun v_39 e_40 => ?_)
    refine lv_iload_n C0.1 C0.2.1 dX0_standAfter_40 rfl (lv_at hl 1 rfl) ?_
    refine y_add C0 (o14_26 l1 u1 e_2 e_3 e_6 (xb_and 3 2 (n := 3) e_10 (Eq.trans (o14_15 e_8) (by decide)) (by decide) (by decide) (by decide)).1 (xb_and 3 2 (n := 3) e_10 (Eq.trans (o14_15 e_8) (by decide)) (by decide) (by decide) (by decide)).2 e_14 e_34 e_35 t_36.1 t_36.2 e_38 e_40 (le_min v_39) (le_max v_39) (le_min v_9) (le_max v_9) (le_min a1) (le_max a1) (le_min v_4) (le_max v_4) (le_min v_5) (le_max v_5) (le_min v_13) (le_max v_13) (le_min v_32) (le_max v_32) (le_min v_37) (le_max v_37)) (o14_27 l1 u1 e_2 e_3 e_6 (xb_and 3 2 (n := 3) e_10 (Eq.trans (o14_15 e_8) (by decide)) (by decide) (by decide) (by decide)).1 (xb_and 3 2 (n := 3) e_10 (Eq.trans (o14_15 e_8) (by decide)) (by decide) (by decide) (by decide)).2 e_14 e_34 e_35 t_36.1 t_36.2 e_38 e_40 (le_min v_39) (le_max v_39) (le_min v_9) (le_max v_9) (le_min a1) (le_max a1) (le_min v_4) (le_max v_4) (le_min v_5) (le_max v_5) (le_min v_13) (le_max v_13) (le_min v_32) (le_max v_32) (le_min v_37) (le_max v_37)) dX0_standAfter_41 (fun v_41 e_42 => ?_)
    refine lv_goto (tgt := 46) C0.1 C0.2.1 dX0_standAfter_42 (by decide) ?_
    replace HE : FT = ((xso SC ad ws0), v_41.toInt) := HE.trans (by rw [e_42, e_40, e_38, (xg1 e_33 : v_32.toInt = (xso SC ad ws0) 1 (i0 + 18) v_9.toInt.toNat)]; rfl)
    rw [hQ]
    exact y_iret C0 h Fr.rf ⟨(congrArg Prod.fst (HE.symm.trans hFT)), (congrArg Prod.snd (HE.symm.trans hFT)), (o14_28 l1 u1 e_2 e_3 e_6 (xb_and 3 2 (n := 3) e_10 (Eq.trans (o14_15 e_8) (by decide)) (by decide) (by decide) (by decide)).1 (xb_and 3 2 (n := 3) e_10 (Eq.trans (o14_15 e_8) (by decide)) (by decide) (by decide) (by decide)).2 e_14 e_34 e_35 t_36.1 t_36.2 e_38 e_40 e_42), (o14_29 l1 u1 e_2 e_3 e_6 (xb_and 3 2 (n := 3) e_10 (Eq.trans (o14_15 e_8) (by decide)) (by decide) (by decide) (by decide)).1 (xb_and 3 2 (n := 3) e_10 (Eq.trans (o14_15 e_8) (by decide)) (by decide) (by decide) (by decide)).2 e_14 e_34 e_35 t_36.1 t_36.2 e_38 e_40 e_42)⟩ dX0_standAfter_46
noncomputable def g1w_X0_makeToldFree (s : XS) : XR := (s, 0)
noncomputable def f_X0_makeToldFree (s : XS) (i0 : Nat) (a1 : Int) : XR := g1w_X0_makeToldFree (xup s 0 i0 8 (Xior (s 0 i0 8) (Xishl 1 a1)))
set_option maxHeartbeats 4000000 in
set_option maxRecDepth 100000 in
theorem c_X0_makeToldFree (l : Launch) (G : GG) (Z : RZ) (ad : Nat → Nat) (ws0 : va_W) (hT : Ty G SC ad ws0) (i0 : Nat) (hi0 : Kd SC i0 1) (a1 : Int32) : Mq l yX0_makeToldFree cX0_makeToldFree 2 none 1 G Z [.ref (ad i0), .int a1] ws0 (PV G SC ad [1] ws0 (fun u => (xso SC ad u = (f_X0_makeToldFree (xso SC ad ws0) i0 a1.toInt).1))) := by
  refine Mq.start (by decide) (Nat.le_of_ble_eq_true rfl) ?_
  intro p e s m below meth c A ls C0 hZ h hl
  have hl : lv_has ls 2 [(0, .ref (ad i0)), (1, .int a1)] := hl
  have h : Wt G SC ad A s s.heap [] ws0 := ⟨h, hT⟩
  obtain ⟨args, hargs⟩ : ∃ z, z = ([.ref (ad i0), .int a1] : List Value).toArray := ⟨_, rfl⟩
  rw [← hargs] at C0 ⊢
  have C0 : Cx p s m args meth c RX0 cX0_makeToldFree 2 none := C0
  obtain ⟨Q, hQ⟩ : ∃ z, z = MQ below ((PV G SC ad [1] ws0 (fun u => (xso SC ad u = (f_X0_makeToldFree (xso SC ad ws0) i0 a1.toInt).1))) A) args s 0 0 A := ⟨_, rfl⟩
  rw [← hQ]
  obtain ⟨FT, hFT⟩ : ∃ z, z = f_X0_makeToldFree (xso SC ad ws0) i0 a1.toInt := ⟨_, rfl⟩
  have HE : FT = f_X0_makeToldFree (xso SC ad ws0) i0 a1.toInt := hFT
  refine lv_aload_n C0.1 C0.2.1 dX0_makeToldFree_0 rfl (lv_at hl 0 rfl) ?_
  refine lv_dup C0.1 C0.2.1 dX0_makeToldFree_1 rfl ?_
  refine tg_X0_toldFree C0 h hi0 q_266 dX0_makeToldFree_2 (fun v_1 e_2 e_3 e_4 => ?_)
  refine y_c1 (n := 1) C0 (by decide) dX0_makeToldFree_5 (fun v_5 e_6 => ?_)
  refine lv_iload_n C0.1 C0.2.1 dX0_makeToldFree_6 rfl (lv_at hl 1 rfl) ?_
  refine xr_ishl C0 dX0_makeToldFree_7 (fun v_7 e_8 => ?_)
  refine xr_ior C0 dX0_makeToldFree_8 (fun v_9 e_10 => ?_)
  refine tp_X0_toldFree C0 h hi0 q_266 (le_min v_9) (le_max v_9) dX0_makeToldFree_9 (fun H locs ws_11 h u_12 Xu_12 => ?_)
  replace HE : FT = g1w_X0_makeToldFree (xso SC ad ws_11) := HE.trans (by rw [Xu_12, e_10, e_8, e_6, (xg0 e_2 : v_1.toInt = (xso SC ad ws0) 0 i0 8)]; rfl)
  replace HE : FT = ((xso SC ad ws_11), 0) := HE.trans rfl
  rw [hQ]
  exact y_vret C0 h (Fr.up u_12.1 hi0 (by decide)) (congrArg Prod.fst (HE.symm.trans hFT)) dX0_makeToldFree_12
noncomputable def f_X0_crossings (s : XS) (i0 : Nat) : XR := (s, ((s 0 i0 5) * (s 0 i0 6)))
set_option maxHeartbeats 4000000 in
set_option maxRecDepth 100000 in
theorem c_X0_crossings (l : Launch) (G : GG) (Z : RZ) (ad : Nat → Nat) (ws0 : va_W) (hT : Ty G SC ad ws0) (i0 : Nat) (hi0 : Kd SC i0 1) : Mq l yX0_crossings cX0_crossings 1 (some .int) 1 G Z [.ref (ad i0)] ws0 (PI G SC ad [] ws0 (fun r u => (xso SC ad u = (f_X0_crossings (xso SC ad ws0) i0).1) ∧ (r.toInt = (f_X0_crossings (xso SC ad ws0) i0).2) ∧ (0 ≤ r.toInt) ∧ (r.toInt ≤ 25))) := by
  refine Mq.start (by decide) (Nat.le_of_ble_eq_true rfl) ?_
  intro p e s m below meth c A ls C0 hZ h hl
  have hl : lv_has ls 1 [(0, .ref (ad i0))] := hl
  have h : Wt G SC ad A s s.heap [] ws0 := ⟨h, hT⟩
  obtain ⟨args, hargs⟩ : ∃ z, z = ([.ref (ad i0)] : List Value).toArray := ⟨_, rfl⟩
  rw [← hargs] at C0 ⊢
  have C0 : Cx p s m args meth c RX0 cX0_crossings 1 (some .int) := C0
  obtain ⟨Q, hQ⟩ : ∃ z, z = MQ below ((PI G SC ad [] ws0 (fun r u => (xso SC ad u = (f_X0_crossings (xso SC ad ws0) i0).1) ∧ (r.toInt = (f_X0_crossings (xso SC ad ws0) i0).2) ∧ (0 ≤ r.toInt) ∧ (r.toInt ≤ 25))) A) args s 0 0 A := ⟨_, rfl⟩
  rw [← hQ]
  obtain ⟨FT, hFT⟩ : ∃ z, z = f_X0_crossings (xso SC ad ws0) i0 := ⟨_, rfl⟩
  have HE : FT = f_X0_crossings (xso SC ad ws0) i0 := hFT
  refine lv_aload_n C0.1 C0.2.1 dX0_crossings_0 rfl (lv_at hl 0 rfl) ?_
  refine tg_X0_wide C0 h hi0 q_256 dX0_crossings_1 (fun v_1 e_2 e_3 e_4 => ?_)
  refine lv_aload_n C0.1 C0.2.1 dX0_crossings_4 rfl (lv_at hl 0 rfl) ?_
  refine tg_X0_high C0 h hi0 q_260 dX0_crossings_5 (fun v_5 e_6 e_7 e_8 => ?_)
  refine y_mulb (la := 0) (ha := 5) (lb := 0) (hb := 5) C0 (by decide) (o14_30 e_3 e_4) (o14_31 e_3 e_4) (by decide) (o14_30 e_7 e_8) (o14_31 e_7 e_8) (by decide) dX0_crossings_8 (fun v_9 e_10 e_11 e_12 => ?_)
  replace HE : FT = ((xso SC ad ws0), v_9.toInt) := HE.trans (by rw [e_10, (xg0 e_6 : v_5.toInt = (xso SC ad ws0) 0 i0 6), (xg0 e_2 : v_1.toInt = (xso SC ad ws0) 0 i0 5)]; rfl)
  rw [hQ]
  exact y_iret C0 h Fr.rf ⟨(congrArg Prod.fst (HE.symm.trans hFT)), (congrArg Prod.snd (HE.symm.trans hFT)), (o14_32 e_11 e_12), (o14_33 e_11 e_12)⟩ dX0_crossings_9
noncomputable def g4_X0_streetsFrom (s : XS) (x2_6 : Int) : XR := (s, x2_6)
noncomputable def g5_X0_streetsFrom (R4 : XS → Nat → Int → Int → Int → XR) (s : XS) (i0 : Nat) (a1 : Int) (x2_6 : Int) (x3_5 : Int) : XR := R4 s i0 a1 ((Xiadd x2_6 (Xiand (Xishr (s 1 (i0 + 17) (Int.toNat x3_5)) a1) 1))) ((x3_5 + 1))
noncomputable def g3b_X0_streetsFrom (R4 : XS → Nat → Int → Int → Int → XR) (s : XS) (x3_5 : Int) (i0 : Nat) (a1 : Int) (x2_6 : Int) : XR := if x3_5 < 4 then g5_X0_streetsFrom R4 s i0 a1 x2_6 x3_5 else g4_X0_streetsFrom s x2_6
noncomputable def g2l_X0_streetsFrom (R4 : XS → Nat → Int → Int → Int → XR) (s : XS) (i0 : Nat) (a1 : Int) (x2_6 : Int) (x3_5 : Int) : XR := g3b_X0_streetsFrom R4 s x3_5 i0 a1 x2_6
noncomputable def L1_X0_streetsFrom (n : Nat) : XS → Nat → Int → Int → Int → XR := Nat.rec (motive := fun _ => XS → Nat → Int → Int → Int → XR) (fun s _ _ _ _ => (s, 0)) (fun _ R4 => g2l_X0_streetsFrom R4) n
noncomputable def f_X0_streetsFrom (s : XS) (i0 : Nat) (a1 : Int) : XR := L1_X0_streetsFrom (Int.toNat (4 - 0 + 1)) s i0 a1 0 0
set_option maxHeartbeats 4000000 in
set_option maxRecDepth 100000 in
theorem c_X0_streetsFrom (l : Launch) (G : GG) (Z : RZ) (ad : Nat → Nat) (ws0 : va_W) (hT : Ty G SC ad ws0) (i0 : Nat) (hi0 : Kd SC i0 1) (a1 : Int32) : Mq l yX0_streetsFrom cX0_streetsFrom 4 (some .int) 1 G Z [.ref (ad i0), .int a1] ws0 (PI G SC ad [] ws0 (fun r u => (xso SC ad u = (f_X0_streetsFrom (xso SC ad ws0) i0 a1.toInt).1) ∧ (r.toInt = (f_X0_streetsFrom (xso SC ad ws0) i0 a1.toInt).2))) := by
  refine Mq.start (by decide) (Nat.le_of_ble_eq_true rfl) ?_
  intro p e s m below meth c A ls C0 hZ h hl
  have hl : lv_has ls 4 [(0, .ref (ad i0)), (1, .int a1)] := hl
  have h : Wt G SC ad A s s.heap [] ws0 := ⟨h, hT⟩
  obtain ⟨args, hargs⟩ : ∃ z, z = ([.ref (ad i0), .int a1] : List Value).toArray := ⟨_, rfl⟩
  rw [← hargs] at C0 ⊢
  have C0 : Cx p s m args meth c RX0 cX0_streetsFrom 4 (some .int) := C0
  obtain ⟨Q, hQ⟩ : ∃ z, z = MQ below ((PI G SC ad [] ws0 (fun r u => (xso SC ad u = (f_X0_streetsFrom (xso SC ad ws0) i0 a1.toInt).1) ∧ (r.toInt = (f_X0_streetsFrom (xso SC ad ws0) i0 a1.toInt).2))) A) args s 0 0 A := ⟨_, rfl⟩
  rw [← hQ]
  obtain ⟨FT, hFT⟩ : ∃ z, z = f_X0_streetsFrom (xso SC ad ws0) i0 a1.toInt := ⟨_, rfl⟩
  have HE : FT = f_X0_streetsFrom (xso SC ad ws0) i0 a1.toInt := hFT
  refine y_c1 (n := 0) C0 (by decide) dX0_streetsFrom_0 (fun v_1 e_2 => ?_)
  refine lv_istore_n (lv' := [(2, .int v_1), (0, .ref (ad i0)), (1, .int a1)]) C0.1 C0.2.1 dX0_streetsFrom_1 rfl hl (by decide) rfl (fun ls hl => ?_)
  refine y_c1 (n := 0) C0 (by decide) dX0_streetsFrom_2 (fun v_3 e_4 => ?_)
  refine lv_istore_n (lv' := [(3, .int v_3), (2, .int v_1), (0, .ref (ad i0)), (1, .int a1)]) C0.1 C0.2.1 dX0_streetsFrom_3 rfl hl (by decide) rfl (fun ls hl => ?_)
  have lp_9 : ∀ (n_11 : Nat) (x3_5 : Int32) (x2_6 : Int32) (H : Heap) (locs : List Loc) (ls : Array Slot) (ws_7 : va_W), 4 - x3_5.toInt < (n_11 : Int) → 0 ≤ x3_5.toInt → x3_5.toInt ≤ 4 → (FT = L1_X0_streetsFrom n_11 (xso SC ad ws_7) i0 a1.toInt x2_6.toInt x3_5.toInt) → Wt G SC ad A s H locs ws_7 → Fr SC [] ws0 ws_7 → lv_has ls 4 [(3, .int x3_5), (2, .int x2_6), (0, .ref (ad i0)), (1, .int a1)] → W p l e (rmd 1 0 0) s m args below meth c H locs 0 0 Q (F0 m 4 ls []) := by
    intro n_11
    induction n_11 with
    | zero => intro x3_5 x2_6 H locs ls ws_7 hn_12 b_13 b_14 HE h hF_8 hl; exact ((o14_34 b_13 b_14 hn_12)).elim
    | succ n_11 ih_10 =>
      intro x3_5 x2_6 H locs ls ws_7 hn_12 b_13 b_14 HE h hF_8 hl
      obtain ⟨R4, hR4⟩ : ∃ z, z = L1_X0_streetsFrom n_11 := ⟨_, rfl⟩
      replace HE : FT = g2l_X0_streetsFrom R4 (xso SC ad ws_7) i0 a1.toInt x2_6.toInt x3_5.toInt := HE.trans (by rw [hR4]; rfl)
      refine lv_iload_n C0.1 C0.2.1 dX0_streetsFrom_4 rfl (lv_at hl 0 rfl) ?_
      refine y_c1 (n := 4) C0 (by decide) dX0_streetsFrom_5 (fun v_15 e_16 => ?_)
      replace HE : FT = g3b_X0_streetsFrom R4 (xso SC ad ws_7) x3_5.toInt i0 a1.toInt x2_6.toInt := HE.trans rfl
      refine y_icmp_ge (tgt := 28) C0 dX0_streetsFrom_6 (by decide) (fun c_17 => ?_) (fun c_17 => ?_)
      · -- 6
        replace HE : FT = g4_X0_streetsFrom (xso SC ad ws_7) x2_6.toInt := HE.trans (if_neg (o14_35 b_13 b_14 hn_12 e_16 c_17))
        refine lv_iload_n C0.1 C0.2.1 dX0_streetsFrom_28 rfl (lv_at hl 1 rfl) ?_
        replace HE : FT = ((xso SC ad ws_7), x2_6.toInt) := HE.trans rfl
        rw [hQ]
        exact y_iret C0 h hF_8 ⟨(congrArg Prod.fst (HE.symm.trans hFT)), (congrArg Prod.snd (HE.symm.trans hFT))⟩ dX0_streetsFrom_29
      · -- 6
        replace HE : FT = g5_X0_streetsFrom R4 (xso SC ad ws_7) i0 a1.toInt x2_6.toInt x3_5.toInt := HE.trans (if_pos (o14_36 b_13 b_14 hn_12 e_16 c_17))
        refine lv_iload_n C0.1 C0.2.1 dX0_streetsFrom_9 rfl (lv_at hl 1 rfl) ?_
        refine lv_aload_n C0.1 C0.2.1 dX0_streetsFrom_10 rfl (lv_at hl 2 rfl) ?_
        refine tg_X0_streets C0 h hi0 q_252 dX0_streetsFrom_11 ?_
        refine lv_iload_n C0.1 C0.2.1 dX0_streetsFrom_14 rfl (lv_at hl 0 rfl) ?_
        refine y_iald C0 h (rSC_1_17 hi0) rfl (by decide) (o14_37 b_13 b_14 hn_12 e_16 c_17) (o14_38 b_13 b_14 hn_12 e_16 c_17) dX0_streetsFrom_15 (fun v_18 e_19 e_20 e_21 => ?_)
        refine lv_iload_n C0.1 C0.2.1 dX0_streetsFrom_16 rfl (lv_at hl 3 rfl) ?_
        refine xr_ishr C0 dX0_streetsFrom_17 (fun v_22 e_23 => ?_)
        refine y_c1 (n := 1) C0 (by decide) dX0_streetsFrom_18 (fun v_24 e_25 => ?_)
        refine xr_iand C0 dX0_streetsFrom_19 (fun v_26 e_27 => ?_)
        refine xr_iadd C0 dX0_streetsFrom_20 (fun v_28 e_29 => ?_)
        refine lv_istore_n (lv' := [(2, .int v_28), (3, .int x3_5), (0, .ref (ad i0)), (1, .int a1)]) C0.1 C0.2.1 dX0_streetsFrom_21 rfl hl (by decide) rfl (fun ls hl => ?_)
        refine y_inc (kp := 1) (n := 1) (fun v_30 => [(3, .int v_30), (2, .int v_28), (0, .ref (ad i0)), (1, .int a1)]) C0 hl rfl (by decide) (by decide) (fun _ => rfl) (o14_39 b_13 b_14 hn_12 e_16 c_17 (le_min x3_5) (le_max x3_5) (le_min v_15) (le_max v_15)) (o14_40 b_13 b_14 hn_12 e_16 c_17 (le_min x3_5) (le_max x3_5) (le_min v_15) (le_max v_15)) dX0_streetsFrom_22 (fun v_30 ls e_31 hl => ?_)
        refine lv_goto (tgt := 4) C0.1 C0.2.1 dX0_streetsFrom_25 (by decide) ?_
        exact ih_10 v_30 v_28 _ _ _ _ (o14_41 b_13 b_14 hn_12 e_16 c_17 e_31) (o14_42 b_13 b_14 hn_12 e_16 c_17 e_31) (o14_43 b_13 b_14 hn_12 e_16 c_17 e_31) (((show FT = R4 (xso SC ad ws_7) i0 a1.toInt v_28.toInt v_30.toInt from HE.trans (by rw [e_31, e_29, e_27, e_25, e_23, (xg1 e_19 : v_18.toInt = (xso SC ad ws_7) 1 (i0 + 17) x3_5.toInt.toNat)]; rfl)).trans (by rw [hR4]))) h hF_8 (lv_sub hl [0, 1, 2, 3] rfl)
  exact lp_9 ((4 - v_3.toInt + 1).toNat) v_3 v_1 _ _ _ _ (o14_44 e_4) (o14_45 e_4) (o14_46 e_4) ((show FT = L1_X0_streetsFrom (Int.toNat (4 - v_3.toInt + 1)) (xso SC ad ws0) i0 a1.toInt v_1.toInt v_3.toInt from HE.trans (by rw [e_4, e_2]; rfl))) h Fr.rf (lv_sub hl [0, 1, 2, 3] rfl)
noncomputable def g2_X0_moved (s : XS) (i0 : Nat) (a2 : Int) (v_5 : Int) : XR := (s, (Xishr v_5 (-(s 1 (i0 + 18) (Int.toNat a2)))))
noncomputable def g3_X0_moved (s : XS) (i0 : Nat) (a2 : Int) (v_5 : Int) : XR := (s, (Xishl v_5 (s 1 (i0 + 18) (Int.toNat a2))))
noncomputable def g1b_X0_moved (s : XS) (v_7 : Int) (i0 : Nat) (a2 : Int) (v_5 : Int) : XR := if 0 < v_7 then g3_X0_moved s i0 a2 v_5 else g2_X0_moved s i0 a2 v_5
noncomputable def f_X0_moved (s : XS) (i0 : Nat) (a1 : Int) (a2 : Int) : XR := g1b_X0_moved s ((s 1 (i0 + 18) (Int.toNat a2))) i0 a2 ((Xiand a1 (s 1 (i0 + 17) (Int.toNat a2))))
set_option maxHeartbeats 4000000 in
set_option maxRecDepth 100000 in
theorem c_X0_moved (l : Launch) (G : GG) (Z : RZ) (ad : Nat → Nat) (ws0 : va_W) (hT : Ty G SC ad ws0) (i0 : Nat) (hi0 : Kd SC i0 1) (a1 : Int32) (a2 : Int32) (l2 : 0 ≤ a2.toInt) (u2 : a2.toInt ≤ 3) : Mq l yX0_moved cX0_moved 4 (some .int) 1 G Z [.ref (ad i0), .int a1, .int a2] ws0 (PI G SC ad [] ws0 (fun r u => (xso SC ad u = (f_X0_moved (xso SC ad ws0) i0 a1.toInt a2.toInt).1) ∧ (r.toInt = (f_X0_moved (xso SC ad ws0) i0 a1.toInt a2.toInt).2))) := by
  refine Mq.start (by decide) (Nat.le_of_ble_eq_true rfl) ?_
  intro p e s m below meth c A ls C0 hZ h hl
  have hl : lv_has ls 4 [(0, .ref (ad i0)), (1, .int a1), (2, .int a2)] := hl
  have h : Wt G SC ad A s s.heap [] ws0 := ⟨h, hT⟩
  obtain ⟨args, hargs⟩ : ∃ z, z = ([.ref (ad i0), .int a1, .int a2] : List Value).toArray := ⟨_, rfl⟩
  rw [← hargs] at C0 ⊢
  have C0 : Cx p s m args meth c RX0 cX0_moved 4 (some .int) := C0
  obtain ⟨Q, hQ⟩ : ∃ z, z = MQ below ((PI G SC ad [] ws0 (fun r u => (xso SC ad u = (f_X0_moved (xso SC ad ws0) i0 a1.toInt a2.toInt).1) ∧ (r.toInt = (f_X0_moved (xso SC ad ws0) i0 a1.toInt a2.toInt).2))) A) args s 0 0 A := ⟨_, rfl⟩
  rw [← hQ]
  obtain ⟨FT, hFT⟩ : ∃ z, z = f_X0_moved (xso SC ad ws0) i0 a1.toInt a2.toInt := ⟨_, rfl⟩
  have HE : FT = f_X0_moved (xso SC ad ws0) i0 a1.toInt a2.toInt := hFT
  refine lv_iload_n C0.1 C0.2.1 dX0_moved_0 rfl (lv_at hl 1 rfl) ?_
  refine lv_aload_n C0.1 C0.2.1 dX0_moved_1 rfl (lv_at hl 0 rfl) ?_
  refine tg_X0_streets C0 h hi0 q_252 dX0_moved_2 ?_
  refine lv_iload_n C0.1 C0.2.1 dX0_moved_5 rfl (lv_at hl 2 rfl) ?_
  refine y_iald C0 h (rSC_1_17 hi0) rfl (by decide) (o14_1 l2 u2) (o14_2 l2 u2) dX0_moved_6 (fun v_1 e_2 e_3 e_4 => ?_)
  refine xr_iand C0 dX0_moved_7 (fun v_5 e_6 => ?_)
  refine lv_istore_n (lv' := [(3, .int v_5), (0, .ref (ad i0)), (1, .int a1), (2, .int a2)]) C0.1 C0.2.1 dX0_moved_8 rfl hl (by decide) rfl (fun ls hl => ?_)
  refine lv_aload_n C0.1 C0.2.1 dX0_moved_9 rfl (lv_at hl 1 rfl) ?_
  refine tg_X0_strides C0 h hi0 q_255 dX0_moved_10 ?_
  refine lv_iload_n C0.1 C0.2.1 dX0_moved_13 rfl (lv_at hl 3 rfl) ?_
  refine y_iald C0 h (rSC_1_18 hi0) rfl (by decide) (o14_1 l2 u2) (o14_2 l2 u2) dX0_moved_14 (fun v_7 e_8 e_9 e_10 => ?_)
  replace HE : FT = g1b_X0_moved (xso SC ad ws0) v_7.toInt i0 a2.toInt v_5.toInt := HE.trans (by rw [e_6, (xg1 e_2 : v_1.toInt = (xso SC ad ws0) 1 (i0 + 17) a2.toInt.toNat), (xg1 e_8 : v_7.toInt = (xso SC ad ws0) 1 (i0 + 18) a2.toInt.toNat)]; rfl)
  refine y_if_le (tgt := 29) C0 dX0_moved_15 (by decide) (fun c_11 => ?_) (fun c_11 => ?_)
  · -- 15
    replace HE : FT = g2_X0_moved (xso SC ad ws0) i0 a2.toInt v_5.toInt := HE.trans (if_neg (Int.not_lt.mpr c_11))
    refine lv_iload_n C0.1 C0.2.1 dX0_moved_29 rfl (lv_at hl 0 rfl) ?_
    refine lv_aload_n C0.1 C0.2.1 dX0_moved_30 rfl (lv_at hl 1 rfl) ?_
    refine tg_X0_strides C0 h hi0 q_255 dX0_moved_31 ?_
    refine lv_iload_n C0.1 C0.2.1 dX0_moved_34 rfl (lv_at hl 3 rfl) ?_
    refine y_iald C0 h (rSC_1_18 hi0) rfl (by decide) (o14_1 l2 u2) (o14_2 l2 u2) dX0_moved_35 (fun v_12 e_13 e_14 e_15 => ?_)
    have qh_16 : v_12.toInt = v_7.toInt := congrArg Int32.toInt (e_13.symm.trans (Eq.trans rfl e_8))
    refine y_neg C0 (o14_47 e_9 e_10 c_11 e_14 e_15 qh_16 (le_min v_12) (le_max v_12) (le_min v_7) (le_max v_7)) dX0_moved_36 (fun v_17 e_18 => ?_)
    refine xr_ishr C0 dX0_moved_37 (fun v_19 e_20 => ?_)
    replace HE : FT = ((xso SC ad ws0), v_19.toInt) := HE.trans (by rw [e_20, e_18, (xg1 e_13 : v_12.toInt = (xso SC ad ws0) 1 (i0 + 18) a2.toInt.toNat)]; rfl)
    rw [hQ]
    exact y_iret C0 h Fr.rf ⟨(congrArg Prod.fst (HE.symm.trans hFT)), (congrArg Prod.snd (HE.symm.trans hFT))⟩ dX0_moved_38
  · -- 15
    replace HE : FT = g3_X0_moved (xso SC ad ws0) i0 a2.toInt v_5.toInt := HE.trans (if_pos c_11)
    refine lv_iload_n C0.1 C0.2.1 dX0_moved_18 rfl (lv_at hl 0 rfl) ?_
    refine lv_aload_n C0.1 C0.2.1 dX0_moved_19 rfl (lv_at hl 1 rfl) ?_
    refine tg_X0_strides C0 h hi0 q_255 dX0_moved_20 ?_
    refine lv_iload_n C0.1 C0.2.1 dX0_moved_23 rfl (lv_at hl 3 rfl) ?_
    refine y_iald C0 h (rSC_1_18 hi0) rfl (by decide) (o14_1 l2 u2) (o14_2 l2 u2) dX0_moved_24 (fun v_21 e_22 e_23 e_24 => ?_)
    have qh_25 : v_21.toInt = v_7.toInt := congrArg Int32.toInt (e_22.symm.trans (Eq.trans rfl e_8))
    refine xr_ishl C0 dX0_moved_25 (fun v_26 e_27 => ?_)
    refine lv_goto (tgt := 38) C0.1 C0.2.1 dX0_moved_26 (by decide) ?_
    replace HE : FT = ((xso SC ad ws0), v_26.toInt) := HE.trans (by rw [e_27, (xg1 e_22 : v_21.toInt = (xso SC ad ws0) 1 (i0 + 18) a2.toInt.toNat)]; rfl)
    rw [hQ]
    exact y_iret C0 h Fr.rf ⟨(congrArg Prod.fst (HE.symm.trans hFT)), (congrArg Prod.snd (HE.symm.trans hFT))⟩ dX0_moved_38
noncomputable def g2_X0_movedBack (s : XS) (i0 : Nat) (a1 : Int) (a2 : Int) : XR := (s, (Xiand (Xishl a1 (-(s 1 (i0 + 18) (Int.toNat a2)))) (s 1 (i0 + 17) (Int.toNat a2))))
noncomputable def g3_X0_movedBack (s : XS) (i0 : Nat) (a1 : Int) (a2 : Int) : XR := (s, (Xiand (Xishr a1 (s 1 (i0 + 18) (Int.toNat a2))) (s 1 (i0 + 17) (Int.toNat a2))))
noncomputable def g1b_X0_movedBack (s : XS) (v_1 : Int) (i0 : Nat) (a1 : Int) (a2 : Int) : XR := if 0 < v_1 then g3_X0_movedBack s i0 a1 a2 else g2_X0_movedBack s i0 a1 a2
noncomputable def f_X0_movedBack (s : XS) (i0 : Nat) (a1 : Int) (a2 : Int) : XR := g1b_X0_movedBack s ((s 1 (i0 + 18) (Int.toNat a2))) i0 a1 a2
set_option maxHeartbeats 4000000 in
set_option maxRecDepth 100000 in
theorem c_X0_movedBack (l : Launch) (G : GG) (Z : RZ) (ad : Nat → Nat) (ws0 : va_W) (hT : Ty G SC ad ws0) (i0 : Nat) (hi0 : Kd SC i0 1) (a1 : Int32) (a2 : Int32) (l2 : 0 ≤ a2.toInt) (u2 : a2.toInt ≤ 3) : Mq l yX0_movedBack cX0_movedBack 4 (some .int) 1 G Z [.ref (ad i0), .int a1, .int a2] ws0 (PI G SC ad [] ws0 (fun r u => (xso SC ad u = (f_X0_movedBack (xso SC ad ws0) i0 a1.toInt a2.toInt).1) ∧ (r.toInt = (f_X0_movedBack (xso SC ad ws0) i0 a1.toInt a2.toInt).2))) := by
  refine Mq.start (by decide) (Nat.le_of_ble_eq_true rfl) ?_
  intro p e s m below meth c A ls C0 hZ h hl
  have hl : lv_has ls 4 [(0, .ref (ad i0)), (1, .int a1), (2, .int a2)] := hl
  have h : Wt G SC ad A s s.heap [] ws0 := ⟨h, hT⟩
  obtain ⟨args, hargs⟩ : ∃ z, z = ([.ref (ad i0), .int a1, .int a2] : List Value).toArray := ⟨_, rfl⟩
  rw [← hargs] at C0 ⊢
  have C0 : Cx p s m args meth c RX0 cX0_movedBack 4 (some .int) := C0
  obtain ⟨Q, hQ⟩ : ∃ z, z = MQ below ((PI G SC ad [] ws0 (fun r u => (xso SC ad u = (f_X0_movedBack (xso SC ad ws0) i0 a1.toInt a2.toInt).1) ∧ (r.toInt = (f_X0_movedBack (xso SC ad ws0) i0 a1.toInt a2.toInt).2))) A) args s 0 0 A := ⟨_, rfl⟩
  rw [← hQ]
  obtain ⟨FT, hFT⟩ : ∃ z, z = f_X0_movedBack (xso SC ad ws0) i0 a1.toInt a2.toInt := ⟨_, rfl⟩
  have HE : FT = f_X0_movedBack (xso SC ad ws0) i0 a1.toInt a2.toInt := hFT
  refine lv_aload_n C0.1 C0.2.1 dX0_movedBack_0 rfl (lv_at hl 0 rfl) ?_
  refine tg_X0_strides C0 h hi0 q_255 dX0_movedBack_1 ?_
  refine lv_iload_n C0.1 C0.2.1 dX0_movedBack_4 rfl (lv_at hl 2 rfl) ?_
  refine y_iald C0 h (rSC_1_18 hi0) rfl (by decide) (o14_1 l2 u2) (o14_2 l2 u2) dX0_movedBack_5 (fun v_1 e_2 e_3 e_4 => ?_)
  replace HE : FT = g1b_X0_movedBack (xso SC ad ws0) v_1.toInt i0 a1.toInt a2.toInt := HE.trans (by rw [(xg1 e_2 : v_1.toInt = (xso SC ad ws0) 1 (i0 + 18) a2.toInt.toNat)]; rfl)
  refine y_if_le (tgt := 20) C0 dX0_movedBack_6 (by decide) (fun c_5 => ?_) (fun c_5 => ?_)
  · -- 6
    replace HE : FT = g2_X0_movedBack (xso SC ad ws0) i0 a1.toInt a2.toInt := HE.trans (if_neg (Int.not_lt.mpr c_5))
    refine lv_iload_n C0.1 C0.2.1 dX0_movedBack_20 rfl (lv_at hl 1 rfl) ?_
    refine lv_aload_n C0.1 C0.2.1 dX0_movedBack_21 rfl (lv_at hl 0 rfl) ?_
    refine tg_X0_strides C0 h hi0 q_255 dX0_movedBack_22 ?_
    refine lv_iload_n C0.1 C0.2.1 dX0_movedBack_25 rfl (lv_at hl 2 rfl) ?_
    refine y_iald C0 h (rSC_1_18 hi0) rfl (by decide) (o14_1 l2 u2) (o14_2 l2 u2) dX0_movedBack_26 (fun v_6 e_7 e_8 e_9 => ?_)
    have qh_10 : v_6.toInt = v_1.toInt := congrArg Int32.toInt (e_7.symm.trans (Eq.trans rfl e_2))
    refine y_neg C0 (o14_47 e_3 e_4 c_5 e_8 e_9 qh_10 (le_min v_6) (le_max v_6) (le_min v_1) (le_max v_1)) dX0_movedBack_27 (fun v_11 e_12 => ?_)
    refine xr_ishl C0 dX0_movedBack_28 (fun v_13 e_14 => ?_)
    refine lv_istore_n (lv' := [(3, .int v_13), (0, .ref (ad i0)), (1, .int a1), (2, .int a2)]) C0.1 C0.2.1 dX0_movedBack_29 rfl hl (by decide) rfl (fun ls hl => ?_)
    refine lv_iload_n C0.1 C0.2.1 dX0_movedBack_30 rfl (lv_at hl 0 rfl) ?_
    refine lv_aload_n C0.1 C0.2.1 dX0_movedBack_31 rfl (lv_at hl 1 rfl) ?_
    refine tg_X0_streets C0 h hi0 q_252 dX0_movedBack_32 ?_
    refine lv_iload_n C0.1 C0.2.1 dX0_movedBack_35 rfl (lv_at hl 3 rfl) ?_
    refine y_iald C0 h (rSC_1_17 hi0) rfl (by decide) (o14_1 l2 u2) (o14_2 l2 u2) dX0_movedBack_36 (fun v_15 e_16 e_17 e_18 => ?_)
    refine xr_iand C0 dX0_movedBack_37 (fun v_19 e_20 => ?_)
    replace HE : FT = ((xso SC ad ws0), v_19.toInt) := HE.trans (by rw [e_20, (xg1 e_16 : v_15.toInt = (xso SC ad ws0) 1 (i0 + 17) a2.toInt.toNat), e_14, e_12, (xg1 e_7 : v_6.toInt = (xso SC ad ws0) 1 (i0 + 18) a2.toInt.toNat)]; rfl)
    rw [hQ]
    exact y_iret C0 h Fr.rf ⟨(congrArg Prod.fst (HE.symm.trans hFT)), (congrArg Prod.snd (HE.symm.trans hFT))⟩ dX0_movedBack_38
  · -- 6
    replace HE : FT = g3_X0_movedBack (xso SC ad ws0) i0 a1.toInt a2.toInt := HE.trans (if_pos c_5)
    refine lv_iload_n C0.1 C0.2.1 dX0_movedBack_9 rfl (lv_at hl 1 rfl) ?_
    refine lv_aload_n C0.1 C0.2.1 dX0_movedBack_10 rfl (lv_at hl 0 rfl) ?_
    refine tg_X0_strides C0 h hi0 q_255 dX0_movedBack_11 ?_
    refine lv_iload_n C0.1 C0.2.1 dX0_movedBack_14 rfl (lv_at hl 2 rfl) ?_
    refine y_iald C0 h (rSC_1_18 hi0) rfl (by decide) (o14_1 l2 u2) (o14_2 l2 u2) dX0_movedBack_15 (fun v_21 e_22 e_23 e_24 => ?_)
    have qh_25 : v_21.toInt = v_1.toInt := congrArg Int32.toInt (e_22.symm.trans (Eq.trans rfl e_2))
    refine xr_ishr C0 dX0_movedBack_16 (fun v_26 e_27 => ?_)
    refine lv_goto (tgt := 29) C0.1 C0.2.1 dX0_movedBack_17 (by decide) ?_
    refine lv_istore_n (lv' := [(3, .int v_26), (0, .ref (ad i0)), (1, .int a1), (2, .int a2)]) C0.1 C0.2.1 dX0_movedBack_29 rfl hl (by decide) rfl (fun ls hl => ?_)
    refine lv_iload_n C0.1 C0.2.1 dX0_movedBack_30 rfl (lv_at hl 0 rfl) ?_
    refine lv_aload_n C0.1 C0.2.1 dX0_movedBack_31 rfl (lv_at hl 1 rfl) ?_
    refine tg_X0_streets C0 h hi0 q_252 dX0_movedBack_32 ?_
    refine lv_iload_n C0.1 C0.2.1 dX0_movedBack_35 rfl (lv_at hl 3 rfl) ?_
    refine y_iald C0 h (rSC_1_17 hi0) rfl (by decide) (o14_1 l2 u2) (o14_2 l2 u2) dX0_movedBack_36 (fun v_28 e_29 e_30 e_31 => ?_)
    refine xr_iand C0 dX0_movedBack_37 (fun v_32 e_33 => ?_)
    replace HE : FT = ((xso SC ad ws0), v_32.toInt) := HE.trans (by rw [e_33, (xg1 e_29 : v_28.toInt = (xso SC ad ws0) 1 (i0 + 17) a2.toInt.toNat), e_27, (xg1 e_22 : v_21.toInt = (xso SC ad ws0) 1 (i0 + 18) a2.toInt.toNat)]; rfl)
    rw [hQ]
    exact y_iret C0 h Fr.rf ⟨(congrArg Prod.fst (HE.symm.trans hFT)), (congrArg Prod.snd (HE.symm.trans hFT))⟩ dX0_movedBack_38
noncomputable def g2_X0_cost (s : XS) : XR := (s, 1)
noncomputable def g8c_X0_cost (s : XS) (r_40 : Int) : XR := (s, (max 0 r_40))
noncomputable def g6_X0_cost (s : XS) (i0 : Nat) (a1 : Int) (a2 : Int) (a3 : Int) (a4 : Int) : XR := g8c_X0_cost ((f_X4_value s (i0 + 1) (a1 % (s 0 i0 5)) (a1 / (s 0 i0 5)) a2 a3 a4).1) (((f_X4_value s (i0 + 1) (a1 % (s 0 i0 5)) (a1 / (s 0 i0 5)) a2 a3 a4).2))
noncomputable def g7_X0_cost (s : XS) : XR := (s, 1)
noncomputable def g5b_X0_cost (s : XS) (r_11 : Int) (i0 : Nat) (a1 : Int) (a2 : Int) (a3 : Int) (a4 : Int) : XR := if r_11 = 0 then g7_X0_cost s else g6_X0_cost s i0 a1 a2 a3 a4
noncomputable def g4c_X0_cost (s : XS) (r_11 : Int) (i0 : Nat) (a1 : Int) (a2 : Int) (a3 : Int) (a4 : Int) : XR := g5b_X0_cost s r_11 i0 a1 a2 a3 a4
noncomputable def g3_X0_cost (s : XS) (i0 : Nat) (a1 : Int) (a2 : Int) (a3 : Int) (a4 : Int) : XR := g4c_X0_cost ((f_X4_isTold s (i0 + 1)).1) (((f_X4_isTold s (i0 + 1)).2)) i0 a1 a2 a3 a4
noncomputable def g1b_X0_cost (s : XS) (v_1 : Int) (i0 : Nat) (a1 : Int) (a2 : Int) (a3 : Int) (a4 : Int) : XR := if 0 < v_1 then g3_X0_cost s i0 a1 a2 a3 a4 else g2_X0_cost s
noncomputable def f_X0_cost (s : XS) (i0 : Nat) (a1 : Int) (a2 : Int) (a3 : Int) (a4 : Int) : XR := g1b_X0_cost s ((s 0 i0 5)) i0 a1 a2 a3 a4
set_option maxHeartbeats 4000000 in
set_option maxRecDepth 100000 in
theorem c_X0_cost (l : Launch) (G : GG) (Z : RZ) (ad : Nat → Nat) (ws0 : va_W) (hT : Ty G SC ad ws0) (i0 : Nat) (hi0 : Kd SC i0 1) (a1 : Int32) (a2 : Int32) (a3 : Int32) (a4 : Int32) (l1 : 0 ≤ a1.toInt) (u1 : a1.toInt ≤ 24) : Mq l yX0_cost cX0_cost 5 (some .int) 2 G Z [.ref (ad i0), .int a1, .int a2, .int a3, .int a4] ws0 (PI G SC ad [4, 5] ws0 (fun r u => (xso SC ad u = (f_X0_cost (xso SC ad ws0) i0 a1.toInt a2.toInt a3.toInt a4.toInt).1) ∧ (r.toInt = (f_X0_cost (xso SC ad ws0) i0 a1.toInt a2.toInt a3.toInt a4.toInt).2) ∧ (0 ≤ r.toInt))) := by
  refine Mq.start (by decide) (Nat.le_of_ble_eq_true rfl) ?_
  intro p e s m below meth c A ls C0 hZ h hl
  have hl : lv_has ls 5 [(0, .ref (ad i0)), (1, .int a1), (2, .int a2), (3, .int a3), (4, .int a4)] := hl
  have h : Wt G SC ad A s s.heap [] ws0 := ⟨h, hT⟩
  obtain ⟨args, hargs⟩ : ∃ z, z = ([.ref (ad i0), .int a1, .int a2, .int a3, .int a4] : List Value).toArray := ⟨_, rfl⟩
  rw [← hargs] at C0 ⊢
  have C0 : Cx p s m args meth c RX0 cX0_cost 5 (some .int) := C0
  obtain ⟨Q, hQ⟩ : ∃ z, z = MQ below ((PI G SC ad [4, 5] ws0 (fun r u => (xso SC ad u = (f_X0_cost (xso SC ad ws0) i0 a1.toInt a2.toInt a3.toInt a4.toInt).1) ∧ (r.toInt = (f_X0_cost (xso SC ad ws0) i0 a1.toInt a2.toInt a3.toInt a4.toInt).2) ∧ (0 ≤ r.toInt))) A) args s 0 0 A := ⟨_, rfl⟩
  rw [← hQ]
  obtain ⟨FT, hFT⟩ : ∃ z, z = f_X0_cost (xso SC ad ws0) i0 a1.toInt a2.toInt a3.toInt a4.toInt := ⟨_, rfl⟩
  have HE : FT = f_X0_cost (xso SC ad ws0) i0 a1.toInt a2.toInt a3.toInt a4.toInt := hFT
  refine lv_aload_n C0.1 C0.2.1 dX0_cost_0 rfl (lv_at hl 0 rfl) ?_
  refine tg_X0_wide C0 h hi0 q_256 dX0_cost_1 (fun v_1 e_2 e_3 e_4 => ?_)
  replace HE : FT = g1b_X0_cost (xso SC ad ws0) v_1.toInt i0 a1.toInt a2.toInt a3.toInt a4.toInt := HE.trans (by rw [(xg0 e_2 : v_1.toInt = (xso SC ad ws0) 0 i0 5)]; rfl)
  refine y_if_le (tgt := 17) C0 dX0_cost_4 (by decide) (fun c_5 => ?_) (fun c_5 => ?_)
  · -- 4
    replace HE : FT = g2_X0_cost (xso SC ad ws0) := HE.trans (if_neg (Int.not_lt.mpr c_5))
    refine y_c1 (n := 1) C0 (by decide) dX0_cost_17 (fun v_6 e_7 => ?_)
    replace HE : FT = ((xso SC ad ws0), v_6.toInt) := HE.trans (by rw [e_7]; rfl)
    rw [hQ]
    exact y_iret C0 h Fr.rf ⟨(congrArg Prod.fst (HE.symm.trans hFT)), (congrArg Prod.snd (HE.symm.trans hFT)), (o14_48 e_7)⟩ dX0_cost_18
  · -- 4
    replace HE : FT = g3_X0_cost (xso SC ad ws0) i0 a1.toInt a2.toInt a3.toInt a4.toInt := HE.trans (if_pos c_5)
    refine lv_aload_n C0.1 C0.2.1 dX0_cost_7 rfl (lv_at hl 0 rfl) ?_
    refine tg_X0_priceLaw C0 h hi0 q_242 dX0_cost_8 ?_
    refine y_ci h (y_rV (As := []) (rest := []) C0 hZ h (c_X4_isTold l G Z ad _ h.2 (i0 + 1) ((rSC_1_1 hi0))) k_X4_isTold q_931 q_932 q_930 (rSC_1_1 hi0) rfl rfl rfl hl.1 rfl rfl (Nat.le_of_ble_eq_true rfl) dX0_cost_11 ⟨Nat.le_of_ble_eq_true rfl, Nat.le_of_ble_eq_true rfl⟩ ⟨Nat.le_of_ble_eq_true rfl, Nat.le_of_ble_eq_true rfl⟩) (fun r_11 H locs ws_8 h u_9 p_10 => ?_)
    obtain ⟨e_12, e_13, e_14, e_15⟩ := p_10
    replace HE : FT = g4c_X0_cost (xso SC ad ws_8) r_11.toInt i0 a1.toInt a2.toInt a3.toInt a4.toInt := HE.trans (by rw [e_12, e_13]; rfl)
    replace HE : FT = g5b_X0_cost (xso SC ad ws_8) r_11.toInt i0 a1.toInt a2.toInt a3.toInt a4.toInt := HE.trans rfl
    refine y_if_ne (tgt := 19) C0 dX0_cost_14 (by decide) (fun c_16 => ?_) (fun c_16 => ?_)
    · -- 14
      replace HE : FT = g6_X0_cost (xso SC ad ws_8) i0 a1.toInt a2.toInt a3.toInt a4.toInt := HE.trans (if_neg c_16)
      refine y_c1 (n := 0) C0 (by decide) dX0_cost_19 (fun v_17 e_18 => ?_)
      refine lv_aload_n C0.1 C0.2.1 dX0_cost_20 rfl (lv_at hl 0 rfl) ?_
      refine tg_X0_priceLaw C0 h hi0 q_242 dX0_cost_21 ?_
      refine lv_iload_n C0.1 C0.2.1 dX0_cost_24 rfl (lv_at hl 1 rfl) ?_
      refine lv_aload_n C0.1 C0.2.1 dX0_cost_25 rfl (lv_at hl 0 rfl) ?_
      refine tg_X0_wide C0 h hi0 q_256 dX0_cost_26 (fun v_19 e_20 e_21 e_22 => ?_)
      have qh_23 : v_19.toInt = v_1.toInt := congrArg Int32.toInt (e_20.symm.trans (Eq.trans (Fr.fI u_9 hi0 (by decide)) e_2))
      refine y_remXm C0 (o14_49 e_3 e_4 c_5 e_21 e_22 qh_23) (o14_50 l1 u1) dX0_cost_29 (fun v_24 e_25 e_26 e_27 => ?_)
      refine lv_iload_n C0.1 C0.2.1 dX0_cost_30 rfl (lv_at hl 1 rfl) ?_
      refine lv_aload_n C0.1 C0.2.1 dX0_cost_31 rfl (lv_at hl 0 rfl) ?_
      refine tg_X0_wide C0 h hi0 q_256 dX0_cost_32 (fun v_28 e_29 e_30 e_31 => ?_)
      have qh_32 : v_28.toInt = v_1.toInt := congrArg Int32.toInt (e_29.symm.trans (Eq.trans (Fr.fI u_9 hi0 (by decide)) e_2))
      refine y_divXm C0 (o14_51 l1 u1 e_3 e_4 c_5 e_21 e_22 qh_23 e_25 e_26 e_27 e_30 e_31 qh_32) (o14_52 l1 u1 e_3 e_4 c_5 e_21 e_22 qh_23 e_25 e_26 e_27 e_30 e_31 qh_32) dX0_cost_35 (fun v_33 e_34 e_35 e_36 => ?_)
      refine lv_iload_n C0.1 C0.2.1 dX0_cost_36 rfl (lv_at hl 2 rfl) ?_
      refine lv_iload_n C0.1 C0.2.1 dX0_cost_37 rfl (lv_at hl 3 rfl) ?_
      refine lv_iload C0.1 C0.2.1 dX0_cost_38 (lv_at hl 4 rfl) ?_
      refine y_ci h (y_rV (As := [.int v_24, .int v_33, .int a2, .int a3, .int a4]) (rest := [.int v_17]) C0 hZ h (c_X4_value l G Z ad _ h.2 (i0 + 1) ((rSC_1_1 hi0)) v_24 v_33 a2 a3 a4) k_X4_value q_935 q_936 q_934 (rSC_1_1 hi0) rfl rfl rfl hl.1 rfl rfl (Nat.le_of_ble_eq_true rfl) dX0_cost_40 ⟨Nat.le_of_ble_eq_true rfl, Nat.le_of_ble_eq_true rfl⟩ ⟨Nat.le_of_ble_eq_true rfl, Nat.le_of_ble_eq_true rfl⟩) (fun r_40 H locs ws_37 h u_38 p_39 => ?_)
      obtain ⟨e_41, e_42⟩ := p_39
      replace HE : FT = g8c_X0_cost (xso SC ad ws_37) r_40.toInt := HE.trans (by rw [e_41, e_42, e_34, (xg0 e_29 : v_28.toInt = (xso SC ad ws_8) 0 i0 5), e_25, (xg0 e_20 : v_19.toInt = (xso SC ad ws_8) 0 i0 5)]; rfl)
      refine y_max C0 hl.1 q_946 q_660 q_141 q_661 (Nat.le_of_ble_eq_true rfl) (Nat.le_of_ble_eq_true rfl) (Nat.le_of_ble_eq_true rfl) (Nat.le_of_ble_eq_true rfl) dX0_cost_43 (fun v_43 e_44 => ?_)
      replace HE : FT = ((xso SC ad ws_37), v_43.toInt) := HE.trans (by rw [(ix_max e_44), (o14_53 e_18 e_44)]; rfl)
      rw [hQ]
      exact y_iret C0 h (Fr.tr (Fr.mono u_9 (by decide)) u_38) ⟨(congrArg Prod.fst (HE.symm.trans hFT)), (congrArg Prod.snd (HE.symm.trans hFT)), (o14_54 e_18 e_44)⟩ dX0_cost_46
    · -- 14
      replace HE : FT = g7_X0_cost (xso SC ad ws_8) := HE.trans (if_pos c_16)
      refine y_c1 (n := 1) C0 (by decide) dX0_cost_17 (fun v_45 e_46 => ?_)
      replace HE : FT = ((xso SC ad ws_8), v_45.toInt) := HE.trans (by rw [e_46]; rfl)
      rw [hQ]
      exact y_iret C0 h (Fr.mono u_9 (by decide)) ⟨(congrArg Prod.fst (HE.symm.trans hFT)), (congrArg Prod.snd (HE.symm.trans hFT)), (o14_48 e_46)⟩ dX0_cost_18
noncomputable def g1c_X0_costTo (s : XS) (r_22 : Int) : XR := (s, r_22)
noncomputable def f_X0_costTo (s : XS) (i0 : Nat) (a1 : Int) (a2 : Int) : XR := g1c_X0_costTo ((f_X0_cost s i0 (s 1 (i0 + 9 + 1) (Int.toNat a1)) (s 0 (i0 + 9) 8) (Xiadd (s 1 (i0 + 9 + 6) (Int.toNat (s 1 (i0 + 9 + 1) (Int.toNat a1)))) a2) (s 1 (i0 + 9 + 2) (Int.toNat a1))).1) (((f_X0_cost s i0 (s 1 (i0 + 9 + 1) (Int.toNat a1)) (s 0 (i0 + 9) 8) (Xiadd (s 1 (i0 + 9 + 6) (Int.toNat (s 1 (i0 + 9 + 1) (Int.toNat a1)))) a2) (s 1 (i0 + 9 + 2) (Int.toNat a1))).2))
set_option maxHeartbeats 4000000 in
set_option maxRecDepth 100000 in
theorem c_X0_costTo (l : Launch) (G : GG) (Z : RZ) (ad : Nat → Nat) (ws0 : va_W) (hT : Ty G SC ad ws0) (i0 : Nat) (hi0 : Kd SC i0 1) (a1 : Int32) (a2 : Int32) (l1 : 0 ≤ a1.toInt) (u1 : a1.toInt ≤ 4) : Mq l yX0_costTo cX0_costTo 4 (some .int) 3 G Z [.ref (ad i0), .int a1, .int a2] ws0 (PI G SC ad [4, 5] ws0 (fun r u => (xso SC ad u = (f_X0_costTo (xso SC ad ws0) i0 a1.toInt a2.toInt).1) ∧ (r.toInt = (f_X0_costTo (xso SC ad ws0) i0 a1.toInt a2.toInt).2) ∧ (0 ≤ r.toInt))) := by
  refine Mq.start (by decide) (Nat.le_of_ble_eq_true rfl) ?_
  intro p e s m below meth c A ls C0 hZ h hl
  have hl : lv_has ls 4 [(0, .ref (ad i0)), (1, .int a1), (2, .int a2)] := hl
  have h : Wt G SC ad A s s.heap [] ws0 := ⟨h, hT⟩
  obtain ⟨args, hargs⟩ : ∃ z, z = ([.ref (ad i0), .int a1, .int a2] : List Value).toArray := ⟨_, rfl⟩
  rw [← hargs] at C0 ⊢
  have C0 : Cx p s m args meth c RX0 cX0_costTo 4 (some .int) := C0
  obtain ⟨Q, hQ⟩ : ∃ z, z = MQ below ((PI G SC ad [4, 5] ws0 (fun r u => (xso SC ad u = (f_X0_costTo (xso SC ad ws0) i0 a1.toInt a2.toInt).1) ∧ (r.toInt = (f_X0_costTo (xso SC ad ws0) i0 a1.toInt a2.toInt).2) ∧ (0 ≤ r.toInt))) A) args s 0 0 A := ⟨_, rfl⟩
  rw [← hQ]
  obtain ⟨FT, hFT⟩ : ∃ z, z = f_X0_costTo (xso SC ad ws0) i0 a1.toInt a2.toInt := ⟨_, rfl⟩
  have HE : FT = f_X0_costTo (xso SC ad ws0) i0 a1.toInt a2.toInt := hFT
  refine lv_aload_n C0.1 C0.2.1 dX0_costTo_0 rfl (lv_at hl 0 rfl) ?_
  refine tg_X0_folk C0 h hi0 q_247 dX0_costTo_1 ?_
  refine tg_X1_at C0 h (rSC_1_9 hi0) q_192 dX0_costTo_4 ?_
  refine lv_iload_n C0.1 C0.2.1 dX0_costTo_7 rfl (lv_at hl 1 rfl) ?_
  refine y_iald C0 h (rSC_6_1 (rSC_1_9 hi0)) rfl (by decide) (o14_55 l1 u1) (o14_56 l1 u1) dX0_costTo_8 (fun v_1 e_2 e_3 e_4 => ?_)
  refine lv_istore_n (lv' := [(3, .int v_1), (0, .ref (ad i0)), (1, .int a1), (2, .int a2)]) C0.1 C0.2.1 dX0_costTo_9 rfl hl (by decide) rfl (fun ls hl => ?_)
  refine lv_aload_n C0.1 C0.2.1 dX0_costTo_10 rfl (lv_at hl 1 rfl) ?_
  refine lv_iload_n C0.1 C0.2.1 dX0_costTo_11 rfl (lv_at hl 0 rfl) ?_
  refine lv_aload_n C0.1 C0.2.1 dX0_costTo_12 rfl (lv_at hl 1 rfl) ?_
  refine tg_X0_folk C0 h hi0 q_247 dX0_costTo_13 ?_
  refine tg_X1_hours C0 h (rSC_1_9 hi0) q_221 dX0_costTo_16 (fun v_5 e_6 e_7 e_8 => ?_)
  refine lv_aload_n C0.1 C0.2.1 dX0_costTo_19 rfl (lv_at hl 1 rfl) ?_
  refine tg_X0_folk C0 h hi0 q_247 dX0_costTo_20 ?_
  refine tg_X1_sold C0 h (rSC_1_9 hi0) q_209 dX0_costTo_23 ?_
  refine lv_iload_n C0.1 C0.2.1 dX0_costTo_26 rfl (lv_at hl 0 rfl) ?_
  refine y_iald C0 h (rSC_6_6 (rSC_1_9 hi0)) rfl (by decide) (o14_50 e_3 e_4) (o14_57 e_3 e_4) dX0_costTo_27 (fun v_9 e_10 e_11 e_12 => ?_)
  refine lv_iload_n C0.1 C0.2.1 dX0_costTo_28 rfl (lv_at hl 3 rfl) ?_
  refine xr_iadd C0 dX0_costTo_29 (fun v_13 e_14 => ?_)
  refine lv_aload_n C0.1 C0.2.1 dX0_costTo_30 rfl (lv_at hl 1 rfl) ?_
  refine tg_X0_folk C0 h hi0 q_247 dX0_costTo_31 ?_
  refine tg_X1_heads C0 h (rSC_1_9 hi0) q_195 dX0_costTo_34 ?_
  refine lv_iload_n C0.1 C0.2.1 dX0_costTo_37 rfl (lv_at hl 2 rfl) ?_
  refine y_iald C0 h (rSC_6_2 (rSC_1_9 hi0)) rfl (by decide) (o14_55 l1 u1) (o14_56 l1 u1) dX0_costTo_38 (fun v_15 e_16 e_17 e_18 => ?_)
  refine y_ci h (y_rV (As := [.int v_1, .int v_5, .int v_13, .int v_15]) (rest := []) C0 hZ h (c_X0_cost l G Z ad _ h.2 i0 hi0 v_1 v_5 v_13 v_15 (o14_50 e_3 e_4) (o14_58 e_3 e_4)) k_X0_cost q_927 q_928 q_1020 hi0 rfl rfl rfl hl.1 rfl rfl (Nat.le_of_ble_eq_true rfl) dX0_costTo_39 ⟨Nat.le_of_ble_eq_true rfl, Nat.le_of_ble_eq_true rfl⟩ ⟨Nat.le_of_ble_eq_true rfl, Nat.le_of_ble_eq_true rfl⟩) (fun r_22 H locs ws_19 h u_20 p_21 => ?_)
  obtain ⟨e_23, e_24, e_25⟩ := p_21
  replace HE : FT = g1c_X0_costTo (xso SC ad ws_19) r_22.toInt := HE.trans (by rw [e_23, e_24, (xg1 e_16 : v_15.toInt = (xso SC ad ws0) 1 (i0 + 9 + 2) a1.toInt.toNat), e_14, (xg1 e_10 : v_9.toInt = (xso SC ad ws0) 1 (i0 + 9 + 6) v_1.toInt.toNat), (xg0 e_6 : v_5.toInt = (xso SC ad ws0) 0 (i0 + 9) 8), (xg1 e_2 : v_1.toInt = (xso SC ad ws0) 1 (i0 + 9 + 1) a1.toInt.toNat)]; rfl)
  replace HE : FT = ((xso SC ad ws_19), r_22.toInt) := HE.trans rfl
  rw [hQ]
  exact y_iret C0 h u_20 ⟨(congrArg Prod.fst (HE.symm.trans hFT)), (congrArg Prod.snd (HE.symm.trans hFT)), (o14_59 e_25)⟩ dX0_costTo_42
noncomputable def g2_X0_allows (s : XS) : XR := (s, 1)
noncomputable def g10_X0_allows (s : XS) : XR := (s, 0)
noncomputable def g11_X0_allows (s : XS) : XR := (s, 1)
noncomputable def g9b_X0_allows (s : XS) (r_42 : Int) : XR := if r_42 = 0 then g10_X0_allows s else g11_X0_allows s
noncomputable def g8c_X0_allows (s : XS) (r_42 : Int) : XR := g9b_X0_allows s r_42
noncomputable def g6_X0_allows (s : XS) (i0 : Nat) (a1 : Int) (a2 : Int) (a3 : Int) : XR := g8c_X0_allows ((f_X4_value s (i0 + 5) (a1 % (s 0 i0 5)) (a1 / (s 0 i0 5)) a2 (s 1 (i0 + 9 + 6) (Int.toNat a1)) a3).1) (((f_X4_value s (i0 + 5) (a1 % (s 0 i0 5)) (a1 / (s 0 i0 5)) a2 (s 1 (i0 + 9 + 6) (Int.toNat a1)) a3).2))
noncomputable def g7_X0_allows (s : XS) : XR := (s, 1)
noncomputable def g5b_X0_allows (s : XS) (r_11 : Int) (i0 : Nat) (a1 : Int) (a2 : Int) (a3 : Int) : XR := if r_11 = 0 then g7_X0_allows s else g6_X0_allows s i0 a1 a2 a3
noncomputable def g4c_X0_allows (s : XS) (r_11 : Int) (i0 : Nat) (a1 : Int) (a2 : Int) (a3 : Int) : XR := g5b_X0_allows s r_11 i0 a1 a2 a3
noncomputable def g3_X0_allows (s : XS) (i0 : Nat) (a1 : Int) (a2 : Int) (a3 : Int) : XR := g4c_X0_allows ((f_X4_isTold s (i0 + 5)).1) (((f_X4_isTold s (i0 + 5)).2)) i0 a1 a2 a3
noncomputable def g1b_X0_allows (s : XS) (v_1 : Int) (i0 : Nat) (a1 : Int) (a2 : Int) (a3 : Int) : XR := if 0 < v_1 then g3_X0_allows s i0 a1 a2 a3 else g2_X0_allows s
noncomputable def f_X0_allows (s : XS) (i0 : Nat) (a1 : Int) (a2 : Int) (a3 : Int) : XR := g1b_X0_allows s ((s 0 i0 5)) i0 a1 a2 a3
set_option maxHeartbeats 4000000 in
set_option maxRecDepth 100000 in
theorem c_X0_allows (l : Launch) (G : GG) (Z : RZ) (ad : Nat → Nat) (ws0 : va_W) (hT : Ty G SC ad ws0) (i0 : Nat) (hi0 : Kd SC i0 1) (a1 : Int32) (a2 : Int32) (a3 : Int32) (l1 : 0 ≤ a1.toInt) (u1 : a1.toInt ≤ 24) : Mq l yX0_allows cX0_allows 4 (some .boolean) 2 G Z [.ref (ad i0), .int a1, .int a2, .int a3] ws0 (PI G SC ad [4, 5] ws0 (fun r u => (xso SC ad u = (f_X0_allows (xso SC ad ws0) i0 a1.toInt a2.toInt a3.toInt).1) ∧ (r.toInt = (f_X0_allows (xso SC ad ws0) i0 a1.toInt a2.toInt a3.toInt).2) ∧ (0 ≤ r.toInt) ∧ (r.toInt ≤ 1))) := by
  refine Mq.start (by decide) (Nat.le_of_ble_eq_true rfl) ?_
  intro p e s m below meth c A ls C0 hZ h hl
  have hl : lv_has ls 4 [(0, .ref (ad i0)), (1, .int a1), (2, .int a2), (3, .int a3)] := hl
  have h : Wt G SC ad A s s.heap [] ws0 := ⟨h, hT⟩
  obtain ⟨args, hargs⟩ : ∃ z, z = ([.ref (ad i0), .int a1, .int a2, .int a3] : List Value).toArray := ⟨_, rfl⟩
  rw [← hargs] at C0 ⊢
  have C0 : Cx p s m args meth c RX0 cX0_allows 4 (some .boolean) := C0
  obtain ⟨Q, hQ⟩ : ∃ z, z = MQ below ((PI G SC ad [4, 5] ws0 (fun r u => (xso SC ad u = (f_X0_allows (xso SC ad ws0) i0 a1.toInt a2.toInt a3.toInt).1) ∧ (r.toInt = (f_X0_allows (xso SC ad ws0) i0 a1.toInt a2.toInt a3.toInt).2) ∧ (0 ≤ r.toInt) ∧ (r.toInt ≤ 1))) A) args s 0 0 A := ⟨_, rfl⟩
  rw [← hQ]
  obtain ⟨FT, hFT⟩ : ∃ z, z = f_X0_allows (xso SC ad ws0) i0 a1.toInt a2.toInt a3.toInt := ⟨_, rfl⟩
  have HE : FT = f_X0_allows (xso SC ad ws0) i0 a1.toInt a2.toInt a3.toInt := hFT
  refine lv_aload_n C0.1 C0.2.1 dX0_allows_0 rfl (lv_at hl 0 rfl) ?_
  refine tg_X0_wide C0 h hi0 q_256 dX0_allows_1 (fun v_1 e_2 e_3 e_4 => ?_)
  replace HE : FT = g1b_X0_allows (xso SC ad ws0) v_1.toInt i0 a1.toInt a2.toInt a3.toInt := HE.trans (by rw [(xg0 e_2 : v_1.toInt = (xso SC ad ws0) 0 i0 5)]; rfl)
  refine y_if_le (tgt := 17) C0 dX0_allows_4 (by decide) (fun c_5 => ?_) (fun c_5 => ?_)
  · -- 4
    replace HE : FT = g2_X0_allows (xso SC ad ws0) := HE.trans (if_neg (Int.not_lt.mpr c_5))
    refine y_c1 (n := 1) C0 (by decide) dX0_allows_17 (fun v_6 e_7 => ?_)
    replace HE : FT = ((xso SC ad ws0), v_6.toInt) := HE.trans (by rw [e_7]; rfl)
    rw [hQ]
    exact y_zret C0 h (o14_48 e_7) (o14_60 e_7) Fr.rf ⟨(congrArg Prod.fst (HE.symm.trans hFT)), (congrArg Prod.snd (HE.symm.trans hFT)), (o14_48 e_7), (o14_60 e_7)⟩ dX0_allows_18
  · -- 4
    replace HE : FT = g3_X0_allows (xso SC ad ws0) i0 a1.toInt a2.toInt a3.toInt := HE.trans (if_pos c_5)
    refine lv_aload_n C0.1 C0.2.1 dX0_allows_7 rfl (lv_at hl 0 rfl) ?_
    refine tg_X0_mayLaw C0 h hi0 q_244 dX0_allows_8 ?_
    refine y_ci h (y_rV (As := []) (rest := []) C0 hZ h (c_X4_isTold l G Z ad _ h.2 (i0 + 5) ((rSC_1_5 hi0))) k_X4_isTold q_931 q_932 q_930 (rSC_1_5 hi0) rfl rfl rfl hl.1 rfl rfl (Nat.le_of_ble_eq_true rfl) dX0_allows_11 ⟨Nat.le_of_ble_eq_true rfl, Nat.le_of_ble_eq_true rfl⟩ ⟨Nat.le_of_ble_eq_true rfl, Nat.le_of_ble_eq_true rfl⟩) (fun r_11 H locs ws_8 h u_9 p_10 => ?_)
    obtain ⟨e_12, e_13, e_14, e_15⟩ := p_10
    replace HE : FT = g4c_X0_allows (xso SC ad ws_8) r_11.toInt i0 a1.toInt a2.toInt a3.toInt := HE.trans (by rw [e_12, e_13]; rfl)
    replace HE : FT = g5b_X0_allows (xso SC ad ws_8) r_11.toInt i0 a1.toInt a2.toInt a3.toInt := HE.trans rfl
    refine y_if_ne (tgt := 19) C0 dX0_allows_14 (by decide) (fun c_16 => ?_) (fun c_16 => ?_)
    · -- 14
      replace HE : FT = g6_X0_allows (xso SC ad ws_8) i0 a1.toInt a2.toInt a3.toInt := HE.trans (if_neg c_16)
      refine lv_aload_n C0.1 C0.2.1 dX0_allows_19 rfl (lv_at hl 0 rfl) ?_
      refine tg_X0_mayLaw C0 h hi0 q_244 dX0_allows_20 ?_
      refine lv_iload_n C0.1 C0.2.1 dX0_allows_23 rfl (lv_at hl 1 rfl) ?_
      refine lv_aload_n C0.1 C0.2.1 dX0_allows_24 rfl (lv_at hl 0 rfl) ?_
      refine tg_X0_wide C0 h hi0 q_256 dX0_allows_25 (fun v_17 e_18 e_19 e_20 => ?_)
      have qh_21 : v_17.toInt = v_1.toInt := congrArg Int32.toInt (e_18.symm.trans (Eq.trans (Fr.fI u_9 hi0 (by decide)) e_2))
      refine y_remXm C0 (o14_49 e_3 e_4 c_5 e_19 e_20 qh_21) (o14_50 l1 u1) dX0_allows_28 (fun v_22 e_23 e_24 e_25 => ?_)
      refine lv_iload_n C0.1 C0.2.1 dX0_allows_29 rfl (lv_at hl 1 rfl) ?_
      refine lv_aload_n C0.1 C0.2.1 dX0_allows_30 rfl (lv_at hl 0 rfl) ?_
      refine tg_X0_wide C0 h hi0 q_256 dX0_allows_31 (fun v_26 e_27 e_28 e_29 => ?_)
      have qh_30 : v_26.toInt = v_1.toInt := congrArg Int32.toInt (e_27.symm.trans (Eq.trans (Fr.fI u_9 hi0 (by decide)) e_2))
      refine y_divXm C0 (o14_51 l1 u1 e_3 e_4 c_5 e_19 e_20 qh_21 e_23 e_24 e_25 e_28 e_29 qh_30) (o14_52 l1 u1 e_3 e_4 c_5 e_19 e_20 qh_21 e_23 e_24 e_25 e_28 e_29 qh_30) dX0_allows_34 (fun v_31 e_32 e_33 e_34 => ?_)
      refine lv_iload_n C0.1 C0.2.1 dX0_allows_35 rfl (lv_at hl 2 rfl) ?_
      refine lv_aload_n C0.1 C0.2.1 dX0_allows_36 rfl (lv_at hl 0 rfl) ?_
      refine tg_X0_folk C0 h hi0 q_247 dX0_allows_37 ?_
      refine tg_X1_sold C0 h (rSC_1_9 hi0) q_209 dX0_allows_40 ?_
      refine lv_iload_n C0.1 C0.2.1 dX0_allows_43 rfl (lv_at hl 1 rfl) ?_
      refine y_iald C0 h (rSC_6_6 (rSC_1_9 hi0)) rfl (by decide) (o14_61 l1 u1 e_3 e_4 c_5 e_19 e_20 qh_21 e_23 e_24 e_25 e_28 e_29 qh_30 e_32 e_33 e_34) (o14_62 l1 u1 e_3 e_4 c_5 e_19 e_20 qh_21 e_23 e_24 e_25 e_28 e_29 qh_30 e_32 e_33 e_34) dX0_allows_44 (fun v_35 e_36 e_37 e_38 => ?_)
      refine lv_iload_n C0.1 C0.2.1 dX0_allows_45 rfl (lv_at hl 3 rfl) ?_
      refine y_ci h (y_rV (As := [.int v_22, .int v_31, .int a2, .int v_35, .int a3]) (rest := []) C0 hZ h (c_X4_value l G Z ad _ h.2 (i0 + 5) ((rSC_1_5 hi0)) v_22 v_31 a2 v_35 a3) k_X4_value q_935 q_936 q_934 (rSC_1_5 hi0) rfl rfl rfl hl.1 rfl rfl (Nat.le_of_ble_eq_true rfl) dX0_allows_46 ⟨Nat.le_of_ble_eq_true rfl, Nat.le_of_ble_eq_true rfl⟩ ⟨Nat.le_of_ble_eq_true rfl, Nat.le_of_ble_eq_true rfl⟩) (fun r_42 H locs ws_39 h u_40 p_41 => ?_)
      obtain ⟨e_43, e_44⟩ := p_41
      replace HE : FT = g8c_X0_allows (xso SC ad ws_39) r_42.toInt := HE.trans (by rw [e_43, e_44, (xg1 e_36 : v_35.toInt = (xso SC ad ws_8) 1 (i0 + 9 + 6) a1.toInt.toNat), e_32, (xg0 e_27 : v_26.toInt = (xso SC ad ws_8) 0 i0 5), e_23, (xg0 e_18 : v_17.toInt = (xso SC ad ws_8) 0 i0 5)]; rfl)
      replace HE : FT = g9b_X0_allows (xso SC ad ws_39) r_42.toInt := HE.trans rfl
      refine y_if_eq (tgt := 56) C0 dX0_allows_49 (by decide) (fun c_45 => ?_) (fun c_45 => ?_)
      · -- 49
        replace HE : FT = g10_X0_allows (xso SC ad ws_39) := HE.trans (if_pos c_45)
        refine y_c1 (n := 0) C0 (by decide) dX0_allows_56 (fun v_46 e_47 => ?_)
        replace HE : FT = ((xso SC ad ws_39), v_46.toInt) := HE.trans (by rw [e_47]; rfl)
        rw [hQ]
        exact y_zret C0 h (o14_45 e_47) (o14_63 e_47) (Fr.tr (Fr.mono u_9 (by decide)) u_40) ⟨(congrArg Prod.fst (HE.symm.trans hFT)), (congrArg Prod.snd (HE.symm.trans hFT)), (o14_45 e_47), (o14_63 e_47)⟩ dX0_allows_57
      · -- 49
        replace HE : FT = g11_X0_allows (xso SC ad ws_39) := HE.trans (if_neg c_45)
        refine y_c1 (n := 1) C0 (by decide) dX0_allows_52 (fun v_48 e_49 => ?_)
        refine lv_goto (tgt := 57) C0.1 C0.2.1 dX0_allows_53 (by decide) ?_
        replace HE : FT = ((xso SC ad ws_39), v_48.toInt) := HE.trans (by rw [e_49]; rfl)
        rw [hQ]
        exact y_zret C0 h (o14_48 e_49) (o14_60 e_49) (Fr.tr (Fr.mono u_9 (by decide)) u_40) ⟨(congrArg Prod.fst (HE.symm.trans hFT)), (congrArg Prod.snd (HE.symm.trans hFT)), (o14_48 e_49), (o14_60 e_49)⟩ dX0_allows_57
    · -- 14
      replace HE : FT = g7_X0_allows (xso SC ad ws_8) := HE.trans (if_pos c_16)
      refine y_c1 (n := 1) C0 (by decide) dX0_allows_17 (fun v_50 e_51 => ?_)
      replace HE : FT = ((xso SC ad ws_8), v_50.toInt) := HE.trans (by rw [e_51]; rfl)
      rw [hQ]
      exact y_zret C0 h (o14_48 e_51) (o14_60 e_51) (Fr.mono u_9 (by decide)) ⟨(congrArg Prod.fst (HE.symm.trans hFT)), (congrArg Prod.snd (HE.symm.trans hFT)), (o14_48 e_51), (o14_60 e_51)⟩ dX0_allows_18
noncomputable def g4_X0_freeBits (s : XS) (x2_8 : Int) : XR := (s, x2_8)
noncomputable def g7_X0_freeBits (R7 : XS → Nat → Int → Int → Int → XR) (s : XS) (i0 : Nat) (a1 : Int) (x2_8 : Int) (x3_7 : Int) : XR := R7 s i0 a1 x2_8 ((x3_7 + 1))
noncomputable def g8_X0_freeBits (R7 : XS → Nat → Int → Int → Int → XR) (s : XS) (i0 : Nat) (a1 : Int) (x2_8 : Int) (x3_7 : Int) : XR := R7 s i0 a1 ((Xior x2_8 (Xishl 1 x3_7))) ((x3_7 + 1))
noncomputable def g6b_X0_freeBits (R7 : XS → Nat → Int → Int → Int → XR) (s : XS) (a1 : Int) (v_20 : Int) (i0 : Nat) (x2_8 : Int) (x3_7 : Int) : XR := if a1 < v_20 then g8_X0_freeBits R7 s i0 a1 x2_8 x3_7 else g7_X0_freeBits R7 s i0 a1 x2_8 x3_7
noncomputable def g5_X0_freeBits (R7 : XS → Nat → Int → Int → Int → XR) (s : XS) (i0 : Nat) (a1 : Int) (x2_8 : Int) (x3_7 : Int) : XR := g6b_X0_freeBits R7 s a1 ((s 1 (i0 + 9 + 7) (Int.toNat x3_7))) i0 x2_8 x3_7
noncomputable def g3b_X0_freeBits (R7 : XS → Nat → Int → Int → Int → XR) (s : XS) (x3_7 : Int) (i0 : Nat) (a1 : Int) (x2_8 : Int) : XR := if x3_7 < 25 then g5_X0_freeBits R7 s i0 a1 x2_8 x3_7 else g4_X0_freeBits s x2_8
noncomputable def g2l_X0_freeBits (R7 : XS → Nat → Int → Int → Int → XR) (s : XS) (i0 : Nat) (a1 : Int) (x2_8 : Int) (x3_7 : Int) : XR := g3b_X0_freeBits R7 s x3_7 i0 a1 x2_8
noncomputable def L1_X0_freeBits (n : Nat) : XS → Nat → Int → Int → Int → XR := Nat.rec (motive := fun _ => XS → Nat → Int → Int → Int → XR) (fun s _ _ _ _ => (s, 0)) (fun _ R7 => g2l_X0_freeBits R7) n
noncomputable def f_X0_freeBits (s : XS) (i0 : Nat) (a1 : Int) : XR := L1_X0_freeBits (Int.toNat (25 - 0 + 1)) s i0 a1 ((s 0 i0 8)) 0
set_option maxHeartbeats 4000000 in
set_option maxRecDepth 100000 in
theorem c_X0_freeBits (l : Launch) (G : GG) (Z : RZ) (ad : Nat → Nat) (ws0 : va_W) (hT : Ty G SC ad ws0) (i0 : Nat) (hi0 : Kd SC i0 1) (a1 : Int32) : Mq l yX0_freeBits cX0_freeBits 4 (some .int) 1 G Z [.ref (ad i0), .int a1] ws0 (PI G SC ad [] ws0 (fun r u => (xso SC ad u = (f_X0_freeBits (xso SC ad ws0) i0 a1.toInt).1) ∧ (r.toInt = (f_X0_freeBits (xso SC ad ws0) i0 a1.toInt).2))) := by
  refine Mq.start (by decide) (Nat.le_of_ble_eq_true rfl) ?_
  intro p e s m below meth c A ls C0 hZ h hl
  have hl : lv_has ls 4 [(0, .ref (ad i0)), (1, .int a1)] := hl
  have h : Wt G SC ad A s s.heap [] ws0 := ⟨h, hT⟩
  obtain ⟨args, hargs⟩ : ∃ z, z = ([.ref (ad i0), .int a1] : List Value).toArray := ⟨_, rfl⟩
  rw [← hargs] at C0 ⊢
  have C0 : Cx p s m args meth c RX0 cX0_freeBits 4 (some .int) := C0
  obtain ⟨Q, hQ⟩ : ∃ z, z = MQ below ((PI G SC ad [] ws0 (fun r u => (xso SC ad u = (f_X0_freeBits (xso SC ad ws0) i0 a1.toInt).1) ∧ (r.toInt = (f_X0_freeBits (xso SC ad ws0) i0 a1.toInt).2))) A) args s 0 0 A := ⟨_, rfl⟩
  rw [← hQ]
  obtain ⟨FT, hFT⟩ : ∃ z, z = f_X0_freeBits (xso SC ad ws0) i0 a1.toInt := ⟨_, rfl⟩
  have HE : FT = f_X0_freeBits (xso SC ad ws0) i0 a1.toInt := hFT
  refine lv_aload_n C0.1 C0.2.1 dX0_freeBits_0 rfl (lv_at hl 0 rfl) ?_
  refine tg_X0_toldFree C0 h hi0 q_266 dX0_freeBits_1 (fun v_1 e_2 e_3 e_4 => ?_)
  refine lv_istore_n (lv' := [(2, .int v_1), (0, .ref (ad i0)), (1, .int a1)]) C0.1 C0.2.1 dX0_freeBits_4 rfl hl (by decide) rfl (fun ls hl => ?_)
  refine y_c1 (n := 0) C0 (by decide) dX0_freeBits_5 (fun v_5 e_6 => ?_)
  refine lv_istore_n (lv' := [(3, .int v_5), (2, .int v_1), (0, .ref (ad i0)), (1, .int a1)]) C0.1 C0.2.1 dX0_freeBits_6 rfl hl (by decide) rfl (fun ls hl => ?_)
  have lp_11 : ∀ (n_13 : Nat) (x3_7 : Int32) (x2_8 : Int32) (H : Heap) (locs : List Loc) (ls : Array Slot) (ws_9 : va_W), 25 - x3_7.toInt < (n_13 : Int) → 0 ≤ x3_7.toInt → x3_7.toInt ≤ 25 → (FT = L1_X0_freeBits n_13 (xso SC ad ws_9) i0 a1.toInt x2_8.toInt x3_7.toInt) → Wt G SC ad A s H locs ws_9 → Fr SC [] ws0 ws_9 → lv_has ls 4 [(3, .int x3_7), (2, .int x2_8), (0, .ref (ad i0)), (1, .int a1)] → W p l e (rmd 1 0 0) s m args below meth c H locs 0 0 Q (F0 m 7 ls []) := by
    intro n_13
    induction n_13 with
    | zero => intro x3_7 x2_8 H locs ls ws_9 hn_14 b_15 b_16 HE h hF_10 hl; exact ((o14_64 b_15 b_16 hn_14)).elim
    | succ n_13 ih_12 =>
      intro x3_7 x2_8 H locs ls ws_9 hn_14 b_15 b_16 HE h hF_10 hl
      obtain ⟨R7, hR7⟩ : ∃ z, z = L1_X0_freeBits n_13 := ⟨_, rfl⟩
      replace HE : FT = g2l_X0_freeBits R7 (xso SC ad ws_9) i0 a1.toInt x2_8.toInt x3_7.toInt := HE.trans (by rw [hR7]; rfl)
      refine lv_iload_n C0.1 C0.2.1 dX0_freeBits_7 rfl (lv_at hl 0 rfl) ?_
      refine y_c2 (n := 25) C0 (by decide) dX0_freeBits_8 (fun v_17 e_18 => ?_)
      replace HE : FT = g3b_X0_freeBits R7 (xso SC ad ws_9) x3_7.toInt i0 a1.toInt x2_8.toInt := HE.trans rfl
      refine y_icmp_ge (tgt := 38) C0 dX0_freeBits_10 (by decide) (fun c_19 => ?_) (fun c_19 => ?_)
      · -- 10
        replace HE : FT = g4_X0_freeBits (xso SC ad ws_9) x2_8.toInt := HE.trans (if_neg (o14_66 b_15 b_16 hn_14 e_18 c_19))
        refine lv_iload_n C0.1 C0.2.1 dX0_freeBits_38 rfl (lv_at hl 1 rfl) ?_
        replace HE : FT = ((xso SC ad ws_9), x2_8.toInt) := HE.trans rfl
        rw [hQ]
        exact y_iret C0 h hF_10 ⟨(congrArg Prod.fst (HE.symm.trans hFT)), (congrArg Prod.snd (HE.symm.trans hFT))⟩ dX0_freeBits_39
      · -- 10
        replace HE : FT = g5_X0_freeBits R7 (xso SC ad ws_9) i0 a1.toInt x2_8.toInt x3_7.toInt := HE.trans (if_pos (o14_67 b_15 b_16 hn_14 e_18 c_19))
        refine lv_aload_n C0.1 C0.2.1 dX0_freeBits_13 rfl (lv_at hl 2 rfl) ?_
        refine tg_X0_folk C0 h hi0 q_247 dX0_freeBits_14 ?_
        refine tg_X1_fogEnds C0 h (rSC_1_9 hi0) q_212 dX0_freeBits_17 ?_
        refine lv_iload_n C0.1 C0.2.1 dX0_freeBits_20 rfl (lv_at hl 0 rfl) ?_
        refine y_iald C0 h (rSC_6_7 (rSC_1_9 hi0)) rfl (by decide) (o14_68 b_15 b_16 hn_14 e_18 c_19) (o14_69 b_15 b_16 hn_14 e_18 c_19) dX0_freeBits_21 (fun v_20 e_21 e_22 e_23 => ?_)
        refine lv_iload_n C0.1 C0.2.1 dX0_freeBits_22 rfl (lv_at hl 3 rfl) ?_
        replace HE : FT = g6b_X0_freeBits R7 (xso SC ad ws_9) a1.toInt v_20.toInt i0 x2_8.toInt x3_7.toInt := HE.trans (by rw [(xg1 e_21 : v_20.toInt = (xso SC ad ws_9) 1 (i0 + 9 + 7) x3_7.toInt.toNat)]; rfl)
        refine y_icmp_le (tgt := 32) C0 dX0_freeBits_23 (by decide) (fun c_24 => ?_) (fun c_24 => ?_)
        · -- 23
          replace HE : FT = g7_X0_freeBits R7 (xso SC ad ws_9) i0 a1.toInt x2_8.toInt x3_7.toInt := HE.trans (if_neg (Int.not_lt.mpr c_24))
          refine y_inc (kp := 0) (n := 1) (fun v_25 => [(3, .int v_25), (2, .int x2_8), (0, .ref (ad i0)), (1, .int a1)]) C0 hl rfl (by decide) (by decide) (fun _ => rfl) (o14_70 b_15 b_16 hn_14 e_18 c_19 (le_min x3_7) (le_max x3_7) (le_min v_17) (le_max v_17)) (o14_71 b_15 b_16 hn_14 e_18 c_19 (le_min x3_7) (le_max x3_7) (le_min v_17) (le_max v_17)) dX0_freeBits_32 (fun v_25 ls e_26 hl => ?_)
          refine lv_goto (tgt := 7) C0.1 C0.2.1 dX0_freeBits_35 (by decide) ?_
          exact ih_12 v_25 x2_8 _ _ _ _ (o14_72 b_15 b_16 hn_14 e_18 c_19 e_26) (o14_73 b_15 b_16 hn_14 e_18 c_19 e_26) (o14_74 b_15 b_16 hn_14 e_18 c_19 e_26) (((show FT = R7 (xso SC ad ws_9) i0 a1.toInt x2_8.toInt v_25.toInt from HE.trans (by rw [e_26]; rfl)).trans (by rw [hR7]))) h hF_10 (lv_sub hl [0, 1, 2, 3] rfl)
        · -- 23
          replace HE : FT = g8_X0_freeBits R7 (xso SC ad ws_9) i0 a1.toInt x2_8.toInt x3_7.toInt := HE.trans (if_pos c_24)
          refine lv_iload_n C0.1 C0.2.1 dX0_freeBits_26 rfl (lv_at hl 1 rfl) ?_
          refine y_c1 (n := 1) C0 (by decide) dX0_freeBits_27 (fun v_27 e_28 => ?_)
          refine lv_iload_n C0.1 C0.2.1 dX0_freeBits_28 rfl (lv_at hl 0 rfl) ?_
          refine xr_ishl C0 dX0_freeBits_29 (fun v_29 e_30 => ?_)
          refine xr_ior C0 dX0_freeBits_30 (fun v_31 e_32 => ?_)
          refine lv_istore_n (lv' := [(2, .int v_31), (3, .int x3_7), (0, .ref (ad i0)), (1, .int a1)]) C0.1 C0.2.1 dX0_freeBits_31 rfl hl (by decide) rfl (fun ls hl => ?_)
          refine y_inc (kp := 1) (n := 1) (fun v_33 => [(3, .int v_33), (2, .int v_31), (0, .ref (ad i0)), (1, .int a1)]) C0 hl rfl (by decide) (by decide) (fun _ => rfl) (o14_70 b_15 b_16 hn_14 e_18 c_19 (le_min x3_7) (le_max x3_7) (le_min v_17) (le_max v_17)) (o14_71 b_15 b_16 hn_14 e_18 c_19 (le_min x3_7) (le_max x3_7) (le_min v_17) (le_max v_17)) dX0_freeBits_32 (fun v_33 ls e_34 hl => ?_)
          refine lv_goto (tgt := 7) C0.1 C0.2.1 dX0_freeBits_35 (by decide) ?_
          exact ih_12 v_33 v_31 _ _ _ _ (o14_72 b_15 b_16 hn_14 e_18 c_19 e_34) (o14_73 b_15 b_16 hn_14 e_18 c_19 e_34) (o14_74 b_15 b_16 hn_14 e_18 c_19 e_34) (((show FT = R7 (xso SC ad ws_9) i0 a1.toInt v_31.toInt v_33.toInt from HE.trans (by rw [e_34, e_32, e_30, e_28]; rfl)).trans (by rw [hR7]))) h hF_10 (lv_sub hl [0, 1, 2, 3] rfl)
  exact lp_11 ((25 - v_5.toInt + 1).toNat) v_5 v_1 _ _ _ _ (o14_75 e_6) (o14_45 e_6) (o14_76 e_6) ((show FT = L1_X0_freeBits (Int.toNat (25 - v_5.toInt + 1)) (xso SC ad ws0) i0 a1.toInt v_1.toInt v_5.toInt from HE.trans (by rw [e_6, (xg0 e_2 : v_1.toInt = (xso SC ad ws0) 0 i0 8)]; rfl))) h Fr.rf (lv_sub hl [0, 1, 2, 3] rfl)
noncomputable def g2_X0_leftsTaken (s : XS) : XR := (s, 0)
noncomputable def g6_X0_leftsTaken (s : XS) (a2 : Int) : XR := (s, (a2 - 1))
noncomputable def g7_X0_leftsTaken (s : XS) : XR := (s, 0)
noncomputable def g5b_X0_leftsTaken (s : XS) (v_20 : Int) (a2 : Int) : XR := if v_20 = 0 then g6_X0_leftsTaken s a2 else g7_X0_leftsTaken s
noncomputable def g4c_X0_leftsTaken (s : XS) (r_13 : Int) (a1 : Int) (a2 : Int) : XR := g5b_X0_leftsTaken s ((Xiand (Xishr r_13 a1) 1)) a2
noncomputable def g3_X0_leftsTaken (s : XS) (i0 : Nat) (a1 : Int) (a2 : Int) : XR := g4c_X0_leftsTaken ((f_X0_freeBits s i0 (s 0 (i0 + 9) 8)).1) (((f_X0_freeBits s i0 (s 0 (i0 + 9) 8)).2)) a1 a2
noncomputable def g1b_X0_leftsTaken (s : XS) (a2 : Int) (i0 : Nat) (a1 : Int) : XR := if a2 < 2 then g2_X0_leftsTaken s else g3_X0_leftsTaken s i0 a1 a2
noncomputable def f_X0_leftsTaken (s : XS) (i0 : Nat) (a1 : Int) (a2 : Int) : XR := g1b_X0_leftsTaken s a2 i0 a1
set_option maxHeartbeats 4000000 in
set_option maxRecDepth 100000 in
theorem c_X0_leftsTaken (l : Launch) (G : GG) (Z : RZ) (ad : Nat → Nat) (ws0 : va_W) (hT : Ty G SC ad ws0) (i0 : Nat) (hi0 : Kd SC i0 1) (a1 : Int32) (a2 : Int32) (l1 : 0 ≤ a1.toInt) (u1 : a1.toInt ≤ 24) (l2 : 0 ≤ a2.toInt) (u2 : a2.toInt ≤ 3) : Mq l yX0_leftsTaken cX0_leftsTaken 3 (some .int) 2 G Z [.ref (ad i0), .int a1, .int a2] ws0 (PI G SC ad [] ws0 (fun r u => (xso SC ad u = (f_X0_leftsTaken (xso SC ad ws0) i0 a1.toInt a2.toInt).1) ∧ (r.toInt = (f_X0_leftsTaken (xso SC ad ws0) i0 a1.toInt a2.toInt).2) ∧ (0 ≤ r.toInt) ∧ (r.toInt ≤ 2))) := by
  refine Mq.start (by decide) (Nat.le_of_ble_eq_true rfl) ?_
  intro p e s m below meth c A ls C0 hZ h hl
  have hl : lv_has ls 3 [(0, .ref (ad i0)), (1, .int a1), (2, .int a2)] := hl
  have h : Wt G SC ad A s s.heap [] ws0 := ⟨h, hT⟩
  obtain ⟨args, hargs⟩ : ∃ z, z = ([.ref (ad i0), .int a1, .int a2] : List Value).toArray := ⟨_, rfl⟩
  rw [← hargs] at C0 ⊢
  have C0 : Cx p s m args meth c RX0 cX0_leftsTaken 3 (some .int) := C0
  obtain ⟨Q, hQ⟩ : ∃ z, z = MQ below ((PI G SC ad [] ws0 (fun r u => (xso SC ad u = (f_X0_leftsTaken (xso SC ad ws0) i0 a1.toInt a2.toInt).1) ∧ (r.toInt = (f_X0_leftsTaken (xso SC ad ws0) i0 a1.toInt a2.toInt).2) ∧ (0 ≤ r.toInt) ∧ (r.toInt ≤ 2))) A) args s 0 0 A := ⟨_, rfl⟩
  rw [← hQ]
  obtain ⟨FT, hFT⟩ : ∃ z, z = f_X0_leftsTaken (xso SC ad ws0) i0 a1.toInt a2.toInt := ⟨_, rfl⟩
  have HE : FT = f_X0_leftsTaken (xso SC ad ws0) i0 a1.toInt a2.toInt := hFT
  refine lv_iload_n C0.1 C0.2.1 dX0_leftsTaken_0 rfl (lv_at hl 2 rfl) ?_
  refine y_c1 (n := 2) C0 (by decide) dX0_leftsTaken_1 (fun v_1 e_2 => ?_)
  replace HE : FT = g1b_X0_leftsTaken (xso SC ad ws0) a2.toInt i0 a1.toInt := HE.trans rfl
  refine y_icmp_lt (tgt := 23) C0 dX0_leftsTaken_2 (by decide) (fun c_3 => ?_) (fun c_3 => ?_)
  · -- 2
    replace HE : FT = g2_X0_leftsTaken (xso SC ad ws0) := HE.trans (if_pos (o14_77 l2 u2 e_2 c_3))
    refine y_c1 (n := 0) C0 (by decide) dX0_leftsTaken_23 (fun v_4 e_5 => ?_)
    replace HE : FT = ((xso SC ad ws0), v_4.toInt) := HE.trans (by rw [e_5]; rfl)
    rw [hQ]
    exact y_iret C0 h Fr.rf ⟨(congrArg Prod.fst (HE.symm.trans hFT)), (congrArg Prod.snd (HE.symm.trans hFT)), (o14_45 e_5), (o14_79 e_5)⟩ dX0_leftsTaken_24
  · -- 2
    replace HE : FT = g3_X0_leftsTaken (xso SC ad ws0) i0 a1.toInt a2.toInt := HE.trans (if_neg (o14_78 l2 u2 e_2 c_3))
    refine lv_aload_n C0.1 C0.2.1 dX0_leftsTaken_5 rfl (lv_at hl 0 rfl) ?_
    refine lv_aload_n C0.1 C0.2.1 dX0_leftsTaken_6 rfl (lv_at hl 0 rfl) ?_
    refine tg_X0_folk C0 h hi0 q_247 dX0_leftsTaken_7 ?_
    refine tg_X1_hours C0 h (rSC_1_9 hi0) q_221 dX0_leftsTaken_10 (fun v_6 e_7 e_8 e_9 => ?_)
    refine y_ci h (y_rV (As := [.int v_6]) (rest := []) C0 hZ h (c_X0_freeBits l G Z ad _ h.2 i0 hi0 v_6) k_X0_freeBits q_948 q_949 q_978 hi0 rfl rfl rfl hl.1 rfl rfl (Nat.le_of_ble_eq_true rfl) dX0_leftsTaken_13 ⟨Nat.le_of_ble_eq_true rfl, Nat.le_of_ble_eq_true rfl⟩ ⟨Nat.le_of_ble_eq_true rfl, Nat.le_of_ble_eq_true rfl⟩) (fun r_13 H locs ws_10 h u_11 p_12 => ?_)
    obtain ⟨e_14, e_15⟩ := p_12
    replace HE : FT = g4c_X0_leftsTaken (xso SC ad ws_10) r_13.toInt a1.toInt a2.toInt := HE.trans (by rw [e_14, e_15, (xg0 e_7 : v_6.toInt = (xso SC ad ws0) 0 (i0 + 9) 8)]; rfl)
    refine lv_iload_n C0.1 C0.2.1 dX0_leftsTaken_16 rfl (lv_at hl 1 rfl) ?_
    refine xr_ishr C0 dX0_leftsTaken_17 (fun v_16 e_17 => ?_)
    refine y_c1 (n := 1) C0 (by decide) dX0_leftsTaken_18 (fun v_18 e_19 => ?_)
    refine xr_iand C0 dX0_leftsTaken_19 (fun v_20 e_21 => ?_)
    replace HE : FT = g5b_X0_leftsTaken (xso SC ad ws_10) v_20.toInt a2.toInt := HE.trans (by rw [e_21, e_19, e_17]; rfl)
    refine y_if_eq (tgt := 25) C0 dX0_leftsTaken_20 (by decide) (fun c_22 => ?_) (fun c_22 => ?_)
    · -- 20
      replace HE : FT = g6_X0_leftsTaken (xso SC ad ws_10) a2.toInt := HE.trans (if_pos c_22)
      refine lv_iload_n C0.1 C0.2.1 dX0_leftsTaken_25 rfl (lv_at hl 2 rfl) ?_
      refine y_c1 (n := 1) C0 (by decide) dX0_leftsTaken_26 (fun v_23 e_24 => ?_)
      refine y_sub C0 (o14_80 l2 u2 e_2 c_3 e_24 (le_min a2) (le_max a2) (le_min v_23) (le_max v_23) (le_min v_1) (le_max v_1)) (o14_81 l2 u2 e_2 c_3 e_24 (le_min a2) (le_max a2) (le_min v_23) (le_max v_23) (le_min v_1) (le_max v_1)) dX0_leftsTaken_27 (fun v_25 e_26 => ?_)
      replace HE : FT = ((xso SC ad ws_10), v_25.toInt) := HE.trans (by rw [e_26, e_24]; rfl)
      rw [hQ]
      exact y_iret C0 h u_11 ⟨(congrArg Prod.fst (HE.symm.trans hFT)), (congrArg Prod.snd (HE.symm.trans hFT)), (o14_82 l2 u2 e_2 c_3 e_24 e_26), (o14_83 l2 u2 e_2 c_3 e_24 e_26)⟩ dX0_leftsTaken_28
    · -- 20
      replace HE : FT = g7_X0_leftsTaken (xso SC ad ws_10) := HE.trans (if_neg c_22)
      refine y_c1 (n := 0) C0 (by decide) dX0_leftsTaken_23 (fun v_27 e_28 => ?_)
      replace HE : FT = ((xso SC ad ws_10), v_27.toInt) := HE.trans (by rw [e_28]; rfl)
      rw [hQ]
      exact y_iret C0 h u_11 ⟨(congrArg Prod.fst (HE.symm.trans hFT)), (congrArg Prod.snd (HE.symm.trans hFT)), (o14_45 e_28), (o14_79 e_28)⟩ dX0_leftsTaken_24
noncomputable def g2_X0_hindrance (s : XS) : XR := (s, 1)
noncomputable def g5_X0_hindrance (s : XS) : XR := (s, 1)
noncomputable def g8_X0_hindrance (s : XS) : XR := (s, 1)
noncomputable def g22_X0_hindrance (s : XS) : XR := (s, 0)
noncomputable def g23_X0_hindrance (s : XS) : XR := (s, 4)
noncomputable def g21b_X0_hindrance (s : XS) (r_57 : Int) (v_50 : Int) : XR := if v_50 < r_57 then g23_X0_hindrance s else g22_X0_hindrance s
noncomputable def g20c_X0_hindrance (s : XS) (r_57 : Int) (v_50 : Int) : XR := g21b_X0_hindrance s r_57 v_50
noncomputable def g18_X0_hindrance (s : XS) (i0 : Nat) (a1 : Int) (a2 : Int) (v_17 : Int) : XR := g20c_X0_hindrance ((f_X0_leftsTaken s i0 v_17 a2).1) (((f_X0_leftsTaken s i0 v_17 a2).2)) ((s 1 (i0 + 9 + 3) (Int.toNat a1)))
noncomputable def g30_X0_hindrance (s : XS) : XR := (s, 0)
noncomputable def g31_X0_hindrance (s : XS) : XR := (s, 4)
noncomputable def g29b_X0_hindrance (s : XS) (r_87 : Int) (v_80 : Int) : XR := if v_80 < r_87 then g31_X0_hindrance s else g30_X0_hindrance s
noncomputable def g28c_X0_hindrance (s : XS) (r_87 : Int) (v_80 : Int) : XR := g29b_X0_hindrance s r_87 v_80
noncomputable def g26_X0_hindrance (s : XS) (i0 : Nat) (a1 : Int) (a2 : Int) (v_17 : Int) : XR := g28c_X0_hindrance ((f_X0_leftsTaken s i0 v_17 a2).1) (((f_X0_leftsTaken s i0 v_17 a2).2)) ((s 1 (i0 + 9 + 3) (Int.toNat a1)))
noncomputable def g27_X0_hindrance (s : XS) : XR := (s, 3)
noncomputable def g25b_X0_hindrance (s : XS) (r_74 : Int) (i0 : Nat) (a1 : Int) (a2 : Int) (v_17 : Int) : XR := if r_74 = 0 then g27_X0_hindrance s else g26_X0_hindrance s i0 a1 a2 v_17
noncomputable def g24c_X0_hindrance (s : XS) (r_74 : Int) (i0 : Nat) (a1 : Int) (a2 : Int) (v_17 : Int) : XR := g25b_X0_hindrance s r_74 i0 a1 a2 v_17
noncomputable def g19_X0_hindrance (s : XS) (i0 : Nat) (a1 : Int) (a2 : Int) (v_17 : Int) (v_34 : Int) : XR := g24c_X0_hindrance ((f_X0_allows s i0 v_17 (s 0 (i0 + 9) 8) v_34).1) (((f_X0_allows s i0 v_17 (s 0 (i0 + 9) 8) v_34).2)) i0 a1 a2 v_17
noncomputable def g17b_X0_hindrance (s : XS) (a2 : Int) (i0 : Nat) (a1 : Int) (v_17 : Int) (v_34 : Int) : XR := if a2 < 2 then g18_X0_hindrance s i0 a1 a2 v_17 else g19_X0_hindrance s i0 a1 a2 v_17 v_34
noncomputable def g15_X0_hindrance (s : XS) (i0 : Nat) (a1 : Int) (a2 : Int) (v_17 : Int) (v_34 : Int) : XR := g17b_X0_hindrance s a2 i0 a1 v_17 v_34
noncomputable def g16_X0_hindrance (s : XS) : XR := (s, 2)
noncomputable def g14b_X0_hindrance (s : XS) (r_40 : Int) (i0 : Nat) (a1 : Int) (a2 : Int) (v_17 : Int) (v_34 : Int) : XR := if r_40 < 0 then g16_X0_hindrance s else g15_X0_hindrance s i0 a1 a2 v_17 v_34
noncomputable def g13c_X0_hindrance (s : XS) (r_40 : Int) (i0 : Nat) (a1 : Int) (a2 : Int) (v_17 : Int) (v_34 : Int) : XR := g14b_X0_hindrance s r_40 i0 a1 a2 v_17 v_34
noncomputable def g11_X0_hindrance (s : XS) (i0 : Nat) (a1 : Int) (a2 : Int) : XR := g13c_X0_hindrance ((f_X0_to s i0 (s 1 (i0 + 9 + 1) (Int.toNat a1)) (Xiand (Xiadd (s 1 (i0 + 9 + 2) (Int.toNat a1)) ((tTurn (Int.toNat a2)).toInt)) 3)).1) (((f_X0_to s i0 (s 1 (i0 + 9 + 1) (Int.toNat a1)) (Xiand (Xiadd (s 1 (i0 + 9 + 2) (Int.toNat a1)) ((tTurn (Int.toNat a2)).toInt)) 3)).2)) i0 a1 a2 ((s 1 (i0 + 9 + 1) (Int.toNat a1))) ((Xiand (Xiadd (s 1 (i0 + 9 + 2) (Int.toNat a1)) ((tTurn (Int.toNat a2)).toInt)) 3))
noncomputable def g12_X0_hindrance (s : XS) : XR := (s, 1)
noncomputable def g10b_X0_hindrance (s : XS) (a2 : Int) (i0 : Nat) (a1 : Int) : XR := if 3 < a2 then g12_X0_hindrance s else g11_X0_hindrance s i0 a1 a2
noncomputable def g9_X0_hindrance (s : XS) (i0 : Nat) (a1 : Int) (a2 : Int) : XR := g10b_X0_hindrance s a2 i0 a1
noncomputable def g7b_X0_hindrance (s : XS) (a2 : Int) (i0 : Nat) (a1 : Int) : XR := if a2 < 0 then g8_X0_hindrance s else g9_X0_hindrance s i0 a1 a2
noncomputable def g6_X0_hindrance (s : XS) (i0 : Nat) (a1 : Int) (a2 : Int) : XR := g7b_X0_hindrance s a2 i0 a1
noncomputable def g4b_X0_hindrance (s : XS) (v_4 : Int) (a1 : Int) (i0 : Nat) (a2 : Int) : XR := if a1 < v_4 then g6_X0_hindrance s i0 a1 a2 else g5_X0_hindrance s
noncomputable def g3_X0_hindrance (s : XS) (i0 : Nat) (a1 : Int) (a2 : Int) : XR := g4b_X0_hindrance s ((s 0 (i0 + 9) 7)) a1 i0 a2
noncomputable def g1b_X0_hindrance (s : XS) (a1 : Int) (i0 : Nat) (a2 : Int) : XR := if a1 < 0 then g2_X0_hindrance s else g3_X0_hindrance s i0 a1 a2
noncomputable def f_X0_hindrance (s : XS) (i0 : Nat) (a1 : Int) (a2 : Int) : XR := g1b_X0_hindrance s a1 i0 a2
set_option maxHeartbeats 4000000 in
set_option maxRecDepth 100000 in
theorem c_X0_hindrance (l : Launch) (G : GG) (Z : RZ) (ad : Nat → Nat) (ws0 : va_W) (hT : Ty G SC ad ws0) (i0 : Nat) (hi0 : Kd SC i0 1) (a1 : Int32) (a2 : Int32) (hR : Rel ws0) : Mq l yX0_hindrance cX0_hindrance 5 (some .int) 3 G Z [.ref (ad i0), .int a1, .int a2] ws0 (PI G SC ad [4, 5] ws0 (fun r u => (xso SC ad u = (f_X0_hindrance (xso SC ad ws0) i0 a1.toInt a2.toInt).1) ∧ (r.toInt = (f_X0_hindrance (xso SC ad ws0) i0 a1.toInt a2.toInt).2) ∧ (0 ≤ r.toInt) ∧ (r.toInt ≤ 4) ∧ ((r.toInt = 0 → 0 ≤ a1.toInt) ∧ (r.toInt = 0 → a1.toInt ≤ 4) ∧ (r.toInt = 0 → 0 ≤ a2.toInt) ∧ (r.toInt = 0 → a2.toInt ≤ 3)) ∧ (r.toInt = 0 → CanGo ws0 i0 a1.toInt.toNat a2.toInt.toNat))) := by
  refine Mq.start (by decide) (Nat.le_of_ble_eq_true rfl) ?_
  intro p e s m below meth c A ls C0 hZ h hl
  have hl : lv_has ls 5 [(0, .ref (ad i0)), (1, .int a1), (2, .int a2)] := hl
  have h : Wt G SC ad A s s.heap [] ws0 := ⟨h, hT⟩
  obtain ⟨args, hargs⟩ : ∃ z, z = ([.ref (ad i0), .int a1, .int a2] : List Value).toArray := ⟨_, rfl⟩
  rw [← hargs] at C0 ⊢
  have C0 : Cx p s m args meth c RX0 cX0_hindrance 5 (some .int) := C0
  obtain ⟨Q, hQ⟩ : ∃ z, z = MQ below ((PI G SC ad [4, 5] ws0 (fun r u => (xso SC ad u = (f_X0_hindrance (xso SC ad ws0) i0 a1.toInt a2.toInt).1) ∧ (r.toInt = (f_X0_hindrance (xso SC ad ws0) i0 a1.toInt a2.toInt).2) ∧ (0 ≤ r.toInt) ∧ (r.toInt ≤ 4) ∧ ((r.toInt = 0 → 0 ≤ a1.toInt) ∧ (r.toInt = 0 → a1.toInt ≤ 4) ∧ (r.toInt = 0 → 0 ≤ a2.toInt) ∧ (r.toInt = 0 → a2.toInt ≤ 3)) ∧ (r.toInt = 0 → CanGo ws0 i0 a1.toInt.toNat a2.toInt.toNat))) A) args s 0 0 A := ⟨_, rfl⟩
  rw [← hQ]
  obtain ⟨FT, hFT⟩ : ∃ z, z = f_X0_hindrance (xso SC ad ws0) i0 a1.toInt a2.toInt := ⟨_, rfl⟩
  have HE : FT = f_X0_hindrance (xso SC ad ws0) i0 a1.toInt a2.toInt := hFT
  refine lv_iload_n C0.1 C0.2.1 dX0_hindrance_0 rfl (lv_at hl 1 rfl) ?_
  replace HE : FT = g1b_X0_hindrance (xso SC ad ws0) a1.toInt i0 a2.toInt := HE.trans rfl
  refine y_if_lt (tgt := 24) C0 dX0_hindrance_1 (by decide) (fun c_1 => ?_) (fun c_1 => ?_)
  · -- 1
    replace HE : FT = g2_X0_hindrance (xso SC ad ws0) := HE.trans (if_pos c_1)
    refine y_c1 (n := 1) C0 (by decide) dX0_hindrance_24 (fun v_2 e_3 => ?_)
    replace HE : FT = ((xso SC ad ws0), v_2.toInt) := HE.trans (by rw [e_3]; rfl)
    rw [hQ]
    exact y_iret C0 h Fr.rf ⟨(congrArg Prod.fst (HE.symm.trans hFT)), (congrArg Prod.snd (HE.symm.trans hFT)), (o14_48 e_3), (o14_84 e_3), (o14_85 c_1 e_3), (fun q => ((o14_86 e_3) q).elim)⟩ dX0_hindrance_25
  · -- 1
    replace HE : FT = g3_X0_hindrance (xso SC ad ws0) i0 a1.toInt a2.toInt := HE.trans (if_neg (Int.not_lt.mpr c_1))
    refine lv_iload_n C0.1 C0.2.1 dX0_hindrance_4 rfl (lv_at hl 1 rfl) ?_
    refine lv_aload_n C0.1 C0.2.1 dX0_hindrance_5 rfl (lv_at hl 0 rfl) ?_
    refine tg_X0_folk C0 h hi0 q_247 dX0_hindrance_6 ?_
    refine tg_X1_people C0 h (rSC_1_9 hi0) q_214 dX0_hindrance_9 (fun v_4 e_5 e_6 e_7 => ?_)
    replace HE : FT = g4b_X0_hindrance (xso SC ad ws0) v_4.toInt a1.toInt i0 a2.toInt := HE.trans (by rw [(xg0 e_5 : v_4.toInt = (xso SC ad ws0) 0 (i0 + 9) 7)]; rfl)
    refine y_icmp_ge (tgt := 24) C0 dX0_hindrance_12 (by decide) (fun c_8 => ?_) (fun c_8 => ?_)
    · -- 12
      replace HE : FT = g5_X0_hindrance (xso SC ad ws0) := HE.trans (if_neg (Int.not_lt.mpr c_8))
      refine y_c1 (n := 1) C0 (by decide) dX0_hindrance_24 (fun v_9 e_10 => ?_)
      replace HE : FT = ((xso SC ad ws0), v_9.toInt) := HE.trans (by rw [e_10]; rfl)
      rw [hQ]
      exact y_iret C0 h Fr.rf ⟨(congrArg Prod.fst (HE.symm.trans hFT)), (congrArg Prod.snd (HE.symm.trans hFT)), (o14_48 e_10), (o14_84 e_10), (o14_87 c_1 e_6 e_7 c_8 e_10), (fun q => ((o14_86 e_10) q).elim)⟩ dX0_hindrance_25
    · -- 12
      replace HE : FT = g6_X0_hindrance (xso SC ad ws0) i0 a1.toInt a2.toInt := HE.trans (if_pos c_8)
      refine lv_iload_n C0.1 C0.2.1 dX0_hindrance_15 rfl (lv_at hl 2 rfl) ?_
      replace HE : FT = g7b_X0_hindrance (xso SC ad ws0) a2.toInt i0 a1.toInt := HE.trans rfl
      refine y_if_lt (tgt := 24) C0 dX0_hindrance_16 (by decide) (fun c_11 => ?_) (fun c_11 => ?_)
      · -- 16
        replace HE : FT = g8_X0_hindrance (xso SC ad ws0) := HE.trans (if_pos c_11)
        refine y_c1 (n := 1) C0 (by decide) dX0_hindrance_24 (fun v_12 e_13 => ?_)
        replace HE : FT = ((xso SC ad ws0), v_12.toInt) := HE.trans (by rw [e_13]; rfl)
        rw [hQ]
        exact y_iret C0 h Fr.rf ⟨(congrArg Prod.fst (HE.symm.trans hFT)), (congrArg Prod.snd (HE.symm.trans hFT)), (o14_48 e_13), (o14_84 e_13), (o14_88 c_1 e_6 e_7 c_8 c_11 e_13), (fun q => ((o14_86 e_13) q).elim)⟩ dX0_hindrance_25
      · -- 16
        replace HE : FT = g9_X0_hindrance (xso SC ad ws0) i0 a1.toInt a2.toInt := HE.trans (if_neg (Int.not_lt.mpr c_11))
        refine lv_iload_n C0.1 C0.2.1 dX0_hindrance_19 rfl (lv_at hl 2 rfl) ?_
        refine y_c1 (n := 3) C0 (by decide) dX0_hindrance_20 (fun v_14 e_15 => ?_)
        replace HE : FT = g10b_X0_hindrance (xso SC ad ws0) a2.toInt i0 a1.toInt := HE.trans rfl
        refine y_icmp_le (tgt := 26) C0 dX0_hindrance_21 (by decide) (fun c_16 => ?_) (fun c_16 => ?_)
        · -- 21
          replace HE : FT = g11_X0_hindrance (xso SC ad ws0) i0 a1.toInt a2.toInt := HE.trans (if_neg (o14_89 c_11 e_15 c_16))
          refine lv_aload_n C0.1 C0.2.1 dX0_hindrance_26 rfl (lv_at hl 0 rfl) ?_
          refine tg_X0_folk C0 h hi0 q_247 dX0_hindrance_27 ?_
          refine tg_X1_at C0 h (rSC_1_9 hi0) q_192 dX0_hindrance_30 ?_
          refine lv_iload_n C0.1 C0.2.1 dX0_hindrance_33 rfl (lv_at hl 1 rfl) ?_
          refine y_iald C0 h (rSC_6_1 (rSC_1_9 hi0)) rfl (by decide) (o14_91 c_1 e_6 e_7 c_8) (o14_92 c_1 e_6 e_7 c_8) dX0_hindrance_34 (fun v_17 e_18 e_19 e_20 => ?_)
          refine lv_istore_n (lv' := [(3, .int v_17), (0, .ref (ad i0)), (1, .int a1), (2, .int a2)]) C0.1 C0.2.1 dX0_hindrance_35 rfl hl (by decide) rfl (fun ls hl => ?_)
          refine lv_aload_n C0.1 C0.2.1 dX0_hindrance_36 rfl (lv_at hl 1 rfl) ?_
          refine tg_X0_folk C0 h hi0 q_247 dX0_hindrance_37 ?_
          refine tg_X1_heads C0 h (rSC_1_9 hi0) q_195 dX0_hindrance_40 ?_
          refine lv_iload_n C0.1 C0.2.1 dX0_hindrance_43 rfl (lv_at hl 2 rfl) ?_
          refine y_iald C0 h (rSC_6_2 (rSC_1_9 hi0)) rfl (by decide) (o14_91 c_1 e_6 e_7 c_8) (o14_92 c_1 e_6 e_7 c_8) dX0_hindrance_44 (fun v_21 e_22 e_23 e_24 => ?_)
          refine y_turned C0 hZ h hZ.2.2.2.2.2.1 dX0_hindrance_45 ?_
          refine lv_iload_n C0.1 C0.2.1 dX0_hindrance_48 rfl (lv_at hl 3 rfl) ?_
          refine y_tald C0 hZ h (o14_93 c_11 e_15 c_16) (o14_94 c_11 e_15 c_16) dX0_hindrance_49 (fun v_28 e_25 e_26 e_27 => ?_)
          refine y_iaddX C0 dX0_hindrance_50 (fun v_30 e_29 => ?_)
          refine y_c1 (n := 3) C0 (by decide) dX0_hindrance_51 (fun v_31 e_32 => ?_)
          refine y_andX 3 2 (n := 3) C0 (Eq.trans (o14_15 e_32) (by decide)) (by decide) (by decide) (by decide) dX0_hindrance_52 (fun v_34 e_33 e_35 e_36 => ?_)
          refine lv_istore (lv' := [(4, .int v_34), (3, .int v_17), (0, .ref (ad i0)), (1, .int a1), (2, .int a2)]) C0.1 C0.2.1 dX0_hindrance_53 hl (by decide) rfl (fun ls hl => ?_)
          refine lv_aload_n C0.1 C0.2.1 dX0_hindrance_55 rfl (lv_at hl 2 rfl) ?_
          refine lv_iload_n C0.1 C0.2.1 dX0_hindrance_56 rfl (lv_at hl 1 rfl) ?_
          refine lv_iload C0.1 C0.2.1 dX0_hindrance_57 (lv_at hl 0 rfl) ?_
          refine y_ci h (y_rV (As := [.int v_17, .int v_34]) (rest := []) C0 hZ h (c_X0_to l G Z ad _ h.2 i0 hi0 v_17 v_34 (o14_50 e_19 e_20) (o14_58 e_19 e_20) (o14_1 e_35 e_36) (o14_20 e_35 e_36) hR) k_X0_to q_773 q_774 q_772 hi0 rfl rfl rfl hl.1 rfl rfl (Nat.le_of_ble_eq_true rfl) dX0_hindrance_59 ⟨Nat.le_of_ble_eq_true rfl, Nat.le_of_ble_eq_true rfl⟩ ⟨Nat.le_of_ble_eq_true rfl, Nat.le_of_ble_eq_true rfl⟩) (fun r_40 H locs ws_37 h u_38 p_39 => ?_)
          obtain ⟨e_41, e_42, e_43, e_44, e_45⟩ := p_39
          replace HE : FT = g13c_X0_hindrance (xso SC ad ws_37) r_40.toInt i0 a1.toInt a2.toInt v_17.toInt v_34.toInt := HE.trans (by rw [e_41, e_42, (ix_iand e_33), e_32, (ix_iadd e_29), (congrArg Int32.toInt e_25), (xg1 e_22 : v_21.toInt = (xso SC ad ws0) 1 (i0 + 9 + 2) a1.toInt.toNat), (xg1 e_18 : v_17.toInt = (xso SC ad ws0) 1 (i0 + 9 + 1) a1.toInt.toNat)]; rfl)
          replace HE : FT = g14b_X0_hindrance (xso SC ad ws_37) r_40.toInt i0 a1.toInt a2.toInt v_17.toInt v_34.toInt := HE.trans rfl
          refine y_if_ge (tgt := 67) C0 dX0_hindrance_62 (by decide) (fun c_46 => ?_) (fun c_46 => ?_)
          · -- 62
            replace HE : FT = g15_X0_hindrance (xso SC ad ws_37) i0 a1.toInt a2.toInt v_17.toInt v_34.toInt := HE.trans (if_neg (Int.not_lt.mpr c_46))
            refine lv_iload_n C0.1 C0.2.1 dX0_hindrance_67 rfl (lv_at hl 4 rfl) ?_
            refine y_c1 (n := 2) C0 (by decide) dX0_hindrance_68 (fun v_47 e_48 => ?_)
            replace HE : FT = g17b_X0_hindrance (xso SC ad ws_37) a2.toInt i0 a1.toInt v_17.toInt v_34.toInt := HE.trans rfl
            refine y_icmp_lt (tgt := 91) C0 dX0_hindrance_69 (by decide) (fun c_49 => ?_) (fun c_49 => ?_)
            · -- 69
              replace HE : FT = g18_X0_hindrance (xso SC ad ws_37) i0 a1.toInt a2.toInt v_17.toInt := HE.trans (if_pos (o14_95 c_11 e_15 c_16 e_48 c_49))
              refine lv_aload_n C0.1 C0.2.1 dX0_hindrance_91 rfl (lv_at hl 2 rfl) ?_
              refine tg_X0_folk C0 h hi0 q_247 dX0_hindrance_92 ?_
              refine tg_X1_lefts C0 h (rSC_1_9 hi0) q_198 dX0_hindrance_95 ?_
              refine lv_iload_n C0.1 C0.2.1 dX0_hindrance_98 rfl (lv_at hl 3 rfl) ?_
              refine y_iald C0 h (rSC_6_3 (rSC_1_9 hi0)) rfl (by decide) (o14_91 c_1 e_6 e_7 c_8) (o14_92 c_1 e_6 e_7 c_8) dX0_hindrance_99 (fun v_50 e_51 e_52 e_53 => ?_)
              refine lv_aload_n C0.1 C0.2.1 dX0_hindrance_100 rfl (lv_at hl 2 rfl) ?_
              refine lv_iload_n C0.1 C0.2.1 dX0_hindrance_101 rfl (lv_at hl 1 rfl) ?_
              refine lv_iload_n C0.1 C0.2.1 dX0_hindrance_102 rfl (lv_at hl 4 rfl) ?_
              refine y_ci h (y_rV (As := [.int v_17, .int a2]) (rest := [.int v_50]) C0 hZ h (c_X0_leftsTaken l G Z ad _ h.2 i0 hi0 v_17 a2 (o14_50 e_19 e_20) (o14_58 e_19 e_20) (o14_97 c_11 e_15 c_16 e_48 c_49) (o14_98 c_11 e_15 c_16 e_48 c_49)) k_X0_leftsTaken q_976 q_26 q_974 hi0 rfl rfl rfl hl.1 rfl rfl (Nat.le_of_ble_eq_true rfl) dX0_hindrance_103 ⟨Nat.le_of_ble_eq_true rfl, Nat.le_of_ble_eq_true rfl⟩ ⟨Nat.le_of_ble_eq_true rfl, Nat.le_of_ble_eq_true rfl⟩) (fun r_57 H locs ws_54 h u_55 p_56 => ?_)
              obtain ⟨e_58, e_59, e_60, e_61⟩ := p_56
              replace HE : FT = g20c_X0_hindrance (xso SC ad ws_54) r_57.toInt v_50.toInt := HE.trans (by rw [e_58, (xg1 e_51 : v_50.toInt = (xso SC ad ws_37) 1 (i0 + 9 + 3) a1.toInt.toNat), e_59]; rfl)
              replace HE : FT = g21b_X0_hindrance (xso SC ad ws_54) r_57.toInt v_50.toInt := HE.trans rfl
              refine y_icmp_ge (tgt := 113) C0 dX0_hindrance_106 (by decide) (fun c_62 => ?_) (fun c_62 => ?_)
              · -- 106
                replace HE : FT = g22_X0_hindrance (xso SC ad ws_54) := HE.trans (if_neg (Int.not_lt.mpr c_62))
                refine y_c1 (n := 0) C0 (by decide) dX0_hindrance_113 (fun v_63 e_64 => ?_)
                replace HE : FT = ((xso SC ad ws_54), v_63.toInt) := HE.trans (by rw [e_64]; rfl)
                rw [hQ]
                exact y_iret C0 h (Fr.tr (Fr.mono u_38 (by decide)) (Fr.mono u_55 (by decide))) ⟨(congrArg Prod.fst (HE.symm.trans hFT)), (congrArg Prod.snd (HE.symm.trans hFT)), (o14_45 e_64), (o14_46 e_64), (o14_99 c_1 e_6 e_7 c_8 c_11 e_15 c_16 e_48 c_49 e_64), (fun _ => (canGo_of e_18 e_22 e_25 e_29 e_32 e_33).mpr (e_45.elim (fun q => q.1) (fun q => ((o14_100 e_43 e_44 c_46 q.2)).elim)))⟩ dX0_hindrance_114
              · -- 106
                replace HE : FT = g23_X0_hindrance (xso SC ad ws_54) := HE.trans (if_pos c_62)
                refine y_c1 (n := 4) C0 (by decide) dX0_hindrance_109 (fun v_65 e_66 => ?_)
                refine lv_goto (tgt := 114) C0.1 C0.2.1 dX0_hindrance_110 (by decide) ?_
                replace HE : FT = ((xso SC ad ws_54), v_65.toInt) := HE.trans (by rw [e_66]; rfl)
                rw [hQ]
                exact y_iret C0 h (Fr.tr (Fr.mono u_38 (by decide)) (Fr.mono u_55 (by decide))) ⟨(congrArg Prod.fst (HE.symm.trans hFT)), (congrArg Prod.snd (HE.symm.trans hFT)), (o14_101 e_66), (o14_102 e_66), (o14_103 c_1 e_6 e_7 c_8 c_11 e_15 c_16 e_48 c_49 e_66), (fun q => ((o14_104 e_66) q).elim)⟩ dX0_hindrance_114
            · -- 69
              replace HE : FT = g19_X0_hindrance (xso SC ad ws_37) i0 a1.toInt a2.toInt v_17.toInt v_34.toInt := HE.trans (if_neg (o14_96 c_11 e_15 c_16 e_48 c_49))
              refine lv_aload_n C0.1 C0.2.1 dX0_hindrance_72 rfl (lv_at hl 2 rfl) ?_
              refine lv_iload_n C0.1 C0.2.1 dX0_hindrance_73 rfl (lv_at hl 1 rfl) ?_
              refine lv_aload_n C0.1 C0.2.1 dX0_hindrance_74 rfl (lv_at hl 2 rfl) ?_
              refine tg_X0_folk C0 h hi0 q_247 dX0_hindrance_75 ?_
              refine tg_X1_hours C0 h (rSC_1_9 hi0) q_221 dX0_hindrance_78 (fun v_67 e_68 e_69 e_70 => ?_)
              refine lv_iload C0.1 C0.2.1 dX0_hindrance_81 (lv_at hl 0 rfl) ?_
              refine y_ci h (y_rV (As := [.int v_17, .int v_67, .int v_34]) (rest := []) C0 hZ h (c_X0_allows l G Z ad _ h.2 i0 hi0 v_17 v_67 v_34 (o14_50 e_19 e_20) (o14_58 e_19 e_20)) k_X0_allows q_971 q_972 q_970 hi0 rfl rfl rfl hl.1 rfl rfl (Nat.le_of_ble_eq_true rfl) dX0_hindrance_83 ⟨Nat.le_of_ble_eq_true rfl, Nat.le_of_ble_eq_true rfl⟩ ⟨Nat.le_of_ble_eq_true rfl, Nat.le_of_ble_eq_true rfl⟩) (fun r_74 H locs ws_71 h u_72 p_73 => ?_)
              obtain ⟨e_75, e_76, e_77, e_78⟩ := p_73
              replace HE : FT = g24c_X0_hindrance (xso SC ad ws_71) r_74.toInt i0 a1.toInt a2.toInt v_17.toInt := HE.trans (by rw [e_75, e_76, (xg0 e_68 : v_67.toInt = (xso SC ad ws_37) 0 (i0 + 9) 8)]; rfl)
              replace HE : FT = g25b_X0_hindrance (xso SC ad ws_71) r_74.toInt i0 a1.toInt a2.toInt v_17.toInt := HE.trans rfl
              refine y_if_ne (tgt := 91) C0 dX0_hindrance_86 (by decide) (fun c_79 => ?_) (fun c_79 => ?_)
              · -- 86
                replace HE : FT = g26_X0_hindrance (xso SC ad ws_71) i0 a1.toInt a2.toInt v_17.toInt := HE.trans (if_neg c_79)
                refine lv_aload_n C0.1 C0.2.1 dX0_hindrance_91 rfl (lv_at hl 2 rfl) ?_
                refine tg_X0_folk C0 h hi0 q_247 dX0_hindrance_92 ?_
                refine tg_X1_lefts C0 h (rSC_1_9 hi0) q_198 dX0_hindrance_95 ?_
                refine lv_iload_n C0.1 C0.2.1 dX0_hindrance_98 rfl (lv_at hl 3 rfl) ?_
                refine y_iald C0 h (rSC_6_3 (rSC_1_9 hi0)) rfl (by decide) (o14_91 c_1 e_6 e_7 c_8) (o14_92 c_1 e_6 e_7 c_8) dX0_hindrance_99 (fun v_80 e_81 e_82 e_83 => ?_)
                refine lv_aload_n C0.1 C0.2.1 dX0_hindrance_100 rfl (lv_at hl 2 rfl) ?_
                refine lv_iload_n C0.1 C0.2.1 dX0_hindrance_101 rfl (lv_at hl 1 rfl) ?_
                refine lv_iload_n C0.1 C0.2.1 dX0_hindrance_102 rfl (lv_at hl 4 rfl) ?_
                refine y_ci h (y_rV (As := [.int v_17, .int a2]) (rest := [.int v_80]) C0 hZ h (c_X0_leftsTaken l G Z ad _ h.2 i0 hi0 v_17 a2 (o14_50 e_19 e_20) (o14_58 e_19 e_20) (o14_105 c_11 e_15 c_16 e_48 c_49) (o14_106 c_11 e_15 c_16 e_48 c_49)) k_X0_leftsTaken q_976 q_26 q_974 hi0 rfl rfl rfl hl.1 rfl rfl (Nat.le_of_ble_eq_true rfl) dX0_hindrance_103 ⟨Nat.le_of_ble_eq_true rfl, Nat.le_of_ble_eq_true rfl⟩ ⟨Nat.le_of_ble_eq_true rfl, Nat.le_of_ble_eq_true rfl⟩) (fun r_87 H locs ws_84 h u_85 p_86 => ?_)
                obtain ⟨e_88, e_89, e_90, e_91⟩ := p_86
                replace HE : FT = g28c_X0_hindrance (xso SC ad ws_84) r_87.toInt v_80.toInt := HE.trans (by rw [e_88, (xg1 e_81 : v_80.toInt = (xso SC ad ws_71) 1 (i0 + 9 + 3) a1.toInt.toNat), e_89]; rfl)
                replace HE : FT = g29b_X0_hindrance (xso SC ad ws_84) r_87.toInt v_80.toInt := HE.trans rfl
                refine y_icmp_ge (tgt := 113) C0 dX0_hindrance_106 (by decide) (fun c_92 => ?_) (fun c_92 => ?_)
                · -- 106
                  replace HE : FT = g30_X0_hindrance (xso SC ad ws_84) := HE.trans (if_neg (Int.not_lt.mpr c_92))
                  refine y_c1 (n := 0) C0 (by decide) dX0_hindrance_113 (fun v_93 e_94 => ?_)
                  replace HE : FT = ((xso SC ad ws_84), v_93.toInt) := HE.trans (by rw [e_94]; rfl)
                  rw [hQ]
                  exact y_iret C0 h (Fr.tr (Fr.tr (Fr.mono u_38 (by decide)) u_72) (Fr.mono u_85 (by decide))) ⟨(congrArg Prod.fst (HE.symm.trans hFT)), (congrArg Prod.snd (HE.symm.trans hFT)), (o14_45 e_94), (o14_46 e_94), (o14_107 c_1 e_6 e_7 c_8 c_11 e_15 c_16 e_48 c_49 e_94), (fun _ => (canGo_of e_18 e_22 e_25 e_29 e_32 e_33).mpr (e_45.elim (fun q => q.1) (fun q => ((o14_100 e_43 e_44 c_46 q.2)).elim)))⟩ dX0_hindrance_114
                · -- 106
                  replace HE : FT = g31_X0_hindrance (xso SC ad ws_84) := HE.trans (if_pos c_92)
                  refine y_c1 (n := 4) C0 (by decide) dX0_hindrance_109 (fun v_95 e_96 => ?_)
                  refine lv_goto (tgt := 114) C0.1 C0.2.1 dX0_hindrance_110 (by decide) ?_
                  replace HE : FT = ((xso SC ad ws_84), v_95.toInt) := HE.trans (by rw [e_96]; rfl)
                  rw [hQ]
                  exact y_iret C0 h (Fr.tr (Fr.tr (Fr.mono u_38 (by decide)) u_72) (Fr.mono u_85 (by decide))) ⟨(congrArg Prod.fst (HE.symm.trans hFT)), (congrArg Prod.snd (HE.symm.trans hFT)), (o14_101 e_96), (o14_102 e_96), (o14_108 c_1 e_6 e_7 c_8 c_11 e_15 c_16 e_48 c_49 e_96), (fun q => ((o14_104 e_96) q).elim)⟩ dX0_hindrance_114
              · -- 86
                replace HE : FT = g27_X0_hindrance (xso SC ad ws_71) := HE.trans (if_pos c_79)
                refine y_c1 (n := 3) C0 (by decide) dX0_hindrance_89 (fun v_97 e_98 => ?_)
                replace HE : FT = ((xso SC ad ws_71), v_97.toInt) := HE.trans (by rw [e_98]; rfl)
                rw [hQ]
                exact y_iret C0 h (Fr.tr (Fr.mono u_38 (by decide)) u_72) ⟨(congrArg Prod.fst (HE.symm.trans hFT)), (congrArg Prod.snd (HE.symm.trans hFT)), (o14_109 e_98), (o14_110 e_98), (o14_111 c_1 e_6 e_7 c_8 c_11 e_15 c_16 e_48 c_49 e_98), (fun q => ((o14_112 e_98) q).elim)⟩ dX0_hindrance_90
          · -- 62
            replace HE : FT = g16_X0_hindrance (xso SC ad ws_37) := HE.trans (if_pos c_46)
            refine y_c1 (n := 2) C0 (by decide) dX0_hindrance_65 (fun v_99 e_100 => ?_)
            replace HE : FT = ((xso SC ad ws_37), v_99.toInt) := HE.trans (by rw [e_100]; rfl)
            rw [hQ]
            exact y_iret C0 h (Fr.mono u_38 (by decide)) ⟨(congrArg Prod.fst (HE.symm.trans hFT)), (congrArg Prod.snd (HE.symm.trans hFT)), (o14_113 e_100), (o14_114 e_100), (o14_115 c_1 e_6 e_7 c_8 c_11 e_15 c_16 e_100), (fun q => ((o14_116 e_100) q).elim)⟩ dX0_hindrance_66
        · -- 21
          replace HE : FT = g12_X0_hindrance (xso SC ad ws0) := HE.trans (if_pos (o14_90 c_11 e_15 c_16))
          refine y_c1 (n := 1) C0 (by decide) dX0_hindrance_24 (fun v_101 e_102 => ?_)
          replace HE : FT = ((xso SC ad ws0), v_101.toInt) := HE.trans (by rw [e_102]; rfl)
          rw [hQ]
          exact y_iret C0 h Fr.rf ⟨(congrArg Prod.fst (HE.symm.trans hFT)), (congrArg Prod.snd (HE.symm.trans hFT)), (o14_48 e_102), (o14_84 e_102), (o14_117 c_1 e_6 e_7 c_8 c_11 e_15 c_16 e_102), (fun q => ((o14_86 e_102) q).elim)⟩ dX0_hindrance_25
noncomputable def g7w_X0_step (s : XS) (r_24 : Int) : XR := (s, r_24)
noncomputable def g6w_X0_step (s : XS) (i0 : Nat) (r_24 : Int) : XR := g7w_X0_step (xup s 0 (i0 + 9) 8 (Xiadd (s 0 (i0 + 9) 8) 1)) r_24
noncomputable def g5w_X0_step (s : XS) (i0 : Nat) (a1 : Int) (v_18 : Int) (r_24 : Int) : XR := g6w_X0_step (xup s 1 (i0 + 9 + 2) (Int.toNat a1) (v_18)) i0 r_24
noncomputable def g4c_X0_step (s : XS) (r_54 : Int) (a1 : Int) (i0 : Nat) (v_18 : Int) (r_24 : Int) : XR := g5w_X0_step (xup s 1 (i0 + 9 + 1) (Int.toNat a1) (r_54)) i0 a1 v_18 r_24
noncomputable def g3w_X0_step (s : XS) (i0 : Nat) (a1 : Int) (v_1 : Int) (v_18 : Int) (r_24 : Int) : XR := g4c_X0_step ((f_X0_to s i0 v_1 v_18).1) (((f_X0_to s i0 v_1 v_18).2)) a1 i0 v_18 r_24
noncomputable def g2w_X0_step (s : XS) (i0 : Nat) (a1 : Int) (v_1 : Int) (v_18 : Int) (r_24 : Int) : XR := g3w_X0_step (xup s 1 (i0 + 9 + 5) (Int.toNat a1) ((min 999 (Xiadd (s 1 (i0 + 9 + 5) (Int.toNat a1)) r_24)))) i0 a1 v_1 v_18 r_24
noncomputable def g1c_X0_step (s : XS) (r_24 : Int) (i0 : Nat) (a1 : Int) (v_1 : Int) (v_18 : Int) : XR := g2w_X0_step (xup s 1 (i0 + 9 + 3) (Int.toNat a1) ((Xisub (s 1 (i0 + 9 + 3) (Int.toNat a1)) r_24))) i0 a1 v_1 v_18 r_24
noncomputable def f_X0_step (s : XS) (i0 : Nat) (a1 : Int) (a2 : Int) : XR := g1c_X0_step ((f_X0_leftsTaken s i0 (s 1 (i0 + 9 + 1) (Int.toNat a1)) a2).1) (((f_X0_leftsTaken s i0 (s 1 (i0 + 9 + 1) (Int.toNat a1)) a2).2)) i0 a1 ((s 1 (i0 + 9 + 1) (Int.toNat a1))) ((Xiand (Xiadd (s 1 (i0 + 9 + 2) (Int.toNat a1)) ((tTurn (Int.toNat a2)).toInt)) 3))
set_option maxHeartbeats 4000000 in
set_option maxRecDepth 100000 in
theorem c_X0_step (l : Launch) (G : GG) (Z : RZ) (ad : Nat → Nat) (ws0 : va_W) (hT : Ty G SC ad ws0) (i0 : Nat) (hi0 : Kd SC i0 1) (a1 : Int32) (a2 : Int32) (l1 : 0 ≤ a1.toInt) (u1 : a1.toInt ≤ 4) (l2 : 0 ≤ a2.toInt) (u2 : a2.toInt ≤ 3) (hR : Rel ws0) (hC : CanGo ws0 i0 a1.toInt.toNat a2.toInt.toNat) : Mq l yX0_step cX0_step 6 (some .int) 3 G Z [.ref (ad i0), .int a1, .int a2] ws0 (PI G SC ad [6, 7, 8, 9, 11] ws0 (fun r u => (xso SC ad u = (f_X0_step (xso SC ad ws0) i0 a1.toInt a2.toInt).1) ∧ (r.toInt = (f_X0_step (xso SC ad ws0) i0 a1.toInt a2.toInt).2) ∧ (0 ≤ r.toInt) ∧ (r.toInt ≤ 2))) := by
  refine Mq.start (by decide) (Nat.le_of_ble_eq_true rfl) ?_
  intro p e s m below meth c A ls C0 hZ h hl
  have hl : lv_has ls 6 [(0, .ref (ad i0)), (1, .int a1), (2, .int a2)] := hl
  have h : Wt G SC ad A s s.heap [] ws0 := ⟨h, hT⟩
  obtain ⟨args, hargs⟩ : ∃ z, z = ([.ref (ad i0), .int a1, .int a2] : List Value).toArray := ⟨_, rfl⟩
  rw [← hargs] at C0 ⊢
  have C0 : Cx p s m args meth c RX0 cX0_step 6 (some .int) := C0
  obtain ⟨Q, hQ⟩ : ∃ z, z = MQ below ((PI G SC ad [6, 7, 8, 9, 11] ws0 (fun r u => (xso SC ad u = (f_X0_step (xso SC ad ws0) i0 a1.toInt a2.toInt).1) ∧ (r.toInt = (f_X0_step (xso SC ad ws0) i0 a1.toInt a2.toInt).2) ∧ (0 ≤ r.toInt) ∧ (r.toInt ≤ 2))) A) args s 0 0 A := ⟨_, rfl⟩
  rw [← hQ]
  obtain ⟨FT, hFT⟩ : ∃ z, z = f_X0_step (xso SC ad ws0) i0 a1.toInt a2.toInt := ⟨_, rfl⟩
  have HE : FT = f_X0_step (xso SC ad ws0) i0 a1.toInt a2.toInt := hFT
  refine lv_aload_n C0.1 C0.2.1 dX0_step_0 rfl (lv_at hl 0 rfl) ?_
  refine tg_X0_folk C0 h hi0 q_247 dX0_step_1 ?_
  refine tg_X1_at C0 h (rSC_1_9 hi0) q_192 dX0_step_4 ?_
  refine lv_iload_n C0.1 C0.2.1 dX0_step_7 rfl (lv_at hl 1 rfl) ?_
  refine y_iald C0 h (rSC_6_1 (rSC_1_9 hi0)) rfl (by decide) (o14_55 l1 u1) (o14_56 l1 u1) dX0_step_8 (fun v_1 e_2 e_3 e_4 => ?_)
  refine lv_istore_n (lv' := [(3, .int v_1), (0, .ref (ad i0)), (1, .int a1), (2, .int a2)]) C0.1 C0.2.1 dX0_step_9 rfl hl (by decide) rfl (fun ls hl => ?_)
  refine lv_aload_n C0.1 C0.2.1 dX0_step_10 rfl (lv_at hl 1 rfl) ?_
  refine tg_X0_folk C0 h hi0 q_247 dX0_step_11 ?_
  refine tg_X1_heads C0 h (rSC_1_9 hi0) q_195 dX0_step_14 ?_
  refine lv_iload_n C0.1 C0.2.1 dX0_step_17 rfl (lv_at hl 2 rfl) ?_
  refine y_iald C0 h (rSC_6_2 (rSC_1_9 hi0)) rfl (by decide) (o14_55 l1 u1) (o14_56 l1 u1) dX0_step_18 (fun v_5 e_6 e_7 e_8 => ?_)
  refine y_turned C0 hZ h hZ.2.2.2.2.2.1 dX0_step_19 ?_
  refine lv_iload_n C0.1 C0.2.1 dX0_step_22 rfl (lv_at hl 3 rfl) ?_
  refine y_tald C0 hZ h (o14_1 l2 u2) (o14_12 l2 u2) dX0_step_23 (fun v_12 e_9 e_10 e_11 => ?_)
  refine y_iaddX C0 dX0_step_24 (fun v_14 e_13 => ?_)
  refine y_c1 (n := 3) C0 (by decide) dX0_step_25 (fun v_15 e_16 => ?_)
  refine y_andX 3 2 (n := 3) C0 (Eq.trans (o14_15 e_16) (by decide)) (by decide) (by decide) (by decide) dX0_step_26 (fun v_18 e_17 e_19 e_20 => ?_)
  refine lv_istore (lv' := [(4, .int v_18), (3, .int v_1), (0, .ref (ad i0)), (1, .int a1), (2, .int a2)]) C0.1 C0.2.1 dX0_step_27 hl (by decide) rfl (fun ls hl => ?_)
  refine lv_aload_n C0.1 C0.2.1 dX0_step_29 rfl (lv_at hl 2 rfl) ?_
  refine lv_iload_n C0.1 C0.2.1 dX0_step_30 rfl (lv_at hl 1 rfl) ?_
  refine lv_iload_n C0.1 C0.2.1 dX0_step_31 rfl (lv_at hl 4 rfl) ?_
  refine y_ci h (y_rV (As := [.int v_1, .int a2]) (rest := []) C0 hZ h (c_X0_leftsTaken l G Z ad _ h.2 i0 hi0 v_1 a2 (o14_50 e_3 e_4) (o14_58 e_3 e_4) (o14_1 l2 u2) (o14_20 l2 u2)) k_X0_leftsTaken q_976 q_26 q_974 hi0 rfl rfl rfl hl.1 rfl rfl (Nat.le_of_ble_eq_true rfl) dX0_step_32 ⟨Nat.le_of_ble_eq_true rfl, Nat.le_of_ble_eq_true rfl⟩ ⟨Nat.le_of_ble_eq_true rfl, Nat.le_of_ble_eq_true rfl⟩) (fun r_24 H locs ws_21 h u_22 p_23 => ?_)
  obtain ⟨e_25, e_26, e_27, e_28⟩ := p_23
  replace HE : FT = g1c_X0_step (xso SC ad ws_21) r_24.toInt i0 a1.toInt v_1.toInt v_18.toInt := HE.trans (by rw [e_25, (ix_iand e_17), e_16, (ix_iadd e_13), (congrArg Int32.toInt e_9), (xg1 e_6 : v_5.toInt = (xso SC ad ws0) 1 (i0 + 9 + 2) a1.toInt.toNat), e_26, (xg1 e_2 : v_1.toInt = (xso SC ad ws0) 1 (i0 + 9 + 1) a1.toInt.toNat)]; rfl)
  refine lv_istore (lv' := [(5, .int r_24), (4, .int v_18), (3, .int v_1), (0, .ref (ad i0)), (1, .int a1), (2, .int a2)]) C0.1 C0.2.1 dX0_step_35 hl (by decide) rfl (fun ls hl => ?_)
  refine lv_aload_n C0.1 C0.2.1 dX0_step_37 rfl (lv_at hl 3 rfl) ?_
  refine tg_X0_folk C0 h hi0 q_247 dX0_step_38 ?_
  refine tg_X1_lefts C0 h (rSC_1_9 hi0) q_198 dX0_step_41 ?_
  refine lv_iload_n C0.1 C0.2.1 dX0_step_44 rfl (lv_at hl 4 rfl) ?_
  refine lv_dup2_11 C0.1 C0.2.1 dX0_step_45 rfl rfl ?_
  refine y_iald C0 h (rSC_6_3 (rSC_1_9 hi0)) rfl (by decide) (o14_55 l1 u1) (o14_56 l1 u1) dX0_step_46 (fun v_29 e_30 e_31 e_32 => ?_)
  refine lv_iload C0.1 C0.2.1 dX0_step_47 (lv_at hl 0 rfl) ?_
  refine xr_isub C0 dX0_step_49 (fun v_33 e_34 => ?_)
  have hO_37 := h.2
  refine y_iast C0 h (rSC_6_3 (rSC_1_9 hi0)) rfl (by decide) (o14_55 l1 u1) (o14_56 l1 u1) (le_min v_33) (le_max v_33) dX0_step_50 (fun H locs ws_35 h u_36 => ?_)
  replace HE : FT = g2w_X0_step (xso SC ad ws_35) i0 a1.toInt v_1.toInt v_18.toInt r_24.toInt := HE.trans (by rw [(xso_A (i := i0 + 9 + 3) hO_37 h.2 (rSC_6_3 (rSC_1_9 hi0)) rfl u_36), e_34, (xg1 e_30 : v_29.toInt = (xso SC ad ws_21) 1 (i0 + 9 + 3) a1.toInt.toNat)]; rfl)
  refine lv_aload_n C0.1 C0.2.1 dX0_step_51 rfl (lv_at hl 3 rfl) ?_
  refine tg_X0_folk C0 h hi0 q_247 dX0_step_52 ?_
  refine tg_X1_used C0 h (rSC_1_9 hi0) q_204 dX0_step_55 ?_
  refine lv_iload_n C0.1 C0.2.1 dX0_step_58 rfl (lv_at hl 4 rfl) ?_
  refine y_c3 (n := 999) C0 (by decide) dX0_step_59 (fun v_38 e_39 => ?_)
  refine lv_aload_n C0.1 C0.2.1 dX0_step_62 rfl (lv_at hl 3 rfl) ?_
  refine tg_X0_folk C0 h hi0 q_247 dX0_step_63 ?_
  refine tg_X1_used C0 h (rSC_1_9 hi0) q_204 dX0_step_66 ?_
  refine lv_iload_n C0.1 C0.2.1 dX0_step_69 rfl (lv_at hl 4 rfl) ?_
  refine y_iald C0 h (rSC_6_5 (rSC_1_9 hi0)) rfl (by decide) (o14_55 l1 u1) (o14_56 l1 u1) dX0_step_70 (fun v_40 e_41 e_42 e_43 => ?_)
  refine lv_iload C0.1 C0.2.1 dX0_step_71 (lv_at hl 0 rfl) ?_
  refine xr_iadd C0 dX0_step_73 (fun v_44 e_45 => ?_)
  refine y_min C0 hl.1 q_992 q_663 q_141 q_664 (Nat.le_of_ble_eq_true rfl) (Nat.le_of_ble_eq_true rfl) (Nat.le_of_ble_eq_true rfl) (Nat.le_of_ble_eq_true rfl) dX0_step_74 (fun v_46 e_47 => ?_)
  have hO_50 := h.2
  refine y_iast C0 h (rSC_6_5 (rSC_1_9 hi0)) rfl (by decide) (o14_55 l1 u1) (o14_56 l1 u1) (le_min v_46) (le_max v_46) dX0_step_77 (fun H locs ws_48 h u_49 => ?_)
  replace HE : FT = g3w_X0_step (xso SC ad ws_48) i0 a1.toInt v_1.toInt v_18.toInt r_24.toInt := HE.trans (by rw [(xso_A (i := i0 + 9 + 5) hO_50 h.2 (rSC_6_5 (rSC_1_9 hi0)) rfl u_49), (ix_min e_47), e_45, (xg1 e_41 : v_40.toInt = (xso SC ad ws_35) 1 (i0 + 9 + 5) a1.toInt.toNat), e_39]; rfl)
  refine lv_aload_n C0.1 C0.2.1 dX0_step_78 rfl (lv_at hl 3 rfl) ?_
  refine tg_X0_folk C0 h hi0 q_247 dX0_step_79 ?_
  refine tg_X1_at C0 h (rSC_1_9 hi0) q_192 dX0_step_82 ?_
  refine lv_iload_n C0.1 C0.2.1 dX0_step_85 rfl (lv_at hl 4 rfl) ?_
  refine lv_aload_n C0.1 C0.2.1 dX0_step_86 rfl (lv_at hl 3 rfl) ?_
  refine lv_iload_n C0.1 C0.2.1 dX0_step_87 rfl (lv_at hl 2 rfl) ?_
  refine lv_iload C0.1 C0.2.1 dX0_step_88 (lv_at hl 1 rfl) ?_
  refine y_ci h (y_rV (As := [.int v_1, .int v_18]) (rest := [.int a1, .ref (ad (i0 + 9 + 1))]) C0 hZ h (c_X0_to l G Z ad _ h.2 i0 hi0 v_1 v_18 (o14_50 e_3 e_4) (o14_58 e_3 e_4) (o14_1 e_19 e_20) (o14_20 e_19 e_20) (Rel.fr (M := [9, 11]) hR (Fr.tr (Fr.tr (Fr.mono u_22 (by decide)) (Fr.up u_36.1 (rSC_6_3 (rSC_1_9 hi0)) (by decide))) (Fr.up u_49.1 (rSC_6_5 (rSC_1_9 hi0)) (by decide))) (by decide) (by decide))) k_X0_to q_773 q_774 q_772 hi0 rfl rfl rfl hl.1 rfl rfl (Nat.le_of_ble_eq_true rfl) dX0_step_90 ⟨Nat.le_of_ble_eq_true rfl, Nat.le_of_ble_eq_true rfl⟩ ⟨Nat.le_of_ble_eq_true rfl, Nat.le_of_ble_eq_true rfl⟩) (fun r_54 H locs ws_51 h u_52 p_53 => ?_)
  obtain ⟨e_55, e_56, e_57, e_58, e_59⟩ := p_53
  replace HE : FT = g4c_X0_step (xso SC ad ws_51) r_54.toInt a1.toInt i0 v_18.toInt r_24.toInt := HE.trans (by rw [e_55, e_56]; rfl)
  have t_60 : 0 ≤ r_54.toInt := e_59.elim (fun q => q.2) (fun q => absurd (Bit.fr (M := [9, 11]) ((Fr.tr (Fr.tr (Fr.mono u_22 (by decide)) (Fr.up u_36.1 (rSC_6_3 (rSC_1_9 hi0)) (by decide))) (Fr.up u_49.1 (rSC_6_5 (rSC_1_9 hi0)) (by decide)))) hi0 (by decide) ((canGo_of e_2 e_6 e_9 e_13 e_16 e_17).mp hC)) q.1)
  have hO_63 := h.2
  refine y_iast C0 h (rSC_6_1 (rSC_1_9 hi0)) rfl (by decide) (o14_55 l1 u1) (o14_56 l1 u1) (o14_118 e_57 e_58 t_60) (o14_119 e_57 e_58 t_60) dX0_step_93 (fun H locs ws_61 h u_62 => ?_)
  replace HE : FT = g5w_X0_step (xso SC ad ws_61) i0 a1.toInt v_18.toInt r_24.toInt := HE.trans (by rw [(xso_A (i := i0 + 9 + 1) hO_63 h.2 (rSC_6_1 (rSC_1_9 hi0)) rfl u_62)]; rfl)
  refine lv_aload_n C0.1 C0.2.1 dX0_step_94 rfl (lv_at hl 3 rfl) ?_
  refine tg_X0_folk C0 h hi0 q_247 dX0_step_95 ?_
  refine tg_X1_heads C0 h (rSC_1_9 hi0) q_195 dX0_step_98 ?_
  refine lv_iload_n C0.1 C0.2.1 dX0_step_101 rfl (lv_at hl 4 rfl) ?_
  refine lv_iload C0.1 C0.2.1 dX0_step_102 (lv_at hl 1 rfl) ?_
  have hO_66 := h.2
  refine y_iast C0 h (rSC_6_2 (rSC_1_9 hi0)) rfl (by decide) (o14_55 l1 u1) (o14_56 l1 u1) (o14_1 e_19 e_20) (o14_20 e_19 e_20) dX0_step_104 (fun H locs ws_64 h u_65 => ?_)
  replace HE : FT = g6w_X0_step (xso SC ad ws_64) i0 r_24.toInt := HE.trans (by rw [(xso_A (i := i0 + 9 + 2) hO_66 h.2 (rSC_6_2 (rSC_1_9 hi0)) rfl u_65)]; rfl)
  refine lv_aload_n C0.1 C0.2.1 dX0_step_105 rfl (lv_at hl 3 rfl) ?_
  refine tg_X0_folk C0 h hi0 q_247 dX0_step_106 ?_
  refine lv_dup C0.1 C0.2.1 dX0_step_109 rfl ?_
  refine tg_X1_hours C0 h (rSC_1_9 hi0) q_221 dX0_step_110 (fun v_67 e_68 e_69 e_70 => ?_)
  refine y_c1 (n := 1) C0 (by decide) dX0_step_113 (fun v_71 e_72 => ?_)
  refine xr_iadd C0 dX0_step_114 (fun v_73 e_74 => ?_)
  refine tp_X1_hours C0 h (rSC_1_9 hi0) q_221 (le_min v_73) (le_max v_73) dX0_step_115 (fun H locs ws_75 h u_76 Xu_76 => ?_)
  replace HE : FT = g7w_X0_step (xso SC ad ws_75) r_24.toInt := HE.trans (by rw [Xu_76, e_74, e_72, (xg0 e_68 : v_67.toInt = (xso SC ad ws_64) 0 (i0 + 9) 8)]; rfl)
  refine lv_iload C0.1 C0.2.1 dX0_step_118 (lv_at hl 0 rfl) ?_
  replace HE : FT = ((xso SC ad ws_75), r_24.toInt) := HE.trans rfl
  rw [hQ]
  exact y_iret C0 h (Fr.tr (Fr.tr (Fr.tr (Fr.tr (Fr.tr (Fr.tr (Fr.mono u_22 (by decide)) (Fr.up u_36.1 (rSC_6_3 (rSC_1_9 hi0)) (by decide))) (Fr.up u_49.1 (rSC_6_5 (rSC_1_9 hi0)) (by decide))) (Fr.mono u_52 (by decide))) (Fr.up u_62.1 (rSC_6_1 (rSC_1_9 hi0)) (by decide))) (Fr.up u_65.1 (rSC_6_2 (rSC_1_9 hi0)) (by decide))) (Fr.up u_76.1 (rSC_1_9 hi0) (by decide))) ⟨(congrArg Prod.fst (HE.symm.trans hFT)), (congrArg Prod.snd (HE.symm.trans hFT)), (o14_120 e_27 e_28), (o14_121 e_27 e_28)⟩ dX0_step_120
noncomputable def g3_X0_buysOne (s : XS) : XR := (s, 0)
noncomputable def g10w_X0_buysOne (s : XS) : XR := (s, 1)
noncomputable def g9w_X0_buysOne (s : XS) (i0 : Nat) (a1 : Int) : XR := g10w_X0_buysOne (xup s 1 (i0 + 9 + 6) (Int.toNat (s 1 (i0 + 9 + 1) (Int.toNat a1))) ((Xiadd (s 1 (i0 + 9 + 6) (Int.toNat (s 1 (i0 + 9 + 1) (Int.toNat a1)))) 1)))
noncomputable def g8w_X0_buysOne (s : XS) (i0 : Nat) (a1 : Int) : XR := g9w_X0_buysOne (xup s 1 (i0 + 9 + 3) (Int.toNat a1) (((s 1 (i0 + 9 + 3) (Int.toNat a1)) + 1))) i0 a1
noncomputable def g6_X0_buysOne (s : XS) (i0 : Nat) (a1 : Int) (r_6 : Int) : XR := g8w_X0_buysOne (xup s 1 (i0 + 9 + 4) (Int.toNat a1) (((s 1 (i0 + 9 + 4) (Int.toNat a1)) - r_6))) i0 a1
noncomputable def g7_X0_buysOne (s : XS) : XR := (s, 0)
noncomputable def g5b_X0_buysOne (s : XS) (v_17 : Int) (i0 : Nat) (a1 : Int) (r_6 : Int) : XR := if v_17 < 99 then g6_X0_buysOne s i0 a1 r_6 else g7_X0_buysOne s
noncomputable def g4_X0_buysOne (s : XS) (i0 : Nat) (a1 : Int) (r_6 : Int) : XR := g5b_X0_buysOne s ((s 1 (i0 + 9 + 3) (Int.toNat a1))) i0 a1 r_6
noncomputable def g2b_X0_buysOne (s : XS) (v_10 : Int) (r_6 : Int) (i0 : Nat) (a1 : Int) : XR := if v_10 < r_6 then g3_X0_buysOne s else g4_X0_buysOne s i0 a1 r_6
noncomputable def g1c_X0_buysOne (s : XS) (r_6 : Int) (i0 : Nat) (a1 : Int) : XR := g2b_X0_buysOne s ((s 1 (i0 + 9 + 4) (Int.toNat a1))) r_6 i0 a1
noncomputable def f_X0_buysOne (s : XS) (i0 : Nat) (a1 : Int) : XR := g1c_X0_buysOne ((f_X0_costTo s i0 a1 0).1) (((f_X0_costTo s i0 a1 0).2)) i0 a1
set_option maxHeartbeats 4000000 in
set_option maxRecDepth 100000 in
theorem c_X0_buysOne (l : Launch) (G : GG) (Z : RZ) (ad : Nat → Nat) (ws0 : va_W) (hT : Ty G SC ad ws0) (i0 : Nat) (hi0 : Kd SC i0 1) (a1 : Int32) (l1 : 0 ≤ a1.toInt) (u1 : a1.toInt ≤ 4) : Mq l yX0_buysOne cX0_buysOne 3 (some .boolean) 4 G Z [.ref (ad i0), .int a1] ws0 (PI G SC ad [4, 5, 9, 10, 12] ws0 (fun r u => (xso SC ad u = (f_X0_buysOne (xso SC ad ws0) i0 a1.toInt).1) ∧ (r.toInt = (f_X0_buysOne (xso SC ad ws0) i0 a1.toInt).2) ∧ (0 ≤ r.toInt) ∧ (r.toInt ≤ 1))) := by
  refine Mq.start (by decide) (Nat.le_of_ble_eq_true rfl) ?_
  intro p e s m below meth c A ls C0 hZ h hl
  have hl : lv_has ls 3 [(0, .ref (ad i0)), (1, .int a1)] := hl
  have h : Wt G SC ad A s s.heap [] ws0 := ⟨h, hT⟩
  obtain ⟨args, hargs⟩ : ∃ z, z = ([.ref (ad i0), .int a1] : List Value).toArray := ⟨_, rfl⟩
  rw [← hargs] at C0 ⊢
  have C0 : Cx p s m args meth c RX0 cX0_buysOne 3 (some .boolean) := C0
  obtain ⟨Q, hQ⟩ : ∃ z, z = MQ below ((PI G SC ad [4, 5, 9, 10, 12] ws0 (fun r u => (xso SC ad u = (f_X0_buysOne (xso SC ad ws0) i0 a1.toInt).1) ∧ (r.toInt = (f_X0_buysOne (xso SC ad ws0) i0 a1.toInt).2) ∧ (0 ≤ r.toInt) ∧ (r.toInt ≤ 1))) A) args s 0 0 A := ⟨_, rfl⟩
  rw [← hQ]
  obtain ⟨FT, hFT⟩ : ∃ z, z = f_X0_buysOne (xso SC ad ws0) i0 a1.toInt := ⟨_, rfl⟩
  have HE : FT = f_X0_buysOne (xso SC ad ws0) i0 a1.toInt := hFT
  refine lv_aload_n C0.1 C0.2.1 dX0_buysOne_0 rfl (lv_at hl 0 rfl) ?_
  refine lv_iload_n C0.1 C0.2.1 dX0_buysOne_1 rfl (lv_at hl 1 rfl) ?_
  refine y_c1 (n := 0) C0 (by decide) dX0_buysOne_2 (fun v_1 e_2 => ?_)
  refine y_ci h (y_rV (As := [.int a1, .int v_1]) (rest := []) C0 hZ h (c_X0_costTo l G Z ad _ h.2 i0 hi0 a1 v_1 (o14_55 l1 u1) (o14_122 l1 u1)) k_X0_costTo q_1017 q_1018 q_1065 hi0 rfl rfl rfl hl.1 rfl rfl (Nat.le_of_ble_eq_true rfl) dX0_buysOne_3 ⟨Nat.le_of_ble_eq_true rfl, Nat.le_of_ble_eq_true rfl⟩ ⟨Nat.le_of_ble_eq_true rfl, Nat.le_of_ble_eq_true rfl⟩) (fun r_6 H locs ws_3 h u_4 p_5 => ?_)
  obtain ⟨e_7, e_8, e_9⟩ := p_5
  replace HE : FT = g1c_X0_buysOne (xso SC ad ws_3) r_6.toInt i0 a1.toInt := HE.trans (by rw [e_7, e_8, e_2]; rfl)
  refine lv_istore_n (lv' := [(2, .int r_6), (0, .ref (ad i0)), (1, .int a1)]) C0.1 C0.2.1 dX0_buysOne_6 rfl hl (by decide) rfl (fun ls hl => ?_)
  refine lv_iload_n C0.1 C0.2.1 dX0_buysOne_7 rfl (lv_at hl 0 rfl) ?_
  refine lv_aload_n C0.1 C0.2.1 dX0_buysOne_8 rfl (lv_at hl 1 rfl) ?_
  refine tg_X0_folk C0 h hi0 q_247 dX0_buysOne_9 ?_
  refine tg_X1_coins C0 h (rSC_1_9 hi0) q_201 dX0_buysOne_12 ?_
  refine lv_iload_n C0.1 C0.2.1 dX0_buysOne_15 rfl (lv_at hl 2 rfl) ?_
  refine y_iald C0 h (rSC_6_4 (rSC_1_9 hi0)) rfl (by decide) (o14_55 l1 u1) (o14_56 l1 u1) dX0_buysOne_16 (fun v_10 e_11 e_12 e_13 => ?_)
  replace HE : FT = g2b_X0_buysOne (xso SC ad ws_3) v_10.toInt r_6.toInt i0 a1.toInt := HE.trans (by rw [(xg1 e_11 : v_10.toInt = (xso SC ad ws_3) 1 (i0 + 9 + 4) a1.toInt.toNat)]; rfl)
  refine y_icmp_gt (tgt := 34) C0 dX0_buysOne_17 (by decide) (fun c_14 => ?_) (fun c_14 => ?_)
  · -- 17
    replace HE : FT = g3_X0_buysOne (xso SC ad ws_3) := HE.trans (if_pos c_14)
    refine y_c1 (n := 0) C0 (by decide) dX0_buysOne_34 (fun v_15 e_16 => ?_)
    replace HE : FT = ((xso SC ad ws_3), v_15.toInt) := HE.trans (by rw [e_16]; rfl)
    rw [hQ]
    exact y_zret C0 h (o14_45 e_16) (o14_63 e_16) (Fr.mono u_4 (by decide)) ⟨(congrArg Prod.fst (HE.symm.trans hFT)), (congrArg Prod.snd (HE.symm.trans hFT)), (o14_45 e_16), (o14_63 e_16)⟩ dX0_buysOne_35
  · -- 17
    replace HE : FT = g4_X0_buysOne (xso SC ad ws_3) i0 a1.toInt r_6.toInt := HE.trans (if_neg (Int.not_lt.mpr c_14))
    refine lv_aload_n C0.1 C0.2.1 dX0_buysOne_20 rfl (lv_at hl 1 rfl) ?_
    refine tg_X0_folk C0 h hi0 q_247 dX0_buysOne_21 ?_
    refine tg_X1_lefts C0 h (rSC_1_9 hi0) q_198 dX0_buysOne_24 ?_
    refine lv_iload_n C0.1 C0.2.1 dX0_buysOne_27 rfl (lv_at hl 2 rfl) ?_
    refine y_iald C0 h (rSC_6_3 (rSC_1_9 hi0)) rfl (by decide) (o14_55 l1 u1) (o14_56 l1 u1) dX0_buysOne_28 (fun v_17 e_18 e_19 e_20 => ?_)
    refine y_c2 (n := 99) C0 (by decide) dX0_buysOne_29 (fun v_21 e_22 => ?_)
    replace HE : FT = g5b_X0_buysOne (xso SC ad ws_3) v_17.toInt i0 a1.toInt r_6.toInt := HE.trans (by rw [(xg1 e_18 : v_17.toInt = (xso SC ad ws_3) 1 (i0 + 9 + 3) a1.toInt.toNat)]; rfl)
    refine y_icmp_lt (tgt := 36) C0 dX0_buysOne_31 (by decide) (fun c_23 => ?_) (fun c_23 => ?_)
    · -- 31
      replace HE : FT = g6_X0_buysOne (xso SC ad ws_3) i0 a1.toInt r_6.toInt := HE.trans (if_pos (o14_124 e_22 c_23))
      refine lv_aload_n C0.1 C0.2.1 dX0_buysOne_36 rfl (lv_at hl 1 rfl) ?_
      refine tg_X0_folk C0 h hi0 q_247 dX0_buysOne_37 ?_
      refine tg_X1_coins C0 h (rSC_1_9 hi0) q_201 dX0_buysOne_40 ?_
      refine lv_iload_n C0.1 C0.2.1 dX0_buysOne_43 rfl (lv_at hl 2 rfl) ?_
      refine lv_dup2_11 C0.1 C0.2.1 dX0_buysOne_44 rfl rfl ?_
      refine y_iald C0 h (rSC_6_4 (rSC_1_9 hi0)) rfl (by decide) (o14_55 l1 u1) (o14_56 l1 u1) dX0_buysOne_45 (fun v_24 e_25 e_26 e_27 => ?_)
      have qh_28 : v_24.toInt = v_10.toInt := congrArg Int32.toInt (e_25.symm.trans (Eq.trans rfl e_11))
      refine lv_iload_n C0.1 C0.2.1 dX0_buysOne_46 rfl (lv_at hl 0 rfl) ?_
      refine y_sub C0 (o14_126 e_9 c_14 qh_28 (le_min v_24) (le_max v_24) (le_min r_6) (le_max r_6) (le_min v_10) (le_max v_10)) (o14_127 e_9 c_14 qh_28 (le_min v_24) (le_max v_24) (le_min r_6) (le_max r_6) (le_min v_10) (le_max v_10)) dX0_buysOne_47 (fun v_29 e_30 => ?_)
      have hO_33 := h.2
      refine y_iast C0 h (rSC_6_4 (rSC_1_9 hi0)) rfl (by decide) (o14_55 l1 u1) (o14_56 l1 u1) (le_min v_29) (le_max v_29) dX0_buysOne_48 (fun H locs ws_31 h u_32 => ?_)
      replace HE : FT = g8w_X0_buysOne (xso SC ad ws_31) i0 a1.toInt := HE.trans (by rw [(xso_A (i := i0 + 9 + 4) hO_33 h.2 (rSC_6_4 (rSC_1_9 hi0)) rfl u_32), e_30, (xg1 e_25 : v_24.toInt = (xso SC ad ws_3) 1 (i0 + 9 + 4) a1.toInt.toNat)]; rfl)
      refine lv_aload_n C0.1 C0.2.1 dX0_buysOne_49 rfl (lv_at hl 1 rfl) ?_
      refine tg_X0_folk C0 h hi0 q_247 dX0_buysOne_50 ?_
      refine tg_X1_lefts C0 h (rSC_1_9 hi0) q_198 dX0_buysOne_53 ?_
      refine lv_iload_n C0.1 C0.2.1 dX0_buysOne_56 rfl (lv_at hl 2 rfl) ?_
      refine lv_dup2_11 C0.1 C0.2.1 dX0_buysOne_57 rfl rfl ?_
      refine y_iald C0 h (rSC_6_3 (rSC_1_9 hi0)) rfl (by decide) (o14_55 l1 u1) (o14_56 l1 u1) dX0_buysOne_58 (fun v_34 e_35 e_36 e_37 => ?_)
      have qh_38 : v_34.toInt = v_17.toInt := congrArg Int32.toInt (e_35.symm.trans (Eq.trans (aI_of (u_32.1 (i0 + 9 + 3) (kd_ne (rSC_6_3 (rSC_1_9 hi0)) (rSC_6_4 (rSC_1_9 hi0)) (by decide)))) e_18))
      refine y_c1 (n := 1) C0 (by decide) dX0_buysOne_59 (fun v_39 e_40 => ?_)
      refine y_add C0 (o14_128 e_22 c_23 qh_38 e_40 (le_min v_34) (le_max v_34) (le_min v_39) (le_max v_39) (le_min v_21) (le_max v_21) (le_min v_17) (le_max v_17)) (o14_129 e_22 c_23 qh_38 e_40 (le_min v_34) (le_max v_34) (le_min v_39) (le_max v_39) (le_min v_21) (le_max v_21) (le_min v_17) (le_max v_17)) dX0_buysOne_60 (fun v_41 e_42 => ?_)
      have hO_45 := h.2
      refine y_iast C0 h (rSC_6_3 (rSC_1_9 hi0)) rfl (by decide) (o14_55 l1 u1) (o14_56 l1 u1) (le_min v_41) (le_max v_41) dX0_buysOne_61 (fun H locs ws_43 h u_44 => ?_)
      replace HE : FT = g9w_X0_buysOne (xso SC ad ws_43) i0 a1.toInt := HE.trans (by rw [(xso_A (i := i0 + 9 + 3) hO_45 h.2 (rSC_6_3 (rSC_1_9 hi0)) rfl u_44), e_42, e_40, (xg1 e_35 : v_34.toInt = (xso SC ad ws_31) 1 (i0 + 9 + 3) a1.toInt.toNat)]; rfl)
      refine lv_aload_n C0.1 C0.2.1 dX0_buysOne_62 rfl (lv_at hl 1 rfl) ?_
      refine tg_X0_folk C0 h hi0 q_247 dX0_buysOne_63 ?_
      refine tg_X1_sold C0 h (rSC_1_9 hi0) q_209 dX0_buysOne_66 ?_
      refine lv_aload_n C0.1 C0.2.1 dX0_buysOne_69 rfl (lv_at hl 1 rfl) ?_
      refine tg_X0_folk C0 h hi0 q_247 dX0_buysOne_70 ?_
      refine tg_X1_at C0 h (rSC_1_9 hi0) q_192 dX0_buysOne_73 ?_
      refine lv_iload_n C0.1 C0.2.1 dX0_buysOne_76 rfl (lv_at hl 2 rfl) ?_
      refine y_iald C0 h (rSC_6_1 (rSC_1_9 hi0)) rfl (by decide) (o14_55 l1 u1) (o14_56 l1 u1) dX0_buysOne_77 (fun v_46 e_47 e_48 e_49 => ?_)
      refine lv_dup2_11 C0.1 C0.2.1 dX0_buysOne_78 rfl rfl ?_
      refine y_iald C0 h (rSC_6_6 (rSC_1_9 hi0)) rfl (by decide) (o14_50 e_48 e_49) (o14_57 e_48 e_49) dX0_buysOne_79 (fun v_50 e_51 e_52 e_53 => ?_)
      refine y_c1 (n := 1) C0 (by decide) dX0_buysOne_80 (fun v_54 e_55 => ?_)
      refine xr_iadd C0 dX0_buysOne_81 (fun v_56 e_57 => ?_)
      have hO_60 := h.2
      refine y_iast C0 h (rSC_6_6 (rSC_1_9 hi0)) rfl (by decide) (o14_50 e_48 e_49) (o14_57 e_48 e_49) (le_min v_56) (le_max v_56) dX0_buysOne_82 (fun H locs ws_58 h u_59 => ?_)
      replace HE : FT = g10w_X0_buysOne (xso SC ad ws_58) := HE.trans (by rw [(xso_A (i := i0 + 9 + 6) hO_60 h.2 (rSC_6_6 (rSC_1_9 hi0)) rfl u_59), e_57, e_55, (xg1 e_51 : v_50.toInt = (xso SC ad ws_43) 1 (i0 + 9 + 6) v_46.toInt.toNat), (xg1 e_47 : v_46.toInt = (xso SC ad ws_43) 1 (i0 + 9 + 1) a1.toInt.toNat)]; rfl)
      refine y_c1 (n := 1) C0 (by decide) dX0_buysOne_83 (fun v_61 e_62 => ?_)
      replace HE : FT = ((xso SC ad ws_58), v_61.toInt) := HE.trans (by rw [e_62]; rfl)
      rw [hQ]
      exact y_zret C0 h (o14_48 e_62) (o14_60 e_62) (Fr.tr (Fr.tr (Fr.tr (Fr.mono u_4 (by decide)) (Fr.up u_32.1 (rSC_6_4 (rSC_1_9 hi0)) (by decide))) (Fr.up u_44.1 (rSC_6_3 (rSC_1_9 hi0)) (by decide))) (Fr.up u_59.1 (rSC_6_6 (rSC_1_9 hi0)) (by decide))) ⟨(congrArg Prod.fst (HE.symm.trans hFT)), (congrArg Prod.snd (HE.symm.trans hFT)), (o14_48 e_62), (o14_60 e_62)⟩ dX0_buysOne_84
    · -- 31
      replace HE : FT = g7_X0_buysOne (xso SC ad ws_3) := HE.trans (if_neg (o14_125 e_22 c_23))
      refine y_c1 (n := 0) C0 (by decide) dX0_buysOne_34 (fun v_63 e_64 => ?_)
      replace HE : FT = ((xso SC ad ws_3), v_63.toInt) := HE.trans (by rw [e_64]; rfl)
      rw [hQ]
      exact y_zret C0 h (o14_45 e_64) (o14_63 e_64) (Fr.mono u_4 (by decide)) ⟨(congrArg Prod.fst (HE.symm.trans hFT)), (congrArg Prod.snd (HE.symm.trans hFT)), (o14_45 e_64), (o14_63 e_64)⟩ dX0_buysOne_35
