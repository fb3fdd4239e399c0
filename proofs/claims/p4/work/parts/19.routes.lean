variable {tt : QQ}
theorem dX3_catching_0 : decode cX3_catching 0 = .ok (.aload_n 0, 1) := by decide +kernel
theorem dX3_catching_1 : decode cX3_catching 1 = .ok (.getfield 22, 3) := by decide +kernel
theorem dX3_catching_4 : decode cX3_catching 4 = .ok (.iload_n 3, 1) := by decide +kernel
theorem dX3_catching_5 : decode cX3_catching 5 = .ok (.if_icmp .gt 71, 3) := by decide +kernel
theorem dX3_catching_8 : decode cX3_catching 8 = .ok (.aload_n 0, 1) := by decide +kernel
theorem dX3_catching_9 : decode cX3_catching 9 = .ok (.getfield 22, 3) := by decide +kernel
theorem dX3_catching_12 : decode cX3_catching 12 = .ok (.bipush 30, 2) := by decide +kernel
theorem dX3_catching_14 : decode cX3_catching 14 = .ok (.if_icmp .gt 62, 3) := by decide +kernel
theorem dX3_catching_17 : decode cX3_catching 17 = .ok (.aload_n 0, 1) := by decide +kernel
theorem dX3_catching_18 : decode cX3_catching 18 = .ok (.getfield 26, 3) := by decide +kernel
theorem dX3_catching_21 : decode cX3_catching 21 = .ok (.ifCond .ne 55, 3) := by decide +kernel
theorem dX3_catching_24 : decode cX3_catching 24 = .ok (.aload_n 0, 1) := by decide +kernel
theorem dX3_catching_25 : decode cX3_catching 25 = .ok (.aload_n 0, 1) := by decide +kernel
theorem dX3_catching_26 : decode cX3_catching 26 = .ok (.getfield 22, 3) := by decide +kernel
theorem dX3_catching_29 : decode cX3_catching 29 = .ok (.invokevirtual 30, 3) := by decide +kernel
theorem dX3_catching_32 : decode cX3_catching 32 = .ok (.aload_n 0, 1) := by decide +kernel
theorem dX3_catching_33 : decode cX3_catching 33 = .ok (.aload_n 0, 1) := by decide +kernel
theorem dX3_catching_34 : decode cX3_catching 34 = .ok (.getfield 22, 3) := by decide +kernel
theorem dX3_catching_37 : decode cX3_catching 37 = .ok (.ifCond .le 22, 3) := by decide +kernel
theorem dX3_catching_40 : decode cX3_catching 40 = .ok (.aload_n 0, 1) := by decide +kernel
theorem dX3_catching_41 : decode cX3_catching 41 = .ok (.aload_n 0, 1) := by decide +kernel
theorem dX3_catching_42 : decode cX3_catching 42 = .ok (.getfield 22, 3) := by decide +kernel
theorem dX3_catching_45 : decode cX3_catching 45 = .ok (.sipush 400, 3) := by decide +kernel
theorem dX3_catching_48 : decode cX3_catching 48 = .ok (.imul, 1) := by decide +kernel
theorem dX3_catching_49 : decode cX3_catching 49 = .ok (.invokevirtual 34, 3) := by decide +kernel
theorem dX3_catching_52 : decode cX3_catching 52 = .ok (.ifCond .eq 7, 3) := by decide +kernel
theorem dX3_catching_55 : decode cX3_catching 55 = .ok (.iconst 1, 1) := by decide +kernel
theorem dX3_catching_56 : decode cX3_catching 56 = .ok (.goto 4, 3) := by decide +kernel
theorem dX3_catching_59 : decode cX3_catching 59 = .ok (.iconst 0, 1) := by decide +kernel
theorem dX3_catching_60 : decode cX3_catching 60 = .ok (.putfield 26, 3) := by decide +kernel
theorem dX3_catching_63 : decode cX3_catching 63 = .ok (.aload_n 0, 1) := by decide +kernel
theorem dX3_catching_64 : decode cX3_catching 64 = .ok (.dup, 1) := by decide +kernel
theorem dX3_catching_65 : decode cX3_catching 65 = .ok (.getfield 22, 3) := by decide +kernel
theorem dX3_catching_68 : decode cX3_catching 68 = .ok (.iconst 1, 1) := by decide +kernel
theorem dX3_catching_69 : decode cX3_catching 69 = .ok (.iadd, 1) := by decide +kernel
theorem dX3_catching_70 : decode cX3_catching 70 = .ok (.putfield 22, 3) := by decide +kernel
theorem dX3_catching_73 : decode cX3_catching 73 = .ok (.goto (-73), 3) := by decide +kernel
theorem dX3_catching_76 : decode cX3_catching 76 = .ok (.aload_n 0, 1) := by decide +kernel
theorem dX3_catching_77 : decode cX3_catching 77 = .ok (.getfield 11, 3) := by decide +kernel
theorem dX3_catching_80 : decode cX3_catching 80 = .ok (.iload_n 3, 1) := by decide +kernel
theorem dX3_catching_81 : decode cX3_catching 81 = .ok (.aload_n 0, 1) := by decide +kernel
theorem dX3_catching_82 : decode cX3_catching 82 = .ok (.getfield 22, 3) := by decide +kernel
theorem dX3_catching_85 : decode cX3_catching 85 = .ok (.iconst 1, 1) := by decide +kernel
theorem dX3_catching_86 : decode cX3_catching 86 = .ok (.isub, 1) := by decide +kernel
theorem dX3_catching_87 : decode cX3_catching 87 = .ok (.invokestatic 38, 3) := by decide +kernel
theorem dX3_catching_90 : decode cX3_catching 90 = .ok (.sipush 400, 3) := by decide +kernel
theorem dX3_catching_93 : decode cX3_catching 93 = .ok (.imul, 1) := by decide +kernel
theorem dX3_catching_94 : decode cX3_catching 94 = .ok (.iconst 4, 1) := by decide +kernel
theorem dX3_catching_95 : decode cX3_catching 95 = .ok (.iload_n 1, 1) := by decide +kernel
theorem dX3_catching_96 : decode cX3_catching 96 = .ok (.imul, 1) := by decide +kernel
theorem dX3_catching_97 : decode cX3_catching 97 = .ok (.iadd, 1) := by decide +kernel
theorem dX3_catching_98 : decode cX3_catching 98 = .ok (.iload_n 2, 1) := by decide +kernel
theorem dX3_catching_99 : decode cX3_catching 99 = .ok (.iadd, 1) := by decide +kernel
theorem dX3_catching_100 : decode cX3_catching 100 = .ok (.iaload, 1) := by decide +kernel
theorem dX3_catching_101 : decode cX3_catching 101 = .ok (.ireturn, 1) := by decide +kernel
theorem dX3_forget_0 : decode cX3_forget 0 = .ok (.aload_n 0, 1) := by decide +kernel
theorem dX3_forget_1 : decode cX3_forget 1 = .ok (.iconst 0, 1) := by decide +kernel
theorem dX3_forget_2 : decode cX3_forget 2 = .ok (.putfield 22, 3) := by decide +kernel
theorem dX3_forget_5 : decode cX3_forget 5 = .ok (.aload_n 0, 1) := by decide +kernel
theorem dX3_forget_6 : decode cX3_forget 6 = .ok (.iconst 0, 1) := by decide +kernel
theorem dX3_forget_7 : decode cX3_forget 7 = .ok (.putfield 26, 3) := by decide +kernel
theorem dX3_forget_10 : decode cX3_forget 10 = .ok (.return_, 1) := by decide +kernel
theorem dX3_isLikeTheLast_0 : decode cX3_isLikeTheLast 0 = .ok (.iload_n 1, 1) := by decide +kernel
theorem dX3_isLikeTheLast_1 : decode cX3_isLikeTheLast 1 = .ok (.istore_n 2, 1) := by decide +kernel
theorem dX3_isLikeTheLast_2 : decode cX3_isLikeTheLast 2 = .ok (.iload_n 2, 1) := by decide +kernel
theorem dX3_isLikeTheLast_3 : decode cX3_isLikeTheLast 3 = .ok (.iload_n 1, 1) := by decide +kernel
theorem dX3_isLikeTheLast_4 : decode cX3_isLikeTheLast 4 = .ok (.bipush 16, 2) := by decide +kernel
theorem dX3_isLikeTheLast_6 : decode cX3_isLikeTheLast 6 = .ok (.aload_n 0, 1) := by decide +kernel
theorem dX3_isLikeTheLast_7 : decode cX3_isLikeTheLast 7 = .ok (.getfield 18, 3) := by decide +kernel
theorem dX3_isLikeTheLast_10 : decode cX3_isLikeTheLast 10 = .ok (.invokevirtual 44, 3) := by decide +kernel
theorem dX3_isLikeTheLast_13 : decode cX3_isLikeTheLast 13 = .ok (.imul, 1) := by decide +kernel
theorem dX3_isLikeTheLast_14 : decode cX3_isLikeTheLast 14 = .ok (.iadd, 1) := by decide +kernel
theorem dX3_isLikeTheLast_15 : decode cX3_isLikeTheLast 15 = .ok (.if_icmp .ge 30, 3) := by decide +kernel
theorem dX3_isLikeTheLast_18 : decode cX3_isLikeTheLast 18 = .ok (.aload_n 0, 1) := by decide +kernel
theorem dX3_isLikeTheLast_19 : decode cX3_isLikeTheLast 19 = .ok (.getfield 11, 3) := by decide +kernel
theorem dX3_isLikeTheLast_22 : decode cX3_isLikeTheLast 22 = .ok (.iload_n 2, 1) := by decide +kernel
theorem dX3_isLikeTheLast_23 : decode cX3_isLikeTheLast 23 = .ok (.iaload, 1) := by decide +kernel
theorem dX3_isLikeTheLast_24 : decode cX3_isLikeTheLast 24 = .ok (.aload_n 0, 1) := by decide +kernel
theorem dX3_isLikeTheLast_25 : decode cX3_isLikeTheLast 25 = .ok (.getfield 11, 3) := by decide +kernel
theorem dX3_isLikeTheLast_28 : decode cX3_isLikeTheLast 28 = .ok (.iload_n 2, 1) := by decide +kernel
theorem dX3_isLikeTheLast_29 : decode cX3_isLikeTheLast 29 = .ok (.sipush 400, 3) := by decide +kernel
theorem dX3_isLikeTheLast_32 : decode cX3_isLikeTheLast 32 = .ok (.isub, 1) := by decide +kernel
theorem dX3_isLikeTheLast_33 : decode cX3_isLikeTheLast 33 = .ok (.iaload, 1) := by decide +kernel
theorem dX3_isLikeTheLast_34 : decode cX3_isLikeTheLast 34 = .ok (.if_icmp .eq 5, 3) := by decide +kernel
theorem dX3_isLikeTheLast_37 : decode cX3_isLikeTheLast 37 = .ok (.iconst 0, 1) := by decide +kernel
theorem dX3_isLikeTheLast_38 : decode cX3_isLikeTheLast 38 = .ok (.ireturn, 1) := by decide +kernel
theorem dX3_isLikeTheLast_39 : decode cX3_isLikeTheLast 39 = .ok (.iinc 2 1, 3) := by decide +kernel
theorem dX3_isLikeTheLast_42 : decode cX3_isLikeTheLast 42 = .ok (.goto (-40), 3) := by decide +kernel
theorem dX3_isLikeTheLast_45 : decode cX3_isLikeTheLast 45 = .ok (.iconst 1, 1) := by decide +kernel
theorem dX3_isLikeTheLast_46 : decode cX3_isLikeTheLast 46 = .ok (.ireturn, 1) := by decide +kernel
theorem dX3_watchGoes_0 : decode cX3_watchGoes 0 = .ok (.iload_n 2, 1) := by decide +kernel
theorem dX3_watchGoes_1 : decode cX3_watchGoes 1 = .ok (.iconst 1, 1) := by decide +kernel
theorem dX3_watchGoes_2 : decode cX3_watchGoes 2 = .ok (.iadd, 1) := by decide +kernel
theorem dX3_watchGoes_3 : decode cX3_watchGoes 3 = .ok (.iconst 3, 1) := by decide +kernel
theorem dX3_watchGoes_4 : decode cX3_watchGoes 4 = .ok (.iand, 1) := by decide +kernel
theorem dX3_watchGoes_5 : decode cX3_watchGoes 5 = .ok (.istore_n 3, 1) := by decide +kernel
theorem dX3_watchGoes_6 : decode cX3_watchGoes 6 = .ok (.aload_n 0, 1) := by decide +kernel
theorem dX3_watchGoes_7 : decode cX3_watchGoes 7 = .ok (.getfield 18, 3) := by decide +kernel
theorem dX3_watchGoes_10 : decode cX3_watchGoes 10 = .ok (.getfield 56, 3) := by decide +kernel
theorem dX3_watchGoes_13 : decode cX3_watchGoes 13 = .ok (.iload_n 2, 1) := by decide +kernel
theorem dX3_watchGoes_14 : decode cX3_watchGoes 14 = .ok (.iaload, 1) := by decide +kernel
theorem dX3_watchGoes_15 : decode cX3_watchGoes 15 = .ok (.aload_n 0, 1) := by decide +kernel
theorem dX3_watchGoes_16 : decode cX3_watchGoes 16 = .ok (.getfield 18, 3) := by decide +kernel
theorem dX3_watchGoes_19 : decode cX3_watchGoes 19 = .ok (.getfield 56, 3) := by decide +kernel
theorem dX3_watchGoes_22 : decode cX3_watchGoes 22 = .ok (.iload_n 3, 1) := by decide +kernel
theorem dX3_watchGoes_23 : decode cX3_watchGoes 23 = .ok (.iaload, 1) := by decide +kernel
theorem dX3_watchGoes_24 : decode cX3_watchGoes 24 = .ok (.ior, 1) := by decide +kernel
theorem dX3_watchGoes_25 : decode cX3_watchGoes 25 = .ok (.iconst (-1), 1) := by decide +kernel
theorem dX3_watchGoes_26 : decode cX3_watchGoes 26 = .ok (.ixor, 1) := by decide +kernel
theorem dX3_watchGoes_27 : decode cX3_watchGoes 27 = .ok (.istore 4, 2) := by decide +kernel
theorem dX3_watchGoes_29 : decode cX3_watchGoes 29 = .ok (.aload_n 0, 1) := by decide +kernel
theorem dX3_watchGoes_30 : decode cX3_watchGoes 30 = .ok (.getfield 18, 3) := by decide +kernel
theorem dX3_watchGoes_33 : decode cX3_watchGoes 33 = .ok (.aload_n 0, 1) := by decide +kernel
theorem dX3_watchGoes_34 : decode cX3_watchGoes 34 = .ok (.getfield 11, 3) := by decide +kernel
theorem dX3_watchGoes_37 : decode cX3_watchGoes 37 = .ok (.iload_n 1, 1) := by decide +kernel
theorem dX3_watchGoes_38 : decode cX3_watchGoes 38 = .ok (.iload_n 2, 1) := by decide +kernel
theorem dX3_watchGoes_39 : decode cX3_watchGoes 39 = .ok (.iadd, 1) := by decide +kernel
theorem dX3_watchGoes_40 : decode cX3_watchGoes 40 = .ok (.iaload, 1) := by decide +kernel
theorem dX3_watchGoes_41 : decode cX3_watchGoes 41 = .ok (.iload_n 2, 1) := by decide +kernel
theorem dX3_watchGoes_42 : decode cX3_watchGoes 42 = .ok (.invokevirtual 59, 3) := by decide +kernel
theorem dX3_watchGoes_45 : decode cX3_watchGoes 45 = .ok (.aload_n 0, 1) := by decide +kernel
theorem dX3_watchGoes_46 : decode cX3_watchGoes 46 = .ok (.getfield 18, 3) := by decide +kernel
theorem dX3_watchGoes_49 : decode cX3_watchGoes 49 = .ok (.aload_n 0, 1) := by decide +kernel
theorem dX3_watchGoes_50 : decode cX3_watchGoes 50 = .ok (.getfield 11, 3) := by decide +kernel
theorem dX3_watchGoes_53 : decode cX3_watchGoes 53 = .ok (.iload_n 1, 1) := by decide +kernel
theorem dX3_watchGoes_54 : decode cX3_watchGoes 54 = .ok (.iload_n 3, 1) := by decide +kernel
theorem dX3_watchGoes_55 : decode cX3_watchGoes 55 = .ok (.iadd, 1) := by decide +kernel
theorem dX3_watchGoes_56 : decode cX3_watchGoes 56 = .ok (.iaload, 1) := by decide +kernel
theorem dX3_watchGoes_57 : decode cX3_watchGoes 57 = .ok (.iload_n 3, 1) := by decide +kernel
theorem dX3_watchGoes_58 : decode cX3_watchGoes 58 = .ok (.invokevirtual 59, 3) := by decide +kernel
theorem dX3_watchGoes_61 : decode cX3_watchGoes 61 = .ok (.ior, 1) := by decide +kernel
theorem dX3_watchGoes_62 : decode cX3_watchGoes 62 = .ok (.aload_n 0, 1) := by decide +kernel
theorem dX3_watchGoes_63 : decode cX3_watchGoes 63 = .ok (.getfield 11, 3) := by decide +kernel
theorem dX3_watchGoes_66 : decode cX3_watchGoes 66 = .ok (.iload_n 1, 1) := by decide +kernel
theorem dX3_watchGoes_67 : decode cX3_watchGoes 67 = .ok (.iload_n 2, 1) := by decide +kernel
theorem dX3_watchGoes_68 : decode cX3_watchGoes 68 = .ok (.iadd, 1) := by decide +kernel
theorem dX3_watchGoes_69 : decode cX3_watchGoes 69 = .ok (.iaload, 1) := by decide +kernel
theorem dX3_watchGoes_70 : decode cX3_watchGoes 70 = .ok (.iload 4, 2) := by decide +kernel
theorem dX3_watchGoes_72 : decode cX3_watchGoes 72 = .ok (.iand, 1) := by decide +kernel
theorem dX3_watchGoes_73 : decode cX3_watchGoes 73 = .ok (.ior, 1) := by decide +kernel
theorem dX3_watchGoes_74 : decode cX3_watchGoes 74 = .ok (.ireturn, 1) := by decide +kernel
theorem dX3_workOut_0 : decode cX3_workOut 0 = .ok (.iconst 4, 1) := by decide +kernel
theorem dX3_workOut_1 : decode cX3_workOut 1 = .ok (.aload_n 0, 1) := by decide +kernel
theorem dX3_workOut_2 : decode cX3_workOut 2 = .ok (.getfield 18, 3) := by decide +kernel
theorem dX3_workOut_5 : decode cX3_workOut 5 = .ok (.invokevirtual 44, 3) := by decide +kernel
theorem dX3_workOut_8 : decode cX3_workOut 8 = .ok (.imul, 1) := by decide +kernel
theorem dX3_workOut_9 : decode cX3_workOut 9 = .ok (.istore_n 2, 1) := by decide +kernel
theorem dX3_workOut_10 : decode cX3_workOut 10 = .ok (.iconst 0, 1) := by decide +kernel
theorem dX3_workOut_11 : decode cX3_workOut 11 = .ok (.istore_n 3, 1) := by decide +kernel
theorem dX3_workOut_12 : decode cX3_workOut 12 = .ok (.iload_n 3, 1) := by decide +kernel
theorem dX3_workOut_13 : decode cX3_workOut 13 = .ok (.iload_n 2, 1) := by decide +kernel
theorem dX3_workOut_14 : decode cX3_workOut 14 = .ok (.if_icmp .ge 66, 3) := by decide +kernel
theorem dX3_workOut_17 : decode cX3_workOut 17 = .ok (.iconst 0, 1) := by decide +kernel
theorem dX3_workOut_18 : decode cX3_workOut 18 = .ok (.istore 4, 2) := by decide +kernel
theorem dX3_workOut_20 : decode cX3_workOut 20 = .ok (.iload 4, 2) := by decide +kernel
theorem dX3_workOut_22 : decode cX3_workOut 22 = .ok (.iconst 4, 1) := by decide +kernel
theorem dX3_workOut_23 : decode cX3_workOut 23 = .ok (.if_icmp .ge 51, 3) := by decide +kernel
theorem dX3_workOut_26 : decode cX3_workOut 26 = .ok (.aload_n 0, 1) := by decide +kernel
theorem dX3_workOut_27 : decode cX3_workOut 27 = .ok (.getfield 15, 3) := by decide +kernel
theorem dX3_workOut_30 : decode cX3_workOut 30 = .ok (.iconst 4, 1) := by decide +kernel
theorem dX3_workOut_31 : decode cX3_workOut 31 = .ok (.iload_n 3, 1) := by decide +kernel
theorem dX3_workOut_32 : decode cX3_workOut 32 = .ok (.imul, 1) := by decide +kernel
theorem dX3_workOut_33 : decode cX3_workOut 33 = .ok (.iload 4, 2) := by decide +kernel
theorem dX3_workOut_35 : decode cX3_workOut 35 = .ok (.iadd, 1) := by decide +kernel
theorem dX3_workOut_36 : decode cX3_workOut 36 = .ok (.iconst 1, 1) := by decide +kernel
theorem dX3_workOut_37 : decode cX3_workOut 37 = .ok (.iload_n 3, 1) := by decide +kernel
theorem dX3_workOut_38 : decode cX3_workOut 38 = .ok (.iconst 2, 1) := by decide +kernel
theorem dX3_workOut_39 : decode cX3_workOut 39 = .ok (.ishr, 1) := by decide +kernel
theorem dX3_workOut_40 : decode cX3_workOut 40 = .ok (.ishl, 1) := by decide +kernel
theorem dX3_workOut_41 : decode cX3_workOut 41 = .ok (.iload_n 1, 1) := by decide +kernel
theorem dX3_workOut_42 : decode cX3_workOut 42 = .ok (.ifCond .le 23, 3) := by decide +kernel
theorem dX3_workOut_45 : decode cX3_workOut 45 = .ok (.aload_n 0, 1) := by decide +kernel
theorem dX3_workOut_46 : decode cX3_workOut 46 = .ok (.iload_n 1, 1) := by decide +kernel
theorem dX3_workOut_47 : decode cX3_workOut 47 = .ok (.iconst 1, 1) := by decide +kernel
theorem dX3_workOut_48 : decode cX3_workOut 48 = .ok (.isub, 1) := by decide +kernel
theorem dX3_workOut_49 : decode cX3_workOut 49 = .ok (.sipush 400, 3) := by decide +kernel
theorem dX3_workOut_52 : decode cX3_workOut 52 = .ok (.imul, 1) := by decide +kernel
theorem dX3_workOut_53 : decode cX3_workOut 53 = .ok (.iconst 4, 1) := by decide +kernel
theorem dX3_workOut_54 : decode cX3_workOut 54 = .ok (.iload_n 3, 1) := by decide +kernel
theorem dX3_workOut_55 : decode cX3_workOut 55 = .ok (.imul, 1) := by decide +kernel
theorem dX3_workOut_56 : decode cX3_workOut 56 = .ok (.iadd, 1) := by decide +kernel
theorem dX3_workOut_57 : decode cX3_workOut 57 = .ok (.iload 4, 2) := by decide +kernel
theorem dX3_workOut_59 : decode cX3_workOut 59 = .ok (.invokevirtual 50, 3) := by decide +kernel
theorem dX3_workOut_62 : decode cX3_workOut 62 = .ok (.goto 4, 3) := by decide +kernel
theorem dX3_workOut_65 : decode cX3_workOut 65 = .ok (.iconst 0, 1) := by decide +kernel
theorem dX3_workOut_66 : decode cX3_workOut 66 = .ok (.ior, 1) := by decide +kernel
theorem dX3_workOut_67 : decode cX3_workOut 67 = .ok (.iastore, 1) := by decide +kernel
theorem dX3_workOut_68 : decode cX3_workOut 68 = .ok (.iinc 4 1, 3) := by decide +kernel
theorem dX3_workOut_71 : decode cX3_workOut 71 = .ok (.goto (-51), 3) := by decide +kernel
theorem dX3_workOut_74 : decode cX3_workOut 74 = .ok (.iinc 3 1, 3) := by decide +kernel
theorem dX3_workOut_77 : decode cX3_workOut 77 = .ok (.goto (-65), 3) := by decide +kernel
theorem dX3_workOut_80 : decode cX3_workOut 80 = .ok (.iconst 0, 1) := by decide +kernel
theorem dX3_workOut_81 : decode cX3_workOut 81 = .ok (.istore_n 3, 1) := by decide +kernel
theorem dX3_workOut_82 : decode cX3_workOut 82 = .ok (.iload_n 3, 1) := by decide +kernel
theorem dX3_workOut_83 : decode cX3_workOut 83 = .ok (.iload_n 2, 1) := by decide +kernel
theorem dX3_workOut_84 : decode cX3_workOut 84 = .ok (.if_icmp .ge 131, 3) := by decide +kernel
theorem dX3_workOut_87 : decode cX3_workOut 87 = .ok (.aload_n 0, 1) := by decide +kernel
theorem dX3_workOut_88 : decode cX3_workOut 88 = .ok (.getfield 18, 3) := by decide +kernel
theorem dX3_workOut_91 : decode cX3_workOut 91 = .ok (.iload_n 3, 1) := by decide +kernel
theorem dX3_workOut_92 : decode cX3_workOut 92 = .ok (.iconst 0, 1) := by decide +kernel
theorem dX3_workOut_93 : decode cX3_workOut 93 = .ok (.invokevirtual 53, 3) := by decide +kernel
theorem dX3_workOut_96 : decode cX3_workOut 96 = .ok (.istore 4, 2) := by decide +kernel
theorem dX3_workOut_98 : decode cX3_workOut 98 = .ok (.aload_n 0, 1) := by decide +kernel
theorem dX3_workOut_99 : decode cX3_workOut 99 = .ok (.getfield 18, 3) := by decide +kernel
theorem dX3_workOut_102 : decode cX3_workOut 102 = .ok (.iload_n 3, 1) := by decide +kernel
theorem dX3_workOut_103 : decode cX3_workOut 103 = .ok (.iconst 1, 1) := by decide +kernel
theorem dX3_workOut_104 : decode cX3_workOut 104 = .ok (.invokevirtual 53, 3) := by decide +kernel
theorem dX3_workOut_107 : decode cX3_workOut 107 = .ok (.istore 5, 2) := by decide +kernel
theorem dX3_workOut_109 : decode cX3_workOut 109 = .ok (.iload 4, 2) := by decide +kernel
theorem dX3_workOut_111 : decode cX3_workOut 111 = .ok (.ifCond .lt 8, 3) := by decide +kernel
theorem dX3_workOut_114 : decode cX3_workOut 114 = .ok (.iload 4, 2) := by decide +kernel
theorem dX3_workOut_116 : decode cX3_workOut 116 = .ok (.goto 14, 3) := by decide +kernel
theorem dX3_workOut_119 : decode cX3_workOut 119 = .ok (.iload 5, 2) := by decide +kernel
theorem dX3_workOut_121 : decode cX3_workOut 121 = .ok (.ifCond .lt 8, 3) := by decide +kernel
theorem dX3_workOut_124 : decode cX3_workOut 124 = .ok (.iload 5, 2) := by decide +kernel
theorem dX3_workOut_126 : decode cX3_workOut 126 = .ok (.goto 4, 3) := by decide +kernel
theorem dX3_workOut_129 : decode cX3_workOut 129 = .ok (.iload_n 3, 1) := by decide +kernel
theorem dX3_workOut_130 : decode cX3_workOut 130 = .ok (.istore 6, 2) := by decide +kernel
theorem dX3_workOut_132 : decode cX3_workOut 132 = .ok (.iload 5, 2) := by decide +kernel
theorem dX3_workOut_134 : decode cX3_workOut 134 = .ok (.ifCond .lt 8, 3) := by decide +kernel
theorem dX3_workOut_137 : decode cX3_workOut 137 = .ok (.iload 5, 2) := by decide +kernel
theorem dX3_workOut_139 : decode cX3_workOut 139 = .ok (.goto 5, 3) := by decide +kernel
theorem dX3_workOut_142 : decode cX3_workOut 142 = .ok (.iload 6, 2) := by decide +kernel
theorem dX3_workOut_144 : decode cX3_workOut 144 = .ok (.istore 7, 2) := by decide +kernel
theorem dX3_workOut_146 : decode cX3_workOut 146 = .ok (.iconst 0, 1) := by decide +kernel
theorem dX3_workOut_147 : decode cX3_workOut 147 = .ok (.istore 8, 2) := by decide +kernel
theorem dX3_workOut_149 : decode cX3_workOut 149 = .ok (.iload 8, 2) := by decide +kernel
theorem dX3_workOut_151 : decode cX3_workOut 151 = .ok (.iconst 4, 1) := by decide +kernel
theorem dX3_workOut_152 : decode cX3_workOut 152 = .ok (.if_icmp .ge 57, 3) := by decide +kernel
theorem dX3_workOut_155 : decode cX3_workOut 155 = .ok (.aload_n 0, 1) := by decide +kernel
theorem dX3_workOut_156 : decode cX3_workOut 156 = .ok (.getfield 11, 3) := by decide +kernel
theorem dX3_workOut_159 : decode cX3_workOut 159 = .ok (.iload_n 1, 1) := by decide +kernel
theorem dX3_workOut_160 : decode cX3_workOut 160 = .ok (.sipush 400, 3) := by decide +kernel
theorem dX3_workOut_163 : decode cX3_workOut 163 = .ok (.imul, 1) := by decide +kernel
theorem dX3_workOut_164 : decode cX3_workOut 164 = .ok (.iconst 4, 1) := by decide +kernel
theorem dX3_workOut_165 : decode cX3_workOut 165 = .ok (.iload_n 3, 1) := by decide +kernel
theorem dX3_workOut_166 : decode cX3_workOut 166 = .ok (.imul, 1) := by decide +kernel
theorem dX3_workOut_167 : decode cX3_workOut 167 = .ok (.iadd, 1) := by decide +kernel
theorem dX3_workOut_168 : decode cX3_workOut 168 = .ok (.iload 8, 2) := by decide +kernel
theorem dX3_workOut_170 : decode cX3_workOut 170 = .ok (.iadd, 1) := by decide +kernel
theorem dX3_workOut_171 : decode cX3_workOut 171 = .ok (.iconst 1, 1) := by decide +kernel
theorem dX3_workOut_172 : decode cX3_workOut 172 = .ok (.iload_n 3, 1) := by decide +kernel
theorem dX3_workOut_173 : decode cX3_workOut 173 = .ok (.iconst 2, 1) := by decide +kernel
theorem dX3_workOut_174 : decode cX3_workOut 174 = .ok (.ishr, 1) := by decide +kernel
theorem dX3_workOut_175 : decode cX3_workOut 175 = .ok (.ishl, 1) := by decide +kernel
theorem dX3_workOut_176 : decode cX3_workOut 176 = .ok (.aload_n 0, 1) := by decide +kernel
theorem dX3_workOut_177 : decode cX3_workOut 177 = .ok (.getfield 15, 3) := by decide +kernel
theorem dX3_workOut_180 : decode cX3_workOut 180 = .ok (.iconst 4, 1) := by decide +kernel
theorem dX3_workOut_181 : decode cX3_workOut 181 = .ok (.iload 6, 2) := by decide +kernel
theorem dX3_workOut_183 : decode cX3_workOut 183 = .ok (.imul, 1) := by decide +kernel
theorem dX3_workOut_184 : decode cX3_workOut 184 = .ok (.iload 8, 2) := by decide +kernel
theorem dX3_workOut_186 : decode cX3_workOut 186 = .ok (.iadd, 1) := by decide +kernel
theorem dX3_workOut_187 : decode cX3_workOut 187 = .ok (.iaload, 1) := by decide +kernel
theorem dX3_workOut_188 : decode cX3_workOut 188 = .ok (.aload_n 0, 1) := by decide +kernel
theorem dX3_workOut_189 : decode cX3_workOut 189 = .ok (.getfield 15, 3) := by decide +kernel
theorem dX3_workOut_192 : decode cX3_workOut 192 = .ok (.iconst 4, 1) := by decide +kernel
theorem dX3_workOut_193 : decode cX3_workOut 193 = .ok (.iload 7, 2) := by decide +kernel
theorem dX3_workOut_195 : decode cX3_workOut 195 = .ok (.imul, 1) := by decide +kernel
theorem dX3_workOut_196 : decode cX3_workOut 196 = .ok (.iload 8, 2) := by decide +kernel
theorem dX3_workOut_198 : decode cX3_workOut 198 = .ok (.iadd, 1) := by decide +kernel
theorem dX3_workOut_199 : decode cX3_workOut 199 = .ok (.iaload, 1) := by decide +kernel
theorem dX3_workOut_200 : decode cX3_workOut 200 = .ok (.iand, 1) := by decide +kernel
theorem dX3_workOut_201 : decode cX3_workOut 201 = .ok (.ior, 1) := by decide +kernel
theorem dX3_workOut_202 : decode cX3_workOut 202 = .ok (.iastore, 1) := by decide +kernel
theorem dX3_workOut_203 : decode cX3_workOut 203 = .ok (.iinc 8 1, 3) := by decide +kernel
theorem dX3_workOut_206 : decode cX3_workOut 206 = .ok (.goto (-57), 3) := by decide +kernel
theorem dX3_workOut_209 : decode cX3_workOut 209 = .ok (.iinc 3 1, 3) := by decide +kernel
theorem dX3_workOut_212 : decode cX3_workOut 212 = .ok (.goto (-130), 3) := by decide +kernel
theorem dX3_workOut_215 : decode cX3_workOut 215 = .ok (.return_, 1) := by decide +kernel
theorem dX6_answer_0 : decode cX6_answer 0 = .ok (.aload_n 0, 1) := by decide +kernel
theorem dX6_answer_1 : decode cX6_answer 1 = .ok (.getfield 49, 3) := by decide +kernel
theorem dX6_answer_4 : decode cX6_answer 4 = .ok (.ifCond .ne 5, 3) := by decide +kernel
theorem dX6_answer_7 : decode cX6_answer 7 = .ok (.iconst (-1), 1) := by decide +kernel
theorem dX6_answer_8 : decode cX6_answer 8 = .ok (.ireturn, 1) := by decide +kernel
theorem dX6_answer_9 : decode cX6_answer 9 = .ok (.iload_n 1, 1) := by decide +kernel
theorem dX6_answer_10 : decode cX6_answer 10 = .ok (.bipush 10, 2) := by decide +kernel
theorem dX6_answer_12 : decode cX6_answer 12 = .ok (.if_icmp .ge 19, 3) := by decide +kernel
theorem dX6_answer_15 : decode cX6_answer 15 = .ok (.iload_n 1, 1) := by decide +kernel
theorem dX6_answer_16 : decode cX6_answer 16 = .ok (.ifCond .ne 10, 3) := by decide +kernel
theorem dX6_answer_19 : decode cX6_answer 19 = .ok (.aload_n 0, 1) := by decide +kernel
theorem dX6_answer_20 : decode cX6_answer 20 = .ok (.getfield 63, 3) := by decide +kernel
theorem dX6_answer_23 : decode cX6_answer 23 = .ok (.goto 7, 3) := by decide +kernel
theorem dX6_answer_26 : decode cX6_answer 26 = .ok (.aload_n 0, 1) := by decide +kernel
theorem dX6_answer_27 : decode cX6_answer 27 = .ok (.getfield 86, 3) := by decide +kernel
theorem dX6_answer_30 : decode cX6_answer 30 = .ok (.ireturn, 1) := by decide +kernel
theorem dX6_answer_31 : decode cX6_answer 31 = .ok (.iload_n 1, 1) := by decide +kernel
theorem dX6_answer_32 : decode cX6_answer 32 = .ok (.bipush 10, 2) := by decide +kernel
theorem dX6_answer_34 : decode cX6_answer 34 = .ok (.isub, 1) := by decide +kernel
theorem dX6_answer_35 : decode cX6_answer 35 = .ok (.istore_n 2, 1) := by decide +kernel
theorem dX6_answer_36 : decode cX6_answer 36 = .ok (.iload_n 2, 1) := by decide +kernel
theorem dX6_answer_37 : decode cX6_answer 37 = .ok (.aload_n 0, 1) := by decide +kernel
theorem dX6_answer_38 : decode cX6_answer 38 = .ok (.getfield 41, 3) := by decide +kernel
theorem dX6_answer_41 : decode cX6_answer 41 = .ok (.if_icmp .ge 17, 3) := by decide +kernel
theorem dX6_answer_44 : decode cX6_answer 44 = .ok (.aload_n 0, 1) := by decide +kernel
theorem dX6_answer_45 : decode cX6_answer 45 = .ok (.getfield 9, 3) := by decide +kernel
theorem dX6_answer_48 : decode cX6_answer 48 = .ok (.aload_n 0, 1) := by decide +kernel
theorem dX6_answer_49 : decode cX6_answer 49 = .ok (.getfield 18, 3) := by decide +kernel
theorem dX6_answer_52 : decode cX6_answer 52 = .ok (.iload_n 2, 1) := by decide +kernel
theorem dX6_answer_53 : decode cX6_answer 53 = .ok (.iaload, 1) := by decide +kernel
theorem dX6_answer_54 : decode cX6_answer 54 = .ok (.iaload, 1) := by decide +kernel
theorem dX6_answer_55 : decode cX6_answer 55 = .ok (.goto 4, 3) := by decide +kernel
theorem dX6_answer_58 : decode cX6_answer 58 = .ok (.iconst (-1), 1) := by decide +kernel
theorem dX6_answer_59 : decode cX6_answer 59 = .ok (.ireturn, 1) := by decide +kernel
theorem dX6_begin_0 : decode cX6_begin 0 = .ok (.aload_n 0, 1) := by decide +kernel
theorem dX6_begin_1 : decode cX6_begin 1 = .ok (.aload_n 1, 1) := by decide +kernel
theorem dX6_begin_2 : decode cX6_begin 2 = .ok (.getfield 29, 3) := by decide +kernel
theorem dX6_begin_5 : decode cX6_begin 5 = .ok (.iconst 4, 1) := by decide +kernel
theorem dX6_begin_6 : decode cX6_begin 6 = .ok (.invokestatic 35, 3) := by decide +kernel
theorem dX6_begin_9 : decode cX6_begin 9 = .ok (.putfield 41, 3) := by decide +kernel
theorem dX6_begin_12 : decode cX6_begin 12 = .ok (.iconst 0, 1) := by decide +kernel
theorem dX6_begin_13 : decode cX6_begin 13 = .ok (.istore_n 2, 1) := by decide +kernel
theorem dX6_begin_14 : decode cX6_begin 14 = .ok (.iload_n 2, 1) := by decide +kernel
theorem dX6_begin_15 : decode cX6_begin 15 = .ok (.aload_n 0, 1) := by decide +kernel
theorem dX6_begin_16 : decode cX6_begin 16 = .ok (.getfield 41, 3) := by decide +kernel
theorem dX6_begin_19 : decode cX6_begin 19 = .ok (.if_icmp .ge 20, 3) := by decide +kernel
theorem dX6_begin_22 : decode cX6_begin 22 = .ok (.aload_n 0, 1) := by decide +kernel
theorem dX6_begin_23 : decode cX6_begin 23 = .ok (.getfield 9, 3) := by decide +kernel
theorem dX6_begin_26 : decode cX6_begin 26 = .ok (.iload_n 2, 1) := by decide +kernel
theorem dX6_begin_27 : decode cX6_begin 27 = .ok (.aload_n 1, 1) := by decide +kernel
theorem dX6_begin_28 : decode cX6_begin 28 = .ok (.iload_n 2, 1) := by decide +kernel
theorem dX6_begin_29 : decode cX6_begin 29 = .ok (.invokevirtual 42, 3) := by decide +kernel
theorem dX6_begin_32 : decode cX6_begin 32 = .ok (.iastore, 1) := by decide +kernel
theorem dX6_begin_33 : decode cX6_begin 33 = .ok (.iinc 2 1, 3) := by decide +kernel
theorem dX6_begin_36 : decode cX6_begin 36 = .ok (.goto (-22), 3) := by decide +kernel
theorem dX6_begin_39 : decode cX6_begin 39 = .ok (.aload_n 0, 1) := by decide +kernel
theorem dX6_begin_40 : decode cX6_begin 40 = .ok (.iconst 0, 1) := by decide +kernel
theorem dX6_begin_41 : decode cX6_begin 41 = .ok (.putfield 46, 3) := by decide +kernel
theorem dX6_begin_44 : decode cX6_begin 44 = .ok (.aload_n 0, 1) := by decide +kernel
theorem dX6_begin_45 : decode cX6_begin 45 = .ok (.iconst 0, 1) := by decide +kernel
theorem dX6_begin_46 : decode cX6_begin 46 = .ok (.putfield 49, 3) := by decide +kernel
theorem dX6_begin_49 : decode cX6_begin 49 = .ok (.return_, 1) := by decide +kernel
theorem dX6_compare_0 : decode cX6_compare 0 = .ok (.aload_n 0, 1) := by decide +kernel
theorem dX6_compare_1 : decode cX6_compare 1 = .ok (.getfield 49, 3) := by decide +kernel
theorem dX6_compare_4 : decode cX6_compare 4 = .ok (.ifCond .eq 28, 3) := by decide +kernel
theorem dX6_compare_7 : decode cX6_compare 7 = .ok (.iload_n 1, 1) := by decide +kernel
theorem dX6_compare_8 : decode cX6_compare 8 = .ok (.aload_n 0, 1) := by decide +kernel
theorem dX6_compare_9 : decode cX6_compare 9 = .ok (.getfield 63, 3) := by decide +kernel
theorem dX6_compare_12 : decode cX6_compare 12 = .ok (.if_icmp .gt 19, 3) := by decide +kernel
theorem dX6_compare_15 : decode cX6_compare 15 = .ok (.iload_n 1, 1) := by decide +kernel
theorem dX6_compare_16 : decode cX6_compare 16 = .ok (.aload_n 0, 1) := by decide +kernel
theorem dX6_compare_17 : decode cX6_compare 17 = .ok (.getfield 63, 3) := by decide +kernel
theorem dX6_compare_20 : decode cX6_compare 20 = .ok (.if_icmp .ne 12, 3) := by decide +kernel
theorem dX6_compare_23 : decode cX6_compare 23 = .ok (.iload_n 2, 1) := by decide +kernel
theorem dX6_compare_24 : decode cX6_compare 24 = .ok (.aload_n 0, 1) := by decide +kernel
theorem dX6_compare_25 : decode cX6_compare 25 = .ok (.getfield 86, 3) := by decide +kernel
theorem dX6_compare_28 : decode cX6_compare 28 = .ok (.if_icmp .lt 4, 3) := by decide +kernel
theorem dX6_compare_31 : decode cX6_compare 31 = .ok (.return_, 1) := by decide +kernel
theorem dX6_compare_32 : decode cX6_compare 32 = .ok (.aload_n 0, 1) := by decide +kernel
theorem dX6_compare_33 : decode cX6_compare 33 = .ok (.iconst 1, 1) := by decide +kernel
theorem dX6_compare_34 : decode cX6_compare 34 = .ok (.putfield 49, 3) := by decide +kernel
theorem dX6_compare_37 : decode cX6_compare 37 = .ok (.aload_n 0, 1) := by decide +kernel
theorem dX6_compare_38 : decode cX6_compare 38 = .ok (.iload_n 1, 1) := by decide +kernel
theorem dX6_compare_39 : decode cX6_compare 39 = .ok (.putfield 63, 3) := by decide +kernel
theorem dX6_compare_42 : decode cX6_compare 42 = .ok (.aload_n 0, 1) := by decide +kernel
theorem dX6_compare_43 : decode cX6_compare 43 = .ok (.iload_n 2, 1) := by decide +kernel
theorem dX6_compare_44 : decode cX6_compare 44 = .ok (.putfield 86, 3) := by decide +kernel
theorem dX6_compare_47 : decode cX6_compare 47 = .ok (.aload_n 0, 1) := by decide +kernel
theorem dX6_compare_48 : decode cX6_compare 48 = .ok (.getfield 15, 3) := by decide +kernel
theorem dX6_compare_51 : decode cX6_compare 51 = .ok (.iconst 0, 1) := by decide +kernel
theorem dX6_compare_52 : decode cX6_compare 52 = .ok (.aload_n 0, 1) := by decide +kernel
theorem dX6_compare_53 : decode cX6_compare 53 = .ok (.getfield 18, 3) := by decide +kernel
theorem dX6_compare_56 : decode cX6_compare 56 = .ok (.iconst 0, 1) := by decide +kernel
theorem dX6_compare_57 : decode cX6_compare 57 = .ok (.aload_n 0, 1) := by decide +kernel
theorem dX6_compare_58 : decode cX6_compare 58 = .ok (.getfield 41, 3) := by decide +kernel
theorem dX6_compare_61 : decode cX6_compare 61 = .ok (.invokestatic 89, 3) := by decide +kernel
theorem dX6_compare_64 : decode cX6_compare 64 = .ok (.return_, 1) := by decide +kernel
theorem dX6_tour_0 : decode cX6_tour 0 = .ok (.iload_n 1, 1) := by decide +kernel
theorem dX6_tour_1 : decode cX6_tour 1 = .ok (.aload_n 0, 1) := by decide +kernel
theorem dX6_tour_2 : decode cX6_tour 2 = .ok (.getfield 41, 3) := by decide +kernel
theorem dX6_tour_5 : decode cX6_tour 5 = .ok (.if_icmp .lt 11, 3) := by decide +kernel
theorem dX6_tour_8 : decode cX6_tour 8 = .ok (.aload_n 0, 1) := by decide +kernel
theorem dX6_tour_9 : decode cX6_tour 9 = .ok (.iload_n 3, 1) := by decide +kernel
theorem dX6_tour_10 : decode cX6_tour 10 = .ok (.iload 4, 2) := by decide +kernel
theorem dX6_tour_12 : decode cX6_tour 12 = .ok (.invokevirtual 53, 3) := by decide +kernel
theorem dX6_tour_15 : decode cX6_tour 15 = .ok (.return_, 1) := by decide +kernel
theorem dX6_tour_16 : decode cX6_tour 16 = .ok (.iconst 0, 1) := by decide +kernel
theorem dX6_tour_17 : decode cX6_tour 17 = .ok (.istore 5, 2) := by decide +kernel
theorem dX6_tour_19 : decode cX6_tour 19 = .ok (.iload 5, 2) := by decide +kernel
theorem dX6_tour_21 : decode cX6_tour 21 = .ok (.aload_n 0, 1) := by decide +kernel
theorem dX6_tour_22 : decode cX6_tour 22 = .ok (.getfield 41, 3) := by decide +kernel
theorem dX6_tour_25 : decode cX6_tour 25 = .ok (.if_icmp .ge 162, 3) := by decide +kernel
theorem dX6_tour_28 : decode cX6_tour 28 = .ok (.aload_n 0, 1) := by decide +kernel
theorem dX6_tour_29 : decode cX6_tour 29 = .ok (.getfield 46, 3) := by decide +kernel
theorem dX6_tour_32 : decode cX6_tour 32 = .ok (.iload 5, 2) := by decide +kernel
theorem dX6_tour_34 : decode cX6_tour 34 = .ok (.ishr, 1) := by decide +kernel
theorem dX6_tour_35 : decode cX6_tour 35 = .ok (.iconst 1, 1) := by decide +kernel
theorem dX6_tour_36 : decode cX6_tour 36 = .ok (.iand, 1) := by decide +kernel
theorem dX6_tour_37 : decode cX6_tour 37 = .ok (.ifCond .eq 6, 3) := by decide +kernel
theorem dX6_tour_40 : decode cX6_tour 40 = .ok (.goto 141, 3) := by decide +kernel
theorem dX6_tour_43 : decode cX6_tour 43 = .ok (.aload_n 0, 1) := by decide +kernel
theorem dX6_tour_44 : decode cX6_tour 44 = .ok (.getfield 21, 3) := by decide +kernel
theorem dX6_tour_47 : decode cX6_tour 47 = .ok (.iload_n 2, 1) := by decide +kernel
theorem dX6_tour_48 : decode cX6_tour 48 = .ok (.iload 4, 2) := by decide +kernel
theorem dX6_tour_50 : decode cX6_tour 50 = .ok (.aload_n 0, 1) := by decide +kernel
theorem dX6_tour_51 : decode cX6_tour 51 = .ok (.getfield 9, 3) := by decide +kernel
theorem dX6_tour_54 : decode cX6_tour 54 = .ok (.iload 5, 2) := by decide +kernel
theorem dX6_tour_56 : decode cX6_tour 56 = .ok (.iaload, 1) := by decide +kernel
theorem dX6_tour_57 : decode cX6_tour 57 = .ok (.bipush 60, 2) := by decide +kernel
theorem dX6_tour_59 : decode cX6_tour 59 = .ok (.iconst 0, 1) := by decide +kernel
theorem dX6_tour_60 : decode cX6_tour 60 = .ok (.invokevirtual 57, 3) := by decide +kernel
theorem dX6_tour_63 : decode cX6_tour 63 = .ok (.istore 6, 2) := by decide +kernel
theorem dX6_tour_65 : decode cX6_tour 65 = .ok (.iload 6, 2) := by decide +kernel
theorem dX6_tour_67 : decode cX6_tour 67 = .ok (.ifCond .lt 114, 3) := by decide +kernel
theorem dX6_tour_70 : decode cX6_tour 70 = .ok (.aload_n 0, 1) := by decide +kernel
theorem dX6_tour_71 : decode cX6_tour 71 = .ok (.getfield 49, 3) := by decide +kernel
theorem dX6_tour_74 : decode cX6_tour 74 = .ok (.ifCond .eq 17, 3) := by decide +kernel
theorem dX6_tour_77 : decode cX6_tour 77 = .ok (.iload_n 3, 1) := by decide +kernel
theorem dX6_tour_78 : decode cX6_tour 78 = .ok (.iload 6, 2) := by decide +kernel
theorem dX6_tour_80 : decode cX6_tour 80 = .ok (.iadd, 1) := by decide +kernel
theorem dX6_tour_81 : decode cX6_tour 81 = .ok (.aload_n 0, 1) := by decide +kernel
theorem dX6_tour_82 : decode cX6_tour 82 = .ok (.getfield 63, 3) := by decide +kernel
theorem dX6_tour_85 : decode cX6_tour 85 = .ok (.if_icmp .le 6, 3) := by decide +kernel
theorem dX6_tour_88 : decode cX6_tour 88 = .ok (.goto 93, 3) := by decide +kernel
theorem dX6_tour_91 : decode cX6_tour 91 = .ok (.aload_n 0, 1) := by decide +kernel
theorem dX6_tour_92 : decode cX6_tour 92 = .ok (.getfield 25, 3) := by decide +kernel
theorem dX6_tour_95 : decode cX6_tour 95 = .ok (.iload_n 2, 1) := by decide +kernel
theorem dX6_tour_96 : decode cX6_tour 96 = .ok (.iload 4, 2) := by decide +kernel
theorem dX6_tour_98 : decode cX6_tour 98 = .ok (.aload_n 0, 1) := by decide +kernel
theorem dX6_tour_99 : decode cX6_tour 99 = .ok (.getfield 9, 3) := by decide +kernel
theorem dX6_tour_102 : decode cX6_tour 102 = .ok (.iload 5, 2) := by decide +kernel
theorem dX6_tour_104 : decode cX6_tour 104 = .ok (.iaload, 1) := by decide +kernel
theorem dX6_tour_105 : decode cX6_tour 105 = .ok (.iload 6, 2) := by decide +kernel
theorem dX6_tour_107 : decode cX6_tour 107 = .ok (.aload_n 0, 1) := by decide +kernel
theorem dX6_tour_108 : decode cX6_tour 108 = .ok (.getfield 21, 3) := by decide +kernel
theorem dX6_tour_111 : decode cX6_tour 111 = .ok (.invokevirtual 66, 3) := by decide +kernel
theorem dX6_tour_114 : decode cX6_tour 114 = .ok (.invokevirtual 70, 3) := by decide +kernel
theorem dX6_tour_117 : decode cX6_tour 117 = .ok (.aload_n 0, 1) := by decide +kernel
theorem dX6_tour_118 : decode cX6_tour 118 = .ok (.getfield 15, 3) := by decide +kernel
theorem dX6_tour_121 : decode cX6_tour 121 = .ok (.iload_n 1, 1) := by decide +kernel
theorem dX6_tour_122 : decode cX6_tour 122 = .ok (.iload 5, 2) := by decide +kernel
theorem dX6_tour_124 : decode cX6_tour 124 = .ok (.iastore, 1) := by decide +kernel
theorem dX6_tour_125 : decode cX6_tour 125 = .ok (.aload_n 0, 1) := by decide +kernel
theorem dX6_tour_126 : decode cX6_tour 126 = .ok (.dup, 1) := by decide +kernel
theorem dX6_tour_127 : decode cX6_tour 127 = .ok (.getfield 46, 3) := by decide +kernel
theorem dX6_tour_130 : decode cX6_tour 130 = .ok (.iconst 1, 1) := by decide +kernel
theorem dX6_tour_131 : decode cX6_tour 131 = .ok (.iload 5, 2) := by decide +kernel
theorem dX6_tour_133 : decode cX6_tour 133 = .ok (.ishl, 1) := by decide +kernel
theorem dX6_tour_134 : decode cX6_tour 134 = .ok (.ior, 1) := by decide +kernel
theorem dX6_tour_135 : decode cX6_tour 135 = .ok (.putfield 46, 3) := by decide +kernel
theorem dX6_tour_138 : decode cX6_tour 138 = .ok (.aload_n 0, 1) := by decide +kernel
theorem dX6_tour_139 : decode cX6_tour 139 = .ok (.iload_n 1, 1) := by decide +kernel
theorem dX6_tour_140 : decode cX6_tour 140 = .ok (.iconst 1, 1) := by decide +kernel
theorem dX6_tour_141 : decode cX6_tour 141 = .ok (.iadd, 1) := by decide +kernel
theorem dX6_tour_142 : decode cX6_tour 142 = .ok (.aload_n 0, 1) := by decide +kernel
theorem dX6_tour_143 : decode cX6_tour 143 = .ok (.getfield 25, 3) := by decide +kernel
theorem dX6_tour_146 : decode cX6_tour 146 = .ok (.invokevirtual 76, 3) := by decide +kernel
theorem dX6_tour_149 : decode cX6_tour 149 = .ok (.iload_n 3, 1) := by decide +kernel
theorem dX6_tour_150 : decode cX6_tour 150 = .ok (.iload 6, 2) := by decide +kernel
theorem dX6_tour_152 : decode cX6_tour 152 = .ok (.iadd, 1) := by decide +kernel
theorem dX6_tour_153 : decode cX6_tour 153 = .ok (.iload 4, 2) := by decide +kernel
theorem dX6_tour_155 : decode cX6_tour 155 = .ok (.aload_n 0, 1) := by decide +kernel
theorem dX6_tour_156 : decode cX6_tour 156 = .ok (.getfield 25, 3) := by decide +kernel
theorem dX6_tour_159 : decode cX6_tour 159 = .ok (.invokevirtual 79, 3) := by decide +kernel
theorem dX6_tour_162 : decode cX6_tour 162 = .ok (.iadd, 1) := by decide +kernel
theorem dX6_tour_163 : decode cX6_tour 163 = .ok (.invokevirtual 82, 3) := by decide +kernel
theorem dX6_tour_166 : decode cX6_tour 166 = .ok (.aload_n 0, 1) := by decide +kernel
theorem dX6_tour_167 : decode cX6_tour 167 = .ok (.dup, 1) := by decide +kernel
theorem dX6_tour_168 : decode cX6_tour 168 = .ok (.getfield 46, 3) := by decide +kernel
theorem dX6_tour_171 : decode cX6_tour 171 = .ok (.iconst 1, 1) := by decide +kernel
theorem dX6_tour_172 : decode cX6_tour 172 = .ok (.iload 5, 2) := by decide +kernel
theorem dX6_tour_174 : decode cX6_tour 174 = .ok (.ishl, 1) := by decide +kernel
theorem dX6_tour_175 : decode cX6_tour 175 = .ok (.iconst (-1), 1) := by decide +kernel
theorem dX6_tour_176 : decode cX6_tour 176 = .ok (.ixor, 1) := by decide +kernel
theorem dX6_tour_177 : decode cX6_tour 177 = .ok (.iand, 1) := by decide +kernel
theorem dX6_tour_178 : decode cX6_tour 178 = .ok (.putfield 46, 3) := by decide +kernel
theorem dX6_tour_181 : decode cX6_tour 181 = .ok (.iinc 5 1, 3) := by decide +kernel
theorem dX6_tour_184 : decode cX6_tour 184 = .ok (.goto (-165), 3) := by decide +kernel
theorem dX6_tour_187 : decode cX6_tour 187 = .ok (.return_, 1) := by decide +kernel
theorem dX7_comeFrom_0 : decode cX7_comeFrom 0 = .ok (.aload_n 0, 1) := by decide +kernel
theorem dX7_comeFrom_1 : decode cX7_comeFrom 1 = .ok (.getfield 9, 3) := by decide +kernel
theorem dX7_comeFrom_4 : decode cX7_comeFrom 4 = .ok (.iload 4, 2) := by decide +kernel
theorem dX7_comeFrom_6 : decode cX7_comeFrom 6 = .ok (.iload_n 3, 1) := by decide +kernel
theorem dX7_comeFrom_7 : decode cX7_comeFrom 7 = .ok (.iadd, 1) := by decide +kernel
theorem dX7_comeFrom_8 : decode cX7_comeFrom 8 = .ok (.dup2, 1) := by decide +kernel
theorem dX7_comeFrom_9 : decode cX7_comeFrom 9 = .ok (.iaload, 1) := by decide +kernel
theorem dX7_comeFrom_10 : decode cX7_comeFrom 10 = .ok (.iload_n 2, 1) := by decide +kernel
theorem dX7_comeFrom_11 : decode cX7_comeFrom 11 = .ok (.ior, 1) := by decide +kernel
theorem dX7_comeFrom_12 : decode cX7_comeFrom 12 = .ok (.iastore, 1) := by decide +kernel
theorem dX7_comeFrom_13 : decode cX7_comeFrom 13 = .ok (.aload_n 0, 1) := by decide +kernel
theorem dX7_comeFrom_14 : decode cX7_comeFrom 14 = .ok (.getfield 9, 3) := by decide +kernel
theorem dX7_comeFrom_17 : decode cX7_comeFrom 17 = .ok (.iload 4, 2) := by decide +kernel
theorem dX7_comeFrom_19 : decode cX7_comeFrom 19 = .ok (.iload_n 3, 1) := by decide +kernel
theorem dX7_comeFrom_20 : decode cX7_comeFrom 20 = .ok (.iconst 3, 1) := by decide +kernel
theorem dX7_comeFrom_21 : decode cX7_comeFrom 21 = .ok (.iadd, 1) := by decide +kernel
theorem dX7_comeFrom_22 : decode cX7_comeFrom 22 = .ok (.iconst 3, 1) := by decide +kernel
theorem dX7_comeFrom_23 : decode cX7_comeFrom 23 = .ok (.iand, 1) := by decide +kernel
theorem dX7_comeFrom_24 : decode cX7_comeFrom 24 = .ok (.iadd, 1) := by decide +kernel
theorem dX7_comeFrom_25 : decode cX7_comeFrom 25 = .ok (.dup2, 1) := by decide +kernel
theorem dX7_comeFrom_26 : decode cX7_comeFrom 26 = .ok (.iaload, 1) := by decide +kernel
theorem dX7_comeFrom_27 : decode cX7_comeFrom 27 = .ok (.iload_n 2, 1) := by decide +kernel
theorem dX7_comeFrom_28 : decode cX7_comeFrom 28 = .ok (.ior, 1) := by decide +kernel
theorem dX7_comeFrom_29 : decode cX7_comeFrom 29 = .ok (.iastore, 1) := by decide +kernel
theorem dX7_comeFrom_30 : decode cX7_comeFrom 30 = .ok (.aload_n 0, 1) := by decide +kernel
theorem dX7_comeFrom_31 : decode cX7_comeFrom 31 = .ok (.getfield 22, 3) := by decide +kernel
theorem dX7_comeFrom_34 : decode cX7_comeFrom 34 = .ok (.iload_n 1, 1) := by decide +kernel
theorem dX7_comeFrom_35 : decode cX7_comeFrom 35 = .ok (.invokevirtual 68, 3) := by decide +kernel
theorem dX7_comeFrom_38 : decode cX7_comeFrom 38 = .ok (.istore 5, 2) := by decide +kernel
theorem dX7_comeFrom_40 : decode cX7_comeFrom 40 = .ok (.aload_n 0, 1) := by decide +kernel
theorem dX7_comeFrom_41 : decode cX7_comeFrom 41 = .ok (.getfield 22, 3) := by decide +kernel
theorem dX7_comeFrom_44 : decode cX7_comeFrom 44 = .ok (.iload_n 1, 1) := by decide +kernel
theorem dX7_comeFrom_45 : decode cX7_comeFrom 45 = .ok (.iload_n 3, 1) := by decide +kernel
theorem dX7_comeFrom_46 : decode cX7_comeFrom 46 = .ok (.iload_n 2, 1) := by decide +kernel
theorem dX7_comeFrom_47 : decode cX7_comeFrom 47 = .ok (.invokevirtual 74, 3) := by decide +kernel
theorem dX7_comeFrom_50 : decode cX7_comeFrom 50 = .ok (.istore 6, 2) := by decide +kernel
theorem dX7_comeFrom_52 : decode cX7_comeFrom 52 = .ok (.aload_n 0, 1) := by decide +kernel
theorem dX7_comeFrom_53 : decode cX7_comeFrom 53 = .ok (.getfield 9, 3) := by decide +kernel
theorem dX7_comeFrom_56 : decode cX7_comeFrom 56 = .ok (.iload 4, 2) := by decide +kernel
theorem dX7_comeFrom_58 : decode cX7_comeFrom 58 = .ok (.iload_n 3, 1) := by decide +kernel
theorem dX7_comeFrom_59 : decode cX7_comeFrom 59 = .ok (.iconst 1, 1) := by decide +kernel
theorem dX7_comeFrom_60 : decode cX7_comeFrom 60 = .ok (.iadd, 1) := by decide +kernel
theorem dX7_comeFrom_61 : decode cX7_comeFrom 61 = .ok (.iconst 3, 1) := by decide +kernel
theorem dX7_comeFrom_62 : decode cX7_comeFrom 62 = .ok (.iand, 1) := by decide +kernel
theorem dX7_comeFrom_63 : decode cX7_comeFrom 63 = .ok (.iadd, 1) := by decide +kernel
theorem dX7_comeFrom_64 : decode cX7_comeFrom 64 = .ok (.dup2, 1) := by decide +kernel
theorem dX7_comeFrom_65 : decode cX7_comeFrom 65 = .ok (.iaload, 1) := by decide +kernel
theorem dX7_comeFrom_66 : decode cX7_comeFrom 66 = .ok (.iload 6, 2) := by decide +kernel
theorem dX7_comeFrom_68 : decode cX7_comeFrom 68 = .ok (.iload 5, 2) := by decide +kernel
theorem dX7_comeFrom_70 : decode cX7_comeFrom 70 = .ok (.iand, 1) := by decide +kernel
theorem dX7_comeFrom_71 : decode cX7_comeFrom 71 = .ok (.ior, 1) := by decide +kernel
theorem dX7_comeFrom_72 : decode cX7_comeFrom 72 = .ok (.iastore, 1) := by decide +kernel
theorem dX7_comeFrom_73 : decode cX7_comeFrom 73 = .ok (.aload_n 0, 1) := by decide +kernel
theorem dX7_comeFrom_74 : decode cX7_comeFrom 74 = .ok (.getfield 9, 3) := by decide +kernel
theorem dX7_comeFrom_77 : decode cX7_comeFrom 77 = .ok (.iload 4, 2) := by decide +kernel
theorem dX7_comeFrom_79 : decode cX7_comeFrom 79 = .ok (.iload_n 3, 1) := by decide +kernel
theorem dX7_comeFrom_80 : decode cX7_comeFrom 80 = .ok (.iconst 2, 1) := by decide +kernel
theorem dX7_comeFrom_81 : decode cX7_comeFrom 81 = .ok (.iadd, 1) := by decide +kernel
theorem dX7_comeFrom_82 : decode cX7_comeFrom 82 = .ok (.iconst 3, 1) := by decide +kernel
theorem dX7_comeFrom_83 : decode cX7_comeFrom 83 = .ok (.iand, 1) := by decide +kernel
theorem dX7_comeFrom_84 : decode cX7_comeFrom 84 = .ok (.iadd, 1) := by decide +kernel
theorem dX7_comeFrom_85 : decode cX7_comeFrom 85 = .ok (.dup2, 1) := by decide +kernel
theorem dX7_comeFrom_86 : decode cX7_comeFrom 86 = .ok (.iaload, 1) := by decide +kernel
theorem dX7_comeFrom_87 : decode cX7_comeFrom 87 = .ok (.iload 6, 2) := by decide +kernel
theorem dX7_comeFrom_89 : decode cX7_comeFrom 89 = .ok (.iload 5, 2) := by decide +kernel
theorem dX7_comeFrom_91 : decode cX7_comeFrom 91 = .ok (.iand, 1) := by decide +kernel
theorem dX7_comeFrom_92 : decode cX7_comeFrom 92 = .ok (.ior, 1) := by decide +kernel
theorem dX7_comeFrom_93 : decode cX7_comeFrom 93 = .ok (.iastore, 1) := by decide +kernel
theorem dX7_comeFrom_94 : decode cX7_comeFrom 94 = .ok (.aload_n 0, 1) := by decide +kernel
theorem dX7_comeFrom_95 : decode cX7_comeFrom 95 = .ok (.getfield 9, 3) := by decide +kernel
theorem dX7_comeFrom_98 : decode cX7_comeFrom 98 = .ok (.iload 4, 2) := by decide +kernel
theorem dX7_comeFrom_100 : decode cX7_comeFrom 100 = .ok (.iconst 4, 1) := by decide +kernel
theorem dX7_comeFrom_101 : decode cX7_comeFrom 101 = .ok (.iadd, 1) := by decide +kernel
theorem dX7_comeFrom_102 : decode cX7_comeFrom 102 = .ok (.iload_n 3, 1) := by decide +kernel
theorem dX7_comeFrom_103 : decode cX7_comeFrom 103 = .ok (.iconst 1, 1) := by decide +kernel
theorem dX7_comeFrom_104 : decode cX7_comeFrom 104 = .ok (.iadd, 1) := by decide +kernel
theorem dX7_comeFrom_105 : decode cX7_comeFrom 105 = .ok (.iconst 3, 1) := by decide +kernel
theorem dX7_comeFrom_106 : decode cX7_comeFrom 106 = .ok (.iand, 1) := by decide +kernel
theorem dX7_comeFrom_107 : decode cX7_comeFrom 107 = .ok (.iadd, 1) := by decide +kernel
theorem dX7_comeFrom_108 : decode cX7_comeFrom 108 = .ok (.dup2, 1) := by decide +kernel
theorem dX7_comeFrom_109 : decode cX7_comeFrom 109 = .ok (.iaload, 1) := by decide +kernel
theorem dX7_comeFrom_110 : decode cX7_comeFrom 110 = .ok (.iload 6, 2) := by decide +kernel
theorem dX7_comeFrom_112 : decode cX7_comeFrom 112 = .ok (.iload 5, 2) := by decide +kernel
theorem dX7_comeFrom_114 : decode cX7_comeFrom 114 = .ok (.iconst (-1), 1) := by decide +kernel
theorem dX7_comeFrom_115 : decode cX7_comeFrom 115 = .ok (.ixor, 1) := by decide +kernel
theorem dX7_comeFrom_116 : decode cX7_comeFrom 116 = .ok (.iand, 1) := by decide +kernel
theorem dX7_comeFrom_117 : decode cX7_comeFrom 117 = .ok (.ior, 1) := by decide +kernel
theorem dX7_comeFrom_118 : decode cX7_comeFrom 118 = .ok (.iastore, 1) := by decide +kernel
theorem dX7_comeFrom_119 : decode cX7_comeFrom 119 = .ok (.aload_n 0, 1) := by decide +kernel
theorem dX7_comeFrom_120 : decode cX7_comeFrom 120 = .ok (.getfield 9, 3) := by decide +kernel
theorem dX7_comeFrom_123 : decode cX7_comeFrom 123 = .ok (.iload 4, 2) := by decide +kernel
theorem dX7_comeFrom_125 : decode cX7_comeFrom 125 = .ok (.bipush 8, 2) := by decide +kernel
theorem dX7_comeFrom_127 : decode cX7_comeFrom 127 = .ok (.iadd, 1) := by decide +kernel
theorem dX7_comeFrom_128 : decode cX7_comeFrom 128 = .ok (.iload_n 3, 1) := by decide +kernel
theorem dX7_comeFrom_129 : decode cX7_comeFrom 129 = .ok (.iconst 2, 1) := by decide +kernel
theorem dX7_comeFrom_130 : decode cX7_comeFrom 130 = .ok (.iadd, 1) := by decide +kernel
theorem dX7_comeFrom_131 : decode cX7_comeFrom 131 = .ok (.iconst 3, 1) := by decide +kernel
theorem dX7_comeFrom_132 : decode cX7_comeFrom 132 = .ok (.iand, 1) := by decide +kernel
theorem dX7_comeFrom_133 : decode cX7_comeFrom 133 = .ok (.iadd, 1) := by decide +kernel
theorem dX7_comeFrom_134 : decode cX7_comeFrom 134 = .ok (.dup2, 1) := by decide +kernel
theorem dX7_comeFrom_135 : decode cX7_comeFrom 135 = .ok (.iaload, 1) := by decide +kernel
theorem dX7_comeFrom_136 : decode cX7_comeFrom 136 = .ok (.iload 6, 2) := by decide +kernel
theorem dX7_comeFrom_138 : decode cX7_comeFrom 138 = .ok (.iload 5, 2) := by decide +kernel
theorem dX7_comeFrom_140 : decode cX7_comeFrom 140 = .ok (.iconst (-1), 1) := by decide +kernel
theorem dX7_comeFrom_141 : decode cX7_comeFrom 141 = .ok (.ixor, 1) := by decide +kernel
theorem dX7_comeFrom_142 : decode cX7_comeFrom 142 = .ok (.iand, 1) := by decide +kernel
theorem dX7_comeFrom_143 : decode cX7_comeFrom 143 = .ok (.ior, 1) := by decide +kernel
theorem dX7_comeFrom_144 : decode cX7_comeFrom 144 = .ok (.iastore, 1) := by decide +kernel
theorem dX7_comeFrom_145 : decode cX7_comeFrom 145 = .ok (.return_, 1) := by decide +kernel
theorem dX7_comes_0 : decode cX7_comes 0 = .ok (.iconst 0, 1) := by decide +kernel
theorem dX7_comes_1 : decode cX7_comes 1 = .ok (.istore 4, 2) := by decide +kernel
theorem dX7_comes_3 : decode cX7_comes 3 = .ok (.iload 4, 2) := by decide +kernel
theorem dX7_comes_5 : decode cX7_comes 5 = .ok (.iconst 2, 1) := by decide +kernel
theorem dX7_comes_6 : decode cX7_comes 6 = .ok (.iload_n 1, 1) := by decide +kernel
theorem dX7_comes_7 : decode cX7_comes 7 = .ok (.imul, 1) := by decide +kernel
theorem dX7_comes_8 : decode cX7_comes 8 = .ok (.if_icmp .gt 43, 3) := by decide +kernel
theorem dX7_comes_11 : decode cX7_comes 11 = .ok (.iload 4, 2) := by decide +kernel
theorem dX7_comes_13 : decode cX7_comes 13 = .ok (.iload_n 3, 1) := by decide +kernel
theorem dX7_comes_14 : decode cX7_comes 14 = .ok (.if_icmp .gt 37, 3) := by decide +kernel
theorem dX7_comes_17 : decode cX7_comes 17 = .ok (.aload_n 0, 1) := by decide +kernel
theorem dX7_comes_18 : decode cX7_comes 18 = .ok (.getfield 9, 3) := by decide +kernel
theorem dX7_comes_21 : decode cX7_comes 21 = .ok (.iconst 4, 1) := by decide +kernel
theorem dX7_comes_22 : decode cX7_comes 22 = .ok (.iload_n 1, 1) := by decide +kernel
theorem dX7_comes_23 : decode cX7_comes 23 = .ok (.iload_n 1, 1) := by decide +kernel
theorem dX7_comes_24 : decode cX7_comes 24 = .ok (.imul, 1) := by decide +kernel
theorem dX7_comes_25 : decode cX7_comes 25 = .ok (.iload 4, 2) := by decide +kernel
theorem dX7_comes_27 : decode cX7_comes 27 = .ok (.iadd, 1) := by decide +kernel
theorem dX7_comes_28 : decode cX7_comes 28 = .ok (.imul, 1) := by decide +kernel
theorem dX7_comes_29 : decode cX7_comes 29 = .ok (.iload_n 2, 1) := by decide +kernel
theorem dX7_comes_30 : decode cX7_comes 30 = .ok (.iconst 3, 1) := by decide +kernel
theorem dX7_comes_31 : decode cX7_comes 31 = .ok (.iand, 1) := by decide +kernel
theorem dX7_comes_32 : decode cX7_comes 32 = .ok (.iadd, 1) := by decide +kernel
theorem dX7_comes_33 : decode cX7_comes 33 = .ok (.iaload, 1) := by decide +kernel
theorem dX7_comes_34 : decode cX7_comes 34 = .ok (.iload_n 2, 1) := by decide +kernel
theorem dX7_comes_35 : decode cX7_comes 35 = .ok (.iconst 2, 1) := by decide +kernel
theorem dX7_comes_36 : decode cX7_comes 36 = .ok (.ishr, 1) := by decide +kernel
theorem dX7_comes_37 : decode cX7_comes 37 = .ok (.ishr, 1) := by decide +kernel
theorem dX7_comes_38 : decode cX7_comes 38 = .ok (.iconst 1, 1) := by decide +kernel
theorem dX7_comes_39 : decode cX7_comes 39 = .ok (.iand, 1) := by decide +kernel
theorem dX7_comes_40 : decode cX7_comes 40 = .ok (.ifCond .eq 5, 3) := by decide +kernel
theorem dX7_comes_43 : decode cX7_comes 43 = .ok (.iconst 1, 1) := by decide +kernel
theorem dX7_comes_44 : decode cX7_comes 44 = .ok (.ireturn, 1) := by decide +kernel
theorem dX7_comes_45 : decode cX7_comes 45 = .ok (.iinc 4 1, 3) := by decide +kernel
theorem dX7_comes_48 : decode cX7_comes 48 = .ok (.goto (-45), 3) := by decide +kernel
theorem dX7_comes_51 : decode cX7_comes 51 = .ok (.iconst 0, 1) := by decide +kernel
theorem dX7_comes_52 : decode cX7_comes 52 = .ok (.ireturn, 1) := by decide +kernel
theorem dX7_follow_0 : decode cX7_follow 0 = .ok (.iload_n 3, 1) := by decide +kernel
theorem dX7_follow_1 : decode cX7_follow 1 = .ok (.istore 4, 2) := by decide +kernel
theorem dX7_follow_3 : decode cX7_follow 3 = .ok (.aload_n 0, 1) := by decide +kernel
theorem dX7_follow_4 : decode cX7_follow 4 = .ok (.iload_n 1, 1) := by decide +kernel
theorem dX7_follow_5 : decode cX7_follow 5 = .ok (.putfield 34, 3) := by decide +kernel
theorem dX7_follow_8 : decode cX7_follow 8 = .ok (.iconst 0, 1) := by decide +kernel
theorem dX7_follow_9 : decode cX7_follow 9 = .ok (.istore 5, 2) := by decide +kernel
theorem dX7_follow_11 : decode cX7_follow 11 = .ok (.iload 5, 2) := by decide +kernel
theorem dX7_follow_13 : decode cX7_follow 13 = .ok (.aload_n 0, 1) := by decide +kernel
theorem dX7_follow_14 : decode cX7_follow 14 = .ok (.getfield 30, 3) := by decide +kernel
theorem dX7_follow_17 : decode cX7_follow 17 = .ok (.if_icmp .ge 120, 3) := by decide +kernel
theorem dX7_follow_20 : decode cX7_follow 20 = .ok (.iconst 0, 1) := by decide +kernel
theorem dX7_follow_21 : decode cX7_follow 21 = .ok (.istore 6, 2) := by decide +kernel
theorem dX7_follow_23 : decode cX7_follow 23 = .ok (.iload 6, 2) := by decide +kernel
theorem dX7_follow_25 : decode cX7_follow 25 = .ok (.iconst 4, 1) := by decide +kernel
theorem dX7_follow_26 : decode cX7_follow 26 = .ok (.if_icmp .ge 105, 3) := by decide +kernel
theorem dX7_follow_29 : decode cX7_follow 29 = .ok (.aload_n 0, 1) := by decide +kernel
theorem dX7_follow_30 : decode cX7_follow 30 = .ok (.getfield 18, 3) := by decide +kernel
theorem dX7_follow_33 : decode cX7_follow 33 = .ok (.aload_n 0, 1) := by decide +kernel
theorem dX7_follow_34 : decode cX7_follow 34 = .ok (.getfield 34, 3) := by decide +kernel
theorem dX7_follow_37 : decode cX7_follow 37 = .ok (.iload 6, 2) := by decide +kernel
theorem dX7_follow_39 : decode cX7_follow 39 = .ok (.invokevirtual 78, 3) := by decide +kernel
theorem dX7_follow_42 : decode cX7_follow 42 = .ok (.istore 7, 2) := by decide +kernel
theorem dX7_follow_44 : decode cX7_follow 44 = .ok (.iload 7, 2) := by decide +kernel
theorem dX7_follow_46 : decode cX7_follow 46 = .ok (.ifCond .ge 7, 3) := by decide +kernel
theorem dX7_follow_49 : decode cX7_follow 49 = .ok (.iconst (-1), 1) := by decide +kernel
theorem dX7_follow_50 : decode cX7_follow 50 = .ok (.goto 20, 3) := by decide +kernel
theorem dX7_follow_53 : decode cX7_follow 53 = .ok (.aload_n 0, 1) := by decide +kernel
theorem dX7_follow_54 : decode cX7_follow 54 = .ok (.getfield 22, 3) := by decide +kernel
theorem dX7_follow_57 : decode cX7_follow 57 = .ok (.iload_n 2, 1) := by decide +kernel
theorem dX7_follow_58 : decode cX7_follow 58 = .ok (.iload 5, 2) := by decide +kernel
theorem dX7_follow_60 : decode cX7_follow 60 = .ok (.iadd, 1) := by decide +kernel
theorem dX7_follow_61 : decode cX7_follow 61 = .ok (.aload_n 0, 1) := by decide +kernel
theorem dX7_follow_62 : decode cX7_follow 62 = .ok (.getfield 34, 3) := by decide +kernel
theorem dX7_follow_65 : decode cX7_follow 65 = .ok (.iload 6, 2) := by decide +kernel
theorem dX7_follow_67 : decode cX7_follow 67 = .ok (.invokevirtual 81, 3) := by decide +kernel
theorem dX7_follow_70 : decode cX7_follow 70 = .ok (.istore 8, 2) := by decide +kernel
theorem dX7_follow_72 : decode cX7_follow 72 = .ok (.iload 8, 2) := by decide +kernel
theorem dX7_follow_74 : decode cX7_follow 74 = .ok (.ifCond .lt 51, 3) := by decide +kernel
theorem dX7_follow_77 : decode cX7_follow 77 = .ok (.aload_n 0, 1) := by decide +kernel
theorem dX7_follow_78 : decode cX7_follow 78 = .ok (.aload_n 0, 1) := by decide +kernel
theorem dX7_follow_79 : decode cX7_follow 79 = .ok (.getfield 30, 3) := by decide +kernel
theorem dX7_follow_82 : decode cX7_follow 82 = .ok (.iload 5, 2) := by decide +kernel
theorem dX7_follow_84 : decode cX7_follow 84 = .ok (.isub, 1) := by decide +kernel
theorem dX7_follow_85 : decode cX7_follow 85 = .ok (.iconst 1, 1) := by decide +kernel
theorem dX7_follow_86 : decode cX7_follow 86 = .ok (.isub, 1) := by decide +kernel
theorem dX7_follow_87 : decode cX7_follow 87 = .ok (.iload 7, 2) := by decide +kernel
theorem dX7_follow_89 : decode cX7_follow 89 = .ok (.iload 4, 2) := by decide +kernel
theorem dX7_follow_91 : decode cX7_follow 91 = .ok (.iload 8, 2) := by decide +kernel
theorem dX7_follow_93 : decode cX7_follow 93 = .ok (.isub, 1) := by decide +kernel
theorem dX7_follow_94 : decode cX7_follow 94 = .ok (.invokevirtual 84, 3) := by decide +kernel
theorem dX7_follow_97 : decode cX7_follow 97 = .ok (.ifCond .eq 28, 3) := by decide +kernel
theorem dX7_follow_100 : decode cX7_follow 100 = .ok (.aload_n 0, 1) := by decide +kernel
theorem dX7_follow_101 : decode cX7_follow 101 = .ok (.getfield 15, 3) := by decide +kernel
theorem dX7_follow_104 : decode cX7_follow 104 = .ok (.iload 5, 2) := by decide +kernel
theorem dX7_follow_106 : decode cX7_follow 106 = .ok (.iload 6, 2) := by decide +kernel
theorem dX7_follow_108 : decode cX7_follow 108 = .ok (.iastore, 1) := by decide +kernel
theorem dX7_follow_109 : decode cX7_follow 109 = .ok (.iload 4, 2) := by decide +kernel
theorem dX7_follow_111 : decode cX7_follow 111 = .ok (.iload 8, 2) := by decide +kernel
theorem dX7_follow_113 : decode cX7_follow 113 = .ok (.isub, 1) := by decide +kernel
theorem dX7_follow_114 : decode cX7_follow 114 = .ok (.istore 4, 2) := by decide +kernel
theorem dX7_follow_116 : decode cX7_follow 116 = .ok (.aload_n 0, 1) := by decide +kernel
theorem dX7_follow_117 : decode cX7_follow 117 = .ok (.iload 7, 2) := by decide +kernel
theorem dX7_follow_119 : decode cX7_follow 119 = .ok (.putfield 34, 3) := by decide +kernel
theorem dX7_follow_122 : decode cX7_follow 122 = .ok (.goto 9, 3) := by decide +kernel
theorem dX7_follow_125 : decode cX7_follow 125 = .ok (.iinc 6 1, 3) := by decide +kernel
theorem dX7_follow_128 : decode cX7_follow 128 = .ok (.goto (-105), 3) := by decide +kernel
theorem dX7_follow_131 : decode cX7_follow 131 = .ok (.iinc 5 1, 3) := by decide +kernel
theorem dX7_follow_134 : decode cX7_follow 134 = .ok (.goto (-123), 3) := by decide +kernel
theorem dX7_follow_137 : decode cX7_follow 137 = .ok (.return_, 1) := by decide +kernel
theorem dX7_last_0 : decode cX7_last 0 = .ok (.aload_n 0, 1) := by decide +kernel
theorem dX7_last_1 : decode cX7_last 1 = .ok (.getfield 34, 3) := by decide +kernel
theorem dX7_last_4 : decode cX7_last 4 = .ok (.ireturn, 1) := by decide +kernel
theorem dX7_length_0 : decode cX7_length 0 = .ok (.aload_n 0, 1) := by decide +kernel
theorem dX7_length_1 : decode cX7_length 1 = .ok (.getfield 30, 3) := by decide +kernel
theorem dX7_length_4 : decode cX7_length 4 = .ok (.ireturn, 1) := by decide +kernel
theorem dX7_lookBack_0 : decode cX7_lookBack 0 = .ok (.iconst 0, 1) := by decide +kernel
theorem dX7_lookBack_1 : decode cX7_lookBack 1 = .ok (.istore 4, 2) := by decide +kernel
theorem dX7_lookBack_3 : decode cX7_lookBack 3 = .ok (.iload 4, 2) := by decide +kernel
theorem dX7_lookBack_5 : decode cX7_lookBack 5 = .ok (.iconst 4, 1) := by decide +kernel
theorem dX7_lookBack_6 : decode cX7_lookBack 6 = .ok (.if_icmp .ge 19, 3) := by decide +kernel
theorem dX7_lookBack_9 : decode cX7_lookBack 9 = .ok (.aload_n 0, 1) := by decide +kernel
theorem dX7_lookBack_10 : decode cX7_lookBack 10 = .ok (.getfield 9, 3) := by decide +kernel
theorem dX7_lookBack_13 : decode cX7_lookBack 13 = .ok (.iload 4, 2) := by decide +kernel
theorem dX7_lookBack_15 : decode cX7_lookBack 15 = .ok (.iconst 1, 1) := by decide +kernel
theorem dX7_lookBack_16 : decode cX7_lookBack 16 = .ok (.iload_n 2, 1) := by decide +kernel
theorem dX7_lookBack_17 : decode cX7_lookBack 17 = .ok (.ishl, 1) := by decide +kernel
theorem dX7_lookBack_18 : decode cX7_lookBack 18 = .ok (.iastore, 1) := by decide +kernel
theorem dX7_lookBack_19 : decode cX7_lookBack 19 = .ok (.iinc 4 1, 3) := by decide +kernel
theorem dX7_lookBack_22 : decode cX7_lookBack 22 = .ok (.goto (-19), 3) := by decide +kernel
theorem dX7_lookBack_25 : decode cX7_lookBack 25 = .ok (.iconst 1, 1) := by decide +kernel
theorem dX7_lookBack_26 : decode cX7_lookBack 26 = .ok (.istore 4, 2) := by decide +kernel
theorem dX7_lookBack_28 : decode cX7_lookBack 28 = .ok (.iload 4, 2) := by decide +kernel
theorem dX7_lookBack_30 : decode cX7_lookBack 30 = .ok (.aload_n 0, 1) := by decide +kernel
theorem dX7_lookBack_31 : decode cX7_lookBack 31 = .ok (.getfield 30, 3) := by decide +kernel
theorem dX7_lookBack_34 : decode cX7_lookBack 34 = .ok (.if_icmp .ge 168, 3) := by decide +kernel
theorem dX7_lookBack_37 : decode cX7_lookBack 37 = .ok (.iconst 4, 1) := by decide +kernel
theorem dX7_lookBack_38 : decode cX7_lookBack 38 = .ok (.iload 4, 2) := by decide +kernel
theorem dX7_lookBack_40 : decode cX7_lookBack 40 = .ok (.imul, 1) := by decide +kernel
theorem dX7_lookBack_41 : decode cX7_lookBack 41 = .ok (.iload 4, 2) := by decide +kernel
theorem dX7_lookBack_43 : decode cX7_lookBack 43 = .ok (.imul, 1) := by decide +kernel
theorem dX7_lookBack_44 : decode cX7_lookBack 44 = .ok (.istore 5, 2) := by decide +kernel
theorem dX7_lookBack_46 : decode cX7_lookBack 46 = .ok (.iload 5, 2) := by decide +kernel
theorem dX7_lookBack_48 : decode cX7_lookBack 48 = .ok (.iconst 4, 1) := by decide +kernel
theorem dX7_lookBack_49 : decode cX7_lookBack 49 = .ok (.iload 4, 2) := by decide +kernel
theorem dX7_lookBack_51 : decode cX7_lookBack 51 = .ok (.iconst 1, 1) := by decide +kernel
theorem dX7_lookBack_52 : decode cX7_lookBack 52 = .ok (.iadd, 1) := by decide +kernel
theorem dX7_lookBack_53 : decode cX7_lookBack 53 = .ok (.imul, 1) := by decide +kernel
theorem dX7_lookBack_54 : decode cX7_lookBack 54 = .ok (.iload 4, 2) := by decide +kernel
theorem dX7_lookBack_56 : decode cX7_lookBack 56 = .ok (.iconst 1, 1) := by decide +kernel
theorem dX7_lookBack_57 : decode cX7_lookBack 57 = .ok (.iadd, 1) := by decide +kernel
theorem dX7_lookBack_58 : decode cX7_lookBack 58 = .ok (.imul, 1) := by decide +kernel
theorem dX7_lookBack_59 : decode cX7_lookBack 59 = .ok (.if_icmp .ge 17, 3) := by decide +kernel
theorem dX7_lookBack_62 : decode cX7_lookBack 62 = .ok (.aload_n 0, 1) := by decide +kernel
theorem dX7_lookBack_63 : decode cX7_lookBack 63 = .ok (.getfield 9, 3) := by decide +kernel
theorem dX7_lookBack_66 : decode cX7_lookBack 66 = .ok (.iload 5, 2) := by decide +kernel
theorem dX7_lookBack_68 : decode cX7_lookBack 68 = .ok (.iconst 0, 1) := by decide +kernel
theorem dX7_lookBack_69 : decode cX7_lookBack 69 = .ok (.iastore, 1) := by decide +kernel
theorem dX7_lookBack_70 : decode cX7_lookBack 70 = .ok (.iinc 5 1, 3) := by decide +kernel
theorem dX7_lookBack_73 : decode cX7_lookBack 73 = .ok (.goto (-27), 3) := by decide +kernel
theorem dX7_lookBack_76 : decode cX7_lookBack 76 = .ok (.iconst 4, 1) := by decide +kernel
theorem dX7_lookBack_77 : decode cX7_lookBack 77 = .ok (.iload 4, 2) := by decide +kernel
theorem dX7_lookBack_79 : decode cX7_lookBack 79 = .ok (.iconst 1, 1) := by decide +kernel
theorem dX7_lookBack_80 : decode cX7_lookBack 80 = .ok (.isub, 1) := by decide +kernel
theorem dX7_lookBack_81 : decode cX7_lookBack 81 = .ok (.imul, 1) := by decide +kernel
theorem dX7_lookBack_82 : decode cX7_lookBack 82 = .ok (.iload 4, 2) := by decide +kernel
theorem dX7_lookBack_84 : decode cX7_lookBack 84 = .ok (.iconst 1, 1) := by decide +kernel
theorem dX7_lookBack_85 : decode cX7_lookBack 85 = .ok (.isub, 1) := by decide +kernel
theorem dX7_lookBack_86 : decode cX7_lookBack 86 = .ok (.imul, 1) := by decide +kernel
theorem dX7_lookBack_87 : decode cX7_lookBack 87 = .ok (.istore 5, 2) := by decide +kernel
theorem dX7_lookBack_89 : decode cX7_lookBack 89 = .ok (.iconst 0, 1) := by decide +kernel
theorem dX7_lookBack_90 : decode cX7_lookBack 90 = .ok (.istore 6, 2) := by decide +kernel
theorem dX7_lookBack_92 : decode cX7_lookBack 92 = .ok (.iload 6, 2) := by decide +kernel
theorem dX7_lookBack_94 : decode cX7_lookBack 94 = .ok (.iconst 2, 1) := by decide +kernel
theorem dX7_lookBack_95 : decode cX7_lookBack 95 = .ok (.iload 4, 2) := by decide +kernel
theorem dX7_lookBack_97 : decode cX7_lookBack 97 = .ok (.imul, 1) := by decide +kernel
theorem dX7_lookBack_98 : decode cX7_lookBack 98 = .ok (.iconst 2, 1) := by decide +kernel
theorem dX7_lookBack_99 : decode cX7_lookBack 99 = .ok (.isub, 1) := by decide +kernel
theorem dX7_lookBack_100 : decode cX7_lookBack 100 = .ok (.if_icmp .gt 90, 3) := by decide +kernel
theorem dX7_lookBack_103 : decode cX7_lookBack 103 = .ok (.iload 6, 2) := by decide +kernel
theorem dX7_lookBack_105 : decode cX7_lookBack 105 = .ok (.iload_n 3, 1) := by decide +kernel
theorem dX7_lookBack_106 : decode cX7_lookBack 106 = .ok (.if_icmp .gt 84, 3) := by decide +kernel
theorem dX7_lookBack_109 : decode cX7_lookBack 109 = .ok (.iconst 0, 1) := by decide +kernel
theorem dX7_lookBack_110 : decode cX7_lookBack 110 = .ok (.istore 7, 2) := by decide +kernel
theorem dX7_lookBack_112 : decode cX7_lookBack 112 = .ok (.iload 7, 2) := by decide +kernel
theorem dX7_lookBack_114 : decode cX7_lookBack 114 = .ok (.iconst 4, 1) := by decide +kernel
theorem dX7_lookBack_115 : decode cX7_lookBack 115 = .ok (.if_icmp .ge 69, 3) := by decide +kernel
theorem dX7_lookBack_118 : decode cX7_lookBack 118 = .ok (.aload_n 0, 1) := by decide +kernel
theorem dX7_lookBack_119 : decode cX7_lookBack 119 = .ok (.getfield 18, 3) := by decide +kernel
theorem dX7_lookBack_122 : decode cX7_lookBack 122 = .ok (.aload_n 0, 1) := by decide +kernel
theorem dX7_lookBack_123 : decode cX7_lookBack 123 = .ok (.getfield 9, 3) := by decide +kernel
theorem dX7_lookBack_126 : decode cX7_lookBack 126 = .ok (.iload 5, 2) := by decide +kernel
theorem dX7_lookBack_128 : decode cX7_lookBack 128 = .ok (.iconst 4, 1) := by decide +kernel
theorem dX7_lookBack_129 : decode cX7_lookBack 129 = .ok (.iload 6, 2) := by decide +kernel
theorem dX7_lookBack_131 : decode cX7_lookBack 131 = .ok (.imul, 1) := by decide +kernel
theorem dX7_lookBack_132 : decode cX7_lookBack 132 = .ok (.iadd, 1) := by decide +kernel
theorem dX7_lookBack_133 : decode cX7_lookBack 133 = .ok (.iload 7, 2) := by decide +kernel
theorem dX7_lookBack_135 : decode cX7_lookBack 135 = .ok (.iadd, 1) := by decide +kernel
theorem dX7_lookBack_136 : decode cX7_lookBack 136 = .ok (.iaload, 1) := by decide +kernel
theorem dX7_lookBack_137 : decode cX7_lookBack 137 = .ok (.iload 7, 2) := by decide +kernel
theorem dX7_lookBack_139 : decode cX7_lookBack 139 = .ok (.invokevirtual 54, 3) := by decide +kernel
theorem dX7_lookBack_142 : decode cX7_lookBack 142 = .ok (.istore 8, 2) := by decide +kernel
theorem dX7_lookBack_144 : decode cX7_lookBack 144 = .ok (.iload 8, 2) := by decide +kernel
theorem dX7_lookBack_146 : decode cX7_lookBack 146 = .ok (.ifCond .eq 32, 3) := by decide +kernel
theorem dX7_lookBack_149 : decode cX7_lookBack 149 = .ok (.aload_n 0, 1) := by decide +kernel
theorem dX7_lookBack_150 : decode cX7_lookBack 150 = .ok (.iload_n 1, 1) := by decide +kernel
theorem dX7_lookBack_151 : decode cX7_lookBack 151 = .ok (.aload_n 0, 1) := by decide +kernel
theorem dX7_lookBack_152 : decode cX7_lookBack 152 = .ok (.getfield 30, 3) := by decide +kernel
theorem dX7_lookBack_155 : decode cX7_lookBack 155 = .ok (.iadd, 1) := by decide +kernel
theorem dX7_lookBack_156 : decode cX7_lookBack 156 = .ok (.iload 4, 2) := by decide +kernel
theorem dX7_lookBack_158 : decode cX7_lookBack 158 = .ok (.isub, 1) := by decide +kernel
theorem dX7_lookBack_159 : decode cX7_lookBack 159 = .ok (.iload 8, 2) := by decide +kernel
theorem dX7_lookBack_161 : decode cX7_lookBack 161 = .ok (.iload 7, 2) := by decide +kernel
theorem dX7_lookBack_163 : decode cX7_lookBack 163 = .ok (.iconst 4, 1) := by decide +kernel
theorem dX7_lookBack_164 : decode cX7_lookBack 164 = .ok (.iload 4, 2) := by decide +kernel
theorem dX7_lookBack_166 : decode cX7_lookBack 166 = .ok (.imul, 1) := by decide +kernel
theorem dX7_lookBack_167 : decode cX7_lookBack 167 = .ok (.iload 4, 2) := by decide +kernel
theorem dX7_lookBack_169 : decode cX7_lookBack 169 = .ok (.imul, 1) := by decide +kernel
theorem dX7_lookBack_170 : decode cX7_lookBack 170 = .ok (.iconst 4, 1) := by decide +kernel
theorem dX7_lookBack_171 : decode cX7_lookBack 171 = .ok (.iload 6, 2) := by decide +kernel
theorem dX7_lookBack_173 : decode cX7_lookBack 173 = .ok (.imul, 1) := by decide +kernel
theorem dX7_lookBack_174 : decode cX7_lookBack 174 = .ok (.iadd, 1) := by decide +kernel
theorem dX7_lookBack_175 : decode cX7_lookBack 175 = .ok (.invokevirtual 60, 3) := by decide +kernel
theorem dX7_lookBack_178 : decode cX7_lookBack 178 = .ok (.iinc 7 1, 3) := by decide +kernel
theorem dX7_lookBack_181 : decode cX7_lookBack 181 = .ok (.goto (-69), 3) := by decide +kernel
theorem dX7_lookBack_184 : decode cX7_lookBack 184 = .ok (.iinc 6 1, 3) := by decide +kernel
theorem dX7_lookBack_187 : decode cX7_lookBack 187 = .ok (.goto (-95), 3) := by decide +kernel
theorem dX7_lookBack_190 : decode cX7_lookBack 190 = .ok (.aload_n 0, 1) := by decide +kernel
theorem dX7_lookBack_191 : decode cX7_lookBack 191 = .ok (.iload 4, 2) := by decide +kernel
theorem dX7_lookBack_193 : decode cX7_lookBack 193 = .ok (.invokevirtual 64, 3) := by decide +kernel
theorem dX7_lookBack_196 : decode cX7_lookBack 196 = .ok (.iinc 4 1, 3) := by decide +kernel
theorem dX7_lookBack_199 : decode cX7_lookBack 199 = .ok (.goto (-171), 3) := by decide +kernel
theorem dX7_lookBack_202 : decode cX7_lookBack 202 = .ok (.return_, 1) := by decide +kernel
theorem dX7_shortest_0 : decode cX7_shortest 0 = .ok (.aload_n 0, 1) := by decide +kernel
theorem dX7_shortest_1 : decode cX7_shortest 1 = .ok (.getfield 26, 3) := by decide +kernel
theorem dX7_shortest_4 : decode cX7_shortest 4 = .ok (.iload_n 1, 1) := by decide +kernel
theorem dX7_shortest_5 : decode cX7_shortest 5 = .ok (.iload_n 2, 1) := by decide +kernel
theorem dX7_shortest_6 : decode cX7_shortest 6 = .ok (.iload_n 3, 1) := by decide +kernel
theorem dX7_shortest_7 : decode cX7_shortest 7 = .ok (.bipush 60, 2) := by decide +kernel
theorem dX7_shortest_9 : decode cX7_shortest 9 = .ok (.iconst 0, 1) := by decide +kernel
theorem dX7_shortest_10 : decode cX7_shortest 10 = .ok (.invokevirtual 37, 3) := by decide +kernel
theorem dX7_shortest_13 : decode cX7_shortest 13 = .ok (.istore 4, 2) := by decide +kernel
theorem dX7_shortest_15 : decode cX7_shortest 15 = .ok (.iload 4, 2) := by decide +kernel
theorem dX7_shortest_17 : decode cX7_shortest 17 = .ok (.ifCond .ge 5, 3) := by decide +kernel
theorem dX7_shortest_20 : decode cX7_shortest 20 = .ok (.iconst 0, 1) := by decide +kernel
theorem dX7_shortest_21 : decode cX7_shortest 21 = .ok (.ireturn, 1) := by decide +kernel
theorem dX7_shortest_22 : decode cX7_shortest 22 = .ok (.aload_n 0, 1) := by decide +kernel
theorem dX7_shortest_23 : decode cX7_shortest 23 = .ok (.iload_n 1, 1) := by decide +kernel
theorem dX7_shortest_24 : decode cX7_shortest 24 = .ok (.iconst 0, 1) := by decide +kernel
theorem dX7_shortest_25 : decode cX7_shortest 25 = .ok (.iload_n 2, 1) := by decide +kernel
theorem dX7_shortest_26 : decode cX7_shortest 26 = .ok (.iload_n 3, 1) := by decide +kernel
theorem dX7_shortest_27 : decode cX7_shortest 27 = .ok (.iload 4, 2) := by decide +kernel
theorem dX7_shortest_29 : decode cX7_shortest 29 = .ok (.invokevirtual 43, 3) := by decide +kernel
theorem dX7_shortest_32 : decode cX7_shortest 32 = .ok (.iconst 1, 1) := by decide +kernel
theorem dX7_shortest_33 : decode cX7_shortest 33 = .ok (.ireturn, 1) := by decide +kernel
theorem dX7_thin_0 : decode cX7_thin 0 = .ok (.iconst 0, 1) := by decide +kernel
theorem dX7_thin_1 : decode cX7_thin 1 = .ok (.istore_n 2, 1) := by decide +kernel
theorem dX7_thin_2 : decode cX7_thin 2 = .ok (.iload_n 2, 1) := by decide +kernel
theorem dX7_thin_3 : decode cX7_thin 3 = .ok (.iconst 4, 1) := by decide +kernel
theorem dX7_thin_4 : decode cX7_thin 4 = .ok (.if_icmp .ge 63, 3) := by decide +kernel
theorem dX7_thin_7 : decode cX7_thin 7 = .ok (.iconst 0, 1) := by decide +kernel
theorem dX7_thin_8 : decode cX7_thin 8 = .ok (.istore_n 3, 1) := by decide +kernel
theorem dX7_thin_9 : decode cX7_thin 9 = .ok (.iconst 4, 1) := by decide +kernel
theorem dX7_thin_10 : decode cX7_thin 10 = .ok (.iload_n 1, 1) := by decide +kernel
theorem dX7_thin_11 : decode cX7_thin 11 = .ok (.imul, 1) := by decide +kernel
theorem dX7_thin_12 : decode cX7_thin 12 = .ok (.iload_n 1, 1) := by decide +kernel
theorem dX7_thin_13 : decode cX7_thin 13 = .ok (.imul, 1) := by decide +kernel
theorem dX7_thin_14 : decode cX7_thin 14 = .ok (.iload_n 2, 1) := by decide +kernel
theorem dX7_thin_15 : decode cX7_thin 15 = .ok (.iadd, 1) := by decide +kernel
theorem dX7_thin_16 : decode cX7_thin 16 = .ok (.istore 4, 2) := by decide +kernel
theorem dX7_thin_18 : decode cX7_thin 18 = .ok (.iload 4, 2) := by decide +kernel
theorem dX7_thin_20 : decode cX7_thin 20 = .ok (.iconst 4, 1) := by decide +kernel
theorem dX7_thin_21 : decode cX7_thin 21 = .ok (.iload_n 1, 1) := by decide +kernel
theorem dX7_thin_22 : decode cX7_thin 22 = .ok (.iconst 1, 1) := by decide +kernel
theorem dX7_thin_23 : decode cX7_thin 23 = .ok (.iadd, 1) := by decide +kernel
theorem dX7_thin_24 : decode cX7_thin 24 = .ok (.imul, 1) := by decide +kernel
theorem dX7_thin_25 : decode cX7_thin 25 = .ok (.iload_n 1, 1) := by decide +kernel
theorem dX7_thin_26 : decode cX7_thin 26 = .ok (.iconst 1, 1) := by decide +kernel
theorem dX7_thin_27 : decode cX7_thin 27 = .ok (.iadd, 1) := by decide +kernel
theorem dX7_thin_28 : decode cX7_thin 28 = .ok (.imul, 1) := by decide +kernel
theorem dX7_thin_29 : decode cX7_thin 29 = .ok (.if_icmp .ge 32, 3) := by decide +kernel
theorem dX7_thin_32 : decode cX7_thin 32 = .ok (.aload_n 0, 1) := by decide +kernel
theorem dX7_thin_33 : decode cX7_thin 33 = .ok (.getfield 9, 3) := by decide +kernel
theorem dX7_thin_36 : decode cX7_thin 36 = .ok (.iload 4, 2) := by decide +kernel
theorem dX7_thin_38 : decode cX7_thin 38 = .ok (.dup2, 1) := by decide +kernel
theorem dX7_thin_39 : decode cX7_thin 39 = .ok (.iaload, 1) := by decide +kernel
theorem dX7_thin_40 : decode cX7_thin 40 = .ok (.iload_n 3, 1) := by decide +kernel
theorem dX7_thin_41 : decode cX7_thin 41 = .ok (.iconst (-1), 1) := by decide +kernel
theorem dX7_thin_42 : decode cX7_thin 42 = .ok (.ixor, 1) := by decide +kernel
theorem dX7_thin_43 : decode cX7_thin 43 = .ok (.iand, 1) := by decide +kernel
theorem dX7_thin_44 : decode cX7_thin 44 = .ok (.iastore, 1) := by decide +kernel
theorem dX7_thin_45 : decode cX7_thin 45 = .ok (.iload_n 3, 1) := by decide +kernel
theorem dX7_thin_46 : decode cX7_thin 46 = .ok (.aload_n 0, 1) := by decide +kernel
theorem dX7_thin_47 : decode cX7_thin 47 = .ok (.getfield 9, 3) := by decide +kernel
theorem dX7_thin_50 : decode cX7_thin 50 = .ok (.iload 4, 2) := by decide +kernel
theorem dX7_thin_52 : decode cX7_thin 52 = .ok (.iaload, 1) := by decide +kernel
theorem dX7_thin_53 : decode cX7_thin 53 = .ok (.ior, 1) := by decide +kernel
theorem dX7_thin_54 : decode cX7_thin 54 = .ok (.istore_n 3, 1) := by decide +kernel
theorem dX7_thin_55 : decode cX7_thin 55 = .ok (.iinc 4 4, 3) := by decide +kernel
theorem dX7_thin_58 : decode cX7_thin 58 = .ok (.goto (-40), 3) := by decide +kernel
theorem dX7_thin_61 : decode cX7_thin 61 = .ok (.iinc 2 1, 3) := by decide +kernel
theorem dX7_thin_64 : decode cX7_thin 64 = .ok (.goto (-62), 3) := by decide +kernel
theorem dX7_thin_67 : decode cX7_thin 67 = .ok (.return_, 1) := by decide +kernel
theorem dX7_trace_0 : decode cX7_trace 0 = .ok (.aload_n 0, 1) := by decide +kernel
theorem dX7_trace_1 : decode cX7_trace 1 = .ok (.iload 5, 2) := by decide +kernel
theorem dX7_trace_3 : decode cX7_trace 3 = .ok (.putfield 30, 3) := by decide +kernel
theorem dX7_trace_6 : decode cX7_trace 6 = .ok (.aload_n 0, 1) := by decide +kernel
theorem dX7_trace_7 : decode cX7_trace 7 = .ok (.iload_n 2, 1) := by decide +kernel
theorem dX7_trace_8 : decode cX7_trace 8 = .ok (.iload_n 3, 1) := by decide +kernel
theorem dX7_trace_9 : decode cX7_trace 9 = .ok (.iload 4, 2) := by decide +kernel
theorem dX7_trace_11 : decode cX7_trace 11 = .ok (.invokevirtual 47, 3) := by decide +kernel
theorem dX7_trace_14 : decode cX7_trace 14 = .ok (.aload_n 0, 1) := by decide +kernel
theorem dX7_trace_15 : decode cX7_trace 15 = .ok (.iload_n 1, 1) := by decide +kernel
theorem dX7_trace_16 : decode cX7_trace 16 = .ok (.iload_n 2, 1) := by decide +kernel
theorem dX7_trace_17 : decode cX7_trace 17 = .ok (.iload 4, 2) := by decide +kernel
theorem dX7_trace_19 : decode cX7_trace 19 = .ok (.invokevirtual 51, 3) := by decide +kernel
theorem dX7_trace_22 : decode cX7_trace 22 = .ok (.return_, 1) := by decide +kernel
theorem dX7_turnAt_0 : decode cX7_turnAt 0 = .ok (.iload_n 1, 1) := by decide +kernel
theorem dX7_turnAt_1 : decode cX7_turnAt 1 = .ok (.ifCond .lt 20, 3) := by decide +kernel
theorem dX7_turnAt_4 : decode cX7_turnAt 4 = .ok (.iload_n 1, 1) := by decide +kernel
theorem dX7_turnAt_5 : decode cX7_turnAt 5 = .ok (.aload_n 0, 1) := by decide +kernel
theorem dX7_turnAt_6 : decode cX7_turnAt 6 = .ok (.getfield 30, 3) := by decide +kernel
theorem dX7_turnAt_9 : decode cX7_turnAt 9 = .ok (.if_icmp .ge 12, 3) := by decide +kernel
theorem dX7_turnAt_12 : decode cX7_turnAt 12 = .ok (.aload_n 0, 1) := by decide +kernel
theorem dX7_turnAt_13 : decode cX7_turnAt 13 = .ok (.getfield 15, 3) := by decide +kernel
theorem dX7_turnAt_16 : decode cX7_turnAt 16 = .ok (.iload_n 1, 1) := by decide +kernel
theorem dX7_turnAt_17 : decode cX7_turnAt 17 = .ok (.iaload, 1) := by decide +kernel
theorem dX7_turnAt_18 : decode cX7_turnAt 18 = .ok (.goto 4, 3) := by decide +kernel
theorem dX7_turnAt_21 : decode cX7_turnAt 21 = .ok (.iconst (-1), 1) := by decide +kernel
theorem dX7_turnAt_22 : decode cX7_turnAt 22 = .ok (.ireturn, 1) := by decide +kernel
theorem dX9_addCoins_0 : decode cX9_addCoins 0 = .ok (.aload_n 0, 1) := by decide +kernel
theorem dX9_addCoins_1 : decode cX9_addCoins 1 = .ok (.getfield 21, 3) := by decide +kernel
theorem dX9_addCoins_4 : decode cX9_addCoins 4 = .ok (.iload_n 1, 1) := by decide +kernel
theorem dX9_addCoins_5 : decode cX9_addCoins 5 = .ok (.iconst 1, 1) := by decide +kernel
theorem dX9_addCoins_6 : decode cX9_addCoins 6 = .ok (.iand, 1) := by decide +kernel
theorem dX9_addCoins_7 : decode cX9_addCoins 7 = .ok (.aaload, 1) := by decide +kernel
theorem dX9_addCoins_8 : decode cX9_addCoins 8 = .ok (.astore_n 3, 1) := by decide +kernel
theorem dX9_addCoins_9 : decode cX9_addCoins 9 = .ok (.aload_n 0, 1) := by decide +kernel
theorem dX9_addCoins_10 : decode cX9_addCoins 10 = .ok (.getfield 21, 3) := by decide +kernel
theorem dX9_addCoins_13 : decode cX9_addCoins 13 = .ok (.iload_n 1, 1) := by decide +kernel
theorem dX9_addCoins_14 : decode cX9_addCoins 14 = .ok (.iconst 1, 1) := by decide +kernel
theorem dX9_addCoins_15 : decode cX9_addCoins 15 = .ok (.iadd, 1) := by decide +kernel
theorem dX9_addCoins_16 : decode cX9_addCoins 16 = .ok (.iconst 1, 1) := by decide +kernel
theorem dX9_addCoins_17 : decode cX9_addCoins 17 = .ok (.iand, 1) := by decide +kernel
theorem dX9_addCoins_18 : decode cX9_addCoins 18 = .ok (.aaload, 1) := by decide +kernel
theorem dX9_addCoins_19 : decode cX9_addCoins 19 = .ok (.astore 4, 2) := by decide +kernel
theorem dX9_addCoins_21 : decode cX9_addCoins 21 = .ok (.aload 4, 2) := by decide +kernel
theorem dX9_addCoins_23 : decode cX9_addCoins 23 = .ok (.ldc 70, 2) := by decide +kernel
theorem dX9_addCoins_25 : decode cX9_addCoins 25 = .ok (.invokestatic 32, 3) := by decide +kernel
theorem dX9_addCoins_28 : decode cX9_addCoins 28 = .ok (.iconst 4, 1) := by decide +kernel
theorem dX9_addCoins_29 : decode cX9_addCoins 29 = .ok (.aload_n 0, 1) := by decide +kernel
theorem dX9_addCoins_30 : decode cX9_addCoins 30 = .ok (.getfield 24, 3) := by decide +kernel
theorem dX9_addCoins_33 : decode cX9_addCoins 33 = .ok (.invokevirtual 42, 3) := by decide +kernel
theorem dX9_addCoins_36 : decode cX9_addCoins 36 = .ok (.imul, 1) := by decide +kernel
theorem dX9_addCoins_37 : decode cX9_addCoins 37 = .ok (.istore 5, 2) := by decide +kernel
theorem dX9_addCoins_39 : decode cX9_addCoins 39 = .ok (.iconst 0, 1) := by decide +kernel
theorem dX9_addCoins_40 : decode cX9_addCoins 40 = .ok (.istore 6, 2) := by decide +kernel
theorem dX9_addCoins_42 : decode cX9_addCoins 42 = .ok (.iload 6, 2) := by decide +kernel
theorem dX9_addCoins_44 : decode cX9_addCoins 44 = .ok (.iload 5, 2) := by decide +kernel
theorem dX9_addCoins_46 : decode cX9_addCoins 46 = .ok (.if_icmp .ge 147, 3) := by decide +kernel
theorem dX9_addCoins_49 : decode cX9_addCoins 49 = .ok (.iconst 0, 1) := by decide +kernel
theorem dX9_addCoins_50 : decode cX9_addCoins 50 = .ok (.istore 7, 2) := by decide +kernel
theorem dX9_addCoins_52 : decode cX9_addCoins 52 = .ok (.iload 7, 2) := by decide +kernel
theorem dX9_addCoins_54 : decode cX9_addCoins 54 = .ok (.iconst 4, 1) := by decide +kernel
theorem dX9_addCoins_55 : decode cX9_addCoins 55 = .ok (.if_icmp .ge 132, 3) := by decide +kernel
theorem dX9_addCoins_58 : decode cX9_addCoins 58 = .ok (.aload_n 3, 1) := by decide +kernel
theorem dX9_addCoins_59 : decode cX9_addCoins 59 = .ok (.iload 6, 2) := by decide +kernel
theorem dX9_addCoins_61 : decode cX9_addCoins 61 = .ok (.iaload, 1) := by decide +kernel
theorem dX9_addCoins_62 : decode cX9_addCoins 62 = .ok (.iload_n 2, 1) := by decide +kernel
theorem dX9_addCoins_63 : decode cX9_addCoins 63 = .ok (.if_icmp .ge 124, 3) := by decide +kernel
theorem dX9_addCoins_66 : decode cX9_addCoins 66 = .ok (.aload_n 0, 1) := by decide +kernel
theorem dX9_addCoins_67 : decode cX9_addCoins 67 = .ok (.getfield 24, 3) := by decide +kernel
theorem dX9_addCoins_70 : decode cX9_addCoins 70 = .ok (.iload 6, 2) := by decide +kernel
theorem dX9_addCoins_72 : decode cX9_addCoins 72 = .ok (.iload 7, 2) := by decide +kernel
theorem dX9_addCoins_74 : decode cX9_addCoins 74 = .ok (.invokevirtual 48, 3) := by decide +kernel
theorem dX9_addCoins_77 : decode cX9_addCoins 77 = .ok (.istore 8, 2) := by decide +kernel
theorem dX9_addCoins_79 : decode cX9_addCoins 79 = .ok (.iload 8, 2) := by decide +kernel
theorem dX9_addCoins_81 : decode cX9_addCoins 81 = .ok (.ifCond .ge 7, 3) := by decide +kernel
theorem dX9_addCoins_84 : decode cX9_addCoins 84 = .ok (.iconst (-1), 1) := by decide +kernel
theorem dX9_addCoins_85 : decode cX9_addCoins 85 = .ok (.goto 15, 3) := by decide +kernel
theorem dX9_addCoins_88 : decode cX9_addCoins 88 = .ok (.aload_n 0, 1) := by decide +kernel
theorem dX9_addCoins_89 : decode cX9_addCoins 89 = .ok (.getfield 28, 3) := by decide +kernel
theorem dX9_addCoins_92 : decode cX9_addCoins 92 = .ok (.iload_n 1, 1) := by decide +kernel
theorem dX9_addCoins_93 : decode cX9_addCoins 93 = .ok (.iload 6, 2) := by decide +kernel
theorem dX9_addCoins_95 : decode cX9_addCoins 95 = .ok (.iload 7, 2) := by decide +kernel
theorem dX9_addCoins_97 : decode cX9_addCoins 97 = .ok (.invokevirtual 52, 3) := by decide +kernel
theorem dX9_addCoins_100 : decode cX9_addCoins 100 = .ok (.istore 9, 2) := by decide +kernel
theorem dX9_addCoins_102 : decode cX9_addCoins 102 = .ok (.iload 9, 2) := by decide +kernel
theorem dX9_addCoins_104 : decode cX9_addCoins 104 = .ok (.ifCond .le 52, 3) := by decide +kernel
theorem dX9_addCoins_107 : decode cX9_addCoins 107 = .ok (.iload 6, 2) := by decide +kernel
theorem dX9_addCoins_109 : decode cX9_addCoins 109 = .ok (.iconst 2, 1) := by decide +kernel
theorem dX9_addCoins_110 : decode cX9_addCoins 110 = .ok (.ishr, 1) := by decide +kernel
theorem dX9_addCoins_111 : decode cX9_addCoins 111 = .ok (.istore 10, 2) := by decide +kernel
theorem dX9_addCoins_113 : decode cX9_addCoins 113 = .ok (.iload 9, 2) := by decide +kernel
theorem dX9_addCoins_115 : decode cX9_addCoins 115 = .ok (.aload_n 0, 1) := by decide +kernel
theorem dX9_addCoins_116 : decode cX9_addCoins 116 = .ok (.getfield 24, 3) := by decide +kernel
theorem dX9_addCoins_119 : decode cX9_addCoins 119 = .ok (.iload 10, 2) := by decide +kernel
theorem dX9_addCoins_121 : decode cX9_addCoins 121 = .ok (.aload_n 0, 1) := by decide +kernel
theorem dX9_addCoins_122 : decode cX9_addCoins 122 = .ok (.getfield 24, 3) := by decide +kernel
theorem dX9_addCoins_125 : decode cX9_addCoins 125 = .ok (.getfield 74, 3) := by decide +kernel
theorem dX9_addCoins_128 : decode cX9_addCoins 128 = .ok (.getfield 78, 3) := by decide +kernel
theorem dX9_addCoins_131 : decode cX9_addCoins 131 = .ok (.iload_n 1, 1) := by decide +kernel
theorem dX9_addCoins_132 : decode cX9_addCoins 132 = .ok (.iadd, 1) := by decide +kernel
theorem dX9_addCoins_133 : decode cX9_addCoins 133 = .ok (.aload_n 0, 1) := by decide +kernel
theorem dX9_addCoins_134 : decode cX9_addCoins 134 = .ok (.getfield 24, 3) := by decide +kernel
theorem dX9_addCoins_137 : decode cX9_addCoins 137 = .ok (.getfield 74, 3) := by decide +kernel
theorem dX9_addCoins_140 : decode cX9_addCoins 140 = .ok (.getfield 84, 3) := by decide +kernel
theorem dX9_addCoins_143 : decode cX9_addCoins 143 = .ok (.iload 10, 2) := by decide +kernel
theorem dX9_addCoins_145 : decode cX9_addCoins 145 = .ok (.iaload, 1) := by decide +kernel
theorem dX9_addCoins_146 : decode cX9_addCoins 146 = .ok (.iload 8, 2) := by decide +kernel
theorem dX9_addCoins_148 : decode cX9_addCoins 148 = .ok (.iconst 3, 1) := by decide +kernel
theorem dX9_addCoins_149 : decode cX9_addCoins 149 = .ok (.iand, 1) := by decide +kernel
theorem dX9_addCoins_150 : decode cX9_addCoins 150 = .ok (.invokevirtual 88, 3) := by decide +kernel
theorem dX9_addCoins_153 : decode cX9_addCoins 153 = .ok (.imul, 1) := by decide +kernel
theorem dX9_addCoins_154 : decode cX9_addCoins 154 = .ok (.istore 9, 2) := by decide +kernel
theorem dX9_addCoins_156 : decode cX9_addCoins 156 = .ok (.iload 9, 2) := by decide +kernel
theorem dX9_addCoins_158 : decode cX9_addCoins 158 = .ok (.ifCond .lt 23, 3) := by decide +kernel
theorem dX9_addCoins_161 : decode cX9_addCoins 161 = .ok (.aload 4, 2) := by decide +kernel
theorem dX9_addCoins_163 : decode cX9_addCoins 163 = .ok (.iload 8, 2) := by decide +kernel
theorem dX9_addCoins_165 : decode cX9_addCoins 165 = .ok (.aload 4, 2) := by decide +kernel
theorem dX9_addCoins_167 : decode cX9_addCoins 167 = .ok (.iload 8, 2) := by decide +kernel
theorem dX9_addCoins_169 : decode cX9_addCoins 169 = .ok (.iaload, 1) := by decide +kernel
theorem dX9_addCoins_170 : decode cX9_addCoins 170 = .ok (.aload_n 3, 1) := by decide +kernel
theorem dX9_addCoins_171 : decode cX9_addCoins 171 = .ok (.iload 6, 2) := by decide +kernel
theorem dX9_addCoins_173 : decode cX9_addCoins 173 = .ok (.iaload, 1) := by decide +kernel
theorem dX9_addCoins_174 : decode cX9_addCoins 174 = .ok (.iload 9, 2) := by decide +kernel
theorem dX9_addCoins_176 : decode cX9_addCoins 176 = .ok (.iadd, 1) := by decide +kernel
theorem dX9_addCoins_177 : decode cX9_addCoins 177 = .ok (.invokestatic 62, 3) := by decide +kernel
theorem dX9_addCoins_180 : decode cX9_addCoins 180 = .ok (.iastore, 1) := by decide +kernel
theorem dX9_addCoins_181 : decode cX9_addCoins 181 = .ok (.iinc 7 1, 3) := by decide +kernel
theorem dX9_addCoins_184 : decode cX9_addCoins 184 = .ok (.goto (-132), 3) := by decide +kernel
theorem dX9_addCoins_187 : decode cX9_addCoins 187 = .ok (.iinc 6 1, 3) := by decide +kernel
theorem dX9_addCoins_190 : decode cX9_addCoins 190 = .ok (.goto (-148), 3) := by decide +kernel
theorem dX9_addCoins_193 : decode cX9_addCoins 193 = .ok (.return_, 1) := by decide +kernel
theorem dX9_addWays_0 : decode cX9_addWays 0 = .ok (.aload_n 0, 1) := by decide +kernel
theorem dX9_addWays_1 : decode cX9_addWays 1 = .ok (.getfield 18, 3) := by decide +kernel
theorem dX9_addWays_4 : decode cX9_addWays 4 = .ok (.iload_n 1, 1) := by decide +kernel
theorem dX9_addWays_5 : decode cX9_addWays 5 = .ok (.iconst 1, 1) := by decide +kernel
theorem dX9_addWays_6 : decode cX9_addWays 6 = .ok (.iadd, 1) := by decide +kernel
theorem dX9_addWays_7 : decode cX9_addWays 7 = .ok (.iconst 1, 1) := by decide +kernel
theorem dX9_addWays_8 : decode cX9_addWays 8 = .ok (.iand, 1) := by decide +kernel
theorem dX9_addWays_9 : decode cX9_addWays 9 = .ok (.aaload, 1) := by decide +kernel
theorem dX9_addWays_10 : decode cX9_addWays 10 = .ok (.iconst (-1), 1) := by decide +kernel
theorem dX9_addWays_11 : decode cX9_addWays 11 = .ok (.invokestatic 32, 3) := by decide +kernel
theorem dX9_addWays_14 : decode cX9_addWays 14 = .ok (.iconst 4, 1) := by decide +kernel
theorem dX9_addWays_15 : decode cX9_addWays 15 = .ok (.aload_n 0, 1) := by decide +kernel
theorem dX9_addWays_16 : decode cX9_addWays 16 = .ok (.getfield 24, 3) := by decide +kernel
theorem dX9_addWays_19 : decode cX9_addWays 19 = .ok (.invokevirtual 42, 3) := by decide +kernel
theorem dX9_addWays_22 : decode cX9_addWays 22 = .ok (.imul, 1) := by decide +kernel
theorem dX9_addWays_23 : decode cX9_addWays 23 = .ok (.istore_n 3, 1) := by decide +kernel
theorem dX9_addWays_24 : decode cX9_addWays 24 = .ok (.iconst 0, 1) := by decide +kernel
theorem dX9_addWays_25 : decode cX9_addWays 25 = .ok (.istore 4, 2) := by decide +kernel
theorem dX9_addWays_27 : decode cX9_addWays 27 = .ok (.iload 4, 2) := by decide +kernel
theorem dX9_addWays_29 : decode cX9_addWays 29 = .ok (.iload_n 3, 1) := by decide +kernel
theorem dX9_addWays_30 : decode cX9_addWays 30 = .ok (.if_icmp .ge 97, 3) := by decide +kernel
theorem dX9_addWays_33 : decode cX9_addWays 33 = .ok (.iconst 0, 1) := by decide +kernel
theorem dX9_addWays_34 : decode cX9_addWays 34 = .ok (.istore 5, 2) := by decide +kernel
theorem dX9_addWays_36 : decode cX9_addWays 36 = .ok (.iload 5, 2) := by decide +kernel
theorem dX9_addWays_38 : decode cX9_addWays 38 = .ok (.iconst 4, 1) := by decide +kernel
theorem dX9_addWays_39 : decode cX9_addWays 39 = .ok (.if_icmp .ge 82, 3) := by decide +kernel
theorem dX9_addWays_42 : decode cX9_addWays 42 = .ok (.aload_n 0, 1) := by decide +kernel
theorem dX9_addWays_43 : decode cX9_addWays 43 = .ok (.getfield 18, 3) := by decide +kernel
theorem dX9_addWays_46 : decode cX9_addWays 46 = .ok (.iload_n 1, 1) := by decide +kernel
theorem dX9_addWays_47 : decode cX9_addWays 47 = .ok (.iconst 1, 1) := by decide +kernel
theorem dX9_addWays_48 : decode cX9_addWays 48 = .ok (.iand, 1) := by decide +kernel
theorem dX9_addWays_49 : decode cX9_addWays 49 = .ok (.aaload, 1) := by decide +kernel
theorem dX9_addWays_50 : decode cX9_addWays 50 = .ok (.iload 4, 2) := by decide +kernel
theorem dX9_addWays_52 : decode cX9_addWays 52 = .ok (.iaload, 1) := by decide +kernel
theorem dX9_addWays_53 : decode cX9_addWays 53 = .ok (.ifCond .lt 68, 3) := by decide +kernel
theorem dX9_addWays_56 : decode cX9_addWays 56 = .ok (.aload_n 0, 1) := by decide +kernel
theorem dX9_addWays_57 : decode cX9_addWays 57 = .ok (.getfield 24, 3) := by decide +kernel
theorem dX9_addWays_60 : decode cX9_addWays 60 = .ok (.iload 4, 2) := by decide +kernel
theorem dX9_addWays_62 : decode cX9_addWays 62 = .ok (.iload 5, 2) := by decide +kernel
theorem dX9_addWays_64 : decode cX9_addWays 64 = .ok (.invokevirtual 48, 3) := by decide +kernel
theorem dX9_addWays_67 : decode cX9_addWays 67 = .ok (.istore 6, 2) := by decide +kernel
theorem dX9_addWays_69 : decode cX9_addWays 69 = .ok (.iload 6, 2) := by decide +kernel
theorem dX9_addWays_71 : decode cX9_addWays 71 = .ok (.ifCond .ge 7, 3) := by decide +kernel
theorem dX9_addWays_74 : decode cX9_addWays 74 = .ok (.iconst (-1), 1) := by decide +kernel
theorem dX9_addWays_75 : decode cX9_addWays 75 = .ok (.goto 15, 3) := by decide +kernel
theorem dX9_addWays_78 : decode cX9_addWays 78 = .ok (.aload_n 0, 1) := by decide +kernel
theorem dX9_addWays_79 : decode cX9_addWays 79 = .ok (.getfield 28, 3) := by decide +kernel
theorem dX9_addWays_82 : decode cX9_addWays 82 = .ok (.iload_n 1, 1) := by decide +kernel
theorem dX9_addWays_83 : decode cX9_addWays 83 = .ok (.iload 4, 2) := by decide +kernel
theorem dX9_addWays_85 : decode cX9_addWays 85 = .ok (.iload 5, 2) := by decide +kernel
theorem dX9_addWays_87 : decode cX9_addWays 87 = .ok (.invokevirtual 52, 3) := by decide +kernel
theorem dX9_addWays_90 : decode cX9_addWays 90 = .ok (.istore 7, 2) := by decide +kernel
theorem dX9_addWays_92 : decode cX9_addWays 92 = .ok (.iload 7, 2) := by decide +kernel
theorem dX9_addWays_94 : decode cX9_addWays 94 = .ok (.ifCond .lt 21, 3) := by decide +kernel
theorem dX9_addWays_97 : decode cX9_addWays 97 = .ok (.iload 7, 2) := by decide +kernel
theorem dX9_addWays_99 : decode cX9_addWays 99 = .ok (.iload_n 2, 1) := by decide +kernel
theorem dX9_addWays_100 : decode cX9_addWays 100 = .ok (.if_icmp .gt 15, 3) := by decide +kernel
theorem dX9_addWays_103 : decode cX9_addWays 103 = .ok (.aload_n 0, 1) := by decide +kernel
theorem dX9_addWays_104 : decode cX9_addWays 104 = .ok (.iload_n 1, 1) := by decide +kernel
theorem dX9_addWays_105 : decode cX9_addWays 105 = .ok (.iload 4, 2) := by decide +kernel
theorem dX9_addWays_107 : decode cX9_addWays 107 = .ok (.iload 6, 2) := by decide +kernel
theorem dX9_addWays_109 : decode cX9_addWays 109 = .ok (.iload 7, 2) := by decide +kernel
theorem dX9_addWays_111 : decode cX9_addWays 111 = .ok (.iload_n 2, 1) := by decide +kernel
theorem dX9_addWays_112 : decode cX9_addWays 112 = .ok (.invokevirtual 58, 3) := by decide +kernel
theorem dX9_addWays_115 : decode cX9_addWays 115 = .ok (.iinc 5 1, 3) := by decide +kernel
theorem dX9_addWays_118 : decode cX9_addWays 118 = .ok (.goto (-82), 3) := by decide +kernel
theorem dX9_addWays_121 : decode cX9_addWays 121 = .ok (.iinc 4 1, 3) := by decide +kernel
theorem dX9_addWays_124 : decode cX9_addWays 124 = .ok (.goto (-97), 3) := by decide +kernel
theorem dX9_addWays_127 : decode cX9_addWays 127 = .ok (.return_, 1) := by decide +kernel
theorem dX9_addWaysBy_0 : decode cX9_addWaysBy 0 = .ok (.aload_n 0, 1) := by decide +kernel
theorem dX9_addWaysBy_1 : decode cX9_addWaysBy 1 = .ok (.getfield 13, 3) := by decide +kernel
theorem dX9_addWaysBy_4 : decode cX9_addWaysBy 4 = .ok (.iload_n 1, 1) := by decide +kernel
theorem dX9_addWaysBy_5 : decode cX9_addWaysBy 5 = .ok (.iconst 1, 1) := by decide +kernel
theorem dX9_addWaysBy_6 : decode cX9_addWaysBy 6 = .ok (.iand, 1) := by decide +kernel
theorem dX9_addWaysBy_7 : decode cX9_addWaysBy 7 = .ok (.aaload, 1) := by decide +kernel
theorem dX9_addWaysBy_8 : decode cX9_addWaysBy 8 = .ok (.astore 6, 2) := by decide +kernel
theorem dX9_addWaysBy_10 : decode cX9_addWaysBy 10 = .ok (.aload_n 0, 1) := by decide +kernel
theorem dX9_addWaysBy_11 : decode cX9_addWaysBy 11 = .ok (.getfield 13, 3) := by decide +kernel
theorem dX9_addWaysBy_14 : decode cX9_addWaysBy 14 = .ok (.iload_n 1, 1) := by decide +kernel
theorem dX9_addWaysBy_15 : decode cX9_addWaysBy 15 = .ok (.iconst 1, 1) := by decide +kernel
theorem dX9_addWaysBy_16 : decode cX9_addWaysBy 16 = .ok (.iadd, 1) := by decide +kernel
theorem dX9_addWaysBy_17 : decode cX9_addWaysBy 17 = .ok (.iconst 1, 1) := by decide +kernel
theorem dX9_addWaysBy_18 : decode cX9_addWaysBy 18 = .ok (.iand, 1) := by decide +kernel
theorem dX9_addWaysBy_19 : decode cX9_addWaysBy 19 = .ok (.aaload, 1) := by decide +kernel
theorem dX9_addWaysBy_20 : decode cX9_addWaysBy 20 = .ok (.astore 7, 2) := by decide +kernel
theorem dX9_addWaysBy_22 : decode cX9_addWaysBy 22 = .ok (.aload_n 0, 1) := by decide +kernel
theorem dX9_addWaysBy_23 : decode cX9_addWaysBy 23 = .ok (.getfield 18, 3) := by decide +kernel
theorem dX9_addWaysBy_26 : decode cX9_addWaysBy 26 = .ok (.iload_n 1, 1) := by decide +kernel
theorem dX9_addWaysBy_27 : decode cX9_addWaysBy 27 = .ok (.iconst 1, 1) := by decide +kernel
theorem dX9_addWaysBy_28 : decode cX9_addWaysBy 28 = .ok (.iadd, 1) := by decide +kernel
theorem dX9_addWaysBy_29 : decode cX9_addWaysBy 29 = .ok (.iconst 1, 1) := by decide +kernel
theorem dX9_addWaysBy_30 : decode cX9_addWaysBy 30 = .ok (.iand, 1) := by decide +kernel
theorem dX9_addWaysBy_31 : decode cX9_addWaysBy 31 = .ok (.aaload, 1) := by decide +kernel
theorem dX9_addWaysBy_32 : decode cX9_addWaysBy 32 = .ok (.astore 8, 2) := by decide +kernel
theorem dX9_addWaysBy_34 : decode cX9_addWaysBy 34 = .ok (.iload 5, 2) := by decide +kernel
theorem dX9_addWaysBy_36 : decode cX9_addWaysBy 36 = .ok (.aload_n 0, 1) := by decide +kernel
theorem dX9_addWaysBy_37 : decode cX9_addWaysBy 37 = .ok (.getfield 18, 3) := by decide +kernel
theorem dX9_addWaysBy_40 : decode cX9_addWaysBy 40 = .ok (.iload_n 1, 1) := by decide +kernel
theorem dX9_addWaysBy_41 : decode cX9_addWaysBy 41 = .ok (.iconst 1, 1) := by decide +kernel
theorem dX9_addWaysBy_42 : decode cX9_addWaysBy 42 = .ok (.iand, 1) := by decide +kernel
theorem dX9_addWaysBy_43 : decode cX9_addWaysBy 43 = .ok (.aaload, 1) := by decide +kernel
theorem dX9_addWaysBy_44 : decode cX9_addWaysBy 44 = .ok (.iload_n 2, 1) := by decide +kernel
theorem dX9_addWaysBy_45 : decode cX9_addWaysBy 45 = .ok (.iaload, 1) := by decide +kernel
theorem dX9_addWaysBy_46 : decode cX9_addWaysBy 46 = .ok (.iload 4, 2) := by decide +kernel
theorem dX9_addWaysBy_48 : decode cX9_addWaysBy 48 = .ok (.iadd, 1) := by decide +kernel
theorem dX9_addWaysBy_49 : decode cX9_addWaysBy 49 = .ok (.invokestatic 62, 3) := by decide +kernel
theorem dX9_addWaysBy_52 : decode cX9_addWaysBy 52 = .ok (.istore 9, 2) := by decide +kernel
theorem dX9_addWaysBy_54 : decode cX9_addWaysBy 54 = .ok (.aload 8, 2) := by decide +kernel
theorem dX9_addWaysBy_56 : decode cX9_addWaysBy 56 = .ok (.iload_n 3, 1) := by decide +kernel
theorem dX9_addWaysBy_57 : decode cX9_addWaysBy 57 = .ok (.iaload, 1) := by decide +kernel
theorem dX9_addWaysBy_58 : decode cX9_addWaysBy 58 = .ok (.iconst 1, 1) := by decide +kernel
theorem dX9_addWaysBy_59 : decode cX9_addWaysBy 59 = .ok (.iadd, 1) := by decide +kernel
theorem dX9_addWaysBy_60 : decode cX9_addWaysBy 60 = .ok (.istore 10, 2) := by decide +kernel
theorem dX9_addWaysBy_62 : decode cX9_addWaysBy 62 = .ok (.iload 10, 2) := by decide +kernel
theorem dX9_addWaysBy_64 : decode cX9_addWaysBy 64 = .ok (.iload 9, 2) := by decide +kernel
theorem dX9_addWaysBy_66 : decode cX9_addWaysBy 66 = .ok (.if_icmp .gt 20, 3) := by decide +kernel
theorem dX9_addWaysBy_69 : decode cX9_addWaysBy 69 = .ok (.aload 7, 2) := by decide +kernel
theorem dX9_addWaysBy_71 : decode cX9_addWaysBy 71 = .ok (.iload_n 3, 1) := by decide +kernel
theorem dX9_addWaysBy_72 : decode cX9_addWaysBy 72 = .ok (.bipush 41, 2) := by decide +kernel
theorem dX9_addWaysBy_74 : decode cX9_addWaysBy 74 = .ok (.imul, 1) := by decide +kernel
theorem dX9_addWaysBy_75 : decode cX9_addWaysBy 75 = .ok (.iload 10, 2) := by decide +kernel
theorem dX9_addWaysBy_77 : decode cX9_addWaysBy 77 = .ok (.iadd, 1) := by decide +kernel
theorem dX9_addWaysBy_78 : decode cX9_addWaysBy 78 = .ok (.lconst 0, 1) := by decide +kernel
theorem dX9_addWaysBy_79 : decode cX9_addWaysBy 79 = .ok (.lastore, 1) := by decide +kernel
theorem dX9_addWaysBy_80 : decode cX9_addWaysBy 80 = .ok (.iinc 10 1, 3) := by decide +kernel
theorem dX9_addWaysBy_83 : decode cX9_addWaysBy 83 = .ok (.goto (-21), 3) := by decide +kernel
theorem dX9_addWaysBy_86 : decode cX9_addWaysBy 86 = .ok (.aload 8, 2) := by decide +kernel
theorem dX9_addWaysBy_88 : decode cX9_addWaysBy 88 = .ok (.iload_n 3, 1) := by decide +kernel
theorem dX9_addWaysBy_89 : decode cX9_addWaysBy 89 = .ok (.aload 8, 2) := by decide +kernel
theorem dX9_addWaysBy_91 : decode cX9_addWaysBy 91 = .ok (.iload_n 3, 1) := by decide +kernel
theorem dX9_addWaysBy_92 : decode cX9_addWaysBy 92 = .ok (.iaload, 1) := by decide +kernel
theorem dX9_addWaysBy_93 : decode cX9_addWaysBy 93 = .ok (.iload 9, 2) := by decide +kernel
theorem dX9_addWaysBy_95 : decode cX9_addWaysBy 95 = .ok (.invokestatic 67, 3) := by decide +kernel
theorem dX9_addWaysBy_98 : decode cX9_addWaysBy 98 = .ok (.iastore, 1) := by decide +kernel
theorem dX9_addWaysBy_99 : decode cX9_addWaysBy 99 = .ok (.iload 4, 2) := by decide +kernel
theorem dX9_addWaysBy_101 : decode cX9_addWaysBy 101 = .ok (.istore 10, 2) := by decide +kernel
theorem dX9_addWaysBy_103 : decode cX9_addWaysBy 103 = .ok (.iload 10, 2) := by decide +kernel
theorem dX9_addWaysBy_105 : decode cX9_addWaysBy 105 = .ok (.iload 9, 2) := by decide +kernel
theorem dX9_addWaysBy_107 : decode cX9_addWaysBy 107 = .ok (.if_icmp .gt 35, 3) := by decide +kernel
theorem dX9_addWaysBy_110 : decode cX9_addWaysBy 110 = .ok (.aload 7, 2) := by decide +kernel
theorem dX9_addWaysBy_112 : decode cX9_addWaysBy 112 = .ok (.iload_n 3, 1) := by decide +kernel
theorem dX9_addWaysBy_113 : decode cX9_addWaysBy 113 = .ok (.bipush 41, 2) := by decide +kernel
theorem dX9_addWaysBy_115 : decode cX9_addWaysBy 115 = .ok (.imul, 1) := by decide +kernel
theorem dX9_addWaysBy_116 : decode cX9_addWaysBy 116 = .ok (.iload 10, 2) := by decide +kernel
theorem dX9_addWaysBy_118 : decode cX9_addWaysBy 118 = .ok (.iadd, 1) := by decide +kernel
theorem dX9_addWaysBy_119 : decode cX9_addWaysBy 119 = .ok (.dup2, 1) := by decide +kernel
theorem dX9_addWaysBy_120 : decode cX9_addWaysBy 120 = .ok (.laload, 1) := by decide +kernel
theorem dX9_addWaysBy_121 : decode cX9_addWaysBy 121 = .ok (.aload 6, 2) := by decide +kernel
theorem dX9_addWaysBy_123 : decode cX9_addWaysBy 123 = .ok (.iload_n 2, 1) := by decide +kernel
theorem dX9_addWaysBy_124 : decode cX9_addWaysBy 124 = .ok (.bipush 41, 2) := by decide +kernel
theorem dX9_addWaysBy_126 : decode cX9_addWaysBy 126 = .ok (.imul, 1) := by decide +kernel
theorem dX9_addWaysBy_127 : decode cX9_addWaysBy 127 = .ok (.iload 10, 2) := by decide +kernel
theorem dX9_addWaysBy_129 : decode cX9_addWaysBy 129 = .ok (.iadd, 1) := by decide +kernel
theorem dX9_addWaysBy_130 : decode cX9_addWaysBy 130 = .ok (.iload 4, 2) := by decide +kernel
theorem dX9_addWaysBy_132 : decode cX9_addWaysBy 132 = .ok (.isub, 1) := by decide +kernel
theorem dX9_addWaysBy_133 : decode cX9_addWaysBy 133 = .ok (.laload, 1) := by decide +kernel
theorem dX9_addWaysBy_134 : decode cX9_addWaysBy 134 = .ok (.ladd, 1) := by decide +kernel
theorem dX9_addWaysBy_135 : decode cX9_addWaysBy 135 = .ok (.lastore, 1) := by decide +kernel
theorem dX9_addWaysBy_136 : decode cX9_addWaysBy 136 = .ok (.iinc 10 1, 3) := by decide +kernel
theorem dX9_addWaysBy_139 : decode cX9_addWaysBy 139 = .ok (.goto (-36), 3) := by decide +kernel
theorem dX9_addWaysBy_142 : decode cX9_addWaysBy 142 = .ok (.return_, 1) := by decide +kernel
theorem dX9_leastCoins_0 : decode cX9_leastCoins 0 = .ok (.aload_n 0, 1) := by decide +kernel
theorem dX9_leastCoins_1 : decode cX9_leastCoins 1 = .ok (.getfield 21, 3) := by decide +kernel
theorem dX9_leastCoins_4 : decode cX9_leastCoins 4 = .ok (.iconst 0, 1) := by decide +kernel
theorem dX9_leastCoins_5 : decode cX9_leastCoins 5 = .ok (.aaload, 1) := by decide +kernel
theorem dX9_leastCoins_6 : decode cX9_leastCoins 6 = .ok (.ldc 70, 2) := by decide +kernel
theorem dX9_leastCoins_8 : decode cX9_leastCoins 8 = .ok (.invokestatic 32, 3) := by decide +kernel
theorem dX9_leastCoins_11 : decode cX9_leastCoins 11 = .ok (.aload_n 0, 1) := by decide +kernel
theorem dX9_leastCoins_12 : decode cX9_leastCoins 12 = .ok (.getfield 21, 3) := by decide +kernel
theorem dX9_leastCoins_15 : decode cX9_leastCoins 15 = .ok (.iconst 0, 1) := by decide +kernel
theorem dX9_leastCoins_16 : decode cX9_leastCoins 16 = .ok (.aaload, 1) := by decide +kernel
theorem dX9_leastCoins_17 : decode cX9_leastCoins 17 = .ok (.iload_n 1, 1) := by decide +kernel
theorem dX9_leastCoins_18 : decode cX9_leastCoins 18 = .ok (.iconst 0, 1) := by decide +kernel
theorem dX9_leastCoins_19 : decode cX9_leastCoins 19 = .ok (.iastore, 1) := by decide +kernel
theorem dX9_leastCoins_20 : decode cX9_leastCoins 20 = .ok (.ldc 70, 2) := by decide +kernel
theorem dX9_leastCoins_22 : decode cX9_leastCoins 22 = .ok (.istore 4, 2) := by decide +kernel
theorem dX9_leastCoins_24 : decode cX9_leastCoins 24 = .ok (.iconst 0, 1) := by decide +kernel
theorem dX9_leastCoins_25 : decode cX9_leastCoins 25 = .ok (.istore 5, 2) := by decide +kernel
theorem dX9_leastCoins_27 : decode cX9_leastCoins 27 = .ok (.iload 5, 2) := by decide +kernel
theorem dX9_leastCoins_29 : decode cX9_leastCoins 29 = .ok (.iload_n 3, 1) := by decide +kernel
theorem dX9_leastCoins_30 : decode cX9_leastCoins 30 = .ok (.if_icmp .gt 68, 3) := by decide +kernel
theorem dX9_leastCoins_33 : decode cX9_leastCoins 33 = .ok (.iload 4, 2) := by decide +kernel
theorem dX9_leastCoins_35 : decode cX9_leastCoins 35 = .ok (.ifCond .le 63, 3) := by decide +kernel
theorem dX9_leastCoins_38 : decode cX9_leastCoins 38 = .ok (.iconst 4, 1) := by decide +kernel
theorem dX9_leastCoins_39 : decode cX9_leastCoins 39 = .ok (.iload_n 2, 1) := by decide +kernel
theorem dX9_leastCoins_40 : decode cX9_leastCoins 40 = .ok (.imul, 1) := by decide +kernel
theorem dX9_leastCoins_41 : decode cX9_leastCoins 41 = .ok (.istore 6, 2) := by decide +kernel
theorem dX9_leastCoins_43 : decode cX9_leastCoins 43 = .ok (.iload 6, 2) := by decide +kernel
theorem dX9_leastCoins_45 : decode cX9_leastCoins 45 = .ok (.iconst 4, 1) := by decide +kernel
theorem dX9_leastCoins_46 : decode cX9_leastCoins 46 = .ok (.iload_n 2, 1) := by decide +kernel
theorem dX9_leastCoins_47 : decode cX9_leastCoins 47 = .ok (.imul, 1) := by decide +kernel
theorem dX9_leastCoins_48 : decode cX9_leastCoins 48 = .ok (.iconst 4, 1) := by decide +kernel
theorem dX9_leastCoins_49 : decode cX9_leastCoins 49 = .ok (.iadd, 1) := by decide +kernel
theorem dX9_leastCoins_50 : decode cX9_leastCoins 50 = .ok (.if_icmp .ge 28, 3) := by decide +kernel
theorem dX9_leastCoins_53 : decode cX9_leastCoins 53 = .ok (.iload 4, 2) := by decide +kernel
theorem dX9_leastCoins_55 : decode cX9_leastCoins 55 = .ok (.aload_n 0, 1) := by decide +kernel
theorem dX9_leastCoins_56 : decode cX9_leastCoins 56 = .ok (.getfield 21, 3) := by decide +kernel
theorem dX9_leastCoins_59 : decode cX9_leastCoins 59 = .ok (.iload 5, 2) := by decide +kernel
theorem dX9_leastCoins_61 : decode cX9_leastCoins 61 = .ok (.iconst 1, 1) := by decide +kernel
theorem dX9_leastCoins_62 : decode cX9_leastCoins 62 = .ok (.iand, 1) := by decide +kernel
theorem dX9_leastCoins_63 : decode cX9_leastCoins 63 = .ok (.aaload, 1) := by decide +kernel
theorem dX9_leastCoins_64 : decode cX9_leastCoins 64 = .ok (.iload 6, 2) := by decide +kernel
theorem dX9_leastCoins_66 : decode cX9_leastCoins 66 = .ok (.iaload, 1) := by decide +kernel
theorem dX9_leastCoins_67 : decode cX9_leastCoins 67 = .ok (.invokestatic 62, 3) := by decide +kernel
theorem dX9_leastCoins_70 : decode cX9_leastCoins 70 = .ok (.istore 4, 2) := by decide +kernel
theorem dX9_leastCoins_72 : decode cX9_leastCoins 72 = .ok (.iinc 6 1, 3) := by decide +kernel
theorem dX9_leastCoins_75 : decode cX9_leastCoins 75 = .ok (.goto (-32), 3) := by decide +kernel
theorem dX9_leastCoins_78 : decode cX9_leastCoins 78 = .ok (.iload 5, 2) := by decide +kernel
theorem dX9_leastCoins_80 : decode cX9_leastCoins 80 = .ok (.iload_n 3, 1) := by decide +kernel
theorem dX9_leastCoins_81 : decode cX9_leastCoins 81 = .ok (.if_icmp .ge 11, 3) := by decide +kernel
theorem dX9_leastCoins_84 : decode cX9_leastCoins 84 = .ok (.aload_n 0, 1) := by decide +kernel
theorem dX9_leastCoins_85 : decode cX9_leastCoins 85 = .ok (.iload 5, 2) := by decide +kernel
theorem dX9_leastCoins_87 : decode cX9_leastCoins 87 = .ok (.iload 4, 2) := by decide +kernel
theorem dX9_leastCoins_89 : decode cX9_leastCoins 89 = .ok (.invokevirtual 71, 3) := by decide +kernel
theorem dX9_leastCoins_92 : decode cX9_leastCoins 92 = .ok (.iinc 5 1, 3) := by decide +kernel
theorem dX9_leastCoins_95 : decode cX9_leastCoins 95 = .ok (.goto (-68), 3) := by decide +kernel
theorem dX9_leastCoins_98 : decode cX9_leastCoins 98 = .ok (.iload 4, 2) := by decide +kernel
theorem dX9_leastCoins_100 : decode cX9_leastCoins 100 = .ok (.ldc 70, 2) := by decide +kernel
theorem dX9_leastCoins_102 : decode cX9_leastCoins 102 = .ok (.if_icmp .ge 8, 3) := by decide +kernel
theorem dX9_leastCoins_105 : decode cX9_leastCoins 105 = .ok (.iload 4, 2) := by decide +kernel
theorem dX9_leastCoins_107 : decode cX9_leastCoins 107 = .ok (.goto 4, 3) := by decide +kernel
theorem dX9_leastCoins_110 : decode cX9_leastCoins 110 = .ok (.iconst (-1), 1) := by decide +kernel
theorem dX9_leastCoins_111 : decode cX9_leastCoins 111 = .ok (.ireturn, 1) := by decide +kernel
theorem dX9_waysOfJust_0 : decode cX9_waysOfJust 0 = .ok (.aload_n 0, 1) := by decide +kernel
theorem dX9_waysOfJust_1 : decode cX9_waysOfJust 1 = .ok (.getfield 18, 3) := by decide +kernel
theorem dX9_waysOfJust_4 : decode cX9_waysOfJust 4 = .ok (.iconst 0, 1) := by decide +kernel
theorem dX9_waysOfJust_5 : decode cX9_waysOfJust 5 = .ok (.aaload, 1) := by decide +kernel
theorem dX9_waysOfJust_6 : decode cX9_waysOfJust 6 = .ok (.iconst (-1), 1) := by decide +kernel
theorem dX9_waysOfJust_7 : decode cX9_waysOfJust 7 = .ok (.invokestatic 32, 3) := by decide +kernel
theorem dX9_waysOfJust_10 : decode cX9_waysOfJust 10 = .ok (.aload_n 0, 1) := by decide +kernel
theorem dX9_waysOfJust_11 : decode cX9_waysOfJust 11 = .ok (.getfield 18, 3) := by decide +kernel
theorem dX9_waysOfJust_14 : decode cX9_waysOfJust 14 = .ok (.iconst 0, 1) := by decide +kernel
theorem dX9_waysOfJust_15 : decode cX9_waysOfJust 15 = .ok (.aaload, 1) := by decide +kernel
theorem dX9_waysOfJust_16 : decode cX9_waysOfJust 16 = .ok (.iload_n 1, 1) := by decide +kernel
theorem dX9_waysOfJust_17 : decode cX9_waysOfJust 17 = .ok (.iconst 0, 1) := by decide +kernel
theorem dX9_waysOfJust_18 : decode cX9_waysOfJust 18 = .ok (.iastore, 1) := by decide +kernel
theorem dX9_waysOfJust_19 : decode cX9_waysOfJust 19 = .ok (.aload_n 0, 1) := by decide +kernel
theorem dX9_waysOfJust_20 : decode cX9_waysOfJust 20 = .ok (.getfield 13, 3) := by decide +kernel
theorem dX9_waysOfJust_23 : decode cX9_waysOfJust 23 = .ok (.iconst 0, 1) := by decide +kernel
theorem dX9_waysOfJust_24 : decode cX9_waysOfJust 24 = .ok (.aaload, 1) := by decide +kernel
theorem dX9_waysOfJust_25 : decode cX9_waysOfJust 25 = .ok (.iload_n 1, 1) := by decide +kernel
theorem dX9_waysOfJust_26 : decode cX9_waysOfJust 26 = .ok (.bipush 41, 2) := by decide +kernel
theorem dX9_waysOfJust_28 : decode cX9_waysOfJust 28 = .ok (.imul, 1) := by decide +kernel
theorem dX9_waysOfJust_29 : decode cX9_waysOfJust 29 = .ok (.lconst 1, 1) := by decide +kernel
theorem dX9_waysOfJust_30 : decode cX9_waysOfJust 30 = .ok (.lastore, 1) := by decide +kernel
theorem dX9_waysOfJust_31 : decode cX9_waysOfJust 31 = .ok (.iconst 0, 1) := by decide +kernel
theorem dX9_waysOfJust_32 : decode cX9_waysOfJust 32 = .ok (.istore 5, 2) := by decide +kernel
theorem dX9_waysOfJust_34 : decode cX9_waysOfJust 34 = .ok (.iload 5, 2) := by decide +kernel
theorem dX9_waysOfJust_36 : decode cX9_waysOfJust 36 = .ok (.iload_n 3, 1) := by decide +kernel
theorem dX9_waysOfJust_37 : decode cX9_waysOfJust 37 = .ok (.if_icmp .ge 17, 3) := by decide +kernel
theorem dX9_waysOfJust_40 : decode cX9_waysOfJust 40 = .ok (.aload_n 0, 1) := by decide +kernel
theorem dX9_waysOfJust_41 : decode cX9_waysOfJust 41 = .ok (.iload 5, 2) := by decide +kernel
theorem dX9_waysOfJust_43 : decode cX9_waysOfJust 43 = .ok (.iload 4, 2) := by decide +kernel
theorem dX9_waysOfJust_45 : decode cX9_waysOfJust 45 = .ok (.invokevirtual 38, 3) := by decide +kernel
theorem dX9_waysOfJust_48 : decode cX9_waysOfJust 48 = .ok (.iinc 5 1, 3) := by decide +kernel
theorem dX9_waysOfJust_51 : decode cX9_waysOfJust 51 = .ok (.goto (-17), 3) := by decide +kernel
theorem dX9_waysOfJust_54 : decode cX9_waysOfJust 54 = .ok (.lconst 0, 1) := by decide +kernel
theorem dX9_waysOfJust_55 : decode cX9_waysOfJust 55 = .ok (.lstore 5, 2) := by decide +kernel
theorem dX9_waysOfJust_57 : decode cX9_waysOfJust 57 = .ok (.iconst 4, 1) := by decide +kernel
theorem dX9_waysOfJust_58 : decode cX9_waysOfJust 58 = .ok (.iload_n 2, 1) := by decide +kernel
theorem dX9_waysOfJust_59 : decode cX9_waysOfJust 59 = .ok (.imul, 1) := by decide +kernel
theorem dX9_waysOfJust_60 : decode cX9_waysOfJust 60 = .ok (.istore 7, 2) := by decide +kernel
theorem dX9_waysOfJust_62 : decode cX9_waysOfJust 62 = .ok (.iload 7, 2) := by decide +kernel
theorem dX9_waysOfJust_64 : decode cX9_waysOfJust 64 = .ok (.iconst 4, 1) := by decide +kernel
theorem dX9_waysOfJust_65 : decode cX9_waysOfJust 65 = .ok (.iload_n 2, 1) := by decide +kernel
theorem dX9_waysOfJust_66 : decode cX9_waysOfJust 66 = .ok (.imul, 1) := by decide +kernel
theorem dX9_waysOfJust_67 : decode cX9_waysOfJust 67 = .ok (.iconst 4, 1) := by decide +kernel
theorem dX9_waysOfJust_68 : decode cX9_waysOfJust 68 = .ok (.iadd, 1) := by decide +kernel
theorem dX9_waysOfJust_69 : decode cX9_waysOfJust 69 = .ok (.if_icmp .ge 56, 3) := by decide +kernel
theorem dX9_waysOfJust_72 : decode cX9_waysOfJust 72 = .ok (.iconst 0, 1) := by decide +kernel
theorem dX9_waysOfJust_73 : decode cX9_waysOfJust 73 = .ok (.istore 8, 2) := by decide +kernel
theorem dX9_waysOfJust_75 : decode cX9_waysOfJust 75 = .ok (.iload 8, 2) := by decide +kernel
theorem dX9_waysOfJust_77 : decode cX9_waysOfJust 77 = .ok (.aload_n 0, 1) := by decide +kernel
theorem dX9_waysOfJust_78 : decode cX9_waysOfJust 78 = .ok (.getfield 18, 3) := by decide +kernel
theorem dX9_waysOfJust_81 : decode cX9_waysOfJust 81 = .ok (.iload_n 3, 1) := by decide +kernel
theorem dX9_waysOfJust_82 : decode cX9_waysOfJust 82 = .ok (.iconst 1, 1) := by decide +kernel
theorem dX9_waysOfJust_83 : decode cX9_waysOfJust 83 = .ok (.iand, 1) := by decide +kernel
theorem dX9_waysOfJust_84 : decode cX9_waysOfJust 84 = .ok (.aaload, 1) := by decide +kernel
theorem dX9_waysOfJust_85 : decode cX9_waysOfJust 85 = .ok (.iload 7, 2) := by decide +kernel
theorem dX9_waysOfJust_87 : decode cX9_waysOfJust 87 = .ok (.iaload, 1) := by decide +kernel
theorem dX9_waysOfJust_88 : decode cX9_waysOfJust 88 = .ok (.if_icmp .gt 31, 3) := by decide +kernel
theorem dX9_waysOfJust_91 : decode cX9_waysOfJust 91 = .ok (.lload 5, 2) := by decide +kernel
theorem dX9_waysOfJust_93 : decode cX9_waysOfJust 93 = .ok (.aload_n 0, 1) := by decide +kernel
theorem dX9_waysOfJust_94 : decode cX9_waysOfJust 94 = .ok (.getfield 13, 3) := by decide +kernel
theorem dX9_waysOfJust_97 : decode cX9_waysOfJust 97 = .ok (.iload_n 3, 1) := by decide +kernel
theorem dX9_waysOfJust_98 : decode cX9_waysOfJust 98 = .ok (.iconst 1, 1) := by decide +kernel
theorem dX9_waysOfJust_99 : decode cX9_waysOfJust 99 = .ok (.iand, 1) := by decide +kernel
theorem dX9_waysOfJust_100 : decode cX9_waysOfJust 100 = .ok (.aaload, 1) := by decide +kernel
theorem dX9_waysOfJust_101 : decode cX9_waysOfJust 101 = .ok (.iload 7, 2) := by decide +kernel
theorem dX9_waysOfJust_103 : decode cX9_waysOfJust 103 = .ok (.bipush 41, 2) := by decide +kernel
theorem dX9_waysOfJust_105 : decode cX9_waysOfJust 105 = .ok (.imul, 1) := by decide +kernel
theorem dX9_waysOfJust_106 : decode cX9_waysOfJust 106 = .ok (.iload 8, 2) := by decide +kernel
theorem dX9_waysOfJust_108 : decode cX9_waysOfJust 108 = .ok (.iadd, 1) := by decide +kernel
theorem dX9_waysOfJust_109 : decode cX9_waysOfJust 109 = .ok (.laload, 1) := by decide +kernel
theorem dX9_waysOfJust_110 : decode cX9_waysOfJust 110 = .ok (.ladd, 1) := by decide +kernel
theorem dX9_waysOfJust_111 : decode cX9_waysOfJust 111 = .ok (.lstore 5, 2) := by decide +kernel
theorem dX9_waysOfJust_113 : decode cX9_waysOfJust 113 = .ok (.iinc 8 1, 3) := by decide +kernel
theorem dX9_waysOfJust_116 : decode cX9_waysOfJust 116 = .ok (.goto (-41), 3) := by decide +kernel
theorem dX9_waysOfJust_119 : decode cX9_waysOfJust 119 = .ok (.iinc 7 1, 3) := by decide +kernel
theorem dX9_waysOfJust_122 : decode cX9_waysOfJust 122 = .ok (.goto (-60), 3) := by decide +kernel
theorem dX9_waysOfJust_125 : decode cX9_waysOfJust 125 = .ok (.lload 5, 2) := by decide +kernel
theorem dX9_waysOfJust_127 : decode cX9_waysOfJust 127 = .ok (.lreturn, 1) := by decide +kernel
theorem o19_1 {x0 : Int} (h0 : 0 ≤ x0) (h1 : x0 ≤ 60) : 0 ≤ x0 := by omega
theorem o19_2 {x0 : Int} (h0 : 0 ≤ x0) (h1 : x0 ≤ 60) : x0 ≤ 60 := by omega
theorem o19_3 {x0 : Int} (h0 : 0 ≤ x0) (h1 : x0 ≤ 99) : 0 ≤ x0 := by omega
theorem o19_4 {x0 : Int} (h0 : 0 ≤ x0) (h1 : x0 ≤ 99) : x0 ≤ 99 := by omega
theorem o19_5 {x0 x1 : Int} (h0 : 0 ≤ x0) (h1 : 0 ≤ x1) (h2 : x1 ≤ 60) (h3 : x0 < x1) : 0 ≤ x0 := by omega
theorem o19_6 {x0 x1 : Int} (h0 : 0 ≤ x0) (h1 : 0 ≤ x1) (h2 : x1 ≤ 60) (h3 : x0 < x1) : x0 < (60 : Nat) := by omega
theorem o19_7 {x0 x1 : Int} (h0 : 0 ≤ x1) (h1 : x1 ≤ 3) (h2 : 0 ≤ x0) (h3 : x0 ≤ 14388) (h4 : -2147483648 ≤ x0) (h5 : x0 ≤ 2147483647) (h6 : -2147483648 ≤ x1) (h7 : x1 ≤ 2147483647) : -2147483648 ≤ x0 + x1 := by omega
theorem o19_8 {x0 x1 : Int} (h0 : 0 ≤ x1) (h1 : x1 ≤ 3) (h2 : 0 ≤ x0) (h3 : x0 ≤ 14388) (h4 : -2147483648 ≤ x0) (h5 : x0 ≤ 2147483647) (h6 : -2147483648 ≤ x1) (h7 : x1 ≤ 2147483647) : x0 + x1 ≤ 2147483647 := by omega
theorem o19_9 {x0 x1 x2 : Int} (h0 : 0 ≤ x1) (h1 : x1 ≤ 3) (h2 : 0 ≤ x2) (h3 : x2 ≤ 14388) (h4 : x0 = x2 + x1) : 0 ≤ x0 := by omega
theorem o19_10 {x0 x1 x2 : Int} (h0 : 0 ≤ x1) (h1 : x1 ≤ 3) (h2 : 0 ≤ x2) (h3 : x2 ≤ 14388) (h4 : x0 = x2 + x1) : x0 < (14400 : Nat) := by omega
theorem o19_11 {x0 x1 x2 x3 : Int} (h0 : 0 ≤ x0) (h1 : x0 ≤ 3) (h2 : 0 ≤ x2) (h3 : x2 ≤ 14388) (h4 : x3 = x2 + x0) (h5 : x1 = 3) (h6 : -2147483648 ≤ x0) (h7 : x0 ≤ 2147483647) (h8 : -2147483648 ≤ x1) (h9 : x1 ≤ 2147483647) (h10 : -2147483648 ≤ x2) (h11 : x2 ≤ 2147483647) (h12 : -2147483648 ≤ x3) (h13 : x3 ≤ 2147483647) : -2147483648 ≤ x0 + x1 := by omega
theorem o19_12 {x0 x1 x2 x3 : Int} (h0 : 0 ≤ x0) (h1 : x0 ≤ 3) (h2 : 0 ≤ x2) (h3 : x2 ≤ 14388) (h4 : x3 = x2 + x0) (h5 : x1 = 3) (h6 : -2147483648 ≤ x0) (h7 : x0 ≤ 2147483647) (h8 : -2147483648 ≤ x1) (h9 : x1 ≤ 2147483647) (h10 : -2147483648 ≤ x2) (h11 : x2 ≤ 2147483647) (h12 : -2147483648 ≤ x3) (h13 : x3 ≤ 2147483647) : x0 + x1 ≤ 2147483647 := by omega
theorem o19_13 {x0 : Int} (h0 : x0 = 3) : x0 = 3 := by omega
theorem o19_14 {x0 x1 x2 x3 x4 x5 : Int} (h0 : 0 ≤ x2) (h1 : x2 ≤ 3) (h2 : 0 ≤ x0) (h3 : x0 ≤ 14388) (h4 : x3 = x0 + x2) (h5 : x4 = 3) (h6 : x5 = x2 + x4) (h7 : 0 ≤ x1) (h8 : x1 ≤ 3) (h9 : -2147483648 ≤ x0) (h10 : x0 ≤ 2147483647) (h11 : -2147483648 ≤ x1) (h12 : x1 ≤ 2147483647) (h13 : -2147483648 ≤ x2) (h14 : x2 ≤ 2147483647) (h15 : -2147483648 ≤ x3) (h16 : x3 ≤ 2147483647) (h17 : -2147483648 ≤ x4) (h18 : x4 ≤ 2147483647) (h19 : -2147483648 ≤ x5) (h20 : x5 ≤ 2147483647) : -2147483648 ≤ x0 + x1 := by omega
theorem o19_15 {x0 x1 x2 x3 x4 x5 : Int} (h0 : 0 ≤ x2) (h1 : x2 ≤ 3) (h2 : 0 ≤ x0) (h3 : x0 ≤ 14388) (h4 : x3 = x0 + x2) (h5 : x4 = 3) (h6 : x5 = x2 + x4) (h7 : 0 ≤ x1) (h8 : x1 ≤ 3) (h9 : -2147483648 ≤ x0) (h10 : x0 ≤ 2147483647) (h11 : -2147483648 ≤ x1) (h12 : x1 ≤ 2147483647) (h13 : -2147483648 ≤ x2) (h14 : x2 ≤ 2147483647) (h15 : -2147483648 ≤ x3) (h16 : x3 ≤ 2147483647) (h17 : -2147483648 ≤ x4) (h18 : x4 ≤ 2147483647) (h19 : -2147483648 ≤ x5) (h20 : x5 ≤ 2147483647) : x0 + x1 ≤ 2147483647 := by omega
theorem o19_16 {x0 x1 x2 x3 x4 x5 x6 : Int} (h0 : 0 ≤ x1) (h1 : x1 ≤ 3) (h2 : 0 ≤ x2) (h3 : x2 ≤ 14388) (h4 : x3 = x2 + x1) (h5 : x4 = 3) (h6 : x5 = x1 + x4) (h7 : 0 ≤ x6) (h8 : x6 ≤ 3) (h9 : x0 = x2 + x6) : 0 ≤ x0 := by omega
theorem o19_17 {x0 x1 x2 x3 x4 x5 x6 : Int} (h0 : 0 ≤ x1) (h1 : x1 ≤ 3) (h2 : 0 ≤ x2) (h3 : x2 ≤ 14388) (h4 : x3 = x2 + x1) (h5 : x4 = 3) (h6 : x5 = x1 + x4) (h7 : 0 ≤ x6) (h8 : x6 ≤ 3) (h9 : x0 = x2 + x6) : x0 < (14400 : Nat) := by omega
theorem o19_18 {x0 : Int} (h0 : 0 ≤ x0) (h1 : x0 ≤ 239) : 0 ≤ x0 := by omega
theorem o19_19 {x0 : Int} (h0 : 0 ≤ x0) (h1 : x0 ≤ 239) : x0 ≤ 239 := by omega
theorem o19_20 {x0 x1 x2 x3 x4 x5 x6 : Int} (h0 : 0 ≤ x0) (h1 : x0 ≤ 3) (h2 : 0 ≤ x1) (h3 : x1 ≤ 14388) (h4 : x2 = x1 + x0) (h5 : x3 = 3) (h6 : x4 = x0 + x3) (h7 : 0 ≤ x5) (h8 : x5 ≤ 3) (h9 : x6 = x1 + x5) : 0 ≤ x0 := by omega
theorem o19_21 {x0 x1 x2 x3 x4 x5 x6 : Int} (h0 : 0 ≤ x0) (h1 : x0 ≤ 3) (h2 : 0 ≤ x1) (h3 : x1 ≤ 14388) (h4 : x2 = x1 + x0) (h5 : x3 = 3) (h6 : x4 = x0 + x3) (h7 : 0 ≤ x5) (h8 : x5 ≤ 3) (h9 : x6 = x1 + x5) : x0 ≤ 3 := by omega
theorem o19_22 {x0 x1 x2 x3 x4 x5 x6 x7 : Int} (h0 : 0 ≤ x0) (h1 : x0 ≤ 3) (h2 : 0 ≤ x2) (h3 : x2 ≤ 14388) (h4 : x3 = x2 + x0) (h5 : x4 = 3) (h6 : x5 = x0 + x4) (h7 : 0 ≤ x6) (h8 : x6 ≤ 3) (h9 : x7 = x2 + x6) (h10 : x1 = 1) (h11 : -2147483648 ≤ x0) (h12 : x0 ≤ 2147483647) (h13 : -2147483648 ≤ x1) (h14 : x1 ≤ 2147483647) (h15 : -2147483648 ≤ x2) (h16 : x2 ≤ 2147483647) (h17 : -2147483648 ≤ x3) (h18 : x3 ≤ 2147483647) (h19 : -2147483648 ≤ x4) (h20 : x4 ≤ 2147483647) (h21 : -2147483648 ≤ x5) (h22 : x5 ≤ 2147483647) (h23 : -2147483648 ≤ x6) (h24 : x6 ≤ 2147483647) (h25 : -2147483648 ≤ x7) (h26 : x7 ≤ 2147483647) : -2147483648 ≤ x0 + x1 := by omega
theorem o19_23 {x0 x1 x2 x3 x4 x5 x6 x7 : Int} (h0 : 0 ≤ x0) (h1 : x0 ≤ 3) (h2 : 0 ≤ x2) (h3 : x2 ≤ 14388) (h4 : x3 = x2 + x0) (h5 : x4 = 3) (h6 : x5 = x0 + x4) (h7 : 0 ≤ x6) (h8 : x6 ≤ 3) (h9 : x7 = x2 + x6) (h10 : x1 = 1) (h11 : -2147483648 ≤ x0) (h12 : x0 ≤ 2147483647) (h13 : -2147483648 ≤ x1) (h14 : x1 ≤ 2147483647) (h15 : -2147483648 ≤ x2) (h16 : x2 ≤ 2147483647) (h17 : -2147483648 ≤ x3) (h18 : x3 ≤ 2147483647) (h19 : -2147483648 ≤ x4) (h20 : x4 ≤ 2147483647) (h21 : -2147483648 ≤ x5) (h22 : x5 ≤ 2147483647) (h23 : -2147483648 ≤ x6) (h24 : x6 ≤ 2147483647) (h25 : -2147483648 ≤ x7) (h26 : x7 ≤ 2147483647) : x0 + x1 ≤ 2147483647 := by omega
theorem o19_24 {x0 x1 x2 x3 x4 x5 x6 x7 x8 x9 : Int} (h0 : 0 ≤ x2) (h1 : x2 ≤ 3) (h2 : 0 ≤ x0) (h3 : x0 ≤ 14388) (h4 : x3 = x0 + x2) (h5 : x4 = 3) (h6 : x5 = x2 + x4) (h7 : 0 ≤ x6) (h8 : x6 ≤ 3) (h9 : x7 = x0 + x6) (h10 : x8 = 1) (h11 : x9 = x2 + x8) (h12 : 0 ≤ x1) (h13 : x1 ≤ 3) (h14 : -2147483648 ≤ x0) (h15 : x0 ≤ 2147483647) (h16 : -2147483648 ≤ x1) (h17 : x1 ≤ 2147483647) (h18 : -2147483648 ≤ x2) (h19 : x2 ≤ 2147483647) (h20 : -2147483648 ≤ x3) (h21 : x3 ≤ 2147483647) (h22 : -2147483648 ≤ x4) (h23 : x4 ≤ 2147483647) (h24 : -2147483648 ≤ x5) (h25 : x5 ≤ 2147483647) (h26 : -2147483648 ≤ x6) (h27 : x6 ≤ 2147483647) (h28 : -2147483648 ≤ x7) (h29 : x7 ≤ 2147483647) (h30 : -2147483648 ≤ x8) (h31 : x8 ≤ 2147483647) (h32 : -2147483648 ≤ x9) (h33 : x9 ≤ 2147483647) : -2147483648 ≤ x0 + x1 := by omega
theorem o19_25 {x0 x1 x2 x3 x4 x5 x6 x7 x8 x9 : Int} (h0 : 0 ≤ x2) (h1 : x2 ≤ 3) (h2 : 0 ≤ x0) (h3 : x0 ≤ 14388) (h4 : x3 = x0 + x2) (h5 : x4 = 3) (h6 : x5 = x2 + x4) (h7 : 0 ≤ x6) (h8 : x6 ≤ 3) (h9 : x7 = x0 + x6) (h10 : x8 = 1) (h11 : x9 = x2 + x8) (h12 : 0 ≤ x1) (h13 : x1 ≤ 3) (h14 : -2147483648 ≤ x0) (h15 : x0 ≤ 2147483647) (h16 : -2147483648 ≤ x1) (h17 : x1 ≤ 2147483647) (h18 : -2147483648 ≤ x2) (h19 : x2 ≤ 2147483647) (h20 : -2147483648 ≤ x3) (h21 : x3 ≤ 2147483647) (h22 : -2147483648 ≤ x4) (h23 : x4 ≤ 2147483647) (h24 : -2147483648 ≤ x5) (h25 : x5 ≤ 2147483647) (h26 : -2147483648 ≤ x6) (h27 : x6 ≤ 2147483647) (h28 : -2147483648 ≤ x7) (h29 : x7 ≤ 2147483647) (h30 : -2147483648 ≤ x8) (h31 : x8 ≤ 2147483647) (h32 : -2147483648 ≤ x9) (h33 : x9 ≤ 2147483647) : x0 + x1 ≤ 2147483647 := by omega
theorem o19_26 {x0 x1 x2 x3 x4 x5 x6 x7 x8 x9 x10 : Int} (h0 : 0 ≤ x1) (h1 : x1 ≤ 3) (h2 : 0 ≤ x2) (h3 : x2 ≤ 14388) (h4 : x3 = x2 + x1) (h5 : x4 = 3) (h6 : x5 = x1 + x4) (h7 : 0 ≤ x6) (h8 : x6 ≤ 3) (h9 : x7 = x2 + x6) (h10 : x8 = 1) (h11 : x9 = x1 + x8) (h12 : 0 ≤ x10) (h13 : x10 ≤ 3) (h14 : x0 = x2 + x10) : 0 ≤ x0 := by omega
theorem o19_27 {x0 x1 x2 x3 x4 x5 x6 x7 x8 x9 x10 : Int} (h0 : 0 ≤ x1) (h1 : x1 ≤ 3) (h2 : 0 ≤ x2) (h3 : x2 ≤ 14388) (h4 : x3 = x2 + x1) (h5 : x4 = 3) (h6 : x5 = x1 + x4) (h7 : 0 ≤ x6) (h8 : x6 ≤ 3) (h9 : x7 = x2 + x6) (h10 : x8 = 1) (h11 : x9 = x1 + x8) (h12 : 0 ≤ x10) (h13 : x10 ≤ 3) (h14 : x0 = x2 + x10) : x0 < (14400 : Nat) := by omega
theorem o19_28 {x0 x1 x2 x3 x4 x5 x6 x7 x8 x9 x10 x11 : Int} (h0 : 0 ≤ x0) (h1 : x0 ≤ 3) (h2 : 0 ≤ x2) (h3 : x2 ≤ 14388) (h4 : x3 = x2 + x0) (h5 : x4 = 3) (h6 : x5 = x0 + x4) (h7 : 0 ≤ x6) (h8 : x6 ≤ 3) (h9 : x7 = x2 + x6) (h10 : x8 = 1) (h11 : x9 = x0 + x8) (h12 : 0 ≤ x10) (h13 : x10 ≤ 3) (h14 : x11 = x2 + x10) (h15 : x1 = 2) (h16 : -2147483648 ≤ x0) (h17 : x0 ≤ 2147483647) (h18 : -2147483648 ≤ x1) (h19 : x1 ≤ 2147483647) (h20 : -2147483648 ≤ x2) (h21 : x2 ≤ 2147483647) (h22 : -2147483648 ≤ x3) (h23 : x3 ≤ 2147483647) (h24 : -2147483648 ≤ x4) (h25 : x4 ≤ 2147483647) (h26 : -2147483648 ≤ x5) (h27 : x5 ≤ 2147483647) (h28 : -2147483648 ≤ x6) (h29 : x6 ≤ 2147483647) (h30 : -2147483648 ≤ x7) (h31 : x7 ≤ 2147483647) (h32 : -2147483648 ≤ x8) (h33 : x8 ≤ 2147483647) (h34 : -2147483648 ≤ x9) (h35 : x9 ≤ 2147483647) (h36 : -2147483648 ≤ x10) (h37 : x10 ≤ 2147483647) (h38 : -2147483648 ≤ x11) (h39 : x11 ≤ 2147483647) : -2147483648 ≤ x0 + x1 := by omega
theorem o19_29 {x0 x1 x2 x3 x4 x5 x6 x7 x8 x9 x10 x11 : Int} (h0 : 0 ≤ x0) (h1 : x0 ≤ 3) (h2 : 0 ≤ x2) (h3 : x2 ≤ 14388) (h4 : x3 = x2 + x0) (h5 : x4 = 3) (h6 : x5 = x0 + x4) (h7 : 0 ≤ x6) (h8 : x6 ≤ 3) (h9 : x7 = x2 + x6) (h10 : x8 = 1) (h11 : x9 = x0 + x8) (h12 : 0 ≤ x10) (h13 : x10 ≤ 3) (h14 : x11 = x2 + x10) (h15 : x1 = 2) (h16 : -2147483648 ≤ x0) (h17 : x0 ≤ 2147483647) (h18 : -2147483648 ≤ x1) (h19 : x1 ≤ 2147483647) (h20 : -2147483648 ≤ x2) (h21 : x2 ≤ 2147483647) (h22 : -2147483648 ≤ x3) (h23 : x3 ≤ 2147483647) (h24 : -2147483648 ≤ x4) (h25 : x4 ≤ 2147483647) (h26 : -2147483648 ≤ x5) (h27 : x5 ≤ 2147483647) (h28 : -2147483648 ≤ x6) (h29 : x6 ≤ 2147483647) (h30 : -2147483648 ≤ x7) (h31 : x7 ≤ 2147483647) (h32 : -2147483648 ≤ x8) (h33 : x8 ≤ 2147483647) (h34 : -2147483648 ≤ x9) (h35 : x9 ≤ 2147483647) (h36 : -2147483648 ≤ x10) (h37 : x10 ≤ 2147483647) (h38 : -2147483648 ≤ x11) (h39 : x11 ≤ 2147483647) : x0 + x1 ≤ 2147483647 := by omega
theorem o19_30 {x0 x1 x2 x3 x4 x5 x6 x7 x8 x9 x10 x11 x12 x13 : Int} (h0 : 0 ≤ x2) (h1 : x2 ≤ 3) (h2 : 0 ≤ x0) (h3 : x0 ≤ 14388) (h4 : x3 = x0 + x2) (h5 : x4 = 3) (h6 : x5 = x2 + x4) (h7 : 0 ≤ x6) (h8 : x6 ≤ 3) (h9 : x7 = x0 + x6) (h10 : x8 = 1) (h11 : x9 = x2 + x8) (h12 : 0 ≤ x10) (h13 : x10 ≤ 3) (h14 : x11 = x0 + x10) (h15 : x12 = 2) (h16 : x13 = x2 + x12) (h17 : 0 ≤ x1) (h18 : x1 ≤ 3) (h19 : -2147483648 ≤ x0) (h20 : x0 ≤ 2147483647) (h21 : -2147483648 ≤ x1) (h22 : x1 ≤ 2147483647) (h23 : -2147483648 ≤ x2) (h24 : x2 ≤ 2147483647) (h25 : -2147483648 ≤ x3) (h26 : x3 ≤ 2147483647) (h27 : -2147483648 ≤ x4) (h28 : x4 ≤ 2147483647) (h29 : -2147483648 ≤ x5) (h30 : x5 ≤ 2147483647) (h31 : -2147483648 ≤ x6) (h32 : x6 ≤ 2147483647) (h33 : -2147483648 ≤ x7) (h34 : x7 ≤ 2147483647) (h35 : -2147483648 ≤ x8) (h36 : x8 ≤ 2147483647) (h37 : -2147483648 ≤ x9) (h38 : x9 ≤ 2147483647) (h39 : -2147483648 ≤ x10) (h40 : x10 ≤ 2147483647) (h41 : -2147483648 ≤ x11) (h42 : x11 ≤ 2147483647) (h43 : -2147483648 ≤ x12) (h44 : x12 ≤ 2147483647) (h45 : -2147483648 ≤ x13) (h46 : x13 ≤ 2147483647) : -2147483648 ≤ x0 + x1 := by omega
theorem o19_31 {x0 x1 x2 x3 x4 x5 x6 x7 x8 x9 x10 x11 x12 x13 : Int} (h0 : 0 ≤ x2) (h1 : x2 ≤ 3) (h2 : 0 ≤ x0) (h3 : x0 ≤ 14388) (h4 : x3 = x0 + x2) (h5 : x4 = 3) (h6 : x5 = x2 + x4) (h7 : 0 ≤ x6) (h8 : x6 ≤ 3) (h9 : x7 = x0 + x6) (h10 : x8 = 1) (h11 : x9 = x2 + x8) (h12 : 0 ≤ x10) (h13 : x10 ≤ 3) (h14 : x11 = x0 + x10) (h15 : x12 = 2) (h16 : x13 = x2 + x12) (h17 : 0 ≤ x1) (h18 : x1 ≤ 3) (h19 : -2147483648 ≤ x0) (h20 : x0 ≤ 2147483647) (h21 : -2147483648 ≤ x1) (h22 : x1 ≤ 2147483647) (h23 : -2147483648 ≤ x2) (h24 : x2 ≤ 2147483647) (h25 : -2147483648 ≤ x3) (h26 : x3 ≤ 2147483647) (h27 : -2147483648 ≤ x4) (h28 : x4 ≤ 2147483647) (h29 : -2147483648 ≤ x5) (h30 : x5 ≤ 2147483647) (h31 : -2147483648 ≤ x6) (h32 : x6 ≤ 2147483647) (h33 : -2147483648 ≤ x7) (h34 : x7 ≤ 2147483647) (h35 : -2147483648 ≤ x8) (h36 : x8 ≤ 2147483647) (h37 : -2147483648 ≤ x9) (h38 : x9 ≤ 2147483647) (h39 : -2147483648 ≤ x10) (h40 : x10 ≤ 2147483647) (h41 : -2147483648 ≤ x11) (h42 : x11 ≤ 2147483647) (h43 : -2147483648 ≤ x12) (h44 : x12 ≤ 2147483647) (h45 : -2147483648 ≤ x13) (h46 : x13 ≤ 2147483647) : x0 + x1 ≤ 2147483647 := by omega
theorem o19_32 {x0 x1 x2 x3 x4 x5 x6 x7 x8 x9 x10 x11 x12 x13 x14 : Int} (h0 : 0 ≤ x1) (h1 : x1 ≤ 3) (h2 : 0 ≤ x2) (h3 : x2 ≤ 14388) (h4 : x3 = x2 + x1) (h5 : x4 = 3) (h6 : x5 = x1 + x4) (h7 : 0 ≤ x6) (h8 : x6 ≤ 3) (h9 : x7 = x2 + x6) (h10 : x8 = 1) (h11 : x9 = x1 + x8) (h12 : 0 ≤ x10) (h13 : x10 ≤ 3) (h14 : x11 = x2 + x10) (h15 : x12 = 2) (h16 : x13 = x1 + x12) (h17 : 0 ≤ x14) (h18 : x14 ≤ 3) (h19 : x0 = x2 + x14) : 0 ≤ x0 := by omega
theorem o19_33 {x0 x1 x2 x3 x4 x5 x6 x7 x8 x9 x10 x11 x12 x13 x14 : Int} (h0 : 0 ≤ x1) (h1 : x1 ≤ 3) (h2 : 0 ≤ x2) (h3 : x2 ≤ 14388) (h4 : x3 = x2 + x1) (h5 : x4 = 3) (h6 : x5 = x1 + x4) (h7 : 0 ≤ x6) (h8 : x6 ≤ 3) (h9 : x7 = x2 + x6) (h10 : x8 = 1) (h11 : x9 = x1 + x8) (h12 : 0 ≤ x10) (h13 : x10 ≤ 3) (h14 : x11 = x2 + x10) (h15 : x12 = 2) (h16 : x13 = x1 + x12) (h17 : 0 ≤ x14) (h18 : x14 ≤ 3) (h19 : x0 = x2 + x14) : x0 < (14400 : Nat) := by omega
theorem o19_34 {x0 x1 x2 x3 x4 x5 x6 x7 x8 x9 x10 x11 x12 x13 x14 x15 : Int} (h0 : 0 ≤ x2) (h1 : x2 ≤ 3) (h2 : 0 ≤ x0) (h3 : x0 ≤ 14388) (h4 : x3 = x0 + x2) (h5 : x4 = 3) (h6 : x5 = x2 + x4) (h7 : 0 ≤ x6) (h8 : x6 ≤ 3) (h9 : x7 = x0 + x6) (h10 : x8 = 1) (h11 : x9 = x2 + x8) (h12 : 0 ≤ x10) (h13 : x10 ≤ 3) (h14 : x11 = x0 + x10) (h15 : x12 = 2) (h16 : x13 = x2 + x12) (h17 : 0 ≤ x14) (h18 : x14 ≤ 3) (h19 : x15 = x0 + x14) (h20 : x1 = 4) (h21 : -2147483648 ≤ x0) (h22 : x0 ≤ 2147483647) (h23 : -2147483648 ≤ x1) (h24 : x1 ≤ 2147483647) (h25 : -2147483648 ≤ x2) (h26 : x2 ≤ 2147483647) (h27 : -2147483648 ≤ x3) (h28 : x3 ≤ 2147483647) (h29 : -2147483648 ≤ x4) (h30 : x4 ≤ 2147483647) (h31 : -2147483648 ≤ x5) (h32 : x5 ≤ 2147483647) (h33 : -2147483648 ≤ x6) (h34 : x6 ≤ 2147483647) (h35 : -2147483648 ≤ x7) (h36 : x7 ≤ 2147483647) (h37 : -2147483648 ≤ x8) (h38 : x8 ≤ 2147483647) (h39 : -2147483648 ≤ x9) (h40 : x9 ≤ 2147483647) (h41 : -2147483648 ≤ x10) (h42 : x10 ≤ 2147483647) (h43 : -2147483648 ≤ x11) (h44 : x11 ≤ 2147483647) (h45 : -2147483648 ≤ x12) (h46 : x12 ≤ 2147483647) (h47 : -2147483648 ≤ x13) (h48 : x13 ≤ 2147483647) (h49 : -2147483648 ≤ x14) (h50 : x14 ≤ 2147483647) (h51 : -2147483648 ≤ x15) (h52 : x15 ≤ 2147483647) : -2147483648 ≤ x0 + x1 := by omega
theorem o19_35 {x0 x1 x2 x3 x4 x5 x6 x7 x8 x9 x10 x11 x12 x13 x14 x15 : Int} (h0 : 0 ≤ x2) (h1 : x2 ≤ 3) (h2 : 0 ≤ x0) (h3 : x0 ≤ 14388) (h4 : x3 = x0 + x2) (h5 : x4 = 3) (h6 : x5 = x2 + x4) (h7 : 0 ≤ x6) (h8 : x6 ≤ 3) (h9 : x7 = x0 + x6) (h10 : x8 = 1) (h11 : x9 = x2 + x8) (h12 : 0 ≤ x10) (h13 : x10 ≤ 3) (h14 : x11 = x0 + x10) (h15 : x12 = 2) (h16 : x13 = x2 + x12) (h17 : 0 ≤ x14) (h18 : x14 ≤ 3) (h19 : x15 = x0 + x14) (h20 : x1 = 4) (h21 : -2147483648 ≤ x0) (h22 : x0 ≤ 2147483647) (h23 : -2147483648 ≤ x1) (h24 : x1 ≤ 2147483647) (h25 : -2147483648 ≤ x2) (h26 : x2 ≤ 2147483647) (h27 : -2147483648 ≤ x3) (h28 : x3 ≤ 2147483647) (h29 : -2147483648 ≤ x4) (h30 : x4 ≤ 2147483647) (h31 : -2147483648 ≤ x5) (h32 : x5 ≤ 2147483647) (h33 : -2147483648 ≤ x6) (h34 : x6 ≤ 2147483647) (h35 : -2147483648 ≤ x7) (h36 : x7 ≤ 2147483647) (h37 : -2147483648 ≤ x8) (h38 : x8 ≤ 2147483647) (h39 : -2147483648 ≤ x9) (h40 : x9 ≤ 2147483647) (h41 : -2147483648 ≤ x10) (h42 : x10 ≤ 2147483647) (h43 : -2147483648 ≤ x11) (h44 : x11 ≤ 2147483647) (h45 : -2147483648 ≤ x12) (h46 : x12 ≤ 2147483647) (h47 : -2147483648 ≤ x13) (h48 : x13 ≤ 2147483647) (h49 : -2147483648 ≤ x14) (h50 : x14 ≤ 2147483647) (h51 : -2147483648 ≤ x15) (h52 : x15 ≤ 2147483647) : x0 + x1 ≤ 2147483647 := by omega
theorem o19_36 {x0 x1 x2 x3 x4 x5 x6 x7 x8 x9 x10 x11 x12 x13 x14 x15 x16 x17 : Int} (h0 : 0 ≤ x0) (h1 : x0 ≤ 3) (h2 : 0 ≤ x2) (h3 : x2 ≤ 14388) (h4 : x3 = x2 + x0) (h5 : x4 = 3) (h6 : x5 = x0 + x4) (h7 : 0 ≤ x6) (h8 : x6 ≤ 3) (h9 : x7 = x2 + x6) (h10 : x8 = 1) (h11 : x9 = x0 + x8) (h12 : 0 ≤ x10) (h13 : x10 ≤ 3) (h14 : x11 = x2 + x10) (h15 : x12 = 2) (h16 : x13 = x0 + x12) (h17 : 0 ≤ x14) (h18 : x14 ≤ 3) (h19 : x15 = x2 + x14) (h20 : x16 = 4) (h21 : x17 = x2 + x16) (h22 : x1 = 1) (h23 : -2147483648 ≤ x0) (h24 : x0 ≤ 2147483647) (h25 : -2147483648 ≤ x1) (h26 : x1 ≤ 2147483647) (h27 : -2147483648 ≤ x2) (h28 : x2 ≤ 2147483647) (h29 : -2147483648 ≤ x3) (h30 : x3 ≤ 2147483647) (h31 : -2147483648 ≤ x4) (h32 : x4 ≤ 2147483647) (h33 : -2147483648 ≤ x5) (h34 : x5 ≤ 2147483647) (h35 : -2147483648 ≤ x6) (h36 : x6 ≤ 2147483647) (h37 : -2147483648 ≤ x7) (h38 : x7 ≤ 2147483647) (h39 : -2147483648 ≤ x8) (h40 : x8 ≤ 2147483647) (h41 : -2147483648 ≤ x9) (h42 : x9 ≤ 2147483647) (h43 : -2147483648 ≤ x10) (h44 : x10 ≤ 2147483647) (h45 : -2147483648 ≤ x11) (h46 : x11 ≤ 2147483647) (h47 : -2147483648 ≤ x12) (h48 : x12 ≤ 2147483647) (h49 : -2147483648 ≤ x13) (h50 : x13 ≤ 2147483647) (h51 : -2147483648 ≤ x14) (h52 : x14 ≤ 2147483647) (h53 : -2147483648 ≤ x15) (h54 : x15 ≤ 2147483647) (h55 : -2147483648 ≤ x16) (h56 : x16 ≤ 2147483647) (h57 : -2147483648 ≤ x17) (h58 : x17 ≤ 2147483647) : -2147483648 ≤ x0 + x1 := by omega
theorem o19_37 {x0 x1 x2 x3 x4 x5 x6 x7 x8 x9 x10 x11 x12 x13 x14 x15 x16 x17 : Int} (h0 : 0 ≤ x0) (h1 : x0 ≤ 3) (h2 : 0 ≤ x2) (h3 : x2 ≤ 14388) (h4 : x3 = x2 + x0) (h5 : x4 = 3) (h6 : x5 = x0 + x4) (h7 : 0 ≤ x6) (h8 : x6 ≤ 3) (h9 : x7 = x2 + x6) (h10 : x8 = 1) (h11 : x9 = x0 + x8) (h12 : 0 ≤ x10) (h13 : x10 ≤ 3) (h14 : x11 = x2 + x10) (h15 : x12 = 2) (h16 : x13 = x0 + x12) (h17 : 0 ≤ x14) (h18 : x14 ≤ 3) (h19 : x15 = x2 + x14) (h20 : x16 = 4) (h21 : x17 = x2 + x16) (h22 : x1 = 1) (h23 : -2147483648 ≤ x0) (h24 : x0 ≤ 2147483647) (h25 : -2147483648 ≤ x1) (h26 : x1 ≤ 2147483647) (h27 : -2147483648 ≤ x2) (h28 : x2 ≤ 2147483647) (h29 : -2147483648 ≤ x3) (h30 : x3 ≤ 2147483647) (h31 : -2147483648 ≤ x4) (h32 : x4 ≤ 2147483647) (h33 : -2147483648 ≤ x5) (h34 : x5 ≤ 2147483647) (h35 : -2147483648 ≤ x6) (h36 : x6 ≤ 2147483647) (h37 : -2147483648 ≤ x7) (h38 : x7 ≤ 2147483647) (h39 : -2147483648 ≤ x8) (h40 : x8 ≤ 2147483647) (h41 : -2147483648 ≤ x9) (h42 : x9 ≤ 2147483647) (h43 : -2147483648 ≤ x10) (h44 : x10 ≤ 2147483647) (h45 : -2147483648 ≤ x11) (h46 : x11 ≤ 2147483647) (h47 : -2147483648 ≤ x12) (h48 : x12 ≤ 2147483647) (h49 : -2147483648 ≤ x13) (h50 : x13 ≤ 2147483647) (h51 : -2147483648 ≤ x14) (h52 : x14 ≤ 2147483647) (h53 : -2147483648 ≤ x15) (h54 : x15 ≤ 2147483647) (h55 : -2147483648 ≤ x16) (h56 : x16 ≤ 2147483647) (h57 : -2147483648 ≤ x17) (h58 : x17 ≤ 2147483647) : x0 + x1 ≤ 2147483647 := by omega
theorem o19_38 {x0 x1 x2 x3 x4 x5 x6 x7 x8 x9 x10 x11 x12 x13 x14 x15 x16 x17 x18 x19 : Int} (h0 : 0 ≤ x2) (h1 : x2 ≤ 3) (h2 : 0 ≤ x3) (h3 : x3 ≤ 14388) (h4 : x4 = x3 + x2) (h5 : x5 = 3) (h6 : x6 = x2 + x5) (h7 : 0 ≤ x7) (h8 : x7 ≤ 3) (h9 : x8 = x3 + x7) (h10 : x9 = 1) (h11 : x10 = x2 + x9) (h12 : 0 ≤ x11) (h13 : x11 ≤ 3) (h14 : x12 = x3 + x11) (h15 : x13 = 2) (h16 : x14 = x2 + x13) (h17 : 0 ≤ x15) (h18 : x15 ≤ 3) (h19 : x16 = x3 + x15) (h20 : x17 = 4) (h21 : x0 = x3 + x17) (h22 : x18 = 1) (h23 : x19 = x2 + x18) (h24 : 0 ≤ x1) (h25 : x1 ≤ 3) (h26 : -2147483648 ≤ x0) (h27 : x0 ≤ 2147483647) (h28 : -2147483648 ≤ x1) (h29 : x1 ≤ 2147483647) (h30 : -2147483648 ≤ x2) (h31 : x2 ≤ 2147483647) (h32 : -2147483648 ≤ x3) (h33 : x3 ≤ 2147483647) (h34 : -2147483648 ≤ x4) (h35 : x4 ≤ 2147483647) (h36 : -2147483648 ≤ x5) (h37 : x5 ≤ 2147483647) (h38 : -2147483648 ≤ x6) (h39 : x6 ≤ 2147483647) (h40 : -2147483648 ≤ x7) (h41 : x7 ≤ 2147483647) (h42 : -2147483648 ≤ x8) (h43 : x8 ≤ 2147483647) (h44 : -2147483648 ≤ x9) (h45 : x9 ≤ 2147483647) (h46 : -2147483648 ≤ x10) (h47 : x10 ≤ 2147483647) (h48 : -2147483648 ≤ x11) (h49 : x11 ≤ 2147483647) (h50 : -2147483648 ≤ x12) (h51 : x12 ≤ 2147483647) (h52 : -2147483648 ≤ x13) (h53 : x13 ≤ 2147483647) (h54 : -2147483648 ≤ x14) (h55 : x14 ≤ 2147483647) (h56 : -2147483648 ≤ x15) (h57 : x15 ≤ 2147483647) (h58 : -2147483648 ≤ x16) (h59 : x16 ≤ 2147483647) (h60 : -2147483648 ≤ x17) (h61 : x17 ≤ 2147483647) (h62 : -2147483648 ≤ x18) (h63 : x18 ≤ 2147483647) (h64 : -2147483648 ≤ x19) (h65 : x19 ≤ 2147483647) : -2147483648 ≤ x0 + x1 := by omega
theorem o19_39 {x0 x1 x2 x3 x4 x5 x6 x7 x8 x9 x10 x11 x12 x13 x14 x15 x16 x17 x18 x19 : Int} (h0 : 0 ≤ x2) (h1 : x2 ≤ 3) (h2 : 0 ≤ x3) (h3 : x3 ≤ 14388) (h4 : x4 = x3 + x2) (h5 : x5 = 3) (h6 : x6 = x2 + x5) (h7 : 0 ≤ x7) (h8 : x7 ≤ 3) (h9 : x8 = x3 + x7) (h10 : x9 = 1) (h11 : x10 = x2 + x9) (h12 : 0 ≤ x11) (h13 : x11 ≤ 3) (h14 : x12 = x3 + x11) (h15 : x13 = 2) (h16 : x14 = x2 + x13) (h17 : 0 ≤ x15) (h18 : x15 ≤ 3) (h19 : x16 = x3 + x15) (h20 : x17 = 4) (h21 : x0 = x3 + x17) (h22 : x18 = 1) (h23 : x19 = x2 + x18) (h24 : 0 ≤ x1) (h25 : x1 ≤ 3) (h26 : -2147483648 ≤ x0) (h27 : x0 ≤ 2147483647) (h28 : -2147483648 ≤ x1) (h29 : x1 ≤ 2147483647) (h30 : -2147483648 ≤ x2) (h31 : x2 ≤ 2147483647) (h32 : -2147483648 ≤ x3) (h33 : x3 ≤ 2147483647) (h34 : -2147483648 ≤ x4) (h35 : x4 ≤ 2147483647) (h36 : -2147483648 ≤ x5) (h37 : x5 ≤ 2147483647) (h38 : -2147483648 ≤ x6) (h39 : x6 ≤ 2147483647) (h40 : -2147483648 ≤ x7) (h41 : x7 ≤ 2147483647) (h42 : -2147483648 ≤ x8) (h43 : x8 ≤ 2147483647) (h44 : -2147483648 ≤ x9) (h45 : x9 ≤ 2147483647) (h46 : -2147483648 ≤ x10) (h47 : x10 ≤ 2147483647) (h48 : -2147483648 ≤ x11) (h49 : x11 ≤ 2147483647) (h50 : -2147483648 ≤ x12) (h51 : x12 ≤ 2147483647) (h52 : -2147483648 ≤ x13) (h53 : x13 ≤ 2147483647) (h54 : -2147483648 ≤ x14) (h55 : x14 ≤ 2147483647) (h56 : -2147483648 ≤ x15) (h57 : x15 ≤ 2147483647) (h58 : -2147483648 ≤ x16) (h59 : x16 ≤ 2147483647) (h60 : -2147483648 ≤ x17) (h61 : x17 ≤ 2147483647) (h62 : -2147483648 ≤ x18) (h63 : x18 ≤ 2147483647) (h64 : -2147483648 ≤ x19) (h65 : x19 ≤ 2147483647) : x0 + x1 ≤ 2147483647 := by omega
theorem o19_40 {x0 x1 x2 x3 x4 x5 x6 x7 x8 x9 x10 x11 x12 x13 x14 x15 x16 x17 x18 x19 x20 : Int} (h0 : 0 ≤ x1) (h1 : x1 ≤ 3) (h2 : 0 ≤ x2) (h3 : x2 ≤ 14388) (h4 : x3 = x2 + x1) (h5 : x4 = 3) (h6 : x5 = x1 + x4) (h7 : 0 ≤ x6) (h8 : x6 ≤ 3) (h9 : x7 = x2 + x6) (h10 : x8 = 1) (h11 : x9 = x1 + x8) (h12 : 0 ≤ x10) (h13 : x10 ≤ 3) (h14 : x11 = x2 + x10) (h15 : x12 = 2) (h16 : x13 = x1 + x12) (h17 : 0 ≤ x14) (h18 : x14 ≤ 3) (h19 : x15 = x2 + x14) (h20 : x16 = 4) (h21 : x17 = x2 + x16) (h22 : x18 = 1) (h23 : x19 = x1 + x18) (h24 : 0 ≤ x20) (h25 : x20 ≤ 3) (h26 : x0 = x17 + x20) : 0 ≤ x0 := by omega
theorem o19_41 {x0 x1 x2 x3 x4 x5 x6 x7 x8 x9 x10 x11 x12 x13 x14 x15 x16 x17 x18 x19 x20 : Int} (h0 : 0 ≤ x1) (h1 : x1 ≤ 3) (h2 : 0 ≤ x2) (h3 : x2 ≤ 14388) (h4 : x3 = x2 + x1) (h5 : x4 = 3) (h6 : x5 = x1 + x4) (h7 : 0 ≤ x6) (h8 : x6 ≤ 3) (h9 : x7 = x2 + x6) (h10 : x8 = 1) (h11 : x9 = x1 + x8) (h12 : 0 ≤ x10) (h13 : x10 ≤ 3) (h14 : x11 = x2 + x10) (h15 : x12 = 2) (h16 : x13 = x1 + x12) (h17 : 0 ≤ x14) (h18 : x14 ≤ 3) (h19 : x15 = x2 + x14) (h20 : x16 = 4) (h21 : x17 = x2 + x16) (h22 : x18 = 1) (h23 : x19 = x1 + x18) (h24 : 0 ≤ x20) (h25 : x20 ≤ 3) (h26 : x0 = x17 + x20) : x0 < (14400 : Nat) := by omega
theorem o19_42 {x0 x1 x2 x3 x4 x5 x6 x7 x8 x9 x10 x11 x12 x13 x14 x15 x16 x17 x18 x19 x20 x21 : Int} (h0 : 0 ≤ x2) (h1 : x2 ≤ 3) (h2 : 0 ≤ x0) (h3 : x0 ≤ 14388) (h4 : x3 = x0 + x2) (h5 : x4 = 3) (h6 : x5 = x2 + x4) (h7 : 0 ≤ x6) (h8 : x6 ≤ 3) (h9 : x7 = x0 + x6) (h10 : x8 = 1) (h11 : x9 = x2 + x8) (h12 : 0 ≤ x10) (h13 : x10 ≤ 3) (h14 : x11 = x0 + x10) (h15 : x12 = 2) (h16 : x13 = x2 + x12) (h17 : 0 ≤ x14) (h18 : x14 ≤ 3) (h19 : x15 = x0 + x14) (h20 : x16 = 4) (h21 : x17 = x0 + x16) (h22 : x18 = 1) (h23 : x19 = x2 + x18) (h24 : 0 ≤ x20) (h25 : x20 ≤ 3) (h26 : x21 = x17 + x20) (h27 : x1 = 8) (h28 : -2147483648 ≤ x0) (h29 : x0 ≤ 2147483647) (h30 : -2147483648 ≤ x1) (h31 : x1 ≤ 2147483647) (h32 : -2147483648 ≤ x2) (h33 : x2 ≤ 2147483647) (h34 : -2147483648 ≤ x3) (h35 : x3 ≤ 2147483647) (h36 : -2147483648 ≤ x4) (h37 : x4 ≤ 2147483647) (h38 : -2147483648 ≤ x5) (h39 : x5 ≤ 2147483647) (h40 : -2147483648 ≤ x6) (h41 : x6 ≤ 2147483647) (h42 : -2147483648 ≤ x7) (h43 : x7 ≤ 2147483647) (h44 : -2147483648 ≤ x8) (h45 : x8 ≤ 2147483647) (h46 : -2147483648 ≤ x9) (h47 : x9 ≤ 2147483647) (h48 : -2147483648 ≤ x10) (h49 : x10 ≤ 2147483647) (h50 : -2147483648 ≤ x11) (h51 : x11 ≤ 2147483647) (h52 : -2147483648 ≤ x12) (h53 : x12 ≤ 2147483647) (h54 : -2147483648 ≤ x13) (h55 : x13 ≤ 2147483647) (h56 : -2147483648 ≤ x14) (h57 : x14 ≤ 2147483647) (h58 : -2147483648 ≤ x15) (h59 : x15 ≤ 2147483647) (h60 : -2147483648 ≤ x16) (h61 : x16 ≤ 2147483647) (h62 : -2147483648 ≤ x17) (h63 : x17 ≤ 2147483647) (h64 : -2147483648 ≤ x18) (h65 : x18 ≤ 2147483647) (h66 : -2147483648 ≤ x19) (h67 : x19 ≤ 2147483647) (h68 : -2147483648 ≤ x20) (h69 : x20 ≤ 2147483647) (h70 : -2147483648 ≤ x21) (h71 : x21 ≤ 2147483647) : -2147483648 ≤ x0 + x1 := by omega
theorem o19_43 {x0 x1 x2 x3 x4 x5 x6 x7 x8 x9 x10 x11 x12 x13 x14 x15 x16 x17 x18 x19 x20 x21 : Int} (h0 : 0 ≤ x2) (h1 : x2 ≤ 3) (h2 : 0 ≤ x0) (h3 : x0 ≤ 14388) (h4 : x3 = x0 + x2) (h5 : x4 = 3) (h6 : x5 = x2 + x4) (h7 : 0 ≤ x6) (h8 : x6 ≤ 3) (h9 : x7 = x0 + x6) (h10 : x8 = 1) (h11 : x9 = x2 + x8) (h12 : 0 ≤ x10) (h13 : x10 ≤ 3) (h14 : x11 = x0 + x10) (h15 : x12 = 2) (h16 : x13 = x2 + x12) (h17 : 0 ≤ x14) (h18 : x14 ≤ 3) (h19 : x15 = x0 + x14) (h20 : x16 = 4) (h21 : x17 = x0 + x16) (h22 : x18 = 1) (h23 : x19 = x2 + x18) (h24 : 0 ≤ x20) (h25 : x20 ≤ 3) (h26 : x21 = x17 + x20) (h27 : x1 = 8) (h28 : -2147483648 ≤ x0) (h29 : x0 ≤ 2147483647) (h30 : -2147483648 ≤ x1) (h31 : x1 ≤ 2147483647) (h32 : -2147483648 ≤ x2) (h33 : x2 ≤ 2147483647) (h34 : -2147483648 ≤ x3) (h35 : x3 ≤ 2147483647) (h36 : -2147483648 ≤ x4) (h37 : x4 ≤ 2147483647) (h38 : -2147483648 ≤ x5) (h39 : x5 ≤ 2147483647) (h40 : -2147483648 ≤ x6) (h41 : x6 ≤ 2147483647) (h42 : -2147483648 ≤ x7) (h43 : x7 ≤ 2147483647) (h44 : -2147483648 ≤ x8) (h45 : x8 ≤ 2147483647) (h46 : -2147483648 ≤ x9) (h47 : x9 ≤ 2147483647) (h48 : -2147483648 ≤ x10) (h49 : x10 ≤ 2147483647) (h50 : -2147483648 ≤ x11) (h51 : x11 ≤ 2147483647) (h52 : -2147483648 ≤ x12) (h53 : x12 ≤ 2147483647) (h54 : -2147483648 ≤ x13) (h55 : x13 ≤ 2147483647) (h56 : -2147483648 ≤ x14) (h57 : x14 ≤ 2147483647) (h58 : -2147483648 ≤ x15) (h59 : x15 ≤ 2147483647) (h60 : -2147483648 ≤ x16) (h61 : x16 ≤ 2147483647) (h62 : -2147483648 ≤ x17) (h63 : x17 ≤ 2147483647) (h64 : -2147483648 ≤ x18) (h65 : x18 ≤ 2147483647) (h66 : -2147483648 ≤ x19) (h67 : x19 ≤ 2147483647) (h68 : -2147483648 ≤ x20) (h69 : x20 ≤ 2147483647) (h70 : -2147483648 ≤ x21) (h71 : x21 ≤ 2147483647) : x0 + x1 ≤ 2147483647 := by omega
theorem o19_44 {x0 x1 x2 x3 x4 x5 x6 x7 x8 x9 x10 x11 x12 x13 x14 x15 x16 x17 x18 x19 x20 x21 x22 x23 : Int} (h0 : 0 ≤ x0) (h1 : x0 ≤ 3) (h2 : 0 ≤ x2) (h3 : x2 ≤ 14388) (h4 : x3 = x2 + x0) (h5 : x4 = 3) (h6 : x5 = x0 + x4) (h7 : 0 ≤ x6) (h8 : x6 ≤ 3) (h9 : x7 = x2 + x6) (h10 : x8 = 1) (h11 : x9 = x0 + x8) (h12 : 0 ≤ x10) (h13 : x10 ≤ 3) (h14 : x11 = x2 + x10) (h15 : x12 = 2) (h16 : x13 = x0 + x12) (h17 : 0 ≤ x14) (h18 : x14 ≤ 3) (h19 : x15 = x2 + x14) (h20 : x16 = 4) (h21 : x17 = x2 + x16) (h22 : x18 = 1) (h23 : x19 = x0 + x18) (h24 : 0 ≤ x20) (h25 : x20 ≤ 3) (h26 : x21 = x17 + x20) (h27 : x22 = 8) (h28 : x23 = x2 + x22) (h29 : x1 = 2) (h30 : -2147483648 ≤ x0) (h31 : x0 ≤ 2147483647) (h32 : -2147483648 ≤ x1) (h33 : x1 ≤ 2147483647) (h34 : -2147483648 ≤ x2) (h35 : x2 ≤ 2147483647) (h36 : -2147483648 ≤ x3) (h37 : x3 ≤ 2147483647) (h38 : -2147483648 ≤ x4) (h39 : x4 ≤ 2147483647) (h40 : -2147483648 ≤ x5) (h41 : x5 ≤ 2147483647) (h42 : -2147483648 ≤ x6) (h43 : x6 ≤ 2147483647) (h44 : -2147483648 ≤ x7) (h45 : x7 ≤ 2147483647) (h46 : -2147483648 ≤ x8) (h47 : x8 ≤ 2147483647) (h48 : -2147483648 ≤ x9) (h49 : x9 ≤ 2147483647) (h50 : -2147483648 ≤ x10) (h51 : x10 ≤ 2147483647) (h52 : -2147483648 ≤ x11) (h53 : x11 ≤ 2147483647) (h54 : -2147483648 ≤ x12) (h55 : x12 ≤ 2147483647) (h56 : -2147483648 ≤ x13) (h57 : x13 ≤ 2147483647) (h58 : -2147483648 ≤ x14) (h59 : x14 ≤ 2147483647) (h60 : -2147483648 ≤ x15) (h61 : x15 ≤ 2147483647) (h62 : -2147483648 ≤ x16) (h63 : x16 ≤ 2147483647) (h64 : -2147483648 ≤ x17) (h65 : x17 ≤ 2147483647) (h66 : -2147483648 ≤ x18) (h67 : x18 ≤ 2147483647) (h68 : -2147483648 ≤ x19) (h69 : x19 ≤ 2147483647) (h70 : -2147483648 ≤ x20) (h71 : x20 ≤ 2147483647) (h72 : -2147483648 ≤ x21) (h73 : x21 ≤ 2147483647) (h74 : -2147483648 ≤ x22) (h75 : x22 ≤ 2147483647) (h76 : -2147483648 ≤ x23) (h77 : x23 ≤ 2147483647) : -2147483648 ≤ x0 + x1 := by omega
theorem o19_45 {x0 x1 x2 x3 x4 x5 x6 x7 x8 x9 x10 x11 x12 x13 x14 x15 x16 x17 x18 x19 x20 x21 x22 x23 : Int} (h0 : 0 ≤ x0) (h1 : x0 ≤ 3) (h2 : 0 ≤ x2) (h3 : x2 ≤ 14388) (h4 : x3 = x2 + x0) (h5 : x4 = 3) (h6 : x5 = x0 + x4) (h7 : 0 ≤ x6) (h8 : x6 ≤ 3) (h9 : x7 = x2 + x6) (h10 : x8 = 1) (h11 : x9 = x0 + x8) (h12 : 0 ≤ x10) (h13 : x10 ≤ 3) (h14 : x11 = x2 + x10) (h15 : x12 = 2) (h16 : x13 = x0 + x12) (h17 : 0 ≤ x14) (h18 : x14 ≤ 3) (h19 : x15 = x2 + x14) (h20 : x16 = 4) (h21 : x17 = x2 + x16) (h22 : x18 = 1) (h23 : x19 = x0 + x18) (h24 : 0 ≤ x20) (h25 : x20 ≤ 3) (h26 : x21 = x17 + x20) (h27 : x22 = 8) (h28 : x23 = x2 + x22) (h29 : x1 = 2) (h30 : -2147483648 ≤ x0) (h31 : x0 ≤ 2147483647) (h32 : -2147483648 ≤ x1) (h33 : x1 ≤ 2147483647) (h34 : -2147483648 ≤ x2) (h35 : x2 ≤ 2147483647) (h36 : -2147483648 ≤ x3) (h37 : x3 ≤ 2147483647) (h38 : -2147483648 ≤ x4) (h39 : x4 ≤ 2147483647) (h40 : -2147483648 ≤ x5) (h41 : x5 ≤ 2147483647) (h42 : -2147483648 ≤ x6) (h43 : x6 ≤ 2147483647) (h44 : -2147483648 ≤ x7) (h45 : x7 ≤ 2147483647) (h46 : -2147483648 ≤ x8) (h47 : x8 ≤ 2147483647) (h48 : -2147483648 ≤ x9) (h49 : x9 ≤ 2147483647) (h50 : -2147483648 ≤ x10) (h51 : x10 ≤ 2147483647) (h52 : -2147483648 ≤ x11) (h53 : x11 ≤ 2147483647) (h54 : -2147483648 ≤ x12) (h55 : x12 ≤ 2147483647) (h56 : -2147483648 ≤ x13) (h57 : x13 ≤ 2147483647) (h58 : -2147483648 ≤ x14) (h59 : x14 ≤ 2147483647) (h60 : -2147483648 ≤ x15) (h61 : x15 ≤ 2147483647) (h62 : -2147483648 ≤ x16) (h63 : x16 ≤ 2147483647) (h64 : -2147483648 ≤ x17) (h65 : x17 ≤ 2147483647) (h66 : -2147483648 ≤ x18) (h67 : x18 ≤ 2147483647) (h68 : -2147483648 ≤ x19) (h69 : x19 ≤ 2147483647) (h70 : -2147483648 ≤ x20) (h71 : x20 ≤ 2147483647) (h72 : -2147483648 ≤ x21) (h73 : x21 ≤ 2147483647) (h74 : -2147483648 ≤ x22) (h75 : x22 ≤ 2147483647) (h76 : -2147483648 ≤ x23) (h77 : x23 ≤ 2147483647) : x0 + x1 ≤ 2147483647 := by omega
theorem o19_46 {x0 x1 x2 x3 x4 x5 x6 x7 x8 x9 x10 x11 x12 x13 x14 x15 x16 x17 x18 x19 x20 x21 x22 x23 x24 x25 : Int} (h0 : 0 ≤ x2) (h1 : x2 ≤ 3) (h2 : 0 ≤ x3) (h3 : x3 ≤ 14388) (h4 : x4 = x3 + x2) (h5 : x5 = 3) (h6 : x6 = x2 + x5) (h7 : 0 ≤ x7) (h8 : x7 ≤ 3) (h9 : x8 = x3 + x7) (h10 : x9 = 1) (h11 : x10 = x2 + x9) (h12 : 0 ≤ x11) (h13 : x11 ≤ 3) (h14 : x12 = x3 + x11) (h15 : x13 = 2) (h16 : x14 = x2 + x13) (h17 : 0 ≤ x15) (h18 : x15 ≤ 3) (h19 : x16 = x3 + x15) (h20 : x17 = 4) (h21 : x18 = x3 + x17) (h22 : x19 = 1) (h23 : x20 = x2 + x19) (h24 : 0 ≤ x21) (h25 : x21 ≤ 3) (h26 : x22 = x18 + x21) (h27 : x23 = 8) (h28 : x0 = x3 + x23) (h29 : x24 = 2) (h30 : x25 = x2 + x24) (h31 : 0 ≤ x1) (h32 : x1 ≤ 3) (h33 : -2147483648 ≤ x0) (h34 : x0 ≤ 2147483647) (h35 : -2147483648 ≤ x1) (h36 : x1 ≤ 2147483647) (h37 : -2147483648 ≤ x2) (h38 : x2 ≤ 2147483647) (h39 : -2147483648 ≤ x3) (h40 : x3 ≤ 2147483647) (h41 : -2147483648 ≤ x4) (h42 : x4 ≤ 2147483647) (h43 : -2147483648 ≤ x5) (h44 : x5 ≤ 2147483647) (h45 : -2147483648 ≤ x6) (h46 : x6 ≤ 2147483647) (h47 : -2147483648 ≤ x7) (h48 : x7 ≤ 2147483647) (h49 : -2147483648 ≤ x8) (h50 : x8 ≤ 2147483647) (h51 : -2147483648 ≤ x9) (h52 : x9 ≤ 2147483647) (h53 : -2147483648 ≤ x10) (h54 : x10 ≤ 2147483647) (h55 : -2147483648 ≤ x11) (h56 : x11 ≤ 2147483647) (h57 : -2147483648 ≤ x12) (h58 : x12 ≤ 2147483647) (h59 : -2147483648 ≤ x13) (h60 : x13 ≤ 2147483647) (h61 : -2147483648 ≤ x14) (h62 : x14 ≤ 2147483647) (h63 : -2147483648 ≤ x15) (h64 : x15 ≤ 2147483647) (h65 : -2147483648 ≤ x16) (h66 : x16 ≤ 2147483647) (h67 : -2147483648 ≤ x17) (h68 : x17 ≤ 2147483647) (h69 : -2147483648 ≤ x18) (h70 : x18 ≤ 2147483647) (h71 : -2147483648 ≤ x19) (h72 : x19 ≤ 2147483647) (h73 : -2147483648 ≤ x20) (h74 : x20 ≤ 2147483647) (h75 : -2147483648 ≤ x21) (h76 : x21 ≤ 2147483647) (h77 : -2147483648 ≤ x22) (h78 : x22 ≤ 2147483647) (h79 : -2147483648 ≤ x23) (h80 : x23 ≤ 2147483647) (h81 : -2147483648 ≤ x24) (h82 : x24 ≤ 2147483647) (h83 : -2147483648 ≤ x25) (h84 : x25 ≤ 2147483647) : -2147483648 ≤ x0 + x1 := by omega
theorem o19_47 {x0 x1 x2 x3 x4 x5 x6 x7 x8 x9 x10 x11 x12 x13 x14 x15 x16 x17 x18 x19 x20 x21 x22 x23 x24 x25 : Int} (h0 : 0 ≤ x2) (h1 : x2 ≤ 3) (h2 : 0 ≤ x3) (h3 : x3 ≤ 14388) (h4 : x4 = x3 + x2) (h5 : x5 = 3) (h6 : x6 = x2 + x5) (h7 : 0 ≤ x7) (h8 : x7 ≤ 3) (h9 : x8 = x3 + x7) (h10 : x9 = 1) (h11 : x10 = x2 + x9) (h12 : 0 ≤ x11) (h13 : x11 ≤ 3) (h14 : x12 = x3 + x11) (h15 : x13 = 2) (h16 : x14 = x2 + x13) (h17 : 0 ≤ x15) (h18 : x15 ≤ 3) (h19 : x16 = x3 + x15) (h20 : x17 = 4) (h21 : x18 = x3 + x17) (h22 : x19 = 1) (h23 : x20 = x2 + x19) (h24 : 0 ≤ x21) (h25 : x21 ≤ 3) (h26 : x22 = x18 + x21) (h27 : x23 = 8) (h28 : x0 = x3 + x23) (h29 : x24 = 2) (h30 : x25 = x2 + x24) (h31 : 0 ≤ x1) (h32 : x1 ≤ 3) (h33 : -2147483648 ≤ x0) (h34 : x0 ≤ 2147483647) (h35 : -2147483648 ≤ x1) (h36 : x1 ≤ 2147483647) (h37 : -2147483648 ≤ x2) (h38 : x2 ≤ 2147483647) (h39 : -2147483648 ≤ x3) (h40 : x3 ≤ 2147483647) (h41 : -2147483648 ≤ x4) (h42 : x4 ≤ 2147483647) (h43 : -2147483648 ≤ x5) (h44 : x5 ≤ 2147483647) (h45 : -2147483648 ≤ x6) (h46 : x6 ≤ 2147483647) (h47 : -2147483648 ≤ x7) (h48 : x7 ≤ 2147483647) (h49 : -2147483648 ≤ x8) (h50 : x8 ≤ 2147483647) (h51 : -2147483648 ≤ x9) (h52 : x9 ≤ 2147483647) (h53 : -2147483648 ≤ x10) (h54 : x10 ≤ 2147483647) (h55 : -2147483648 ≤ x11) (h56 : x11 ≤ 2147483647) (h57 : -2147483648 ≤ x12) (h58 : x12 ≤ 2147483647) (h59 : -2147483648 ≤ x13) (h60 : x13 ≤ 2147483647) (h61 : -2147483648 ≤ x14) (h62 : x14 ≤ 2147483647) (h63 : -2147483648 ≤ x15) (h64 : x15 ≤ 2147483647) (h65 : -2147483648 ≤ x16) (h66 : x16 ≤ 2147483647) (h67 : -2147483648 ≤ x17) (h68 : x17 ≤ 2147483647) (h69 : -2147483648 ≤ x18) (h70 : x18 ≤ 2147483647) (h71 : -2147483648 ≤ x19) (h72 : x19 ≤ 2147483647) (h73 : -2147483648 ≤ x20) (h74 : x20 ≤ 2147483647) (h75 : -2147483648 ≤ x21) (h76 : x21 ≤ 2147483647) (h77 : -2147483648 ≤ x22) (h78 : x22 ≤ 2147483647) (h79 : -2147483648 ≤ x23) (h80 : x23 ≤ 2147483647) (h81 : -2147483648 ≤ x24) (h82 : x24 ≤ 2147483647) (h83 : -2147483648 ≤ x25) (h84 : x25 ≤ 2147483647) : x0 + x1 ≤ 2147483647 := by omega
theorem o19_48 {x0 x1 x2 x3 x4 x5 x6 x7 x8 x9 x10 x11 x12 x13 x14 x15 x16 x17 x18 x19 x20 x21 x22 x23 x24 x25 x26 : Int} (h0 : 0 ≤ x1) (h1 : x1 ≤ 3) (h2 : 0 ≤ x2) (h3 : x2 ≤ 14388) (h4 : x3 = x2 + x1) (h5 : x4 = 3) (h6 : x5 = x1 + x4) (h7 : 0 ≤ x6) (h8 : x6 ≤ 3) (h9 : x7 = x2 + x6) (h10 : x8 = 1) (h11 : x9 = x1 + x8) (h12 : 0 ≤ x10) (h13 : x10 ≤ 3) (h14 : x11 = x2 + x10) (h15 : x12 = 2) (h16 : x13 = x1 + x12) (h17 : 0 ≤ x14) (h18 : x14 ≤ 3) (h19 : x15 = x2 + x14) (h20 : x16 = 4) (h21 : x17 = x2 + x16) (h22 : x18 = 1) (h23 : x19 = x1 + x18) (h24 : 0 ≤ x20) (h25 : x20 ≤ 3) (h26 : x21 = x17 + x20) (h27 : x22 = 8) (h28 : x23 = x2 + x22) (h29 : x24 = 2) (h30 : x25 = x1 + x24) (h31 : 0 ≤ x26) (h32 : x26 ≤ 3) (h33 : x0 = x23 + x26) : 0 ≤ x0 := by omega
theorem o19_49 {x0 x1 x2 x3 x4 x5 x6 x7 x8 x9 x10 x11 x12 x13 x14 x15 x16 x17 x18 x19 x20 x21 x22 x23 x24 x25 x26 : Int} (h0 : 0 ≤ x1) (h1 : x1 ≤ 3) (h2 : 0 ≤ x2) (h3 : x2 ≤ 14388) (h4 : x3 = x2 + x1) (h5 : x4 = 3) (h6 : x5 = x1 + x4) (h7 : 0 ≤ x6) (h8 : x6 ≤ 3) (h9 : x7 = x2 + x6) (h10 : x8 = 1) (h11 : x9 = x1 + x8) (h12 : 0 ≤ x10) (h13 : x10 ≤ 3) (h14 : x11 = x2 + x10) (h15 : x12 = 2) (h16 : x13 = x1 + x12) (h17 : 0 ≤ x14) (h18 : x14 ≤ 3) (h19 : x15 = x2 + x14) (h20 : x16 = 4) (h21 : x17 = x2 + x16) (h22 : x18 = 1) (h23 : x19 = x1 + x18) (h24 : 0 ≤ x20) (h25 : x20 ≤ 3) (h26 : x21 = x17 + x20) (h27 : x22 = 8) (h28 : x23 = x2 + x22) (h29 : x24 = 2) (h30 : x25 = x1 + x24) (h31 : 0 ≤ x26) (h32 : x26 ≤ 3) (h33 : x0 = x23 + x26) : x0 < (14400 : Nat) := by omega
theorem o19_50 {x0 : Int} (h0 : 0 ≤ x0) (h1 : x0 ≤ 4) (h2 : 4 - x0 < 0) : False := by omega
theorem o19_51 {x0 : Int} (h0 : x0 = 4) : x0 = 4 := by omega
theorem o19_52 {x0 : Int} (h0 : 1 ≤ x0) (h1 : x0 ≤ 59) (h2 : -2147483648 ≤ x0) (h3 : x0 ≤ 2147483647) : -2147483648 ≤ 4 * x0 := by omega
theorem o19_53 {x0 : Int} (h0 : 1 ≤ x0) (h1 : x0 ≤ 59) (h2 : -2147483648 ≤ x0) (h3 : x0 ≤ 2147483647) : 4 * x0 ≤ 2147483647 := by omega
theorem o19_54 {x0 x1 : Int} (h0 : 1 ≤ x1) (h1 : x1 ≤ 59) (h2 : x0 = 4 * x1) : 4 ≤ x0 := by omega
theorem o19_55 {x0 x1 : Int} (h0 : 1 ≤ x1) (h1 : x1 ≤ 59) (h2 : x0 = 4 * x1) : x0 ≤ 236 := by omega
theorem o19_56 {x0 x1 : Int} (h0 : 1 ≤ x0) (h1 : x0 ≤ 59) (h2 : x1 = 4 * x0) : 1 ≤ x0 := by omega
theorem o19_57 {x0 x1 : Int} (h0 : 1 ≤ x0) (h1 : x0 ≤ 59) (h2 : x1 = 4 * x0) : x0 ≤ 59 := by omega
theorem o19_58 {x0 x1 x3 : Int} {x2 : Nat} (h0 : 0 ≤ x1) (h1 : x1 ≤ 4) (h2 : 4 - x1 < ((x2 + 1 : Nat) : Int)) (h3 : x3 = 4) (h4 : x1 < x3) (h5 : 4 * 1 ≤ x0) (h6 : x0 ≤ 236 * 59) (h7 : -2147483648 ≤ x0) (h8 : x0 ≤ 2147483647) (h9 : -2147483648 ≤ x1) (h10 : x1 ≤ 2147483647) (h11 : -2147483648 ≤ x3) (h12 : x3 ≤ 2147483647) : -2147483648 ≤ x0 + x1 := by omega
theorem o19_59 {x0 x1 x3 : Int} {x2 : Nat} (h0 : 0 ≤ x1) (h1 : x1 ≤ 4) (h2 : 4 - x1 < ((x2 + 1 : Nat) : Int)) (h3 : x3 = 4) (h4 : x1 < x3) (h5 : 4 * 1 ≤ x0) (h6 : x0 ≤ 236 * 59) (h7 : -2147483648 ≤ x0) (h8 : x0 ≤ 2147483647) (h9 : -2147483648 ≤ x1) (h10 : x1 ≤ 2147483647) (h11 : -2147483648 ≤ x3) (h12 : x3 ≤ 2147483647) : x0 + x1 ≤ 2147483647 := by omega
theorem o19_60 {x0 : Int} (h0 : 4 ≤ x0) (h1 : x0 ≤ 14403) (h2 : 14403 - x0 < 0) : False := by omega
theorem o19_61 {x0 x1 x2 : Int} (h0 : 1 ≤ x0) (h1 : x0 ≤ 59) (h2 : x2 = 4 * x0) (h3 : x1 = 1) (h4 : -2147483648 ≤ x0) (h5 : x0 ≤ 2147483647) (h6 : -2147483648 ≤ x1) (h7 : x1 ≤ 2147483647) (h8 : -2147483648 ≤ x2) (h9 : x2 ≤ 2147483647) : -2147483648 ≤ x0 + x1 := by omega
theorem o19_62 {x0 x1 x2 : Int} (h0 : 1 ≤ x0) (h1 : x0 ≤ 59) (h2 : x2 = 4 * x0) (h3 : x1 = 1) (h4 : -2147483648 ≤ x0) (h5 : x0 ≤ 2147483647) (h6 : -2147483648 ≤ x1) (h7 : x1 ≤ 2147483647) (h8 : -2147483648 ≤ x2) (h9 : x2 ≤ 2147483647) : x0 + x1 ≤ 2147483647 := by omega
theorem o19_63 {x0 x1 x2 x3 : Int} (h0 : 1 ≤ x1) (h1 : x1 ≤ 59) (h2 : x2 = 4 * x1) (h3 : x3 = 1) (h4 : x0 = x1 + x3) (h5 : -2147483648 ≤ x0) (h6 : x0 ≤ 2147483647) (h7 : -2147483648 ≤ x1) (h8 : x1 ≤ 2147483647) (h9 : -2147483648 ≤ x2) (h10 : x2 ≤ 2147483647) (h11 : -2147483648 ≤ x3) (h12 : x3 ≤ 2147483647) : -2147483648 ≤ 4 * x0 := by omega
theorem o19_64 {x0 x1 x2 x3 : Int} (h0 : 1 ≤ x1) (h1 : x1 ≤ 59) (h2 : x2 = 4 * x1) (h3 : x3 = 1) (h4 : x0 = x1 + x3) (h5 : -2147483648 ≤ x0) (h6 : x0 ≤ 2147483647) (h7 : -2147483648 ≤ x1) (h8 : x1 ≤ 2147483647) (h9 : -2147483648 ≤ x2) (h10 : x2 ≤ 2147483647) (h11 : -2147483648 ≤ x3) (h12 : x3 ≤ 2147483647) : 4 * x0 ≤ 2147483647 := by omega
theorem o19_65 {x0 x1 x2 x3 x4 x5 : Int} (h0 : 1 ≤ x0) (h1 : x0 ≤ 59) (h2 : x2 = 4 * x0) (h3 : x3 = 1) (h4 : x4 = x0 + x3) (h5 : x5 = 4 * x4) (h6 : x1 = 1) (h7 : -2147483648 ≤ x0) (h8 : x0 ≤ 2147483647) (h9 : -2147483648 ≤ x1) (h10 : x1 ≤ 2147483647) (h11 : -2147483648 ≤ x2) (h12 : x2 ≤ 2147483647) (h13 : -2147483648 ≤ x3) (h14 : x3 ≤ 2147483647) (h15 : -2147483648 ≤ x4) (h16 : x4 ≤ 2147483647) (h17 : -2147483648 ≤ x5) (h18 : x5 ≤ 2147483647) : -2147483648 ≤ x0 + x1 := by omega
theorem o19_66 {x0 x1 x2 x3 x4 x5 : Int} (h0 : 1 ≤ x0) (h1 : x0 ≤ 59) (h2 : x2 = 4 * x0) (h3 : x3 = 1) (h4 : x4 = x0 + x3) (h5 : x5 = 4 * x4) (h6 : x1 = 1) (h7 : -2147483648 ≤ x0) (h8 : x0 ≤ 2147483647) (h9 : -2147483648 ≤ x1) (h10 : x1 ≤ 2147483647) (h11 : -2147483648 ≤ x2) (h12 : x2 ≤ 2147483647) (h13 : -2147483648 ≤ x3) (h14 : x3 ≤ 2147483647) (h15 : -2147483648 ≤ x4) (h16 : x4 ≤ 2147483647) (h17 : -2147483648 ≤ x5) (h18 : x5 ≤ 2147483647) : x0 + x1 ≤ 2147483647 := by omega
theorem o19_67 {x0 x1 x2 x3 x4 x5 x6 : Int} (h0 : 1 ≤ x1) (h1 : x1 ≤ 59) (h2 : x2 = 4 * x1) (h3 : x3 = 1) (h4 : x4 = x1 + x3) (h5 : x0 = 4 * x4) (h6 : x5 = 1) (h7 : x6 = x1 + x5) : 8 ≤ x0 := by omega
theorem o19_68 {x0 x1 x2 x3 x4 x5 x6 : Int} (h0 : 1 ≤ x1) (h1 : x1 ≤ 59) (h2 : x2 = 4 * x1) (h3 : x3 = 1) (h4 : x4 = x1 + x3) (h5 : x0 = 4 * x4) (h6 : x5 = 1) (h7 : x6 = x1 + x5) : x0 ≤ 240 := by omega
theorem o19_69 {x0 x1 x2 x3 x4 x5 x6 : Int} (h0 : 1 ≤ x1) (h1 : x1 ≤ 59) (h2 : x2 = 4 * x1) (h3 : x3 = 1) (h4 : x4 = x1 + x3) (h5 : x5 = 4 * x4) (h6 : x6 = 1) (h7 : x0 = x1 + x6) : 2 ≤ x0 := by omega
theorem o19_70 {x0 x1 x2 x3 x4 x5 x6 : Int} (h0 : 1 ≤ x1) (h1 : x1 ≤ 59) (h2 : x2 = 4 * x1) (h3 : x3 = 1) (h4 : x4 = x1 + x3) (h5 : x5 = 4 * x4) (h6 : x6 = 1) (h7 : x0 = x1 + x6) : x0 ≤ 60 := by omega
theorem o19_71 {x0 x2 x3 x4 : Int} {x1 : Nat} (h0 : 0 ≤ x0) (h1 : x0 ≤ 4) (h2 : 4 - x0 < ((x1 + 1 : Nat) : Int)) (h3 : x2 = 4) (h4 : x0 < x2) (h5 : 4 * 1 ≤ x3) (h6 : x3 ≤ 236 * 59) (h7 : x4 = x3 + x0) (h8 : -2147483648 ≤ x0) (h9 : x0 ≤ 2147483647) (h10 : -2147483648 ≤ x2) (h11 : x2 ≤ 2147483647) (h12 : -2147483648 ≤ x3) (h13 : x3 ≤ 2147483647) (h14 : -2147483648 ≤ x4) (h15 : x4 ≤ 2147483647) : -2147483648 ≤ x0 + 1 := by omega
theorem o19_72 {x0 x2 x3 x4 : Int} {x1 : Nat} (h0 : 0 ≤ x0) (h1 : x0 ≤ 4) (h2 : 4 - x0 < ((x1 + 1 : Nat) : Int)) (h3 : x2 = 4) (h4 : x0 < x2) (h5 : 4 * 1 ≤ x3) (h6 : x3 ≤ 236 * 59) (h7 : x4 = x3 + x0) (h8 : -2147483648 ≤ x0) (h9 : x0 ≤ 2147483647) (h10 : -2147483648 ≤ x2) (h11 : x2 ≤ 2147483647) (h12 : -2147483648 ≤ x3) (h13 : x3 ≤ 2147483647) (h14 : -2147483648 ≤ x4) (h15 : x4 ≤ 2147483647) : x0 + 1 ≤ 2147483647 := by omega
theorem o19_73 {x0 x2 x3 x4 x5 : Int} {x1 : Nat} (h0 : 0 ≤ x2) (h1 : x2 ≤ 4) (h2 : 4 - x2 < ((x1 + 1 : Nat) : Int)) (h3 : x3 = 4) (h4 : x2 < x3) (h5 : 4 * 1 ≤ x4) (h6 : x4 ≤ 236 * 59) (h7 : x5 = x4 + x2) (h8 : x0 = x2 + 1) : 4 - x0 < (x1 : Int) := by omega
theorem o19_74 {x0 x1 x3 x4 x5 : Int} {x2 : Nat} (h0 : 0 ≤ x1) (h1 : x1 ≤ 4) (h2 : 4 - x1 < ((x2 + 1 : Nat) : Int)) (h3 : x3 = 4) (h4 : x1 < x3) (h5 : 4 * 1 ≤ x4) (h6 : x4 ≤ 236 * 59) (h7 : x5 = x4 + x1) (h8 : x0 = x1 + 1) : 0 ≤ x0 := by omega
theorem o19_75 {x0 x1 x3 x4 x5 : Int} {x2 : Nat} (h0 : 0 ≤ x1) (h1 : x1 ≤ 4) (h2 : 4 - x1 < ((x2 + 1 : Nat) : Int)) (h3 : x3 = 4) (h4 : x1 < x3) (h5 : 4 * 1 ≤ x4) (h6 : x4 ≤ 236 * 59) (h7 : x5 = x4 + x1) (h8 : x0 = x1 + 1) : x0 ≤ 4 := by omega
theorem o19_76 {x0 x2 : Int} {x1 : Nat} (h0 : 4 ≤ x0) (h1 : x0 ≤ 14403) (h2 : 14403 - x0 < ((x1 + 1 : Nat) : Int)) (h3 : 8 * 2 ≤ x2) (h4 : x2 ≤ 240 * 60) (h5 : x0 < x2) : 0 ≤ x0 := by omega
theorem o19_77 {x0 x2 : Int} {x1 : Nat} (h0 : 4 ≤ x0) (h1 : x0 ≤ 14403) (h2 : 14403 - x0 < ((x1 + 1 : Nat) : Int)) (h3 : 8 * 2 ≤ x2) (h4 : x2 ≤ 240 * 60) (h5 : x0 < x2) : x0 < (14400 : Nat) := by omega
theorem o19_78 {x0 x2 : Int} {x1 : Nat} (h0 : 4 ≤ x0) (h1 : x0 ≤ 14403) (h2 : 14403 - x0 < ((x1 + 1 : Nat) : Int)) (h3 : 8 * 2 ≤ x2) (h4 : x2 ≤ 240 * 60) (h5 : x0 < x2) (h6 : -2147483648 ≤ x0) (h7 : x0 ≤ 2147483647) (h8 : -2147483648 ≤ x2) (h9 : x2 ≤ 2147483647) : -2147483648 ≤ x0 + 4 := by omega
theorem o19_79 {x0 x2 : Int} {x1 : Nat} (h0 : 4 ≤ x0) (h1 : x0 ≤ 14403) (h2 : 14403 - x0 < ((x1 + 1 : Nat) : Int)) (h3 : 8 * 2 ≤ x2) (h4 : x2 ≤ 240 * 60) (h5 : x0 < x2) (h6 : -2147483648 ≤ x0) (h7 : x0 ≤ 2147483647) (h8 : -2147483648 ≤ x2) (h9 : x2 ≤ 2147483647) : x0 + 4 ≤ 2147483647 := by omega
theorem o19_80 {x0 x2 x3 : Int} {x1 : Nat} (h0 : 4 ≤ x2) (h1 : x2 ≤ 14403) (h2 : 14403 - x2 < ((x1 + 1 : Nat) : Int)) (h3 : 8 * 2 ≤ x3) (h4 : x3 ≤ 240 * 60) (h5 : x2 < x3) (h6 : x0 = x2 + 4) : 14403 - x0 < (x1 : Int) := by omega
theorem o19_81 {x0 x1 x3 : Int} {x2 : Nat} (h0 : 4 ≤ x1) (h1 : x1 ≤ 14403) (h2 : 14403 - x1 < ((x2 + 1 : Nat) : Int)) (h3 : 8 * 2 ≤ x3) (h4 : x3 ≤ 240 * 60) (h5 : x1 < x3) (h6 : x0 = x1 + 4) : 4 ≤ x0 := by omega
theorem o19_82 {x0 x1 x3 : Int} {x2 : Nat} (h0 : 4 ≤ x1) (h1 : x1 ≤ 14403) (h2 : 14403 - x1 < ((x2 + 1 : Nat) : Int)) (h3 : 8 * 2 ≤ x3) (h4 : x3 ≤ 240 * 60) (h5 : x1 < x3) (h6 : x0 = x1 + 4) : x0 ≤ 14403 := by omega
theorem o19_83 {x0 x1 x3 x4 : Int} {x2 : Nat} (h0 : 0 ≤ x1) (h1 : x1 ≤ 4) (h2 : 4 - x1 < ((x2 + 1 : Nat) : Int)) (h3 : x3 = 4) (h4 : x1 < x3) (h5 : 4 * 1 ≤ x4) (h6 : x4 ≤ 236 * 59) (h7 : x0 = x4 + x1) : 14403 - x0 < (((14403 - x0 + 1).toNat : Nat) : Int) := by omega
theorem o19_84 {x0 x1 x3 x4 : Int} {x2 : Nat} (h0 : 0 ≤ x1) (h1 : x1 ≤ 4) (h2 : 4 - x1 < ((x2 + 1 : Nat) : Int)) (h3 : x3 = 4) (h4 : x1 < x3) (h5 : 4 * 1 ≤ x4) (h6 : x4 ≤ 236 * 59) (h7 : x0 = x4 + x1) : 4 ≤ x0 := by omega
theorem o19_85 {x0 x1 x3 x4 : Int} {x2 : Nat} (h0 : 0 ≤ x1) (h1 : x1 ≤ 4) (h2 : 4 - x1 < ((x2 + 1 : Nat) : Int)) (h3 : x3 = 4) (h4 : x1 < x3) (h5 : 4 * 1 ≤ x4) (h6 : x4 ≤ 236 * 59) (h7 : x0 = x4 + x1) : x0 ≤ 14403 := by omega
theorem o19_86 {x0 : Int} (h0 : x0 = 0) : 4 - x0 < (((4 - x0 + 1).toNat : Nat) : Int) := by omega
theorem o19_87 {x0 : Int} (h0 : x0 = 0) : 0 ≤ x0 := by omega
theorem o19_88 {x0 : Int} (h0 : x0 = 0) : x0 ≤ 4 := by omega
theorem o19_89 {x0 : Int} (h0 : 0 ≤ x0) (h1 : x0 ≤ 119) (h2 : 119 - x0 < 0) : False := by omega
theorem o19_90 {x0 : Int} (h0 : x0 = 2) : x0 = 2 := by omega
theorem o19_91 {x0 : Int} (h0 : 0 ≤ x0) (h1 : x0 ≤ 59) (h2 : -2147483648 ≤ x0) (h3 : x0 ≤ 2147483647) : -2147483648 ≤ 2 * x0 := by omega
theorem o19_92 {x0 : Int} (h0 : 0 ≤ x0) (h1 : x0 ≤ 59) (h2 : -2147483648 ≤ x0) (h3 : x0 ≤ 2147483647) : 2 * x0 ≤ 2147483647 := by omega
theorem o19_93 {x0 : Int} (h0 : x0 = 0) : x0 ≤ 1 := by omega
theorem o19_94 {x0 x1 x3 x4 : Int} {x2 : Nat} (h0 : 0 ≤ x0) (h1 : x0 ≤ 59) (h2 : 0 ≤ x1) (h3 : x1 ≤ 119) (h4 : 119 - x1 < ((x2 + 1 : Nat) : Int)) (h5 : x3 = 2 * x0) (h6 : x1 ≤ x3) (h7 : x1 ≤ x4) : 0 ≤ x0 := by omega
theorem o19_95 {x0 x1 x3 x4 : Int} {x2 : Nat} (h0 : 0 ≤ x0) (h1 : x0 ≤ 59) (h2 : 0 ≤ x1) (h3 : x1 ≤ 119) (h4 : 119 - x1 < ((x2 + 1 : Nat) : Int)) (h5 : x3 = 2 * x0) (h6 : x1 ≤ x3) (h7 : x1 ≤ x4) : x0 ≤ 59 := by omega
theorem o19_96 {x0 x1 x2 x4 x5 : Int} {x3 : Nat} (h0 : 0 ≤ x2) (h1 : x2 ≤ 59) (h2 : 0 ≤ x1) (h3 : x1 ≤ 119) (h4 : 119 - x1 < ((x3 + 1 : Nat) : Int)) (h5 : x4 = 2 * x2) (h6 : x1 ≤ x4) (h7 : x1 ≤ x5) (h8 : 0 * 0 ≤ x0) (h9 : x0 ≤ 59 * 59) (h10 : -2147483648 ≤ x0) (h11 : x0 ≤ 2147483647) (h12 : -2147483648 ≤ x1) (h13 : x1 ≤ 2147483647) (h14 : -2147483648 ≤ x2) (h15 : x2 ≤ 2147483647) (h16 : -2147483648 ≤ x4) (h17 : x4 ≤ 2147483647) (h18 : -2147483648 ≤ x5) (h19 : x5 ≤ 2147483647) : -2147483648 ≤ x0 + x1 := by omega
theorem o19_97 {x0 x1 x2 x4 x5 : Int} {x3 : Nat} (h0 : 0 ≤ x2) (h1 : x2 ≤ 59) (h2 : 0 ≤ x1) (h3 : x1 ≤ 119) (h4 : 119 - x1 < ((x3 + 1 : Nat) : Int)) (h5 : x4 = 2 * x2) (h6 : x1 ≤ x4) (h7 : x1 ≤ x5) (h8 : 0 * 0 ≤ x0) (h9 : x0 ≤ 59 * 59) (h10 : -2147483648 ≤ x0) (h11 : x0 ≤ 2147483647) (h12 : -2147483648 ≤ x1) (h13 : x1 ≤ 2147483647) (h14 : -2147483648 ≤ x2) (h15 : x2 ≤ 2147483647) (h16 : -2147483648 ≤ x4) (h17 : x4 ≤ 2147483647) (h18 : -2147483648 ≤ x5) (h19 : x5 ≤ 2147483647) : x0 + x1 ≤ 2147483647 := by omega
theorem o19_98 {x0 x1 x2 x4 x5 x6 : Int} {x3 : Nat} (h0 : 0 ≤ x1) (h1 : x1 ≤ 59) (h2 : 0 ≤ x2) (h3 : x2 ≤ 119) (h4 : 119 - x2 < ((x3 + 1 : Nat) : Int)) (h5 : x4 = 2 * x1) (h6 : x2 ≤ x4) (h7 : x2 ≤ x5) (h8 : 0 * 0 ≤ x6) (h9 : x6 ≤ 59 * 59) (h10 : x0 = x6 + x2) (h11 : -2147483648 ≤ x0) (h12 : x0 ≤ 2147483647) (h13 : -2147483648 ≤ x1) (h14 : x1 ≤ 2147483647) (h15 : -2147483648 ≤ x2) (h16 : x2 ≤ 2147483647) (h17 : -2147483648 ≤ x4) (h18 : x4 ≤ 2147483647) (h19 : -2147483648 ≤ x5) (h20 : x5 ≤ 2147483647) (h21 : -2147483648 ≤ x6) (h22 : x6 ≤ 2147483647) : -2147483648 ≤ 4 * x0 := by omega
theorem o19_99 {x0 x1 x2 x4 x5 x6 : Int} {x3 : Nat} (h0 : 0 ≤ x1) (h1 : x1 ≤ 59) (h2 : 0 ≤ x2) (h3 : x2 ≤ 119) (h4 : 119 - x2 < ((x3 + 1 : Nat) : Int)) (h5 : x4 = 2 * x1) (h6 : x2 ≤ x4) (h7 : x2 ≤ x5) (h8 : 0 * 0 ≤ x6) (h9 : x6 ≤ 59 * 59) (h10 : x0 = x6 + x2) (h11 : -2147483648 ≤ x0) (h12 : x0 ≤ 2147483647) (h13 : -2147483648 ≤ x1) (h14 : x1 ≤ 2147483647) (h15 : -2147483648 ≤ x2) (h16 : x2 ≤ 2147483647) (h17 : -2147483648 ≤ x4) (h18 : x4 ≤ 2147483647) (h19 : -2147483648 ≤ x5) (h20 : x5 ≤ 2147483647) (h21 : -2147483648 ≤ x6) (h22 : x6 ≤ 2147483647) : 4 * x0 ≤ 2147483647 := by omega
theorem o19_100 {x0 x1 x2 x3 x5 x6 x7 x8 : Int} {x4 : Nat} (h0 : 0 ≤ x2) (h1 : x2 ≤ 59) (h2 : 0 ≤ x3) (h3 : x3 ≤ 119) (h4 : 119 - x3 < ((x4 + 1 : Nat) : Int)) (h5 : x5 = 2 * x2) (h6 : x3 ≤ x5) (h7 : x3 ≤ x6) (h8 : 0 * 0 ≤ x7) (h9 : x7 ≤ 59 * 59) (h10 : x8 = x7 + x3) (h11 : x0 = 4 * x8) (h12 : 0 ≤ x1) (h13 : x1 ≤ 3) (h14 : -2147483648 ≤ x0) (h15 : x0 ≤ 2147483647) (h16 : -2147483648 ≤ x1) (h17 : x1 ≤ 2147483647) (h18 : -2147483648 ≤ x2) (h19 : x2 ≤ 2147483647) (h20 : -2147483648 ≤ x3) (h21 : x3 ≤ 2147483647) (h22 : -2147483648 ≤ x5) (h23 : x5 ≤ 2147483647) (h24 : -2147483648 ≤ x6) (h25 : x6 ≤ 2147483647) (h26 : -2147483648 ≤ x7) (h27 : x7 ≤ 2147483647) (h28 : -2147483648 ≤ x8) (h29 : x8 ≤ 2147483647) : -2147483648 ≤ x0 + x1 := by omega
theorem o19_101 {x0 x1 x2 x3 x5 x6 x7 x8 : Int} {x4 : Nat} (h0 : 0 ≤ x2) (h1 : x2 ≤ 59) (h2 : 0 ≤ x3) (h3 : x3 ≤ 119) (h4 : 119 - x3 < ((x4 + 1 : Nat) : Int)) (h5 : x5 = 2 * x2) (h6 : x3 ≤ x5) (h7 : x3 ≤ x6) (h8 : 0 * 0 ≤ x7) (h9 : x7 ≤ 59 * 59) (h10 : x8 = x7 + x3) (h11 : x0 = 4 * x8) (h12 : 0 ≤ x1) (h13 : x1 ≤ 3) (h14 : -2147483648 ≤ x0) (h15 : x0 ≤ 2147483647) (h16 : -2147483648 ≤ x1) (h17 : x1 ≤ 2147483647) (h18 : -2147483648 ≤ x2) (h19 : x2 ≤ 2147483647) (h20 : -2147483648 ≤ x3) (h21 : x3 ≤ 2147483647) (h22 : -2147483648 ≤ x5) (h23 : x5 ≤ 2147483647) (h24 : -2147483648 ≤ x6) (h25 : x6 ≤ 2147483647) (h26 : -2147483648 ≤ x7) (h27 : x7 ≤ 2147483647) (h28 : -2147483648 ≤ x8) (h29 : x8 ≤ 2147483647) : x0 + x1 ≤ 2147483647 := by omega
theorem o19_102 {x0 x1 x2 x4 x5 x6 x7 x8 x9 : Int} {x3 : Nat} (h0 : 0 ≤ x1) (h1 : x1 ≤ 59) (h2 : 0 ≤ x2) (h3 : x2 ≤ 119) (h4 : 119 - x2 < ((x3 + 1 : Nat) : Int)) (h5 : x4 = 2 * x1) (h6 : x2 ≤ x4) (h7 : x2 ≤ x5) (h8 : 0 * 0 ≤ x6) (h9 : x6 ≤ 59 * 59) (h10 : x7 = x6 + x2) (h11 : x8 = 4 * x7) (h12 : 0 ≤ x9) (h13 : x9 ≤ 3) (h14 : x0 = x8 + x9) : 0 ≤ x0 := by omega
theorem o19_103 {x0 x1 x2 x4 x5 x6 x7 x8 x9 : Int} {x3 : Nat} (h0 : 0 ≤ x1) (h1 : x1 ≤ 59) (h2 : 0 ≤ x2) (h3 : x2 ≤ 119) (h4 : 119 - x2 < ((x3 + 1 : Nat) : Int)) (h5 : x4 = 2 * x1) (h6 : x2 ≤ x4) (h7 : x2 ≤ x5) (h8 : 0 * 0 ≤ x6) (h9 : x6 ≤ 59 * 59) (h10 : x7 = x6 + x2) (h11 : x8 = 4 * x7) (h12 : 0 ≤ x9) (h13 : x9 ≤ 3) (h14 : x0 = x8 + x9) : x0 < (14400 : Nat) := by omega
theorem o19_104 {x0 : Int} (h0 : x0 = 1) : x0 = 1 := by omega
theorem o19_105 {x0 x1 x3 x4 x5 x6 x7 x8 x9 : Int} {x2 : Nat} (h0 : 0 ≤ x1) (h1 : x1 ≤ 59) (h2 : 0 ≤ x0) (h3 : x0 ≤ 119) (h4 : 119 - x0 < ((x2 + 1 : Nat) : Int)) (h5 : x3 = 2 * x1) (h6 : x0 ≤ x3) (h7 : x0 ≤ x4) (h8 : 0 * 0 ≤ x5) (h9 : x5 ≤ 59 * 59) (h10 : x6 = x5 + x0) (h11 : x7 = 4 * x6) (h12 : 0 ≤ x8) (h13 : x8 ≤ 3) (h14 : x9 = x7 + x8) (h15 : -2147483648 ≤ x0) (h16 : x0 ≤ 2147483647) (h17 : -2147483648 ≤ x1) (h18 : x1 ≤ 2147483647) (h19 : -2147483648 ≤ x3) (h20 : x3 ≤ 2147483647) (h21 : -2147483648 ≤ x4) (h22 : x4 ≤ 2147483647) (h23 : -2147483648 ≤ x5) (h24 : x5 ≤ 2147483647) (h25 : -2147483648 ≤ x6) (h26 : x6 ≤ 2147483647) (h27 : -2147483648 ≤ x7) (h28 : x7 ≤ 2147483647) (h29 : -2147483648 ≤ x8) (h30 : x8 ≤ 2147483647) (h31 : -2147483648 ≤ x9) (h32 : x9 ≤ 2147483647) : -2147483648 ≤ x0 + 1 := by omega
theorem o19_106 {x0 x1 x3 x4 x5 x6 x7 x8 x9 : Int} {x2 : Nat} (h0 : 0 ≤ x1) (h1 : x1 ≤ 59) (h2 : 0 ≤ x0) (h3 : x0 ≤ 119) (h4 : 119 - x0 < ((x2 + 1 : Nat) : Int)) (h5 : x3 = 2 * x1) (h6 : x0 ≤ x3) (h7 : x0 ≤ x4) (h8 : 0 * 0 ≤ x5) (h9 : x5 ≤ 59 * 59) (h10 : x6 = x5 + x0) (h11 : x7 = 4 * x6) (h12 : 0 ≤ x8) (h13 : x8 ≤ 3) (h14 : x9 = x7 + x8) (h15 : -2147483648 ≤ x0) (h16 : x0 ≤ 2147483647) (h17 : -2147483648 ≤ x1) (h18 : x1 ≤ 2147483647) (h19 : -2147483648 ≤ x3) (h20 : x3 ≤ 2147483647) (h21 : -2147483648 ≤ x4) (h22 : x4 ≤ 2147483647) (h23 : -2147483648 ≤ x5) (h24 : x5 ≤ 2147483647) (h25 : -2147483648 ≤ x6) (h26 : x6 ≤ 2147483647) (h27 : -2147483648 ≤ x7) (h28 : x7 ≤ 2147483647) (h29 : -2147483648 ≤ x8) (h30 : x8 ≤ 2147483647) (h31 : -2147483648 ≤ x9) (h32 : x9 ≤ 2147483647) : x0 + 1 ≤ 2147483647 := by omega
theorem o19_107 {x0 x2 x3 x4 x5 x6 x7 x8 x9 x10 : Int} {x1 : Nat} (h0 : 0 ≤ x2) (h1 : x2 ≤ 59) (h2 : 0 ≤ x3) (h3 : x3 ≤ 119) (h4 : 119 - x3 < ((x1 + 1 : Nat) : Int)) (h5 : x4 = 2 * x2) (h6 : x3 ≤ x4) (h7 : x3 ≤ x5) (h8 : 0 * 0 ≤ x6) (h9 : x6 ≤ 59 * 59) (h10 : x7 = x6 + x3) (h11 : x8 = 4 * x7) (h12 : 0 ≤ x9) (h13 : x9 ≤ 3) (h14 : x10 = x8 + x9) (h15 : x0 = x3 + 1) : 119 - x0 < (x1 : Int) := by omega
theorem o19_108 {x0 x1 x2 x4 x5 x6 x7 x8 x9 x10 : Int} {x3 : Nat} (h0 : 0 ≤ x1) (h1 : x1 ≤ 59) (h2 : 0 ≤ x2) (h3 : x2 ≤ 119) (h4 : 119 - x2 < ((x3 + 1 : Nat) : Int)) (h5 : x4 = 2 * x1) (h6 : x2 ≤ x4) (h7 : x2 ≤ x5) (h8 : 0 * 0 ≤ x6) (h9 : x6 ≤ 59 * 59) (h10 : x7 = x6 + x2) (h11 : x8 = 4 * x7) (h12 : 0 ≤ x9) (h13 : x9 ≤ 3) (h14 : x10 = x8 + x9) (h15 : x0 = x2 + 1) : 0 ≤ x0 := by omega
theorem o19_109 {x0 x1 x2 x4 x5 x6 x7 x8 x9 x10 : Int} {x3 : Nat} (h0 : 0 ≤ x1) (h1 : x1 ≤ 59) (h2 : 0 ≤ x2) (h3 : x2 ≤ 119) (h4 : 119 - x2 < ((x3 + 1 : Nat) : Int)) (h5 : x4 = 2 * x1) (h6 : x2 ≤ x4) (h7 : x2 ≤ x5) (h8 : 0 * 0 ≤ x6) (h9 : x6 ≤ 59 * 59) (h10 : x7 = x6 + x2) (h11 : x8 = 4 * x7) (h12 : 0 ≤ x9) (h13 : x9 ≤ 3) (h14 : x10 = x8 + x9) (h15 : x0 = x2 + 1) : x0 ≤ 119 := by omega
theorem o19_110 {x0 : Int} (h0 : x0 = 1) : 0 ≤ x0 := by omega
theorem o19_111 {x0 : Int} (h0 : x0 = 1) : x0 ≤ 1 := by omega
theorem o19_112 {x0 : Int} (h0 : x0 = 0) : 119 - x0 < (((119 - x0 + 1).toNat : Nat) : Int) := by omega
theorem o19_113 {x0 : Int} (h0 : x0 = 0) : x0 ≤ 119 := by omega
theorem o19_114 {x0 : Int} (h0 : 1 ≤ x0) (h1 : x0 ≤ 60) (h2 : 60 - x0 < 0) : False := by omega
theorem o19_115 {x0 x2 : Int} {x1 : Nat} (h0 : 1 ≤ x0) (h1 : x0 ≤ 60) (h2 : 60 - x0 < ((x1 + 1 : Nat) : Int)) (h3 : 0 ≤ x2) (h4 : x2 ≤ 60) (h5 : x0 < x2) (h6 : -2147483648 ≤ x0) (h7 : x0 ≤ 2147483647) (h8 : -2147483648 ≤ x2) (h9 : x2 ≤ 2147483647) : -2147483648 ≤ 4 * x0 := by omega
theorem o19_116 {x0 x2 : Int} {x1 : Nat} (h0 : 1 ≤ x0) (h1 : x0 ≤ 60) (h2 : 60 - x0 < ((x1 + 1 : Nat) : Int)) (h3 : 0 ≤ x2) (h4 : x2 ≤ 60) (h5 : x0 < x2) (h6 : -2147483648 ≤ x0) (h7 : x0 ≤ 2147483647) (h8 : -2147483648 ≤ x2) (h9 : x2 ≤ 2147483647) : 4 * x0 ≤ 2147483647 := by omega
theorem o19_117 {x0 x1 x3 : Int} {x2 : Nat} (h0 : 1 ≤ x1) (h1 : x1 ≤ 60) (h2 : 60 - x1 < ((x2 + 1 : Nat) : Int)) (h3 : 0 ≤ x3) (h4 : x3 ≤ 60) (h5 : x1 < x3) (h6 : x0 = 4 * x1) : 4 ≤ x0 := by omega
theorem o19_118 {x0 x1 x3 : Int} {x2 : Nat} (h0 : 1 ≤ x1) (h1 : x1 ≤ 60) (h2 : 60 - x1 < ((x2 + 1 : Nat) : Int)) (h3 : 0 ≤ x3) (h4 : x3 ≤ 60) (h5 : x1 < x3) (h6 : x0 = 4 * x1) : x0 ≤ 236 := by omega
theorem o19_119 {x0 x2 x3 : Int} {x1 : Nat} (h0 : 1 ≤ x0) (h1 : x0 ≤ 60) (h2 : 60 - x0 < ((x1 + 1 : Nat) : Int)) (h3 : 0 ≤ x2) (h4 : x2 ≤ 60) (h5 : x0 < x2) (h6 : x3 = 4 * x0) : 1 ≤ x0 := by omega
theorem o19_120 {x0 x2 x3 : Int} {x1 : Nat} (h0 : 1 ≤ x0) (h1 : x0 ≤ 60) (h2 : 60 - x0 < ((x1 + 1 : Nat) : Int)) (h3 : 0 ≤ x2) (h4 : x2 ≤ 60) (h5 : x0 < x2) (h6 : x3 = 4 * x0) : x0 ≤ 59 := by omega
theorem o19_121 {x0 : Int} (h0 : 4 ≤ x0) (h1 : x0 ≤ 14400) (h2 : 14400 - x0 < 0) : False := by omega
theorem o19_122 {x0 x1 x3 x4 : Int} {x2 : Nat} (h0 : 1 ≤ x0) (h1 : x0 ≤ 60) (h2 : 60 - x0 < ((x2 + 1 : Nat) : Int)) (h3 : 0 ≤ x3) (h4 : x3 ≤ 60) (h5 : x0 < x3) (h6 : x4 = 4 * x0) (h7 : x1 = 1) (h8 : -2147483648 ≤ x0) (h9 : x0 ≤ 2147483647) (h10 : -2147483648 ≤ x1) (h11 : x1 ≤ 2147483647) (h12 : -2147483648 ≤ x3) (h13 : x3 ≤ 2147483647) (h14 : -2147483648 ≤ x4) (h15 : x4 ≤ 2147483647) : -2147483648 ≤ x0 + x1 := by omega
theorem o19_123 {x0 x1 x3 x4 : Int} {x2 : Nat} (h0 : 1 ≤ x0) (h1 : x0 ≤ 60) (h2 : 60 - x0 < ((x2 + 1 : Nat) : Int)) (h3 : 0 ≤ x3) (h4 : x3 ≤ 60) (h5 : x0 < x3) (h6 : x4 = 4 * x0) (h7 : x1 = 1) (h8 : -2147483648 ≤ x0) (h9 : x0 ≤ 2147483647) (h10 : -2147483648 ≤ x1) (h11 : x1 ≤ 2147483647) (h12 : -2147483648 ≤ x3) (h13 : x3 ≤ 2147483647) (h14 : -2147483648 ≤ x4) (h15 : x4 ≤ 2147483647) : x0 + x1 ≤ 2147483647 := by omega
theorem o19_124 {x0 x1 x3 x4 x5 : Int} {x2 : Nat} (h0 : 1 ≤ x1) (h1 : x1 ≤ 60) (h2 : 60 - x1 < ((x2 + 1 : Nat) : Int)) (h3 : 0 ≤ x3) (h4 : x3 ≤ 60) (h5 : x1 < x3) (h6 : x4 = 4 * x1) (h7 : x5 = 1) (h8 : x0 = x1 + x5) (h9 : -2147483648 ≤ x0) (h10 : x0 ≤ 2147483647) (h11 : -2147483648 ≤ x1) (h12 : x1 ≤ 2147483647) (h13 : -2147483648 ≤ x3) (h14 : x3 ≤ 2147483647) (h15 : -2147483648 ≤ x4) (h16 : x4 ≤ 2147483647) (h17 : -2147483648 ≤ x5) (h18 : x5 ≤ 2147483647) : -2147483648 ≤ 4 * x0 := by omega
theorem o19_125 {x0 x1 x3 x4 x5 : Int} {x2 : Nat} (h0 : 1 ≤ x1) (h1 : x1 ≤ 60) (h2 : 60 - x1 < ((x2 + 1 : Nat) : Int)) (h3 : 0 ≤ x3) (h4 : x3 ≤ 60) (h5 : x1 < x3) (h6 : x4 = 4 * x1) (h7 : x5 = 1) (h8 : x0 = x1 + x5) (h9 : -2147483648 ≤ x0) (h10 : x0 ≤ 2147483647) (h11 : -2147483648 ≤ x1) (h12 : x1 ≤ 2147483647) (h13 : -2147483648 ≤ x3) (h14 : x3 ≤ 2147483647) (h15 : -2147483648 ≤ x4) (h16 : x4 ≤ 2147483647) (h17 : -2147483648 ≤ x5) (h18 : x5 ≤ 2147483647) : 4 * x0 ≤ 2147483647 := by omega
theorem o19_126 {x0 x1 x3 x4 x5 x6 x7 : Int} {x2 : Nat} (h0 : 1 ≤ x0) (h1 : x0 ≤ 60) (h2 : 60 - x0 < ((x2 + 1 : Nat) : Int)) (h3 : 0 ≤ x3) (h4 : x3 ≤ 60) (h5 : x0 < x3) (h6 : x4 = 4 * x0) (h7 : x5 = 1) (h8 : x6 = x0 + x5) (h9 : x7 = 4 * x6) (h10 : x1 = 1) (h11 : -2147483648 ≤ x0) (h12 : x0 ≤ 2147483647) (h13 : -2147483648 ≤ x1) (h14 : x1 ≤ 2147483647) (h15 : -2147483648 ≤ x3) (h16 : x3 ≤ 2147483647) (h17 : -2147483648 ≤ x4) (h18 : x4 ≤ 2147483647) (h19 : -2147483648 ≤ x5) (h20 : x5 ≤ 2147483647) (h21 : -2147483648 ≤ x6) (h22 : x6 ≤ 2147483647) (h23 : -2147483648 ≤ x7) (h24 : x7 ≤ 2147483647) : -2147483648 ≤ x0 + x1 := by omega
theorem o19_127 {x0 x1 x3 x4 x5 x6 x7 : Int} {x2 : Nat} (h0 : 1 ≤ x0) (h1 : x0 ≤ 60) (h2 : 60 - x0 < ((x2 + 1 : Nat) : Int)) (h3 : 0 ≤ x3) (h4 : x3 ≤ 60) (h5 : x0 < x3) (h6 : x4 = 4 * x0) (h7 : x5 = 1) (h8 : x6 = x0 + x5) (h9 : x7 = 4 * x6) (h10 : x1 = 1) (h11 : -2147483648 ≤ x0) (h12 : x0 ≤ 2147483647) (h13 : -2147483648 ≤ x1) (h14 : x1 ≤ 2147483647) (h15 : -2147483648 ≤ x3) (h16 : x3 ≤ 2147483647) (h17 : -2147483648 ≤ x4) (h18 : x4 ≤ 2147483647) (h19 : -2147483648 ≤ x5) (h20 : x5 ≤ 2147483647) (h21 : -2147483648 ≤ x6) (h22 : x6 ≤ 2147483647) (h23 : -2147483648 ≤ x7) (h24 : x7 ≤ 2147483647) : x0 + x1 ≤ 2147483647 := by omega
theorem o19_128 {x0 x1 x3 x4 x5 x6 x7 x8 : Int} {x2 : Nat} (h0 : 1 ≤ x1) (h1 : x1 ≤ 60) (h2 : 60 - x1 < ((x2 + 1 : Nat) : Int)) (h3 : 0 ≤ x3) (h4 : x3 ≤ 60) (h5 : x1 < x3) (h6 : x4 = 4 * x1) (h7 : x5 = 1) (h8 : x6 = x1 + x5) (h9 : x0 = 4 * x6) (h10 : x7 = 1) (h11 : x8 = x1 + x7) : 8 ≤ x0 := by omega
theorem o19_129 {x0 x1 x3 x4 x5 x6 x7 x8 : Int} {x2 : Nat} (h0 : 1 ≤ x1) (h1 : x1 ≤ 60) (h2 : 60 - x1 < ((x2 + 1 : Nat) : Int)) (h3 : 0 ≤ x3) (h4 : x3 ≤ 60) (h5 : x1 < x3) (h6 : x4 = 4 * x1) (h7 : x5 = 1) (h8 : x6 = x1 + x5) (h9 : x0 = 4 * x6) (h10 : x7 = 1) (h11 : x8 = x1 + x7) : x0 ≤ 240 := by omega
theorem o19_130 {x0 x1 x3 x4 x5 x6 x7 x8 : Int} {x2 : Nat} (h0 : 1 ≤ x1) (h1 : x1 ≤ 60) (h2 : 60 - x1 < ((x2 + 1 : Nat) : Int)) (h3 : 0 ≤ x3) (h4 : x3 ≤ 60) (h5 : x1 < x3) (h6 : x4 = 4 * x1) (h7 : x5 = 1) (h8 : x6 = x1 + x5) (h9 : x7 = 4 * x6) (h10 : x8 = 1) (h11 : x0 = x1 + x8) : 2 ≤ x0 := by omega
theorem o19_131 {x0 x1 x3 x4 x5 x6 x7 x8 : Int} {x2 : Nat} (h0 : 1 ≤ x1) (h1 : x1 ≤ 60) (h2 : 60 - x1 < ((x2 + 1 : Nat) : Int)) (h3 : 0 ≤ x3) (h4 : x3 ≤ 60) (h5 : x1 < x3) (h6 : x4 = 4 * x1) (h7 : x5 = 1) (h8 : x6 = x1 + x5) (h9 : x7 = 4 * x6) (h10 : x8 = 1) (h11 : x0 = x1 + x8) : x0 ≤ 60 := by omega
theorem o19_132 {x0 x1 x3 x4 x5 x6 x7 x8 x9 : Int} {x2 : Nat} (h0 : 1 ≤ x0) (h1 : x0 ≤ 60) (h2 : 60 - x0 < ((x2 + 1 : Nat) : Int)) (h3 : 0 ≤ x3) (h4 : x3 ≤ 60) (h5 : x0 < x3) (h6 : x4 = 4 * x0) (h7 : x5 = 1) (h8 : x6 = x0 + x5) (h9 : x7 = 4 * x6) (h10 : x8 = 1) (h11 : x9 = x0 + x8) (h12 : x1 = 1) (h13 : -2147483648 ≤ x0) (h14 : x0 ≤ 2147483647) (h15 : -2147483648 ≤ x1) (h16 : x1 ≤ 2147483647) (h17 : -2147483648 ≤ x3) (h18 : x3 ≤ 2147483647) (h19 : -2147483648 ≤ x4) (h20 : x4 ≤ 2147483647) (h21 : -2147483648 ≤ x5) (h22 : x5 ≤ 2147483647) (h23 : -2147483648 ≤ x6) (h24 : x6 ≤ 2147483647) (h25 : -2147483648 ≤ x7) (h26 : x7 ≤ 2147483647) (h27 : -2147483648 ≤ x8) (h28 : x8 ≤ 2147483647) (h29 : -2147483648 ≤ x9) (h30 : x9 ≤ 2147483647) : -2147483648 ≤ x0 - x1 := by omega
theorem o19_133 {x0 x1 x3 x4 x5 x6 x7 x8 x9 : Int} {x2 : Nat} (h0 : 1 ≤ x0) (h1 : x0 ≤ 60) (h2 : 60 - x0 < ((x2 + 1 : Nat) : Int)) (h3 : 0 ≤ x3) (h4 : x3 ≤ 60) (h5 : x0 < x3) (h6 : x4 = 4 * x0) (h7 : x5 = 1) (h8 : x6 = x0 + x5) (h9 : x7 = 4 * x6) (h10 : x8 = 1) (h11 : x9 = x0 + x8) (h12 : x1 = 1) (h13 : -2147483648 ≤ x0) (h14 : x0 ≤ 2147483647) (h15 : -2147483648 ≤ x1) (h16 : x1 ≤ 2147483647) (h17 : -2147483648 ≤ x3) (h18 : x3 ≤ 2147483647) (h19 : -2147483648 ≤ x4) (h20 : x4 ≤ 2147483647) (h21 : -2147483648 ≤ x5) (h22 : x5 ≤ 2147483647) (h23 : -2147483648 ≤ x6) (h24 : x6 ≤ 2147483647) (h25 : -2147483648 ≤ x7) (h26 : x7 ≤ 2147483647) (h27 : -2147483648 ≤ x8) (h28 : x8 ≤ 2147483647) (h29 : -2147483648 ≤ x9) (h30 : x9 ≤ 2147483647) : x0 - x1 ≤ 2147483647 := by omega
theorem o19_134 {x0 x1 x3 x4 x5 x6 x7 x8 x9 x10 : Int} {x2 : Nat} (h0 : 1 ≤ x1) (h1 : x1 ≤ 60) (h2 : 60 - x1 < ((x2 + 1 : Nat) : Int)) (h3 : 0 ≤ x3) (h4 : x3 ≤ 60) (h5 : x1 < x3) (h6 : x4 = 4 * x1) (h7 : x5 = 1) (h8 : x6 = x1 + x5) (h9 : x7 = 4 * x6) (h10 : x8 = 1) (h11 : x9 = x1 + x8) (h12 : x10 = 1) (h13 : x0 = x1 - x10) (h14 : -2147483648 ≤ x0) (h15 : x0 ≤ 2147483647) (h16 : -2147483648 ≤ x1) (h17 : x1 ≤ 2147483647) (h18 : -2147483648 ≤ x3) (h19 : x3 ≤ 2147483647) (h20 : -2147483648 ≤ x4) (h21 : x4 ≤ 2147483647) (h22 : -2147483648 ≤ x5) (h23 : x5 ≤ 2147483647) (h24 : -2147483648 ≤ x6) (h25 : x6 ≤ 2147483647) (h26 : -2147483648 ≤ x7) (h27 : x7 ≤ 2147483647) (h28 : -2147483648 ≤ x8) (h29 : x8 ≤ 2147483647) (h30 : -2147483648 ≤ x9) (h31 : x9 ≤ 2147483647) (h32 : -2147483648 ≤ x10) (h33 : x10 ≤ 2147483647) : -2147483648 ≤ 4 * x0 := by omega
theorem o19_135 {x0 x1 x3 x4 x5 x6 x7 x8 x9 x10 : Int} {x2 : Nat} (h0 : 1 ≤ x1) (h1 : x1 ≤ 60) (h2 : 60 - x1 < ((x2 + 1 : Nat) : Int)) (h3 : 0 ≤ x3) (h4 : x3 ≤ 60) (h5 : x1 < x3) (h6 : x4 = 4 * x1) (h7 : x5 = 1) (h8 : x6 = x1 + x5) (h9 : x7 = 4 * x6) (h10 : x8 = 1) (h11 : x9 = x1 + x8) (h12 : x10 = 1) (h13 : x0 = x1 - x10) (h14 : -2147483648 ≤ x0) (h15 : x0 ≤ 2147483647) (h16 : -2147483648 ≤ x1) (h17 : x1 ≤ 2147483647) (h18 : -2147483648 ≤ x3) (h19 : x3 ≤ 2147483647) (h20 : -2147483648 ≤ x4) (h21 : x4 ≤ 2147483647) (h22 : -2147483648 ≤ x5) (h23 : x5 ≤ 2147483647) (h24 : -2147483648 ≤ x6) (h25 : x6 ≤ 2147483647) (h26 : -2147483648 ≤ x7) (h27 : x7 ≤ 2147483647) (h28 : -2147483648 ≤ x8) (h29 : x8 ≤ 2147483647) (h30 : -2147483648 ≤ x9) (h31 : x9 ≤ 2147483647) (h32 : -2147483648 ≤ x10) (h33 : x10 ≤ 2147483647) : 4 * x0 ≤ 2147483647 := by omega
theorem o19_136 {x0 x1 x3 x4 x5 x6 x7 x8 x9 x10 x11 x12 : Int} {x2 : Nat} (h0 : 1 ≤ x0) (h1 : x0 ≤ 60) (h2 : 60 - x0 < ((x2 + 1 : Nat) : Int)) (h3 : 0 ≤ x3) (h4 : x3 ≤ 60) (h5 : x0 < x3) (h6 : x4 = 4 * x0) (h7 : x5 = 1) (h8 : x6 = x0 + x5) (h9 : x7 = 4 * x6) (h10 : x8 = 1) (h11 : x9 = x0 + x8) (h12 : x10 = 1) (h13 : x11 = x0 - x10) (h14 : x12 = 4 * x11) (h15 : x1 = 1) (h16 : -2147483648 ≤ x0) (h17 : x0 ≤ 2147483647) (h18 : -2147483648 ≤ x1) (h19 : x1 ≤ 2147483647) (h20 : -2147483648 ≤ x3) (h21 : x3 ≤ 2147483647) (h22 : -2147483648 ≤ x4) (h23 : x4 ≤ 2147483647) (h24 : -2147483648 ≤ x5) (h25 : x5 ≤ 2147483647) (h26 : -2147483648 ≤ x6) (h27 : x6 ≤ 2147483647) (h28 : -2147483648 ≤ x7) (h29 : x7 ≤ 2147483647) (h30 : -2147483648 ≤ x8) (h31 : x8 ≤ 2147483647) (h32 : -2147483648 ≤ x9) (h33 : x9 ≤ 2147483647) (h34 : -2147483648 ≤ x10) (h35 : x10 ≤ 2147483647) (h36 : -2147483648 ≤ x11) (h37 : x11 ≤ 2147483647) (h38 : -2147483648 ≤ x12) (h39 : x12 ≤ 2147483647) : -2147483648 ≤ x0 - x1 := by omega
theorem o19_137 {x0 x1 x3 x4 x5 x6 x7 x8 x9 x10 x11 x12 : Int} {x2 : Nat} (h0 : 1 ≤ x0) (h1 : x0 ≤ 60) (h2 : 60 - x0 < ((x2 + 1 : Nat) : Int)) (h3 : 0 ≤ x3) (h4 : x3 ≤ 60) (h5 : x0 < x3) (h6 : x4 = 4 * x0) (h7 : x5 = 1) (h8 : x6 = x0 + x5) (h9 : x7 = 4 * x6) (h10 : x8 = 1) (h11 : x9 = x0 + x8) (h12 : x10 = 1) (h13 : x11 = x0 - x10) (h14 : x12 = 4 * x11) (h15 : x1 = 1) (h16 : -2147483648 ≤ x0) (h17 : x0 ≤ 2147483647) (h18 : -2147483648 ≤ x1) (h19 : x1 ≤ 2147483647) (h20 : -2147483648 ≤ x3) (h21 : x3 ≤ 2147483647) (h22 : -2147483648 ≤ x4) (h23 : x4 ≤ 2147483647) (h24 : -2147483648 ≤ x5) (h25 : x5 ≤ 2147483647) (h26 : -2147483648 ≤ x6) (h27 : x6 ≤ 2147483647) (h28 : -2147483648 ≤ x7) (h29 : x7 ≤ 2147483647) (h30 : -2147483648 ≤ x8) (h31 : x8 ≤ 2147483647) (h32 : -2147483648 ≤ x9) (h33 : x9 ≤ 2147483647) (h34 : -2147483648 ≤ x10) (h35 : x10 ≤ 2147483647) (h36 : -2147483648 ≤ x11) (h37 : x11 ≤ 2147483647) (h38 : -2147483648 ≤ x12) (h39 : x12 ≤ 2147483647) : x0 - x1 ≤ 2147483647 := by omega
theorem o19_138 {x0 x1 x3 x4 x5 x6 x7 x8 x9 x10 x11 x12 x13 : Int} {x2 : Nat} (h0 : 1 ≤ x1) (h1 : x1 ≤ 60) (h2 : 60 - x1 < ((x2 + 1 : Nat) : Int)) (h3 : 0 ≤ x3) (h4 : x3 ≤ 60) (h5 : x1 < x3) (h6 : x4 = 4 * x1) (h7 : x5 = 1) (h8 : x6 = x1 + x5) (h9 : x7 = 4 * x6) (h10 : x8 = 1) (h11 : x9 = x1 + x8) (h12 : x10 = 1) (h13 : x11 = x1 - x10) (h14 : x0 = 4 * x11) (h15 : x12 = 1) (h16 : x13 = x1 - x12) : 0 ≤ x0 := by omega
theorem o19_139 {x0 x1 x3 x4 x5 x6 x7 x8 x9 x10 x11 x12 x13 : Int} {x2 : Nat} (h0 : 1 ≤ x1) (h1 : x1 ≤ 60) (h2 : 60 - x1 < ((x2 + 1 : Nat) : Int)) (h3 : 0 ≤ x3) (h4 : x3 ≤ 60) (h5 : x1 < x3) (h6 : x4 = 4 * x1) (h7 : x5 = 1) (h8 : x6 = x1 + x5) (h9 : x7 = 4 * x6) (h10 : x8 = 1) (h11 : x9 = x1 + x8) (h12 : x10 = 1) (h13 : x11 = x1 - x10) (h14 : x0 = 4 * x11) (h15 : x12 = 1) (h16 : x13 = x1 - x12) : x0 ≤ 232 := by omega
theorem o19_140 {x0 x1 x3 x4 x5 x6 x7 x8 x9 x10 x11 x12 x13 : Int} {x2 : Nat} (h0 : 1 ≤ x1) (h1 : x1 ≤ 60) (h2 : 60 - x1 < ((x2 + 1 : Nat) : Int)) (h3 : 0 ≤ x3) (h4 : x3 ≤ 60) (h5 : x1 < x3) (h6 : x4 = 4 * x1) (h7 : x5 = 1) (h8 : x6 = x1 + x5) (h9 : x7 = 4 * x6) (h10 : x8 = 1) (h11 : x9 = x1 + x8) (h12 : x10 = 1) (h13 : x11 = x1 - x10) (h14 : x12 = 4 * x11) (h15 : x13 = 1) (h16 : x0 = x1 - x13) : 0 ≤ x0 := by omega
theorem o19_141 {x0 x1 x3 x4 x5 x6 x7 x8 x9 x10 x11 x12 x13 : Int} {x2 : Nat} (h0 : 1 ≤ x1) (h1 : x1 ≤ 60) (h2 : 60 - x1 < ((x2 + 1 : Nat) : Int)) (h3 : 0 ≤ x3) (h4 : x3 ≤ 60) (h5 : x1 < x3) (h6 : x4 = 4 * x1) (h7 : x5 = 1) (h8 : x6 = x1 + x5) (h9 : x7 = 4 * x6) (h10 : x8 = 1) (h11 : x9 = x1 + x8) (h12 : x10 = 1) (h13 : x11 = x1 - x10) (h14 : x12 = 4 * x11) (h15 : x13 = 1) (h16 : x0 = x1 - x13) : x0 ≤ 58 := by omega
theorem o19_142 {x0 : Int} (h0 : 0 ≤ x0) (h1 : x0 ≤ 117) (h2 : 117 - x0 < 0) : False := by omega
theorem o19_143 {x0 x2 x3 x4 x5 x6 x7 x8 x9 x10 x11 x12 x13 : Int} {x1 : Nat} (h0 : 1 ≤ x0) (h1 : x0 ≤ 60) (h2 : 60 - x0 < ((x1 + 1 : Nat) : Int)) (h3 : 0 ≤ x2) (h4 : x2 ≤ 60) (h5 : x0 < x2) (h6 : x3 = 4 * x0) (h7 : x4 = 1) (h8 : x5 = x0 + x4) (h9 : x6 = 4 * x5) (h10 : x7 = 1) (h11 : x8 = x0 + x7) (h12 : x9 = 1) (h13 : x10 = x0 - x9) (h14 : x11 = 4 * x10) (h15 : x12 = 1) (h16 : x13 = x0 - x12) (h17 : -2147483648 ≤ x0) (h18 : x0 ≤ 2147483647) (h19 : -2147483648 ≤ x2) (h20 : x2 ≤ 2147483647) (h21 : -2147483648 ≤ x3) (h22 : x3 ≤ 2147483647) (h23 : -2147483648 ≤ x4) (h24 : x4 ≤ 2147483647) (h25 : -2147483648 ≤ x5) (h26 : x5 ≤ 2147483647) (h27 : -2147483648 ≤ x6) (h28 : x6 ≤ 2147483647) (h29 : -2147483648 ≤ x7) (h30 : x7 ≤ 2147483647) (h31 : -2147483648 ≤ x8) (h32 : x8 ≤ 2147483647) (h33 : -2147483648 ≤ x9) (h34 : x9 ≤ 2147483647) (h35 : -2147483648 ≤ x10) (h36 : x10 ≤ 2147483647) (h37 : -2147483648 ≤ x11) (h38 : x11 ≤ 2147483647) (h39 : -2147483648 ≤ x12) (h40 : x12 ≤ 2147483647) (h41 : -2147483648 ≤ x13) (h42 : x13 ≤ 2147483647) : -2147483648 ≤ 2 * x0 := by omega
theorem o19_144 {x0 x2 x3 x4 x5 x6 x7 x8 x9 x10 x11 x12 x13 : Int} {x1 : Nat} (h0 : 1 ≤ x0) (h1 : x0 ≤ 60) (h2 : 60 - x0 < ((x1 + 1 : Nat) : Int)) (h3 : 0 ≤ x2) (h4 : x2 ≤ 60) (h5 : x0 < x2) (h6 : x3 = 4 * x0) (h7 : x4 = 1) (h8 : x5 = x0 + x4) (h9 : x6 = 4 * x5) (h10 : x7 = 1) (h11 : x8 = x0 + x7) (h12 : x9 = 1) (h13 : x10 = x0 - x9) (h14 : x11 = 4 * x10) (h15 : x12 = 1) (h16 : x13 = x0 - x12) (h17 : -2147483648 ≤ x0) (h18 : x0 ≤ 2147483647) (h19 : -2147483648 ≤ x2) (h20 : x2 ≤ 2147483647) (h21 : -2147483648 ≤ x3) (h22 : x3 ≤ 2147483647) (h23 : -2147483648 ≤ x4) (h24 : x4 ≤ 2147483647) (h25 : -2147483648 ≤ x5) (h26 : x5 ≤ 2147483647) (h27 : -2147483648 ≤ x6) (h28 : x6 ≤ 2147483647) (h29 : -2147483648 ≤ x7) (h30 : x7 ≤ 2147483647) (h31 : -2147483648 ≤ x8) (h32 : x8 ≤ 2147483647) (h33 : -2147483648 ≤ x9) (h34 : x9 ≤ 2147483647) (h35 : -2147483648 ≤ x10) (h36 : x10 ≤ 2147483647) (h37 : -2147483648 ≤ x11) (h38 : x11 ≤ 2147483647) (h39 : -2147483648 ≤ x12) (h40 : x12 ≤ 2147483647) (h41 : -2147483648 ≤ x13) (h42 : x13 ≤ 2147483647) : 2 * x0 ≤ 2147483647 := by omega
theorem o19_145 {x0 x1 x2 x4 x5 x6 x7 x8 x9 x10 x11 x12 x13 x14 x15 : Int} {x3 : Nat} (h0 : 1 ≤ x2) (h1 : x2 ≤ 60) (h2 : 60 - x2 < ((x3 + 1 : Nat) : Int)) (h3 : 0 ≤ x4) (h4 : x4 ≤ 60) (h5 : x2 < x4) (h6 : x5 = 4 * x2) (h7 : x6 = 1) (h8 : x7 = x2 + x6) (h9 : x8 = 4 * x7) (h10 : x9 = 1) (h11 : x10 = x2 + x9) (h12 : x11 = 1) (h13 : x12 = x2 - x11) (h14 : x13 = 4 * x12) (h15 : x14 = 1) (h16 : x15 = x2 - x14) (h17 : x0 = 2 * x2) (h18 : x1 = 2) (h19 : -2147483648 ≤ x0) (h20 : x0 ≤ 2147483647) (h21 : -2147483648 ≤ x1) (h22 : x1 ≤ 2147483647) (h23 : -2147483648 ≤ x2) (h24 : x2 ≤ 2147483647) (h25 : -2147483648 ≤ x4) (h26 : x4 ≤ 2147483647) (h27 : -2147483648 ≤ x5) (h28 : x5 ≤ 2147483647) (h29 : -2147483648 ≤ x6) (h30 : x6 ≤ 2147483647) (h31 : -2147483648 ≤ x7) (h32 : x7 ≤ 2147483647) (h33 : -2147483648 ≤ x8) (h34 : x8 ≤ 2147483647) (h35 : -2147483648 ≤ x9) (h36 : x9 ≤ 2147483647) (h37 : -2147483648 ≤ x10) (h38 : x10 ≤ 2147483647) (h39 : -2147483648 ≤ x11) (h40 : x11 ≤ 2147483647) (h41 : -2147483648 ≤ x12) (h42 : x12 ≤ 2147483647) (h43 : -2147483648 ≤ x13) (h44 : x13 ≤ 2147483647) (h45 : -2147483648 ≤ x14) (h46 : x14 ≤ 2147483647) (h47 : -2147483648 ≤ x15) (h48 : x15 ≤ 2147483647) : -2147483648 ≤ x0 - x1 := by omega
theorem o19_146 {x0 x1 x2 x4 x5 x6 x7 x8 x9 x10 x11 x12 x13 x14 x15 : Int} {x3 : Nat} (h0 : 1 ≤ x2) (h1 : x2 ≤ 60) (h2 : 60 - x2 < ((x3 + 1 : Nat) : Int)) (h3 : 0 ≤ x4) (h4 : x4 ≤ 60) (h5 : x2 < x4) (h6 : x5 = 4 * x2) (h7 : x6 = 1) (h8 : x7 = x2 + x6) (h9 : x8 = 4 * x7) (h10 : x9 = 1) (h11 : x10 = x2 + x9) (h12 : x11 = 1) (h13 : x12 = x2 - x11) (h14 : x13 = 4 * x12) (h15 : x14 = 1) (h16 : x15 = x2 - x14) (h17 : x0 = 2 * x2) (h18 : x1 = 2) (h19 : -2147483648 ≤ x0) (h20 : x0 ≤ 2147483647) (h21 : -2147483648 ≤ x1) (h22 : x1 ≤ 2147483647) (h23 : -2147483648 ≤ x2) (h24 : x2 ≤ 2147483647) (h25 : -2147483648 ≤ x4) (h26 : x4 ≤ 2147483647) (h27 : -2147483648 ≤ x5) (h28 : x5 ≤ 2147483647) (h29 : -2147483648 ≤ x6) (h30 : x6 ≤ 2147483647) (h31 : -2147483648 ≤ x7) (h32 : x7 ≤ 2147483647) (h33 : -2147483648 ≤ x8) (h34 : x8 ≤ 2147483647) (h35 : -2147483648 ≤ x9) (h36 : x9 ≤ 2147483647) (h37 : -2147483648 ≤ x10) (h38 : x10 ≤ 2147483647) (h39 : -2147483648 ≤ x11) (h40 : x11 ≤ 2147483647) (h41 : -2147483648 ≤ x12) (h42 : x12 ≤ 2147483647) (h43 : -2147483648 ≤ x13) (h44 : x13 ≤ 2147483647) (h45 : -2147483648 ≤ x14) (h46 : x14 ≤ 2147483647) (h47 : -2147483648 ≤ x15) (h48 : x15 ≤ 2147483647) : x0 - x1 ≤ 2147483647 := by omega
theorem o19_147 {x0 x2 x3 x4 x5 x6 x7 x8 x9 x10 x11 x12 x13 x14 x16 x17 x18 : Int} {x1 x15 : Nat} (h0 : 1 ≤ x0) (h1 : x0 ≤ 60) (h2 : 60 - x0 < ((x1 + 1 : Nat) : Int)) (h3 : 0 ≤ x2) (h4 : x2 ≤ 60) (h5 : x0 < x2) (h6 : x3 = 4 * x0) (h7 : x4 = 1) (h8 : x5 = x0 + x4) (h9 : x6 = 4 * x5) (h10 : x7 = 1) (h11 : x8 = x0 + x7) (h12 : x9 = 1) (h13 : x10 = x0 - x9) (h14 : x11 = 4 * x10) (h15 : x12 = 1) (h16 : x13 = x0 - x12) (h17 : 0 ≤ x14) (h18 : x14 ≤ 117) (h19 : 117 - x14 < ((x15 + 1 : Nat) : Int)) (h20 : x16 = 2 * x0) (h21 : x17 = 2) (h22 : x18 = x16 - x17) (h23 : x18 < x14) : 1 ≤ x0 := by omega
theorem o19_148 {x0 x2 x3 x4 x5 x6 x7 x8 x9 x10 x11 x12 x13 x14 x16 x17 x18 : Int} {x1 x15 : Nat} (h0 : 1 ≤ x0) (h1 : x0 ≤ 60) (h2 : 60 - x0 < ((x1 + 1 : Nat) : Int)) (h3 : 0 ≤ x2) (h4 : x2 ≤ 60) (h5 : x0 < x2) (h6 : x3 = 4 * x0) (h7 : x4 = 1) (h8 : x5 = x0 + x4) (h9 : x6 = 4 * x5) (h10 : x7 = 1) (h11 : x8 = x0 + x7) (h12 : x9 = 1) (h13 : x10 = x0 - x9) (h14 : x11 = 4 * x10) (h15 : x12 = 1) (h16 : x13 = x0 - x12) (h17 : 0 ≤ x14) (h18 : x14 ≤ 117) (h19 : 117 - x14 < ((x15 + 1 : Nat) : Int)) (h20 : x16 = 2 * x0) (h21 : x17 = 2) (h22 : x18 = x16 - x17) (h23 : x18 < x14) : x0 ≤ 59 := by omega
theorem o19_149 {x0 x2 x3 x4 x5 x6 x7 x8 x9 x10 x11 x12 x13 x14 x16 x17 x18 : Int} {x1 x15 : Nat} (h0 : 1 ≤ x0) (h1 : x0 ≤ 60) (h2 : 60 - x0 < ((x1 + 1 : Nat) : Int)) (h3 : 0 ≤ x2) (h4 : x2 ≤ 60) (h5 : x0 < x2) (h6 : x3 = 4 * x0) (h7 : x4 = 1) (h8 : x5 = x0 + x4) (h9 : x6 = 4 * x5) (h10 : x7 = 1) (h11 : x8 = x0 + x7) (h12 : x9 = 1) (h13 : x10 = x0 - x9) (h14 : x11 = 4 * x10) (h15 : x12 = 1) (h16 : x13 = x0 - x12) (h17 : 0 ≤ x14) (h18 : x14 ≤ 117) (h19 : 117 - x14 < ((x15 + 1 : Nat) : Int)) (h20 : x16 = 2 * x0) (h21 : x17 = 2) (h22 : x18 = x16 - x17) (h23 : x18 < x14) (h24 : -2147483648 ≤ x0) (h25 : x0 ≤ 2147483647) (h26 : -2147483648 ≤ x2) (h27 : x2 ≤ 2147483647) (h28 : -2147483648 ≤ x3) (h29 : x3 ≤ 2147483647) (h30 : -2147483648 ≤ x4) (h31 : x4 ≤ 2147483647) (h32 : -2147483648 ≤ x5) (h33 : x5 ≤ 2147483647) (h34 : -2147483648 ≤ x6) (h35 : x6 ≤ 2147483647) (h36 : -2147483648 ≤ x7) (h37 : x7 ≤ 2147483647) (h38 : -2147483648 ≤ x8) (h39 : x8 ≤ 2147483647) (h40 : -2147483648 ≤ x9) (h41 : x9 ≤ 2147483647) (h42 : -2147483648 ≤ x10) (h43 : x10 ≤ 2147483647) (h44 : -2147483648 ≤ x11) (h45 : x11 ≤ 2147483647) (h46 : -2147483648 ≤ x12) (h47 : x12 ≤ 2147483647) (h48 : -2147483648 ≤ x13) (h49 : x13 ≤ 2147483647) (h50 : -2147483648 ≤ x14) (h51 : x14 ≤ 2147483647) (h52 : -2147483648 ≤ x16) (h53 : x16 ≤ 2147483647) (h54 : -2147483648 ≤ x17) (h55 : x17 ≤ 2147483647) (h56 : -2147483648 ≤ x18) (h57 : x18 ≤ 2147483647) : -2147483648 ≤ x0 + 1 := by omega
theorem o19_150 {x0 x2 x3 x4 x5 x6 x7 x8 x9 x10 x11 x12 x13 x14 x16 x17 x18 : Int} {x1 x15 : Nat} (h0 : 1 ≤ x0) (h1 : x0 ≤ 60) (h2 : 60 - x0 < ((x1 + 1 : Nat) : Int)) (h3 : 0 ≤ x2) (h4 : x2 ≤ 60) (h5 : x0 < x2) (h6 : x3 = 4 * x0) (h7 : x4 = 1) (h8 : x5 = x0 + x4) (h9 : x6 = 4 * x5) (h10 : x7 = 1) (h11 : x8 = x0 + x7) (h12 : x9 = 1) (h13 : x10 = x0 - x9) (h14 : x11 = 4 * x10) (h15 : x12 = 1) (h16 : x13 = x0 - x12) (h17 : 0 ≤ x14) (h18 : x14 ≤ 117) (h19 : 117 - x14 < ((x15 + 1 : Nat) : Int)) (h20 : x16 = 2 * x0) (h21 : x17 = 2) (h22 : x18 = x16 - x17) (h23 : x18 < x14) (h24 : -2147483648 ≤ x0) (h25 : x0 ≤ 2147483647) (h26 : -2147483648 ≤ x2) (h27 : x2 ≤ 2147483647) (h28 : -2147483648 ≤ x3) (h29 : x3 ≤ 2147483647) (h30 : -2147483648 ≤ x4) (h31 : x4 ≤ 2147483647) (h32 : -2147483648 ≤ x5) (h33 : x5 ≤ 2147483647) (h34 : -2147483648 ≤ x6) (h35 : x6 ≤ 2147483647) (h36 : -2147483648 ≤ x7) (h37 : x7 ≤ 2147483647) (h38 : -2147483648 ≤ x8) (h39 : x8 ≤ 2147483647) (h40 : -2147483648 ≤ x9) (h41 : x9 ≤ 2147483647) (h42 : -2147483648 ≤ x10) (h43 : x10 ≤ 2147483647) (h44 : -2147483648 ≤ x11) (h45 : x11 ≤ 2147483647) (h46 : -2147483648 ≤ x12) (h47 : x12 ≤ 2147483647) (h48 : -2147483648 ≤ x13) (h49 : x13 ≤ 2147483647) (h50 : -2147483648 ≤ x14) (h51 : x14 ≤ 2147483647) (h52 : -2147483648 ≤ x16) (h53 : x16 ≤ 2147483647) (h54 : -2147483648 ≤ x17) (h55 : x17 ≤ 2147483647) (h56 : -2147483648 ≤ x18) (h57 : x18 ≤ 2147483647) : x0 + 1 ≤ 2147483647 := by omega
theorem o19_151 {x0 x2 x3 x4 x5 x6 x7 x8 x9 x10 x11 x12 x13 x14 x15 x17 x18 x19 : Int} {x1 x16 : Nat} (h0 : 1 ≤ x2) (h1 : x2 ≤ 60) (h2 : 60 - x2 < ((x1 + 1 : Nat) : Int)) (h3 : 0 ≤ x3) (h4 : x3 ≤ 60) (h5 : x2 < x3) (h6 : x4 = 4 * x2) (h7 : x5 = 1) (h8 : x6 = x2 + x5) (h9 : x7 = 4 * x6) (h10 : x8 = 1) (h11 : x9 = x2 + x8) (h12 : x10 = 1) (h13 : x11 = x2 - x10) (h14 : x12 = 4 * x11) (h15 : x13 = 1) (h16 : x14 = x2 - x13) (h17 : 0 ≤ x15) (h18 : x15 ≤ 117) (h19 : 117 - x15 < ((x16 + 1 : Nat) : Int)) (h20 : x17 = 2 * x2) (h21 : x18 = 2) (h22 : x19 = x17 - x18) (h23 : x19 < x15) (h24 : x0 = x2 + 1) : 60 - x0 < (x1 : Int) := by omega
theorem o19_152 {x0 x1 x3 x4 x5 x6 x7 x8 x9 x10 x11 x12 x13 x14 x15 x17 x18 x19 : Int} {x2 x16 : Nat} (h0 : 1 ≤ x1) (h1 : x1 ≤ 60) (h2 : 60 - x1 < ((x2 + 1 : Nat) : Int)) (h3 : 0 ≤ x3) (h4 : x3 ≤ 60) (h5 : x1 < x3) (h6 : x4 = 4 * x1) (h7 : x5 = 1) (h8 : x6 = x1 + x5) (h9 : x7 = 4 * x6) (h10 : x8 = 1) (h11 : x9 = x1 + x8) (h12 : x10 = 1) (h13 : x11 = x1 - x10) (h14 : x12 = 4 * x11) (h15 : x13 = 1) (h16 : x14 = x1 - x13) (h17 : 0 ≤ x15) (h18 : x15 ≤ 117) (h19 : 117 - x15 < ((x16 + 1 : Nat) : Int)) (h20 : x17 = 2 * x1) (h21 : x18 = 2) (h22 : x19 = x17 - x18) (h23 : x19 < x15) (h24 : x0 = x1 + 1) : 1 ≤ x0 := by omega
theorem o19_153 {x0 x1 x3 x4 x5 x6 x7 x8 x9 x10 x11 x12 x13 x14 x15 x17 x18 x19 : Int} {x2 x16 : Nat} (h0 : 1 ≤ x1) (h1 : x1 ≤ 60) (h2 : 60 - x1 < ((x2 + 1 : Nat) : Int)) (h3 : 0 ≤ x3) (h4 : x3 ≤ 60) (h5 : x1 < x3) (h6 : x4 = 4 * x1) (h7 : x5 = 1) (h8 : x6 = x1 + x5) (h9 : x7 = 4 * x6) (h10 : x8 = 1) (h11 : x9 = x1 + x8) (h12 : x10 = 1) (h13 : x11 = x1 - x10) (h14 : x12 = 4 * x11) (h15 : x13 = 1) (h16 : x14 = x1 - x13) (h17 : 0 ≤ x15) (h18 : x15 ≤ 117) (h19 : 117 - x15 < ((x16 + 1 : Nat) : Int)) (h20 : x17 = 2 * x1) (h21 : x18 = 2) (h22 : x19 = x17 - x18) (h23 : x19 < x15) (h24 : x0 = x1 + 1) : x0 ≤ 60 := by omega
theorem o19_154 {x0 x2 x3 x4 x5 x6 x7 x8 x9 x10 x11 x12 x13 x14 x16 x17 x18 x19 : Int} {x1 x15 : Nat} (h0 : 1 ≤ x0) (h1 : x0 ≤ 60) (h2 : 60 - x0 < ((x1 + 1 : Nat) : Int)) (h3 : 0 ≤ x2) (h4 : x2 ≤ 60) (h5 : x0 < x2) (h6 : x3 = 4 * x0) (h7 : x4 = 1) (h8 : x5 = x0 + x4) (h9 : x6 = 4 * x5) (h10 : x7 = 1) (h11 : x8 = x0 + x7) (h12 : x9 = 1) (h13 : x10 = x0 - x9) (h14 : x11 = 4 * x10) (h15 : x12 = 1) (h16 : x13 = x0 - x12) (h17 : 0 ≤ x14) (h18 : x14 ≤ 117) (h19 : 117 - x14 < ((x15 + 1 : Nat) : Int)) (h20 : x16 = 2 * x0) (h21 : x17 = 2) (h22 : x18 = x16 - x17) (h23 : x14 ≤ x18) (h24 : x19 < x14) : 1 ≤ x0 := by omega
theorem o19_155 {x0 x2 x3 x4 x5 x6 x7 x8 x9 x10 x11 x12 x13 x14 x16 x17 x18 x19 : Int} {x1 x15 : Nat} (h0 : 1 ≤ x0) (h1 : x0 ≤ 60) (h2 : 60 - x0 < ((x1 + 1 : Nat) : Int)) (h3 : 0 ≤ x2) (h4 : x2 ≤ 60) (h5 : x0 < x2) (h6 : x3 = 4 * x0) (h7 : x4 = 1) (h8 : x5 = x0 + x4) (h9 : x6 = 4 * x5) (h10 : x7 = 1) (h11 : x8 = x0 + x7) (h12 : x9 = 1) (h13 : x10 = x0 - x9) (h14 : x11 = 4 * x10) (h15 : x12 = 1) (h16 : x13 = x0 - x12) (h17 : 0 ≤ x14) (h18 : x14 ≤ 117) (h19 : 117 - x14 < ((x15 + 1 : Nat) : Int)) (h20 : x16 = 2 * x0) (h21 : x17 = 2) (h22 : x18 = x16 - x17) (h23 : x14 ≤ x18) (h24 : x19 < x14) : x0 ≤ 59 := by omega
theorem o19_156 {x0 x2 x3 x4 x5 x6 x7 x8 x9 x10 x11 x12 x13 x14 x16 x17 x18 x19 : Int} {x1 x15 : Nat} (h0 : 1 ≤ x0) (h1 : x0 ≤ 60) (h2 : 60 - x0 < ((x1 + 1 : Nat) : Int)) (h3 : 0 ≤ x2) (h4 : x2 ≤ 60) (h5 : x0 < x2) (h6 : x3 = 4 * x0) (h7 : x4 = 1) (h8 : x5 = x0 + x4) (h9 : x6 = 4 * x5) (h10 : x7 = 1) (h11 : x8 = x0 + x7) (h12 : x9 = 1) (h13 : x10 = x0 - x9) (h14 : x11 = 4 * x10) (h15 : x12 = 1) (h16 : x13 = x0 - x12) (h17 : 0 ≤ x14) (h18 : x14 ≤ 117) (h19 : 117 - x14 < ((x15 + 1 : Nat) : Int)) (h20 : x16 = 2 * x0) (h21 : x17 = 2) (h22 : x18 = x16 - x17) (h23 : x14 ≤ x18) (h24 : x19 < x14) (h25 : -2147483648 ≤ x0) (h26 : x0 ≤ 2147483647) (h27 : -2147483648 ≤ x2) (h28 : x2 ≤ 2147483647) (h29 : -2147483648 ≤ x3) (h30 : x3 ≤ 2147483647) (h31 : -2147483648 ≤ x4) (h32 : x4 ≤ 2147483647) (h33 : -2147483648 ≤ x5) (h34 : x5 ≤ 2147483647) (h35 : -2147483648 ≤ x6) (h36 : x6 ≤ 2147483647) (h37 : -2147483648 ≤ x7) (h38 : x7 ≤ 2147483647) (h39 : -2147483648 ≤ x8) (h40 : x8 ≤ 2147483647) (h41 : -2147483648 ≤ x9) (h42 : x9 ≤ 2147483647) (h43 : -2147483648 ≤ x10) (h44 : x10 ≤ 2147483647) (h45 : -2147483648 ≤ x11) (h46 : x11 ≤ 2147483647) (h47 : -2147483648 ≤ x12) (h48 : x12 ≤ 2147483647) (h49 : -2147483648 ≤ x13) (h50 : x13 ≤ 2147483647) (h51 : -2147483648 ≤ x14) (h52 : x14 ≤ 2147483647) (h53 : -2147483648 ≤ x16) (h54 : x16 ≤ 2147483647) (h55 : -2147483648 ≤ x17) (h56 : x17 ≤ 2147483647) (h57 : -2147483648 ≤ x18) (h58 : x18 ≤ 2147483647) (h59 : -2147483648 ≤ x19) (h60 : x19 ≤ 2147483647) : -2147483648 ≤ x0 + 1 := by omega
theorem o19_157 {x0 x2 x3 x4 x5 x6 x7 x8 x9 x10 x11 x12 x13 x14 x16 x17 x18 x19 : Int} {x1 x15 : Nat} (h0 : 1 ≤ x0) (h1 : x0 ≤ 60) (h2 : 60 - x0 < ((x1 + 1 : Nat) : Int)) (h3 : 0 ≤ x2) (h4 : x2 ≤ 60) (h5 : x0 < x2) (h6 : x3 = 4 * x0) (h7 : x4 = 1) (h8 : x5 = x0 + x4) (h9 : x6 = 4 * x5) (h10 : x7 = 1) (h11 : x8 = x0 + x7) (h12 : x9 = 1) (h13 : x10 = x0 - x9) (h14 : x11 = 4 * x10) (h15 : x12 = 1) (h16 : x13 = x0 - x12) (h17 : 0 ≤ x14) (h18 : x14 ≤ 117) (h19 : 117 - x14 < ((x15 + 1 : Nat) : Int)) (h20 : x16 = 2 * x0) (h21 : x17 = 2) (h22 : x18 = x16 - x17) (h23 : x14 ≤ x18) (h24 : x19 < x14) (h25 : -2147483648 ≤ x0) (h26 : x0 ≤ 2147483647) (h27 : -2147483648 ≤ x2) (h28 : x2 ≤ 2147483647) (h29 : -2147483648 ≤ x3) (h30 : x3 ≤ 2147483647) (h31 : -2147483648 ≤ x4) (h32 : x4 ≤ 2147483647) (h33 : -2147483648 ≤ x5) (h34 : x5 ≤ 2147483647) (h35 : -2147483648 ≤ x6) (h36 : x6 ≤ 2147483647) (h37 : -2147483648 ≤ x7) (h38 : x7 ≤ 2147483647) (h39 : -2147483648 ≤ x8) (h40 : x8 ≤ 2147483647) (h41 : -2147483648 ≤ x9) (h42 : x9 ≤ 2147483647) (h43 : -2147483648 ≤ x10) (h44 : x10 ≤ 2147483647) (h45 : -2147483648 ≤ x11) (h46 : x11 ≤ 2147483647) (h47 : -2147483648 ≤ x12) (h48 : x12 ≤ 2147483647) (h49 : -2147483648 ≤ x13) (h50 : x13 ≤ 2147483647) (h51 : -2147483648 ≤ x14) (h52 : x14 ≤ 2147483647) (h53 : -2147483648 ≤ x16) (h54 : x16 ≤ 2147483647) (h55 : -2147483648 ≤ x17) (h56 : x17 ≤ 2147483647) (h57 : -2147483648 ≤ x18) (h58 : x18 ≤ 2147483647) (h59 : -2147483648 ≤ x19) (h60 : x19 ≤ 2147483647) : x0 + 1 ≤ 2147483647 := by omega
theorem o19_158 {x0 x2 x3 x4 x5 x6 x7 x8 x9 x10 x11 x12 x13 x14 x15 x17 x18 x19 x20 : Int} {x1 x16 : Nat} (h0 : 1 ≤ x2) (h1 : x2 ≤ 60) (h2 : 60 - x2 < ((x1 + 1 : Nat) : Int)) (h3 : 0 ≤ x3) (h4 : x3 ≤ 60) (h5 : x2 < x3) (h6 : x4 = 4 * x2) (h7 : x5 = 1) (h8 : x6 = x2 + x5) (h9 : x7 = 4 * x6) (h10 : x8 = 1) (h11 : x9 = x2 + x8) (h12 : x10 = 1) (h13 : x11 = x2 - x10) (h14 : x12 = 4 * x11) (h15 : x13 = 1) (h16 : x14 = x2 - x13) (h17 : 0 ≤ x15) (h18 : x15 ≤ 117) (h19 : 117 - x15 < ((x16 + 1 : Nat) : Int)) (h20 : x17 = 2 * x2) (h21 : x18 = 2) (h22 : x19 = x17 - x18) (h23 : x15 ≤ x19) (h24 : x20 < x15) (h25 : x0 = x2 + 1) : 60 - x0 < (x1 : Int) := by omega
theorem o19_159 {x0 x1 x3 x4 x5 x6 x7 x8 x9 x10 x11 x12 x13 x14 x15 x17 x18 x19 x20 : Int} {x2 x16 : Nat} (h0 : 1 ≤ x1) (h1 : x1 ≤ 60) (h2 : 60 - x1 < ((x2 + 1 : Nat) : Int)) (h3 : 0 ≤ x3) (h4 : x3 ≤ 60) (h5 : x1 < x3) (h6 : x4 = 4 * x1) (h7 : x5 = 1) (h8 : x6 = x1 + x5) (h9 : x7 = 4 * x6) (h10 : x8 = 1) (h11 : x9 = x1 + x8) (h12 : x10 = 1) (h13 : x11 = x1 - x10) (h14 : x12 = 4 * x11) (h15 : x13 = 1) (h16 : x14 = x1 - x13) (h17 : 0 ≤ x15) (h18 : x15 ≤ 117) (h19 : 117 - x15 < ((x16 + 1 : Nat) : Int)) (h20 : x17 = 2 * x1) (h21 : x18 = 2) (h22 : x19 = x17 - x18) (h23 : x15 ≤ x19) (h24 : x20 < x15) (h25 : x0 = x1 + 1) : 1 ≤ x0 := by omega
theorem o19_160 {x0 x1 x3 x4 x5 x6 x7 x8 x9 x10 x11 x12 x13 x14 x15 x17 x18 x19 x20 : Int} {x2 x16 : Nat} (h0 : 1 ≤ x1) (h1 : x1 ≤ 60) (h2 : 60 - x1 < ((x2 + 1 : Nat) : Int)) (h3 : 0 ≤ x3) (h4 : x3 ≤ 60) (h5 : x1 < x3) (h6 : x4 = 4 * x1) (h7 : x5 = 1) (h8 : x6 = x1 + x5) (h9 : x7 = 4 * x6) (h10 : x8 = 1) (h11 : x9 = x1 + x8) (h12 : x10 = 1) (h13 : x11 = x1 - x10) (h14 : x12 = 4 * x11) (h15 : x13 = 1) (h16 : x14 = x1 - x13) (h17 : 0 ≤ x15) (h18 : x15 ≤ 117) (h19 : 117 - x15 < ((x16 + 1 : Nat) : Int)) (h20 : x17 = 2 * x1) (h21 : x18 = 2) (h22 : x19 = x17 - x18) (h23 : x15 ≤ x19) (h24 : x20 < x15) (h25 : x0 = x1 + 1) : x0 ≤ 60 := by omega
theorem o19_161 {x0 x1 x3 x4 x5 x6 x7 x8 x9 x10 x11 x12 x13 x14 x16 x17 x18 x19 : Int} {x2 x15 : Nat} (h0 : 1 ≤ x1) (h1 : x1 ≤ 60) (h2 : 60 - x1 < ((x2 + 1 : Nat) : Int)) (h3 : 0 ≤ x3) (h4 : x3 ≤ 60) (h5 : x1 < x3) (h6 : x4 = 4 * x1) (h7 : x5 = 1) (h8 : x6 = x1 + x5) (h9 : x7 = 4 * x6) (h10 : x8 = 1) (h11 : x9 = x1 + x8) (h12 : x10 = 1) (h13 : x11 = x1 - x10) (h14 : x12 = 4 * x11) (h15 : x13 = 1) (h16 : x14 = x1 - x13) (h17 : 0 ≤ x0) (h18 : x0 ≤ 117) (h19 : 117 - x0 < ((x15 + 1 : Nat) : Int)) (h20 : x16 = 2 * x1) (h21 : x17 = 2) (h22 : x18 = x16 - x17) (h23 : x0 ≤ x18) (h24 : x0 ≤ x19) (h25 : -2147483648 ≤ x0) (h26 : x0 ≤ 2147483647) (h27 : -2147483648 ≤ x1) (h28 : x1 ≤ 2147483647) (h29 : -2147483648 ≤ x3) (h30 : x3 ≤ 2147483647) (h31 : -2147483648 ≤ x4) (h32 : x4 ≤ 2147483647) (h33 : -2147483648 ≤ x5) (h34 : x5 ≤ 2147483647) (h35 : -2147483648 ≤ x6) (h36 : x6 ≤ 2147483647) (h37 : -2147483648 ≤ x7) (h38 : x7 ≤ 2147483647) (h39 : -2147483648 ≤ x8) (h40 : x8 ≤ 2147483647) (h41 : -2147483648 ≤ x9) (h42 : x9 ≤ 2147483647) (h43 : -2147483648 ≤ x10) (h44 : x10 ≤ 2147483647) (h45 : -2147483648 ≤ x11) (h46 : x11 ≤ 2147483647) (h47 : -2147483648 ≤ x12) (h48 : x12 ≤ 2147483647) (h49 : -2147483648 ≤ x13) (h50 : x13 ≤ 2147483647) (h51 : -2147483648 ≤ x14) (h52 : x14 ≤ 2147483647) (h53 : -2147483648 ≤ x16) (h54 : x16 ≤ 2147483647) (h55 : -2147483648 ≤ x17) (h56 : x17 ≤ 2147483647) (h57 : -2147483648 ≤ x18) (h58 : x18 ≤ 2147483647) (h59 : -2147483648 ≤ x19) (h60 : x19 ≤ 2147483647) : -2147483648 ≤ x0 + 1 := by omega
theorem o19_162 {x0 x1 x3 x4 x5 x6 x7 x8 x9 x10 x11 x12 x13 x14 x16 x17 x18 x19 : Int} {x2 x15 : Nat} (h0 : 1 ≤ x1) (h1 : x1 ≤ 60) (h2 : 60 - x1 < ((x2 + 1 : Nat) : Int)) (h3 : 0 ≤ x3) (h4 : x3 ≤ 60) (h5 : x1 < x3) (h6 : x4 = 4 * x1) (h7 : x5 = 1) (h8 : x6 = x1 + x5) (h9 : x7 = 4 * x6) (h10 : x8 = 1) (h11 : x9 = x1 + x8) (h12 : x10 = 1) (h13 : x11 = x1 - x10) (h14 : x12 = 4 * x11) (h15 : x13 = 1) (h16 : x14 = x1 - x13) (h17 : 0 ≤ x0) (h18 : x0 ≤ 117) (h19 : 117 - x0 < ((x15 + 1 : Nat) : Int)) (h20 : x16 = 2 * x1) (h21 : x17 = 2) (h22 : x18 = x16 - x17) (h23 : x0 ≤ x18) (h24 : x0 ≤ x19) (h25 : -2147483648 ≤ x0) (h26 : x0 ≤ 2147483647) (h27 : -2147483648 ≤ x1) (h28 : x1 ≤ 2147483647) (h29 : -2147483648 ≤ x3) (h30 : x3 ≤ 2147483647) (h31 : -2147483648 ≤ x4) (h32 : x4 ≤ 2147483647) (h33 : -2147483648 ≤ x5) (h34 : x5 ≤ 2147483647) (h35 : -2147483648 ≤ x6) (h36 : x6 ≤ 2147483647) (h37 : -2147483648 ≤ x7) (h38 : x7 ≤ 2147483647) (h39 : -2147483648 ≤ x8) (h40 : x8 ≤ 2147483647) (h41 : -2147483648 ≤ x9) (h42 : x9 ≤ 2147483647) (h43 : -2147483648 ≤ x10) (h44 : x10 ≤ 2147483647) (h45 : -2147483648 ≤ x11) (h46 : x11 ≤ 2147483647) (h47 : -2147483648 ≤ x12) (h48 : x12 ≤ 2147483647) (h49 : -2147483648 ≤ x13) (h50 : x13 ≤ 2147483647) (h51 : -2147483648 ≤ x14) (h52 : x14 ≤ 2147483647) (h53 : -2147483648 ≤ x16) (h54 : x16 ≤ 2147483647) (h55 : -2147483648 ≤ x17) (h56 : x17 ≤ 2147483647) (h57 : -2147483648 ≤ x18) (h58 : x18 ≤ 2147483647) (h59 : -2147483648 ≤ x19) (h60 : x19 ≤ 2147483647) : x0 + 1 ≤ 2147483647 := by omega
theorem o19_163 {x0 x2 x4 x5 x6 x7 x8 x9 x10 x11 x12 x13 x14 x15 x16 x17 x18 x19 x20 : Int} {x1 x3 : Nat} (h0 : 1 ≤ x2) (h1 : x2 ≤ 60) (h2 : 60 - x2 < ((x3 + 1 : Nat) : Int)) (h3 : 0 ≤ x4) (h4 : x4 ≤ 60) (h5 : x2 < x4) (h6 : x5 = 4 * x2) (h7 : x6 = 1) (h8 : x7 = x2 + x6) (h9 : x8 = 4 * x7) (h10 : x9 = 1) (h11 : x10 = x2 + x9) (h12 : x11 = 1) (h13 : x12 = x2 - x11) (h14 : x13 = 4 * x12) (h15 : x14 = 1) (h16 : x15 = x2 - x14) (h17 : 0 ≤ x16) (h18 : x16 ≤ 117) (h19 : 117 - x16 < ((x1 + 1 : Nat) : Int)) (h20 : x17 = 2 * x2) (h21 : x18 = 2) (h22 : x19 = x17 - x18) (h23 : x16 ≤ x19) (h24 : x16 ≤ x20) (h25 : x0 = x16 + 1) : 117 - x0 < (x1 : Int) := by omega
theorem o19_164 {x0 x1 x3 x4 x5 x6 x7 x8 x9 x10 x11 x12 x13 x14 x15 x17 x18 x19 x20 : Int} {x2 x16 : Nat} (h0 : 1 ≤ x1) (h1 : x1 ≤ 60) (h2 : 60 - x1 < ((x2 + 1 : Nat) : Int)) (h3 : 0 ≤ x3) (h4 : x3 ≤ 60) (h5 : x1 < x3) (h6 : x4 = 4 * x1) (h7 : x5 = 1) (h8 : x6 = x1 + x5) (h9 : x7 = 4 * x6) (h10 : x8 = 1) (h11 : x9 = x1 + x8) (h12 : x10 = 1) (h13 : x11 = x1 - x10) (h14 : x12 = 4 * x11) (h15 : x13 = 1) (h16 : x14 = x1 - x13) (h17 : 0 ≤ x15) (h18 : x15 ≤ 117) (h19 : 117 - x15 < ((x16 + 1 : Nat) : Int)) (h20 : x17 = 2 * x1) (h21 : x18 = 2) (h22 : x19 = x17 - x18) (h23 : x15 ≤ x19) (h24 : x15 ≤ x20) (h25 : x0 = x15 + 1) : 0 ≤ x0 := by omega
theorem o19_165 {x0 x1 x3 x4 x5 x6 x7 x8 x9 x10 x11 x12 x13 x14 x15 x17 x18 x19 x20 : Int} {x2 x16 : Nat} (h0 : 1 ≤ x1) (h1 : x1 ≤ 60) (h2 : 60 - x1 < ((x2 + 1 : Nat) : Int)) (h3 : 0 ≤ x3) (h4 : x3 ≤ 60) (h5 : x1 < x3) (h6 : x4 = 4 * x1) (h7 : x5 = 1) (h8 : x6 = x1 + x5) (h9 : x7 = 4 * x6) (h10 : x8 = 1) (h11 : x9 = x1 + x8) (h12 : x10 = 1) (h13 : x11 = x1 - x10) (h14 : x12 = 4 * x11) (h15 : x13 = 1) (h16 : x14 = x1 - x13) (h17 : 0 ≤ x15) (h18 : x15 ≤ 117) (h19 : 117 - x15 < ((x16 + 1 : Nat) : Int)) (h20 : x17 = 2 * x1) (h21 : x18 = 2) (h22 : x19 = x17 - x18) (h23 : x15 ≤ x19) (h24 : x15 ≤ x20) (h25 : x0 = x15 + 1) : x0 ≤ 117 := by omega
theorem o19_166 {x0 x1 x3 x4 x5 x6 x7 x8 x9 x10 x11 x12 x13 x14 x16 x17 x18 x19 : Int} {x2 x15 : Nat} (h0 : 1 ≤ x1) (h1 : x1 ≤ 60) (h2 : 60 - x1 < ((x2 + 1 : Nat) : Int)) (h3 : 0 ≤ x3) (h4 : x3 ≤ 60) (h5 : x1 < x3) (h6 : x4 = 4 * x1) (h7 : x5 = 1) (h8 : x6 = x1 + x5) (h9 : x7 = 4 * x6) (h10 : x8 = 1) (h11 : x9 = x1 + x8) (h12 : x10 = 1) (h13 : x11 = x1 - x10) (h14 : x12 = 4 * x11) (h15 : x13 = 1) (h16 : x14 = x1 - x13) (h17 : 0 ≤ x0) (h18 : x0 ≤ 117) (h19 : 117 - x0 < ((x15 + 1 : Nat) : Int)) (h20 : x16 = 2 * x1) (h21 : x17 = 2) (h22 : x18 = x16 - x17) (h23 : x0 ≤ x18) (h24 : x0 ≤ x19) (h25 : -2147483648 ≤ x0) (h26 : x0 ≤ 2147483647) (h27 : -2147483648 ≤ x1) (h28 : x1 ≤ 2147483647) (h29 : -2147483648 ≤ x3) (h30 : x3 ≤ 2147483647) (h31 : -2147483648 ≤ x4) (h32 : x4 ≤ 2147483647) (h33 : -2147483648 ≤ x5) (h34 : x5 ≤ 2147483647) (h35 : -2147483648 ≤ x6) (h36 : x6 ≤ 2147483647) (h37 : -2147483648 ≤ x7) (h38 : x7 ≤ 2147483647) (h39 : -2147483648 ≤ x8) (h40 : x8 ≤ 2147483647) (h41 : -2147483648 ≤ x9) (h42 : x9 ≤ 2147483647) (h43 : -2147483648 ≤ x10) (h44 : x10 ≤ 2147483647) (h45 : -2147483648 ≤ x11) (h46 : x11 ≤ 2147483647) (h47 : -2147483648 ≤ x12) (h48 : x12 ≤ 2147483647) (h49 : -2147483648 ≤ x13) (h50 : x13 ≤ 2147483647) (h51 : -2147483648 ≤ x14) (h52 : x14 ≤ 2147483647) (h53 : -2147483648 ≤ x16) (h54 : x16 ≤ 2147483647) (h55 : -2147483648 ≤ x17) (h56 : x17 ≤ 2147483647) (h57 : -2147483648 ≤ x18) (h58 : x18 ≤ 2147483647) (h59 : -2147483648 ≤ x19) (h60 : x19 ≤ 2147483647) : -2147483648 ≤ 4 * x0 := by omega
theorem o19_167 {x0 x1 x3 x4 x5 x6 x7 x8 x9 x10 x11 x12 x13 x14 x16 x17 x18 x19 : Int} {x2 x15 : Nat} (h0 : 1 ≤ x1) (h1 : x1 ≤ 60) (h2 : 60 - x1 < ((x2 + 1 : Nat) : Int)) (h3 : 0 ≤ x3) (h4 : x3 ≤ 60) (h5 : x1 < x3) (h6 : x4 = 4 * x1) (h7 : x5 = 1) (h8 : x6 = x1 + x5) (h9 : x7 = 4 * x6) (h10 : x8 = 1) (h11 : x9 = x1 + x8) (h12 : x10 = 1) (h13 : x11 = x1 - x10) (h14 : x12 = 4 * x11) (h15 : x13 = 1) (h16 : x14 = x1 - x13) (h17 : 0 ≤ x0) (h18 : x0 ≤ 117) (h19 : 117 - x0 < ((x15 + 1 : Nat) : Int)) (h20 : x16 = 2 * x1) (h21 : x17 = 2) (h22 : x18 = x16 - x17) (h23 : x0 ≤ x18) (h24 : x0 ≤ x19) (h25 : -2147483648 ≤ x0) (h26 : x0 ≤ 2147483647) (h27 : -2147483648 ≤ x1) (h28 : x1 ≤ 2147483647) (h29 : -2147483648 ≤ x3) (h30 : x3 ≤ 2147483647) (h31 : -2147483648 ≤ x4) (h32 : x4 ≤ 2147483647) (h33 : -2147483648 ≤ x5) (h34 : x5 ≤ 2147483647) (h35 : -2147483648 ≤ x6) (h36 : x6 ≤ 2147483647) (h37 : -2147483648 ≤ x7) (h38 : x7 ≤ 2147483647) (h39 : -2147483648 ≤ x8) (h40 : x8 ≤ 2147483647) (h41 : -2147483648 ≤ x9) (h42 : x9 ≤ 2147483647) (h43 : -2147483648 ≤ x10) (h44 : x10 ≤ 2147483647) (h45 : -2147483648 ≤ x11) (h46 : x11 ≤ 2147483647) (h47 : -2147483648 ≤ x12) (h48 : x12 ≤ 2147483647) (h49 : -2147483648 ≤ x13) (h50 : x13 ≤ 2147483647) (h51 : -2147483648 ≤ x14) (h52 : x14 ≤ 2147483647) (h53 : -2147483648 ≤ x16) (h54 : x16 ≤ 2147483647) (h55 : -2147483648 ≤ x17) (h56 : x17 ≤ 2147483647) (h57 : -2147483648 ≤ x18) (h58 : x18 ≤ 2147483647) (h59 : -2147483648 ≤ x19) (h60 : x19 ≤ 2147483647) : 4 * x0 ≤ 2147483647 := by omega
theorem o19_168 {x0 x1 x2 x4 x5 x6 x7 x8 x9 x10 x11 x12 x13 x14 x15 x16 x18 x19 x20 x21 : Int} {x3 x17 : Nat} (h0 : 1 ≤ x2) (h1 : x2 ≤ 60) (h2 : 60 - x2 < ((x3 + 1 : Nat) : Int)) (h3 : 0 ≤ x4) (h4 : x4 ≤ 60) (h5 : x2 < x4) (h6 : x5 = 4 * x2) (h7 : x6 = 1) (h8 : x7 = x2 + x6) (h9 : x8 = 4 * x7) (h10 : x9 = 1) (h11 : x10 = x2 + x9) (h12 : x11 = 1) (h13 : x12 = x2 - x11) (h14 : x13 = 4 * x12) (h15 : x14 = 1) (h16 : x15 = x2 - x14) (h17 : 0 * 0 ≤ x0) (h18 : x0 ≤ 232 * 58) (h19 : 0 ≤ x16) (h20 : x16 ≤ 117) (h21 : 117 - x16 < ((x17 + 1 : Nat) : Int)) (h22 : x18 = 2 * x2) (h23 : x19 = 2) (h24 : x20 = x18 - x19) (h25 : x16 ≤ x20) (h26 : x16 ≤ x21) (h27 : x1 = 4 * x16) (h28 : -2147483648 ≤ x0) (h29 : x0 ≤ 2147483647) (h30 : -2147483648 ≤ x1) (h31 : x1 ≤ 2147483647) (h32 : -2147483648 ≤ x2) (h33 : x2 ≤ 2147483647) (h34 : -2147483648 ≤ x4) (h35 : x4 ≤ 2147483647) (h36 : -2147483648 ≤ x5) (h37 : x5 ≤ 2147483647) (h38 : -2147483648 ≤ x6) (h39 : x6 ≤ 2147483647) (h40 : -2147483648 ≤ x7) (h41 : x7 ≤ 2147483647) (h42 : -2147483648 ≤ x8) (h43 : x8 ≤ 2147483647) (h44 : -2147483648 ≤ x9) (h45 : x9 ≤ 2147483647) (h46 : -2147483648 ≤ x10) (h47 : x10 ≤ 2147483647) (h48 : -2147483648 ≤ x11) (h49 : x11 ≤ 2147483647) (h50 : -2147483648 ≤ x12) (h51 : x12 ≤ 2147483647) (h52 : -2147483648 ≤ x13) (h53 : x13 ≤ 2147483647) (h54 : -2147483648 ≤ x14) (h55 : x14 ≤ 2147483647) (h56 : -2147483648 ≤ x15) (h57 : x15 ≤ 2147483647) (h58 : -2147483648 ≤ x16) (h59 : x16 ≤ 2147483647) (h60 : -2147483648 ≤ x18) (h61 : x18 ≤ 2147483647) (h62 : -2147483648 ≤ x19) (h63 : x19 ≤ 2147483647) (h64 : -2147483648 ≤ x20) (h65 : x20 ≤ 2147483647) (h66 : -2147483648 ≤ x21) (h67 : x21 ≤ 2147483647) : -2147483648 ≤ x0 + x1 := by omega
theorem o19_169 {x0 x1 x2 x4 x5 x6 x7 x8 x9 x10 x11 x12 x13 x14 x15 x16 x18 x19 x20 x21 : Int} {x3 x17 : Nat} (h0 : 1 ≤ x2) (h1 : x2 ≤ 60) (h2 : 60 - x2 < ((x3 + 1 : Nat) : Int)) (h3 : 0 ≤ x4) (h4 : x4 ≤ 60) (h5 : x2 < x4) (h6 : x5 = 4 * x2) (h7 : x6 = 1) (h8 : x7 = x2 + x6) (h9 : x8 = 4 * x7) (h10 : x9 = 1) (h11 : x10 = x2 + x9) (h12 : x11 = 1) (h13 : x12 = x2 - x11) (h14 : x13 = 4 * x12) (h15 : x14 = 1) (h16 : x15 = x2 - x14) (h17 : 0 * 0 ≤ x0) (h18 : x0 ≤ 232 * 58) (h19 : 0 ≤ x16) (h20 : x16 ≤ 117) (h21 : 117 - x16 < ((x17 + 1 : Nat) : Int)) (h22 : x18 = 2 * x2) (h23 : x19 = 2) (h24 : x20 = x18 - x19) (h25 : x16 ≤ x20) (h26 : x16 ≤ x21) (h27 : x1 = 4 * x16) (h28 : -2147483648 ≤ x0) (h29 : x0 ≤ 2147483647) (h30 : -2147483648 ≤ x1) (h31 : x1 ≤ 2147483647) (h32 : -2147483648 ≤ x2) (h33 : x2 ≤ 2147483647) (h34 : -2147483648 ≤ x4) (h35 : x4 ≤ 2147483647) (h36 : -2147483648 ≤ x5) (h37 : x5 ≤ 2147483647) (h38 : -2147483648 ≤ x6) (h39 : x6 ≤ 2147483647) (h40 : -2147483648 ≤ x7) (h41 : x7 ≤ 2147483647) (h42 : -2147483648 ≤ x8) (h43 : x8 ≤ 2147483647) (h44 : -2147483648 ≤ x9) (h45 : x9 ≤ 2147483647) (h46 : -2147483648 ≤ x10) (h47 : x10 ≤ 2147483647) (h48 : -2147483648 ≤ x11) (h49 : x11 ≤ 2147483647) (h50 : -2147483648 ≤ x12) (h51 : x12 ≤ 2147483647) (h52 : -2147483648 ≤ x13) (h53 : x13 ≤ 2147483647) (h54 : -2147483648 ≤ x14) (h55 : x14 ≤ 2147483647) (h56 : -2147483648 ≤ x15) (h57 : x15 ≤ 2147483647) (h58 : -2147483648 ≤ x16) (h59 : x16 ≤ 2147483647) (h60 : -2147483648 ≤ x18) (h61 : x18 ≤ 2147483647) (h62 : -2147483648 ≤ x19) (h63 : x19 ≤ 2147483647) (h64 : -2147483648 ≤ x20) (h65 : x20 ≤ 2147483647) (h66 : -2147483648 ≤ x21) (h67 : x21 ≤ 2147483647) : x0 + x1 ≤ 2147483647 := by omega
theorem o19_170 {x0 x1 x2 x4 x5 x6 x7 x8 x9 x10 x11 x12 x13 x14 x15 x16 x17 x19 x20 x21 x22 x24 x25 : Int} {x3 x18 x23 : Nat} (h0 : 1 ≤ x2) (h1 : x2 ≤ 60) (h2 : 60 - x2 < ((x3 + 1 : Nat) : Int)) (h3 : 0 ≤ x4) (h4 : x4 ≤ 60) (h5 : x2 < x4) (h6 : x5 = 4 * x2) (h7 : x6 = 1) (h8 : x7 = x2 + x6) (h9 : x8 = 4 * x7) (h10 : x9 = 1) (h11 : x10 = x2 + x9) (h12 : x11 = 1) (h13 : x12 = x2 - x11) (h14 : x13 = 4 * x12) (h15 : x14 = 1) (h16 : x15 = x2 - x14) (h17 : 0 * 0 ≤ x16) (h18 : x16 ≤ 232 * 58) (h19 : 0 ≤ x17) (h20 : x17 ≤ 117) (h21 : 117 - x17 < ((x18 + 1 : Nat) : Int)) (h22 : x19 = 2 * x2) (h23 : x20 = 2) (h24 : x21 = x19 - x20) (h25 : x17 ≤ x21) (h26 : x17 ≤ x22) (h27 : 0 ≤ x1) (h28 : x1 ≤ 4) (h29 : 4 - x1 < ((x23 + 1 : Nat) : Int)) (h30 : x24 = 4) (h31 : x1 < x24) (h32 : x25 = 4 * x17) (h33 : x0 = x16 + x25) (h34 : -2147483648 ≤ x0) (h35 : x0 ≤ 2147483647) (h36 : -2147483648 ≤ x1) (h37 : x1 ≤ 2147483647) (h38 : -2147483648 ≤ x2) (h39 : x2 ≤ 2147483647) (h40 : -2147483648 ≤ x4) (h41 : x4 ≤ 2147483647) (h42 : -2147483648 ≤ x5) (h43 : x5 ≤ 2147483647) (h44 : -2147483648 ≤ x6) (h45 : x6 ≤ 2147483647) (h46 : -2147483648 ≤ x7) (h47 : x7 ≤ 2147483647) (h48 : -2147483648 ≤ x8) (h49 : x8 ≤ 2147483647) (h50 : -2147483648 ≤ x9) (h51 : x9 ≤ 2147483647) (h52 : -2147483648 ≤ x10) (h53 : x10 ≤ 2147483647) (h54 : -2147483648 ≤ x11) (h55 : x11 ≤ 2147483647) (h56 : -2147483648 ≤ x12) (h57 : x12 ≤ 2147483647) (h58 : -2147483648 ≤ x13) (h59 : x13 ≤ 2147483647) (h60 : -2147483648 ≤ x14) (h61 : x14 ≤ 2147483647) (h62 : -2147483648 ≤ x15) (h63 : x15 ≤ 2147483647) (h64 : -2147483648 ≤ x16) (h65 : x16 ≤ 2147483647) (h66 : -2147483648 ≤ x17) (h67 : x17 ≤ 2147483647) (h68 : -2147483648 ≤ x19) (h69 : x19 ≤ 2147483647) (h70 : -2147483648 ≤ x20) (h71 : x20 ≤ 2147483647) (h72 : -2147483648 ≤ x21) (h73 : x21 ≤ 2147483647) (h74 : -2147483648 ≤ x22) (h75 : x22 ≤ 2147483647) (h76 : -2147483648 ≤ x24) (h77 : x24 ≤ 2147483647) (h78 : -2147483648 ≤ x25) (h79 : x25 ≤ 2147483647) : -2147483648 ≤ x0 + x1 := by omega
theorem o19_171 {x0 x1 x2 x4 x5 x6 x7 x8 x9 x10 x11 x12 x13 x14 x15 x16 x17 x19 x20 x21 x22 x24 x25 : Int} {x3 x18 x23 : Nat} (h0 : 1 ≤ x2) (h1 : x2 ≤ 60) (h2 : 60 - x2 < ((x3 + 1 : Nat) : Int)) (h3 : 0 ≤ x4) (h4 : x4 ≤ 60) (h5 : x2 < x4) (h6 : x5 = 4 * x2) (h7 : x6 = 1) (h8 : x7 = x2 + x6) (h9 : x8 = 4 * x7) (h10 : x9 = 1) (h11 : x10 = x2 + x9) (h12 : x11 = 1) (h13 : x12 = x2 - x11) (h14 : x13 = 4 * x12) (h15 : x14 = 1) (h16 : x15 = x2 - x14) (h17 : 0 * 0 ≤ x16) (h18 : x16 ≤ 232 * 58) (h19 : 0 ≤ x17) (h20 : x17 ≤ 117) (h21 : 117 - x17 < ((x18 + 1 : Nat) : Int)) (h22 : x19 = 2 * x2) (h23 : x20 = 2) (h24 : x21 = x19 - x20) (h25 : x17 ≤ x21) (h26 : x17 ≤ x22) (h27 : 0 ≤ x1) (h28 : x1 ≤ 4) (h29 : 4 - x1 < ((x23 + 1 : Nat) : Int)) (h30 : x24 = 4) (h31 : x1 < x24) (h32 : x25 = 4 * x17) (h33 : x0 = x16 + x25) (h34 : -2147483648 ≤ x0) (h35 : x0 ≤ 2147483647) (h36 : -2147483648 ≤ x1) (h37 : x1 ≤ 2147483647) (h38 : -2147483648 ≤ x2) (h39 : x2 ≤ 2147483647) (h40 : -2147483648 ≤ x4) (h41 : x4 ≤ 2147483647) (h42 : -2147483648 ≤ x5) (h43 : x5 ≤ 2147483647) (h44 : -2147483648 ≤ x6) (h45 : x6 ≤ 2147483647) (h46 : -2147483648 ≤ x7) (h47 : x7 ≤ 2147483647) (h48 : -2147483648 ≤ x8) (h49 : x8 ≤ 2147483647) (h50 : -2147483648 ≤ x9) (h51 : x9 ≤ 2147483647) (h52 : -2147483648 ≤ x10) (h53 : x10 ≤ 2147483647) (h54 : -2147483648 ≤ x11) (h55 : x11 ≤ 2147483647) (h56 : -2147483648 ≤ x12) (h57 : x12 ≤ 2147483647) (h58 : -2147483648 ≤ x13) (h59 : x13 ≤ 2147483647) (h60 : -2147483648 ≤ x14) (h61 : x14 ≤ 2147483647) (h62 : -2147483648 ≤ x15) (h63 : x15 ≤ 2147483647) (h64 : -2147483648 ≤ x16) (h65 : x16 ≤ 2147483647) (h66 : -2147483648 ≤ x17) (h67 : x17 ≤ 2147483647) (h68 : -2147483648 ≤ x19) (h69 : x19 ≤ 2147483647) (h70 : -2147483648 ≤ x20) (h71 : x20 ≤ 2147483647) (h72 : -2147483648 ≤ x21) (h73 : x21 ≤ 2147483647) (h74 : -2147483648 ≤ x22) (h75 : x22 ≤ 2147483647) (h76 : -2147483648 ≤ x24) (h77 : x24 ≤ 2147483647) (h78 : -2147483648 ≤ x25) (h79 : x25 ≤ 2147483647) : x0 + x1 ≤ 2147483647 := by omega
theorem o19_172 {x0 x1 x3 x4 x5 x6 x7 x8 x9 x10 x11 x12 x13 x14 x15 x16 x18 x19 x20 x21 x22 x24 x25 x26 : Int} {x2 x17 x23 : Nat} (h0 : 1 ≤ x1) (h1 : x1 ≤ 60) (h2 : 60 - x1 < ((x2 + 1 : Nat) : Int)) (h3 : 0 ≤ x3) (h4 : x3 ≤ 60) (h5 : x1 < x3) (h6 : x4 = 4 * x1) (h7 : x5 = 1) (h8 : x6 = x1 + x5) (h9 : x7 = 4 * x6) (h10 : x8 = 1) (h11 : x9 = x1 + x8) (h12 : x10 = 1) (h13 : x11 = x1 - x10) (h14 : x12 = 4 * x11) (h15 : x13 = 1) (h16 : x14 = x1 - x13) (h17 : 0 * 0 ≤ x15) (h18 : x15 ≤ 232 * 58) (h19 : 0 ≤ x16) (h20 : x16 ≤ 117) (h21 : 117 - x16 < ((x17 + 1 : Nat) : Int)) (h22 : x18 = 2 * x1) (h23 : x19 = 2) (h24 : x20 = x18 - x19) (h25 : x16 ≤ x20) (h26 : x16 ≤ x21) (h27 : 0 ≤ x22) (h28 : x22 ≤ 4) (h29 : 4 - x22 < ((x23 + 1 : Nat) : Int)) (h30 : x24 = 4) (h31 : x22 < x24) (h32 : x25 = 4 * x16) (h33 : x26 = x15 + x25) (h34 : x0 = x26 + x22) : 0 ≤ x0 := by omega
theorem o19_173 {x0 x1 x3 x4 x5 x6 x7 x8 x9 x10 x11 x12 x13 x14 x15 x16 x18 x19 x20 x21 x22 x24 x25 x26 : Int} {x2 x17 x23 : Nat} (h0 : 1 ≤ x1) (h1 : x1 ≤ 60) (h2 : 60 - x1 < ((x2 + 1 : Nat) : Int)) (h3 : 0 ≤ x3) (h4 : x3 ≤ 60) (h5 : x1 < x3) (h6 : x4 = 4 * x1) (h7 : x5 = 1) (h8 : x6 = x1 + x5) (h9 : x7 = 4 * x6) (h10 : x8 = 1) (h11 : x9 = x1 + x8) (h12 : x10 = 1) (h13 : x11 = x1 - x10) (h14 : x12 = 4 * x11) (h15 : x13 = 1) (h16 : x14 = x1 - x13) (h17 : 0 * 0 ≤ x15) (h18 : x15 ≤ 232 * 58) (h19 : 0 ≤ x16) (h20 : x16 ≤ 117) (h21 : 117 - x16 < ((x17 + 1 : Nat) : Int)) (h22 : x18 = 2 * x1) (h23 : x19 = 2) (h24 : x20 = x18 - x19) (h25 : x16 ≤ x20) (h26 : x16 ≤ x21) (h27 : 0 ≤ x22) (h28 : x22 ≤ 4) (h29 : 4 - x22 < ((x23 + 1 : Nat) : Int)) (h30 : x24 = 4) (h31 : x22 < x24) (h32 : x25 = 4 * x16) (h33 : x26 = x15 + x25) (h34 : x0 = x26 + x22) : x0 < (14400 : Nat) := by omega
theorem o19_174 {x0 x1 x3 x4 x5 x6 x7 x8 x9 x10 x11 x12 x13 x14 x15 x16 x18 x19 x20 x21 x23 x24 x25 x26 : Int} {x2 x17 x22 : Nat} (h0 : 1 ≤ x1) (h1 : x1 ≤ 60) (h2 : 60 - x1 < ((x2 + 1 : Nat) : Int)) (h3 : 0 ≤ x3) (h4 : x3 ≤ 60) (h5 : x1 < x3) (h6 : x4 = 4 * x1) (h7 : x5 = 1) (h8 : x6 = x1 + x5) (h9 : x7 = 4 * x6) (h10 : x8 = 1) (h11 : x9 = x1 + x8) (h12 : x10 = 1) (h13 : x11 = x1 - x10) (h14 : x12 = 4 * x11) (h15 : x13 = 1) (h16 : x14 = x1 - x13) (h17 : 0 * 0 ≤ x15) (h18 : x15 ≤ 232 * 58) (h19 : 0 ≤ x16) (h20 : x16 ≤ 117) (h21 : 117 - x16 < ((x17 + 1 : Nat) : Int)) (h22 : x18 = 2 * x1) (h23 : x19 = 2) (h24 : x20 = x18 - x19) (h25 : x16 ≤ x20) (h26 : x16 ≤ x21) (h27 : 0 ≤ x0) (h28 : x0 ≤ 4) (h29 : 4 - x0 < ((x22 + 1 : Nat) : Int)) (h30 : x23 = 4) (h31 : x0 < x23) (h32 : x24 = 4 * x16) (h33 : x25 = x15 + x24) (h34 : x26 = x25 + x0) : 0 ≤ x0 := by omega
theorem o19_175 {x0 x1 x3 x4 x5 x6 x7 x8 x9 x10 x11 x12 x13 x14 x15 x16 x18 x19 x20 x21 x23 x24 x25 x26 : Int} {x2 x17 x22 : Nat} (h0 : 1 ≤ x1) (h1 : x1 ≤ 60) (h2 : 60 - x1 < ((x2 + 1 : Nat) : Int)) (h3 : 0 ≤ x3) (h4 : x3 ≤ 60) (h5 : x1 < x3) (h6 : x4 = 4 * x1) (h7 : x5 = 1) (h8 : x6 = x1 + x5) (h9 : x7 = 4 * x6) (h10 : x8 = 1) (h11 : x9 = x1 + x8) (h12 : x10 = 1) (h13 : x11 = x1 - x10) (h14 : x12 = 4 * x11) (h15 : x13 = 1) (h16 : x14 = x1 - x13) (h17 : 0 * 0 ≤ x15) (h18 : x15 ≤ 232 * 58) (h19 : 0 ≤ x16) (h20 : x16 ≤ 117) (h21 : 117 - x16 < ((x17 + 1 : Nat) : Int)) (h22 : x18 = 2 * x1) (h23 : x19 = 2) (h24 : x20 = x18 - x19) (h25 : x16 ≤ x20) (h26 : x16 ≤ x21) (h27 : 0 ≤ x0) (h28 : x0 ≤ 4) (h29 : 4 - x0 < ((x22 + 1 : Nat) : Int)) (h30 : x23 = 4) (h31 : x0 < x23) (h32 : x24 = 4 * x16) (h33 : x25 = x15 + x24) (h34 : x26 = x25 + x0) : x0 ≤ 3 := by omega
theorem o19_176 {x0 x1 x3 x4 x5 x6 x7 x8 x9 x10 x11 x12 x13 x14 x15 x16 x18 x19 x20 x21 x23 x24 x25 x26 : Int} {x2 x17 x22 : Nat} (h0 : 1 ≤ x1) (h1 : x1 ≤ 60) (h2 : 60 - x1 < ((x2 + 1 : Nat) : Int)) (h3 : 0 ≤ x3) (h4 : x3 ≤ 60) (h5 : x1 < x3) (h6 : x4 = 4 * x1) (h7 : x5 = 1) (h8 : x6 = x1 + x5) (h9 : x7 = 4 * x6) (h10 : x8 = 1) (h11 : x9 = x1 + x8) (h12 : x10 = 1) (h13 : x11 = x1 - x10) (h14 : x12 = 4 * x11) (h15 : x13 = 1) (h16 : x14 = x1 - x13) (h17 : 0 * 0 ≤ x15) (h18 : x15 ≤ 232 * 58) (h19 : 0 ≤ x16) (h20 : x16 ≤ 117) (h21 : 117 - x16 < ((x17 + 1 : Nat) : Int)) (h22 : x18 = 2 * x1) (h23 : x19 = 2) (h24 : x20 = x18 - x19) (h25 : x16 ≤ x20) (h26 : x16 ≤ x21) (h27 : 0 ≤ x0) (h28 : x0 ≤ 4) (h29 : 4 - x0 < ((x22 + 1 : Nat) : Int)) (h30 : x23 = 4) (h31 : x0 < x23) (h32 : x24 = 4 * x16) (h33 : x25 = x15 + x24) (h34 : x26 = x25 + x0) (h35 : -2147483648 ≤ x0) (h36 : x0 ≤ 2147483647) (h37 : -2147483648 ≤ x1) (h38 : x1 ≤ 2147483647) (h39 : -2147483648 ≤ x3) (h40 : x3 ≤ 2147483647) (h41 : -2147483648 ≤ x4) (h42 : x4 ≤ 2147483647) (h43 : -2147483648 ≤ x5) (h44 : x5 ≤ 2147483647) (h45 : -2147483648 ≤ x6) (h46 : x6 ≤ 2147483647) (h47 : -2147483648 ≤ x7) (h48 : x7 ≤ 2147483647) (h49 : -2147483648 ≤ x8) (h50 : x8 ≤ 2147483647) (h51 : -2147483648 ≤ x9) (h52 : x9 ≤ 2147483647) (h53 : -2147483648 ≤ x10) (h54 : x10 ≤ 2147483647) (h55 : -2147483648 ≤ x11) (h56 : x11 ≤ 2147483647) (h57 : -2147483648 ≤ x12) (h58 : x12 ≤ 2147483647) (h59 : -2147483648 ≤ x13) (h60 : x13 ≤ 2147483647) (h61 : -2147483648 ≤ x14) (h62 : x14 ≤ 2147483647) (h63 : -2147483648 ≤ x15) (h64 : x15 ≤ 2147483647) (h65 : -2147483648 ≤ x16) (h66 : x16 ≤ 2147483647) (h67 : -2147483648 ≤ x18) (h68 : x18 ≤ 2147483647) (h69 : -2147483648 ≤ x19) (h70 : x19 ≤ 2147483647) (h71 : -2147483648 ≤ x20) (h72 : x20 ≤ 2147483647) (h73 : -2147483648 ≤ x21) (h74 : x21 ≤ 2147483647) (h75 : -2147483648 ≤ x23) (h76 : x23 ≤ 2147483647) (h77 : -2147483648 ≤ x24) (h78 : x24 ≤ 2147483647) (h79 : -2147483648 ≤ x25) (h80 : x25 ≤ 2147483647) (h81 : -2147483648 ≤ x26) (h82 : x26 ≤ 2147483647) : -2147483648 ≤ x0 + 1 := by omega
theorem o19_177 {x0 x1 x3 x4 x5 x6 x7 x8 x9 x10 x11 x12 x13 x14 x15 x16 x18 x19 x20 x21 x23 x24 x25 x26 : Int} {x2 x17 x22 : Nat} (h0 : 1 ≤ x1) (h1 : x1 ≤ 60) (h2 : 60 - x1 < ((x2 + 1 : Nat) : Int)) (h3 : 0 ≤ x3) (h4 : x3 ≤ 60) (h5 : x1 < x3) (h6 : x4 = 4 * x1) (h7 : x5 = 1) (h8 : x6 = x1 + x5) (h9 : x7 = 4 * x6) (h10 : x8 = 1) (h11 : x9 = x1 + x8) (h12 : x10 = 1) (h13 : x11 = x1 - x10) (h14 : x12 = 4 * x11) (h15 : x13 = 1) (h16 : x14 = x1 - x13) (h17 : 0 * 0 ≤ x15) (h18 : x15 ≤ 232 * 58) (h19 : 0 ≤ x16) (h20 : x16 ≤ 117) (h21 : 117 - x16 < ((x17 + 1 : Nat) : Int)) (h22 : x18 = 2 * x1) (h23 : x19 = 2) (h24 : x20 = x18 - x19) (h25 : x16 ≤ x20) (h26 : x16 ≤ x21) (h27 : 0 ≤ x0) (h28 : x0 ≤ 4) (h29 : 4 - x0 < ((x22 + 1 : Nat) : Int)) (h30 : x23 = 4) (h31 : x0 < x23) (h32 : x24 = 4 * x16) (h33 : x25 = x15 + x24) (h34 : x26 = x25 + x0) (h35 : -2147483648 ≤ x0) (h36 : x0 ≤ 2147483647) (h37 : -2147483648 ≤ x1) (h38 : x1 ≤ 2147483647) (h39 : -2147483648 ≤ x3) (h40 : x3 ≤ 2147483647) (h41 : -2147483648 ≤ x4) (h42 : x4 ≤ 2147483647) (h43 : -2147483648 ≤ x5) (h44 : x5 ≤ 2147483647) (h45 : -2147483648 ≤ x6) (h46 : x6 ≤ 2147483647) (h47 : -2147483648 ≤ x7) (h48 : x7 ≤ 2147483647) (h49 : -2147483648 ≤ x8) (h50 : x8 ≤ 2147483647) (h51 : -2147483648 ≤ x9) (h52 : x9 ≤ 2147483647) (h53 : -2147483648 ≤ x10) (h54 : x10 ≤ 2147483647) (h55 : -2147483648 ≤ x11) (h56 : x11 ≤ 2147483647) (h57 : -2147483648 ≤ x12) (h58 : x12 ≤ 2147483647) (h59 : -2147483648 ≤ x13) (h60 : x13 ≤ 2147483647) (h61 : -2147483648 ≤ x14) (h62 : x14 ≤ 2147483647) (h63 : -2147483648 ≤ x15) (h64 : x15 ≤ 2147483647) (h65 : -2147483648 ≤ x16) (h66 : x16 ≤ 2147483647) (h67 : -2147483648 ≤ x18) (h68 : x18 ≤ 2147483647) (h69 : -2147483648 ≤ x19) (h70 : x19 ≤ 2147483647) (h71 : -2147483648 ≤ x20) (h72 : x20 ≤ 2147483647) (h73 : -2147483648 ≤ x21) (h74 : x21 ≤ 2147483647) (h75 : -2147483648 ≤ x23) (h76 : x23 ≤ 2147483647) (h77 : -2147483648 ≤ x24) (h78 : x24 ≤ 2147483647) (h79 : -2147483648 ≤ x25) (h80 : x25 ≤ 2147483647) (h81 : -2147483648 ≤ x26) (h82 : x26 ≤ 2147483647) : x0 + 1 ≤ 2147483647 := by omega
theorem o19_178 {x0 x2 x4 x5 x6 x7 x8 x9 x10 x11 x12 x13 x14 x15 x16 x17 x19 x20 x21 x22 x23 x24 x25 x26 x27 : Int} {x1 x3 x18 : Nat} (h0 : 1 ≤ x2) (h1 : x2 ≤ 60) (h2 : 60 - x2 < ((x3 + 1 : Nat) : Int)) (h3 : 0 ≤ x4) (h4 : x4 ≤ 60) (h5 : x2 < x4) (h6 : x5 = 4 * x2) (h7 : x6 = 1) (h8 : x7 = x2 + x6) (h9 : x8 = 4 * x7) (h10 : x9 = 1) (h11 : x10 = x2 + x9) (h12 : x11 = 1) (h13 : x12 = x2 - x11) (h14 : x13 = 4 * x12) (h15 : x14 = 1) (h16 : x15 = x2 - x14) (h17 : 0 * 0 ≤ x16) (h18 : x16 ≤ 232 * 58) (h19 : 0 ≤ x17) (h20 : x17 ≤ 117) (h21 : 117 - x17 < ((x18 + 1 : Nat) : Int)) (h22 : x19 = 2 * x2) (h23 : x20 = 2) (h24 : x21 = x19 - x20) (h25 : x17 ≤ x21) (h26 : x17 ≤ x22) (h27 : 0 ≤ x23) (h28 : x23 ≤ 4) (h29 : 4 - x23 < ((x1 + 1 : Nat) : Int)) (h30 : x24 = 4) (h31 : x23 < x24) (h32 : x25 = 4 * x17) (h33 : x26 = x16 + x25) (h34 : x27 = x26 + x23) (h35 : x0 = x23 + 1) : 4 - x0 < (x1 : Int) := by omega
theorem o19_179 {x0 x1 x3 x4 x5 x6 x7 x8 x9 x10 x11 x12 x13 x14 x15 x16 x18 x19 x20 x21 x22 x24 x25 x26 x27 : Int} {x2 x17 x23 : Nat} (h0 : 1 ≤ x1) (h1 : x1 ≤ 60) (h2 : 60 - x1 < ((x2 + 1 : Nat) : Int)) (h3 : 0 ≤ x3) (h4 : x3 ≤ 60) (h5 : x1 < x3) (h6 : x4 = 4 * x1) (h7 : x5 = 1) (h8 : x6 = x1 + x5) (h9 : x7 = 4 * x6) (h10 : x8 = 1) (h11 : x9 = x1 + x8) (h12 : x10 = 1) (h13 : x11 = x1 - x10) (h14 : x12 = 4 * x11) (h15 : x13 = 1) (h16 : x14 = x1 - x13) (h17 : 0 * 0 ≤ x15) (h18 : x15 ≤ 232 * 58) (h19 : 0 ≤ x16) (h20 : x16 ≤ 117) (h21 : 117 - x16 < ((x17 + 1 : Nat) : Int)) (h22 : x18 = 2 * x1) (h23 : x19 = 2) (h24 : x20 = x18 - x19) (h25 : x16 ≤ x20) (h26 : x16 ≤ x21) (h27 : 0 ≤ x22) (h28 : x22 ≤ 4) (h29 : 4 - x22 < ((x23 + 1 : Nat) : Int)) (h30 : x24 = 4) (h31 : x22 < x24) (h32 : x25 = 4 * x16) (h33 : x26 = x15 + x25) (h34 : x27 = x26 + x22) (h35 : x0 = x22 + 1) : 0 ≤ x0 := by omega
theorem o19_180 {x0 x1 x3 x4 x5 x6 x7 x8 x9 x10 x11 x12 x13 x14 x15 x16 x18 x19 x20 x21 x22 x24 x25 x26 x27 : Int} {x2 x17 x23 : Nat} (h0 : 1 ≤ x1) (h1 : x1 ≤ 60) (h2 : 60 - x1 < ((x2 + 1 : Nat) : Int)) (h3 : 0 ≤ x3) (h4 : x3 ≤ 60) (h5 : x1 < x3) (h6 : x4 = 4 * x1) (h7 : x5 = 1) (h8 : x6 = x1 + x5) (h9 : x7 = 4 * x6) (h10 : x8 = 1) (h11 : x9 = x1 + x8) (h12 : x10 = 1) (h13 : x11 = x1 - x10) (h14 : x12 = 4 * x11) (h15 : x13 = 1) (h16 : x14 = x1 - x13) (h17 : 0 * 0 ≤ x15) (h18 : x15 ≤ 232 * 58) (h19 : 0 ≤ x16) (h20 : x16 ≤ 117) (h21 : 117 - x16 < ((x17 + 1 : Nat) : Int)) (h22 : x18 = 2 * x1) (h23 : x19 = 2) (h24 : x20 = x18 - x19) (h25 : x16 ≤ x20) (h26 : x16 ≤ x21) (h27 : 0 ≤ x22) (h28 : x22 ≤ 4) (h29 : 4 - x22 < ((x23 + 1 : Nat) : Int)) (h30 : x24 = 4) (h31 : x22 < x24) (h32 : x25 = 4 * x16) (h33 : x26 = x15 + x25) (h34 : x27 = x26 + x22) (h35 : x0 = x22 + 1) : x0 ≤ 4 := by omega
theorem o19_181 {x0 x1 x2 x4 x5 x6 x7 x8 x9 x10 x11 x12 x13 x14 x15 x16 x17 x19 x20 x21 x22 x23 x25 x26 x27 x28 : Int} {x3 x18 x24 : Nat} (h0 : 0 ≤ x0) (h1 : x0 ≤ 180) (h2 : 1 ≤ x2) (h3 : x2 ≤ 60) (h4 : 60 - x2 < ((x3 + 1 : Nat) : Int)) (h5 : 0 ≤ x4) (h6 : x4 ≤ 60) (h7 : x2 < x4) (h8 : x5 = 4 * x2) (h9 : x6 = 1) (h10 : x7 = x2 + x6) (h11 : x8 = 4 * x7) (h12 : x9 = 1) (h13 : x10 = x2 + x9) (h14 : x11 = 1) (h15 : x12 = x2 - x11) (h16 : x13 = 4 * x12) (h17 : x14 = 1) (h18 : x15 = x2 - x14) (h19 : 0 * 0 ≤ x16) (h20 : x16 ≤ 232 * 58) (h21 : 0 ≤ x17) (h22 : x17 ≤ 117) (h23 : 117 - x17 < ((x18 + 1 : Nat) : Int)) (h24 : x19 = 2 * x2) (h25 : x20 = 2) (h26 : x21 = x19 - x20) (h27 : x17 ≤ x21) (h28 : x17 ≤ x22) (h29 : 0 ≤ x23) (h30 : x23 ≤ 4) (h31 : 4 - x23 < ((x24 + 1 : Nat) : Int)) (h32 : x23 < x25) (h33 : x26 = 4 * x17) (h34 : x27 = x16 + x26) (h35 : x28 = x27 + x23) (h36 : 0 ≤ x1) (h37 : x1 ≤ 60) (h38 : x1 = x4) (h39 : -2147483648 ≤ x0) (h40 : x0 ≤ 2147483647) (h41 : -2147483648 ≤ x1) (h42 : x1 ≤ 2147483647) (h43 : -2147483648 ≤ x2) (h44 : x2 ≤ 2147483647) (h45 : -2147483648 ≤ x4) (h46 : x4 ≤ 2147483647) (h47 : -2147483648 ≤ x5) (h48 : x5 ≤ 2147483647) (h49 : -2147483648 ≤ x6) (h50 : x6 ≤ 2147483647) (h51 : -2147483648 ≤ x7) (h52 : x7 ≤ 2147483647) (h53 : -2147483648 ≤ x8) (h54 : x8 ≤ 2147483647) (h55 : -2147483648 ≤ x9) (h56 : x9 ≤ 2147483647) (h57 : -2147483648 ≤ x10) (h58 : x10 ≤ 2147483647) (h59 : -2147483648 ≤ x11) (h60 : x11 ≤ 2147483647) (h61 : -2147483648 ≤ x12) (h62 : x12 ≤ 2147483647) (h63 : -2147483648 ≤ x13) (h64 : x13 ≤ 2147483647) (h65 : -2147483648 ≤ x14) (h66 : x14 ≤ 2147483647) (h67 : -2147483648 ≤ x15) (h68 : x15 ≤ 2147483647) (h69 : -2147483648 ≤ x16) (h70 : x16 ≤ 2147483647) (h71 : -2147483648 ≤ x17) (h72 : x17 ≤ 2147483647) (h73 : -2147483648 ≤ x19) (h74 : x19 ≤ 2147483647) (h75 : -2147483648 ≤ x20) (h76 : x20 ≤ 2147483647) (h77 : -2147483648 ≤ x21) (h78 : x21 ≤ 2147483647) (h79 : -2147483648 ≤ x22) (h80 : x22 ≤ 2147483647) (h81 : -2147483648 ≤ x23) (h82 : x23 ≤ 2147483647) (h83 : -2147483648 ≤ x25) (h84 : x25 ≤ 2147483647) (h85 : -2147483648 ≤ x26) (h86 : x26 ≤ 2147483647) (h87 : -2147483648 ≤ x27) (h88 : x27 ≤ 2147483647) (h89 : -2147483648 ≤ x28) (h90 : x28 ≤ 2147483647) : -2147483648 ≤ x0 + x1 := by omega
theorem o19_182 {x0 x1 x2 x4 x5 x6 x7 x8 x9 x10 x11 x12 x13 x14 x15 x16 x17 x19 x20 x21 x22 x23 x25 x26 x27 x28 : Int} {x3 x18 x24 : Nat} (h0 : 0 ≤ x0) (h1 : x0 ≤ 180) (h2 : 1 ≤ x2) (h3 : x2 ≤ 60) (h4 : 60 - x2 < ((x3 + 1 : Nat) : Int)) (h5 : 0 ≤ x4) (h6 : x4 ≤ 60) (h7 : x2 < x4) (h8 : x5 = 4 * x2) (h9 : x6 = 1) (h10 : x7 = x2 + x6) (h11 : x8 = 4 * x7) (h12 : x9 = 1) (h13 : x10 = x2 + x9) (h14 : x11 = 1) (h15 : x12 = x2 - x11) (h16 : x13 = 4 * x12) (h17 : x14 = 1) (h18 : x15 = x2 - x14) (h19 : 0 * 0 ≤ x16) (h20 : x16 ≤ 232 * 58) (h21 : 0 ≤ x17) (h22 : x17 ≤ 117) (h23 : 117 - x17 < ((x18 + 1 : Nat) : Int)) (h24 : x19 = 2 * x2) (h25 : x20 = 2) (h26 : x21 = x19 - x20) (h27 : x17 ≤ x21) (h28 : x17 ≤ x22) (h29 : 0 ≤ x23) (h30 : x23 ≤ 4) (h31 : 4 - x23 < ((x24 + 1 : Nat) : Int)) (h32 : x23 < x25) (h33 : x26 = 4 * x17) (h34 : x27 = x16 + x26) (h35 : x28 = x27 + x23) (h36 : 0 ≤ x1) (h37 : x1 ≤ 60) (h38 : x1 = x4) (h39 : -2147483648 ≤ x0) (h40 : x0 ≤ 2147483647) (h41 : -2147483648 ≤ x1) (h42 : x1 ≤ 2147483647) (h43 : -2147483648 ≤ x2) (h44 : x2 ≤ 2147483647) (h45 : -2147483648 ≤ x4) (h46 : x4 ≤ 2147483647) (h47 : -2147483648 ≤ x5) (h48 : x5 ≤ 2147483647) (h49 : -2147483648 ≤ x6) (h50 : x6 ≤ 2147483647) (h51 : -2147483648 ≤ x7) (h52 : x7 ≤ 2147483647) (h53 : -2147483648 ≤ x8) (h54 : x8 ≤ 2147483647) (h55 : -2147483648 ≤ x9) (h56 : x9 ≤ 2147483647) (h57 : -2147483648 ≤ x10) (h58 : x10 ≤ 2147483647) (h59 : -2147483648 ≤ x11) (h60 : x11 ≤ 2147483647) (h61 : -2147483648 ≤ x12) (h62 : x12 ≤ 2147483647) (h63 : -2147483648 ≤ x13) (h64 : x13 ≤ 2147483647) (h65 : -2147483648 ≤ x14) (h66 : x14 ≤ 2147483647) (h67 : -2147483648 ≤ x15) (h68 : x15 ≤ 2147483647) (h69 : -2147483648 ≤ x16) (h70 : x16 ≤ 2147483647) (h71 : -2147483648 ≤ x17) (h72 : x17 ≤ 2147483647) (h73 : -2147483648 ≤ x19) (h74 : x19 ≤ 2147483647) (h75 : -2147483648 ≤ x20) (h76 : x20 ≤ 2147483647) (h77 : -2147483648 ≤ x21) (h78 : x21 ≤ 2147483647) (h79 : -2147483648 ≤ x22) (h80 : x22 ≤ 2147483647) (h81 : -2147483648 ≤ x23) (h82 : x23 ≤ 2147483647) (h83 : -2147483648 ≤ x25) (h84 : x25 ≤ 2147483647) (h85 : -2147483648 ≤ x26) (h86 : x26 ≤ 2147483647) (h87 : -2147483648 ≤ x27) (h88 : x27 ≤ 2147483647) (h89 : -2147483648 ≤ x28) (h90 : x28 ≤ 2147483647) : x0 + x1 ≤ 2147483647 := by omega
theorem o19_183 {x0 x1 x2 x4 x5 x6 x7 x8 x9 x10 x11 x12 x13 x14 x15 x16 x17 x19 x20 x21 x22 x23 x25 x26 x27 x28 x29 : Int} {x3 x18 x24 : Nat} (h0 : 0 ≤ x2) (h1 : x2 ≤ 180) (h2 : 1 ≤ x1) (h3 : x1 ≤ 60) (h4 : 60 - x1 < ((x3 + 1 : Nat) : Int)) (h5 : 0 ≤ x4) (h6 : x4 ≤ 60) (h7 : x1 < x4) (h8 : x5 = 4 * x1) (h9 : x6 = 1) (h10 : x7 = x1 + x6) (h11 : x8 = 4 * x7) (h12 : x9 = 1) (h13 : x10 = x1 + x9) (h14 : x11 = 1) (h15 : x12 = x1 - x11) (h16 : x13 = 4 * x12) (h17 : x14 = 1) (h18 : x15 = x1 - x14) (h19 : 0 * 0 ≤ x16) (h20 : x16 ≤ 232 * 58) (h21 : 0 ≤ x17) (h22 : x17 ≤ 117) (h23 : 117 - x17 < ((x18 + 1 : Nat) : Int)) (h24 : x19 = 2 * x1) (h25 : x20 = 2) (h26 : x21 = x19 - x20) (h27 : x17 ≤ x21) (h28 : x17 ≤ x22) (h29 : 0 ≤ x23) (h30 : x23 ≤ 4) (h31 : 4 - x23 < ((x24 + 1 : Nat) : Int)) (h32 : x25 = 4) (h33 : x23 < x25) (h34 : x26 = 4 * x17) (h35 : x27 = x16 + x26) (h36 : x28 = x27 + x23) (h37 : 0 ≤ x29) (h38 : x29 ≤ 60) (h39 : x29 = x4) (h40 : x0 = x2 + x29) (h41 : -2147483648 ≤ x0) (h42 : x0 ≤ 2147483647) (h43 : -2147483648 ≤ x1) (h44 : x1 ≤ 2147483647) (h45 : -2147483648 ≤ x2) (h46 : x2 ≤ 2147483647) (h47 : -2147483648 ≤ x4) (h48 : x4 ≤ 2147483647) (h49 : -2147483648 ≤ x5) (h50 : x5 ≤ 2147483647) (h51 : -2147483648 ≤ x6) (h52 : x6 ≤ 2147483647) (h53 : -2147483648 ≤ x7) (h54 : x7 ≤ 2147483647) (h55 : -2147483648 ≤ x8) (h56 : x8 ≤ 2147483647) (h57 : -2147483648 ≤ x9) (h58 : x9 ≤ 2147483647) (h59 : -2147483648 ≤ x10) (h60 : x10 ≤ 2147483647) (h61 : -2147483648 ≤ x11) (h62 : x11 ≤ 2147483647) (h63 : -2147483648 ≤ x12) (h64 : x12 ≤ 2147483647) (h65 : -2147483648 ≤ x13) (h66 : x13 ≤ 2147483647) (h67 : -2147483648 ≤ x14) (h68 : x14 ≤ 2147483647) (h69 : -2147483648 ≤ x15) (h70 : x15 ≤ 2147483647) (h71 : -2147483648 ≤ x16) (h72 : x16 ≤ 2147483647) (h73 : -2147483648 ≤ x17) (h74 : x17 ≤ 2147483647) (h75 : -2147483648 ≤ x19) (h76 : x19 ≤ 2147483647) (h77 : -2147483648 ≤ x20) (h78 : x20 ≤ 2147483647) (h79 : -2147483648 ≤ x21) (h80 : x21 ≤ 2147483647) (h81 : -2147483648 ≤ x22) (h82 : x22 ≤ 2147483647) (h83 : -2147483648 ≤ x23) (h84 : x23 ≤ 2147483647) (h85 : -2147483648 ≤ x25) (h86 : x25 ≤ 2147483647) (h87 : -2147483648 ≤ x26) (h88 : x26 ≤ 2147483647) (h89 : -2147483648 ≤ x27) (h90 : x27 ≤ 2147483647) (h91 : -2147483648 ≤ x28) (h92 : x28 ≤ 2147483647) (h93 : -2147483648 ≤ x29) (h94 : x29 ≤ 2147483647) : -2147483648 ≤ x0 - x1 := by omega
theorem o19_184 {x0 x1 x2 x4 x5 x6 x7 x8 x9 x10 x11 x12 x13 x14 x15 x16 x17 x19 x20 x21 x22 x23 x25 x26 x27 x28 x29 : Int} {x3 x18 x24 : Nat} (h0 : 0 ≤ x2) (h1 : x2 ≤ 180) (h2 : 1 ≤ x1) (h3 : x1 ≤ 60) (h4 : 60 - x1 < ((x3 + 1 : Nat) : Int)) (h5 : 0 ≤ x4) (h6 : x4 ≤ 60) (h7 : x1 < x4) (h8 : x5 = 4 * x1) (h9 : x6 = 1) (h10 : x7 = x1 + x6) (h11 : x8 = 4 * x7) (h12 : x9 = 1) (h13 : x10 = x1 + x9) (h14 : x11 = 1) (h15 : x12 = x1 - x11) (h16 : x13 = 4 * x12) (h17 : x14 = 1) (h18 : x15 = x1 - x14) (h19 : 0 * 0 ≤ x16) (h20 : x16 ≤ 232 * 58) (h21 : 0 ≤ x17) (h22 : x17 ≤ 117) (h23 : 117 - x17 < ((x18 + 1 : Nat) : Int)) (h24 : x19 = 2 * x1) (h25 : x20 = 2) (h26 : x21 = x19 - x20) (h27 : x17 ≤ x21) (h28 : x17 ≤ x22) (h29 : 0 ≤ x23) (h30 : x23 ≤ 4) (h31 : 4 - x23 < ((x24 + 1 : Nat) : Int)) (h32 : x25 = 4) (h33 : x23 < x25) (h34 : x26 = 4 * x17) (h35 : x27 = x16 + x26) (h36 : x28 = x27 + x23) (h37 : 0 ≤ x29) (h38 : x29 ≤ 60) (h39 : x29 = x4) (h40 : x0 = x2 + x29) (h41 : -2147483648 ≤ x0) (h42 : x0 ≤ 2147483647) (h43 : -2147483648 ≤ x1) (h44 : x1 ≤ 2147483647) (h45 : -2147483648 ≤ x2) (h46 : x2 ≤ 2147483647) (h47 : -2147483648 ≤ x4) (h48 : x4 ≤ 2147483647) (h49 : -2147483648 ≤ x5) (h50 : x5 ≤ 2147483647) (h51 : -2147483648 ≤ x6) (h52 : x6 ≤ 2147483647) (h53 : -2147483648 ≤ x7) (h54 : x7 ≤ 2147483647) (h55 : -2147483648 ≤ x8) (h56 : x8 ≤ 2147483647) (h57 : -2147483648 ≤ x9) (h58 : x9 ≤ 2147483647) (h59 : -2147483648 ≤ x10) (h60 : x10 ≤ 2147483647) (h61 : -2147483648 ≤ x11) (h62 : x11 ≤ 2147483647) (h63 : -2147483648 ≤ x12) (h64 : x12 ≤ 2147483647) (h65 : -2147483648 ≤ x13) (h66 : x13 ≤ 2147483647) (h67 : -2147483648 ≤ x14) (h68 : x14 ≤ 2147483647) (h69 : -2147483648 ≤ x15) (h70 : x15 ≤ 2147483647) (h71 : -2147483648 ≤ x16) (h72 : x16 ≤ 2147483647) (h73 : -2147483648 ≤ x17) (h74 : x17 ≤ 2147483647) (h75 : -2147483648 ≤ x19) (h76 : x19 ≤ 2147483647) (h77 : -2147483648 ≤ x20) (h78 : x20 ≤ 2147483647) (h79 : -2147483648 ≤ x21) (h80 : x21 ≤ 2147483647) (h81 : -2147483648 ≤ x22) (h82 : x22 ≤ 2147483647) (h83 : -2147483648 ≤ x23) (h84 : x23 ≤ 2147483647) (h85 : -2147483648 ≤ x25) (h86 : x25 ≤ 2147483647) (h87 : -2147483648 ≤ x26) (h88 : x26 ≤ 2147483647) (h89 : -2147483648 ≤ x27) (h90 : x27 ≤ 2147483647) (h91 : -2147483648 ≤ x28) (h92 : x28 ≤ 2147483647) (h93 : -2147483648 ≤ x29) (h94 : x29 ≤ 2147483647) : x0 - x1 ≤ 2147483647 := by omega
theorem o19_185 {x0 x1 x3 x4 x5 x6 x7 x8 x9 x10 x11 x12 x13 x14 x15 x16 x18 x19 x20 x21 x22 x24 x25 x26 x27 x28 x29 x30 : Int} {x2 x17 x23 : Nat} (h0 : 0 ≤ x1) (h1 : x1 ≤ 180) (h2 : 1 ≤ x0) (h3 : x0 ≤ 60) (h4 : 60 - x0 < ((x2 + 1 : Nat) : Int)) (h5 : 0 ≤ x3) (h6 : x3 ≤ 60) (h7 : x0 < x3) (h8 : x4 = 4 * x0) (h9 : x5 = 1) (h10 : x6 = x0 + x5) (h11 : x7 = 4 * x6) (h12 : x8 = 1) (h13 : x9 = x0 + x8) (h14 : x10 = 1) (h15 : x11 = x0 - x10) (h16 : x12 = 4 * x11) (h17 : x13 = 1) (h18 : x14 = x0 - x13) (h19 : 0 * 0 ≤ x15) (h20 : x15 ≤ 232 * 58) (h21 : 0 ≤ x16) (h22 : x16 ≤ 117) (h23 : 117 - x16 < ((x17 + 1 : Nat) : Int)) (h24 : x18 = 2 * x0) (h25 : x19 = 2) (h26 : x20 = x18 - x19) (h27 : x16 ≤ x20) (h28 : x16 ≤ x21) (h29 : 0 ≤ x22) (h30 : x22 ≤ 4) (h31 : 4 - x22 < ((x23 + 1 : Nat) : Int)) (h32 : x24 = 4) (h33 : x22 < x24) (h34 : x25 = 4 * x16) (h35 : x26 = x15 + x25) (h36 : x27 = x26 + x22) (h37 : 0 ≤ x28) (h38 : x28 ≤ 60) (h39 : x28 = x3) (h40 : x29 = x1 + x28) (h41 : x30 = x29 - x0) (h42 : -2147483648 ≤ x0) (h43 : x0 ≤ 2147483647) (h44 : -2147483648 ≤ x1) (h45 : x1 ≤ 2147483647) (h46 : -2147483648 ≤ x3) (h47 : x3 ≤ 2147483647) (h48 : -2147483648 ≤ x4) (h49 : x4 ≤ 2147483647) (h50 : -2147483648 ≤ x5) (h51 : x5 ≤ 2147483647) (h52 : -2147483648 ≤ x6) (h53 : x6 ≤ 2147483647) (h54 : -2147483648 ≤ x7) (h55 : x7 ≤ 2147483647) (h56 : -2147483648 ≤ x8) (h57 : x8 ≤ 2147483647) (h58 : -2147483648 ≤ x9) (h59 : x9 ≤ 2147483647) (h60 : -2147483648 ≤ x10) (h61 : x10 ≤ 2147483647) (h62 : -2147483648 ≤ x11) (h63 : x11 ≤ 2147483647) (h64 : -2147483648 ≤ x12) (h65 : x12 ≤ 2147483647) (h66 : -2147483648 ≤ x13) (h67 : x13 ≤ 2147483647) (h68 : -2147483648 ≤ x14) (h69 : x14 ≤ 2147483647) (h70 : -2147483648 ≤ x15) (h71 : x15 ≤ 2147483647) (h72 : -2147483648 ≤ x16) (h73 : x16 ≤ 2147483647) (h74 : -2147483648 ≤ x18) (h75 : x18 ≤ 2147483647) (h76 : -2147483648 ≤ x19) (h77 : x19 ≤ 2147483647) (h78 : -2147483648 ≤ x20) (h79 : x20 ≤ 2147483647) (h80 : -2147483648 ≤ x21) (h81 : x21 ≤ 2147483647) (h82 : -2147483648 ≤ x22) (h83 : x22 ≤ 2147483647) (h84 : -2147483648 ≤ x24) (h85 : x24 ≤ 2147483647) (h86 : -2147483648 ≤ x25) (h87 : x25 ≤ 2147483647) (h88 : -2147483648 ≤ x26) (h89 : x26 ≤ 2147483647) (h90 : -2147483648 ≤ x27) (h91 : x27 ≤ 2147483647) (h92 : -2147483648 ≤ x28) (h93 : x28 ≤ 2147483647) (h94 : -2147483648 ≤ x29) (h95 : x29 ≤ 2147483647) (h96 : -2147483648 ≤ x30) (h97 : x30 ≤ 2147483647) : -2147483648 ≤ 4 * x0 := by omega
theorem o19_186 {x0 x1 x3 x4 x5 x6 x7 x8 x9 x10 x11 x12 x13 x14 x15 x16 x18 x19 x20 x21 x22 x24 x25 x26 x27 x28 x29 x30 : Int} {x2 x17 x23 : Nat} (h0 : 0 ≤ x1) (h1 : x1 ≤ 180) (h2 : 1 ≤ x0) (h3 : x0 ≤ 60) (h4 : 60 - x0 < ((x2 + 1 : Nat) : Int)) (h5 : 0 ≤ x3) (h6 : x3 ≤ 60) (h7 : x0 < x3) (h8 : x4 = 4 * x0) (h9 : x5 = 1) (h10 : x6 = x0 + x5) (h11 : x7 = 4 * x6) (h12 : x8 = 1) (h13 : x9 = x0 + x8) (h14 : x10 = 1) (h15 : x11 = x0 - x10) (h16 : x12 = 4 * x11) (h17 : x13 = 1) (h18 : x14 = x0 - x13) (h19 : 0 * 0 ≤ x15) (h20 : x15 ≤ 232 * 58) (h21 : 0 ≤ x16) (h22 : x16 ≤ 117) (h23 : 117 - x16 < ((x17 + 1 : Nat) : Int)) (h24 : x18 = 2 * x0) (h25 : x19 = 2) (h26 : x20 = x18 - x19) (h27 : x16 ≤ x20) (h28 : x16 ≤ x21) (h29 : 0 ≤ x22) (h30 : x22 ≤ 4) (h31 : 4 - x22 < ((x23 + 1 : Nat) : Int)) (h32 : x24 = 4) (h33 : x22 < x24) (h34 : x25 = 4 * x16) (h35 : x26 = x15 + x25) (h36 : x27 = x26 + x22) (h37 : 0 ≤ x28) (h38 : x28 ≤ 60) (h39 : x28 = x3) (h40 : x29 = x1 + x28) (h41 : x30 = x29 - x0) (h42 : -2147483648 ≤ x0) (h43 : x0 ≤ 2147483647) (h44 : -2147483648 ≤ x1) (h45 : x1 ≤ 2147483647) (h46 : -2147483648 ≤ x3) (h47 : x3 ≤ 2147483647) (h48 : -2147483648 ≤ x4) (h49 : x4 ≤ 2147483647) (h50 : -2147483648 ≤ x5) (h51 : x5 ≤ 2147483647) (h52 : -2147483648 ≤ x6) (h53 : x6 ≤ 2147483647) (h54 : -2147483648 ≤ x7) (h55 : x7 ≤ 2147483647) (h56 : -2147483648 ≤ x8) (h57 : x8 ≤ 2147483647) (h58 : -2147483648 ≤ x9) (h59 : x9 ≤ 2147483647) (h60 : -2147483648 ≤ x10) (h61 : x10 ≤ 2147483647) (h62 : -2147483648 ≤ x11) (h63 : x11 ≤ 2147483647) (h64 : -2147483648 ≤ x12) (h65 : x12 ≤ 2147483647) (h66 : -2147483648 ≤ x13) (h67 : x13 ≤ 2147483647) (h68 : -2147483648 ≤ x14) (h69 : x14 ≤ 2147483647) (h70 : -2147483648 ≤ x15) (h71 : x15 ≤ 2147483647) (h72 : -2147483648 ≤ x16) (h73 : x16 ≤ 2147483647) (h74 : -2147483648 ≤ x18) (h75 : x18 ≤ 2147483647) (h76 : -2147483648 ≤ x19) (h77 : x19 ≤ 2147483647) (h78 : -2147483648 ≤ x20) (h79 : x20 ≤ 2147483647) (h80 : -2147483648 ≤ x21) (h81 : x21 ≤ 2147483647) (h82 : -2147483648 ≤ x22) (h83 : x22 ≤ 2147483647) (h84 : -2147483648 ≤ x24) (h85 : x24 ≤ 2147483647) (h86 : -2147483648 ≤ x25) (h87 : x25 ≤ 2147483647) (h88 : -2147483648 ≤ x26) (h89 : x26 ≤ 2147483647) (h90 : -2147483648 ≤ x27) (h91 : x27 ≤ 2147483647) (h92 : -2147483648 ≤ x28) (h93 : x28 ≤ 2147483647) (h94 : -2147483648 ≤ x29) (h95 : x29 ≤ 2147483647) (h96 : -2147483648 ≤ x30) (h97 : x30 ≤ 2147483647) : 4 * x0 ≤ 2147483647 := by omega
theorem o19_187 {x0 x1 x2 x4 x5 x6 x7 x8 x9 x10 x11 x12 x13 x14 x15 x16 x17 x19 x20 x21 x22 x23 x25 x26 x27 x28 x29 x30 x31 : Int} {x3 x18 x24 : Nat} (h0 : 0 ≤ x1) (h1 : x1 ≤ 180) (h2 : 1 ≤ x2) (h3 : x2 ≤ 60) (h4 : 60 - x2 < ((x3 + 1 : Nat) : Int)) (h5 : 0 ≤ x4) (h6 : x4 ≤ 60) (h7 : x2 < x4) (h8 : x5 = 4 * x2) (h9 : x6 = 1) (h10 : x7 = x2 + x6) (h11 : x8 = 4 * x7) (h12 : x9 = 1) (h13 : x10 = x2 + x9) (h14 : x11 = 1) (h15 : x12 = x2 - x11) (h16 : x13 = 4 * x12) (h17 : x14 = 1) (h18 : x15 = x2 - x14) (h19 : 0 * 0 ≤ x16) (h20 : x16 ≤ 232 * 58) (h21 : 0 ≤ x17) (h22 : x17 ≤ 117) (h23 : 117 - x17 < ((x18 + 1 : Nat) : Int)) (h24 : x19 = 2 * x2) (h25 : x20 = 2) (h26 : x21 = x19 - x20) (h27 : x17 ≤ x21) (h28 : x17 ≤ x22) (h29 : 0 ≤ x23) (h30 : x23 ≤ 4) (h31 : 4 - x23 < ((x24 + 1 : Nat) : Int)) (h32 : x25 = 4) (h33 : x23 < x25) (h34 : x26 = 4 * x17) (h35 : x27 = x16 + x26) (h36 : x28 = x27 + x23) (h37 : 0 ≤ x29) (h38 : x29 ≤ 60) (h39 : x29 = x4) (h40 : x30 = x1 + x29) (h41 : x31 = x30 - x2) (h42 : x0 = 4 * x2) : 4 ≤ x0 := by omega
theorem o19_188 {x0 x1 x2 x4 x5 x6 x7 x8 x9 x10 x11 x12 x13 x14 x15 x16 x17 x19 x20 x21 x22 x23 x25 x26 x27 x28 x29 x30 x31 : Int} {x3 x18 x24 : Nat} (h0 : 0 ≤ x1) (h1 : x1 ≤ 180) (h2 : 1 ≤ x2) (h3 : x2 ≤ 60) (h4 : 60 - x2 < ((x3 + 1 : Nat) : Int)) (h5 : 0 ≤ x4) (h6 : x4 ≤ 60) (h7 : x2 < x4) (h8 : x5 = 4 * x2) (h9 : x6 = 1) (h10 : x7 = x2 + x6) (h11 : x8 = 4 * x7) (h12 : x9 = 1) (h13 : x10 = x2 + x9) (h14 : x11 = 1) (h15 : x12 = x2 - x11) (h16 : x13 = 4 * x12) (h17 : x14 = 1) (h18 : x15 = x2 - x14) (h19 : 0 * 0 ≤ x16) (h20 : x16 ≤ 232 * 58) (h21 : 0 ≤ x17) (h22 : x17 ≤ 117) (h23 : 117 - x17 < ((x18 + 1 : Nat) : Int)) (h24 : x19 = 2 * x2) (h25 : x20 = 2) (h26 : x21 = x19 - x20) (h27 : x17 ≤ x21) (h28 : x17 ≤ x22) (h29 : 0 ≤ x23) (h30 : x23 ≤ 4) (h31 : 4 - x23 < ((x24 + 1 : Nat) : Int)) (h32 : x25 = 4) (h33 : x23 < x25) (h34 : x26 = 4 * x17) (h35 : x27 = x16 + x26) (h36 : x28 = x27 + x23) (h37 : 0 ≤ x29) (h38 : x29 ≤ 60) (h39 : x29 = x4) (h40 : x30 = x1 + x29) (h41 : x31 = x30 - x2) (h42 : x0 = 4 * x2) : x0 ≤ 236 := by omega
theorem o19_189 {x0 x1 x3 x4 x5 x6 x7 x8 x9 x10 x11 x12 x13 x14 x15 x16 x18 x19 x20 x21 x22 x24 x25 x26 x27 x28 x29 x30 x31 : Int} {x2 x17 x23 : Nat} (h0 : 0 ≤ x1) (h1 : x1 ≤ 180) (h2 : 1 ≤ x0) (h3 : x0 ≤ 60) (h4 : 60 - x0 < ((x2 + 1 : Nat) : Int)) (h5 : 0 ≤ x3) (h6 : x3 ≤ 60) (h7 : x0 < x3) (h8 : x4 = 4 * x0) (h9 : x5 = 1) (h10 : x6 = x0 + x5) (h11 : x7 = 4 * x6) (h12 : x8 = 1) (h13 : x9 = x0 + x8) (h14 : x10 = 1) (h15 : x11 = x0 - x10) (h16 : x12 = 4 * x11) (h17 : x13 = 1) (h18 : x14 = x0 - x13) (h19 : 0 * 0 ≤ x15) (h20 : x15 ≤ 232 * 58) (h21 : 0 ≤ x16) (h22 : x16 ≤ 117) (h23 : 117 - x16 < ((x17 + 1 : Nat) : Int)) (h24 : x18 = 2 * x0) (h25 : x19 = 2) (h26 : x20 = x18 - x19) (h27 : x16 ≤ x20) (h28 : x16 ≤ x21) (h29 : 0 ≤ x22) (h30 : x22 ≤ 4) (h31 : 4 - x22 < ((x23 + 1 : Nat) : Int)) (h32 : x24 = 4) (h33 : x22 < x24) (h34 : x25 = 4 * x16) (h35 : x26 = x15 + x25) (h36 : x27 = x26 + x22) (h37 : 0 ≤ x28) (h38 : x28 ≤ 60) (h39 : x28 = x3) (h40 : x29 = x1 + x28) (h41 : x30 = x29 - x0) (h42 : x31 = 4 * x0) : 1 ≤ x0 := by omega
theorem o19_190 {x0 x1 x3 x4 x5 x6 x7 x8 x9 x10 x11 x12 x13 x14 x15 x16 x18 x19 x20 x21 x22 x24 x25 x26 x27 x28 x29 x30 x31 : Int} {x2 x17 x23 : Nat} (h0 : 0 ≤ x1) (h1 : x1 ≤ 180) (h2 : 1 ≤ x0) (h3 : x0 ≤ 60) (h4 : 60 - x0 < ((x2 + 1 : Nat) : Int)) (h5 : 0 ≤ x3) (h6 : x3 ≤ 60) (h7 : x0 < x3) (h8 : x4 = 4 * x0) (h9 : x5 = 1) (h10 : x6 = x0 + x5) (h11 : x7 = 4 * x6) (h12 : x8 = 1) (h13 : x9 = x0 + x8) (h14 : x10 = 1) (h15 : x11 = x0 - x10) (h16 : x12 = 4 * x11) (h17 : x13 = 1) (h18 : x14 = x0 - x13) (h19 : 0 * 0 ≤ x15) (h20 : x15 ≤ 232 * 58) (h21 : 0 ≤ x16) (h22 : x16 ≤ 117) (h23 : 117 - x16 < ((x17 + 1 : Nat) : Int)) (h24 : x18 = 2 * x0) (h25 : x19 = 2) (h26 : x20 = x18 - x19) (h27 : x16 ≤ x20) (h28 : x16 ≤ x21) (h29 : 0 ≤ x22) (h30 : x22 ≤ 4) (h31 : 4 - x22 < ((x23 + 1 : Nat) : Int)) (h32 : x24 = 4) (h33 : x22 < x24) (h34 : x25 = 4 * x16) (h35 : x26 = x15 + x25) (h36 : x27 = x26 + x22) (h37 : 0 ≤ x28) (h38 : x28 ≤ 60) (h39 : x28 = x3) (h40 : x29 = x1 + x28) (h41 : x30 = x29 - x0) (h42 : x31 = 4 * x0) : x0 ≤ 59 := by omega
theorem o19_191 {x0 x1 x2 x4 x5 x6 x7 x8 x9 x10 x11 x12 x13 x14 x15 x16 x18 x19 x20 x21 x22 x24 x25 x26 x27 x28 x29 x30 x31 : Int} {x3 x17 x23 : Nat} (h0 : 0 ≤ x1) (h1 : x1 ≤ 180) (h2 : 1 ≤ x2) (h3 : x2 ≤ 60) (h4 : 60 - x2 < ((x3 + 1 : Nat) : Int)) (h5 : 0 ≤ x4) (h6 : x4 ≤ 60) (h7 : x2 < x4) (h8 : x5 = 4 * x2) (h9 : x6 = 1) (h10 : x7 = x2 + x6) (h11 : x8 = 4 * x7) (h12 : x9 = 1) (h13 : x10 = x2 + x9) (h14 : x11 = 1) (h15 : x12 = x2 - x11) (h16 : x13 = 4 * x12) (h17 : x14 = 1) (h18 : x15 = x2 - x14) (h19 : 0 * 0 ≤ x16) (h20 : x16 ≤ 232 * 58) (h21 : 0 ≤ x0) (h22 : x0 ≤ 117) (h23 : 117 - x0 < ((x17 + 1 : Nat) : Int)) (h24 : x18 = 2 * x2) (h25 : x19 = 2) (h26 : x20 = x18 - x19) (h27 : x0 ≤ x20) (h28 : x0 ≤ x21) (h29 : 0 ≤ x22) (h30 : x22 ≤ 4) (h31 : 4 - x22 < ((x23 + 1 : Nat) : Int)) (h32 : x24 = 4) (h33 : x22 < x24) (h34 : x25 = 4 * x0) (h35 : x26 = x16 + x25) (h36 : x27 = x26 + x22) (h37 : 0 ≤ x28) (h38 : x28 ≤ 60) (h39 : x28 = x4) (h40 : x29 = x1 + x28) (h41 : x30 = x29 - x2) (h42 : x31 = 4 * x2) (h43 : -2147483648 ≤ x0) (h44 : x0 ≤ 2147483647) (h45 : -2147483648 ≤ x1) (h46 : x1 ≤ 2147483647) (h47 : -2147483648 ≤ x2) (h48 : x2 ≤ 2147483647) (h49 : -2147483648 ≤ x4) (h50 : x4 ≤ 2147483647) (h51 : -2147483648 ≤ x5) (h52 : x5 ≤ 2147483647) (h53 : -2147483648 ≤ x6) (h54 : x6 ≤ 2147483647) (h55 : -2147483648 ≤ x7) (h56 : x7 ≤ 2147483647) (h57 : -2147483648 ≤ x8) (h58 : x8 ≤ 2147483647) (h59 : -2147483648 ≤ x9) (h60 : x9 ≤ 2147483647) (h61 : -2147483648 ≤ x10) (h62 : x10 ≤ 2147483647) (h63 : -2147483648 ≤ x11) (h64 : x11 ≤ 2147483647) (h65 : -2147483648 ≤ x12) (h66 : x12 ≤ 2147483647) (h67 : -2147483648 ≤ x13) (h68 : x13 ≤ 2147483647) (h69 : -2147483648 ≤ x14) (h70 : x14 ≤ 2147483647) (h71 : -2147483648 ≤ x15) (h72 : x15 ≤ 2147483647) (h73 : -2147483648 ≤ x16) (h74 : x16 ≤ 2147483647) (h75 : -2147483648 ≤ x18) (h76 : x18 ≤ 2147483647) (h77 : -2147483648 ≤ x19) (h78 : x19 ≤ 2147483647) (h79 : -2147483648 ≤ x20) (h80 : x20 ≤ 2147483647) (h81 : -2147483648 ≤ x21) (h82 : x21 ≤ 2147483647) (h83 : -2147483648 ≤ x22) (h84 : x22 ≤ 2147483647) (h85 : -2147483648 ≤ x24) (h86 : x24 ≤ 2147483647) (h87 : -2147483648 ≤ x25) (h88 : x25 ≤ 2147483647) (h89 : -2147483648 ≤ x26) (h90 : x26 ≤ 2147483647) (h91 : -2147483648 ≤ x27) (h92 : x27 ≤ 2147483647) (h93 : -2147483648 ≤ x28) (h94 : x28 ≤ 2147483647) (h95 : -2147483648 ≤ x29) (h96 : x29 ≤ 2147483647) (h97 : -2147483648 ≤ x30) (h98 : x30 ≤ 2147483647) (h99 : -2147483648 ≤ x31) (h100 : x31 ≤ 2147483647) : -2147483648 ≤ 4 * x0 := by omega
theorem o19_192 {x0 x1 x2 x4 x5 x6 x7 x8 x9 x10 x11 x12 x13 x14 x15 x16 x18 x19 x20 x21 x22 x24 x25 x26 x27 x28 x29 x30 x31 : Int} {x3 x17 x23 : Nat} (h0 : 0 ≤ x1) (h1 : x1 ≤ 180) (h2 : 1 ≤ x2) (h3 : x2 ≤ 60) (h4 : 60 - x2 < ((x3 + 1 : Nat) : Int)) (h5 : 0 ≤ x4) (h6 : x4 ≤ 60) (h7 : x2 < x4) (h8 : x5 = 4 * x2) (h9 : x6 = 1) (h10 : x7 = x2 + x6) (h11 : x8 = 4 * x7) (h12 : x9 = 1) (h13 : x10 = x2 + x9) (h14 : x11 = 1) (h15 : x12 = x2 - x11) (h16 : x13 = 4 * x12) (h17 : x14 = 1) (h18 : x15 = x2 - x14) (h19 : 0 * 0 ≤ x16) (h20 : x16 ≤ 232 * 58) (h21 : 0 ≤ x0) (h22 : x0 ≤ 117) (h23 : 117 - x0 < ((x17 + 1 : Nat) : Int)) (h24 : x18 = 2 * x2) (h25 : x19 = 2) (h26 : x20 = x18 - x19) (h27 : x0 ≤ x20) (h28 : x0 ≤ x21) (h29 : 0 ≤ x22) (h30 : x22 ≤ 4) (h31 : 4 - x22 < ((x23 + 1 : Nat) : Int)) (h32 : x24 = 4) (h33 : x22 < x24) (h34 : x25 = 4 * x0) (h35 : x26 = x16 + x25) (h36 : x27 = x26 + x22) (h37 : 0 ≤ x28) (h38 : x28 ≤ 60) (h39 : x28 = x4) (h40 : x29 = x1 + x28) (h41 : x30 = x29 - x2) (h42 : x31 = 4 * x2) (h43 : -2147483648 ≤ x0) (h44 : x0 ≤ 2147483647) (h45 : -2147483648 ≤ x1) (h46 : x1 ≤ 2147483647) (h47 : -2147483648 ≤ x2) (h48 : x2 ≤ 2147483647) (h49 : -2147483648 ≤ x4) (h50 : x4 ≤ 2147483647) (h51 : -2147483648 ≤ x5) (h52 : x5 ≤ 2147483647) (h53 : -2147483648 ≤ x6) (h54 : x6 ≤ 2147483647) (h55 : -2147483648 ≤ x7) (h56 : x7 ≤ 2147483647) (h57 : -2147483648 ≤ x8) (h58 : x8 ≤ 2147483647) (h59 : -2147483648 ≤ x9) (h60 : x9 ≤ 2147483647) (h61 : -2147483648 ≤ x10) (h62 : x10 ≤ 2147483647) (h63 : -2147483648 ≤ x11) (h64 : x11 ≤ 2147483647) (h65 : -2147483648 ≤ x12) (h66 : x12 ≤ 2147483647) (h67 : -2147483648 ≤ x13) (h68 : x13 ≤ 2147483647) (h69 : -2147483648 ≤ x14) (h70 : x14 ≤ 2147483647) (h71 : -2147483648 ≤ x15) (h72 : x15 ≤ 2147483647) (h73 : -2147483648 ≤ x16) (h74 : x16 ≤ 2147483647) (h75 : -2147483648 ≤ x18) (h76 : x18 ≤ 2147483647) (h77 : -2147483648 ≤ x19) (h78 : x19 ≤ 2147483647) (h79 : -2147483648 ≤ x20) (h80 : x20 ≤ 2147483647) (h81 : -2147483648 ≤ x21) (h82 : x21 ≤ 2147483647) (h83 : -2147483648 ≤ x22) (h84 : x22 ≤ 2147483647) (h85 : -2147483648 ≤ x24) (h86 : x24 ≤ 2147483647) (h87 : -2147483648 ≤ x25) (h88 : x25 ≤ 2147483647) (h89 : -2147483648 ≤ x26) (h90 : x26 ≤ 2147483647) (h91 : -2147483648 ≤ x27) (h92 : x27 ≤ 2147483647) (h93 : -2147483648 ≤ x28) (h94 : x28 ≤ 2147483647) (h95 : -2147483648 ≤ x29) (h96 : x29 ≤ 2147483647) (h97 : -2147483648 ≤ x30) (h98 : x30 ≤ 2147483647) (h99 : -2147483648 ≤ x31) (h100 : x31 ≤ 2147483647) : 4 * x0 ≤ 2147483647 := by omega
theorem o19_193 {x0 x1 x2 x3 x5 x6 x7 x8 x9 x10 x11 x12 x13 x14 x15 x16 x17 x18 x20 x21 x22 x23 x24 x26 x27 x28 x29 x30 x31 x32 x33 : Int} {x4 x19 x25 : Nat} (h0 : 0 ≤ x2) (h1 : x2 ≤ 180) (h2 : 1 ≤ x3) (h3 : x3 ≤ 60) (h4 : 60 - x3 < ((x4 + 1 : Nat) : Int)) (h5 : 0 ≤ x5) (h6 : x5 ≤ 60) (h7 : x3 < x5) (h8 : x6 = 4 * x3) (h9 : x7 = 1) (h10 : x8 = x3 + x7) (h11 : x9 = 4 * x8) (h12 : x10 = 1) (h13 : x11 = x3 + x10) (h14 : x12 = 1) (h15 : x13 = x3 - x12) (h16 : x14 = 4 * x13) (h17 : x15 = 1) (h18 : x16 = x3 - x15) (h19 : 0 * 0 ≤ x17) (h20 : x17 ≤ 232 * 58) (h21 : 0 ≤ x18) (h22 : x18 ≤ 117) (h23 : 117 - x18 < ((x19 + 1 : Nat) : Int)) (h24 : x20 = 2 * x3) (h25 : x21 = 2) (h26 : x22 = x20 - x21) (h27 : x18 ≤ x22) (h28 : x18 ≤ x23) (h29 : 0 ≤ x24) (h30 : x24 ≤ 4) (h31 : 4 - x24 < ((x25 + 1 : Nat) : Int)) (h32 : x26 = 4) (h33 : x24 < x26) (h34 : x27 = 4 * x18) (h35 : x28 = x17 + x27) (h36 : x29 = x28 + x24) (h37 : 0 ≤ x30) (h38 : x30 ≤ 60) (h39 : x30 = x5) (h40 : x31 = x2 + x30) (h41 : x32 = x31 - x3) (h42 : x33 = 4 * x3) (h43 : 4 * 1 ≤ x0) (h44 : x0 ≤ 236 * 59) (h45 : x1 = 4 * x18) (h46 : -2147483648 ≤ x0) (h47 : x0 ≤ 2147483647) (h48 : -2147483648 ≤ x1) (h49 : x1 ≤ 2147483647) (h50 : -2147483648 ≤ x2) (h51 : x2 ≤ 2147483647) (h52 : -2147483648 ≤ x3) (h53 : x3 ≤ 2147483647) (h54 : -2147483648 ≤ x5) (h55 : x5 ≤ 2147483647) (h56 : -2147483648 ≤ x6) (h57 : x6 ≤ 2147483647) (h58 : -2147483648 ≤ x7) (h59 : x7 ≤ 2147483647) (h60 : -2147483648 ≤ x8) (h61 : x8 ≤ 2147483647) (h62 : -2147483648 ≤ x9) (h63 : x9 ≤ 2147483647) (h64 : -2147483648 ≤ x10) (h65 : x10 ≤ 2147483647) (h66 : -2147483648 ≤ x11) (h67 : x11 ≤ 2147483647) (h68 : -2147483648 ≤ x12) (h69 : x12 ≤ 2147483647) (h70 : -2147483648 ≤ x13) (h71 : x13 ≤ 2147483647) (h72 : -2147483648 ≤ x14) (h73 : x14 ≤ 2147483647) (h74 : -2147483648 ≤ x15) (h75 : x15 ≤ 2147483647) (h76 : -2147483648 ≤ x16) (h77 : x16 ≤ 2147483647) (h78 : -2147483648 ≤ x17) (h79 : x17 ≤ 2147483647) (h80 : -2147483648 ≤ x18) (h81 : x18 ≤ 2147483647) (h82 : -2147483648 ≤ x20) (h83 : x20 ≤ 2147483647) (h84 : -2147483648 ≤ x21) (h85 : x21 ≤ 2147483647) (h86 : -2147483648 ≤ x22) (h87 : x22 ≤ 2147483647) (h88 : -2147483648 ≤ x23) (h89 : x23 ≤ 2147483647) (h90 : -2147483648 ≤ x24) (h91 : x24 ≤ 2147483647) (h92 : -2147483648 ≤ x26) (h93 : x26 ≤ 2147483647) (h94 : -2147483648 ≤ x27) (h95 : x27 ≤ 2147483647) (h96 : -2147483648 ≤ x28) (h97 : x28 ≤ 2147483647) (h98 : -2147483648 ≤ x29) (h99 : x29 ≤ 2147483647) (h100 : -2147483648 ≤ x30) (h101 : x30 ≤ 2147483647) (h102 : -2147483648 ≤ x31) (h103 : x31 ≤ 2147483647) (h104 : -2147483648 ≤ x32) (h105 : x32 ≤ 2147483647) (h106 : -2147483648 ≤ x33) (h107 : x33 ≤ 2147483647) : -2147483648 ≤ x0 + x1 := by omega
theorem o19_194 {x0 x1 x2 x3 x5 x6 x7 x8 x9 x10 x11 x12 x13 x14 x15 x16 x17 x18 x20 x21 x22 x23 x24 x26 x27 x28 x29 x30 x31 x32 x33 : Int} {x4 x19 x25 : Nat} (h0 : 0 ≤ x2) (h1 : x2 ≤ 180) (h2 : 1 ≤ x3) (h3 : x3 ≤ 60) (h4 : 60 - x3 < ((x4 + 1 : Nat) : Int)) (h5 : 0 ≤ x5) (h6 : x5 ≤ 60) (h7 : x3 < x5) (h8 : x6 = 4 * x3) (h9 : x7 = 1) (h10 : x8 = x3 + x7) (h11 : x9 = 4 * x8) (h12 : x10 = 1) (h13 : x11 = x3 + x10) (h14 : x12 = 1) (h15 : x13 = x3 - x12) (h16 : x14 = 4 * x13) (h17 : x15 = 1) (h18 : x16 = x3 - x15) (h19 : 0 * 0 ≤ x17) (h20 : x17 ≤ 232 * 58) (h21 : 0 ≤ x18) (h22 : x18 ≤ 117) (h23 : 117 - x18 < ((x19 + 1 : Nat) : Int)) (h24 : x20 = 2 * x3) (h25 : x21 = 2) (h26 : x22 = x20 - x21) (h27 : x18 ≤ x22) (h28 : x18 ≤ x23) (h29 : 0 ≤ x24) (h30 : x24 ≤ 4) (h31 : 4 - x24 < ((x25 + 1 : Nat) : Int)) (h32 : x26 = 4) (h33 : x24 < x26) (h34 : x27 = 4 * x18) (h35 : x28 = x17 + x27) (h36 : x29 = x28 + x24) (h37 : 0 ≤ x30) (h38 : x30 ≤ 60) (h39 : x30 = x5) (h40 : x31 = x2 + x30) (h41 : x32 = x31 - x3) (h42 : x33 = 4 * x3) (h43 : 4 * 1 ≤ x0) (h44 : x0 ≤ 236 * 59) (h45 : x1 = 4 * x18) (h46 : -2147483648 ≤ x0) (h47 : x0 ≤ 2147483647) (h48 : -2147483648 ≤ x1) (h49 : x1 ≤ 2147483647) (h50 : -2147483648 ≤ x2) (h51 : x2 ≤ 2147483647) (h52 : -2147483648 ≤ x3) (h53 : x3 ≤ 2147483647) (h54 : -2147483648 ≤ x5) (h55 : x5 ≤ 2147483647) (h56 : -2147483648 ≤ x6) (h57 : x6 ≤ 2147483647) (h58 : -2147483648 ≤ x7) (h59 : x7 ≤ 2147483647) (h60 : -2147483648 ≤ x8) (h61 : x8 ≤ 2147483647) (h62 : -2147483648 ≤ x9) (h63 : x9 ≤ 2147483647) (h64 : -2147483648 ≤ x10) (h65 : x10 ≤ 2147483647) (h66 : -2147483648 ≤ x11) (h67 : x11 ≤ 2147483647) (h68 : -2147483648 ≤ x12) (h69 : x12 ≤ 2147483647) (h70 : -2147483648 ≤ x13) (h71 : x13 ≤ 2147483647) (h72 : -2147483648 ≤ x14) (h73 : x14 ≤ 2147483647) (h74 : -2147483648 ≤ x15) (h75 : x15 ≤ 2147483647) (h76 : -2147483648 ≤ x16) (h77 : x16 ≤ 2147483647) (h78 : -2147483648 ≤ x17) (h79 : x17 ≤ 2147483647) (h80 : -2147483648 ≤ x18) (h81 : x18 ≤ 2147483647) (h82 : -2147483648 ≤ x20) (h83 : x20 ≤ 2147483647) (h84 : -2147483648 ≤ x21) (h85 : x21 ≤ 2147483647) (h86 : -2147483648 ≤ x22) (h87 : x22 ≤ 2147483647) (h88 : -2147483648 ≤ x23) (h89 : x23 ≤ 2147483647) (h90 : -2147483648 ≤ x24) (h91 : x24 ≤ 2147483647) (h92 : -2147483648 ≤ x26) (h93 : x26 ≤ 2147483647) (h94 : -2147483648 ≤ x27) (h95 : x27 ≤ 2147483647) (h96 : -2147483648 ≤ x28) (h97 : x28 ≤ 2147483647) (h98 : -2147483648 ≤ x29) (h99 : x29 ≤ 2147483647) (h100 : -2147483648 ≤ x30) (h101 : x30 ≤ 2147483647) (h102 : -2147483648 ≤ x31) (h103 : x31 ≤ 2147483647) (h104 : -2147483648 ≤ x32) (h105 : x32 ≤ 2147483647) (h106 : -2147483648 ≤ x33) (h107 : x33 ≤ 2147483647) : x0 + x1 ≤ 2147483647 := by omega
theorem o19_195 {x0 x1 x2 x4 x5 x6 x7 x8 x9 x10 x11 x12 x13 x14 x15 x16 x17 x19 x20 x21 x22 x23 x25 x26 x27 x28 x29 x30 x31 x32 x33 x34 : Int} {x3 x18 x24 : Nat} (h0 : 0 ≤ x1) (h1 : x1 ≤ 180) (h2 : 1 ≤ x2) (h3 : x2 ≤ 60) (h4 : 60 - x2 < ((x3 + 1 : Nat) : Int)) (h5 : 0 ≤ x4) (h6 : x4 ≤ 60) (h7 : x2 < x4) (h8 : x5 = 4 * x2) (h9 : x6 = 1) (h10 : x7 = x2 + x6) (h11 : x8 = 4 * x7) (h12 : x9 = 1) (h13 : x10 = x2 + x9) (h14 : x11 = 1) (h15 : x12 = x2 - x11) (h16 : x13 = 4 * x12) (h17 : x14 = 1) (h18 : x15 = x2 - x14) (h19 : 0 * 0 ≤ x16) (h20 : x16 ≤ 232 * 58) (h21 : 0 ≤ x17) (h22 : x17 ≤ 117) (h23 : 117 - x17 < ((x18 + 1 : Nat) : Int)) (h24 : x19 = 2 * x2) (h25 : x20 = 2) (h26 : x21 = x19 - x20) (h27 : x17 ≤ x21) (h28 : x17 ≤ x22) (h29 : 0 ≤ x23) (h30 : x23 ≤ 4) (h31 : 4 - x23 < ((x24 + 1 : Nat) : Int)) (h32 : x25 = 4) (h33 : x23 < x25) (h34 : x26 = 4 * x17) (h35 : x27 = x16 + x26) (h36 : x28 = x27 + x23) (h37 : 0 ≤ x29) (h38 : x29 ≤ 60) (h39 : x29 = x4) (h40 : x30 = x1 + x29) (h41 : x0 = x30 - x2) (h42 : x31 = 4 * x2) (h43 : 4 * 1 ≤ x32) (h44 : x32 ≤ 236 * 59) (h45 : x33 = 4 * x17) (h46 : x34 = x32 + x33) : 0 ≤ x0 := by omega
theorem o19_196 {x0 x1 x2 x4 x5 x6 x7 x8 x9 x10 x11 x12 x13 x14 x15 x16 x17 x19 x20 x21 x22 x23 x25 x26 x27 x28 x29 x30 x31 x32 x33 x34 : Int} {x3 x18 x24 : Nat} (h0 : 0 ≤ x1) (h1 : x1 ≤ 180) (h2 : 1 ≤ x2) (h3 : x2 ≤ 60) (h4 : 60 - x2 < ((x3 + 1 : Nat) : Int)) (h5 : 0 ≤ x4) (h6 : x4 ≤ 60) (h7 : x2 < x4) (h8 : x5 = 4 * x2) (h9 : x6 = 1) (h10 : x7 = x2 + x6) (h11 : x8 = 4 * x7) (h12 : x9 = 1) (h13 : x10 = x2 + x9) (h14 : x11 = 1) (h15 : x12 = x2 - x11) (h16 : x13 = 4 * x12) (h17 : x14 = 1) (h18 : x15 = x2 - x14) (h19 : 0 * 0 ≤ x16) (h20 : x16 ≤ 232 * 58) (h21 : 0 ≤ x17) (h22 : x17 ≤ 117) (h23 : 117 - x17 < ((x18 + 1 : Nat) : Int)) (h24 : x19 = 2 * x2) (h25 : x20 = 2) (h26 : x21 = x19 - x20) (h27 : x17 ≤ x21) (h28 : x17 ≤ x22) (h29 : 0 ≤ x23) (h30 : x23 ≤ 4) (h31 : 4 - x23 < ((x24 + 1 : Nat) : Int)) (h32 : x25 = 4) (h33 : x23 < x25) (h34 : x26 = 4 * x17) (h35 : x27 = x16 + x26) (h36 : x28 = x27 + x23) (h37 : 0 ≤ x29) (h38 : x29 ≤ 60) (h39 : x29 = x4) (h40 : x30 = x1 + x29) (h41 : x0 = x30 - x2) (h42 : x31 = 4 * x2) (h43 : 4 * 1 ≤ x32) (h44 : x32 ≤ 236 * 59) (h45 : x33 = 4 * x17) (h46 : x34 = x32 + x33) : x0 ≤ 239 := by omega
theorem o19_197 {x0 x1 x2 x4 x5 x6 x7 x8 x9 x10 x11 x12 x13 x14 x15 x16 x17 x19 x20 x21 x22 x24 x25 x26 x27 x28 x29 x30 x31 x32 x33 x34 : Int} {x3 x18 x23 : Nat} (h0 : 0 ≤ x1) (h1 : x1 ≤ 180) (h2 : 1 ≤ x2) (h3 : x2 ≤ 60) (h4 : 60 - x2 < ((x3 + 1 : Nat) : Int)) (h5 : 0 ≤ x4) (h6 : x4 ≤ 60) (h7 : x2 < x4) (h8 : x5 = 4 * x2) (h9 : x6 = 1) (h10 : x7 = x2 + x6) (h11 : x8 = 4 * x7) (h12 : x9 = 1) (h13 : x10 = x2 + x9) (h14 : x11 = 1) (h15 : x12 = x2 - x11) (h16 : x13 = 4 * x12) (h17 : x14 = 1) (h18 : x15 = x2 - x14) (h19 : 0 * 0 ≤ x16) (h20 : x16 ≤ 232 * 58) (h21 : 0 ≤ x17) (h22 : x17 ≤ 117) (h23 : 117 - x17 < ((x18 + 1 : Nat) : Int)) (h24 : x19 = 2 * x2) (h25 : x20 = 2) (h26 : x21 = x19 - x20) (h27 : x17 ≤ x21) (h28 : x17 ≤ x22) (h29 : 0 ≤ x0) (h30 : x0 ≤ 4) (h31 : 4 - x0 < ((x23 + 1 : Nat) : Int)) (h32 : x24 = 4) (h33 : x0 < x24) (h34 : x25 = 4 * x17) (h35 : x26 = x16 + x25) (h36 : x27 = x26 + x0) (h37 : 0 ≤ x28) (h38 : x28 ≤ 60) (h39 : x28 = x4) (h40 : x29 = x1 + x28) (h41 : x30 = x29 - x2) (h42 : x31 = 4 * x2) (h43 : 4 * 1 ≤ x32) (h44 : x32 ≤ 236 * 59) (h45 : x33 = 4 * x17) (h46 : x34 = x32 + x33) : 0 ≤ x0 := by omega
theorem o19_198 {x0 x1 x2 x4 x5 x6 x7 x8 x9 x10 x11 x12 x13 x14 x15 x16 x17 x19 x20 x21 x22 x24 x25 x26 x27 x28 x29 x30 x31 x32 x33 x34 : Int} {x3 x18 x23 : Nat} (h0 : 0 ≤ x1) (h1 : x1 ≤ 180) (h2 : 1 ≤ x2) (h3 : x2 ≤ 60) (h4 : 60 - x2 < ((x3 + 1 : Nat) : Int)) (h5 : 0 ≤ x4) (h6 : x4 ≤ 60) (h7 : x2 < x4) (h8 : x5 = 4 * x2) (h9 : x6 = 1) (h10 : x7 = x2 + x6) (h11 : x8 = 4 * x7) (h12 : x9 = 1) (h13 : x10 = x2 + x9) (h14 : x11 = 1) (h15 : x12 = x2 - x11) (h16 : x13 = 4 * x12) (h17 : x14 = 1) (h18 : x15 = x2 - x14) (h19 : 0 * 0 ≤ x16) (h20 : x16 ≤ 232 * 58) (h21 : 0 ≤ x17) (h22 : x17 ≤ 117) (h23 : 117 - x17 < ((x18 + 1 : Nat) : Int)) (h24 : x19 = 2 * x2) (h25 : x20 = 2) (h26 : x21 = x19 - x20) (h27 : x17 ≤ x21) (h28 : x17 ≤ x22) (h29 : 0 ≤ x0) (h30 : x0 ≤ 4) (h31 : 4 - x0 < ((x23 + 1 : Nat) : Int)) (h32 : x24 = 4) (h33 : x0 < x24) (h34 : x25 = 4 * x17) (h35 : x26 = x16 + x25) (h36 : x27 = x26 + x0) (h37 : 0 ≤ x28) (h38 : x28 ≤ 60) (h39 : x28 = x4) (h40 : x29 = x1 + x28) (h41 : x30 = x29 - x2) (h42 : x31 = 4 * x2) (h43 : 4 * 1 ≤ x32) (h44 : x32 ≤ 236 * 59) (h45 : x33 = 4 * x17) (h46 : x34 = x32 + x33) : x0 ≤ 3 := by omega
theorem o19_199 {x0 x1 x2 x4 x5 x6 x7 x8 x9 x10 x11 x12 x13 x14 x15 x16 x17 x19 x20 x21 x22 x23 x25 x26 x27 x28 x29 x30 x31 x32 x33 x34 : Int} {x3 x18 x24 : Nat} (h0 : 0 ≤ x1) (h1 : x1 ≤ 180) (h2 : 1 ≤ x2) (h3 : x2 ≤ 60) (h4 : 60 - x2 < ((x3 + 1 : Nat) : Int)) (h5 : 0 ≤ x4) (h6 : x4 ≤ 60) (h7 : x2 < x4) (h8 : x5 = 4 * x2) (h9 : x6 = 1) (h10 : x7 = x2 + x6) (h11 : x8 = 4 * x7) (h12 : x9 = 1) (h13 : x10 = x2 + x9) (h14 : x11 = 1) (h15 : x12 = x2 - x11) (h16 : x13 = 4 * x12) (h17 : x14 = 1) (h18 : x15 = x2 - x14) (h19 : 0 * 0 ≤ x16) (h20 : x16 ≤ 232 * 58) (h21 : 0 ≤ x17) (h22 : x17 ≤ 117) (h23 : 117 - x17 < ((x18 + 1 : Nat) : Int)) (h24 : x19 = 2 * x2) (h25 : x20 = 2) (h26 : x21 = x19 - x20) (h27 : x17 ≤ x21) (h28 : x17 ≤ x22) (h29 : 0 ≤ x23) (h30 : x23 ≤ 4) (h31 : 4 - x23 < ((x24 + 1 : Nat) : Int)) (h32 : x25 = 4) (h33 : x23 < x25) (h34 : x26 = 4 * x17) (h35 : x27 = x16 + x26) (h36 : x28 = x27 + x23) (h37 : 0 ≤ x29) (h38 : x29 ≤ 60) (h39 : x29 = x4) (h40 : x30 = x1 + x29) (h41 : x31 = x30 - x2) (h42 : x32 = 4 * x2) (h43 : 4 * 1 ≤ x33) (h44 : x33 ≤ 236 * 59) (h45 : x34 = 4 * x17) (h46 : x0 = x33 + x34) : 0 ≤ x0 := by omega
theorem o19_200 {x0 x1 x2 x4 x5 x6 x7 x8 x9 x10 x11 x12 x13 x14 x15 x16 x17 x19 x20 x21 x22 x23 x25 x26 x27 x28 x29 x30 x31 x32 x33 x34 : Int} {x3 x18 x24 : Nat} (h0 : 0 ≤ x1) (h1 : x1 ≤ 180) (h2 : 1 ≤ x2) (h3 : x2 ≤ 60) (h4 : 60 - x2 < ((x3 + 1 : Nat) : Int)) (h5 : 0 ≤ x4) (h6 : x4 ≤ 60) (h7 : x2 < x4) (h8 : x5 = 4 * x2) (h9 : x6 = 1) (h10 : x7 = x2 + x6) (h11 : x8 = 4 * x7) (h12 : x9 = 1) (h13 : x10 = x2 + x9) (h14 : x11 = 1) (h15 : x12 = x2 - x11) (h16 : x13 = 4 * x12) (h17 : x14 = 1) (h18 : x15 = x2 - x14) (h19 : 0 * 0 ≤ x16) (h20 : x16 ≤ 232 * 58) (h21 : 0 ≤ x17) (h22 : x17 ≤ 117) (h23 : 117 - x17 < ((x18 + 1 : Nat) : Int)) (h24 : x19 = 2 * x2) (h25 : x20 = 2) (h26 : x21 = x19 - x20) (h27 : x17 ≤ x21) (h28 : x17 ≤ x22) (h29 : 0 ≤ x23) (h30 : x23 ≤ 4) (h31 : 4 - x23 < ((x24 + 1 : Nat) : Int)) (h32 : x25 = 4) (h33 : x23 < x25) (h34 : x26 = 4 * x17) (h35 : x27 = x16 + x26) (h36 : x28 = x27 + x23) (h37 : 0 ≤ x29) (h38 : x29 ≤ 60) (h39 : x29 = x4) (h40 : x30 = x1 + x29) (h41 : x31 = x30 - x2) (h42 : x32 = 4 * x2) (h43 : 4 * 1 ≤ x33) (h44 : x33 ≤ 236 * 59) (h45 : x34 = 4 * x17) (h46 : x0 = x33 + x34) : x0 ≤ 14388 := by omega
theorem o19_201 {x0 x1 x2 x4 x5 x6 x7 x8 x9 x10 x11 x12 x13 x14 x15 x16 x17 x19 x20 x21 x22 x24 x25 x26 x27 x28 x29 x30 x31 x32 x33 x34 : Int} {x3 x18 x23 : Nat} (h0 : 0 ≤ x1) (h1 : x1 ≤ 180) (h2 : 1 ≤ x2) (h3 : x2 ≤ 60) (h4 : 60 - x2 < ((x3 + 1 : Nat) : Int)) (h5 : 0 ≤ x4) (h6 : x4 ≤ 60) (h7 : x2 < x4) (h8 : x5 = 4 * x2) (h9 : x6 = 1) (h10 : x7 = x2 + x6) (h11 : x8 = 4 * x7) (h12 : x9 = 1) (h13 : x10 = x2 + x9) (h14 : x11 = 1) (h15 : x12 = x2 - x11) (h16 : x13 = 4 * x12) (h17 : x14 = 1) (h18 : x15 = x2 - x14) (h19 : 0 * 0 ≤ x16) (h20 : x16 ≤ 232 * 58) (h21 : 0 ≤ x17) (h22 : x17 ≤ 117) (h23 : 117 - x17 < ((x18 + 1 : Nat) : Int)) (h24 : x19 = 2 * x2) (h25 : x20 = 2) (h26 : x21 = x19 - x20) (h27 : x17 ≤ x21) (h28 : x17 ≤ x22) (h29 : 0 ≤ x0) (h30 : x0 ≤ 4) (h31 : 4 - x0 < ((x23 + 1 : Nat) : Int)) (h32 : x24 = 4) (h33 : x0 < x24) (h34 : x25 = 4 * x17) (h35 : x26 = x16 + x25) (h36 : x27 = x26 + x0) (h37 : 0 ≤ x28) (h38 : x28 ≤ 60) (h39 : x28 = x4) (h40 : x29 = x1 + x28) (h41 : x30 = x29 - x2) (h42 : x31 = 4 * x2) (h43 : 4 * 1 ≤ x32) (h44 : x32 ≤ 236 * 59) (h45 : x33 = 4 * x17) (h46 : x34 = x32 + x33) (h47 : -2147483648 ≤ x0) (h48 : x0 ≤ 2147483647) (h49 : -2147483648 ≤ x1) (h50 : x1 ≤ 2147483647) (h51 : -2147483648 ≤ x2) (h52 : x2 ≤ 2147483647) (h53 : -2147483648 ≤ x4) (h54 : x4 ≤ 2147483647) (h55 : -2147483648 ≤ x5) (h56 : x5 ≤ 2147483647) (h57 : -2147483648 ≤ x6) (h58 : x6 ≤ 2147483647) (h59 : -2147483648 ≤ x7) (h60 : x7 ≤ 2147483647) (h61 : -2147483648 ≤ x8) (h62 : x8 ≤ 2147483647) (h63 : -2147483648 ≤ x9) (h64 : x9 ≤ 2147483647) (h65 : -2147483648 ≤ x10) (h66 : x10 ≤ 2147483647) (h67 : -2147483648 ≤ x11) (h68 : x11 ≤ 2147483647) (h69 : -2147483648 ≤ x12) (h70 : x12 ≤ 2147483647) (h71 : -2147483648 ≤ x13) (h72 : x13 ≤ 2147483647) (h73 : -2147483648 ≤ x14) (h74 : x14 ≤ 2147483647) (h75 : -2147483648 ≤ x15) (h76 : x15 ≤ 2147483647) (h77 : -2147483648 ≤ x16) (h78 : x16 ≤ 2147483647) (h79 : -2147483648 ≤ x17) (h80 : x17 ≤ 2147483647) (h81 : -2147483648 ≤ x19) (h82 : x19 ≤ 2147483647) (h83 : -2147483648 ≤ x20) (h84 : x20 ≤ 2147483647) (h85 : -2147483648 ≤ x21) (h86 : x21 ≤ 2147483647) (h87 : -2147483648 ≤ x22) (h88 : x22 ≤ 2147483647) (h89 : -2147483648 ≤ x24) (h90 : x24 ≤ 2147483647) (h91 : -2147483648 ≤ x25) (h92 : x25 ≤ 2147483647) (h93 : -2147483648 ≤ x26) (h94 : x26 ≤ 2147483647) (h95 : -2147483648 ≤ x27) (h96 : x27 ≤ 2147483647) (h97 : -2147483648 ≤ x28) (h98 : x28 ≤ 2147483647) (h99 : -2147483648 ≤ x29) (h100 : x29 ≤ 2147483647) (h101 : -2147483648 ≤ x30) (h102 : x30 ≤ 2147483647) (h103 : -2147483648 ≤ x31) (h104 : x31 ≤ 2147483647) (h105 : -2147483648 ≤ x32) (h106 : x32 ≤ 2147483647) (h107 : -2147483648 ≤ x33) (h108 : x33 ≤ 2147483647) (h109 : -2147483648 ≤ x34) (h110 : x34 ≤ 2147483647) : -2147483648 ≤ x0 + 1 := by omega
theorem o19_202 {x0 x1 x2 x4 x5 x6 x7 x8 x9 x10 x11 x12 x13 x14 x15 x16 x17 x19 x20 x21 x22 x24 x25 x26 x27 x28 x29 x30 x31 x32 x33 x34 : Int} {x3 x18 x23 : Nat} (h0 : 0 ≤ x1) (h1 : x1 ≤ 180) (h2 : 1 ≤ x2) (h3 : x2 ≤ 60) (h4 : 60 - x2 < ((x3 + 1 : Nat) : Int)) (h5 : 0 ≤ x4) (h6 : x4 ≤ 60) (h7 : x2 < x4) (h8 : x5 = 4 * x2) (h9 : x6 = 1) (h10 : x7 = x2 + x6) (h11 : x8 = 4 * x7) (h12 : x9 = 1) (h13 : x10 = x2 + x9) (h14 : x11 = 1) (h15 : x12 = x2 - x11) (h16 : x13 = 4 * x12) (h17 : x14 = 1) (h18 : x15 = x2 - x14) (h19 : 0 * 0 ≤ x16) (h20 : x16 ≤ 232 * 58) (h21 : 0 ≤ x17) (h22 : x17 ≤ 117) (h23 : 117 - x17 < ((x18 + 1 : Nat) : Int)) (h24 : x19 = 2 * x2) (h25 : x20 = 2) (h26 : x21 = x19 - x20) (h27 : x17 ≤ x21) (h28 : x17 ≤ x22) (h29 : 0 ≤ x0) (h30 : x0 ≤ 4) (h31 : 4 - x0 < ((x23 + 1 : Nat) : Int)) (h32 : x24 = 4) (h33 : x0 < x24) (h34 : x25 = 4 * x17) (h35 : x26 = x16 + x25) (h36 : x27 = x26 + x0) (h37 : 0 ≤ x28) (h38 : x28 ≤ 60) (h39 : x28 = x4) (h40 : x29 = x1 + x28) (h41 : x30 = x29 - x2) (h42 : x31 = 4 * x2) (h43 : 4 * 1 ≤ x32) (h44 : x32 ≤ 236 * 59) (h45 : x33 = 4 * x17) (h46 : x34 = x32 + x33) (h47 : -2147483648 ≤ x0) (h48 : x0 ≤ 2147483647) (h49 : -2147483648 ≤ x1) (h50 : x1 ≤ 2147483647) (h51 : -2147483648 ≤ x2) (h52 : x2 ≤ 2147483647) (h53 : -2147483648 ≤ x4) (h54 : x4 ≤ 2147483647) (h55 : -2147483648 ≤ x5) (h56 : x5 ≤ 2147483647) (h57 : -2147483648 ≤ x6) (h58 : x6 ≤ 2147483647) (h59 : -2147483648 ≤ x7) (h60 : x7 ≤ 2147483647) (h61 : -2147483648 ≤ x8) (h62 : x8 ≤ 2147483647) (h63 : -2147483648 ≤ x9) (h64 : x9 ≤ 2147483647) (h65 : -2147483648 ≤ x10) (h66 : x10 ≤ 2147483647) (h67 : -2147483648 ≤ x11) (h68 : x11 ≤ 2147483647) (h69 : -2147483648 ≤ x12) (h70 : x12 ≤ 2147483647) (h71 : -2147483648 ≤ x13) (h72 : x13 ≤ 2147483647) (h73 : -2147483648 ≤ x14) (h74 : x14 ≤ 2147483647) (h75 : -2147483648 ≤ x15) (h76 : x15 ≤ 2147483647) (h77 : -2147483648 ≤ x16) (h78 : x16 ≤ 2147483647) (h79 : -2147483648 ≤ x17) (h80 : x17 ≤ 2147483647) (h81 : -2147483648 ≤ x19) (h82 : x19 ≤ 2147483647) (h83 : -2147483648 ≤ x20) (h84 : x20 ≤ 2147483647) (h85 : -2147483648 ≤ x21) (h86 : x21 ≤ 2147483647) (h87 : -2147483648 ≤ x22) (h88 : x22 ≤ 2147483647) (h89 : -2147483648 ≤ x24) (h90 : x24 ≤ 2147483647) (h91 : -2147483648 ≤ x25) (h92 : x25 ≤ 2147483647) (h93 : -2147483648 ≤ x26) (h94 : x26 ≤ 2147483647) (h95 : -2147483648 ≤ x27) (h96 : x27 ≤ 2147483647) (h97 : -2147483648 ≤ x28) (h98 : x28 ≤ 2147483647) (h99 : -2147483648 ≤ x29) (h100 : x29 ≤ 2147483647) (h101 : -2147483648 ≤ x30) (h102 : x30 ≤ 2147483647) (h103 : -2147483648 ≤ x31) (h104 : x31 ≤ 2147483647) (h105 : -2147483648 ≤ x32) (h106 : x32 ≤ 2147483647) (h107 : -2147483648 ≤ x33) (h108 : x33 ≤ 2147483647) (h109 : -2147483648 ≤ x34) (h110 : x34 ≤ 2147483647) : x0 + 1 ≤ 2147483647 := by omega
theorem o19_203 {x0 x2 x4 x5 x6 x7 x8 x9 x10 x11 x12 x13 x14 x15 x16 x17 x19 x20 x21 x22 x23 x24 x25 x26 x27 x28 x29 x30 x31 x32 x33 x34 x35 : Int} {x1 x3 x18 : Nat} (h0 : 1 ≤ x2) (h1 : x2 ≤ 60) (h2 : 60 - x2 < ((x3 + 1 : Nat) : Int)) (h3 : 0 ≤ x4) (h4 : x4 ≤ 60) (h5 : x2 < x4) (h6 : x5 = 4 * x2) (h7 : x6 = 1) (h8 : x7 = x2 + x6) (h9 : x8 = 4 * x7) (h10 : x9 = 1) (h11 : x10 = x2 + x9) (h12 : x11 = 1) (h13 : x12 = x2 - x11) (h14 : x13 = 4 * x12) (h15 : x14 = 1) (h16 : x15 = x2 - x14) (h17 : 0 * 0 ≤ x16) (h18 : x16 ≤ 232 * 58) (h19 : 0 ≤ x17) (h20 : x17 ≤ 117) (h21 : 117 - x17 < ((x18 + 1 : Nat) : Int)) (h22 : x19 = 2 * x2) (h23 : x20 = 2) (h24 : x21 = x19 - x20) (h25 : x17 ≤ x21) (h26 : x17 ≤ x22) (h27 : 0 ≤ x23) (h28 : x23 ≤ 4) (h29 : 4 - x23 < ((x1 + 1 : Nat) : Int)) (h30 : x24 = 4) (h31 : x23 < x24) (h32 : x25 = 4 * x17) (h33 : x26 = x16 + x25) (h34 : x27 = x26 + x23) (h35 : x28 = x4) (h36 : x29 = x30 + x28) (h37 : x31 = x29 - x2) (h38 : x32 = 4 * x2) (h39 : 4 * 1 ≤ x33) (h40 : x33 ≤ 236 * 59) (h41 : x34 = 4 * x17) (h42 : x35 = x33 + x34) (h43 : x0 = x23 + 1) : 4 - x0 < (x1 : Int) := by omega
theorem o19_204 {x0 x1 x3 x4 x5 x6 x7 x8 x9 x10 x11 x12 x13 x14 x15 x16 x18 x19 x20 x21 x22 x24 x25 x26 x27 x28 x29 x30 x31 x32 x33 x34 x35 : Int} {x2 x17 x23 : Nat} (h0 : 1 ≤ x1) (h1 : x1 ≤ 60) (h2 : 60 - x1 < ((x2 + 1 : Nat) : Int)) (h3 : 0 ≤ x3) (h4 : x3 ≤ 60) (h5 : x1 < x3) (h6 : x4 = 4 * x1) (h7 : x5 = 1) (h8 : x6 = x1 + x5) (h9 : x7 = 4 * x6) (h10 : x8 = 1) (h11 : x9 = x1 + x8) (h12 : x10 = 1) (h13 : x11 = x1 - x10) (h14 : x12 = 4 * x11) (h15 : x13 = 1) (h16 : x14 = x1 - x13) (h17 : 0 * 0 ≤ x15) (h18 : x15 ≤ 232 * 58) (h19 : 0 ≤ x16) (h20 : x16 ≤ 117) (h21 : 117 - x16 < ((x17 + 1 : Nat) : Int)) (h22 : x18 = 2 * x1) (h23 : x19 = 2) (h24 : x20 = x18 - x19) (h25 : x16 ≤ x20) (h26 : x16 ≤ x21) (h27 : 0 ≤ x22) (h28 : x22 ≤ 4) (h29 : 4 - x22 < ((x23 + 1 : Nat) : Int)) (h30 : x24 = 4) (h31 : x22 < x24) (h32 : x25 = 4 * x16) (h33 : x26 = x15 + x25) (h34 : x27 = x26 + x22) (h35 : x28 = x3) (h36 : x29 = x30 + x28) (h37 : x31 = x29 - x1) (h38 : x32 = 4 * x1) (h39 : 4 * 1 ≤ x33) (h40 : x33 ≤ 236 * 59) (h41 : x34 = 4 * x16) (h42 : x35 = x33 + x34) (h43 : x0 = x22 + 1) : 0 ≤ x0 := by omega
theorem o19_205 {x0 x1 x3 x4 x5 x6 x7 x8 x9 x10 x11 x12 x13 x14 x15 x16 x18 x19 x20 x21 x22 x24 x25 x26 x27 x28 x29 x30 x31 x32 x33 x34 x35 : Int} {x2 x17 x23 : Nat} (h0 : 1 ≤ x1) (h1 : x1 ≤ 60) (h2 : 60 - x1 < ((x2 + 1 : Nat) : Int)) (h3 : 0 ≤ x3) (h4 : x3 ≤ 60) (h5 : x1 < x3) (h6 : x4 = 4 * x1) (h7 : x5 = 1) (h8 : x6 = x1 + x5) (h9 : x7 = 4 * x6) (h10 : x8 = 1) (h11 : x9 = x1 + x8) (h12 : x10 = 1) (h13 : x11 = x1 - x10) (h14 : x12 = 4 * x11) (h15 : x13 = 1) (h16 : x14 = x1 - x13) (h17 : 0 * 0 ≤ x15) (h18 : x15 ≤ 232 * 58) (h19 : 0 ≤ x16) (h20 : x16 ≤ 117) (h21 : 117 - x16 < ((x17 + 1 : Nat) : Int)) (h22 : x18 = 2 * x1) (h23 : x19 = 2) (h24 : x20 = x18 - x19) (h25 : x16 ≤ x20) (h26 : x16 ≤ x21) (h27 : 0 ≤ x22) (h28 : x22 ≤ 4) (h29 : 4 - x22 < ((x23 + 1 : Nat) : Int)) (h30 : x24 = 4) (h31 : x22 < x24) (h32 : x25 = 4 * x16) (h33 : x26 = x15 + x25) (h34 : x27 = x26 + x22) (h35 : x28 = x3) (h36 : x29 = x30 + x28) (h37 : x31 = x29 - x1) (h38 : x32 = 4 * x1) (h39 : 4 * 1 ≤ x33) (h40 : x33 ≤ 236 * 59) (h41 : x34 = 4 * x16) (h42 : x35 = x33 + x34) (h43 : x0 = x22 + 1) : x0 ≤ 4 := by omega
theorem o19_206 {x0 : Int} (h0 : x0 = 0) : 117 - x0 < (((117 - x0 + 1).toNat : Nat) : Int) := by omega
theorem o19_207 {x0 : Int} (h0 : x0 = 0) : x0 ≤ 117 := by omega
theorem o19_208 {x0 x2 : Int} {x1 : Nat} (h0 : 4 ≤ x0) (h1 : x0 ≤ 14400) (h2 : 14400 - x0 < ((x1 + 1 : Nat) : Int)) (h3 : 8 * 2 ≤ x2) (h4 : x2 ≤ 240 * 60) (h5 : x0 < x2) : 0 ≤ x0 := by omega
theorem o19_209 {x0 x2 : Int} {x1 : Nat} (h0 : 4 ≤ x0) (h1 : x0 ≤ 14400) (h2 : 14400 - x0 < ((x1 + 1 : Nat) : Int)) (h3 : 8 * 2 ≤ x2) (h4 : x2 ≤ 240 * 60) (h5 : x0 < x2) : x0 < (14400 : Nat) := by omega
theorem o19_210 {x0 x2 : Int} {x1 : Nat} (h0 : 4 ≤ x0) (h1 : x0 ≤ 14400) (h2 : 14400 - x0 < ((x1 + 1 : Nat) : Int)) (h3 : 8 * 2 ≤ x2) (h4 : x2 ≤ 240 * 60) (h5 : x0 < x2) (h6 : -2147483648 ≤ x0) (h7 : x0 ≤ 2147483647) (h8 : -2147483648 ≤ x2) (h9 : x2 ≤ 2147483647) : -2147483648 ≤ x0 + 1 := by omega
theorem o19_211 {x0 x2 : Int} {x1 : Nat} (h0 : 4 ≤ x0) (h1 : x0 ≤ 14400) (h2 : 14400 - x0 < ((x1 + 1 : Nat) : Int)) (h3 : 8 * 2 ≤ x2) (h4 : x2 ≤ 240 * 60) (h5 : x0 < x2) (h6 : -2147483648 ≤ x0) (h7 : x0 ≤ 2147483647) (h8 : -2147483648 ≤ x2) (h9 : x2 ≤ 2147483647) : x0 + 1 ≤ 2147483647 := by omega
theorem o19_212 {x0 x2 x3 : Int} {x1 : Nat} (h0 : 4 ≤ x2) (h1 : x2 ≤ 14400) (h2 : 14400 - x2 < ((x1 + 1 : Nat) : Int)) (h3 : 8 * 2 ≤ x3) (h4 : x3 ≤ 240 * 60) (h5 : x2 < x3) (h6 : x0 = x2 + 1) : 14400 - x0 < (x1 : Int) := by omega
theorem o19_213 {x0 x1 x3 : Int} {x2 : Nat} (h0 : 4 ≤ x1) (h1 : x1 ≤ 14400) (h2 : 14400 - x1 < ((x2 + 1 : Nat) : Int)) (h3 : 8 * 2 ≤ x3) (h4 : x3 ≤ 240 * 60) (h5 : x1 < x3) (h6 : x0 = x1 + 1) : 4 ≤ x0 := by omega
theorem o19_214 {x0 x1 x3 : Int} {x2 : Nat} (h0 : 4 ≤ x1) (h1 : x1 ≤ 14400) (h2 : 14400 - x1 < ((x2 + 1 : Nat) : Int)) (h3 : 8 * 2 ≤ x3) (h4 : x3 ≤ 240 * 60) (h5 : x1 < x3) (h6 : x0 = x1 + 1) : x0 ≤ 14400 := by omega
theorem o19_215 {x0 : Int} (h0 : 4 * 1 ≤ x0) (h1 : x0 ≤ 236 * 59) : 14400 - x0 < (((14400 - x0 + 1).toNat : Nat) : Int) := by omega
theorem o19_216 {x0 : Int} (h0 : 4 * 1 ≤ x0) (h1 : x0 ≤ 236 * 59) : 4 ≤ x0 := by omega
theorem o19_217 {x0 : Int} (h0 : 4 * 1 ≤ x0) (h1 : x0 ≤ 236 * 59) : x0 ≤ 14400 := by omega
theorem o19_218 {x0 : Int} (h0 : x0 = 1) : 60 - x0 < (((60 - x0 + 1).toNat : Nat) : Int) := by omega
theorem o19_219 {x0 : Int} (h0 : x0 = 1) : 1 ≤ x0 := by omega
theorem o19_220 {x0 : Int} (h0 : x0 = 1) : x0 ≤ 60 := by omega
theorem o19_221 {x0 x2 : Int} {x1 : Nat} (h0 : 0 ≤ x0) (h1 : x0 ≤ 4) (h2 : 4 - x0 < ((x1 + 1 : Nat) : Int)) (h3 : x2 = 4) (h4 : x0 < x2) : 0 ≤ x0 := by omega
theorem o19_222 {x0 x2 : Int} {x1 : Nat} (h0 : 0 ≤ x0) (h1 : x0 ≤ 4) (h2 : 4 - x0 < ((x1 + 1 : Nat) : Int)) (h3 : x2 = 4) (h4 : x0 < x2) : x0 < (14400 : Nat) := by omega
theorem o19_223 {x0 x2 : Int} {x1 : Nat} (h0 : 0 ≤ x0) (h1 : x0 ≤ 4) (h2 : 4 - x0 < ((x1 + 1 : Nat) : Int)) (h3 : x2 = 4) (h4 : x0 < x2) (h5 : -2147483648 ≤ x0) (h6 : x0 ≤ 2147483647) (h7 : -2147483648 ≤ x2) (h8 : x2 ≤ 2147483647) : -2147483648 ≤ x0 + 1 := by omega
theorem o19_224 {x0 x2 : Int} {x1 : Nat} (h0 : 0 ≤ x0) (h1 : x0 ≤ 4) (h2 : 4 - x0 < ((x1 + 1 : Nat) : Int)) (h3 : x2 = 4) (h4 : x0 < x2) (h5 : -2147483648 ≤ x0) (h6 : x0 ≤ 2147483647) (h7 : -2147483648 ≤ x2) (h8 : x2 ≤ 2147483647) : x0 + 1 ≤ 2147483647 := by omega
theorem o19_225 {x0 x2 x3 : Int} {x1 : Nat} (h0 : 0 ≤ x2) (h1 : x2 ≤ 4) (h2 : 4 - x2 < ((x1 + 1 : Nat) : Int)) (h3 : x3 = 4) (h4 : x2 < x3) (h5 : x0 = x2 + 1) : 4 - x0 < (x1 : Int) := by omega
theorem o19_226 {x0 x1 x3 : Int} {x2 : Nat} (h0 : 0 ≤ x1) (h1 : x1 ≤ 4) (h2 : 4 - x1 < ((x2 + 1 : Nat) : Int)) (h3 : x3 = 4) (h4 : x1 < x3) (h5 : x0 = x1 + 1) : 0 ≤ x0 := by omega
theorem o19_227 {x0 x1 x3 : Int} {x2 : Nat} (h0 : 0 ≤ x1) (h1 : x1 ≤ 4) (h2 : 4 - x1 < ((x2 + 1 : Nat) : Int)) (h3 : x3 = 4) (h4 : x1 < x3) (h5 : x0 = x1 + 1) : x0 ≤ 4 := by omega
theorem o19_228 {x0 : Int} (h0 : 0 ≤ x0) (h1 : x0 ≤ 60) (h2 : 60 - x0 < 0) : False := by omega
theorem o19_229 {x0 x2 : Int} {x1 : Nat} (h0 : 0 ≤ x0) (h1 : x0 ≤ 60) (h2 : 60 - x0 < ((x1 + 1 : Nat) : Int)) (h3 : 0 ≤ x2) (h4 : x2 ≤ 60) (h5 : x0 < x2) (h6 : -2147483648 ≤ x0) (h7 : x0 ≤ 2147483647) (h8 : -2147483648 ≤ x2) (h9 : x2 ≤ 2147483647) : -2147483648 ≤ x0 + 1 := by omega
theorem o19_230 {x0 x2 : Int} {x1 : Nat} (h0 : 0 ≤ x0) (h1 : x0 ≤ 60) (h2 : 60 - x0 < ((x1 + 1 : Nat) : Int)) (h3 : 0 ≤ x2) (h4 : x2 ≤ 60) (h5 : x0 < x2) (h6 : -2147483648 ≤ x0) (h7 : x0 ≤ 2147483647) (h8 : -2147483648 ≤ x2) (h9 : x2 ≤ 2147483647) : x0 + 1 ≤ 2147483647 := by omega
theorem o19_231 {x0 x2 x3 : Int} {x1 : Nat} (h0 : 0 ≤ x2) (h1 : x2 ≤ 60) (h2 : 60 - x2 < ((x1 + 1 : Nat) : Int)) (h3 : 0 ≤ x3) (h4 : x3 ≤ 60) (h5 : x2 < x3) (h6 : x0 = x2 + 1) : 60 - x0 < (x1 : Int) := by omega
theorem o19_232 {x0 x1 x3 : Int} {x2 : Nat} (h0 : 0 ≤ x1) (h1 : x1 ≤ 60) (h2 : 60 - x1 < ((x2 + 1 : Nat) : Int)) (h3 : 0 ≤ x3) (h4 : x3 ≤ 60) (h5 : x1 < x3) (h6 : x0 = x1 + 1) : 0 ≤ x0 := by omega
theorem o19_233 {x0 x1 x3 : Int} {x2 : Nat} (h0 : 0 ≤ x1) (h1 : x1 ≤ 60) (h2 : 60 - x1 < ((x2 + 1 : Nat) : Int)) (h3 : 0 ≤ x3) (h4 : x3 ≤ 60) (h5 : x1 < x3) (h6 : x0 = x1 + 1) : x0 ≤ 60 := by omega
theorem o19_234 {x0 x2 : Int} {x1 : Nat} (h0 : 0 ≤ x0) (h1 : x0 ≤ 4) (h2 : 4 - x0 < ((x1 + 1 : Nat) : Int)) (h3 : x2 = 4) (h4 : x0 < x2) : x0 ≤ 3 := by omega
theorem o19_235 {x0 x1 x3 : Int} {x2 : Nat} (h0 : 0 ≤ x0) (h1 : x0 ≤ 180) (h2 : 0 ≤ x1) (h3 : x1 ≤ 60) (h4 : 60 - x1 < ((x2 + 1 : Nat) : Int)) (h5 : 0 ≤ x3) (h6 : x3 ≤ 60) (h7 : x1 < x3) (h8 : -2147483648 ≤ x0) (h9 : x0 ≤ 2147483647) (h10 : -2147483648 ≤ x1) (h11 : x1 ≤ 2147483647) (h12 : -2147483648 ≤ x3) (h13 : x3 ≤ 2147483647) : -2147483648 ≤ x0 + x1 := by omega
theorem o19_236 {x0 x1 x3 : Int} {x2 : Nat} (h0 : 0 ≤ x0) (h1 : x0 ≤ 180) (h2 : 0 ≤ x1) (h3 : x1 ≤ 60) (h4 : 60 - x1 < ((x2 + 1 : Nat) : Int)) (h5 : 0 ≤ x3) (h6 : x3 ≤ 60) (h7 : x1 < x3) (h8 : -2147483648 ≤ x0) (h9 : x0 ≤ 2147483647) (h10 : -2147483648 ≤ x1) (h11 : x1 ≤ 2147483647) (h12 : -2147483648 ≤ x3) (h13 : x3 ≤ 2147483647) : x0 + x1 ≤ 2147483647 := by omega
theorem o19_237 {x0 x1 x2 x4 : Int} {x3 : Nat} (h0 : 0 ≤ x1) (h1 : x1 ≤ 180) (h2 : 0 ≤ x2) (h3 : x2 ≤ 60) (h4 : 60 - x2 < ((x3 + 1 : Nat) : Int)) (h5 : 0 ≤ x4) (h6 : x4 ≤ 60) (h7 : x2 < x4) (h8 : x0 = x1 + x2) : 0 ≤ x0 := by omega
theorem o19_238 {x0 x1 x2 x4 : Int} {x3 : Nat} (h0 : 0 ≤ x1) (h1 : x1 ≤ 180) (h2 : 0 ≤ x2) (h3 : x2 ≤ 60) (h4 : 60 - x2 < ((x3 + 1 : Nat) : Int)) (h5 : 0 ≤ x4) (h6 : x4 ≤ 60) (h7 : x2 < x4) (h8 : x0 = x1 + x2) : x0 ≤ 239 := by omega
theorem o19_239 {x0 x1 : Int} (h0 : 0 ≤ x1) (h1 : x1 ≤ 99) (h2 : 0 ≤ x0) (h3 : x0 ≤ 99) (h4 : x0 = x1) : 0 ≤ x0 := by omega
theorem o19_240 {x0 x1 : Int} (h0 : 0 ≤ x1) (h1 : x1 ≤ 99) (h2 : 0 ≤ x0) (h3 : x0 ≤ 99) (h4 : x0 = x1) : x0 ≤ 99 := by omega
theorem o19_241 {x0 x1 x2 x4 x5 : Int} {x3 : Nat} (h0 : 0 ≤ x2) (h1 : x2 ≤ 180) (h2 : 0 ≤ x1) (h3 : x1 ≤ 60) (h4 : 60 - x1 < ((x3 + 1 : Nat) : Int)) (h5 : 0 ≤ x4) (h6 : x4 ≤ 60) (h7 : x1 < x4) (h8 : x5 = x2 + x1) (h9 : 0 ≤ x0) (h10 : x0 ≤ 60) (h11 : x0 = x4) (h12 : -2147483648 ≤ x0) (h13 : x0 ≤ 2147483647) (h14 : -2147483648 ≤ x1) (h15 : x1 ≤ 2147483647) (h16 : -2147483648 ≤ x2) (h17 : x2 ≤ 2147483647) (h18 : -2147483648 ≤ x4) (h19 : x4 ≤ 2147483647) (h20 : -2147483648 ≤ x5) (h21 : x5 ≤ 2147483647) : -2147483648 ≤ x0 - x1 := by omega
theorem o19_242 {x0 x1 x2 x4 x5 : Int} {x3 : Nat} (h0 : 0 ≤ x2) (h1 : x2 ≤ 180) (h2 : 0 ≤ x1) (h3 : x1 ≤ 60) (h4 : 60 - x1 < ((x3 + 1 : Nat) : Int)) (h5 : 0 ≤ x4) (h6 : x4 ≤ 60) (h7 : x1 < x4) (h8 : x5 = x2 + x1) (h9 : 0 ≤ x0) (h10 : x0 ≤ 60) (h11 : x0 = x4) (h12 : -2147483648 ≤ x0) (h13 : x0 ≤ 2147483647) (h14 : -2147483648 ≤ x1) (h15 : x1 ≤ 2147483647) (h16 : -2147483648 ≤ x2) (h17 : x2 ≤ 2147483647) (h18 : -2147483648 ≤ x4) (h19 : x4 ≤ 2147483647) (h20 : -2147483648 ≤ x5) (h21 : x5 ≤ 2147483647) : x0 - x1 ≤ 2147483647 := by omega
theorem o19_243 {x0 x1 x2 x3 x5 x6 x7 : Int} {x4 : Nat} (h0 : 0 ≤ x2) (h1 : x2 ≤ 180) (h2 : 0 ≤ x3) (h3 : x3 ≤ 60) (h4 : 60 - x3 < ((x4 + 1 : Nat) : Int)) (h5 : 0 ≤ x5) (h6 : x5 ≤ 60) (h7 : x3 < x5) (h8 : x6 = x2 + x3) (h9 : 0 ≤ x7) (h10 : x7 ≤ 60) (h11 : x7 = x5) (h12 : x0 = x7 - x3) (h13 : x1 = 1) (h14 : -2147483648 ≤ x0) (h15 : x0 ≤ 2147483647) (h16 : -2147483648 ≤ x1) (h17 : x1 ≤ 2147483647) (h18 : -2147483648 ≤ x2) (h19 : x2 ≤ 2147483647) (h20 : -2147483648 ≤ x3) (h21 : x3 ≤ 2147483647) (h22 : -2147483648 ≤ x5) (h23 : x5 ≤ 2147483647) (h24 : -2147483648 ≤ x6) (h25 : x6 ≤ 2147483647) (h26 : -2147483648 ≤ x7) (h27 : x7 ≤ 2147483647) : -2147483648 ≤ x0 - x1 := by omega
theorem o19_244 {x0 x1 x2 x3 x5 x6 x7 : Int} {x4 : Nat} (h0 : 0 ≤ x2) (h1 : x2 ≤ 180) (h2 : 0 ≤ x3) (h3 : x3 ≤ 60) (h4 : 60 - x3 < ((x4 + 1 : Nat) : Int)) (h5 : 0 ≤ x5) (h6 : x5 ≤ 60) (h7 : x3 < x5) (h8 : x6 = x2 + x3) (h9 : 0 ≤ x7) (h10 : x7 ≤ 60) (h11 : x7 = x5) (h12 : x0 = x7 - x3) (h13 : x1 = 1) (h14 : -2147483648 ≤ x0) (h15 : x0 ≤ 2147483647) (h16 : -2147483648 ≤ x1) (h17 : x1 ≤ 2147483647) (h18 : -2147483648 ≤ x2) (h19 : x2 ≤ 2147483647) (h20 : -2147483648 ≤ x3) (h21 : x3 ≤ 2147483647) (h22 : -2147483648 ≤ x5) (h23 : x5 ≤ 2147483647) (h24 : -2147483648 ≤ x6) (h25 : x6 ≤ 2147483647) (h26 : -2147483648 ≤ x7) (h27 : x7 ≤ 2147483647) : x0 - x1 ≤ 2147483647 := by omega
theorem o19_245 {x0 x1 x2 x4 x5 x6 x7 x8 : Int} {x3 : Nat} (h0 : 0 ≤ x1) (h1 : x1 ≤ 180) (h2 : 0 ≤ x2) (h3 : x2 ≤ 60) (h4 : 60 - x2 < ((x3 + 1 : Nat) : Int)) (h5 : 0 ≤ x4) (h6 : x4 ≤ 60) (h7 : x2 < x4) (h8 : x5 = x1 + x2) (h9 : 0 ≤ x6) (h10 : x6 ≤ 60) (h11 : x6 = x4) (h12 : x7 = x6 - x2) (h13 : x8 = 1) (h14 : x0 = x7 - x8) : 0 ≤ x0 := by omega
theorem o19_246 {x0 x1 x2 x4 x5 x6 x7 x8 : Int} {x3 : Nat} (h0 : 0 ≤ x1) (h1 : x1 ≤ 180) (h2 : 0 ≤ x2) (h3 : x2 ≤ 60) (h4 : 60 - x2 < ((x3 + 1 : Nat) : Int)) (h5 : 0 ≤ x4) (h6 : x4 ≤ 60) (h7 : x2 < x4) (h8 : x5 = x1 + x2) (h9 : 0 ≤ x6) (h10 : x6 ≤ 60) (h11 : x6 = x4) (h12 : x7 = x6 - x2) (h13 : x8 = 1) (h14 : x0 = x7 - x8) : x0 ≤ 59 := by omega
theorem o19_247 {x0 : Int} (h0 : (-1) ≤ x0) (h1 : x0 ≤ 99) (h2 : 0 ≤ x0) : 0 ≤ x0 := by omega
theorem o19_248 {x0 : Int} (h0 : (-1) ≤ x0) (h1 : x0 ≤ 99) (h2 : 0 ≤ x0) : x0 ≤ 99 := by omega
theorem o19_249 {x0 x1 x3 x4 x5 x6 x7 x8 : Int} {x2 : Nat} (h0 : 0 ≤ x1) (h1 : x1 ≤ 180) (h2 : 0 ≤ x0) (h3 : x0 ≤ 60) (h4 : 60 - x0 < ((x2 + 1 : Nat) : Int)) (h5 : 0 ≤ x3) (h6 : x3 ≤ 60) (h7 : x0 < x3) (h8 : x4 = x1 + x0) (h9 : 0 ≤ x5) (h10 : x5 ≤ 60) (h11 : x5 = x3) (h12 : x6 = x5 - x0) (h13 : x7 = 1) (h14 : x8 = x6 - x7) : 0 ≤ x0 := by omega
theorem o19_250 {x0 x1 x3 x4 x5 x6 x7 x8 : Int} {x2 : Nat} (h0 : 0 ≤ x1) (h1 : x1 ≤ 180) (h2 : 0 ≤ x0) (h3 : x0 ≤ 60) (h4 : 60 - x0 < ((x2 + 1 : Nat) : Int)) (h5 : 0 ≤ x3) (h6 : x3 ≤ 60) (h7 : x0 < x3) (h8 : x4 = x1 + x0) (h9 : 0 ≤ x5) (h10 : x5 ≤ 60) (h11 : x5 = x3) (h12 : x6 = x5 - x0) (h13 : x7 = 1) (h14 : x8 = x6 - x7) : x0 < (60 : Nat) := by omega
theorem o19_251 {x0 x1 x3 x4 x5 x6 x7 x8 : Int} {x2 : Nat} (h0 : 0 ≤ x1) (h1 : x1 ≤ 180) (h2 : 0 ≤ x0) (h3 : x0 ≤ 60) (h4 : 60 - x0 < ((x2 + 1 : Nat) : Int)) (h5 : 0 ≤ x3) (h6 : x3 ≤ 60) (h7 : x0 < x3) (h8 : x4 = x1 + x0) (h9 : 0 ≤ x5) (h10 : x5 ≤ 60) (h11 : x5 = x3) (h12 : x6 = x5 - x0) (h13 : x7 = 1) (h14 : x8 = x6 - x7) (h15 : -2147483648 ≤ x0) (h16 : x0 ≤ 2147483647) (h17 : -2147483648 ≤ x1) (h18 : x1 ≤ 2147483647) (h19 : -2147483648 ≤ x3) (h20 : x3 ≤ 2147483647) (h21 : -2147483648 ≤ x4) (h22 : x4 ≤ 2147483647) (h23 : -2147483648 ≤ x5) (h24 : x5 ≤ 2147483647) (h25 : -2147483648 ≤ x6) (h26 : x6 ≤ 2147483647) (h27 : -2147483648 ≤ x7) (h28 : x7 ≤ 2147483647) (h29 : -2147483648 ≤ x8) (h30 : x8 ≤ 2147483647) : -2147483648 ≤ x0 + 1 := by omega
theorem o19_252 {x0 x1 x3 x4 x5 x6 x7 x8 : Int} {x2 : Nat} (h0 : 0 ≤ x1) (h1 : x1 ≤ 180) (h2 : 0 ≤ x0) (h3 : x0 ≤ 60) (h4 : 60 - x0 < ((x2 + 1 : Nat) : Int)) (h5 : 0 ≤ x3) (h6 : x3 ≤ 60) (h7 : x0 < x3) (h8 : x4 = x1 + x0) (h9 : 0 ≤ x5) (h10 : x5 ≤ 60) (h11 : x5 = x3) (h12 : x6 = x5 - x0) (h13 : x7 = 1) (h14 : x8 = x6 - x7) (h15 : -2147483648 ≤ x0) (h16 : x0 ≤ 2147483647) (h17 : -2147483648 ≤ x1) (h18 : x1 ≤ 2147483647) (h19 : -2147483648 ≤ x3) (h20 : x3 ≤ 2147483647) (h21 : -2147483648 ≤ x4) (h22 : x4 ≤ 2147483647) (h23 : -2147483648 ≤ x5) (h24 : x5 ≤ 2147483647) (h25 : -2147483648 ≤ x6) (h26 : x6 ≤ 2147483647) (h27 : -2147483648 ≤ x7) (h28 : x7 ≤ 2147483647) (h29 : -2147483648 ≤ x8) (h30 : x8 ≤ 2147483647) : x0 + 1 ≤ 2147483647 := by omega
theorem o19_253 {x0 x2 x3 x4 x5 x6 x7 x8 x9 : Int} {x1 : Nat} (h0 : 0 ≤ x2) (h1 : x2 ≤ 180) (h2 : 0 ≤ x3) (h3 : x3 ≤ 60) (h4 : 60 - x3 < ((x1 + 1 : Nat) : Int)) (h5 : 0 ≤ x4) (h6 : x4 ≤ 60) (h7 : x3 < x4) (h8 : x5 = x2 + x3) (h9 : 0 ≤ x6) (h10 : x6 ≤ 60) (h11 : x6 = x4) (h12 : x7 = x6 - x3) (h13 : x8 = 1) (h14 : x9 = x7 - x8) (h15 : x0 = x3 + 1) : 60 - x0 < (x1 : Int) := by omega
theorem o19_254 {x0 x1 x2 x4 x5 x6 x7 x8 x9 : Int} {x3 : Nat} (h0 : 0 ≤ x1) (h1 : x1 ≤ 180) (h2 : 0 ≤ x2) (h3 : x2 ≤ 60) (h4 : 60 - x2 < ((x3 + 1 : Nat) : Int)) (h5 : 0 ≤ x4) (h6 : x4 ≤ 60) (h7 : x2 < x4) (h8 : x5 = x1 + x2) (h9 : 0 ≤ x6) (h10 : x6 ≤ 60) (h11 : x6 = x4) (h12 : x7 = x6 - x2) (h13 : x8 = 1) (h14 : x9 = x7 - x8) (h15 : x0 = x2 + 1) : 0 ≤ x0 := by omega
theorem o19_255 {x0 x1 x2 x4 x5 x6 x7 x8 x9 : Int} {x3 : Nat} (h0 : 0 ≤ x1) (h1 : x1 ≤ 180) (h2 : 0 ≤ x2) (h3 : x2 ≤ 60) (h4 : 60 - x2 < ((x3 + 1 : Nat) : Int)) (h5 : 0 ≤ x4) (h6 : x4 ≤ 60) (h7 : x2 < x4) (h8 : x5 = x1 + x2) (h9 : 0 ≤ x6) (h10 : x6 ≤ 60) (h11 : x6 = x4) (h12 : x7 = x6 - x2) (h13 : x8 = 1) (h14 : x9 = x7 - x8) (h15 : x0 = x2 + 1) : x0 ≤ 60 := by omega
theorem o19_256 {x0 : Int} (h0 : x0 = (-1)) (h1 : 0 ≤ x0) : False := by omega
theorem o19_257 {x0 : Int} (h0 : x0 = 0) : 60 - x0 < (((60 - x0 + 1).toNat : Nat) : Int) := by omega
theorem o19_258 {x0 : Int} (h0 : x0 = 0) : x0 ≤ 60 := by omega
theorem o19_259 {x0 : Int} (h0 : 0 ≤ x0) (h1 : x0 ≤ 180) : 0 ≤ x0 := by omega
theorem o19_260 {x0 : Int} (h0 : 0 ≤ x0) (h1 : x0 ≤ 180) : x0 ≤ 180 := by omega
theorem o19_261 {x0 : Int} (h0 : 0 ≤ x0) (h1 : x0 ≤ 120) : 0 ≤ x0 := by omega
theorem o19_262 {x0 : Int} (h0 : 0 ≤ x0) (h1 : x0 ≤ 120) : x0 ≤ 120 := by omega
theorem o19_263 {x0 : Int} (h0 : x0 = 60) : 0 ≤ x0 := by omega
theorem o19_264 {x0 : Int} (h0 : x0 = 60) : x0 ≤ 60 := by omega
theorem o19_265 {x0 : Int} (h0 : x0 = 0) : x0 ≤ 180 := by omega
theorem o19_266 {x0 : Int} (h0 : (-1) ≤ x0) (h1 : x0 ≤ 60) (h2 : 0 ≤ x0) : 0 ≤ x0 := by omega
theorem o19_267 {x0 : Int} (h0 : (-1) ≤ x0) (h1 : x0 ≤ 60) (h2 : 0 ≤ x0) : x0 ≤ 60 := by omega
theorem o19_268 {x0 x1 x2 x3 : Int} (h0 : 0 ≤ x1) (h1 : x1 ≤ 4) (h2 : (-1) ≤ x2) (h3 : x2 ≤ 40) (h4 : x2 = x1) (h5 : x3 = 4) (h6 : (x0 = x2 ∧ x2 ≤ x3) ∨ (x0 = x3 ∧ x3 ≤ x2)) : 0 ≤ x0 := by omega
theorem o19_269 {x0 x1 x2 x3 : Int} (h0 : 0 ≤ x1) (h1 : x1 ≤ 4) (h2 : (-1) ≤ x2) (h3 : x2 ≤ 40) (h4 : x2 = x1) (h5 : x3 = 4) (h6 : (x0 = x2 ∧ x2 ≤ x3) ∨ (x0 = x3 ∧ x3 ≤ x2)) : x0 ≤ 4 := by omega
theorem o19_270 {x0 x1 x2 x3 x4 x6 : Int} {x5 : Nat} (h0 : 0 ≤ x1) (h1 : x1 ≤ 4) (h2 : (-1) ≤ x2) (h3 : x2 ≤ 40) (h4 : x2 = x1) (h5 : x3 = 4) (h6 : (x4 = x2 ∧ x2 ≤ x3) ∨ (x4 = x3 ∧ x3 ≤ x2)) (h7 : 0 ≤ x0) (h8 : x0 ≤ 4) (h9 : 4 - x0 < ((x5 + 1 : Nat) : Int)) (h10 : 0 ≤ x6) (h11 : x6 ≤ 4) (h12 : x6 = x4) (h13 : x0 < x6) : 0 ≤ x0 := by omega
theorem o19_271 {x0 x1 x2 x3 x4 x6 : Int} {x5 : Nat} (h0 : 0 ≤ x1) (h1 : x1 ≤ 4) (h2 : (-1) ≤ x2) (h3 : x2 ≤ 40) (h4 : x2 = x1) (h5 : x3 = 4) (h6 : (x4 = x2 ∧ x2 ≤ x3) ∨ (x4 = x3 ∧ x3 ≤ x2)) (h7 : 0 ≤ x0) (h8 : x0 ≤ 4) (h9 : 4 - x0 < ((x5 + 1 : Nat) : Int)) (h10 : 0 ≤ x6) (h11 : x6 ≤ 4) (h12 : x6 = x4) (h13 : x0 < x6) : x0 < (4 : Nat) := by omega
theorem o19_272 {x0 x1 x2 x3 x4 x6 : Int} {x5 : Nat} (h0 : 0 ≤ x1) (h1 : x1 ≤ 4) (h2 : (-1) ≤ x2) (h3 : x2 ≤ 40) (h4 : x2 = x1) (h5 : x3 = 4) (h6 : (x4 = x2 ∧ x2 ≤ x3) ∨ (x4 = x3 ∧ x3 ≤ x2)) (h7 : 0 ≤ x0) (h8 : x0 ≤ 4) (h9 : 4 - x0 < ((x5 + 1 : Nat) : Int)) (h10 : 0 ≤ x6) (h11 : x6 ≤ 4) (h12 : x6 = x4) (h13 : x0 < x6) (h14 : -2147483648 ≤ x0) (h15 : x0 ≤ 2147483647) (h16 : -2147483648 ≤ x1) (h17 : x1 ≤ 2147483647) (h18 : -2147483648 ≤ x2) (h19 : x2 ≤ 2147483647) (h20 : -2147483648 ≤ x3) (h21 : x3 ≤ 2147483647) (h22 : -2147483648 ≤ x4) (h23 : x4 ≤ 2147483647) (h24 : -2147483648 ≤ x6) (h25 : x6 ≤ 2147483647) : -2147483648 ≤ x0 + 1 := by omega
theorem o19_273 {x0 x1 x2 x3 x4 x6 : Int} {x5 : Nat} (h0 : 0 ≤ x1) (h1 : x1 ≤ 4) (h2 : (-1) ≤ x2) (h3 : x2 ≤ 40) (h4 : x2 = x1) (h5 : x3 = 4) (h6 : (x4 = x2 ∧ x2 ≤ x3) ∨ (x4 = x3 ∧ x3 ≤ x2)) (h7 : 0 ≤ x0) (h8 : x0 ≤ 4) (h9 : 4 - x0 < ((x5 + 1 : Nat) : Int)) (h10 : 0 ≤ x6) (h11 : x6 ≤ 4) (h12 : x6 = x4) (h13 : x0 < x6) (h14 : -2147483648 ≤ x0) (h15 : x0 ≤ 2147483647) (h16 : -2147483648 ≤ x1) (h17 : x1 ≤ 2147483647) (h18 : -2147483648 ≤ x2) (h19 : x2 ≤ 2147483647) (h20 : -2147483648 ≤ x3) (h21 : x3 ≤ 2147483647) (h22 : -2147483648 ≤ x4) (h23 : x4 ≤ 2147483647) (h24 : -2147483648 ≤ x6) (h25 : x6 ≤ 2147483647) : x0 + 1 ≤ 2147483647 := by omega
theorem o19_274 {x0 x2 x3 x4 x5 x6 x7 : Int} {x1 : Nat} (h0 : 0 ≤ x2) (h1 : x2 ≤ 4) (h2 : (-1) ≤ x3) (h3 : x3 ≤ 40) (h4 : x3 = x2) (h5 : x4 = 4) (h6 : (x5 = x3 ∧ x3 ≤ x4) ∨ (x5 = x4 ∧ x4 ≤ x3)) (h7 : 0 ≤ x6) (h8 : x6 ≤ 4) (h9 : 4 - x6 < ((x1 + 1 : Nat) : Int)) (h10 : 0 ≤ x7) (h11 : x7 ≤ 4) (h12 : x7 = x5) (h13 : x6 < x7) (h14 : x0 = x6 + 1) : 4 - x0 < (x1 : Int) := by omega
theorem o19_275 {x0 x1 x2 x3 x4 x5 x7 : Int} {x6 : Nat} (h0 : 0 ≤ x1) (h1 : x1 ≤ 4) (h2 : (-1) ≤ x2) (h3 : x2 ≤ 40) (h4 : x2 = x1) (h5 : x3 = 4) (h6 : (x4 = x2 ∧ x2 ≤ x3) ∨ (x4 = x3 ∧ x3 ≤ x2)) (h7 : 0 ≤ x5) (h8 : x5 ≤ 4) (h9 : 4 - x5 < ((x6 + 1 : Nat) : Int)) (h10 : 0 ≤ x7) (h11 : x7 ≤ 4) (h12 : x7 = x4) (h13 : x5 < x7) (h14 : x0 = x5 + 1) : 0 ≤ x0 := by omega
theorem o19_276 {x0 x1 x2 x3 x4 x5 x7 : Int} {x6 : Nat} (h0 : 0 ≤ x1) (h1 : x1 ≤ 4) (h2 : (-1) ≤ x2) (h3 : x2 ≤ 40) (h4 : x2 = x1) (h5 : x3 = 4) (h6 : (x4 = x2 ∧ x2 ≤ x3) ∨ (x4 = x3 ∧ x3 ≤ x2)) (h7 : 0 ≤ x5) (h8 : x5 ≤ 4) (h9 : 4 - x5 < ((x6 + 1 : Nat) : Int)) (h10 : 0 ≤ x7) (h11 : x7 ≤ 4) (h12 : x7 = x4) (h13 : x5 < x7) (h14 : x0 = x5 + 1) : x0 ≤ 4 := by omega
theorem o19_277 {x0 : Int} (h0 : x0 = 0) : x0 = 0 := by omega
theorem o19_278 {x0 : Int} (h0 : 0 ≤ x0) (h1 : x0 ≤ 4) : 0 ≤ x0 := by omega
theorem o19_279 {x0 : Int} (h0 : 0 ≤ x0) (h1 : x0 ≤ 4) : x0 ≤ (4 : Nat) := by omega
theorem o19_280 {x0 x1 : Int} (h0 : 4 ≤ x0) (h1 : x0 ≤ 4) (h2 : 0 ≤ x1) (h3 : x1 ≤ 4) (h4 : x0 < x1) : False := by omega
theorem o19_281 {x0 x2 : Int} {x1 : Nat} (h0 : 0 ≤ x0) (h1 : x0 ≤ 4) (h2 : 4 - x0 < ((x1 + 1 : Nat) : Int)) (h3 : 0 ≤ x2) (h4 : x2 ≤ 4) (h5 : x0 < x2) : 0 ≤ x0 := by omega
theorem o19_282 {x0 x2 : Int} {x1 : Nat} (h0 : 0 ≤ x0) (h1 : x0 ≤ 4) (h2 : 4 - x0 < ((x1 + 1 : Nat) : Int)) (h3 : 0 ≤ x2) (h4 : x2 ≤ 4) (h5 : x0 < x2) : x0 < (4 : Nat) := by omega
theorem o19_283 {x0 x2 : Int} {x1 : Nat} (h0 : 0 ≤ x0) (h1 : x0 ≤ 4) (h2 : 4 - x0 < ((x1 + 1 : Nat) : Int)) (h3 : 0 ≤ x2) (h4 : x2 ≤ 4) (h5 : x0 < x2) (h6 : -2147483648 ≤ x0) (h7 : x0 ≤ 2147483647) (h8 : -2147483648 ≤ x2) (h9 : x2 ≤ 2147483647) : -2147483648 ≤ x0 + 1 := by omega
theorem o19_284 {x0 x2 : Int} {x1 : Nat} (h0 : 0 ≤ x0) (h1 : x0 ≤ 4) (h2 : 4 - x0 < ((x1 + 1 : Nat) : Int)) (h3 : 0 ≤ x2) (h4 : x2 ≤ 4) (h5 : x0 < x2) (h6 : -2147483648 ≤ x0) (h7 : x0 ≤ 2147483647) (h8 : -2147483648 ≤ x2) (h9 : x2 ≤ 2147483647) : x0 + 1 ≤ 2147483647 := by omega
theorem o19_285 {x0 x2 x3 : Int} {x1 : Nat} (h0 : 0 ≤ x2) (h1 : x2 ≤ 4) (h2 : 4 - x2 < ((x1 + 1 : Nat) : Int)) (h3 : 0 ≤ x3) (h4 : x3 ≤ 4) (h5 : x2 < x3) (h6 : x0 = x2 + 1) : 4 - x0 < (x1 : Int) := by omega
theorem o19_286 {x0 x1 x3 : Int} {x2 : Nat} (h0 : 0 ≤ x1) (h1 : x1 ≤ 4) (h2 : 4 - x1 < ((x2 + 1 : Nat) : Int)) (h3 : 0 ≤ x3) (h4 : x3 ≤ 4) (h5 : x1 < x3) (h6 : x0 = x1 + 1) : 0 ≤ x0 := by omega
theorem o19_287 {x0 x1 x3 : Int} {x2 : Nat} (h0 : 0 ≤ x1) (h1 : x1 ≤ 4) (h2 : 4 - x1 < ((x2 + 1 : Nat) : Int)) (h3 : 0 ≤ x3) (h4 : x3 ≤ 4) (h5 : x1 < x3) (h6 : x0 = x1 + 1) : x0 ≤ 4 := by omega
theorem o19_288 {x0 x1 : Int} (h0 : 3 ≤ x0) (h1 : x0 ≤ 3) (h2 : 0 ≤ x1) (h3 : x1 ≤ 4) (h4 : x0 < x1) : 0 ≤ x0 := by omega
theorem o19_289 {x0 x1 : Int} (h0 : 3 ≤ x0) (h1 : x0 ≤ 3) (h2 : 0 ≤ x1) (h3 : x1 ≤ 4) (h4 : x0 < x1) : x0 < (4 : Nat) := by omega
theorem o19_290 {x0 x2 : Int} {x1 : Nat} (h0 : 0 ≤ x0) (h1 : x0 ≤ 4) (h2 : 4 - x0 < ((x1 + 1 : Nat) : Int)) (h3 : 0 ≤ x2) (h4 : x2 ≤ 4) (h5 : x0 < x2) : x0 ≤ 3 := by omega
theorem o19_291 {x0 x1 x2 : Int} (h0 : 3 ≤ x0) (h1 : x0 ≤ 3) (h2 : 0 ≤ x2) (h3 : x2 ≤ 4) (h4 : x0 < x2) (h5 : x1 = 1) (h6 : -2147483648 ≤ x0) (h7 : x0 ≤ 2147483647) (h8 : -2147483648 ≤ x1) (h9 : x1 ≤ 2147483647) (h10 : -2147483648 ≤ x2) (h11 : x2 ≤ 2147483647) : -2147483648 ≤ x0 + x1 := by omega
theorem o19_292 {x0 x1 x2 : Int} (h0 : 3 ≤ x0) (h1 : x0 ≤ 3) (h2 : 0 ≤ x2) (h3 : x2 ≤ 4) (h4 : x0 < x2) (h5 : x1 = 1) (h6 : -2147483648 ≤ x0) (h7 : x0 ≤ 2147483647) (h8 : -2147483648 ≤ x1) (h9 : x1 ≤ 2147483647) (h10 : -2147483648 ≤ x2) (h11 : x2 ≤ 2147483647) : x0 + x1 ≤ 2147483647 := by omega
theorem o19_293 {x0 x1 : Int} (h0 : 0 ≤ x0) (h1 : x0 ≤ 180) (h2 : 0 ≤ x1) (h3 : x1 ≤ 60) (h4 : -2147483648 ≤ x0) (h5 : x0 ≤ 2147483647) (h6 : -2147483648 ≤ x1) (h7 : x1 ≤ 2147483647) : -2147483648 ≤ x0 + x1 := by omega
theorem o19_294 {x0 x1 : Int} (h0 : 0 ≤ x0) (h1 : x0 ≤ 180) (h2 : 0 ≤ x1) (h3 : x1 ≤ 60) (h4 : -2147483648 ≤ x0) (h5 : x0 ≤ 2147483647) (h6 : -2147483648 ≤ x1) (h7 : x1 ≤ 2147483647) : x0 + x1 ≤ 2147483647 := by omega
theorem o19_295 {x0 x1 x2 x3 : Int} (h0 : 3 ≤ x1) (h1 : x1 ≤ 3) (h2 : 0 ≤ x2) (h3 : x2 ≤ 4) (h4 : x1 < x2) (h5 : x3 = 1) (h6 : x0 = x1 + x3) : 4 ≤ x0 := by omega
theorem o19_296 {x0 x1 x2 x3 : Int} (h0 : 3 ≤ x1) (h1 : x1 ≤ 3) (h2 : 0 ≤ x2) (h3 : x2 ≤ 4) (h4 : x1 < x2) (h5 : x3 = 1) (h6 : x0 = x1 + x3) : x0 ≤ 4 := by omega
theorem o19_297 {x0 x1 x2 : Int} (h0 : 0 ≤ x1) (h1 : x1 ≤ 180) (h2 : 0 ≤ x2) (h3 : x2 ≤ 60) (h4 : x0 = x1 + x2) : 0 ≤ x0 := by omega
theorem o19_298 {x0 x1 x2 : Int} (h0 : 0 ≤ x1) (h1 : x1 ≤ 180) (h2 : 0 ≤ x2) (h3 : x2 ≤ 60) (h4 : x0 = x1 + x2) : x0 ≤ 240 := by omega
theorem o19_299 {x0 : Int} (h0 : 0 ≤ x0) (h1 : x0 ≤ 120) : x0 ≤ 180 := by omega
theorem o19_300 {x0 x1 : Int} (h0 : 2 ≤ x0) (h1 : x0 ≤ 2) (h2 : 0 ≤ x1) (h3 : x1 ≤ 4) (h4 : x0 < x1) : 0 ≤ x0 := by omega
theorem o19_301 {x0 x1 : Int} (h0 : 2 ≤ x0) (h1 : x0 ≤ 2) (h2 : 0 ≤ x1) (h3 : x1 ≤ 4) (h4 : x0 < x1) : x0 < (4 : Nat) := by omega
theorem o19_302 {x0 x1 x2 : Int} (h0 : 2 ≤ x0) (h1 : x0 ≤ 2) (h2 : 0 ≤ x2) (h3 : x2 ≤ 4) (h4 : x0 < x2) (h5 : x1 = 1) (h6 : -2147483648 ≤ x0) (h7 : x0 ≤ 2147483647) (h8 : -2147483648 ≤ x1) (h9 : x1 ≤ 2147483647) (h10 : -2147483648 ≤ x2) (h11 : x2 ≤ 2147483647) : -2147483648 ≤ x0 + x1 := by omega
theorem o19_303 {x0 x1 x2 : Int} (h0 : 2 ≤ x0) (h1 : x0 ≤ 2) (h2 : 0 ≤ x2) (h3 : x2 ≤ 4) (h4 : x0 < x2) (h5 : x1 = 1) (h6 : -2147483648 ≤ x0) (h7 : x0 ≤ 2147483647) (h8 : -2147483648 ≤ x1) (h9 : x1 ≤ 2147483647) (h10 : -2147483648 ≤ x2) (h11 : x2 ≤ 2147483647) : x0 + x1 ≤ 2147483647 := by omega
theorem o19_304 {x0 x1 : Int} (h0 : 0 ≤ x0) (h1 : x0 ≤ 120) (h2 : 0 ≤ x1) (h3 : x1 ≤ 60) (h4 : -2147483648 ≤ x0) (h5 : x0 ≤ 2147483647) (h6 : -2147483648 ≤ x1) (h7 : x1 ≤ 2147483647) : -2147483648 ≤ x0 + x1 := by omega
theorem o19_305 {x0 x1 : Int} (h0 : 0 ≤ x0) (h1 : x0 ≤ 120) (h2 : 0 ≤ x1) (h3 : x1 ≤ 60) (h4 : -2147483648 ≤ x0) (h5 : x0 ≤ 2147483647) (h6 : -2147483648 ≤ x1) (h7 : x1 ≤ 2147483647) : x0 + x1 ≤ 2147483647 := by omega
theorem o19_306 {x0 x1 x2 x3 : Int} (h0 : 2 ≤ x1) (h1 : x1 ≤ 2) (h2 : 0 ≤ x2) (h3 : x2 ≤ 4) (h4 : x1 < x2) (h5 : x3 = 1) (h6 : x0 = x1 + x3) : 3 ≤ x0 := by omega
theorem o19_307 {x0 x1 x2 x3 : Int} (h0 : 2 ≤ x1) (h1 : x1 ≤ 2) (h2 : 0 ≤ x2) (h3 : x2 ≤ 4) (h4 : x1 < x2) (h5 : x3 = 1) (h6 : x0 = x1 + x3) : x0 ≤ 3 := by omega
theorem o19_308 {x0 x1 x2 : Int} (h0 : 0 ≤ x1) (h1 : x1 ≤ 120) (h2 : 0 ≤ x2) (h3 : x2 ≤ 60) (h4 : x0 = x1 + x2) : 0 ≤ x0 := by omega
theorem o19_309 {x0 x1 x2 : Int} (h0 : 0 ≤ x1) (h1 : x1 ≤ 120) (h2 : 0 ≤ x2) (h3 : x2 ≤ 60) (h4 : x0 = x1 + x2) : x0 ≤ 180 := by omega
theorem o19_310 {x0 : Int} (h0 : 0 ≤ x0) (h1 : x0 ≤ 60) : x0 ≤ 180 := by omega
theorem o19_311 {x0 x1 : Int} (h0 : 1 ≤ x0) (h1 : x0 ≤ 1) (h2 : 0 ≤ x1) (h3 : x1 ≤ 4) (h4 : x0 < x1) : 0 ≤ x0 := by omega
theorem o19_312 {x0 x1 : Int} (h0 : 1 ≤ x0) (h1 : x0 ≤ 1) (h2 : 0 ≤ x1) (h3 : x1 ≤ 4) (h4 : x0 < x1) : x0 < (4 : Nat) := by omega
theorem o19_313 {x0 x1 x2 : Int} (h0 : 1 ≤ x0) (h1 : x0 ≤ 1) (h2 : 0 ≤ x2) (h3 : x2 ≤ 4) (h4 : x0 < x2) (h5 : x1 = 1) (h6 : -2147483648 ≤ x0) (h7 : x0 ≤ 2147483647) (h8 : -2147483648 ≤ x1) (h9 : x1 ≤ 2147483647) (h10 : -2147483648 ≤ x2) (h11 : x2 ≤ 2147483647) : -2147483648 ≤ x0 + x1 := by omega
theorem o19_314 {x0 x1 x2 : Int} (h0 : 1 ≤ x0) (h1 : x0 ≤ 1) (h2 : 0 ≤ x2) (h3 : x2 ≤ 4) (h4 : x0 < x2) (h5 : x1 = 1) (h6 : -2147483648 ≤ x0) (h7 : x0 ≤ 2147483647) (h8 : -2147483648 ≤ x1) (h9 : x1 ≤ 2147483647) (h10 : -2147483648 ≤ x2) (h11 : x2 ≤ 2147483647) : x0 + x1 ≤ 2147483647 := by omega
theorem o19_315 {x0 x1 : Int} (h0 : 0 ≤ x0) (h1 : x0 ≤ 60) (h2 : 0 ≤ x1) (h3 : x1 ≤ 60) (h4 : -2147483648 ≤ x0) (h5 : x0 ≤ 2147483647) (h6 : -2147483648 ≤ x1) (h7 : x1 ≤ 2147483647) : -2147483648 ≤ x0 + x1 := by omega
theorem o19_316 {x0 x1 : Int} (h0 : 0 ≤ x0) (h1 : x0 ≤ 60) (h2 : 0 ≤ x1) (h3 : x1 ≤ 60) (h4 : -2147483648 ≤ x0) (h5 : x0 ≤ 2147483647) (h6 : -2147483648 ≤ x1) (h7 : x1 ≤ 2147483647) : x0 + x1 ≤ 2147483647 := by omega
theorem o19_317 {x0 x1 x2 x3 : Int} (h0 : 1 ≤ x1) (h1 : x1 ≤ 1) (h2 : 0 ≤ x2) (h3 : x2 ≤ 4) (h4 : x1 < x2) (h5 : x3 = 1) (h6 : x0 = x1 + x3) : 2 ≤ x0 := by omega
theorem o19_318 {x0 x1 x2 x3 : Int} (h0 : 1 ≤ x1) (h1 : x1 ≤ 1) (h2 : 0 ≤ x2) (h3 : x2 ≤ 4) (h4 : x1 < x2) (h5 : x3 = 1) (h6 : x0 = x1 + x3) : x0 ≤ 2 := by omega
theorem o19_319 {x0 x1 x2 : Int} (h0 : 0 ≤ x1) (h1 : x1 ≤ 60) (h2 : 0 ≤ x2) (h3 : x2 ≤ 60) (h4 : x0 = x1 + x2) : 0 ≤ x0 := by omega
theorem o19_320 {x0 x1 x2 : Int} (h0 : 0 ≤ x1) (h1 : x1 ≤ 60) (h2 : 0 ≤ x2) (h3 : x2 ≤ 60) (h4 : x0 = x1 + x2) : x0 ≤ 120 := by omega
theorem o19_321 {x0 : Int} (h0 : 0 ≤ x0) (h1 : x0 ≤ 0) : 0 ≤ x0 := by omega
theorem o19_322 {x0 : Int} (h0 : 0 ≤ x0) (h1 : x0 ≤ 0) : x0 ≤ 180 := by omega
theorem o19_323 {x0 x1 : Int} (h0 : 0 ≤ x0) (h1 : x0 ≤ 0) (h2 : 0 ≤ x1) (h3 : x1 ≤ 4) (h4 : x0 < x1) : 0 ≤ x0 := by omega
theorem o19_324 {x0 x1 : Int} (h0 : 0 ≤ x0) (h1 : x0 ≤ 0) (h2 : 0 ≤ x1) (h3 : x1 ≤ 4) (h4 : x0 < x1) : x0 < (4 : Nat) := by omega
theorem o19_325 {x0 x1 x2 : Int} (h0 : 0 ≤ x0) (h1 : x0 ≤ 0) (h2 : 0 ≤ x2) (h3 : x2 ≤ 4) (h4 : x0 < x2) (h5 : x1 = 1) (h6 : -2147483648 ≤ x0) (h7 : x0 ≤ 2147483647) (h8 : -2147483648 ≤ x1) (h9 : x1 ≤ 2147483647) (h10 : -2147483648 ≤ x2) (h11 : x2 ≤ 2147483647) : -2147483648 ≤ x0 + x1 := by omega
theorem o19_326 {x0 x1 x2 : Int} (h0 : 0 ≤ x0) (h1 : x0 ≤ 0) (h2 : 0 ≤ x2) (h3 : x2 ≤ 4) (h4 : x0 < x2) (h5 : x1 = 1) (h6 : -2147483648 ≤ x0) (h7 : x0 ≤ 2147483647) (h8 : -2147483648 ≤ x1) (h9 : x1 ≤ 2147483647) (h10 : -2147483648 ≤ x2) (h11 : x2 ≤ 2147483647) : x0 + x1 ≤ 2147483647 := by omega
theorem o19_327 {x0 x1 : Int} (h0 : 0 ≤ x0) (h1 : x0 ≤ 0) (h2 : 0 ≤ x1) (h3 : x1 ≤ 60) (h4 : -2147483648 ≤ x0) (h5 : x0 ≤ 2147483647) (h6 : -2147483648 ≤ x1) (h7 : x1 ≤ 2147483647) : -2147483648 ≤ x0 + x1 := by omega
theorem o19_328 {x0 x1 : Int} (h0 : 0 ≤ x0) (h1 : x0 ≤ 0) (h2 : 0 ≤ x1) (h3 : x1 ≤ 60) (h4 : -2147483648 ≤ x0) (h5 : x0 ≤ 2147483647) (h6 : -2147483648 ≤ x1) (h7 : x1 ≤ 2147483647) : x0 + x1 ≤ 2147483647 := by omega
theorem o19_329 {x0 x1 x2 x3 : Int} (h0 : 0 ≤ x1) (h1 : x1 ≤ 0) (h2 : 0 ≤ x2) (h3 : x2 ≤ 4) (h4 : x1 < x2) (h5 : x3 = 1) (h6 : x0 = x1 + x3) : 1 ≤ x0 := by omega
theorem o19_330 {x0 x1 x2 x3 : Int} (h0 : 0 ≤ x1) (h1 : x1 ≤ 0) (h2 : 0 ≤ x2) (h3 : x2 ≤ 4) (h4 : x1 < x2) (h5 : x3 = 1) (h6 : x0 = x1 + x3) : x0 ≤ 1 := by omega
theorem o19_331 {x0 x1 x2 : Int} (h0 : 0 ≤ x1) (h1 : x1 ≤ 0) (h2 : 0 ≤ x2) (h3 : x2 ≤ 60) (h4 : x0 = x1 + x2) : 0 ≤ x0 := by omega
theorem o19_332 {x0 x1 x2 : Int} (h0 : 0 ≤ x1) (h1 : x1 ≤ 0) (h2 : 0 ≤ x2) (h3 : x2 ≤ 60) (h4 : x0 = x1 + x2) : x0 ≤ 60 := by omega
theorem o19_333 {x0 x1 x2 : Int} (h0 : 0 ≤ x0) (h1 : x2 = 10) (h2 : x2 ≤ x0) (h3 : x1 = 10) (h4 : -2147483648 ≤ x0) (h5 : x0 ≤ 2147483647) (h6 : -2147483648 ≤ x1) (h7 : x1 ≤ 2147483647) (h8 : -2147483648 ≤ x2) (h9 : x2 ≤ 2147483647) : -2147483648 ≤ x0 - x1 := by omega
theorem o19_334 {x0 x1 x2 : Int} (h0 : 0 ≤ x0) (h1 : x2 = 10) (h2 : x2 ≤ x0) (h3 : x1 = 10) (h4 : -2147483648 ≤ x0) (h5 : x0 ≤ 2147483647) (h6 : -2147483648 ≤ x1) (h7 : x1 ≤ 2147483647) (h8 : -2147483648 ≤ x2) (h9 : x2 ≤ 2147483647) : x0 - x1 ≤ 2147483647 := by omega
theorem o19_335 {x0 x1 x2 x3 x4 : Int} (h0 : 0 ≤ x1) (h1 : x2 = 10) (h2 : x2 ≤ x1) (h3 : x3 = 10) (h4 : x0 = x1 - x3) (h5 : 0 ≤ x4) (h6 : x4 ≤ 4) (h7 : x0 < x4) : 0 ≤ x0 := by omega
theorem o19_336 {x0 x1 x2 x3 x4 : Int} (h0 : 0 ≤ x1) (h1 : x2 = 10) (h2 : x2 ≤ x1) (h3 : x3 = 10) (h4 : x0 = x1 - x3) (h5 : 0 ≤ x4) (h6 : x4 ≤ 4) (h7 : x0 < x4) : x0 < (4 : Nat) := by omega
theorem o19_337 {x0 : Int} (h0 : 0 ≤ x0) (h1 : x0 ≤ 3) : 0 ≤ x0 := by omega
theorem o19_338 {x0 : Int} (h0 : 0 ≤ x0) (h1 : x0 ≤ 3) : x0 < (4 : Nat) := by omega
theorem o19_339 {x0 : Int} (h0 : 0 ≤ x0) (h1 : x0 ≤ 1) : 0 ≤ x0 := by omega
theorem o19_340 {x0 : Int} (h0 : 0 ≤ x0) (h1 : x0 ≤ 1) : x0 < (2 : Nat) := by omega
theorem o19_341 {x0 : Int} (h0 : 0 ≤ x0) (h1 : x0 ≤ 1) : (x0).toNat < 2 := by omega
theorem o19_342 {x0 x1 : Int} (h0 : 0 ≤ x0) (h1 : x0 ≤ 19) (h2 : x1 = 1) (h3 : -2147483648 ≤ x0) (h4 : x0 ≤ 2147483647) (h5 : -2147483648 ≤ x1) (h6 : x1 ≤ 2147483647) : -2147483648 ≤ x0 + x1 := by omega
theorem o19_343 {x0 x1 : Int} (h0 : 0 ≤ x0) (h1 : x0 ≤ 19) (h2 : x1 = 1) (h3 : -2147483648 ≤ x0) (h4 : x0 ≤ 2147483647) (h5 : -2147483648 ≤ x1) (h6 : x1 ≤ 2147483647) : x0 + x1 ≤ 2147483647 := by omega
theorem o19_344 {x0 x1 x2 x3 : Int} (h0 : 0 ≤ x0) (h1 : x0 ≤ 19) (h2 : x2 = 1) (h3 : x3 = x0 + x2) (h4 : x1 = 1) (h5 : -2147483648 ≤ x0) (h6 : x0 ≤ 2147483647) (h7 : -2147483648 ≤ x1) (h8 : x1 ≤ 2147483647) (h9 : -2147483648 ≤ x2) (h10 : x2 ≤ 2147483647) (h11 : -2147483648 ≤ x3) (h12 : x3 ≤ 2147483647) : -2147483648 ≤ x0 + x1 := by omega
theorem o19_345 {x0 x1 x2 x3 : Int} (h0 : 0 ≤ x0) (h1 : x0 ≤ 19) (h2 : x2 = 1) (h3 : x3 = x0 + x2) (h4 : x1 = 1) (h5 : -2147483648 ≤ x0) (h6 : x0 ≤ 2147483647) (h7 : -2147483648 ≤ x1) (h8 : x1 ≤ 2147483647) (h9 : -2147483648 ≤ x2) (h10 : x2 ≤ 2147483647) (h11 : -2147483648 ≤ x3) (h12 : x3 ≤ 2147483647) : x0 + x1 ≤ 2147483647 := by omega
theorem o19_346 {x0 : Int} (h0 : 0 ≤ x0) (h1 : x0 ≤ 99) : x0 < (100 : Nat) := by omega
theorem o19_347 {x0 x1 : Int} (h0 : 0 ≤ x1) (h1 : x1 ≤ 2) (h2 : (-1) ≤ x0) (h3 : x0 ≤ 40) (h4 : -2147483648 ≤ x0) (h5 : x0 ≤ 2147483647) (h6 : -2147483648 ≤ x1) (h7 : x1 ≤ 2147483647) : -2147483648 ≤ x0 + x1 := by omega
theorem o19_348 {x0 x1 : Int} (h0 : 0 ≤ x1) (h1 : x1 ≤ 2) (h2 : (-1) ≤ x0) (h3 : x0 ≤ 40) (h4 : -2147483648 ≤ x0) (h5 : x0 ≤ 2147483647) (h6 : -2147483648 ≤ x1) (h7 : x1 ≤ 2147483647) : x0 + x1 ≤ 2147483647 := by omega
theorem o19_349 {x0 x1 : Int} (h0 : (-1) ≤ x0) (h1 : x0 ≤ 40) (h2 : x1 = 1) (h3 : -2147483648 ≤ x0) (h4 : x0 ≤ 2147483647) (h5 : -2147483648 ≤ x1) (h6 : x1 ≤ 2147483647) : -2147483648 ≤ x0 + x1 := by omega
theorem o19_350 {x0 x1 : Int} (h0 : (-1) ≤ x0) (h1 : x0 ≤ 40) (h2 : x1 = 1) (h3 : -2147483648 ≤ x0) (h4 : x0 ≤ 2147483647) (h5 : -2147483648 ≤ x1) (h6 : x1 ≤ 2147483647) : x0 + x1 ≤ 2147483647 := by omega
theorem o19_351 {x0 : Int} (h0 : 0 ≤ x0) (h1 : x0 ≤ 41) (h2 : 41 - x0 < 0) : False := by omega
theorem o19_352 {x0 x1 x2 x3 x4 x5 x6 x7 x8 x9 x11 : Int} {x10 : Nat} (h0 : 0 ≤ x1) (h1 : x1 ≤ 2) (h2 : 0 ≤ x2) (h3 : x2 ≤ 40) (h4 : (-1) ≤ x3) (h5 : x3 ≤ 40) (h6 : x4 = x3 + x1) (h7 : (x5 = x2 ∧ x2 ≤ x4) ∨ (x5 = x4 ∧ x4 ≤ x2)) (h8 : (-1) ≤ x6) (h9 : x6 ≤ 40) (h10 : x7 = 1) (h11 : x8 = x6 + x7) (h12 : 0 ≤ x9) (h13 : x9 ≤ 41) (h14 : 41 - x9 < ((x10 + 1 : Nat) : Int)) (h15 : x5 < x9) (h16 : (-1) ≤ x11) (h17 : x11 ≤ 40) (h18 : x11 = x6) (h19 : (x0 = x11 ∧ x5 ≤ x11) ∨ (x0 = x5 ∧ x11 ≤ x5)) : (-1) ≤ x0 := by omega
theorem o19_353 {x0 x1 x2 x3 x4 x5 x6 x7 x8 x9 x11 : Int} {x10 : Nat} (h0 : 0 ≤ x1) (h1 : x1 ≤ 2) (h2 : 0 ≤ x2) (h3 : x2 ≤ 40) (h4 : (-1) ≤ x3) (h5 : x3 ≤ 40) (h6 : x4 = x3 + x1) (h7 : (x5 = x2 ∧ x2 ≤ x4) ∨ (x5 = x4 ∧ x4 ≤ x2)) (h8 : (-1) ≤ x6) (h9 : x6 ≤ 40) (h10 : x7 = 1) (h11 : x8 = x6 + x7) (h12 : 0 ≤ x9) (h13 : x9 ≤ 41) (h14 : 41 - x9 < ((x10 + 1 : Nat) : Int)) (h15 : x5 < x9) (h16 : (-1) ≤ x11) (h17 : x11 ≤ 40) (h18 : x11 = x6) (h19 : (x0 = x11 ∧ x5 ≤ x11) ∨ (x0 = x5 ∧ x11 ≤ x5)) : x0 ≤ 40 := by omega
theorem o19_354 {x0 x1 x2 x3 x4 x5 x6 x7 x8 x9 x11 x12 : Int} {x10 : Nat} (h0 : 0 ≤ x1) (h1 : x1 ≤ 2) (h2 : 0 ≤ x2) (h3 : x2 ≤ 40) (h4 : (-1) ≤ x3) (h5 : x3 ≤ 40) (h6 : x4 = x3 + x1) (h7 : (x5 = x2 ∧ x2 ≤ x4) ∨ (x5 = x4 ∧ x4 ≤ x2)) (h8 : (-1) ≤ x6) (h9 : x6 ≤ 40) (h10 : x7 = 1) (h11 : x8 = x6 + x7) (h12 : 0 ≤ x9) (h13 : x9 ≤ 41) (h14 : 41 - x9 < ((x10 + 1 : Nat) : Int)) (h15 : x5 < x9) (h16 : (-1) ≤ x11) (h17 : x11 ≤ 40) (h18 : x11 = x6) (h19 : (x12 = x11 ∧ x5 ≤ x11) ∨ (x12 = x5 ∧ x11 ≤ x5)) (h20 : 0 ≤ x0) (h21 : x0 ≤ 41) (h22 : x1 ≤ x0) (h23 : 41 - x0 < 0) : False := by omega
theorem o19_355 {x0 : Int} (h0 : x0 = 41) : x0 = 41 := by omega
theorem o19_356 {x0 : Int} (h0 : 0 ≤ x0) (h1 : x0 ≤ 99) (h2 : -2147483648 ≤ x0) (h3 : x0 ≤ 2147483647) : -2147483648 ≤ x0 * 41 := by omega
theorem o19_357 {x0 : Int} (h0 : 0 ≤ x0) (h1 : x0 ≤ 99) (h2 : -2147483648 ≤ x0) (h3 : x0 ≤ 2147483647) : x0 * 41 ≤ 2147483647 := by omega
theorem o19_358 {x0 x1 x2 x3 x4 x5 x6 x7 x8 x9 x10 x11 x13 x14 : Int} {x12 x15 : Nat} (h0 : 0 ≤ x2) (h1 : x2 ≤ 99) (h2 : 0 ≤ x3) (h3 : x3 ≤ 2) (h4 : 0 ≤ x4) (h5 : x4 ≤ 40) (h6 : (-1) ≤ x5) (h7 : x5 ≤ 40) (h8 : x6 = x5 + x3) (h9 : (x7 = x4 ∧ x4 ≤ x6) ∨ (x7 = x6 ∧ x6 ≤ x4)) (h10 : (-1) ≤ x8) (h11 : x8 ≤ 40) (h12 : x9 = 1) (h13 : x10 = x8 + x9) (h14 : 0 ≤ x11) (h15 : x11 ≤ 41) (h16 : 41 - x11 < ((x12 + 1 : Nat) : Int)) (h17 : x7 < x11) (h18 : (-1) ≤ x13) (h19 : x13 ≤ 40) (h20 : x13 = x8) (h21 : (x14 = x13 ∧ x7 ≤ x13) ∨ (x14 = x7 ∧ x13 ≤ x7)) (h22 : 0 ≤ x1) (h23 : x1 ≤ 41) (h24 : x3 ≤ x1) (h25 : 41 - x1 < ((x15 + 1 : Nat) : Int)) (h26 : x1 ≤ x7) (h27 : x0 = x2 * 41) (h28 : -2147483648 ≤ x0) (h29 : x0 ≤ 2147483647) (h30 : -2147483648 ≤ x1) (h31 : x1 ≤ 2147483647) (h32 : -2147483648 ≤ x2) (h33 : x2 ≤ 2147483647) (h34 : -2147483648 ≤ x3) (h35 : x3 ≤ 2147483647) (h36 : -2147483648 ≤ x4) (h37 : x4 ≤ 2147483647) (h38 : -2147483648 ≤ x5) (h39 : x5 ≤ 2147483647) (h40 : -2147483648 ≤ x6) (h41 : x6 ≤ 2147483647) (h42 : -2147483648 ≤ x7) (h43 : x7 ≤ 2147483647) (h44 : -2147483648 ≤ x8) (h45 : x8 ≤ 2147483647) (h46 : -2147483648 ≤ x9) (h47 : x9 ≤ 2147483647) (h48 : -2147483648 ≤ x10) (h49 : x10 ≤ 2147483647) (h50 : -2147483648 ≤ x11) (h51 : x11 ≤ 2147483647) (h52 : -2147483648 ≤ x13) (h53 : x13 ≤ 2147483647) (h54 : -2147483648 ≤ x14) (h55 : x14 ≤ 2147483647) : -2147483648 ≤ x0 + x1 := by omega
theorem o19_359 {x0 x1 x2 x3 x4 x5 x6 x7 x8 x9 x10 x11 x13 x14 : Int} {x12 x15 : Nat} (h0 : 0 ≤ x2) (h1 : x2 ≤ 99) (h2 : 0 ≤ x3) (h3 : x3 ≤ 2) (h4 : 0 ≤ x4) (h5 : x4 ≤ 40) (h6 : (-1) ≤ x5) (h7 : x5 ≤ 40) (h8 : x6 = x5 + x3) (h9 : (x7 = x4 ∧ x4 ≤ x6) ∨ (x7 = x6 ∧ x6 ≤ x4)) (h10 : (-1) ≤ x8) (h11 : x8 ≤ 40) (h12 : x9 = 1) (h13 : x10 = x8 + x9) (h14 : 0 ≤ x11) (h15 : x11 ≤ 41) (h16 : 41 - x11 < ((x12 + 1 : Nat) : Int)) (h17 : x7 < x11) (h18 : (-1) ≤ x13) (h19 : x13 ≤ 40) (h20 : x13 = x8) (h21 : (x14 = x13 ∧ x7 ≤ x13) ∨ (x14 = x7 ∧ x13 ≤ x7)) (h22 : 0 ≤ x1) (h23 : x1 ≤ 41) (h24 : x3 ≤ x1) (h25 : 41 - x1 < ((x15 + 1 : Nat) : Int)) (h26 : x1 ≤ x7) (h27 : x0 = x2 * 41) (h28 : -2147483648 ≤ x0) (h29 : x0 ≤ 2147483647) (h30 : -2147483648 ≤ x1) (h31 : x1 ≤ 2147483647) (h32 : -2147483648 ≤ x2) (h33 : x2 ≤ 2147483647) (h34 : -2147483648 ≤ x3) (h35 : x3 ≤ 2147483647) (h36 : -2147483648 ≤ x4) (h37 : x4 ≤ 2147483647) (h38 : -2147483648 ≤ x5) (h39 : x5 ≤ 2147483647) (h40 : -2147483648 ≤ x6) (h41 : x6 ≤ 2147483647) (h42 : -2147483648 ≤ x7) (h43 : x7 ≤ 2147483647) (h44 : -2147483648 ≤ x8) (h45 : x8 ≤ 2147483647) (h46 : -2147483648 ≤ x9) (h47 : x9 ≤ 2147483647) (h48 : -2147483648 ≤ x10) (h49 : x10 ≤ 2147483647) (h50 : -2147483648 ≤ x11) (h51 : x11 ≤ 2147483647) (h52 : -2147483648 ≤ x13) (h53 : x13 ≤ 2147483647) (h54 : -2147483648 ≤ x14) (h55 : x14 ≤ 2147483647) : x0 + x1 ≤ 2147483647 := by omega
theorem o19_360 {x0 x1 x2 x3 x4 x5 x6 x7 x8 x9 x10 x12 x13 x14 x16 : Int} {x11 x15 : Nat} (h0 : 0 ≤ x1) (h1 : x1 ≤ 99) (h2 : 0 ≤ x2) (h3 : x2 ≤ 2) (h4 : 0 ≤ x3) (h5 : x3 ≤ 40) (h6 : (-1) ≤ x4) (h7 : x4 ≤ 40) (h8 : x5 = x4 + x2) (h9 : (x6 = x3 ∧ x3 ≤ x5) ∨ (x6 = x5 ∧ x5 ≤ x3)) (h10 : (-1) ≤ x7) (h11 : x7 ≤ 40) (h12 : x8 = 1) (h13 : x9 = x7 + x8) (h14 : 0 ≤ x10) (h15 : x10 ≤ 41) (h16 : 41 - x10 < ((x11 + 1 : Nat) : Int)) (h17 : x6 < x10) (h18 : (-1) ≤ x12) (h19 : x12 ≤ 40) (h20 : x12 = x7) (h21 : (x13 = x12 ∧ x6 ≤ x12) ∨ (x13 = x6 ∧ x12 ≤ x6)) (h22 : 0 ≤ x14) (h23 : x14 ≤ 41) (h24 : x2 ≤ x14) (h25 : 41 - x14 < ((x15 + 1 : Nat) : Int)) (h26 : x14 ≤ x6) (h27 : x16 = x1 * 41) (h28 : x0 = x16 + x14) : 0 ≤ x0 := by omega
theorem o19_361 {x0 x1 x2 x3 x4 x5 x6 x7 x8 x9 x10 x12 x13 x14 x16 : Int} {x11 x15 : Nat} (h0 : 0 ≤ x1) (h1 : x1 ≤ 99) (h2 : 0 ≤ x2) (h3 : x2 ≤ 2) (h4 : 0 ≤ x3) (h5 : x3 ≤ 40) (h6 : (-1) ≤ x4) (h7 : x4 ≤ 40) (h8 : x5 = x4 + x2) (h9 : (x6 = x3 ∧ x3 ≤ x5) ∨ (x6 = x5 ∧ x5 ≤ x3)) (h10 : (-1) ≤ x7) (h11 : x7 ≤ 40) (h12 : x8 = 1) (h13 : x9 = x7 + x8) (h14 : 0 ≤ x10) (h15 : x10 ≤ 41) (h16 : 41 - x10 < ((x11 + 1 : Nat) : Int)) (h17 : x6 < x10) (h18 : (-1) ≤ x12) (h19 : x12 ≤ 40) (h20 : x12 = x7) (h21 : (x13 = x12 ∧ x6 ≤ x12) ∨ (x13 = x6 ∧ x12 ≤ x6)) (h22 : 0 ≤ x14) (h23 : x14 ≤ 41) (h24 : x2 ≤ x14) (h25 : 41 - x14 < ((x15 + 1 : Nat) : Int)) (h26 : x14 ≤ x6) (h27 : x16 = x1 * 41) (h28 : x0 = x16 + x14) : x0 < (4100 : Nat) := by omega
theorem o19_362 {x0 x1 x2 x3 x4 x5 x6 x7 x8 x9 x10 x11 x12 x14 x15 x17 x18 : Int} {x13 x16 : Nat} (h0 : 0 ≤ x2) (h1 : x2 ≤ 99) (h2 : 0 ≤ x3) (h3 : x3 ≤ 99) (h4 : 0 ≤ x4) (h5 : x4 ≤ 2) (h6 : 0 ≤ x5) (h7 : x5 ≤ 40) (h8 : (-1) ≤ x6) (h9 : x6 ≤ 40) (h10 : x7 = x6 + x4) (h11 : (x8 = x5 ∧ x5 ≤ x7) ∨ (x8 = x7 ∧ x7 ≤ x5)) (h12 : (-1) ≤ x9) (h13 : x9 ≤ 40) (h14 : x10 = 1) (h15 : x11 = x9 + x10) (h16 : 0 ≤ x12) (h17 : x12 ≤ 41) (h18 : 41 - x12 < ((x13 + 1 : Nat) : Int)) (h19 : x8 < x12) (h20 : (-1) ≤ x14) (h21 : x14 ≤ 40) (h22 : x14 = x9) (h23 : (x15 = x14 ∧ x8 ≤ x14) ∨ (x15 = x8 ∧ x14 ≤ x8)) (h24 : 0 ≤ x1) (h25 : x1 ≤ 41) (h26 : x4 ≤ x1) (h27 : 41 - x1 < ((x16 + 1 : Nat) : Int)) (h28 : x1 ≤ x8) (h29 : x17 = x3 * 41) (h30 : x18 = x17 + x1) (h31 : x0 = x2 * 41) (h32 : -2147483648 ≤ x0) (h33 : x0 ≤ 2147483647) (h34 : -2147483648 ≤ x1) (h35 : x1 ≤ 2147483647) (h36 : -2147483648 ≤ x2) (h37 : x2 ≤ 2147483647) (h38 : -2147483648 ≤ x3) (h39 : x3 ≤ 2147483647) (h40 : -2147483648 ≤ x4) (h41 : x4 ≤ 2147483647) (h42 : -2147483648 ≤ x5) (h43 : x5 ≤ 2147483647) (h44 : -2147483648 ≤ x6) (h45 : x6 ≤ 2147483647) (h46 : -2147483648 ≤ x7) (h47 : x7 ≤ 2147483647) (h48 : -2147483648 ≤ x8) (h49 : x8 ≤ 2147483647) (h50 : -2147483648 ≤ x9) (h51 : x9 ≤ 2147483647) (h52 : -2147483648 ≤ x10) (h53 : x10 ≤ 2147483647) (h54 : -2147483648 ≤ x11) (h55 : x11 ≤ 2147483647) (h56 : -2147483648 ≤ x12) (h57 : x12 ≤ 2147483647) (h58 : -2147483648 ≤ x14) (h59 : x14 ≤ 2147483647) (h60 : -2147483648 ≤ x15) (h61 : x15 ≤ 2147483647) (h62 : -2147483648 ≤ x17) (h63 : x17 ≤ 2147483647) (h64 : -2147483648 ≤ x18) (h65 : x18 ≤ 2147483647) : -2147483648 ≤ x0 + x1 := by omega
theorem o19_363 {x0 x1 x2 x3 x4 x5 x6 x7 x8 x9 x10 x11 x12 x14 x15 x17 x18 : Int} {x13 x16 : Nat} (h0 : 0 ≤ x2) (h1 : x2 ≤ 99) (h2 : 0 ≤ x3) (h3 : x3 ≤ 99) (h4 : 0 ≤ x4) (h5 : x4 ≤ 2) (h6 : 0 ≤ x5) (h7 : x5 ≤ 40) (h8 : (-1) ≤ x6) (h9 : x6 ≤ 40) (h10 : x7 = x6 + x4) (h11 : (x8 = x5 ∧ x5 ≤ x7) ∨ (x8 = x7 ∧ x7 ≤ x5)) (h12 : (-1) ≤ x9) (h13 : x9 ≤ 40) (h14 : x10 = 1) (h15 : x11 = x9 + x10) (h16 : 0 ≤ x12) (h17 : x12 ≤ 41) (h18 : 41 - x12 < ((x13 + 1 : Nat) : Int)) (h19 : x8 < x12) (h20 : (-1) ≤ x14) (h21 : x14 ≤ 40) (h22 : x14 = x9) (h23 : (x15 = x14 ∧ x8 ≤ x14) ∨ (x15 = x8 ∧ x14 ≤ x8)) (h24 : 0 ≤ x1) (h25 : x1 ≤ 41) (h26 : x4 ≤ x1) (h27 : 41 - x1 < ((x16 + 1 : Nat) : Int)) (h28 : x1 ≤ x8) (h29 : x17 = x3 * 41) (h30 : x18 = x17 + x1) (h31 : x0 = x2 * 41) (h32 : -2147483648 ≤ x0) (h33 : x0 ≤ 2147483647) (h34 : -2147483648 ≤ x1) (h35 : x1 ≤ 2147483647) (h36 : -2147483648 ≤ x2) (h37 : x2 ≤ 2147483647) (h38 : -2147483648 ≤ x3) (h39 : x3 ≤ 2147483647) (h40 : -2147483648 ≤ x4) (h41 : x4 ≤ 2147483647) (h42 : -2147483648 ≤ x5) (h43 : x5 ≤ 2147483647) (h44 : -2147483648 ≤ x6) (h45 : x6 ≤ 2147483647) (h46 : -2147483648 ≤ x7) (h47 : x7 ≤ 2147483647) (h48 : -2147483648 ≤ x8) (h49 : x8 ≤ 2147483647) (h50 : -2147483648 ≤ x9) (h51 : x9 ≤ 2147483647) (h52 : -2147483648 ≤ x10) (h53 : x10 ≤ 2147483647) (h54 : -2147483648 ≤ x11) (h55 : x11 ≤ 2147483647) (h56 : -2147483648 ≤ x12) (h57 : x12 ≤ 2147483647) (h58 : -2147483648 ≤ x14) (h59 : x14 ≤ 2147483647) (h60 : -2147483648 ≤ x15) (h61 : x15 ≤ 2147483647) (h62 : -2147483648 ≤ x17) (h63 : x17 ≤ 2147483647) (h64 : -2147483648 ≤ x18) (h65 : x18 ≤ 2147483647) : x0 + x1 ≤ 2147483647 := by omega
theorem o19_364 {x0 x1 x2 x3 x4 x5 x6 x7 x8 x9 x10 x11 x13 x14 x15 x17 x18 x19 : Int} {x12 x16 : Nat} (h0 : 0 ≤ x2) (h1 : x2 ≤ 99) (h2 : 0 ≤ x3) (h3 : x3 ≤ 99) (h4 : 0 ≤ x1) (h5 : x1 ≤ 2) (h6 : 0 ≤ x4) (h7 : x4 ≤ 40) (h8 : (-1) ≤ x5) (h9 : x5 ≤ 40) (h10 : x6 = x5 + x1) (h11 : (x7 = x4 ∧ x4 ≤ x6) ∨ (x7 = x6 ∧ x6 ≤ x4)) (h12 : (-1) ≤ x8) (h13 : x8 ≤ 40) (h14 : x9 = 1) (h15 : x10 = x8 + x9) (h16 : 0 ≤ x11) (h17 : x11 ≤ 41) (h18 : 41 - x11 < ((x12 + 1 : Nat) : Int)) (h19 : x7 < x11) (h20 : (-1) ≤ x13) (h21 : x13 ≤ 40) (h22 : x13 = x8) (h23 : (x14 = x13 ∧ x7 ≤ x13) ∨ (x14 = x7 ∧ x13 ≤ x7)) (h24 : 0 ≤ x15) (h25 : x15 ≤ 41) (h26 : x1 ≤ x15) (h27 : 41 - x15 < ((x16 + 1 : Nat) : Int)) (h28 : x15 ≤ x7) (h29 : x17 = x3 * 41) (h30 : x18 = x17 + x15) (h31 : x19 = x2 * 41) (h32 : x0 = x19 + x15) (h33 : -2147483648 ≤ x0) (h34 : x0 ≤ 2147483647) (h35 : -2147483648 ≤ x1) (h36 : x1 ≤ 2147483647) (h37 : -2147483648 ≤ x2) (h38 : x2 ≤ 2147483647) (h39 : -2147483648 ≤ x3) (h40 : x3 ≤ 2147483647) (h41 : -2147483648 ≤ x4) (h42 : x4 ≤ 2147483647) (h43 : -2147483648 ≤ x5) (h44 : x5 ≤ 2147483647) (h45 : -2147483648 ≤ x6) (h46 : x6 ≤ 2147483647) (h47 : -2147483648 ≤ x7) (h48 : x7 ≤ 2147483647) (h49 : -2147483648 ≤ x8) (h50 : x8 ≤ 2147483647) (h51 : -2147483648 ≤ x9) (h52 : x9 ≤ 2147483647) (h53 : -2147483648 ≤ x10) (h54 : x10 ≤ 2147483647) (h55 : -2147483648 ≤ x11) (h56 : x11 ≤ 2147483647) (h57 : -2147483648 ≤ x13) (h58 : x13 ≤ 2147483647) (h59 : -2147483648 ≤ x14) (h60 : x14 ≤ 2147483647) (h61 : -2147483648 ≤ x15) (h62 : x15 ≤ 2147483647) (h63 : -2147483648 ≤ x17) (h64 : x17 ≤ 2147483647) (h65 : -2147483648 ≤ x18) (h66 : x18 ≤ 2147483647) (h67 : -2147483648 ≤ x19) (h68 : x19 ≤ 2147483647) : -2147483648 ≤ x0 - x1 := by omega
theorem o19_365 {x0 x1 x2 x3 x4 x5 x6 x7 x8 x9 x10 x11 x13 x14 x15 x17 x18 x19 : Int} {x12 x16 : Nat} (h0 : 0 ≤ x2) (h1 : x2 ≤ 99) (h2 : 0 ≤ x3) (h3 : x3 ≤ 99) (h4 : 0 ≤ x1) (h5 : x1 ≤ 2) (h6 : 0 ≤ x4) (h7 : x4 ≤ 40) (h8 : (-1) ≤ x5) (h9 : x5 ≤ 40) (h10 : x6 = x5 + x1) (h11 : (x7 = x4 ∧ x4 ≤ x6) ∨ (x7 = x6 ∧ x6 ≤ x4)) (h12 : (-1) ≤ x8) (h13 : x8 ≤ 40) (h14 : x9 = 1) (h15 : x10 = x8 + x9) (h16 : 0 ≤ x11) (h17 : x11 ≤ 41) (h18 : 41 - x11 < ((x12 + 1 : Nat) : Int)) (h19 : x7 < x11) (h20 : (-1) ≤ x13) (h21 : x13 ≤ 40) (h22 : x13 = x8) (h23 : (x14 = x13 ∧ x7 ≤ x13) ∨ (x14 = x7 ∧ x13 ≤ x7)) (h24 : 0 ≤ x15) (h25 : x15 ≤ 41) (h26 : x1 ≤ x15) (h27 : 41 - x15 < ((x16 + 1 : Nat) : Int)) (h28 : x15 ≤ x7) (h29 : x17 = x3 * 41) (h30 : x18 = x17 + x15) (h31 : x19 = x2 * 41) (h32 : x0 = x19 + x15) (h33 : -2147483648 ≤ x0) (h34 : x0 ≤ 2147483647) (h35 : -2147483648 ≤ x1) (h36 : x1 ≤ 2147483647) (h37 : -2147483648 ≤ x2) (h38 : x2 ≤ 2147483647) (h39 : -2147483648 ≤ x3) (h40 : x3 ≤ 2147483647) (h41 : -2147483648 ≤ x4) (h42 : x4 ≤ 2147483647) (h43 : -2147483648 ≤ x5) (h44 : x5 ≤ 2147483647) (h45 : -2147483648 ≤ x6) (h46 : x6 ≤ 2147483647) (h47 : -2147483648 ≤ x7) (h48 : x7 ≤ 2147483647) (h49 : -2147483648 ≤ x8) (h50 : x8 ≤ 2147483647) (h51 : -2147483648 ≤ x9) (h52 : x9 ≤ 2147483647) (h53 : -2147483648 ≤ x10) (h54 : x10 ≤ 2147483647) (h55 : -2147483648 ≤ x11) (h56 : x11 ≤ 2147483647) (h57 : -2147483648 ≤ x13) (h58 : x13 ≤ 2147483647) (h59 : -2147483648 ≤ x14) (h60 : x14 ≤ 2147483647) (h61 : -2147483648 ≤ x15) (h62 : x15 ≤ 2147483647) (h63 : -2147483648 ≤ x17) (h64 : x17 ≤ 2147483647) (h65 : -2147483648 ≤ x18) (h66 : x18 ≤ 2147483647) (h67 : -2147483648 ≤ x19) (h68 : x19 ≤ 2147483647) : x0 - x1 ≤ 2147483647 := by omega
theorem o19_366 {x0 x1 x2 x3 x4 x5 x6 x7 x8 x9 x10 x11 x13 x14 x15 x17 x18 x19 x20 : Int} {x12 x16 : Nat} (h0 : 0 ≤ x1) (h1 : x1 ≤ 99) (h2 : 0 ≤ x2) (h3 : x2 ≤ 99) (h4 : 0 ≤ x3) (h5 : x3 ≤ 2) (h6 : 0 ≤ x4) (h7 : x4 ≤ 40) (h8 : (-1) ≤ x5) (h9 : x5 ≤ 40) (h10 : x6 = x5 + x3) (h11 : (x7 = x4 ∧ x4 ≤ x6) ∨ (x7 = x6 ∧ x6 ≤ x4)) (h12 : (-1) ≤ x8) (h13 : x8 ≤ 40) (h14 : x9 = 1) (h15 : x10 = x8 + x9) (h16 : 0 ≤ x11) (h17 : x11 ≤ 41) (h18 : 41 - x11 < ((x12 + 1 : Nat) : Int)) (h19 : x7 < x11) (h20 : (-1) ≤ x13) (h21 : x13 ≤ 40) (h22 : x13 = x8) (h23 : (x14 = x13 ∧ x7 ≤ x13) ∨ (x14 = x7 ∧ x13 ≤ x7)) (h24 : 0 ≤ x15) (h25 : x15 ≤ 41) (h26 : x3 ≤ x15) (h27 : 41 - x15 < ((x16 + 1 : Nat) : Int)) (h28 : x15 ≤ x7) (h29 : x17 = x2 * 41) (h30 : x18 = x17 + x15) (h31 : x19 = x1 * 41) (h32 : x20 = x19 + x15) (h33 : x0 = x20 - x3) : 0 ≤ x0 := by omega
theorem o19_367 {x0 x1 x2 x3 x4 x5 x6 x7 x8 x9 x10 x11 x13 x14 x15 x17 x18 x19 x20 : Int} {x12 x16 : Nat} (h0 : 0 ≤ x1) (h1 : x1 ≤ 99) (h2 : 0 ≤ x2) (h3 : x2 ≤ 99) (h4 : 0 ≤ x3) (h5 : x3 ≤ 2) (h6 : 0 ≤ x4) (h7 : x4 ≤ 40) (h8 : (-1) ≤ x5) (h9 : x5 ≤ 40) (h10 : x6 = x5 + x3) (h11 : (x7 = x4 ∧ x4 ≤ x6) ∨ (x7 = x6 ∧ x6 ≤ x4)) (h12 : (-1) ≤ x8) (h13 : x8 ≤ 40) (h14 : x9 = 1) (h15 : x10 = x8 + x9) (h16 : 0 ≤ x11) (h17 : x11 ≤ 41) (h18 : 41 - x11 < ((x12 + 1 : Nat) : Int)) (h19 : x7 < x11) (h20 : (-1) ≤ x13) (h21 : x13 ≤ 40) (h22 : x13 = x8) (h23 : (x14 = x13 ∧ x7 ≤ x13) ∨ (x14 = x7 ∧ x13 ≤ x7)) (h24 : 0 ≤ x15) (h25 : x15 ≤ 41) (h26 : x3 ≤ x15) (h27 : 41 - x15 < ((x16 + 1 : Nat) : Int)) (h28 : x15 ≤ x7) (h29 : x17 = x2 * 41) (h30 : x18 = x17 + x15) (h31 : x19 = x1 * 41) (h32 : x20 = x19 + x15) (h33 : x0 = x20 - x3) : x0 < (4100 : Nat) := by omega
theorem o19_368 {x0 x1 x2 x3 x4 x5 x6 x7 x8 x9 x10 x11 x13 x14 x15 x17 x18 x19 x20 : Int} {x12 x16 : Nat} (h0 : 0 ≤ x1) (h1 : x1 ≤ 99) (h2 : 0 ≤ x2) (h3 : x2 ≤ 99) (h4 : 0 ≤ x3) (h5 : x3 ≤ 2) (h6 : 0 ≤ x4) (h7 : x4 ≤ 40) (h8 : (-1) ≤ x5) (h9 : x5 ≤ 40) (h10 : x6 = x5 + x3) (h11 : (x7 = x4 ∧ x4 ≤ x6) ∨ (x7 = x6 ∧ x6 ≤ x4)) (h12 : (-1) ≤ x8) (h13 : x8 ≤ 40) (h14 : x9 = 1) (h15 : x10 = x8 + x9) (h16 : 0 ≤ x11) (h17 : x11 ≤ 41) (h18 : 41 - x11 < ((x12 + 1 : Nat) : Int)) (h19 : x7 < x11) (h20 : (-1) ≤ x13) (h21 : x13 ≤ 40) (h22 : x13 = x8) (h23 : (x14 = x13 ∧ x7 ≤ x13) ∨ (x14 = x7 ∧ x13 ≤ x7)) (h24 : 0 ≤ x15) (h25 : x15 ≤ 41) (h26 : x3 ≤ x15) (h27 : 41 - x15 < ((x16 + 1 : Nat) : Int)) (h28 : x15 ≤ x7) (h29 : x17 = x2 * 41) (h30 : x0 = x17 + x15) (h31 : x18 = x1 * 41) (h32 : x19 = x18 + x15) (h33 : x20 = x19 - x3) : 0 ≤ x0 := by omega
theorem o19_369 {x0 x1 x2 x3 x4 x5 x6 x7 x8 x9 x10 x11 x13 x14 x15 x17 x18 x19 x20 : Int} {x12 x16 : Nat} (h0 : 0 ≤ x1) (h1 : x1 ≤ 99) (h2 : 0 ≤ x2) (h3 : x2 ≤ 99) (h4 : 0 ≤ x3) (h5 : x3 ≤ 2) (h6 : 0 ≤ x4) (h7 : x4 ≤ 40) (h8 : (-1) ≤ x5) (h9 : x5 ≤ 40) (h10 : x6 = x5 + x3) (h11 : (x7 = x4 ∧ x4 ≤ x6) ∨ (x7 = x6 ∧ x6 ≤ x4)) (h12 : (-1) ≤ x8) (h13 : x8 ≤ 40) (h14 : x9 = 1) (h15 : x10 = x8 + x9) (h16 : 0 ≤ x11) (h17 : x11 ≤ 41) (h18 : 41 - x11 < ((x12 + 1 : Nat) : Int)) (h19 : x7 < x11) (h20 : (-1) ≤ x13) (h21 : x13 ≤ 40) (h22 : x13 = x8) (h23 : (x14 = x13 ∧ x7 ≤ x13) ∨ (x14 = x7 ∧ x13 ≤ x7)) (h24 : 0 ≤ x15) (h25 : x15 ≤ 41) (h26 : x3 ≤ x15) (h27 : 41 - x15 < ((x16 + 1 : Nat) : Int)) (h28 : x15 ≤ x7) (h29 : x17 = x2 * 41) (h30 : x0 = x17 + x15) (h31 : x18 = x1 * 41) (h32 : x19 = x18 + x15) (h33 : x20 = x19 - x3) : x0 < (4100 : Nat) := by omega
theorem o19_370 {x0 x1 x2 x3 x4 x5 x6 x7 x8 x9 x10 x11 x13 x14 x16 x17 x18 x19 x20 : Int} {x12 x15 : Nat} (h0 : 0 ≤ x1) (h1 : x1 ≤ 99) (h2 : 0 ≤ x2) (h3 : x2 ≤ 99) (h4 : 0 ≤ x3) (h5 : x3 ≤ 2) (h6 : 0 ≤ x4) (h7 : x4 ≤ 40) (h8 : (-1) ≤ x5) (h9 : x5 ≤ 40) (h10 : x6 = x5 + x3) (h11 : (x7 = x4 ∧ x4 ≤ x6) ∨ (x7 = x6 ∧ x6 ≤ x4)) (h12 : (-1) ≤ x8) (h13 : x8 ≤ 40) (h14 : x9 = 1) (h15 : x10 = x8 + x9) (h16 : 0 ≤ x11) (h17 : x11 ≤ 41) (h18 : 41 - x11 < ((x12 + 1 : Nat) : Int)) (h19 : x7 < x11) (h20 : (-1) ≤ x13) (h21 : x13 ≤ 40) (h22 : x13 = x8) (h23 : (x14 = x13 ∧ x7 ≤ x13) ∨ (x14 = x7 ∧ x13 ≤ x7)) (h24 : 0 ≤ x0) (h25 : x0 ≤ 41) (h26 : x3 ≤ x0) (h27 : 41 - x0 < ((x15 + 1 : Nat) : Int)) (h28 : x0 ≤ x7) (h29 : x16 = x2 * 41) (h30 : x17 = x16 + x0) (h31 : x18 = x1 * 41) (h32 : x19 = x18 + x0) (h33 : x20 = x19 - x3) (h34 : -2147483648 ≤ x0) (h35 : x0 ≤ 2147483647) (h36 : -2147483648 ≤ x1) (h37 : x1 ≤ 2147483647) (h38 : -2147483648 ≤ x2) (h39 : x2 ≤ 2147483647) (h40 : -2147483648 ≤ x3) (h41 : x3 ≤ 2147483647) (h42 : -2147483648 ≤ x4) (h43 : x4 ≤ 2147483647) (h44 : -2147483648 ≤ x5) (h45 : x5 ≤ 2147483647) (h46 : -2147483648 ≤ x6) (h47 : x6 ≤ 2147483647) (h48 : -2147483648 ≤ x7) (h49 : x7 ≤ 2147483647) (h50 : -2147483648 ≤ x8) (h51 : x8 ≤ 2147483647) (h52 : -2147483648 ≤ x9) (h53 : x9 ≤ 2147483647) (h54 : -2147483648 ≤ x10) (h55 : x10 ≤ 2147483647) (h56 : -2147483648 ≤ x11) (h57 : x11 ≤ 2147483647) (h58 : -2147483648 ≤ x13) (h59 : x13 ≤ 2147483647) (h60 : -2147483648 ≤ x14) (h61 : x14 ≤ 2147483647) (h62 : -2147483648 ≤ x16) (h63 : x16 ≤ 2147483647) (h64 : -2147483648 ≤ x17) (h65 : x17 ≤ 2147483647) (h66 : -2147483648 ≤ x18) (h67 : x18 ≤ 2147483647) (h68 : -2147483648 ≤ x19) (h69 : x19 ≤ 2147483647) (h70 : -2147483648 ≤ x20) (h71 : x20 ≤ 2147483647) : -2147483648 ≤ x0 + 1 := by omega
theorem o19_371 {x0 x1 x2 x3 x4 x5 x6 x7 x8 x9 x10 x11 x13 x14 x16 x17 x18 x19 x20 : Int} {x12 x15 : Nat} (h0 : 0 ≤ x1) (h1 : x1 ≤ 99) (h2 : 0 ≤ x2) (h3 : x2 ≤ 99) (h4 : 0 ≤ x3) (h5 : x3 ≤ 2) (h6 : 0 ≤ x4) (h7 : x4 ≤ 40) (h8 : (-1) ≤ x5) (h9 : x5 ≤ 40) (h10 : x6 = x5 + x3) (h11 : (x7 = x4 ∧ x4 ≤ x6) ∨ (x7 = x6 ∧ x6 ≤ x4)) (h12 : (-1) ≤ x8) (h13 : x8 ≤ 40) (h14 : x9 = 1) (h15 : x10 = x8 + x9) (h16 : 0 ≤ x11) (h17 : x11 ≤ 41) (h18 : 41 - x11 < ((x12 + 1 : Nat) : Int)) (h19 : x7 < x11) (h20 : (-1) ≤ x13) (h21 : x13 ≤ 40) (h22 : x13 = x8) (h23 : (x14 = x13 ∧ x7 ≤ x13) ∨ (x14 = x7 ∧ x13 ≤ x7)) (h24 : 0 ≤ x0) (h25 : x0 ≤ 41) (h26 : x3 ≤ x0) (h27 : 41 - x0 < ((x15 + 1 : Nat) : Int)) (h28 : x0 ≤ x7) (h29 : x16 = x2 * 41) (h30 : x17 = x16 + x0) (h31 : x18 = x1 * 41) (h32 : x19 = x18 + x0) (h33 : x20 = x19 - x3) (h34 : -2147483648 ≤ x0) (h35 : x0 ≤ 2147483647) (h36 : -2147483648 ≤ x1) (h37 : x1 ≤ 2147483647) (h38 : -2147483648 ≤ x2) (h39 : x2 ≤ 2147483647) (h40 : -2147483648 ≤ x3) (h41 : x3 ≤ 2147483647) (h42 : -2147483648 ≤ x4) (h43 : x4 ≤ 2147483647) (h44 : -2147483648 ≤ x5) (h45 : x5 ≤ 2147483647) (h46 : -2147483648 ≤ x6) (h47 : x6 ≤ 2147483647) (h48 : -2147483648 ≤ x7) (h49 : x7 ≤ 2147483647) (h50 : -2147483648 ≤ x8) (h51 : x8 ≤ 2147483647) (h52 : -2147483648 ≤ x9) (h53 : x9 ≤ 2147483647) (h54 : -2147483648 ≤ x10) (h55 : x10 ≤ 2147483647) (h56 : -2147483648 ≤ x11) (h57 : x11 ≤ 2147483647) (h58 : -2147483648 ≤ x13) (h59 : x13 ≤ 2147483647) (h60 : -2147483648 ≤ x14) (h61 : x14 ≤ 2147483647) (h62 : -2147483648 ≤ x16) (h63 : x16 ≤ 2147483647) (h64 : -2147483648 ≤ x17) (h65 : x17 ≤ 2147483647) (h66 : -2147483648 ≤ x18) (h67 : x18 ≤ 2147483647) (h68 : -2147483648 ≤ x19) (h69 : x19 ≤ 2147483647) (h70 : -2147483648 ≤ x20) (h71 : x20 ≤ 2147483647) : x0 + 1 ≤ 2147483647 := by omega
theorem o19_372 {x0 x2 x3 x4 x5 x6 x7 x8 x9 x10 x11 x12 x14 x15 x16 x17 x18 x19 x20 x21 : Int} {x1 x13 : Nat} (h0 : 0 ≤ x2) (h1 : x2 ≤ 99) (h2 : 0 ≤ x3) (h3 : x3 ≤ 99) (h4 : 0 ≤ x4) (h5 : x4 ≤ 2) (h6 : 0 ≤ x5) (h7 : x5 ≤ 40) (h8 : (-1) ≤ x6) (h9 : x6 ≤ 40) (h10 : x7 = x6 + x4) (h11 : (x8 = x5 ∧ x5 ≤ x7) ∨ (x8 = x7 ∧ x7 ≤ x5)) (h12 : (-1) ≤ x9) (h13 : x9 ≤ 40) (h14 : x10 = 1) (h15 : x11 = x9 + x10) (h16 : 0 ≤ x12) (h17 : x12 ≤ 41) (h18 : 41 - x12 < ((x13 + 1 : Nat) : Int)) (h19 : x8 < x12) (h20 : (-1) ≤ x14) (h21 : x14 ≤ 40) (h22 : x14 = x9) (h23 : (x15 = x14 ∧ x8 ≤ x14) ∨ (x15 = x8 ∧ x14 ≤ x8)) (h24 : 0 ≤ x16) (h25 : x16 ≤ 41) (h26 : x4 ≤ x16) (h27 : 41 - x16 < ((x1 + 1 : Nat) : Int)) (h28 : x16 ≤ x8) (h29 : x17 = x3 * 41) (h30 : x18 = x17 + x16) (h31 : x19 = x2 * 41) (h32 : x20 = x19 + x16) (h33 : x21 = x20 - x4) (h34 : x0 = x16 + 1) : 41 - x0 < (x1 : Int) := by omega
theorem o19_373 {x0 x1 x2 x3 x4 x5 x6 x7 x8 x9 x10 x11 x13 x14 x15 x17 x18 x19 x20 x21 : Int} {x12 x16 : Nat} (h0 : 0 ≤ x1) (h1 : x1 ≤ 99) (h2 : 0 ≤ x2) (h3 : x2 ≤ 99) (h4 : 0 ≤ x3) (h5 : x3 ≤ 2) (h6 : 0 ≤ x4) (h7 : x4 ≤ 40) (h8 : (-1) ≤ x5) (h9 : x5 ≤ 40) (h10 : x6 = x5 + x3) (h11 : (x7 = x4 ∧ x4 ≤ x6) ∨ (x7 = x6 ∧ x6 ≤ x4)) (h12 : (-1) ≤ x8) (h13 : x8 ≤ 40) (h14 : x9 = 1) (h15 : x10 = x8 + x9) (h16 : 0 ≤ x11) (h17 : x11 ≤ 41) (h18 : 41 - x11 < ((x12 + 1 : Nat) : Int)) (h19 : x7 < x11) (h20 : (-1) ≤ x13) (h21 : x13 ≤ 40) (h22 : x13 = x8) (h23 : (x14 = x13 ∧ x7 ≤ x13) ∨ (x14 = x7 ∧ x13 ≤ x7)) (h24 : 0 ≤ x15) (h25 : x15 ≤ 41) (h26 : x3 ≤ x15) (h27 : 41 - x15 < ((x16 + 1 : Nat) : Int)) (h28 : x15 ≤ x7) (h29 : x17 = x2 * 41) (h30 : x18 = x17 + x15) (h31 : x19 = x1 * 41) (h32 : x20 = x19 + x15) (h33 : x21 = x20 - x3) (h34 : x0 = x15 + 1) : 0 ≤ x0 := by omega
theorem o19_374 {x0 x1 x2 x3 x4 x5 x6 x7 x8 x9 x10 x11 x13 x14 x15 x17 x18 x19 x20 x21 : Int} {x12 x16 : Nat} (h0 : 0 ≤ x1) (h1 : x1 ≤ 99) (h2 : 0 ≤ x2) (h3 : x2 ≤ 99) (h4 : 0 ≤ x3) (h5 : x3 ≤ 2) (h6 : 0 ≤ x4) (h7 : x4 ≤ 40) (h8 : (-1) ≤ x5) (h9 : x5 ≤ 40) (h10 : x6 = x5 + x3) (h11 : (x7 = x4 ∧ x4 ≤ x6) ∨ (x7 = x6 ∧ x6 ≤ x4)) (h12 : (-1) ≤ x8) (h13 : x8 ≤ 40) (h14 : x9 = 1) (h15 : x10 = x8 + x9) (h16 : 0 ≤ x11) (h17 : x11 ≤ 41) (h18 : 41 - x11 < ((x12 + 1 : Nat) : Int)) (h19 : x7 < x11) (h20 : (-1) ≤ x13) (h21 : x13 ≤ 40) (h22 : x13 = x8) (h23 : (x14 = x13 ∧ x7 ≤ x13) ∨ (x14 = x7 ∧ x13 ≤ x7)) (h24 : 0 ≤ x15) (h25 : x15 ≤ 41) (h26 : x3 ≤ x15) (h27 : 41 - x15 < ((x16 + 1 : Nat) : Int)) (h28 : x15 ≤ x7) (h29 : x17 = x2 * 41) (h30 : x18 = x17 + x15) (h31 : x19 = x1 * 41) (h32 : x20 = x19 + x15) (h33 : x21 = x20 - x3) (h34 : x0 = x15 + 1) : x0 ≤ 41 := by omega
theorem o19_375 {x0 x1 x2 x3 x4 x5 x6 x7 x8 x9 x10 x11 x13 x14 x15 x17 x18 x19 x20 x21 : Int} {x12 x16 : Nat} (h0 : 0 ≤ x2) (h1 : x2 ≤ 99) (h2 : 0 ≤ x3) (h3 : x3 ≤ 99) (h4 : 0 ≤ x1) (h5 : x1 ≤ 2) (h6 : 0 ≤ x4) (h7 : x4 ≤ 40) (h8 : (-1) ≤ x5) (h9 : x5 ≤ 40) (h10 : x6 = x5 + x1) (h11 : (x7 = x4 ∧ x4 ≤ x6) ∨ (x7 = x6 ∧ x6 ≤ x4)) (h12 : (-1) ≤ x8) (h13 : x8 ≤ 40) (h14 : x9 = 1) (h15 : x10 = x8 + x9) (h16 : 0 ≤ x11) (h17 : x11 ≤ 41) (h18 : 41 - x11 < ((x12 + 1 : Nat) : Int)) (h19 : x7 < x11) (h20 : (-1) ≤ x13) (h21 : x13 ≤ 40) (h22 : x13 = x8) (h23 : (x14 = x13 ∧ x7 ≤ x13) ∨ (x14 = x7 ∧ x13 ≤ x7)) (h24 : 0 ≤ x15) (h25 : x15 ≤ 41) (h26 : x1 ≤ x15) (h27 : 41 - x15 < ((x16 + 1 : Nat) : Int)) (h28 : x15 ≤ x7) (h29 : x17 = x3 * 41) (h30 : x18 = x17 + x15) (h31 : x19 = x2 * 41) (h32 : x20 = x19 + x15) (h33 : x21 = x20 - x1) (h34 : x0 = x15 + 1) : x1 ≤ x0 := by omega
theorem o19_376 {x0 x1 x2 x3 x4 x5 x6 x7 x8 x10 x11 : Int} {x9 : Nat} (h0 : 0 ≤ x0) (h1 : x0 ≤ 2) (h2 : 0 ≤ x1) (h3 : x1 ≤ 40) (h4 : (-1) ≤ x2) (h5 : x2 ≤ 40) (h6 : x3 = x2 + x0) (h7 : (x4 = x1 ∧ x1 ≤ x3) ∨ (x4 = x3 ∧ x3 ≤ x1)) (h8 : (-1) ≤ x5) (h9 : x5 ≤ 40) (h10 : x6 = 1) (h11 : x7 = x5 + x6) (h12 : 0 ≤ x8) (h13 : x8 ≤ 41) (h14 : 41 - x8 < ((x9 + 1 : Nat) : Int)) (h15 : x4 < x8) (h16 : (-1) ≤ x10) (h17 : x10 ≤ 40) (h18 : x10 = x5) (h19 : (x11 = x10 ∧ x4 ≤ x10) ∨ (x11 = x4 ∧ x10 ≤ x4)) : 41 - x0 < (((41 - x0 + 1).toNat : Nat) : Int) := by omega
theorem o19_377 {x0 x1 x2 x3 x4 x5 x6 x7 x8 x10 x11 : Int} {x9 : Nat} (h0 : 0 ≤ x0) (h1 : x0 ≤ 2) (h2 : 0 ≤ x1) (h3 : x1 ≤ 40) (h4 : (-1) ≤ x2) (h5 : x2 ≤ 40) (h6 : x3 = x2 + x0) (h7 : (x4 = x1 ∧ x1 ≤ x3) ∨ (x4 = x3 ∧ x3 ≤ x1)) (h8 : (-1) ≤ x5) (h9 : x5 ≤ 40) (h10 : x6 = 1) (h11 : x7 = x5 + x6) (h12 : 0 ≤ x8) (h13 : x8 ≤ 41) (h14 : 41 - x8 < ((x9 + 1 : Nat) : Int)) (h15 : x4 < x8) (h16 : (-1) ≤ x10) (h17 : x10 ≤ 40) (h18 : x10 = x5) (h19 : (x11 = x10 ∧ x4 ≤ x10) ∨ (x11 = x4 ∧ x10 ≤ x4)) : 0 ≤ x0 := by omega
theorem o19_378 {x0 x1 x2 x3 x4 x5 x6 x7 x8 x10 x11 : Int} {x9 : Nat} (h0 : 0 ≤ x0) (h1 : x0 ≤ 2) (h2 : 0 ≤ x1) (h3 : x1 ≤ 40) (h4 : (-1) ≤ x2) (h5 : x2 ≤ 40) (h6 : x3 = x2 + x0) (h7 : (x4 = x1 ∧ x1 ≤ x3) ∨ (x4 = x3 ∧ x3 ≤ x1)) (h8 : (-1) ≤ x5) (h9 : x5 ≤ 40) (h10 : x6 = 1) (h11 : x7 = x5 + x6) (h12 : 0 ≤ x8) (h13 : x8 ≤ 41) (h14 : 41 - x8 < ((x9 + 1 : Nat) : Int)) (h15 : x4 < x8) (h16 : (-1) ≤ x10) (h17 : x10 ≤ 40) (h18 : x10 = x5) (h19 : (x11 = x10 ∧ x4 ≤ x10) ∨ (x11 = x4 ∧ x10 ≤ x4)) : x0 ≤ 41 := by omega
theorem o19_379 {x0 x1 x2 x3 x4 x5 x6 x7 x8 x10 x11 : Int} {x9 : Nat} (h0 : 0 ≤ x0) (h1 : x0 ≤ 2) (h2 : 0 ≤ x1) (h3 : x1 ≤ 40) (h4 : (-1) ≤ x2) (h5 : x2 ≤ 40) (h6 : x3 = x2 + x0) (h7 : (x4 = x1 ∧ x1 ≤ x3) ∨ (x4 = x3 ∧ x3 ≤ x1)) (h8 : (-1) ≤ x5) (h9 : x5 ≤ 40) (h10 : x6 = 1) (h11 : x7 = x5 + x6) (h12 : 0 ≤ x8) (h13 : x8 ≤ 41) (h14 : 41 - x8 < ((x9 + 1 : Nat) : Int)) (h15 : x4 < x8) (h16 : (-1) ≤ x10) (h17 : x10 ≤ 40) (h18 : x10 = x5) (h19 : (x11 = x10 ∧ x4 ≤ x10) ∨ (x11 = x4 ∧ x10 ≤ x4)) : x0 ≤ x0 := by omega
theorem o19_380 {x0 x1 x2 x3 x4 x5 x6 x7 : Int} {x8 : Nat} (h0 : 0 ≤ x2) (h1 : x2 ≤ 99) (h2 : 0 ≤ x3) (h3 : x3 ≤ 2) (h4 : 0 ≤ x4) (h5 : x4 ≤ 40) (h6 : (-1) ≤ x5) (h7 : x5 ≤ 40) (h8 : x6 = x5 + x3) (h9 : (x7 = x4 ∧ x4 ≤ x6) ∨ (x7 = x6 ∧ x6 ≤ x4)) (h10 : 0 ≤ x1) (h11 : x1 ≤ 41) (h12 : 41 - x1 < ((x8 + 1 : Nat) : Int)) (h13 : x1 ≤ x7) (h14 : x0 = x2 * 41) (h15 : -2147483648 ≤ x0) (h16 : x0 ≤ 2147483647) (h17 : -2147483648 ≤ x1) (h18 : x1 ≤ 2147483647) (h19 : -2147483648 ≤ x2) (h20 : x2 ≤ 2147483647) (h21 : -2147483648 ≤ x3) (h22 : x3 ≤ 2147483647) (h23 : -2147483648 ≤ x4) (h24 : x4 ≤ 2147483647) (h25 : -2147483648 ≤ x5) (h26 : x5 ≤ 2147483647) (h27 : -2147483648 ≤ x6) (h28 : x6 ≤ 2147483647) (h29 : -2147483648 ≤ x7) (h30 : x7 ≤ 2147483647) : -2147483648 ≤ x0 + x1 := by omega
theorem o19_381 {x0 x1 x2 x3 x4 x5 x6 x7 : Int} {x8 : Nat} (h0 : 0 ≤ x2) (h1 : x2 ≤ 99) (h2 : 0 ≤ x3) (h3 : x3 ≤ 2) (h4 : 0 ≤ x4) (h5 : x4 ≤ 40) (h6 : (-1) ≤ x5) (h7 : x5 ≤ 40) (h8 : x6 = x5 + x3) (h9 : (x7 = x4 ∧ x4 ≤ x6) ∨ (x7 = x6 ∧ x6 ≤ x4)) (h10 : 0 ≤ x1) (h11 : x1 ≤ 41) (h12 : 41 - x1 < ((x8 + 1 : Nat) : Int)) (h13 : x1 ≤ x7) (h14 : x0 = x2 * 41) (h15 : -2147483648 ≤ x0) (h16 : x0 ≤ 2147483647) (h17 : -2147483648 ≤ x1) (h18 : x1 ≤ 2147483647) (h19 : -2147483648 ≤ x2) (h20 : x2 ≤ 2147483647) (h21 : -2147483648 ≤ x3) (h22 : x3 ≤ 2147483647) (h23 : -2147483648 ≤ x4) (h24 : x4 ≤ 2147483647) (h25 : -2147483648 ≤ x5) (h26 : x5 ≤ 2147483647) (h27 : -2147483648 ≤ x6) (h28 : x6 ≤ 2147483647) (h29 : -2147483648 ≤ x7) (h30 : x7 ≤ 2147483647) : x0 + x1 ≤ 2147483647 := by omega
theorem o19_382 {x0 x1 x2 x3 x4 x5 x6 x7 x9 : Int} {x8 : Nat} (h0 : 0 ≤ x1) (h1 : x1 ≤ 99) (h2 : 0 ≤ x2) (h3 : x2 ≤ 2) (h4 : 0 ≤ x3) (h5 : x3 ≤ 40) (h6 : (-1) ≤ x4) (h7 : x4 ≤ 40) (h8 : x5 = x4 + x2) (h9 : (x6 = x3 ∧ x3 ≤ x5) ∨ (x6 = x5 ∧ x5 ≤ x3)) (h10 : 0 ≤ x7) (h11 : x7 ≤ 41) (h12 : 41 - x7 < ((x8 + 1 : Nat) : Int)) (h13 : x7 ≤ x6) (h14 : x9 = x1 * 41) (h15 : x0 = x9 + x7) : 0 ≤ x0 := by omega
theorem o19_383 {x0 x1 x2 x3 x4 x5 x6 x7 x9 : Int} {x8 : Nat} (h0 : 0 ≤ x1) (h1 : x1 ≤ 99) (h2 : 0 ≤ x2) (h3 : x2 ≤ 2) (h4 : 0 ≤ x3) (h5 : x3 ≤ 40) (h6 : (-1) ≤ x4) (h7 : x4 ≤ 40) (h8 : x5 = x4 + x2) (h9 : (x6 = x3 ∧ x3 ≤ x5) ∨ (x6 = x5 ∧ x5 ≤ x3)) (h10 : 0 ≤ x7) (h11 : x7 ≤ 41) (h12 : 41 - x7 < ((x8 + 1 : Nat) : Int)) (h13 : x7 ≤ x6) (h14 : x9 = x1 * 41) (h15 : x0 = x9 + x7) : x0 < (4100 : Nat) := by omega
theorem o19_384 {x0 x1 x2 x3 x4 x5 x6 x8 x9 : Int} {x7 : Nat} (h0 : 0 ≤ x1) (h1 : x1 ≤ 99) (h2 : 0 ≤ x2) (h3 : x2 ≤ 2) (h4 : 0 ≤ x3) (h5 : x3 ≤ 40) (h6 : (-1) ≤ x4) (h7 : x4 ≤ 40) (h8 : x5 = x4 + x2) (h9 : (x6 = x3 ∧ x3 ≤ x5) ∨ (x6 = x5 ∧ x5 ≤ x3)) (h10 : 0 ≤ x0) (h11 : x0 ≤ 41) (h12 : 41 - x0 < ((x7 + 1 : Nat) : Int)) (h13 : x0 ≤ x6) (h14 : x8 = x1 * 41) (h15 : x9 = x8 + x0) (h16 : -2147483648 ≤ x0) (h17 : x0 ≤ 2147483647) (h18 : -2147483648 ≤ x1) (h19 : x1 ≤ 2147483647) (h20 : -2147483648 ≤ x2) (h21 : x2 ≤ 2147483647) (h22 : -2147483648 ≤ x3) (h23 : x3 ≤ 2147483647) (h24 : -2147483648 ≤ x4) (h25 : x4 ≤ 2147483647) (h26 : -2147483648 ≤ x5) (h27 : x5 ≤ 2147483647) (h28 : -2147483648 ≤ x6) (h29 : x6 ≤ 2147483647) (h30 : -2147483648 ≤ x8) (h31 : x8 ≤ 2147483647) (h32 : -2147483648 ≤ x9) (h33 : x9 ≤ 2147483647) : -2147483648 ≤ x0 + 1 := by omega
theorem o19_385 {x0 x1 x2 x3 x4 x5 x6 x8 x9 : Int} {x7 : Nat} (h0 : 0 ≤ x1) (h1 : x1 ≤ 99) (h2 : 0 ≤ x2) (h3 : x2 ≤ 2) (h4 : 0 ≤ x3) (h5 : x3 ≤ 40) (h6 : (-1) ≤ x4) (h7 : x4 ≤ 40) (h8 : x5 = x4 + x2) (h9 : (x6 = x3 ∧ x3 ≤ x5) ∨ (x6 = x5 ∧ x5 ≤ x3)) (h10 : 0 ≤ x0) (h11 : x0 ≤ 41) (h12 : 41 - x0 < ((x7 + 1 : Nat) : Int)) (h13 : x0 ≤ x6) (h14 : x8 = x1 * 41) (h15 : x9 = x8 + x0) (h16 : -2147483648 ≤ x0) (h17 : x0 ≤ 2147483647) (h18 : -2147483648 ≤ x1) (h19 : x1 ≤ 2147483647) (h20 : -2147483648 ≤ x2) (h21 : x2 ≤ 2147483647) (h22 : -2147483648 ≤ x3) (h23 : x3 ≤ 2147483647) (h24 : -2147483648 ≤ x4) (h25 : x4 ≤ 2147483647) (h26 : -2147483648 ≤ x5) (h27 : x5 ≤ 2147483647) (h28 : -2147483648 ≤ x6) (h29 : x6 ≤ 2147483647) (h30 : -2147483648 ≤ x8) (h31 : x8 ≤ 2147483647) (h32 : -2147483648 ≤ x9) (h33 : x9 ≤ 2147483647) : x0 + 1 ≤ 2147483647 := by omega
theorem o19_386 {x0 x2 x3 x4 x5 x6 x7 x8 x9 x10 : Int} {x1 : Nat} (h0 : 0 ≤ x2) (h1 : x2 ≤ 99) (h2 : 0 ≤ x3) (h3 : x3 ≤ 2) (h4 : 0 ≤ x4) (h5 : x4 ≤ 40) (h6 : (-1) ≤ x5) (h7 : x5 ≤ 40) (h8 : x6 = x5 + x3) (h9 : (x7 = x4 ∧ x4 ≤ x6) ∨ (x7 = x6 ∧ x6 ≤ x4)) (h10 : 0 ≤ x8) (h11 : x8 ≤ 41) (h12 : 41 - x8 < ((x1 + 1 : Nat) : Int)) (h13 : x8 ≤ x7) (h14 : x9 = x2 * 41) (h15 : x10 = x9 + x8) (h16 : x0 = x8 + 1) : 41 - x0 < (x1 : Int) := by omega
theorem o19_387 {x0 x1 x2 x3 x4 x5 x6 x7 x9 x10 : Int} {x8 : Nat} (h0 : 0 ≤ x1) (h1 : x1 ≤ 99) (h2 : 0 ≤ x2) (h3 : x2 ≤ 2) (h4 : 0 ≤ x3) (h5 : x3 ≤ 40) (h6 : (-1) ≤ x4) (h7 : x4 ≤ 40) (h8 : x5 = x4 + x2) (h9 : (x6 = x3 ∧ x3 ≤ x5) ∨ (x6 = x5 ∧ x5 ≤ x3)) (h10 : 0 ≤ x7) (h11 : x7 ≤ 41) (h12 : 41 - x7 < ((x8 + 1 : Nat) : Int)) (h13 : x7 ≤ x6) (h14 : x9 = x1 * 41) (h15 : x10 = x9 + x7) (h16 : x0 = x7 + 1) : 0 ≤ x0 := by omega
theorem o19_388 {x0 x1 x2 x3 x4 x5 x6 x7 x9 x10 : Int} {x8 : Nat} (h0 : 0 ≤ x1) (h1 : x1 ≤ 99) (h2 : 0 ≤ x2) (h3 : x2 ≤ 2) (h4 : 0 ≤ x3) (h5 : x3 ≤ 40) (h6 : (-1) ≤ x4) (h7 : x4 ≤ 40) (h8 : x5 = x4 + x2) (h9 : (x6 = x3 ∧ x3 ≤ x5) ∨ (x6 = x5 ∧ x5 ≤ x3)) (h10 : 0 ≤ x7) (h11 : x7 ≤ 41) (h12 : 41 - x7 < ((x8 + 1 : Nat) : Int)) (h13 : x7 ≤ x6) (h14 : x9 = x1 * 41) (h15 : x10 = x9 + x7) (h16 : x0 = x7 + 1) : x0 ≤ 41 := by omega
theorem o19_389 {x0 x1 x2 : Int} (h0 : (-1) ≤ x1) (h1 : x1 ≤ 40) (h2 : x2 = 1) (h3 : x0 = x1 + x2) : 41 - x0 < (((41 - x0 + 1).toNat : Nat) : Int) := by omega
theorem o19_390 {x0 x1 x2 : Int} (h0 : (-1) ≤ x1) (h1 : x1 ≤ 40) (h2 : x2 = 1) (h3 : x0 = x1 + x2) : 0 ≤ x0 := by omega
theorem o19_391 {x0 x1 x2 : Int} (h0 : (-1) ≤ x1) (h1 : x1 ≤ 40) (h2 : x2 = 1) (h3 : x0 = x1 + x2) : x0 ≤ 41 := by omega
theorem o19_392 {x0 : Int} (h0 : x0 = (-1)) : (-1) ≤ x0 := by omega
theorem o19_393 {x0 : Int} (h0 : x0 = (-1)) : x0 ≤ 40 := by omega
theorem o19_394 {x0 : Int} (h0 : 0 ≤ x0) (h1 : x0 ≤ 25) (h2 : -2147483648 ≤ x0) (h3 : x0 ≤ 2147483647) : -2147483648 ≤ 4 * x0 := by omega
theorem o19_395 {x0 : Int} (h0 : 0 ≤ x0) (h1 : x0 ≤ 25) (h2 : -2147483648 ≤ x0) (h3 : x0 ≤ 2147483647) : 4 * x0 ≤ 2147483647 := by omega
theorem o19_396 {x0 : Int} (h0 : 0 ≤ x0) (h1 : x0 ≤ 100) (h2 : 100 - x0 < 0) : False := by omega
theorem o19_397 {x0 x1 x2 : Int} {x3 : Nat} (h0 : 0 ≤ x1) (h1 : x1 ≤ 25) (h2 : x2 = 4 * x1) (h3 : 0 ≤ x0) (h4 : x0 ≤ 100) (h5 : 100 - x0 < ((x3 + 1 : Nat) : Int)) (h6 : x0 < x2) (h7 : -2147483648 ≤ x0) (h8 : x0 ≤ 2147483647) (h9 : -2147483648 ≤ x1) (h10 : x1 ≤ 2147483647) (h11 : -2147483648 ≤ x2) (h12 : x2 ≤ 2147483647) : -2147483648 ≤ x0 + 1 := by omega
theorem o19_398 {x0 x1 x2 : Int} {x3 : Nat} (h0 : 0 ≤ x1) (h1 : x1 ≤ 25) (h2 : x2 = 4 * x1) (h3 : 0 ≤ x0) (h4 : x0 ≤ 100) (h5 : 100 - x0 < ((x3 + 1 : Nat) : Int)) (h6 : x0 < x2) (h7 : -2147483648 ≤ x0) (h8 : x0 ≤ 2147483647) (h9 : -2147483648 ≤ x1) (h10 : x1 ≤ 2147483647) (h11 : -2147483648 ≤ x2) (h12 : x2 ≤ 2147483647) : x0 + 1 ≤ 2147483647 := by omega
theorem o19_399 {x0 x2 x3 x4 : Int} {x1 : Nat} (h0 : 0 ≤ x2) (h1 : x2 ≤ 25) (h2 : x3 = 4 * x2) (h3 : 0 ≤ x4) (h4 : x4 ≤ 100) (h5 : 100 - x4 < ((x1 + 1 : Nat) : Int)) (h6 : x4 < x3) (h7 : x0 = x4 + 1) : 100 - x0 < (x1 : Int) := by omega
theorem o19_400 {x0 x1 x2 x3 : Int} {x4 : Nat} (h0 : 0 ≤ x1) (h1 : x1 ≤ 25) (h2 : x2 = 4 * x1) (h3 : 0 ≤ x3) (h4 : x3 ≤ 100) (h5 : 100 - x3 < ((x4 + 1 : Nat) : Int)) (h6 : x3 < x2) (h7 : x0 = x3 + 1) : 0 ≤ x0 := by omega
theorem o19_401 {x0 x1 x2 x3 : Int} {x4 : Nat} (h0 : 0 ≤ x1) (h1 : x1 ≤ 25) (h2 : x2 = 4 * x1) (h3 : 0 ≤ x3) (h4 : x3 ≤ 100) (h5 : 100 - x3 < ((x4 + 1 : Nat) : Int)) (h6 : x3 < x2) (h7 : x0 = x3 + 1) : x0 ≤ 100 := by omega
theorem o19_402 {x0 x1 x2 : Int} {x3 : Nat} (h0 : 0 ≤ x1) (h1 : x1 ≤ 25) (h2 : x2 = 4 * x1) (h3 : 0 ≤ x0) (h4 : x0 ≤ 100) (h5 : 100 - x0 < ((x3 + 1 : Nat) : Int)) (h6 : x0 < x2) : 0 ≤ x0 := by omega
theorem o19_403 {x0 x1 x2 : Int} {x3 : Nat} (h0 : 0 ≤ x1) (h1 : x1 ≤ 25) (h2 : x2 = 4 * x1) (h3 : 0 ≤ x0) (h4 : x0 ≤ 100) (h5 : 100 - x0 < ((x3 + 1 : Nat) : Int)) (h6 : x0 < x2) : x0 < (100 : Nat) := by omega
theorem o19_404 {x0 x1 x2 : Int} {x3 : Nat} (h0 : 0 ≤ x1) (h1 : x1 ≤ 25) (h2 : x2 = 4 * x1) (h3 : 0 ≤ x0) (h4 : x0 ≤ 100) (h5 : 100 - x0 < ((x3 + 1 : Nat) : Int)) (h6 : x0 < x2) : x0 ≤ 99 := by omega
theorem o19_405 {x0 x1 x2 : Int} (h0 : 0 ≤ x0) (h1 : x0 ≤ 19) (h2 : x1 = 1) (h3 : x2 = x0 + x1) : 0 ≤ x0 := by omega
theorem o19_406 {x0 x1 x2 : Int} (h0 : 0 ≤ x0) (h1 : x0 ≤ 19) (h2 : x1 = 1) (h3 : x2 = x0 + x1) : x0 ≤ 239 := by omega
theorem o19_407 {x0 x1 x2 : Int} (h0 : 0 ≤ x0) (h1 : x0 ≤ 19) (h2 : x1 = 1) (h3 : x2 = x0 + x1) : x0 ≤ 19 := by omega
theorem o19_408 {x0 x1 : Int} (h0 : 0 ≤ x1) (h1 : x1 ≤ 40) (h2 : (-1) ≤ x0) (h3 : x0 ≤ 2) (h4 : 0 ≤ x0) (h5 : x0 ≤ x1) : 0 ≤ x0 := by omega
theorem o19_409 {x0 x1 : Int} (h0 : 0 ≤ x1) (h1 : x1 ≤ 40) (h2 : (-1) ≤ x0) (h3 : x0 ≤ 2) (h4 : 0 ≤ x0) (h5 : x0 ≤ x1) : x0 ≤ 2 := by omega
theorem o19_410 {x0 x1 : Int} (h0 : 0 ≤ x0) (h1 : x0 ≤ 40) (h2 : (-1) ≤ x1) (h3 : x1 ≤ 2) (h4 : 0 ≤ x1) (h5 : x1 ≤ x0) : 0 ≤ x0 := by omega
theorem o19_411 {x0 x1 : Int} (h0 : 0 ≤ x0) (h1 : x0 ≤ 40) (h2 : (-1) ≤ x1) (h3 : x1 ≤ 2) (h4 : 0 ≤ x1) (h5 : x1 ≤ x0) : x0 ≤ 40 := by omega
theorem o19_412 {x0 : Int} (h0 : x0 = 0) : 100 - x0 < (((100 - x0 + 1).toNat : Nat) : Int) := by omega
theorem o19_413 {x0 : Int} (h0 : x0 = 0) : x0 ≤ 100 := by omega
theorem o19_414 {x0 : Int} (h0 : x0 = 0) : x0 < (2 : Nat) := by omega
theorem o19_415 {x0 : Int} (h0 : x0 = 0) : (x0).toNat < 2 := by omega
theorem o19_416 {x0 : Int} (h0 : x0 = 0) : (-1) ≤ x0 := by omega
theorem o19_417 {x0 : Int} (h0 : x0 = 0) : x0 ≤ 40 := by omega
theorem o19_418 {x0 x1 : Int} (h0 : 0 ≤ x1) (h1 : x1 ≤ 99) (h2 : x0 = x1 * 41) : 0 ≤ x0 := by omega
theorem o19_419 {x0 x1 : Int} (h0 : 0 ≤ x1) (h1 : x1 ≤ 99) (h2 : x0 = x1 * 41) : x0 < (4100 : Nat) := by omega
theorem o19_420 {x0 : Int} (h0 : 0 ≤ x0) (h1 : x0 ≤ 20) (h2 : 20 - x0 < 0) : False := by omega
theorem o19_421 {x0 : Int} (h0 : 0 ≤ x0) (h1 : x0 ≤ 24) (h2 : -2147483648 ≤ x0) (h3 : x0 ≤ 2147483647) : -2147483648 ≤ 4 * x0 := by omega
theorem o19_422 {x0 : Int} (h0 : 0 ≤ x0) (h1 : x0 ≤ 24) (h2 : -2147483648 ≤ x0) (h3 : x0 ≤ 2147483647) : 4 * x0 ≤ 2147483647 := by omega
theorem o19_423 {x0 x1 : Int} (h0 : 0 ≤ x0) (h1 : x0 ≤ 24) (h2 : x1 = 4 * x0) (h3 : -2147483648 ≤ x0) (h4 : x0 ≤ 2147483647) (h5 : -2147483648 ≤ x1) (h6 : x1 ≤ 2147483647) : -2147483648 ≤ 4 * x0 := by omega
theorem o19_424 {x0 x1 : Int} (h0 : 0 ≤ x0) (h1 : x0 ≤ 24) (h2 : x1 = 4 * x0) (h3 : -2147483648 ≤ x0) (h4 : x0 ≤ 2147483647) (h5 : -2147483648 ≤ x1) (h6 : x1 ≤ 2147483647) : 4 * x0 ≤ 2147483647 := by omega
theorem o19_425 {x0 x1 x2 x3 : Int} (h0 : 0 ≤ x2) (h1 : x2 ≤ 24) (h2 : x3 = 4 * x2) (h3 : x0 = 4 * x2) (h4 : x1 = 4) (h5 : -2147483648 ≤ x0) (h6 : x0 ≤ 2147483647) (h7 : -2147483648 ≤ x1) (h8 : x1 ≤ 2147483647) (h9 : -2147483648 ≤ x2) (h10 : x2 ≤ 2147483647) (h11 : -2147483648 ≤ x3) (h12 : x3 ≤ 2147483647) : -2147483648 ≤ x0 + x1 := by omega
theorem o19_426 {x0 x1 x2 x3 : Int} (h0 : 0 ≤ x2) (h1 : x2 ≤ 24) (h2 : x3 = 4 * x2) (h3 : x0 = 4 * x2) (h4 : x1 = 4) (h5 : -2147483648 ≤ x0) (h6 : x0 ≤ 2147483647) (h7 : -2147483648 ≤ x1) (h8 : x1 ≤ 2147483647) (h9 : -2147483648 ≤ x2) (h10 : x2 ≤ 2147483647) (h11 : -2147483648 ≤ x3) (h12 : x3 ≤ 2147483647) : x0 + x1 ≤ 2147483647 := by omega
theorem o19_427 {x0 x1 x2 x4 x5 x6 : Int} {x3 : Nat} (h0 : 0 ≤ x1) (h1 : x1 ≤ 24) (h2 : x2 = 4 * x1) (h3 : 0 ≤ x0) (h4 : x0 ≤ 100) (h5 : 100 - x0 < ((x3 + 1 : Nat) : Int)) (h6 : x4 = 4 * x1) (h7 : x5 = 4) (h8 : x6 = x4 + x5) (h9 : x0 < x6) : 0 ≤ x0 := by omega
theorem o19_428 {x0 x1 x2 x4 x5 x6 : Int} {x3 : Nat} (h0 : 0 ≤ x1) (h1 : x1 ≤ 24) (h2 : x2 = 4 * x1) (h3 : 0 ≤ x0) (h4 : x0 ≤ 100) (h5 : 100 - x0 < ((x3 + 1 : Nat) : Int)) (h6 : x4 = 4 * x1) (h7 : x5 = 4) (h8 : x6 = x4 + x5) (h9 : x0 < x6) : x0 < (100 : Nat) := by omega
theorem o19_429 {x0 x1 x2 x4 x5 x6 : Int} {x3 : Nat} (h0 : 0 ≤ x1) (h1 : x1 ≤ 24) (h2 : x2 = 4 * x1) (h3 : 0 ≤ x0) (h4 : x0 ≤ 100) (h5 : 100 - x0 < ((x3 + 1 : Nat) : Int)) (h6 : x4 = 4 * x1) (h7 : x5 = 4) (h8 : x6 = x4 + x5) (h9 : x0 < x6) (h10 : -2147483648 ≤ x0) (h11 : x0 ≤ 2147483647) (h12 : -2147483648 ≤ x1) (h13 : x1 ≤ 2147483647) (h14 : -2147483648 ≤ x2) (h15 : x2 ≤ 2147483647) (h16 : -2147483648 ≤ x4) (h17 : x4 ≤ 2147483647) (h18 : -2147483648 ≤ x5) (h19 : x5 ≤ 2147483647) (h20 : -2147483648 ≤ x6) (h21 : x6 ≤ 2147483647) : -2147483648 ≤ x0 + 1 := by omega
theorem o19_430 {x0 x1 x2 x4 x5 x6 : Int} {x3 : Nat} (h0 : 0 ≤ x1) (h1 : x1 ≤ 24) (h2 : x2 = 4 * x1) (h3 : 0 ≤ x0) (h4 : x0 ≤ 100) (h5 : 100 - x0 < ((x3 + 1 : Nat) : Int)) (h6 : x4 = 4 * x1) (h7 : x5 = 4) (h8 : x6 = x4 + x5) (h9 : x0 < x6) (h10 : -2147483648 ≤ x0) (h11 : x0 ≤ 2147483647) (h12 : -2147483648 ≤ x1) (h13 : x1 ≤ 2147483647) (h14 : -2147483648 ≤ x2) (h15 : x2 ≤ 2147483647) (h16 : -2147483648 ≤ x4) (h17 : x4 ≤ 2147483647) (h18 : -2147483648 ≤ x5) (h19 : x5 ≤ 2147483647) (h20 : -2147483648 ≤ x6) (h21 : x6 ≤ 2147483647) : x0 + 1 ≤ 2147483647 := by omega
theorem o19_431 {x0 x2 x3 x4 x5 x6 x7 : Int} {x1 : Nat} (h0 : 0 ≤ x2) (h1 : x2 ≤ 24) (h2 : x3 = 4 * x2) (h3 : 0 ≤ x4) (h4 : x4 ≤ 100) (h5 : 100 - x4 < ((x1 + 1 : Nat) : Int)) (h6 : x5 = 4 * x2) (h7 : x6 = 4) (h8 : x7 = x5 + x6) (h9 : x4 < x7) (h10 : x0 = x4 + 1) : 100 - x0 < (x1 : Int) := by omega
theorem o19_432 {x0 x1 x2 x3 x5 x6 x7 : Int} {x4 : Nat} (h0 : 0 ≤ x1) (h1 : x1 ≤ 24) (h2 : x2 = 4 * x1) (h3 : 0 ≤ x3) (h4 : x3 ≤ 100) (h5 : 100 - x3 < ((x4 + 1 : Nat) : Int)) (h6 : x5 = 4 * x1) (h7 : x6 = 4) (h8 : x7 = x5 + x6) (h9 : x3 < x7) (h10 : x0 = x3 + 1) : 0 ≤ x0 := by omega
theorem o19_433 {x0 x1 x2 x3 x5 x6 x7 : Int} {x4 : Nat} (h0 : 0 ≤ x1) (h1 : x1 ≤ 24) (h2 : x2 = 4 * x1) (h3 : 0 ≤ x3) (h4 : x3 ≤ 100) (h5 : 100 - x3 < ((x4 + 1 : Nat) : Int)) (h6 : x5 = 4 * x1) (h7 : x6 = 4) (h8 : x7 = x5 + x6) (h9 : x3 < x7) (h10 : x0 = x3 + 1) : x0 ≤ 100 := by omega
theorem o19_434 {x0 x1 x2 x4 x5 x6 : Int} {x3 : Nat} (h0 : 0 ≤ x1) (h1 : x1 ≤ 24) (h2 : x2 = 4 * x1) (h3 : 0 ≤ x0) (h4 : x0 ≤ 100) (h5 : 100 - x0 < ((x3 + 1 : Nat) : Int)) (h6 : x4 = 4 * x1) (h7 : x5 = 4) (h8 : x6 = x4 + x5) (h9 : x0 < x6) (h10 : -2147483648 ≤ x0) (h11 : x0 ≤ 2147483647) (h12 : -2147483648 ≤ x1) (h13 : x1 ≤ 2147483647) (h14 : -2147483648 ≤ x2) (h15 : x2 ≤ 2147483647) (h16 : -2147483648 ≤ x4) (h17 : x4 ≤ 2147483647) (h18 : -2147483648 ≤ x5) (h19 : x5 ≤ 2147483647) (h20 : -2147483648 ≤ x6) (h21 : x6 ≤ 2147483647) : -2147483648 ≤ x0 * 41 := by omega
theorem o19_435 {x0 x1 x2 x4 x5 x6 : Int} {x3 : Nat} (h0 : 0 ≤ x1) (h1 : x1 ≤ 24) (h2 : x2 = 4 * x1) (h3 : 0 ≤ x0) (h4 : x0 ≤ 100) (h5 : 100 - x0 < ((x3 + 1 : Nat) : Int)) (h6 : x4 = 4 * x1) (h7 : x5 = 4) (h8 : x6 = x4 + x5) (h9 : x0 < x6) (h10 : -2147483648 ≤ x0) (h11 : x0 ≤ 2147483647) (h12 : -2147483648 ≤ x1) (h13 : x1 ≤ 2147483647) (h14 : -2147483648 ≤ x2) (h15 : x2 ≤ 2147483647) (h16 : -2147483648 ≤ x4) (h17 : x4 ≤ 2147483647) (h18 : -2147483648 ≤ x5) (h19 : x5 ≤ 2147483647) (h20 : -2147483648 ≤ x6) (h21 : x6 ≤ 2147483647) : x0 * 41 ≤ 2147483647 := by omega
theorem o19_436 {x0 x1 x2 x3 x4 x6 x7 x8 x10 : Int} {x5 x9 : Nat} (h0 : 0 ≤ x2) (h1 : x2 ≤ 24) (h2 : x3 = 4 * x2) (h3 : 0 ≤ x4) (h4 : x4 ≤ 100) (h5 : 100 - x4 < ((x5 + 1 : Nat) : Int)) (h6 : x6 = 4 * x2) (h7 : x7 = 4) (h8 : x8 = x6 + x7) (h9 : x4 < x8) (h10 : 0 ≤ x1) (h11 : x1 ≤ 41) (h12 : 41 - x1 < ((x9 + 1 : Nat) : Int)) (h13 : (-1) ≤ x10) (h14 : x10 ≤ 40) (h15 : x1 ≤ x10) (h16 : x0 = x4 * 41) (h17 : -2147483648 ≤ x0) (h18 : x0 ≤ 2147483647) (h19 : -2147483648 ≤ x1) (h20 : x1 ≤ 2147483647) (h21 : -2147483648 ≤ x2) (h22 : x2 ≤ 2147483647) (h23 : -2147483648 ≤ x3) (h24 : x3 ≤ 2147483647) (h25 : -2147483648 ≤ x4) (h26 : x4 ≤ 2147483647) (h27 : -2147483648 ≤ x6) (h28 : x6 ≤ 2147483647) (h29 : -2147483648 ≤ x7) (h30 : x7 ≤ 2147483647) (h31 : -2147483648 ≤ x8) (h32 : x8 ≤ 2147483647) (h33 : -2147483648 ≤ x10) (h34 : x10 ≤ 2147483647) : -2147483648 ≤ x0 + x1 := by omega
theorem o19_437 {x0 x1 x2 x3 x4 x6 x7 x8 x10 : Int} {x5 x9 : Nat} (h0 : 0 ≤ x2) (h1 : x2 ≤ 24) (h2 : x3 = 4 * x2) (h3 : 0 ≤ x4) (h4 : x4 ≤ 100) (h5 : 100 - x4 < ((x5 + 1 : Nat) : Int)) (h6 : x6 = 4 * x2) (h7 : x7 = 4) (h8 : x8 = x6 + x7) (h9 : x4 < x8) (h10 : 0 ≤ x1) (h11 : x1 ≤ 41) (h12 : 41 - x1 < ((x9 + 1 : Nat) : Int)) (h13 : (-1) ≤ x10) (h14 : x10 ≤ 40) (h15 : x1 ≤ x10) (h16 : x0 = x4 * 41) (h17 : -2147483648 ≤ x0) (h18 : x0 ≤ 2147483647) (h19 : -2147483648 ≤ x1) (h20 : x1 ≤ 2147483647) (h21 : -2147483648 ≤ x2) (h22 : x2 ≤ 2147483647) (h23 : -2147483648 ≤ x3) (h24 : x3 ≤ 2147483647) (h25 : -2147483648 ≤ x4) (h26 : x4 ≤ 2147483647) (h27 : -2147483648 ≤ x6) (h28 : x6 ≤ 2147483647) (h29 : -2147483648 ≤ x7) (h30 : x7 ≤ 2147483647) (h31 : -2147483648 ≤ x8) (h32 : x8 ≤ 2147483647) (h33 : -2147483648 ≤ x10) (h34 : x10 ≤ 2147483647) : x0 + x1 ≤ 2147483647 := by omega
theorem o19_438 {x0 x1 x2 x3 x5 x6 x7 x8 x10 x11 : Int} {x4 x9 : Nat} (h0 : 0 ≤ x1) (h1 : x1 ≤ 24) (h2 : x2 = 4 * x1) (h3 : 0 ≤ x3) (h4 : x3 ≤ 100) (h5 : 100 - x3 < ((x4 + 1 : Nat) : Int)) (h6 : x5 = 4 * x1) (h7 : x6 = 4) (h8 : x7 = x5 + x6) (h9 : x3 < x7) (h10 : 0 ≤ x8) (h11 : x8 ≤ 41) (h12 : 41 - x8 < ((x9 + 1 : Nat) : Int)) (h13 : (-1) ≤ x10) (h14 : x10 ≤ 40) (h15 : x8 ≤ x10) (h16 : x11 = x3 * 41) (h17 : x0 = x11 + x8) : 0 ≤ x0 := by omega
theorem o19_439 {x0 x1 x2 x3 x5 x6 x7 x8 x10 x11 : Int} {x4 x9 : Nat} (h0 : 0 ≤ x1) (h1 : x1 ≤ 24) (h2 : x2 = 4 * x1) (h3 : 0 ≤ x3) (h4 : x3 ≤ 100) (h5 : 100 - x3 < ((x4 + 1 : Nat) : Int)) (h6 : x5 = 4 * x1) (h7 : x6 = 4) (h8 : x7 = x5 + x6) (h9 : x3 < x7) (h10 : 0 ≤ x8) (h11 : x8 ≤ 41) (h12 : 41 - x8 < ((x9 + 1 : Nat) : Int)) (h13 : (-1) ≤ x10) (h14 : x10 ≤ 40) (h15 : x8 ≤ x10) (h16 : x11 = x3 * 41) (h17 : x0 = x11 + x8) : x0 < (4100 : Nat) := by omega
theorem o19_440 {x0 x1 x2 x3 x5 x6 x7 x9 x10 x11 : Int} {x4 x8 : Nat} (h0 : 0 ≤ x1) (h1 : x1 ≤ 24) (h2 : x2 = 4 * x1) (h3 : 0 ≤ x3) (h4 : x3 ≤ 100) (h5 : 100 - x3 < ((x4 + 1 : Nat) : Int)) (h6 : x5 = 4 * x1) (h7 : x6 = 4) (h8 : x7 = x5 + x6) (h9 : x3 < x7) (h10 : 0 ≤ x0) (h11 : x0 ≤ 41) (h12 : 41 - x0 < ((x8 + 1 : Nat) : Int)) (h13 : (-1) ≤ x9) (h14 : x9 ≤ 40) (h15 : x0 ≤ x9) (h16 : x10 = x3 * 41) (h17 : x11 = x10 + x0) (h18 : -2147483648 ≤ x0) (h19 : x0 ≤ 2147483647) (h20 : -2147483648 ≤ x1) (h21 : x1 ≤ 2147483647) (h22 : -2147483648 ≤ x2) (h23 : x2 ≤ 2147483647) (h24 : -2147483648 ≤ x3) (h25 : x3 ≤ 2147483647) (h26 : -2147483648 ≤ x5) (h27 : x5 ≤ 2147483647) (h28 : -2147483648 ≤ x6) (h29 : x6 ≤ 2147483647) (h30 : -2147483648 ≤ x7) (h31 : x7 ≤ 2147483647) (h32 : -2147483648 ≤ x9) (h33 : x9 ≤ 2147483647) (h34 : -2147483648 ≤ x10) (h35 : x10 ≤ 2147483647) (h36 : -2147483648 ≤ x11) (h37 : x11 ≤ 2147483647) : -2147483648 ≤ x0 + 1 := by omega
theorem o19_441 {x0 x1 x2 x3 x5 x6 x7 x9 x10 x11 : Int} {x4 x8 : Nat} (h0 : 0 ≤ x1) (h1 : x1 ≤ 24) (h2 : x2 = 4 * x1) (h3 : 0 ≤ x3) (h4 : x3 ≤ 100) (h5 : 100 - x3 < ((x4 + 1 : Nat) : Int)) (h6 : x5 = 4 * x1) (h7 : x6 = 4) (h8 : x7 = x5 + x6) (h9 : x3 < x7) (h10 : 0 ≤ x0) (h11 : x0 ≤ 41) (h12 : 41 - x0 < ((x8 + 1 : Nat) : Int)) (h13 : (-1) ≤ x9) (h14 : x9 ≤ 40) (h15 : x0 ≤ x9) (h16 : x10 = x3 * 41) (h17 : x11 = x10 + x0) (h18 : -2147483648 ≤ x0) (h19 : x0 ≤ 2147483647) (h20 : -2147483648 ≤ x1) (h21 : x1 ≤ 2147483647) (h22 : -2147483648 ≤ x2) (h23 : x2 ≤ 2147483647) (h24 : -2147483648 ≤ x3) (h25 : x3 ≤ 2147483647) (h26 : -2147483648 ≤ x5) (h27 : x5 ≤ 2147483647) (h28 : -2147483648 ≤ x6) (h29 : x6 ≤ 2147483647) (h30 : -2147483648 ≤ x7) (h31 : x7 ≤ 2147483647) (h32 : -2147483648 ≤ x9) (h33 : x9 ≤ 2147483647) (h34 : -2147483648 ≤ x10) (h35 : x10 ≤ 2147483647) (h36 : -2147483648 ≤ x11) (h37 : x11 ≤ 2147483647) : x0 + 1 ≤ 2147483647 := by omega
theorem o19_442 {x0 x2 x3 x4 x6 x7 x8 x9 x10 x11 x12 : Int} {x1 x5 : Nat} (h0 : 0 ≤ x2) (h1 : x2 ≤ 24) (h2 : x3 = 4 * x2) (h3 : 0 ≤ x4) (h4 : x4 ≤ 100) (h5 : 100 - x4 < ((x5 + 1 : Nat) : Int)) (h6 : x6 = 4 * x2) (h7 : x7 = 4) (h8 : x8 = x6 + x7) (h9 : x4 < x8) (h10 : 0 ≤ x9) (h11 : x9 ≤ 41) (h12 : 41 - x9 < ((x1 + 1 : Nat) : Int)) (h13 : (-1) ≤ x10) (h14 : x10 ≤ 40) (h15 : x9 ≤ x10) (h16 : x11 = x4 * 41) (h17 : x12 = x11 + x9) (h18 : x0 = x9 + 1) : 41 - x0 < (x1 : Int) := by omega
theorem o19_443 {x0 x1 x2 x3 x5 x6 x7 x8 x10 x11 x12 : Int} {x4 x9 : Nat} (h0 : 0 ≤ x1) (h1 : x1 ≤ 24) (h2 : x2 = 4 * x1) (h3 : 0 ≤ x3) (h4 : x3 ≤ 100) (h5 : 100 - x3 < ((x4 + 1 : Nat) : Int)) (h6 : x5 = 4 * x1) (h7 : x6 = 4) (h8 : x7 = x5 + x6) (h9 : x3 < x7) (h10 : 0 ≤ x8) (h11 : x8 ≤ 41) (h12 : 41 - x8 < ((x9 + 1 : Nat) : Int)) (h13 : (-1) ≤ x10) (h14 : x10 ≤ 40) (h15 : x8 ≤ x10) (h16 : x11 = x3 * 41) (h17 : x12 = x11 + x8) (h18 : x0 = x8 + 1) : 0 ≤ x0 := by omega
theorem o19_444 {x0 x1 x2 x3 x5 x6 x7 x8 x10 x11 x12 : Int} {x4 x9 : Nat} (h0 : 0 ≤ x1) (h1 : x1 ≤ 24) (h2 : x2 = 4 * x1) (h3 : 0 ≤ x3) (h4 : x3 ≤ 100) (h5 : 100 - x3 < ((x4 + 1 : Nat) : Int)) (h6 : x5 = 4 * x1) (h7 : x6 = 4) (h8 : x7 = x5 + x6) (h9 : x3 < x7) (h10 : 0 ≤ x8) (h11 : x8 ≤ 41) (h12 : 41 - x8 < ((x9 + 1 : Nat) : Int)) (h13 : (-1) ≤ x10) (h14 : x10 ≤ 40) (h15 : x8 ≤ x10) (h16 : x11 = x3 * 41) (h17 : x12 = x11 + x8) (h18 : x0 = x8 + 1) : x0 ≤ 41 := by omega
theorem o19_445 {x0 : Int} (h0 : x0 = 0) : 41 - x0 < (((41 - x0 + 1).toNat : Nat) : Int) := by omega
theorem o19_446 {x0 : Int} (h0 : x0 = 0) : x0 ≤ 41 := by omega
theorem o19_447 {x0 x1 : Int} (h0 : 0 ≤ x1) (h1 : x1 ≤ 24) (h2 : x0 = 4 * x1) : 100 - x0 < (((100 - x0 + 1).toNat : Nat) : Int) := by omega
theorem o19_448 {x0 x1 : Int} (h0 : 0 ≤ x1) (h1 : x1 ≤ 24) (h2 : x0 = 4 * x1) : 0 ≤ x0 := by omega
theorem o19_449 {x0 x1 : Int} (h0 : 0 ≤ x1) (h1 : x1 ≤ 24) (h2 : x0 = 4 * x1) : x0 ≤ 100 := by omega
theorem o19_450 {x0 x1 : Int} {x2 : Nat} (h0 : 0 ≤ x1) (h1 : x1 ≤ 20) (h2 : 0 ≤ x0) (h3 : x0 ≤ 20) (h4 : 20 - x0 < ((x2 + 1 : Nat) : Int)) (h5 : x0 < x1) : 0 ≤ x0 := by omega
theorem o19_451 {x0 x1 : Int} {x2 : Nat} (h0 : 0 ≤ x1) (h1 : x1 ≤ 20) (h2 : 0 ≤ x0) (h3 : x0 ≤ 20) (h4 : 20 - x0 < ((x2 + 1 : Nat) : Int)) (h5 : x0 < x1) : x0 ≤ 19 := by omega
theorem o19_452 {x0 : Int} (h0 : 0 ≤ x0) (h1 : x0 ≤ 40) : 0 ≤ x0 := by omega
theorem o19_453 {x0 : Int} (h0 : 0 ≤ x0) (h1 : x0 ≤ 40) : x0 ≤ 40 := by omega
theorem o19_454 {x0 x1 : Int} {x2 : Nat} (h0 : 0 ≤ x1) (h1 : x1 ≤ 20) (h2 : 0 ≤ x0) (h3 : x0 ≤ 20) (h4 : 20 - x0 < ((x2 + 1 : Nat) : Int)) (h5 : x0 < x1) (h6 : -2147483648 ≤ x0) (h7 : x0 ≤ 2147483647) (h8 : -2147483648 ≤ x1) (h9 : x1 ≤ 2147483647) : -2147483648 ≤ x0 + 1 := by omega
theorem o19_455 {x0 x1 : Int} {x2 : Nat} (h0 : 0 ≤ x1) (h1 : x1 ≤ 20) (h2 : 0 ≤ x0) (h3 : x0 ≤ 20) (h4 : 20 - x0 < ((x2 + 1 : Nat) : Int)) (h5 : x0 < x1) (h6 : -2147483648 ≤ x0) (h7 : x0 ≤ 2147483647) (h8 : -2147483648 ≤ x1) (h9 : x1 ≤ 2147483647) : x0 + 1 ≤ 2147483647 := by omega
theorem o19_456 {x0 x2 x3 : Int} {x1 : Nat} (h0 : 0 ≤ x2) (h1 : x2 ≤ 20) (h2 : 0 ≤ x3) (h3 : x3 ≤ 20) (h4 : 20 - x3 < ((x1 + 1 : Nat) : Int)) (h5 : x3 < x2) (h6 : x0 = x3 + 1) : 20 - x0 < (x1 : Int) := by omega
theorem o19_457 {x0 x1 x2 : Int} {x3 : Nat} (h0 : 0 ≤ x1) (h1 : x1 ≤ 20) (h2 : 0 ≤ x2) (h3 : x2 ≤ 20) (h4 : 20 - x2 < ((x3 + 1 : Nat) : Int)) (h5 : x2 < x1) (h6 : x0 = x2 + 1) : 0 ≤ x0 := by omega
theorem o19_458 {x0 x1 x2 : Int} {x3 : Nat} (h0 : 0 ≤ x1) (h1 : x1 ≤ 20) (h2 : 0 ≤ x2) (h3 : x2 ≤ 20) (h4 : 20 - x2 < ((x3 + 1 : Nat) : Int)) (h5 : x2 < x1) (h6 : x0 = x2 + 1) : x0 ≤ 20 := by omega
theorem o19_459 {x0 : Int} (h0 : x0 = 0) : 20 - x0 < (((20 - x0 + 1).toNat : Nat) : Int) := by omega
theorem o19_460 {x0 : Int} (h0 : x0 = 0) : x0 ≤ 20 := by omega
theorem o19_461 {x0 x1 : Int} (h0 : 0 ≤ x0) (h1 : x0 ≤ 59) (h2 : x1 = 1) (h3 : -2147483648 ≤ x0) (h4 : x0 ≤ 2147483647) (h5 : -2147483648 ≤ x1) (h6 : x1 ≤ 2147483647) : -2147483648 ≤ x0 + x1 := by omega
theorem o19_462 {x0 x1 : Int} (h0 : 0 ≤ x0) (h1 : x0 ≤ 59) (h2 : x1 = 1) (h3 : -2147483648 ≤ x0) (h4 : x0 ≤ 2147483647) (h5 : -2147483648 ≤ x1) (h6 : x1 ≤ 2147483647) : x0 + x1 ≤ 2147483647 := by omega
theorem o19_463 {x0 x1 x2 : Int} (h0 : 0 ≤ x0) (h1 : x0 ≤ 59) (h2 : x1 = 1) (h3 : x2 = x0 + x1) : 0 ≤ x0 := by omega
theorem o19_464 {x0 x1 x2 : Int} (h0 : 0 ≤ x0) (h1 : x0 ≤ 59) (h2 : x1 = 1) (h3 : x2 = x0 + x1) : x0 ≤ 239 := by omega
theorem o19_465 {x0 : Int} (h0 : (-1) ≤ x0) (h1 : x0 ≤ 99) (h2 : 0 ≤ x0) : x0 < (100 : Nat) := by omega
theorem o19_466 {x0 x1 x2 x3 : Int} (h0 : x2 < x3) (h1 : (-1) ≤ x1) (h2 : x1 ≤ 2) (h3 : x1 ≤ 0) (h4 : 0 ≤ x1) (h5 : x0 = x2) (h6 : -2147483648 ≤ x0) (h7 : x0 ≤ 2147483647) (h8 : -2147483648 ≤ x1) (h9 : x1 ≤ 2147483647) (h10 : -2147483648 ≤ x2) (h11 : x2 ≤ 2147483647) (h12 : -2147483648 ≤ x3) (h13 : x3 ≤ 2147483647) : -2147483648 ≤ x0 + x1 := by omega
theorem o19_467 {x0 x1 x2 x3 : Int} (h0 : x2 < x3) (h1 : (-1) ≤ x1) (h2 : x1 ≤ 2) (h3 : x1 ≤ 0) (h4 : 0 ≤ x1) (h5 : x0 = x2) (h6 : -2147483648 ≤ x0) (h7 : x0 ≤ 2147483647) (h8 : -2147483648 ≤ x1) (h9 : x1 ≤ 2147483647) (h10 : -2147483648 ≤ x2) (h11 : x2 ≤ 2147483647) (h12 : -2147483648 ≤ x3) (h13 : x3 ≤ 2147483647) : x0 + x1 ≤ 2147483647 := by omega
theorem o19_468 {x0 x1 x2 x3 : Int} {x4 : Nat} (h0 : 0 ≤ x1) (h1 : x1 ≤ 25) (h2 : x2 = 4 * x1) (h3 : 0 ≤ x3) (h4 : x3 ≤ 100) (h5 : 100 - x3 < ((x4 + 1 : Nat) : Int)) (h6 : x3 < x2) (h7 : x0 = x3 / 4) : 0 ≤ x0 := by omega
theorem o19_469 {x0 x1 x2 x3 : Int} {x4 : Nat} (h0 : 0 ≤ x1) (h1 : x1 ≤ 25) (h2 : x2 = 4 * x1) (h3 : 0 ≤ x3) (h4 : x3 ≤ 100) (h5 : 100 - x3 < ((x4 + 1 : Nat) : Int)) (h6 : x3 < x2) (h7 : x0 = x3 / 4) : x0 < (25 : Nat) := by omega
theorem o19_470 {x0 x1 x2 x3 : Int} {x4 : Nat} (h0 : 0 ≤ x1) (h1 : x1 ≤ 25) (h2 : x2 = 4 * x1) (h3 : 0 ≤ x3) (h4 : x3 ≤ 100) (h5 : 100 - x3 < ((x4 + 1 : Nat) : Int)) (h6 : x3 < x2) (h7 : x0 = x3 / 4) : x0 ≤ 24 := by omega
theorem o19_471 {x0 x1 x2 x4 : Int} {x3 : Nat} (h0 : 0 ≤ x1) (h1 : x1 ≤ 25) (h2 : x2 = 4 * x1) (h3 : 0 ≤ x0) (h4 : x0 ≤ 100) (h5 : 100 - x0 < ((x3 + 1 : Nat) : Int)) (h6 : x0 < x2) (h7 : x4 = x0 / 4) : 0 ≤ x0 := by omega
theorem o19_472 {x0 x1 x2 x4 : Int} {x3 : Nat} (h0 : 0 ≤ x1) (h1 : x1 ≤ 25) (h2 : x2 = 4 * x1) (h3 : 0 ≤ x0) (h4 : x0 ≤ 100) (h5 : 100 - x0 < ((x3 + 1 : Nat) : Int)) (h6 : x0 < x2) (h7 : x4 = x0 / 4) : x0 < (100 : Nat) := by omega
theorem o19_473 {x0 : Int} (h0 : x0 = (-1)) (h1 : 0 < x0) : False := by omega
theorem o19_474 {x0 : Int} (h0 : x0 = (-1)) (h1 : x0 ≤ 0) (h2 : 0 ≤ x0) : False := by omega
theorem o19_475 {x0 : Int} (h0 : 0 ≤ x0) (h1 : x0 ≤ 61) (h2 : 61 - x0 < 0) : False := by omega
theorem o19_476 {x0 : Int} (h0 : x0 = (-1)) : x0 ≤ 1073741823 := by omega
theorem o19_477 {x0 x1 : Int} (h0 : x0 ≤ 1073741824) (h1 : x1 = 1073741824) (h2 : x0 < x1) : x0 ≤ 1073741823 := by omega
theorem o19_478 {x0 x1 : Int} (h0 : x0 ≤ 1073741824) (h1 : x0 ≤ 0) (h2 : x1 = 1073741824) (h3 : x1 ≤ x0) : False := by omega
theorem o19_479 {x0 x1 : Int} (h0 : x0 ≤ 1073741824) (h1 : x0 ≤ 0) (h2 : x1 = 1073741824) (h3 : x0 < x1) : x0 ≤ 1073741823 := by omega
theorem o19_480 {x0 x1 : Int} {x2 : Nat} (h0 : 0 ≤ x1) (h1 : x1 ≤ 60) (h2 : 0 ≤ x0) (h3 : x0 ≤ 61) (h4 : 61 - x0 < ((x2 + 1 : Nat) : Int)) (h5 : x0 ≤ x1) (h6 : x1 ≤ x0) (h7 : -2147483648 ≤ x0) (h8 : x0 ≤ 2147483647) (h9 : -2147483648 ≤ x1) (h10 : x1 ≤ 2147483647) : -2147483648 ≤ x0 + 1 := by omega
theorem o19_481 {x0 x1 : Int} {x2 : Nat} (h0 : 0 ≤ x1) (h1 : x1 ≤ 60) (h2 : 0 ≤ x0) (h3 : x0 ≤ 61) (h4 : 61 - x0 < ((x2 + 1 : Nat) : Int)) (h5 : x0 ≤ x1) (h6 : x1 ≤ x0) (h7 : -2147483648 ≤ x0) (h8 : x0 ≤ 2147483647) (h9 : -2147483648 ≤ x1) (h10 : x1 ≤ 2147483647) : x0 + 1 ≤ 2147483647 := by omega
theorem o19_482 {x0 x2 x3 : Int} {x1 : Nat} (h0 : 0 ≤ x2) (h1 : x2 ≤ 60) (h2 : 0 ≤ x3) (h3 : x3 ≤ 61) (h4 : 61 - x3 < ((x1 + 1 : Nat) : Int)) (h5 : x3 ≤ x2) (h6 : x2 ≤ x3) (h7 : x0 = x3 + 1) : 61 - x0 < (x1 : Int) := by omega
theorem o19_483 {x0 x1 x2 : Int} {x3 : Nat} (h0 : 0 ≤ x1) (h1 : x1 ≤ 60) (h2 : 0 ≤ x2) (h3 : x2 ≤ 61) (h4 : 61 - x2 < ((x3 + 1 : Nat) : Int)) (h5 : x2 ≤ x1) (h6 : x1 ≤ x2) (h7 : x0 = x2 + 1) : 0 ≤ x0 := by omega
theorem o19_484 {x0 x1 x2 : Int} {x3 : Nat} (h0 : 0 ≤ x1) (h1 : x1 ≤ 60) (h2 : 0 ≤ x2) (h3 : x2 ≤ 61) (h4 : 61 - x2 < ((x3 + 1 : Nat) : Int)) (h5 : x2 ≤ x1) (h6 : x1 ≤ x2) (h7 : x0 = x2 + 1) : x0 ≤ 61 := by omega
theorem o19_485 {x0 : Int} (h0 : x0 ≤ 1073741824) : x0 ≤ 1073741824 := by omega
theorem o19_486 {x0 x1 : Int} {x2 : Nat} (h0 : 0 ≤ x1) (h1 : x1 ≤ 60) (h2 : 0 ≤ x0) (h3 : x0 ≤ 61) (h4 : 61 - x0 < ((x2 + 1 : Nat) : Int)) (h5 : x0 ≤ x1) (h6 : x0 < x1) : 0 ≤ x0 := by omega
theorem o19_487 {x0 x1 : Int} {x2 : Nat} (h0 : 0 ≤ x1) (h1 : x1 ≤ 60) (h2 : 0 ≤ x0) (h3 : x0 ≤ 61) (h4 : 61 - x0 < ((x2 + 1 : Nat) : Int)) (h5 : x0 ≤ x1) (h6 : x0 < x1) : x0 ≤ 59 := by omega
theorem o19_488 {x0 x1 : Int} {x2 : Nat} (h0 : 0 ≤ x1) (h1 : x1 ≤ 60) (h2 : 0 ≤ x0) (h3 : x0 ≤ 61) (h4 : 61 - x0 < ((x2 + 1 : Nat) : Int)) (h5 : x0 ≤ x1) (h6 : x0 < x1) (h7 : -2147483648 ≤ x0) (h8 : x0 ≤ 2147483647) (h9 : -2147483648 ≤ x1) (h10 : x1 ≤ 2147483647) : -2147483648 ≤ x0 + 1 := by omega
theorem o19_489 {x0 x1 : Int} {x2 : Nat} (h0 : 0 ≤ x1) (h1 : x1 ≤ 60) (h2 : 0 ≤ x0) (h3 : x0 ≤ 61) (h4 : 61 - x0 < ((x2 + 1 : Nat) : Int)) (h5 : x0 ≤ x1) (h6 : x0 < x1) (h7 : -2147483648 ≤ x0) (h8 : x0 ≤ 2147483647) (h9 : -2147483648 ≤ x1) (h10 : x1 ≤ 2147483647) : x0 + 1 ≤ 2147483647 := by omega
theorem o19_490 {x0 x2 x3 : Int} {x1 : Nat} (h0 : 0 ≤ x2) (h1 : x2 ≤ 60) (h2 : 0 ≤ x3) (h3 : x3 ≤ 61) (h4 : 61 - x3 < ((x1 + 1 : Nat) : Int)) (h5 : x3 ≤ x2) (h6 : x3 < x2) (h7 : x0 = x3 + 1) : 61 - x0 < (x1 : Int) := by omega
theorem o19_491 {x0 x1 x2 : Int} {x3 : Nat} (h0 : 0 ≤ x1) (h1 : x1 ≤ 60) (h2 : 0 ≤ x2) (h3 : x2 ≤ 61) (h4 : 61 - x2 < ((x3 + 1 : Nat) : Int)) (h5 : x2 ≤ x1) (h6 : x2 < x1) (h7 : x0 = x2 + 1) : 0 ≤ x0 := by omega
theorem o19_492 {x0 x1 x2 : Int} {x3 : Nat} (h0 : 0 ≤ x1) (h1 : x1 ≤ 60) (h2 : 0 ≤ x2) (h3 : x2 ≤ 61) (h4 : 61 - x2 < ((x3 + 1 : Nat) : Int)) (h5 : x2 ≤ x1) (h6 : x2 < x1) (h7 : x0 = x2 + 1) : x0 ≤ 61 := by omega
theorem o19_493 {x0 x1 x2 : Int} (h0 : x1 ≤ 1073741824) (h1 : (x0 = x1 ∧ x1 ≤ x2) ∨ (x0 = x2 ∧ x2 ≤ x1)) : x0 ≤ 1073741824 := by omega
theorem o19_494 {x0 : Int} (h0 : x0 ≤ 1073741824) (h1 : 0 < x0) : x0 ≤ 1073741824 := by omega
theorem o19_495 {x0 : Int} (h0 : x0 = 0) : 61 - x0 < (((61 - x0 + 1).toNat : Nat) : Int) := by omega
theorem o19_496 {x0 : Int} (h0 : x0 = 0) : x0 ≤ 61 := by omega
theorem o19_497 {x0 : Int} (h0 : x0 = 1073741824) : x0 ≤ 1073741824 := by omega
theorem o19_498 {x0 x1 : Int} (h0 : 0 ≤ x0) (h1 : x0 ≤ 3) (h2 : x1 = 1) (h3 : -2147483648 ≤ x0) (h4 : x0 ≤ 2147483647) (h5 : -2147483648 ≤ x1) (h6 : x1 ≤ 2147483647) : -2147483648 ≤ x0 + x1 := by omega
theorem o19_499 {x0 x1 : Int} (h0 : 0 ≤ x0) (h1 : x0 ≤ 3) (h2 : x1 = 1) (h3 : -2147483648 ≤ x0) (h4 : x0 ≤ 2147483647) (h5 : -2147483648 ≤ x1) (h6 : x1 ≤ 2147483647) : x0 + x1 ≤ 2147483647 := by omega
theorem o19_500 {x0 x1 x2 : Int} (h0 : 0 ≤ x0) (h1 : x0 ≤ 3) (h2 : x1 = 1) (h3 : x2 = x0 + x1) : 0 ≤ x0 := by omega
theorem o19_501 {x0 x1 x2 : Int} (h0 : 0 ≤ x0) (h1 : x0 ≤ 3) (h2 : x1 = 1) (h3 : x2 = x0 + x1) : x0 < (4 : Nat) := by omega
theorem o19_502 {x0 x1 x2 x3 : Int} (h0 : 0 ≤ x0) (h1 : x0 ≤ 12396) (h2 : 0 ≤ x1) (h3 : x1 ≤ 3) (h4 : x2 = 1) (h5 : x3 = x1 + x2) (h6 : -2147483648 ≤ x0) (h7 : x0 ≤ 2147483647) (h8 : -2147483648 ≤ x1) (h9 : x1 ≤ 2147483647) (h10 : -2147483648 ≤ x2) (h11 : x2 ≤ 2147483647) (h12 : -2147483648 ≤ x3) (h13 : x3 ≤ 2147483647) : -2147483648 ≤ x0 + x1 := by omega
theorem o19_503 {x0 x1 x2 x3 : Int} (h0 : 0 ≤ x0) (h1 : x0 ≤ 12396) (h2 : 0 ≤ x1) (h3 : x1 ≤ 3) (h4 : x2 = 1) (h5 : x3 = x1 + x2) (h6 : -2147483648 ≤ x0) (h7 : x0 ≤ 2147483647) (h8 : -2147483648 ≤ x1) (h9 : x1 ≤ 2147483647) (h10 : -2147483648 ≤ x2) (h11 : x2 ≤ 2147483647) (h12 : -2147483648 ≤ x3) (h13 : x3 ≤ 2147483647) : x0 + x1 ≤ 2147483647 := by omega
theorem o19_504 {x0 x1 x2 x3 x4 : Int} (h0 : 0 ≤ x1) (h1 : x1 ≤ 12396) (h2 : 0 ≤ x2) (h3 : x2 ≤ 3) (h4 : x3 = 1) (h5 : x4 = x2 + x3) (h6 : x0 = x1 + x2) : 0 ≤ x0 := by omega
theorem o19_505 {x0 x1 x2 x3 x4 : Int} (h0 : 0 ≤ x1) (h1 : x1 ≤ 12396) (h2 : 0 ≤ x2) (h3 : x2 ≤ 3) (h4 : x3 = 1) (h5 : x4 = x2 + x3) (h6 : x0 = x1 + x2) : x0 < (12400 : Nat) := by omega
theorem o19_506 {x0 x1 x2 x3 x4 : Int} (h0 : 0 ≤ x1) (h1 : x1 ≤ 12396) (h2 : 0 ≤ x0) (h3 : x0 ≤ 3) (h4 : x2 = 1) (h5 : x3 = x0 + x2) (h6 : x4 = x1 + x0) : 0 ≤ x0 := by omega
theorem o19_507 {x0 x1 x2 x3 x4 : Int} (h0 : 0 ≤ x1) (h1 : x1 ≤ 12396) (h2 : 0 ≤ x0) (h3 : x0 ≤ 3) (h4 : x2 = 1) (h5 : x3 = x0 + x2) (h6 : x4 = x1 + x0) : x0 ≤ 3 := by omega
theorem o19_508 {x0 x1 x2 x3 x4 x5 : Int} (h0 : 0 ≤ x0) (h1 : x0 ≤ 12396) (h2 : 0 ≤ x2) (h3 : x2 ≤ 3) (h4 : x3 = 1) (h5 : x4 = x2 + x3) (h6 : 0 ≤ x1) (h7 : x1 ≤ 3) (h8 : x5 = x0 + x2) (h9 : -2147483648 ≤ x0) (h10 : x0 ≤ 2147483647) (h11 : -2147483648 ≤ x1) (h12 : x1 ≤ 2147483647) (h13 : -2147483648 ≤ x2) (h14 : x2 ≤ 2147483647) (h15 : -2147483648 ≤ x3) (h16 : x3 ≤ 2147483647) (h17 : -2147483648 ≤ x4) (h18 : x4 ≤ 2147483647) (h19 : -2147483648 ≤ x5) (h20 : x5 ≤ 2147483647) : -2147483648 ≤ x0 + x1 := by omega
theorem o19_509 {x0 x1 x2 x3 x4 x5 : Int} (h0 : 0 ≤ x0) (h1 : x0 ≤ 12396) (h2 : 0 ≤ x2) (h3 : x2 ≤ 3) (h4 : x3 = 1) (h5 : x4 = x2 + x3) (h6 : 0 ≤ x1) (h7 : x1 ≤ 3) (h8 : x5 = x0 + x2) (h9 : -2147483648 ≤ x0) (h10 : x0 ≤ 2147483647) (h11 : -2147483648 ≤ x1) (h12 : x1 ≤ 2147483647) (h13 : -2147483648 ≤ x2) (h14 : x2 ≤ 2147483647) (h15 : -2147483648 ≤ x3) (h16 : x3 ≤ 2147483647) (h17 : -2147483648 ≤ x4) (h18 : x4 ≤ 2147483647) (h19 : -2147483648 ≤ x5) (h20 : x5 ≤ 2147483647) : x0 + x1 ≤ 2147483647 := by omega
theorem o19_510 {x0 x1 x2 x3 x4 x5 x6 : Int} (h0 : 0 ≤ x1) (h1 : x1 ≤ 12396) (h2 : 0 ≤ x2) (h3 : x2 ≤ 3) (h4 : x3 = 1) (h5 : x4 = x2 + x3) (h6 : 0 ≤ x5) (h7 : x5 ≤ 3) (h8 : x6 = x1 + x2) (h9 : x0 = x1 + x5) : 0 ≤ x0 := by omega
theorem o19_511 {x0 x1 x2 x3 x4 x5 x6 : Int} (h0 : 0 ≤ x1) (h1 : x1 ≤ 12396) (h2 : 0 ≤ x2) (h3 : x2 ≤ 3) (h4 : x3 = 1) (h5 : x4 = x2 + x3) (h6 : 0 ≤ x5) (h7 : x5 ≤ 3) (h8 : x6 = x1 + x2) (h9 : x0 = x1 + x5) : x0 < (12400 : Nat) := by omega
theorem o19_512 {x0 x1 x2 x3 x4 x5 x6 : Int} (h0 : 0 ≤ x1) (h1 : x1 ≤ 12396) (h2 : 0 ≤ x2) (h3 : x2 ≤ 3) (h4 : x3 = 1) (h5 : x4 = x2 + x3) (h6 : 0 ≤ x0) (h7 : x0 ≤ 3) (h8 : x5 = x1 + x2) (h9 : x6 = x1 + x0) : 0 ≤ x0 := by omega
theorem o19_513 {x0 x1 x2 x3 x4 x5 x6 : Int} (h0 : 0 ≤ x1) (h1 : x1 ≤ 12396) (h2 : 0 ≤ x2) (h3 : x2 ≤ 3) (h4 : x3 = 1) (h5 : x4 = x2 + x3) (h6 : 0 ≤ x0) (h7 : x0 ≤ 3) (h8 : x5 = x1 + x2) (h9 : x6 = x1 + x0) : x0 ≤ 3 := by omega
theorem o19_514 {x0 x1 x2 x3 x4 x5 x6 : Int} (h0 : 0 ≤ x0) (h1 : x0 ≤ 12396) (h2 : 0 ≤ x1) (h3 : x1 ≤ 3) (h4 : x2 = 1) (h5 : x3 = x1 + x2) (h6 : 0 ≤ x4) (h7 : x4 ≤ 3) (h8 : x5 = x0 + x1) (h9 : x6 = x0 + x4) (h10 : -2147483648 ≤ x0) (h11 : x0 ≤ 2147483647) (h12 : -2147483648 ≤ x1) (h13 : x1 ≤ 2147483647) (h14 : -2147483648 ≤ x2) (h15 : x2 ≤ 2147483647) (h16 : -2147483648 ≤ x3) (h17 : x3 ≤ 2147483647) (h18 : -2147483648 ≤ x4) (h19 : x4 ≤ 2147483647) (h20 : -2147483648 ≤ x5) (h21 : x5 ≤ 2147483647) (h22 : -2147483648 ≤ x6) (h23 : x6 ≤ 2147483647) : -2147483648 ≤ x0 + x1 := by omega
theorem o19_515 {x0 x1 x2 x3 x4 x5 x6 : Int} (h0 : 0 ≤ x0) (h1 : x0 ≤ 12396) (h2 : 0 ≤ x1) (h3 : x1 ≤ 3) (h4 : x2 = 1) (h5 : x3 = x1 + x2) (h6 : 0 ≤ x4) (h7 : x4 ≤ 3) (h8 : x5 = x0 + x1) (h9 : x6 = x0 + x4) (h10 : -2147483648 ≤ x0) (h11 : x0 ≤ 2147483647) (h12 : -2147483648 ≤ x1) (h13 : x1 ≤ 2147483647) (h14 : -2147483648 ≤ x2) (h15 : x2 ≤ 2147483647) (h16 : -2147483648 ≤ x3) (h17 : x3 ≤ 2147483647) (h18 : -2147483648 ≤ x4) (h19 : x4 ≤ 2147483647) (h20 : -2147483648 ≤ x5) (h21 : x5 ≤ 2147483647) (h22 : -2147483648 ≤ x6) (h23 : x6 ≤ 2147483647) : x0 + x1 ≤ 2147483647 := by omega
theorem o19_516 {x0 x1 x2 x3 x4 x5 x6 x7 : Int} (h0 : 0 ≤ x1) (h1 : x1 ≤ 12396) (h2 : 0 ≤ x2) (h3 : x2 ≤ 3) (h4 : x3 = 1) (h5 : x4 = x2 + x3) (h6 : 0 ≤ x5) (h7 : x5 ≤ 3) (h8 : x6 = x1 + x2) (h9 : x7 = x1 + x5) (h10 : x0 = x1 + x2) : 0 ≤ x0 := by omega
theorem o19_517 {x0 x1 x2 x3 x4 x5 x6 x7 : Int} (h0 : 0 ≤ x1) (h1 : x1 ≤ 12396) (h2 : 0 ≤ x2) (h3 : x2 ≤ 3) (h4 : x3 = 1) (h5 : x4 = x2 + x3) (h6 : 0 ≤ x5) (h7 : x5 ≤ 3) (h8 : x6 = x1 + x2) (h9 : x7 = x1 + x5) (h10 : x0 = x1 + x2) : x0 < (12400 : Nat) := by omega
theorem o19_518 {x0 : Int} (h0 : 400 ≤ x0) (h1 : x0 ≤ 12400) (h2 : 12400 - x0 < 0) : False := by omega
theorem o19_519 {x0 : Int} (h0 : x0 = 16) : x0 = 16 := by omega
theorem o19_520 {x0 : Int} (h0 : 0 ≤ x0) (h1 : x0 ≤ 25) (h2 : -2147483648 ≤ x0) (h3 : x0 ≤ 2147483647) : -2147483648 ≤ 16 * x0 := by omega
theorem o19_521 {x0 : Int} (h0 : 0 ≤ x0) (h1 : x0 ≤ 25) (h2 : -2147483648 ≤ x0) (h3 : x0 ≤ 2147483647) : 16 * x0 ≤ 2147483647 := by omega
theorem o19_522 {x0 x1 x2 : Int} (h0 : 400 ≤ x0) (h1 : x0 ≤ 12000) (h2 : 0 ≤ x2) (h3 : x2 ≤ 25) (h4 : x1 = 16 * x2) (h5 : -2147483648 ≤ x0) (h6 : x0 ≤ 2147483647) (h7 : -2147483648 ≤ x1) (h8 : x1 ≤ 2147483647) (h9 : -2147483648 ≤ x2) (h10 : x2 ≤ 2147483647) : -2147483648 ≤ x0 + x1 := by omega
theorem o19_523 {x0 x1 x2 : Int} (h0 : 400 ≤ x0) (h1 : x0 ≤ 12000) (h2 : 0 ≤ x2) (h3 : x2 ≤ 25) (h4 : x1 = 16 * x2) (h5 : -2147483648 ≤ x0) (h6 : x0 ≤ 2147483647) (h7 : -2147483648 ≤ x1) (h8 : x1 ≤ 2147483647) (h9 : -2147483648 ≤ x2) (h10 : x2 ≤ 2147483647) : x0 + x1 ≤ 2147483647 := by omega
theorem o19_524 {x0 x1 x3 x4 x5 : Int} {x2 : Nat} (h0 : 400 ≤ x1) (h1 : x1 ≤ 12000) (h2 : 400 ≤ x0) (h3 : x0 ≤ 12400) (h4 : 12400 - x0 < ((x2 + 1 : Nat) : Int)) (h5 : 0 ≤ x3) (h6 : x3 ≤ 25) (h7 : x4 = 16 * x3) (h8 : x5 = x1 + x4) (h9 : x0 < x5) : 0 ≤ x0 := by omega
theorem o19_525 {x0 x1 x3 x4 x5 : Int} {x2 : Nat} (h0 : 400 ≤ x1) (h1 : x1 ≤ 12000) (h2 : 400 ≤ x0) (h3 : x0 ≤ 12400) (h4 : 12400 - x0 < ((x2 + 1 : Nat) : Int)) (h5 : 0 ≤ x3) (h6 : x3 ≤ 25) (h7 : x4 = 16 * x3) (h8 : x5 = x1 + x4) (h9 : x0 < x5) : x0 < (12400 : Nat) := by omega
theorem o19_526 {x0 x1 x2 x4 x5 x6 : Int} {x3 : Nat} (h0 : 400 ≤ x2) (h1 : x2 ≤ 12000) (h2 : 400 ≤ x0) (h3 : x0 ≤ 12400) (h4 : 12400 - x0 < ((x3 + 1 : Nat) : Int)) (h5 : 0 ≤ x4) (h6 : x4 ≤ 25) (h7 : x5 = 16 * x4) (h8 : x6 = x2 + x5) (h9 : x0 < x6) (h10 : x1 = 400) (h11 : -2147483648 ≤ x0) (h12 : x0 ≤ 2147483647) (h13 : -2147483648 ≤ x1) (h14 : x1 ≤ 2147483647) (h15 : -2147483648 ≤ x2) (h16 : x2 ≤ 2147483647) (h17 : -2147483648 ≤ x4) (h18 : x4 ≤ 2147483647) (h19 : -2147483648 ≤ x5) (h20 : x5 ≤ 2147483647) (h21 : -2147483648 ≤ x6) (h22 : x6 ≤ 2147483647) : -2147483648 ≤ x0 - x1 := by omega
theorem o19_527 {x0 x1 x2 x4 x5 x6 : Int} {x3 : Nat} (h0 : 400 ≤ x2) (h1 : x2 ≤ 12000) (h2 : 400 ≤ x0) (h3 : x0 ≤ 12400) (h4 : 12400 - x0 < ((x3 + 1 : Nat) : Int)) (h5 : 0 ≤ x4) (h6 : x4 ≤ 25) (h7 : x5 = 16 * x4) (h8 : x6 = x2 + x5) (h9 : x0 < x6) (h10 : x1 = 400) (h11 : -2147483648 ≤ x0) (h12 : x0 ≤ 2147483647) (h13 : -2147483648 ≤ x1) (h14 : x1 ≤ 2147483647) (h15 : -2147483648 ≤ x2) (h16 : x2 ≤ 2147483647) (h17 : -2147483648 ≤ x4) (h18 : x4 ≤ 2147483647) (h19 : -2147483648 ≤ x5) (h20 : x5 ≤ 2147483647) (h21 : -2147483648 ≤ x6) (h22 : x6 ≤ 2147483647) : x0 - x1 ≤ 2147483647 := by omega
theorem o19_528 {x0 x1 x2 x4 x5 x6 x7 : Int} {x3 : Nat} (h0 : 400 ≤ x1) (h1 : x1 ≤ 12000) (h2 : 400 ≤ x2) (h3 : x2 ≤ 12400) (h4 : 12400 - x2 < ((x3 + 1 : Nat) : Int)) (h5 : 0 ≤ x4) (h6 : x4 ≤ 25) (h7 : x5 = 16 * x4) (h8 : x6 = x1 + x5) (h9 : x2 < x6) (h10 : x7 = 400) (h11 : x0 = x2 - x7) : 0 ≤ x0 := by omega
theorem o19_529 {x0 x1 x2 x4 x5 x6 x7 : Int} {x3 : Nat} (h0 : 400 ≤ x1) (h1 : x1 ≤ 12000) (h2 : 400 ≤ x2) (h3 : x2 ≤ 12400) (h4 : 12400 - x2 < ((x3 + 1 : Nat) : Int)) (h5 : 0 ≤ x4) (h6 : x4 ≤ 25) (h7 : x5 = 16 * x4) (h8 : x6 = x1 + x5) (h9 : x2 < x6) (h10 : x7 = 400) (h11 : x0 = x2 - x7) : x0 < (12400 : Nat) := by omega
theorem o19_530 {x0 x1 x3 x4 x5 x6 x7 : Int} {x2 : Nat} (h0 : 400 ≤ x1) (h1 : x1 ≤ 12000) (h2 : 400 ≤ x0) (h3 : x0 ≤ 12400) (h4 : 12400 - x0 < ((x2 + 1 : Nat) : Int)) (h5 : 0 ≤ x3) (h6 : x3 ≤ 25) (h7 : x4 = 16 * x3) (h8 : x5 = x1 + x4) (h9 : x0 < x5) (h10 : x6 = 400) (h11 : x7 = x0 - x6) (h12 : -2147483648 ≤ x0) (h13 : x0 ≤ 2147483647) (h14 : -2147483648 ≤ x1) (h15 : x1 ≤ 2147483647) (h16 : -2147483648 ≤ x3) (h17 : x3 ≤ 2147483647) (h18 : -2147483648 ≤ x4) (h19 : x4 ≤ 2147483647) (h20 : -2147483648 ≤ x5) (h21 : x5 ≤ 2147483647) (h22 : -2147483648 ≤ x6) (h23 : x6 ≤ 2147483647) (h24 : -2147483648 ≤ x7) (h25 : x7 ≤ 2147483647) : -2147483648 ≤ x0 + 1 := by omega
theorem o19_531 {x0 x1 x3 x4 x5 x6 x7 : Int} {x2 : Nat} (h0 : 400 ≤ x1) (h1 : x1 ≤ 12000) (h2 : 400 ≤ x0) (h3 : x0 ≤ 12400) (h4 : 12400 - x0 < ((x2 + 1 : Nat) : Int)) (h5 : 0 ≤ x3) (h6 : x3 ≤ 25) (h7 : x4 = 16 * x3) (h8 : x5 = x1 + x4) (h9 : x0 < x5) (h10 : x6 = 400) (h11 : x7 = x0 - x6) (h12 : -2147483648 ≤ x0) (h13 : x0 ≤ 2147483647) (h14 : -2147483648 ≤ x1) (h15 : x1 ≤ 2147483647) (h16 : -2147483648 ≤ x3) (h17 : x3 ≤ 2147483647) (h18 : -2147483648 ≤ x4) (h19 : x4 ≤ 2147483647) (h20 : -2147483648 ≤ x5) (h21 : x5 ≤ 2147483647) (h22 : -2147483648 ≤ x6) (h23 : x6 ≤ 2147483647) (h24 : -2147483648 ≤ x7) (h25 : x7 ≤ 2147483647) : x0 + 1 ≤ 2147483647 := by omega
theorem o19_532 {x0 x2 x3 x4 x5 x6 x7 x8 : Int} {x1 : Nat} (h0 : 400 ≤ x2) (h1 : x2 ≤ 12000) (h2 : 400 ≤ x3) (h3 : x3 ≤ 12400) (h4 : 12400 - x3 < ((x1 + 1 : Nat) : Int)) (h5 : 0 ≤ x4) (h6 : x4 ≤ 25) (h7 : x5 = 16 * x4) (h8 : x6 = x2 + x5) (h9 : x3 < x6) (h10 : x7 = 400) (h11 : x8 = x3 - x7) (h12 : x0 = x3 + 1) : 12400 - x0 < (x1 : Int) := by omega
theorem o19_533 {x0 x1 x2 x4 x5 x6 x7 x8 : Int} {x3 : Nat} (h0 : 400 ≤ x1) (h1 : x1 ≤ 12000) (h2 : 400 ≤ x2) (h3 : x2 ≤ 12400) (h4 : 12400 - x2 < ((x3 + 1 : Nat) : Int)) (h5 : 0 ≤ x4) (h6 : x4 ≤ 25) (h7 : x5 = 16 * x4) (h8 : x6 = x1 + x5) (h9 : x2 < x6) (h10 : x7 = 400) (h11 : x8 = x2 - x7) (h12 : x0 = x2 + 1) : 400 ≤ x0 := by omega
theorem o19_534 {x0 x1 x2 x4 x5 x6 x7 x8 : Int} {x3 : Nat} (h0 : 400 ≤ x1) (h1 : x1 ≤ 12000) (h2 : 400 ≤ x2) (h3 : x2 ≤ 12400) (h4 : 12400 - x2 < ((x3 + 1 : Nat) : Int)) (h5 : 0 ≤ x4) (h6 : x4 ≤ 25) (h7 : x5 = 16 * x4) (h8 : x6 = x1 + x5) (h9 : x2 < x6) (h10 : x7 = 400) (h11 : x8 = x2 - x7) (h12 : x0 = x2 + 1) : x0 ≤ 12400 := by omega
theorem o19_535 {x0 : Int} (h0 : 400 ≤ x0) (h1 : x0 ≤ 12000) : 12400 - x0 < (((12400 - x0 + 1).toNat : Nat) : Int) := by omega
theorem o19_536 {x0 : Int} (h0 : 400 ≤ x0) (h1 : x0 ≤ 12000) : 400 ≤ x0 := by omega
theorem o19_537 {x0 : Int} (h0 : 400 ≤ x0) (h1 : x0 ≤ 12000) : x0 ≤ 12400 := by omega
theorem o19_538 {x0 x1 x2 x3 : Int} {x4 x5 : Nat} (h0 : 0 ≤ x1) (h1 : x1 ≤ 25) (h2 : x2 = 4 * x1) (h3 : 0 ≤ x3) (h4 : x3 ≤ 100) (h5 : 100 - x3 < ((x4 + 1 : Nat) : Int)) (h6 : x2 ≤ x3) (h7 : 0 ≤ x0) (h8 : x0 ≤ 100) (h9 : 100 - x0 < ((x5 + 1 : Nat) : Int)) (h10 : x0 < x2) : 0 ≤ x0 := by omega
theorem o19_539 {x0 x1 x2 x3 : Int} {x4 x5 : Nat} (h0 : 0 ≤ x1) (h1 : x1 ≤ 25) (h2 : x2 = 4 * x1) (h3 : 0 ≤ x3) (h4 : x3 ≤ 100) (h5 : 100 - x3 < ((x4 + 1 : Nat) : Int)) (h6 : x2 ≤ x3) (h7 : 0 ≤ x0) (h8 : x0 ≤ 100) (h9 : 100 - x0 < ((x5 + 1 : Nat) : Int)) (h10 : x0 < x2) : x0 ≤ 99 := by omega
theorem o19_540 {x0 : Int} (h0 : x0 = 0) : x0 ≤ 3 := by omega
theorem o19_541 {x0 : Int} (h0 : x0 = 1) : x0 ≤ 3 := by omega
theorem o19_542 {x0 : Int} (h0 : (-1) ≤ x0) (h1 : x0 ≤ 99) (h2 : x0 < 0) (h3 : 0 ≤ x0) : False := by omega
theorem o19_543 {x0 x1 x2 x3 : Int} {x4 x5 : Nat} (h0 : 0 ≤ x1) (h1 : x1 ≤ 25) (h2 : x2 = 4 * x1) (h3 : 0 ≤ x3) (h4 : x3 ≤ 100) (h5 : 100 - x3 < ((x4 + 1 : Nat) : Int)) (h6 : x2 ≤ x3) (h7 : 0 ≤ x0) (h8 : x0 ≤ 100) (h9 : 100 - x0 < ((x5 + 1 : Nat) : Int)) (h10 : x0 < x2) (h11 : -2147483648 ≤ x0) (h12 : x0 ≤ 2147483647) (h13 : -2147483648 ≤ x1) (h14 : x1 ≤ 2147483647) (h15 : -2147483648 ≤ x2) (h16 : x2 ≤ 2147483647) (h17 : -2147483648 ≤ x3) (h18 : x3 ≤ 2147483647) : -2147483648 ≤ x0 + 1 := by omega
theorem o19_544 {x0 x1 x2 x3 : Int} {x4 x5 : Nat} (h0 : 0 ≤ x1) (h1 : x1 ≤ 25) (h2 : x2 = 4 * x1) (h3 : 0 ≤ x3) (h4 : x3 ≤ 100) (h5 : 100 - x3 < ((x4 + 1 : Nat) : Int)) (h6 : x2 ≤ x3) (h7 : 0 ≤ x0) (h8 : x0 ≤ 100) (h9 : 100 - x0 < ((x5 + 1 : Nat) : Int)) (h10 : x0 < x2) (h11 : -2147483648 ≤ x0) (h12 : x0 ≤ 2147483647) (h13 : -2147483648 ≤ x1) (h14 : x1 ≤ 2147483647) (h15 : -2147483648 ≤ x2) (h16 : x2 ≤ 2147483647) (h17 : -2147483648 ≤ x3) (h18 : x3 ≤ 2147483647) : x0 + 1 ≤ 2147483647 := by omega
theorem o19_545 {x0 x2 x3 x4 x6 : Int} {x1 x5 : Nat} (h0 : 0 ≤ x2) (h1 : x2 ≤ 25) (h2 : x3 = 4 * x2) (h3 : 0 ≤ x4) (h4 : x4 ≤ 100) (h5 : 100 - x4 < ((x5 + 1 : Nat) : Int)) (h6 : x3 ≤ x4) (h7 : 0 ≤ x6) (h8 : x6 ≤ 100) (h9 : 100 - x6 < ((x1 + 1 : Nat) : Int)) (h10 : x6 < x3) (h11 : x0 = x6 + 1) : 100 - x0 < (x1 : Int) := by omega
theorem o19_546 {x0 x1 x2 x3 x5 : Int} {x4 x6 : Nat} (h0 : 0 ≤ x1) (h1 : x1 ≤ 25) (h2 : x2 = 4 * x1) (h3 : 0 ≤ x3) (h4 : x3 ≤ 100) (h5 : 100 - x3 < ((x4 + 1 : Nat) : Int)) (h6 : x2 ≤ x3) (h7 : 0 ≤ x5) (h8 : x5 ≤ 100) (h9 : 100 - x5 < ((x6 + 1 : Nat) : Int)) (h10 : x5 < x2) (h11 : x0 = x5 + 1) : 0 ≤ x0 := by omega
theorem o19_547 {x0 x1 x2 x3 x5 : Int} {x4 x6 : Nat} (h0 : 0 ≤ x1) (h1 : x1 ≤ 25) (h2 : x2 = 4 * x1) (h3 : 0 ≤ x3) (h4 : x3 ≤ 100) (h5 : 100 - x3 < ((x4 + 1 : Nat) : Int)) (h6 : x2 ≤ x3) (h7 : 0 ≤ x5) (h8 : x5 ≤ 100) (h9 : 100 - x5 < ((x6 + 1 : Nat) : Int)) (h10 : x5 < x2) (h11 : x0 = x5 + 1) : x0 ≤ 100 := by omega
theorem o19_548 {x0 : Int} (h0 : x0 = 400) : x0 = 400 := by omega
theorem o19_549 {x0 : Int} (h0 : 0 ≤ x0) (h1 : x0 ≤ 30) (h2 : -2147483648 ≤ x0) (h3 : x0 ≤ 2147483647) : -2147483648 ≤ x0 * 400 := by omega
theorem o19_550 {x0 : Int} (h0 : 0 ≤ x0) (h1 : x0 ≤ 30) (h2 : -2147483648 ≤ x0) (h3 : x0 ≤ 2147483647) : x0 * 400 ≤ 2147483647 := by omega
theorem o19_551 {x0 x1 x2 x3 : Int} {x4 x5 : Nat} (h0 : 0 ≤ x1) (h1 : x1 ≤ 25) (h2 : x2 = 4 * x1) (h3 : 0 ≤ x3) (h4 : x3 ≤ 100) (h5 : 100 - x3 < ((x4 + 1 : Nat) : Int)) (h6 : x2 ≤ x3) (h7 : 0 ≤ x0) (h8 : x0 ≤ 100) (h9 : 100 - x0 < ((x5 + 1 : Nat) : Int)) (h10 : x0 < x2) (h11 : -2147483648 ≤ x0) (h12 : x0 ≤ 2147483647) (h13 : -2147483648 ≤ x1) (h14 : x1 ≤ 2147483647) (h15 : -2147483648 ≤ x2) (h16 : x2 ≤ 2147483647) (h17 : -2147483648 ≤ x3) (h18 : x3 ≤ 2147483647) : -2147483648 ≤ 4 * x0 := by omega
theorem o19_552 {x0 x1 x2 x3 : Int} {x4 x5 : Nat} (h0 : 0 ≤ x1) (h1 : x1 ≤ 25) (h2 : x2 = 4 * x1) (h3 : 0 ≤ x3) (h4 : x3 ≤ 100) (h5 : 100 - x3 < ((x4 + 1 : Nat) : Int)) (h6 : x2 ≤ x3) (h7 : 0 ≤ x0) (h8 : x0 ≤ 100) (h9 : 100 - x0 < ((x5 + 1 : Nat) : Int)) (h10 : x0 < x2) (h11 : -2147483648 ≤ x0) (h12 : x0 ≤ 2147483647) (h13 : -2147483648 ≤ x1) (h14 : x1 ≤ 2147483647) (h15 : -2147483648 ≤ x2) (h16 : x2 ≤ 2147483647) (h17 : -2147483648 ≤ x3) (h18 : x3 ≤ 2147483647) : 4 * x0 ≤ 2147483647 := by omega
theorem o19_553 {x0 x1 x2 x3 x4 x5 x7 : Int} {x6 x8 : Nat} (h0 : 0 ≤ x2) (h1 : x2 ≤ 30) (h2 : 0 ≤ x3) (h3 : x3 ≤ 25) (h4 : x4 = 4 * x3) (h5 : 0 ≤ x5) (h6 : x5 ≤ 100) (h7 : 100 - x5 < ((x6 + 1 : Nat) : Int)) (h8 : x4 ≤ x5) (h9 : 0 ≤ x7) (h10 : x7 ≤ 100) (h11 : 100 - x7 < ((x8 + 1 : Nat) : Int)) (h12 : x7 < x4) (h13 : x0 = x2 * 400) (h14 : x1 = 4 * x7) (h15 : -2147483648 ≤ x0) (h16 : x0 ≤ 2147483647) (h17 : -2147483648 ≤ x1) (h18 : x1 ≤ 2147483647) (h19 : -2147483648 ≤ x2) (h20 : x2 ≤ 2147483647) (h21 : -2147483648 ≤ x3) (h22 : x3 ≤ 2147483647) (h23 : -2147483648 ≤ x4) (h24 : x4 ≤ 2147483647) (h25 : -2147483648 ≤ x5) (h26 : x5 ≤ 2147483647) (h27 : -2147483648 ≤ x7) (h28 : x7 ≤ 2147483647) : -2147483648 ≤ x0 + x1 := by omega
theorem o19_554 {x0 x1 x2 x3 x4 x5 x7 : Int} {x6 x8 : Nat} (h0 : 0 ≤ x2) (h1 : x2 ≤ 30) (h2 : 0 ≤ x3) (h3 : x3 ≤ 25) (h4 : x4 = 4 * x3) (h5 : 0 ≤ x5) (h6 : x5 ≤ 100) (h7 : 100 - x5 < ((x6 + 1 : Nat) : Int)) (h8 : x4 ≤ x5) (h9 : 0 ≤ x7) (h10 : x7 ≤ 100) (h11 : 100 - x7 < ((x8 + 1 : Nat) : Int)) (h12 : x7 < x4) (h13 : x0 = x2 * 400) (h14 : x1 = 4 * x7) (h15 : -2147483648 ≤ x0) (h16 : x0 ≤ 2147483647) (h17 : -2147483648 ≤ x1) (h18 : x1 ≤ 2147483647) (h19 : -2147483648 ≤ x2) (h20 : x2 ≤ 2147483647) (h21 : -2147483648 ≤ x3) (h22 : x3 ≤ 2147483647) (h23 : -2147483648 ≤ x4) (h24 : x4 ≤ 2147483647) (h25 : -2147483648 ≤ x5) (h26 : x5 ≤ 2147483647) (h27 : -2147483648 ≤ x7) (h28 : x7 ≤ 2147483647) : x0 + x1 ≤ 2147483647 := by omega
theorem o19_555 {x0 x1 x2 x3 x4 x5 x7 x10 x11 x12 : Int} {x6 x8 x9 : Nat} (h0 : 0 ≤ x2) (h1 : x2 ≤ 30) (h2 : 0 ≤ x3) (h3 : x3 ≤ 25) (h4 : x4 = 4 * x3) (h5 : 0 ≤ x5) (h6 : x5 ≤ 100) (h7 : 100 - x5 < ((x6 + 1 : Nat) : Int)) (h8 : x4 ≤ x5) (h9 : 0 ≤ x7) (h10 : x7 ≤ 100) (h11 : 100 - x7 < ((x8 + 1 : Nat) : Int)) (h12 : x7 < x4) (h13 : 0 ≤ x1) (h14 : x1 ≤ 4) (h15 : 4 - x1 < ((x9 + 1 : Nat) : Int)) (h16 : x10 = 4) (h17 : x1 < x10) (h18 : x11 = x2 * 400) (h19 : x12 = 4 * x7) (h20 : x0 = x11 + x12) (h21 : -2147483648 ≤ x0) (h22 : x0 ≤ 2147483647) (h23 : -2147483648 ≤ x1) (h24 : x1 ≤ 2147483647) (h25 : -2147483648 ≤ x2) (h26 : x2 ≤ 2147483647) (h27 : -2147483648 ≤ x3) (h28 : x3 ≤ 2147483647) (h29 : -2147483648 ≤ x4) (h30 : x4 ≤ 2147483647) (h31 : -2147483648 ≤ x5) (h32 : x5 ≤ 2147483647) (h33 : -2147483648 ≤ x7) (h34 : x7 ≤ 2147483647) (h35 : -2147483648 ≤ x10) (h36 : x10 ≤ 2147483647) (h37 : -2147483648 ≤ x11) (h38 : x11 ≤ 2147483647) (h39 : -2147483648 ≤ x12) (h40 : x12 ≤ 2147483647) : -2147483648 ≤ x0 + x1 := by omega
theorem o19_556 {x0 x1 x2 x3 x4 x5 x7 x10 x11 x12 : Int} {x6 x8 x9 : Nat} (h0 : 0 ≤ x2) (h1 : x2 ≤ 30) (h2 : 0 ≤ x3) (h3 : x3 ≤ 25) (h4 : x4 = 4 * x3) (h5 : 0 ≤ x5) (h6 : x5 ≤ 100) (h7 : 100 - x5 < ((x6 + 1 : Nat) : Int)) (h8 : x4 ≤ x5) (h9 : 0 ≤ x7) (h10 : x7 ≤ 100) (h11 : 100 - x7 < ((x8 + 1 : Nat) : Int)) (h12 : x7 < x4) (h13 : 0 ≤ x1) (h14 : x1 ≤ 4) (h15 : 4 - x1 < ((x9 + 1 : Nat) : Int)) (h16 : x10 = 4) (h17 : x1 < x10) (h18 : x11 = x2 * 400) (h19 : x12 = 4 * x7) (h20 : x0 = x11 + x12) (h21 : -2147483648 ≤ x0) (h22 : x0 ≤ 2147483647) (h23 : -2147483648 ≤ x1) (h24 : x1 ≤ 2147483647) (h25 : -2147483648 ≤ x2) (h26 : x2 ≤ 2147483647) (h27 : -2147483648 ≤ x3) (h28 : x3 ≤ 2147483647) (h29 : -2147483648 ≤ x4) (h30 : x4 ≤ 2147483647) (h31 : -2147483648 ≤ x5) (h32 : x5 ≤ 2147483647) (h33 : -2147483648 ≤ x7) (h34 : x7 ≤ 2147483647) (h35 : -2147483648 ≤ x10) (h36 : x10 ≤ 2147483647) (h37 : -2147483648 ≤ x11) (h38 : x11 ≤ 2147483647) (h39 : -2147483648 ≤ x12) (h40 : x12 ≤ 2147483647) : x0 + x1 ≤ 2147483647 := by omega
theorem o19_557 {x0 x1 x2 x3 x4 x7 x9 x10 x11 x12 x13 x14 : Int} {x5 x6 x8 : Nat} (h0 : 0 ≤ x1) (h1 : x1 ≤ 30) (h2 : 0 ≤ x2) (h3 : x2 ≤ 25) (h4 : x3 = 4 * x2) (h5 : 0 ≤ x4) (h6 : x4 ≤ 100) (h7 : 100 - x4 < ((x5 + 1 : Nat) : Int)) (h8 : x3 ≤ x4) (h9 : 0 ≤ x0) (h10 : x0 ≤ 100) (h11 : 100 - x0 < ((x6 + 1 : Nat) : Int)) (h12 : x0 < x3) (h13 : 0 ≤ x7) (h14 : x7 ≤ 4) (h15 : 4 - x7 < ((x8 + 1 : Nat) : Int)) (h16 : x9 = 4) (h17 : x7 < x9) (h18 : x10 = x1 * 400) (h19 : x11 = 4 * x0) (h20 : x12 = x10 + x11) (h21 : x13 = x12 + x7) (h22 : x14 = x0 / 4) (h23 : -2147483648 ≤ x0) (h24 : x0 ≤ 2147483647) (h25 : -2147483648 ≤ x1) (h26 : x1 ≤ 2147483647) (h27 : -2147483648 ≤ x2) (h28 : x2 ≤ 2147483647) (h29 : -2147483648 ≤ x3) (h30 : x3 ≤ 2147483647) (h31 : -2147483648 ≤ x4) (h32 : x4 ≤ 2147483647) (h33 : -2147483648 ≤ x7) (h34 : x7 ≤ 2147483647) (h35 : -2147483648 ≤ x9) (h36 : x9 ≤ 2147483647) (h37 : -2147483648 ≤ x10) (h38 : x10 ≤ 2147483647) (h39 : -2147483648 ≤ x11) (h40 : x11 ≤ 2147483647) (h41 : -2147483648 ≤ x12) (h42 : x12 ≤ 2147483647) (h43 : -2147483648 ≤ x13) (h44 : x13 ≤ 2147483647) (h45 : -2147483648 ≤ x14) (h46 : x14 ≤ 2147483647) : -2147483648 ≤ 4 * x0 := by omega
theorem o19_558 {x0 x1 x2 x3 x4 x7 x9 x10 x11 x12 x13 x14 : Int} {x5 x6 x8 : Nat} (h0 : 0 ≤ x1) (h1 : x1 ≤ 30) (h2 : 0 ≤ x2) (h3 : x2 ≤ 25) (h4 : x3 = 4 * x2) (h5 : 0 ≤ x4) (h6 : x4 ≤ 100) (h7 : 100 - x4 < ((x5 + 1 : Nat) : Int)) (h8 : x3 ≤ x4) (h9 : 0 ≤ x0) (h10 : x0 ≤ 100) (h11 : 100 - x0 < ((x6 + 1 : Nat) : Int)) (h12 : x0 < x3) (h13 : 0 ≤ x7) (h14 : x7 ≤ 4) (h15 : 4 - x7 < ((x8 + 1 : Nat) : Int)) (h16 : x9 = 4) (h17 : x7 < x9) (h18 : x10 = x1 * 400) (h19 : x11 = 4 * x0) (h20 : x12 = x10 + x11) (h21 : x13 = x12 + x7) (h22 : x14 = x0 / 4) (h23 : -2147483648 ≤ x0) (h24 : x0 ≤ 2147483647) (h25 : -2147483648 ≤ x1) (h26 : x1 ≤ 2147483647) (h27 : -2147483648 ≤ x2) (h28 : x2 ≤ 2147483647) (h29 : -2147483648 ≤ x3) (h30 : x3 ≤ 2147483647) (h31 : -2147483648 ≤ x4) (h32 : x4 ≤ 2147483647) (h33 : -2147483648 ≤ x7) (h34 : x7 ≤ 2147483647) (h35 : -2147483648 ≤ x9) (h36 : x9 ≤ 2147483647) (h37 : -2147483648 ≤ x10) (h38 : x10 ≤ 2147483647) (h39 : -2147483648 ≤ x11) (h40 : x11 ≤ 2147483647) (h41 : -2147483648 ≤ x12) (h42 : x12 ≤ 2147483647) (h43 : -2147483648 ≤ x13) (h44 : x13 ≤ 2147483647) (h45 : -2147483648 ≤ x14) (h46 : x14 ≤ 2147483647) : 4 * x0 ≤ 2147483647 := by omega
theorem o19_559 {x0 x1 x2 x3 x4 x5 x7 x10 x11 x12 x13 x14 x15 : Int} {x6 x8 x9 : Nat} (h0 : 0 ≤ x2) (h1 : x2 ≤ 30) (h2 : 0 ≤ x3) (h3 : x3 ≤ 25) (h4 : x4 = 4 * x3) (h5 : 0 ≤ x5) (h6 : x5 ≤ 100) (h7 : 100 - x5 < ((x6 + 1 : Nat) : Int)) (h8 : x4 ≤ x5) (h9 : 0 ≤ x7) (h10 : x7 ≤ 100) (h11 : 100 - x7 < ((x8 + 1 : Nat) : Int)) (h12 : x7 < x4) (h13 : 0 ≤ x1) (h14 : x1 ≤ 4) (h15 : 4 - x1 < ((x9 + 1 : Nat) : Int)) (h16 : x10 = 4) (h17 : x1 < x10) (h18 : x11 = x2 * 400) (h19 : x12 = 4 * x7) (h20 : x13 = x11 + x12) (h21 : x14 = x13 + x1) (h22 : x15 = x7 / 4) (h23 : x0 = 4 * x7) (h24 : -2147483648 ≤ x0) (h25 : x0 ≤ 2147483647) (h26 : -2147483648 ≤ x1) (h27 : x1 ≤ 2147483647) (h28 : -2147483648 ≤ x2) (h29 : x2 ≤ 2147483647) (h30 : -2147483648 ≤ x3) (h31 : x3 ≤ 2147483647) (h32 : -2147483648 ≤ x4) (h33 : x4 ≤ 2147483647) (h34 : -2147483648 ≤ x5) (h35 : x5 ≤ 2147483647) (h36 : -2147483648 ≤ x7) (h37 : x7 ≤ 2147483647) (h38 : -2147483648 ≤ x10) (h39 : x10 ≤ 2147483647) (h40 : -2147483648 ≤ x11) (h41 : x11 ≤ 2147483647) (h42 : -2147483648 ≤ x12) (h43 : x12 ≤ 2147483647) (h44 : -2147483648 ≤ x13) (h45 : x13 ≤ 2147483647) (h46 : -2147483648 ≤ x14) (h47 : x14 ≤ 2147483647) (h48 : -2147483648 ≤ x15) (h49 : x15 ≤ 2147483647) : -2147483648 ≤ x0 + x1 := by omega
theorem o19_560 {x0 x1 x2 x3 x4 x5 x7 x10 x11 x12 x13 x14 x15 : Int} {x6 x8 x9 : Nat} (h0 : 0 ≤ x2) (h1 : x2 ≤ 30) (h2 : 0 ≤ x3) (h3 : x3 ≤ 25) (h4 : x4 = 4 * x3) (h5 : 0 ≤ x5) (h6 : x5 ≤ 100) (h7 : 100 - x5 < ((x6 + 1 : Nat) : Int)) (h8 : x4 ≤ x5) (h9 : 0 ≤ x7) (h10 : x7 ≤ 100) (h11 : 100 - x7 < ((x8 + 1 : Nat) : Int)) (h12 : x7 < x4) (h13 : 0 ≤ x1) (h14 : x1 ≤ 4) (h15 : 4 - x1 < ((x9 + 1 : Nat) : Int)) (h16 : x10 = 4) (h17 : x1 < x10) (h18 : x11 = x2 * 400) (h19 : x12 = 4 * x7) (h20 : x13 = x11 + x12) (h21 : x14 = x13 + x1) (h22 : x15 = x7 / 4) (h23 : x0 = 4 * x7) (h24 : -2147483648 ≤ x0) (h25 : x0 ≤ 2147483647) (h26 : -2147483648 ≤ x1) (h27 : x1 ≤ 2147483647) (h28 : -2147483648 ≤ x2) (h29 : x2 ≤ 2147483647) (h30 : -2147483648 ≤ x3) (h31 : x3 ≤ 2147483647) (h32 : -2147483648 ≤ x4) (h33 : x4 ≤ 2147483647) (h34 : -2147483648 ≤ x5) (h35 : x5 ≤ 2147483647) (h36 : -2147483648 ≤ x7) (h37 : x7 ≤ 2147483647) (h38 : -2147483648 ≤ x10) (h39 : x10 ≤ 2147483647) (h40 : -2147483648 ≤ x11) (h41 : x11 ≤ 2147483647) (h42 : -2147483648 ≤ x12) (h43 : x12 ≤ 2147483647) (h44 : -2147483648 ≤ x13) (h45 : x13 ≤ 2147483647) (h46 : -2147483648 ≤ x14) (h47 : x14 ≤ 2147483647) (h48 : -2147483648 ≤ x15) (h49 : x15 ≤ 2147483647) : x0 + x1 ≤ 2147483647 := by omega
theorem o19_561 {x0 x1 x2 x3 x4 x6 x8 x10 x11 x12 x13 x14 x15 x16 : Int} {x5 x7 x9 : Nat} (h0 : 0 ≤ x1) (h1 : x1 ≤ 30) (h2 : 0 ≤ x2) (h3 : x2 ≤ 25) (h4 : x3 = 4 * x2) (h5 : 0 ≤ x4) (h6 : x4 ≤ 100) (h7 : 100 - x4 < ((x5 + 1 : Nat) : Int)) (h8 : x3 ≤ x4) (h9 : 0 ≤ x6) (h10 : x6 ≤ 100) (h11 : 100 - x6 < ((x7 + 1 : Nat) : Int)) (h12 : x6 < x3) (h13 : 0 ≤ x8) (h14 : x8 ≤ 4) (h15 : 4 - x8 < ((x9 + 1 : Nat) : Int)) (h16 : x10 = 4) (h17 : x8 < x10) (h18 : x11 = x1 * 400) (h19 : x12 = 4 * x6) (h20 : x13 = x11 + x12) (h21 : x14 = x13 + x8) (h22 : x15 = x6 / 4) (h23 : x16 = 4 * x6) (h24 : x0 = x16 + x8) : 0 ≤ x0 := by omega
theorem o19_562 {x0 x1 x2 x3 x4 x6 x8 x10 x11 x12 x13 x14 x15 x16 : Int} {x5 x7 x9 : Nat} (h0 : 0 ≤ x1) (h1 : x1 ≤ 30) (h2 : 0 ≤ x2) (h3 : x2 ≤ 25) (h4 : x3 = 4 * x2) (h5 : 0 ≤ x4) (h6 : x4 ≤ 100) (h7 : 100 - x4 < ((x5 + 1 : Nat) : Int)) (h8 : x3 ≤ x4) (h9 : 0 ≤ x6) (h10 : x6 ≤ 100) (h11 : 100 - x6 < ((x7 + 1 : Nat) : Int)) (h12 : x6 < x3) (h13 : 0 ≤ x8) (h14 : x8 ≤ 4) (h15 : 4 - x8 < ((x9 + 1 : Nat) : Int)) (h16 : x10 = 4) (h17 : x8 < x10) (h18 : x11 = x1 * 400) (h19 : x12 = 4 * x6) (h20 : x13 = x11 + x12) (h21 : x14 = x13 + x8) (h22 : x15 = x6 / 4) (h23 : x16 = 4 * x6) (h24 : x0 = x16 + x8) : x0 < (400 : Nat) := by omega
theorem o19_563 {x0 x1 x2 x3 x4 x7 x9 x10 x11 x12 x13 x14 x15 x16 : Int} {x5 x6 x8 : Nat} (h0 : 0 ≤ x1) (h1 : x1 ≤ 30) (h2 : 0 ≤ x2) (h3 : x2 ≤ 25) (h4 : x3 = 4 * x2) (h5 : 0 ≤ x4) (h6 : x4 ≤ 100) (h7 : 100 - x4 < ((x5 + 1 : Nat) : Int)) (h8 : x3 ≤ x4) (h9 : 0 ≤ x0) (h10 : x0 ≤ 100) (h11 : 100 - x0 < ((x6 + 1 : Nat) : Int)) (h12 : x0 < x3) (h13 : 0 ≤ x7) (h14 : x7 ≤ 4) (h15 : 4 - x7 < ((x8 + 1 : Nat) : Int)) (h16 : x9 = 4) (h17 : x7 < x9) (h18 : x10 = x1 * 400) (h19 : x11 = 4 * x0) (h20 : x12 = x10 + x11) (h21 : x13 = x12 + x7) (h22 : x14 = x0 / 4) (h23 : x15 = 4 * x0) (h24 : x16 = x15 + x7) (h25 : -2147483648 ≤ x0) (h26 : x0 ≤ 2147483647) (h27 : -2147483648 ≤ x1) (h28 : x1 ≤ 2147483647) (h29 : -2147483648 ≤ x2) (h30 : x2 ≤ 2147483647) (h31 : -2147483648 ≤ x3) (h32 : x3 ≤ 2147483647) (h33 : -2147483648 ≤ x4) (h34 : x4 ≤ 2147483647) (h35 : -2147483648 ≤ x7) (h36 : x7 ≤ 2147483647) (h37 : -2147483648 ≤ x9) (h38 : x9 ≤ 2147483647) (h39 : -2147483648 ≤ x10) (h40 : x10 ≤ 2147483647) (h41 : -2147483648 ≤ x11) (h42 : x11 ≤ 2147483647) (h43 : -2147483648 ≤ x12) (h44 : x12 ≤ 2147483647) (h45 : -2147483648 ≤ x13) (h46 : x13 ≤ 2147483647) (h47 : -2147483648 ≤ x14) (h48 : x14 ≤ 2147483647) (h49 : -2147483648 ≤ x15) (h50 : x15 ≤ 2147483647) (h51 : -2147483648 ≤ x16) (h52 : x16 ≤ 2147483647) : -2147483648 ≤ 4 * x0 := by omega
theorem o19_564 {x0 x1 x2 x3 x4 x7 x9 x10 x11 x12 x13 x14 x15 x16 : Int} {x5 x6 x8 : Nat} (h0 : 0 ≤ x1) (h1 : x1 ≤ 30) (h2 : 0 ≤ x2) (h3 : x2 ≤ 25) (h4 : x3 = 4 * x2) (h5 : 0 ≤ x4) (h6 : x4 ≤ 100) (h7 : 100 - x4 < ((x5 + 1 : Nat) : Int)) (h8 : x3 ≤ x4) (h9 : 0 ≤ x0) (h10 : x0 ≤ 100) (h11 : 100 - x0 < ((x6 + 1 : Nat) : Int)) (h12 : x0 < x3) (h13 : 0 ≤ x7) (h14 : x7 ≤ 4) (h15 : 4 - x7 < ((x8 + 1 : Nat) : Int)) (h16 : x9 = 4) (h17 : x7 < x9) (h18 : x10 = x1 * 400) (h19 : x11 = 4 * x0) (h20 : x12 = x10 + x11) (h21 : x13 = x12 + x7) (h22 : x14 = x0 / 4) (h23 : x15 = 4 * x0) (h24 : x16 = x15 + x7) (h25 : -2147483648 ≤ x0) (h26 : x0 ≤ 2147483647) (h27 : -2147483648 ≤ x1) (h28 : x1 ≤ 2147483647) (h29 : -2147483648 ≤ x2) (h30 : x2 ≤ 2147483647) (h31 : -2147483648 ≤ x3) (h32 : x3 ≤ 2147483647) (h33 : -2147483648 ≤ x4) (h34 : x4 ≤ 2147483647) (h35 : -2147483648 ≤ x7) (h36 : x7 ≤ 2147483647) (h37 : -2147483648 ≤ x9) (h38 : x9 ≤ 2147483647) (h39 : -2147483648 ≤ x10) (h40 : x10 ≤ 2147483647) (h41 : -2147483648 ≤ x11) (h42 : x11 ≤ 2147483647) (h43 : -2147483648 ≤ x12) (h44 : x12 ≤ 2147483647) (h45 : -2147483648 ≤ x13) (h46 : x13 ≤ 2147483647) (h47 : -2147483648 ≤ x14) (h48 : x14 ≤ 2147483647) (h49 : -2147483648 ≤ x15) (h50 : x15 ≤ 2147483647) (h51 : -2147483648 ≤ x16) (h52 : x16 ≤ 2147483647) : 4 * x0 ≤ 2147483647 := by omega
theorem o19_565 {x0 x1 x2 x3 x4 x5 x7 x10 x11 x12 x13 x14 x15 x16 x17 : Int} {x6 x8 x9 : Nat} (h0 : 0 ≤ x2) (h1 : x2 ≤ 30) (h2 : 0 ≤ x3) (h3 : x3 ≤ 25) (h4 : x4 = 4 * x3) (h5 : 0 ≤ x5) (h6 : x5 ≤ 100) (h7 : 100 - x5 < ((x6 + 1 : Nat) : Int)) (h8 : x4 ≤ x5) (h9 : 0 ≤ x7) (h10 : x7 ≤ 100) (h11 : 100 - x7 < ((x8 + 1 : Nat) : Int)) (h12 : x7 < x4) (h13 : 0 ≤ x1) (h14 : x1 ≤ 4) (h15 : 4 - x1 < ((x9 + 1 : Nat) : Int)) (h16 : x10 = 4) (h17 : x1 < x10) (h18 : x11 = x2 * 400) (h19 : x12 = 4 * x7) (h20 : x13 = x11 + x12) (h21 : x14 = x13 + x1) (h22 : x15 = x7 / 4) (h23 : x16 = 4 * x7) (h24 : x17 = x16 + x1) (h25 : x0 = 4 * x7) (h26 : -2147483648 ≤ x0) (h27 : x0 ≤ 2147483647) (h28 : -2147483648 ≤ x1) (h29 : x1 ≤ 2147483647) (h30 : -2147483648 ≤ x2) (h31 : x2 ≤ 2147483647) (h32 : -2147483648 ≤ x3) (h33 : x3 ≤ 2147483647) (h34 : -2147483648 ≤ x4) (h35 : x4 ≤ 2147483647) (h36 : -2147483648 ≤ x5) (h37 : x5 ≤ 2147483647) (h38 : -2147483648 ≤ x7) (h39 : x7 ≤ 2147483647) (h40 : -2147483648 ≤ x10) (h41 : x10 ≤ 2147483647) (h42 : -2147483648 ≤ x11) (h43 : x11 ≤ 2147483647) (h44 : -2147483648 ≤ x12) (h45 : x12 ≤ 2147483647) (h46 : -2147483648 ≤ x13) (h47 : x13 ≤ 2147483647) (h48 : -2147483648 ≤ x14) (h49 : x14 ≤ 2147483647) (h50 : -2147483648 ≤ x15) (h51 : x15 ≤ 2147483647) (h52 : -2147483648 ≤ x16) (h53 : x16 ≤ 2147483647) (h54 : -2147483648 ≤ x17) (h55 : x17 ≤ 2147483647) : -2147483648 ≤ x0 + x1 := by omega
theorem o19_566 {x0 x1 x2 x3 x4 x5 x7 x10 x11 x12 x13 x14 x15 x16 x17 : Int} {x6 x8 x9 : Nat} (h0 : 0 ≤ x2) (h1 : x2 ≤ 30) (h2 : 0 ≤ x3) (h3 : x3 ≤ 25) (h4 : x4 = 4 * x3) (h5 : 0 ≤ x5) (h6 : x5 ≤ 100) (h7 : 100 - x5 < ((x6 + 1 : Nat) : Int)) (h8 : x4 ≤ x5) (h9 : 0 ≤ x7) (h10 : x7 ≤ 100) (h11 : 100 - x7 < ((x8 + 1 : Nat) : Int)) (h12 : x7 < x4) (h13 : 0 ≤ x1) (h14 : x1 ≤ 4) (h15 : 4 - x1 < ((x9 + 1 : Nat) : Int)) (h16 : x10 = 4) (h17 : x1 < x10) (h18 : x11 = x2 * 400) (h19 : x12 = 4 * x7) (h20 : x13 = x11 + x12) (h21 : x14 = x13 + x1) (h22 : x15 = x7 / 4) (h23 : x16 = 4 * x7) (h24 : x17 = x16 + x1) (h25 : x0 = 4 * x7) (h26 : -2147483648 ≤ x0) (h27 : x0 ≤ 2147483647) (h28 : -2147483648 ≤ x1) (h29 : x1 ≤ 2147483647) (h30 : -2147483648 ≤ x2) (h31 : x2 ≤ 2147483647) (h32 : -2147483648 ≤ x3) (h33 : x3 ≤ 2147483647) (h34 : -2147483648 ≤ x4) (h35 : x4 ≤ 2147483647) (h36 : -2147483648 ≤ x5) (h37 : x5 ≤ 2147483647) (h38 : -2147483648 ≤ x7) (h39 : x7 ≤ 2147483647) (h40 : -2147483648 ≤ x10) (h41 : x10 ≤ 2147483647) (h42 : -2147483648 ≤ x11) (h43 : x11 ≤ 2147483647) (h44 : -2147483648 ≤ x12) (h45 : x12 ≤ 2147483647) (h46 : -2147483648 ≤ x13) (h47 : x13 ≤ 2147483647) (h48 : -2147483648 ≤ x14) (h49 : x14 ≤ 2147483647) (h50 : -2147483648 ≤ x15) (h51 : x15 ≤ 2147483647) (h52 : -2147483648 ≤ x16) (h53 : x16 ≤ 2147483647) (h54 : -2147483648 ≤ x17) (h55 : x17 ≤ 2147483647) : x0 + x1 ≤ 2147483647 := by omega
theorem o19_567 {x0 x1 x2 x3 x4 x6 x8 x10 x11 x12 x13 x14 x15 x16 x17 x18 : Int} {x5 x7 x9 : Nat} (h0 : 0 ≤ x1) (h1 : x1 ≤ 30) (h2 : 0 ≤ x2) (h3 : x2 ≤ 25) (h4 : x3 = 4 * x2) (h5 : 0 ≤ x4) (h6 : x4 ≤ 100) (h7 : 100 - x4 < ((x5 + 1 : Nat) : Int)) (h8 : x3 ≤ x4) (h9 : 0 ≤ x6) (h10 : x6 ≤ 100) (h11 : 100 - x6 < ((x7 + 1 : Nat) : Int)) (h12 : x6 < x3) (h13 : 0 ≤ x8) (h14 : x8 ≤ 4) (h15 : 4 - x8 < ((x9 + 1 : Nat) : Int)) (h16 : x10 = 4) (h17 : x8 < x10) (h18 : x11 = x1 * 400) (h19 : x12 = 4 * x6) (h20 : x13 = x11 + x12) (h21 : x14 = x13 + x8) (h22 : x15 = x6 / 4) (h23 : x16 = 4 * x6) (h24 : x17 = x16 + x8) (h25 : x18 = 4 * x6) (h26 : x0 = x18 + x8) : 0 ≤ x0 := by omega
theorem o19_568 {x0 x1 x2 x3 x4 x6 x8 x10 x11 x12 x13 x14 x15 x16 x17 x18 : Int} {x5 x7 x9 : Nat} (h0 : 0 ≤ x1) (h1 : x1 ≤ 30) (h2 : 0 ≤ x2) (h3 : x2 ≤ 25) (h4 : x3 = 4 * x2) (h5 : 0 ≤ x4) (h6 : x4 ≤ 100) (h7 : 100 - x4 < ((x5 + 1 : Nat) : Int)) (h8 : x3 ≤ x4) (h9 : 0 ≤ x6) (h10 : x6 ≤ 100) (h11 : 100 - x6 < ((x7 + 1 : Nat) : Int)) (h12 : x6 < x3) (h13 : 0 ≤ x8) (h14 : x8 ≤ 4) (h15 : 4 - x8 < ((x9 + 1 : Nat) : Int)) (h16 : x10 = 4) (h17 : x8 < x10) (h18 : x11 = x1 * 400) (h19 : x12 = 4 * x6) (h20 : x13 = x11 + x12) (h21 : x14 = x13 + x8) (h22 : x15 = x6 / 4) (h23 : x16 = 4 * x6) (h24 : x17 = x16 + x8) (h25 : x18 = 4 * x6) (h26 : x0 = x18 + x8) : x0 < (400 : Nat) := by omega
theorem o19_569 {x0 x1 x2 x3 x4 x6 x8 x10 x11 x12 x13 x14 x15 x16 x17 x18 : Int} {x5 x7 x9 : Nat} (h0 : 0 ≤ x1) (h1 : x1 ≤ 30) (h2 : 0 ≤ x2) (h3 : x2 ≤ 25) (h4 : x3 = 4 * x2) (h5 : 0 ≤ x4) (h6 : x4 ≤ 100) (h7 : 100 - x4 < ((x5 + 1 : Nat) : Int)) (h8 : x3 ≤ x4) (h9 : 0 ≤ x6) (h10 : x6 ≤ 100) (h11 : 100 - x6 < ((x7 + 1 : Nat) : Int)) (h12 : x6 < x3) (h13 : 0 ≤ x8) (h14 : x8 ≤ 4) (h15 : 4 - x8 < ((x9 + 1 : Nat) : Int)) (h16 : x10 = 4) (h17 : x8 < x10) (h18 : x11 = x1 * 400) (h19 : x12 = 4 * x6) (h20 : x13 = x11 + x12) (h21 : x0 = x13 + x8) (h22 : x14 = x6 / 4) (h23 : x15 = 4 * x6) (h24 : x16 = x15 + x8) (h25 : x17 = 4 * x6) (h26 : x18 = x17 + x8) : 0 ≤ x0 := by omega
theorem o19_570 {x0 x1 x2 x3 x4 x6 x8 x10 x11 x12 x13 x14 x15 x16 x17 x18 : Int} {x5 x7 x9 : Nat} (h0 : 0 ≤ x1) (h1 : x1 ≤ 30) (h2 : 0 ≤ x2) (h3 : x2 ≤ 25) (h4 : x3 = 4 * x2) (h5 : 0 ≤ x4) (h6 : x4 ≤ 100) (h7 : 100 - x4 < ((x5 + 1 : Nat) : Int)) (h8 : x3 ≤ x4) (h9 : 0 ≤ x6) (h10 : x6 ≤ 100) (h11 : 100 - x6 < ((x7 + 1 : Nat) : Int)) (h12 : x6 < x3) (h13 : 0 ≤ x8) (h14 : x8 ≤ 4) (h15 : 4 - x8 < ((x9 + 1 : Nat) : Int)) (h16 : x10 = 4) (h17 : x8 < x10) (h18 : x11 = x1 * 400) (h19 : x12 = 4 * x6) (h20 : x13 = x11 + x12) (h21 : x0 = x13 + x8) (h22 : x14 = x6 / 4) (h23 : x15 = 4 * x6) (h24 : x16 = x15 + x8) (h25 : x17 = 4 * x6) (h26 : x18 = x17 + x8) : x0 < (12400 : Nat) := by omega
theorem o19_571 {x0 x1 x2 x3 x4 x6 x9 x10 x11 x12 x13 x14 x15 x16 x17 x18 : Int} {x5 x7 x8 : Nat} (h0 : 0 ≤ x1) (h1 : x1 ≤ 30) (h2 : 0 ≤ x2) (h3 : x2 ≤ 25) (h4 : x3 = 4 * x2) (h5 : 0 ≤ x4) (h6 : x4 ≤ 100) (h7 : 100 - x4 < ((x5 + 1 : Nat) : Int)) (h8 : x3 ≤ x4) (h9 : 0 ≤ x6) (h10 : x6 ≤ 100) (h11 : 100 - x6 < ((x7 + 1 : Nat) : Int)) (h12 : x6 < x3) (h13 : 0 ≤ x0) (h14 : x0 ≤ 4) (h15 : 4 - x0 < ((x8 + 1 : Nat) : Int)) (h16 : x9 = 4) (h17 : x0 < x9) (h18 : x10 = x1 * 400) (h19 : x11 = 4 * x6) (h20 : x12 = x10 + x11) (h21 : x13 = x12 + x0) (h22 : x14 = x6 / 4) (h23 : x15 = 4 * x6) (h24 : x16 = x15 + x0) (h25 : x17 = 4 * x6) (h26 : x18 = x17 + x0) (h27 : -2147483648 ≤ x0) (h28 : x0 ≤ 2147483647) (h29 : -2147483648 ≤ x1) (h30 : x1 ≤ 2147483647) (h31 : -2147483648 ≤ x2) (h32 : x2 ≤ 2147483647) (h33 : -2147483648 ≤ x3) (h34 : x3 ≤ 2147483647) (h35 : -2147483648 ≤ x4) (h36 : x4 ≤ 2147483647) (h37 : -2147483648 ≤ x6) (h38 : x6 ≤ 2147483647) (h39 : -2147483648 ≤ x9) (h40 : x9 ≤ 2147483647) (h41 : -2147483648 ≤ x10) (h42 : x10 ≤ 2147483647) (h43 : -2147483648 ≤ x11) (h44 : x11 ≤ 2147483647) (h45 : -2147483648 ≤ x12) (h46 : x12 ≤ 2147483647) (h47 : -2147483648 ≤ x13) (h48 : x13 ≤ 2147483647) (h49 : -2147483648 ≤ x14) (h50 : x14 ≤ 2147483647) (h51 : -2147483648 ≤ x15) (h52 : x15 ≤ 2147483647) (h53 : -2147483648 ≤ x16) (h54 : x16 ≤ 2147483647) (h55 : -2147483648 ≤ x17) (h56 : x17 ≤ 2147483647) (h57 : -2147483648 ≤ x18) (h58 : x18 ≤ 2147483647) : -2147483648 ≤ x0 + 1 := by omega
theorem o19_572 {x0 x1 x2 x3 x4 x6 x9 x10 x11 x12 x13 x14 x15 x16 x17 x18 : Int} {x5 x7 x8 : Nat} (h0 : 0 ≤ x1) (h1 : x1 ≤ 30) (h2 : 0 ≤ x2) (h3 : x2 ≤ 25) (h4 : x3 = 4 * x2) (h5 : 0 ≤ x4) (h6 : x4 ≤ 100) (h7 : 100 - x4 < ((x5 + 1 : Nat) : Int)) (h8 : x3 ≤ x4) (h9 : 0 ≤ x6) (h10 : x6 ≤ 100) (h11 : 100 - x6 < ((x7 + 1 : Nat) : Int)) (h12 : x6 < x3) (h13 : 0 ≤ x0) (h14 : x0 ≤ 4) (h15 : 4 - x0 < ((x8 + 1 : Nat) : Int)) (h16 : x9 = 4) (h17 : x0 < x9) (h18 : x10 = x1 * 400) (h19 : x11 = 4 * x6) (h20 : x12 = x10 + x11) (h21 : x13 = x12 + x0) (h22 : x14 = x6 / 4) (h23 : x15 = 4 * x6) (h24 : x16 = x15 + x0) (h25 : x17 = 4 * x6) (h26 : x18 = x17 + x0) (h27 : -2147483648 ≤ x0) (h28 : x0 ≤ 2147483647) (h29 : -2147483648 ≤ x1) (h30 : x1 ≤ 2147483647) (h31 : -2147483648 ≤ x2) (h32 : x2 ≤ 2147483647) (h33 : -2147483648 ≤ x3) (h34 : x3 ≤ 2147483647) (h35 : -2147483648 ≤ x4) (h36 : x4 ≤ 2147483647) (h37 : -2147483648 ≤ x6) (h38 : x6 ≤ 2147483647) (h39 : -2147483648 ≤ x9) (h40 : x9 ≤ 2147483647) (h41 : -2147483648 ≤ x10) (h42 : x10 ≤ 2147483647) (h43 : -2147483648 ≤ x11) (h44 : x11 ≤ 2147483647) (h45 : -2147483648 ≤ x12) (h46 : x12 ≤ 2147483647) (h47 : -2147483648 ≤ x13) (h48 : x13 ≤ 2147483647) (h49 : -2147483648 ≤ x14) (h50 : x14 ≤ 2147483647) (h51 : -2147483648 ≤ x15) (h52 : x15 ≤ 2147483647) (h53 : -2147483648 ≤ x16) (h54 : x16 ≤ 2147483647) (h55 : -2147483648 ≤ x17) (h56 : x17 ≤ 2147483647) (h57 : -2147483648 ≤ x18) (h58 : x18 ≤ 2147483647) : x0 + 1 ≤ 2147483647 := by omega
theorem o19_573 {x0 x2 x3 x4 x5 x7 x9 x10 x11 x12 x13 x14 x15 x16 x17 x18 x19 : Int} {x1 x6 x8 : Nat} (h0 : 0 ≤ x2) (h1 : x2 ≤ 30) (h2 : 0 ≤ x3) (h3 : x3 ≤ 25) (h4 : x4 = 4 * x3) (h5 : 0 ≤ x5) (h6 : x5 ≤ 100) (h7 : 100 - x5 < ((x6 + 1 : Nat) : Int)) (h8 : x4 ≤ x5) (h9 : 0 ≤ x7) (h10 : x7 ≤ 100) (h11 : 100 - x7 < ((x8 + 1 : Nat) : Int)) (h12 : x7 < x4) (h13 : 0 ≤ x9) (h14 : x9 ≤ 4) (h15 : 4 - x9 < ((x1 + 1 : Nat) : Int)) (h16 : x10 = 4) (h17 : x9 < x10) (h18 : x11 = x2 * 400) (h19 : x12 = 4 * x7) (h20 : x13 = x11 + x12) (h21 : x14 = x13 + x9) (h22 : x15 = x7 / 4) (h23 : x16 = 4 * x7) (h24 : x17 = x16 + x9) (h25 : x18 = 4 * x7) (h26 : x19 = x18 + x9) (h27 : x0 = x9 + 1) : 4 - x0 < (x1 : Int) := by omega
theorem o19_574 {x0 x1 x2 x3 x4 x6 x8 x10 x11 x12 x13 x14 x15 x16 x17 x18 x19 : Int} {x5 x7 x9 : Nat} (h0 : 0 ≤ x1) (h1 : x1 ≤ 30) (h2 : 0 ≤ x2) (h3 : x2 ≤ 25) (h4 : x3 = 4 * x2) (h5 : 0 ≤ x4) (h6 : x4 ≤ 100) (h7 : 100 - x4 < ((x5 + 1 : Nat) : Int)) (h8 : x3 ≤ x4) (h9 : 0 ≤ x6) (h10 : x6 ≤ 100) (h11 : 100 - x6 < ((x7 + 1 : Nat) : Int)) (h12 : x6 < x3) (h13 : 0 ≤ x8) (h14 : x8 ≤ 4) (h15 : 4 - x8 < ((x9 + 1 : Nat) : Int)) (h16 : x10 = 4) (h17 : x8 < x10) (h18 : x11 = x1 * 400) (h19 : x12 = 4 * x6) (h20 : x13 = x11 + x12) (h21 : x14 = x13 + x8) (h22 : x15 = x6 / 4) (h23 : x16 = 4 * x6) (h24 : x17 = x16 + x8) (h25 : x18 = 4 * x6) (h26 : x19 = x18 + x8) (h27 : x0 = x8 + 1) : 0 ≤ x0 := by omega
theorem o19_575 {x0 x1 x2 x3 x4 x6 x8 x10 x11 x12 x13 x14 x15 x16 x17 x18 x19 : Int} {x5 x7 x9 : Nat} (h0 : 0 ≤ x1) (h1 : x1 ≤ 30) (h2 : 0 ≤ x2) (h3 : x2 ≤ 25) (h4 : x3 = 4 * x2) (h5 : 0 ≤ x4) (h6 : x4 ≤ 100) (h7 : 100 - x4 < ((x5 + 1 : Nat) : Int)) (h8 : x3 ≤ x4) (h9 : 0 ≤ x6) (h10 : x6 ≤ 100) (h11 : 100 - x6 < ((x7 + 1 : Nat) : Int)) (h12 : x6 < x3) (h13 : 0 ≤ x8) (h14 : x8 ≤ 4) (h15 : 4 - x8 < ((x9 + 1 : Nat) : Int)) (h16 : x10 = 4) (h17 : x8 < x10) (h18 : x11 = x1 * 400) (h19 : x12 = 4 * x6) (h20 : x13 = x11 + x12) (h21 : x14 = x13 + x8) (h22 : x15 = x6 / 4) (h23 : x16 = 4 * x6) (h24 : x17 = x16 + x8) (h25 : x18 = 4 * x6) (h26 : x19 = x18 + x8) (h27 : x0 = x8 + 1) : x0 ≤ 4 := by omega
theorem o19_576 {x0 : Int} (h0 : (-1) ≤ x0) (h1 : x0 ≤ 99) (h2 : 0 ≤ x0) (h3 : x0 < 0) : False := by omega
theorem o19_577 {x0 : Int} (h0 : (-1) ≤ x0) (h1 : x0 ≤ 99) (h2 : 0 ≤ x0) (h3 : -2147483648 ≤ x0) (h4 : x0 ≤ 2147483647) : -2147483648 ≤ 4 * x0 := by omega
theorem o19_578 {x0 : Int} (h0 : (-1) ≤ x0) (h1 : x0 ≤ 99) (h2 : 0 ≤ x0) (h3 : -2147483648 ≤ x0) (h4 : x0 ≤ 2147483647) : 4 * x0 ≤ 2147483647 := by omega
theorem o19_579 {x0 x1 x2 x3 x4 x5 x7 x9 x11 x12 x13 x14 x15 x16 : Int} {x6 x8 x10 : Nat} (h0 : 0 ≤ x2) (h1 : x2 ≤ 30) (h2 : 0 ≤ x3) (h3 : x3 ≤ 25) (h4 : x4 = 4 * x3) (h5 : 0 ≤ x5) (h6 : x5 ≤ 100) (h7 : 100 - x5 < ((x6 + 1 : Nat) : Int)) (h8 : x4 ≤ x5) (h9 : 0 ≤ x7) (h10 : x7 ≤ 100) (h11 : 100 - x7 < ((x8 + 1 : Nat) : Int)) (h12 : x7 < x4) (h13 : (-1) ≤ x9) (h14 : x9 ≤ 99) (h15 : 0 ≤ x9) (h16 : 0 ≤ x1) (h17 : x1 ≤ 4) (h18 : 4 - x1 < ((x10 + 1 : Nat) : Int)) (h19 : x11 = 4) (h20 : x1 < x11) (h21 : x12 = x2 * 400) (h22 : x13 = 4 * x7) (h23 : x14 = x12 + x13) (h24 : x15 = x14 + x1) (h25 : x16 = x7 / 4) (h26 : x0 = 4 * x9) (h27 : -2147483648 ≤ x0) (h28 : x0 ≤ 2147483647) (h29 : -2147483648 ≤ x1) (h30 : x1 ≤ 2147483647) (h31 : -2147483648 ≤ x2) (h32 : x2 ≤ 2147483647) (h33 : -2147483648 ≤ x3) (h34 : x3 ≤ 2147483647) (h35 : -2147483648 ≤ x4) (h36 : x4 ≤ 2147483647) (h37 : -2147483648 ≤ x5) (h38 : x5 ≤ 2147483647) (h39 : -2147483648 ≤ x7) (h40 : x7 ≤ 2147483647) (h41 : -2147483648 ≤ x9) (h42 : x9 ≤ 2147483647) (h43 : -2147483648 ≤ x11) (h44 : x11 ≤ 2147483647) (h45 : -2147483648 ≤ x12) (h46 : x12 ≤ 2147483647) (h47 : -2147483648 ≤ x13) (h48 : x13 ≤ 2147483647) (h49 : -2147483648 ≤ x14) (h50 : x14 ≤ 2147483647) (h51 : -2147483648 ≤ x15) (h52 : x15 ≤ 2147483647) (h53 : -2147483648 ≤ x16) (h54 : x16 ≤ 2147483647) : -2147483648 ≤ x0 + x1 := by omega
theorem o19_580 {x0 x1 x2 x3 x4 x5 x7 x9 x11 x12 x13 x14 x15 x16 : Int} {x6 x8 x10 : Nat} (h0 : 0 ≤ x2) (h1 : x2 ≤ 30) (h2 : 0 ≤ x3) (h3 : x3 ≤ 25) (h4 : x4 = 4 * x3) (h5 : 0 ≤ x5) (h6 : x5 ≤ 100) (h7 : 100 - x5 < ((x6 + 1 : Nat) : Int)) (h8 : x4 ≤ x5) (h9 : 0 ≤ x7) (h10 : x7 ≤ 100) (h11 : 100 - x7 < ((x8 + 1 : Nat) : Int)) (h12 : x7 < x4) (h13 : (-1) ≤ x9) (h14 : x9 ≤ 99) (h15 : 0 ≤ x9) (h16 : 0 ≤ x1) (h17 : x1 ≤ 4) (h18 : 4 - x1 < ((x10 + 1 : Nat) : Int)) (h19 : x11 = 4) (h20 : x1 < x11) (h21 : x12 = x2 * 400) (h22 : x13 = 4 * x7) (h23 : x14 = x12 + x13) (h24 : x15 = x14 + x1) (h25 : x16 = x7 / 4) (h26 : x0 = 4 * x9) (h27 : -2147483648 ≤ x0) (h28 : x0 ≤ 2147483647) (h29 : -2147483648 ≤ x1) (h30 : x1 ≤ 2147483647) (h31 : -2147483648 ≤ x2) (h32 : x2 ≤ 2147483647) (h33 : -2147483648 ≤ x3) (h34 : x3 ≤ 2147483647) (h35 : -2147483648 ≤ x4) (h36 : x4 ≤ 2147483647) (h37 : -2147483648 ≤ x5) (h38 : x5 ≤ 2147483647) (h39 : -2147483648 ≤ x7) (h40 : x7 ≤ 2147483647) (h41 : -2147483648 ≤ x9) (h42 : x9 ≤ 2147483647) (h43 : -2147483648 ≤ x11) (h44 : x11 ≤ 2147483647) (h45 : -2147483648 ≤ x12) (h46 : x12 ≤ 2147483647) (h47 : -2147483648 ≤ x13) (h48 : x13 ≤ 2147483647) (h49 : -2147483648 ≤ x14) (h50 : x14 ≤ 2147483647) (h51 : -2147483648 ≤ x15) (h52 : x15 ≤ 2147483647) (h53 : -2147483648 ≤ x16) (h54 : x16 ≤ 2147483647) : x0 + x1 ≤ 2147483647 := by omega
theorem o19_581 {x0 x1 x2 x3 x4 x6 x8 x9 x11 x12 x13 x14 x15 x16 x17 : Int} {x5 x7 x10 : Nat} (h0 : 0 ≤ x1) (h1 : x1 ≤ 30) (h2 : 0 ≤ x2) (h3 : x2 ≤ 25) (h4 : x3 = 4 * x2) (h5 : 0 ≤ x4) (h6 : x4 ≤ 100) (h7 : 100 - x4 < ((x5 + 1 : Nat) : Int)) (h8 : x3 ≤ x4) (h9 : 0 ≤ x6) (h10 : x6 ≤ 100) (h11 : 100 - x6 < ((x7 + 1 : Nat) : Int)) (h12 : x6 < x3) (h13 : (-1) ≤ x8) (h14 : x8 ≤ 99) (h15 : 0 ≤ x8) (h16 : 0 ≤ x9) (h17 : x9 ≤ 4) (h18 : 4 - x9 < ((x10 + 1 : Nat) : Int)) (h19 : x11 = 4) (h20 : x9 < x11) (h21 : x12 = x1 * 400) (h22 : x13 = 4 * x6) (h23 : x14 = x12 + x13) (h24 : x15 = x14 + x9) (h25 : x16 = x6 / 4) (h26 : x17 = 4 * x8) (h27 : x0 = x17 + x9) : 0 ≤ x0 := by omega
theorem o19_582 {x0 x1 x2 x3 x4 x6 x8 x9 x11 x12 x13 x14 x15 x16 x17 : Int} {x5 x7 x10 : Nat} (h0 : 0 ≤ x1) (h1 : x1 ≤ 30) (h2 : 0 ≤ x2) (h3 : x2 ≤ 25) (h4 : x3 = 4 * x2) (h5 : 0 ≤ x4) (h6 : x4 ≤ 100) (h7 : 100 - x4 < ((x5 + 1 : Nat) : Int)) (h8 : x3 ≤ x4) (h9 : 0 ≤ x6) (h10 : x6 ≤ 100) (h11 : 100 - x6 < ((x7 + 1 : Nat) : Int)) (h12 : x6 < x3) (h13 : (-1) ≤ x8) (h14 : x8 ≤ 99) (h15 : 0 ≤ x8) (h16 : 0 ≤ x9) (h17 : x9 ≤ 4) (h18 : 4 - x9 < ((x10 + 1 : Nat) : Int)) (h19 : x11 = 4) (h20 : x9 < x11) (h21 : x12 = x1 * 400) (h22 : x13 = 4 * x6) (h23 : x14 = x12 + x13) (h24 : x15 = x14 + x9) (h25 : x16 = x6 / 4) (h26 : x17 = 4 * x8) (h27 : x0 = x17 + x9) : x0 < (400 : Nat) := by omega
theorem o19_583 {x0 x1 x2 x3 x4 x6 x8 x10 x11 x12 x13 x14 x15 x16 x17 : Int} {x5 x7 x9 : Nat} (h0 : 0 ≤ x1) (h1 : x1 ≤ 30) (h2 : 0 ≤ x2) (h3 : x2 ≤ 25) (h4 : x3 = 4 * x2) (h5 : 0 ≤ x4) (h6 : x4 ≤ 100) (h7 : 100 - x4 < ((x5 + 1 : Nat) : Int)) (h8 : x3 ≤ x4) (h9 : 0 ≤ x6) (h10 : x6 ≤ 100) (h11 : 100 - x6 < ((x7 + 1 : Nat) : Int)) (h12 : x6 < x3) (h13 : (-1) ≤ x0) (h14 : x0 ≤ 99) (h15 : 0 ≤ x0) (h16 : 0 ≤ x8) (h17 : x8 ≤ 4) (h18 : 4 - x8 < ((x9 + 1 : Nat) : Int)) (h19 : x10 = 4) (h20 : x8 < x10) (h21 : x11 = x1 * 400) (h22 : x12 = 4 * x6) (h23 : x13 = x11 + x12) (h24 : x14 = x13 + x8) (h25 : x15 = x6 / 4) (h26 : x16 = 4 * x0) (h27 : x17 = x16 + x8) (h28 : -2147483648 ≤ x0) (h29 : x0 ≤ 2147483647) (h30 : -2147483648 ≤ x1) (h31 : x1 ≤ 2147483647) (h32 : -2147483648 ≤ x2) (h33 : x2 ≤ 2147483647) (h34 : -2147483648 ≤ x3) (h35 : x3 ≤ 2147483647) (h36 : -2147483648 ≤ x4) (h37 : x4 ≤ 2147483647) (h38 : -2147483648 ≤ x6) (h39 : x6 ≤ 2147483647) (h40 : -2147483648 ≤ x8) (h41 : x8 ≤ 2147483647) (h42 : -2147483648 ≤ x10) (h43 : x10 ≤ 2147483647) (h44 : -2147483648 ≤ x11) (h45 : x11 ≤ 2147483647) (h46 : -2147483648 ≤ x12) (h47 : x12 ≤ 2147483647) (h48 : -2147483648 ≤ x13) (h49 : x13 ≤ 2147483647) (h50 : -2147483648 ≤ x14) (h51 : x14 ≤ 2147483647) (h52 : -2147483648 ≤ x15) (h53 : x15 ≤ 2147483647) (h54 : -2147483648 ≤ x16) (h55 : x16 ≤ 2147483647) (h56 : -2147483648 ≤ x17) (h57 : x17 ≤ 2147483647) : -2147483648 ≤ 4 * x0 := by omega
theorem o19_584 {x0 x1 x2 x3 x4 x6 x8 x10 x11 x12 x13 x14 x15 x16 x17 : Int} {x5 x7 x9 : Nat} (h0 : 0 ≤ x1) (h1 : x1 ≤ 30) (h2 : 0 ≤ x2) (h3 : x2 ≤ 25) (h4 : x3 = 4 * x2) (h5 : 0 ≤ x4) (h6 : x4 ≤ 100) (h7 : 100 - x4 < ((x5 + 1 : Nat) : Int)) (h8 : x3 ≤ x4) (h9 : 0 ≤ x6) (h10 : x6 ≤ 100) (h11 : 100 - x6 < ((x7 + 1 : Nat) : Int)) (h12 : x6 < x3) (h13 : (-1) ≤ x0) (h14 : x0 ≤ 99) (h15 : 0 ≤ x0) (h16 : 0 ≤ x8) (h17 : x8 ≤ 4) (h18 : 4 - x8 < ((x9 + 1 : Nat) : Int)) (h19 : x10 = 4) (h20 : x8 < x10) (h21 : x11 = x1 * 400) (h22 : x12 = 4 * x6) (h23 : x13 = x11 + x12) (h24 : x14 = x13 + x8) (h25 : x15 = x6 / 4) (h26 : x16 = 4 * x0) (h27 : x17 = x16 + x8) (h28 : -2147483648 ≤ x0) (h29 : x0 ≤ 2147483647) (h30 : -2147483648 ≤ x1) (h31 : x1 ≤ 2147483647) (h32 : -2147483648 ≤ x2) (h33 : x2 ≤ 2147483647) (h34 : -2147483648 ≤ x3) (h35 : x3 ≤ 2147483647) (h36 : -2147483648 ≤ x4) (h37 : x4 ≤ 2147483647) (h38 : -2147483648 ≤ x6) (h39 : x6 ≤ 2147483647) (h40 : -2147483648 ≤ x8) (h41 : x8 ≤ 2147483647) (h42 : -2147483648 ≤ x10) (h43 : x10 ≤ 2147483647) (h44 : -2147483648 ≤ x11) (h45 : x11 ≤ 2147483647) (h46 : -2147483648 ≤ x12) (h47 : x12 ≤ 2147483647) (h48 : -2147483648 ≤ x13) (h49 : x13 ≤ 2147483647) (h50 : -2147483648 ≤ x14) (h51 : x14 ≤ 2147483647) (h52 : -2147483648 ≤ x15) (h53 : x15 ≤ 2147483647) (h54 : -2147483648 ≤ x16) (h55 : x16 ≤ 2147483647) (h56 : -2147483648 ≤ x17) (h57 : x17 ≤ 2147483647) : 4 * x0 ≤ 2147483647 := by omega
theorem o19_585 {x0 x1 x2 x3 x4 x5 x7 x9 x11 x12 x13 x14 x15 x16 x17 x18 : Int} {x6 x8 x10 : Nat} (h0 : 0 ≤ x2) (h1 : x2 ≤ 30) (h2 : 0 ≤ x3) (h3 : x3 ≤ 25) (h4 : x4 = 4 * x3) (h5 : 0 ≤ x5) (h6 : x5 ≤ 100) (h7 : 100 - x5 < ((x6 + 1 : Nat) : Int)) (h8 : x4 ≤ x5) (h9 : 0 ≤ x7) (h10 : x7 ≤ 100) (h11 : 100 - x7 < ((x8 + 1 : Nat) : Int)) (h12 : x7 < x4) (h13 : (-1) ≤ x9) (h14 : x9 ≤ 99) (h15 : 0 ≤ x9) (h16 : 0 ≤ x1) (h17 : x1 ≤ 4) (h18 : 4 - x1 < ((x10 + 1 : Nat) : Int)) (h19 : x11 = 4) (h20 : x1 < x11) (h21 : x12 = x2 * 400) (h22 : x13 = 4 * x7) (h23 : x14 = x12 + x13) (h24 : x15 = x14 + x1) (h25 : x16 = x7 / 4) (h26 : x17 = 4 * x9) (h27 : x18 = x17 + x1) (h28 : x0 = 4 * x9) (h29 : -2147483648 ≤ x0) (h30 : x0 ≤ 2147483647) (h31 : -2147483648 ≤ x1) (h32 : x1 ≤ 2147483647) (h33 : -2147483648 ≤ x2) (h34 : x2 ≤ 2147483647) (h35 : -2147483648 ≤ x3) (h36 : x3 ≤ 2147483647) (h37 : -2147483648 ≤ x4) (h38 : x4 ≤ 2147483647) (h39 : -2147483648 ≤ x5) (h40 : x5 ≤ 2147483647) (h41 : -2147483648 ≤ x7) (h42 : x7 ≤ 2147483647) (h43 : -2147483648 ≤ x9) (h44 : x9 ≤ 2147483647) (h45 : -2147483648 ≤ x11) (h46 : x11 ≤ 2147483647) (h47 : -2147483648 ≤ x12) (h48 : x12 ≤ 2147483647) (h49 : -2147483648 ≤ x13) (h50 : x13 ≤ 2147483647) (h51 : -2147483648 ≤ x14) (h52 : x14 ≤ 2147483647) (h53 : -2147483648 ≤ x15) (h54 : x15 ≤ 2147483647) (h55 : -2147483648 ≤ x16) (h56 : x16 ≤ 2147483647) (h57 : -2147483648 ≤ x17) (h58 : x17 ≤ 2147483647) (h59 : -2147483648 ≤ x18) (h60 : x18 ≤ 2147483647) : -2147483648 ≤ x0 + x1 := by omega
theorem o19_586 {x0 x1 x2 x3 x4 x5 x7 x9 x11 x12 x13 x14 x15 x16 x17 x18 : Int} {x6 x8 x10 : Nat} (h0 : 0 ≤ x2) (h1 : x2 ≤ 30) (h2 : 0 ≤ x3) (h3 : x3 ≤ 25) (h4 : x4 = 4 * x3) (h5 : 0 ≤ x5) (h6 : x5 ≤ 100) (h7 : 100 - x5 < ((x6 + 1 : Nat) : Int)) (h8 : x4 ≤ x5) (h9 : 0 ≤ x7) (h10 : x7 ≤ 100) (h11 : 100 - x7 < ((x8 + 1 : Nat) : Int)) (h12 : x7 < x4) (h13 : (-1) ≤ x9) (h14 : x9 ≤ 99) (h15 : 0 ≤ x9) (h16 : 0 ≤ x1) (h17 : x1 ≤ 4) (h18 : 4 - x1 < ((x10 + 1 : Nat) : Int)) (h19 : x11 = 4) (h20 : x1 < x11) (h21 : x12 = x2 * 400) (h22 : x13 = 4 * x7) (h23 : x14 = x12 + x13) (h24 : x15 = x14 + x1) (h25 : x16 = x7 / 4) (h26 : x17 = 4 * x9) (h27 : x18 = x17 + x1) (h28 : x0 = 4 * x9) (h29 : -2147483648 ≤ x0) (h30 : x0 ≤ 2147483647) (h31 : -2147483648 ≤ x1) (h32 : x1 ≤ 2147483647) (h33 : -2147483648 ≤ x2) (h34 : x2 ≤ 2147483647) (h35 : -2147483648 ≤ x3) (h36 : x3 ≤ 2147483647) (h37 : -2147483648 ≤ x4) (h38 : x4 ≤ 2147483647) (h39 : -2147483648 ≤ x5) (h40 : x5 ≤ 2147483647) (h41 : -2147483648 ≤ x7) (h42 : x7 ≤ 2147483647) (h43 : -2147483648 ≤ x9) (h44 : x9 ≤ 2147483647) (h45 : -2147483648 ≤ x11) (h46 : x11 ≤ 2147483647) (h47 : -2147483648 ≤ x12) (h48 : x12 ≤ 2147483647) (h49 : -2147483648 ≤ x13) (h50 : x13 ≤ 2147483647) (h51 : -2147483648 ≤ x14) (h52 : x14 ≤ 2147483647) (h53 : -2147483648 ≤ x15) (h54 : x15 ≤ 2147483647) (h55 : -2147483648 ≤ x16) (h56 : x16 ≤ 2147483647) (h57 : -2147483648 ≤ x17) (h58 : x17 ≤ 2147483647) (h59 : -2147483648 ≤ x18) (h60 : x18 ≤ 2147483647) : x0 + x1 ≤ 2147483647 := by omega
theorem o19_587 {x0 x1 x2 x3 x4 x6 x8 x9 x11 x12 x13 x14 x15 x16 x17 x18 x19 : Int} {x5 x7 x10 : Nat} (h0 : 0 ≤ x1) (h1 : x1 ≤ 30) (h2 : 0 ≤ x2) (h3 : x2 ≤ 25) (h4 : x3 = 4 * x2) (h5 : 0 ≤ x4) (h6 : x4 ≤ 100) (h7 : 100 - x4 < ((x5 + 1 : Nat) : Int)) (h8 : x3 ≤ x4) (h9 : 0 ≤ x6) (h10 : x6 ≤ 100) (h11 : 100 - x6 < ((x7 + 1 : Nat) : Int)) (h12 : x6 < x3) (h13 : (-1) ≤ x8) (h14 : x8 ≤ 99) (h15 : 0 ≤ x8) (h16 : 0 ≤ x9) (h17 : x9 ≤ 4) (h18 : 4 - x9 < ((x10 + 1 : Nat) : Int)) (h19 : x11 = 4) (h20 : x9 < x11) (h21 : x12 = x1 * 400) (h22 : x13 = 4 * x6) (h23 : x14 = x12 + x13) (h24 : x15 = x14 + x9) (h25 : x16 = x6 / 4) (h26 : x17 = 4 * x8) (h27 : x18 = x17 + x9) (h28 : x19 = 4 * x8) (h29 : x0 = x19 + x9) : 0 ≤ x0 := by omega
theorem o19_588 {x0 x1 x2 x3 x4 x6 x8 x9 x11 x12 x13 x14 x15 x16 x17 x18 x19 : Int} {x5 x7 x10 : Nat} (h0 : 0 ≤ x1) (h1 : x1 ≤ 30) (h2 : 0 ≤ x2) (h3 : x2 ≤ 25) (h4 : x3 = 4 * x2) (h5 : 0 ≤ x4) (h6 : x4 ≤ 100) (h7 : 100 - x4 < ((x5 + 1 : Nat) : Int)) (h8 : x3 ≤ x4) (h9 : 0 ≤ x6) (h10 : x6 ≤ 100) (h11 : 100 - x6 < ((x7 + 1 : Nat) : Int)) (h12 : x6 < x3) (h13 : (-1) ≤ x8) (h14 : x8 ≤ 99) (h15 : 0 ≤ x8) (h16 : 0 ≤ x9) (h17 : x9 ≤ 4) (h18 : 4 - x9 < ((x10 + 1 : Nat) : Int)) (h19 : x11 = 4) (h20 : x9 < x11) (h21 : x12 = x1 * 400) (h22 : x13 = 4 * x6) (h23 : x14 = x12 + x13) (h24 : x15 = x14 + x9) (h25 : x16 = x6 / 4) (h26 : x17 = 4 * x8) (h27 : x18 = x17 + x9) (h28 : x19 = 4 * x8) (h29 : x0 = x19 + x9) : x0 < (400 : Nat) := by omega
theorem o19_589 {x0 x1 x2 x3 x4 x6 x8 x9 x11 x12 x13 x14 x15 x16 x17 x18 x19 : Int} {x5 x7 x10 : Nat} (h0 : 0 ≤ x1) (h1 : x1 ≤ 30) (h2 : 0 ≤ x2) (h3 : x2 ≤ 25) (h4 : x3 = 4 * x2) (h5 : 0 ≤ x4) (h6 : x4 ≤ 100) (h7 : 100 - x4 < ((x5 + 1 : Nat) : Int)) (h8 : x3 ≤ x4) (h9 : 0 ≤ x6) (h10 : x6 ≤ 100) (h11 : 100 - x6 < ((x7 + 1 : Nat) : Int)) (h12 : x6 < x3) (h13 : (-1) ≤ x8) (h14 : x8 ≤ 99) (h15 : 0 ≤ x8) (h16 : 0 ≤ x9) (h17 : x9 ≤ 4) (h18 : 4 - x9 < ((x10 + 1 : Nat) : Int)) (h19 : x11 = 4) (h20 : x9 < x11) (h21 : x12 = x1 * 400) (h22 : x13 = 4 * x6) (h23 : x14 = x12 + x13) (h24 : x0 = x14 + x9) (h25 : x15 = x6 / 4) (h26 : x16 = 4 * x8) (h27 : x17 = x16 + x9) (h28 : x18 = 4 * x8) (h29 : x19 = x18 + x9) : 0 ≤ x0 := by omega
theorem o19_590 {x0 x1 x2 x3 x4 x6 x8 x9 x11 x12 x13 x14 x15 x16 x17 x18 x19 : Int} {x5 x7 x10 : Nat} (h0 : 0 ≤ x1) (h1 : x1 ≤ 30) (h2 : 0 ≤ x2) (h3 : x2 ≤ 25) (h4 : x3 = 4 * x2) (h5 : 0 ≤ x4) (h6 : x4 ≤ 100) (h7 : 100 - x4 < ((x5 + 1 : Nat) : Int)) (h8 : x3 ≤ x4) (h9 : 0 ≤ x6) (h10 : x6 ≤ 100) (h11 : 100 - x6 < ((x7 + 1 : Nat) : Int)) (h12 : x6 < x3) (h13 : (-1) ≤ x8) (h14 : x8 ≤ 99) (h15 : 0 ≤ x8) (h16 : 0 ≤ x9) (h17 : x9 ≤ 4) (h18 : 4 - x9 < ((x10 + 1 : Nat) : Int)) (h19 : x11 = 4) (h20 : x9 < x11) (h21 : x12 = x1 * 400) (h22 : x13 = 4 * x6) (h23 : x14 = x12 + x13) (h24 : x0 = x14 + x9) (h25 : x15 = x6 / 4) (h26 : x16 = 4 * x8) (h27 : x17 = x16 + x9) (h28 : x18 = 4 * x8) (h29 : x19 = x18 + x9) : x0 < (12400 : Nat) := by omega
theorem o19_591 {x0 x1 x2 x3 x4 x6 x8 x10 x11 x12 x13 x14 x15 x16 x17 x18 x19 : Int} {x5 x7 x9 : Nat} (h0 : 0 ≤ x1) (h1 : x1 ≤ 30) (h2 : 0 ≤ x2) (h3 : x2 ≤ 25) (h4 : x3 = 4 * x2) (h5 : 0 ≤ x4) (h6 : x4 ≤ 100) (h7 : 100 - x4 < ((x5 + 1 : Nat) : Int)) (h8 : x3 ≤ x4) (h9 : 0 ≤ x6) (h10 : x6 ≤ 100) (h11 : 100 - x6 < ((x7 + 1 : Nat) : Int)) (h12 : x6 < x3) (h13 : (-1) ≤ x8) (h14 : x8 ≤ 99) (h15 : 0 ≤ x8) (h16 : 0 ≤ x0) (h17 : x0 ≤ 4) (h18 : 4 - x0 < ((x9 + 1 : Nat) : Int)) (h19 : x10 = 4) (h20 : x0 < x10) (h21 : x11 = x1 * 400) (h22 : x12 = 4 * x6) (h23 : x13 = x11 + x12) (h24 : x14 = x13 + x0) (h25 : x15 = x6 / 4) (h26 : x16 = 4 * x8) (h27 : x17 = x16 + x0) (h28 : x18 = 4 * x8) (h29 : x19 = x18 + x0) (h30 : -2147483648 ≤ x0) (h31 : x0 ≤ 2147483647) (h32 : -2147483648 ≤ x1) (h33 : x1 ≤ 2147483647) (h34 : -2147483648 ≤ x2) (h35 : x2 ≤ 2147483647) (h36 : -2147483648 ≤ x3) (h37 : x3 ≤ 2147483647) (h38 : -2147483648 ≤ x4) (h39 : x4 ≤ 2147483647) (h40 : -2147483648 ≤ x6) (h41 : x6 ≤ 2147483647) (h42 : -2147483648 ≤ x8) (h43 : x8 ≤ 2147483647) (h44 : -2147483648 ≤ x10) (h45 : x10 ≤ 2147483647) (h46 : -2147483648 ≤ x11) (h47 : x11 ≤ 2147483647) (h48 : -2147483648 ≤ x12) (h49 : x12 ≤ 2147483647) (h50 : -2147483648 ≤ x13) (h51 : x13 ≤ 2147483647) (h52 : -2147483648 ≤ x14) (h53 : x14 ≤ 2147483647) (h54 : -2147483648 ≤ x15) (h55 : x15 ≤ 2147483647) (h56 : -2147483648 ≤ x16) (h57 : x16 ≤ 2147483647) (h58 : -2147483648 ≤ x17) (h59 : x17 ≤ 2147483647) (h60 : -2147483648 ≤ x18) (h61 : x18 ≤ 2147483647) (h62 : -2147483648 ≤ x19) (h63 : x19 ≤ 2147483647) : -2147483648 ≤ x0 + 1 := by omega
theorem o19_592 {x0 x1 x2 x3 x4 x6 x8 x10 x11 x12 x13 x14 x15 x16 x17 x18 x19 : Int} {x5 x7 x9 : Nat} (h0 : 0 ≤ x1) (h1 : x1 ≤ 30) (h2 : 0 ≤ x2) (h3 : x2 ≤ 25) (h4 : x3 = 4 * x2) (h5 : 0 ≤ x4) (h6 : x4 ≤ 100) (h7 : 100 - x4 < ((x5 + 1 : Nat) : Int)) (h8 : x3 ≤ x4) (h9 : 0 ≤ x6) (h10 : x6 ≤ 100) (h11 : 100 - x6 < ((x7 + 1 : Nat) : Int)) (h12 : x6 < x3) (h13 : (-1) ≤ x8) (h14 : x8 ≤ 99) (h15 : 0 ≤ x8) (h16 : 0 ≤ x0) (h17 : x0 ≤ 4) (h18 : 4 - x0 < ((x9 + 1 : Nat) : Int)) (h19 : x10 = 4) (h20 : x0 < x10) (h21 : x11 = x1 * 400) (h22 : x12 = 4 * x6) (h23 : x13 = x11 + x12) (h24 : x14 = x13 + x0) (h25 : x15 = x6 / 4) (h26 : x16 = 4 * x8) (h27 : x17 = x16 + x0) (h28 : x18 = 4 * x8) (h29 : x19 = x18 + x0) (h30 : -2147483648 ≤ x0) (h31 : x0 ≤ 2147483647) (h32 : -2147483648 ≤ x1) (h33 : x1 ≤ 2147483647) (h34 : -2147483648 ≤ x2) (h35 : x2 ≤ 2147483647) (h36 : -2147483648 ≤ x3) (h37 : x3 ≤ 2147483647) (h38 : -2147483648 ≤ x4) (h39 : x4 ≤ 2147483647) (h40 : -2147483648 ≤ x6) (h41 : x6 ≤ 2147483647) (h42 : -2147483648 ≤ x8) (h43 : x8 ≤ 2147483647) (h44 : -2147483648 ≤ x10) (h45 : x10 ≤ 2147483647) (h46 : -2147483648 ≤ x11) (h47 : x11 ≤ 2147483647) (h48 : -2147483648 ≤ x12) (h49 : x12 ≤ 2147483647) (h50 : -2147483648 ≤ x13) (h51 : x13 ≤ 2147483647) (h52 : -2147483648 ≤ x14) (h53 : x14 ≤ 2147483647) (h54 : -2147483648 ≤ x15) (h55 : x15 ≤ 2147483647) (h56 : -2147483648 ≤ x16) (h57 : x16 ≤ 2147483647) (h58 : -2147483648 ≤ x17) (h59 : x17 ≤ 2147483647) (h60 : -2147483648 ≤ x18) (h61 : x18 ≤ 2147483647) (h62 : -2147483648 ≤ x19) (h63 : x19 ≤ 2147483647) : x0 + 1 ≤ 2147483647 := by omega
theorem o19_593 {x0 x2 x3 x4 x5 x7 x9 x10 x11 x12 x13 x14 x15 x16 x17 x18 x19 x20 : Int} {x1 x6 x8 : Nat} (h0 : 0 ≤ x2) (h1 : x2 ≤ 30) (h2 : 0 ≤ x3) (h3 : x3 ≤ 25) (h4 : x4 = 4 * x3) (h5 : 0 ≤ x5) (h6 : x5 ≤ 100) (h7 : 100 - x5 < ((x6 + 1 : Nat) : Int)) (h8 : x4 ≤ x5) (h9 : 0 ≤ x7) (h10 : x7 ≤ 100) (h11 : 100 - x7 < ((x8 + 1 : Nat) : Int)) (h12 : x7 < x4) (h13 : (-1) ≤ x9) (h14 : x9 ≤ 99) (h15 : 0 ≤ x9) (h16 : 0 ≤ x10) (h17 : x10 ≤ 4) (h18 : 4 - x10 < ((x1 + 1 : Nat) : Int)) (h19 : x11 = 4) (h20 : x10 < x11) (h21 : x12 = x2 * 400) (h22 : x13 = 4 * x7) (h23 : x14 = x12 + x13) (h24 : x15 = x14 + x10) (h25 : x16 = x7 / 4) (h26 : x17 = 4 * x9) (h27 : x18 = x17 + x10) (h28 : x19 = 4 * x9) (h29 : x20 = x19 + x10) (h30 : x0 = x10 + 1) : 4 - x0 < (x1 : Int) := by omega
theorem o19_594 {x0 x1 x2 x3 x4 x6 x8 x9 x11 x12 x13 x14 x15 x16 x17 x18 x19 x20 : Int} {x5 x7 x10 : Nat} (h0 : 0 ≤ x1) (h1 : x1 ≤ 30) (h2 : 0 ≤ x2) (h3 : x2 ≤ 25) (h4 : x3 = 4 * x2) (h5 : 0 ≤ x4) (h6 : x4 ≤ 100) (h7 : 100 - x4 < ((x5 + 1 : Nat) : Int)) (h8 : x3 ≤ x4) (h9 : 0 ≤ x6) (h10 : x6 ≤ 100) (h11 : 100 - x6 < ((x7 + 1 : Nat) : Int)) (h12 : x6 < x3) (h13 : (-1) ≤ x8) (h14 : x8 ≤ 99) (h15 : 0 ≤ x8) (h16 : 0 ≤ x9) (h17 : x9 ≤ 4) (h18 : 4 - x9 < ((x10 + 1 : Nat) : Int)) (h19 : x11 = 4) (h20 : x9 < x11) (h21 : x12 = x1 * 400) (h22 : x13 = 4 * x6) (h23 : x14 = x12 + x13) (h24 : x15 = x14 + x9) (h25 : x16 = x6 / 4) (h26 : x17 = 4 * x8) (h27 : x18 = x17 + x9) (h28 : x19 = 4 * x8) (h29 : x20 = x19 + x9) (h30 : x0 = x9 + 1) : 0 ≤ x0 := by omega
theorem o19_595 {x0 x1 x2 x3 x4 x6 x8 x9 x11 x12 x13 x14 x15 x16 x17 x18 x19 x20 : Int} {x5 x7 x10 : Nat} (h0 : 0 ≤ x1) (h1 : x1 ≤ 30) (h2 : 0 ≤ x2) (h3 : x2 ≤ 25) (h4 : x3 = 4 * x2) (h5 : 0 ≤ x4) (h6 : x4 ≤ 100) (h7 : 100 - x4 < ((x5 + 1 : Nat) : Int)) (h8 : x3 ≤ x4) (h9 : 0 ≤ x6) (h10 : x6 ≤ 100) (h11 : 100 - x6 < ((x7 + 1 : Nat) : Int)) (h12 : x6 < x3) (h13 : (-1) ≤ x8) (h14 : x8 ≤ 99) (h15 : 0 ≤ x8) (h16 : 0 ≤ x9) (h17 : x9 ≤ 4) (h18 : 4 - x9 < ((x10 + 1 : Nat) : Int)) (h19 : x11 = 4) (h20 : x9 < x11) (h21 : x12 = x1 * 400) (h22 : x13 = 4 * x6) (h23 : x14 = x12 + x13) (h24 : x15 = x14 + x9) (h25 : x16 = x6 / 4) (h26 : x17 = 4 * x8) (h27 : x18 = x17 + x9) (h28 : x19 = 4 * x8) (h29 : x20 = x19 + x9) (h30 : x0 = x9 + 1) : x0 ≤ 4 := by omega
theorem o19_596 {x0 x1 x2 x3 x4 x5 x7 x9 x10 x12 x13 x14 x15 x16 x17 x18 x19 : Int} {x6 x8 x11 : Nat} (h0 : 0 ≤ x2) (h1 : x2 ≤ 30) (h2 : 0 ≤ x3) (h3 : x3 ≤ 25) (h4 : x4 = 4 * x3) (h5 : 0 ≤ x5) (h6 : x5 ≤ 100) (h7 : 100 - x5 < ((x6 + 1 : Nat) : Int)) (h8 : x4 ≤ x5) (h9 : 0 ≤ x7) (h10 : x7 ≤ 100) (h11 : 100 - x7 < ((x8 + 1 : Nat) : Int)) (h12 : x7 < x4) (h13 : (-1) ≤ x9) (h14 : x9 ≤ 99) (h15 : (-1) ≤ x10) (h16 : x10 ≤ 99) (h17 : 0 ≤ x9) (h18 : 0 ≤ x10) (h19 : 0 ≤ x1) (h20 : x1 ≤ 4) (h21 : 4 - x1 < ((x11 + 1 : Nat) : Int)) (h22 : x12 = 4) (h23 : x1 < x12) (h24 : x13 = x2 * 400) (h25 : x14 = 4 * x7) (h26 : x15 = x13 + x14) (h27 : x16 = x15 + x1) (h28 : x17 = x7 / 4) (h29 : x18 = 4 * x9) (h30 : x19 = x18 + x1) (h31 : x0 = 4 * x10) (h32 : -2147483648 ≤ x0) (h33 : x0 ≤ 2147483647) (h34 : -2147483648 ≤ x1) (h35 : x1 ≤ 2147483647) (h36 : -2147483648 ≤ x2) (h37 : x2 ≤ 2147483647) (h38 : -2147483648 ≤ x3) (h39 : x3 ≤ 2147483647) (h40 : -2147483648 ≤ x4) (h41 : x4 ≤ 2147483647) (h42 : -2147483648 ≤ x5) (h43 : x5 ≤ 2147483647) (h44 : -2147483648 ≤ x7) (h45 : x7 ≤ 2147483647) (h46 : -2147483648 ≤ x9) (h47 : x9 ≤ 2147483647) (h48 : -2147483648 ≤ x10) (h49 : x10 ≤ 2147483647) (h50 : -2147483648 ≤ x12) (h51 : x12 ≤ 2147483647) (h52 : -2147483648 ≤ x13) (h53 : x13 ≤ 2147483647) (h54 : -2147483648 ≤ x14) (h55 : x14 ≤ 2147483647) (h56 : -2147483648 ≤ x15) (h57 : x15 ≤ 2147483647) (h58 : -2147483648 ≤ x16) (h59 : x16 ≤ 2147483647) (h60 : -2147483648 ≤ x17) (h61 : x17 ≤ 2147483647) (h62 : -2147483648 ≤ x18) (h63 : x18 ≤ 2147483647) (h64 : -2147483648 ≤ x19) (h65 : x19 ≤ 2147483647) : -2147483648 ≤ x0 + x1 := by omega
theorem o19_597 {x0 x1 x2 x3 x4 x5 x7 x9 x10 x12 x13 x14 x15 x16 x17 x18 x19 : Int} {x6 x8 x11 : Nat} (h0 : 0 ≤ x2) (h1 : x2 ≤ 30) (h2 : 0 ≤ x3) (h3 : x3 ≤ 25) (h4 : x4 = 4 * x3) (h5 : 0 ≤ x5) (h6 : x5 ≤ 100) (h7 : 100 - x5 < ((x6 + 1 : Nat) : Int)) (h8 : x4 ≤ x5) (h9 : 0 ≤ x7) (h10 : x7 ≤ 100) (h11 : 100 - x7 < ((x8 + 1 : Nat) : Int)) (h12 : x7 < x4) (h13 : (-1) ≤ x9) (h14 : x9 ≤ 99) (h15 : (-1) ≤ x10) (h16 : x10 ≤ 99) (h17 : 0 ≤ x9) (h18 : 0 ≤ x10) (h19 : 0 ≤ x1) (h20 : x1 ≤ 4) (h21 : 4 - x1 < ((x11 + 1 : Nat) : Int)) (h22 : x12 = 4) (h23 : x1 < x12) (h24 : x13 = x2 * 400) (h25 : x14 = 4 * x7) (h26 : x15 = x13 + x14) (h27 : x16 = x15 + x1) (h28 : x17 = x7 / 4) (h29 : x18 = 4 * x9) (h30 : x19 = x18 + x1) (h31 : x0 = 4 * x10) (h32 : -2147483648 ≤ x0) (h33 : x0 ≤ 2147483647) (h34 : -2147483648 ≤ x1) (h35 : x1 ≤ 2147483647) (h36 : -2147483648 ≤ x2) (h37 : x2 ≤ 2147483647) (h38 : -2147483648 ≤ x3) (h39 : x3 ≤ 2147483647) (h40 : -2147483648 ≤ x4) (h41 : x4 ≤ 2147483647) (h42 : -2147483648 ≤ x5) (h43 : x5 ≤ 2147483647) (h44 : -2147483648 ≤ x7) (h45 : x7 ≤ 2147483647) (h46 : -2147483648 ≤ x9) (h47 : x9 ≤ 2147483647) (h48 : -2147483648 ≤ x10) (h49 : x10 ≤ 2147483647) (h50 : -2147483648 ≤ x12) (h51 : x12 ≤ 2147483647) (h52 : -2147483648 ≤ x13) (h53 : x13 ≤ 2147483647) (h54 : -2147483648 ≤ x14) (h55 : x14 ≤ 2147483647) (h56 : -2147483648 ≤ x15) (h57 : x15 ≤ 2147483647) (h58 : -2147483648 ≤ x16) (h59 : x16 ≤ 2147483647) (h60 : -2147483648 ≤ x17) (h61 : x17 ≤ 2147483647) (h62 : -2147483648 ≤ x18) (h63 : x18 ≤ 2147483647) (h64 : -2147483648 ≤ x19) (h65 : x19 ≤ 2147483647) : x0 + x1 ≤ 2147483647 := by omega
theorem o19_598 {x0 x1 x2 x3 x4 x6 x8 x9 x10 x12 x13 x14 x15 x16 x17 x18 x19 x20 : Int} {x5 x7 x11 : Nat} (h0 : 0 ≤ x1) (h1 : x1 ≤ 30) (h2 : 0 ≤ x2) (h3 : x2 ≤ 25) (h4 : x3 = 4 * x2) (h5 : 0 ≤ x4) (h6 : x4 ≤ 100) (h7 : 100 - x4 < ((x5 + 1 : Nat) : Int)) (h8 : x3 ≤ x4) (h9 : 0 ≤ x6) (h10 : x6 ≤ 100) (h11 : 100 - x6 < ((x7 + 1 : Nat) : Int)) (h12 : x6 < x3) (h13 : (-1) ≤ x8) (h14 : x8 ≤ 99) (h15 : (-1) ≤ x9) (h16 : x9 ≤ 99) (h17 : 0 ≤ x8) (h18 : 0 ≤ x9) (h19 : 0 ≤ x10) (h20 : x10 ≤ 4) (h21 : 4 - x10 < ((x11 + 1 : Nat) : Int)) (h22 : x12 = 4) (h23 : x10 < x12) (h24 : x13 = x1 * 400) (h25 : x14 = 4 * x6) (h26 : x15 = x13 + x14) (h27 : x16 = x15 + x10) (h28 : x17 = x6 / 4) (h29 : x18 = 4 * x8) (h30 : x19 = x18 + x10) (h31 : x20 = 4 * x9) (h32 : x0 = x20 + x10) : 0 ≤ x0 := by omega
theorem o19_599 {x0 x1 x2 x3 x4 x6 x8 x9 x10 x12 x13 x14 x15 x16 x17 x18 x19 x20 : Int} {x5 x7 x11 : Nat} (h0 : 0 ≤ x1) (h1 : x1 ≤ 30) (h2 : 0 ≤ x2) (h3 : x2 ≤ 25) (h4 : x3 = 4 * x2) (h5 : 0 ≤ x4) (h6 : x4 ≤ 100) (h7 : 100 - x4 < ((x5 + 1 : Nat) : Int)) (h8 : x3 ≤ x4) (h9 : 0 ≤ x6) (h10 : x6 ≤ 100) (h11 : 100 - x6 < ((x7 + 1 : Nat) : Int)) (h12 : x6 < x3) (h13 : (-1) ≤ x8) (h14 : x8 ≤ 99) (h15 : (-1) ≤ x9) (h16 : x9 ≤ 99) (h17 : 0 ≤ x8) (h18 : 0 ≤ x9) (h19 : 0 ≤ x10) (h20 : x10 ≤ 4) (h21 : 4 - x10 < ((x11 + 1 : Nat) : Int)) (h22 : x12 = 4) (h23 : x10 < x12) (h24 : x13 = x1 * 400) (h25 : x14 = 4 * x6) (h26 : x15 = x13 + x14) (h27 : x16 = x15 + x10) (h28 : x17 = x6 / 4) (h29 : x18 = 4 * x8) (h30 : x19 = x18 + x10) (h31 : x20 = 4 * x9) (h32 : x0 = x20 + x10) : x0 < (400 : Nat) := by omega
theorem o19_600 {x0 x1 x2 x3 x4 x6 x8 x9 x10 x12 x13 x14 x15 x16 x17 x18 x19 x20 : Int} {x5 x7 x11 : Nat} (h0 : 0 ≤ x1) (h1 : x1 ≤ 30) (h2 : 0 ≤ x2) (h3 : x2 ≤ 25) (h4 : x3 = 4 * x2) (h5 : 0 ≤ x4) (h6 : x4 ≤ 100) (h7 : 100 - x4 < ((x5 + 1 : Nat) : Int)) (h8 : x3 ≤ x4) (h9 : 0 ≤ x6) (h10 : x6 ≤ 100) (h11 : 100 - x6 < ((x7 + 1 : Nat) : Int)) (h12 : x6 < x3) (h13 : (-1) ≤ x8) (h14 : x8 ≤ 99) (h15 : (-1) ≤ x9) (h16 : x9 ≤ 99) (h17 : 0 ≤ x8) (h18 : 0 ≤ x9) (h19 : 0 ≤ x10) (h20 : x10 ≤ 4) (h21 : 4 - x10 < ((x11 + 1 : Nat) : Int)) (h22 : x12 = 4) (h23 : x10 < x12) (h24 : x13 = x1 * 400) (h25 : x14 = 4 * x6) (h26 : x15 = x13 + x14) (h27 : x0 = x15 + x10) (h28 : x16 = x6 / 4) (h29 : x17 = 4 * x8) (h30 : x18 = x17 + x10) (h31 : x19 = 4 * x9) (h32 : x20 = x19 + x10) : 0 ≤ x0 := by omega
theorem o19_601 {x0 x1 x2 x3 x4 x6 x8 x9 x10 x12 x13 x14 x15 x16 x17 x18 x19 x20 : Int} {x5 x7 x11 : Nat} (h0 : 0 ≤ x1) (h1 : x1 ≤ 30) (h2 : 0 ≤ x2) (h3 : x2 ≤ 25) (h4 : x3 = 4 * x2) (h5 : 0 ≤ x4) (h6 : x4 ≤ 100) (h7 : 100 - x4 < ((x5 + 1 : Nat) : Int)) (h8 : x3 ≤ x4) (h9 : 0 ≤ x6) (h10 : x6 ≤ 100) (h11 : 100 - x6 < ((x7 + 1 : Nat) : Int)) (h12 : x6 < x3) (h13 : (-1) ≤ x8) (h14 : x8 ≤ 99) (h15 : (-1) ≤ x9) (h16 : x9 ≤ 99) (h17 : 0 ≤ x8) (h18 : 0 ≤ x9) (h19 : 0 ≤ x10) (h20 : x10 ≤ 4) (h21 : 4 - x10 < ((x11 + 1 : Nat) : Int)) (h22 : x12 = 4) (h23 : x10 < x12) (h24 : x13 = x1 * 400) (h25 : x14 = 4 * x6) (h26 : x15 = x13 + x14) (h27 : x0 = x15 + x10) (h28 : x16 = x6 / 4) (h29 : x17 = 4 * x8) (h30 : x18 = x17 + x10) (h31 : x19 = 4 * x9) (h32 : x20 = x19 + x10) : x0 < (12400 : Nat) := by omega
theorem o19_602 {x0 x1 x2 x3 x4 x6 x8 x9 x11 x12 x13 x14 x15 x16 x17 x18 x19 x20 : Int} {x5 x7 x10 : Nat} (h0 : 0 ≤ x1) (h1 : x1 ≤ 30) (h2 : 0 ≤ x2) (h3 : x2 ≤ 25) (h4 : x3 = 4 * x2) (h5 : 0 ≤ x4) (h6 : x4 ≤ 100) (h7 : 100 - x4 < ((x5 + 1 : Nat) : Int)) (h8 : x3 ≤ x4) (h9 : 0 ≤ x6) (h10 : x6 ≤ 100) (h11 : 100 - x6 < ((x7 + 1 : Nat) : Int)) (h12 : x6 < x3) (h13 : (-1) ≤ x8) (h14 : x8 ≤ 99) (h15 : (-1) ≤ x9) (h16 : x9 ≤ 99) (h17 : 0 ≤ x8) (h18 : 0 ≤ x9) (h19 : 0 ≤ x0) (h20 : x0 ≤ 4) (h21 : 4 - x0 < ((x10 + 1 : Nat) : Int)) (h22 : x11 = 4) (h23 : x0 < x11) (h24 : x12 = x1 * 400) (h25 : x13 = 4 * x6) (h26 : x14 = x12 + x13) (h27 : x15 = x14 + x0) (h28 : x16 = x6 / 4) (h29 : x17 = 4 * x8) (h30 : x18 = x17 + x0) (h31 : x19 = 4 * x9) (h32 : x20 = x19 + x0) (h33 : -2147483648 ≤ x0) (h34 : x0 ≤ 2147483647) (h35 : -2147483648 ≤ x1) (h36 : x1 ≤ 2147483647) (h37 : -2147483648 ≤ x2) (h38 : x2 ≤ 2147483647) (h39 : -2147483648 ≤ x3) (h40 : x3 ≤ 2147483647) (h41 : -2147483648 ≤ x4) (h42 : x4 ≤ 2147483647) (h43 : -2147483648 ≤ x6) (h44 : x6 ≤ 2147483647) (h45 : -2147483648 ≤ x8) (h46 : x8 ≤ 2147483647) (h47 : -2147483648 ≤ x9) (h48 : x9 ≤ 2147483647) (h49 : -2147483648 ≤ x11) (h50 : x11 ≤ 2147483647) (h51 : -2147483648 ≤ x12) (h52 : x12 ≤ 2147483647) (h53 : -2147483648 ≤ x13) (h54 : x13 ≤ 2147483647) (h55 : -2147483648 ≤ x14) (h56 : x14 ≤ 2147483647) (h57 : -2147483648 ≤ x15) (h58 : x15 ≤ 2147483647) (h59 : -2147483648 ≤ x16) (h60 : x16 ≤ 2147483647) (h61 : -2147483648 ≤ x17) (h62 : x17 ≤ 2147483647) (h63 : -2147483648 ≤ x18) (h64 : x18 ≤ 2147483647) (h65 : -2147483648 ≤ x19) (h66 : x19 ≤ 2147483647) (h67 : -2147483648 ≤ x20) (h68 : x20 ≤ 2147483647) : -2147483648 ≤ x0 + 1 := by omega
theorem o19_603 {x0 x1 x2 x3 x4 x6 x8 x9 x11 x12 x13 x14 x15 x16 x17 x18 x19 x20 : Int} {x5 x7 x10 : Nat} (h0 : 0 ≤ x1) (h1 : x1 ≤ 30) (h2 : 0 ≤ x2) (h3 : x2 ≤ 25) (h4 : x3 = 4 * x2) (h5 : 0 ≤ x4) (h6 : x4 ≤ 100) (h7 : 100 - x4 < ((x5 + 1 : Nat) : Int)) (h8 : x3 ≤ x4) (h9 : 0 ≤ x6) (h10 : x6 ≤ 100) (h11 : 100 - x6 < ((x7 + 1 : Nat) : Int)) (h12 : x6 < x3) (h13 : (-1) ≤ x8) (h14 : x8 ≤ 99) (h15 : (-1) ≤ x9) (h16 : x9 ≤ 99) (h17 : 0 ≤ x8) (h18 : 0 ≤ x9) (h19 : 0 ≤ x0) (h20 : x0 ≤ 4) (h21 : 4 - x0 < ((x10 + 1 : Nat) : Int)) (h22 : x11 = 4) (h23 : x0 < x11) (h24 : x12 = x1 * 400) (h25 : x13 = 4 * x6) (h26 : x14 = x12 + x13) (h27 : x15 = x14 + x0) (h28 : x16 = x6 / 4) (h29 : x17 = 4 * x8) (h30 : x18 = x17 + x0) (h31 : x19 = 4 * x9) (h32 : x20 = x19 + x0) (h33 : -2147483648 ≤ x0) (h34 : x0 ≤ 2147483647) (h35 : -2147483648 ≤ x1) (h36 : x1 ≤ 2147483647) (h37 : -2147483648 ≤ x2) (h38 : x2 ≤ 2147483647) (h39 : -2147483648 ≤ x3) (h40 : x3 ≤ 2147483647) (h41 : -2147483648 ≤ x4) (h42 : x4 ≤ 2147483647) (h43 : -2147483648 ≤ x6) (h44 : x6 ≤ 2147483647) (h45 : -2147483648 ≤ x8) (h46 : x8 ≤ 2147483647) (h47 : -2147483648 ≤ x9) (h48 : x9 ≤ 2147483647) (h49 : -2147483648 ≤ x11) (h50 : x11 ≤ 2147483647) (h51 : -2147483648 ≤ x12) (h52 : x12 ≤ 2147483647) (h53 : -2147483648 ≤ x13) (h54 : x13 ≤ 2147483647) (h55 : -2147483648 ≤ x14) (h56 : x14 ≤ 2147483647) (h57 : -2147483648 ≤ x15) (h58 : x15 ≤ 2147483647) (h59 : -2147483648 ≤ x16) (h60 : x16 ≤ 2147483647) (h61 : -2147483648 ≤ x17) (h62 : x17 ≤ 2147483647) (h63 : -2147483648 ≤ x18) (h64 : x18 ≤ 2147483647) (h65 : -2147483648 ≤ x19) (h66 : x19 ≤ 2147483647) (h67 : -2147483648 ≤ x20) (h68 : x20 ≤ 2147483647) : x0 + 1 ≤ 2147483647 := by omega
theorem o19_604 {x0 x2 x3 x4 x5 x7 x9 x10 x11 x12 x13 x14 x15 x16 x17 x18 x19 x20 x21 : Int} {x1 x6 x8 : Nat} (h0 : 0 ≤ x2) (h1 : x2 ≤ 30) (h2 : 0 ≤ x3) (h3 : x3 ≤ 25) (h4 : x4 = 4 * x3) (h5 : 0 ≤ x5) (h6 : x5 ≤ 100) (h7 : 100 - x5 < ((x6 + 1 : Nat) : Int)) (h8 : x4 ≤ x5) (h9 : 0 ≤ x7) (h10 : x7 ≤ 100) (h11 : 100 - x7 < ((x8 + 1 : Nat) : Int)) (h12 : x7 < x4) (h13 : (-1) ≤ x9) (h14 : x9 ≤ 99) (h15 : (-1) ≤ x10) (h16 : x10 ≤ 99) (h17 : 0 ≤ x9) (h18 : 0 ≤ x10) (h19 : 0 ≤ x11) (h20 : x11 ≤ 4) (h21 : 4 - x11 < ((x1 + 1 : Nat) : Int)) (h22 : x12 = 4) (h23 : x11 < x12) (h24 : x13 = x2 * 400) (h25 : x14 = 4 * x7) (h26 : x15 = x13 + x14) (h27 : x16 = x15 + x11) (h28 : x17 = x7 / 4) (h29 : x18 = 4 * x9) (h30 : x19 = x18 + x11) (h31 : x20 = 4 * x10) (h32 : x21 = x20 + x11) (h33 : x0 = x11 + 1) : 4 - x0 < (x1 : Int) := by omega
theorem o19_605 {x0 x1 x2 x3 x4 x6 x8 x9 x10 x12 x13 x14 x15 x16 x17 x18 x19 x20 x21 : Int} {x5 x7 x11 : Nat} (h0 : 0 ≤ x1) (h1 : x1 ≤ 30) (h2 : 0 ≤ x2) (h3 : x2 ≤ 25) (h4 : x3 = 4 * x2) (h5 : 0 ≤ x4) (h6 : x4 ≤ 100) (h7 : 100 - x4 < ((x5 + 1 : Nat) : Int)) (h8 : x3 ≤ x4) (h9 : 0 ≤ x6) (h10 : x6 ≤ 100) (h11 : 100 - x6 < ((x7 + 1 : Nat) : Int)) (h12 : x6 < x3) (h13 : (-1) ≤ x8) (h14 : x8 ≤ 99) (h15 : (-1) ≤ x9) (h16 : x9 ≤ 99) (h17 : 0 ≤ x8) (h18 : 0 ≤ x9) (h19 : 0 ≤ x10) (h20 : x10 ≤ 4) (h21 : 4 - x10 < ((x11 + 1 : Nat) : Int)) (h22 : x12 = 4) (h23 : x10 < x12) (h24 : x13 = x1 * 400) (h25 : x14 = 4 * x6) (h26 : x15 = x13 + x14) (h27 : x16 = x15 + x10) (h28 : x17 = x6 / 4) (h29 : x18 = 4 * x8) (h30 : x19 = x18 + x10) (h31 : x20 = 4 * x9) (h32 : x21 = x20 + x10) (h33 : x0 = x10 + 1) : 0 ≤ x0 := by omega
theorem o19_606 {x0 x1 x2 x3 x4 x6 x8 x9 x10 x12 x13 x14 x15 x16 x17 x18 x19 x20 x21 : Int} {x5 x7 x11 : Nat} (h0 : 0 ≤ x1) (h1 : x1 ≤ 30) (h2 : 0 ≤ x2) (h3 : x2 ≤ 25) (h4 : x3 = 4 * x2) (h5 : 0 ≤ x4) (h6 : x4 ≤ 100) (h7 : 100 - x4 < ((x5 + 1 : Nat) : Int)) (h8 : x3 ≤ x4) (h9 : 0 ≤ x6) (h10 : x6 ≤ 100) (h11 : 100 - x6 < ((x7 + 1 : Nat) : Int)) (h12 : x6 < x3) (h13 : (-1) ≤ x8) (h14 : x8 ≤ 99) (h15 : (-1) ≤ x9) (h16 : x9 ≤ 99) (h17 : 0 ≤ x8) (h18 : 0 ≤ x9) (h19 : 0 ≤ x10) (h20 : x10 ≤ 4) (h21 : 4 - x10 < ((x11 + 1 : Nat) : Int)) (h22 : x12 = 4) (h23 : x10 < x12) (h24 : x13 = x1 * 400) (h25 : x14 = 4 * x6) (h26 : x15 = x13 + x14) (h27 : x16 = x15 + x10) (h28 : x17 = x6 / 4) (h29 : x18 = 4 * x8) (h30 : x19 = x18 + x10) (h31 : x20 = 4 * x9) (h32 : x21 = x20 + x10) (h33 : x0 = x10 + 1) : x0 ≤ 4 := by omega
theorem o19_607 {x0 x1 x2 : Int} {x3 : Nat} (h0 : 0 ≤ x1) (h1 : x1 ≤ 25) (h2 : x2 = 4 * x1) (h3 : 0 ≤ x0) (h4 : x0 ≤ 100) (h5 : 100 - x0 < ((x3 + 1 : Nat) : Int)) (h6 : x0 < x2) (h7 : -2147483648 ≤ x0) (h8 : x0 ≤ 2147483647) (h9 : -2147483648 ≤ x1) (h10 : x1 ≤ 2147483647) (h11 : -2147483648 ≤ x2) (h12 : x2 ≤ 2147483647) : -2147483648 ≤ 4 * x0 := by omega
theorem o19_608 {x0 x1 x2 : Int} {x3 : Nat} (h0 : 0 ≤ x1) (h1 : x1 ≤ 25) (h2 : x2 = 4 * x1) (h3 : 0 ≤ x0) (h4 : x0 ≤ 100) (h5 : 100 - x0 < ((x3 + 1 : Nat) : Int)) (h6 : x0 < x2) (h7 : -2147483648 ≤ x0) (h8 : x0 ≤ 2147483647) (h9 : -2147483648 ≤ x1) (h10 : x1 ≤ 2147483647) (h11 : -2147483648 ≤ x2) (h12 : x2 ≤ 2147483647) : 4 * x0 ≤ 2147483647 := by omega
theorem o19_609 {x0 x1 x2 x3 x4 x7 : Int} {x5 x6 : Nat} (h0 : 0 ≤ x2) (h1 : x2 ≤ 25) (h2 : x3 = 4 * x2) (h3 : 0 ≤ x4) (h4 : x4 ≤ 100) (h5 : 100 - x4 < ((x5 + 1 : Nat) : Int)) (h6 : x4 < x3) (h7 : 0 ≤ x1) (h8 : x1 ≤ 4) (h9 : 4 - x1 < ((x6 + 1 : Nat) : Int)) (h10 : x7 = 4) (h11 : x1 < x7) (h12 : x0 = 4 * x4) (h13 : -2147483648 ≤ x0) (h14 : x0 ≤ 2147483647) (h15 : -2147483648 ≤ x1) (h16 : x1 ≤ 2147483647) (h17 : -2147483648 ≤ x2) (h18 : x2 ≤ 2147483647) (h19 : -2147483648 ≤ x3) (h20 : x3 ≤ 2147483647) (h21 : -2147483648 ≤ x4) (h22 : x4 ≤ 2147483647) (h23 : -2147483648 ≤ x7) (h24 : x7 ≤ 2147483647) : -2147483648 ≤ x0 + x1 := by omega
theorem o19_610 {x0 x1 x2 x3 x4 x7 : Int} {x5 x6 : Nat} (h0 : 0 ≤ x2) (h1 : x2 ≤ 25) (h2 : x3 = 4 * x2) (h3 : 0 ≤ x4) (h4 : x4 ≤ 100) (h5 : 100 - x4 < ((x5 + 1 : Nat) : Int)) (h6 : x4 < x3) (h7 : 0 ≤ x1) (h8 : x1 ≤ 4) (h9 : 4 - x1 < ((x6 + 1 : Nat) : Int)) (h10 : x7 = 4) (h11 : x1 < x7) (h12 : x0 = 4 * x4) (h13 : -2147483648 ≤ x0) (h14 : x0 ≤ 2147483647) (h15 : -2147483648 ≤ x1) (h16 : x1 ≤ 2147483647) (h17 : -2147483648 ≤ x2) (h18 : x2 ≤ 2147483647) (h19 : -2147483648 ≤ x3) (h20 : x3 ≤ 2147483647) (h21 : -2147483648 ≤ x4) (h22 : x4 ≤ 2147483647) (h23 : -2147483648 ≤ x7) (h24 : x7 ≤ 2147483647) : x0 + x1 ≤ 2147483647 := by omega
theorem o19_611 {x0 x1 x2 x3 x5 x7 x8 x9 : Int} {x4 x6 : Nat} (h0 : 0 ≤ x1) (h1 : x1 ≤ 25) (h2 : x2 = 4 * x1) (h3 : 0 ≤ x3) (h4 : x3 ≤ 100) (h5 : 100 - x3 < ((x4 + 1 : Nat) : Int)) (h6 : x3 < x2) (h7 : 0 ≤ x5) (h8 : x5 ≤ 4) (h9 : 4 - x5 < ((x6 + 1 : Nat) : Int)) (h10 : x7 = 4) (h11 : x5 < x7) (h12 : x8 = 4 * x3) (h13 : x0 = x8 + x5) (h14 : x9 = x3 / 4) : 0 ≤ x0 := by omega
theorem o19_612 {x0 x1 x2 x3 x5 x7 x8 x9 : Int} {x4 x6 : Nat} (h0 : 0 ≤ x1) (h1 : x1 ≤ 25) (h2 : x2 = 4 * x1) (h3 : 0 ≤ x3) (h4 : x3 ≤ 100) (h5 : 100 - x3 < ((x4 + 1 : Nat) : Int)) (h6 : x3 < x2) (h7 : 0 ≤ x5) (h8 : x5 ≤ 4) (h9 : 4 - x5 < ((x6 + 1 : Nat) : Int)) (h10 : x7 = 4) (h11 : x5 < x7) (h12 : x8 = 4 * x3) (h13 : x0 = x8 + x5) (h14 : x9 = x3 / 4) : x0 < (400 : Nat) := by omega
theorem o19_613 {x0 x1 x2 x3 x6 x7 x8 x9 : Int} {x4 x5 : Nat} (h0 : 0 ≤ x1) (h1 : x1 ≤ 25) (h2 : x2 = 4 * x1) (h3 : 0 ≤ x3) (h4 : x3 ≤ 100) (h5 : 100 - x3 < ((x4 + 1 : Nat) : Int)) (h6 : x3 < x2) (h7 : 0 ≤ x0) (h8 : x0 ≤ 4) (h9 : 4 - x0 < ((x5 + 1 : Nat) : Int)) (h10 : x6 = 4) (h11 : x0 < x6) (h12 : x7 = 4 * x3) (h13 : x8 = x7 + x0) (h14 : x9 = x3 / 4) (h15 : -2147483648 ≤ x0) (h16 : x0 ≤ 2147483647) (h17 : -2147483648 ≤ x1) (h18 : x1 ≤ 2147483647) (h19 : -2147483648 ≤ x2) (h20 : x2 ≤ 2147483647) (h21 : -2147483648 ≤ x3) (h22 : x3 ≤ 2147483647) (h23 : -2147483648 ≤ x6) (h24 : x6 ≤ 2147483647) (h25 : -2147483648 ≤ x7) (h26 : x7 ≤ 2147483647) (h27 : -2147483648 ≤ x8) (h28 : x8 ≤ 2147483647) (h29 : -2147483648 ≤ x9) (h30 : x9 ≤ 2147483647) : -2147483648 ≤ x0 + 1 := by omega
theorem o19_614 {x0 x1 x2 x3 x6 x7 x8 x9 : Int} {x4 x5 : Nat} (h0 : 0 ≤ x1) (h1 : x1 ≤ 25) (h2 : x2 = 4 * x1) (h3 : 0 ≤ x3) (h4 : x3 ≤ 100) (h5 : 100 - x3 < ((x4 + 1 : Nat) : Int)) (h6 : x3 < x2) (h7 : 0 ≤ x0) (h8 : x0 ≤ 4) (h9 : 4 - x0 < ((x5 + 1 : Nat) : Int)) (h10 : x6 = 4) (h11 : x0 < x6) (h12 : x7 = 4 * x3) (h13 : x8 = x7 + x0) (h14 : x9 = x3 / 4) (h15 : -2147483648 ≤ x0) (h16 : x0 ≤ 2147483647) (h17 : -2147483648 ≤ x1) (h18 : x1 ≤ 2147483647) (h19 : -2147483648 ≤ x2) (h20 : x2 ≤ 2147483647) (h21 : -2147483648 ≤ x3) (h22 : x3 ≤ 2147483647) (h23 : -2147483648 ≤ x6) (h24 : x6 ≤ 2147483647) (h25 : -2147483648 ≤ x7) (h26 : x7 ≤ 2147483647) (h27 : -2147483648 ≤ x8) (h28 : x8 ≤ 2147483647) (h29 : -2147483648 ≤ x9) (h30 : x9 ≤ 2147483647) : x0 + 1 ≤ 2147483647 := by omega
theorem o19_615 {x0 x2 x3 x4 x6 x7 x8 x9 x10 : Int} {x1 x5 : Nat} (h0 : 0 ≤ x2) (h1 : x2 ≤ 25) (h2 : x3 = 4 * x2) (h3 : 0 ≤ x4) (h4 : x4 ≤ 100) (h5 : 100 - x4 < ((x5 + 1 : Nat) : Int)) (h6 : x4 < x3) (h7 : 0 ≤ x6) (h8 : x6 ≤ 4) (h9 : 4 - x6 < ((x1 + 1 : Nat) : Int)) (h10 : x7 = 4) (h11 : x6 < x7) (h12 : x8 = 4 * x4) (h13 : x9 = x8 + x6) (h14 : x10 = x4 / 4) (h15 : x0 = x6 + 1) : 4 - x0 < (x1 : Int) := by omega
theorem o19_616 {x0 x1 x2 x3 x5 x7 x8 x9 x10 : Int} {x4 x6 : Nat} (h0 : 0 ≤ x1) (h1 : x1 ≤ 25) (h2 : x2 = 4 * x1) (h3 : 0 ≤ x3) (h4 : x3 ≤ 100) (h5 : 100 - x3 < ((x4 + 1 : Nat) : Int)) (h6 : x3 < x2) (h7 : 0 ≤ x5) (h8 : x5 ≤ 4) (h9 : 4 - x5 < ((x6 + 1 : Nat) : Int)) (h10 : x7 = 4) (h11 : x5 < x7) (h12 : x8 = 4 * x3) (h13 : x9 = x8 + x5) (h14 : x10 = x3 / 4) (h15 : x0 = x5 + 1) : 0 ≤ x0 := by omega
theorem o19_617 {x0 x1 x2 x3 x5 x7 x8 x9 x10 : Int} {x4 x6 : Nat} (h0 : 0 ≤ x1) (h1 : x1 ≤ 25) (h2 : x2 = 4 * x1) (h3 : 0 ≤ x3) (h4 : x3 ≤ 100) (h5 : 100 - x3 < ((x4 + 1 : Nat) : Int)) (h6 : x3 < x2) (h7 : 0 ≤ x5) (h8 : x5 ≤ 4) (h9 : 4 - x5 < ((x6 + 1 : Nat) : Int)) (h10 : x7 = 4) (h11 : x5 < x7) (h12 : x8 = 4 * x3) (h13 : x9 = x8 + x5) (h14 : x10 = x3 / 4) (h15 : x0 = x5 + 1) : x0 ≤ 4 := by omega
theorem o19_618 {x0 x1 : Int} (h0 : 0 ≤ x0) (h1 : x0 ≤ 30) (h2 : 0 < x0) (h3 : x1 = 1) (h4 : -2147483648 ≤ x0) (h5 : x0 ≤ 2147483647) (h6 : -2147483648 ≤ x1) (h7 : x1 ≤ 2147483647) : -2147483648 ≤ x0 - x1 := by omega
theorem o19_619 {x0 x1 : Int} (h0 : 0 ≤ x0) (h1 : x0 ≤ 30) (h2 : 0 < x0) (h3 : x1 = 1) (h4 : -2147483648 ≤ x0) (h5 : x0 ≤ 2147483647) (h6 : -2147483648 ≤ x1) (h7 : x1 ≤ 2147483647) : x0 - x1 ≤ 2147483647 := by omega
theorem o19_620 {x0 x1 x2 : Int} (h0 : 0 ≤ x1) (h1 : x1 ≤ 30) (h2 : 0 < x1) (h3 : x2 = 1) (h4 : x0 = x1 - x2) (h5 : -2147483648 ≤ x0) (h6 : x0 ≤ 2147483647) (h7 : -2147483648 ≤ x1) (h8 : x1 ≤ 2147483647) (h9 : -2147483648 ≤ x2) (h10 : x2 ≤ 2147483647) : -2147483648 ≤ x0 * 400 := by omega
theorem o19_621 {x0 x1 x2 : Int} (h0 : 0 ≤ x1) (h1 : x1 ≤ 30) (h2 : 0 < x1) (h3 : x2 = 1) (h4 : x0 = x1 - x2) (h5 : -2147483648 ≤ x0) (h6 : x0 ≤ 2147483647) (h7 : -2147483648 ≤ x1) (h8 : x1 ≤ 2147483647) (h9 : -2147483648 ≤ x2) (h10 : x2 ≤ 2147483647) : x0 * 400 ≤ 2147483647 := by omega
theorem o19_622 {x0 x1 x2 x4 x6 x7 x8 x9 : Int} {x3 x5 : Nat} (h0 : 0 ≤ x1) (h1 : x1 ≤ 25) (h2 : x2 = 4 * x1) (h3 : 0 ≤ x0) (h4 : x0 ≤ 100) (h5 : 100 - x0 < ((x3 + 1 : Nat) : Int)) (h6 : x0 < x2) (h7 : 0 ≤ x4) (h8 : x4 ≤ 4) (h9 : 4 - x4 < ((x5 + 1 : Nat) : Int)) (h10 : x6 = 4) (h11 : x4 < x6) (h12 : x7 = 4 * x0) (h13 : x8 = x7 + x4) (h14 : x9 = x0 / 4) (h15 : -2147483648 ≤ x0) (h16 : x0 ≤ 2147483647) (h17 : -2147483648 ≤ x1) (h18 : x1 ≤ 2147483647) (h19 : -2147483648 ≤ x2) (h20 : x2 ≤ 2147483647) (h21 : -2147483648 ≤ x4) (h22 : x4 ≤ 2147483647) (h23 : -2147483648 ≤ x6) (h24 : x6 ≤ 2147483647) (h25 : -2147483648 ≤ x7) (h26 : x7 ≤ 2147483647) (h27 : -2147483648 ≤ x8) (h28 : x8 ≤ 2147483647) (h29 : -2147483648 ≤ x9) (h30 : x9 ≤ 2147483647) : -2147483648 ≤ 4 * x0 := by omega
theorem o19_623 {x0 x1 x2 x4 x6 x7 x8 x9 : Int} {x3 x5 : Nat} (h0 : 0 ≤ x1) (h1 : x1 ≤ 25) (h2 : x2 = 4 * x1) (h3 : 0 ≤ x0) (h4 : x0 ≤ 100) (h5 : 100 - x0 < ((x3 + 1 : Nat) : Int)) (h6 : x0 < x2) (h7 : 0 ≤ x4) (h8 : x4 ≤ 4) (h9 : 4 - x4 < ((x5 + 1 : Nat) : Int)) (h10 : x6 = 4) (h11 : x4 < x6) (h12 : x7 = 4 * x0) (h13 : x8 = x7 + x4) (h14 : x9 = x0 / 4) (h15 : -2147483648 ≤ x0) (h16 : x0 ≤ 2147483647) (h17 : -2147483648 ≤ x1) (h18 : x1 ≤ 2147483647) (h19 : -2147483648 ≤ x2) (h20 : x2 ≤ 2147483647) (h21 : -2147483648 ≤ x4) (h22 : x4 ≤ 2147483647) (h23 : -2147483648 ≤ x6) (h24 : x6 ≤ 2147483647) (h25 : -2147483648 ≤ x7) (h26 : x7 ≤ 2147483647) (h27 : -2147483648 ≤ x8) (h28 : x8 ≤ 2147483647) (h29 : -2147483648 ≤ x9) (h30 : x9 ≤ 2147483647) : 4 * x0 ≤ 2147483647 := by omega
theorem o19_624 {x0 x1 x2 x3 x4 x5 x7 x9 x10 x11 x12 x13 x14 : Int} {x6 x8 : Nat} (h0 : 0 ≤ x2) (h1 : x2 ≤ 30) (h2 : 0 ≤ x3) (h3 : x3 ≤ 25) (h4 : x4 = 4 * x3) (h5 : 0 ≤ x5) (h6 : x5 ≤ 100) (h7 : 100 - x5 < ((x6 + 1 : Nat) : Int)) (h8 : x5 < x4) (h9 : 0 ≤ x7) (h10 : x7 ≤ 4) (h11 : 4 - x7 < ((x8 + 1 : Nat) : Int)) (h12 : x9 = 4) (h13 : x7 < x9) (h14 : x10 = 4 * x5) (h15 : x11 = x10 + x7) (h16 : x12 = x5 / 4) (h17 : 0 < x2) (h18 : x13 = 1) (h19 : x14 = x2 - x13) (h20 : x0 = x14 * 400) (h21 : x1 = 4 * x5) (h22 : -2147483648 ≤ x0) (h23 : x0 ≤ 2147483647) (h24 : -2147483648 ≤ x1) (h25 : x1 ≤ 2147483647) (h26 : -2147483648 ≤ x2) (h27 : x2 ≤ 2147483647) (h28 : -2147483648 ≤ x3) (h29 : x3 ≤ 2147483647) (h30 : -2147483648 ≤ x4) (h31 : x4 ≤ 2147483647) (h32 : -2147483648 ≤ x5) (h33 : x5 ≤ 2147483647) (h34 : -2147483648 ≤ x7) (h35 : x7 ≤ 2147483647) (h36 : -2147483648 ≤ x9) (h37 : x9 ≤ 2147483647) (h38 : -2147483648 ≤ x10) (h39 : x10 ≤ 2147483647) (h40 : -2147483648 ≤ x11) (h41 : x11 ≤ 2147483647) (h42 : -2147483648 ≤ x12) (h43 : x12 ≤ 2147483647) (h44 : -2147483648 ≤ x13) (h45 : x13 ≤ 2147483647) (h46 : -2147483648 ≤ x14) (h47 : x14 ≤ 2147483647) : -2147483648 ≤ x0 + x1 := by omega
theorem o19_625 {x0 x1 x2 x3 x4 x5 x7 x9 x10 x11 x12 x13 x14 : Int} {x6 x8 : Nat} (h0 : 0 ≤ x2) (h1 : x2 ≤ 30) (h2 : 0 ≤ x3) (h3 : x3 ≤ 25) (h4 : x4 = 4 * x3) (h5 : 0 ≤ x5) (h6 : x5 ≤ 100) (h7 : 100 - x5 < ((x6 + 1 : Nat) : Int)) (h8 : x5 < x4) (h9 : 0 ≤ x7) (h10 : x7 ≤ 4) (h11 : 4 - x7 < ((x8 + 1 : Nat) : Int)) (h12 : x9 = 4) (h13 : x7 < x9) (h14 : x10 = 4 * x5) (h15 : x11 = x10 + x7) (h16 : x12 = x5 / 4) (h17 : 0 < x2) (h18 : x13 = 1) (h19 : x14 = x2 - x13) (h20 : x0 = x14 * 400) (h21 : x1 = 4 * x5) (h22 : -2147483648 ≤ x0) (h23 : x0 ≤ 2147483647) (h24 : -2147483648 ≤ x1) (h25 : x1 ≤ 2147483647) (h26 : -2147483648 ≤ x2) (h27 : x2 ≤ 2147483647) (h28 : -2147483648 ≤ x3) (h29 : x3 ≤ 2147483647) (h30 : -2147483648 ≤ x4) (h31 : x4 ≤ 2147483647) (h32 : -2147483648 ≤ x5) (h33 : x5 ≤ 2147483647) (h34 : -2147483648 ≤ x7) (h35 : x7 ≤ 2147483647) (h36 : -2147483648 ≤ x9) (h37 : x9 ≤ 2147483647) (h38 : -2147483648 ≤ x10) (h39 : x10 ≤ 2147483647) (h40 : -2147483648 ≤ x11) (h41 : x11 ≤ 2147483647) (h42 : -2147483648 ≤ x12) (h43 : x12 ≤ 2147483647) (h44 : -2147483648 ≤ x13) (h45 : x13 ≤ 2147483647) (h46 : -2147483648 ≤ x14) (h47 : x14 ≤ 2147483647) : x0 + x1 ≤ 2147483647 := by omega
theorem o19_626 {x0 x1 x2 x3 x4 x6 x8 x9 x10 x11 x12 x13 x14 x15 : Int} {x5 x7 : Nat} (h0 : 0 ≤ x1) (h1 : x1 ≤ 30) (h2 : 0 ≤ x2) (h3 : x2 ≤ 25) (h4 : x3 = 4 * x2) (h5 : 0 ≤ x4) (h6 : x4 ≤ 100) (h7 : 100 - x4 < ((x5 + 1 : Nat) : Int)) (h8 : x4 < x3) (h9 : 0 ≤ x6) (h10 : x6 ≤ 4) (h11 : 4 - x6 < ((x7 + 1 : Nat) : Int)) (h12 : x8 = 4) (h13 : x6 < x8) (h14 : x9 = 4 * x4) (h15 : x10 = x9 + x6) (h16 : x11 = x4 / 4) (h17 : 0 < x1) (h18 : x12 = 1) (h19 : x13 = x1 - x12) (h20 : x14 = x13 * 400) (h21 : x15 = 4 * x4) (h22 : x0 = x14 + x15) : 0 ≤ x0 := by omega
theorem o19_627 {x0 x1 x2 x3 x4 x6 x8 x9 x10 x11 x12 x13 x14 x15 : Int} {x5 x7 : Nat} (h0 : 0 ≤ x1) (h1 : x1 ≤ 30) (h2 : 0 ≤ x2) (h3 : x2 ≤ 25) (h4 : x3 = 4 * x2) (h5 : 0 ≤ x4) (h6 : x4 ≤ 100) (h7 : 100 - x4 < ((x5 + 1 : Nat) : Int)) (h8 : x4 < x3) (h9 : 0 ≤ x6) (h10 : x6 ≤ 4) (h11 : 4 - x6 < ((x7 + 1 : Nat) : Int)) (h12 : x8 = 4) (h13 : x6 < x8) (h14 : x9 = 4 * x4) (h15 : x10 = x9 + x6) (h16 : x11 = x4 / 4) (h17 : 0 < x1) (h18 : x12 = 1) (h19 : x13 = x1 - x12) (h20 : x14 = x13 * 400) (h21 : x15 = 4 * x4) (h22 : x0 = x14 + x15) : x0 ≤ 12396 := by omega
theorem o19_628 {x0 x1 x2 x3 x4 x7 x8 x9 x10 x11 x12 x13 x14 x15 : Int} {x5 x6 : Nat} (h0 : 0 ≤ x1) (h1 : x1 ≤ 30) (h2 : 0 ≤ x2) (h3 : x2 ≤ 25) (h4 : x3 = 4 * x2) (h5 : 0 ≤ x4) (h6 : x4 ≤ 100) (h7 : 100 - x4 < ((x5 + 1 : Nat) : Int)) (h8 : x4 < x3) (h9 : 0 ≤ x0) (h10 : x0 ≤ 4) (h11 : 4 - x0 < ((x6 + 1 : Nat) : Int)) (h12 : x7 = 4) (h13 : x0 < x7) (h14 : x8 = 4 * x4) (h15 : x9 = x8 + x0) (h16 : x10 = x4 / 4) (h17 : 0 < x1) (h18 : x11 = 1) (h19 : x12 = x1 - x11) (h20 : x13 = x12 * 400) (h21 : x14 = 4 * x4) (h22 : x15 = x13 + x14) : 0 ≤ x0 := by omega
theorem o19_629 {x0 x1 x2 x3 x4 x7 x8 x9 x10 x11 x12 x13 x14 x15 : Int} {x5 x6 : Nat} (h0 : 0 ≤ x1) (h1 : x1 ≤ 30) (h2 : 0 ≤ x2) (h3 : x2 ≤ 25) (h4 : x3 = 4 * x2) (h5 : 0 ≤ x4) (h6 : x4 ≤ 100) (h7 : 100 - x4 < ((x5 + 1 : Nat) : Int)) (h8 : x4 < x3) (h9 : 0 ≤ x0) (h10 : x0 ≤ 4) (h11 : 4 - x0 < ((x6 + 1 : Nat) : Int)) (h12 : x7 = 4) (h13 : x0 < x7) (h14 : x8 = 4 * x4) (h15 : x9 = x8 + x0) (h16 : x10 = x4 / 4) (h17 : 0 < x1) (h18 : x11 = 1) (h19 : x12 = x1 - x11) (h20 : x13 = x12 * 400) (h21 : x14 = 4 * x4) (h22 : x15 = x13 + x14) : x0 ≤ 3 := by omega
theorem o19_630 {x0 x1 x2 x3 x4 x6 x8 x9 x10 x11 x12 x13 x14 x15 : Int} {x5 x7 : Nat} (h0 : 0 ≤ x1) (h1 : x1 ≤ 30) (h2 : 0 ≤ x2) (h3 : x2 ≤ 25) (h4 : x3 = 4 * x2) (h5 : 0 ≤ x4) (h6 : x4 ≤ 100) (h7 : 100 - x4 < ((x5 + 1 : Nat) : Int)) (h8 : x4 < x3) (h9 : 0 ≤ x6) (h10 : x6 ≤ 4) (h11 : 4 - x6 < ((x7 + 1 : Nat) : Int)) (h12 : x8 = 4) (h13 : x6 < x8) (h14 : x9 = 4 * x4) (h15 : x0 = x9 + x6) (h16 : x10 = x4 / 4) (h17 : 0 < x1) (h18 : x11 = 1) (h19 : x12 = x1 - x11) (h20 : x13 = x12 * 400) (h21 : x14 = 4 * x4) (h22 : x15 = x13 + x14) : 0 ≤ x0 := by omega
theorem o19_631 {x0 x1 x2 x3 x4 x6 x8 x9 x10 x11 x12 x13 x14 x15 : Int} {x5 x7 : Nat} (h0 : 0 ≤ x1) (h1 : x1 ≤ 30) (h2 : 0 ≤ x2) (h3 : x2 ≤ 25) (h4 : x3 = 4 * x2) (h5 : 0 ≤ x4) (h6 : x4 ≤ 100) (h7 : 100 - x4 < ((x5 + 1 : Nat) : Int)) (h8 : x4 < x3) (h9 : 0 ≤ x6) (h10 : x6 ≤ 4) (h11 : 4 - x6 < ((x7 + 1 : Nat) : Int)) (h12 : x8 = 4) (h13 : x6 < x8) (h14 : x9 = 4 * x4) (h15 : x0 = x9 + x6) (h16 : x10 = x4 / 4) (h17 : 0 < x1) (h18 : x11 = 1) (h19 : x12 = x1 - x11) (h20 : x13 = x12 * 400) (h21 : x14 = 4 * x4) (h22 : x15 = x13 + x14) : x0 < (400 : Nat) := by omega
theorem o19_632 {x0 x1 x2 x3 x4 x7 x8 x9 x10 x11 x12 x13 x14 x15 : Int} {x5 x6 : Nat} (h0 : 0 ≤ x1) (h1 : x1 ≤ 30) (h2 : 0 ≤ x2) (h3 : x2 ≤ 25) (h4 : x3 = 4 * x2) (h5 : 0 ≤ x4) (h6 : x4 ≤ 100) (h7 : 100 - x4 < ((x5 + 1 : Nat) : Int)) (h8 : x4 < x3) (h9 : 0 ≤ x0) (h10 : x0 ≤ 4) (h11 : 4 - x0 < ((x6 + 1 : Nat) : Int)) (h12 : x7 = 4) (h13 : x0 < x7) (h14 : x8 = 4 * x4) (h15 : x9 = x8 + x0) (h16 : x10 = x4 / 4) (h17 : 0 < x1) (h18 : x11 = 1) (h19 : x12 = x1 - x11) (h20 : x13 = x12 * 400) (h21 : x14 = 4 * x4) (h22 : x15 = x13 + x14) (h23 : -2147483648 ≤ x0) (h24 : x0 ≤ 2147483647) (h25 : -2147483648 ≤ x1) (h26 : x1 ≤ 2147483647) (h27 : -2147483648 ≤ x2) (h28 : x2 ≤ 2147483647) (h29 : -2147483648 ≤ x3) (h30 : x3 ≤ 2147483647) (h31 : -2147483648 ≤ x4) (h32 : x4 ≤ 2147483647) (h33 : -2147483648 ≤ x7) (h34 : x7 ≤ 2147483647) (h35 : -2147483648 ≤ x8) (h36 : x8 ≤ 2147483647) (h37 : -2147483648 ≤ x9) (h38 : x9 ≤ 2147483647) (h39 : -2147483648 ≤ x10) (h40 : x10 ≤ 2147483647) (h41 : -2147483648 ≤ x11) (h42 : x11 ≤ 2147483647) (h43 : -2147483648 ≤ x12) (h44 : x12 ≤ 2147483647) (h45 : -2147483648 ≤ x13) (h46 : x13 ≤ 2147483647) (h47 : -2147483648 ≤ x14) (h48 : x14 ≤ 2147483647) (h49 : -2147483648 ≤ x15) (h50 : x15 ≤ 2147483647) : -2147483648 ≤ x0 + 1 := by omega
theorem o19_633 {x0 x1 x2 x3 x4 x7 x8 x9 x10 x11 x12 x13 x14 x15 : Int} {x5 x6 : Nat} (h0 : 0 ≤ x1) (h1 : x1 ≤ 30) (h2 : 0 ≤ x2) (h3 : x2 ≤ 25) (h4 : x3 = 4 * x2) (h5 : 0 ≤ x4) (h6 : x4 ≤ 100) (h7 : 100 - x4 < ((x5 + 1 : Nat) : Int)) (h8 : x4 < x3) (h9 : 0 ≤ x0) (h10 : x0 ≤ 4) (h11 : 4 - x0 < ((x6 + 1 : Nat) : Int)) (h12 : x7 = 4) (h13 : x0 < x7) (h14 : x8 = 4 * x4) (h15 : x9 = x8 + x0) (h16 : x10 = x4 / 4) (h17 : 0 < x1) (h18 : x11 = 1) (h19 : x12 = x1 - x11) (h20 : x13 = x12 * 400) (h21 : x14 = 4 * x4) (h22 : x15 = x13 + x14) (h23 : -2147483648 ≤ x0) (h24 : x0 ≤ 2147483647) (h25 : -2147483648 ≤ x1) (h26 : x1 ≤ 2147483647) (h27 : -2147483648 ≤ x2) (h28 : x2 ≤ 2147483647) (h29 : -2147483648 ≤ x3) (h30 : x3 ≤ 2147483647) (h31 : -2147483648 ≤ x4) (h32 : x4 ≤ 2147483647) (h33 : -2147483648 ≤ x7) (h34 : x7 ≤ 2147483647) (h35 : -2147483648 ≤ x8) (h36 : x8 ≤ 2147483647) (h37 : -2147483648 ≤ x9) (h38 : x9 ≤ 2147483647) (h39 : -2147483648 ≤ x10) (h40 : x10 ≤ 2147483647) (h41 : -2147483648 ≤ x11) (h42 : x11 ≤ 2147483647) (h43 : -2147483648 ≤ x12) (h44 : x12 ≤ 2147483647) (h45 : -2147483648 ≤ x13) (h46 : x13 ≤ 2147483647) (h47 : -2147483648 ≤ x14) (h48 : x14 ≤ 2147483647) (h49 : -2147483648 ≤ x15) (h50 : x15 ≤ 2147483647) : x0 + 1 ≤ 2147483647 := by omega
theorem o19_634 {x0 x2 x3 x4 x5 x7 x8 x9 x10 x11 x12 x13 x14 x15 x16 : Int} {x1 x6 : Nat} (h0 : 0 ≤ x2) (h1 : x2 ≤ 30) (h2 : 0 ≤ x3) (h3 : x3 ≤ 25) (h4 : x4 = 4 * x3) (h5 : 0 ≤ x5) (h6 : x5 ≤ 100) (h7 : 100 - x5 < ((x6 + 1 : Nat) : Int)) (h8 : x5 < x4) (h9 : 0 ≤ x7) (h10 : x7 ≤ 4) (h11 : 4 - x7 < ((x1 + 1 : Nat) : Int)) (h12 : x8 = 4) (h13 : x7 < x8) (h14 : x9 = 4 * x5) (h15 : x10 = x9 + x7) (h16 : x11 = x5 / 4) (h17 : 0 < x2) (h18 : x12 = 1) (h19 : x13 = x2 - x12) (h20 : x14 = x13 * 400) (h21 : x15 = 4 * x5) (h22 : x16 = x14 + x15) (h23 : x0 = x7 + 1) : 4 - x0 < (x1 : Int) := by omega
theorem o19_635 {x0 x1 x2 x3 x4 x6 x8 x9 x10 x11 x12 x13 x14 x15 x16 : Int} {x5 x7 : Nat} (h0 : 0 ≤ x1) (h1 : x1 ≤ 30) (h2 : 0 ≤ x2) (h3 : x2 ≤ 25) (h4 : x3 = 4 * x2) (h5 : 0 ≤ x4) (h6 : x4 ≤ 100) (h7 : 100 - x4 < ((x5 + 1 : Nat) : Int)) (h8 : x4 < x3) (h9 : 0 ≤ x6) (h10 : x6 ≤ 4) (h11 : 4 - x6 < ((x7 + 1 : Nat) : Int)) (h12 : x8 = 4) (h13 : x6 < x8) (h14 : x9 = 4 * x4) (h15 : x10 = x9 + x6) (h16 : x11 = x4 / 4) (h17 : 0 < x1) (h18 : x12 = 1) (h19 : x13 = x1 - x12) (h20 : x14 = x13 * 400) (h21 : x15 = 4 * x4) (h22 : x16 = x14 + x15) (h23 : x0 = x6 + 1) : 0 ≤ x0 := by omega
theorem o19_636 {x0 x1 x2 x3 x4 x6 x8 x9 x10 x11 x12 x13 x14 x15 x16 : Int} {x5 x7 : Nat} (h0 : 0 ≤ x1) (h1 : x1 ≤ 30) (h2 : 0 ≤ x2) (h3 : x2 ≤ 25) (h4 : x3 = 4 * x2) (h5 : 0 ≤ x4) (h6 : x4 ≤ 100) (h7 : 100 - x4 < ((x5 + 1 : Nat) : Int)) (h8 : x4 < x3) (h9 : 0 ≤ x6) (h10 : x6 ≤ 4) (h11 : 4 - x6 < ((x7 + 1 : Nat) : Int)) (h12 : x8 = 4) (h13 : x6 < x8) (h14 : x9 = 4 * x4) (h15 : x10 = x9 + x6) (h16 : x11 = x4 / 4) (h17 : 0 < x1) (h18 : x12 = 1) (h19 : x13 = x1 - x12) (h20 : x14 = x13 * 400) (h21 : x15 = 4 * x4) (h22 : x16 = x14 + x15) (h23 : x0 = x6 + 1) : x0 ≤ 4 := by omega
theorem o19_637 {x0 : Int} (h0 : x0 = 0) : x0 ≤ 31 := by omega
theorem o19_638 {x0 x1 : Int} (h0 : x1 = 0) (h1 : x0 = 0) : (x0 = 0 ∨ 1 ≤ x1) := by omega
theorem o19_639 {x0 x1 : Int} (h0 : 0 ≤ x0) (h1 : x0 ≤ 31) (h2 : 0 ≤ x1) (h3 : x1 ≤ 1) (h4 : (x1 = 0 ∨ 1 ≤ x0)) (h5 : 31 - x0 < 0) : False := by omega
theorem o19_640 {x0 x1 x2 x3 x4 x6 : Int} {x5 : Nat} (h0 : 0 ≤ x2) (h1 : x2 ≤ 30) (h2 : 0 ≤ x3) (h3 : x3 ≤ 31) (h4 : 0 ≤ x4) (h5 : x4 ≤ 1) (h6 : (x4 = 0 ∨ 1 ≤ x3)) (h7 : 31 - x3 < ((x5 + 1 : Nat) : Int)) (h8 : 0 ≤ x6) (h9 : x6 ≤ 31) (h10 : x6 = x3) (h11 : x2 < x6) (h12 : 0 ≤ x0) (h13 : x0 ≤ 31) (h14 : x0 = x3) (h15 : x1 = 1) (h16 : -2147483648 ≤ x0) (h17 : x0 ≤ 2147483647) (h18 : -2147483648 ≤ x1) (h19 : x1 ≤ 2147483647) (h20 : -2147483648 ≤ x2) (h21 : x2 ≤ 2147483647) (h22 : -2147483648 ≤ x3) (h23 : x3 ≤ 2147483647) (h24 : -2147483648 ≤ x4) (h25 : x4 ≤ 2147483647) (h26 : -2147483648 ≤ x6) (h27 : x6 ≤ 2147483647) : -2147483648 ≤ x0 - x1 := by omega
theorem o19_641 {x0 x1 x2 x3 x4 x6 : Int} {x5 : Nat} (h0 : 0 ≤ x2) (h1 : x2 ≤ 30) (h2 : 0 ≤ x3) (h3 : x3 ≤ 31) (h4 : 0 ≤ x4) (h5 : x4 ≤ 1) (h6 : (x4 = 0 ∨ 1 ≤ x3)) (h7 : 31 - x3 < ((x5 + 1 : Nat) : Int)) (h8 : 0 ≤ x6) (h9 : x6 ≤ 31) (h10 : x6 = x3) (h11 : x2 < x6) (h12 : 0 ≤ x0) (h13 : x0 ≤ 31) (h14 : x0 = x3) (h15 : x1 = 1) (h16 : -2147483648 ≤ x0) (h17 : x0 ≤ 2147483647) (h18 : -2147483648 ≤ x1) (h19 : x1 ≤ 2147483647) (h20 : -2147483648 ≤ x2) (h21 : x2 ≤ 2147483647) (h22 : -2147483648 ≤ x3) (h23 : x3 ≤ 2147483647) (h24 : -2147483648 ≤ x4) (h25 : x4 ≤ 2147483647) (h26 : -2147483648 ≤ x6) (h27 : x6 ≤ 2147483647) : x0 - x1 ≤ 2147483647 := by omega
theorem o19_642 {x0 x1 x2 x3 x5 x6 x7 x8 : Int} {x4 : Nat} (h0 : 0 ≤ x1) (h1 : x1 ≤ 30) (h2 : 0 ≤ x2) (h3 : x2 ≤ 31) (h4 : 0 ≤ x3) (h5 : x3 ≤ 1) (h6 : (x3 = 0 ∨ 1 ≤ x2)) (h7 : 31 - x2 < ((x4 + 1 : Nat) : Int)) (h8 : 0 ≤ x5) (h9 : x5 ≤ 31) (h10 : x5 = x2) (h11 : x1 < x5) (h12 : 0 ≤ x6) (h13 : x6 ≤ 31) (h14 : x6 = x2) (h15 : x7 = 1) (h16 : x8 = x6 - x7) (h17 : (x0 = x1 ∧ x1 ≤ x8) ∨ (x0 = x8 ∧ x8 ≤ x1)) (h18 : -2147483648 ≤ x0) (h19 : x0 ≤ 2147483647) (h20 : -2147483648 ≤ x1) (h21 : x1 ≤ 2147483647) (h22 : -2147483648 ≤ x2) (h23 : x2 ≤ 2147483647) (h24 : -2147483648 ≤ x3) (h25 : x3 ≤ 2147483647) (h26 : -2147483648 ≤ x5) (h27 : x5 ≤ 2147483647) (h28 : -2147483648 ≤ x6) (h29 : x6 ≤ 2147483647) (h30 : -2147483648 ≤ x7) (h31 : x7 ≤ 2147483647) (h32 : -2147483648 ≤ x8) (h33 : x8 ≤ 2147483647) : -2147483648 ≤ x0 * 400 := by omega
theorem o19_643 {x0 x1 x2 x3 x5 x6 x7 x8 : Int} {x4 : Nat} (h0 : 0 ≤ x1) (h1 : x1 ≤ 30) (h2 : 0 ≤ x2) (h3 : x2 ≤ 31) (h4 : 0 ≤ x3) (h5 : x3 ≤ 1) (h6 : (x3 = 0 ∨ 1 ≤ x2)) (h7 : 31 - x2 < ((x4 + 1 : Nat) : Int)) (h8 : 0 ≤ x5) (h9 : x5 ≤ 31) (h10 : x5 = x2) (h11 : x1 < x5) (h12 : 0 ≤ x6) (h13 : x6 ≤ 31) (h14 : x6 = x2) (h15 : x7 = 1) (h16 : x8 = x6 - x7) (h17 : (x0 = x1 ∧ x1 ≤ x8) ∨ (x0 = x8 ∧ x8 ≤ x1)) (h18 : -2147483648 ≤ x0) (h19 : x0 ≤ 2147483647) (h20 : -2147483648 ≤ x1) (h21 : x1 ≤ 2147483647) (h22 : -2147483648 ≤ x2) (h23 : x2 ≤ 2147483647) (h24 : -2147483648 ≤ x3) (h25 : x3 ≤ 2147483647) (h26 : -2147483648 ≤ x5) (h27 : x5 ≤ 2147483647) (h28 : -2147483648 ≤ x6) (h29 : x6 ≤ 2147483647) (h30 : -2147483648 ≤ x7) (h31 : x7 ≤ 2147483647) (h32 : -2147483648 ≤ x8) (h33 : x8 ≤ 2147483647) : x0 * 400 ≤ 2147483647 := by omega
theorem o19_644 {x0 : Int} (h0 : 0 ≤ x0) (h1 : x0 ≤ 99) (h2 : -2147483648 ≤ x0) (h3 : x0 ≤ 2147483647) : -2147483648 ≤ 4 * x0 := by omega
theorem o19_645 {x0 : Int} (h0 : 0 ≤ x0) (h1 : x0 ≤ 99) (h2 : -2147483648 ≤ x0) (h3 : x0 ≤ 2147483647) : 4 * x0 ≤ 2147483647 := by omega
theorem o19_646 {x0 x1 x2 x3 x4 x5 x7 x8 x9 x10 x11 : Int} {x6 : Nat} (h0 : 0 ≤ x2) (h1 : x2 ≤ 99) (h2 : 0 ≤ x3) (h3 : x3 ≤ 30) (h4 : 0 ≤ x4) (h5 : x4 ≤ 31) (h6 : 0 ≤ x5) (h7 : x5 ≤ 1) (h8 : (x5 = 0 ∨ 1 ≤ x4)) (h9 : 31 - x4 < ((x6 + 1 : Nat) : Int)) (h10 : 0 ≤ x7) (h11 : x7 ≤ 31) (h12 : x7 = x4) (h13 : x3 < x7) (h14 : 0 ≤ x8) (h15 : x8 ≤ 31) (h16 : x8 = x4) (h17 : x9 = 1) (h18 : x10 = x8 - x9) (h19 : (x11 = x3 ∧ x3 ≤ x10) ∨ (x11 = x10 ∧ x10 ≤ x3)) (h20 : x0 = x11 * 400) (h21 : x1 = 4 * x2) (h22 : -2147483648 ≤ x0) (h23 : x0 ≤ 2147483647) (h24 : -2147483648 ≤ x1) (h25 : x1 ≤ 2147483647) (h26 : -2147483648 ≤ x2) (h27 : x2 ≤ 2147483647) (h28 : -2147483648 ≤ x3) (h29 : x3 ≤ 2147483647) (h30 : -2147483648 ≤ x4) (h31 : x4 ≤ 2147483647) (h32 : -2147483648 ≤ x5) (h33 : x5 ≤ 2147483647) (h34 : -2147483648 ≤ x7) (h35 : x7 ≤ 2147483647) (h36 : -2147483648 ≤ x8) (h37 : x8 ≤ 2147483647) (h38 : -2147483648 ≤ x9) (h39 : x9 ≤ 2147483647) (h40 : -2147483648 ≤ x10) (h41 : x10 ≤ 2147483647) (h42 : -2147483648 ≤ x11) (h43 : x11 ≤ 2147483647) : -2147483648 ≤ x0 + x1 := by omega
theorem o19_647 {x0 x1 x2 x3 x4 x5 x7 x8 x9 x10 x11 : Int} {x6 : Nat} (h0 : 0 ≤ x2) (h1 : x2 ≤ 99) (h2 : 0 ≤ x3) (h3 : x3 ≤ 30) (h4 : 0 ≤ x4) (h5 : x4 ≤ 31) (h6 : 0 ≤ x5) (h7 : x5 ≤ 1) (h8 : (x5 = 0 ∨ 1 ≤ x4)) (h9 : 31 - x4 < ((x6 + 1 : Nat) : Int)) (h10 : 0 ≤ x7) (h11 : x7 ≤ 31) (h12 : x7 = x4) (h13 : x3 < x7) (h14 : 0 ≤ x8) (h15 : x8 ≤ 31) (h16 : x8 = x4) (h17 : x9 = 1) (h18 : x10 = x8 - x9) (h19 : (x11 = x3 ∧ x3 ≤ x10) ∨ (x11 = x10 ∧ x10 ≤ x3)) (h20 : x0 = x11 * 400) (h21 : x1 = 4 * x2) (h22 : -2147483648 ≤ x0) (h23 : x0 ≤ 2147483647) (h24 : -2147483648 ≤ x1) (h25 : x1 ≤ 2147483647) (h26 : -2147483648 ≤ x2) (h27 : x2 ≤ 2147483647) (h28 : -2147483648 ≤ x3) (h29 : x3 ≤ 2147483647) (h30 : -2147483648 ≤ x4) (h31 : x4 ≤ 2147483647) (h32 : -2147483648 ≤ x5) (h33 : x5 ≤ 2147483647) (h34 : -2147483648 ≤ x7) (h35 : x7 ≤ 2147483647) (h36 : -2147483648 ≤ x8) (h37 : x8 ≤ 2147483647) (h38 : -2147483648 ≤ x9) (h39 : x9 ≤ 2147483647) (h40 : -2147483648 ≤ x10) (h41 : x10 ≤ 2147483647) (h42 : -2147483648 ≤ x11) (h43 : x11 ≤ 2147483647) : x0 + x1 ≤ 2147483647 := by omega
theorem o19_648 {x0 x1 x2 x3 x4 x5 x7 x8 x9 x10 x11 x12 x13 : Int} {x6 : Nat} (h0 : 0 ≤ x2) (h1 : x2 ≤ 99) (h2 : 0 ≤ x1) (h3 : x1 ≤ 3) (h4 : 0 ≤ x3) (h5 : x3 ≤ 30) (h6 : 0 ≤ x4) (h7 : x4 ≤ 31) (h8 : 0 ≤ x5) (h9 : x5 ≤ 1) (h10 : (x5 = 0 ∨ 1 ≤ x4)) (h11 : 31 - x4 < ((x6 + 1 : Nat) : Int)) (h12 : 0 ≤ x7) (h13 : x7 ≤ 31) (h14 : x7 = x4) (h15 : x3 < x7) (h16 : 0 ≤ x8) (h17 : x8 ≤ 31) (h18 : x8 = x4) (h19 : x9 = 1) (h20 : x10 = x8 - x9) (h21 : (x11 = x3 ∧ x3 ≤ x10) ∨ (x11 = x10 ∧ x10 ≤ x3)) (h22 : x12 = x11 * 400) (h23 : x13 = 4 * x2) (h24 : x0 = x12 + x13) (h25 : -2147483648 ≤ x0) (h26 : x0 ≤ 2147483647) (h27 : -2147483648 ≤ x1) (h28 : x1 ≤ 2147483647) (h29 : -2147483648 ≤ x2) (h30 : x2 ≤ 2147483647) (h31 : -2147483648 ≤ x3) (h32 : x3 ≤ 2147483647) (h33 : -2147483648 ≤ x4) (h34 : x4 ≤ 2147483647) (h35 : -2147483648 ≤ x5) (h36 : x5 ≤ 2147483647) (h37 : -2147483648 ≤ x7) (h38 : x7 ≤ 2147483647) (h39 : -2147483648 ≤ x8) (h40 : x8 ≤ 2147483647) (h41 : -2147483648 ≤ x9) (h42 : x9 ≤ 2147483647) (h43 : -2147483648 ≤ x10) (h44 : x10 ≤ 2147483647) (h45 : -2147483648 ≤ x11) (h46 : x11 ≤ 2147483647) (h47 : -2147483648 ≤ x12) (h48 : x12 ≤ 2147483647) (h49 : -2147483648 ≤ x13) (h50 : x13 ≤ 2147483647) : -2147483648 ≤ x0 + x1 := by omega
theorem o19_649 {x0 x1 x2 x3 x4 x5 x7 x8 x9 x10 x11 x12 x13 : Int} {x6 : Nat} (h0 : 0 ≤ x2) (h1 : x2 ≤ 99) (h2 : 0 ≤ x1) (h3 : x1 ≤ 3) (h4 : 0 ≤ x3) (h5 : x3 ≤ 30) (h6 : 0 ≤ x4) (h7 : x4 ≤ 31) (h8 : 0 ≤ x5) (h9 : x5 ≤ 1) (h10 : (x5 = 0 ∨ 1 ≤ x4)) (h11 : 31 - x4 < ((x6 + 1 : Nat) : Int)) (h12 : 0 ≤ x7) (h13 : x7 ≤ 31) (h14 : x7 = x4) (h15 : x3 < x7) (h16 : 0 ≤ x8) (h17 : x8 ≤ 31) (h18 : x8 = x4) (h19 : x9 = 1) (h20 : x10 = x8 - x9) (h21 : (x11 = x3 ∧ x3 ≤ x10) ∨ (x11 = x10 ∧ x10 ≤ x3)) (h22 : x12 = x11 * 400) (h23 : x13 = 4 * x2) (h24 : x0 = x12 + x13) (h25 : -2147483648 ≤ x0) (h26 : x0 ≤ 2147483647) (h27 : -2147483648 ≤ x1) (h28 : x1 ≤ 2147483647) (h29 : -2147483648 ≤ x2) (h30 : x2 ≤ 2147483647) (h31 : -2147483648 ≤ x3) (h32 : x3 ≤ 2147483647) (h33 : -2147483648 ≤ x4) (h34 : x4 ≤ 2147483647) (h35 : -2147483648 ≤ x5) (h36 : x5 ≤ 2147483647) (h37 : -2147483648 ≤ x7) (h38 : x7 ≤ 2147483647) (h39 : -2147483648 ≤ x8) (h40 : x8 ≤ 2147483647) (h41 : -2147483648 ≤ x9) (h42 : x9 ≤ 2147483647) (h43 : -2147483648 ≤ x10) (h44 : x10 ≤ 2147483647) (h45 : -2147483648 ≤ x11) (h46 : x11 ≤ 2147483647) (h47 : -2147483648 ≤ x12) (h48 : x12 ≤ 2147483647) (h49 : -2147483648 ≤ x13) (h50 : x13 ≤ 2147483647) : x0 + x1 ≤ 2147483647 := by omega
theorem o19_650 {x0 x1 x2 x3 x4 x5 x7 x8 x9 x10 x11 x12 x13 x14 : Int} {x6 : Nat} (h0 : 0 ≤ x1) (h1 : x1 ≤ 99) (h2 : 0 ≤ x2) (h3 : x2 ≤ 3) (h4 : 0 ≤ x3) (h5 : x3 ≤ 30) (h6 : 0 ≤ x4) (h7 : x4 ≤ 31) (h8 : 0 ≤ x5) (h9 : x5 ≤ 1) (h10 : (x5 = 0 ∨ 1 ≤ x4)) (h11 : 31 - x4 < ((x6 + 1 : Nat) : Int)) (h12 : 0 ≤ x7) (h13 : x7 ≤ 31) (h14 : x7 = x4) (h15 : x3 < x7) (h16 : 0 ≤ x8) (h17 : x8 ≤ 31) (h18 : x8 = x4) (h19 : x9 = 1) (h20 : x10 = x8 - x9) (h21 : (x11 = x3 ∧ x3 ≤ x10) ∨ (x11 = x10 ∧ x10 ≤ x3)) (h22 : x12 = x11 * 400) (h23 : x13 = 4 * x1) (h24 : x14 = x12 + x13) (h25 : x0 = x14 + x2) : 0 ≤ x0 := by omega
theorem o19_651 {x0 x1 x2 x3 x4 x5 x7 x8 x9 x10 x11 x12 x13 x14 : Int} {x6 : Nat} (h0 : 0 ≤ x1) (h1 : x1 ≤ 99) (h2 : 0 ≤ x2) (h3 : x2 ≤ 3) (h4 : 0 ≤ x3) (h5 : x3 ≤ 30) (h6 : 0 ≤ x4) (h7 : x4 ≤ 31) (h8 : 0 ≤ x5) (h9 : x5 ≤ 1) (h10 : (x5 = 0 ∨ 1 ≤ x4)) (h11 : 31 - x4 < ((x6 + 1 : Nat) : Int)) (h12 : 0 ≤ x7) (h13 : x7 ≤ 31) (h14 : x7 = x4) (h15 : x3 < x7) (h16 : 0 ≤ x8) (h17 : x8 ≤ 31) (h18 : x8 = x4) (h19 : x9 = 1) (h20 : x10 = x8 - x9) (h21 : (x11 = x3 ∧ x3 ≤ x10) ∨ (x11 = x10 ∧ x10 ≤ x3)) (h22 : x12 = x11 * 400) (h23 : x13 = 4 * x1) (h24 : x14 = x12 + x13) (h25 : x0 = x14 + x2) : x0 < (12400 : Nat) := by omega
theorem o19_652 {x0 x1 x2 x3 x4 x6 x7 x8 x9 x10 x11 x12 x13 x14 : Int} {x5 : Nat} (h0 : 0 ≤ x2) (h1 : x2 ≤ 99) (h2 : 0 ≤ x3) (h3 : x3 ≤ 3) (h4 : 0 ≤ x4) (h5 : x4 ≤ 30) (h6 : 0 ≤ x1) (h7 : x1 ≤ 31) (h8 : 0 ≤ x0) (h9 : x0 ≤ 1) (h10 : (x0 = 0 ∨ 1 ≤ x1)) (h11 : 31 - x1 < ((x5 + 1 : Nat) : Int)) (h12 : 0 ≤ x6) (h13 : x6 ≤ 31) (h14 : x6 = x1) (h15 : x4 < x6) (h16 : 0 ≤ x7) (h17 : x7 ≤ 31) (h18 : x7 = x1) (h19 : x8 = 1) (h20 : x9 = x7 - x8) (h21 : (x10 = x4 ∧ x4 ≤ x9) ∨ (x10 = x9 ∧ x9 ≤ x4)) (h22 : x11 = x10 * 400) (h23 : x12 = 4 * x2) (h24 : x13 = x11 + x12) (h25 : x14 = x13 + x3) : (x0 = 0 ∨ 1 ≤ x1) := by omega
theorem o19_653 {x0 x1 x2 x3 x4 x6 : Int} {x5 : Nat} (h0 : 0 ≤ x2) (h1 : x2 ≤ 30) (h2 : 0 ≤ x3) (h3 : x3 ≤ 31) (h4 : 0 ≤ x4) (h5 : x4 ≤ 1) (h6 : (x4 = 0 ∨ 1 ≤ x3)) (h7 : 31 - x3 < ((x5 + 1 : Nat) : Int)) (h8 : 0 ≤ x6) (h9 : x6 ≤ 31) (h10 : x6 = x3) (h11 : x6 ≤ x2) (h12 : 0 ≤ x0) (h13 : x0 ≤ 31) (h14 : x0 = x3) (h15 : x1 = 30) (h16 : x1 < x0) : False := by omega
theorem o19_654 {x0 x1 x2 x3 x4 x6 x7 x8 x9 : Int} {x5 : Nat} (h0 : 0 ≤ x2) (h1 : x2 ≤ 30) (h2 : 0 ≤ x3) (h3 : x3 ≤ 31) (h4 : 0 ≤ x4) (h5 : x4 ≤ 1) (h6 : (x4 = 0 ∨ 1 ≤ x3)) (h7 : 31 - x3 < ((x5 + 1 : Nat) : Int)) (h8 : 0 ≤ x6) (h9 : x6 ≤ 31) (h10 : x6 = x3) (h11 : x6 ≤ x2) (h12 : 0 ≤ x7) (h13 : x7 ≤ 31) (h14 : x7 = x3) (h15 : x8 = 30) (h16 : x7 ≤ x8) (h17 : 0 ≤ x9) (h18 : x9 ≤ 1) (h19 : x9 = x4) (h20 : ¬ x9 = 0) (h21 : 0 ≤ x0) (h22 : x0 ≤ 31) (h23 : x0 = x3) (h24 : x1 = 1) (h25 : -2147483648 ≤ x0) (h26 : x0 ≤ 2147483647) (h27 : -2147483648 ≤ x1) (h28 : x1 ≤ 2147483647) (h29 : -2147483648 ≤ x2) (h30 : x2 ≤ 2147483647) (h31 : -2147483648 ≤ x3) (h32 : x3 ≤ 2147483647) (h33 : -2147483648 ≤ x4) (h34 : x4 ≤ 2147483647) (h35 : -2147483648 ≤ x6) (h36 : x6 ≤ 2147483647) (h37 : -2147483648 ≤ x7) (h38 : x7 ≤ 2147483647) (h39 : -2147483648 ≤ x8) (h40 : x8 ≤ 2147483647) (h41 : -2147483648 ≤ x9) (h42 : x9 ≤ 2147483647) : -2147483648 ≤ x0 - x1 := by omega
theorem o19_655 {x0 x1 x2 x3 x4 x6 x7 x8 x9 : Int} {x5 : Nat} (h0 : 0 ≤ x2) (h1 : x2 ≤ 30) (h2 : 0 ≤ x3) (h3 : x3 ≤ 31) (h4 : 0 ≤ x4) (h5 : x4 ≤ 1) (h6 : (x4 = 0 ∨ 1 ≤ x3)) (h7 : 31 - x3 < ((x5 + 1 : Nat) : Int)) (h8 : 0 ≤ x6) (h9 : x6 ≤ 31) (h10 : x6 = x3) (h11 : x6 ≤ x2) (h12 : 0 ≤ x7) (h13 : x7 ≤ 31) (h14 : x7 = x3) (h15 : x8 = 30) (h16 : x7 ≤ x8) (h17 : 0 ≤ x9) (h18 : x9 ≤ 1) (h19 : x9 = x4) (h20 : ¬ x9 = 0) (h21 : 0 ≤ x0) (h22 : x0 ≤ 31) (h23 : x0 = x3) (h24 : x1 = 1) (h25 : -2147483648 ≤ x0) (h26 : x0 ≤ 2147483647) (h27 : -2147483648 ≤ x1) (h28 : x1 ≤ 2147483647) (h29 : -2147483648 ≤ x2) (h30 : x2 ≤ 2147483647) (h31 : -2147483648 ≤ x3) (h32 : x3 ≤ 2147483647) (h33 : -2147483648 ≤ x4) (h34 : x4 ≤ 2147483647) (h35 : -2147483648 ≤ x6) (h36 : x6 ≤ 2147483647) (h37 : -2147483648 ≤ x7) (h38 : x7 ≤ 2147483647) (h39 : -2147483648 ≤ x8) (h40 : x8 ≤ 2147483647) (h41 : -2147483648 ≤ x9) (h42 : x9 ≤ 2147483647) : x0 - x1 ≤ 2147483647 := by omega
theorem o19_656 {x0 x1 x2 x3 x5 x6 x7 x8 x9 x10 x11 : Int} {x4 : Nat} (h0 : 0 ≤ x1) (h1 : x1 ≤ 30) (h2 : 0 ≤ x2) (h3 : x2 ≤ 31) (h4 : 0 ≤ x3) (h5 : x3 ≤ 1) (h6 : (x3 = 0 ∨ 1 ≤ x2)) (h7 : 31 - x2 < ((x4 + 1 : Nat) : Int)) (h8 : 0 ≤ x5) (h9 : x5 ≤ 31) (h10 : x5 = x2) (h11 : x5 ≤ x1) (h12 : 0 ≤ x6) (h13 : x6 ≤ 31) (h14 : x6 = x2) (h15 : x7 = 30) (h16 : x6 ≤ x7) (h17 : 0 ≤ x8) (h18 : x8 ≤ 1) (h19 : x8 = x3) (h20 : ¬ x8 = 0) (h21 : 0 ≤ x9) (h22 : x9 ≤ 31) (h23 : x9 = x2) (h24 : x10 = 1) (h25 : x11 = x9 - x10) (h26 : (x0 = x1 ∧ x1 ≤ x11) ∨ (x0 = x11 ∧ x11 ≤ x1)) (h27 : -2147483648 ≤ x0) (h28 : x0 ≤ 2147483647) (h29 : -2147483648 ≤ x1) (h30 : x1 ≤ 2147483647) (h31 : -2147483648 ≤ x2) (h32 : x2 ≤ 2147483647) (h33 : -2147483648 ≤ x3) (h34 : x3 ≤ 2147483647) (h35 : -2147483648 ≤ x5) (h36 : x5 ≤ 2147483647) (h37 : -2147483648 ≤ x6) (h38 : x6 ≤ 2147483647) (h39 : -2147483648 ≤ x7) (h40 : x7 ≤ 2147483647) (h41 : -2147483648 ≤ x8) (h42 : x8 ≤ 2147483647) (h43 : -2147483648 ≤ x9) (h44 : x9 ≤ 2147483647) (h45 : -2147483648 ≤ x10) (h46 : x10 ≤ 2147483647) (h47 : -2147483648 ≤ x11) (h48 : x11 ≤ 2147483647) : -2147483648 ≤ x0 * 400 := by omega
theorem o19_657 {x0 x1 x2 x3 x5 x6 x7 x8 x9 x10 x11 : Int} {x4 : Nat} (h0 : 0 ≤ x1) (h1 : x1 ≤ 30) (h2 : 0 ≤ x2) (h3 : x2 ≤ 31) (h4 : 0 ≤ x3) (h5 : x3 ≤ 1) (h6 : (x3 = 0 ∨ 1 ≤ x2)) (h7 : 31 - x2 < ((x4 + 1 : Nat) : Int)) (h8 : 0 ≤ x5) (h9 : x5 ≤ 31) (h10 : x5 = x2) (h11 : x5 ≤ x1) (h12 : 0 ≤ x6) (h13 : x6 ≤ 31) (h14 : x6 = x2) (h15 : x7 = 30) (h16 : x6 ≤ x7) (h17 : 0 ≤ x8) (h18 : x8 ≤ 1) (h19 : x8 = x3) (h20 : ¬ x8 = 0) (h21 : 0 ≤ x9) (h22 : x9 ≤ 31) (h23 : x9 = x2) (h24 : x10 = 1) (h25 : x11 = x9 - x10) (h26 : (x0 = x1 ∧ x1 ≤ x11) ∨ (x0 = x11 ∧ x11 ≤ x1)) (h27 : -2147483648 ≤ x0) (h28 : x0 ≤ 2147483647) (h29 : -2147483648 ≤ x1) (h30 : x1 ≤ 2147483647) (h31 : -2147483648 ≤ x2) (h32 : x2 ≤ 2147483647) (h33 : -2147483648 ≤ x3) (h34 : x3 ≤ 2147483647) (h35 : -2147483648 ≤ x5) (h36 : x5 ≤ 2147483647) (h37 : -2147483648 ≤ x6) (h38 : x6 ≤ 2147483647) (h39 : -2147483648 ≤ x7) (h40 : x7 ≤ 2147483647) (h41 : -2147483648 ≤ x8) (h42 : x8 ≤ 2147483647) (h43 : -2147483648 ≤ x9) (h44 : x9 ≤ 2147483647) (h45 : -2147483648 ≤ x10) (h46 : x10 ≤ 2147483647) (h47 : -2147483648 ≤ x11) (h48 : x11 ≤ 2147483647) : x0 * 400 ≤ 2147483647 := by omega
theorem o19_658 {x0 x1 x2 x3 x4 x5 x7 x8 x9 x10 x11 x12 x13 x14 : Int} {x6 : Nat} (h0 : 0 ≤ x2) (h1 : x2 ≤ 99) (h2 : 0 ≤ x3) (h3 : x3 ≤ 30) (h4 : 0 ≤ x4) (h5 : x4 ≤ 31) (h6 : 0 ≤ x5) (h7 : x5 ≤ 1) (h8 : (x5 = 0 ∨ 1 ≤ x4)) (h9 : 31 - x4 < ((x6 + 1 : Nat) : Int)) (h10 : 0 ≤ x7) (h11 : x7 ≤ 31) (h12 : x7 = x4) (h13 : x7 ≤ x3) (h14 : 0 ≤ x8) (h15 : x8 ≤ 31) (h16 : x8 = x4) (h17 : x9 = 30) (h18 : x8 ≤ x9) (h19 : 0 ≤ x10) (h20 : x10 ≤ 1) (h21 : x10 = x5) (h22 : ¬ x10 = 0) (h23 : 0 ≤ x11) (h24 : x11 ≤ 31) (h25 : x11 = x4) (h26 : x12 = 1) (h27 : x13 = x11 - x12) (h28 : (x14 = x3 ∧ x3 ≤ x13) ∨ (x14 = x13 ∧ x13 ≤ x3)) (h29 : x0 = x14 * 400) (h30 : x1 = 4 * x2) (h31 : -2147483648 ≤ x0) (h32 : x0 ≤ 2147483647) (h33 : -2147483648 ≤ x1) (h34 : x1 ≤ 2147483647) (h35 : -2147483648 ≤ x2) (h36 : x2 ≤ 2147483647) (h37 : -2147483648 ≤ x3) (h38 : x3 ≤ 2147483647) (h39 : -2147483648 ≤ x4) (h40 : x4 ≤ 2147483647) (h41 : -2147483648 ≤ x5) (h42 : x5 ≤ 2147483647) (h43 : -2147483648 ≤ x7) (h44 : x7 ≤ 2147483647) (h45 : -2147483648 ≤ x8) (h46 : x8 ≤ 2147483647) (h47 : -2147483648 ≤ x9) (h48 : x9 ≤ 2147483647) (h49 : -2147483648 ≤ x10) (h50 : x10 ≤ 2147483647) (h51 : -2147483648 ≤ x11) (h52 : x11 ≤ 2147483647) (h53 : -2147483648 ≤ x12) (h54 : x12 ≤ 2147483647) (h55 : -2147483648 ≤ x13) (h56 : x13 ≤ 2147483647) (h57 : -2147483648 ≤ x14) (h58 : x14 ≤ 2147483647) : -2147483648 ≤ x0 + x1 := by omega
theorem o19_659 {x0 x1 x2 x3 x4 x5 x7 x8 x9 x10 x11 x12 x13 x14 : Int} {x6 : Nat} (h0 : 0 ≤ x2) (h1 : x2 ≤ 99) (h2 : 0 ≤ x3) (h3 : x3 ≤ 30) (h4 : 0 ≤ x4) (h5 : x4 ≤ 31) (h6 : 0 ≤ x5) (h7 : x5 ≤ 1) (h8 : (x5 = 0 ∨ 1 ≤ x4)) (h9 : 31 - x4 < ((x6 + 1 : Nat) : Int)) (h10 : 0 ≤ x7) (h11 : x7 ≤ 31) (h12 : x7 = x4) (h13 : x7 ≤ x3) (h14 : 0 ≤ x8) (h15 : x8 ≤ 31) (h16 : x8 = x4) (h17 : x9 = 30) (h18 : x8 ≤ x9) (h19 : 0 ≤ x10) (h20 : x10 ≤ 1) (h21 : x10 = x5) (h22 : ¬ x10 = 0) (h23 : 0 ≤ x11) (h24 : x11 ≤ 31) (h25 : x11 = x4) (h26 : x12 = 1) (h27 : x13 = x11 - x12) (h28 : (x14 = x3 ∧ x3 ≤ x13) ∨ (x14 = x13 ∧ x13 ≤ x3)) (h29 : x0 = x14 * 400) (h30 : x1 = 4 * x2) (h31 : -2147483648 ≤ x0) (h32 : x0 ≤ 2147483647) (h33 : -2147483648 ≤ x1) (h34 : x1 ≤ 2147483647) (h35 : -2147483648 ≤ x2) (h36 : x2 ≤ 2147483647) (h37 : -2147483648 ≤ x3) (h38 : x3 ≤ 2147483647) (h39 : -2147483648 ≤ x4) (h40 : x4 ≤ 2147483647) (h41 : -2147483648 ≤ x5) (h42 : x5 ≤ 2147483647) (h43 : -2147483648 ≤ x7) (h44 : x7 ≤ 2147483647) (h45 : -2147483648 ≤ x8) (h46 : x8 ≤ 2147483647) (h47 : -2147483648 ≤ x9) (h48 : x9 ≤ 2147483647) (h49 : -2147483648 ≤ x10) (h50 : x10 ≤ 2147483647) (h51 : -2147483648 ≤ x11) (h52 : x11 ≤ 2147483647) (h53 : -2147483648 ≤ x12) (h54 : x12 ≤ 2147483647) (h55 : -2147483648 ≤ x13) (h56 : x13 ≤ 2147483647) (h57 : -2147483648 ≤ x14) (h58 : x14 ≤ 2147483647) : x0 + x1 ≤ 2147483647 := by omega
theorem o19_660 {x0 x1 x2 x3 x4 x5 x7 x8 x9 x10 x11 x12 x13 x14 x15 x16 : Int} {x6 : Nat} (h0 : 0 ≤ x2) (h1 : x2 ≤ 99) (h2 : 0 ≤ x1) (h3 : x1 ≤ 3) (h4 : 0 ≤ x3) (h5 : x3 ≤ 30) (h6 : 0 ≤ x4) (h7 : x4 ≤ 31) (h8 : 0 ≤ x5) (h9 : x5 ≤ 1) (h10 : (x5 = 0 ∨ 1 ≤ x4)) (h11 : 31 - x4 < ((x6 + 1 : Nat) : Int)) (h12 : 0 ≤ x7) (h13 : x7 ≤ 31) (h14 : x7 = x4) (h15 : x7 ≤ x3) (h16 : 0 ≤ x8) (h17 : x8 ≤ 31) (h18 : x8 = x4) (h19 : x9 = 30) (h20 : x8 ≤ x9) (h21 : 0 ≤ x10) (h22 : x10 ≤ 1) (h23 : x10 = x5) (h24 : ¬ x10 = 0) (h25 : 0 ≤ x11) (h26 : x11 ≤ 31) (h27 : x11 = x4) (h28 : x12 = 1) (h29 : x13 = x11 - x12) (h30 : (x14 = x3 ∧ x3 ≤ x13) ∨ (x14 = x13 ∧ x13 ≤ x3)) (h31 : x15 = x14 * 400) (h32 : x16 = 4 * x2) (h33 : x0 = x15 + x16) (h34 : -2147483648 ≤ x0) (h35 : x0 ≤ 2147483647) (h36 : -2147483648 ≤ x1) (h37 : x1 ≤ 2147483647) (h38 : -2147483648 ≤ x2) (h39 : x2 ≤ 2147483647) (h40 : -2147483648 ≤ x3) (h41 : x3 ≤ 2147483647) (h42 : -2147483648 ≤ x4) (h43 : x4 ≤ 2147483647) (h44 : -2147483648 ≤ x5) (h45 : x5 ≤ 2147483647) (h46 : -2147483648 ≤ x7) (h47 : x7 ≤ 2147483647) (h48 : -2147483648 ≤ x8) (h49 : x8 ≤ 2147483647) (h50 : -2147483648 ≤ x9) (h51 : x9 ≤ 2147483647) (h52 : -2147483648 ≤ x10) (h53 : x10 ≤ 2147483647) (h54 : -2147483648 ≤ x11) (h55 : x11 ≤ 2147483647) (h56 : -2147483648 ≤ x12) (h57 : x12 ≤ 2147483647) (h58 : -2147483648 ≤ x13) (h59 : x13 ≤ 2147483647) (h60 : -2147483648 ≤ x14) (h61 : x14 ≤ 2147483647) (h62 : -2147483648 ≤ x15) (h63 : x15 ≤ 2147483647) (h64 : -2147483648 ≤ x16) (h65 : x16 ≤ 2147483647) : -2147483648 ≤ x0 + x1 := by omega
theorem o19_661 {x0 x1 x2 x3 x4 x5 x7 x8 x9 x10 x11 x12 x13 x14 x15 x16 : Int} {x6 : Nat} (h0 : 0 ≤ x2) (h1 : x2 ≤ 99) (h2 : 0 ≤ x1) (h3 : x1 ≤ 3) (h4 : 0 ≤ x3) (h5 : x3 ≤ 30) (h6 : 0 ≤ x4) (h7 : x4 ≤ 31) (h8 : 0 ≤ x5) (h9 : x5 ≤ 1) (h10 : (x5 = 0 ∨ 1 ≤ x4)) (h11 : 31 - x4 < ((x6 + 1 : Nat) : Int)) (h12 : 0 ≤ x7) (h13 : x7 ≤ 31) (h14 : x7 = x4) (h15 : x7 ≤ x3) (h16 : 0 ≤ x8) (h17 : x8 ≤ 31) (h18 : x8 = x4) (h19 : x9 = 30) (h20 : x8 ≤ x9) (h21 : 0 ≤ x10) (h22 : x10 ≤ 1) (h23 : x10 = x5) (h24 : ¬ x10 = 0) (h25 : 0 ≤ x11) (h26 : x11 ≤ 31) (h27 : x11 = x4) (h28 : x12 = 1) (h29 : x13 = x11 - x12) (h30 : (x14 = x3 ∧ x3 ≤ x13) ∨ (x14 = x13 ∧ x13 ≤ x3)) (h31 : x15 = x14 * 400) (h32 : x16 = 4 * x2) (h33 : x0 = x15 + x16) (h34 : -2147483648 ≤ x0) (h35 : x0 ≤ 2147483647) (h36 : -2147483648 ≤ x1) (h37 : x1 ≤ 2147483647) (h38 : -2147483648 ≤ x2) (h39 : x2 ≤ 2147483647) (h40 : -2147483648 ≤ x3) (h41 : x3 ≤ 2147483647) (h42 : -2147483648 ≤ x4) (h43 : x4 ≤ 2147483647) (h44 : -2147483648 ≤ x5) (h45 : x5 ≤ 2147483647) (h46 : -2147483648 ≤ x7) (h47 : x7 ≤ 2147483647) (h48 : -2147483648 ≤ x8) (h49 : x8 ≤ 2147483647) (h50 : -2147483648 ≤ x9) (h51 : x9 ≤ 2147483647) (h52 : -2147483648 ≤ x10) (h53 : x10 ≤ 2147483647) (h54 : -2147483648 ≤ x11) (h55 : x11 ≤ 2147483647) (h56 : -2147483648 ≤ x12) (h57 : x12 ≤ 2147483647) (h58 : -2147483648 ≤ x13) (h59 : x13 ≤ 2147483647) (h60 : -2147483648 ≤ x14) (h61 : x14 ≤ 2147483647) (h62 : -2147483648 ≤ x15) (h63 : x15 ≤ 2147483647) (h64 : -2147483648 ≤ x16) (h65 : x16 ≤ 2147483647) : x0 + x1 ≤ 2147483647 := by omega
theorem o19_662 {x0 x1 x2 x3 x4 x5 x7 x8 x9 x10 x11 x12 x13 x14 x15 x16 x17 : Int} {x6 : Nat} (h0 : 0 ≤ x1) (h1 : x1 ≤ 99) (h2 : 0 ≤ x2) (h3 : x2 ≤ 3) (h4 : 0 ≤ x3) (h5 : x3 ≤ 30) (h6 : 0 ≤ x4) (h7 : x4 ≤ 31) (h8 : 0 ≤ x5) (h9 : x5 ≤ 1) (h10 : (x5 = 0 ∨ 1 ≤ x4)) (h11 : 31 - x4 < ((x6 + 1 : Nat) : Int)) (h12 : 0 ≤ x7) (h13 : x7 ≤ 31) (h14 : x7 = x4) (h15 : x7 ≤ x3) (h16 : 0 ≤ x8) (h17 : x8 ≤ 31) (h18 : x8 = x4) (h19 : x9 = 30) (h20 : x8 ≤ x9) (h21 : 0 ≤ x10) (h22 : x10 ≤ 1) (h23 : x10 = x5) (h24 : ¬ x10 = 0) (h25 : 0 ≤ x11) (h26 : x11 ≤ 31) (h27 : x11 = x4) (h28 : x12 = 1) (h29 : x13 = x11 - x12) (h30 : (x14 = x3 ∧ x3 ≤ x13) ∨ (x14 = x13 ∧ x13 ≤ x3)) (h31 : x15 = x14 * 400) (h32 : x16 = 4 * x1) (h33 : x17 = x15 + x16) (h34 : x0 = x17 + x2) : 0 ≤ x0 := by omega
theorem o19_663 {x0 x1 x2 x3 x4 x5 x7 x8 x9 x10 x11 x12 x13 x14 x15 x16 x17 : Int} {x6 : Nat} (h0 : 0 ≤ x1) (h1 : x1 ≤ 99) (h2 : 0 ≤ x2) (h3 : x2 ≤ 3) (h4 : 0 ≤ x3) (h5 : x3 ≤ 30) (h6 : 0 ≤ x4) (h7 : x4 ≤ 31) (h8 : 0 ≤ x5) (h9 : x5 ≤ 1) (h10 : (x5 = 0 ∨ 1 ≤ x4)) (h11 : 31 - x4 < ((x6 + 1 : Nat) : Int)) (h12 : 0 ≤ x7) (h13 : x7 ≤ 31) (h14 : x7 = x4) (h15 : x7 ≤ x3) (h16 : 0 ≤ x8) (h17 : x8 ≤ 31) (h18 : x8 = x4) (h19 : x9 = 30) (h20 : x8 ≤ x9) (h21 : 0 ≤ x10) (h22 : x10 ≤ 1) (h23 : x10 = x5) (h24 : ¬ x10 = 0) (h25 : 0 ≤ x11) (h26 : x11 ≤ 31) (h27 : x11 = x4) (h28 : x12 = 1) (h29 : x13 = x11 - x12) (h30 : (x14 = x3 ∧ x3 ≤ x13) ∨ (x14 = x13 ∧ x13 ≤ x3)) (h31 : x15 = x14 * 400) (h32 : x16 = 4 * x1) (h33 : x17 = x15 + x16) (h34 : x0 = x17 + x2) : x0 < (12400 : Nat) := by omega
theorem o19_664 {x0 x1 x2 x3 x4 x6 x7 x8 x9 x10 x11 x12 x13 x14 x15 x16 x17 : Int} {x5 : Nat} (h0 : 0 ≤ x2) (h1 : x2 ≤ 99) (h2 : 0 ≤ x3) (h3 : x3 ≤ 3) (h4 : 0 ≤ x4) (h5 : x4 ≤ 30) (h6 : 0 ≤ x1) (h7 : x1 ≤ 31) (h8 : 0 ≤ x0) (h9 : x0 ≤ 1) (h10 : (x0 = 0 ∨ 1 ≤ x1)) (h11 : 31 - x1 < ((x5 + 1 : Nat) : Int)) (h12 : 0 ≤ x6) (h13 : x6 ≤ 31) (h14 : x6 = x1) (h15 : x6 ≤ x4) (h16 : 0 ≤ x7) (h17 : x7 ≤ 31) (h18 : x7 = x1) (h19 : x8 = 30) (h20 : x7 ≤ x8) (h21 : 0 ≤ x9) (h22 : x9 ≤ 1) (h23 : x9 = x0) (h24 : ¬ x9 = 0) (h25 : 0 ≤ x10) (h26 : x10 ≤ 31) (h27 : x10 = x1) (h28 : x11 = 1) (h29 : x12 = x10 - x11) (h30 : (x13 = x4 ∧ x4 ≤ x12) ∨ (x13 = x12 ∧ x12 ≤ x4)) (h31 : x14 = x13 * 400) (h32 : x15 = 4 * x2) (h33 : x16 = x14 + x15) (h34 : x17 = x16 + x3) : (x0 = 0 ∨ 1 ≤ x1) := by omega
theorem o19_665 {x0 x1 x2 x3 x5 x6 x7 x8 : Int} {x4 : Nat} (h0 : 0 ≤ x1) (h1 : x1 ≤ 30) (h2 : 0 ≤ x2) (h3 : x2 ≤ 31) (h4 : 0 ≤ x3) (h5 : x3 ≤ 1) (h6 : (x3 = 0 ∨ 1 ≤ x2)) (h7 : 31 - x2 < ((x4 + 1 : Nat) : Int)) (h8 : 0 ≤ x5) (h9 : x5 ≤ 31) (h10 : x5 = x2) (h11 : x5 ≤ x1) (h12 : 0 ≤ x6) (h13 : x6 ≤ 31) (h14 : x6 = x2) (h15 : x7 = 30) (h16 : x6 ≤ x7) (h17 : 0 ≤ x8) (h18 : x8 ≤ 1) (h19 : x8 = x3) (h20 : x8 = 0) (h21 : 0 ≤ x0) (h22 : x0 ≤ 31) (h23 : x0 = x2) : 0 ≤ x0 := by omega
theorem o19_666 {x0 x1 x2 x3 x5 x6 x7 x8 : Int} {x4 : Nat} (h0 : 0 ≤ x1) (h1 : x1 ≤ 30) (h2 : 0 ≤ x2) (h3 : x2 ≤ 31) (h4 : 0 ≤ x3) (h5 : x3 ≤ 1) (h6 : (x3 = 0 ∨ 1 ≤ x2)) (h7 : 31 - x2 < ((x4 + 1 : Nat) : Int)) (h8 : 0 ≤ x5) (h9 : x5 ≤ 31) (h10 : x5 = x2) (h11 : x5 ≤ x1) (h12 : 0 ≤ x6) (h13 : x6 ≤ 31) (h14 : x6 = x2) (h15 : x7 = 30) (h16 : x6 ≤ x7) (h17 : 0 ≤ x8) (h18 : x8 ≤ 1) (h19 : x8 = x3) (h20 : x8 = 0) (h21 : 0 ≤ x0) (h22 : x0 ≤ 31) (h23 : x0 = x2) : x0 ≤ 30 := by omega
theorem o19_667 {x0 x1 x2 x3 x4 x6 x7 x8 x9 x10 x11 : Int} {x5 : Nat} (h0 : 0 ≤ x2) (h1 : x2 ≤ 30) (h2 : 0 ≤ x3) (h3 : x3 ≤ 31) (h4 : 0 ≤ x4) (h5 : x4 ≤ 1) (h6 : (x4 = 0 ∨ 1 ≤ x3)) (h7 : 31 - x3 < ((x5 + 1 : Nat) : Int)) (h8 : 0 ≤ x6) (h9 : x6 ≤ 31) (h10 : x6 = x3) (h11 : x6 ≤ x2) (h12 : 0 ≤ x7) (h13 : x7 ≤ 31) (h14 : x7 = x3) (h15 : x8 = 30) (h16 : x7 ≤ x8) (h17 : 0 ≤ x9) (h18 : x9 ≤ 1) (h19 : x9 = x4) (h20 : x9 = 0) (h21 : 0 ≤ x10) (h22 : x10 ≤ 31) (h23 : x10 = x3) (h24 : 0 ≤ x11) (h25 : x11 ≤ 31) (h26 : x11 = x3) (h27 : x11 ≤ 0) (h28 : 0 ≤ x0) (h29 : x0 ≤ 31) (h30 : x0 = x3) (h31 : x1 = 1) (h32 : -2147483648 ≤ x0) (h33 : x0 ≤ 2147483647) (h34 : -2147483648 ≤ x1) (h35 : x1 ≤ 2147483647) (h36 : -2147483648 ≤ x2) (h37 : x2 ≤ 2147483647) (h38 : -2147483648 ≤ x3) (h39 : x3 ≤ 2147483647) (h40 : -2147483648 ≤ x4) (h41 : x4 ≤ 2147483647) (h42 : -2147483648 ≤ x6) (h43 : x6 ≤ 2147483647) (h44 : -2147483648 ≤ x7) (h45 : x7 ≤ 2147483647) (h46 : -2147483648 ≤ x8) (h47 : x8 ≤ 2147483647) (h48 : -2147483648 ≤ x9) (h49 : x9 ≤ 2147483647) (h50 : -2147483648 ≤ x10) (h51 : x10 ≤ 2147483647) (h52 : -2147483648 ≤ x11) (h53 : x11 ≤ 2147483647) : -2147483648 ≤ x0 + x1 := by omega
theorem o19_668 {x0 x1 x2 x3 x4 x6 x7 x8 x9 x10 x11 : Int} {x5 : Nat} (h0 : 0 ≤ x2) (h1 : x2 ≤ 30) (h2 : 0 ≤ x3) (h3 : x3 ≤ 31) (h4 : 0 ≤ x4) (h5 : x4 ≤ 1) (h6 : (x4 = 0 ∨ 1 ≤ x3)) (h7 : 31 - x3 < ((x5 + 1 : Nat) : Int)) (h8 : 0 ≤ x6) (h9 : x6 ≤ 31) (h10 : x6 = x3) (h11 : x6 ≤ x2) (h12 : 0 ≤ x7) (h13 : x7 ≤ 31) (h14 : x7 = x3) (h15 : x8 = 30) (h16 : x7 ≤ x8) (h17 : 0 ≤ x9) (h18 : x9 ≤ 1) (h19 : x9 = x4) (h20 : x9 = 0) (h21 : 0 ≤ x10) (h22 : x10 ≤ 31) (h23 : x10 = x3) (h24 : 0 ≤ x11) (h25 : x11 ≤ 31) (h26 : x11 = x3) (h27 : x11 ≤ 0) (h28 : 0 ≤ x0) (h29 : x0 ≤ 31) (h30 : x0 = x3) (h31 : x1 = 1) (h32 : -2147483648 ≤ x0) (h33 : x0 ≤ 2147483647) (h34 : -2147483648 ≤ x1) (h35 : x1 ≤ 2147483647) (h36 : -2147483648 ≤ x2) (h37 : x2 ≤ 2147483647) (h38 : -2147483648 ≤ x3) (h39 : x3 ≤ 2147483647) (h40 : -2147483648 ≤ x4) (h41 : x4 ≤ 2147483647) (h42 : -2147483648 ≤ x6) (h43 : x6 ≤ 2147483647) (h44 : -2147483648 ≤ x7) (h45 : x7 ≤ 2147483647) (h46 : -2147483648 ≤ x8) (h47 : x8 ≤ 2147483647) (h48 : -2147483648 ≤ x9) (h49 : x9 ≤ 2147483647) (h50 : -2147483648 ≤ x10) (h51 : x10 ≤ 2147483647) (h52 : -2147483648 ≤ x11) (h53 : x11 ≤ 2147483647) : x0 + x1 ≤ 2147483647 := by omega
theorem o19_669 {x0 x1 x2 x3 x5 x6 x7 x8 x9 x10 x11 x12 : Int} {x4 : Nat} (h0 : 0 ≤ x1) (h1 : x1 ≤ 30) (h2 : 0 ≤ x2) (h3 : x2 ≤ 31) (h4 : 0 ≤ x3) (h5 : x3 ≤ 1) (h6 : (x3 = 0 ∨ 1 ≤ x2)) (h7 : 31 - x2 < ((x4 + 1 : Nat) : Int)) (h8 : 0 ≤ x5) (h9 : x5 ≤ 31) (h10 : x5 = x2) (h11 : x5 ≤ x1) (h12 : 0 ≤ x6) (h13 : x6 ≤ 31) (h14 : x6 = x2) (h15 : x7 = 30) (h16 : x6 ≤ x7) (h17 : 0 ≤ x8) (h18 : x8 ≤ 1) (h19 : x8 = x3) (h20 : x8 = 0) (h21 : 0 ≤ x9) (h22 : x9 ≤ 31) (h23 : x9 = x2) (h24 : 0 ≤ x10) (h25 : x10 ≤ 31) (h26 : x10 = x2) (h27 : x10 ≤ 0) (h28 : 0 ≤ x11) (h29 : x11 ≤ 31) (h30 : x11 = x2) (h31 : x12 = 1) (h32 : x0 = x11 + x12) : 0 ≤ x0 := by omega
theorem o19_670 {x0 x1 x2 x3 x5 x6 x7 x8 x9 x10 x11 x12 : Int} {x4 : Nat} (h0 : 0 ≤ x1) (h1 : x1 ≤ 30) (h2 : 0 ≤ x2) (h3 : x2 ≤ 31) (h4 : 0 ≤ x3) (h5 : x3 ≤ 1) (h6 : (x3 = 0 ∨ 1 ≤ x2)) (h7 : 31 - x2 < ((x4 + 1 : Nat) : Int)) (h8 : 0 ≤ x5) (h9 : x5 ≤ 31) (h10 : x5 = x2) (h11 : x5 ≤ x1) (h12 : 0 ≤ x6) (h13 : x6 ≤ 31) (h14 : x6 = x2) (h15 : x7 = 30) (h16 : x6 ≤ x7) (h17 : 0 ≤ x8) (h18 : x8 ≤ 1) (h19 : x8 = x3) (h20 : x8 = 0) (h21 : 0 ≤ x9) (h22 : x9 ≤ 31) (h23 : x9 = x2) (h24 : 0 ≤ x10) (h25 : x10 ≤ 31) (h26 : x10 = x2) (h27 : x10 ≤ 0) (h28 : 0 ≤ x11) (h29 : x11 ≤ 31) (h30 : x11 = x2) (h31 : x12 = 1) (h32 : x0 = x11 + x12) : x0 ≤ 31 := by omega
theorem o19_671 {x0 x2 x3 x4 x5 x6 x7 x8 x9 x10 x11 x12 : Int} {x1 : Nat} (h0 : 0 ≤ x2) (h1 : x2 ≤ 30) (h2 : 0 ≤ x3) (h3 : x3 ≤ 31) (h4 : 0 ≤ x4) (h5 : x4 ≤ 1) (h6 : (x4 = 0 ∨ 1 ≤ x3)) (h7 : 31 - x3 < ((x1 + 1 : Nat) : Int)) (h8 : 0 ≤ x5) (h9 : x5 ≤ 31) (h10 : x5 = x3) (h11 : x5 ≤ x2) (h12 : 0 ≤ x6) (h13 : x6 ≤ 31) (h14 : x6 = x3) (h15 : x7 = 30) (h16 : x6 ≤ x7) (h17 : 0 ≤ x8) (h18 : x8 ≤ 1) (h19 : x8 = x4) (h20 : x8 = 0) (h21 : 0 ≤ x9) (h22 : x9 ≤ 31) (h23 : x9 = x3) (h24 : 0 ≤ x10) (h25 : x10 ≤ 31) (h26 : x10 = x3) (h27 : x10 ≤ 0) (h28 : 0 ≤ x11) (h29 : x11 ≤ 31) (h30 : x11 = x3) (h31 : x12 = 1) (h32 : x0 = x11 + x12) : 31 - x0 < (x1 : Int) := by omega
theorem o19_672 {x0 x1 x2 x3 x4 x6 x7 x8 x9 x10 x11 x12 x13 : Int} {x5 : Nat} (h0 : 0 ≤ x2) (h1 : x2 ≤ 30) (h2 : 0 ≤ x3) (h3 : x3 ≤ 31) (h4 : 0 ≤ x4) (h5 : x4 ≤ 1) (h6 : (x4 = 0 ∨ 1 ≤ x3)) (h7 : 31 - x3 < ((x5 + 1 : Nat) : Int)) (h8 : 0 ≤ x6) (h9 : x6 ≤ 31) (h10 : x6 = x3) (h11 : x6 ≤ x2) (h12 : 0 ≤ x7) (h13 : x7 ≤ 31) (h14 : x7 = x3) (h15 : x8 = 30) (h16 : x7 ≤ x8) (h17 : 0 ≤ x9) (h18 : x9 ≤ 1) (h19 : x9 = x4) (h20 : x9 = 0) (h21 : 0 ≤ x10) (h22 : x10 ≤ 31) (h23 : x10 = x3) (h24 : 0 ≤ x11) (h25 : x11 ≤ 31) (h26 : x11 = x3) (h27 : x11 ≤ 0) (h28 : x0 = 0) (h29 : 0 ≤ x12) (h30 : x12 ≤ 31) (h31 : x12 = x3) (h32 : x13 = 1) (h33 : x1 = x12 + x13) : (x0 = 0 ∨ 1 ≤ x1) := by omega
theorem o19_673 {x0 x1 x2 x3 x5 x6 x7 x8 x9 x10 : Int} {x4 : Nat} (h0 : 0 ≤ x1) (h1 : x1 ≤ 30) (h2 : 0 ≤ x2) (h3 : x2 ≤ 31) (h4 : 0 ≤ x3) (h5 : x3 ≤ 1) (h6 : (x3 = 0 ∨ 1 ≤ x2)) (h7 : 31 - x2 < ((x4 + 1 : Nat) : Int)) (h8 : 0 ≤ x5) (h9 : x5 ≤ 31) (h10 : x5 = x2) (h11 : x5 ≤ x1) (h12 : 0 ≤ x6) (h13 : x6 ≤ 31) (h14 : x6 = x2) (h15 : x7 = 30) (h16 : x6 ≤ x7) (h17 : 0 ≤ x8) (h18 : x8 ≤ 1) (h19 : x8 = x3) (h20 : x8 = 0) (h21 : 0 ≤ x9) (h22 : x9 ≤ 31) (h23 : x9 = x2) (h24 : 0 ≤ x10) (h25 : x10 ≤ 31) (h26 : x10 = x2) (h27 : 0 < x10) (h28 : 0 ≤ x0) (h29 : x0 ≤ 31) (h30 : x0 = x2) (h31 : -2147483648 ≤ x0) (h32 : x0 ≤ 2147483647) (h33 : -2147483648 ≤ x1) (h34 : x1 ≤ 2147483647) (h35 : -2147483648 ≤ x2) (h36 : x2 ≤ 2147483647) (h37 : -2147483648 ≤ x3) (h38 : x3 ≤ 2147483647) (h39 : -2147483648 ≤ x5) (h40 : x5 ≤ 2147483647) (h41 : -2147483648 ≤ x6) (h42 : x6 ≤ 2147483647) (h43 : -2147483648 ≤ x7) (h44 : x7 ≤ 2147483647) (h45 : -2147483648 ≤ x8) (h46 : x8 ≤ 2147483647) (h47 : -2147483648 ≤ x9) (h48 : x9 ≤ 2147483647) (h49 : -2147483648 ≤ x10) (h50 : x10 ≤ 2147483647) : -2147483648 ≤ x0 * 400 := by omega
theorem o19_674 {x0 x1 x2 x3 x5 x6 x7 x8 x9 x10 : Int} {x4 : Nat} (h0 : 0 ≤ x1) (h1 : x1 ≤ 30) (h2 : 0 ≤ x2) (h3 : x2 ≤ 31) (h4 : 0 ≤ x3) (h5 : x3 ≤ 1) (h6 : (x3 = 0 ∨ 1 ≤ x2)) (h7 : 31 - x2 < ((x4 + 1 : Nat) : Int)) (h8 : 0 ≤ x5) (h9 : x5 ≤ 31) (h10 : x5 = x2) (h11 : x5 ≤ x1) (h12 : 0 ≤ x6) (h13 : x6 ≤ 31) (h14 : x6 = x2) (h15 : x7 = 30) (h16 : x6 ≤ x7) (h17 : 0 ≤ x8) (h18 : x8 ≤ 1) (h19 : x8 = x3) (h20 : x8 = 0) (h21 : 0 ≤ x9) (h22 : x9 ≤ 31) (h23 : x9 = x2) (h24 : 0 ≤ x10) (h25 : x10 ≤ 31) (h26 : x10 = x2) (h27 : 0 < x10) (h28 : 0 ≤ x0) (h29 : x0 ≤ 31) (h30 : x0 = x2) (h31 : -2147483648 ≤ x0) (h32 : x0 ≤ 2147483647) (h33 : -2147483648 ≤ x1) (h34 : x1 ≤ 2147483647) (h35 : -2147483648 ≤ x2) (h36 : x2 ≤ 2147483647) (h37 : -2147483648 ≤ x3) (h38 : x3 ≤ 2147483647) (h39 : -2147483648 ≤ x5) (h40 : x5 ≤ 2147483647) (h41 : -2147483648 ≤ x6) (h42 : x6 ≤ 2147483647) (h43 : -2147483648 ≤ x7) (h44 : x7 ≤ 2147483647) (h45 : -2147483648 ≤ x8) (h46 : x8 ≤ 2147483647) (h47 : -2147483648 ≤ x9) (h48 : x9 ≤ 2147483647) (h49 : -2147483648 ≤ x10) (h50 : x10 ≤ 2147483647) : x0 * 400 ≤ 2147483647 := by omega
theorem o19_675 {x0 x1 x2 x3 x5 x6 x7 x8 x9 x10 x11 : Int} {x4 : Nat} (h0 : 0 ≤ x1) (h1 : x1 ≤ 30) (h2 : 0 ≤ x2) (h3 : x2 ≤ 31) (h4 : 0 ≤ x3) (h5 : x3 ≤ 1) (h6 : (x3 = 0 ∨ 1 ≤ x2)) (h7 : 31 - x2 < ((x4 + 1 : Nat) : Int)) (h8 : 0 ≤ x5) (h9 : x5 ≤ 31) (h10 : x5 = x2) (h11 : x5 ≤ x1) (h12 : 0 ≤ x6) (h13 : x6 ≤ 31) (h14 : x6 = x2) (h15 : x7 = 30) (h16 : x6 ≤ x7) (h17 : 0 ≤ x8) (h18 : x8 ≤ 1) (h19 : x8 = x3) (h20 : x8 = 0) (h21 : 0 ≤ x9) (h22 : x9 ≤ 31) (h23 : x9 = x2) (h24 : 0 ≤ x10) (h25 : x10 ≤ 31) (h26 : x10 = x2) (h27 : 0 < x10) (h28 : 0 ≤ x11) (h29 : x11 ≤ 31) (h30 : x11 = x2) (h31 : x0 = x11 * 400) : 400 ≤ x0 := by omega
theorem o19_676 {x0 x1 x2 x3 x5 x6 x7 x8 x9 x10 x11 : Int} {x4 : Nat} (h0 : 0 ≤ x1) (h1 : x1 ≤ 30) (h2 : 0 ≤ x2) (h3 : x2 ≤ 31) (h4 : 0 ≤ x3) (h5 : x3 ≤ 1) (h6 : (x3 = 0 ∨ 1 ≤ x2)) (h7 : 31 - x2 < ((x4 + 1 : Nat) : Int)) (h8 : 0 ≤ x5) (h9 : x5 ≤ 31) (h10 : x5 = x2) (h11 : x5 ≤ x1) (h12 : 0 ≤ x6) (h13 : x6 ≤ 31) (h14 : x6 = x2) (h15 : x7 = 30) (h16 : x6 ≤ x7) (h17 : 0 ≤ x8) (h18 : x8 ≤ 1) (h19 : x8 = x3) (h20 : x8 = 0) (h21 : 0 ≤ x9) (h22 : x9 ≤ 31) (h23 : x9 = x2) (h24 : 0 ≤ x10) (h25 : x10 ≤ 31) (h26 : x10 = x2) (h27 : 0 < x10) (h28 : 0 ≤ x11) (h29 : x11 ≤ 31) (h30 : x11 = x2) (h31 : x0 = x11 * 400) : x0 ≤ 12000 := by omega
theorem o19_677 {x0 x1 x2 x3 x4 x6 x7 x8 x9 x10 x11 x12 x13 : Int} {x5 : Nat} (h0 : 0 ≤ x2) (h1 : x2 ≤ 30) (h2 : 0 ≤ x3) (h3 : x3 ≤ 31) (h4 : 0 ≤ x4) (h5 : x4 ≤ 1) (h6 : (x4 = 0 ∨ 1 ≤ x3)) (h7 : 31 - x3 < ((x5 + 1 : Nat) : Int)) (h8 : 0 ≤ x6) (h9 : x6 ≤ 31) (h10 : x6 = x3) (h11 : x6 ≤ x2) (h12 : 0 ≤ x7) (h13 : x7 ≤ 31) (h14 : x7 = x3) (h15 : x8 = 30) (h16 : x7 ≤ x8) (h17 : 0 ≤ x9) (h18 : x9 ≤ 1) (h19 : x9 = x4) (h20 : x9 = 0) (h21 : 0 ≤ x10) (h22 : x10 ≤ 31) (h23 : x10 = x3) (h24 : 0 ≤ x11) (h25 : x11 ≤ 31) (h26 : x11 = x3) (h27 : 0 < x11) (h28 : 0 ≤ x12) (h29 : x12 ≤ 31) (h30 : x12 = x3) (h31 : x13 = x12 * 400) (h32 : 0 ≤ x0) (h33 : x0 ≤ 31) (h34 : x0 = x3) (h35 : x1 = 1) (h36 : -2147483648 ≤ x0) (h37 : x0 ≤ 2147483647) (h38 : -2147483648 ≤ x1) (h39 : x1 ≤ 2147483647) (h40 : -2147483648 ≤ x2) (h41 : x2 ≤ 2147483647) (h42 : -2147483648 ≤ x3) (h43 : x3 ≤ 2147483647) (h44 : -2147483648 ≤ x4) (h45 : x4 ≤ 2147483647) (h46 : -2147483648 ≤ x6) (h47 : x6 ≤ 2147483647) (h48 : -2147483648 ≤ x7) (h49 : x7 ≤ 2147483647) (h50 : -2147483648 ≤ x8) (h51 : x8 ≤ 2147483647) (h52 : -2147483648 ≤ x9) (h53 : x9 ≤ 2147483647) (h54 : -2147483648 ≤ x10) (h55 : x10 ≤ 2147483647) (h56 : -2147483648 ≤ x11) (h57 : x11 ≤ 2147483647) (h58 : -2147483648 ≤ x12) (h59 : x12 ≤ 2147483647) (h60 : -2147483648 ≤ x13) (h61 : x13 ≤ 2147483647) : -2147483648 ≤ x0 + x1 := by omega
theorem o19_678 {x0 x1 x2 x3 x4 x6 x7 x8 x9 x10 x11 x12 x13 : Int} {x5 : Nat} (h0 : 0 ≤ x2) (h1 : x2 ≤ 30) (h2 : 0 ≤ x3) (h3 : x3 ≤ 31) (h4 : 0 ≤ x4) (h5 : x4 ≤ 1) (h6 : (x4 = 0 ∨ 1 ≤ x3)) (h7 : 31 - x3 < ((x5 + 1 : Nat) : Int)) (h8 : 0 ≤ x6) (h9 : x6 ≤ 31) (h10 : x6 = x3) (h11 : x6 ≤ x2) (h12 : 0 ≤ x7) (h13 : x7 ≤ 31) (h14 : x7 = x3) (h15 : x8 = 30) (h16 : x7 ≤ x8) (h17 : 0 ≤ x9) (h18 : x9 ≤ 1) (h19 : x9 = x4) (h20 : x9 = 0) (h21 : 0 ≤ x10) (h22 : x10 ≤ 31) (h23 : x10 = x3) (h24 : 0 ≤ x11) (h25 : x11 ≤ 31) (h26 : x11 = x3) (h27 : 0 < x11) (h28 : 0 ≤ x12) (h29 : x12 ≤ 31) (h30 : x12 = x3) (h31 : x13 = x12 * 400) (h32 : 0 ≤ x0) (h33 : x0 ≤ 31) (h34 : x0 = x3) (h35 : x1 = 1) (h36 : -2147483648 ≤ x0) (h37 : x0 ≤ 2147483647) (h38 : -2147483648 ≤ x1) (h39 : x1 ≤ 2147483647) (h40 : -2147483648 ≤ x2) (h41 : x2 ≤ 2147483647) (h42 : -2147483648 ≤ x3) (h43 : x3 ≤ 2147483647) (h44 : -2147483648 ≤ x4) (h45 : x4 ≤ 2147483647) (h46 : -2147483648 ≤ x6) (h47 : x6 ≤ 2147483647) (h48 : -2147483648 ≤ x7) (h49 : x7 ≤ 2147483647) (h50 : -2147483648 ≤ x8) (h51 : x8 ≤ 2147483647) (h52 : -2147483648 ≤ x9) (h53 : x9 ≤ 2147483647) (h54 : -2147483648 ≤ x10) (h55 : x10 ≤ 2147483647) (h56 : -2147483648 ≤ x11) (h57 : x11 ≤ 2147483647) (h58 : -2147483648 ≤ x12) (h59 : x12 ≤ 2147483647) (h60 : -2147483648 ≤ x13) (h61 : x13 ≤ 2147483647) : x0 + x1 ≤ 2147483647 := by omega
theorem o19_679 {x0 x1 x2 x3 x5 x6 x7 x8 x9 x10 x11 x12 x13 x14 : Int} {x4 : Nat} (h0 : 0 ≤ x1) (h1 : x1 ≤ 30) (h2 : 0 ≤ x2) (h3 : x2 ≤ 31) (h4 : 0 ≤ x3) (h5 : x3 ≤ 1) (h6 : (x3 = 0 ∨ 1 ≤ x2)) (h7 : 31 - x2 < ((x4 + 1 : Nat) : Int)) (h8 : 0 ≤ x5) (h9 : x5 ≤ 31) (h10 : x5 = x2) (h11 : x5 ≤ x1) (h12 : 0 ≤ x6) (h13 : x6 ≤ 31) (h14 : x6 = x2) (h15 : x7 = 30) (h16 : x6 ≤ x7) (h17 : 0 ≤ x8) (h18 : x8 ≤ 1) (h19 : x8 = x3) (h20 : x8 = 0) (h21 : 0 ≤ x9) (h22 : x9 ≤ 31) (h23 : x9 = x2) (h24 : 0 ≤ x10) (h25 : x10 ≤ 31) (h26 : x10 = x2) (h27 : 0 < x10) (h28 : 0 ≤ x11) (h29 : x11 ≤ 31) (h30 : x11 = x2) (h31 : x12 = x11 * 400) (h32 : 0 ≤ x13) (h33 : x13 ≤ 31) (h34 : x13 = x2) (h35 : x14 = 1) (h36 : x0 = x13 + x14) : 0 ≤ x0 := by omega
theorem o19_680 {x0 x1 x2 x3 x5 x6 x7 x8 x9 x10 x11 x12 x13 x14 : Int} {x4 : Nat} (h0 : 0 ≤ x1) (h1 : x1 ≤ 30) (h2 : 0 ≤ x2) (h3 : x2 ≤ 31) (h4 : 0 ≤ x3) (h5 : x3 ≤ 1) (h6 : (x3 = 0 ∨ 1 ≤ x2)) (h7 : 31 - x2 < ((x4 + 1 : Nat) : Int)) (h8 : 0 ≤ x5) (h9 : x5 ≤ 31) (h10 : x5 = x2) (h11 : x5 ≤ x1) (h12 : 0 ≤ x6) (h13 : x6 ≤ 31) (h14 : x6 = x2) (h15 : x7 = 30) (h16 : x6 ≤ x7) (h17 : 0 ≤ x8) (h18 : x8 ≤ 1) (h19 : x8 = x3) (h20 : x8 = 0) (h21 : 0 ≤ x9) (h22 : x9 ≤ 31) (h23 : x9 = x2) (h24 : 0 ≤ x10) (h25 : x10 ≤ 31) (h26 : x10 = x2) (h27 : 0 < x10) (h28 : 0 ≤ x11) (h29 : x11 ≤ 31) (h30 : x11 = x2) (h31 : x12 = x11 * 400) (h32 : 0 ≤ x13) (h33 : x13 ≤ 31) (h34 : x13 = x2) (h35 : x14 = 1) (h36 : x0 = x13 + x14) : x0 ≤ 31 := by omega
theorem o19_681 {x0 x2 x3 x4 x5 x6 x7 x8 x9 x10 x11 x12 x13 x14 : Int} {x1 : Nat} (h0 : 0 ≤ x2) (h1 : x2 ≤ 30) (h2 : 0 ≤ x3) (h3 : x3 ≤ 31) (h4 : 0 ≤ x4) (h5 : x4 ≤ 1) (h6 : (x4 = 0 ∨ 1 ≤ x3)) (h7 : 31 - x3 < ((x1 + 1 : Nat) : Int)) (h8 : 0 ≤ x5) (h9 : x5 ≤ 31) (h10 : x5 = x3) (h11 : x5 ≤ x2) (h12 : 0 ≤ x6) (h13 : x6 ≤ 31) (h14 : x6 = x3) (h15 : x7 = 30) (h16 : x6 ≤ x7) (h17 : 0 ≤ x8) (h18 : x8 ≤ 1) (h19 : x8 = x4) (h20 : x8 = 0) (h21 : 0 ≤ x9) (h22 : x9 ≤ 31) (h23 : x9 = x3) (h24 : 0 ≤ x10) (h25 : x10 ≤ 31) (h26 : x10 = x3) (h27 : 0 < x10) (h28 : 0 ≤ x11) (h29 : x11 ≤ 31) (h30 : x11 = x3) (h31 : x12 = x11 * 400) (h32 : 0 ≤ x13) (h33 : x13 ≤ 31) (h34 : x13 = x3) (h35 : x14 = 1) (h36 : x0 = x13 + x14) : 31 - x0 < (x1 : Int) := by omega
theorem o19_682 {x0 x1 x2 x3 x4 x6 x7 x8 x9 x10 x11 x12 x13 x14 x15 : Int} {x5 : Nat} (h0 : 0 ≤ x2) (h1 : x2 ≤ 30) (h2 : 0 ≤ x3) (h3 : x3 ≤ 31) (h4 : 0 ≤ x4) (h5 : x4 ≤ 1) (h6 : (x4 = 0 ∨ 1 ≤ x3)) (h7 : 31 - x3 < ((x5 + 1 : Nat) : Int)) (h8 : 0 ≤ x6) (h9 : x6 ≤ 31) (h10 : x6 = x3) (h11 : x6 ≤ x2) (h12 : 0 ≤ x7) (h13 : x7 ≤ 31) (h14 : x7 = x3) (h15 : x8 = 30) (h16 : x7 ≤ x8) (h17 : 0 ≤ x9) (h18 : x9 ≤ 1) (h19 : x9 = x4) (h20 : x9 = 0) (h21 : 0 ≤ x10) (h22 : x10 ≤ 31) (h23 : x10 = x3) (h24 : 0 ≤ x11) (h25 : x11 ≤ 31) (h26 : x11 = x3) (h27 : 0 < x11) (h28 : 0 ≤ x12) (h29 : x12 ≤ 31) (h30 : x12 = x3) (h31 : x13 = x12 * 400) (h32 : x0 = 0) (h33 : 0 ≤ x14) (h34 : x14 ≤ 31) (h35 : x14 = x3) (h36 : x15 = 1) (h37 : x1 = x14 + x15) : (x0 = 0 ∨ 1 ≤ x1) := by omega
theorem o19_683 {x0 x1 x2 x3 x4 x6 x7 x8 x9 x10 x11 x12 x13 x14 x15 : Int} {x5 : Nat} (h0 : 0 ≤ x2) (h1 : x2 ≤ 30) (h2 : 0 ≤ x3) (h3 : x3 ≤ 31) (h4 : 0 ≤ x4) (h5 : x4 ≤ 1) (h6 : (x4 = 0 ∨ 1 ≤ x3)) (h7 : 31 - x3 < ((x5 + 1 : Nat) : Int)) (h8 : 0 ≤ x6) (h9 : x6 ≤ 31) (h10 : x6 = x3) (h11 : x6 ≤ x2) (h12 : 0 ≤ x7) (h13 : x7 ≤ 31) (h14 : x7 = x3) (h15 : x8 = 30) (h16 : x7 ≤ x8) (h17 : 0 ≤ x9) (h18 : x9 ≤ 1) (h19 : x9 = x4) (h20 : x9 = 0) (h21 : 0 ≤ x10) (h22 : x10 ≤ 31) (h23 : x10 = x3) (h24 : 0 ≤ x11) (h25 : x11 ≤ 31) (h26 : x11 = x3) (h27 : 0 < x11) (h28 : 0 ≤ x12) (h29 : x12 ≤ 31) (h30 : x12 = x3) (h31 : x13 = x12 * 400) (h32 : x0 = 1) (h33 : 0 ≤ x14) (h34 : x14 ≤ 31) (h35 : x14 = x3) (h36 : x15 = 1) (h37 : x1 = x14 + x15) : (x0 = 0 ∨ 1 ≤ x1) := by omega
theorem o19_684 {x0 x1 : Int} (h0 : 0 ≤ x1) (h1 : x1 ≤ 1) (h2 : 0 ≤ x0) (h3 : x0 ≤ 31) (h4 : (x1 = 0 ∨ 1 ≤ x0)) : 31 - x0 < (((31 - x0 + 1).toNat : Nat) : Int) := by omega
theorem o19_685 {x0 x1 : Int} (h0 : 0 ≤ x1) (h1 : x1 ≤ 1) (h2 : 0 ≤ x0) (h3 : x0 ≤ 31) (h4 : (x1 = 0 ∨ 1 ≤ x0)) : 0 ≤ x0 := by omega
theorem o19_686 {x0 x1 : Int} (h0 : 0 ≤ x1) (h1 : x1 ≤ 1) (h2 : 0 ≤ x0) (h3 : x0 ≤ 31) (h4 : (x1 = 0 ∨ 1 ≤ x0)) : x0 ≤ 31 := by omega
theorem o19_687 {x0 x1 : Int} (h0 : 0 ≤ x0) (h1 : x0 ≤ 1) (h2 : 0 ≤ x1) (h3 : x1 ≤ 31) (h4 : (x0 = 0 ∨ 1 ≤ x1)) : 0 ≤ x0 := by omega
theorem o19_688 {x0 x1 : Int} (h0 : 0 ≤ x0) (h1 : x0 ≤ 1) (h2 : 0 ≤ x1) (h3 : x1 ≤ 31) (h4 : (x0 = 0 ∨ 1 ≤ x1)) : x0 ≤ 1 := by omega
theorem o19_689 {x0 x1 : Int} (h0 : 0 ≤ x0) (h1 : x0 ≤ 1) (h2 : 0 ≤ x1) (h3 : x1 ≤ 31) (h4 : (x0 = 0 ∨ 1 ≤ x1)) : (x0 = 0 ∨ 1 ≤ x1) := by omega
set_option maxHeartbeats 4000000 in
set_option maxRecDepth 100000 in
theorem c_X7_length (l : Launch) (G : GG) (Z : RZ) (ad : Nat → Nat) (ws0 : va_W) (hT : Ty G (SC tt) ad ws0) : Mq l yX7_length cX7_length 1 (some .int) 1 G Z [.ref (ad 87)] ws0 (PI G (SC tt) ad [] ws0 (fun r u => (0 ≤ r.toInt) ∧ (r.toInt ≤ 60))) := by
  refine Mq.start (by decide) (Nat.le_of_ble_eq_true rfl) ?_
  intro p e s m below meth c A ls C0 hZ h hl
  have hl : lv_has ls 1 [(0, .ref (ad 87))] := hl
  have h : Wt G (SC tt) ad A s s.heap [] ws0 := ⟨h, hT⟩
  obtain ⟨args, hargs⟩ : ∃ z, z = ([.ref (ad 87)] : List Value).toArray := ⟨_, rfl⟩
  rw [← hargs] at C0 ⊢
  have C0 : Cx p s m args meth c RX7 cX7_length 1 (some .int) := C0
  obtain ⟨Q, hQ⟩ : ∃ z, z = MQ below ((PI G (SC tt) ad [] ws0 (fun r u => (0 ≤ r.toInt) ∧ (r.toInt ≤ 60))) A) args s 0 0 A := ⟨_, rfl⟩
  rw [← hQ]
  refine lv_aload_n C0.1 C0.2.1 dX7_length_0 rfl (lv_at hl 0 rfl) ?_
  refine tg_X7_length C0 h kSC_87 q_347 dX7_length_1 (fun v_1 e_2 e_3 e_4 => ?_)
  rw [hQ]
  exact y_iret C0 h Fr.rf ⟨(o19_1 e_3 e_4), (o19_2 e_3 e_4)⟩ dX7_length_4
set_option maxHeartbeats 4000000 in
set_option maxRecDepth 100000 in
theorem c_X7_last (l : Launch) (G : GG) (Z : RZ) (ad : Nat → Nat) (ws0 : va_W) (hT : Ty G (SC tt) ad ws0) : Mq l yX7_last cX7_last 1 (some .int) 1 G Z [.ref (ad 87)] ws0 (PI G (SC tt) ad [] ws0 (fun r u => (0 ≤ r.toInt) ∧ (r.toInt ≤ 99))) := by
  refine Mq.start (by decide) (Nat.le_of_ble_eq_true rfl) ?_
  intro p e s m below meth c A ls C0 hZ h hl
  have hl : lv_has ls 1 [(0, .ref (ad 87))] := hl
  have h : Wt G (SC tt) ad A s s.heap [] ws0 := ⟨h, hT⟩
  obtain ⟨args, hargs⟩ : ∃ z, z = ([.ref (ad 87)] : List Value).toArray := ⟨_, rfl⟩
  rw [← hargs] at C0 ⊢
  have C0 : Cx p s m args meth c RX7 cX7_last 1 (some .int) := C0
  obtain ⟨Q, hQ⟩ : ∃ z, z = MQ below ((PI G (SC tt) ad [] ws0 (fun r u => (0 ≤ r.toInt) ∧ (r.toInt ≤ 99))) A) args s 0 0 A := ⟨_, rfl⟩
  rw [← hQ]
  refine lv_aload_n C0.1 C0.2.1 dX7_last_0 rfl (lv_at hl 0 rfl) ?_
  refine tg_X7_last C0 h kSC_87 q_348 dX7_last_1 (fun v_1 e_2 e_3 e_4 => ?_)
  rw [hQ]
  exact y_iret C0 h Fr.rf ⟨(o19_3 e_3 e_4), (o19_4 e_3 e_4)⟩ dX7_last_4
set_option maxHeartbeats 4000000 in
set_option maxRecDepth 100000 in
theorem c_X7_turnAt (l : Launch) (G : GG) (Z : RZ) (ad : Nat → Nat) (ws0 : va_W) (hT : Ty G (SC tt) ad ws0) (a1 : Int32) : Mq l yX7_turnAt cX7_turnAt 2 (some .int) 1 G Z [.ref (ad 87), .int a1] ws0 (PI G (SC tt) ad [] ws0 (fun r u => True)) := by
  refine Mq.start (by decide) (Nat.le_of_ble_eq_true rfl) ?_
  intro p e s m below meth c A ls C0 hZ h hl
  have hl : lv_has ls 2 [(0, .ref (ad 87)), (1, .int a1)] := hl
  have h : Wt G (SC tt) ad A s s.heap [] ws0 := ⟨h, hT⟩
  obtain ⟨args, hargs⟩ : ∃ z, z = ([.ref (ad 87), .int a1] : List Value).toArray := ⟨_, rfl⟩
  rw [← hargs] at C0 ⊢
  have C0 : Cx p s m args meth c RX7 cX7_turnAt 2 (some .int) := C0
  obtain ⟨Q, hQ⟩ : ∃ z, z = MQ below ((PI G (SC tt) ad [] ws0 (fun r u => True)) A) args s 0 0 A := ⟨_, rfl⟩
  rw [← hQ]
  refine lv_iload_n C0.1 C0.2.1 dX7_turnAt_0 rfl (lv_at hl 1 rfl) ?_
  refine y_if_lt (tgt := 21) C0 dX7_turnAt_1 (by decide) (fun c_1 => ?_) (fun c_1 => ?_)
  · -- 1
    refine y_c1 (n := (-1)) C0 (by decide) dX7_turnAt_21 (fun v_2 e_3 => ?_)
    rw [hQ]
    exact y_iret C0 h Fr.rf trivial dX7_turnAt_22
  · -- 1
    refine lv_iload_n C0.1 C0.2.1 dX7_turnAt_4 rfl (lv_at hl 1 rfl) ?_
    refine lv_aload_n C0.1 C0.2.1 dX7_turnAt_5 rfl (lv_at hl 0 rfl) ?_
    refine tg_X7_length C0 h kSC_87 q_347 dX7_turnAt_6 (fun v_4 e_5 e_6 e_7 => ?_)
    refine y_icmp_ge (tgt := 21) C0 dX7_turnAt_9 (by decide) (fun c_8 => ?_) (fun c_8 => ?_)
    · -- 9
      refine y_c1 (n := (-1)) C0 (by decide) dX7_turnAt_21 (fun v_9 e_10 => ?_)
      rw [hQ]
      exact y_iret C0 h Fr.rf trivial dX7_turnAt_22
    · -- 9
      refine lv_aload_n C0.1 C0.2.1 dX7_turnAt_12 rfl (lv_at hl 0 rfl) ?_
      refine tg_X7_turns C0 h kSC_87 q_346 dX7_turnAt_13 ?_
      refine lv_iload_n C0.1 C0.2.1 dX7_turnAt_16 rfl (lv_at hl 1 rfl) ?_
      refine y_iald C0 h kSC_89 rfl (by decide) (o19_5 c_1 e_6 e_7 c_8) (o19_6 c_1 e_6 e_7 c_8) dX7_turnAt_17 (fun v_11 e_12 e_13 e_14 => ?_)
      refine lv_goto (tgt := 22) C0.1 C0.2.1 dX7_turnAt_18 (by decide) ?_
      rw [hQ]
      exact y_iret C0 h Fr.rf trivial dX7_turnAt_22
set_option maxHeartbeats 4000000 in
set_option maxRecDepth 100000 in
theorem c_X7_comeFrom (l : Launch) (G : GG) (Z : RZ) (ad : Nat → Nat) (ws0 : va_W) (hT : Ty G (SC tt) ad ws0) (a1 : Int32) (a2 : Int32) (a3 : Int32) (a4 : Int32) (l1 : 0 ≤ a1.toInt) (u1 : a1.toInt ≤ 239) (l3 : 0 ≤ a3.toInt) (u3 : a3.toInt ≤ 3) (l4 : 0 ≤ a4.toInt) (u4 : a4.toInt ≤ 14388) : Mq l yX7_comeFrom cX7_comeFrom 7 none 4 G Z [.ref (ad 87), .int a1, .int a2, .int a3, .int a4] ws0 (PV G (SC tt) ad [4, 5, 18, 19, 20, 21, 26] ws0 (fun u => True)) := by
  refine Mq.start (by decide) (Nat.le_of_ble_eq_true rfl) ?_
  intro p e s m below meth c A ls C0 hZ h hl
  have hl : lv_has ls 7 [(0, .ref (ad 87)), (1, .int a1), (2, .int a2), (3, .int a3), (4, .int a4)] := hl
  have h : Wt G (SC tt) ad A s s.heap [] ws0 := ⟨h, hT⟩
  obtain ⟨args, hargs⟩ : ∃ z, z = ([.ref (ad 87), .int a1, .int a2, .int a3, .int a4] : List Value).toArray := ⟨_, rfl⟩
  rw [← hargs] at C0 ⊢
  have C0 : Cx p s m args meth c RX7 cX7_comeFrom 7 none := C0
  obtain ⟨Q, hQ⟩ : ∃ z, z = MQ below ((PV G (SC tt) ad [4, 5, 18, 19, 20, 21, 26] ws0 (fun u => True)) A) args s 0 0 A := ⟨_, rfl⟩
  rw [← hQ]
  refine lv_aload_n C0.1 C0.2.1 dX7_comeFrom_0 rfl (lv_at hl 0 rfl) ?_
  refine tg_X7_back C0 h kSC_87 q_345 dX7_comeFrom_1 ?_
  refine lv_iload C0.1 C0.2.1 dX7_comeFrom_4 (lv_at hl 4 rfl) ?_
  refine lv_iload_n C0.1 C0.2.1 dX7_comeFrom_6 rfl (lv_at hl 3 rfl) ?_
  refine y_add C0 (o19_7 l3 u3 l4 u4 (le_min a4) (le_max a4) (le_min a3) (le_max a3)) (o19_8 l3 u3 l4 u4 (le_min a4) (le_max a4) (le_min a3) (le_max a3)) dX7_comeFrom_7 (fun v_1 e_2 => ?_)
  refine lv_dup2_11 C0.1 C0.2.1 dX7_comeFrom_8 rfl rfl ?_
  refine y_iald C0 h kSC_88 rfl (by decide) (o19_9 l3 u3 l4 u4 e_2) (o19_10 l3 u3 l4 u4 e_2) dX7_comeFrom_9 (fun v_3 e_4 e_5 e_6 => ?_)
  refine lv_iload_n C0.1 C0.2.1 dX7_comeFrom_10 rfl (lv_at hl 2 rfl) ?_
  refine y_iorU C0 dX7_comeFrom_11 (fun v_7 => ?_)
  refine y_iast C0 h kSC_88 rfl (by decide) (o19_9 l3 u3 l4 u4 e_2) (o19_10 l3 u3 l4 u4 e_2) (le_min v_7) (le_max v_7) dX7_comeFrom_12 (fun H locs ws_8 h u_9 => ?_)
  refine lv_aload_n C0.1 C0.2.1 dX7_comeFrom_13 rfl (lv_at hl 0 rfl) ?_
  refine tg_X7_back C0 h kSC_87 q_345 dX7_comeFrom_14 ?_
  refine lv_iload C0.1 C0.2.1 dX7_comeFrom_17 (lv_at hl 4 rfl) ?_
  refine lv_iload_n C0.1 C0.2.1 dX7_comeFrom_19 rfl (lv_at hl 3 rfl) ?_
  refine y_c1 (n := 3) C0 (by decide) dX7_comeFrom_20 (fun v_10 e_11 => ?_)
  refine y_add C0 (o19_11 l3 u3 l4 u4 e_2 e_11 (le_min a3) (le_max a3) (le_min v_10) (le_max v_10) (le_min a4) (le_max a4) (le_min v_1) (le_max v_1)) (o19_12 l3 u3 l4 u4 e_2 e_11 (le_min a3) (le_max a3) (le_min v_10) (le_max v_10) (le_min a4) (le_max a4) (le_min v_1) (le_max v_1)) dX7_comeFrom_21 (fun v_12 e_13 => ?_)
  refine y_c1 (n := 3) C0 (by decide) dX7_comeFrom_22 (fun v_14 e_15 => ?_)
  refine y_and 3 2 (n := 3) C0 (Eq.trans (o19_13 e_15) (by decide)) (by decide) (by decide) (by decide) dX7_comeFrom_23 (fun v_16 e_17 e_18 => ?_)
  refine y_add C0 (o19_14 l3 u3 l4 u4 e_2 e_11 e_13 e_17 e_18 (le_min a4) (le_max a4) (le_min v_16) (le_max v_16) (le_min a3) (le_max a3) (le_min v_1) (le_max v_1) (le_min v_10) (le_max v_10) (le_min v_12) (le_max v_12)) (o19_15 l3 u3 l4 u4 e_2 e_11 e_13 e_17 e_18 (le_min a4) (le_max a4) (le_min v_16) (le_max v_16) (le_min a3) (le_max a3) (le_min v_1) (le_max v_1) (le_min v_10) (le_max v_10) (le_min v_12) (le_max v_12)) dX7_comeFrom_24 (fun v_19 e_20 => ?_)
  refine lv_dup2_11 C0.1 C0.2.1 dX7_comeFrom_25 rfl rfl ?_
  refine y_iald C0 h kSC_88 rfl (by decide) (o19_16 l3 u3 l4 u4 e_2 e_11 e_13 e_17 e_18 e_20) (o19_17 l3 u3 l4 u4 e_2 e_11 e_13 e_17 e_18 e_20) dX7_comeFrom_26 (fun v_21 e_22 e_23 e_24 => ?_)
  refine lv_iload_n C0.1 C0.2.1 dX7_comeFrom_27 rfl (lv_at hl 2 rfl) ?_
  refine y_iorU C0 dX7_comeFrom_28 (fun v_25 => ?_)
  refine y_iast C0 h kSC_88 rfl (by decide) (o19_16 l3 u3 l4 u4 e_2 e_11 e_13 e_17 e_18 e_20) (o19_17 l3 u3 l4 u4 e_2 e_11 e_13 e_17 e_18 e_20) (le_min v_25) (le_max v_25) dX7_comeFrom_29 (fun H locs ws_26 h u_27 => ?_)
  refine lv_aload_n C0.1 C0.2.1 dX7_comeFrom_30 rfl (lv_at hl 0 rfl) ?_
  refine tg_X7_forecast C0 h kSC_87 q_343 dX7_comeFrom_31 ?_
  refine lv_iload_n C0.1 C0.2.1 dX7_comeFrom_34 rfl (lv_at hl 1 rfl) ?_
  refine y_ci h (y_rV (As := [.int a1]) (rest := []) C0 hZ h (c_X2_freeAt l G Z ad _ h.2 a1 (o19_18 l1 u1) (o19_19 l1 u1)) k_X2_freeAt q_1095 q_1096 q_1169 kSC_79 rfl rfl rfl hl.1 rfl rfl (Nat.le_of_ble_eq_true rfl) dX7_comeFrom_35 ⟨Nat.le_of_ble_eq_true rfl, Nat.le_of_ble_eq_true rfl⟩ ⟨Nat.le_of_ble_eq_true rfl, Nat.le_of_ble_eq_true rfl⟩) (fun r_31 H locs ws_28 h u_29 p_30 => ?_)
  refine lv_istore (lv' := [(5, .int r_31), (0, .ref (ad 87)), (1, .int a1), (2, .int a2), (3, .int a3), (4, .int a4)]) C0.1 C0.2.1 dX7_comeFrom_38 hl (by decide) rfl (fun ls hl => ?_)
  refine lv_aload_n C0.1 C0.2.1 dX7_comeFrom_40 rfl (lv_at hl 1 rfl) ?_
  refine tg_X7_forecast C0 h kSC_87 q_343 dX7_comeFrom_41 ?_
  refine lv_iload_n C0.1 C0.2.1 dX7_comeFrom_44 rfl (lv_at hl 2 rfl) ?_
  refine lv_iload_n C0.1 C0.2.1 dX7_comeFrom_45 rfl (lv_at hl 4 rfl) ?_
  refine lv_iload_n C0.1 C0.2.1 dX7_comeFrom_46 rfl (lv_at hl 3 rfl) ?_
  refine y_ci h (y_rV (As := [.int a1, .int a3, .int a2]) (rest := []) C0 hZ h (c_X2_allowing l G Z ad _ h.2 a1 a3 a2 (o19_18 l1 u1) (o19_19 l1 u1) (o19_20 l3 u3 l4 u4 e_2 e_11 e_13 e_17 e_18 e_20) (o19_21 l3 u3 l4 u4 e_2 e_11 e_13 e_17 e_18 e_20)) k_X2_allowing q_1117 q_1118 q_1170 kSC_79 rfl rfl rfl hl.1 rfl rfl (Nat.le_of_ble_eq_true rfl) dX7_comeFrom_47 ⟨Nat.le_of_ble_eq_true rfl, Nat.le_of_ble_eq_true rfl⟩ ⟨Nat.le_of_ble_eq_true rfl, Nat.le_of_ble_eq_true rfl⟩) (fun r_35 H locs ws_32 h u_33 p_34 => ?_)
  refine lv_istore (lv' := [(6, .int r_35), (5, .int r_31), (0, .ref (ad 87)), (1, .int a1), (2, .int a2), (3, .int a3), (4, .int a4)]) C0.1 C0.2.1 dX7_comeFrom_50 hl (by decide) rfl (fun ls hl => ?_)
  refine lv_aload_n C0.1 C0.2.1 dX7_comeFrom_52 rfl (lv_at hl 2 rfl) ?_
  refine tg_X7_back C0 h kSC_87 q_345 dX7_comeFrom_53 ?_
  refine lv_iload C0.1 C0.2.1 dX7_comeFrom_56 (lv_at hl 6 rfl) ?_
  refine lv_iload_n C0.1 C0.2.1 dX7_comeFrom_58 rfl (lv_at hl 5 rfl) ?_
  refine y_c1 (n := 1) C0 (by decide) dX7_comeFrom_59 (fun v_36 e_37 => ?_)
  refine y_add C0 (o19_22 l3 u3 l4 u4 e_2 e_11 e_13 e_17 e_18 e_20 e_37 (le_min a3) (le_max a3) (le_min v_36) (le_max v_36) (le_min a4) (le_max a4) (le_min v_1) (le_max v_1) (le_min v_10) (le_max v_10) (le_min v_12) (le_max v_12) (le_min v_16) (le_max v_16) (le_min v_19) (le_max v_19)) (o19_23 l3 u3 l4 u4 e_2 e_11 e_13 e_17 e_18 e_20 e_37 (le_min a3) (le_max a3) (le_min v_36) (le_max v_36) (le_min a4) (le_max a4) (le_min v_1) (le_max v_1) (le_min v_10) (le_max v_10) (le_min v_12) (le_max v_12) (le_min v_16) (le_max v_16) (le_min v_19) (le_max v_19)) dX7_comeFrom_60 (fun v_38 e_39 => ?_)
  refine y_c1 (n := 3) C0 (by decide) dX7_comeFrom_61 (fun v_40 e_41 => ?_)
  refine y_and 3 2 (n := 3) C0 (Eq.trans (o19_13 e_41) (by decide)) (by decide) (by decide) (by decide) dX7_comeFrom_62 (fun v_42 e_43 e_44 => ?_)
  refine y_add C0 (o19_24 l3 u3 l4 u4 e_2 e_11 e_13 e_17 e_18 e_20 e_37 e_39 e_43 e_44 (le_min a4) (le_max a4) (le_min v_42) (le_max v_42) (le_min a3) (le_max a3) (le_min v_1) (le_max v_1) (le_min v_10) (le_max v_10) (le_min v_12) (le_max v_12) (le_min v_16) (le_max v_16) (le_min v_19) (le_max v_19) (le_min v_36) (le_max v_36) (le_min v_38) (le_max v_38)) (o19_25 l3 u3 l4 u4 e_2 e_11 e_13 e_17 e_18 e_20 e_37 e_39 e_43 e_44 (le_min a4) (le_max a4) (le_min v_42) (le_max v_42) (le_min a3) (le_max a3) (le_min v_1) (le_max v_1) (le_min v_10) (le_max v_10) (le_min v_12) (le_max v_12) (le_min v_16) (le_max v_16) (le_min v_19) (le_max v_19) (le_min v_36) (le_max v_36) (le_min v_38) (le_max v_38)) dX7_comeFrom_63 (fun v_45 e_46 => ?_)
  refine lv_dup2_11 C0.1 C0.2.1 dX7_comeFrom_64 rfl rfl ?_
  refine y_iald C0 h kSC_88 rfl (by decide) (o19_26 l3 u3 l4 u4 e_2 e_11 e_13 e_17 e_18 e_20 e_37 e_39 e_43 e_44 e_46) (o19_27 l3 u3 l4 u4 e_2 e_11 e_13 e_17 e_18 e_20 e_37 e_39 e_43 e_44 e_46) dX7_comeFrom_65 (fun v_47 e_48 e_49 e_50 => ?_)
  refine lv_iload C0.1 C0.2.1 dX7_comeFrom_66 (lv_at hl 0 rfl) ?_
  refine lv_iload C0.1 C0.2.1 dX7_comeFrom_68 (lv_at hl 1 rfl) ?_
  refine y_iandU C0 dX7_comeFrom_70 (fun v_51 => ?_)
  refine y_iorU C0 dX7_comeFrom_71 (fun v_52 => ?_)
  refine y_iast C0 h kSC_88 rfl (by decide) (o19_26 l3 u3 l4 u4 e_2 e_11 e_13 e_17 e_18 e_20 e_37 e_39 e_43 e_44 e_46) (o19_27 l3 u3 l4 u4 e_2 e_11 e_13 e_17 e_18 e_20 e_37 e_39 e_43 e_44 e_46) (le_min v_52) (le_max v_52) dX7_comeFrom_72 (fun H locs ws_53 h u_54 => ?_)
  refine lv_aload_n C0.1 C0.2.1 dX7_comeFrom_73 rfl (lv_at hl 2 rfl) ?_
  refine tg_X7_back C0 h kSC_87 q_345 dX7_comeFrom_74 ?_
  refine lv_iload C0.1 C0.2.1 dX7_comeFrom_77 (lv_at hl 6 rfl) ?_
  refine lv_iload_n C0.1 C0.2.1 dX7_comeFrom_79 rfl (lv_at hl 5 rfl) ?_
  refine y_c1 (n := 2) C0 (by decide) dX7_comeFrom_80 (fun v_55 e_56 => ?_)
  refine y_add C0 (o19_28 l3 u3 l4 u4 e_2 e_11 e_13 e_17 e_18 e_20 e_37 e_39 e_43 e_44 e_46 e_56 (le_min a3) (le_max a3) (le_min v_55) (le_max v_55) (le_min a4) (le_max a4) (le_min v_1) (le_max v_1) (le_min v_10) (le_max v_10) (le_min v_12) (le_max v_12) (le_min v_16) (le_max v_16) (le_min v_19) (le_max v_19) (le_min v_36) (le_max v_36) (le_min v_38) (le_max v_38) (le_min v_42) (le_max v_42) (le_min v_45) (le_max v_45)) (o19_29 l3 u3 l4 u4 e_2 e_11 e_13 e_17 e_18 e_20 e_37 e_39 e_43 e_44 e_46 e_56 (le_min a3) (le_max a3) (le_min v_55) (le_max v_55) (le_min a4) (le_max a4) (le_min v_1) (le_max v_1) (le_min v_10) (le_max v_10) (le_min v_12) (le_max v_12) (le_min v_16) (le_max v_16) (le_min v_19) (le_max v_19) (le_min v_36) (le_max v_36) (le_min v_38) (le_max v_38) (le_min v_42) (le_max v_42) (le_min v_45) (le_max v_45)) dX7_comeFrom_81 (fun v_57 e_58 => ?_)
  refine y_c1 (n := 3) C0 (by decide) dX7_comeFrom_82 (fun v_59 e_60 => ?_)
  refine y_and 3 2 (n := 3) C0 (Eq.trans (o19_13 e_60) (by decide)) (by decide) (by decide) (by decide) dX7_comeFrom_83 (fun v_61 e_62 e_63 => ?_)
  refine y_add C0 (o19_30 l3 u3 l4 u4 e_2 e_11 e_13 e_17 e_18 e_20 e_37 e_39 e_43 e_44 e_46 e_56 e_58 e_62 e_63 (le_min a4) (le_max a4) (le_min v_61) (le_max v_61) (le_min a3) (le_max a3) (le_min v_1) (le_max v_1) (le_min v_10) (le_max v_10) (le_min v_12) (le_max v_12) (le_min v_16) (le_max v_16) (le_min v_19) (le_max v_19) (le_min v_36) (le_max v_36) (le_min v_38) (le_max v_38) (le_min v_42) (le_max v_42) (le_min v_45) (le_max v_45) (le_min v_55) (le_max v_55) (le_min v_57) (le_max v_57)) (o19_31 l3 u3 l4 u4 e_2 e_11 e_13 e_17 e_18 e_20 e_37 e_39 e_43 e_44 e_46 e_56 e_58 e_62 e_63 (le_min a4) (le_max a4) (le_min v_61) (le_max v_61) (le_min a3) (le_max a3) (le_min v_1) (le_max v_1) (le_min v_10) (le_max v_10) (le_min v_12) (le_max v_12) (le_min v_16) (le_max v_16) (le_min v_19) (le_max v_19) (le_min v_36) (le_max v_36) (le_min v_38) (le_max v_38) (le_min v_42) (le_max v_42) (le_min v_45) (le_max v_45) (le_min v_55) (le_max v_55) (le_min v_57) (le_max v_57)) dX7_comeFrom_84 (fun v_64 e_65 => ?_)
  refine lv_dup2_11 C0.1 C0.2.1 dX7_comeFrom_85 rfl rfl ?_
  refine y_iald C0 h kSC_88 rfl (by decide) (o19_32 l3 u3 l4 u4 e_2 e_11 e_13 e_17 e_18 e_20 e_37 e_39 e_43 e_44 e_46 e_56 e_58 e_62 e_63 e_65) (o19_33 l3 u3 l4 u4 e_2 e_11 e_13 e_17 e_18 e_20 e_37 e_39 e_43 e_44 e_46 e_56 e_58 e_62 e_63 e_65) dX7_comeFrom_86 (fun v_66 e_67 e_68 e_69 => ?_)
  refine lv_iload C0.1 C0.2.1 dX7_comeFrom_87 (lv_at hl 0 rfl) ?_
  refine lv_iload C0.1 C0.2.1 dX7_comeFrom_89 (lv_at hl 1 rfl) ?_
  refine y_iandU C0 dX7_comeFrom_91 (fun v_70 => ?_)
  refine y_iorU C0 dX7_comeFrom_92 (fun v_71 => ?_)
  refine y_iast C0 h kSC_88 rfl (by decide) (o19_32 l3 u3 l4 u4 e_2 e_11 e_13 e_17 e_18 e_20 e_37 e_39 e_43 e_44 e_46 e_56 e_58 e_62 e_63 e_65) (o19_33 l3 u3 l4 u4 e_2 e_11 e_13 e_17 e_18 e_20 e_37 e_39 e_43 e_44 e_46 e_56 e_58 e_62 e_63 e_65) (le_min v_71) (le_max v_71) dX7_comeFrom_93 (fun H locs ws_72 h u_73 => ?_)
  refine lv_aload_n C0.1 C0.2.1 dX7_comeFrom_94 rfl (lv_at hl 2 rfl) ?_
  refine tg_X7_back C0 h kSC_87 q_345 dX7_comeFrom_95 ?_
  refine lv_iload C0.1 C0.2.1 dX7_comeFrom_98 (lv_at hl 6 rfl) ?_
  refine y_c1 (n := 4) C0 (by decide) dX7_comeFrom_100 (fun v_74 e_75 => ?_)
  refine y_add C0 (o19_34 l3 u3 l4 u4 e_2 e_11 e_13 e_17 e_18 e_20 e_37 e_39 e_43 e_44 e_46 e_56 e_58 e_62 e_63 e_65 e_75 (le_min a4) (le_max a4) (le_min v_74) (le_max v_74) (le_min a3) (le_max a3) (le_min v_1) (le_max v_1) (le_min v_10) (le_max v_10) (le_min v_12) (le_max v_12) (le_min v_16) (le_max v_16) (le_min v_19) (le_max v_19) (le_min v_36) (le_max v_36) (le_min v_38) (le_max v_38) (le_min v_42) (le_max v_42) (le_min v_45) (le_max v_45) (le_min v_55) (le_max v_55) (le_min v_57) (le_max v_57) (le_min v_61) (le_max v_61) (le_min v_64) (le_max v_64)) (o19_35 l3 u3 l4 u4 e_2 e_11 e_13 e_17 e_18 e_20 e_37 e_39 e_43 e_44 e_46 e_56 e_58 e_62 e_63 e_65 e_75 (le_min a4) (le_max a4) (le_min v_74) (le_max v_74) (le_min a3) (le_max a3) (le_min v_1) (le_max v_1) (le_min v_10) (le_max v_10) (le_min v_12) (le_max v_12) (le_min v_16) (le_max v_16) (le_min v_19) (le_max v_19) (le_min v_36) (le_max v_36) (le_min v_38) (le_max v_38) (le_min v_42) (le_max v_42) (le_min v_45) (le_max v_45) (le_min v_55) (le_max v_55) (le_min v_57) (le_max v_57) (le_min v_61) (le_max v_61) (le_min v_64) (le_max v_64)) dX7_comeFrom_101 (fun v_76 e_77 => ?_)
  refine lv_iload_n C0.1 C0.2.1 dX7_comeFrom_102 rfl (lv_at hl 5 rfl) ?_
  refine y_c1 (n := 1) C0 (by decide) dX7_comeFrom_103 (fun v_78 e_79 => ?_)
  refine y_add C0 (o19_36 l3 u3 l4 u4 e_2 e_11 e_13 e_17 e_18 e_20 e_37 e_39 e_43 e_44 e_46 e_56 e_58 e_62 e_63 e_65 e_75 e_77 e_79 (le_min a3) (le_max a3) (le_min v_78) (le_max v_78) (le_min a4) (le_max a4) (le_min v_1) (le_max v_1) (le_min v_10) (le_max v_10) (le_min v_12) (le_max v_12) (le_min v_16) (le_max v_16) (le_min v_19) (le_max v_19) (le_min v_36) (le_max v_36) (le_min v_38) (le_max v_38) (le_min v_42) (le_max v_42) (le_min v_45) (le_max v_45) (le_min v_55) (le_max v_55) (le_min v_57) (le_max v_57) (le_min v_61) (le_max v_61) (le_min v_64) (le_max v_64) (le_min v_74) (le_max v_74) (le_min v_76) (le_max v_76)) (o19_37 l3 u3 l4 u4 e_2 e_11 e_13 e_17 e_18 e_20 e_37 e_39 e_43 e_44 e_46 e_56 e_58 e_62 e_63 e_65 e_75 e_77 e_79 (le_min a3) (le_max a3) (le_min v_78) (le_max v_78) (le_min a4) (le_max a4) (le_min v_1) (le_max v_1) (le_min v_10) (le_max v_10) (le_min v_12) (le_max v_12) (le_min v_16) (le_max v_16) (le_min v_19) (le_max v_19) (le_min v_36) (le_max v_36) (le_min v_38) (le_max v_38) (le_min v_42) (le_max v_42) (le_min v_45) (le_max v_45) (le_min v_55) (le_max v_55) (le_min v_57) (le_max v_57) (le_min v_61) (le_max v_61) (le_min v_64) (le_max v_64) (le_min v_74) (le_max v_74) (le_min v_76) (le_max v_76)) dX7_comeFrom_104 (fun v_80 e_81 => ?_)
  refine y_c1 (n := 3) C0 (by decide) dX7_comeFrom_105 (fun v_82 e_83 => ?_)
  refine y_and 3 2 (n := 3) C0 (Eq.trans (o19_13 e_83) (by decide)) (by decide) (by decide) (by decide) dX7_comeFrom_106 (fun v_84 e_85 e_86 => ?_)
  refine y_add C0 (o19_38 l3 u3 l4 u4 e_2 e_11 e_13 e_17 e_18 e_20 e_37 e_39 e_43 e_44 e_46 e_56 e_58 e_62 e_63 e_65 e_75 e_77 e_79 e_81 e_85 e_86 (le_min v_76) (le_max v_76) (le_min v_84) (le_max v_84) (le_min a3) (le_max a3) (le_min a4) (le_max a4) (le_min v_1) (le_max v_1) (le_min v_10) (le_max v_10) (le_min v_12) (le_max v_12) (le_min v_16) (le_max v_16) (le_min v_19) (le_max v_19) (le_min v_36) (le_max v_36) (le_min v_38) (le_max v_38) (le_min v_42) (le_max v_42) (le_min v_45) (le_max v_45) (le_min v_55) (le_max v_55) (le_min v_57) (le_max v_57) (le_min v_61) (le_max v_61) (le_min v_64) (le_max v_64) (le_min v_74) (le_max v_74) (le_min v_78) (le_max v_78) (le_min v_80) (le_max v_80)) (o19_39 l3 u3 l4 u4 e_2 e_11 e_13 e_17 e_18 e_20 e_37 e_39 e_43 e_44 e_46 e_56 e_58 e_62 e_63 e_65 e_75 e_77 e_79 e_81 e_85 e_86 (le_min v_76) (le_max v_76) (le_min v_84) (le_max v_84) (le_min a3) (le_max a3) (le_min a4) (le_max a4) (le_min v_1) (le_max v_1) (le_min v_10) (le_max v_10) (le_min v_12) (le_max v_12) (le_min v_16) (le_max v_16) (le_min v_19) (le_max v_19) (le_min v_36) (le_max v_36) (le_min v_38) (le_max v_38) (le_min v_42) (le_max v_42) (le_min v_45) (le_max v_45) (le_min v_55) (le_max v_55) (le_min v_57) (le_max v_57) (le_min v_61) (le_max v_61) (le_min v_64) (le_max v_64) (le_min v_74) (le_max v_74) (le_min v_78) (le_max v_78) (le_min v_80) (le_max v_80)) dX7_comeFrom_107 (fun v_87 e_88 => ?_)
  refine lv_dup2_11 C0.1 C0.2.1 dX7_comeFrom_108 rfl rfl ?_
  refine y_iald C0 h kSC_88 rfl (by decide) (o19_40 l3 u3 l4 u4 e_2 e_11 e_13 e_17 e_18 e_20 e_37 e_39 e_43 e_44 e_46 e_56 e_58 e_62 e_63 e_65 e_75 e_77 e_79 e_81 e_85 e_86 e_88) (o19_41 l3 u3 l4 u4 e_2 e_11 e_13 e_17 e_18 e_20 e_37 e_39 e_43 e_44 e_46 e_56 e_58 e_62 e_63 e_65 e_75 e_77 e_79 e_81 e_85 e_86 e_88) dX7_comeFrom_109 (fun v_89 e_90 e_91 e_92 => ?_)
  refine lv_iload C0.1 C0.2.1 dX7_comeFrom_110 (lv_at hl 0 rfl) ?_
  refine lv_iload C0.1 C0.2.1 dX7_comeFrom_112 (lv_at hl 1 rfl) ?_
  refine y_c1 (n := (-1)) C0 (by decide) dX7_comeFrom_114 (fun v_93 e_94 => ?_)
  refine y_ixorU C0 dX7_comeFrom_115 (fun v_95 => ?_)
  refine y_iandU C0 dX7_comeFrom_116 (fun v_96 => ?_)
  refine y_iorU C0 dX7_comeFrom_117 (fun v_97 => ?_)
  refine y_iast C0 h kSC_88 rfl (by decide) (o19_40 l3 u3 l4 u4 e_2 e_11 e_13 e_17 e_18 e_20 e_37 e_39 e_43 e_44 e_46 e_56 e_58 e_62 e_63 e_65 e_75 e_77 e_79 e_81 e_85 e_86 e_88) (o19_41 l3 u3 l4 u4 e_2 e_11 e_13 e_17 e_18 e_20 e_37 e_39 e_43 e_44 e_46 e_56 e_58 e_62 e_63 e_65 e_75 e_77 e_79 e_81 e_85 e_86 e_88) (le_min v_97) (le_max v_97) dX7_comeFrom_118 (fun H locs ws_98 h u_99 => ?_)
  refine lv_aload_n C0.1 C0.2.1 dX7_comeFrom_119 rfl (lv_at hl 2 rfl) ?_
  refine tg_X7_back C0 h kSC_87 q_345 dX7_comeFrom_120 ?_
  refine lv_iload C0.1 C0.2.1 dX7_comeFrom_123 (lv_at hl 6 rfl) ?_
  refine y_c2 (n := 8) C0 (by decide) dX7_comeFrom_125 (fun v_100 e_101 => ?_)
  refine y_add C0 (o19_42 l3 u3 l4 u4 e_2 e_11 e_13 e_17 e_18 e_20 e_37 e_39 e_43 e_44 e_46 e_56 e_58 e_62 e_63 e_65 e_75 e_77 e_79 e_81 e_85 e_86 e_88 e_101 (le_min a4) (le_max a4) (le_min v_100) (le_max v_100) (le_min a3) (le_max a3) (le_min v_1) (le_max v_1) (le_min v_10) (le_max v_10) (le_min v_12) (le_max v_12) (le_min v_16) (le_max v_16) (le_min v_19) (le_max v_19) (le_min v_36) (le_max v_36) (le_min v_38) (le_max v_38) (le_min v_42) (le_max v_42) (le_min v_45) (le_max v_45) (le_min v_55) (le_max v_55) (le_min v_57) (le_max v_57) (le_min v_61) (le_max v_61) (le_min v_64) (le_max v_64) (le_min v_74) (le_max v_74) (le_min v_76) (le_max v_76) (le_min v_78) (le_max v_78) (le_min v_80) (le_max v_80) (le_min v_84) (le_max v_84) (le_min v_87) (le_max v_87)) (o19_43 l3 u3 l4 u4 e_2 e_11 e_13 e_17 e_18 e_20 e_37 e_39 e_43 e_44 e_46 e_56 e_58 e_62 e_63 e_65 e_75 e_77 e_79 e_81 e_85 e_86 e_88 e_101 (le_min a4) (le_max a4) (le_min v_100) (le_max v_100) (le_min a3) (le_max a3) (le_min v_1) (le_max v_1) (le_min v_10) (le_max v_10) (le_min v_12) (le_max v_12) (le_min v_16) (le_max v_16) (le_min v_19) (le_max v_19) (le_min v_36) (le_max v_36) (le_min v_38) (le_max v_38) (le_min v_42) (le_max v_42) (le_min v_45) (le_max v_45) (le_min v_55) (le_max v_55) (le_min v_57) (le_max v_57) (le_min v_61) (le_max v_61) (le_min v_64) (le_max v_64) (le_min v_74) (le_max v_74) (le_min v_76) (le_max v_76) (le_min v_78) (le_max v_78) (le_min v_80) (le_max v_80) (le_min v_84) (le_max v_84) (le_min v_87) (le_max v_87)) dX7_comeFrom_127 (fun v_102 e_103 => ?_)
  refine lv_iload_n C0.1 C0.2.1 dX7_comeFrom_128 rfl (lv_at hl 5 rfl) ?_
  refine y_c1 (n := 2) C0 (by decide) dX7_comeFrom_129 (fun v_104 e_105 => ?_)
  refine y_add C0 (o19_44 l3 u3 l4 u4 e_2 e_11 e_13 e_17 e_18 e_20 e_37 e_39 e_43 e_44 e_46 e_56 e_58 e_62 e_63 e_65 e_75 e_77 e_79 e_81 e_85 e_86 e_88 e_101 e_103 e_105 (le_min a3) (le_max a3) (le_min v_104) (le_max v_104) (le_min a4) (le_max a4) (le_min v_1) (le_max v_1) (le_min v_10) (le_max v_10) (le_min v_12) (le_max v_12) (le_min v_16) (le_max v_16) (le_min v_19) (le_max v_19) (le_min v_36) (le_max v_36) (le_min v_38) (le_max v_38) (le_min v_42) (le_max v_42) (le_min v_45) (le_max v_45) (le_min v_55) (le_max v_55) (le_min v_57) (le_max v_57) (le_min v_61) (le_max v_61) (le_min v_64) (le_max v_64) (le_min v_74) (le_max v_74) (le_min v_76) (le_max v_76) (le_min v_78) (le_max v_78) (le_min v_80) (le_max v_80) (le_min v_84) (le_max v_84) (le_min v_87) (le_max v_87) (le_min v_100) (le_max v_100) (le_min v_102) (le_max v_102)) (o19_45 l3 u3 l4 u4 e_2 e_11 e_13 e_17 e_18 e_20 e_37 e_39 e_43 e_44 e_46 e_56 e_58 e_62 e_63 e_65 e_75 e_77 e_79 e_81 e_85 e_86 e_88 e_101 e_103 e_105 (le_min a3) (le_max a3) (le_min v_104) (le_max v_104) (le_min a4) (le_max a4) (le_min v_1) (le_max v_1) (le_min v_10) (le_max v_10) (le_min v_12) (le_max v_12) (le_min v_16) (le_max v_16) (le_min v_19) (le_max v_19) (le_min v_36) (le_max v_36) (le_min v_38) (le_max v_38) (le_min v_42) (le_max v_42) (le_min v_45) (le_max v_45) (le_min v_55) (le_max v_55) (le_min v_57) (le_max v_57) (le_min v_61) (le_max v_61) (le_min v_64) (le_max v_64) (le_min v_74) (le_max v_74) (le_min v_76) (le_max v_76) (le_min v_78) (le_max v_78) (le_min v_80) (le_max v_80) (le_min v_84) (le_max v_84) (le_min v_87) (le_max v_87) (le_min v_100) (le_max v_100) (le_min v_102) (le_max v_102)) dX7_comeFrom_130 (fun v_106 e_107 => ?_)
  refine y_c1 (n := 3) C0 (by decide) dX7_comeFrom_131 (fun v_108 e_109 => ?_)
  refine y_and 3 2 (n := 3) C0 (Eq.trans (o19_13 e_109) (by decide)) (by decide) (by decide) (by decide) dX7_comeFrom_132 (fun v_110 e_111 e_112 => ?_)
  refine y_add C0 (o19_46 l3 u3 l4 u4 e_2 e_11 e_13 e_17 e_18 e_20 e_37 e_39 e_43 e_44 e_46 e_56 e_58 e_62 e_63 e_65 e_75 e_77 e_79 e_81 e_85 e_86 e_88 e_101 e_103 e_105 e_107 e_111 e_112 (le_min v_102) (le_max v_102) (le_min v_110) (le_max v_110) (le_min a3) (le_max a3) (le_min a4) (le_max a4) (le_min v_1) (le_max v_1) (le_min v_10) (le_max v_10) (le_min v_12) (le_max v_12) (le_min v_16) (le_max v_16) (le_min v_19) (le_max v_19) (le_min v_36) (le_max v_36) (le_min v_38) (le_max v_38) (le_min v_42) (le_max v_42) (le_min v_45) (le_max v_45) (le_min v_55) (le_max v_55) (le_min v_57) (le_max v_57) (le_min v_61) (le_max v_61) (le_min v_64) (le_max v_64) (le_min v_74) (le_max v_74) (le_min v_76) (le_max v_76) (le_min v_78) (le_max v_78) (le_min v_80) (le_max v_80) (le_min v_84) (le_max v_84) (le_min v_87) (le_max v_87) (le_min v_100) (le_max v_100) (le_min v_104) (le_max v_104) (le_min v_106) (le_max v_106)) (o19_47 l3 u3 l4 u4 e_2 e_11 e_13 e_17 e_18 e_20 e_37 e_39 e_43 e_44 e_46 e_56 e_58 e_62 e_63 e_65 e_75 e_77 e_79 e_81 e_85 e_86 e_88 e_101 e_103 e_105 e_107 e_111 e_112 (le_min v_102) (le_max v_102) (le_min v_110) (le_max v_110) (le_min a3) (le_max a3) (le_min a4) (le_max a4) (le_min v_1) (le_max v_1) (le_min v_10) (le_max v_10) (le_min v_12) (le_max v_12) (le_min v_16) (le_max v_16) (le_min v_19) (le_max v_19) (le_min v_36) (le_max v_36) (le_min v_38) (le_max v_38) (le_min v_42) (le_max v_42) (le_min v_45) (le_max v_45) (le_min v_55) (le_max v_55) (le_min v_57) (le_max v_57) (le_min v_61) (le_max v_61) (le_min v_64) (le_max v_64) (le_min v_74) (le_max v_74) (le_min v_76) (le_max v_76) (le_min v_78) (le_max v_78) (le_min v_80) (le_max v_80) (le_min v_84) (le_max v_84) (le_min v_87) (le_max v_87) (le_min v_100) (le_max v_100) (le_min v_104) (le_max v_104) (le_min v_106) (le_max v_106)) dX7_comeFrom_133 (fun v_113 e_114 => ?_)
  refine lv_dup2_11 C0.1 C0.2.1 dX7_comeFrom_134 rfl rfl ?_
  refine y_iald C0 h kSC_88 rfl (by decide) (o19_48 l3 u3 l4 u4 e_2 e_11 e_13 e_17 e_18 e_20 e_37 e_39 e_43 e_44 e_46 e_56 e_58 e_62 e_63 e_65 e_75 e_77 e_79 e_81 e_85 e_86 e_88 e_101 e_103 e_105 e_107 e_111 e_112 e_114) (o19_49 l3 u3 l4 u4 e_2 e_11 e_13 e_17 e_18 e_20 e_37 e_39 e_43 e_44 e_46 e_56 e_58 e_62 e_63 e_65 e_75 e_77 e_79 e_81 e_85 e_86 e_88 e_101 e_103 e_105 e_107 e_111 e_112 e_114) dX7_comeFrom_135 (fun v_115 e_116 e_117 e_118 => ?_)
  refine lv_iload C0.1 C0.2.1 dX7_comeFrom_136 (lv_at hl 0 rfl) ?_
  refine lv_iload C0.1 C0.2.1 dX7_comeFrom_138 (lv_at hl 1 rfl) ?_
  refine y_c1 (n := (-1)) C0 (by decide) dX7_comeFrom_140 (fun v_119 e_120 => ?_)
  refine y_ixorU C0 dX7_comeFrom_141 (fun v_121 => ?_)
  refine y_iandU C0 dX7_comeFrom_142 (fun v_122 => ?_)
  refine y_iorU C0 dX7_comeFrom_143 (fun v_123 => ?_)
  refine y_iast C0 h kSC_88 rfl (by decide) (o19_48 l3 u3 l4 u4 e_2 e_11 e_13 e_17 e_18 e_20 e_37 e_39 e_43 e_44 e_46 e_56 e_58 e_62 e_63 e_65 e_75 e_77 e_79 e_81 e_85 e_86 e_88 e_101 e_103 e_105 e_107 e_111 e_112 e_114) (o19_49 l3 u3 l4 u4 e_2 e_11 e_13 e_17 e_18 e_20 e_37 e_39 e_43 e_44 e_46 e_56 e_58 e_62 e_63 e_65 e_75 e_77 e_79 e_81 e_85 e_86 e_88 e_101 e_103 e_105 e_107 e_111 e_112 e_114) (le_min v_123) (le_max v_123) dX7_comeFrom_144 (fun H locs ws_124 h u_125 => ?_)
  rw [hQ]
  exact y_vret C0 h (Fr.tr (Fr.tr (Fr.tr (Fr.tr (Fr.tr (Fr.tr (Fr.tr (Fr.up u_9.1 kSC_88 (by decide)) (Fr.up u_27.1 kSC_88 (by decide))) (Fr.mono u_29 (by decide))) (Fr.mono u_33 (by decide))) (Fr.up u_54.1 kSC_88 (by decide))) (Fr.up u_73.1 kSC_88 (by decide))) (Fr.up u_99.1 kSC_88 (by decide))) (Fr.up u_125.1 kSC_88 (by decide))) trivial dX7_comeFrom_145
set_option maxHeartbeats 4000000 in
set_option maxRecDepth 100000 in
theorem c_X7_thin (l : Launch) (G : GG) (Z : RZ) (ad : Nat → Nat) (ws0 : va_W) (hT : Ty G (SC tt) ad ws0) (a1 : Int32) (l1 : 1 ≤ a1.toInt) (u1 : a1.toInt ≤ 59) : Mq l yX7_thin cX7_thin 5 none 1 G Z [.ref (ad 87), .int a1] ws0 (PV G (SC tt) ad [26] ws0 (fun u => True)) := by
  refine Mq.start (by decide) (Nat.le_of_ble_eq_true rfl) ?_
  intro p e s m below meth c A ls C0 hZ h hl
  have hl : lv_has ls 5 [(0, .ref (ad 87)), (1, .int a1)] := hl
  have h : Wt G (SC tt) ad A s s.heap [] ws0 := ⟨h, hT⟩
  obtain ⟨args, hargs⟩ : ∃ z, z = ([.ref (ad 87), .int a1] : List Value).toArray := ⟨_, rfl⟩
  rw [← hargs] at C0 ⊢
  have C0 : Cx p s m args meth c RX7 cX7_thin 5 none := C0
  obtain ⟨Q, hQ⟩ : ∃ z, z = MQ below ((PV G (SC tt) ad [26] ws0 (fun u => True)) A) args s 0 0 A := ⟨_, rfl⟩
  rw [← hQ]
  refine y_c1 (n := 0) C0 (by decide) dX7_thin_0 (fun v_1 e_2 => ?_)
  refine lv_istore_n (lv' := [(2, .int v_1), (0, .ref (ad 87)), (1, .int a1)]) C0.1 C0.2.1 dX7_thin_1 rfl hl (by decide) rfl (fun ls hl => ?_)
  have lp_6 : ∀ (n_8 : Nat) (x2_3 : Int32) (H : Heap) (locs : List Loc) (ls : Array Slot) (ws_4 : va_W), 4 - x2_3.toInt < (n_8 : Int) → 0 ≤ x2_3.toInt → x2_3.toInt ≤ 4 → Wt G (SC tt) ad A s H locs ws_4 → Fr (SC tt) [26] ws0 ws_4 → lv_has ls 5 [(2, .int x2_3), (0, .ref (ad 87)), (1, .int a1)] → W p l e (rmd 1 0 0) s m args below meth c H locs 0 0 Q (F0 m 2 ls []) := by
    intro n_8
    induction n_8 with
    | zero => intro x2_3 H locs ls ws_4 hn_9 b_10 b_11 h hF_5 hl; exact ((o19_50 b_10 b_11 hn_9)).elim
    | succ n_8 ih_7 =>
      intro x2_3 H locs ls ws_4 hn_9 b_10 b_11 h hF_5 hl
      refine lv_iload_n C0.1 C0.2.1 dX7_thin_2 rfl (lv_at hl 0 rfl) ?_
      refine y_c1 (n := 4) C0 (by decide) dX7_thin_3 (fun v_12 e_13 => ?_)
      refine y_icmp_ge (tgt := 67) C0 dX7_thin_4 (by decide) (fun c_14 => ?_) (fun c_14 => ?_)
      · -- 4
        rw [hQ]
        exact y_vret C0 h hF_5 trivial dX7_thin_67
      · -- 4
        refine y_c1 (n := 0) C0 (by decide) dX7_thin_7 (fun v_15 e_16 => ?_)
        refine lv_istore_n (lv' := [(3, .int v_15), (2, .int x2_3), (0, .ref (ad 87)), (1, .int a1)]) C0.1 C0.2.1 dX7_thin_8 rfl hl (by decide) rfl (fun ls hl => ?_)
        refine y_c1 (n := 4) C0 (by decide) dX7_thin_9 (fun v_17 e_18 => ?_)
        refine lv_iload_n C0.1 C0.2.1 dX7_thin_10 rfl (lv_at hl 3 rfl) ?_
        refine y_cmul (n := 4) C0 (o19_51 e_18) (o19_52 l1 u1 (le_min a1) (le_max a1)) (o19_53 l1 u1 (le_min a1) (le_max a1)) dX7_thin_11 (fun v_19 e_20 => ?_)
        refine lv_iload_n C0.1 C0.2.1 dX7_thin_12 rfl (lv_at hl 3 rfl) ?_
        refine y_mulb (la := 4) (ha := 236) (lb := 1) (hb := 59) C0 (by decide) (o19_54 l1 u1 e_20) (o19_55 l1 u1 e_20) (by decide) (o19_56 l1 u1 e_20) (o19_57 l1 u1 e_20) (by decide) dX7_thin_13 (fun v_21 e_22 e_23 e_24 => ?_)
        refine lv_iload_n C0.1 C0.2.1 dX7_thin_14 rfl (lv_at hl 1 rfl) ?_
        refine y_add C0 (o19_58 b_10 b_11 hn_9 e_13 c_14 e_23 e_24 (le_min v_21) (le_max v_21) (le_min x2_3) (le_max x2_3) (le_min v_12) (le_max v_12)) (o19_59 b_10 b_11 hn_9 e_13 c_14 e_23 e_24 (le_min v_21) (le_max v_21) (le_min x2_3) (le_max x2_3) (le_min v_12) (le_max v_12)) dX7_thin_15 (fun v_25 e_26 => ?_)
        refine lv_istore (lv' := [(4, .int v_25), (3, .int v_15), (2, .int x2_3), (0, .ref (ad 87)), (1, .int a1)]) C0.1 C0.2.1 dX7_thin_16 hl (by decide) rfl (fun ls hl => ?_)
        have lp_31 : ∀ (n_33 : Nat) (x4_27 : Int32) (x3_28 : Int32) (H : Heap) (locs : List Loc) (ls : Array Slot) (ws_29 : va_W), 14403 - x4_27.toInt < (n_33 : Int) → 4 ≤ x4_27.toInt → x4_27.toInt ≤ 14403 → Wt G (SC tt) ad A s H locs ws_29 → Fr (SC tt) [26] ws_4 ws_29 → lv_has ls 5 [(4, .int x4_27), (3, .int x3_28), (2, .int x2_3), (0, .ref (ad 87)), (1, .int a1)] → W p l e (rmd 1 0 0) s m args below meth c H locs 0 0 Q (F0 m 18 ls []) := by
          intro n_33
          induction n_33 with
          | zero => intro x4_27 x3_28 H locs ls ws_29 hn_34 b_35 b_36 h hF_30 hl; exact ((o19_60 b_35 b_36 hn_34)).elim
          | succ n_33 ih_32 =>
            intro x4_27 x3_28 H locs ls ws_29 hn_34 b_35 b_36 h hF_30 hl
            refine lv_iload C0.1 C0.2.1 dX7_thin_18 (lv_at hl 0 rfl) ?_
            refine y_c1 (n := 4) C0 (by decide) dX7_thin_20 (fun v_37 e_38 => ?_)
            refine lv_iload_n C0.1 C0.2.1 dX7_thin_21 rfl (lv_at hl 4 rfl) ?_
            refine y_c1 (n := 1) C0 (by decide) dX7_thin_22 (fun v_39 e_40 => ?_)
            refine y_add C0 (o19_61 l1 u1 e_20 e_40 (le_min a1) (le_max a1) (le_min v_39) (le_max v_39) (le_min v_19) (le_max v_19)) (o19_62 l1 u1 e_20 e_40 (le_min a1) (le_max a1) (le_min v_39) (le_max v_39) (le_min v_19) (le_max v_19)) dX7_thin_23 (fun v_41 e_42 => ?_)
            refine y_cmul (n := 4) C0 (o19_51 e_38) (o19_63 l1 u1 e_20 e_40 e_42 (le_min v_41) (le_max v_41) (le_min a1) (le_max a1) (le_min v_19) (le_max v_19) (le_min v_39) (le_max v_39)) (o19_64 l1 u1 e_20 e_40 e_42 (le_min v_41) (le_max v_41) (le_min a1) (le_max a1) (le_min v_19) (le_max v_19) (le_min v_39) (le_max v_39)) dX7_thin_24 (fun v_43 e_44 => ?_)
            refine lv_iload_n C0.1 C0.2.1 dX7_thin_25 rfl (lv_at hl 4 rfl) ?_
            refine y_c1 (n := 1) C0 (by decide) dX7_thin_26 (fun v_45 e_46 => ?_)
            refine y_add C0 (o19_65 l1 u1 e_20 e_40 e_42 e_44 e_46 (le_min a1) (le_max a1) (le_min v_45) (le_max v_45) (le_min v_19) (le_max v_19) (le_min v_39) (le_max v_39) (le_min v_41) (le_max v_41) (le_min v_43) (le_max v_43)) (o19_66 l1 u1 e_20 e_40 e_42 e_44 e_46 (le_min a1) (le_max a1) (le_min v_45) (le_max v_45) (le_min v_19) (le_max v_19) (le_min v_39) (le_max v_39) (le_min v_41) (le_max v_41) (le_min v_43) (le_max v_43)) dX7_thin_27 (fun v_47 e_48 => ?_)
            refine y_mulb (la := 8) (ha := 240) (lb := 2) (hb := 60) C0 (by decide) (o19_67 l1 u1 e_20 e_40 e_42 e_44 e_46 e_48) (o19_68 l1 u1 e_20 e_40 e_42 e_44 e_46 e_48) (by decide) (o19_69 l1 u1 e_20 e_40 e_42 e_44 e_46 e_48) (o19_70 l1 u1 e_20 e_40 e_42 e_44 e_46 e_48) (by decide) dX7_thin_28 (fun v_49 e_50 e_51 e_52 => ?_)
            refine y_icmp_ge (tgt := 61) C0 dX7_thin_29 (by decide) (fun c_53 => ?_) (fun c_53 => ?_)
            · -- 29
              refine y_inc (kp := 2) (n := 1) (fun v_54 => [(2, .int v_54), (4, .int x4_27), (3, .int x3_28), (0, .ref (ad 87)), (1, .int a1)]) C0 hl rfl (by decide) (by decide) (fun _ => rfl) (o19_71 b_10 b_11 hn_9 e_13 c_14 e_23 e_24 e_26 (le_min x2_3) (le_max x2_3) (le_min v_12) (le_max v_12) (le_min v_21) (le_max v_21) (le_min v_25) (le_max v_25)) (o19_72 b_10 b_11 hn_9 e_13 c_14 e_23 e_24 e_26 (le_min x2_3) (le_max x2_3) (le_min v_12) (le_max v_12) (le_min v_21) (le_max v_21) (le_min v_25) (le_max v_25)) dX7_thin_61 (fun v_54 ls e_55 hl => ?_)
              refine lv_goto (tgt := 2) C0.1 C0.2.1 dX7_thin_64 (by decide) ?_
              exact ih_7 v_54 _ _ _ _ (o19_73 b_10 b_11 hn_9 e_13 c_14 e_23 e_24 e_26 e_55) (o19_74 b_10 b_11 hn_9 e_13 c_14 e_23 e_24 e_26 e_55) (o19_75 b_10 b_11 hn_9 e_13 c_14 e_23 e_24 e_26 e_55) h (Fr.tr hF_5 hF_30) (lv_sub hl [0, 3, 4] rfl)
            · -- 29
              refine lv_aload_n C0.1 C0.2.1 dX7_thin_32 rfl (lv_at hl 3 rfl) ?_
              refine tg_X7_back C0 h kSC_87 q_345 dX7_thin_33 ?_
              refine lv_iload C0.1 C0.2.1 dX7_thin_36 (lv_at hl 0 rfl) ?_
              refine lv_dup2_11 C0.1 C0.2.1 dX7_thin_38 rfl rfl ?_
              refine y_iald C0 h kSC_88 rfl (by decide) (o19_76 b_35 b_36 hn_34 e_51 e_52 c_53) (o19_77 b_35 b_36 hn_34 e_51 e_52 c_53) dX7_thin_39 (fun v_56 e_57 e_58 e_59 => ?_)
              refine lv_iload_n C0.1 C0.2.1 dX7_thin_40 rfl (lv_at hl 1 rfl) ?_
              refine y_c1 (n := (-1)) C0 (by decide) dX7_thin_41 (fun v_60 e_61 => ?_)
              refine y_ixorU C0 dX7_thin_42 (fun v_62 => ?_)
              refine y_iandU C0 dX7_thin_43 (fun v_63 => ?_)
              refine y_iast C0 h kSC_88 rfl (by decide) (o19_76 b_35 b_36 hn_34 e_51 e_52 c_53) (o19_77 b_35 b_36 hn_34 e_51 e_52 c_53) (le_min v_63) (le_max v_63) dX7_thin_44 (fun H locs ws_64 h u_65 => ?_)
              refine lv_iload_n C0.1 C0.2.1 dX7_thin_45 rfl (lv_at hl 1 rfl) ?_
              refine lv_aload_n C0.1 C0.2.1 dX7_thin_46 rfl (lv_at hl 3 rfl) ?_
              refine tg_X7_back C0 h kSC_87 q_345 dX7_thin_47 ?_
              refine lv_iload C0.1 C0.2.1 dX7_thin_50 (lv_at hl 0 rfl) ?_
              refine y_iald C0 h kSC_88 rfl (by decide) (o19_76 b_35 b_36 hn_34 e_51 e_52 c_53) (o19_77 b_35 b_36 hn_34 e_51 e_52 c_53) dX7_thin_52 (fun v_66 e_67 e_68 e_69 => ?_)
              have q_70 : v_66.toInt = v_63.toInt := congrArg Int32.toInt (e_67.symm.trans (Eq.trans rfl u_65.2.1))
              refine y_iorU C0 dX7_thin_53 (fun v_71 => ?_)
              refine lv_istore_n (lv' := [(3, .int v_71), (4, .int x4_27), (2, .int x2_3), (0, .ref (ad 87)), (1, .int a1)]) C0.1 C0.2.1 dX7_thin_54 rfl hl (by decide) rfl (fun ls hl => ?_)
              refine y_inc (kp := 1) (n := 4) (fun v_72 => [(4, .int v_72), (3, .int v_71), (2, .int x2_3), (0, .ref (ad 87)), (1, .int a1)]) C0 hl rfl (by decide) (by decide) (fun _ => rfl) (o19_78 b_35 b_36 hn_34 e_51 e_52 c_53 (le_min x4_27) (le_max x4_27) (le_min v_49) (le_max v_49)) (o19_79 b_35 b_36 hn_34 e_51 e_52 c_53 (le_min x4_27) (le_max x4_27) (le_min v_49) (le_max v_49)) dX7_thin_55 (fun v_72 ls e_73 hl => ?_)
              refine lv_goto (tgt := 18) C0.1 C0.2.1 dX7_thin_58 (by decide) ?_
              exact ih_32 v_72 v_71 _ _ _ _ (o19_80 b_35 b_36 hn_34 e_51 e_52 c_53 e_73) (o19_81 b_35 b_36 hn_34 e_51 e_52 c_53 e_73) (o19_82 b_35 b_36 hn_34 e_51 e_52 c_53 e_73) h (Fr.tr hF_30 (Fr.up u_65.1 kSC_88 (by decide))) (lv_sub hl [0, 1, 2, 3, 4] rfl)
        exact lp_31 ((14403 - v_25.toInt + 1).toNat) v_25 v_15 _ _ _ _ (o19_83 b_10 b_11 hn_9 e_13 c_14 e_23 e_24 e_26) (o19_84 b_10 b_11 hn_9 e_13 c_14 e_23 e_24 e_26) (o19_85 b_10 b_11 hn_9 e_13 c_14 e_23 e_24 e_26) h Fr.rf (lv_sub hl [0, 1, 2, 3, 4] rfl)
  exact lp_6 ((4 - v_1.toInt + 1).toNat) v_1 _ _ _ _ (o19_86 e_2) (o19_87 e_2) (o19_88 e_2) h Fr.rf (lv_sub hl [0, 1, 2] rfl)
set_option maxHeartbeats 4000000 in
set_option maxRecDepth 100000 in
theorem c_X7_comes (l : Launch) (G : GG) (Z : RZ) (ad : Nat → Nat) (ws0 : va_W) (hT : Ty G (SC tt) ad ws0) (a1 : Int32) (a2 : Int32) (a3 : Int32) (l1 : 0 ≤ a1.toInt) (u1 : a1.toInt ≤ 59) (l2 : 0 ≤ a2.toInt) (u2 : a2.toInt ≤ 99) : Mq l yX7_comes cX7_comes 5 (some .boolean) 1 G Z [.ref (ad 87), .int a1, .int a2, .int a3] ws0 (PI G (SC tt) ad [] ws0 (fun r u => (0 ≤ r.toInt) ∧ (r.toInt ≤ 1))) := by
  refine Mq.start (by decide) (Nat.le_of_ble_eq_true rfl) ?_
  intro p e s m below meth c A ls C0 hZ h hl
  have hl : lv_has ls 5 [(0, .ref (ad 87)), (1, .int a1), (2, .int a2), (3, .int a3)] := hl
  have h : Wt G (SC tt) ad A s s.heap [] ws0 := ⟨h, hT⟩
  obtain ⟨args, hargs⟩ : ∃ z, z = ([.ref (ad 87), .int a1, .int a2, .int a3] : List Value).toArray := ⟨_, rfl⟩
  rw [← hargs] at C0 ⊢
  have C0 : Cx p s m args meth c RX7 cX7_comes 5 (some .boolean) := C0
  obtain ⟨Q, hQ⟩ : ∃ z, z = MQ below ((PI G (SC tt) ad [] ws0 (fun r u => (0 ≤ r.toInt) ∧ (r.toInt ≤ 1))) A) args s 0 0 A := ⟨_, rfl⟩
  rw [← hQ]
  refine y_c1 (n := 0) C0 (by decide) dX7_comes_0 (fun v_1 e_2 => ?_)
  refine lv_istore (lv' := [(4, .int v_1), (0, .ref (ad 87)), (1, .int a1), (2, .int a2), (3, .int a3)]) C0.1 C0.2.1 dX7_comes_1 hl (by decide) rfl (fun ls hl => ?_)
  have lp_6 : ∀ (n_8 : Nat) (x4_3 : Int32) (H : Heap) (locs : List Loc) (ls : Array Slot) (ws_4 : va_W), 119 - x4_3.toInt < (n_8 : Int) → 0 ≤ x4_3.toInt → x4_3.toInt ≤ 119 → Wt G (SC tt) ad A s H locs ws_4 → Fr (SC tt) [] ws0 ws_4 → lv_has ls 5 [(4, .int x4_3), (0, .ref (ad 87)), (1, .int a1), (2, .int a2), (3, .int a3)] → W p l e (rmd 1 0 0) s m args below meth c H locs 0 0 Q (F0 m 3 ls []) := by
    intro n_8
    induction n_8 with
    | zero => intro x4_3 H locs ls ws_4 hn_9 b_10 b_11 h hF_5 hl; exact ((o19_89 b_10 b_11 hn_9)).elim
    | succ n_8 ih_7 =>
      intro x4_3 H locs ls ws_4 hn_9 b_10 b_11 h hF_5 hl
      refine lv_iload C0.1 C0.2.1 dX7_comes_3 (lv_at hl 0 rfl) ?_
      refine y_c1 (n := 2) C0 (by decide) dX7_comes_5 (fun v_12 e_13 => ?_)
      refine lv_iload_n C0.1 C0.2.1 dX7_comes_6 rfl (lv_at hl 2 rfl) ?_
      refine y_cmul (n := 2) C0 (o19_90 e_13) (o19_91 l1 u1 (le_min a1) (le_max a1)) (o19_92 l1 u1 (le_min a1) (le_max a1)) dX7_comes_7 (fun v_14 e_15 => ?_)
      refine y_icmp_gt (tgt := 51) C0 dX7_comes_8 (by decide) (fun c_16 => ?_) (fun c_16 => ?_)
      · -- 8
        refine y_c1 (n := 0) C0 (by decide) dX7_comes_51 (fun v_17 e_18 => ?_)
        rw [hQ]
        exact y_zret C0 h (o19_87 e_18) (o19_93 e_18) hF_5 ⟨(o19_87 e_18), (o19_93 e_18)⟩ dX7_comes_52
      · -- 8
        refine lv_iload C0.1 C0.2.1 dX7_comes_11 (lv_at hl 0 rfl) ?_
        refine lv_iload_n C0.1 C0.2.1 dX7_comes_13 rfl (lv_at hl 4 rfl) ?_
        refine y_icmp_gt (tgt := 51) C0 dX7_comes_14 (by decide) (fun c_19 => ?_) (fun c_19 => ?_)
        · -- 14
          refine y_c1 (n := 0) C0 (by decide) dX7_comes_51 (fun v_20 e_21 => ?_)
          rw [hQ]
          exact y_zret C0 h (o19_87 e_21) (o19_93 e_21) hF_5 ⟨(o19_87 e_21), (o19_93 e_21)⟩ dX7_comes_52
        · -- 14
          refine lv_aload_n C0.1 C0.2.1 dX7_comes_17 rfl (lv_at hl 1 rfl) ?_
          refine tg_X7_back C0 h kSC_87 q_345 dX7_comes_18 ?_
          refine y_c1 (n := 4) C0 (by decide) dX7_comes_21 (fun v_22 e_23 => ?_)
          refine lv_iload_n C0.1 C0.2.1 dX7_comes_22 rfl (lv_at hl 2 rfl) ?_
          refine lv_iload_n C0.1 C0.2.1 dX7_comes_23 rfl (lv_at hl 2 rfl) ?_
          refine y_mulb (la := 0) (ha := 59) (lb := 0) (hb := 59) C0 (by decide) (o19_94 l1 u1 b_10 b_11 hn_9 e_15 c_16 c_19) (o19_95 l1 u1 b_10 b_11 hn_9 e_15 c_16 c_19) (by decide) (o19_94 l1 u1 b_10 b_11 hn_9 e_15 c_16 c_19) (o19_95 l1 u1 b_10 b_11 hn_9 e_15 c_16 c_19) (by decide) dX7_comes_24 (fun v_24 e_25 e_26 e_27 => ?_)
          refine lv_iload C0.1 C0.2.1 dX7_comes_25 (lv_at hl 0 rfl) ?_
          refine y_add C0 (o19_96 l1 u1 b_10 b_11 hn_9 e_15 c_16 c_19 e_26 e_27 (le_min v_24) (le_max v_24) (le_min x4_3) (le_max x4_3) (le_min a1) (le_max a1) (le_min v_14) (le_max v_14) (le_min a3) (le_max a3)) (o19_97 l1 u1 b_10 b_11 hn_9 e_15 c_16 c_19 e_26 e_27 (le_min v_24) (le_max v_24) (le_min x4_3) (le_max x4_3) (le_min a1) (le_max a1) (le_min v_14) (le_max v_14) (le_min a3) (le_max a3)) dX7_comes_27 (fun v_28 e_29 => ?_)
          refine y_cmul (n := 4) C0 (o19_51 e_23) (o19_98 l1 u1 b_10 b_11 hn_9 e_15 c_16 c_19 e_26 e_27 e_29 (le_min v_28) (le_max v_28) (le_min a1) (le_max a1) (le_min x4_3) (le_max x4_3) (le_min v_14) (le_max v_14) (le_min a3) (le_max a3) (le_min v_24) (le_max v_24)) (o19_99 l1 u1 b_10 b_11 hn_9 e_15 c_16 c_19 e_26 e_27 e_29 (le_min v_28) (le_max v_28) (le_min a1) (le_max a1) (le_min x4_3) (le_max x4_3) (le_min v_14) (le_max v_14) (le_min a3) (le_max a3) (le_min v_24) (le_max v_24)) dX7_comes_28 (fun v_30 e_31 => ?_)
          refine lv_iload_n C0.1 C0.2.1 dX7_comes_29 rfl (lv_at hl 3 rfl) ?_
          refine y_c1 (n := 3) C0 (by decide) dX7_comes_30 (fun v_32 e_33 => ?_)
          refine y_and 3 2 (n := 3) C0 (Eq.trans (o19_13 e_33) (by decide)) (by decide) (by decide) (by decide) dX7_comes_31 (fun v_34 e_35 e_36 => ?_)
          refine y_add C0 (o19_100 l1 u1 b_10 b_11 hn_9 e_15 c_16 c_19 e_26 e_27 e_29 e_31 e_35 e_36 (le_min v_30) (le_max v_30) (le_min v_34) (le_max v_34) (le_min a1) (le_max a1) (le_min x4_3) (le_max x4_3) (le_min v_14) (le_max v_14) (le_min a3) (le_max a3) (le_min v_24) (le_max v_24) (le_min v_28) (le_max v_28)) (o19_101 l1 u1 b_10 b_11 hn_9 e_15 c_16 c_19 e_26 e_27 e_29 e_31 e_35 e_36 (le_min v_30) (le_max v_30) (le_min v_34) (le_max v_34) (le_min a1) (le_max a1) (le_min x4_3) (le_max x4_3) (le_min v_14) (le_max v_14) (le_min a3) (le_max a3) (le_min v_24) (le_max v_24) (le_min v_28) (le_max v_28)) dX7_comes_32 (fun v_37 e_38 => ?_)
          refine y_iald C0 h kSC_88 rfl (by decide) (o19_102 l1 u1 b_10 b_11 hn_9 e_15 c_16 c_19 e_26 e_27 e_29 e_31 e_35 e_36 e_38) (o19_103 l1 u1 b_10 b_11 hn_9 e_15 c_16 c_19 e_26 e_27 e_29 e_31 e_35 e_36 e_38) dX7_comes_33 (fun v_39 e_40 e_41 e_42 => ?_)
          refine lv_iload_n C0.1 C0.2.1 dX7_comes_34 rfl (lv_at hl 3 rfl) ?_
          refine y_c1 (n := 2) C0 (by decide) dX7_comes_35 (fun v_43 e_44 => ?_)
          refine y_shr 2 2 (n := 4) C0 (Eq.trans (o19_90 e_44) (by decide)) (by decide) (by decide) dX7_comes_36 (fun v_45 e_46 => ?_)
          refine y_ishrU C0 dX7_comes_37 (fun v_47 => ?_)
          refine y_c1 (n := 1) C0 (by decide) dX7_comes_38 (fun v_48 e_49 => ?_)
          refine y_and 1 1 (n := 1) C0 (Eq.trans (o19_104 e_49) (by decide)) (by decide) (by decide) (by decide) dX7_comes_39 (fun v_50 e_51 e_52 => ?_)
          refine y_if_eq (tgt := 45) C0 dX7_comes_40 (by decide) (fun c_53 => ?_) (fun c_53 => ?_)
          · -- 40
            refine y_inc (kp := 0) (n := 1) (fun v_54 => [(4, .int v_54), (0, .ref (ad 87)), (1, .int a1), (2, .int a2), (3, .int a3)]) C0 hl rfl (by decide) (by decide) (fun _ => rfl) (o19_105 l1 u1 b_10 b_11 hn_9 e_15 c_16 c_19 e_26 e_27 e_29 e_31 e_35 e_36 e_38 (le_min x4_3) (le_max x4_3) (le_min a1) (le_max a1) (le_min v_14) (le_max v_14) (le_min a3) (le_max a3) (le_min v_24) (le_max v_24) (le_min v_28) (le_max v_28) (le_min v_30) (le_max v_30) (le_min v_34) (le_max v_34) (le_min v_37) (le_max v_37)) (o19_106 l1 u1 b_10 b_11 hn_9 e_15 c_16 c_19 e_26 e_27 e_29 e_31 e_35 e_36 e_38 (le_min x4_3) (le_max x4_3) (le_min a1) (le_max a1) (le_min v_14) (le_max v_14) (le_min a3) (le_max a3) (le_min v_24) (le_max v_24) (le_min v_28) (le_max v_28) (le_min v_30) (le_max v_30) (le_min v_34) (le_max v_34) (le_min v_37) (le_max v_37)) dX7_comes_45 (fun v_54 ls e_55 hl => ?_)
            refine lv_goto (tgt := 3) C0.1 C0.2.1 dX7_comes_48 (by decide) ?_
            exact ih_7 v_54 _ _ _ _ (o19_107 l1 u1 b_10 b_11 hn_9 e_15 c_16 c_19 e_26 e_27 e_29 e_31 e_35 e_36 e_38 e_55) (o19_108 l1 u1 b_10 b_11 hn_9 e_15 c_16 c_19 e_26 e_27 e_29 e_31 e_35 e_36 e_38 e_55) (o19_109 l1 u1 b_10 b_11 hn_9 e_15 c_16 c_19 e_26 e_27 e_29 e_31 e_35 e_36 e_38 e_55) h hF_5 (lv_sub hl [0, 1, 2, 3, 4] rfl)
          · -- 40
            refine y_c1 (n := 1) C0 (by decide) dX7_comes_43 (fun v_56 e_57 => ?_)
            rw [hQ]
            exact y_zret C0 h (o19_110 e_57) (o19_111 e_57) hF_5 ⟨(o19_110 e_57), (o19_111 e_57)⟩ dX7_comes_44
  exact lp_6 ((119 - v_1.toInt + 1).toNat) v_1 _ _ _ _ (o19_112 e_2) (o19_87 e_2) (o19_113 e_2) h Fr.rf (lv_sub hl [0, 1, 2, 3, 4] rfl)
set_option maxHeartbeats 4000000 in
set_option maxRecDepth 100000 in
theorem c_X7_lookBack (l : Launch) (G : GG) (Z : RZ) (ad : Nat → Nat) (ws0 : va_W) (hT : Ty G (SC tt) ad ws0) (a1 : Int32) (a2 : Int32) (a3 : Int32) (l1 : 0 ≤ a1.toInt) (u1 : a1.toInt ≤ 180) : Mq l yX7_lookBack cX7_lookBack 9 none 5 G Z [.ref (ad 87), .int a1, .int a2, .int a3] ws0 (PV G (SC tt) ad [4, 5, 18, 19, 20, 21, 26] ws0 (fun u => True)) := by
  refine Mq.start (by decide) (Nat.le_of_ble_eq_true rfl) ?_
  intro p e s m below meth c A ls C0 hZ h hl
  have hl : lv_has ls 9 [(0, .ref (ad 87)), (1, .int a1), (2, .int a2), (3, .int a3)] := hl
  have h : Wt G (SC tt) ad A s s.heap [] ws0 := ⟨h, hT⟩
  obtain ⟨args, hargs⟩ : ∃ z, z = ([.ref (ad 87), .int a1, .int a2, .int a3] : List Value).toArray := ⟨_, rfl⟩
  rw [← hargs] at C0 ⊢
  have C0 : Cx p s m args meth c RX7 cX7_lookBack 9 none := C0
  obtain ⟨Q, hQ⟩ : ∃ z, z = MQ below ((PV G (SC tt) ad [4, 5, 18, 19, 20, 21, 26] ws0 (fun u => True)) A) args s 0 0 A := ⟨_, rfl⟩
  rw [← hQ]
  refine y_c1 (n := 0) C0 (by decide) dX7_lookBack_0 (fun v_1 e_2 => ?_)
  refine lv_istore (lv' := [(4, .int v_1), (0, .ref (ad 87)), (1, .int a1), (2, .int a2), (3, .int a3)]) C0.1 C0.2.1 dX7_lookBack_1 hl (by decide) rfl (fun ls hl => ?_)
  have lp_6 : ∀ (n_8 : Nat) (x4_3 : Int32) (H : Heap) (locs : List Loc) (ls : Array Slot) (ws_4 : va_W), 4 - x4_3.toInt < (n_8 : Int) → 0 ≤ x4_3.toInt → x4_3.toInt ≤ 4 → Wt G (SC tt) ad A s H locs ws_4 → Fr (SC tt) [26] ws0 ws_4 → lv_has ls 9 [(4, .int x4_3), (0, .ref (ad 87)), (1, .int a1), (2, .int a2), (3, .int a3)] → W p l e (rmd 5 0 0) s m args below meth c H locs 0 0 Q (F0 m 3 ls []) := by
    intro n_8
    induction n_8 with
    | zero => intro x4_3 H locs ls ws_4 hn_9 b_10 b_11 h hF_5 hl; exact ((o19_50 b_10 b_11 hn_9)).elim
    | succ n_8 ih_7 =>
      intro x4_3 H locs ls ws_4 hn_9 b_10 b_11 h hF_5 hl
      refine lv_iload C0.1 C0.2.1 dX7_lookBack_3 (lv_at hl 0 rfl) ?_
      refine y_c1 (n := 4) C0 (by decide) dX7_lookBack_5 (fun v_12 e_13 => ?_)
      refine y_icmp_ge (tgt := 25) C0 dX7_lookBack_6 (by decide) (fun c_14 => ?_) (fun c_14 => ?_)
      · -- 6
        refine y_c1 (n := 1) C0 (by decide) dX7_lookBack_25 (fun v_15 e_16 => ?_)
        refine lv_istore (lv' := [(4, .int v_15), (0, .ref (ad 87)), (1, .int a1), (2, .int a2), (3, .int a3)]) C0.1 C0.2.1 dX7_lookBack_26 hl (by decide) rfl (fun ls hl => ?_)
        have lp_20 : ∀ (n_22 : Nat) (x4_17 : Int32) (H : Heap) (locs : List Loc) (ls : Array Slot) (ws_18 : va_W), 60 - x4_17.toInt < (n_22 : Int) → 1 ≤ x4_17.toInt → x4_17.toInt ≤ 60 → Wt G (SC tt) ad A s H locs ws_18 → Fr (SC tt) [4, 5, 18, 19, 20, 21, 26] ws_4 ws_18 → lv_has ls 9 [(4, .int x4_17), (0, .ref (ad 87)), (1, .int a1), (2, .int a2), (3, .int a3)] → W p l e (rmd 5 0 0) s m args below meth c H locs 0 0 Q (F0 m 28 ls []) := by
          intro n_22
          induction n_22 with
          | zero => intro x4_17 H locs ls ws_18 hn_23 b_24 b_25 h hF_19 hl; exact ((o19_114 b_24 b_25 hn_23)).elim
          | succ n_22 ih_21 =>
            intro x4_17 H locs ls ws_18 hn_23 b_24 b_25 h hF_19 hl
            refine lv_iload C0.1 C0.2.1 dX7_lookBack_28 (lv_at hl 0 rfl) ?_
            refine lv_aload_n C0.1 C0.2.1 dX7_lookBack_30 rfl (lv_at hl 1 rfl) ?_
            refine tg_X7_length C0 h kSC_87 q_347 dX7_lookBack_31 (fun v_26 e_27 e_28 e_29 => ?_)
            refine y_icmp_ge (tgt := 202) C0 dX7_lookBack_34 (by decide) (fun c_30 => ?_) (fun c_30 => ?_)
            · -- 34
              rw [hQ]
              exact y_vret C0 h (Fr.tr (Fr.mono hF_5 (by decide)) hF_19) trivial dX7_lookBack_202
            · -- 34
              refine y_c1 (n := 4) C0 (by decide) dX7_lookBack_37 (fun v_31 e_32 => ?_)
              refine lv_iload C0.1 C0.2.1 dX7_lookBack_38 (lv_at hl 0 rfl) ?_
              refine y_cmul (n := 4) C0 (o19_51 e_32) (o19_115 b_24 b_25 hn_23 e_28 e_29 c_30 (le_min x4_17) (le_max x4_17) (le_min v_26) (le_max v_26)) (o19_116 b_24 b_25 hn_23 e_28 e_29 c_30 (le_min x4_17) (le_max x4_17) (le_min v_26) (le_max v_26)) dX7_lookBack_40 (fun v_33 e_34 => ?_)
              refine lv_iload C0.1 C0.2.1 dX7_lookBack_41 (lv_at hl 0 rfl) ?_
              refine y_mulb (la := 4) (ha := 236) (lb := 1) (hb := 59) C0 (by decide) (o19_117 b_24 b_25 hn_23 e_28 e_29 c_30 e_34) (o19_118 b_24 b_25 hn_23 e_28 e_29 c_30 e_34) (by decide) (o19_119 b_24 b_25 hn_23 e_28 e_29 c_30 e_34) (o19_120 b_24 b_25 hn_23 e_28 e_29 c_30 e_34) (by decide) dX7_lookBack_43 (fun v_35 e_36 e_37 e_38 => ?_)
              refine lv_istore (lv' := [(5, .int v_35), (4, .int x4_17), (0, .ref (ad 87)), (1, .int a1), (2, .int a2), (3, .int a3)]) C0.1 C0.2.1 dX7_lookBack_44 hl (by decide) rfl (fun ls hl => ?_)
              have lp_42 : ∀ (n_44 : Nat) (x5_39 : Int32) (H : Heap) (locs : List Loc) (ls : Array Slot) (ws_40 : va_W), 14400 - x5_39.toInt < (n_44 : Int) → 4 ≤ x5_39.toInt → x5_39.toInt ≤ 14400 → Wt G (SC tt) ad A s H locs ws_40 → Fr (SC tt) [26] ws_18 ws_40 → lv_has ls 9 [(5, .int x5_39), (4, .int x4_17), (0, .ref (ad 87)), (1, .int a1), (2, .int a2), (3, .int a3)] → W p l e (rmd 5 0 0) s m args below meth c H locs 0 0 Q (F0 m 46 ls []) := by
                intro n_44
                induction n_44 with
                | zero => intro x5_39 H locs ls ws_40 hn_45 b_46 b_47 h hF_41 hl; exact ((o19_121 b_46 b_47 hn_45)).elim
                | succ n_44 ih_43 =>
                  intro x5_39 H locs ls ws_40 hn_45 b_46 b_47 h hF_41 hl
                  refine lv_iload C0.1 C0.2.1 dX7_lookBack_46 (lv_at hl 0 rfl) ?_
                  refine y_c1 (n := 4) C0 (by decide) dX7_lookBack_48 (fun v_48 e_49 => ?_)
                  refine lv_iload C0.1 C0.2.1 dX7_lookBack_49 (lv_at hl 1 rfl) ?_
                  refine y_c1 (n := 1) C0 (by decide) dX7_lookBack_51 (fun v_50 e_51 => ?_)
                  refine y_add C0 (o19_122 b_24 b_25 hn_23 e_28 e_29 c_30 e_34 e_51 (le_min x4_17) (le_max x4_17) (le_min v_50) (le_max v_50) (le_min v_26) (le_max v_26) (le_min v_33) (le_max v_33)) (o19_123 b_24 b_25 hn_23 e_28 e_29 c_30 e_34 e_51 (le_min x4_17) (le_max x4_17) (le_min v_50) (le_max v_50) (le_min v_26) (le_max v_26) (le_min v_33) (le_max v_33)) dX7_lookBack_52 (fun v_52 e_53 => ?_)
                  refine y_cmul (n := 4) C0 (o19_51 e_49) (o19_124 b_24 b_25 hn_23 e_28 e_29 c_30 e_34 e_51 e_53 (le_min v_52) (le_max v_52) (le_min x4_17) (le_max x4_17) (le_min v_26) (le_max v_26) (le_min v_33) (le_max v_33) (le_min v_50) (le_max v_50)) (o19_125 b_24 b_25 hn_23 e_28 e_29 c_30 e_34 e_51 e_53 (le_min v_52) (le_max v_52) (le_min x4_17) (le_max x4_17) (le_min v_26) (le_max v_26) (le_min v_33) (le_max v_33) (le_min v_50) (le_max v_50)) dX7_lookBack_53 (fun v_54 e_55 => ?_)
                  refine lv_iload C0.1 C0.2.1 dX7_lookBack_54 (lv_at hl 1 rfl) ?_
                  refine y_c1 (n := 1) C0 (by decide) dX7_lookBack_56 (fun v_56 e_57 => ?_)
                  refine y_add C0 (o19_126 b_24 b_25 hn_23 e_28 e_29 c_30 e_34 e_51 e_53 e_55 e_57 (le_min x4_17) (le_max x4_17) (le_min v_56) (le_max v_56) (le_min v_26) (le_max v_26) (le_min v_33) (le_max v_33) (le_min v_50) (le_max v_50) (le_min v_52) (le_max v_52) (le_min v_54) (le_max v_54)) (o19_127 b_24 b_25 hn_23 e_28 e_29 c_30 e_34 e_51 e_53 e_55 e_57 (le_min x4_17) (le_max x4_17) (le_min v_56) (le_max v_56) (le_min v_26) (le_max v_26) (le_min v_33) (le_max v_33) (le_min v_50) (le_max v_50) (le_min v_52) (le_max v_52) (le_min v_54) (le_max v_54)) dX7_lookBack_57 (fun v_58 e_59 => ?_)
                  refine y_mulb (la := 8) (ha := 240) (lb := 2) (hb := 60) C0 (by decide) (o19_128 b_24 b_25 hn_23 e_28 e_29 c_30 e_34 e_51 e_53 e_55 e_57 e_59) (o19_129 b_24 b_25 hn_23 e_28 e_29 c_30 e_34 e_51 e_53 e_55 e_57 e_59) (by decide) (o19_130 b_24 b_25 hn_23 e_28 e_29 c_30 e_34 e_51 e_53 e_55 e_57 e_59) (o19_131 b_24 b_25 hn_23 e_28 e_29 c_30 e_34 e_51 e_53 e_55 e_57 e_59) (by decide) dX7_lookBack_58 (fun v_60 e_61 e_62 e_63 => ?_)
                  refine y_icmp_ge (tgt := 76) C0 dX7_lookBack_59 (by decide) (fun c_64 => ?_) (fun c_64 => ?_)
                  · -- 59
                    refine y_c1 (n := 4) C0 (by decide) dX7_lookBack_76 (fun v_65 e_66 => ?_)
                    refine lv_iload C0.1 C0.2.1 dX7_lookBack_77 (lv_at hl 1 rfl) ?_
                    refine y_c1 (n := 1) C0 (by decide) dX7_lookBack_79 (fun v_67 e_68 => ?_)
                    refine y_sub C0 (o19_132 b_24 b_25 hn_23 e_28 e_29 c_30 e_34 e_51 e_53 e_55 e_57 e_59 e_68 (le_min x4_17) (le_max x4_17) (le_min v_67) (le_max v_67) (le_min v_26) (le_max v_26) (le_min v_33) (le_max v_33) (le_min v_50) (le_max v_50) (le_min v_52) (le_max v_52) (le_min v_54) (le_max v_54) (le_min v_56) (le_max v_56) (le_min v_58) (le_max v_58)) (o19_133 b_24 b_25 hn_23 e_28 e_29 c_30 e_34 e_51 e_53 e_55 e_57 e_59 e_68 (le_min x4_17) (le_max x4_17) (le_min v_67) (le_max v_67) (le_min v_26) (le_max v_26) (le_min v_33) (le_max v_33) (le_min v_50) (le_max v_50) (le_min v_52) (le_max v_52) (le_min v_54) (le_max v_54) (le_min v_56) (le_max v_56) (le_min v_58) (le_max v_58)) dX7_lookBack_80 (fun v_69 e_70 => ?_)
                    refine y_cmul (n := 4) C0 (o19_51 e_66) (o19_134 b_24 b_25 hn_23 e_28 e_29 c_30 e_34 e_51 e_53 e_55 e_57 e_59 e_68 e_70 (le_min v_69) (le_max v_69) (le_min x4_17) (le_max x4_17) (le_min v_26) (le_max v_26) (le_min v_33) (le_max v_33) (le_min v_50) (le_max v_50) (le_min v_52) (le_max v_52) (le_min v_54) (le_max v_54) (le_min v_56) (le_max v_56) (le_min v_58) (le_max v_58) (le_min v_67) (le_max v_67)) (o19_135 b_24 b_25 hn_23 e_28 e_29 c_30 e_34 e_51 e_53 e_55 e_57 e_59 e_68 e_70 (le_min v_69) (le_max v_69) (le_min x4_17) (le_max x4_17) (le_min v_26) (le_max v_26) (le_min v_33) (le_max v_33) (le_min v_50) (le_max v_50) (le_min v_52) (le_max v_52) (le_min v_54) (le_max v_54) (le_min v_56) (le_max v_56) (le_min v_58) (le_max v_58) (le_min v_67) (le_max v_67)) dX7_lookBack_81 (fun v_71 e_72 => ?_)
                    refine lv_iload C0.1 C0.2.1 dX7_lookBack_82 (lv_at hl 1 rfl) ?_
                    refine y_c1 (n := 1) C0 (by decide) dX7_lookBack_84 (fun v_73 e_74 => ?_)
                    refine y_sub C0 (o19_136 b_24 b_25 hn_23 e_28 e_29 c_30 e_34 e_51 e_53 e_55 e_57 e_59 e_68 e_70 e_72 e_74 (le_min x4_17) (le_max x4_17) (le_min v_73) (le_max v_73) (le_min v_26) (le_max v_26) (le_min v_33) (le_max v_33) (le_min v_50) (le_max v_50) (le_min v_52) (le_max v_52) (le_min v_54) (le_max v_54) (le_min v_56) (le_max v_56) (le_min v_58) (le_max v_58) (le_min v_67) (le_max v_67) (le_min v_69) (le_max v_69) (le_min v_71) (le_max v_71)) (o19_137 b_24 b_25 hn_23 e_28 e_29 c_30 e_34 e_51 e_53 e_55 e_57 e_59 e_68 e_70 e_72 e_74 (le_min x4_17) (le_max x4_17) (le_min v_73) (le_max v_73) (le_min v_26) (le_max v_26) (le_min v_33) (le_max v_33) (le_min v_50) (le_max v_50) (le_min v_52) (le_max v_52) (le_min v_54) (le_max v_54) (le_min v_56) (le_max v_56) (le_min v_58) (le_max v_58) (le_min v_67) (le_max v_67) (le_min v_69) (le_max v_69) (le_min v_71) (le_max v_71)) dX7_lookBack_85 (fun v_75 e_76 => ?_)
                    refine y_mulb (la := 0) (ha := 232) (lb := 0) (hb := 58) C0 (by decide) (o19_138 b_24 b_25 hn_23 e_28 e_29 c_30 e_34 e_51 e_53 e_55 e_57 e_59 e_68 e_70 e_72 e_74 e_76) (o19_139 b_24 b_25 hn_23 e_28 e_29 c_30 e_34 e_51 e_53 e_55 e_57 e_59 e_68 e_70 e_72 e_74 e_76) (by decide) (o19_140 b_24 b_25 hn_23 e_28 e_29 c_30 e_34 e_51 e_53 e_55 e_57 e_59 e_68 e_70 e_72 e_74 e_76) (o19_141 b_24 b_25 hn_23 e_28 e_29 c_30 e_34 e_51 e_53 e_55 e_57 e_59 e_68 e_70 e_72 e_74 e_76) (by decide) dX7_lookBack_86 (fun v_77 e_78 e_79 e_80 => ?_)
                    refine lv_istore (lv' := [(5, .int v_77), (4, .int x4_17), (0, .ref (ad 87)), (1, .int a1), (2, .int a2), (3, .int a3)]) C0.1 C0.2.1 dX7_lookBack_87 hl (by decide) rfl (fun ls hl => ?_)
                    refine y_c1 (n := 0) C0 (by decide) dX7_lookBack_89 (fun v_81 e_82 => ?_)
                    refine lv_istore (lv' := [(6, .int v_81), (5, .int v_77), (4, .int x4_17), (0, .ref (ad 87)), (1, .int a1), (2, .int a2), (3, .int a3)]) C0.1 C0.2.1 dX7_lookBack_90 hl (by decide) rfl (fun ls hl => ?_)
                    have lp_86 : ∀ (n_88 : Nat) (x6_83 : Int32) (H : Heap) (locs : List Loc) (ls : Array Slot) (ws_84 : va_W), 117 - x6_83.toInt < (n_88 : Int) → 0 ≤ x6_83.toInt → x6_83.toInt ≤ 117 → Wt G (SC tt) ad A s H locs ws_84 → Fr (SC tt) [4, 5, 18, 19, 20, 21, 26] ws_40 ws_84 → lv_has ls 9 [(6, .int x6_83), (5, .int v_77), (4, .int x4_17), (0, .ref (ad 87)), (1, .int a1), (2, .int a2), (3, .int a3)] → W p l e (rmd 5 0 0) s m args below meth c H locs 0 0 Q (F0 m 92 ls []) := by
                      intro n_88
                      induction n_88 with
                      | zero => intro x6_83 H locs ls ws_84 hn_89 b_90 b_91 h hF_85 hl; exact ((o19_142 b_90 b_91 hn_89)).elim
                      | succ n_88 ih_87 =>
                        intro x6_83 H locs ls ws_84 hn_89 b_90 b_91 h hF_85 hl
                        refine lv_iload C0.1 C0.2.1 dX7_lookBack_92 (lv_at hl 0 rfl) ?_
                        refine y_c1 (n := 2) C0 (by decide) dX7_lookBack_94 (fun v_92 e_93 => ?_)
                        refine lv_iload C0.1 C0.2.1 dX7_lookBack_95 (lv_at hl 2 rfl) ?_
                        refine y_cmul (n := 2) C0 (o19_90 e_93) (o19_143 b_24 b_25 hn_23 e_28 e_29 c_30 e_34 e_51 e_53 e_55 e_57 e_59 e_68 e_70 e_72 e_74 e_76 (le_min x4_17) (le_max x4_17) (le_min v_26) (le_max v_26) (le_min v_33) (le_max v_33) (le_min v_50) (le_max v_50) (le_min v_52) (le_max v_52) (le_min v_54) (le_max v_54) (le_min v_56) (le_max v_56) (le_min v_58) (le_max v_58) (le_min v_67) (le_max v_67) (le_min v_69) (le_max v_69) (le_min v_71) (le_max v_71) (le_min v_73) (le_max v_73) (le_min v_75) (le_max v_75)) (o19_144 b_24 b_25 hn_23 e_28 e_29 c_30 e_34 e_51 e_53 e_55 e_57 e_59 e_68 e_70 e_72 e_74 e_76 (le_min x4_17) (le_max x4_17) (le_min v_26) (le_max v_26) (le_min v_33) (le_max v_33) (le_min v_50) (le_max v_50) (le_min v_52) (le_max v_52) (le_min v_54) (le_max v_54) (le_min v_56) (le_max v_56) (le_min v_58) (le_max v_58) (le_min v_67) (le_max v_67) (le_min v_69) (le_max v_69) (le_min v_71) (le_max v_71) (le_min v_73) (le_max v_73) (le_min v_75) (le_max v_75)) dX7_lookBack_97 (fun v_94 e_95 => ?_)
                        refine y_c1 (n := 2) C0 (by decide) dX7_lookBack_98 (fun v_96 e_97 => ?_)
                        refine y_sub C0 (o19_145 b_24 b_25 hn_23 e_28 e_29 c_30 e_34 e_51 e_53 e_55 e_57 e_59 e_68 e_70 e_72 e_74 e_76 e_95 e_97 (le_min v_94) (le_max v_94) (le_min v_96) (le_max v_96) (le_min x4_17) (le_max x4_17) (le_min v_26) (le_max v_26) (le_min v_33) (le_max v_33) (le_min v_50) (le_max v_50) (le_min v_52) (le_max v_52) (le_min v_54) (le_max v_54) (le_min v_56) (le_max v_56) (le_min v_58) (le_max v_58) (le_min v_67) (le_max v_67) (le_min v_69) (le_max v_69) (le_min v_71) (le_max v_71) (le_min v_73) (le_max v_73) (le_min v_75) (le_max v_75)) (o19_146 b_24 b_25 hn_23 e_28 e_29 c_30 e_34 e_51 e_53 e_55 e_57 e_59 e_68 e_70 e_72 e_74 e_76 e_95 e_97 (le_min v_94) (le_max v_94) (le_min v_96) (le_max v_96) (le_min x4_17) (le_max x4_17) (le_min v_26) (le_max v_26) (le_min v_33) (le_max v_33) (le_min v_50) (le_max v_50) (le_min v_52) (le_max v_52) (le_min v_54) (le_max v_54) (le_min v_56) (le_max v_56) (le_min v_58) (le_max v_58) (le_min v_67) (le_max v_67) (le_min v_69) (le_max v_69) (le_min v_71) (le_max v_71) (le_min v_73) (le_max v_73) (le_min v_75) (le_max v_75)) dX7_lookBack_99 (fun v_98 e_99 => ?_)
                        refine y_icmp_gt (tgt := 190) C0 dX7_lookBack_100 (by decide) (fun c_100 => ?_) (fun c_100 => ?_)
                        · -- 100
                          refine lv_aload_n C0.1 C0.2.1 dX7_lookBack_190 rfl (lv_at hl 3 rfl) ?_
                          refine lv_iload C0.1 C0.2.1 dX7_lookBack_191 (lv_at hl 2 rfl) ?_
                          refine y_cv h (y_rV (As := [.int x4_17]) (rest := []) C0 hZ h (c_X7_thin l G Z ad _ h.2 x4_17 (o19_147 b_24 b_25 hn_23 e_28 e_29 c_30 e_34 e_51 e_53 e_55 e_57 e_59 e_68 e_70 e_72 e_74 e_76 b_90 b_91 hn_89 e_95 e_97 e_99 c_100) (o19_148 b_24 b_25 hn_23 e_28 e_29 c_30 e_34 e_51 e_53 e_55 e_57 e_59 e_68 e_70 e_72 e_74 e_76 b_90 b_91 hn_89 e_95 e_97 e_99 c_100)) k_X7_thin q_1173 q_43 q_1171 kSC_87 rfl rfl rfl hl.1 rfl rfl (Nat.le_of_ble_eq_true rfl) dX7_lookBack_193 ⟨Nat.le_of_ble_eq_true rfl, Nat.le_of_ble_eq_true rfl⟩ ⟨Nat.le_of_ble_eq_true rfl, Nat.le_of_ble_eq_true rfl⟩) (fun H locs ws_101 h u_102 p_103 => ?_)
                          refine y_inc (kp := 2) (n := 1) (fun v_104 => [(4, .int v_104), (6, .int x6_83), (5, .int v_77), (0, .ref (ad 87)), (1, .int a1), (2, .int a2), (3, .int a3)]) C0 hl rfl (by decide) (by decide) (fun _ => rfl) (o19_149 b_24 b_25 hn_23 e_28 e_29 c_30 e_34 e_51 e_53 e_55 e_57 e_59 e_68 e_70 e_72 e_74 e_76 b_90 b_91 hn_89 e_95 e_97 e_99 c_100 (le_min x4_17) (le_max x4_17) (le_min v_26) (le_max v_26) (le_min v_33) (le_max v_33) (le_min v_50) (le_max v_50) (le_min v_52) (le_max v_52) (le_min v_54) (le_max v_54) (le_min v_56) (le_max v_56) (le_min v_58) (le_max v_58) (le_min v_67) (le_max v_67) (le_min v_69) (le_max v_69) (le_min v_71) (le_max v_71) (le_min v_73) (le_max v_73) (le_min v_75) (le_max v_75) (le_min x6_83) (le_max x6_83) (le_min v_94) (le_max v_94) (le_min v_96) (le_max v_96) (le_min v_98) (le_max v_98)) (o19_150 b_24 b_25 hn_23 e_28 e_29 c_30 e_34 e_51 e_53 e_55 e_57 e_59 e_68 e_70 e_72 e_74 e_76 b_90 b_91 hn_89 e_95 e_97 e_99 c_100 (le_min x4_17) (le_max x4_17) (le_min v_26) (le_max v_26) (le_min v_33) (le_max v_33) (le_min v_50) (le_max v_50) (le_min v_52) (le_max v_52) (le_min v_54) (le_max v_54) (le_min v_56) (le_max v_56) (le_min v_58) (le_max v_58) (le_min v_67) (le_max v_67) (le_min v_69) (le_max v_69) (le_min v_71) (le_max v_71) (le_min v_73) (le_max v_73) (le_min v_75) (le_max v_75) (le_min x6_83) (le_max x6_83) (le_min v_94) (le_max v_94) (le_min v_96) (le_max v_96) (le_min v_98) (le_max v_98)) dX7_lookBack_196 (fun v_104 ls e_105 hl => ?_)
                          refine lv_goto (tgt := 28) C0.1 C0.2.1 dX7_lookBack_199 (by decide) ?_
                          exact ih_21 v_104 _ _ _ _ (o19_151 b_24 b_25 hn_23 e_28 e_29 c_30 e_34 e_51 e_53 e_55 e_57 e_59 e_68 e_70 e_72 e_74 e_76 b_90 b_91 hn_89 e_95 e_97 e_99 c_100 e_105) (o19_152 b_24 b_25 hn_23 e_28 e_29 c_30 e_34 e_51 e_53 e_55 e_57 e_59 e_68 e_70 e_72 e_74 e_76 b_90 b_91 hn_89 e_95 e_97 e_99 c_100 e_105) (o19_153 b_24 b_25 hn_23 e_28 e_29 c_30 e_34 e_51 e_53 e_55 e_57 e_59 e_68 e_70 e_72 e_74 e_76 b_90 b_91 hn_89 e_95 e_97 e_99 c_100 e_105) h (Fr.tr (Fr.tr (Fr.tr hF_19 (Fr.mono hF_41 (by decide))) hF_85) (Fr.mono u_102 (by decide))) (lv_sub hl [0, 3, 4, 5, 6] rfl)
                        · -- 100
                          refine lv_iload C0.1 C0.2.1 dX7_lookBack_103 (lv_at hl 0 rfl) ?_
                          refine lv_iload_n C0.1 C0.2.1 dX7_lookBack_105 rfl (lv_at hl 6 rfl) ?_
                          refine y_icmp_gt (tgt := 190) C0 dX7_lookBack_106 (by decide) (fun c_106 => ?_) (fun c_106 => ?_)
                          · -- 106
                            refine lv_aload_n C0.1 C0.2.1 dX7_lookBack_190 rfl (lv_at hl 3 rfl) ?_
                            refine lv_iload C0.1 C0.2.1 dX7_lookBack_191 (lv_at hl 2 rfl) ?_
                            refine y_cv h (y_rV (As := [.int x4_17]) (rest := []) C0 hZ h (c_X7_thin l G Z ad _ h.2 x4_17 (o19_154 b_24 b_25 hn_23 e_28 e_29 c_30 e_34 e_51 e_53 e_55 e_57 e_59 e_68 e_70 e_72 e_74 e_76 b_90 b_91 hn_89 e_95 e_97 e_99 c_100 c_106) (o19_155 b_24 b_25 hn_23 e_28 e_29 c_30 e_34 e_51 e_53 e_55 e_57 e_59 e_68 e_70 e_72 e_74 e_76 b_90 b_91 hn_89 e_95 e_97 e_99 c_100 c_106)) k_X7_thin q_1173 q_43 q_1171 kSC_87 rfl rfl rfl hl.1 rfl rfl (Nat.le_of_ble_eq_true rfl) dX7_lookBack_193 ⟨Nat.le_of_ble_eq_true rfl, Nat.le_of_ble_eq_true rfl⟩ ⟨Nat.le_of_ble_eq_true rfl, Nat.le_of_ble_eq_true rfl⟩) (fun H locs ws_107 h u_108 p_109 => ?_)
                            refine y_inc (kp := 2) (n := 1) (fun v_110 => [(4, .int v_110), (6, .int x6_83), (5, .int v_77), (0, .ref (ad 87)), (1, .int a1), (2, .int a2), (3, .int a3)]) C0 hl rfl (by decide) (by decide) (fun _ => rfl) (o19_156 b_24 b_25 hn_23 e_28 e_29 c_30 e_34 e_51 e_53 e_55 e_57 e_59 e_68 e_70 e_72 e_74 e_76 b_90 b_91 hn_89 e_95 e_97 e_99 c_100 c_106 (le_min x4_17) (le_max x4_17) (le_min v_26) (le_max v_26) (le_min v_33) (le_max v_33) (le_min v_50) (le_max v_50) (le_min v_52) (le_max v_52) (le_min v_54) (le_max v_54) (le_min v_56) (le_max v_56) (le_min v_58) (le_max v_58) (le_min v_67) (le_max v_67) (le_min v_69) (le_max v_69) (le_min v_71) (le_max v_71) (le_min v_73) (le_max v_73) (le_min v_75) (le_max v_75) (le_min x6_83) (le_max x6_83) (le_min v_94) (le_max v_94) (le_min v_96) (le_max v_96) (le_min v_98) (le_max v_98) (le_min a3) (le_max a3)) (o19_157 b_24 b_25 hn_23 e_28 e_29 c_30 e_34 e_51 e_53 e_55 e_57 e_59 e_68 e_70 e_72 e_74 e_76 b_90 b_91 hn_89 e_95 e_97 e_99 c_100 c_106 (le_min x4_17) (le_max x4_17) (le_min v_26) (le_max v_26) (le_min v_33) (le_max v_33) (le_min v_50) (le_max v_50) (le_min v_52) (le_max v_52) (le_min v_54) (le_max v_54) (le_min v_56) (le_max v_56) (le_min v_58) (le_max v_58) (le_min v_67) (le_max v_67) (le_min v_69) (le_max v_69) (le_min v_71) (le_max v_71) (le_min v_73) (le_max v_73) (le_min v_75) (le_max v_75) (le_min x6_83) (le_max x6_83) (le_min v_94) (le_max v_94) (le_min v_96) (le_max v_96) (le_min v_98) (le_max v_98) (le_min a3) (le_max a3)) dX7_lookBack_196 (fun v_110 ls e_111 hl => ?_)
                            refine lv_goto (tgt := 28) C0.1 C0.2.1 dX7_lookBack_199 (by decide) ?_
                            exact ih_21 v_110 _ _ _ _ (o19_158 b_24 b_25 hn_23 e_28 e_29 c_30 e_34 e_51 e_53 e_55 e_57 e_59 e_68 e_70 e_72 e_74 e_76 b_90 b_91 hn_89 e_95 e_97 e_99 c_100 c_106 e_111) (o19_159 b_24 b_25 hn_23 e_28 e_29 c_30 e_34 e_51 e_53 e_55 e_57 e_59 e_68 e_70 e_72 e_74 e_76 b_90 b_91 hn_89 e_95 e_97 e_99 c_100 c_106 e_111) (o19_160 b_24 b_25 hn_23 e_28 e_29 c_30 e_34 e_51 e_53 e_55 e_57 e_59 e_68 e_70 e_72 e_74 e_76 b_90 b_91 hn_89 e_95 e_97 e_99 c_100 c_106 e_111) h (Fr.tr (Fr.tr (Fr.tr hF_19 (Fr.mono hF_41 (by decide))) hF_85) (Fr.mono u_108 (by decide))) (lv_sub hl [0, 3, 4, 5, 6] rfl)
                          · -- 106
                            refine y_c1 (n := 0) C0 (by decide) dX7_lookBack_109 (fun v_112 e_113 => ?_)
                            refine lv_istore (lv' := [(7, .int v_112), (6, .int x6_83), (5, .int v_77), (4, .int x4_17), (0, .ref (ad 87)), (1, .int a1), (2, .int a2), (3, .int a3)]) C0.1 C0.2.1 dX7_lookBack_110 hl (by decide) rfl (fun ls hl => ?_)
                            have lp_117 : ∀ (n_119 : Nat) (x7_114 : Int32) (H : Heap) (locs : List Loc) (ls : Array Slot) (ws_115 : va_W), 4 - x7_114.toInt < (n_119 : Int) → 0 ≤ x7_114.toInt → x7_114.toInt ≤ 4 → Wt G (SC tt) ad A s H locs ws_115 → Fr (SC tt) [4, 5, 18, 19, 20, 21, 26] ws_84 ws_115 → lv_has ls 9 [(7, .int x7_114), (6, .int x6_83), (5, .int v_77), (4, .int x4_17), (0, .ref (ad 87)), (1, .int a1), (2, .int a2), (3, .int a3)] → W p l e (rmd 5 0 0) s m args below meth c H locs 0 0 Q (F0 m 112 ls []) := by
                              intro n_119
                              induction n_119 with
                              | zero => intro x7_114 H locs ls ws_115 hn_120 b_121 b_122 h hF_116 hl; exact ((o19_50 b_121 b_122 hn_120)).elim
                              | succ n_119 ih_118 =>
                                intro x7_114 H locs ls ws_115 hn_120 b_121 b_122 h hF_116 hl
                                refine lv_iload C0.1 C0.2.1 dX7_lookBack_112 (lv_at hl 0 rfl) ?_
                                refine y_c1 (n := 4) C0 (by decide) dX7_lookBack_114 (fun v_123 e_124 => ?_)
                                refine y_icmp_ge (tgt := 184) C0 dX7_lookBack_115 (by decide) (fun c_125 => ?_) (fun c_125 => ?_)
                                · -- 115
                                  refine y_inc (kp := 1) (n := 1) (fun v_126 => [(6, .int v_126), (7, .int x7_114), (5, .int v_77), (4, .int x4_17), (0, .ref (ad 87)), (1, .int a1), (2, .int a2), (3, .int a3)]) C0 hl rfl (by decide) (by decide) (fun _ => rfl) (o19_161 b_24 b_25 hn_23 e_28 e_29 c_30 e_34 e_51 e_53 e_55 e_57 e_59 e_68 e_70 e_72 e_74 e_76 b_90 b_91 hn_89 e_95 e_97 e_99 c_100 c_106 (le_min x6_83) (le_max x6_83) (le_min x4_17) (le_max x4_17) (le_min v_26) (le_max v_26) (le_min v_33) (le_max v_33) (le_min v_50) (le_max v_50) (le_min v_52) (le_max v_52) (le_min v_54) (le_max v_54) (le_min v_56) (le_max v_56) (le_min v_58) (le_max v_58) (le_min v_67) (le_max v_67) (le_min v_69) (le_max v_69) (le_min v_71) (le_max v_71) (le_min v_73) (le_max v_73) (le_min v_75) (le_max v_75) (le_min v_94) (le_max v_94) (le_min v_96) (le_max v_96) (le_min v_98) (le_max v_98) (le_min a3) (le_max a3)) (o19_162 b_24 b_25 hn_23 e_28 e_29 c_30 e_34 e_51 e_53 e_55 e_57 e_59 e_68 e_70 e_72 e_74 e_76 b_90 b_91 hn_89 e_95 e_97 e_99 c_100 c_106 (le_min x6_83) (le_max x6_83) (le_min x4_17) (le_max x4_17) (le_min v_26) (le_max v_26) (le_min v_33) (le_max v_33) (le_min v_50) (le_max v_50) (le_min v_52) (le_max v_52) (le_min v_54) (le_max v_54) (le_min v_56) (le_max v_56) (le_min v_58) (le_max v_58) (le_min v_67) (le_max v_67) (le_min v_69) (le_max v_69) (le_min v_71) (le_max v_71) (le_min v_73) (le_max v_73) (le_min v_75) (le_max v_75) (le_min v_94) (le_max v_94) (le_min v_96) (le_max v_96) (le_min v_98) (le_max v_98) (le_min a3) (le_max a3)) dX7_lookBack_184 (fun v_126 ls e_127 hl => ?_)
                                  refine lv_goto (tgt := 92) C0.1 C0.2.1 dX7_lookBack_187 (by decide) ?_
                                  exact ih_87 v_126 _ _ _ _ (o19_163 b_24 b_25 hn_23 e_28 e_29 c_30 e_34 e_51 e_53 e_55 e_57 e_59 e_68 e_70 e_72 e_74 e_76 b_90 b_91 hn_89 e_95 e_97 e_99 c_100 c_106 e_127) (o19_164 b_24 b_25 hn_23 e_28 e_29 c_30 e_34 e_51 e_53 e_55 e_57 e_59 e_68 e_70 e_72 e_74 e_76 b_90 b_91 hn_89 e_95 e_97 e_99 c_100 c_106 e_127) (o19_165 b_24 b_25 hn_23 e_28 e_29 c_30 e_34 e_51 e_53 e_55 e_57 e_59 e_68 e_70 e_72 e_74 e_76 b_90 b_91 hn_89 e_95 e_97 e_99 c_100 c_106 e_127) h (Fr.tr hF_85 hF_116) (lv_sub hl [0, 2, 3, 4, 5, 6, 7] rfl)
                                · -- 115
                                  refine lv_aload_n C0.1 C0.2.1 dX7_lookBack_118 rfl (lv_at hl 4 rfl) ?_
                                  refine tg_X7_city C0 h kSC_87 q_342 dX7_lookBack_119 ?_
                                  refine lv_aload_n C0.1 C0.2.1 dX7_lookBack_122 rfl (lv_at hl 4 rfl) ?_
                                  refine tg_X7_back C0 h kSC_87 q_345 dX7_lookBack_123 ?_
                                  refine lv_iload C0.1 C0.2.1 dX7_lookBack_126 (lv_at hl 2 rfl) ?_
                                  refine y_c1 (n := 4) C0 (by decide) dX7_lookBack_128 (fun v_128 e_129 => ?_)
                                  refine lv_iload C0.1 C0.2.1 dX7_lookBack_129 (lv_at hl 1 rfl) ?_
                                  refine y_cmul (n := 4) C0 (o19_51 e_129) (o19_166 b_24 b_25 hn_23 e_28 e_29 c_30 e_34 e_51 e_53 e_55 e_57 e_59 e_68 e_70 e_72 e_74 e_76 b_90 b_91 hn_89 e_95 e_97 e_99 c_100 c_106 (le_min x6_83) (le_max x6_83) (le_min x4_17) (le_max x4_17) (le_min v_26) (le_max v_26) (le_min v_33) (le_max v_33) (le_min v_50) (le_max v_50) (le_min v_52) (le_max v_52) (le_min v_54) (le_max v_54) (le_min v_56) (le_max v_56) (le_min v_58) (le_max v_58) (le_min v_67) (le_max v_67) (le_min v_69) (le_max v_69) (le_min v_71) (le_max v_71) (le_min v_73) (le_max v_73) (le_min v_75) (le_max v_75) (le_min v_94) (le_max v_94) (le_min v_96) (le_max v_96) (le_min v_98) (le_max v_98) (le_min a3) (le_max a3)) (o19_167 b_24 b_25 hn_23 e_28 e_29 c_30 e_34 e_51 e_53 e_55 e_57 e_59 e_68 e_70 e_72 e_74 e_76 b_90 b_91 hn_89 e_95 e_97 e_99 c_100 c_106 (le_min x6_83) (le_max x6_83) (le_min x4_17) (le_max x4_17) (le_min v_26) (le_max v_26) (le_min v_33) (le_max v_33) (le_min v_50) (le_max v_50) (le_min v_52) (le_max v_52) (le_min v_54) (le_max v_54) (le_min v_56) (le_max v_56) (le_min v_58) (le_max v_58) (le_min v_67) (le_max v_67) (le_min v_69) (le_max v_69) (le_min v_71) (le_max v_71) (le_min v_73) (le_max v_73) (le_min v_75) (le_max v_75) (le_min v_94) (le_max v_94) (le_min v_96) (le_max v_96) (le_min v_98) (le_max v_98) (le_min a3) (le_max a3)) dX7_lookBack_131 (fun v_130 e_131 => ?_)
                                  refine y_add C0 (o19_168 b_24 b_25 hn_23 e_28 e_29 c_30 e_34 e_51 e_53 e_55 e_57 e_59 e_68 e_70 e_72 e_74 e_76 e_79 e_80 b_90 b_91 hn_89 e_95 e_97 e_99 c_100 c_106 e_131 (le_min v_77) (le_max v_77) (le_min v_130) (le_max v_130) (le_min x4_17) (le_max x4_17) (le_min v_26) (le_max v_26) (le_min v_33) (le_max v_33) (le_min v_50) (le_max v_50) (le_min v_52) (le_max v_52) (le_min v_54) (le_max v_54) (le_min v_56) (le_max v_56) (le_min v_58) (le_max v_58) (le_min v_67) (le_max v_67) (le_min v_69) (le_max v_69) (le_min v_71) (le_max v_71) (le_min v_73) (le_max v_73) (le_min v_75) (le_max v_75) (le_min x6_83) (le_max x6_83) (le_min v_94) (le_max v_94) (le_min v_96) (le_max v_96) (le_min v_98) (le_max v_98) (le_min a3) (le_max a3)) (o19_169 b_24 b_25 hn_23 e_28 e_29 c_30 e_34 e_51 e_53 e_55 e_57 e_59 e_68 e_70 e_72 e_74 e_76 e_79 e_80 b_90 b_91 hn_89 e_95 e_97 e_99 c_100 c_106 e_131 (le_min v_77) (le_max v_77) (le_min v_130) (le_max v_130) (le_min x4_17) (le_max x4_17) (le_min v_26) (le_max v_26) (le_min v_33) (le_max v_33) (le_min v_50) (le_max v_50) (le_min v_52) (le_max v_52) (le_min v_54) (le_max v_54) (le_min v_56) (le_max v_56) (le_min v_58) (le_max v_58) (le_min v_67) (le_max v_67) (le_min v_69) (le_max v_69) (le_min v_71) (le_max v_71) (le_min v_73) (le_max v_73) (le_min v_75) (le_max v_75) (le_min x6_83) (le_max x6_83) (le_min v_94) (le_max v_94) (le_min v_96) (le_max v_96) (le_min v_98) (le_max v_98) (le_min a3) (le_max a3)) dX7_lookBack_132 (fun v_132 e_133 => ?_)
                                  refine lv_iload C0.1 C0.2.1 dX7_lookBack_133 (lv_at hl 0 rfl) ?_
                                  refine y_add C0 (o19_170 b_24 b_25 hn_23 e_28 e_29 c_30 e_34 e_51 e_53 e_55 e_57 e_59 e_68 e_70 e_72 e_74 e_76 e_79 e_80 b_90 b_91 hn_89 e_95 e_97 e_99 c_100 c_106 b_121 b_122 hn_120 e_124 c_125 e_131 e_133 (le_min v_132) (le_max v_132) (le_min x7_114) (le_max x7_114) (le_min x4_17) (le_max x4_17) (le_min v_26) (le_max v_26) (le_min v_33) (le_max v_33) (le_min v_50) (le_max v_50) (le_min v_52) (le_max v_52) (le_min v_54) (le_max v_54) (le_min v_56) (le_max v_56) (le_min v_58) (le_max v_58) (le_min v_67) (le_max v_67) (le_min v_69) (le_max v_69) (le_min v_71) (le_max v_71) (le_min v_73) (le_max v_73) (le_min v_75) (le_max v_75) (le_min v_77) (le_max v_77) (le_min x6_83) (le_max x6_83) (le_min v_94) (le_max v_94) (le_min v_96) (le_max v_96) (le_min v_98) (le_max v_98) (le_min a3) (le_max a3) (le_min v_123) (le_max v_123) (le_min v_130) (le_max v_130)) (o19_171 b_24 b_25 hn_23 e_28 e_29 c_30 e_34 e_51 e_53 e_55 e_57 e_59 e_68 e_70 e_72 e_74 e_76 e_79 e_80 b_90 b_91 hn_89 e_95 e_97 e_99 c_100 c_106 b_121 b_122 hn_120 e_124 c_125 e_131 e_133 (le_min v_132) (le_max v_132) (le_min x7_114) (le_max x7_114) (le_min x4_17) (le_max x4_17) (le_min v_26) (le_max v_26) (le_min v_33) (le_max v_33) (le_min v_50) (le_max v_50) (le_min v_52) (le_max v_52) (le_min v_54) (le_max v_54) (le_min v_56) (le_max v_56) (le_min v_58) (le_max v_58) (le_min v_67) (le_max v_67) (le_min v_69) (le_max v_69) (le_min v_71) (le_max v_71) (le_min v_73) (le_max v_73) (le_min v_75) (le_max v_75) (le_min v_77) (le_max v_77) (le_min x6_83) (le_max x6_83) (le_min v_94) (le_max v_94) (le_min v_96) (le_max v_96) (le_min v_98) (le_max v_98) (le_min a3) (le_max a3) (le_min v_123) (le_max v_123) (le_min v_130) (le_max v_130)) dX7_lookBack_135 (fun v_134 e_135 => ?_)
                                  refine y_iald C0 h kSC_88 rfl (by decide) (o19_172 b_24 b_25 hn_23 e_28 e_29 c_30 e_34 e_51 e_53 e_55 e_57 e_59 e_68 e_70 e_72 e_74 e_76 e_79 e_80 b_90 b_91 hn_89 e_95 e_97 e_99 c_100 c_106 b_121 b_122 hn_120 e_124 c_125 e_131 e_133 e_135) (o19_173 b_24 b_25 hn_23 e_28 e_29 c_30 e_34 e_51 e_53 e_55 e_57 e_59 e_68 e_70 e_72 e_74 e_76 e_79 e_80 b_90 b_91 hn_89 e_95 e_97 e_99 c_100 c_106 b_121 b_122 hn_120 e_124 c_125 e_131 e_133 e_135) dX7_lookBack_136 (fun v_136 e_137 e_138 e_139 => ?_)
                                  refine lv_iload C0.1 C0.2.1 dX7_lookBack_137 (lv_at hl 0 rfl) ?_
                                  refine y_ci h (y_rV (As := [.int v_136, .int x7_114]) (rest := []) C0 hZ h (c_X0_movedBack l G Z ad _ h.2 1 kSC_1 v_136 x7_114 (o19_174 b_24 b_25 hn_23 e_28 e_29 c_30 e_34 e_51 e_53 e_55 e_57 e_59 e_68 e_70 e_72 e_74 e_76 e_79 e_80 b_90 b_91 hn_89 e_95 e_97 e_99 c_100 c_106 b_121 b_122 hn_120 e_124 c_125 e_131 e_133 e_135) (o19_175 b_24 b_25 hn_23 e_28 e_29 c_30 e_34 e_51 e_53 e_55 e_57 e_59 e_68 e_70 e_72 e_74 e_76 e_79 e_80 b_90 b_91 hn_89 e_95 e_97 e_99 c_100 c_106 b_121 b_122 hn_120 e_124 c_125 e_131 e_133 e_135)) k_X0_movedBack q_1162 q_1163 q_1161 kSC_1 rfl rfl rfl hl.1 rfl rfl (Nat.le_of_ble_eq_true rfl) dX7_lookBack_139 ⟨Nat.le_of_ble_eq_true rfl, Nat.le_of_ble_eq_true rfl⟩ ⟨Nat.le_of_ble_eq_true rfl, Nat.le_of_ble_eq_true rfl⟩) (fun r_143 H locs ws_140 h u_141 p_142 => ?_)
                                  refine lv_istore (lv' := [(8, .int r_143), (7, .int x7_114), (6, .int x6_83), (5, .int v_77), (4, .int x4_17), (0, .ref (ad 87)), (1, .int a1), (2, .int a2), (3, .int a3)]) C0.1 C0.2.1 dX7_lookBack_142 hl (by decide) rfl (fun ls hl => ?_)
                                  refine lv_iload C0.1 C0.2.1 dX7_lookBack_144 (lv_at hl 0 rfl) ?_
                                  refine y_if_eq (tgt := 178) C0 dX7_lookBack_146 (by decide) (fun c_144 => ?_) (fun c_144 => ?_)
                                  · -- 146
                                    refine y_inc (kp := 1) (n := 1) (fun v_145 => [(7, .int v_145), (8, .int r_143), (6, .int x6_83), (5, .int v_77), (4, .int x4_17), (0, .ref (ad 87)), (1, .int a1), (2, .int a2), (3, .int a3)]) C0 hl rfl (by decide) (by decide) (fun _ => rfl) (o19_176 b_24 b_25 hn_23 e_28 e_29 c_30 e_34 e_51 e_53 e_55 e_57 e_59 e_68 e_70 e_72 e_74 e_76 e_79 e_80 b_90 b_91 hn_89 e_95 e_97 e_99 c_100 c_106 b_121 b_122 hn_120 e_124 c_125 e_131 e_133 e_135 (le_min x7_114) (le_max x7_114) (le_min x4_17) (le_max x4_17) (le_min v_26) (le_max v_26) (le_min v_33) (le_max v_33) (le_min v_50) (le_max v_50) (le_min v_52) (le_max v_52) (le_min v_54) (le_max v_54) (le_min v_56) (le_max v_56) (le_min v_58) (le_max v_58) (le_min v_67) (le_max v_67) (le_min v_69) (le_max v_69) (le_min v_71) (le_max v_71) (le_min v_73) (le_max v_73) (le_min v_75) (le_max v_75) (le_min v_77) (le_max v_77) (le_min x6_83) (le_max x6_83) (le_min v_94) (le_max v_94) (le_min v_96) (le_max v_96) (le_min v_98) (le_max v_98) (le_min a3) (le_max a3) (le_min v_123) (le_max v_123) (le_min v_130) (le_max v_130) (le_min v_132) (le_max v_132) (le_min v_134) (le_max v_134)) (o19_177 b_24 b_25 hn_23 e_28 e_29 c_30 e_34 e_51 e_53 e_55 e_57 e_59 e_68 e_70 e_72 e_74 e_76 e_79 e_80 b_90 b_91 hn_89 e_95 e_97 e_99 c_100 c_106 b_121 b_122 hn_120 e_124 c_125 e_131 e_133 e_135 (le_min x7_114) (le_max x7_114) (le_min x4_17) (le_max x4_17) (le_min v_26) (le_max v_26) (le_min v_33) (le_max v_33) (le_min v_50) (le_max v_50) (le_min v_52) (le_max v_52) (le_min v_54) (le_max v_54) (le_min v_56) (le_max v_56) (le_min v_58) (le_max v_58) (le_min v_67) (le_max v_67) (le_min v_69) (le_max v_69) (le_min v_71) (le_max v_71) (le_min v_73) (le_max v_73) (le_min v_75) (le_max v_75) (le_min v_77) (le_max v_77) (le_min x6_83) (le_max x6_83) (le_min v_94) (le_max v_94) (le_min v_96) (le_max v_96) (le_min v_98) (le_max v_98) (le_min a3) (le_max a3) (le_min v_123) (le_max v_123) (le_min v_130) (le_max v_130) (le_min v_132) (le_max v_132) (le_min v_134) (le_max v_134)) dX7_lookBack_178 (fun v_145 ls e_146 hl => ?_)
                                    refine lv_goto (tgt := 112) C0.1 C0.2.1 dX7_lookBack_181 (by decide) ?_
                                    exact ih_118 v_145 _ _ _ _ (o19_178 b_24 b_25 hn_23 e_28 e_29 c_30 e_34 e_51 e_53 e_55 e_57 e_59 e_68 e_70 e_72 e_74 e_76 e_79 e_80 b_90 b_91 hn_89 e_95 e_97 e_99 c_100 c_106 b_121 b_122 hn_120 e_124 c_125 e_131 e_133 e_135 e_146) (o19_179 b_24 b_25 hn_23 e_28 e_29 c_30 e_34 e_51 e_53 e_55 e_57 e_59 e_68 e_70 e_72 e_74 e_76 e_79 e_80 b_90 b_91 hn_89 e_95 e_97 e_99 c_100 c_106 b_121 b_122 hn_120 e_124 c_125 e_131 e_133 e_135 e_146) (o19_180 b_24 b_25 hn_23 e_28 e_29 c_30 e_34 e_51 e_53 e_55 e_57 e_59 e_68 e_70 e_72 e_74 e_76 e_79 e_80 b_90 b_91 hn_89 e_95 e_97 e_99 c_100 c_106 b_121 b_122 hn_120 e_124 c_125 e_131 e_133 e_135 e_146) h (Fr.tr hF_116 (Fr.mono u_141 (by decide))) (lv_sub hl [0, 2, 3, 4, 5, 6, 7, 8] rfl)
                                  · -- 146
                                    refine lv_aload_n C0.1 C0.2.1 dX7_lookBack_149 rfl (lv_at hl 5 rfl) ?_
                                    refine lv_iload_n C0.1 C0.2.1 dX7_lookBack_150 rfl (lv_at hl 6 rfl) ?_
                                    refine lv_aload_n C0.1 C0.2.1 dX7_lookBack_151 rfl (lv_at hl 5 rfl) ?_
                                    refine tg_X7_length C0 h kSC_87 q_347 dX7_lookBack_152 (fun v_147 e_148 e_149 e_150 => ?_)
                                    have q_151 : v_147.toInt = v_26.toInt := congrArg Int32.toInt (e_148.symm.trans (Eq.trans (Eq.trans (Fr.fI u_141 kSC_87 (by decide)) (Eq.trans (Fr.fI hF_116 kSC_87 (by decide)) (Eq.trans (Fr.fI hF_85 kSC_87 (by decide)) (Fr.fI hF_41 kSC_87 (by decide))))) e_27))
                                    refine y_add C0 (o19_181 l1 u1 b_24 b_25 hn_23 e_28 e_29 c_30 e_34 e_51 e_53 e_55 e_57 e_59 e_68 e_70 e_72 e_74 e_76 e_79 e_80 b_90 b_91 hn_89 e_95 e_97 e_99 c_100 c_106 b_121 b_122 hn_120 c_125 e_131 e_133 e_135 e_149 e_150 q_151 (le_min a1) (le_max a1) (le_min v_147) (le_max v_147) (le_min x4_17) (le_max x4_17) (le_min v_26) (le_max v_26) (le_min v_33) (le_max v_33) (le_min v_50) (le_max v_50) (le_min v_52) (le_max v_52) (le_min v_54) (le_max v_54) (le_min v_56) (le_max v_56) (le_min v_58) (le_max v_58) (le_min v_67) (le_max v_67) (le_min v_69) (le_max v_69) (le_min v_71) (le_max v_71) (le_min v_73) (le_max v_73) (le_min v_75) (le_max v_75) (le_min v_77) (le_max v_77) (le_min x6_83) (le_max x6_83) (le_min v_94) (le_max v_94) (le_min v_96) (le_max v_96) (le_min v_98) (le_max v_98) (le_min a3) (le_max a3) (le_min x7_114) (le_max x7_114) (le_min v_123) (le_max v_123) (le_min v_130) (le_max v_130) (le_min v_132) (le_max v_132) (le_min v_134) (le_max v_134)) (o19_182 l1 u1 b_24 b_25 hn_23 e_28 e_29 c_30 e_34 e_51 e_53 e_55 e_57 e_59 e_68 e_70 e_72 e_74 e_76 e_79 e_80 b_90 b_91 hn_89 e_95 e_97 e_99 c_100 c_106 b_121 b_122 hn_120 c_125 e_131 e_133 e_135 e_149 e_150 q_151 (le_min a1) (le_max a1) (le_min v_147) (le_max v_147) (le_min x4_17) (le_max x4_17) (le_min v_26) (le_max v_26) (le_min v_33) (le_max v_33) (le_min v_50) (le_max v_50) (le_min v_52) (le_max v_52) (le_min v_54) (le_max v_54) (le_min v_56) (le_max v_56) (le_min v_58) (le_max v_58) (le_min v_67) (le_max v_67) (le_min v_69) (le_max v_69) (le_min v_71) (le_max v_71) (le_min v_73) (le_max v_73) (le_min v_75) (le_max v_75) (le_min v_77) (le_max v_77) (le_min x6_83) (le_max x6_83) (le_min v_94) (le_max v_94) (le_min v_96) (le_max v_96) (le_min v_98) (le_max v_98) (le_min a3) (le_max a3) (le_min x7_114) (le_max x7_114) (le_min v_123) (le_max v_123) (le_min v_130) (le_max v_130) (le_min v_132) (le_max v_132) (le_min v_134) (le_max v_134)) dX7_lookBack_155 (fun v_152 e_153 => ?_)
                                    refine lv_iload C0.1 C0.2.1 dX7_lookBack_156 (lv_at hl 4 rfl) ?_
                                    refine y_sub C0 (o19_183 l1 u1 b_24 b_25 hn_23 e_28 e_29 c_30 e_34 e_51 e_53 e_55 e_57 e_59 e_68 e_70 e_72 e_74 e_76 e_79 e_80 b_90 b_91 hn_89 e_95 e_97 e_99 c_100 c_106 b_121 b_122 hn_120 e_124 c_125 e_131 e_133 e_135 e_149 e_150 q_151 e_153 (le_min v_152) (le_max v_152) (le_min x4_17) (le_max x4_17) (le_min a1) (le_max a1) (le_min v_26) (le_max v_26) (le_min v_33) (le_max v_33) (le_min v_50) (le_max v_50) (le_min v_52) (le_max v_52) (le_min v_54) (le_max v_54) (le_min v_56) (le_max v_56) (le_min v_58) (le_max v_58) (le_min v_67) (le_max v_67) (le_min v_69) (le_max v_69) (le_min v_71) (le_max v_71) (le_min v_73) (le_max v_73) (le_min v_75) (le_max v_75) (le_min v_77) (le_max v_77) (le_min x6_83) (le_max x6_83) (le_min v_94) (le_max v_94) (le_min v_96) (le_max v_96) (le_min v_98) (le_max v_98) (le_min a3) (le_max a3) (le_min x7_114) (le_max x7_114) (le_min v_123) (le_max v_123) (le_min v_130) (le_max v_130) (le_min v_132) (le_max v_132) (le_min v_134) (le_max v_134) (le_min v_147) (le_max v_147)) (o19_184 l1 u1 b_24 b_25 hn_23 e_28 e_29 c_30 e_34 e_51 e_53 e_55 e_57 e_59 e_68 e_70 e_72 e_74 e_76 e_79 e_80 b_90 b_91 hn_89 e_95 e_97 e_99 c_100 c_106 b_121 b_122 hn_120 e_124 c_125 e_131 e_133 e_135 e_149 e_150 q_151 e_153 (le_min v_152) (le_max v_152) (le_min x4_17) (le_max x4_17) (le_min a1) (le_max a1) (le_min v_26) (le_max v_26) (le_min v_33) (le_max v_33) (le_min v_50) (le_max v_50) (le_min v_52) (le_max v_52) (le_min v_54) (le_max v_54) (le_min v_56) (le_max v_56) (le_min v_58) (le_max v_58) (le_min v_67) (le_max v_67) (le_min v_69) (le_max v_69) (le_min v_71) (le_max v_71) (le_min v_73) (le_max v_73) (le_min v_75) (le_max v_75) (le_min v_77) (le_max v_77) (le_min x6_83) (le_max x6_83) (le_min v_94) (le_max v_94) (le_min v_96) (le_max v_96) (le_min v_98) (le_max v_98) (le_min a3) (le_max a3) (le_min x7_114) (le_max x7_114) (le_min v_123) (le_max v_123) (le_min v_130) (le_max v_130) (le_min v_132) (le_max v_132) (le_min v_134) (le_max v_134) (le_min v_147) (le_max v_147)) dX7_lookBack_158 (fun v_154 e_155 => ?_)
                                    refine lv_iload C0.1 C0.2.1 dX7_lookBack_159 (lv_at hl 0 rfl) ?_
                                    refine lv_iload C0.1 C0.2.1 dX7_lookBack_161 (lv_at hl 1 rfl) ?_
                                    refine y_c1 (n := 4) C0 (by decide) dX7_lookBack_163 (fun v_156 e_157 => ?_)
                                    refine lv_iload C0.1 C0.2.1 dX7_lookBack_164 (lv_at hl 4 rfl) ?_
                                    refine y_cmul (n := 4) C0 (o19_51 e_157) (o19_185 l1 u1 b_24 b_25 hn_23 e_28 e_29 c_30 e_34 e_51 e_53 e_55 e_57 e_59 e_68 e_70 e_72 e_74 e_76 e_79 e_80 b_90 b_91 hn_89 e_95 e_97 e_99 c_100 c_106 b_121 b_122 hn_120 e_124 c_125 e_131 e_133 e_135 e_149 e_150 q_151 e_153 e_155 (le_min x4_17) (le_max x4_17) (le_min a1) (le_max a1) (le_min v_26) (le_max v_26) (le_min v_33) (le_max v_33) (le_min v_50) (le_max v_50) (le_min v_52) (le_max v_52) (le_min v_54) (le_max v_54) (le_min v_56) (le_max v_56) (le_min v_58) (le_max v_58) (le_min v_67) (le_max v_67) (le_min v_69) (le_max v_69) (le_min v_71) (le_max v_71) (le_min v_73) (le_max v_73) (le_min v_75) (le_max v_75) (le_min v_77) (le_max v_77) (le_min x6_83) (le_max x6_83) (le_min v_94) (le_max v_94) (le_min v_96) (le_max v_96) (le_min v_98) (le_max v_98) (le_min a3) (le_max a3) (le_min x7_114) (le_max x7_114) (le_min v_123) (le_max v_123) (le_min v_130) (le_max v_130) (le_min v_132) (le_max v_132) (le_min v_134) (le_max v_134) (le_min v_147) (le_max v_147) (le_min v_152) (le_max v_152) (le_min v_154) (le_max v_154)) (o19_186 l1 u1 b_24 b_25 hn_23 e_28 e_29 c_30 e_34 e_51 e_53 e_55 e_57 e_59 e_68 e_70 e_72 e_74 e_76 e_79 e_80 b_90 b_91 hn_89 e_95 e_97 e_99 c_100 c_106 b_121 b_122 hn_120 e_124 c_125 e_131 e_133 e_135 e_149 e_150 q_151 e_153 e_155 (le_min x4_17) (le_max x4_17) (le_min a1) (le_max a1) (le_min v_26) (le_max v_26) (le_min v_33) (le_max v_33) (le_min v_50) (le_max v_50) (le_min v_52) (le_max v_52) (le_min v_54) (le_max v_54) (le_min v_56) (le_max v_56) (le_min v_58) (le_max v_58) (le_min v_67) (le_max v_67) (le_min v_69) (le_max v_69) (le_min v_71) (le_max v_71) (le_min v_73) (le_max v_73) (le_min v_75) (le_max v_75) (le_min v_77) (le_max v_77) (le_min x6_83) (le_max x6_83) (le_min v_94) (le_max v_94) (le_min v_96) (le_max v_96) (le_min v_98) (le_max v_98) (le_min a3) (le_max a3) (le_min x7_114) (le_max x7_114) (le_min v_123) (le_max v_123) (le_min v_130) (le_max v_130) (le_min v_132) (le_max v_132) (le_min v_134) (le_max v_134) (le_min v_147) (le_max v_147) (le_min v_152) (le_max v_152) (le_min v_154) (le_max v_154)) dX7_lookBack_166 (fun v_158 e_159 => ?_)
                                    refine lv_iload C0.1 C0.2.1 dX7_lookBack_167 (lv_at hl 4 rfl) ?_
                                    refine y_mulb (la := 4) (ha := 236) (lb := 1) (hb := 59) C0 (by decide) (o19_187 l1 u1 b_24 b_25 hn_23 e_28 e_29 c_30 e_34 e_51 e_53 e_55 e_57 e_59 e_68 e_70 e_72 e_74 e_76 e_79 e_80 b_90 b_91 hn_89 e_95 e_97 e_99 c_100 c_106 b_121 b_122 hn_120 e_124 c_125 e_131 e_133 e_135 e_149 e_150 q_151 e_153 e_155 e_159) (o19_188 l1 u1 b_24 b_25 hn_23 e_28 e_29 c_30 e_34 e_51 e_53 e_55 e_57 e_59 e_68 e_70 e_72 e_74 e_76 e_79 e_80 b_90 b_91 hn_89 e_95 e_97 e_99 c_100 c_106 b_121 b_122 hn_120 e_124 c_125 e_131 e_133 e_135 e_149 e_150 q_151 e_153 e_155 e_159) (by decide) (o19_189 l1 u1 b_24 b_25 hn_23 e_28 e_29 c_30 e_34 e_51 e_53 e_55 e_57 e_59 e_68 e_70 e_72 e_74 e_76 e_79 e_80 b_90 b_91 hn_89 e_95 e_97 e_99 c_100 c_106 b_121 b_122 hn_120 e_124 c_125 e_131 e_133 e_135 e_149 e_150 q_151 e_153 e_155 e_159) (o19_190 l1 u1 b_24 b_25 hn_23 e_28 e_29 c_30 e_34 e_51 e_53 e_55 e_57 e_59 e_68 e_70 e_72 e_74 e_76 e_79 e_80 b_90 b_91 hn_89 e_95 e_97 e_99 c_100 c_106 b_121 b_122 hn_120 e_124 c_125 e_131 e_133 e_135 e_149 e_150 q_151 e_153 e_155 e_159) (by decide) dX7_lookBack_169 (fun v_160 e_161 e_162 e_163 => ?_)
                                    refine y_c1 (n := 4) C0 (by decide) dX7_lookBack_170 (fun v_164 e_165 => ?_)
                                    refine lv_iload C0.1 C0.2.1 dX7_lookBack_171 (lv_at hl 2 rfl) ?_
                                    refine y_cmul (n := 4) C0 (o19_51 e_165) (o19_191 l1 u1 b_24 b_25 hn_23 e_28 e_29 c_30 e_34 e_51 e_53 e_55 e_57 e_59 e_68 e_70 e_72 e_74 e_76 e_79 e_80 b_90 b_91 hn_89 e_95 e_97 e_99 c_100 c_106 b_121 b_122 hn_120 e_124 c_125 e_131 e_133 e_135 e_149 e_150 q_151 e_153 e_155 e_159 (le_min x6_83) (le_max x6_83) (le_min a1) (le_max a1) (le_min x4_17) (le_max x4_17) (le_min v_26) (le_max v_26) (le_min v_33) (le_max v_33) (le_min v_50) (le_max v_50) (le_min v_52) (le_max v_52) (le_min v_54) (le_max v_54) (le_min v_56) (le_max v_56) (le_min v_58) (le_max v_58) (le_min v_67) (le_max v_67) (le_min v_69) (le_max v_69) (le_min v_71) (le_max v_71) (le_min v_73) (le_max v_73) (le_min v_75) (le_max v_75) (le_min v_77) (le_max v_77) (le_min v_94) (le_max v_94) (le_min v_96) (le_max v_96) (le_min v_98) (le_max v_98) (le_min a3) (le_max a3) (le_min x7_114) (le_max x7_114) (le_min v_123) (le_max v_123) (le_min v_130) (le_max v_130) (le_min v_132) (le_max v_132) (le_min v_134) (le_max v_134) (le_min v_147) (le_max v_147) (le_min v_152) (le_max v_152) (le_min v_154) (le_max v_154) (le_min v_158) (le_max v_158)) (o19_192 l1 u1 b_24 b_25 hn_23 e_28 e_29 c_30 e_34 e_51 e_53 e_55 e_57 e_59 e_68 e_70 e_72 e_74 e_76 e_79 e_80 b_90 b_91 hn_89 e_95 e_97 e_99 c_100 c_106 b_121 b_122 hn_120 e_124 c_125 e_131 e_133 e_135 e_149 e_150 q_151 e_153 e_155 e_159 (le_min x6_83) (le_max x6_83) (le_min a1) (le_max a1) (le_min x4_17) (le_max x4_17) (le_min v_26) (le_max v_26) (le_min v_33) (le_max v_33) (le_min v_50) (le_max v_50) (le_min v_52) (le_max v_52) (le_min v_54) (le_max v_54) (le_min v_56) (le_max v_56) (le_min v_58) (le_max v_58) (le_min v_67) (le_max v_67) (le_min v_69) (le_max v_69) (le_min v_71) (le_max v_71) (le_min v_73) (le_max v_73) (le_min v_75) (le_max v_75) (le_min v_77) (le_max v_77) (le_min v_94) (le_max v_94) (le_min v_96) (le_max v_96) (le_min v_98) (le_max v_98) (le_min a3) (le_max a3) (le_min x7_114) (le_max x7_114) (le_min v_123) (le_max v_123) (le_min v_130) (le_max v_130) (le_min v_132) (le_max v_132) (le_min v_134) (le_max v_134) (le_min v_147) (le_max v_147) (le_min v_152) (le_max v_152) (le_min v_154) (le_max v_154) (le_min v_158) (le_max v_158)) dX7_lookBack_173 (fun v_166 e_167 => ?_)
                                    refine y_add C0 (o19_193 l1 u1 b_24 b_25 hn_23 e_28 e_29 c_30 e_34 e_51 e_53 e_55 e_57 e_59 e_68 e_70 e_72 e_74 e_76 e_79 e_80 b_90 b_91 hn_89 e_95 e_97 e_99 c_100 c_106 b_121 b_122 hn_120 e_124 c_125 e_131 e_133 e_135 e_149 e_150 q_151 e_153 e_155 e_159 e_162 e_163 e_167 (le_min v_160) (le_max v_160) (le_min v_166) (le_max v_166) (le_min a1) (le_max a1) (le_min x4_17) (le_max x4_17) (le_min v_26) (le_max v_26) (le_min v_33) (le_max v_33) (le_min v_50) (le_max v_50) (le_min v_52) (le_max v_52) (le_min v_54) (le_max v_54) (le_min v_56) (le_max v_56) (le_min v_58) (le_max v_58) (le_min v_67) (le_max v_67) (le_min v_69) (le_max v_69) (le_min v_71) (le_max v_71) (le_min v_73) (le_max v_73) (le_min v_75) (le_max v_75) (le_min v_77) (le_max v_77) (le_min x6_83) (le_max x6_83) (le_min v_94) (le_max v_94) (le_min v_96) (le_max v_96) (le_min v_98) (le_max v_98) (le_min a3) (le_max a3) (le_min x7_114) (le_max x7_114) (le_min v_123) (le_max v_123) (le_min v_130) (le_max v_130) (le_min v_132) (le_max v_132) (le_min v_134) (le_max v_134) (le_min v_147) (le_max v_147) (le_min v_152) (le_max v_152) (le_min v_154) (le_max v_154) (le_min v_158) (le_max v_158)) (o19_194 l1 u1 b_24 b_25 hn_23 e_28 e_29 c_30 e_34 e_51 e_53 e_55 e_57 e_59 e_68 e_70 e_72 e_74 e_76 e_79 e_80 b_90 b_91 hn_89 e_95 e_97 e_99 c_100 c_106 b_121 b_122 hn_120 e_124 c_125 e_131 e_133 e_135 e_149 e_150 q_151 e_153 e_155 e_159 e_162 e_163 e_167 (le_min v_160) (le_max v_160) (le_min v_166) (le_max v_166) (le_min a1) (le_max a1) (le_min x4_17) (le_max x4_17) (le_min v_26) (le_max v_26) (le_min v_33) (le_max v_33) (le_min v_50) (le_max v_50) (le_min v_52) (le_max v_52) (le_min v_54) (le_max v_54) (le_min v_56) (le_max v_56) (le_min v_58) (le_max v_58) (le_min v_67) (le_max v_67) (le_min v_69) (le_max v_69) (le_min v_71) (le_max v_71) (le_min v_73) (le_max v_73) (le_min v_75) (le_max v_75) (le_min v_77) (le_max v_77) (le_min x6_83) (le_max x6_83) (le_min v_94) (le_max v_94) (le_min v_96) (le_max v_96) (le_min v_98) (le_max v_98) (le_min a3) (le_max a3) (le_min x7_114) (le_max x7_114) (le_min v_123) (le_max v_123) (le_min v_130) (le_max v_130) (le_min v_132) (le_max v_132) (le_min v_134) (le_max v_134) (le_min v_147) (le_max v_147) (le_min v_152) (le_max v_152) (le_min v_154) (le_max v_154) (le_min v_158) (le_max v_158)) dX7_lookBack_174 (fun v_168 e_169 => ?_)
                                    refine y_cv h (y_rV (As := [.int v_154, .int r_143, .int x7_114, .int v_168]) (rest := []) C0 hZ h (c_X7_comeFrom l G Z ad _ h.2 v_154 r_143 x7_114 v_168 (o19_195 l1 u1 b_24 b_25 hn_23 e_28 e_29 c_30 e_34 e_51 e_53 e_55 e_57 e_59 e_68 e_70 e_72 e_74 e_76 e_79 e_80 b_90 b_91 hn_89 e_95 e_97 e_99 c_100 c_106 b_121 b_122 hn_120 e_124 c_125 e_131 e_133 e_135 e_149 e_150 q_151 e_153 e_155 e_159 e_162 e_163 e_167 e_169) (o19_196 l1 u1 b_24 b_25 hn_23 e_28 e_29 c_30 e_34 e_51 e_53 e_55 e_57 e_59 e_68 e_70 e_72 e_74 e_76 e_79 e_80 b_90 b_91 hn_89 e_95 e_97 e_99 c_100 c_106 b_121 b_122 hn_120 e_124 c_125 e_131 e_133 e_135 e_149 e_150 q_151 e_153 e_155 e_159 e_162 e_163 e_167 e_169) (o19_197 l1 u1 b_24 b_25 hn_23 e_28 e_29 c_30 e_34 e_51 e_53 e_55 e_57 e_59 e_68 e_70 e_72 e_74 e_76 e_79 e_80 b_90 b_91 hn_89 e_95 e_97 e_99 c_100 c_106 b_121 b_122 hn_120 e_124 c_125 e_131 e_133 e_135 e_149 e_150 q_151 e_153 e_155 e_159 e_162 e_163 e_167 e_169) (o19_198 l1 u1 b_24 b_25 hn_23 e_28 e_29 c_30 e_34 e_51 e_53 e_55 e_57 e_59 e_68 e_70 e_72 e_74 e_76 e_79 e_80 b_90 b_91 hn_89 e_95 e_97 e_99 c_100 c_106 b_121 b_122 hn_120 e_124 c_125 e_131 e_133 e_135 e_149 e_150 q_151 e_153 e_155 e_159 e_162 e_163 e_167 e_169) (o19_199 l1 u1 b_24 b_25 hn_23 e_28 e_29 c_30 e_34 e_51 e_53 e_55 e_57 e_59 e_68 e_70 e_72 e_74 e_76 e_79 e_80 b_90 b_91 hn_89 e_95 e_97 e_99 c_100 c_106 b_121 b_122 hn_120 e_124 c_125 e_131 e_133 e_135 e_149 e_150 q_151 e_153 e_155 e_159 e_162 e_163 e_167 e_169) (o19_200 l1 u1 b_24 b_25 hn_23 e_28 e_29 c_30 e_34 e_51 e_53 e_55 e_57 e_59 e_68 e_70 e_72 e_74 e_76 e_79 e_80 b_90 b_91 hn_89 e_95 e_97 e_99 c_100 c_106 b_121 b_122 hn_120 e_124 c_125 e_131 e_133 e_135 e_149 e_150 q_151 e_153 e_155 e_159 e_162 e_163 e_167 e_169)) k_X7_comeFrom q_1167 q_42 q_1165 kSC_87 rfl rfl rfl hl.1 rfl rfl (Nat.le_of_ble_eq_true rfl) dX7_lookBack_175 ⟨Nat.le_of_ble_eq_true rfl, Nat.le_of_ble_eq_true rfl⟩ ⟨Nat.le_of_ble_eq_true rfl, Nat.le_of_ble_eq_true rfl⟩) (fun H locs ws_170 h u_171 p_172 => ?_)
                                    refine y_inc (kp := 1) (n := 1) (fun v_173 => [(7, .int v_173), (8, .int r_143), (6, .int x6_83), (5, .int v_77), (4, .int x4_17), (0, .ref (ad 87)), (1, .int a1), (2, .int a2), (3, .int a3)]) C0 hl rfl (by decide) (by decide) (fun _ => rfl) (o19_201 l1 u1 b_24 b_25 hn_23 e_28 e_29 c_30 e_34 e_51 e_53 e_55 e_57 e_59 e_68 e_70 e_72 e_74 e_76 e_79 e_80 b_90 b_91 hn_89 e_95 e_97 e_99 c_100 c_106 b_121 b_122 hn_120 e_124 c_125 e_131 e_133 e_135 e_149 e_150 q_151 e_153 e_155 e_159 e_162 e_163 e_167 e_169 (le_min x7_114) (le_max x7_114) (le_min a1) (le_max a1) (le_min x4_17) (le_max x4_17) (le_min v_26) (le_max v_26) (le_min v_33) (le_max v_33) (le_min v_50) (le_max v_50) (le_min v_52) (le_max v_52) (le_min v_54) (le_max v_54) (le_min v_56) (le_max v_56) (le_min v_58) (le_max v_58) (le_min v_67) (le_max v_67) (le_min v_69) (le_max v_69) (le_min v_71) (le_max v_71) (le_min v_73) (le_max v_73) (le_min v_75) (le_max v_75) (le_min v_77) (le_max v_77) (le_min x6_83) (le_max x6_83) (le_min v_94) (le_max v_94) (le_min v_96) (le_max v_96) (le_min v_98) (le_max v_98) (le_min a3) (le_max a3) (le_min v_123) (le_max v_123) (le_min v_130) (le_max v_130) (le_min v_132) (le_max v_132) (le_min v_134) (le_max v_134) (le_min v_147) (le_max v_147) (le_min v_152) (le_max v_152) (le_min v_154) (le_max v_154) (le_min v_158) (le_max v_158) (le_min v_160) (le_max v_160) (le_min v_166) (le_max v_166) (le_min v_168) (le_max v_168)) (o19_202 l1 u1 b_24 b_25 hn_23 e_28 e_29 c_30 e_34 e_51 e_53 e_55 e_57 e_59 e_68 e_70 e_72 e_74 e_76 e_79 e_80 b_90 b_91 hn_89 e_95 e_97 e_99 c_100 c_106 b_121 b_122 hn_120 e_124 c_125 e_131 e_133 e_135 e_149 e_150 q_151 e_153 e_155 e_159 e_162 e_163 e_167 e_169 (le_min x7_114) (le_max x7_114) (le_min a1) (le_max a1) (le_min x4_17) (le_max x4_17) (le_min v_26) (le_max v_26) (le_min v_33) (le_max v_33) (le_min v_50) (le_max v_50) (le_min v_52) (le_max v_52) (le_min v_54) (le_max v_54) (le_min v_56) (le_max v_56) (le_min v_58) (le_max v_58) (le_min v_67) (le_max v_67) (le_min v_69) (le_max v_69) (le_min v_71) (le_max v_71) (le_min v_73) (le_max v_73) (le_min v_75) (le_max v_75) (le_min v_77) (le_max v_77) (le_min x6_83) (le_max x6_83) (le_min v_94) (le_max v_94) (le_min v_96) (le_max v_96) (le_min v_98) (le_max v_98) (le_min a3) (le_max a3) (le_min v_123) (le_max v_123) (le_min v_130) (le_max v_130) (le_min v_132) (le_max v_132) (le_min v_134) (le_max v_134) (le_min v_147) (le_max v_147) (le_min v_152) (le_max v_152) (le_min v_154) (le_max v_154) (le_min v_158) (le_max v_158) (le_min v_160) (le_max v_160) (le_min v_166) (le_max v_166) (le_min v_168) (le_max v_168)) dX7_lookBack_178 (fun v_173 ls e_174 hl => ?_)
                                    refine lv_goto (tgt := 112) C0.1 C0.2.1 dX7_lookBack_181 (by decide) ?_
                                    exact ih_118 v_173 _ _ _ _ (o19_203 b_24 b_25 hn_23 e_28 e_29 c_30 e_34 e_51 e_53 e_55 e_57 e_59 e_68 e_70 e_72 e_74 e_76 e_79 e_80 b_90 b_91 hn_89 e_95 e_97 e_99 c_100 c_106 b_121 b_122 hn_120 e_124 c_125 e_131 e_133 e_135 q_151 e_153 e_155 e_159 e_162 e_163 e_167 e_169 e_174) (o19_204 b_24 b_25 hn_23 e_28 e_29 c_30 e_34 e_51 e_53 e_55 e_57 e_59 e_68 e_70 e_72 e_74 e_76 e_79 e_80 b_90 b_91 hn_89 e_95 e_97 e_99 c_100 c_106 b_121 b_122 hn_120 e_124 c_125 e_131 e_133 e_135 q_151 e_153 e_155 e_159 e_162 e_163 e_167 e_169 e_174) (o19_205 b_24 b_25 hn_23 e_28 e_29 c_30 e_34 e_51 e_53 e_55 e_57 e_59 e_68 e_70 e_72 e_74 e_76 e_79 e_80 b_90 b_91 hn_89 e_95 e_97 e_99 c_100 c_106 b_121 b_122 hn_120 e_124 c_125 e_131 e_133 e_135 q_151 e_153 e_155 e_159 e_162 e_163 e_167 e_169 e_174) h (Fr.tr (Fr.tr hF_116 (Fr.mono u_141 (by decide))) u_171) (lv_sub hl [0, 2, 3, 4, 5, 6, 7, 8] rfl)
                            exact lp_117 ((4 - v_112.toInt + 1).toNat) v_112 _ _ _ _ (o19_86 e_113) (o19_87 e_113) (o19_88 e_113) h Fr.rf (lv_sub hl [0, 1, 2, 3, 4, 5, 6, 7] rfl)
                    exact lp_86 ((117 - v_81.toInt + 1).toNat) v_81 _ _ _ _ (o19_206 e_82) (o19_87 e_82) (o19_207 e_82) h Fr.rf (lv_sub hl [0, 1, 2, 3, 4, 5, 6] rfl)
                  · -- 59
                    refine lv_aload_n C0.1 C0.2.1 dX7_lookBack_62 rfl (lv_at hl 2 rfl) ?_
                    refine tg_X7_back C0 h kSC_87 q_345 dX7_lookBack_63 ?_
                    refine lv_iload C0.1 C0.2.1 dX7_lookBack_66 (lv_at hl 0 rfl) ?_
                    refine y_c1 (n := 0) C0 (by decide) dX7_lookBack_68 (fun v_175 e_176 => ?_)
                    refine y_iast C0 h kSC_88 rfl (by decide) (o19_208 b_46 b_47 hn_45 e_62 e_63 c_64) (o19_209 b_46 b_47 hn_45 e_62 e_63 c_64) (le_min v_175) (le_max v_175) dX7_lookBack_69 (fun H locs ws_177 h u_178 => ?_)
                    refine y_inc (kp := 0) (n := 1) (fun v_179 => [(5, .int v_179), (4, .int x4_17), (0, .ref (ad 87)), (1, .int a1), (2, .int a2), (3, .int a3)]) C0 hl rfl (by decide) (by decide) (fun _ => rfl) (o19_210 b_46 b_47 hn_45 e_62 e_63 c_64 (le_min x5_39) (le_max x5_39) (le_min v_60) (le_max v_60)) (o19_211 b_46 b_47 hn_45 e_62 e_63 c_64 (le_min x5_39) (le_max x5_39) (le_min v_60) (le_max v_60)) dX7_lookBack_70 (fun v_179 ls e_180 hl => ?_)
                    refine lv_goto (tgt := 46) C0.1 C0.2.1 dX7_lookBack_73 (by decide) ?_
                    exact ih_43 v_179 _ _ _ _ (o19_212 b_46 b_47 hn_45 e_62 e_63 c_64 e_180) (o19_213 b_46 b_47 hn_45 e_62 e_63 c_64 e_180) (o19_214 b_46 b_47 hn_45 e_62 e_63 c_64 e_180) h (Fr.tr hF_41 (Fr.up u_178.1 kSC_88 (by decide))) (lv_sub hl [0, 1, 2, 3, 4, 5] rfl)
              exact lp_42 ((14400 - v_35.toInt + 1).toNat) v_35 _ _ _ _ (o19_215 e_37 e_38) (o19_216 e_37 e_38) (o19_217 e_37 e_38) h Fr.rf (lv_sub hl [0, 1, 2, 3, 4, 5] rfl)
        exact lp_20 ((60 - v_15.toInt + 1).toNat) v_15 _ _ _ _ (o19_218 e_16) (o19_219 e_16) (o19_220 e_16) h Fr.rf (lv_sub hl [0, 1, 2, 3, 4] rfl)
      · -- 6
        refine lv_aload_n C0.1 C0.2.1 dX7_lookBack_9 rfl (lv_at hl 1 rfl) ?_
        refine tg_X7_back C0 h kSC_87 q_345 dX7_lookBack_10 ?_
        refine lv_iload C0.1 C0.2.1 dX7_lookBack_13 (lv_at hl 0 rfl) ?_
        refine y_c1 (n := 1) C0 (by decide) dX7_lookBack_15 (fun v_181 e_182 => ?_)
        refine lv_iload_n C0.1 C0.2.1 dX7_lookBack_16 rfl (lv_at hl 3 rfl) ?_
        refine y_ishlU C0 dX7_lookBack_17 (fun v_183 => ?_)
        refine y_iast C0 h kSC_88 rfl (by decide) (o19_221 b_10 b_11 hn_9 e_13 c_14) (o19_222 b_10 b_11 hn_9 e_13 c_14) (le_min v_183) (le_max v_183) dX7_lookBack_18 (fun H locs ws_184 h u_185 => ?_)
        refine y_inc (kp := 0) (n := 1) (fun v_186 => [(4, .int v_186), (0, .ref (ad 87)), (1, .int a1), (2, .int a2), (3, .int a3)]) C0 hl rfl (by decide) (by decide) (fun _ => rfl) (o19_223 b_10 b_11 hn_9 e_13 c_14 (le_min x4_3) (le_max x4_3) (le_min v_12) (le_max v_12)) (o19_224 b_10 b_11 hn_9 e_13 c_14 (le_min x4_3) (le_max x4_3) (le_min v_12) (le_max v_12)) dX7_lookBack_19 (fun v_186 ls e_187 hl => ?_)
        refine lv_goto (tgt := 3) C0.1 C0.2.1 dX7_lookBack_22 (by decide) ?_
        exact ih_7 v_186 _ _ _ _ (o19_225 b_10 b_11 hn_9 e_13 c_14 e_187) (o19_226 b_10 b_11 hn_9 e_13 c_14 e_187) (o19_227 b_10 b_11 hn_9 e_13 c_14 e_187) h (Fr.tr hF_5 (Fr.up u_185.1 kSC_88 (by decide))) (lv_sub hl [0, 1, 2, 3, 4] rfl)
  exact lp_6 ((4 - v_1.toInt + 1).toNat) v_1 _ _ _ _ (o19_86 e_2) (o19_87 e_2) (o19_88 e_2) h Fr.rf (lv_sub hl [0, 1, 2, 3, 4] rfl)
set_option maxHeartbeats 4000000 in
set_option maxRecDepth 100000 in
theorem c_X7_follow (l : Launch) (G : GG) (Z : RZ) (ad : Nat → Nat) (ws0 : va_W) (hT : Ty G (SC tt) ad ws0) (a1 : Int32) (a2 : Int32) (a3 : Int32) (l1 : 0 ≤ a1.toInt) (u1 : a1.toInt ≤ 99) (l2 : 0 ≤ a2.toInt) (u2 : a2.toInt ≤ 180) (hR : Rel ws0) : Mq l yX7_follow cX7_follow 9 none 5 G Z [.ref (ad 87), .int a1, .int a2, .int a3] ws0 (PV G (SC tt) ad [4, 5, 18, 19, 20, 21, 25, 27] ws0 (fun u => True)) := by
  refine Mq.start (by decide) (Nat.le_of_ble_eq_true rfl) ?_
  intro p e s m below meth c A ls C0 hZ h hl
  have hl : lv_has ls 9 [(0, .ref (ad 87)), (1, .int a1), (2, .int a2), (3, .int a3)] := hl
  have h : Wt G (SC tt) ad A s s.heap [] ws0 := ⟨h, hT⟩
  obtain ⟨args, hargs⟩ : ∃ z, z = ([.ref (ad 87), .int a1, .int a2, .int a3] : List Value).toArray := ⟨_, rfl⟩
  rw [← hargs] at C0 ⊢
  have C0 : Cx p s m args meth c RX7 cX7_follow 9 none := C0
  obtain ⟨Q, hQ⟩ : ∃ z, z = MQ below ((PV G (SC tt) ad [4, 5, 18, 19, 20, 21, 25, 27] ws0 (fun u => True)) A) args s 0 0 A := ⟨_, rfl⟩
  rw [← hQ]
  refine lv_iload_n C0.1 C0.2.1 dX7_follow_0 rfl (lv_at hl 3 rfl) ?_
  refine lv_istore (lv' := [(4, .int a3), (0, .ref (ad 87)), (1, .int a1), (2, .int a2), (3, .int a3)]) C0.1 C0.2.1 dX7_follow_1 hl (by decide) rfl (fun ls hl => ?_)
  refine lv_aload_n C0.1 C0.2.1 dX7_follow_3 rfl (lv_at hl 1 rfl) ?_
  refine lv_iload_n C0.1 C0.2.1 dX7_follow_4 rfl (lv_at hl 2 rfl) ?_
  refine tp_X7_last C0 h kSC_87 q_348 (o19_3 l1 u1) (o19_4 l1 u1) dX7_follow_5 (fun H locs ws_1 h u_2 => ?_)
  refine y_c1 (n := 0) C0 (by decide) dX7_follow_8 (fun v_3 e_4 => ?_)
  refine lv_istore (lv' := [(5, .int v_3), (4, .int a3), (0, .ref (ad 87)), (1, .int a1), (2, .int a2), (3, .int a3)]) C0.1 C0.2.1 dX7_follow_9 hl (by decide) rfl (fun ls hl => ?_)
  have lp_9 : ∀ (n_11 : Nat) (x5_5 : Int32) (x4_6 : Int32) (H : Heap) (locs : List Loc) (ls : Array Slot) (ws_7 : va_W), 60 - x5_5.toInt < (n_11 : Int) → 0 ≤ x5_5.toInt → x5_5.toInt ≤ 60 → Wt G (SC tt) ad A s H locs ws_7 → Fr (SC tt) [4, 5, 18, 19, 20, 21, 25, 27] ws_1 ws_7 → lv_has ls 9 [(5, .int x5_5), (4, .int x4_6), (0, .ref (ad 87)), (1, .int a1), (2, .int a2), (3, .int a3)] → W p l e (rmd 5 0 0) s m args below meth c H locs 0 0 Q (F0 m 11 ls []) := by
    intro n_11
    induction n_11 with
    | zero => intro x5_5 x4_6 H locs ls ws_7 hn_12 b_13 b_14 h hF_8 hl; exact ((o19_228 b_13 b_14 hn_12)).elim
    | succ n_11 ih_10 =>
      intro x5_5 x4_6 H locs ls ws_7 hn_12 b_13 b_14 h hF_8 hl
      refine lv_iload C0.1 C0.2.1 dX7_follow_11 (lv_at hl 0 rfl) ?_
      refine lv_aload_n C0.1 C0.2.1 dX7_follow_13 rfl (lv_at hl 2 rfl) ?_
      refine tg_X7_length C0 h kSC_87 q_347 dX7_follow_14 (fun v_15 e_16 e_17 e_18 => ?_)
      refine y_icmp_ge (tgt := 137) C0 dX7_follow_17 (by decide) (fun c_19 => ?_) (fun c_19 => ?_)
      · -- 17
        rw [hQ]
        exact y_vret C0 h (Fr.tr (Fr.up u_2.1 kSC_87 (by decide)) hF_8) trivial dX7_follow_137
      · -- 17
        refine y_c1 (n := 0) C0 (by decide) dX7_follow_20 (fun v_20 e_21 => ?_)
        refine lv_istore (lv' := [(6, .int v_20), (5, .int x5_5), (4, .int x4_6), (0, .ref (ad 87)), (1, .int a1), (2, .int a2), (3, .int a3)]) C0.1 C0.2.1 dX7_follow_21 hl (by decide) rfl (fun ls hl => ?_)
        have lp_25 : ∀ (n_27 : Nat) (x6_22 : Int32) (H : Heap) (locs : List Loc) (ls : Array Slot) (ws_23 : va_W), 4 - x6_22.toInt < (n_27 : Int) → 0 ≤ x6_22.toInt → x6_22.toInt ≤ 4 → Wt G (SC tt) ad A s H locs ws_23 → Fr (SC tt) [4, 5, 18, 19, 20, 21] ws_7 ws_23 → lv_has ls 9 [(6, .int x6_22), (5, .int x5_5), (4, .int x4_6), (0, .ref (ad 87)), (1, .int a1), (2, .int a2), (3, .int a3)] → W p l e (rmd 5 0 0) s m args below meth c H locs 0 0 Q (F0 m 23 ls []) := by
          intro n_27
          induction n_27 with
          | zero => intro x6_22 H locs ls ws_23 hn_28 b_29 b_30 h hF_24 hl; exact ((o19_50 b_29 b_30 hn_28)).elim
          | succ n_27 ih_26 =>
            intro x6_22 H locs ls ws_23 hn_28 b_29 b_30 h hF_24 hl
            refine lv_iload C0.1 C0.2.1 dX7_follow_23 (lv_at hl 0 rfl) ?_
            refine y_c1 (n := 4) C0 (by decide) dX7_follow_25 (fun v_31 e_32 => ?_)
            refine y_icmp_ge (tgt := 131) C0 dX7_follow_26 (by decide) (fun c_33 => ?_) (fun c_33 => ?_)
            · -- 26
              refine y_inc (kp := 1) (n := 1) (fun v_34 => [(5, .int v_34), (6, .int x6_22), (4, .int x4_6), (0, .ref (ad 87)), (1, .int a1), (2, .int a2), (3, .int a3)]) C0 hl rfl (by decide) (by decide) (fun _ => rfl) (o19_229 b_13 b_14 hn_12 e_17 e_18 c_19 (le_min x5_5) (le_max x5_5) (le_min v_15) (le_max v_15)) (o19_230 b_13 b_14 hn_12 e_17 e_18 c_19 (le_min x5_5) (le_max x5_5) (le_min v_15) (le_max v_15)) dX7_follow_131 (fun v_34 ls e_35 hl => ?_)
              refine lv_goto (tgt := 11) C0.1 C0.2.1 dX7_follow_134 (by decide) ?_
              exact ih_10 v_34 x4_6 _ _ _ _ (o19_231 b_13 b_14 hn_12 e_17 e_18 c_19 e_35) (o19_232 b_13 b_14 hn_12 e_17 e_18 c_19 e_35) (o19_233 b_13 b_14 hn_12 e_17 e_18 c_19 e_35) h (Fr.tr hF_8 (Fr.mono hF_24 (by decide))) (lv_sub hl [0, 2, 3, 4, 5, 6] rfl)
            · -- 26
              refine lv_aload_n C0.1 C0.2.1 dX7_follow_29 rfl (lv_at hl 3 rfl) ?_
              refine tg_X7_city C0 h kSC_87 q_342 dX7_follow_30 ?_
              refine lv_aload_n C0.1 C0.2.1 dX7_follow_33 rfl (lv_at hl 3 rfl) ?_
              refine tg_X7_last C0 h kSC_87 q_348 dX7_follow_34 (fun v_36 e_37 e_38 e_39 => ?_)
              refine lv_iload C0.1 C0.2.1 dX7_follow_37 (lv_at hl 0 rfl) ?_
              refine y_ci h (y_rV (As := [.int v_36, .int x6_22]) (rest := []) C0 hZ h (c_X0_standAfter l G Z ad _ h.2 1 kSC_1 v_36 x6_22 (o19_3 e_38 e_39) (o19_4 e_38 e_39) (o19_221 b_29 b_30 hn_28 e_32 c_33) (o19_234 b_29 b_30 hn_28 e_32 c_33) (Rel.fr (M := [4, 5, 18, 19, 20, 21, 25, 27]) hR (Fr.tr (Fr.tr (Fr.up u_2.1 kSC_87 (by decide)) hF_8) (Fr.mono hF_24 (by decide))) (by decide) (by decide))) k_X0_standAfter q_1180 q_1181 q_1179 kSC_1 rfl rfl rfl hl.1 rfl rfl (Nat.le_of_ble_eq_true rfl) dX7_follow_39 ⟨Nat.le_of_ble_eq_true rfl, Nat.le_of_ble_eq_true rfl⟩ ⟨Nat.le_of_ble_eq_true rfl, Nat.le_of_ble_eq_true rfl⟩) (fun r_43 H locs ws_40 h u_41 p_42 => ?_)
              obtain ⟨e_44, e_45⟩ := p_42
              refine lv_istore (lv' := [(7, .int r_43), (6, .int x6_22), (5, .int x5_5), (4, .int x4_6), (0, .ref (ad 87)), (1, .int a1), (2, .int a2), (3, .int a3)]) C0.1 C0.2.1 dX7_follow_42 hl (by decide) rfl (fun ls hl => ?_)
              refine lv_iload C0.1 C0.2.1 dX7_follow_44 (lv_at hl 0 rfl) ?_
              refine y_if_ge (tgt := 53) C0 dX7_follow_46 (by decide) (fun c_46 => ?_) (fun c_46 => ?_)
              · -- 46
                refine lv_aload_n C0.1 C0.2.1 dX7_follow_53 rfl (lv_at hl 4 rfl) ?_
                refine tg_X7_forecast C0 h kSC_87 q_343 dX7_follow_54 ?_
                refine lv_iload_n C0.1 C0.2.1 dX7_follow_57 rfl (lv_at hl 6 rfl) ?_
                refine lv_iload C0.1 C0.2.1 dX7_follow_58 (lv_at hl 2 rfl) ?_
                refine y_add C0 (o19_235 l2 u2 b_13 b_14 hn_12 e_17 e_18 c_19 (le_min a2) (le_max a2) (le_min x5_5) (le_max x5_5) (le_min v_15) (le_max v_15)) (o19_236 l2 u2 b_13 b_14 hn_12 e_17 e_18 c_19 (le_min a2) (le_max a2) (le_min x5_5) (le_max x5_5) (le_min v_15) (le_max v_15)) dX7_follow_60 (fun v_47 e_48 => ?_)
                refine lv_aload_n C0.1 C0.2.1 dX7_follow_61 rfl (lv_at hl 4 rfl) ?_
                refine tg_X7_last C0 h kSC_87 q_348 dX7_follow_62 (fun v_49 e_50 e_51 e_52 => ?_)
                have q_53 : v_49.toInt = v_36.toInt := congrArg Int32.toInt (e_50.symm.trans (Eq.trans (Fr.fI u_41 kSC_87 (by decide)) e_37))
                refine lv_iload C0.1 C0.2.1 dX7_follow_65 (lv_at hl 1 rfl) ?_
                refine y_ci h (y_rV (As := [.int v_47, .int v_49, .int x6_22]) (rest := []) C0 hZ h (c_X2_lefts l G Z ad _ h.2 v_47 v_49 x6_22 (o19_237 l2 u2 b_13 b_14 hn_12 e_17 e_18 c_19 e_48) (o19_238 l2 u2 b_13 b_14 hn_12 e_17 e_18 c_19 e_48) (o19_239 e_38 e_39 e_51 e_52 q_53) (o19_240 e_38 e_39 e_51 e_52 q_53) (o19_221 b_29 b_30 hn_28 e_32 c_33) (o19_234 b_29 b_30 hn_28 e_32 c_33)) k_X2_lefts q_1184 q_1185 q_1183 kSC_79 rfl rfl rfl hl.1 rfl rfl (Nat.le_of_ble_eq_true rfl) dX7_follow_67 ⟨Nat.le_of_ble_eq_true rfl, Nat.le_of_ble_eq_true rfl⟩ ⟨Nat.le_of_ble_eq_true rfl, Nat.le_of_ble_eq_true rfl⟩) (fun r_57 H locs ws_54 h u_55 p_56 => ?_)
                obtain ⟨e_58, e_59⟩ := p_56
                refine lv_istore (lv' := [(8, .int r_57), (7, .int r_43), (6, .int x6_22), (5, .int x5_5), (4, .int x4_6), (0, .ref (ad 87)), (1, .int a1), (2, .int a2), (3, .int a3)]) C0.1 C0.2.1 dX7_follow_70 hl (by decide) rfl (fun ls hl => ?_)
                refine lv_iload C0.1 C0.2.1 dX7_follow_72 (lv_at hl 0 rfl) ?_
                refine y_if_lt (tgt := 125) C0 dX7_follow_74 (by decide) (fun c_60 => ?_) (fun c_60 => ?_)
                · -- 74
                  refine y_inc (kp := 2) (n := 1) (fun v_61 => [(6, .int v_61), (8, .int r_57), (7, .int r_43), (5, .int x5_5), (4, .int x4_6), (0, .ref (ad 87)), (1, .int a1), (2, .int a2), (3, .int a3)]) C0 hl rfl (by decide) (by decide) (fun _ => rfl) (o19_223 b_29 b_30 hn_28 e_32 c_33 (le_min x6_22) (le_max x6_22) (le_min v_31) (le_max v_31)) (o19_224 b_29 b_30 hn_28 e_32 c_33 (le_min x6_22) (le_max x6_22) (le_min v_31) (le_max v_31)) dX7_follow_125 (fun v_61 ls e_62 hl => ?_)
                  refine lv_goto (tgt := 23) C0.1 C0.2.1 dX7_follow_128 (by decide) ?_
                  exact ih_26 v_61 _ _ _ _ (o19_225 b_29 b_30 hn_28 e_32 c_33 e_62) (o19_226 b_29 b_30 hn_28 e_32 c_33 e_62) (o19_227 b_29 b_30 hn_28 e_32 c_33 e_62) h (Fr.tr (Fr.tr hF_24 (Fr.mono u_41 (by decide))) u_55) (lv_sub hl [0, 3, 4, 5, 6, 7, 8] rfl)
                · -- 74
                  refine lv_aload_n C0.1 C0.2.1 dX7_follow_77 rfl (lv_at hl 5 rfl) ?_
                  refine lv_aload_n C0.1 C0.2.1 dX7_follow_78 rfl (lv_at hl 5 rfl) ?_
                  refine tg_X7_length C0 h kSC_87 q_347 dX7_follow_79 (fun v_63 e_64 e_65 e_66 => ?_)
                  have q_67 : v_63.toInt = v_15.toInt := congrArg Int32.toInt (e_64.symm.trans (Eq.trans (Eq.trans (Fr.fI u_55 kSC_87 (by decide)) (Eq.trans (Fr.fI u_41 kSC_87 (by decide)) (Fr.fI hF_24 kSC_87 (by decide)))) e_16))
                  refine lv_iload C0.1 C0.2.1 dX7_follow_82 (lv_at hl 3 rfl) ?_
                  refine y_sub C0 (o19_241 l2 u2 b_13 b_14 hn_12 e_17 e_18 c_19 e_48 e_65 e_66 q_67 (le_min v_63) (le_max v_63) (le_min x5_5) (le_max x5_5) (le_min a2) (le_max a2) (le_min v_15) (le_max v_15) (le_min v_47) (le_max v_47)) (o19_242 l2 u2 b_13 b_14 hn_12 e_17 e_18 c_19 e_48 e_65 e_66 q_67 (le_min v_63) (le_max v_63) (le_min x5_5) (le_max x5_5) (le_min a2) (le_max a2) (le_min v_15) (le_max v_15) (le_min v_47) (le_max v_47)) dX7_follow_84 (fun v_68 e_69 => ?_)
                  refine y_c1 (n := 1) C0 (by decide) dX7_follow_85 (fun v_70 e_71 => ?_)
                  refine y_sub C0 (o19_243 l2 u2 b_13 b_14 hn_12 e_17 e_18 c_19 e_48 e_65 e_66 q_67 e_69 e_71 (le_min v_68) (le_max v_68) (le_min v_70) (le_max v_70) (le_min a2) (le_max a2) (le_min x5_5) (le_max x5_5) (le_min v_15) (le_max v_15) (le_min v_47) (le_max v_47) (le_min v_63) (le_max v_63)) (o19_244 l2 u2 b_13 b_14 hn_12 e_17 e_18 c_19 e_48 e_65 e_66 q_67 e_69 e_71 (le_min v_68) (le_max v_68) (le_min v_70) (le_max v_70) (le_min a2) (le_max a2) (le_min x5_5) (le_max x5_5) (le_min v_15) (le_max v_15) (le_min v_47) (le_max v_47) (le_min v_63) (le_max v_63)) dX7_follow_86 (fun v_72 e_73 => ?_)
                  refine lv_iload C0.1 C0.2.1 dX7_follow_87 (lv_at hl 1 rfl) ?_
                  refine lv_iload C0.1 C0.2.1 dX7_follow_89 (lv_at hl 4 rfl) ?_
                  refine lv_iload C0.1 C0.2.1 dX7_follow_91 (lv_at hl 0 rfl) ?_
                  refine y_isubU C0 dX7_follow_93 (fun v_74 => ?_)
                  refine y_ci h (y_rV (As := [.int v_72, .int r_43, .int v_74]) (rest := []) C0 hZ h (c_X7_comes l G Z ad _ h.2 v_72 r_43 v_74 (o19_245 l2 u2 b_13 b_14 hn_12 e_17 e_18 c_19 e_48 e_65 e_66 q_67 e_69 e_71 e_73) (o19_246 l2 u2 b_13 b_14 hn_12 e_17 e_18 c_19 e_48 e_65 e_66 q_67 e_69 e_71 e_73) (o19_247 e_44 e_45 c_46) (o19_248 e_44 e_45 c_46)) k_X7_comes q_1192 q_45 q_1190 kSC_87 rfl rfl rfl hl.1 rfl rfl (Nat.le_of_ble_eq_true rfl) dX7_follow_94 ⟨Nat.le_of_ble_eq_true rfl, Nat.le_of_ble_eq_true rfl⟩ ⟨Nat.le_of_ble_eq_true rfl, Nat.le_of_ble_eq_true rfl⟩) (fun r_78 H locs ws_75 h u_76 p_77 => ?_)
                  obtain ⟨e_79, e_80⟩ := p_77
                  refine y_if_eq (tgt := 125) C0 dX7_follow_97 (by decide) (fun c_81 => ?_) (fun c_81 => ?_)
                  · -- 97
                    refine y_inc (kp := 2) (n := 1) (fun v_82 => [(6, .int v_82), (8, .int r_57), (7, .int r_43), (5, .int x5_5), (4, .int x4_6), (0, .ref (ad 87)), (1, .int a1), (2, .int a2), (3, .int a3)]) C0 hl rfl (by decide) (by decide) (fun _ => rfl) (o19_223 b_29 b_30 hn_28 e_32 c_33 (le_min x6_22) (le_max x6_22) (le_min v_31) (le_max v_31)) (o19_224 b_29 b_30 hn_28 e_32 c_33 (le_min x6_22) (le_max x6_22) (le_min v_31) (le_max v_31)) dX7_follow_125 (fun v_82 ls e_83 hl => ?_)
                    refine lv_goto (tgt := 23) C0.1 C0.2.1 dX7_follow_128 (by decide) ?_
                    exact ih_26 v_82 _ _ _ _ (o19_225 b_29 b_30 hn_28 e_32 c_33 e_83) (o19_226 b_29 b_30 hn_28 e_32 c_33 e_83) (o19_227 b_29 b_30 hn_28 e_32 c_33 e_83) h (Fr.tr (Fr.tr (Fr.tr hF_24 (Fr.mono u_41 (by decide))) u_55) (Fr.mono u_76 (by decide))) (lv_sub hl [0, 3, 4, 5, 6, 7, 8] rfl)
                  · -- 97
                    refine lv_aload_n C0.1 C0.2.1 dX7_follow_100 rfl (lv_at hl 5 rfl) ?_
                    refine tg_X7_turns C0 h kSC_87 q_346 dX7_follow_101 ?_
                    refine lv_iload C0.1 C0.2.1 dX7_follow_104 (lv_at hl 3 rfl) ?_
                    refine lv_iload C0.1 C0.2.1 dX7_follow_106 (lv_at hl 2 rfl) ?_
                    refine y_iast C0 h kSC_89 rfl (by decide) (o19_249 l2 u2 b_13 b_14 hn_12 e_17 e_18 c_19 e_48 e_65 e_66 q_67 e_69 e_71 e_73) (o19_250 l2 u2 b_13 b_14 hn_12 e_17 e_18 c_19 e_48 e_65 e_66 q_67 e_69 e_71 e_73) (le_min x6_22) (le_max x6_22) dX7_follow_108 (fun H locs ws_84 h u_85 => ?_)
                    refine lv_iload C0.1 C0.2.1 dX7_follow_109 (lv_at hl 4 rfl) ?_
                    refine lv_iload C0.1 C0.2.1 dX7_follow_111 (lv_at hl 0 rfl) ?_
                    refine y_isubU C0 dX7_follow_113 (fun v_86 => ?_)
                    refine lv_istore (lv' := [(4, .int v_86), (8, .int r_57), (7, .int r_43), (6, .int x6_22), (5, .int x5_5), (0, .ref (ad 87)), (1, .int a1), (2, .int a2), (3, .int a3)]) C0.1 C0.2.1 dX7_follow_114 hl (by decide) rfl (fun ls hl => ?_)
                    refine lv_aload_n C0.1 C0.2.1 dX7_follow_116 rfl (lv_at hl 5 rfl) ?_
                    refine lv_iload C0.1 C0.2.1 dX7_follow_117 (lv_at hl 2 rfl) ?_
                    refine tp_X7_last C0 h kSC_87 q_348 (o19_247 e_44 e_45 c_46) (o19_248 e_44 e_45 c_46) dX7_follow_119 (fun H locs ws_87 h u_88 => ?_)
                    refine lv_goto (tgt := 131) C0.1 C0.2.1 dX7_follow_122 (by decide) ?_
                    refine y_inc (kp := 4) (n := 1) (fun v_89 => [(5, .int v_89), (4, .int v_86), (8, .int r_57), (7, .int r_43), (6, .int x6_22), (0, .ref (ad 87)), (1, .int a1), (2, .int a2), (3, .int a3)]) C0 hl rfl (by decide) (by decide) (fun _ => rfl) (o19_251 l2 u2 b_13 b_14 hn_12 e_17 e_18 c_19 e_48 e_65 e_66 q_67 e_69 e_71 e_73 (le_min x5_5) (le_max x5_5) (le_min a2) (le_max a2) (le_min v_15) (le_max v_15) (le_min v_47) (le_max v_47) (le_min v_63) (le_max v_63) (le_min v_68) (le_max v_68) (le_min v_70) (le_max v_70) (le_min v_72) (le_max v_72)) (o19_252 l2 u2 b_13 b_14 hn_12 e_17 e_18 c_19 e_48 e_65 e_66 q_67 e_69 e_71 e_73 (le_min x5_5) (le_max x5_5) (le_min a2) (le_max a2) (le_min v_15) (le_max v_15) (le_min v_47) (le_max v_47) (le_min v_63) (le_max v_63) (le_min v_68) (le_max v_68) (le_min v_70) (le_max v_70) (le_min v_72) (le_max v_72)) dX7_follow_131 (fun v_89 ls e_90 hl => ?_)
                    refine lv_goto (tgt := 11) C0.1 C0.2.1 dX7_follow_134 (by decide) ?_
                    exact ih_10 v_89 v_86 _ _ _ _ (o19_253 l2 u2 b_13 b_14 hn_12 e_17 e_18 c_19 e_48 e_65 e_66 q_67 e_69 e_71 e_73 e_90) (o19_254 l2 u2 b_13 b_14 hn_12 e_17 e_18 c_19 e_48 e_65 e_66 q_67 e_69 e_71 e_73 e_90) (o19_255 l2 u2 b_13 b_14 hn_12 e_17 e_18 c_19 e_48 e_65 e_66 q_67 e_69 e_71 e_73 e_90) h (Fr.tr (Fr.tr (Fr.tr (Fr.tr (Fr.tr (Fr.tr hF_8 (Fr.mono hF_24 (by decide))) (Fr.mono u_41 (by decide))) (Fr.mono u_55 (by decide))) (Fr.mono u_76 (by decide))) (Fr.up u_85.1 kSC_89 (by decide))) (Fr.up u_88.1 kSC_87 (by decide))) (lv_sub hl [0, 1, 5, 6, 7, 8] rfl)
              · -- 46
                refine y_c1 (n := (-1)) C0 (by decide) dX7_follow_49 (fun v_91 e_92 => ?_)
                refine lv_goto (tgt := 70) C0.1 C0.2.1 dX7_follow_50 (by decide) ?_
                refine lv_istore (lv' := [(8, .int v_91), (7, .int r_43), (6, .int x6_22), (5, .int x5_5), (4, .int x4_6), (0, .ref (ad 87)), (1, .int a1), (2, .int a2), (3, .int a3)]) C0.1 C0.2.1 dX7_follow_70 hl (by decide) rfl (fun ls hl => ?_)
                refine lv_iload C0.1 C0.2.1 dX7_follow_72 (lv_at hl 0 rfl) ?_
                refine y_if_lt (tgt := 125) C0 dX7_follow_74 (by decide) (fun c_93 => ?_) (fun c_93 => ((o19_256 e_92 c_93)).elim)
                refine y_inc (kp := 2) (n := 1) (fun v_94 => [(6, .int v_94), (8, .int v_91), (7, .int r_43), (5, .int x5_5), (4, .int x4_6), (0, .ref (ad 87)), (1, .int a1), (2, .int a2), (3, .int a3)]) C0 hl rfl (by decide) (by decide) (fun _ => rfl) (o19_223 b_29 b_30 hn_28 e_32 c_33 (le_min x6_22) (le_max x6_22) (le_min v_31) (le_max v_31)) (o19_224 b_29 b_30 hn_28 e_32 c_33 (le_min x6_22) (le_max x6_22) (le_min v_31) (le_max v_31)) dX7_follow_125 (fun v_94 ls e_95 hl => ?_)
                refine lv_goto (tgt := 23) C0.1 C0.2.1 dX7_follow_128 (by decide) ?_
                exact ih_26 v_94 _ _ _ _ (o19_225 b_29 b_30 hn_28 e_32 c_33 e_95) (o19_226 b_29 b_30 hn_28 e_32 c_33 e_95) (o19_227 b_29 b_30 hn_28 e_32 c_33 e_95) h (Fr.tr hF_24 (Fr.mono u_41 (by decide))) (lv_sub hl [0, 3, 4, 5, 6, 7, 8] rfl)
        exact lp_25 ((4 - v_20.toInt + 1).toNat) v_20 _ _ _ _ (o19_86 e_21) (o19_87 e_21) (o19_88 e_21) h Fr.rf (lv_sub hl [0, 1, 2, 3, 4, 5, 6] rfl)
  exact lp_9 ((60 - v_3.toInt + 1).toNat) v_3 a3 _ _ _ _ (o19_257 e_4) (o19_87 e_4) (o19_258 e_4) h Fr.rf (lv_sub hl [0, 1, 2, 3, 4, 5] rfl)
set_option maxHeartbeats 4000000 in
set_option maxRecDepth 100000 in
theorem c_X7_trace (l : Launch) (G : GG) (Z : RZ) (ad : Nat → Nat) (ws0 : va_W) (hT : Ty G (SC tt) ad ws0) (a1 : Int32) (a2 : Int32) (a3 : Int32) (a4 : Int32) (a5 : Int32) (l1 : 0 ≤ a1.toInt) (u1 : a1.toInt ≤ 99) (l2 : 0 ≤ a2.toInt) (u2 : a2.toInt ≤ 180) (l5 : 0 ≤ a5.toInt) (u5 : a5.toInt ≤ 60) (hR : Rel ws0) : Mq l yX7_trace cX7_trace 6 none 6 G Z [.ref (ad 87), .int a1, .int a2, .int a3, .int a4, .int a5] ws0 (PV G (SC tt) ad [4, 5, 18, 19, 20, 21, 25, 26, 27] ws0 (fun u => True)) := by
  refine Mq.start (by decide) (Nat.le_of_ble_eq_true rfl) ?_
  intro p e s m below meth c A ls C0 hZ h hl
  have hl : lv_has ls 6 [(0, .ref (ad 87)), (1, .int a1), (2, .int a2), (3, .int a3), (4, .int a4), (5, .int a5)] := hl
  have h : Wt G (SC tt) ad A s s.heap [] ws0 := ⟨h, hT⟩
  obtain ⟨args, hargs⟩ : ∃ z, z = ([.ref (ad 87), .int a1, .int a2, .int a3, .int a4, .int a5] : List Value).toArray := ⟨_, rfl⟩
  rw [← hargs] at C0 ⊢
  have C0 : Cx p s m args meth c RX7 cX7_trace 6 none := C0
  obtain ⟨Q, hQ⟩ : ∃ z, z = MQ below ((PV G (SC tt) ad [4, 5, 18, 19, 20, 21, 25, 26, 27] ws0 (fun u => True)) A) args s 0 0 A := ⟨_, rfl⟩
  rw [← hQ]
  refine lv_aload_n C0.1 C0.2.1 dX7_trace_0 rfl (lv_at hl 0 rfl) ?_
  refine lv_iload C0.1 C0.2.1 dX7_trace_1 (lv_at hl 5 rfl) ?_
  refine tp_X7_length C0 h kSC_87 q_347 (o19_1 l5 u5) (o19_2 l5 u5) dX7_trace_3 (fun H locs ws_1 h u_2 => ?_)
  refine lv_aload_n C0.1 C0.2.1 dX7_trace_6 rfl (lv_at hl 0 rfl) ?_
  refine lv_iload_n C0.1 C0.2.1 dX7_trace_7 rfl (lv_at hl 2 rfl) ?_
  refine lv_iload_n C0.1 C0.2.1 dX7_trace_8 rfl (lv_at hl 3 rfl) ?_
  refine lv_iload C0.1 C0.2.1 dX7_trace_9 (lv_at hl 4 rfl) ?_
  refine y_cv h (y_rV (As := [.int a2, .int a3, .int a4]) (rest := []) C0 hZ h (c_X7_lookBack l G Z ad _ h.2 a2 a3 a4 (o19_259 l2 u2) (o19_260 l2 u2)) k_X7_lookBack q_1159 q_41 q_1157 kSC_87 rfl rfl rfl hl.1 rfl rfl (Nat.le_of_ble_eq_true rfl) dX7_trace_11 ⟨Nat.le_of_ble_eq_true rfl, Nat.le_of_ble_eq_true rfl⟩ ⟨Nat.le_of_ble_eq_true rfl, Nat.le_of_ble_eq_true rfl⟩) (fun H locs ws_3 h u_4 p_5 => ?_)
  refine lv_aload_n C0.1 C0.2.1 dX7_trace_14 rfl (lv_at hl 0 rfl) ?_
  refine lv_iload_n C0.1 C0.2.1 dX7_trace_15 rfl (lv_at hl 1 rfl) ?_
  refine lv_iload_n C0.1 C0.2.1 dX7_trace_16 rfl (lv_at hl 2 rfl) ?_
  refine lv_iload C0.1 C0.2.1 dX7_trace_17 (lv_at hl 4 rfl) ?_
  refine y_cv h (y_rV (As := [.int a1, .int a2, .int a4]) (rest := []) C0 hZ h (c_X7_follow l G Z ad _ h.2 a1 a2 a4 (o19_3 l1 u1) (o19_4 l1 u1) (o19_259 l2 u2) (o19_260 l2 u2) (Rel.fr (M := [4, 5, 18, 19, 20, 21, 25, 26]) hR (Fr.tr (Fr.up u_2.1 kSC_87 (by decide)) (Fr.mono u_4 (by decide))) (by decide) (by decide))) k_X7_follow q_1177 q_44 q_1175 kSC_87 rfl rfl rfl hl.1 rfl rfl (Nat.le_of_ble_eq_true rfl) dX7_trace_19 ⟨Nat.le_of_ble_eq_true rfl, Nat.le_of_ble_eq_true rfl⟩ ⟨Nat.le_of_ble_eq_true rfl, Nat.le_of_ble_eq_true rfl⟩) (fun H locs ws_6 h u_7 p_8 => ?_)
  rw [hQ]
  exact y_vret C0 h (Fr.tr (Fr.tr (Fr.up u_2.1 kSC_87 (by decide)) (Fr.mono u_4 (by decide))) (Fr.mono u_7 (by decide))) trivial dX7_trace_22
set_option maxHeartbeats 4000000 in
set_option maxRecDepth 100000 in
theorem c_X7_shortest (l : Launch) (G : GG) (Z : RZ) (ad : Nat → Nat) (ws0 : va_W) (hT : Ty G (SC tt) ad ws0) (a1 : Int32) (a2 : Int32) (a3 : Int32) (l1 : 0 ≤ a1.toInt) (u1 : a1.toInt ≤ 99) (l3 : 0 ≤ a3.toInt) (u3 : a3.toInt ≤ 120) (hR : Rel ws0) : Mq l yX7_shortest cX7_shortest 5 (some .boolean) 7 G Z [.ref (ad 87), .int a1, .int a2, .int a3] ws0 (PI G (SC tt) ad [4, 5, 18, 19, 20, 21, 22, 23, 25, 26, 27] ws0 (fun r u => (0 ≤ r.toInt) ∧ (r.toInt ≤ 1))) := by
  refine Mq.start (by decide) (Nat.le_of_ble_eq_true rfl) ?_
  intro p e s m below meth c A ls C0 hZ h hl
  have hl : lv_has ls 5 [(0, .ref (ad 87)), (1, .int a1), (2, .int a2), (3, .int a3)] := hl
  have h : Wt G (SC tt) ad A s s.heap [] ws0 := ⟨h, hT⟩
  obtain ⟨args, hargs⟩ : ∃ z, z = ([.ref (ad 87), .int a1, .int a2, .int a3] : List Value).toArray := ⟨_, rfl⟩
  rw [← hargs] at C0 ⊢
  have C0 : Cx p s m args meth c RX7 cX7_shortest 5 (some .boolean) := C0
  obtain ⟨Q, hQ⟩ : ∃ z, z = MQ below ((PI G (SC tt) ad [4, 5, 18, 19, 20, 21, 22, 23, 25, 26, 27] ws0 (fun r u => (0 ≤ r.toInt) ∧ (r.toInt ≤ 1))) A) args s 0 0 A := ⟨_, rfl⟩
  rw [← hQ]
  refine lv_aload_n C0.1 C0.2.1 dX7_shortest_0 rfl (lv_at hl 0 rfl) ?_
  refine tg_X7_spread C0 h kSC_87 q_344 dX7_shortest_1 ?_
  refine lv_iload_n C0.1 C0.2.1 dX7_shortest_4 rfl (lv_at hl 1 rfl) ?_
  refine lv_iload_n C0.1 C0.2.1 dX7_shortest_5 rfl (lv_at hl 2 rfl) ?_
  refine lv_iload_n C0.1 C0.2.1 dX7_shortest_6 rfl (lv_at hl 3 rfl) ?_
  refine y_c2 (n := 60) C0 (by decide) dX7_shortest_7 (fun v_1 e_2 => ?_)
  refine y_c1 (n := 0) C0 (by decide) dX7_shortest_9 (fun v_3 e_4 => ?_)
  refine y_ci h (y_rV (As := [.int a1, .int a2, .int a3, .int v_1, .int v_3]) (rest := []) C0 hZ h (c_X8_fewestStreets l G Z ad _ h.2 a1 a2 a3 v_1 v_3 (o19_3 l1 u1) (o19_4 l1 u1) (o19_261 l3 u3) (o19_262 l3 u3) (o19_263 e_2) (o19_264 e_2)) k_X8_fewestStreets q_1075 q_1076 q_1152 kSC_83 rfl rfl rfl hl.1 rfl rfl (Nat.le_of_ble_eq_true rfl) dX7_shortest_10 ⟨Nat.le_of_ble_eq_true rfl, Nat.le_of_ble_eq_true rfl⟩ ⟨Nat.le_of_ble_eq_true rfl, Nat.le_of_ble_eq_true rfl⟩) (fun r_8 H locs ws_5 h u_6 p_7 => ?_)
  obtain ⟨e_9, e_10⟩ := p_7
  refine lv_istore (lv' := [(4, .int r_8), (0, .ref (ad 87)), (1, .int a1), (2, .int a2), (3, .int a3)]) C0.1 C0.2.1 dX7_shortest_13 hl (by decide) rfl (fun ls hl => ?_)
  refine lv_iload C0.1 C0.2.1 dX7_shortest_15 (lv_at hl 0 rfl) ?_
  refine y_if_ge (tgt := 22) C0 dX7_shortest_17 (by decide) (fun c_11 => ?_) (fun c_11 => ?_)
  · -- 17
    refine lv_aload_n C0.1 C0.2.1 dX7_shortest_22 rfl (lv_at hl 1 rfl) ?_
    refine lv_iload_n C0.1 C0.2.1 dX7_shortest_23 rfl (lv_at hl 2 rfl) ?_
    refine y_c1 (n := 0) C0 (by decide) dX7_shortest_24 (fun v_12 e_13 => ?_)
    refine lv_iload_n C0.1 C0.2.1 dX7_shortest_25 rfl (lv_at hl 3 rfl) ?_
    refine lv_iload_n C0.1 C0.2.1 dX7_shortest_26 rfl (lv_at hl 4 rfl) ?_
    refine lv_iload C0.1 C0.2.1 dX7_shortest_27 (lv_at hl 0 rfl) ?_
    refine y_cv h (y_rV (As := [.int a1, .int v_12, .int a2, .int a3, .int r_8]) (rest := []) C0 hZ h (c_X7_trace l G Z ad _ h.2 a1 v_12 a2 a3 r_8 (o19_3 l1 u1) (o19_4 l1 u1) (o19_87 e_13) (o19_265 e_13) (o19_266 e_9 e_10 c_11) (o19_267 e_9 e_10 c_11) (Rel.fr (M := [4, 5, 18, 19, 20, 21, 22, 23]) hR u_6 (by decide) (by decide))) k_X7_trace q_1154 q_1155 q_1153 kSC_87 rfl rfl rfl hl.1 rfl rfl (Nat.le_of_ble_eq_true rfl) dX7_shortest_29 ⟨Nat.le_of_ble_eq_true rfl, Nat.le_of_ble_eq_true rfl⟩ ⟨Nat.le_of_ble_eq_true rfl, Nat.le_of_ble_eq_true rfl⟩) (fun H locs ws_14 h u_15 p_16 => ?_)
    refine y_c1 (n := 1) C0 (by decide) dX7_shortest_32 (fun v_17 e_18 => ?_)
    rw [hQ]
    exact y_zret C0 h (o19_110 e_18) (o19_111 e_18) (Fr.tr (Fr.mono u_6 (by decide)) (Fr.mono u_15 (by decide))) ⟨(o19_110 e_18), (o19_111 e_18)⟩ dX7_shortest_33
  · -- 17
    refine y_c1 (n := 0) C0 (by decide) dX7_shortest_20 (fun v_19 e_20 => ?_)
    rw [hQ]
    exact y_zret C0 h (o19_87 e_20) (o19_93 e_20) (Fr.mono u_6 (by decide)) ⟨(o19_87 e_20), (o19_93 e_20)⟩ dX7_shortest_21
set_option maxHeartbeats 4000000 in
set_option maxRecDepth 100000 in
theorem c_X6_begin (l : Launch) (G : GG) (Z : RZ) (ad : Nat → Nat) (ws0 : va_W) (hT : Ty G (SC tt) ad ws0) (i1 : Nat) (hi1 : Kd (SC tt) i1 42) (fl0 : 0 ≤ (fI ws0 i1 2).toInt) (fh0 : (fI ws0 i1 2).toInt ≤ 4) : Mq l yX6_begin cX6_begin 3 none 2 G Z [.ref (ad 90), .ref (ad i1)] ws0 (PV G (SC tt) ad [28, 29] ws0 (fun u => True)) := by
  refine Mq.start (by decide) (Nat.le_of_ble_eq_true rfl) ?_
  intro p e s m below meth c A ls C0 hZ h hl
  have hl : lv_has ls 3 [(0, .ref (ad 90)), (1, .ref (ad i1))] := hl
  have h : Wt G (SC tt) ad A s s.heap [] ws0 := ⟨h, hT⟩
  obtain ⟨args, hargs⟩ : ∃ z, z = ([.ref (ad 90), .ref (ad i1)] : List Value).toArray := ⟨_, rfl⟩
  rw [← hargs] at C0 ⊢
  have C0 : Cx p s m args meth c RX6 cX6_begin 3 none := C0
  obtain ⟨Q, hQ⟩ : ∃ z, z = MQ below ((PV G (SC tt) ad [28, 29] ws0 (fun u => True)) A) args s 0 0 A := ⟨_, rfl⟩
  rw [← hQ]
  obtain ⟨fp0, ef0⟩ : ∃ v, fI ws0 i1 2 = v := ⟨_, rfl⟩
  rw [ef0] at fl0 fh0
  refine lv_aload_n C0.1 C0.2.1 dX6_begin_0 rfl (lv_at hl 0 rfl) ?_
  refine lv_aload_n C0.1 C0.2.1 dX6_begin_1 rfl (lv_at hl 1 rfl) ?_
  refine tg_X10_size C0 h hi1 q_501 dX6_begin_2 (fun v_1 e_2 e_3 e_4 => ?_)
  have q_5 : v_1.toInt = fp0.toInt := congrArg Int32.toInt (e_2.symm.trans (Eq.trans rfl ef0))
  refine y_c1 (n := 4) C0 (by decide) dX6_begin_5 (fun v_6 e_7 => ?_)
  refine y_min C0 hl.1 q_1286 q_663 q_141 q_664 (Nat.le_of_ble_eq_true rfl) (Nat.le_of_ble_eq_true rfl) (Nat.le_of_ble_eq_true rfl) (Nat.le_of_ble_eq_true rfl) dX6_begin_6 (fun v_8 e_9 => ?_)
  refine tp_X6_size C0 h kSC_90 q_416 (o19_268 fl0 fh0 e_3 e_4 q_5 e_7 e_9) (o19_269 fl0 fh0 e_3 e_4 q_5 e_7 e_9) dX6_begin_9 (fun H locs ws_10 h u_11 => ?_)
  refine y_c1 (n := 0) C0 (by decide) dX6_begin_12 (fun v_12 e_13 => ?_)
  refine lv_istore_n (lv' := [(2, .int v_12), (0, .ref (ad 90)), (1, .ref (ad i1))]) C0.1 C0.2.1 dX6_begin_13 rfl hl (by decide) rfl (fun ls hl => ?_)
  have lp_17 : ∀ (n_19 : Nat) (x2_14 : Int32) (H : Heap) (locs : List Loc) (ls : Array Slot) (ws_15 : va_W), 4 - x2_14.toInt < (n_19 : Int) → 0 ≤ x2_14.toInt → x2_14.toInt ≤ 4 → Wt G (SC tt) ad A s H locs ws_15 → Fr (SC tt) [29] ws_10 ws_15 → lv_has ls 3 [(2, .int x2_14), (0, .ref (ad 90)), (1, .ref (ad i1))] → W p l e (rmd 2 0 0) s m args below meth c H locs 0 0 Q (F0 m 14 ls []) := by
    intro n_19
    induction n_19 with
    | zero => intro x2_14 H locs ls ws_15 hn_20 b_21 b_22 h hF_16 hl; exact ((o19_50 b_21 b_22 hn_20)).elim
    | succ n_19 ih_18 =>
      intro x2_14 H locs ls ws_15 hn_20 b_21 b_22 h hF_16 hl
      refine lv_iload_n C0.1 C0.2.1 dX6_begin_14 rfl (lv_at hl 0 rfl) ?_
      refine lv_aload_n C0.1 C0.2.1 dX6_begin_15 rfl (lv_at hl 1 rfl) ?_
      refine tg_X6_size C0 h kSC_90 q_416 dX6_begin_16 (fun v_23 e_24 e_25 e_26 => ?_)
      have q_27 : v_23.toInt = v_8.toInt := congrArg Int32.toInt (e_24.symm.trans (Eq.trans (Fr.fI hF_16 kSC_90 (by decide)) u_11.2.1))
      refine y_icmp_ge (tgt := 39) C0 dX6_begin_19 (by decide) (fun c_28 => ?_) (fun c_28 => ?_)
      · -- 19
        refine lv_aload_n C0.1 C0.2.1 dX6_begin_39 rfl (lv_at hl 1 rfl) ?_
        refine y_c1 (n := 0) C0 (by decide) dX6_begin_40 (fun v_29 e_30 => ?_)
        refine tp_X6_done C0 h kSC_90 q_417 (le_min v_29) (le_max v_29) dX6_begin_41 (fun H locs ws_31 h u_32 => ?_)
        refine lv_aload_n C0.1 C0.2.1 dX6_begin_44 rfl (lv_at hl 1 rfl) ?_
        refine y_c1 (n := 0) C0 (by decide) dX6_begin_45 (fun v_33 e_34 => ?_)
        refine tp_X6_any C0 h kSC_90 q_418 (o19_87 e_34) (o19_93 e_34) dX6_begin_46 (fun H locs ws_35 h u_36 => ?_)
        rw [hQ]
        exact y_vret C0 h (Fr.tr (Fr.tr (Fr.tr (Fr.up u_11.1 kSC_90 (by decide)) (Fr.mono hF_16 (by decide))) (Fr.up u_32.1 kSC_90 (by decide))) (Fr.up u_36.1 kSC_90 (by decide))) trivial dX6_begin_49
      · -- 19
        refine lv_aload_n C0.1 C0.2.1 dX6_begin_22 rfl (lv_at hl 1 rfl) ?_
        refine tg_X6_stops C0 h kSC_90 q_413 dX6_begin_23 ?_
        refine lv_iload_n C0.1 C0.2.1 dX6_begin_26 rfl (lv_at hl 0 rfl) ?_
        refine lv_aload_n C0.1 C0.2.1 dX6_begin_27 rfl (lv_at hl 2 rfl) ?_
        refine lv_iload_n C0.1 C0.2.1 dX6_begin_28 rfl (lv_at hl 0 rfl) ?_
        refine y_ci h (y_rV (As := [.int x2_14]) (rest := [.int x2_14, .ref (ad 91)]) C0 hZ h (c_X10_asSmall l G Z ad _ h.2 i1 hi1 x2_14) k_X10_asSmall q_1005 q_1006 q_1287 hi1 rfl rfl rfl hl.1 rfl rfl (Nat.le_of_ble_eq_true rfl) dX6_begin_29 ⟨Nat.le_of_ble_eq_true rfl, Nat.le_of_ble_eq_true rfl⟩ ⟨Nat.le_of_ble_eq_true rfl, Nat.le_of_ble_eq_true rfl⟩) (fun r_40 H locs ws_37 h u_38 p_39 => ?_)
        have e_41 := p_39
        refine y_iast C0 h kSC_91 rfl (by decide) (o19_270 fl0 fh0 e_3 e_4 q_5 e_7 e_9 b_21 b_22 hn_20 e_25 e_26 q_27 c_28) (o19_271 fl0 fh0 e_3 e_4 q_5 e_7 e_9 b_21 b_22 hn_20 e_25 e_26 q_27 c_28) (le_min r_40) (le_max r_40) dX6_begin_32 (fun H locs ws_42 h u_43 => ?_)
        refine y_inc (kp := 0) (n := 1) (fun v_44 => [(2, .int v_44), (0, .ref (ad 90)), (1, .ref (ad i1))]) C0 hl rfl (by decide) (by decide) (fun _ => rfl) (o19_272 fl0 fh0 e_3 e_4 q_5 e_7 e_9 b_21 b_22 hn_20 e_25 e_26 q_27 c_28 (le_min x2_14) (le_max x2_14) (le_min fp0) (le_max fp0) (le_min v_1) (le_max v_1) (le_min v_6) (le_max v_6) (le_min v_8) (le_max v_8) (le_min v_23) (le_max v_23)) (o19_273 fl0 fh0 e_3 e_4 q_5 e_7 e_9 b_21 b_22 hn_20 e_25 e_26 q_27 c_28 (le_min x2_14) (le_max x2_14) (le_min fp0) (le_max fp0) (le_min v_1) (le_max v_1) (le_min v_6) (le_max v_6) (le_min v_8) (le_max v_8) (le_min v_23) (le_max v_23)) dX6_begin_33 (fun v_44 ls e_45 hl => ?_)
        refine lv_goto (tgt := 14) C0.1 C0.2.1 dX6_begin_36 (by decide) ?_
        exact ih_18 v_44 _ _ _ _ (o19_274 fl0 fh0 e_3 e_4 q_5 e_7 e_9 b_21 b_22 hn_20 e_25 e_26 q_27 c_28 e_45) (o19_275 fl0 fh0 e_3 e_4 q_5 e_7 e_9 b_21 b_22 hn_20 e_25 e_26 q_27 c_28 e_45) (o19_276 fl0 fh0 e_3 e_4 q_5 e_7 e_9 b_21 b_22 hn_20 e_25 e_26 q_27 c_28 e_45) h (Fr.tr (Fr.tr hF_16 (Fr.mono u_38 (by decide))) (Fr.up u_43.1 kSC_91 (by decide))) (lv_sub hl [0, 1, 2] rfl)
  exact lp_17 ((4 - v_12.toInt + 1).toNat) v_12 _ _ _ _ (o19_86 e_13) (o19_87 e_13) (o19_88 e_13) h Fr.rf (lv_sub hl [0, 1, 2] rfl)
set_option maxHeartbeats 4000000 in
set_option maxRecDepth 100000 in
theorem c_X6_compare (l : Launch) (G : GG) (Z : RZ) (ad : Nat → Nat) (ws0 : va_W) (hT : Ty G (SC tt) ad ws0) (a1 : Int32) (a2 : Int32) : Mq l yX6_compare cX6_compare 3 none 1 G Z [.ref (ad 90), .int a1, .int a2] ws0 (PV G (SC tt) ad [28, 31] ws0 (fun u => True)) := by
  refine Mq.start (by decide) (Nat.le_of_ble_eq_true rfl) ?_
  intro p e s m below meth c A ls C0 hZ h hl
  have hl : lv_has ls 3 [(0, .ref (ad 90)), (1, .int a1), (2, .int a2)] := hl
  have h : Wt G (SC tt) ad A s s.heap [] ws0 := ⟨h, hT⟩
  obtain ⟨args, hargs⟩ : ∃ z, z = ([.ref (ad 90), .int a1, .int a2] : List Value).toArray := ⟨_, rfl⟩
  rw [← hargs] at C0 ⊢
  have C0 : Cx p s m args meth c RX6 cX6_compare 3 none := C0
  obtain ⟨Q, hQ⟩ : ∃ z, z = MQ below ((PV G (SC tt) ad [28, 31] ws0 (fun u => True)) A) args s 0 0 A := ⟨_, rfl⟩
  rw [← hQ]
  refine lv_aload_n C0.1 C0.2.1 dX6_compare_0 rfl (lv_at hl 0 rfl) ?_
  refine tg_X6_any C0 h kSC_90 q_418 dX6_compare_1 (fun v_1 e_2 e_3 e_4 => ?_)
  refine y_if_eq (tgt := 32) C0 dX6_compare_4 (by decide) (fun c_5 => ?_) (fun c_5 => ?_)
  · -- 4
    refine lv_aload_n C0.1 C0.2.1 dX6_compare_32 rfl (lv_at hl 0 rfl) ?_
    refine y_c1 (n := 1) C0 (by decide) dX6_compare_33 (fun v_6 e_7 => ?_)
    refine tp_X6_any C0 h kSC_90 q_418 (o19_110 e_7) (o19_111 e_7) dX6_compare_34 (fun H locs ws_8 h u_9 => ?_)
    refine lv_aload_n C0.1 C0.2.1 dX6_compare_37 rfl (lv_at hl 0 rfl) ?_
    refine lv_iload_n C0.1 C0.2.1 dX6_compare_38 rfl (lv_at hl 1 rfl) ?_
    refine tp_X6_bestLefts C0 h kSC_90 q_419 (le_min a1) (le_max a1) dX6_compare_39 (fun H locs ws_10 h u_11 => ?_)
    refine lv_aload_n C0.1 C0.2.1 dX6_compare_42 rfl (lv_at hl 0 rfl) ?_
    refine lv_iload_n C0.1 C0.2.1 dX6_compare_43 rfl (lv_at hl 2 rfl) ?_
    refine tp_X6_bestStreets C0 h kSC_90 q_420 (le_min a2) (le_max a2) dX6_compare_44 (fun H locs ws_12 h u_13 => ?_)
    refine lv_aload_n C0.1 C0.2.1 dX6_compare_47 rfl (lv_at hl 0 rfl) ?_
    refine tg_X6_order C0 h kSC_90 q_414 dX6_compare_48 ?_
    refine y_c1 (n := 0) C0 (by decide) dX6_compare_51 (fun v_14 e_15 => ?_)
    refine lv_aload_n C0.1 C0.2.1 dX6_compare_52 rfl (lv_at hl 0 rfl) ?_
    refine tg_X6_bestOrder C0 h kSC_90 q_415 dX6_compare_53 ?_
    refine y_c1 (n := 0) C0 (by decide) dX6_compare_56 (fun v_16 e_17 => ?_)
    refine lv_aload_n C0.1 C0.2.1 dX6_compare_57 rfl (lv_at hl 0 rfl) ?_
    refine tg_X6_size C0 h kSC_90 q_416 dX6_compare_58 (fun v_18 e_19 e_20 e_21 => ?_)
    refine y_copy C0 h hl.1 kSC_92 kSC_93 rfl rfl q_1296 q_866 q_865 q_145 (o19_277 e_15) (o19_277 e_17) (o19_278 e_20 e_21) (o19_279 e_20 e_21) (o19_279 e_20 e_21) (fun _ _ => ⟨by decide, by decide⟩) (Nat.le_of_ble_eq_true rfl) (Nat.le_of_ble_eq_true rfl) dX6_compare_61 (fun H locs ws_22 h u_23 c_24 c_25 => ?_)
    rw [hQ]
    exact y_vret C0 h (Fr.tr (Fr.tr (Fr.tr (Fr.up u_9.1 kSC_90 (by decide)) (Fr.up u_11.1 kSC_90 (by decide))) (Fr.up u_13.1 kSC_90 (by decide))) (Fr.up u_23 kSC_93 (by decide))) trivial dX6_compare_64
  · -- 4
    refine lv_iload_n C0.1 C0.2.1 dX6_compare_7 rfl (lv_at hl 1 rfl) ?_
    refine lv_aload_n C0.1 C0.2.1 dX6_compare_8 rfl (lv_at hl 0 rfl) ?_
    refine tg_X6_bestLefts C0 h kSC_90 q_419 dX6_compare_9 (fun v_26 e_27 e_28 e_29 => ?_)
    refine y_icmp_gt (tgt := 31) C0 dX6_compare_12 (by decide) (fun c_30 => ?_) (fun c_30 => ?_)
    · -- 12
      rw [hQ]
      exact y_vret C0 h Fr.rf trivial dX6_compare_31
    · -- 12
      refine lv_iload_n C0.1 C0.2.1 dX6_compare_15 rfl (lv_at hl 1 rfl) ?_
      refine lv_aload_n C0.1 C0.2.1 dX6_compare_16 rfl (lv_at hl 0 rfl) ?_
      refine tg_X6_bestLefts C0 h kSC_90 q_419 dX6_compare_17 (fun v_31 e_32 e_33 e_34 => ?_)
      have q_35 : v_31.toInt = v_26.toInt := congrArg Int32.toInt (e_32.symm.trans (Eq.trans rfl e_27))
      refine y_icmp_ne (tgt := 32) C0 dX6_compare_20 (by decide) (fun c_36 => ?_) (fun c_36 => ?_)
      · -- 20
        refine lv_aload_n C0.1 C0.2.1 dX6_compare_32 rfl (lv_at hl 0 rfl) ?_
        refine y_c1 (n := 1) C0 (by decide) dX6_compare_33 (fun v_37 e_38 => ?_)
        refine tp_X6_any C0 h kSC_90 q_418 (o19_110 e_38) (o19_111 e_38) dX6_compare_34 (fun H locs ws_39 h u_40 => ?_)
        refine lv_aload_n C0.1 C0.2.1 dX6_compare_37 rfl (lv_at hl 0 rfl) ?_
        refine lv_iload_n C0.1 C0.2.1 dX6_compare_38 rfl (lv_at hl 1 rfl) ?_
        refine tp_X6_bestLefts C0 h kSC_90 q_419 (le_min a1) (le_max a1) dX6_compare_39 (fun H locs ws_41 h u_42 => ?_)
        refine lv_aload_n C0.1 C0.2.1 dX6_compare_42 rfl (lv_at hl 0 rfl) ?_
        refine lv_iload_n C0.1 C0.2.1 dX6_compare_43 rfl (lv_at hl 2 rfl) ?_
        refine tp_X6_bestStreets C0 h kSC_90 q_420 (le_min a2) (le_max a2) dX6_compare_44 (fun H locs ws_43 h u_44 => ?_)
        refine lv_aload_n C0.1 C0.2.1 dX6_compare_47 rfl (lv_at hl 0 rfl) ?_
        refine tg_X6_order C0 h kSC_90 q_414 dX6_compare_48 ?_
        refine y_c1 (n := 0) C0 (by decide) dX6_compare_51 (fun v_45 e_46 => ?_)
        refine lv_aload_n C0.1 C0.2.1 dX6_compare_52 rfl (lv_at hl 0 rfl) ?_
        refine tg_X6_bestOrder C0 h kSC_90 q_415 dX6_compare_53 ?_
        refine y_c1 (n := 0) C0 (by decide) dX6_compare_56 (fun v_47 e_48 => ?_)
        refine lv_aload_n C0.1 C0.2.1 dX6_compare_57 rfl (lv_at hl 0 rfl) ?_
        refine tg_X6_size C0 h kSC_90 q_416 dX6_compare_58 (fun v_49 e_50 e_51 e_52 => ?_)
        refine y_copy C0 h hl.1 kSC_92 kSC_93 rfl rfl q_1296 q_866 q_865 q_145 (o19_277 e_46) (o19_277 e_48) (o19_278 e_51 e_52) (o19_279 e_51 e_52) (o19_279 e_51 e_52) (fun _ _ => ⟨by decide, by decide⟩) (Nat.le_of_ble_eq_true rfl) (Nat.le_of_ble_eq_true rfl) dX6_compare_61 (fun H locs ws_53 h u_54 c_55 c_56 => ?_)
        rw [hQ]
        exact y_vret C0 h (Fr.tr (Fr.tr (Fr.tr (Fr.up u_40.1 kSC_90 (by decide)) (Fr.up u_42.1 kSC_90 (by decide))) (Fr.up u_44.1 kSC_90 (by decide))) (Fr.up u_54 kSC_93 (by decide))) trivial dX6_compare_64
      · -- 20
        refine lv_iload_n C0.1 C0.2.1 dX6_compare_23 rfl (lv_at hl 2 rfl) ?_
        refine lv_aload_n C0.1 C0.2.1 dX6_compare_24 rfl (lv_at hl 0 rfl) ?_
        refine tg_X6_bestStreets C0 h kSC_90 q_420 dX6_compare_25 (fun v_57 e_58 e_59 e_60 => ?_)
        refine y_icmp_lt (tgt := 32) C0 dX6_compare_28 (by decide) (fun c_61 => ?_) (fun c_61 => ?_)
        · -- 28
          refine lv_aload_n C0.1 C0.2.1 dX6_compare_32 rfl (lv_at hl 0 rfl) ?_
          refine y_c1 (n := 1) C0 (by decide) dX6_compare_33 (fun v_62 e_63 => ?_)
          refine tp_X6_any C0 h kSC_90 q_418 (o19_110 e_63) (o19_111 e_63) dX6_compare_34 (fun H locs ws_64 h u_65 => ?_)
          refine lv_aload_n C0.1 C0.2.1 dX6_compare_37 rfl (lv_at hl 0 rfl) ?_
          refine lv_iload_n C0.1 C0.2.1 dX6_compare_38 rfl (lv_at hl 1 rfl) ?_
          refine tp_X6_bestLefts C0 h kSC_90 q_419 (le_min a1) (le_max a1) dX6_compare_39 (fun H locs ws_66 h u_67 => ?_)
          refine lv_aload_n C0.1 C0.2.1 dX6_compare_42 rfl (lv_at hl 0 rfl) ?_
          refine lv_iload_n C0.1 C0.2.1 dX6_compare_43 rfl (lv_at hl 2 rfl) ?_
          refine tp_X6_bestStreets C0 h kSC_90 q_420 (le_min a2) (le_max a2) dX6_compare_44 (fun H locs ws_68 h u_69 => ?_)
          refine lv_aload_n C0.1 C0.2.1 dX6_compare_47 rfl (lv_at hl 0 rfl) ?_
          refine tg_X6_order C0 h kSC_90 q_414 dX6_compare_48 ?_
          refine y_c1 (n := 0) C0 (by decide) dX6_compare_51 (fun v_70 e_71 => ?_)
          refine lv_aload_n C0.1 C0.2.1 dX6_compare_52 rfl (lv_at hl 0 rfl) ?_
          refine tg_X6_bestOrder C0 h kSC_90 q_415 dX6_compare_53 ?_
          refine y_c1 (n := 0) C0 (by decide) dX6_compare_56 (fun v_72 e_73 => ?_)
          refine lv_aload_n C0.1 C0.2.1 dX6_compare_57 rfl (lv_at hl 0 rfl) ?_
          refine tg_X6_size C0 h kSC_90 q_416 dX6_compare_58 (fun v_74 e_75 e_76 e_77 => ?_)
          refine y_copy C0 h hl.1 kSC_92 kSC_93 rfl rfl q_1296 q_866 q_865 q_145 (o19_277 e_71) (o19_277 e_73) (o19_278 e_76 e_77) (o19_279 e_76 e_77) (o19_279 e_76 e_77) (fun _ _ => ⟨by decide, by decide⟩) (Nat.le_of_ble_eq_true rfl) (Nat.le_of_ble_eq_true rfl) dX6_compare_61 (fun H locs ws_78 h u_79 c_80 c_81 => ?_)
          rw [hQ]
          exact y_vret C0 h (Fr.tr (Fr.tr (Fr.tr (Fr.up u_65.1 kSC_90 (by decide)) (Fr.up u_67.1 kSC_90 (by decide))) (Fr.up u_69.1 kSC_90 (by decide))) (Fr.up u_79 kSC_93 (by decide))) trivial dX6_compare_64
        · -- 28
          rw [hQ]
          exact y_vret C0 h Fr.rf trivial dX6_compare_31
set_option maxHeartbeats 4000000 in
set_option maxRecDepth 100000 in
theorem c_X6_tour_4 (l : Launch) (G : GG) (Z : RZ) (ad : Nat → Nat) (ws0 : va_W) (hT : Ty G (SC tt) ad ws0) (a1 : Int32) (a2 : Int32) (a3 : Int32) (a4 : Int32) (l1 : 4 ≤ a1.toInt) (u1 : a1.toInt ≤ 4) (l2 : 0 ≤ a2.toInt) (u2 : a2.toInt ≤ 99) (l4 : 0 ≤ a4.toInt) (u4 : a4.toInt ≤ 240) (hR : Rel ws0) : Mq l yX6_tour cX6_tour 7 none 2 G Z [.ref (ad 90), .int a1, .int a2, .int a3, .int a4] ws0 (PV G (SC tt) ad [28, 31] ws0 (fun u => True)) := by
  refine Mq.start (by decide) (Nat.le_of_ble_eq_true rfl) ?_
  intro p e s m below meth c A ls C0 hZ h hl
  have hl : lv_has ls 7 [(0, .ref (ad 90)), (1, .int a1), (2, .int a2), (3, .int a3), (4, .int a4)] := hl
  have h : Wt G (SC tt) ad A s s.heap [] ws0 := ⟨h, hT⟩
  obtain ⟨args, hargs⟩ : ∃ z, z = ([.ref (ad 90), .int a1, .int a2, .int a3, .int a4] : List Value).toArray := ⟨_, rfl⟩
  rw [← hargs] at C0 ⊢
  have C0 : Cx p s m args meth c RX6 cX6_tour 7 none := C0
  obtain ⟨Q, hQ⟩ : ∃ z, z = MQ below ((PV G (SC tt) ad [28, 31] ws0 (fun u => True)) A) args s 0 0 A := ⟨_, rfl⟩
  rw [← hQ]
  refine lv_iload_n C0.1 C0.2.1 dX6_tour_0 rfl (lv_at hl 1 rfl) ?_
  refine lv_aload_n C0.1 C0.2.1 dX6_tour_1 rfl (lv_at hl 0 rfl) ?_
  refine tg_X6_size C0 h kSC_90 q_416 dX6_tour_2 (fun v_1 e_2 e_3 e_4 => ?_)
  refine y_icmp_lt (tgt := 16) C0 dX6_tour_5 (by decide) (fun c_5 => ((o19_280 l1 u1 e_3 e_4 c_5)).elim) (fun c_5 => ?_)
  refine lv_aload_n C0.1 C0.2.1 dX6_tour_8 rfl (lv_at hl 0 rfl) ?_
  refine lv_iload_n C0.1 C0.2.1 dX6_tour_9 rfl (lv_at hl 3 rfl) ?_
  refine lv_iload C0.1 C0.2.1 dX6_tour_10 (lv_at hl 4 rfl) ?_
  refine y_cv h (y_rV (As := [.int a3, .int a4]) (rest := []) C0 hZ h (c_X6_compare l G Z ad _ h.2 a3 a4) k_X6_compare q_1294 q_51 q_1292 kSC_90 rfl rfl rfl hl.1 rfl rfl (Nat.le_of_ble_eq_true rfl) dX6_tour_12 ⟨Nat.le_of_ble_eq_true rfl, Nat.le_of_ble_eq_true rfl⟩ ⟨Nat.le_of_ble_eq_true rfl, Nat.le_of_ble_eq_true rfl⟩) (fun H locs ws_6 h u_7 p_8 => ?_)
  rw [hQ]
  exact y_vret C0 h u_7 trivial dX6_tour_15
set_option maxHeartbeats 4000000 in
set_option maxRecDepth 100000 in
theorem c_X6_tour_3 (l : Launch) (G : GG) (Z : RZ) (ad : Nat → Nat) (ws0 : va_W) (hT : Ty G (SC tt) ad ws0) (a1 : Int32) (a2 : Int32) (a3 : Int32) (a4 : Int32) (l1 : 3 ≤ a1.toInt) (u1 : a1.toInt ≤ 3) (l2 : 0 ≤ a2.toInt) (u2 : a2.toInt ≤ 99) (l4 : 0 ≤ a4.toInt) (u4 : a4.toInt ≤ 180) (hR : Rel ws0) : Mq l yX6_tour cX6_tour 7 none 7 G Z [.ref (ad 90), .int a1, .int a2, .int a3, .int a4] ws0 (PV G (SC tt) ad [4, 5, 18, 19, 20, 21, 22, 23, 25, 26, 27, 28, 30, 31] ws0 (fun u => True)) := by
  refine Mq.start (by decide) (Nat.le_of_ble_eq_true rfl) ?_
  intro p e s m below meth c A ls C0 hZ h hl
  have hl : lv_has ls 7 [(0, .ref (ad 90)), (1, .int a1), (2, .int a2), (3, .int a3), (4, .int a4)] := hl
  have h : Wt G (SC tt) ad A s s.heap [] ws0 := ⟨h, hT⟩
  obtain ⟨args, hargs⟩ : ∃ z, z = ([.ref (ad 90), .int a1, .int a2, .int a3, .int a4] : List Value).toArray := ⟨_, rfl⟩
  rw [← hargs] at C0 ⊢
  have C0 : Cx p s m args meth c RX6 cX6_tour 7 none := C0
  obtain ⟨Q, hQ⟩ : ∃ z, z = MQ below ((PV G (SC tt) ad [4, 5, 18, 19, 20, 21, 22, 23, 25, 26, 27, 28, 30, 31] ws0 (fun u => True)) A) args s 0 0 A := ⟨_, rfl⟩
  rw [← hQ]
  refine lv_iload_n C0.1 C0.2.1 dX6_tour_0 rfl (lv_at hl 1 rfl) ?_
  refine lv_aload_n C0.1 C0.2.1 dX6_tour_1 rfl (lv_at hl 0 rfl) ?_
  refine tg_X6_size C0 h kSC_90 q_416 dX6_tour_2 (fun v_1 e_2 e_3 e_4 => ?_)
  refine y_icmp_lt (tgt := 16) C0 dX6_tour_5 (by decide) (fun c_5 => ?_) (fun c_5 => ?_)
  · -- 5
    refine y_c1 (n := 0) C0 (by decide) dX6_tour_16 (fun v_6 e_7 => ?_)
    refine lv_istore (lv' := [(5, .int v_6), (0, .ref (ad 90)), (1, .int a1), (2, .int a2), (3, .int a3), (4, .int a4)]) C0.1 C0.2.1 dX6_tour_17 hl (by decide) rfl (fun ls hl => ?_)
    have lp_11 : ∀ (n_13 : Nat) (x5_8 : Int32) (H : Heap) (locs : List Loc) (ls : Array Slot) (ws_9 : va_W), 4 - x5_8.toInt < (n_13 : Int) → 0 ≤ x5_8.toInt → x5_8.toInt ≤ 4 → Wt G (SC tt) ad A s H locs ws_9 → Fr (SC tt) [4, 5, 18, 19, 20, 21, 22, 23, 25, 26, 27, 28, 30, 31] ws0 ws_9 → lv_has ls 7 [(5, .int x5_8), (0, .ref (ad 90)), (1, .int a1), (2, .int a2), (3, .int a3), (4, .int a4)] → W p l e (rmd 7 0 0) s m args below meth c H locs 0 0 Q (F0 m 19 ls []) := by
      intro n_13
      induction n_13 with
      | zero => intro x5_8 H locs ls ws_9 hn_14 b_15 b_16 h hF_10 hl; exact ((o19_50 b_15 b_16 hn_14)).elim
      | succ n_13 ih_12 =>
        intro x5_8 H locs ls ws_9 hn_14 b_15 b_16 h hF_10 hl
        refine lv_iload C0.1 C0.2.1 dX6_tour_19 (lv_at hl 0 rfl) ?_
        refine lv_aload_n C0.1 C0.2.1 dX6_tour_21 rfl (lv_at hl 1 rfl) ?_
        refine tg_X6_size C0 h kSC_90 q_416 dX6_tour_22 (fun v_17 e_18 e_19 e_20 => ?_)
        refine y_icmp_ge (tgt := 187) C0 dX6_tour_25 (by decide) (fun c_21 => ?_) (fun c_21 => ?_)
        · -- 25
          rw [hQ]
          exact y_vret C0 h hF_10 trivial dX6_tour_187
        · -- 25
          refine lv_aload_n C0.1 C0.2.1 dX6_tour_28 rfl (lv_at hl 1 rfl) ?_
          refine tg_X6_done C0 h kSC_90 q_417 dX6_tour_29 (fun v_22 e_23 e_24 e_25 => ?_)
          refine lv_iload C0.1 C0.2.1 dX6_tour_32 (lv_at hl 0 rfl) ?_
          refine y_ishrU C0 dX6_tour_34 (fun v_26 => ?_)
          refine y_c1 (n := 1) C0 (by decide) dX6_tour_35 (fun v_27 e_28 => ?_)
          refine y_and 1 1 (n := 1) C0 (Eq.trans (o19_104 e_28) (by decide)) (by decide) (by decide) (by decide) dX6_tour_36 (fun v_29 e_30 e_31 => ?_)
          refine y_if_eq (tgt := 43) C0 dX6_tour_37 (by decide) (fun c_32 => ?_) (fun c_32 => ?_)
          · -- 37
            refine lv_aload_n C0.1 C0.2.1 dX6_tour_43 rfl (lv_at hl 1 rfl) ?_
            refine tg_X6_spread C0 h kSC_90 q_411 dX6_tour_44 ?_
            refine lv_iload_n C0.1 C0.2.1 dX6_tour_47 rfl (lv_at hl 3 rfl) ?_
            refine lv_iload C0.1 C0.2.1 dX6_tour_48 (lv_at hl 5 rfl) ?_
            refine lv_aload_n C0.1 C0.2.1 dX6_tour_50 rfl (lv_at hl 1 rfl) ?_
            refine tg_X6_stops C0 h kSC_90 q_413 dX6_tour_51 ?_
            refine lv_iload C0.1 C0.2.1 dX6_tour_54 (lv_at hl 0 rfl) ?_
            refine y_iald C0 h kSC_91 rfl (by decide) (o19_281 b_15 b_16 hn_14 e_19 e_20 c_21) (o19_282 b_15 b_16 hn_14 e_19 e_20 c_21) dX6_tour_56 (fun v_33 e_34 e_35 e_36 => ?_)
            refine y_c2 (n := 60) C0 (by decide) dX6_tour_57 (fun v_37 e_38 => ?_)
            refine y_c1 (n := 0) C0 (by decide) dX6_tour_59 (fun v_39 e_40 => ?_)
            refine y_ci h (y_rV (As := [.int a2, .int a4, .int v_33, .int v_37, .int v_39]) (rest := []) C0 hZ h (c_X8_fewestLefts l G Z ad _ h.2 a2 a4 v_33 v_37 v_39 (o19_3 l2 u2) (o19_4 l2 u2) (o19_259 l4 u4) (o19_260 l4 u4) (o19_263 e_38) (o19_264 e_38)) k_X8_fewestLefts q_1203 q_1204 q_1297 kSC_83 rfl rfl rfl hl.1 rfl rfl (Nat.le_of_ble_eq_true rfl) dX6_tour_60 ⟨Nat.le_of_ble_eq_true rfl, Nat.le_of_ble_eq_true rfl⟩ ⟨Nat.le_of_ble_eq_true rfl, Nat.le_of_ble_eq_true rfl⟩) (fun r_44 H locs ws_41 h u_42 p_43 => ?_)
            obtain ⟨e_45, e_46⟩ := p_43
            refine lv_istore (lv' := [(6, .int r_44), (5, .int x5_8), (0, .ref (ad 90)), (1, .int a1), (2, .int a2), (3, .int a3), (4, .int a4)]) C0.1 C0.2.1 dX6_tour_63 hl (by decide) rfl (fun ls hl => ?_)
            refine lv_iload C0.1 C0.2.1 dX6_tour_65 (lv_at hl 0 rfl) ?_
            refine y_if_lt (tgt := 181) C0 dX6_tour_67 (by decide) (fun c_47 => ?_) (fun c_47 => ?_)
            · -- 67
              refine y_inc (kp := 1) (n := 1) (fun v_48 => [(5, .int v_48), (6, .int r_44), (0, .ref (ad 90)), (1, .int a1), (2, .int a2), (3, .int a3), (4, .int a4)]) C0 hl rfl (by decide) (by decide) (fun _ => rfl) (o19_283 b_15 b_16 hn_14 e_19 e_20 c_21 (le_min x5_8) (le_max x5_8) (le_min v_17) (le_max v_17)) (o19_284 b_15 b_16 hn_14 e_19 e_20 c_21 (le_min x5_8) (le_max x5_8) (le_min v_17) (le_max v_17)) dX6_tour_181 (fun v_48 ls e_49 hl => ?_)
              refine lv_goto (tgt := 19) C0.1 C0.2.1 dX6_tour_184 (by decide) ?_
              exact ih_12 v_48 _ _ _ _ (o19_285 b_15 b_16 hn_14 e_19 e_20 c_21 e_49) (o19_286 b_15 b_16 hn_14 e_19 e_20 c_21 e_49) (o19_287 b_15 b_16 hn_14 e_19 e_20 c_21 e_49) h (Fr.tr hF_10 (Fr.mono u_42 (by decide))) (lv_sub hl [0, 2, 3, 4, 5, 6] rfl)
            · -- 67
              refine lv_aload_n C0.1 C0.2.1 dX6_tour_70 rfl (lv_at hl 2 rfl) ?_
              refine tg_X6_any C0 h kSC_90 q_418 dX6_tour_71 (fun v_50 e_51 e_52 e_53 => ?_)
              refine y_if_eq (tgt := 91) C0 dX6_tour_74 (by decide) (fun c_54 => ?_) (fun c_54 => ?_)
              · -- 74
                refine lv_aload_n C0.1 C0.2.1 dX6_tour_91 rfl (lv_at hl 2 rfl) ?_
                refine tg_X6_routes C0 h kSC_90 q_412 dX6_tour_92 ?_
                refine lv_iload_n C0.1 C0.2.1 dX6_tour_95 rfl (lv_at hl 4 rfl) ?_
                refine lv_iload C0.1 C0.2.1 dX6_tour_96 (lv_at hl 6 rfl) ?_
                refine lv_aload_n C0.1 C0.2.1 dX6_tour_98 rfl (lv_at hl 2 rfl) ?_
                refine tg_X6_stops C0 h kSC_90 q_413 dX6_tour_99 ?_
                refine lv_iload C0.1 C0.2.1 dX6_tour_102 (lv_at hl 1 rfl) ?_
                refine y_iald C0 h kSC_91 rfl (by decide) (o19_281 b_15 b_16 hn_14 e_19 e_20 c_21) (o19_282 b_15 b_16 hn_14 e_19 e_20 c_21) dX6_tour_104 (fun v_55 e_56 e_57 e_58 => ?_)
                have q_59 : v_55.toInt = v_33.toInt := congrArg Int32.toInt (e_56.symm.trans (Eq.trans (Fr.aI u_42 kSC_91 (by decide)) e_34))
                refine lv_iload C0.1 C0.2.1 dX6_tour_105 (lv_at hl 0 rfl) ?_
                refine lv_aload_n C0.1 C0.2.1 dX6_tour_107 rfl (lv_at hl 2 rfl) ?_
                refine tg_X6_spread C0 h kSC_90 q_411 dX6_tour_108 ?_
                refine y_ci h (y_rV (As := []) (rest := [.int r_44, .int v_55, .int a4, .int a2, .ref (ad 87)]) C0 hZ h (c_X8_streets l G Z ad _ h.2) k_X8_streets q_1299 q_1300 q_1298 kSC_83 rfl rfl rfl hl.1 rfl rfl (Nat.le_of_ble_eq_true rfl) dX6_tour_111 ⟨Nat.le_of_ble_eq_true rfl, Nat.le_of_ble_eq_true rfl⟩ ⟨Nat.le_of_ble_eq_true rfl, Nat.le_of_ble_eq_true rfl⟩) (fun r_63 H locs ws_60 h u_61 p_62 => ?_)
                obtain ⟨e_64, e_65⟩ := p_62
                refine y_cv h (y_rV (As := [.int a2, .int a4, .int v_55, .int r_44, .int r_63]) (rest := []) C0 hZ h (c_X7_trace l G Z ad _ h.2 a2 a4 v_55 r_44 r_63 (o19_3 l2 u2) (o19_4 l2 u2) (o19_259 l4 u4) (o19_260 l4 u4) (o19_1 e_64 e_65) (o19_2 e_64 e_65) (Rel.fr (M := [4, 5, 18, 19, 20, 21, 22, 23, 25, 26, 27, 28, 30, 31]) hR (Fr.tr (Fr.tr hF_10 (Fr.mono u_42 (by decide))) (Fr.mono u_61 (by decide))) (by decide) (by decide))) k_X7_trace q_1154 q_1155 q_1302 kSC_87 rfl rfl rfl hl.1 rfl rfl (Nat.le_of_ble_eq_true rfl) dX6_tour_114 ⟨Nat.le_of_ble_eq_true rfl, Nat.le_of_ble_eq_true rfl⟩ ⟨Nat.le_of_ble_eq_true rfl, Nat.le_of_ble_eq_true rfl⟩) (fun H locs ws_66 h u_67 p_68 => ?_)
                refine lv_aload_n C0.1 C0.2.1 dX6_tour_117 rfl (lv_at hl 2 rfl) ?_
                refine tg_X6_order C0 h kSC_90 q_414 dX6_tour_118 ?_
                refine lv_iload_n C0.1 C0.2.1 dX6_tour_121 rfl (lv_at hl 3 rfl) ?_
                refine lv_iload C0.1 C0.2.1 dX6_tour_122 (lv_at hl 1 rfl) ?_
                refine y_iast C0 h kSC_92 rfl (by decide) (o19_288 l1 u1 e_3 e_4 c_5) (o19_289 l1 u1 e_3 e_4 c_5) (o19_281 b_15 b_16 hn_14 e_19 e_20 c_21) (o19_290 b_15 b_16 hn_14 e_19 e_20 c_21) dX6_tour_124 (fun H locs ws_69 h u_70 => ?_)
                refine lv_aload_n C0.1 C0.2.1 dX6_tour_125 rfl (lv_at hl 2 rfl) ?_
                refine lv_dup C0.1 C0.2.1 dX6_tour_126 rfl ?_
                refine tg_X6_done C0 h kSC_90 q_417 dX6_tour_127 (fun v_71 e_72 e_73 e_74 => ?_)
                have q_75 : v_71.toInt = v_22.toInt := congrArg Int32.toInt (e_72.symm.trans (Eq.trans (Eq.trans (fI_of (u_70.1 90 (kd_ne (S := SC q0) kSC_90 kSC_92 (by decide)))) (Eq.trans (Fr.fI u_67 kSC_90 (by decide)) (Eq.trans (Fr.fI u_61 kSC_90 (by decide)) (Fr.fI u_42 kSC_90 (by decide))))) e_23))
                refine y_c1 (n := 1) C0 (by decide) dX6_tour_130 (fun v_76 e_77 => ?_)
                refine lv_iload C0.1 C0.2.1 dX6_tour_131 (lv_at hl 1 rfl) ?_
                refine y_ishlU C0 dX6_tour_133 (fun v_78 => ?_)
                refine y_iorU C0 dX6_tour_134 (fun v_79 => ?_)
                refine tp_X6_done C0 h kSC_90 q_417 (le_min v_79) (le_max v_79) dX6_tour_135 (fun H locs ws_80 h u_81 => ?_)
                refine lv_aload_n C0.1 C0.2.1 dX6_tour_138 rfl (lv_at hl 2 rfl) ?_
                refine lv_iload_n C0.1 C0.2.1 dX6_tour_139 rfl (lv_at hl 3 rfl) ?_
                refine y_c1 (n := 1) C0 (by decide) dX6_tour_140 (fun v_82 e_83 => ?_)
                refine y_add C0 (o19_291 l1 u1 e_3 e_4 c_5 e_83 (le_min a1) (le_max a1) (le_min v_82) (le_max v_82) (le_min v_1) (le_max v_1)) (o19_292 l1 u1 e_3 e_4 c_5 e_83 (le_min a1) (le_max a1) (le_min v_82) (le_max v_82) (le_min v_1) (le_max v_1)) dX6_tour_141 (fun v_84 e_85 => ?_)
                refine lv_aload_n C0.1 C0.2.1 dX6_tour_142 rfl (lv_at hl 2 rfl) ?_
                refine tg_X6_routes C0 h kSC_90 q_412 dX6_tour_143 ?_
                refine y_ci h (y_rV (As := []) (rest := [.int v_84, .ref (ad 90)]) C0 hZ h (c_X7_last l G Z ad _ h.2) k_X7_last q_1304 q_1305 q_1303 kSC_87 rfl rfl rfl hl.1 rfl rfl (Nat.le_of_ble_eq_true rfl) dX6_tour_146 ⟨Nat.le_of_ble_eq_true rfl, Nat.le_of_ble_eq_true rfl⟩ ⟨Nat.le_of_ble_eq_true rfl, Nat.le_of_ble_eq_true rfl⟩) (fun r_89 H locs ws_86 h u_87 p_88 => ?_)
                obtain ⟨e_90, e_91⟩ := p_88
                refine lv_iload_n C0.1 C0.2.1 dX6_tour_149 rfl (lv_at hl 5 rfl) ?_
                refine lv_iload C0.1 C0.2.1 dX6_tour_150 (lv_at hl 0 rfl) ?_
                refine y_iaddU C0 dX6_tour_152 (fun v_92 => ?_)
                refine lv_iload C0.1 C0.2.1 dX6_tour_153 (lv_at hl 6 rfl) ?_
                refine lv_aload_n C0.1 C0.2.1 dX6_tour_155 rfl (lv_at hl 2 rfl) ?_
                refine tg_X6_routes C0 h kSC_90 q_412 dX6_tour_156 ?_
                refine y_ci h (y_rV (As := []) (rest := [.int a4, .int v_92, .int r_89, .int v_84, .ref (ad 90)]) C0 hZ h (c_X7_length l G Z ad _ h.2) k_X7_length q_1308 q_1309 q_1307 kSC_87 rfl rfl rfl hl.1 rfl rfl (Nat.le_of_ble_eq_true rfl) dX6_tour_159 ⟨Nat.le_of_ble_eq_true rfl, Nat.le_of_ble_eq_true rfl⟩ ⟨Nat.le_of_ble_eq_true rfl, Nat.le_of_ble_eq_true rfl⟩) (fun r_96 H locs ws_93 h u_94 p_95 => ?_)
                obtain ⟨e_97, e_98⟩ := p_95
                refine y_add C0 (o19_293 l4 u4 e_97 e_98 (le_min a4) (le_max a4) (le_min r_96) (le_max r_96)) (o19_294 l4 u4 e_97 e_98 (le_min a4) (le_max a4) (le_min r_96) (le_max r_96)) dX6_tour_162 (fun v_99 e_100 => ?_)
                refine y_cv h (y_rV (As := [.int v_84, .int r_89, .int v_92, .int v_99]) (rest := []) C0 hZ h (c_X6_tour_4 l G Z ad _ h.2 v_84 r_89 v_92 v_99 (o19_295 l1 u1 e_3 e_4 c_5 e_83 e_85) (o19_296 l1 u1 e_3 e_4 c_5 e_83 e_85) (o19_3 e_90 e_91) (o19_4 e_90 e_91) (o19_297 l4 u4 e_97 e_98 e_100) (o19_298 l4 u4 e_97 e_98 e_100) (Rel.fr (M := [4, 5, 18, 19, 20, 21, 22, 23, 25, 26, 27, 28, 30, 31]) hR (Fr.tr (Fr.tr (Fr.tr (Fr.tr (Fr.tr (Fr.tr (Fr.tr hF_10 (Fr.mono u_42 (by decide))) (Fr.mono u_61 (by decide))) (Fr.mono u_67 (by decide))) (Fr.up u_70.1 kSC_92 (by decide))) (Fr.up u_81.1 kSC_90 (by decide))) (Fr.mono u_87 (by decide))) (Fr.mono u_94 (by decide))) (by decide) (by decide))) k_X6_tour q_1290 q_50 q_1311 kSC_90 rfl rfl rfl hl.1 rfl rfl (Nat.le_of_ble_eq_true rfl) dX6_tour_163 ⟨Nat.le_of_ble_eq_true rfl, Nat.le_of_ble_eq_true rfl⟩ ⟨Nat.le_of_ble_eq_true rfl, Nat.le_of_ble_eq_true rfl⟩) (fun H locs ws_101 h u_102 p_103 => ?_)
                refine lv_aload_n C0.1 C0.2.1 dX6_tour_166 rfl (lv_at hl 2 rfl) ?_
                refine lv_dup C0.1 C0.2.1 dX6_tour_167 rfl ?_
                refine tg_X6_done C0 h kSC_90 q_417 dX6_tour_168 (fun v_104 e_105 e_106 e_107 => ?_)
                refine y_c1 (n := 1) C0 (by decide) dX6_tour_171 (fun v_108 e_109 => ?_)
                refine lv_iload C0.1 C0.2.1 dX6_tour_172 (lv_at hl 1 rfl) ?_
                refine y_ishlU C0 dX6_tour_174 (fun v_110 => ?_)
                refine y_c1 (n := (-1)) C0 (by decide) dX6_tour_175 (fun v_111 e_112 => ?_)
                refine y_ixorU C0 dX6_tour_176 (fun v_113 => ?_)
                refine y_iandU C0 dX6_tour_177 (fun v_114 => ?_)
                refine tp_X6_done C0 h kSC_90 q_417 (le_min v_114) (le_max v_114) dX6_tour_178 (fun H locs ws_115 h u_116 => ?_)
                refine y_inc (kp := 1) (n := 1) (fun v_117 => [(5, .int v_117), (6, .int r_44), (0, .ref (ad 90)), (1, .int a1), (2, .int a2), (3, .int a3), (4, .int a4)]) C0 hl rfl (by decide) (by decide) (fun _ => rfl) (o19_283 b_15 b_16 hn_14 e_19 e_20 c_21 (le_min x5_8) (le_max x5_8) (le_min v_17) (le_max v_17)) (o19_284 b_15 b_16 hn_14 e_19 e_20 c_21 (le_min x5_8) (le_max x5_8) (le_min v_17) (le_max v_17)) dX6_tour_181 (fun v_117 ls e_118 hl => ?_)
                refine lv_goto (tgt := 19) C0.1 C0.2.1 dX6_tour_184 (by decide) ?_
                exact ih_12 v_117 _ _ _ _ (o19_285 b_15 b_16 hn_14 e_19 e_20 c_21 e_118) (o19_286 b_15 b_16 hn_14 e_19 e_20 c_21 e_118) (o19_287 b_15 b_16 hn_14 e_19 e_20 c_21 e_118) h (Fr.tr (Fr.tr (Fr.tr (Fr.tr (Fr.tr (Fr.tr (Fr.tr (Fr.tr (Fr.tr hF_10 (Fr.mono u_42 (by decide))) (Fr.mono u_61 (by decide))) (Fr.mono u_67 (by decide))) (Fr.up u_70.1 kSC_92 (by decide))) (Fr.up u_81.1 kSC_90 (by decide))) (Fr.mono u_87 (by decide))) (Fr.mono u_94 (by decide))) (Fr.mono u_102 (by decide))) (Fr.up u_116.1 kSC_90 (by decide))) (lv_sub hl [0, 2, 3, 4, 5, 6] rfl)
              · -- 74
                refine lv_iload_n C0.1 C0.2.1 dX6_tour_77 rfl (lv_at hl 5 rfl) ?_
                refine lv_iload C0.1 C0.2.1 dX6_tour_78 (lv_at hl 0 rfl) ?_
                refine y_iaddU C0 dX6_tour_80 (fun v_119 => ?_)
                refine lv_aload_n C0.1 C0.2.1 dX6_tour_81 rfl (lv_at hl 2 rfl) ?_
                refine tg_X6_bestLefts C0 h kSC_90 q_419 dX6_tour_82 (fun v_120 e_121 e_122 e_123 => ?_)
                refine y_icmp_le (tgt := 91) C0 dX6_tour_85 (by decide) (fun c_124 => ?_) (fun c_124 => ?_)
                · -- 85
                  refine lv_aload_n C0.1 C0.2.1 dX6_tour_91 rfl (lv_at hl 2 rfl) ?_
                  refine tg_X6_routes C0 h kSC_90 q_412 dX6_tour_92 ?_
                  refine lv_iload_n C0.1 C0.2.1 dX6_tour_95 rfl (lv_at hl 4 rfl) ?_
                  refine lv_iload C0.1 C0.2.1 dX6_tour_96 (lv_at hl 6 rfl) ?_
                  refine lv_aload_n C0.1 C0.2.1 dX6_tour_98 rfl (lv_at hl 2 rfl) ?_
                  refine tg_X6_stops C0 h kSC_90 q_413 dX6_tour_99 ?_
                  refine lv_iload C0.1 C0.2.1 dX6_tour_102 (lv_at hl 1 rfl) ?_
                  refine y_iald C0 h kSC_91 rfl (by decide) (o19_281 b_15 b_16 hn_14 e_19 e_20 c_21) (o19_282 b_15 b_16 hn_14 e_19 e_20 c_21) dX6_tour_104 (fun v_125 e_126 e_127 e_128 => ?_)
                  have q_129 : v_125.toInt = v_33.toInt := congrArg Int32.toInt (e_126.symm.trans (Eq.trans (Fr.aI u_42 kSC_91 (by decide)) e_34))
                  refine lv_iload C0.1 C0.2.1 dX6_tour_105 (lv_at hl 0 rfl) ?_
                  refine lv_aload_n C0.1 C0.2.1 dX6_tour_107 rfl (lv_at hl 2 rfl) ?_
                  refine tg_X6_spread C0 h kSC_90 q_411 dX6_tour_108 ?_
                  refine y_ci h (y_rV (As := []) (rest := [.int r_44, .int v_125, .int a4, .int a2, .ref (ad 87)]) C0 hZ h (c_X8_streets l G Z ad _ h.2) k_X8_streets q_1299 q_1300 q_1298 kSC_83 rfl rfl rfl hl.1 rfl rfl (Nat.le_of_ble_eq_true rfl) dX6_tour_111 ⟨Nat.le_of_ble_eq_true rfl, Nat.le_of_ble_eq_true rfl⟩ ⟨Nat.le_of_ble_eq_true rfl, Nat.le_of_ble_eq_true rfl⟩) (fun r_133 H locs ws_130 h u_131 p_132 => ?_)
                  obtain ⟨e_134, e_135⟩ := p_132
                  refine y_cv h (y_rV (As := [.int a2, .int a4, .int v_125, .int r_44, .int r_133]) (rest := []) C0 hZ h (c_X7_trace l G Z ad _ h.2 a2 a4 v_125 r_44 r_133 (o19_3 l2 u2) (o19_4 l2 u2) (o19_259 l4 u4) (o19_260 l4 u4) (o19_1 e_134 e_135) (o19_2 e_134 e_135) (Rel.fr (M := [4, 5, 18, 19, 20, 21, 22, 23, 25, 26, 27, 28, 30, 31]) hR (Fr.tr (Fr.tr hF_10 (Fr.mono u_42 (by decide))) (Fr.mono u_131 (by decide))) (by decide) (by decide))) k_X7_trace q_1154 q_1155 q_1302 kSC_87 rfl rfl rfl hl.1 rfl rfl (Nat.le_of_ble_eq_true rfl) dX6_tour_114 ⟨Nat.le_of_ble_eq_true rfl, Nat.le_of_ble_eq_true rfl⟩ ⟨Nat.le_of_ble_eq_true rfl, Nat.le_of_ble_eq_true rfl⟩) (fun H locs ws_136 h u_137 p_138 => ?_)
                  refine lv_aload_n C0.1 C0.2.1 dX6_tour_117 rfl (lv_at hl 2 rfl) ?_
                  refine tg_X6_order C0 h kSC_90 q_414 dX6_tour_118 ?_
                  refine lv_iload_n C0.1 C0.2.1 dX6_tour_121 rfl (lv_at hl 3 rfl) ?_
                  refine lv_iload C0.1 C0.2.1 dX6_tour_122 (lv_at hl 1 rfl) ?_
                  refine y_iast C0 h kSC_92 rfl (by decide) (o19_288 l1 u1 e_3 e_4 c_5) (o19_289 l1 u1 e_3 e_4 c_5) (o19_281 b_15 b_16 hn_14 e_19 e_20 c_21) (o19_290 b_15 b_16 hn_14 e_19 e_20 c_21) dX6_tour_124 (fun H locs ws_139 h u_140 => ?_)
                  refine lv_aload_n C0.1 C0.2.1 dX6_tour_125 rfl (lv_at hl 2 rfl) ?_
                  refine lv_dup C0.1 C0.2.1 dX6_tour_126 rfl ?_
                  refine tg_X6_done C0 h kSC_90 q_417 dX6_tour_127 (fun v_141 e_142 e_143 e_144 => ?_)
                  have q_145 : v_141.toInt = v_22.toInt := congrArg Int32.toInt (e_142.symm.trans (Eq.trans (Eq.trans (fI_of (u_140.1 90 (kd_ne (S := SC q0) kSC_90 kSC_92 (by decide)))) (Eq.trans (Fr.fI u_137 kSC_90 (by decide)) (Eq.trans (Fr.fI u_131 kSC_90 (by decide)) (Fr.fI u_42 kSC_90 (by decide))))) e_23))
                  refine y_c1 (n := 1) C0 (by decide) dX6_tour_130 (fun v_146 e_147 => ?_)
                  refine lv_iload C0.1 C0.2.1 dX6_tour_131 (lv_at hl 1 rfl) ?_
                  refine y_ishlU C0 dX6_tour_133 (fun v_148 => ?_)
                  refine y_iorU C0 dX6_tour_134 (fun v_149 => ?_)
                  refine tp_X6_done C0 h kSC_90 q_417 (le_min v_149) (le_max v_149) dX6_tour_135 (fun H locs ws_150 h u_151 => ?_)
                  refine lv_aload_n C0.1 C0.2.1 dX6_tour_138 rfl (lv_at hl 2 rfl) ?_
                  refine lv_iload_n C0.1 C0.2.1 dX6_tour_139 rfl (lv_at hl 3 rfl) ?_
                  refine y_c1 (n := 1) C0 (by decide) dX6_tour_140 (fun v_152 e_153 => ?_)
                  refine y_add C0 (o19_291 l1 u1 e_3 e_4 c_5 e_153 (le_min a1) (le_max a1) (le_min v_152) (le_max v_152) (le_min v_1) (le_max v_1)) (o19_292 l1 u1 e_3 e_4 c_5 e_153 (le_min a1) (le_max a1) (le_min v_152) (le_max v_152) (le_min v_1) (le_max v_1)) dX6_tour_141 (fun v_154 e_155 => ?_)
                  refine lv_aload_n C0.1 C0.2.1 dX6_tour_142 rfl (lv_at hl 2 rfl) ?_
                  refine tg_X6_routes C0 h kSC_90 q_412 dX6_tour_143 ?_
                  refine y_ci h (y_rV (As := []) (rest := [.int v_154, .ref (ad 90)]) C0 hZ h (c_X7_last l G Z ad _ h.2) k_X7_last q_1304 q_1305 q_1303 kSC_87 rfl rfl rfl hl.1 rfl rfl (Nat.le_of_ble_eq_true rfl) dX6_tour_146 ⟨Nat.le_of_ble_eq_true rfl, Nat.le_of_ble_eq_true rfl⟩ ⟨Nat.le_of_ble_eq_true rfl, Nat.le_of_ble_eq_true rfl⟩) (fun r_159 H locs ws_156 h u_157 p_158 => ?_)
                  obtain ⟨e_160, e_161⟩ := p_158
                  refine lv_iload_n C0.1 C0.2.1 dX6_tour_149 rfl (lv_at hl 5 rfl) ?_
                  refine lv_iload C0.1 C0.2.1 dX6_tour_150 (lv_at hl 0 rfl) ?_
                  refine y_iaddU C0 dX6_tour_152 (fun v_162 => ?_)
                  refine lv_iload C0.1 C0.2.1 dX6_tour_153 (lv_at hl 6 rfl) ?_
                  refine lv_aload_n C0.1 C0.2.1 dX6_tour_155 rfl (lv_at hl 2 rfl) ?_
                  refine tg_X6_routes C0 h kSC_90 q_412 dX6_tour_156 ?_
                  refine y_ci h (y_rV (As := []) (rest := [.int a4, .int v_162, .int r_159, .int v_154, .ref (ad 90)]) C0 hZ h (c_X7_length l G Z ad _ h.2) k_X7_length q_1308 q_1309 q_1307 kSC_87 rfl rfl rfl hl.1 rfl rfl (Nat.le_of_ble_eq_true rfl) dX6_tour_159 ⟨Nat.le_of_ble_eq_true rfl, Nat.le_of_ble_eq_true rfl⟩ ⟨Nat.le_of_ble_eq_true rfl, Nat.le_of_ble_eq_true rfl⟩) (fun r_166 H locs ws_163 h u_164 p_165 => ?_)
                  obtain ⟨e_167, e_168⟩ := p_165
                  refine y_add C0 (o19_293 l4 u4 e_167 e_168 (le_min a4) (le_max a4) (le_min r_166) (le_max r_166)) (o19_294 l4 u4 e_167 e_168 (le_min a4) (le_max a4) (le_min r_166) (le_max r_166)) dX6_tour_162 (fun v_169 e_170 => ?_)
                  refine y_cv h (y_rV (As := [.int v_154, .int r_159, .int v_162, .int v_169]) (rest := []) C0 hZ h (c_X6_tour_4 l G Z ad _ h.2 v_154 r_159 v_162 v_169 (o19_295 l1 u1 e_3 e_4 c_5 e_153 e_155) (o19_296 l1 u1 e_3 e_4 c_5 e_153 e_155) (o19_3 e_160 e_161) (o19_4 e_160 e_161) (o19_297 l4 u4 e_167 e_168 e_170) (o19_298 l4 u4 e_167 e_168 e_170) (Rel.fr (M := [4, 5, 18, 19, 20, 21, 22, 23, 25, 26, 27, 28, 30, 31]) hR (Fr.tr (Fr.tr (Fr.tr (Fr.tr (Fr.tr (Fr.tr (Fr.tr hF_10 (Fr.mono u_42 (by decide))) (Fr.mono u_131 (by decide))) (Fr.mono u_137 (by decide))) (Fr.up u_140.1 kSC_92 (by decide))) (Fr.up u_151.1 kSC_90 (by decide))) (Fr.mono u_157 (by decide))) (Fr.mono u_164 (by decide))) (by decide) (by decide))) k_X6_tour q_1290 q_50 q_1311 kSC_90 rfl rfl rfl hl.1 rfl rfl (Nat.le_of_ble_eq_true rfl) dX6_tour_163 ⟨Nat.le_of_ble_eq_true rfl, Nat.le_of_ble_eq_true rfl⟩ ⟨Nat.le_of_ble_eq_true rfl, Nat.le_of_ble_eq_true rfl⟩) (fun H locs ws_171 h u_172 p_173 => ?_)
                  refine lv_aload_n C0.1 C0.2.1 dX6_tour_166 rfl (lv_at hl 2 rfl) ?_
                  refine lv_dup C0.1 C0.2.1 dX6_tour_167 rfl ?_
                  refine tg_X6_done C0 h kSC_90 q_417 dX6_tour_168 (fun v_174 e_175 e_176 e_177 => ?_)
                  refine y_c1 (n := 1) C0 (by decide) dX6_tour_171 (fun v_178 e_179 => ?_)
                  refine lv_iload C0.1 C0.2.1 dX6_tour_172 (lv_at hl 1 rfl) ?_
                  refine y_ishlU C0 dX6_tour_174 (fun v_180 => ?_)
                  refine y_c1 (n := (-1)) C0 (by decide) dX6_tour_175 (fun v_181 e_182 => ?_)
                  refine y_ixorU C0 dX6_tour_176 (fun v_183 => ?_)
                  refine y_iandU C0 dX6_tour_177 (fun v_184 => ?_)
                  refine tp_X6_done C0 h kSC_90 q_417 (le_min v_184) (le_max v_184) dX6_tour_178 (fun H locs ws_185 h u_186 => ?_)
                  refine y_inc (kp := 1) (n := 1) (fun v_187 => [(5, .int v_187), (6, .int r_44), (0, .ref (ad 90)), (1, .int a1), (2, .int a2), (3, .int a3), (4, .int a4)]) C0 hl rfl (by decide) (by decide) (fun _ => rfl) (o19_283 b_15 b_16 hn_14 e_19 e_20 c_21 (le_min x5_8) (le_max x5_8) (le_min v_17) (le_max v_17)) (o19_284 b_15 b_16 hn_14 e_19 e_20 c_21 (le_min x5_8) (le_max x5_8) (le_min v_17) (le_max v_17)) dX6_tour_181 (fun v_187 ls e_188 hl => ?_)
                  refine lv_goto (tgt := 19) C0.1 C0.2.1 dX6_tour_184 (by decide) ?_
                  exact ih_12 v_187 _ _ _ _ (o19_285 b_15 b_16 hn_14 e_19 e_20 c_21 e_188) (o19_286 b_15 b_16 hn_14 e_19 e_20 c_21 e_188) (o19_287 b_15 b_16 hn_14 e_19 e_20 c_21 e_188) h (Fr.tr (Fr.tr (Fr.tr (Fr.tr (Fr.tr (Fr.tr (Fr.tr (Fr.tr (Fr.tr hF_10 (Fr.mono u_42 (by decide))) (Fr.mono u_131 (by decide))) (Fr.mono u_137 (by decide))) (Fr.up u_140.1 kSC_92 (by decide))) (Fr.up u_151.1 kSC_90 (by decide))) (Fr.mono u_157 (by decide))) (Fr.mono u_164 (by decide))) (Fr.mono u_172 (by decide))) (Fr.up u_186.1 kSC_90 (by decide))) (lv_sub hl [0, 2, 3, 4, 5, 6] rfl)
                · -- 85
                  refine lv_goto (tgt := 181) C0.1 C0.2.1 dX6_tour_88 (by decide) ?_
                  refine y_inc (kp := 1) (n := 1) (fun v_189 => [(5, .int v_189), (6, .int r_44), (0, .ref (ad 90)), (1, .int a1), (2, .int a2), (3, .int a3), (4, .int a4)]) C0 hl rfl (by decide) (by decide) (fun _ => rfl) (o19_283 b_15 b_16 hn_14 e_19 e_20 c_21 (le_min x5_8) (le_max x5_8) (le_min v_17) (le_max v_17)) (o19_284 b_15 b_16 hn_14 e_19 e_20 c_21 (le_min x5_8) (le_max x5_8) (le_min v_17) (le_max v_17)) dX6_tour_181 (fun v_189 ls e_190 hl => ?_)
                  refine lv_goto (tgt := 19) C0.1 C0.2.1 dX6_tour_184 (by decide) ?_
                  exact ih_12 v_189 _ _ _ _ (o19_285 b_15 b_16 hn_14 e_19 e_20 c_21 e_190) (o19_286 b_15 b_16 hn_14 e_19 e_20 c_21 e_190) (o19_287 b_15 b_16 hn_14 e_19 e_20 c_21 e_190) h (Fr.tr hF_10 (Fr.mono u_42 (by decide))) (lv_sub hl [0, 2, 3, 4, 5, 6] rfl)
          · -- 37
            refine lv_goto (tgt := 181) C0.1 C0.2.1 dX6_tour_40 (by decide) ?_
            refine y_inc (kp := 0) (n := 1) (fun v_191 => [(5, .int v_191), (0, .ref (ad 90)), (1, .int a1), (2, .int a2), (3, .int a3), (4, .int a4)]) C0 hl rfl (by decide) (by decide) (fun _ => rfl) (o19_283 b_15 b_16 hn_14 e_19 e_20 c_21 (le_min x5_8) (le_max x5_8) (le_min v_17) (le_max v_17)) (o19_284 b_15 b_16 hn_14 e_19 e_20 c_21 (le_min x5_8) (le_max x5_8) (le_min v_17) (le_max v_17)) dX6_tour_181 (fun v_191 ls e_192 hl => ?_)
            refine lv_goto (tgt := 19) C0.1 C0.2.1 dX6_tour_184 (by decide) ?_
            exact ih_12 v_191 _ _ _ _ (o19_285 b_15 b_16 hn_14 e_19 e_20 c_21 e_192) (o19_286 b_15 b_16 hn_14 e_19 e_20 c_21 e_192) (o19_287 b_15 b_16 hn_14 e_19 e_20 c_21 e_192) h hF_10 (lv_sub hl [0, 1, 2, 3, 4, 5] rfl)
    exact lp_11 ((4 - v_6.toInt + 1).toNat) v_6 _ _ _ _ (o19_86 e_7) (o19_87 e_7) (o19_88 e_7) h Fr.rf (lv_sub hl [0, 1, 2, 3, 4, 5] rfl)
  · -- 5
    refine lv_aload_n C0.1 C0.2.1 dX6_tour_8 rfl (lv_at hl 0 rfl) ?_
    refine lv_iload_n C0.1 C0.2.1 dX6_tour_9 rfl (lv_at hl 3 rfl) ?_
    refine lv_iload C0.1 C0.2.1 dX6_tour_10 (lv_at hl 4 rfl) ?_
    refine y_cv h (y_rV (As := [.int a3, .int a4]) (rest := []) C0 hZ h (c_X6_compare l G Z ad _ h.2 a3 a4) k_X6_compare q_1294 q_51 q_1292 kSC_90 rfl rfl rfl hl.1 rfl rfl (Nat.le_of_ble_eq_true rfl) dX6_tour_12 ⟨Nat.le_of_ble_eq_true rfl, Nat.le_of_ble_eq_true rfl⟩ ⟨Nat.le_of_ble_eq_true rfl, Nat.le_of_ble_eq_true rfl⟩) (fun H locs ws_193 h u_194 p_195 => ?_)
    rw [hQ]
    exact y_vret C0 h (Fr.mono u_194 (by decide)) trivial dX6_tour_15
set_option maxHeartbeats 4000000 in
set_option maxRecDepth 100000 in
theorem c_X6_tour_2 (l : Launch) (G : GG) (Z : RZ) (ad : Nat → Nat) (ws0 : va_W) (hT : Ty G (SC tt) ad ws0) (a1 : Int32) (a2 : Int32) (a3 : Int32) (a4 : Int32) (l1 : 2 ≤ a1.toInt) (u1 : a1.toInt ≤ 2) (l2 : 0 ≤ a2.toInt) (u2 : a2.toInt ≤ 99) (l4 : 0 ≤ a4.toInt) (u4 : a4.toInt ≤ 120) (hR : Rel ws0) : Mq l yX6_tour cX6_tour 7 none 8 G Z [.ref (ad 90), .int a1, .int a2, .int a3, .int a4] ws0 (PV G (SC tt) ad [4, 5, 18, 19, 20, 21, 22, 23, 25, 26, 27, 28, 30, 31] ws0 (fun u => True)) := by
  refine Mq.start (by decide) (Nat.le_of_ble_eq_true rfl) ?_
  intro p e s m below meth c A ls C0 hZ h hl
  have hl : lv_has ls 7 [(0, .ref (ad 90)), (1, .int a1), (2, .int a2), (3, .int a3), (4, .int a4)] := hl
  have h : Wt G (SC tt) ad A s s.heap [] ws0 := ⟨h, hT⟩
  obtain ⟨args, hargs⟩ : ∃ z, z = ([.ref (ad 90), .int a1, .int a2, .int a3, .int a4] : List Value).toArray := ⟨_, rfl⟩
  rw [← hargs] at C0 ⊢
  have C0 : Cx p s m args meth c RX6 cX6_tour 7 none := C0
  obtain ⟨Q, hQ⟩ : ∃ z, z = MQ below ((PV G (SC tt) ad [4, 5, 18, 19, 20, 21, 22, 23, 25, 26, 27, 28, 30, 31] ws0 (fun u => True)) A) args s 0 0 A := ⟨_, rfl⟩
  rw [← hQ]
  refine lv_iload_n C0.1 C0.2.1 dX6_tour_0 rfl (lv_at hl 1 rfl) ?_
  refine lv_aload_n C0.1 C0.2.1 dX6_tour_1 rfl (lv_at hl 0 rfl) ?_
  refine tg_X6_size C0 h kSC_90 q_416 dX6_tour_2 (fun v_1 e_2 e_3 e_4 => ?_)
  refine y_icmp_lt (tgt := 16) C0 dX6_tour_5 (by decide) (fun c_5 => ?_) (fun c_5 => ?_)
  · -- 5
    refine y_c1 (n := 0) C0 (by decide) dX6_tour_16 (fun v_6 e_7 => ?_)
    refine lv_istore (lv' := [(5, .int v_6), (0, .ref (ad 90)), (1, .int a1), (2, .int a2), (3, .int a3), (4, .int a4)]) C0.1 C0.2.1 dX6_tour_17 hl (by decide) rfl (fun ls hl => ?_)
    have lp_11 : ∀ (n_13 : Nat) (x5_8 : Int32) (H : Heap) (locs : List Loc) (ls : Array Slot) (ws_9 : va_W), 4 - x5_8.toInt < (n_13 : Int) → 0 ≤ x5_8.toInt → x5_8.toInt ≤ 4 → Wt G (SC tt) ad A s H locs ws_9 → Fr (SC tt) [4, 5, 18, 19, 20, 21, 22, 23, 25, 26, 27, 28, 30, 31] ws0 ws_9 → lv_has ls 7 [(5, .int x5_8), (0, .ref (ad 90)), (1, .int a1), (2, .int a2), (3, .int a3), (4, .int a4)] → W p l e (rmd 8 0 0) s m args below meth c H locs 0 0 Q (F0 m 19 ls []) := by
      intro n_13
      induction n_13 with
      | zero => intro x5_8 H locs ls ws_9 hn_14 b_15 b_16 h hF_10 hl; exact ((o19_50 b_15 b_16 hn_14)).elim
      | succ n_13 ih_12 =>
        intro x5_8 H locs ls ws_9 hn_14 b_15 b_16 h hF_10 hl
        refine lv_iload C0.1 C0.2.1 dX6_tour_19 (lv_at hl 0 rfl) ?_
        refine lv_aload_n C0.1 C0.2.1 dX6_tour_21 rfl (lv_at hl 1 rfl) ?_
        refine tg_X6_size C0 h kSC_90 q_416 dX6_tour_22 (fun v_17 e_18 e_19 e_20 => ?_)
        refine y_icmp_ge (tgt := 187) C0 dX6_tour_25 (by decide) (fun c_21 => ?_) (fun c_21 => ?_)
        · -- 25
          rw [hQ]
          exact y_vret C0 h hF_10 trivial dX6_tour_187
        · -- 25
          refine lv_aload_n C0.1 C0.2.1 dX6_tour_28 rfl (lv_at hl 1 rfl) ?_
          refine tg_X6_done C0 h kSC_90 q_417 dX6_tour_29 (fun v_22 e_23 e_24 e_25 => ?_)
          refine lv_iload C0.1 C0.2.1 dX6_tour_32 (lv_at hl 0 rfl) ?_
          refine y_ishrU C0 dX6_tour_34 (fun v_26 => ?_)
          refine y_c1 (n := 1) C0 (by decide) dX6_tour_35 (fun v_27 e_28 => ?_)
          refine y_and 1 1 (n := 1) C0 (Eq.trans (o19_104 e_28) (by decide)) (by decide) (by decide) (by decide) dX6_tour_36 (fun v_29 e_30 e_31 => ?_)
          refine y_if_eq (tgt := 43) C0 dX6_tour_37 (by decide) (fun c_32 => ?_) (fun c_32 => ?_)
          · -- 37
            refine lv_aload_n C0.1 C0.2.1 dX6_tour_43 rfl (lv_at hl 1 rfl) ?_
            refine tg_X6_spread C0 h kSC_90 q_411 dX6_tour_44 ?_
            refine lv_iload_n C0.1 C0.2.1 dX6_tour_47 rfl (lv_at hl 3 rfl) ?_
            refine lv_iload C0.1 C0.2.1 dX6_tour_48 (lv_at hl 5 rfl) ?_
            refine lv_aload_n C0.1 C0.2.1 dX6_tour_50 rfl (lv_at hl 1 rfl) ?_
            refine tg_X6_stops C0 h kSC_90 q_413 dX6_tour_51 ?_
            refine lv_iload C0.1 C0.2.1 dX6_tour_54 (lv_at hl 0 rfl) ?_
            refine y_iald C0 h kSC_91 rfl (by decide) (o19_281 b_15 b_16 hn_14 e_19 e_20 c_21) (o19_282 b_15 b_16 hn_14 e_19 e_20 c_21) dX6_tour_56 (fun v_33 e_34 e_35 e_36 => ?_)
            refine y_c2 (n := 60) C0 (by decide) dX6_tour_57 (fun v_37 e_38 => ?_)
            refine y_c1 (n := 0) C0 (by decide) dX6_tour_59 (fun v_39 e_40 => ?_)
            refine y_ci h (y_rV (As := [.int a2, .int a4, .int v_33, .int v_37, .int v_39]) (rest := []) C0 hZ h (c_X8_fewestLefts l G Z ad _ h.2 a2 a4 v_33 v_37 v_39 (o19_3 l2 u2) (o19_4 l2 u2) (o19_261 l4 u4) (o19_299 l4 u4) (o19_263 e_38) (o19_264 e_38)) k_X8_fewestLefts q_1203 q_1204 q_1297 kSC_83 rfl rfl rfl hl.1 rfl rfl (Nat.le_of_ble_eq_true rfl) dX6_tour_60 ⟨Nat.le_of_ble_eq_true rfl, Nat.le_of_ble_eq_true rfl⟩ ⟨Nat.le_of_ble_eq_true rfl, Nat.le_of_ble_eq_true rfl⟩) (fun r_44 H locs ws_41 h u_42 p_43 => ?_)
            obtain ⟨e_45, e_46⟩ := p_43
            refine lv_istore (lv' := [(6, .int r_44), (5, .int x5_8), (0, .ref (ad 90)), (1, .int a1), (2, .int a2), (3, .int a3), (4, .int a4)]) C0.1 C0.2.1 dX6_tour_63 hl (by decide) rfl (fun ls hl => ?_)
            refine lv_iload C0.1 C0.2.1 dX6_tour_65 (lv_at hl 0 rfl) ?_
            refine y_if_lt (tgt := 181) C0 dX6_tour_67 (by decide) (fun c_47 => ?_) (fun c_47 => ?_)
            · -- 67
              refine y_inc (kp := 1) (n := 1) (fun v_48 => [(5, .int v_48), (6, .int r_44), (0, .ref (ad 90)), (1, .int a1), (2, .int a2), (3, .int a3), (4, .int a4)]) C0 hl rfl (by decide) (by decide) (fun _ => rfl) (o19_283 b_15 b_16 hn_14 e_19 e_20 c_21 (le_min x5_8) (le_max x5_8) (le_min v_17) (le_max v_17)) (o19_284 b_15 b_16 hn_14 e_19 e_20 c_21 (le_min x5_8) (le_max x5_8) (le_min v_17) (le_max v_17)) dX6_tour_181 (fun v_48 ls e_49 hl => ?_)
              refine lv_goto (tgt := 19) C0.1 C0.2.1 dX6_tour_184 (by decide) ?_
              exact ih_12 v_48 _ _ _ _ (o19_285 b_15 b_16 hn_14 e_19 e_20 c_21 e_49) (o19_286 b_15 b_16 hn_14 e_19 e_20 c_21 e_49) (o19_287 b_15 b_16 hn_14 e_19 e_20 c_21 e_49) h (Fr.tr hF_10 (Fr.mono u_42 (by decide))) (lv_sub hl [0, 2, 3, 4, 5, 6] rfl)
            · -- 67
              refine lv_aload_n C0.1 C0.2.1 dX6_tour_70 rfl (lv_at hl 2 rfl) ?_
              refine tg_X6_any C0 h kSC_90 q_418 dX6_tour_71 (fun v_50 e_51 e_52 e_53 => ?_)
              refine y_if_eq (tgt := 91) C0 dX6_tour_74 (by decide) (fun c_54 => ?_) (fun c_54 => ?_)
              · -- 74
                refine lv_aload_n C0.1 C0.2.1 dX6_tour_91 rfl (lv_at hl 2 rfl) ?_
                refine tg_X6_routes C0 h kSC_90 q_412 dX6_tour_92 ?_
                refine lv_iload_n C0.1 C0.2.1 dX6_tour_95 rfl (lv_at hl 4 rfl) ?_
                refine lv_iload C0.1 C0.2.1 dX6_tour_96 (lv_at hl 6 rfl) ?_
                refine lv_aload_n C0.1 C0.2.1 dX6_tour_98 rfl (lv_at hl 2 rfl) ?_
                refine tg_X6_stops C0 h kSC_90 q_413 dX6_tour_99 ?_
                refine lv_iload C0.1 C0.2.1 dX6_tour_102 (lv_at hl 1 rfl) ?_
                refine y_iald C0 h kSC_91 rfl (by decide) (o19_281 b_15 b_16 hn_14 e_19 e_20 c_21) (o19_282 b_15 b_16 hn_14 e_19 e_20 c_21) dX6_tour_104 (fun v_55 e_56 e_57 e_58 => ?_)
                have q_59 : v_55.toInt = v_33.toInt := congrArg Int32.toInt (e_56.symm.trans (Eq.trans (Fr.aI u_42 kSC_91 (by decide)) e_34))
                refine lv_iload C0.1 C0.2.1 dX6_tour_105 (lv_at hl 0 rfl) ?_
                refine lv_aload_n C0.1 C0.2.1 dX6_tour_107 rfl (lv_at hl 2 rfl) ?_
                refine tg_X6_spread C0 h kSC_90 q_411 dX6_tour_108 ?_
                refine y_ci h (y_rV (As := []) (rest := [.int r_44, .int v_55, .int a4, .int a2, .ref (ad 87)]) C0 hZ h (c_X8_streets l G Z ad _ h.2) k_X8_streets q_1299 q_1300 q_1298 kSC_83 rfl rfl rfl hl.1 rfl rfl (Nat.le_of_ble_eq_true rfl) dX6_tour_111 ⟨Nat.le_of_ble_eq_true rfl, Nat.le_of_ble_eq_true rfl⟩ ⟨Nat.le_of_ble_eq_true rfl, Nat.le_of_ble_eq_true rfl⟩) (fun r_63 H locs ws_60 h u_61 p_62 => ?_)
                obtain ⟨e_64, e_65⟩ := p_62
                refine y_cv h (y_rV (As := [.int a2, .int a4, .int v_55, .int r_44, .int r_63]) (rest := []) C0 hZ h (c_X7_trace l G Z ad _ h.2 a2 a4 v_55 r_44 r_63 (o19_3 l2 u2) (o19_4 l2 u2) (o19_261 l4 u4) (o19_299 l4 u4) (o19_1 e_64 e_65) (o19_2 e_64 e_65) (Rel.fr (M := [4, 5, 18, 19, 20, 21, 22, 23, 25, 26, 27, 28, 30, 31]) hR (Fr.tr (Fr.tr hF_10 (Fr.mono u_42 (by decide))) (Fr.mono u_61 (by decide))) (by decide) (by decide))) k_X7_trace q_1154 q_1155 q_1302 kSC_87 rfl rfl rfl hl.1 rfl rfl (Nat.le_of_ble_eq_true rfl) dX6_tour_114 ⟨Nat.le_of_ble_eq_true rfl, Nat.le_of_ble_eq_true rfl⟩ ⟨Nat.le_of_ble_eq_true rfl, Nat.le_of_ble_eq_true rfl⟩) (fun H locs ws_66 h u_67 p_68 => ?_)
                refine lv_aload_n C0.1 C0.2.1 dX6_tour_117 rfl (lv_at hl 2 rfl) ?_
                refine tg_X6_order C0 h kSC_90 q_414 dX6_tour_118 ?_
                refine lv_iload_n C0.1 C0.2.1 dX6_tour_121 rfl (lv_at hl 3 rfl) ?_
                refine lv_iload C0.1 C0.2.1 dX6_tour_122 (lv_at hl 1 rfl) ?_
                refine y_iast C0 h kSC_92 rfl (by decide) (o19_300 l1 u1 e_3 e_4 c_5) (o19_301 l1 u1 e_3 e_4 c_5) (o19_281 b_15 b_16 hn_14 e_19 e_20 c_21) (o19_290 b_15 b_16 hn_14 e_19 e_20 c_21) dX6_tour_124 (fun H locs ws_69 h u_70 => ?_)
                refine lv_aload_n C0.1 C0.2.1 dX6_tour_125 rfl (lv_at hl 2 rfl) ?_
                refine lv_dup C0.1 C0.2.1 dX6_tour_126 rfl ?_
                refine tg_X6_done C0 h kSC_90 q_417 dX6_tour_127 (fun v_71 e_72 e_73 e_74 => ?_)
                have q_75 : v_71.toInt = v_22.toInt := congrArg Int32.toInt (e_72.symm.trans (Eq.trans (Eq.trans (fI_of (u_70.1 90 (kd_ne (S := SC q0) kSC_90 kSC_92 (by decide)))) (Eq.trans (Fr.fI u_67 kSC_90 (by decide)) (Eq.trans (Fr.fI u_61 kSC_90 (by decide)) (Fr.fI u_42 kSC_90 (by decide))))) e_23))
                refine y_c1 (n := 1) C0 (by decide) dX6_tour_130 (fun v_76 e_77 => ?_)
                refine lv_iload C0.1 C0.2.1 dX6_tour_131 (lv_at hl 1 rfl) ?_
                refine y_ishlU C0 dX6_tour_133 (fun v_78 => ?_)
                refine y_iorU C0 dX6_tour_134 (fun v_79 => ?_)
                refine tp_X6_done C0 h kSC_90 q_417 (le_min v_79) (le_max v_79) dX6_tour_135 (fun H locs ws_80 h u_81 => ?_)
                refine lv_aload_n C0.1 C0.2.1 dX6_tour_138 rfl (lv_at hl 2 rfl) ?_
                refine lv_iload_n C0.1 C0.2.1 dX6_tour_139 rfl (lv_at hl 3 rfl) ?_
                refine y_c1 (n := 1) C0 (by decide) dX6_tour_140 (fun v_82 e_83 => ?_)
                refine y_add C0 (o19_302 l1 u1 e_3 e_4 c_5 e_83 (le_min a1) (le_max a1) (le_min v_82) (le_max v_82) (le_min v_1) (le_max v_1)) (o19_303 l1 u1 e_3 e_4 c_5 e_83 (le_min a1) (le_max a1) (le_min v_82) (le_max v_82) (le_min v_1) (le_max v_1)) dX6_tour_141 (fun v_84 e_85 => ?_)
                refine lv_aload_n C0.1 C0.2.1 dX6_tour_142 rfl (lv_at hl 2 rfl) ?_
                refine tg_X6_routes C0 h kSC_90 q_412 dX6_tour_143 ?_
                refine y_ci h (y_rV (As := []) (rest := [.int v_84, .ref (ad 90)]) C0 hZ h (c_X7_last l G Z ad _ h.2) k_X7_last q_1304 q_1305 q_1303 kSC_87 rfl rfl rfl hl.1 rfl rfl (Nat.le_of_ble_eq_true rfl) dX6_tour_146 ⟨Nat.le_of_ble_eq_true rfl, Nat.le_of_ble_eq_true rfl⟩ ⟨Nat.le_of_ble_eq_true rfl, Nat.le_of_ble_eq_true rfl⟩) (fun r_89 H locs ws_86 h u_87 p_88 => ?_)
                obtain ⟨e_90, e_91⟩ := p_88
                refine lv_iload_n C0.1 C0.2.1 dX6_tour_149 rfl (lv_at hl 5 rfl) ?_
                refine lv_iload C0.1 C0.2.1 dX6_tour_150 (lv_at hl 0 rfl) ?_
                refine y_iaddU C0 dX6_tour_152 (fun v_92 => ?_)
                refine lv_iload C0.1 C0.2.1 dX6_tour_153 (lv_at hl 6 rfl) ?_
                refine lv_aload_n C0.1 C0.2.1 dX6_tour_155 rfl (lv_at hl 2 rfl) ?_
                refine tg_X6_routes C0 h kSC_90 q_412 dX6_tour_156 ?_
                refine y_ci h (y_rV (As := []) (rest := [.int a4, .int v_92, .int r_89, .int v_84, .ref (ad 90)]) C0 hZ h (c_X7_length l G Z ad _ h.2) k_X7_length q_1308 q_1309 q_1307 kSC_87 rfl rfl rfl hl.1 rfl rfl (Nat.le_of_ble_eq_true rfl) dX6_tour_159 ⟨Nat.le_of_ble_eq_true rfl, Nat.le_of_ble_eq_true rfl⟩ ⟨Nat.le_of_ble_eq_true rfl, Nat.le_of_ble_eq_true rfl⟩) (fun r_96 H locs ws_93 h u_94 p_95 => ?_)
                obtain ⟨e_97, e_98⟩ := p_95
                refine y_add C0 (o19_304 l4 u4 e_97 e_98 (le_min a4) (le_max a4) (le_min r_96) (le_max r_96)) (o19_305 l4 u4 e_97 e_98 (le_min a4) (le_max a4) (le_min r_96) (le_max r_96)) dX6_tour_162 (fun v_99 e_100 => ?_)
                refine y_cv h (y_rV (As := [.int v_84, .int r_89, .int v_92, .int v_99]) (rest := []) C0 hZ h (c_X6_tour_3 l G Z ad _ h.2 v_84 r_89 v_92 v_99 (o19_306 l1 u1 e_3 e_4 c_5 e_83 e_85) (o19_307 l1 u1 e_3 e_4 c_5 e_83 e_85) (o19_3 e_90 e_91) (o19_4 e_90 e_91) (o19_308 l4 u4 e_97 e_98 e_100) (o19_309 l4 u4 e_97 e_98 e_100) (Rel.fr (M := [4, 5, 18, 19, 20, 21, 22, 23, 25, 26, 27, 28, 30, 31]) hR (Fr.tr (Fr.tr (Fr.tr (Fr.tr (Fr.tr (Fr.tr (Fr.tr hF_10 (Fr.mono u_42 (by decide))) (Fr.mono u_61 (by decide))) (Fr.mono u_67 (by decide))) (Fr.up u_70.1 kSC_92 (by decide))) (Fr.up u_81.1 kSC_90 (by decide))) (Fr.mono u_87 (by decide))) (Fr.mono u_94 (by decide))) (by decide) (by decide))) k_X6_tour q_1290 q_50 q_1311 kSC_90 rfl rfl rfl hl.1 rfl rfl (Nat.le_of_ble_eq_true rfl) dX6_tour_163 ⟨Nat.le_of_ble_eq_true rfl, Nat.le_of_ble_eq_true rfl⟩ ⟨Nat.le_of_ble_eq_true rfl, Nat.le_of_ble_eq_true rfl⟩) (fun H locs ws_101 h u_102 p_103 => ?_)
                refine lv_aload_n C0.1 C0.2.1 dX6_tour_166 rfl (lv_at hl 2 rfl) ?_
                refine lv_dup C0.1 C0.2.1 dX6_tour_167 rfl ?_
                refine tg_X6_done C0 h kSC_90 q_417 dX6_tour_168 (fun v_104 e_105 e_106 e_107 => ?_)
                refine y_c1 (n := 1) C0 (by decide) dX6_tour_171 (fun v_108 e_109 => ?_)
                refine lv_iload C0.1 C0.2.1 dX6_tour_172 (lv_at hl 1 rfl) ?_
                refine y_ishlU C0 dX6_tour_174 (fun v_110 => ?_)
                refine y_c1 (n := (-1)) C0 (by decide) dX6_tour_175 (fun v_111 e_112 => ?_)
                refine y_ixorU C0 dX6_tour_176 (fun v_113 => ?_)
                refine y_iandU C0 dX6_tour_177 (fun v_114 => ?_)
                refine tp_X6_done C0 h kSC_90 q_417 (le_min v_114) (le_max v_114) dX6_tour_178 (fun H locs ws_115 h u_116 => ?_)
                refine y_inc (kp := 1) (n := 1) (fun v_117 => [(5, .int v_117), (6, .int r_44), (0, .ref (ad 90)), (1, .int a1), (2, .int a2), (3, .int a3), (4, .int a4)]) C0 hl rfl (by decide) (by decide) (fun _ => rfl) (o19_283 b_15 b_16 hn_14 e_19 e_20 c_21 (le_min x5_8) (le_max x5_8) (le_min v_17) (le_max v_17)) (o19_284 b_15 b_16 hn_14 e_19 e_20 c_21 (le_min x5_8) (le_max x5_8) (le_min v_17) (le_max v_17)) dX6_tour_181 (fun v_117 ls e_118 hl => ?_)
                refine lv_goto (tgt := 19) C0.1 C0.2.1 dX6_tour_184 (by decide) ?_
                exact ih_12 v_117 _ _ _ _ (o19_285 b_15 b_16 hn_14 e_19 e_20 c_21 e_118) (o19_286 b_15 b_16 hn_14 e_19 e_20 c_21 e_118) (o19_287 b_15 b_16 hn_14 e_19 e_20 c_21 e_118) h (Fr.tr (Fr.tr (Fr.tr (Fr.tr (Fr.tr (Fr.tr (Fr.tr (Fr.tr (Fr.tr hF_10 (Fr.mono u_42 (by decide))) (Fr.mono u_61 (by decide))) (Fr.mono u_67 (by decide))) (Fr.up u_70.1 kSC_92 (by decide))) (Fr.up u_81.1 kSC_90 (by decide))) (Fr.mono u_87 (by decide))) (Fr.mono u_94 (by decide))) u_102) (Fr.up u_116.1 kSC_90 (by decide))) (lv_sub hl [0, 2, 3, 4, 5, 6] rfl)
              · -- 74
                refine lv_iload_n C0.1 C0.2.1 dX6_tour_77 rfl (lv_at hl 5 rfl) ?_
                refine lv_iload C0.1 C0.2.1 dX6_tour_78 (lv_at hl 0 rfl) ?_
                refine y_iaddU C0 dX6_tour_80 (fun v_119 => ?_)
                refine lv_aload_n C0.1 C0.2.1 dX6_tour_81 rfl (lv_at hl 2 rfl) ?_
                refine tg_X6_bestLefts C0 h kSC_90 q_419 dX6_tour_82 (fun v_120 e_121 e_122 e_123 => ?_)
                refine y_icmp_le (tgt := 91) C0 dX6_tour_85 (by decide) (fun c_124 => ?_) (fun c_124 => ?_)
                · -- 85
                  refine lv_aload_n C0.1 C0.2.1 dX6_tour_91 rfl (lv_at hl 2 rfl) ?_
                  refine tg_X6_routes C0 h kSC_90 q_412 dX6_tour_92 ?_
                  refine lv_iload_n C0.1 C0.2.1 dX6_tour_95 rfl (lv_at hl 4 rfl) ?_
                  refine lv_iload C0.1 C0.2.1 dX6_tour_96 (lv_at hl 6 rfl) ?_
                  refine lv_aload_n C0.1 C0.2.1 dX6_tour_98 rfl (lv_at hl 2 rfl) ?_
                  refine tg_X6_stops C0 h kSC_90 q_413 dX6_tour_99 ?_
                  refine lv_iload C0.1 C0.2.1 dX6_tour_102 (lv_at hl 1 rfl) ?_
                  refine y_iald C0 h kSC_91 rfl (by decide) (o19_281 b_15 b_16 hn_14 e_19 e_20 c_21) (o19_282 b_15 b_16 hn_14 e_19 e_20 c_21) dX6_tour_104 (fun v_125 e_126 e_127 e_128 => ?_)
                  have q_129 : v_125.toInt = v_33.toInt := congrArg Int32.toInt (e_126.symm.trans (Eq.trans (Fr.aI u_42 kSC_91 (by decide)) e_34))
                  refine lv_iload C0.1 C0.2.1 dX6_tour_105 (lv_at hl 0 rfl) ?_
                  refine lv_aload_n C0.1 C0.2.1 dX6_tour_107 rfl (lv_at hl 2 rfl) ?_
                  refine tg_X6_spread C0 h kSC_90 q_411 dX6_tour_108 ?_
                  refine y_ci h (y_rV (As := []) (rest := [.int r_44, .int v_125, .int a4, .int a2, .ref (ad 87)]) C0 hZ h (c_X8_streets l G Z ad _ h.2) k_X8_streets q_1299 q_1300 q_1298 kSC_83 rfl rfl rfl hl.1 rfl rfl (Nat.le_of_ble_eq_true rfl) dX6_tour_111 ⟨Nat.le_of_ble_eq_true rfl, Nat.le_of_ble_eq_true rfl⟩ ⟨Nat.le_of_ble_eq_true rfl, Nat.le_of_ble_eq_true rfl⟩) (fun r_133 H locs ws_130 h u_131 p_132 => ?_)
                  obtain ⟨e_134, e_135⟩ := p_132
                  refine y_cv h (y_rV (As := [.int a2, .int a4, .int v_125, .int r_44, .int r_133]) (rest := []) C0 hZ h (c_X7_trace l G Z ad _ h.2 a2 a4 v_125 r_44 r_133 (o19_3 l2 u2) (o19_4 l2 u2) (o19_261 l4 u4) (o19_299 l4 u4) (o19_1 e_134 e_135) (o19_2 e_134 e_135) (Rel.fr (M := [4, 5, 18, 19, 20, 21, 22, 23, 25, 26, 27, 28, 30, 31]) hR (Fr.tr (Fr.tr hF_10 (Fr.mono u_42 (by decide))) (Fr.mono u_131 (by decide))) (by decide) (by decide))) k_X7_trace q_1154 q_1155 q_1302 kSC_87 rfl rfl rfl hl.1 rfl rfl (Nat.le_of_ble_eq_true rfl) dX6_tour_114 ⟨Nat.le_of_ble_eq_true rfl, Nat.le_of_ble_eq_true rfl⟩ ⟨Nat.le_of_ble_eq_true rfl, Nat.le_of_ble_eq_true rfl⟩) (fun H locs ws_136 h u_137 p_138 => ?_)
                  refine lv_aload_n C0.1 C0.2.1 dX6_tour_117 rfl (lv_at hl 2 rfl) ?_
                  refine tg_X6_order C0 h kSC_90 q_414 dX6_tour_118 ?_
                  refine lv_iload_n C0.1 C0.2.1 dX6_tour_121 rfl (lv_at hl 3 rfl) ?_
                  refine lv_iload C0.1 C0.2.1 dX6_tour_122 (lv_at hl 1 rfl) ?_
                  refine y_iast C0 h kSC_92 rfl (by decide) (o19_300 l1 u1 e_3 e_4 c_5) (o19_301 l1 u1 e_3 e_4 c_5) (o19_281 b_15 b_16 hn_14 e_19 e_20 c_21) (o19_290 b_15 b_16 hn_14 e_19 e_20 c_21) dX6_tour_124 (fun H locs ws_139 h u_140 => ?_)
                  refine lv_aload_n C0.1 C0.2.1 dX6_tour_125 rfl (lv_at hl 2 rfl) ?_
                  refine lv_dup C0.1 C0.2.1 dX6_tour_126 rfl ?_
                  refine tg_X6_done C0 h kSC_90 q_417 dX6_tour_127 (fun v_141 e_142 e_143 e_144 => ?_)
                  have q_145 : v_141.toInt = v_22.toInt := congrArg Int32.toInt (e_142.symm.trans (Eq.trans (Eq.trans (fI_of (u_140.1 90 (kd_ne (S := SC q0) kSC_90 kSC_92 (by decide)))) (Eq.trans (Fr.fI u_137 kSC_90 (by decide)) (Eq.trans (Fr.fI u_131 kSC_90 (by decide)) (Fr.fI u_42 kSC_90 (by decide))))) e_23))
                  refine y_c1 (n := 1) C0 (by decide) dX6_tour_130 (fun v_146 e_147 => ?_)
                  refine lv_iload C0.1 C0.2.1 dX6_tour_131 (lv_at hl 1 rfl) ?_
                  refine y_ishlU C0 dX6_tour_133 (fun v_148 => ?_)
                  refine y_iorU C0 dX6_tour_134 (fun v_149 => ?_)
                  refine tp_X6_done C0 h kSC_90 q_417 (le_min v_149) (le_max v_149) dX6_tour_135 (fun H locs ws_150 h u_151 => ?_)
                  refine lv_aload_n C0.1 C0.2.1 dX6_tour_138 rfl (lv_at hl 2 rfl) ?_
                  refine lv_iload_n C0.1 C0.2.1 dX6_tour_139 rfl (lv_at hl 3 rfl) ?_
                  refine y_c1 (n := 1) C0 (by decide) dX6_tour_140 (fun v_152 e_153 => ?_)
                  refine y_add C0 (o19_302 l1 u1 e_3 e_4 c_5 e_153 (le_min a1) (le_max a1) (le_min v_152) (le_max v_152) (le_min v_1) (le_max v_1)) (o19_303 l1 u1 e_3 e_4 c_5 e_153 (le_min a1) (le_max a1) (le_min v_152) (le_max v_152) (le_min v_1) (le_max v_1)) dX6_tour_141 (fun v_154 e_155 => ?_)
                  refine lv_aload_n C0.1 C0.2.1 dX6_tour_142 rfl (lv_at hl 2 rfl) ?_
                  refine tg_X6_routes C0 h kSC_90 q_412 dX6_tour_143 ?_
                  refine y_ci h (y_rV (As := []) (rest := [.int v_154, .ref (ad 90)]) C0 hZ h (c_X7_last l G Z ad _ h.2) k_X7_last q_1304 q_1305 q_1303 kSC_87 rfl rfl rfl hl.1 rfl rfl (Nat.le_of_ble_eq_true rfl) dX6_tour_146 ⟨Nat.le_of_ble_eq_true rfl, Nat.le_of_ble_eq_true rfl⟩ ⟨Nat.le_of_ble_eq_true rfl, Nat.le_of_ble_eq_true rfl⟩) (fun r_159 H locs ws_156 h u_157 p_158 => ?_)
                  obtain ⟨e_160, e_161⟩ := p_158
                  refine lv_iload_n C0.1 C0.2.1 dX6_tour_149 rfl (lv_at hl 5 rfl) ?_
                  refine lv_iload C0.1 C0.2.1 dX6_tour_150 (lv_at hl 0 rfl) ?_
                  refine y_iaddU C0 dX6_tour_152 (fun v_162 => ?_)
                  refine lv_iload C0.1 C0.2.1 dX6_tour_153 (lv_at hl 6 rfl) ?_
                  refine lv_aload_n C0.1 C0.2.1 dX6_tour_155 rfl (lv_at hl 2 rfl) ?_
                  refine tg_X6_routes C0 h kSC_90 q_412 dX6_tour_156 ?_
                  refine y_ci h (y_rV (As := []) (rest := [.int a4, .int v_162, .int r_159, .int v_154, .ref (ad 90)]) C0 hZ h (c_X7_length l G Z ad _ h.2) k_X7_length q_1308 q_1309 q_1307 kSC_87 rfl rfl rfl hl.1 rfl rfl (Nat.le_of_ble_eq_true rfl) dX6_tour_159 ⟨Nat.le_of_ble_eq_true rfl, Nat.le_of_ble_eq_true rfl⟩ ⟨Nat.le_of_ble_eq_true rfl, Nat.le_of_ble_eq_true rfl⟩) (fun r_166 H locs ws_163 h u_164 p_165 => ?_)
                  obtain ⟨e_167, e_168⟩ := p_165
                  refine y_add C0 (o19_304 l4 u4 e_167 e_168 (le_min a4) (le_max a4) (le_min r_166) (le_max r_166)) (o19_305 l4 u4 e_167 e_168 (le_min a4) (le_max a4) (le_min r_166) (le_max r_166)) dX6_tour_162 (fun v_169 e_170 => ?_)
                  refine y_cv h (y_rV (As := [.int v_154, .int r_159, .int v_162, .int v_169]) (rest := []) C0 hZ h (c_X6_tour_3 l G Z ad _ h.2 v_154 r_159 v_162 v_169 (o19_306 l1 u1 e_3 e_4 c_5 e_153 e_155) (o19_307 l1 u1 e_3 e_4 c_5 e_153 e_155) (o19_3 e_160 e_161) (o19_4 e_160 e_161) (o19_308 l4 u4 e_167 e_168 e_170) (o19_309 l4 u4 e_167 e_168 e_170) (Rel.fr (M := [4, 5, 18, 19, 20, 21, 22, 23, 25, 26, 27, 28, 30, 31]) hR (Fr.tr (Fr.tr (Fr.tr (Fr.tr (Fr.tr (Fr.tr (Fr.tr hF_10 (Fr.mono u_42 (by decide))) (Fr.mono u_131 (by decide))) (Fr.mono u_137 (by decide))) (Fr.up u_140.1 kSC_92 (by decide))) (Fr.up u_151.1 kSC_90 (by decide))) (Fr.mono u_157 (by decide))) (Fr.mono u_164 (by decide))) (by decide) (by decide))) k_X6_tour q_1290 q_50 q_1311 kSC_90 rfl rfl rfl hl.1 rfl rfl (Nat.le_of_ble_eq_true rfl) dX6_tour_163 ⟨Nat.le_of_ble_eq_true rfl, Nat.le_of_ble_eq_true rfl⟩ ⟨Nat.le_of_ble_eq_true rfl, Nat.le_of_ble_eq_true rfl⟩) (fun H locs ws_171 h u_172 p_173 => ?_)
                  refine lv_aload_n C0.1 C0.2.1 dX6_tour_166 rfl (lv_at hl 2 rfl) ?_
                  refine lv_dup C0.1 C0.2.1 dX6_tour_167 rfl ?_
                  refine tg_X6_done C0 h kSC_90 q_417 dX6_tour_168 (fun v_174 e_175 e_176 e_177 => ?_)
                  refine y_c1 (n := 1) C0 (by decide) dX6_tour_171 (fun v_178 e_179 => ?_)
                  refine lv_iload C0.1 C0.2.1 dX6_tour_172 (lv_at hl 1 rfl) ?_
                  refine y_ishlU C0 dX6_tour_174 (fun v_180 => ?_)
                  refine y_c1 (n := (-1)) C0 (by decide) dX6_tour_175 (fun v_181 e_182 => ?_)
                  refine y_ixorU C0 dX6_tour_176 (fun v_183 => ?_)
                  refine y_iandU C0 dX6_tour_177 (fun v_184 => ?_)
                  refine tp_X6_done C0 h kSC_90 q_417 (le_min v_184) (le_max v_184) dX6_tour_178 (fun H locs ws_185 h u_186 => ?_)
                  refine y_inc (kp := 1) (n := 1) (fun v_187 => [(5, .int v_187), (6, .int r_44), (0, .ref (ad 90)), (1, .int a1), (2, .int a2), (3, .int a3), (4, .int a4)]) C0 hl rfl (by decide) (by decide) (fun _ => rfl) (o19_283 b_15 b_16 hn_14 e_19 e_20 c_21 (le_min x5_8) (le_max x5_8) (le_min v_17) (le_max v_17)) (o19_284 b_15 b_16 hn_14 e_19 e_20 c_21 (le_min x5_8) (le_max x5_8) (le_min v_17) (le_max v_17)) dX6_tour_181 (fun v_187 ls e_188 hl => ?_)
                  refine lv_goto (tgt := 19) C0.1 C0.2.1 dX6_tour_184 (by decide) ?_
                  exact ih_12 v_187 _ _ _ _ (o19_285 b_15 b_16 hn_14 e_19 e_20 c_21 e_188) (o19_286 b_15 b_16 hn_14 e_19 e_20 c_21 e_188) (o19_287 b_15 b_16 hn_14 e_19 e_20 c_21 e_188) h (Fr.tr (Fr.tr (Fr.tr (Fr.tr (Fr.tr (Fr.tr (Fr.tr (Fr.tr (Fr.tr hF_10 (Fr.mono u_42 (by decide))) (Fr.mono u_131 (by decide))) (Fr.mono u_137 (by decide))) (Fr.up u_140.1 kSC_92 (by decide))) (Fr.up u_151.1 kSC_90 (by decide))) (Fr.mono u_157 (by decide))) (Fr.mono u_164 (by decide))) u_172) (Fr.up u_186.1 kSC_90 (by decide))) (lv_sub hl [0, 2, 3, 4, 5, 6] rfl)
                · -- 85
                  refine lv_goto (tgt := 181) C0.1 C0.2.1 dX6_tour_88 (by decide) ?_
                  refine y_inc (kp := 1) (n := 1) (fun v_189 => [(5, .int v_189), (6, .int r_44), (0, .ref (ad 90)), (1, .int a1), (2, .int a2), (3, .int a3), (4, .int a4)]) C0 hl rfl (by decide) (by decide) (fun _ => rfl) (o19_283 b_15 b_16 hn_14 e_19 e_20 c_21 (le_min x5_8) (le_max x5_8) (le_min v_17) (le_max v_17)) (o19_284 b_15 b_16 hn_14 e_19 e_20 c_21 (le_min x5_8) (le_max x5_8) (le_min v_17) (le_max v_17)) dX6_tour_181 (fun v_189 ls e_190 hl => ?_)
                  refine lv_goto (tgt := 19) C0.1 C0.2.1 dX6_tour_184 (by decide) ?_
                  exact ih_12 v_189 _ _ _ _ (o19_285 b_15 b_16 hn_14 e_19 e_20 c_21 e_190) (o19_286 b_15 b_16 hn_14 e_19 e_20 c_21 e_190) (o19_287 b_15 b_16 hn_14 e_19 e_20 c_21 e_190) h (Fr.tr hF_10 (Fr.mono u_42 (by decide))) (lv_sub hl [0, 2, 3, 4, 5, 6] rfl)
          · -- 37
            refine lv_goto (tgt := 181) C0.1 C0.2.1 dX6_tour_40 (by decide) ?_
            refine y_inc (kp := 0) (n := 1) (fun v_191 => [(5, .int v_191), (0, .ref (ad 90)), (1, .int a1), (2, .int a2), (3, .int a3), (4, .int a4)]) C0 hl rfl (by decide) (by decide) (fun _ => rfl) (o19_283 b_15 b_16 hn_14 e_19 e_20 c_21 (le_min x5_8) (le_max x5_8) (le_min v_17) (le_max v_17)) (o19_284 b_15 b_16 hn_14 e_19 e_20 c_21 (le_min x5_8) (le_max x5_8) (le_min v_17) (le_max v_17)) dX6_tour_181 (fun v_191 ls e_192 hl => ?_)
            refine lv_goto (tgt := 19) C0.1 C0.2.1 dX6_tour_184 (by decide) ?_
            exact ih_12 v_191 _ _ _ _ (o19_285 b_15 b_16 hn_14 e_19 e_20 c_21 e_192) (o19_286 b_15 b_16 hn_14 e_19 e_20 c_21 e_192) (o19_287 b_15 b_16 hn_14 e_19 e_20 c_21 e_192) h hF_10 (lv_sub hl [0, 1, 2, 3, 4, 5] rfl)
    exact lp_11 ((4 - v_6.toInt + 1).toNat) v_6 _ _ _ _ (o19_86 e_7) (o19_87 e_7) (o19_88 e_7) h Fr.rf (lv_sub hl [0, 1, 2, 3, 4, 5] rfl)
  · -- 5
    refine lv_aload_n C0.1 C0.2.1 dX6_tour_8 rfl (lv_at hl 0 rfl) ?_
    refine lv_iload_n C0.1 C0.2.1 dX6_tour_9 rfl (lv_at hl 3 rfl) ?_
    refine lv_iload C0.1 C0.2.1 dX6_tour_10 (lv_at hl 4 rfl) ?_
    refine y_cv h (y_rV (As := [.int a3, .int a4]) (rest := []) C0 hZ h (c_X6_compare l G Z ad _ h.2 a3 a4) k_X6_compare q_1294 q_51 q_1292 kSC_90 rfl rfl rfl hl.1 rfl rfl (Nat.le_of_ble_eq_true rfl) dX6_tour_12 ⟨Nat.le_of_ble_eq_true rfl, Nat.le_of_ble_eq_true rfl⟩ ⟨Nat.le_of_ble_eq_true rfl, Nat.le_of_ble_eq_true rfl⟩) (fun H locs ws_193 h u_194 p_195 => ?_)
    rw [hQ]
    exact y_vret C0 h (Fr.mono u_194 (by decide)) trivial dX6_tour_15
set_option maxHeartbeats 4000000 in
set_option maxRecDepth 100000 in
theorem c_X6_tour_1 (l : Launch) (G : GG) (Z : RZ) (ad : Nat → Nat) (ws0 : va_W) (hT : Ty G (SC tt) ad ws0) (a1 : Int32) (a2 : Int32) (a3 : Int32) (a4 : Int32) (l1 : 1 ≤ a1.toInt) (u1 : a1.toInt ≤ 1) (l2 : 0 ≤ a2.toInt) (u2 : a2.toInt ≤ 99) (l4 : 0 ≤ a4.toInt) (u4 : a4.toInt ≤ 60) (hR : Rel ws0) : Mq l yX6_tour cX6_tour 7 none 9 G Z [.ref (ad 90), .int a1, .int a2, .int a3, .int a4] ws0 (PV G (SC tt) ad [4, 5, 18, 19, 20, 21, 22, 23, 25, 26, 27, 28, 30, 31] ws0 (fun u => True)) := by
  refine Mq.start (by decide) (Nat.le_of_ble_eq_true rfl) ?_
  intro p e s m below meth c A ls C0 hZ h hl
  have hl : lv_has ls 7 [(0, .ref (ad 90)), (1, .int a1), (2, .int a2), (3, .int a3), (4, .int a4)] := hl
  have h : Wt G (SC tt) ad A s s.heap [] ws0 := ⟨h, hT⟩
  obtain ⟨args, hargs⟩ : ∃ z, z = ([.ref (ad 90), .int a1, .int a2, .int a3, .int a4] : List Value).toArray := ⟨_, rfl⟩
  rw [← hargs] at C0 ⊢
  have C0 : Cx p s m args meth c RX6 cX6_tour 7 none := C0
  obtain ⟨Q, hQ⟩ : ∃ z, z = MQ below ((PV G (SC tt) ad [4, 5, 18, 19, 20, 21, 22, 23, 25, 26, 27, 28, 30, 31] ws0 (fun u => True)) A) args s 0 0 A := ⟨_, rfl⟩
  rw [← hQ]
  refine lv_iload_n C0.1 C0.2.1 dX6_tour_0 rfl (lv_at hl 1 rfl) ?_
  refine lv_aload_n C0.1 C0.2.1 dX6_tour_1 rfl (lv_at hl 0 rfl) ?_
  refine tg_X6_size C0 h kSC_90 q_416 dX6_tour_2 (fun v_1 e_2 e_3 e_4 => ?_)
  refine y_icmp_lt (tgt := 16) C0 dX6_tour_5 (by decide) (fun c_5 => ?_) (fun c_5 => ?_)
  · -- 5
    refine y_c1 (n := 0) C0 (by decide) dX6_tour_16 (fun v_6 e_7 => ?_)
    refine lv_istore (lv' := [(5, .int v_6), (0, .ref (ad 90)), (1, .int a1), (2, .int a2), (3, .int a3), (4, .int a4)]) C0.1 C0.2.1 dX6_tour_17 hl (by decide) rfl (fun ls hl => ?_)
    have lp_11 : ∀ (n_13 : Nat) (x5_8 : Int32) (H : Heap) (locs : List Loc) (ls : Array Slot) (ws_9 : va_W), 4 - x5_8.toInt < (n_13 : Int) → 0 ≤ x5_8.toInt → x5_8.toInt ≤ 4 → Wt G (SC tt) ad A s H locs ws_9 → Fr (SC tt) [4, 5, 18, 19, 20, 21, 22, 23, 25, 26, 27, 28, 30, 31] ws0 ws_9 → lv_has ls 7 [(5, .int x5_8), (0, .ref (ad 90)), (1, .int a1), (2, .int a2), (3, .int a3), (4, .int a4)] → W p l e (rmd 9 0 0) s m args below meth c H locs 0 0 Q (F0 m 19 ls []) := by
      intro n_13
      induction n_13 with
      | zero => intro x5_8 H locs ls ws_9 hn_14 b_15 b_16 h hF_10 hl; exact ((o19_50 b_15 b_16 hn_14)).elim
      | succ n_13 ih_12 =>
        intro x5_8 H locs ls ws_9 hn_14 b_15 b_16 h hF_10 hl
        refine lv_iload C0.1 C0.2.1 dX6_tour_19 (lv_at hl 0 rfl) ?_
        refine lv_aload_n C0.1 C0.2.1 dX6_tour_21 rfl (lv_at hl 1 rfl) ?_
        refine tg_X6_size C0 h kSC_90 q_416 dX6_tour_22 (fun v_17 e_18 e_19 e_20 => ?_)
        refine y_icmp_ge (tgt := 187) C0 dX6_tour_25 (by decide) (fun c_21 => ?_) (fun c_21 => ?_)
        · -- 25
          rw [hQ]
          exact y_vret C0 h hF_10 trivial dX6_tour_187
        · -- 25
          refine lv_aload_n C0.1 C0.2.1 dX6_tour_28 rfl (lv_at hl 1 rfl) ?_
          refine tg_X6_done C0 h kSC_90 q_417 dX6_tour_29 (fun v_22 e_23 e_24 e_25 => ?_)
          refine lv_iload C0.1 C0.2.1 dX6_tour_32 (lv_at hl 0 rfl) ?_
          refine y_ishrU C0 dX6_tour_34 (fun v_26 => ?_)
          refine y_c1 (n := 1) C0 (by decide) dX6_tour_35 (fun v_27 e_28 => ?_)
          refine y_and 1 1 (n := 1) C0 (Eq.trans (o19_104 e_28) (by decide)) (by decide) (by decide) (by decide) dX6_tour_36 (fun v_29 e_30 e_31 => ?_)
          refine y_if_eq (tgt := 43) C0 dX6_tour_37 (by decide) (fun c_32 => ?_) (fun c_32 => ?_)
          · -- 37
            refine lv_aload_n C0.1 C0.2.1 dX6_tour_43 rfl (lv_at hl 1 rfl) ?_
            refine tg_X6_spread C0 h kSC_90 q_411 dX6_tour_44 ?_
            refine lv_iload_n C0.1 C0.2.1 dX6_tour_47 rfl (lv_at hl 3 rfl) ?_
            refine lv_iload C0.1 C0.2.1 dX6_tour_48 (lv_at hl 5 rfl) ?_
            refine lv_aload_n C0.1 C0.2.1 dX6_tour_50 rfl (lv_at hl 1 rfl) ?_
            refine tg_X6_stops C0 h kSC_90 q_413 dX6_tour_51 ?_
            refine lv_iload C0.1 C0.2.1 dX6_tour_54 (lv_at hl 0 rfl) ?_
            refine y_iald C0 h kSC_91 rfl (by decide) (o19_281 b_15 b_16 hn_14 e_19 e_20 c_21) (o19_282 b_15 b_16 hn_14 e_19 e_20 c_21) dX6_tour_56 (fun v_33 e_34 e_35 e_36 => ?_)
            refine y_c2 (n := 60) C0 (by decide) dX6_tour_57 (fun v_37 e_38 => ?_)
            refine y_c1 (n := 0) C0 (by decide) dX6_tour_59 (fun v_39 e_40 => ?_)
            refine y_ci h (y_rV (As := [.int a2, .int a4, .int v_33, .int v_37, .int v_39]) (rest := []) C0 hZ h (c_X8_fewestLefts l G Z ad _ h.2 a2 a4 v_33 v_37 v_39 (o19_3 l2 u2) (o19_4 l2 u2) (o19_1 l4 u4) (o19_310 l4 u4) (o19_263 e_38) (o19_264 e_38)) k_X8_fewestLefts q_1203 q_1204 q_1297 kSC_83 rfl rfl rfl hl.1 rfl rfl (Nat.le_of_ble_eq_true rfl) dX6_tour_60 ⟨Nat.le_of_ble_eq_true rfl, Nat.le_of_ble_eq_true rfl⟩ ⟨Nat.le_of_ble_eq_true rfl, Nat.le_of_ble_eq_true rfl⟩) (fun r_44 H locs ws_41 h u_42 p_43 => ?_)
            obtain ⟨e_45, e_46⟩ := p_43
            refine lv_istore (lv' := [(6, .int r_44), (5, .int x5_8), (0, .ref (ad 90)), (1, .int a1), (2, .int a2), (3, .int a3), (4, .int a4)]) C0.1 C0.2.1 dX6_tour_63 hl (by decide) rfl (fun ls hl => ?_)
            refine lv_iload C0.1 C0.2.1 dX6_tour_65 (lv_at hl 0 rfl) ?_
            refine y_if_lt (tgt := 181) C0 dX6_tour_67 (by decide) (fun c_47 => ?_) (fun c_47 => ?_)
            · -- 67
              refine y_inc (kp := 1) (n := 1) (fun v_48 => [(5, .int v_48), (6, .int r_44), (0, .ref (ad 90)), (1, .int a1), (2, .int a2), (3, .int a3), (4, .int a4)]) C0 hl rfl (by decide) (by decide) (fun _ => rfl) (o19_283 b_15 b_16 hn_14 e_19 e_20 c_21 (le_min x5_8) (le_max x5_8) (le_min v_17) (le_max v_17)) (o19_284 b_15 b_16 hn_14 e_19 e_20 c_21 (le_min x5_8) (le_max x5_8) (le_min v_17) (le_max v_17)) dX6_tour_181 (fun v_48 ls e_49 hl => ?_)
              refine lv_goto (tgt := 19) C0.1 C0.2.1 dX6_tour_184 (by decide) ?_
              exact ih_12 v_48 _ _ _ _ (o19_285 b_15 b_16 hn_14 e_19 e_20 c_21 e_49) (o19_286 b_15 b_16 hn_14 e_19 e_20 c_21 e_49) (o19_287 b_15 b_16 hn_14 e_19 e_20 c_21 e_49) h (Fr.tr hF_10 (Fr.mono u_42 (by decide))) (lv_sub hl [0, 2, 3, 4, 5, 6] rfl)
            · -- 67
              refine lv_aload_n C0.1 C0.2.1 dX6_tour_70 rfl (lv_at hl 2 rfl) ?_
              refine tg_X6_any C0 h kSC_90 q_418 dX6_tour_71 (fun v_50 e_51 e_52 e_53 => ?_)
              refine y_if_eq (tgt := 91) C0 dX6_tour_74 (by decide) (fun c_54 => ?_) (fun c_54 => ?_)
              · -- 74
                refine lv_aload_n C0.1 C0.2.1 dX6_tour_91 rfl (lv_at hl 2 rfl) ?_
                refine tg_X6_routes C0 h kSC_90 q_412 dX6_tour_92 ?_
                refine lv_iload_n C0.1 C0.2.1 dX6_tour_95 rfl (lv_at hl 4 rfl) ?_
                refine lv_iload C0.1 C0.2.1 dX6_tour_96 (lv_at hl 6 rfl) ?_
                refine lv_aload_n C0.1 C0.2.1 dX6_tour_98 rfl (lv_at hl 2 rfl) ?_
                refine tg_X6_stops C0 h kSC_90 q_413 dX6_tour_99 ?_
                refine lv_iload C0.1 C0.2.1 dX6_tour_102 (lv_at hl 1 rfl) ?_
                refine y_iald C0 h kSC_91 rfl (by decide) (o19_281 b_15 b_16 hn_14 e_19 e_20 c_21) (o19_282 b_15 b_16 hn_14 e_19 e_20 c_21) dX6_tour_104 (fun v_55 e_56 e_57 e_58 => ?_)
                have q_59 : v_55.toInt = v_33.toInt := congrArg Int32.toInt (e_56.symm.trans (Eq.trans (Fr.aI u_42 kSC_91 (by decide)) e_34))
                refine lv_iload C0.1 C0.2.1 dX6_tour_105 (lv_at hl 0 rfl) ?_
                refine lv_aload_n C0.1 C0.2.1 dX6_tour_107 rfl (lv_at hl 2 rfl) ?_
                refine tg_X6_spread C0 h kSC_90 q_411 dX6_tour_108 ?_
                refine y_ci h (y_rV (As := []) (rest := [.int r_44, .int v_55, .int a4, .int a2, .ref (ad 87)]) C0 hZ h (c_X8_streets l G Z ad _ h.2) k_X8_streets q_1299 q_1300 q_1298 kSC_83 rfl rfl rfl hl.1 rfl rfl (Nat.le_of_ble_eq_true rfl) dX6_tour_111 ⟨Nat.le_of_ble_eq_true rfl, Nat.le_of_ble_eq_true rfl⟩ ⟨Nat.le_of_ble_eq_true rfl, Nat.le_of_ble_eq_true rfl⟩) (fun r_63 H locs ws_60 h u_61 p_62 => ?_)
                obtain ⟨e_64, e_65⟩ := p_62
                refine y_cv h (y_rV (As := [.int a2, .int a4, .int v_55, .int r_44, .int r_63]) (rest := []) C0 hZ h (c_X7_trace l G Z ad _ h.2 a2 a4 v_55 r_44 r_63 (o19_3 l2 u2) (o19_4 l2 u2) (o19_1 l4 u4) (o19_310 l4 u4) (o19_1 e_64 e_65) (o19_2 e_64 e_65) (Rel.fr (M := [4, 5, 18, 19, 20, 21, 22, 23, 25, 26, 27, 28, 30, 31]) hR (Fr.tr (Fr.tr hF_10 (Fr.mono u_42 (by decide))) (Fr.mono u_61 (by decide))) (by decide) (by decide))) k_X7_trace q_1154 q_1155 q_1302 kSC_87 rfl rfl rfl hl.1 rfl rfl (Nat.le_of_ble_eq_true rfl) dX6_tour_114 ⟨Nat.le_of_ble_eq_true rfl, Nat.le_of_ble_eq_true rfl⟩ ⟨Nat.le_of_ble_eq_true rfl, Nat.le_of_ble_eq_true rfl⟩) (fun H locs ws_66 h u_67 p_68 => ?_)
                refine lv_aload_n C0.1 C0.2.1 dX6_tour_117 rfl (lv_at hl 2 rfl) ?_
                refine tg_X6_order C0 h kSC_90 q_414 dX6_tour_118 ?_
                refine lv_iload_n C0.1 C0.2.1 dX6_tour_121 rfl (lv_at hl 3 rfl) ?_
                refine lv_iload C0.1 C0.2.1 dX6_tour_122 (lv_at hl 1 rfl) ?_
                refine y_iast C0 h kSC_92 rfl (by decide) (o19_311 l1 u1 e_3 e_4 c_5) (o19_312 l1 u1 e_3 e_4 c_5) (o19_281 b_15 b_16 hn_14 e_19 e_20 c_21) (o19_290 b_15 b_16 hn_14 e_19 e_20 c_21) dX6_tour_124 (fun H locs ws_69 h u_70 => ?_)
                refine lv_aload_n C0.1 C0.2.1 dX6_tour_125 rfl (lv_at hl 2 rfl) ?_
                refine lv_dup C0.1 C0.2.1 dX6_tour_126 rfl ?_
                refine tg_X6_done C0 h kSC_90 q_417 dX6_tour_127 (fun v_71 e_72 e_73 e_74 => ?_)
                have q_75 : v_71.toInt = v_22.toInt := congrArg Int32.toInt (e_72.symm.trans (Eq.trans (Eq.trans (fI_of (u_70.1 90 (kd_ne (S := SC q0) kSC_90 kSC_92 (by decide)))) (Eq.trans (Fr.fI u_67 kSC_90 (by decide)) (Eq.trans (Fr.fI u_61 kSC_90 (by decide)) (Fr.fI u_42 kSC_90 (by decide))))) e_23))
                refine y_c1 (n := 1) C0 (by decide) dX6_tour_130 (fun v_76 e_77 => ?_)
                refine lv_iload C0.1 C0.2.1 dX6_tour_131 (lv_at hl 1 rfl) ?_
                refine y_ishlU C0 dX6_tour_133 (fun v_78 => ?_)
                refine y_iorU C0 dX6_tour_134 (fun v_79 => ?_)
                refine tp_X6_done C0 h kSC_90 q_417 (le_min v_79) (le_max v_79) dX6_tour_135 (fun H locs ws_80 h u_81 => ?_)
                refine lv_aload_n C0.1 C0.2.1 dX6_tour_138 rfl (lv_at hl 2 rfl) ?_
                refine lv_iload_n C0.1 C0.2.1 dX6_tour_139 rfl (lv_at hl 3 rfl) ?_
                refine y_c1 (n := 1) C0 (by decide) dX6_tour_140 (fun v_82 e_83 => ?_)
                refine y_add C0 (o19_313 l1 u1 e_3 e_4 c_5 e_83 (le_min a1) (le_max a1) (le_min v_82) (le_max v_82) (le_min v_1) (le_max v_1)) (o19_314 l1 u1 e_3 e_4 c_5 e_83 (le_min a1) (le_max a1) (le_min v_82) (le_max v_82) (le_min v_1) (le_max v_1)) dX6_tour_141 (fun v_84 e_85 => ?_)
                refine lv_aload_n C0.1 C0.2.1 dX6_tour_142 rfl (lv_at hl 2 rfl) ?_
                refine tg_X6_routes C0 h kSC_90 q_412 dX6_tour_143 ?_
                refine y_ci h (y_rV (As := []) (rest := [.int v_84, .ref (ad 90)]) C0 hZ h (c_X7_last l G Z ad _ h.2) k_X7_last q_1304 q_1305 q_1303 kSC_87 rfl rfl rfl hl.1 rfl rfl (Nat.le_of_ble_eq_true rfl) dX6_tour_146 ⟨Nat.le_of_ble_eq_true rfl, Nat.le_of_ble_eq_true rfl⟩ ⟨Nat.le_of_ble_eq_true rfl, Nat.le_of_ble_eq_true rfl⟩) (fun r_89 H locs ws_86 h u_87 p_88 => ?_)
                obtain ⟨e_90, e_91⟩ := p_88
                refine lv_iload_n C0.1 C0.2.1 dX6_tour_149 rfl (lv_at hl 5 rfl) ?_
                refine lv_iload C0.1 C0.2.1 dX6_tour_150 (lv_at hl 0 rfl) ?_
                refine y_iaddU C0 dX6_tour_152 (fun v_92 => ?_)
                refine lv_iload C0.1 C0.2.1 dX6_tour_153 (lv_at hl 6 rfl) ?_
                refine lv_aload_n C0.1 C0.2.1 dX6_tour_155 rfl (lv_at hl 2 rfl) ?_
                refine tg_X6_routes C0 h kSC_90 q_412 dX6_tour_156 ?_
                refine y_ci h (y_rV (As := []) (rest := [.int a4, .int v_92, .int r_89, .int v_84, .ref (ad 90)]) C0 hZ h (c_X7_length l G Z ad _ h.2) k_X7_length q_1308 q_1309 q_1307 kSC_87 rfl rfl rfl hl.1 rfl rfl (Nat.le_of_ble_eq_true rfl) dX6_tour_159 ⟨Nat.le_of_ble_eq_true rfl, Nat.le_of_ble_eq_true rfl⟩ ⟨Nat.le_of_ble_eq_true rfl, Nat.le_of_ble_eq_true rfl⟩) (fun r_96 H locs ws_93 h u_94 p_95 => ?_)
                obtain ⟨e_97, e_98⟩ := p_95
                refine y_add C0 (o19_315 l4 u4 e_97 e_98 (le_min a4) (le_max a4) (le_min r_96) (le_max r_96)) (o19_316 l4 u4 e_97 e_98 (le_min a4) (le_max a4) (le_min r_96) (le_max r_96)) dX6_tour_162 (fun v_99 e_100 => ?_)
                refine y_cv h (y_rV (As := [.int v_84, .int r_89, .int v_92, .int v_99]) (rest := []) C0 hZ h (c_X6_tour_2 l G Z ad _ h.2 v_84 r_89 v_92 v_99 (o19_317 l1 u1 e_3 e_4 c_5 e_83 e_85) (o19_318 l1 u1 e_3 e_4 c_5 e_83 e_85) (o19_3 e_90 e_91) (o19_4 e_90 e_91) (o19_319 l4 u4 e_97 e_98 e_100) (o19_320 l4 u4 e_97 e_98 e_100) (Rel.fr (M := [4, 5, 18, 19, 20, 21, 22, 23, 25, 26, 27, 28, 30, 31]) hR (Fr.tr (Fr.tr (Fr.tr (Fr.tr (Fr.tr (Fr.tr (Fr.tr hF_10 (Fr.mono u_42 (by decide))) (Fr.mono u_61 (by decide))) (Fr.mono u_67 (by decide))) (Fr.up u_70.1 kSC_92 (by decide))) (Fr.up u_81.1 kSC_90 (by decide))) (Fr.mono u_87 (by decide))) (Fr.mono u_94 (by decide))) (by decide) (by decide))) k_X6_tour q_1290 q_50 q_1311 kSC_90 rfl rfl rfl hl.1 rfl rfl (Nat.le_of_ble_eq_true rfl) dX6_tour_163 ⟨Nat.le_of_ble_eq_true rfl, Nat.le_of_ble_eq_true rfl⟩ ⟨Nat.le_of_ble_eq_true rfl, Nat.le_of_ble_eq_true rfl⟩) (fun H locs ws_101 h u_102 p_103 => ?_)
                refine lv_aload_n C0.1 C0.2.1 dX6_tour_166 rfl (lv_at hl 2 rfl) ?_
                refine lv_dup C0.1 C0.2.1 dX6_tour_167 rfl ?_
                refine tg_X6_done C0 h kSC_90 q_417 dX6_tour_168 (fun v_104 e_105 e_106 e_107 => ?_)
                refine y_c1 (n := 1) C0 (by decide) dX6_tour_171 (fun v_108 e_109 => ?_)
                refine lv_iload C0.1 C0.2.1 dX6_tour_172 (lv_at hl 1 rfl) ?_
                refine y_ishlU C0 dX6_tour_174 (fun v_110 => ?_)
                refine y_c1 (n := (-1)) C0 (by decide) dX6_tour_175 (fun v_111 e_112 => ?_)
                refine y_ixorU C0 dX6_tour_176 (fun v_113 => ?_)
                refine y_iandU C0 dX6_tour_177 (fun v_114 => ?_)
                refine tp_X6_done C0 h kSC_90 q_417 (le_min v_114) (le_max v_114) dX6_tour_178 (fun H locs ws_115 h u_116 => ?_)
                refine y_inc (kp := 1) (n := 1) (fun v_117 => [(5, .int v_117), (6, .int r_44), (0, .ref (ad 90)), (1, .int a1), (2, .int a2), (3, .int a3), (4, .int a4)]) C0 hl rfl (by decide) (by decide) (fun _ => rfl) (o19_283 b_15 b_16 hn_14 e_19 e_20 c_21 (le_min x5_8) (le_max x5_8) (le_min v_17) (le_max v_17)) (o19_284 b_15 b_16 hn_14 e_19 e_20 c_21 (le_min x5_8) (le_max x5_8) (le_min v_17) (le_max v_17)) dX6_tour_181 (fun v_117 ls e_118 hl => ?_)
                refine lv_goto (tgt := 19) C0.1 C0.2.1 dX6_tour_184 (by decide) ?_
                exact ih_12 v_117 _ _ _ _ (o19_285 b_15 b_16 hn_14 e_19 e_20 c_21 e_118) (o19_286 b_15 b_16 hn_14 e_19 e_20 c_21 e_118) (o19_287 b_15 b_16 hn_14 e_19 e_20 c_21 e_118) h (Fr.tr (Fr.tr (Fr.tr (Fr.tr (Fr.tr (Fr.tr (Fr.tr (Fr.tr (Fr.tr hF_10 (Fr.mono u_42 (by decide))) (Fr.mono u_61 (by decide))) (Fr.mono u_67 (by decide))) (Fr.up u_70.1 kSC_92 (by decide))) (Fr.up u_81.1 kSC_90 (by decide))) (Fr.mono u_87 (by decide))) (Fr.mono u_94 (by decide))) u_102) (Fr.up u_116.1 kSC_90 (by decide))) (lv_sub hl [0, 2, 3, 4, 5, 6] rfl)
              · -- 74
                refine lv_iload_n C0.1 C0.2.1 dX6_tour_77 rfl (lv_at hl 5 rfl) ?_
                refine lv_iload C0.1 C0.2.1 dX6_tour_78 (lv_at hl 0 rfl) ?_
                refine y_iaddU C0 dX6_tour_80 (fun v_119 => ?_)
                refine lv_aload_n C0.1 C0.2.1 dX6_tour_81 rfl (lv_at hl 2 rfl) ?_
                refine tg_X6_bestLefts C0 h kSC_90 q_419 dX6_tour_82 (fun v_120 e_121 e_122 e_123 => ?_)
                refine y_icmp_le (tgt := 91) C0 dX6_tour_85 (by decide) (fun c_124 => ?_) (fun c_124 => ?_)
                · -- 85
                  refine lv_aload_n C0.1 C0.2.1 dX6_tour_91 rfl (lv_at hl 2 rfl) ?_
                  refine tg_X6_routes C0 h kSC_90 q_412 dX6_tour_92 ?_
                  refine lv_iload_n C0.1 C0.2.1 dX6_tour_95 rfl (lv_at hl 4 rfl) ?_
                  refine lv_iload C0.1 C0.2.1 dX6_tour_96 (lv_at hl 6 rfl) ?_
                  refine lv_aload_n C0.1 C0.2.1 dX6_tour_98 rfl (lv_at hl 2 rfl) ?_
                  refine tg_X6_stops C0 h kSC_90 q_413 dX6_tour_99 ?_
                  refine lv_iload C0.1 C0.2.1 dX6_tour_102 (lv_at hl 1 rfl) ?_
                  refine y_iald C0 h kSC_91 rfl (by decide) (o19_281 b_15 b_16 hn_14 e_19 e_20 c_21) (o19_282 b_15 b_16 hn_14 e_19 e_20 c_21) dX6_tour_104 (fun v_125 e_126 e_127 e_128 => ?_)
                  have q_129 : v_125.toInt = v_33.toInt := congrArg Int32.toInt (e_126.symm.trans (Eq.trans (Fr.aI u_42 kSC_91 (by decide)) e_34))
                  refine lv_iload C0.1 C0.2.1 dX6_tour_105 (lv_at hl 0 rfl) ?_
                  refine lv_aload_n C0.1 C0.2.1 dX6_tour_107 rfl (lv_at hl 2 rfl) ?_
                  refine tg_X6_spread C0 h kSC_90 q_411 dX6_tour_108 ?_
                  refine y_ci h (y_rV (As := []) (rest := [.int r_44, .int v_125, .int a4, .int a2, .ref (ad 87)]) C0 hZ h (c_X8_streets l G Z ad _ h.2) k_X8_streets q_1299 q_1300 q_1298 kSC_83 rfl rfl rfl hl.1 rfl rfl (Nat.le_of_ble_eq_true rfl) dX6_tour_111 ⟨Nat.le_of_ble_eq_true rfl, Nat.le_of_ble_eq_true rfl⟩ ⟨Nat.le_of_ble_eq_true rfl, Nat.le_of_ble_eq_true rfl⟩) (fun r_133 H locs ws_130 h u_131 p_132 => ?_)
                  obtain ⟨e_134, e_135⟩ := p_132
                  refine y_cv h (y_rV (As := [.int a2, .int a4, .int v_125, .int r_44, .int r_133]) (rest := []) C0 hZ h (c_X7_trace l G Z ad _ h.2 a2 a4 v_125 r_44 r_133 (o19_3 l2 u2) (o19_4 l2 u2) (o19_1 l4 u4) (o19_310 l4 u4) (o19_1 e_134 e_135) (o19_2 e_134 e_135) (Rel.fr (M := [4, 5, 18, 19, 20, 21, 22, 23, 25, 26, 27, 28, 30, 31]) hR (Fr.tr (Fr.tr hF_10 (Fr.mono u_42 (by decide))) (Fr.mono u_131 (by decide))) (by decide) (by decide))) k_X7_trace q_1154 q_1155 q_1302 kSC_87 rfl rfl rfl hl.1 rfl rfl (Nat.le_of_ble_eq_true rfl) dX6_tour_114 ⟨Nat.le_of_ble_eq_true rfl, Nat.le_of_ble_eq_true rfl⟩ ⟨Nat.le_of_ble_eq_true rfl, Nat.le_of_ble_eq_true rfl⟩) (fun H locs ws_136 h u_137 p_138 => ?_)
                  refine lv_aload_n C0.1 C0.2.1 dX6_tour_117 rfl (lv_at hl 2 rfl) ?_
                  refine tg_X6_order C0 h kSC_90 q_414 dX6_tour_118 ?_
                  refine lv_iload_n C0.1 C0.2.1 dX6_tour_121 rfl (lv_at hl 3 rfl) ?_
                  refine lv_iload C0.1 C0.2.1 dX6_tour_122 (lv_at hl 1 rfl) ?_
                  refine y_iast C0 h kSC_92 rfl (by decide) (o19_311 l1 u1 e_3 e_4 c_5) (o19_312 l1 u1 e_3 e_4 c_5) (o19_281 b_15 b_16 hn_14 e_19 e_20 c_21) (o19_290 b_15 b_16 hn_14 e_19 e_20 c_21) dX6_tour_124 (fun H locs ws_139 h u_140 => ?_)
                  refine lv_aload_n C0.1 C0.2.1 dX6_tour_125 rfl (lv_at hl 2 rfl) ?_
                  refine lv_dup C0.1 C0.2.1 dX6_tour_126 rfl ?_
                  refine tg_X6_done C0 h kSC_90 q_417 dX6_tour_127 (fun v_141 e_142 e_143 e_144 => ?_)
                  have q_145 : v_141.toInt = v_22.toInt := congrArg Int32.toInt (e_142.symm.trans (Eq.trans (Eq.trans (fI_of (u_140.1 90 (kd_ne (S := SC q0) kSC_90 kSC_92 (by decide)))) (Eq.trans (Fr.fI u_137 kSC_90 (by decide)) (Eq.trans (Fr.fI u_131 kSC_90 (by decide)) (Fr.fI u_42 kSC_90 (by decide))))) e_23))
                  refine y_c1 (n := 1) C0 (by decide) dX6_tour_130 (fun v_146 e_147 => ?_)
                  refine lv_iload C0.1 C0.2.1 dX6_tour_131 (lv_at hl 1 rfl) ?_
                  refine y_ishlU C0 dX6_tour_133 (fun v_148 => ?_)
                  refine y_iorU C0 dX6_tour_134 (fun v_149 => ?_)
                  refine tp_X6_done C0 h kSC_90 q_417 (le_min v_149) (le_max v_149) dX6_tour_135 (fun H locs ws_150 h u_151 => ?_)
                  refine lv_aload_n C0.1 C0.2.1 dX6_tour_138 rfl (lv_at hl 2 rfl) ?_
                  refine lv_iload_n C0.1 C0.2.1 dX6_tour_139 rfl (lv_at hl 3 rfl) ?_
                  refine y_c1 (n := 1) C0 (by decide) dX6_tour_140 (fun v_152 e_153 => ?_)
                  refine y_add C0 (o19_313 l1 u1 e_3 e_4 c_5 e_153 (le_min a1) (le_max a1) (le_min v_152) (le_max v_152) (le_min v_1) (le_max v_1)) (o19_314 l1 u1 e_3 e_4 c_5 e_153 (le_min a1) (le_max a1) (le_min v_152) (le_max v_152) (le_min v_1) (le_max v_1)) dX6_tour_141 (fun v_154 e_155 => ?_)
                  refine lv_aload_n C0.1 C0.2.1 dX6_tour_142 rfl (lv_at hl 2 rfl) ?_
                  refine tg_X6_routes C0 h kSC_90 q_412 dX6_tour_143 ?_
                  refine y_ci h (y_rV (As := []) (rest := [.int v_154, .ref (ad 90)]) C0 hZ h (c_X7_last l G Z ad _ h.2) k_X7_last q_1304 q_1305 q_1303 kSC_87 rfl rfl rfl hl.1 rfl rfl (Nat.le_of_ble_eq_true rfl) dX6_tour_146 ⟨Nat.le_of_ble_eq_true rfl, Nat.le_of_ble_eq_true rfl⟩ ⟨Nat.le_of_ble_eq_true rfl, Nat.le_of_ble_eq_true rfl⟩) (fun r_159 H locs ws_156 h u_157 p_158 => ?_)
                  obtain ⟨e_160, e_161⟩ := p_158
                  refine lv_iload_n C0.1 C0.2.1 dX6_tour_149 rfl (lv_at hl 5 rfl) ?_
                  refine lv_iload C0.1 C0.2.1 dX6_tour_150 (lv_at hl 0 rfl) ?_
                  refine y_iaddU C0 dX6_tour_152 (fun v_162 => ?_)
                  refine lv_iload C0.1 C0.2.1 dX6_tour_153 (lv_at hl 6 rfl) ?_
                  refine lv_aload_n C0.1 C0.2.1 dX6_tour_155 rfl (lv_at hl 2 rfl) ?_
                  refine tg_X6_routes C0 h kSC_90 q_412 dX6_tour_156 ?_
                  refine y_ci h (y_rV (As := []) (rest := [.int a4, .int v_162, .int r_159, .int v_154, .ref (ad 90)]) C0 hZ h (c_X7_length l G Z ad _ h.2) k_X7_length q_1308 q_1309 q_1307 kSC_87 rfl rfl rfl hl.1 rfl rfl (Nat.le_of_ble_eq_true rfl) dX6_tour_159 ⟨Nat.le_of_ble_eq_true rfl, Nat.le_of_ble_eq_true rfl⟩ ⟨Nat.le_of_ble_eq_true rfl, Nat.le_of_ble_eq_true rfl⟩) (fun r_166 H locs ws_163 h u_164 p_165 => ?_)
                  obtain ⟨e_167, e_168⟩ := p_165
                  refine y_add C0 (o19_315 l4 u4 e_167 e_168 (le_min a4) (le_max a4) (le_min r_166) (le_max r_166)) (o19_316 l4 u4 e_167 e_168 (le_min a4) (le_max a4) (le_min r_166) (le_max r_166)) dX6_tour_162 (fun v_169 e_170 => ?_)
                  refine y_cv h (y_rV (As := [.int v_154, .int r_159, .int v_162, .int v_169]) (rest := []) C0 hZ h (c_X6_tour_2 l G Z ad _ h.2 v_154 r_159 v_162 v_169 (o19_317 l1 u1 e_3 e_4 c_5 e_153 e_155) (o19_318 l1 u1 e_3 e_4 c_5 e_153 e_155) (o19_3 e_160 e_161) (o19_4 e_160 e_161) (o19_319 l4 u4 e_167 e_168 e_170) (o19_320 l4 u4 e_167 e_168 e_170) (Rel.fr (M := [4, 5, 18, 19, 20, 21, 22, 23, 25, 26, 27, 28, 30, 31]) hR (Fr.tr (Fr.tr (Fr.tr (Fr.tr (Fr.tr (Fr.tr (Fr.tr hF_10 (Fr.mono u_42 (by decide))) (Fr.mono u_131 (by decide))) (Fr.mono u_137 (by decide))) (Fr.up u_140.1 kSC_92 (by decide))) (Fr.up u_151.1 kSC_90 (by decide))) (Fr.mono u_157 (by decide))) (Fr.mono u_164 (by decide))) (by decide) (by decide))) k_X6_tour q_1290 q_50 q_1311 kSC_90 rfl rfl rfl hl.1 rfl rfl (Nat.le_of_ble_eq_true rfl) dX6_tour_163 ⟨Nat.le_of_ble_eq_true rfl, Nat.le_of_ble_eq_true rfl⟩ ⟨Nat.le_of_ble_eq_true rfl, Nat.le_of_ble_eq_true rfl⟩) (fun H locs ws_171 h u_172 p_173 => ?_)
                  refine lv_aload_n C0.1 C0.2.1 dX6_tour_166 rfl (lv_at hl 2 rfl) ?_
                  refine lv_dup C0.1 C0.2.1 dX6_tour_167 rfl ?_
                  refine tg_X6_done C0 h kSC_90 q_417 dX6_tour_168 (fun v_174 e_175 e_176 e_177 => ?_)
                  refine y_c1 (n := 1) C0 (by decide) dX6_tour_171 (fun v_178 e_179 => ?_)
                  refine lv_iload C0.1 C0.2.1 dX6_tour_172 (lv_at hl 1 rfl) ?_
                  refine y_ishlU C0 dX6_tour_174 (fun v_180 => ?_)
                  refine y_c1 (n := (-1)) C0 (by decide) dX6_tour_175 (fun v_181 e_182 => ?_)
                  refine y_ixorU C0 dX6_tour_176 (fun v_183 => ?_)
                  refine y_iandU C0 dX6_tour_177 (fun v_184 => ?_)
                  refine tp_X6_done C0 h kSC_90 q_417 (le_min v_184) (le_max v_184) dX6_tour_178 (fun H locs ws_185 h u_186 => ?_)
                  refine y_inc (kp := 1) (n := 1) (fun v_187 => [(5, .int v_187), (6, .int r_44), (0, .ref (ad 90)), (1, .int a1), (2, .int a2), (3, .int a3), (4, .int a4)]) C0 hl rfl (by decide) (by decide) (fun _ => rfl) (o19_283 b_15 b_16 hn_14 e_19 e_20 c_21 (le_min x5_8) (le_max x5_8) (le_min v_17) (le_max v_17)) (o19_284 b_15 b_16 hn_14 e_19 e_20 c_21 (le_min x5_8) (le_max x5_8) (le_min v_17) (le_max v_17)) dX6_tour_181 (fun v_187 ls e_188 hl => ?_)
                  refine lv_goto (tgt := 19) C0.1 C0.2.1 dX6_tour_184 (by decide) ?_
                  exact ih_12 v_187 _ _ _ _ (o19_285 b_15 b_16 hn_14 e_19 e_20 c_21 e_188) (o19_286 b_15 b_16 hn_14 e_19 e_20 c_21 e_188) (o19_287 b_15 b_16 hn_14 e_19 e_20 c_21 e_188) h (Fr.tr (Fr.tr (Fr.tr (Fr.tr (Fr.tr (Fr.tr (Fr.tr (Fr.tr (Fr.tr hF_10 (Fr.mono u_42 (by decide))) (Fr.mono u_131 (by decide))) (Fr.mono u_137 (by decide))) (Fr.up u_140.1 kSC_92 (by decide))) (Fr.up u_151.1 kSC_90 (by decide))) (Fr.mono u_157 (by decide))) (Fr.mono u_164 (by decide))) u_172) (Fr.up u_186.1 kSC_90 (by decide))) (lv_sub hl [0, 2, 3, 4, 5, 6] rfl)
                · -- 85
                  refine lv_goto (tgt := 181) C0.1 C0.2.1 dX6_tour_88 (by decide) ?_
                  refine y_inc (kp := 1) (n := 1) (fun v_189 => [(5, .int v_189), (6, .int r_44), (0, .ref (ad 90)), (1, .int a1), (2, .int a2), (3, .int a3), (4, .int a4)]) C0 hl rfl (by decide) (by decide) (fun _ => rfl) (o19_283 b_15 b_16 hn_14 e_19 e_20 c_21 (le_min x5_8) (le_max x5_8) (le_min v_17) (le_max v_17)) (o19_284 b_15 b_16 hn_14 e_19 e_20 c_21 (le_min x5_8) (le_max x5_8) (le_min v_17) (le_max v_17)) dX6_tour_181 (fun v_189 ls e_190 hl => ?_)
                  refine lv_goto (tgt := 19) C0.1 C0.2.1 dX6_tour_184 (by decide) ?_
                  exact ih_12 v_189 _ _ _ _ (o19_285 b_15 b_16 hn_14 e_19 e_20 c_21 e_190) (o19_286 b_15 b_16 hn_14 e_19 e_20 c_21 e_190) (o19_287 b_15 b_16 hn_14 e_19 e_20 c_21 e_190) h (Fr.tr hF_10 (Fr.mono u_42 (by decide))) (lv_sub hl [0, 2, 3, 4, 5, 6] rfl)
          · -- 37
            refine lv_goto (tgt := 181) C0.1 C0.2.1 dX6_tour_40 (by decide) ?_
            refine y_inc (kp := 0) (n := 1) (fun v_191 => [(5, .int v_191), (0, .ref (ad 90)), (1, .int a1), (2, .int a2), (3, .int a3), (4, .int a4)]) C0 hl rfl (by decide) (by decide) (fun _ => rfl) (o19_283 b_15 b_16 hn_14 e_19 e_20 c_21 (le_min x5_8) (le_max x5_8) (le_min v_17) (le_max v_17)) (o19_284 b_15 b_16 hn_14 e_19 e_20 c_21 (le_min x5_8) (le_max x5_8) (le_min v_17) (le_max v_17)) dX6_tour_181 (fun v_191 ls e_192 hl => ?_)
            refine lv_goto (tgt := 19) C0.1 C0.2.1 dX6_tour_184 (by decide) ?_
            exact ih_12 v_191 _ _ _ _ (o19_285 b_15 b_16 hn_14 e_19 e_20 c_21 e_192) (o19_286 b_15 b_16 hn_14 e_19 e_20 c_21 e_192) (o19_287 b_15 b_16 hn_14 e_19 e_20 c_21 e_192) h hF_10 (lv_sub hl [0, 1, 2, 3, 4, 5] rfl)
    exact lp_11 ((4 - v_6.toInt + 1).toNat) v_6 _ _ _ _ (o19_86 e_7) (o19_87 e_7) (o19_88 e_7) h Fr.rf (lv_sub hl [0, 1, 2, 3, 4, 5] rfl)
  · -- 5
    refine lv_aload_n C0.1 C0.2.1 dX6_tour_8 rfl (lv_at hl 0 rfl) ?_
    refine lv_iload_n C0.1 C0.2.1 dX6_tour_9 rfl (lv_at hl 3 rfl) ?_
    refine lv_iload C0.1 C0.2.1 dX6_tour_10 (lv_at hl 4 rfl) ?_
    refine y_cv h (y_rV (As := [.int a3, .int a4]) (rest := []) C0 hZ h (c_X6_compare l G Z ad _ h.2 a3 a4) k_X6_compare q_1294 q_51 q_1292 kSC_90 rfl rfl rfl hl.1 rfl rfl (Nat.le_of_ble_eq_true rfl) dX6_tour_12 ⟨Nat.le_of_ble_eq_true rfl, Nat.le_of_ble_eq_true rfl⟩ ⟨Nat.le_of_ble_eq_true rfl, Nat.le_of_ble_eq_true rfl⟩) (fun H locs ws_193 h u_194 p_195 => ?_)
    rw [hQ]
    exact y_vret C0 h (Fr.mono u_194 (by decide)) trivial dX6_tour_15
set_option maxHeartbeats 4000000 in
set_option maxRecDepth 100000 in
theorem c_X6_tour_0 (l : Launch) (G : GG) (Z : RZ) (ad : Nat → Nat) (ws0 : va_W) (hT : Ty G (SC tt) ad ws0) (a1 : Int32) (a2 : Int32) (a3 : Int32) (a4 : Int32) (l1 : 0 ≤ a1.toInt) (u1 : a1.toInt ≤ 0) (l2 : 0 ≤ a2.toInt) (u2 : a2.toInt ≤ 99) (l4 : 0 ≤ a4.toInt) (u4 : a4.toInt ≤ 0) (hR : Rel ws0) : Mq l yX6_tour cX6_tour 7 none 10 G Z [.ref (ad 90), .int a1, .int a2, .int a3, .int a4] ws0 (PV G (SC tt) ad [4, 5, 18, 19, 20, 21, 22, 23, 25, 26, 27, 28, 30, 31] ws0 (fun u => True)) := by
  refine Mq.start (by decide) (Nat.le_of_ble_eq_true rfl) ?_
  intro p e s m below meth c A ls C0 hZ h hl
  have hl : lv_has ls 7 [(0, .ref (ad 90)), (1, .int a1), (2, .int a2), (3, .int a3), (4, .int a4)] := hl
  have h : Wt G (SC tt) ad A s s.heap [] ws0 := ⟨h, hT⟩
  obtain ⟨args, hargs⟩ : ∃ z, z = ([.ref (ad 90), .int a1, .int a2, .int a3, .int a4] : List Value).toArray := ⟨_, rfl⟩
  rw [← hargs] at C0 ⊢
  have C0 : Cx p s m args meth c RX6 cX6_tour 7 none := C0
  obtain ⟨Q, hQ⟩ : ∃ z, z = MQ below ((PV G (SC tt) ad [4, 5, 18, 19, 20, 21, 22, 23, 25, 26, 27, 28, 30, 31] ws0 (fun u => True)) A) args s 0 0 A := ⟨_, rfl⟩
  rw [← hQ]
  refine lv_iload_n C0.1 C0.2.1 dX6_tour_0 rfl (lv_at hl 1 rfl) ?_
  refine lv_aload_n C0.1 C0.2.1 dX6_tour_1 rfl (lv_at hl 0 rfl) ?_
  refine tg_X6_size C0 h kSC_90 q_416 dX6_tour_2 (fun v_1 e_2 e_3 e_4 => ?_)
  refine y_icmp_lt (tgt := 16) C0 dX6_tour_5 (by decide) (fun c_5 => ?_) (fun c_5 => ?_)
  · -- 5
    refine y_c1 (n := 0) C0 (by decide) dX6_tour_16 (fun v_6 e_7 => ?_)
    refine lv_istore (lv' := [(5, .int v_6), (0, .ref (ad 90)), (1, .int a1), (2, .int a2), (3, .int a3), (4, .int a4)]) C0.1 C0.2.1 dX6_tour_17 hl (by decide) rfl (fun ls hl => ?_)
    have lp_11 : ∀ (n_13 : Nat) (x5_8 : Int32) (H : Heap) (locs : List Loc) (ls : Array Slot) (ws_9 : va_W), 4 - x5_8.toInt < (n_13 : Int) → 0 ≤ x5_8.toInt → x5_8.toInt ≤ 4 → Wt G (SC tt) ad A s H locs ws_9 → Fr (SC tt) [4, 5, 18, 19, 20, 21, 22, 23, 25, 26, 27, 28, 30, 31] ws0 ws_9 → lv_has ls 7 [(5, .int x5_8), (0, .ref (ad 90)), (1, .int a1), (2, .int a2), (3, .int a3), (4, .int a4)] → W p l e (rmd 10 0 0) s m args below meth c H locs 0 0 Q (F0 m 19 ls []) := by
      intro n_13
      induction n_13 with
      | zero => intro x5_8 H locs ls ws_9 hn_14 b_15 b_16 h hF_10 hl; exact ((o19_50 b_15 b_16 hn_14)).elim
      | succ n_13 ih_12 =>
        intro x5_8 H locs ls ws_9 hn_14 b_15 b_16 h hF_10 hl
        refine lv_iload C0.1 C0.2.1 dX6_tour_19 (lv_at hl 0 rfl) ?_
        refine lv_aload_n C0.1 C0.2.1 dX6_tour_21 rfl (lv_at hl 1 rfl) ?_
        refine tg_X6_size C0 h kSC_90 q_416 dX6_tour_22 (fun v_17 e_18 e_19 e_20 => ?_)
        refine y_icmp_ge (tgt := 187) C0 dX6_tour_25 (by decide) (fun c_21 => ?_) (fun c_21 => ?_)
        · -- 25
          rw [hQ]
          exact y_vret C0 h hF_10 trivial dX6_tour_187
        · -- 25
          refine lv_aload_n C0.1 C0.2.1 dX6_tour_28 rfl (lv_at hl 1 rfl) ?_
          refine tg_X6_done C0 h kSC_90 q_417 dX6_tour_29 (fun v_22 e_23 e_24 e_25 => ?_)
          refine lv_iload C0.1 C0.2.1 dX6_tour_32 (lv_at hl 0 rfl) ?_
          refine y_ishrU C0 dX6_tour_34 (fun v_26 => ?_)
          refine y_c1 (n := 1) C0 (by decide) dX6_tour_35 (fun v_27 e_28 => ?_)
          refine y_and 1 1 (n := 1) C0 (Eq.trans (o19_104 e_28) (by decide)) (by decide) (by decide) (by decide) dX6_tour_36 (fun v_29 e_30 e_31 => ?_)
          refine y_if_eq (tgt := 43) C0 dX6_tour_37 (by decide) (fun c_32 => ?_) (fun c_32 => ?_)
          · -- 37
            refine lv_aload_n C0.1 C0.2.1 dX6_tour_43 rfl (lv_at hl 1 rfl) ?_
            refine tg_X6_spread C0 h kSC_90 q_411 dX6_tour_44 ?_
            refine lv_iload_n C0.1 C0.2.1 dX6_tour_47 rfl (lv_at hl 3 rfl) ?_
            refine lv_iload C0.1 C0.2.1 dX6_tour_48 (lv_at hl 5 rfl) ?_
            refine lv_aload_n C0.1 C0.2.1 dX6_tour_50 rfl (lv_at hl 1 rfl) ?_
            refine tg_X6_stops C0 h kSC_90 q_413 dX6_tour_51 ?_
            refine lv_iload C0.1 C0.2.1 dX6_tour_54 (lv_at hl 0 rfl) ?_
            refine y_iald C0 h kSC_91 rfl (by decide) (o19_281 b_15 b_16 hn_14 e_19 e_20 c_21) (o19_282 b_15 b_16 hn_14 e_19 e_20 c_21) dX6_tour_56 (fun v_33 e_34 e_35 e_36 => ?_)
            refine y_c2 (n := 60) C0 (by decide) dX6_tour_57 (fun v_37 e_38 => ?_)
            refine y_c1 (n := 0) C0 (by decide) dX6_tour_59 (fun v_39 e_40 => ?_)
            refine y_ci h (y_rV (As := [.int a2, .int a4, .int v_33, .int v_37, .int v_39]) (rest := []) C0 hZ h (c_X8_fewestLefts l G Z ad _ h.2 a2 a4 v_33 v_37 v_39 (o19_3 l2 u2) (o19_4 l2 u2) (o19_321 l4 u4) (o19_322 l4 u4) (o19_263 e_38) (o19_264 e_38)) k_X8_fewestLefts q_1203 q_1204 q_1297 kSC_83 rfl rfl rfl hl.1 rfl rfl (Nat.le_of_ble_eq_true rfl) dX6_tour_60 ⟨Nat.le_of_ble_eq_true rfl, Nat.le_of_ble_eq_true rfl⟩ ⟨Nat.le_of_ble_eq_true rfl, Nat.le_of_ble_eq_true rfl⟩) (fun r_44 H locs ws_41 h u_42 p_43 => ?_)
            obtain ⟨e_45, e_46⟩ := p_43
            refine lv_istore (lv' := [(6, .int r_44), (5, .int x5_8), (0, .ref (ad 90)), (1, .int a1), (2, .int a2), (3, .int a3), (4, .int a4)]) C0.1 C0.2.1 dX6_tour_63 hl (by decide) rfl (fun ls hl => ?_)
            refine lv_iload C0.1 C0.2.1 dX6_tour_65 (lv_at hl 0 rfl) ?_
            refine y_if_lt (tgt := 181) C0 dX6_tour_67 (by decide) (fun c_47 => ?_) (fun c_47 => ?_)
            · -- 67
              refine y_inc (kp := 1) (n := 1) (fun v_48 => [(5, .int v_48), (6, .int r_44), (0, .ref (ad 90)), (1, .int a1), (2, .int a2), (3, .int a3), (4, .int a4)]) C0 hl rfl (by decide) (by decide) (fun _ => rfl) (o19_283 b_15 b_16 hn_14 e_19 e_20 c_21 (le_min x5_8) (le_max x5_8) (le_min v_17) (le_max v_17)) (o19_284 b_15 b_16 hn_14 e_19 e_20 c_21 (le_min x5_8) (le_max x5_8) (le_min v_17) (le_max v_17)) dX6_tour_181 (fun v_48 ls e_49 hl => ?_)
              refine lv_goto (tgt := 19) C0.1 C0.2.1 dX6_tour_184 (by decide) ?_
              exact ih_12 v_48 _ _ _ _ (o19_285 b_15 b_16 hn_14 e_19 e_20 c_21 e_49) (o19_286 b_15 b_16 hn_14 e_19 e_20 c_21 e_49) (o19_287 b_15 b_16 hn_14 e_19 e_20 c_21 e_49) h (Fr.tr hF_10 (Fr.mono u_42 (by decide))) (lv_sub hl [0, 2, 3, 4, 5, 6] rfl)
            · -- 67
              refine lv_aload_n C0.1 C0.2.1 dX6_tour_70 rfl (lv_at hl 2 rfl) ?_
              refine tg_X6_any C0 h kSC_90 q_418 dX6_tour_71 (fun v_50 e_51 e_52 e_53 => ?_)
              refine y_if_eq (tgt := 91) C0 dX6_tour_74 (by decide) (fun c_54 => ?_) (fun c_54 => ?_)
              · -- 74
                refine lv_aload_n C0.1 C0.2.1 dX6_tour_91 rfl (lv_at hl 2 rfl) ?_
                refine tg_X6_routes C0 h kSC_90 q_412 dX6_tour_92 ?_
                refine lv_iload_n C0.1 C0.2.1 dX6_tour_95 rfl (lv_at hl 4 rfl) ?_
                refine lv_iload C0.1 C0.2.1 dX6_tour_96 (lv_at hl 6 rfl) ?_
                refine lv_aload_n C0.1 C0.2.1 dX6_tour_98 rfl (lv_at hl 2 rfl) ?_
                refine tg_X6_stops C0 h kSC_90 q_413 dX6_tour_99 ?_
                refine lv_iload C0.1 C0.2.1 dX6_tour_102 (lv_at hl 1 rfl) ?_
                refine y_iald C0 h kSC_91 rfl (by decide) (o19_281 b_15 b_16 hn_14 e_19 e_20 c_21) (o19_282 b_15 b_16 hn_14 e_19 e_20 c_21) dX6_tour_104 (fun v_55 e_56 e_57 e_58 => ?_)
                have q_59 : v_55.toInt = v_33.toInt := congrArg Int32.toInt (e_56.symm.trans (Eq.trans (Fr.aI u_42 kSC_91 (by decide)) e_34))
                refine lv_iload C0.1 C0.2.1 dX6_tour_105 (lv_at hl 0 rfl) ?_
                refine lv_aload_n C0.1 C0.2.1 dX6_tour_107 rfl (lv_at hl 2 rfl) ?_
                refine tg_X6_spread C0 h kSC_90 q_411 dX6_tour_108 ?_
                refine y_ci h (y_rV (As := []) (rest := [.int r_44, .int v_55, .int a4, .int a2, .ref (ad 87)]) C0 hZ h (c_X8_streets l G Z ad _ h.2) k_X8_streets q_1299 q_1300 q_1298 kSC_83 rfl rfl rfl hl.1 rfl rfl (Nat.le_of_ble_eq_true rfl) dX6_tour_111 ⟨Nat.le_of_ble_eq_true rfl, Nat.le_of_ble_eq_true rfl⟩ ⟨Nat.le_of_ble_eq_true rfl, Nat.le_of_ble_eq_true rfl⟩) (fun r_63 H locs ws_60 h u_61 p_62 => ?_)
                obtain ⟨e_64, e_65⟩ := p_62
                refine y_cv h (y_rV (As := [.int a2, .int a4, .int v_55, .int r_44, .int r_63]) (rest := []) C0 hZ h (c_X7_trace l G Z ad _ h.2 a2 a4 v_55 r_44 r_63 (o19_3 l2 u2) (o19_4 l2 u2) (o19_321 l4 u4) (o19_322 l4 u4) (o19_1 e_64 e_65) (o19_2 e_64 e_65) (Rel.fr (M := [4, 5, 18, 19, 20, 21, 22, 23, 25, 26, 27, 28, 30, 31]) hR (Fr.tr (Fr.tr hF_10 (Fr.mono u_42 (by decide))) (Fr.mono u_61 (by decide))) (by decide) (by decide))) k_X7_trace q_1154 q_1155 q_1302 kSC_87 rfl rfl rfl hl.1 rfl rfl (Nat.le_of_ble_eq_true rfl) dX6_tour_114 ⟨Nat.le_of_ble_eq_true rfl, Nat.le_of_ble_eq_true rfl⟩ ⟨Nat.le_of_ble_eq_true rfl, Nat.le_of_ble_eq_true rfl⟩) (fun H locs ws_66 h u_67 p_68 => ?_)
                refine lv_aload_n C0.1 C0.2.1 dX6_tour_117 rfl (lv_at hl 2 rfl) ?_
                refine tg_X6_order C0 h kSC_90 q_414 dX6_tour_118 ?_
                refine lv_iload_n C0.1 C0.2.1 dX6_tour_121 rfl (lv_at hl 3 rfl) ?_
                refine lv_iload C0.1 C0.2.1 dX6_tour_122 (lv_at hl 1 rfl) ?_
                refine y_iast C0 h kSC_92 rfl (by decide) (o19_323 l1 u1 e_3 e_4 c_5) (o19_324 l1 u1 e_3 e_4 c_5) (o19_281 b_15 b_16 hn_14 e_19 e_20 c_21) (o19_290 b_15 b_16 hn_14 e_19 e_20 c_21) dX6_tour_124 (fun H locs ws_69 h u_70 => ?_)
                refine lv_aload_n C0.1 C0.2.1 dX6_tour_125 rfl (lv_at hl 2 rfl) ?_
                refine lv_dup C0.1 C0.2.1 dX6_tour_126 rfl ?_
                refine tg_X6_done C0 h kSC_90 q_417 dX6_tour_127 (fun v_71 e_72 e_73 e_74 => ?_)
                have q_75 : v_71.toInt = v_22.toInt := congrArg Int32.toInt (e_72.symm.trans (Eq.trans (Eq.trans (fI_of (u_70.1 90 (kd_ne (S := SC q0) kSC_90 kSC_92 (by decide)))) (Eq.trans (Fr.fI u_67 kSC_90 (by decide)) (Eq.trans (Fr.fI u_61 kSC_90 (by decide)) (Fr.fI u_42 kSC_90 (by decide))))) e_23))
                refine y_c1 (n := 1) C0 (by decide) dX6_tour_130 (fun v_76 e_77 => ?_)
                refine lv_iload C0.1 C0.2.1 dX6_tour_131 (lv_at hl 1 rfl) ?_
                refine y_ishlU C0 dX6_tour_133 (fun v_78 => ?_)
                refine y_iorU C0 dX6_tour_134 (fun v_79 => ?_)
                refine tp_X6_done C0 h kSC_90 q_417 (le_min v_79) (le_max v_79) dX6_tour_135 (fun H locs ws_80 h u_81 => ?_)
                refine lv_aload_n C0.1 C0.2.1 dX6_tour_138 rfl (lv_at hl 2 rfl) ?_
                refine lv_iload_n C0.1 C0.2.1 dX6_tour_139 rfl (lv_at hl 3 rfl) ?_
                refine y_c1 (n := 1) C0 (by decide) dX6_tour_140 (fun v_82 e_83 => ?_)
                refine y_add C0 (o19_325 l1 u1 e_3 e_4 c_5 e_83 (le_min a1) (le_max a1) (le_min v_82) (le_max v_82) (le_min v_1) (le_max v_1)) (o19_326 l1 u1 e_3 e_4 c_5 e_83 (le_min a1) (le_max a1) (le_min v_82) (le_max v_82) (le_min v_1) (le_max v_1)) dX6_tour_141 (fun v_84 e_85 => ?_)
                refine lv_aload_n C0.1 C0.2.1 dX6_tour_142 rfl (lv_at hl 2 rfl) ?_
                refine tg_X6_routes C0 h kSC_90 q_412 dX6_tour_143 ?_
                refine y_ci h (y_rV (As := []) (rest := [.int v_84, .ref (ad 90)]) C0 hZ h (c_X7_last l G Z ad _ h.2) k_X7_last q_1304 q_1305 q_1303 kSC_87 rfl rfl rfl hl.1 rfl rfl (Nat.le_of_ble_eq_true rfl) dX6_tour_146 ⟨Nat.le_of_ble_eq_true rfl, Nat.le_of_ble_eq_true rfl⟩ ⟨Nat.le_of_ble_eq_true rfl, Nat.le_of_ble_eq_true rfl⟩) (fun r_89 H locs ws_86 h u_87 p_88 => ?_)
                obtain ⟨e_90, e_91⟩ := p_88
                refine lv_iload_n C0.1 C0.2.1 dX6_tour_149 rfl (lv_at hl 5 rfl) ?_
                refine lv_iload C0.1 C0.2.1 dX6_tour_150 (lv_at hl 0 rfl) ?_
                refine y_iaddU C0 dX6_tour_152 (fun v_92 => ?_)
                refine lv_iload C0.1 C0.2.1 dX6_tour_153 (lv_at hl 6 rfl) ?_
                refine lv_aload_n C0.1 C0.2.1 dX6_tour_155 rfl (lv_at hl 2 rfl) ?_
                refine tg_X6_routes C0 h kSC_90 q_412 dX6_tour_156 ?_
                refine y_ci h (y_rV (As := []) (rest := [.int a4, .int v_92, .int r_89, .int v_84, .ref (ad 90)]) C0 hZ h (c_X7_length l G Z ad _ h.2) k_X7_length q_1308 q_1309 q_1307 kSC_87 rfl rfl rfl hl.1 rfl rfl (Nat.le_of_ble_eq_true rfl) dX6_tour_159 ⟨Nat.le_of_ble_eq_true rfl, Nat.le_of_ble_eq_true rfl⟩ ⟨Nat.le_of_ble_eq_true rfl, Nat.le_of_ble_eq_true rfl⟩) (fun r_96 H locs ws_93 h u_94 p_95 => ?_)
                obtain ⟨e_97, e_98⟩ := p_95
                refine y_add C0 (o19_327 l4 u4 e_97 e_98 (le_min a4) (le_max a4) (le_min r_96) (le_max r_96)) (o19_328 l4 u4 e_97 e_98 (le_min a4) (le_max a4) (le_min r_96) (le_max r_96)) dX6_tour_162 (fun v_99 e_100 => ?_)
                refine y_cv h (y_rV (As := [.int v_84, .int r_89, .int v_92, .int v_99]) (rest := []) C0 hZ h (c_X6_tour_1 l G Z ad _ h.2 v_84 r_89 v_92 v_99 (o19_329 l1 u1 e_3 e_4 c_5 e_83 e_85) (o19_330 l1 u1 e_3 e_4 c_5 e_83 e_85) (o19_3 e_90 e_91) (o19_4 e_90 e_91) (o19_331 l4 u4 e_97 e_98 e_100) (o19_332 l4 u4 e_97 e_98 e_100) (Rel.fr (M := [4, 5, 18, 19, 20, 21, 22, 23, 25, 26, 27, 28, 30, 31]) hR (Fr.tr (Fr.tr (Fr.tr (Fr.tr (Fr.tr (Fr.tr (Fr.tr hF_10 (Fr.mono u_42 (by decide))) (Fr.mono u_61 (by decide))) (Fr.mono u_67 (by decide))) (Fr.up u_70.1 kSC_92 (by decide))) (Fr.up u_81.1 kSC_90 (by decide))) (Fr.mono u_87 (by decide))) (Fr.mono u_94 (by decide))) (by decide) (by decide))) k_X6_tour q_1290 q_50 q_1311 kSC_90 rfl rfl rfl hl.1 rfl rfl (Nat.le_of_ble_eq_true rfl) dX6_tour_163 ⟨Nat.le_of_ble_eq_true rfl, Nat.le_of_ble_eq_true rfl⟩ ⟨Nat.le_of_ble_eq_true rfl, Nat.le_of_ble_eq_true rfl⟩) (fun H locs ws_101 h u_102 p_103 => ?_)
                refine lv_aload_n C0.1 C0.2.1 dX6_tour_166 rfl (lv_at hl 2 rfl) ?_
                refine lv_dup C0.1 C0.2.1 dX6_tour_167 rfl ?_
                refine tg_X6_done C0 h kSC_90 q_417 dX6_tour_168 (fun v_104 e_105 e_106 e_107 => ?_)
                refine y_c1 (n := 1) C0 (by decide) dX6_tour_171 (fun v_108 e_109 => ?_)
                refine lv_iload C0.1 C0.2.1 dX6_tour_172 (lv_at hl 1 rfl) ?_
                refine y_ishlU C0 dX6_tour_174 (fun v_110 => ?_)
                refine y_c1 (n := (-1)) C0 (by decide) dX6_tour_175 (fun v_111 e_112 => ?_)
                refine y_ixorU C0 dX6_tour_176 (fun v_113 => ?_)
                refine y_iandU C0 dX6_tour_177 (fun v_114 => ?_)
                refine tp_X6_done C0 h kSC_90 q_417 (le_min v_114) (le_max v_114) dX6_tour_178 (fun H locs ws_115 h u_116 => ?_)
                refine y_inc (kp := 1) (n := 1) (fun v_117 => [(5, .int v_117), (6, .int r_44), (0, .ref (ad 90)), (1, .int a1), (2, .int a2), (3, .int a3), (4, .int a4)]) C0 hl rfl (by decide) (by decide) (fun _ => rfl) (o19_283 b_15 b_16 hn_14 e_19 e_20 c_21 (le_min x5_8) (le_max x5_8) (le_min v_17) (le_max v_17)) (o19_284 b_15 b_16 hn_14 e_19 e_20 c_21 (le_min x5_8) (le_max x5_8) (le_min v_17) (le_max v_17)) dX6_tour_181 (fun v_117 ls e_118 hl => ?_)
                refine lv_goto (tgt := 19) C0.1 C0.2.1 dX6_tour_184 (by decide) ?_
                exact ih_12 v_117 _ _ _ _ (o19_285 b_15 b_16 hn_14 e_19 e_20 c_21 e_118) (o19_286 b_15 b_16 hn_14 e_19 e_20 c_21 e_118) (o19_287 b_15 b_16 hn_14 e_19 e_20 c_21 e_118) h (Fr.tr (Fr.tr (Fr.tr (Fr.tr (Fr.tr (Fr.tr (Fr.tr (Fr.tr (Fr.tr hF_10 (Fr.mono u_42 (by decide))) (Fr.mono u_61 (by decide))) (Fr.mono u_67 (by decide))) (Fr.up u_70.1 kSC_92 (by decide))) (Fr.up u_81.1 kSC_90 (by decide))) (Fr.mono u_87 (by decide))) (Fr.mono u_94 (by decide))) u_102) (Fr.up u_116.1 kSC_90 (by decide))) (lv_sub hl [0, 2, 3, 4, 5, 6] rfl)
              · -- 74
                refine lv_iload_n C0.1 C0.2.1 dX6_tour_77 rfl (lv_at hl 5 rfl) ?_
                refine lv_iload C0.1 C0.2.1 dX6_tour_78 (lv_at hl 0 rfl) ?_
                refine y_iaddU C0 dX6_tour_80 (fun v_119 => ?_)
                refine lv_aload_n C0.1 C0.2.1 dX6_tour_81 rfl (lv_at hl 2 rfl) ?_
                refine tg_X6_bestLefts C0 h kSC_90 q_419 dX6_tour_82 (fun v_120 e_121 e_122 e_123 => ?_)
                refine y_icmp_le (tgt := 91) C0 dX6_tour_85 (by decide) (fun c_124 => ?_) (fun c_124 => ?_)
                · -- 85
                  refine lv_aload_n C0.1 C0.2.1 dX6_tour_91 rfl (lv_at hl 2 rfl) ?_
                  refine tg_X6_routes C0 h kSC_90 q_412 dX6_tour_92 ?_
                  refine lv_iload_n C0.1 C0.2.1 dX6_tour_95 rfl (lv_at hl 4 rfl) ?_
                  refine lv_iload C0.1 C0.2.1 dX6_tour_96 (lv_at hl 6 rfl) ?_
                  refine lv_aload_n C0.1 C0.2.1 dX6_tour_98 rfl (lv_at hl 2 rfl) ?_
                  refine tg_X6_stops C0 h kSC_90 q_413 dX6_tour_99 ?_
                  refine lv_iload C0.1 C0.2.1 dX6_tour_102 (lv_at hl 1 rfl) ?_
                  refine y_iald C0 h kSC_91 rfl (by decide) (o19_281 b_15 b_16 hn_14 e_19 e_20 c_21) (o19_282 b_15 b_16 hn_14 e_19 e_20 c_21) dX6_tour_104 (fun v_125 e_126 e_127 e_128 => ?_)
                  have q_129 : v_125.toInt = v_33.toInt := congrArg Int32.toInt (e_126.symm.trans (Eq.trans (Fr.aI u_42 kSC_91 (by decide)) e_34))
                  refine lv_iload C0.1 C0.2.1 dX6_tour_105 (lv_at hl 0 rfl) ?_
                  refine lv_aload_n C0.1 C0.2.1 dX6_tour_107 rfl (lv_at hl 2 rfl) ?_
                  refine tg_X6_spread C0 h kSC_90 q_411 dX6_tour_108 ?_
                  refine y_ci h (y_rV (As := []) (rest := [.int r_44, .int v_125, .int a4, .int a2, .ref (ad 87)]) C0 hZ h (c_X8_streets l G Z ad _ h.2) k_X8_streets q_1299 q_1300 q_1298 kSC_83 rfl rfl rfl hl.1 rfl rfl (Nat.le_of_ble_eq_true rfl) dX6_tour_111 ⟨Nat.le_of_ble_eq_true rfl, Nat.le_of_ble_eq_true rfl⟩ ⟨Nat.le_of_ble_eq_true rfl, Nat.le_of_ble_eq_true rfl⟩) (fun r_133 H locs ws_130 h u_131 p_132 => ?_)
                  obtain ⟨e_134, e_135⟩ := p_132
                  refine y_cv h (y_rV (As := [.int a2, .int a4, .int v_125, .int r_44, .int r_133]) (rest := []) C0 hZ h (c_X7_trace l G Z ad _ h.2 a2 a4 v_125 r_44 r_133 (o19_3 l2 u2) (o19_4 l2 u2) (o19_321 l4 u4) (o19_322 l4 u4) (o19_1 e_134 e_135) (o19_2 e_134 e_135) (Rel.fr (M := [4, 5, 18, 19, 20, 21, 22, 23, 25, 26, 27, 28, 30, 31]) hR (Fr.tr (Fr.tr hF_10 (Fr.mono u_42 (by decide))) (Fr.mono u_131 (by decide))) (by decide) (by decide))) k_X7_trace q_1154 q_1155 q_1302 kSC_87 rfl rfl rfl hl.1 rfl rfl (Nat.le_of_ble_eq_true rfl) dX6_tour_114 ⟨Nat.le_of_ble_eq_true rfl, Nat.le_of_ble_eq_true rfl⟩ ⟨Nat.le_of_ble_eq_true rfl, Nat.le_of_ble_eq_true rfl⟩) (fun H locs ws_136 h u_137 p_138 => ?_)
                  refine lv_aload_n C0.1 C0.2.1 dX6_tour_117 rfl (lv_at hl 2 rfl) ?_
                  refine tg_X6_order C0 h kSC_90 q_414 dX6_tour_118 ?_
                  refine lv_iload_n C0.1 C0.2.1 dX6_tour_121 rfl (lv_at hl 3 rfl) ?_
                  refine lv_iload C0.1 C0.2.1 dX6_tour_122 (lv_at hl 1 rfl) ?_
                  refine y_iast C0 h kSC_92 rfl (by decide) (o19_323 l1 u1 e_3 e_4 c_5) (o19_324 l1 u1 e_3 e_4 c_5) (o19_281 b_15 b_16 hn_14 e_19 e_20 c_21) (o19_290 b_15 b_16 hn_14 e_19 e_20 c_21) dX6_tour_124 (fun H locs ws_139 h u_140 => ?_)
                  refine lv_aload_n C0.1 C0.2.1 dX6_tour_125 rfl (lv_at hl 2 rfl) ?_
                  refine lv_dup C0.1 C0.2.1 dX6_tour_126 rfl ?_
                  refine tg_X6_done C0 h kSC_90 q_417 dX6_tour_127 (fun v_141 e_142 e_143 e_144 => ?_)
                  have q_145 : v_141.toInt = v_22.toInt := congrArg Int32.toInt (e_142.symm.trans (Eq.trans (Eq.trans (fI_of (u_140.1 90 (kd_ne (S := SC q0) kSC_90 kSC_92 (by decide)))) (Eq.trans (Fr.fI u_137 kSC_90 (by decide)) (Eq.trans (Fr.fI u_131 kSC_90 (by decide)) (Fr.fI u_42 kSC_90 (by decide))))) e_23))
                  refine y_c1 (n := 1) C0 (by decide) dX6_tour_130 (fun v_146 e_147 => ?_)
                  refine lv_iload C0.1 C0.2.1 dX6_tour_131 (lv_at hl 1 rfl) ?_
                  refine y_ishlU C0 dX6_tour_133 (fun v_148 => ?_)
                  refine y_iorU C0 dX6_tour_134 (fun v_149 => ?_)
                  refine tp_X6_done C0 h kSC_90 q_417 (le_min v_149) (le_max v_149) dX6_tour_135 (fun H locs ws_150 h u_151 => ?_)
                  refine lv_aload_n C0.1 C0.2.1 dX6_tour_138 rfl (lv_at hl 2 rfl) ?_
                  refine lv_iload_n C0.1 C0.2.1 dX6_tour_139 rfl (lv_at hl 3 rfl) ?_
                  refine y_c1 (n := 1) C0 (by decide) dX6_tour_140 (fun v_152 e_153 => ?_)
                  refine y_add C0 (o19_325 l1 u1 e_3 e_4 c_5 e_153 (le_min a1) (le_max a1) (le_min v_152) (le_max v_152) (le_min v_1) (le_max v_1)) (o19_326 l1 u1 e_3 e_4 c_5 e_153 (le_min a1) (le_max a1) (le_min v_152) (le_max v_152) (le_min v_1) (le_max v_1)) dX6_tour_141 (fun v_154 e_155 => ?_)
                  refine lv_aload_n C0.1 C0.2.1 dX6_tour_142 rfl (lv_at hl 2 rfl) ?_
                  refine tg_X6_routes C0 h kSC_90 q_412 dX6_tour_143 ?_
                  refine y_ci h (y_rV (As := []) (rest := [.int v_154, .ref (ad 90)]) C0 hZ h (c_X7_last l G Z ad _ h.2) k_X7_last q_1304 q_1305 q_1303 kSC_87 rfl rfl rfl hl.1 rfl rfl (Nat.le_of_ble_eq_true rfl) dX6_tour_146 ⟨Nat.le_of_ble_eq_true rfl, Nat.le_of_ble_eq_true rfl⟩ ⟨Nat.le_of_ble_eq_true rfl, Nat.le_of_ble_eq_true rfl⟩) (fun r_159 H locs ws_156 h u_157 p_158 => ?_)
                  obtain ⟨e_160, e_161⟩ := p_158
                  refine lv_iload_n C0.1 C0.2.1 dX6_tour_149 rfl (lv_at hl 5 rfl) ?_
                  refine lv_iload C0.1 C0.2.1 dX6_tour_150 (lv_at hl 0 rfl) ?_
                  refine y_iaddU C0 dX6_tour_152 (fun v_162 => ?_)
                  refine lv_iload C0.1 C0.2.1 dX6_tour_153 (lv_at hl 6 rfl) ?_
                  refine lv_aload_n C0.1 C0.2.1 dX6_tour_155 rfl (lv_at hl 2 rfl) ?_
                  refine tg_X6_routes C0 h kSC_90 q_412 dX6_tour_156 ?_
                  refine y_ci h (y_rV (As := []) (rest := [.int a4, .int v_162, .int r_159, .int v_154, .ref (ad 90)]) C0 hZ h (c_X7_length l G Z ad _ h.2) k_X7_length q_1308 q_1309 q_1307 kSC_87 rfl rfl rfl hl.1 rfl rfl (Nat.le_of_ble_eq_true rfl) dX6_tour_159 ⟨Nat.le_of_ble_eq_true rfl, Nat.le_of_ble_eq_true rfl⟩ ⟨Nat.le_of_ble_eq_true rfl, Nat.le_of_ble_eq_true rfl⟩) (fun r_166 H locs ws_163 h u_164 p_165 => ?_)
                  obtain ⟨e_167, e_168⟩ := p_165
                  refine y_add C0 (o19_327 l4 u4 e_167 e_168 (le_min a4) (le_max a4) (le_min r_166) (le_max r_166)) (o19_328 l4 u4 e_167 e_168 (le_min a4) (le_max a4) (le_min r_166) (le_max r_166)) dX6_tour_162 (fun v_169 e_170 => ?_)
                  refine y_cv h (y_rV (As := [.int v_154, .int r_159, .int v_162, .int v_169]) (rest := []) C0 hZ h (c_X6_tour_1 l G Z ad _ h.2 v_154 r_159 v_162 v_169 (o19_329 l1 u1 e_3 e_4 c_5 e_153 e_155) (o19_330 l1 u1 e_3 e_4 c_5 e_153 e_155) (o19_3 e_160 e_161) (o19_4 e_160 e_161) (o19_331 l4 u4 e_167 e_168 e_170) (o19_332 l4 u4 e_167 e_168 e_170) (Rel.fr (M := [4, 5, 18, 19, 20, 21, 22, 23, 25, 26, 27, 28, 30, 31]) hR (Fr.tr (Fr.tr (Fr.tr (Fr.tr (Fr.tr (Fr.tr (Fr.tr hF_10 (Fr.mono u_42 (by decide))) (Fr.mono u_131 (by decide))) (Fr.mono u_137 (by decide))) (Fr.up u_140.1 kSC_92 (by decide))) (Fr.up u_151.1 kSC_90 (by decide))) (Fr.mono u_157 (by decide))) (Fr.mono u_164 (by decide))) (by decide) (by decide))) k_X6_tour q_1290 q_50 q_1311 kSC_90 rfl rfl rfl hl.1 rfl rfl (Nat.le_of_ble_eq_true rfl) dX6_tour_163 ⟨Nat.le_of_ble_eq_true rfl, Nat.le_of_ble_eq_true rfl⟩ ⟨Nat.le_of_ble_eq_true rfl, Nat.le_of_ble_eq_true rfl⟩) (fun H locs ws_171 h u_172 p_173 => ?_)
                  refine lv_aload_n C0.1 C0.2.1 dX6_tour_166 rfl (lv_at hl 2 rfl) ?_
                  refine lv_dup C0.1 C0.2.1 dX6_tour_167 rfl ?_
                  refine tg_X6_done C0 h kSC_90 q_417 dX6_tour_168 (fun v_174 e_175 e_176 e_177 => ?_)
                  refine y_c1 (n := 1) C0 (by decide) dX6_tour_171 (fun v_178 e_179 => ?_)
                  refine lv_iload C0.1 C0.2.1 dX6_tour_172 (lv_at hl 1 rfl) ?_
                  refine y_ishlU C0 dX6_tour_174 (fun v_180 => ?_)
                  refine y_c1 (n := (-1)) C0 (by decide) dX6_tour_175 (fun v_181 e_182 => ?_)
                  refine y_ixorU C0 dX6_tour_176 (fun v_183 => ?_)
                  refine y_iandU C0 dX6_tour_177 (fun v_184 => ?_)
                  refine tp_X6_done C0 h kSC_90 q_417 (le_min v_184) (le_max v_184) dX6_tour_178 (fun H locs ws_185 h u_186 => ?_)
                  refine y_inc (kp := 1) (n := 1) (fun v_187 => [(5, .int v_187), (6, .int r_44), (0, .ref (ad 90)), (1, .int a1), (2, .int a2), (3, .int a3), (4, .int a4)]) C0 hl rfl (by decide) (by decide) (fun _ => rfl) (o19_283 b_15 b_16 hn_14 e_19 e_20 c_21 (le_min x5_8) (le_max x5_8) (le_min v_17) (le_max v_17)) (o19_284 b_15 b_16 hn_14 e_19 e_20 c_21 (le_min x5_8) (le_max x5_8) (le_min v_17) (le_max v_17)) dX6_tour_181 (fun v_187 ls e_188 hl => ?_)
                  refine lv_goto (tgt := 19) C0.1 C0.2.1 dX6_tour_184 (by decide) ?_
                  exact ih_12 v_187 _ _ _ _ (o19_285 b_15 b_16 hn_14 e_19 e_20 c_21 e_188) (o19_286 b_15 b_16 hn_14 e_19 e_20 c_21 e_188) (o19_287 b_15 b_16 hn_14 e_19 e_20 c_21 e_188) h (Fr.tr (Fr.tr (Fr.tr (Fr.tr (Fr.tr (Fr.tr (Fr.tr (Fr.tr (Fr.tr hF_10 (Fr.mono u_42 (by decide))) (Fr.mono u_131 (by decide))) (Fr.mono u_137 (by decide))) (Fr.up u_140.1 kSC_92 (by decide))) (Fr.up u_151.1 kSC_90 (by decide))) (Fr.mono u_157 (by decide))) (Fr.mono u_164 (by decide))) u_172) (Fr.up u_186.1 kSC_90 (by decide))) (lv_sub hl [0, 2, 3, 4, 5, 6] rfl)
                · -- 85
                  refine lv_goto (tgt := 181) C0.1 C0.2.1 dX6_tour_88 (by decide) ?_
                  refine y_inc (kp := 1) (n := 1) (fun v_189 => [(5, .int v_189), (6, .int r_44), (0, .ref (ad 90)), (1, .int a1), (2, .int a2), (3, .int a3), (4, .int a4)]) C0 hl rfl (by decide) (by decide) (fun _ => rfl) (o19_283 b_15 b_16 hn_14 e_19 e_20 c_21 (le_min x5_8) (le_max x5_8) (le_min v_17) (le_max v_17)) (o19_284 b_15 b_16 hn_14 e_19 e_20 c_21 (le_min x5_8) (le_max x5_8) (le_min v_17) (le_max v_17)) dX6_tour_181 (fun v_189 ls e_190 hl => ?_)
                  refine lv_goto (tgt := 19) C0.1 C0.2.1 dX6_tour_184 (by decide) ?_
                  exact ih_12 v_189 _ _ _ _ (o19_285 b_15 b_16 hn_14 e_19 e_20 c_21 e_190) (o19_286 b_15 b_16 hn_14 e_19 e_20 c_21 e_190) (o19_287 b_15 b_16 hn_14 e_19 e_20 c_21 e_190) h (Fr.tr hF_10 (Fr.mono u_42 (by decide))) (lv_sub hl [0, 2, 3, 4, 5, 6] rfl)
          · -- 37
            refine lv_goto (tgt := 181) C0.1 C0.2.1 dX6_tour_40 (by decide) ?_
            refine y_inc (kp := 0) (n := 1) (fun v_191 => [(5, .int v_191), (0, .ref (ad 90)), (1, .int a1), (2, .int a2), (3, .int a3), (4, .int a4)]) C0 hl rfl (by decide) (by decide) (fun _ => rfl) (o19_283 b_15 b_16 hn_14 e_19 e_20 c_21 (le_min x5_8) (le_max x5_8) (le_min v_17) (le_max v_17)) (o19_284 b_15 b_16 hn_14 e_19 e_20 c_21 (le_min x5_8) (le_max x5_8) (le_min v_17) (le_max v_17)) dX6_tour_181 (fun v_191 ls e_192 hl => ?_)
            refine lv_goto (tgt := 19) C0.1 C0.2.1 dX6_tour_184 (by decide) ?_
            exact ih_12 v_191 _ _ _ _ (o19_285 b_15 b_16 hn_14 e_19 e_20 c_21 e_192) (o19_286 b_15 b_16 hn_14 e_19 e_20 c_21 e_192) (o19_287 b_15 b_16 hn_14 e_19 e_20 c_21 e_192) h hF_10 (lv_sub hl [0, 1, 2, 3, 4, 5] rfl)
    exact lp_11 ((4 - v_6.toInt + 1).toNat) v_6 _ _ _ _ (o19_86 e_7) (o19_87 e_7) (o19_88 e_7) h Fr.rf (lv_sub hl [0, 1, 2, 3, 4, 5] rfl)
  · -- 5
    refine lv_aload_n C0.1 C0.2.1 dX6_tour_8 rfl (lv_at hl 0 rfl) ?_
    refine lv_iload_n C0.1 C0.2.1 dX6_tour_9 rfl (lv_at hl 3 rfl) ?_
    refine lv_iload C0.1 C0.2.1 dX6_tour_10 (lv_at hl 4 rfl) ?_
    refine y_cv h (y_rV (As := [.int a3, .int a4]) (rest := []) C0 hZ h (c_X6_compare l G Z ad _ h.2 a3 a4) k_X6_compare q_1294 q_51 q_1292 kSC_90 rfl rfl rfl hl.1 rfl rfl (Nat.le_of_ble_eq_true rfl) dX6_tour_12 ⟨Nat.le_of_ble_eq_true rfl, Nat.le_of_ble_eq_true rfl⟩ ⟨Nat.le_of_ble_eq_true rfl, Nat.le_of_ble_eq_true rfl⟩) (fun H locs ws_193 h u_194 p_195 => ?_)
    rw [hQ]
    exact y_vret C0 h (Fr.mono u_194 (by decide)) trivial dX6_tour_15
set_option maxHeartbeats 4000000 in
set_option maxRecDepth 100000 in
theorem c_X6_answer (l : Launch) (G : GG) (Z : RZ) (ad : Nat → Nat) (ws0 : va_W) (hT : Ty G (SC tt) ad ws0) (a1 : Int32) (l1 : 0 ≤ a1.toInt) : Mq l yX6_answer cX6_answer 3 (some .int) 1 G Z [.ref (ad 90), .int a1] ws0 (PI G (SC tt) ad [] ws0 (fun r u => True)) := by
  refine Mq.start (by decide) (Nat.le_of_ble_eq_true rfl) ?_
  intro p e s m below meth c A ls C0 hZ h hl
  have hl : lv_has ls 3 [(0, .ref (ad 90)), (1, .int a1)] := hl
  have h : Wt G (SC tt) ad A s s.heap [] ws0 := ⟨h, hT⟩
  obtain ⟨args, hargs⟩ : ∃ z, z = ([.ref (ad 90), .int a1] : List Value).toArray := ⟨_, rfl⟩
  rw [← hargs] at C0 ⊢
  have C0 : Cx p s m args meth c RX6 cX6_answer 3 (some .int) := C0
  obtain ⟨Q, hQ⟩ : ∃ z, z = MQ below ((PI G (SC tt) ad [] ws0 (fun r u => True)) A) args s 0 0 A := ⟨_, rfl⟩
  rw [← hQ]
  refine lv_aload_n C0.1 C0.2.1 dX6_answer_0 rfl (lv_at hl 0 rfl) ?_
  refine tg_X6_any C0 h kSC_90 q_418 dX6_answer_1 (fun v_1 e_2 e_3 e_4 => ?_)
  refine y_if_ne (tgt := 9) C0 dX6_answer_4 (by decide) (fun c_5 => ?_) (fun c_5 => ?_)
  · -- 4
    refine lv_iload_n C0.1 C0.2.1 dX6_answer_9 rfl (lv_at hl 1 rfl) ?_
    refine y_c2 (n := 10) C0 (by decide) dX6_answer_10 (fun v_6 e_7 => ?_)
    refine y_icmp_ge (tgt := 31) C0 dX6_answer_12 (by decide) (fun c_8 => ?_) (fun c_8 => ?_)
    · -- 12
      refine lv_iload_n C0.1 C0.2.1 dX6_answer_31 rfl (lv_at hl 1 rfl) ?_
      refine y_c2 (n := 10) C0 (by decide) dX6_answer_32 (fun v_9 e_10 => ?_)
      refine y_sub C0 (o19_333 l1 e_7 c_8 e_10 (le_min a1) (le_max a1) (le_min v_9) (le_max v_9) (le_min v_6) (le_max v_6)) (o19_334 l1 e_7 c_8 e_10 (le_min a1) (le_max a1) (le_min v_9) (le_max v_9) (le_min v_6) (le_max v_6)) dX6_answer_34 (fun v_11 e_12 => ?_)
      refine lv_istore_n (lv' := [(2, .int v_11), (0, .ref (ad 90)), (1, .int a1)]) C0.1 C0.2.1 dX6_answer_35 rfl hl (by decide) rfl (fun ls hl => ?_)
      refine lv_iload_n C0.1 C0.2.1 dX6_answer_36 rfl (lv_at hl 0 rfl) ?_
      refine lv_aload_n C0.1 C0.2.1 dX6_answer_37 rfl (lv_at hl 1 rfl) ?_
      refine tg_X6_size C0 h kSC_90 q_416 dX6_answer_38 (fun v_13 e_14 e_15 e_16 => ?_)
      refine y_icmp_ge (tgt := 58) C0 dX6_answer_41 (by decide) (fun c_17 => ?_) (fun c_17 => ?_)
      · -- 41
        refine y_c1 (n := (-1)) C0 (by decide) dX6_answer_58 (fun v_18 e_19 => ?_)
        rw [hQ]
        exact y_iret C0 h Fr.rf trivial dX6_answer_59
      · -- 41
        refine lv_aload_n C0.1 C0.2.1 dX6_answer_44 rfl (lv_at hl 1 rfl) ?_
        refine tg_X6_stops C0 h kSC_90 q_413 dX6_answer_45 ?_
        refine lv_aload_n C0.1 C0.2.1 dX6_answer_48 rfl (lv_at hl 1 rfl) ?_
        refine tg_X6_bestOrder C0 h kSC_90 q_415 dX6_answer_49 ?_
        refine lv_iload_n C0.1 C0.2.1 dX6_answer_52 rfl (lv_at hl 0 rfl) ?_
        refine y_iald C0 h kSC_93 rfl (by decide) (o19_335 l1 e_7 c_8 e_10 e_12 e_15 e_16 c_17) (o19_336 l1 e_7 c_8 e_10 e_12 e_15 e_16 c_17) dX6_answer_53 (fun v_20 e_21 e_22 e_23 => ?_)
        refine y_iald C0 h kSC_91 rfl (by decide) (o19_337 e_22 e_23) (o19_338 e_22 e_23) dX6_answer_54 (fun v_24 e_25 e_26 e_27 => ?_)
        refine lv_goto (tgt := 59) C0.1 C0.2.1 dX6_answer_55 (by decide) ?_
        rw [hQ]
        exact y_iret C0 h Fr.rf trivial dX6_answer_59
    · -- 12
      refine lv_iload_n C0.1 C0.2.1 dX6_answer_15 rfl (lv_at hl 1 rfl) ?_
      refine y_if_ne (tgt := 26) C0 dX6_answer_16 (by decide) (fun c_28 => ?_) (fun c_28 => ?_)
      · -- 16
        refine lv_aload_n C0.1 C0.2.1 dX6_answer_26 rfl (lv_at hl 0 rfl) ?_
        refine tg_X6_bestStreets C0 h kSC_90 q_420 dX6_answer_27 (fun v_29 e_30 e_31 e_32 => ?_)
        rw [hQ]
        exact y_iret C0 h Fr.rf trivial dX6_answer_30
      · -- 16
        refine lv_aload_n C0.1 C0.2.1 dX6_answer_19 rfl (lv_at hl 0 rfl) ?_
        refine tg_X6_bestLefts C0 h kSC_90 q_419 dX6_answer_20 (fun v_33 e_34 e_35 e_36 => ?_)
        refine lv_goto (tgt := 30) C0.1 C0.2.1 dX6_answer_23 (by decide) ?_
        rw [hQ]
        exact y_iret C0 h Fr.rf trivial dX6_answer_30
  · -- 4
    refine y_c1 (n := (-1)) C0 (by decide) dX6_answer_7 (fun v_37 e_38 => ?_)
    rw [hQ]
    exact y_iret C0 h Fr.rf trivial dX6_answer_8
set_option maxHeartbeats 4000000 in
set_option maxRecDepth 100000 in
theorem c_X9_addWaysBy (l : Launch) (G : GG) (Z : RZ) (ad : Nat → Nat) (ws0 : va_W) (hT : Ty G (SC tt) ad ws0) (a1 : Int32) (a2 : Int32) (a3 : Int32) (a4 : Int32) (a5 : Int32) (l1 : 0 ≤ a1.toInt) (u1 : a1.toInt ≤ 19) (l2 : 0 ≤ a2.toInt) (u2 : a2.toInt ≤ 99) (l3 : 0 ≤ a3.toInt) (u3 : a3.toInt ≤ 99) (l4 : 0 ≤ a4.toInt) (u4 : a4.toInt ≤ 2) (l5 : 0 ≤ a5.toInt) (u5 : a5.toInt ≤ 40) : Mq l yX9_addWaysBy cX9_addWaysBy 11 none 1 G Z [.ref (ad 94), .int a1, .int a2, .int a3, .int a4, .int a5] ws0 (PV G (SC tt) ad [34, 36] ws0 (fun u => True)) := by
  refine Mq.start (by decide) (Nat.le_of_ble_eq_true rfl) ?_
  intro p e s m below meth c A ls C0 hZ h hl
  have hl : lv_has ls 11 [(0, .ref (ad 94)), (1, .int a1), (2, .int a2), (3, .int a3), (4, .int a4), (5, .int a5)] := hl
  have h : Wt G (SC tt) ad A s s.heap [] ws0 := ⟨h, hT⟩
  obtain ⟨args, hargs⟩ : ∃ z, z = ([.ref (ad 94), .int a1, .int a2, .int a3, .int a4, .int a5] : List Value).toArray := ⟨_, rfl⟩
  rw [← hargs] at C0 ⊢
  have C0 : Cx p s m args meth c RX9 cX9_addWaysBy 11 none := C0
  obtain ⟨Q, hQ⟩ : ∃ z, z = MQ below ((PV G (SC tt) ad [34, 36] ws0 (fun u => True)) A) args s 0 0 A := ⟨_, rfl⟩
  rw [← hQ]
  refine lv_aload_n C0.1 C0.2.1 dX9_addWaysBy_0 rfl (lv_at hl 0 rfl) ?_
  refine tg_X9_ways C0 h kSC_94 q_454 dX9_addWaysBy_1 ?_
  refine lv_iload_n C0.1 C0.2.1 dX9_addWaysBy_4 rfl (lv_at hl 1 rfl) ?_
  refine y_c1 (n := 1) C0 (by decide) dX9_addWaysBy_5 (fun v_1 e_2 => ?_)
  refine y_and 1 1 (n := 1) C0 (Eq.trans (o19_104 e_2) (by decide)) (by decide) (by decide) (by decide) dX9_addWaysBy_6 (fun v_3 e_4 e_5 => ?_)
  refine y_aaldA C0 h kSC_95 rfl rfl (by decide) (o19_339 e_4 e_5) (o19_340 e_4 e_5) dX9_addWaysBy_7 ?_
  obtain ⟨i_6, hi_6, ei_6⟩ : ∃ j : Nat, Kd (SC tt) j 34 ∧ j = 96 + 1 * v_3.toInt.toNat := ⟨_, aSC_33 (o19_341 e_4 e_5), rfl⟩
  rw [← ei_6]
  refine lv_astore (lv' := [(6, .ref (ad i_6)), (0, .ref (ad 94)), (1, .int a1), (2, .int a2), (3, .int a3), (4, .int a4), (5, .int a5)]) C0.1 C0.2.1 dX9_addWaysBy_8 hl (by decide) rfl (fun ls hl => ?_)
  refine lv_aload_n C0.1 C0.2.1 dX9_addWaysBy_10 rfl (lv_at hl 1 rfl) ?_
  refine tg_X9_ways C0 h kSC_94 q_454 dX9_addWaysBy_11 ?_
  refine lv_iload_n C0.1 C0.2.1 dX9_addWaysBy_14 rfl (lv_at hl 2 rfl) ?_
  refine y_c1 (n := 1) C0 (by decide) dX9_addWaysBy_15 (fun v_7 e_8 => ?_)
  refine y_add C0 (o19_342 l1 u1 e_8 (le_min a1) (le_max a1) (le_min v_7) (le_max v_7)) (o19_343 l1 u1 e_8 (le_min a1) (le_max a1) (le_min v_7) (le_max v_7)) dX9_addWaysBy_16 (fun v_9 e_10 => ?_)
  refine y_c1 (n := 1) C0 (by decide) dX9_addWaysBy_17 (fun v_11 e_12 => ?_)
  refine y_and 1 1 (n := 1) C0 (Eq.trans (o19_104 e_12) (by decide)) (by decide) (by decide) (by decide) dX9_addWaysBy_18 (fun v_13 e_14 e_15 => ?_)
  refine y_aaldA C0 h kSC_95 rfl rfl (by decide) (o19_339 e_14 e_15) (o19_340 e_14 e_15) dX9_addWaysBy_19 ?_
  obtain ⟨i_16, hi_16, ei_16⟩ : ∃ j : Nat, Kd (SC tt) j 34 ∧ j = 96 + 1 * v_13.toInt.toNat := ⟨_, aSC_33 (o19_341 e_14 e_15), rfl⟩
  rw [← ei_16]
  refine lv_astore (lv' := [(7, .ref (ad i_16)), (6, .ref (ad i_6)), (0, .ref (ad 94)), (1, .int a1), (2, .int a2), (3, .int a3), (4, .int a4), (5, .int a5)]) C0.1 C0.2.1 dX9_addWaysBy_20 hl (by decide) rfl (fun ls hl => ?_)
  refine lv_aload_n C0.1 C0.2.1 dX9_addWaysBy_22 rfl (lv_at hl 2 rfl) ?_
  refine tg_X9_most C0 h kSC_94 q_455 dX9_addWaysBy_23 ?_
  refine lv_iload_n C0.1 C0.2.1 dX9_addWaysBy_26 rfl (lv_at hl 3 rfl) ?_
  refine y_c1 (n := 1) C0 (by decide) dX9_addWaysBy_27 (fun v_17 e_18 => ?_)
  refine y_add C0 (o19_344 l1 u1 e_8 e_10 e_18 (le_min a1) (le_max a1) (le_min v_17) (le_max v_17) (le_min v_7) (le_max v_7) (le_min v_9) (le_max v_9)) (o19_345 l1 u1 e_8 e_10 e_18 (le_min a1) (le_max a1) (le_min v_17) (le_max v_17) (le_min v_7) (le_max v_7) (le_min v_9) (le_max v_9)) dX9_addWaysBy_28 (fun v_19 e_20 => ?_)
  refine y_c1 (n := 1) C0 (by decide) dX9_addWaysBy_29 (fun v_21 e_22 => ?_)
  refine y_and 1 1 (n := 1) C0 (Eq.trans (o19_104 e_22) (by decide)) (by decide) (by decide) (by decide) dX9_addWaysBy_30 (fun v_23 e_24 e_25 => ?_)
  refine y_aaldA C0 h kSC_98 rfl rfl (by decide) (o19_339 e_24 e_25) (o19_340 e_24 e_25) dX9_addWaysBy_31 ?_
  obtain ⟨i_26, hi_26, ei_26⟩ : ∃ j : Nat, Kd (SC tt) j 36 ∧ j = 99 + 1 * v_23.toInt.toNat := ⟨_, aSC_35 (o19_341 e_24 e_25), rfl⟩
  rw [← ei_26]
  refine lv_astore (lv' := [(8, .ref (ad i_26)), (7, .ref (ad i_16)), (6, .ref (ad i_6)), (0, .ref (ad 94)), (1, .int a1), (2, .int a2), (3, .int a3), (4, .int a4), (5, .int a5)]) C0.1 C0.2.1 dX9_addWaysBy_32 hl (by decide) rfl (fun ls hl => ?_)
  refine lv_iload C0.1 C0.2.1 dX9_addWaysBy_34 (lv_at hl 8 rfl) ?_
  refine lv_aload_n C0.1 C0.2.1 dX9_addWaysBy_36 rfl (lv_at hl 3 rfl) ?_
  refine tg_X9_most C0 h kSC_94 q_455 dX9_addWaysBy_37 ?_
  refine lv_iload_n C0.1 C0.2.1 dX9_addWaysBy_40 rfl (lv_at hl 4 rfl) ?_
  refine y_c1 (n := 1) C0 (by decide) dX9_addWaysBy_41 (fun v_27 e_28 => ?_)
  refine y_and 1 1 (n := 1) C0 (Eq.trans (o19_104 e_28) (by decide)) (by decide) (by decide) (by decide) dX9_addWaysBy_42 (fun v_29 e_30 e_31 => ?_)
  refine y_aaldA C0 h kSC_98 rfl rfl (by decide) (o19_339 e_30 e_31) (o19_340 e_30 e_31) dX9_addWaysBy_43 ?_
  obtain ⟨i_32, hi_32, ei_32⟩ : ∃ j : Nat, Kd (SC tt) j 36 ∧ j = 99 + 1 * v_29.toInt.toNat := ⟨_, aSC_35 (o19_341 e_30 e_31), rfl⟩
  rw [← ei_32]
  refine lv_iload_n C0.1 C0.2.1 dX9_addWaysBy_44 rfl (lv_at hl 5 rfl) ?_
  refine y_iald C0 h hi_32 rfl (by decide) (o19_3 l2 u2) (o19_346 l2 u2) dX9_addWaysBy_45 (fun v_33 e_34 e_35 e_36 => ?_)
  refine lv_iload C0.1 C0.2.1 dX9_addWaysBy_46 (lv_at hl 7 rfl) ?_
  refine y_add C0 (o19_347 l4 u4 e_35 e_36 (le_min v_33) (le_max v_33) (le_min a4) (le_max a4)) (o19_348 l4 u4 e_35 e_36 (le_min v_33) (le_max v_33) (le_min a4) (le_max a4)) dX9_addWaysBy_48 (fun v_37 e_38 => ?_)
  refine y_min C0 hl.1 q_1216 q_663 q_141 q_664 (Nat.le_of_ble_eq_true rfl) (Nat.le_of_ble_eq_true rfl) (Nat.le_of_ble_eq_true rfl) (Nat.le_of_ble_eq_true rfl) dX9_addWaysBy_49 (fun v_39 e_40 => ?_)
  refine lv_istore (lv' := [(9, .int v_39), (8, .ref (ad i_26)), (7, .ref (ad i_16)), (6, .ref (ad i_6)), (0, .ref (ad 94)), (1, .int a1), (2, .int a2), (3, .int a3), (4, .int a4), (5, .int a5)]) C0.1 C0.2.1 dX9_addWaysBy_52 hl (by decide) rfl (fun ls hl => ?_)
  refine lv_aload C0.1 C0.2.1 dX9_addWaysBy_54 (lv_at hl 1 rfl) ?_
  refine lv_iload_n C0.1 C0.2.1 dX9_addWaysBy_56 rfl (lv_at hl 7 rfl) ?_
  refine y_iald C0 h hi_26 rfl (by decide) (o19_3 l3 u3) (o19_346 l3 u3) dX9_addWaysBy_57 (fun v_41 e_42 e_43 e_44 => ?_)
  refine y_c1 (n := 1) C0 (by decide) dX9_addWaysBy_58 (fun v_45 e_46 => ?_)
  refine y_add C0 (o19_349 e_43 e_44 e_46 (le_min v_41) (le_max v_41) (le_min v_45) (le_max v_45)) (o19_350 e_43 e_44 e_46 (le_min v_41) (le_max v_41) (le_min v_45) (le_max v_45)) dX9_addWaysBy_59 (fun v_47 e_48 => ?_)
  refine lv_istore (lv' := [(10, .int v_47), (9, .int v_39), (8, .ref (ad i_26)), (7, .ref (ad i_16)), (6, .ref (ad i_6)), (0, .ref (ad 94)), (1, .int a1), (2, .int a2), (3, .int a3), (4, .int a4), (5, .int a5)]) C0.1 C0.2.1 dX9_addWaysBy_60 hl (by decide) rfl (fun ls hl => ?_)
  have lp_52 : ∀ (n_54 : Nat) (x10_49 : Int32) (H : Heap) (locs : List Loc) (ls : Array Slot) (ws_50 : va_W), 41 - x10_49.toInt < (n_54 : Int) → 0 ≤ x10_49.toInt → x10_49.toInt ≤ 41 → Wt G (SC tt) ad A s H locs ws_50 → Fr (SC tt) [34] ws0 ws_50 → lv_has ls 11 [(10, .int x10_49), (9, .int v_39), (8, .ref (ad i_26)), (7, .ref (ad i_16)), (6, .ref (ad i_6)), (0, .ref (ad 94)), (1, .int a1), (2, .int a2), (3, .int a3), (4, .int a4), (5, .int a5)] → W p l e (rmd 1 0 0) s m args below meth c H locs 0 0 Q (F0 m 62 ls []) := by
    intro n_54
    induction n_54 with
    | zero => intro x10_49 H locs ls ws_50 hn_55 b_56 b_57 h hF_51 hl; exact ((o19_351 b_56 b_57 hn_55)).elim
    | succ n_54 ih_53 =>
      intro x10_49 H locs ls ws_50 hn_55 b_56 b_57 h hF_51 hl
      refine lv_iload C0.1 C0.2.1 dX9_addWaysBy_62 (lv_at hl 0 rfl) ?_
      refine lv_iload C0.1 C0.2.1 dX9_addWaysBy_64 (lv_at hl 1 rfl) ?_
      refine y_icmp_gt (tgt := 86) C0 dX9_addWaysBy_66 (by decide) (fun c_58 => ?_) (fun c_58 => ?_)
      · -- 66
        refine lv_aload C0.1 C0.2.1 dX9_addWaysBy_86 (lv_at hl 2 rfl) ?_
        refine lv_iload_n C0.1 C0.2.1 dX9_addWaysBy_88 rfl (lv_at hl 8 rfl) ?_
        refine lv_aload C0.1 C0.2.1 dX9_addWaysBy_89 (lv_at hl 2 rfl) ?_
        refine lv_iload_n C0.1 C0.2.1 dX9_addWaysBy_91 rfl (lv_at hl 8 rfl) ?_
        refine y_iald C0 h hi_26 rfl (by decide) (o19_3 l3 u3) (o19_346 l3 u3) dX9_addWaysBy_92 (fun v_59 e_60 e_61 e_62 => ?_)
        have q_63 : v_59.toInt = v_41.toInt := congrArg Int32.toInt (e_60.symm.trans (Eq.trans (Fr.aI hF_51 hi_26 (by decide)) e_42))
        refine lv_iload C0.1 C0.2.1 dX9_addWaysBy_93 (lv_at hl 1 rfl) ?_
        refine y_max C0 hl.1 q_1243 q_660 q_141 q_661 (Nat.le_of_ble_eq_true rfl) (Nat.le_of_ble_eq_true rfl) (Nat.le_of_ble_eq_true rfl) (Nat.le_of_ble_eq_true rfl) dX9_addWaysBy_95 (fun v_64 e_65 => ?_)
        refine y_iast C0 h hi_26 rfl (by decide) (o19_3 l3 u3) (o19_346 l3 u3) (o19_352 l4 u4 l5 u5 e_35 e_36 e_38 e_40 e_43 e_44 e_46 e_48 b_56 b_57 hn_55 c_58 e_61 e_62 q_63 e_65) (o19_353 l4 u4 l5 u5 e_35 e_36 e_38 e_40 e_43 e_44 e_46 e_48 b_56 b_57 hn_55 c_58 e_61 e_62 q_63 e_65) dX9_addWaysBy_98 (fun H locs ws_66 h u_67 => ?_)
        refine lv_iload C0.1 C0.2.1 dX9_addWaysBy_99 (lv_at hl 9 rfl) ?_
        refine lv_istore (lv' := [(10, .int a4), (9, .int v_39), (8, .ref (ad i_26)), (7, .ref (ad i_16)), (6, .ref (ad i_6)), (0, .ref (ad 94)), (1, .int a1), (2, .int a2), (3, .int a3), (4, .int a4), (5, .int a5)]) C0.1 C0.2.1 dX9_addWaysBy_101 hl (by decide) rfl (fun ls hl => ?_)
        have lp_71 : ∀ (n_73 : Nat) (x10_68 : Int32) (H : Heap) (locs : List Loc) (ls : Array Slot) (ws_69 : va_W), 41 - x10_68.toInt < (n_73 : Int) → 0 ≤ x10_68.toInt → x10_68.toInt ≤ 41 → a4.toInt ≤ x10_68.toInt → Wt G (SC tt) ad A s H locs ws_69 → Fr (SC tt) [34] ws_66 ws_69 → lv_has ls 11 [(10, .int x10_68), (9, .int v_39), (8, .ref (ad i_26)), (7, .ref (ad i_16)), (6, .ref (ad i_6)), (0, .ref (ad 94)), (1, .int a1), (2, .int a2), (3, .int a3), (4, .int a4), (5, .int a5)] → W p l e (rmd 1 0 0) s m args below meth c H locs 0 0 Q (F0 m 103 ls []) := by
          intro n_73
          induction n_73 with
          | zero => intro x10_68 H locs ls ws_69 hn_74 b_75 b_76 b_77 h hF_70 hl; exact ((o19_354 l4 u4 l5 u5 e_35 e_36 e_38 e_40 e_43 e_44 e_46 e_48 b_56 b_57 hn_55 c_58 e_61 e_62 q_63 e_65 b_75 b_76 b_77 hn_74)).elim
          | succ n_73 ih_72 =>
            intro x10_68 H locs ls ws_69 hn_74 b_75 b_76 b_77 h hF_70 hl
            refine lv_iload C0.1 C0.2.1 dX9_addWaysBy_103 (lv_at hl 0 rfl) ?_
            refine lv_iload C0.1 C0.2.1 dX9_addWaysBy_105 (lv_at hl 1 rfl) ?_
            refine y_icmp_gt (tgt := 142) C0 dX9_addWaysBy_107 (by decide) (fun c_78 => ?_) (fun c_78 => ?_)
            · -- 107
              rw [hQ]
              exact y_vret C0 h (Fr.tr (Fr.tr (Fr.mono hF_51 (by decide)) (Fr.up u_67.1 hi_26 (by decide))) (Fr.mono hF_70 (by decide))) trivial dX9_addWaysBy_142
            · -- 107
              refine lv_aload C0.1 C0.2.1 dX9_addWaysBy_110 (lv_at hl 3 rfl) ?_
              refine lv_iload_n C0.1 C0.2.1 dX9_addWaysBy_112 rfl (lv_at hl 8 rfl) ?_
              refine y_c2 (n := 41) C0 (by decide) dX9_addWaysBy_113 (fun v_79 e_80 => ?_)
              refine y_mulc (n := 41) C0 (o19_355 e_80) (o19_356 l3 u3 (le_min a3) (le_max a3)) (o19_357 l3 u3 (le_min a3) (le_max a3)) dX9_addWaysBy_115 (fun v_81 e_82 => ?_)
              refine lv_iload C0.1 C0.2.1 dX9_addWaysBy_116 (lv_at hl 0 rfl) ?_
              refine y_add C0 (o19_358 l3 u3 l4 u4 l5 u5 e_35 e_36 e_38 e_40 e_43 e_44 e_46 e_48 b_56 b_57 hn_55 c_58 e_61 e_62 q_63 e_65 b_75 b_76 b_77 hn_74 c_78 e_82 (le_min v_81) (le_max v_81) (le_min x10_68) (le_max x10_68) (le_min a3) (le_max a3) (le_min a4) (le_max a4) (le_min a5) (le_max a5) (le_min v_33) (le_max v_33) (le_min v_37) (le_max v_37) (le_min v_39) (le_max v_39) (le_min v_41) (le_max v_41) (le_min v_45) (le_max v_45) (le_min v_47) (le_max v_47) (le_min x10_49) (le_max x10_49) (le_min v_59) (le_max v_59) (le_min v_64) (le_max v_64)) (o19_359 l3 u3 l4 u4 l5 u5 e_35 e_36 e_38 e_40 e_43 e_44 e_46 e_48 b_56 b_57 hn_55 c_58 e_61 e_62 q_63 e_65 b_75 b_76 b_77 hn_74 c_78 e_82 (le_min v_81) (le_max v_81) (le_min x10_68) (le_max x10_68) (le_min a3) (le_max a3) (le_min a4) (le_max a4) (le_min a5) (le_max a5) (le_min v_33) (le_max v_33) (le_min v_37) (le_max v_37) (le_min v_39) (le_max v_39) (le_min v_41) (le_max v_41) (le_min v_45) (le_max v_45) (le_min v_47) (le_max v_47) (le_min x10_49) (le_max x10_49) (le_min v_59) (le_max v_59) (le_min v_64) (le_max v_64)) dX9_addWaysBy_118 (fun v_83 e_84 => ?_)
              refine lv_dup2_11 C0.1 C0.2.1 dX9_addWaysBy_119 rfl rfl ?_
              refine y_lald C0 h hi_16 rfl (by decide) (o19_360 l3 u3 l4 u4 l5 u5 e_35 e_36 e_38 e_40 e_43 e_44 e_46 e_48 b_56 b_57 hn_55 c_58 e_61 e_62 q_63 e_65 b_75 b_76 b_77 hn_74 c_78 e_82 e_84) (o19_361 l3 u3 l4 u4 l5 u5 e_35 e_36 e_38 e_40 e_43 e_44 e_46 e_48 b_56 b_57 hn_55 c_58 e_61 e_62 q_63 e_65 b_75 b_76 b_77 hn_74 c_78 e_82 e_84) dX9_addWaysBy_120 (fun w_85 e_86 => ?_)
              refine lv_aload C0.1 C0.2.1 dX9_addWaysBy_121 (lv_at hl 4 rfl) ?_
              refine lv_iload_n C0.1 C0.2.1 dX9_addWaysBy_123 rfl (lv_at hl 7 rfl) ?_
              refine y_c2 (n := 41) C0 (by decide) dX9_addWaysBy_124 (fun v_87 e_88 => ?_)
              refine y_mulc (n := 41) C0 (o19_355 e_88) (o19_356 l2 u2 (le_min a2) (le_max a2)) (o19_357 l2 u2 (le_min a2) (le_max a2)) dX9_addWaysBy_126 (fun v_89 e_90 => ?_)
              refine lv_iload C0.1 C0.2.1 dX9_addWaysBy_127 (lv_at hl 0 rfl) ?_
              refine y_add C0 (o19_362 l2 u2 l3 u3 l4 u4 l5 u5 e_35 e_36 e_38 e_40 e_43 e_44 e_46 e_48 b_56 b_57 hn_55 c_58 e_61 e_62 q_63 e_65 b_75 b_76 b_77 hn_74 c_78 e_82 e_84 e_90 (le_min v_89) (le_max v_89) (le_min x10_68) (le_max x10_68) (le_min a2) (le_max a2) (le_min a3) (le_max a3) (le_min a4) (le_max a4) (le_min a5) (le_max a5) (le_min v_33) (le_max v_33) (le_min v_37) (le_max v_37) (le_min v_39) (le_max v_39) (le_min v_41) (le_max v_41) (le_min v_45) (le_max v_45) (le_min v_47) (le_max v_47) (le_min x10_49) (le_max x10_49) (le_min v_59) (le_max v_59) (le_min v_64) (le_max v_64) (le_min v_81) (le_max v_81) (le_min v_83) (le_max v_83)) (o19_363 l2 u2 l3 u3 l4 u4 l5 u5 e_35 e_36 e_38 e_40 e_43 e_44 e_46 e_48 b_56 b_57 hn_55 c_58 e_61 e_62 q_63 e_65 b_75 b_76 b_77 hn_74 c_78 e_82 e_84 e_90 (le_min v_89) (le_max v_89) (le_min x10_68) (le_max x10_68) (le_min a2) (le_max a2) (le_min a3) (le_max a3) (le_min a4) (le_max a4) (le_min a5) (le_max a5) (le_min v_33) (le_max v_33) (le_min v_37) (le_max v_37) (le_min v_39) (le_max v_39) (le_min v_41) (le_max v_41) (le_min v_45) (le_max v_45) (le_min v_47) (le_max v_47) (le_min x10_49) (le_max x10_49) (le_min v_59) (le_max v_59) (le_min v_64) (le_max v_64) (le_min v_81) (le_max v_81) (le_min v_83) (le_max v_83)) dX9_addWaysBy_129 (fun v_91 e_92 => ?_)
              refine lv_iload C0.1 C0.2.1 dX9_addWaysBy_130 (lv_at hl 9 rfl) ?_
              refine y_sub C0 (o19_364 l2 u2 l3 u3 l4 u4 l5 u5 e_35 e_36 e_38 e_40 e_43 e_44 e_46 e_48 b_56 b_57 hn_55 c_58 e_61 e_62 q_63 e_65 b_75 b_76 b_77 hn_74 c_78 e_82 e_84 e_90 e_92 (le_min v_91) (le_max v_91) (le_min a4) (le_max a4) (le_min a2) (le_max a2) (le_min a3) (le_max a3) (le_min a5) (le_max a5) (le_min v_33) (le_max v_33) (le_min v_37) (le_max v_37) (le_min v_39) (le_max v_39) (le_min v_41) (le_max v_41) (le_min v_45) (le_max v_45) (le_min v_47) (le_max v_47) (le_min x10_49) (le_max x10_49) (le_min v_59) (le_max v_59) (le_min v_64) (le_max v_64) (le_min x10_68) (le_max x10_68) (le_min v_81) (le_max v_81) (le_min v_83) (le_max v_83) (le_min v_89) (le_max v_89)) (o19_365 l2 u2 l3 u3 l4 u4 l5 u5 e_35 e_36 e_38 e_40 e_43 e_44 e_46 e_48 b_56 b_57 hn_55 c_58 e_61 e_62 q_63 e_65 b_75 b_76 b_77 hn_74 c_78 e_82 e_84 e_90 e_92 (le_min v_91) (le_max v_91) (le_min a4) (le_max a4) (le_min a2) (le_max a2) (le_min a3) (le_max a3) (le_min a5) (le_max a5) (le_min v_33) (le_max v_33) (le_min v_37) (le_max v_37) (le_min v_39) (le_max v_39) (le_min v_41) (le_max v_41) (le_min v_45) (le_max v_45) (le_min v_47) (le_max v_47) (le_min x10_49) (le_max x10_49) (le_min v_59) (le_max v_59) (le_min v_64) (le_max v_64) (le_min x10_68) (le_max x10_68) (le_min v_81) (le_max v_81) (le_min v_83) (le_max v_83) (le_min v_89) (le_max v_89)) dX9_addWaysBy_132 (fun v_93 e_94 => ?_)
              refine y_lald C0 h hi_6 rfl (by decide) (o19_366 l2 u2 l3 u3 l4 u4 l5 u5 e_35 e_36 e_38 e_40 e_43 e_44 e_46 e_48 b_56 b_57 hn_55 c_58 e_61 e_62 q_63 e_65 b_75 b_76 b_77 hn_74 c_78 e_82 e_84 e_90 e_92 e_94) (o19_367 l2 u2 l3 u3 l4 u4 l5 u5 e_35 e_36 e_38 e_40 e_43 e_44 e_46 e_48 b_56 b_57 hn_55 c_58 e_61 e_62 q_63 e_65 b_75 b_76 b_77 hn_74 c_78 e_82 e_84 e_90 e_92 e_94) dX9_addWaysBy_133 (fun w_95 e_96 => ?_)
              refine y_laddU C0 dX9_addWaysBy_134 (fun w_97 => ?_)
              refine y_last C0 h hi_16 rfl (by decide) (o19_368 l2 u2 l3 u3 l4 u4 l5 u5 e_35 e_36 e_38 e_40 e_43 e_44 e_46 e_48 b_56 b_57 hn_55 c_58 e_61 e_62 q_63 e_65 b_75 b_76 b_77 hn_74 c_78 e_82 e_84 e_90 e_92 e_94) (o19_369 l2 u2 l3 u3 l4 u4 l5 u5 e_35 e_36 e_38 e_40 e_43 e_44 e_46 e_48 b_56 b_57 hn_55 c_58 e_61 e_62 q_63 e_65 b_75 b_76 b_77 hn_74 c_78 e_82 e_84 e_90 e_92 e_94) dX9_addWaysBy_135 (fun H locs ws_98 h u_99 => ?_)
              refine y_inc (kp := 0) (n := 1) (fun v_100 => [(10, .int v_100), (9, .int v_39), (8, .ref (ad i_26)), (7, .ref (ad i_16)), (6, .ref (ad i_6)), (0, .ref (ad 94)), (1, .int a1), (2, .int a2), (3, .int a3), (4, .int a4), (5, .int a5)]) C0 hl rfl (by decide) (by decide) (fun _ => rfl) (o19_370 l2 u2 l3 u3 l4 u4 l5 u5 e_35 e_36 e_38 e_40 e_43 e_44 e_46 e_48 b_56 b_57 hn_55 c_58 e_61 e_62 q_63 e_65 b_75 b_76 b_77 hn_74 c_78 e_82 e_84 e_90 e_92 e_94 (le_min x10_68) (le_max x10_68) (le_min a2) (le_max a2) (le_min a3) (le_max a3) (le_min a4) (le_max a4) (le_min a5) (le_max a5) (le_min v_33) (le_max v_33) (le_min v_37) (le_max v_37) (le_min v_39) (le_max v_39) (le_min v_41) (le_max v_41) (le_min v_45) (le_max v_45) (le_min v_47) (le_max v_47) (le_min x10_49) (le_max x10_49) (le_min v_59) (le_max v_59) (le_min v_64) (le_max v_64) (le_min v_81) (le_max v_81) (le_min v_83) (le_max v_83) (le_min v_89) (le_max v_89) (le_min v_91) (le_max v_91) (le_min v_93) (le_max v_93)) (o19_371 l2 u2 l3 u3 l4 u4 l5 u5 e_35 e_36 e_38 e_40 e_43 e_44 e_46 e_48 b_56 b_57 hn_55 c_58 e_61 e_62 q_63 e_65 b_75 b_76 b_77 hn_74 c_78 e_82 e_84 e_90 e_92 e_94 (le_min x10_68) (le_max x10_68) (le_min a2) (le_max a2) (le_min a3) (le_max a3) (le_min a4) (le_max a4) (le_min a5) (le_max a5) (le_min v_33) (le_max v_33) (le_min v_37) (le_max v_37) (le_min v_39) (le_max v_39) (le_min v_41) (le_max v_41) (le_min v_45) (le_max v_45) (le_min v_47) (le_max v_47) (le_min x10_49) (le_max x10_49) (le_min v_59) (le_max v_59) (le_min v_64) (le_max v_64) (le_min v_81) (le_max v_81) (le_min v_83) (le_max v_83) (le_min v_89) (le_max v_89) (le_min v_91) (le_max v_91) (le_min v_93) (le_max v_93)) dX9_addWaysBy_136 (fun v_100 ls e_101 hl => ?_)
              refine lv_goto (tgt := 103) C0.1 C0.2.1 dX9_addWaysBy_139 (by decide) ?_
              exact ih_72 v_100 _ _ _ _ (o19_372 l2 u2 l3 u3 l4 u4 l5 u5 e_35 e_36 e_38 e_40 e_43 e_44 e_46 e_48 b_56 b_57 hn_55 c_58 e_61 e_62 q_63 e_65 b_75 b_76 b_77 hn_74 c_78 e_82 e_84 e_90 e_92 e_94 e_101) (o19_373 l2 u2 l3 u3 l4 u4 l5 u5 e_35 e_36 e_38 e_40 e_43 e_44 e_46 e_48 b_56 b_57 hn_55 c_58 e_61 e_62 q_63 e_65 b_75 b_76 b_77 hn_74 c_78 e_82 e_84 e_90 e_92 e_94 e_101) (o19_374 l2 u2 l3 u3 l4 u4 l5 u5 e_35 e_36 e_38 e_40 e_43 e_44 e_46 e_48 b_56 b_57 hn_55 c_58 e_61 e_62 q_63 e_65 b_75 b_76 b_77 hn_74 c_78 e_82 e_84 e_90 e_92 e_94 e_101) (o19_375 l2 u2 l3 u3 l4 u4 l5 u5 e_35 e_36 e_38 e_40 e_43 e_44 e_46 e_48 b_56 b_57 hn_55 c_58 e_61 e_62 q_63 e_65 b_75 b_76 b_77 hn_74 c_78 e_82 e_84 e_90 e_92 e_94 e_101) h (Fr.tr hF_70 (Fr.up u_99.1 hi_16 (by decide))) (lv_sub hl [0, 1, 2, 3, 4, 5, 6, 7, 8, 9, 10] rfl)
        exact lp_71 ((41 - a4.toInt + 1).toNat) a4 _ _ _ _ (o19_376 l4 u4 l5 u5 e_35 e_36 e_38 e_40 e_43 e_44 e_46 e_48 b_56 b_57 hn_55 c_58 e_61 e_62 q_63 e_65) (o19_377 l4 u4 l5 u5 e_35 e_36 e_38 e_40 e_43 e_44 e_46 e_48 b_56 b_57 hn_55 c_58 e_61 e_62 q_63 e_65) (o19_378 l4 u4 l5 u5 e_35 e_36 e_38 e_40 e_43 e_44 e_46 e_48 b_56 b_57 hn_55 c_58 e_61 e_62 q_63 e_65) (o19_379 l4 u4 l5 u5 e_35 e_36 e_38 e_40 e_43 e_44 e_46 e_48 b_56 b_57 hn_55 c_58 e_61 e_62 q_63 e_65) h Fr.rf (lv_sub hl [0, 1, 2, 3, 4, 5, 6, 7, 8, 9, 10] rfl)
      · -- 66
        refine lv_aload C0.1 C0.2.1 dX9_addWaysBy_69 (lv_at hl 3 rfl) ?_
        refine lv_iload_n C0.1 C0.2.1 dX9_addWaysBy_71 rfl (lv_at hl 8 rfl) ?_
        refine y_c2 (n := 41) C0 (by decide) dX9_addWaysBy_72 (fun v_102 e_103 => ?_)
        refine y_mulc (n := 41) C0 (o19_355 e_103) (o19_356 l3 u3 (le_min a3) (le_max a3)) (o19_357 l3 u3 (le_min a3) (le_max a3)) dX9_addWaysBy_74 (fun v_104 e_105 => ?_)
        refine lv_iload C0.1 C0.2.1 dX9_addWaysBy_75 (lv_at hl 0 rfl) ?_
        refine y_add C0 (o19_380 l3 u3 l4 u4 l5 u5 e_35 e_36 e_38 e_40 b_56 b_57 hn_55 c_58 e_105 (le_min v_104) (le_max v_104) (le_min x10_49) (le_max x10_49) (le_min a3) (le_max a3) (le_min a4) (le_max a4) (le_min a5) (le_max a5) (le_min v_33) (le_max v_33) (le_min v_37) (le_max v_37) (le_min v_39) (le_max v_39)) (o19_381 l3 u3 l4 u4 l5 u5 e_35 e_36 e_38 e_40 b_56 b_57 hn_55 c_58 e_105 (le_min v_104) (le_max v_104) (le_min x10_49) (le_max x10_49) (le_min a3) (le_max a3) (le_min a4) (le_max a4) (le_min a5) (le_max a5) (le_min v_33) (le_max v_33) (le_min v_37) (le_max v_37) (le_min v_39) (le_max v_39)) dX9_addWaysBy_77 (fun v_106 e_107 => ?_)
        refine y_lc (v := 0) C0 (by decide) dX9_addWaysBy_78 (fun w_108 e_109 => ?_)
        refine y_last C0 h hi_16 rfl (by decide) (o19_382 l3 u3 l4 u4 l5 u5 e_35 e_36 e_38 e_40 b_56 b_57 hn_55 c_58 e_105 e_107) (o19_383 l3 u3 l4 u4 l5 u5 e_35 e_36 e_38 e_40 b_56 b_57 hn_55 c_58 e_105 e_107) dX9_addWaysBy_79 (fun H locs ws_110 h u_111 => ?_)
        refine y_inc (kp := 0) (n := 1) (fun v_112 => [(10, .int v_112), (9, .int v_39), (8, .ref (ad i_26)), (7, .ref (ad i_16)), (6, .ref (ad i_6)), (0, .ref (ad 94)), (1, .int a1), (2, .int a2), (3, .int a3), (4, .int a4), (5, .int a5)]) C0 hl rfl (by decide) (by decide) (fun _ => rfl) (o19_384 l3 u3 l4 u4 l5 u5 e_35 e_36 e_38 e_40 b_56 b_57 hn_55 c_58 e_105 e_107 (le_min x10_49) (le_max x10_49) (le_min a3) (le_max a3) (le_min a4) (le_max a4) (le_min a5) (le_max a5) (le_min v_33) (le_max v_33) (le_min v_37) (le_max v_37) (le_min v_39) (le_max v_39) (le_min v_104) (le_max v_104) (le_min v_106) (le_max v_106)) (o19_385 l3 u3 l4 u4 l5 u5 e_35 e_36 e_38 e_40 b_56 b_57 hn_55 c_58 e_105 e_107 (le_min x10_49) (le_max x10_49) (le_min a3) (le_max a3) (le_min a4) (le_max a4) (le_min a5) (le_max a5) (le_min v_33) (le_max v_33) (le_min v_37) (le_max v_37) (le_min v_39) (le_max v_39) (le_min v_104) (le_max v_104) (le_min v_106) (le_max v_106)) dX9_addWaysBy_80 (fun v_112 ls e_113 hl => ?_)
        refine lv_goto (tgt := 62) C0.1 C0.2.1 dX9_addWaysBy_83 (by decide) ?_
        exact ih_53 v_112 _ _ _ _ (o19_386 l3 u3 l4 u4 l5 u5 e_35 e_36 e_38 e_40 b_56 b_57 hn_55 c_58 e_105 e_107 e_113) (o19_387 l3 u3 l4 u4 l5 u5 e_35 e_36 e_38 e_40 b_56 b_57 hn_55 c_58 e_105 e_107 e_113) (o19_388 l3 u3 l4 u4 l5 u5 e_35 e_36 e_38 e_40 b_56 b_57 hn_55 c_58 e_105 e_107 e_113) h (Fr.tr hF_51 (Fr.up u_111.1 hi_16 (by decide))) (lv_sub hl [0, 1, 2, 3, 4, 5, 6, 7, 8, 9, 10] rfl)
  exact lp_52 ((41 - v_47.toInt + 1).toNat) v_47 _ _ _ _ (o19_389 e_43 e_44 e_46 e_48) (o19_390 e_43 e_44 e_46 e_48) (o19_391 e_43 e_44 e_46 e_48) h Fr.rf (lv_sub hl [0, 1, 2, 3, 4, 5, 6, 7, 8, 9, 10] rfl)
set_option maxHeartbeats 4000000 in
set_option maxRecDepth 100000 in
theorem c_X9_addWays (l : Launch) (G : GG) (Z : RZ) (ad : Nat → Nat) (ws0 : va_W) (hT : Ty G (SC tt) ad ws0) (a1 : Int32) (a2 : Int32) (l1 : 0 ≤ a1.toInt) (u1 : a1.toInt ≤ 19) (l2 : 0 ≤ a2.toInt) (u2 : a2.toInt ≤ 40) (hR : Rel ws0) : Mq l yX9_addWays cX9_addWays 8 none 5 G Z [.ref (ad 94), .int a1, .int a2] ws0 (PV G (SC tt) ad [4, 5, 18, 19, 20, 21, 34, 36] ws0 (fun u => True)) := by
  refine Mq.start (by decide) (Nat.le_of_ble_eq_true rfl) ?_
  intro p e s m below meth c A ls C0 hZ h hl
  have hl : lv_has ls 8 [(0, .ref (ad 94)), (1, .int a1), (2, .int a2)] := hl
  have h : Wt G (SC tt) ad A s s.heap [] ws0 := ⟨h, hT⟩
  obtain ⟨args, hargs⟩ : ∃ z, z = ([.ref (ad 94), .int a1, .int a2] : List Value).toArray := ⟨_, rfl⟩
  rw [← hargs] at C0 ⊢
  have C0 : Cx p s m args meth c RX9 cX9_addWays 8 none := C0
  obtain ⟨Q, hQ⟩ : ∃ z, z = MQ below ((PV G (SC tt) ad [4, 5, 18, 19, 20, 21, 34, 36] ws0 (fun u => True)) A) args s 0 0 A := ⟨_, rfl⟩
  rw [← hQ]
  refine lv_aload_n C0.1 C0.2.1 dX9_addWays_0 rfl (lv_at hl 0 rfl) ?_
  refine tg_X9_most C0 h kSC_94 q_455 dX9_addWays_1 ?_
  refine lv_iload_n C0.1 C0.2.1 dX9_addWays_4 rfl (lv_at hl 1 rfl) ?_
  refine y_c1 (n := 1) C0 (by decide) dX9_addWays_5 (fun v_1 e_2 => ?_)
  refine y_add C0 (o19_342 l1 u1 e_2 (le_min a1) (le_max a1) (le_min v_1) (le_max v_1)) (o19_343 l1 u1 e_2 (le_min a1) (le_max a1) (le_min v_1) (le_max v_1)) dX9_addWays_6 (fun v_3 e_4 => ?_)
  refine y_c1 (n := 1) C0 (by decide) dX9_addWays_7 (fun v_5 e_6 => ?_)
  refine y_and 1 1 (n := 1) C0 (Eq.trans (o19_104 e_6) (by decide)) (by decide) (by decide) (by decide) dX9_addWays_8 (fun v_7 e_8 e_9 => ?_)
  refine y_aaldA C0 h kSC_98 rfl rfl (by decide) (o19_339 e_8 e_9) (o19_340 e_8 e_9) dX9_addWays_9 ?_
  obtain ⟨i_10, hi_10, ei_10⟩ : ∃ j : Nat, Kd (SC tt) j 36 ∧ j = 99 + 1 * v_7.toInt.toNat := ⟨_, aSC_35 (o19_341 e_8 e_9), rfl⟩
  rw [← ei_10]
  refine y_c1 (n := (-1)) C0 (by decide) dX9_addWays_10 (fun v_11 e_12 => ?_)
  refine y_cv h (y_rS (As := [.ref (ad i_10), .int v_11]) (rest := []) C0 hZ h (c_J7_fill_53178_36 l G Z ad _ h.2 i_10 hi_10 v_11 (o19_392 e_12) (o19_393 e_12)) k_J7_fill_53178 q_611 q_1215 hl.1 rfl rfl (Nat.le_of_ble_eq_true rfl) dX9_addWays_11 ⟨Nat.le_of_ble_eq_true rfl, Nat.le_of_ble_eq_true rfl⟩ ⟨Nat.le_of_ble_eq_true rfl, Nat.le_of_ble_eq_true rfl⟩) (fun H locs ws_13 h u_14 p_15 => ?_)
  refine y_c1 (n := 4) C0 (by decide) dX9_addWays_14 (fun v_16 e_17 => ?_)
  refine lv_aload_n C0.1 C0.2.1 dX9_addWays_15 rfl (lv_at hl 0 rfl) ?_
  refine tg_X9_city C0 h kSC_94 q_452 dX9_addWays_16 ?_
  refine y_ci h (y_rV (As := []) (rest := [.int v_16]) C0 hZ h (c_X0_crossings l G Z ad _ h.2 1 kSC_1) k_X0_crossings q_918 q_919 q_1221 kSC_1 rfl rfl rfl hl.1 rfl rfl (Nat.le_of_ble_eq_true rfl) dX9_addWays_19 ⟨Nat.le_of_ble_eq_true rfl, Nat.le_of_ble_eq_true rfl⟩ ⟨Nat.le_of_ble_eq_true rfl, Nat.le_of_ble_eq_true rfl⟩) (fun r_21 H locs ws_18 h u_19 p_20 => ?_)
  obtain ⟨e_22, e_23⟩ := p_20
  refine y_cmul (n := 4) C0 (o19_51 e_17) (o19_394 e_22 e_23 (le_min r_21) (le_max r_21)) (o19_395 e_22 e_23 (le_min r_21) (le_max r_21)) dX9_addWays_22 (fun v_24 e_25 => ?_)
  refine lv_istore_n (lv' := [(3, .int v_24), (0, .ref (ad 94)), (1, .int a1), (2, .int a2)]) C0.1 C0.2.1 dX9_addWays_23 rfl hl (by decide) rfl (fun ls hl => ?_)
  refine y_c1 (n := 0) C0 (by decide) dX9_addWays_24 (fun v_26 e_27 => ?_)
  refine lv_istore (lv' := [(4, .int v_26), (3, .int v_24), (0, .ref (ad 94)), (1, .int a1), (2, .int a2)]) C0.1 C0.2.1 dX9_addWays_25 hl (by decide) rfl (fun ls hl => ?_)
  have lp_31 : ∀ (n_33 : Nat) (x4_28 : Int32) (H : Heap) (locs : List Loc) (ls : Array Slot) (ws_29 : va_W), 100 - x4_28.toInt < (n_33 : Int) → 0 ≤ x4_28.toInt → x4_28.toInt ≤ 100 → Wt G (SC tt) ad A s H locs ws_29 → Fr (SC tt) [4, 5, 18, 19, 20, 21, 34, 36] ws_18 ws_29 → lv_has ls 8 [(4, .int x4_28), (3, .int v_24), (0, .ref (ad 94)), (1, .int a1), (2, .int a2)] → W p l e (rmd 5 0 0) s m args below meth c H locs 0 0 Q (F0 m 27 ls []) := by
    intro n_33
    induction n_33 with
    | zero => intro x4_28 H locs ls ws_29 hn_34 b_35 b_36 h hF_30 hl; exact ((o19_396 b_35 b_36 hn_34)).elim
    | succ n_33 ih_32 =>
      intro x4_28 H locs ls ws_29 hn_34 b_35 b_36 h hF_30 hl
      refine lv_iload C0.1 C0.2.1 dX9_addWays_27 (lv_at hl 0 rfl) ?_
      refine lv_iload_n C0.1 C0.2.1 dX9_addWays_29 rfl (lv_at hl 1 rfl) ?_
      refine y_icmp_ge (tgt := 127) C0 dX9_addWays_30 (by decide) (fun c_37 => ?_) (fun c_37 => ?_)
      · -- 30
        rw [hQ]
        exact y_vret C0 h (Fr.tr (Fr.tr (Fr.mono u_14 (by decide)) (Fr.mono u_19 (by decide))) hF_30) trivial dX9_addWays_127
      · -- 30
        refine y_c1 (n := 0) C0 (by decide) dX9_addWays_33 (fun v_38 e_39 => ?_)
        refine lv_istore (lv' := [(5, .int v_38), (4, .int x4_28), (3, .int v_24), (0, .ref (ad 94)), (1, .int a1), (2, .int a2)]) C0.1 C0.2.1 dX9_addWays_34 hl (by decide) rfl (fun ls hl => ?_)
        have lp_43 : ∀ (n_45 : Nat) (x5_40 : Int32) (H : Heap) (locs : List Loc) (ls : Array Slot) (ws_41 : va_W), 4 - x5_40.toInt < (n_45 : Int) → 0 ≤ x5_40.toInt → x5_40.toInt ≤ 4 → Wt G (SC tt) ad A s H locs ws_41 → Fr (SC tt) [4, 5, 18, 19, 20, 21, 34, 36] ws_29 ws_41 → lv_has ls 8 [(5, .int x5_40), (4, .int x4_28), (3, .int v_24), (0, .ref (ad 94)), (1, .int a1), (2, .int a2)] → W p l e (rmd 5 0 0) s m args below meth c H locs 0 0 Q (F0 m 36 ls []) := by
          intro n_45
          induction n_45 with
          | zero => intro x5_40 H locs ls ws_41 hn_46 b_47 b_48 h hF_42 hl; exact ((o19_50 b_47 b_48 hn_46)).elim
          | succ n_45 ih_44 =>
            intro x5_40 H locs ls ws_41 hn_46 b_47 b_48 h hF_42 hl
            refine lv_iload C0.1 C0.2.1 dX9_addWays_36 (lv_at hl 0 rfl) ?_
            refine y_c1 (n := 4) C0 (by decide) dX9_addWays_38 (fun v_49 e_50 => ?_)
            refine y_icmp_ge (tgt := 121) C0 dX9_addWays_39 (by decide) (fun c_51 => ?_) (fun c_51 => ?_)
            · -- 39
              refine y_inc (kp := 1) (n := 1) (fun v_52 => [(4, .int v_52), (5, .int x5_40), (3, .int v_24), (0, .ref (ad 94)), (1, .int a1), (2, .int a2)]) C0 hl rfl (by decide) (by decide) (fun _ => rfl) (o19_397 e_22 e_23 e_25 b_35 b_36 hn_34 c_37 (le_min x4_28) (le_max x4_28) (le_min r_21) (le_max r_21) (le_min v_24) (le_max v_24)) (o19_398 e_22 e_23 e_25 b_35 b_36 hn_34 c_37 (le_min x4_28) (le_max x4_28) (le_min r_21) (le_max r_21) (le_min v_24) (le_max v_24)) dX9_addWays_121 (fun v_52 ls e_53 hl => ?_)
              refine lv_goto (tgt := 27) C0.1 C0.2.1 dX9_addWays_124 (by decide) ?_
              exact ih_32 v_52 _ _ _ _ (o19_399 e_22 e_23 e_25 b_35 b_36 hn_34 c_37 e_53) (o19_400 e_22 e_23 e_25 b_35 b_36 hn_34 c_37 e_53) (o19_401 e_22 e_23 e_25 b_35 b_36 hn_34 c_37 e_53) h (Fr.tr hF_30 hF_42) (lv_sub hl [0, 2, 3, 4, 5] rfl)
            · -- 39
              refine lv_aload_n C0.1 C0.2.1 dX9_addWays_42 rfl (lv_at hl 3 rfl) ?_
              refine tg_X9_most C0 h kSC_94 q_455 dX9_addWays_43 ?_
              refine lv_iload_n C0.1 C0.2.1 dX9_addWays_46 rfl (lv_at hl 4 rfl) ?_
              refine y_c1 (n := 1) C0 (by decide) dX9_addWays_47 (fun v_54 e_55 => ?_)
              refine y_and 1 1 (n := 1) C0 (Eq.trans (o19_104 e_55) (by decide)) (by decide) (by decide) (by decide) dX9_addWays_48 (fun v_56 e_57 e_58 => ?_)
              refine y_aaldA C0 h kSC_98 rfl rfl (by decide) (o19_339 e_57 e_58) (o19_340 e_57 e_58) dX9_addWays_49 ?_
              obtain ⟨i_59, hi_59, ei_59⟩ : ∃ j : Nat, Kd (SC tt) j 36 ∧ j = 99 + 1 * v_56.toInt.toNat := ⟨_, aSC_35 (o19_341 e_57 e_58), rfl⟩
              rw [← ei_59]
              refine lv_iload C0.1 C0.2.1 dX9_addWays_50 (lv_at hl 1 rfl) ?_
              refine y_iald C0 h hi_59 rfl (by decide) (o19_402 e_22 e_23 e_25 b_35 b_36 hn_34 c_37) (o19_403 e_22 e_23 e_25 b_35 b_36 hn_34 c_37) dX9_addWays_52 (fun v_60 e_61 e_62 e_63 => ?_)
              refine y_if_lt (tgt := 121) C0 dX9_addWays_53 (by decide) (fun c_64 => ?_) (fun c_64 => ?_)
              · -- 53
                refine y_inc (kp := 1) (n := 1) (fun v_65 => [(4, .int v_65), (5, .int x5_40), (3, .int v_24), (0, .ref (ad 94)), (1, .int a1), (2, .int a2)]) C0 hl rfl (by decide) (by decide) (fun _ => rfl) (o19_397 e_22 e_23 e_25 b_35 b_36 hn_34 c_37 (le_min x4_28) (le_max x4_28) (le_min r_21) (le_max r_21) (le_min v_24) (le_max v_24)) (o19_398 e_22 e_23 e_25 b_35 b_36 hn_34 c_37 (le_min x4_28) (le_max x4_28) (le_min r_21) (le_max r_21) (le_min v_24) (le_max v_24)) dX9_addWays_121 (fun v_65 ls e_66 hl => ?_)
                refine lv_goto (tgt := 27) C0.1 C0.2.1 dX9_addWays_124 (by decide) ?_
                exact ih_32 v_65 _ _ _ _ (o19_399 e_22 e_23 e_25 b_35 b_36 hn_34 c_37 e_66) (o19_400 e_22 e_23 e_25 b_35 b_36 hn_34 c_37 e_66) (o19_401 e_22 e_23 e_25 b_35 b_36 hn_34 c_37 e_66) h (Fr.tr hF_30 hF_42) (lv_sub hl [0, 2, 3, 4, 5] rfl)
              · -- 53
                refine lv_aload_n C0.1 C0.2.1 dX9_addWays_56 rfl (lv_at hl 3 rfl) ?_
                refine tg_X9_city C0 h kSC_94 q_452 dX9_addWays_57 ?_
                refine lv_iload C0.1 C0.2.1 dX9_addWays_60 (lv_at hl 1 rfl) ?_
                refine lv_iload C0.1 C0.2.1 dX9_addWays_62 (lv_at hl 0 rfl) ?_
                refine y_ci h (y_rV (As := [.int x4_28, .int x5_40]) (rest := []) C0 hZ h (c_X0_standAfter l G Z ad _ h.2 1 kSC_1 x4_28 x5_40 (o19_402 e_22 e_23 e_25 b_35 b_36 hn_34 c_37) (o19_404 e_22 e_23 e_25 b_35 b_36 hn_34 c_37) (o19_221 b_47 b_48 hn_46 e_50 c_51) (o19_234 b_47 b_48 hn_46 e_50 c_51) (Rel.fr (M := [4, 5, 18, 19, 20, 21, 34, 36]) hR (Fr.tr (Fr.tr (Fr.tr (Fr.mono u_14 (by decide)) (Fr.mono u_19 (by decide))) hF_30) hF_42) (by decide) (by decide))) k_X0_standAfter q_1180 q_1181 q_1222 kSC_1 rfl rfl rfl hl.1 rfl rfl (Nat.le_of_ble_eq_true rfl) dX9_addWays_64 ⟨Nat.le_of_ble_eq_true rfl, Nat.le_of_ble_eq_true rfl⟩ ⟨Nat.le_of_ble_eq_true rfl, Nat.le_of_ble_eq_true rfl⟩) (fun r_70 H locs ws_67 h u_68 p_69 => ?_)
                obtain ⟨e_71, e_72⟩ := p_69
                refine lv_istore (lv' := [(6, .int r_70), (5, .int x5_40), (4, .int x4_28), (3, .int v_24), (0, .ref (ad 94)), (1, .int a1), (2, .int a2)]) C0.1 C0.2.1 dX9_addWays_67 hl (by decide) rfl (fun ls hl => ?_)
                refine lv_iload C0.1 C0.2.1 dX9_addWays_69 (lv_at hl 0 rfl) ?_
                refine y_if_ge (tgt := 78) C0 dX9_addWays_71 (by decide) (fun c_73 => ?_) (fun c_73 => ?_)
                · -- 71
                  refine lv_aload_n C0.1 C0.2.1 dX9_addWays_78 rfl (lv_at hl 4 rfl) ?_
                  refine tg_X9_forecast C0 h kSC_94 q_453 dX9_addWays_79 ?_
                  refine lv_iload_n C0.1 C0.2.1 dX9_addWays_82 rfl (lv_at hl 5 rfl) ?_
                  refine lv_iload C0.1 C0.2.1 dX9_addWays_83 (lv_at hl 2 rfl) ?_
                  refine lv_iload C0.1 C0.2.1 dX9_addWays_85 (lv_at hl 1 rfl) ?_
                  refine y_ci h (y_rV (As := [.int a1, .int x4_28, .int x5_40]) (rest := []) C0 hZ h (c_X2_lefts l G Z ad _ h.2 a1 x4_28 x5_40 (o19_405 l1 u1 e_2 e_4) (o19_406 l1 u1 e_2 e_4) (o19_402 e_22 e_23 e_25 b_35 b_36 hn_34 c_37) (o19_404 e_22 e_23 e_25 b_35 b_36 hn_34 c_37) (o19_221 b_47 b_48 hn_46 e_50 c_51) (o19_234 b_47 b_48 hn_46 e_50 c_51)) k_X2_lefts q_1184 q_1185 q_1223 kSC_79 rfl rfl rfl hl.1 rfl rfl (Nat.le_of_ble_eq_true rfl) dX9_addWays_87 ⟨Nat.le_of_ble_eq_true rfl, Nat.le_of_ble_eq_true rfl⟩ ⟨Nat.le_of_ble_eq_true rfl, Nat.le_of_ble_eq_true rfl⟩) (fun r_77 H locs ws_74 h u_75 p_76 => ?_)
                  obtain ⟨e_78, e_79⟩ := p_76
                  refine lv_istore (lv' := [(7, .int r_77), (6, .int r_70), (5, .int x5_40), (4, .int x4_28), (3, .int v_24), (0, .ref (ad 94)), (1, .int a1), (2, .int a2)]) C0.1 C0.2.1 dX9_addWays_90 hl (by decide) rfl (fun ls hl => ?_)
                  refine lv_iload C0.1 C0.2.1 dX9_addWays_92 (lv_at hl 0 rfl) ?_
                  refine y_if_lt (tgt := 115) C0 dX9_addWays_94 (by decide) (fun c_80 => ?_) (fun c_80 => ?_)
                  · -- 94
                    refine y_inc (kp := 2) (n := 1) (fun v_81 => [(5, .int v_81), (7, .int r_77), (6, .int r_70), (4, .int x4_28), (3, .int v_24), (0, .ref (ad 94)), (1, .int a1), (2, .int a2)]) C0 hl rfl (by decide) (by decide) (fun _ => rfl) (o19_223 b_47 b_48 hn_46 e_50 c_51 (le_min x5_40) (le_max x5_40) (le_min v_49) (le_max v_49)) (o19_224 b_47 b_48 hn_46 e_50 c_51 (le_min x5_40) (le_max x5_40) (le_min v_49) (le_max v_49)) dX9_addWays_115 (fun v_81 ls e_82 hl => ?_)
                    refine lv_goto (tgt := 36) C0.1 C0.2.1 dX9_addWays_118 (by decide) ?_
                    exact ih_44 v_81 _ _ _ _ (o19_225 b_47 b_48 hn_46 e_50 c_51 e_82) (o19_226 b_47 b_48 hn_46 e_50 c_51 e_82) (o19_227 b_47 b_48 hn_46 e_50 c_51 e_82) h (Fr.tr (Fr.tr hF_42 (Fr.mono u_68 (by decide))) (Fr.mono u_75 (by decide))) (lv_sub hl [0, 3, 4, 5, 6, 7] rfl)
                  · -- 94
                    refine lv_iload C0.1 C0.2.1 dX9_addWays_97 (lv_at hl 0 rfl) ?_
                    refine lv_iload_n C0.1 C0.2.1 dX9_addWays_99 rfl (lv_at hl 7 rfl) ?_
                    refine y_icmp_gt (tgt := 115) C0 dX9_addWays_100 (by decide) (fun c_83 => ?_) (fun c_83 => ?_)
                    · -- 100
                      refine y_inc (kp := 2) (n := 1) (fun v_84 => [(5, .int v_84), (7, .int r_77), (6, .int r_70), (4, .int x4_28), (3, .int v_24), (0, .ref (ad 94)), (1, .int a1), (2, .int a2)]) C0 hl rfl (by decide) (by decide) (fun _ => rfl) (o19_223 b_47 b_48 hn_46 e_50 c_51 (le_min x5_40) (le_max x5_40) (le_min v_49) (le_max v_49)) (o19_224 b_47 b_48 hn_46 e_50 c_51 (le_min x5_40) (le_max x5_40) (le_min v_49) (le_max v_49)) dX9_addWays_115 (fun v_84 ls e_85 hl => ?_)
                      refine lv_goto (tgt := 36) C0.1 C0.2.1 dX9_addWays_118 (by decide) ?_
                      exact ih_44 v_84 _ _ _ _ (o19_225 b_47 b_48 hn_46 e_50 c_51 e_85) (o19_226 b_47 b_48 hn_46 e_50 c_51 e_85) (o19_227 b_47 b_48 hn_46 e_50 c_51 e_85) h (Fr.tr (Fr.tr hF_42 (Fr.mono u_68 (by decide))) (Fr.mono u_75 (by decide))) (lv_sub hl [0, 3, 4, 5, 6, 7] rfl)
                    · -- 100
                      refine lv_aload_n C0.1 C0.2.1 dX9_addWays_103 rfl (lv_at hl 5 rfl) ?_
                      refine lv_iload_n C0.1 C0.2.1 dX9_addWays_104 rfl (lv_at hl 6 rfl) ?_
                      refine lv_iload C0.1 C0.2.1 dX9_addWays_105 (lv_at hl 3 rfl) ?_
                      refine lv_iload C0.1 C0.2.1 dX9_addWays_107 (lv_at hl 1 rfl) ?_
                      refine lv_iload C0.1 C0.2.1 dX9_addWays_109 (lv_at hl 0 rfl) ?_
                      refine lv_iload_n C0.1 C0.2.1 dX9_addWays_111 rfl (lv_at hl 7 rfl) ?_
                      refine y_cv h (y_rV (As := [.int a1, .int x4_28, .int r_70, .int r_77, .int a2]) (rest := []) C0 hZ h (c_X9_addWaysBy l G Z ad _ h.2 a1 x4_28 r_70 r_77 a2 (o19_405 l1 u1 e_2 e_4) (o19_407 l1 u1 e_2 e_4) (o19_402 e_22 e_23 e_25 b_35 b_36 hn_34 c_37) (o19_404 e_22 e_23 e_25 b_35 b_36 hn_34 c_37) (o19_247 e_71 e_72 c_73) (o19_248 e_71 e_72 c_73) (o19_408 l2 u2 e_78 e_79 c_80 c_83) (o19_409 l2 u2 e_78 e_79 c_80 c_83) (o19_410 l2 u2 e_78 e_79 c_80 c_83) (o19_411 l2 u2 e_78 e_79 c_80 c_83)) k_X9_addWaysBy q_1241 q_48 q_1239 kSC_94 rfl rfl rfl hl.1 rfl rfl (Nat.le_of_ble_eq_true rfl) dX9_addWays_112 ⟨Nat.le_of_ble_eq_true rfl, Nat.le_of_ble_eq_true rfl⟩ ⟨Nat.le_of_ble_eq_true rfl, Nat.le_of_ble_eq_true rfl⟩) (fun H locs ws_86 h u_87 p_88 => ?_)
                      refine y_inc (kp := 2) (n := 1) (fun v_89 => [(5, .int v_89), (7, .int r_77), (6, .int r_70), (4, .int x4_28), (3, .int v_24), (0, .ref (ad 94)), (1, .int a1), (2, .int a2)]) C0 hl rfl (by decide) (by decide) (fun _ => rfl) (o19_223 b_47 b_48 hn_46 e_50 c_51 (le_min x5_40) (le_max x5_40) (le_min v_49) (le_max v_49)) (o19_224 b_47 b_48 hn_46 e_50 c_51 (le_min x5_40) (le_max x5_40) (le_min v_49) (le_max v_49)) dX9_addWays_115 (fun v_89 ls e_90 hl => ?_)
                      refine lv_goto (tgt := 36) C0.1 C0.2.1 dX9_addWays_118 (by decide) ?_
                      exact ih_44 v_89 _ _ _ _ (o19_225 b_47 b_48 hn_46 e_50 c_51 e_90) (o19_226 b_47 b_48 hn_46 e_50 c_51 e_90) (o19_227 b_47 b_48 hn_46 e_50 c_51 e_90) h (Fr.tr (Fr.tr (Fr.tr hF_42 (Fr.mono u_68 (by decide))) (Fr.mono u_75 (by decide))) (Fr.mono u_87 (by decide))) (lv_sub hl [0, 3, 4, 5, 6, 7] rfl)
                · -- 71
                  refine y_c1 (n := (-1)) C0 (by decide) dX9_addWays_74 (fun v_91 e_92 => ?_)
                  refine lv_goto (tgt := 90) C0.1 C0.2.1 dX9_addWays_75 (by decide) ?_
                  refine lv_istore (lv' := [(7, .int v_91), (6, .int r_70), (5, .int x5_40), (4, .int x4_28), (3, .int v_24), (0, .ref (ad 94)), (1, .int a1), (2, .int a2)]) C0.1 C0.2.1 dX9_addWays_90 hl (by decide) rfl (fun ls hl => ?_)
                  refine lv_iload C0.1 C0.2.1 dX9_addWays_92 (lv_at hl 0 rfl) ?_
                  refine y_if_lt (tgt := 115) C0 dX9_addWays_94 (by decide) (fun c_93 => ?_) (fun c_93 => ((o19_256 e_92 c_93)).elim)
                  refine y_inc (kp := 2) (n := 1) (fun v_94 => [(5, .int v_94), (7, .int v_91), (6, .int r_70), (4, .int x4_28), (3, .int v_24), (0, .ref (ad 94)), (1, .int a1), (2, .int a2)]) C0 hl rfl (by decide) (by decide) (fun _ => rfl) (o19_223 b_47 b_48 hn_46 e_50 c_51 (le_min x5_40) (le_max x5_40) (le_min v_49) (le_max v_49)) (o19_224 b_47 b_48 hn_46 e_50 c_51 (le_min x5_40) (le_max x5_40) (le_min v_49) (le_max v_49)) dX9_addWays_115 (fun v_94 ls e_95 hl => ?_)
                  refine lv_goto (tgt := 36) C0.1 C0.2.1 dX9_addWays_118 (by decide) ?_
                  exact ih_44 v_94 _ _ _ _ (o19_225 b_47 b_48 hn_46 e_50 c_51 e_95) (o19_226 b_47 b_48 hn_46 e_50 c_51 e_95) (o19_227 b_47 b_48 hn_46 e_50 c_51 e_95) h (Fr.tr hF_42 (Fr.mono u_68 (by decide))) (lv_sub hl [0, 3, 4, 5, 6, 7] rfl)
        exact lp_43 ((4 - v_38.toInt + 1).toNat) v_38 _ _ _ _ (o19_86 e_39) (o19_87 e_39) (o19_88 e_39) h Fr.rf (lv_sub hl [0, 1, 2, 3, 4, 5] rfl)
  exact lp_31 ((100 - v_26.toInt + 1).toNat) v_26 _ _ _ _ (o19_412 e_27) (o19_87 e_27) (o19_413 e_27) h Fr.rf (lv_sub hl [0, 1, 2, 3, 4] rfl)
set_option maxHeartbeats 4000000 in
set_option maxRecDepth 100000 in
theorem c_X9_waysOfJust (l : Launch) (G : GG) (Z : RZ) (ad : Nat → Nat) (ws0 : va_W) (hT : Ty G (SC tt) ad ws0) (a1 : Int32) (a2 : Int32) (a3 : Int32) (a4 : Int32) (l1 : 0 ≤ a1.toInt) (u1 : a1.toInt ≤ 99) (l2 : 0 ≤ a2.toInt) (u2 : a2.toInt ≤ 24) (l3 : 0 ≤ a3.toInt) (u3 : a3.toInt ≤ 20) (l4 : 0 ≤ a4.toInt) (u4 : a4.toInt ≤ 40) (hR : Rel ws0) : Mq l yX9_waysOfJust cX9_waysOfJust 9 (some .long) 6 G Z [.ref (ad 94), .int a1, .int a2, .int a3, .int a4] ws0 (PL G (SC tt) ad [4, 5, 18, 19, 20, 21, 34, 36] ws0 (fun r u => True)) := by
  refine Mq.start (by decide) (Nat.le_of_ble_eq_true rfl) ?_
  intro p e s m below meth c A ls C0 hZ h hl
  have hl : lv_has ls 9 [(0, .ref (ad 94)), (1, .int a1), (2, .int a2), (3, .int a3), (4, .int a4)] := hl
  have h : Wt G (SC tt) ad A s s.heap [] ws0 := ⟨h, hT⟩
  obtain ⟨args, hargs⟩ : ∃ z, z = ([.ref (ad 94), .int a1, .int a2, .int a3, .int a4] : List Value).toArray := ⟨_, rfl⟩
  rw [← hargs] at C0 ⊢
  have C0 : Cx p s m args meth c RX9 cX9_waysOfJust 9 (some .long) := C0
  obtain ⟨Q, hQ⟩ : ∃ z, z = MQ below ((PL G (SC tt) ad [4, 5, 18, 19, 20, 21, 34, 36] ws0 (fun r u => True)) A) args s 0 0 A := ⟨_, rfl⟩
  rw [← hQ]
  refine lv_aload_n C0.1 C0.2.1 dX9_waysOfJust_0 rfl (lv_at hl 0 rfl) ?_
  refine tg_X9_most C0 h kSC_94 q_455 dX9_waysOfJust_1 ?_
  refine y_c1 (n := 0) C0 (by decide) dX9_waysOfJust_4 (fun v_1 e_2 => ?_)
  refine y_aaldA C0 h kSC_98 rfl rfl (by decide) (o19_87 e_2) (o19_414 e_2) dX9_waysOfJust_5 ?_
  obtain ⟨i_3, hi_3, ei_3⟩ : ∃ j : Nat, Kd (SC tt) j 36 ∧ j = 99 + 1 * v_1.toInt.toNat := ⟨_, aSC_35 (o19_415 e_2), rfl⟩
  rw [← ei_3]
  refine y_c1 (n := (-1)) C0 (by decide) dX9_waysOfJust_6 (fun v_4 e_5 => ?_)
  refine y_cv h (y_rS (As := [.ref (ad i_3), .int v_4]) (rest := []) C0 hZ h (c_J7_fill_53178_36 l G Z ad _ h.2 i_3 hi_3 v_4 (o19_392 e_5) (o19_393 e_5)) k_J7_fill_53178 q_611 q_1215 hl.1 rfl rfl (Nat.le_of_ble_eq_true rfl) dX9_waysOfJust_7 ⟨Nat.le_of_ble_eq_true rfl, Nat.le_of_ble_eq_true rfl⟩ ⟨Nat.le_of_ble_eq_true rfl, Nat.le_of_ble_eq_true rfl⟩) (fun H locs ws_6 h u_7 p_8 => ?_)
  refine lv_aload_n C0.1 C0.2.1 dX9_waysOfJust_10 rfl (lv_at hl 0 rfl) ?_
  refine tg_X9_most C0 h kSC_94 q_455 dX9_waysOfJust_11 ?_
  refine y_c1 (n := 0) C0 (by decide) dX9_waysOfJust_14 (fun v_9 e_10 => ?_)
  refine y_aaldA C0 h kSC_98 rfl rfl (by decide) (o19_87 e_10) (o19_414 e_10) dX9_waysOfJust_15 ?_
  obtain ⟨i_11, hi_11, ei_11⟩ : ∃ j : Nat, Kd (SC tt) j 36 ∧ j = 99 + 1 * v_9.toInt.toNat := ⟨_, aSC_35 (o19_415 e_10), rfl⟩
  rw [← ei_11]
  refine lv_iload_n C0.1 C0.2.1 dX9_waysOfJust_16 rfl (lv_at hl 1 rfl) ?_
  refine y_c1 (n := 0) C0 (by decide) dX9_waysOfJust_17 (fun v_12 e_13 => ?_)
  refine y_iast C0 h hi_11 rfl (by decide) (o19_3 l1 u1) (o19_346 l1 u1) (o19_416 e_13) (o19_417 e_13) dX9_waysOfJust_18 (fun H locs ws_14 h u_15 => ?_)
  refine lv_aload_n C0.1 C0.2.1 dX9_waysOfJust_19 rfl (lv_at hl 0 rfl) ?_
  refine tg_X9_ways C0 h kSC_94 q_454 dX9_waysOfJust_20 ?_
  refine y_c1 (n := 0) C0 (by decide) dX9_waysOfJust_23 (fun v_16 e_17 => ?_)
  refine y_aaldA C0 h kSC_95 rfl rfl (by decide) (o19_87 e_17) (o19_414 e_17) dX9_waysOfJust_24 ?_
  obtain ⟨i_18, hi_18, ei_18⟩ : ∃ j : Nat, Kd (SC tt) j 34 ∧ j = 96 + 1 * v_16.toInt.toNat := ⟨_, aSC_33 (o19_415 e_17), rfl⟩
  rw [← ei_18]
  refine lv_iload_n C0.1 C0.2.1 dX9_waysOfJust_25 rfl (lv_at hl 1 rfl) ?_
  refine y_c2 (n := 41) C0 (by decide) dX9_waysOfJust_26 (fun v_19 e_20 => ?_)
  refine y_mulc (n := 41) C0 (o19_355 e_20) (o19_356 l1 u1 (le_min a1) (le_max a1)) (o19_357 l1 u1 (le_min a1) (le_max a1)) dX9_waysOfJust_28 (fun v_21 e_22 => ?_)
  refine y_lc (v := 1) C0 (by decide) dX9_waysOfJust_29 (fun w_23 e_24 => ?_)
  refine y_last C0 h hi_18 rfl (by decide) (o19_418 l1 u1 e_22) (o19_419 l1 u1 e_22) dX9_waysOfJust_30 (fun H locs ws_25 h u_26 => ?_)
  refine y_c1 (n := 0) C0 (by decide) dX9_waysOfJust_31 (fun v_27 e_28 => ?_)
  refine lv_istore (lv' := [(5, .int v_27), (0, .ref (ad 94)), (1, .int a1), (2, .int a2), (3, .int a3), (4, .int a4)]) C0.1 C0.2.1 dX9_waysOfJust_32 hl (by decide) rfl (fun ls hl => ?_)
  have lp_32 : ∀ (n_34 : Nat) (x5_29 : Int32) (H : Heap) (locs : List Loc) (ls : Array Slot) (ws_30 : va_W), 20 - x5_29.toInt < (n_34 : Int) → 0 ≤ x5_29.toInt → x5_29.toInt ≤ 20 → Wt G (SC tt) ad A s H locs ws_30 → Fr (SC tt) [4, 5, 18, 19, 20, 21, 34, 36] ws_25 ws_30 → lv_has ls 9 [(5, .int x5_29), (0, .ref (ad 94)), (1, .int a1), (2, .int a2), (3, .int a3), (4, .int a4)] → W p l e (rmd 6 0 0) s m args below meth c H locs 0 0 Q (F0 m 34 ls []) := by
    intro n_34
    induction n_34 with
    | zero => intro x5_29 H locs ls ws_30 hn_35 b_36 b_37 h hF_31 hl; exact ((o19_420 b_36 b_37 hn_35)).elim
    | succ n_34 ih_33 =>
      intro x5_29 H locs ls ws_30 hn_35 b_36 b_37 h hF_31 hl
      refine lv_iload C0.1 C0.2.1 dX9_waysOfJust_34 (lv_at hl 0 rfl) ?_
      refine lv_iload_n C0.1 C0.2.1 dX9_waysOfJust_36 rfl (lv_at hl 4 rfl) ?_
      refine y_icmp_ge (tgt := 54) C0 dX9_waysOfJust_37 (by decide) (fun c_38 => ?_) (fun c_38 => ?_)
      · -- 37
        refine y_lc (v := 0) C0 (by decide) dX9_waysOfJust_54 (fun w_39 e_40 => ?_)
        refine lv_lstore (lv' := [(5, .long w_39), (0, .ref (ad 94)), (1, .int a1), (2, .int a2), (3, .int a3), (4, .int a4)]) C0.1 C0.2.1 dX9_waysOfJust_55 hl (by decide) rfl (fun ls hl => ?_)
        refine y_c1 (n := 4) C0 (by decide) dX9_waysOfJust_57 (fun v_41 e_42 => ?_)
        refine lv_iload_n C0.1 C0.2.1 dX9_waysOfJust_58 rfl (lv_at hl 3 rfl) ?_
        refine y_cmul (n := 4) C0 (o19_51 e_42) (o19_421 l2 u2 (le_min a2) (le_max a2)) (o19_422 l2 u2 (le_min a2) (le_max a2)) dX9_waysOfJust_59 (fun v_43 e_44 => ?_)
        refine lv_istore (lv' := [(7, .int v_43), (5, .long w_39), (0, .ref (ad 94)), (1, .int a1), (2, .int a2), (3, .int a3), (4, .int a4)]) C0.1 C0.2.1 dX9_waysOfJust_60 hl (by decide) rfl (fun ls hl => ?_)
        have lp_49 : ∀ (n_51 : Nat) (x7_45 : Int32) (x5_46 : Int64) (H : Heap) (locs : List Loc) (ls : Array Slot) (ws_47 : va_W), 100 - x7_45.toInt < (n_51 : Int) → 0 ≤ x7_45.toInt → x7_45.toInt ≤ 100 → Wt G (SC tt) ad A s H locs ws_47 → Fr (SC tt) [] ws_30 ws_47 → lv_has ls 9 [(7, .int x7_45), (5, .long x5_46), (0, .ref (ad 94)), (1, .int a1), (2, .int a2), (3, .int a3), (4, .int a4)] → W p l e (rmd 6 0 0) s m args below meth c H locs 0 0 Q (F0 m 62 ls []) := by
          intro n_51
          induction n_51 with
          | zero => intro x7_45 x5_46 H locs ls ws_47 hn_52 b_53 b_54 h hF_48 hl; exact ((o19_396 b_53 b_54 hn_52)).elim
          | succ n_51 ih_50 =>
            intro x7_45 x5_46 H locs ls ws_47 hn_52 b_53 b_54 h hF_48 hl
            refine lv_iload C0.1 C0.2.1 dX9_waysOfJust_62 (lv_at hl 0 rfl) ?_
            refine y_c1 (n := 4) C0 (by decide) dX9_waysOfJust_64 (fun v_55 e_56 => ?_)
            refine lv_iload_n C0.1 C0.2.1 dX9_waysOfJust_65 rfl (lv_at hl 4 rfl) ?_
            refine y_cmul (n := 4) C0 (o19_51 e_56) (o19_423 l2 u2 e_44 (le_min a2) (le_max a2) (le_min v_43) (le_max v_43)) (o19_424 l2 u2 e_44 (le_min a2) (le_max a2) (le_min v_43) (le_max v_43)) dX9_waysOfJust_66 (fun v_57 e_58 => ?_)
            refine y_c1 (n := 4) C0 (by decide) dX9_waysOfJust_67 (fun v_59 e_60 => ?_)
            refine y_add C0 (o19_425 l2 u2 e_44 e_58 e_60 (le_min v_57) (le_max v_57) (le_min v_59) (le_max v_59) (le_min a2) (le_max a2) (le_min v_43) (le_max v_43)) (o19_426 l2 u2 e_44 e_58 e_60 (le_min v_57) (le_max v_57) (le_min v_59) (le_max v_59) (le_min a2) (le_max a2) (le_min v_43) (le_max v_43)) dX9_waysOfJust_68 (fun v_61 e_62 => ?_)
            refine y_icmp_ge (tgt := 125) C0 dX9_waysOfJust_69 (by decide) (fun c_63 => ?_) (fun c_63 => ?_)
            · -- 69
              refine lv_lload C0.1 C0.2.1 dX9_waysOfJust_125 (lv_at hl 1 rfl) ?_
              rw [hQ]
              exact y_lret C0 h (Fr.tr (Fr.tr (Fr.tr (Fr.tr (Fr.mono u_7 (by decide)) (Fr.up u_15.1 hi_11 (by decide))) (Fr.up u_26.1 hi_18 (by decide))) hF_31) (Fr.mono hF_48 (by decide))) trivial dX9_waysOfJust_127
            · -- 69
              refine y_c1 (n := 0) C0 (by decide) dX9_waysOfJust_72 (fun v_64 e_65 => ?_)
              refine lv_istore (lv' := [(8, .int v_64), (7, .int x7_45), (5, .long x5_46), (0, .ref (ad 94)), (1, .int a1), (2, .int a2), (3, .int a3), (4, .int a4)]) C0.1 C0.2.1 dX9_waysOfJust_73 hl (by decide) rfl (fun ls hl => ?_)
              have lp_70 : ∀ (n_72 : Nat) (x8_66 : Int32) (x5_67 : Int64) (H : Heap) (locs : List Loc) (ls : Array Slot) (ws_68 : va_W), 41 - x8_66.toInt < (n_72 : Int) → 0 ≤ x8_66.toInt → x8_66.toInt ≤ 41 → Wt G (SC tt) ad A s H locs ws_68 → Fr (SC tt) [] ws_47 ws_68 → lv_has ls 9 [(8, .int x8_66), (7, .int x7_45), (5, .long x5_67), (0, .ref (ad 94)), (1, .int a1), (2, .int a2), (3, .int a3), (4, .int a4)] → W p l e (rmd 6 0 0) s m args below meth c H locs 0 0 Q (F0 m 75 ls []) := by
                intro n_72
                induction n_72 with
                | zero => intro x8_66 x5_67 H locs ls ws_68 hn_73 b_74 b_75 h hF_69 hl; exact ((o19_351 b_74 b_75 hn_73)).elim
                | succ n_72 ih_71 =>
                  intro x8_66 x5_67 H locs ls ws_68 hn_73 b_74 b_75 h hF_69 hl
                  refine lv_iload C0.1 C0.2.1 dX9_waysOfJust_75 (lv_at hl 0 rfl) ?_
                  refine lv_aload_n C0.1 C0.2.1 dX9_waysOfJust_77 rfl (lv_at hl 3 rfl) ?_
                  refine tg_X9_most C0 h kSC_94 q_455 dX9_waysOfJust_78 ?_
                  refine lv_iload_n C0.1 C0.2.1 dX9_waysOfJust_81 rfl (lv_at hl 6 rfl) ?_
                  refine y_c1 (n := 1) C0 (by decide) dX9_waysOfJust_82 (fun v_76 e_77 => ?_)
                  refine y_and 1 1 (n := 1) C0 (Eq.trans (o19_104 e_77) (by decide)) (by decide) (by decide) (by decide) dX9_waysOfJust_83 (fun v_78 e_79 e_80 => ?_)
                  refine y_aaldA C0 h kSC_98 rfl rfl (by decide) (o19_339 e_79 e_80) (o19_340 e_79 e_80) dX9_waysOfJust_84 ?_
                  obtain ⟨i_81, hi_81, ei_81⟩ : ∃ j : Nat, Kd (SC tt) j 36 ∧ j = 99 + 1 * v_78.toInt.toNat := ⟨_, aSC_35 (o19_341 e_79 e_80), rfl⟩
                  rw [← ei_81]
                  refine lv_iload C0.1 C0.2.1 dX9_waysOfJust_85 (lv_at hl 1 rfl) ?_
                  refine y_iald C0 h hi_81 rfl (by decide) (o19_427 l2 u2 e_44 b_53 b_54 hn_52 e_58 e_60 e_62 c_63) (o19_428 l2 u2 e_44 b_53 b_54 hn_52 e_58 e_60 e_62 c_63) dX9_waysOfJust_87 (fun v_82 e_83 e_84 e_85 => ?_)
                  refine y_icmp_gt (tgt := 119) C0 dX9_waysOfJust_88 (by decide) (fun c_86 => ?_) (fun c_86 => ?_)
                  · -- 88
                    refine y_inc (kp := 1) (n := 1) (fun v_87 => [(7, .int v_87), (8, .int x8_66), (5, .long x5_67), (0, .ref (ad 94)), (1, .int a1), (2, .int a2), (3, .int a3), (4, .int a4)]) C0 hl rfl (by decide) (by decide) (fun _ => rfl) (o19_429 l2 u2 e_44 b_53 b_54 hn_52 e_58 e_60 e_62 c_63 (le_min x7_45) (le_max x7_45) (le_min a2) (le_max a2) (le_min v_43) (le_max v_43) (le_min v_57) (le_max v_57) (le_min v_59) (le_max v_59) (le_min v_61) (le_max v_61)) (o19_430 l2 u2 e_44 b_53 b_54 hn_52 e_58 e_60 e_62 c_63 (le_min x7_45) (le_max x7_45) (le_min a2) (le_max a2) (le_min v_43) (le_max v_43) (le_min v_57) (le_max v_57) (le_min v_59) (le_max v_59) (le_min v_61) (le_max v_61)) dX9_waysOfJust_119 (fun v_87 ls e_88 hl => ?_)
                    refine lv_goto (tgt := 62) C0.1 C0.2.1 dX9_waysOfJust_122 (by decide) ?_
                    exact ih_50 v_87 x5_67 _ _ _ _ (o19_431 l2 u2 e_44 b_53 b_54 hn_52 e_58 e_60 e_62 c_63 e_88) (o19_432 l2 u2 e_44 b_53 b_54 hn_52 e_58 e_60 e_62 c_63 e_88) (o19_433 l2 u2 e_44 b_53 b_54 hn_52 e_58 e_60 e_62 c_63 e_88) h (Fr.tr hF_48 hF_69) (lv_sub hl [0, 2, 3, 4, 5, 6, 7] rfl)
                  · -- 88
                    refine lv_lload C0.1 C0.2.1 dX9_waysOfJust_91 (lv_at hl 2 rfl) ?_
                    refine lv_aload_n C0.1 C0.2.1 dX9_waysOfJust_93 rfl (lv_at hl 3 rfl) ?_
                    refine tg_X9_ways C0 h kSC_94 q_454 dX9_waysOfJust_94 ?_
                    refine lv_iload_n C0.1 C0.2.1 dX9_waysOfJust_97 rfl (lv_at hl 6 rfl) ?_
                    refine y_c1 (n := 1) C0 (by decide) dX9_waysOfJust_98 (fun v_89 e_90 => ?_)
                    refine y_and 1 1 (n := 1) C0 (Eq.trans (o19_104 e_90) (by decide)) (by decide) (by decide) (by decide) dX9_waysOfJust_99 (fun v_91 e_92 e_93 => ?_)
                    refine y_aaldA C0 h kSC_95 rfl rfl (by decide) (o19_339 e_92 e_93) (o19_340 e_92 e_93) dX9_waysOfJust_100 ?_
                    obtain ⟨i_94, hi_94, ei_94⟩ : ∃ j : Nat, Kd (SC tt) j 34 ∧ j = 96 + 1 * v_91.toInt.toNat := ⟨_, aSC_33 (o19_341 e_92 e_93), rfl⟩
                    rw [← ei_94]
                    refine lv_iload C0.1 C0.2.1 dX9_waysOfJust_101 (lv_at hl 1 rfl) ?_
                    refine y_c2 (n := 41) C0 (by decide) dX9_waysOfJust_103 (fun v_95 e_96 => ?_)
                    refine y_mulc (n := 41) C0 (o19_355 e_96) (o19_434 l2 u2 e_44 b_53 b_54 hn_52 e_58 e_60 e_62 c_63 (le_min x7_45) (le_max x7_45) (le_min a2) (le_max a2) (le_min v_43) (le_max v_43) (le_min v_57) (le_max v_57) (le_min v_59) (le_max v_59) (le_min v_61) (le_max v_61)) (o19_435 l2 u2 e_44 b_53 b_54 hn_52 e_58 e_60 e_62 c_63 (le_min x7_45) (le_max x7_45) (le_min a2) (le_max a2) (le_min v_43) (le_max v_43) (le_min v_57) (le_max v_57) (le_min v_59) (le_max v_59) (le_min v_61) (le_max v_61)) dX9_waysOfJust_105 (fun v_97 e_98 => ?_)
                    refine lv_iload C0.1 C0.2.1 dX9_waysOfJust_106 (lv_at hl 0 rfl) ?_
                    refine y_add C0 (o19_436 l2 u2 e_44 b_53 b_54 hn_52 e_58 e_60 e_62 c_63 b_74 b_75 hn_73 e_84 e_85 c_86 e_98 (le_min v_97) (le_max v_97) (le_min x8_66) (le_max x8_66) (le_min a2) (le_max a2) (le_min v_43) (le_max v_43) (le_min x7_45) (le_max x7_45) (le_min v_57) (le_max v_57) (le_min v_59) (le_max v_59) (le_min v_61) (le_max v_61) (le_min v_82) (le_max v_82)) (o19_437 l2 u2 e_44 b_53 b_54 hn_52 e_58 e_60 e_62 c_63 b_74 b_75 hn_73 e_84 e_85 c_86 e_98 (le_min v_97) (le_max v_97) (le_min x8_66) (le_max x8_66) (le_min a2) (le_max a2) (le_min v_43) (le_max v_43) (le_min x7_45) (le_max x7_45) (le_min v_57) (le_max v_57) (le_min v_59) (le_max v_59) (le_min v_61) (le_max v_61) (le_min v_82) (le_max v_82)) dX9_waysOfJust_108 (fun v_99 e_100 => ?_)
                    refine y_lald C0 h hi_94 rfl (by decide) (o19_438 l2 u2 e_44 b_53 b_54 hn_52 e_58 e_60 e_62 c_63 b_74 b_75 hn_73 e_84 e_85 c_86 e_98 e_100) (o19_439 l2 u2 e_44 b_53 b_54 hn_52 e_58 e_60 e_62 c_63 b_74 b_75 hn_73 e_84 e_85 c_86 e_98 e_100) dX9_waysOfJust_109 (fun w_101 e_102 => ?_)
                    refine y_laddU C0 dX9_waysOfJust_110 (fun w_103 => ?_)
                    refine lv_lstore (lv' := [(5, .long w_103), (8, .int x8_66), (7, .int x7_45), (0, .ref (ad 94)), (1, .int a1), (2, .int a2), (3, .int a3), (4, .int a4)]) C0.1 C0.2.1 dX9_waysOfJust_111 hl (by decide) rfl (fun ls hl => ?_)
                    refine y_inc (kp := 1) (n := 1) (fun v_104 => [(8, .int v_104), (5, .long w_103), (7, .int x7_45), (0, .ref (ad 94)), (1, .int a1), (2, .int a2), (3, .int a3), (4, .int a4)]) C0 hl rfl (by decide) (by decide) (fun _ => rfl) (o19_440 l2 u2 e_44 b_53 b_54 hn_52 e_58 e_60 e_62 c_63 b_74 b_75 hn_73 e_84 e_85 c_86 e_98 e_100 (le_min x8_66) (le_max x8_66) (le_min a2) (le_max a2) (le_min v_43) (le_max v_43) (le_min x7_45) (le_max x7_45) (le_min v_57) (le_max v_57) (le_min v_59) (le_max v_59) (le_min v_61) (le_max v_61) (le_min v_82) (le_max v_82) (le_min v_97) (le_max v_97) (le_min v_99) (le_max v_99)) (o19_441 l2 u2 e_44 b_53 b_54 hn_52 e_58 e_60 e_62 c_63 b_74 b_75 hn_73 e_84 e_85 c_86 e_98 e_100 (le_min x8_66) (le_max x8_66) (le_min a2) (le_max a2) (le_min v_43) (le_max v_43) (le_min x7_45) (le_max x7_45) (le_min v_57) (le_max v_57) (le_min v_59) (le_max v_59) (le_min v_61) (le_max v_61) (le_min v_82) (le_max v_82) (le_min v_97) (le_max v_97) (le_min v_99) (le_max v_99)) dX9_waysOfJust_113 (fun v_104 ls e_105 hl => ?_)
                    refine lv_goto (tgt := 75) C0.1 C0.2.1 dX9_waysOfJust_116 (by decide) ?_
                    exact ih_71 v_104 w_103 _ _ _ _ (o19_442 l2 u2 e_44 b_53 b_54 hn_52 e_58 e_60 e_62 c_63 b_74 b_75 hn_73 e_84 e_85 c_86 e_98 e_100 e_105) (o19_443 l2 u2 e_44 b_53 b_54 hn_52 e_58 e_60 e_62 c_63 b_74 b_75 hn_73 e_84 e_85 c_86 e_98 e_100 e_105) (o19_444 l2 u2 e_44 b_53 b_54 hn_52 e_58 e_60 e_62 c_63 b_74 b_75 hn_73 e_84 e_85 c_86 e_98 e_100 e_105) h hF_69 (lv_sub hl [0, 2, 1, 3, 4, 5, 6, 7] rfl)
              exact lp_70 ((41 - v_64.toInt + 1).toNat) v_64 x5_46 _ _ _ _ (o19_445 e_65) (o19_87 e_65) (o19_446 e_65) h Fr.rf (lv_sub hl [0, 1, 2, 3, 4, 5, 6, 7] rfl)
        exact lp_49 ((100 - v_43.toInt + 1).toNat) v_43 w_39 _ _ _ _ (o19_447 l2 u2 e_44) (o19_448 l2 u2 e_44) (o19_449 l2 u2 e_44) h Fr.rf (lv_sub hl [0, 1, 2, 3, 4, 5, 6] rfl)
      · -- 37
        refine lv_aload_n C0.1 C0.2.1 dX9_waysOfJust_40 rfl (lv_at hl 1 rfl) ?_
        refine lv_iload C0.1 C0.2.1 dX9_waysOfJust_41 (lv_at hl 0 rfl) ?_
        refine lv_iload C0.1 C0.2.1 dX9_waysOfJust_43 (lv_at hl 5 rfl) ?_
        refine y_cv h (y_rV (As := [.int x5_29, .int a4]) (rest := []) C0 hZ h (c_X9_addWays l G Z ad _ h.2 x5_29 a4 (o19_450 l3 u3 b_36 b_37 hn_35 c_38) (o19_451 l3 u3 b_36 b_37 hn_35 c_38) (o19_452 l4 u4) (o19_453 l4 u4) (Rel.fr (M := [4, 5, 18, 19, 20, 21, 34, 36]) hR (Fr.tr (Fr.tr (Fr.tr (Fr.mono u_7 (by decide)) (Fr.up u_15.1 hi_11 (by decide))) (Fr.up u_26.1 hi_18 (by decide))) hF_31) (by decide) (by decide))) k_X9_addWays q_1237 q_47 q_1235 kSC_94 rfl rfl rfl hl.1 rfl rfl (Nat.le_of_ble_eq_true rfl) dX9_waysOfJust_45 ⟨Nat.le_of_ble_eq_true rfl, Nat.le_of_ble_eq_true rfl⟩ ⟨Nat.le_of_ble_eq_true rfl, Nat.le_of_ble_eq_true rfl⟩) (fun H locs ws_106 h u_107 p_108 => ?_)
        refine y_inc (kp := 0) (n := 1) (fun v_109 => [(5, .int v_109), (0, .ref (ad 94)), (1, .int a1), (2, .int a2), (3, .int a3), (4, .int a4)]) C0 hl rfl (by decide) (by decide) (fun _ => rfl) (o19_454 l3 u3 b_36 b_37 hn_35 c_38 (le_min x5_29) (le_max x5_29) (le_min a3) (le_max a3)) (o19_455 l3 u3 b_36 b_37 hn_35 c_38 (le_min x5_29) (le_max x5_29) (le_min a3) (le_max a3)) dX9_waysOfJust_48 (fun v_109 ls e_110 hl => ?_)
        refine lv_goto (tgt := 34) C0.1 C0.2.1 dX9_waysOfJust_51 (by decide) ?_
        exact ih_33 v_109 _ _ _ _ (o19_456 l3 u3 b_36 b_37 hn_35 c_38 e_110) (o19_457 l3 u3 b_36 b_37 hn_35 c_38 e_110) (o19_458 l3 u3 b_36 b_37 hn_35 c_38 e_110) h (Fr.tr hF_31 u_107) (lv_sub hl [0, 1, 2, 3, 4, 5] rfl)
  exact lp_32 ((20 - v_27.toInt + 1).toNat) v_27 _ _ _ _ (o19_459 e_28) (o19_87 e_28) (o19_460 e_28) h Fr.rf (lv_sub hl [0, 1, 2, 3, 4, 5] rfl)
set_option maxHeartbeats 4000000 in
set_option maxRecDepth 100000 in
theorem c_X9_addCoins (l : Launch) (G : GG) (Z : RZ) (ad : Nat → Nat) (ws0 : va_W) (hT : Ty G (SC tt) ad ws0) (a1 : Int32) (a2 : Int32) (l1 : 0 ≤ a1.toInt) (u1 : a1.toInt ≤ 59) (hR : Rel ws0) : Mq l yX9_addCoins cX9_addCoins 11 none 5 G Z [.ref (ad 94), .int a1, .int a2] ws0 (PV G (SC tt) ad [4, 5, 18, 19, 20, 21, 38] ws0 (fun u => True)) := by
  refine Mq.start (by decide) (Nat.le_of_ble_eq_true rfl) ?_
  intro p e s m below meth c A ls C0 hZ h hl
  have hl : lv_has ls 11 [(0, .ref (ad 94)), (1, .int a1), (2, .int a2)] := hl
  have h : Wt G (SC tt) ad A s s.heap [] ws0 := ⟨h, hT⟩
  obtain ⟨args, hargs⟩ : ∃ z, z = ([.ref (ad 94), .int a1, .int a2] : List Value).toArray := ⟨_, rfl⟩
  rw [← hargs] at C0 ⊢
  have C0 : Cx p s m args meth c RX9 cX9_addCoins 11 none := C0
  obtain ⟨Q, hQ⟩ : ∃ z, z = MQ below ((PV G (SC tt) ad [4, 5, 18, 19, 20, 21, 38] ws0 (fun u => True)) A) args s 0 0 A := ⟨_, rfl⟩
  rw [← hQ]
  refine lv_aload_n C0.1 C0.2.1 dX9_addCoins_0 rfl (lv_at hl 0 rfl) ?_
  refine tg_X9_coins C0 h kSC_94 q_456 dX9_addCoins_1 ?_
  refine lv_iload_n C0.1 C0.2.1 dX9_addCoins_4 rfl (lv_at hl 1 rfl) ?_
  refine y_c1 (n := 1) C0 (by decide) dX9_addCoins_5 (fun v_1 e_2 => ?_)
  refine y_and 1 1 (n := 1) C0 (Eq.trans (o19_104 e_2) (by decide)) (by decide) (by decide) (by decide) dX9_addCoins_6 (fun v_3 e_4 e_5 => ?_)
  refine y_aaldA C0 h kSC_101 rfl rfl (by decide) (o19_339 e_4 e_5) (o19_340 e_4 e_5) dX9_addCoins_7 ?_
  obtain ⟨i_6, hi_6, ei_6⟩ : ∃ j : Nat, Kd (SC tt) j 38 ∧ j = 102 + 1 * v_3.toInt.toNat := ⟨_, aSC_37 (o19_341 e_4 e_5), rfl⟩
  rw [← ei_6]
  refine lv_astore_n (lv' := [(3, .ref (ad i_6)), (0, .ref (ad 94)), (1, .int a1), (2, .int a2)]) C0.1 C0.2.1 dX9_addCoins_8 rfl hl (by decide) rfl (fun ls hl => ?_)
  refine lv_aload_n C0.1 C0.2.1 dX9_addCoins_9 rfl (lv_at hl 1 rfl) ?_
  refine tg_X9_coins C0 h kSC_94 q_456 dX9_addCoins_10 ?_
  refine lv_iload_n C0.1 C0.2.1 dX9_addCoins_13 rfl (lv_at hl 2 rfl) ?_
  refine y_c1 (n := 1) C0 (by decide) dX9_addCoins_14 (fun v_7 e_8 => ?_)
  refine y_add C0 (o19_461 l1 u1 e_8 (le_min a1) (le_max a1) (le_min v_7) (le_max v_7)) (o19_462 l1 u1 e_8 (le_min a1) (le_max a1) (le_min v_7) (le_max v_7)) dX9_addCoins_15 (fun v_9 e_10 => ?_)
  refine y_c1 (n := 1) C0 (by decide) dX9_addCoins_16 (fun v_11 e_12 => ?_)
  refine y_and 1 1 (n := 1) C0 (Eq.trans (o19_104 e_12) (by decide)) (by decide) (by decide) (by decide) dX9_addCoins_17 (fun v_13 e_14 e_15 => ?_)
  refine y_aaldA C0 h kSC_101 rfl rfl (by decide) (o19_339 e_14 e_15) (o19_340 e_14 e_15) dX9_addCoins_18 ?_
  obtain ⟨i_16, hi_16, ei_16⟩ : ∃ j : Nat, Kd (SC tt) j 38 ∧ j = 102 + 1 * v_13.toInt.toNat := ⟨_, aSC_37 (o19_341 e_14 e_15), rfl⟩
  rw [← ei_16]
  refine lv_astore (lv' := [(4, .ref (ad i_16)), (3, .ref (ad i_6)), (0, .ref (ad 94)), (1, .int a1), (2, .int a2)]) C0.1 C0.2.1 dX9_addCoins_19 hl (by decide) rfl (fun ls hl => ?_)
  refine lv_aload C0.1 C0.2.1 dX9_addCoins_21 (lv_at hl 0 rfl) ?_
  refine y_c4 (n := 1073741824) C0 q_1214 (by decide) dX9_addCoins_23 (fun v_17 e_18 => ?_)
  refine y_cv h (y_rS (As := [.ref (ad i_16), .int v_17]) (rest := []) C0 hZ h (c_J7_fill_53178_38 l G Z ad _ h.2 i_16 hi_16 v_17) k_J7_fill_53178 q_611 q_1215 hl.1 rfl rfl (Nat.le_of_ble_eq_true rfl) dX9_addCoins_25 ⟨Nat.le_of_ble_eq_true rfl, Nat.le_of_ble_eq_true rfl⟩ ⟨Nat.le_of_ble_eq_true rfl, Nat.le_of_ble_eq_true rfl⟩) (fun H locs ws_19 h u_20 p_21 => ?_)
  refine y_c1 (n := 4) C0 (by decide) dX9_addCoins_28 (fun v_22 e_23 => ?_)
  refine lv_aload_n C0.1 C0.2.1 dX9_addCoins_29 rfl (lv_at hl 2 rfl) ?_
  refine tg_X9_city C0 h kSC_94 q_452 dX9_addCoins_30 ?_
  refine y_ci h (y_rV (As := []) (rest := [.int v_22]) C0 hZ h (c_X0_crossings l G Z ad _ h.2 1 kSC_1) k_X0_crossings q_918 q_919 q_1221 kSC_1 rfl rfl rfl hl.1 rfl rfl (Nat.le_of_ble_eq_true rfl) dX9_addCoins_33 ⟨Nat.le_of_ble_eq_true rfl, Nat.le_of_ble_eq_true rfl⟩ ⟨Nat.le_of_ble_eq_true rfl, Nat.le_of_ble_eq_true rfl⟩) (fun r_27 H locs ws_24 h u_25 p_26 => ?_)
  obtain ⟨e_28, e_29⟩ := p_26
  refine y_cmul (n := 4) C0 (o19_51 e_23) (o19_394 e_28 e_29 (le_min r_27) (le_max r_27)) (o19_395 e_28 e_29 (le_min r_27) (le_max r_27)) dX9_addCoins_36 (fun v_30 e_31 => ?_)
  refine lv_istore (lv' := [(5, .int v_30), (4, .ref (ad i_16)), (3, .ref (ad i_6)), (0, .ref (ad 94)), (1, .int a1), (2, .int a2)]) C0.1 C0.2.1 dX9_addCoins_37 hl (by decide) rfl (fun ls hl => ?_)
  refine y_c1 (n := 0) C0 (by decide) dX9_addCoins_39 (fun v_32 e_33 => ?_)
  refine lv_istore (lv' := [(6, .int v_32), (5, .int v_30), (4, .ref (ad i_16)), (3, .ref (ad i_6)), (0, .ref (ad 94)), (1, .int a1), (2, .int a2)]) C0.1 C0.2.1 dX9_addCoins_40 hl (by decide) rfl (fun ls hl => ?_)
  have lp_37 : ∀ (n_39 : Nat) (x6_34 : Int32) (H : Heap) (locs : List Loc) (ls : Array Slot) (ws_35 : va_W), 100 - x6_34.toInt < (n_39 : Int) → 0 ≤ x6_34.toInt → x6_34.toInt ≤ 100 → Wt G (SC tt) ad A s H locs ws_35 → Fr (SC tt) [4, 5, 18, 19, 20, 21, 38] ws_24 ws_35 → lv_has ls 11 [(6, .int x6_34), (5, .int v_30), (4, .ref (ad i_16)), (3, .ref (ad i_6)), (0, .ref (ad 94)), (1, .int a1), (2, .int a2)] → W p l e (rmd 5 0 0) s m args below meth c H locs 0 0 Q (F0 m 42 ls []) := by
    intro n_39
    induction n_39 with
    | zero => intro x6_34 H locs ls ws_35 hn_40 b_41 b_42 h hF_36 hl; exact ((o19_396 b_41 b_42 hn_40)).elim
    | succ n_39 ih_38 =>
      intro x6_34 H locs ls ws_35 hn_40 b_41 b_42 h hF_36 hl
      refine lv_iload C0.1 C0.2.1 dX9_addCoins_42 (lv_at hl 0 rfl) ?_
      refine lv_iload C0.1 C0.2.1 dX9_addCoins_44 (lv_at hl 1 rfl) ?_
      refine y_icmp_ge (tgt := 193) C0 dX9_addCoins_46 (by decide) (fun c_43 => ?_) (fun c_43 => ?_)
      · -- 46
        rw [hQ]
        exact y_vret C0 h (Fr.tr (Fr.tr (Fr.mono u_20 (by decide)) (Fr.mono u_25 (by decide))) hF_36) trivial dX9_addCoins_193
      · -- 46
        refine y_c1 (n := 0) C0 (by decide) dX9_addCoins_49 (fun v_44 e_45 => ?_)
        refine lv_istore (lv' := [(7, .int v_44), (6, .int x6_34), (5, .int v_30), (4, .ref (ad i_16)), (3, .ref (ad i_6)), (0, .ref (ad 94)), (1, .int a1), (2, .int a2)]) C0.1 C0.2.1 dX9_addCoins_50 hl (by decide) rfl (fun ls hl => ?_)
        have lp_49 : ∀ (n_51 : Nat) (x7_46 : Int32) (H : Heap) (locs : List Loc) (ls : Array Slot) (ws_47 : va_W), 4 - x7_46.toInt < (n_51 : Int) → 0 ≤ x7_46.toInt → x7_46.toInt ≤ 4 → Wt G (SC tt) ad A s H locs ws_47 → Fr (SC tt) [4, 5, 18, 19, 20, 21, 38] ws_35 ws_47 → lv_has ls 11 [(7, .int x7_46), (6, .int x6_34), (5, .int v_30), (4, .ref (ad i_16)), (3, .ref (ad i_6)), (0, .ref (ad 94)), (1, .int a1), (2, .int a2)] → W p l e (rmd 5 0 0) s m args below meth c H locs 0 0 Q (F0 m 52 ls []) := by
          intro n_51
          induction n_51 with
          | zero => intro x7_46 H locs ls ws_47 hn_52 b_53 b_54 h hF_48 hl; exact ((o19_50 b_53 b_54 hn_52)).elim
          | succ n_51 ih_50 =>
            intro x7_46 H locs ls ws_47 hn_52 b_53 b_54 h hF_48 hl
            refine lv_iload C0.1 C0.2.1 dX9_addCoins_52 (lv_at hl 0 rfl) ?_
            refine y_c1 (n := 4) C0 (by decide) dX9_addCoins_54 (fun v_55 e_56 => ?_)
            refine y_icmp_ge (tgt := 187) C0 dX9_addCoins_55 (by decide) (fun c_57 => ?_) (fun c_57 => ?_)
            · -- 55
              refine y_inc (kp := 1) (n := 1) (fun v_58 => [(6, .int v_58), (7, .int x7_46), (5, .int v_30), (4, .ref (ad i_16)), (3, .ref (ad i_6)), (0, .ref (ad 94)), (1, .int a1), (2, .int a2)]) C0 hl rfl (by decide) (by decide) (fun _ => rfl) (o19_397 e_28 e_29 e_31 b_41 b_42 hn_40 c_43 (le_min x6_34) (le_max x6_34) (le_min r_27) (le_max r_27) (le_min v_30) (le_max v_30)) (o19_398 e_28 e_29 e_31 b_41 b_42 hn_40 c_43 (le_min x6_34) (le_max x6_34) (le_min r_27) (le_max r_27) (le_min v_30) (le_max v_30)) dX9_addCoins_187 (fun v_58 ls e_59 hl => ?_)
              refine lv_goto (tgt := 42) C0.1 C0.2.1 dX9_addCoins_190 (by decide) ?_
              exact ih_38 v_58 _ _ _ _ (o19_399 e_28 e_29 e_31 b_41 b_42 hn_40 c_43 e_59) (o19_400 e_28 e_29 e_31 b_41 b_42 hn_40 c_43 e_59) (o19_401 e_28 e_29 e_31 b_41 b_42 hn_40 c_43 e_59) h (Fr.tr hF_36 hF_48) (lv_sub hl [0, 2, 3, 4, 5, 6, 7] rfl)
            · -- 55
              refine lv_aload_n C0.1 C0.2.1 dX9_addCoins_58 rfl (lv_at hl 4 rfl) ?_
              refine lv_iload C0.1 C0.2.1 dX9_addCoins_59 (lv_at hl 1 rfl) ?_
              refine y_iald C0 h hi_6 rfl (by decide) (o19_402 e_28 e_29 e_31 b_41 b_42 hn_40 c_43) (o19_403 e_28 e_29 e_31 b_41 b_42 hn_40 c_43) dX9_addCoins_61 (fun v_60 e_61 e_62 e_63 => ?_)
              refine lv_iload_n C0.1 C0.2.1 dX9_addCoins_62 rfl (lv_at hl 7 rfl) ?_
              refine y_icmp_ge (tgt := 187) C0 dX9_addCoins_63 (by decide) (fun c_64 => ?_) (fun c_64 => ?_)
              · -- 63
                refine y_inc (kp := 1) (n := 1) (fun v_65 => [(6, .int v_65), (7, .int x7_46), (5, .int v_30), (4, .ref (ad i_16)), (3, .ref (ad i_6)), (0, .ref (ad 94)), (1, .int a1), (2, .int a2)]) C0 hl rfl (by decide) (by decide) (fun _ => rfl) (o19_397 e_28 e_29 e_31 b_41 b_42 hn_40 c_43 (le_min x6_34) (le_max x6_34) (le_min r_27) (le_max r_27) (le_min v_30) (le_max v_30)) (o19_398 e_28 e_29 e_31 b_41 b_42 hn_40 c_43 (le_min x6_34) (le_max x6_34) (le_min r_27) (le_max r_27) (le_min v_30) (le_max v_30)) dX9_addCoins_187 (fun v_65 ls e_66 hl => ?_)
                refine lv_goto (tgt := 42) C0.1 C0.2.1 dX9_addCoins_190 (by decide) ?_
                exact ih_38 v_65 _ _ _ _ (o19_399 e_28 e_29 e_31 b_41 b_42 hn_40 c_43 e_66) (o19_400 e_28 e_29 e_31 b_41 b_42 hn_40 c_43 e_66) (o19_401 e_28 e_29 e_31 b_41 b_42 hn_40 c_43 e_66) h (Fr.tr hF_36 hF_48) (lv_sub hl [0, 2, 3, 4, 5, 6, 7] rfl)
              · -- 63
                refine lv_aload_n C0.1 C0.2.1 dX9_addCoins_66 rfl (lv_at hl 5 rfl) ?_
                refine tg_X9_city C0 h kSC_94 q_452 dX9_addCoins_67 ?_
                refine lv_iload C0.1 C0.2.1 dX9_addCoins_70 (lv_at hl 1 rfl) ?_
                refine lv_iload C0.1 C0.2.1 dX9_addCoins_72 (lv_at hl 0 rfl) ?_
                refine y_ci h (y_rV (As := [.int x6_34, .int x7_46]) (rest := []) C0 hZ h (c_X0_standAfter l G Z ad _ h.2 1 kSC_1 x6_34 x7_46 (o19_402 e_28 e_29 e_31 b_41 b_42 hn_40 c_43) (o19_404 e_28 e_29 e_31 b_41 b_42 hn_40 c_43) (o19_221 b_53 b_54 hn_52 e_56 c_57) (o19_234 b_53 b_54 hn_52 e_56 c_57) (Rel.fr (M := [4, 5, 18, 19, 20, 21, 38]) hR (Fr.tr (Fr.tr (Fr.tr (Fr.mono u_20 (by decide)) (Fr.mono u_25 (by decide))) hF_36) hF_48) (by decide) (by decide))) k_X0_standAfter q_1180 q_1181 q_1222 kSC_1 rfl rfl rfl hl.1 rfl rfl (Nat.le_of_ble_eq_true rfl) dX9_addCoins_74 ⟨Nat.le_of_ble_eq_true rfl, Nat.le_of_ble_eq_true rfl⟩ ⟨Nat.le_of_ble_eq_true rfl, Nat.le_of_ble_eq_true rfl⟩) (fun r_70 H locs ws_67 h u_68 p_69 => ?_)
                obtain ⟨e_71, e_72⟩ := p_69
                refine lv_istore (lv' := [(8, .int r_70), (7, .int x7_46), (6, .int x6_34), (5, .int v_30), (4, .ref (ad i_16)), (3, .ref (ad i_6)), (0, .ref (ad 94)), (1, .int a1), (2, .int a2)]) C0.1 C0.2.1 dX9_addCoins_77 hl (by decide) rfl (fun ls hl => ?_)
                refine lv_iload C0.1 C0.2.1 dX9_addCoins_79 (lv_at hl 0 rfl) ?_
                refine y_if_ge (tgt := 88) C0 dX9_addCoins_81 (by decide) (fun c_73 => ?_) (fun c_73 => ?_)
                · -- 81
                  refine lv_aload_n C0.1 C0.2.1 dX9_addCoins_88 rfl (lv_at hl 6 rfl) ?_
                  refine tg_X9_forecast C0 h kSC_94 q_453 dX9_addCoins_89 ?_
                  refine lv_iload_n C0.1 C0.2.1 dX9_addCoins_92 rfl (lv_at hl 7 rfl) ?_
                  refine lv_iload C0.1 C0.2.1 dX9_addCoins_93 (lv_at hl 2 rfl) ?_
                  refine lv_iload C0.1 C0.2.1 dX9_addCoins_95 (lv_at hl 1 rfl) ?_
                  refine y_ci h (y_rV (As := [.int a1, .int x6_34, .int x7_46]) (rest := []) C0 hZ h (c_X2_lefts l G Z ad _ h.2 a1 x6_34 x7_46 (o19_463 l1 u1 e_8 e_10) (o19_464 l1 u1 e_8 e_10) (o19_402 e_28 e_29 e_31 b_41 b_42 hn_40 c_43) (o19_404 e_28 e_29 e_31 b_41 b_42 hn_40 c_43) (o19_221 b_53 b_54 hn_52 e_56 c_57) (o19_234 b_53 b_54 hn_52 e_56 c_57)) k_X2_lefts q_1184 q_1185 q_1223 kSC_79 rfl rfl rfl hl.1 rfl rfl (Nat.le_of_ble_eq_true rfl) dX9_addCoins_97 ⟨Nat.le_of_ble_eq_true rfl, Nat.le_of_ble_eq_true rfl⟩ ⟨Nat.le_of_ble_eq_true rfl, Nat.le_of_ble_eq_true rfl⟩) (fun r_77 H locs ws_74 h u_75 p_76 => ?_)
                  obtain ⟨e_78, e_79⟩ := p_76
                  refine lv_istore (lv' := [(9, .int r_77), (8, .int r_70), (7, .int x7_46), (6, .int x6_34), (5, .int v_30), (4, .ref (ad i_16)), (3, .ref (ad i_6)), (0, .ref (ad 94)), (1, .int a1), (2, .int a2)]) C0.1 C0.2.1 dX9_addCoins_100 hl (by decide) rfl (fun ls hl => ?_)
                  refine lv_iload C0.1 C0.2.1 dX9_addCoins_102 (lv_at hl 0 rfl) ?_
                  refine y_if_le (tgt := 156) C0 dX9_addCoins_104 (by decide) (fun c_80 => ?_) (fun c_80 => ?_)
                  · -- 104
                    refine lv_iload C0.1 C0.2.1 dX9_addCoins_156 (lv_at hl 0 rfl) ?_
                    refine y_if_lt (tgt := 181) C0 dX9_addCoins_158 (by decide) (fun c_81 => ?_) (fun c_81 => ?_)
                    · -- 158
                      refine y_inc (kp := 2) (n := 1) (fun v_82 => [(7, .int v_82), (9, .int r_77), (8, .int r_70), (6, .int x6_34), (5, .int v_30), (4, .ref (ad i_16)), (3, .ref (ad i_6)), (0, .ref (ad 94)), (1, .int a1), (2, .int a2)]) C0 hl rfl (by decide) (by decide) (fun _ => rfl) (o19_223 b_53 b_54 hn_52 e_56 c_57 (le_min x7_46) (le_max x7_46) (le_min v_55) (le_max v_55)) (o19_224 b_53 b_54 hn_52 e_56 c_57 (le_min x7_46) (le_max x7_46) (le_min v_55) (le_max v_55)) dX9_addCoins_181 (fun v_82 ls e_83 hl => ?_)
                      refine lv_goto (tgt := 52) C0.1 C0.2.1 dX9_addCoins_184 (by decide) ?_
                      exact ih_50 v_82 _ _ _ _ (o19_225 b_53 b_54 hn_52 e_56 c_57 e_83) (o19_226 b_53 b_54 hn_52 e_56 c_57 e_83) (o19_227 b_53 b_54 hn_52 e_56 c_57 e_83) h (Fr.tr (Fr.tr hF_48 (Fr.mono u_68 (by decide))) (Fr.mono u_75 (by decide))) (lv_sub hl [0, 3, 4, 5, 6, 7, 8, 9] rfl)
                    · -- 158
                      refine lv_aload C0.1 C0.2.1 dX9_addCoins_161 (lv_at hl 5 rfl) ?_
                      refine lv_iload C0.1 C0.2.1 dX9_addCoins_163 (lv_at hl 1 rfl) ?_
                      refine lv_aload C0.1 C0.2.1 dX9_addCoins_165 (lv_at hl 5 rfl) ?_
                      refine lv_iload C0.1 C0.2.1 dX9_addCoins_167 (lv_at hl 1 rfl) ?_
                      refine y_iald C0 h hi_16 rfl (by decide) (o19_247 e_71 e_72 c_73) (o19_465 e_71 e_72 c_73) dX9_addCoins_169 (fun v_84 e_85 e_86 e_87 => ?_)
                      refine lv_aload_n C0.1 C0.2.1 dX9_addCoins_170 rfl (lv_at hl 6 rfl) ?_
                      refine lv_iload C0.1 C0.2.1 dX9_addCoins_171 (lv_at hl 3 rfl) ?_
                      refine y_iald C0 h hi_6 rfl (by decide) (o19_402 e_28 e_29 e_31 b_41 b_42 hn_40 c_43) (o19_403 e_28 e_29 e_31 b_41 b_42 hn_40 c_43) dX9_addCoins_173 (fun v_88 e_89 e_90 e_91 => ?_)
                      have q_92 : v_88.toInt = v_60.toInt := congrArg Int32.toInt (e_89.symm.trans (Eq.trans (Eq.trans (Fr.aI u_75 hi_6 (by decide)) (Fr.aI u_68 hi_6 (by decide))) e_61))
                      refine lv_iload C0.1 C0.2.1 dX9_addCoins_174 (lv_at hl 0 rfl) ?_
                      refine y_add C0 (o19_466 c_64 e_78 e_79 c_80 c_81 q_92 (le_min v_88) (le_max v_88) (le_min r_77) (le_max r_77) (le_min v_60) (le_max v_60) (le_min a2) (le_max a2)) (o19_467 c_64 e_78 e_79 c_80 c_81 q_92 (le_min v_88) (le_max v_88) (le_min r_77) (le_max r_77) (le_min v_60) (le_max v_60) (le_min a2) (le_max a2)) dX9_addCoins_176 (fun v_93 e_94 => ?_)
                      refine y_min C0 hl.1 q_1216 q_663 q_141 q_664 (Nat.le_of_ble_eq_true rfl) (Nat.le_of_ble_eq_true rfl) (Nat.le_of_ble_eq_true rfl) (Nat.le_of_ble_eq_true rfl) dX9_addCoins_177 (fun v_95 e_96 => ?_)
                      refine y_iast C0 h hi_16 rfl (by decide) (o19_247 e_71 e_72 c_73) (o19_465 e_71 e_72 c_73) (le_min v_95) (le_max v_95) dX9_addCoins_180 (fun H locs ws_97 h u_98 => ?_)
                      refine y_inc (kp := 2) (n := 1) (fun v_99 => [(7, .int v_99), (9, .int r_77), (8, .int r_70), (6, .int x6_34), (5, .int v_30), (4, .ref (ad i_16)), (3, .ref (ad i_6)), (0, .ref (ad 94)), (1, .int a1), (2, .int a2)]) C0 hl rfl (by decide) (by decide) (fun _ => rfl) (o19_223 b_53 b_54 hn_52 e_56 c_57 (le_min x7_46) (le_max x7_46) (le_min v_55) (le_max v_55)) (o19_224 b_53 b_54 hn_52 e_56 c_57 (le_min x7_46) (le_max x7_46) (le_min v_55) (le_max v_55)) dX9_addCoins_181 (fun v_99 ls e_100 hl => ?_)
                      refine lv_goto (tgt := 52) C0.1 C0.2.1 dX9_addCoins_184 (by decide) ?_
                      exact ih_50 v_99 _ _ _ _ (o19_225 b_53 b_54 hn_52 e_56 c_57 e_100) (o19_226 b_53 b_54 hn_52 e_56 c_57 e_100) (o19_227 b_53 b_54 hn_52 e_56 c_57 e_100) h (Fr.tr (Fr.tr (Fr.tr hF_48 (Fr.mono u_68 (by decide))) (Fr.mono u_75 (by decide))) (Fr.up u_98.1 hi_16 (by decide))) (lv_sub hl [0, 3, 4, 5, 6, 7, 8, 9] rfl)
                  · -- 104
                    refine lv_iload C0.1 C0.2.1 dX9_addCoins_107 (lv_at hl 3 rfl) ?_
                    refine y_c1 (n := 2) C0 (by decide) dX9_addCoins_109 (fun v_101 e_102 => ?_)
                    refine y_shr 2 2 (n := 4) C0 (Eq.trans (o19_90 e_102) (by decide)) (by decide) (by decide) dX9_addCoins_110 (fun v_103 e_104 => ?_)
                    refine lv_istore (lv' := [(10, .int v_103), (9, .int r_77), (8, .int r_70), (7, .int x7_46), (6, .int x6_34), (5, .int v_30), (4, .ref (ad i_16)), (3, .ref (ad i_6)), (0, .ref (ad 94)), (1, .int a1), (2, .int a2)]) C0.1 C0.2.1 dX9_addCoins_111 hl (by decide) rfl (fun ls hl => ?_)
                    refine lv_iload C0.1 C0.2.1 dX9_addCoins_113 (lv_at hl 1 rfl) ?_
                    refine lv_aload_n C0.1 C0.2.1 dX9_addCoins_115 rfl (lv_at hl 8 rfl) ?_
                    refine tg_X9_city C0 h kSC_94 q_452 dX9_addCoins_116 ?_
                    refine lv_iload C0.1 C0.2.1 dX9_addCoins_119 (lv_at hl 0 rfl) ?_
                    refine lv_aload_n C0.1 C0.2.1 dX9_addCoins_121 rfl (lv_at hl 8 rfl) ?_
                    refine tg_X9_city C0 h kSC_94 q_452 dX9_addCoins_122 ?_
                    refine tg_X0_folk C0 h kSC_1 q_250 dX9_addCoins_125 ?_
                    refine tg_X1_hours C0 h kSC_10 q_219 dX9_addCoins_128 (fun v_105 e_106 e_107 e_108 => ?_)
                    refine lv_iload_n C0.1 C0.2.1 dX9_addCoins_131 rfl (lv_at hl 9 rfl) ?_
                    refine y_iaddU C0 dX9_addCoins_132 (fun v_109 => ?_)
                    refine lv_aload_n C0.1 C0.2.1 dX9_addCoins_133 rfl (lv_at hl 8 rfl) ?_
                    refine tg_X9_city C0 h kSC_94 q_452 dX9_addCoins_134 ?_
                    refine tg_X0_folk C0 h kSC_1 q_250 dX9_addCoins_137 ?_
                    refine tg_X1_sold C0 h kSC_10 q_207 dX9_addCoins_140 ?_
                    refine lv_iload C0.1 C0.2.1 dX9_addCoins_143 (lv_at hl 0 rfl) ?_
                    refine y_iald C0 h kSC_16 rfl (by decide) (o19_468 e_28 e_29 e_31 b_41 b_42 hn_40 c_43 e_104) (o19_469 e_28 e_29 e_31 b_41 b_42 hn_40 c_43 e_104) dX9_addCoins_145 (fun v_110 e_111 e_112 e_113 => ?_)
                    refine lv_iload C0.1 C0.2.1 dX9_addCoins_146 (lv_at hl 2 rfl) ?_
                    refine y_c1 (n := 3) C0 (by decide) dX9_addCoins_148 (fun v_114 e_115 => ?_)
                    refine y_and 3 2 (n := 3) C0 (Eq.trans (o19_13 e_115) (by decide)) (by decide) (by decide) (by decide) dX9_addCoins_149 (fun v_116 e_117 e_118 => ?_)
                    refine y_ci h (y_rV (As := [.int v_103, .int v_109, .int v_110, .int v_116]) (rest := [.int r_77]) C0 hZ h (c_X0_cost l G Z ad _ h.2 1 kSC_1 v_103 v_109 v_110 v_116 (o19_468 e_28 e_29 e_31 b_41 b_42 hn_40 c_43 e_104) (o19_470 e_28 e_29 e_31 b_41 b_42 hn_40 c_43 e_104)) k_X0_cost q_927 q_928 q_1224 kSC_1 rfl rfl rfl hl.1 rfl rfl (Nat.le_of_ble_eq_true rfl) dX9_addCoins_150 ⟨Nat.le_of_ble_eq_true rfl, Nat.le_of_ble_eq_true rfl⟩ ⟨Nat.le_of_ble_eq_true rfl, Nat.le_of_ble_eq_true rfl⟩) (fun r_122 H locs ws_119 h u_120 p_121 => ?_)
                    have e_123 := p_121
                    refine y_imulU C0 dX9_addCoins_153 (fun v_124 => ?_)
                    refine lv_istore (lv' := [(9, .int v_124), (10, .int v_103), (8, .int r_70), (7, .int x7_46), (6, .int x6_34), (5, .int v_30), (4, .ref (ad i_16)), (3, .ref (ad i_6)), (0, .ref (ad 94)), (1, .int a1), (2, .int a2)]) C0.1 C0.2.1 dX9_addCoins_154 hl (by decide) rfl (fun ls hl => ?_)
                    refine lv_iload C0.1 C0.2.1 dX9_addCoins_156 (lv_at hl 0 rfl) ?_
                    refine y_if_lt (tgt := 181) C0 dX9_addCoins_158 (by decide) (fun c_125 => ?_) (fun c_125 => ?_)
                    · -- 158
                      refine y_inc (kp := 3) (n := 1) (fun v_126 => [(7, .int v_126), (9, .int v_124), (10, .int v_103), (8, .int r_70), (6, .int x6_34), (5, .int v_30), (4, .ref (ad i_16)), (3, .ref (ad i_6)), (0, .ref (ad 94)), (1, .int a1), (2, .int a2)]) C0 hl rfl (by decide) (by decide) (fun _ => rfl) (o19_223 b_53 b_54 hn_52 e_56 c_57 (le_min x7_46) (le_max x7_46) (le_min v_55) (le_max v_55)) (o19_224 b_53 b_54 hn_52 e_56 c_57 (le_min x7_46) (le_max x7_46) (le_min v_55) (le_max v_55)) dX9_addCoins_181 (fun v_126 ls e_127 hl => ?_)
                      refine lv_goto (tgt := 52) C0.1 C0.2.1 dX9_addCoins_184 (by decide) ?_
                      exact ih_50 v_126 _ _ _ _ (o19_225 b_53 b_54 hn_52 e_56 c_57 e_127) (o19_226 b_53 b_54 hn_52 e_56 c_57 e_127) (o19_227 b_53 b_54 hn_52 e_56 c_57 e_127) h (Fr.tr (Fr.tr (Fr.tr hF_48 (Fr.mono u_68 (by decide))) (Fr.mono u_75 (by decide))) (Fr.mono u_120 (by decide))) (lv_sub hl [0, 4, 5, 6, 7, 8, 9, 10] rfl)
                    · -- 158
                      refine lv_aload C0.1 C0.2.1 dX9_addCoins_161 (lv_at hl 6 rfl) ?_
                      refine lv_iload C0.1 C0.2.1 dX9_addCoins_163 (lv_at hl 2 rfl) ?_
                      refine lv_aload C0.1 C0.2.1 dX9_addCoins_165 (lv_at hl 6 rfl) ?_
                      refine lv_iload C0.1 C0.2.1 dX9_addCoins_167 (lv_at hl 2 rfl) ?_
                      refine y_iald C0 h hi_16 rfl (by decide) (o19_247 e_71 e_72 c_73) (o19_465 e_71 e_72 c_73) dX9_addCoins_169 (fun v_128 e_129 e_130 e_131 => ?_)
                      refine lv_aload_n C0.1 C0.2.1 dX9_addCoins_170 rfl (lv_at hl 7 rfl) ?_
                      refine lv_iload C0.1 C0.2.1 dX9_addCoins_171 (lv_at hl 4 rfl) ?_
                      refine y_iald C0 h hi_6 rfl (by decide) (o19_471 e_28 e_29 e_31 b_41 b_42 hn_40 c_43 e_104) (o19_472 e_28 e_29 e_31 b_41 b_42 hn_40 c_43 e_104) dX9_addCoins_173 (fun v_132 e_133 e_134 e_135 => ?_)
                      have q_136 : v_132.toInt = v_60.toInt := congrArg Int32.toInt (e_133.symm.trans (Eq.trans (Eq.trans (Fr.aI u_120 hi_6 (by decide)) (Eq.trans (Fr.aI u_75 hi_6 (by decide)) (Fr.aI u_68 hi_6 (by decide)))) e_61))
                      refine lv_iload C0.1 C0.2.1 dX9_addCoins_174 (lv_at hl 0 rfl) ?_
                      refine y_iaddU C0 dX9_addCoins_176 (fun v_137 => ?_)
                      refine y_min C0 hl.1 q_1216 q_663 q_141 q_664 (Nat.le_of_ble_eq_true rfl) (Nat.le_of_ble_eq_true rfl) (Nat.le_of_ble_eq_true rfl) (Nat.le_of_ble_eq_true rfl) dX9_addCoins_177 (fun v_138 e_139 => ?_)
                      refine y_iast C0 h hi_16 rfl (by decide) (o19_247 e_71 e_72 c_73) (o19_465 e_71 e_72 c_73) (le_min v_138) (le_max v_138) dX9_addCoins_180 (fun H locs ws_140 h u_141 => ?_)
                      refine y_inc (kp := 3) (n := 1) (fun v_142 => [(7, .int v_142), (9, .int v_124), (10, .int v_103), (8, .int r_70), (6, .int x6_34), (5, .int v_30), (4, .ref (ad i_16)), (3, .ref (ad i_6)), (0, .ref (ad 94)), (1, .int a1), (2, .int a2)]) C0 hl rfl (by decide) (by decide) (fun _ => rfl) (o19_223 b_53 b_54 hn_52 e_56 c_57 (le_min x7_46) (le_max x7_46) (le_min v_55) (le_max v_55)) (o19_224 b_53 b_54 hn_52 e_56 c_57 (le_min x7_46) (le_max x7_46) (le_min v_55) (le_max v_55)) dX9_addCoins_181 (fun v_142 ls e_143 hl => ?_)
                      refine lv_goto (tgt := 52) C0.1 C0.2.1 dX9_addCoins_184 (by decide) ?_
                      exact ih_50 v_142 _ _ _ _ (o19_225 b_53 b_54 hn_52 e_56 c_57 e_143) (o19_226 b_53 b_54 hn_52 e_56 c_57 e_143) (o19_227 b_53 b_54 hn_52 e_56 c_57 e_143) h (Fr.tr (Fr.tr (Fr.tr (Fr.tr hF_48 (Fr.mono u_68 (by decide))) (Fr.mono u_75 (by decide))) (Fr.mono u_120 (by decide))) (Fr.up u_141.1 hi_16 (by decide))) (lv_sub hl [0, 4, 5, 6, 7, 8, 9, 10] rfl)
                · -- 81
                  refine y_c1 (n := (-1)) C0 (by decide) dX9_addCoins_84 (fun v_144 e_145 => ?_)
                  refine lv_goto (tgt := 100) C0.1 C0.2.1 dX9_addCoins_85 (by decide) ?_
                  refine lv_istore (lv' := [(9, .int v_144), (8, .int r_70), (7, .int x7_46), (6, .int x6_34), (5, .int v_30), (4, .ref (ad i_16)), (3, .ref (ad i_6)), (0, .ref (ad 94)), (1, .int a1), (2, .int a2)]) C0.1 C0.2.1 dX9_addCoins_100 hl (by decide) rfl (fun ls hl => ?_)
                  refine lv_iload C0.1 C0.2.1 dX9_addCoins_102 (lv_at hl 0 rfl) ?_
                  refine y_if_le (tgt := 156) C0 dX9_addCoins_104 (by decide) (fun c_146 => ?_) (fun c_146 => ((o19_473 e_145 c_146)).elim)
                  refine lv_iload C0.1 C0.2.1 dX9_addCoins_156 (lv_at hl 0 rfl) ?_
                  refine y_if_lt (tgt := 181) C0 dX9_addCoins_158 (by decide) (fun c_147 => ?_) (fun c_147 => ((o19_474 e_145 c_146 c_147)).elim)
                  refine y_inc (kp := 2) (n := 1) (fun v_148 => [(7, .int v_148), (9, .int v_144), (8, .int r_70), (6, .int x6_34), (5, .int v_30), (4, .ref (ad i_16)), (3, .ref (ad i_6)), (0, .ref (ad 94)), (1, .int a1), (2, .int a2)]) C0 hl rfl (by decide) (by decide) (fun _ => rfl) (o19_223 b_53 b_54 hn_52 e_56 c_57 (le_min x7_46) (le_max x7_46) (le_min v_55) (le_max v_55)) (o19_224 b_53 b_54 hn_52 e_56 c_57 (le_min x7_46) (le_max x7_46) (le_min v_55) (le_max v_55)) dX9_addCoins_181 (fun v_148 ls e_149 hl => ?_)
                  refine lv_goto (tgt := 52) C0.1 C0.2.1 dX9_addCoins_184 (by decide) ?_
                  exact ih_50 v_148 _ _ _ _ (o19_225 b_53 b_54 hn_52 e_56 c_57 e_149) (o19_226 b_53 b_54 hn_52 e_56 c_57 e_149) (o19_227 b_53 b_54 hn_52 e_56 c_57 e_149) h (Fr.tr hF_48 (Fr.mono u_68 (by decide))) (lv_sub hl [0, 3, 4, 5, 6, 7, 8, 9] rfl)
        exact lp_49 ((4 - v_44.toInt + 1).toNat) v_44 _ _ _ _ (o19_86 e_45) (o19_87 e_45) (o19_88 e_45) h Fr.rf (lv_sub hl [0, 1, 2, 3, 4, 5, 6, 7] rfl)
  exact lp_37 ((100 - v_32.toInt + 1).toNat) v_32 _ _ _ _ (o19_412 e_33) (o19_87 e_33) (o19_413 e_33) h Fr.rf (lv_sub hl [0, 1, 2, 3, 4, 5, 6] rfl)
set_option maxHeartbeats 4000000 in
set_option maxRecDepth 100000 in
theorem c_X9_leastCoins (l : Launch) (G : GG) (Z : RZ) (ad : Nat → Nat) (ws0 : va_W) (hT : Ty G (SC tt) ad ws0) (a1 : Int32) (a2 : Int32) (a3 : Int32) (l1 : 0 ≤ a1.toInt) (u1 : a1.toInt ≤ 99) (l2 : 0 ≤ a2.toInt) (u2 : a2.toInt ≤ 24) (l3 : 0 ≤ a3.toInt) (u3 : a3.toInt ≤ 60) (hR : Rel ws0) : Mq l yX9_leastCoins cX9_leastCoins 7 (some .int) 6 G Z [.ref (ad 94), .int a1, .int a2, .int a3] ws0 (PI G (SC tt) ad [4, 5, 18, 19, 20, 21, 38] ws0 (fun r u => (r.toInt ≤ 1073741823))) := by
  refine Mq.start (by decide) (Nat.le_of_ble_eq_true rfl) ?_
  intro p e s m below meth c A ls C0 hZ h hl
  have hl : lv_has ls 7 [(0, .ref (ad 94)), (1, .int a1), (2, .int a2), (3, .int a3)] := hl
  have h : Wt G (SC tt) ad A s s.heap [] ws0 := ⟨h, hT⟩
  obtain ⟨args, hargs⟩ : ∃ z, z = ([.ref (ad 94), .int a1, .int a2, .int a3] : List Value).toArray := ⟨_, rfl⟩
  rw [← hargs] at C0 ⊢
  have C0 : Cx p s m args meth c RX9 cX9_leastCoins 7 (some .int) := C0
  obtain ⟨Q, hQ⟩ : ∃ z, z = MQ below ((PI G (SC tt) ad [4, 5, 18, 19, 20, 21, 38] ws0 (fun r u => (r.toInt ≤ 1073741823))) A) args s 0 0 A := ⟨_, rfl⟩
  rw [← hQ]
  refine lv_aload_n C0.1 C0.2.1 dX9_leastCoins_0 rfl (lv_at hl 0 rfl) ?_
  refine tg_X9_coins C0 h kSC_94 q_456 dX9_leastCoins_1 ?_
  refine y_c1 (n := 0) C0 (by decide) dX9_leastCoins_4 (fun v_1 e_2 => ?_)
  refine y_aaldA C0 h kSC_101 rfl rfl (by decide) (o19_87 e_2) (o19_414 e_2) dX9_leastCoins_5 ?_
  obtain ⟨i_3, hi_3, ei_3⟩ : ∃ j : Nat, Kd (SC tt) j 38 ∧ j = 102 + 1 * v_1.toInt.toNat := ⟨_, aSC_37 (o19_415 e_2), rfl⟩
  rw [← ei_3]
  refine y_c4 (n := 1073741824) C0 q_1214 (by decide) dX9_leastCoins_6 (fun v_4 e_5 => ?_)
  refine y_cv h (y_rS (As := [.ref (ad i_3), .int v_4]) (rest := []) C0 hZ h (c_J7_fill_53178_38 l G Z ad _ h.2 i_3 hi_3 v_4) k_J7_fill_53178 q_611 q_1215 hl.1 rfl rfl (Nat.le_of_ble_eq_true rfl) dX9_leastCoins_8 ⟨Nat.le_of_ble_eq_true rfl, Nat.le_of_ble_eq_true rfl⟩ ⟨Nat.le_of_ble_eq_true rfl, Nat.le_of_ble_eq_true rfl⟩) (fun H locs ws_6 h u_7 p_8 => ?_)
  refine lv_aload_n C0.1 C0.2.1 dX9_leastCoins_11 rfl (lv_at hl 0 rfl) ?_
  refine tg_X9_coins C0 h kSC_94 q_456 dX9_leastCoins_12 ?_
  refine y_c1 (n := 0) C0 (by decide) dX9_leastCoins_15 (fun v_9 e_10 => ?_)
  refine y_aaldA C0 h kSC_101 rfl rfl (by decide) (o19_87 e_10) (o19_414 e_10) dX9_leastCoins_16 ?_
  obtain ⟨i_11, hi_11, ei_11⟩ : ∃ j : Nat, Kd (SC tt) j 38 ∧ j = 102 + 1 * v_9.toInt.toNat := ⟨_, aSC_37 (o19_415 e_10), rfl⟩
  rw [← ei_11]
  refine lv_iload_n C0.1 C0.2.1 dX9_leastCoins_17 rfl (lv_at hl 1 rfl) ?_
  refine y_c1 (n := 0) C0 (by decide) dX9_leastCoins_18 (fun v_12 e_13 => ?_)
  refine y_iast C0 h hi_11 rfl (by decide) (o19_3 l1 u1) (o19_346 l1 u1) (le_min v_12) (le_max v_12) dX9_leastCoins_19 (fun H locs ws_14 h u_15 => ?_)
  refine y_c4 (n := 1073741824) C0 q_1214 (by decide) dX9_leastCoins_20 (fun v_16 e_17 => ?_)
  refine lv_istore (lv' := [(4, .int v_16), (0, .ref (ad 94)), (1, .int a1), (2, .int a2), (3, .int a3)]) C0.1 C0.2.1 dX9_leastCoins_22 hl (by decide) rfl (fun ls hl => ?_)
  refine y_c1 (n := 0) C0 (by decide) dX9_leastCoins_24 (fun v_18 e_19 => ?_)
  refine lv_istore (lv' := [(5, .int v_18), (4, .int v_16), (0, .ref (ad 94)), (1, .int a1), (2, .int a2), (3, .int a3)]) C0.1 C0.2.1 dX9_leastCoins_25 hl (by decide) rfl (fun ls hl => ?_)
  have lp_24 : ∀ (n_26 : Nat) (x5_20 : Int32) (x4_21 : Int32) (H : Heap) (locs : List Loc) (ls : Array Slot) (ws_22 : va_W), 61 - x5_20.toInt < (n_26 : Int) → 0 ≤ x5_20.toInt → x5_20.toInt ≤ 61 → x4_21.toInt ≤ 1073741824 → Wt G (SC tt) ad A s H locs ws_22 → Fr (SC tt) [4, 5, 18, 19, 20, 21, 38] ws_14 ws_22 → lv_has ls 7 [(5, .int x5_20), (4, .int x4_21), (0, .ref (ad 94)), (1, .int a1), (2, .int a2), (3, .int a3)] → W p l e (rmd 6 0 0) s m args below meth c H locs 0 0 Q (F0 m 27 ls []) := by
    intro n_26
    induction n_26 with
    | zero => intro x5_20 x4_21 H locs ls ws_22 hn_27 b_28 b_29 b_30 h hF_23 hl; exact ((o19_475 b_28 b_29 hn_27)).elim
    | succ n_26 ih_25 =>
      intro x5_20 x4_21 H locs ls ws_22 hn_27 b_28 b_29 b_30 h hF_23 hl
      refine lv_iload C0.1 C0.2.1 dX9_leastCoins_27 (lv_at hl 0 rfl) ?_
      refine lv_iload_n C0.1 C0.2.1 dX9_leastCoins_29 rfl (lv_at hl 5 rfl) ?_
      refine y_icmp_gt (tgt := 98) C0 dX9_leastCoins_30 (by decide) (fun c_31 => ?_) (fun c_31 => ?_)
      · -- 30
        refine lv_iload C0.1 C0.2.1 dX9_leastCoins_98 (lv_at hl 1 rfl) ?_
        refine y_c4 (n := 1073741824) C0 q_1214 (by decide) dX9_leastCoins_100 (fun v_32 e_33 => ?_)
        refine y_icmp_ge (tgt := 110) C0 dX9_leastCoins_102 (by decide) (fun c_34 => ?_) (fun c_34 => ?_)
        · -- 102
          refine y_c1 (n := (-1)) C0 (by decide) dX9_leastCoins_110 (fun v_35 e_36 => ?_)
          rw [hQ]
          exact y_iret C0 h (Fr.tr (Fr.tr (Fr.mono u_7 (by decide)) (Fr.up u_15.1 hi_11 (by decide))) hF_23) (o19_476 e_36) dX9_leastCoins_111
        · -- 102
          refine lv_iload C0.1 C0.2.1 dX9_leastCoins_105 (lv_at hl 1 rfl) ?_
          refine lv_goto (tgt := 111) C0.1 C0.2.1 dX9_leastCoins_107 (by decide) ?_
          rw [hQ]
          exact y_iret C0 h (Fr.tr (Fr.tr (Fr.mono u_7 (by decide)) (Fr.up u_15.1 hi_11 (by decide))) hF_23) (o19_477 b_30 e_33 c_34) dX9_leastCoins_111
      · -- 30
        refine lv_iload C0.1 C0.2.1 dX9_leastCoins_33 (lv_at hl 1 rfl) ?_
        refine y_if_le (tgt := 98) C0 dX9_leastCoins_35 (by decide) (fun c_37 => ?_) (fun c_37 => ?_)
        · -- 35
          refine lv_iload C0.1 C0.2.1 dX9_leastCoins_98 (lv_at hl 1 rfl) ?_
          refine y_c4 (n := 1073741824) C0 q_1214 (by decide) dX9_leastCoins_100 (fun v_38 e_39 => ?_)
          refine y_icmp_ge (tgt := 110) C0 dX9_leastCoins_102 (by decide) (fun c_40 => ((o19_478 b_30 c_37 e_39 c_40)).elim) (fun c_40 => ?_)
          refine lv_iload C0.1 C0.2.1 dX9_leastCoins_105 (lv_at hl 1 rfl) ?_
          refine lv_goto (tgt := 111) C0.1 C0.2.1 dX9_leastCoins_107 (by decide) ?_
          rw [hQ]
          exact y_iret C0 h (Fr.tr (Fr.tr (Fr.mono u_7 (by decide)) (Fr.up u_15.1 hi_11 (by decide))) hF_23) (o19_479 b_30 c_37 e_39 c_40) dX9_leastCoins_111
        · -- 35
          refine y_c1 (n := 4) C0 (by decide) dX9_leastCoins_38 (fun v_41 e_42 => ?_)
          refine lv_iload_n C0.1 C0.2.1 dX9_leastCoins_39 rfl (lv_at hl 4 rfl) ?_
          refine y_cmul (n := 4) C0 (o19_51 e_42) (o19_421 l2 u2 (le_min a2) (le_max a2)) (o19_422 l2 u2 (le_min a2) (le_max a2)) dX9_leastCoins_40 (fun v_43 e_44 => ?_)
          refine lv_istore (lv' := [(6, .int v_43), (5, .int x5_20), (4, .int x4_21), (0, .ref (ad 94)), (1, .int a1), (2, .int a2), (3, .int a3)]) C0.1 C0.2.1 dX9_leastCoins_41 hl (by decide) rfl (fun ls hl => ?_)
          have lp_49 : ∀ (n_51 : Nat) (x6_45 : Int32) (x4_46 : Int32) (H : Heap) (locs : List Loc) (ls : Array Slot) (ws_47 : va_W), 100 - x6_45.toInt < (n_51 : Int) → 0 ≤ x6_45.toInt → x6_45.toInt ≤ 100 → x4_46.toInt ≤ 1073741824 → Wt G (SC tt) ad A s H locs ws_47 → Fr (SC tt) [] ws_22 ws_47 → lv_has ls 7 [(6, .int x6_45), (5, .int x5_20), (4, .int x4_46), (0, .ref (ad 94)), (1, .int a1), (2, .int a2), (3, .int a3)] → W p l e (rmd 6 0 0) s m args below meth c H locs 0 0 Q (F0 m 43 ls []) := by
            intro n_51
            induction n_51 with
            | zero => intro x6_45 x4_46 H locs ls ws_47 hn_52 b_53 b_54 b_55 h hF_48 hl; exact ((o19_396 b_53 b_54 hn_52)).elim
            | succ n_51 ih_50 =>
              intro x6_45 x4_46 H locs ls ws_47 hn_52 b_53 b_54 b_55 h hF_48 hl
              refine lv_iload C0.1 C0.2.1 dX9_leastCoins_43 (lv_at hl 0 rfl) ?_
              refine y_c1 (n := 4) C0 (by decide) dX9_leastCoins_45 (fun v_56 e_57 => ?_)
              refine lv_iload_n C0.1 C0.2.1 dX9_leastCoins_46 rfl (lv_at hl 5 rfl) ?_
              refine y_cmul (n := 4) C0 (o19_51 e_57) (o19_423 l2 u2 e_44 (le_min a2) (le_max a2) (le_min v_43) (le_max v_43)) (o19_424 l2 u2 e_44 (le_min a2) (le_max a2) (le_min v_43) (le_max v_43)) dX9_leastCoins_47 (fun v_58 e_59 => ?_)
              refine y_c1 (n := 4) C0 (by decide) dX9_leastCoins_48 (fun v_60 e_61 => ?_)
              refine y_add C0 (o19_425 l2 u2 e_44 e_59 e_61 (le_min v_58) (le_max v_58) (le_min v_60) (le_max v_60) (le_min a2) (le_max a2) (le_min v_43) (le_max v_43)) (o19_426 l2 u2 e_44 e_59 e_61 (le_min v_58) (le_max v_58) (le_min v_60) (le_max v_60) (le_min a2) (le_max a2) (le_min v_43) (le_max v_43)) dX9_leastCoins_49 (fun v_62 e_63 => ?_)
              refine y_icmp_ge (tgt := 78) C0 dX9_leastCoins_50 (by decide) (fun c_64 => ?_) (fun c_64 => ?_)
              · -- 50
                refine lv_iload C0.1 C0.2.1 dX9_leastCoins_78 (lv_at hl 1 rfl) ?_
                refine lv_iload_n C0.1 C0.2.1 dX9_leastCoins_80 rfl (lv_at hl 6 rfl) ?_
                refine y_icmp_ge (tgt := 92) C0 dX9_leastCoins_81 (by decide) (fun c_65 => ?_) (fun c_65 => ?_)
                · -- 81
                  refine y_inc (kp := 1) (n := 1) (fun v_66 => [(5, .int v_66), (6, .int x6_45), (4, .int x4_46), (0, .ref (ad 94)), (1, .int a1), (2, .int a2), (3, .int a3)]) C0 hl rfl (by decide) (by decide) (fun _ => rfl) (o19_480 l3 u3 b_28 b_29 hn_27 c_31 c_65 (le_min x5_20) (le_max x5_20) (le_min a3) (le_max a3)) (o19_481 l3 u3 b_28 b_29 hn_27 c_31 c_65 (le_min x5_20) (le_max x5_20) (le_min a3) (le_max a3)) dX9_leastCoins_92 (fun v_66 ls e_67 hl => ?_)
                  refine lv_goto (tgt := 27) C0.1 C0.2.1 dX9_leastCoins_95 (by decide) ?_
                  exact ih_25 v_66 x4_46 _ _ _ _ (o19_482 l3 u3 b_28 b_29 hn_27 c_31 c_65 e_67) (o19_483 l3 u3 b_28 b_29 hn_27 c_31 c_65 e_67) (o19_484 l3 u3 b_28 b_29 hn_27 c_31 c_65 e_67) (o19_485 b_55) h (Fr.tr hF_23 (Fr.mono hF_48 (by decide))) (lv_sub hl [0, 2, 3, 4, 5, 6] rfl)
                · -- 81
                  refine lv_aload_n C0.1 C0.2.1 dX9_leastCoins_84 rfl (lv_at hl 3 rfl) ?_
                  refine lv_iload C0.1 C0.2.1 dX9_leastCoins_85 (lv_at hl 1 rfl) ?_
                  refine lv_iload C0.1 C0.2.1 dX9_leastCoins_87 (lv_at hl 2 rfl) ?_
                  refine y_cv h (y_rV (As := [.int x5_20, .int x4_46]) (rest := []) C0 hZ h (c_X9_addCoins l G Z ad _ h.2 x5_20 x4_46 (o19_486 l3 u3 b_28 b_29 hn_27 c_31 c_65) (o19_487 l3 u3 b_28 b_29 hn_27 c_31 c_65) (Rel.fr (M := [4, 5, 18, 19, 20, 21, 38]) hR (Fr.tr (Fr.tr (Fr.tr (Fr.mono u_7 (by decide)) (Fr.up u_15.1 hi_11 (by decide))) hF_23) (Fr.mono hF_48 (by decide))) (by decide) (by decide))) k_X9_addCoins q_1219 q_46 q_1217 kSC_94 rfl rfl rfl hl.1 rfl rfl (Nat.le_of_ble_eq_true rfl) dX9_leastCoins_89 ⟨Nat.le_of_ble_eq_true rfl, Nat.le_of_ble_eq_true rfl⟩ ⟨Nat.le_of_ble_eq_true rfl, Nat.le_of_ble_eq_true rfl⟩) (fun H locs ws_68 h u_69 p_70 => ?_)
                  refine y_inc (kp := 1) (n := 1) (fun v_71 => [(5, .int v_71), (6, .int x6_45), (4, .int x4_46), (0, .ref (ad 94)), (1, .int a1), (2, .int a2), (3, .int a3)]) C0 hl rfl (by decide) (by decide) (fun _ => rfl) (o19_488 l3 u3 b_28 b_29 hn_27 c_31 c_65 (le_min x5_20) (le_max x5_20) (le_min a3) (le_max a3)) (o19_489 l3 u3 b_28 b_29 hn_27 c_31 c_65 (le_min x5_20) (le_max x5_20) (le_min a3) (le_max a3)) dX9_leastCoins_92 (fun v_71 ls e_72 hl => ?_)
                  refine lv_goto (tgt := 27) C0.1 C0.2.1 dX9_leastCoins_95 (by decide) ?_
                  exact ih_25 v_71 x4_46 _ _ _ _ (o19_490 l3 u3 b_28 b_29 hn_27 c_31 c_65 e_72) (o19_491 l3 u3 b_28 b_29 hn_27 c_31 c_65 e_72) (o19_492 l3 u3 b_28 b_29 hn_27 c_31 c_65 e_72) (o19_485 b_55) h (Fr.tr (Fr.tr hF_23 (Fr.mono hF_48 (by decide))) u_69) (lv_sub hl [0, 2, 3, 4, 5, 6] rfl)
              · -- 50
                refine lv_iload C0.1 C0.2.1 dX9_leastCoins_53 (lv_at hl 2 rfl) ?_
                refine lv_aload_n C0.1 C0.2.1 dX9_leastCoins_55 rfl (lv_at hl 3 rfl) ?_
                refine tg_X9_coins C0 h kSC_94 q_456 dX9_leastCoins_56 ?_
                refine lv_iload C0.1 C0.2.1 dX9_leastCoins_59 (lv_at hl 1 rfl) ?_
                refine y_c1 (n := 1) C0 (by decide) dX9_leastCoins_61 (fun v_73 e_74 => ?_)
                refine y_and 1 1 (n := 1) C0 (Eq.trans (o19_104 e_74) (by decide)) (by decide) (by decide) (by decide) dX9_leastCoins_62 (fun v_75 e_76 e_77 => ?_)
                refine y_aaldA C0 h kSC_101 rfl rfl (by decide) (o19_339 e_76 e_77) (o19_340 e_76 e_77) dX9_leastCoins_63 ?_
                obtain ⟨i_78, hi_78, ei_78⟩ : ∃ j : Nat, Kd (SC tt) j 38 ∧ j = 102 + 1 * v_75.toInt.toNat := ⟨_, aSC_37 (o19_341 e_76 e_77), rfl⟩
                rw [← ei_78]
                refine lv_iload C0.1 C0.2.1 dX9_leastCoins_64 (lv_at hl 0 rfl) ?_
                refine y_iald C0 h hi_78 rfl (by decide) (o19_427 l2 u2 e_44 b_53 b_54 hn_52 e_59 e_61 e_63 c_64) (o19_428 l2 u2 e_44 b_53 b_54 hn_52 e_59 e_61 e_63 c_64) dX9_leastCoins_66 (fun v_79 e_80 e_81 e_82 => ?_)
                refine y_min C0 hl.1 q_1216 q_663 q_141 q_664 (Nat.le_of_ble_eq_true rfl) (Nat.le_of_ble_eq_true rfl) (Nat.le_of_ble_eq_true rfl) (Nat.le_of_ble_eq_true rfl) dX9_leastCoins_67 (fun v_83 e_84 => ?_)
                refine lv_istore (lv' := [(4, .int v_83), (6, .int x6_45), (5, .int x5_20), (0, .ref (ad 94)), (1, .int a1), (2, .int a2), (3, .int a3)]) C0.1 C0.2.1 dX9_leastCoins_70 hl (by decide) rfl (fun ls hl => ?_)
                refine y_inc (kp := 1) (n := 1) (fun v_85 => [(6, .int v_85), (4, .int v_83), (5, .int x5_20), (0, .ref (ad 94)), (1, .int a1), (2, .int a2), (3, .int a3)]) C0 hl rfl (by decide) (by decide) (fun _ => rfl) (o19_429 l2 u2 e_44 b_53 b_54 hn_52 e_59 e_61 e_63 c_64 (le_min x6_45) (le_max x6_45) (le_min a2) (le_max a2) (le_min v_43) (le_max v_43) (le_min v_58) (le_max v_58) (le_min v_60) (le_max v_60) (le_min v_62) (le_max v_62)) (o19_430 l2 u2 e_44 b_53 b_54 hn_52 e_59 e_61 e_63 c_64 (le_min x6_45) (le_max x6_45) (le_min a2) (le_max a2) (le_min v_43) (le_max v_43) (le_min v_58) (le_max v_58) (le_min v_60) (le_max v_60) (le_min v_62) (le_max v_62)) dX9_leastCoins_72 (fun v_85 ls e_86 hl => ?_)
                refine lv_goto (tgt := 43) C0.1 C0.2.1 dX9_leastCoins_75 (by decide) ?_
                exact ih_50 v_85 v_83 _ _ _ _ (o19_431 l2 u2 e_44 b_53 b_54 hn_52 e_59 e_61 e_63 c_64 e_86) (o19_432 l2 u2 e_44 b_53 b_54 hn_52 e_59 e_61 e_63 c_64 e_86) (o19_433 l2 u2 e_44 b_53 b_54 hn_52 e_59 e_61 e_63 c_64 e_86) (o19_493 b_55 e_84) h hF_48 (lv_sub hl [0, 2, 1, 3, 4, 5, 6] rfl)
          exact lp_49 ((100 - v_43.toInt + 1).toNat) v_43 x4_21 _ _ _ _ (o19_447 l2 u2 e_44) (o19_448 l2 u2 e_44) (o19_449 l2 u2 e_44) (o19_494 b_30 c_37) h Fr.rf (lv_sub hl [0, 1, 2, 3, 4, 5, 6] rfl)
  exact lp_24 ((61 - v_18.toInt + 1).toNat) v_18 v_16 _ _ _ _ (o19_495 e_19) (o19_87 e_19) (o19_496 e_19) (o19_497 e_17) h Fr.rf (lv_sub hl [0, 1, 2, 3, 4, 5] rfl)
set_option maxHeartbeats 4000000 in
set_option maxRecDepth 100000 in
theorem c_X3_watchGoes (l : Launch) (G : GG) (Z : RZ) (ad : Nat → Nat) (ws0 : va_W) (hT : Ty G (SC tt) ad ws0) (a1 : Int32) (a2 : Int32) (l1 : 0 ≤ a1.toInt) (u1 : a1.toInt ≤ 12396) (l2 : 0 ≤ a2.toInt) (u2 : a2.toInt ≤ 3) : Mq l yX3_watchGoes cX3_watchGoes 5 (some .int) 2 G Z [.ref (ad 104), .int a1, .int a2] ws0 (PI G (SC tt) ad [] ws0 (fun r u => True)) := by
  refine Mq.start (by decide) (Nat.le_of_ble_eq_true rfl) ?_
  intro p e s m below meth c A ls C0 hZ h hl
  have hl : lv_has ls 5 [(0, .ref (ad 104)), (1, .int a1), (2, .int a2)] := hl
  have h : Wt G (SC tt) ad A s s.heap [] ws0 := ⟨h, hT⟩
  obtain ⟨args, hargs⟩ : ∃ z, z = ([.ref (ad 104), .int a1, .int a2] : List Value).toArray := ⟨_, rfl⟩
  rw [← hargs] at C0 ⊢
  have C0 : Cx p s m args meth c RX3 cX3_watchGoes 5 (some .int) := C0
  obtain ⟨Q, hQ⟩ : ∃ z, z = MQ below ((PI G (SC tt) ad [] ws0 (fun r u => True)) A) args s 0 0 A := ⟨_, rfl⟩
  rw [← hQ]
  refine lv_iload_n C0.1 C0.2.1 dX3_watchGoes_0 rfl (lv_at hl 2 rfl) ?_
  refine y_c1 (n := 1) C0 (by decide) dX3_watchGoes_1 (fun v_1 e_2 => ?_)
  refine y_add C0 (o19_498 l2 u2 e_2 (le_min a2) (le_max a2) (le_min v_1) (le_max v_1)) (o19_499 l2 u2 e_2 (le_min a2) (le_max a2) (le_min v_1) (le_max v_1)) dX3_watchGoes_2 (fun v_3 e_4 => ?_)
  refine y_c1 (n := 3) C0 (by decide) dX3_watchGoes_3 (fun v_5 e_6 => ?_)
  refine y_and 3 2 (n := 3) C0 (Eq.trans (o19_13 e_6) (by decide)) (by decide) (by decide) (by decide) dX3_watchGoes_4 (fun v_7 e_8 e_9 => ?_)
  refine lv_istore_n (lv' := [(3, .int v_7), (0, .ref (ad 104)), (1, .int a1), (2, .int a2)]) C0.1 C0.2.1 dX3_watchGoes_5 rfl hl (by decide) rfl (fun ls hl => ?_)
  refine lv_aload_n C0.1 C0.2.1 dX3_watchGoes_6 rfl (lv_at hl 1 rfl) ?_
  refine tg_X3_city C0 h kSC_104 q_475 dX3_watchGoes_7 ?_
  refine tg_X0_streets C0 h kSC_1 q_253 dX3_watchGoes_10 ?_
  refine lv_iload_n C0.1 C0.2.1 dX3_watchGoes_13 rfl (lv_at hl 3 rfl) ?_
  refine y_iald C0 h kSC_18 rfl (by decide) (o19_500 l2 u2 e_2 e_4) (o19_501 l2 u2 e_2 e_4) dX3_watchGoes_14 (fun v_10 e_11 e_12 e_13 => ?_)
  refine lv_aload_n C0.1 C0.2.1 dX3_watchGoes_15 rfl (lv_at hl 1 rfl) ?_
  refine tg_X3_city C0 h kSC_104 q_475 dX3_watchGoes_16 ?_
  refine tg_X0_streets C0 h kSC_1 q_253 dX3_watchGoes_19 ?_
  refine lv_iload_n C0.1 C0.2.1 dX3_watchGoes_22 rfl (lv_at hl 0 rfl) ?_
  refine y_iald C0 h kSC_18 rfl (by decide) (o19_337 e_8 e_9) (o19_338 e_8 e_9) dX3_watchGoes_23 (fun v_14 e_15 e_16 e_17 => ?_)
  refine y_iorU C0 dX3_watchGoes_24 (fun v_18 => ?_)
  refine y_c1 (n := (-1)) C0 (by decide) dX3_watchGoes_25 (fun v_19 e_20 => ?_)
  refine y_ixorU C0 dX3_watchGoes_26 (fun v_21 => ?_)
  refine lv_istore (lv' := [(4, .int v_21), (3, .int v_7), (0, .ref (ad 104)), (1, .int a1), (2, .int a2)]) C0.1 C0.2.1 dX3_watchGoes_27 hl (by decide) rfl (fun ls hl => ?_)
  refine lv_aload_n C0.1 C0.2.1 dX3_watchGoes_29 rfl (lv_at hl 2 rfl) ?_
  refine tg_X3_city C0 h kSC_104 q_475 dX3_watchGoes_30 ?_
  refine lv_aload_n C0.1 C0.2.1 dX3_watchGoes_33 rfl (lv_at hl 2 rfl) ?_
  refine tg_X3_catching C0 h kSC_104 q_476 dX3_watchGoes_34 ?_
  refine lv_iload_n C0.1 C0.2.1 dX3_watchGoes_37 rfl (lv_at hl 3 rfl) ?_
  refine lv_iload_n C0.1 C0.2.1 dX3_watchGoes_38 rfl (lv_at hl 4 rfl) ?_
  refine y_add C0 (o19_502 l1 u1 l2 u2 e_2 e_4 (le_min a1) (le_max a1) (le_min a2) (le_max a2) (le_min v_1) (le_max v_1) (le_min v_3) (le_max v_3)) (o19_503 l1 u1 l2 u2 e_2 e_4 (le_min a1) (le_max a1) (le_min a2) (le_max a2) (le_min v_1) (le_max v_1) (le_min v_3) (le_max v_3)) dX3_watchGoes_39 (fun v_22 e_23 => ?_)
  refine y_iald C0 h kSC_105 rfl (by decide) (o19_504 l1 u1 l2 u2 e_2 e_4 e_23) (o19_505 l1 u1 l2 u2 e_2 e_4 e_23) dX3_watchGoes_40 (fun v_24 e_25 e_26 e_27 => ?_)
  refine lv_iload_n C0.1 C0.2.1 dX3_watchGoes_41 rfl (lv_at hl 4 rfl) ?_
  refine y_ci h (y_rV (As := [.int v_24, .int a2]) (rest := []) C0 hZ h (c_X0_movedBack l G Z ad _ h.2 1 kSC_1 v_24 a2 (o19_506 l1 u1 l2 u2 e_2 e_4 e_23) (o19_507 l1 u1 l2 u2 e_2 e_4 e_23)) k_X0_movedBack q_1162 q_1163 q_1372 kSC_1 rfl rfl rfl hl.1 rfl rfl (Nat.le_of_ble_eq_true rfl) dX3_watchGoes_42 ⟨Nat.le_of_ble_eq_true rfl, Nat.le_of_ble_eq_true rfl⟩ ⟨Nat.le_of_ble_eq_true rfl, Nat.le_of_ble_eq_true rfl⟩) (fun r_31 H locs ws_28 h u_29 p_30 => ?_)
  refine lv_aload_n C0.1 C0.2.1 dX3_watchGoes_45 rfl (lv_at hl 2 rfl) ?_
  refine tg_X3_city C0 h kSC_104 q_475 dX3_watchGoes_46 ?_
  refine lv_aload_n C0.1 C0.2.1 dX3_watchGoes_49 rfl (lv_at hl 2 rfl) ?_
  refine tg_X3_catching C0 h kSC_104 q_476 dX3_watchGoes_50 ?_
  refine lv_iload_n C0.1 C0.2.1 dX3_watchGoes_53 rfl (lv_at hl 3 rfl) ?_
  refine lv_iload_n C0.1 C0.2.1 dX3_watchGoes_54 rfl (lv_at hl 1 rfl) ?_
  refine y_add C0 (o19_508 l1 u1 l2 u2 e_2 e_4 e_8 e_9 e_23 (le_min a1) (le_max a1) (le_min v_7) (le_max v_7) (le_min a2) (le_max a2) (le_min v_1) (le_max v_1) (le_min v_3) (le_max v_3) (le_min v_22) (le_max v_22)) (o19_509 l1 u1 l2 u2 e_2 e_4 e_8 e_9 e_23 (le_min a1) (le_max a1) (le_min v_7) (le_max v_7) (le_min a2) (le_max a2) (le_min v_1) (le_max v_1) (le_min v_3) (le_max v_3) (le_min v_22) (le_max v_22)) dX3_watchGoes_55 (fun v_32 e_33 => ?_)
  refine y_iald C0 h kSC_105 rfl (by decide) (o19_510 l1 u1 l2 u2 e_2 e_4 e_8 e_9 e_23 e_33) (o19_511 l1 u1 l2 u2 e_2 e_4 e_8 e_9 e_23 e_33) dX3_watchGoes_56 (fun v_34 e_35 e_36 e_37 => ?_)
  refine lv_iload_n C0.1 C0.2.1 dX3_watchGoes_57 rfl (lv_at hl 1 rfl) ?_
  refine y_ci h (y_rV (As := [.int v_34, .int v_7]) (rest := [.int r_31]) C0 hZ h (c_X0_movedBack l G Z ad _ h.2 1 kSC_1 v_34 v_7 (o19_512 l1 u1 l2 u2 e_2 e_4 e_8 e_9 e_23 e_33) (o19_513 l1 u1 l2 u2 e_2 e_4 e_8 e_9 e_23 e_33)) k_X0_movedBack q_1162 q_1163 q_1372 kSC_1 rfl rfl rfl hl.1 rfl rfl (Nat.le_of_ble_eq_true rfl) dX3_watchGoes_58 ⟨Nat.le_of_ble_eq_true rfl, Nat.le_of_ble_eq_true rfl⟩ ⟨Nat.le_of_ble_eq_true rfl, Nat.le_of_ble_eq_true rfl⟩) (fun r_41 H locs ws_38 h u_39 p_40 => ?_)
  refine y_iorU C0 dX3_watchGoes_61 (fun v_42 => ?_)
  refine lv_aload_n C0.1 C0.2.1 dX3_watchGoes_62 rfl (lv_at hl 2 rfl) ?_
  refine tg_X3_catching C0 h kSC_104 q_476 dX3_watchGoes_63 ?_
  refine lv_iload_n C0.1 C0.2.1 dX3_watchGoes_66 rfl (lv_at hl 3 rfl) ?_
  refine lv_iload_n C0.1 C0.2.1 dX3_watchGoes_67 rfl (lv_at hl 4 rfl) ?_
  refine y_add C0 (o19_514 l1 u1 l2 u2 e_2 e_4 e_8 e_9 e_23 e_33 (le_min a1) (le_max a1) (le_min a2) (le_max a2) (le_min v_1) (le_max v_1) (le_min v_3) (le_max v_3) (le_min v_7) (le_max v_7) (le_min v_22) (le_max v_22) (le_min v_32) (le_max v_32)) (o19_515 l1 u1 l2 u2 e_2 e_4 e_8 e_9 e_23 e_33 (le_min a1) (le_max a1) (le_min a2) (le_max a2) (le_min v_1) (le_max v_1) (le_min v_3) (le_max v_3) (le_min v_7) (le_max v_7) (le_min v_22) (le_max v_22) (le_min v_32) (le_max v_32)) dX3_watchGoes_68 (fun v_43 e_44 => ?_)
  refine y_iald C0 h kSC_105 rfl (by decide) (o19_516 l1 u1 l2 u2 e_2 e_4 e_8 e_9 e_23 e_33 e_44) (o19_517 l1 u1 l2 u2 e_2 e_4 e_8 e_9 e_23 e_33 e_44) dX3_watchGoes_69 (fun v_45 e_46 e_47 e_48 => ?_)
  refine lv_iload C0.1 C0.2.1 dX3_watchGoes_70 (lv_at hl 0 rfl) ?_
  refine y_iandU C0 dX3_watchGoes_72 (fun v_49 => ?_)
  refine y_iorU C0 dX3_watchGoes_73 (fun v_50 => ?_)
  rw [hQ]
  exact y_iret C0 h (Fr.tr u_29 u_39) trivial dX3_watchGoes_74
set_option maxHeartbeats 4000000 in
set_option maxRecDepth 100000 in
theorem c_X3_isLikeTheLast (l : Launch) (G : GG) (Z : RZ) (ad : Nat → Nat) (ws0 : va_W) (hT : Ty G (SC tt) ad ws0) (a1 : Int32) (l1 : 400 ≤ a1.toInt) (u1 : a1.toInt ≤ 12000) : Mq l yX3_isLikeTheLast cX3_isLikeTheLast 3 (some .boolean) 2 G Z [.ref (ad 104), .int a1] ws0 (PI G (SC tt) ad [] ws0 (fun r u => (0 ≤ r.toInt) ∧ (r.toInt ≤ 1))) := by
  refine Mq.start (by decide) (Nat.le_of_ble_eq_true rfl) ?_
  intro p e s m below meth c A ls C0 hZ h hl
  have hl : lv_has ls 3 [(0, .ref (ad 104)), (1, .int a1)] := hl
  have h : Wt G (SC tt) ad A s s.heap [] ws0 := ⟨h, hT⟩
  obtain ⟨args, hargs⟩ : ∃ z, z = ([.ref (ad 104), .int a1] : List Value).toArray := ⟨_, rfl⟩
  rw [← hargs] at C0 ⊢
  have C0 : Cx p s m args meth c RX3 cX3_isLikeTheLast 3 (some .boolean) := C0
  obtain ⟨Q, hQ⟩ : ∃ z, z = MQ below ((PI G (SC tt) ad [] ws0 (fun r u => (0 ≤ r.toInt) ∧ (r.toInt ≤ 1))) A) args s 0 0 A := ⟨_, rfl⟩
  rw [← hQ]
  refine lv_iload_n C0.1 C0.2.1 dX3_isLikeTheLast_0 rfl (lv_at hl 1 rfl) ?_
  refine lv_istore_n (lv' := [(2, .int a1), (0, .ref (ad 104)), (1, .int a1)]) C0.1 C0.2.1 dX3_isLikeTheLast_1 rfl hl (by decide) rfl (fun ls hl => ?_)
  have lp_4 : ∀ (n_6 : Nat) (x2_1 : Int32) (H : Heap) (locs : List Loc) (ls : Array Slot) (ws_2 : va_W), 12400 - x2_1.toInt < (n_6 : Int) → 400 ≤ x2_1.toInt → x2_1.toInt ≤ 12400 → Wt G (SC tt) ad A s H locs ws_2 → Fr (SC tt) [] ws0 ws_2 → lv_has ls 3 [(2, .int x2_1), (0, .ref (ad 104)), (1, .int a1)] → W p l e (rmd 2 0 0) s m args below meth c H locs 0 0 Q (F0 m 2 ls []) := by
    intro n_6
    induction n_6 with
    | zero => intro x2_1 H locs ls ws_2 hn_7 b_8 b_9 h hF_3 hl; exact ((o19_518 b_8 b_9 hn_7)).elim
    | succ n_6 ih_5 =>
      intro x2_1 H locs ls ws_2 hn_7 b_8 b_9 h hF_3 hl
      refine lv_iload_n C0.1 C0.2.1 dX3_isLikeTheLast_2 rfl (lv_at hl 0 rfl) ?_
      refine lv_iload_n C0.1 C0.2.1 dX3_isLikeTheLast_3 rfl (lv_at hl 2 rfl) ?_
      refine y_c2 (n := 16) C0 (by decide) dX3_isLikeTheLast_4 (fun v_10 e_11 => ?_)
      refine lv_aload_n C0.1 C0.2.1 dX3_isLikeTheLast_6 rfl (lv_at hl 1 rfl) ?_
      refine tg_X3_city C0 h kSC_104 q_475 dX3_isLikeTheLast_7 ?_
      refine y_ci h (y_rV (As := []) (rest := [.int v_10, .int a1, .int x2_1]) C0 hZ h (c_X0_crossings l G Z ad _ h.2 1 kSC_1) k_X0_crossings q_918 q_919 q_1367 kSC_1 rfl rfl rfl hl.1 rfl rfl (Nat.le_of_ble_eq_true rfl) dX3_isLikeTheLast_10 ⟨Nat.le_of_ble_eq_true rfl, Nat.le_of_ble_eq_true rfl⟩ ⟨Nat.le_of_ble_eq_true rfl, Nat.le_of_ble_eq_true rfl⟩) (fun r_15 H locs ws_12 h u_13 p_14 => ?_)
      obtain ⟨e_16, e_17⟩ := p_14
      refine y_cmul (n := 16) C0 (o19_519 e_11) (o19_520 e_16 e_17 (le_min r_15) (le_max r_15)) (o19_521 e_16 e_17 (le_min r_15) (le_max r_15)) dX3_isLikeTheLast_13 (fun v_18 e_19 => ?_)
      refine y_add C0 (o19_522 l1 u1 e_16 e_17 e_19 (le_min a1) (le_max a1) (le_min v_18) (le_max v_18) (le_min r_15) (le_max r_15)) (o19_523 l1 u1 e_16 e_17 e_19 (le_min a1) (le_max a1) (le_min v_18) (le_max v_18) (le_min r_15) (le_max r_15)) dX3_isLikeTheLast_14 (fun v_20 e_21 => ?_)
      refine y_icmp_ge (tgt := 45) C0 dX3_isLikeTheLast_15 (by decide) (fun c_22 => ?_) (fun c_22 => ?_)
      · -- 15
        refine y_c1 (n := 1) C0 (by decide) dX3_isLikeTheLast_45 (fun v_23 e_24 => ?_)
        rw [hQ]
        exact y_zret C0 h (o19_110 e_24) (o19_111 e_24) (Fr.tr hF_3 u_13) ⟨(o19_110 e_24), (o19_111 e_24)⟩ dX3_isLikeTheLast_46
      · -- 15
        refine lv_aload_n C0.1 C0.2.1 dX3_isLikeTheLast_18 rfl (lv_at hl 1 rfl) ?_
        refine tg_X3_catching C0 h kSC_104 q_476 dX3_isLikeTheLast_19 ?_
        refine lv_iload_n C0.1 C0.2.1 dX3_isLikeTheLast_22 rfl (lv_at hl 0 rfl) ?_
        refine y_iald C0 h kSC_105 rfl (by decide) (o19_524 l1 u1 b_8 b_9 hn_7 e_16 e_17 e_19 e_21 c_22) (o19_525 l1 u1 b_8 b_9 hn_7 e_16 e_17 e_19 e_21 c_22) dX3_isLikeTheLast_23 (fun v_25 e_26 e_27 e_28 => ?_)
        refine lv_aload_n C0.1 C0.2.1 dX3_isLikeTheLast_24 rfl (lv_at hl 1 rfl) ?_
        refine tg_X3_catching C0 h kSC_104 q_476 dX3_isLikeTheLast_25 ?_
        refine lv_iload_n C0.1 C0.2.1 dX3_isLikeTheLast_28 rfl (lv_at hl 0 rfl) ?_
        refine y_c3 (n := 400) C0 (by decide) dX3_isLikeTheLast_29 (fun v_29 e_30 => ?_)
        refine y_sub C0 (o19_526 l1 u1 b_8 b_9 hn_7 e_16 e_17 e_19 e_21 c_22 e_30 (le_min x2_1) (le_max x2_1) (le_min v_29) (le_max v_29) (le_min a1) (le_max a1) (le_min r_15) (le_max r_15) (le_min v_18) (le_max v_18) (le_min v_20) (le_max v_20)) (o19_527 l1 u1 b_8 b_9 hn_7 e_16 e_17 e_19 e_21 c_22 e_30 (le_min x2_1) (le_max x2_1) (le_min v_29) (le_max v_29) (le_min a1) (le_max a1) (le_min r_15) (le_max r_15) (le_min v_18) (le_max v_18) (le_min v_20) (le_max v_20)) dX3_isLikeTheLast_32 (fun v_31 e_32 => ?_)
        refine y_iald C0 h kSC_105 rfl (by decide) (o19_528 l1 u1 b_8 b_9 hn_7 e_16 e_17 e_19 e_21 c_22 e_30 e_32) (o19_529 l1 u1 b_8 b_9 hn_7 e_16 e_17 e_19 e_21 c_22 e_30 e_32) dX3_isLikeTheLast_33 (fun v_33 e_34 e_35 e_36 => ?_)
        refine y_icmp_eq (tgt := 39) C0 dX3_isLikeTheLast_34 (by decide) (fun c_37 => ?_) (fun c_37 => ?_)
        · -- 34
          refine y_inc (kp := 0) (n := 1) (fun v_38 => [(2, .int v_38), (0, .ref (ad 104)), (1, .int a1)]) C0 hl rfl (by decide) (by decide) (fun _ => rfl) (o19_530 l1 u1 b_8 b_9 hn_7 e_16 e_17 e_19 e_21 c_22 e_30 e_32 (le_min x2_1) (le_max x2_1) (le_min a1) (le_max a1) (le_min r_15) (le_max r_15) (le_min v_18) (le_max v_18) (le_min v_20) (le_max v_20) (le_min v_29) (le_max v_29) (le_min v_31) (le_max v_31)) (o19_531 l1 u1 b_8 b_9 hn_7 e_16 e_17 e_19 e_21 c_22 e_30 e_32 (le_min x2_1) (le_max x2_1) (le_min a1) (le_max a1) (le_min r_15) (le_max r_15) (le_min v_18) (le_max v_18) (le_min v_20) (le_max v_20) (le_min v_29) (le_max v_29) (le_min v_31) (le_max v_31)) dX3_isLikeTheLast_39 (fun v_38 ls e_39 hl => ?_)
          refine lv_goto (tgt := 2) C0.1 C0.2.1 dX3_isLikeTheLast_42 (by decide) ?_
          exact ih_5 v_38 _ _ _ _ (o19_532 l1 u1 b_8 b_9 hn_7 e_16 e_17 e_19 e_21 c_22 e_30 e_32 e_39) (o19_533 l1 u1 b_8 b_9 hn_7 e_16 e_17 e_19 e_21 c_22 e_30 e_32 e_39) (o19_534 l1 u1 b_8 b_9 hn_7 e_16 e_17 e_19 e_21 c_22 e_30 e_32 e_39) h (Fr.tr hF_3 u_13) (lv_sub hl [0, 1, 2] rfl)
        · -- 34
          refine y_c1 (n := 0) C0 (by decide) dX3_isLikeTheLast_37 (fun v_40 e_41 => ?_)
          rw [hQ]
          exact y_zret C0 h (o19_87 e_41) (o19_93 e_41) (Fr.tr hF_3 u_13) ⟨(o19_87 e_41), (o19_93 e_41)⟩ dX3_isLikeTheLast_38
  exact lp_4 ((12400 - a1.toInt + 1).toNat) a1 _ _ _ _ (o19_535 l1 u1) (o19_536 l1 u1) (o19_537 l1 u1) h Fr.rf (lv_sub hl [0, 1, 2] rfl)
set_option maxHeartbeats 4000000 in
set_option maxRecDepth 100000 in
theorem c_X3_workOut (l : Launch) (G : GG) (Z : RZ) (ad : Nat → Nat) (ws0 : va_W) (hT : Ty G (SC tt) ad ws0) (a1 : Int32) (l1 : 0 ≤ a1.toInt) (u1 : a1.toInt ≤ 30) (hR : Rel ws0) : Mq l yX3_workOut cX3_workOut 9 none 3 G Z [.ref (ad 104), .int a1] ws0 (PV G (SC tt) ad [40, 41] ws0 (fun u => True)) := by
  refine Mq.start (by decide) (Nat.le_of_ble_eq_true rfl) ?_
  intro p e s m below meth c A ls C0 hZ h hl
  have hl : lv_has ls 9 [(0, .ref (ad 104)), (1, .int a1)] := hl
  have h : Wt G (SC tt) ad A s s.heap [] ws0 := ⟨h, hT⟩
  obtain ⟨args, hargs⟩ : ∃ z, z = ([.ref (ad 104), .int a1] : List Value).toArray := ⟨_, rfl⟩
  rw [← hargs] at C0 ⊢
  have C0 : Cx p s m args meth c RX3 cX3_workOut 9 none := C0
  obtain ⟨Q, hQ⟩ : ∃ z, z = MQ below ((PV G (SC tt) ad [40, 41] ws0 (fun u => True)) A) args s 0 0 A := ⟨_, rfl⟩
  rw [← hQ]
  refine y_c1 (n := 4) C0 (by decide) dX3_workOut_0 (fun v_1 e_2 => ?_)
  refine lv_aload_n C0.1 C0.2.1 dX3_workOut_1 rfl (lv_at hl 0 rfl) ?_
  refine tg_X3_city C0 h kSC_104 q_475 dX3_workOut_2 ?_
  refine y_ci h (y_rV (As := []) (rest := [.int v_1]) C0 hZ h (c_X0_crossings l G Z ad _ h.2 1 kSC_1) k_X0_crossings q_918 q_919 q_1367 kSC_1 rfl rfl rfl hl.1 rfl rfl (Nat.le_of_ble_eq_true rfl) dX3_workOut_5 ⟨Nat.le_of_ble_eq_true rfl, Nat.le_of_ble_eq_true rfl⟩ ⟨Nat.le_of_ble_eq_true rfl, Nat.le_of_ble_eq_true rfl⟩) (fun r_6 H locs ws_3 h u_4 p_5 => ?_)
  obtain ⟨e_7, e_8⟩ := p_5
  refine y_cmul (n := 4) C0 (o19_51 e_2) (o19_394 e_7 e_8 (le_min r_6) (le_max r_6)) (o19_395 e_7 e_8 (le_min r_6) (le_max r_6)) dX3_workOut_8 (fun v_9 e_10 => ?_)
  refine lv_istore_n (lv' := [(2, .int v_9), (0, .ref (ad 104)), (1, .int a1)]) C0.1 C0.2.1 dX3_workOut_9 rfl hl (by decide) rfl (fun ls hl => ?_)
  refine y_c1 (n := 0) C0 (by decide) dX3_workOut_10 (fun v_11 e_12 => ?_)
  refine lv_istore_n (lv' := [(3, .int v_11), (2, .int v_9), (0, .ref (ad 104)), (1, .int a1)]) C0.1 C0.2.1 dX3_workOut_11 rfl hl (by decide) rfl (fun ls hl => ?_)
  have lp_16 : ∀ (n_18 : Nat) (x3_13 : Int32) (H : Heap) (locs : List Loc) (ls : Array Slot) (ws_14 : va_W), 100 - x3_13.toInt < (n_18 : Int) → 0 ≤ x3_13.toInt → x3_13.toInt ≤ 100 → Wt G (SC tt) ad A s H locs ws_14 → Fr (SC tt) [41] ws_3 ws_14 → lv_has ls 9 [(3, .int x3_13), (2, .int v_9), (0, .ref (ad 104)), (1, .int a1)] → W p l e (rmd 3 0 0) s m args below meth c H locs 0 0 Q (F0 m 12 ls []) := by
    intro n_18
    induction n_18 with
    | zero => intro x3_13 H locs ls ws_14 hn_19 b_20 b_21 h hF_15 hl; exact ((o19_396 b_20 b_21 hn_19)).elim
    | succ n_18 ih_17 =>
      intro x3_13 H locs ls ws_14 hn_19 b_20 b_21 h hF_15 hl
      refine lv_iload_n C0.1 C0.2.1 dX3_workOut_12 rfl (lv_at hl 0 rfl) ?_
      refine lv_iload_n C0.1 C0.2.1 dX3_workOut_13 rfl (lv_at hl 1 rfl) ?_
      refine y_icmp_ge (tgt := 80) C0 dX3_workOut_14 (by decide) (fun c_22 => ?_) (fun c_22 => ?_)
      · -- 14
        refine y_c1 (n := 0) C0 (by decide) dX3_workOut_80 (fun v_23 e_24 => ?_)
        refine lv_istore_n (lv' := [(3, .int v_23), (2, .int v_9), (0, .ref (ad 104)), (1, .int a1)]) C0.1 C0.2.1 dX3_workOut_81 rfl hl (by decide) rfl (fun ls hl => ?_)
        have lp_28 : ∀ (n_30 : Nat) (x3_25 : Int32) (H : Heap) (locs : List Loc) (ls : Array Slot) (ws_26 : va_W), 100 - x3_25.toInt < (n_30 : Int) → 0 ≤ x3_25.toInt → x3_25.toInt ≤ 100 → Wt G (SC tt) ad A s H locs ws_26 → Fr (SC tt) [40] ws_14 ws_26 → lv_has ls 9 [(3, .int x3_25), (2, .int v_9), (0, .ref (ad 104)), (1, .int a1)] → W p l e (rmd 3 0 0) s m args below meth c H locs 0 0 Q (F0 m 82 ls []) := by
          intro n_30
          induction n_30 with
          | zero => intro x3_25 H locs ls ws_26 hn_31 b_32 b_33 h hF_27 hl; exact ((o19_396 b_32 b_33 hn_31)).elim
          | succ n_30 ih_29 =>
            intro x3_25 H locs ls ws_26 hn_31 b_32 b_33 h hF_27 hl
            refine lv_iload_n C0.1 C0.2.1 dX3_workOut_82 rfl (lv_at hl 0 rfl) ?_
            refine lv_iload_n C0.1 C0.2.1 dX3_workOut_83 rfl (lv_at hl 1 rfl) ?_
            refine y_icmp_ge (tgt := 215) C0 dX3_workOut_84 (by decide) (fun c_34 => ?_) (fun c_34 => ?_)
            · -- 84
              rw [hQ]
              exact y_vret C0 h (Fr.tr (Fr.tr (Fr.mono u_4 (by decide)) (Fr.mono hF_15 (by decide))) (Fr.mono hF_27 (by decide))) trivial dX3_workOut_215
            · -- 84
              refine lv_aload_n C0.1 C0.2.1 dX3_workOut_87 rfl (lv_at hl 2 rfl) ?_
              refine tg_X3_city C0 h kSC_104 q_475 dX3_workOut_88 ?_
              refine lv_iload_n C0.1 C0.2.1 dX3_workOut_91 rfl (lv_at hl 0 rfl) ?_
              refine y_c1 (n := 0) C0 (by decide) dX3_workOut_92 (fun v_35 e_36 => ?_)
              refine y_ci h (y_rV (As := [.int x3_25, .int v_35]) (rest := []) C0 hZ h (c_X0_standAfter l G Z ad _ h.2 1 kSC_1 x3_25 v_35 (o19_538 e_7 e_8 e_10 b_20 b_21 hn_19 c_22 b_32 b_33 hn_31 c_34) (o19_539 e_7 e_8 e_10 b_20 b_21 hn_19 c_22 b_32 b_33 hn_31 c_34) (o19_87 e_36) (o19_540 e_36) (Rel.fr (M := [40, 41]) hR (Fr.tr (Fr.tr (Fr.mono u_4 (by decide)) (Fr.mono hF_15 (by decide))) (Fr.mono hF_27 (by decide))) (by decide) (by decide))) k_X0_standAfter q_1180 q_1181 q_1373 kSC_1 rfl rfl rfl hl.1 rfl rfl (Nat.le_of_ble_eq_true rfl) dX3_workOut_93 ⟨Nat.le_of_ble_eq_true rfl, Nat.le_of_ble_eq_true rfl⟩ ⟨Nat.le_of_ble_eq_true rfl, Nat.le_of_ble_eq_true rfl⟩) (fun r_40 H locs ws_37 h u_38 p_39 => ?_)
              obtain ⟨e_41, e_42⟩ := p_39
              refine lv_istore (lv' := [(4, .int r_40), (3, .int x3_25), (2, .int v_9), (0, .ref (ad 104)), (1, .int a1)]) C0.1 C0.2.1 dX3_workOut_96 hl (by decide) rfl (fun ls hl => ?_)
              refine lv_aload_n C0.1 C0.2.1 dX3_workOut_98 rfl (lv_at hl 3 rfl) ?_
              refine tg_X3_city C0 h kSC_104 q_475 dX3_workOut_99 ?_
              refine lv_iload_n C0.1 C0.2.1 dX3_workOut_102 rfl (lv_at hl 1 rfl) ?_
              refine y_c1 (n := 1) C0 (by decide) dX3_workOut_103 (fun v_43 e_44 => ?_)
              refine y_ci h (y_rV (As := [.int x3_25, .int v_43]) (rest := []) C0 hZ h (c_X0_standAfter l G Z ad _ h.2 1 kSC_1 x3_25 v_43 (o19_538 e_7 e_8 e_10 b_20 b_21 hn_19 c_22 b_32 b_33 hn_31 c_34) (o19_539 e_7 e_8 e_10 b_20 b_21 hn_19 c_22 b_32 b_33 hn_31 c_34) (o19_110 e_44) (o19_541 e_44) (Rel.fr (M := [40, 41]) hR (Fr.tr (Fr.tr (Fr.tr (Fr.mono u_4 (by decide)) (Fr.mono hF_15 (by decide))) (Fr.mono hF_27 (by decide))) (Fr.mono u_38 (by decide))) (by decide) (by decide))) k_X0_standAfter q_1180 q_1181 q_1373 kSC_1 rfl rfl rfl hl.1 rfl rfl (Nat.le_of_ble_eq_true rfl) dX3_workOut_104 ⟨Nat.le_of_ble_eq_true rfl, Nat.le_of_ble_eq_true rfl⟩ ⟨Nat.le_of_ble_eq_true rfl, Nat.le_of_ble_eq_true rfl⟩) (fun r_48 H locs ws_45 h u_46 p_47 => ?_)
              obtain ⟨e_49, e_50⟩ := p_47
              refine lv_istore (lv' := [(5, .int r_48), (4, .int r_40), (3, .int x3_25), (2, .int v_9), (0, .ref (ad 104)), (1, .int a1)]) C0.1 C0.2.1 dX3_workOut_107 hl (by decide) rfl (fun ls hl => ?_)
              refine lv_iload C0.1 C0.2.1 dX3_workOut_109 (lv_at hl 1 rfl) ?_
              refine y_if_lt (tgt := 119) C0 dX3_workOut_111 (by decide) (fun c_51 => ?_) (fun c_51 => ?_)
              · -- 111
                refine lv_iload C0.1 C0.2.1 dX3_workOut_119 (lv_at hl 0 rfl) ?_
                refine y_if_lt (tgt := 129) C0 dX3_workOut_121 (by decide) (fun c_52 => ?_) (fun c_52 => ?_)
                · -- 121
                  refine lv_iload_n C0.1 C0.2.1 dX3_workOut_129 rfl (lv_at hl 2 rfl) ?_
                  refine lv_istore (lv' := [(6, .int x3_25), (5, .int r_48), (4, .int r_40), (3, .int x3_25), (2, .int v_9), (0, .ref (ad 104)), (1, .int a1)]) C0.1 C0.2.1 dX3_workOut_130 hl (by decide) rfl (fun ls hl => ?_)
                  refine lv_iload C0.1 C0.2.1 dX3_workOut_132 (lv_at hl 1 rfl) ?_
                  refine y_if_lt (tgt := 142) C0 dX3_workOut_134 (by decide) (fun c_53 => ?_) (fun c_53 => ((o19_542 e_49 e_50 c_52 c_53)).elim)
                  refine lv_iload C0.1 C0.2.1 dX3_workOut_142 (lv_at hl 0 rfl) ?_
                  refine lv_istore (lv' := [(7, .int x3_25), (6, .int x3_25), (5, .int r_48), (4, .int r_40), (3, .int x3_25), (2, .int v_9), (0, .ref (ad 104)), (1, .int a1)]) C0.1 C0.2.1 dX3_workOut_144 hl (by decide) rfl (fun ls hl => ?_)
                  refine y_c1 (n := 0) C0 (by decide) dX3_workOut_146 (fun v_54 e_55 => ?_)
                  refine lv_istore (lv' := [(8, .int v_54), (7, .int x3_25), (6, .int x3_25), (5, .int r_48), (4, .int r_40), (3, .int x3_25), (2, .int v_9), (0, .ref (ad 104)), (1, .int a1)]) C0.1 C0.2.1 dX3_workOut_147 hl (by decide) rfl (fun ls hl => ?_)
                  have lp_59 : ∀ (n_61 : Nat) (x8_56 : Int32) (H : Heap) (locs : List Loc) (ls : Array Slot) (ws_57 : va_W), 4 - x8_56.toInt < (n_61 : Int) → 0 ≤ x8_56.toInt → x8_56.toInt ≤ 4 → Wt G (SC tt) ad A s H locs ws_57 → Fr (SC tt) [40] ws_45 ws_57 → lv_has ls 9 [(8, .int x8_56), (7, .int x3_25), (6, .int x3_25), (5, .int r_48), (4, .int r_40), (3, .int x3_25), (2, .int v_9), (0, .ref (ad 104)), (1, .int a1)] → W p l e (rmd 3 0 0) s m args below meth c H locs 0 0 Q (F0 m 149 ls []) := by
                    intro n_61
                    induction n_61 with
                    | zero => intro x8_56 H locs ls ws_57 hn_62 b_63 b_64 h hF_58 hl; exact ((o19_50 b_63 b_64 hn_62)).elim
                    | succ n_61 ih_60 =>
                      intro x8_56 H locs ls ws_57 hn_62 b_63 b_64 h hF_58 hl
                      refine lv_iload C0.1 C0.2.1 dX3_workOut_149 (lv_at hl 0 rfl) ?_
                      refine y_c1 (n := 4) C0 (by decide) dX3_workOut_151 (fun v_65 e_66 => ?_)
                      refine y_icmp_ge (tgt := 209) C0 dX3_workOut_152 (by decide) (fun c_67 => ?_) (fun c_67 => ?_)
                      · -- 152
                        refine y_inc (kp := 5) (n := 1) (fun v_68 => [(3, .int v_68), (8, .int x8_56), (7, .int x3_25), (6, .int x3_25), (5, .int r_48), (4, .int r_40), (2, .int v_9), (0, .ref (ad 104)), (1, .int a1)]) C0 hl rfl (by decide) (by decide) (fun _ => rfl) (o19_543 e_7 e_8 e_10 b_20 b_21 hn_19 c_22 b_32 b_33 hn_31 c_34 (le_min x3_25) (le_max x3_25) (le_min r_6) (le_max r_6) (le_min v_9) (le_max v_9) (le_min x3_13) (le_max x3_13)) (o19_544 e_7 e_8 e_10 b_20 b_21 hn_19 c_22 b_32 b_33 hn_31 c_34 (le_min x3_25) (le_max x3_25) (le_min r_6) (le_max r_6) (le_min v_9) (le_max v_9) (le_min x3_13) (le_max x3_13)) dX3_workOut_209 (fun v_68 ls e_69 hl => ?_)
                        refine lv_goto (tgt := 82) C0.1 C0.2.1 dX3_workOut_212 (by decide) ?_
                        exact ih_29 v_68 _ _ _ _ (o19_545 e_7 e_8 e_10 b_20 b_21 hn_19 c_22 b_32 b_33 hn_31 c_34 e_69) (o19_546 e_7 e_8 e_10 b_20 b_21 hn_19 c_22 b_32 b_33 hn_31 c_34 e_69) (o19_547 e_7 e_8 e_10 b_20 b_21 hn_19 c_22 b_32 b_33 hn_31 c_34 e_69) h (Fr.tr (Fr.tr (Fr.tr hF_27 (Fr.mono u_38 (by decide))) (Fr.mono u_46 (by decide))) hF_58) (lv_sub hl [0, 6, 7, 8] rfl)
                      · -- 152
                        refine lv_aload_n C0.1 C0.2.1 dX3_workOut_155 rfl (lv_at hl 7 rfl) ?_
                        refine tg_X3_catching C0 h kSC_104 q_476 dX3_workOut_156 ?_
                        refine lv_iload_n C0.1 C0.2.1 dX3_workOut_159 rfl (lv_at hl 8 rfl) ?_
                        refine y_c3 (n := 400) C0 (by decide) dX3_workOut_160 (fun v_70 e_71 => ?_)
                        refine y_mulc (n := 400) C0 (o19_548 e_71) (o19_549 l1 u1 (le_min a1) (le_max a1)) (o19_550 l1 u1 (le_min a1) (le_max a1)) dX3_workOut_163 (fun v_72 e_73 => ?_)
                        refine y_c1 (n := 4) C0 (by decide) dX3_workOut_164 (fun v_74 e_75 => ?_)
                        refine lv_iload_n C0.1 C0.2.1 dX3_workOut_165 rfl (lv_at hl 5 rfl) ?_
                        refine y_cmul (n := 4) C0 (o19_51 e_75) (o19_551 e_7 e_8 e_10 b_20 b_21 hn_19 c_22 b_32 b_33 hn_31 c_34 (le_min x3_25) (le_max x3_25) (le_min r_6) (le_max r_6) (le_min v_9) (le_max v_9) (le_min x3_13) (le_max x3_13)) (o19_552 e_7 e_8 e_10 b_20 b_21 hn_19 c_22 b_32 b_33 hn_31 c_34 (le_min x3_25) (le_max x3_25) (le_min r_6) (le_max r_6) (le_min v_9) (le_max v_9) (le_min x3_13) (le_max x3_13)) dX3_workOut_166 (fun v_76 e_77 => ?_)
                        refine y_add C0 (o19_553 l1 u1 e_7 e_8 e_10 b_20 b_21 hn_19 c_22 b_32 b_33 hn_31 c_34 e_73 e_77 (le_min v_72) (le_max v_72) (le_min v_76) (le_max v_76) (le_min a1) (le_max a1) (le_min r_6) (le_max r_6) (le_min v_9) (le_max v_9) (le_min x3_13) (le_max x3_13) (le_min x3_25) (le_max x3_25)) (o19_554 l1 u1 e_7 e_8 e_10 b_20 b_21 hn_19 c_22 b_32 b_33 hn_31 c_34 e_73 e_77 (le_min v_72) (le_max v_72) (le_min v_76) (le_max v_76) (le_min a1) (le_max a1) (le_min r_6) (le_max r_6) (le_min v_9) (le_max v_9) (le_min x3_13) (le_max x3_13) (le_min x3_25) (le_max x3_25)) dX3_workOut_167 (fun v_78 e_79 => ?_)
                        refine lv_iload C0.1 C0.2.1 dX3_workOut_168 (lv_at hl 0 rfl) ?_
                        refine y_add C0 (o19_555 l1 u1 e_7 e_8 e_10 b_20 b_21 hn_19 c_22 b_32 b_33 hn_31 c_34 b_63 b_64 hn_62 e_66 c_67 e_73 e_77 e_79 (le_min v_78) (le_max v_78) (le_min x8_56) (le_max x8_56) (le_min a1) (le_max a1) (le_min r_6) (le_max r_6) (le_min v_9) (le_max v_9) (le_min x3_13) (le_max x3_13) (le_min x3_25) (le_max x3_25) (le_min v_65) (le_max v_65) (le_min v_72) (le_max v_72) (le_min v_76) (le_max v_76)) (o19_556 l1 u1 e_7 e_8 e_10 b_20 b_21 hn_19 c_22 b_32 b_33 hn_31 c_34 b_63 b_64 hn_62 e_66 c_67 e_73 e_77 e_79 (le_min v_78) (le_max v_78) (le_min x8_56) (le_max x8_56) (le_min a1) (le_max a1) (le_min r_6) (le_max r_6) (le_min v_9) (le_max v_9) (le_min x3_13) (le_max x3_13) (le_min x3_25) (le_max x3_25) (le_min v_65) (le_max v_65) (le_min v_72) (le_max v_72) (le_min v_76) (le_max v_76)) dX3_workOut_170 (fun v_80 e_81 => ?_)
                        refine y_c1 (n := 1) C0 (by decide) dX3_workOut_171 (fun v_82 e_83 => ?_)
                        refine lv_iload_n C0.1 C0.2.1 dX3_workOut_172 rfl (lv_at hl 5 rfl) ?_
                        refine y_c1 (n := 2) C0 (by decide) dX3_workOut_173 (fun v_84 e_85 => ?_)
                        refine y_shr 2 2 (n := 4) C0 (Eq.trans (o19_90 e_85) (by decide)) (by decide) (by decide) dX3_workOut_174 (fun v_86 e_87 => ?_)
                        refine y_ishlU C0 dX3_workOut_175 (fun v_88 => ?_)
                        refine lv_aload_n C0.1 C0.2.1 dX3_workOut_176 rfl (lv_at hl 7 rfl) ?_
                        refine tg_X3_inTurn C0 h kSC_104 q_477 dX3_workOut_177 ?_
                        refine y_c1 (n := 4) C0 (by decide) dX3_workOut_180 (fun v_89 e_90 => ?_)
                        refine lv_iload C0.1 C0.2.1 dX3_workOut_181 (lv_at hl 2 rfl) ?_
                        refine y_cmul (n := 4) C0 (o19_51 e_90) (o19_557 l1 u1 e_7 e_8 e_10 b_20 b_21 hn_19 c_22 b_32 b_33 hn_31 c_34 b_63 b_64 hn_62 e_66 c_67 e_73 e_77 e_79 e_81 e_87 (le_min x3_25) (le_max x3_25) (le_min a1) (le_max a1) (le_min r_6) (le_max r_6) (le_min v_9) (le_max v_9) (le_min x3_13) (le_max x3_13) (le_min x8_56) (le_max x8_56) (le_min v_65) (le_max v_65) (le_min v_72) (le_max v_72) (le_min v_76) (le_max v_76) (le_min v_78) (le_max v_78) (le_min v_80) (le_max v_80) (le_min v_86) (le_max v_86)) (o19_558 l1 u1 e_7 e_8 e_10 b_20 b_21 hn_19 c_22 b_32 b_33 hn_31 c_34 b_63 b_64 hn_62 e_66 c_67 e_73 e_77 e_79 e_81 e_87 (le_min x3_25) (le_max x3_25) (le_min a1) (le_max a1) (le_min r_6) (le_max r_6) (le_min v_9) (le_max v_9) (le_min x3_13) (le_max x3_13) (le_min x8_56) (le_max x8_56) (le_min v_65) (le_max v_65) (le_min v_72) (le_max v_72) (le_min v_76) (le_max v_76) (le_min v_78) (le_max v_78) (le_min v_80) (le_max v_80) (le_min v_86) (le_max v_86)) dX3_workOut_183 (fun v_91 e_92 => ?_)
                        refine lv_iload C0.1 C0.2.1 dX3_workOut_184 (lv_at hl 0 rfl) ?_
                        refine y_add C0 (o19_559 l1 u1 e_7 e_8 e_10 b_20 b_21 hn_19 c_22 b_32 b_33 hn_31 c_34 b_63 b_64 hn_62 e_66 c_67 e_73 e_77 e_79 e_81 e_87 e_92 (le_min v_91) (le_max v_91) (le_min x8_56) (le_max x8_56) (le_min a1) (le_max a1) (le_min r_6) (le_max r_6) (le_min v_9) (le_max v_9) (le_min x3_13) (le_max x3_13) (le_min x3_25) (le_max x3_25) (le_min v_65) (le_max v_65) (le_min v_72) (le_max v_72) (le_min v_76) (le_max v_76) (le_min v_78) (le_max v_78) (le_min v_80) (le_max v_80) (le_min v_86) (le_max v_86)) (o19_560 l1 u1 e_7 e_8 e_10 b_20 b_21 hn_19 c_22 b_32 b_33 hn_31 c_34 b_63 b_64 hn_62 e_66 c_67 e_73 e_77 e_79 e_81 e_87 e_92 (le_min v_91) (le_max v_91) (le_min x8_56) (le_max x8_56) (le_min a1) (le_max a1) (le_min r_6) (le_max r_6) (le_min v_9) (le_max v_9) (le_min x3_13) (le_max x3_13) (le_min x3_25) (le_max x3_25) (le_min v_65) (le_max v_65) (le_min v_72) (le_max v_72) (le_min v_76) (le_max v_76) (le_min v_78) (le_max v_78) (le_min v_80) (le_max v_80) (le_min v_86) (le_max v_86)) dX3_workOut_186 (fun v_93 e_94 => ?_)
                        refine y_iald C0 h kSC_106 rfl (by decide) (o19_561 l1 u1 e_7 e_8 e_10 b_20 b_21 hn_19 c_22 b_32 b_33 hn_31 c_34 b_63 b_64 hn_62 e_66 c_67 e_73 e_77 e_79 e_81 e_87 e_92 e_94) (o19_562 l1 u1 e_7 e_8 e_10 b_20 b_21 hn_19 c_22 b_32 b_33 hn_31 c_34 b_63 b_64 hn_62 e_66 c_67 e_73 e_77 e_79 e_81 e_87 e_92 e_94) dX3_workOut_187 (fun v_95 e_96 e_97 e_98 => ?_)
                        refine lv_aload_n C0.1 C0.2.1 dX3_workOut_188 rfl (lv_at hl 7 rfl) ?_
                        refine tg_X3_inTurn C0 h kSC_104 q_477 dX3_workOut_189 ?_
                        refine y_c1 (n := 4) C0 (by decide) dX3_workOut_192 (fun v_99 e_100 => ?_)
                        refine lv_iload C0.1 C0.2.1 dX3_workOut_193 (lv_at hl 1 rfl) ?_
                        refine y_cmul (n := 4) C0 (o19_51 e_100) (o19_563 l1 u1 e_7 e_8 e_10 b_20 b_21 hn_19 c_22 b_32 b_33 hn_31 c_34 b_63 b_64 hn_62 e_66 c_67 e_73 e_77 e_79 e_81 e_87 e_92 e_94 (le_min x3_25) (le_max x3_25) (le_min a1) (le_max a1) (le_min r_6) (le_max r_6) (le_min v_9) (le_max v_9) (le_min x3_13) (le_max x3_13) (le_min x8_56) (le_max x8_56) (le_min v_65) (le_max v_65) (le_min v_72) (le_max v_72) (le_min v_76) (le_max v_76) (le_min v_78) (le_max v_78) (le_min v_80) (le_max v_80) (le_min v_86) (le_max v_86) (le_min v_91) (le_max v_91) (le_min v_93) (le_max v_93)) (o19_564 l1 u1 e_7 e_8 e_10 b_20 b_21 hn_19 c_22 b_32 b_33 hn_31 c_34 b_63 b_64 hn_62 e_66 c_67 e_73 e_77 e_79 e_81 e_87 e_92 e_94 (le_min x3_25) (le_max x3_25) (le_min a1) (le_max a1) (le_min r_6) (le_max r_6) (le_min v_9) (le_max v_9) (le_min x3_13) (le_max x3_13) (le_min x8_56) (le_max x8_56) (le_min v_65) (le_max v_65) (le_min v_72) (le_max v_72) (le_min v_76) (le_max v_76) (le_min v_78) (le_max v_78) (le_min v_80) (le_max v_80) (le_min v_86) (le_max v_86) (le_min v_91) (le_max v_91) (le_min v_93) (le_max v_93)) dX3_workOut_195 (fun v_101 e_102 => ?_)
                        refine lv_iload C0.1 C0.2.1 dX3_workOut_196 (lv_at hl 0 rfl) ?_
                        refine y_add C0 (o19_565 l1 u1 e_7 e_8 e_10 b_20 b_21 hn_19 c_22 b_32 b_33 hn_31 c_34 b_63 b_64 hn_62 e_66 c_67 e_73 e_77 e_79 e_81 e_87 e_92 e_94 e_102 (le_min v_101) (le_max v_101) (le_min x8_56) (le_max x8_56) (le_min a1) (le_max a1) (le_min r_6) (le_max r_6) (le_min v_9) (le_max v_9) (le_min x3_13) (le_max x3_13) (le_min x3_25) (le_max x3_25) (le_min v_65) (le_max v_65) (le_min v_72) (le_max v_72) (le_min v_76) (le_max v_76) (le_min v_78) (le_max v_78) (le_min v_80) (le_max v_80) (le_min v_86) (le_max v_86) (le_min v_91) (le_max v_91) (le_min v_93) (le_max v_93)) (o19_566 l1 u1 e_7 e_8 e_10 b_20 b_21 hn_19 c_22 b_32 b_33 hn_31 c_34 b_63 b_64 hn_62 e_66 c_67 e_73 e_77 e_79 e_81 e_87 e_92 e_94 e_102 (le_min v_101) (le_max v_101) (le_min x8_56) (le_max x8_56) (le_min a1) (le_max a1) (le_min r_6) (le_max r_6) (le_min v_9) (le_max v_9) (le_min x3_13) (le_max x3_13) (le_min x3_25) (le_max x3_25) (le_min v_65) (le_max v_65) (le_min v_72) (le_max v_72) (le_min v_76) (le_max v_76) (le_min v_78) (le_max v_78) (le_min v_80) (le_max v_80) (le_min v_86) (le_max v_86) (le_min v_91) (le_max v_91) (le_min v_93) (le_max v_93)) dX3_workOut_198 (fun v_103 e_104 => ?_)
                        refine y_iald C0 h kSC_106 rfl (by decide) (o19_567 l1 u1 e_7 e_8 e_10 b_20 b_21 hn_19 c_22 b_32 b_33 hn_31 c_34 b_63 b_64 hn_62 e_66 c_67 e_73 e_77 e_79 e_81 e_87 e_92 e_94 e_102 e_104) (o19_568 l1 u1 e_7 e_8 e_10 b_20 b_21 hn_19 c_22 b_32 b_33 hn_31 c_34 b_63 b_64 hn_62 e_66 c_67 e_73 e_77 e_79 e_81 e_87 e_92 e_94 e_102 e_104) dX3_workOut_199 (fun v_105 e_106 e_107 e_108 => ?_)
                        refine y_iandU C0 dX3_workOut_200 (fun v_109 => ?_)
                        refine y_iorU C0 dX3_workOut_201 (fun v_110 => ?_)
                        refine y_iast C0 h kSC_105 rfl (by decide) (o19_569 l1 u1 e_7 e_8 e_10 b_20 b_21 hn_19 c_22 b_32 b_33 hn_31 c_34 b_63 b_64 hn_62 e_66 c_67 e_73 e_77 e_79 e_81 e_87 e_92 e_94 e_102 e_104) (o19_570 l1 u1 e_7 e_8 e_10 b_20 b_21 hn_19 c_22 b_32 b_33 hn_31 c_34 b_63 b_64 hn_62 e_66 c_67 e_73 e_77 e_79 e_81 e_87 e_92 e_94 e_102 e_104) (le_min v_110) (le_max v_110) dX3_workOut_202 (fun H locs ws_111 h u_112 => ?_)
                        refine y_inc (kp := 0) (n := 1) (fun v_113 => [(8, .int v_113), (7, .int x3_25), (6, .int x3_25), (5, .int r_48), (4, .int r_40), (3, .int x3_25), (2, .int v_9), (0, .ref (ad 104)), (1, .int a1)]) C0 hl rfl (by decide) (by decide) (fun _ => rfl) (o19_571 l1 u1 e_7 e_8 e_10 b_20 b_21 hn_19 c_22 b_32 b_33 hn_31 c_34 b_63 b_64 hn_62 e_66 c_67 e_73 e_77 e_79 e_81 e_87 e_92 e_94 e_102 e_104 (le_min x8_56) (le_max x8_56) (le_min a1) (le_max a1) (le_min r_6) (le_max r_6) (le_min v_9) (le_max v_9) (le_min x3_13) (le_max x3_13) (le_min x3_25) (le_max x3_25) (le_min v_65) (le_max v_65) (le_min v_72) (le_max v_72) (le_min v_76) (le_max v_76) (le_min v_78) (le_max v_78) (le_min v_80) (le_max v_80) (le_min v_86) (le_max v_86) (le_min v_91) (le_max v_91) (le_min v_93) (le_max v_93) (le_min v_101) (le_max v_101) (le_min v_103) (le_max v_103)) (o19_572 l1 u1 e_7 e_8 e_10 b_20 b_21 hn_19 c_22 b_32 b_33 hn_31 c_34 b_63 b_64 hn_62 e_66 c_67 e_73 e_77 e_79 e_81 e_87 e_92 e_94 e_102 e_104 (le_min x8_56) (le_max x8_56) (le_min a1) (le_max a1) (le_min r_6) (le_max r_6) (le_min v_9) (le_max v_9) (le_min x3_13) (le_max x3_13) (le_min x3_25) (le_max x3_25) (le_min v_65) (le_max v_65) (le_min v_72) (le_max v_72) (le_min v_76) (le_max v_76) (le_min v_78) (le_max v_78) (le_min v_80) (le_max v_80) (le_min v_86) (le_max v_86) (le_min v_91) (le_max v_91) (le_min v_93) (le_max v_93) (le_min v_101) (le_max v_101) (le_min v_103) (le_max v_103)) dX3_workOut_203 (fun v_113 ls e_114 hl => ?_)
                        refine lv_goto (tgt := 149) C0.1 C0.2.1 dX3_workOut_206 (by decide) ?_
                        exact ih_60 v_113 _ _ _ _ (o19_573 l1 u1 e_7 e_8 e_10 b_20 b_21 hn_19 c_22 b_32 b_33 hn_31 c_34 b_63 b_64 hn_62 e_66 c_67 e_73 e_77 e_79 e_81 e_87 e_92 e_94 e_102 e_104 e_114) (o19_574 l1 u1 e_7 e_8 e_10 b_20 b_21 hn_19 c_22 b_32 b_33 hn_31 c_34 b_63 b_64 hn_62 e_66 c_67 e_73 e_77 e_79 e_81 e_87 e_92 e_94 e_102 e_104 e_114) (o19_575 l1 u1 e_7 e_8 e_10 b_20 b_21 hn_19 c_22 b_32 b_33 hn_31 c_34 b_63 b_64 hn_62 e_66 c_67 e_73 e_77 e_79 e_81 e_87 e_92 e_94 e_102 e_104 e_114) h (Fr.tr hF_58 (Fr.up u_112.1 kSC_105 (by decide))) (lv_sub hl [0, 1, 2, 3, 4, 5, 6, 7, 8] rfl)
                  exact lp_59 ((4 - v_54.toInt + 1).toNat) v_54 _ _ _ _ (o19_86 e_55) (o19_87 e_55) (o19_88 e_55) h Fr.rf (lv_sub hl [0, 1, 2, 3, 4, 5, 6, 7, 8] rfl)
                · -- 121
                  refine lv_iload C0.1 C0.2.1 dX3_workOut_124 (lv_at hl 0 rfl) ?_
                  refine lv_goto (tgt := 130) C0.1 C0.2.1 dX3_workOut_126 (by decide) ?_
                  refine lv_istore (lv' := [(6, .int r_48), (5, .int r_48), (4, .int r_40), (3, .int x3_25), (2, .int v_9), (0, .ref (ad 104)), (1, .int a1)]) C0.1 C0.2.1 dX3_workOut_130 hl (by decide) rfl (fun ls hl => ?_)
                  refine lv_iload C0.1 C0.2.1 dX3_workOut_132 (lv_at hl 1 rfl) ?_
                  refine y_if_lt (tgt := 142) C0 dX3_workOut_134 (by decide) (fun c_115 => ((o19_576 e_49 e_50 c_52 c_115)).elim) (fun c_115 => ?_)
                  refine lv_iload C0.1 C0.2.1 dX3_workOut_137 (lv_at hl 1 rfl) ?_
                  refine lv_goto (tgt := 144) C0.1 C0.2.1 dX3_workOut_139 (by decide) ?_
                  refine lv_istore (lv' := [(7, .int r_48), (6, .int r_48), (5, .int r_48), (4, .int r_40), (3, .int x3_25), (2, .int v_9), (0, .ref (ad 104)), (1, .int a1)]) C0.1 C0.2.1 dX3_workOut_144 hl (by decide) rfl (fun ls hl => ?_)
                  refine y_c1 (n := 0) C0 (by decide) dX3_workOut_146 (fun v_116 e_117 => ?_)
                  refine lv_istore (lv' := [(8, .int v_116), (7, .int r_48), (6, .int r_48), (5, .int r_48), (4, .int r_40), (3, .int x3_25), (2, .int v_9), (0, .ref (ad 104)), (1, .int a1)]) C0.1 C0.2.1 dX3_workOut_147 hl (by decide) rfl (fun ls hl => ?_)
                  have lp_121 : ∀ (n_123 : Nat) (x8_118 : Int32) (H : Heap) (locs : List Loc) (ls : Array Slot) (ws_119 : va_W), 4 - x8_118.toInt < (n_123 : Int) → 0 ≤ x8_118.toInt → x8_118.toInt ≤ 4 → Wt G (SC tt) ad A s H locs ws_119 → Fr (SC tt) [40] ws_45 ws_119 → lv_has ls 9 [(8, .int x8_118), (7, .int r_48), (6, .int r_48), (5, .int r_48), (4, .int r_40), (3, .int x3_25), (2, .int v_9), (0, .ref (ad 104)), (1, .int a1)] → W p l e (rmd 3 0 0) s m args below meth c H locs 0 0 Q (F0 m 149 ls []) := by
                    intro n_123
                    induction n_123 with
                    | zero => intro x8_118 H locs ls ws_119 hn_124 b_125 b_126 h hF_120 hl; exact ((o19_50 b_125 b_126 hn_124)).elim
                    | succ n_123 ih_122 =>
                      intro x8_118 H locs ls ws_119 hn_124 b_125 b_126 h hF_120 hl
                      refine lv_iload C0.1 C0.2.1 dX3_workOut_149 (lv_at hl 0 rfl) ?_
                      refine y_c1 (n := 4) C0 (by decide) dX3_workOut_151 (fun v_127 e_128 => ?_)
                      refine y_icmp_ge (tgt := 209) C0 dX3_workOut_152 (by decide) (fun c_129 => ?_) (fun c_129 => ?_)
                      · -- 152
                        refine y_inc (kp := 5) (n := 1) (fun v_130 => [(3, .int v_130), (8, .int x8_118), (7, .int r_48), (6, .int r_48), (5, .int r_48), (4, .int r_40), (2, .int v_9), (0, .ref (ad 104)), (1, .int a1)]) C0 hl rfl (by decide) (by decide) (fun _ => rfl) (o19_543 e_7 e_8 e_10 b_20 b_21 hn_19 c_22 b_32 b_33 hn_31 c_34 (le_min x3_25) (le_max x3_25) (le_min r_6) (le_max r_6) (le_min v_9) (le_max v_9) (le_min x3_13) (le_max x3_13)) (o19_544 e_7 e_8 e_10 b_20 b_21 hn_19 c_22 b_32 b_33 hn_31 c_34 (le_min x3_25) (le_max x3_25) (le_min r_6) (le_max r_6) (le_min v_9) (le_max v_9) (le_min x3_13) (le_max x3_13)) dX3_workOut_209 (fun v_130 ls e_131 hl => ?_)
                        refine lv_goto (tgt := 82) C0.1 C0.2.1 dX3_workOut_212 (by decide) ?_
                        exact ih_29 v_130 _ _ _ _ (o19_545 e_7 e_8 e_10 b_20 b_21 hn_19 c_22 b_32 b_33 hn_31 c_34 e_131) (o19_546 e_7 e_8 e_10 b_20 b_21 hn_19 c_22 b_32 b_33 hn_31 c_34 e_131) (o19_547 e_7 e_8 e_10 b_20 b_21 hn_19 c_22 b_32 b_33 hn_31 c_34 e_131) h (Fr.tr (Fr.tr (Fr.tr hF_27 (Fr.mono u_38 (by decide))) (Fr.mono u_46 (by decide))) hF_120) (lv_sub hl [0, 6, 7, 8] rfl)
                      · -- 152
                        refine lv_aload_n C0.1 C0.2.1 dX3_workOut_155 rfl (lv_at hl 7 rfl) ?_
                        refine tg_X3_catching C0 h kSC_104 q_476 dX3_workOut_156 ?_
                        refine lv_iload_n C0.1 C0.2.1 dX3_workOut_159 rfl (lv_at hl 8 rfl) ?_
                        refine y_c3 (n := 400) C0 (by decide) dX3_workOut_160 (fun v_132 e_133 => ?_)
                        refine y_mulc (n := 400) C0 (o19_548 e_133) (o19_549 l1 u1 (le_min a1) (le_max a1)) (o19_550 l1 u1 (le_min a1) (le_max a1)) dX3_workOut_163 (fun v_134 e_135 => ?_)
                        refine y_c1 (n := 4) C0 (by decide) dX3_workOut_164 (fun v_136 e_137 => ?_)
                        refine lv_iload_n C0.1 C0.2.1 dX3_workOut_165 rfl (lv_at hl 5 rfl) ?_
                        refine y_cmul (n := 4) C0 (o19_51 e_137) (o19_551 e_7 e_8 e_10 b_20 b_21 hn_19 c_22 b_32 b_33 hn_31 c_34 (le_min x3_25) (le_max x3_25) (le_min r_6) (le_max r_6) (le_min v_9) (le_max v_9) (le_min x3_13) (le_max x3_13)) (o19_552 e_7 e_8 e_10 b_20 b_21 hn_19 c_22 b_32 b_33 hn_31 c_34 (le_min x3_25) (le_max x3_25) (le_min r_6) (le_max r_6) (le_min v_9) (le_max v_9) (le_min x3_13) (le_max x3_13)) dX3_workOut_166 (fun v_138 e_139 => ?_)
                        refine y_add C0 (o19_553 l1 u1 e_7 e_8 e_10 b_20 b_21 hn_19 c_22 b_32 b_33 hn_31 c_34 e_135 e_139 (le_min v_134) (le_max v_134) (le_min v_138) (le_max v_138) (le_min a1) (le_max a1) (le_min r_6) (le_max r_6) (le_min v_9) (le_max v_9) (le_min x3_13) (le_max x3_13) (le_min x3_25) (le_max x3_25)) (o19_554 l1 u1 e_7 e_8 e_10 b_20 b_21 hn_19 c_22 b_32 b_33 hn_31 c_34 e_135 e_139 (le_min v_134) (le_max v_134) (le_min v_138) (le_max v_138) (le_min a1) (le_max a1) (le_min r_6) (le_max r_6) (le_min v_9) (le_max v_9) (le_min x3_13) (le_max x3_13) (le_min x3_25) (le_max x3_25)) dX3_workOut_167 (fun v_140 e_141 => ?_)
                        refine lv_iload C0.1 C0.2.1 dX3_workOut_168 (lv_at hl 0 rfl) ?_
                        refine y_add C0 (o19_555 l1 u1 e_7 e_8 e_10 b_20 b_21 hn_19 c_22 b_32 b_33 hn_31 c_34 b_125 b_126 hn_124 e_128 c_129 e_135 e_139 e_141 (le_min v_140) (le_max v_140) (le_min x8_118) (le_max x8_118) (le_min a1) (le_max a1) (le_min r_6) (le_max r_6) (le_min v_9) (le_max v_9) (le_min x3_13) (le_max x3_13) (le_min x3_25) (le_max x3_25) (le_min v_127) (le_max v_127) (le_min v_134) (le_max v_134) (le_min v_138) (le_max v_138)) (o19_556 l1 u1 e_7 e_8 e_10 b_20 b_21 hn_19 c_22 b_32 b_33 hn_31 c_34 b_125 b_126 hn_124 e_128 c_129 e_135 e_139 e_141 (le_min v_140) (le_max v_140) (le_min x8_118) (le_max x8_118) (le_min a1) (le_max a1) (le_min r_6) (le_max r_6) (le_min v_9) (le_max v_9) (le_min x3_13) (le_max x3_13) (le_min x3_25) (le_max x3_25) (le_min v_127) (le_max v_127) (le_min v_134) (le_max v_134) (le_min v_138) (le_max v_138)) dX3_workOut_170 (fun v_142 e_143 => ?_)
                        refine y_c1 (n := 1) C0 (by decide) dX3_workOut_171 (fun v_144 e_145 => ?_)
                        refine lv_iload_n C0.1 C0.2.1 dX3_workOut_172 rfl (lv_at hl 5 rfl) ?_
                        refine y_c1 (n := 2) C0 (by decide) dX3_workOut_173 (fun v_146 e_147 => ?_)
                        refine y_shr 2 2 (n := 4) C0 (Eq.trans (o19_90 e_147) (by decide)) (by decide) (by decide) dX3_workOut_174 (fun v_148 e_149 => ?_)
                        refine y_ishlU C0 dX3_workOut_175 (fun v_150 => ?_)
                        refine lv_aload_n C0.1 C0.2.1 dX3_workOut_176 rfl (lv_at hl 7 rfl) ?_
                        refine tg_X3_inTurn C0 h kSC_104 q_477 dX3_workOut_177 ?_
                        refine y_c1 (n := 4) C0 (by decide) dX3_workOut_180 (fun v_151 e_152 => ?_)
                        refine lv_iload C0.1 C0.2.1 dX3_workOut_181 (lv_at hl 2 rfl) ?_
                        refine y_cmul (n := 4) C0 (o19_51 e_152) (o19_577 e_49 e_50 c_52 (le_min r_48) (le_max r_48)) (o19_578 e_49 e_50 c_52 (le_min r_48) (le_max r_48)) dX3_workOut_183 (fun v_153 e_154 => ?_)
                        refine lv_iload C0.1 C0.2.1 dX3_workOut_184 (lv_at hl 0 rfl) ?_
                        refine y_add C0 (o19_579 l1 u1 e_7 e_8 e_10 b_20 b_21 hn_19 c_22 b_32 b_33 hn_31 c_34 e_49 e_50 c_52 b_125 b_126 hn_124 e_128 c_129 e_135 e_139 e_141 e_143 e_149 e_154 (le_min v_153) (le_max v_153) (le_min x8_118) (le_max x8_118) (le_min a1) (le_max a1) (le_min r_6) (le_max r_6) (le_min v_9) (le_max v_9) (le_min x3_13) (le_max x3_13) (le_min x3_25) (le_max x3_25) (le_min r_48) (le_max r_48) (le_min v_127) (le_max v_127) (le_min v_134) (le_max v_134) (le_min v_138) (le_max v_138) (le_min v_140) (le_max v_140) (le_min v_142) (le_max v_142) (le_min v_148) (le_max v_148)) (o19_580 l1 u1 e_7 e_8 e_10 b_20 b_21 hn_19 c_22 b_32 b_33 hn_31 c_34 e_49 e_50 c_52 b_125 b_126 hn_124 e_128 c_129 e_135 e_139 e_141 e_143 e_149 e_154 (le_min v_153) (le_max v_153) (le_min x8_118) (le_max x8_118) (le_min a1) (le_max a1) (le_min r_6) (le_max r_6) (le_min v_9) (le_max v_9) (le_min x3_13) (le_max x3_13) (le_min x3_25) (le_max x3_25) (le_min r_48) (le_max r_48) (le_min v_127) (le_max v_127) (le_min v_134) (le_max v_134) (le_min v_138) (le_max v_138) (le_min v_140) (le_max v_140) (le_min v_142) (le_max v_142) (le_min v_148) (le_max v_148)) dX3_workOut_186 (fun v_155 e_156 => ?_)
                        refine y_iald C0 h kSC_106 rfl (by decide) (o19_581 l1 u1 e_7 e_8 e_10 b_20 b_21 hn_19 c_22 b_32 b_33 hn_31 c_34 e_49 e_50 c_52 b_125 b_126 hn_124 e_128 c_129 e_135 e_139 e_141 e_143 e_149 e_154 e_156) (o19_582 l1 u1 e_7 e_8 e_10 b_20 b_21 hn_19 c_22 b_32 b_33 hn_31 c_34 e_49 e_50 c_52 b_125 b_126 hn_124 e_128 c_129 e_135 e_139 e_141 e_143 e_149 e_154 e_156) dX3_workOut_187 (fun v_157 e_158 e_159 e_160 => ?_)
                        refine lv_aload_n C0.1 C0.2.1 dX3_workOut_188 rfl (lv_at hl 7 rfl) ?_
                        refine tg_X3_inTurn C0 h kSC_104 q_477 dX3_workOut_189 ?_
                        refine y_c1 (n := 4) C0 (by decide) dX3_workOut_192 (fun v_161 e_162 => ?_)
                        refine lv_iload C0.1 C0.2.1 dX3_workOut_193 (lv_at hl 1 rfl) ?_
                        refine y_cmul (n := 4) C0 (o19_51 e_162) (o19_583 l1 u1 e_7 e_8 e_10 b_20 b_21 hn_19 c_22 b_32 b_33 hn_31 c_34 e_49 e_50 c_52 b_125 b_126 hn_124 e_128 c_129 e_135 e_139 e_141 e_143 e_149 e_154 e_156 (le_min r_48) (le_max r_48) (le_min a1) (le_max a1) (le_min r_6) (le_max r_6) (le_min v_9) (le_max v_9) (le_min x3_13) (le_max x3_13) (le_min x3_25) (le_max x3_25) (le_min x8_118) (le_max x8_118) (le_min v_127) (le_max v_127) (le_min v_134) (le_max v_134) (le_min v_138) (le_max v_138) (le_min v_140) (le_max v_140) (le_min v_142) (le_max v_142) (le_min v_148) (le_max v_148) (le_min v_153) (le_max v_153) (le_min v_155) (le_max v_155)) (o19_584 l1 u1 e_7 e_8 e_10 b_20 b_21 hn_19 c_22 b_32 b_33 hn_31 c_34 e_49 e_50 c_52 b_125 b_126 hn_124 e_128 c_129 e_135 e_139 e_141 e_143 e_149 e_154 e_156 (le_min r_48) (le_max r_48) (le_min a1) (le_max a1) (le_min r_6) (le_max r_6) (le_min v_9) (le_max v_9) (le_min x3_13) (le_max x3_13) (le_min x3_25) (le_max x3_25) (le_min x8_118) (le_max x8_118) (le_min v_127) (le_max v_127) (le_min v_134) (le_max v_134) (le_min v_138) (le_max v_138) (le_min v_140) (le_max v_140) (le_min v_142) (le_max v_142) (le_min v_148) (le_max v_148) (le_min v_153) (le_max v_153) (le_min v_155) (le_max v_155)) dX3_workOut_195 (fun v_163 e_164 => ?_)
                        refine lv_iload C0.1 C0.2.1 dX3_workOut_196 (lv_at hl 0 rfl) ?_
                        refine y_add C0 (o19_585 l1 u1 e_7 e_8 e_10 b_20 b_21 hn_19 c_22 b_32 b_33 hn_31 c_34 e_49 e_50 c_52 b_125 b_126 hn_124 e_128 c_129 e_135 e_139 e_141 e_143 e_149 e_154 e_156 e_164 (le_min v_163) (le_max v_163) (le_min x8_118) (le_max x8_118) (le_min a1) (le_max a1) (le_min r_6) (le_max r_6) (le_min v_9) (le_max v_9) (le_min x3_13) (le_max x3_13) (le_min x3_25) (le_max x3_25) (le_min r_48) (le_max r_48) (le_min v_127) (le_max v_127) (le_min v_134) (le_max v_134) (le_min v_138) (le_max v_138) (le_min v_140) (le_max v_140) (le_min v_142) (le_max v_142) (le_min v_148) (le_max v_148) (le_min v_153) (le_max v_153) (le_min v_155) (le_max v_155)) (o19_586 l1 u1 e_7 e_8 e_10 b_20 b_21 hn_19 c_22 b_32 b_33 hn_31 c_34 e_49 e_50 c_52 b_125 b_126 hn_124 e_128 c_129 e_135 e_139 e_141 e_143 e_149 e_154 e_156 e_164 (le_min v_163) (le_max v_163) (le_min x8_118) (le_max x8_118) (le_min a1) (le_max a1) (le_min r_6) (le_max r_6) (le_min v_9) (le_max v_9) (le_min x3_13) (le_max x3_13) (le_min x3_25) (le_max x3_25) (le_min r_48) (le_max r_48) (le_min v_127) (le_max v_127) (le_min v_134) (le_max v_134) (le_min v_138) (le_max v_138) (le_min v_140) (le_max v_140) (le_min v_142) (le_max v_142) (le_min v_148) (le_max v_148) (le_min v_153) (le_max v_153) (le_min v_155) (le_max v_155)) dX3_workOut_198 (fun v_165 e_166 => ?_)
                        refine y_iald C0 h kSC_106 rfl (by decide) (o19_587 l1 u1 e_7 e_8 e_10 b_20 b_21 hn_19 c_22 b_32 b_33 hn_31 c_34 e_49 e_50 c_52 b_125 b_126 hn_124 e_128 c_129 e_135 e_139 e_141 e_143 e_149 e_154 e_156 e_164 e_166) (o19_588 l1 u1 e_7 e_8 e_10 b_20 b_21 hn_19 c_22 b_32 b_33 hn_31 c_34 e_49 e_50 c_52 b_125 b_126 hn_124 e_128 c_129 e_135 e_139 e_141 e_143 e_149 e_154 e_156 e_164 e_166) dX3_workOut_199 (fun v_167 e_168 e_169 e_170 => ?_)
                        refine y_iandU C0 dX3_workOut_200 (fun v_171 => ?_)
                        refine y_iorU C0 dX3_workOut_201 (fun v_172 => ?_)
                        refine y_iast C0 h kSC_105 rfl (by decide) (o19_589 l1 u1 e_7 e_8 e_10 b_20 b_21 hn_19 c_22 b_32 b_33 hn_31 c_34 e_49 e_50 c_52 b_125 b_126 hn_124 e_128 c_129 e_135 e_139 e_141 e_143 e_149 e_154 e_156 e_164 e_166) (o19_590 l1 u1 e_7 e_8 e_10 b_20 b_21 hn_19 c_22 b_32 b_33 hn_31 c_34 e_49 e_50 c_52 b_125 b_126 hn_124 e_128 c_129 e_135 e_139 e_141 e_143 e_149 e_154 e_156 e_164 e_166) (le_min v_172) (le_max v_172) dX3_workOut_202 (fun H locs ws_173 h u_174 => ?_)
                        refine y_inc (kp := 0) (n := 1) (fun v_175 => [(8, .int v_175), (7, .int r_48), (6, .int r_48), (5, .int r_48), (4, .int r_40), (3, .int x3_25), (2, .int v_9), (0, .ref (ad 104)), (1, .int a1)]) C0 hl rfl (by decide) (by decide) (fun _ => rfl) (o19_591 l1 u1 e_7 e_8 e_10 b_20 b_21 hn_19 c_22 b_32 b_33 hn_31 c_34 e_49 e_50 c_52 b_125 b_126 hn_124 e_128 c_129 e_135 e_139 e_141 e_143 e_149 e_154 e_156 e_164 e_166 (le_min x8_118) (le_max x8_118) (le_min a1) (le_max a1) (le_min r_6) (le_max r_6) (le_min v_9) (le_max v_9) (le_min x3_13) (le_max x3_13) (le_min x3_25) (le_max x3_25) (le_min r_48) (le_max r_48) (le_min v_127) (le_max v_127) (le_min v_134) (le_max v_134) (le_min v_138) (le_max v_138) (le_min v_140) (le_max v_140) (le_min v_142) (le_max v_142) (le_min v_148) (le_max v_148) (le_min v_153) (le_max v_153) (le_min v_155) (le_max v_155) (le_min v_163) (le_max v_163) (le_min v_165) (le_max v_165)) (o19_592 l1 u1 e_7 e_8 e_10 b_20 b_21 hn_19 c_22 b_32 b_33 hn_31 c_34 e_49 e_50 c_52 b_125 b_126 hn_124 e_128 c_129 e_135 e_139 e_141 e_143 e_149 e_154 e_156 e_164 e_166 (le_min x8_118) (le_max x8_118) (le_min a1) (le_max a1) (le_min r_6) (le_max r_6) (le_min v_9) (le_max v_9) (le_min x3_13) (le_max x3_13) (le_min x3_25) (le_max x3_25) (le_min r_48) (le_max r_48) (le_min v_127) (le_max v_127) (le_min v_134) (le_max v_134) (le_min v_138) (le_max v_138) (le_min v_140) (le_max v_140) (le_min v_142) (le_max v_142) (le_min v_148) (le_max v_148) (le_min v_153) (le_max v_153) (le_min v_155) (le_max v_155) (le_min v_163) (le_max v_163) (le_min v_165) (le_max v_165)) dX3_workOut_203 (fun v_175 ls e_176 hl => ?_)
                        refine lv_goto (tgt := 149) C0.1 C0.2.1 dX3_workOut_206 (by decide) ?_
                        exact ih_122 v_175 _ _ _ _ (o19_593 l1 u1 e_7 e_8 e_10 b_20 b_21 hn_19 c_22 b_32 b_33 hn_31 c_34 e_49 e_50 c_52 b_125 b_126 hn_124 e_128 c_129 e_135 e_139 e_141 e_143 e_149 e_154 e_156 e_164 e_166 e_176) (o19_594 l1 u1 e_7 e_8 e_10 b_20 b_21 hn_19 c_22 b_32 b_33 hn_31 c_34 e_49 e_50 c_52 b_125 b_126 hn_124 e_128 c_129 e_135 e_139 e_141 e_143 e_149 e_154 e_156 e_164 e_166 e_176) (o19_595 l1 u1 e_7 e_8 e_10 b_20 b_21 hn_19 c_22 b_32 b_33 hn_31 c_34 e_49 e_50 c_52 b_125 b_126 hn_124 e_128 c_129 e_135 e_139 e_141 e_143 e_149 e_154 e_156 e_164 e_166 e_176) h (Fr.tr hF_120 (Fr.up u_174.1 kSC_105 (by decide))) (lv_sub hl [0, 1, 2, 3, 4, 5, 6, 7, 8] rfl)
                  exact lp_121 ((4 - v_116.toInt + 1).toNat) v_116 _ _ _ _ (o19_86 e_117) (o19_87 e_117) (o19_88 e_117) h Fr.rf (lv_sub hl [0, 1, 2, 3, 4, 5, 6, 7, 8] rfl)
              · -- 111
                refine lv_iload C0.1 C0.2.1 dX3_workOut_114 (lv_at hl 1 rfl) ?_
                refine lv_goto (tgt := 130) C0.1 C0.2.1 dX3_workOut_116 (by decide) ?_
                refine lv_istore (lv' := [(6, .int r_40), (5, .int r_48), (4, .int r_40), (3, .int x3_25), (2, .int v_9), (0, .ref (ad 104)), (1, .int a1)]) C0.1 C0.2.1 dX3_workOut_130 hl (by decide) rfl (fun ls hl => ?_)
                refine lv_iload C0.1 C0.2.1 dX3_workOut_132 (lv_at hl 1 rfl) ?_
                refine y_if_lt (tgt := 142) C0 dX3_workOut_134 (by decide) (fun c_177 => ?_) (fun c_177 => ?_)
                · -- 134
                  refine lv_iload C0.1 C0.2.1 dX3_workOut_142 (lv_at hl 0 rfl) ?_
                  refine lv_istore (lv' := [(7, .int r_40), (6, .int r_40), (5, .int r_48), (4, .int r_40), (3, .int x3_25), (2, .int v_9), (0, .ref (ad 104)), (1, .int a1)]) C0.1 C0.2.1 dX3_workOut_144 hl (by decide) rfl (fun ls hl => ?_)
                  refine y_c1 (n := 0) C0 (by decide) dX3_workOut_146 (fun v_178 e_179 => ?_)
                  refine lv_istore (lv' := [(8, .int v_178), (7, .int r_40), (6, .int r_40), (5, .int r_48), (4, .int r_40), (3, .int x3_25), (2, .int v_9), (0, .ref (ad 104)), (1, .int a1)]) C0.1 C0.2.1 dX3_workOut_147 hl (by decide) rfl (fun ls hl => ?_)
                  have lp_183 : ∀ (n_185 : Nat) (x8_180 : Int32) (H : Heap) (locs : List Loc) (ls : Array Slot) (ws_181 : va_W), 4 - x8_180.toInt < (n_185 : Int) → 0 ≤ x8_180.toInt → x8_180.toInt ≤ 4 → Wt G (SC tt) ad A s H locs ws_181 → Fr (SC tt) [40] ws_45 ws_181 → lv_has ls 9 [(8, .int x8_180), (7, .int r_40), (6, .int r_40), (5, .int r_48), (4, .int r_40), (3, .int x3_25), (2, .int v_9), (0, .ref (ad 104)), (1, .int a1)] → W p l e (rmd 3 0 0) s m args below meth c H locs 0 0 Q (F0 m 149 ls []) := by
                    intro n_185
                    induction n_185 with
                    | zero => intro x8_180 H locs ls ws_181 hn_186 b_187 b_188 h hF_182 hl; exact ((o19_50 b_187 b_188 hn_186)).elim
                    | succ n_185 ih_184 =>
                      intro x8_180 H locs ls ws_181 hn_186 b_187 b_188 h hF_182 hl
                      refine lv_iload C0.1 C0.2.1 dX3_workOut_149 (lv_at hl 0 rfl) ?_
                      refine y_c1 (n := 4) C0 (by decide) dX3_workOut_151 (fun v_189 e_190 => ?_)
                      refine y_icmp_ge (tgt := 209) C0 dX3_workOut_152 (by decide) (fun c_191 => ?_) (fun c_191 => ?_)
                      · -- 152
                        refine y_inc (kp := 5) (n := 1) (fun v_192 => [(3, .int v_192), (8, .int x8_180), (7, .int r_40), (6, .int r_40), (5, .int r_48), (4, .int r_40), (2, .int v_9), (0, .ref (ad 104)), (1, .int a1)]) C0 hl rfl (by decide) (by decide) (fun _ => rfl) (o19_543 e_7 e_8 e_10 b_20 b_21 hn_19 c_22 b_32 b_33 hn_31 c_34 (le_min x3_25) (le_max x3_25) (le_min r_6) (le_max r_6) (le_min v_9) (le_max v_9) (le_min x3_13) (le_max x3_13)) (o19_544 e_7 e_8 e_10 b_20 b_21 hn_19 c_22 b_32 b_33 hn_31 c_34 (le_min x3_25) (le_max x3_25) (le_min r_6) (le_max r_6) (le_min v_9) (le_max v_9) (le_min x3_13) (le_max x3_13)) dX3_workOut_209 (fun v_192 ls e_193 hl => ?_)
                        refine lv_goto (tgt := 82) C0.1 C0.2.1 dX3_workOut_212 (by decide) ?_
                        exact ih_29 v_192 _ _ _ _ (o19_545 e_7 e_8 e_10 b_20 b_21 hn_19 c_22 b_32 b_33 hn_31 c_34 e_193) (o19_546 e_7 e_8 e_10 b_20 b_21 hn_19 c_22 b_32 b_33 hn_31 c_34 e_193) (o19_547 e_7 e_8 e_10 b_20 b_21 hn_19 c_22 b_32 b_33 hn_31 c_34 e_193) h (Fr.tr (Fr.tr (Fr.tr hF_27 (Fr.mono u_38 (by decide))) (Fr.mono u_46 (by decide))) hF_182) (lv_sub hl [0, 6, 7, 8] rfl)
                      · -- 152
                        refine lv_aload_n C0.1 C0.2.1 dX3_workOut_155 rfl (lv_at hl 7 rfl) ?_
                        refine tg_X3_catching C0 h kSC_104 q_476 dX3_workOut_156 ?_
                        refine lv_iload_n C0.1 C0.2.1 dX3_workOut_159 rfl (lv_at hl 8 rfl) ?_
                        refine y_c3 (n := 400) C0 (by decide) dX3_workOut_160 (fun v_194 e_195 => ?_)
                        refine y_mulc (n := 400) C0 (o19_548 e_195) (o19_549 l1 u1 (le_min a1) (le_max a1)) (o19_550 l1 u1 (le_min a1) (le_max a1)) dX3_workOut_163 (fun v_196 e_197 => ?_)
                        refine y_c1 (n := 4) C0 (by decide) dX3_workOut_164 (fun v_198 e_199 => ?_)
                        refine lv_iload_n C0.1 C0.2.1 dX3_workOut_165 rfl (lv_at hl 5 rfl) ?_
                        refine y_cmul (n := 4) C0 (o19_51 e_199) (o19_551 e_7 e_8 e_10 b_20 b_21 hn_19 c_22 b_32 b_33 hn_31 c_34 (le_min x3_25) (le_max x3_25) (le_min r_6) (le_max r_6) (le_min v_9) (le_max v_9) (le_min x3_13) (le_max x3_13)) (o19_552 e_7 e_8 e_10 b_20 b_21 hn_19 c_22 b_32 b_33 hn_31 c_34 (le_min x3_25) (le_max x3_25) (le_min r_6) (le_max r_6) (le_min v_9) (le_max v_9) (le_min x3_13) (le_max x3_13)) dX3_workOut_166 (fun v_200 e_201 => ?_)
                        refine y_add C0 (o19_553 l1 u1 e_7 e_8 e_10 b_20 b_21 hn_19 c_22 b_32 b_33 hn_31 c_34 e_197 e_201 (le_min v_196) (le_max v_196) (le_min v_200) (le_max v_200) (le_min a1) (le_max a1) (le_min r_6) (le_max r_6) (le_min v_9) (le_max v_9) (le_min x3_13) (le_max x3_13) (le_min x3_25) (le_max x3_25)) (o19_554 l1 u1 e_7 e_8 e_10 b_20 b_21 hn_19 c_22 b_32 b_33 hn_31 c_34 e_197 e_201 (le_min v_196) (le_max v_196) (le_min v_200) (le_max v_200) (le_min a1) (le_max a1) (le_min r_6) (le_max r_6) (le_min v_9) (le_max v_9) (le_min x3_13) (le_max x3_13) (le_min x3_25) (le_max x3_25)) dX3_workOut_167 (fun v_202 e_203 => ?_)
                        refine lv_iload C0.1 C0.2.1 dX3_workOut_168 (lv_at hl 0 rfl) ?_
                        refine y_add C0 (o19_555 l1 u1 e_7 e_8 e_10 b_20 b_21 hn_19 c_22 b_32 b_33 hn_31 c_34 b_187 b_188 hn_186 e_190 c_191 e_197 e_201 e_203 (le_min v_202) (le_max v_202) (le_min x8_180) (le_max x8_180) (le_min a1) (le_max a1) (le_min r_6) (le_max r_6) (le_min v_9) (le_max v_9) (le_min x3_13) (le_max x3_13) (le_min x3_25) (le_max x3_25) (le_min v_189) (le_max v_189) (le_min v_196) (le_max v_196) (le_min v_200) (le_max v_200)) (o19_556 l1 u1 e_7 e_8 e_10 b_20 b_21 hn_19 c_22 b_32 b_33 hn_31 c_34 b_187 b_188 hn_186 e_190 c_191 e_197 e_201 e_203 (le_min v_202) (le_max v_202) (le_min x8_180) (le_max x8_180) (le_min a1) (le_max a1) (le_min r_6) (le_max r_6) (le_min v_9) (le_max v_9) (le_min x3_13) (le_max x3_13) (le_min x3_25) (le_max x3_25) (le_min v_189) (le_max v_189) (le_min v_196) (le_max v_196) (le_min v_200) (le_max v_200)) dX3_workOut_170 (fun v_204 e_205 => ?_)
                        refine y_c1 (n := 1) C0 (by decide) dX3_workOut_171 (fun v_206 e_207 => ?_)
                        refine lv_iload_n C0.1 C0.2.1 dX3_workOut_172 rfl (lv_at hl 5 rfl) ?_
                        refine y_c1 (n := 2) C0 (by decide) dX3_workOut_173 (fun v_208 e_209 => ?_)
                        refine y_shr 2 2 (n := 4) C0 (Eq.trans (o19_90 e_209) (by decide)) (by decide) (by decide) dX3_workOut_174 (fun v_210 e_211 => ?_)
                        refine y_ishlU C0 dX3_workOut_175 (fun v_212 => ?_)
                        refine lv_aload_n C0.1 C0.2.1 dX3_workOut_176 rfl (lv_at hl 7 rfl) ?_
                        refine tg_X3_inTurn C0 h kSC_104 q_477 dX3_workOut_177 ?_
                        refine y_c1 (n := 4) C0 (by decide) dX3_workOut_180 (fun v_213 e_214 => ?_)
                        refine lv_iload C0.1 C0.2.1 dX3_workOut_181 (lv_at hl 2 rfl) ?_
                        refine y_cmul (n := 4) C0 (o19_51 e_214) (o19_577 e_41 e_42 c_51 (le_min r_40) (le_max r_40)) (o19_578 e_41 e_42 c_51 (le_min r_40) (le_max r_40)) dX3_workOut_183 (fun v_215 e_216 => ?_)
                        refine lv_iload C0.1 C0.2.1 dX3_workOut_184 (lv_at hl 0 rfl) ?_
                        refine y_add C0 (o19_579 l1 u1 e_7 e_8 e_10 b_20 b_21 hn_19 c_22 b_32 b_33 hn_31 c_34 e_41 e_42 c_51 b_187 b_188 hn_186 e_190 c_191 e_197 e_201 e_203 e_205 e_211 e_216 (le_min v_215) (le_max v_215) (le_min x8_180) (le_max x8_180) (le_min a1) (le_max a1) (le_min r_6) (le_max r_6) (le_min v_9) (le_max v_9) (le_min x3_13) (le_max x3_13) (le_min x3_25) (le_max x3_25) (le_min r_40) (le_max r_40) (le_min v_189) (le_max v_189) (le_min v_196) (le_max v_196) (le_min v_200) (le_max v_200) (le_min v_202) (le_max v_202) (le_min v_204) (le_max v_204) (le_min v_210) (le_max v_210)) (o19_580 l1 u1 e_7 e_8 e_10 b_20 b_21 hn_19 c_22 b_32 b_33 hn_31 c_34 e_41 e_42 c_51 b_187 b_188 hn_186 e_190 c_191 e_197 e_201 e_203 e_205 e_211 e_216 (le_min v_215) (le_max v_215) (le_min x8_180) (le_max x8_180) (le_min a1) (le_max a1) (le_min r_6) (le_max r_6) (le_min v_9) (le_max v_9) (le_min x3_13) (le_max x3_13) (le_min x3_25) (le_max x3_25) (le_min r_40) (le_max r_40) (le_min v_189) (le_max v_189) (le_min v_196) (le_max v_196) (le_min v_200) (le_max v_200) (le_min v_202) (le_max v_202) (le_min v_204) (le_max v_204) (le_min v_210) (le_max v_210)) dX3_workOut_186 (fun v_217 e_218 => ?_)
                        refine y_iald C0 h kSC_106 rfl (by decide) (o19_581 l1 u1 e_7 e_8 e_10 b_20 b_21 hn_19 c_22 b_32 b_33 hn_31 c_34 e_41 e_42 c_51 b_187 b_188 hn_186 e_190 c_191 e_197 e_201 e_203 e_205 e_211 e_216 e_218) (o19_582 l1 u1 e_7 e_8 e_10 b_20 b_21 hn_19 c_22 b_32 b_33 hn_31 c_34 e_41 e_42 c_51 b_187 b_188 hn_186 e_190 c_191 e_197 e_201 e_203 e_205 e_211 e_216 e_218) dX3_workOut_187 (fun v_219 e_220 e_221 e_222 => ?_)
                        refine lv_aload_n C0.1 C0.2.1 dX3_workOut_188 rfl (lv_at hl 7 rfl) ?_
                        refine tg_X3_inTurn C0 h kSC_104 q_477 dX3_workOut_189 ?_
                        refine y_c1 (n := 4) C0 (by decide) dX3_workOut_192 (fun v_223 e_224 => ?_)
                        refine lv_iload C0.1 C0.2.1 dX3_workOut_193 (lv_at hl 1 rfl) ?_
                        refine y_cmul (n := 4) C0 (o19_51 e_224) (o19_583 l1 u1 e_7 e_8 e_10 b_20 b_21 hn_19 c_22 b_32 b_33 hn_31 c_34 e_41 e_42 c_51 b_187 b_188 hn_186 e_190 c_191 e_197 e_201 e_203 e_205 e_211 e_216 e_218 (le_min r_40) (le_max r_40) (le_min a1) (le_max a1) (le_min r_6) (le_max r_6) (le_min v_9) (le_max v_9) (le_min x3_13) (le_max x3_13) (le_min x3_25) (le_max x3_25) (le_min x8_180) (le_max x8_180) (le_min v_189) (le_max v_189) (le_min v_196) (le_max v_196) (le_min v_200) (le_max v_200) (le_min v_202) (le_max v_202) (le_min v_204) (le_max v_204) (le_min v_210) (le_max v_210) (le_min v_215) (le_max v_215) (le_min v_217) (le_max v_217)) (o19_584 l1 u1 e_7 e_8 e_10 b_20 b_21 hn_19 c_22 b_32 b_33 hn_31 c_34 e_41 e_42 c_51 b_187 b_188 hn_186 e_190 c_191 e_197 e_201 e_203 e_205 e_211 e_216 e_218 (le_min r_40) (le_max r_40) (le_min a1) (le_max a1) (le_min r_6) (le_max r_6) (le_min v_9) (le_max v_9) (le_min x3_13) (le_max x3_13) (le_min x3_25) (le_max x3_25) (le_min x8_180) (le_max x8_180) (le_min v_189) (le_max v_189) (le_min v_196) (le_max v_196) (le_min v_200) (le_max v_200) (le_min v_202) (le_max v_202) (le_min v_204) (le_max v_204) (le_min v_210) (le_max v_210) (le_min v_215) (le_max v_215) (le_min v_217) (le_max v_217)) dX3_workOut_195 (fun v_225 e_226 => ?_)
                        refine lv_iload C0.1 C0.2.1 dX3_workOut_196 (lv_at hl 0 rfl) ?_
                        refine y_add C0 (o19_585 l1 u1 e_7 e_8 e_10 b_20 b_21 hn_19 c_22 b_32 b_33 hn_31 c_34 e_41 e_42 c_51 b_187 b_188 hn_186 e_190 c_191 e_197 e_201 e_203 e_205 e_211 e_216 e_218 e_226 (le_min v_225) (le_max v_225) (le_min x8_180) (le_max x8_180) (le_min a1) (le_max a1) (le_min r_6) (le_max r_6) (le_min v_9) (le_max v_9) (le_min x3_13) (le_max x3_13) (le_min x3_25) (le_max x3_25) (le_min r_40) (le_max r_40) (le_min v_189) (le_max v_189) (le_min v_196) (le_max v_196) (le_min v_200) (le_max v_200) (le_min v_202) (le_max v_202) (le_min v_204) (le_max v_204) (le_min v_210) (le_max v_210) (le_min v_215) (le_max v_215) (le_min v_217) (le_max v_217)) (o19_586 l1 u1 e_7 e_8 e_10 b_20 b_21 hn_19 c_22 b_32 b_33 hn_31 c_34 e_41 e_42 c_51 b_187 b_188 hn_186 e_190 c_191 e_197 e_201 e_203 e_205 e_211 e_216 e_218 e_226 (le_min v_225) (le_max v_225) (le_min x8_180) (le_max x8_180) (le_min a1) (le_max a1) (le_min r_6) (le_max r_6) (le_min v_9) (le_max v_9) (le_min x3_13) (le_max x3_13) (le_min x3_25) (le_max x3_25) (le_min r_40) (le_max r_40) (le_min v_189) (le_max v_189) (le_min v_196) (le_max v_196) (le_min v_200) (le_max v_200) (le_min v_202) (le_max v_202) (le_min v_204) (le_max v_204) (le_min v_210) (le_max v_210) (le_min v_215) (le_max v_215) (le_min v_217) (le_max v_217)) dX3_workOut_198 (fun v_227 e_228 => ?_)
                        refine y_iald C0 h kSC_106 rfl (by decide) (o19_587 l1 u1 e_7 e_8 e_10 b_20 b_21 hn_19 c_22 b_32 b_33 hn_31 c_34 e_41 e_42 c_51 b_187 b_188 hn_186 e_190 c_191 e_197 e_201 e_203 e_205 e_211 e_216 e_218 e_226 e_228) (o19_588 l1 u1 e_7 e_8 e_10 b_20 b_21 hn_19 c_22 b_32 b_33 hn_31 c_34 e_41 e_42 c_51 b_187 b_188 hn_186 e_190 c_191 e_197 e_201 e_203 e_205 e_211 e_216 e_218 e_226 e_228) dX3_workOut_199 (fun v_229 e_230 e_231 e_232 => ?_)
                        refine y_iandU C0 dX3_workOut_200 (fun v_233 => ?_)
                        refine y_iorU C0 dX3_workOut_201 (fun v_234 => ?_)
                        refine y_iast C0 h kSC_105 rfl (by decide) (o19_589 l1 u1 e_7 e_8 e_10 b_20 b_21 hn_19 c_22 b_32 b_33 hn_31 c_34 e_41 e_42 c_51 b_187 b_188 hn_186 e_190 c_191 e_197 e_201 e_203 e_205 e_211 e_216 e_218 e_226 e_228) (o19_590 l1 u1 e_7 e_8 e_10 b_20 b_21 hn_19 c_22 b_32 b_33 hn_31 c_34 e_41 e_42 c_51 b_187 b_188 hn_186 e_190 c_191 e_197 e_201 e_203 e_205 e_211 e_216 e_218 e_226 e_228) (le_min v_234) (le_max v_234) dX3_workOut_202 (fun H locs ws_235 h u_236 => ?_)
                        refine y_inc (kp := 0) (n := 1) (fun v_237 => [(8, .int v_237), (7, .int r_40), (6, .int r_40), (5, .int r_48), (4, .int r_40), (3, .int x3_25), (2, .int v_9), (0, .ref (ad 104)), (1, .int a1)]) C0 hl rfl (by decide) (by decide) (fun _ => rfl) (o19_591 l1 u1 e_7 e_8 e_10 b_20 b_21 hn_19 c_22 b_32 b_33 hn_31 c_34 e_41 e_42 c_51 b_187 b_188 hn_186 e_190 c_191 e_197 e_201 e_203 e_205 e_211 e_216 e_218 e_226 e_228 (le_min x8_180) (le_max x8_180) (le_min a1) (le_max a1) (le_min r_6) (le_max r_6) (le_min v_9) (le_max v_9) (le_min x3_13) (le_max x3_13) (le_min x3_25) (le_max x3_25) (le_min r_40) (le_max r_40) (le_min v_189) (le_max v_189) (le_min v_196) (le_max v_196) (le_min v_200) (le_max v_200) (le_min v_202) (le_max v_202) (le_min v_204) (le_max v_204) (le_min v_210) (le_max v_210) (le_min v_215) (le_max v_215) (le_min v_217) (le_max v_217) (le_min v_225) (le_max v_225) (le_min v_227) (le_max v_227)) (o19_592 l1 u1 e_7 e_8 e_10 b_20 b_21 hn_19 c_22 b_32 b_33 hn_31 c_34 e_41 e_42 c_51 b_187 b_188 hn_186 e_190 c_191 e_197 e_201 e_203 e_205 e_211 e_216 e_218 e_226 e_228 (le_min x8_180) (le_max x8_180) (le_min a1) (le_max a1) (le_min r_6) (le_max r_6) (le_min v_9) (le_max v_9) (le_min x3_13) (le_max x3_13) (le_min x3_25) (le_max x3_25) (le_min r_40) (le_max r_40) (le_min v_189) (le_max v_189) (le_min v_196) (le_max v_196) (le_min v_200) (le_max v_200) (le_min v_202) (le_max v_202) (le_min v_204) (le_max v_204) (le_min v_210) (le_max v_210) (le_min v_215) (le_max v_215) (le_min v_217) (le_max v_217) (le_min v_225) (le_max v_225) (le_min v_227) (le_max v_227)) dX3_workOut_203 (fun v_237 ls e_238 hl => ?_)
                        refine lv_goto (tgt := 149) C0.1 C0.2.1 dX3_workOut_206 (by decide) ?_
                        exact ih_184 v_237 _ _ _ _ (o19_593 l1 u1 e_7 e_8 e_10 b_20 b_21 hn_19 c_22 b_32 b_33 hn_31 c_34 e_41 e_42 c_51 b_187 b_188 hn_186 e_190 c_191 e_197 e_201 e_203 e_205 e_211 e_216 e_218 e_226 e_228 e_238) (o19_594 l1 u1 e_7 e_8 e_10 b_20 b_21 hn_19 c_22 b_32 b_33 hn_31 c_34 e_41 e_42 c_51 b_187 b_188 hn_186 e_190 c_191 e_197 e_201 e_203 e_205 e_211 e_216 e_218 e_226 e_228 e_238) (o19_595 l1 u1 e_7 e_8 e_10 b_20 b_21 hn_19 c_22 b_32 b_33 hn_31 c_34 e_41 e_42 c_51 b_187 b_188 hn_186 e_190 c_191 e_197 e_201 e_203 e_205 e_211 e_216 e_218 e_226 e_228 e_238) h (Fr.tr hF_182 (Fr.up u_236.1 kSC_105 (by decide))) (lv_sub hl [0, 1, 2, 3, 4, 5, 6, 7, 8] rfl)
                  exact lp_183 ((4 - v_178.toInt + 1).toNat) v_178 _ _ _ _ (o19_86 e_179) (o19_87 e_179) (o19_88 e_179) h Fr.rf (lv_sub hl [0, 1, 2, 3, 4, 5, 6, 7, 8] rfl)
                · -- 134
                  refine lv_iload C0.1 C0.2.1 dX3_workOut_137 (lv_at hl 1 rfl) ?_
                  refine lv_goto (tgt := 144) C0.1 C0.2.1 dX3_workOut_139 (by decide) ?_
                  refine lv_istore (lv' := [(7, .int r_48), (6, .int r_40), (5, .int r_48), (4, .int r_40), (3, .int x3_25), (2, .int v_9), (0, .ref (ad 104)), (1, .int a1)]) C0.1 C0.2.1 dX3_workOut_144 hl (by decide) rfl (fun ls hl => ?_)
                  refine y_c1 (n := 0) C0 (by decide) dX3_workOut_146 (fun v_239 e_240 => ?_)
                  refine lv_istore (lv' := [(8, .int v_239), (7, .int r_48), (6, .int r_40), (5, .int r_48), (4, .int r_40), (3, .int x3_25), (2, .int v_9), (0, .ref (ad 104)), (1, .int a1)]) C0.1 C0.2.1 dX3_workOut_147 hl (by decide) rfl (fun ls hl => ?_)
                  have lp_244 : ∀ (n_246 : Nat) (x8_241 : Int32) (H : Heap) (locs : List Loc) (ls : Array Slot) (ws_242 : va_W), 4 - x8_241.toInt < (n_246 : Int) → 0 ≤ x8_241.toInt → x8_241.toInt ≤ 4 → Wt G (SC tt) ad A s H locs ws_242 → Fr (SC tt) [40] ws_45 ws_242 → lv_has ls 9 [(8, .int x8_241), (7, .int r_48), (6, .int r_40), (5, .int r_48), (4, .int r_40), (3, .int x3_25), (2, .int v_9), (0, .ref (ad 104)), (1, .int a1)] → W p l e (rmd 3 0 0) s m args below meth c H locs 0 0 Q (F0 m 149 ls []) := by
                    intro n_246
                    induction n_246 with
                    | zero => intro x8_241 H locs ls ws_242 hn_247 b_248 b_249 h hF_243 hl; exact ((o19_50 b_248 b_249 hn_247)).elim
                    | succ n_246 ih_245 =>
                      intro x8_241 H locs ls ws_242 hn_247 b_248 b_249 h hF_243 hl
                      refine lv_iload C0.1 C0.2.1 dX3_workOut_149 (lv_at hl 0 rfl) ?_
                      refine y_c1 (n := 4) C0 (by decide) dX3_workOut_151 (fun v_250 e_251 => ?_)
                      refine y_icmp_ge (tgt := 209) C0 dX3_workOut_152 (by decide) (fun c_252 => ?_) (fun c_252 => ?_)
                      · -- 152
                        refine y_inc (kp := 5) (n := 1) (fun v_253 => [(3, .int v_253), (8, .int x8_241), (7, .int r_48), (6, .int r_40), (5, .int r_48), (4, .int r_40), (2, .int v_9), (0, .ref (ad 104)), (1, .int a1)]) C0 hl rfl (by decide) (by decide) (fun _ => rfl) (o19_543 e_7 e_8 e_10 b_20 b_21 hn_19 c_22 b_32 b_33 hn_31 c_34 (le_min x3_25) (le_max x3_25) (le_min r_6) (le_max r_6) (le_min v_9) (le_max v_9) (le_min x3_13) (le_max x3_13)) (o19_544 e_7 e_8 e_10 b_20 b_21 hn_19 c_22 b_32 b_33 hn_31 c_34 (le_min x3_25) (le_max x3_25) (le_min r_6) (le_max r_6) (le_min v_9) (le_max v_9) (le_min x3_13) (le_max x3_13)) dX3_workOut_209 (fun v_253 ls e_254 hl => ?_)
                        refine lv_goto (tgt := 82) C0.1 C0.2.1 dX3_workOut_212 (by decide) ?_
                        exact ih_29 v_253 _ _ _ _ (o19_545 e_7 e_8 e_10 b_20 b_21 hn_19 c_22 b_32 b_33 hn_31 c_34 e_254) (o19_546 e_7 e_8 e_10 b_20 b_21 hn_19 c_22 b_32 b_33 hn_31 c_34 e_254) (o19_547 e_7 e_8 e_10 b_20 b_21 hn_19 c_22 b_32 b_33 hn_31 c_34 e_254) h (Fr.tr (Fr.tr (Fr.tr hF_27 (Fr.mono u_38 (by decide))) (Fr.mono u_46 (by decide))) hF_243) (lv_sub hl [0, 6, 7, 8] rfl)
                      · -- 152
                        refine lv_aload_n C0.1 C0.2.1 dX3_workOut_155 rfl (lv_at hl 7 rfl) ?_
                        refine tg_X3_catching C0 h kSC_104 q_476 dX3_workOut_156 ?_
                        refine lv_iload_n C0.1 C0.2.1 dX3_workOut_159 rfl (lv_at hl 8 rfl) ?_
                        refine y_c3 (n := 400) C0 (by decide) dX3_workOut_160 (fun v_255 e_256 => ?_)
                        refine y_mulc (n := 400) C0 (o19_548 e_256) (o19_549 l1 u1 (le_min a1) (le_max a1)) (o19_550 l1 u1 (le_min a1) (le_max a1)) dX3_workOut_163 (fun v_257 e_258 => ?_)
                        refine y_c1 (n := 4) C0 (by decide) dX3_workOut_164 (fun v_259 e_260 => ?_)
                        refine lv_iload_n C0.1 C0.2.1 dX3_workOut_165 rfl (lv_at hl 5 rfl) ?_
                        refine y_cmul (n := 4) C0 (o19_51 e_260) (o19_551 e_7 e_8 e_10 b_20 b_21 hn_19 c_22 b_32 b_33 hn_31 c_34 (le_min x3_25) (le_max x3_25) (le_min r_6) (le_max r_6) (le_min v_9) (le_max v_9) (le_min x3_13) (le_max x3_13)) (o19_552 e_7 e_8 e_10 b_20 b_21 hn_19 c_22 b_32 b_33 hn_31 c_34 (le_min x3_25) (le_max x3_25) (le_min r_6) (le_max r_6) (le_min v_9) (le_max v_9) (le_min x3_13) (le_max x3_13)) dX3_workOut_166 (fun v_261 e_262 => ?_)
                        refine y_add C0 (o19_553 l1 u1 e_7 e_8 e_10 b_20 b_21 hn_19 c_22 b_32 b_33 hn_31 c_34 e_258 e_262 (le_min v_257) (le_max v_257) (le_min v_261) (le_max v_261) (le_min a1) (le_max a1) (le_min r_6) (le_max r_6) (le_min v_9) (le_max v_9) (le_min x3_13) (le_max x3_13) (le_min x3_25) (le_max x3_25)) (o19_554 l1 u1 e_7 e_8 e_10 b_20 b_21 hn_19 c_22 b_32 b_33 hn_31 c_34 e_258 e_262 (le_min v_257) (le_max v_257) (le_min v_261) (le_max v_261) (le_min a1) (le_max a1) (le_min r_6) (le_max r_6) (le_min v_9) (le_max v_9) (le_min x3_13) (le_max x3_13) (le_min x3_25) (le_max x3_25)) dX3_workOut_167 (fun v_263 e_264 => ?_)
                        refine lv_iload C0.1 C0.2.1 dX3_workOut_168 (lv_at hl 0 rfl) ?_
                        refine y_add C0 (o19_555 l1 u1 e_7 e_8 e_10 b_20 b_21 hn_19 c_22 b_32 b_33 hn_31 c_34 b_248 b_249 hn_247 e_251 c_252 e_258 e_262 e_264 (le_min v_263) (le_max v_263) (le_min x8_241) (le_max x8_241) (le_min a1) (le_max a1) (le_min r_6) (le_max r_6) (le_min v_9) (le_max v_9) (le_min x3_13) (le_max x3_13) (le_min x3_25) (le_max x3_25) (le_min v_250) (le_max v_250) (le_min v_257) (le_max v_257) (le_min v_261) (le_max v_261)) (o19_556 l1 u1 e_7 e_8 e_10 b_20 b_21 hn_19 c_22 b_32 b_33 hn_31 c_34 b_248 b_249 hn_247 e_251 c_252 e_258 e_262 e_264 (le_min v_263) (le_max v_263) (le_min x8_241) (le_max x8_241) (le_min a1) (le_max a1) (le_min r_6) (le_max r_6) (le_min v_9) (le_max v_9) (le_min x3_13) (le_max x3_13) (le_min x3_25) (le_max x3_25) (le_min v_250) (le_max v_250) (le_min v_257) (le_max v_257) (le_min v_261) (le_max v_261)) dX3_workOut_170 (fun v_265 e_266 => ?_)
                        refine y_c1 (n := 1) C0 (by decide) dX3_workOut_171 (fun v_267 e_268 => ?_)
                        refine lv_iload_n C0.1 C0.2.1 dX3_workOut_172 rfl (lv_at hl 5 rfl) ?_
                        refine y_c1 (n := 2) C0 (by decide) dX3_workOut_173 (fun v_269 e_270 => ?_)
                        refine y_shr 2 2 (n := 4) C0 (Eq.trans (o19_90 e_270) (by decide)) (by decide) (by decide) dX3_workOut_174 (fun v_271 e_272 => ?_)
                        refine y_ishlU C0 dX3_workOut_175 (fun v_273 => ?_)
                        refine lv_aload_n C0.1 C0.2.1 dX3_workOut_176 rfl (lv_at hl 7 rfl) ?_
                        refine tg_X3_inTurn C0 h kSC_104 q_477 dX3_workOut_177 ?_
                        refine y_c1 (n := 4) C0 (by decide) dX3_workOut_180 (fun v_274 e_275 => ?_)
                        refine lv_iload C0.1 C0.2.1 dX3_workOut_181 (lv_at hl 2 rfl) ?_
                        refine y_cmul (n := 4) C0 (o19_51 e_275) (o19_577 e_41 e_42 c_51 (le_min r_40) (le_max r_40)) (o19_578 e_41 e_42 c_51 (le_min r_40) (le_max r_40)) dX3_workOut_183 (fun v_276 e_277 => ?_)
                        refine lv_iload C0.1 C0.2.1 dX3_workOut_184 (lv_at hl 0 rfl) ?_
                        refine y_add C0 (o19_579 l1 u1 e_7 e_8 e_10 b_20 b_21 hn_19 c_22 b_32 b_33 hn_31 c_34 e_41 e_42 c_51 b_248 b_249 hn_247 e_251 c_252 e_258 e_262 e_264 e_266 e_272 e_277 (le_min v_276) (le_max v_276) (le_min x8_241) (le_max x8_241) (le_min a1) (le_max a1) (le_min r_6) (le_max r_6) (le_min v_9) (le_max v_9) (le_min x3_13) (le_max x3_13) (le_min x3_25) (le_max x3_25) (le_min r_40) (le_max r_40) (le_min v_250) (le_max v_250) (le_min v_257) (le_max v_257) (le_min v_261) (le_max v_261) (le_min v_263) (le_max v_263) (le_min v_265) (le_max v_265) (le_min v_271) (le_max v_271)) (o19_580 l1 u1 e_7 e_8 e_10 b_20 b_21 hn_19 c_22 b_32 b_33 hn_31 c_34 e_41 e_42 c_51 b_248 b_249 hn_247 e_251 c_252 e_258 e_262 e_264 e_266 e_272 e_277 (le_min v_276) (le_max v_276) (le_min x8_241) (le_max x8_241) (le_min a1) (le_max a1) (le_min r_6) (le_max r_6) (le_min v_9) (le_max v_9) (le_min x3_13) (le_max x3_13) (le_min x3_25) (le_max x3_25) (le_min r_40) (le_max r_40) (le_min v_250) (le_max v_250) (le_min v_257) (le_max v_257) (le_min v_261) (le_max v_261) (le_min v_263) (le_max v_263) (le_min v_265) (le_max v_265) (le_min v_271) (le_max v_271)) dX3_workOut_186 (fun v_278 e_279 => ?_)
                        refine y_iald C0 h kSC_106 rfl (by decide) (o19_581 l1 u1 e_7 e_8 e_10 b_20 b_21 hn_19 c_22 b_32 b_33 hn_31 c_34 e_41 e_42 c_51 b_248 b_249 hn_247 e_251 c_252 e_258 e_262 e_264 e_266 e_272 e_277 e_279) (o19_582 l1 u1 e_7 e_8 e_10 b_20 b_21 hn_19 c_22 b_32 b_33 hn_31 c_34 e_41 e_42 c_51 b_248 b_249 hn_247 e_251 c_252 e_258 e_262 e_264 e_266 e_272 e_277 e_279) dX3_workOut_187 (fun v_280 e_281 e_282 e_283 => ?_)
                        refine lv_aload_n C0.1 C0.2.1 dX3_workOut_188 rfl (lv_at hl 7 rfl) ?_
                        refine tg_X3_inTurn C0 h kSC_104 q_477 dX3_workOut_189 ?_
                        refine y_c1 (n := 4) C0 (by decide) dX3_workOut_192 (fun v_284 e_285 => ?_)
                        refine lv_iload C0.1 C0.2.1 dX3_workOut_193 (lv_at hl 1 rfl) ?_
                        refine y_cmul (n := 4) C0 (o19_51 e_285) (o19_577 e_49 e_50 c_177 (le_min r_48) (le_max r_48)) (o19_578 e_49 e_50 c_177 (le_min r_48) (le_max r_48)) dX3_workOut_195 (fun v_286 e_287 => ?_)
                        refine lv_iload C0.1 C0.2.1 dX3_workOut_196 (lv_at hl 0 rfl) ?_
                        refine y_add C0 (o19_596 l1 u1 e_7 e_8 e_10 b_20 b_21 hn_19 c_22 b_32 b_33 hn_31 c_34 e_41 e_42 e_49 e_50 c_51 c_177 b_248 b_249 hn_247 e_251 c_252 e_258 e_262 e_264 e_266 e_272 e_277 e_279 e_287 (le_min v_286) (le_max v_286) (le_min x8_241) (le_max x8_241) (le_min a1) (le_max a1) (le_min r_6) (le_max r_6) (le_min v_9) (le_max v_9) (le_min x3_13) (le_max x3_13) (le_min x3_25) (le_max x3_25) (le_min r_40) (le_max r_40) (le_min r_48) (le_max r_48) (le_min v_250) (le_max v_250) (le_min v_257) (le_max v_257) (le_min v_261) (le_max v_261) (le_min v_263) (le_max v_263) (le_min v_265) (le_max v_265) (le_min v_271) (le_max v_271) (le_min v_276) (le_max v_276) (le_min v_278) (le_max v_278)) (o19_597 l1 u1 e_7 e_8 e_10 b_20 b_21 hn_19 c_22 b_32 b_33 hn_31 c_34 e_41 e_42 e_49 e_50 c_51 c_177 b_248 b_249 hn_247 e_251 c_252 e_258 e_262 e_264 e_266 e_272 e_277 e_279 e_287 (le_min v_286) (le_max v_286) (le_min x8_241) (le_max x8_241) (le_min a1) (le_max a1) (le_min r_6) (le_max r_6) (le_min v_9) (le_max v_9) (le_min x3_13) (le_max x3_13) (le_min x3_25) (le_max x3_25) (le_min r_40) (le_max r_40) (le_min r_48) (le_max r_48) (le_min v_250) (le_max v_250) (le_min v_257) (le_max v_257) (le_min v_261) (le_max v_261) (le_min v_263) (le_max v_263) (le_min v_265) (le_max v_265) (le_min v_271) (le_max v_271) (le_min v_276) (le_max v_276) (le_min v_278) (le_max v_278)) dX3_workOut_198 (fun v_288 e_289 => ?_)
                        refine y_iald C0 h kSC_106 rfl (by decide) (o19_598 l1 u1 e_7 e_8 e_10 b_20 b_21 hn_19 c_22 b_32 b_33 hn_31 c_34 e_41 e_42 e_49 e_50 c_51 c_177 b_248 b_249 hn_247 e_251 c_252 e_258 e_262 e_264 e_266 e_272 e_277 e_279 e_287 e_289) (o19_599 l1 u1 e_7 e_8 e_10 b_20 b_21 hn_19 c_22 b_32 b_33 hn_31 c_34 e_41 e_42 e_49 e_50 c_51 c_177 b_248 b_249 hn_247 e_251 c_252 e_258 e_262 e_264 e_266 e_272 e_277 e_279 e_287 e_289) dX3_workOut_199 (fun v_290 e_291 e_292 e_293 => ?_)
                        refine y_iandU C0 dX3_workOut_200 (fun v_294 => ?_)
                        refine y_iorU C0 dX3_workOut_201 (fun v_295 => ?_)
                        refine y_iast C0 h kSC_105 rfl (by decide) (o19_600 l1 u1 e_7 e_8 e_10 b_20 b_21 hn_19 c_22 b_32 b_33 hn_31 c_34 e_41 e_42 e_49 e_50 c_51 c_177 b_248 b_249 hn_247 e_251 c_252 e_258 e_262 e_264 e_266 e_272 e_277 e_279 e_287 e_289) (o19_601 l1 u1 e_7 e_8 e_10 b_20 b_21 hn_19 c_22 b_32 b_33 hn_31 c_34 e_41 e_42 e_49 e_50 c_51 c_177 b_248 b_249 hn_247 e_251 c_252 e_258 e_262 e_264 e_266 e_272 e_277 e_279 e_287 e_289) (le_min v_295) (le_max v_295) dX3_workOut_202 (fun H locs ws_296 h u_297 => ?_)
                        refine y_inc (kp := 0) (n := 1) (fun v_298 => [(8, .int v_298), (7, .int r_48), (6, .int r_40), (5, .int r_48), (4, .int r_40), (3, .int x3_25), (2, .int v_9), (0, .ref (ad 104)), (1, .int a1)]) C0 hl rfl (by decide) (by decide) (fun _ => rfl) (o19_602 l1 u1 e_7 e_8 e_10 b_20 b_21 hn_19 c_22 b_32 b_33 hn_31 c_34 e_41 e_42 e_49 e_50 c_51 c_177 b_248 b_249 hn_247 e_251 c_252 e_258 e_262 e_264 e_266 e_272 e_277 e_279 e_287 e_289 (le_min x8_241) (le_max x8_241) (le_min a1) (le_max a1) (le_min r_6) (le_max r_6) (le_min v_9) (le_max v_9) (le_min x3_13) (le_max x3_13) (le_min x3_25) (le_max x3_25) (le_min r_40) (le_max r_40) (le_min r_48) (le_max r_48) (le_min v_250) (le_max v_250) (le_min v_257) (le_max v_257) (le_min v_261) (le_max v_261) (le_min v_263) (le_max v_263) (le_min v_265) (le_max v_265) (le_min v_271) (le_max v_271) (le_min v_276) (le_max v_276) (le_min v_278) (le_max v_278) (le_min v_286) (le_max v_286) (le_min v_288) (le_max v_288)) (o19_603 l1 u1 e_7 e_8 e_10 b_20 b_21 hn_19 c_22 b_32 b_33 hn_31 c_34 e_41 e_42 e_49 e_50 c_51 c_177 b_248 b_249 hn_247 e_251 c_252 e_258 e_262 e_264 e_266 e_272 e_277 e_279 e_287 e_289 (le_min x8_241) (le_max x8_241) (le_min a1) (le_max a1) (le_min r_6) (le_max r_6) (le_min v_9) (le_max v_9) (le_min x3_13) (le_max x3_13) (le_min x3_25) (le_max x3_25) (le_min r_40) (le_max r_40) (le_min r_48) (le_max r_48) (le_min v_250) (le_max v_250) (le_min v_257) (le_max v_257) (le_min v_261) (le_max v_261) (le_min v_263) (le_max v_263) (le_min v_265) (le_max v_265) (le_min v_271) (le_max v_271) (le_min v_276) (le_max v_276) (le_min v_278) (le_max v_278) (le_min v_286) (le_max v_286) (le_min v_288) (le_max v_288)) dX3_workOut_203 (fun v_298 ls e_299 hl => ?_)
                        refine lv_goto (tgt := 149) C0.1 C0.2.1 dX3_workOut_206 (by decide) ?_
                        exact ih_245 v_298 _ _ _ _ (o19_604 l1 u1 e_7 e_8 e_10 b_20 b_21 hn_19 c_22 b_32 b_33 hn_31 c_34 e_41 e_42 e_49 e_50 c_51 c_177 b_248 b_249 hn_247 e_251 c_252 e_258 e_262 e_264 e_266 e_272 e_277 e_279 e_287 e_289 e_299) (o19_605 l1 u1 e_7 e_8 e_10 b_20 b_21 hn_19 c_22 b_32 b_33 hn_31 c_34 e_41 e_42 e_49 e_50 c_51 c_177 b_248 b_249 hn_247 e_251 c_252 e_258 e_262 e_264 e_266 e_272 e_277 e_279 e_287 e_289 e_299) (o19_606 l1 u1 e_7 e_8 e_10 b_20 b_21 hn_19 c_22 b_32 b_33 hn_31 c_34 e_41 e_42 e_49 e_50 c_51 c_177 b_248 b_249 hn_247 e_251 c_252 e_258 e_262 e_264 e_266 e_272 e_277 e_279 e_287 e_289 e_299) h (Fr.tr hF_243 (Fr.up u_297.1 kSC_105 (by decide))) (lv_sub hl [0, 1, 2, 3, 4, 5, 6, 7, 8] rfl)
                  exact lp_244 ((4 - v_239.toInt + 1).toNat) v_239 _ _ _ _ (o19_86 e_240) (o19_87 e_240) (o19_88 e_240) h Fr.rf (lv_sub hl [0, 1, 2, 3, 4, 5, 6, 7, 8] rfl)
        exact lp_28 ((100 - v_23.toInt + 1).toNat) v_23 _ _ _ _ (o19_412 e_24) (o19_87 e_24) (o19_413 e_24) h Fr.rf (lv_sub hl [0, 1, 2, 3] rfl)
      · -- 14
        refine y_c1 (n := 0) C0 (by decide) dX3_workOut_17 (fun v_300 e_301 => ?_)
        refine lv_istore (lv' := [(4, .int v_300), (3, .int x3_13), (2, .int v_9), (0, .ref (ad 104)), (1, .int a1)]) C0.1 C0.2.1 dX3_workOut_18 hl (by decide) rfl (fun ls hl => ?_)
        have lp_305 : ∀ (n_307 : Nat) (x4_302 : Int32) (H : Heap) (locs : List Loc) (ls : Array Slot) (ws_303 : va_W), 4 - x4_302.toInt < (n_307 : Int) → 0 ≤ x4_302.toInt → x4_302.toInt ≤ 4 → Wt G (SC tt) ad A s H locs ws_303 → Fr (SC tt) [41] ws_14 ws_303 → lv_has ls 9 [(4, .int x4_302), (3, .int x3_13), (2, .int v_9), (0, .ref (ad 104)), (1, .int a1)] → W p l e (rmd 3 0 0) s m args below meth c H locs 0 0 Q (F0 m 20 ls []) := by
          intro n_307
          induction n_307 with
          | zero => intro x4_302 H locs ls ws_303 hn_308 b_309 b_310 h hF_304 hl; exact ((o19_50 b_309 b_310 hn_308)).elim
          | succ n_307 ih_306 =>
            intro x4_302 H locs ls ws_303 hn_308 b_309 b_310 h hF_304 hl
            refine lv_iload C0.1 C0.2.1 dX3_workOut_20 (lv_at hl 0 rfl) ?_
            refine y_c1 (n := 4) C0 (by decide) dX3_workOut_22 (fun v_311 e_312 => ?_)
            refine y_icmp_ge (tgt := 74) C0 dX3_workOut_23 (by decide) (fun c_313 => ?_) (fun c_313 => ?_)
            · -- 23
              refine y_inc (kp := 1) (n := 1) (fun v_314 => [(3, .int v_314), (4, .int x4_302), (2, .int v_9), (0, .ref (ad 104)), (1, .int a1)]) C0 hl rfl (by decide) (by decide) (fun _ => rfl) (o19_397 e_7 e_8 e_10 b_20 b_21 hn_19 c_22 (le_min x3_13) (le_max x3_13) (le_min r_6) (le_max r_6) (le_min v_9) (le_max v_9)) (o19_398 e_7 e_8 e_10 b_20 b_21 hn_19 c_22 (le_min x3_13) (le_max x3_13) (le_min r_6) (le_max r_6) (le_min v_9) (le_max v_9)) dX3_workOut_74 (fun v_314 ls e_315 hl => ?_)
              refine lv_goto (tgt := 12) C0.1 C0.2.1 dX3_workOut_77 (by decide) ?_
              exact ih_17 v_314 _ _ _ _ (o19_399 e_7 e_8 e_10 b_20 b_21 hn_19 c_22 e_315) (o19_400 e_7 e_8 e_10 b_20 b_21 hn_19 c_22 e_315) (o19_401 e_7 e_8 e_10 b_20 b_21 hn_19 c_22 e_315) h (Fr.tr hF_15 hF_304) (lv_sub hl [0, 2, 3, 4] rfl)
            · -- 23
              refine lv_aload_n C0.1 C0.2.1 dX3_workOut_26 rfl (lv_at hl 3 rfl) ?_
              refine tg_X3_inTurn C0 h kSC_104 q_477 dX3_workOut_27 ?_
              refine y_c1 (n := 4) C0 (by decide) dX3_workOut_30 (fun v_316 e_317 => ?_)
              refine lv_iload_n C0.1 C0.2.1 dX3_workOut_31 rfl (lv_at hl 1 rfl) ?_
              refine y_cmul (n := 4) C0 (o19_51 e_317) (o19_607 e_7 e_8 e_10 b_20 b_21 hn_19 c_22 (le_min x3_13) (le_max x3_13) (le_min r_6) (le_max r_6) (le_min v_9) (le_max v_9)) (o19_608 e_7 e_8 e_10 b_20 b_21 hn_19 c_22 (le_min x3_13) (le_max x3_13) (le_min r_6) (le_max r_6) (le_min v_9) (le_max v_9)) dX3_workOut_32 (fun v_318 e_319 => ?_)
              refine lv_iload C0.1 C0.2.1 dX3_workOut_33 (lv_at hl 0 rfl) ?_
              refine y_add C0 (o19_609 e_7 e_8 e_10 b_20 b_21 hn_19 c_22 b_309 b_310 hn_308 e_312 c_313 e_319 (le_min v_318) (le_max v_318) (le_min x4_302) (le_max x4_302) (le_min r_6) (le_max r_6) (le_min v_9) (le_max v_9) (le_min x3_13) (le_max x3_13) (le_min v_311) (le_max v_311)) (o19_610 e_7 e_8 e_10 b_20 b_21 hn_19 c_22 b_309 b_310 hn_308 e_312 c_313 e_319 (le_min v_318) (le_max v_318) (le_min x4_302) (le_max x4_302) (le_min r_6) (le_max r_6) (le_min v_9) (le_max v_9) (le_min x3_13) (le_max x3_13) (le_min v_311) (le_max v_311)) dX3_workOut_35 (fun v_320 e_321 => ?_)
              refine y_c1 (n := 1) C0 (by decide) dX3_workOut_36 (fun v_322 e_323 => ?_)
              refine lv_iload_n C0.1 C0.2.1 dX3_workOut_37 rfl (lv_at hl 1 rfl) ?_
              refine y_c1 (n := 2) C0 (by decide) dX3_workOut_38 (fun v_324 e_325 => ?_)
              refine y_shr 2 2 (n := 4) C0 (Eq.trans (o19_90 e_325) (by decide)) (by decide) (by decide) dX3_workOut_39 (fun v_326 e_327 => ?_)
              refine y_ishlU C0 dX3_workOut_40 (fun v_328 => ?_)
              refine lv_iload_n C0.1 C0.2.1 dX3_workOut_41 rfl (lv_at hl 4 rfl) ?_
              refine y_if_le (tgt := 65) C0 dX3_workOut_42 (by decide) (fun c_329 => ?_) (fun c_329 => ?_)
              · -- 42
                refine y_c1 (n := 0) C0 (by decide) dX3_workOut_65 (fun v_330 e_331 => ?_)
                refine y_iorU C0 dX3_workOut_66 (fun v_332 => ?_)
                refine y_iast C0 h kSC_106 rfl (by decide) (o19_611 e_7 e_8 e_10 b_20 b_21 hn_19 c_22 b_309 b_310 hn_308 e_312 c_313 e_319 e_321 e_327) (o19_612 e_7 e_8 e_10 b_20 b_21 hn_19 c_22 b_309 b_310 hn_308 e_312 c_313 e_319 e_321 e_327) (le_min v_332) (le_max v_332) dX3_workOut_67 (fun H locs ws_333 h u_334 => ?_)
                refine y_inc (kp := 0) (n := 1) (fun v_335 => [(4, .int v_335), (3, .int x3_13), (2, .int v_9), (0, .ref (ad 104)), (1, .int a1)]) C0 hl rfl (by decide) (by decide) (fun _ => rfl) (o19_613 e_7 e_8 e_10 b_20 b_21 hn_19 c_22 b_309 b_310 hn_308 e_312 c_313 e_319 e_321 e_327 (le_min x4_302) (le_max x4_302) (le_min r_6) (le_max r_6) (le_min v_9) (le_max v_9) (le_min x3_13) (le_max x3_13) (le_min v_311) (le_max v_311) (le_min v_318) (le_max v_318) (le_min v_320) (le_max v_320) (le_min v_326) (le_max v_326)) (o19_614 e_7 e_8 e_10 b_20 b_21 hn_19 c_22 b_309 b_310 hn_308 e_312 c_313 e_319 e_321 e_327 (le_min x4_302) (le_max x4_302) (le_min r_6) (le_max r_6) (le_min v_9) (le_max v_9) (le_min x3_13) (le_max x3_13) (le_min v_311) (le_max v_311) (le_min v_318) (le_max v_318) (le_min v_320) (le_max v_320) (le_min v_326) (le_max v_326)) dX3_workOut_68 (fun v_335 ls e_336 hl => ?_)
                refine lv_goto (tgt := 20) C0.1 C0.2.1 dX3_workOut_71 (by decide) ?_
                exact ih_306 v_335 _ _ _ _ (o19_615 e_7 e_8 e_10 b_20 b_21 hn_19 c_22 b_309 b_310 hn_308 e_312 c_313 e_319 e_321 e_327 e_336) (o19_616 e_7 e_8 e_10 b_20 b_21 hn_19 c_22 b_309 b_310 hn_308 e_312 c_313 e_319 e_321 e_327 e_336) (o19_617 e_7 e_8 e_10 b_20 b_21 hn_19 c_22 b_309 b_310 hn_308 e_312 c_313 e_319 e_321 e_327 e_336) h (Fr.tr hF_304 (Fr.up u_334.1 kSC_106 (by decide))) (lv_sub hl [0, 1, 2, 3, 4] rfl)
              · -- 42
                refine lv_aload_n C0.1 C0.2.1 dX3_workOut_45 rfl (lv_at hl 3 rfl) ?_
                refine lv_iload_n C0.1 C0.2.1 dX3_workOut_46 rfl (lv_at hl 4 rfl) ?_
                refine y_c1 (n := 1) C0 (by decide) dX3_workOut_47 (fun v_337 e_338 => ?_)
                refine y_sub C0 (o19_618 l1 u1 c_329 e_338 (le_min a1) (le_max a1) (le_min v_337) (le_max v_337)) (o19_619 l1 u1 c_329 e_338 (le_min a1) (le_max a1) (le_min v_337) (le_max v_337)) dX3_workOut_48 (fun v_339 e_340 => ?_)
                refine y_c3 (n := 400) C0 (by decide) dX3_workOut_49 (fun v_341 e_342 => ?_)
                refine y_mulc (n := 400) C0 (o19_548 e_342) (o19_620 l1 u1 c_329 e_338 e_340 (le_min v_339) (le_max v_339) (le_min a1) (le_max a1) (le_min v_337) (le_max v_337)) (o19_621 l1 u1 c_329 e_338 e_340 (le_min v_339) (le_max v_339) (le_min a1) (le_max a1) (le_min v_337) (le_max v_337)) dX3_workOut_52 (fun v_343 e_344 => ?_)
                refine y_c1 (n := 4) C0 (by decide) dX3_workOut_53 (fun v_345 e_346 => ?_)
                refine lv_iload_n C0.1 C0.2.1 dX3_workOut_54 rfl (lv_at hl 1 rfl) ?_
                refine y_cmul (n := 4) C0 (o19_51 e_346) (o19_622 e_7 e_8 e_10 b_20 b_21 hn_19 c_22 b_309 b_310 hn_308 e_312 c_313 e_319 e_321 e_327 (le_min x3_13) (le_max x3_13) (le_min r_6) (le_max r_6) (le_min v_9) (le_max v_9) (le_min x4_302) (le_max x4_302) (le_min v_311) (le_max v_311) (le_min v_318) (le_max v_318) (le_min v_320) (le_max v_320) (le_min v_326) (le_max v_326)) (o19_623 e_7 e_8 e_10 b_20 b_21 hn_19 c_22 b_309 b_310 hn_308 e_312 c_313 e_319 e_321 e_327 (le_min x3_13) (le_max x3_13) (le_min r_6) (le_max r_6) (le_min v_9) (le_max v_9) (le_min x4_302) (le_max x4_302) (le_min v_311) (le_max v_311) (le_min v_318) (le_max v_318) (le_min v_320) (le_max v_320) (le_min v_326) (le_max v_326)) dX3_workOut_55 (fun v_347 e_348 => ?_)
                refine y_add C0 (o19_624 l1 u1 e_7 e_8 e_10 b_20 b_21 hn_19 c_22 b_309 b_310 hn_308 e_312 c_313 e_319 e_321 e_327 c_329 e_338 e_340 e_344 e_348 (le_min v_343) (le_max v_343) (le_min v_347) (le_max v_347) (le_min a1) (le_max a1) (le_min r_6) (le_max r_6) (le_min v_9) (le_max v_9) (le_min x3_13) (le_max x3_13) (le_min x4_302) (le_max x4_302) (le_min v_311) (le_max v_311) (le_min v_318) (le_max v_318) (le_min v_320) (le_max v_320) (le_min v_326) (le_max v_326) (le_min v_337) (le_max v_337) (le_min v_339) (le_max v_339)) (o19_625 l1 u1 e_7 e_8 e_10 b_20 b_21 hn_19 c_22 b_309 b_310 hn_308 e_312 c_313 e_319 e_321 e_327 c_329 e_338 e_340 e_344 e_348 (le_min v_343) (le_max v_343) (le_min v_347) (le_max v_347) (le_min a1) (le_max a1) (le_min r_6) (le_max r_6) (le_min v_9) (le_max v_9) (le_min x3_13) (le_max x3_13) (le_min x4_302) (le_max x4_302) (le_min v_311) (le_max v_311) (le_min v_318) (le_max v_318) (le_min v_320) (le_max v_320) (le_min v_326) (le_max v_326) (le_min v_337) (le_max v_337) (le_min v_339) (le_max v_339)) dX3_workOut_56 (fun v_349 e_350 => ?_)
                refine lv_iload C0.1 C0.2.1 dX3_workOut_57 (lv_at hl 0 rfl) ?_
                refine y_ci h (y_rV (As := [.int v_349, .int x4_302]) (rest := [.int v_328, .int v_320, .ref (ad 106)]) C0 hZ h (c_X3_watchGoes l G Z ad _ h.2 v_349 x4_302 (o19_626 l1 u1 e_7 e_8 e_10 b_20 b_21 hn_19 c_22 b_309 b_310 hn_308 e_312 c_313 e_319 e_321 e_327 c_329 e_338 e_340 e_344 e_348 e_350) (o19_627 l1 u1 e_7 e_8 e_10 b_20 b_21 hn_19 c_22 b_309 b_310 hn_308 e_312 c_313 e_319 e_321 e_327 c_329 e_338 e_340 e_344 e_348 e_350) (o19_628 l1 u1 e_7 e_8 e_10 b_20 b_21 hn_19 c_22 b_309 b_310 hn_308 e_312 c_313 e_319 e_321 e_327 c_329 e_338 e_340 e_344 e_348 e_350) (o19_629 l1 u1 e_7 e_8 e_10 b_20 b_21 hn_19 c_22 b_309 b_310 hn_308 e_312 c_313 e_319 e_321 e_327 c_329 e_338 e_340 e_344 e_348 e_350)) k_X3_watchGoes q_1370 q_54 q_1368 kSC_104 rfl rfl rfl hl.1 rfl rfl (Nat.le_of_ble_eq_true rfl) dX3_workOut_59 ⟨Nat.le_of_ble_eq_true rfl, Nat.le_of_ble_eq_true rfl⟩ ⟨Nat.le_of_ble_eq_true rfl, Nat.le_of_ble_eq_true rfl⟩) (fun r_354 H locs ws_351 h u_352 p_353 => ?_)
                refine lv_goto (tgt := 66) C0.1 C0.2.1 dX3_workOut_62 (by decide) ?_
                refine y_iorU C0 dX3_workOut_66 (fun v_355 => ?_)
                refine y_iast C0 h kSC_106 rfl (by decide) (o19_630 l1 u1 e_7 e_8 e_10 b_20 b_21 hn_19 c_22 b_309 b_310 hn_308 e_312 c_313 e_319 e_321 e_327 c_329 e_338 e_340 e_344 e_348 e_350) (o19_631 l1 u1 e_7 e_8 e_10 b_20 b_21 hn_19 c_22 b_309 b_310 hn_308 e_312 c_313 e_319 e_321 e_327 c_329 e_338 e_340 e_344 e_348 e_350) (le_min v_355) (le_max v_355) dX3_workOut_67 (fun H locs ws_356 h u_357 => ?_)
                refine y_inc (kp := 0) (n := 1) (fun v_358 => [(4, .int v_358), (3, .int x3_13), (2, .int v_9), (0, .ref (ad 104)), (1, .int a1)]) C0 hl rfl (by decide) (by decide) (fun _ => rfl) (o19_632 l1 u1 e_7 e_8 e_10 b_20 b_21 hn_19 c_22 b_309 b_310 hn_308 e_312 c_313 e_319 e_321 e_327 c_329 e_338 e_340 e_344 e_348 e_350 (le_min x4_302) (le_max x4_302) (le_min a1) (le_max a1) (le_min r_6) (le_max r_6) (le_min v_9) (le_max v_9) (le_min x3_13) (le_max x3_13) (le_min v_311) (le_max v_311) (le_min v_318) (le_max v_318) (le_min v_320) (le_max v_320) (le_min v_326) (le_max v_326) (le_min v_337) (le_max v_337) (le_min v_339) (le_max v_339) (le_min v_343) (le_max v_343) (le_min v_347) (le_max v_347) (le_min v_349) (le_max v_349)) (o19_633 l1 u1 e_7 e_8 e_10 b_20 b_21 hn_19 c_22 b_309 b_310 hn_308 e_312 c_313 e_319 e_321 e_327 c_329 e_338 e_340 e_344 e_348 e_350 (le_min x4_302) (le_max x4_302) (le_min a1) (le_max a1) (le_min r_6) (le_max r_6) (le_min v_9) (le_max v_9) (le_min x3_13) (le_max x3_13) (le_min v_311) (le_max v_311) (le_min v_318) (le_max v_318) (le_min v_320) (le_max v_320) (le_min v_326) (le_max v_326) (le_min v_337) (le_max v_337) (le_min v_339) (le_max v_339) (le_min v_343) (le_max v_343) (le_min v_347) (le_max v_347) (le_min v_349) (le_max v_349)) dX3_workOut_68 (fun v_358 ls e_359 hl => ?_)
                refine lv_goto (tgt := 20) C0.1 C0.2.1 dX3_workOut_71 (by decide) ?_
                exact ih_306 v_358 _ _ _ _ (o19_634 l1 u1 e_7 e_8 e_10 b_20 b_21 hn_19 c_22 b_309 b_310 hn_308 e_312 c_313 e_319 e_321 e_327 c_329 e_338 e_340 e_344 e_348 e_350 e_359) (o19_635 l1 u1 e_7 e_8 e_10 b_20 b_21 hn_19 c_22 b_309 b_310 hn_308 e_312 c_313 e_319 e_321 e_327 c_329 e_338 e_340 e_344 e_348 e_350 e_359) (o19_636 l1 u1 e_7 e_8 e_10 b_20 b_21 hn_19 c_22 b_309 b_310 hn_308 e_312 c_313 e_319 e_321 e_327 c_329 e_338 e_340 e_344 e_348 e_350 e_359) h (Fr.tr (Fr.tr hF_304 (Fr.mono u_352 (by decide))) (Fr.up u_357.1 kSC_106 (by decide))) (lv_sub hl [0, 1, 2, 3, 4] rfl)
        exact lp_305 ((4 - v_300.toInt + 1).toNat) v_300 _ _ _ _ (o19_86 e_301) (o19_87 e_301) (o19_88 e_301) h Fr.rf (lv_sub hl [0, 1, 2, 3, 4] rfl)
  exact lp_16 ((100 - v_11.toInt + 1).toNat) v_11 _ _ _ _ (o19_412 e_12) (o19_87 e_12) (o19_413 e_12) h Fr.rf (lv_sub hl [0, 1, 2, 3] rfl)
set_option maxHeartbeats 4000000 in
set_option maxRecDepth 100000 in
theorem c_X3_forget (l : Launch) (G : GG) (Z : RZ) (ad : Nat → Nat) (ws0 : va_W) (hT : Ty G (SC tt) ad ws0) : Mq l yX3_forget cX3_forget 1 none 1 G Z [.ref (ad 104)] ws0 (PV G (SC tt) ad [39] ws0 (fun u => (Hok u))) := by
  refine Mq.start (by decide) (Nat.le_of_ble_eq_true rfl) ?_
  intro p e s m below meth c A ls C0 hZ h hl
  have hl : lv_has ls 1 [(0, .ref (ad 104))] := hl
  have h : Wt G (SC tt) ad A s s.heap [] ws0 := ⟨h, hT⟩
  obtain ⟨args, hargs⟩ : ∃ z, z = ([.ref (ad 104)] : List Value).toArray := ⟨_, rfl⟩
  rw [← hargs] at C0 ⊢
  have C0 : Cx p s m args meth c RX3 cX3_forget 1 none := C0
  obtain ⟨Q, hQ⟩ : ∃ z, z = MQ below ((PV G (SC tt) ad [39] ws0 (fun u => (Hok u))) A) args s 0 0 A := ⟨_, rfl⟩
  rw [← hQ]
  refine lv_aload_n C0.1 C0.2.1 dX3_forget_0 rfl (lv_at hl 0 rfl) ?_
  refine y_c1 (n := 0) C0 (by decide) dX3_forget_1 (fun v_1 e_2 => ?_)
  refine tp_X3_known C0 h kSC_104 q_478 (o19_87 e_2) (o19_637 e_2) dX3_forget_2 (fun H locs ws_3 h u_4 => ?_)
  refine lv_aload_n C0.1 C0.2.1 dX3_forget_5 rfl (lv_at hl 0 rfl) ?_
  refine y_c1 (n := 0) C0 (by decide) dX3_forget_6 (fun v_5 e_6 => ?_)
  refine tp_X3_settled C0 h kSC_104 q_479 (o19_87 e_6) (o19_93 e_6) dX3_forget_7 (fun H locs ws_7 h u_8 => ?_)
  rw [hQ]
  exact y_vret C0 h (Fr.tr (Fr.up u_4.1 kSC_104 (by decide)) (Fr.up u_8.1 kSC_104 (by decide))) (hok_to (Eq.trans rfl u_8.2.1) (Eq.trans (u_8.2.2 3 (by decide)) u_4.2.1) (o19_638 e_2 e_6)) dX3_forget_10
set_option maxHeartbeats 4000000 in
set_option maxRecDepth 100000 in
theorem c_X3_catching (l : Launch) (G : GG) (Z : RZ) (ad : Nat → Nat) (ws0 : va_W) (hT : Ty G (SC tt) ad ws0) (a1 : Int32) (a2 : Int32) (a3 : Int32) (l1 : 0 ≤ a1.toInt) (u1 : a1.toInt ≤ 99) (l2 : 0 ≤ a2.toInt) (u2 : a2.toInt ≤ 3) (l3 : 0 ≤ a3.toInt) (u3 : a3.toInt ≤ 30) (hR : Rel ws0) (hH : Hok ws0) : Mq l yX3_catching cX3_catching 4 (some .int) 4 G Z [.ref (ad 104), .int a1, .int a2, .int a3] ws0 (PI G (SC tt) ad [39, 40, 41] ws0 (fun r u => (Hok u))) := by
  refine Mq.start (by decide) (Nat.le_of_ble_eq_true rfl) ?_
  intro p e s m below meth c A ls C0 hZ h hl
  have hl : lv_has ls 4 [(0, .ref (ad 104)), (1, .int a1), (2, .int a2), (3, .int a3)] := hl
  have h : Wt G (SC tt) ad A s s.heap [] ws0 := ⟨h, hT⟩
  obtain ⟨args, hargs⟩ : ∃ z, z = ([.ref (ad 104), .int a1, .int a2, .int a3] : List Value).toArray := ⟨_, rfl⟩
  rw [← hargs] at C0 ⊢
  have C0 : Cx p s m args meth c RX3 cX3_catching 4 (some .int) := C0
  obtain ⟨Q, hQ⟩ : ∃ z, z = MQ below ((PI G (SC tt) ad [39, 40, 41] ws0 (fun r u => (Hok u))) A) args s 0 0 A := ⟨_, rfl⟩
  rw [← hQ]
  obtain ⟨f_1, e_2⟩ : ∃ v, fI ws0 104 4 = v := ⟨_, rfl⟩
  have b_3 := ty_fI (k := 4) h.2 kSC_104 rfl rfl
  rw [e_2] at b_3
  obtain ⟨f_4, e_5⟩ : ∃ v, fI ws0 104 3 = v := ⟨_, rfl⟩
  have b_6 := ty_fI (k := 3) h.2 kSC_104 rfl rfl
  rw [e_5] at b_6
  have hk_7 := hok_of hH e_2 e_5
  have lp_10 : ∀ (n_12 : Nat) (f_14 : Int32) (f_18 : Int32) (H : Heap) (locs : List Loc) (ls : Array Slot) (ws_8 : va_W), 31 - f_14.toInt < (n_12 : Int) → 0 ≤ f_14.toInt → f_14.toInt ≤ 31 → 0 ≤ f_18.toInt → f_18.toInt ≤ 1 → (f_18.toInt = 0 ∨ 1 ≤ f_14.toInt) → fI ws_8 104 3 = f_14 → fI ws_8 104 4 = f_18 → Wt G (SC tt) ad A s H locs ws_8 → Fr (SC tt) [39, 40, 41] ws0 ws_8 → lv_has ls 4 [(0, .ref (ad 104)), (1, .int a1), (2, .int a2), (3, .int a3)] → W p l e (rmd 4 0 0) s m args below meth c H locs 0 0 Q (F0 m 0 ls []) := by
    intro n_12
    induction n_12 with
    | zero => intro f_14 f_18 H locs ls ws_8 hn_13 b_16 b_17 b_20 b_21 b_22 e_15 e_19 h hF_9 hl; exact ((o19_639 b_16 b_17 b_20 b_21 b_22 hn_13)).elim
    | succ n_12 ih_11 =>
      intro f_14 f_18 H locs ls ws_8 hn_13 b_16 b_17 b_20 b_21 b_22 e_15 e_19 h hF_9 hl
      refine lv_aload_n C0.1 C0.2.1 dX3_catching_0 rfl (lv_at hl 0 rfl) ?_
      refine tg_X3_known C0 h kSC_104 q_478 dX3_catching_1 (fun v_23 e_24 e_25 e_26 => ?_)
      have q_27 : v_23.toInt = f_14.toInt := congrArg Int32.toInt (e_24.symm.trans (Eq.trans rfl e_15))
      refine lv_iload_n C0.1 C0.2.1 dX3_catching_4 rfl (lv_at hl 3 rfl) ?_
      refine y_icmp_gt (tgt := 76) C0 dX3_catching_5 (by decide) (fun c_28 => ?_) (fun c_28 => ?_)
      · -- 5
        refine lv_aload_n C0.1 C0.2.1 dX3_catching_76 rfl (lv_at hl 0 rfl) ?_
        refine tg_X3_catching C0 h kSC_104 q_476 dX3_catching_77 ?_
        refine lv_iload_n C0.1 C0.2.1 dX3_catching_80 rfl (lv_at hl 3 rfl) ?_
        refine lv_aload_n C0.1 C0.2.1 dX3_catching_81 rfl (lv_at hl 0 rfl) ?_
        refine tg_X3_known C0 h kSC_104 q_478 dX3_catching_82 (fun v_29 e_30 e_31 e_32 => ?_)
        have q_33 : v_29.toInt = f_14.toInt := congrArg Int32.toInt (e_30.symm.trans (Eq.trans rfl e_15))
        refine y_c1 (n := 1) C0 (by decide) dX3_catching_85 (fun v_34 e_35 => ?_)
        refine y_sub C0 (o19_640 l3 u3 b_16 b_17 b_20 b_21 b_22 hn_13 e_25 e_26 q_27 c_28 e_31 e_32 q_33 e_35 (le_min v_29) (le_max v_29) (le_min v_34) (le_max v_34) (le_min a3) (le_max a3) (le_min f_14) (le_max f_14) (le_min f_18) (le_max f_18) (le_min v_23) (le_max v_23)) (o19_641 l3 u3 b_16 b_17 b_20 b_21 b_22 hn_13 e_25 e_26 q_27 c_28 e_31 e_32 q_33 e_35 (le_min v_29) (le_max v_29) (le_min v_34) (le_max v_34) (le_min a3) (le_max a3) (le_min f_14) (le_max f_14) (le_min f_18) (le_max f_18) (le_min v_23) (le_max v_23)) dX3_catching_86 (fun v_36 e_37 => ?_)
        refine y_min C0 hl.1 q_1378 q_663 q_141 q_664 (Nat.le_of_ble_eq_true rfl) (Nat.le_of_ble_eq_true rfl) (Nat.le_of_ble_eq_true rfl) (Nat.le_of_ble_eq_true rfl) dX3_catching_87 (fun v_38 e_39 => ?_)
        refine y_c3 (n := 400) C0 (by decide) dX3_catching_90 (fun v_40 e_41 => ?_)
        refine y_mulc (n := 400) C0 (o19_548 e_41) (o19_642 l3 u3 b_16 b_17 b_20 b_21 b_22 hn_13 e_25 e_26 q_27 c_28 e_31 e_32 q_33 e_35 e_37 e_39 (le_min v_38) (le_max v_38) (le_min a3) (le_max a3) (le_min f_14) (le_max f_14) (le_min f_18) (le_max f_18) (le_min v_23) (le_max v_23) (le_min v_29) (le_max v_29) (le_min v_34) (le_max v_34) (le_min v_36) (le_max v_36)) (o19_643 l3 u3 b_16 b_17 b_20 b_21 b_22 hn_13 e_25 e_26 q_27 c_28 e_31 e_32 q_33 e_35 e_37 e_39 (le_min v_38) (le_max v_38) (le_min a3) (le_max a3) (le_min f_14) (le_max f_14) (le_min f_18) (le_max f_18) (le_min v_23) (le_max v_23) (le_min v_29) (le_max v_29) (le_min v_34) (le_max v_34) (le_min v_36) (le_max v_36)) dX3_catching_93 (fun v_42 e_43 => ?_)
        refine y_c1 (n := 4) C0 (by decide) dX3_catching_94 (fun v_44 e_45 => ?_)
        refine lv_iload_n C0.1 C0.2.1 dX3_catching_95 rfl (lv_at hl 1 rfl) ?_
        refine y_cmul (n := 4) C0 (o19_51 e_45) (o19_644 l1 u1 (le_min a1) (le_max a1)) (o19_645 l1 u1 (le_min a1) (le_max a1)) dX3_catching_96 (fun v_46 e_47 => ?_)
        refine y_add C0 (o19_646 l1 u1 l3 u3 b_16 b_17 b_20 b_21 b_22 hn_13 e_25 e_26 q_27 c_28 e_31 e_32 q_33 e_35 e_37 e_39 e_43 e_47 (le_min v_42) (le_max v_42) (le_min v_46) (le_max v_46) (le_min a1) (le_max a1) (le_min a3) (le_max a3) (le_min f_14) (le_max f_14) (le_min f_18) (le_max f_18) (le_min v_23) (le_max v_23) (le_min v_29) (le_max v_29) (le_min v_34) (le_max v_34) (le_min v_36) (le_max v_36) (le_min v_38) (le_max v_38)) (o19_647 l1 u1 l3 u3 b_16 b_17 b_20 b_21 b_22 hn_13 e_25 e_26 q_27 c_28 e_31 e_32 q_33 e_35 e_37 e_39 e_43 e_47 (le_min v_42) (le_max v_42) (le_min v_46) (le_max v_46) (le_min a1) (le_max a1) (le_min a3) (le_max a3) (le_min f_14) (le_max f_14) (le_min f_18) (le_max f_18) (le_min v_23) (le_max v_23) (le_min v_29) (le_max v_29) (le_min v_34) (le_max v_34) (le_min v_36) (le_max v_36) (le_min v_38) (le_max v_38)) dX3_catching_97 (fun v_48 e_49 => ?_)
        refine lv_iload_n C0.1 C0.2.1 dX3_catching_98 rfl (lv_at hl 2 rfl) ?_
        refine y_add C0 (o19_648 l1 u1 l2 u2 l3 u3 b_16 b_17 b_20 b_21 b_22 hn_13 e_25 e_26 q_27 c_28 e_31 e_32 q_33 e_35 e_37 e_39 e_43 e_47 e_49 (le_min v_48) (le_max v_48) (le_min a2) (le_max a2) (le_min a1) (le_max a1) (le_min a3) (le_max a3) (le_min f_14) (le_max f_14) (le_min f_18) (le_max f_18) (le_min v_23) (le_max v_23) (le_min v_29) (le_max v_29) (le_min v_34) (le_max v_34) (le_min v_36) (le_max v_36) (le_min v_38) (le_max v_38) (le_min v_42) (le_max v_42) (le_min v_46) (le_max v_46)) (o19_649 l1 u1 l2 u2 l3 u3 b_16 b_17 b_20 b_21 b_22 hn_13 e_25 e_26 q_27 c_28 e_31 e_32 q_33 e_35 e_37 e_39 e_43 e_47 e_49 (le_min v_48) (le_max v_48) (le_min a2) (le_max a2) (le_min a1) (le_max a1) (le_min a3) (le_max a3) (le_min f_14) (le_max f_14) (le_min f_18) (le_max f_18) (le_min v_23) (le_max v_23) (le_min v_29) (le_max v_29) (le_min v_34) (le_max v_34) (le_min v_36) (le_max v_36) (le_min v_38) (le_max v_38) (le_min v_42) (le_max v_42) (le_min v_46) (le_max v_46)) dX3_catching_99 (fun v_50 e_51 => ?_)
        refine y_iald C0 h kSC_105 rfl (by decide) (o19_650 l1 u1 l2 u2 l3 u3 b_16 b_17 b_20 b_21 b_22 hn_13 e_25 e_26 q_27 c_28 e_31 e_32 q_33 e_35 e_37 e_39 e_43 e_47 e_49 e_51) (o19_651 l1 u1 l2 u2 l3 u3 b_16 b_17 b_20 b_21 b_22 hn_13 e_25 e_26 q_27 c_28 e_31 e_32 q_33 e_35 e_37 e_39 e_43 e_47 e_49 e_51) dX3_catching_100 (fun v_52 e_53 e_54 e_55 => ?_)
        rw [hQ]
        exact y_iret C0 h hF_9 (hok_to (Eq.trans rfl e_19) (Eq.trans rfl e_15) (o19_652 l1 u1 l2 u2 l3 u3 b_16 b_17 b_20 b_21 b_22 hn_13 e_25 e_26 q_27 c_28 e_31 e_32 q_33 e_35 e_37 e_39 e_43 e_47 e_49 e_51)) dX3_catching_101
      · -- 5
        refine lv_aload_n C0.1 C0.2.1 dX3_catching_8 rfl (lv_at hl 0 rfl) ?_
        refine tg_X3_known C0 h kSC_104 q_478 dX3_catching_9 (fun v_56 e_57 e_58 e_59 => ?_)
        have q_60 : v_56.toInt = f_14.toInt := congrArg Int32.toInt (e_57.symm.trans (Eq.trans rfl e_15))
        refine y_c2 (n := 30) C0 (by decide) dX3_catching_12 (fun v_61 e_62 => ?_)
        refine y_icmp_gt (tgt := 76) C0 dX3_catching_14 (by decide) (fun c_63 => ((o19_653 l3 u3 b_16 b_17 b_20 b_21 b_22 hn_13 e_25 e_26 q_27 c_28 e_58 e_59 q_60 e_62 c_63)).elim) (fun c_63 => ?_)
        refine lv_aload_n C0.1 C0.2.1 dX3_catching_17 rfl (lv_at hl 0 rfl) ?_
        refine tg_X3_settled C0 h kSC_104 q_479 dX3_catching_18 (fun v_64 e_65 e_66 e_67 => ?_)
        have q_68 : v_64.toInt = f_18.toInt := congrArg Int32.toInt (e_65.symm.trans (Eq.trans rfl e_19))
        refine y_if_ne (tgt := 76) C0 dX3_catching_21 (by decide) (fun c_69 => ?_) (fun c_69 => ?_)
        · -- 21
          refine lv_aload_n C0.1 C0.2.1 dX3_catching_76 rfl (lv_at hl 0 rfl) ?_
          refine tg_X3_catching C0 h kSC_104 q_476 dX3_catching_77 ?_
          refine lv_iload_n C0.1 C0.2.1 dX3_catching_80 rfl (lv_at hl 3 rfl) ?_
          refine lv_aload_n C0.1 C0.2.1 dX3_catching_81 rfl (lv_at hl 0 rfl) ?_
          refine tg_X3_known C0 h kSC_104 q_478 dX3_catching_82 (fun v_70 e_71 e_72 e_73 => ?_)
          have q_74 : v_70.toInt = f_14.toInt := congrArg Int32.toInt (e_71.symm.trans (Eq.trans rfl e_15))
          refine y_c1 (n := 1) C0 (by decide) dX3_catching_85 (fun v_75 e_76 => ?_)
          refine y_sub C0 (o19_654 l3 u3 b_16 b_17 b_20 b_21 b_22 hn_13 e_25 e_26 q_27 c_28 e_58 e_59 q_60 e_62 c_63 e_66 e_67 q_68 c_69 e_72 e_73 q_74 e_76 (le_min v_70) (le_max v_70) (le_min v_75) (le_max v_75) (le_min a3) (le_max a3) (le_min f_14) (le_max f_14) (le_min f_18) (le_max f_18) (le_min v_23) (le_max v_23) (le_min v_56) (le_max v_56) (le_min v_61) (le_max v_61) (le_min v_64) (le_max v_64)) (o19_655 l3 u3 b_16 b_17 b_20 b_21 b_22 hn_13 e_25 e_26 q_27 c_28 e_58 e_59 q_60 e_62 c_63 e_66 e_67 q_68 c_69 e_72 e_73 q_74 e_76 (le_min v_70) (le_max v_70) (le_min v_75) (le_max v_75) (le_min a3) (le_max a3) (le_min f_14) (le_max f_14) (le_min f_18) (le_max f_18) (le_min v_23) (le_max v_23) (le_min v_56) (le_max v_56) (le_min v_61) (le_max v_61) (le_min v_64) (le_max v_64)) dX3_catching_86 (fun v_77 e_78 => ?_)
          refine y_min C0 hl.1 q_1378 q_663 q_141 q_664 (Nat.le_of_ble_eq_true rfl) (Nat.le_of_ble_eq_true rfl) (Nat.le_of_ble_eq_true rfl) (Nat.le_of_ble_eq_true rfl) dX3_catching_87 (fun v_79 e_80 => ?_)
          refine y_c3 (n := 400) C0 (by decide) dX3_catching_90 (fun v_81 e_82 => ?_)
          refine y_mulc (n := 400) C0 (o19_548 e_82) (o19_656 l3 u3 b_16 b_17 b_20 b_21 b_22 hn_13 e_25 e_26 q_27 c_28 e_58 e_59 q_60 e_62 c_63 e_66 e_67 q_68 c_69 e_72 e_73 q_74 e_76 e_78 e_80 (le_min v_79) (le_max v_79) (le_min a3) (le_max a3) (le_min f_14) (le_max f_14) (le_min f_18) (le_max f_18) (le_min v_23) (le_max v_23) (le_min v_56) (le_max v_56) (le_min v_61) (le_max v_61) (le_min v_64) (le_max v_64) (le_min v_70) (le_max v_70) (le_min v_75) (le_max v_75) (le_min v_77) (le_max v_77)) (o19_657 l3 u3 b_16 b_17 b_20 b_21 b_22 hn_13 e_25 e_26 q_27 c_28 e_58 e_59 q_60 e_62 c_63 e_66 e_67 q_68 c_69 e_72 e_73 q_74 e_76 e_78 e_80 (le_min v_79) (le_max v_79) (le_min a3) (le_max a3) (le_min f_14) (le_max f_14) (le_min f_18) (le_max f_18) (le_min v_23) (le_max v_23) (le_min v_56) (le_max v_56) (le_min v_61) (le_max v_61) (le_min v_64) (le_max v_64) (le_min v_70) (le_max v_70) (le_min v_75) (le_max v_75) (le_min v_77) (le_max v_77)) dX3_catching_93 (fun v_83 e_84 => ?_)
          refine y_c1 (n := 4) C0 (by decide) dX3_catching_94 (fun v_85 e_86 => ?_)
          refine lv_iload_n C0.1 C0.2.1 dX3_catching_95 rfl (lv_at hl 1 rfl) ?_
          refine y_cmul (n := 4) C0 (o19_51 e_86) (o19_644 l1 u1 (le_min a1) (le_max a1)) (o19_645 l1 u1 (le_min a1) (le_max a1)) dX3_catching_96 (fun v_87 e_88 => ?_)
          refine y_add C0 (o19_658 l1 u1 l3 u3 b_16 b_17 b_20 b_21 b_22 hn_13 e_25 e_26 q_27 c_28 e_58 e_59 q_60 e_62 c_63 e_66 e_67 q_68 c_69 e_72 e_73 q_74 e_76 e_78 e_80 e_84 e_88 (le_min v_83) (le_max v_83) (le_min v_87) (le_max v_87) (le_min a1) (le_max a1) (le_min a3) (le_max a3) (le_min f_14) (le_max f_14) (le_min f_18) (le_max f_18) (le_min v_23) (le_max v_23) (le_min v_56) (le_max v_56) (le_min v_61) (le_max v_61) (le_min v_64) (le_max v_64) (le_min v_70) (le_max v_70) (le_min v_75) (le_max v_75) (le_min v_77) (le_max v_77) (le_min v_79) (le_max v_79)) (o19_659 l1 u1 l3 u3 b_16 b_17 b_20 b_21 b_22 hn_13 e_25 e_26 q_27 c_28 e_58 e_59 q_60 e_62 c_63 e_66 e_67 q_68 c_69 e_72 e_73 q_74 e_76 e_78 e_80 e_84 e_88 (le_min v_83) (le_max v_83) (le_min v_87) (le_max v_87) (le_min a1) (le_max a1) (le_min a3) (le_max a3) (le_min f_14) (le_max f_14) (le_min f_18) (le_max f_18) (le_min v_23) (le_max v_23) (le_min v_56) (le_max v_56) (le_min v_61) (le_max v_61) (le_min v_64) (le_max v_64) (le_min v_70) (le_max v_70) (le_min v_75) (le_max v_75) (le_min v_77) (le_max v_77) (le_min v_79) (le_max v_79)) dX3_catching_97 (fun v_89 e_90 => ?_)
          refine lv_iload_n C0.1 C0.2.1 dX3_catching_98 rfl (lv_at hl 2 rfl) ?_
          refine y_add C0 (o19_660 l1 u1 l2 u2 l3 u3 b_16 b_17 b_20 b_21 b_22 hn_13 e_25 e_26 q_27 c_28 e_58 e_59 q_60 e_62 c_63 e_66 e_67 q_68 c_69 e_72 e_73 q_74 e_76 e_78 e_80 e_84 e_88 e_90 (le_min v_89) (le_max v_89) (le_min a2) (le_max a2) (le_min a1) (le_max a1) (le_min a3) (le_max a3) (le_min f_14) (le_max f_14) (le_min f_18) (le_max f_18) (le_min v_23) (le_max v_23) (le_min v_56) (le_max v_56) (le_min v_61) (le_max v_61) (le_min v_64) (le_max v_64) (le_min v_70) (le_max v_70) (le_min v_75) (le_max v_75) (le_min v_77) (le_max v_77) (le_min v_79) (le_max v_79) (le_min v_83) (le_max v_83) (le_min v_87) (le_max v_87)) (o19_661 l1 u1 l2 u2 l3 u3 b_16 b_17 b_20 b_21 b_22 hn_13 e_25 e_26 q_27 c_28 e_58 e_59 q_60 e_62 c_63 e_66 e_67 q_68 c_69 e_72 e_73 q_74 e_76 e_78 e_80 e_84 e_88 e_90 (le_min v_89) (le_max v_89) (le_min a2) (le_max a2) (le_min a1) (le_max a1) (le_min a3) (le_max a3) (le_min f_14) (le_max f_14) (le_min f_18) (le_max f_18) (le_min v_23) (le_max v_23) (le_min v_56) (le_max v_56) (le_min v_61) (le_max v_61) (le_min v_64) (le_max v_64) (le_min v_70) (le_max v_70) (le_min v_75) (le_max v_75) (le_min v_77) (le_max v_77) (le_min v_79) (le_max v_79) (le_min v_83) (le_max v_83) (le_min v_87) (le_max v_87)) dX3_catching_99 (fun v_91 e_92 => ?_)
          refine y_iald C0 h kSC_105 rfl (by decide) (o19_662 l1 u1 l2 u2 l3 u3 b_16 b_17 b_20 b_21 b_22 hn_13 e_25 e_26 q_27 c_28 e_58 e_59 q_60 e_62 c_63 e_66 e_67 q_68 c_69 e_72 e_73 q_74 e_76 e_78 e_80 e_84 e_88 e_90 e_92) (o19_663 l1 u1 l2 u2 l3 u3 b_16 b_17 b_20 b_21 b_22 hn_13 e_25 e_26 q_27 c_28 e_58 e_59 q_60 e_62 c_63 e_66 e_67 q_68 c_69 e_72 e_73 q_74 e_76 e_78 e_80 e_84 e_88 e_90 e_92) dX3_catching_100 (fun v_93 e_94 e_95 e_96 => ?_)
          rw [hQ]
          exact y_iret C0 h hF_9 (hok_to (Eq.trans rfl e_19) (Eq.trans rfl e_15) (o19_664 l1 u1 l2 u2 l3 u3 b_16 b_17 b_20 b_21 b_22 hn_13 e_25 e_26 q_27 c_28 e_58 e_59 q_60 e_62 c_63 e_66 e_67 q_68 c_69 e_72 e_73 q_74 e_76 e_78 e_80 e_84 e_88 e_90 e_92)) dX3_catching_101
        · -- 21
          refine lv_aload_n C0.1 C0.2.1 dX3_catching_24 rfl (lv_at hl 0 rfl) ?_
          refine lv_aload_n C0.1 C0.2.1 dX3_catching_25 rfl (lv_at hl 0 rfl) ?_
          refine tg_X3_known C0 h kSC_104 q_478 dX3_catching_26 (fun v_97 e_98 e_99 e_100 => ?_)
          have q_101 : v_97.toInt = f_14.toInt := congrArg Int32.toInt (e_98.symm.trans (Eq.trans rfl e_15))
          refine y_cv h (y_rV (As := [.int v_97]) (rest := []) C0 hZ h (c_X3_workOut l G Z ad _ h.2 v_97 (o19_665 l3 u3 b_16 b_17 b_20 b_21 b_22 hn_13 e_25 e_26 q_27 c_28 e_58 e_59 q_60 e_62 c_63 e_66 e_67 q_68 c_69 e_99 e_100 q_101) (o19_666 l3 u3 b_16 b_17 b_20 b_21 b_22 hn_13 e_25 e_26 q_27 c_28 e_58 e_59 q_60 e_62 c_63 e_66 e_67 q_68 c_69 e_99 e_100 q_101) (Rel.fr (M := [39, 40, 41]) hR hF_9 (by decide) (by decide))) k_X3_workOut q_1365 q_53 q_1363 kSC_104 rfl rfl rfl hl.1 rfl rfl (Nat.le_of_ble_eq_true rfl) dX3_catching_29 ⟨Nat.le_of_ble_eq_true rfl, Nat.le_of_ble_eq_true rfl⟩ ⟨Nat.le_of_ble_eq_true rfl, Nat.le_of_ble_eq_true rfl⟩) (fun H locs ws_102 h u_103 p_104 => ?_)
          refine lv_aload_n C0.1 C0.2.1 dX3_catching_32 rfl (lv_at hl 0 rfl) ?_
          refine lv_aload_n C0.1 C0.2.1 dX3_catching_33 rfl (lv_at hl 0 rfl) ?_
          refine tg_X3_known C0 h kSC_104 q_478 dX3_catching_34 (fun v_105 e_106 e_107 e_108 => ?_)
          have q_109 : v_105.toInt = f_14.toInt := congrArg Int32.toInt (e_106.symm.trans (Eq.trans (Fr.fI u_103 kSC_104 (by decide)) e_15))
          refine y_if_le (tgt := 59) C0 dX3_catching_37 (by decide) (fun c_110 => ?_) (fun c_110 => ?_)
          · -- 37
            refine y_c1 (n := 0) C0 (by decide) dX3_catching_59 (fun v_111 e_112 => ?_)
            refine tp_X3_settled C0 h kSC_104 q_479 (o19_87 e_112) (o19_93 e_112) dX3_catching_60 (fun H locs ws_113 h u_114 => ?_)
            refine lv_aload_n C0.1 C0.2.1 dX3_catching_63 rfl (lv_at hl 0 rfl) ?_
            refine lv_dup C0.1 C0.2.1 dX3_catching_64 rfl ?_
            refine tg_X3_known C0 h kSC_104 q_478 dX3_catching_65 (fun v_115 e_116 e_117 e_118 => ?_)
            have q_119 : v_115.toInt = f_14.toInt := congrArg Int32.toInt (e_116.symm.trans (Eq.trans (Eq.trans (u_114.2.2 3 (by decide)) (Fr.fI u_103 kSC_104 (by decide))) e_15))
            refine y_c1 (n := 1) C0 (by decide) dX3_catching_68 (fun v_120 e_121 => ?_)
            refine y_add C0 (o19_667 l3 u3 b_16 b_17 b_20 b_21 b_22 hn_13 e_25 e_26 q_27 c_28 e_58 e_59 q_60 e_62 c_63 e_66 e_67 q_68 c_69 e_99 e_100 q_101 e_107 e_108 q_109 c_110 e_117 e_118 q_119 e_121 (le_min v_115) (le_max v_115) (le_min v_120) (le_max v_120) (le_min a3) (le_max a3) (le_min f_14) (le_max f_14) (le_min f_18) (le_max f_18) (le_min v_23) (le_max v_23) (le_min v_56) (le_max v_56) (le_min v_61) (le_max v_61) (le_min v_64) (le_max v_64) (le_min v_97) (le_max v_97) (le_min v_105) (le_max v_105)) (o19_668 l3 u3 b_16 b_17 b_20 b_21 b_22 hn_13 e_25 e_26 q_27 c_28 e_58 e_59 q_60 e_62 c_63 e_66 e_67 q_68 c_69 e_99 e_100 q_101 e_107 e_108 q_109 c_110 e_117 e_118 q_119 e_121 (le_min v_115) (le_max v_115) (le_min v_120) (le_max v_120) (le_min a3) (le_max a3) (le_min f_14) (le_max f_14) (le_min f_18) (le_max f_18) (le_min v_23) (le_max v_23) (le_min v_56) (le_max v_56) (le_min v_61) (le_max v_61) (le_min v_64) (le_max v_64) (le_min v_97) (le_max v_97) (le_min v_105) (le_max v_105)) dX3_catching_69 (fun v_122 e_123 => ?_)
            refine tp_X3_known C0 h kSC_104 q_478 (o19_669 l3 u3 b_16 b_17 b_20 b_21 b_22 hn_13 e_25 e_26 q_27 c_28 e_58 e_59 q_60 e_62 c_63 e_66 e_67 q_68 c_69 e_99 e_100 q_101 e_107 e_108 q_109 c_110 e_117 e_118 q_119 e_121 e_123) (o19_670 l3 u3 b_16 b_17 b_20 b_21 b_22 hn_13 e_25 e_26 q_27 c_28 e_58 e_59 q_60 e_62 c_63 e_66 e_67 q_68 c_69 e_99 e_100 q_101 e_107 e_108 q_109 c_110 e_117 e_118 q_119 e_121 e_123) dX3_catching_70 (fun H locs ws_124 h u_125 => ?_)
            refine lv_goto (tgt := 0) C0.1 C0.2.1 dX3_catching_73 (by decide) ?_
            exact ih_11 v_122 v_111 _ _ _ _ (o19_671 l3 u3 b_16 b_17 b_20 b_21 b_22 hn_13 e_25 e_26 q_27 c_28 e_58 e_59 q_60 e_62 c_63 e_66 e_67 q_68 c_69 e_99 e_100 q_101 e_107 e_108 q_109 c_110 e_117 e_118 q_119 e_121 e_123) (o19_669 l3 u3 b_16 b_17 b_20 b_21 b_22 hn_13 e_25 e_26 q_27 c_28 e_58 e_59 q_60 e_62 c_63 e_66 e_67 q_68 c_69 e_99 e_100 q_101 e_107 e_108 q_109 c_110 e_117 e_118 q_119 e_121 e_123) (o19_670 l3 u3 b_16 b_17 b_20 b_21 b_22 hn_13 e_25 e_26 q_27 c_28 e_58 e_59 q_60 e_62 c_63 e_66 e_67 q_68 c_69 e_99 e_100 q_101 e_107 e_108 q_109 c_110 e_117 e_118 q_119 e_121 e_123) (o19_87 e_112) (o19_93 e_112) (o19_672 l3 u3 b_16 b_17 b_20 b_21 b_22 hn_13 e_25 e_26 q_27 c_28 e_58 e_59 q_60 e_62 c_63 e_66 e_67 q_68 c_69 e_99 e_100 q_101 e_107 e_108 q_109 c_110 e_112 e_117 e_118 q_119 e_121 e_123) (Eq.trans rfl u_125.2.1) (Eq.trans (u_125.2.2 4 (by decide)) u_114.2.1) h (Fr.tr (Fr.tr (Fr.tr hF_9 (Fr.mono u_103 (by decide))) (Fr.up u_114.1 kSC_104 (by decide))) (Fr.up u_125.1 kSC_104 (by decide))) (lv_sub hl [0, 1, 2, 3] rfl)
          · -- 37
            refine lv_aload_n C0.1 C0.2.1 dX3_catching_40 rfl (lv_at hl 0 rfl) ?_
            refine lv_aload_n C0.1 C0.2.1 dX3_catching_41 rfl (lv_at hl 0 rfl) ?_
            refine tg_X3_known C0 h kSC_104 q_478 dX3_catching_42 (fun v_126 e_127 e_128 e_129 => ?_)
            have q_130 : v_126.toInt = f_14.toInt := congrArg Int32.toInt (e_127.symm.trans (Eq.trans (Fr.fI u_103 kSC_104 (by decide)) e_15))
            refine y_c3 (n := 400) C0 (by decide) dX3_catching_45 (fun v_131 e_132 => ?_)
            refine y_mulc (n := 400) C0 (o19_548 e_132) (o19_673 l3 u3 b_16 b_17 b_20 b_21 b_22 hn_13 e_25 e_26 q_27 c_28 e_58 e_59 q_60 e_62 c_63 e_66 e_67 q_68 c_69 e_99 e_100 q_101 e_107 e_108 q_109 c_110 e_128 e_129 q_130 (le_min v_126) (le_max v_126) (le_min a3) (le_max a3) (le_min f_14) (le_max f_14) (le_min f_18) (le_max f_18) (le_min v_23) (le_max v_23) (le_min v_56) (le_max v_56) (le_min v_61) (le_max v_61) (le_min v_64) (le_max v_64) (le_min v_97) (le_max v_97) (le_min v_105) (le_max v_105)) (o19_674 l3 u3 b_16 b_17 b_20 b_21 b_22 hn_13 e_25 e_26 q_27 c_28 e_58 e_59 q_60 e_62 c_63 e_66 e_67 q_68 c_69 e_99 e_100 q_101 e_107 e_108 q_109 c_110 e_128 e_129 q_130 (le_min v_126) (le_max v_126) (le_min a3) (le_max a3) (le_min f_14) (le_max f_14) (le_min f_18) (le_max f_18) (le_min v_23) (le_max v_23) (le_min v_56) (le_max v_56) (le_min v_61) (le_max v_61) (le_min v_64) (le_max v_64) (le_min v_97) (le_max v_97) (le_min v_105) (le_max v_105)) dX3_catching_48 (fun v_133 e_134 => ?_)
            refine y_ci h (y_rV (As := [.int v_133]) (rest := [.ref (ad 104)]) C0 hZ h (c_X3_isLikeTheLast l G Z ad _ h.2 v_133 (o19_675 l3 u3 b_16 b_17 b_20 b_21 b_22 hn_13 e_25 e_26 q_27 c_28 e_58 e_59 q_60 e_62 c_63 e_66 e_67 q_68 c_69 e_99 e_100 q_101 e_107 e_108 q_109 c_110 e_128 e_129 q_130 e_134) (o19_676 l3 u3 b_16 b_17 b_20 b_21 b_22 hn_13 e_25 e_26 q_27 c_28 e_58 e_59 q_60 e_62 c_63 e_66 e_67 q_68 c_69 e_99 e_100 q_101 e_107 e_108 q_109 c_110 e_128 e_129 q_130 e_134)) k_X3_isLikeTheLast q_1376 q_55 q_1374 kSC_104 rfl rfl rfl hl.1 rfl rfl (Nat.le_of_ble_eq_true rfl) dX3_catching_49 ⟨Nat.le_of_ble_eq_true rfl, Nat.le_of_ble_eq_true rfl⟩ ⟨Nat.le_of_ble_eq_true rfl, Nat.le_of_ble_eq_true rfl⟩) (fun r_138 H locs ws_135 h u_136 p_137 => ?_)
            obtain ⟨e_139, e_140⟩ := p_137
            refine y_if_eq (tgt := 59) C0 dX3_catching_52 (by decide) (fun c_141 => ?_) (fun c_141 => ?_)
            · -- 52
              refine y_c1 (n := 0) C0 (by decide) dX3_catching_59 (fun v_142 e_143 => ?_)
              refine tp_X3_settled C0 h kSC_104 q_479 (o19_87 e_143) (o19_93 e_143) dX3_catching_60 (fun H locs ws_144 h u_145 => ?_)
              refine lv_aload_n C0.1 C0.2.1 dX3_catching_63 rfl (lv_at hl 0 rfl) ?_
              refine lv_dup C0.1 C0.2.1 dX3_catching_64 rfl ?_
              refine tg_X3_known C0 h kSC_104 q_478 dX3_catching_65 (fun v_146 e_147 e_148 e_149 => ?_)
              have q_150 : v_146.toInt = f_14.toInt := congrArg Int32.toInt (e_147.symm.trans (Eq.trans (Eq.trans (u_145.2.2 3 (by decide)) (Eq.trans (Fr.fI u_136 kSC_104 (by decide)) (Fr.fI u_103 kSC_104 (by decide)))) e_15))
              refine y_c1 (n := 1) C0 (by decide) dX3_catching_68 (fun v_151 e_152 => ?_)
              refine y_add C0 (o19_677 l3 u3 b_16 b_17 b_20 b_21 b_22 hn_13 e_25 e_26 q_27 c_28 e_58 e_59 q_60 e_62 c_63 e_66 e_67 q_68 c_69 e_99 e_100 q_101 e_107 e_108 q_109 c_110 e_128 e_129 q_130 e_134 e_148 e_149 q_150 e_152 (le_min v_146) (le_max v_146) (le_min v_151) (le_max v_151) (le_min a3) (le_max a3) (le_min f_14) (le_max f_14) (le_min f_18) (le_max f_18) (le_min v_23) (le_max v_23) (le_min v_56) (le_max v_56) (le_min v_61) (le_max v_61) (le_min v_64) (le_max v_64) (le_min v_97) (le_max v_97) (le_min v_105) (le_max v_105) (le_min v_126) (le_max v_126) (le_min v_133) (le_max v_133)) (o19_678 l3 u3 b_16 b_17 b_20 b_21 b_22 hn_13 e_25 e_26 q_27 c_28 e_58 e_59 q_60 e_62 c_63 e_66 e_67 q_68 c_69 e_99 e_100 q_101 e_107 e_108 q_109 c_110 e_128 e_129 q_130 e_134 e_148 e_149 q_150 e_152 (le_min v_146) (le_max v_146) (le_min v_151) (le_max v_151) (le_min a3) (le_max a3) (le_min f_14) (le_max f_14) (le_min f_18) (le_max f_18) (le_min v_23) (le_max v_23) (le_min v_56) (le_max v_56) (le_min v_61) (le_max v_61) (le_min v_64) (le_max v_64) (le_min v_97) (le_max v_97) (le_min v_105) (le_max v_105) (le_min v_126) (le_max v_126) (le_min v_133) (le_max v_133)) dX3_catching_69 (fun v_153 e_154 => ?_)
              refine tp_X3_known C0 h kSC_104 q_478 (o19_679 l3 u3 b_16 b_17 b_20 b_21 b_22 hn_13 e_25 e_26 q_27 c_28 e_58 e_59 q_60 e_62 c_63 e_66 e_67 q_68 c_69 e_99 e_100 q_101 e_107 e_108 q_109 c_110 e_128 e_129 q_130 e_134 e_148 e_149 q_150 e_152 e_154) (o19_680 l3 u3 b_16 b_17 b_20 b_21 b_22 hn_13 e_25 e_26 q_27 c_28 e_58 e_59 q_60 e_62 c_63 e_66 e_67 q_68 c_69 e_99 e_100 q_101 e_107 e_108 q_109 c_110 e_128 e_129 q_130 e_134 e_148 e_149 q_150 e_152 e_154) dX3_catching_70 (fun H locs ws_155 h u_156 => ?_)
              refine lv_goto (tgt := 0) C0.1 C0.2.1 dX3_catching_73 (by decide) ?_
              exact ih_11 v_153 v_142 _ _ _ _ (o19_681 l3 u3 b_16 b_17 b_20 b_21 b_22 hn_13 e_25 e_26 q_27 c_28 e_58 e_59 q_60 e_62 c_63 e_66 e_67 q_68 c_69 e_99 e_100 q_101 e_107 e_108 q_109 c_110 e_128 e_129 q_130 e_134 e_148 e_149 q_150 e_152 e_154) (o19_679 l3 u3 b_16 b_17 b_20 b_21 b_22 hn_13 e_25 e_26 q_27 c_28 e_58 e_59 q_60 e_62 c_63 e_66 e_67 q_68 c_69 e_99 e_100 q_101 e_107 e_108 q_109 c_110 e_128 e_129 q_130 e_134 e_148 e_149 q_150 e_152 e_154) (o19_680 l3 u3 b_16 b_17 b_20 b_21 b_22 hn_13 e_25 e_26 q_27 c_28 e_58 e_59 q_60 e_62 c_63 e_66 e_67 q_68 c_69 e_99 e_100 q_101 e_107 e_108 q_109 c_110 e_128 e_129 q_130 e_134 e_148 e_149 q_150 e_152 e_154) (o19_87 e_143) (o19_93 e_143) (o19_682 l3 u3 b_16 b_17 b_20 b_21 b_22 hn_13 e_25 e_26 q_27 c_28 e_58 e_59 q_60 e_62 c_63 e_66 e_67 q_68 c_69 e_99 e_100 q_101 e_107 e_108 q_109 c_110 e_128 e_129 q_130 e_134 e_143 e_148 e_149 q_150 e_152 e_154) (Eq.trans rfl u_156.2.1) (Eq.trans (u_156.2.2 4 (by decide)) u_145.2.1) h (Fr.tr (Fr.tr (Fr.tr (Fr.tr hF_9 (Fr.mono u_103 (by decide))) (Fr.mono u_136 (by decide))) (Fr.up u_145.1 kSC_104 (by decide))) (Fr.up u_156.1 kSC_104 (by decide))) (lv_sub hl [0, 1, 2, 3] rfl)
            · -- 52
              refine y_c1 (n := 1) C0 (by decide) dX3_catching_55 (fun v_157 e_158 => ?_)
              refine lv_goto (tgt := 60) C0.1 C0.2.1 dX3_catching_56 (by decide) ?_
              refine tp_X3_settled C0 h kSC_104 q_479 (o19_110 e_158) (o19_111 e_158) dX3_catching_60 (fun H locs ws_159 h u_160 => ?_)
              refine lv_aload_n C0.1 C0.2.1 dX3_catching_63 rfl (lv_at hl 0 rfl) ?_
              refine lv_dup C0.1 C0.2.1 dX3_catching_64 rfl ?_
              refine tg_X3_known C0 h kSC_104 q_478 dX3_catching_65 (fun v_161 e_162 e_163 e_164 => ?_)
              have q_165 : v_161.toInt = f_14.toInt := congrArg Int32.toInt (e_162.symm.trans (Eq.trans (Eq.trans (u_160.2.2 3 (by decide)) (Eq.trans (Fr.fI u_136 kSC_104 (by decide)) (Fr.fI u_103 kSC_104 (by decide)))) e_15))
              refine y_c1 (n := 1) C0 (by decide) dX3_catching_68 (fun v_166 e_167 => ?_)
              refine y_add C0 (o19_677 l3 u3 b_16 b_17 b_20 b_21 b_22 hn_13 e_25 e_26 q_27 c_28 e_58 e_59 q_60 e_62 c_63 e_66 e_67 q_68 c_69 e_99 e_100 q_101 e_107 e_108 q_109 c_110 e_128 e_129 q_130 e_134 e_163 e_164 q_165 e_167 (le_min v_161) (le_max v_161) (le_min v_166) (le_max v_166) (le_min a3) (le_max a3) (le_min f_14) (le_max f_14) (le_min f_18) (le_max f_18) (le_min v_23) (le_max v_23) (le_min v_56) (le_max v_56) (le_min v_61) (le_max v_61) (le_min v_64) (le_max v_64) (le_min v_97) (le_max v_97) (le_min v_105) (le_max v_105) (le_min v_126) (le_max v_126) (le_min v_133) (le_max v_133)) (o19_678 l3 u3 b_16 b_17 b_20 b_21 b_22 hn_13 e_25 e_26 q_27 c_28 e_58 e_59 q_60 e_62 c_63 e_66 e_67 q_68 c_69 e_99 e_100 q_101 e_107 e_108 q_109 c_110 e_128 e_129 q_130 e_134 e_163 e_164 q_165 e_167 (le_min v_161) (le_max v_161) (le_min v_166) (le_max v_166) (le_min a3) (le_max a3) (le_min f_14) (le_max f_14) (le_min f_18) (le_max f_18) (le_min v_23) (le_max v_23) (le_min v_56) (le_max v_56) (le_min v_61) (le_max v_61) (le_min v_64) (le_max v_64) (le_min v_97) (le_max v_97) (le_min v_105) (le_max v_105) (le_min v_126) (le_max v_126) (le_min v_133) (le_max v_133)) dX3_catching_69 (fun v_168 e_169 => ?_)
              refine tp_X3_known C0 h kSC_104 q_478 (o19_679 l3 u3 b_16 b_17 b_20 b_21 b_22 hn_13 e_25 e_26 q_27 c_28 e_58 e_59 q_60 e_62 c_63 e_66 e_67 q_68 c_69 e_99 e_100 q_101 e_107 e_108 q_109 c_110 e_128 e_129 q_130 e_134 e_163 e_164 q_165 e_167 e_169) (o19_680 l3 u3 b_16 b_17 b_20 b_21 b_22 hn_13 e_25 e_26 q_27 c_28 e_58 e_59 q_60 e_62 c_63 e_66 e_67 q_68 c_69 e_99 e_100 q_101 e_107 e_108 q_109 c_110 e_128 e_129 q_130 e_134 e_163 e_164 q_165 e_167 e_169) dX3_catching_70 (fun H locs ws_170 h u_171 => ?_)
              refine lv_goto (tgt := 0) C0.1 C0.2.1 dX3_catching_73 (by decide) ?_
              exact ih_11 v_168 v_157 _ _ _ _ (o19_681 l3 u3 b_16 b_17 b_20 b_21 b_22 hn_13 e_25 e_26 q_27 c_28 e_58 e_59 q_60 e_62 c_63 e_66 e_67 q_68 c_69 e_99 e_100 q_101 e_107 e_108 q_109 c_110 e_128 e_129 q_130 e_134 e_163 e_164 q_165 e_167 e_169) (o19_679 l3 u3 b_16 b_17 b_20 b_21 b_22 hn_13 e_25 e_26 q_27 c_28 e_58 e_59 q_60 e_62 c_63 e_66 e_67 q_68 c_69 e_99 e_100 q_101 e_107 e_108 q_109 c_110 e_128 e_129 q_130 e_134 e_163 e_164 q_165 e_167 e_169) (o19_680 l3 u3 b_16 b_17 b_20 b_21 b_22 hn_13 e_25 e_26 q_27 c_28 e_58 e_59 q_60 e_62 c_63 e_66 e_67 q_68 c_69 e_99 e_100 q_101 e_107 e_108 q_109 c_110 e_128 e_129 q_130 e_134 e_163 e_164 q_165 e_167 e_169) (o19_110 e_158) (o19_111 e_158) (o19_683 l3 u3 b_16 b_17 b_20 b_21 b_22 hn_13 e_25 e_26 q_27 c_28 e_58 e_59 q_60 e_62 c_63 e_66 e_67 q_68 c_69 e_99 e_100 q_101 e_107 e_108 q_109 c_110 e_128 e_129 q_130 e_134 e_158 e_163 e_164 q_165 e_167 e_169) (Eq.trans rfl u_171.2.1) (Eq.trans (u_171.2.2 4 (by decide)) u_160.2.1) h (Fr.tr (Fr.tr (Fr.tr (Fr.tr hF_9 (Fr.mono u_103 (by decide))) (Fr.mono u_136 (by decide))) (Fr.up u_160.1 kSC_104 (by decide))) (Fr.up u_171.1 kSC_104 (by decide))) (lv_sub hl [0, 1, 2, 3] rfl)
  exact lp_10 ((31 - f_4.toInt + 1).toNat) f_4 f_1 _ _ _ _ (o19_684 b_3.1 b_3.2 b_6.1 b_6.2 hk_7) (o19_685 b_3.1 b_3.2 b_6.1 b_6.2 hk_7) (o19_686 b_3.1 b_3.2 b_6.1 b_6.2 hk_7) (o19_687 b_3.1 b_3.2 b_6.1 b_6.2 hk_7) (o19_688 b_3.1 b_3.2 b_6.1 b_6.2 hk_7) (o19_689 b_3.1 b_3.2 b_6.1 b_6.2 hk_7) (Eq.trans rfl e_5) (Eq.trans rfl e_2) h Fr.rf (lv_sub hl [0, 1, 2, 3] rfl)
