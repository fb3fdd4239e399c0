variable {tt : QQ}
theorem dX11_affords_0 : decode cX11_affords 0 = .ok (.aload_n 0, 1) := by decide +kernel
theorem dX11_affords_1 : decode cX11_affords 1 = .ok (.iload_n 1, 1) := by decide +kernel
theorem dX11_affords_2 : decode cX11_affords 2 = .ok (.invokevirtual 141, 3) := by decide +kernel
theorem dX11_affords_5 : decode cX11_affords 5 = .ok (.ifCond .ne 6, 3) := by decide +kernel
theorem dX11_affords_8 : decode cX11_affords 8 = .ok (.bipush (-2), 2) := by decide +kernel
theorem dX11_affords_10 : decode cX11_affords 10 = .ok (.ireturn, 1) := by decide +kernel
theorem dX11_affords_11 : decode cX11_affords 11 = .ok (.aload_n 0, 1) := by decide +kernel
theorem dX11_affords_12 : decode cX11_affords 12 = .ok (.getfield 27, 3) := by decide +kernel
theorem dX11_affords_15 : decode cX11_affords 15 = .ok (.getfield 145, 3) := by decide +kernel
theorem dX11_affords_18 : decode cX11_affords 18 = .ok (.getfield 157, 3) := by decide +kernel
theorem dX11_affords_21 : decode cX11_affords 21 = .ok (.iload_n 1, 1) := by decide +kernel
theorem dX11_affords_22 : decode cX11_affords 22 = .ok (.iaload, 1) := by decide +kernel
theorem dX11_affords_23 : decode cX11_affords 23 = .ok (.istore_n 2, 1) := by decide +kernel
theorem dX11_affords_24 : decode cX11_affords 24 = .ok (.bipush 99, 2) := by decide +kernel
theorem dX11_affords_26 : decode cX11_affords 26 = .ok (.aload_n 0, 1) := by decide +kernel
theorem dX11_affords_27 : decode cX11_affords 27 = .ok (.getfield 27, 3) := by decide +kernel
theorem dX11_affords_30 : decode cX11_affords 30 = .ok (.getfield 145, 3) := by decide +kernel
theorem dX11_affords_33 : decode cX11_affords 33 = .ok (.getfield 154, 3) := by decide +kernel
theorem dX11_affords_36 : decode cX11_affords 36 = .ok (.iload_n 1, 1) := by decide +kernel
theorem dX11_affords_37 : decode cX11_affords 37 = .ok (.iaload, 1) := by decide +kernel
theorem dX11_affords_38 : decode cX11_affords 38 = .ok (.isub, 1) := by decide +kernel
theorem dX11_affords_39 : decode cX11_affords 39 = .ok (.istore_n 3, 1) := by decide +kernel
theorem dX11_affords_40 : decode cX11_affords 40 = .ok (.iconst 0, 1) := by decide +kernel
theorem dX11_affords_41 : decode cX11_affords 41 = .ok (.istore 4, 2) := by decide +kernel
theorem dX11_affords_43 : decode cX11_affords 43 = .ok (.iload 4, 2) := by decide +kernel
theorem dX11_affords_45 : decode cX11_affords 45 = .ok (.iload_n 3, 1) := by decide +kernel
theorem dX11_affords_46 : decode cX11_affords 46 = .ok (.if_icmp .ge 35, 3) := by decide +kernel
theorem dX11_affords_49 : decode cX11_affords 49 = .ok (.aload_n 0, 1) := by decide +kernel
theorem dX11_affords_50 : decode cX11_affords 50 = .ok (.getfield 27, 3) := by decide +kernel
theorem dX11_affords_53 : decode cX11_affords 53 = .ok (.iload_n 1, 1) := by decide +kernel
theorem dX11_affords_54 : decode cX11_affords 54 = .ok (.iload 4, 2) := by decide +kernel
theorem dX11_affords_56 : decode cX11_affords 56 = .ok (.invokevirtual 223, 3) := by decide +kernel
theorem dX11_affords_59 : decode cX11_affords 59 = .ok (.istore 5, 2) := by decide +kernel
theorem dX11_affords_61 : decode cX11_affords 61 = .ok (.iload 5, 2) := by decide +kernel
theorem dX11_affords_63 : decode cX11_affords 63 = .ok (.iload_n 2, 1) := by decide +kernel
theorem dX11_affords_64 : decode cX11_affords 64 = .ok (.if_icmp .le 6, 3) := by decide +kernel
theorem dX11_affords_67 : decode cX11_affords 67 = .ok (.goto 14, 3) := by decide +kernel
theorem dX11_affords_70 : decode cX11_affords 70 = .ok (.iload_n 2, 1) := by decide +kernel
theorem dX11_affords_71 : decode cX11_affords 71 = .ok (.iload 5, 2) := by decide +kernel
theorem dX11_affords_73 : decode cX11_affords 73 = .ok (.isub, 1) := by decide +kernel
theorem dX11_affords_74 : decode cX11_affords 74 = .ok (.istore_n 2, 1) := by decide +kernel
theorem dX11_affords_75 : decode cX11_affords 75 = .ok (.iinc 4 1, 3) := by decide +kernel
theorem dX11_affords_78 : decode cX11_affords 78 = .ok (.goto (-35), 3) := by decide +kernel
theorem dX11_affords_81 : decode cX11_affords 81 = .ok (.iload 4, 2) := by decide +kernel
theorem dX11_affords_83 : decode cX11_affords 83 = .ok (.ireturn, 1) := by decide +kernel
theorem dX11_bestCorner_0 : decode cX11_bestCorner 0 = .ok (.aload_n 0, 1) := by decide +kernel
theorem dX11_bestCorner_1 : decode cX11_bestCorner 1 = .ok (.iload_n 1, 1) := by decide +kernel
theorem dX11_bestCorner_2 : decode cX11_bestCorner 2 = .ok (.invokevirtual 141, 3) := by decide +kernel
theorem dX11_bestCorner_5 : decode cX11_bestCorner 5 = .ok (.ifCond .eq 11, 3) := by decide +kernel
theorem dX11_bestCorner_8 : decode cX11_bestCorner 8 = .ok (.aload_n 0, 1) := by decide +kernel
theorem dX11_bestCorner_9 : decode cX11_bestCorner 9 = .ok (.iload_n 2, 1) := by decide +kernel
theorem dX11_bestCorner_10 : decode cX11_bestCorner 10 = .ok (.invokevirtual 171, 3) := by decide +kernel
theorem dX11_bestCorner_13 : decode cX11_bestCorner 13 = .ok (.ifCond .ne 6, 3) := by decide +kernel
theorem dX11_bestCorner_16 : decode cX11_bestCorner 16 = .ok (.bipush (-2), 2) := by decide +kernel
theorem dX11_bestCorner_18 : decode cX11_bestCorner 18 = .ok (.ireturn, 1) := by decide +kernel
theorem dX11_bestCorner_19 : decode cX11_bestCorner 19 = .ok (.iload_n 3, 1) := by decide +kernel
theorem dX11_bestCorner_20 : decode cX11_bestCorner 20 = .ok (.ifCond .lt 9, 3) := by decide +kernel
theorem dX11_bestCorner_23 : decode cX11_bestCorner 23 = .ok (.iload_n 3, 1) := by decide +kernel
theorem dX11_bestCorner_24 : decode cX11_bestCorner 24 = .ok (.bipush 30, 2) := by decide +kernel
theorem dX11_bestCorner_26 : decode cX11_bestCorner 26 = .ok (.if_icmp .le 6, 3) := by decide +kernel
theorem dX11_bestCorner_29 : decode cX11_bestCorner 29 = .ok (.bipush (-3), 2) := by decide +kernel
theorem dX11_bestCorner_31 : decode cX11_bestCorner 31 = .ok (.ireturn, 1) := by decide +kernel
theorem dX11_bestCorner_32 : decode cX11_bestCorner 32 = .ok (.aload_n 0, 1) := by decide +kernel
theorem dX11_bestCorner_33 : decode cX11_bestCorner 33 = .ok (.getfield 27, 3) := by decide +kernel
theorem dX11_bestCorner_36 : decode cX11_bestCorner 36 = .ok (.getfield 145, 3) := by decide +kernel
theorem dX11_bestCorner_39 : decode cX11_bestCorner 39 = .ok (.iload_n 1, 1) := by decide +kernel
theorem dX11_bestCorner_40 : decode cX11_bestCorner 40 = .ok (.invokevirtual 249, 3) := by decide +kernel
theorem dX11_bestCorner_43 : decode cX11_bestCorner 43 = .ok (.istore 4, 2) := by decide +kernel
theorem dX11_bestCorner_45 : decode cX11_bestCorner 45 = .ok (.aload_n 0, 1) := by decide +kernel
theorem dX11_bestCorner_46 : decode cX11_bestCorner 46 = .ok (.getfield 65, 3) := by decide +kernel
theorem dX11_bestCorner_49 : decode cX11_bestCorner 49 = .ok (.iload 4, 2) := by decide +kernel
theorem dX11_bestCorner_51 : decode cX11_bestCorner 51 = .ok (.iconst 0, 1) := by decide +kernel
theorem dX11_bestCorner_52 : decode cX11_bestCorner 52 = .ok (.iload_n 2, 1) := by decide +kernel
theorem dX11_bestCorner_53 : decode cX11_bestCorner 53 = .ok (.iload_n 3, 1) := by decide +kernel
theorem dX11_bestCorner_54 : decode cX11_bestCorner 54 = .ok (.iconst 0, 1) := by decide +kernel
theorem dX11_bestCorner_55 : decode cX11_bestCorner 55 = .ok (.invokevirtual 263, 3) := by decide +kernel
theorem dX11_bestCorner_58 : decode cX11_bestCorner 58 = .ok (.istore 5, 2) := by decide +kernel
theorem dX11_bestCorner_60 : decode cX11_bestCorner 60 = .ok (.iconst (-1), 1) := by decide +kernel
theorem dX11_bestCorner_61 : decode cX11_bestCorner 61 = .ok (.istore 6, 2) := by decide +kernel
theorem dX11_bestCorner_63 : decode cX11_bestCorner 63 = .ok (.iconst 0, 1) := by decide +kernel
theorem dX11_bestCorner_64 : decode cX11_bestCorner 64 = .ok (.istore 7, 2) := by decide +kernel
theorem dX11_bestCorner_66 : decode cX11_bestCorner 66 = .ok (.iload 7, 2) := by decide +kernel
theorem dX11_bestCorner_68 : decode cX11_bestCorner 68 = .ok (.aload_n 0, 1) := by decide +kernel
theorem dX11_bestCorner_69 : decode cX11_bestCorner 69 = .ok (.getfield 27, 3) := by decide +kernel
theorem dX11_bestCorner_72 : decode cX11_bestCorner 72 = .ok (.invokevirtual 287, 3) := by decide +kernel
theorem dX11_bestCorner_75 : decode cX11_bestCorner 75 = .ok (.if_icmp .ge 47, 3) := by decide +kernel
theorem dX11_bestCorner_78 : decode cX11_bestCorner 78 = .ok (.iload 5, 2) := by decide +kernel
theorem dX11_bestCorner_80 : decode cX11_bestCorner 80 = .ok (.ifCond .le 42, 3) := by decide +kernel
theorem dX11_bestCorner_83 : decode cX11_bestCorner 83 = .ok (.aload_n 0, 1) := by decide +kernel
theorem dX11_bestCorner_84 : decode cX11_bestCorner 84 = .ok (.getfield 65, 3) := by decide +kernel
theorem dX11_bestCorner_87 : decode cX11_bestCorner 87 = .ok (.iload 4, 2) := by decide +kernel
theorem dX11_bestCorner_89 : decode cX11_bestCorner 89 = .ok (.iconst 0, 1) := by decide +kernel
theorem dX11_bestCorner_90 : decode cX11_bestCorner 90 = .ok (.iload_n 2, 1) := by decide +kernel
theorem dX11_bestCorner_91 : decode cX11_bestCorner 91 = .ok (.iload_n 3, 1) := by decide +kernel
theorem dX11_bestCorner_92 : decode cX11_bestCorner 92 = .ok (.iconst 1, 1) := by decide +kernel
theorem dX11_bestCorner_93 : decode cX11_bestCorner 93 = .ok (.iload 7, 2) := by decide +kernel
theorem dX11_bestCorner_95 : decode cX11_bestCorner 95 = .ok (.ishl, 1) := by decide +kernel
theorem dX11_bestCorner_96 : decode cX11_bestCorner 96 = .ok (.invokevirtual 263, 3) := by decide +kernel
theorem dX11_bestCorner_99 : decode cX11_bestCorner 99 = .ok (.istore 8, 2) := by decide +kernel
theorem dX11_bestCorner_101 : decode cX11_bestCorner 101 = .ok (.iload 8, 2) := by decide +kernel
theorem dX11_bestCorner_103 : decode cX11_bestCorner 103 = .ok (.iload 5, 2) := by decide +kernel
theorem dX11_bestCorner_105 : decode cX11_bestCorner 105 = .ok (.if_icmp .ge 11, 3) := by decide +kernel
theorem dX11_bestCorner_108 : decode cX11_bestCorner 108 = .ok (.iload 8, 2) := by decide +kernel
theorem dX11_bestCorner_110 : decode cX11_bestCorner 110 = .ok (.istore 5, 2) := by decide +kernel
theorem dX11_bestCorner_112 : decode cX11_bestCorner 112 = .ok (.iload 7, 2) := by decide +kernel
theorem dX11_bestCorner_114 : decode cX11_bestCorner 114 = .ok (.istore 6, 2) := by decide +kernel
theorem dX11_bestCorner_116 : decode cX11_bestCorner 116 = .ok (.iinc 7 1, 3) := by decide +kernel
theorem dX11_bestCorner_119 : decode cX11_bestCorner 119 = .ok (.goto (-53), 3) := by decide +kernel
theorem dX11_bestCorner_122 : decode cX11_bestCorner 122 = .ok (.iload 6, 2) := by decide +kernel
theorem dX11_bestCorner_124 : decode cX11_bestCorner 124 = .ok (.ireturn, 1) := by decide +kernel
theorem dX11_byRights_0 : decode cX11_byRights 0 = .ok (.aload_n 0, 1) := by decide +kernel
theorem dX11_byRights_1 : decode cX11_byRights 1 = .ok (.iload_n 1, 1) := by decide +kernel
theorem dX11_byRights_2 : decode cX11_byRights 2 = .ok (.iload_n 2, 1) := by decide +kernel
theorem dX11_byRights_3 : decode cX11_byRights 3 = .ok (.invokevirtual 163, 3) := by decide +kernel
theorem dX11_byRights_6 : decode cX11_byRights 6 = .ok (.ifCond .ne 6, 3) := by decide +kernel
theorem dX11_byRights_9 : decode cX11_byRights 9 = .ok (.bipush (-2), 2) := by decide +kernel
theorem dX11_byRights_11 : decode cX11_byRights 11 = .ok (.ireturn, 1) := by decide +kernel
theorem dX11_byRights_12 : decode cX11_byRights 12 = .ok (.aload_n 0, 1) := by decide +kernel
theorem dX11_byRights_13 : decode cX11_byRights 13 = .ok (.getfield 65, 3) := by decide +kernel
theorem dX11_byRights_16 : decode cX11_byRights 16 = .ok (.iconst 4, 1) := by decide +kernel
theorem dX11_byRights_17 : decode cX11_byRights 17 = .ok (.iload_n 1, 1) := by decide +kernel
theorem dX11_byRights_18 : decode cX11_byRights 18 = .ok (.imul, 1) := by decide +kernel
theorem dX11_byRights_19 : decode cX11_byRights 19 = .ok (.iload_n 2, 1) := by decide +kernel
theorem dX11_byRights_20 : decode cX11_byRights 20 = .ok (.iadd, 1) := by decide +kernel
theorem dX11_byRights_21 : decode cX11_byRights 21 = .ok (.invokevirtual 284, 3) := by decide +kernel
theorem dX11_byRights_24 : decode cX11_byRights 24 = .ok (.ireturn, 1) := by decide +kernel
theorem dX11_chase_0 : decode cX11_chase 0 = .ok (.aload_n 0, 1) := by decide +kernel
theorem dX11_chase_1 : decode cX11_chase 1 = .ok (.iload_n 1, 1) := by decide +kernel
theorem dX11_chase_2 : decode cX11_chase 2 = .ok (.iload_n 2, 1) := by decide +kernel
theorem dX11_chase_3 : decode cX11_chase 3 = .ok (.invokevirtual 163, 3) := by decide +kernel
theorem dX11_chase_6 : decode cX11_chase 6 = .ok (.ifCond .eq 13, 3) := by decide +kernel
theorem dX11_chase_9 : decode cX11_chase 9 = .ok (.aload_n 0, 1) := by decide +kernel
theorem dX11_chase_10 : decode cX11_chase 10 = .ok (.iload_n 3, 1) := by decide +kernel
theorem dX11_chase_11 : decode cX11_chase 11 = .ok (.iload 4, 2) := by decide +kernel
theorem dX11_chase_13 : decode cX11_chase 13 = .ok (.invokevirtual 163, 3) := by decide +kernel
theorem dX11_chase_16 : decode cX11_chase 16 = .ok (.ifCond .ne 6, 3) := by decide +kernel
theorem dX11_chase_19 : decode cX11_chase 19 = .ok (.bipush (-2), 2) := by decide +kernel
theorem dX11_chase_21 : decode cX11_chase 21 = .ok (.ireturn, 1) := by decide +kernel
theorem dX11_chase_22 : decode cX11_chase 22 = .ok (.iconst 0, 1) := by decide +kernel
theorem dX11_chase_23 : decode cX11_chase 23 = .ok (.istore 5, 2) := by decide +kernel
theorem dX11_chase_25 : decode cX11_chase 25 = .ok (.iload 5, 2) := by decide +kernel
theorem dX11_chase_27 : decode cX11_chase 27 = .ok (.bipush 30, 2) := by decide +kernel
theorem dX11_chase_29 : decode cX11_chase 29 = .ok (.if_icmp .gt 35, 3) := by decide +kernel
theorem dX11_chase_32 : decode cX11_chase 32 = .ok (.aload_n 0, 1) := by decide +kernel
theorem dX11_chase_33 : decode cX11_chase 33 = .ok (.getfield 72, 3) := by decide +kernel
theorem dX11_chase_36 : decode cX11_chase 36 = .ok (.iconst 4, 1) := by decide +kernel
theorem dX11_chase_37 : decode cX11_chase 37 = .ok (.iload_n 1, 1) := by decide +kernel
theorem dX11_chase_38 : decode cX11_chase 38 = .ok (.imul, 1) := by decide +kernel
theorem dX11_chase_39 : decode cX11_chase 39 = .ok (.iload_n 2, 1) := by decide +kernel
theorem dX11_chase_40 : decode cX11_chase 40 = .ok (.iadd, 1) := by decide +kernel
theorem dX11_chase_41 : decode cX11_chase 41 = .ok (.iload 4, 2) := by decide +kernel
theorem dX11_chase_43 : decode cX11_chase 43 = .ok (.iload 5, 2) := by decide +kernel
theorem dX11_chase_45 : decode cX11_chase 45 = .ok (.invokevirtual 311, 3) := by decide +kernel
theorem dX11_chase_48 : decode cX11_chase 48 = .ok (.iload_n 3, 1) := by decide +kernel
theorem dX11_chase_49 : decode cX11_chase 49 = .ok (.ishr, 1) := by decide +kernel
theorem dX11_chase_50 : decode cX11_chase 50 = .ok (.iconst 1, 1) := by decide +kernel
theorem dX11_chase_51 : decode cX11_chase 51 = .ok (.iand, 1) := by decide +kernel
theorem dX11_chase_52 : decode cX11_chase 52 = .ok (.ifCond .eq 6, 3) := by decide +kernel
theorem dX11_chase_55 : decode cX11_chase 55 = .ok (.iload 5, 2) := by decide +kernel
theorem dX11_chase_57 : decode cX11_chase 57 = .ok (.ireturn, 1) := by decide +kernel
theorem dX11_chase_58 : decode cX11_chase 58 = .ok (.iinc 5 1, 3) := by decide +kernel
theorem dX11_chase_61 : decode cX11_chase 61 = .ok (.goto (-36), 3) := by decide +kernel
theorem dX11_chase_64 : decode cX11_chase 64 = .ok (.iconst (-1), 1) := by decide +kernel
theorem dX11_chase_65 : decode cX11_chase 65 = .ok (.ireturn, 1) := by decide +kernel
theorem dX11_cheap_0 : decode cX11_cheap 0 = .ok (.iconst (-1), 1) := by decide +kernel
theorem dX11_cheap_1 : decode cX11_cheap 1 = .ok (.istore_n 1, 1) := by decide +kernel
theorem dX11_cheap_2 : decode cX11_cheap 2 = .ok (.iconst 0, 1) := by decide +kernel
theorem dX11_cheap_3 : decode cX11_cheap 3 = .ok (.istore_n 2, 1) := by decide +kernel
theorem dX11_cheap_4 : decode cX11_cheap 4 = .ok (.iconst 0, 1) := by decide +kernel
theorem dX11_cheap_5 : decode cX11_cheap 5 = .ok (.istore_n 3, 1) := by decide +kernel
theorem dX11_cheap_6 : decode cX11_cheap 6 = .ok (.iload_n 3, 1) := by decide +kernel
theorem dX11_cheap_7 : decode cX11_cheap 7 = .ok (.aload_n 0, 1) := by decide +kernel
theorem dX11_cheap_8 : decode cX11_cheap 8 = .ok (.getfield 27, 3) := by decide +kernel
theorem dX11_cheap_11 : decode cX11_cheap 11 = .ok (.invokevirtual 287, 3) := by decide +kernel
theorem dX11_cheap_14 : decode cX11_cheap 14 = .ok (.if_icmp .ge 57, 3) := by decide +kernel
theorem dX11_cheap_17 : decode cX11_cheap 17 = .ok (.aload_n 0, 1) := by decide +kernel
theorem dX11_cheap_18 : decode cX11_cheap 18 = .ok (.getfield 27, 3) := by decide +kernel
theorem dX11_cheap_21 : decode cX11_cheap 21 = .ok (.iload_n 3, 1) := by decide +kernel
theorem dX11_cheap_22 : decode cX11_cheap 22 = .ok (.aload_n 0, 1) := by decide +kernel
theorem dX11_cheap_23 : decode cX11_cheap 23 = .ok (.getfield 27, 3) := by decide +kernel
theorem dX11_cheap_26 : decode cX11_cheap 26 = .ok (.getfield 145, 3) := by decide +kernel
theorem dX11_cheap_29 : decode cX11_cheap 29 = .ok (.getfield 174, 3) := by decide +kernel
theorem dX11_cheap_32 : decode cX11_cheap 32 = .ok (.aload_n 0, 1) := by decide +kernel
theorem dX11_cheap_33 : decode cX11_cheap 33 = .ok (.getfield 27, 3) := by decide +kernel
theorem dX11_cheap_36 : decode cX11_cheap 36 = .ok (.getfield 145, 3) := by decide +kernel
theorem dX11_cheap_39 : decode cX11_cheap 39 = .ok (.getfield 177, 3) := by decide +kernel
theorem dX11_cheap_42 : decode cX11_cheap 42 = .ok (.iload_n 3, 1) := by decide +kernel
theorem dX11_cheap_43 : decode cX11_cheap 43 = .ok (.iaload, 1) := by decide +kernel
theorem dX11_cheap_44 : decode cX11_cheap 44 = .ok (.iconst 0, 1) := by decide +kernel
theorem dX11_cheap_45 : decode cX11_cheap 45 = .ok (.invokevirtual 180, 3) := by decide +kernel
theorem dX11_cheap_48 : decode cX11_cheap 48 = .ok (.istore 4, 2) := by decide +kernel
theorem dX11_cheap_50 : decode cX11_cheap 50 = .ok (.iload_n 1, 1) := by decide +kernel
theorem dX11_cheap_51 : decode cX11_cheap 51 = .ok (.ifCond .lt 9, 3) := by decide +kernel
theorem dX11_cheap_54 : decode cX11_cheap 54 = .ok (.iload 4, 2) := by decide +kernel
theorem dX11_cheap_56 : decode cX11_cheap 56 = .ok (.iload_n 2, 1) := by decide +kernel
theorem dX11_cheap_57 : decode cX11_cheap 57 = .ok (.if_icmp .ge 8, 3) := by decide +kernel
theorem dX11_cheap_60 : decode cX11_cheap 60 = .ok (.iload_n 3, 1) := by decide +kernel
theorem dX11_cheap_61 : decode cX11_cheap 61 = .ok (.istore_n 1, 1) := by decide +kernel
theorem dX11_cheap_62 : decode cX11_cheap 62 = .ok (.iload 4, 2) := by decide +kernel
theorem dX11_cheap_64 : decode cX11_cheap 64 = .ok (.istore_n 2, 1) := by decide +kernel
theorem dX11_cheap_65 : decode cX11_cheap 65 = .ok (.iinc 3 1, 3) := by decide +kernel
theorem dX11_cheap_68 : decode cX11_cheap 68 = .ok (.goto (-62), 3) := by decide +kernel
theorem dX11_cheap_71 : decode cX11_cheap 71 = .ok (.iload_n 1, 1) := by decide +kernel
theorem dX11_cheap_72 : decode cX11_cheap 72 = .ok (.ireturn, 1) := by decide +kernel
theorem dX11_cheapest_0 : decode cX11_cheapest 0 = .ok (.aload_n 0, 1) := by decide +kernel
theorem dX11_cheapest_1 : decode cX11_cheapest 1 = .ok (.iload_n 1, 1) := by decide +kernel
theorem dX11_cheapest_2 : decode cX11_cheapest 2 = .ok (.invokevirtual 141, 3) := by decide +kernel
theorem dX11_cheapest_5 : decode cX11_cheapest 5 = .ok (.ifCond .eq 11, 3) := by decide +kernel
theorem dX11_cheapest_8 : decode cX11_cheapest 8 = .ok (.aload_n 0, 1) := by decide +kernel
theorem dX11_cheapest_9 : decode cX11_cheapest 9 = .ok (.iload_n 2, 1) := by decide +kernel
theorem dX11_cheapest_10 : decode cX11_cheapest 10 = .ok (.invokevirtual 171, 3) := by decide +kernel
theorem dX11_cheapest_13 : decode cX11_cheapest 13 = .ok (.ifCond .ne 6, 3) := by decide +kernel
theorem dX11_cheapest_16 : decode cX11_cheapest 16 = .ok (.bipush (-2), 2) := by decide +kernel
theorem dX11_cheapest_18 : decode cX11_cheapest 18 = .ok (.ireturn, 1) := by decide +kernel
theorem dX11_cheapest_19 : decode cX11_cheapest 19 = .ok (.iload_n 3, 1) := by decide +kernel
theorem dX11_cheapest_20 : decode cX11_cheapest 20 = .ok (.ifCond .lt 9, 3) := by decide +kernel
theorem dX11_cheapest_23 : decode cX11_cheapest 23 = .ok (.iload_n 3, 1) := by decide +kernel
theorem dX11_cheapest_24 : decode cX11_cheapest 24 = .ok (.bipush 60, 2) := by decide +kernel
theorem dX11_cheapest_26 : decode cX11_cheapest 26 = .ok (.if_icmp .le 6, 3) := by decide +kernel
theorem dX11_cheapest_29 : decode cX11_cheapest 29 = .ok (.bipush (-3), 2) := by decide +kernel
theorem dX11_cheapest_31 : decode cX11_cheapest 31 = .ok (.ireturn, 1) := by decide +kernel
theorem dX11_cheapest_32 : decode cX11_cheapest 32 = .ok (.aload_n 0, 1) := by decide +kernel
theorem dX11_cheapest_33 : decode cX11_cheapest 33 = .ok (.getfield 61, 3) := by decide +kernel
theorem dX11_cheapest_36 : decode cX11_cheapest 36 = .ok (.aload_n 0, 1) := by decide +kernel
theorem dX11_cheapest_37 : decode cX11_cheapest 37 = .ok (.getfield 27, 3) := by decide +kernel
theorem dX11_cheapest_40 : decode cX11_cheapest 40 = .ok (.getfield 145, 3) := by decide +kernel
theorem dX11_cheapest_43 : decode cX11_cheapest 43 = .ok (.iload_n 1, 1) := by decide +kernel
theorem dX11_cheapest_44 : decode cX11_cheapest 44 = .ok (.invokevirtual 249, 3) := by decide +kernel
theorem dX11_cheapest_47 : decode cX11_cheapest 47 = .ok (.iload_n 2, 1) := by decide +kernel
theorem dX11_cheapest_48 : decode cX11_cheapest 48 = .ok (.iload_n 3, 1) := by decide +kernel
theorem dX11_cheapest_49 : decode cX11_cheapest 49 = .ok (.invokevirtual 266, 3) := by decide +kernel
theorem dX11_cheapest_52 : decode cX11_cheapest 52 = .ok (.ireturn, 1) := by decide +kernel
theorem dX11_count_0 : decode cX11_count 0 = .ok (.iload_n 1, 1) := by decide +kernel
theorem dX11_count_1 : decode cX11_count 1 = .ok (.tableswitch 157 0 9 #[55, 63, 71, 82, 93, 104, 125, 130, 138, 146], 55) := by decide +kernel
theorem dX11_count_56 : decode cX11_count 56 = .ok (.aload_n 0, 1) := by decide +kernel
theorem dX11_count_57 : decode cX11_count 57 = .ok (.getfield 27, 3) := by decide +kernel
theorem dX11_count_60 : decode cX11_count 60 = .ok (.getfield 328, 3) := by decide +kernel
theorem dX11_count_63 : decode cX11_count 63 = .ok (.ireturn, 1) := by decide +kernel
theorem dX11_count_64 : decode cX11_count 64 = .ok (.aload_n 0, 1) := by decide +kernel
theorem dX11_count_65 : decode cX11_count 65 = .ok (.getfield 27, 3) := by decide +kernel
theorem dX11_count_68 : decode cX11_count 68 = .ok (.getfield 331, 3) := by decide +kernel
theorem dX11_count_71 : decode cX11_count 71 = .ok (.ireturn, 1) := by decide +kernel
theorem dX11_count_72 : decode cX11_count 72 = .ok (.aload_n 0, 1) := by decide +kernel
theorem dX11_count_73 : decode cX11_count 73 = .ok (.getfield 27, 3) := by decide +kernel
theorem dX11_count_76 : decode cX11_count 76 = .ok (.getfield 145, 3) := by decide +kernel
theorem dX11_count_79 : decode cX11_count 79 = .ok (.getfield 240, 3) := by decide +kernel
theorem dX11_count_82 : decode cX11_count 82 = .ok (.ireturn, 1) := by decide +kernel
theorem dX11_count_83 : decode cX11_count 83 = .ok (.aload_n 0, 1) := by decide +kernel
theorem dX11_count_84 : decode cX11_count 84 = .ok (.getfield 27, 3) := by decide +kernel
theorem dX11_count_87 : decode cX11_count 87 = .ok (.getfield 145, 3) := by decide +kernel
theorem dX11_count_90 : decode cX11_count 90 = .ok (.getfield 174, 3) := by decide +kernel
theorem dX11_count_93 : decode cX11_count 93 = .ok (.ireturn, 1) := by decide +kernel
theorem dX11_count_94 : decode cX11_count 94 = .ok (.aload_n 0, 1) := by decide +kernel
theorem dX11_count_95 : decode cX11_count 95 = .ok (.getfield 27, 3) := by decide +kernel
theorem dX11_count_98 : decode cX11_count 98 = .ok (.getfield 145, 3) := by decide +kernel
theorem dX11_count_101 : decode cX11_count 101 = .ok (.invokevirtual 334, 3) := by decide +kernel
theorem dX11_count_104 : decode cX11_count 104 = .ok (.ireturn, 1) := by decide +kernel
theorem dX11_count_105 : decode cX11_count 105 = .ok (.aload_n 0, 1) := by decide +kernel
theorem dX11_count_106 : decode cX11_count 106 = .ok (.getfield 27, 3) := by decide +kernel
theorem dX11_count_109 : decode cX11_count 109 = .ok (.aload_n 0, 1) := by decide +kernel
theorem dX11_count_110 : decode cX11_count 110 = .ok (.getfield 27, 3) := by decide +kernel
theorem dX11_count_113 : decode cX11_count 113 = .ok (.getfield 145, 3) := by decide +kernel
theorem dX11_count_116 : decode cX11_count 116 = .ok (.getfield 174, 3) := by decide +kernel
theorem dX11_count_119 : decode cX11_count 119 = .ok (.invokevirtual 184, 3) := by decide +kernel
theorem dX11_count_122 : decode cX11_count 122 = .ok (.invokestatic 229, 3) := by decide +kernel
theorem dX11_count_125 : decode cX11_count 125 = .ok (.ireturn, 1) := by decide +kernel
theorem dX11_count_126 : decode cX11_count 126 = .ok (.aload_n 0, 1) := by decide +kernel
theorem dX11_count_127 : decode cX11_count 127 = .ok (.getfield 234, 3) := by decide +kernel
theorem dX11_count_130 : decode cX11_count 130 = .ok (.ireturn, 1) := by decide +kernel
theorem dX11_count_131 : decode cX11_count 131 = .ok (.aload_n 0, 1) := by decide +kernel
theorem dX11_count_132 : decode cX11_count 132 = .ok (.getfield 37, 3) := by decide +kernel
theorem dX11_count_135 : decode cX11_count 135 = .ok (.invokevirtual 117, 3) := by decide +kernel
theorem dX11_count_138 : decode cX11_count 138 = .ok (.ireturn, 1) := by decide +kernel
theorem dX11_count_139 : decode cX11_count 139 = .ok (.aload_n 0, 1) := by decide +kernel
theorem dX11_count_140 : decode cX11_count 140 = .ok (.getfield 27, 3) := by decide +kernel
theorem dX11_count_143 : decode cX11_count 143 = .ok (.getfield 131, 3) := by decide +kernel
theorem dX11_count_146 : decode cX11_count 146 = .ok (.ireturn, 1) := by decide +kernel
theorem dX11_count_147 : decode cX11_count 147 = .ok (.aload_n 0, 1) := by decide +kernel
theorem dX11_count_148 : decode cX11_count 148 = .ok (.getfield 27, 3) := by decide +kernel
theorem dX11_count_151 : decode cX11_count 151 = .ok (.getfield 145, 3) := by decide +kernel
theorem dX11_count_154 : decode cX11_count 154 = .ok (.invokevirtual 337, 3) := by decide +kernel
theorem dX11_count_157 : decode cX11_count 157 = .ok (.ireturn, 1) := by decide +kernel
theorem dX11_count_158 : decode cX11_count 158 = .ok (.iconst (-1), 1) := by decide +kernel
theorem dX11_count_159 : decode cX11_count 159 = .ok (.ireturn, 1) := by decide +kernel
theorem dX11_dealing_0 : decode cX11_dealing 0 = .ok (.aload_n 0, 1) := by decide +kernel
theorem dX11_dealing_1 : decode cX11_dealing 1 = .ok (.iload_n 1, 1) := by decide +kernel
theorem dX11_dealing_2 : decode cX11_dealing 2 = .ok (.iload_n 2, 1) := by decide +kernel
theorem dX11_dealing_3 : decode cX11_dealing 3 = .ok (.invokevirtual 163, 3) := by decide +kernel
theorem dX11_dealing_6 : decode cX11_dealing 6 = .ok (.ifCond .eq 12, 3) := by decide +kernel
theorem dX11_dealing_9 : decode cX11_dealing 9 = .ok (.iload_n 3, 1) := by decide +kernel
theorem dX11_dealing_10 : decode cX11_dealing 10 = .ok (.ifCond .lt 8, 3) := by decide +kernel
theorem dX11_dealing_13 : decode cX11_dealing 13 = .ok (.iload_n 3, 1) := by decide +kernel
theorem dX11_dealing_14 : decode cX11_dealing 14 = .ok (.iconst 2, 1) := by decide +kernel
theorem dX11_dealing_15 : decode cX11_dealing 15 = .ok (.if_icmp .le 6, 3) := by decide +kernel
theorem dX11_dealing_18 : decode cX11_dealing 18 = .ok (.bipush (-2), 2) := by decide +kernel
theorem dX11_dealing_20 : decode cX11_dealing 20 = .ok (.ireturn, 1) := by decide +kernel
theorem dX11_dealing_21 : decode cX11_dealing 21 = .ok (.iconst 0, 1) := by decide +kernel
theorem dX11_dealing_22 : decode cX11_dealing 22 = .ok (.istore 4, 2) := by decide +kernel
theorem dX11_dealing_24 : decode cX11_dealing 24 = .ok (.iload 4, 2) := by decide +kernel
theorem dX11_dealing_26 : decode cX11_dealing 26 = .ok (.bipush 24, 2) := by decide +kernel
theorem dX11_dealing_28 : decode cX11_dealing 28 = .ok (.if_icmp .ge 50, 3) := by decide +kernel
theorem dX11_dealing_31 : decode cX11_dealing 31 = .ok (.aload_n 0, 1) := by decide +kernel
theorem dX11_dealing_32 : decode cX11_dealing 32 = .ok (.getfield 106, 3) := by decide +kernel
theorem dX11_dealing_35 : decode cX11_dealing 35 = .ok (.iload 4, 2) := by decide +kernel
theorem dX11_dealing_37 : decode cX11_dealing 37 = .ok (.aload_n 0, 1) := by decide +kernel
theorem dX11_dealing_38 : decode cX11_dealing 38 = .ok (.getfield 27, 3) := by decide +kernel
theorem dX11_dealing_41 : decode cX11_dealing 41 = .ok (.iload_n 1, 1) := by decide +kernel
theorem dX11_dealing_42 : decode cX11_dealing 42 = .ok (.aload_n 0, 1) := by decide +kernel
theorem dX11_dealing_43 : decode cX11_dealing 43 = .ok (.getfield 27, 3) := by decide +kernel
theorem dX11_dealing_46 : decode cX11_dealing 46 = .ok (.getfield 145, 3) := by decide +kernel
theorem dX11_dealing_49 : decode cX11_dealing 49 = .ok (.getfield 174, 3) := by decide +kernel
theorem dX11_dealing_52 : decode cX11_dealing 52 = .ok (.iload 4, 2) := by decide +kernel
theorem dX11_dealing_54 : decode cX11_dealing 54 = .ok (.iadd, 1) := by decide +kernel
theorem dX11_dealing_55 : decode cX11_dealing 55 = .ok (.aload_n 0, 1) := by decide +kernel
theorem dX11_dealing_56 : decode cX11_dealing 56 = .ok (.getfield 27, 3) := by decide +kernel
theorem dX11_dealing_59 : decode cX11_dealing 59 = .ok (.getfield 145, 3) := by decide +kernel
theorem dX11_dealing_62 : decode cX11_dealing 62 = .ok (.getfield 177, 3) := by decide +kernel
theorem dX11_dealing_65 : decode cX11_dealing 65 = .ok (.iload_n 1, 1) := by decide +kernel
theorem dX11_dealing_66 : decode cX11_dealing 66 = .ok (.iaload, 1) := by decide +kernel
theorem dX11_dealing_67 : decode cX11_dealing 67 = .ok (.iload_n 2, 1) := by decide +kernel
theorem dX11_dealing_68 : decode cX11_dealing 68 = .ok (.invokevirtual 180, 3) := by decide +kernel
theorem dX11_dealing_71 : decode cX11_dealing 71 = .ok (.iastore, 1) := by decide +kernel
theorem dX11_dealing_72 : decode cX11_dealing 72 = .ok (.iinc 4 1, 3) := by decide +kernel
theorem dX11_dealing_75 : decode cX11_dealing 75 = .ok (.goto (-51), 3) := by decide +kernel
theorem dX11_dealing_78 : decode cX11_dealing 78 = .ok (.iconst 0, 1) := by decide +kernel
theorem dX11_dealing_79 : decode cX11_dealing 79 = .ok (.istore 4, 2) := by decide +kernel
theorem dX11_dealing_81 : decode cX11_dealing 81 = .ok (.iconst (-1), 1) := by decide +kernel
theorem dX11_dealing_82 : decode cX11_dealing 82 = .ok (.istore 5, 2) := by decide +kernel
theorem dX11_dealing_84 : decode cX11_dealing 84 = .ok (.iconst (-1), 1) := by decide +kernel
theorem dX11_dealing_85 : decode cX11_dealing 85 = .ok (.istore 6, 2) := by decide +kernel
theorem dX11_dealing_87 : decode cX11_dealing 87 = .ok (.iconst 0, 1) := by decide +kernel
theorem dX11_dealing_88 : decode cX11_dealing 88 = .ok (.istore 7, 2) := by decide +kernel
theorem dX11_dealing_90 : decode cX11_dealing 90 = .ok (.iload 7, 2) := by decide +kernel
theorem dX11_dealing_92 : decode cX11_dealing 92 = .ok (.bipush 24, 2) := by decide +kernel
theorem dX11_dealing_94 : decode cX11_dealing 94 = .ok (.if_icmp .ge 73, 3) := by decide +kernel
theorem dX11_dealing_97 : decode cX11_dealing 97 = .ok (.iload 7, 2) := by decide +kernel
theorem dX11_dealing_99 : decode cX11_dealing 99 = .ok (.iconst 1, 1) := by decide +kernel
theorem dX11_dealing_100 : decode cX11_dealing 100 = .ok (.iadd, 1) := by decide +kernel
theorem dX11_dealing_101 : decode cX11_dealing 101 = .ok (.istore 8, 2) := by decide +kernel
theorem dX11_dealing_103 : decode cX11_dealing 103 = .ok (.iload 8, 2) := by decide +kernel
theorem dX11_dealing_105 : decode cX11_dealing 105 = .ok (.bipush 24, 2) := by decide +kernel
theorem dX11_dealing_107 : decode cX11_dealing 107 = .ok (.if_icmp .ge 54, 3) := by decide +kernel
theorem dX11_dealing_110 : decode cX11_dealing 110 = .ok (.aload_n 0, 1) := by decide +kernel
theorem dX11_dealing_111 : decode cX11_dealing 111 = .ok (.getfield 106, 3) := by decide +kernel
theorem dX11_dealing_114 : decode cX11_dealing 114 = .ok (.iload 8, 2) := by decide +kernel
theorem dX11_dealing_116 : decode cX11_dealing 116 = .ok (.iaload, 1) := by decide +kernel
theorem dX11_dealing_117 : decode cX11_dealing 117 = .ok (.aload_n 0, 1) := by decide +kernel
theorem dX11_dealing_118 : decode cX11_dealing 118 = .ok (.getfield 106, 3) := by decide +kernel
theorem dX11_dealing_121 : decode cX11_dealing 121 = .ok (.iload 7, 2) := by decide +kernel
theorem dX11_dealing_123 : decode cX11_dealing 123 = .ok (.iaload, 1) := by decide +kernel
theorem dX11_dealing_124 : decode cX11_dealing 124 = .ok (.isub, 1) := by decide +kernel
theorem dX11_dealing_125 : decode cX11_dealing 125 = .ok (.iload 4, 2) := by decide +kernel
theorem dX11_dealing_127 : decode cX11_dealing 127 = .ok (.if_icmp .le 28, 3) := by decide +kernel
theorem dX11_dealing_130 : decode cX11_dealing 130 = .ok (.aload_n 0, 1) := by decide +kernel
theorem dX11_dealing_131 : decode cX11_dealing 131 = .ok (.getfield 106, 3) := by decide +kernel
theorem dX11_dealing_134 : decode cX11_dealing 134 = .ok (.iload 8, 2) := by decide +kernel
theorem dX11_dealing_136 : decode cX11_dealing 136 = .ok (.iaload, 1) := by decide +kernel
theorem dX11_dealing_137 : decode cX11_dealing 137 = .ok (.aload_n 0, 1) := by decide +kernel
theorem dX11_dealing_138 : decode cX11_dealing 138 = .ok (.getfield 106, 3) := by decide +kernel
theorem dX11_dealing_141 : decode cX11_dealing 141 = .ok (.iload 7, 2) := by decide +kernel
theorem dX11_dealing_143 : decode cX11_dealing 143 = .ok (.iaload, 1) := by decide +kernel
theorem dX11_dealing_144 : decode cX11_dealing 144 = .ok (.isub, 1) := by decide +kernel
theorem dX11_dealing_145 : decode cX11_dealing 145 = .ok (.istore 4, 2) := by decide +kernel
theorem dX11_dealing_147 : decode cX11_dealing 147 = .ok (.iload 7, 2) := by decide +kernel
theorem dX11_dealing_149 : decode cX11_dealing 149 = .ok (.istore 5, 2) := by decide +kernel
theorem dX11_dealing_151 : decode cX11_dealing 151 = .ok (.iload 8, 2) := by decide +kernel
theorem dX11_dealing_153 : decode cX11_dealing 153 = .ok (.istore 6, 2) := by decide +kernel
theorem dX11_dealing_155 : decode cX11_dealing 155 = .ok (.iinc 8 1, 3) := by decide +kernel
theorem dX11_dealing_158 : decode cX11_dealing 158 = .ok (.goto (-55), 3) := by decide +kernel
theorem dX11_dealing_161 : decode cX11_dealing 161 = .ok (.iinc 7 1, 3) := by decide +kernel
theorem dX11_dealing_164 : decode cX11_dealing 164 = .ok (.goto (-74), 3) := by decide +kernel
theorem dX11_dealing_167 : decode cX11_dealing 167 = .ok (.iload_n 3, 1) := by decide +kernel
theorem dX11_dealing_168 : decode cX11_dealing 168 = .ok (.ifCond .ne 8, 3) := by decide +kernel
theorem dX11_dealing_171 : decode cX11_dealing 171 = .ok (.iload 4, 2) := by decide +kernel
theorem dX11_dealing_173 : decode cX11_dealing 173 = .ok (.goto 15, 3) := by decide +kernel
theorem dX11_dealing_176 : decode cX11_dealing 176 = .ok (.iload_n 3, 1) := by decide +kernel
theorem dX11_dealing_177 : decode cX11_dealing 177 = .ok (.iconst 1, 1) := by decide +kernel
theorem dX11_dealing_178 : decode cX11_dealing 178 = .ok (.if_icmp .ne 8, 3) := by decide +kernel
theorem dX11_dealing_181 : decode cX11_dealing 181 = .ok (.iload 5, 2) := by decide +kernel
theorem dX11_dealing_183 : decode cX11_dealing 183 = .ok (.goto 5, 3) := by decide +kernel
theorem dX11_dealing_186 : decode cX11_dealing 186 = .ok (.iload 6, 2) := by decide +kernel
theorem dX11_dealing_188 : decode cX11_dealing 188 = .ok (.ireturn, 1) := by decide +kernel
theorem dX11_enough_0 : decode cX11_enough 0 = .ok (.aload_n 0, 1) := by decide +kernel
theorem dX11_enough_1 : decode cX11_enough 1 = .ok (.iload_n 1, 1) := by decide +kernel
theorem dX11_enough_2 : decode cX11_enough 2 = .ok (.invokevirtual 141, 3) := by decide +kernel
theorem dX11_enough_5 : decode cX11_enough 5 = .ok (.ifCond .ne 6, 3) := by decide +kernel
theorem dX11_enough_8 : decode cX11_enough 8 = .ok (.bipush (-2), 2) := by decide +kernel
theorem dX11_enough_10 : decode cX11_enough 10 = .ok (.ireturn, 1) := by decide +kernel
theorem dX11_enough_11 : decode cX11_enough 11 = .ok (.aload_n 0, 1) := by decide +kernel
theorem dX11_enough_12 : decode cX11_enough 12 = .ok (.getfield 65, 3) := by decide +kernel
theorem dX11_enough_15 : decode cX11_enough 15 = .ok (.aload_n 0, 1) := by decide +kernel
theorem dX11_enough_16 : decode cX11_enough 16 = .ok (.getfield 27, 3) := by decide +kernel
theorem dX11_enough_19 : decode cX11_enough 19 = .ok (.getfield 145, 3) := by decide +kernel
theorem dX11_enough_22 : decode cX11_enough 22 = .ok (.iload_n 1, 1) := by decide +kernel
theorem dX11_enough_23 : decode cX11_enough 23 = .ok (.invokevirtual 249, 3) := by decide +kernel
theorem dX11_enough_26 : decode cX11_enough 26 = .ok (.invokevirtual 281, 3) := by decide +kernel
theorem dX11_enough_29 : decode cX11_enough 29 = .ok (.ireturn, 1) := by decide +kernel
theorem dX11_fewest_0 : decode cX11_fewest 0 = .ok (.aload_n 0, 1) := by decide +kernel
theorem dX11_fewest_1 : decode cX11_fewest 1 = .ok (.iload_n 1, 1) := by decide +kernel
theorem dX11_fewest_2 : decode cX11_fewest 2 = .ok (.invokevirtual 141, 3) := by decide +kernel
theorem dX11_fewest_5 : decode cX11_fewest 5 = .ok (.ifCond .eq 11, 3) := by decide +kernel
theorem dX11_fewest_8 : decode cX11_fewest 8 = .ok (.aload_n 0, 1) := by decide +kernel
theorem dX11_fewest_9 : decode cX11_fewest 9 = .ok (.iload_n 2, 1) := by decide +kernel
theorem dX11_fewest_10 : decode cX11_fewest 10 = .ok (.invokevirtual 171, 3) := by decide +kernel
theorem dX11_fewest_13 : decode cX11_fewest 13 = .ok (.ifCond .ne 6, 3) := by decide +kernel
theorem dX11_fewest_16 : decode cX11_fewest 16 = .ok (.bipush (-2), 2) := by decide +kernel
theorem dX11_fewest_18 : decode cX11_fewest 18 = .ok (.ireturn, 1) := by decide +kernel
theorem dX11_fewest_19 : decode cX11_fewest 19 = .ok (.iload_n 3, 1) := by decide +kernel
theorem dX11_fewest_20 : decode cX11_fewest 20 = .ok (.ifCond .lt 9, 3) := by decide +kernel
theorem dX11_fewest_23 : decode cX11_fewest 23 = .ok (.iload_n 3, 1) := by decide +kernel
theorem dX11_fewest_24 : decode cX11_fewest 24 = .ok (.bipush 60, 2) := by decide +kernel
theorem dX11_fewest_26 : decode cX11_fewest 26 = .ok (.if_icmp .le 6, 3) := by decide +kernel
theorem dX11_fewest_29 : decode cX11_fewest 29 = .ok (.bipush (-3), 2) := by decide +kernel
theorem dX11_fewest_31 : decode cX11_fewest 31 = .ok (.ireturn, 1) := by decide +kernel
theorem dX11_fewest_32 : decode cX11_fewest 32 = .ok (.aload_n 0, 1) := by decide +kernel
theorem dX11_fewest_33 : decode cX11_fewest 33 = .ok (.getfield 65, 3) := by decide +kernel
theorem dX11_fewest_36 : decode cX11_fewest 36 = .ok (.aload_n 0, 1) := by decide +kernel
theorem dX11_fewest_37 : decode cX11_fewest 37 = .ok (.getfield 27, 3) := by decide +kernel
theorem dX11_fewest_40 : decode cX11_fewest 40 = .ok (.getfield 145, 3) := by decide +kernel
theorem dX11_fewest_43 : decode cX11_fewest 43 = .ok (.iload_n 1, 1) := by decide +kernel
theorem dX11_fewest_44 : decode cX11_fewest 44 = .ok (.invokevirtual 249, 3) := by decide +kernel
theorem dX11_fewest_47 : decode cX11_fewest 47 = .ok (.iconst 0, 1) := by decide +kernel
theorem dX11_fewest_48 : decode cX11_fewest 48 = .ok (.iload_n 2, 1) := by decide +kernel
theorem dX11_fewest_49 : decode cX11_fewest 49 = .ok (.iload_n 3, 1) := by decide +kernel
theorem dX11_fewest_50 : decode cX11_fewest 50 = .ok (.iconst 0, 1) := by decide +kernel
theorem dX11_fewest_51 : decode cX11_fewest 51 = .ok (.invokevirtual 263, 3) := by decide +kernel
theorem dX11_fewest_54 : decode cX11_fewest 54 = .ok (.ireturn, 1) := by decide +kernel
theorem dX11_found_0 : decode cX11_found 0 = .ok (.aload_n 0, 1) := by decide +kernel
theorem dX11_found_1 : decode cX11_found 1 = .ok (.iload_n 1, 1) := by decide +kernel
theorem dX11_found_2 : decode cX11_found 2 = .ok (.invokevirtual 141, 3) := by decide +kernel
theorem dX11_found_5 : decode cX11_found 5 = .ok (.ifCond .eq 10, 3) := by decide +kernel
theorem dX11_found_8 : decode cX11_found 8 = .ok (.iload_n 2, 1) := by decide +kernel
theorem dX11_found_9 : decode cX11_found 9 = .ok (.invokestatic 211, 3) := by decide +kernel
theorem dX11_found_12 : decode cX11_found 12 = .ok (.ifCond .ne 6, 3) := by decide +kernel
theorem dX11_found_15 : decode cX11_found 15 = .ok (.bipush (-2), 2) := by decide +kernel
theorem dX11_found_17 : decode cX11_found 17 = .ok (.ireturn, 1) := by decide +kernel
theorem dX11_found_18 : decode cX11_found 18 = .ok (.aload_n 0, 1) := by decide +kernel
theorem dX11_found_19 : decode cX11_found 19 = .ok (.getfield 78, 3) := by decide +kernel
theorem dX11_found_22 : decode cX11_found 22 = .ok (.iload_n 2, 1) := by decide +kernel
theorem dX11_found_23 : decode cX11_found 23 = .ok (.aaload, 1) := by decide +kernel
theorem dX11_found_24 : decode cX11_found 24 = .ok (.astore 4, 2) := by decide +kernel
theorem dX11_found_26 : decode cX11_found 26 = .ok (.aload 4, 2) := by decide +kernel
theorem dX11_found_28 : decode cX11_found 28 = .ok (.getfield 214, 3) := by decide +kernel
theorem dX11_found_31 : decode cX11_found 31 = .ok (.ifCond .ge 6, 3) := by decide +kernel
theorem dX11_found_34 : decode cX11_found 34 = .ok (.bipush (-6), 2) := by decide +kernel
theorem dX11_found_36 : decode cX11_found 36 = .ok (.ireturn, 1) := by decide +kernel
theorem dX11_found_37 : decode cX11_found 37 = .ok (.aload 4, 2) := by decide +kernel
theorem dX11_found_39 : decode cX11_found 39 = .ok (.getfield 214, 3) := by decide +kernel
theorem dX11_found_42 : decode cX11_found 42 = .ok (.bipush 10, 2) := by decide +kernel
theorem dX11_found_44 : decode cX11_found 44 = .ok (.if_icmp .le 6, 3) := by decide +kernel
theorem dX11_found_47 : decode cX11_found 47 = .ok (.bipush (-4), 2) := by decide +kernel
theorem dX11_found_49 : decode cX11_found 49 = .ok (.ireturn, 1) := by decide +kernel
theorem dX11_found_50 : decode cX11_found 50 = .ok (.aload 4, 2) := by decide +kernel
theorem dX11_found_52 : decode cX11_found 52 = .ok (.aload_n 0, 1) := by decide +kernel
theorem dX11_found_53 : decode cX11_found 53 = .ok (.getfield 27, 3) := by decide +kernel
theorem dX11_found_56 : decode cX11_found 56 = .ok (.invokevirtual 287, 3) := by decide +kernel
theorem dX11_found_59 : decode cX11_found 59 = .ok (.invokevirtual 290, 3) := by decide +kernel
theorem dX11_found_62 : decode cX11_found 62 = .ok (.ifCond .eq 13, 3) := by decide +kernel
theorem dX11_found_65 : decode cX11_found 65 = .ok (.iload_n 3, 1) := by decide +kernel
theorem dX11_found_66 : decode cX11_found 66 = .ok (.ifCond .lt 9, 3) := by decide +kernel
theorem dX11_found_69 : decode cX11_found 69 = .ok (.iload_n 3, 1) := by decide +kernel
theorem dX11_found_70 : decode cX11_found 70 = .ok (.bipush 30, 2) := by decide +kernel
theorem dX11_found_72 : decode cX11_found 72 = .ok (.if_icmp .le 6, 3) := by decide +kernel
theorem dX11_found_75 : decode cX11_found 75 = .ok (.bipush (-3), 2) := by decide +kernel
theorem dX11_found_77 : decode cX11_found 77 = .ok (.ireturn, 1) := by decide +kernel
theorem dX11_found_78 : decode cX11_found 78 = .ok (.aload_n 0, 1) := by decide +kernel
theorem dX11_found_79 : decode cX11_found 79 = .ok (.getfield 65, 3) := by decide +kernel
theorem dX11_found_82 : decode cX11_found 82 = .ok (.aload_n 0, 1) := by decide +kernel
theorem dX11_found_83 : decode cX11_found 83 = .ok (.getfield 27, 3) := by decide +kernel
theorem dX11_found_86 : decode cX11_found 86 = .ok (.getfield 145, 3) := by decide +kernel
theorem dX11_found_89 : decode cX11_found 89 = .ok (.iload_n 1, 1) := by decide +kernel
theorem dX11_found_90 : decode cX11_found 90 = .ok (.invokevirtual 249, 3) := by decide +kernel
theorem dX11_found_93 : decode cX11_found 93 = .ok (.aload 4, 2) := by decide +kernel
theorem dX11_found_95 : decode cX11_found 95 = .ok (.iload_n 3, 1) := by decide +kernel
theorem dX11_found_96 : decode cX11_found 96 = .ok (.invokevirtual 307, 3) := by decide +kernel
theorem dX11_found_99 : decode cX11_found 99 = .ok (.ireturn, 1) := by decide +kernel
theorem dX11_image_0 : decode cX11_image 0 = .ok (.iload_n 1, 1) := by decide +kernel
theorem dX11_image_1 : decode cX11_image 1 = .ok (.ifCond .lt 8, 3) := by decide +kernel
theorem dX11_image_4 : decode cX11_image 4 = .ok (.iload_n 1, 1) := by decide +kernel
theorem dX11_image_5 : decode cX11_image 5 = .ok (.iconst 2, 1) := by decide +kernel
theorem dX11_image_6 : decode cX11_image 6 = .ok (.if_icmp .lt 6, 3) := by decide +kernel
theorem dX11_image_9 : decode cX11_image 9 = .ok (.bipush (-2), 2) := by decide +kernel
theorem dX11_image_11 : decode cX11_image 11 = .ok (.ireturn, 1) := by decide +kernel
theorem dX11_image_12 : decode cX11_image 12 = .ok (.aload_n 0, 1) := by decide +kernel
theorem dX11_image_13 : decode cX11_image 13 = .ok (.getfield 83, 3) := by decide +kernel
theorem dX11_image_16 : decode cX11_image 16 = .ok (.iload_n 1, 1) := by decide +kernel
theorem dX11_image_17 : decode cX11_image 17 = .ok (.aaload, 1) := by decide +kernel
theorem dX11_image_18 : decode cX11_image 18 = .ok (.aload_n 0, 1) := by decide +kernel
theorem dX11_image_19 : decode cX11_image 19 = .ok (.getfield 27, 3) := by decide +kernel
theorem dX11_image_22 : decode cX11_image 22 = .ok (.invokevirtual 125, 3) := by decide +kernel
theorem dX11_image_25 : decode cX11_image 25 = .ok (.aload_n 0, 1) := by decide +kernel
theorem dX11_image_26 : decode cX11_image 26 = .ok (.getfield 87, 3) := by decide +kernel
theorem dX11_image_29 : decode cX11_image 29 = .ok (.iload_n 1, 1) := by decide +kernel
theorem dX11_image_30 : decode cX11_image 30 = .ok (.iconst 1, 1) := by decide +kernel
theorem dX11_image_31 : decode cX11_image 31 = .ok (.bastore, 1) := by decide +kernel
theorem dX11_image_32 : decode cX11_image 32 = .ok (.iconst 0, 1) := by decide +kernel
theorem dX11_image_33 : decode cX11_image 33 = .ok (.ireturn, 1) := by decide +kernel
theorem dX11_lists_0 : decode cX11_lists 0 = .ok (.iload_n 1, 1) := by decide +kernel
theorem dX11_lists_1 : decode cX11_lists 1 = .ok (.invokestatic 211, 3) := by decide +kernel
theorem dX11_lists_4 : decode cX11_lists 4 = .ok (.ifCond .eq 19, 3) := by decide +kernel
theorem dX11_lists_7 : decode cX11_lists 7 = .ok (.aload_n 0, 1) := by decide +kernel
theorem dX11_lists_8 : decode cX11_lists 8 = .ok (.iload_n 2, 1) := by decide +kernel
theorem dX11_lists_9 : decode cX11_lists 9 = .ok (.invokevirtual 141, 3) := by decide +kernel
theorem dX11_lists_12 : decode cX11_lists 12 = .ok (.ifCond .eq 11, 3) := by decide +kernel
theorem dX11_lists_15 : decode cX11_lists 15 = .ok (.aload_n 0, 1) := by decide +kernel
theorem dX11_lists_16 : decode cX11_lists 16 = .ok (.iload_n 3, 1) := by decide +kernel
theorem dX11_lists_17 : decode cX11_lists 17 = .ok (.invokevirtual 171, 3) := by decide +kernel
theorem dX11_lists_20 : decode cX11_lists 20 = .ok (.ifCond .ne 6, 3) := by decide +kernel
theorem dX11_lists_23 : decode cX11_lists 23 = .ok (.bipush (-2), 2) := by decide +kernel
theorem dX11_lists_25 : decode cX11_lists 25 = .ok (.ireturn, 1) := by decide +kernel
theorem dX11_lists_26 : decode cX11_lists 26 = .ok (.aload_n 0, 1) := by decide +kernel
theorem dX11_lists_27 : decode cX11_lists 27 = .ok (.getfield 78, 3) := by decide +kernel
theorem dX11_lists_30 : decode cX11_lists 30 = .ok (.iload_n 1, 1) := by decide +kernel
theorem dX11_lists_31 : decode cX11_lists 31 = .ok (.aaload, 1) := by decide +kernel
theorem dX11_lists_32 : decode cX11_lists 32 = .ok (.astore 5, 2) := by decide +kernel
theorem dX11_lists_34 : decode cX11_lists 34 = .ok (.aload 5, 2) := by decide +kernel
theorem dX11_lists_36 : decode cX11_lists 36 = .ok (.getfield 214, 3) := by decide +kernel
theorem dX11_lists_39 : decode cX11_lists 39 = .ok (.ifCond .ge 6, 3) := by decide +kernel
theorem dX11_lists_42 : decode cX11_lists 42 = .ok (.bipush (-6), 2) := by decide +kernel
theorem dX11_lists_44 : decode cX11_lists 44 = .ok (.ireturn, 1) := by decide +kernel
theorem dX11_lists_45 : decode cX11_lists 45 = .ok (.iload 4, 2) := by decide +kernel
theorem dX11_lists_47 : decode cX11_lists 47 = .ok (.ifCond .lt 10, 3) := by decide +kernel
theorem dX11_lists_50 : decode cX11_lists 50 = .ok (.iload 4, 2) := by decide +kernel
theorem dX11_lists_52 : decode cX11_lists 52 = .ok (.bipush 120, 2) := by decide +kernel
theorem dX11_lists_54 : decode cX11_lists 54 = .ok (.if_icmp .le 6, 3) := by decide +kernel
theorem dX11_lists_57 : decode cX11_lists 57 = .ok (.bipush (-3), 2) := by decide +kernel
theorem dX11_lists_59 : decode cX11_lists 59 = .ok (.ireturn, 1) := by decide +kernel
theorem dX11_lists_60 : decode cX11_lists 60 = .ok (.aload_n 0, 1) := by decide +kernel
theorem dX11_lists_61 : decode cX11_lists 61 = .ok (.getfield 45, 3) := by decide +kernel
theorem dX11_lists_64 : decode cX11_lists 64 = .ok (.aload_n 0, 1) := by decide +kernel
theorem dX11_lists_65 : decode cX11_lists 65 = .ok (.getfield 27, 3) := by decide +kernel
theorem dX11_lists_68 : decode cX11_lists 68 = .ok (.getfield 145, 3) := by decide +kernel
theorem dX11_lists_71 : decode cX11_lists 71 = .ok (.iload_n 2, 1) := by decide +kernel
theorem dX11_lists_72 : decode cX11_lists 72 = .ok (.invokevirtual 249, 3) := by decide +kernel
theorem dX11_lists_75 : decode cX11_lists 75 = .ok (.iload_n 3, 1) := by decide +kernel
theorem dX11_lists_76 : decode cX11_lists 76 = .ok (.iload 4, 2) := by decide +kernel
theorem dX11_lists_78 : decode cX11_lists 78 = .ok (.invokevirtual 256, 3) := by decide +kernel
theorem dX11_lists_81 : decode cX11_lists 81 = .ok (.ifCond .ne 6, 3) := by decide +kernel
theorem dX11_lists_84 : decode cX11_lists 84 = .ok (.bipush (-5), 2) := by decide +kernel
theorem dX11_lists_86 : decode cX11_lists 86 = .ok (.ireturn, 1) := by decide +kernel
theorem dX11_lists_87 : decode cX11_lists 87 = .ok (.aload 5, 2) := by decide +kernel
theorem dX11_lists_89 : decode cX11_lists 89 = .ok (.getfield 214, 3) := by decide +kernel
theorem dX11_lists_92 : decode cX11_lists 92 = .ok (.iconst 1, 1) := by decide +kernel
theorem dX11_lists_93 : decode cX11_lists 93 = .ok (.aload_n 0, 1) := by decide +kernel
theorem dX11_lists_94 : decode cX11_lists 94 = .ok (.getfield 45, 3) := by decide +kernel
theorem dX11_lists_97 : decode cX11_lists 97 = .ok (.invokevirtual 325, 3) := by decide +kernel
theorem dX11_lists_100 : decode cX11_lists 100 = .ok (.iadd, 1) := by decide +kernel
theorem dX11_lists_101 : decode cX11_lists 101 = .ok (.invokestatic 226, 3) := by decide +kernel
theorem dX11_lists_104 : decode cX11_lists 104 = .ok (.istore 6, 2) := by decide +kernel
theorem dX11_lists_106 : decode cX11_lists 106 = .ok (.iconst 0, 1) := by decide +kernel
theorem dX11_lists_107 : decode cX11_lists 107 = .ok (.istore 7, 2) := by decide +kernel
theorem dX11_lists_109 : decode cX11_lists 109 = .ok (.iload 7, 2) := by decide +kernel
theorem dX11_lists_111 : decode cX11_lists 111 = .ok (.iload 6, 2) := by decide +kernel
theorem dX11_lists_113 : decode cX11_lists 113 = .ok (.if_icmp .ge 39, 3) := by decide +kernel
theorem dX11_lists_116 : decode cX11_lists 116 = .ok (.aload 5, 2) := by decide +kernel
theorem dX11_lists_118 : decode cX11_lists 118 = .ok (.iload 7, 2) := by decide +kernel
theorem dX11_lists_120 : decode cX11_lists 120 = .ok (.iload 7, 2) := by decide +kernel
theorem dX11_lists_122 : decode cX11_lists 122 = .ok (.ifCond .ne 8, 3) := by decide +kernel
theorem dX11_lists_125 : decode cX11_lists 125 = .ok (.iload_n 2, 1) := by decide +kernel
theorem dX11_lists_126 : decode cX11_lists 126 = .ok (.i2l, 1) := by decide +kernel
theorem dX11_lists_127 : decode cX11_lists 127 = .ok (.goto 15, 3) := by decide +kernel
theorem dX11_lists_130 : decode cX11_lists 130 = .ok (.aload_n 0, 1) := by decide +kernel
theorem dX11_lists_131 : decode cX11_lists 131 = .ok (.getfield 45, 3) := by decide +kernel
theorem dX11_lists_134 : decode cX11_lists 134 = .ok (.iload 7, 2) := by decide +kernel
theorem dX11_lists_136 : decode cX11_lists 136 = .ok (.iconst 1, 1) := by decide +kernel
theorem dX11_lists_137 : decode cX11_lists 137 = .ok (.isub, 1) := by decide +kernel
theorem dX11_lists_138 : decode cX11_lists 138 = .ok (.invokevirtual 260, 3) := by decide +kernel
theorem dX11_lists_141 : decode cX11_lists 141 = .ok (.i2l, 1) := by decide +kernel
theorem dX11_lists_142 : decode cX11_lists 142 = .ok (.invokevirtual 322, 3) := by decide +kernel
theorem dX11_lists_145 : decode cX11_lists 145 = .ok (.pop2, 1) := by decide +kernel
theorem dX11_lists_146 : decode cX11_lists 146 = .ok (.iinc 7 1, 3) := by decide +kernel
theorem dX11_lists_149 : decode cX11_lists 149 = .ok (.goto (-40), 3) := by decide +kernel
theorem dX11_lists_152 : decode cX11_lists 152 = .ok (.iload 6, 2) := by decide +kernel
theorem dX11_lists_154 : decode cX11_lists 154 = .ok (.ireturn, 1) := by decide +kernel
theorem dX11_makeFree_0 : decode cX11_makeFree 0 = .ok (.aload_n 0, 1) := by decide +kernel
theorem dX11_makeFree_1 : decode cX11_makeFree 1 = .ok (.iload_n 1, 1) := by decide +kernel
theorem dX11_makeFree_2 : decode cX11_makeFree 2 = .ok (.invokevirtual 141, 3) := by decide +kernel
theorem dX11_makeFree_5 : decode cX11_makeFree 5 = .ok (.ifCond .eq 22, 3) := by decide +kernel
theorem dX11_makeFree_8 : decode cX11_makeFree 8 = .ok (.aload_n 0, 1) := by decide +kernel
theorem dX11_makeFree_9 : decode cX11_makeFree 9 = .ok (.iload_n 2, 1) := by decide +kernel
theorem dX11_makeFree_10 : decode cX11_makeFree 10 = .ok (.invokevirtual 171, 3) := by decide +kernel
theorem dX11_makeFree_13 : decode cX11_makeFree 13 = .ok (.ifCond .eq 14, 3) := by decide +kernel
theorem dX11_makeFree_16 : decode cX11_makeFree 16 = .ok (.iload 4, 2) := by decide +kernel
theorem dX11_makeFree_18 : decode cX11_makeFree 18 = .ok (.ifCond .lt 9, 3) := by decide +kernel
theorem dX11_makeFree_21 : decode cX11_makeFree 21 = .ok (.iload 4, 2) := by decide +kernel
theorem dX11_makeFree_23 : decode cX11_makeFree 23 = .ok (.iconst 1, 1) := by decide +kernel
theorem dX11_makeFree_24 : decode cX11_makeFree 24 = .ok (.if_icmp .le 6, 3) := by decide +kernel
theorem dX11_makeFree_27 : decode cX11_makeFree 27 = .ok (.bipush (-2), 2) := by decide +kernel
theorem dX11_makeFree_29 : decode cX11_makeFree 29 = .ok (.ireturn, 1) := by decide +kernel
theorem dX11_makeFree_30 : decode cX11_makeFree 30 = .ok (.iload_n 3, 1) := by decide +kernel
theorem dX11_makeFree_31 : decode cX11_makeFree 31 = .ok (.ifCond .lt 9, 3) := by decide +kernel
theorem dX11_makeFree_34 : decode cX11_makeFree 34 = .ok (.iload_n 3, 1) := by decide +kernel
theorem dX11_makeFree_35 : decode cX11_makeFree 35 = .ok (.bipush 20, 2) := by decide +kernel
theorem dX11_makeFree_37 : decode cX11_makeFree 37 = .ok (.if_icmp .le 6, 3) := by decide +kernel
theorem dX11_makeFree_40 : decode cX11_makeFree 40 = .ok (.bipush (-3), 2) := by decide +kernel
theorem dX11_makeFree_42 : decode cX11_makeFree 42 = .ok (.ireturn, 1) := by decide +kernel
theorem dX11_makeFree_43 : decode cX11_makeFree 43 = .ok (.aload_n 0, 1) := by decide +kernel
theorem dX11_makeFree_44 : decode cX11_makeFree 44 = .ok (.getfield 65, 3) := by decide +kernel
theorem dX11_makeFree_47 : decode cX11_makeFree 47 = .ok (.aload_n 0, 1) := by decide +kernel
theorem dX11_makeFree_48 : decode cX11_makeFree 48 = .ok (.getfield 27, 3) := by decide +kernel
theorem dX11_makeFree_51 : decode cX11_makeFree 51 = .ok (.getfield 145, 3) := by decide +kernel
theorem dX11_makeFree_54 : decode cX11_makeFree 54 = .ok (.iload_n 1, 1) := by decide +kernel
theorem dX11_makeFree_55 : decode cX11_makeFree 55 = .ok (.invokevirtual 249, 3) := by decide +kernel
theorem dX11_makeFree_58 : decode cX11_makeFree 58 = .ok (.iload_n 2, 1) := by decide +kernel
theorem dX11_makeFree_59 : decode cX11_makeFree 59 = .ok (.iload_n 3, 1) := by decide +kernel
theorem dX11_makeFree_60 : decode cX11_makeFree 60 = .ok (.invokevirtual 304, 3) := by decide +kernel
theorem dX11_makeFree_63 : decode cX11_makeFree 63 = .ok (.istore 5, 2) := by decide +kernel
theorem dX11_makeFree_65 : decode cX11_makeFree 65 = .ok (.iload 5, 2) := by decide +kernel
theorem dX11_makeFree_67 : decode cX11_makeFree 67 = .ok (.ifCond .ge 5, 3) := by decide +kernel
theorem dX11_makeFree_70 : decode cX11_makeFree 70 = .ok (.iconst (-1), 1) := by decide +kernel
theorem dX11_makeFree_71 : decode cX11_makeFree 71 = .ok (.ireturn, 1) := by decide +kernel
theorem dX11_makeFree_72 : decode cX11_makeFree 72 = .ok (.iload 4, 2) := by decide +kernel
theorem dX11_makeFree_74 : decode cX11_makeFree 74 = .ok (.ifCond .ne 11, 3) := by decide +kernel
theorem dX11_makeFree_77 : decode cX11_makeFree 77 = .ok (.iload 5, 2) := by decide +kernel
theorem dX11_makeFree_79 : decode cX11_makeFree 79 = .ok (.invokestatic 229, 3) := by decide +kernel
theorem dX11_makeFree_82 : decode cX11_makeFree 82 = .ok (.goto 5, 3) := by decide +kernel
theorem dX11_makeFree_85 : decode cX11_makeFree 85 = .ok (.iload 5, 2) := by decide +kernel
theorem dX11_makeFree_87 : decode cX11_makeFree 87 = .ok (.ireturn, 1) := by decide +kernel
theorem dX11_numbers_0 : decode cX11_numbers 0 = .ok (.iload_n 1, 1) := by decide +kernel
theorem dX11_numbers_1 : decode cX11_numbers 1 = .ok (.invokestatic 211, 3) := by decide +kernel
theorem dX11_numbers_4 : decode cX11_numbers 4 = .ok (.ifCond .eq 12, 3) := by decide +kernel
theorem dX11_numbers_7 : decode cX11_numbers 7 = .ok (.iload_n 2, 1) := by decide +kernel
theorem dX11_numbers_8 : decode cX11_numbers 8 = .ok (.ifCond .lt 8, 3) := by decide +kernel
theorem dX11_numbers_11 : decode cX11_numbers 11 = .ok (.iload_n 2, 1) := by decide +kernel
theorem dX11_numbers_12 : decode cX11_numbers 12 = .ok (.iconst 3, 1) := by decide +kernel
theorem dX11_numbers_13 : decode cX11_numbers 13 = .ok (.if_icmp .le 6, 3) := by decide +kernel
theorem dX11_numbers_16 : decode cX11_numbers 16 = .ok (.bipush (-2), 2) := by decide +kernel
theorem dX11_numbers_18 : decode cX11_numbers 18 = .ok (.ireturn, 1) := by decide +kernel
theorem dX11_numbers_19 : decode cX11_numbers 19 = .ok (.iload_n 3, 1) := by decide +kernel
theorem dX11_numbers_20 : decode cX11_numbers 20 = .ok (.ifCond .lt 9, 3) := by decide +kernel
theorem dX11_numbers_23 : decode cX11_numbers 23 = .ok (.iload_n 3, 1) := by decide +kernel
theorem dX11_numbers_24 : decode cX11_numbers 24 = .ok (.bipush 40, 2) := by decide +kernel
theorem dX11_numbers_26 : decode cX11_numbers 26 = .ok (.if_icmp .le 6, 3) := by decide +kernel
theorem dX11_numbers_29 : decode cX11_numbers 29 = .ok (.bipush (-3), 2) := by decide +kernel
theorem dX11_numbers_31 : decode cX11_numbers 31 = .ok (.ireturn, 1) := by decide +kernel
theorem dX11_numbers_32 : decode cX11_numbers 32 = .ok (.aload_n 0, 1) := by decide +kernel
theorem dX11_numbers_33 : decode cX11_numbers 33 = .ok (.getfield 78, 3) := by decide +kernel
theorem dX11_numbers_36 : decode cX11_numbers 36 = .ok (.iload_n 1, 1) := by decide +kernel
theorem dX11_numbers_37 : decode cX11_numbers 37 = .ok (.aaload, 1) := by decide +kernel
theorem dX11_numbers_38 : decode cX11_numbers 38 = .ok (.iload_n 2, 1) := by decide +kernel
theorem dX11_numbers_39 : decode cX11_numbers 39 = .ok (.iload_n 3, 1) := by decide +kernel
theorem dX11_numbers_40 : decode cX11_numbers 40 = .ok (.invokevirtual 314, 3) := by decide +kernel
theorem dX11_numbers_43 : decode cX11_numbers 43 = .ok (.iconst 0, 1) := by decide +kernel
theorem dX11_numbers_44 : decode cX11_numbers 44 = .ok (.ireturn, 1) := by decide +kernel
theorem dX11_posts_0 : decode cX11_posts 0 = .ok (.aload_n 0, 1) := by decide +kernel
theorem dX11_posts_1 : decode cX11_posts 1 = .ok (.iload_n 1, 1) := by decide +kernel
theorem dX11_posts_2 : decode cX11_posts 2 = .ok (.iload_n 2, 1) := by decide +kernel
theorem dX11_posts_3 : decode cX11_posts 3 = .ok (.invokevirtual 163, 3) := by decide +kernel
theorem dX11_posts_6 : decode cX11_posts 6 = .ok (.ifCond .eq 12, 3) := by decide +kernel
theorem dX11_posts_9 : decode cX11_posts 9 = .ok (.iload_n 3, 1) := by decide +kernel
theorem dX11_posts_10 : decode cX11_posts 10 = .ok (.ifCond .lt 8, 3) := by decide +kernel
theorem dX11_posts_13 : decode cX11_posts 13 = .ok (.iload_n 3, 1) := by decide +kernel
theorem dX11_posts_14 : decode cX11_posts 14 = .ok (.iconst 3, 1) := by decide +kernel
theorem dX11_posts_15 : decode cX11_posts 15 = .ok (.if_icmp .le 6, 3) := by decide +kernel
theorem dX11_posts_18 : decode cX11_posts 18 = .ok (.bipush (-2), 2) := by decide +kernel
theorem dX11_posts_20 : decode cX11_posts 20 = .ok (.ireturn, 1) := by decide +kernel
theorem dX11_posts_21 : decode cX11_posts 21 = .ok (.iload 4, 2) := by decide +kernel
theorem dX11_posts_23 : decode cX11_posts 23 = .ok (.ifCond .lt 10, 3) := by decide +kernel
theorem dX11_posts_26 : decode cX11_posts 26 = .ok (.iload 4, 2) := by decide +kernel
theorem dX11_posts_28 : decode cX11_posts 28 = .ok (.bipush 30, 2) := by decide +kernel
theorem dX11_posts_30 : decode cX11_posts 30 = .ok (.if_icmp .le 6, 3) := by decide +kernel
theorem dX11_posts_33 : decode cX11_posts 33 = .ok (.bipush (-3), 2) := by decide +kernel
theorem dX11_posts_35 : decode cX11_posts 35 = .ok (.ireturn, 1) := by decide +kernel
theorem dX11_posts_36 : decode cX11_posts 36 = .ok (.aload_n 0, 1) := by decide +kernel
theorem dX11_posts_37 : decode cX11_posts 37 = .ok (.getfield 72, 3) := by decide +kernel
theorem dX11_posts_40 : decode cX11_posts 40 = .ok (.iconst 4, 1) := by decide +kernel
theorem dX11_posts_41 : decode cX11_posts 41 = .ok (.iload_n 1, 1) := by decide +kernel
theorem dX11_posts_42 : decode cX11_posts 42 = .ok (.imul, 1) := by decide +kernel
theorem dX11_posts_43 : decode cX11_posts 43 = .ok (.iload_n 2, 1) := by decide +kernel
theorem dX11_posts_44 : decode cX11_posts 44 = .ok (.iadd, 1) := by decide +kernel
theorem dX11_posts_45 : decode cX11_posts 45 = .ok (.iload_n 3, 1) := by decide +kernel
theorem dX11_posts_46 : decode cX11_posts 46 = .ok (.iload 4, 2) := by decide +kernel
theorem dX11_posts_48 : decode cX11_posts 48 = .ok (.invokevirtual 311, 3) := by decide +kernel
theorem dX11_posts_51 : decode cX11_posts 51 = .ok (.ireturn, 1) := by decide +kernel
theorem dX11_reach_0 : decode cX11_reach 0 = .ok (.aload_n 0, 1) := by decide +kernel
theorem dX11_reach_1 : decode cX11_reach 1 = .ok (.iload_n 1, 1) := by decide +kernel
theorem dX11_reach_2 : decode cX11_reach 2 = .ok (.invokevirtual 141, 3) := by decide +kernel
theorem dX11_reach_5 : decode cX11_reach 5 = .ok (.ifCond .ne 6, 3) := by decide +kernel
theorem dX11_reach_8 : decode cX11_reach 8 = .ok (.bipush (-2), 2) := by decide +kernel
theorem dX11_reach_10 : decode cX11_reach 10 = .ok (.ireturn, 1) := by decide +kernel
theorem dX11_reach_11 : decode cX11_reach 11 = .ok (.iload_n 2, 1) := by decide +kernel
theorem dX11_reach_12 : decode cX11_reach 12 = .ok (.ifCond .lt 9, 3) := by decide +kernel
theorem dX11_reach_15 : decode cX11_reach 15 = .ok (.iload_n 2, 1) := by decide +kernel
theorem dX11_reach_16 : decode cX11_reach 16 = .ok (.bipush 120, 2) := by decide +kernel
theorem dX11_reach_18 : decode cX11_reach 18 = .ok (.if_icmp .le 6, 3) := by decide +kernel
theorem dX11_reach_21 : decode cX11_reach 21 = .ok (.bipush (-3), 2) := by decide +kernel
theorem dX11_reach_23 : decode cX11_reach 23 = .ok (.ireturn, 1) := by decide +kernel
theorem dX11_reach_24 : decode cX11_reach 24 = .ok (.aload_n 0, 1) := by decide +kernel
theorem dX11_reach_25 : decode cX11_reach 25 = .ok (.getfield 65, 3) := by decide +kernel
theorem dX11_reach_28 : decode cX11_reach 28 = .ok (.aload_n 0, 1) := by decide +kernel
theorem dX11_reach_29 : decode cX11_reach 29 = .ok (.getfield 27, 3) := by decide +kernel
theorem dX11_reach_32 : decode cX11_reach 32 = .ok (.getfield 145, 3) := by decide +kernel
theorem dX11_reach_35 : decode cX11_reach 35 = .ok (.iload_n 1, 1) := by decide +kernel
theorem dX11_reach_36 : decode cX11_reach 36 = .ok (.invokevirtual 249, 3) := by decide +kernel
theorem dX11_reach_39 : decode cX11_reach 39 = .ok (.iload_n 2, 1) := by decide +kernel
theorem dX11_reach_40 : decode cX11_reach 40 = .ok (.invokevirtual 278, 3) := by decide +kernel
theorem dX11_reach_43 : decode cX11_reach 43 = .ok (.ireturn, 1) := by decide +kernel
theorem dX11_restore_0 : decode cX11_restore 0 = .ok (.iload_n 1, 1) := by decide +kernel
theorem dX11_restore_1 : decode cX11_restore 1 = .ok (.ifCond .lt 8, 3) := by decide +kernel
theorem dX11_restore_4 : decode cX11_restore 4 = .ok (.iload_n 1, 1) := by decide +kernel
theorem dX11_restore_5 : decode cX11_restore 5 = .ok (.iconst 2, 1) := by decide +kernel
theorem dX11_restore_6 : decode cX11_restore 6 = .ok (.if_icmp .lt 6, 3) := by decide +kernel
theorem dX11_restore_9 : decode cX11_restore 9 = .ok (.bipush (-2), 2) := by decide +kernel
theorem dX11_restore_11 : decode cX11_restore 11 = .ok (.ireturn, 1) := by decide +kernel
theorem dX11_restore_12 : decode cX11_restore 12 = .ok (.aload_n 0, 1) := by decide +kernel
theorem dX11_restore_13 : decode cX11_restore 13 = .ok (.getfield 87, 3) := by decide +kernel
theorem dX11_restore_16 : decode cX11_restore 16 = .ok (.iload_n 1, 1) := by decide +kernel
theorem dX11_restore_17 : decode cX11_restore 17 = .ok (.baload, 1) := by decide +kernel
theorem dX11_restore_18 : decode cX11_restore 18 = .ok (.ifCond .ne 6, 3) := by decide +kernel
theorem dX11_restore_21 : decode cX11_restore 21 = .ok (.bipush (-5), 2) := by decide +kernel
theorem dX11_restore_23 : decode cX11_restore 23 = .ok (.ireturn, 1) := by decide +kernel
theorem dX11_restore_24 : decode cX11_restore 24 = .ok (.aload_n 0, 1) := by decide +kernel
theorem dX11_restore_25 : decode cX11_restore 25 = .ok (.getfield 27, 3) := by decide +kernel
theorem dX11_restore_28 : decode cX11_restore 28 = .ok (.aload_n 0, 1) := by decide +kernel
theorem dX11_restore_29 : decode cX11_restore 29 = .ok (.getfield 83, 3) := by decide +kernel
theorem dX11_restore_32 : decode cX11_restore 32 = .ok (.iload_n 1, 1) := by decide +kernel
theorem dX11_restore_33 : decode cX11_restore 33 = .ok (.aaload, 1) := by decide +kernel
theorem dX11_restore_34 : decode cX11_restore 34 = .ok (.invokevirtual 125, 3) := by decide +kernel
theorem dX11_restore_37 : decode cX11_restore 37 = .ok (.aload_n 0, 1) := by decide +kernel
theorem dX11_restore_38 : decode cX11_restore 38 = .ok (.invokevirtual 128, 3) := by decide +kernel
theorem dX11_restore_41 : decode cX11_restore 41 = .ok (.iconst 0, 1) := by decide +kernel
theorem dX11_restore_42 : decode cX11_restore 42 = .ok (.ireturn, 1) := by decide +kernel
theorem dX11_round_0 : decode cX11_round 0 = .ok (.aload_n 0, 1) := by decide +kernel
theorem dX11_round_1 : decode cX11_round 1 = .ok (.iload_n 1, 1) := by decide +kernel
theorem dX11_round_2 : decode cX11_round 2 = .ok (.invokevirtual 141, 3) := by decide +kernel
theorem dX11_round_5 : decode cX11_round 5 = .ok (.ifCond .eq 25, 3) := by decide +kernel
theorem dX11_round_8 : decode cX11_round 8 = .ok (.iload_n 2, 1) := by decide +kernel
theorem dX11_round_9 : decode cX11_round 9 = .ok (.invokestatic 211, 3) := by decide +kernel
theorem dX11_round_12 : decode cX11_round 12 = .ok (.ifCond .eq 18, 3) := by decide +kernel
theorem dX11_round_15 : decode cX11_round 15 = .ok (.iload_n 3, 1) := by decide +kernel
theorem dX11_round_16 : decode cX11_round 16 = .ok (.ifCond .lt 14, 3) := by decide +kernel
theorem dX11_round_19 : decode cX11_round 19 = .ok (.iload_n 3, 1) := by decide +kernel
theorem dX11_round_20 : decode cX11_round 20 = .ok (.iconst 1, 1) := by decide +kernel
theorem dX11_round_21 : decode cX11_round 21 = .ok (.if_icmp .le 12, 3) := by decide +kernel
theorem dX11_round_24 : decode cX11_round 24 = .ok (.iload_n 3, 1) := by decide +kernel
theorem dX11_round_25 : decode cX11_round 25 = .ok (.bipush 10, 2) := by decide +kernel
theorem dX11_round_27 : decode cX11_round 27 = .ok (.if_icmp .ge 6, 3) := by decide +kernel
theorem dX11_round_30 : decode cX11_round 30 = .ok (.bipush (-2), 2) := by decide +kernel
theorem dX11_round_32 : decode cX11_round 32 = .ok (.ireturn, 1) := by decide +kernel
theorem dX11_round_33 : decode cX11_round 33 = .ok (.aload_n 0, 1) := by decide +kernel
theorem dX11_round_34 : decode cX11_round 34 = .ok (.getfield 78, 3) := by decide +kernel
theorem dX11_round_37 : decode cX11_round 37 = .ok (.iload_n 2, 1) := by decide +kernel
theorem dX11_round_38 : decode cX11_round 38 = .ok (.aaload, 1) := by decide +kernel
theorem dX11_round_39 : decode cX11_round 39 = .ok (.astore 4, 2) := by decide +kernel
theorem dX11_round_41 : decode cX11_round 41 = .ok (.aload 4, 2) := by decide +kernel
theorem dX11_round_43 : decode cX11_round 43 = .ok (.getfield 214, 3) := by decide +kernel
theorem dX11_round_46 : decode cX11_round 46 = .ok (.ifCond .ge 6, 3) := by decide +kernel
theorem dX11_round_49 : decode cX11_round 49 = .ok (.bipush (-6), 2) := by decide +kernel
theorem dX11_round_51 : decode cX11_round 51 = .ok (.ireturn, 1) := by decide +kernel
theorem dX11_round_52 : decode cX11_round 52 = .ok (.aload 4, 2) := by decide +kernel
theorem dX11_round_54 : decode cX11_round 54 = .ok (.getfield 214, 3) := by decide +kernel
theorem dX11_round_57 : decode cX11_round 57 = .ok (.iconst 1, 1) := by decide +kernel
theorem dX11_round_58 : decode cX11_round 58 = .ok (.if_icmp .lt 12, 3) := by decide +kernel
theorem dX11_round_61 : decode cX11_round 61 = .ok (.aload 4, 2) := by decide +kernel
theorem dX11_round_63 : decode cX11_round 63 = .ok (.getfield 214, 3) := by decide +kernel
theorem dX11_round_66 : decode cX11_round 66 = .ok (.iconst 4, 1) := by decide +kernel
theorem dX11_round_67 : decode cX11_round 67 = .ok (.if_icmp .le 6, 3) := by decide +kernel
theorem dX11_round_70 : decode cX11_round 70 = .ok (.bipush (-4), 2) := by decide +kernel
theorem dX11_round_72 : decode cX11_round 72 = .ok (.ireturn, 1) := by decide +kernel
theorem dX11_round_73 : decode cX11_round 73 = .ok (.aload 4, 2) := by decide +kernel
theorem dX11_round_75 : decode cX11_round 75 = .ok (.aload_n 0, 1) := by decide +kernel
theorem dX11_round_76 : decode cX11_round 76 = .ok (.getfield 27, 3) := by decide +kernel
theorem dX11_round_79 : decode cX11_round 79 = .ok (.invokevirtual 287, 3) := by decide +kernel
theorem dX11_round_82 : decode cX11_round 82 = .ok (.invokevirtual 290, 3) := by decide +kernel
theorem dX11_round_85 : decode cX11_round 85 = .ok (.ifCond .ne 6, 3) := by decide +kernel
theorem dX11_round_88 : decode cX11_round 88 = .ok (.bipush (-3), 2) := by decide +kernel
theorem dX11_round_90 : decode cX11_round 90 = .ok (.ireturn, 1) := by decide +kernel
theorem dX11_round_91 : decode cX11_round 91 = .ok (.aload_n 0, 1) := by decide +kernel
theorem dX11_round_92 : decode cX11_round 92 = .ok (.getfield 54, 3) := by decide +kernel
theorem dX11_round_95 : decode cX11_round 95 = .ok (.aload 4, 2) := by decide +kernel
theorem dX11_round_97 : decode cX11_round 97 = .ok (.invokevirtual 293, 3) := by decide +kernel
theorem dX11_round_100 : decode cX11_round 100 = .ok (.aload_n 0, 1) := by decide +kernel
theorem dX11_round_101 : decode cX11_round 101 = .ok (.getfield 54, 3) := by decide +kernel
theorem dX11_round_104 : decode cX11_round 104 = .ok (.iconst 0, 1) := by decide +kernel
theorem dX11_round_105 : decode cX11_round 105 = .ok (.aload_n 0, 1) := by decide +kernel
theorem dX11_round_106 : decode cX11_round 106 = .ok (.getfield 27, 3) := by decide +kernel
theorem dX11_round_109 : decode cX11_round 109 = .ok (.getfield 145, 3) := by decide +kernel
theorem dX11_round_112 : decode cX11_round 112 = .ok (.iload_n 1, 1) := by decide +kernel
theorem dX11_round_113 : decode cX11_round 113 = .ok (.invokevirtual 249, 3) := by decide +kernel
theorem dX11_round_116 : decode cX11_round 116 = .ok (.iconst 0, 1) := by decide +kernel
theorem dX11_round_117 : decode cX11_round 117 = .ok (.iconst 0, 1) := by decide +kernel
theorem dX11_round_118 : decode cX11_round 118 = .ok (.invokevirtual 297, 3) := by decide +kernel
theorem dX11_round_121 : decode cX11_round 121 = .ok (.aload_n 0, 1) := by decide +kernel
theorem dX11_round_122 : decode cX11_round 122 = .ok (.getfield 54, 3) := by decide +kernel
theorem dX11_round_125 : decode cX11_round 125 = .ok (.iload_n 3, 1) := by decide +kernel
theorem dX11_round_126 : decode cX11_round 126 = .ok (.invokevirtual 301, 3) := by decide +kernel
theorem dX11_round_129 : decode cX11_round 129 = .ok (.ireturn, 1) := by decide +kernel
theorem dX11_turn_0 : decode cX11_turn 0 = .ok (.aload_n 0, 1) := by decide +kernel
theorem dX11_turn_1 : decode cX11_turn 1 = .ok (.iload_n 1, 1) := by decide +kernel
theorem dX11_turn_2 : decode cX11_turn 2 = .ok (.invokevirtual 141, 3) := by decide +kernel
theorem dX11_turn_5 : decode cX11_turn 5 = .ok (.ifCond .eq 11, 3) := by decide +kernel
theorem dX11_turn_8 : decode cX11_turn 8 = .ok (.aload_n 0, 1) := by decide +kernel
theorem dX11_turn_9 : decode cX11_turn 9 = .ok (.iload_n 2, 1) := by decide +kernel
theorem dX11_turn_10 : decode cX11_turn 10 = .ok (.invokevirtual 171, 3) := by decide +kernel
theorem dX11_turn_13 : decode cX11_turn 13 = .ok (.ifCond .ne 6, 3) := by decide +kernel
theorem dX11_turn_16 : decode cX11_turn 16 = .ok (.bipush (-2), 2) := by decide +kernel
theorem dX11_turn_18 : decode cX11_turn 18 = .ok (.ireturn, 1) := by decide +kernel
theorem dX11_turn_19 : decode cX11_turn 19 = .ok (.iload_n 3, 1) := by decide +kernel
theorem dX11_turn_20 : decode cX11_turn 20 = .ok (.ifCond .lt 14, 3) := by decide +kernel
theorem dX11_turn_23 : decode cX11_turn 23 = .ok (.iload_n 3, 1) := by decide +kernel
theorem dX11_turn_24 : decode cX11_turn 24 = .ok (.bipush 120, 2) := by decide +kernel
theorem dX11_turn_26 : decode cX11_turn 26 = .ok (.if_icmp .gt 8, 3) := by decide +kernel
theorem dX11_turn_29 : decode cX11_turn 29 = .ok (.iload 4, 2) := by decide +kernel
theorem dX11_turn_31 : decode cX11_turn 31 = .ok (.ifCond .ge 6, 3) := by decide +kernel
theorem dX11_turn_34 : decode cX11_turn 34 = .ok (.bipush (-3), 2) := by decide +kernel
theorem dX11_turn_36 : decode cX11_turn 36 = .ok (.ireturn, 1) := by decide +kernel
theorem dX11_turn_37 : decode cX11_turn 37 = .ok (.aload_n 0, 1) := by decide +kernel
theorem dX11_turn_38 : decode cX11_turn 38 = .ok (.getfield 45, 3) := by decide +kernel
theorem dX11_turn_41 : decode cX11_turn 41 = .ok (.aload_n 0, 1) := by decide +kernel
theorem dX11_turn_42 : decode cX11_turn 42 = .ok (.getfield 27, 3) := by decide +kernel
theorem dX11_turn_45 : decode cX11_turn 45 = .ok (.getfield 145, 3) := by decide +kernel
theorem dX11_turn_48 : decode cX11_turn 48 = .ok (.iload_n 1, 1) := by decide +kernel
theorem dX11_turn_49 : decode cX11_turn 49 = .ok (.invokevirtual 249, 3) := by decide +kernel
theorem dX11_turn_52 : decode cX11_turn 52 = .ok (.iload_n 2, 1) := by decide +kernel
theorem dX11_turn_53 : decode cX11_turn 53 = .ok (.iload_n 3, 1) := by decide +kernel
theorem dX11_turn_54 : decode cX11_turn 54 = .ok (.invokevirtual 256, 3) := by decide +kernel
theorem dX11_turn_57 : decode cX11_turn 57 = .ok (.ifCond .ne 5, 3) := by decide +kernel
theorem dX11_turn_60 : decode cX11_turn 60 = .ok (.iconst (-1), 1) := by decide +kernel
theorem dX11_turn_61 : decode cX11_turn 61 = .ok (.ireturn, 1) := by decide +kernel
theorem dX11_turn_62 : decode cX11_turn 62 = .ok (.aload_n 0, 1) := by decide +kernel
theorem dX11_turn_63 : decode cX11_turn 63 = .ok (.getfield 45, 3) := by decide +kernel
theorem dX11_turn_66 : decode cX11_turn 66 = .ok (.iload 4, 2) := by decide +kernel
theorem dX11_turn_68 : decode cX11_turn 68 = .ok (.invokevirtual 260, 3) := by decide +kernel
theorem dX11_turn_71 : decode cX11_turn 71 = .ok (.ireturn, 1) := by decide +kernel
theorem dX11_way_0 : decode cX11_way 0 = .ok (.aload_n 0, 1) := by decide +kernel
theorem dX11_way_1 : decode cX11_way 1 = .ok (.iload_n 1, 1) := by decide +kernel
theorem dX11_way_2 : decode cX11_way 2 = .ok (.invokevirtual 141, 3) := by decide +kernel
theorem dX11_way_5 : decode cX11_way 5 = .ok (.ifCond .eq 11, 3) := by decide +kernel
theorem dX11_way_8 : decode cX11_way 8 = .ok (.aload_n 0, 1) := by decide +kernel
theorem dX11_way_9 : decode cX11_way 9 = .ok (.iload_n 2, 1) := by decide +kernel
theorem dX11_way_10 : decode cX11_way 10 = .ok (.invokevirtual 171, 3) := by decide +kernel
theorem dX11_way_13 : decode cX11_way 13 = .ok (.ifCond .ne 6, 3) := by decide +kernel
theorem dX11_way_16 : decode cX11_way 16 = .ok (.bipush (-2), 2) := by decide +kernel
theorem dX11_way_18 : decode cX11_way 18 = .ok (.ireturn, 1) := by decide +kernel
theorem dX11_way_19 : decode cX11_way 19 = .ok (.iload_n 3, 1) := by decide +kernel
theorem dX11_way_20 : decode cX11_way 20 = .ok (.ifCond .lt 9, 3) := by decide +kernel
theorem dX11_way_23 : decode cX11_way 23 = .ok (.iload_n 3, 1) := by decide +kernel
theorem dX11_way_24 : decode cX11_way 24 = .ok (.bipush 120, 2) := by decide +kernel
theorem dX11_way_26 : decode cX11_way 26 = .ok (.if_icmp .le 6, 3) := by decide +kernel
theorem dX11_way_29 : decode cX11_way 29 = .ok (.bipush (-3), 2) := by decide +kernel
theorem dX11_way_31 : decode cX11_way 31 = .ok (.ireturn, 1) := by decide +kernel
theorem dX11_way_32 : decode cX11_way 32 = .ok (.aload_n 0, 1) := by decide +kernel
theorem dX11_way_33 : decode cX11_way 33 = .ok (.getfield 65, 3) := by decide +kernel
theorem dX11_way_36 : decode cX11_way 36 = .ok (.aload_n 0, 1) := by decide +kernel
theorem dX11_way_37 : decode cX11_way 37 = .ok (.getfield 27, 3) := by decide +kernel
theorem dX11_way_40 : decode cX11_way 40 = .ok (.getfield 145, 3) := by decide +kernel
theorem dX11_way_43 : decode cX11_way 43 = .ok (.iload_n 1, 1) := by decide +kernel
theorem dX11_way_44 : decode cX11_way 44 = .ok (.invokevirtual 249, 3) := by decide +kernel
theorem dX11_way_47 : decode cX11_way 47 = .ok (.iload_n 2, 1) := by decide +kernel
theorem dX11_way_48 : decode cX11_way 48 = .ok (.iload_n 3, 1) := by decide +kernel
theorem dX11_way_49 : decode cX11_way 49 = .ok (.bipush 60, 2) := by decide +kernel
theorem dX11_way_51 : decode cX11_way 51 = .ok (.iconst 0, 1) := by decide +kernel
theorem dX11_way_52 : decode cX11_way 52 = .ok (.invokevirtual 252, 3) := by decide +kernel
theorem dX11_way_55 : decode cX11_way 55 = .ok (.ireturn, 1) := by decide +kernel
theorem dX11_ways_0 : decode cX11_ways 0 = .ok (.aload_n 0, 1) := by decide +kernel
theorem dX11_ways_1 : decode cX11_ways 1 = .ok (.iload_n 1, 1) := by decide +kernel
theorem dX11_ways_2 : decode cX11_ways 2 = .ok (.invokevirtual 141, 3) := by decide +kernel
theorem dX11_ways_5 : decode cX11_ways 5 = .ok (.ifCond .eq 11, 3) := by decide +kernel
theorem dX11_ways_8 : decode cX11_ways 8 = .ok (.aload_n 0, 1) := by decide +kernel
theorem dX11_ways_9 : decode cX11_ways 9 = .ok (.iload_n 2, 1) := by decide +kernel
theorem dX11_ways_10 : decode cX11_ways 10 = .ok (.invokevirtual 171, 3) := by decide +kernel
theorem dX11_ways_13 : decode cX11_ways 13 = .ok (.ifCond .ne 7, 3) := by decide +kernel
theorem dX11_ways_16 : decode cX11_ways 16 = .ok (.ldc2_w 270, 3) := by decide +kernel
theorem dX11_ways_19 : decode cX11_ways 19 = .ok (.lreturn, 1) := by decide +kernel
theorem dX11_ways_20 : decode cX11_ways 20 = .ok (.iload_n 3, 1) := by decide +kernel
theorem dX11_ways_21 : decode cX11_ways 21 = .ok (.ifCond .lt 21, 3) := by decide +kernel
theorem dX11_ways_24 : decode cX11_ways 24 = .ok (.iload_n 3, 1) := by decide +kernel
theorem dX11_ways_25 : decode cX11_ways 25 = .ok (.bipush 20, 2) := by decide +kernel
theorem dX11_ways_27 : decode cX11_ways 27 = .ok (.if_icmp .gt 15, 3) := by decide +kernel
theorem dX11_ways_30 : decode cX11_ways 30 = .ok (.iload 4, 2) := by decide +kernel
theorem dX11_ways_32 : decode cX11_ways 32 = .ok (.ifCond .lt 10, 3) := by decide +kernel
theorem dX11_ways_35 : decode cX11_ways 35 = .ok (.iload 4, 2) := by decide +kernel
theorem dX11_ways_37 : decode cX11_ways 37 = .ok (.bipush 40, 2) := by decide +kernel
theorem dX11_ways_39 : decode cX11_ways 39 = .ok (.if_icmp .le 7, 3) := by decide +kernel
theorem dX11_ways_42 : decode cX11_ways 42 = .ok (.ldc2_w 272, 3) := by decide +kernel
theorem dX11_ways_45 : decode cX11_ways 45 = .ok (.lreturn, 1) := by decide +kernel
theorem dX11_ways_46 : decode cX11_ways 46 = .ok (.aload_n 0, 1) := by decide +kernel
theorem dX11_ways_47 : decode cX11_ways 47 = .ok (.getfield 61, 3) := by decide +kernel
theorem dX11_ways_50 : decode cX11_ways 50 = .ok (.aload_n 0, 1) := by decide +kernel
theorem dX11_ways_51 : decode cX11_ways 51 = .ok (.getfield 27, 3) := by decide +kernel
theorem dX11_ways_54 : decode cX11_ways 54 = .ok (.getfield 145, 3) := by decide +kernel
theorem dX11_ways_57 : decode cX11_ways 57 = .ok (.iload_n 1, 1) := by decide +kernel
theorem dX11_ways_58 : decode cX11_ways 58 = .ok (.invokevirtual 249, 3) := by decide +kernel
theorem dX11_ways_61 : decode cX11_ways 61 = .ok (.iload_n 2, 1) := by decide +kernel
theorem dX11_ways_62 : decode cX11_ways 62 = .ok (.iload_n 3, 1) := by decide +kernel
theorem dX11_ways_63 : decode cX11_ways 63 = .ok (.iload 4, 2) := by decide +kernel
theorem dX11_ways_65 : decode cX11_ways 65 = .ok (.invokevirtual 274, 3) := by decide +kernel
theorem dX11_ways_68 : decode cX11_ways 68 = .ok (.lreturn, 1) := by decide +kernel
theorem dX11_write_0 : decode cX11_write 0 = .ok (.iload_n 1, 1) := by decide +kernel
theorem dX11_write_1 : decode cX11_write 1 = .ok (.invokestatic 211, 3) := by decide +kernel
theorem dX11_write_4 : decode cX11_write 4 = .ok (.ifCond .ne 7, 3) := by decide +kernel
theorem dX11_write_7 : decode cX11_write 7 = .ok (.ldc2_w 270, 3) := by decide +kernel
theorem dX11_write_10 : decode cX11_write 10 = .ok (.lreturn, 1) := by decide +kernel
theorem dX11_write_11 : decode cX11_write 11 = .ok (.aload_n 0, 1) := by decide +kernel
theorem dX11_write_12 : decode cX11_write 12 = .ok (.getfield 78, 3) := by decide +kernel
theorem dX11_write_15 : decode cX11_write 15 = .ok (.iload_n 1, 1) := by decide +kernel
theorem dX11_write_16 : decode cX11_write 16 = .ok (.aaload, 1) := by decide +kernel
theorem dX11_write_17 : decode cX11_write 17 = .ok (.astore 5, 2) := by decide +kernel
theorem dX11_write_19 : decode cX11_write 19 = .ok (.aload 5, 2) := by decide +kernel
theorem dX11_write_21 : decode cX11_write 21 = .ok (.getfield 214, 3) := by decide +kernel
theorem dX11_write_24 : decode cX11_write 24 = .ok (.ifCond .ge 7, 3) := by decide +kernel
theorem dX11_write_27 : decode cX11_write 27 = .ok (.ldc2_w 318, 3) := by decide +kernel
theorem dX11_write_30 : decode cX11_write 30 = .ok (.lreturn, 1) := by decide +kernel
theorem dX11_write_31 : decode cX11_write 31 = .ok (.iload_n 2, 1) := by decide +kernel
theorem dX11_write_32 : decode cX11_write 32 = .ok (.ifCond .lt 12, 3) := by decide +kernel
theorem dX11_write_35 : decode cX11_write 35 = .ok (.iload_n 2, 1) := by decide +kernel
theorem dX11_write_36 : decode cX11_write 36 = .ok (.aload 5, 2) := by decide +kernel
theorem dX11_write_38 : decode cX11_write 38 = .ok (.getfield 214, 3) := by decide +kernel
theorem dX11_write_41 : decode cX11_write 41 = .ok (.if_icmp .lt 7, 3) := by decide +kernel
theorem dX11_write_44 : decode cX11_write 44 = .ok (.ldc2_w 320, 3) := by decide +kernel
theorem dX11_write_47 : decode cX11_write 47 = .ok (.lreturn, 1) := by decide +kernel
theorem dX11_write_48 : decode cX11_write 48 = .ok (.aload 5, 2) := by decide +kernel
theorem dX11_write_50 : decode cX11_write 50 = .ok (.iload_n 2, 1) := by decide +kernel
theorem dX11_write_51 : decode cX11_write 51 = .ok (.lload_n 3, 1) := by decide +kernel
theorem dX11_write_52 : decode cX11_write 52 = .ok (.invokevirtual 322, 3) := by decide +kernel
theorem dX11_write_55 : decode cX11_write 55 = .ok (.lreturn, 1) := by decide +kernel
theorem o28_1 {x0 : Int} (h0 : x0 = (-2)) : (-3) ≤ x0 := by omega
theorem o28_2 {x0 : Int} (h0 : x0 = (-2)) : x0 ≤ 60 := by omega
theorem o28_3 {x0 : Int} (h0 : x0 = (-3)) : (-3) ≤ x0 := by omega
theorem o28_4 {x0 : Int} (h0 : x0 = (-3)) : x0 ≤ 60 := by omega
theorem o28_5 {x0 x1 : Int} (h0 : 0 ≤ x1) (h1 : x1 ≤ 1) (h2 : (x1 = 0 ∨ (0 ≤ x0 ∧ x0 ≤ 4))) (h3 : ¬ x1 = 0) : 0 ≤ x0 := by omega
theorem o28_6 {x0 x1 : Int} (h0 : 0 ≤ x1) (h1 : x1 ≤ 1) (h2 : (x1 = 0 ∨ (0 ≤ x0 ∧ x0 ≤ 4))) (h3 : ¬ x1 = 0) : x0 ≤ 4 := by omega
theorem o28_7 {x0 : Int} (h0 : 0 ≤ x0) (h1 : x0 ≤ 99) : 0 ≤ x0 := by omega
theorem o28_8 {x0 : Int} (h0 : 0 ≤ x0) (h1 : x0 ≤ 99) : x0 ≤ 99 := by omega
theorem o28_9 {x0 x1 : Int} (h0 : 0 ≤ x0) (h1 : x1 = 120) (h2 : x0 ≤ x1) : 0 ≤ x0 := by omega
theorem o28_10 {x0 x1 : Int} (h0 : 0 ≤ x0) (h1 : x1 = 120) (h2 : x0 ≤ x1) : x0 ≤ 120 := by omega
theorem o28_11 {x0 : Int} (h0 : x0 = 60) : 0 ≤ x0 := by omega
theorem o28_12 {x0 : Int} (h0 : x0 = 60) : x0 ≤ 60 := by omega
theorem o28_13 {x0 : Int} (h0 : (-1) ≤ x0) (h1 : x0 ≤ 60) : (-3) ≤ x0 := by omega
theorem o28_14 {x0 : Int} (h0 : (-1) ≤ x0) (h1 : x0 ≤ 60) : x0 ≤ 60 := by omega
theorem o28_15 {x0 : Int} (h0 : x0 = (-2)) : x0 ≤ 120 := by omega
theorem o28_16 {x0 : Int} (h0 : x0 = (-3)) : x0 ≤ 120 := by omega
theorem o28_17 {x0 : Int} (h0 : x0 = 0) : 0 ≤ x0 := by omega
theorem o28_18 {x0 : Int} (h0 : x0 = 0) : x0 ≤ 180 := by omega
theorem o28_19 {x0 x1 : Int} (h0 : 0 ≤ x0) (h1 : x1 = 60) (h2 : x0 ≤ x1) : 0 ≤ x0 := by omega
theorem o28_20 {x0 x1 : Int} (h0 : 0 ≤ x0) (h1 : x1 = 60) (h2 : x0 ≤ x1) : x0 ≤ 60 := by omega
theorem o28_21 {x0 : Int} (h0 : (-1) ≤ x0) (h1 : x0 ≤ 120) : (-3) ≤ x0 := by omega
theorem o28_22 {x0 : Int} (h0 : (-1) ≤ x0) (h1 : x0 ≤ 120) : x0 ≤ 120 := by omega
theorem o28_23 {x0 : Int} (h0 : x0 = (-2)) : x0 ≤ 1073741823 := by omega
theorem o28_24 {x0 : Int} (h0 : x0 = (-3)) : x0 ≤ 1073741823 := by omega
theorem o28_25 {x0 x1 : Int} (h0 : 0 ≤ x1) (h1 : x1 ≤ 1) (h2 : (x1 = 0 ∨ (0 ≤ x0 ∧ x0 ≤ 24))) (h3 : ¬ x1 = 0) : 0 ≤ x0 := by omega
theorem o28_26 {x0 x1 : Int} (h0 : 0 ≤ x1) (h1 : x1 ≤ 1) (h2 : (x1 = 0 ∨ (0 ≤ x0 ∧ x0 ≤ 24))) (h3 : ¬ x1 = 0) : x0 ≤ 24 := by omega
theorem o28_27 {x0 : Int} (h0 : x0 ≤ 1073741823) : x0 ≤ 1073741823 := by omega
theorem o28_28 {x0 x1 : Int} (h0 : 0 ≤ x0) (h1 : x1 = 20) (h2 : x0 ≤ x1) : 0 ≤ x0 := by omega
theorem o28_29 {x0 x1 : Int} (h0 : 0 ≤ x0) (h1 : x1 = 20) (h2 : x0 ≤ x1) : x0 ≤ 20 := by omega
theorem o28_30 {x0 x1 : Int} (h0 : 0 ≤ x0) (h1 : x1 = 40) (h2 : x0 ≤ x1) : 0 ≤ x0 := by omega
theorem o28_31 {x0 x1 : Int} (h0 : 0 ≤ x0) (h1 : x1 = 40) (h2 : x0 ≤ x1) : x0 ≤ 40 := by omega
theorem o28_32 {x0 : Int} (h0 : 0 ≤ x0) (h1 : x0 ≤ 120) : (-2) ≤ x0 := by omega
theorem o28_33 {x0 : Int} (h0 : 0 ≤ x0) (h1 : x0 ≤ 120) : x0 ≤ 120 := by omega
theorem o28_34 {x0 : Int} (h0 : x0 = (-2)) : (-2) ≤ x0 := by omega
theorem o28_35 {x0 : Int} (h0 : x0 = 4) : x0 = 4 := by omega
theorem o28_36 {x0 x1 x2 : Int} (h0 : 0 ≤ x1) (h1 : x1 ≤ 1) (h2 : (x1 = 0 ∨ (0 ≤ x0 ∧ x0 ≤ 24 ∧ 0 ≤ x2 ∧ x2 ≤ 3))) (h3 : ¬ x1 = 0) (h4 : -2147483648 ≤ x0) (h5 : x0 ≤ 2147483647) (h6 : -2147483648 ≤ x1) (h7 : x1 ≤ 2147483647) (h8 : -2147483648 ≤ x2) (h9 : x2 ≤ 2147483647) : -2147483648 ≤ 4 * x0 := by omega
theorem o28_37 {x0 x1 x2 : Int} (h0 : 0 ≤ x1) (h1 : x1 ≤ 1) (h2 : (x1 = 0 ∨ (0 ≤ x0 ∧ x0 ≤ 24 ∧ 0 ≤ x2 ∧ x2 ≤ 3))) (h3 : ¬ x1 = 0) (h4 : -2147483648 ≤ x0) (h5 : x0 ≤ 2147483647) (h6 : -2147483648 ≤ x1) (h7 : x1 ≤ 2147483647) (h8 : -2147483648 ≤ x2) (h9 : x2 ≤ 2147483647) : 4 * x0 ≤ 2147483647 := by omega
theorem o28_38 {x0 x1 x2 x3 : Int} (h0 : 0 ≤ x2) (h1 : x2 ≤ 1) (h2 : (x2 = 0 ∨ (0 ≤ x3 ∧ x3 ≤ 24 ∧ 0 ≤ x1 ∧ x1 ≤ 3))) (h3 : ¬ x2 = 0) (h4 : x0 = 4 * x3) (h5 : -2147483648 ≤ x0) (h6 : x0 ≤ 2147483647) (h7 : -2147483648 ≤ x1) (h8 : x1 ≤ 2147483647) (h9 : -2147483648 ≤ x2) (h10 : x2 ≤ 2147483647) (h11 : -2147483648 ≤ x3) (h12 : x3 ≤ 2147483647) : -2147483648 ≤ x0 + x1 := by omega
theorem o28_39 {x0 x1 x2 x3 : Int} (h0 : 0 ≤ x2) (h1 : x2 ≤ 1) (h2 : (x2 = 0 ∨ (0 ≤ x3 ∧ x3 ≤ 24 ∧ 0 ≤ x1 ∧ x1 ≤ 3))) (h3 : ¬ x2 = 0) (h4 : x0 = 4 * x3) (h5 : -2147483648 ≤ x0) (h6 : x0 ≤ 2147483647) (h7 : -2147483648 ≤ x1) (h8 : x1 ≤ 2147483647) (h9 : -2147483648 ≤ x2) (h10 : x2 ≤ 2147483647) (h11 : -2147483648 ≤ x3) (h12 : x3 ≤ 2147483647) : x0 + x1 ≤ 2147483647 := by omega
theorem o28_40 {x0 x1 x2 x3 x4 : Int} (h0 : 0 ≤ x1) (h1 : x1 ≤ 1) (h2 : (x1 = 0 ∨ (0 ≤ x2 ∧ x2 ≤ 24 ∧ 0 ≤ x3 ∧ x3 ≤ 3))) (h3 : ¬ x1 = 0) (h4 : x4 = 4 * x2) (h5 : x0 = x4 + x3) : 0 ≤ x0 := by omega
theorem o28_41 {x0 x1 x2 x3 x4 : Int} (h0 : 0 ≤ x1) (h1 : x1 ≤ 1) (h2 : (x1 = 0 ∨ (0 ≤ x2 ∧ x2 ≤ 24 ∧ 0 ≤ x3 ∧ x3 ≤ 3))) (h3 : ¬ x1 = 0) (h4 : x4 = 4 * x2) (h5 : x0 = x4 + x3) : x0 ≤ 99 := by omega
theorem o28_42 {x0 : Int} (h0 : (-1) ≤ x0) (h1 : x0 ≤ 60) : (-2) ≤ x0 := by omega
theorem o28_43 {x0 x1 : Int} (h0 : 0 ≤ x1) (h1 : x1 ≤ 1) (h2 : ((x1 = 0 ∧ (x0 < 0 ∨ 3 < x0)) ∨ (x1 = 1 ∧ 0 ≤ x0 ∧ x0 ≤ 3))) (h3 : ¬ x1 = 0) : 0 ≤ x0 := by omega
theorem o28_44 {x0 x1 : Int} (h0 : 0 ≤ x1) (h1 : x1 ≤ 1) (h2 : ((x1 = 0 ∧ (x0 < 0 ∨ 3 < x0)) ∨ (x1 = 1 ∧ 0 ≤ x0 ∧ x0 ≤ 3))) (h3 : ¬ x1 = 0) : x0 < (4 : Nat) := by omega
theorem o28_45 {x0 x1 : Int} (h0 : 0 ≤ x1) (h1 : x1 ≤ 1) (h2 : ((x1 = 0 ∧ (x0 < 0 ∨ 3 < x0)) ∨ (x1 = 1 ∧ 0 ≤ x0 ∧ x0 ≤ 3))) (h3 : ¬ x1 = 0) : (x0).toNat < 4 := by omega
theorem o28_46 {x0 x1 x2 x3 x4 : Int} (h0 : (-1) ≤ x0) (h1 : x0 ≤ 40) (h2 : 0 ≤ x0) (h3 : (-1) ≤ x1) (h4 : x1 ≤ 40) (h5 : x1 = x0) (h6 : x2 = 1) (h7 : x2 ≤ x1) (h8 : (-1) ≤ x3) (h9 : x3 ≤ 40) (h10 : x3 = x0) (h11 : x4 = 4) (h12 : x3 ≤ x4) : 0 ≤ x0 := by omega
theorem o28_47 {x0 x1 x2 x3 x4 : Int} (h0 : (-1) ≤ x0) (h1 : x0 ≤ 40) (h2 : 0 ≤ x0) (h3 : (-1) ≤ x1) (h4 : x1 ≤ 40) (h5 : x1 = x0) (h6 : x2 = 1) (h7 : x2 ≤ x1) (h8 : (-1) ≤ x3) (h9 : x3 ≤ 40) (h10 : x3 = x0) (h11 : x4 = 4) (h12 : x3 ≤ x4) : x0 ≤ 4 := by omega
theorem o28_48 {x0 : Int} (h0 : x0 = 0) : x0 ≤ 0 := by omega
theorem o28_49 {x0 x1 : Int} (h0 : 0 ≤ x0) (h1 : x1 = 1) (h2 : x0 ≤ x1) : 0 ≤ x0 := by omega
theorem o28_50 {x0 x1 x2 : Int} (h0 : 0 ≤ x0) (h1 : x1 = 1) (h2 : x1 < x0) (h3 : x2 = 10) (h4 : x2 ≤ x0) : 0 ≤ x0 := by omega
theorem o28_51 {x0 x1 : Int} (h0 : 0 ≤ x0) (h1 : x1 = 20) (h2 : x0 ≤ x1) : x0 ≤ 30 := by omega
theorem o28_52 {x0 : Int} (h0 : 0 ≤ x0) : (-3) ≤ x0 := by omega
theorem o28_53 {x0 : Int} (h0 : 0 ≤ x0) (h1 : x0 ≤ 63) : (-3) ≤ x0 := by omega
theorem o28_54 {x0 : Int} (h0 : x0 = (-1)) : (-3) ≤ x0 := by omega
theorem o28_55 {x0 : Int} (h0 : x0 = (-2)) : x0 ≤ 24 := by omega
theorem o28_56 {x0 : Int} (h0 : x0 = (-3)) : x0 ≤ 24 := by omega
theorem o28_57 {x0 x1 : Int} (h0 : 0 ≤ x0) (h1 : x1 = 30) (h2 : x0 ≤ x1) : 0 ≤ x0 := by omega
theorem o28_58 {x0 x1 : Int} (h0 : 0 ≤ x0) (h1 : x1 = 30) (h2 : x0 ≤ x1) : x0 ≤ 60 := by omega
theorem o28_59 {x0 : Int} (h0 : 0 ≤ x0) (h1 : x0 ≤ 25) (h2 : 25 - x0 < 0) : False := by omega
theorem o28_60 {x0 : Int} (h0 : (-1) ≤ x0) (h1 : x0 ≤ 24) : (-3) ≤ x0 := by omega
theorem o28_61 {x0 : Int} (h0 : (-1) ≤ x0) (h1 : x0 ≤ 24) : x0 ≤ 24 := by omega
theorem o28_62 {x0 x2 : Int} {x1 : Nat} (h0 : 0 ≤ x0) (h1 : x0 ≤ 25) (h2 : 25 - x0 < ((x1 + 1 : Nat) : Int)) (h3 : 0 ≤ x2) (h4 : x2 ≤ 25) (h5 : x0 < x2) (h6 : -2147483648 ≤ x0) (h7 : x0 ≤ 2147483647) (h8 : -2147483648 ≤ x2) (h9 : x2 ≤ 2147483647) : -2147483648 ≤ x0 + 1 := by omega
theorem o28_63 {x0 x2 : Int} {x1 : Nat} (h0 : 0 ≤ x0) (h1 : x0 ≤ 25) (h2 : 25 - x0 < ((x1 + 1 : Nat) : Int)) (h3 : 0 ≤ x2) (h4 : x2 ≤ 25) (h5 : x0 < x2) (h6 : -2147483648 ≤ x0) (h7 : x0 ≤ 2147483647) (h8 : -2147483648 ≤ x2) (h9 : x2 ≤ 2147483647) : x0 + 1 ≤ 2147483647 := by omega
theorem o28_64 {x0 x2 x3 : Int} {x1 : Nat} (h0 : 0 ≤ x2) (h1 : x2 ≤ 25) (h2 : 25 - x2 < ((x1 + 1 : Nat) : Int)) (h3 : 0 ≤ x3) (h4 : x3 ≤ 25) (h5 : x2 < x3) (h6 : x0 = x2 + 1) : 25 - x0 < (x1 : Int) := by omega
theorem o28_65 {x0 x1 x3 : Int} {x2 : Nat} (h0 : 0 ≤ x1) (h1 : x1 ≤ 25) (h2 : 25 - x1 < ((x2 + 1 : Nat) : Int)) (h3 : 0 ≤ x3) (h4 : x3 ≤ 25) (h5 : x1 < x3) (h6 : x0 = x1 + 1) : 0 ≤ x0 := by omega
theorem o28_66 {x0 x1 x3 : Int} {x2 : Nat} (h0 : 0 ≤ x1) (h1 : x1 ≤ 25) (h2 : 25 - x1 < ((x2 + 1 : Nat) : Int)) (h3 : 0 ≤ x3) (h4 : x3 ≤ 25) (h5 : x1 < x3) (h6 : x0 = x1 + 1) : x0 ≤ 25 := by omega
theorem o28_67 {x0 : Int} (h0 : (-1) ≤ x0) (h1 : x0 ≤ 24) : (-1) ≤ x0 := by omega
theorem o28_68 {x0 x1 : Int} (h0 : (-1) ≤ x0) (h1 : x0 ≤ 120) (h2 : 0 < x0) (h3 : (-1) ≤ x1) (h4 : x1 ≤ 120) (h5 : x0 ≤ x1) : (-1) ≤ x0 := by omega
theorem o28_69 {x0 x1 : Int} (h0 : (-1) ≤ x0) (h1 : x0 ≤ 120) (h2 : 0 < x0) (h3 : (-1) ≤ x1) (h4 : x1 ≤ 120) (h5 : x0 ≤ x1) : x0 ≤ 120 := by omega
theorem o28_70 {x0 x2 x3 : Int} {x1 : Nat} (h0 : 0 ≤ x0) (h1 : x0 ≤ 25) (h2 : 25 - x0 < ((x1 + 1 : Nat) : Int)) (h3 : 0 ≤ x2) (h4 : x2 ≤ 25) (h5 : x0 < x2) (h6 : x3 = x0 + 1) : (-1) ≤ x0 := by omega
theorem o28_71 {x0 x2 x3 : Int} {x1 : Nat} (h0 : 0 ≤ x0) (h1 : x0 ≤ 25) (h2 : 25 - x0 < ((x1 + 1 : Nat) : Int)) (h3 : 0 ≤ x2) (h4 : x2 ≤ 25) (h5 : x0 < x2) (h6 : x3 = x0 + 1) : x0 ≤ 24 := by omega
theorem o28_72 {x0 x1 : Int} (h0 : (-1) ≤ x1) (h1 : x1 ≤ 120) (h2 : 0 < x1) (h3 : (-1) ≤ x0) (h4 : x0 ≤ 120) (h5 : x0 < x1) : (-1) ≤ x0 := by omega
theorem o28_73 {x0 x1 : Int} (h0 : (-1) ≤ x1) (h1 : x1 ≤ 120) (h2 : 0 < x1) (h3 : (-1) ≤ x0) (h4 : x0 ≤ 120) (h5 : x0 < x1) : x0 ≤ 120 := by omega
theorem o28_74 {x0 : Int} (h0 : x0 = 0) : 25 - x0 < (((25 - x0 + 1).toNat : Nat) : Int) := by omega
theorem o28_75 {x0 : Int} (h0 : x0 = 0) : x0 ≤ 25 := by omega
theorem o28_76 {x0 : Int} (h0 : x0 = (-1)) : (-1) ≤ x0 := by omega
theorem o28_77 {x0 : Int} (h0 : x0 = (-1)) : x0 ≤ 24 := by omega
theorem o28_78 {x0 : Int} (h0 : (-1) ≤ x0) (h1 : x0 ≤ 120) : (-1) ≤ x0 := by omega
theorem o28_79 {x0 : Int} (h0 : 0 ≤ x0) (h1 : x0 ≤ 24) (h2 : 24 - x0 < 0) : False := by omega
theorem o28_80 {x0 x1 x3 : Int} {x2 : Nat} (h0 : 0 ≤ x0) (h1 : x0 ≤ 24) (h2 : 24 - x0 < ((x2 + 1 : Nat) : Int)) (h3 : x3 = 24) (h4 : x0 < x3) (h5 : x1 = 1) (h6 : -2147483648 ≤ x0) (h7 : x0 ≤ 2147483647) (h8 : -2147483648 ≤ x1) (h9 : x1 ≤ 2147483647) (h10 : -2147483648 ≤ x3) (h11 : x3 ≤ 2147483647) : -2147483648 ≤ x0 + x1 := by omega
theorem o28_81 {x0 x1 x3 : Int} {x2 : Nat} (h0 : 0 ≤ x0) (h1 : x0 ≤ 24) (h2 : 24 - x0 < ((x2 + 1 : Nat) : Int)) (h3 : x3 = 24) (h4 : x0 < x3) (h5 : x1 = 1) (h6 : -2147483648 ≤ x0) (h7 : x0 ≤ 2147483647) (h8 : -2147483648 ≤ x1) (h9 : x1 ≤ 2147483647) (h10 : -2147483648 ≤ x3) (h11 : x3 ≤ 2147483647) : x0 + x1 ≤ 2147483647 := by omega
theorem o28_82 {x0 : Int} (h0 : 1 ≤ x0) (h1 : x0 ≤ 24) (h2 : 24 - x0 < 0) : False := by omega
theorem o28_83 {x0 x2 x3 x4 : Int} {x1 : Nat} (h0 : 0 ≤ x0) (h1 : x0 ≤ 24) (h2 : 24 - x0 < ((x1 + 1 : Nat) : Int)) (h3 : x2 = 24) (h4 : x0 < x2) (h5 : x3 = 1) (h6 : x4 = x0 + x3) (h7 : -2147483648 ≤ x0) (h8 : x0 ≤ 2147483647) (h9 : -2147483648 ≤ x2) (h10 : x2 ≤ 2147483647) (h11 : -2147483648 ≤ x3) (h12 : x3 ≤ 2147483647) (h13 : -2147483648 ≤ x4) (h14 : x4 ≤ 2147483647) : -2147483648 ≤ x0 + 1 := by omega
theorem o28_84 {x0 x2 x3 x4 : Int} {x1 : Nat} (h0 : 0 ≤ x0) (h1 : x0 ≤ 24) (h2 : 24 - x0 < ((x1 + 1 : Nat) : Int)) (h3 : x2 = 24) (h4 : x0 < x2) (h5 : x3 = 1) (h6 : x4 = x0 + x3) (h7 : -2147483648 ≤ x0) (h8 : x0 ≤ 2147483647) (h9 : -2147483648 ≤ x2) (h10 : x2 ≤ 2147483647) (h11 : -2147483648 ≤ x3) (h12 : x3 ≤ 2147483647) (h13 : -2147483648 ≤ x4) (h14 : x4 ≤ 2147483647) : x0 + 1 ≤ 2147483647 := by omega
theorem o28_85 {x0 x2 x3 x4 x5 : Int} {x1 : Nat} (h0 : 0 ≤ x2) (h1 : x2 ≤ 24) (h2 : 24 - x2 < ((x1 + 1 : Nat) : Int)) (h3 : x3 = 24) (h4 : x2 < x3) (h5 : x4 = 1) (h6 : x5 = x2 + x4) (h7 : x0 = x2 + 1) : 24 - x0 < (x1 : Int) := by omega
theorem o28_86 {x0 x1 x3 x4 x5 : Int} {x2 : Nat} (h0 : 0 ≤ x1) (h1 : x1 ≤ 24) (h2 : 24 - x1 < ((x2 + 1 : Nat) : Int)) (h3 : x3 = 24) (h4 : x1 < x3) (h5 : x4 = 1) (h6 : x5 = x1 + x4) (h7 : x0 = x1 + 1) : 0 ≤ x0 := by omega
theorem o28_87 {x0 x1 x3 x4 x5 : Int} {x2 : Nat} (h0 : 0 ≤ x1) (h1 : x1 ≤ 24) (h2 : 24 - x1 < ((x2 + 1 : Nat) : Int)) (h3 : x3 = 24) (h4 : x1 < x3) (h5 : x4 = 1) (h6 : x5 = x1 + x4) (h7 : x0 = x1 + 1) : x0 ≤ 24 := by omega
theorem o28_88 {x0 : Int} (h0 : (-1) ≤ x0) (h1 : x0 ≤ 23) : (-1) ≤ x0 := by omega
theorem o28_89 {x0 : Int} (h0 : (-1) ≤ x0) (h1 : x0 ≤ 23) : x0 ≤ 23 := by omega
theorem o28_90 {x0 x2 : Int} {x1 : Nat} (h0 : 1 ≤ x0) (h1 : x0 ≤ 24) (h2 : 24 - x0 < ((x1 + 1 : Nat) : Int)) (h3 : x2 = 24) (h4 : x0 < x2) : 0 ≤ x0 := by omega
theorem o28_91 {x0 x2 : Int} {x1 : Nat} (h0 : 1 ≤ x0) (h1 : x0 ≤ 24) (h2 : 24 - x0 < ((x1 + 1 : Nat) : Int)) (h3 : x2 = 24) (h4 : x0 < x2) : x0 < (24 : Nat) := by omega
theorem o28_92 {x0 x2 x3 x4 : Int} {x1 : Nat} (h0 : 0 ≤ x0) (h1 : x0 ≤ 24) (h2 : 24 - x0 < ((x1 + 1 : Nat) : Int)) (h3 : x2 = 24) (h4 : x0 < x2) (h5 : x3 = 1) (h6 : x4 = x0 + x3) : 0 ≤ x0 := by omega
theorem o28_93 {x0 x2 x3 x4 : Int} {x1 : Nat} (h0 : 0 ≤ x0) (h1 : x0 ≤ 24) (h2 : 24 - x0 < ((x1 + 1 : Nat) : Int)) (h3 : x2 = 24) (h4 : x0 < x2) (h5 : x3 = 1) (h6 : x4 = x0 + x3) : x0 < (24 : Nat) := by omega
theorem o28_94 {x0 x2 : Int} {x1 : Nat} (h0 : 1 ≤ x0) (h1 : x0 ≤ 24) (h2 : 24 - x0 < ((x1 + 1 : Nat) : Int)) (h3 : x2 = 24) (h4 : x0 < x2) (h5 : -2147483648 ≤ x0) (h6 : x0 ≤ 2147483647) (h7 : -2147483648 ≤ x2) (h8 : x2 ≤ 2147483647) : -2147483648 ≤ x0 + 1 := by omega
theorem o28_95 {x0 x2 : Int} {x1 : Nat} (h0 : 1 ≤ x0) (h1 : x0 ≤ 24) (h2 : 24 - x0 < ((x1 + 1 : Nat) : Int)) (h3 : x2 = 24) (h4 : x0 < x2) (h5 : -2147483648 ≤ x0) (h6 : x0 ≤ 2147483647) (h7 : -2147483648 ≤ x2) (h8 : x2 ≤ 2147483647) : x0 + 1 ≤ 2147483647 := by omega
theorem o28_96 {x0 x2 x3 : Int} {x1 : Nat} (h0 : 1 ≤ x2) (h1 : x2 ≤ 24) (h2 : 24 - x2 < ((x1 + 1 : Nat) : Int)) (h3 : x3 = 24) (h4 : x2 < x3) (h5 : x0 = x2 + 1) : 24 - x0 < (x1 : Int) := by omega
theorem o28_97 {x0 x1 x3 : Int} {x2 : Nat} (h0 : 1 ≤ x1) (h1 : x1 ≤ 24) (h2 : 24 - x1 < ((x2 + 1 : Nat) : Int)) (h3 : x3 = 24) (h4 : x1 < x3) (h5 : x0 = x1 + 1) : 1 ≤ x0 := by omega
theorem o28_98 {x0 x1 x3 : Int} {x2 : Nat} (h0 : 1 ≤ x1) (h1 : x1 ≤ 24) (h2 : 24 - x1 < ((x2 + 1 : Nat) : Int)) (h3 : x3 = 24) (h4 : x1 < x3) (h5 : x0 = x1 + 1) : x0 ≤ 24 := by omega
theorem o28_99 {x0 x2 x3 : Int} {x1 : Nat} (h0 : 1 ≤ x0) (h1 : x0 ≤ 24) (h2 : 24 - x0 < ((x1 + 1 : Nat) : Int)) (h3 : x2 = 24) (h4 : x0 < x2) (h5 : x3 = x0 + 1) : (-1) ≤ x0 := by omega
theorem o28_100 {x0 x2 x3 : Int} {x1 : Nat} (h0 : 1 ≤ x0) (h1 : x0 ≤ 24) (h2 : 24 - x0 < ((x1 + 1 : Nat) : Int)) (h3 : x2 = 24) (h4 : x0 < x2) (h5 : x3 = x0 + 1) : x0 ≤ 23 := by omega
theorem o28_101 {x0 x2 x3 x4 : Int} {x1 : Nat} (h0 : 0 ≤ x0) (h1 : x0 ≤ 24) (h2 : 24 - x0 < ((x1 + 1 : Nat) : Int)) (h3 : x2 = 24) (h4 : x0 < x2) (h5 : x3 = 1) (h6 : x4 = x0 + x3) : (-1) ≤ x0 := by omega
theorem o28_102 {x0 x2 x3 x4 : Int} {x1 : Nat} (h0 : 0 ≤ x0) (h1 : x0 ≤ 24) (h2 : 24 - x0 < ((x1 + 1 : Nat) : Int)) (h3 : x2 = 24) (h4 : x0 < x2) (h5 : x3 = 1) (h6 : x4 = x0 + x3) : x0 ≤ 23 := by omega
theorem o28_103 {x0 x1 x3 x4 : Int} {x2 : Nat} (h0 : 0 ≤ x1) (h1 : x1 ≤ 24) (h2 : 24 - x1 < ((x2 + 1 : Nat) : Int)) (h3 : x3 = 24) (h4 : x1 < x3) (h5 : x4 = 1) (h6 : x0 = x1 + x4) : 24 - x0 < (((24 - x0 + 1).toNat : Nat) : Int) := by omega
theorem o28_104 {x0 x1 x3 x4 : Int} {x2 : Nat} (h0 : 0 ≤ x1) (h1 : x1 ≤ 24) (h2 : 24 - x1 < ((x2 + 1 : Nat) : Int)) (h3 : x3 = 24) (h4 : x1 < x3) (h5 : x4 = 1) (h6 : x0 = x1 + x4) : 1 ≤ x0 := by omega
theorem o28_105 {x0 x1 x3 x4 : Int} {x2 : Nat} (h0 : 0 ≤ x1) (h1 : x1 ≤ 24) (h2 : 24 - x1 < ((x2 + 1 : Nat) : Int)) (h3 : x3 = 24) (h4 : x1 < x3) (h5 : x4 = 1) (h6 : x0 = x1 + x4) : x0 ≤ 24 := by omega
theorem o28_106 {x0 : Int} (h0 : x0 = 0) : 24 - x0 < (((24 - x0 + 1).toNat : Nat) : Int) := by omega
theorem o28_107 {x0 : Int} (h0 : x0 = 0) : x0 ≤ 24 := by omega
theorem o28_108 {x0 : Int} (h0 : x0 = (-1)) : x0 ≤ 23 := by omega
theorem o28_109 {x0 x1 x2 : Int} (h0 : 0 ≤ x1) (h1 : x1 ≤ 1) (h2 : (x1 = 0 ∨ (0 ≤ x0 ∧ x0 ≤ 24 ∧ 0 ≤ x2 ∧ x2 ≤ 3))) (h3 : ¬ x1 = 0) : 0 ≤ x0 := by omega
theorem o28_110 {x0 x1 x2 : Int} (h0 : 0 ≤ x1) (h1 : x1 ≤ 1) (h2 : (x1 = 0 ∨ (0 ≤ x0 ∧ x0 ≤ 24 ∧ 0 ≤ x2 ∧ x2 ≤ 3))) (h3 : ¬ x1 = 0) : x0 < (25 : Nat) := by omega
theorem o28_111 {x0 x1 x2 : Int} (h0 : 0 ≤ x1) (h1 : x1 ≤ 1) (h2 : (x1 = 0 ∨ (0 ≤ x0 ∧ x0 ≤ 24 ∧ 0 ≤ x2 ∧ x2 ≤ 3))) (h3 : ¬ x1 = 0) : x0 ≤ 24 := by omega
theorem o28_112 {x0 x2 : Int} {x1 : Nat} (h0 : 0 ≤ x0) (h1 : x0 ≤ 24) (h2 : 24 - x0 < ((x1 + 1 : Nat) : Int)) (h3 : x2 = 24) (h4 : x0 < x2) : 0 ≤ x0 := by omega
theorem o28_113 {x0 x2 : Int} {x1 : Nat} (h0 : 0 ≤ x0) (h1 : x0 ≤ 24) (h2 : 24 - x0 < ((x1 + 1 : Nat) : Int)) (h3 : x2 = 24) (h4 : x0 < x2) : x0 < (24 : Nat) := by omega
theorem o28_114 {x0 x2 : Int} {x1 : Nat} (h0 : 0 ≤ x0) (h1 : x0 ≤ 24) (h2 : 24 - x0 < ((x1 + 1 : Nat) : Int)) (h3 : x2 = 24) (h4 : x0 < x2) (h5 : -2147483648 ≤ x0) (h6 : x0 ≤ 2147483647) (h7 : -2147483648 ≤ x2) (h8 : x2 ≤ 2147483647) : -2147483648 ≤ x0 + 1 := by omega
theorem o28_115 {x0 x2 : Int} {x1 : Nat} (h0 : 0 ≤ x0) (h1 : x0 ≤ 24) (h2 : 24 - x0 < ((x1 + 1 : Nat) : Int)) (h3 : x2 = 24) (h4 : x0 < x2) (h5 : -2147483648 ≤ x0) (h6 : x0 ≤ 2147483647) (h7 : -2147483648 ≤ x2) (h8 : x2 ≤ 2147483647) : x0 + 1 ≤ 2147483647 := by omega
theorem o28_116 {x0 x2 x3 : Int} {x1 : Nat} (h0 : 0 ≤ x2) (h1 : x2 ≤ 24) (h2 : 24 - x2 < ((x1 + 1 : Nat) : Int)) (h3 : x3 = 24) (h4 : x2 < x3) (h5 : x0 = x2 + 1) : 24 - x0 < (x1 : Int) := by omega
theorem o28_117 {x0 x1 x3 : Int} {x2 : Nat} (h0 : 0 ≤ x1) (h1 : x1 ≤ 24) (h2 : 24 - x1 < ((x2 + 1 : Nat) : Int)) (h3 : x3 = 24) (h4 : x1 < x3) (h5 : x0 = x1 + 1) : 0 ≤ x0 := by omega
theorem o28_118 {x0 x1 x3 : Int} {x2 : Nat} (h0 : 0 ≤ x1) (h1 : x1 ≤ 24) (h2 : 24 - x1 < ((x2 + 1 : Nat) : Int)) (h3 : x3 = 24) (h4 : x1 < x3) (h5 : x0 = x1 + 1) : x0 ≤ 24 := by omega
theorem o28_119 {x0 x2 : Int} {x1 : Nat} (h0 : 0 ≤ x0) (h1 : x0 ≤ 25) (h2 : 25 - x0 < ((x1 + 1 : Nat) : Int)) (h3 : 0 ≤ x2) (h4 : x2 ≤ 25) (h5 : x0 < x2) : 0 ≤ x0 := by omega
theorem o28_120 {x0 x2 : Int} {x1 : Nat} (h0 : 0 ≤ x0) (h1 : x0 ≤ 25) (h2 : 25 - x0 < ((x1 + 1 : Nat) : Int)) (h3 : 0 ≤ x2) (h4 : x2 ≤ 25) (h5 : x0 < x2) : x0 < (25 : Nat) := by omega
theorem o28_121 {x0 x2 : Int} {x1 : Nat} (h0 : 0 ≤ x0) (h1 : x0 ≤ 25) (h2 : 25 - x0 < ((x1 + 1 : Nat) : Int)) (h3 : 0 ≤ x2) (h4 : x2 ≤ 25) (h5 : x0 < x2) : x0 ≤ 24 := by omega
theorem o28_122 {x0 : Int} (h0 : 0 ≤ x0) : 0 ≤ x0 := by omega
theorem o28_123 {x0 x1 : Int} (h0 : 0 ≤ x0) (h1 : 0 ≤ x1) (h2 : x0 ≤ x1) : 0 ≤ x0 := by omega
theorem o28_124 {x0 : Int} (h0 : (-1) ≤ x0) (h1 : x0 ≤ 24) (h2 : 0 ≤ x0) : (-1) ≤ x0 := by omega
theorem o28_125 {x0 : Int} (h0 : (-1) ≤ x0) (h1 : x0 ≤ 24) (h2 : 0 ≤ x0) : x0 ≤ 24 := by omega
theorem o28_126 {x0 x1 : Int} (h0 : 0 ≤ x1) (h1 : 0 ≤ x0) (h2 : x0 < x1) : 0 ≤ x0 := by omega
theorem o28_127 {x0 x1 : Int} (h0 : 0 ≤ x1) (h1 : x1 ≤ 1) (h2 : (x1 = 0 ∨ (0 ≤ x0 ∧ x0 ≤ 4))) (h3 : ¬ x1 = 0) : x0 < (5 : Nat) := by omega
theorem o28_128 {x0 : Int} (h0 : 0 ≤ x0) (h1 : x0 ≤ 2147483647) (h2 : 2147483647 - x0 < 0) : False := by omega
theorem o28_129 {x0 x2 : Int} {x1 : Nat} (h0 : 0 ≤ x0) (h1 : x0 ≤ 2147483647) (h2 : 2147483647 - x0 < ((x1 + 1 : Nat) : Int)) (h3 : x2 ≤ x0) : (-2) ≤ x0 := by omega
theorem o28_130 {x0 x1 : Int} (h0 : 0 ≤ x1) (h1 : x1 ≤ x0) (h2 : -2147483648 ≤ x0) (h3 : x0 ≤ 2147483647) (h4 : -2147483648 ≤ x1) (h5 : x1 ≤ 2147483647) : -2147483648 ≤ x0 - x1 := by omega
theorem o28_131 {x0 x1 : Int} (h0 : 0 ≤ x1) (h1 : x1 ≤ x0) (h2 : -2147483648 ≤ x0) (h3 : x0 ≤ 2147483647) (h4 : -2147483648 ≤ x1) (h5 : x1 ≤ 2147483647) : x0 - x1 ≤ 2147483647 := by omega
theorem o28_132 {x0 x2 : Int} {x1 : Nat} (h0 : 0 ≤ x0) (h1 : x0 ≤ 2147483647) (h2 : 2147483647 - x0 < ((x1 + 1 : Nat) : Int)) (h3 : x0 < x2) (h4 : -2147483648 ≤ x0) (h5 : x0 ≤ 2147483647) (h6 : -2147483648 ≤ x2) (h7 : x2 ≤ 2147483647) : -2147483648 ≤ x0 + 1 := by omega
theorem o28_133 {x0 x2 : Int} {x1 : Nat} (h0 : 0 ≤ x0) (h1 : x0 ≤ 2147483647) (h2 : 2147483647 - x0 < ((x1 + 1 : Nat) : Int)) (h3 : x0 < x2) (h4 : -2147483648 ≤ x0) (h5 : x0 ≤ 2147483647) (h6 : -2147483648 ≤ x2) (h7 : x2 ≤ 2147483647) : x0 + 1 ≤ 2147483647 := by omega
theorem o28_134 {x0 x2 x3 : Int} {x1 : Nat} (h0 : 0 ≤ x2) (h1 : x2 ≤ 2147483647) (h2 : 2147483647 - x2 < ((x1 + 1 : Nat) : Int)) (h3 : x2 < x3) (h4 : x0 = x2 + 1) (h5 : -2147483648 ≤ x0) (h6 : x0 ≤ 2147483647) (h7 : -2147483648 ≤ x2) (h8 : x2 ≤ 2147483647) (h9 : -2147483648 ≤ x3) (h10 : x3 ≤ 2147483647) : 2147483647 - x0 < (x1 : Int) := by omega
theorem o28_135 {x0 x1 x3 : Int} {x2 : Nat} (h0 : 0 ≤ x1) (h1 : x1 ≤ 2147483647) (h2 : 2147483647 - x1 < ((x2 + 1 : Nat) : Int)) (h3 : x1 < x3) (h4 : x0 = x1 + 1) : 0 ≤ x0 := by omega
theorem o28_136 {x0 x1 x3 : Int} {x2 : Nat} (h0 : 0 ≤ x1) (h1 : x1 ≤ 2147483647) (h2 : 2147483647 - x1 < ((x2 + 1 : Nat) : Int)) (h3 : x1 < x3) (h4 : x0 = x1 + 1) (h5 : -2147483648 ≤ x0) (h6 : x0 ≤ 2147483647) (h7 : -2147483648 ≤ x1) (h8 : x1 ≤ 2147483647) (h9 : -2147483648 ≤ x3) (h10 : x3 ≤ 2147483647) : x0 ≤ 2147483647 := by omega
theorem o28_137 {x0 x2 : Int} {x1 : Nat} (h0 : 0 ≤ x0) (h1 : x0 ≤ 2147483647) (h2 : 2147483647 - x0 < ((x1 + 1 : Nat) : Int)) (h3 : x0 < x2) : (-2) ≤ x0 := by omega
theorem o28_138 {x0 : Int} (h0 : x0 = 0) (h1 : -2147483648 ≤ x0) (h2 : x0 ≤ 2147483647) : 2147483647 - x0 < (((2147483647 - x0 + 1).toNat : Nat) : Int) := by omega
theorem o28_139 {x0 : Int} (h0 : x0 = 0) (h1 : -2147483648 ≤ x0) (h2 : x0 ≤ 2147483647) : x0 ≤ 2147483647 := by omega
theorem o28_140 {x0 x1 : Int} (h0 : 0 ≤ x0) (h1 : x1 = 30) (h2 : x0 ≤ x1) : x0 ≤ 30 := by omega
theorem o28_141 {x0 x1 x2 : Int} (h0 : (-1) ≤ x0) (h1 : x0 ≤ 40) (h2 : 0 ≤ x0) (h3 : (-1) ≤ x1) (h4 : x1 ≤ 40) (h5 : x1 = x0) (h6 : x2 = 10) (h7 : x1 ≤ x2) : 0 ≤ x0 := by omega
theorem o28_142 {x0 x1 x2 : Int} (h0 : (-1) ≤ x0) (h1 : x0 ≤ 40) (h2 : 0 ≤ x0) (h3 : (-1) ≤ x1) (h4 : x1 ≤ 40) (h5 : x1 = x0) (h6 : x2 = 10) (h7 : x1 ≤ x2) : x0 ≤ 10 := by omega
theorem o28_143 {x0 : Int} (h0 : x0 = (-2)) : x0 ≤ 30 := by omega
theorem o28_144 {x0 : Int} (h0 : 0 ≤ x0) (h1 : x0 ≤ 31) (h2 : 31 - x0 < 0) : False := by omega
theorem o28_145 {x0 : Int} (h0 : x0 = (-1)) : (-2) ≤ x0 := by omega
theorem o28_146 {x0 : Int} (h0 : x0 = (-1)) : x0 ≤ 30 := by omega
theorem o28_147 {x0 x1 x2 : Int} (h0 : 0 ≤ x1) (h1 : x1 ≤ 1) (h2 : (x1 = 0 ∨ (0 ≤ x2 ∧ x2 ≤ 24 ∧ 0 ≤ x0 ∧ x0 ≤ 3))) (h3 : ¬ x1 = 0) : 0 ≤ x0 := by omega
theorem o28_148 {x0 x1 x2 : Int} (h0 : 0 ≤ x1) (h1 : x1 ≤ 1) (h2 : (x1 = 0 ∨ (0 ≤ x2 ∧ x2 ≤ 24 ∧ 0 ≤ x0 ∧ x0 ≤ 3))) (h3 : ¬ x1 = 0) : x0 ≤ 3 := by omega
theorem o28_149 {x0 x2 : Int} {x1 : Nat} (h0 : 0 ≤ x0) (h1 : x0 ≤ 31) (h2 : 31 - x0 < ((x1 + 1 : Nat) : Int)) (h3 : x2 = 30) (h4 : x0 ≤ x2) : 0 ≤ x0 := by omega
theorem o28_150 {x0 x2 : Int} {x1 : Nat} (h0 : 0 ≤ x0) (h1 : x0 ≤ 31) (h2 : 31 - x0 < ((x1 + 1 : Nat) : Int)) (h3 : x2 = 30) (h4 : x0 ≤ x2) : x0 ≤ 30 := by omega
theorem o28_151 {x0 : Int} (h0 : x0 = 1) : x0 = 1 := by omega
theorem o28_152 {x0 x2 : Int} {x1 : Nat} (h0 : 0 ≤ x0) (h1 : x0 ≤ 31) (h2 : 31 - x0 < ((x1 + 1 : Nat) : Int)) (h3 : x2 = 30) (h4 : x0 ≤ x2) (h5 : -2147483648 ≤ x0) (h6 : x0 ≤ 2147483647) (h7 : -2147483648 ≤ x2) (h8 : x2 ≤ 2147483647) : -2147483648 ≤ x0 + 1 := by omega
theorem o28_153 {x0 x2 : Int} {x1 : Nat} (h0 : 0 ≤ x0) (h1 : x0 ≤ 31) (h2 : 31 - x0 < ((x1 + 1 : Nat) : Int)) (h3 : x2 = 30) (h4 : x0 ≤ x2) (h5 : -2147483648 ≤ x0) (h6 : x0 ≤ 2147483647) (h7 : -2147483648 ≤ x2) (h8 : x2 ≤ 2147483647) : x0 + 1 ≤ 2147483647 := by omega
theorem o28_154 {x0 x2 x3 : Int} {x1 : Nat} (h0 : 0 ≤ x2) (h1 : x2 ≤ 31) (h2 : 31 - x2 < ((x1 + 1 : Nat) : Int)) (h3 : x3 = 30) (h4 : x2 ≤ x3) (h5 : x0 = x2 + 1) : 31 - x0 < (x1 : Int) := by omega
theorem o28_155 {x0 x1 x3 : Int} {x2 : Nat} (h0 : 0 ≤ x1) (h1 : x1 ≤ 31) (h2 : 31 - x1 < ((x2 + 1 : Nat) : Int)) (h3 : x3 = 30) (h4 : x1 ≤ x3) (h5 : x0 = x1 + 1) : 0 ≤ x0 := by omega
theorem o28_156 {x0 x1 x3 : Int} {x2 : Nat} (h0 : 0 ≤ x1) (h1 : x1 ≤ 31) (h2 : 31 - x1 < ((x2 + 1 : Nat) : Int)) (h3 : x3 = 30) (h4 : x1 ≤ x3) (h5 : x0 = x1 + 1) : x0 ≤ 31 := by omega
theorem o28_157 {x0 x2 : Int} {x1 : Nat} (h0 : 0 ≤ x0) (h1 : x0 ≤ 31) (h2 : 31 - x0 < ((x1 + 1 : Nat) : Int)) (h3 : x2 = 30) (h4 : x0 ≤ x2) : (-2) ≤ x0 := by omega
theorem o28_158 {x0 : Int} (h0 : x0 = 0) : 31 - x0 < (((31 - x0 + 1).toNat : Nat) : Int) := by omega
theorem o28_159 {x0 : Int} (h0 : x0 = 0) : x0 ≤ 31 := by omega
theorem o28_160 {x0 x1 : Int} (h0 : 0 ≤ x0) (h1 : x1 = 3) (h2 : x0 ≤ x1) : 0 ≤ x0 := by omega
theorem o28_161 {x0 x1 : Int} (h0 : 0 ≤ x0) (h1 : x1 = 3) (h2 : x0 ≤ x1) : x0 ≤ 3 := by omega
theorem o28_162 {x0 : Int} (h0 : x0 = (-2)) : x0 ≤ 0 := by omega
theorem o28_163 {x0 x1 x2 x3 x4 : Int} (h0 : 0 ≤ x4) (h1 : x4 ≤ 1) (h2 : ((x4 = 0 ∧ (x1 < 0 ∨ 3 < x1)) ∨ (x4 = 1 ∧ 0 ≤ x1 ∧ x1 ≤ 3))) (h3 : x4 = 0) (h4 : x0 = (-2)) : ((x0 = -2 ∧ (x1 < 0 ∨ 3 < x1 ∨ x2 < 0 ∨ 3 < x2)) ∨ (0 ≤ x1 ∧ x1 ≤ 3 ∧ 0 ≤ x2 ∧ x2 ≤ 3 ∧ ((x0 = -3 ∧ (x3 < 0 ∨ 40 < x3)) ∨ (x0 = 0 ∧ 0 ≤ x3 ∧ x3 ≤ 40)))) := by omega
theorem o28_164 {x0 x1 x2 x3 x4 : Int} (h0 : 0 ≤ x4) (h1 : x4 ≤ 1) (h2 : ((x4 = 0 ∧ (x1 < 0 ∨ 3 < x1)) ∨ (x4 = 1 ∧ 0 ≤ x1 ∧ x1 ≤ 3))) (h3 : ¬ x4 = 0) (h4 : x2 < 0) (h5 : x0 = (-2)) : ((x0 = -2 ∧ (x1 < 0 ∨ 3 < x1 ∨ x2 < 0 ∨ 3 < x2)) ∨ (0 ≤ x1 ∧ x1 ≤ 3 ∧ 0 ≤ x2 ∧ x2 ≤ 3 ∧ ((x0 = -3 ∧ (x3 < 0 ∨ 40 < x3)) ∨ (x0 = 0 ∧ 0 ≤ x3 ∧ x3 ≤ 40)))) := by omega
theorem o28_165 {x0 : Int} (h0 : x0 = (-3)) : x0 ≤ 0 := by omega
theorem o28_166 {x0 x1 x2 x3 x4 x5 : Int} (h0 : 0 ≤ x4) (h1 : x4 ≤ 1) (h2 : ((x4 = 0 ∧ (x1 < 0 ∨ 3 < x1)) ∨ (x4 = 1 ∧ 0 ≤ x1 ∧ x1 ≤ 3))) (h3 : ¬ x4 = 0) (h4 : 0 ≤ x2) (h5 : x5 = 3) (h6 : x2 ≤ x5) (h7 : x3 < 0) (h8 : x0 = (-3)) : ((x0 = -2 ∧ (x1 < 0 ∨ 3 < x1 ∨ x2 < 0 ∨ 3 < x2)) ∨ (0 ≤ x1 ∧ x1 ≤ 3 ∧ 0 ≤ x2 ∧ x2 ≤ 3 ∧ ((x0 = -3 ∧ (x3 < 0 ∨ 40 < x3)) ∨ (x0 = 0 ∧ 0 ≤ x3 ∧ x3 ≤ 40)))) := by omega
theorem o28_167 {x0 : Int} (h0 : x0 = 0) : (-3) ≤ x0 := by omega
theorem o28_168 {x0 x1 x2 x3 x4 x5 x6 : Int} (h0 : 0 ≤ x4) (h1 : x4 ≤ 1) (h2 : ((x4 = 0 ∧ (x1 < 0 ∨ 3 < x1)) ∨ (x4 = 1 ∧ 0 ≤ x1 ∧ x1 ≤ 3))) (h3 : ¬ x4 = 0) (h4 : 0 ≤ x2) (h5 : x5 = 3) (h6 : x2 ≤ x5) (h7 : 0 ≤ x3) (h8 : x6 = 40) (h9 : x3 ≤ x6) (h10 : x0 = 0) : ((x0 = -2 ∧ (x1 < 0 ∨ 3 < x1 ∨ x2 < 0 ∨ 3 < x2)) ∨ (0 ≤ x1 ∧ x1 ≤ 3 ∧ 0 ≤ x2 ∧ x2 ≤ 3 ∧ ((x0 = -3 ∧ (x3 < 0 ∨ 40 < x3)) ∨ (x0 = 0 ∧ 0 ≤ x3 ∧ x3 ≤ 40)))) := by omega
theorem o28_169 {x0 x1 x2 x3 x4 x5 x6 : Int} (h0 : 0 ≤ x4) (h1 : x4 ≤ 1) (h2 : ((x4 = 0 ∧ (x1 < 0 ∨ 3 < x1)) ∨ (x4 = 1 ∧ 0 ≤ x1 ∧ x1 ≤ 3))) (h3 : ¬ x4 = 0) (h4 : 0 ≤ x2) (h5 : x5 = 3) (h6 : x2 ≤ x5) (h7 : 0 ≤ x3) (h8 : x6 = 40) (h9 : x6 < x3) (h10 : x0 = (-3)) : ((x0 = -2 ∧ (x1 < 0 ∨ 3 < x1 ∨ x2 < 0 ∨ 3 < x2)) ∨ (0 ≤ x1 ∧ x1 ≤ 3 ∧ 0 ≤ x2 ∧ x2 ≤ 3 ∧ ((x0 = -3 ∧ (x3 < 0 ∨ 40 < x3)) ∨ (x0 = 0 ∧ 0 ≤ x3 ∧ x3 ≤ 40)))) := by omega
theorem o28_170 {x0 x1 x2 x3 x4 x5 : Int} (h0 : 0 ≤ x4) (h1 : x4 ≤ 1) (h2 : ((x4 = 0 ∧ (x1 < 0 ∨ 3 < x1)) ∨ (x4 = 1 ∧ 0 ≤ x1 ∧ x1 ≤ 3))) (h3 : ¬ x4 = 0) (h4 : 0 ≤ x2) (h5 : x5 = 3) (h6 : x5 < x2) (h7 : x0 = (-2)) : ((x0 = -2 ∧ (x1 < 0 ∨ 3 < x1 ∨ x2 < 0 ∨ 3 < x2)) ∨ (0 ≤ x1 ∧ x1 ≤ 3 ∧ 0 ≤ x2 ∧ x2 ≤ 3 ∧ ((x0 = -3 ∧ (x3 < 0 ∨ 40 < x3)) ∨ (x0 = 0 ∧ 0 ≤ x3 ∧ x3 ≤ 40)))) := by omega
theorem o28_171 {x0 x1 x2 : Int} (h0 : (-1) ≤ x1) (h1 : x1 ≤ 40) (h2 : 0 ≤ x1) (h3 : 0 ≤ x0) (h4 : (-1) ≤ x2) (h5 : x2 ≤ 40) (h6 : x2 = x1) (h7 : x0 < x2) : 0 ≤ x0 := by omega
theorem o28_172 {x0 x1 x2 : Int} (h0 : (-1) ≤ x1) (h1 : x1 ≤ 40) (h2 : 0 ≤ x1) (h3 : 0 ≤ x0) (h4 : (-1) ≤ x2) (h5 : x2 ≤ 40) (h6 : x2 = x1) (h7 : x0 < x2) : x0 ≤ 39 := by omega
theorem o28_173 {x0 : Int} (h0 : x0 = (-2)) : (-6) ≤ x0 := by omega
theorem o28_174 {x0 : Int} (h0 : x0 = (-2)) : x0 ≤ 40 := by omega
theorem o28_175 {x0 : Int} (h0 : x0 = (-3)) : (-6) ≤ x0 := by omega
theorem o28_176 {x0 : Int} (h0 : x0 = (-3)) : x0 ≤ 40 := by omega
theorem o28_177 {x0 x1 : Int} (h0 : x0 = 1) (h1 : 0 ≤ x1) (h2 : x1 ≤ 60) (h3 : -2147483648 ≤ x0) (h4 : x0 ≤ 2147483647) (h5 : -2147483648 ≤ x1) (h6 : x1 ≤ 2147483647) : -2147483648 ≤ x0 + x1 := by omega
theorem o28_178 {x0 x1 : Int} (h0 : x0 = 1) (h1 : 0 ≤ x1) (h2 : x1 ≤ 60) (h3 : -2147483648 ≤ x0) (h4 : x0 ≤ 2147483647) (h5 : -2147483648 ≤ x1) (h6 : x1 ≤ 2147483647) : x0 + x1 ≤ 2147483647 := by omega
theorem o28_179 {x0 : Int} (h0 : 0 ≤ x0) (h1 : x0 ≤ 40) (h2 : 40 - x0 < 0) : False := by omega
theorem o28_180 {x0 x1 x2 x3 x4 x5 x6 : Int} {x7 : Nat} (h0 : (-1) ≤ x1) (h1 : x1 ≤ 40) (h2 : 0 ≤ x1) (h3 : (-1) ≤ x2) (h4 : x2 ≤ 40) (h5 : x2 = x1) (h6 : x3 = 1) (h7 : 0 ≤ x4) (h8 : x4 ≤ 60) (h9 : x5 = x3 + x4) (h10 : (x0 = x2 ∧ x2 ≤ x5) ∨ (x0 = x5 ∧ x5 ≤ x2)) (h11 : 0 ≤ x6) (h12 : x6 ≤ 40) (h13 : 40 - x6 < ((x7 + 1 : Nat) : Int)) (h14 : x0 ≤ x6) : (-6) ≤ x0 := by omega
theorem o28_181 {x0 x1 x2 x3 x4 x5 x6 : Int} {x7 : Nat} (h0 : (-1) ≤ x1) (h1 : x1 ≤ 40) (h2 : 0 ≤ x1) (h3 : (-1) ≤ x2) (h4 : x2 ≤ 40) (h5 : x2 = x1) (h6 : x3 = 1) (h7 : 0 ≤ x4) (h8 : x4 ≤ 60) (h9 : x5 = x3 + x4) (h10 : (x0 = x2 ∧ x2 ≤ x5) ∨ (x0 = x5 ∧ x5 ≤ x2)) (h11 : 0 ≤ x6) (h12 : x6 ≤ 40) (h13 : 40 - x6 < ((x7 + 1 : Nat) : Int)) (h14 : x0 ≤ x6) : x0 ≤ 40 := by omega
theorem o28_182 {x0 x1 x2 x3 x4 x5 x6 x7 : Int} {x8 : Nat} (h0 : (-1) ≤ x2) (h1 : x2 ≤ 40) (h2 : 0 ≤ x2) (h3 : (-1) ≤ x3) (h4 : x3 ≤ 40) (h5 : x3 = x2) (h6 : x4 = 1) (h7 : 0 ≤ x5) (h8 : x5 ≤ 60) (h9 : x6 = x4 + x5) (h10 : (x7 = x3 ∧ x3 ≤ x6) ∨ (x7 = x6 ∧ x6 ≤ x3)) (h11 : 0 ≤ x0) (h12 : x0 ≤ 40) (h13 : 40 - x0 < ((x8 + 1 : Nat) : Int)) (h14 : x0 < x7) (h15 : ¬ x0 = 0) (h16 : x1 = 1) (h17 : -2147483648 ≤ x0) (h18 : x0 ≤ 2147483647) (h19 : -2147483648 ≤ x1) (h20 : x1 ≤ 2147483647) (h21 : -2147483648 ≤ x2) (h22 : x2 ≤ 2147483647) (h23 : -2147483648 ≤ x3) (h24 : x3 ≤ 2147483647) (h25 : -2147483648 ≤ x4) (h26 : x4 ≤ 2147483647) (h27 : -2147483648 ≤ x5) (h28 : x5 ≤ 2147483647) (h29 : -2147483648 ≤ x6) (h30 : x6 ≤ 2147483647) (h31 : -2147483648 ≤ x7) (h32 : x7 ≤ 2147483647) : -2147483648 ≤ x0 - x1 := by omega
theorem o28_183 {x0 x1 x2 x3 x4 x5 x6 x7 : Int} {x8 : Nat} (h0 : (-1) ≤ x2) (h1 : x2 ≤ 40) (h2 : 0 ≤ x2) (h3 : (-1) ≤ x3) (h4 : x3 ≤ 40) (h5 : x3 = x2) (h6 : x4 = 1) (h7 : 0 ≤ x5) (h8 : x5 ≤ 60) (h9 : x6 = x4 + x5) (h10 : (x7 = x3 ∧ x3 ≤ x6) ∨ (x7 = x6 ∧ x6 ≤ x3)) (h11 : 0 ≤ x0) (h12 : x0 ≤ 40) (h13 : 40 - x0 < ((x8 + 1 : Nat) : Int)) (h14 : x0 < x7) (h15 : ¬ x0 = 0) (h16 : x1 = 1) (h17 : -2147483648 ≤ x0) (h18 : x0 ≤ 2147483647) (h19 : -2147483648 ≤ x1) (h20 : x1 ≤ 2147483647) (h21 : -2147483648 ≤ x2) (h22 : x2 ≤ 2147483647) (h23 : -2147483648 ≤ x3) (h24 : x3 ≤ 2147483647) (h25 : -2147483648 ≤ x4) (h26 : x4 ≤ 2147483647) (h27 : -2147483648 ≤ x5) (h28 : x5 ≤ 2147483647) (h29 : -2147483648 ≤ x6) (h30 : x6 ≤ 2147483647) (h31 : -2147483648 ≤ x7) (h32 : x7 ≤ 2147483647) : x0 - x1 ≤ 2147483647 := by omega
theorem o28_184 {x0 x1 x2 x3 x4 x5 x6 x8 x9 : Int} {x7 : Nat} (h0 : (-1) ≤ x1) (h1 : x1 ≤ 40) (h2 : 0 ≤ x1) (h3 : (-1) ≤ x2) (h4 : x2 ≤ 40) (h5 : x2 = x1) (h6 : x3 = 1) (h7 : 0 ≤ x4) (h8 : x4 ≤ 60) (h9 : x5 = x3 + x4) (h10 : (x6 = x2 ∧ x2 ≤ x5) ∨ (x6 = x5 ∧ x5 ≤ x2)) (h11 : 0 ≤ x0) (h12 : x0 ≤ 40) (h13 : 40 - x0 < ((x7 + 1 : Nat) : Int)) (h14 : x0 < x6) (h15 : ¬ x0 = 0) (h16 : x8 = 1) (h17 : x9 = x0 - x8) : 0 ≤ x0 := by omega
theorem o28_185 {x0 x1 x2 x3 x4 x5 x6 x8 x9 : Int} {x7 : Nat} (h0 : (-1) ≤ x1) (h1 : x1 ≤ 40) (h2 : 0 ≤ x1) (h3 : (-1) ≤ x2) (h4 : x2 ≤ 40) (h5 : x2 = x1) (h6 : x3 = 1) (h7 : 0 ≤ x4) (h8 : x4 ≤ 60) (h9 : x5 = x3 + x4) (h10 : (x6 = x2 ∧ x2 ≤ x5) ∨ (x6 = x5 ∧ x5 ≤ x2)) (h11 : 0 ≤ x0) (h12 : x0 ≤ 40) (h13 : 40 - x0 < ((x7 + 1 : Nat) : Int)) (h14 : x0 < x6) (h15 : ¬ x0 = 0) (h16 : x8 = 1) (h17 : x9 = x0 - x8) : x0 ≤ 39 := by omega
theorem o28_186 {x0 x1 x2 x3 x4 x5 x6 x8 x9 : Int} {x7 : Nat} (h0 : (-1) ≤ x1) (h1 : x1 ≤ 40) (h2 : 0 ≤ x1) (h3 : (-1) ≤ x2) (h4 : x2 ≤ 40) (h5 : x2 = x1) (h6 : x3 = 1) (h7 : 0 ≤ x4) (h8 : x4 ≤ 60) (h9 : x5 = x3 + x4) (h10 : (x6 = x2 ∧ x2 ≤ x5) ∨ (x6 = x5 ∧ x5 ≤ x2)) (h11 : 0 ≤ x0) (h12 : x0 ≤ 40) (h13 : 40 - x0 < ((x7 + 1 : Nat) : Int)) (h14 : x0 < x6) (h15 : ¬ x0 = 0) (h16 : x8 = 1) (h17 : x9 = x0 - x8) (h18 : -2147483648 ≤ x0) (h19 : x0 ≤ 2147483647) (h20 : -2147483648 ≤ x1) (h21 : x1 ≤ 2147483647) (h22 : -2147483648 ≤ x2) (h23 : x2 ≤ 2147483647) (h24 : -2147483648 ≤ x3) (h25 : x3 ≤ 2147483647) (h26 : -2147483648 ≤ x4) (h27 : x4 ≤ 2147483647) (h28 : -2147483648 ≤ x5) (h29 : x5 ≤ 2147483647) (h30 : -2147483648 ≤ x6) (h31 : x6 ≤ 2147483647) (h32 : -2147483648 ≤ x8) (h33 : x8 ≤ 2147483647) (h34 : -2147483648 ≤ x9) (h35 : x9 ≤ 2147483647) : -2147483648 ≤ x0 + 1 := by omega
theorem o28_187 {x0 x1 x2 x3 x4 x5 x6 x8 x9 : Int} {x7 : Nat} (h0 : (-1) ≤ x1) (h1 : x1 ≤ 40) (h2 : 0 ≤ x1) (h3 : (-1) ≤ x2) (h4 : x2 ≤ 40) (h5 : x2 = x1) (h6 : x3 = 1) (h7 : 0 ≤ x4) (h8 : x4 ≤ 60) (h9 : x5 = x3 + x4) (h10 : (x6 = x2 ∧ x2 ≤ x5) ∨ (x6 = x5 ∧ x5 ≤ x2)) (h11 : 0 ≤ x0) (h12 : x0 ≤ 40) (h13 : 40 - x0 < ((x7 + 1 : Nat) : Int)) (h14 : x0 < x6) (h15 : ¬ x0 = 0) (h16 : x8 = 1) (h17 : x9 = x0 - x8) (h18 : -2147483648 ≤ x0) (h19 : x0 ≤ 2147483647) (h20 : -2147483648 ≤ x1) (h21 : x1 ≤ 2147483647) (h22 : -2147483648 ≤ x2) (h23 : x2 ≤ 2147483647) (h24 : -2147483648 ≤ x3) (h25 : x3 ≤ 2147483647) (h26 : -2147483648 ≤ x4) (h27 : x4 ≤ 2147483647) (h28 : -2147483648 ≤ x5) (h29 : x5 ≤ 2147483647) (h30 : -2147483648 ≤ x6) (h31 : x6 ≤ 2147483647) (h32 : -2147483648 ≤ x8) (h33 : x8 ≤ 2147483647) (h34 : -2147483648 ≤ x9) (h35 : x9 ≤ 2147483647) : x0 + 1 ≤ 2147483647 := by omega
theorem o28_188 {x0 x2 x3 x4 x5 x6 x7 x8 x9 x10 : Int} {x1 : Nat} (h0 : (-1) ≤ x2) (h1 : x2 ≤ 40) (h2 : 0 ≤ x2) (h3 : (-1) ≤ x3) (h4 : x3 ≤ 40) (h5 : x3 = x2) (h6 : x4 = 1) (h7 : 0 ≤ x5) (h8 : x5 ≤ 60) (h9 : x6 = x4 + x5) (h10 : (x7 = x3 ∧ x3 ≤ x6) ∨ (x7 = x6 ∧ x6 ≤ x3)) (h11 : 0 ≤ x8) (h12 : x8 ≤ 40) (h13 : 40 - x8 < ((x1 + 1 : Nat) : Int)) (h14 : x8 < x7) (h15 : ¬ x8 = 0) (h16 : x9 = 1) (h17 : x10 = x8 - x9) (h18 : x0 = x8 + 1) : 40 - x0 < (x1 : Int) := by omega
theorem o28_189 {x0 x1 x2 x3 x4 x5 x6 x7 x9 x10 : Int} {x8 : Nat} (h0 : (-1) ≤ x1) (h1 : x1 ≤ 40) (h2 : 0 ≤ x1) (h3 : (-1) ≤ x2) (h4 : x2 ≤ 40) (h5 : x2 = x1) (h6 : x3 = 1) (h7 : 0 ≤ x4) (h8 : x4 ≤ 60) (h9 : x5 = x3 + x4) (h10 : (x6 = x2 ∧ x2 ≤ x5) ∨ (x6 = x5 ∧ x5 ≤ x2)) (h11 : 0 ≤ x7) (h12 : x7 ≤ 40) (h13 : 40 - x7 < ((x8 + 1 : Nat) : Int)) (h14 : x7 < x6) (h15 : ¬ x7 = 0) (h16 : x9 = 1) (h17 : x10 = x7 - x9) (h18 : x0 = x7 + 1) : 0 ≤ x0 := by omega
theorem o28_190 {x0 x1 x2 x3 x4 x5 x6 x7 x9 x10 : Int} {x8 : Nat} (h0 : (-1) ≤ x1) (h1 : x1 ≤ 40) (h2 : 0 ≤ x1) (h3 : (-1) ≤ x2) (h4 : x2 ≤ 40) (h5 : x2 = x1) (h6 : x3 = 1) (h7 : 0 ≤ x4) (h8 : x4 ≤ 60) (h9 : x5 = x3 + x4) (h10 : (x6 = x2 ∧ x2 ≤ x5) ∨ (x6 = x5 ∧ x5 ≤ x2)) (h11 : 0 ≤ x7) (h12 : x7 ≤ 40) (h13 : 40 - x7 < ((x8 + 1 : Nat) : Int)) (h14 : x7 < x6) (h15 : ¬ x7 = 0) (h16 : x9 = 1) (h17 : x10 = x7 - x9) (h18 : x0 = x7 + 1) : x0 ≤ 40 := by omega
theorem o28_191 {x0 x1 x2 x3 x4 x5 x6 : Int} {x7 : Nat} (h0 : (-1) ≤ x1) (h1 : x1 ≤ 40) (h2 : 0 ≤ x1) (h3 : (-1) ≤ x2) (h4 : x2 ≤ 40) (h5 : x2 = x1) (h6 : x3 = 1) (h7 : 0 ≤ x4) (h8 : x4 ≤ 60) (h9 : x5 = x3 + x4) (h10 : (x6 = x2 ∧ x2 ≤ x5) ∨ (x6 = x5 ∧ x5 ≤ x2)) (h11 : 0 ≤ x0) (h12 : x0 ≤ 40) (h13 : 40 - x0 < ((x7 + 1 : Nat) : Int)) (h14 : x0 < x6) (h15 : x0 = 0) : 0 ≤ x0 := by omega
theorem o28_192 {x0 x1 x2 x3 x4 x5 x6 : Int} {x7 : Nat} (h0 : (-1) ≤ x1) (h1 : x1 ≤ 40) (h2 : 0 ≤ x1) (h3 : (-1) ≤ x2) (h4 : x2 ≤ 40) (h5 : x2 = x1) (h6 : x3 = 1) (h7 : 0 ≤ x4) (h8 : x4 ≤ 60) (h9 : x5 = x3 + x4) (h10 : (x6 = x2 ∧ x2 ≤ x5) ∨ (x6 = x5 ∧ x5 ≤ x2)) (h11 : 0 ≤ x0) (h12 : x0 ≤ 40) (h13 : 40 - x0 < ((x7 + 1 : Nat) : Int)) (h14 : x0 < x6) (h15 : x0 = 0) : x0 ≤ 39 := by omega
theorem o28_193 {x0 x1 x2 x3 x4 x5 x6 : Int} {x7 : Nat} (h0 : (-1) ≤ x1) (h1 : x1 ≤ 40) (h2 : 0 ≤ x1) (h3 : (-1) ≤ x2) (h4 : x2 ≤ 40) (h5 : x2 = x1) (h6 : x3 = 1) (h7 : 0 ≤ x4) (h8 : x4 ≤ 60) (h9 : x5 = x3 + x4) (h10 : (x6 = x2 ∧ x2 ≤ x5) ∨ (x6 = x5 ∧ x5 ≤ x2)) (h11 : 0 ≤ x0) (h12 : x0 ≤ 40) (h13 : 40 - x0 < ((x7 + 1 : Nat) : Int)) (h14 : x0 < x6) (h15 : x0 = 0) (h16 : -2147483648 ≤ x0) (h17 : x0 ≤ 2147483647) (h18 : -2147483648 ≤ x1) (h19 : x1 ≤ 2147483647) (h20 : -2147483648 ≤ x2) (h21 : x2 ≤ 2147483647) (h22 : -2147483648 ≤ x3) (h23 : x3 ≤ 2147483647) (h24 : -2147483648 ≤ x4) (h25 : x4 ≤ 2147483647) (h26 : -2147483648 ≤ x5) (h27 : x5 ≤ 2147483647) (h28 : -2147483648 ≤ x6) (h29 : x6 ≤ 2147483647) : -2147483648 ≤ x0 + 1 := by omega
theorem o28_194 {x0 x1 x2 x3 x4 x5 x6 : Int} {x7 : Nat} (h0 : (-1) ≤ x1) (h1 : x1 ≤ 40) (h2 : 0 ≤ x1) (h3 : (-1) ≤ x2) (h4 : x2 ≤ 40) (h5 : x2 = x1) (h6 : x3 = 1) (h7 : 0 ≤ x4) (h8 : x4 ≤ 60) (h9 : x5 = x3 + x4) (h10 : (x6 = x2 ∧ x2 ≤ x5) ∨ (x6 = x5 ∧ x5 ≤ x2)) (h11 : 0 ≤ x0) (h12 : x0 ≤ 40) (h13 : 40 - x0 < ((x7 + 1 : Nat) : Int)) (h14 : x0 < x6) (h15 : x0 = 0) (h16 : -2147483648 ≤ x0) (h17 : x0 ≤ 2147483647) (h18 : -2147483648 ≤ x1) (h19 : x1 ≤ 2147483647) (h20 : -2147483648 ≤ x2) (h21 : x2 ≤ 2147483647) (h22 : -2147483648 ≤ x3) (h23 : x3 ≤ 2147483647) (h24 : -2147483648 ≤ x4) (h25 : x4 ≤ 2147483647) (h26 : -2147483648 ≤ x5) (h27 : x5 ≤ 2147483647) (h28 : -2147483648 ≤ x6) (h29 : x6 ≤ 2147483647) : x0 + 1 ≤ 2147483647 := by omega
theorem o28_195 {x0 x2 x3 x4 x5 x6 x7 x8 : Int} {x1 : Nat} (h0 : (-1) ≤ x2) (h1 : x2 ≤ 40) (h2 : 0 ≤ x2) (h3 : (-1) ≤ x3) (h4 : x3 ≤ 40) (h5 : x3 = x2) (h6 : x4 = 1) (h7 : 0 ≤ x5) (h8 : x5 ≤ 60) (h9 : x6 = x4 + x5) (h10 : (x7 = x3 ∧ x3 ≤ x6) ∨ (x7 = x6 ∧ x6 ≤ x3)) (h11 : 0 ≤ x8) (h12 : x8 ≤ 40) (h13 : 40 - x8 < ((x1 + 1 : Nat) : Int)) (h14 : x8 < x7) (h15 : x8 = 0) (h16 : x0 = x8 + 1) : 40 - x0 < (x1 : Int) := by omega
theorem o28_196 {x0 x1 x2 x3 x4 x5 x6 x7 : Int} {x8 : Nat} (h0 : (-1) ≤ x1) (h1 : x1 ≤ 40) (h2 : 0 ≤ x1) (h3 : (-1) ≤ x2) (h4 : x2 ≤ 40) (h5 : x2 = x1) (h6 : x3 = 1) (h7 : 0 ≤ x4) (h8 : x4 ≤ 60) (h9 : x5 = x3 + x4) (h10 : (x6 = x2 ∧ x2 ≤ x5) ∨ (x6 = x5 ∧ x5 ≤ x2)) (h11 : 0 ≤ x7) (h12 : x7 ≤ 40) (h13 : 40 - x7 < ((x8 + 1 : Nat) : Int)) (h14 : x7 < x6) (h15 : x7 = 0) (h16 : x0 = x7 + 1) : 0 ≤ x0 := by omega
theorem o28_197 {x0 x1 x2 x3 x4 x5 x6 x7 : Int} {x8 : Nat} (h0 : (-1) ≤ x1) (h1 : x1 ≤ 40) (h2 : 0 ≤ x1) (h3 : (-1) ≤ x2) (h4 : x2 ≤ 40) (h5 : x2 = x1) (h6 : x3 = 1) (h7 : 0 ≤ x4) (h8 : x4 ≤ 60) (h9 : x5 = x3 + x4) (h10 : (x6 = x2 ∧ x2 ≤ x5) ∨ (x6 = x5 ∧ x5 ≤ x2)) (h11 : 0 ≤ x7) (h12 : x7 ≤ 40) (h13 : 40 - x7 < ((x8 + 1 : Nat) : Int)) (h14 : x7 < x6) (h15 : x7 = 0) (h16 : x0 = x7 + 1) : x0 ≤ 40 := by omega
theorem o28_198 {x0 : Int} (h0 : x0 = 0) : 40 - x0 < (((40 - x0 + 1).toNat : Nat) : Int) := by omega
theorem o28_199 {x0 : Int} (h0 : x0 = 0) : x0 ≤ 40 := by omega
theorem o28_200 {x0 : Int} (h0 : x0 = (-5)) : (-6) ≤ x0 := by omega
theorem o28_201 {x0 : Int} (h0 : x0 = (-5)) : x0 ≤ 40 := by omega
theorem o28_202 {x0 : Int} (h0 : x0 = (-6)) : (-6) ≤ x0 := by omega
theorem o28_203 {x0 : Int} (h0 : x0 = (-6)) : x0 ≤ 40 := by omega
theorem o28_204 {x0 x1 : Int} (h0 : x1 < 0) (h1 : x0 = (-2)) : ((x0 = -2 ∧ (x1 < 0 ∨ 1 < x1)) ∨ (x0 = 0 ∧ 0 ≤ x1 ∧ x1 ≤ 1)) := by omega
theorem o28_205 {x0 x1 : Int} (h0 : 0 ≤ x0) (h1 : x1 = 2) (h2 : x0 < x1) : 0 ≤ x0 := by omega
theorem o28_206 {x0 x1 : Int} (h0 : 0 ≤ x0) (h1 : x1 = 2) (h2 : x0 < x1) : x0 < (2 : Nat) := by omega
theorem o28_207 {x0 x1 : Int} (h0 : 0 ≤ x0) (h1 : x1 = 2) (h2 : x0 < x1) : (x0).toNat < 2 := by omega
theorem o28_208 {x0 : Int} (h0 : x0 = 1) : 0 ≤ x0 := by omega
theorem o28_209 {x0 : Int} (h0 : x0 = 1) : x0 ≤ 1 := by omega
theorem o28_210 {x0 : Int} (h0 : x0 = 0) : (-2) ≤ x0 := by omega
theorem o28_211 {x0 x1 x2 : Int} (h0 : 0 ≤ x1) (h1 : x2 = 2) (h2 : x1 < x2) (h3 : x0 = 0) : ((x0 = -2 ∧ (x1 < 0 ∨ 1 < x1)) ∨ (x0 = 0 ∧ 0 ≤ x1 ∧ x1 ≤ 1)) := by omega
theorem o28_212 {x0 x1 x2 : Int} (h0 : 0 ≤ x1) (h1 : x2 = 2) (h2 : x2 ≤ x1) (h3 : x0 = (-2)) : ((x0 = -2 ∧ (x1 < 0 ∨ 1 < x1)) ∨ (x0 = 0 ∧ 0 ≤ x1 ∧ x1 ≤ 1)) := by omega
theorem o28_213 {x0 : Int} (h0 : x0 = (-2)) : (-5) ≤ x0 := by omega
theorem o28_214 {x0 : Int} (h0 : x0 = 0) : (-5) ≤ x0 := by omega
theorem o28_215 {x0 : Int} (h0 : x0 = (-5)) : (-5) ≤ x0 := by omega
theorem o28_216 {x0 : Int} (h0 : x0 = (-5)) : x0 ≤ 0 := by omega
set_option maxHeartbeats 4000000 in
set_option maxRecDepth 100000 in
theorem c_X11_way (l : Launch) (G : GG) (Z : RZ) (ad : Nat → Nat) (ws0 : va_W) (hT : Ty G (SC tt) ad ws0) (a1 : Int32) (a2 : Int32) (a3 : Int32) (hR : Rel ws0) (hH : Hok ws0) : Mq l yX11_way cX11_way 4 (some .int) 7 G Z [.ref (ad 0), .int a1, .int a2, .int a3] ws0 (PI G (SC tt) ad [4, 5, 18, 19, 20, 21, 22, 23] ws0 (fun r u => ((-3) ≤ r.toInt) ∧ (r.toInt ≤ 60) ∧ (Rel u) ∧ (Hok u))) := by
  refine Mq.start (by decide) (Nat.le_of_ble_eq_true rfl) ?_
  intro p e s m below meth c A ls C0 hZ h hl
  have hl : lv_has ls 4 [(0, .ref (ad 0)), (1, .int a1), (2, .int a2), (3, .int a3)] := hl
  have h : Wt G (SC tt) ad A s s.heap [] ws0 := ⟨h, hT⟩
  obtain ⟨args, hargs⟩ : ∃ z, z = ([.ref (ad 0), .int a1, .int a2, .int a3] : List Value).toArray := ⟨_, rfl⟩
  rw [← hargs] at C0 ⊢
  have C0 : Cx p s m args meth c RX11 cX11_way 4 (some .int) := C0
  obtain ⟨Q, hQ⟩ : ∃ z, z = MQ below ((PI G (SC tt) ad [4, 5, 18, 19, 20, 21, 22, 23] ws0 (fun r u => ((-3) ≤ r.toInt) ∧ (r.toInt ≤ 60) ∧ (Rel u) ∧ (Hok u))) A) args s 0 0 A := ⟨_, rfl⟩
  rw [← hQ]
  refine lv_aload_n C0.1 C0.2.1 dX11_way_0 rfl (lv_at hl 0 rfl) ?_
  refine lv_iload_n C0.1 C0.2.1 dX11_way_1 rfl (lv_at hl 1 rfl) ?_
  refine y_ci h (y_rV (As := [.int a1]) (rest := []) C0 hZ h (c_X11_isPerson l G Z ad _ h.2 a1) k_X11_isPerson q_903 q_23 q_901 kSC_0 rfl rfl rfl hl.1 rfl rfl (Nat.le_of_ble_eq_true rfl) dX11_way_2 ⟨Nat.le_of_ble_eq_true rfl, Nat.le_of_ble_eq_true rfl⟩ ⟨Nat.le_of_ble_eq_true rfl, Nat.le_of_ble_eq_true rfl⟩) (fun r_4 H locs ws_1 h u_2 p_3 => ?_)
  obtain ⟨e_5, e_6, e_7⟩ := p_3
  refine y_if_eq (tgt := 16) C0 dX11_way_5 (by decide) (fun c_8 => ?_) (fun c_8 => ?_)
  · -- 5
    refine y_c2 (n := (-2)) C0 (by decide) dX11_way_16 (fun v_9 e_10 => ?_)
    rw [hQ]
    exact y_iret C0 h (Fr.mono u_2 (by decide)) ⟨(o28_1 e_10), (o28_2 e_10), (Rel.fr (M := []) hR u_2 (by decide) (by decide)), (Hok.fr (M := []) hH u_2 (by decide))⟩ dX11_way_18
  · -- 5
    refine lv_aload_n C0.1 C0.2.1 dX11_way_8 rfl (lv_at hl 0 rfl) ?_
    refine lv_iload_n C0.1 C0.2.1 dX11_way_9 rfl (lv_at hl 2 rfl) ?_
    refine y_ci h (y_rV (As := [.int a2]) (rest := []) C0 hZ h (c_X11_isCrossing l G Z ad _ h.2 a2) k_X11_isCrossing q_915 q_25 q_913 kSC_0 rfl rfl rfl hl.1 rfl rfl (Nat.le_of_ble_eq_true rfl) dX11_way_10 ⟨Nat.le_of_ble_eq_true rfl, Nat.le_of_ble_eq_true rfl⟩ ⟨Nat.le_of_ble_eq_true rfl, Nat.le_of_ble_eq_true rfl⟩) (fun r_14 H locs ws_11 h u_12 p_13 => ?_)
    obtain ⟨e_15, e_16, e_17⟩ := p_13
    refine y_if_ne (tgt := 19) C0 dX11_way_13 (by decide) (fun c_18 => ?_) (fun c_18 => ?_)
    · -- 13
      refine lv_iload_n C0.1 C0.2.1 dX11_way_19 rfl (lv_at hl 3 rfl) ?_
      refine y_if_lt (tgt := 29) C0 dX11_way_20 (by decide) (fun c_19 => ?_) (fun c_19 => ?_)
      · -- 20
        refine y_c2 (n := (-3)) C0 (by decide) dX11_way_29 (fun v_20 e_21 => ?_)
        rw [hQ]
        exact y_iret C0 h (Fr.tr (Fr.mono u_2 (by decide)) (Fr.mono u_12 (by decide))) ⟨(o28_3 e_21), (o28_4 e_21), (Rel.fr (M := []) hR (Fr.tr u_2 u_12) (by decide) (by decide)), (Hok.fr (M := []) hH (Fr.tr u_2 u_12) (by decide))⟩ dX11_way_31
      · -- 20
        refine lv_iload_n C0.1 C0.2.1 dX11_way_23 rfl (lv_at hl 3 rfl) ?_
        refine y_c2 (n := 120) C0 (by decide) dX11_way_24 (fun v_22 e_23 => ?_)
        refine y_icmp_le (tgt := 32) C0 dX11_way_26 (by decide) (fun c_24 => ?_) (fun c_24 => ?_)
        · -- 26
          refine lv_aload_n C0.1 C0.2.1 dX11_way_32 rfl (lv_at hl 0 rfl) ?_
          refine tg_X11_spread C0 h kSC_0 q_522 dX11_way_33 ?_
          refine lv_aload_n C0.1 C0.2.1 dX11_way_36 rfl (lv_at hl 0 rfl) ?_
          refine tg_X11_now C0 h kSC_0 q_515 dX11_way_37 ?_
          refine tg_X0_folk C0 h kSC_1 q_249 dX11_way_40 ?_
          refine lv_iload_n C0.1 C0.2.1 dX11_way_43 rfl (lv_at hl 1 rfl) ?_
          refine y_ci h (y_rV (As := [.int a1]) (rest := [.ref (ad 83)]) C0 hZ h (c_X1_stand l G Z ad _ h.2 10 kSC_10 a1 (o28_5 e_5 e_6 e_7 c_8) (o28_6 e_5 e_6 e_7 c_8)) k_X1_stand q_1071 q_1072 q_1070 kSC_10 rfl rfl rfl hl.1 rfl rfl (Nat.le_of_ble_eq_true rfl) dX11_way_44 ⟨Nat.le_of_ble_eq_true rfl, Nat.le_of_ble_eq_true rfl⟩ ⟨Nat.le_of_ble_eq_true rfl, Nat.le_of_ble_eq_true rfl⟩) (fun r_28 H locs ws_25 h u_26 p_27 => ?_)
          obtain ⟨e_29, e_30⟩ := p_27
          refine lv_iload_n C0.1 C0.2.1 dX11_way_47 rfl (lv_at hl 2 rfl) ?_
          refine lv_iload_n C0.1 C0.2.1 dX11_way_48 rfl (lv_at hl 3 rfl) ?_
          refine y_c2 (n := 60) C0 (by decide) dX11_way_49 (fun v_31 e_32 => ?_)
          refine y_c1 (n := 0) C0 (by decide) dX11_way_51 (fun v_33 e_34 => ?_)
          refine y_ci h (y_rV (As := [.int r_28, .int a2, .int a3, .int v_31, .int v_33]) (rest := []) C0 hZ h (c_X8_fewestStreets l G Z ad _ h.2 r_28 a2 a3 v_31 v_33 (o28_7 e_29 e_30) (o28_8 e_29 e_30) (o28_9 c_19 e_23 c_24) (o28_10 c_19 e_23 c_24) (o28_11 e_32) (o28_12 e_32)) k_X8_fewestStreets q_1075 q_1076 q_1074 kSC_83 rfl rfl rfl hl.1 rfl rfl (Nat.le_of_ble_eq_true rfl) dX11_way_52 ⟨Nat.le_of_ble_eq_true rfl, Nat.le_of_ble_eq_true rfl⟩ ⟨Nat.le_of_ble_eq_true rfl, Nat.le_of_ble_eq_true rfl⟩) (fun r_38 H locs ws_35 h u_36 p_37 => ?_)
          obtain ⟨e_39, e_40⟩ := p_37
          rw [hQ]
          exact y_iret C0 h (Fr.tr (Fr.tr (Fr.tr (Fr.mono u_2 (by decide)) (Fr.mono u_12 (by decide))) (Fr.mono u_26 (by decide))) u_36) ⟨(o28_13 e_39 e_40), (o28_14 e_39 e_40), (Rel.fr (M := [4, 5, 18, 19, 20, 21, 22, 23]) hR (Fr.tr (Fr.tr (Fr.tr (Fr.mono u_2 (by decide)) (Fr.mono u_12 (by decide))) (Fr.mono u_26 (by decide))) u_36) (by decide) (by decide)), (Hok.fr (M := [4, 5, 18, 19, 20, 21, 22, 23]) hH (Fr.tr (Fr.tr (Fr.tr (Fr.mono u_2 (by decide)) (Fr.mono u_12 (by decide))) (Fr.mono u_26 (by decide))) u_36) (by decide))⟩ dX11_way_55
        · -- 26
          refine y_c2 (n := (-3)) C0 (by decide) dX11_way_29 (fun v_41 e_42 => ?_)
          rw [hQ]
          exact y_iret C0 h (Fr.tr (Fr.mono u_2 (by decide)) (Fr.mono u_12 (by decide))) ⟨(o28_3 e_42), (o28_4 e_42), (Rel.fr (M := []) hR (Fr.tr u_2 u_12) (by decide) (by decide)), (Hok.fr (M := []) hH (Fr.tr u_2 u_12) (by decide))⟩ dX11_way_31
    · -- 13
      refine y_c2 (n := (-2)) C0 (by decide) dX11_way_16 (fun v_43 e_44 => ?_)
      rw [hQ]
      exact y_iret C0 h (Fr.tr (Fr.mono u_2 (by decide)) (Fr.mono u_12 (by decide))) ⟨(o28_1 e_44), (o28_2 e_44), (Rel.fr (M := []) hR (Fr.tr u_2 u_12) (by decide) (by decide)), (Hok.fr (M := []) hH (Fr.tr u_2 u_12) (by decide))⟩ dX11_way_18
set_option maxHeartbeats 4000000 in
set_option maxRecDepth 100000 in
theorem c_X11_turn (l : Launch) (G : GG) (Z : RZ) (ad : Nat → Nat) (ws0 : va_W) (hT : Ty G (SC tt) ad ws0) (a1 : Int32) (a2 : Int32) (a3 : Int32) (a4 : Int32) (hR : Rel ws0) (hH : Hok ws0) : Mq l yX11_turn cX11_turn 5 (some .int) 8 G Z [.ref (ad 0), .int a1, .int a2, .int a3, .int a4] ws0 (PI G (SC tt) ad [4, 5, 18, 19, 20, 21, 22, 23, 25, 26, 27] ws0 (fun r u => (Rel u) ∧ (Hok u))) := by
  refine Mq.start (by decide) (Nat.le_of_ble_eq_true rfl) ?_
  intro p e s m below meth c A ls C0 hZ h hl
  have hl : lv_has ls 5 [(0, .ref (ad 0)), (1, .int a1), (2, .int a2), (3, .int a3), (4, .int a4)] := hl
  have h : Wt G (SC tt) ad A s s.heap [] ws0 := ⟨h, hT⟩
  obtain ⟨args, hargs⟩ : ∃ z, z = ([.ref (ad 0), .int a1, .int a2, .int a3, .int a4] : List Value).toArray := ⟨_, rfl⟩
  rw [← hargs] at C0 ⊢
  have C0 : Cx p s m args meth c RX11 cX11_turn 5 (some .int) := C0
  obtain ⟨Q, hQ⟩ : ∃ z, z = MQ below ((PI G (SC tt) ad [4, 5, 18, 19, 20, 21, 22, 23, 25, 26, 27] ws0 (fun r u => (Rel u) ∧ (Hok u))) A) args s 0 0 A := ⟨_, rfl⟩
  rw [← hQ]
  refine lv_aload_n C0.1 C0.2.1 dX11_turn_0 rfl (lv_at hl 0 rfl) ?_
  refine lv_iload_n C0.1 C0.2.1 dX11_turn_1 rfl (lv_at hl 1 rfl) ?_
  refine y_ci h (y_rV (As := [.int a1]) (rest := []) C0 hZ h (c_X11_isPerson l G Z ad _ h.2 a1) k_X11_isPerson q_903 q_23 q_901 kSC_0 rfl rfl rfl hl.1 rfl rfl (Nat.le_of_ble_eq_true rfl) dX11_turn_2 ⟨Nat.le_of_ble_eq_true rfl, Nat.le_of_ble_eq_true rfl⟩ ⟨Nat.le_of_ble_eq_true rfl, Nat.le_of_ble_eq_true rfl⟩) (fun r_4 H locs ws_1 h u_2 p_3 => ?_)
  obtain ⟨e_5, e_6, e_7⟩ := p_3
  refine y_if_eq (tgt := 16) C0 dX11_turn_5 (by decide) (fun c_8 => ?_) (fun c_8 => ?_)
  · -- 5
    refine y_c2 (n := (-2)) C0 (by decide) dX11_turn_16 (fun v_9 e_10 => ?_)
    rw [hQ]
    exact y_iret C0 h (Fr.mono u_2 (by decide)) ⟨(Rel.fr (M := []) hR u_2 (by decide) (by decide)), (Hok.fr (M := []) hH u_2 (by decide))⟩ dX11_turn_18
  · -- 5
    refine lv_aload_n C0.1 C0.2.1 dX11_turn_8 rfl (lv_at hl 0 rfl) ?_
    refine lv_iload_n C0.1 C0.2.1 dX11_turn_9 rfl (lv_at hl 2 rfl) ?_
    refine y_ci h (y_rV (As := [.int a2]) (rest := []) C0 hZ h (c_X11_isCrossing l G Z ad _ h.2 a2) k_X11_isCrossing q_915 q_25 q_913 kSC_0 rfl rfl rfl hl.1 rfl rfl (Nat.le_of_ble_eq_true rfl) dX11_turn_10 ⟨Nat.le_of_ble_eq_true rfl, Nat.le_of_ble_eq_true rfl⟩ ⟨Nat.le_of_ble_eq_true rfl, Nat.le_of_ble_eq_true rfl⟩) (fun r_14 H locs ws_11 h u_12 p_13 => ?_)
    obtain ⟨e_15, e_16, e_17⟩ := p_13
    refine y_if_ne (tgt := 19) C0 dX11_turn_13 (by decide) (fun c_18 => ?_) (fun c_18 => ?_)
    · -- 13
      refine lv_iload_n C0.1 C0.2.1 dX11_turn_19 rfl (lv_at hl 3 rfl) ?_
      refine y_if_lt (tgt := 34) C0 dX11_turn_20 (by decide) (fun c_19 => ?_) (fun c_19 => ?_)
      · -- 20
        refine y_c2 (n := (-3)) C0 (by decide) dX11_turn_34 (fun v_20 e_21 => ?_)
        rw [hQ]
        exact y_iret C0 h (Fr.tr (Fr.mono u_2 (by decide)) (Fr.mono u_12 (by decide))) ⟨(Rel.fr (M := []) hR (Fr.tr u_2 u_12) (by decide) (by decide)), (Hok.fr (M := []) hH (Fr.tr u_2 u_12) (by decide))⟩ dX11_turn_36
      · -- 20
        refine lv_iload_n C0.1 C0.2.1 dX11_turn_23 rfl (lv_at hl 3 rfl) ?_
        refine y_c2 (n := 120) C0 (by decide) dX11_turn_24 (fun v_22 e_23 => ?_)
        refine y_icmp_gt (tgt := 34) C0 dX11_turn_26 (by decide) (fun c_24 => ?_) (fun c_24 => ?_)
        · -- 26
          refine y_c2 (n := (-3)) C0 (by decide) dX11_turn_34 (fun v_25 e_26 => ?_)
          rw [hQ]
          exact y_iret C0 h (Fr.tr (Fr.mono u_2 (by decide)) (Fr.mono u_12 (by decide))) ⟨(Rel.fr (M := []) hR (Fr.tr u_2 u_12) (by decide) (by decide)), (Hok.fr (M := []) hH (Fr.tr u_2 u_12) (by decide))⟩ dX11_turn_36
        · -- 26
          refine lv_iload C0.1 C0.2.1 dX11_turn_29 (lv_at hl 4 rfl) ?_
          refine y_if_ge (tgt := 37) C0 dX11_turn_31 (by decide) (fun c_27 => ?_) (fun c_27 => ?_)
          · -- 31
            refine lv_aload_n C0.1 C0.2.1 dX11_turn_37 rfl (lv_at hl 0 rfl) ?_
            refine tg_X11_routes C0 h kSC_0 q_519 dX11_turn_38 ?_
            refine lv_aload_n C0.1 C0.2.1 dX11_turn_41 rfl (lv_at hl 0 rfl) ?_
            refine tg_X11_now C0 h kSC_0 q_515 dX11_turn_42 ?_
            refine tg_X0_folk C0 h kSC_1 q_249 dX11_turn_45 ?_
            refine lv_iload_n C0.1 C0.2.1 dX11_turn_48 rfl (lv_at hl 1 rfl) ?_
            refine y_ci h (y_rV (As := [.int a1]) (rest := [.ref (ad 87)]) C0 hZ h (c_X1_stand l G Z ad _ h.2 10 kSC_10 a1 (o28_5 e_5 e_6 e_7 c_8) (o28_6 e_5 e_6 e_7 c_8)) k_X1_stand q_1071 q_1072 q_1070 kSC_10 rfl rfl rfl hl.1 rfl rfl (Nat.le_of_ble_eq_true rfl) dX11_turn_49 ⟨Nat.le_of_ble_eq_true rfl, Nat.le_of_ble_eq_true rfl⟩ ⟨Nat.le_of_ble_eq_true rfl, Nat.le_of_ble_eq_true rfl⟩) (fun r_31 H locs ws_28 h u_29 p_30 => ?_)
            obtain ⟨e_32, e_33⟩ := p_30
            refine lv_iload_n C0.1 C0.2.1 dX11_turn_52 rfl (lv_at hl 2 rfl) ?_
            refine lv_iload_n C0.1 C0.2.1 dX11_turn_53 rfl (lv_at hl 3 rfl) ?_
            refine y_ci h (y_rV (As := [.int r_31, .int a2, .int a3]) (rest := []) C0 hZ h (c_X7_shortest l G Z ad _ h.2 r_31 a2 a3 (o28_7 e_32 e_33) (o28_8 e_32 e_33) (o28_9 c_19 e_23 c_24) (o28_10 c_19 e_23 c_24) (Rel.fr (M := []) hR (Fr.tr (Fr.tr u_2 u_12) u_29) (by decide) (by decide))) k_X7_shortest q_1149 q_1150 q_1148 kSC_87 rfl rfl rfl hl.1 rfl rfl (Nat.le_of_ble_eq_true rfl) dX11_turn_54 ⟨Nat.le_of_ble_eq_true rfl, Nat.le_of_ble_eq_true rfl⟩ ⟨Nat.le_of_ble_eq_true rfl, Nat.le_of_ble_eq_true rfl⟩) (fun r_37 H locs ws_34 h u_35 p_36 => ?_)
            obtain ⟨e_38, e_39⟩ := p_36
            refine y_if_ne (tgt := 62) C0 dX11_turn_57 (by decide) (fun c_40 => ?_) (fun c_40 => ?_)
            · -- 57
              refine lv_aload_n C0.1 C0.2.1 dX11_turn_62 rfl (lv_at hl 0 rfl) ?_
              refine tg_X11_routes C0 h kSC_0 q_519 dX11_turn_63 ?_
              refine lv_iload C0.1 C0.2.1 dX11_turn_66 (lv_at hl 4 rfl) ?_
              refine y_ci h (y_rV (As := [.int a4]) (rest := []) C0 hZ h (c_X7_turnAt l G Z ad _ h.2 a4) k_X7_turnAt q_1195 q_1196 q_1194 kSC_87 rfl rfl rfl hl.1 rfl rfl (Nat.le_of_ble_eq_true rfl) dX11_turn_68 ⟨Nat.le_of_ble_eq_true rfl, Nat.le_of_ble_eq_true rfl⟩ ⟨Nat.le_of_ble_eq_true rfl, Nat.le_of_ble_eq_true rfl⟩) (fun r_44 H locs ws_41 h u_42 p_43 => ?_)
              rw [hQ]
              exact y_iret C0 h (Fr.tr (Fr.tr (Fr.tr (Fr.tr (Fr.mono u_2 (by decide)) (Fr.mono u_12 (by decide))) (Fr.mono u_29 (by decide))) u_35) (Fr.mono u_42 (by decide))) ⟨(Rel.fr (M := [4, 5, 18, 19, 20, 21, 22, 23, 25, 26, 27]) hR (Fr.tr (Fr.tr (Fr.tr (Fr.tr (Fr.mono u_2 (by decide)) (Fr.mono u_12 (by decide))) (Fr.mono u_29 (by decide))) u_35) (Fr.mono u_42 (by decide))) (by decide) (by decide)), (Hok.fr (M := [4, 5, 18, 19, 20, 21, 22, 23, 25, 26, 27]) hH (Fr.tr (Fr.tr (Fr.tr (Fr.tr (Fr.mono u_2 (by decide)) (Fr.mono u_12 (by decide))) (Fr.mono u_29 (by decide))) u_35) (Fr.mono u_42 (by decide))) (by decide))⟩ dX11_turn_71
            · -- 57
              refine y_c1 (n := (-1)) C0 (by decide) dX11_turn_60 (fun v_45 e_46 => ?_)
              rw [hQ]
              exact y_iret C0 h (Fr.tr (Fr.tr (Fr.tr (Fr.mono u_2 (by decide)) (Fr.mono u_12 (by decide))) (Fr.mono u_29 (by decide))) u_35) ⟨(Rel.fr (M := [4, 5, 18, 19, 20, 21, 22, 23, 25, 26, 27]) hR (Fr.tr (Fr.tr (Fr.tr (Fr.mono u_2 (by decide)) (Fr.mono u_12 (by decide))) (Fr.mono u_29 (by decide))) u_35) (by decide) (by decide)), (Hok.fr (M := [4, 5, 18, 19, 20, 21, 22, 23, 25, 26, 27]) hH (Fr.tr (Fr.tr (Fr.tr (Fr.mono u_2 (by decide)) (Fr.mono u_12 (by decide))) (Fr.mono u_29 (by decide))) u_35) (by decide))⟩ dX11_turn_61
          · -- 31
            refine y_c2 (n := (-3)) C0 (by decide) dX11_turn_34 (fun v_47 e_48 => ?_)
            rw [hQ]
            exact y_iret C0 h (Fr.tr (Fr.mono u_2 (by decide)) (Fr.mono u_12 (by decide))) ⟨(Rel.fr (M := []) hR (Fr.tr u_2 u_12) (by decide) (by decide)), (Hok.fr (M := []) hH (Fr.tr u_2 u_12) (by decide))⟩ dX11_turn_36
    · -- 13
      refine y_c2 (n := (-2)) C0 (by decide) dX11_turn_16 (fun v_49 e_50 => ?_)
      rw [hQ]
      exact y_iret C0 h (Fr.tr (Fr.mono u_2 (by decide)) (Fr.mono u_12 (by decide))) ⟨(Rel.fr (M := []) hR (Fr.tr u_2 u_12) (by decide) (by decide)), (Hok.fr (M := []) hH (Fr.tr u_2 u_12) (by decide))⟩ dX11_turn_18
set_option maxHeartbeats 4000000 in
set_option maxRecDepth 100000 in
theorem c_X11_fewest (l : Launch) (G : GG) (Z : RZ) (ad : Nat → Nat) (ws0 : va_W) (hT : Ty G (SC tt) ad ws0) (a1 : Int32) (a2 : Int32) (a3 : Int32) (hR : Rel ws0) (hH : Hok ws0) : Mq l yX11_fewest cX11_fewest 4 (some .int) 7 G Z [.ref (ad 0), .int a1, .int a2, .int a3] ws0 (PI G (SC tt) ad [4, 5, 18, 19, 20, 21, 22, 23] ws0 (fun r u => ((-3) ≤ r.toInt) ∧ (r.toInt ≤ 120) ∧ (Rel u) ∧ (Hok u))) := by
  refine Mq.start (by decide) (Nat.le_of_ble_eq_true rfl) ?_
  intro p e s m below meth c A ls C0 hZ h hl
  have hl : lv_has ls 4 [(0, .ref (ad 0)), (1, .int a1), (2, .int a2), (3, .int a3)] := hl
  have h : Wt G (SC tt) ad A s s.heap [] ws0 := ⟨h, hT⟩
  obtain ⟨args, hargs⟩ : ∃ z, z = ([.ref (ad 0), .int a1, .int a2, .int a3] : List Value).toArray := ⟨_, rfl⟩
  rw [← hargs] at C0 ⊢
  have C0 : Cx p s m args meth c RX11 cX11_fewest 4 (some .int) := C0
  obtain ⟨Q, hQ⟩ : ∃ z, z = MQ below ((PI G (SC tt) ad [4, 5, 18, 19, 20, 21, 22, 23] ws0 (fun r u => ((-3) ≤ r.toInt) ∧ (r.toInt ≤ 120) ∧ (Rel u) ∧ (Hok u))) A) args s 0 0 A := ⟨_, rfl⟩
  rw [← hQ]
  refine lv_aload_n C0.1 C0.2.1 dX11_fewest_0 rfl (lv_at hl 0 rfl) ?_
  refine lv_iload_n C0.1 C0.2.1 dX11_fewest_1 rfl (lv_at hl 1 rfl) ?_
  refine y_ci h (y_rV (As := [.int a1]) (rest := []) C0 hZ h (c_X11_isPerson l G Z ad _ h.2 a1) k_X11_isPerson q_903 q_23 q_901 kSC_0 rfl rfl rfl hl.1 rfl rfl (Nat.le_of_ble_eq_true rfl) dX11_fewest_2 ⟨Nat.le_of_ble_eq_true rfl, Nat.le_of_ble_eq_true rfl⟩ ⟨Nat.le_of_ble_eq_true rfl, Nat.le_of_ble_eq_true rfl⟩) (fun r_4 H locs ws_1 h u_2 p_3 => ?_)
  obtain ⟨e_5, e_6, e_7⟩ := p_3
  refine y_if_eq (tgt := 16) C0 dX11_fewest_5 (by decide) (fun c_8 => ?_) (fun c_8 => ?_)
  · -- 5
    refine y_c2 (n := (-2)) C0 (by decide) dX11_fewest_16 (fun v_9 e_10 => ?_)
    rw [hQ]
    exact y_iret C0 h (Fr.mono u_2 (by decide)) ⟨(o28_1 e_10), (o28_15 e_10), (Rel.fr (M := []) hR u_2 (by decide) (by decide)), (Hok.fr (M := []) hH u_2 (by decide))⟩ dX11_fewest_18
  · -- 5
    refine lv_aload_n C0.1 C0.2.1 dX11_fewest_8 rfl (lv_at hl 0 rfl) ?_
    refine lv_iload_n C0.1 C0.2.1 dX11_fewest_9 rfl (lv_at hl 2 rfl) ?_
    refine y_ci h (y_rV (As := [.int a2]) (rest := []) C0 hZ h (c_X11_isCrossing l G Z ad _ h.2 a2) k_X11_isCrossing q_915 q_25 q_913 kSC_0 rfl rfl rfl hl.1 rfl rfl (Nat.le_of_ble_eq_true rfl) dX11_fewest_10 ⟨Nat.le_of_ble_eq_true rfl, Nat.le_of_ble_eq_true rfl⟩ ⟨Nat.le_of_ble_eq_true rfl, Nat.le_of_ble_eq_true rfl⟩) (fun r_14 H locs ws_11 h u_12 p_13 => ?_)
    obtain ⟨e_15, e_16, e_17⟩ := p_13
    refine y_if_ne (tgt := 19) C0 dX11_fewest_13 (by decide) (fun c_18 => ?_) (fun c_18 => ?_)
    · -- 13
      refine lv_iload_n C0.1 C0.2.1 dX11_fewest_19 rfl (lv_at hl 3 rfl) ?_
      refine y_if_lt (tgt := 29) C0 dX11_fewest_20 (by decide) (fun c_19 => ?_) (fun c_19 => ?_)
      · -- 20
        refine y_c2 (n := (-3)) C0 (by decide) dX11_fewest_29 (fun v_20 e_21 => ?_)
        rw [hQ]
        exact y_iret C0 h (Fr.tr (Fr.mono u_2 (by decide)) (Fr.mono u_12 (by decide))) ⟨(o28_3 e_21), (o28_16 e_21), (Rel.fr (M := []) hR (Fr.tr u_2 u_12) (by decide) (by decide)), (Hok.fr (M := []) hH (Fr.tr u_2 u_12) (by decide))⟩ dX11_fewest_31
      · -- 20
        refine lv_iload_n C0.1 C0.2.1 dX11_fewest_23 rfl (lv_at hl 3 rfl) ?_
        refine y_c2 (n := 60) C0 (by decide) dX11_fewest_24 (fun v_22 e_23 => ?_)
        refine y_icmp_le (tgt := 32) C0 dX11_fewest_26 (by decide) (fun c_24 => ?_) (fun c_24 => ?_)
        · -- 26
          refine lv_aload_n C0.1 C0.2.1 dX11_fewest_32 rfl (lv_at hl 0 rfl) ?_
          refine tg_X11_spread C0 h kSC_0 q_522 dX11_fewest_33 ?_
          refine lv_aload_n C0.1 C0.2.1 dX11_fewest_36 rfl (lv_at hl 0 rfl) ?_
          refine tg_X11_now C0 h kSC_0 q_515 dX11_fewest_37 ?_
          refine tg_X0_folk C0 h kSC_1 q_249 dX11_fewest_40 ?_
          refine lv_iload_n C0.1 C0.2.1 dX11_fewest_43 rfl (lv_at hl 1 rfl) ?_
          refine y_ci h (y_rV (As := [.int a1]) (rest := [.ref (ad 83)]) C0 hZ h (c_X1_stand l G Z ad _ h.2 10 kSC_10 a1 (o28_5 e_5 e_6 e_7 c_8) (o28_6 e_5 e_6 e_7 c_8)) k_X1_stand q_1071 q_1072 q_1070 kSC_10 rfl rfl rfl hl.1 rfl rfl (Nat.le_of_ble_eq_true rfl) dX11_fewest_44 ⟨Nat.le_of_ble_eq_true rfl, Nat.le_of_ble_eq_true rfl⟩ ⟨Nat.le_of_ble_eq_true rfl, Nat.le_of_ble_eq_true rfl⟩) (fun r_28 H locs ws_25 h u_26 p_27 => ?_)
          obtain ⟨e_29, e_30⟩ := p_27
          refine y_c1 (n := 0) C0 (by decide) dX11_fewest_47 (fun v_31 e_32 => ?_)
          refine lv_iload_n C0.1 C0.2.1 dX11_fewest_48 rfl (lv_at hl 2 rfl) ?_
          refine lv_iload_n C0.1 C0.2.1 dX11_fewest_49 rfl (lv_at hl 3 rfl) ?_
          refine y_c1 (n := 0) C0 (by decide) dX11_fewest_50 (fun v_33 e_34 => ?_)
          refine y_ci h (y_rV (As := [.int r_28, .int v_31, .int a2, .int a3, .int v_33]) (rest := []) C0 hZ h (c_X8_fewestLefts l G Z ad _ h.2 r_28 v_31 a2 a3 v_33 (o28_7 e_29 e_30) (o28_8 e_29 e_30) (o28_17 e_32) (o28_18 e_32) (o28_19 c_19 e_23 c_24) (o28_20 c_19 e_23 c_24)) k_X8_fewestLefts q_1203 q_1204 q_1202 kSC_83 rfl rfl rfl hl.1 rfl rfl (Nat.le_of_ble_eq_true rfl) dX11_fewest_51 ⟨Nat.le_of_ble_eq_true rfl, Nat.le_of_ble_eq_true rfl⟩ ⟨Nat.le_of_ble_eq_true rfl, Nat.le_of_ble_eq_true rfl⟩) (fun r_38 H locs ws_35 h u_36 p_37 => ?_)
          obtain ⟨e_39, e_40⟩ := p_37
          rw [hQ]
          exact y_iret C0 h (Fr.tr (Fr.tr (Fr.tr (Fr.mono u_2 (by decide)) (Fr.mono u_12 (by decide))) (Fr.mono u_26 (by decide))) u_36) ⟨(o28_21 e_39 e_40), (o28_22 e_39 e_40), (Rel.fr (M := [4, 5, 18, 19, 20, 21, 22, 23]) hR (Fr.tr (Fr.tr (Fr.tr (Fr.mono u_2 (by decide)) (Fr.mono u_12 (by decide))) (Fr.mono u_26 (by decide))) u_36) (by decide) (by decide)), (Hok.fr (M := [4, 5, 18, 19, 20, 21, 22, 23]) hH (Fr.tr (Fr.tr (Fr.tr (Fr.mono u_2 (by decide)) (Fr.mono u_12 (by decide))) (Fr.mono u_26 (by decide))) u_36) (by decide))⟩ dX11_fewest_54
        · -- 26
          refine y_c2 (n := (-3)) C0 (by decide) dX11_fewest_29 (fun v_41 e_42 => ?_)
          rw [hQ]
          exact y_iret C0 h (Fr.tr (Fr.mono u_2 (by decide)) (Fr.mono u_12 (by decide))) ⟨(o28_3 e_42), (o28_16 e_42), (Rel.fr (M := []) hR (Fr.tr u_2 u_12) (by decide) (by decide)), (Hok.fr (M := []) hH (Fr.tr u_2 u_12) (by decide))⟩ dX11_fewest_31
    · -- 13
      refine y_c2 (n := (-2)) C0 (by decide) dX11_fewest_16 (fun v_43 e_44 => ?_)
      rw [hQ]
      exact y_iret C0 h (Fr.tr (Fr.mono u_2 (by decide)) (Fr.mono u_12 (by decide))) ⟨(o28_1 e_44), (o28_15 e_44), (Rel.fr (M := []) hR (Fr.tr u_2 u_12) (by decide) (by decide)), (Hok.fr (M := []) hH (Fr.tr u_2 u_12) (by decide))⟩ dX11_fewest_18
set_option maxHeartbeats 4000000 in
set_option maxRecDepth 100000 in
theorem c_X11_cheapest (l : Launch) (G : GG) (Z : RZ) (ad : Nat → Nat) (ws0 : va_W) (hT : Ty G (SC tt) ad ws0) (a1 : Int32) (a2 : Int32) (a3 : Int32) (hR : Rel ws0) (hH : Hok ws0) : Mq l yX11_cheapest cX11_cheapest 4 (some .int) 7 G Z [.ref (ad 0), .int a1, .int a2, .int a3] ws0 (PI G (SC tt) ad [4, 5, 18, 19, 20, 21, 38] ws0 (fun r u => (r.toInt ≤ 1073741823) ∧ (Rel u) ∧ (Hok u))) := by
  refine Mq.start (by decide) (Nat.le_of_ble_eq_true rfl) ?_
  intro p e s m below meth c A ls C0 hZ h hl
  have hl : lv_has ls 4 [(0, .ref (ad 0)), (1, .int a1), (2, .int a2), (3, .int a3)] := hl
  have h : Wt G (SC tt) ad A s s.heap [] ws0 := ⟨h, hT⟩
  obtain ⟨args, hargs⟩ : ∃ z, z = ([.ref (ad 0), .int a1, .int a2, .int a3] : List Value).toArray := ⟨_, rfl⟩
  rw [← hargs] at C0 ⊢
  have C0 : Cx p s m args meth c RX11 cX11_cheapest 4 (some .int) := C0
  obtain ⟨Q, hQ⟩ : ∃ z, z = MQ below ((PI G (SC tt) ad [4, 5, 18, 19, 20, 21, 38] ws0 (fun r u => (r.toInt ≤ 1073741823) ∧ (Rel u) ∧ (Hok u))) A) args s 0 0 A := ⟨_, rfl⟩
  rw [← hQ]
  refine lv_aload_n C0.1 C0.2.1 dX11_cheapest_0 rfl (lv_at hl 0 rfl) ?_
  refine lv_iload_n C0.1 C0.2.1 dX11_cheapest_1 rfl (lv_at hl 1 rfl) ?_
  refine y_ci h (y_rV (As := [.int a1]) (rest := []) C0 hZ h (c_X11_isPerson l G Z ad _ h.2 a1) k_X11_isPerson q_903 q_23 q_901 kSC_0 rfl rfl rfl hl.1 rfl rfl (Nat.le_of_ble_eq_true rfl) dX11_cheapest_2 ⟨Nat.le_of_ble_eq_true rfl, Nat.le_of_ble_eq_true rfl⟩ ⟨Nat.le_of_ble_eq_true rfl, Nat.le_of_ble_eq_true rfl⟩) (fun r_4 H locs ws_1 h u_2 p_3 => ?_)
  obtain ⟨e_5, e_6, e_7⟩ := p_3
  refine y_if_eq (tgt := 16) C0 dX11_cheapest_5 (by decide) (fun c_8 => ?_) (fun c_8 => ?_)
  · -- 5
    refine y_c2 (n := (-2)) C0 (by decide) dX11_cheapest_16 (fun v_9 e_10 => ?_)
    rw [hQ]
    exact y_iret C0 h (Fr.mono u_2 (by decide)) ⟨(o28_23 e_10), (Rel.fr (M := []) hR u_2 (by decide) (by decide)), (Hok.fr (M := []) hH u_2 (by decide))⟩ dX11_cheapest_18
  · -- 5
    refine lv_aload_n C0.1 C0.2.1 dX11_cheapest_8 rfl (lv_at hl 0 rfl) ?_
    refine lv_iload_n C0.1 C0.2.1 dX11_cheapest_9 rfl (lv_at hl 2 rfl) ?_
    refine y_ci h (y_rV (As := [.int a2]) (rest := []) C0 hZ h (c_X11_isCrossing l G Z ad _ h.2 a2) k_X11_isCrossing q_915 q_25 q_913 kSC_0 rfl rfl rfl hl.1 rfl rfl (Nat.le_of_ble_eq_true rfl) dX11_cheapest_10 ⟨Nat.le_of_ble_eq_true rfl, Nat.le_of_ble_eq_true rfl⟩ ⟨Nat.le_of_ble_eq_true rfl, Nat.le_of_ble_eq_true rfl⟩) (fun r_14 H locs ws_11 h u_12 p_13 => ?_)
    obtain ⟨e_15, e_16, e_17⟩ := p_13
    refine y_if_ne (tgt := 19) C0 dX11_cheapest_13 (by decide) (fun c_18 => ?_) (fun c_18 => ?_)
    · -- 13
      refine lv_iload_n C0.1 C0.2.1 dX11_cheapest_19 rfl (lv_at hl 3 rfl) ?_
      refine y_if_lt (tgt := 29) C0 dX11_cheapest_20 (by decide) (fun c_19 => ?_) (fun c_19 => ?_)
      · -- 20
        refine y_c2 (n := (-3)) C0 (by decide) dX11_cheapest_29 (fun v_20 e_21 => ?_)
        rw [hQ]
        exact y_iret C0 h (Fr.tr (Fr.mono u_2 (by decide)) (Fr.mono u_12 (by decide))) ⟨(o28_24 e_21), (Rel.fr (M := []) hR (Fr.tr u_2 u_12) (by decide) (by decide)), (Hok.fr (M := []) hH (Fr.tr u_2 u_12) (by decide))⟩ dX11_cheapest_31
      · -- 20
        refine lv_iload_n C0.1 C0.2.1 dX11_cheapest_23 rfl (lv_at hl 3 rfl) ?_
        refine y_c2 (n := 60) C0 (by decide) dX11_cheapest_24 (fun v_22 e_23 => ?_)
        refine y_icmp_le (tgt := 32) C0 dX11_cheapest_26 (by decide) (fun c_24 => ?_) (fun c_24 => ?_)
        · -- 26
          refine lv_aload_n C0.1 C0.2.1 dX11_cheapest_32 rfl (lv_at hl 0 rfl) ?_
          refine tg_X11_tally C0 h kSC_0 q_521 dX11_cheapest_33 ?_
          refine lv_aload_n C0.1 C0.2.1 dX11_cheapest_36 rfl (lv_at hl 0 rfl) ?_
          refine tg_X11_now C0 h kSC_0 q_515 dX11_cheapest_37 ?_
          refine tg_X0_folk C0 h kSC_1 q_249 dX11_cheapest_40 ?_
          refine lv_iload_n C0.1 C0.2.1 dX11_cheapest_43 rfl (lv_at hl 1 rfl) ?_
          refine y_ci h (y_rV (As := [.int a1]) (rest := [.ref (ad 94)]) C0 hZ h (c_X1_stand l G Z ad _ h.2 10 kSC_10 a1 (o28_5 e_5 e_6 e_7 c_8) (o28_6 e_5 e_6 e_7 c_8)) k_X1_stand q_1071 q_1072 q_1070 kSC_10 rfl rfl rfl hl.1 rfl rfl (Nat.le_of_ble_eq_true rfl) dX11_cheapest_44 ⟨Nat.le_of_ble_eq_true rfl, Nat.le_of_ble_eq_true rfl⟩ ⟨Nat.le_of_ble_eq_true rfl, Nat.le_of_ble_eq_true rfl⟩) (fun r_28 H locs ws_25 h u_26 p_27 => ?_)
          obtain ⟨e_29, e_30⟩ := p_27
          refine lv_iload_n C0.1 C0.2.1 dX11_cheapest_47 rfl (lv_at hl 2 rfl) ?_
          refine lv_iload_n C0.1 C0.2.1 dX11_cheapest_48 rfl (lv_at hl 3 rfl) ?_
          refine y_ci h (y_rV (As := [.int r_28, .int a2, .int a3]) (rest := []) C0 hZ h (c_X9_leastCoins l G Z ad _ h.2 r_28 a2 a3 (o28_7 e_29 e_30) (o28_8 e_29 e_30) (o28_25 e_15 e_16 e_17 c_18) (o28_26 e_15 e_16 e_17 c_18) (o28_19 c_19 e_23 c_24) (o28_20 c_19 e_23 c_24) (Rel.fr (M := []) hR (Fr.tr (Fr.tr u_2 u_12) u_26) (by decide) (by decide))) k_X9_leastCoins q_1211 q_1212 q_1210 kSC_94 rfl rfl rfl hl.1 rfl rfl (Nat.le_of_ble_eq_true rfl) dX11_cheapest_49 ⟨Nat.le_of_ble_eq_true rfl, Nat.le_of_ble_eq_true rfl⟩ ⟨Nat.le_of_ble_eq_true rfl, Nat.le_of_ble_eq_true rfl⟩) (fun r_34 H locs ws_31 h u_32 p_33 => ?_)
          have e_35 := p_33
          rw [hQ]
          exact y_iret C0 h (Fr.tr (Fr.tr (Fr.tr (Fr.mono u_2 (by decide)) (Fr.mono u_12 (by decide))) (Fr.mono u_26 (by decide))) u_32) ⟨(o28_27 e_35), (Rel.fr (M := [4, 5, 18, 19, 20, 21, 38]) hR (Fr.tr (Fr.tr (Fr.tr (Fr.mono u_2 (by decide)) (Fr.mono u_12 (by decide))) (Fr.mono u_26 (by decide))) u_32) (by decide) (by decide)), (Hok.fr (M := [4, 5, 18, 19, 20, 21, 38]) hH (Fr.tr (Fr.tr (Fr.tr (Fr.mono u_2 (by decide)) (Fr.mono u_12 (by decide))) (Fr.mono u_26 (by decide))) u_32) (by decide))⟩ dX11_cheapest_52
        · -- 26
          refine y_c2 (n := (-3)) C0 (by decide) dX11_cheapest_29 (fun v_36 e_37 => ?_)
          rw [hQ]
          exact y_iret C0 h (Fr.tr (Fr.mono u_2 (by decide)) (Fr.mono u_12 (by decide))) ⟨(o28_24 e_37), (Rel.fr (M := []) hR (Fr.tr u_2 u_12) (by decide) (by decide)), (Hok.fr (M := []) hH (Fr.tr u_2 u_12) (by decide))⟩ dX11_cheapest_31
    · -- 13
      refine y_c2 (n := (-2)) C0 (by decide) dX11_cheapest_16 (fun v_38 e_39 => ?_)
      rw [hQ]
      exact y_iret C0 h (Fr.tr (Fr.mono u_2 (by decide)) (Fr.mono u_12 (by decide))) ⟨(o28_23 e_39), (Rel.fr (M := []) hR (Fr.tr u_2 u_12) (by decide) (by decide)), (Hok.fr (M := []) hH (Fr.tr u_2 u_12) (by decide))⟩ dX11_cheapest_18
set_option maxHeartbeats 4000000 in
set_option maxRecDepth 100000 in
theorem c_X11_ways (l : Launch) (G : GG) (Z : RZ) (ad : Nat → Nat) (ws0 : va_W) (hT : Ty G (SC tt) ad ws0) (a1 : Int32) (a2 : Int32) (a3 : Int32) (a4 : Int32) (hR : Rel ws0) (hH : Hok ws0) : Mq l yX11_ways cX11_ways 5 (some .long) 7 G Z [.ref (ad 0), .int a1, .int a2, .int a3, .int a4] ws0 (PL G (SC tt) ad [4, 5, 18, 19, 20, 21, 34, 36] ws0 (fun r u => (Rel u) ∧ (Hok u))) := by
  refine Mq.start (by decide) (Nat.le_of_ble_eq_true rfl) ?_
  intro p e s m below meth c A ls C0 hZ h hl
  have hl : lv_has ls 5 [(0, .ref (ad 0)), (1, .int a1), (2, .int a2), (3, .int a3), (4, .int a4)] := hl
  have h : Wt G (SC tt) ad A s s.heap [] ws0 := ⟨h, hT⟩
  obtain ⟨args, hargs⟩ : ∃ z, z = ([.ref (ad 0), .int a1, .int a2, .int a3, .int a4] : List Value).toArray := ⟨_, rfl⟩
  rw [← hargs] at C0 ⊢
  have C0 : Cx p s m args meth c RX11 cX11_ways 5 (some .long) := C0
  obtain ⟨Q, hQ⟩ : ∃ z, z = MQ below ((PL G (SC tt) ad [4, 5, 18, 19, 20, 21, 34, 36] ws0 (fun r u => (Rel u) ∧ (Hok u))) A) args s 0 0 A := ⟨_, rfl⟩
  rw [← hQ]
  refine lv_aload_n C0.1 C0.2.1 dX11_ways_0 rfl (lv_at hl 0 rfl) ?_
  refine lv_iload_n C0.1 C0.2.1 dX11_ways_1 rfl (lv_at hl 1 rfl) ?_
  refine y_ci h (y_rV (As := [.int a1]) (rest := []) C0 hZ h (c_X11_isPerson l G Z ad _ h.2 a1) k_X11_isPerson q_903 q_23 q_901 kSC_0 rfl rfl rfl hl.1 rfl rfl (Nat.le_of_ble_eq_true rfl) dX11_ways_2 ⟨Nat.le_of_ble_eq_true rfl, Nat.le_of_ble_eq_true rfl⟩ ⟨Nat.le_of_ble_eq_true rfl, Nat.le_of_ble_eq_true rfl⟩) (fun r_4 H locs ws_1 h u_2 p_3 => ?_)
  obtain ⟨e_5, e_6, e_7⟩ := p_3
  refine y_if_eq (tgt := 16) C0 dX11_ways_5 (by decide) (fun c_8 => ?_) (fun c_8 => ?_)
  · -- 5
    refine y_lc2 (n := (-2)) C0 q_1229 (by decide) dX11_ways_16 (fun w_9 e_10 => ?_)
    rw [hQ]
    exact y_lret C0 h (Fr.mono u_2 (by decide)) ⟨(Rel.fr (M := []) hR u_2 (by decide) (by decide)), (Hok.fr (M := []) hH u_2 (by decide))⟩ dX11_ways_19
  · -- 5
    refine lv_aload_n C0.1 C0.2.1 dX11_ways_8 rfl (lv_at hl 0 rfl) ?_
    refine lv_iload_n C0.1 C0.2.1 dX11_ways_9 rfl (lv_at hl 2 rfl) ?_
    refine y_ci h (y_rV (As := [.int a2]) (rest := []) C0 hZ h (c_X11_isCrossing l G Z ad _ h.2 a2) k_X11_isCrossing q_915 q_25 q_913 kSC_0 rfl rfl rfl hl.1 rfl rfl (Nat.le_of_ble_eq_true rfl) dX11_ways_10 ⟨Nat.le_of_ble_eq_true rfl, Nat.le_of_ble_eq_true rfl⟩ ⟨Nat.le_of_ble_eq_true rfl, Nat.le_of_ble_eq_true rfl⟩) (fun r_14 H locs ws_11 h u_12 p_13 => ?_)
    obtain ⟨e_15, e_16, e_17⟩ := p_13
    refine y_if_ne (tgt := 20) C0 dX11_ways_13 (by decide) (fun c_18 => ?_) (fun c_18 => ?_)
    · -- 13
      refine lv_iload_n C0.1 C0.2.1 dX11_ways_20 rfl (lv_at hl 3 rfl) ?_
      refine y_if_lt (tgt := 42) C0 dX11_ways_21 (by decide) (fun c_19 => ?_) (fun c_19 => ?_)
      · -- 21
        refine y_lc2 (n := (-3)) C0 q_1230 (by decide) dX11_ways_42 (fun w_20 e_21 => ?_)
        rw [hQ]
        exact y_lret C0 h (Fr.tr (Fr.mono u_2 (by decide)) (Fr.mono u_12 (by decide))) ⟨(Rel.fr (M := []) hR (Fr.tr u_2 u_12) (by decide) (by decide)), (Hok.fr (M := []) hH (Fr.tr u_2 u_12) (by decide))⟩ dX11_ways_45
      · -- 21
        refine lv_iload_n C0.1 C0.2.1 dX11_ways_24 rfl (lv_at hl 3 rfl) ?_
        refine y_c2 (n := 20) C0 (by decide) dX11_ways_25 (fun v_22 e_23 => ?_)
        refine y_icmp_gt (tgt := 42) C0 dX11_ways_27 (by decide) (fun c_24 => ?_) (fun c_24 => ?_)
        · -- 27
          refine y_lc2 (n := (-3)) C0 q_1230 (by decide) dX11_ways_42 (fun w_25 e_26 => ?_)
          rw [hQ]
          exact y_lret C0 h (Fr.tr (Fr.mono u_2 (by decide)) (Fr.mono u_12 (by decide))) ⟨(Rel.fr (M := []) hR (Fr.tr u_2 u_12) (by decide) (by decide)), (Hok.fr (M := []) hH (Fr.tr u_2 u_12) (by decide))⟩ dX11_ways_45
        · -- 27
          refine lv_iload C0.1 C0.2.1 dX11_ways_30 (lv_at hl 4 rfl) ?_
          refine y_if_lt (tgt := 42) C0 dX11_ways_32 (by decide) (fun c_27 => ?_) (fun c_27 => ?_)
          · -- 32
            refine y_lc2 (n := (-3)) C0 q_1230 (by decide) dX11_ways_42 (fun w_28 e_29 => ?_)
            rw [hQ]
            exact y_lret C0 h (Fr.tr (Fr.mono u_2 (by decide)) (Fr.mono u_12 (by decide))) ⟨(Rel.fr (M := []) hR (Fr.tr u_2 u_12) (by decide) (by decide)), (Hok.fr (M := []) hH (Fr.tr u_2 u_12) (by decide))⟩ dX11_ways_45
          · -- 32
            refine lv_iload C0.1 C0.2.1 dX11_ways_35 (lv_at hl 4 rfl) ?_
            refine y_c2 (n := 40) C0 (by decide) dX11_ways_37 (fun v_30 e_31 => ?_)
            refine y_icmp_le (tgt := 46) C0 dX11_ways_39 (by decide) (fun c_32 => ?_) (fun c_32 => ?_)
            · -- 39
              refine lv_aload_n C0.1 C0.2.1 dX11_ways_46 rfl (lv_at hl 0 rfl) ?_
              refine tg_X11_tally C0 h kSC_0 q_521 dX11_ways_47 ?_
              refine lv_aload_n C0.1 C0.2.1 dX11_ways_50 rfl (lv_at hl 0 rfl) ?_
              refine tg_X11_now C0 h kSC_0 q_515 dX11_ways_51 ?_
              refine tg_X0_folk C0 h kSC_1 q_249 dX11_ways_54 ?_
              refine lv_iload_n C0.1 C0.2.1 dX11_ways_57 rfl (lv_at hl 1 rfl) ?_
              refine y_ci h (y_rV (As := [.int a1]) (rest := [.ref (ad 94)]) C0 hZ h (c_X1_stand l G Z ad _ h.2 10 kSC_10 a1 (o28_5 e_5 e_6 e_7 c_8) (o28_6 e_5 e_6 e_7 c_8)) k_X1_stand q_1071 q_1072 q_1070 kSC_10 rfl rfl rfl hl.1 rfl rfl (Nat.le_of_ble_eq_true rfl) dX11_ways_58 ⟨Nat.le_of_ble_eq_true rfl, Nat.le_of_ble_eq_true rfl⟩ ⟨Nat.le_of_ble_eq_true rfl, Nat.le_of_ble_eq_true rfl⟩) (fun r_36 H locs ws_33 h u_34 p_35 => ?_)
              obtain ⟨e_37, e_38⟩ := p_35
              refine lv_iload_n C0.1 C0.2.1 dX11_ways_61 rfl (lv_at hl 2 rfl) ?_
              refine lv_iload_n C0.1 C0.2.1 dX11_ways_62 rfl (lv_at hl 3 rfl) ?_
              refine lv_iload C0.1 C0.2.1 dX11_ways_63 (lv_at hl 4 rfl) ?_
              refine y_cl h (y_rV (As := [.int r_36, .int a2, .int a3, .int a4]) (rest := []) C0 hZ h (c_X9_waysOfJust l G Z ad _ h.2 r_36 a2 a3 a4 (o28_7 e_37 e_38) (o28_8 e_37 e_38) (o28_25 e_15 e_16 e_17 c_18) (o28_26 e_15 e_16 e_17 c_18) (o28_28 c_19 e_23 c_24) (o28_29 c_19 e_23 c_24) (o28_30 c_27 e_31 c_32) (o28_31 c_27 e_31 c_32) (Rel.fr (M := []) hR (Fr.tr (Fr.tr u_2 u_12) u_34) (by decide) (by decide))) k_X9_waysOfJust q_1232 q_1233 q_1231 kSC_94 rfl rfl rfl hl.1 rfl rfl (Nat.le_of_ble_eq_true rfl) dX11_ways_65 ⟨Nat.le_of_ble_eq_true rfl, Nat.le_of_ble_eq_true rfl⟩ ⟨Nat.le_of_ble_eq_true rfl, Nat.le_of_ble_eq_true rfl⟩) (fun r_42 H locs ws_39 h u_40 p_41 => ?_)
              rw [hQ]
              exact y_lret C0 h (Fr.tr (Fr.tr (Fr.tr (Fr.mono u_2 (by decide)) (Fr.mono u_12 (by decide))) (Fr.mono u_34 (by decide))) u_40) ⟨(Rel.fr (M := [4, 5, 18, 19, 20, 21, 34, 36]) hR (Fr.tr (Fr.tr (Fr.tr (Fr.mono u_2 (by decide)) (Fr.mono u_12 (by decide))) (Fr.mono u_34 (by decide))) u_40) (by decide) (by decide)), (Hok.fr (M := [4, 5, 18, 19, 20, 21, 34, 36]) hH (Fr.tr (Fr.tr (Fr.tr (Fr.mono u_2 (by decide)) (Fr.mono u_12 (by decide))) (Fr.mono u_34 (by decide))) u_40) (by decide))⟩ dX11_ways_68
            · -- 39
              refine y_lc2 (n := (-3)) C0 q_1230 (by decide) dX11_ways_42 (fun w_43 e_44 => ?_)
              rw [hQ]
              exact y_lret C0 h (Fr.tr (Fr.mono u_2 (by decide)) (Fr.mono u_12 (by decide))) ⟨(Rel.fr (M := []) hR (Fr.tr u_2 u_12) (by decide) (by decide)), (Hok.fr (M := []) hH (Fr.tr u_2 u_12) (by decide))⟩ dX11_ways_45
    · -- 13
      refine y_lc2 (n := (-2)) C0 q_1229 (by decide) dX11_ways_16 (fun w_45 e_46 => ?_)
      rw [hQ]
      exact y_lret C0 h (Fr.tr (Fr.mono u_2 (by decide)) (Fr.mono u_12 (by decide))) ⟨(Rel.fr (M := []) hR (Fr.tr u_2 u_12) (by decide) (by decide)), (Hok.fr (M := []) hH (Fr.tr u_2 u_12) (by decide))⟩ dX11_ways_19
set_option maxHeartbeats 4000000 in
set_option maxRecDepth 100000 in
theorem c_X11_reach (l : Launch) (G : GG) (Z : RZ) (ad : Nat → Nat) (ws0 : va_W) (hT : Ty G (SC tt) ad ws0) (a1 : Int32) (a2 : Int32) (hR : Rel ws0) (hH : Hok ws0) : Mq l yX11_reach cX11_reach 3 (some .int) 8 G Z [.ref (ad 0), .int a1, .int a2] ws0 (PI G (SC tt) ad [4, 5, 18, 19, 20, 21, 22, 23, 24] ws0 (fun r u => (Rel u) ∧ (Hok u))) := by
  refine Mq.start (by decide) (Nat.le_of_ble_eq_true rfl) ?_
  intro p e s m below meth c A ls C0 hZ h hl
  have hl : lv_has ls 3 [(0, .ref (ad 0)), (1, .int a1), (2, .int a2)] := hl
  have h : Wt G (SC tt) ad A s s.heap [] ws0 := ⟨h, hT⟩
  obtain ⟨args, hargs⟩ : ∃ z, z = ([.ref (ad 0), .int a1, .int a2] : List Value).toArray := ⟨_, rfl⟩
  rw [← hargs] at C0 ⊢
  have C0 : Cx p s m args meth c RX11 cX11_reach 3 (some .int) := C0
  obtain ⟨Q, hQ⟩ : ∃ z, z = MQ below ((PI G (SC tt) ad [4, 5, 18, 19, 20, 21, 22, 23, 24] ws0 (fun r u => (Rel u) ∧ (Hok u))) A) args s 0 0 A := ⟨_, rfl⟩
  rw [← hQ]
  refine lv_aload_n C0.1 C0.2.1 dX11_reach_0 rfl (lv_at hl 0 rfl) ?_
  refine lv_iload_n C0.1 C0.2.1 dX11_reach_1 rfl (lv_at hl 1 rfl) ?_
  refine y_ci h (y_rV (As := [.int a1]) (rest := []) C0 hZ h (c_X11_isPerson l G Z ad _ h.2 a1) k_X11_isPerson q_903 q_23 q_901 kSC_0 rfl rfl rfl hl.1 rfl rfl (Nat.le_of_ble_eq_true rfl) dX11_reach_2 ⟨Nat.le_of_ble_eq_true rfl, Nat.le_of_ble_eq_true rfl⟩ ⟨Nat.le_of_ble_eq_true rfl, Nat.le_of_ble_eq_true rfl⟩) (fun r_4 H locs ws_1 h u_2 p_3 => ?_)
  obtain ⟨e_5, e_6, e_7⟩ := p_3
  refine y_if_ne (tgt := 11) C0 dX11_reach_5 (by decide) (fun c_8 => ?_) (fun c_8 => ?_)
  · -- 5
    refine lv_iload_n C0.1 C0.2.1 dX11_reach_11 rfl (lv_at hl 2 rfl) ?_
    refine y_if_lt (tgt := 21) C0 dX11_reach_12 (by decide) (fun c_9 => ?_) (fun c_9 => ?_)
    · -- 12
      refine y_c2 (n := (-3)) C0 (by decide) dX11_reach_21 (fun v_10 e_11 => ?_)
      rw [hQ]
      exact y_iret C0 h (Fr.mono u_2 (by decide)) ⟨(Rel.fr (M := []) hR u_2 (by decide) (by decide)), (Hok.fr (M := []) hH u_2 (by decide))⟩ dX11_reach_23
    · -- 12
      refine lv_iload_n C0.1 C0.2.1 dX11_reach_15 rfl (lv_at hl 2 rfl) ?_
      refine y_c2 (n := 120) C0 (by decide) dX11_reach_16 (fun v_12 e_13 => ?_)
      refine y_icmp_le (tgt := 24) C0 dX11_reach_18 (by decide) (fun c_14 => ?_) (fun c_14 => ?_)
      · -- 18
        refine lv_aload_n C0.1 C0.2.1 dX11_reach_24 rfl (lv_at hl 0 rfl) ?_
        refine tg_X11_spread C0 h kSC_0 q_522 dX11_reach_25 ?_
        refine lv_aload_n C0.1 C0.2.1 dX11_reach_28 rfl (lv_at hl 0 rfl) ?_
        refine tg_X11_now C0 h kSC_0 q_515 dX11_reach_29 ?_
        refine tg_X0_folk C0 h kSC_1 q_249 dX11_reach_32 ?_
        refine lv_iload_n C0.1 C0.2.1 dX11_reach_35 rfl (lv_at hl 1 rfl) ?_
        refine y_ci h (y_rV (As := [.int a1]) (rest := [.ref (ad 83)]) C0 hZ h (c_X1_stand l G Z ad _ h.2 10 kSC_10 a1 (o28_5 e_5 e_6 e_7 c_8) (o28_6 e_5 e_6 e_7 c_8)) k_X1_stand q_1071 q_1072 q_1070 kSC_10 rfl rfl rfl hl.1 rfl rfl (Nat.le_of_ble_eq_true rfl) dX11_reach_36 ⟨Nat.le_of_ble_eq_true rfl, Nat.le_of_ble_eq_true rfl⟩ ⟨Nat.le_of_ble_eq_true rfl, Nat.le_of_ble_eq_true rfl⟩) (fun r_18 H locs ws_15 h u_16 p_17 => ?_)
        obtain ⟨e_19, e_20⟩ := p_17
        refine lv_iload_n C0.1 C0.2.1 dX11_reach_39 rfl (lv_at hl 2 rfl) ?_
        refine y_ci h (y_rV (As := [.int r_18, .int a2]) (rest := []) C0 hZ h (c_X8_reachable l G Z ad _ h.2 r_18 a2 (o28_7 e_19 e_20) (o28_8 e_19 e_20) (o28_9 c_9 e_13 c_14) (o28_10 c_9 e_13 c_14)) k_X8_reachable q_1249 q_1250 q_1248 kSC_83 rfl rfl rfl hl.1 rfl rfl (Nat.le_of_ble_eq_true rfl) dX11_reach_40 ⟨Nat.le_of_ble_eq_true rfl, Nat.le_of_ble_eq_true rfl⟩ ⟨Nat.le_of_ble_eq_true rfl, Nat.le_of_ble_eq_true rfl⟩) (fun r_24 H locs ws_21 h u_22 p_23 => ?_)
        rw [hQ]
        exact y_iret C0 h (Fr.tr (Fr.tr (Fr.mono u_2 (by decide)) (Fr.mono u_16 (by decide))) u_22) ⟨(Rel.fr (M := [4, 5, 18, 19, 20, 21, 22, 23, 24]) hR (Fr.tr (Fr.tr (Fr.mono u_2 (by decide)) (Fr.mono u_16 (by decide))) u_22) (by decide) (by decide)), (Hok.fr (M := [4, 5, 18, 19, 20, 21, 22, 23, 24]) hH (Fr.tr (Fr.tr (Fr.mono u_2 (by decide)) (Fr.mono u_16 (by decide))) u_22) (by decide))⟩ dX11_reach_43
      · -- 18
        refine y_c2 (n := (-3)) C0 (by decide) dX11_reach_21 (fun v_25 e_26 => ?_)
        rw [hQ]
        exact y_iret C0 h (Fr.mono u_2 (by decide)) ⟨(Rel.fr (M := []) hR u_2 (by decide) (by decide)), (Hok.fr (M := []) hH u_2 (by decide))⟩ dX11_reach_23
  · -- 5
    refine y_c2 (n := (-2)) C0 (by decide) dX11_reach_8 (fun v_27 e_28 => ?_)
    rw [hQ]
    exact y_iret C0 h (Fr.mono u_2 (by decide)) ⟨(Rel.fr (M := []) hR u_2 (by decide) (by decide)), (Hok.fr (M := []) hH u_2 (by decide))⟩ dX11_reach_10
set_option maxHeartbeats 4000000 in
set_option maxRecDepth 100000 in
theorem c_X11_enough (l : Launch) (G : GG) (Z : RZ) (ad : Nat → Nat) (ws0 : va_W) (hT : Ty G (SC tt) ad ws0) (a1 : Int32) (hR : Rel ws0) (hH : Hok ws0) : Mq l yX11_enough cX11_enough 2 (some .int) 8 G Z [.ref (ad 0), .int a1] ws0 (PI G (SC tt) ad [4, 5, 18, 19, 20, 21, 22, 23, 24] ws0 (fun r u => ((-2) ≤ r.toInt) ∧ (r.toInt ≤ 120) ∧ (Rel u) ∧ (Hok u))) := by
  refine Mq.start (by decide) (Nat.le_of_ble_eq_true rfl) ?_
  intro p e s m below meth c A ls C0 hZ h hl
  have hl : lv_has ls 2 [(0, .ref (ad 0)), (1, .int a1)] := hl
  have h : Wt G (SC tt) ad A s s.heap [] ws0 := ⟨h, hT⟩
  obtain ⟨args, hargs⟩ : ∃ z, z = ([.ref (ad 0), .int a1] : List Value).toArray := ⟨_, rfl⟩
  rw [← hargs] at C0 ⊢
  have C0 : Cx p s m args meth c RX11 cX11_enough 2 (some .int) := C0
  obtain ⟨Q, hQ⟩ : ∃ z, z = MQ below ((PI G (SC tt) ad [4, 5, 18, 19, 20, 21, 22, 23, 24] ws0 (fun r u => ((-2) ≤ r.toInt) ∧ (r.toInt ≤ 120) ∧ (Rel u) ∧ (Hok u))) A) args s 0 0 A := ⟨_, rfl⟩
  rw [← hQ]
  refine lv_aload_n C0.1 C0.2.1 dX11_enough_0 rfl (lv_at hl 0 rfl) ?_
  refine lv_iload_n C0.1 C0.2.1 dX11_enough_1 rfl (lv_at hl 1 rfl) ?_
  refine y_ci h (y_rV (As := [.int a1]) (rest := []) C0 hZ h (c_X11_isPerson l G Z ad _ h.2 a1) k_X11_isPerson q_903 q_23 q_901 kSC_0 rfl rfl rfl hl.1 rfl rfl (Nat.le_of_ble_eq_true rfl) dX11_enough_2 ⟨Nat.le_of_ble_eq_true rfl, Nat.le_of_ble_eq_true rfl⟩ ⟨Nat.le_of_ble_eq_true rfl, Nat.le_of_ble_eq_true rfl⟩) (fun r_4 H locs ws_1 h u_2 p_3 => ?_)
  obtain ⟨e_5, e_6, e_7⟩ := p_3
  refine y_if_ne (tgt := 11) C0 dX11_enough_5 (by decide) (fun c_8 => ?_) (fun c_8 => ?_)
  · -- 5
    refine lv_aload_n C0.1 C0.2.1 dX11_enough_11 rfl (lv_at hl 0 rfl) ?_
    refine tg_X11_spread C0 h kSC_0 q_522 dX11_enough_12 ?_
    refine lv_aload_n C0.1 C0.2.1 dX11_enough_15 rfl (lv_at hl 0 rfl) ?_
    refine tg_X11_now C0 h kSC_0 q_515 dX11_enough_16 ?_
    refine tg_X0_folk C0 h kSC_1 q_249 dX11_enough_19 ?_
    refine lv_iload_n C0.1 C0.2.1 dX11_enough_22 rfl (lv_at hl 1 rfl) ?_
    refine y_ci h (y_rV (As := [.int a1]) (rest := [.ref (ad 83)]) C0 hZ h (c_X1_stand l G Z ad _ h.2 10 kSC_10 a1 (o28_5 e_5 e_6 e_7 c_8) (o28_6 e_5 e_6 e_7 c_8)) k_X1_stand q_1071 q_1072 q_1070 kSC_10 rfl rfl rfl hl.1 rfl rfl (Nat.le_of_ble_eq_true rfl) dX11_enough_23 ⟨Nat.le_of_ble_eq_true rfl, Nat.le_of_ble_eq_true rfl⟩ ⟨Nat.le_of_ble_eq_true rfl, Nat.le_of_ble_eq_true rfl⟩) (fun r_12 H locs ws_9 h u_10 p_11 => ?_)
    obtain ⟨e_13, e_14⟩ := p_11
    refine y_ci h (y_rV (As := [.int r_12]) (rest := []) C0 hZ h (c_X8_leastForAll l G Z ad _ h.2 r_12 (o28_7 e_13 e_14) (o28_8 e_13 e_14)) k_X8_leastForAll q_1262 q_1263 q_1261 kSC_83 rfl rfl rfl hl.1 rfl rfl (Nat.le_of_ble_eq_true rfl) dX11_enough_26 ⟨Nat.le_of_ble_eq_true rfl, Nat.le_of_ble_eq_true rfl⟩ ⟨Nat.le_of_ble_eq_true rfl, Nat.le_of_ble_eq_true rfl⟩) (fun r_18 H locs ws_15 h u_16 p_17 => ?_)
    obtain ⟨e_19, e_20⟩ := p_17
    rw [hQ]
    exact y_iret C0 h (Fr.tr (Fr.tr (Fr.mono u_2 (by decide)) (Fr.mono u_10 (by decide))) u_16) ⟨(o28_32 e_19 e_20), (o28_33 e_19 e_20), (Rel.fr (M := [4, 5, 18, 19, 20, 21, 22, 23, 24]) hR (Fr.tr (Fr.tr (Fr.mono u_2 (by decide)) (Fr.mono u_10 (by decide))) u_16) (by decide) (by decide)), (Hok.fr (M := [4, 5, 18, 19, 20, 21, 22, 23, 24]) hH (Fr.tr (Fr.tr (Fr.mono u_2 (by decide)) (Fr.mono u_10 (by decide))) u_16) (by decide))⟩ dX11_enough_29
  · -- 5
    refine y_c2 (n := (-2)) C0 (by decide) dX11_enough_8 (fun v_21 e_22 => ?_)
    rw [hQ]
    exact y_iret C0 h (Fr.mono u_2 (by decide)) ⟨(o28_34 e_22), (o28_15 e_22), (Rel.fr (M := []) hR u_2 (by decide) (by decide)), (Hok.fr (M := []) hH u_2 (by decide))⟩ dX11_enough_10
set_option maxHeartbeats 4000000 in
set_option maxRecDepth 100000 in
theorem c_X11_byRights (l : Launch) (G : GG) (Z : RZ) (ad : Nat → Nat) (ws0 : va_W) (hT : Ty G (SC tt) ad ws0) (a1 : Int32) (a2 : Int32) (hR : Rel ws0) (hH : Hok ws0) : Mq l yX11_byRights cX11_byRights 3 (some .int) 4 G Z [.ref (ad 0), .int a1, .int a2] ws0 (PI G (SC tt) ad [22, 23] ws0 (fun r u => ((-2) ≤ r.toInt) ∧ (r.toInt ≤ 60) ∧ (Rel u) ∧ (Hok u))) := by
  refine Mq.start (by decide) (Nat.le_of_ble_eq_true rfl) ?_
  intro p e s m below meth c A ls C0 hZ h hl
  have hl : lv_has ls 3 [(0, .ref (ad 0)), (1, .int a1), (2, .int a2)] := hl
  have h : Wt G (SC tt) ad A s s.heap [] ws0 := ⟨h, hT⟩
  obtain ⟨args, hargs⟩ : ∃ z, z = ([.ref (ad 0), .int a1, .int a2] : List Value).toArray := ⟨_, rfl⟩
  rw [← hargs] at C0 ⊢
  have C0 : Cx p s m args meth c RX11 cX11_byRights 3 (some .int) := C0
  obtain ⟨Q, hQ⟩ : ∃ z, z = MQ below ((PI G (SC tt) ad [22, 23] ws0 (fun r u => ((-2) ≤ r.toInt) ∧ (r.toInt ≤ 60) ∧ (Rel u) ∧ (Hok u))) A) args s 0 0 A := ⟨_, rfl⟩
  rw [← hQ]
  refine lv_aload_n C0.1 C0.2.1 dX11_byRights_0 rfl (lv_at hl 0 rfl) ?_
  refine lv_iload_n C0.1 C0.2.1 dX11_byRights_1 rfl (lv_at hl 1 rfl) ?_
  refine lv_iload_n C0.1 C0.2.1 dX11_byRights_2 rfl (lv_at hl 2 rfl) ?_
  refine y_ci h (y_rV (As := [.int a1, .int a2]) (rest := []) C0 hZ h (c_X11_isStand l G Z ad _ h.2 a1 a2) k_X11_isStand q_911 q_24 q_909 kSC_0 rfl rfl rfl hl.1 rfl rfl (Nat.le_of_ble_eq_true rfl) dX11_byRights_3 ⟨Nat.le_of_ble_eq_true rfl, Nat.le_of_ble_eq_true rfl⟩ ⟨Nat.le_of_ble_eq_true rfl, Nat.le_of_ble_eq_true rfl⟩) (fun r_4 H locs ws_1 h u_2 p_3 => ?_)
  obtain ⟨e_5, e_6, e_7⟩ := p_3
  refine y_if_ne (tgt := 12) C0 dX11_byRights_6 (by decide) (fun c_8 => ?_) (fun c_8 => ?_)
  · -- 6
    refine lv_aload_n C0.1 C0.2.1 dX11_byRights_12 rfl (lv_at hl 0 rfl) ?_
    refine tg_X11_spread C0 h kSC_0 q_522 dX11_byRights_13 ?_
    refine y_c1 (n := 4) C0 (by decide) dX11_byRights_16 (fun v_9 e_10 => ?_)
    refine lv_iload_n C0.1 C0.2.1 dX11_byRights_17 rfl (lv_at hl 1 rfl) ?_
    refine y_cmul (n := 4) C0 (o28_35 e_10) (o28_36 e_5 e_6 e_7 c_8 (le_min a1) (le_max a1) (le_min r_4) (le_max r_4) (le_min a2) (le_max a2)) (o28_37 e_5 e_6 e_7 c_8 (le_min a1) (le_max a1) (le_min r_4) (le_max r_4) (le_min a2) (le_max a2)) dX11_byRights_18 (fun v_11 e_12 => ?_)
    refine lv_iload_n C0.1 C0.2.1 dX11_byRights_19 rfl (lv_at hl 2 rfl) ?_
    refine y_add C0 (o28_38 e_5 e_6 e_7 c_8 e_12 (le_min v_11) (le_max v_11) (le_min a2) (le_max a2) (le_min r_4) (le_max r_4) (le_min a1) (le_max a1)) (o28_39 e_5 e_6 e_7 c_8 e_12 (le_min v_11) (le_max v_11) (le_min a2) (le_max a2) (le_min r_4) (le_max r_4) (le_min a1) (le_max a1)) dX11_byRights_20 (fun v_13 e_14 => ?_)
    refine y_ci h (y_rV (As := [.int v_13]) (rest := []) C0 hZ h (c_X8_leftByRights l G Z ad _ h.2 v_13 (o28_40 e_5 e_6 e_7 c_8 e_12 e_14) (o28_41 e_5 e_6 e_7 c_8 e_12 e_14) (Rel.fr (M := []) hR u_2 (by decide) (by decide))) k_X8_leftByRights q_1270 q_1271 q_1269 kSC_83 rfl rfl rfl hl.1 rfl rfl (Nat.le_of_ble_eq_true rfl) dX11_byRights_21 ⟨Nat.le_of_ble_eq_true rfl, Nat.le_of_ble_eq_true rfl⟩ ⟨Nat.le_of_ble_eq_true rfl, Nat.le_of_ble_eq_true rfl⟩) (fun r_18 H locs ws_15 h u_16 p_17 => ?_)
    obtain ⟨e_19, e_20⟩ := p_17
    rw [hQ]
    exact y_iret C0 h (Fr.tr (Fr.mono u_2 (by decide)) u_16) ⟨(o28_42 e_19 e_20), (o28_14 e_19 e_20), (Rel.fr (M := [22, 23]) hR (Fr.tr (Fr.mono u_2 (by decide)) u_16) (by decide) (by decide)), (Hok.fr (M := [22, 23]) hH (Fr.tr (Fr.mono u_2 (by decide)) u_16) (by decide))⟩ dX11_byRights_24
  · -- 6
    refine y_c2 (n := (-2)) C0 (by decide) dX11_byRights_9 (fun v_21 e_22 => ?_)
    rw [hQ]
    exact y_iret C0 h (Fr.mono u_2 (by decide)) ⟨(o28_34 e_22), (o28_2 e_22), (Rel.fr (M := []) hR u_2 (by decide) (by decide)), (Hok.fr (M := []) hH u_2 (by decide))⟩ dX11_byRights_11
set_option maxHeartbeats 4000000 in
set_option maxRecDepth 100000 in
theorem c_X11_round (l : Launch) (G : GG) (Z : RZ) (ad : Nat → Nat) (ws0 : va_W) (hT : Ty G (SC tt) ad ws0) (a1 : Int32) (a2 : Int32) (a3 : Int32) (hR : Rel ws0) (hH : Hok ws0) : Mq l yX11_round cX11_round 5 (some .int) 11 G Z [.ref (ad 0), .int a1, .int a2, .int a3] ws0 (PI G (SC tt) ad [4, 5, 18, 19, 20, 21, 22, 23, 25, 26, 27, 28, 29, 30, 31] ws0 (fun r u => (Rel u) ∧ (Hok u))) := by
  refine Mq.start (by decide) (Nat.le_of_ble_eq_true rfl) ?_
  intro p e s m below meth c A ls C0 hZ h hl
  have hl : lv_has ls 5 [(0, .ref (ad 0)), (1, .int a1), (2, .int a2), (3, .int a3)] := hl
  have h : Wt G (SC tt) ad A s s.heap [] ws0 := ⟨h, hT⟩
  obtain ⟨args, hargs⟩ : ∃ z, z = ([.ref (ad 0), .int a1, .int a2, .int a3] : List Value).toArray := ⟨_, rfl⟩
  rw [← hargs] at C0 ⊢
  have C0 : Cx p s m args meth c RX11 cX11_round 5 (some .int) := C0
  obtain ⟨Q, hQ⟩ : ∃ z, z = MQ below ((PI G (SC tt) ad [4, 5, 18, 19, 20, 21, 22, 23, 25, 26, 27, 28, 29, 30, 31] ws0 (fun r u => (Rel u) ∧ (Hok u))) A) args s 0 0 A := ⟨_, rfl⟩
  rw [← hQ]
  refine lv_aload_n C0.1 C0.2.1 dX11_round_0 rfl (lv_at hl 0 rfl) ?_
  refine lv_iload_n C0.1 C0.2.1 dX11_round_1 rfl (lv_at hl 1 rfl) ?_
  refine y_ci h (y_rV (As := [.int a1]) (rest := []) C0 hZ h (c_X11_isPerson l G Z ad _ h.2 a1) k_X11_isPerson q_903 q_23 q_901 kSC_0 rfl rfl rfl hl.1 rfl rfl (Nat.le_of_ble_eq_true rfl) dX11_round_2 ⟨Nat.le_of_ble_eq_true rfl, Nat.le_of_ble_eq_true rfl⟩ ⟨Nat.le_of_ble_eq_true rfl, Nat.le_of_ble_eq_true rfl⟩) (fun r_4 H locs ws_1 h u_2 p_3 => ?_)
  obtain ⟨e_5, e_6, e_7⟩ := p_3
  refine y_if_eq (tgt := 30) C0 dX11_round_5 (by decide) (fun c_8 => ?_) (fun c_8 => ?_)
  · -- 5
    refine y_c2 (n := (-2)) C0 (by decide) dX11_round_30 (fun v_9 e_10 => ?_)
    rw [hQ]
    exact y_iret C0 h (Fr.mono u_2 (by decide)) ⟨(Rel.fr (M := []) hR u_2 (by decide) (by decide)), (Hok.fr (M := []) hH u_2 (by decide))⟩ dX11_round_32
  · -- 5
    refine lv_iload_n C0.1 C0.2.1 dX11_round_8 rfl (lv_at hl 2 rfl) ?_
    refine y_ci h (y_rS (As := [.int a2]) (rest := []) C0 hZ h (c_X11_isTray l G Z ad _ h.2 a2) k_X11_isTray q_998 q_997 hl.1 rfl rfl (Nat.le_of_ble_eq_true rfl) dX11_round_9 ⟨Nat.le_of_ble_eq_true rfl, Nat.le_of_ble_eq_true rfl⟩ ⟨Nat.le_of_ble_eq_true rfl, Nat.le_of_ble_eq_true rfl⟩) (fun r_14 H locs ws_11 h u_12 p_13 => ?_)
    obtain ⟨e_15, e_16, e_17⟩ := p_13
    refine y_if_eq (tgt := 30) C0 dX11_round_12 (by decide) (fun c_18 => ?_) (fun c_18 => ?_)
    · -- 12
      refine y_c2 (n := (-2)) C0 (by decide) dX11_round_30 (fun v_19 e_20 => ?_)
      rw [hQ]
      exact y_iret C0 h (Fr.tr (Fr.mono u_2 (by decide)) (Fr.mono u_12 (by decide))) ⟨(Rel.fr (M := []) hR (Fr.tr u_2 u_12) (by decide) (by decide)), (Hok.fr (M := []) hH (Fr.tr u_2 u_12) (by decide))⟩ dX11_round_32
    · -- 12
      refine lv_iload_n C0.1 C0.2.1 dX11_round_15 rfl (lv_at hl 3 rfl) ?_
      refine y_if_lt (tgt := 30) C0 dX11_round_16 (by decide) (fun c_21 => ?_) (fun c_21 => ?_)
      · -- 16
        refine y_c2 (n := (-2)) C0 (by decide) dX11_round_30 (fun v_22 e_23 => ?_)
        rw [hQ]
        exact y_iret C0 h (Fr.tr (Fr.mono u_2 (by decide)) (Fr.mono u_12 (by decide))) ⟨(Rel.fr (M := []) hR (Fr.tr u_2 u_12) (by decide) (by decide)), (Hok.fr (M := []) hH (Fr.tr u_2 u_12) (by decide))⟩ dX11_round_32
      · -- 16
        refine lv_iload_n C0.1 C0.2.1 dX11_round_19 rfl (lv_at hl 3 rfl) ?_
        refine y_c1 (n := 1) C0 (by decide) dX11_round_20 (fun v_24 e_25 => ?_)
        refine y_icmp_le (tgt := 33) C0 dX11_round_21 (by decide) (fun c_26 => ?_) (fun c_26 => ?_)
        · -- 21
          refine lv_aload_n C0.1 C0.2.1 dX11_round_33 rfl (lv_at hl 0 rfl) ?_
          refine tg_X11_trays C0 h kSC_0 q_524 dX11_round_34 ?_
          refine lv_iload_n C0.1 C0.2.1 dX11_round_37 rfl (lv_at hl 2 rfl) ?_
          refine y_aald C0 h kSC_115 rfl rfl (by decide) (o28_43 e_15 e_16 e_17 c_18) (o28_44 e_15 e_16 e_17 c_18) dX11_round_38 ?_
          obtain ⟨i_27, hi_27, ei_27⟩ : ∃ j : Nat, Kd (SC tt) j 42 ∧ j = 107 + 2 * a2.toInt.toNat := ⟨_, aSC_44 (o28_45 e_15 e_16 e_17 c_18), rfl⟩
          rw [← ei_27]
          refine lv_astore (lv' := [(4, .ref (ad i_27)), (0, .ref (ad 0)), (1, .int a1), (2, .int a2), (3, .int a3)]) C0.1 C0.2.1 dX11_round_39 hl (by decide) rfl (fun ls hl => ?_)
          refine lv_aload C0.1 C0.2.1 dX11_round_41 (lv_at hl 0 rfl) ?_
          refine tg_X10_size C0 h hi_27 q_502 dX11_round_43 (fun v_28 e_29 e_30 e_31 => ?_)
          refine y_if_ge (tgt := 52) C0 dX11_round_46 (by decide) (fun c_32 => ?_) (fun c_32 => ?_)
          · -- 46
            refine lv_aload C0.1 C0.2.1 dX11_round_52 (lv_at hl 0 rfl) ?_
            refine tg_X10_size C0 h hi_27 q_502 dX11_round_54 (fun v_33 e_34 e_35 e_36 => ?_)
            have q_37 : v_33.toInt = v_28.toInt := congrArg Int32.toInt (e_34.symm.trans (Eq.trans rfl e_29))
            refine y_c1 (n := 1) C0 (by decide) dX11_round_57 (fun v_38 e_39 => ?_)
            refine y_icmp_lt (tgt := 70) C0 dX11_round_58 (by decide) (fun c_40 => ?_) (fun c_40 => ?_)
            · -- 58
              refine y_c2 (n := (-4)) C0 (by decide) dX11_round_70 (fun v_41 e_42 => ?_)
              rw [hQ]
              exact y_iret C0 h (Fr.tr (Fr.mono u_2 (by decide)) (Fr.mono u_12 (by decide))) ⟨(Rel.fr (M := []) hR (Fr.tr u_2 u_12) (by decide) (by decide)), (Hok.fr (M := []) hH (Fr.tr u_2 u_12) (by decide))⟩ dX11_round_72
            · -- 58
              refine lv_aload C0.1 C0.2.1 dX11_round_61 (lv_at hl 0 rfl) ?_
              refine tg_X10_size C0 h hi_27 q_502 dX11_round_63 (fun v_43 e_44 e_45 e_46 => ?_)
              have q_47 : v_43.toInt = v_28.toInt := congrArg Int32.toInt (e_44.symm.trans (Eq.trans rfl e_29))
              refine y_c1 (n := 4) C0 (by decide) dX11_round_66 (fun v_48 e_49 => ?_)
              refine y_icmp_le (tgt := 73) C0 dX11_round_67 (by decide) (fun c_50 => ?_) (fun c_50 => ?_)
              · -- 67
                refine lv_aload C0.1 C0.2.1 dX11_round_73 (lv_at hl 0 rfl) ?_
                refine lv_aload_n C0.1 C0.2.1 dX11_round_75 rfl (lv_at hl 1 rfl) ?_
                refine tg_X11_now C0 h kSC_0 q_515 dX11_round_76 ?_
                refine y_ci h (y_rV (As := []) (rest := [.ref (ad i_27)]) C0 hZ h (c_X0_crossings l G Z ad _ h.2 1 kSC_1) k_X0_crossings q_918 q_919 q_917 kSC_1 rfl rfl rfl hl.1 rfl rfl (Nat.le_of_ble_eq_true rfl) dX11_round_79 ⟨Nat.le_of_ble_eq_true rfl, Nat.le_of_ble_eq_true rfl⟩ ⟨Nat.le_of_ble_eq_true rfl, Nat.le_of_ble_eq_true rfl⟩) (fun r_54 H locs ws_51 h u_52 p_53 => ?_)
                obtain ⟨e_55, e_56⟩ := p_53
                refine y_ci h (y_rV (As := [.int r_54]) (rest := []) C0 hZ h (c_X10_allBelow l G Z ad _ h.2 i_27 hi_27 r_54) k_X10_allBelow q_1279 q_1280 q_1278 hi_27 rfl rfl rfl hl.1 rfl rfl (Nat.le_of_ble_eq_true rfl) dX11_round_82 ⟨Nat.le_of_ble_eq_true rfl, Nat.le_of_ble_eq_true rfl⟩ ⟨Nat.le_of_ble_eq_true rfl, Nat.le_of_ble_eq_true rfl⟩) (fun r_60 H locs ws_57 h u_58 p_59 => ?_)
                obtain ⟨e_61, e_62⟩ := p_59
                refine y_if_ne (tgt := 91) C0 dX11_round_85 (by decide) (fun c_63 => ?_) (fun c_63 => ?_)
                · -- 85
                  refine lv_aload_n C0.1 C0.2.1 dX11_round_91 rfl (lv_at hl 1 rfl) ?_
                  refine tg_X11_rounds C0 h kSC_0 q_520 dX11_round_92 ?_
                  refine lv_aload C0.1 C0.2.1 dX11_round_95 (lv_at hl 0 rfl) ?_
                  refine y_cv h (y_rV (As := [.ref (ad i_27)]) (rest := []) C0 hZ h (c_X6_begin l G Z ad _ h.2 i_27 hi_27 (fbd_lo (Eq.trans (Eq.trans (Fr.fI u_58 hi_27 (by decide)) (Fr.fI u_52 hi_27 (by decide))) e_29) (o28_46 e_30 e_31 c_32 e_35 e_36 q_37 e_39 c_40 e_45 e_46 q_47 e_49 c_50)) (fbd_hi (Eq.trans (Eq.trans (Fr.fI u_58 hi_27 (by decide)) (Fr.fI u_52 hi_27 (by decide))) e_29) (o28_47 e_30 e_31 c_32 e_35 e_36 q_37 e_39 c_40 e_45 e_46 q_47 e_49 c_50))) k_X6_begin q_1283 q_1284 q_1282 kSC_90 rfl rfl rfl hl.1 rfl rfl (Nat.le_of_ble_eq_true rfl) dX11_round_97 ⟨Nat.le_of_ble_eq_true rfl, Nat.le_of_ble_eq_true rfl⟩ ⟨Nat.le_of_ble_eq_true rfl, Nat.le_of_ble_eq_true rfl⟩) (fun H locs ws_64 h u_65 p_66 => ?_)
                  refine lv_aload_n C0.1 C0.2.1 dX11_round_100 rfl (lv_at hl 1 rfl) ?_
                  refine tg_X11_rounds C0 h kSC_0 q_520 dX11_round_101 ?_
                  refine y_c1 (n := 0) C0 (by decide) dX11_round_104 (fun v_67 e_68 => ?_)
                  refine lv_aload_n C0.1 C0.2.1 dX11_round_105 rfl (lv_at hl 1 rfl) ?_
                  refine tg_X11_now C0 h kSC_0 q_515 dX11_round_106 ?_
                  refine tg_X0_folk C0 h kSC_1 q_249 dX11_round_109 ?_
                  refine lv_iload_n C0.1 C0.2.1 dX11_round_112 rfl (lv_at hl 2 rfl) ?_
                  refine y_ci h (y_rV (As := [.int a1]) (rest := [.int v_67, .ref (ad 90)]) C0 hZ h (c_X1_stand l G Z ad _ h.2 10 kSC_10 a1 (o28_5 e_5 e_6 e_7 c_8) (o28_6 e_5 e_6 e_7 c_8)) k_X1_stand q_1071 q_1072 q_1070 kSC_10 rfl rfl rfl hl.1 rfl rfl (Nat.le_of_ble_eq_true rfl) dX11_round_113 ⟨Nat.le_of_ble_eq_true rfl, Nat.le_of_ble_eq_true rfl⟩ ⟨Nat.le_of_ble_eq_true rfl, Nat.le_of_ble_eq_true rfl⟩) (fun r_72 H locs ws_69 h u_70 p_71 => ?_)
                  obtain ⟨e_73, e_74⟩ := p_71
                  refine y_c1 (n := 0) C0 (by decide) dX11_round_116 (fun v_75 e_76 => ?_)
                  refine y_c1 (n := 0) C0 (by decide) dX11_round_117 (fun v_77 e_78 => ?_)
                  refine y_cv h (y_rVN (As := [.int v_67, .int r_72, .int v_75, .int v_77]) (rest := []) C0 hZ h (c_X6_tour_0 l G Z ad _ h.2 v_67 r_72 v_75 v_77 (o28_17 e_68) (o28_48 e_68) (o28_7 e_73 e_74) (o28_8 e_73 e_74) (o28_17 e_78) (o28_48 e_78) (Rel.fr (M := [28, 29]) hR (Fr.tr (Fr.tr (Fr.tr (Fr.tr (Fr.tr (Fr.mono u_2 (by decide)) (Fr.mono u_12 (by decide))) (Fr.mono u_52 (by decide))) (Fr.mono u_58 (by decide))) u_65) (Fr.mono u_70 (by decide))) (by decide) (by decide))) k_X6_tour q_1290 q_50 C0.2.2.2.2.2.2.2.2.2.2.2.2.1 kSC_90 rfl rfl rfl hl.1 rfl rfl (Nat.le_of_ble_eq_true rfl) dX11_round_118 ⟨Nat.le_of_ble_eq_true rfl, Nat.le_of_ble_eq_true rfl⟩ ⟨Nat.le_of_ble_eq_true rfl, Nat.le_of_ble_eq_true rfl⟩) (fun H locs ws_79 h u_80 p_81 => ?_)
                  refine lv_aload_n C0.1 C0.2.1 dX11_round_121 rfl (lv_at hl 1 rfl) ?_
                  refine tg_X11_rounds C0 h kSC_0 q_520 dX11_round_122 ?_
                  refine lv_iload_n C0.1 C0.2.1 dX11_round_125 rfl (lv_at hl 4 rfl) ?_
                  refine y_ci h (y_rV (As := [.int a3]) (rest := []) C0 hZ h (c_X6_answer l G Z ad _ h.2 a3 (o28_49 c_21 e_25 c_26)) k_X6_answer q_1313 q_1314 q_1312 kSC_90 rfl rfl rfl hl.1 rfl rfl (Nat.le_of_ble_eq_true rfl) dX11_round_126 ⟨Nat.le_of_ble_eq_true rfl, Nat.le_of_ble_eq_true rfl⟩ ⟨Nat.le_of_ble_eq_true rfl, Nat.le_of_ble_eq_true rfl⟩) (fun r_85 H locs ws_82 h u_83 p_84 => ?_)
                  rw [hQ]
                  exact y_iret C0 h (Fr.tr (Fr.tr (Fr.tr (Fr.tr (Fr.tr (Fr.tr (Fr.tr (Fr.mono u_2 (by decide)) (Fr.mono u_12 (by decide))) (Fr.mono u_52 (by decide))) (Fr.mono u_58 (by decide))) (Fr.mono u_65 (by decide))) (Fr.mono u_70 (by decide))) (Fr.mono u_80 (by decide))) (Fr.mono u_83 (by decide))) ⟨(Rel.fr (M := [4, 5, 18, 19, 20, 21, 22, 23, 25, 26, 27, 28, 29, 30, 31]) hR (Fr.tr (Fr.tr (Fr.tr (Fr.tr (Fr.tr (Fr.tr (Fr.tr (Fr.mono u_2 (by decide)) (Fr.mono u_12 (by decide))) (Fr.mono u_52 (by decide))) (Fr.mono u_58 (by decide))) (Fr.mono u_65 (by decide))) (Fr.mono u_70 (by decide))) (Fr.mono u_80 (by decide))) (Fr.mono u_83 (by decide))) (by decide) (by decide)), (Hok.fr (M := [4, 5, 18, 19, 20, 21, 22, 23, 25, 26, 27, 28, 29, 30, 31]) hH (Fr.tr (Fr.tr (Fr.tr (Fr.tr (Fr.tr (Fr.tr (Fr.tr (Fr.mono u_2 (by decide)) (Fr.mono u_12 (by decide))) (Fr.mono u_52 (by decide))) (Fr.mono u_58 (by decide))) (Fr.mono u_65 (by decide))) (Fr.mono u_70 (by decide))) (Fr.mono u_80 (by decide))) (Fr.mono u_83 (by decide))) (by decide))⟩ dX11_round_129
                · -- 85
                  refine y_c2 (n := (-3)) C0 (by decide) dX11_round_88 (fun v_86 e_87 => ?_)
                  rw [hQ]
                  exact y_iret C0 h (Fr.tr (Fr.tr (Fr.tr (Fr.mono u_2 (by decide)) (Fr.mono u_12 (by decide))) (Fr.mono u_52 (by decide))) (Fr.mono u_58 (by decide))) ⟨(Rel.fr (M := []) hR (Fr.tr (Fr.tr (Fr.tr u_2 u_12) u_52) u_58) (by decide) (by decide)), (Hok.fr (M := []) hH (Fr.tr (Fr.tr (Fr.tr u_2 u_12) u_52) u_58) (by decide))⟩ dX11_round_90
              · -- 67
                refine y_c2 (n := (-4)) C0 (by decide) dX11_round_70 (fun v_88 e_89 => ?_)
                rw [hQ]
                exact y_iret C0 h (Fr.tr (Fr.mono u_2 (by decide)) (Fr.mono u_12 (by decide))) ⟨(Rel.fr (M := []) hR (Fr.tr u_2 u_12) (by decide) (by decide)), (Hok.fr (M := []) hH (Fr.tr u_2 u_12) (by decide))⟩ dX11_round_72
          · -- 46
            refine y_c2 (n := (-6)) C0 (by decide) dX11_round_49 (fun v_90 e_91 => ?_)
            rw [hQ]
            exact y_iret C0 h (Fr.tr (Fr.mono u_2 (by decide)) (Fr.mono u_12 (by decide))) ⟨(Rel.fr (M := []) hR (Fr.tr u_2 u_12) (by decide) (by decide)), (Hok.fr (M := []) hH (Fr.tr u_2 u_12) (by decide))⟩ dX11_round_51
        · -- 21
          refine lv_iload_n C0.1 C0.2.1 dX11_round_24 rfl (lv_at hl 3 rfl) ?_
          refine y_c2 (n := 10) C0 (by decide) dX11_round_25 (fun v_92 e_93 => ?_)
          refine y_icmp_ge (tgt := 33) C0 dX11_round_27 (by decide) (fun c_94 => ?_) (fun c_94 => ?_)
          · -- 27
            refine lv_aload_n C0.1 C0.2.1 dX11_round_33 rfl (lv_at hl 0 rfl) ?_
            refine tg_X11_trays C0 h kSC_0 q_524 dX11_round_34 ?_
            refine lv_iload_n C0.1 C0.2.1 dX11_round_37 rfl (lv_at hl 2 rfl) ?_
            refine y_aald C0 h kSC_115 rfl rfl (by decide) (o28_43 e_15 e_16 e_17 c_18) (o28_44 e_15 e_16 e_17 c_18) dX11_round_38 ?_
            obtain ⟨i_95, hi_95, ei_95⟩ : ∃ j : Nat, Kd (SC tt) j 42 ∧ j = 107 + 2 * a2.toInt.toNat := ⟨_, aSC_44 (o28_45 e_15 e_16 e_17 c_18), rfl⟩
            rw [← ei_95]
            refine lv_astore (lv' := [(4, .ref (ad i_95)), (0, .ref (ad 0)), (1, .int a1), (2, .int a2), (3, .int a3)]) C0.1 C0.2.1 dX11_round_39 hl (by decide) rfl (fun ls hl => ?_)
            refine lv_aload C0.1 C0.2.1 dX11_round_41 (lv_at hl 0 rfl) ?_
            refine tg_X10_size C0 h hi_95 q_502 dX11_round_43 (fun v_96 e_97 e_98 e_99 => ?_)
            refine y_if_ge (tgt := 52) C0 dX11_round_46 (by decide) (fun c_100 => ?_) (fun c_100 => ?_)
            · -- 46
              refine lv_aload C0.1 C0.2.1 dX11_round_52 (lv_at hl 0 rfl) ?_
              refine tg_X10_size C0 h hi_95 q_502 dX11_round_54 (fun v_101 e_102 e_103 e_104 => ?_)
              have q_105 : v_101.toInt = v_96.toInt := congrArg Int32.toInt (e_102.symm.trans (Eq.trans rfl e_97))
              refine y_c1 (n := 1) C0 (by decide) dX11_round_57 (fun v_106 e_107 => ?_)
              refine y_icmp_lt (tgt := 70) C0 dX11_round_58 (by decide) (fun c_108 => ?_) (fun c_108 => ?_)
              · -- 58
                refine y_c2 (n := (-4)) C0 (by decide) dX11_round_70 (fun v_109 e_110 => ?_)
                rw [hQ]
                exact y_iret C0 h (Fr.tr (Fr.mono u_2 (by decide)) (Fr.mono u_12 (by decide))) ⟨(Rel.fr (M := []) hR (Fr.tr u_2 u_12) (by decide) (by decide)), (Hok.fr (M := []) hH (Fr.tr u_2 u_12) (by decide))⟩ dX11_round_72
              · -- 58
                refine lv_aload C0.1 C0.2.1 dX11_round_61 (lv_at hl 0 rfl) ?_
                refine tg_X10_size C0 h hi_95 q_502 dX11_round_63 (fun v_111 e_112 e_113 e_114 => ?_)
                have q_115 : v_111.toInt = v_96.toInt := congrArg Int32.toInt (e_112.symm.trans (Eq.trans rfl e_97))
                refine y_c1 (n := 4) C0 (by decide) dX11_round_66 (fun v_116 e_117 => ?_)
                refine y_icmp_le (tgt := 73) C0 dX11_round_67 (by decide) (fun c_118 => ?_) (fun c_118 => ?_)
                · -- 67
                  refine lv_aload C0.1 C0.2.1 dX11_round_73 (lv_at hl 0 rfl) ?_
                  refine lv_aload_n C0.1 C0.2.1 dX11_round_75 rfl (lv_at hl 1 rfl) ?_
                  refine tg_X11_now C0 h kSC_0 q_515 dX11_round_76 ?_
                  refine y_ci h (y_rV (As := []) (rest := [.ref (ad i_95)]) C0 hZ h (c_X0_crossings l G Z ad _ h.2 1 kSC_1) k_X0_crossings q_918 q_919 q_917 kSC_1 rfl rfl rfl hl.1 rfl rfl (Nat.le_of_ble_eq_true rfl) dX11_round_79 ⟨Nat.le_of_ble_eq_true rfl, Nat.le_of_ble_eq_true rfl⟩ ⟨Nat.le_of_ble_eq_true rfl, Nat.le_of_ble_eq_true rfl⟩) (fun r_122 H locs ws_119 h u_120 p_121 => ?_)
                  obtain ⟨e_123, e_124⟩ := p_121
                  refine y_ci h (y_rV (As := [.int r_122]) (rest := []) C0 hZ h (c_X10_allBelow l G Z ad _ h.2 i_95 hi_95 r_122) k_X10_allBelow q_1279 q_1280 q_1278 hi_95 rfl rfl rfl hl.1 rfl rfl (Nat.le_of_ble_eq_true rfl) dX11_round_82 ⟨Nat.le_of_ble_eq_true rfl, Nat.le_of_ble_eq_true rfl⟩ ⟨Nat.le_of_ble_eq_true rfl, Nat.le_of_ble_eq_true rfl⟩) (fun r_128 H locs ws_125 h u_126 p_127 => ?_)
                  obtain ⟨e_129, e_130⟩ := p_127
                  refine y_if_ne (tgt := 91) C0 dX11_round_85 (by decide) (fun c_131 => ?_) (fun c_131 => ?_)
                  · -- 85
                    refine lv_aload_n C0.1 C0.2.1 dX11_round_91 rfl (lv_at hl 1 rfl) ?_
                    refine tg_X11_rounds C0 h kSC_0 q_520 dX11_round_92 ?_
                    refine lv_aload C0.1 C0.2.1 dX11_round_95 (lv_at hl 0 rfl) ?_
                    refine y_cv h (y_rV (As := [.ref (ad i_95)]) (rest := []) C0 hZ h (c_X6_begin l G Z ad _ h.2 i_95 hi_95 (fbd_lo (Eq.trans (Eq.trans (Fr.fI u_126 hi_95 (by decide)) (Fr.fI u_120 hi_95 (by decide))) e_97) (o28_46 e_98 e_99 c_100 e_103 e_104 q_105 e_107 c_108 e_113 e_114 q_115 e_117 c_118)) (fbd_hi (Eq.trans (Eq.trans (Fr.fI u_126 hi_95 (by decide)) (Fr.fI u_120 hi_95 (by decide))) e_97) (o28_47 e_98 e_99 c_100 e_103 e_104 q_105 e_107 c_108 e_113 e_114 q_115 e_117 c_118))) k_X6_begin q_1283 q_1284 q_1282 kSC_90 rfl rfl rfl hl.1 rfl rfl (Nat.le_of_ble_eq_true rfl) dX11_round_97 ⟨Nat.le_of_ble_eq_true rfl, Nat.le_of_ble_eq_true rfl⟩ ⟨Nat.le_of_ble_eq_true rfl, Nat.le_of_ble_eq_true rfl⟩) (fun H locs ws_132 h u_133 p_134 => ?_)
                    refine lv_aload_n C0.1 C0.2.1 dX11_round_100 rfl (lv_at hl 1 rfl) ?_
                    refine tg_X11_rounds C0 h kSC_0 q_520 dX11_round_101 ?_
                    refine y_c1 (n := 0) C0 (by decide) dX11_round_104 (fun v_135 e_136 => ?_)
                    refine lv_aload_n C0.1 C0.2.1 dX11_round_105 rfl (lv_at hl 1 rfl) ?_
                    refine tg_X11_now C0 h kSC_0 q_515 dX11_round_106 ?_
                    refine tg_X0_folk C0 h kSC_1 q_249 dX11_round_109 ?_
                    refine lv_iload_n C0.1 C0.2.1 dX11_round_112 rfl (lv_at hl 2 rfl) ?_
                    refine y_ci h (y_rV (As := [.int a1]) (rest := [.int v_135, .ref (ad 90)]) C0 hZ h (c_X1_stand l G Z ad _ h.2 10 kSC_10 a1 (o28_5 e_5 e_6 e_7 c_8) (o28_6 e_5 e_6 e_7 c_8)) k_X1_stand q_1071 q_1072 q_1070 kSC_10 rfl rfl rfl hl.1 rfl rfl (Nat.le_of_ble_eq_true rfl) dX11_round_113 ⟨Nat.le_of_ble_eq_true rfl, Nat.le_of_ble_eq_true rfl⟩ ⟨Nat.le_of_ble_eq_true rfl, Nat.le_of_ble_eq_true rfl⟩) (fun r_140 H locs ws_137 h u_138 p_139 => ?_)
                    obtain ⟨e_141, e_142⟩ := p_139
                    refine y_c1 (n := 0) C0 (by decide) dX11_round_116 (fun v_143 e_144 => ?_)
                    refine y_c1 (n := 0) C0 (by decide) dX11_round_117 (fun v_145 e_146 => ?_)
                    refine y_cv h (y_rVN (As := [.int v_135, .int r_140, .int v_143, .int v_145]) (rest := []) C0 hZ h (c_X6_tour_0 l G Z ad _ h.2 v_135 r_140 v_143 v_145 (o28_17 e_136) (o28_48 e_136) (o28_7 e_141 e_142) (o28_8 e_141 e_142) (o28_17 e_146) (o28_48 e_146) (Rel.fr (M := [28, 29]) hR (Fr.tr (Fr.tr (Fr.tr (Fr.tr (Fr.tr (Fr.mono u_2 (by decide)) (Fr.mono u_12 (by decide))) (Fr.mono u_120 (by decide))) (Fr.mono u_126 (by decide))) u_133) (Fr.mono u_138 (by decide))) (by decide) (by decide))) k_X6_tour q_1290 q_50 C0.2.2.2.2.2.2.2.2.2.2.2.2.1 kSC_90 rfl rfl rfl hl.1 rfl rfl (Nat.le_of_ble_eq_true rfl) dX11_round_118 ⟨Nat.le_of_ble_eq_true rfl, Nat.le_of_ble_eq_true rfl⟩ ⟨Nat.le_of_ble_eq_true rfl, Nat.le_of_ble_eq_true rfl⟩) (fun H locs ws_147 h u_148 p_149 => ?_)
                    refine lv_aload_n C0.1 C0.2.1 dX11_round_121 rfl (lv_at hl 1 rfl) ?_
                    refine tg_X11_rounds C0 h kSC_0 q_520 dX11_round_122 ?_
                    refine lv_iload_n C0.1 C0.2.1 dX11_round_125 rfl (lv_at hl 4 rfl) ?_
                    refine y_ci h (y_rV (As := [.int a3]) (rest := []) C0 hZ h (c_X6_answer l G Z ad _ h.2 a3 (o28_50 c_21 e_25 c_26 e_93 c_94)) k_X6_answer q_1313 q_1314 q_1312 kSC_90 rfl rfl rfl hl.1 rfl rfl (Nat.le_of_ble_eq_true rfl) dX11_round_126 ⟨Nat.le_of_ble_eq_true rfl, Nat.le_of_ble_eq_true rfl⟩ ⟨Nat.le_of_ble_eq_true rfl, Nat.le_of_ble_eq_true rfl⟩) (fun r_153 H locs ws_150 h u_151 p_152 => ?_)
                    rw [hQ]
                    exact y_iret C0 h (Fr.tr (Fr.tr (Fr.tr (Fr.tr (Fr.tr (Fr.tr (Fr.tr (Fr.mono u_2 (by decide)) (Fr.mono u_12 (by decide))) (Fr.mono u_120 (by decide))) (Fr.mono u_126 (by decide))) (Fr.mono u_133 (by decide))) (Fr.mono u_138 (by decide))) (Fr.mono u_148 (by decide))) (Fr.mono u_151 (by decide))) ⟨(Rel.fr (M := [4, 5, 18, 19, 20, 21, 22, 23, 25, 26, 27, 28, 29, 30, 31]) hR (Fr.tr (Fr.tr (Fr.tr (Fr.tr (Fr.tr (Fr.tr (Fr.tr (Fr.mono u_2 (by decide)) (Fr.mono u_12 (by decide))) (Fr.mono u_120 (by decide))) (Fr.mono u_126 (by decide))) (Fr.mono u_133 (by decide))) (Fr.mono u_138 (by decide))) (Fr.mono u_148 (by decide))) (Fr.mono u_151 (by decide))) (by decide) (by decide)), (Hok.fr (M := [4, 5, 18, 19, 20, 21, 22, 23, 25, 26, 27, 28, 29, 30, 31]) hH (Fr.tr (Fr.tr (Fr.tr (Fr.tr (Fr.tr (Fr.tr (Fr.tr (Fr.mono u_2 (by decide)) (Fr.mono u_12 (by decide))) (Fr.mono u_120 (by decide))) (Fr.mono u_126 (by decide))) (Fr.mono u_133 (by decide))) (Fr.mono u_138 (by decide))) (Fr.mono u_148 (by decide))) (Fr.mono u_151 (by decide))) (by decide))⟩ dX11_round_129
                  · -- 85
                    refine y_c2 (n := (-3)) C0 (by decide) dX11_round_88 (fun v_154 e_155 => ?_)
                    rw [hQ]
                    exact y_iret C0 h (Fr.tr (Fr.tr (Fr.tr (Fr.mono u_2 (by decide)) (Fr.mono u_12 (by decide))) (Fr.mono u_120 (by decide))) (Fr.mono u_126 (by decide))) ⟨(Rel.fr (M := []) hR (Fr.tr (Fr.tr (Fr.tr u_2 u_12) u_120) u_126) (by decide) (by decide)), (Hok.fr (M := []) hH (Fr.tr (Fr.tr (Fr.tr u_2 u_12) u_120) u_126) (by decide))⟩ dX11_round_90
                · -- 67
                  refine y_c2 (n := (-4)) C0 (by decide) dX11_round_70 (fun v_156 e_157 => ?_)
                  rw [hQ]
                  exact y_iret C0 h (Fr.tr (Fr.mono u_2 (by decide)) (Fr.mono u_12 (by decide))) ⟨(Rel.fr (M := []) hR (Fr.tr u_2 u_12) (by decide) (by decide)), (Hok.fr (M := []) hH (Fr.tr u_2 u_12) (by decide))⟩ dX11_round_72
            · -- 46
              refine y_c2 (n := (-6)) C0 (by decide) dX11_round_49 (fun v_158 e_159 => ?_)
              rw [hQ]
              exact y_iret C0 h (Fr.tr (Fr.mono u_2 (by decide)) (Fr.mono u_12 (by decide))) ⟨(Rel.fr (M := []) hR (Fr.tr u_2 u_12) (by decide) (by decide)), (Hok.fr (M := []) hH (Fr.tr u_2 u_12) (by decide))⟩ dX11_round_51
          · -- 27
            refine y_c2 (n := (-2)) C0 (by decide) dX11_round_30 (fun v_160 e_161 => ?_)
            rw [hQ]
            exact y_iret C0 h (Fr.tr (Fr.mono u_2 (by decide)) (Fr.mono u_12 (by decide))) ⟨(Rel.fr (M := []) hR (Fr.tr u_2 u_12) (by decide) (by decide)), (Hok.fr (M := []) hH (Fr.tr u_2 u_12) (by decide))⟩ dX11_round_32
set_option maxHeartbeats 4000000 in
set_option maxRecDepth 100000 in
theorem c_X11_makeFree (l : Launch) (G : GG) (Z : RZ) (ad : Nat → Nat) (ws0 : va_W) (hT : Ty G (SC tt) ad ws0) (a1 : Int32) (a2 : Int32) (a3 : Int32) (a4 : Int32) (hR : Rel ws0) (hH : Hok ws0) : Mq l yX11_makeFree cX11_makeFree 6 (some .int) 8 G Z [.ref (ad 0), .int a1, .int a2, .int a3, .int a4] ws0 (PI G (SC tt) ad [4, 5, 18, 19, 20, 21, 22, 23] ws0 (fun r u => ((-3) ≤ r.toInt) ∧ (Rel u) ∧ (Hok u))) := by
  refine Mq.start (by decide) (Nat.le_of_ble_eq_true rfl) ?_
  intro p e s m below meth c A ls C0 hZ h hl
  have hl : lv_has ls 6 [(0, .ref (ad 0)), (1, .int a1), (2, .int a2), (3, .int a3), (4, .int a4)] := hl
  have h : Wt G (SC tt) ad A s s.heap [] ws0 := ⟨h, hT⟩
  obtain ⟨args, hargs⟩ : ∃ z, z = ([.ref (ad 0), .int a1, .int a2, .int a3, .int a4] : List Value).toArray := ⟨_, rfl⟩
  rw [← hargs] at C0 ⊢
  have C0 : Cx p s m args meth c RX11 cX11_makeFree 6 (some .int) := C0
  obtain ⟨Q, hQ⟩ : ∃ z, z = MQ below ((PI G (SC tt) ad [4, 5, 18, 19, 20, 21, 22, 23] ws0 (fun r u => ((-3) ≤ r.toInt) ∧ (Rel u) ∧ (Hok u))) A) args s 0 0 A := ⟨_, rfl⟩
  rw [← hQ]
  refine lv_aload_n C0.1 C0.2.1 dX11_makeFree_0 rfl (lv_at hl 0 rfl) ?_
  refine lv_iload_n C0.1 C0.2.1 dX11_makeFree_1 rfl (lv_at hl 1 rfl) ?_
  refine y_ci h (y_rV (As := [.int a1]) (rest := []) C0 hZ h (c_X11_isPerson l G Z ad _ h.2 a1) k_X11_isPerson q_903 q_23 q_901 kSC_0 rfl rfl rfl hl.1 rfl rfl (Nat.le_of_ble_eq_true rfl) dX11_makeFree_2 ⟨Nat.le_of_ble_eq_true rfl, Nat.le_of_ble_eq_true rfl⟩ ⟨Nat.le_of_ble_eq_true rfl, Nat.le_of_ble_eq_true rfl⟩) (fun r_4 H locs ws_1 h u_2 p_3 => ?_)
  obtain ⟨e_5, e_6, e_7⟩ := p_3
  refine y_if_eq (tgt := 27) C0 dX11_makeFree_5 (by decide) (fun c_8 => ?_) (fun c_8 => ?_)
  · -- 5
    refine y_c2 (n := (-2)) C0 (by decide) dX11_makeFree_27 (fun v_9 e_10 => ?_)
    rw [hQ]
    exact y_iret C0 h (Fr.mono u_2 (by decide)) ⟨(o28_1 e_10), (Rel.fr (M := []) hR u_2 (by decide) (by decide)), (Hok.fr (M := []) hH u_2 (by decide))⟩ dX11_makeFree_29
  · -- 5
    refine lv_aload_n C0.1 C0.2.1 dX11_makeFree_8 rfl (lv_at hl 0 rfl) ?_
    refine lv_iload_n C0.1 C0.2.1 dX11_makeFree_9 rfl (lv_at hl 2 rfl) ?_
    refine y_ci h (y_rV (As := [.int a2]) (rest := []) C0 hZ h (c_X11_isCrossing l G Z ad _ h.2 a2) k_X11_isCrossing q_915 q_25 q_913 kSC_0 rfl rfl rfl hl.1 rfl rfl (Nat.le_of_ble_eq_true rfl) dX11_makeFree_10 ⟨Nat.le_of_ble_eq_true rfl, Nat.le_of_ble_eq_true rfl⟩ ⟨Nat.le_of_ble_eq_true rfl, Nat.le_of_ble_eq_true rfl⟩) (fun r_14 H locs ws_11 h u_12 p_13 => ?_)
    obtain ⟨e_15, e_16, e_17⟩ := p_13
    refine y_if_eq (tgt := 27) C0 dX11_makeFree_13 (by decide) (fun c_18 => ?_) (fun c_18 => ?_)
    · -- 13
      refine y_c2 (n := (-2)) C0 (by decide) dX11_makeFree_27 (fun v_19 e_20 => ?_)
      rw [hQ]
      exact y_iret C0 h (Fr.tr (Fr.mono u_2 (by decide)) (Fr.mono u_12 (by decide))) ⟨(o28_1 e_20), (Rel.fr (M := []) hR (Fr.tr u_2 u_12) (by decide) (by decide)), (Hok.fr (M := []) hH (Fr.tr u_2 u_12) (by decide))⟩ dX11_makeFree_29
    · -- 13
      refine lv_iload C0.1 C0.2.1 dX11_makeFree_16 (lv_at hl 4 rfl) ?_
      refine y_if_lt (tgt := 27) C0 dX11_makeFree_18 (by decide) (fun c_21 => ?_) (fun c_21 => ?_)
      · -- 18
        refine y_c2 (n := (-2)) C0 (by decide) dX11_makeFree_27 (fun v_22 e_23 => ?_)
        rw [hQ]
        exact y_iret C0 h (Fr.tr (Fr.mono u_2 (by decide)) (Fr.mono u_12 (by decide))) ⟨(o28_1 e_23), (Rel.fr (M := []) hR (Fr.tr u_2 u_12) (by decide) (by decide)), (Hok.fr (M := []) hH (Fr.tr u_2 u_12) (by decide))⟩ dX11_makeFree_29
      · -- 18
        refine lv_iload C0.1 C0.2.1 dX11_makeFree_21 (lv_at hl 4 rfl) ?_
        refine y_c1 (n := 1) C0 (by decide) dX11_makeFree_23 (fun v_24 e_25 => ?_)
        refine y_icmp_le (tgt := 30) C0 dX11_makeFree_24 (by decide) (fun c_26 => ?_) (fun c_26 => ?_)
        · -- 24
          refine lv_iload_n C0.1 C0.2.1 dX11_makeFree_30 rfl (lv_at hl 3 rfl) ?_
          refine y_if_lt (tgt := 40) C0 dX11_makeFree_31 (by decide) (fun c_27 => ?_) (fun c_27 => ?_)
          · -- 31
            refine y_c2 (n := (-3)) C0 (by decide) dX11_makeFree_40 (fun v_28 e_29 => ?_)
            rw [hQ]
            exact y_iret C0 h (Fr.tr (Fr.mono u_2 (by decide)) (Fr.mono u_12 (by decide))) ⟨(o28_3 e_29), (Rel.fr (M := []) hR (Fr.tr u_2 u_12) (by decide) (by decide)), (Hok.fr (M := []) hH (Fr.tr u_2 u_12) (by decide))⟩ dX11_makeFree_42
          · -- 31
            refine lv_iload_n C0.1 C0.2.1 dX11_makeFree_34 rfl (lv_at hl 3 rfl) ?_
            refine y_c2 (n := 20) C0 (by decide) dX11_makeFree_35 (fun v_30 e_31 => ?_)
            refine y_icmp_le (tgt := 43) C0 dX11_makeFree_37 (by decide) (fun c_32 => ?_) (fun c_32 => ?_)
            · -- 37
              refine lv_aload_n C0.1 C0.2.1 dX11_makeFree_43 rfl (lv_at hl 0 rfl) ?_
              refine tg_X11_spread C0 h kSC_0 q_522 dX11_makeFree_44 ?_
              refine lv_aload_n C0.1 C0.2.1 dX11_makeFree_47 rfl (lv_at hl 0 rfl) ?_
              refine tg_X11_now C0 h kSC_0 q_515 dX11_makeFree_48 ?_
              refine tg_X0_folk C0 h kSC_1 q_249 dX11_makeFree_51 ?_
              refine lv_iload_n C0.1 C0.2.1 dX11_makeFree_54 rfl (lv_at hl 1 rfl) ?_
              refine y_ci h (y_rV (As := [.int a1]) (rest := [.ref (ad 83)]) C0 hZ h (c_X1_stand l G Z ad _ h.2 10 kSC_10 a1 (o28_5 e_5 e_6 e_7 c_8) (o28_6 e_5 e_6 e_7 c_8)) k_X1_stand q_1071 q_1072 q_1070 kSC_10 rfl rfl rfl hl.1 rfl rfl (Nat.le_of_ble_eq_true rfl) dX11_makeFree_55 ⟨Nat.le_of_ble_eq_true rfl, Nat.le_of_ble_eq_true rfl⟩ ⟨Nat.le_of_ble_eq_true rfl, Nat.le_of_ble_eq_true rfl⟩) (fun r_36 H locs ws_33 h u_34 p_35 => ?_)
              obtain ⟨e_37, e_38⟩ := p_35
              refine lv_iload_n C0.1 C0.2.1 dX11_makeFree_58 rfl (lv_at hl 2 rfl) ?_
              refine lv_iload_n C0.1 C0.2.1 dX11_makeFree_59 rfl (lv_at hl 3 rfl) ?_
              refine y_ci h (y_rV (As := [.int r_36, .int a2, .int a3]) (rest := []) C0 hZ h (c_X8_cornersToFree l G Z ad _ h.2 r_36 a2 a3 (o28_7 e_37 e_38) (o28_8 e_37 e_38) (o28_28 c_27 e_31 c_32) (o28_51 c_27 e_31 c_32)) k_X8_cornersToFree q_1321 q_1322 q_1320 kSC_83 rfl rfl rfl hl.1 rfl rfl (Nat.le_of_ble_eq_true rfl) dX11_makeFree_60 ⟨Nat.le_of_ble_eq_true rfl, Nat.le_of_ble_eq_true rfl⟩ ⟨Nat.le_of_ble_eq_true rfl, Nat.le_of_ble_eq_true rfl⟩) (fun r_42 H locs ws_39 h u_40 p_41 => ?_)
              refine lv_istore (lv' := [(5, .int r_42), (0, .ref (ad 0)), (1, .int a1), (2, .int a2), (3, .int a3), (4, .int a4)]) C0.1 C0.2.1 dX11_makeFree_63 hl (by decide) rfl (fun ls hl => ?_)
              refine lv_iload C0.1 C0.2.1 dX11_makeFree_65 (lv_at hl 0 rfl) ?_
              refine y_if_ge (tgt := 72) C0 dX11_makeFree_67 (by decide) (fun c_43 => ?_) (fun c_43 => ?_)
              · -- 67
                refine lv_iload C0.1 C0.2.1 dX11_makeFree_72 (lv_at hl 5 rfl) ?_
                refine y_if_ne (tgt := 85) C0 dX11_makeFree_74 (by decide) (fun c_44 => ?_) (fun c_44 => ?_)
                · -- 74
                  refine lv_iload C0.1 C0.2.1 dX11_makeFree_85 (lv_at hl 0 rfl) ?_
                  rw [hQ]
                  exact y_iret C0 h (Fr.tr (Fr.tr (Fr.tr (Fr.mono u_2 (by decide)) (Fr.mono u_12 (by decide))) (Fr.mono u_34 (by decide))) u_40) ⟨(o28_52 c_43), (Rel.fr (M := [4, 5, 18, 19, 20, 21, 22, 23]) hR (Fr.tr (Fr.tr (Fr.tr (Fr.mono u_2 (by decide)) (Fr.mono u_12 (by decide))) (Fr.mono u_34 (by decide))) u_40) (by decide) (by decide)), (Hok.fr (M := [4, 5, 18, 19, 20, 21, 22, 23]) hH (Fr.tr (Fr.tr (Fr.tr (Fr.mono u_2 (by decide)) (Fr.mono u_12 (by decide))) (Fr.mono u_34 (by decide))) u_40) (by decide))⟩ dX11_makeFree_87
                · -- 74
                  refine lv_iload C0.1 C0.2.1 dX11_makeFree_77 (lv_at hl 0 rfl) ?_
                  refine y_ci h (y_rS (As := [.int r_42]) (rest := []) C0 hZ h (c_J6_bitCount_0f7a4 l G Z ad _ h.2 r_42) k_J6_bitCount_0f7a4 q_1035 q_1034 hl.1 rfl rfl (Nat.le_of_ble_eq_true rfl) dX11_makeFree_79 ⟨Nat.le_of_ble_eq_true rfl, Nat.le_of_ble_eq_true rfl⟩ ⟨Nat.le_of_ble_eq_true rfl, Nat.le_of_ble_eq_true rfl⟩) (fun r_48 H locs ws_45 h u_46 p_47 => ?_)
                  obtain ⟨e_49, e_50⟩ := p_47
                  refine lv_goto (tgt := 87) C0.1 C0.2.1 dX11_makeFree_82 (by decide) ?_
                  rw [hQ]
                  exact y_iret C0 h (Fr.tr (Fr.tr (Fr.tr (Fr.tr (Fr.mono u_2 (by decide)) (Fr.mono u_12 (by decide))) (Fr.mono u_34 (by decide))) u_40) (Fr.mono u_46 (by decide))) ⟨(o28_53 e_49 e_50), (Rel.fr (M := [4, 5, 18, 19, 20, 21, 22, 23]) hR (Fr.tr (Fr.tr (Fr.tr (Fr.tr (Fr.mono u_2 (by decide)) (Fr.mono u_12 (by decide))) (Fr.mono u_34 (by decide))) u_40) (Fr.mono u_46 (by decide))) (by decide) (by decide)), (Hok.fr (M := [4, 5, 18, 19, 20, 21, 22, 23]) hH (Fr.tr (Fr.tr (Fr.tr (Fr.tr (Fr.mono u_2 (by decide)) (Fr.mono u_12 (by decide))) (Fr.mono u_34 (by decide))) u_40) (Fr.mono u_46 (by decide))) (by decide))⟩ dX11_makeFree_87
              · -- 67
                refine y_c1 (n := (-1)) C0 (by decide) dX11_makeFree_70 (fun v_51 e_52 => ?_)
                rw [hQ]
                exact y_iret C0 h (Fr.tr (Fr.tr (Fr.tr (Fr.mono u_2 (by decide)) (Fr.mono u_12 (by decide))) (Fr.mono u_34 (by decide))) u_40) ⟨(o28_54 e_52), (Rel.fr (M := [4, 5, 18, 19, 20, 21, 22, 23]) hR (Fr.tr (Fr.tr (Fr.tr (Fr.mono u_2 (by decide)) (Fr.mono u_12 (by decide))) (Fr.mono u_34 (by decide))) u_40) (by decide) (by decide)), (Hok.fr (M := [4, 5, 18, 19, 20, 21, 22, 23]) hH (Fr.tr (Fr.tr (Fr.tr (Fr.mono u_2 (by decide)) (Fr.mono u_12 (by decide))) (Fr.mono u_34 (by decide))) u_40) (by decide))⟩ dX11_makeFree_71
            · -- 37
              refine y_c2 (n := (-3)) C0 (by decide) dX11_makeFree_40 (fun v_53 e_54 => ?_)
              rw [hQ]
              exact y_iret C0 h (Fr.tr (Fr.mono u_2 (by decide)) (Fr.mono u_12 (by decide))) ⟨(o28_3 e_54), (Rel.fr (M := []) hR (Fr.tr u_2 u_12) (by decide) (by decide)), (Hok.fr (M := []) hH (Fr.tr u_2 u_12) (by decide))⟩ dX11_makeFree_42
        · -- 24
          refine y_c2 (n := (-2)) C0 (by decide) dX11_makeFree_27 (fun v_55 e_56 => ?_)
          rw [hQ]
          exact y_iret C0 h (Fr.tr (Fr.mono u_2 (by decide)) (Fr.mono u_12 (by decide))) ⟨(o28_1 e_56), (Rel.fr (M := []) hR (Fr.tr u_2 u_12) (by decide) (by decide)), (Hok.fr (M := []) hH (Fr.tr u_2 u_12) (by decide))⟩ dX11_makeFree_29
set_option maxHeartbeats 4000000 in
set_option maxRecDepth 100000 in
theorem c_X11_bestCorner (l : Launch) (G : GG) (Z : RZ) (ad : Nat → Nat) (ws0 : va_W) (hT : Ty G (SC tt) ad ws0) (a1 : Int32) (a2 : Int32) (a3 : Int32) (hR : Rel ws0) (hH : Hok ws0) : Mq l yX11_bestCorner cX11_bestCorner 9 (some .int) 7 G Z [.ref (ad 0), .int a1, .int a2, .int a3] ws0 (PI G (SC tt) ad [4, 5, 18, 19, 20, 21, 22, 23] ws0 (fun r u => ((-3) ≤ r.toInt) ∧ (r.toInt ≤ 24) ∧ (Rel u) ∧ (Hok u))) := by
  refine Mq.start (by decide) (Nat.le_of_ble_eq_true rfl) ?_
  intro p e s m below meth c A ls C0 hZ h hl
  have hl : lv_has ls 9 [(0, .ref (ad 0)), (1, .int a1), (2, .int a2), (3, .int a3)] := hl
  have h : Wt G (SC tt) ad A s s.heap [] ws0 := ⟨h, hT⟩
  obtain ⟨args, hargs⟩ : ∃ z, z = ([.ref (ad 0), .int a1, .int a2, .int a3] : List Value).toArray := ⟨_, rfl⟩
  rw [← hargs] at C0 ⊢
  have C0 : Cx p s m args meth c RX11 cX11_bestCorner 9 (some .int) := C0
  obtain ⟨Q, hQ⟩ : ∃ z, z = MQ below ((PI G (SC tt) ad [4, 5, 18, 19, 20, 21, 22, 23] ws0 (fun r u => ((-3) ≤ r.toInt) ∧ (r.toInt ≤ 24) ∧ (Rel u) ∧ (Hok u))) A) args s 0 0 A := ⟨_, rfl⟩
  rw [← hQ]
  refine lv_aload_n C0.1 C0.2.1 dX11_bestCorner_0 rfl (lv_at hl 0 rfl) ?_
  refine lv_iload_n C0.1 C0.2.1 dX11_bestCorner_1 rfl (lv_at hl 1 rfl) ?_
  refine y_ci h (y_rV (As := [.int a1]) (rest := []) C0 hZ h (c_X11_isPerson l G Z ad _ h.2 a1) k_X11_isPerson q_903 q_23 q_901 kSC_0 rfl rfl rfl hl.1 rfl rfl (Nat.le_of_ble_eq_true rfl) dX11_bestCorner_2 ⟨Nat.le_of_ble_eq_true rfl, Nat.le_of_ble_eq_true rfl⟩ ⟨Nat.le_of_ble_eq_true rfl, Nat.le_of_ble_eq_true rfl⟩) (fun r_4 H locs ws_1 h u_2 p_3 => ?_)
  obtain ⟨e_5, e_6, e_7⟩ := p_3
  refine y_if_eq (tgt := 16) C0 dX11_bestCorner_5 (by decide) (fun c_8 => ?_) (fun c_8 => ?_)
  · -- 5
    refine y_c2 (n := (-2)) C0 (by decide) dX11_bestCorner_16 (fun v_9 e_10 => ?_)
    rw [hQ]
    exact y_iret C0 h (Fr.mono u_2 (by decide)) ⟨(o28_1 e_10), (o28_55 e_10), (Rel.fr (M := []) hR u_2 (by decide) (by decide)), (Hok.fr (M := []) hH u_2 (by decide))⟩ dX11_bestCorner_18
  · -- 5
    refine lv_aload_n C0.1 C0.2.1 dX11_bestCorner_8 rfl (lv_at hl 0 rfl) ?_
    refine lv_iload_n C0.1 C0.2.1 dX11_bestCorner_9 rfl (lv_at hl 2 rfl) ?_
    refine y_ci h (y_rV (As := [.int a2]) (rest := []) C0 hZ h (c_X11_isCrossing l G Z ad _ h.2 a2) k_X11_isCrossing q_915 q_25 q_913 kSC_0 rfl rfl rfl hl.1 rfl rfl (Nat.le_of_ble_eq_true rfl) dX11_bestCorner_10 ⟨Nat.le_of_ble_eq_true rfl, Nat.le_of_ble_eq_true rfl⟩ ⟨Nat.le_of_ble_eq_true rfl, Nat.le_of_ble_eq_true rfl⟩) (fun r_14 H locs ws_11 h u_12 p_13 => ?_)
    obtain ⟨e_15, e_16, e_17⟩ := p_13
    refine y_if_ne (tgt := 19) C0 dX11_bestCorner_13 (by decide) (fun c_18 => ?_) (fun c_18 => ?_)
    · -- 13
      refine lv_iload_n C0.1 C0.2.1 dX11_bestCorner_19 rfl (lv_at hl 3 rfl) ?_
      refine y_if_lt (tgt := 29) C0 dX11_bestCorner_20 (by decide) (fun c_19 => ?_) (fun c_19 => ?_)
      · -- 20
        refine y_c2 (n := (-3)) C0 (by decide) dX11_bestCorner_29 (fun v_20 e_21 => ?_)
        rw [hQ]
        exact y_iret C0 h (Fr.tr (Fr.mono u_2 (by decide)) (Fr.mono u_12 (by decide))) ⟨(o28_3 e_21), (o28_56 e_21), (Rel.fr (M := []) hR (Fr.tr u_2 u_12) (by decide) (by decide)), (Hok.fr (M := []) hH (Fr.tr u_2 u_12) (by decide))⟩ dX11_bestCorner_31
      · -- 20
        refine lv_iload_n C0.1 C0.2.1 dX11_bestCorner_23 rfl (lv_at hl 3 rfl) ?_
        refine y_c2 (n := 30) C0 (by decide) dX11_bestCorner_24 (fun v_22 e_23 => ?_)
        refine y_icmp_le (tgt := 32) C0 dX11_bestCorner_26 (by decide) (fun c_24 => ?_) (fun c_24 => ?_)
        · -- 26
          refine lv_aload_n C0.1 C0.2.1 dX11_bestCorner_32 rfl (lv_at hl 0 rfl) ?_
          refine tg_X11_now C0 h kSC_0 q_515 dX11_bestCorner_33 ?_
          refine tg_X0_folk C0 h kSC_1 q_249 dX11_bestCorner_36 ?_
          refine lv_iload_n C0.1 C0.2.1 dX11_bestCorner_39 rfl (lv_at hl 1 rfl) ?_
          refine y_ci h (y_rV (As := [.int a1]) (rest := []) C0 hZ h (c_X1_stand l G Z ad _ h.2 10 kSC_10 a1 (o28_5 e_5 e_6 e_7 c_8) (o28_6 e_5 e_6 e_7 c_8)) k_X1_stand q_1071 q_1072 q_1070 kSC_10 rfl rfl rfl hl.1 rfl rfl (Nat.le_of_ble_eq_true rfl) dX11_bestCorner_40 ⟨Nat.le_of_ble_eq_true rfl, Nat.le_of_ble_eq_true rfl⟩ ⟨Nat.le_of_ble_eq_true rfl, Nat.le_of_ble_eq_true rfl⟩) (fun r_28 H locs ws_25 h u_26 p_27 => ?_)
          obtain ⟨e_29, e_30⟩ := p_27
          refine lv_istore (lv' := [(4, .int r_28), (0, .ref (ad 0)), (1, .int a1), (2, .int a2), (3, .int a3)]) C0.1 C0.2.1 dX11_bestCorner_43 hl (by decide) rfl (fun ls hl => ?_)
          refine lv_aload_n C0.1 C0.2.1 dX11_bestCorner_45 rfl (lv_at hl 1 rfl) ?_
          refine tg_X11_spread C0 h kSC_0 q_522 dX11_bestCorner_46 ?_
          refine lv_iload C0.1 C0.2.1 dX11_bestCorner_49 (lv_at hl 0 rfl) ?_
          refine y_c1 (n := 0) C0 (by decide) dX11_bestCorner_51 (fun v_31 e_32 => ?_)
          refine lv_iload_n C0.1 C0.2.1 dX11_bestCorner_52 rfl (lv_at hl 3 rfl) ?_
          refine lv_iload_n C0.1 C0.2.1 dX11_bestCorner_53 rfl (lv_at hl 4 rfl) ?_
          refine y_c1 (n := 0) C0 (by decide) dX11_bestCorner_54 (fun v_33 e_34 => ?_)
          refine y_ci h (y_rV (As := [.int r_28, .int v_31, .int a2, .int a3, .int v_33]) (rest := []) C0 hZ h (c_X8_fewestLefts l G Z ad _ h.2 r_28 v_31 a2 a3 v_33 (o28_7 e_29 e_30) (o28_8 e_29 e_30) (o28_17 e_32) (o28_18 e_32) (o28_57 c_19 e_23 c_24) (o28_58 c_19 e_23 c_24)) k_X8_fewestLefts q_1203 q_1204 q_1202 kSC_83 rfl rfl rfl hl.1 rfl rfl (Nat.le_of_ble_eq_true rfl) dX11_bestCorner_55 ⟨Nat.le_of_ble_eq_true rfl, Nat.le_of_ble_eq_true rfl⟩ ⟨Nat.le_of_ble_eq_true rfl, Nat.le_of_ble_eq_true rfl⟩) (fun r_38 H locs ws_35 h u_36 p_37 => ?_)
          obtain ⟨e_39, e_40⟩ := p_37
          refine lv_istore (lv' := [(5, .int r_38), (4, .int r_28), (0, .ref (ad 0)), (1, .int a1), (2, .int a2), (3, .int a3)]) C0.1 C0.2.1 dX11_bestCorner_58 hl (by decide) rfl (fun ls hl => ?_)
          refine y_c1 (n := (-1)) C0 (by decide) dX11_bestCorner_60 (fun v_41 e_42 => ?_)
          refine lv_istore (lv' := [(6, .int v_41), (5, .int r_38), (4, .int r_28), (0, .ref (ad 0)), (1, .int a1), (2, .int a2), (3, .int a3)]) C0.1 C0.2.1 dX11_bestCorner_61 hl (by decide) rfl (fun ls hl => ?_)
          refine y_c1 (n := 0) C0 (by decide) dX11_bestCorner_63 (fun v_43 e_44 => ?_)
          refine lv_istore (lv' := [(7, .int v_43), (6, .int v_41), (5, .int r_38), (4, .int r_28), (0, .ref (ad 0)), (1, .int a1), (2, .int a2), (3, .int a3)]) C0.1 C0.2.1 dX11_bestCorner_64 hl (by decide) rfl (fun ls hl => ?_)
          have lp_50 : ∀ (n_52 : Nat) (x7_45 : Int32) (x6_46 : Int32) (x5_47 : Int32) (H : Heap) (locs : List Loc) (ls : Array Slot) (ws_48 : va_W), 25 - x7_45.toInt < (n_52 : Int) → 0 ≤ x7_45.toInt → x7_45.toInt ≤ 25 → (-1) ≤ x6_46.toInt → x6_46.toInt ≤ 24 → (-1) ≤ x5_47.toInt → x5_47.toInt ≤ 120 → Wt G (SC tt) ad A s H locs ws_48 → Fr (SC tt) [4, 5, 18, 19, 20, 21, 22, 23] ws_35 ws_48 → lv_has ls 9 [(7, .int x7_45), (6, .int x6_46), (5, .int x5_47), (4, .int r_28), (0, .ref (ad 0)), (1, .int a1), (2, .int a2), (3, .int a3)] → W p l e (rmd 7 0 0) s m args below meth c H locs 0 0 Q (F0 m 66 ls []) := by
            intro n_52
            induction n_52 with
            | zero => intro x7_45 x6_46 x5_47 H locs ls ws_48 hn_53 b_54 b_55 b_56 b_57 b_58 b_59 h hF_49 hl; exact ((o28_59 b_54 b_55 hn_53)).elim
            | succ n_52 ih_51 =>
              intro x7_45 x6_46 x5_47 H locs ls ws_48 hn_53 b_54 b_55 b_56 b_57 b_58 b_59 h hF_49 hl
              refine lv_iload C0.1 C0.2.1 dX11_bestCorner_66 (lv_at hl 0 rfl) ?_
              refine lv_aload_n C0.1 C0.2.1 dX11_bestCorner_68 rfl (lv_at hl 4 rfl) ?_
              refine tg_X11_now C0 h kSC_0 q_515 dX11_bestCorner_69 ?_
              refine y_ci h (y_rV (As := []) (rest := [.int x7_45]) C0 hZ h (c_X0_crossings l G Z ad _ h.2 1 kSC_1) k_X0_crossings q_918 q_919 q_917 kSC_1 rfl rfl rfl hl.1 rfl rfl (Nat.le_of_ble_eq_true rfl) dX11_bestCorner_72 ⟨Nat.le_of_ble_eq_true rfl, Nat.le_of_ble_eq_true rfl⟩ ⟨Nat.le_of_ble_eq_true rfl, Nat.le_of_ble_eq_true rfl⟩) (fun r_63 H locs ws_60 h u_61 p_62 => ?_)
              obtain ⟨e_64, e_65⟩ := p_62
              refine y_icmp_ge (tgt := 122) C0 dX11_bestCorner_75 (by decide) (fun c_66 => ?_) (fun c_66 => ?_)
              · -- 75
                refine lv_iload C0.1 C0.2.1 dX11_bestCorner_122 (lv_at hl 1 rfl) ?_
                rw [hQ]
                exact y_iret C0 h (Fr.tr (Fr.tr (Fr.tr (Fr.tr (Fr.tr (Fr.mono u_2 (by decide)) (Fr.mono u_12 (by decide))) (Fr.mono u_26 (by decide))) u_36) hF_49) (Fr.mono u_61 (by decide))) ⟨(o28_60 b_56 b_57), (o28_61 b_56 b_57), (Rel.fr (M := [4, 5, 18, 19, 20, 21, 22, 23]) hR (Fr.tr (Fr.tr (Fr.tr (Fr.tr (Fr.tr (Fr.mono u_2 (by decide)) (Fr.mono u_12 (by decide))) (Fr.mono u_26 (by decide))) u_36) hF_49) (Fr.mono u_61 (by decide))) (by decide) (by decide)), (Hok.fr (M := [4, 5, 18, 19, 20, 21, 22, 23]) hH (Fr.tr (Fr.tr (Fr.tr (Fr.tr (Fr.tr (Fr.mono u_2 (by decide)) (Fr.mono u_12 (by decide))) (Fr.mono u_26 (by decide))) u_36) hF_49) (Fr.mono u_61 (by decide))) (by decide))⟩ dX11_bestCorner_124
              · -- 75
                refine lv_iload C0.1 C0.2.1 dX11_bestCorner_78 (lv_at hl 2 rfl) ?_
                refine y_if_le (tgt := 122) C0 dX11_bestCorner_80 (by decide) (fun c_67 => ?_) (fun c_67 => ?_)
                · -- 80
                  refine lv_iload C0.1 C0.2.1 dX11_bestCorner_122 (lv_at hl 1 rfl) ?_
                  rw [hQ]
                  exact y_iret C0 h (Fr.tr (Fr.tr (Fr.tr (Fr.tr (Fr.tr (Fr.mono u_2 (by decide)) (Fr.mono u_12 (by decide))) (Fr.mono u_26 (by decide))) u_36) hF_49) (Fr.mono u_61 (by decide))) ⟨(o28_60 b_56 b_57), (o28_61 b_56 b_57), (Rel.fr (M := [4, 5, 18, 19, 20, 21, 22, 23]) hR (Fr.tr (Fr.tr (Fr.tr (Fr.tr (Fr.tr (Fr.mono u_2 (by decide)) (Fr.mono u_12 (by decide))) (Fr.mono u_26 (by decide))) u_36) hF_49) (Fr.mono u_61 (by decide))) (by decide) (by decide)), (Hok.fr (M := [4, 5, 18, 19, 20, 21, 22, 23]) hH (Fr.tr (Fr.tr (Fr.tr (Fr.tr (Fr.tr (Fr.mono u_2 (by decide)) (Fr.mono u_12 (by decide))) (Fr.mono u_26 (by decide))) u_36) hF_49) (Fr.mono u_61 (by decide))) (by decide))⟩ dX11_bestCorner_124
                · -- 80
                  refine lv_aload_n C0.1 C0.2.1 dX11_bestCorner_83 rfl (lv_at hl 4 rfl) ?_
                  refine tg_X11_spread C0 h kSC_0 q_522 dX11_bestCorner_84 ?_
                  refine lv_iload C0.1 C0.2.1 dX11_bestCorner_87 (lv_at hl 3 rfl) ?_
                  refine y_c1 (n := 0) C0 (by decide) dX11_bestCorner_89 (fun v_68 e_69 => ?_)
                  refine lv_iload_n C0.1 C0.2.1 dX11_bestCorner_90 rfl (lv_at hl 6 rfl) ?_
                  refine lv_iload_n C0.1 C0.2.1 dX11_bestCorner_91 rfl (lv_at hl 7 rfl) ?_
                  refine y_c1 (n := 1) C0 (by decide) dX11_bestCorner_92 (fun v_70 e_71 => ?_)
                  refine lv_iload C0.1 C0.2.1 dX11_bestCorner_93 (lv_at hl 0 rfl) ?_
                  refine y_ishlU C0 dX11_bestCorner_95 (fun v_72 => ?_)
                  refine y_ci h (y_rV (As := [.int r_28, .int v_68, .int a2, .int a3, .int v_72]) (rest := []) C0 hZ h (c_X8_fewestLefts l G Z ad _ h.2 r_28 v_68 a2 a3 v_72 (o28_7 e_29 e_30) (o28_8 e_29 e_30) (o28_17 e_69) (o28_18 e_69) (o28_57 c_19 e_23 c_24) (o28_58 c_19 e_23 c_24)) k_X8_fewestLefts q_1203 q_1204 q_1202 kSC_83 rfl rfl rfl hl.1 rfl rfl (Nat.le_of_ble_eq_true rfl) dX11_bestCorner_96 ⟨Nat.le_of_ble_eq_true rfl, Nat.le_of_ble_eq_true rfl⟩ ⟨Nat.le_of_ble_eq_true rfl, Nat.le_of_ble_eq_true rfl⟩) (fun r_76 H locs ws_73 h u_74 p_75 => ?_)
                  obtain ⟨e_77, e_78⟩ := p_75
                  refine lv_istore (lv' := [(8, .int r_76), (7, .int x7_45), (6, .int x6_46), (5, .int x5_47), (4, .int r_28), (0, .ref (ad 0)), (1, .int a1), (2, .int a2), (3, .int a3)]) C0.1 C0.2.1 dX11_bestCorner_99 hl (by decide) rfl (fun ls hl => ?_)
                  refine lv_iload C0.1 C0.2.1 dX11_bestCorner_101 (lv_at hl 0 rfl) ?_
                  refine lv_iload C0.1 C0.2.1 dX11_bestCorner_103 (lv_at hl 3 rfl) ?_
                  refine y_icmp_ge (tgt := 116) C0 dX11_bestCorner_105 (by decide) (fun c_79 => ?_) (fun c_79 => ?_)
                  · -- 105
                    refine y_inc (kp := 1) (n := 1) (fun v_80 => [(7, .int v_80), (8, .int r_76), (6, .int x6_46), (5, .int x5_47), (4, .int r_28), (0, .ref (ad 0)), (1, .int a1), (2, .int a2), (3, .int a3)]) C0 hl rfl (by decide) (by decide) (fun _ => rfl) (o28_62 b_54 b_55 hn_53 e_64 e_65 c_66 (le_min x7_45) (le_max x7_45) (le_min r_63) (le_max r_63)) (o28_63 b_54 b_55 hn_53 e_64 e_65 c_66 (le_min x7_45) (le_max x7_45) (le_min r_63) (le_max r_63)) dX11_bestCorner_116 (fun v_80 ls e_81 hl => ?_)
                    refine lv_goto (tgt := 66) C0.1 C0.2.1 dX11_bestCorner_119 (by decide) ?_
                    exact ih_51 v_80 x6_46 x5_47 _ _ _ _ (o28_64 b_54 b_55 hn_53 e_64 e_65 c_66 e_81) (o28_65 b_54 b_55 hn_53 e_64 e_65 c_66 e_81) (o28_66 b_54 b_55 hn_53 e_64 e_65 c_66 e_81) (o28_67 b_56 b_57) (o28_61 b_56 b_57) (o28_68 b_58 b_59 c_67 e_77 e_78 c_79) (o28_69 b_58 b_59 c_67 e_77 e_78 c_79) h (Fr.tr (Fr.tr hF_49 (Fr.mono u_61 (by decide))) u_74) (lv_sub hl [0, 2, 3, 4, 5, 6, 7, 8] rfl)
                  · -- 105
                    refine lv_iload C0.1 C0.2.1 dX11_bestCorner_108 (lv_at hl 0 rfl) ?_
                    refine lv_istore (lv' := [(5, .int r_76), (8, .int r_76), (7, .int x7_45), (6, .int x6_46), (4, .int r_28), (0, .ref (ad 0)), (1, .int a1), (2, .int a2), (3, .int a3)]) C0.1 C0.2.1 dX11_bestCorner_110 hl (by decide) rfl (fun ls hl => ?_)
                    refine lv_iload C0.1 C0.2.1 dX11_bestCorner_112 (lv_at hl 2 rfl) ?_
                    refine lv_istore (lv' := [(6, .int x7_45), (5, .int r_76), (8, .int r_76), (7, .int x7_45), (4, .int r_28), (0, .ref (ad 0)), (1, .int a1), (2, .int a2), (3, .int a3)]) C0.1 C0.2.1 dX11_bestCorner_114 hl (by decide) rfl (fun ls hl => ?_)
                    refine y_inc (kp := 3) (n := 1) (fun v_82 => [(7, .int v_82), (6, .int x7_45), (5, .int r_76), (8, .int r_76), (4, .int r_28), (0, .ref (ad 0)), (1, .int a1), (2, .int a2), (3, .int a3)]) C0 hl rfl (by decide) (by decide) (fun _ => rfl) (o28_62 b_54 b_55 hn_53 e_64 e_65 c_66 (le_min x7_45) (le_max x7_45) (le_min r_63) (le_max r_63)) (o28_63 b_54 b_55 hn_53 e_64 e_65 c_66 (le_min x7_45) (le_max x7_45) (le_min r_63) (le_max r_63)) dX11_bestCorner_116 (fun v_82 ls e_83 hl => ?_)
                    refine lv_goto (tgt := 66) C0.1 C0.2.1 dX11_bestCorner_119 (by decide) ?_
                    exact ih_51 v_82 x7_45 r_76 _ _ _ _ (o28_64 b_54 b_55 hn_53 e_64 e_65 c_66 e_83) (o28_65 b_54 b_55 hn_53 e_64 e_65 c_66 e_83) (o28_66 b_54 b_55 hn_53 e_64 e_65 c_66 e_83) (o28_70 b_54 b_55 hn_53 e_64 e_65 c_66 e_83) (o28_71 b_54 b_55 hn_53 e_64 e_65 c_66 e_83) (o28_72 b_58 b_59 c_67 e_77 e_78 c_79) (o28_73 b_58 b_59 c_67 e_77 e_78 c_79) h (Fr.tr (Fr.tr hF_49 (Fr.mono u_61 (by decide))) u_74) (lv_sub hl [0, 1, 2, 4, 5, 6, 7, 8] rfl)
          exact lp_50 ((25 - v_43.toInt + 1).toNat) v_43 v_41 r_38 _ _ _ _ (o28_74 e_44) (o28_17 e_44) (o28_75 e_44) (o28_76 e_42) (o28_77 e_42) (o28_78 e_39 e_40) (o28_22 e_39 e_40) h Fr.rf (lv_sub hl [0, 1, 2, 3, 4, 5, 6, 7] rfl)
        · -- 26
          refine y_c2 (n := (-3)) C0 (by decide) dX11_bestCorner_29 (fun v_84 e_85 => ?_)
          rw [hQ]
          exact y_iret C0 h (Fr.tr (Fr.mono u_2 (by decide)) (Fr.mono u_12 (by decide))) ⟨(o28_3 e_85), (o28_56 e_85), (Rel.fr (M := []) hR (Fr.tr u_2 u_12) (by decide) (by decide)), (Hok.fr (M := []) hH (Fr.tr u_2 u_12) (by decide))⟩ dX11_bestCorner_31
    · -- 13
      refine y_c2 (n := (-2)) C0 (by decide) dX11_bestCorner_16 (fun v_86 e_87 => ?_)
      rw [hQ]
      exact y_iret C0 h (Fr.tr (Fr.mono u_2 (by decide)) (Fr.mono u_12 (by decide))) ⟨(o28_1 e_87), (o28_55 e_87), (Rel.fr (M := []) hR (Fr.tr u_2 u_12) (by decide) (by decide)), (Hok.fr (M := []) hH (Fr.tr u_2 u_12) (by decide))⟩ dX11_bestCorner_18
set_option maxHeartbeats 4000000 in
set_option maxRecDepth 100000 in
theorem c_X11_dealing (l : Launch) (G : GG) (Z : RZ) (ad : Nat → Nat) (ws0 : va_W) (hT : Ty G (SC tt) ad ws0) (a1 : Int32) (a2 : Int32) (a3 : Int32) (hR : Rel ws0) (hH : Hok ws0) : Mq l yX11_dealing cX11_dealing 9 (some .int) 4 G Z [.ref (ad 0), .int a1, .int a2, .int a3] ws0 (PI G (SC tt) ad [4, 5, 49] ws0 (fun r u => (Rel u) ∧ (Hok u))) := by
  refine Mq.start (by decide) (Nat.le_of_ble_eq_true rfl) ?_
  intro p e s m below meth c A ls C0 hZ h hl
  have hl : lv_has ls 9 [(0, .ref (ad 0)), (1, .int a1), (2, .int a2), (3, .int a3)] := hl
  have h : Wt G (SC tt) ad A s s.heap [] ws0 := ⟨h, hT⟩
  obtain ⟨args, hargs⟩ : ∃ z, z = ([.ref (ad 0), .int a1, .int a2, .int a3] : List Value).toArray := ⟨_, rfl⟩
  rw [← hargs] at C0 ⊢
  have C0 : Cx p s m args meth c RX11 cX11_dealing 9 (some .int) := C0
  obtain ⟨Q, hQ⟩ : ∃ z, z = MQ below ((PI G (SC tt) ad [4, 5, 49] ws0 (fun r u => (Rel u) ∧ (Hok u))) A) args s 0 0 A := ⟨_, rfl⟩
  rw [← hQ]
  refine lv_aload_n C0.1 C0.2.1 dX11_dealing_0 rfl (lv_at hl 0 rfl) ?_
  refine lv_iload_n C0.1 C0.2.1 dX11_dealing_1 rfl (lv_at hl 1 rfl) ?_
  refine lv_iload_n C0.1 C0.2.1 dX11_dealing_2 rfl (lv_at hl 2 rfl) ?_
  refine y_ci h (y_rV (As := [.int a1, .int a2]) (rest := []) C0 hZ h (c_X11_isStand l G Z ad _ h.2 a1 a2) k_X11_isStand q_911 q_24 q_909 kSC_0 rfl rfl rfl hl.1 rfl rfl (Nat.le_of_ble_eq_true rfl) dX11_dealing_3 ⟨Nat.le_of_ble_eq_true rfl, Nat.le_of_ble_eq_true rfl⟩ ⟨Nat.le_of_ble_eq_true rfl, Nat.le_of_ble_eq_true rfl⟩) (fun r_4 H locs ws_1 h u_2 p_3 => ?_)
  obtain ⟨e_5, e_6, e_7⟩ := p_3
  refine y_if_eq (tgt := 18) C0 dX11_dealing_6 (by decide) (fun c_8 => ?_) (fun c_8 => ?_)
  · -- 6
    refine y_c2 (n := (-2)) C0 (by decide) dX11_dealing_18 (fun v_9 e_10 => ?_)
    rw [hQ]
    exact y_iret C0 h (Fr.mono u_2 (by decide)) ⟨(Rel.fr (M := []) hR u_2 (by decide) (by decide)), (Hok.fr (M := []) hH u_2 (by decide))⟩ dX11_dealing_20
  · -- 6
    refine lv_iload_n C0.1 C0.2.1 dX11_dealing_9 rfl (lv_at hl 3 rfl) ?_
    refine y_if_lt (tgt := 18) C0 dX11_dealing_10 (by decide) (fun c_11 => ?_) (fun c_11 => ?_)
    · -- 10
      refine y_c2 (n := (-2)) C0 (by decide) dX11_dealing_18 (fun v_12 e_13 => ?_)
      rw [hQ]
      exact y_iret C0 h (Fr.mono u_2 (by decide)) ⟨(Rel.fr (M := []) hR u_2 (by decide) (by decide)), (Hok.fr (M := []) hH u_2 (by decide))⟩ dX11_dealing_20
    · -- 10
      refine lv_iload_n C0.1 C0.2.1 dX11_dealing_13 rfl (lv_at hl 3 rfl) ?_
      refine y_c1 (n := 2) C0 (by decide) dX11_dealing_14 (fun v_14 e_15 => ?_)
      refine y_icmp_le (tgt := 21) C0 dX11_dealing_15 (by decide) (fun c_16 => ?_) (fun c_16 => ?_)
      · -- 15
        refine y_c1 (n := 0) C0 (by decide) dX11_dealing_21 (fun v_17 e_18 => ?_)
        refine lv_istore (lv' := [(4, .int v_17), (0, .ref (ad 0)), (1, .int a1), (2, .int a2), (3, .int a3)]) C0.1 C0.2.1 dX11_dealing_22 hl (by decide) rfl (fun ls hl => ?_)
        have lp_22 : ∀ (n_24 : Nat) (x4_19 : Int32) (H : Heap) (locs : List Loc) (ls : Array Slot) (ws_20 : va_W), 24 - x4_19.toInt < (n_24 : Int) → 0 ≤ x4_19.toInt → x4_19.toInt ≤ 24 → Wt G (SC tt) ad A s H locs ws_20 → Fr (SC tt) [4, 5, 49] ws_1 ws_20 → lv_has ls 9 [(4, .int x4_19), (0, .ref (ad 0)), (1, .int a1), (2, .int a2), (3, .int a3)] → W p l e (rmd 4 0 0) s m args below meth c H locs 0 0 Q (F0 m 24 ls []) := by
          intro n_24
          induction n_24 with
          | zero => intro x4_19 H locs ls ws_20 hn_25 b_26 b_27 h hF_21 hl; exact ((o28_79 b_26 b_27 hn_25)).elim
          | succ n_24 ih_23 =>
            intro x4_19 H locs ls ws_20 hn_25 b_26 b_27 h hF_21 hl
            refine lv_iload C0.1 C0.2.1 dX11_dealing_24 (lv_at hl 0 rfl) ?_
            refine y_c2 (n := 24) C0 (by decide) dX11_dealing_26 (fun v_28 e_29 => ?_)
            refine y_icmp_ge (tgt := 78) C0 dX11_dealing_28 (by decide) (fun c_30 => ?_) (fun c_30 => ?_)
            · -- 28
              refine y_c1 (n := 0) C0 (by decide) dX11_dealing_78 (fun v_31 e_32 => ?_)
              refine lv_istore (lv' := [(4, .int v_31), (0, .ref (ad 0)), (1, .int a1), (2, .int a2), (3, .int a3)]) C0.1 C0.2.1 dX11_dealing_79 hl (by decide) rfl (fun ls hl => ?_)
              refine y_c1 (n := (-1)) C0 (by decide) dX11_dealing_81 (fun v_33 e_34 => ?_)
              refine lv_istore (lv' := [(5, .int v_33), (4, .int v_31), (0, .ref (ad 0)), (1, .int a1), (2, .int a2), (3, .int a3)]) C0.1 C0.2.1 dX11_dealing_82 hl (by decide) rfl (fun ls hl => ?_)
              refine y_c1 (n := (-1)) C0 (by decide) dX11_dealing_84 (fun v_35 e_36 => ?_)
              refine lv_istore (lv' := [(6, .int v_35), (5, .int v_33), (4, .int v_31), (0, .ref (ad 0)), (1, .int a1), (2, .int a2), (3, .int a3)]) C0.1 C0.2.1 dX11_dealing_85 hl (by decide) rfl (fun ls hl => ?_)
              refine y_c1 (n := 0) C0 (by decide) dX11_dealing_87 (fun v_37 e_38 => ?_)
              refine lv_istore (lv' := [(7, .int v_37), (6, .int v_35), (5, .int v_33), (4, .int v_31), (0, .ref (ad 0)), (1, .int a1), (2, .int a2), (3, .int a3)]) C0.1 C0.2.1 dX11_dealing_88 hl (by decide) rfl (fun ls hl => ?_)
              have lp_45 : ∀ (n_47 : Nat) (x7_39 : Int32) (x6_40 : Int32) (x5_41 : Int32) (x4_42 : Int32) (H : Heap) (locs : List Loc) (ls : Array Slot) (ws_43 : va_W), 24 - x7_39.toInt < (n_47 : Int) → 0 ≤ x7_39.toInt → x7_39.toInt ≤ 24 → (-1) ≤ x6_40.toInt → x6_40.toInt ≤ 23 → (-1) ≤ x5_41.toInt → x5_41.toInt ≤ 23 → Wt G (SC tt) ad A s H locs ws_43 → Fr (SC tt) [] ws_20 ws_43 → lv_has ls 9 [(7, .int x7_39), (6, .int x6_40), (5, .int x5_41), (4, .int x4_42), (0, .ref (ad 0)), (1, .int a1), (2, .int a2), (3, .int a3)] → W p l e (rmd 4 0 0) s m args below meth c H locs 0 0 Q (F0 m 90 ls []) := by
                intro n_47
                induction n_47 with
                | zero => intro x7_39 x6_40 x5_41 x4_42 H locs ls ws_43 hn_48 b_49 b_50 b_51 b_52 b_53 b_54 h hF_44 hl; exact ((o28_79 b_49 b_50 hn_48)).elim
                | succ n_47 ih_46 =>
                  intro x7_39 x6_40 x5_41 x4_42 H locs ls ws_43 hn_48 b_49 b_50 b_51 b_52 b_53 b_54 h hF_44 hl
                  refine lv_iload C0.1 C0.2.1 dX11_dealing_90 (lv_at hl 0 rfl) ?_
                  refine y_c2 (n := 24) C0 (by decide) dX11_dealing_92 (fun v_55 e_56 => ?_)
                  refine y_icmp_ge (tgt := 167) C0 dX11_dealing_94 (by decide) (fun c_57 => ?_) (fun c_57 => ?_)
                  · -- 94
                    refine lv_iload_n C0.1 C0.2.1 dX11_dealing_167 rfl (lv_at hl 7 rfl) ?_
                    refine y_if_ne (tgt := 176) C0 dX11_dealing_168 (by decide) (fun c_58 => ?_) (fun c_58 => ?_)
                    · -- 168
                      refine lv_iload_n C0.1 C0.2.1 dX11_dealing_176 rfl (lv_at hl 7 rfl) ?_
                      refine y_c1 (n := 1) C0 (by decide) dX11_dealing_177 (fun v_59 e_60 => ?_)
                      refine y_icmp_ne (tgt := 186) C0 dX11_dealing_178 (by decide) (fun c_61 => ?_) (fun c_61 => ?_)
                      · -- 178
                        refine lv_iload C0.1 C0.2.1 dX11_dealing_186 (lv_at hl 1 rfl) ?_
                        rw [hQ]
                        exact y_iret C0 h (Fr.tr (Fr.tr (Fr.mono u_2 (by decide)) hF_21) (Fr.mono hF_44 (by decide))) ⟨(Rel.fr (M := [4, 5, 49]) hR (Fr.tr (Fr.tr (Fr.mono u_2 (by decide)) hF_21) (Fr.mono hF_44 (by decide))) (by decide) (by decide)), (Hok.fr (M := [4, 5, 49]) hH (Fr.tr (Fr.tr (Fr.mono u_2 (by decide)) hF_21) (Fr.mono hF_44 (by decide))) (by decide))⟩ dX11_dealing_188
                      · -- 178
                        refine lv_iload C0.1 C0.2.1 dX11_dealing_181 (lv_at hl 2 rfl) ?_
                        refine lv_goto (tgt := 188) C0.1 C0.2.1 dX11_dealing_183 (by decide) ?_
                        rw [hQ]
                        exact y_iret C0 h (Fr.tr (Fr.tr (Fr.mono u_2 (by decide)) hF_21) (Fr.mono hF_44 (by decide))) ⟨(Rel.fr (M := [4, 5, 49]) hR (Fr.tr (Fr.tr (Fr.mono u_2 (by decide)) hF_21) (Fr.mono hF_44 (by decide))) (by decide) (by decide)), (Hok.fr (M := [4, 5, 49]) hH (Fr.tr (Fr.tr (Fr.mono u_2 (by decide)) hF_21) (Fr.mono hF_44 (by decide))) (by decide))⟩ dX11_dealing_188
                    · -- 168
                      refine lv_iload C0.1 C0.2.1 dX11_dealing_171 (lv_at hl 3 rfl) ?_
                      refine lv_goto (tgt := 188) C0.1 C0.2.1 dX11_dealing_173 (by decide) ?_
                      rw [hQ]
                      exact y_iret C0 h (Fr.tr (Fr.tr (Fr.mono u_2 (by decide)) hF_21) (Fr.mono hF_44 (by decide))) ⟨(Rel.fr (M := [4, 5, 49]) hR (Fr.tr (Fr.tr (Fr.mono u_2 (by decide)) hF_21) (Fr.mono hF_44 (by decide))) (by decide) (by decide)), (Hok.fr (M := [4, 5, 49]) hH (Fr.tr (Fr.tr (Fr.mono u_2 (by decide)) hF_21) (Fr.mono hF_44 (by decide))) (by decide))⟩ dX11_dealing_188
                  · -- 94
                    refine lv_iload C0.1 C0.2.1 dX11_dealing_97 (lv_at hl 0 rfl) ?_
                    refine y_c1 (n := 1) C0 (by decide) dX11_dealing_99 (fun v_62 e_63 => ?_)
                    refine y_add C0 (o28_80 b_49 b_50 hn_48 e_56 c_57 e_63 (le_min x7_39) (le_max x7_39) (le_min v_62) (le_max v_62) (le_min v_55) (le_max v_55)) (o28_81 b_49 b_50 hn_48 e_56 c_57 e_63 (le_min x7_39) (le_max x7_39) (le_min v_62) (le_max v_62) (le_min v_55) (le_max v_55)) dX11_dealing_100 (fun v_64 e_65 => ?_)
                    refine lv_istore (lv' := [(8, .int v_64), (7, .int x7_39), (6, .int x6_40), (5, .int x5_41), (4, .int x4_42), (0, .ref (ad 0)), (1, .int a1), (2, .int a2), (3, .int a3)]) C0.1 C0.2.1 dX11_dealing_101 hl (by decide) rfl (fun ls hl => ?_)
                    have lp_72 : ∀ (n_74 : Nat) (x8_66 : Int32) (x6_67 : Int32) (x5_68 : Int32) (x4_69 : Int32) (H : Heap) (locs : List Loc) (ls : Array Slot) (ws_70 : va_W), 24 - x8_66.toInt < (n_74 : Int) → 1 ≤ x8_66.toInt → x8_66.toInt ≤ 24 → (-1) ≤ x6_67.toInt → x6_67.toInt ≤ 23 → (-1) ≤ x5_68.toInt → x5_68.toInt ≤ 23 → Wt G (SC tt) ad A s H locs ws_70 → Fr (SC tt) [] ws_43 ws_70 → lv_has ls 9 [(8, .int x8_66), (7, .int x7_39), (6, .int x6_67), (5, .int x5_68), (4, .int x4_69), (0, .ref (ad 0)), (1, .int a1), (2, .int a2), (3, .int a3)] → W p l e (rmd 4 0 0) s m args below meth c H locs 0 0 Q (F0 m 103 ls []) := by
                      intro n_74
                      induction n_74 with
                      | zero => intro x8_66 x6_67 x5_68 x4_69 H locs ls ws_70 hn_75 b_76 b_77 b_78 b_79 b_80 b_81 h hF_71 hl; exact ((o28_82 b_76 b_77 hn_75)).elim
                      | succ n_74 ih_73 =>
                        intro x8_66 x6_67 x5_68 x4_69 H locs ls ws_70 hn_75 b_76 b_77 b_78 b_79 b_80 b_81 h hF_71 hl
                        refine lv_iload C0.1 C0.2.1 dX11_dealing_103 (lv_at hl 0 rfl) ?_
                        refine y_c2 (n := 24) C0 (by decide) dX11_dealing_105 (fun v_82 e_83 => ?_)
                        refine y_icmp_ge (tgt := 161) C0 dX11_dealing_107 (by decide) (fun c_84 => ?_) (fun c_84 => ?_)
                        · -- 107
                          refine y_inc (kp := 1) (n := 1) (fun v_85 => [(7, .int v_85), (8, .int x8_66), (6, .int x6_67), (5, .int x5_68), (4, .int x4_69), (0, .ref (ad 0)), (1, .int a1), (2, .int a2), (3, .int a3)]) C0 hl rfl (by decide) (by decide) (fun _ => rfl) (o28_83 b_49 b_50 hn_48 e_56 c_57 e_63 e_65 (le_min x7_39) (le_max x7_39) (le_min v_55) (le_max v_55) (le_min v_62) (le_max v_62) (le_min v_64) (le_max v_64)) (o28_84 b_49 b_50 hn_48 e_56 c_57 e_63 e_65 (le_min x7_39) (le_max x7_39) (le_min v_55) (le_max v_55) (le_min v_62) (le_max v_62) (le_min v_64) (le_max v_64)) dX11_dealing_161 (fun v_85 ls e_86 hl => ?_)
                          refine lv_goto (tgt := 90) C0.1 C0.2.1 dX11_dealing_164 (by decide) ?_
                          exact ih_46 v_85 x6_67 x5_68 x4_69 _ _ _ _ (o28_85 b_49 b_50 hn_48 e_56 c_57 e_63 e_65 e_86) (o28_86 b_49 b_50 hn_48 e_56 c_57 e_63 e_65 e_86) (o28_87 b_49 b_50 hn_48 e_56 c_57 e_63 e_65 e_86) (o28_88 b_78 b_79) (o28_89 b_78 b_79) (o28_88 b_80 b_81) (o28_89 b_80 b_81) h (Fr.tr hF_44 hF_71) (lv_sub hl [0, 2, 3, 4, 5, 6, 7, 8] rfl)
                        · -- 107
                          refine lv_aload_n C0.1 C0.2.1 dX11_dealing_110 rfl (lv_at hl 5 rfl) ?_
                          refine tg_X11_dayPrices C0 h kSC_0 q_530 dX11_dealing_111 ?_
                          refine lv_iload C0.1 C0.2.1 dX11_dealing_114 (lv_at hl 0 rfl) ?_
                          refine y_iald C0 h kSC_208 rfl (by decide) (o28_90 b_76 b_77 hn_75 e_83 c_84) (o28_91 b_76 b_77 hn_75 e_83 c_84) dX11_dealing_116 (fun v_87 e_88 e_89 e_90 => ?_)
                          refine lv_aload_n C0.1 C0.2.1 dX11_dealing_117 rfl (lv_at hl 5 rfl) ?_
                          refine tg_X11_dayPrices C0 h kSC_0 q_530 dX11_dealing_118 ?_
                          refine lv_iload C0.1 C0.2.1 dX11_dealing_121 (lv_at hl 1 rfl) ?_
                          refine y_iald C0 h kSC_208 rfl (by decide) (o28_92 b_49 b_50 hn_48 e_56 c_57 e_63 e_65) (o28_93 b_49 b_50 hn_48 e_56 c_57 e_63 e_65) dX11_dealing_123 (fun v_91 e_92 e_93 e_94 => ?_)
                          refine y_isubU C0 dX11_dealing_124 (fun v_95 => ?_)
                          refine lv_iload C0.1 C0.2.1 dX11_dealing_125 (lv_at hl 4 rfl) ?_
                          refine y_icmp_le (tgt := 155) C0 dX11_dealing_127 (by decide) (fun c_96 => ?_) (fun c_96 => ?_)
                          · -- 127
                            refine y_inc (kp := 0) (n := 1) (fun v_97 => [(8, .int v_97), (7, .int x7_39), (6, .int x6_67), (5, .int x5_68), (4, .int x4_69), (0, .ref (ad 0)), (1, .int a1), (2, .int a2), (3, .int a3)]) C0 hl rfl (by decide) (by decide) (fun _ => rfl) (o28_94 b_76 b_77 hn_75 e_83 c_84 (le_min x8_66) (le_max x8_66) (le_min v_82) (le_max v_82)) (o28_95 b_76 b_77 hn_75 e_83 c_84 (le_min x8_66) (le_max x8_66) (le_min v_82) (le_max v_82)) dX11_dealing_155 (fun v_97 ls e_98 hl => ?_)
                            refine lv_goto (tgt := 103) C0.1 C0.2.1 dX11_dealing_158 (by decide) ?_
                            exact ih_73 v_97 x6_67 x5_68 x4_69 _ _ _ _ (o28_96 b_76 b_77 hn_75 e_83 c_84 e_98) (o28_97 b_76 b_77 hn_75 e_83 c_84 e_98) (o28_98 b_76 b_77 hn_75 e_83 c_84 e_98) (o28_88 b_78 b_79) (o28_89 b_78 b_79) (o28_88 b_80 b_81) (o28_89 b_80 b_81) h hF_71 (lv_sub hl [0, 1, 2, 3, 4, 5, 6, 7, 8] rfl)
                          · -- 127
                            refine lv_aload_n C0.1 C0.2.1 dX11_dealing_130 rfl (lv_at hl 5 rfl) ?_
                            refine tg_X11_dayPrices C0 h kSC_0 q_530 dX11_dealing_131 ?_
                            refine lv_iload C0.1 C0.2.1 dX11_dealing_134 (lv_at hl 0 rfl) ?_
                            refine y_iald C0 h kSC_208 rfl (by decide) (o28_90 b_76 b_77 hn_75 e_83 c_84) (o28_91 b_76 b_77 hn_75 e_83 c_84) dX11_dealing_136 (fun v_99 e_100 e_101 e_102 => ?_)
                            have q_103 : v_99.toInt = v_87.toInt := congrArg Int32.toInt (e_100.symm.trans (Eq.trans rfl e_88))
                            refine lv_aload_n C0.1 C0.2.1 dX11_dealing_137 rfl (lv_at hl 5 rfl) ?_
                            refine tg_X11_dayPrices C0 h kSC_0 q_530 dX11_dealing_138 ?_
                            refine lv_iload C0.1 C0.2.1 dX11_dealing_141 (lv_at hl 1 rfl) ?_
                            refine y_iald C0 h kSC_208 rfl (by decide) (o28_92 b_49 b_50 hn_48 e_56 c_57 e_63 e_65) (o28_93 b_49 b_50 hn_48 e_56 c_57 e_63 e_65) dX11_dealing_143 (fun v_104 e_105 e_106 e_107 => ?_)
                            have q_108 : v_104.toInt = v_91.toInt := congrArg Int32.toInt (e_105.symm.trans (Eq.trans rfl e_92))
                            refine y_isubU C0 dX11_dealing_144 (fun v_109 => ?_)
                            refine lv_istore (lv' := [(4, .int v_109), (8, .int x8_66), (7, .int x7_39), (6, .int x6_67), (5, .int x5_68), (0, .ref (ad 0)), (1, .int a1), (2, .int a2), (3, .int a3)]) C0.1 C0.2.1 dX11_dealing_145 hl (by decide) rfl (fun ls hl => ?_)
                            refine lv_iload C0.1 C0.2.1 dX11_dealing_147 (lv_at hl 2 rfl) ?_
                            refine lv_istore (lv' := [(5, .int x7_39), (4, .int v_109), (8, .int x8_66), (7, .int x7_39), (6, .int x6_67), (0, .ref (ad 0)), (1, .int a1), (2, .int a2), (3, .int a3)]) C0.1 C0.2.1 dX11_dealing_149 hl (by decide) rfl (fun ls hl => ?_)
                            refine lv_iload C0.1 C0.2.1 dX11_dealing_151 (lv_at hl 2 rfl) ?_
                            refine lv_istore (lv' := [(6, .int x8_66), (5, .int x7_39), (4, .int v_109), (8, .int x8_66), (7, .int x7_39), (0, .ref (ad 0)), (1, .int a1), (2, .int a2), (3, .int a3)]) C0.1 C0.2.1 dX11_dealing_153 hl (by decide) rfl (fun ls hl => ?_)
                            refine y_inc (kp := 3) (n := 1) (fun v_110 => [(8, .int v_110), (6, .int x8_66), (5, .int x7_39), (4, .int v_109), (7, .int x7_39), (0, .ref (ad 0)), (1, .int a1), (2, .int a2), (3, .int a3)]) C0 hl rfl (by decide) (by decide) (fun _ => rfl) (o28_94 b_76 b_77 hn_75 e_83 c_84 (le_min x8_66) (le_max x8_66) (le_min v_82) (le_max v_82)) (o28_95 b_76 b_77 hn_75 e_83 c_84 (le_min x8_66) (le_max x8_66) (le_min v_82) (le_max v_82)) dX11_dealing_155 (fun v_110 ls e_111 hl => ?_)
                            refine lv_goto (tgt := 103) C0.1 C0.2.1 dX11_dealing_158 (by decide) ?_
                            exact ih_73 v_110 x8_66 x7_39 v_109 _ _ _ _ (o28_96 b_76 b_77 hn_75 e_83 c_84 e_111) (o28_97 b_76 b_77 hn_75 e_83 c_84 e_111) (o28_98 b_76 b_77 hn_75 e_83 c_84 e_111) (o28_99 b_76 b_77 hn_75 e_83 c_84 e_111) (o28_100 b_76 b_77 hn_75 e_83 c_84 e_111) (o28_101 b_49 b_50 hn_48 e_56 c_57 e_63 e_65) (o28_102 b_49 b_50 hn_48 e_56 c_57 e_63 e_65) h hF_71 (lv_sub hl [0, 4, 1, 2, 3, 5, 6, 7, 8] rfl)
                    exact lp_72 ((24 - v_64.toInt + 1).toNat) v_64 x6_40 x5_41 x4_42 _ _ _ _ (o28_103 b_49 b_50 hn_48 e_56 c_57 e_63 e_65) (o28_104 b_49 b_50 hn_48 e_56 c_57 e_63 e_65) (o28_105 b_49 b_50 hn_48 e_56 c_57 e_63 e_65) (o28_88 b_51 b_52) (o28_89 b_51 b_52) (o28_88 b_53 b_54) (o28_89 b_53 b_54) h Fr.rf (lv_sub hl [0, 1, 2, 3, 4, 5, 6, 7, 8] rfl)
              exact lp_45 ((24 - v_37.toInt + 1).toNat) v_37 v_35 v_33 v_31 _ _ _ _ (o28_106 e_38) (o28_17 e_38) (o28_107 e_38) (o28_76 e_36) (o28_108 e_36) (o28_76 e_34) (o28_108 e_34) h Fr.rf (lv_sub hl [0, 1, 2, 3, 4, 5, 6, 7] rfl)
            · -- 28
              refine lv_aload_n C0.1 C0.2.1 dX11_dealing_31 rfl (lv_at hl 1 rfl) ?_
              refine tg_X11_dayPrices C0 h kSC_0 q_530 dX11_dealing_32 ?_
              refine lv_iload C0.1 C0.2.1 dX11_dealing_35 (lv_at hl 0 rfl) ?_
              refine lv_aload_n C0.1 C0.2.1 dX11_dealing_37 rfl (lv_at hl 1 rfl) ?_
              refine tg_X11_now C0 h kSC_0 q_515 dX11_dealing_38 ?_
              refine lv_iload_n C0.1 C0.2.1 dX11_dealing_41 rfl (lv_at hl 2 rfl) ?_
              refine lv_aload_n C0.1 C0.2.1 dX11_dealing_42 rfl (lv_at hl 1 rfl) ?_
              refine tg_X11_now C0 h kSC_0 q_515 dX11_dealing_43 ?_
              refine tg_X0_folk C0 h kSC_1 q_249 dX11_dealing_46 ?_
              refine tg_X1_hours C0 h kSC_10 q_220 dX11_dealing_49 (fun v_112 e_113 e_114 e_115 => ?_)
              refine lv_iload C0.1 C0.2.1 dX11_dealing_52 (lv_at hl 0 rfl) ?_
              refine y_iaddU C0 dX11_dealing_54 (fun v_116 => ?_)
              refine lv_aload_n C0.1 C0.2.1 dX11_dealing_55 rfl (lv_at hl 1 rfl) ?_
              refine tg_X11_now C0 h kSC_0 q_515 dX11_dealing_56 ?_
              refine tg_X0_folk C0 h kSC_1 q_249 dX11_dealing_59 ?_
              refine tg_X1_sold C0 h kSC_10 q_208 dX11_dealing_62 ?_
              refine lv_iload_n C0.1 C0.2.1 dX11_dealing_65 rfl (lv_at hl 2 rfl) ?_
              refine y_iald C0 h kSC_16 rfl (by decide) (o28_109 e_5 e_6 e_7 c_8) (o28_110 e_5 e_6 e_7 c_8) dX11_dealing_66 (fun v_117 e_118 e_119 e_120 => ?_)
              refine lv_iload_n C0.1 C0.2.1 dX11_dealing_67 rfl (lv_at hl 3 rfl) ?_
              refine y_ci h (y_rV (As := [.int a1, .int v_116, .int v_117, .int a2]) (rest := [.int x4_19, .ref (ad 208)]) C0 hZ h (c_X0_cost l G Z ad _ h.2 1 kSC_1 a1 v_116 v_117 a2 (o28_109 e_5 e_6 e_7 c_8) (o28_111 e_5 e_6 e_7 c_8)) k_X0_cost q_927 q_928 q_926 kSC_1 rfl rfl rfl hl.1 rfl rfl (Nat.le_of_ble_eq_true rfl) dX11_dealing_68 ⟨Nat.le_of_ble_eq_true rfl, Nat.le_of_ble_eq_true rfl⟩ ⟨Nat.le_of_ble_eq_true rfl, Nat.le_of_ble_eq_true rfl⟩) (fun r_124 H locs ws_121 h u_122 p_123 => ?_)
              have e_125 := p_123
              refine y_iast C0 h kSC_208 rfl (by decide) (o28_112 b_26 b_27 hn_25 e_29 c_30) (o28_113 b_26 b_27 hn_25 e_29 c_30) (le_min r_124) (le_max r_124) dX11_dealing_71 (fun H locs ws_126 h u_127 => ?_)
              refine y_inc (kp := 0) (n := 1) (fun v_128 => [(4, .int v_128), (0, .ref (ad 0)), (1, .int a1), (2, .int a2), (3, .int a3)]) C0 hl rfl (by decide) (by decide) (fun _ => rfl) (o28_114 b_26 b_27 hn_25 e_29 c_30 (le_min x4_19) (le_max x4_19) (le_min v_28) (le_max v_28)) (o28_115 b_26 b_27 hn_25 e_29 c_30 (le_min x4_19) (le_max x4_19) (le_min v_28) (le_max v_28)) dX11_dealing_72 (fun v_128 ls e_129 hl => ?_)
              refine lv_goto (tgt := 24) C0.1 C0.2.1 dX11_dealing_75 (by decide) ?_
              exact ih_23 v_128 _ _ _ _ (o28_116 b_26 b_27 hn_25 e_29 c_30 e_129) (o28_117 b_26 b_27 hn_25 e_29 c_30 e_129) (o28_118 b_26 b_27 hn_25 e_29 c_30 e_129) h (Fr.tr (Fr.tr hF_21 (Fr.mono u_122 (by decide))) (Fr.up u_127.1 kSC_208 (by decide))) (lv_sub hl [0, 1, 2, 3, 4] rfl)
        exact lp_22 ((24 - v_17.toInt + 1).toNat) v_17 _ _ _ _ (o28_106 e_18) (o28_17 e_18) (o28_107 e_18) h Fr.rf (lv_sub hl [0, 1, 2, 3, 4] rfl)
      · -- 15
        refine y_c2 (n := (-2)) C0 (by decide) dX11_dealing_18 (fun v_130 e_131 => ?_)
        rw [hQ]
        exact y_iret C0 h (Fr.mono u_2 (by decide)) ⟨(Rel.fr (M := []) hR u_2 (by decide) (by decide)), (Hok.fr (M := []) hH u_2 (by decide))⟩ dX11_dealing_20
set_option maxHeartbeats 4000000 in
set_option maxRecDepth 100000 in
theorem c_X11_cheap (l : Launch) (G : GG) (Z : RZ) (ad : Nat → Nat) (ws0 : va_W) (hT : Ty G (SC tt) ad ws0) (hR : Rel ws0) (hH : Hok ws0) : Mq l yX11_cheap cX11_cheap 5 (some .int) 3 G Z [.ref (ad 0)] ws0 (PI G (SC tt) ad [4, 5] ws0 (fun r u => ((-1) ≤ r.toInt) ∧ (r.toInt ≤ 24) ∧ (Rel u) ∧ (Hok u))) := by
  refine Mq.start (by decide) (Nat.le_of_ble_eq_true rfl) ?_
  intro p e s m below meth c A ls C0 hZ h hl
  have hl : lv_has ls 5 [(0, .ref (ad 0))] := hl
  have h : Wt G (SC tt) ad A s s.heap [] ws0 := ⟨h, hT⟩
  obtain ⟨args, hargs⟩ : ∃ z, z = ([.ref (ad 0)] : List Value).toArray := ⟨_, rfl⟩
  rw [← hargs] at C0 ⊢
  have C0 : Cx p s m args meth c RX11 cX11_cheap 5 (some .int) := C0
  obtain ⟨Q, hQ⟩ : ∃ z, z = MQ below ((PI G (SC tt) ad [4, 5] ws0 (fun r u => ((-1) ≤ r.toInt) ∧ (r.toInt ≤ 24) ∧ (Rel u) ∧ (Hok u))) A) args s 0 0 A := ⟨_, rfl⟩
  rw [← hQ]
  refine y_c1 (n := (-1)) C0 (by decide) dX11_cheap_0 (fun v_1 e_2 => ?_)
  refine lv_istore_n (lv' := [(1, .int v_1), (0, .ref (ad 0))]) C0.1 C0.2.1 dX11_cheap_1 rfl hl (by decide) rfl (fun ls hl => ?_)
  refine y_c1 (n := 0) C0 (by decide) dX11_cheap_2 (fun v_3 e_4 => ?_)
  refine lv_istore_n (lv' := [(2, .int v_3), (1, .int v_1), (0, .ref (ad 0))]) C0.1 C0.2.1 dX11_cheap_3 rfl hl (by decide) rfl (fun ls hl => ?_)
  refine y_c1 (n := 0) C0 (by decide) dX11_cheap_4 (fun v_5 e_6 => ?_)
  refine lv_istore_n (lv' := [(3, .int v_5), (2, .int v_3), (1, .int v_1), (0, .ref (ad 0))]) C0.1 C0.2.1 dX11_cheap_5 rfl hl (by decide) rfl (fun ls hl => ?_)
  have lp_12 : ∀ (n_14 : Nat) (x3_7 : Int32) (x2_8 : Int32) (x1_9 : Int32) (H : Heap) (locs : List Loc) (ls : Array Slot) (ws_10 : va_W), 25 - x3_7.toInt < (n_14 : Int) → 0 ≤ x3_7.toInt → x3_7.toInt ≤ 25 → 0 ≤ x2_8.toInt → (-1) ≤ x1_9.toInt → x1_9.toInt ≤ 24 → Wt G (SC tt) ad A s H locs ws_10 → Fr (SC tt) [4, 5] ws0 ws_10 → lv_has ls 5 [(3, .int x3_7), (2, .int x2_8), (1, .int x1_9), (0, .ref (ad 0))] → W p l e (rmd 3 0 0) s m args below meth c H locs 0 0 Q (F0 m 6 ls []) := by
    intro n_14
    induction n_14 with
    | zero => intro x3_7 x2_8 x1_9 H locs ls ws_10 hn_15 b_16 b_17 b_18 b_19 b_20 h hF_11 hl; exact ((o28_59 b_16 b_17 hn_15)).elim
    | succ n_14 ih_13 =>
      intro x3_7 x2_8 x1_9 H locs ls ws_10 hn_15 b_16 b_17 b_18 b_19 b_20 h hF_11 hl
      refine lv_iload_n C0.1 C0.2.1 dX11_cheap_6 rfl (lv_at hl 0 rfl) ?_
      refine lv_aload_n C0.1 C0.2.1 dX11_cheap_7 rfl (lv_at hl 3 rfl) ?_
      refine tg_X11_now C0 h kSC_0 q_515 dX11_cheap_8 ?_
      refine y_ci h (y_rV (As := []) (rest := [.int x3_7]) C0 hZ h (c_X0_crossings l G Z ad _ h.2 1 kSC_1) k_X0_crossings q_918 q_919 q_917 kSC_1 rfl rfl rfl hl.1 rfl rfl (Nat.le_of_ble_eq_true rfl) dX11_cheap_11 ⟨Nat.le_of_ble_eq_true rfl, Nat.le_of_ble_eq_true rfl⟩ ⟨Nat.le_of_ble_eq_true rfl, Nat.le_of_ble_eq_true rfl⟩) (fun r_24 H locs ws_21 h u_22 p_23 => ?_)
      obtain ⟨e_25, e_26⟩ := p_23
      refine y_icmp_ge (tgt := 71) C0 dX11_cheap_14 (by decide) (fun c_27 => ?_) (fun c_27 => ?_)
      · -- 14
        refine lv_iload_n C0.1 C0.2.1 dX11_cheap_71 rfl (lv_at hl 2 rfl) ?_
        rw [hQ]
        exact y_iret C0 h (Fr.tr hF_11 (Fr.mono u_22 (by decide))) ⟨(o28_67 b_19 b_20), (o28_61 b_19 b_20), (Rel.fr (M := [4, 5]) hR (Fr.tr hF_11 (Fr.mono u_22 (by decide))) (by decide) (by decide)), (Hok.fr (M := [4, 5]) hH (Fr.tr hF_11 (Fr.mono u_22 (by decide))) (by decide))⟩ dX11_cheap_72
      · -- 14
        refine lv_aload_n C0.1 C0.2.1 dX11_cheap_17 rfl (lv_at hl 3 rfl) ?_
        refine tg_X11_now C0 h kSC_0 q_515 dX11_cheap_18 ?_
        refine lv_iload_n C0.1 C0.2.1 dX11_cheap_21 rfl (lv_at hl 0 rfl) ?_
        refine lv_aload_n C0.1 C0.2.1 dX11_cheap_22 rfl (lv_at hl 3 rfl) ?_
        refine tg_X11_now C0 h kSC_0 q_515 dX11_cheap_23 ?_
        refine tg_X0_folk C0 h kSC_1 q_249 dX11_cheap_26 ?_
        refine tg_X1_hours C0 h kSC_10 q_220 dX11_cheap_29 (fun v_28 e_29 e_30 e_31 => ?_)
        refine lv_aload_n C0.1 C0.2.1 dX11_cheap_32 rfl (lv_at hl 3 rfl) ?_
        refine tg_X11_now C0 h kSC_0 q_515 dX11_cheap_33 ?_
        refine tg_X0_folk C0 h kSC_1 q_249 dX11_cheap_36 ?_
        refine tg_X1_sold C0 h kSC_10 q_208 dX11_cheap_39 ?_
        refine lv_iload_n C0.1 C0.2.1 dX11_cheap_42 rfl (lv_at hl 0 rfl) ?_
        refine y_iald C0 h kSC_16 rfl (by decide) (o28_119 b_16 b_17 hn_15 e_25 e_26 c_27) (o28_120 b_16 b_17 hn_15 e_25 e_26 c_27) dX11_cheap_43 (fun v_32 e_33 e_34 e_35 => ?_)
        refine y_c1 (n := 0) C0 (by decide) dX11_cheap_44 (fun v_36 e_37 => ?_)
        refine y_ci h (y_rV (As := [.int x3_7, .int v_28, .int v_32, .int v_36]) (rest := []) C0 hZ h (c_X0_cost l G Z ad _ h.2 1 kSC_1 x3_7 v_28 v_32 v_36 (o28_119 b_16 b_17 hn_15 e_25 e_26 c_27) (o28_121 b_16 b_17 hn_15 e_25 e_26 c_27)) k_X0_cost q_927 q_928 q_926 kSC_1 rfl rfl rfl hl.1 rfl rfl (Nat.le_of_ble_eq_true rfl) dX11_cheap_45 ⟨Nat.le_of_ble_eq_true rfl, Nat.le_of_ble_eq_true rfl⟩ ⟨Nat.le_of_ble_eq_true rfl, Nat.le_of_ble_eq_true rfl⟩) (fun r_41 H locs ws_38 h u_39 p_40 => ?_)
        have e_42 := p_40
        refine lv_istore (lv' := [(4, .int r_41), (3, .int x3_7), (2, .int x2_8), (1, .int x1_9), (0, .ref (ad 0))]) C0.1 C0.2.1 dX11_cheap_48 hl (by decide) rfl (fun ls hl => ?_)
        refine lv_iload_n C0.1 C0.2.1 dX11_cheap_50 rfl (lv_at hl 3 rfl) ?_
        refine y_if_lt (tgt := 60) C0 dX11_cheap_51 (by decide) (fun c_43 => ?_) (fun c_43 => ?_)
        · -- 51
          refine lv_iload_n C0.1 C0.2.1 dX11_cheap_60 rfl (lv_at hl 1 rfl) ?_
          refine lv_istore_n (lv' := [(1, .int x3_7), (4, .int r_41), (3, .int x3_7), (2, .int x2_8), (0, .ref (ad 0))]) C0.1 C0.2.1 dX11_cheap_61 rfl hl (by decide) rfl (fun ls hl => ?_)
          refine lv_iload C0.1 C0.2.1 dX11_cheap_62 (lv_at hl 1 rfl) ?_
          refine lv_istore_n (lv' := [(2, .int r_41), (1, .int x3_7), (4, .int r_41), (3, .int x3_7), (0, .ref (ad 0))]) C0.1 C0.2.1 dX11_cheap_64 rfl hl (by decide) rfl (fun ls hl => ?_)
          refine y_inc (kp := 3) (n := 1) (fun v_44 => [(3, .int v_44), (2, .int r_41), (1, .int x3_7), (4, .int r_41), (0, .ref (ad 0))]) C0 hl rfl (by decide) (by decide) (fun _ => rfl) (o28_62 b_16 b_17 hn_15 e_25 e_26 c_27 (le_min x3_7) (le_max x3_7) (le_min r_24) (le_max r_24)) (o28_63 b_16 b_17 hn_15 e_25 e_26 c_27 (le_min x3_7) (le_max x3_7) (le_min r_24) (le_max r_24)) dX11_cheap_65 (fun v_44 ls e_45 hl => ?_)
          refine lv_goto (tgt := 6) C0.1 C0.2.1 dX11_cheap_68 (by decide) ?_
          exact ih_13 v_44 r_41 x3_7 _ _ _ _ (o28_64 b_16 b_17 hn_15 e_25 e_26 c_27 e_45) (o28_65 b_16 b_17 hn_15 e_25 e_26 c_27 e_45) (o28_66 b_16 b_17 hn_15 e_25 e_26 c_27 e_45) (o28_122 e_42) (o28_70 b_16 b_17 hn_15 e_25 e_26 c_27 e_45) (o28_71 b_16 b_17 hn_15 e_25 e_26 c_27 e_45) h (Fr.tr (Fr.tr hF_11 (Fr.mono u_22 (by decide))) u_39) (lv_sub hl [0, 1, 2, 4] rfl)
        · -- 51
          refine lv_iload C0.1 C0.2.1 dX11_cheap_54 (lv_at hl 0 rfl) ?_
          refine lv_iload_n C0.1 C0.2.1 dX11_cheap_56 rfl (lv_at hl 2 rfl) ?_
          refine y_icmp_ge (tgt := 65) C0 dX11_cheap_57 (by decide) (fun c_46 => ?_) (fun c_46 => ?_)
          · -- 57
            refine y_inc (kp := 1) (n := 1) (fun v_47 => [(3, .int v_47), (4, .int r_41), (2, .int x2_8), (1, .int x1_9), (0, .ref (ad 0))]) C0 hl rfl (by decide) (by decide) (fun _ => rfl) (o28_62 b_16 b_17 hn_15 e_25 e_26 c_27 (le_min x3_7) (le_max x3_7) (le_min r_24) (le_max r_24)) (o28_63 b_16 b_17 hn_15 e_25 e_26 c_27 (le_min x3_7) (le_max x3_7) (le_min r_24) (le_max r_24)) dX11_cheap_65 (fun v_47 ls e_48 hl => ?_)
            refine lv_goto (tgt := 6) C0.1 C0.2.1 dX11_cheap_68 (by decide) ?_
            exact ih_13 v_47 x2_8 x1_9 _ _ _ _ (o28_64 b_16 b_17 hn_15 e_25 e_26 c_27 e_48) (o28_65 b_16 b_17 hn_15 e_25 e_26 c_27 e_48) (o28_66 b_16 b_17 hn_15 e_25 e_26 c_27 e_48) (o28_123 b_18 e_42 c_46) (o28_124 b_19 b_20 c_43) (o28_125 b_19 b_20 c_43) h (Fr.tr (Fr.tr hF_11 (Fr.mono u_22 (by decide))) u_39) (lv_sub hl [0, 2, 3, 4] rfl)
          · -- 57
            refine lv_iload_n C0.1 C0.2.1 dX11_cheap_60 rfl (lv_at hl 1 rfl) ?_
            refine lv_istore_n (lv' := [(1, .int x3_7), (4, .int r_41), (3, .int x3_7), (2, .int x2_8), (0, .ref (ad 0))]) C0.1 C0.2.1 dX11_cheap_61 rfl hl (by decide) rfl (fun ls hl => ?_)
            refine lv_iload C0.1 C0.2.1 dX11_cheap_62 (lv_at hl 1 rfl) ?_
            refine lv_istore_n (lv' := [(2, .int r_41), (1, .int x3_7), (4, .int r_41), (3, .int x3_7), (0, .ref (ad 0))]) C0.1 C0.2.1 dX11_cheap_64 rfl hl (by decide) rfl (fun ls hl => ?_)
            refine y_inc (kp := 3) (n := 1) (fun v_49 => [(3, .int v_49), (2, .int r_41), (1, .int x3_7), (4, .int r_41), (0, .ref (ad 0))]) C0 hl rfl (by decide) (by decide) (fun _ => rfl) (o28_62 b_16 b_17 hn_15 e_25 e_26 c_27 (le_min x3_7) (le_max x3_7) (le_min r_24) (le_max r_24)) (o28_63 b_16 b_17 hn_15 e_25 e_26 c_27 (le_min x3_7) (le_max x3_7) (le_min r_24) (le_max r_24)) dX11_cheap_65 (fun v_49 ls e_50 hl => ?_)
            refine lv_goto (tgt := 6) C0.1 C0.2.1 dX11_cheap_68 (by decide) ?_
            exact ih_13 v_49 r_41 x3_7 _ _ _ _ (o28_64 b_16 b_17 hn_15 e_25 e_26 c_27 e_50) (o28_65 b_16 b_17 hn_15 e_25 e_26 c_27 e_50) (o28_66 b_16 b_17 hn_15 e_25 e_26 c_27 e_50) (o28_126 b_18 e_42 c_46) (o28_70 b_16 b_17 hn_15 e_25 e_26 c_27 e_50) (o28_71 b_16 b_17 hn_15 e_25 e_26 c_27 e_50) h (Fr.tr (Fr.tr hF_11 (Fr.mono u_22 (by decide))) u_39) (lv_sub hl [0, 1, 2, 4] rfl)
  exact lp_12 ((25 - v_5.toInt + 1).toNat) v_5 v_3 v_1 _ _ _ _ (o28_74 e_6) (o28_17 e_6) (o28_75 e_6) (o28_17 e_4) (o28_76 e_2) (o28_77 e_2) h Fr.rf (lv_sub hl [0, 1, 2, 3] rfl)
set_option maxHeartbeats 4000000 in
set_option maxRecDepth 100000 in
theorem c_X11_affords (l : Launch) (G : GG) (Z : RZ) (ad : Nat → Nat) (ws0 : va_W) (hT : Ty G (SC tt) ad ws0) (a1 : Int32) (hR : Rel ws0) (hH : Hok ws0) : Mq l yX11_affords cX11_affords 6 (some .int) 4 G Z [.ref (ad 0), .int a1] ws0 (PI G (SC tt) ad [4, 5] ws0 (fun r u => ((-2) ≤ r.toInt) ∧ (Rel u) ∧ (Hok u))) := by
  refine Mq.start (by decide) (Nat.le_of_ble_eq_true rfl) ?_
  intro p e s m below meth c A ls C0 hZ h hl
  have hl : lv_has ls 6 [(0, .ref (ad 0)), (1, .int a1)] := hl
  have h : Wt G (SC tt) ad A s s.heap [] ws0 := ⟨h, hT⟩
  obtain ⟨args, hargs⟩ : ∃ z, z = ([.ref (ad 0), .int a1] : List Value).toArray := ⟨_, rfl⟩
  rw [← hargs] at C0 ⊢
  have C0 : Cx p s m args meth c RX11 cX11_affords 6 (some .int) := C0
  obtain ⟨Q, hQ⟩ : ∃ z, z = MQ below ((PI G (SC tt) ad [4, 5] ws0 (fun r u => ((-2) ≤ r.toInt) ∧ (Rel u) ∧ (Hok u))) A) args s 0 0 A := ⟨_, rfl⟩
  rw [← hQ]
  refine lv_aload_n C0.1 C0.2.1 dX11_affords_0 rfl (lv_at hl 0 rfl) ?_
  refine lv_iload_n C0.1 C0.2.1 dX11_affords_1 rfl (lv_at hl 1 rfl) ?_
  refine y_ci h (y_rV (As := [.int a1]) (rest := []) C0 hZ h (c_X11_isPerson l G Z ad _ h.2 a1) k_X11_isPerson q_903 q_23 q_901 kSC_0 rfl rfl rfl hl.1 rfl rfl (Nat.le_of_ble_eq_true rfl) dX11_affords_2 ⟨Nat.le_of_ble_eq_true rfl, Nat.le_of_ble_eq_true rfl⟩ ⟨Nat.le_of_ble_eq_true rfl, Nat.le_of_ble_eq_true rfl⟩) (fun r_4 H locs ws_1 h u_2 p_3 => ?_)
  obtain ⟨e_5, e_6, e_7⟩ := p_3
  refine y_if_ne (tgt := 11) C0 dX11_affords_5 (by decide) (fun c_8 => ?_) (fun c_8 => ?_)
  · -- 5
    refine lv_aload_n C0.1 C0.2.1 dX11_affords_11 rfl (lv_at hl 0 rfl) ?_
    refine tg_X11_now C0 h kSC_0 q_515 dX11_affords_12 ?_
    refine tg_X0_folk C0 h kSC_1 q_249 dX11_affords_15 ?_
    refine tg_X1_coins C0 h kSC_10 q_200 dX11_affords_18 ?_
    refine lv_iload_n C0.1 C0.2.1 dX11_affords_21 rfl (lv_at hl 1 rfl) ?_
    refine y_iald C0 h kSC_14 rfl (by decide) (o28_5 e_5 e_6 e_7 c_8) (o28_127 e_5 e_6 e_7 c_8) dX11_affords_22 (fun v_9 e_10 e_11 e_12 => ?_)
    refine lv_istore_n (lv' := [(2, .int v_9), (0, .ref (ad 0)), (1, .int a1)]) C0.1 C0.2.1 dX11_affords_23 rfl hl (by decide) rfl (fun ls hl => ?_)
    refine y_c2 (n := 99) C0 (by decide) dX11_affords_24 (fun v_13 e_14 => ?_)
    refine lv_aload_n C0.1 C0.2.1 dX11_affords_26 rfl (lv_at hl 1 rfl) ?_
    refine tg_X11_now C0 h kSC_0 q_515 dX11_affords_27 ?_
    refine tg_X0_folk C0 h kSC_1 q_249 dX11_affords_30 ?_
    refine tg_X1_lefts C0 h kSC_10 q_197 dX11_affords_33 ?_
    refine lv_iload_n C0.1 C0.2.1 dX11_affords_36 rfl (lv_at hl 2 rfl) ?_
    refine y_iald C0 h kSC_13 rfl (by decide) (o28_5 e_5 e_6 e_7 c_8) (o28_127 e_5 e_6 e_7 c_8) dX11_affords_37 (fun v_15 e_16 e_17 e_18 => ?_)
    refine y_isubU C0 dX11_affords_38 (fun v_19 => ?_)
    refine lv_istore_n (lv' := [(3, .int v_19), (2, .int v_9), (0, .ref (ad 0)), (1, .int a1)]) C0.1 C0.2.1 dX11_affords_39 rfl hl (by decide) rfl (fun ls hl => ?_)
    refine y_c1 (n := 0) C0 (by decide) dX11_affords_40 (fun v_20 e_21 => ?_)
    refine lv_istore (lv' := [(4, .int v_20), (3, .int v_19), (2, .int v_9), (0, .ref (ad 0)), (1, .int a1)]) C0.1 C0.2.1 dX11_affords_41 hl (by decide) rfl (fun ls hl => ?_)
    have lp_26 : ∀ (n_28 : Nat) (x4_22 : Int32) (x2_23 : Int32) (H : Heap) (locs : List Loc) (ls : Array Slot) (ws_24 : va_W), 2147483647 - x4_22.toInt < (n_28 : Int) → 0 ≤ x4_22.toInt → x4_22.toInt ≤ 2147483647 → Wt G (SC tt) ad A s H locs ws_24 → Fr (SC tt) [4, 5] ws_1 ws_24 → lv_has ls 6 [(4, .int x4_22), (3, .int v_19), (2, .int x2_23), (0, .ref (ad 0)), (1, .int a1)] → W p l e (rmd 4 0 0) s m args below meth c H locs 0 0 Q (F0 m 43 ls []) := by
      intro n_28
      induction n_28 with
      | zero => intro x4_22 x2_23 H locs ls ws_24 hn_29 b_30 b_31 h hF_25 hl; exact ((o28_128 b_30 b_31 hn_29)).elim
      | succ n_28 ih_27 =>
        intro x4_22 x2_23 H locs ls ws_24 hn_29 b_30 b_31 h hF_25 hl
        refine lv_iload C0.1 C0.2.1 dX11_affords_43 (lv_at hl 0 rfl) ?_
        refine lv_iload_n C0.1 C0.2.1 dX11_affords_45 rfl (lv_at hl 1 rfl) ?_
        refine y_icmp_ge (tgt := 81) C0 dX11_affords_46 (by decide) (fun c_32 => ?_) (fun c_32 => ?_)
        · -- 46
          refine lv_iload C0.1 C0.2.1 dX11_affords_81 (lv_at hl 0 rfl) ?_
          rw [hQ]
          exact y_iret C0 h (Fr.tr (Fr.mono u_2 (by decide)) hF_25) ⟨(o28_129 b_30 b_31 hn_29 c_32), (Rel.fr (M := [4, 5]) hR (Fr.tr (Fr.mono u_2 (by decide)) hF_25) (by decide) (by decide)), (Hok.fr (M := [4, 5]) hH (Fr.tr (Fr.mono u_2 (by decide)) hF_25) (by decide))⟩ dX11_affords_83
        · -- 46
          refine lv_aload_n C0.1 C0.2.1 dX11_affords_49 rfl (lv_at hl 3 rfl) ?_
          refine tg_X11_now C0 h kSC_0 q_515 dX11_affords_50 ?_
          refine lv_iload_n C0.1 C0.2.1 dX11_affords_53 rfl (lv_at hl 4 rfl) ?_
          refine lv_iload C0.1 C0.2.1 dX11_affords_54 (lv_at hl 0 rfl) ?_
          refine y_ci h (y_rV (As := [.int a1, .int x4_22]) (rest := []) C0 hZ h (c_X0_costTo l G Z ad _ h.2 1 kSC_1 a1 x4_22 (o28_5 e_5 e_6 e_7 c_8) (o28_6 e_5 e_6 e_7 c_8)) k_X0_costTo q_1017 q_1018 q_1016 kSC_1 rfl rfl rfl hl.1 rfl rfl (Nat.le_of_ble_eq_true rfl) dX11_affords_56 ⟨Nat.le_of_ble_eq_true rfl, Nat.le_of_ble_eq_true rfl⟩ ⟨Nat.le_of_ble_eq_true rfl, Nat.le_of_ble_eq_true rfl⟩) (fun r_36 H locs ws_33 h u_34 p_35 => ?_)
          have e_37 := p_35
          refine lv_istore (lv' := [(5, .int r_36), (4, .int x4_22), (3, .int v_19), (2, .int x2_23), (0, .ref (ad 0)), (1, .int a1)]) C0.1 C0.2.1 dX11_affords_59 hl (by decide) rfl (fun ls hl => ?_)
          refine lv_iload C0.1 C0.2.1 dX11_affords_61 (lv_at hl 0 rfl) ?_
          refine lv_iload_n C0.1 C0.2.1 dX11_affords_63 rfl (lv_at hl 3 rfl) ?_
          refine y_icmp_le (tgt := 70) C0 dX11_affords_64 (by decide) (fun c_38 => ?_) (fun c_38 => ?_)
          · -- 64
            refine lv_iload_n C0.1 C0.2.1 dX11_affords_70 rfl (lv_at hl 3 rfl) ?_
            refine lv_iload C0.1 C0.2.1 dX11_affords_71 (lv_at hl 0 rfl) ?_
            refine y_sub C0 (o28_130 e_37 c_38 (le_min x2_23) (le_max x2_23) (le_min r_36) (le_max r_36)) (o28_131 e_37 c_38 (le_min x2_23) (le_max x2_23) (le_min r_36) (le_max r_36)) dX11_affords_73 (fun v_39 e_40 => ?_)
            refine lv_istore_n (lv' := [(2, .int v_39), (5, .int r_36), (4, .int x4_22), (3, .int v_19), (0, .ref (ad 0)), (1, .int a1)]) C0.1 C0.2.1 dX11_affords_74 rfl hl (by decide) rfl (fun ls hl => ?_)
            refine y_inc (kp := 2) (n := 1) (fun v_41 => [(4, .int v_41), (2, .int v_39), (5, .int r_36), (3, .int v_19), (0, .ref (ad 0)), (1, .int a1)]) C0 hl rfl (by decide) (by decide) (fun _ => rfl) (o28_132 b_30 b_31 hn_29 c_32 (le_min x4_22) (le_max x4_22) (le_min v_19) (le_max v_19)) (o28_133 b_30 b_31 hn_29 c_32 (le_min x4_22) (le_max x4_22) (le_min v_19) (le_max v_19)) dX11_affords_75 (fun v_41 ls e_42 hl => ?_)
            refine lv_goto (tgt := 43) C0.1 C0.2.1 dX11_affords_78 (by decide) ?_
            exact ih_27 v_41 v_39 _ _ _ _ (o28_134 b_30 b_31 hn_29 c_32 e_42 (le_min v_41) (le_max v_41) (le_min x4_22) (le_max x4_22) (le_min v_19) (le_max v_19)) (o28_135 b_30 b_31 hn_29 c_32 e_42) (o28_136 b_30 b_31 hn_29 c_32 e_42 (le_min v_41) (le_max v_41) (le_min x4_22) (le_max x4_22) (le_min v_19) (le_max v_19)) h (Fr.tr hF_25 u_34) (lv_sub hl [0, 3, 1, 4, 5] rfl)
          · -- 64
            refine lv_goto (tgt := 81) C0.1 C0.2.1 dX11_affords_67 (by decide) ?_
            refine lv_iload C0.1 C0.2.1 dX11_affords_81 (lv_at hl 1 rfl) ?_
            rw [hQ]
            exact y_iret C0 h (Fr.tr (Fr.tr (Fr.mono u_2 (by decide)) hF_25) u_34) ⟨(o28_137 b_30 b_31 hn_29 c_32), (Rel.fr (M := [4, 5]) hR (Fr.tr (Fr.tr (Fr.mono u_2 (by decide)) hF_25) u_34) (by decide) (by decide)), (Hok.fr (M := [4, 5]) hH (Fr.tr (Fr.tr (Fr.mono u_2 (by decide)) hF_25) u_34) (by decide))⟩ dX11_affords_83
    exact lp_26 ((2147483647 - v_20.toInt + 1).toNat) v_20 v_9 _ _ _ _ (o28_138 e_21 (le_min v_20) (le_max v_20)) (o28_17 e_21) (o28_139 e_21 (le_min v_20) (le_max v_20)) h Fr.rf (lv_sub hl [0, 1, 2, 3, 4] rfl)
  · -- 5
    refine y_c2 (n := (-2)) C0 (by decide) dX11_affords_8 (fun v_43 e_44 => ?_)
    rw [hQ]
    exact y_iret C0 h (Fr.mono u_2 (by decide)) ⟨(o28_34 e_44), (Rel.fr (M := []) hR u_2 (by decide) (by decide)), (Hok.fr (M := []) hH u_2 (by decide))⟩ dX11_affords_10
set_option maxHeartbeats 4000000 in
set_option maxRecDepth 100000 in
theorem c_X11_found (l : Launch) (G : GG) (Z : RZ) (ad : Nat → Nat) (ws0 : va_W) (hT : Ty G (SC tt) ad ws0) (a1 : Int32) (a2 : Int32) (a3 : Int32) (hR : Rel ws0) (hH : Hok ws0) : Mq l yX11_found cX11_found 5 (some .int) 7 G Z [.ref (ad 0), .int a1, .int a2, .int a3] ws0 (PI G (SC tt) ad [4, 5, 18, 19, 20, 21, 22, 23] ws0 (fun r u => (Rel u) ∧ (Hok u))) := by
  refine Mq.start (by decide) (Nat.le_of_ble_eq_true rfl) ?_
  intro p e s m below meth c A ls C0 hZ h hl
  have hl : lv_has ls 5 [(0, .ref (ad 0)), (1, .int a1), (2, .int a2), (3, .int a3)] := hl
  have h : Wt G (SC tt) ad A s s.heap [] ws0 := ⟨h, hT⟩
  obtain ⟨args, hargs⟩ : ∃ z, z = ([.ref (ad 0), .int a1, .int a2, .int a3] : List Value).toArray := ⟨_, rfl⟩
  rw [← hargs] at C0 ⊢
  have C0 : Cx p s m args meth c RX11 cX11_found 5 (some .int) := C0
  obtain ⟨Q, hQ⟩ : ∃ z, z = MQ below ((PI G (SC tt) ad [4, 5, 18, 19, 20, 21, 22, 23] ws0 (fun r u => (Rel u) ∧ (Hok u))) A) args s 0 0 A := ⟨_, rfl⟩
  rw [← hQ]
  refine lv_aload_n C0.1 C0.2.1 dX11_found_0 rfl (lv_at hl 0 rfl) ?_
  refine lv_iload_n C0.1 C0.2.1 dX11_found_1 rfl (lv_at hl 1 rfl) ?_
  refine y_ci h (y_rV (As := [.int a1]) (rest := []) C0 hZ h (c_X11_isPerson l G Z ad _ h.2 a1) k_X11_isPerson q_903 q_23 q_901 kSC_0 rfl rfl rfl hl.1 rfl rfl (Nat.le_of_ble_eq_true rfl) dX11_found_2 ⟨Nat.le_of_ble_eq_true rfl, Nat.le_of_ble_eq_true rfl⟩ ⟨Nat.le_of_ble_eq_true rfl, Nat.le_of_ble_eq_true rfl⟩) (fun r_4 H locs ws_1 h u_2 p_3 => ?_)
  obtain ⟨e_5, e_6, e_7⟩ := p_3
  refine y_if_eq (tgt := 15) C0 dX11_found_5 (by decide) (fun c_8 => ?_) (fun c_8 => ?_)
  · -- 5
    refine y_c2 (n := (-2)) C0 (by decide) dX11_found_15 (fun v_9 e_10 => ?_)
    rw [hQ]
    exact y_iret C0 h (Fr.mono u_2 (by decide)) ⟨(Rel.fr (M := []) hR u_2 (by decide) (by decide)), (Hok.fr (M := []) hH u_2 (by decide))⟩ dX11_found_17
  · -- 5
    refine lv_iload_n C0.1 C0.2.1 dX11_found_8 rfl (lv_at hl 2 rfl) ?_
    refine y_ci h (y_rS (As := [.int a2]) (rest := []) C0 hZ h (c_X11_isTray l G Z ad _ h.2 a2) k_X11_isTray q_998 q_997 hl.1 rfl rfl (Nat.le_of_ble_eq_true rfl) dX11_found_9 ⟨Nat.le_of_ble_eq_true rfl, Nat.le_of_ble_eq_true rfl⟩ ⟨Nat.le_of_ble_eq_true rfl, Nat.le_of_ble_eq_true rfl⟩) (fun r_14 H locs ws_11 h u_12 p_13 => ?_)
    obtain ⟨e_15, e_16, e_17⟩ := p_13
    refine y_if_ne (tgt := 18) C0 dX11_found_12 (by decide) (fun c_18 => ?_) (fun c_18 => ?_)
    · -- 12
      refine lv_aload_n C0.1 C0.2.1 dX11_found_18 rfl (lv_at hl 0 rfl) ?_
      refine tg_X11_trays C0 h kSC_0 q_524 dX11_found_19 ?_
      refine lv_iload_n C0.1 C0.2.1 dX11_found_22 rfl (lv_at hl 2 rfl) ?_
      refine y_aald C0 h kSC_115 rfl rfl (by decide) (o28_43 e_15 e_16 e_17 c_18) (o28_44 e_15 e_16 e_17 c_18) dX11_found_23 ?_
      obtain ⟨i_19, hi_19, ei_19⟩ : ∃ j : Nat, Kd (SC tt) j 42 ∧ j = 107 + 2 * a2.toInt.toNat := ⟨_, aSC_44 (o28_45 e_15 e_16 e_17 c_18), rfl⟩
      rw [← ei_19]
      refine lv_astore (lv' := [(4, .ref (ad i_19)), (0, .ref (ad 0)), (1, .int a1), (2, .int a2), (3, .int a3)]) C0.1 C0.2.1 dX11_found_24 hl (by decide) rfl (fun ls hl => ?_)
      refine lv_aload C0.1 C0.2.1 dX11_found_26 (lv_at hl 0 rfl) ?_
      refine tg_X10_size C0 h hi_19 q_502 dX11_found_28 (fun v_20 e_21 e_22 e_23 => ?_)
      refine y_if_ge (tgt := 37) C0 dX11_found_31 (by decide) (fun c_24 => ?_) (fun c_24 => ?_)
      · -- 31
        refine lv_aload C0.1 C0.2.1 dX11_found_37 (lv_at hl 0 rfl) ?_
        refine tg_X10_size C0 h hi_19 q_502 dX11_found_39 (fun v_25 e_26 e_27 e_28 => ?_)
        have q_29 : v_25.toInt = v_20.toInt := congrArg Int32.toInt (e_26.symm.trans (Eq.trans rfl e_21))
        refine y_c2 (n := 10) C0 (by decide) dX11_found_42 (fun v_30 e_31 => ?_)
        refine y_icmp_le (tgt := 50) C0 dX11_found_44 (by decide) (fun c_32 => ?_) (fun c_32 => ?_)
        · -- 44
          refine lv_aload C0.1 C0.2.1 dX11_found_50 (lv_at hl 0 rfl) ?_
          refine lv_aload_n C0.1 C0.2.1 dX11_found_52 rfl (lv_at hl 1 rfl) ?_
          refine tg_X11_now C0 h kSC_0 q_515 dX11_found_53 ?_
          refine y_ci h (y_rV (As := []) (rest := [.ref (ad i_19)]) C0 hZ h (c_X0_crossings l G Z ad _ h.2 1 kSC_1) k_X0_crossings q_918 q_919 q_917 kSC_1 rfl rfl rfl hl.1 rfl rfl (Nat.le_of_ble_eq_true rfl) dX11_found_56 ⟨Nat.le_of_ble_eq_true rfl, Nat.le_of_ble_eq_true rfl⟩ ⟨Nat.le_of_ble_eq_true rfl, Nat.le_of_ble_eq_true rfl⟩) (fun r_36 H locs ws_33 h u_34 p_35 => ?_)
          obtain ⟨e_37, e_38⟩ := p_35
          refine y_ci h (y_rV (As := [.int r_36]) (rest := []) C0 hZ h (c_X10_allBelow l G Z ad _ h.2 i_19 hi_19 r_36) k_X10_allBelow q_1279 q_1280 q_1278 hi_19 rfl rfl rfl hl.1 rfl rfl (Nat.le_of_ble_eq_true rfl) dX11_found_59 ⟨Nat.le_of_ble_eq_true rfl, Nat.le_of_ble_eq_true rfl⟩ ⟨Nat.le_of_ble_eq_true rfl, Nat.le_of_ble_eq_true rfl⟩) (fun r_42 H locs ws_39 h u_40 p_41 => ?_)
          obtain ⟨e_43, e_44⟩ := p_41
          refine y_if_eq (tgt := 75) C0 dX11_found_62 (by decide) (fun c_45 => ?_) (fun c_45 => ?_)
          · -- 62
            refine y_c2 (n := (-3)) C0 (by decide) dX11_found_75 (fun v_46 e_47 => ?_)
            rw [hQ]
            exact y_iret C0 h (Fr.tr (Fr.tr (Fr.tr (Fr.mono u_2 (by decide)) (Fr.mono u_12 (by decide))) (Fr.mono u_34 (by decide))) (Fr.mono u_40 (by decide))) ⟨(Rel.fr (M := []) hR (Fr.tr (Fr.tr (Fr.tr u_2 u_12) u_34) u_40) (by decide) (by decide)), (Hok.fr (M := []) hH (Fr.tr (Fr.tr (Fr.tr u_2 u_12) u_34) u_40) (by decide))⟩ dX11_found_77
          · -- 62
            refine lv_iload_n C0.1 C0.2.1 dX11_found_65 rfl (lv_at hl 4 rfl) ?_
            refine y_if_lt (tgt := 75) C0 dX11_found_66 (by decide) (fun c_48 => ?_) (fun c_48 => ?_)
            · -- 66
              refine y_c2 (n := (-3)) C0 (by decide) dX11_found_75 (fun v_49 e_50 => ?_)
              rw [hQ]
              exact y_iret C0 h (Fr.tr (Fr.tr (Fr.tr (Fr.mono u_2 (by decide)) (Fr.mono u_12 (by decide))) (Fr.mono u_34 (by decide))) (Fr.mono u_40 (by decide))) ⟨(Rel.fr (M := []) hR (Fr.tr (Fr.tr (Fr.tr u_2 u_12) u_34) u_40) (by decide) (by decide)), (Hok.fr (M := []) hH (Fr.tr (Fr.tr (Fr.tr u_2 u_12) u_34) u_40) (by decide))⟩ dX11_found_77
            · -- 66
              refine lv_iload_n C0.1 C0.2.1 dX11_found_69 rfl (lv_at hl 4 rfl) ?_
              refine y_c2 (n := 30) C0 (by decide) dX11_found_70 (fun v_51 e_52 => ?_)
              refine y_icmp_le (tgt := 78) C0 dX11_found_72 (by decide) (fun c_53 => ?_) (fun c_53 => ?_)
              · -- 72
                refine lv_aload_n C0.1 C0.2.1 dX11_found_78 rfl (lv_at hl 1 rfl) ?_
                refine tg_X11_spread C0 h kSC_0 q_522 dX11_found_79 ?_
                refine lv_aload_n C0.1 C0.2.1 dX11_found_82 rfl (lv_at hl 1 rfl) ?_
                refine tg_X11_now C0 h kSC_0 q_515 dX11_found_83 ?_
                refine tg_X0_folk C0 h kSC_1 q_249 dX11_found_86 ?_
                refine lv_iload_n C0.1 C0.2.1 dX11_found_89 rfl (lv_at hl 2 rfl) ?_
                refine y_ci h (y_rV (As := [.int a1]) (rest := [.ref (ad 83)]) C0 hZ h (c_X1_stand l G Z ad _ h.2 10 kSC_10 a1 (o28_5 e_5 e_6 e_7 c_8) (o28_6 e_5 e_6 e_7 c_8)) k_X1_stand q_1071 q_1072 q_1070 kSC_10 rfl rfl rfl hl.1 rfl rfl (Nat.le_of_ble_eq_true rfl) dX11_found_90 ⟨Nat.le_of_ble_eq_true rfl, Nat.le_of_ble_eq_true rfl⟩ ⟨Nat.le_of_ble_eq_true rfl, Nat.le_of_ble_eq_true rfl⟩) (fun r_57 H locs ws_54 h u_55 p_56 => ?_)
                obtain ⟨e_58, e_59⟩ := p_56
                refine lv_aload C0.1 C0.2.1 dX11_found_93 (lv_at hl 0 rfl) ?_
                refine lv_iload_n C0.1 C0.2.1 dX11_found_95 rfl (lv_at hl 4 rfl) ?_
                refine y_ci h (y_rV (As := [.int r_57, .ref (ad i_19), .int a3]) (rest := []) C0 hZ h (c_X8_whereByEnvelopes l G Z ad _ h.2 r_57 i_19 hi_19 a3 (o28_7 e_58 e_59) (o28_8 e_58 e_59) (o28_57 c_48 e_52 c_53) (o28_140 c_48 e_52 c_53) (fbd_lo (Eq.trans (Eq.trans (Fr.fI u_55 hi_19 (by decide)) (Eq.trans (Fr.fI u_40 hi_19 (by decide)) (Fr.fI u_34 hi_19 (by decide)))) e_21) (o28_141 e_22 e_23 c_24 e_27 e_28 q_29 e_31 c_32)) (fbd_hi (Eq.trans (Eq.trans (Fr.fI u_55 hi_19 (by decide)) (Eq.trans (Fr.fI u_40 hi_19 (by decide)) (Fr.fI u_34 hi_19 (by decide)))) e_21) (o28_142 e_22 e_23 c_24 e_27 e_28 q_29 e_31 c_32))) k_X8_whereByEnvelopes q_1347 q_1348 q_1346 kSC_83 rfl rfl rfl hl.1 rfl rfl (Nat.le_of_ble_eq_true rfl) dX11_found_96 ⟨Nat.le_of_ble_eq_true rfl, Nat.le_of_ble_eq_true rfl⟩ ⟨Nat.le_of_ble_eq_true rfl, Nat.le_of_ble_eq_true rfl⟩) (fun r_63 H locs ws_60 h u_61 p_62 => ?_)
                rw [hQ]
                exact y_iret C0 h (Fr.tr (Fr.tr (Fr.tr (Fr.tr (Fr.tr (Fr.mono u_2 (by decide)) (Fr.mono u_12 (by decide))) (Fr.mono u_34 (by decide))) (Fr.mono u_40 (by decide))) (Fr.mono u_55 (by decide))) u_61) ⟨(Rel.fr (M := [4, 5, 18, 19, 20, 21, 22, 23]) hR (Fr.tr (Fr.tr (Fr.tr (Fr.tr (Fr.tr (Fr.mono u_2 (by decide)) (Fr.mono u_12 (by decide))) (Fr.mono u_34 (by decide))) (Fr.mono u_40 (by decide))) (Fr.mono u_55 (by decide))) u_61) (by decide) (by decide)), (Hok.fr (M := [4, 5, 18, 19, 20, 21, 22, 23]) hH (Fr.tr (Fr.tr (Fr.tr (Fr.tr (Fr.tr (Fr.mono u_2 (by decide)) (Fr.mono u_12 (by decide))) (Fr.mono u_34 (by decide))) (Fr.mono u_40 (by decide))) (Fr.mono u_55 (by decide))) u_61) (by decide))⟩ dX11_found_99
              · -- 72
                refine y_c2 (n := (-3)) C0 (by decide) dX11_found_75 (fun v_64 e_65 => ?_)
                rw [hQ]
                exact y_iret C0 h (Fr.tr (Fr.tr (Fr.tr (Fr.mono u_2 (by decide)) (Fr.mono u_12 (by decide))) (Fr.mono u_34 (by decide))) (Fr.mono u_40 (by decide))) ⟨(Rel.fr (M := []) hR (Fr.tr (Fr.tr (Fr.tr u_2 u_12) u_34) u_40) (by decide) (by decide)), (Hok.fr (M := []) hH (Fr.tr (Fr.tr (Fr.tr u_2 u_12) u_34) u_40) (by decide))⟩ dX11_found_77
        · -- 44
          refine y_c2 (n := (-4)) C0 (by decide) dX11_found_47 (fun v_66 e_67 => ?_)
          rw [hQ]
          exact y_iret C0 h (Fr.tr (Fr.mono u_2 (by decide)) (Fr.mono u_12 (by decide))) ⟨(Rel.fr (M := []) hR (Fr.tr u_2 u_12) (by decide) (by decide)), (Hok.fr (M := []) hH (Fr.tr u_2 u_12) (by decide))⟩ dX11_found_49
      · -- 31
        refine y_c2 (n := (-6)) C0 (by decide) dX11_found_34 (fun v_68 e_69 => ?_)
        rw [hQ]
        exact y_iret C0 h (Fr.tr (Fr.mono u_2 (by decide)) (Fr.mono u_12 (by decide))) ⟨(Rel.fr (M := []) hR (Fr.tr u_2 u_12) (by decide) (by decide)), (Hok.fr (M := []) hH (Fr.tr u_2 u_12) (by decide))⟩ dX11_found_36
    · -- 12
      refine y_c2 (n := (-2)) C0 (by decide) dX11_found_15 (fun v_70 e_71 => ?_)
      rw [hQ]
      exact y_iret C0 h (Fr.tr (Fr.mono u_2 (by decide)) (Fr.mono u_12 (by decide))) ⟨(Rel.fr (M := []) hR (Fr.tr u_2 u_12) (by decide) (by decide)), (Hok.fr (M := []) hH (Fr.tr u_2 u_12) (by decide))⟩ dX11_found_17
set_option maxHeartbeats 4000000 in
set_option maxRecDepth 100000 in
theorem c_X11_chase (l : Launch) (G : GG) (Z : RZ) (ad : Nat → Nat) (ws0 : va_W) (hT : Ty G (SC tt) ad ws0) (a1 : Int32) (a2 : Int32) (a3 : Int32) (a4 : Int32) (hR : Rel ws0) (hH : Hok ws0) : Mq l yX11_chase cX11_chase 6 (some .int) 5 G Z [.ref (ad 0), .int a1, .int a2, .int a3, .int a4] ws0 (PI G (SC tt) ad [39, 40, 41] ws0 (fun r u => ((-2) ≤ r.toInt) ∧ (r.toInt ≤ 30) ∧ (Rel u) ∧ (Hok u))) := by
  refine Mq.start (by decide) (Nat.le_of_ble_eq_true rfl) ?_
  intro p e s m below meth c A ls C0 hZ h hl
  have hl : lv_has ls 6 [(0, .ref (ad 0)), (1, .int a1), (2, .int a2), (3, .int a3), (4, .int a4)] := hl
  have h : Wt G (SC tt) ad A s s.heap [] ws0 := ⟨h, hT⟩
  obtain ⟨args, hargs⟩ : ∃ z, z = ([.ref (ad 0), .int a1, .int a2, .int a3, .int a4] : List Value).toArray := ⟨_, rfl⟩
  rw [← hargs] at C0 ⊢
  have C0 : Cx p s m args meth c RX11 cX11_chase 6 (some .int) := C0
  obtain ⟨Q, hQ⟩ : ∃ z, z = MQ below ((PI G (SC tt) ad [39, 40, 41] ws0 (fun r u => ((-2) ≤ r.toInt) ∧ (r.toInt ≤ 30) ∧ (Rel u) ∧ (Hok u))) A) args s 0 0 A := ⟨_, rfl⟩
  rw [← hQ]
  refine lv_aload_n C0.1 C0.2.1 dX11_chase_0 rfl (lv_at hl 0 rfl) ?_
  refine lv_iload_n C0.1 C0.2.1 dX11_chase_1 rfl (lv_at hl 1 rfl) ?_
  refine lv_iload_n C0.1 C0.2.1 dX11_chase_2 rfl (lv_at hl 2 rfl) ?_
  refine y_ci h (y_rV (As := [.int a1, .int a2]) (rest := []) C0 hZ h (c_X11_isStand l G Z ad _ h.2 a1 a2) k_X11_isStand q_911 q_24 q_909 kSC_0 rfl rfl rfl hl.1 rfl rfl (Nat.le_of_ble_eq_true rfl) dX11_chase_3 ⟨Nat.le_of_ble_eq_true rfl, Nat.le_of_ble_eq_true rfl⟩ ⟨Nat.le_of_ble_eq_true rfl, Nat.le_of_ble_eq_true rfl⟩) (fun r_4 H locs ws_1 h u_2 p_3 => ?_)
  obtain ⟨e_5, e_6, e_7⟩ := p_3
  refine y_if_eq (tgt := 19) C0 dX11_chase_6 (by decide) (fun c_8 => ?_) (fun c_8 => ?_)
  · -- 6
    refine y_c2 (n := (-2)) C0 (by decide) dX11_chase_19 (fun v_9 e_10 => ?_)
    rw [hQ]
    exact y_iret C0 h (Fr.mono u_2 (by decide)) ⟨(o28_34 e_10), (o28_143 e_10), (Rel.fr (M := []) hR u_2 (by decide) (by decide)), (Hok.fr (M := []) hH u_2 (by decide))⟩ dX11_chase_21
  · -- 6
    refine lv_aload_n C0.1 C0.2.1 dX11_chase_9 rfl (lv_at hl 0 rfl) ?_
    refine lv_iload_n C0.1 C0.2.1 dX11_chase_10 rfl (lv_at hl 3 rfl) ?_
    refine lv_iload C0.1 C0.2.1 dX11_chase_11 (lv_at hl 4 rfl) ?_
    refine y_ci h (y_rV (As := [.int a3, .int a4]) (rest := []) C0 hZ h (c_X11_isStand l G Z ad _ h.2 a3 a4) k_X11_isStand q_911 q_24 q_909 kSC_0 rfl rfl rfl hl.1 rfl rfl (Nat.le_of_ble_eq_true rfl) dX11_chase_13 ⟨Nat.le_of_ble_eq_true rfl, Nat.le_of_ble_eq_true rfl⟩ ⟨Nat.le_of_ble_eq_true rfl, Nat.le_of_ble_eq_true rfl⟩) (fun r_14 H locs ws_11 h u_12 p_13 => ?_)
    obtain ⟨e_15, e_16, e_17⟩ := p_13
    refine y_if_ne (tgt := 22) C0 dX11_chase_16 (by decide) (fun c_18 => ?_) (fun c_18 => ?_)
    · -- 16
      refine y_c1 (n := 0) C0 (by decide) dX11_chase_22 (fun v_19 e_20 => ?_)
      refine lv_istore (lv' := [(5, .int v_19), (0, .ref (ad 0)), (1, .int a1), (2, .int a2), (3, .int a3), (4, .int a4)]) C0.1 C0.2.1 dX11_chase_23 hl (by decide) rfl (fun ls hl => ?_)
      have lp_24 : ∀ (n_26 : Nat) (x5_21 : Int32) (H : Heap) (locs : List Loc) (ls : Array Slot) (ws_22 : va_W), 31 - x5_21.toInt < (n_26 : Int) → 0 ≤ x5_21.toInt → x5_21.toInt ≤ 31 → Hok ws_22 → Wt G (SC tt) ad A s H locs ws_22 → Fr (SC tt) [39, 40, 41] ws_11 ws_22 → lv_has ls 6 [(5, .int x5_21), (0, .ref (ad 0)), (1, .int a1), (2, .int a2), (3, .int a3), (4, .int a4)] → W p l e (rmd 5 0 0) s m args below meth c H locs 0 0 Q (F0 m 25 ls []) := by
        intro n_26
        induction n_26 with
        | zero => intro x5_21 H locs ls ws_22 hn_27 b_28 b_29 hHl h hF_23 hl; exact ((o28_144 b_28 b_29 hn_27)).elim
        | succ n_26 ih_25 =>
          intro x5_21 H locs ls ws_22 hn_27 b_28 b_29 hHl h hF_23 hl
          refine lv_iload C0.1 C0.2.1 dX11_chase_25 (lv_at hl 0 rfl) ?_
          refine y_c2 (n := 30) C0 (by decide) dX11_chase_27 (fun v_30 e_31 => ?_)
          refine y_icmp_gt (tgt := 64) C0 dX11_chase_29 (by decide) (fun c_32 => ?_) (fun c_32 => ?_)
          · -- 29
            refine y_c1 (n := (-1)) C0 (by decide) dX11_chase_64 (fun v_33 e_34 => ?_)
            rw [hQ]
            exact y_iret C0 h (Fr.tr (Fr.tr (Fr.mono u_2 (by decide)) (Fr.mono u_12 (by decide))) hF_23) ⟨(o28_145 e_34), (o28_146 e_34), (Rel.fr (M := [39, 40, 41]) hR (Fr.tr (Fr.tr (Fr.mono u_2 (by decide)) (Fr.mono u_12 (by decide))) hF_23) (by decide) (by decide)), hHl⟩ dX11_chase_65
          · -- 29
            refine lv_aload_n C0.1 C0.2.1 dX11_chase_32 rfl (lv_at hl 1 rfl) ?_
            refine tg_X11_hunt C0 h kSC_0 q_523 dX11_chase_33 ?_
            refine y_c1 (n := 4) C0 (by decide) dX11_chase_36 (fun v_35 e_36 => ?_)
            refine lv_iload_n C0.1 C0.2.1 dX11_chase_37 rfl (lv_at hl 2 rfl) ?_
            refine y_cmul (n := 4) C0 (o28_35 e_36) (o28_36 e_5 e_6 e_7 c_8 (le_min a1) (le_max a1) (le_min r_4) (le_max r_4) (le_min a2) (le_max a2)) (o28_37 e_5 e_6 e_7 c_8 (le_min a1) (le_max a1) (le_min r_4) (le_max r_4) (le_min a2) (le_max a2)) dX11_chase_38 (fun v_37 e_38 => ?_)
            refine lv_iload_n C0.1 C0.2.1 dX11_chase_39 rfl (lv_at hl 3 rfl) ?_
            refine y_add C0 (o28_38 e_5 e_6 e_7 c_8 e_38 (le_min v_37) (le_max v_37) (le_min a2) (le_max a2) (le_min r_4) (le_max r_4) (le_min a1) (le_max a1)) (o28_39 e_5 e_6 e_7 c_8 e_38 (le_min v_37) (le_max v_37) (le_min a2) (le_max a2) (le_min r_4) (le_max r_4) (le_min a1) (le_max a1)) dX11_chase_40 (fun v_39 e_40 => ?_)
            refine lv_iload C0.1 C0.2.1 dX11_chase_41 (lv_at hl 5 rfl) ?_
            refine lv_iload C0.1 C0.2.1 dX11_chase_43 (lv_at hl 0 rfl) ?_
            refine y_ci h (y_rV (As := [.int v_39, .int a4, .int x5_21]) (rest := []) C0 hZ h (c_X3_catching l G Z ad _ h.2 v_39 a4 x5_21 (o28_40 e_5 e_6 e_7 c_8 e_38 e_40) (o28_41 e_5 e_6 e_7 c_8 e_38 e_40) (o28_147 e_15 e_16 e_17 c_18) (o28_148 e_15 e_16 e_17 c_18) (o28_149 b_28 b_29 hn_27 e_31 c_32) (o28_150 b_28 b_29 hn_27 e_31 c_32) (Rel.fr (M := [39, 40, 41]) hR (Fr.tr (Fr.tr (Fr.mono u_2 (by decide)) (Fr.mono u_12 (by decide))) hF_23) (by decide) (by decide)) hHl) k_X3_catching q_1360 q_1361 q_1359 kSC_104 rfl rfl rfl hl.1 rfl rfl (Nat.le_of_ble_eq_true rfl) dX11_chase_45 ⟨Nat.le_of_ble_eq_true rfl, Nat.le_of_ble_eq_true rfl⟩ ⟨Nat.le_of_ble_eq_true rfl, Nat.le_of_ble_eq_true rfl⟩) (fun r_44 H locs ws_41 h u_42 p_43 => ?_)
            have e_45 := p_43
            refine lv_iload_n C0.1 C0.2.1 dX11_chase_48 rfl (lv_at hl 4 rfl) ?_
            refine y_ishrU C0 dX11_chase_49 (fun v_46 => ?_)
            refine y_c1 (n := 1) C0 (by decide) dX11_chase_50 (fun v_47 e_48 => ?_)
            refine y_and 1 1 (n := 1) C0 (Eq.trans (o28_151 e_48) (by decide)) (by decide) (by decide) (by decide) dX11_chase_51 (fun v_49 e_50 e_51 => ?_)
            refine y_if_eq (tgt := 58) C0 dX11_chase_52 (by decide) (fun c_52 => ?_) (fun c_52 => ?_)
            · -- 52
              refine y_inc (kp := 0) (n := 1) (fun v_53 => [(5, .int v_53), (0, .ref (ad 0)), (1, .int a1), (2, .int a2), (3, .int a3), (4, .int a4)]) C0 hl rfl (by decide) (by decide) (fun _ => rfl) (o28_152 b_28 b_29 hn_27 e_31 c_32 (le_min x5_21) (le_max x5_21) (le_min v_30) (le_max v_30)) (o28_153 b_28 b_29 hn_27 e_31 c_32 (le_min x5_21) (le_max x5_21) (le_min v_30) (le_max v_30)) dX11_chase_58 (fun v_53 ls e_54 hl => ?_)
              refine lv_goto (tgt := 25) C0.1 C0.2.1 dX11_chase_61 (by decide) ?_
              exact ih_25 v_53 _ _ _ _ (o28_154 b_28 b_29 hn_27 e_31 c_32 e_54) (o28_155 b_28 b_29 hn_27 e_31 c_32 e_54) (o28_156 b_28 b_29 hn_27 e_31 c_32 e_54) e_45 h (Fr.tr hF_23 u_42) (lv_sub hl [0, 1, 2, 3, 4, 5] rfl)
            · -- 52
              refine lv_iload C0.1 C0.2.1 dX11_chase_55 (lv_at hl 0 rfl) ?_
              rw [hQ]
              exact y_iret C0 h (Fr.tr (Fr.tr (Fr.tr (Fr.mono u_2 (by decide)) (Fr.mono u_12 (by decide))) hF_23) u_42) ⟨(o28_157 b_28 b_29 hn_27 e_31 c_32), (o28_150 b_28 b_29 hn_27 e_31 c_32), (Rel.fr (M := [39, 40, 41]) hR (Fr.tr (Fr.tr (Fr.tr (Fr.mono u_2 (by decide)) (Fr.mono u_12 (by decide))) hF_23) u_42) (by decide) (by decide)), e_45⟩ dX11_chase_57
      exact lp_24 ((31 - v_19.toInt + 1).toNat) v_19 _ _ _ _ (o28_158 e_20) (o28_17 e_20) (o28_159 e_20) (Hok.fr (M := []) hH (Fr.tr u_2 u_12) (by decide)) h Fr.rf (lv_sub hl [0, 1, 2, 3, 4, 5] rfl)
    · -- 16
      refine y_c2 (n := (-2)) C0 (by decide) dX11_chase_19 (fun v_55 e_56 => ?_)
      rw [hQ]
      exact y_iret C0 h (Fr.tr (Fr.mono u_2 (by decide)) (Fr.mono u_12 (by decide))) ⟨(o28_34 e_56), (o28_143 e_56), (Rel.fr (M := []) hR (Fr.tr u_2 u_12) (by decide) (by decide)), (Hok.fr (M := []) hH (Fr.tr u_2 u_12) (by decide))⟩ dX11_chase_21
set_option maxHeartbeats 4000000 in
set_option maxRecDepth 100000 in
theorem c_X11_posts (l : Launch) (G : GG) (Z : RZ) (ad : Nat → Nat) (ws0 : va_W) (hT : Ty G (SC tt) ad ws0) (a1 : Int32) (a2 : Int32) (a3 : Int32) (a4 : Int32) (hR : Rel ws0) (hH : Hok ws0) : Mq l yX11_posts cX11_posts 5 (some .int) 5 G Z [.ref (ad 0), .int a1, .int a2, .int a3, .int a4] ws0 (PI G (SC tt) ad [39, 40, 41] ws0 (fun r u => (Rel u) ∧ (Hok u))) := by
  refine Mq.start (by decide) (Nat.le_of_ble_eq_true rfl) ?_
  intro p e s m below meth c A ls C0 hZ h hl
  have hl : lv_has ls 5 [(0, .ref (ad 0)), (1, .int a1), (2, .int a2), (3, .int a3), (4, .int a4)] := hl
  have h : Wt G (SC tt) ad A s s.heap [] ws0 := ⟨h, hT⟩
  obtain ⟨args, hargs⟩ : ∃ z, z = ([.ref (ad 0), .int a1, .int a2, .int a3, .int a4] : List Value).toArray := ⟨_, rfl⟩
  rw [← hargs] at C0 ⊢
  have C0 : Cx p s m args meth c RX11 cX11_posts 5 (some .int) := C0
  obtain ⟨Q, hQ⟩ : ∃ z, z = MQ below ((PI G (SC tt) ad [39, 40, 41] ws0 (fun r u => (Rel u) ∧ (Hok u))) A) args s 0 0 A := ⟨_, rfl⟩
  rw [← hQ]
  refine lv_aload_n C0.1 C0.2.1 dX11_posts_0 rfl (lv_at hl 0 rfl) ?_
  refine lv_iload_n C0.1 C0.2.1 dX11_posts_1 rfl (lv_at hl 1 rfl) ?_
  refine lv_iload_n C0.1 C0.2.1 dX11_posts_2 rfl (lv_at hl 2 rfl) ?_
  refine y_ci h (y_rV (As := [.int a1, .int a2]) (rest := []) C0 hZ h (c_X11_isStand l G Z ad _ h.2 a1 a2) k_X11_isStand q_911 q_24 q_909 kSC_0 rfl rfl rfl hl.1 rfl rfl (Nat.le_of_ble_eq_true rfl) dX11_posts_3 ⟨Nat.le_of_ble_eq_true rfl, Nat.le_of_ble_eq_true rfl⟩ ⟨Nat.le_of_ble_eq_true rfl, Nat.le_of_ble_eq_true rfl⟩) (fun r_4 H locs ws_1 h u_2 p_3 => ?_)
  obtain ⟨e_5, e_6, e_7⟩ := p_3
  refine y_if_eq (tgt := 18) C0 dX11_posts_6 (by decide) (fun c_8 => ?_) (fun c_8 => ?_)
  · -- 6
    refine y_c2 (n := (-2)) C0 (by decide) dX11_posts_18 (fun v_9 e_10 => ?_)
    rw [hQ]
    exact y_iret C0 h (Fr.mono u_2 (by decide)) ⟨(Rel.fr (M := []) hR u_2 (by decide) (by decide)), (Hok.fr (M := []) hH u_2 (by decide))⟩ dX11_posts_20
  · -- 6
    refine lv_iload_n C0.1 C0.2.1 dX11_posts_9 rfl (lv_at hl 3 rfl) ?_
    refine y_if_lt (tgt := 18) C0 dX11_posts_10 (by decide) (fun c_11 => ?_) (fun c_11 => ?_)
    · -- 10
      refine y_c2 (n := (-2)) C0 (by decide) dX11_posts_18 (fun v_12 e_13 => ?_)
      rw [hQ]
      exact y_iret C0 h (Fr.mono u_2 (by decide)) ⟨(Rel.fr (M := []) hR u_2 (by decide) (by decide)), (Hok.fr (M := []) hH u_2 (by decide))⟩ dX11_posts_20
    · -- 10
      refine lv_iload_n C0.1 C0.2.1 dX11_posts_13 rfl (lv_at hl 3 rfl) ?_
      refine y_c1 (n := 3) C0 (by decide) dX11_posts_14 (fun v_14 e_15 => ?_)
      refine y_icmp_le (tgt := 21) C0 dX11_posts_15 (by decide) (fun c_16 => ?_) (fun c_16 => ?_)
      · -- 15
        refine lv_iload C0.1 C0.2.1 dX11_posts_21 (lv_at hl 4 rfl) ?_
        refine y_if_lt (tgt := 33) C0 dX11_posts_23 (by decide) (fun c_17 => ?_) (fun c_17 => ?_)
        · -- 23
          refine y_c2 (n := (-3)) C0 (by decide) dX11_posts_33 (fun v_18 e_19 => ?_)
          rw [hQ]
          exact y_iret C0 h (Fr.mono u_2 (by decide)) ⟨(Rel.fr (M := []) hR u_2 (by decide) (by decide)), (Hok.fr (M := []) hH u_2 (by decide))⟩ dX11_posts_35
        · -- 23
          refine lv_iload C0.1 C0.2.1 dX11_posts_26 (lv_at hl 4 rfl) ?_
          refine y_c2 (n := 30) C0 (by decide) dX11_posts_28 (fun v_20 e_21 => ?_)
          refine y_icmp_le (tgt := 36) C0 dX11_posts_30 (by decide) (fun c_22 => ?_) (fun c_22 => ?_)
          · -- 30
            refine lv_aload_n C0.1 C0.2.1 dX11_posts_36 rfl (lv_at hl 0 rfl) ?_
            refine tg_X11_hunt C0 h kSC_0 q_523 dX11_posts_37 ?_
            refine y_c1 (n := 4) C0 (by decide) dX11_posts_40 (fun v_23 e_24 => ?_)
            refine lv_iload_n C0.1 C0.2.1 dX11_posts_41 rfl (lv_at hl 1 rfl) ?_
            refine y_cmul (n := 4) C0 (o28_35 e_24) (o28_36 e_5 e_6 e_7 c_8 (le_min a1) (le_max a1) (le_min r_4) (le_max r_4) (le_min a2) (le_max a2)) (o28_37 e_5 e_6 e_7 c_8 (le_min a1) (le_max a1) (le_min r_4) (le_max r_4) (le_min a2) (le_max a2)) dX11_posts_42 (fun v_25 e_26 => ?_)
            refine lv_iload_n C0.1 C0.2.1 dX11_posts_43 rfl (lv_at hl 2 rfl) ?_
            refine y_add C0 (o28_38 e_5 e_6 e_7 c_8 e_26 (le_min v_25) (le_max v_25) (le_min a2) (le_max a2) (le_min r_4) (le_max r_4) (le_min a1) (le_max a1)) (o28_39 e_5 e_6 e_7 c_8 e_26 (le_min v_25) (le_max v_25) (le_min a2) (le_max a2) (le_min r_4) (le_max r_4) (le_min a1) (le_max a1)) dX11_posts_44 (fun v_27 e_28 => ?_)
            refine lv_iload_n C0.1 C0.2.1 dX11_posts_45 rfl (lv_at hl 3 rfl) ?_
            refine lv_iload C0.1 C0.2.1 dX11_posts_46 (lv_at hl 4 rfl) ?_
            refine y_ci h (y_rV (As := [.int v_27, .int a3, .int a4]) (rest := []) C0 hZ h (c_X3_catching l G Z ad _ h.2 v_27 a3 a4 (o28_40 e_5 e_6 e_7 c_8 e_26 e_28) (o28_41 e_5 e_6 e_7 c_8 e_26 e_28) (o28_160 c_11 e_15 c_16) (o28_161 c_11 e_15 c_16) (o28_57 c_17 e_21 c_22) (o28_140 c_17 e_21 c_22) (Rel.fr (M := []) hR u_2 (by decide) (by decide)) (Hok.fr (M := []) hH u_2 (by decide))) k_X3_catching q_1360 q_1361 q_1359 kSC_104 rfl rfl rfl hl.1 rfl rfl (Nat.le_of_ble_eq_true rfl) dX11_posts_48 ⟨Nat.le_of_ble_eq_true rfl, Nat.le_of_ble_eq_true rfl⟩ ⟨Nat.le_of_ble_eq_true rfl, Nat.le_of_ble_eq_true rfl⟩) (fun r_32 H locs ws_29 h u_30 p_31 => ?_)
            have e_33 := p_31
            rw [hQ]
            exact y_iret C0 h (Fr.tr (Fr.mono u_2 (by decide)) u_30) ⟨(Rel.fr (M := [39, 40, 41]) hR (Fr.tr (Fr.mono u_2 (by decide)) u_30) (by decide) (by decide)), e_33⟩ dX11_posts_51
          · -- 30
            refine y_c2 (n := (-3)) C0 (by decide) dX11_posts_33 (fun v_34 e_35 => ?_)
            rw [hQ]
            exact y_iret C0 h (Fr.mono u_2 (by decide)) ⟨(Rel.fr (M := []) hR u_2 (by decide) (by decide)), (Hok.fr (M := []) hH u_2 (by decide))⟩ dX11_posts_35
      · -- 15
        refine y_c2 (n := (-2)) C0 (by decide) dX11_posts_18 (fun v_36 e_37 => ?_)
        rw [hQ]
        exact y_iret C0 h (Fr.mono u_2 (by decide)) ⟨(Rel.fr (M := []) hR u_2 (by decide) (by decide)), (Hok.fr (M := []) hH u_2 (by decide))⟩ dX11_posts_20
set_option maxHeartbeats 4000000 in
set_option maxRecDepth 100000 in
theorem c_X11_numbers (l : Launch) (G : GG) (Z : RZ) (ad : Nat → Nat) (ws0 : va_W) (hT : Ty G (SC tt) ad ws0) (a1 : Int32) (a2 : Int32) (a3 : Int32) (hR : Rel ws0) (hH : Hok ws0) : Mq l yX11_numbers cX11_numbers 4 (some .int) 3 G Z [.ref (ad 0), .int a1, .int a2, .int a3] ws0 (PI G (SC tt) ad [42, 43] ws0 (fun r u => ((-3) ≤ r.toInt) ∧ (r.toInt ≤ 0) ∧ (((r.toInt = -2 ∧ (a1.toInt < 0 ∨ 3 < a1.toInt ∨ a2.toInt < 0 ∨ 3 < a2.toInt)) ∨ (0 ≤ a1.toInt ∧ a1.toInt ≤ 3 ∧ 0 ≤ a2.toInt ∧ a2.toInt ≤ 3 ∧ ((r.toInt = -3 ∧ (a3.toInt < 0 ∨ 40 < a3.toInt)) ∨ (r.toInt = 0 ∧ 0 ≤ a3.toInt ∧ a3.toInt ≤ 40))))) ∧ (Rel u) ∧ (Hok u))) := by
  refine Mq.start (by decide) (Nat.le_of_ble_eq_true rfl) ?_
  intro p e s m below meth c A ls C0 hZ h hl
  have hl : lv_has ls 4 [(0, .ref (ad 0)), (1, .int a1), (2, .int a2), (3, .int a3)] := hl
  have h : Wt G (SC tt) ad A s s.heap [] ws0 := ⟨h, hT⟩
  obtain ⟨args, hargs⟩ : ∃ z, z = ([.ref (ad 0), .int a1, .int a2, .int a3] : List Value).toArray := ⟨_, rfl⟩
  rw [← hargs] at C0 ⊢
  have C0 : Cx p s m args meth c RX11 cX11_numbers 4 (some .int) := C0
  obtain ⟨Q, hQ⟩ : ∃ z, z = MQ below ((PI G (SC tt) ad [42, 43] ws0 (fun r u => ((-3) ≤ r.toInt) ∧ (r.toInt ≤ 0) ∧ (((r.toInt = -2 ∧ (a1.toInt < 0 ∨ 3 < a1.toInt ∨ a2.toInt < 0 ∨ 3 < a2.toInt)) ∨ (0 ≤ a1.toInt ∧ a1.toInt ≤ 3 ∧ 0 ≤ a2.toInt ∧ a2.toInt ≤ 3 ∧ ((r.toInt = -3 ∧ (a3.toInt < 0 ∨ 40 < a3.toInt)) ∨ (r.toInt = 0 ∧ 0 ≤ a3.toInt ∧ a3.toInt ≤ 40))))) ∧ (Rel u) ∧ (Hok u))) A) args s 0 0 A := ⟨_, rfl⟩
  rw [← hQ]
  refine lv_iload_n C0.1 C0.2.1 dX11_numbers_0 rfl (lv_at hl 1 rfl) ?_
  refine y_ci h (y_rS (As := [.int a1]) (rest := []) C0 hZ h (c_X11_isTray l G Z ad _ h.2 a1) k_X11_isTray q_998 q_997 hl.1 rfl rfl (Nat.le_of_ble_eq_true rfl) dX11_numbers_1 ⟨Nat.le_of_ble_eq_true rfl, Nat.le_of_ble_eq_true rfl⟩ ⟨Nat.le_of_ble_eq_true rfl, Nat.le_of_ble_eq_true rfl⟩) (fun r_4 H locs ws_1 h u_2 p_3 => ?_)
  obtain ⟨e_5, e_6, e_7⟩ := p_3
  refine y_if_eq (tgt := 16) C0 dX11_numbers_4 (by decide) (fun c_8 => ?_) (fun c_8 => ?_)
  · -- 4
    refine y_c2 (n := (-2)) C0 (by decide) dX11_numbers_16 (fun v_9 e_10 => ?_)
    rw [hQ]
    exact y_iret C0 h (Fr.mono u_2 (by decide)) ⟨(o28_1 e_10), (o28_162 e_10), (o28_163 e_5 e_6 e_7 c_8 e_10), (Rel.fr (M := []) hR u_2 (by decide) (by decide)), (Hok.fr (M := []) hH u_2 (by decide))⟩ dX11_numbers_18
  · -- 4
    refine lv_iload_n C0.1 C0.2.1 dX11_numbers_7 rfl (lv_at hl 2 rfl) ?_
    refine y_if_lt (tgt := 16) C0 dX11_numbers_8 (by decide) (fun c_11 => ?_) (fun c_11 => ?_)
    · -- 8
      refine y_c2 (n := (-2)) C0 (by decide) dX11_numbers_16 (fun v_12 e_13 => ?_)
      rw [hQ]
      exact y_iret C0 h (Fr.mono u_2 (by decide)) ⟨(o28_1 e_13), (o28_162 e_13), (o28_164 e_5 e_6 e_7 c_8 c_11 e_13), (Rel.fr (M := []) hR u_2 (by decide) (by decide)), (Hok.fr (M := []) hH u_2 (by decide))⟩ dX11_numbers_18
    · -- 8
      refine lv_iload_n C0.1 C0.2.1 dX11_numbers_11 rfl (lv_at hl 2 rfl) ?_
      refine y_c1 (n := 3) C0 (by decide) dX11_numbers_12 (fun v_14 e_15 => ?_)
      refine y_icmp_le (tgt := 19) C0 dX11_numbers_13 (by decide) (fun c_16 => ?_) (fun c_16 => ?_)
      · -- 13
        refine lv_iload_n C0.1 C0.2.1 dX11_numbers_19 rfl (lv_at hl 3 rfl) ?_
        refine y_if_lt (tgt := 29) C0 dX11_numbers_20 (by decide) (fun c_17 => ?_) (fun c_17 => ?_)
        · -- 20
          refine y_c2 (n := (-3)) C0 (by decide) dX11_numbers_29 (fun v_18 e_19 => ?_)
          rw [hQ]
          exact y_iret C0 h (Fr.mono u_2 (by decide)) ⟨(o28_3 e_19), (o28_165 e_19), (o28_166 e_5 e_6 e_7 c_8 c_11 e_15 c_16 c_17 e_19), (Rel.fr (M := []) hR u_2 (by decide) (by decide)), (Hok.fr (M := []) hH u_2 (by decide))⟩ dX11_numbers_31
        · -- 20
          refine lv_iload_n C0.1 C0.2.1 dX11_numbers_23 rfl (lv_at hl 3 rfl) ?_
          refine y_c2 (n := 40) C0 (by decide) dX11_numbers_24 (fun v_20 e_21 => ?_)
          refine y_icmp_le (tgt := 32) C0 dX11_numbers_26 (by decide) (fun c_22 => ?_) (fun c_22 => ?_)
          · -- 26
            refine lv_aload_n C0.1 C0.2.1 dX11_numbers_32 rfl (lv_at hl 0 rfl) ?_
            refine tg_X11_trays C0 h kSC_0 q_524 dX11_numbers_33 ?_
            refine lv_iload_n C0.1 C0.2.1 dX11_numbers_36 rfl (lv_at hl 1 rfl) ?_
            refine y_aald C0 h kSC_115 rfl rfl (by decide) (o28_43 e_5 e_6 e_7 c_8) (o28_44 e_5 e_6 e_7 c_8) dX11_numbers_37 ?_
            obtain ⟨i_23, hi_23, ei_23⟩ : ∃ j : Nat, Kd (SC tt) j 42 ∧ j = 107 + 2 * a1.toInt.toNat := ⟨_, aSC_44 (o28_45 e_5 e_6 e_7 c_8), rfl⟩
            rw [← ei_23]
            refine lv_iload_n C0.1 C0.2.1 dX11_numbers_38 rfl (lv_at hl 2 rfl) ?_
            refine lv_iload_n C0.1 C0.2.1 dX11_numbers_39 rfl (lv_at hl 3 rfl) ?_
            refine y_cv h (y_rV (As := [.int a2, .int a3]) (rest := []) C0 hZ h (c_X10_lay l G Z ad _ h.2 i_23 hi_23 a2 a3 (o28_30 c_17 e_21 c_22) (o28_31 c_17 e_21 c_22)) k_X10_lay q_1388 q_1389 q_1387 hi_23 rfl rfl rfl hl.1 rfl rfl (Nat.le_of_ble_eq_true rfl) dX11_numbers_40 ⟨Nat.le_of_ble_eq_true rfl, Nat.le_of_ble_eq_true rfl⟩ ⟨Nat.le_of_ble_eq_true rfl, Nat.le_of_ble_eq_true rfl⟩) (fun H locs ws_24 h u_25 p_26 => ?_)
            refine y_c1 (n := 0) C0 (by decide) dX11_numbers_43 (fun v_27 e_28 => ?_)
            rw [hQ]
            exact y_iret C0 h (Fr.tr (Fr.mono u_2 (by decide)) u_25) ⟨(o28_167 e_28), (o28_48 e_28), (o28_168 e_5 e_6 e_7 c_8 c_11 e_15 c_16 c_17 e_21 c_22 e_28), (Rel.fr (M := [42, 43]) hR (Fr.tr (Fr.mono u_2 (by decide)) u_25) (by decide) (by decide)), (Hok.fr (M := [42, 43]) hH (Fr.tr (Fr.mono u_2 (by decide)) u_25) (by decide))⟩ dX11_numbers_44
          · -- 26
            refine y_c2 (n := (-3)) C0 (by decide) dX11_numbers_29 (fun v_29 e_30 => ?_)
            rw [hQ]
            exact y_iret C0 h (Fr.mono u_2 (by decide)) ⟨(o28_3 e_30), (o28_165 e_30), (o28_169 e_5 e_6 e_7 c_8 c_11 e_15 c_16 c_17 e_21 c_22 e_30), (Rel.fr (M := []) hR u_2 (by decide) (by decide)), (Hok.fr (M := []) hH u_2 (by decide))⟩ dX11_numbers_31
      · -- 13
        refine y_c2 (n := (-2)) C0 (by decide) dX11_numbers_16 (fun v_31 e_32 => ?_)
        rw [hQ]
        exact y_iret C0 h (Fr.mono u_2 (by decide)) ⟨(o28_1 e_32), (o28_162 e_32), (o28_170 e_5 e_6 e_7 c_8 c_11 e_15 c_16 e_32), (Rel.fr (M := []) hR u_2 (by decide) (by decide)), (Hok.fr (M := []) hH u_2 (by decide))⟩ dX11_numbers_18
set_option maxHeartbeats 4000000 in
set_option maxRecDepth 100000 in
theorem c_X11_write (l : Launch) (G : GG) (Z : RZ) (ad : Nat → Nat) (ws0 : va_W) (hT : Ty G (SC tt) ad ws0) (a1 : Int32) (a2 : Int32) (a3 : Int64) (hR : Rel ws0) (hH : Hok ws0) : Mq l yX11_write cX11_write 6 (some .long) 2 G Z [.ref (ad 0), .int a1, .int a2, .long a3] ws0 (PL G (SC tt) ad [43] ws0 (fun r u => (Rel u) ∧ (Hok u))) := by
  refine Mq.start (by decide) (Nat.le_of_ble_eq_true rfl) ?_
  intro p e s m below meth c A ls C0 hZ h hl
  have hl : lv_has ls 6 [(0, .ref (ad 0)), (1, .int a1), (2, .int a2), (3, .long a3)] := hl
  have h : Wt G (SC tt) ad A s s.heap [] ws0 := ⟨h, hT⟩
  obtain ⟨args, hargs⟩ : ∃ z, z = ([.ref (ad 0), .int a1, .int a2, .long a3] : List Value).toArray := ⟨_, rfl⟩
  rw [← hargs] at C0 ⊢
  have C0 : Cx p s m args meth c RX11 cX11_write 6 (some .long) := C0
  obtain ⟨Q, hQ⟩ : ∃ z, z = MQ below ((PL G (SC tt) ad [43] ws0 (fun r u => (Rel u) ∧ (Hok u))) A) args s 0 0 A := ⟨_, rfl⟩
  rw [← hQ]
  refine lv_iload_n C0.1 C0.2.1 dX11_write_0 rfl (lv_at hl 1 rfl) ?_
  refine y_ci h (y_rS (As := [.int a1]) (rest := []) C0 hZ h (c_X11_isTray l G Z ad _ h.2 a1) k_X11_isTray q_998 q_997 hl.1 rfl rfl (Nat.le_of_ble_eq_true rfl) dX11_write_1 ⟨Nat.le_of_ble_eq_true rfl, Nat.le_of_ble_eq_true rfl⟩ ⟨Nat.le_of_ble_eq_true rfl, Nat.le_of_ble_eq_true rfl⟩) (fun r_4 H locs ws_1 h u_2 p_3 => ?_)
  obtain ⟨e_5, e_6, e_7⟩ := p_3
  refine y_if_ne (tgt := 11) C0 dX11_write_4 (by decide) (fun c_8 => ?_) (fun c_8 => ?_)
  · -- 4
    refine lv_aload_n C0.1 C0.2.1 dX11_write_11 rfl (lv_at hl 0 rfl) ?_
    refine tg_X11_trays C0 h kSC_0 q_524 dX11_write_12 ?_
    refine lv_iload_n C0.1 C0.2.1 dX11_write_15 rfl (lv_at hl 1 rfl) ?_
    refine y_aald C0 h kSC_115 rfl rfl (by decide) (o28_43 e_5 e_6 e_7 c_8) (o28_44 e_5 e_6 e_7 c_8) dX11_write_16 ?_
    obtain ⟨i_9, hi_9, ei_9⟩ : ∃ j : Nat, Kd (SC tt) j 42 ∧ j = 107 + 2 * a1.toInt.toNat := ⟨_, aSC_44 (o28_45 e_5 e_6 e_7 c_8), rfl⟩
    rw [← ei_9]
    refine lv_astore (lv' := [(5, .ref (ad i_9)), (0, .ref (ad 0)), (1, .int a1), (2, .int a2), (3, .long a3)]) C0.1 C0.2.1 dX11_write_17 hl (by decide) rfl (fun ls hl => ?_)
    refine lv_aload C0.1 C0.2.1 dX11_write_19 (lv_at hl 0 rfl) ?_
    refine tg_X10_size C0 h hi_9 q_502 dX11_write_21 (fun v_10 e_11 e_12 e_13 => ?_)
    refine y_if_ge (tgt := 31) C0 dX11_write_24 (by decide) (fun c_14 => ?_) (fun c_14 => ?_)
    · -- 24
      refine lv_iload_n C0.1 C0.2.1 dX11_write_31 rfl (lv_at hl 3 rfl) ?_
      refine y_if_lt (tgt := 44) C0 dX11_write_32 (by decide) (fun c_15 => ?_) (fun c_15 => ?_)
      · -- 32
        refine y_lc2 (n := (-7)) C0 q_1399 (by decide) dX11_write_44 (fun w_16 e_17 => ?_)
        rw [hQ]
        exact y_lret C0 h (Fr.mono u_2 (by decide)) ⟨(Rel.fr (M := []) hR u_2 (by decide) (by decide)), (Hok.fr (M := []) hH u_2 (by decide))⟩ dX11_write_47
      · -- 32
        refine lv_iload_n C0.1 C0.2.1 dX11_write_35 rfl (lv_at hl 3 rfl) ?_
        refine lv_aload C0.1 C0.2.1 dX11_write_36 (lv_at hl 0 rfl) ?_
        refine tg_X10_size C0 h hi_9 q_502 dX11_write_38 (fun v_18 e_19 e_20 e_21 => ?_)
        have q_22 : v_18.toInt = v_10.toInt := congrArg Int32.toInt (e_19.symm.trans (Eq.trans rfl e_11))
        refine y_icmp_lt (tgt := 48) C0 dX11_write_41 (by decide) (fun c_23 => ?_) (fun c_23 => ?_)
        · -- 41
          refine lv_aload C0.1 C0.2.1 dX11_write_48 (lv_at hl 0 rfl) ?_
          refine lv_iload_n C0.1 C0.2.1 dX11_write_50 rfl (lv_at hl 3 rfl) ?_
          refine lv_lload_n C0.1 C0.2.1 dX11_write_51 rfl (lv_at hl 4 rfl) ?_
          refine y_cl h (y_rV (As := [.int a2, .long a3]) (rest := []) C0 hZ h (c_X10_put l G Z ad _ h.2 i_9 hi_9 a2 a3 (o28_171 e_12 e_13 c_14 c_15 e_20 e_21 q_22 c_23) (o28_172 e_12 e_13 c_14 c_15 e_20 e_21 q_22 c_23)) k_X10_put q_1401 q_1402 q_1400 hi_9 rfl rfl rfl hl.1 rfl rfl (Nat.le_of_ble_eq_true rfl) dX11_write_52 ⟨Nat.le_of_ble_eq_true rfl, Nat.le_of_ble_eq_true rfl⟩ ⟨Nat.le_of_ble_eq_true rfl, Nat.le_of_ble_eq_true rfl⟩) (fun r_27 H locs ws_24 h u_25 p_26 => ?_)
          rw [hQ]
          exact y_lret C0 h (Fr.tr (Fr.mono u_2 (by decide)) u_25) ⟨(Rel.fr (M := [43]) hR (Fr.tr (Fr.mono u_2 (by decide)) u_25) (by decide) (by decide)), (Hok.fr (M := [43]) hH (Fr.tr (Fr.mono u_2 (by decide)) u_25) (by decide))⟩ dX11_write_55
        · -- 41
          refine y_lc2 (n := (-7)) C0 q_1399 (by decide) dX11_write_44 (fun w_28 e_29 => ?_)
          rw [hQ]
          exact y_lret C0 h (Fr.mono u_2 (by decide)) ⟨(Rel.fr (M := []) hR u_2 (by decide) (by decide)), (Hok.fr (M := []) hH u_2 (by decide))⟩ dX11_write_47
    · -- 24
      refine y_lc2 (n := (-6)) C0 q_1398 (by decide) dX11_write_27 (fun w_30 e_31 => ?_)
      rw [hQ]
      exact y_lret C0 h (Fr.mono u_2 (by decide)) ⟨(Rel.fr (M := []) hR u_2 (by decide) (by decide)), (Hok.fr (M := []) hH u_2 (by decide))⟩ dX11_write_30
  · -- 4
    refine y_lc2 (n := (-2)) C0 q_1229 (by decide) dX11_write_7 (fun w_32 e_33 => ?_)
    rw [hQ]
    exact y_lret C0 h (Fr.mono u_2 (by decide)) ⟨(Rel.fr (M := []) hR u_2 (by decide) (by decide)), (Hok.fr (M := []) hH u_2 (by decide))⟩ dX11_write_10
set_option maxHeartbeats 4000000 in
set_option maxRecDepth 100000 in
theorem c_X11_lists (l : Launch) (G : GG) (Z : RZ) (ad : Nat → Nat) (ws0 : va_W) (hT : Ty G (SC tt) ad ws0) (a1 : Int32) (a2 : Int32) (a3 : Int32) (a4 : Int32) (hR : Rel ws0) (hH : Hok ws0) : Mq l yX11_lists cX11_lists 8 (some .int) 8 G Z [.ref (ad 0), .int a1, .int a2, .int a3, .int a4] ws0 (PI G (SC tt) ad [4, 5, 18, 19, 20, 21, 22, 23, 25, 26, 27, 43] ws0 (fun r u => ((-6) ≤ r.toInt) ∧ (r.toInt ≤ 40) ∧ (Rel u) ∧ (Hok u))) := by
  refine Mq.start (by decide) (Nat.le_of_ble_eq_true rfl) ?_
  intro p e s m below meth c A ls C0 hZ h hl
  have hl : lv_has ls 8 [(0, .ref (ad 0)), (1, .int a1), (2, .int a2), (3, .int a3), (4, .int a4)] := hl
  have h : Wt G (SC tt) ad A s s.heap [] ws0 := ⟨h, hT⟩
  obtain ⟨args, hargs⟩ : ∃ z, z = ([.ref (ad 0), .int a1, .int a2, .int a3, .int a4] : List Value).toArray := ⟨_, rfl⟩
  rw [← hargs] at C0 ⊢
  have C0 : Cx p s m args meth c RX11 cX11_lists 8 (some .int) := C0
  obtain ⟨Q, hQ⟩ : ∃ z, z = MQ below ((PI G (SC tt) ad [4, 5, 18, 19, 20, 21, 22, 23, 25, 26, 27, 43] ws0 (fun r u => ((-6) ≤ r.toInt) ∧ (r.toInt ≤ 40) ∧ (Rel u) ∧ (Hok u))) A) args s 0 0 A := ⟨_, rfl⟩
  rw [← hQ]
  refine lv_iload_n C0.1 C0.2.1 dX11_lists_0 rfl (lv_at hl 1 rfl) ?_
  refine y_ci h (y_rS (As := [.int a1]) (rest := []) C0 hZ h (c_X11_isTray l G Z ad _ h.2 a1) k_X11_isTray q_998 q_997 hl.1 rfl rfl (Nat.le_of_ble_eq_true rfl) dX11_lists_1 ⟨Nat.le_of_ble_eq_true rfl, Nat.le_of_ble_eq_true rfl⟩ ⟨Nat.le_of_ble_eq_true rfl, Nat.le_of_ble_eq_true rfl⟩) (fun r_4 H locs ws_1 h u_2 p_3 => ?_)
  obtain ⟨e_5, e_6, e_7⟩ := p_3
  refine y_if_eq (tgt := 23) C0 dX11_lists_4 (by decide) (fun c_8 => ?_) (fun c_8 => ?_)
  · -- 4
    refine y_c2 (n := (-2)) C0 (by decide) dX11_lists_23 (fun v_9 e_10 => ?_)
    rw [hQ]
    exact y_iret C0 h (Fr.mono u_2 (by decide)) ⟨(o28_173 e_10), (o28_174 e_10), (Rel.fr (M := []) hR u_2 (by decide) (by decide)), (Hok.fr (M := []) hH u_2 (by decide))⟩ dX11_lists_25
  · -- 4
    refine lv_aload_n C0.1 C0.2.1 dX11_lists_7 rfl (lv_at hl 0 rfl) ?_
    refine lv_iload_n C0.1 C0.2.1 dX11_lists_8 rfl (lv_at hl 2 rfl) ?_
    refine y_ci h (y_rV (As := [.int a2]) (rest := []) C0 hZ h (c_X11_isPerson l G Z ad _ h.2 a2) k_X11_isPerson q_903 q_23 q_901 kSC_0 rfl rfl rfl hl.1 rfl rfl (Nat.le_of_ble_eq_true rfl) dX11_lists_9 ⟨Nat.le_of_ble_eq_true rfl, Nat.le_of_ble_eq_true rfl⟩ ⟨Nat.le_of_ble_eq_true rfl, Nat.le_of_ble_eq_true rfl⟩) (fun r_14 H locs ws_11 h u_12 p_13 => ?_)
    obtain ⟨e_15, e_16, e_17⟩ := p_13
    refine y_if_eq (tgt := 23) C0 dX11_lists_12 (by decide) (fun c_18 => ?_) (fun c_18 => ?_)
    · -- 12
      refine y_c2 (n := (-2)) C0 (by decide) dX11_lists_23 (fun v_19 e_20 => ?_)
      rw [hQ]
      exact y_iret C0 h (Fr.tr (Fr.mono u_2 (by decide)) (Fr.mono u_12 (by decide))) ⟨(o28_173 e_20), (o28_174 e_20), (Rel.fr (M := []) hR (Fr.tr u_2 u_12) (by decide) (by decide)), (Hok.fr (M := []) hH (Fr.tr u_2 u_12) (by decide))⟩ dX11_lists_25
    · -- 12
      refine lv_aload_n C0.1 C0.2.1 dX11_lists_15 rfl (lv_at hl 0 rfl) ?_
      refine lv_iload_n C0.1 C0.2.1 dX11_lists_16 rfl (lv_at hl 3 rfl) ?_
      refine y_ci h (y_rV (As := [.int a3]) (rest := []) C0 hZ h (c_X11_isCrossing l G Z ad _ h.2 a3) k_X11_isCrossing q_915 q_25 q_913 kSC_0 rfl rfl rfl hl.1 rfl rfl (Nat.le_of_ble_eq_true rfl) dX11_lists_17 ⟨Nat.le_of_ble_eq_true rfl, Nat.le_of_ble_eq_true rfl⟩ ⟨Nat.le_of_ble_eq_true rfl, Nat.le_of_ble_eq_true rfl⟩) (fun r_24 H locs ws_21 h u_22 p_23 => ?_)
      obtain ⟨e_25, e_26, e_27⟩ := p_23
      refine y_if_ne (tgt := 26) C0 dX11_lists_20 (by decide) (fun c_28 => ?_) (fun c_28 => ?_)
      · -- 20
        refine lv_aload_n C0.1 C0.2.1 dX11_lists_26 rfl (lv_at hl 0 rfl) ?_
        refine tg_X11_trays C0 h kSC_0 q_524 dX11_lists_27 ?_
        refine lv_iload_n C0.1 C0.2.1 dX11_lists_30 rfl (lv_at hl 1 rfl) ?_
        refine y_aald C0 h kSC_115 rfl rfl (by decide) (o28_43 e_5 e_6 e_7 c_8) (o28_44 e_5 e_6 e_7 c_8) dX11_lists_31 ?_
        obtain ⟨i_29, hi_29, ei_29⟩ : ∃ j : Nat, Kd (SC tt) j 42 ∧ j = 107 + 2 * a1.toInt.toNat := ⟨_, aSC_44 (o28_45 e_5 e_6 e_7 c_8), rfl⟩
        rw [← ei_29]
        refine lv_astore (lv' := [(5, .ref (ad i_29)), (0, .ref (ad 0)), (1, .int a1), (2, .int a2), (3, .int a3), (4, .int a4)]) C0.1 C0.2.1 dX11_lists_32 hl (by decide) rfl (fun ls hl => ?_)
        refine lv_aload C0.1 C0.2.1 dX11_lists_34 (lv_at hl 0 rfl) ?_
        refine tg_X10_size C0 h hi_29 q_502 dX11_lists_36 (fun v_30 e_31 e_32 e_33 => ?_)
        refine y_if_ge (tgt := 45) C0 dX11_lists_39 (by decide) (fun c_34 => ?_) (fun c_34 => ?_)
        · -- 39
          refine lv_iload C0.1 C0.2.1 dX11_lists_45 (lv_at hl 5 rfl) ?_
          refine y_if_lt (tgt := 57) C0 dX11_lists_47 (by decide) (fun c_35 => ?_) (fun c_35 => ?_)
          · -- 47
            refine y_c2 (n := (-3)) C0 (by decide) dX11_lists_57 (fun v_36 e_37 => ?_)
            rw [hQ]
            exact y_iret C0 h (Fr.tr (Fr.tr (Fr.mono u_2 (by decide)) (Fr.mono u_12 (by decide))) (Fr.mono u_22 (by decide))) ⟨(o28_175 e_37), (o28_176 e_37), (Rel.fr (M := []) hR (Fr.tr (Fr.tr u_2 u_12) u_22) (by decide) (by decide)), (Hok.fr (M := []) hH (Fr.tr (Fr.tr u_2 u_12) u_22) (by decide))⟩ dX11_lists_59
          · -- 47
            refine lv_iload C0.1 C0.2.1 dX11_lists_50 (lv_at hl 5 rfl) ?_
            refine y_c2 (n := 120) C0 (by decide) dX11_lists_52 (fun v_38 e_39 => ?_)
            refine y_icmp_le (tgt := 60) C0 dX11_lists_54 (by decide) (fun c_40 => ?_) (fun c_40 => ?_)
            · -- 54
              refine lv_aload_n C0.1 C0.2.1 dX11_lists_60 rfl (lv_at hl 1 rfl) ?_
              refine tg_X11_routes C0 h kSC_0 q_519 dX11_lists_61 ?_
              refine lv_aload_n C0.1 C0.2.1 dX11_lists_64 rfl (lv_at hl 1 rfl) ?_
              refine tg_X11_now C0 h kSC_0 q_515 dX11_lists_65 ?_
              refine tg_X0_folk C0 h kSC_1 q_249 dX11_lists_68 ?_
              refine lv_iload_n C0.1 C0.2.1 dX11_lists_71 rfl (lv_at hl 3 rfl) ?_
              refine y_ci h (y_rV (As := [.int a2]) (rest := [.ref (ad 87)]) C0 hZ h (c_X1_stand l G Z ad _ h.2 10 kSC_10 a2 (o28_5 e_15 e_16 e_17 c_18) (o28_6 e_15 e_16 e_17 c_18)) k_X1_stand q_1071 q_1072 q_1070 kSC_10 rfl rfl rfl hl.1 rfl rfl (Nat.le_of_ble_eq_true rfl) dX11_lists_72 ⟨Nat.le_of_ble_eq_true rfl, Nat.le_of_ble_eq_true rfl⟩ ⟨Nat.le_of_ble_eq_true rfl, Nat.le_of_ble_eq_true rfl⟩) (fun r_44 H locs ws_41 h u_42 p_43 => ?_)
              obtain ⟨e_45, e_46⟩ := p_43
              refine lv_iload_n C0.1 C0.2.1 dX11_lists_75 rfl (lv_at hl 4 rfl) ?_
              refine lv_iload C0.1 C0.2.1 dX11_lists_76 (lv_at hl 5 rfl) ?_
              refine y_ci h (y_rV (As := [.int r_44, .int a3, .int a4]) (rest := []) C0 hZ h (c_X7_shortest l G Z ad _ h.2 r_44 a3 a4 (o28_7 e_45 e_46) (o28_8 e_45 e_46) (o28_9 c_35 e_39 c_40) (o28_10 c_35 e_39 c_40) (Rel.fr (M := []) hR (Fr.tr (Fr.tr (Fr.tr u_2 u_12) u_22) u_42) (by decide) (by decide))) k_X7_shortest q_1149 q_1150 q_1148 kSC_87 rfl rfl rfl hl.1 rfl rfl (Nat.le_of_ble_eq_true rfl) dX11_lists_78 ⟨Nat.le_of_ble_eq_true rfl, Nat.le_of_ble_eq_true rfl⟩ ⟨Nat.le_of_ble_eq_true rfl, Nat.le_of_ble_eq_true rfl⟩) (fun r_50 H locs ws_47 h u_48 p_49 => ?_)
              obtain ⟨e_51, e_52⟩ := p_49
              refine y_if_ne (tgt := 87) C0 dX11_lists_81 (by decide) (fun c_53 => ?_) (fun c_53 => ?_)
              · -- 81
                refine lv_aload C0.1 C0.2.1 dX11_lists_87 (lv_at hl 0 rfl) ?_
                refine tg_X10_size C0 h hi_29 q_502 dX11_lists_89 (fun v_54 e_55 e_56 e_57 => ?_)
                have q_58 : v_54.toInt = v_30.toInt := congrArg Int32.toInt (e_55.symm.trans (Eq.trans (Eq.trans (Fr.fI u_48 hi_29 (by decide)) (Fr.fI u_42 hi_29 (by decide))) e_31))
                refine y_c1 (n := 1) C0 (by decide) dX11_lists_92 (fun v_59 e_60 => ?_)
                refine lv_aload_n C0.1 C0.2.1 dX11_lists_93 rfl (lv_at hl 1 rfl) ?_
                refine tg_X11_routes C0 h kSC_0 q_519 dX11_lists_94 ?_
                refine y_ci h (y_rV (As := []) (rest := [.int v_59, .int v_54]) C0 hZ h (c_X7_length l G Z ad _ h.2) k_X7_length q_1308 q_1309 q_1408 kSC_87 rfl rfl rfl hl.1 rfl rfl (Nat.le_of_ble_eq_true rfl) dX11_lists_97 ⟨Nat.le_of_ble_eq_true rfl, Nat.le_of_ble_eq_true rfl⟩ ⟨Nat.le_of_ble_eq_true rfl, Nat.le_of_ble_eq_true rfl⟩) (fun r_64 H locs ws_61 h u_62 p_63 => ?_)
                obtain ⟨e_65, e_66⟩ := p_63
                refine y_add C0 (o28_177 e_60 e_65 e_66 (le_min v_59) (le_max v_59) (le_min r_64) (le_max r_64)) (o28_178 e_60 e_65 e_66 (le_min v_59) (le_max v_59) (le_min r_64) (le_max r_64)) dX11_lists_100 (fun v_67 e_68 => ?_)
                refine y_min C0 hl.1 q_1025 q_663 q_141 q_664 (Nat.le_of_ble_eq_true rfl) (Nat.le_of_ble_eq_true rfl) (Nat.le_of_ble_eq_true rfl) (Nat.le_of_ble_eq_true rfl) dX11_lists_101 (fun v_69 e_70 => ?_)
                refine lv_istore (lv' := [(6, .int v_69), (5, .ref (ad i_29)), (0, .ref (ad 0)), (1, .int a1), (2, .int a2), (3, .int a3), (4, .int a4)]) C0.1 C0.2.1 dX11_lists_104 hl (by decide) rfl (fun ls hl => ?_)
                refine y_c1 (n := 0) C0 (by decide) dX11_lists_106 (fun v_71 e_72 => ?_)
                refine lv_istore (lv' := [(7, .int v_71), (6, .int v_69), (5, .ref (ad i_29)), (0, .ref (ad 0)), (1, .int a1), (2, .int a2), (3, .int a3), (4, .int a4)]) C0.1 C0.2.1 dX11_lists_107 hl (by decide) rfl (fun ls hl => ?_)
                have lp_76 : ∀ (n_78 : Nat) (x7_73 : Int32) (H : Heap) (locs : List Loc) (ls : Array Slot) (ws_74 : va_W), 40 - x7_73.toInt < (n_78 : Int) → 0 ≤ x7_73.toInt → x7_73.toInt ≤ 40 → Wt G (SC tt) ad A s H locs ws_74 → Fr (SC tt) [43] ws_61 ws_74 → lv_has ls 8 [(7, .int x7_73), (6, .int v_69), (5, .ref (ad i_29)), (0, .ref (ad 0)), (1, .int a1), (2, .int a2), (3, .int a3), (4, .int a4)] → W p l e (rmd 8 0 0) s m args below meth c H locs 0 0 Q (F0 m 109 ls []) := by
                  intro n_78
                  induction n_78 with
                  | zero => intro x7_73 H locs ls ws_74 hn_79 b_80 b_81 h hF_75 hl; exact ((o28_179 b_80 b_81 hn_79)).elim
                  | succ n_78 ih_77 =>
                    intro x7_73 H locs ls ws_74 hn_79 b_80 b_81 h hF_75 hl
                    refine lv_iload C0.1 C0.2.1 dX11_lists_109 (lv_at hl 0 rfl) ?_
                    refine lv_iload C0.1 C0.2.1 dX11_lists_111 (lv_at hl 1 rfl) ?_
                    refine y_icmp_ge (tgt := 152) C0 dX11_lists_113 (by decide) (fun c_82 => ?_) (fun c_82 => ?_)
                    · -- 113
                      refine lv_iload C0.1 C0.2.1 dX11_lists_152 (lv_at hl 1 rfl) ?_
                      rw [hQ]
                      exact y_iret C0 h (Fr.tr (Fr.tr (Fr.tr (Fr.tr (Fr.tr (Fr.tr (Fr.mono u_2 (by decide)) (Fr.mono u_12 (by decide))) (Fr.mono u_22 (by decide))) (Fr.mono u_42 (by decide))) (Fr.mono u_48 (by decide))) (Fr.mono u_62 (by decide))) (Fr.mono hF_75 (by decide))) ⟨(o28_180 e_32 e_33 c_34 e_56 e_57 q_58 e_60 e_65 e_66 e_68 e_70 b_80 b_81 hn_79 c_82), (o28_181 e_32 e_33 c_34 e_56 e_57 q_58 e_60 e_65 e_66 e_68 e_70 b_80 b_81 hn_79 c_82), (Rel.fr (M := [4, 5, 18, 19, 20, 21, 22, 23, 25, 26, 27, 43]) hR (Fr.tr (Fr.tr (Fr.tr (Fr.tr (Fr.tr (Fr.tr (Fr.mono u_2 (by decide)) (Fr.mono u_12 (by decide))) (Fr.mono u_22 (by decide))) (Fr.mono u_42 (by decide))) (Fr.mono u_48 (by decide))) (Fr.mono u_62 (by decide))) (Fr.mono hF_75 (by decide))) (by decide) (by decide)), (Hok.fr (M := [4, 5, 18, 19, 20, 21, 22, 23, 25, 26, 27, 43]) hH (Fr.tr (Fr.tr (Fr.tr (Fr.tr (Fr.tr (Fr.tr (Fr.mono u_2 (by decide)) (Fr.mono u_12 (by decide))) (Fr.mono u_22 (by decide))) (Fr.mono u_42 (by decide))) (Fr.mono u_48 (by decide))) (Fr.mono u_62 (by decide))) (Fr.mono hF_75 (by decide))) (by decide))⟩ dX11_lists_154
                    · -- 113
                      refine lv_aload C0.1 C0.2.1 dX11_lists_116 (lv_at hl 2 rfl) ?_
                      refine lv_iload C0.1 C0.2.1 dX11_lists_118 (lv_at hl 0 rfl) ?_
                      refine lv_iload C0.1 C0.2.1 dX11_lists_120 (lv_at hl 0 rfl) ?_
                      refine y_if_ne (tgt := 130) C0 dX11_lists_122 (by decide) (fun c_83 => ?_) (fun c_83 => ?_)
                      · -- 122
                        refine lv_aload_n C0.1 C0.2.1 dX11_lists_130 rfl (lv_at hl 3 rfl) ?_
                        refine tg_X11_routes C0 h kSC_0 q_519 dX11_lists_131 ?_
                        refine lv_iload C0.1 C0.2.1 dX11_lists_134 (lv_at hl 0 rfl) ?_
                        refine y_c1 (n := 1) C0 (by decide) dX11_lists_136 (fun v_84 e_85 => ?_)
                        refine y_sub C0 (o28_182 e_32 e_33 c_34 e_56 e_57 q_58 e_60 e_65 e_66 e_68 e_70 b_80 b_81 hn_79 c_82 c_83 e_85 (le_min x7_73) (le_max x7_73) (le_min v_84) (le_max v_84) (le_min v_30) (le_max v_30) (le_min v_54) (le_max v_54) (le_min v_59) (le_max v_59) (le_min r_64) (le_max r_64) (le_min v_67) (le_max v_67) (le_min v_69) (le_max v_69)) (o28_183 e_32 e_33 c_34 e_56 e_57 q_58 e_60 e_65 e_66 e_68 e_70 b_80 b_81 hn_79 c_82 c_83 e_85 (le_min x7_73) (le_max x7_73) (le_min v_84) (le_max v_84) (le_min v_30) (le_max v_30) (le_min v_54) (le_max v_54) (le_min v_59) (le_max v_59) (le_min r_64) (le_max r_64) (le_min v_67) (le_max v_67) (le_min v_69) (le_max v_69)) dX11_lists_137 (fun v_86 e_87 => ?_)
                        refine y_ci h (y_rV (As := [.int v_86]) (rest := [.int x7_73, .ref (ad i_29)]) C0 hZ h (c_X7_turnAt l G Z ad _ h.2 v_86) k_X7_turnAt q_1195 q_1196 q_1194 kSC_87 rfl rfl rfl hl.1 rfl rfl (Nat.le_of_ble_eq_true rfl) dX11_lists_138 ⟨Nat.le_of_ble_eq_true rfl, Nat.le_of_ble_eq_true rfl⟩ ⟨Nat.le_of_ble_eq_true rfl, Nat.le_of_ble_eq_true rfl⟩) (fun r_91 H locs ws_88 h u_89 p_90 => ?_)
                        refine y_i2l C0 dX11_lists_141 (fun w_92 e_93 => ?_)
                        refine y_cl h (y_rV (As := [.int x7_73, .long w_92]) (rest := []) C0 hZ h (c_X10_put l G Z ad _ h.2 i_29 hi_29 x7_73 w_92 (o28_184 e_32 e_33 c_34 e_56 e_57 q_58 e_60 e_65 e_66 e_68 e_70 b_80 b_81 hn_79 c_82 c_83 e_85 e_87) (o28_185 e_32 e_33 c_34 e_56 e_57 q_58 e_60 e_65 e_66 e_68 e_70 b_80 b_81 hn_79 c_82 c_83 e_85 e_87)) k_X10_put q_1401 q_1402 q_1400 hi_29 rfl rfl rfl hl.1 rfl rfl (Nat.le_of_ble_eq_true rfl) dX11_lists_142 ⟨Nat.le_of_ble_eq_true rfl, Nat.le_of_ble_eq_true rfl⟩ ⟨Nat.le_of_ble_eq_true rfl, Nat.le_of_ble_eq_true rfl⟩) (fun r_97 H locs ws_94 h u_95 p_96 => ?_)
                        refine lv_pop2_2 C0.1 C0.2.1 dX11_lists_145 rfl ?_
                        refine y_inc (kp := 0) (n := 1) (fun v_98 => [(7, .int v_98), (6, .int v_69), (5, .ref (ad i_29)), (0, .ref (ad 0)), (1, .int a1), (2, .int a2), (3, .int a3), (4, .int a4)]) C0 hl rfl (by decide) (by decide) (fun _ => rfl) (o28_186 e_32 e_33 c_34 e_56 e_57 q_58 e_60 e_65 e_66 e_68 e_70 b_80 b_81 hn_79 c_82 c_83 e_85 e_87 (le_min x7_73) (le_max x7_73) (le_min v_30) (le_max v_30) (le_min v_54) (le_max v_54) (le_min v_59) (le_max v_59) (le_min r_64) (le_max r_64) (le_min v_67) (le_max v_67) (le_min v_69) (le_max v_69) (le_min v_84) (le_max v_84) (le_min v_86) (le_max v_86)) (o28_187 e_32 e_33 c_34 e_56 e_57 q_58 e_60 e_65 e_66 e_68 e_70 b_80 b_81 hn_79 c_82 c_83 e_85 e_87 (le_min x7_73) (le_max x7_73) (le_min v_30) (le_max v_30) (le_min v_54) (le_max v_54) (le_min v_59) (le_max v_59) (le_min r_64) (le_max r_64) (le_min v_67) (le_max v_67) (le_min v_69) (le_max v_69) (le_min v_84) (le_max v_84) (le_min v_86) (le_max v_86)) dX11_lists_146 (fun v_98 ls e_99 hl => ?_)
                        refine lv_goto (tgt := 109) C0.1 C0.2.1 dX11_lists_149 (by decide) ?_
                        exact ih_77 v_98 _ _ _ _ (o28_188 e_32 e_33 c_34 e_56 e_57 q_58 e_60 e_65 e_66 e_68 e_70 b_80 b_81 hn_79 c_82 c_83 e_85 e_87 e_99) (o28_189 e_32 e_33 c_34 e_56 e_57 q_58 e_60 e_65 e_66 e_68 e_70 b_80 b_81 hn_79 c_82 c_83 e_85 e_87 e_99) (o28_190 e_32 e_33 c_34 e_56 e_57 q_58 e_60 e_65 e_66 e_68 e_70 b_80 b_81 hn_79 c_82 c_83 e_85 e_87 e_99) h (Fr.tr (Fr.tr hF_75 (Fr.mono u_89 (by decide))) u_95) (lv_sub hl [0, 1, 2, 3, 4, 5, 6, 7] rfl)
                      · -- 122
                        refine lv_iload_n C0.1 C0.2.1 dX11_lists_125 rfl (lv_at hl 5 rfl) ?_
                        refine y_i2l C0 dX11_lists_126 (fun w_100 e_101 => ?_)
                        refine lv_goto (tgt := 142) C0.1 C0.2.1 dX11_lists_127 (by decide) ?_
                        refine y_cl h (y_rV (As := [.int x7_73, .long w_100]) (rest := []) C0 hZ h (c_X10_put l G Z ad _ h.2 i_29 hi_29 x7_73 w_100 (o28_191 e_32 e_33 c_34 e_56 e_57 q_58 e_60 e_65 e_66 e_68 e_70 b_80 b_81 hn_79 c_82 c_83) (o28_192 e_32 e_33 c_34 e_56 e_57 q_58 e_60 e_65 e_66 e_68 e_70 b_80 b_81 hn_79 c_82 c_83)) k_X10_put q_1401 q_1402 q_1400 hi_29 rfl rfl rfl hl.1 rfl rfl (Nat.le_of_ble_eq_true rfl) dX11_lists_142 ⟨Nat.le_of_ble_eq_true rfl, Nat.le_of_ble_eq_true rfl⟩ ⟨Nat.le_of_ble_eq_true rfl, Nat.le_of_ble_eq_true rfl⟩) (fun r_105 H locs ws_102 h u_103 p_104 => ?_)
                        refine lv_pop2_2 C0.1 C0.2.1 dX11_lists_145 rfl ?_
                        refine y_inc (kp := 0) (n := 1) (fun v_106 => [(7, .int v_106), (6, .int v_69), (5, .ref (ad i_29)), (0, .ref (ad 0)), (1, .int a1), (2, .int a2), (3, .int a3), (4, .int a4)]) C0 hl rfl (by decide) (by decide) (fun _ => rfl) (o28_193 e_32 e_33 c_34 e_56 e_57 q_58 e_60 e_65 e_66 e_68 e_70 b_80 b_81 hn_79 c_82 c_83 (le_min x7_73) (le_max x7_73) (le_min v_30) (le_max v_30) (le_min v_54) (le_max v_54) (le_min v_59) (le_max v_59) (le_min r_64) (le_max r_64) (le_min v_67) (le_max v_67) (le_min v_69) (le_max v_69)) (o28_194 e_32 e_33 c_34 e_56 e_57 q_58 e_60 e_65 e_66 e_68 e_70 b_80 b_81 hn_79 c_82 c_83 (le_min x7_73) (le_max x7_73) (le_min v_30) (le_max v_30) (le_min v_54) (le_max v_54) (le_min v_59) (le_max v_59) (le_min r_64) (le_max r_64) (le_min v_67) (le_max v_67) (le_min v_69) (le_max v_69)) dX11_lists_146 (fun v_106 ls e_107 hl => ?_)
                        refine lv_goto (tgt := 109) C0.1 C0.2.1 dX11_lists_149 (by decide) ?_
                        exact ih_77 v_106 _ _ _ _ (o28_195 e_32 e_33 c_34 e_56 e_57 q_58 e_60 e_65 e_66 e_68 e_70 b_80 b_81 hn_79 c_82 c_83 e_107) (o28_196 e_32 e_33 c_34 e_56 e_57 q_58 e_60 e_65 e_66 e_68 e_70 b_80 b_81 hn_79 c_82 c_83 e_107) (o28_197 e_32 e_33 c_34 e_56 e_57 q_58 e_60 e_65 e_66 e_68 e_70 b_80 b_81 hn_79 c_82 c_83 e_107) h (Fr.tr hF_75 u_103) (lv_sub hl [0, 1, 2, 3, 4, 5, 6, 7] rfl)
                exact lp_76 ((40 - v_71.toInt + 1).toNat) v_71 _ _ _ _ (o28_198 e_72) (o28_17 e_72) (o28_199 e_72) h Fr.rf (lv_sub hl [0, 1, 2, 3, 4, 5, 6, 7] rfl)
              · -- 81
                refine y_c2 (n := (-5)) C0 (by decide) dX11_lists_84 (fun v_108 e_109 => ?_)
                rw [hQ]
                exact y_iret C0 h (Fr.tr (Fr.tr (Fr.tr (Fr.tr (Fr.mono u_2 (by decide)) (Fr.mono u_12 (by decide))) (Fr.mono u_22 (by decide))) (Fr.mono u_42 (by decide))) (Fr.mono u_48 (by decide))) ⟨(o28_200 e_109), (o28_201 e_109), (Rel.fr (M := [4, 5, 18, 19, 20, 21, 22, 23, 25, 26, 27]) hR (Fr.tr (Fr.tr (Fr.tr (Fr.tr (Fr.mono u_2 (by decide)) (Fr.mono u_12 (by decide))) (Fr.mono u_22 (by decide))) (Fr.mono u_42 (by decide))) u_48) (by decide) (by decide)), (Hok.fr (M := [4, 5, 18, 19, 20, 21, 22, 23, 25, 26, 27]) hH (Fr.tr (Fr.tr (Fr.tr (Fr.tr (Fr.mono u_2 (by decide)) (Fr.mono u_12 (by decide))) (Fr.mono u_22 (by decide))) (Fr.mono u_42 (by decide))) u_48) (by decide))⟩ dX11_lists_86
            · -- 54
              refine y_c2 (n := (-3)) C0 (by decide) dX11_lists_57 (fun v_110 e_111 => ?_)
              rw [hQ]
              exact y_iret C0 h (Fr.tr (Fr.tr (Fr.mono u_2 (by decide)) (Fr.mono u_12 (by decide))) (Fr.mono u_22 (by decide))) ⟨(o28_175 e_111), (o28_176 e_111), (Rel.fr (M := []) hR (Fr.tr (Fr.tr u_2 u_12) u_22) (by decide) (by decide)), (Hok.fr (M := []) hH (Fr.tr (Fr.tr u_2 u_12) u_22) (by decide))⟩ dX11_lists_59
        · -- 39
          refine y_c2 (n := (-6)) C0 (by decide) dX11_lists_42 (fun v_112 e_113 => ?_)
          rw [hQ]
          exact y_iret C0 h (Fr.tr (Fr.tr (Fr.mono u_2 (by decide)) (Fr.mono u_12 (by decide))) (Fr.mono u_22 (by decide))) ⟨(o28_202 e_113), (o28_203 e_113), (Rel.fr (M := []) hR (Fr.tr (Fr.tr u_2 u_12) u_22) (by decide) (by decide)), (Hok.fr (M := []) hH (Fr.tr (Fr.tr u_2 u_12) u_22) (by decide))⟩ dX11_lists_44
      · -- 20
        refine y_c2 (n := (-2)) C0 (by decide) dX11_lists_23 (fun v_114 e_115 => ?_)
        rw [hQ]
        exact y_iret C0 h (Fr.tr (Fr.tr (Fr.mono u_2 (by decide)) (Fr.mono u_12 (by decide))) (Fr.mono u_22 (by decide))) ⟨(o28_173 e_115), (o28_174 e_115), (Rel.fr (M := []) hR (Fr.tr (Fr.tr u_2 u_12) u_22) (by decide) (by decide)), (Hok.fr (M := []) hH (Fr.tr (Fr.tr u_2 u_12) u_22) (by decide))⟩ dX11_lists_25
set_option maxHeartbeats 4000000 in
set_option maxRecDepth 100000 in
theorem c_X11_image (l : Launch) (G : GG) (Z : RZ) (ad : Nat → Nat) (ws0 : va_W) (hT : Ty G (SC tt) ad ws0) (a1 : Int32) (hR : Rel ws0) (hH : Hok ws0) : Mq l yX11_image cX11_image 2 (some .int) 3 G Z [.ref (ad 0), .int a1] ws0 (PI G (SC tt) ad [1, 2, 3, 6, 7, 8, 9, 10, 11, 12, 13, 14, 15, 46] ws0 (fun r u => ((-2) ≤ r.toInt) ∧ (r.toInt ≤ 0) ∧ (((r.toInt = -2 ∧ (a1.toInt < 0 ∨ 1 < a1.toInt)) ∨ (r.toInt = 0 ∧ 0 ≤ a1.toInt ∧ a1.toInt ≤ 1))) ∧ (Rel u) ∧ (Hok u))) := by
  refine Mq.start (by decide) (Nat.le_of_ble_eq_true rfl) ?_
  intro p e s m below meth c A ls C0 hZ h hl
  have hl : lv_has ls 2 [(0, .ref (ad 0)), (1, .int a1)] := hl
  have h : Wt G (SC tt) ad A s s.heap [] ws0 := ⟨h, hT⟩
  obtain ⟨args, hargs⟩ : ∃ z, z = ([.ref (ad 0), .int a1] : List Value).toArray := ⟨_, rfl⟩
  rw [← hargs] at C0 ⊢
  have C0 : Cx p s m args meth c RX11 cX11_image 2 (some .int) := C0
  obtain ⟨Q, hQ⟩ : ∃ z, z = MQ below ((PI G (SC tt) ad [1, 2, 3, 6, 7, 8, 9, 10, 11, 12, 13, 14, 15, 46] ws0 (fun r u => ((-2) ≤ r.toInt) ∧ (r.toInt ≤ 0) ∧ (((r.toInt = -2 ∧ (a1.toInt < 0 ∨ 1 < a1.toInt)) ∨ (r.toInt = 0 ∧ 0 ≤ a1.toInt ∧ a1.toInt ≤ 1))) ∧ (Rel u) ∧ (Hok u))) A) args s 0 0 A := ⟨_, rfl⟩
  rw [← hQ]
  refine lv_iload_n C0.1 C0.2.1 dX11_image_0 rfl (lv_at hl 1 rfl) ?_
  refine y_if_lt (tgt := 9) C0 dX11_image_1 (by decide) (fun c_1 => ?_) (fun c_1 => ?_)
  · -- 1
    refine y_c2 (n := (-2)) C0 (by decide) dX11_image_9 (fun v_2 e_3 => ?_)
    rw [hQ]
    exact y_iret C0 h Fr.rf ⟨(o28_34 e_3), (o28_162 e_3), (o28_204 c_1 e_3), hR, hH⟩ dX11_image_11
  · -- 1
    refine lv_iload_n C0.1 C0.2.1 dX11_image_4 rfl (lv_at hl 1 rfl) ?_
    refine y_c1 (n := 2) C0 (by decide) dX11_image_5 (fun v_4 e_5 => ?_)
    refine y_icmp_lt (tgt := 12) C0 dX11_image_6 (by decide) (fun c_6 => ?_) (fun c_6 => ?_)
    · -- 6
      refine lv_aload_n C0.1 C0.2.1 dX11_image_12 rfl (lv_at hl 0 rfl) ?_
      refine tg_X11_images C0 h kSC_0 q_525 dX11_image_13 ?_
      refine lv_iload_n C0.1 C0.2.1 dX11_image_16 rfl (lv_at hl 1 rfl) ?_
      refine y_aald C0 h kSC_116 rfl rfl (by decide) (o28_205 c_1 e_5 c_6) (o28_206 c_1 e_5 c_6) dX11_image_17 ?_
      obtain ⟨i_7, hi_7, ei_7⟩ : ∃ j : Nat, Kd (SC tt) j 1 ∧ j = 39 + 19 * a1.toInt.toNat := ⟨_, aSC_45 (o28_207 c_1 e_5 c_6), rfl⟩
      rw [← ei_7]
      refine lv_aload_n C0.1 C0.2.1 dX11_image_18 rfl (lv_at hl 0 rfl) ?_
      refine tg_X11_now C0 h kSC_0 q_515 dX11_image_19 ?_
      refine y_cv h (y_rV (As := [.ref (ad 1)]) (rest := []) C0 hZ h (c_X0_copy l G Z ad _ h.2 i_7 hi_7 1 kSC_1 hR) k_X0_copy q_857 q_858 q_856 hi_7 rfl rfl rfl hl.1 rfl rfl (Nat.le_of_ble_eq_true rfl) dX11_image_22 ⟨Nat.le_of_ble_eq_true rfl, Nat.le_of_ble_eq_true rfl⟩ ⟨Nat.le_of_ble_eq_true rfl, Nat.le_of_ble_eq_true rfl⟩) (fun H locs ws_8 h u_9 p_10 => ?_)
      have e_11 := p_10
      refine lv_aload_n C0.1 C0.2.1 dX11_image_25 rfl (lv_at hl 0 rfl) ?_
      refine tg_X11_imageMade C0 h kSC_0 q_526 dX11_image_26 ?_
      refine lv_iload_n C0.1 C0.2.1 dX11_image_29 rfl (lv_at hl 1 rfl) ?_
      refine y_c1 (n := 1) C0 (by decide) dX11_image_30 (fun v_12 e_13 => ?_)
      refine y_zast C0 h kSC_117 rfl (by decide) (o28_205 c_1 e_5 c_6) (o28_206 c_1 e_5 c_6) (o28_208 e_13) (o28_209 e_13) (o28_208 e_13) (o28_209 e_13) dX11_image_31 (fun H locs ws_14 h u_15 => ?_)
      refine y_c1 (n := 0) C0 (by decide) dX11_image_32 (fun v_16 e_17 => ?_)
      rw [hQ]
      exact y_iret C0 h (Fr.tr (Fr.mono u_9 (by decide)) (Fr.up u_15.1 kSC_117 (by decide))) ⟨(o28_210 e_17), (o28_48 e_17), (o28_211 c_1 e_5 c_6 e_17), (Rel.fr (M := [46]) e_11 (Fr.up u_15.1 kSC_117 (by decide)) (by decide) (by decide)), (Hok.fr (M := [1, 2, 3, 6, 7, 8, 9, 10, 11, 12, 13, 14, 15, 46]) hH (Fr.tr (Fr.mono u_9 (by decide)) (Fr.up u_15.1 kSC_117 (by decide))) (by decide))⟩ dX11_image_33
    · -- 6
      refine y_c2 (n := (-2)) C0 (by decide) dX11_image_9 (fun v_18 e_19 => ?_)
      rw [hQ]
      exact y_iret C0 h Fr.rf ⟨(o28_34 e_19), (o28_162 e_19), (o28_212 c_1 e_5 c_6 e_19), hR, hH⟩ dX11_image_11
set_option maxHeartbeats 4000000 in
set_option maxRecDepth 100000 in
theorem c_X11_restore (l : Launch) (G : GG) (Z : RZ) (ad : Nat → Nat) (ws0 : va_W) (hT : Ty G (SC tt) ad ws0) (a1 : Int32) (hR : Rel ws0) (hH : Hok ws0) : Mq l yX11_restore cX11_restore 2 (some .int) 3 G Z [.ref (ad 0), .int a1] ws0 (PI G (SC tt) ad [0, 1, 2, 3, 6, 7, 8, 9, 10, 11, 12, 13, 14, 15, 18, 39] ws0 (fun r u => ((-5) ≤ r.toInt) ∧ (r.toInt ≤ 0) ∧ (Rel u) ∧ (Hok u))) := by
  refine Mq.start (by decide) (Nat.le_of_ble_eq_true rfl) ?_
  intro p e s m below meth c A ls C0 hZ h hl
  have hl : lv_has ls 2 [(0, .ref (ad 0)), (1, .int a1)] := hl
  have h : Wt G (SC tt) ad A s s.heap [] ws0 := ⟨h, hT⟩
  obtain ⟨args, hargs⟩ : ∃ z, z = ([.ref (ad 0), .int a1] : List Value).toArray := ⟨_, rfl⟩
  rw [← hargs] at C0 ⊢
  have C0 : Cx p s m args meth c RX11 cX11_restore 2 (some .int) := C0
  obtain ⟨Q, hQ⟩ : ∃ z, z = MQ below ((PI G (SC tt) ad [0, 1, 2, 3, 6, 7, 8, 9, 10, 11, 12, 13, 14, 15, 18, 39] ws0 (fun r u => ((-5) ≤ r.toInt) ∧ (r.toInt ≤ 0) ∧ (Rel u) ∧ (Hok u))) A) args s 0 0 A := ⟨_, rfl⟩
  rw [← hQ]
  refine lv_iload_n C0.1 C0.2.1 dX11_restore_0 rfl (lv_at hl 1 rfl) ?_
  refine y_if_lt (tgt := 9) C0 dX11_restore_1 (by decide) (fun c_1 => ?_) (fun c_1 => ?_)
  · -- 1
    refine y_c2 (n := (-2)) C0 (by decide) dX11_restore_9 (fun v_2 e_3 => ?_)
    rw [hQ]
    exact y_iret C0 h Fr.rf ⟨(o28_213 e_3), (o28_162 e_3), hR, hH⟩ dX11_restore_11
  · -- 1
    refine lv_iload_n C0.1 C0.2.1 dX11_restore_4 rfl (lv_at hl 1 rfl) ?_
    refine y_c1 (n := 2) C0 (by decide) dX11_restore_5 (fun v_4 e_5 => ?_)
    refine y_icmp_lt (tgt := 12) C0 dX11_restore_6 (by decide) (fun c_6 => ?_) (fun c_6 => ?_)
    · -- 6
      refine lv_aload_n C0.1 C0.2.1 dX11_restore_12 rfl (lv_at hl 0 rfl) ?_
      refine tg_X11_imageMade C0 h kSC_0 q_526 dX11_restore_13 ?_
      refine lv_iload_n C0.1 C0.2.1 dX11_restore_16 rfl (lv_at hl 1 rfl) ?_
      refine y_zald C0 h kSC_117 rfl (by decide) (o28_205 c_1 e_5 c_6) (o28_206 c_1 e_5 c_6) dX11_restore_17 (fun v_7 e_8 e_9 e_10 => ?_)
      refine y_if_ne (tgt := 24) C0 dX11_restore_18 (by decide) (fun c_11 => ?_) (fun c_11 => ?_)
      · -- 18
        refine lv_aload_n C0.1 C0.2.1 dX11_restore_24 rfl (lv_at hl 0 rfl) ?_
        refine tg_X11_now C0 h kSC_0 q_515 dX11_restore_25 ?_
        refine lv_aload_n C0.1 C0.2.1 dX11_restore_28 rfl (lv_at hl 0 rfl) ?_
        refine tg_X11_images C0 h kSC_0 q_525 dX11_restore_29 ?_
        refine lv_iload_n C0.1 C0.2.1 dX11_restore_32 rfl (lv_at hl 1 rfl) ?_
        refine y_aald C0 h kSC_116 rfl rfl (by decide) (o28_205 c_1 e_5 c_6) (o28_206 c_1 e_5 c_6) dX11_restore_33 ?_
        obtain ⟨i_12, hi_12, ei_12⟩ : ∃ j : Nat, Kd (SC tt) j 1 ∧ j = 39 + 19 * a1.toInt.toNat := ⟨_, aSC_45 (o28_207 c_1 e_5 c_6), rfl⟩
        rw [← ei_12]
        refine y_cv h (y_rV (As := [.ref (ad i_12)]) (rest := []) C0 hZ h (c_X0_copy l G Z ad _ h.2 1 kSC_1 i_12 hi_12 hR) k_X0_copy q_857 q_858 q_856 kSC_1 rfl rfl rfl hl.1 rfl rfl (Nat.le_of_ble_eq_true rfl) dX11_restore_34 ⟨Nat.le_of_ble_eq_true rfl, Nat.le_of_ble_eq_true rfl⟩ ⟨Nat.le_of_ble_eq_true rfl, Nat.le_of_ble_eq_true rfl⟩) (fun H locs ws_13 h u_14 p_15 => ?_)
        have e_16 := p_15
        refine lv_aload_n C0.1 C0.2.1 dX11_restore_37 rfl (lv_at hl 0 rfl) ?_
        refine y_cv h (y_rV (As := []) (rest := []) C0 hZ h (c_X11_startAnew l G Z ad _ h.2 (Hok.fr (M := [1, 2, 3, 6, 7, 8, 9, 10, 11, 12, 13, 14, 15]) hH u_14 (by decide))) k_X11_startAnew q_875 q_22 q_873 kSC_0 rfl rfl rfl hl.1 rfl rfl (Nat.le_of_ble_eq_true rfl) dX11_restore_38 ⟨Nat.le_of_ble_eq_true rfl, Nat.le_of_ble_eq_true rfl⟩ ⟨Nat.le_of_ble_eq_true rfl, Nat.le_of_ble_eq_true rfl⟩) (fun H locs ws_17 h u_18 p_19 => ?_)
        have e_20 := p_19
        refine y_c1 (n := 0) C0 (by decide) dX11_restore_41 (fun v_21 e_22 => ?_)
        rw [hQ]
        exact y_iret C0 h (Fr.tr (Fr.mono u_14 (by decide)) (Fr.mono u_18 (by decide))) ⟨(o28_214 e_22), (o28_48 e_22), (Rel.fr (M := [0, 18, 39]) e_16 u_18 (by decide) (by decide)), e_20⟩ dX11_restore_42
      · -- 18
        refine y_c2 (n := (-5)) C0 (by decide) dX11_restore_21 (fun v_23 e_24 => ?_)
        rw [hQ]
        exact y_iret C0 h Fr.rf ⟨(o28_215 e_24), (o28_216 e_24), hR, hH⟩ dX11_restore_23
    · -- 6
      refine y_c2 (n := (-2)) C0 (by decide) dX11_restore_9 (fun v_25 e_26 => ?_)
      rw [hQ]
      exact y_iret C0 h Fr.rf ⟨(o28_213 e_26), (o28_162 e_26), hR, hH⟩ dX11_restore_11
set_option maxHeartbeats 4000000 in
set_option maxRecDepth 100000 in
theorem c_X11_count (l : Launch) (G : GG) (Z : RZ) (ad : Nat → Nat) (ws0 : va_W) (hT : Ty G (SC tt) ad ws0) (a1 : Int32) (hR : Rel ws0) (hH : Hok ws0) : Mq l yX11_count cX11_count 2 (some .int) 2 G Z [.ref (ad 0), .int a1] ws0 (PI G (SC tt) ad [] ws0 (fun r u => (Rel u) ∧ (Hok u))) := by
  refine Mq.start (by decide) (Nat.le_of_ble_eq_true rfl) ?_
  intro p e s m below meth c A ls C0 hZ h hl
  have hl : lv_has ls 2 [(0, .ref (ad 0)), (1, .int a1)] := hl
  have h : Wt G (SC tt) ad A s s.heap [] ws0 := ⟨h, hT⟩
  obtain ⟨args, hargs⟩ : ∃ z, z = ([.ref (ad 0), .int a1] : List Value).toArray := ⟨_, rfl⟩
  rw [← hargs] at C0 ⊢
  have C0 : Cx p s m args meth c RX11 cX11_count 2 (some .int) := C0
  obtain ⟨Q, hQ⟩ : ∃ z, z = MQ below ((PI G (SC tt) ad [] ws0 (fun r u => (Rel u) ∧ (Hok u))) A) args s 0 0 A := ⟨_, rfl⟩
  rw [← hQ]
  refine lv_iload_n C0.1 C0.2.1 dX11_count_0 rfl (lv_at hl 1 rfl) ?_
  by_cases sw_1 : a1.toInt < 0 ∨ 9 < a1.toInt
  · refine lv_tableOut (tgt := 158) C0.1 C0.2.1 dX11_count_1 sw_1 (by decide) ?_
    refine y_c1 (n := (-1)) C0 (by decide) dX11_count_158 (fun v_2 e_3 => ?_)
    rw [hQ]
    exact y_iret C0 h Fr.rf ⟨hR, hH⟩ dX11_count_159
  · obtain ⟨sw_11, sw_12⟩ := not_or.mp sw_1
    rcases (show a1.toInt = 0 ∨ a1.toInt = 1 ∨ a1.toInt = 2 ∨ a1.toInt = 3 ∨ a1.toInt = 4 ∨ a1.toInt = 5 ∨ a1.toInt = 6 ∨ a1.toInt = 7 ∨ a1.toInt = 8 ∨ a1.toInt = 9 by omega) with sw_14 | sw_14 | sw_14 | sw_14 | sw_14 | sw_14 | sw_14 | sw_14 | sw_14 | sw_14
    · refine lv_tableIn (off := 55) (tgt := 56) C0.1 C0.2.1 dX11_count_1 sw_11 sw_12 (by rw [sw_14]; rfl) (by decide) ?_
      refine lv_aload_n C0.1 C0.2.1 dX11_count_56 rfl (lv_at hl 0 rfl) ?_
      refine tg_X11_now C0 h kSC_0 q_515 dX11_count_57 ?_
      refine tg_X0_wide C0 h kSC_1 q_259 dX11_count_60 (fun v_4 e_5 e_6 e_7 => ?_)
      rw [hQ]
      exact y_iret C0 h Fr.rf ⟨hR, hH⟩ dX11_count_63
    · refine lv_tableIn (off := 63) (tgt := 64) C0.1 C0.2.1 dX11_count_1 sw_11 sw_12 (by rw [sw_14]; rfl) (by decide) ?_
      refine lv_aload_n C0.1 C0.2.1 dX11_count_64 rfl (lv_at hl 0 rfl) ?_
      refine tg_X11_now C0 h kSC_0 q_515 dX11_count_65 ?_
      refine tg_X0_high C0 h kSC_1 q_262 dX11_count_68 (fun v_8 e_9 e_10 e_11 => ?_)
      rw [hQ]
      exact y_iret C0 h Fr.rf ⟨hR, hH⟩ dX11_count_71
    · refine lv_tableIn (off := 71) (tgt := 72) C0.1 C0.2.1 dX11_count_1 sw_11 sw_12 (by rw [sw_14]; rfl) (by decide) ?_
      refine lv_aload_n C0.1 C0.2.1 dX11_count_72 rfl (lv_at hl 0 rfl) ?_
      refine tg_X11_now C0 h kSC_0 q_515 dX11_count_73 ?_
      refine tg_X0_folk C0 h kSC_1 q_249 dX11_count_76 ?_
      refine tg_X1_people C0 h kSC_10 q_215 dX11_count_79 (fun v_12 e_13 e_14 e_15 => ?_)
      rw [hQ]
      exact y_iret C0 h Fr.rf ⟨hR, hH⟩ dX11_count_82
    · refine lv_tableIn (off := 82) (tgt := 83) C0.1 C0.2.1 dX11_count_1 sw_11 sw_12 (by rw [sw_14]; rfl) (by decide) ?_
      refine lv_aload_n C0.1 C0.2.1 dX11_count_83 rfl (lv_at hl 0 rfl) ?_
      refine tg_X11_now C0 h kSC_0 q_515 dX11_count_84 ?_
      refine tg_X0_folk C0 h kSC_1 q_249 dX11_count_87 ?_
      refine tg_X1_hours C0 h kSC_10 q_220 dX11_count_90 (fun v_16 e_17 e_18 e_19 => ?_)
      rw [hQ]
      exact y_iret C0 h Fr.rf ⟨hR, hH⟩ dX11_count_93
    · refine lv_tableIn (off := 93) (tgt := 94) C0.1 C0.2.1 dX11_count_1 sw_11 sw_12 (by rw [sw_14]; rfl) (by decide) ?_
      refine lv_aload_n C0.1 C0.2.1 dX11_count_94 rfl (lv_at hl 0 rfl) ?_
      refine tg_X11_now C0 h kSC_0 q_515 dX11_count_95 ?_
      refine tg_X0_folk C0 h kSC_1 q_249 dX11_count_98 ?_
      refine y_ci h (y_rV (As := []) (rest := []) C0 hZ h (c_X1_allSold l G Z ad _ h.2 10 kSC_10) k_X1_allSold q_1422 q_1423 q_1421 kSC_10 rfl rfl rfl hl.1 rfl rfl (Nat.le_of_ble_eq_true rfl) dX11_count_101 ⟨Nat.le_of_ble_eq_true rfl, Nat.le_of_ble_eq_true rfl⟩ ⟨Nat.le_of_ble_eq_true rfl, Nat.le_of_ble_eq_true rfl⟩) (fun r_23 H locs ws_20 h u_21 p_22 => ?_)
      rw [hQ]
      exact y_iret C0 h u_21 ⟨(Rel.fr (M := []) hR u_21 (by decide) (by decide)), (Hok.fr (M := []) hH u_21 (by decide))⟩ dX11_count_104
    · refine lv_tableIn (off := 104) (tgt := 105) C0.1 C0.2.1 dX11_count_1 sw_11 sw_12 (by rw [sw_14]; rfl) (by decide) ?_
      refine lv_aload_n C0.1 C0.2.1 dX11_count_105 rfl (lv_at hl 0 rfl) ?_
      refine tg_X11_now C0 h kSC_0 q_515 dX11_count_106 ?_
      refine lv_aload_n C0.1 C0.2.1 dX11_count_109 rfl (lv_at hl 0 rfl) ?_
      refine tg_X11_now C0 h kSC_0 q_515 dX11_count_110 ?_
      refine tg_X0_folk C0 h kSC_1 q_249 dX11_count_113 ?_
      refine tg_X1_hours C0 h kSC_10 q_220 dX11_count_116 (fun v_24 e_25 e_26 e_27 => ?_)
      refine y_ci h (y_rV (As := [.int v_24]) (rest := []) C0 hZ h (c_X0_freeBits l G Z ad _ h.2 1 kSC_1 v_24) k_X0_freeBits q_948 q_949 q_947 kSC_1 rfl rfl rfl hl.1 rfl rfl (Nat.le_of_ble_eq_true rfl) dX11_count_119 ⟨Nat.le_of_ble_eq_true rfl, Nat.le_of_ble_eq_true rfl⟩ ⟨Nat.le_of_ble_eq_true rfl, Nat.le_of_ble_eq_true rfl⟩) (fun r_31 H locs ws_28 h u_29 p_30 => ?_)
      refine y_ci h (y_rS (As := [.int r_31]) (rest := []) C0 hZ h (c_J6_bitCount_0f7a4 l G Z ad _ h.2 r_31) k_J6_bitCount_0f7a4 q_1035 q_1034 hl.1 rfl rfl (Nat.le_of_ble_eq_true rfl) dX11_count_122 ⟨Nat.le_of_ble_eq_true rfl, Nat.le_of_ble_eq_true rfl⟩ ⟨Nat.le_of_ble_eq_true rfl, Nat.le_of_ble_eq_true rfl⟩) (fun r_35 H locs ws_32 h u_33 p_34 => ?_)
      obtain ⟨e_36, e_37⟩ := p_34
      rw [hQ]
      exact y_iret C0 h (Fr.tr u_29 u_33) ⟨(Rel.fr (M := []) hR (Fr.tr u_29 u_33) (by decide) (by decide)), (Hok.fr (M := []) hH (Fr.tr u_29 u_33) (by decide))⟩ dX11_count_125
    · refine lv_tableIn (off := 125) (tgt := 126) C0.1 C0.2.1 dX11_count_1 sw_11 sw_12 (by rw [sw_14]; rfl) (by decide) ?_
      refine lv_aload_n C0.1 C0.2.1 dX11_count_126 rfl (lv_at hl 0 rfl) ?_
      refine tg_X11_pastSize C0 h kSC_0 q_532 dX11_count_127 (fun v_38 e_39 e_40 e_41 => ?_)
      rw [hQ]
      exact y_iret C0 h Fr.rf ⟨hR, hH⟩ dX11_count_130
    · refine lv_tableIn (off := 130) (tgt := 131) C0.1 C0.2.1 dX11_count_1 sw_11 sw_12 (by rw [sw_14]; rfl) (by decide) ?_
      refine lv_aload_n C0.1 C0.2.1 dX11_count_131 rfl (lv_at hl 0 rfl) ?_
      refine tg_X11_reader C0 h kSC_0 q_517 dX11_count_132 ?_
      refine y_ci h (y_rV (As := []) (rest := []) C0 hZ h (c_X5_fed l G Z ad _ h.2) k_X5_fed q_587 q_588 q_586 kSC_77 rfl rfl rfl hl.1 rfl rfl (Nat.le_of_ble_eq_true rfl) dX11_count_135 ⟨Nat.le_of_ble_eq_true rfl, Nat.le_of_ble_eq_true rfl⟩ ⟨Nat.le_of_ble_eq_true rfl, Nat.le_of_ble_eq_true rfl⟩) (fun r_45 H locs ws_42 h u_43 p_44 => ?_)
      obtain ⟨e_46, e_47⟩ := p_44
      rw [hQ]
      exact y_iret C0 h u_43 ⟨(Rel.fr (M := []) hR u_43 (by decide) (by decide)), (Hok.fr (M := []) hH u_43 (by decide))⟩ dX11_count_138
    · refine lv_tableIn (off := 138) (tgt := 139) C0.1 C0.2.1 dX11_count_1 sw_11 sw_12 (by rw [sw_14]; rfl) (by decide) ?_
      refine lv_aload_n C0.1 C0.2.1 dX11_count_139 rfl (lv_at hl 0 rfl) ?_
      refine tg_X11_now C0 h kSC_0 q_515 dX11_count_140 ?_
      refine tg_X0_lines C0 h kSC_1 q_264 dX11_count_143 (fun v_48 e_49 e_50 e_51 => ?_)
      rw [hQ]
      exact y_iret C0 h Fr.rf ⟨hR, hH⟩ dX11_count_146
    · refine lv_tableIn (off := 146) (tgt := 147) C0.1 C0.2.1 dX11_count_1 sw_11 sw_12 (by rw [sw_14]; rfl) (by decide) ?_
      refine lv_aload_n C0.1 C0.2.1 dX11_count_147 rfl (lv_at hl 0 rfl) ?_
      refine tg_X11_now C0 h kSC_0 q_515 dX11_count_148 ?_
      refine tg_X0_folk C0 h kSC_1 q_249 dX11_count_151 ?_
      refine y_ci h (y_rV (As := []) (rest := []) C0 hZ h (c_X1_allLefts l G Z ad _ h.2 10 kSC_10) k_X1_allLefts q_1426 q_1427 q_1425 kSC_10 rfl rfl rfl hl.1 rfl rfl (Nat.le_of_ble_eq_true rfl) dX11_count_154 ⟨Nat.le_of_ble_eq_true rfl, Nat.le_of_ble_eq_true rfl⟩ ⟨Nat.le_of_ble_eq_true rfl, Nat.le_of_ble_eq_true rfl⟩) (fun r_55 H locs ws_52 h u_53 p_54 => ?_)
      rw [hQ]
      exact y_iret C0 h u_53 ⟨(Rel.fr (M := []) hR u_53 (by decide) (by decide)), (Hok.fr (M := []) hH u_53 (by decide))⟩ dX11_count_157
