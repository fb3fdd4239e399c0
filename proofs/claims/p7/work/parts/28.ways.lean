theorem dX11_affords_0 : decode cX11_affords 0 = .ok (.aload_n 0, 1) := by decide +kernel
theorem dX11_affords_1 : decode cX11_affords 1 = .ok (.iload_n 1, 1) := by decide +kernel
theorem dX11_affords_2 : decode cX11_affords 2 = .ok (.invokevirtual 141, 3) := by decide +kernel
theorem dX11_affords_5 : decode cX11_affords 5 = .ok (.ifCond .ne 6, 3) := by decide +kernel
theorem dX11_affords_8 : decode cX11_affords 8 = .ok (.bipush (-2), 2) := by decide +kernel
theorem dX11_affords_10 : decode cX11_affords 10 = .ok (.ireturn, 1) := by decide +kernel
theorem dX11_affords_11 : decode cX11_affords 11 = .ok (.aload_n 0, 1) := by decide +kernel
theorem dX11_affords_12 : decode cX11_affords 12 = .ok (.getfield 27, 3) := by decide +kernel
theorem dX11_affords_15 : decode cX11_affords 15 = .ok (.getfield 145, 3) := by decide +kernel
theorem dX11_affords_18 : decode cX11_affords 18 = .ok (.getfield 157, 3) := by decide +kernel
theorem dX11_affords_21 : decode cX11_affords 21 = .ok (.iload_n 1, 1) := by decide +kernel
theorem dX11_affords_22 : decode cX11_affords 22 = .ok (.iaload, 1) := by decide +kernel
theorem dX11_affords_23 : decode cX11_affords 23 = .ok (.istore_n 2, 1) := by decide +kernel
theorem dX11_affords_24 : decode cX11_affords 24 = .ok (.bipush 99, 2) := by decide +kernel
theorem dX11_affords_26 : decode cX11_affords 26 = .ok (.aload_n 0, 1) := by decide +kernel
theorem dX11_affords_27 : decode cX11_affords 27 = .ok (.getfield 27, 3) := by decide +kernel
theorem dX11_affords_30 : decode cX11_affords 30 = .ok (.getfield 145, 3) := by decide +kernel
theorem dX11_affords_33 : decode cX11_affords 33 = .ok (.getfield 154, 3) := by decide +kernel
theorem dX11_affords_36 : decode cX11_affords 36 = .ok (.iload_n 1, 1) := by decide +kernel
theorem dX11_affords_37 : decode cX11_affords 37 = .ok (.iaload, 1) := by decide +kernel
theorem dX11_affords_38 : decode cX11_affords 38 = .ok (.isub, 1) := by decide +kernel
theorem dX11_affords_39 : decode cX11_affords 39 = .ok (.istore_n 3, 1) := by decide +kernel
theorem dX11_affords_40 : decode cX11_affords 40 = .ok (.iconst 0, 1) := by decide +kernel
theorem dX11_affords_41 : decode cX11_affords 41 = .ok (.istore 4, 2) := by decide +kernel
theorem dX11_affords_43 : decode cX11_affords 43 = .ok (.iload 4, 2) := by decide +kernel
theorem dX11_affords_45 : decode cX11_affords 45 = .ok (.iload_n 3, 1) := by decide +kernel
theorem dX11_affords_46 : decode cX11_affords 46 = .ok (.if_icmp .ge 35, 3) := by decide +kernel
theorem dX11_affords_49 : decode cX11_affords 49 = .ok (.aload_n 0, 1) := by decide +kernel
theorem dX11_affords_50 : decode cX11_affords 50 = .ok (.getfield 27, 3) := by decide +kernel
theorem dX11_affords_53 : decode cX11_affords 53 = .ok (.iload_n 1, 1) := by decide +kernel
theorem dX11_affords_54 : decode cX11_affords 54 = .ok (.iload 4, 2) := by decide +kernel
theorem dX11_affords_56 : decode cX11_affords 56 = .ok (.invokevirtual 223, 3) := by decide +kernel
theorem dX11_affords_59 : decode cX11_affords 59 = .ok (.istore 5, 2) := by decide +kernel
theorem dX11_affords_61 : decode cX11_affords 61 = .ok (.iload 5, 2) := by decide +kernel
theorem dX11_affords_63 : decode cX11_affords 63 = .ok (.iload_n 2, 1) := by decide +kernel
theorem dX11_affords_64 : decode cX11_affords 64 = .ok (.if_icmp .le 6, 3) := by decide +kernel
theorem dX11_affords_67 : decode cX11_affords 67 = .ok (.goto 14, 3) := by decide +kernel
theorem dX11_affords_70 : decode cX11_affords 70 = .ok (.iload_n 2, 1) := by decide +kernel
theorem dX11_affords_71 : decode cX11_affords 71 = .ok (.iload 5, 2) := by decide +kernel
theorem dX11_affords_73 : decode cX11_affords 73 = .ok (.isub, 1) := by decide +kernel
theorem dX11_affords_74 : decode cX11_affords 74 = .ok (.istore_n 2, 1) := by decide +kernel
theorem dX11_affords_75 : decode cX11_affords 75 = .ok (.iinc 4 1, 3) := by decide +kernel
theorem dX11_affords_78 : decode cX11_affords 78 = .ok (.goto (-35), 3) := by decide +kernel
theorem dX11_affords_81 : decode cX11_affords 81 = .ok (.iload 4, 2) := by decide +kernel
theorem dX11_affords_83 : decode cX11_affords 83 = .ok (.ireturn, 1) := by decide +kernel
theorem dX11_bestCorner_0 : decode cX11_bestCorner 0 = .ok (.aload_n 0, 1) := by decide +kernel
theorem dX11_bestCorner_1 : decode cX11_bestCorner 1 = .ok (.iload_n 1, 1) := by decide +kernel
theorem dX11_bestCorner_2 : decode cX11_bestCorner 2 = .ok (.invokevirtual 141, 3) := by decide +kernel
theorem dX11_bestCorner_5 : decode cX11_bestCorner 5 = .ok (.ifCond .eq 11, 3) := by decide +kernel
theorem dX11_bestCorner_8 : decode cX11_bestCorner 8 = .ok (.aload_n 0, 1) := by decide +kernel
theorem dX11_bestCorner_9 : decode cX11_bestCorner 9 = .ok (.iload_n 2, 1) := by decide +kernel
theorem dX11_bestCorner_10 : decode cX11_bestCorner 10 = .ok (.invokevirtual 171, 3) := by decide +kernel
theorem dX11_bestCorner_13 : decode cX11_bestCorner 13 = .ok (.ifCond .ne 6, 3) := by decide +kernel
theorem dX11_bestCorner_16 : decode cX11_bestCorner 16 = .ok (.bipush (-2), 2) := by decide +kernel
theorem dX11_bestCorner_18 : decode cX11_bestCorner 18 = .ok (.ireturn, 1) := by decide +kernel
theorem dX11_bestCorner_19 : decode cX11_bestCorner 19 = .ok (.iload_n 3, 1) := by decide +kernel
theorem dX11_bestCorner_20 : decode cX11_bestCorner 20 = .ok (.ifCond .lt 9, 3) := by decide +kernel
theorem dX11_bestCorner_23 : decode cX11_bestCorner 23 = .ok (.iload_n 3, 1) := by decide +kernel
theorem dX11_bestCorner_24 : decode cX11_bestCorner 24 = .ok (.bipush 30, 2) := by decide +kernel
theorem dX11_bestCorner_26 : decode cX11_bestCorner 26 = .ok (.if_icmp .le 6, 3) := by decide +kernel
theorem dX11_bestCorner_29 : decode cX11_bestCorner 29 = .ok (.bipush (-3), 2) := by decide +kernel
theorem dX11_bestCorner_31 : decode cX11_bestCorner 31 = .ok (.ireturn, 1) := by decide +kernel
theorem dX11_bestCorner_32 : decode cX11_bestCorner 32 = .ok (.aload_n 0, 1) := by decide +kernel
theorem dX11_bestCorner_33 : decode cX11_bestCorner 33 = .ok (.getfield 27, 3) := by decide +kernel
theorem dX11_bestCorner_36 : decode cX11_bestCorner 36 = .ok (.getfield 145, 3) := by decide +kernel
theorem dX11_bestCorner_39 : decode cX11_bestCorner 39 = .ok (.iload_n 1, 1) := by decide +kernel
theorem dX11_bestCorner_40 : decode cX11_bestCorner 40 = .ok (.invokevirtual 249, 3) := by decide +kernel
theorem dX11_bestCorner_43 : decode cX11_bestCorner 43 = .ok (.istore 4, 2) := by decide +kernel
theorem dX11_bestCorner_45 : decode cX11_bestCorner 45 = .ok (.aload_n 0, 1) := by decide +kernel
theorem dX11_bestCorner_46 : decode cX11_bestCorner 46 = .ok (.getfield 65, 3) := by decide +kernel
theorem dX11_bestCorner_49 : decode cX11_bestCorner 49 = .ok (.iload 4, 2) := by decide +kernel
theorem dX11_bestCorner_51 : decode cX11_bestCorner 51 = .ok (.iconst 0, 1) := by decide +kernel
theorem dX11_bestCorner_52 : decode cX11_bestCorner 52 = .ok (.iload_n 2, 1) := by decide +kernel
theorem dX11_bestCorner_53 : decode cX11_bestCorner 53 = .ok (.iload_n 3, 1) := by decide +kernel
theorem dX11_bestCorner_54 : decode cX11_bestCorner 54 = .ok (.iconst 0, 1) := by decide +kernel
theorem dX11_bestCorner_55 : decode cX11_bestCorner 55 = .ok (.invokevirtual 263, 3) := by decide +kernel
theorem dX11_bestCorner_58 : decode cX11_bestCorner 58 = .ok (.istore 5, 2) := by decide +kernel
theorem dX11_bestCorner_60 : decode cX11_bestCorner 60 = .ok (.iconst (-1), 1) := by decide +kernel
theorem dX11_bestCorner_61 : decode cX11_bestCorner 61 = .ok (.istore 6, 2) := by decide +kernel
theorem dX11_bestCorner_63 : decode cX11_bestCorner 63 = .ok (.iconst 0, 1) := by decide +kernel
theorem dX11_bestCorner_64 : decode cX11_bestCorner 64 = .ok (.istore 7, 2) := by decide +kernel
theorem dX11_bestCorner_66 : decode cX11_bestCorner 66 = .ok (.iload 7, 2) := by decide +kernel
theorem dX11_bestCorner_68 : decode cX11_bestCorner 68 = .ok (.aload_n 0, 1) := by decide +kernel
theorem dX11_bestCorner_69 : decode cX11_bestCorner 69 = .ok (.getfield 27, 3) := by decide +kernel
theorem dX11_bestCorner_72 : decode cX11_bestCorner 72 = .ok (.invokevirtual 287, 3) := by decide +kernel
theorem dX11_bestCorner_75 : decode cX11_bestCorner 75 = .ok (.if_icmp .ge 47, 3) := by decide +kernel
theorem dX11_bestCorner_78 : decode cX11_bestCorner 78 = .ok (.iload 5, 2) := by decide +kernel
theorem dX11_bestCorner_80 : decode cX11_bestCorner 80 = .ok (.ifCond .le 42, 3) := by decide +kernel
theorem dX11_bestCorner_83 : decode cX11_bestCorner 83 = .ok (.aload_n 0, 1) := by decide +kernel
theorem dX11_bestCorner_84 : decode cX11_bestCorner 84 = .ok (.getfield 65, 3) := by decide +kernel
theorem dX11_bestCorner_87 : decode cX11_bestCorner 87 = .ok (.iload 4, 2) := by decide +kernel
theorem dX11_bestCorner_89 : decode cX11_bestCorner 89 = .ok (.iconst 0, 1) := by decide +kernel
theorem dX11_bestCorner_90 : decode cX11_bestCorner 90 = .ok (.iload_n 2, 1) := by decide +kernel
theorem dX11_bestCorner_91 : decode cX11_bestCorner 91 = .ok (.iload_n 3, 1) := by decide +kernel
theorem dX11_bestCorner_92 : decode cX11_bestCorner 92 = .ok (.iconst 1, 1) := by decide +kernel
theorem dX11_bestCorner_93 : decode cX11_bestCorner 93 = .ok (.iload 7, 2) := by decide +kernel
theorem dX11_bestCorner_95 : decode cX11_bestCorner 95 = .ok (.ishl, 1) := by decide +kernel
theorem dX11_bestCorner_96 : decode cX11_bestCorner 96 = .ok (.invokevirtual 263, 3) := by decide +kernel
theorem dX11_bestCorner_99 : decode cX11_bestCorner 99 = .ok (.istore 8, 2) := by decide +kernel
theorem dX11_bestCorner_101 : decode cX11_bestCorner 101 = .ok (.iload 8, 2) := by decide +kernel
theorem dX11_bestCorner_103 : decode cX11_bestCorner 103 = .ok (.iload 5, 2) := by decide +kernel
theorem dX11_bestCorner_105 : decode cX11_bestCorner 105 = .ok (.if_icmp .ge 11, 3) := by decide +kernel
theorem dX11_bestCorner_108 : decode cX11_bestCorner 108 = .ok (.iload 8, 2) := by decide +kernel
theorem dX11_bestCorner_110 : decode cX11_bestCorner 110 = .ok (.istore 5, 2) := by decide +kernel
theorem dX11_bestCorner_112 : decode cX11_bestCorner 112 = .ok (.iload 7, 2) := by decide +kernel
theorem dX11_bestCorner_114 : decode cX11_bestCorner 114 = .ok (.istore 6, 2) := by decide +kernel
theorem dX11_bestCorner_116 : decode cX11_bestCorner 116 = .ok (.iinc 7 1, 3) := by decide +kernel
theorem dX11_bestCorner_119 : decode cX11_bestCorner 119 = .ok (.goto (-53), 3) := by decide +kernel
theorem dX11_bestCorner_122 : decode cX11_bestCorner 122 = .ok (.iload 6, 2) := by decide +kernel
theorem dX11_bestCorner_124 : decode cX11_bestCorner 124 = .ok (.ireturn, 1) := by decide +kernel
theorem dX11_byRights_0 : decode cX11_byRights 0 = .ok (.aload_n 0, 1) := by decide +kernel
theorem dX11_byRights_1 : decode cX11_byRights 1 = .ok (.iload_n 1, 1) := by decide +kernel
theorem dX11_byRights_2 : decode cX11_byRights 2 = .ok (.iload_n 2, 1) := by decide +kernel
theorem dX11_byRights_3 : decode cX11_byRights 3 = .ok (.invokevirtual 163, 3) := by decide +kernel
theorem dX11_byRights_6 : decode cX11_byRights 6 = .ok (.ifCond .ne 6, 3) := by decide +kernel
theorem dX11_byRights_9 : decode cX11_byRights 9 = .ok (.bipush (-2), 2) := by decide +kernel
theorem dX11_byRights_11 : decode cX11_byRights 11 = .ok (.ireturn, 1) := by decide +kernel
theorem dX11_byRights_12 : decode cX11_byRights 12 = .ok (.aload_n 0, 1) := by decide +kernel
theorem dX11_byRights_13 : decode cX11_byRights 13 = .ok (.getfield 65, 3) := by decide +kernel
theorem dX11_byRights_16 : decode cX11_byRights 16 = .ok (.iconst 4, 1) := by decide +kernel
theorem dX11_byRights_17 : decode cX11_byRights 17 = .ok (.iload_n 1, 1) := by decide +kernel
theorem dX11_byRights_18 : decode cX11_byRights 18 = .ok (.imul, 1) := by decide +kernel
theorem dX11_byRights_19 : decode cX11_byRights 19 = .ok (.iload_n 2, 1) := by decide +kernel
theorem dX11_byRights_20 : decode cX11_byRights 20 = .ok (.iadd, 1) := by decide +kernel
theorem dX11_byRights_21 : decode cX11_byRights 21 = .ok (.invokevirtual 284, 3) := by decide +kernel
theorem dX11_byRights_24 : decode cX11_byRights 24 = .ok (.ireturn, 1) := by decide +kernel
theorem dX11_chase_0 : decode cX11_chase 0 = .ok (.aload_n 0, 1) := by decide +kernel
theorem dX11_chase_1 : decode cX11_chase 1 = .ok (.iload_n 1, 1) := by decide +kernel
theorem dX11_chase_2 : decode cX11_chase 2 = .ok (.iload_n 2, 1) := by decide +kernel
theorem dX11_chase_3 : decode cX11_chase 3 = .ok (.invokevirtual 163, 3) := by decide +kernel
theorem dX11_chase_6 : decode cX11_chase 6 = .ok (.ifCond .eq 13, 3) := by decide +kernel
theorem dX11_chase_9 : decode cX11_chase 9 = .ok (.aload_n 0, 1) := by decide +kernel
theorem dX11_chase_10 : decode cX11_chase 10 = .ok (.iload_n 3, 1) := by decide +kernel
theorem dX11_chase_11 : decode cX11_chase 11 = .ok (.iload 4, 2) := by decide +kernel
theorem dX11_chase_13 : decode cX11_chase 13 = .ok (.invokevirtual 163, 3) := by decide +kernel
theorem dX11_chase_16 : decode cX11_chase 16 = .ok (.ifCond .ne 6, 3) := by decide +kernel
theorem dX11_chase_19 : decode cX11_chase 19 = .ok (.bipush (-2), 2) := by decide +kernel
theorem dX11_chase_21 : decode cX11_chase 21 = .ok (.ireturn, 1) := by decide +kernel
theorem dX11_chase_22 : decode cX11_chase 22 = .ok (.iconst 0, 1) := by decide +kernel
theorem dX11_chase_23 : decode cX11_chase 23 = .ok (.istore 5, 2) := by decide +kernel
theorem dX11_chase_25 : decode cX11_chase 25 = .ok (.iload 5, 2) := by decide +kernel
theorem dX11_chase_27 : decode cX11_chase 27 = .ok (.bipush 30, 2) := by decide +kernel
theorem dX11_chase_29 : decode cX11_chase 29 = .ok (.if_icmp .gt 35, 3) := by decide +kernel
theorem dX11_chase_32 : decode cX11_chase 32 = .ok (.aload_n 0, 1) := by decide +kernel
theorem dX11_chase_33 : decode cX11_chase 33 = .ok (.getfield 72, 3) := by decide +kernel
theorem dX11_chase_36 : decode cX11_chase 36 = .ok (.iconst 4, 1) := by decide +kernel
theorem dX11_chase_37 : decode cX11_chase 37 = .ok (.iload_n 1, 1) := by decide +kernel
theorem dX11_chase_38 : decode cX11_chase 38 = .ok (.imul, 1) := by decide +kernel
theorem dX11_chase_39 : decode cX11_chase 39 = .ok (.iload_n 2, 1) := by decide +kernel
theorem dX11_chase_40 : decode cX11_chase 40 = .ok (.iadd, 1) := by decide +kernel
theorem dX11_chase_41 : decode cX11_chase 41 = .ok (.iload 4, 2) := by decide +kernel
theorem dX11_chase_43 : decode cX11_chase 43 = .ok (.iload 5, 2) := by decide +kernel
theorem dX11_chase_45 : decode cX11_chase 45 = .ok (.invokevirtual 311, 3) := by decide +kernel
theorem dX11_chase_48 : decode cX11_chase 48 = .ok (.iload_n 3, 1) := by decide +kernel
theorem dX11_chase_49 : decode cX11_chase 49 = .ok (.ishr, 1) := by decide +kernel
theorem dX11_chase_50 : decode cX11_chase 50 = .ok (.iconst 1, 1) := by decide +kernel
theorem dX11_chase_51 : decode cX11_chase 51 = .ok (.iand, 1) := by decide +kernel
theorem dX11_chase_52 : decode cX11_chase 52 = .ok (.ifCond .eq 6, 3) := by decide +kernel
theorem dX11_chase_55 : decode cX11_chase 55 = .ok (.iload 5, 2) := by decide +kernel
theorem dX11_chase_57 : decode cX11_chase 57 = .ok (.ireturn, 1) := by decide +kernel
theorem dX11_chase_58 : decode cX11_chase 58 = .ok (.iinc 5 1, 3) := by decide +kernel
theorem dX11_chase_61 : decode cX11_chase 61 = .ok (.goto (-36), 3) := by decide +kernel
theorem dX11_chase_64 : decode cX11_chase 64 = .ok (.iconst (-1), 1) := by decide +kernel
theorem dX11_chase_65 : decode cX11_chase 65 = .ok (.ireturn, 1) := by decide +kernel
theorem dX11_cheap_0 : decode cX11_cheap 0 = .ok (.iconst (-1), 1) := by decide +kernel
theorem dX11_cheap_1 : decode cX11_cheap 1 = .ok (.istore_n 1, 1) := by decide +kernel
theorem dX11_cheap_2 : decode cX11_cheap 2 = .ok (.iconst 0, 1) := by decide +kernel
theorem dX11_cheap_3 : decode cX11_cheap 3 = .ok (.istore_n 2, 1) := by decide +kernel
theorem dX11_cheap_4 : decode cX11_cheap 4 = .ok (.iconst 0, 1) := by decide +kernel
theorem dX11_cheap_5 : decode cX11_cheap 5 = .ok (.istore_n 3, 1) := by decide +kernel
theorem dX11_cheap_6 : decode cX11_cheap 6 = .ok (.iload_n 3, 1) := by decide +kernel
theorem dX11_cheap_7 : decode cX11_cheap 7 = .ok (.aload_n 0, 1) := by decide +kernel
theorem dX11_cheap_8 : decode cX11_cheap 8 = .ok (.getfield 27, 3) := by decide +kernel
theorem dX11_cheap_11 : decode cX11_cheap 11 = .ok (.invokevirtual 287, 3) := by decide +kernel
theorem dX11_cheap_14 : decode cX11_cheap 14 = .ok (.if_icmp .ge 57, 3) := by decide +kernel
theorem dX11_cheap_17 : decode cX11_cheap 17 = .ok (.aload_n 0, 1) := by decide +kernel
theorem dX11_cheap_18 : decode cX11_cheap 18 = .ok (.getfield 27, 3) := by decide +kernel
theorem dX11_cheap_21 : decode cX11_cheap 21 = .ok (.iload_n 3, 1) := by decide +kernel
theorem dX11_cheap_22 : decode cX11_cheap 22 = .ok (.aload_n 0, 1) := by decide +kernel
theorem dX11_cheap_23 : decode cX11_cheap 23 = .ok (.getfield 27, 3) := by decide +kernel
theorem dX11_cheap_26 : decode cX11_cheap 26 = .ok (.getfield 145, 3) := by decide +kernel
theorem dX11_cheap_29 : decode cX11_cheap 29 = .ok (.getfield 174, 3) := by decide +kernel
theorem dX11_cheap_32 : decode cX11_cheap 32 = .ok (.aload_n 0, 1) := by decide +kernel
theorem dX11_cheap_33 : decode cX11_cheap 33 = .ok (.getfield 27, 3) := by decide +kernel
theorem dX11_cheap_36 : decode cX11_cheap 36 = .ok (.getfield 145, 3) := by decide +kernel
theorem dX11_cheap_39 : decode cX11_cheap 39 = .ok (.getfield 177, 3) := by decide +kernel
theorem dX11_cheap_42 : decode cX11_cheap 42 = .ok (.iload_n 3, 1) := by decide +kernel
theorem dX11_cheap_43 : decode cX11_cheap 43 = .ok (.iaload, 1) := by decide +kernel
theorem dX11_cheap_44 : decode cX11_cheap 44 = .ok (.iconst 0, 1) := by decide +kernel
theorem dX11_cheap_45 : decode cX11_cheap 45 = .ok (.invokevirtual 180, 3) := by decide +kernel
theorem dX11_cheap_48 : decode cX11_cheap 48 = .ok (.istore 4, 2) := by decide +kernel
theorem dX11_cheap_50 : decode cX11_cheap 50 = .ok (.iload_n 1, 1) := by decide +kernel
theorem dX11_cheap_51 : decode cX11_cheap 51 = .ok (.ifCond .lt 9, 3) := by decide +kernel
theorem dX11_cheap_54 : decode cX11_cheap 54 = .ok (.iload 4, 2) := by decide +kernel
theorem dX11_cheap_56 : decode cX11_cheap 56 = .ok (.iload_n 2, 1) := by decide +kernel
theorem dX11_cheap_57 : decode cX11_cheap 57 = .ok (.if_icmp .ge 8, 3) := by decide +kernel
theorem dX11_cheap_60 : decode cX11_cheap 60 = .ok (.iload_n 3, 1) := by decide +kernel
theorem dX11_cheap_61 : decode cX11_cheap 61 = .ok (.istore_n 1, 1) := by decide +kernel
theorem dX11_cheap_62 : decode cX11_cheap 62 = .ok (.iload 4, 2) := by decide +kernel
theorem dX11_cheap_64 : decode cX11_cheap 64 = .ok (.istore_n 2, 1) := by decide +kernel
theorem dX11_cheap_65 : decode cX11_cheap 65 = .ok (.iinc 3 1, 3) := by decide +kernel
theorem dX11_cheap_68 : decode cX11_cheap 68 = .ok (.goto (-62), 3) := by decide +kernel
theorem dX11_cheap_71 : decode cX11_cheap 71 = .ok (.iload_n 1, 1) := by decide +kernel
theorem dX11_cheap_72 : decode cX11_cheap 72 = .ok (.ireturn, 1) := by decide +kernel
theorem dX11_cheapest_0 : decode cX11_cheapest 0 = .ok (.aload_n 0, 1) := by decide +kernel
theorem dX11_cheapest_1 : decode cX11_cheapest 1 = .ok (.iload_n 1, 1) := by decide +kernel
theorem dX11_cheapest_2 : decode cX11_cheapest 2 = .ok (.invokevirtual 141, 3) := by decide +kernel
theorem dX11_cheapest_5 : decode cX11_cheapest 5 = .ok (.ifCond .eq 11, 3) := by decide +kernel
theorem dX11_cheapest_8 : decode cX11_cheapest 8 = .ok (.aload_n 0, 1) := by decide +kernel
theorem dX11_cheapest_9 : decode cX11_cheapest 9 = .ok (.iload_n 2, 1) := by decide +kernel
theorem dX11_cheapest_10 : decode cX11_cheapest 10 = .ok (.invokevirtual 171, 3) := by decide +kernel
theorem dX11_cheapest_13 : decode cX11_cheapest 13 = .ok (.ifCond .ne 6, 3) := by decide +kernel
theorem dX11_cheapest_16 : decode cX11_cheapest 16 = .ok (.bipush (-2), 2) := by decide +kernel
theorem dX11_cheapest_18 : decode cX11_cheapest 18 = .ok (.ireturn, 1) := by decide +kernel
theorem dX11_cheapest_19 : decode cX11_cheapest 19 = .ok (.iload_n 3, 1) := by decide +kernel
theorem dX11_cheapest_20 : decode cX11_cheapest 20 = .ok (.ifCond .lt 9, 3) := by decide +kernel
theorem dX11_cheapest_23 : decode cX11_cheapest 23 = .ok (.iload_n 3, 1) := by decide +kernel
theorem dX11_cheapest_24 : decode cX11_cheapest 24 = .ok (.bipush 60, 2) := by decide +kernel
theorem dX11_cheapest_26 : decode cX11_cheapest 26 = .ok (.if_icmp .le 6, 3) := by decide +kernel
theorem dX11_cheapest_29 : decode cX11_cheapest 29 = .ok (.bipush (-3), 2) := by decide +kernel
theorem dX11_cheapest_31 : decode cX11_cheapest 31 = .ok (.ireturn, 1) := by decide +kernel
theorem dX11_cheapest_32 : decode cX11_cheapest 32 = .ok (.aload_n 0, 1) := by decide +kernel
theorem dX11_cheapest_33 : decode cX11_cheapest 33 = .ok (.getfield 61, 3) := by decide +kernel
theorem dX11_cheapest_36 : decode cX11_cheapest 36 = .ok (.aload_n 0, 1) := by decide +kernel
theorem dX11_cheapest_37 : decode cX11_cheapest 37 = .ok (.getfield 27, 3) := by decide +kernel
theorem dX11_cheapest_40 : decode cX11_cheapest 40 = .ok (.getfield 145, 3) := by decide +kernel
theorem dX11_cheapest_43 : decode cX11_cheapest 43 = .ok (.iload_n 1, 1) := by decide +kernel
theorem dX11_cheapest_44 : decode cX11_cheapest 44 = .ok (.invokevirtual 249, 3) := by decide +kernel
theorem dX11_cheapest_47 : decode cX11_cheapest 47 = .ok (.iload_n 2, 1) := by decide +kernel
theorem dX11_cheapest_48 : decode cX11_cheapest 48 = .ok (.iload_n 3, 1) := by decide +kernel
theorem dX11_cheapest_49 : decode cX11_cheapest 49 = .ok (.invokevirtual 266, 3) := by decide +kernel
theorem dX11_cheapest_52 : decode cX11_cheapest 52 = .ok (.ireturn, 1) := by decide +kernel
theorem dX11_count_0 : decode cX11_count 0 = .ok (.iload_n 1, 1) := by decide +kernel
theorem dX11_count_1 : decode cX11_count 1 = .ok (.tableswitch 157 0 9 #[55, 63, 71, 82, 93, 104, 125, 130, 138, 146], 55) := by decide +kernel
theorem dX11_count_56 : decode cX11_count 56 = .ok (.aload_n 0, 1) := by decide +kernel
theorem dX11_count_57 : decode cX11_count 57 = .ok (.getfield 27, 3) := by decide +kernel
theorem dX11_count_60 : decode cX11_count 60 = .ok (.getfield 328, 3) := by decide +kernel
theorem dX11_count_63 : decode cX11_count 63 = .ok (.ireturn, 1) := by decide +kernel
theorem dX11_count_64 : decode cX11_count 64 = .ok (.aload_n 0, 1) := by decide +kernel
theorem dX11_count_65 : decode cX11_count 65 = .ok (.getfield 27, 3) := by decide +kernel
theorem dX11_count_68 : decode cX11_count 68 = .ok (.getfield 331, 3) := by decide +kernel
theorem dX11_count_71 : decode cX11_count 71 = .ok (.ireturn, 1) := by decide +kernel
theorem dX11_count_72 : decode cX11_count 72 = .ok (.aload_n 0, 1) := by decide +kernel
theorem dX11_count_73 : decode cX11_count 73 = .ok (.getfield 27, 3) := by decide +kernel
theorem dX11_count_76 : decode cX11_count 76 = .ok (.getfield 145, 3) := by decide +kernel
theorem dX11_count_79 : decode cX11_count 79 = .ok (.getfield 240, 3) := by decide +kernel
theorem dX11_count_82 : decode cX11_count 82 = .ok (.ireturn, 1) := by decide +kernel
theorem dX11_count_83 : decode cX11_count 83 = .ok (.aload_n 0, 1) := by decide +kernel
theorem dX11_count_84 : decode cX11_count 84 = .ok (.getfield 27, 3) := by decide +kernel
theorem dX11_count_87 : decode cX11_count 87 = .ok (.getfield 145, 3) := by decide +kernel
theorem dX11_count_90 : decode cX11_count 90 = .ok (.getfield 174, 3) := by decide +kernel
theorem dX11_count_93 : decode cX11_count 93 = .ok (.ireturn, 1) := by decide +kernel
theorem dX11_count_94 : decode cX11_count 94 = .ok (.aload_n 0, 1) := by decide +kernel
theorem dX11_count_95 : decode cX11_count 95 = .ok (.getfield 27, 3) := by decide +kernel
theorem dX11_count_98 : decode cX11_count 98 = .ok (.getfield 145, 3) := by decide +kernel
theorem dX11_count_101 : decode cX11_count 101 = .ok (.invokevirtual 334, 3) := by decide +kernel
theorem dX11_count_104 : decode cX11_count 104 = .ok (.ireturn, 1) := by decide +kernel
theorem dX11_count_105 : decode cX11_count 105 = .ok (.aload_n 0, 1) := by decide +kernel
theorem dX11_count_106 : decode cX11_count 106 = .ok (.getfield 27, 3) := by decide +kernel
theorem dX11_count_109 : decode cX11_count 109 = .ok (.aload_n 0, 1) := by decide +kernel
theorem dX11_count_110 : decode cX11_count 110 = .ok (.getfield 27, 3) := by decide +kernel
theorem dX11_count_113 : decode cX11_count 113 = .ok (.getfield 145, 3) := by decide +kernel
theorem dX11_count_116 : decode cX11_count 116 = .ok (.getfield 174, 3) := by decide +kernel
theorem dX11_count_119 : decode cX11_count 119 = .ok (.invokevirtual 184, 3) := by decide +kernel
theorem dX11_count_122 : decode cX11_count 122 = .ok (.invokestatic 229, 3) := by decide +kernel
theorem dX11_count_125 : decode cX11_count 125 = .ok (.ireturn, 1) := by decide +kernel
theorem dX11_count_126 : decode cX11_count 126 = .ok (.aload_n 0, 1) := by decide +kernel
theorem dX11_count_127 : decode cX11_count 127 = .ok (.getfield 234, 3) := by decide +kernel
theorem dX11_count_130 : decode cX11_count 130 = .ok (.ireturn, 1) := by decide +kernel
theorem dX11_count_131 : decode cX11_count 131 = .ok (.aload_n 0, 1) := by decide +kernel
theorem dX11_count_132 : decode cX11_count 132 = .ok (.getfield 37, 3) := by decide +kernel
theorem dX11_count_135 : decode cX11_count 135 = .ok (.invokevirtual 117, 3) := by decide +kernel
theorem dX11_count_138 : decode cX11_count 138 = .ok (.ireturn, 1) := by decide +kernel
theorem dX11_count_139 : decode cX11_count 139 = .ok (.aload_n 0, 1) := by decide +kernel
theorem dX11_count_140 : decode cX11_count 140 = .ok (.getfield 27, 3) := by decide +kernel
theorem dX11_count_143 : decode cX11_count 143 = .ok (.getfield 131, 3) := by decide +kernel
theorem dX11_count_146 : decode cX11_count 146 = .ok (.ireturn, 1) := by decide +kernel
theorem dX11_count_147 : decode cX11_count 147 = .ok (.aload_n 0, 1) := by decide +kernel
theorem dX11_count_148 : decode cX11_count 148 = .ok (.getfield 27, 3) := by decide +kernel
theorem dX11_count_151 : decode cX11_count 151 = .ok (.getfield 145, 3) := by decide +kernel
theorem dX11_count_154 : decode cX11_count 154 = .ok (.invokevirtual 337, 3) := by decide +kernel
theorem dX11_count_157 : decode cX11_count 157 = .ok (.ireturn, 1) := by decide +kernel
theorem dX11_count_158 : decode cX11_count 158 = .ok (.iconst (-1), 1) := by decide +kernel
theorem dX11_count_159 : decode cX11_count 159 = .ok (.ireturn, 1) := by decide +kernel
theorem dX11_dealing_0 : decode cX11_dealing 0 = .ok (.aload_n 0, 1) := by decide +kernel
theorem dX11_dealing_1 : decode cX11_dealing 1 = .ok (.iload_n 1, 1) := by decide +kernel
theorem dX11_dealing_2 : decode cX11_dealing 2 = .ok (.iload_n 2, 1) := by decide +kernel
theorem dX11_dealing_3 : decode cX11_dealing 3 = .ok (.invokevirtual 163, 3) := by decide +kernel
theorem dX11_dealing_6 : decode cX11_dealing 6 = .ok (.ifCond .eq 12, 3) := by decide +kernel
theorem dX11_dealing_9 : decode cX11_dealing 9 = .ok (.iload_n 3, 1) := by decide +kernel
theorem dX11_dealing_10 : decode cX11_dealing 10 = .ok (.ifCond .lt 8, 3) := by decide +kernel
theorem dX11_dealing_13 : decode cX11_dealing 13 = .ok (.iload_n 3, 1) := by decide +kernel
theorem dX11_dealing_14 : decode cX11_dealing 14 = .ok (.iconst 2, 1) := by decide +kernel
theorem dX11_dealing_15 : decode cX11_dealing 15 = .ok (.if_icmp .le 6, 3) := by decide +kernel
theorem dX11_dealing_18 : decode cX11_dealing 18 = .ok (.bipush (-2), 2) := by decide +kernel
theorem dX11_dealing_20 : decode cX11_dealing 20 = .ok (.ireturn, 1) := by decide +kernel
theorem dX11_dealing_21 : decode cX11_dealing 21 = .ok (.iconst 0, 1) := by decide +kernel
theorem dX11_dealing_22 : decode cX11_dealing 22 = .ok (.istore 4, 2) := by decide +kernel
theorem dX11_dealing_24 : decode cX11_dealing 24 = .ok (.iload 4, 2) := by decide +kernel
theorem dX11_dealing_26 : decode cX11_dealing 26 = .ok (.bipush 24, 2) := by decide +kernel
theorem dX11_dealing_28 : decode cX11_dealing 28 = .ok (.if_icmp .ge 50, 3) := by decide +kernel
theorem dX11_dealing_31 : decode cX11_dealing 31 = .ok (.aload_n 0, 1) := by decide +kernel
theorem dX11_dealing_32 : decode cX11_dealing 32 = .ok (.getfield 106, 3) := by decide +kernel
theorem dX11_dealing_35 : decode cX11_dealing 35 = .ok (.iload 4, 2) := by decide +kernel
theorem dX11_dealing_37 : decode cX11_dealing 37 = .ok (.aload_n 0, 1) := by decide +kernel
theorem dX11_dealing_38 : decode cX11_dealing 38 = .ok (.getfield 27, 3) := by decide +kernel
theorem dX11_dealing_41 : decode cX11_dealing 41 = .ok (.iload_n 1, 1) := by decide +kernel
theorem dX11_dealing_42 : decode cX11_dealing 42 = .ok (.aload_n 0, 1) := by decide +kernel
theorem dX11_dealing_43 : decode cX11_dealing 43 = .ok (.getfield 27, 3) := by decide +kernel
theorem dX11_dealing_46 : decode cX11_dealing 46 = .ok (.getfield 145, 3) := by decide +kernel
theorem dX11_dealing_49 : decode cX11_dealing 49 = .ok (.getfield 174, 3) := by decide +kernel
theorem dX11_dealing_52 : decode cX11_dealing 52 = .ok (.iload 4, 2) := by decide +kernel
theorem dX11_dealing_54 : decode cX11_dealing 54 = .ok (.iadd, 1) := by decide +kernel
theorem dX11_dealing_55 : decode cX11_dealing 55 = .ok (.aload_n 0, 1) := by decide +kernel
theorem dX11_dealing_56 : decode cX11_dealing 56 = .ok (.getfield 27, 3) := by decide +kernel
theorem dX11_dealing_59 : decode cX11_dealing 59 = .ok (.getfield 145, 3) := by decide +kernel
theorem dX11_dealing_62 : decode cX11_dealing 62 = .ok (.getfield 177, 3) := by decide +kernel
theorem dX11_dealing_65 : decode cX11_dealing 65 = .ok (.iload_n 1, 1) := by decide +kernel
theorem dX11_dealing_66 : decode cX11_dealing 66 = .ok (.iaload, 1) := by decide +kernel
theorem dX11_dealing_67 : decode cX11_dealing 67 = .ok (.iload_n 2, 1) := by decide +kernel
theorem dX11_dealing_68 : decode cX11_dealing 68 = .ok (.invokevirtual 180, 3) := by decide +kernel
theorem dX11_dealing_71 : decode cX11_dealing 71 = .ok (.iastore, 1) := by decide +kernel
theorem dX11_dealing_72 : decode cX11_dealing 72 = .ok (.iinc 4 1, 3) := by decide +kernel
theorem dX11_dealing_75 : decode cX11_dealing 75 = .ok (.goto (-51), 3) := by decide +kernel
theorem dX11_dealing_78 : decode cX11_dealing 78 = .ok (.iconst 0, 1) := by decide +kernel
theorem dX11_dealing_79 : decode cX11_dealing 79 = .ok (.istore 4, 2) := by decide +kernel
theorem dX11_dealing_81 : decode cX11_dealing 81 = .ok (.iconst (-1), 1) := by decide +kernel
theorem dX11_dealing_82 : decode cX11_dealing 82 = .ok (.istore 5, 2) := by decide +kernel
theorem dX11_dealing_84 : decode cX11_dealing 84 = .ok (.iconst (-1), 1) := by decide +kernel
theorem dX11_dealing_85 : decode cX11_dealing 85 = .ok (.istore 6, 2) := by decide +kernel
theorem dX11_dealing_87 : decode cX11_dealing 87 = .ok (.iconst 0, 1) := by decide +kernel
theorem dX11_dealing_88 : decode cX11_dealing 88 = .ok (.istore 7, 2) := by decide +kernel
theorem dX11_dealing_90 : decode cX11_dealing 90 = .ok (.iload 7, 2) := by decide +kernel
theorem dX11_dealing_92 : decode cX11_dealing 92 = .ok (.bipush 24, 2) := by decide +kernel
theorem dX11_dealing_94 : decode cX11_dealing 94 = .ok (.if_icmp .ge 73, 3) := by decide +kernel
theorem dX11_dealing_97 : decode cX11_dealing 97 = .ok (.iload 7, 2) := by decide +kernel
theorem dX11_dealing_99 : decode cX11_dealing 99 = .ok (.iconst 1, 1) := by decide +kernel
theorem dX11_dealing_100 : decode cX11_dealing 100 = .ok (.iadd, 1) := by decide +kernel
theorem dX11_dealing_101 : decode cX11_dealing 101 = .ok (.istore 8, 2) := by decide +kernel
theorem dX11_dealing_103 : decode cX11_dealing 103 = .ok (.iload 8, 2) := by decide +kernel
theorem dX11_dealing_105 : decode cX11_dealing 105 = .ok (.bipush 24, 2) := by decide +kernel
theorem dX11_dealing_107 : decode cX11_dealing 107 = .ok (.if_icmp .ge 54, 3) := by decide +kernel
theorem dX11_dealing_110 : decode cX11_dealing 110 = .ok (.aload_n 0, 1) := by decide +kernel
theorem dX11_dealing_111 : decode cX11_dealing 111 = .ok (.getfield 106, 3) := by decide +kernel
theorem dX11_dealing_114 : decode cX11_dealing 114 = .ok (.iload 8, 2) := by decide +kernel
theorem dX11_dealing_116 : decode cX11_dealing 116 = .ok (.iaload, 1) := by decide +kernel
theorem dX11_dealing_117 : decode cX11_dealing 117 = .ok (.aload_n 0, 1) := by decide +kernel
theorem dX11_dealing_118 : decode cX11_dealing 118 = .ok (.getfield 106, 3) := by decide +kernel
theorem dX11_dealing_121 : decode cX11_dealing 121 = .ok (.iload 7, 2) := by decide +kernel
theorem dX11_dealing_123 : decode cX11_dealing 123 = .ok (.iaload, 1) := by decide +kernel
theorem dX11_dealing_124 : decode cX11_dealing 124 = .ok (.isub, 1) := by decide +kernel
theorem dX11_dealing_125 : decode cX11_dealing 125 = .ok (.iload 4, 2) := by decide +kernel
theorem dX11_dealing_127 : decode cX11_dealing 127 = .ok (.if_icmp .le 28, 3) := by decide +kernel
theorem dX11_dealing_130 : decode cX11_dealing 130 = .ok (.aload_n 0, 1) := by decide +kernel
theorem dX11_dealing_131 : decode cX11_dealing 131 = .ok (.getfield 106, 3) := by decide +kernel
theorem dX11_dealing_134 : decode cX11_dealing 134 = .ok (.iload 8, 2) := by decide +kernel
theorem dX11_dealing_136 : decode cX11_dealing 136 = .ok (.iaload, 1) := by decide +kernel
theorem dX11_dealing_137 : decode cX11_dealing 137 = .ok (.aload_n 0, 1) := by decide +kernel
theorem dX11_dealing_138 : decode cX11_dealing 138 = .ok (.getfield 106, 3) := by decide +kernel
theorem dX11_dealing_141 : decode cX11_dealing 141 = .ok (.iload 7, 2) := by decide +kernel
theorem dX11_dealing_143 : decode cX11_dealing 143 = .ok (.iaload, 1) := by decide +kernel
theorem dX11_dealing_144 : decode cX11_dealing 144 = .ok (.isub, 1) := by decide +kernel
theorem dX11_dealing_145 : decode cX11_dealing 145 = .ok (.istore 4, 2) := by decide +kernel
theorem dX11_dealing_147 : decode cX11_dealing 147 = .ok (.iload 7, 2) := by decide +kernel
theorem dX11_dealing_149 : decode cX11_dealing 149 = .ok (.istore 5, 2) := by decide +kernel
theorem dX11_dealing_151 : decode cX11_dealing 151 = .ok (.iload 8, 2) := by decide +kernel
theorem dX11_dealing_153 : decode cX11_dealing 153 = .ok (.istore 6, 2) := by decide +kernel
theorem dX11_dealing_155 : decode cX11_dealing 155 = .ok (.iinc 8 1, 3) := by decide +kernel
theorem dX11_dealing_158 : decode cX11_dealing 158 = .ok (.goto (-55), 3) := by decide +kernel
theorem dX11_dealing_161 : decode cX11_dealing 161 = .ok (.iinc 7 1, 3) := by decide +kernel
theorem dX11_dealing_164 : decode cX11_dealing 164 = .ok (.goto (-74), 3) := by decide +kernel
theorem dX11_dealing_167 : decode cX11_dealing 167 = .ok (.iload_n 3, 1) := by decide +kernel
theorem dX11_dealing_168 : decode cX11_dealing 168 = .ok (.ifCond .ne 8, 3) := by decide +kernel
theorem dX11_dealing_171 : decode cX11_dealing 171 = .ok (.iload 4, 2) := by decide +kernel
theorem dX11_dealing_173 : decode cX11_dealing 173 = .ok (.goto 15, 3) := by decide +kernel
theorem dX11_dealing_176 : decode cX11_dealing 176 = .ok (.iload_n 3, 1) := by decide +kernel
theorem dX11_dealing_177 : decode cX11_dealing 177 = .ok (.iconst 1, 1) := by decide +kernel
theorem dX11_dealing_178 : decode cX11_dealing 178 = .ok (.if_icmp .ne 8, 3) := by decide +kernel
theorem dX11_dealing_181 : decode cX11_dealing 181 = .ok (.iload 5, 2) := by decide +kernel
theorem dX11_dealing_183 : decode cX11_dealing 183 = .ok (.goto 5, 3) := by decide +kernel
theorem dX11_dealing_186 : decode cX11_dealing 186 = .ok (.iload 6, 2) := by decide +kernel
theorem dX11_dealing_188 : decode cX11_dealing 188 = .ok (.ireturn, 1) := by decide +kernel
theorem dX11_enough_0 : decode cX11_enough 0 = .ok (.aload_n 0, 1) := by decide +kernel
theorem dX11_enough_1 : decode cX11_enough 1 = .ok (.iload_n 1, 1) := by decide +kernel
theorem dX11_enough_2 : decode cX11_enough 2 = .ok (.invokevirtual 141, 3) := by decide +kernel
theorem dX11_enough_5 : decode cX11_enough 5 = .ok (.ifCond .ne 6, 3) := by decide +kernel
theorem dX11_enough_8 : decode cX11_enough 8 = .ok (.bipush (-2), 2) := by decide +kernel
theorem dX11_enough_10 : decode cX11_enough 10 = .ok (.ireturn, 1) := by decide +kernel
theorem dX11_enough_11 : decode cX11_enough 11 = .ok (.aload_n 0, 1) := by decide +kernel
theorem dX11_enough_12 : decode cX11_enough 12 = .ok (.getfield 65, 3) := by decide +kernel
theorem dX11_enough_15 : decode cX11_enough 15 = .ok (.aload_n 0, 1) := by decide +kernel
theorem dX11_enough_16 : decode cX11_enough 16 = .ok (.getfield 27, 3) := by decide +kernel
theorem dX11_enough_19 : decode cX11_enough 19 = .ok (.getfield 145, 3) := by decide +kernel
theorem dX11_enough_22 : decode cX11_enough 22 = .ok (.iload_n 1, 1) := by decide +kernel
theorem dX11_enough_23 : decode cX11_enough 23 = .ok (.invokevirtual 249, 3) := by decide +kernel
theorem dX11_enough_26 : decode cX11_enough 26 = .ok (.invokevirtual 281, 3) := by decide +kernel
theorem dX11_enough_29 : decode cX11_enough 29 = .ok (.ireturn, 1) := by decide +kernel
theorem dX11_fewest_0 : decode cX11_fewest 0 = .ok (.aload_n 0, 1) := by decide +kernel
theorem dX11_fewest_1 : decode cX11_fewest 1 = .ok (.iload_n 1, 1) := by decide +kernel
theorem dX11_fewest_2 : decode cX11_fewest 2 = .ok (.invokevirtual 141, 3) := by decide +kernel
theorem dX11_fewest_5 : decode cX11_fewest 5 = .ok (.ifCond .eq 11, 3) := by decide +kernel
theorem dX11_fewest_8 : decode cX11_fewest 8 = .ok (.aload_n 0, 1) := by decide +kernel
theorem dX11_fewest_9 : decode cX11_fewest 9 = .ok (.iload_n 2, 1) := by decide +kernel
theorem dX11_fewest_10 : decode cX11_fewest 10 = .ok (.invokevirtual 171, 3) := by decide +kernel
theorem dX11_fewest_13 : decode cX11_fewest 13 = .ok (.ifCond .ne 6, 3) := by decide +kernel
theorem dX11_fewest_16 : decode cX11_fewest 16 = .ok (.bipush (-2), 2) := by decide +kernel
theorem dX11_fewest_18 : decode cX11_fewest 18 = .ok (.ireturn, 1) := by decide +kernel
theorem dX11_fewest_19 : decode cX11_fewest 19 = .ok (.iload_n 3, 1) := by decide +kernel
theorem dX11_fewest_20 : decode cX11_fewest 20 = .ok (.ifCond .lt 9, 3) := by decide +kernel
theorem dX11_fewest_23 : decode cX11_fewest 23 = .ok (.iload_n 3, 1) := by decide +kernel
theorem dX11_fewest_24 : decode cX11_fewest 24 = .ok (.bipush 60, 2) := by decide +kernel
theorem dX11_fewest_26 : decode cX11_fewest 26 = .ok (.if_icmp .le 6, 3) := by decide +kernel
theorem dX11_fewest_29 : decode cX11_fewest 29 = .ok (.bipush (-3), 2) := by decide +kernel
theorem dX11_fewest_31 : decode cX11_fewest 31 = .ok (.ireturn, 1) := by decide +kernel
theorem dX11_fewest_32 : decode cX11_fewest 32 = .ok (.aload_n 0, 1) := by decide +kernel
theorem dX11_fewest_33 : decode cX11_fewest 33 = .ok (.getfield 65, 3) := by decide +kernel
theorem dX11_fewest_36 : decode cX11_fewest 36 = .ok (.aload_n 0, 1) := by decide +kernel
theorem dX11_fewest_37 : decode cX11_fewest 37 = .ok (.getfield 27, 3) := by decide +kernel
theorem dX11_fewest_40 : decode cX11_fewest 40 = .ok (.getfield 145, 3) := by decide +kernel
theorem dX11_fewest_43 : decode cX11_fewest 43 = .ok (.iload_n 1, 1) := by decide +kernel
theorem dX11_fewest_44 : decode cX11_fewest 44 = .ok (.invokevirtual 249, 3) := by decide +kernel
theorem dX11_fewest_47 : decode cX11_fewest 47 = .ok (.iconst 0, 1) := by decide +kernel
theorem dX11_fewest_48 : decode cX11_fewest 48 = .ok (.iload_n 2, 1) := by decide +kernel
theorem dX11_fewest_49 : decode cX11_fewest 49 = .ok (.iload_n 3, 1) := by decide +kernel
theorem dX11_fewest_50 : decode cX11_fewest 50 = .ok (.iconst 0, 1) := by decide +kernel
theorem dX11_fewest_51 : decode cX11_fewest 51 = .ok (.invokevirtual 263, 3) := by decide +kernel
theorem dX11_fewest_54 : decode cX11_fewest 54 = .ok (.ireturn, 1) := by decide +kernel
theorem dX11_found_0 : decode cX11_found 0 = .ok (.aload_n 0, 1) := by decide +kernel
theorem dX11_found_1 : decode cX11_found 1 = .ok (.iload_n 1, 1) := by decide +kernel
theorem dX11_found_2 : decode cX11_found 2 = .ok (.invokevirtual 141, 3) := by decide +kernel
theorem dX11_found_5 : decode cX11_found 5 = .ok (.ifCond .eq 10, 3) := by decide +kernel
theorem dX11_found_8 : decode cX11_found 8 = .ok (.iload_n 2, 1) := by decide +kernel
theorem dX11_found_9 : decode cX11_found 9 = .ok (.invokestatic 211, 3) := by decide +kernel
theorem dX11_found_12 : decode cX11_found 12 = .ok (.ifCond .ne 6, 3) := by decide +kernel
theorem dX11_found_15 : decode cX11_found 15 = .ok (.bipush (-2), 2) := by decide +kernel
theorem dX11_found_17 : decode cX11_found 17 = .ok (.ireturn, 1) := by decide +kernel
theorem dX11_found_18 : decode cX11_found 18 = .ok (.aload_n 0, 1) := by decide +kernel
theorem dX11_found_19 : decode cX11_found 19 = .ok (.getfield 78, 3) := by decide +kernel
theorem dX11_found_22 : decode cX11_found 22 = .ok (.iload_n 2, 1) := by decide +kernel
theorem dX11_found_23 : decode cX11_found 23 = .ok (.aaload, 1) := by decide +kernel
theorem dX11_found_24 : decode cX11_found 24 = .ok (.astore 4, 2) := by decide +kernel
theorem dX11_found_26 : decode cX11_found 26 = .ok (.aload 4, 2) := by decide +kernel
theorem dX11_found_28 : decode cX11_found 28 = .ok (.getfield 214, 3) := by decide +kernel
theorem dX11_found_31 : decode cX11_found 31 = .ok (.ifCond .ge 6, 3) := by decide +kernel
theorem dX11_found_34 : decode cX11_found 34 = .ok (.bipush (-6), 2) := by decide +kernel
theorem dX11_found_36 : decode cX11_found 36 = .ok (.ireturn, 1) := by decide +kernel
theorem dX11_found_37 : decode cX11_found 37 = .ok (.aload 4, 2) := by decide +kernel
theorem dX11_found_39 : decode cX11_found 39 = .ok (.getfield 214, 3) := by decide +kernel
theorem dX11_found_42 : decode cX11_found 42 = .ok (.bipush 10, 2) := by decide +kernel
theorem dX11_found_44 : decode cX11_found 44 = .ok (.if_icmp .le 6, 3) := by decide +kernel
theorem dX11_found_47 : decode cX11_found 47 = .ok (.bipush (-4), 2) := by decide +kernel
theorem dX11_found_49 : decode cX11_found 49 = .ok (.ireturn, 1) := by decide +kernel
theorem dX11_found_50 : decode cX11_found 50 = .ok (.aload 4, 2) := by decide +kernel
theorem dX11_found_52 : decode cX11_found 52 = .ok (.aload_n 0, 1) := by decide +kernel
theorem dX11_found_53 : decode cX11_found 53 = .ok (.getfield 27, 3) := by decide +kernel
theorem dX11_found_56 : decode cX11_found 56 = .ok (.invokevirtual 287, 3) := by decide +kernel
theorem dX11_found_59 : decode cX11_found 59 = .ok (.invokevirtual 290, 3) := by decide +kernel
theorem dX11_found_62 : decode cX11_found 62 = .ok (.ifCond .eq 13, 3) := by decide +kernel
theorem dX11_found_65 : decode cX11_found 65 = .ok (.iload_n 3, 1) := by decide +kernel
theorem dX11_found_66 : decode cX11_found 66 = .ok (.ifCond .lt 9, 3) := by decide +kernel
theorem dX11_found_69 : decode cX11_found 69 = .ok (.iload_n 3, 1) := by decide +kernel
theorem dX11_found_70 : decode cX11_found 70 = .ok (.bipush 30, 2) := by decide +kernel
theorem dX11_found_72 : decode cX11_found 72 = .ok (.if_icmp .le 6, 3) := by decide +kernel
theorem dX11_found_75 : decode cX11_found 75 = .ok (.bipush (-3), 2) := by decide +kernel
theorem dX11_found_77 : decode cX11_found 77 = .ok (.ireturn, 1) := by decide +kernel
theorem dX11_found_78 : decode cX11_found 78 = .ok (.aload_n 0, 1) := by decide +kernel
theorem dX11_found_79 : decode cX11_found 79 = .ok (.getfield 65, 3) := by decide +kernel
theorem dX11_found_82 : decode cX11_found 82 = .ok (.aload_n 0, 1) := by decide +kernel
theorem dX11_found_83 : decode cX11_found 83 = .ok (.getfield 27, 3) := by decide +kernel
theorem dX11_found_86 : decode cX11_found 86 = .ok (.getfield 145, 3) := by decide +kernel
theorem dX11_found_89 : decode cX11_found 89 = .ok (.iload_n 1, 1) := by decide +kernel
theorem dX11_found_90 : decode cX11_found 90 = .ok (.invokevirtual 249, 3) := by decide +kernel
theorem dX11_found_93 : decode cX11_found 93 = .ok (.aload 4, 2) := by decide +kernel
theorem dX11_found_95 : decode cX11_found 95 = .ok (.iload_n 3, 1) := by decide +kernel
theorem dX11_found_96 : decode cX11_found 96 = .ok (.invokevirtual 307, 3) := by decide +kernel
theorem dX11_found_99 : decode cX11_found 99 = .ok (.ireturn, 1) := by decide +kernel
theorem dX11_image_0 : decode cX11_image 0 = .ok (.iload_n 1, 1) := by decide +kernel
theorem dX11_image_1 : decode cX11_image 1 = .ok (.ifCond .lt 8, 3) := by decide +kernel
theorem dX11_image_4 : decode cX11_image 4 = .ok (.iload_n 1, 1) := by decide +kernel
theorem dX11_image_5 : decode cX11_image 5 = .ok (.iconst 2, 1) := by decide +kernel
theorem dX11_image_6 : decode cX11_image 6 = .ok (.if_icmp .lt 6, 3) := by decide +kernel
theorem dX11_image_9 : decode cX11_image 9 = .ok (.bipush (-2), 2) := by decide +kernel
theorem dX11_image_11 : decode cX11_image 11 = .ok (.ireturn, 1) := by decide +kernel
theorem dX11_image_12 : decode cX11_image 12 = .ok (.aload_n 0, 1) := by decide +kernel
theorem dX11_image_13 : decode cX11_image 13 = .ok (.getfield 83, 3) := by decide +kernel
theorem dX11_image_16 : decode cX11_image 16 = .ok (.iload_n 1, 1) := by decide +kernel
theorem dX11_image_17 : decode cX11_image 17 = .ok (.aaload, 1) := by decide +kernel
theorem dX11_image_18 : decode cX11_image 18 = .ok (.aload_n 0, 1) := by decide +kernel
theorem dX11_image_19 : decode cX11_image 19 = .ok (.getfield 27, 3) := by decide +kernel
theorem dX11_image_22 : decode cX11_image 22 = .ok (.invokevirtual 125, 3) := by decide +kernel
theorem dX11_image_25 : decode cX11_image 25 = .ok (.aload_n 0, 1) := by decide +kernel
theorem dX11_image_26 : decode cX11_image 26 = .ok (.getfield 87, 3) := by decide +kernel
theorem dX11_image_29 : decode cX11_image 29 = .ok (.iload_n 1, 1) := by decide +kernel
theorem dX11_image_30 : decode cX11_image 30 = .ok (.iconst 1, 1) := by decide +kernel
theorem dX11_image_31 : decode cX11_image 31 = .ok (.bastore, 1) := by decide +kernel
theorem dX11_image_32 : decode cX11_image 32 = .ok (.iconst 0, 1) := by decide +kernel
theorem dX11_image_33 : decode cX11_image 33 = .ok (.ireturn, 1) := by decide +kernel
theorem dX11_lists_0 : decode cX11_lists 0 = .ok (.iload_n 1, 1) := by decide +kernel
theorem dX11_lists_1 : decode cX11_lists 1 = .ok (.invokestatic 211, 3) := by decide +kernel
theorem dX11_lists_4 : decode cX11_lists 4 = .ok (.ifCond .eq 19, 3) := by decide +kernel
theorem dX11_lists_7 : decode cX11_lists 7 = .ok (.aload_n 0, 1) := by decide +kernel
theorem dX11_lists_8 : decode cX11_lists 8 = .ok (.iload_n 2, 1) := by decide +kernel
theorem dX11_lists_9 : decode cX11_lists 9 = .ok (.invokevirtual 141, 3) := by decide +kernel
theorem dX11_lists_12 : decode cX11_lists 12 = .ok (.ifCond .eq 11, 3) := by decide +kernel
theorem dX11_lists_15 : decode cX11_lists 15 = .ok (.aload_n 0, 1) := by decide +kernel
theorem dX11_lists_16 : decode cX11_lists 16 = .ok (.iload_n 3, 1) := by decide +kernel
theorem dX11_lists_17 : decode cX11_lists 17 = .ok (.invokevirtual 171, 3) := by decide +kernel
theorem dX11_lists_20 : decode cX11_lists 20 = .ok (.ifCond .ne 6, 3) := by decide +kernel
theorem dX11_lists_23 : decode cX11_lists 23 = .ok (.bipush (-2), 2) := by decide +kernel
theorem dX11_lists_25 : decode cX11_lists 25 = .ok (.ireturn, 1) := by decide +kernel
theorem dX11_lists_26 : decode cX11_lists 26 = .ok (.aload_n 0, 1) := by decide +kernel
theorem dX11_lists_27 : decode cX11_lists 27 = .ok (.getfield 78, 3) := by decide +kernel
theorem dX11_lists_30 : decode cX11_lists 30 = .ok (.iload_n 1, 1) := by decide +kernel
theorem dX11_lists_31 : decode cX11_lists 31 = .ok (.aaload, 1) := by decide +kernel
theorem dX11_lists_32 : decode cX11_lists 32 = .ok (.astore 5, 2) := by decide +kernel
theorem dX11_lists_34 : decode cX11_lists 34 = .ok (.aload 5, 2) := by decide +kernel
theorem dX11_lists_36 : decode cX11_lists 36 = .ok (.getfield 214, 3) := by decide +kernel
theorem dX11_lists_39 : decode cX11_lists 39 = .ok (.ifCond .ge 6, 3) := by decide +kernel
theorem dX11_lists_42 : decode cX11_lists 42 = .ok (.bipush (-6), 2) := by decide +kernel
theorem dX11_lists_44 : decode cX11_lists 44 = .ok (.ireturn, 1) := by decide +kernel
theorem dX11_lists_45 : decode cX11_lists 45 = .ok (.iload 4, 2) := by decide +kernel
theorem dX11_lists_47 : decode cX11_lists 47 = .ok (.ifCond .lt 10, 3) := by decide +kernel
theorem dX11_lists_50 : decode cX11_lists 50 = .ok (.iload 4, 2) := by decide +kernel
theorem dX11_lists_52 : decode cX11_lists 52 = .ok (.bipush 120, 2) := by decide +kernel
theorem dX11_lists_54 : decode cX11_lists 54 = .ok (.if_icmp .le 6, 3) := by decide +kernel
theorem dX11_lists_57 : decode cX11_lists 57 = .ok (.bipush (-3), 2) := by decide +kernel
theorem dX11_lists_59 : decode cX11_lists 59 = .ok (.ireturn, 1) := by decide +kernel
theorem dX11_lists_60 : decode cX11_lists 60 = .ok (.aload_n 0, 1) := by decide +kernel
theorem dX11_lists_61 : decode cX11_lists 61 = .ok (.getfield 45, 3) := by decide +kernel
theorem dX11_lists_64 : decode cX11_lists 64 = .ok (.aload_n 0, 1) := by decide +kernel
theorem dX11_lists_65 : decode cX11_lists 65 = .ok (.getfield 27, 3) := by decide +kernel
theorem dX11_lists_68 : decode cX11_lists 68 = .ok (.getfield 145, 3) := by decide +kernel
theorem dX11_lists_71 : decode cX11_lists 71 = .ok (.iload_n 2, 1) := by decide +kernel
theorem dX11_lists_72 : decode cX11_lists 72 = .ok (.invokevirtual 249, 3) := by decide +kernel
theorem dX11_lists_75 : decode cX11_lists 75 = .ok (.iload_n 3, 1) := by decide +kernel
theorem dX11_lists_76 : decode cX11_lists 76 = .ok (.iload 4, 2) := by decide +kernel
theorem dX11_lists_78 : decode cX11_lists 78 = .ok (.invokevirtual 256, 3) := by decide +kernel
theorem dX11_lists_81 : decode cX11_lists 81 = .ok (.ifCond .ne 6, 3) := by decide +kernel
theorem dX11_lists_84 : decode cX11_lists 84 = .ok (.bipush (-5), 2) := by decide +kernel
theorem dX11_lists_86 : decode cX11_lists 86 = .ok (.ireturn, 1) := by decide +kernel
theorem dX11_lists_87 : decode cX11_lists 87 = .ok (.aload 5, 2) := by decide +kernel
theorem dX11_lists_89 : decode cX11_lists 89 = .ok (.getfield 214, 3) := by decide +kernel
theorem dX11_lists_92 : decode cX11_lists 92 = .ok (.iconst 1, 1) := by decide +kernel
theorem dX11_lists_93 : decode cX11_lists 93 = .ok (.aload_n 0, 1) := by decide +kernel
theorem dX11_lists_94 : decode cX11_lists 94 = .ok (.getfield 45, 3) := by decide +kernel
theorem dX11_lists_97 : decode cX11_lists 97 = .ok (.invokevirtual 325, 3) := by decide +kernel
theorem dX11_lists_100 : decode cX11_lists 100 = .ok (.iadd, 1) := by decide +kernel
theorem dX11_lists_101 : decode cX11_lists 101 = .ok (.invokestatic 226, 3) := by decide +kernel
theorem dX11_lists_104 : decode cX11_lists 104 = .ok (.istore 6, 2) := by decide +kernel
theorem dX11_lists_106 : decode cX11_lists 106 = .ok (.iconst 0, 1) := by decide +kernel
theorem dX11_lists_107 : decode cX11_lists 107 = .ok (.istore 7, 2) := by decide +kernel
theorem dX11_lists_109 : decode cX11_lists 109 = .ok (.iload 7, 2) := by decide +kernel
theorem dX11_lists_111 : decode cX11_lists 111 = .ok (.iload 6, 2) := by decide +kernel
theorem dX11_lists_113 : decode cX11_lists 113 = .ok (.if_icmp .ge 39, 3) := by decide +kernel
theorem dX11_lists_116 : decode cX11_lists 116 = .ok (.aload 5, 2) := by decide +kernel
theorem dX11_lists_118 : decode cX11_lists 118 = .ok (.iload 7, 2) := by decide +kernel
theorem dX11_lists_120 : decode cX11_lists 120 = .ok (.iload 7, 2) := by decide +kernel
theorem dX11_lists_122 : decode cX11_lists 122 = .ok (.ifCond .ne 8, 3) := by decide +kernel
theorem dX11_lists_125 : decode cX11_lists 125 = .ok (.iload_n 2, 1) := by decide +kernel
theorem dX11_lists_126 : decode cX11_lists 126 = .ok (.i2l, 1) := by decide +kernel
theorem dX11_lists_127 : decode cX11_lists 127 = .ok (.goto 15, 3) := by decide +kernel
theorem dX11_lists_130 : decode cX11_lists 130 = .ok (.aload_n 0, 1) := by decide +kernel
theorem dX11_lists_131 : decode cX11_lists 131 = .ok (.getfield 45, 3) := by decide +kernel
theorem dX11_lists_134 : decode cX11_lists 134 = .ok (.iload 7, 2) := by decide +kernel
theorem dX11_lists_136 : decode cX11_lists 136 = .ok (.iconst 1, 1) := by decide +kernel
theorem dX11_lists_137 : decode cX11_lists 137 = .ok (.isub, 1) := by decide +kernel
theorem dX11_lists_138 : decode cX11_lists 138 = .ok (.invokevirtual 260, 3) := by decide +kernel
theorem dX11_lists_141 : decode cX11_lists 141 = .ok (.i2l, 1) := by decide +kernel
theorem dX11_lists_142 : decode cX11_lists 142 = .ok (.invokevirtual 322, 3) := by decide +kernel
theorem dX11_lists_145 : decode cX11_lists 145 = .ok (.pop2, 1) := by decide +kernel
theorem dX11_lists_146 : decode cX11_lists 146 = .ok (.iinc 7 1, 3) := by decide +kernel
theorem dX11_lists_149 : decode cX11_lists 149 = .ok (.goto (-40), 3) := by decide +kernel
theorem dX11_lists_152 : decode cX11_lists 152 = .ok (.iload 6, 2) := by decide +kernel
theorem dX11_lists_154 : decode cX11_lists 154 = .ok (.ireturn, 1) := by decide +kernel
theorem dX11_makeFree_0 : decode cX11_makeFree 0 = .ok (.aload_n 0, 1) := by decide +kernel
theorem dX11_makeFree_1 : decode cX11_makeFree 1 = .ok (.iload_n 1, 1) := by decide +kernel
theorem dX11_makeFree_2 : decode cX11_makeFree 2 = .ok (.invokevirtual 141, 3) := by decide +kernel
theorem dX11_makeFree_5 : decode cX11_makeFree 5 = .ok (.ifCond .eq 22, 3) := by decide +kernel
theorem dX11_makeFree_8 : decode cX11_makeFree 8 = .ok (.aload_n 0, 1) := by decide +kernel
theorem dX11_makeFree_9 : decode cX11_makeFree 9 = .ok (.iload_n 2, 1) := by decide +kernel
theorem dX11_makeFree_10 : decode cX11_makeFree 10 = .ok (.invokevirtual 171, 3) := by decide +kernel
theorem dX11_makeFree_13 : decode cX11_makeFree 13 = .ok (.ifCond .eq 14, 3) := by decide +kernel
theorem dX11_makeFree_16 : decode cX11_makeFree 16 = .ok (.iload 4, 2) := by decide +kernel
theorem dX11_makeFree_18 : decode cX11_makeFree 18 = .ok (.ifCond .lt 9, 3) := by decide +kernel
theorem dX11_makeFree_21 : decode cX11_makeFree 21 = .ok (.iload 4, 2) := by decide +kernel
theorem dX11_makeFree_23 : decode cX11_makeFree 23 = .ok (.iconst 1, 1) := by decide +kernel
theorem dX11_makeFree_24 : decode cX11_makeFree 24 = .ok (.if_icmp .le 6, 3) := by decide +kernel
theorem dX11_makeFree_27 : decode cX11_makeFree 27 = .ok (.bipush (-2), 2) := by decide +kernel
theorem dX11_makeFree_29 : decode cX11_makeFree 29 = .ok (.ireturn, 1) := by decide +kernel
theorem dX11_makeFree_30 : decode cX11_makeFree 30 = .ok (.iload_n 3, 1) := by decide +kernel
theorem dX11_makeFree_31 : decode cX11_makeFree 31 = .ok (.ifCond .lt 9, 3) := by decide +kernel
theorem dX11_makeFree_34 : decode cX11_makeFree 34 = .ok (.iload_n 3, 1) := by decide +kernel
theorem dX11_makeFree_35 : decode cX11_makeFree 35 = .ok (.bipush 20, 2) := by decide +kernel
theorem dX11_makeFree_37 : decode cX11_makeFree 37 = .ok (.if_icmp .le 6, 3) := by decide +kernel
theorem dX11_makeFree_40 : decode cX11_makeFree 40 = .ok (.bipush (-3), 2) := by decide +kernel
theorem dX11_makeFree_42 : decode cX11_makeFree 42 = .ok (.ireturn, 1) := by decide +kernel
theorem dX11_makeFree_43 : decode cX11_makeFree 43 = .ok (.aload_n 0, 1) := by decide +kernel
theorem dX11_makeFree_44 : decode cX11_makeFree 44 = .ok (.getfield 65, 3) := by decide +kernel
theorem dX11_makeFree_47 : decode cX11_makeFree 47 = .ok (.aload_n 0, 1) := by decide +kernel
theorem dX11_makeFree_48 : decode cX11_makeFree 48 = .ok (.getfield 27, 3) := by decide +kernel
theorem dX11_makeFree_51 : decode cX11_makeFree 51 = .ok (.getfield 145, 3) := by decide +kernel
theorem dX11_makeFree_54 : decode cX11_makeFree 54 = .ok (.iload_n 1, 1) := by decide +kernel
theorem dX11_makeFree_55 : decode cX11_makeFree 55 = .ok (.invokevirtual 249, 3) := by decide +kernel
theorem dX11_makeFree_58 : decode cX11_makeFree 58 = .ok (.iload_n 2, 1) := by decide +kernel
theorem dX11_makeFree_59 : decode cX11_makeFree 59 = .ok (.iload_n 3, 1) := by decide +kernel
theorem dX11_makeFree_60 : decode cX11_makeFree 60 = .ok (.invokevirtual 304, 3) := by decide +kernel
theorem dX11_makeFree_63 : decode cX11_makeFree 63 = .ok (.istore 5, 2) := by decide +kernel
theorem dX11_makeFree_65 : decode cX11_makeFree 65 = .ok (.iload 5, 2) := by decide +kernel
theorem dX11_makeFree_67 : decode cX11_makeFree 67 = .ok (.ifCond .ge 5, 3) := by decide +kernel
theorem dX11_makeFree_70 : decode cX11_makeFree 70 = .ok (.iconst (-1), 1) := by decide +kernel
theorem dX11_makeFree_71 : decode cX11_makeFree 71 = .ok (.ireturn, 1) := by decide +kernel
theorem dX11_makeFree_72 : decode cX11_makeFree 72 = .ok (.iload 4, 2) := by decide +kernel
theorem dX11_makeFree_74 : decode cX11_makeFree 74 = .ok (.ifCond .ne 11, 3) := by decide +kernel
theorem dX11_makeFree_77 : decode cX11_makeFree 77 = .ok (.iload 5, 2) := by decide +kernel
theorem dX11_makeFree_79 : decode cX11_makeFree 79 = .ok (.invokestatic 229, 3) := by decide +kernel
theorem dX11_makeFree_82 : decode cX11_makeFree 82 = .ok (.goto 5, 3) := by decide +kernel
theorem dX11_makeFree_85 : decode cX11_makeFree 85 = .ok (.iload 5, 2) := by decide +kernel
theorem dX11_makeFree_87 : decode cX11_makeFree 87 = .ok (.ireturn, 1) := by decide +kernel
theorem dX11_numbers_0 : decode cX11_numbers 0 = .ok (.iload_n 1, 1) := by decide +kernel
theorem dX11_numbers_1 : decode cX11_numbers 1 = .ok (.invokestatic 211, 3) := by decide +kernel
theorem dX11_numbers_4 : decode cX11_numbers 4 = .ok (.ifCond .eq 12, 3) := by decide +kernel
theorem dX11_numbers_7 : decode cX11_numbers 7 = .ok (.iload_n 2, 1) := by decide +kernel
theorem dX11_numbers_8 : decode cX11_numbers 8 = .ok (.ifCond .lt 8, 3) := by decide +kernel
theorem dX11_numbers_11 : decode cX11_numbers 11 = .ok (.iload_n 2, 1) := by decide +kernel
theorem dX11_numbers_12 : decode cX11_numbers 12 = .ok (.iconst 3, 1) := by decide +kernel
theorem dX11_numbers_13 : decode cX11_numbers 13 = .ok (.if_icmp .le 6, 3) := by decide +kernel
theorem dX11_numbers_16 : decode cX11_numbers 16 = .ok (.bipush (-2), 2) := by decide +kernel
theorem dX11_numbers_18 : decode cX11_numbers 18 = .ok (.ireturn, 1) := by decide +kernel
theorem dX11_numbers_19 : decode cX11_numbers 19 = .ok (.iload_n 3, 1) := by decide +kernel
theorem dX11_numbers_20 : decode cX11_numbers 20 = .ok (.ifCond .lt 9, 3) := by decide +kernel
theorem dX11_numbers_23 : decode cX11_numbers 23 = .ok (.iload_n 3, 1) := by decide +kernel
theorem dX11_numbers_24 : decode cX11_numbers 24 = .ok (.bipush 40, 2) := by decide +kernel
theorem dX11_numbers_26 : decode cX11_numbers 26 = .ok (.if_icmp .le 6, 3) := by decide +kernel
theorem dX11_numbers_29 : decode cX11_numbers 29 = .ok (.bipush (-3), 2) := by decide +kernel
theorem dX11_numbers_31 : decode cX11_numbers 31 = .ok (.ireturn, 1) := by decide +kernel
theorem dX11_numbers_32 : decode cX11_numbers 32 = .ok (.aload_n 0, 1) := by decide +kernel
theorem dX11_numbers_33 : decode cX11_numbers 33 = .ok (.getfield 78, 3) := by decide +kernel
theorem dX11_numbers_36 : decode cX11_numbers 36 = .ok (.iload_n 1, 1) := by decide +kernel
theorem dX11_numbers_37 : decode cX11_numbers 37 = .ok (.aaload, 1) := by decide +kernel
theorem dX11_numbers_38 : decode cX11_numbers 38 = .ok (.iload_n 2, 1) := by decide +kernel
theorem dX11_numbers_39 : decode cX11_numbers 39 = .ok (.iload_n 3, 1) := by decide +kernel
theorem dX11_numbers_40 : decode cX11_numbers 40 = .ok (.invokevirtual 314, 3) := by decide +kernel
theorem dX11_numbers_43 : decode cX11_numbers 43 = .ok (.iconst 0, 1) := by decide +kernel
theorem dX11_numbers_44 : decode cX11_numbers 44 = .ok (.ireturn, 1) := by decide +kernel
theorem dX11_posts_0 : decode cX11_posts 0 = .ok (.aload_n 0, 1) := by decide +kernel
theorem dX11_posts_1 : decode cX11_posts 1 = .ok (.iload_n 1, 1) := by decide +kernel
theorem dX11_posts_2 : decode cX11_posts 2 = .ok (.iload_n 2, 1) := by decide +kernel
theorem dX11_posts_3 : decode cX11_posts 3 = .ok (.invokevirtual 163, 3) := by decide +kernel
theorem dX11_posts_6 : decode cX11_posts 6 = .ok (.ifCond .eq 12, 3) := by decide +kernel
theorem dX11_posts_9 : decode cX11_posts 9 = .ok (.iload_n 3, 1) := by decide +kernel
theorem dX11_posts_10 : decode cX11_posts 10 = .ok (.ifCond .lt 8, 3) := by decide +kernel
theorem dX11_posts_13 : decode cX11_posts 13 = .ok (.iload_n 3, 1) := by decide +kernel
theorem dX11_posts_14 : decode cX11_posts 14 = .ok (.iconst 3, 1) := by decide +kernel
theorem dX11_posts_15 : decode cX11_posts 15 = .ok (.if_icmp .le 6, 3) := by decide +kernel
theorem dX11_posts_18 : decode cX11_posts 18 = .ok (.bipush (-2), 2) := by decide +kernel
theorem dX11_posts_20 : decode cX11_posts 20 = .ok (.ireturn, 1) := by decide +kernel
theorem dX11_posts_21 : decode cX11_posts 21 = .ok (.iload 4, 2) := by decide +kernel
theorem dX11_posts_23 : decode cX11_posts 23 = .ok (.ifCond .lt 10, 3) := by decide +kernel
theorem dX11_posts_26 : decode cX11_posts 26 = .ok (.iload 4, 2) := by decide +kernel
theorem dX11_posts_28 : decode cX11_posts 28 = .ok (.bipush 30, 2) := by decide +kernel
theorem dX11_posts_30 : decode cX11_posts 30 = .ok (.if_icmp .le 6, 3) := by decide +kernel
theorem dX11_posts_33 : decode cX11_posts 33 = .ok (.bipush (-3), 2) := by decide +kernel
theorem dX11_posts_35 : decode cX11_posts 35 = .ok (.ireturn, 1) := by decide +kernel
theorem dX11_posts_36 : decode cX11_posts 36 = .ok (.aload_n 0, 1) := by decide +kernel
theorem dX11_posts_37 : decode cX11_posts 37 = .ok (.getfield 72, 3) := by decide +kernel
theorem dX11_posts_40 : decode cX11_posts 40 = .ok (.iconst 4, 1) := by decide +kernel
theorem dX11_posts_41 : decode cX11_posts 41 = .ok (.iload_n 1, 1) := by decide +kernel
theorem dX11_posts_42 : decode cX11_posts 42 = .ok (.imul, 1) := by decide +kernel
theorem dX11_posts_43 : decode cX11_posts 43 = .ok (.iload_n 2, 1) := by decide +kernel
theorem dX11_posts_44 : decode cX11_posts 44 = .ok (.iadd, 1) := by decide +kernel
theorem dX11_posts_45 : decode cX11_posts 45 = .ok (.iload_n 3, 1) := by decide +kernel
theorem dX11_posts_46 : decode cX11_posts 46 = .ok (.iload 4, 2) := by decide +kernel
theorem dX11_posts_48 : decode cX11_posts 48 = .ok (.invokevirtual 311, 3) := by decide +kernel
theorem dX11_posts_51 : decode cX11_posts 51 = .ok (.ireturn, 1) := by decide +kernel
theorem dX11_reach_0 : decode cX11_reach 0 = .ok (.aload_n 0, 1) := by decide +kernel
theorem dX11_reach_1 : decode cX11_reach 1 = .ok (.iload_n 1, 1) := by decide +kernel
theorem dX11_reach_2 : decode cX11_reach 2 = .ok (.invokevirtual 141, 3) := by decide +kernel
theorem dX11_reach_5 : decode cX11_reach 5 = .ok (.ifCond .ne 6, 3) := by decide +kernel
theorem dX11_reach_8 : decode cX11_reach 8 = .ok (.bipush (-2), 2) := by decide +kernel
theorem dX11_reach_10 : decode cX11_reach 10 = .ok (.ireturn, 1) := by decide +kernel
theorem dX11_reach_11 : decode cX11_reach 11 = .ok (.iload_n 2, 1) := by decide +kernel
theorem dX11_reach_12 : decode cX11_reach 12 = .ok (.ifCond .lt 9, 3) := by decide +kernel
theorem dX11_reach_15 : decode cX11_reach 15 = .ok (.iload_n 2, 1) := by decide +kernel
theorem dX11_reach_16 : decode cX11_reach 16 = .ok (.bipush 120, 2) := by decide +kernel
theorem dX11_reach_18 : decode cX11_reach 18 = .ok (.if_icmp .le 6, 3) := by decide +kernel
theorem dX11_reach_21 : decode cX11_reach 21 = .ok (.bipush (-3), 2) := by decide +kernel
theorem dX11_reach_23 : decode cX11_reach 23 = .ok (.ireturn, 1) := by decide +kernel
theorem dX11_reach_24 : decode cX11_reach 24 = .ok (.aload_n 0, 1) := by decide +kernel
theorem dX11_reach_25 : decode cX11_reach 25 = .ok (.getfield 65, 3) := by decide +kernel
theorem dX11_reach_28 : decode cX11_reach 28 = .ok (.aload_n 0, 1) := by decide +kernel
theorem dX11_reach_29 : decode cX11_reach 29 = .ok (.getfield 27, 3) := by decide +kernel
theorem dX11_reach_32 : decode cX11_reach 32 = .ok (.getfield 145, 3) := by decide +kernel
theorem dX11_reach_35 : decode cX11_reach 35 = .ok (.iload_n 1, 1) := by decide +kernel
theorem dX11_reach_36 : decode cX11_reach 36 = .ok (.invokevirtual 249, 3) := by decide +kernel
theorem dX11_reach_39 : decode cX11_reach 39 = .ok (.iload_n 2, 1) := by decide +kernel
theorem dX11_reach_40 : decode cX11_reach 40 = .ok (.invokevirtual 278, 3) := by decide +kernel
theorem dX11_reach_43 : decode cX11_reach 43 = .ok (.ireturn, 1) := by decide +kernel
theorem dX11_restore_0 : decode cX11_restore 0 = .ok (.iload_n 1, 1) := by decide +kernel
theorem dX11_restore_1 : decode cX11_restore 1 = .ok (.ifCond .lt 8, 3) := by decide +kernel
theorem dX11_restore_4 : decode cX11_restore 4 = .ok (.iload_n 1, 1) := by decide +kernel
theorem dX11_restore_5 : decode cX11_restore 5 = .ok (.iconst 2, 1) := by decide +kernel
theorem dX11_restore_6 : decode cX11_restore 6 = .ok (.if_icmp .lt 6, 3) := by decide +kernel
theorem dX11_restore_9 : decode cX11_restore 9 = .ok (.bipush (-2), 2) := by decide +kernel
theorem dX11_restore_11 : decode cX11_restore 11 = .ok (.ireturn, 1) := by decide +kernel
theorem dX11_restore_12 : decode cX11_restore 12 = .ok (.aload_n 0, 1) := by decide +kernel
theorem dX11_restore_13 : decode cX11_restore 13 = .ok (.getfield 87, 3) := by decide +kernel
theorem dX11_restore_16 : decode cX11_restore 16 = .ok (.iload_n 1, 1) := by decide +kernel
theorem dX11_restore_17 : decode cX11_restore 17 = .ok (.baload, 1) := by decide +kernel
theorem dX11_restore_18 : decode cX11_restore 18 = .ok (.ifCond .ne 6, 3) := by decide +kernel
theorem dX11_restore_21 : decode cX11_restore 21 = .ok (.bipush (-5), 2) := by decide +kernel
theorem dX11_restore_23 : decode cX11_restore 23 = .ok (.ireturn, 1) := by decide +kernel
theorem dX11_restore_24 : decode cX11_restore 24 = .ok (.aload_n 0, 1) := by decide +kernel
theorem dX11_restore_25 : decode cX11_restore 25 = .ok (.getfield 27, 3) := by decide +kernel
theorem dX11_restore_28 : decode cX11_restore 28 = .ok (.aload_n 0, 1) := by decide +kernel
theorem dX11_restore_29 : decode cX11_restore 29 = .ok (.getfield 83, 3) := by decide +kernel
theorem dX11_restore_32 : decode cX11_restore 32 = .ok (.iload_n 1, 1) := by decide +kernel
theorem dX11_restore_33 : decode cX11_restore 33 = .ok (.aaload, 1) := by decide +kernel
theorem dX11_restore_34 : decode cX11_restore 34 = .ok (.invokevirtual 125, 3) := by decide +kernel
theorem dX11_restore_37 : decode cX11_restore 37 = .ok (.aload_n 0, 1) := by decide +kernel
theorem dX11_restore_38 : decode cX11_restore 38 = .ok (.invokevirtual 128, 3) := by decide +kernel
theorem dX11_restore_41 : decode cX11_restore 41 = .ok (.iconst 0, 1) := by decide +kernel
theorem dX11_restore_42 : decode cX11_restore 42 = .ok (.ireturn, 1) := by decide +kernel
theorem dX11_round_0 : decode cX11_round 0 = .ok (.aload_n 0, 1) := by decide +kernel
theorem dX11_round_1 : decode cX11_round 1 = .ok (.iload_n 1, 1) := by decide +kernel
theorem dX11_round_2 : decode cX11_round 2 = .ok (.invokevirtual 141, 3) := by decide +kernel
theorem dX11_round_5 : decode cX11_round 5 = .ok (.ifCond .eq 25, 3) := by decide +kernel
theorem dX11_round_8 : decode cX11_round 8 = .ok (.iload_n 2, 1) := by decide +kernel
theorem dX11_round_9 : decode cX11_round 9 = .ok (.invokestatic 211, 3) := by decide +kernel
theorem dX11_round_12 : decode cX11_round 12 = .ok (.ifCond .eq 18, 3) := by decide +kernel
theorem dX11_round_15 : decode cX11_round 15 = .ok (.iload_n 3, 1) := by decide +kernel
theorem dX11_round_16 : decode cX11_round 16 = .ok (.ifCond .lt 14, 3) := by decide +kernel
theorem dX11_round_19 : decode cX11_round 19 = .ok (.iload_n 3, 1) := by decide +kernel
theorem dX11_round_20 : decode cX11_round 20 = .ok (.iconst 1, 1) := by decide +kernel
theorem dX11_round_21 : decode cX11_round 21 = .ok (.if_icmp .le 12, 3) := by decide +kernel
theorem dX11_round_24 : decode cX11_round 24 = .ok (.iload_n 3, 1) := by decide +kernel
theorem dX11_round_25 : decode cX11_round 25 = .ok (.bipush 10, 2) := by decide +kernel
theorem dX11_round_27 : decode cX11_round 27 = .ok (.if_icmp .ge 6, 3) := by decide +kernel
theorem dX11_round_30 : decode cX11_round 30 = .ok (.bipush (-2), 2) := by decide +kernel
theorem dX11_round_32 : decode cX11_round 32 = .ok (.ireturn, 1) := by decide +kernel
theorem dX11_round_33 : decode cX11_round 33 = .ok (.aload_n 0, 1) := by decide +kernel
theorem dX11_round_34 : decode cX11_round 34 = .ok (.getfield 78, 3) := by decide +kernel
theorem dX11_round_37 : decode cX11_round 37 = .ok (.iload_n 2, 1) := by decide +kernel
theorem dX11_round_38 : decode cX11_round 38 = .ok (.aaload, 1) := by decide +kernel
theorem dX11_round_39 : decode cX11_round 39 = .ok (.astore 4, 2) := by decide +kernel
theorem dX11_round_41 : decode cX11_round 41 = .ok (.aload 4, 2) := by decide +kernel
theorem dX11_round_43 : decode cX11_round 43 = .ok (.getfield 214, 3) := by decide +kernel
theorem dX11_round_46 : decode cX11_round 46 = .ok (.ifCond .ge 6, 3) := by decide +kernel
theorem dX11_round_49 : decode cX11_round 49 = .ok (.bipush (-6), 2) := by decide +kernel
theorem dX11_round_51 : decode cX11_round 51 = .ok (.ireturn, 1) := by decide +kernel
theorem dX11_round_52 : decode cX11_round 52 = .ok (.aload 4, 2) := by decide +kernel
theorem dX11_round_54 : decode cX11_round 54 = .ok (.getfield 214, 3) := by decide +kernel
theorem dX11_round_57 : decode cX11_round 57 = .ok (.iconst 1, 1) := by decide +kernel
theorem dX11_round_58 : decode cX11_round 58 = .ok (.if_icmp .lt 12, 3) := by decide +kernel
theorem dX11_round_61 : decode cX11_round 61 = .ok (.aload 4, 2) := by decide +kernel
theorem dX11_round_63 : decode cX11_round 63 = .ok (.getfield 214, 3) := by decide +kernel
theorem dX11_round_66 : decode cX11_round 66 = .ok (.iconst 4, 1) := by decide +kernel
theorem dX11_round_67 : decode cX11_round 67 = .ok (.if_icmp .le 6, 3) := by decide +kernel
theorem dX11_round_70 : decode cX11_round 70 = .ok (.bipush (-4), 2) := by decide +kernel
theorem dX11_round_72 : decode cX11_round 72 = .ok (.ireturn, 1) := by decide +kernel
theorem dX11_round_73 : decode cX11_round 73 = .ok (.aload 4, 2) := by decide +kernel
theorem dX11_round_75 : decode cX11_round 75 = .ok (.aload_n 0, 1) := by decide +kernel
theorem dX11_round_76 : decode cX11_round 76 = .ok (.getfield 27, 3) := by decide +kernel
theorem dX11_round_79 : decode cX11_round 79 = .ok (.invokevirtual 287, 3) := by decide +kernel
theorem dX11_round_82 : decode cX11_round 82 = .ok (.invokevirtual 290, 3) := by decide +kernel
theorem dX11_round_85 : decode cX11_round 85 = .ok (.ifCond .ne 6, 3) := by decide +kernel
theorem dX11_round_88 : decode cX11_round 88 = .ok (.bipush (-3), 2) := by decide +kernel
theorem dX11_round_90 : decode cX11_round 90 = .ok (.ireturn, 1) := by decide +kernel
theorem dX11_round_91 : decode cX11_round 91 = .ok (.aload_n 0, 1) := by decide +kernel
theorem dX11_round_92 : decode cX11_round 92 = .ok (.getfield 54, 3) := by decide +kernel
theorem dX11_round_95 : decode cX11_round 95 = .ok (.aload 4, 2) := by decide +kernel
theorem dX11_round_97 : decode cX11_round 97 = .ok (.invokevirtual 293, 3) := by decide +kernel
theorem dX11_round_100 : decode cX11_round 100 = .ok (.aload_n 0, 1) := by decide +kernel
theorem dX11_round_101 : decode cX11_round 101 = .ok (.getfield 54, 3) := by decide +kernel
theorem dX11_round_104 : decode cX11_round 104 = .ok (.iconst 0, 1) := by decide +kernel
theorem dX11_round_105 : decode cX11_round 105 = .ok (.aload_n 0, 1) := by decide +kernel
theorem dX11_round_106 : decode cX11_round 106 = .ok (.getfield 27, 3) := by decide +kernel
theorem dX11_round_109 : decode cX11_round 109 = .ok (.getfield 145, 3) := by decide +kernel
theorem dX11_round_112 : decode cX11_round 112 = .ok (.iload_n 1, 1) := by decide +kernel
theorem dX11_round_113 : decode cX11_round 113 = .ok (.invokevirtual 249, 3) := by decide +kernel
theorem dX11_round_116 : decode cX11_round 116 = .ok (.iconst 0, 1) := by decide +kernel
theorem dX11_round_117 : decode cX11_round 117 = .ok (.iconst 0, 1) := by decide +kernel
theorem dX11_round_118 : decode cX11_round 118 = .ok (.invokevirtual 297, 3) := by decide +kernel
theorem dX11_round_121 : decode cX11_round 121 = .ok (.aload_n 0, 1) := by decide +kernel
theorem dX11_round_122 : decode cX11_round 122 = .ok (.getfield 54, 3) := by decide +kernel
theorem dX11_round_125 : decode cX11_round 125 = .ok (.iload_n 3, 1) := by decide +kernel
theorem dX11_round_126 : decode cX11_round 126 = .ok (.invokevirtual 301, 3) := by decide +kernel
theorem dX11_round_129 : decode cX11_round 129 = .ok (.ireturn, 1) := by decide +kernel
theorem dX11_turn_0 : decode cX11_turn 0 = .ok (.aload_n 0, 1) := by decide +kernel
theorem dX11_turn_1 : decode cX11_turn 1 = .ok (.iload_n 1, 1) := by decide +kernel
theorem dX11_turn_2 : decode cX11_turn 2 = .ok (.invokevirtual 141, 3) := by decide +kernel
theorem dX11_turn_5 : decode cX11_turn 5 = .ok (.ifCond .eq 11, 3) := by decide +kernel
theorem dX11_turn_8 : decode cX11_turn 8 = .ok (.aload_n 0, 1) := by decide +kernel
theorem dX11_turn_9 : decode cX11_turn 9 = .ok (.iload_n 2, 1) := by decide +kernel
theorem dX11_turn_10 : decode cX11_turn 10 = .ok (.invokevirtual 171, 3) := by decide +kernel
theorem dX11_turn_13 : decode cX11_turn 13 = .ok (.ifCond .ne 6, 3) := by decide +kernel
theorem dX11_turn_16 : decode cX11_turn 16 = .ok (.bipush (-2), 2) := by decide +kernel
theorem dX11_turn_18 : decode cX11_turn 18 = .ok (.ireturn, 1) := by decide +kernel
theorem dX11_turn_19 : decode cX11_turn 19 = .ok (.iload_n 3, 1) := by decide +kernel
theorem dX11_turn_20 : decode cX11_turn 20 = .ok (.ifCond .lt 14, 3) := by decide +kernel
theorem dX11_turn_23 : decode cX11_turn 23 = .ok (.iload_n 3, 1) := by decide +kernel
theorem dX11_turn_24 : decode cX11_turn 24 = .ok (.bipush 120, 2) := by decide +kernel
theorem dX11_turn_26 : decode cX11_turn 26 = .ok (.if_icmp .gt 8, 3) := by decide +kernel
theorem dX11_turn_29 : decode cX11_turn 29 = .ok (.iload 4, 2) := by decide +kernel
theorem dX11_turn_31 : decode cX11_turn 31 = .ok (.ifCond .ge 6, 3) := by decide +kernel
theorem dX11_turn_34 : decode cX11_turn 34 = .ok (.bipush (-3), 2) := by decide +kernel
theorem dX11_turn_36 : decode cX11_turn 36 = .ok (.ireturn, 1) := by decide +kernel
theorem dX11_turn_37 : decode cX11_turn 37 = .ok (.aload_n 0, 1) := by decide +kernel
theorem dX11_turn_38 : decode cX11_turn 38 = .ok (.getfield 45, 3) := by decide +kernel
theorem dX11_turn_41 : decode cX11_turn 41 = .ok (.aload_n 0, 1) := by decide +kernel
theorem dX11_turn_42 : decode cX11_turn 42 = .ok (.getfield 27, 3) := by decide +kernel
theorem dX11_turn_45 : decode cX11_turn 45 = .ok (.getfield 145, 3) := by decide +kernel
theorem dX11_turn_48 : decode cX11_turn 48 = .ok (.iload_n 1, 1) := by decide +kernel
theorem dX11_turn_49 : decode cX11_turn 49 = .ok (.invokevirtual 249, 3) := by decide +kernel
theorem dX11_turn_52 : decode cX11_turn 52 = .ok (.iload_n 2, 1) := by decide +kernel
theorem dX11_turn_53 : decode cX11_turn 53 = .ok (.iload_n 3, 1) := by decide +kernel
theorem dX11_turn_54 : decode cX11_turn 54 = .ok (.invokevirtual 256, 3) := by decide +kernel
theorem dX11_turn_57 : decode cX11_turn 57 = .ok (.ifCond .ne 5, 3) := by decide +kernel
theorem dX11_turn_60 : decode cX11_turn 60 = .ok (.iconst (-1), 1) := by decide +kernel
theorem dX11_turn_61 : decode cX11_turn 61 = .ok (.ireturn, 1) := by decide +kernel
theorem dX11_turn_62 : decode cX11_turn 62 = .ok (.aload_n 0, 1) := by decide +kernel
theorem dX11_turn_63 : decode cX11_turn 63 = .ok (.getfield 45, 3) := by decide +kernel
theorem dX11_turn_66 : decode cX11_turn 66 = .ok (.iload 4, 2) := by decide +kernel
theorem dX11_turn_68 : decode cX11_turn 68 = .ok (.invokevirtual 260, 3) := by decide +kernel
theorem dX11_turn_71 : decode cX11_turn 71 = .ok (.ireturn, 1) := by decide +kernel
theorem dX11_way_0 : decode cX11_way 0 = .ok (.aload_n 0, 1) := by decide +kernel
theorem dX11_way_1 : decode cX11_way 1 = .ok (.iload_n 1, 1) := by decide +kernel
theorem dX11_way_2 : decode cX11_way 2 = .ok (.invokevirtual 141, 3) := by decide +kernel
theorem dX11_way_5 : decode cX11_way 5 = .ok (.ifCond .eq 11, 3) := by decide +kernel
theorem dX11_way_8 : decode cX11_way 8 = .ok (.aload_n 0, 1) := by decide +kernel
theorem dX11_way_9 : decode cX11_way 9 = .ok (.iload_n 2, 1) := by decide +kernel
theorem dX11_way_10 : decode cX11_way 10 = .ok (.invokevirtual 171, 3) := by decide +kernel
theorem dX11_way_13 : decode cX11_way 13 = .ok (.ifCond .ne 6, 3) := by decide +kernel
theorem dX11_way_16 : decode cX11_way 16 = .ok (.bipush (-2), 2) := by decide +kernel
theorem dX11_way_18 : decode cX11_way 18 = .ok (.ireturn, 1) := by decide +kernel
theorem dX11_way_19 : decode cX11_way 19 = .ok (.iload_n 3, 1) := by decide +kernel
theorem dX11_way_20 : decode cX11_way 20 = .ok (.ifCond .lt 9, 3) := by decide +kernel
theorem dX11_way_23 : decode cX11_way 23 = .ok (.iload_n 3, 1) := by decide +kernel
theorem dX11_way_24 : decode cX11_way 24 = .ok (.bipush 120, 2) := by decide +kernel
theorem dX11_way_26 : decode cX11_way 26 = .ok (.if_icmp .le 6, 3) := by decide +kernel
theorem dX11_way_29 : decode cX11_way 29 = .ok (.bipush (-3), 2) := by decide +kernel
theorem dX11_way_31 : decode cX11_way 31 = .ok (.ireturn, 1) := by decide +kernel
theorem dX11_way_32 : decode cX11_way 32 = .ok (.aload_n 0, 1) := by decide +kernel
theorem dX11_way_33 : decode cX11_way 33 = .ok (.getfield 65, 3) := by decide +kernel
theorem dX11_way_36 : decode cX11_way 36 = .ok (.aload_n 0, 1) := by decide +kernel
theorem dX11_way_37 : decode cX11_way 37 = .ok (.getfield 27, 3) := by decide +kernel
theorem dX11_way_40 : decode cX11_way 40 = .ok (.getfield 145, 3) := by decide +kernel
theorem dX11_way_43 : decode cX11_way 43 = .ok (.iload_n 1, 1) := by decide +kernel
theorem dX11_way_44 : decode cX11_way 44 = .ok (.invokevirtual 249, 3) := by decide +kernel
theorem dX11_way_47 : decode cX11_way 47 = .ok (.iload_n 2, 1) := by decide +kernel
theorem dX11_way_48 : decode cX11_way 48 = .ok (.iload_n 3, 1) := by decide +kernel
theorem dX11_way_49 : decode cX11_way 49 = .ok (.bipush 60, 2) := by decide +kernel
theorem dX11_way_51 : decode cX11_way 51 = .ok (.iconst 0, 1) := by decide +kernel
theorem dX11_way_52 : decode cX11_way 52 = .ok (.invokevirtual 252, 3) := by decide +kernel
theorem dX11_way_55 : decode cX11_way 55 = .ok (.ireturn, 1) := by decide +kernel
theorem dX11_ways_0 : decode cX11_ways 0 = .ok (.aload_n 0, 1) := by decide +kernel
theorem dX11_ways_1 : decode cX11_ways 1 = .ok (.iload_n 1, 1) := by decide +kernel
theorem dX11_ways_2 : decode cX11_ways 2 = .ok (.invokevirtual 141, 3) := by decide +kernel
theorem dX11_ways_5 : decode cX11_ways 5 = .ok (.ifCond .eq 11, 3) := by decide +kernel
theorem dX11_ways_8 : decode cX11_ways 8 = .ok (.aload_n 0, 1) := by decide +kernel
theorem dX11_ways_9 : decode cX11_ways 9 = .ok (.iload_n 2, 1) := by decide +kernel
theorem dX11_ways_10 : decode cX11_ways 10 = .ok (.invokevirtual 171, 3) := by decide +kernel
theorem dX11_ways_13 : decode cX11_ways 13 = .ok (.ifCond .ne 7, 3) := by decide +kernel
theorem dX11_ways_16 : decode cX11_ways 16 = .ok (.ldc2_w 270, 3) := by decide +kernel
theorem dX11_ways_19 : decode cX11_ways 19 = .ok (.lreturn, 1) := by decide +kernel
theorem dX11_ways_20 : decode cX11_ways 20 = .ok (.iload_n 3, 1) := by decide +kernel
theorem dX11_ways_21 : decode cX11_ways 21 = .ok (.ifCond .lt 21, 3) := by decide +kernel
theorem dX11_ways_24 : decode cX11_ways 24 = .ok (.iload_n 3, 1) := by decide +kernel
theorem dX11_ways_25 : decode cX11_ways 25 = .ok (.bipush 20, 2) := by decide +kernel
theorem dX11_ways_27 : decode cX11_ways 27 = .ok (.if_icmp .gt 15, 3) := by decide +kernel
theorem dX11_ways_30 : decode cX11_ways 30 = .ok (.iload 4, 2) := by decide +kernel
theorem dX11_ways_32 : decode cX11_ways 32 = .ok (.ifCond .lt 10, 3) := by decide +kernel
theorem dX11_ways_35 : decode cX11_ways 35 = .ok (.iload 4, 2) := by decide +kernel
theorem dX11_ways_37 : decode cX11_ways 37 = .ok (.bipush 40, 2) := by decide +kernel
theorem dX11_ways_39 : decode cX11_ways 39 = .ok (.if_icmp .le 7, 3) := by decide +kernel
theorem dX11_ways_42 : decode cX11_ways 42 = .ok (.ldc2_w 272, 3) := by decide +kernel
theorem dX11_ways_45 : decode cX11_ways 45 = .ok (.lreturn, 1) := by decide +kernel
theorem dX11_ways_46 : decode cX11_ways 46 = .ok (.aload_n 0, 1) := by decide +kernel
theorem dX11_ways_47 : decode cX11_ways 47 = .ok (.getfield 61, 3) := by decide +kernel
theorem dX11_ways_50 : decode cX11_ways 50 = .ok (.aload_n 0, 1) := by decide +kernel
theorem dX11_ways_51 : decode cX11_ways 51 = .ok (.getfield 27, 3) := by decide +kernel
theorem dX11_ways_54 : decode cX11_ways 54 = .ok (.getfield 145, 3) := by decide +kernel
theorem dX11_ways_57 : decode cX11_ways 57 = .ok (.iload_n 1, 1) := by decide +kernel
theorem dX11_ways_58 : decode cX11_ways 58 = .ok (.invokevirtual 249, 3) := by decide +kernel
theorem dX11_ways_61 : decode cX11_ways 61 = .ok (.iload_n 2, 1) := by decide +kernel
theorem dX11_ways_62 : decode cX11_ways 62 = .ok (.iload_n 3, 1) := by decide +kernel
theorem dX11_ways_63 : decode cX11_ways 63 = .ok (.iload 4, 2) := by decide +kernel
theorem dX11_ways_65 : decode cX11_ways 65 = .ok (.invokevirtual 274, 3) := by decide +kernel
theorem dX11_ways_68 : decode cX11_ways 68 = .ok (.lreturn, 1) := by decide +kernel
theorem dX11_write_0 : decode cX11_write 0 = .ok (.iload_n 1, 1) := by decide +kernel
theorem dX11_write_1 : decode cX11_write 1 = .ok (.invokestatic 211, 3) := by decide +kernel
theorem dX11_write_4 : decode cX11_write 4 = .ok (.ifCond .ne 7, 3) := by decide +kernel
theorem dX11_write_7 : decode cX11_write 7 = .ok (.ldc2_w 270, 3) := by decide +kernel
theorem dX11_write_10 : decode cX11_write 10 = .ok (.lreturn, 1) := by decide +kernel
theorem dX11_write_11 : decode cX11_write 11 = .ok (.aload_n 0, 1) := by decide +kernel
theorem dX11_write_12 : decode cX11_write 12 = .ok (.getfield 78, 3) := by decide +kernel
theorem dX11_write_15 : decode cX11_write 15 = .ok (.iload_n 1, 1) := by decide +kernel
theorem dX11_write_16 : decode cX11_write 16 = .ok (.aaload, 1) := by decide +kernel
theorem dX11_write_17 : decode cX11_write 17 = .ok (.astore 5, 2) := by decide +kernel
theorem dX11_write_19 : decode cX11_write 19 = .ok (.aload 5, 2) := by decide +kernel
theorem dX11_write_21 : decode cX11_write 21 = .ok (.getfield 214, 3) := by decide +kernel
theorem dX11_write_24 : decode cX11_write 24 = .ok (.ifCond .ge 7, 3) := by decide +kernel
theorem dX11_write_27 : decode cX11_write 27 = .ok (.ldc2_w 318, 3) := by decide +kernel
theorem dX11_write_30 : decode cX11_write 30 = .ok (.lreturn, 1) := by decide +kernel
theorem dX11_write_31 : decode cX11_write 31 = .ok (.iload_n 2, 1) := by decide +kernel
theorem dX11_write_32 : decode cX11_write 32 = .ok (.ifCond .lt 12, 3) := by decide +kernel
theorem dX11_write_35 : decode cX11_write 35 = .ok (.iload_n 2, 1) := by decide +kernel
theorem dX11_write_36 : decode cX11_write 36 = .ok (.aload 5, 2) := by decide +kernel
theorem dX11_write_38 : decode cX11_write 38 = .ok (.getfield 214, 3) := by decide +kernel
theorem dX11_write_41 : decode cX11_write 41 = .ok (.if_icmp .lt 7, 3) := by decide +kernel
theorem dX11_write_44 : decode cX11_write 44 = .ok (.ldc2_w 320, 3) := by decide +kernel
theorem dX11_write_47 : decode cX11_write 47 = .ok (.lreturn, 1) := by decide +kernel
theorem dX11_write_48 : decode cX11_write 48 = .ok (.aload 5, 2) := by decide +kernel
theorem dX11_write_50 : decode cX11_write 50 = .ok (.iload_n 2, 1) := by decide +kernel
theorem dX11_write_51 : decode cX11_write 51 = .ok (.lload_n 3, 1) := by decide +kernel
theorem dX11_write_52 : decode cX11_write 52 = .ok (.invokevirtual 322, 3) := by decide +kernel
theorem dX11_write_55 : decode cX11_write 55 = .ok (.lreturn, 1) := by decide +kernel
theorem o28_1 {x0 : Int} (h0 : x0 = (-2)) : (-3) ≤ x0 := by omega
theorem o28_2 {x0 : Int} (h0 : x0 = (-2)) : x0 ≤ 60 := by omega
theorem o28_3 {x0 : Int} (h0 : x0 = (-3)) : (-3) ≤ x0 := by omega
theorem o28_4 {x0 : Int} (h0 : x0 = (-3)) : x0 ≤ 60 := by omega
theorem o28_5 {x0 : Int} (h0 : x0 = 120) : x0 = 120 := by omega
theorem o28_6 {x0 x1 : Int} (h0 : 0 ≤ x0) (h1 : x1 = 120) (h2 : x0 ≤ x1) : ¬ 120 < x0 := by omega
theorem o28_7 {x0 x1 : Int} (h0 : 0 ≤ x0) (h1 : x1 = 120) (h2 : x1 < x0) : 120 < x0 := by omega
theorem o28_8 {x0 x1 : Int} (h0 : 0 ≤ x1) (h1 : x1 ≤ 1) (h2 : (x1 = 0 ∨ (0 ≤ x0 ∧ x0 ≤ 4))) (h3 : ¬ x1 = 0) : 0 ≤ x0 := by omega
theorem o28_9 {x0 x1 : Int} (h0 : 0 ≤ x1) (h1 : x1 ≤ 1) (h2 : (x1 = 0 ∨ (0 ≤ x0 ∧ x0 ≤ 4))) (h3 : ¬ x1 = 0) : x0 ≤ 4 := by omega
theorem o28_10 {x0 : Int} (h0 : 0 ≤ x0) (h1 : x0 ≤ 99) : 0 ≤ x0 := by omega
theorem o28_11 {x0 : Int} (h0 : 0 ≤ x0) (h1 : x0 ≤ 99) : x0 ≤ 99 := by omega
theorem o28_12 {x0 x1 : Int} (h0 : 0 ≤ x0) (h1 : x1 = 120) (h2 : x0 ≤ x1) : 0 ≤ x0 := by omega
theorem o28_13 {x0 x1 : Int} (h0 : 0 ≤ x0) (h1 : x1 = 120) (h2 : x0 ≤ x1) : x0 ≤ 120 := by omega
theorem o28_14 {x0 : Int} (h0 : x0 = 60) : 0 ≤ x0 := by omega
theorem o28_15 {x0 : Int} (h0 : x0 = 60) : x0 ≤ 60 := by omega
theorem o28_16 {x0 : Int} (h0 : (-1) ≤ x0) (h1 : x0 ≤ 60) : (-3) ≤ x0 := by omega
theorem o28_17 {x0 : Int} (h0 : (-1) ≤ x0) (h1 : x0 ≤ 60) : x0 ≤ 60 := by omega
theorem o28_18 {x0 : Int} (h0 : x0 = (-2)) : x0 ≤ 120 := by omega
theorem o28_19 {x0 : Int} (h0 : x0 = (-3)) : x0 ≤ 120 := by omega
theorem o28_20 {x0 : Int} (h0 : x0 = 60) : x0 = 60 := by omega
theorem o28_21 {x0 x1 : Int} (h0 : 0 ≤ x0) (h1 : x1 = 60) (h2 : x0 ≤ x1) : ¬ 60 < x0 := by omega
theorem o28_22 {x0 x1 : Int} (h0 : 0 ≤ x0) (h1 : x1 = 60) (h2 : x1 < x0) : 60 < x0 := by omega
theorem o28_23 {x0 : Int} (h0 : x0 = 0) : 0 ≤ x0 := by omega
theorem o28_24 {x0 : Int} (h0 : x0 = 0) : x0 ≤ 180 := by omega
theorem o28_25 {x0 x1 : Int} (h0 : 0 ≤ x0) (h1 : x1 = 60) (h2 : x0 ≤ x1) : 0 ≤ x0 := by omega
theorem o28_26 {x0 x1 : Int} (h0 : 0 ≤ x0) (h1 : x1 = 60) (h2 : x0 ≤ x1) : x0 ≤ 60 := by omega
theorem o28_27 {x0 : Int} (h0 : (-1) ≤ x0) (h1 : x0 ≤ 120) : (-3) ≤ x0 := by omega
theorem o28_28 {x0 : Int} (h0 : (-1) ≤ x0) (h1 : x0 ≤ 120) : x0 ≤ 120 := by omega
theorem o28_29 {x0 : Int} (h0 : x0 = (-2)) : x0 ≤ 1073741823 := by omega
theorem o28_30 {x0 : Int} (h0 : x0 = (-3)) : x0 ≤ 1073741823 := by omega
theorem o28_31 {x0 x1 : Int} (h0 : 0 ≤ x1) (h1 : x1 ≤ 1) (h2 : (x1 = 0 ∨ (0 ≤ x0 ∧ x0 ≤ 24))) (h3 : ¬ x1 = 0) : 0 ≤ x0 := by omega
theorem o28_32 {x0 x1 : Int} (h0 : 0 ≤ x1) (h1 : x1 ≤ 1) (h2 : (x1 = 0 ∨ (0 ≤ x0 ∧ x0 ≤ 24))) (h3 : ¬ x1 = 0) : x0 ≤ 24 := by omega
theorem o28_33 {x0 : Int} (h0 : x0 ≤ 1073741823) : x0 ≤ 1073741823 := by omega
theorem o28_34 {x0 : Int} (h0 : x0 = 20) : x0 = 20 := by omega
theorem o28_35 {x0 x1 : Int} (h0 : 0 ≤ x0) (h1 : x1 = 20) (h2 : x1 < x0) : 20 < x0 := by omega
theorem o28_36 {x0 x1 : Int} (h0 : 0 ≤ x0) (h1 : x1 = 20) (h2 : x0 ≤ x1) : ¬ 20 < x0 := by omega
theorem o28_37 {x0 : Int} (h0 : x0 = 40) : x0 = 40 := by omega
theorem o28_38 {x0 x1 : Int} (h0 : 0 ≤ x0) (h1 : x1 = 40) (h2 : x0 ≤ x1) : ¬ 40 < x0 := by omega
theorem o28_39 {x0 x1 : Int} (h0 : 0 ≤ x0) (h1 : x1 = 40) (h2 : x1 < x0) : 40 < x0 := by omega
theorem o28_40 {x0 x1 : Int} (h0 : 0 ≤ x0) (h1 : x1 = 20) (h2 : x0 ≤ x1) : 0 ≤ x0 := by omega
theorem o28_41 {x0 x1 : Int} (h0 : 0 ≤ x0) (h1 : x1 = 20) (h2 : x0 ≤ x1) : x0 ≤ 20 := by omega
theorem o28_42 {x0 x1 : Int} (h0 : 0 ≤ x0) (h1 : x1 = 40) (h2 : x0 ≤ x1) : 0 ≤ x0 := by omega
theorem o28_43 {x0 x1 : Int} (h0 : 0 ≤ x0) (h1 : x1 = 40) (h2 : x0 ≤ x1) : x0 ≤ 40 := by omega
theorem o28_44 {x0 : Int} (h0 : 0 ≤ x0) (h1 : x0 ≤ 120) : (-2) ≤ x0 := by omega
theorem o28_45 {x0 : Int} (h0 : 0 ≤ x0) (h1 : x0 ≤ 120) : x0 ≤ 120 := by omega
theorem o28_46 {x0 : Int} (h0 : x0 = (-2)) : (-2) ≤ x0 := by omega
theorem o28_47 {x0 : Int} (h0 : x0 = 4) : x0 = 4 := by omega
theorem o28_48 {x0 x1 x2 : Int} (h0 : 0 ≤ x1) (h1 : x1 ≤ 1) (h2 : (x1 = 0 ∨ (0 ≤ x0 ∧ x0 ≤ 24 ∧ 0 ≤ x2 ∧ x2 ≤ 3))) (h3 : ¬ x1 = 0) (h4 : -2147483648 ≤ x0) (h5 : x0 ≤ 2147483647) (h6 : -2147483648 ≤ x1) (h7 : x1 ≤ 2147483647) (h8 : -2147483648 ≤ x2) (h9 : x2 ≤ 2147483647) : -2147483648 ≤ 4 * x0 := by omega
theorem o28_49 {x0 x1 x2 : Int} (h0 : 0 ≤ x1) (h1 : x1 ≤ 1) (h2 : (x1 = 0 ∨ (0 ≤ x0 ∧ x0 ≤ 24 ∧ 0 ≤ x2 ∧ x2 ≤ 3))) (h3 : ¬ x1 = 0) (h4 : -2147483648 ≤ x0) (h5 : x0 ≤ 2147483647) (h6 : -2147483648 ≤ x1) (h7 : x1 ≤ 2147483647) (h8 : -2147483648 ≤ x2) (h9 : x2 ≤ 2147483647) : 4 * x0 ≤ 2147483647 := by omega
theorem o28_50 {x0 x1 x2 x3 : Int} (h0 : 0 ≤ x2) (h1 : x2 ≤ 1) (h2 : (x2 = 0 ∨ (0 ≤ x3 ∧ x3 ≤ 24 ∧ 0 ≤ x1 ∧ x1 ≤ 3))) (h3 : ¬ x2 = 0) (h4 : x0 = 4 * x3) (h5 : -2147483648 ≤ x0) (h6 : x0 ≤ 2147483647) (h7 : -2147483648 ≤ x1) (h8 : x1 ≤ 2147483647) (h9 : -2147483648 ≤ x2) (h10 : x2 ≤ 2147483647) (h11 : -2147483648 ≤ x3) (h12 : x3 ≤ 2147483647) : -2147483648 ≤ x0 + x1 := by omega
theorem o28_51 {x0 x1 x2 x3 : Int} (h0 : 0 ≤ x2) (h1 : x2 ≤ 1) (h2 : (x2 = 0 ∨ (0 ≤ x3 ∧ x3 ≤ 24 ∧ 0 ≤ x1 ∧ x1 ≤ 3))) (h3 : ¬ x2 = 0) (h4 : x0 = 4 * x3) (h5 : -2147483648 ≤ x0) (h6 : x0 ≤ 2147483647) (h7 : -2147483648 ≤ x1) (h8 : x1 ≤ 2147483647) (h9 : -2147483648 ≤ x2) (h10 : x2 ≤ 2147483647) (h11 : -2147483648 ≤ x3) (h12 : x3 ≤ 2147483647) : x0 + x1 ≤ 2147483647 := by omega
theorem o28_52 {x0 x1 x2 x3 x4 : Int} (h0 : 0 ≤ x1) (h1 : x1 ≤ 1) (h2 : (x1 = 0 ∨ (0 ≤ x2 ∧ x2 ≤ 24 ∧ 0 ≤ x3 ∧ x3 ≤ 3))) (h3 : ¬ x1 = 0) (h4 : x4 = 4 * x2) (h5 : x0 = x4 + x3) : 0 ≤ x0 := by omega
theorem o28_53 {x0 x1 x2 x3 x4 : Int} (h0 : 0 ≤ x1) (h1 : x1 ≤ 1) (h2 : (x1 = 0 ∨ (0 ≤ x2 ∧ x2 ≤ 24 ∧ 0 ≤ x3 ∧ x3 ≤ 3))) (h3 : ¬ x1 = 0) (h4 : x4 = 4 * x2) (h5 : x0 = x4 + x3) : x0 ≤ 99 := by omega
theorem o28_54 {x0 : Int} (h0 : (-1) ≤ x0) (h1 : x0 ≤ 60) : (-2) ≤ x0 := by omega
theorem o28_55 {x0 : Int} (h0 : x0 = 1) : x0 = 1 := by omega
theorem o28_56 {x0 x1 : Int} (h0 : 0 ≤ x0) (h1 : x1 = 1) (h2 : x0 ≤ x1) : ¬ 1 < x0 := by omega
theorem o28_57 {x0 x1 : Int} (h0 : 0 ≤ x0) (h1 : x1 = 1) (h2 : x1 < x0) : 1 < x0 := by omega
theorem o28_58 {x0 x1 : Int} (h0 : 0 ≤ x1) (h1 : x1 ≤ 1) (h2 : ((x1 = 0 ∧ (x0 < 0 ∨ 3 < x0)) ∨ (x1 = 1 ∧ 0 ≤ x0 ∧ x0 ≤ 3))) (h3 : ¬ x1 = 0) : 0 ≤ x0 := by omega
theorem o28_59 {x0 x1 : Int} (h0 : 0 ≤ x1) (h1 : x1 ≤ 1) (h2 : ((x1 = 0 ∧ (x0 < 0 ∨ 3 < x0)) ∨ (x1 = 1 ∧ 0 ≤ x0 ∧ x0 ≤ 3))) (h3 : ¬ x1 = 0) : x0 < (4 : Nat) := by omega
theorem o28_60 {x0 x1 : Int} (h0 : 0 ≤ x1) (h1 : x1 ≤ 1) (h2 : ((x1 = 0 ∧ (x0 < 0 ∨ 3 < x0)) ∨ (x1 = 1 ∧ 0 ≤ x0 ∧ x0 ≤ 3))) (h3 : ¬ x1 = 0) : (x0).toNat < 4 := by omega
theorem o28_61 {x0 x1 x2 : Int} (h0 : (-1) ≤ x1) (h1 : x1 ≤ 40) (h2 : 0 ≤ x1) (h3 : (-1) ≤ x0) (h4 : x0 ≤ 40) (h5 : x0 = x1) (h6 : x2 = 1) (h7 : x0 < x2) : x0 < 1 := by omega
theorem o28_62 {x0 x1 x2 : Int} (h0 : (-1) ≤ x1) (h1 : x1 ≤ 40) (h2 : 0 ≤ x1) (h3 : (-1) ≤ x0) (h4 : x0 ≤ 40) (h5 : x0 = x1) (h6 : x2 = 1) (h7 : x2 ≤ x0) : ¬ x0 < 1 := by omega
theorem o28_63 {x0 x1 x2 x3 x4 : Int} (h0 : (-1) ≤ x1) (h1 : x1 ≤ 40) (h2 : 0 ≤ x1) (h3 : (-1) ≤ x2) (h4 : x2 ≤ 40) (h5 : x2 = x1) (h6 : x3 = 1) (h7 : x3 ≤ x2) (h8 : (-1) ≤ x0) (h9 : x0 ≤ 40) (h10 : x0 = x1) (h11 : x4 = 4) (h12 : x0 ≤ x4) : ¬ 4 < x0 := by omega
theorem o28_64 {x0 x1 x2 x3 x4 : Int} (h0 : (-1) ≤ x1) (h1 : x1 ≤ 40) (h2 : 0 ≤ x1) (h3 : (-1) ≤ x2) (h4 : x2 ≤ 40) (h5 : x2 = x1) (h6 : x3 = 1) (h7 : x3 ≤ x2) (h8 : (-1) ≤ x0) (h9 : x0 ≤ 40) (h10 : x0 = x1) (h11 : x4 = 4) (h12 : x4 < x0) : 4 < x0 := by omega
theorem o28_65 {x0 x1 x2 x3 x4 : Int} (h0 : (-1) ≤ x0) (h1 : x0 ≤ 40) (h2 : 0 ≤ x0) (h3 : (-1) ≤ x1) (h4 : x1 ≤ 40) (h5 : x1 = x0) (h6 : x2 = 1) (h7 : x2 ≤ x1) (h8 : (-1) ≤ x3) (h9 : x3 ≤ 40) (h10 : x3 = x0) (h11 : x4 = 4) (h12 : x3 ≤ x4) : 0 ≤ x0 := by omega
theorem o28_66 {x0 x1 x2 x3 x4 : Int} (h0 : (-1) ≤ x0) (h1 : x0 ≤ 40) (h2 : 0 ≤ x0) (h3 : (-1) ≤ x1) (h4 : x1 ≤ 40) (h5 : x1 = x0) (h6 : x2 = 1) (h7 : x2 ≤ x1) (h8 : (-1) ≤ x3) (h9 : x3 ≤ 40) (h10 : x3 = x0) (h11 : x4 = 4) (h12 : x3 ≤ x4) : x0 ≤ 4 := by omega
theorem o28_67 {x0 : Int} (h0 : x0 = 0) : x0 ≤ 0 := by omega
theorem o28_68 {x0 : Int} (h0 : x0 = 0) : x0 = 0 := by omega
theorem o28_69 {x0 x1 : Int} (h0 : 0 ≤ x0) (h1 : x1 = 1) (h2 : x0 ≤ x1) : 0 ≤ x0 := by omega
theorem o28_70 {x0 : Int} (h0 : x0 = 10) : x0 = 10 := by omega
theorem o28_71 {x0 x1 x2 : Int} (h0 : 0 ≤ x0) (h1 : x1 = 1) (h2 : x1 < x0) (h3 : x2 = 10) (h4 : x2 ≤ x0) : ¬ x0 < 10 := by omega
theorem o28_72 {x0 x1 x2 : Int} (h0 : 0 ≤ x0) (h1 : x1 = 1) (h2 : x1 < x0) (h3 : x2 = 10) (h4 : x0 < x2) : x0 < 10 := by omega
theorem o28_73 {x0 x1 x2 : Int} (h0 : 0 ≤ x0) (h1 : x1 = 1) (h2 : x1 < x0) (h3 : x2 = 10) (h4 : x2 ≤ x0) : 0 ≤ x0 := by omega
theorem o28_74 {x0 x1 : Int} (h0 : 0 ≤ x0) (h1 : x1 = 20) (h2 : x0 ≤ x1) : x0 ≤ 30 := by omega
theorem o28_75 {x0 : Int} (h0 : 0 ≤ x0) : (-3) ≤ x0 := by omega
theorem o28_76 {x0 : Int} (h0 : 0 ≤ x0) (h1 : x0 ≤ 63) : (-3) ≤ x0 := by omega
theorem o28_77 {x0 : Int} (h0 : x0 = (-1)) : (-3) ≤ x0 := by omega
theorem o28_78 {x0 : Int} (h0 : x0 = (-2)) : x0 ≤ 24 := by omega
theorem o28_79 {x0 : Int} (h0 : x0 = (-3)) : x0 ≤ 24 := by omega
theorem o28_80 {x0 : Int} (h0 : x0 = 30) : x0 = 30 := by omega
theorem o28_81 {x0 x1 : Int} (h0 : 0 ≤ x0) (h1 : x1 = 30) (h2 : x0 ≤ x1) : ¬ 30 < x0 := by omega
theorem o28_82 {x0 x1 : Int} (h0 : 0 ≤ x0) (h1 : x1 = 30) (h2 : x1 < x0) : 30 < x0 := by omega
theorem o28_83 {x0 x1 : Int} (h0 : 0 ≤ x0) (h1 : x1 = 30) (h2 : x0 ≤ x1) : 0 ≤ x0 := by omega
theorem o28_84 {x0 x1 : Int} (h0 : 0 ≤ x0) (h1 : x1 = 30) (h2 : x0 ≤ x1) : x0 ≤ 60 := by omega
theorem o28_85 {x0 : Int} (h0 : 0 ≤ x0) (h1 : x0 ≤ 25) (h2 : 25 - x0 < 0) : False := by omega
theorem o28_86 {x0 : Int} (h0 : (-1) ≤ x0) (h1 : x0 ≤ 24) : (-3) ≤ x0 := by omega
theorem o28_87 {x0 : Int} (h0 : (-1) ≤ x0) (h1 : x0 ≤ 24) : x0 ≤ 24 := by omega
theorem o28_88 {x0 x2 : Int} {x1 : Nat} (h0 : 0 ≤ x0) (h1 : x0 ≤ 25) (h2 : 25 - x0 < ((x1 + 1 : Nat) : Int)) (h3 : 0 ≤ x2) (h4 : x2 ≤ 25) (h5 : x0 < x2) (h6 : -2147483648 ≤ x0) (h7 : x0 ≤ 2147483647) (h8 : -2147483648 ≤ x2) (h9 : x2 ≤ 2147483647) : -2147483648 ≤ x0 + 1 := by omega
theorem o28_89 {x0 x2 : Int} {x1 : Nat} (h0 : 0 ≤ x0) (h1 : x0 ≤ 25) (h2 : 25 - x0 < ((x1 + 1 : Nat) : Int)) (h3 : 0 ≤ x2) (h4 : x2 ≤ 25) (h5 : x0 < x2) (h6 : -2147483648 ≤ x0) (h7 : x0 ≤ 2147483647) (h8 : -2147483648 ≤ x2) (h9 : x2 ≤ 2147483647) : x0 + 1 ≤ 2147483647 := by omega
theorem o28_90 {x0 x2 x3 : Int} {x1 : Nat} (h0 : 0 ≤ x2) (h1 : x2 ≤ 25) (h2 : 25 - x2 < ((x1 + 1 : Nat) : Int)) (h3 : 0 ≤ x3) (h4 : x3 ≤ 25) (h5 : x2 < x3) (h6 : x0 = x2 + 1) : 25 - x0 < (x1 : Int) := by omega
theorem o28_91 {x0 x1 x3 : Int} {x2 : Nat} (h0 : 0 ≤ x1) (h1 : x1 ≤ 25) (h2 : 25 - x1 < ((x2 + 1 : Nat) : Int)) (h3 : 0 ≤ x3) (h4 : x3 ≤ 25) (h5 : x1 < x3) (h6 : x0 = x1 + 1) : 0 ≤ x0 := by omega
theorem o28_92 {x0 x1 x3 : Int} {x2 : Nat} (h0 : 0 ≤ x1) (h1 : x1 ≤ 25) (h2 : 25 - x1 < ((x2 + 1 : Nat) : Int)) (h3 : 0 ≤ x3) (h4 : x3 ≤ 25) (h5 : x1 < x3) (h6 : x0 = x1 + 1) : x0 ≤ 25 := by omega
theorem o28_93 {x0 : Int} (h0 : (-1) ≤ x0) (h1 : x0 ≤ 24) : (-1) ≤ x0 := by omega
theorem o28_94 {x0 x1 : Int} (h0 : (-1) ≤ x0) (h1 : x0 ≤ 120) (h2 : 0 < x0) (h3 : (-1) ≤ x1) (h4 : x1 ≤ 120) (h5 : x0 ≤ x1) : (-1) ≤ x0 := by omega
theorem o28_95 {x0 x1 : Int} (h0 : (-1) ≤ x0) (h1 : x0 ≤ 120) (h2 : 0 < x0) (h3 : (-1) ≤ x1) (h4 : x1 ≤ 120) (h5 : x0 ≤ x1) : x0 ≤ 120 := by omega
theorem o28_96 {x0 x2 x3 : Int} {x1 : Nat} (h0 : 0 ≤ x0) (h1 : x0 ≤ 25) (h2 : 25 - x0 < ((x1 + 1 : Nat) : Int)) (h3 : 0 ≤ x2) (h4 : x2 ≤ 25) (h5 : x0 < x2) (h6 : x3 = x0 + 1) : (-1) ≤ x0 := by omega
theorem o28_97 {x0 x2 x3 : Int} {x1 : Nat} (h0 : 0 ≤ x0) (h1 : x0 ≤ 25) (h2 : 25 - x0 < ((x1 + 1 : Nat) : Int)) (h3 : 0 ≤ x2) (h4 : x2 ≤ 25) (h5 : x0 < x2) (h6 : x3 = x0 + 1) : x0 ≤ 24 := by omega
theorem o28_98 {x0 x1 : Int} (h0 : (-1) ≤ x1) (h1 : x1 ≤ 120) (h2 : 0 < x1) (h3 : (-1) ≤ x0) (h4 : x0 ≤ 120) (h5 : x0 < x1) : (-1) ≤ x0 := by omega
theorem o28_99 {x0 x1 : Int} (h0 : (-1) ≤ x1) (h1 : x1 ≤ 120) (h2 : 0 < x1) (h3 : (-1) ≤ x0) (h4 : x0 ≤ 120) (h5 : x0 < x1) : x0 ≤ 120 := by omega
theorem o28_100 {x0 : Int} (h0 : x0 = 0) : 25 - x0 < (((25 - x0 + 1).toNat : Nat) : Int) := by omega
theorem o28_101 {x0 : Int} (h0 : x0 = 0) : x0 ≤ 25 := by omega
theorem o28_102 {x0 : Int} (h0 : x0 = (-1)) : (-1) ≤ x0 := by omega
theorem o28_103 {x0 : Int} (h0 : x0 = (-1)) : x0 ≤ 24 := by omega
theorem o28_104 {x0 : Int} (h0 : (-1) ≤ x0) (h1 : x0 ≤ 120) : (-1) ≤ x0 := by omega
theorem o28_105 {x0 : Int} (h0 : x0 = 2) : x0 = 2 := by omega
theorem o28_106 {x0 x1 : Int} (h0 : 0 ≤ x0) (h1 : x1 = 2) (h2 : x0 ≤ x1) : ¬ 2 < x0 := by omega
theorem o28_107 {x0 x1 : Int} (h0 : 0 ≤ x0) (h1 : x1 = 2) (h2 : x1 < x0) : 2 < x0 := by omega
theorem o28_108 {x0 : Int} (h0 : 0 ≤ x0) (h1 : x0 ≤ 24) (h2 : 24 - x0 < 0) : False := by omega
theorem o28_109 {x0 : Int} (h0 : x0 = 24) : x0 = 24 := by omega
theorem o28_110 {x0 x2 : Int} {x1 : Nat} (h0 : 0 ≤ x0) (h1 : x0 ≤ 24) (h2 : 24 - x0 < ((x1 + 1 : Nat) : Int)) (h3 : x2 = 24) (h4 : x2 ≤ x0) : ¬ x0 < 24 := by omega
theorem o28_111 {x0 x2 : Int} {x1 : Nat} (h0 : 0 ≤ x0) (h1 : x0 ≤ 24) (h2 : 24 - x0 < ((x1 + 1 : Nat) : Int)) (h3 : x2 = 24) (h4 : x0 < x2) : x0 < 24 := by omega
theorem o28_112 {x0 x1 x2 : Int} (h0 : 0 ≤ x0) (h1 : x1 = 2) (h2 : x0 ≤ x1) (h3 : ¬ x0 = 0) (h4 : x2 = 1) (h5 : ¬ x0 = x2) : ¬ x0 = 1 := by omega
theorem o28_113 {x0 x1 x2 : Int} (h0 : 0 ≤ x0) (h1 : x1 = 2) (h2 : x0 ≤ x1) (h3 : ¬ x0 = 0) (h4 : x2 = 1) (h5 : x0 = x2) : x0 = 1 := by omega
theorem o28_114 {x0 x1 x3 : Int} {x2 : Nat} (h0 : 0 ≤ x0) (h1 : x0 ≤ 24) (h2 : 24 - x0 < ((x2 + 1 : Nat) : Int)) (h3 : x3 = 24) (h4 : x0 < x3) (h5 : x1 = 1) (h6 : -2147483648 ≤ x0) (h7 : x0 ≤ 2147483647) (h8 : -2147483648 ≤ x1) (h9 : x1 ≤ 2147483647) (h10 : -2147483648 ≤ x3) (h11 : x3 ≤ 2147483647) : -2147483648 ≤ x0 + x1 := by omega
theorem o28_115 {x0 x1 x3 : Int} {x2 : Nat} (h0 : 0 ≤ x0) (h1 : x0 ≤ 24) (h2 : 24 - x0 < ((x2 + 1 : Nat) : Int)) (h3 : x3 = 24) (h4 : x0 < x3) (h5 : x1 = 1) (h6 : -2147483648 ≤ x0) (h7 : x0 ≤ 2147483647) (h8 : -2147483648 ≤ x1) (h9 : x1 ≤ 2147483647) (h10 : -2147483648 ≤ x3) (h11 : x3 ≤ 2147483647) : x0 + x1 ≤ 2147483647 := by omega
theorem o28_116 {x0 : Int} (h0 : 1 ≤ x0) (h1 : x0 ≤ 24) (h2 : 24 - x0 < 0) : False := by omega
theorem o28_117 {x0 x2 : Int} {x1 : Nat} (h0 : 1 ≤ x0) (h1 : x0 ≤ 24) (h2 : 24 - x0 < ((x1 + 1 : Nat) : Int)) (h3 : x2 = 24) (h4 : x2 ≤ x0) : ¬ x0 < 24 := by omega
theorem o28_118 {x0 x2 : Int} {x1 : Nat} (h0 : 1 ≤ x0) (h1 : x0 ≤ 24) (h2 : 24 - x0 < ((x1 + 1 : Nat) : Int)) (h3 : x2 = 24) (h4 : x0 < x2) : x0 < 24 := by omega
theorem o28_119 {x0 x2 x3 x4 : Int} {x1 : Nat} (h0 : 0 ≤ x0) (h1 : x0 ≤ 24) (h2 : 24 - x0 < ((x1 + 1 : Nat) : Int)) (h3 : x2 = 24) (h4 : x0 < x2) (h5 : x3 = 1) (h6 : x4 = x0 + x3) (h7 : -2147483648 ≤ x0) (h8 : x0 ≤ 2147483647) (h9 : -2147483648 ≤ x2) (h10 : x2 ≤ 2147483647) (h11 : -2147483648 ≤ x3) (h12 : x3 ≤ 2147483647) (h13 : -2147483648 ≤ x4) (h14 : x4 ≤ 2147483647) : -2147483648 ≤ x0 + 1 := by omega
theorem o28_120 {x0 x2 x3 x4 : Int} {x1 : Nat} (h0 : 0 ≤ x0) (h1 : x0 ≤ 24) (h2 : 24 - x0 < ((x1 + 1 : Nat) : Int)) (h3 : x2 = 24) (h4 : x0 < x2) (h5 : x3 = 1) (h6 : x4 = x0 + x3) (h7 : -2147483648 ≤ x0) (h8 : x0 ≤ 2147483647) (h9 : -2147483648 ≤ x2) (h10 : x2 ≤ 2147483647) (h11 : -2147483648 ≤ x3) (h12 : x3 ≤ 2147483647) (h13 : -2147483648 ≤ x4) (h14 : x4 ≤ 2147483647) : x0 + 1 ≤ 2147483647 := by omega
theorem o28_121 {x0 x2 x3 x4 x5 : Int} {x1 : Nat} (h0 : 0 ≤ x2) (h1 : x2 ≤ 24) (h2 : 24 - x2 < ((x1 + 1 : Nat) : Int)) (h3 : x3 = 24) (h4 : x2 < x3) (h5 : x4 = 1) (h6 : x5 = x2 + x4) (h7 : x0 = x2 + 1) : 24 - x0 < (x1 : Int) := by omega
theorem o28_122 {x0 x1 x3 x4 x5 : Int} {x2 : Nat} (h0 : 0 ≤ x1) (h1 : x1 ≤ 24) (h2 : 24 - x1 < ((x2 + 1 : Nat) : Int)) (h3 : x3 = 24) (h4 : x1 < x3) (h5 : x4 = 1) (h6 : x5 = x1 + x4) (h7 : x0 = x1 + 1) : 0 ≤ x0 := by omega
theorem o28_123 {x0 x1 x3 x4 x5 : Int} {x2 : Nat} (h0 : 0 ≤ x1) (h1 : x1 ≤ 24) (h2 : 24 - x1 < ((x2 + 1 : Nat) : Int)) (h3 : x3 = 24) (h4 : x1 < x3) (h5 : x4 = 1) (h6 : x5 = x1 + x4) (h7 : x0 = x1 + 1) : x0 ≤ 24 := by omega
theorem o28_124 {x0 : Int} (h0 : (-1) ≤ x0) (h1 : x0 ≤ 23) : (-1) ≤ x0 := by omega
theorem o28_125 {x0 : Int} (h0 : (-1) ≤ x0) (h1 : x0 ≤ 23) : x0 ≤ 23 := by omega
theorem o28_126 {x0 x2 : Int} {x1 : Nat} (h0 : 1 ≤ x0) (h1 : x0 ≤ 24) (h2 : 24 - x0 < ((x1 + 1 : Nat) : Int)) (h3 : x2 = 24) (h4 : x0 < x2) : 0 ≤ x0 := by omega
theorem o28_127 {x0 x2 : Int} {x1 : Nat} (h0 : 1 ≤ x0) (h1 : x0 ≤ 24) (h2 : 24 - x0 < ((x1 + 1 : Nat) : Int)) (h3 : x2 = 24) (h4 : x0 < x2) : x0 < (24 : Nat) := by omega
theorem o28_128 {x0 x2 x3 x4 : Int} {x1 : Nat} (h0 : 0 ≤ x0) (h1 : x0 ≤ 24) (h2 : 24 - x0 < ((x1 + 1 : Nat) : Int)) (h3 : x2 = 24) (h4 : x0 < x2) (h5 : x3 = 1) (h6 : x4 = x0 + x3) : 0 ≤ x0 := by omega
theorem o28_129 {x0 x2 x3 x4 : Int} {x1 : Nat} (h0 : 0 ≤ x0) (h1 : x0 ≤ 24) (h2 : 24 - x0 < ((x1 + 1 : Nat) : Int)) (h3 : x2 = 24) (h4 : x0 < x2) (h5 : x3 = 1) (h6 : x4 = x0 + x3) : x0 < (24 : Nat) := by omega
theorem o28_130 {x0 x2 : Int} {x1 : Nat} (h0 : 1 ≤ x0) (h1 : x0 ≤ 24) (h2 : 24 - x0 < ((x1 + 1 : Nat) : Int)) (h3 : x2 = 24) (h4 : x0 < x2) (h5 : -2147483648 ≤ x0) (h6 : x0 ≤ 2147483647) (h7 : -2147483648 ≤ x2) (h8 : x2 ≤ 2147483647) : -2147483648 ≤ x0 + 1 := by omega
theorem o28_131 {x0 x2 : Int} {x1 : Nat} (h0 : 1 ≤ x0) (h1 : x0 ≤ 24) (h2 : 24 - x0 < ((x1 + 1 : Nat) : Int)) (h3 : x2 = 24) (h4 : x0 < x2) (h5 : -2147483648 ≤ x0) (h6 : x0 ≤ 2147483647) (h7 : -2147483648 ≤ x2) (h8 : x2 ≤ 2147483647) : x0 + 1 ≤ 2147483647 := by omega
theorem o28_132 {x0 x2 x3 : Int} {x1 : Nat} (h0 : 1 ≤ x2) (h1 : x2 ≤ 24) (h2 : 24 - x2 < ((x1 + 1 : Nat) : Int)) (h3 : x3 = 24) (h4 : x2 < x3) (h5 : x0 = x2 + 1) : 24 - x0 < (x1 : Int) := by omega
theorem o28_133 {x0 x1 x3 : Int} {x2 : Nat} (h0 : 1 ≤ x1) (h1 : x1 ≤ 24) (h2 : 24 - x1 < ((x2 + 1 : Nat) : Int)) (h3 : x3 = 24) (h4 : x1 < x3) (h5 : x0 = x1 + 1) : 1 ≤ x0 := by omega
theorem o28_134 {x0 x1 x3 : Int} {x2 : Nat} (h0 : 1 ≤ x1) (h1 : x1 ≤ 24) (h2 : 24 - x1 < ((x2 + 1 : Nat) : Int)) (h3 : x3 = 24) (h4 : x1 < x3) (h5 : x0 = x1 + 1) : x0 ≤ 24 := by omega
theorem o28_135 {x0 x2 x3 : Int} {x1 : Nat} (h0 : 1 ≤ x0) (h1 : x0 ≤ 24) (h2 : 24 - x0 < ((x1 + 1 : Nat) : Int)) (h3 : x2 = 24) (h4 : x0 < x2) (h5 : x3 = x0 + 1) : (-1) ≤ x0 := by omega
theorem o28_136 {x0 x2 x3 : Int} {x1 : Nat} (h0 : 1 ≤ x0) (h1 : x0 ≤ 24) (h2 : 24 - x0 < ((x1 + 1 : Nat) : Int)) (h3 : x2 = 24) (h4 : x0 < x2) (h5 : x3 = x0 + 1) : x0 ≤ 23 := by omega
theorem o28_137 {x0 x2 x3 x4 : Int} {x1 : Nat} (h0 : 0 ≤ x0) (h1 : x0 ≤ 24) (h2 : 24 - x0 < ((x1 + 1 : Nat) : Int)) (h3 : x2 = 24) (h4 : x0 < x2) (h5 : x3 = 1) (h6 : x4 = x0 + x3) : (-1) ≤ x0 := by omega
theorem o28_138 {x0 x2 x3 x4 : Int} {x1 : Nat} (h0 : 0 ≤ x0) (h1 : x0 ≤ 24) (h2 : 24 - x0 < ((x1 + 1 : Nat) : Int)) (h3 : x2 = 24) (h4 : x0 < x2) (h5 : x3 = 1) (h6 : x4 = x0 + x3) : x0 ≤ 23 := by omega
theorem o28_139 {x0 x1 x3 x4 : Int} {x2 : Nat} (h0 : 0 ≤ x1) (h1 : x1 ≤ 24) (h2 : 24 - x1 < ((x2 + 1 : Nat) : Int)) (h3 : x3 = 24) (h4 : x1 < x3) (h5 : x4 = 1) (h6 : x0 = x1 + x4) : 24 - x0 < (((24 - x0 + 1).toNat : Nat) : Int) := by omega
theorem o28_140 {x0 x1 x3 x4 : Int} {x2 : Nat} (h0 : 0 ≤ x1) (h1 : x1 ≤ 24) (h2 : 24 - x1 < ((x2 + 1 : Nat) : Int)) (h3 : x3 = 24) (h4 : x1 < x3) (h5 : x4 = 1) (h6 : x0 = x1 + x4) : 1 ≤ x0 := by omega
theorem o28_141 {x0 x1 x3 x4 : Int} {x2 : Nat} (h0 : 0 ≤ x1) (h1 : x1 ≤ 24) (h2 : 24 - x1 < ((x2 + 1 : Nat) : Int)) (h3 : x3 = 24) (h4 : x1 < x3) (h5 : x4 = 1) (h6 : x0 = x1 + x4) : x0 ≤ 24 := by omega
theorem o28_142 {x0 : Int} (h0 : x0 = 0) : 24 - x0 < (((24 - x0 + 1).toNat : Nat) : Int) := by omega
theorem o28_143 {x0 : Int} (h0 : x0 = 0) : x0 ≤ 24 := by omega
theorem o28_144 {x0 : Int} (h0 : x0 = (-1)) : x0 ≤ 23 := by omega
theorem o28_145 {x0 x1 x2 : Int} (h0 : 0 ≤ x1) (h1 : x1 ≤ 1) (h2 : (x1 = 0 ∨ (0 ≤ x0 ∧ x0 ≤ 24 ∧ 0 ≤ x2 ∧ x2 ≤ 3))) (h3 : ¬ x1 = 0) : 0 ≤ x0 := by omega
theorem o28_146 {x0 x1 x2 : Int} (h0 : 0 ≤ x1) (h1 : x1 ≤ 1) (h2 : (x1 = 0 ∨ (0 ≤ x0 ∧ x0 ≤ 24 ∧ 0 ≤ x2 ∧ x2 ≤ 3))) (h3 : ¬ x1 = 0) : x0 < (25 : Nat) := by omega
theorem o28_147 {x0 x1 x2 : Int} (h0 : 0 ≤ x1) (h1 : x1 ≤ 1) (h2 : (x1 = 0 ∨ (0 ≤ x0 ∧ x0 ≤ 24 ∧ 0 ≤ x2 ∧ x2 ≤ 3))) (h3 : ¬ x1 = 0) : x0 ≤ 24 := by omega
theorem o28_148 {x0 x2 : Int} {x1 : Nat} (h0 : 0 ≤ x0) (h1 : x0 ≤ 24) (h2 : 24 - x0 < ((x1 + 1 : Nat) : Int)) (h3 : x2 = 24) (h4 : x0 < x2) : 0 ≤ x0 := by omega
theorem o28_149 {x0 x2 : Int} {x1 : Nat} (h0 : 0 ≤ x0) (h1 : x0 ≤ 24) (h2 : 24 - x0 < ((x1 + 1 : Nat) : Int)) (h3 : x2 = 24) (h4 : x0 < x2) : x0 < (24 : Nat) := by omega
theorem o28_150 {x0 x2 : Int} {x1 : Nat} (h0 : 0 ≤ x0) (h1 : x0 ≤ 24) (h2 : 24 - x0 < ((x1 + 1 : Nat) : Int)) (h3 : x2 = 24) (h4 : x0 < x2) (h5 : -2147483648 ≤ x0) (h6 : x0 ≤ 2147483647) (h7 : -2147483648 ≤ x2) (h8 : x2 ≤ 2147483647) : -2147483648 ≤ x0 + 1 := by omega
theorem o28_151 {x0 x2 : Int} {x1 : Nat} (h0 : 0 ≤ x0) (h1 : x0 ≤ 24) (h2 : 24 - x0 < ((x1 + 1 : Nat) : Int)) (h3 : x2 = 24) (h4 : x0 < x2) (h5 : -2147483648 ≤ x0) (h6 : x0 ≤ 2147483647) (h7 : -2147483648 ≤ x2) (h8 : x2 ≤ 2147483647) : x0 + 1 ≤ 2147483647 := by omega
theorem o28_152 {x0 x2 x3 : Int} {x1 : Nat} (h0 : 0 ≤ x2) (h1 : x2 ≤ 24) (h2 : 24 - x2 < ((x1 + 1 : Nat) : Int)) (h3 : x3 = 24) (h4 : x2 < x3) (h5 : x0 = x2 + 1) : 24 - x0 < (x1 : Int) := by omega
theorem o28_153 {x0 x1 x3 : Int} {x2 : Nat} (h0 : 0 ≤ x1) (h1 : x1 ≤ 24) (h2 : 24 - x1 < ((x2 + 1 : Nat) : Int)) (h3 : x3 = 24) (h4 : x1 < x3) (h5 : x0 = x1 + 1) : 0 ≤ x0 := by omega
theorem o28_154 {x0 x1 x3 : Int} {x2 : Nat} (h0 : 0 ≤ x1) (h1 : x1 ≤ 24) (h2 : 24 - x1 < ((x2 + 1 : Nat) : Int)) (h3 : x3 = 24) (h4 : x1 < x3) (h5 : x0 = x1 + 1) : x0 ≤ 24 := by omega
theorem o28_155 {x0 x2 : Int} {x1 : Nat} (h0 : 0 ≤ x0) (h1 : x0 ≤ 25) (h2 : 25 - x0 < ((x1 + 1 : Nat) : Int)) (h3 : 0 ≤ x2) (h4 : x2 ≤ 25) (h5 : x0 < x2) : 0 ≤ x0 := by omega
theorem o28_156 {x0 x2 : Int} {x1 : Nat} (h0 : 0 ≤ x0) (h1 : x0 ≤ 25) (h2 : 25 - x0 < ((x1 + 1 : Nat) : Int)) (h3 : 0 ≤ x2) (h4 : x2 ≤ 25) (h5 : x0 < x2) : x0 < (25 : Nat) := by omega
theorem o28_157 {x0 x2 : Int} {x1 : Nat} (h0 : 0 ≤ x0) (h1 : x0 ≤ 25) (h2 : 25 - x0 < ((x1 + 1 : Nat) : Int)) (h3 : 0 ≤ x2) (h4 : x2 ≤ 25) (h5 : x0 < x2) : x0 ≤ 24 := by omega
theorem o28_158 {x0 : Int} (h0 : 0 ≤ x0) : 0 ≤ x0 := by omega
theorem o28_159 {x0 x1 : Int} (h0 : 0 ≤ x0) (h1 : 0 ≤ x1) (h2 : x0 ≤ x1) : 0 ≤ x0 := by omega
theorem o28_160 {x0 : Int} (h0 : (-1) ≤ x0) (h1 : x0 ≤ 24) (h2 : 0 ≤ x0) : (-1) ≤ x0 := by omega
theorem o28_161 {x0 : Int} (h0 : (-1) ≤ x0) (h1 : x0 ≤ 24) (h2 : 0 ≤ x0) : x0 ≤ 24 := by omega
theorem o28_162 {x0 x1 : Int} (h0 : 0 ≤ x1) (h1 : 0 ≤ x0) (h2 : x0 < x1) : 0 ≤ x0 := by omega
theorem o28_163 {x0 x1 : Int} (h0 : 0 ≤ x1) (h1 : x1 ≤ 1) (h2 : (x1 = 0 ∨ (0 ≤ x0 ∧ x0 ≤ 4))) (h3 : ¬ x1 = 0) : x0 < (5 : Nat) := by omega
theorem o28_164 {x0 : Int} (h0 : 0 ≤ x0) (h1 : x0 ≤ 2147483647) (h2 : 2147483647 - x0 < 0) : False := by omega
theorem o28_165 {x0 x2 : Int} {x1 : Nat} (h0 : 0 ≤ x0) (h1 : x0 ≤ 2147483647) (h2 : 2147483647 - x0 < ((x1 + 1 : Nat) : Int)) (h3 : x2 ≤ x0) : (-2) ≤ x0 := by omega
theorem o28_166 {x0 x1 : Int} (h0 : 0 ≤ x1) (h1 : x1 ≤ x0) (h2 : -2147483648 ≤ x0) (h3 : x0 ≤ 2147483647) (h4 : -2147483648 ≤ x1) (h5 : x1 ≤ 2147483647) : -2147483648 ≤ x0 - x1 := by omega
theorem o28_167 {x0 x1 : Int} (h0 : 0 ≤ x1) (h1 : x1 ≤ x0) (h2 : -2147483648 ≤ x0) (h3 : x0 ≤ 2147483647) (h4 : -2147483648 ≤ x1) (h5 : x1 ≤ 2147483647) : x0 - x1 ≤ 2147483647 := by omega
theorem o28_168 {x0 x2 : Int} {x1 : Nat} (h0 : 0 ≤ x0) (h1 : x0 ≤ 2147483647) (h2 : 2147483647 - x0 < ((x1 + 1 : Nat) : Int)) (h3 : x0 < x2) (h4 : -2147483648 ≤ x0) (h5 : x0 ≤ 2147483647) (h6 : -2147483648 ≤ x2) (h7 : x2 ≤ 2147483647) : -2147483648 ≤ x0 + 1 := by omega
theorem o28_169 {x0 x2 : Int} {x1 : Nat} (h0 : 0 ≤ x0) (h1 : x0 ≤ 2147483647) (h2 : 2147483647 - x0 < ((x1 + 1 : Nat) : Int)) (h3 : x0 < x2) (h4 : -2147483648 ≤ x0) (h5 : x0 ≤ 2147483647) (h6 : -2147483648 ≤ x2) (h7 : x2 ≤ 2147483647) : x0 + 1 ≤ 2147483647 := by omega
theorem o28_170 {x0 x2 x3 : Int} {x1 : Nat} (h0 : 0 ≤ x2) (h1 : x2 ≤ 2147483647) (h2 : 2147483647 - x2 < ((x1 + 1 : Nat) : Int)) (h3 : x2 < x3) (h4 : x0 = x2 + 1) (h5 : -2147483648 ≤ x0) (h6 : x0 ≤ 2147483647) (h7 : -2147483648 ≤ x2) (h8 : x2 ≤ 2147483647) (h9 : -2147483648 ≤ x3) (h10 : x3 ≤ 2147483647) : 2147483647 - x0 < (x1 : Int) := by omega
theorem o28_171 {x0 x1 x3 : Int} {x2 : Nat} (h0 : 0 ≤ x1) (h1 : x1 ≤ 2147483647) (h2 : 2147483647 - x1 < ((x2 + 1 : Nat) : Int)) (h3 : x1 < x3) (h4 : x0 = x1 + 1) : 0 ≤ x0 := by omega
theorem o28_172 {x0 x1 x3 : Int} {x2 : Nat} (h0 : 0 ≤ x1) (h1 : x1 ≤ 2147483647) (h2 : 2147483647 - x1 < ((x2 + 1 : Nat) : Int)) (h3 : x1 < x3) (h4 : x0 = x1 + 1) (h5 : -2147483648 ≤ x0) (h6 : x0 ≤ 2147483647) (h7 : -2147483648 ≤ x1) (h8 : x1 ≤ 2147483647) (h9 : -2147483648 ≤ x3) (h10 : x3 ≤ 2147483647) : x0 ≤ 2147483647 := by omega
theorem o28_173 {x0 x2 : Int} {x1 : Nat} (h0 : 0 ≤ x0) (h1 : x0 ≤ 2147483647) (h2 : 2147483647 - x0 < ((x1 + 1 : Nat) : Int)) (h3 : x0 < x2) : (-2) ≤ x0 := by omega
theorem o28_174 {x0 : Int} (h0 : x0 = 0) (h1 : -2147483648 ≤ x0) (h2 : x0 ≤ 2147483647) : 2147483647 - x0 < (((2147483647 - x0 + 1).toNat : Nat) : Int) := by omega
theorem o28_175 {x0 : Int} (h0 : x0 = 0) (h1 : -2147483648 ≤ x0) (h2 : x0 ≤ 2147483647) : x0 ≤ 2147483647 := by omega
theorem o28_176 {x0 x1 x2 : Int} (h0 : (-1) ≤ x1) (h1 : x1 ≤ 40) (h2 : 0 ≤ x1) (h3 : (-1) ≤ x0) (h4 : x0 ≤ 40) (h5 : x0 = x1) (h6 : x2 = 10) (h7 : x0 ≤ x2) : ¬ 10 < x0 := by omega
theorem o28_177 {x0 x1 x2 : Int} (h0 : (-1) ≤ x1) (h1 : x1 ≤ 40) (h2 : 0 ≤ x1) (h3 : (-1) ≤ x0) (h4 : x0 ≤ 40) (h5 : x0 = x1) (h6 : x2 = 10) (h7 : x2 < x0) : 10 < x0 := by omega
theorem o28_178 {x0 x1 : Int} (h0 : 0 ≤ x0) (h1 : x1 = 30) (h2 : x0 ≤ x1) : x0 ≤ 30 := by omega
theorem o28_179 {x0 x1 x2 : Int} (h0 : (-1) ≤ x0) (h1 : x0 ≤ 40) (h2 : 0 ≤ x0) (h3 : (-1) ≤ x1) (h4 : x1 ≤ 40) (h5 : x1 = x0) (h6 : x2 = 10) (h7 : x1 ≤ x2) : 0 ≤ x0 := by omega
theorem o28_180 {x0 x1 x2 : Int} (h0 : (-1) ≤ x0) (h1 : x0 ≤ 40) (h2 : 0 ≤ x0) (h3 : (-1) ≤ x1) (h4 : x1 ≤ 40) (h5 : x1 = x0) (h6 : x2 = 10) (h7 : x1 ≤ x2) : x0 ≤ 10 := by omega
theorem o28_181 {x0 : Int} (h0 : x0 = (-2)) : x0 ≤ 30 := by omega
theorem o28_182 {x0 : Int} (h0 : 0 ≤ x0) (h1 : x0 ≤ 31) (h2 : 31 - x0 < 0) : False := by omega
theorem o28_183 {x0 x2 : Int} {x1 : Nat} (h0 : 0 ≤ x0) (h1 : x0 ≤ 31) (h2 : 31 - x0 < ((x1 + 1 : Nat) : Int)) (h3 : x2 = 30) (h4 : x2 < x0) : 30 < x0 := by omega
theorem o28_184 {x0 x2 : Int} {x1 : Nat} (h0 : 0 ≤ x0) (h1 : x0 ≤ 31) (h2 : 31 - x0 < ((x1 + 1 : Nat) : Int)) (h3 : x2 = 30) (h4 : x0 ≤ x2) : ¬ 30 < x0 := by omega
theorem o28_185 {x0 : Int} (h0 : x0 = (-1)) : (-2) ≤ x0 := by omega
theorem o28_186 {x0 : Int} (h0 : x0 = (-1)) : x0 ≤ 30 := by omega
theorem o28_187 {x0 x1 x2 : Int} (h0 : 0 ≤ x1) (h1 : x1 ≤ 1) (h2 : (x1 = 0 ∨ (0 ≤ x2 ∧ x2 ≤ 24 ∧ 0 ≤ x0 ∧ x0 ≤ 3))) (h3 : ¬ x1 = 0) : 0 ≤ x0 := by omega
theorem o28_188 {x0 x1 x2 : Int} (h0 : 0 ≤ x1) (h1 : x1 ≤ 1) (h2 : (x1 = 0 ∨ (0 ≤ x2 ∧ x2 ≤ 24 ∧ 0 ≤ x0 ∧ x0 ≤ 3))) (h3 : ¬ x1 = 0) : x0 ≤ 3 := by omega
theorem o28_189 {x0 x2 : Int} {x1 : Nat} (h0 : 0 ≤ x0) (h1 : x0 ≤ 31) (h2 : 31 - x0 < ((x1 + 1 : Nat) : Int)) (h3 : x2 = 30) (h4 : x0 ≤ x2) : 0 ≤ x0 := by omega
theorem o28_190 {x0 x2 : Int} {x1 : Nat} (h0 : 0 ≤ x0) (h1 : x0 ≤ 31) (h2 : 31 - x0 < ((x1 + 1 : Nat) : Int)) (h3 : x2 = 30) (h4 : x0 ≤ x2) : x0 ≤ 30 := by omega
theorem o28_191 {x0 x2 : Int} {x1 : Nat} (h0 : 0 ≤ x0) (h1 : x0 ≤ 31) (h2 : 31 - x0 < ((x1 + 1 : Nat) : Int)) (h3 : x2 = 30) (h4 : x0 ≤ x2) (h5 : -2147483648 ≤ x0) (h6 : x0 ≤ 2147483647) (h7 : -2147483648 ≤ x2) (h8 : x2 ≤ 2147483647) : -2147483648 ≤ x0 + 1 := by omega
theorem o28_192 {x0 x2 : Int} {x1 : Nat} (h0 : 0 ≤ x0) (h1 : x0 ≤ 31) (h2 : 31 - x0 < ((x1 + 1 : Nat) : Int)) (h3 : x2 = 30) (h4 : x0 ≤ x2) (h5 : -2147483648 ≤ x0) (h6 : x0 ≤ 2147483647) (h7 : -2147483648 ≤ x2) (h8 : x2 ≤ 2147483647) : x0 + 1 ≤ 2147483647 := by omega
theorem o28_193 {x0 x2 x3 : Int} {x1 : Nat} (h0 : 0 ≤ x2) (h1 : x2 ≤ 31) (h2 : 31 - x2 < ((x1 + 1 : Nat) : Int)) (h3 : x3 = 30) (h4 : x2 ≤ x3) (h5 : x0 = x2 + 1) : 31 - x0 < (x1 : Int) := by omega
theorem o28_194 {x0 x1 x3 : Int} {x2 : Nat} (h0 : 0 ≤ x1) (h1 : x1 ≤ 31) (h2 : 31 - x1 < ((x2 + 1 : Nat) : Int)) (h3 : x3 = 30) (h4 : x1 ≤ x3) (h5 : x0 = x1 + 1) : 0 ≤ x0 := by omega
theorem o28_195 {x0 x1 x3 : Int} {x2 : Nat} (h0 : 0 ≤ x1) (h1 : x1 ≤ 31) (h2 : 31 - x1 < ((x2 + 1 : Nat) : Int)) (h3 : x3 = 30) (h4 : x1 ≤ x3) (h5 : x0 = x1 + 1) : x0 ≤ 31 := by omega
theorem o28_196 {x0 x2 : Int} {x1 : Nat} (h0 : 0 ≤ x0) (h1 : x0 ≤ 31) (h2 : 31 - x0 < ((x1 + 1 : Nat) : Int)) (h3 : x2 = 30) (h4 : x0 ≤ x2) : (-2) ≤ x0 := by omega
theorem o28_197 {x0 : Int} (h0 : x0 = 0) : 31 - x0 < (((31 - x0 + 1).toNat : Nat) : Int) := by omega
theorem o28_198 {x0 : Int} (h0 : x0 = 0) : x0 ≤ 31 := by omega
theorem o28_199 {x0 : Int} (h0 : x0 = 3) : x0 = 3 := by omega
theorem o28_200 {x0 x1 : Int} (h0 : 0 ≤ x0) (h1 : x1 = 3) (h2 : x0 ≤ x1) : ¬ 3 < x0 := by omega
theorem o28_201 {x0 x1 : Int} (h0 : 0 ≤ x0) (h1 : x1 = 3) (h2 : x1 < x0) : 3 < x0 := by omega
theorem o28_202 {x0 x1 : Int} (h0 : 0 ≤ x0) (h1 : x1 = 3) (h2 : x0 ≤ x1) : 0 ≤ x0 := by omega
theorem o28_203 {x0 x1 : Int} (h0 : 0 ≤ x0) (h1 : x1 = 3) (h2 : x0 ≤ x1) : x0 ≤ 3 := by omega
theorem o28_204 {x0 : Int} (h0 : x0 = (-2)) : x0 ≤ 0 := by omega
theorem o28_205 {x0 x1 x2 x3 x4 : Int} (h0 : 0 ≤ x4) (h1 : x4 ≤ 1) (h2 : ((x4 = 0 ∧ (x1 < 0 ∨ 3 < x1)) ∨ (x4 = 1 ∧ 0 ≤ x1 ∧ x1 ≤ 3))) (h3 : x4 = 0) (h4 : x0 = (-2)) : ((x0 = -2 ∧ (x1 < 0 ∨ 3 < x1 ∨ x2 < 0 ∨ 3 < x2)) ∨ (0 ≤ x1 ∧ x1 ≤ 3 ∧ 0 ≤ x2 ∧ x2 ≤ 3 ∧ ((x0 = -3 ∧ (x3 < 0 ∨ 40 < x3)) ∨ (x0 = 0 ∧ 0 ≤ x3 ∧ x3 ≤ 40)))) := by omega
theorem o28_206 {x0 x1 x2 x3 x4 : Int} (h0 : 0 ≤ x4) (h1 : x4 ≤ 1) (h2 : ((x4 = 0 ∧ (x1 < 0 ∨ 3 < x1)) ∨ (x4 = 1 ∧ 0 ≤ x1 ∧ x1 ≤ 3))) (h3 : ¬ x4 = 0) (h4 : x2 < 0) (h5 : x0 = (-2)) : ((x0 = -2 ∧ (x1 < 0 ∨ 3 < x1 ∨ x2 < 0 ∨ 3 < x2)) ∨ (0 ≤ x1 ∧ x1 ≤ 3 ∧ 0 ≤ x2 ∧ x2 ≤ 3 ∧ ((x0 = -3 ∧ (x3 < 0 ∨ 40 < x3)) ∨ (x0 = 0 ∧ 0 ≤ x3 ∧ x3 ≤ 40)))) := by omega
theorem o28_207 {x0 : Int} (h0 : x0 = (-3)) : x0 ≤ 0 := by omega
theorem o28_208 {x0 x1 x2 x3 x4 x5 : Int} (h0 : 0 ≤ x4) (h1 : x4 ≤ 1) (h2 : ((x4 = 0 ∧ (x1 < 0 ∨ 3 < x1)) ∨ (x4 = 1 ∧ 0 ≤ x1 ∧ x1 ≤ 3))) (h3 : ¬ x4 = 0) (h4 : 0 ≤ x2) (h5 : x5 = 3) (h6 : x2 ≤ x5) (h7 : x3 < 0) (h8 : x0 = (-3)) : ((x0 = -2 ∧ (x1 < 0 ∨ 3 < x1 ∨ x2 < 0 ∨ 3 < x2)) ∨ (0 ≤ x1 ∧ x1 ≤ 3 ∧ 0 ≤ x2 ∧ x2 ≤ 3 ∧ ((x0 = -3 ∧ (x3 < 0 ∨ 40 < x3)) ∨ (x0 = 0 ∧ 0 ≤ x3 ∧ x3 ≤ 40)))) := by omega
theorem o28_209 {x0 : Int} (h0 : x0 = 0) : (-3) ≤ x0 := by omega
theorem o28_210 {x0 x1 x2 x3 x4 x5 x6 : Int} (h0 : 0 ≤ x4) (h1 : x4 ≤ 1) (h2 : ((x4 = 0 ∧ (x1 < 0 ∨ 3 < x1)) ∨ (x4 = 1 ∧ 0 ≤ x1 ∧ x1 ≤ 3))) (h3 : ¬ x4 = 0) (h4 : 0 ≤ x2) (h5 : x5 = 3) (h6 : x2 ≤ x5) (h7 : 0 ≤ x3) (h8 : x6 = 40) (h9 : x3 ≤ x6) (h10 : x0 = 0) : ((x0 = -2 ∧ (x1 < 0 ∨ 3 < x1 ∨ x2 < 0 ∨ 3 < x2)) ∨ (0 ≤ x1 ∧ x1 ≤ 3 ∧ 0 ≤ x2 ∧ x2 ≤ 3 ∧ ((x0 = -3 ∧ (x3 < 0 ∨ 40 < x3)) ∨ (x0 = 0 ∧ 0 ≤ x3 ∧ x3 ≤ 40)))) := by omega
theorem o28_211 {x0 x1 x2 x3 x4 x5 x6 : Int} (h0 : 0 ≤ x4) (h1 : x4 ≤ 1) (h2 : ((x4 = 0 ∧ (x1 < 0 ∨ 3 < x1)) ∨ (x4 = 1 ∧ 0 ≤ x1 ∧ x1 ≤ 3))) (h3 : ¬ x4 = 0) (h4 : 0 ≤ x2) (h5 : x5 = 3) (h6 : x2 ≤ x5) (h7 : 0 ≤ x3) (h8 : x6 = 40) (h9 : x6 < x3) (h10 : x0 = (-3)) : ((x0 = -2 ∧ (x1 < 0 ∨ 3 < x1 ∨ x2 < 0 ∨ 3 < x2)) ∨ (0 ≤ x1 ∧ x1 ≤ 3 ∧ 0 ≤ x2 ∧ x2 ≤ 3 ∧ ((x0 = -3 ∧ (x3 < 0 ∨ 40 < x3)) ∨ (x0 = 0 ∧ 0 ≤ x3 ∧ x3 ≤ 40)))) := by omega
theorem o28_212 {x0 x1 x2 x3 x4 x5 : Int} (h0 : 0 ≤ x4) (h1 : x4 ≤ 1) (h2 : ((x4 = 0 ∧ (x1 < 0 ∨ 3 < x1)) ∨ (x4 = 1 ∧ 0 ≤ x1 ∧ x1 ≤ 3))) (h3 : ¬ x4 = 0) (h4 : 0 ≤ x2) (h5 : x5 = 3) (h6 : x5 < x2) (h7 : x0 = (-2)) : ((x0 = -2 ∧ (x1 < 0 ∨ 3 < x1 ∨ x2 < 0 ∨ 3 < x2)) ∨ (0 ≤ x1 ∧ x1 ≤ 3 ∧ 0 ≤ x2 ∧ x2 ≤ 3 ∧ ((x0 = -3 ∧ (x3 < 0 ∨ 40 < x3)) ∨ (x0 = 0 ∧ 0 ≤ x3 ∧ x3 ≤ 40)))) := by omega
theorem o28_213 {x0 x1 x2 : Int} (h0 : (-1) ≤ x1) (h1 : x1 ≤ 40) (h2 : 0 ≤ x1) (h3 : 0 ≤ x0) (h4 : (-1) ≤ x2) (h5 : x2 ≤ 40) (h6 : x2 = x1) (h7 : x0 < x2) : 0 ≤ x0 := by omega
theorem o28_214 {x0 x1 x2 : Int} (h0 : (-1) ≤ x1) (h1 : x1 ≤ 40) (h2 : 0 ≤ x1) (h3 : 0 ≤ x0) (h4 : (-1) ≤ x2) (h5 : x2 ≤ 40) (h6 : x2 = x1) (h7 : x0 < x2) : x0 ≤ 39 := by omega
theorem o28_215 {x0 : Int} (h0 : x0 = (-2)) : (-6) ≤ x0 := by omega
theorem o28_216 {x0 : Int} (h0 : x0 = (-2)) : x0 ≤ 40 := by omega
theorem o28_217 {x0 : Int} (h0 : x0 = (-3)) : (-6) ≤ x0 := by omega
theorem o28_218 {x0 : Int} (h0 : x0 = (-3)) : x0 ≤ 40 := by omega
theorem o28_219 {x0 x1 : Int} (h0 : x0 = 1) (h1 : 0 ≤ x1) (h2 : x1 ≤ 60) (h3 : -2147483648 ≤ x0) (h4 : x0 ≤ 2147483647) (h5 : -2147483648 ≤ x1) (h6 : x1 ≤ 2147483647) : -2147483648 ≤ x0 + x1 := by omega
theorem o28_220 {x0 x1 : Int} (h0 : x0 = 1) (h1 : 0 ≤ x1) (h2 : x1 ≤ 60) (h3 : -2147483648 ≤ x0) (h4 : x0 ≤ 2147483647) (h5 : -2147483648 ≤ x1) (h6 : x1 ≤ 2147483647) : x0 + x1 ≤ 2147483647 := by omega
theorem o28_221 {x0 : Int} (h0 : 0 ≤ x0) (h1 : x0 ≤ 40) (h2 : 40 - x0 < 0) : False := by omega
theorem o28_222 {x0 x1 x2 x3 x4 x5 x6 : Int} {x7 : Nat} (h0 : (-1) ≤ x1) (h1 : x1 ≤ 40) (h2 : 0 ≤ x1) (h3 : (-1) ≤ x2) (h4 : x2 ≤ 40) (h5 : x2 = x1) (h6 : x3 = 1) (h7 : 0 ≤ x4) (h8 : x4 ≤ 60) (h9 : x5 = x3 + x4) (h10 : (x0 = x2 ∧ x2 ≤ x5) ∨ (x0 = x5 ∧ x5 ≤ x2)) (h11 : 0 ≤ x6) (h12 : x6 ≤ 40) (h13 : 40 - x6 < ((x7 + 1 : Nat) : Int)) (h14 : x0 ≤ x6) : (-6) ≤ x0 := by omega
theorem o28_223 {x0 x1 x2 x3 x4 x5 x6 : Int} {x7 : Nat} (h0 : (-1) ≤ x1) (h1 : x1 ≤ 40) (h2 : 0 ≤ x1) (h3 : (-1) ≤ x2) (h4 : x2 ≤ 40) (h5 : x2 = x1) (h6 : x3 = 1) (h7 : 0 ≤ x4) (h8 : x4 ≤ 60) (h9 : x5 = x3 + x4) (h10 : (x0 = x2 ∧ x2 ≤ x5) ∨ (x0 = x5 ∧ x5 ≤ x2)) (h11 : 0 ≤ x6) (h12 : x6 ≤ 40) (h13 : 40 - x6 < ((x7 + 1 : Nat) : Int)) (h14 : x0 ≤ x6) : x0 ≤ 40 := by omega
theorem o28_224 {x0 x1 x2 x3 x4 x5 x6 x7 : Int} {x8 : Nat} (h0 : (-1) ≤ x2) (h1 : x2 ≤ 40) (h2 : 0 ≤ x2) (h3 : (-1) ≤ x3) (h4 : x3 ≤ 40) (h5 : x3 = x2) (h6 : x4 = 1) (h7 : 0 ≤ x5) (h8 : x5 ≤ 60) (h9 : x6 = x4 + x5) (h10 : (x7 = x3 ∧ x3 ≤ x6) ∨ (x7 = x6 ∧ x6 ≤ x3)) (h11 : 0 ≤ x0) (h12 : x0 ≤ 40) (h13 : 40 - x0 < ((x8 + 1 : Nat) : Int)) (h14 : x0 < x7) (h15 : ¬ x0 = 0) (h16 : x1 = 1) (h17 : -2147483648 ≤ x0) (h18 : x0 ≤ 2147483647) (h19 : -2147483648 ≤ x1) (h20 : x1 ≤ 2147483647) (h21 : -2147483648 ≤ x2) (h22 : x2 ≤ 2147483647) (h23 : -2147483648 ≤ x3) (h24 : x3 ≤ 2147483647) (h25 : -2147483648 ≤ x4) (h26 : x4 ≤ 2147483647) (h27 : -2147483648 ≤ x5) (h28 : x5 ≤ 2147483647) (h29 : -2147483648 ≤ x6) (h30 : x6 ≤ 2147483647) (h31 : -2147483648 ≤ x7) (h32 : x7 ≤ 2147483647) : -2147483648 ≤ x0 - x1 := by omega
theorem o28_225 {x0 x1 x2 x3 x4 x5 x6 x7 : Int} {x8 : Nat} (h0 : (-1) ≤ x2) (h1 : x2 ≤ 40) (h2 : 0 ≤ x2) (h3 : (-1) ≤ x3) (h4 : x3 ≤ 40) (h5 : x3 = x2) (h6 : x4 = 1) (h7 : 0 ≤ x5) (h8 : x5 ≤ 60) (h9 : x6 = x4 + x5) (h10 : (x7 = x3 ∧ x3 ≤ x6) ∨ (x7 = x6 ∧ x6 ≤ x3)) (h11 : 0 ≤ x0) (h12 : x0 ≤ 40) (h13 : 40 - x0 < ((x8 + 1 : Nat) : Int)) (h14 : x0 < x7) (h15 : ¬ x0 = 0) (h16 : x1 = 1) (h17 : -2147483648 ≤ x0) (h18 : x0 ≤ 2147483647) (h19 : -2147483648 ≤ x1) (h20 : x1 ≤ 2147483647) (h21 : -2147483648 ≤ x2) (h22 : x2 ≤ 2147483647) (h23 : -2147483648 ≤ x3) (h24 : x3 ≤ 2147483647) (h25 : -2147483648 ≤ x4) (h26 : x4 ≤ 2147483647) (h27 : -2147483648 ≤ x5) (h28 : x5 ≤ 2147483647) (h29 : -2147483648 ≤ x6) (h30 : x6 ≤ 2147483647) (h31 : -2147483648 ≤ x7) (h32 : x7 ≤ 2147483647) : x0 - x1 ≤ 2147483647 := by omega
theorem o28_226 {x0 x1 x2 x3 x4 x5 x6 x8 x9 : Int} {x7 : Nat} (h0 : (-1) ≤ x1) (h1 : x1 ≤ 40) (h2 : 0 ≤ x1) (h3 : (-1) ≤ x2) (h4 : x2 ≤ 40) (h5 : x2 = x1) (h6 : x3 = 1) (h7 : 0 ≤ x4) (h8 : x4 ≤ 60) (h9 : x5 = x3 + x4) (h10 : (x6 = x2 ∧ x2 ≤ x5) ∨ (x6 = x5 ∧ x5 ≤ x2)) (h11 : 0 ≤ x0) (h12 : x0 ≤ 40) (h13 : 40 - x0 < ((x7 + 1 : Nat) : Int)) (h14 : x0 < x6) (h15 : ¬ x0 = 0) (h16 : x8 = 1) (h17 : x9 = x0 - x8) : 0 ≤ x0 := by omega
theorem o28_227 {x0 x1 x2 x3 x4 x5 x6 x8 x9 : Int} {x7 : Nat} (h0 : (-1) ≤ x1) (h1 : x1 ≤ 40) (h2 : 0 ≤ x1) (h3 : (-1) ≤ x2) (h4 : x2 ≤ 40) (h5 : x2 = x1) (h6 : x3 = 1) (h7 : 0 ≤ x4) (h8 : x4 ≤ 60) (h9 : x5 = x3 + x4) (h10 : (x6 = x2 ∧ x2 ≤ x5) ∨ (x6 = x5 ∧ x5 ≤ x2)) (h11 : 0 ≤ x0) (h12 : x0 ≤ 40) (h13 : 40 - x0 < ((x7 + 1 : Nat) : Int)) (h14 : x0 < x6) (h15 : ¬ x0 = 0) (h16 : x8 = 1) (h17 : x9 = x0 - x8) : x0 ≤ 39 := by omega
theorem o28_228 {x0 x1 x2 x3 x4 x5 x6 x8 x9 : Int} {x7 : Nat} (h0 : (-1) ≤ x1) (h1 : x1 ≤ 40) (h2 : 0 ≤ x1) (h3 : (-1) ≤ x2) (h4 : x2 ≤ 40) (h5 : x2 = x1) (h6 : x3 = 1) (h7 : 0 ≤ x4) (h8 : x4 ≤ 60) (h9 : x5 = x3 + x4) (h10 : (x6 = x2 ∧ x2 ≤ x5) ∨ (x6 = x5 ∧ x5 ≤ x2)) (h11 : 0 ≤ x0) (h12 : x0 ≤ 40) (h13 : 40 - x0 < ((x7 + 1 : Nat) : Int)) (h14 : x0 < x6) (h15 : ¬ x0 = 0) (h16 : x8 = 1) (h17 : x9 = x0 - x8) (h18 : -2147483648 ≤ x0) (h19 : x0 ≤ 2147483647) (h20 : -2147483648 ≤ x1) (h21 : x1 ≤ 2147483647) (h22 : -2147483648 ≤ x2) (h23 : x2 ≤ 2147483647) (h24 : -2147483648 ≤ x3) (h25 : x3 ≤ 2147483647) (h26 : -2147483648 ≤ x4) (h27 : x4 ≤ 2147483647) (h28 : -2147483648 ≤ x5) (h29 : x5 ≤ 2147483647) (h30 : -2147483648 ≤ x6) (h31 : x6 ≤ 2147483647) (h32 : -2147483648 ≤ x8) (h33 : x8 ≤ 2147483647) (h34 : -2147483648 ≤ x9) (h35 : x9 ≤ 2147483647) : -2147483648 ≤ x0 + 1 := by omega
theorem o28_229 {x0 x1 x2 x3 x4 x5 x6 x8 x9 : Int} {x7 : Nat} (h0 : (-1) ≤ x1) (h1 : x1 ≤ 40) (h2 : 0 ≤ x1) (h3 : (-1) ≤ x2) (h4 : x2 ≤ 40) (h5 : x2 = x1) (h6 : x3 = 1) (h7 : 0 ≤ x4) (h8 : x4 ≤ 60) (h9 : x5 = x3 + x4) (h10 : (x6 = x2 ∧ x2 ≤ x5) ∨ (x6 = x5 ∧ x5 ≤ x2)) (h11 : 0 ≤ x0) (h12 : x0 ≤ 40) (h13 : 40 - x0 < ((x7 + 1 : Nat) : Int)) (h14 : x0 < x6) (h15 : ¬ x0 = 0) (h16 : x8 = 1) (h17 : x9 = x0 - x8) (h18 : -2147483648 ≤ x0) (h19 : x0 ≤ 2147483647) (h20 : -2147483648 ≤ x1) (h21 : x1 ≤ 2147483647) (h22 : -2147483648 ≤ x2) (h23 : x2 ≤ 2147483647) (h24 : -2147483648 ≤ x3) (h25 : x3 ≤ 2147483647) (h26 : -2147483648 ≤ x4) (h27 : x4 ≤ 2147483647) (h28 : -2147483648 ≤ x5) (h29 : x5 ≤ 2147483647) (h30 : -2147483648 ≤ x6) (h31 : x6 ≤ 2147483647) (h32 : -2147483648 ≤ x8) (h33 : x8 ≤ 2147483647) (h34 : -2147483648 ≤ x9) (h35 : x9 ≤ 2147483647) : x0 + 1 ≤ 2147483647 := by omega
theorem o28_230 {x0 x2 x3 x4 x5 x6 x7 x8 x9 x10 : Int} {x1 : Nat} (h0 : (-1) ≤ x2) (h1 : x2 ≤ 40) (h2 : 0 ≤ x2) (h3 : (-1) ≤ x3) (h4 : x3 ≤ 40) (h5 : x3 = x2) (h6 : x4 = 1) (h7 : 0 ≤ x5) (h8 : x5 ≤ 60) (h9 : x6 = x4 + x5) (h10 : (x7 = x3 ∧ x3 ≤ x6) ∨ (x7 = x6 ∧ x6 ≤ x3)) (h11 : 0 ≤ x8) (h12 : x8 ≤ 40) (h13 : 40 - x8 < ((x1 + 1 : Nat) : Int)) (h14 : x8 < x7) (h15 : ¬ x8 = 0) (h16 : x9 = 1) (h17 : x10 = x8 - x9) (h18 : x0 = x8 + 1) : 40 - x0 < (x1 : Int) := by omega
theorem o28_231 {x0 x1 x2 x3 x4 x5 x6 x7 x9 x10 : Int} {x8 : Nat} (h0 : (-1) ≤ x1) (h1 : x1 ≤ 40) (h2 : 0 ≤ x1) (h3 : (-1) ≤ x2) (h4 : x2 ≤ 40) (h5 : x2 = x1) (h6 : x3 = 1) (h7 : 0 ≤ x4) (h8 : x4 ≤ 60) (h9 : x5 = x3 + x4) (h10 : (x6 = x2 ∧ x2 ≤ x5) ∨ (x6 = x5 ∧ x5 ≤ x2)) (h11 : 0 ≤ x7) (h12 : x7 ≤ 40) (h13 : 40 - x7 < ((x8 + 1 : Nat) : Int)) (h14 : x7 < x6) (h15 : ¬ x7 = 0) (h16 : x9 = 1) (h17 : x10 = x7 - x9) (h18 : x0 = x7 + 1) : 0 ≤ x0 := by omega
theorem o28_232 {x0 x1 x2 x3 x4 x5 x6 x7 x9 x10 : Int} {x8 : Nat} (h0 : (-1) ≤ x1) (h1 : x1 ≤ 40) (h2 : 0 ≤ x1) (h3 : (-1) ≤ x2) (h4 : x2 ≤ 40) (h5 : x2 = x1) (h6 : x3 = 1) (h7 : 0 ≤ x4) (h8 : x4 ≤ 60) (h9 : x5 = x3 + x4) (h10 : (x6 = x2 ∧ x2 ≤ x5) ∨ (x6 = x5 ∧ x5 ≤ x2)) (h11 : 0 ≤ x7) (h12 : x7 ≤ 40) (h13 : 40 - x7 < ((x8 + 1 : Nat) : Int)) (h14 : x7 < x6) (h15 : ¬ x7 = 0) (h16 : x9 = 1) (h17 : x10 = x7 - x9) (h18 : x0 = x7 + 1) : x0 ≤ 40 := by omega
theorem o28_233 {x0 x1 x2 x3 x4 x5 x6 : Int} {x7 : Nat} (h0 : (-1) ≤ x1) (h1 : x1 ≤ 40) (h2 : 0 ≤ x1) (h3 : (-1) ≤ x2) (h4 : x2 ≤ 40) (h5 : x2 = x1) (h6 : x3 = 1) (h7 : 0 ≤ x4) (h8 : x4 ≤ 60) (h9 : x5 = x3 + x4) (h10 : (x6 = x2 ∧ x2 ≤ x5) ∨ (x6 = x5 ∧ x5 ≤ x2)) (h11 : 0 ≤ x0) (h12 : x0 ≤ 40) (h13 : 40 - x0 < ((x7 + 1 : Nat) : Int)) (h14 : x0 < x6) (h15 : x0 = 0) : 0 ≤ x0 := by omega
theorem o28_234 {x0 x1 x2 x3 x4 x5 x6 : Int} {x7 : Nat} (h0 : (-1) ≤ x1) (h1 : x1 ≤ 40) (h2 : 0 ≤ x1) (h3 : (-1) ≤ x2) (h4 : x2 ≤ 40) (h5 : x2 = x1) (h6 : x3 = 1) (h7 : 0 ≤ x4) (h8 : x4 ≤ 60) (h9 : x5 = x3 + x4) (h10 : (x6 = x2 ∧ x2 ≤ x5) ∨ (x6 = x5 ∧ x5 ≤ x2)) (h11 : 0 ≤ x0) (h12 : x0 ≤ 40) (h13 : 40 - x0 < ((x7 + 1 : Nat) : Int)) (h14 : x0 < x6) (h15 : x0 = 0) : x0 ≤ 39 := by omega
theorem o28_235 {x0 x1 x2 x3 x4 x5 x6 : Int} {x7 : Nat} (h0 : (-1) ≤ x1) (h1 : x1 ≤ 40) (h2 : 0 ≤ x1) (h3 : (-1) ≤ x2) (h4 : x2 ≤ 40) (h5 : x2 = x1) (h6 : x3 = 1) (h7 : 0 ≤ x4) (h8 : x4 ≤ 60) (h9 : x5 = x3 + x4) (h10 : (x6 = x2 ∧ x2 ≤ x5) ∨ (x6 = x5 ∧ x5 ≤ x2)) (h11 : 0 ≤ x0) (h12 : x0 ≤ 40) (h13 : 40 - x0 < ((x7 + 1 : Nat) : Int)) (h14 : x0 < x6) (h15 : x0 = 0) : x0 = 0 := by omega
theorem o28_236 {x0 x1 x2 x3 x4 x5 x6 : Int} {x7 : Nat} (h0 : (-1) ≤ x1) (h1 : x1 ≤ 40) (h2 : 0 ≤ x1) (h3 : (-1) ≤ x2) (h4 : x2 ≤ 40) (h5 : x2 = x1) (h6 : x3 = 1) (h7 : 0 ≤ x4) (h8 : x4 ≤ 60) (h9 : x5 = x3 + x4) (h10 : (x6 = x2 ∧ x2 ≤ x5) ∨ (x6 = x5 ∧ x5 ≤ x2)) (h11 : 0 ≤ x0) (h12 : x0 ≤ 40) (h13 : 40 - x0 < ((x7 + 1 : Nat) : Int)) (h14 : x0 < x6) (h15 : x0 = 0) (h16 : -2147483648 ≤ x0) (h17 : x0 ≤ 2147483647) (h18 : -2147483648 ≤ x1) (h19 : x1 ≤ 2147483647) (h20 : -2147483648 ≤ x2) (h21 : x2 ≤ 2147483647) (h22 : -2147483648 ≤ x3) (h23 : x3 ≤ 2147483647) (h24 : -2147483648 ≤ x4) (h25 : x4 ≤ 2147483647) (h26 : -2147483648 ≤ x5) (h27 : x5 ≤ 2147483647) (h28 : -2147483648 ≤ x6) (h29 : x6 ≤ 2147483647) : -2147483648 ≤ x0 + 1 := by omega
theorem o28_237 {x0 x1 x2 x3 x4 x5 x6 : Int} {x7 : Nat} (h0 : (-1) ≤ x1) (h1 : x1 ≤ 40) (h2 : 0 ≤ x1) (h3 : (-1) ≤ x2) (h4 : x2 ≤ 40) (h5 : x2 = x1) (h6 : x3 = 1) (h7 : 0 ≤ x4) (h8 : x4 ≤ 60) (h9 : x5 = x3 + x4) (h10 : (x6 = x2 ∧ x2 ≤ x5) ∨ (x6 = x5 ∧ x5 ≤ x2)) (h11 : 0 ≤ x0) (h12 : x0 ≤ 40) (h13 : 40 - x0 < ((x7 + 1 : Nat) : Int)) (h14 : x0 < x6) (h15 : x0 = 0) (h16 : -2147483648 ≤ x0) (h17 : x0 ≤ 2147483647) (h18 : -2147483648 ≤ x1) (h19 : x1 ≤ 2147483647) (h20 : -2147483648 ≤ x2) (h21 : x2 ≤ 2147483647) (h22 : -2147483648 ≤ x3) (h23 : x3 ≤ 2147483647) (h24 : -2147483648 ≤ x4) (h25 : x4 ≤ 2147483647) (h26 : -2147483648 ≤ x5) (h27 : x5 ≤ 2147483647) (h28 : -2147483648 ≤ x6) (h29 : x6 ≤ 2147483647) : x0 + 1 ≤ 2147483647 := by omega
theorem o28_238 {x0 x2 x3 x4 x5 x6 x7 x8 : Int} {x1 : Nat} (h0 : (-1) ≤ x2) (h1 : x2 ≤ 40) (h2 : 0 ≤ x2) (h3 : (-1) ≤ x3) (h4 : x3 ≤ 40) (h5 : x3 = x2) (h6 : x4 = 1) (h7 : 0 ≤ x5) (h8 : x5 ≤ 60) (h9 : x6 = x4 + x5) (h10 : (x7 = x3 ∧ x3 ≤ x6) ∨ (x7 = x6 ∧ x6 ≤ x3)) (h11 : 0 ≤ x8) (h12 : x8 ≤ 40) (h13 : 40 - x8 < ((x1 + 1 : Nat) : Int)) (h14 : x8 < x7) (h15 : x8 = 0) (h16 : x0 = x8 + 1) : 40 - x0 < (x1 : Int) := by omega
theorem o28_239 {x0 x1 x2 x3 x4 x5 x6 x7 : Int} {x8 : Nat} (h0 : (-1) ≤ x1) (h1 : x1 ≤ 40) (h2 : 0 ≤ x1) (h3 : (-1) ≤ x2) (h4 : x2 ≤ 40) (h5 : x2 = x1) (h6 : x3 = 1) (h7 : 0 ≤ x4) (h8 : x4 ≤ 60) (h9 : x5 = x3 + x4) (h10 : (x6 = x2 ∧ x2 ≤ x5) ∨ (x6 = x5 ∧ x5 ≤ x2)) (h11 : 0 ≤ x7) (h12 : x7 ≤ 40) (h13 : 40 - x7 < ((x8 + 1 : Nat) : Int)) (h14 : x7 < x6) (h15 : x7 = 0) (h16 : x0 = x7 + 1) : 0 ≤ x0 := by omega
theorem o28_240 {x0 x1 x2 x3 x4 x5 x6 x7 : Int} {x8 : Nat} (h0 : (-1) ≤ x1) (h1 : x1 ≤ 40) (h2 : 0 ≤ x1) (h3 : (-1) ≤ x2) (h4 : x2 ≤ 40) (h5 : x2 = x1) (h6 : x3 = 1) (h7 : 0 ≤ x4) (h8 : x4 ≤ 60) (h9 : x5 = x3 + x4) (h10 : (x6 = x2 ∧ x2 ≤ x5) ∨ (x6 = x5 ∧ x5 ≤ x2)) (h11 : 0 ≤ x7) (h12 : x7 ≤ 40) (h13 : 40 - x7 < ((x8 + 1 : Nat) : Int)) (h14 : x7 < x6) (h15 : x7 = 0) (h16 : x0 = x7 + 1) : x0 ≤ 40 := by omega
theorem o28_241 {x0 x1 x2 x3 x4 x5 x6 x8 : Int} {x7 : Nat} (h0 : (-1) ≤ x1) (h1 : x1 ≤ 40) (h2 : 0 ≤ x1) (h3 : (-1) ≤ x2) (h4 : x2 ≤ 40) (h5 : x2 = x1) (h6 : x3 = 1) (h7 : 0 ≤ x4) (h8 : x4 ≤ 60) (h9 : x5 = x3 + x4) (h10 : (x6 = x2 ∧ x2 ≤ x5) ∨ (x6 = x5 ∧ x5 ≤ x2)) (h11 : 0 ≤ x0) (h12 : x0 ≤ 40) (h13 : 40 - x0 < ((x7 + 1 : Nat) : Int)) (h14 : x0 < x6) (h15 : x0 = 0) (h16 : x8 = x0 + 1) : x0 = 0 := by omega
theorem o28_242 {x0 : Int} (h0 : x0 = 0) : 40 - x0 < (((40 - x0 + 1).toNat : Nat) : Int) := by omega
theorem o28_243 {x0 : Int} (h0 : x0 = 0) : x0 ≤ 40 := by omega
theorem o28_244 {x0 x1 x2 x3 x4 x5 : Int} (h0 : (-1) ≤ x1) (h1 : x1 ≤ 40) (h2 : 0 ≤ x1) (h3 : (-1) ≤ x2) (h4 : x2 ≤ 40) (h5 : x2 = x1) (h6 : x0 = 1) (h7 : 0 ≤ x3) (h8 : x3 ≤ 60) (h9 : x4 = x0 + x3) (h10 : (x5 = x2 ∧ x2 ≤ x4) ∨ (x5 = x4 ∧ x4 ≤ x2)) : x0 = 1 := by omega
theorem o28_245 {x0 : Int} (h0 : x0 = (-5)) : (-6) ≤ x0 := by omega
theorem o28_246 {x0 : Int} (h0 : x0 = (-5)) : x0 ≤ 40 := by omega
theorem o28_247 {x0 : Int} (h0 : x0 = (-6)) : (-6) ≤ x0 := by omega
theorem o28_248 {x0 : Int} (h0 : x0 = (-6)) : x0 ≤ 40 := by omega
theorem o28_249 {x0 x1 : Int} (h0 : x1 < 0) (h1 : x0 = (-2)) : ((x0 = -2 ∧ (x1 < 0 ∨ 1 < x1)) ∨ (x0 = 0 ∧ 0 ≤ x1 ∧ x1 ≤ 1)) := by omega
theorem o28_250 {x0 x1 : Int} (h0 : 0 ≤ x0) (h1 : x1 = 2) (h2 : x0 < x1) : x0 < 2 := by omega
theorem o28_251 {x0 x1 : Int} (h0 : 0 ≤ x0) (h1 : x1 = 2) (h2 : x1 ≤ x0) : ¬ x0 < 2 := by omega
theorem o28_252 {x0 x1 : Int} (h0 : 0 ≤ x0) (h1 : x1 = 2) (h2 : x0 < x1) : 0 ≤ x0 := by omega
theorem o28_253 {x0 x1 : Int} (h0 : 0 ≤ x0) (h1 : x1 = 2) (h2 : x0 < x1) : x0 < (2 : Nat) := by omega
theorem o28_254 {x0 x1 : Int} (h0 : 0 ≤ x0) (h1 : x1 = 2) (h2 : x0 < x1) : (x0).toNat < 2 := by omega
theorem o28_255 {x0 : Int} (h0 : x0 = 1) : 0 ≤ x0 := by omega
theorem o28_256 {x0 : Int} (h0 : x0 = 1) : x0 ≤ 1 := by omega
theorem o28_257 {x0 : Int} (h0 : x0 = 0) : (-2) ≤ x0 := by omega
theorem o28_258 {x0 x1 x2 : Int} (h0 : 0 ≤ x1) (h1 : x2 = 2) (h2 : x1 < x2) (h3 : x0 = 0) : ((x0 = -2 ∧ (x1 < 0 ∨ 1 < x1)) ∨ (x0 = 0 ∧ 0 ≤ x1 ∧ x1 ≤ 1)) := by omega
theorem o28_259 {x0 x1 x2 : Int} (h0 : 0 ≤ x1) (h1 : x2 = 2) (h2 : x2 ≤ x1) (h3 : x0 = (-2)) : ((x0 = -2 ∧ (x1 < 0 ∨ 1 < x1)) ∨ (x0 = 0 ∧ 0 ≤ x1 ∧ x1 ≤ 1)) := by omega
theorem o28_260 {x0 : Int} (h0 : x0 = (-2)) : (-5) ≤ x0 := by omega
theorem o28_261 {x0 : Int} (h0 : x0 = 0) : (-5) ≤ x0 := by omega
theorem o28_262 {x0 : Int} (h0 : x0 = (-5)) : (-5) ≤ x0 := by omega
theorem o28_263 {x0 : Int} (h0 : x0 = (-5)) : x0 ≤ 0 := by omega
noncomputable def g3_X11_way (s : XS) : XR := (s, ((-2)))
noncomputable def g10_X11_way (s : XS) : XR := (s, ((-3)))
noncomputable def g16c_X11_way (s : XS) (r_44 : Int) : XR := (s, r_44)
noncomputable def g15c_X11_way (s : XS) (r_32 : Int) (a2 : Int) (a3 : Int) : XR := g16c_X11_way ((f_X8_fewestStreets s r_32 a2 a3 60 0).1) (((f_X8_fewestStreets s r_32 a2 a3 60 0).2))
noncomputable def g13_X11_way (s : XS) (a1 : Int) (a2 : Int) (a3 : Int) : XR := g15c_X11_way ((f_X1_stand s 10 a1).1) (((f_X1_stand s 10 a1).2)) a2 a3
noncomputable def g14_X11_way (s : XS) : XR := (s, ((-3)))
noncomputable def g12b_X11_way (s : XS) (a3 : Int) (a1 : Int) (a2 : Int) : XR := if 120 < a3 then g14_X11_way s else g13_X11_way s a1 a2 a3
noncomputable def g11_X11_way (s : XS) (a1 : Int) (a2 : Int) (a3 : Int) : XR := g12b_X11_way s a3 a1 a2
noncomputable def g9b_X11_way (s : XS) (a3 : Int) (a1 : Int) (a2 : Int) : XR := if a3 < 0 then g10_X11_way s else g11_X11_way s a1 a2 a3
noncomputable def g7_X11_way (s : XS) (a1 : Int) (a2 : Int) (a3 : Int) : XR := g9b_X11_way s a3 a1 a2
noncomputable def g8_X11_way (s : XS) : XR := (s, ((-2)))
noncomputable def g6b_X11_way (s : XS) (r_16 : Int) (a1 : Int) (a2 : Int) (a3 : Int) : XR := if r_16 = 0 then g8_X11_way s else g7_X11_way s a1 a2 a3
noncomputable def g5c_X11_way (s : XS) (r_16 : Int) (a1 : Int) (a2 : Int) (a3 : Int) : XR := g6b_X11_way s r_16 a1 a2 a3
noncomputable def g4_X11_way (s : XS) (a1 : Int) (a2 : Int) (a3 : Int) : XR := g5c_X11_way ((f_X11_isCrossing s a2).1) (((f_X11_isCrossing s a2).2)) a1 a2 a3
noncomputable def g2b_X11_way (s : XS) (r_4 : Int) (a1 : Int) (a2 : Int) (a3 : Int) : XR := if r_4 = 0 then g3_X11_way s else g4_X11_way s a1 a2 a3
noncomputable def g1c_X11_way (s : XS) (r_4 : Int) (a1 : Int) (a2 : Int) (a3 : Int) : XR := g2b_X11_way s r_4 a1 a2 a3
noncomputable def f_X11_way (s : XS) (a1 : Int) (a2 : Int) (a3 : Int) : XR := g1c_X11_way ((f_X11_isPerson s a1).1) (((f_X11_isPerson s a1).2)) a1 a2 a3
set_option maxHeartbeats 4000000 in
set_option maxRecDepth 100000 in
theorem c_X11_way (l : Launch) (G : GG) (Z : RZ) (ad : Nat → Nat) (ws0 : va_W) (hT : Ty G SC ad ws0) (a1 : Int32) (a2 : Int32) (a3 : Int32) (hR : Rel ws0) (hH : Hok ws0) : Mq l yX11_way cX11_way 4 (some .int) 7 G Z [.ref (ad 0), .int a1, .int a2, .int a3] ws0 (PI G SC ad [4, 5, 18, 19, 20, 21, 22, 23] ws0 (fun r u => (xso SC ad u = (f_X11_way (xso SC ad ws0) a1.toInt a2.toInt a3.toInt).1) ∧ (r.toInt = (f_X11_way (xso SC ad ws0) a1.toInt a2.toInt a3.toInt).2) ∧ ((-3) ≤ r.toInt) ∧ (r.toInt ≤ 60) ∧ (Rel u) ∧ (Hok u))) := by
  refine Mq.start (by decide) (Nat.le_of_ble_eq_true rfl) ?_
  intro p e s m below meth c A ls C0 hZ h hl
  have hl : lv_has ls 4 [(0, .ref (ad 0)), (1, .int a1), (2, .int a2), (3, .int a3)] := hl
  have h : Wt G SC ad A s s.heap [] ws0 := ⟨h, hT⟩
  obtain ⟨args, hargs⟩ : ∃ z, z = ([.ref (ad 0), .int a1, .int a2, .int a3] : List Value).toArray := ⟨_, rfl⟩
  rw [← hargs] at C0 ⊢
  have C0 : Cx p s m args meth c RX11 cX11_way 4 (some .int) := C0
  obtain ⟨Q, hQ⟩ : ∃ z, z = MQ below ((PI G SC ad [4, 5, 18, 19, 20, 21, 22, 23] ws0 (fun r u => (xso SC ad u = (f_X11_way (xso SC ad ws0) a1.toInt a2.toInt a3.toInt).1) ∧ (r.toInt = (f_X11_way (xso SC ad ws0) a1.toInt a2.toInt a3.toInt).2) ∧ ((-3) ≤ r.toInt) ∧ (r.toInt ≤ 60) ∧ (Rel u) ∧ (Hok u))) A) args s 0 0 A := ⟨_, rfl⟩
  rw [← hQ]
  obtain ⟨FT, hFT⟩ : ∃ z, z = f_X11_way (xso SC ad ws0) a1.toInt a2.toInt a3.toInt := ⟨_, rfl⟩
  have HE : FT = f_X11_way (xso SC ad ws0) a1.toInt a2.toInt a3.toInt := hFT
  refine lv_aload_n C0.1 C0.2.1 dX11_way_0 rfl (lv_at hl 0 rfl) ?_
  refine lv_iload_n C0.1 C0.2.1 dX11_way_1 rfl (lv_at hl 1 rfl) ?_
  refine y_ci h (y_rV (As := [.int a1]) (rest := []) C0 hZ h (c_X11_isPerson l G Z ad _ h.2 a1) k_X11_isPerson q_903 q_23 q_901 kSC_0 rfl rfl rfl hl.1 rfl rfl (Nat.le_of_ble_eq_true rfl) dX11_way_2 ⟨Nat.le_of_ble_eq_true rfl, Nat.le_of_ble_eq_true rfl⟩ ⟨Nat.le_of_ble_eq_true rfl, Nat.le_of_ble_eq_true rfl⟩) (fun r_4 H locs ws_1 h u_2 p_3 => ?_)
  obtain ⟨e_5, e_6, e_7, e_8, e_9⟩ := p_3
  replace HE : FT = g1c_X11_way (xso SC ad ws_1) r_4.toInt a1.toInt a2.toInt a3.toInt := HE.trans (by rw [e_5, e_6]; rfl)
  replace HE : FT = g2b_X11_way (xso SC ad ws_1) r_4.toInt a1.toInt a2.toInt a3.toInt := HE.trans rfl
  refine y_if_eq (tgt := 16) C0 dX11_way_5 (by decide) (fun c_10 => ?_) (fun c_10 => ?_)
  · -- 5
    replace HE : FT = g3_X11_way (xso SC ad ws_1) := HE.trans (if_pos c_10)
    refine y_c2 (n := (-2)) C0 (by decide) dX11_way_16 (fun v_11 e_12 => ?_)
    replace HE : FT = ((xso SC ad ws_1), v_11.toInt) := HE.trans (by rw [e_12]; rfl)
    rw [hQ]
    exact y_iret C0 h (Fr.mono u_2 (by decide)) ⟨(congrArg Prod.fst (HE.symm.trans hFT)), (congrArg Prod.snd (HE.symm.trans hFT)), (o28_1 e_12), (o28_2 e_12), (Rel.fr (M := []) hR u_2 (by decide) (by decide)), (Hok.fr (M := []) hH u_2 (by decide))⟩ dX11_way_18
  · -- 5
    replace HE : FT = g4_X11_way (xso SC ad ws_1) a1.toInt a2.toInt a3.toInt := HE.trans (if_neg c_10)
    refine lv_aload_n C0.1 C0.2.1 dX11_way_8 rfl (lv_at hl 0 rfl) ?_
    refine lv_iload_n C0.1 C0.2.1 dX11_way_9 rfl (lv_at hl 2 rfl) ?_
    refine y_ci h (y_rV (As := [.int a2]) (rest := []) C0 hZ h (c_X11_isCrossing l G Z ad _ h.2 a2) k_X11_isCrossing q_915 q_25 q_913 kSC_0 rfl rfl rfl hl.1 rfl rfl (Nat.le_of_ble_eq_true rfl) dX11_way_10 ⟨Nat.le_of_ble_eq_true rfl, Nat.le_of_ble_eq_true rfl⟩ ⟨Nat.le_of_ble_eq_true rfl, Nat.le_of_ble_eq_true rfl⟩) (fun r_16 H locs ws_13 h u_14 p_15 => ?_)
    obtain ⟨e_17, e_18, e_19, e_20, e_21⟩ := p_15
    replace HE : FT = g5c_X11_way (xso SC ad ws_13) r_16.toInt a1.toInt a2.toInt a3.toInt := HE.trans (by rw [e_17, e_18]; rfl)
    replace HE : FT = g6b_X11_way (xso SC ad ws_13) r_16.toInt a1.toInt a2.toInt a3.toInt := HE.trans rfl
    refine y_if_ne (tgt := 19) C0 dX11_way_13 (by decide) (fun c_22 => ?_) (fun c_22 => ?_)
    · -- 13
      replace HE : FT = g7_X11_way (xso SC ad ws_13) a1.toInt a2.toInt a3.toInt := HE.trans (if_neg c_22)
      refine lv_iload_n C0.1 C0.2.1 dX11_way_19 rfl (lv_at hl 3 rfl) ?_
      replace HE : FT = g9b_X11_way (xso SC ad ws_13) a3.toInt a1.toInt a2.toInt := HE.trans rfl
      refine y_if_lt (tgt := 29) C0 dX11_way_20 (by decide) (fun c_23 => ?_) (fun c_23 => ?_)
      · -- 20
        replace HE : FT = g10_X11_way (xso SC ad ws_13) := HE.trans (if_pos c_23)
        refine y_c2 (n := (-3)) C0 (by decide) dX11_way_29 (fun v_24 e_25 => ?_)
        replace HE : FT = ((xso SC ad ws_13), v_24.toInt) := HE.trans (by rw [e_25]; rfl)
        rw [hQ]
        exact y_iret C0 h (Fr.tr (Fr.mono u_2 (by decide)) (Fr.mono u_14 (by decide))) ⟨(congrArg Prod.fst (HE.symm.trans hFT)), (congrArg Prod.snd (HE.symm.trans hFT)), (o28_3 e_25), (o28_4 e_25), (Rel.fr (M := []) hR (Fr.tr u_2 u_14) (by decide) (by decide)), (Hok.fr (M := []) hH (Fr.tr u_2 u_14) (by decide))⟩ dX11_way_31
      · -- 20
        replace HE : FT = g11_X11_way (xso SC ad ws_13) a1.toInt a2.toInt a3.toInt := HE.trans (if_neg (Int.not_lt.mpr c_23))
        refine lv_iload_n C0.1 C0.2.1 dX11_way_23 rfl (lv_at hl 3 rfl) ?_
        refine y_c2 (n := 120) C0 (by decide) dX11_way_24 (fun v_26 e_27 => ?_)
        replace HE : FT = g12b_X11_way (xso SC ad ws_13) a3.toInt a1.toInt a2.toInt := HE.trans rfl
        refine y_icmp_le (tgt := 32) C0 dX11_way_26 (by decide) (fun c_28 => ?_) (fun c_28 => ?_)
        · -- 26
          replace HE : FT = g13_X11_way (xso SC ad ws_13) a1.toInt a2.toInt a3.toInt := HE.trans (if_neg (o28_6 c_23 e_27 c_28))
          refine lv_aload_n C0.1 C0.2.1 dX11_way_32 rfl (lv_at hl 0 rfl) ?_
          refine tg_X11_spread C0 h kSC_0 q_522 dX11_way_33 ?_
          refine lv_aload_n C0.1 C0.2.1 dX11_way_36 rfl (lv_at hl 0 rfl) ?_
          refine tg_X11_now C0 h kSC_0 q_515 dX11_way_37 ?_
          refine tg_X0_folk C0 h kSC_1 q_249 dX11_way_40 ?_
          refine lv_iload_n C0.1 C0.2.1 dX11_way_43 rfl (lv_at hl 1 rfl) ?_
          refine y_ci h (y_rV (As := [.int a1]) (rest := [.ref (ad 83)]) C0 hZ h (c_X1_stand l G Z ad _ h.2 10 kSC_10 a1 (o28_8 e_7 e_8 e_9 c_10) (o28_9 e_7 e_8 e_9 c_10)) k_X1_stand q_1071 q_1072 q_1070 kSC_10 rfl rfl rfl hl.1 rfl rfl (Nat.le_of_ble_eq_true rfl) dX11_way_44 ⟨Nat.le_of_ble_eq_true rfl, Nat.le_of_ble_eq_true rfl⟩ ⟨Nat.le_of_ble_eq_true rfl, Nat.le_of_ble_eq_true rfl⟩) (fun r_32 H locs ws_29 h u_30 p_31 => ?_)
          obtain ⟨e_33, e_34, e_35, e_36⟩ := p_31
          replace HE : FT = g15c_X11_way (xso SC ad ws_29) r_32.toInt a2.toInt a3.toInt := HE.trans (by rw [e_33, e_34]; rfl)
          refine lv_iload_n C0.1 C0.2.1 dX11_way_47 rfl (lv_at hl 2 rfl) ?_
          refine lv_iload_n C0.1 C0.2.1 dX11_way_48 rfl (lv_at hl 3 rfl) ?_
          refine y_c2 (n := 60) C0 (by decide) dX11_way_49 (fun v_37 e_38 => ?_)
          refine y_c1 (n := 0) C0 (by decide) dX11_way_51 (fun v_39 e_40 => ?_)
          refine y_ci h (y_rV (As := [.int r_32, .int a2, .int a3, .int v_37, .int v_39]) (rest := []) C0 hZ h (c_X8_fewestStreets l G Z ad _ h.2 r_32 a2 a3 v_37 v_39 (o28_10 e_35 e_36) (o28_11 e_35 e_36) (o28_12 c_23 e_27 c_28) (o28_13 c_23 e_27 c_28) (o28_14 e_38) (o28_15 e_38)) k_X8_fewestStreets q_1075 q_1076 q_1074 kSC_83 rfl rfl rfl hl.1 rfl rfl (Nat.le_of_ble_eq_true rfl) dX11_way_52 ⟨Nat.le_of_ble_eq_true rfl, Nat.le_of_ble_eq_true rfl⟩ ⟨Nat.le_of_ble_eq_true rfl, Nat.le_of_ble_eq_true rfl⟩) (fun r_44 H locs ws_41 h u_42 p_43 => ?_)
          obtain ⟨e_45, e_46, e_47, e_48⟩ := p_43
          replace HE : FT = g16c_X11_way (xso SC ad ws_41) r_44.toInt := HE.trans (by rw [e_45, e_46, e_40, e_38]; rfl)
          replace HE : FT = ((xso SC ad ws_41), r_44.toInt) := HE.trans rfl
          rw [hQ]
          exact y_iret C0 h (Fr.tr (Fr.tr (Fr.tr (Fr.mono u_2 (by decide)) (Fr.mono u_14 (by decide))) (Fr.mono u_30 (by decide))) u_42) ⟨(congrArg Prod.fst (HE.symm.trans hFT)), (congrArg Prod.snd (HE.symm.trans hFT)), (o28_16 e_47 e_48), (o28_17 e_47 e_48), (Rel.fr (M := [4, 5, 18, 19, 20, 21, 22, 23]) hR (Fr.tr (Fr.tr (Fr.tr (Fr.mono u_2 (by decide)) (Fr.mono u_14 (by decide))) (Fr.mono u_30 (by decide))) u_42) (by decide) (by decide)), (Hok.fr (M := [4, 5, 18, 19, 20, 21, 22, 23]) hH (Fr.tr (Fr.tr (Fr.tr (Fr.mono u_2 (by decide)) (Fr.mono u_14 (by decide))) (Fr.mono u_30 (by decide))) u_42) (by decide))⟩ dX11_way_55
        · -- 26
          replace HE : FT = g14_X11_way (xso SC ad ws_13) := HE.trans (if_pos (o28_7 c_23 e_27 c_28))
          refine y_c2 (n := (-3)) C0 (by decide) dX11_way_29 (fun v_49 e_50 => ?_)
          replace HE : FT = ((xso SC ad ws_13), v_49.toInt) := HE.trans (by rw [e_50]; rfl)
          rw [hQ]
          exact y_iret C0 h (Fr.tr (Fr.mono u_2 (by decide)) (Fr.mono u_14 (by decide))) ⟨(congrArg Prod.fst (HE.symm.trans hFT)), (congrArg Prod.snd (HE.symm.trans hFT)), (o28_3 e_50), (o28_4 e_50), (Rel.fr (M := []) hR (Fr.tr u_2 u_14) (by decide) (by decide)), (Hok.fr (M := []) hH (Fr.tr u_2 u_14) (by decide))⟩ dX11_way_31
    · -- 13
      replace HE : FT = g8_X11_way (xso SC ad ws_13) := HE.trans (if_pos c_22)
      refine y_c2 (n := (-2)) C0 (by decide) dX11_way_16 (fun v_51 e_52 => ?_)
      replace HE : FT = ((xso SC ad ws_13), v_51.toInt) := HE.trans (by rw [e_52]; rfl)
      rw [hQ]
      exact y_iret C0 h (Fr.tr (Fr.mono u_2 (by decide)) (Fr.mono u_14 (by decide))) ⟨(congrArg Prod.fst (HE.symm.trans hFT)), (congrArg Prod.snd (HE.symm.trans hFT)), (o28_1 e_52), (o28_2 e_52), (Rel.fr (M := []) hR (Fr.tr u_2 u_14) (by decide) (by decide)), (Hok.fr (M := []) hH (Fr.tr u_2 u_14) (by decide))⟩ dX11_way_18
noncomputable def g3_X11_turn (s : XS) : XR := (s, ((-2)))
noncomputable def g10_X11_turn (s : XS) : XR := (s, ((-3)))
noncomputable def g13_X11_turn (s : XS) : XR := (s, ((-3)))
noncomputable def g23c_X11_turn (s : XS) (r_52 : Int) : XR := (s, r_52)
noncomputable def g21_X11_turn (s : XS) (a4 : Int) : XR := g23c_X11_turn ((f_X7_turnAt s a4).1) (((f_X7_turnAt s a4).2))
noncomputable def g22_X11_turn (s : XS) : XR := (s, ((-1)))
noncomputable def g20b_X11_turn (s : XS) (r_43 : Int) (a4 : Int) : XR := if r_43 = 0 then g22_X11_turn s else g21_X11_turn s a4
noncomputable def g19c_X11_turn (s : XS) (r_43 : Int) (a4 : Int) : XR := g20b_X11_turn s r_43 a4
noncomputable def g18c_X11_turn (s : XS) (r_35 : Int) (a2 : Int) (a3 : Int) (a4 : Int) : XR := g19c_X11_turn ((f_X7_shortest s r_35 a2 a3).1) (((f_X7_shortest s r_35 a2 a3).2)) a4
noncomputable def g16_X11_turn (s : XS) (a1 : Int) (a2 : Int) (a3 : Int) (a4 : Int) : XR := g18c_X11_turn ((f_X1_stand s 10 a1).1) (((f_X1_stand s 10 a1).2)) a2 a3 a4
noncomputable def g17_X11_turn (s : XS) : XR := (s, ((-3)))
noncomputable def g15b_X11_turn (s : XS) (a4 : Int) (a1 : Int) (a2 : Int) (a3 : Int) : XR := if a4 < 0 then g17_X11_turn s else g16_X11_turn s a1 a2 a3 a4
noncomputable def g14_X11_turn (s : XS) (a1 : Int) (a2 : Int) (a3 : Int) (a4 : Int) : XR := g15b_X11_turn s a4 a1 a2 a3
noncomputable def g12b_X11_turn (s : XS) (a3 : Int) (a1 : Int) (a2 : Int) (a4 : Int) : XR := if 120 < a3 then g13_X11_turn s else g14_X11_turn s a1 a2 a3 a4
noncomputable def g11_X11_turn (s : XS) (a1 : Int) (a2 : Int) (a3 : Int) (a4 : Int) : XR := g12b_X11_turn s a3 a1 a2 a4
noncomputable def g9b_X11_turn (s : XS) (a3 : Int) (a1 : Int) (a2 : Int) (a4 : Int) : XR := if a3 < 0 then g10_X11_turn s else g11_X11_turn s a1 a2 a3 a4
noncomputable def g7_X11_turn (s : XS) (a1 : Int) (a2 : Int) (a3 : Int) (a4 : Int) : XR := g9b_X11_turn s a3 a1 a2 a4
noncomputable def g8_X11_turn (s : XS) : XR := (s, ((-2)))
noncomputable def g6b_X11_turn (s : XS) (r_16 : Int) (a1 : Int) (a2 : Int) (a3 : Int) (a4 : Int) : XR := if r_16 = 0 then g8_X11_turn s else g7_X11_turn s a1 a2 a3 a4
noncomputable def g5c_X11_turn (s : XS) (r_16 : Int) (a1 : Int) (a2 : Int) (a3 : Int) (a4 : Int) : XR := g6b_X11_turn s r_16 a1 a2 a3 a4
noncomputable def g4_X11_turn (s : XS) (a1 : Int) (a2 : Int) (a3 : Int) (a4 : Int) : XR := g5c_X11_turn ((f_X11_isCrossing s a2).1) (((f_X11_isCrossing s a2).2)) a1 a2 a3 a4
noncomputable def g2b_X11_turn (s : XS) (r_4 : Int) (a1 : Int) (a2 : Int) (a3 : Int) (a4 : Int) : XR := if r_4 = 0 then g3_X11_turn s else g4_X11_turn s a1 a2 a3 a4
noncomputable def g1c_X11_turn (s : XS) (r_4 : Int) (a1 : Int) (a2 : Int) (a3 : Int) (a4 : Int) : XR := g2b_X11_turn s r_4 a1 a2 a3 a4
noncomputable def f_X11_turn (s : XS) (a1 : Int) (a2 : Int) (a3 : Int) (a4 : Int) : XR := g1c_X11_turn ((f_X11_isPerson s a1).1) (((f_X11_isPerson s a1).2)) a1 a2 a3 a4
set_option maxHeartbeats 4000000 in
set_option maxRecDepth 100000 in
theorem c_X11_turn (l : Launch) (G : GG) (Z : RZ) (ad : Nat → Nat) (ws0 : va_W) (hT : Ty G SC ad ws0) (a1 : Int32) (a2 : Int32) (a3 : Int32) (a4 : Int32) (hR : Rel ws0) (hH : Hok ws0) : Mq l yX11_turn cX11_turn 5 (some .int) 8 G Z [.ref (ad 0), .int a1, .int a2, .int a3, .int a4] ws0 (PI G SC ad [4, 5, 18, 19, 20, 21, 22, 23, 25, 26, 27] ws0 (fun r u => (xso SC ad u = (f_X11_turn (xso SC ad ws0) a1.toInt a2.toInt a3.toInt a4.toInt).1) ∧ (r.toInt = (f_X11_turn (xso SC ad ws0) a1.toInt a2.toInt a3.toInt a4.toInt).2) ∧ (Rel u) ∧ (Hok u))) := by
  refine Mq.start (by decide) (Nat.le_of_ble_eq_true rfl) ?_
  intro p e s m below meth c A ls C0 hZ h hl
  have hl : lv_has ls 5 [(0, .ref (ad 0)), (1, .int a1), (2, .int a2), (3, .int a3), (4, .int a4)] := hl
  have h : Wt G SC ad A s s.heap [] ws0 := ⟨h, hT⟩
  obtain ⟨args, hargs⟩ : ∃ z, z = ([.ref (ad 0), .int a1, .int a2, .int a3, .int a4] : List Value).toArray := ⟨_, rfl⟩
  rw [← hargs] at C0 ⊢
  have C0 : Cx p s m args meth c RX11 cX11_turn 5 (some .int) := C0
  obtain ⟨Q, hQ⟩ : ∃ z, z = MQ below ((PI G SC ad [4, 5, 18, 19, 20, 21, 22, 23, 25, 26, 27] ws0 (fun r u => (xso SC ad u = (f_X11_turn (xso SC ad ws0) a1.toInt a2.toInt a3.toInt a4.toInt).1) ∧ (r.toInt = (f_X11_turn (xso SC ad ws0) a1.toInt a2.toInt a3.toInt a4.toInt).2) ∧ (Rel u) ∧ (Hok u))) A) args s 0 0 A := ⟨_, rfl⟩
  rw [← hQ]
  obtain ⟨FT, hFT⟩ : ∃ z, z = f_X11_turn (xso SC ad ws0) a1.toInt a2.toInt a3.toInt a4.toInt := ⟨_, rfl⟩
  have HE : FT = f_X11_turn (xso SC ad ws0) a1.toInt a2.toInt a3.toInt a4.toInt := hFT
  refine lv_aload_n C0.1 C0.2.1 dX11_turn_0 rfl (lv_at hl 0 rfl) ?_
  refine lv_iload_n C0.1 C0.2.1 dX11_turn_1 rfl (lv_at hl 1 rfl) ?_
  refine y_ci h (y_rV (As := [.int a1]) (rest := []) C0 hZ h (c_X11_isPerson l G Z ad _ h.2 a1) k_X11_isPerson q_903 q_23 q_901 kSC_0 rfl rfl rfl hl.1 rfl rfl (Nat.le_of_ble_eq_true rfl) dX11_turn_2 ⟨Nat.le_of_ble_eq_true rfl, Nat.le_of_ble_eq_true rfl⟩ ⟨Nat.le_of_ble_eq_true rfl, Nat.le_of_ble_eq_true rfl⟩) (fun r_4 H locs ws_1 h u_2 p_3 => ?_)
  obtain ⟨e_5, e_6, e_7, e_8, e_9⟩ := p_3
  replace HE : FT = g1c_X11_turn (xso SC ad ws_1) r_4.toInt a1.toInt a2.toInt a3.toInt a4.toInt := HE.trans (by rw [e_5, e_6]; rfl)
  replace HE : FT = g2b_X11_turn (xso SC ad ws_1) r_4.toInt a1.toInt a2.toInt a3.toInt a4.toInt := HE.trans rfl
  refine y_if_eq (tgt := 16) C0 dX11_turn_5 (by decide) (fun c_10 => ?_) (fun c_10 => ?_)
  · -- 5
    replace HE : FT = g3_X11_turn (xso SC ad ws_1) := HE.trans (if_pos c_10)
    refine y_c2 (n := (-2)) C0 (by decide) dX11_turn_16 (fun v_11 e_12 => ?_)
    replace HE : FT = ((xso SC ad ws_1), v_11.toInt) := HE.trans (by rw [e_12]; rfl)
    rw [hQ]
    exact y_iret C0 h (Fr.mono u_2 (by decide)) ⟨(congrArg Prod.fst (HE.symm.trans hFT)), (congrArg Prod.snd (HE.symm.trans hFT)), (Rel.fr (M := []) hR u_2 (by decide) (by decide)), (Hok.fr (M := []) hH u_2 (by decide))⟩ dX11_turn_18
  · -- 5
    replace HE : FT = g4_X11_turn (xso SC ad ws_1) a1.toInt a2.toInt a3.toInt a4.toInt := HE.trans (if_neg c_10)
    refine lv_aload_n C0.1 C0.2.1 dX11_turn_8 rfl (lv_at hl 0 rfl) ?_
    refine lv_iload_n C0.1 C0.2.1 dX11_turn_9 rfl (lv_at hl 2 rfl) ?_
    refine y_ci h (y_rV (As := [.int a2]) (rest := []) C0 hZ h (c_X11_isCrossing l G Z ad _ h.2 a2) k_X11_isCrossing q_915 q_25 q_913 kSC_0 rfl rfl rfl hl.1 rfl rfl (Nat.le_of_ble_eq_true rfl) dX11_turn_10 ⟨Nat.le_of_ble_eq_true rfl, Nat.le_of_ble_eq_true rfl⟩ ⟨Nat.le_of_ble_eq_true rfl, Nat.le_of_ble_eq_true rfl⟩) (fun r_16 H locs ws_13 h u_14 p_15 => ?_)
    obtain ⟨e_17, e_18, e_19, e_20, e_21⟩ := p_15
    replace HE : FT = g5c_X11_turn (xso SC ad ws_13) r_16.toInt a1.toInt a2.toInt a3.toInt a4.toInt := HE.trans (by rw [e_17, e_18]; rfl)
    replace HE : FT = g6b_X11_turn (xso SC ad ws_13) r_16.toInt a1.toInt a2.toInt a3.toInt a4.toInt := HE.trans rfl
    refine y_if_ne (tgt := 19) C0 dX11_turn_13 (by decide) (fun c_22 => ?_) (fun c_22 => ?_)
    · -- 13
      replace HE : FT = g7_X11_turn (xso SC ad ws_13) a1.toInt a2.toInt a3.toInt a4.toInt := HE.trans (if_neg c_22)
      refine lv_iload_n C0.1 C0.2.1 dX11_turn_19 rfl (lv_at hl 3 rfl) ?_
      replace HE : FT = g9b_X11_turn (xso SC ad ws_13) a3.toInt a1.toInt a2.toInt a4.toInt := HE.trans rfl
      refine y_if_lt (tgt := 34) C0 dX11_turn_20 (by decide) (fun c_23 => ?_) (fun c_23 => ?_)
      · -- 20
        replace HE : FT = g10_X11_turn (xso SC ad ws_13) := HE.trans (if_pos c_23)
        refine y_c2 (n := (-3)) C0 (by decide) dX11_turn_34 (fun v_24 e_25 => ?_)
        replace HE : FT = ((xso SC ad ws_13), v_24.toInt) := HE.trans (by rw [e_25]; rfl)
        rw [hQ]
        exact y_iret C0 h (Fr.tr (Fr.mono u_2 (by decide)) (Fr.mono u_14 (by decide))) ⟨(congrArg Prod.fst (HE.symm.trans hFT)), (congrArg Prod.snd (HE.symm.trans hFT)), (Rel.fr (M := []) hR (Fr.tr u_2 u_14) (by decide) (by decide)), (Hok.fr (M := []) hH (Fr.tr u_2 u_14) (by decide))⟩ dX11_turn_36
      · -- 20
        replace HE : FT = g11_X11_turn (xso SC ad ws_13) a1.toInt a2.toInt a3.toInt a4.toInt := HE.trans (if_neg (Int.not_lt.mpr c_23))
        refine lv_iload_n C0.1 C0.2.1 dX11_turn_23 rfl (lv_at hl 3 rfl) ?_
        refine y_c2 (n := 120) C0 (by decide) dX11_turn_24 (fun v_26 e_27 => ?_)
        replace HE : FT = g12b_X11_turn (xso SC ad ws_13) a3.toInt a1.toInt a2.toInt a4.toInt := HE.trans rfl
        refine y_icmp_gt (tgt := 34) C0 dX11_turn_26 (by decide) (fun c_28 => ?_) (fun c_28 => ?_)
        · -- 26
          replace HE : FT = g13_X11_turn (xso SC ad ws_13) := HE.trans (if_pos (o28_7 c_23 e_27 c_28))
          refine y_c2 (n := (-3)) C0 (by decide) dX11_turn_34 (fun v_29 e_30 => ?_)
          replace HE : FT = ((xso SC ad ws_13), v_29.toInt) := HE.trans (by rw [e_30]; rfl)
          rw [hQ]
          exact y_iret C0 h (Fr.tr (Fr.mono u_2 (by decide)) (Fr.mono u_14 (by decide))) ⟨(congrArg Prod.fst (HE.symm.trans hFT)), (congrArg Prod.snd (HE.symm.trans hFT)), (Rel.fr (M := []) hR (Fr.tr u_2 u_14) (by decide) (by decide)), (Hok.fr (M := []) hH (Fr.tr u_2 u_14) (by decide))⟩ dX11_turn_36
        · -- 26
          replace HE : FT = g14_X11_turn (xso SC ad ws_13) a1.toInt a2.toInt a3.toInt a4.toInt := HE.trans (if_neg (o28_6 c_23 e_27 c_28))
          refine lv_iload C0.1 C0.2.1 dX11_turn_29 (lv_at hl 4 rfl) ?_
          replace HE : FT = g15b_X11_turn (xso SC ad ws_13) a4.toInt a1.toInt a2.toInt a3.toInt := HE.trans rfl
          refine y_if_ge (tgt := 37) C0 dX11_turn_31 (by decide) (fun c_31 => ?_) (fun c_31 => ?_)
          · -- 31
            replace HE : FT = g16_X11_turn (xso SC ad ws_13) a1.toInt a2.toInt a3.toInt a4.toInt := HE.trans (if_neg (Int.not_lt.mpr c_31))
            refine lv_aload_n C0.1 C0.2.1 dX11_turn_37 rfl (lv_at hl 0 rfl) ?_
            refine tg_X11_routes C0 h kSC_0 q_519 dX11_turn_38 ?_
            refine lv_aload_n C0.1 C0.2.1 dX11_turn_41 rfl (lv_at hl 0 rfl) ?_
            refine tg_X11_now C0 h kSC_0 q_515 dX11_turn_42 ?_
            refine tg_X0_folk C0 h kSC_1 q_249 dX11_turn_45 ?_
            refine lv_iload_n C0.1 C0.2.1 dX11_turn_48 rfl (lv_at hl 1 rfl) ?_
            refine y_ci h (y_rV (As := [.int a1]) (rest := [.ref (ad 87)]) C0 hZ h (c_X1_stand l G Z ad _ h.2 10 kSC_10 a1 (o28_8 e_7 e_8 e_9 c_10) (o28_9 e_7 e_8 e_9 c_10)) k_X1_stand q_1071 q_1072 q_1070 kSC_10 rfl rfl rfl hl.1 rfl rfl (Nat.le_of_ble_eq_true rfl) dX11_turn_49 ⟨Nat.le_of_ble_eq_true rfl, Nat.le_of_ble_eq_true rfl⟩ ⟨Nat.le_of_ble_eq_true rfl, Nat.le_of_ble_eq_true rfl⟩) (fun r_35 H locs ws_32 h u_33 p_34 => ?_)
            obtain ⟨e_36, e_37, e_38, e_39⟩ := p_34
            replace HE : FT = g18c_X11_turn (xso SC ad ws_32) r_35.toInt a2.toInt a3.toInt a4.toInt := HE.trans (by rw [e_36, e_37]; rfl)
            refine lv_iload_n C0.1 C0.2.1 dX11_turn_52 rfl (lv_at hl 2 rfl) ?_
            refine lv_iload_n C0.1 C0.2.1 dX11_turn_53 rfl (lv_at hl 3 rfl) ?_
            refine y_ci h (y_rV (As := [.int r_35, .int a2, .int a3]) (rest := []) C0 hZ h (c_X7_shortest l G Z ad _ h.2 r_35 a2 a3 (o28_10 e_38 e_39) (o28_11 e_38 e_39) (o28_12 c_23 e_27 c_28) (o28_13 c_23 e_27 c_28) (Rel.fr (M := []) hR (Fr.tr (Fr.tr u_2 u_14) u_33) (by decide) (by decide))) k_X7_shortest q_1149 q_1150 q_1148 kSC_87 rfl rfl rfl hl.1 rfl rfl (Nat.le_of_ble_eq_true rfl) dX11_turn_54 ⟨Nat.le_of_ble_eq_true rfl, Nat.le_of_ble_eq_true rfl⟩ ⟨Nat.le_of_ble_eq_true rfl, Nat.le_of_ble_eq_true rfl⟩) (fun r_43 H locs ws_40 h u_41 p_42 => ?_)
            obtain ⟨e_44, e_45, e_46, e_47⟩ := p_42
            replace HE : FT = g19c_X11_turn (xso SC ad ws_40) r_43.toInt a4.toInt := HE.trans (by rw [e_44, e_45]; rfl)
            replace HE : FT = g20b_X11_turn (xso SC ad ws_40) r_43.toInt a4.toInt := HE.trans rfl
            refine y_if_ne (tgt := 62) C0 dX11_turn_57 (by decide) (fun c_48 => ?_) (fun c_48 => ?_)
            · -- 57
              replace HE : FT = g21_X11_turn (xso SC ad ws_40) a4.toInt := HE.trans (if_neg c_48)
              refine lv_aload_n C0.1 C0.2.1 dX11_turn_62 rfl (lv_at hl 0 rfl) ?_
              refine tg_X11_routes C0 h kSC_0 q_519 dX11_turn_63 ?_
              refine lv_iload C0.1 C0.2.1 dX11_turn_66 (lv_at hl 4 rfl) ?_
              refine y_ci h (y_rV (As := [.int a4]) (rest := []) C0 hZ h (c_X7_turnAt l G Z ad _ h.2 a4) k_X7_turnAt q_1195 q_1196 q_1194 kSC_87 rfl rfl rfl hl.1 rfl rfl (Nat.le_of_ble_eq_true rfl) dX11_turn_68 ⟨Nat.le_of_ble_eq_true rfl, Nat.le_of_ble_eq_true rfl⟩ ⟨Nat.le_of_ble_eq_true rfl, Nat.le_of_ble_eq_true rfl⟩) (fun r_52 H locs ws_49 h u_50 p_51 => ?_)
              obtain ⟨e_53, e_54⟩ := p_51
              replace HE : FT = g23c_X11_turn (xso SC ad ws_49) r_52.toInt := HE.trans (by rw [e_53, e_54]; rfl)
              replace HE : FT = ((xso SC ad ws_49), r_52.toInt) := HE.trans rfl
              rw [hQ]
              exact y_iret C0 h (Fr.tr (Fr.tr (Fr.tr (Fr.tr (Fr.mono u_2 (by decide)) (Fr.mono u_14 (by decide))) (Fr.mono u_33 (by decide))) u_41) (Fr.mono u_50 (by decide))) ⟨(congrArg Prod.fst (HE.symm.trans hFT)), (congrArg Prod.snd (HE.symm.trans hFT)), (Rel.fr (M := [4, 5, 18, 19, 20, 21, 22, 23, 25, 26, 27]) hR (Fr.tr (Fr.tr (Fr.tr (Fr.tr (Fr.mono u_2 (by decide)) (Fr.mono u_14 (by decide))) (Fr.mono u_33 (by decide))) u_41) (Fr.mono u_50 (by decide))) (by decide) (by decide)), (Hok.fr (M := [4, 5, 18, 19, 20, 21, 22, 23, 25, 26, 27]) hH (Fr.tr (Fr.tr (Fr.tr (Fr.tr (Fr.mono u_2 (by decide)) (Fr.mono u_14 (by decide))) (Fr.mono u_33 (by decide))) u_41) (Fr.mono u_50 (by decide))) (by decide))⟩ dX11_turn_71
            · -- 57
              replace HE : FT = g22_X11_turn (xso SC ad ws_40) := HE.trans (if_pos c_48)
              refine y_c1 (n := (-1)) C0 (by decide) dX11_turn_60 (fun v_55 e_56 => ?_)
              replace HE : FT = ((xso SC ad ws_40), v_55.toInt) := HE.trans (by rw [e_56]; rfl)
              rw [hQ]
              exact y_iret C0 h (Fr.tr (Fr.tr (Fr.tr (Fr.mono u_2 (by decide)) (Fr.mono u_14 (by decide))) (Fr.mono u_33 (by decide))) u_41) ⟨(congrArg Prod.fst (HE.symm.trans hFT)), (congrArg Prod.snd (HE.symm.trans hFT)), (Rel.fr (M := [4, 5, 18, 19, 20, 21, 22, 23, 25, 26, 27]) hR (Fr.tr (Fr.tr (Fr.tr (Fr.mono u_2 (by decide)) (Fr.mono u_14 (by decide))) (Fr.mono u_33 (by decide))) u_41) (by decide) (by decide)), (Hok.fr (M := [4, 5, 18, 19, 20, 21, 22, 23, 25, 26, 27]) hH (Fr.tr (Fr.tr (Fr.tr (Fr.mono u_2 (by decide)) (Fr.mono u_14 (by decide))) (Fr.mono u_33 (by decide))) u_41) (by decide))⟩ dX11_turn_61
          · -- 31
            replace HE : FT = g17_X11_turn (xso SC ad ws_13) := HE.trans (if_pos c_31)
            refine y_c2 (n := (-3)) C0 (by decide) dX11_turn_34 (fun v_57 e_58 => ?_)
            replace HE : FT = ((xso SC ad ws_13), v_57.toInt) := HE.trans (by rw [e_58]; rfl)
            rw [hQ]
            exact y_iret C0 h (Fr.tr (Fr.mono u_2 (by decide)) (Fr.mono u_14 (by decide))) ⟨(congrArg Prod.fst (HE.symm.trans hFT)), (congrArg Prod.snd (HE.symm.trans hFT)), (Rel.fr (M := []) hR (Fr.tr u_2 u_14) (by decide) (by decide)), (Hok.fr (M := []) hH (Fr.tr u_2 u_14) (by decide))⟩ dX11_turn_36
    · -- 13
      replace HE : FT = g8_X11_turn (xso SC ad ws_13) := HE.trans (if_pos c_22)
      refine y_c2 (n := (-2)) C0 (by decide) dX11_turn_16 (fun v_59 e_60 => ?_)
      replace HE : FT = ((xso SC ad ws_13), v_59.toInt) := HE.trans (by rw [e_60]; rfl)
      rw [hQ]
      exact y_iret C0 h (Fr.tr (Fr.mono u_2 (by decide)) (Fr.mono u_14 (by decide))) ⟨(congrArg Prod.fst (HE.symm.trans hFT)), (congrArg Prod.snd (HE.symm.trans hFT)), (Rel.fr (M := []) hR (Fr.tr u_2 u_14) (by decide) (by decide)), (Hok.fr (M := []) hH (Fr.tr u_2 u_14) (by decide))⟩ dX11_turn_18
noncomputable def g3_X11_fewest (s : XS) : XR := (s, ((-2)))
noncomputable def g10_X11_fewest (s : XS) : XR := (s, ((-3)))
noncomputable def g16c_X11_fewest (s : XS) (r_44 : Int) : XR := (s, r_44)
noncomputable def g15c_X11_fewest (s : XS) (r_32 : Int) (a2 : Int) (a3 : Int) : XR := g16c_X11_fewest ((f_X8_fewestLefts s r_32 0 a2 a3 0).1) (((f_X8_fewestLefts s r_32 0 a2 a3 0).2))
noncomputable def g13_X11_fewest (s : XS) (a1 : Int) (a2 : Int) (a3 : Int) : XR := g15c_X11_fewest ((f_X1_stand s 10 a1).1) (((f_X1_stand s 10 a1).2)) a2 a3
noncomputable def g14_X11_fewest (s : XS) : XR := (s, ((-3)))
noncomputable def g12b_X11_fewest (s : XS) (a3 : Int) (a1 : Int) (a2 : Int) : XR := if 60 < a3 then g14_X11_fewest s else g13_X11_fewest s a1 a2 a3
noncomputable def g11_X11_fewest (s : XS) (a1 : Int) (a2 : Int) (a3 : Int) : XR := g12b_X11_fewest s a3 a1 a2
noncomputable def g9b_X11_fewest (s : XS) (a3 : Int) (a1 : Int) (a2 : Int) : XR := if a3 < 0 then g10_X11_fewest s else g11_X11_fewest s a1 a2 a3
noncomputable def g7_X11_fewest (s : XS) (a1 : Int) (a2 : Int) (a3 : Int) : XR := g9b_X11_fewest s a3 a1 a2
noncomputable def g8_X11_fewest (s : XS) : XR := (s, ((-2)))
noncomputable def g6b_X11_fewest (s : XS) (r_16 : Int) (a1 : Int) (a2 : Int) (a3 : Int) : XR := if r_16 = 0 then g8_X11_fewest s else g7_X11_fewest s a1 a2 a3
noncomputable def g5c_X11_fewest (s : XS) (r_16 : Int) (a1 : Int) (a2 : Int) (a3 : Int) : XR := g6b_X11_fewest s r_16 a1 a2 a3
noncomputable def g4_X11_fewest (s : XS) (a1 : Int) (a2 : Int) (a3 : Int) : XR := g5c_X11_fewest ((f_X11_isCrossing s a2).1) (((f_X11_isCrossing s a2).2)) a1 a2 a3
noncomputable def g2b_X11_fewest (s : XS) (r_4 : Int) (a1 : Int) (a2 : Int) (a3 : Int) : XR := if r_4 = 0 then g3_X11_fewest s else g4_X11_fewest s a1 a2 a3
noncomputable def g1c_X11_fewest (s : XS) (r_4 : Int) (a1 : Int) (a2 : Int) (a3 : Int) : XR := g2b_X11_fewest s r_4 a1 a2 a3
noncomputable def f_X11_fewest (s : XS) (a1 : Int) (a2 : Int) (a3 : Int) : XR := g1c_X11_fewest ((f_X11_isPerson s a1).1) (((f_X11_isPerson s a1).2)) a1 a2 a3
set_option maxHeartbeats 4000000 in
set_option maxRecDepth 100000 in
theorem c_X11_fewest (l : Launch) (G : GG) (Z : RZ) (ad : Nat → Nat) (ws0 : va_W) (hT : Ty G SC ad ws0) (a1 : Int32) (a2 : Int32) (a3 : Int32) (hR : Rel ws0) (hH : Hok ws0) : Mq l yX11_fewest cX11_fewest 4 (some .int) 7 G Z [.ref (ad 0), .int a1, .int a2, .int a3] ws0 (PI G SC ad [4, 5, 18, 19, 20, 21, 22, 23] ws0 (fun r u => (xso SC ad u = (f_X11_fewest (xso SC ad ws0) a1.toInt a2.toInt a3.toInt).1) ∧ (r.toInt = (f_X11_fewest (xso SC ad ws0) a1.toInt a2.toInt a3.toInt).2) ∧ ((-3) ≤ r.toInt) ∧ (r.toInt ≤ 120) ∧ (Rel u) ∧ (Hok u))) := by
  refine Mq.start (by decide) (Nat.le_of_ble_eq_true rfl) ?_
  intro p e s m below meth c A ls C0 hZ h hl
  have hl : lv_has ls 4 [(0, .ref (ad 0)), (1, .int a1), (2, .int a2), (3, .int a3)] := hl
  have h : Wt G SC ad A s s.heap [] ws0 := ⟨h, hT⟩
  obtain ⟨args, hargs⟩ : ∃ z, z = ([.ref (ad 0), .int a1, .int a2, .int a3] : List Value).toArray := ⟨_, rfl⟩
  rw [← hargs] at C0 ⊢
  have C0 : Cx p s m args meth c RX11 cX11_fewest 4 (some .int) := C0
  obtain ⟨Q, hQ⟩ : ∃ z, z = MQ below ((PI G SC ad [4, 5, 18, 19, 20, 21, 22, 23] ws0 (fun r u => (xso SC ad u = (f_X11_fewest (xso SC ad ws0) a1.toInt a2.toInt a3.toInt).1) ∧ (r.toInt = (f_X11_fewest (xso SC ad ws0) a1.toInt a2.toInt a3.toInt).2) ∧ ((-3) ≤ r.toInt) ∧ (r.toInt ≤ 120) ∧ (Rel u) ∧ (Hok u))) A) args s 0 0 A := ⟨_, rfl⟩
  rw [← hQ]
  obtain ⟨FT, hFT⟩ : ∃ z, z = f_X11_fewest (xso SC ad ws0) a1.toInt a2.toInt a3.toInt := ⟨_, rfl⟩
  have HE : FT = f_X11_fewest (xso SC ad ws0) a1.toInt a2.toInt a3.toInt := hFT
  refine lv_aload_n C0.1 C0.2.1 dX11_fewest_0 rfl (lv_at hl 0 rfl) ?_
  refine lv_iload_n C0.1 C0.2.1 dX11_fewest_1 rfl (lv_at hl 1 rfl) ?_
  refine y_ci h (y_rV (As := [.int a1]) (rest := []) C0 hZ h (c_X11_isPerson l G Z ad _ h.2 a1) k_X11_isPerson q_903 q_23 q_901 kSC_0 rfl rfl rfl hl.1 rfl rfl (Nat.le_of_ble_eq_true rfl) dX11_fewest_2 ⟨Nat.le_of_ble_eq_true rfl, Nat.le_of_ble_eq_true rfl⟩ ⟨Nat.le_of_ble_eq_true rfl, Nat.le_of_ble_eq_true rfl⟩) (fun r_4 H locs ws_1 h u_2 p_3 => ?_)
  obtain ⟨e_5, e_6, e_7, e_8, e_9⟩ := p_3
  replace HE : FT = g1c_X11_fewest (xso SC ad ws_1) r_4.toInt a1.toInt a2.toInt a3.toInt := HE.trans (by rw [e_5, e_6]; rfl)
  replace HE : FT = g2b_X11_fewest (xso SC ad ws_1) r_4.toInt a1.toInt a2.toInt a3.toInt := HE.trans rfl
  refine y_if_eq (tgt := 16) C0 dX11_fewest_5 (by decide) (fun c_10 => ?_) (fun c_10 => ?_)
  · -- 5
    replace HE : FT = g3_X11_fewest (xso SC ad ws_1) := HE.trans (if_pos c_10)
    refine y_c2 (n := (-2)) C0 (by decide) dX11_fewest_16 (fun v_11 e_12 => ?_)
    replace HE : FT = ((xso SC ad ws_1), v_11.toInt) := HE.trans (by rw [e_12]; rfl)
    rw [hQ]
    exact y_iret C0 h (Fr.mono u_2 (by decide)) ⟨(congrArg Prod.fst (HE.symm.trans hFT)), (congrArg Prod.snd (HE.symm.trans hFT)), (o28_1 e_12), (o28_18 e_12), (Rel.fr (M := []) hR u_2 (by decide) (by decide)), (Hok.fr (M := []) hH u_2 (by decide))⟩ dX11_fewest_18
  · -- 5
    replace HE : FT = g4_X11_fewest (xso SC ad ws_1) a1.toInt a2.toInt a3.toInt := HE.trans (if_neg c_10)
    refine lv_aload_n C0.1 C0.2.1 dX11_fewest_8 rfl (lv_at hl 0 rfl) ?_
    refine lv_iload_n C0.1 C0.2.1 dX11_fewest_9 rfl (lv_at hl 2 rfl) ?_
    refine y_ci h (y_rV (As := [.int a2]) (rest := []) C0 hZ h (c_X11_isCrossing l G Z ad _ h.2 a2) k_X11_isCrossing q_915 q_25 q_913 kSC_0 rfl rfl rfl hl.1 rfl rfl (Nat.le_of_ble_eq_true rfl) dX11_fewest_10 ⟨Nat.le_of_ble_eq_true rfl, Nat.le_of_ble_eq_true rfl⟩ ⟨Nat.le_of_ble_eq_true rfl, Nat.le_of_ble_eq_true rfl⟩) (fun r_16 H locs ws_13 h u_14 p_15 => ?_)
    obtain ⟨e_17, e_18, e_19, e_20, e_21⟩ := p_15
    replace HE : FT = g5c_X11_fewest (xso SC ad ws_13) r_16.toInt a1.toInt a2.toInt a3.toInt := HE.trans (by rw [e_17, e_18]; rfl)
    replace HE : FT = g6b_X11_fewest (xso SC ad ws_13) r_16.toInt a1.toInt a2.toInt a3.toInt := HE.trans rfl
    refine y_if_ne (tgt := 19) C0 dX11_fewest_13 (by decide) (fun c_22 => ?_) (fun c_22 => ?_)
    · -- 13
      replace HE : FT = g7_X11_fewest (xso SC ad ws_13) a1.toInt a2.toInt a3.toInt := HE.trans (if_neg c_22)
      refine lv_iload_n C0.1 C0.2.1 dX11_fewest_19 rfl (lv_at hl 3 rfl) ?_
      replace HE : FT = g9b_X11_fewest (xso SC ad ws_13) a3.toInt a1.toInt a2.toInt := HE.trans rfl
      refine y_if_lt (tgt := 29) C0 dX11_fewest_20 (by decide) (fun c_23 => ?_) (fun c_23 => ?_)
      · -- 20
        replace HE : FT = g10_X11_fewest (xso SC ad ws_13) := HE.trans (if_pos c_23)
        refine y_c2 (n := (-3)) C0 (by decide) dX11_fewest_29 (fun v_24 e_25 => ?_)
        replace HE : FT = ((xso SC ad ws_13), v_24.toInt) := HE.trans (by rw [e_25]; rfl)
        rw [hQ]
        exact y_iret C0 h (Fr.tr (Fr.mono u_2 (by decide)) (Fr.mono u_14 (by decide))) ⟨(congrArg Prod.fst (HE.symm.trans hFT)), (congrArg Prod.snd (HE.symm.trans hFT)), (o28_3 e_25), (o28_19 e_25), (Rel.fr (M := []) hR (Fr.tr u_2 u_14) (by decide) (by decide)), (Hok.fr (M := []) hH (Fr.tr u_2 u_14) (by decide))⟩ dX11_fewest_31
      · -- 20
        replace HE : FT = g11_X11_fewest (xso SC ad ws_13) a1.toInt a2.toInt a3.toInt := HE.trans (if_neg (Int.not_lt.mpr c_23))
        refine lv_iload_n C0.1 C0.2.1 dX11_fewest_23 rfl (lv_at hl 3 rfl) ?_
        refine y_c2 (n := 60) C0 (by decide) dX11_fewest_24 (fun v_26 e_27 => ?_)
        replace HE : FT = g12b_X11_fewest (xso SC ad ws_13) a3.toInt a1.toInt a2.toInt := HE.trans rfl
        refine y_icmp_le (tgt := 32) C0 dX11_fewest_26 (by decide) (fun c_28 => ?_) (fun c_28 => ?_)
        · -- 26
          replace HE : FT = g13_X11_fewest (xso SC ad ws_13) a1.toInt a2.toInt a3.toInt := HE.trans (if_neg (o28_21 c_23 e_27 c_28))
          refine lv_aload_n C0.1 C0.2.1 dX11_fewest_32 rfl (lv_at hl 0 rfl) ?_
          refine tg_X11_spread C0 h kSC_0 q_522 dX11_fewest_33 ?_
          refine lv_aload_n C0.1 C0.2.1 dX11_fewest_36 rfl (lv_at hl 0 rfl) ?_
          refine tg_X11_now C0 h kSC_0 q_515 dX11_fewest_37 ?_
          refine tg_X0_folk C0 h kSC_1 q_249 dX11_fewest_40 ?_
          refine lv_iload_n C0.1 C0.2.1 dX11_fewest_43 rfl (lv_at hl 1 rfl) ?_
          refine y_ci h (y_rV (As := [.int a1]) (rest := [.ref (ad 83)]) C0 hZ h (c_X1_stand l G Z ad _ h.2 10 kSC_10 a1 (o28_8 e_7 e_8 e_9 c_10) (o28_9 e_7 e_8 e_9 c_10)) k_X1_stand q_1071 q_1072 q_1070 kSC_10 rfl rfl rfl hl.1 rfl rfl (Nat.le_of_ble_eq_true rfl) dX11_fewest_44 ⟨Nat.le_of_ble_eq_true rfl, Nat.le_of_ble_eq_true rfl⟩ ⟨Nat.le_of_ble_eq_true rfl, Nat.le_of_ble_eq_true rfl⟩) (fun r_32 H locs ws_29 h u_30 p_31 => ?_)
          obtain ⟨e_33, e_34, e_35, e_36⟩ := p_31
          replace HE : FT = g15c_X11_fewest (xso SC ad ws_29) r_32.toInt a2.toInt a3.toInt := HE.trans (by rw [e_33, e_34]; rfl)
          refine y_c1 (n := 0) C0 (by decide) dX11_fewest_47 (fun v_37 e_38 => ?_)
          refine lv_iload_n C0.1 C0.2.1 dX11_fewest_48 rfl (lv_at hl 2 rfl) ?_
          refine lv_iload_n C0.1 C0.2.1 dX11_fewest_49 rfl (lv_at hl 3 rfl) ?_
          refine y_c1 (n := 0) C0 (by decide) dX11_fewest_50 (fun v_39 e_40 => ?_)
          refine y_ci h (y_rV (As := [.int r_32, .int v_37, .int a2, .int a3, .int v_39]) (rest := []) C0 hZ h (c_X8_fewestLefts l G Z ad _ h.2 r_32 v_37 a2 a3 v_39 (o28_10 e_35 e_36) (o28_11 e_35 e_36) (o28_23 e_38) (o28_24 e_38) (o28_25 c_23 e_27 c_28) (o28_26 c_23 e_27 c_28)) k_X8_fewestLefts q_1203 q_1204 q_1202 kSC_83 rfl rfl rfl hl.1 rfl rfl (Nat.le_of_ble_eq_true rfl) dX11_fewest_51 ⟨Nat.le_of_ble_eq_true rfl, Nat.le_of_ble_eq_true rfl⟩ ⟨Nat.le_of_ble_eq_true rfl, Nat.le_of_ble_eq_true rfl⟩) (fun r_44 H locs ws_41 h u_42 p_43 => ?_)
          obtain ⟨e_45, e_46, e_47, e_48⟩ := p_43
          replace HE : FT = g16c_X11_fewest (xso SC ad ws_41) r_44.toInt := HE.trans (by rw [e_45, e_46, e_40, e_38]; rfl)
          replace HE : FT = ((xso SC ad ws_41), r_44.toInt) := HE.trans rfl
          rw [hQ]
          exact y_iret C0 h (Fr.tr (Fr.tr (Fr.tr (Fr.mono u_2 (by decide)) (Fr.mono u_14 (by decide))) (Fr.mono u_30 (by decide))) u_42) ⟨(congrArg Prod.fst (HE.symm.trans hFT)), (congrArg Prod.snd (HE.symm.trans hFT)), (o28_27 e_47 e_48), (o28_28 e_47 e_48), (Rel.fr (M := [4, 5, 18, 19, 20, 21, 22, 23]) hR (Fr.tr (Fr.tr (Fr.tr (Fr.mono u_2 (by decide)) (Fr.mono u_14 (by decide))) (Fr.mono u_30 (by decide))) u_42) (by decide) (by decide)), (Hok.fr (M := [4, 5, 18, 19, 20, 21, 22, 23]) hH (Fr.tr (Fr.tr (Fr.tr (Fr.mono u_2 (by decide)) (Fr.mono u_14 (by decide))) (Fr.mono u_30 (by decide))) u_42) (by decide))⟩ dX11_fewest_54
        · -- 26
          replace HE : FT = g14_X11_fewest (xso SC ad ws_13) := HE.trans (if_pos (o28_22 c_23 e_27 c_28))
          refine y_c2 (n := (-3)) C0 (by decide) dX11_fewest_29 (fun v_49 e_50 => ?_)
          replace HE : FT = ((xso SC ad ws_13), v_49.toInt) := HE.trans (by rw [e_50]; rfl)
          rw [hQ]
          exact y_iret C0 h (Fr.tr (Fr.mono u_2 (by decide)) (Fr.mono u_14 (by decide))) ⟨(congrArg Prod.fst (HE.symm.trans hFT)), (congrArg Prod.snd (HE.symm.trans hFT)), (o28_3 e_50), (o28_19 e_50), (Rel.fr (M := []) hR (Fr.tr u_2 u_14) (by decide) (by decide)), (Hok.fr (M := []) hH (Fr.tr u_2 u_14) (by decide))⟩ dX11_fewest_31
    · -- 13
      replace HE : FT = g8_X11_fewest (xso SC ad ws_13) := HE.trans (if_pos c_22)
      refine y_c2 (n := (-2)) C0 (by decide) dX11_fewest_16 (fun v_51 e_52 => ?_)
      replace HE : FT = ((xso SC ad ws_13), v_51.toInt) := HE.trans (by rw [e_52]; rfl)
      rw [hQ]
      exact y_iret C0 h (Fr.tr (Fr.mono u_2 (by decide)) (Fr.mono u_14 (by decide))) ⟨(congrArg Prod.fst (HE.symm.trans hFT)), (congrArg Prod.snd (HE.symm.trans hFT)), (o28_1 e_52), (o28_18 e_52), (Rel.fr (M := []) hR (Fr.tr u_2 u_14) (by decide) (by decide)), (Hok.fr (M := []) hH (Fr.tr u_2 u_14) (by decide))⟩ dX11_fewest_18
noncomputable def g3_X11_cheapest (s : XS) : XR := (s, ((-2)))
noncomputable def g10_X11_cheapest (s : XS) : XR := (s, ((-3)))
noncomputable def g16c_X11_cheapest (s : XS) (r_40 : Int) : XR := (s, r_40)
noncomputable def g15c_X11_cheapest (s : XS) (r_32 : Int) (a2 : Int) (a3 : Int) : XR := g16c_X11_cheapest ((f_X9_leastCoins s r_32 a2 a3).1) (((f_X9_leastCoins s r_32 a2 a3).2))
noncomputable def g13_X11_cheapest (s : XS) (a1 : Int) (a2 : Int) (a3 : Int) : XR := g15c_X11_cheapest ((f_X1_stand s 10 a1).1) (((f_X1_stand s 10 a1).2)) a2 a3
noncomputable def g14_X11_cheapest (s : XS) : XR := (s, ((-3)))
noncomputable def g12b_X11_cheapest (s : XS) (a3 : Int) (a1 : Int) (a2 : Int) : XR := if 60 < a3 then g14_X11_cheapest s else g13_X11_cheapest s a1 a2 a3
noncomputable def g11_X11_cheapest (s : XS) (a1 : Int) (a2 : Int) (a3 : Int) : XR := g12b_X11_cheapest s a3 a1 a2
noncomputable def g9b_X11_cheapest (s : XS) (a3 : Int) (a1 : Int) (a2 : Int) : XR := if a3 < 0 then g10_X11_cheapest s else g11_X11_cheapest s a1 a2 a3
noncomputable def g7_X11_cheapest (s : XS) (a1 : Int) (a2 : Int) (a3 : Int) : XR := g9b_X11_cheapest s a3 a1 a2
noncomputable def g8_X11_cheapest (s : XS) : XR := (s, ((-2)))
noncomputable def g6b_X11_cheapest (s : XS) (r_16 : Int) (a1 : Int) (a2 : Int) (a3 : Int) : XR := if r_16 = 0 then g8_X11_cheapest s else g7_X11_cheapest s a1 a2 a3
noncomputable def g5c_X11_cheapest (s : XS) (r_16 : Int) (a1 : Int) (a2 : Int) (a3 : Int) : XR := g6b_X11_cheapest s r_16 a1 a2 a3
noncomputable def g4_X11_cheapest (s : XS) (a1 : Int) (a2 : Int) (a3 : Int) : XR := g5c_X11_cheapest ((f_X11_isCrossing s a2).1) (((f_X11_isCrossing s a2).2)) a1 a2 a3
noncomputable def g2b_X11_cheapest (s : XS) (r_4 : Int) (a1 : Int) (a2 : Int) (a3 : Int) : XR := if r_4 = 0 then g3_X11_cheapest s else g4_X11_cheapest s a1 a2 a3
noncomputable def g1c_X11_cheapest (s : XS) (r_4 : Int) (a1 : Int) (a2 : Int) (a3 : Int) : XR := g2b_X11_cheapest s r_4 a1 a2 a3
noncomputable def f_X11_cheapest (s : XS) (a1 : Int) (a2 : Int) (a3 : Int) : XR := g1c_X11_cheapest ((f_X11_isPerson s a1).1) (((f_X11_isPerson s a1).2)) a1 a2 a3
set_option maxHeartbeats 4000000 in
set_option maxRecDepth 100000 in
theorem c_X11_cheapest (l : Launch) (G : GG) (Z : RZ) (ad : Nat → Nat) (ws0 : va_W) (hT : Ty G SC ad ws0) (a1 : Int32) (a2 : Int32) (a3 : Int32) (hR : Rel ws0) (hH : Hok ws0) : Mq l yX11_cheapest cX11_cheapest 4 (some .int) 7 G Z [.ref (ad 0), .int a1, .int a2, .int a3] ws0 (PI G SC ad [4, 5, 18, 19, 20, 21, 38] ws0 (fun r u => (xso SC ad u = (f_X11_cheapest (xso SC ad ws0) a1.toInt a2.toInt a3.toInt).1) ∧ (r.toInt = (f_X11_cheapest (xso SC ad ws0) a1.toInt a2.toInt a3.toInt).2) ∧ (r.toInt ≤ 1073741823) ∧ (Rel u) ∧ (Hok u))) := by
  refine Mq.start (by decide) (Nat.le_of_ble_eq_true rfl) ?_
  intro p e s m below meth c A ls C0 hZ h hl
  have hl : lv_has ls 4 [(0, .ref (ad 0)), (1, .int a1), (2, .int a2), (3, .int a3)] := hl
  have h : Wt G SC ad A s s.heap [] ws0 := ⟨h, hT⟩
  obtain ⟨args, hargs⟩ : ∃ z, z = ([.ref (ad 0), .int a1, .int a2, .int a3] : List Value).toArray := ⟨_, rfl⟩
  rw [← hargs] at C0 ⊢
  have C0 : Cx p s m args meth c RX11 cX11_cheapest 4 (some .int) := C0
  obtain ⟨Q, hQ⟩ : ∃ z, z = MQ below ((PI G SC ad [4, 5, 18, 19, 20, 21, 38] ws0 (fun r u => (xso SC ad u = (f_X11_cheapest (xso SC ad ws0) a1.toInt a2.toInt a3.toInt).1) ∧ (r.toInt = (f_X11_cheapest (xso SC ad ws0) a1.toInt a2.toInt a3.toInt).2) ∧ (r.toInt ≤ 1073741823) ∧ (Rel u) ∧ (Hok u))) A) args s 0 0 A := ⟨_, rfl⟩
  rw [← hQ]
  obtain ⟨FT, hFT⟩ : ∃ z, z = f_X11_cheapest (xso SC ad ws0) a1.toInt a2.toInt a3.toInt := ⟨_, rfl⟩
  have HE : FT = f_X11_cheapest (xso SC ad ws0) a1.toInt a2.toInt a3.toInt := hFT
  refine lv_aload_n C0.1 C0.2.1 dX11_cheapest_0 rfl (lv_at hl 0 rfl) ?_
  refine lv_iload_n C0.1 C0.2.1 dX11_cheapest_1 rfl (lv_at hl 1 rfl) ?_
  refine y_ci h (y_rV (As := [.int a1]) (rest := []) C0 hZ h (c_X11_isPerson l G Z ad _ h.2 a1) k_X11_isPerson q_903 q_23 q_901 kSC_0 rfl rfl rfl hl.1 rfl rfl (Nat.le_of_ble_eq_true rfl) dX11_cheapest_2 ⟨Nat.le_of_ble_eq_true rfl, Nat.le_of_ble_eq_true rfl⟩ ⟨Nat.le_of_ble_eq_true rfl, Nat.le_of_ble_eq_true rfl⟩) (fun r_4 H locs ws_1 h u_2 p_3 => ?_)
  obtain ⟨e_5, e_6, e_7, e_8, e_9⟩ := p_3
  replace HE : FT = g1c_X11_cheapest (xso SC ad ws_1) r_4.toInt a1.toInt a2.toInt a3.toInt := HE.trans (by rw [e_5, e_6]; rfl)
  replace HE : FT = g2b_X11_cheapest (xso SC ad ws_1) r_4.toInt a1.toInt a2.toInt a3.toInt := HE.trans rfl
  refine y_if_eq (tgt := 16) C0 dX11_cheapest_5 (by decide) (fun c_10 => ?_) (fun c_10 => ?_)
  · -- 5
    replace HE : FT = g3_X11_cheapest (xso SC ad ws_1) := HE.trans (if_pos c_10)
    refine y_c2 (n := (-2)) C0 (by decide) dX11_cheapest_16 (fun v_11 e_12 => ?_)
    replace HE : FT = ((xso SC ad ws_1), v_11.toInt) := HE.trans (by rw [e_12]; rfl)
    rw [hQ]
    exact y_iret C0 h (Fr.mono u_2 (by decide)) ⟨(congrArg Prod.fst (HE.symm.trans hFT)), (congrArg Prod.snd (HE.symm.trans hFT)), (o28_29 e_12), (Rel.fr (M := []) hR u_2 (by decide) (by decide)), (Hok.fr (M := []) hH u_2 (by decide))⟩ dX11_cheapest_18
  · -- 5
    replace HE : FT = g4_X11_cheapest (xso SC ad ws_1) a1.toInt a2.toInt a3.toInt := HE.trans (if_neg c_10)
    refine lv_aload_n C0.1 C0.2.1 dX11_cheapest_8 rfl (lv_at hl 0 rfl) ?_
    refine lv_iload_n C0.1 C0.2.1 dX11_cheapest_9 rfl (lv_at hl 2 rfl) ?_
    refine y_ci h (y_rV (As := [.int a2]) (rest := []) C0 hZ h (c_X11_isCrossing l G Z ad _ h.2 a2) k_X11_isCrossing q_915 q_25 q_913 kSC_0 rfl rfl rfl hl.1 rfl rfl (Nat.le_of_ble_eq_true rfl) dX11_cheapest_10 ⟨Nat.le_of_ble_eq_true rfl, Nat.le_of_ble_eq_true rfl⟩ ⟨Nat.le_of_ble_eq_true rfl, Nat.le_of_ble_eq_true rfl⟩) (fun r_16 H locs ws_13 h u_14 p_15 => ?_)
    obtain ⟨e_17, e_18, e_19, e_20, e_21⟩ := p_15
    replace HE : FT = g5c_X11_cheapest (xso SC ad ws_13) r_16.toInt a1.toInt a2.toInt a3.toInt := HE.trans (by rw [e_17, e_18]; rfl)
    replace HE : FT = g6b_X11_cheapest (xso SC ad ws_13) r_16.toInt a1.toInt a2.toInt a3.toInt := HE.trans rfl
    refine y_if_ne (tgt := 19) C0 dX11_cheapest_13 (by decide) (fun c_22 => ?_) (fun c_22 => ?_)
    · -- 13
      replace HE : FT = g7_X11_cheapest (xso SC ad ws_13) a1.toInt a2.toInt a3.toInt := HE.trans (if_neg c_22)
      refine lv_iload_n C0.1 C0.2.1 dX11_cheapest_19 rfl (lv_at hl 3 rfl) ?_
      replace HE : FT = g9b_X11_cheapest (xso SC ad ws_13) a3.toInt a1.toInt a2.toInt := HE.trans rfl
      refine y_if_lt (tgt := 29) C0 dX11_cheapest_20 (by decide) (fun c_23 => ?_) (fun c_23 => ?_)
      · -- 20
        replace HE : FT = g10_X11_cheapest (xso SC ad ws_13) := HE.trans (if_pos c_23)
        refine y_c2 (n := (-3)) C0 (by decide) dX11_cheapest_29 (fun v_24 e_25 => ?_)
        replace HE : FT = ((xso SC ad ws_13), v_24.toInt) := HE.trans (by rw [e_25]; rfl)
        rw [hQ]
        exact y_iret C0 h (Fr.tr (Fr.mono u_2 (by decide)) (Fr.mono u_14 (by decide))) ⟨(congrArg Prod.fst (HE.symm.trans hFT)), (congrArg Prod.snd (HE.symm.trans hFT)), (o28_30 e_25), (Rel.fr (M := []) hR (Fr.tr u_2 u_14) (by decide) (by decide)), (Hok.fr (M := []) hH (Fr.tr u_2 u_14) (by decide))⟩ dX11_cheapest_31
      · -- 20
        replace HE : FT = g11_X11_cheapest (xso SC ad ws_13) a1.toInt a2.toInt a3.toInt := HE.trans (if_neg (Int.not_lt.mpr c_23))
        refine lv_iload_n C0.1 C0.2.1 dX11_cheapest_23 rfl (lv_at hl 3 rfl) ?_
        refine y_c2 (n := 60) C0 (by decide) dX11_cheapest_24 (fun v_26 e_27 => ?_)
        replace HE : FT = g12b_X11_cheapest (xso SC ad ws_13) a3.toInt a1.toInt a2.toInt := HE.trans rfl
        refine y_icmp_le (tgt := 32) C0 dX11_cheapest_26 (by decide) (fun c_28 => ?_) (fun c_28 => ?_)
        · -- 26
          replace HE : FT = g13_X11_cheapest (xso SC ad ws_13) a1.toInt a2.toInt a3.toInt := HE.trans (if_neg (o28_21 c_23 e_27 c_28))
          refine lv_aload_n C0.1 C0.2.1 dX11_cheapest_32 rfl (lv_at hl 0 rfl) ?_
          refine tg_X11_tally C0 h kSC_0 q_521 dX11_cheapest_33 ?_
          refine lv_aload_n C0.1 C0.2.1 dX11_cheapest_36 rfl (lv_at hl 0 rfl) ?_
          refine tg_X11_now C0 h kSC_0 q_515 dX11_cheapest_37 ?_
          refine tg_X0_folk C0 h kSC_1 q_249 dX11_cheapest_40 ?_
          refine lv_iload_n C0.1 C0.2.1 dX11_cheapest_43 rfl (lv_at hl 1 rfl) ?_
          refine y_ci h (y_rV (As := [.int a1]) (rest := [.ref (ad 94)]) C0 hZ h (c_X1_stand l G Z ad _ h.2 10 kSC_10 a1 (o28_8 e_7 e_8 e_9 c_10) (o28_9 e_7 e_8 e_9 c_10)) k_X1_stand q_1071 q_1072 q_1070 kSC_10 rfl rfl rfl hl.1 rfl rfl (Nat.le_of_ble_eq_true rfl) dX11_cheapest_44 ⟨Nat.le_of_ble_eq_true rfl, Nat.le_of_ble_eq_true rfl⟩ ⟨Nat.le_of_ble_eq_true rfl, Nat.le_of_ble_eq_true rfl⟩) (fun r_32 H locs ws_29 h u_30 p_31 => ?_)
          obtain ⟨e_33, e_34, e_35, e_36⟩ := p_31
          replace HE : FT = g15c_X11_cheapest (xso SC ad ws_29) r_32.toInt a2.toInt a3.toInt := HE.trans (by rw [e_33, e_34]; rfl)
          refine lv_iload_n C0.1 C0.2.1 dX11_cheapest_47 rfl (lv_at hl 2 rfl) ?_
          refine lv_iload_n C0.1 C0.2.1 dX11_cheapest_48 rfl (lv_at hl 3 rfl) ?_
          refine y_ci h (y_rV (As := [.int r_32, .int a2, .int a3]) (rest := []) C0 hZ h (c_X9_leastCoins l G Z ad _ h.2 r_32 a2 a3 (o28_10 e_35 e_36) (o28_11 e_35 e_36) (o28_31 e_19 e_20 e_21 c_22) (o28_32 e_19 e_20 e_21 c_22) (o28_25 c_23 e_27 c_28) (o28_26 c_23 e_27 c_28) (Rel.fr (M := []) hR (Fr.tr (Fr.tr u_2 u_14) u_30) (by decide) (by decide))) k_X9_leastCoins q_1211 q_1212 q_1210 kSC_94 rfl rfl rfl hl.1 rfl rfl (Nat.le_of_ble_eq_true rfl) dX11_cheapest_49 ⟨Nat.le_of_ble_eq_true rfl, Nat.le_of_ble_eq_true rfl⟩ ⟨Nat.le_of_ble_eq_true rfl, Nat.le_of_ble_eq_true rfl⟩) (fun r_40 H locs ws_37 h u_38 p_39 => ?_)
          obtain ⟨e_41, e_42, e_43⟩ := p_39
          replace HE : FT = g16c_X11_cheapest (xso SC ad ws_37) r_40.toInt := HE.trans (by rw [e_41, e_42]; rfl)
          replace HE : FT = ((xso SC ad ws_37), r_40.toInt) := HE.trans rfl
          rw [hQ]
          exact y_iret C0 h (Fr.tr (Fr.tr (Fr.tr (Fr.mono u_2 (by decide)) (Fr.mono u_14 (by decide))) (Fr.mono u_30 (by decide))) u_38) ⟨(congrArg Prod.fst (HE.symm.trans hFT)), (congrArg Prod.snd (HE.symm.trans hFT)), (o28_33 e_43), (Rel.fr (M := [4, 5, 18, 19, 20, 21, 38]) hR (Fr.tr (Fr.tr (Fr.tr (Fr.mono u_2 (by decide)) (Fr.mono u_14 (by decide))) (Fr.mono u_30 (by decide))) u_38) (by decide) (by decide)), (Hok.fr (M := [4, 5, 18, 19, 20, 21, 38]) hH (Fr.tr (Fr.tr (Fr.tr (Fr.mono u_2 (by decide)) (Fr.mono u_14 (by decide))) (Fr.mono u_30 (by decide))) u_38) (by decide))⟩ dX11_cheapest_52
        · -- 26
          replace HE : FT = g14_X11_cheapest (xso SC ad ws_13) := HE.trans (if_pos (o28_22 c_23 e_27 c_28))
          refine y_c2 (n := (-3)) C0 (by decide) dX11_cheapest_29 (fun v_44 e_45 => ?_)
          replace HE : FT = ((xso SC ad ws_13), v_44.toInt) := HE.trans (by rw [e_45]; rfl)
          rw [hQ]
          exact y_iret C0 h (Fr.tr (Fr.mono u_2 (by decide)) (Fr.mono u_14 (by decide))) ⟨(congrArg Prod.fst (HE.symm.trans hFT)), (congrArg Prod.snd (HE.symm.trans hFT)), (o28_30 e_45), (Rel.fr (M := []) hR (Fr.tr u_2 u_14) (by decide) (by decide)), (Hok.fr (M := []) hH (Fr.tr u_2 u_14) (by decide))⟩ dX11_cheapest_31
    · -- 13
      replace HE : FT = g8_X11_cheapest (xso SC ad ws_13) := HE.trans (if_pos c_22)
      refine y_c2 (n := (-2)) C0 (by decide) dX11_cheapest_16 (fun v_46 e_47 => ?_)
      replace HE : FT = ((xso SC ad ws_13), v_46.toInt) := HE.trans (by rw [e_47]; rfl)
      rw [hQ]
      exact y_iret C0 h (Fr.tr (Fr.mono u_2 (by decide)) (Fr.mono u_14 (by decide))) ⟨(congrArg Prod.fst (HE.symm.trans hFT)), (congrArg Prod.snd (HE.symm.trans hFT)), (o28_29 e_47), (Rel.fr (M := []) hR (Fr.tr u_2 u_14) (by decide) (by decide)), (Hok.fr (M := []) hH (Fr.tr u_2 u_14) (by decide))⟩ dX11_cheapest_18
noncomputable def g3_X11_ways (s : XS) : XR := (s, ((-2)))
noncomputable def g10_X11_ways (s : XS) : XR := (s, ((-3)))
noncomputable def g13_X11_ways (s : XS) : XR := (s, ((-3)))
noncomputable def g16_X11_ways (s : XS) : XR := (s, ((-3)))
noncomputable def g22c_X11_ways (s : XS) (r_48 : Int) : XR := (s, r_48)
noncomputable def g21c_X11_ways (s : XS) (r_40 : Int) (a2 : Int) (a3 : Int) (a4 : Int) : XR := g22c_X11_ways ((f_X9_waysOfJust s r_40 a2 a3 a4).1) (((f_X9_waysOfJust s r_40 a2 a3 a4).2))
noncomputable def g19_X11_ways (s : XS) (a1 : Int) (a2 : Int) (a3 : Int) (a4 : Int) : XR := g21c_X11_ways ((f_X1_stand s 10 a1).1) (((f_X1_stand s 10 a1).2)) a2 a3 a4
noncomputable def g20_X11_ways (s : XS) : XR := (s, ((-3)))
noncomputable def g18b_X11_ways (s : XS) (a4 : Int) (a1 : Int) (a2 : Int) (a3 : Int) : XR := if 40 < a4 then g20_X11_ways s else g19_X11_ways s a1 a2 a3 a4
noncomputable def g17_X11_ways (s : XS) (a1 : Int) (a2 : Int) (a3 : Int) (a4 : Int) : XR := g18b_X11_ways s a4 a1 a2 a3
noncomputable def g15b_X11_ways (s : XS) (a4 : Int) (a1 : Int) (a2 : Int) (a3 : Int) : XR := if a4 < 0 then g16_X11_ways s else g17_X11_ways s a1 a2 a3 a4
noncomputable def g14_X11_ways (s : XS) (a1 : Int) (a2 : Int) (a3 : Int) (a4 : Int) : XR := g15b_X11_ways s a4 a1 a2 a3
noncomputable def g12b_X11_ways (s : XS) (a3 : Int) (a1 : Int) (a2 : Int) (a4 : Int) : XR := if 20 < a3 then g13_X11_ways s else g14_X11_ways s a1 a2 a3 a4
noncomputable def g11_X11_ways (s : XS) (a1 : Int) (a2 : Int) (a3 : Int) (a4 : Int) : XR := g12b_X11_ways s a3 a1 a2 a4
noncomputable def g9b_X11_ways (s : XS) (a3 : Int) (a1 : Int) (a2 : Int) (a4 : Int) : XR := if a3 < 0 then g10_X11_ways s else g11_X11_ways s a1 a2 a3 a4
noncomputable def g7_X11_ways (s : XS) (a1 : Int) (a2 : Int) (a3 : Int) (a4 : Int) : XR := g9b_X11_ways s a3 a1 a2 a4
noncomputable def g8_X11_ways (s : XS) : XR := (s, ((-2)))
noncomputable def g6b_X11_ways (s : XS) (r_16 : Int) (a1 : Int) (a2 : Int) (a3 : Int) (a4 : Int) : XR := if r_16 = 0 then g8_X11_ways s else g7_X11_ways s a1 a2 a3 a4
noncomputable def g5c_X11_ways (s : XS) (r_16 : Int) (a1 : Int) (a2 : Int) (a3 : Int) (a4 : Int) : XR := g6b_X11_ways s r_16 a1 a2 a3 a4
noncomputable def g4_X11_ways (s : XS) (a1 : Int) (a2 : Int) (a3 : Int) (a4 : Int) : XR := g5c_X11_ways ((f_X11_isCrossing s a2).1) (((f_X11_isCrossing s a2).2)) a1 a2 a3 a4
noncomputable def g2b_X11_ways (s : XS) (r_4 : Int) (a1 : Int) (a2 : Int) (a3 : Int) (a4 : Int) : XR := if r_4 = 0 then g3_X11_ways s else g4_X11_ways s a1 a2 a3 a4
noncomputable def g1c_X11_ways (s : XS) (r_4 : Int) (a1 : Int) (a2 : Int) (a3 : Int) (a4 : Int) : XR := g2b_X11_ways s r_4 a1 a2 a3 a4
noncomputable def f_X11_ways (s : XS) (a1 : Int) (a2 : Int) (a3 : Int) (a4 : Int) : XR := g1c_X11_ways ((f_X11_isPerson s a1).1) (((f_X11_isPerson s a1).2)) a1 a2 a3 a4
set_option maxHeartbeats 4000000 in
set_option maxRecDepth 100000 in
theorem c_X11_ways (l : Launch) (G : GG) (Z : RZ) (ad : Nat → Nat) (ws0 : va_W) (hT : Ty G SC ad ws0) (a1 : Int32) (a2 : Int32) (a3 : Int32) (a4 : Int32) (hR : Rel ws0) (hH : Hok ws0) : Mq l yX11_ways cX11_ways 5 (some .long) 7 G Z [.ref (ad 0), .int a1, .int a2, .int a3, .int a4] ws0 (PL G SC ad [4, 5, 18, 19, 20, 21, 34, 36] ws0 (fun r u => (xso SC ad u = (f_X11_ways (xso SC ad ws0) a1.toInt a2.toInt a3.toInt a4.toInt).1) ∧ (r.toInt = (f_X11_ways (xso SC ad ws0) a1.toInt a2.toInt a3.toInt a4.toInt).2) ∧ (Rel u) ∧ (Hok u))) := by
  refine Mq.start (by decide) (Nat.le_of_ble_eq_true rfl) ?_
  intro p e s m below meth c A ls C0 hZ h hl
  have hl : lv_has ls 5 [(0, .ref (ad 0)), (1, .int a1), (2, .int a2), (3, .int a3), (4, .int a4)] := hl
  have h : Wt G SC ad A s s.heap [] ws0 := ⟨h, hT⟩
  obtain ⟨args, hargs⟩ : ∃ z, z = ([.ref (ad 0), .int a1, .int a2, .int a3, .int a4] : List Value).toArray := ⟨_, rfl⟩
  rw [← hargs] at C0 ⊢
  have C0 : Cx p s m args meth c RX11 cX11_ways 5 (some .long) := C0
  obtain ⟨Q, hQ⟩ : ∃ z, z = MQ below ((PL G SC ad [4, 5, 18, 19, 20, 21, 34, 36] ws0 (fun r u => (xso SC ad u = (f_X11_ways (xso SC ad ws0) a1.toInt a2.toInt a3.toInt a4.toInt).1) ∧ (r.toInt = (f_X11_ways (xso SC ad ws0) a1.toInt a2.toInt a3.toInt a4.toInt).2) ∧ (Rel u) ∧ (Hok u))) A) args s 0 0 A := ⟨_, rfl⟩
  rw [← hQ]
  obtain ⟨FT, hFT⟩ : ∃ z, z = f_X11_ways (xso SC ad ws0) a1.toInt a2.toInt a3.toInt a4.toInt := ⟨_, rfl⟩
  have HE : FT = f_X11_ways (xso SC ad ws0) a1.toInt a2.toInt a3.toInt a4.toInt := hFT
  refine lv_aload_n C0.1 C0.2.1 dX11_ways_0 rfl (lv_at hl 0 rfl) ?_
  refine lv_iload_n C0.1 C0.2.1 dX11_ways_1 rfl (lv_at hl 1 rfl) ?_
  refine y_ci h (y_rV (As := [.int a1]) (rest := []) C0 hZ h (c_X11_isPerson l G Z ad _ h.2 a1) k_X11_isPerson q_903 q_23 q_901 kSC_0 rfl rfl rfl hl.1 rfl rfl (Nat.le_of_ble_eq_true rfl) dX11_ways_2 ⟨Nat.le_of_ble_eq_true rfl, Nat.le_of_ble_eq_true rfl⟩ ⟨Nat.le_of_ble_eq_true rfl, Nat.le_of_ble_eq_true rfl⟩) (fun r_4 H locs ws_1 h u_2 p_3 => ?_)
  obtain ⟨e_5, e_6, e_7, e_8, e_9⟩ := p_3
  replace HE : FT = g1c_X11_ways (xso SC ad ws_1) r_4.toInt a1.toInt a2.toInt a3.toInt a4.toInt := HE.trans (by rw [e_5, e_6]; rfl)
  replace HE : FT = g2b_X11_ways (xso SC ad ws_1) r_4.toInt a1.toInt a2.toInt a3.toInt a4.toInt := HE.trans rfl
  refine y_if_eq (tgt := 16) C0 dX11_ways_5 (by decide) (fun c_10 => ?_) (fun c_10 => ?_)
  · -- 5
    replace HE : FT = g3_X11_ways (xso SC ad ws_1) := HE.trans (if_pos c_10)
    refine y_lc2 (n := (-2)) C0 q_1229 (by decide) dX11_ways_16 (fun w_11 e_12 => ?_)
    replace HE : FT = ((xso SC ad ws_1), w_11.toInt) := HE.trans (by rw [e_12]; rfl)
    rw [hQ]
    exact y_lret C0 h (Fr.mono u_2 (by decide)) ⟨(congrArg Prod.fst (HE.symm.trans hFT)), (congrArg Prod.snd (HE.symm.trans hFT)), (Rel.fr (M := []) hR u_2 (by decide) (by decide)), (Hok.fr (M := []) hH u_2 (by decide))⟩ dX11_ways_19
  · -- 5
    replace HE : FT = g4_X11_ways (xso SC ad ws_1) a1.toInt a2.toInt a3.toInt a4.toInt := HE.trans (if_neg c_10)
    refine lv_aload_n C0.1 C0.2.1 dX11_ways_8 rfl (lv_at hl 0 rfl) ?_
    refine lv_iload_n C0.1 C0.2.1 dX11_ways_9 rfl (lv_at hl 2 rfl) ?_
    refine y_ci h (y_rV (As := [.int a2]) (rest := []) C0 hZ h (c_X11_isCrossing l G Z ad _ h.2 a2) k_X11_isCrossing q_915 q_25 q_913 kSC_0 rfl rfl rfl hl.1 rfl rfl (Nat.le_of_ble_eq_true rfl) dX11_ways_10 ⟨Nat.le_of_ble_eq_true rfl, Nat.le_of_ble_eq_true rfl⟩ ⟨Nat.le_of_ble_eq_true rfl, Nat.le_of_ble_eq_true rfl⟩) (fun r_16 H locs ws_13 h u_14 p_15 => ?_)
    obtain ⟨e_17, e_18, e_19, e_20, e_21⟩ := p_15
    replace HE : FT = g5c_X11_ways (xso SC ad ws_13) r_16.toInt a1.toInt a2.toInt a3.toInt a4.toInt := HE.trans (by rw [e_17, e_18]; rfl)
    replace HE : FT = g6b_X11_ways (xso SC ad ws_13) r_16.toInt a1.toInt a2.toInt a3.toInt a4.toInt := HE.trans rfl
    refine y_if_ne (tgt := 20) C0 dX11_ways_13 (by decide) (fun c_22 => ?_) (fun c_22 => ?_)
    · -- 13
      replace HE : FT = g7_X11_ways (xso SC ad ws_13) a1.toInt a2.toInt a3.toInt a4.toInt := HE.trans (if_neg c_22)
      refine lv_iload_n C0.1 C0.2.1 dX11_ways_20 rfl (lv_at hl 3 rfl) ?_
      replace HE : FT = g9b_X11_ways (xso SC ad ws_13) a3.toInt a1.toInt a2.toInt a4.toInt := HE.trans rfl
      refine y_if_lt (tgt := 42) C0 dX11_ways_21 (by decide) (fun c_23 => ?_) (fun c_23 => ?_)
      · -- 21
        replace HE : FT = g10_X11_ways (xso SC ad ws_13) := HE.trans (if_pos c_23)
        refine y_lc2 (n := (-3)) C0 q_1230 (by decide) dX11_ways_42 (fun w_24 e_25 => ?_)
        replace HE : FT = ((xso SC ad ws_13), w_24.toInt) := HE.trans (by rw [e_25]; rfl)
        rw [hQ]
        exact y_lret C0 h (Fr.tr (Fr.mono u_2 (by decide)) (Fr.mono u_14 (by decide))) ⟨(congrArg Prod.fst (HE.symm.trans hFT)), (congrArg Prod.snd (HE.symm.trans hFT)), (Rel.fr (M := []) hR (Fr.tr u_2 u_14) (by decide) (by decide)), (Hok.fr (M := []) hH (Fr.tr u_2 u_14) (by decide))⟩ dX11_ways_45
      · -- 21
        replace HE : FT = g11_X11_ways (xso SC ad ws_13) a1.toInt a2.toInt a3.toInt a4.toInt := HE.trans (if_neg (Int.not_lt.mpr c_23))
        refine lv_iload_n C0.1 C0.2.1 dX11_ways_24 rfl (lv_at hl 3 rfl) ?_
        refine y_c2 (n := 20) C0 (by decide) dX11_ways_25 (fun v_26 e_27 => ?_)
        replace HE : FT = g12b_X11_ways (xso SC ad ws_13) a3.toInt a1.toInt a2.toInt a4.toInt := HE.trans rfl
        refine y_icmp_gt (tgt := 42) C0 dX11_ways_27 (by decide) (fun c_28 => ?_) (fun c_28 => ?_)
        · -- 27
          replace HE : FT = g13_X11_ways (xso SC ad ws_13) := HE.trans (if_pos (o28_35 c_23 e_27 c_28))
          refine y_lc2 (n := (-3)) C0 q_1230 (by decide) dX11_ways_42 (fun w_29 e_30 => ?_)
          replace HE : FT = ((xso SC ad ws_13), w_29.toInt) := HE.trans (by rw [e_30]; rfl)
          rw [hQ]
          exact y_lret C0 h (Fr.tr (Fr.mono u_2 (by decide)) (Fr.mono u_14 (by decide))) ⟨(congrArg Prod.fst (HE.symm.trans hFT)), (congrArg Prod.snd (HE.symm.trans hFT)), (Rel.fr (M := []) hR (Fr.tr u_2 u_14) (by decide) (by decide)), (Hok.fr (M := []) hH (Fr.tr u_2 u_14) (by decide))⟩ dX11_ways_45
        · -- 27
          replace HE : FT = g14_X11_ways (xso SC ad ws_13) a1.toInt a2.toInt a3.toInt a4.toInt := HE.trans (if_neg (o28_36 c_23 e_27 c_28))
          refine lv_iload C0.1 C0.2.1 dX11_ways_30 (lv_at hl 4 rfl) ?_
          replace HE : FT = g15b_X11_ways (xso SC ad ws_13) a4.toInt a1.toInt a2.toInt a3.toInt := HE.trans rfl
          refine y_if_lt (tgt := 42) C0 dX11_ways_32 (by decide) (fun c_31 => ?_) (fun c_31 => ?_)
          · -- 32
            replace HE : FT = g16_X11_ways (xso SC ad ws_13) := HE.trans (if_pos c_31)
            refine y_lc2 (n := (-3)) C0 q_1230 (by decide) dX11_ways_42 (fun w_32 e_33 => ?_)
            replace HE : FT = ((xso SC ad ws_13), w_32.toInt) := HE.trans (by rw [e_33]; rfl)
            rw [hQ]
            exact y_lret C0 h (Fr.tr (Fr.mono u_2 (by decide)) (Fr.mono u_14 (by decide))) ⟨(congrArg Prod.fst (HE.symm.trans hFT)), (congrArg Prod.snd (HE.symm.trans hFT)), (Rel.fr (M := []) hR (Fr.tr u_2 u_14) (by decide) (by decide)), (Hok.fr (M := []) hH (Fr.tr u_2 u_14) (by decide))⟩ dX11_ways_45
          · -- 32
            replace HE : FT = g17_X11_ways (xso SC ad ws_13) a1.toInt a2.toInt a3.toInt a4.toInt := HE.trans (if_neg (Int.not_lt.mpr c_31))
            refine lv_iload C0.1 C0.2.1 dX11_ways_35 (lv_at hl 4 rfl) ?_
            refine y_c2 (n := 40) C0 (by decide) dX11_ways_37 (fun v_34 e_35 => ?_)
            replace HE : FT = g18b_X11_ways (xso SC ad ws_13) a4.toInt a1.toInt a2.toInt a3.toInt := HE.trans rfl
            refine y_icmp_le (tgt := 46) C0 dX11_ways_39 (by decide) (fun c_36 => ?_) (fun c_36 => ?_)
            · -- 39
              replace HE : FT = g19_X11_ways (xso SC ad ws_13) a1.toInt a2.toInt a3.toInt a4.toInt := HE.trans (if_neg (o28_38 c_31 e_35 c_36))
              refine lv_aload_n C0.1 C0.2.1 dX11_ways_46 rfl (lv_at hl 0 rfl) ?_
              refine tg_X11_tally C0 h kSC_0 q_521 dX11_ways_47 ?_
              refine lv_aload_n C0.1 C0.2.1 dX11_ways_50 rfl (lv_at hl 0 rfl) ?_
              refine tg_X11_now C0 h kSC_0 q_515 dX11_ways_51 ?_
              refine tg_X0_folk C0 h kSC_1 q_249 dX11_ways_54 ?_
              refine lv_iload_n C0.1 C0.2.1 dX11_ways_57 rfl (lv_at hl 1 rfl) ?_
              refine y_ci h (y_rV (As := [.int a1]) (rest := [.ref (ad 94)]) C0 hZ h (c_X1_stand l G Z ad _ h.2 10 kSC_10 a1 (o28_8 e_7 e_8 e_9 c_10) (o28_9 e_7 e_8 e_9 c_10)) k_X1_stand q_1071 q_1072 q_1070 kSC_10 rfl rfl rfl hl.1 rfl rfl (Nat.le_of_ble_eq_true rfl) dX11_ways_58 ⟨Nat.le_of_ble_eq_true rfl, Nat.le_of_ble_eq_true rfl⟩ ⟨Nat.le_of_ble_eq_true rfl, Nat.le_of_ble_eq_true rfl⟩) (fun r_40 H locs ws_37 h u_38 p_39 => ?_)
              obtain ⟨e_41, e_42, e_43, e_44⟩ := p_39
              replace HE : FT = g21c_X11_ways (xso SC ad ws_37) r_40.toInt a2.toInt a3.toInt a4.toInt := HE.trans (by rw [e_41, e_42]; rfl)
              refine lv_iload_n C0.1 C0.2.1 dX11_ways_61 rfl (lv_at hl 2 rfl) ?_
              refine lv_iload_n C0.1 C0.2.1 dX11_ways_62 rfl (lv_at hl 3 rfl) ?_
              refine lv_iload C0.1 C0.2.1 dX11_ways_63 (lv_at hl 4 rfl) ?_
              refine y_cl h (y_rV (As := [.int r_40, .int a2, .int a3, .int a4]) (rest := []) C0 hZ h (c_X9_waysOfJust l G Z ad _ h.2 r_40 a2 a3 a4 (o28_10 e_43 e_44) (o28_11 e_43 e_44) (o28_31 e_19 e_20 e_21 c_22) (o28_32 e_19 e_20 e_21 c_22) (o28_40 c_23 e_27 c_28) (o28_41 c_23 e_27 c_28) (o28_42 c_31 e_35 c_36) (o28_43 c_31 e_35 c_36) (Rel.fr (M := []) hR (Fr.tr (Fr.tr u_2 u_14) u_38) (by decide) (by decide))) k_X9_waysOfJust q_1232 q_1233 q_1231 kSC_94 rfl rfl rfl hl.1 rfl rfl (Nat.le_of_ble_eq_true rfl) dX11_ways_65 ⟨Nat.le_of_ble_eq_true rfl, Nat.le_of_ble_eq_true rfl⟩ ⟨Nat.le_of_ble_eq_true rfl, Nat.le_of_ble_eq_true rfl⟩) (fun r_48 H locs ws_45 h u_46 p_47 => ?_)
              obtain ⟨e_49, e_50⟩ := p_47
              replace HE : FT = g22c_X11_ways (xso SC ad ws_45) r_48.toInt := HE.trans (by rw [e_49, e_50]; rfl)
              replace HE : FT = ((xso SC ad ws_45), r_48.toInt) := HE.trans rfl
              rw [hQ]
              exact y_lret C0 h (Fr.tr (Fr.tr (Fr.tr (Fr.mono u_2 (by decide)) (Fr.mono u_14 (by decide))) (Fr.mono u_38 (by decide))) u_46) ⟨(congrArg Prod.fst (HE.symm.trans hFT)), (congrArg Prod.snd (HE.symm.trans hFT)), (Rel.fr (M := [4, 5, 18, 19, 20, 21, 34, 36]) hR (Fr.tr (Fr.tr (Fr.tr (Fr.mono u_2 (by decide)) (Fr.mono u_14 (by decide))) (Fr.mono u_38 (by decide))) u_46) (by decide) (by decide)), (Hok.fr (M := [4, 5, 18, 19, 20, 21, 34, 36]) hH (Fr.tr (Fr.tr (Fr.tr (Fr.mono u_2 (by decide)) (Fr.mono u_14 (by decide))) (Fr.mono u_38 (by decide))) u_46) (by decide))⟩ dX11_ways_68
            · -- 39
              replace HE : FT = g20_X11_ways (xso SC ad ws_13) := HE.trans (if_pos (o28_39 c_31 e_35 c_36))
              refine y_lc2 (n := (-3)) C0 q_1230 (by decide) dX11_ways_42 (fun w_51 e_52 => ?_)
              replace HE : FT = ((xso SC ad ws_13), w_51.toInt) := HE.trans (by rw [e_52]; rfl)
              rw [hQ]
              exact y_lret C0 h (Fr.tr (Fr.mono u_2 (by decide)) (Fr.mono u_14 (by decide))) ⟨(congrArg Prod.fst (HE.symm.trans hFT)), (congrArg Prod.snd (HE.symm.trans hFT)), (Rel.fr (M := []) hR (Fr.tr u_2 u_14) (by decide) (by decide)), (Hok.fr (M := []) hH (Fr.tr u_2 u_14) (by decide))⟩ dX11_ways_45
    · -- 13
      replace HE : FT = g8_X11_ways (xso SC ad ws_13) := HE.trans (if_pos c_22)
      refine y_lc2 (n := (-2)) C0 q_1229 (by decide) dX11_ways_16 (fun w_53 e_54 => ?_)
      replace HE : FT = ((xso SC ad ws_13), w_53.toInt) := HE.trans (by rw [e_54]; rfl)
      rw [hQ]
      exact y_lret C0 h (Fr.tr (Fr.mono u_2 (by decide)) (Fr.mono u_14 (by decide))) ⟨(congrArg Prod.fst (HE.symm.trans hFT)), (congrArg Prod.snd (HE.symm.trans hFT)), (Rel.fr (M := []) hR (Fr.tr u_2 u_14) (by decide) (by decide)), (Hok.fr (M := []) hH (Fr.tr u_2 u_14) (by decide))⟩ dX11_ways_19
noncomputable def g6_X11_reach (s : XS) : XR := (s, ((-3)))
noncomputable def g12c_X11_reach (s : XS) (r_28 : Int) : XR := (s, r_28)
noncomputable def g11c_X11_reach (s : XS) (r_20 : Int) (a2 : Int) : XR := g12c_X11_reach ((f_X8_reachable s r_20 a2).1) (((f_X8_reachable s r_20 a2).2))
noncomputable def g9_X11_reach (s : XS) (a1 : Int) (a2 : Int) : XR := g11c_X11_reach ((f_X1_stand s 10 a1).1) (((f_X1_stand s 10 a1).2)) a2
noncomputable def g10_X11_reach (s : XS) : XR := (s, ((-3)))
noncomputable def g8b_X11_reach (s : XS) (a2 : Int) (a1 : Int) : XR := if 120 < a2 then g10_X11_reach s else g9_X11_reach s a1 a2
noncomputable def g7_X11_reach (s : XS) (a1 : Int) (a2 : Int) : XR := g8b_X11_reach s a2 a1
noncomputable def g5b_X11_reach (s : XS) (a2 : Int) (a1 : Int) : XR := if a2 < 0 then g6_X11_reach s else g7_X11_reach s a1 a2
noncomputable def g3_X11_reach (s : XS) (a1 : Int) (a2 : Int) : XR := g5b_X11_reach s a2 a1
noncomputable def g4_X11_reach (s : XS) : XR := (s, ((-2)))
noncomputable def g2b_X11_reach (s : XS) (r_4 : Int) (a1 : Int) (a2 : Int) : XR := if r_4 = 0 then g4_X11_reach s else g3_X11_reach s a1 a2
noncomputable def g1c_X11_reach (s : XS) (r_4 : Int) (a1 : Int) (a2 : Int) : XR := g2b_X11_reach s r_4 a1 a2
noncomputable def f_X11_reach (s : XS) (a1 : Int) (a2 : Int) : XR := g1c_X11_reach ((f_X11_isPerson s a1).1) (((f_X11_isPerson s a1).2)) a1 a2
set_option maxHeartbeats 4000000 in
set_option maxRecDepth 100000 in
theorem c_X11_reach (l : Launch) (G : GG) (Z : RZ) (ad : Nat → Nat) (ws0 : va_W) (hT : Ty G SC ad ws0) (a1 : Int32) (a2 : Int32) (hR : Rel ws0) (hH : Hok ws0) : Mq l yX11_reach cX11_reach 3 (some .int) 8 G Z [.ref (ad 0), .int a1, .int a2] ws0 (PI G SC ad [4, 5, 18, 19, 20, 21, 22, 23, 24] ws0 (fun r u => (xso SC ad u = (f_X11_reach (xso SC ad ws0) a1.toInt a2.toInt).1) ∧ (r.toInt = (f_X11_reach (xso SC ad ws0) a1.toInt a2.toInt).2) ∧ (Rel u) ∧ (Hok u))) := by
  refine Mq.start (by decide) (Nat.le_of_ble_eq_true rfl) ?_
  intro p e s m below meth c A ls C0 hZ h hl
  have hl : lv_has ls 3 [(0, .ref (ad 0)), (1, .int a1), (2, .int a2)] := hl
  have h : Wt G SC ad A s s.heap [] ws0 := ⟨h, hT⟩
  obtain ⟨args, hargs⟩ : ∃ z, z = ([.ref (ad 0), .int a1, .int a2] : List Value).toArray := ⟨_, rfl⟩
  rw [← hargs] at C0 ⊢
  have C0 : Cx p s m args meth c RX11 cX11_reach 3 (some .int) := C0
  obtain ⟨Q, hQ⟩ : ∃ z, z = MQ below ((PI G SC ad [4, 5, 18, 19, 20, 21, 22, 23, 24] ws0 (fun r u => (xso SC ad u = (f_X11_reach (xso SC ad ws0) a1.toInt a2.toInt).1) ∧ (r.toInt = (f_X11_reach (xso SC ad ws0) a1.toInt a2.toInt).2) ∧ (Rel u) ∧ (Hok u))) A) args s 0 0 A := ⟨_, rfl⟩
  rw [← hQ]
  obtain ⟨FT, hFT⟩ : ∃ z, z = f_X11_reach (xso SC ad ws0) a1.toInt a2.toInt := ⟨_, rfl⟩
  have HE : FT = f_X11_reach (xso SC ad ws0) a1.toInt a2.toInt := hFT
  refine lv_aload_n C0.1 C0.2.1 dX11_reach_0 rfl (lv_at hl 0 rfl) ?_
  refine lv_iload_n C0.1 C0.2.1 dX11_reach_1 rfl (lv_at hl 1 rfl) ?_
  refine y_ci h (y_rV (As := [.int a1]) (rest := []) C0 hZ h (c_X11_isPerson l G Z ad _ h.2 a1) k_X11_isPerson q_903 q_23 q_901 kSC_0 rfl rfl rfl hl.1 rfl rfl (Nat.le_of_ble_eq_true rfl) dX11_reach_2 ⟨Nat.le_of_ble_eq_true rfl, Nat.le_of_ble_eq_true rfl⟩ ⟨Nat.le_of_ble_eq_true rfl, Nat.le_of_ble_eq_true rfl⟩) (fun r_4 H locs ws_1 h u_2 p_3 => ?_)
  obtain ⟨e_5, e_6, e_7, e_8, e_9⟩ := p_3
  replace HE : FT = g1c_X11_reach (xso SC ad ws_1) r_4.toInt a1.toInt a2.toInt := HE.trans (by rw [e_5, e_6]; rfl)
  replace HE : FT = g2b_X11_reach (xso SC ad ws_1) r_4.toInt a1.toInt a2.toInt := HE.trans rfl
  refine y_if_ne (tgt := 11) C0 dX11_reach_5 (by decide) (fun c_10 => ?_) (fun c_10 => ?_)
  · -- 5
    replace HE : FT = g3_X11_reach (xso SC ad ws_1) a1.toInt a2.toInt := HE.trans (if_neg c_10)
    refine lv_iload_n C0.1 C0.2.1 dX11_reach_11 rfl (lv_at hl 2 rfl) ?_
    replace HE : FT = g5b_X11_reach (xso SC ad ws_1) a2.toInt a1.toInt := HE.trans rfl
    refine y_if_lt (tgt := 21) C0 dX11_reach_12 (by decide) (fun c_11 => ?_) (fun c_11 => ?_)
    · -- 12
      replace HE : FT = g6_X11_reach (xso SC ad ws_1) := HE.trans (if_pos c_11)
      refine y_c2 (n := (-3)) C0 (by decide) dX11_reach_21 (fun v_12 e_13 => ?_)
      replace HE : FT = ((xso SC ad ws_1), v_12.toInt) := HE.trans (by rw [e_13]; rfl)
      rw [hQ]
      exact y_iret C0 h (Fr.mono u_2 (by decide)) ⟨(congrArg Prod.fst (HE.symm.trans hFT)), (congrArg Prod.snd (HE.symm.trans hFT)), (Rel.fr (M := []) hR u_2 (by decide) (by decide)), (Hok.fr (M := []) hH u_2 (by decide))⟩ dX11_reach_23
    · -- 12
      replace HE : FT = g7_X11_reach (xso SC ad ws_1) a1.toInt a2.toInt := HE.trans (if_neg (Int.not_lt.mpr c_11))
      refine lv_iload_n C0.1 C0.2.1 dX11_reach_15 rfl (lv_at hl 2 rfl) ?_
      refine y_c2 (n := 120) C0 (by decide) dX11_reach_16 (fun v_14 e_15 => ?_)
      replace HE : FT = g8b_X11_reach (xso SC ad ws_1) a2.toInt a1.toInt := HE.trans rfl
      refine y_icmp_le (tgt := 24) C0 dX11_reach_18 (by decide) (fun c_16 => ?_) (fun c_16 => ?_)
      · -- 18
        replace HE : FT = g9_X11_reach (xso SC ad ws_1) a1.toInt a2.toInt := HE.trans (if_neg (o28_6 c_11 e_15 c_16))
        refine lv_aload_n C0.1 C0.2.1 dX11_reach_24 rfl (lv_at hl 0 rfl) ?_
        refine tg_X11_spread C0 h kSC_0 q_522 dX11_reach_25 ?_
        refine lv_aload_n C0.1 C0.2.1 dX11_reach_28 rfl (lv_at hl 0 rfl) ?_
        refine tg_X11_now C0 h kSC_0 q_515 dX11_reach_29 ?_
        refine tg_X0_folk C0 h kSC_1 q_249 dX11_reach_32 ?_
        refine lv_iload_n C0.1 C0.2.1 dX11_reach_35 rfl (lv_at hl 1 rfl) ?_
        refine y_ci h (y_rV (As := [.int a1]) (rest := [.ref (ad 83)]) C0 hZ h (c_X1_stand l G Z ad _ h.2 10 kSC_10 a1 (o28_8 e_7 e_8 e_9 c_10) (o28_9 e_7 e_8 e_9 c_10)) k_X1_stand q_1071 q_1072 q_1070 kSC_10 rfl rfl rfl hl.1 rfl rfl (Nat.le_of_ble_eq_true rfl) dX11_reach_36 ⟨Nat.le_of_ble_eq_true rfl, Nat.le_of_ble_eq_true rfl⟩ ⟨Nat.le_of_ble_eq_true rfl, Nat.le_of_ble_eq_true rfl⟩) (fun r_20 H locs ws_17 h u_18 p_19 => ?_)
        obtain ⟨e_21, e_22, e_23, e_24⟩ := p_19
        replace HE : FT = g11c_X11_reach (xso SC ad ws_17) r_20.toInt a2.toInt := HE.trans (by rw [e_21, e_22]; rfl)
        refine lv_iload_n C0.1 C0.2.1 dX11_reach_39 rfl (lv_at hl 2 rfl) ?_
        refine y_ci h (y_rV (As := [.int r_20, .int a2]) (rest := []) C0 hZ h (c_X8_reachable l G Z ad _ h.2 r_20 a2 (o28_10 e_23 e_24) (o28_11 e_23 e_24) (o28_12 c_11 e_15 c_16) (o28_13 c_11 e_15 c_16)) k_X8_reachable q_1249 q_1250 q_1248 kSC_83 rfl rfl rfl hl.1 rfl rfl (Nat.le_of_ble_eq_true rfl) dX11_reach_40 ⟨Nat.le_of_ble_eq_true rfl, Nat.le_of_ble_eq_true rfl⟩ ⟨Nat.le_of_ble_eq_true rfl, Nat.le_of_ble_eq_true rfl⟩) (fun r_28 H locs ws_25 h u_26 p_27 => ?_)
        obtain ⟨e_29, e_30⟩ := p_27
        replace HE : FT = g12c_X11_reach (xso SC ad ws_25) r_28.toInt := HE.trans (by rw [e_29, e_30]; rfl)
        replace HE : FT = ((xso SC ad ws_25), r_28.toInt) := HE.trans rfl
        rw [hQ]
        exact y_iret C0 h (Fr.tr (Fr.tr (Fr.mono u_2 (by decide)) (Fr.mono u_18 (by decide))) u_26) ⟨(congrArg Prod.fst (HE.symm.trans hFT)), (congrArg Prod.snd (HE.symm.trans hFT)), (Rel.fr (M := [4, 5, 18, 19, 20, 21, 22, 23, 24]) hR (Fr.tr (Fr.tr (Fr.mono u_2 (by decide)) (Fr.mono u_18 (by decide))) u_26) (by decide) (by decide)), (Hok.fr (M := [4, 5, 18, 19, 20, 21, 22, 23, 24]) hH (Fr.tr (Fr.tr (Fr.mono u_2 (by decide)) (Fr.mono u_18 (by decide))) u_26) (by decide))⟩ dX11_reach_43
      · -- 18
        replace HE : FT = g10_X11_reach (xso SC ad ws_1) := HE.trans (if_pos (o28_7 c_11 e_15 c_16))
        refine y_c2 (n := (-3)) C0 (by decide) dX11_reach_21 (fun v_31 e_32 => ?_)
        replace HE : FT = ((xso SC ad ws_1), v_31.toInt) := HE.trans (by rw [e_32]; rfl)
        rw [hQ]
        exact y_iret C0 h (Fr.mono u_2 (by decide)) ⟨(congrArg Prod.fst (HE.symm.trans hFT)), (congrArg Prod.snd (HE.symm.trans hFT)), (Rel.fr (M := []) hR u_2 (by decide) (by decide)), (Hok.fr (M := []) hH u_2 (by decide))⟩ dX11_reach_23
  · -- 5
    replace HE : FT = g4_X11_reach (xso SC ad ws_1) := HE.trans (if_pos c_10)
    refine y_c2 (n := (-2)) C0 (by decide) dX11_reach_8 (fun v_33 e_34 => ?_)
    replace HE : FT = ((xso SC ad ws_1), v_33.toInt) := HE.trans (by rw [e_34]; rfl)
    rw [hQ]
    exact y_iret C0 h (Fr.mono u_2 (by decide)) ⟨(congrArg Prod.fst (HE.symm.trans hFT)), (congrArg Prod.snd (HE.symm.trans hFT)), (Rel.fr (M := []) hR u_2 (by decide) (by decide)), (Hok.fr (M := []) hH u_2 (by decide))⟩ dX11_reach_10
noncomputable def g6c_X11_enough (s : XS) (r_22 : Int) : XR := (s, r_22)
noncomputable def g5c_X11_enough (s : XS) (r_14 : Int) : XR := g6c_X11_enough ((f_X8_leastForAll s r_14).1) (((f_X8_leastForAll s r_14).2))
noncomputable def g3_X11_enough (s : XS) (a1 : Int) : XR := g5c_X11_enough ((f_X1_stand s 10 a1).1) (((f_X1_stand s 10 a1).2))
noncomputable def g4_X11_enough (s : XS) : XR := (s, ((-2)))
noncomputable def g2b_X11_enough (s : XS) (r_4 : Int) (a1 : Int) : XR := if r_4 = 0 then g4_X11_enough s else g3_X11_enough s a1
noncomputable def g1c_X11_enough (s : XS) (r_4 : Int) (a1 : Int) : XR := g2b_X11_enough s r_4 a1
noncomputable def f_X11_enough (s : XS) (a1 : Int) : XR := g1c_X11_enough ((f_X11_isPerson s a1).1) (((f_X11_isPerson s a1).2)) a1
set_option maxHeartbeats 4000000 in
set_option maxRecDepth 100000 in
theorem c_X11_enough (l : Launch) (G : GG) (Z : RZ) (ad : Nat → Nat) (ws0 : va_W) (hT : Ty G SC ad ws0) (a1 : Int32) (hR : Rel ws0) (hH : Hok ws0) : Mq l yX11_enough cX11_enough 2 (some .int) 8 G Z [.ref (ad 0), .int a1] ws0 (PI G SC ad [4, 5, 18, 19, 20, 21, 22, 23, 24] ws0 (fun r u => (xso SC ad u = (f_X11_enough (xso SC ad ws0) a1.toInt).1) ∧ (r.toInt = (f_X11_enough (xso SC ad ws0) a1.toInt).2) ∧ ((-2) ≤ r.toInt) ∧ (r.toInt ≤ 120) ∧ (Rel u) ∧ (Hok u))) := by
  refine Mq.start (by decide) (Nat.le_of_ble_eq_true rfl) ?_
  intro p e s m below meth c A ls C0 hZ h hl
  have hl : lv_has ls 2 [(0, .ref (ad 0)), (1, .int a1)] := hl
  have h : Wt G SC ad A s s.heap [] ws0 := ⟨h, hT⟩
  obtain ⟨args, hargs⟩ : ∃ z, z = ([.ref (ad 0), .int a1] : List Value).toArray := ⟨_, rfl⟩
  rw [← hargs] at C0 ⊢
  have C0 : Cx p s m args meth c RX11 cX11_enough 2 (some .int) := C0
  obtain ⟨Q, hQ⟩ : ∃ z, z = MQ below ((PI G SC ad [4, 5, 18, 19, 20, 21, 22, 23, 24] ws0 (fun r u => (xso SC ad u = (f_X11_enough (xso SC ad ws0) a1.toInt).1) ∧ (r.toInt = (f_X11_enough (xso SC ad ws0) a1.toInt).2) ∧ ((-2) ≤ r.toInt) ∧ (r.toInt ≤ 120) ∧ (Rel u) ∧ (Hok u))) A) args s 0 0 A := ⟨_, rfl⟩
  rw [← hQ]
  obtain ⟨FT, hFT⟩ : ∃ z, z = f_X11_enough (xso SC ad ws0) a1.toInt := ⟨_, rfl⟩
  have HE : FT = f_X11_enough (xso SC ad ws0) a1.toInt := hFT
  refine lv_aload_n C0.1 C0.2.1 dX11_enough_0 rfl (lv_at hl 0 rfl) ?_
  refine lv_iload_n C0.1 C0.2.1 dX11_enough_1 rfl (lv_at hl 1 rfl) ?_
  refine y_ci h (y_rV (As := [.int a1]) (rest := []) C0 hZ h (c_X11_isPerson l G Z ad _ h.2 a1) k_X11_isPerson q_903 q_23 q_901 kSC_0 rfl rfl rfl hl.1 rfl rfl (Nat.le_of_ble_eq_true rfl) dX11_enough_2 ⟨Nat.le_of_ble_eq_true rfl, Nat.le_of_ble_eq_true rfl⟩ ⟨Nat.le_of_ble_eq_true rfl, Nat.le_of_ble_eq_true rfl⟩) (fun r_4 H locs ws_1 h u_2 p_3 => ?_)
  obtain ⟨e_5, e_6, e_7, e_8, e_9⟩ := p_3
  replace HE : FT = g1c_X11_enough (xso SC ad ws_1) r_4.toInt a1.toInt := HE.trans (by rw [e_5, e_6]; rfl)
  replace HE : FT = g2b_X11_enough (xso SC ad ws_1) r_4.toInt a1.toInt := HE.trans rfl
  refine y_if_ne (tgt := 11) C0 dX11_enough_5 (by decide) (fun c_10 => ?_) (fun c_10 => ?_)
  · -- 5
    replace HE : FT = g3_X11_enough (xso SC ad ws_1) a1.toInt := HE.trans (if_neg c_10)
    refine lv_aload_n C0.1 C0.2.1 dX11_enough_11 rfl (lv_at hl 0 rfl) ?_
    refine tg_X11_spread C0 h kSC_0 q_522 dX11_enough_12 ?_
    refine lv_aload_n C0.1 C0.2.1 dX11_enough_15 rfl (lv_at hl 0 rfl) ?_
    refine tg_X11_now C0 h kSC_0 q_515 dX11_enough_16 ?_
    refine tg_X0_folk C0 h kSC_1 q_249 dX11_enough_19 ?_
    refine lv_iload_n C0.1 C0.2.1 dX11_enough_22 rfl (lv_at hl 1 rfl) ?_
    refine y_ci h (y_rV (As := [.int a1]) (rest := [.ref (ad 83)]) C0 hZ h (c_X1_stand l G Z ad _ h.2 10 kSC_10 a1 (o28_8 e_7 e_8 e_9 c_10) (o28_9 e_7 e_8 e_9 c_10)) k_X1_stand q_1071 q_1072 q_1070 kSC_10 rfl rfl rfl hl.1 rfl rfl (Nat.le_of_ble_eq_true rfl) dX11_enough_23 ⟨Nat.le_of_ble_eq_true rfl, Nat.le_of_ble_eq_true rfl⟩ ⟨Nat.le_of_ble_eq_true rfl, Nat.le_of_ble_eq_true rfl⟩) (fun r_14 H locs ws_11 h u_12 p_13 => ?_)
    obtain ⟨e_15, e_16, e_17, e_18⟩ := p_13
    replace HE : FT = g5c_X11_enough (xso SC ad ws_11) r_14.toInt := HE.trans (by rw [e_15, e_16]; rfl)
    refine y_ci h (y_rV (As := [.int r_14]) (rest := []) C0 hZ h (c_X8_leastForAll l G Z ad _ h.2 r_14 (o28_10 e_17 e_18) (o28_11 e_17 e_18)) k_X8_leastForAll q_1262 q_1263 q_1261 kSC_83 rfl rfl rfl hl.1 rfl rfl (Nat.le_of_ble_eq_true rfl) dX11_enough_26 ⟨Nat.le_of_ble_eq_true rfl, Nat.le_of_ble_eq_true rfl⟩ ⟨Nat.le_of_ble_eq_true rfl, Nat.le_of_ble_eq_true rfl⟩) (fun r_22 H locs ws_19 h u_20 p_21 => ?_)
    obtain ⟨e_23, e_24, e_25, e_26⟩ := p_21
    replace HE : FT = g6c_X11_enough (xso SC ad ws_19) r_22.toInt := HE.trans (by rw [e_23, e_24]; rfl)
    replace HE : FT = ((xso SC ad ws_19), r_22.toInt) := HE.trans rfl
    rw [hQ]
    exact y_iret C0 h (Fr.tr (Fr.tr (Fr.mono u_2 (by decide)) (Fr.mono u_12 (by decide))) u_20) ⟨(congrArg Prod.fst (HE.symm.trans hFT)), (congrArg Prod.snd (HE.symm.trans hFT)), (o28_44 e_25 e_26), (o28_45 e_25 e_26), (Rel.fr (M := [4, 5, 18, 19, 20, 21, 22, 23, 24]) hR (Fr.tr (Fr.tr (Fr.mono u_2 (by decide)) (Fr.mono u_12 (by decide))) u_20) (by decide) (by decide)), (Hok.fr (M := [4, 5, 18, 19, 20, 21, 22, 23, 24]) hH (Fr.tr (Fr.tr (Fr.mono u_2 (by decide)) (Fr.mono u_12 (by decide))) u_20) (by decide))⟩ dX11_enough_29
  · -- 5
    replace HE : FT = g4_X11_enough (xso SC ad ws_1) := HE.trans (if_pos c_10)
    refine y_c2 (n := (-2)) C0 (by decide) dX11_enough_8 (fun v_27 e_28 => ?_)
    replace HE : FT = ((xso SC ad ws_1), v_27.toInt) := HE.trans (by rw [e_28]; rfl)
    rw [hQ]
    exact y_iret C0 h (Fr.mono u_2 (by decide)) ⟨(congrArg Prod.fst (HE.symm.trans hFT)), (congrArg Prod.snd (HE.symm.trans hFT)), (o28_46 e_28), (o28_18 e_28), (Rel.fr (M := []) hR u_2 (by decide) (by decide)), (Hok.fr (M := []) hH u_2 (by decide))⟩ dX11_enough_10
noncomputable def g5c_X11_byRights (s : XS) (r_20 : Int) : XR := (s, r_20)
noncomputable def g3_X11_byRights (s : XS) (a1 : Int) (a2 : Int) : XR := g5c_X11_byRights ((f_X8_leftByRights s ((4 * a1) + a2)).1) (((f_X8_leftByRights s ((4 * a1) + a2)).2))
noncomputable def g4_X11_byRights (s : XS) : XR := (s, ((-2)))
noncomputable def g2b_X11_byRights (s : XS) (r_4 : Int) (a1 : Int) (a2 : Int) : XR := if r_4 = 0 then g4_X11_byRights s else g3_X11_byRights s a1 a2
noncomputable def g1c_X11_byRights (s : XS) (r_4 : Int) (a1 : Int) (a2 : Int) : XR := g2b_X11_byRights s r_4 a1 a2
noncomputable def f_X11_byRights (s : XS) (a1 : Int) (a2 : Int) : XR := g1c_X11_byRights ((f_X11_isStand s a1 a2).1) (((f_X11_isStand s a1 a2).2)) a1 a2
set_option maxHeartbeats 4000000 in
set_option maxRecDepth 100000 in
theorem c_X11_byRights (l : Launch) (G : GG) (Z : RZ) (ad : Nat → Nat) (ws0 : va_W) (hT : Ty G SC ad ws0) (a1 : Int32) (a2 : Int32) (hR : Rel ws0) (hH : Hok ws0) : Mq l yX11_byRights cX11_byRights 3 (some .int) 4 G Z [.ref (ad 0), .int a1, .int a2] ws0 (PI G SC ad [22, 23] ws0 (fun r u => (xso SC ad u = (f_X11_byRights (xso SC ad ws0) a1.toInt a2.toInt).1) ∧ (r.toInt = (f_X11_byRights (xso SC ad ws0) a1.toInt a2.toInt).2) ∧ ((-2) ≤ r.toInt) ∧ (r.toInt ≤ 60) ∧ (Rel u) ∧ (Hok u))) := by
  refine Mq.start (by decide) (Nat.le_of_ble_eq_true rfl) ?_
  intro p e s m below meth c A ls C0 hZ h hl
  have hl : lv_has ls 3 [(0, .ref (ad 0)), (1, .int a1), (2, .int a2)] := hl
  have h : Wt G SC ad A s s.heap [] ws0 := ⟨h, hT⟩
  obtain ⟨args, hargs⟩ : ∃ z, z = ([.ref (ad 0), .int a1, .int a2] : List Value).toArray := ⟨_, rfl⟩
  rw [← hargs] at C0 ⊢
  have C0 : Cx p s m args meth c RX11 cX11_byRights 3 (some .int) := C0
  obtain ⟨Q, hQ⟩ : ∃ z, z = MQ below ((PI G SC ad [22, 23] ws0 (fun r u => (xso SC ad u = (f_X11_byRights (xso SC ad ws0) a1.toInt a2.toInt).1) ∧ (r.toInt = (f_X11_byRights (xso SC ad ws0) a1.toInt a2.toInt).2) ∧ ((-2) ≤ r.toInt) ∧ (r.toInt ≤ 60) ∧ (Rel u) ∧ (Hok u))) A) args s 0 0 A := ⟨_, rfl⟩
  rw [← hQ]
  obtain ⟨FT, hFT⟩ : ∃ z, z = f_X11_byRights (xso SC ad ws0) a1.toInt a2.toInt := ⟨_, rfl⟩
  have HE : FT = f_X11_byRights (xso SC ad ws0) a1.toInt a2.toInt := hFT
  refine lv_aload_n C0.1 C0.2.1 dX11_byRights_0 rfl (lv_at hl 0 rfl) ?_
  refine lv_iload_n C0.1 C0.2.1 dX11_byRights_1 rfl (lv_at hl 1 rfl) ?_
  refine lv_iload_n C0.1 C0.2.1 dX11_byRights_2 rfl (lv_at hl 2 rfl) ?_
  refine y_ci h (y_rV (As := [.int a1, .int a2]) (rest := []) C0 hZ h (c_X11_isStand l G Z ad _ h.2 a1 a2) k_X11_isStand q_911 q_24 q_909 kSC_0 rfl rfl rfl hl.1 rfl rfl (Nat.le_of_ble_eq_true rfl) dX11_byRights_3 ⟨Nat.le_of_ble_eq_true rfl, Nat.le_of_ble_eq_true rfl⟩ ⟨Nat.le_of_ble_eq_true rfl, Nat.le_of_ble_eq_true rfl⟩) (fun r_4 H locs ws_1 h u_2 p_3 => ?_)
  obtain ⟨e_5, e_6, e_7, e_8, e_9⟩ := p_3
  replace HE : FT = g1c_X11_byRights (xso SC ad ws_1) r_4.toInt a1.toInt a2.toInt := HE.trans (by rw [e_5, e_6]; rfl)
  replace HE : FT = g2b_X11_byRights (xso SC ad ws_1) r_4.toInt a1.toInt a2.toInt := HE.trans rfl
  refine y_if_ne (tgt := 12) C0 dX11_byRights_6 (by decide) (fun c_10 => ?_) (fun c_10 => ?_)
  · -- 6
    replace HE : FT = g3_X11_byRights (xso SC ad ws_1) a1.toInt a2.toInt := HE.trans (if_neg c_10)
    refine lv_aload_n C0.1 C0.2.1 dX11_byRights_12 rfl (lv_at hl 0 rfl) ?_
    refine tg_X11_spread C0 h kSC_0 q_522 dX11_byRights_13 ?_
    refine y_c1 (n := 4) C0 (by decide) dX11_byRights_16 (fun v_11 e_12 => ?_)
    refine lv_iload_n C0.1 C0.2.1 dX11_byRights_17 rfl (lv_at hl 1 rfl) ?_
    refine y_cmul (n := 4) C0 (o28_47 e_12) (o28_48 e_7 e_8 e_9 c_10 (le_min a1) (le_max a1) (le_min r_4) (le_max r_4) (le_min a2) (le_max a2)) (o28_49 e_7 e_8 e_9 c_10 (le_min a1) (le_max a1) (le_min r_4) (le_max r_4) (le_min a2) (le_max a2)) dX11_byRights_18 (fun v_13 e_14 => ?_)
    refine lv_iload_n C0.1 C0.2.1 dX11_byRights_19 rfl (lv_at hl 2 rfl) ?_
    refine y_add C0 (o28_50 e_7 e_8 e_9 c_10 e_14 (le_min v_13) (le_max v_13) (le_min a2) (le_max a2) (le_min r_4) (le_max r_4) (le_min a1) (le_max a1)) (o28_51 e_7 e_8 e_9 c_10 e_14 (le_min v_13) (le_max v_13) (le_min a2) (le_max a2) (le_min r_4) (le_max r_4) (le_min a1) (le_max a1)) dX11_byRights_20 (fun v_15 e_16 => ?_)
    refine y_ci h (y_rV (As := [.int v_15]) (rest := []) C0 hZ h (c_X8_leftByRights l G Z ad _ h.2 v_15 (o28_52 e_7 e_8 e_9 c_10 e_14 e_16) (o28_53 e_7 e_8 e_9 c_10 e_14 e_16) (Rel.fr (M := []) hR u_2 (by decide) (by decide))) k_X8_leftByRights q_1270 q_1271 q_1269 kSC_83 rfl rfl rfl hl.1 rfl rfl (Nat.le_of_ble_eq_true rfl) dX11_byRights_21 ⟨Nat.le_of_ble_eq_true rfl, Nat.le_of_ble_eq_true rfl⟩ ⟨Nat.le_of_ble_eq_true rfl, Nat.le_of_ble_eq_true rfl⟩) (fun r_20 H locs ws_17 h u_18 p_19 => ?_)
    obtain ⟨e_21, e_22, e_23, e_24⟩ := p_19
    replace HE : FT = g5c_X11_byRights (xso SC ad ws_17) r_20.toInt := HE.trans (by rw [e_21, e_22, e_16, e_14]; rfl)
    replace HE : FT = ((xso SC ad ws_17), r_20.toInt) := HE.trans rfl
    rw [hQ]
    exact y_iret C0 h (Fr.tr (Fr.mono u_2 (by decide)) u_18) ⟨(congrArg Prod.fst (HE.symm.trans hFT)), (congrArg Prod.snd (HE.symm.trans hFT)), (o28_54 e_23 e_24), (o28_17 e_23 e_24), (Rel.fr (M := [22, 23]) hR (Fr.tr (Fr.mono u_2 (by decide)) u_18) (by decide) (by decide)), (Hok.fr (M := [22, 23]) hH (Fr.tr (Fr.mono u_2 (by decide)) u_18) (by decide))⟩ dX11_byRights_24
  · -- 6
    replace HE : FT = g4_X11_byRights (xso SC ad ws_1) := HE.trans (if_pos c_10)
    refine y_c2 (n := (-2)) C0 (by decide) dX11_byRights_9 (fun v_25 e_26 => ?_)
    replace HE : FT = ((xso SC ad ws_1), v_25.toInt) := HE.trans (by rw [e_26]; rfl)
    rw [hQ]
    exact y_iret C0 h (Fr.mono u_2 (by decide)) ⟨(congrArg Prod.fst (HE.symm.trans hFT)), (congrArg Prod.snd (HE.symm.trans hFT)), (o28_46 e_26), (o28_2 e_26), (Rel.fr (M := []) hR u_2 (by decide) (by decide)), (Hok.fr (M := []) hH u_2 (by decide))⟩ dX11_byRights_11
noncomputable def g3_X11_round (s : XS) : XR := (s, ((-2)))
noncomputable def g7_X11_round (s : XS) : XR := (s, ((-2)))
noncomputable def g10_X11_round (s : XS) : XR := (s, ((-2)))
noncomputable def g19_X11_round (s : XS) : XR := (s, ((-4)))
noncomputable def g32c_X11_round (s : XS) (r_97 : Int) : XR := (s, r_97)
noncomputable def g31c_X11_round (s : XS) (a3 : Int) : XR := g32c_X11_round ((f_X6_answer s a3).1) (((f_X6_answer s a3).2))
noncomputable def g30c_X11_round (s : XS) (r_81 : Int) (a3 : Int) : XR := g31c_X11_round ((f_X6_tour_0 s 0 r_81 0 0).1) a3
noncomputable def g29c_X11_round (s : XS) (a1 : Int) (a3 : Int) : XR := g30c_X11_round ((f_X1_stand s 10 a1).1) (((f_X1_stand s 10 a1).2)) a3
noncomputable def g27_X11_round (s : XS) (a1 : Int) (a3 : Int) (i_31 : Nat) : XR := g29c_X11_round ((f_X6_begin s i_31).1) a1 a3
noncomputable def g28_X11_round (s : XS) : XR := (s, ((-3)))
noncomputable def g26b_X11_round (s : XS) (r_66 : Int) (a1 : Int) (a3 : Int) (i_31 : Nat) : XR := if r_66 = 0 then g28_X11_round s else g27_X11_round s a1 a3 i_31
noncomputable def g25c_X11_round (s : XS) (r_66 : Int) (a1 : Int) (a3 : Int) (i_31 : Nat) : XR := g26b_X11_round s r_66 a1 a3 i_31
noncomputable def g24c_X11_round (s : XS) (r_58 : Int) (i_31 : Nat) (a1 : Int) (a3 : Int) : XR := g25c_X11_round ((f_X10_allBelow s i_31 r_58).1) (((f_X10_allBelow s i_31 r_58).2)) a1 a3 i_31
noncomputable def g22_X11_round (s : XS) (a1 : Int) (a3 : Int) (i_31 : Nat) : XR := g24c_X11_round ((f_X0_crossings s 1).1) (((f_X0_crossings s 1).2)) i_31 a1 a3
noncomputable def g23_X11_round (s : XS) : XR := (s, ((-4)))
noncomputable def g21b_X11_round (s : XS) (v_47 : Int) (a1 : Int) (a3 : Int) (i_31 : Nat) : XR := if 4 < v_47 then g23_X11_round s else g22_X11_round s a1 a3 i_31
noncomputable def g20_X11_round (s : XS) (a1 : Int) (a3 : Int) (i_31 : Nat) : XR := g21b_X11_round s ((s 0 i_31 2)) a1 a3 i_31
noncomputable def g18b_X11_round (s : XS) (v_37 : Int) (a1 : Int) (a3 : Int) (i_31 : Nat) : XR := if v_37 < 1 then g19_X11_round s else g20_X11_round s a1 a3 i_31
noncomputable def g16_X11_round (s : XS) (a1 : Int) (a3 : Int) (i_31 : Nat) : XR := g18b_X11_round s ((s 0 i_31 2)) a1 a3 i_31
noncomputable def g17_X11_round (s : XS) : XR := (s, ((-6)))
noncomputable def g15b_X11_round (s : XS) (v_32 : Int) (a1 : Int) (a3 : Int) (i_31 : Nat) : XR := if v_32 < 0 then g17_X11_round s else g16_X11_round s a1 a3 i_31
noncomputable def g13_X11_round (s : XS) (a1 : Int) (a2 : Int) (a3 : Int) : XR := g15b_X11_round s ((s 0 (107 + 2 * Int.toNat a2) 2)) a1 a3 ((107 + 2 * Int.toNat a2))
noncomputable def g40_X11_round (s : XS) : XR := (s, ((-4)))
noncomputable def g53c_X11_round (s : XS) (r_175 : Int) : XR := (s, r_175)
noncomputable def g52c_X11_round (s : XS) (a3 : Int) : XR := g53c_X11_round ((f_X6_answer s a3).1) (((f_X6_answer s a3).2))
noncomputable def g51c_X11_round (s : XS) (r_159 : Int) (a3 : Int) : XR := g52c_X11_round ((f_X6_tour_0 s 0 r_159 0 0).1) a3
noncomputable def g50c_X11_round (s : XS) (a1 : Int) (a3 : Int) : XR := g51c_X11_round ((f_X1_stand s 10 a1).1) (((f_X1_stand s 10 a1).2)) a3
noncomputable def g48_X11_round (s : XS) (a1 : Int) (a3 : Int) (i_109 : Nat) : XR := g50c_X11_round ((f_X6_begin s i_109).1) a1 a3
noncomputable def g49_X11_round (s : XS) : XR := (s, ((-3)))
noncomputable def g47b_X11_round (s : XS) (r_144 : Int) (a1 : Int) (a3 : Int) (i_109 : Nat) : XR := if r_144 = 0 then g49_X11_round s else g48_X11_round s a1 a3 i_109
noncomputable def g46c_X11_round (s : XS) (r_144 : Int) (a1 : Int) (a3 : Int) (i_109 : Nat) : XR := g47b_X11_round s r_144 a1 a3 i_109
noncomputable def g45c_X11_round (s : XS) (r_136 : Int) (i_109 : Nat) (a1 : Int) (a3 : Int) : XR := g46c_X11_round ((f_X10_allBelow s i_109 r_136).1) (((f_X10_allBelow s i_109 r_136).2)) a1 a3 i_109
noncomputable def g43_X11_round (s : XS) (a1 : Int) (a3 : Int) (i_109 : Nat) : XR := g45c_X11_round ((f_X0_crossings s 1).1) (((f_X0_crossings s 1).2)) i_109 a1 a3
noncomputable def g44_X11_round (s : XS) : XR := (s, ((-4)))
noncomputable def g42b_X11_round (s : XS) (v_125 : Int) (a1 : Int) (a3 : Int) (i_109 : Nat) : XR := if 4 < v_125 then g44_X11_round s else g43_X11_round s a1 a3 i_109
noncomputable def g41_X11_round (s : XS) (a1 : Int) (a3 : Int) (i_109 : Nat) : XR := g42b_X11_round s ((s 0 i_109 2)) a1 a3 i_109
noncomputable def g39b_X11_round (s : XS) (v_115 : Int) (a1 : Int) (a3 : Int) (i_109 : Nat) : XR := if v_115 < 1 then g40_X11_round s else g41_X11_round s a1 a3 i_109
noncomputable def g37_X11_round (s : XS) (a1 : Int) (a3 : Int) (i_109 : Nat) : XR := g39b_X11_round s ((s 0 i_109 2)) a1 a3 i_109
noncomputable def g38_X11_round (s : XS) : XR := (s, ((-6)))
noncomputable def g36b_X11_round (s : XS) (v_110 : Int) (a1 : Int) (a3 : Int) (i_109 : Nat) : XR := if v_110 < 0 then g38_X11_round s else g37_X11_round s a1 a3 i_109
noncomputable def g34_X11_round (s : XS) (a1 : Int) (a2 : Int) (a3 : Int) : XR := g36b_X11_round s ((s 0 (107 + 2 * Int.toNat a2) 2)) a1 a3 ((107 + 2 * Int.toNat a2))
noncomputable def g35_X11_round (s : XS) : XR := (s, ((-2)))
noncomputable def g33b_X11_round (s : XS) (a3 : Int) (a1 : Int) (a2 : Int) : XR := if a3 < 10 then g35_X11_round s else g34_X11_round s a1 a2 a3
noncomputable def g14_X11_round (s : XS) (a1 : Int) (a2 : Int) (a3 : Int) : XR := g33b_X11_round s a3 a1 a2
noncomputable def g12b_X11_round (s : XS) (a3 : Int) (a1 : Int) (a2 : Int) : XR := if 1 < a3 then g14_X11_round s a1 a2 a3 else g13_X11_round s a1 a2 a3
noncomputable def g11_X11_round (s : XS) (a1 : Int) (a2 : Int) (a3 : Int) : XR := g12b_X11_round s a3 a1 a2
noncomputable def g9b_X11_round (s : XS) (a3 : Int) (a1 : Int) (a2 : Int) : XR := if a3 < 0 then g10_X11_round s else g11_X11_round s a1 a2 a3
noncomputable def g8_X11_round (s : XS) (a1 : Int) (a2 : Int) (a3 : Int) : XR := g9b_X11_round s a3 a1 a2
noncomputable def g6b_X11_round (s : XS) (r_16 : Int) (a1 : Int) (a2 : Int) (a3 : Int) : XR := if r_16 = 0 then g7_X11_round s else g8_X11_round s a1 a2 a3
noncomputable def g5c_X11_round (s : XS) (r_16 : Int) (a1 : Int) (a2 : Int) (a3 : Int) : XR := g6b_X11_round s r_16 a1 a2 a3
noncomputable def g4_X11_round (s : XS) (a1 : Int) (a2 : Int) (a3 : Int) : XR := g5c_X11_round ((f_X11_isTray s a2).1) (((f_X11_isTray s a2).2)) a1 a2 a3
noncomputable def g2b_X11_round (s : XS) (r_4 : Int) (a1 : Int) (a2 : Int) (a3 : Int) : XR := if r_4 = 0 then g3_X11_round s else g4_X11_round s a1 a2 a3
noncomputable def g1c_X11_round (s : XS) (r_4 : Int) (a1 : Int) (a2 : Int) (a3 : Int) : XR := g2b_X11_round s r_4 a1 a2 a3
noncomputable def f_X11_round (s : XS) (a1 : Int) (a2 : Int) (a3 : Int) : XR := g1c_X11_round ((f_X11_isPerson s a1).1) (((f_X11_isPerson s a1).2)) a1 a2 a3
set_option maxHeartbeats 4000000 in
set_option maxRecDepth 100000 in
theorem c_X11_round (l : Launch) (G : GG) (Z : RZ) (ad : Nat → Nat) (ws0 : va_W) (hT : Ty G SC ad ws0) (a1 : Int32) (a2 : Int32) (a3 : Int32) (hR : Rel ws0) (hH : Hok ws0) : Mq l yX11_round cX11_round 5 (some .int) 11 G Z [.ref (ad 0), .int a1, .int a2, .int a3] ws0 (PI G SC ad [4, 5, 18, 19, 20, 21, 22, 23, 25, 26, 27, 28, 29, 30, 31] ws0 (fun r u => (xso SC ad u = (f_X11_round (xso SC ad ws0) a1.toInt a2.toInt a3.toInt).1) ∧ (r.toInt = (f_X11_round (xso SC ad ws0) a1.toInt a2.toInt a3.toInt).2) ∧ (Rel u) ∧ (Hok u))) := by
  refine Mq.start (by decide) (Nat.le_of_ble_eq_true rfl) ?_
  intro p e s m below meth c A ls C0 hZ h hl
  have hl : lv_has ls 5 [(0, .ref (ad 0)), (1, .int a1), (2, .int a2), (3, .int a3)] := hl
  have h : Wt G SC ad A s s.heap [] ws0 := ⟨h, hT⟩
  obtain ⟨args, hargs⟩ : ∃ z, z = ([.ref (ad 0), .int a1, .int a2, .int a3] : List Value).toArray := ⟨_, rfl⟩
  rw [← hargs] at C0 ⊢
  have C0 : Cx p s m args meth c RX11 cX11_round 5 (some .int) := C0
  obtain ⟨Q, hQ⟩ : ∃ z, z = MQ below ((PI G SC ad [4, 5, 18, 19, 20, 21, 22, 23, 25, 26, 27, 28, 29, 30, 31] ws0 (fun r u => (xso SC ad u = (f_X11_round (xso SC ad ws0) a1.toInt a2.toInt a3.toInt).1) ∧ (r.toInt = (f_X11_round (xso SC ad ws0) a1.toInt a2.toInt a3.toInt).2) ∧ (Rel u) ∧ (Hok u))) A) args s 0 0 A := ⟨_, rfl⟩
  rw [← hQ]
  obtain ⟨FT, hFT⟩ : ∃ z, z = f_X11_round (xso SC ad ws0) a1.toInt a2.toInt a3.toInt := ⟨_, rfl⟩
  have HE : FT = f_X11_round (xso SC ad ws0) a1.toInt a2.toInt a3.toInt := hFT
  refine lv_aload_n C0.1 C0.2.1 dX11_round_0 rfl (lv_at hl 0 rfl) ?_
  refine lv_iload_n C0.1 C0.2.1 dX11_round_1 rfl (lv_at hl 1 rfl) ?_
  refine y_ci h (y_rV (As := [.int a1]) (rest := []) C0 hZ h (c_X11_isPerson l G Z ad _ h.2 a1) k_X11_isPerson q_903 q_23 q_901 kSC_0 rfl rfl rfl hl.1 rfl rfl (Nat.le_of_ble_eq_true rfl) dX11_round_2 ⟨Nat.le_of_ble_eq_true rfl, Nat.le_of_ble_eq_true rfl⟩ ⟨Nat.le_of_ble_eq_true rfl, Nat.le_of_ble_eq_true rfl⟩) (fun r_4 H locs ws_1 h u_2 p_3 => ?_)
  obtain ⟨e_5, e_6, e_7, e_8, e_9⟩ := p_3
  replace HE : FT = g1c_X11_round (xso SC ad ws_1) r_4.toInt a1.toInt a2.toInt a3.toInt := HE.trans (by rw [e_5, e_6]; rfl)
  replace HE : FT = g2b_X11_round (xso SC ad ws_1) r_4.toInt a1.toInt a2.toInt a3.toInt := HE.trans rfl
  refine y_if_eq (tgt := 30) C0 dX11_round_5 (by decide) (fun c_10 => ?_) (fun c_10 => ?_)
  · -- 5
    replace HE : FT = g3_X11_round (xso SC ad ws_1) := HE.trans (if_pos c_10)
    refine y_c2 (n := (-2)) C0 (by decide) dX11_round_30 (fun v_11 e_12 => ?_)
    replace HE : FT = ((xso SC ad ws_1), v_11.toInt) := HE.trans (by rw [e_12]; rfl)
    rw [hQ]
    exact y_iret C0 h (Fr.mono u_2 (by decide)) ⟨(congrArg Prod.fst (HE.symm.trans hFT)), (congrArg Prod.snd (HE.symm.trans hFT)), (Rel.fr (M := []) hR u_2 (by decide) (by decide)), (Hok.fr (M := []) hH u_2 (by decide))⟩ dX11_round_32
  · -- 5
    replace HE : FT = g4_X11_round (xso SC ad ws_1) a1.toInt a2.toInt a3.toInt := HE.trans (if_neg c_10)
    refine lv_iload_n C0.1 C0.2.1 dX11_round_8 rfl (lv_at hl 2 rfl) ?_
    refine y_ci h (y_rS (As := [.int a2]) (rest := []) C0 hZ h (c_X11_isTray l G Z ad _ h.2 a2) k_X11_isTray q_998 q_997 hl.1 rfl rfl (Nat.le_of_ble_eq_true rfl) dX11_round_9 ⟨Nat.le_of_ble_eq_true rfl, Nat.le_of_ble_eq_true rfl⟩ ⟨Nat.le_of_ble_eq_true rfl, Nat.le_of_ble_eq_true rfl⟩) (fun r_16 H locs ws_13 h u_14 p_15 => ?_)
    obtain ⟨e_17, e_18, e_19, e_20, e_21⟩ := p_15
    replace HE : FT = g5c_X11_round (xso SC ad ws_13) r_16.toInt a1.toInt a2.toInt a3.toInt := HE.trans (by rw [e_17, e_18]; rfl)
    replace HE : FT = g6b_X11_round (xso SC ad ws_13) r_16.toInt a1.toInt a2.toInt a3.toInt := HE.trans rfl
    refine y_if_eq (tgt := 30) C0 dX11_round_12 (by decide) (fun c_22 => ?_) (fun c_22 => ?_)
    · -- 12
      replace HE : FT = g7_X11_round (xso SC ad ws_13) := HE.trans (if_pos c_22)
      refine y_c2 (n := (-2)) C0 (by decide) dX11_round_30 (fun v_23 e_24 => ?_)
      replace HE : FT = ((xso SC ad ws_13), v_23.toInt) := HE.trans (by rw [e_24]; rfl)
      rw [hQ]
      exact y_iret C0 h (Fr.tr (Fr.mono u_2 (by decide)) (Fr.mono u_14 (by decide))) ⟨(congrArg Prod.fst (HE.symm.trans hFT)), (congrArg Prod.snd (HE.symm.trans hFT)), (Rel.fr (M := []) hR (Fr.tr u_2 u_14) (by decide) (by decide)), (Hok.fr (M := []) hH (Fr.tr u_2 u_14) (by decide))⟩ dX11_round_32
    · -- 12
      replace HE : FT = g8_X11_round (xso SC ad ws_13) a1.toInt a2.toInt a3.toInt := HE.trans (if_neg c_22)
      refine lv_iload_n C0.1 C0.2.1 dX11_round_15 rfl (lv_at hl 3 rfl) ?_
      replace HE : FT = g9b_X11_round (xso SC ad ws_13) a3.toInt a1.toInt a2.toInt := HE.trans rfl
      refine y_if_lt (tgt := 30) C0 dX11_round_16 (by decide) (fun c_25 => ?_) (fun c_25 => ?_)
      · -- 16
        replace HE : FT = g10_X11_round (xso SC ad ws_13) := HE.trans (if_pos c_25)
        refine y_c2 (n := (-2)) C0 (by decide) dX11_round_30 (fun v_26 e_27 => ?_)
        replace HE : FT = ((xso SC ad ws_13), v_26.toInt) := HE.trans (by rw [e_27]; rfl)
        rw [hQ]
        exact y_iret C0 h (Fr.tr (Fr.mono u_2 (by decide)) (Fr.mono u_14 (by decide))) ⟨(congrArg Prod.fst (HE.symm.trans hFT)), (congrArg Prod.snd (HE.symm.trans hFT)), (Rel.fr (M := []) hR (Fr.tr u_2 u_14) (by decide) (by decide)), (Hok.fr (M := []) hH (Fr.tr u_2 u_14) (by decide))⟩ dX11_round_32
      · -- 16
        replace HE : FT = g11_X11_round (xso SC ad ws_13) a1.toInt a2.toInt a3.toInt := HE.trans (if_neg (Int.not_lt.mpr c_25))
        refine lv_iload_n C0.1 C0.2.1 dX11_round_19 rfl (lv_at hl 3 rfl) ?_
        refine y_c1 (n := 1) C0 (by decide) dX11_round_20 (fun v_28 e_29 => ?_)
        replace HE : FT = g12b_X11_round (xso SC ad ws_13) a3.toInt a1.toInt a2.toInt := HE.trans rfl
        refine y_icmp_le (tgt := 33) C0 dX11_round_21 (by decide) (fun c_30 => ?_) (fun c_30 => ?_)
        · -- 21
          replace HE : FT = g13_X11_round (xso SC ad ws_13) a1.toInt a2.toInt a3.toInt := HE.trans (if_neg (o28_56 c_25 e_29 c_30))
          refine lv_aload_n C0.1 C0.2.1 dX11_round_33 rfl (lv_at hl 0 rfl) ?_
          refine tg_X11_trays C0 h kSC_0 q_524 dX11_round_34 ?_
          refine lv_iload_n C0.1 C0.2.1 dX11_round_37 rfl (lv_at hl 2 rfl) ?_
          refine y_aald C0 h kSC_115 rfl rfl (by decide) (o28_58 e_19 e_20 e_21 c_22) (o28_59 e_19 e_20 e_21 c_22) dX11_round_38 ?_
          obtain ⟨i_31, hi_31, ei_31⟩ : ∃ j : Nat, Kd SC j 42 ∧ j = 107 + 2 * a2.toInt.toNat := ⟨_, aSC_44 (o28_60 e_19 e_20 e_21 c_22), rfl⟩
          rw [← ei_31]
          refine lv_astore (lv' := [(4, .ref (ad i_31)), (0, .ref (ad 0)), (1, .int a1), (2, .int a2), (3, .int a3)]) C0.1 C0.2.1 dX11_round_39 hl (by decide) rfl (fun ls hl => ?_)
          refine lv_aload C0.1 C0.2.1 dX11_round_41 (lv_at hl 0 rfl) ?_
          refine tg_X10_size C0 h hi_31 q_502 dX11_round_43 (fun v_32 e_33 e_34 e_35 => ?_)
          replace HE : FT = g15b_X11_round (xso SC ad ws_13) v_32.toInt a1.toInt a3.toInt i_31 := HE.trans (by rw [(xg0 e_33 : v_32.toInt = (xso SC ad ws_13) 0 i_31 2), ei_31]; rfl)
          refine y_if_ge (tgt := 52) C0 dX11_round_46 (by decide) (fun c_36 => ?_) (fun c_36 => ?_)
          · -- 46
            replace HE : FT = g16_X11_round (xso SC ad ws_13) a1.toInt a3.toInt i_31 := HE.trans (if_neg (Int.not_lt.mpr c_36))
            refine lv_aload C0.1 C0.2.1 dX11_round_52 (lv_at hl 0 rfl) ?_
            refine tg_X10_size C0 h hi_31 q_502 dX11_round_54 (fun v_37 e_38 e_39 e_40 => ?_)
            have qh_41 : v_37.toInt = v_32.toInt := congrArg Int32.toInt (e_38.symm.trans (Eq.trans rfl e_33))
            refine y_c1 (n := 1) C0 (by decide) dX11_round_57 (fun v_42 e_43 => ?_)
            replace HE : FT = g18b_X11_round (xso SC ad ws_13) v_37.toInt a1.toInt a3.toInt i_31 := HE.trans (by rw [(xg0 e_38 : v_37.toInt = (xso SC ad ws_13) 0 i_31 2)]; rfl)
            refine y_icmp_lt (tgt := 70) C0 dX11_round_58 (by decide) (fun c_44 => ?_) (fun c_44 => ?_)
            · -- 58
              replace HE : FT = g19_X11_round (xso SC ad ws_13) := HE.trans (if_pos (o28_61 e_34 e_35 c_36 e_39 e_40 qh_41 e_43 c_44))
              refine y_c2 (n := (-4)) C0 (by decide) dX11_round_70 (fun v_45 e_46 => ?_)
              replace HE : FT = ((xso SC ad ws_13), v_45.toInt) := HE.trans (by rw [e_46]; rfl)
              rw [hQ]
              exact y_iret C0 h (Fr.tr (Fr.mono u_2 (by decide)) (Fr.mono u_14 (by decide))) ⟨(congrArg Prod.fst (HE.symm.trans hFT)), (congrArg Prod.snd (HE.symm.trans hFT)), (Rel.fr (M := []) hR (Fr.tr u_2 u_14) (by decide) (by decide)), (Hok.fr (M := []) hH (Fr.tr u_2 u_14) (by decide))⟩ dX11_round_72
            · -- 58
              replace HE : FT = g20_X11_round (xso SC ad ws_13) a1.toInt a3.toInt i_31 := HE.trans (if_neg (o28_62 e_34 e_35 c_36 e_39 e_40 qh_41 e_43 c_44))
              refine lv_aload C0.1 C0.2.1 dX11_round_61 (lv_at hl 0 rfl) ?_
              refine tg_X10_size C0 h hi_31 q_502 dX11_round_63 (fun v_47 e_48 e_49 e_50 => ?_)
              have qh_51 : v_47.toInt = v_32.toInt := congrArg Int32.toInt (e_48.symm.trans (Eq.trans rfl e_33))
              refine y_c1 (n := 4) C0 (by decide) dX11_round_66 (fun v_52 e_53 => ?_)
              replace HE : FT = g21b_X11_round (xso SC ad ws_13) v_47.toInt a1.toInt a3.toInt i_31 := HE.trans (by rw [(xg0 e_48 : v_47.toInt = (xso SC ad ws_13) 0 i_31 2)]; rfl)
              refine y_icmp_le (tgt := 73) C0 dX11_round_67 (by decide) (fun c_54 => ?_) (fun c_54 => ?_)
              · -- 67
                replace HE : FT = g22_X11_round (xso SC ad ws_13) a1.toInt a3.toInt i_31 := HE.trans (if_neg (o28_63 e_34 e_35 c_36 e_39 e_40 qh_41 e_43 c_44 e_49 e_50 qh_51 e_53 c_54))
                refine lv_aload C0.1 C0.2.1 dX11_round_73 (lv_at hl 0 rfl) ?_
                refine lv_aload_n C0.1 C0.2.1 dX11_round_75 rfl (lv_at hl 1 rfl) ?_
                refine tg_X11_now C0 h kSC_0 q_515 dX11_round_76 ?_
                refine y_ci h (y_rV (As := []) (rest := [.ref (ad i_31)]) C0 hZ h (c_X0_crossings l G Z ad _ h.2 1 kSC_1) k_X0_crossings q_918 q_919 q_917 kSC_1 rfl rfl rfl hl.1 rfl rfl (Nat.le_of_ble_eq_true rfl) dX11_round_79 ⟨Nat.le_of_ble_eq_true rfl, Nat.le_of_ble_eq_true rfl⟩ ⟨Nat.le_of_ble_eq_true rfl, Nat.le_of_ble_eq_true rfl⟩) (fun r_58 H locs ws_55 h u_56 p_57 => ?_)
                obtain ⟨e_59, e_60, e_61, e_62⟩ := p_57
                replace HE : FT = g24c_X11_round (xso SC ad ws_55) r_58.toInt i_31 a1.toInt a3.toInt := HE.trans (by rw [e_59, e_60]; rfl)
                refine y_ci h (y_rV (As := [.int r_58]) (rest := []) C0 hZ h (c_X10_allBelow l G Z ad _ h.2 i_31 hi_31 r_58) k_X10_allBelow q_1279 q_1280 q_1278 hi_31 rfl rfl rfl hl.1 rfl rfl (Nat.le_of_ble_eq_true rfl) dX11_round_82 ⟨Nat.le_of_ble_eq_true rfl, Nat.le_of_ble_eq_true rfl⟩ ⟨Nat.le_of_ble_eq_true rfl, Nat.le_of_ble_eq_true rfl⟩) (fun r_66 H locs ws_63 h u_64 p_65 => ?_)
                obtain ⟨e_67, e_68, e_69, e_70⟩ := p_65
                replace HE : FT = g25c_X11_round (xso SC ad ws_63) r_66.toInt a1.toInt a3.toInt i_31 := HE.trans (by rw [e_67, e_68]; rfl)
                replace HE : FT = g26b_X11_round (xso SC ad ws_63) r_66.toInt a1.toInt a3.toInt i_31 := HE.trans rfl
                refine y_if_ne (tgt := 91) C0 dX11_round_85 (by decide) (fun c_71 => ?_) (fun c_71 => ?_)
                · -- 85
                  replace HE : FT = g27_X11_round (xso SC ad ws_63) a1.toInt a3.toInt i_31 := HE.trans (if_neg c_71)
                  refine lv_aload_n C0.1 C0.2.1 dX11_round_91 rfl (lv_at hl 1 rfl) ?_
                  refine tg_X11_rounds C0 h kSC_0 q_520 dX11_round_92 ?_
                  refine lv_aload C0.1 C0.2.1 dX11_round_95 (lv_at hl 0 rfl) ?_
                  refine y_cv h (y_rV (As := [.ref (ad i_31)]) (rest := []) C0 hZ h (c_X6_begin l G Z ad _ h.2 i_31 hi_31 (fbd_lo (Eq.trans (Eq.trans (Fr.fI u_64 hi_31 (by decide)) (Fr.fI u_56 hi_31 (by decide))) e_33) (o28_65 e_34 e_35 c_36 e_39 e_40 qh_41 e_43 c_44 e_49 e_50 qh_51 e_53 c_54)) (fbd_hi (Eq.trans (Eq.trans (Fr.fI u_64 hi_31 (by decide)) (Fr.fI u_56 hi_31 (by decide))) e_33) (o28_66 e_34 e_35 c_36 e_39 e_40 qh_41 e_43 c_44 e_49 e_50 qh_51 e_53 c_54))) k_X6_begin q_1283 q_1284 q_1282 kSC_90 rfl rfl rfl hl.1 rfl rfl (Nat.le_of_ble_eq_true rfl) dX11_round_97 ⟨Nat.le_of_ble_eq_true rfl, Nat.le_of_ble_eq_true rfl⟩ ⟨Nat.le_of_ble_eq_true rfl, Nat.le_of_ble_eq_true rfl⟩) (fun H locs ws_72 h u_73 p_74 => ?_)
                  have e_75 := p_74
                  replace HE : FT = g29c_X11_round (xso SC ad ws_72) a1.toInt a3.toInt := HE.trans (by rw [e_75]; rfl)
                  refine lv_aload_n C0.1 C0.2.1 dX11_round_100 rfl (lv_at hl 1 rfl) ?_
                  refine tg_X11_rounds C0 h kSC_0 q_520 dX11_round_101 ?_
                  refine y_c1 (n := 0) C0 (by decide) dX11_round_104 (fun v_76 e_77 => ?_)
                  refine lv_aload_n C0.1 C0.2.1 dX11_round_105 rfl (lv_at hl 1 rfl) ?_
                  refine tg_X11_now C0 h kSC_0 q_515 dX11_round_106 ?_
                  refine tg_X0_folk C0 h kSC_1 q_249 dX11_round_109 ?_
                  refine lv_iload_n C0.1 C0.2.1 dX11_round_112 rfl (lv_at hl 2 rfl) ?_
                  refine y_ci h (y_rV (As := [.int a1]) (rest := [.int v_76, .ref (ad 90)]) C0 hZ h (c_X1_stand l G Z ad _ h.2 10 kSC_10 a1 (o28_8 e_7 e_8 e_9 c_10) (o28_9 e_7 e_8 e_9 c_10)) k_X1_stand q_1071 q_1072 q_1070 kSC_10 rfl rfl rfl hl.1 rfl rfl (Nat.le_of_ble_eq_true rfl) dX11_round_113 ⟨Nat.le_of_ble_eq_true rfl, Nat.le_of_ble_eq_true rfl⟩ ⟨Nat.le_of_ble_eq_true rfl, Nat.le_of_ble_eq_true rfl⟩) (fun r_81 H locs ws_78 h u_79 p_80 => ?_)
                  obtain ⟨e_82, e_83, e_84, e_85⟩ := p_80
                  replace HE : FT = g30c_X11_round (xso SC ad ws_78) r_81.toInt a3.toInt := HE.trans (by rw [e_82, e_83]; rfl)
                  refine y_c1 (n := 0) C0 (by decide) dX11_round_116 (fun v_86 e_87 => ?_)
                  refine y_c1 (n := 0) C0 (by decide) dX11_round_117 (fun v_88 e_89 => ?_)
                  refine y_cv h (y_rVN (As := [.int v_76, .int r_81, .int v_86, .int v_88]) (rest := []) C0 hZ h (c_X6_tour_0 l G Z ad _ h.2 v_76 r_81 v_86 v_88 (o28_23 e_77) (o28_67 e_77) (o28_10 e_84 e_85) (o28_11 e_84 e_85) (o28_23 e_89) (o28_67 e_89) (Rel.fr (M := [28, 29]) hR (Fr.tr (Fr.tr (Fr.tr (Fr.tr (Fr.tr (Fr.mono u_2 (by decide)) (Fr.mono u_14 (by decide))) (Fr.mono u_56 (by decide))) (Fr.mono u_64 (by decide))) u_73) (Fr.mono u_79 (by decide))) (by decide) (by decide))) k_X6_tour q_1290 q_50 C0.2.2.2.2.2.2.2.2.2.2.2.2.1 kSC_90 rfl rfl rfl hl.1 rfl rfl (Nat.le_of_ble_eq_true rfl) dX11_round_118 ⟨Nat.le_of_ble_eq_true rfl, Nat.le_of_ble_eq_true rfl⟩ ⟨Nat.le_of_ble_eq_true rfl, Nat.le_of_ble_eq_true rfl⟩) (fun H locs ws_90 h u_91 p_92 => ?_)
                  have e_93 := p_92
                  replace HE : FT = g31c_X11_round (xso SC ad ws_90) a3.toInt := HE.trans (by rw [e_93, e_89, e_87, (o28_68 e_77)]; rfl)
                  refine lv_aload_n C0.1 C0.2.1 dX11_round_121 rfl (lv_at hl 1 rfl) ?_
                  refine tg_X11_rounds C0 h kSC_0 q_520 dX11_round_122 ?_
                  refine lv_iload_n C0.1 C0.2.1 dX11_round_125 rfl (lv_at hl 4 rfl) ?_
                  refine y_ci h (y_rV (As := [.int a3]) (rest := []) C0 hZ h (c_X6_answer l G Z ad _ h.2 a3 (o28_69 c_25 e_29 c_30)) k_X6_answer q_1313 q_1314 q_1312 kSC_90 rfl rfl rfl hl.1 rfl rfl (Nat.le_of_ble_eq_true rfl) dX11_round_126 ⟨Nat.le_of_ble_eq_true rfl, Nat.le_of_ble_eq_true rfl⟩ ⟨Nat.le_of_ble_eq_true rfl, Nat.le_of_ble_eq_true rfl⟩) (fun r_97 H locs ws_94 h u_95 p_96 => ?_)
                  obtain ⟨e_98, e_99⟩ := p_96
                  replace HE : FT = g32c_X11_round (xso SC ad ws_94) r_97.toInt := HE.trans (by rw [e_98, e_99]; rfl)
                  replace HE : FT = ((xso SC ad ws_94), r_97.toInt) := HE.trans rfl
                  rw [hQ]
                  exact y_iret C0 h (Fr.tr (Fr.tr (Fr.tr (Fr.tr (Fr.tr (Fr.tr (Fr.tr (Fr.mono u_2 (by decide)) (Fr.mono u_14 (by decide))) (Fr.mono u_56 (by decide))) (Fr.mono u_64 (by decide))) (Fr.mono u_73 (by decide))) (Fr.mono u_79 (by decide))) (Fr.mono u_91 (by decide))) (Fr.mono u_95 (by decide))) ⟨(congrArg Prod.fst (HE.symm.trans hFT)), (congrArg Prod.snd (HE.symm.trans hFT)), (Rel.fr (M := [4, 5, 18, 19, 20, 21, 22, 23, 25, 26, 27, 28, 29, 30, 31]) hR (Fr.tr (Fr.tr (Fr.tr (Fr.tr (Fr.tr (Fr.tr (Fr.tr (Fr.mono u_2 (by decide)) (Fr.mono u_14 (by decide))) (Fr.mono u_56 (by decide))) (Fr.mono u_64 (by decide))) (Fr.mono u_73 (by decide))) (Fr.mono u_79 (by decide))) (Fr.mono u_91 (by decide))) (Fr.mono u_95 (by decide))) (by decide) (by decide)), (Hok.fr (M := [4, 5, 18, 19, 20, 21, 22, 23, 25, 26, 27, 28, 29, 30, 31]) hH (Fr.tr (Fr.tr (Fr.tr (Fr.tr (Fr.tr (Fr.tr (Fr.tr (Fr.mono u_2 (by decide)) (Fr.mono u_14 (by decide))) (Fr.mono u_56 (by decide))) (Fr.mono u_64 (by decide))) (Fr.mono u_73 (by decide))) (Fr.mono u_79 (by decide))) (Fr.mono u_91 (by decide))) (Fr.mono u_95 (by decide))) (by decide))⟩ dX11_round_129
                · -- 85
                  replace HE : FT = g28_X11_round (xso SC ad ws_63) := HE.trans (if_pos c_71)
                  refine y_c2 (n := (-3)) C0 (by decide) dX11_round_88 (fun v_100 e_101 => ?_)
                  replace HE : FT = ((xso SC ad ws_63), v_100.toInt) := HE.trans (by rw [e_101]; rfl)
                  rw [hQ]
                  exact y_iret C0 h (Fr.tr (Fr.tr (Fr.tr (Fr.mono u_2 (by decide)) (Fr.mono u_14 (by decide))) (Fr.mono u_56 (by decide))) (Fr.mono u_64 (by decide))) ⟨(congrArg Prod.fst (HE.symm.trans hFT)), (congrArg Prod.snd (HE.symm.trans hFT)), (Rel.fr (M := []) hR (Fr.tr (Fr.tr (Fr.tr u_2 u_14) u_56) u_64) (by decide) (by decide)), (Hok.fr (M := []) hH (Fr.tr (Fr.tr (Fr.tr u_2 u_14) u_56) u_64) (by decide))⟩ dX11_round_90
              · -- 67
                replace HE : FT = g23_X11_round (xso SC ad ws_13) := HE.trans (if_pos (o28_64 e_34 e_35 c_36 e_39 e_40 qh_41 e_43 c_44 e_49 e_50 qh_51 e_53 c_54))
                refine y_c2 (n := (-4)) C0 (by decide) dX11_round_70 (fun v_102 e_103 => ?_)
                replace HE : FT = ((xso SC ad ws_13), v_102.toInt) := HE.trans (by rw [e_103]; rfl)
                rw [hQ]
                exact y_iret C0 h (Fr.tr (Fr.mono u_2 (by decide)) (Fr.mono u_14 (by decide))) ⟨(congrArg Prod.fst (HE.symm.trans hFT)), (congrArg Prod.snd (HE.symm.trans hFT)), (Rel.fr (M := []) hR (Fr.tr u_2 u_14) (by decide) (by decide)), (Hok.fr (M := []) hH (Fr.tr u_2 u_14) (by decide))⟩ dX11_round_72
          · -- 46
            replace HE : FT = g17_X11_round (xso SC ad ws_13) := HE.trans (if_pos c_36)
            refine y_c2 (n := (-6)) C0 (by decide) dX11_round_49 (fun v_104 e_105 => ?_)
            replace HE : FT = ((xso SC ad ws_13), v_104.toInt) := HE.trans (by rw [e_105]; rfl)
            rw [hQ]
            exact y_iret C0 h (Fr.tr (Fr.mono u_2 (by decide)) (Fr.mono u_14 (by decide))) ⟨(congrArg Prod.fst (HE.symm.trans hFT)), (congrArg Prod.snd (HE.symm.trans hFT)), (Rel.fr (M := []) hR (Fr.tr u_2 u_14) (by decide) (by decide)), (Hok.fr (M := []) hH (Fr.tr u_2 u_14) (by decide))⟩ dX11_round_51
        · -- 21
          replace HE : FT = g14_X11_round (xso SC ad ws_13) a1.toInt a2.toInt a3.toInt := HE.trans (if_pos (o28_57 c_25 e_29 c_30))
          refine lv_iload_n C0.1 C0.2.1 dX11_round_24 rfl (lv_at hl 3 rfl) ?_
          refine y_c2 (n := 10) C0 (by decide) dX11_round_25 (fun v_106 e_107 => ?_)
          replace HE : FT = g33b_X11_round (xso SC ad ws_13) a3.toInt a1.toInt a2.toInt := HE.trans rfl
          refine y_icmp_ge (tgt := 33) C0 dX11_round_27 (by decide) (fun c_108 => ?_) (fun c_108 => ?_)
          · -- 27
            replace HE : FT = g34_X11_round (xso SC ad ws_13) a1.toInt a2.toInt a3.toInt := HE.trans (if_neg (o28_71 c_25 e_29 c_30 e_107 c_108))
            refine lv_aload_n C0.1 C0.2.1 dX11_round_33 rfl (lv_at hl 0 rfl) ?_
            refine tg_X11_trays C0 h kSC_0 q_524 dX11_round_34 ?_
            refine lv_iload_n C0.1 C0.2.1 dX11_round_37 rfl (lv_at hl 2 rfl) ?_
            refine y_aald C0 h kSC_115 rfl rfl (by decide) (o28_58 e_19 e_20 e_21 c_22) (o28_59 e_19 e_20 e_21 c_22) dX11_round_38 ?_
            obtain ⟨i_109, hi_109, ei_109⟩ : ∃ j : Nat, Kd SC j 42 ∧ j = 107 + 2 * a2.toInt.toNat := ⟨_, aSC_44 (o28_60 e_19 e_20 e_21 c_22), rfl⟩
            rw [← ei_109]
            refine lv_astore (lv' := [(4, .ref (ad i_109)), (0, .ref (ad 0)), (1, .int a1), (2, .int a2), (3, .int a3)]) C0.1 C0.2.1 dX11_round_39 hl (by decide) rfl (fun ls hl => ?_)
            refine lv_aload C0.1 C0.2.1 dX11_round_41 (lv_at hl 0 rfl) ?_
            refine tg_X10_size C0 h hi_109 q_502 dX11_round_43 (fun v_110 e_111 e_112 e_113 => ?_)
            replace HE : FT = g36b_X11_round (xso SC ad ws_13) v_110.toInt a1.toInt a3.toInt i_109 := HE.trans (by rw [(xg0 e_111 : v_110.toInt = (xso SC ad ws_13) 0 i_109 2), ei_109]; rfl)
            refine y_if_ge (tgt := 52) C0 dX11_round_46 (by decide) (fun c_114 => ?_) (fun c_114 => ?_)
            · -- 46
              replace HE : FT = g37_X11_round (xso SC ad ws_13) a1.toInt a3.toInt i_109 := HE.trans (if_neg (Int.not_lt.mpr c_114))
              refine lv_aload C0.1 C0.2.1 dX11_round_52 (lv_at hl 0 rfl) ?_
              refine tg_X10_size C0 h hi_109 q_502 dX11_round_54 (fun v_115 e_116 e_117 e_118 => ?_)
              have qh_119 : v_115.toInt = v_110.toInt := congrArg Int32.toInt (e_116.symm.trans (Eq.trans rfl e_111))
              refine y_c1 (n := 1) C0 (by decide) dX11_round_57 (fun v_120 e_121 => ?_)
              replace HE : FT = g39b_X11_round (xso SC ad ws_13) v_115.toInt a1.toInt a3.toInt i_109 := HE.trans (by rw [(xg0 e_116 : v_115.toInt = (xso SC ad ws_13) 0 i_109 2)]; rfl)
              refine y_icmp_lt (tgt := 70) C0 dX11_round_58 (by decide) (fun c_122 => ?_) (fun c_122 => ?_)
              · -- 58
                replace HE : FT = g40_X11_round (xso SC ad ws_13) := HE.trans (if_pos (o28_61 e_112 e_113 c_114 e_117 e_118 qh_119 e_121 c_122))
                refine y_c2 (n := (-4)) C0 (by decide) dX11_round_70 (fun v_123 e_124 => ?_)
                replace HE : FT = ((xso SC ad ws_13), v_123.toInt) := HE.trans (by rw [e_124]; rfl)
                rw [hQ]
                exact y_iret C0 h (Fr.tr (Fr.mono u_2 (by decide)) (Fr.mono u_14 (by decide))) ⟨(congrArg Prod.fst (HE.symm.trans hFT)), (congrArg Prod.snd (HE.symm.trans hFT)), (Rel.fr (M := []) hR (Fr.tr u_2 u_14) (by decide) (by decide)), (Hok.fr (M := []) hH (Fr.tr u_2 u_14) (by decide))⟩ dX11_round_72
              · -- 58
                replace HE : FT = g41_X11_round (xso SC ad ws_13) a1.toInt a3.toInt i_109 := HE.trans (if_neg (o28_62 e_112 e_113 c_114 e_117 e_118 qh_119 e_121 c_122))
                refine lv_aload C0.1 C0.2.1 dX11_round_61 (lv_at hl 0 rfl) ?_
                refine tg_X10_size C0 h hi_109 q_502 dX11_round_63 (fun v_125 e_126 e_127 e_128 => ?_)
                have qh_129 : v_125.toInt = v_110.toInt := congrArg Int32.toInt (e_126.symm.trans (Eq.trans rfl e_111))
                refine y_c1 (n := 4) C0 (by decide) dX11_round_66 (fun v_130 e_131 => ?_)
                replace HE : FT = g42b_X11_round (xso SC ad ws_13) v_125.toInt a1.toInt a3.toInt i_109 := HE.trans (by rw [(xg0 e_126 : v_125.toInt = (xso SC ad ws_13) 0 i_109 2)]; rfl)
                refine y_icmp_le (tgt := 73) C0 dX11_round_67 (by decide) (fun c_132 => ?_) (fun c_132 => ?_)
                · -- 67
                  replace HE : FT = g43_X11_round (xso SC ad ws_13) a1.toInt a3.toInt i_109 := HE.trans (if_neg (o28_63 e_112 e_113 c_114 e_117 e_118 qh_119 e_121 c_122 e_127 e_128 qh_129 e_131 c_132))
                  refine lv_aload C0.1 C0.2.1 dX11_round_73 (lv_at hl 0 rfl) ?_
                  refine lv_aload_n C0.1 C0.2.1 dX11_round_75 rfl (lv_at hl 1 rfl) ?_
                  refine tg_X11_now C0 h kSC_0 q_515 dX11_round_76 ?_
                  refine y_ci h (y_rV (As := []) (rest := [.ref (ad i_109)]) C0 hZ h (c_X0_crossings l G Z ad _ h.2 1 kSC_1) k_X0_crossings q_918 q_919 q_917 kSC_1 rfl rfl rfl hl.1 rfl rfl (Nat.le_of_ble_eq_true rfl) dX11_round_79 ⟨Nat.le_of_ble_eq_true rfl, Nat.le_of_ble_eq_true rfl⟩ ⟨Nat.le_of_ble_eq_true rfl, Nat.le_of_ble_eq_true rfl⟩) (fun r_136 H locs ws_133 h u_134 p_135 => ?_)
                  obtain ⟨e_137, e_138, e_139, e_140⟩ := p_135
                  replace HE : FT = g45c_X11_round (xso SC ad ws_133) r_136.toInt i_109 a1.toInt a3.toInt := HE.trans (by rw [e_137, e_138]; rfl)
                  refine y_ci h (y_rV (As := [.int r_136]) (rest := []) C0 hZ h (c_X10_allBelow l G Z ad _ h.2 i_109 hi_109 r_136) k_X10_allBelow q_1279 q_1280 q_1278 hi_109 rfl rfl rfl hl.1 rfl rfl (Nat.le_of_ble_eq_true rfl) dX11_round_82 ⟨Nat.le_of_ble_eq_true rfl, Nat.le_of_ble_eq_true rfl⟩ ⟨Nat.le_of_ble_eq_true rfl, Nat.le_of_ble_eq_true rfl⟩) (fun r_144 H locs ws_141 h u_142 p_143 => ?_)
                  obtain ⟨e_145, e_146, e_147, e_148⟩ := p_143
                  replace HE : FT = g46c_X11_round (xso SC ad ws_141) r_144.toInt a1.toInt a3.toInt i_109 := HE.trans (by rw [e_145, e_146]; rfl)
                  replace HE : FT = g47b_X11_round (xso SC ad ws_141) r_144.toInt a1.toInt a3.toInt i_109 := HE.trans rfl
                  refine y_if_ne (tgt := 91) C0 dX11_round_85 (by decide) (fun c_149 => ?_) (fun c_149 => ?_)
                  · -- 85
                    replace HE : FT = g48_X11_round (xso SC ad ws_141) a1.toInt a3.toInt i_109 := HE.trans (if_neg c_149)
                    refine lv_aload_n C0.1 C0.2.1 dX11_round_91 rfl (lv_at hl 1 rfl) ?_
                    refine tg_X11_rounds C0 h kSC_0 q_520 dX11_round_92 ?_
                    refine lv_aload C0.1 C0.2.1 dX11_round_95 (lv_at hl 0 rfl) ?_
                    refine y_cv h (y_rV (As := [.ref (ad i_109)]) (rest := []) C0 hZ h (c_X6_begin l G Z ad _ h.2 i_109 hi_109 (fbd_lo (Eq.trans (Eq.trans (Fr.fI u_142 hi_109 (by decide)) (Fr.fI u_134 hi_109 (by decide))) e_111) (o28_65 e_112 e_113 c_114 e_117 e_118 qh_119 e_121 c_122 e_127 e_128 qh_129 e_131 c_132)) (fbd_hi (Eq.trans (Eq.trans (Fr.fI u_142 hi_109 (by decide)) (Fr.fI u_134 hi_109 (by decide))) e_111) (o28_66 e_112 e_113 c_114 e_117 e_118 qh_119 e_121 c_122 e_127 e_128 qh_129 e_131 c_132))) k_X6_begin q_1283 q_1284 q_1282 kSC_90 rfl rfl rfl hl.1 rfl rfl (Nat.le_of_ble_eq_true rfl) dX11_round_97 ⟨Nat.le_of_ble_eq_true rfl, Nat.le_of_ble_eq_true rfl⟩ ⟨Nat.le_of_ble_eq_true rfl, Nat.le_of_ble_eq_true rfl⟩) (fun H locs ws_150 h u_151 p_152 => ?_)
                    have e_153 := p_152
                    replace HE : FT = g50c_X11_round (xso SC ad ws_150) a1.toInt a3.toInt := HE.trans (by rw [e_153]; rfl)
                    refine lv_aload_n C0.1 C0.2.1 dX11_round_100 rfl (lv_at hl 1 rfl) ?_
                    refine tg_X11_rounds C0 h kSC_0 q_520 dX11_round_101 ?_
                    refine y_c1 (n := 0) C0 (by decide) dX11_round_104 (fun v_154 e_155 => ?_)
                    refine lv_aload_n C0.1 C0.2.1 dX11_round_105 rfl (lv_at hl 1 rfl) ?_
                    refine tg_X11_now C0 h kSC_0 q_515 dX11_round_106 ?_
                    refine tg_X0_folk C0 h kSC_1 q_249 dX11_round_109 ?_
                    refine lv_iload_n C0.1 C0.2.1 dX11_round_112 rfl (lv_at hl 2 rfl) ?_
                    refine y_ci h (y_rV (As := [.int a1]) (rest := [.int v_154, .ref (ad 90)]) C0 hZ h (c_X1_stand l G Z ad _ h.2 10 kSC_10 a1 (o28_8 e_7 e_8 e_9 c_10) (o28_9 e_7 e_8 e_9 c_10)) k_X1_stand q_1071 q_1072 q_1070 kSC_10 rfl rfl rfl hl.1 rfl rfl (Nat.le_of_ble_eq_true rfl) dX11_round_113 ⟨Nat.le_of_ble_eq_true rfl, Nat.le_of_ble_eq_true rfl⟩ ⟨Nat.le_of_ble_eq_true rfl, Nat.le_of_ble_eq_true rfl⟩) (fun r_159 H locs ws_156 h u_157 p_158 => ?_)
                    obtain ⟨e_160, e_161, e_162, e_163⟩ := p_158
                    replace HE : FT = g51c_X11_round (xso SC ad ws_156) r_159.toInt a3.toInt := HE.trans (by rw [e_160, e_161]; rfl)
                    refine y_c1 (n := 0) C0 (by decide) dX11_round_116 (fun v_164 e_165 => ?_)
                    refine y_c1 (n := 0) C0 (by decide) dX11_round_117 (fun v_166 e_167 => ?_)
                    refine y_cv h (y_rVN (As := [.int v_154, .int r_159, .int v_164, .int v_166]) (rest := []) C0 hZ h (c_X6_tour_0 l G Z ad _ h.2 v_154 r_159 v_164 v_166 (o28_23 e_155) (o28_67 e_155) (o28_10 e_162 e_163) (o28_11 e_162 e_163) (o28_23 e_167) (o28_67 e_167) (Rel.fr (M := [28, 29]) hR (Fr.tr (Fr.tr (Fr.tr (Fr.tr (Fr.tr (Fr.mono u_2 (by decide)) (Fr.mono u_14 (by decide))) (Fr.mono u_134 (by decide))) (Fr.mono u_142 (by decide))) u_151) (Fr.mono u_157 (by decide))) (by decide) (by decide))) k_X6_tour q_1290 q_50 C0.2.2.2.2.2.2.2.2.2.2.2.2.1 kSC_90 rfl rfl rfl hl.1 rfl rfl (Nat.le_of_ble_eq_true rfl) dX11_round_118 ⟨Nat.le_of_ble_eq_true rfl, Nat.le_of_ble_eq_true rfl⟩ ⟨Nat.le_of_ble_eq_true rfl, Nat.le_of_ble_eq_true rfl⟩) (fun H locs ws_168 h u_169 p_170 => ?_)
                    have e_171 := p_170
                    replace HE : FT = g52c_X11_round (xso SC ad ws_168) a3.toInt := HE.trans (by rw [e_171, e_167, e_165, (o28_68 e_155)]; rfl)
                    refine lv_aload_n C0.1 C0.2.1 dX11_round_121 rfl (lv_at hl 1 rfl) ?_
                    refine tg_X11_rounds C0 h kSC_0 q_520 dX11_round_122 ?_
                    refine lv_iload_n C0.1 C0.2.1 dX11_round_125 rfl (lv_at hl 4 rfl) ?_
                    refine y_ci h (y_rV (As := [.int a3]) (rest := []) C0 hZ h (c_X6_answer l G Z ad _ h.2 a3 (o28_73 c_25 e_29 c_30 e_107 c_108)) k_X6_answer q_1313 q_1314 q_1312 kSC_90 rfl rfl rfl hl.1 rfl rfl (Nat.le_of_ble_eq_true rfl) dX11_round_126 ⟨Nat.le_of_ble_eq_true rfl, Nat.le_of_ble_eq_true rfl⟩ ⟨Nat.le_of_ble_eq_true rfl, Nat.le_of_ble_eq_true rfl⟩) (fun r_175 H locs ws_172 h u_173 p_174 => ?_)
                    obtain ⟨e_176, e_177⟩ := p_174
                    replace HE : FT = g53c_X11_round (xso SC ad ws_172) r_175.toInt := HE.trans (by rw [e_176, e_177]; rfl)
                    replace HE : FT = ((xso SC ad ws_172), r_175.toInt) := HE.trans rfl
                    rw [hQ]
                    exact y_iret C0 h (Fr.tr (Fr.tr (Fr.tr (Fr.tr (Fr.tr (Fr.tr (Fr.tr (Fr.mono u_2 (by decide)) (Fr.mono u_14 (by decide))) (Fr.mono u_134 (by decide))) (Fr.mono u_142 (by decide))) (Fr.mono u_151 (by decide))) (Fr.mono u_157 (by decide))) (Fr.mono u_169 (by decide))) (Fr.mono u_173 (by decide))) ⟨(congrArg Prod.fst (HE.symm.trans hFT)), (congrArg Prod.snd (HE.symm.trans hFT)), (Rel.fr (M := [4, 5, 18, 19, 20, 21, 22, 23, 25, 26, 27, 28, 29, 30, 31]) hR (Fr.tr (Fr.tr (Fr.tr (Fr.tr (Fr.tr (Fr.tr (Fr.tr (Fr.mono u_2 (by decide)) (Fr.mono u_14 (by decide))) (Fr.mono u_134 (by decide))) (Fr.mono u_142 (by decide))) (Fr.mono u_151 (by decide))) (Fr.mono u_157 (by decide))) (Fr.mono u_169 (by decide))) (Fr.mono u_173 (by decide))) (by decide) (by decide)), (Hok.fr (M := [4, 5, 18, 19, 20, 21, 22, 23, 25, 26, 27, 28, 29, 30, 31]) hH (Fr.tr (Fr.tr (Fr.tr (Fr.tr (Fr.tr (Fr.tr (Fr.tr (Fr.mono u_2 (by decide)) (Fr.mono u_14 (by decide))) (Fr.mono u_134 (by decide))) (Fr.mono u_142 (by decide))) (Fr.mono u_151 (by decide))) (Fr.mono u_157 (by decide))) (Fr.mono u_169 (by decide))) (Fr.mono u_173 (by decide))) (by decide))⟩ dX11_round_129
                  · -- 85
                    replace HE : FT = g49_X11_round (xso SC ad ws_141) := HE.trans (if_pos c_149)
                    refine y_c2 (n := (-3)) C0 (by decide) dX11_round_88 (fun v_178 e_179 => ?_)
                    replace HE : FT = ((xso SC ad ws_141), v_178.toInt) := HE.trans (by rw [e_179]; rfl)
                    rw [hQ]
                    exact y_iret C0 h (Fr.tr (Fr.tr (Fr.tr (Fr.mono u_2 (by decide)) (Fr.mono u_14 (by decide))) (Fr.mono u_134 (by decide))) (Fr.mono u_142 (by decide))) ⟨(congrArg Prod.fst (HE.symm.trans hFT)), (congrArg Prod.snd (HE.symm.trans hFT)), (Rel.fr (M := []) hR (Fr.tr (Fr.tr (Fr.tr u_2 u_14) u_134) u_142) (by decide) (by decide)), (Hok.fr (M := []) hH (Fr.tr (Fr.tr (Fr.tr u_2 u_14) u_134) u_142) (by decide))⟩ dX11_round_90
                · -- 67
                  replace HE : FT = g44_X11_round (xso SC ad ws_13) := HE.trans (if_pos (o28_64 e_112 e_113 c_114 e_117 e_118 qh_119 e_121 c_122 e_127 e_128 qh_129 e_131 c_132))
                  refine y_c2 (n := (-4)) C0 (by decide) dX11_round_70 (fun v_180 e_181 => ?_)
                  replace HE : FT = ((xso SC ad ws_13), v_180.toInt) := HE.trans (by rw [e_181]; rfl)
                  rw [hQ]
                  exact y_iret C0 h (Fr.tr (Fr.mono u_2 (by decide)) (Fr.mono u_14 (by decide))) ⟨(congrArg Prod.fst (HE.symm.trans hFT)), (congrArg Prod.snd (HE.symm.trans hFT)), (Rel.fr (M := []) hR (Fr.tr u_2 u_14) (by decide) (by decide)), (Hok.fr (M := []) hH (Fr.tr u_2 u_14) (by decide))⟩ dX11_round_72
            · -- 46
              replace HE : FT = g38_X11_round (xso SC ad ws_13) := HE.trans (if_pos c_114)
              refine y_c2 (n := (-6)) C0 (by decide) dX11_round_49 (fun v_182 e_183 => ?_)
              replace HE : FT = ((xso SC ad ws_13), v_182.toInt) := HE.trans (by rw [e_183]; rfl)
              rw [hQ]
              exact y_iret C0 h (Fr.tr (Fr.mono u_2 (by decide)) (Fr.mono u_14 (by decide))) ⟨(congrArg Prod.fst (HE.symm.trans hFT)), (congrArg Prod.snd (HE.symm.trans hFT)), (Rel.fr (M := []) hR (Fr.tr u_2 u_14) (by decide) (by decide)), (Hok.fr (M := []) hH (Fr.tr u_2 u_14) (by decide))⟩ dX11_round_51
          · -- 27
            replace HE : FT = g35_X11_round (xso SC ad ws_13) := HE.trans (if_pos (o28_72 c_25 e_29 c_30 e_107 c_108))
            refine y_c2 (n := (-2)) C0 (by decide) dX11_round_30 (fun v_184 e_185 => ?_)
            replace HE : FT = ((xso SC ad ws_13), v_184.toInt) := HE.trans (by rw [e_185]; rfl)
            rw [hQ]
            exact y_iret C0 h (Fr.tr (Fr.mono u_2 (by decide)) (Fr.mono u_14 (by decide))) ⟨(congrArg Prod.fst (HE.symm.trans hFT)), (congrArg Prod.snd (HE.symm.trans hFT)), (Rel.fr (M := []) hR (Fr.tr u_2 u_14) (by decide) (by decide)), (Hok.fr (M := []) hH (Fr.tr u_2 u_14) (by decide))⟩ dX11_round_32
noncomputable def g3_X11_makeFree (s : XS) : XR := (s, ((-2)))
noncomputable def g7_X11_makeFree (s : XS) : XR := (s, ((-2)))
noncomputable def g10_X11_makeFree (s : XS) : XR := (s, ((-2)))
noncomputable def g16_X11_makeFree (s : XS) : XR := (s, ((-3)))
noncomputable def g27_X11_makeFree (s : XS) (r_48 : Int) : XR := (s, r_48)
noncomputable def g29c_X11_makeFree (s : XS) (r_56 : Int) : XR := (s, r_56)
noncomputable def g28_X11_makeFree (s : XS) (r_48 : Int) : XR := g29c_X11_makeFree ((f_J6_bitCount_0f7a4 s r_48).1) (((f_J6_bitCount_0f7a4 s r_48).2))
noncomputable def g26b_X11_makeFree (s : XS) (a4 : Int) (r_48 : Int) : XR := if a4 = 0 then g28_X11_makeFree s r_48 else g27_X11_makeFree s r_48
noncomputable def g24_X11_makeFree (s : XS) (a4 : Int) (r_48 : Int) : XR := g26b_X11_makeFree s a4 r_48
noncomputable def g25_X11_makeFree (s : XS) : XR := (s, ((-1)))
noncomputable def g23b_X11_makeFree (s : XS) (r_48 : Int) (a4 : Int) : XR := if r_48 < 0 then g25_X11_makeFree s else g24_X11_makeFree s a4 r_48
noncomputable def g22c_X11_makeFree (s : XS) (r_48 : Int) (a4 : Int) : XR := g23b_X11_makeFree s r_48 a4
noncomputable def g21c_X11_makeFree (s : XS) (r_40 : Int) (a2 : Int) (a3 : Int) (a4 : Int) : XR := g22c_X11_makeFree ((f_X8_cornersToFree s r_40 a2 a3).1) (((f_X8_cornersToFree s r_40 a2 a3).2)) a4
noncomputable def g19_X11_makeFree (s : XS) (a1 : Int) (a2 : Int) (a3 : Int) (a4 : Int) : XR := g21c_X11_makeFree ((f_X1_stand s 10 a1).1) (((f_X1_stand s 10 a1).2)) a2 a3 a4
noncomputable def g20_X11_makeFree (s : XS) : XR := (s, ((-3)))
noncomputable def g18b_X11_makeFree (s : XS) (a3 : Int) (a1 : Int) (a2 : Int) (a4 : Int) : XR := if 20 < a3 then g20_X11_makeFree s else g19_X11_makeFree s a1 a2 a3 a4
noncomputable def g17_X11_makeFree (s : XS) (a1 : Int) (a2 : Int) (a3 : Int) (a4 : Int) : XR := g18b_X11_makeFree s a3 a1 a2 a4
noncomputable def g15b_X11_makeFree (s : XS) (a3 : Int) (a1 : Int) (a2 : Int) (a4 : Int) : XR := if a3 < 0 then g16_X11_makeFree s else g17_X11_makeFree s a1 a2 a3 a4
noncomputable def g13_X11_makeFree (s : XS) (a1 : Int) (a2 : Int) (a3 : Int) (a4 : Int) : XR := g15b_X11_makeFree s a3 a1 a2 a4
noncomputable def g14_X11_makeFree (s : XS) : XR := (s, ((-2)))
noncomputable def g12b_X11_makeFree (s : XS) (a4 : Int) (a1 : Int) (a2 : Int) (a3 : Int) : XR := if 1 < a4 then g14_X11_makeFree s else g13_X11_makeFree s a1 a2 a3 a4
noncomputable def g11_X11_makeFree (s : XS) (a1 : Int) (a2 : Int) (a3 : Int) (a4 : Int) : XR := g12b_X11_makeFree s a4 a1 a2 a3
noncomputable def g9b_X11_makeFree (s : XS) (a4 : Int) (a1 : Int) (a2 : Int) (a3 : Int) : XR := if a4 < 0 then g10_X11_makeFree s else g11_X11_makeFree s a1 a2 a3 a4
noncomputable def g8_X11_makeFree (s : XS) (a1 : Int) (a2 : Int) (a3 : Int) (a4 : Int) : XR := g9b_X11_makeFree s a4 a1 a2 a3
noncomputable def g6b_X11_makeFree (s : XS) (r_16 : Int) (a1 : Int) (a2 : Int) (a3 : Int) (a4 : Int) : XR := if r_16 = 0 then g7_X11_makeFree s else g8_X11_makeFree s a1 a2 a3 a4
noncomputable def g5c_X11_makeFree (s : XS) (r_16 : Int) (a1 : Int) (a2 : Int) (a3 : Int) (a4 : Int) : XR := g6b_X11_makeFree s r_16 a1 a2 a3 a4
noncomputable def g4_X11_makeFree (s : XS) (a1 : Int) (a2 : Int) (a3 : Int) (a4 : Int) : XR := g5c_X11_makeFree ((f_X11_isCrossing s a2).1) (((f_X11_isCrossing s a2).2)) a1 a2 a3 a4
noncomputable def g2b_X11_makeFree (s : XS) (r_4 : Int) (a1 : Int) (a2 : Int) (a3 : Int) (a4 : Int) : XR := if r_4 = 0 then g3_X11_makeFree s else g4_X11_makeFree s a1 a2 a3 a4
noncomputable def g1c_X11_makeFree (s : XS) (r_4 : Int) (a1 : Int) (a2 : Int) (a3 : Int) (a4 : Int) : XR := g2b_X11_makeFree s r_4 a1 a2 a3 a4
noncomputable def f_X11_makeFree (s : XS) (a1 : Int) (a2 : Int) (a3 : Int) (a4 : Int) : XR := g1c_X11_makeFree ((f_X11_isPerson s a1).1) (((f_X11_isPerson s a1).2)) a1 a2 a3 a4
set_option maxHeartbeats 4000000 in
set_option maxRecDepth 100000 in
theorem c_X11_makeFree (l : Launch) (G : GG) (Z : RZ) (ad : Nat → Nat) (ws0 : va_W) (hT : Ty G SC ad ws0) (a1 : Int32) (a2 : Int32) (a3 : Int32) (a4 : Int32) (hR : Rel ws0) (hH : Hok ws0) : Mq l yX11_makeFree cX11_makeFree 6 (some .int) 8 G Z [.ref (ad 0), .int a1, .int a2, .int a3, .int a4] ws0 (PI G SC ad [4, 5, 18, 19, 20, 21, 22, 23] ws0 (fun r u => (xso SC ad u = (f_X11_makeFree (xso SC ad ws0) a1.toInt a2.toInt a3.toInt a4.toInt).1) ∧ (r.toInt = (f_X11_makeFree (xso SC ad ws0) a1.toInt a2.toInt a3.toInt a4.toInt).2) ∧ ((-3) ≤ r.toInt) ∧ (Rel u) ∧ (Hok u))) := by
  refine Mq.start (by decide) (Nat.le_of_ble_eq_true rfl) ?_
  intro p e s m below meth c A ls C0 hZ h hl
  have hl : lv_has ls 6 [(0, .ref (ad 0)), (1, .int a1), (2, .int a2), (3, .int a3), (4, .int a4)] := hl
  have h : Wt G SC ad A s s.heap [] ws0 := ⟨h, hT⟩
  obtain ⟨args, hargs⟩ : ∃ z, z = ([.ref (ad 0), .int a1, .int a2, .int a3, .int a4] : List Value).toArray := ⟨_, rfl⟩
  rw [← hargs] at C0 ⊢
  have C0 : Cx p s m args meth c RX11 cX11_makeFree 6 (some .int) := C0
  obtain ⟨Q, hQ⟩ : ∃ z, z = MQ below ((PI G SC ad [4, 5, 18, 19, 20, 21, 22, 23] ws0 (fun r u => (xso SC ad u = (f_X11_makeFree (xso SC ad ws0) a1.toInt a2.toInt a3.toInt a4.toInt).1) ∧ (r.toInt = (f_X11_makeFree (xso SC ad ws0) a1.toInt a2.toInt a3.toInt a4.toInt).2) ∧ ((-3) ≤ r.toInt) ∧ (Rel u) ∧ (Hok u))) A) args s 0 0 A := ⟨_, rfl⟩
  rw [← hQ]
  obtain ⟨FT, hFT⟩ : ∃ z, z = f_X11_makeFree (xso SC ad ws0) a1.toInt a2.toInt a3.toInt a4.toInt := ⟨_, rfl⟩
  have HE : FT = f_X11_makeFree (xso SC ad ws0) a1.toInt a2.toInt a3.toInt a4.toInt := hFT
  refine lv_aload_n C0.1 C0.2.1 dX11_makeFree_0 rfl (lv_at hl 0 rfl) ?_
  refine lv_iload_n C0.1 C0.2.1 dX11_makeFree_1 rfl (lv_at hl 1 rfl) ?_
  refine y_ci h (y_rV (As := [.int a1]) (rest := []) C0 hZ h (c_X11_isPerson l G Z ad _ h.2 a1) k_X11_isPerson q_903 q_23 q_901 kSC_0 rfl rfl rfl hl.1 rfl rfl (Nat.le_of_ble_eq_true rfl) dX11_makeFree_2 ⟨Nat.le_of_ble_eq_true rfl, Nat.le_of_ble_eq_true rfl⟩ ⟨Nat.le_of_ble_eq_true rfl, Nat.le_of_ble_eq_true rfl⟩) (fun r_4 H locs ws_1 h u_2 p_3 => ?_)
  obtain ⟨e_5, e_6, e_7, e_8, e_9⟩ := p_3
  replace HE : FT = g1c_X11_makeFree (xso SC ad ws_1) r_4.toInt a1.toInt a2.toInt a3.toInt a4.toInt := HE.trans (by rw [e_5, e_6]; rfl)
  replace HE : FT = g2b_X11_makeFree (xso SC ad ws_1) r_4.toInt a1.toInt a2.toInt a3.toInt a4.toInt := HE.trans rfl
  refine y_if_eq (tgt := 27) C0 dX11_makeFree_5 (by decide) (fun c_10 => ?_) (fun c_10 => ?_)
  · -- 5
    replace HE : FT = g3_X11_makeFree (xso SC ad ws_1) := HE.trans (if_pos c_10)
    refine y_c2 (n := (-2)) C0 (by decide) dX11_makeFree_27 (fun v_11 e_12 => ?_)
    replace HE : FT = ((xso SC ad ws_1), v_11.toInt) := HE.trans (by rw [e_12]; rfl)
    rw [hQ]
    exact y_iret C0 h (Fr.mono u_2 (by decide)) ⟨(congrArg Prod.fst (HE.symm.trans hFT)), (congrArg Prod.snd (HE.symm.trans hFT)), (o28_1 e_12), (Rel.fr (M := []) hR u_2 (by decide) (by decide)), (Hok.fr (M := []) hH u_2 (by decide))⟩ dX11_makeFree_29
  · -- 5
    replace HE : FT = g4_X11_makeFree (xso SC ad ws_1) a1.toInt a2.toInt a3.toInt a4.toInt := HE.trans (if_neg c_10)
    refine lv_aload_n C0.1 C0.2.1 dX11_makeFree_8 rfl (lv_at hl 0 rfl) ?_
    refine lv_iload_n C0.1 C0.2.1 dX11_makeFree_9 rfl (lv_at hl 2 rfl) ?_
    refine y_ci h (y_rV (As := [.int a2]) (rest := []) C0 hZ h (c_X11_isCrossing l G Z ad _ h.2 a2) k_X11_isCrossing q_915 q_25 q_913 kSC_0 rfl rfl rfl hl.1 rfl rfl (Nat.le_of_ble_eq_true rfl) dX11_makeFree_10 ⟨Nat.le_of_ble_eq_true rfl, Nat.le_of_ble_eq_true rfl⟩ ⟨Nat.le_of_ble_eq_true rfl, Nat.le_of_ble_eq_true rfl⟩) (fun r_16 H locs ws_13 h u_14 p_15 => ?_)
    obtain ⟨e_17, e_18, e_19, e_20, e_21⟩ := p_15
    replace HE : FT = g5c_X11_makeFree (xso SC ad ws_13) r_16.toInt a1.toInt a2.toInt a3.toInt a4.toInt := HE.trans (by rw [e_17, e_18]; rfl)
    replace HE : FT = g6b_X11_makeFree (xso SC ad ws_13) r_16.toInt a1.toInt a2.toInt a3.toInt a4.toInt := HE.trans rfl
    refine y_if_eq (tgt := 27) C0 dX11_makeFree_13 (by decide) (fun c_22 => ?_) (fun c_22 => ?_)
    · -- 13
      replace HE : FT = g7_X11_makeFree (xso SC ad ws_13) := HE.trans (if_pos c_22)
      refine y_c2 (n := (-2)) C0 (by decide) dX11_makeFree_27 (fun v_23 e_24 => ?_)
      replace HE : FT = ((xso SC ad ws_13), v_23.toInt) := HE.trans (by rw [e_24]; rfl)
      rw [hQ]
      exact y_iret C0 h (Fr.tr (Fr.mono u_2 (by decide)) (Fr.mono u_14 (by decide))) ⟨(congrArg Prod.fst (HE.symm.trans hFT)), (congrArg Prod.snd (HE.symm.trans hFT)), (o28_1 e_24), (Rel.fr (M := []) hR (Fr.tr u_2 u_14) (by decide) (by decide)), (Hok.fr (M := []) hH (Fr.tr u_2 u_14) (by decide))⟩ dX11_makeFree_29
    · -- 13
      replace HE : FT = g8_X11_makeFree (xso SC ad ws_13) a1.toInt a2.toInt a3.toInt a4.toInt := HE.trans (if_neg c_22)
      refine lv_iload C0.1 C0.2.1 dX11_makeFree_16 (lv_at hl 4 rfl) ?_
      replace HE : FT = g9b_X11_makeFree (xso SC ad ws_13) a4.toInt a1.toInt a2.toInt a3.toInt := HE.trans rfl
      refine y_if_lt (tgt := 27) C0 dX11_makeFree_18 (by decide) (fun c_25 => ?_) (fun c_25 => ?_)
      · -- 18
        replace HE : FT = g10_X11_makeFree (xso SC ad ws_13) := HE.trans (if_pos c_25)
        refine y_c2 (n := (-2)) C0 (by decide) dX11_makeFree_27 (fun v_26 e_27 => ?_)
        replace HE : FT = ((xso SC ad ws_13), v_26.toInt) := HE.trans (by rw [e_27]; rfl)
        rw [hQ]
        exact y_iret C0 h (Fr.tr (Fr.mono u_2 (by decide)) (Fr.mono u_14 (by decide))) ⟨(congrArg Prod.fst (HE.symm.trans hFT)), (congrArg Prod.snd (HE.symm.trans hFT)), (o28_1 e_27), (Rel.fr (M := []) hR (Fr.tr u_2 u_14) (by decide) (by decide)), (Hok.fr (M := []) hH (Fr.tr u_2 u_14) (by decide))⟩ dX11_makeFree_29
      · -- 18
        replace HE : FT = g11_X11_makeFree (xso SC ad ws_13) a1.toInt a2.toInt a3.toInt a4.toInt := HE.trans (if_neg (Int.not_lt.mpr c_25))
        refine lv_iload C0.1 C0.2.1 dX11_makeFree_21 (lv_at hl 4 rfl) ?_
        refine y_c1 (n := 1) C0 (by decide) dX11_makeFree_23 (fun v_28 e_29 => ?_)
        replace HE : FT = g12b_X11_makeFree (xso SC ad ws_13) a4.toInt a1.toInt a2.toInt a3.toInt := HE.trans rfl
        refine y_icmp_le (tgt := 30) C0 dX11_makeFree_24 (by decide) (fun c_30 => ?_) (fun c_30 => ?_)
        · -- 24
          replace HE : FT = g13_X11_makeFree (xso SC ad ws_13) a1.toInt a2.toInt a3.toInt a4.toInt := HE.trans (if_neg (o28_56 c_25 e_29 c_30))
          refine lv_iload_n C0.1 C0.2.1 dX11_makeFree_30 rfl (lv_at hl 3 rfl) ?_
          replace HE : FT = g15b_X11_makeFree (xso SC ad ws_13) a3.toInt a1.toInt a2.toInt a4.toInt := HE.trans rfl
          refine y_if_lt (tgt := 40) C0 dX11_makeFree_31 (by decide) (fun c_31 => ?_) (fun c_31 => ?_)
          · -- 31
            replace HE : FT = g16_X11_makeFree (xso SC ad ws_13) := HE.trans (if_pos c_31)
            refine y_c2 (n := (-3)) C0 (by decide) dX11_makeFree_40 (fun v_32 e_33 => ?_)
            replace HE : FT = ((xso SC ad ws_13), v_32.toInt) := HE.trans (by rw [e_33]; rfl)
            rw [hQ]
            exact y_iret C0 h (Fr.tr (Fr.mono u_2 (by decide)) (Fr.mono u_14 (by decide))) ⟨(congrArg Prod.fst (HE.symm.trans hFT)), (congrArg Prod.snd (HE.symm.trans hFT)), (o28_3 e_33), (Rel.fr (M := []) hR (Fr.tr u_2 u_14) (by decide) (by decide)), (Hok.fr (M := []) hH (Fr.tr u_2 u_14) (by decide))⟩ dX11_makeFree_42
          · -- 31
            replace HE : FT = g17_X11_makeFree (xso SC ad ws_13) a1.toInt a2.toInt a3.toInt a4.toInt := HE.trans (if_neg (Int.not_lt.mpr c_31))
            refine lv_iload_n C0.1 C0.2.1 dX11_makeFree_34 rfl (lv_at hl 3 rfl) ?_
            refine y_c2 (n := 20) C0 (by decide) dX11_makeFree_35 (fun v_34 e_35 => ?_)
            replace HE : FT = g18b_X11_makeFree (xso SC ad ws_13) a3.toInt a1.toInt a2.toInt a4.toInt := HE.trans rfl
            refine y_icmp_le (tgt := 43) C0 dX11_makeFree_37 (by decide) (fun c_36 => ?_) (fun c_36 => ?_)
            · -- 37
              replace HE : FT = g19_X11_makeFree (xso SC ad ws_13) a1.toInt a2.toInt a3.toInt a4.toInt := HE.trans (if_neg (o28_36 c_31 e_35 c_36))
              refine lv_aload_n C0.1 C0.2.1 dX11_makeFree_43 rfl (lv_at hl 0 rfl) ?_
              refine tg_X11_spread C0 h kSC_0 q_522 dX11_makeFree_44 ?_
              refine lv_aload_n C0.1 C0.2.1 dX11_makeFree_47 rfl (lv_at hl 0 rfl) ?_
              refine tg_X11_now C0 h kSC_0 q_515 dX11_makeFree_48 ?_
              refine tg_X0_folk C0 h kSC_1 q_249 dX11_makeFree_51 ?_
              refine lv_iload_n C0.1 C0.2.1 dX11_makeFree_54 rfl (lv_at hl 1 rfl) ?_
              refine y_ci h (y_rV (As := [.int a1]) (rest := [.ref (ad 83)]) C0 hZ h (c_X1_stand l G Z ad _ h.2 10 kSC_10 a1 (o28_8 e_7 e_8 e_9 c_10) (o28_9 e_7 e_8 e_9 c_10)) k_X1_stand q_1071 q_1072 q_1070 kSC_10 rfl rfl rfl hl.1 rfl rfl (Nat.le_of_ble_eq_true rfl) dX11_makeFree_55 ⟨Nat.le_of_ble_eq_true rfl, Nat.le_of_ble_eq_true rfl⟩ ⟨Nat.le_of_ble_eq_true rfl, Nat.le_of_ble_eq_true rfl⟩) (fun r_40 H locs ws_37 h u_38 p_39 => ?_)
              obtain ⟨e_41, e_42, e_43, e_44⟩ := p_39
              replace HE : FT = g21c_X11_makeFree (xso SC ad ws_37) r_40.toInt a2.toInt a3.toInt a4.toInt := HE.trans (by rw [e_41, e_42]; rfl)
              refine lv_iload_n C0.1 C0.2.1 dX11_makeFree_58 rfl (lv_at hl 2 rfl) ?_
              refine lv_iload_n C0.1 C0.2.1 dX11_makeFree_59 rfl (lv_at hl 3 rfl) ?_
              refine y_ci h (y_rV (As := [.int r_40, .int a2, .int a3]) (rest := []) C0 hZ h (c_X8_cornersToFree l G Z ad _ h.2 r_40 a2 a3 (o28_10 e_43 e_44) (o28_11 e_43 e_44) (o28_40 c_31 e_35 c_36) (o28_74 c_31 e_35 c_36)) k_X8_cornersToFree q_1321 q_1322 q_1320 kSC_83 rfl rfl rfl hl.1 rfl rfl (Nat.le_of_ble_eq_true rfl) dX11_makeFree_60 ⟨Nat.le_of_ble_eq_true rfl, Nat.le_of_ble_eq_true rfl⟩ ⟨Nat.le_of_ble_eq_true rfl, Nat.le_of_ble_eq_true rfl⟩) (fun r_48 H locs ws_45 h u_46 p_47 => ?_)
              obtain ⟨e_49, e_50⟩ := p_47
              replace HE : FT = g22c_X11_makeFree (xso SC ad ws_45) r_48.toInt a4.toInt := HE.trans (by rw [e_49, e_50]; rfl)
              refine lv_istore (lv' := [(5, .int r_48), (0, .ref (ad 0)), (1, .int a1), (2, .int a2), (3, .int a3), (4, .int a4)]) C0.1 C0.2.1 dX11_makeFree_63 hl (by decide) rfl (fun ls hl => ?_)
              refine lv_iload C0.1 C0.2.1 dX11_makeFree_65 (lv_at hl 0 rfl) ?_
              replace HE : FT = g23b_X11_makeFree (xso SC ad ws_45) r_48.toInt a4.toInt := HE.trans rfl
              refine y_if_ge (tgt := 72) C0 dX11_makeFree_67 (by decide) (fun c_51 => ?_) (fun c_51 => ?_)
              · -- 67
                replace HE : FT = g24_X11_makeFree (xso SC ad ws_45) a4.toInt r_48.toInt := HE.trans (if_neg (Int.not_lt.mpr c_51))
                refine lv_iload C0.1 C0.2.1 dX11_makeFree_72 (lv_at hl 5 rfl) ?_
                replace HE : FT = g26b_X11_makeFree (xso SC ad ws_45) a4.toInt r_48.toInt := HE.trans rfl
                refine y_if_ne (tgt := 85) C0 dX11_makeFree_74 (by decide) (fun c_52 => ?_) (fun c_52 => ?_)
                · -- 74
                  replace HE : FT = g27_X11_makeFree (xso SC ad ws_45) r_48.toInt := HE.trans (if_neg c_52)
                  refine lv_iload C0.1 C0.2.1 dX11_makeFree_85 (lv_at hl 0 rfl) ?_
                  replace HE : FT = ((xso SC ad ws_45), r_48.toInt) := HE.trans rfl
                  rw [hQ]
                  exact y_iret C0 h (Fr.tr (Fr.tr (Fr.tr (Fr.mono u_2 (by decide)) (Fr.mono u_14 (by decide))) (Fr.mono u_38 (by decide))) u_46) ⟨(congrArg Prod.fst (HE.symm.trans hFT)), (congrArg Prod.snd (HE.symm.trans hFT)), (o28_75 c_51), (Rel.fr (M := [4, 5, 18, 19, 20, 21, 22, 23]) hR (Fr.tr (Fr.tr (Fr.tr (Fr.mono u_2 (by decide)) (Fr.mono u_14 (by decide))) (Fr.mono u_38 (by decide))) u_46) (by decide) (by decide)), (Hok.fr (M := [4, 5, 18, 19, 20, 21, 22, 23]) hH (Fr.tr (Fr.tr (Fr.tr (Fr.mono u_2 (by decide)) (Fr.mono u_14 (by decide))) (Fr.mono u_38 (by decide))) u_46) (by decide))⟩ dX11_makeFree_87
                · -- 74
                  replace HE : FT = g28_X11_makeFree (xso SC ad ws_45) r_48.toInt := HE.trans (if_pos c_52)
                  refine lv_iload C0.1 C0.2.1 dX11_makeFree_77 (lv_at hl 0 rfl) ?_
                  refine y_ci h (y_rS (As := [.int r_48]) (rest := []) C0 hZ h (c_J6_bitCount_0f7a4 l G Z ad _ h.2 r_48) k_J6_bitCount_0f7a4 q_1035 q_1034 hl.1 rfl rfl (Nat.le_of_ble_eq_true rfl) dX11_makeFree_79 ⟨Nat.le_of_ble_eq_true rfl, Nat.le_of_ble_eq_true rfl⟩ ⟨Nat.le_of_ble_eq_true rfl, Nat.le_of_ble_eq_true rfl⟩) (fun r_56 H locs ws_53 h u_54 p_55 => ?_)
                  obtain ⟨e_57, e_58, e_59, e_60⟩ := p_55
                  replace HE : FT = g29c_X11_makeFree (xso SC ad ws_53) r_56.toInt := HE.trans (by rw [e_57, e_58]; rfl)
                  refine lv_goto (tgt := 87) C0.1 C0.2.1 dX11_makeFree_82 (by decide) ?_
                  replace HE : FT = ((xso SC ad ws_53), r_56.toInt) := HE.trans rfl
                  rw [hQ]
                  exact y_iret C0 h (Fr.tr (Fr.tr (Fr.tr (Fr.tr (Fr.mono u_2 (by decide)) (Fr.mono u_14 (by decide))) (Fr.mono u_38 (by decide))) u_46) (Fr.mono u_54 (by decide))) ⟨(congrArg Prod.fst (HE.symm.trans hFT)), (congrArg Prod.snd (HE.symm.trans hFT)), (o28_76 e_59 e_60), (Rel.fr (M := [4, 5, 18, 19, 20, 21, 22, 23]) hR (Fr.tr (Fr.tr (Fr.tr (Fr.tr (Fr.mono u_2 (by decide)) (Fr.mono u_14 (by decide))) (Fr.mono u_38 (by decide))) u_46) (Fr.mono u_54 (by decide))) (by decide) (by decide)), (Hok.fr (M := [4, 5, 18, 19, 20, 21, 22, 23]) hH (Fr.tr (Fr.tr (Fr.tr (Fr.tr (Fr.mono u_2 (by decide)) (Fr.mono u_14 (by decide))) (Fr.mono u_38 (by decide))) u_46) (Fr.mono u_54 (by decide))) (by decide))⟩ dX11_makeFree_87
              · -- 67
                replace HE : FT = g25_X11_makeFree (xso SC ad ws_45) := HE.trans (if_pos c_51)
                refine y_c1 (n := (-1)) C0 (by decide) dX11_makeFree_70 (fun v_61 e_62 => ?_)
                replace HE : FT = ((xso SC ad ws_45), v_61.toInt) := HE.trans (by rw [e_62]; rfl)
                rw [hQ]
                exact y_iret C0 h (Fr.tr (Fr.tr (Fr.tr (Fr.mono u_2 (by decide)) (Fr.mono u_14 (by decide))) (Fr.mono u_38 (by decide))) u_46) ⟨(congrArg Prod.fst (HE.symm.trans hFT)), (congrArg Prod.snd (HE.symm.trans hFT)), (o28_77 e_62), (Rel.fr (M := [4, 5, 18, 19, 20, 21, 22, 23]) hR (Fr.tr (Fr.tr (Fr.tr (Fr.mono u_2 (by decide)) (Fr.mono u_14 (by decide))) (Fr.mono u_38 (by decide))) u_46) (by decide) (by decide)), (Hok.fr (M := [4, 5, 18, 19, 20, 21, 22, 23]) hH (Fr.tr (Fr.tr (Fr.tr (Fr.mono u_2 (by decide)) (Fr.mono u_14 (by decide))) (Fr.mono u_38 (by decide))) u_46) (by decide))⟩ dX11_makeFree_71
            · -- 37
              replace HE : FT = g20_X11_makeFree (xso SC ad ws_13) := HE.trans (if_pos (o28_35 c_31 e_35 c_36))
              refine y_c2 (n := (-3)) C0 (by decide) dX11_makeFree_40 (fun v_63 e_64 => ?_)
              replace HE : FT = ((xso SC ad ws_13), v_63.toInt) := HE.trans (by rw [e_64]; rfl)
              rw [hQ]
              exact y_iret C0 h (Fr.tr (Fr.mono u_2 (by decide)) (Fr.mono u_14 (by decide))) ⟨(congrArg Prod.fst (HE.symm.trans hFT)), (congrArg Prod.snd (HE.symm.trans hFT)), (o28_3 e_64), (Rel.fr (M := []) hR (Fr.tr u_2 u_14) (by decide) (by decide)), (Hok.fr (M := []) hH (Fr.tr u_2 u_14) (by decide))⟩ dX11_makeFree_42
        · -- 24
          replace HE : FT = g14_X11_makeFree (xso SC ad ws_13) := HE.trans (if_pos (o28_57 c_25 e_29 c_30))
          refine y_c2 (n := (-2)) C0 (by decide) dX11_makeFree_27 (fun v_65 e_66 => ?_)
          replace HE : FT = ((xso SC ad ws_13), v_65.toInt) := HE.trans (by rw [e_66]; rfl)
          rw [hQ]
          exact y_iret C0 h (Fr.tr (Fr.mono u_2 (by decide)) (Fr.mono u_14 (by decide))) ⟨(congrArg Prod.fst (HE.symm.trans hFT)), (congrArg Prod.snd (HE.symm.trans hFT)), (o28_1 e_66), (Rel.fr (M := []) hR (Fr.tr u_2 u_14) (by decide) (by decide)), (Hok.fr (M := []) hH (Fr.tr u_2 u_14) (by decide))⟩ dX11_makeFree_29
noncomputable def g3_X11_bestCorner (s : XS) : XR := (s, ((-2)))
noncomputable def g10_X11_bestCorner (s : XS) : XR := (s, ((-3)))
noncomputable def g21_X11_bestCorner (s : XS) (x6_54 : Int) : XR := (s, x6_54)
noncomputable def g24_X11_bestCorner (s : XS) (x6_54 : Int) : XR := (s, x6_54)
noncomputable def g28_X11_bestCorner (R66 : XS → Int → Int → Int → Int → Int → Int → XR) (s : XS) (a2 : Int) (a3 : Int) (r_32 : Int) (x5_55 : Int) (x6_54 : Int) (x7_53 : Int) : XR := R66 s a2 a3 r_32 x5_55 x6_54 ((x7_53 + 1))
noncomputable def g29_X11_bestCorner (R66 : XS → Int → Int → Int → Int → Int → Int → XR) (s : XS) (a2 : Int) (a3 : Int) (r_32 : Int) (x7_53 : Int) (r_87 : Int) : XR := R66 s a2 a3 r_32 r_87 x7_53 ((x7_53 + 1))
noncomputable def g27b_X11_bestCorner (R66 : XS → Int → Int → Int → Int → Int → Int → XR) (s : XS) (x5_55 : Int) (r_87 : Int) (a2 : Int) (a3 : Int) (r_32 : Int) (x6_54 : Int) (x7_53 : Int) : XR := if r_87 < x5_55 then g29_X11_bestCorner R66 s a2 a3 r_32 x7_53 r_87 else g28_X11_bestCorner R66 s a2 a3 r_32 x5_55 x6_54 x7_53
noncomputable def g26c_X11_bestCorner (R66 : XS → Int → Int → Int → Int → Int → Int → XR) (s : XS) (r_87 : Int) (a2 : Int) (a3 : Int) (r_32 : Int) (x5_55 : Int) (x6_54 : Int) (x7_53 : Int) : XR := g27b_X11_bestCorner R66 s x5_55 r_87 a2 a3 r_32 x6_54 x7_53
noncomputable def g25_X11_bestCorner (R66 : XS → Int → Int → Int → Int → Int → Int → XR) (s : XS) (a2 : Int) (a3 : Int) (r_32 : Int) (x5_55 : Int) (x6_54 : Int) (x7_53 : Int) : XR := g26c_X11_bestCorner R66 ((f_X8_fewestLefts s r_32 0 a2 a3 (Xishl 1 x7_53)).1) (((f_X8_fewestLefts s r_32 0 a2 a3 (Xishl 1 x7_53)).2)) a2 a3 r_32 x5_55 x6_54 x7_53
noncomputable def g23b_X11_bestCorner (R66 : XS → Int → Int → Int → Int → Int → Int → XR) (s : XS) (x5_55 : Int) (a2 : Int) (a3 : Int) (r_32 : Int) (x6_54 : Int) (x7_53 : Int) : XR := if 0 < x5_55 then g25_X11_bestCorner R66 s a2 a3 r_32 x5_55 x6_54 x7_53 else g24_X11_bestCorner s x6_54
noncomputable def g22_X11_bestCorner (R66 : XS → Int → Int → Int → Int → Int → Int → XR) (s : XS) (a2 : Int) (a3 : Int) (r_32 : Int) (x5_55 : Int) (x6_54 : Int) (x7_53 : Int) : XR := g23b_X11_bestCorner R66 s x5_55 a2 a3 r_32 x6_54 x7_53
noncomputable def g20b_X11_bestCorner (R66 : XS → Int → Int → Int → Int → Int → Int → XR) (s : XS) (r_71 : Int) (x7_53 : Int) (a2 : Int) (a3 : Int) (r_32 : Int) (x5_55 : Int) (x6_54 : Int) : XR := if x7_53 < r_71 then g22_X11_bestCorner R66 s a2 a3 r_32 x5_55 x6_54 x7_53 else g21_X11_bestCorner s x6_54
noncomputable def g19c_X11_bestCorner (R66 : XS → Int → Int → Int → Int → Int → Int → XR) (s : XS) (r_71 : Int) (x7_53 : Int) (a2 : Int) (a3 : Int) (r_32 : Int) (x5_55 : Int) (x6_54 : Int) : XR := g20b_X11_bestCorner R66 s r_71 x7_53 a2 a3 r_32 x5_55 x6_54
noncomputable def g18l_X11_bestCorner (R66 : XS → Int → Int → Int → Int → Int → Int → XR) (s : XS) (a2 : Int) (a3 : Int) (r_32 : Int) (x5_55 : Int) (x6_54 : Int) (x7_53 : Int) : XR := g19c_X11_bestCorner R66 ((f_X0_crossings s 1).1) (((f_X0_crossings s 1).2)) x7_53 a2 a3 r_32 x5_55 x6_54
noncomputable def L17_X11_bestCorner (n : Nat) : XS → Int → Int → Int → Int → Int → Int → XR := Nat.rec (motive := fun _ => XS → Int → Int → Int → Int → Int → Int → XR) (fun s _ _ _ _ _ _ => (s, 0)) (fun _ R66 => g18l_X11_bestCorner R66) n
noncomputable def g16c_X11_bestCorner (s : XS) (r_44 : Int) (a2 : Int) (a3 : Int) (r_32 : Int) : XR := L17_X11_bestCorner (Int.toNat (25 - 0 + 1)) s a2 a3 r_32 r_44 (((-1))) 0
noncomputable def g15c_X11_bestCorner (s : XS) (r_32 : Int) (a2 : Int) (a3 : Int) : XR := g16c_X11_bestCorner ((f_X8_fewestLefts s r_32 0 a2 a3 0).1) (((f_X8_fewestLefts s r_32 0 a2 a3 0).2)) a2 a3 r_32
noncomputable def g13_X11_bestCorner (s : XS) (a1 : Int) (a2 : Int) (a3 : Int) : XR := g15c_X11_bestCorner ((f_X1_stand s 10 a1).1) (((f_X1_stand s 10 a1).2)) a2 a3
noncomputable def g14_X11_bestCorner (s : XS) : XR := (s, ((-3)))
noncomputable def g12b_X11_bestCorner (s : XS) (a3 : Int) (a1 : Int) (a2 : Int) : XR := if 30 < a3 then g14_X11_bestCorner s else g13_X11_bestCorner s a1 a2 a3
noncomputable def g11_X11_bestCorner (s : XS) (a1 : Int) (a2 : Int) (a3 : Int) : XR := g12b_X11_bestCorner s a3 a1 a2
noncomputable def g9b_X11_bestCorner (s : XS) (a3 : Int) (a1 : Int) (a2 : Int) : XR := if a3 < 0 then g10_X11_bestCorner s else g11_X11_bestCorner s a1 a2 a3
noncomputable def g7_X11_bestCorner (s : XS) (a1 : Int) (a2 : Int) (a3 : Int) : XR := g9b_X11_bestCorner s a3 a1 a2
noncomputable def g8_X11_bestCorner (s : XS) : XR := (s, ((-2)))
noncomputable def g6b_X11_bestCorner (s : XS) (r_16 : Int) (a1 : Int) (a2 : Int) (a3 : Int) : XR := if r_16 = 0 then g8_X11_bestCorner s else g7_X11_bestCorner s a1 a2 a3
noncomputable def g5c_X11_bestCorner (s : XS) (r_16 : Int) (a1 : Int) (a2 : Int) (a3 : Int) : XR := g6b_X11_bestCorner s r_16 a1 a2 a3
noncomputable def g4_X11_bestCorner (s : XS) (a1 : Int) (a2 : Int) (a3 : Int) : XR := g5c_X11_bestCorner ((f_X11_isCrossing s a2).1) (((f_X11_isCrossing s a2).2)) a1 a2 a3
noncomputable def g2b_X11_bestCorner (s : XS) (r_4 : Int) (a1 : Int) (a2 : Int) (a3 : Int) : XR := if r_4 = 0 then g3_X11_bestCorner s else g4_X11_bestCorner s a1 a2 a3
noncomputable def g1c_X11_bestCorner (s : XS) (r_4 : Int) (a1 : Int) (a2 : Int) (a3 : Int) : XR := g2b_X11_bestCorner s r_4 a1 a2 a3
noncomputable def f_X11_bestCorner (s : XS) (a1 : Int) (a2 : Int) (a3 : Int) : XR := g1c_X11_bestCorner ((f_X11_isPerson s a1).1) (((f_X11_isPerson s a1).2)) a1 a2 a3
set_option maxHeartbeats 4000000 in
set_option maxRecDepth 100000 in
theorem c_X11_bestCorner (l : Launch) (G : GG) (Z : RZ) (ad : Nat → Nat) (ws0 : va_W) (hT : Ty G SC ad ws0) (a1 : Int32) (a2 : Int32) (a3 : Int32) (hR : Rel ws0) (hH : Hok ws0) : Mq l yX11_bestCorner cX11_bestCorner 9 (some .int) 7 G Z [.ref (ad 0), .int a1, .int a2, .int a3] ws0 (PI G SC ad [4, 5, 18, 19, 20, 21, 22, 23] ws0 (fun r u => (xso SC ad u = (f_X11_bestCorner (xso SC ad ws0) a1.toInt a2.toInt a3.toInt).1) ∧ (r.toInt = (f_X11_bestCorner (xso SC ad ws0) a1.toInt a2.toInt a3.toInt).2) ∧ ((-3) ≤ r.toInt) ∧ (r.toInt ≤ 24) ∧ (Rel u) ∧ (Hok u))) := by
  refine Mq.start (by decide) (Nat.le_of_ble_eq_true rfl) ?_
  intro p e s m below meth c A ls C0 hZ h hl
  have hl : lv_has ls 9 [(0, .ref (ad 0)), (1, .int a1), (2, .int a2), (3, .int a3)] := hl
  have h : Wt G SC ad A s s.heap [] ws0 := ⟨h, hT⟩
  obtain ⟨args, hargs⟩ : ∃ z, z = ([.ref (ad 0), .int a1, .int a2, .int a3] : List Value).toArray := ⟨_, rfl⟩
  rw [← hargs] at C0 ⊢
  have C0 : Cx p s m args meth c RX11 cX11_bestCorner 9 (some .int) := C0
  obtain ⟨Q, hQ⟩ : ∃ z, z = MQ below ((PI G SC ad [4, 5, 18, 19, 20, 21, 22, 23] ws0 (fun r u => (xso SC ad u = (f_X11_bestCorner (xso SC ad ws0) a1.toInt a2.toInt a3.toInt).1) ∧ (r.toInt = (f_X11_bestCorner (xso SC ad ws0) a1.toInt a2.toInt a3.toInt).2) ∧ ((-3) ≤ r.toInt) ∧ (r.toInt ≤ 24) ∧ (Rel u) ∧ (Hok u))) A) args s 0 0 A := ⟨_, rfl⟩
  rw [← hQ]
  obtain ⟨FT, hFT⟩ : ∃ z, z = f_X11_bestCorner (xso SC ad ws0) a1.toInt a2.toInt a3.toInt := ⟨_, rfl⟩
  have HE : FT = f_X11_bestCorner (xso SC ad ws0) a1.toInt a2.toInt a3.toInt := hFT
  refine lv_aload_n C0.1 C0.2.1 dX11_bestCorner_0 rfl (lv_at hl 0 rfl) ?_
  refine lv_iload_n C0.1 C0.2.1 dX11_bestCorner_1 rfl (lv_at hl 1 rfl) ?_
  refine y_ci h (y_rV (As := [.int a1]) (rest := []) C0 hZ h (c_X11_isPerson l G Z ad _ h.2 a1) k_X11_isPerson q_903 q_23 q_901 kSC_0 rfl rfl rfl hl.1 rfl rfl (Nat.le_of_ble_eq_true rfl) dX11_bestCorner_2 ⟨Nat.le_of_ble_eq_true rfl, Nat.le_of_ble_eq_true rfl⟩ ⟨Nat.le_of_ble_eq_true rfl, Nat.le_of_ble_eq_true rfl⟩) (fun r_4 H locs ws_1 h u_2 p_3 => ?_)
  obtain ⟨e_5, e_6, e_7, e_8, e_9⟩ := p_3
  replace HE : FT = g1c_X11_bestCorner (xso SC ad ws_1) r_4.toInt a1.toInt a2.toInt a3.toInt := HE.trans (by rw [e_5, e_6]; rfl)
  replace HE : FT = g2b_X11_bestCorner (xso SC ad ws_1) r_4.toInt a1.toInt a2.toInt a3.toInt := HE.trans rfl
  refine y_if_eq (tgt := 16) C0 dX11_bestCorner_5 (by decide) (fun c_10 => ?_) (fun c_10 => ?_)
  · -- 5
    replace HE : FT = g3_X11_bestCorner (xso SC ad ws_1) := HE.trans (if_pos c_10)
    refine y_c2 (n := (-2)) C0 (by decide) dX11_bestCorner_16 (fun v_11 e_12 => ?_)
    replace HE : FT = ((xso SC ad ws_1), v_11.toInt) := HE.trans (by rw [e_12]; rfl)
    rw [hQ]
    exact y_iret C0 h (Fr.mono u_2 (by decide)) ⟨(congrArg Prod.fst (HE.symm.trans hFT)), (congrArg Prod.snd (HE.symm.trans hFT)), (o28_1 e_12), (o28_78 e_12), (Rel.fr (M := []) hR u_2 (by decide) (by decide)), (Hok.fr (M := []) hH u_2 (by decide))⟩ dX11_bestCorner_18
  · -- 5
    replace HE : FT = g4_X11_bestCorner (xso SC ad ws_1) a1.toInt a2.toInt a3.toInt := HE.trans (if_neg c_10)
    refine lv_aload_n C0.1 C0.2.1 dX11_bestCorner_8 rfl (lv_at hl 0 rfl) ?_
    refine lv_iload_n C0.1 C0.2.1 dX11_bestCorner_9 rfl (lv_at hl 2 rfl) ?_
    refine y_ci h (y_rV (As := [.int a2]) (rest := []) C0 hZ h (c_X11_isCrossing l G Z ad _ h.2 a2) k_X11_isCrossing q_915 q_25 q_913 kSC_0 rfl rfl rfl hl.1 rfl rfl (Nat.le_of_ble_eq_true rfl) dX11_bestCorner_10 ⟨Nat.le_of_ble_eq_true rfl, Nat.le_of_ble_eq_true rfl⟩ ⟨Nat.le_of_ble_eq_true rfl, Nat.le_of_ble_eq_true rfl⟩) (fun r_16 H locs ws_13 h u_14 p_15 => ?_)
    obtain ⟨e_17, e_18, e_19, e_20, e_21⟩ := p_15
    replace HE : FT = g5c_X11_bestCorner (xso SC ad ws_13) r_16.toInt a1.toInt a2.toInt a3.toInt := HE.trans (by rw [e_17, e_18]; rfl)
    replace HE : FT = g6b_X11_bestCorner (xso SC ad ws_13) r_16.toInt a1.toInt a2.toInt a3.toInt := HE.trans rfl
    refine y_if_ne (tgt := 19) C0 dX11_bestCorner_13 (by decide) (fun c_22 => ?_) (fun c_22 => ?_)
    · -- 13
      replace HE : FT = g7_X11_bestCorner (xso SC ad ws_13) a1.toInt a2.toInt a3.toInt := HE.trans (if_neg c_22)
      refine lv_iload_n C0.1 C0.2.1 dX11_bestCorner_19 rfl (lv_at hl 3 rfl) ?_
      replace HE : FT = g9b_X11_bestCorner (xso SC ad ws_13) a3.toInt a1.toInt a2.toInt := HE.trans rfl
      refine y_if_lt (tgt := 29) C0 dX11_bestCorner_20 (by decide) (fun c_23 => ?_) (fun c_23 => ?_)
      · -- 20
        replace HE : FT = g10_X11_bestCorner (xso SC ad ws_13) := HE.trans (if_pos c_23)
        refine y_c2 (n := (-3)) C0 (by decide) dX11_bestCorner_29 (fun v_24 e_25 => ?_)
        replace HE : FT = ((xso SC ad ws_13), v_24.toInt) := HE.trans (by rw [e_25]; rfl)
        rw [hQ]
        exact y_iret C0 h (Fr.tr (Fr.mono u_2 (by decide)) (Fr.mono u_14 (by decide))) ⟨(congrArg Prod.fst (HE.symm.trans hFT)), (congrArg Prod.snd (HE.symm.trans hFT)), (o28_3 e_25), (o28_79 e_25), (Rel.fr (M := []) hR (Fr.tr u_2 u_14) (by decide) (by decide)), (Hok.fr (M := []) hH (Fr.tr u_2 u_14) (by decide))⟩ dX11_bestCorner_31
      · -- 20
        replace HE : FT = g11_X11_bestCorner (xso SC ad ws_13) a1.toInt a2.toInt a3.toInt := HE.trans (if_neg (Int.not_lt.mpr c_23))
        refine lv_iload_n C0.1 C0.2.1 dX11_bestCorner_23 rfl (lv_at hl 3 rfl) ?_
        refine y_c2 (n := 30) C0 (by decide) dX11_bestCorner_24 (fun v_26 e_27 => ?_)
        replace HE : FT = g12b_X11_bestCorner (xso SC ad ws_13) a3.toInt a1.toInt a2.toInt := HE.trans rfl
        refine y_icmp_le (tgt := 32) C0 dX11_bestCorner_26 (by decide) (fun c_28 => ?_) (fun c_28 => ?_)
        · -- 26
          replace HE : FT = g13_X11_bestCorner (xso SC ad ws_13) a1.toInt a2.toInt a3.toInt := HE.trans (if_neg (o28_81 c_23 e_27 c_28))
          refine lv_aload_n C0.1 C0.2.1 dX11_bestCorner_32 rfl (lv_at hl 0 rfl) ?_
          refine tg_X11_now C0 h kSC_0 q_515 dX11_bestCorner_33 ?_
          refine tg_X0_folk C0 h kSC_1 q_249 dX11_bestCorner_36 ?_
          refine lv_iload_n C0.1 C0.2.1 dX11_bestCorner_39 rfl (lv_at hl 1 rfl) ?_
          refine y_ci h (y_rV (As := [.int a1]) (rest := []) C0 hZ h (c_X1_stand l G Z ad _ h.2 10 kSC_10 a1 (o28_8 e_7 e_8 e_9 c_10) (o28_9 e_7 e_8 e_9 c_10)) k_X1_stand q_1071 q_1072 q_1070 kSC_10 rfl rfl rfl hl.1 rfl rfl (Nat.le_of_ble_eq_true rfl) dX11_bestCorner_40 ⟨Nat.le_of_ble_eq_true rfl, Nat.le_of_ble_eq_true rfl⟩ ⟨Nat.le_of_ble_eq_true rfl, Nat.le_of_ble_eq_true rfl⟩) (fun r_32 H locs ws_29 h u_30 p_31 => ?_)
          obtain ⟨e_33, e_34, e_35, e_36⟩ := p_31
          replace HE : FT = g15c_X11_bestCorner (xso SC ad ws_29) r_32.toInt a2.toInt a3.toInt := HE.trans (by rw [e_33, e_34]; rfl)
          refine lv_istore (lv' := [(4, .int r_32), (0, .ref (ad 0)), (1, .int a1), (2, .int a2), (3, .int a3)]) C0.1 C0.2.1 dX11_bestCorner_43 hl (by decide) rfl (fun ls hl => ?_)
          refine lv_aload_n C0.1 C0.2.1 dX11_bestCorner_45 rfl (lv_at hl 1 rfl) ?_
          refine tg_X11_spread C0 h kSC_0 q_522 dX11_bestCorner_46 ?_
          refine lv_iload C0.1 C0.2.1 dX11_bestCorner_49 (lv_at hl 0 rfl) ?_
          refine y_c1 (n := 0) C0 (by decide) dX11_bestCorner_51 (fun v_37 e_38 => ?_)
          refine lv_iload_n C0.1 C0.2.1 dX11_bestCorner_52 rfl (lv_at hl 3 rfl) ?_
          refine lv_iload_n C0.1 C0.2.1 dX11_bestCorner_53 rfl (lv_at hl 4 rfl) ?_
          refine y_c1 (n := 0) C0 (by decide) dX11_bestCorner_54 (fun v_39 e_40 => ?_)
          refine y_ci h (y_rV (As := [.int r_32, .int v_37, .int a2, .int a3, .int v_39]) (rest := []) C0 hZ h (c_X8_fewestLefts l G Z ad _ h.2 r_32 v_37 a2 a3 v_39 (o28_10 e_35 e_36) (o28_11 e_35 e_36) (o28_23 e_38) (o28_24 e_38) (o28_83 c_23 e_27 c_28) (o28_84 c_23 e_27 c_28)) k_X8_fewestLefts q_1203 q_1204 q_1202 kSC_83 rfl rfl rfl hl.1 rfl rfl (Nat.le_of_ble_eq_true rfl) dX11_bestCorner_55 ⟨Nat.le_of_ble_eq_true rfl, Nat.le_of_ble_eq_true rfl⟩ ⟨Nat.le_of_ble_eq_true rfl, Nat.le_of_ble_eq_true rfl⟩) (fun r_44 H locs ws_41 h u_42 p_43 => ?_)
          obtain ⟨e_45, e_46, e_47, e_48⟩ := p_43
          replace HE : FT = g16c_X11_bestCorner (xso SC ad ws_41) r_44.toInt a2.toInt a3.toInt r_32.toInt := HE.trans (by rw [e_45, e_46, e_40, e_38]; rfl)
          refine lv_istore (lv' := [(5, .int r_44), (4, .int r_32), (0, .ref (ad 0)), (1, .int a1), (2, .int a2), (3, .int a3)]) C0.1 C0.2.1 dX11_bestCorner_58 hl (by decide) rfl (fun ls hl => ?_)
          refine y_c1 (n := (-1)) C0 (by decide) dX11_bestCorner_60 (fun v_49 e_50 => ?_)
          refine lv_istore (lv' := [(6, .int v_49), (5, .int r_44), (4, .int r_32), (0, .ref (ad 0)), (1, .int a1), (2, .int a2), (3, .int a3)]) C0.1 C0.2.1 dX11_bestCorner_61 hl (by decide) rfl (fun ls hl => ?_)
          refine y_c1 (n := 0) C0 (by decide) dX11_bestCorner_63 (fun v_51 e_52 => ?_)
          refine lv_istore (lv' := [(7, .int v_51), (6, .int v_49), (5, .int r_44), (4, .int r_32), (0, .ref (ad 0)), (1, .int a1), (2, .int a2), (3, .int a3)]) C0.1 C0.2.1 dX11_bestCorner_64 hl (by decide) rfl (fun ls hl => ?_)
          have lp_58 : ∀ (n_60 : Nat) (x7_53 : Int32) (x6_54 : Int32) (x5_55 : Int32) (H : Heap) (locs : List Loc) (ls : Array Slot) (ws_56 : va_W), 25 - x7_53.toInt < (n_60 : Int) → 0 ≤ x7_53.toInt → x7_53.toInt ≤ 25 → (-1) ≤ x6_54.toInt → x6_54.toInt ≤ 24 → (-1) ≤ x5_55.toInt → x5_55.toInt ≤ 120 → (FT = L17_X11_bestCorner n_60 (xso SC ad ws_56) a2.toInt a3.toInt r_32.toInt x5_55.toInt x6_54.toInt x7_53.toInt) → Wt G SC ad A s H locs ws_56 → Fr SC [4, 5, 18, 19, 20, 21, 22, 23] ws_41 ws_56 → lv_has ls 9 [(7, .int x7_53), (6, .int x6_54), (5, .int x5_55), (4, .int r_32), (0, .ref (ad 0)), (1, .int a1), (2, .int a2), (3, .int a3)] → W p l e (rmd 7 0 0) s m args below meth c H locs 0 0 Q (F0 m 66 ls []) := by
            intro n_60
            induction n_60 with
            | zero => intro x7_53 x6_54 x5_55 H locs ls ws_56 hn_61 b_62 b_63 b_64 b_65 b_66 b_67 HE h hF_57 hl; exact ((o28_85 b_62 b_63 hn_61)).elim
            | succ n_60 ih_59 =>
              intro x7_53 x6_54 x5_55 H locs ls ws_56 hn_61 b_62 b_63 b_64 b_65 b_66 b_67 HE h hF_57 hl
              obtain ⟨R66, hR66⟩ : ∃ z, z = L17_X11_bestCorner n_60 := ⟨_, rfl⟩
              replace HE : FT = g18l_X11_bestCorner R66 (xso SC ad ws_56) a2.toInt a3.toInt r_32.toInt x5_55.toInt x6_54.toInt x7_53.toInt := HE.trans (by rw [hR66]; rfl)
              refine lv_iload C0.1 C0.2.1 dX11_bestCorner_66 (lv_at hl 0 rfl) ?_
              refine lv_aload_n C0.1 C0.2.1 dX11_bestCorner_68 rfl (lv_at hl 4 rfl) ?_
              refine tg_X11_now C0 h kSC_0 q_515 dX11_bestCorner_69 ?_
              refine y_ci h (y_rV (As := []) (rest := [.int x7_53]) C0 hZ h (c_X0_crossings l G Z ad _ h.2 1 kSC_1) k_X0_crossings q_918 q_919 q_917 kSC_1 rfl rfl rfl hl.1 rfl rfl (Nat.le_of_ble_eq_true rfl) dX11_bestCorner_72 ⟨Nat.le_of_ble_eq_true rfl, Nat.le_of_ble_eq_true rfl⟩ ⟨Nat.le_of_ble_eq_true rfl, Nat.le_of_ble_eq_true rfl⟩) (fun r_71 H locs ws_68 h u_69 p_70 => ?_)
              obtain ⟨e_72, e_73, e_74, e_75⟩ := p_70
              replace HE : FT = g19c_X11_bestCorner R66 (xso SC ad ws_68) r_71.toInt x7_53.toInt a2.toInt a3.toInt r_32.toInt x5_55.toInt x6_54.toInt := HE.trans (by rw [e_72, e_73]; rfl)
              replace HE : FT = g20b_X11_bestCorner R66 (xso SC ad ws_68) r_71.toInt x7_53.toInt a2.toInt a3.toInt r_32.toInt x5_55.toInt x6_54.toInt := HE.trans rfl
              refine y_icmp_ge (tgt := 122) C0 dX11_bestCorner_75 (by decide) (fun c_76 => ?_) (fun c_76 => ?_)
              · -- 75
                replace HE : FT = g21_X11_bestCorner (xso SC ad ws_68) x6_54.toInt := HE.trans (if_neg (Int.not_lt.mpr c_76))
                refine lv_iload C0.1 C0.2.1 dX11_bestCorner_122 (lv_at hl 1 rfl) ?_
                replace HE : FT = ((xso SC ad ws_68), x6_54.toInt) := HE.trans rfl
                rw [hQ]
                exact y_iret C0 h (Fr.tr (Fr.tr (Fr.tr (Fr.tr (Fr.tr (Fr.mono u_2 (by decide)) (Fr.mono u_14 (by decide))) (Fr.mono u_30 (by decide))) u_42) hF_57) (Fr.mono u_69 (by decide))) ⟨(congrArg Prod.fst (HE.symm.trans hFT)), (congrArg Prod.snd (HE.symm.trans hFT)), (o28_86 b_64 b_65), (o28_87 b_64 b_65), (Rel.fr (M := [4, 5, 18, 19, 20, 21, 22, 23]) hR (Fr.tr (Fr.tr (Fr.tr (Fr.tr (Fr.tr (Fr.mono u_2 (by decide)) (Fr.mono u_14 (by decide))) (Fr.mono u_30 (by decide))) u_42) hF_57) (Fr.mono u_69 (by decide))) (by decide) (by decide)), (Hok.fr (M := [4, 5, 18, 19, 20, 21, 22, 23]) hH (Fr.tr (Fr.tr (Fr.tr (Fr.tr (Fr.tr (Fr.mono u_2 (by decide)) (Fr.mono u_14 (by decide))) (Fr.mono u_30 (by decide))) u_42) hF_57) (Fr.mono u_69 (by decide))) (by decide))⟩ dX11_bestCorner_124
              · -- 75
                replace HE : FT = g22_X11_bestCorner R66 (xso SC ad ws_68) a2.toInt a3.toInt r_32.toInt x5_55.toInt x6_54.toInt x7_53.toInt := HE.trans (if_pos c_76)
                refine lv_iload C0.1 C0.2.1 dX11_bestCorner_78 (lv_at hl 2 rfl) ?_
                replace HE : FT = g23b_X11_bestCorner R66 (xso SC ad ws_68) x5_55.toInt a2.toInt a3.toInt r_32.toInt x6_54.toInt x7_53.toInt := HE.trans rfl
                refine y_if_le (tgt := 122) C0 dX11_bestCorner_80 (by decide) (fun c_77 => ?_) (fun c_77 => ?_)
                · -- 80
                  replace HE : FT = g24_X11_bestCorner (xso SC ad ws_68) x6_54.toInt := HE.trans (if_neg (Int.not_lt.mpr c_77))
                  refine lv_iload C0.1 C0.2.1 dX11_bestCorner_122 (lv_at hl 1 rfl) ?_
                  replace HE : FT = ((xso SC ad ws_68), x6_54.toInt) := HE.trans rfl
                  rw [hQ]
                  exact y_iret C0 h (Fr.tr (Fr.tr (Fr.tr (Fr.tr (Fr.tr (Fr.mono u_2 (by decide)) (Fr.mono u_14 (by decide))) (Fr.mono u_30 (by decide))) u_42) hF_57) (Fr.mono u_69 (by decide))) ⟨(congrArg Prod.fst (HE.symm.trans hFT)), (congrArg Prod.snd (HE.symm.trans hFT)), (o28_86 b_64 b_65), (o28_87 b_64 b_65), (Rel.fr (M := [4, 5, 18, 19, 20, 21, 22, 23]) hR (Fr.tr (Fr.tr (Fr.tr (Fr.tr (Fr.tr (Fr.mono u_2 (by decide)) (Fr.mono u_14 (by decide))) (Fr.mono u_30 (by decide))) u_42) hF_57) (Fr.mono u_69 (by decide))) (by decide) (by decide)), (Hok.fr (M := [4, 5, 18, 19, 20, 21, 22, 23]) hH (Fr.tr (Fr.tr (Fr.tr (Fr.tr (Fr.tr (Fr.mono u_2 (by decide)) (Fr.mono u_14 (by decide))) (Fr.mono u_30 (by decide))) u_42) hF_57) (Fr.mono u_69 (by decide))) (by decide))⟩ dX11_bestCorner_124
                · -- 80
                  replace HE : FT = g25_X11_bestCorner R66 (xso SC ad ws_68) a2.toInt a3.toInt r_32.toInt x5_55.toInt x6_54.toInt x7_53.toInt := HE.trans (if_pos c_77)
                  refine lv_aload_n C0.1 C0.2.1 dX11_bestCorner_83 rfl (lv_at hl 4 rfl) ?_
                  refine tg_X11_spread C0 h kSC_0 q_522 dX11_bestCorner_84 ?_
                  refine lv_iload C0.1 C0.2.1 dX11_bestCorner_87 (lv_at hl 3 rfl) ?_
                  refine y_c1 (n := 0) C0 (by decide) dX11_bestCorner_89 (fun v_78 e_79 => ?_)
                  refine lv_iload_n C0.1 C0.2.1 dX11_bestCorner_90 rfl (lv_at hl 6 rfl) ?_
                  refine lv_iload_n C0.1 C0.2.1 dX11_bestCorner_91 rfl (lv_at hl 7 rfl) ?_
                  refine y_c1 (n := 1) C0 (by decide) dX11_bestCorner_92 (fun v_80 e_81 => ?_)
                  refine lv_iload C0.1 C0.2.1 dX11_bestCorner_93 (lv_at hl 0 rfl) ?_
                  refine xr_ishl C0 dX11_bestCorner_95 (fun v_82 e_83 => ?_)
                  refine y_ci h (y_rV (As := [.int r_32, .int v_78, .int a2, .int a3, .int v_82]) (rest := []) C0 hZ h (c_X8_fewestLefts l G Z ad _ h.2 r_32 v_78 a2 a3 v_82 (o28_10 e_35 e_36) (o28_11 e_35 e_36) (o28_23 e_79) (o28_24 e_79) (o28_83 c_23 e_27 c_28) (o28_84 c_23 e_27 c_28)) k_X8_fewestLefts q_1203 q_1204 q_1202 kSC_83 rfl rfl rfl hl.1 rfl rfl (Nat.le_of_ble_eq_true rfl) dX11_bestCorner_96 ⟨Nat.le_of_ble_eq_true rfl, Nat.le_of_ble_eq_true rfl⟩ ⟨Nat.le_of_ble_eq_true rfl, Nat.le_of_ble_eq_true rfl⟩) (fun r_87 H locs ws_84 h u_85 p_86 => ?_)
                  obtain ⟨e_88, e_89, e_90, e_91⟩ := p_86
                  replace HE : FT = g26c_X11_bestCorner R66 (xso SC ad ws_84) r_87.toInt a2.toInt a3.toInt r_32.toInt x5_55.toInt x6_54.toInt x7_53.toInt := HE.trans (by rw [e_88, e_89, e_83, e_81, e_79]; rfl)
                  refine lv_istore (lv' := [(8, .int r_87), (7, .int x7_53), (6, .int x6_54), (5, .int x5_55), (4, .int r_32), (0, .ref (ad 0)), (1, .int a1), (2, .int a2), (3, .int a3)]) C0.1 C0.2.1 dX11_bestCorner_99 hl (by decide) rfl (fun ls hl => ?_)
                  refine lv_iload C0.1 C0.2.1 dX11_bestCorner_101 (lv_at hl 0 rfl) ?_
                  refine lv_iload C0.1 C0.2.1 dX11_bestCorner_103 (lv_at hl 3 rfl) ?_
                  replace HE : FT = g27b_X11_bestCorner R66 (xso SC ad ws_84) x5_55.toInt r_87.toInt a2.toInt a3.toInt r_32.toInt x6_54.toInt x7_53.toInt := HE.trans rfl
                  refine y_icmp_ge (tgt := 116) C0 dX11_bestCorner_105 (by decide) (fun c_92 => ?_) (fun c_92 => ?_)
                  · -- 105
                    replace HE : FT = g28_X11_bestCorner R66 (xso SC ad ws_84) a2.toInt a3.toInt r_32.toInt x5_55.toInt x6_54.toInt x7_53.toInt := HE.trans (if_neg (Int.not_lt.mpr c_92))
                    refine y_inc (kp := 1) (n := 1) (fun v_93 => [(7, .int v_93), (8, .int r_87), (6, .int x6_54), (5, .int x5_55), (4, .int r_32), (0, .ref (ad 0)), (1, .int a1), (2, .int a2), (3, .int a3)]) C0 hl rfl (by decide) (by decide) (fun _ => rfl) (o28_88 b_62 b_63 hn_61 e_74 e_75 c_76 (le_min x7_53) (le_max x7_53) (le_min r_71) (le_max r_71)) (o28_89 b_62 b_63 hn_61 e_74 e_75 c_76 (le_min x7_53) (le_max x7_53) (le_min r_71) (le_max r_71)) dX11_bestCorner_116 (fun v_93 ls e_94 hl => ?_)
                    refine lv_goto (tgt := 66) C0.1 C0.2.1 dX11_bestCorner_119 (by decide) ?_
                    exact ih_59 v_93 x6_54 x5_55 _ _ _ _ (o28_90 b_62 b_63 hn_61 e_74 e_75 c_76 e_94) (o28_91 b_62 b_63 hn_61 e_74 e_75 c_76 e_94) (o28_92 b_62 b_63 hn_61 e_74 e_75 c_76 e_94) (o28_93 b_64 b_65) (o28_87 b_64 b_65) (o28_94 b_66 b_67 c_77 e_90 e_91 c_92) (o28_95 b_66 b_67 c_77 e_90 e_91 c_92) (((show FT = R66 (xso SC ad ws_84) a2.toInt a3.toInt r_32.toInt x5_55.toInt x6_54.toInt v_93.toInt from HE.trans (by rw [e_94]; rfl)).trans (by rw [hR66]))) h (Fr.tr (Fr.tr hF_57 (Fr.mono u_69 (by decide))) u_85) (lv_sub hl [0, 2, 3, 4, 5, 6, 7, 8] rfl)
                  · -- 105
                    replace HE : FT = g29_X11_bestCorner R66 (xso SC ad ws_84) a2.toInt a3.toInt r_32.toInt x7_53.toInt r_87.toInt := HE.trans (if_pos c_92)
                    refine lv_iload C0.1 C0.2.1 dX11_bestCorner_108 (lv_at hl 0 rfl) ?_
                    refine lv_istore (lv' := [(5, .int r_87), (8, .int r_87), (7, .int x7_53), (6, .int x6_54), (4, .int r_32), (0, .ref (ad 0)), (1, .int a1), (2, .int a2), (3, .int a3)]) C0.1 C0.2.1 dX11_bestCorner_110 hl (by decide) rfl (fun ls hl => ?_)
                    refine lv_iload C0.1 C0.2.1 dX11_bestCorner_112 (lv_at hl 2 rfl) ?_
                    refine lv_istore (lv' := [(6, .int x7_53), (5, .int r_87), (8, .int r_87), (7, .int x7_53), (4, .int r_32), (0, .ref (ad 0)), (1, .int a1), (2, .int a2), (3, .int a3)]) C0.1 C0.2.1 dX11_bestCorner_114 hl (by decide) rfl (fun ls hl => ?_)
                    refine y_inc (kp := 3) (n := 1) (fun v_95 => [(7, .int v_95), (6, .int x7_53), (5, .int r_87), (8, .int r_87), (4, .int r_32), (0, .ref (ad 0)), (1, .int a1), (2, .int a2), (3, .int a3)]) C0 hl rfl (by decide) (by decide) (fun _ => rfl) (o28_88 b_62 b_63 hn_61 e_74 e_75 c_76 (le_min x7_53) (le_max x7_53) (le_min r_71) (le_max r_71)) (o28_89 b_62 b_63 hn_61 e_74 e_75 c_76 (le_min x7_53) (le_max x7_53) (le_min r_71) (le_max r_71)) dX11_bestCorner_116 (fun v_95 ls e_96 hl => ?_)
                    refine lv_goto (tgt := 66) C0.1 C0.2.1 dX11_bestCorner_119 (by decide) ?_
                    exact ih_59 v_95 x7_53 r_87 _ _ _ _ (o28_90 b_62 b_63 hn_61 e_74 e_75 c_76 e_96) (o28_91 b_62 b_63 hn_61 e_74 e_75 c_76 e_96) (o28_92 b_62 b_63 hn_61 e_74 e_75 c_76 e_96) (o28_96 b_62 b_63 hn_61 e_74 e_75 c_76 e_96) (o28_97 b_62 b_63 hn_61 e_74 e_75 c_76 e_96) (o28_98 b_66 b_67 c_77 e_90 e_91 c_92) (o28_99 b_66 b_67 c_77 e_90 e_91 c_92) (((show FT = R66 (xso SC ad ws_84) a2.toInt a3.toInt r_32.toInt r_87.toInt x7_53.toInt v_95.toInt from HE.trans (by rw [e_96]; rfl)).trans (by rw [hR66]))) h (Fr.tr (Fr.tr hF_57 (Fr.mono u_69 (by decide))) u_85) (lv_sub hl [0, 1, 2, 4, 5, 6, 7, 8] rfl)
          exact lp_58 ((25 - v_51.toInt + 1).toNat) v_51 v_49 r_44 _ _ _ _ (o28_100 e_52) (o28_23 e_52) (o28_101 e_52) (o28_102 e_50) (o28_103 e_50) (o28_104 e_47 e_48) (o28_28 e_47 e_48) ((show FT = L17_X11_bestCorner (Int.toNat (25 - v_51.toInt + 1)) (xso SC ad ws_41) a2.toInt a3.toInt r_32.toInt r_44.toInt v_49.toInt v_51.toInt from HE.trans (by rw [e_52, e_50]; rfl))) h Fr.rf (lv_sub hl [0, 1, 2, 3, 4, 5, 6, 7] rfl)
        · -- 26
          replace HE : FT = g14_X11_bestCorner (xso SC ad ws_13) := HE.trans (if_pos (o28_82 c_23 e_27 c_28))
          refine y_c2 (n := (-3)) C0 (by decide) dX11_bestCorner_29 (fun v_97 e_98 => ?_)
          replace HE : FT = ((xso SC ad ws_13), v_97.toInt) := HE.trans (by rw [e_98]; rfl)
          rw [hQ]
          exact y_iret C0 h (Fr.tr (Fr.mono u_2 (by decide)) (Fr.mono u_14 (by decide))) ⟨(congrArg Prod.fst (HE.symm.trans hFT)), (congrArg Prod.snd (HE.symm.trans hFT)), (o28_3 e_98), (o28_79 e_98), (Rel.fr (M := []) hR (Fr.tr u_2 u_14) (by decide) (by decide)), (Hok.fr (M := []) hH (Fr.tr u_2 u_14) (by decide))⟩ dX11_bestCorner_31
    · -- 13
      replace HE : FT = g8_X11_bestCorner (xso SC ad ws_13) := HE.trans (if_pos c_22)
      refine y_c2 (n := (-2)) C0 (by decide) dX11_bestCorner_16 (fun v_99 e_100 => ?_)
      replace HE : FT = ((xso SC ad ws_13), v_99.toInt) := HE.trans (by rw [e_100]; rfl)
      rw [hQ]
      exact y_iret C0 h (Fr.tr (Fr.mono u_2 (by decide)) (Fr.mono u_14 (by decide))) ⟨(congrArg Prod.fst (HE.symm.trans hFT)), (congrArg Prod.snd (HE.symm.trans hFT)), (o28_1 e_100), (o28_78 e_100), (Rel.fr (M := []) hR (Fr.tr u_2 u_14) (by decide) (by decide)), (Hok.fr (M := []) hH (Fr.tr u_2 u_14) (by decide))⟩ dX11_bestCorner_18
noncomputable def g3_X11_dealing (s : XS) : XR := (s, ((-2)))
noncomputable def g6_X11_dealing (s : XS) : XR := (s, ((-2)))
noncomputable def g25_X11_dealing (s : XS) (x6_42 : Int) : XR := (s, x6_42)
noncomputable def g26_X11_dealing (s : XS) (x5_43 : Int) : XR := (s, x5_43)
noncomputable def g24b_X11_dealing (s : XS) (a3 : Int) (x5_43 : Int) (x6_42 : Int) : XR := if a3 = 1 then g26_X11_dealing s x5_43 else g25_X11_dealing s x6_42
noncomputable def g22_X11_dealing (s : XS) (a3 : Int) (x5_43 : Int) (x6_42 : Int) : XR := g24b_X11_dealing s a3 x5_43 x6_42
noncomputable def g23_X11_dealing (s : XS) (x4_44 : Int) : XR := (s, x4_44)
noncomputable def g21b_X11_dealing (s : XS) (a3 : Int) (x4_44 : Int) (x5_43 : Int) (x6_42 : Int) : XR := if a3 = 0 then g23_X11_dealing s x4_44 else g22_X11_dealing s a3 x5_43 x6_42
noncomputable def g19_X11_dealing (s : XS) (a3 : Int) (x4_44 : Int) (x5_43 : Int) (x6_42 : Int) : XR := g21b_X11_dealing s a3 x4_44 x5_43 x6_42
noncomputable def g30_X11_dealing (R90 : XS → Int → Int → Int → Int → Int → XR) (s : XS) (a3 : Int) (x4_71 : Int) (x5_70 : Int) (x6_69 : Int) (x7_41 : Int) : XR := R90 s a3 x4_71 x5_70 x6_69 ((x7_41 + 1))
noncomputable def g33_X11_dealing (R90 : XS → Int → Int → Int → Int → Int → XR) (R103 : XS → Int → Int → Int → Int → Int → Int → XR) (s : XS) (a3 : Int) (x4_71 : Int) (x5_70 : Int) (x6_69 : Int) (x7_41 : Int) (x8_68 : Int) : XR := R103 s a3 x4_71 x5_70 x6_69 x7_41 ((x8_68 + 1))
noncomputable def g34_X11_dealing (R90 : XS → Int → Int → Int → Int → Int → XR) (R103 : XS → Int → Int → Int → Int → Int → Int → XR) (s : XS) (a3 : Int) (x7_41 : Int) (x8_68 : Int) : XR := R103 s a3 ((Xisub (s 1 208 (Int.toNat x8_68)) (s 1 208 (Int.toNat x7_41)))) x7_41 x8_68 x7_41 ((x8_68 + 1))
noncomputable def g32b_X11_dealing (R90 : XS → Int → Int → Int → Int → Int → XR) (R103 : XS → Int → Int → Int → Int → Int → Int → XR) (s : XS) (x4_71 : Int) (v_97 : Int) (a3 : Int) (x5_70 : Int) (x6_69 : Int) (x7_41 : Int) (x8_68 : Int) : XR := if x4_71 < v_97 then g34_X11_dealing R90 R103 s a3 x7_41 x8_68 else g33_X11_dealing R90 R103 s a3 x4_71 x5_70 x6_69 x7_41 x8_68
noncomputable def g31_X11_dealing (R90 : XS → Int → Int → Int → Int → Int → XR) (R103 : XS → Int → Int → Int → Int → Int → Int → XR) (s : XS) (a3 : Int) (x4_71 : Int) (x5_70 : Int) (x6_69 : Int) (x7_41 : Int) (x8_68 : Int) : XR := g32b_X11_dealing R90 R103 s x4_71 ((Xisub (s 1 208 (Int.toNat x8_68)) (s 1 208 (Int.toNat x7_41)))) a3 x5_70 x6_69 x7_41 x8_68
noncomputable def g29b_X11_dealing (R90 : XS → Int → Int → Int → Int → Int → XR) (R103 : XS → Int → Int → Int → Int → Int → Int → XR) (s : XS) (x8_68 : Int) (a3 : Int) (x4_71 : Int) (x5_70 : Int) (x6_69 : Int) (x7_41 : Int) : XR := if x8_68 < 24 then g31_X11_dealing R90 R103 s a3 x4_71 x5_70 x6_69 x7_41 x8_68 else g30_X11_dealing R90 s a3 x4_71 x5_70 x6_69 x7_41
noncomputable def g28l_X11_dealing (R90 : XS → Int → Int → Int → Int → Int → XR) (R103 : XS → Int → Int → Int → Int → Int → Int → XR) (s : XS) (a3 : Int) (x4_71 : Int) (x5_70 : Int) (x6_69 : Int) (x7_41 : Int) (x8_68 : Int) : XR := g29b_X11_dealing R90 R103 s x8_68 a3 x4_71 x5_70 x6_69 x7_41
noncomputable def L27_X11_dealing (R90 : XS → Int → Int → Int → Int → Int → XR) (n : Nat) : XS → Int → Int → Int → Int → Int → Int → XR := Nat.rec (motive := fun _ => XS → Int → Int → Int → Int → Int → Int → XR) (fun s _ _ _ _ _ _ => (s, 0)) (fun _ R103 => g28l_X11_dealing R90 R103) n
noncomputable def g20_X11_dealing (R90 : XS → Int → Int → Int → Int → Int → XR) (s : XS) (a3 : Int) (x4_44 : Int) (x5_43 : Int) (x6_42 : Int) (x7_41 : Int) : XR := L27_X11_dealing R90 (Int.toNat (24 - (x7_41 + 1) + 1)) s a3 x4_44 x5_43 x6_42 x7_41 ((x7_41 + 1))
noncomputable def g18b_X11_dealing (R90 : XS → Int → Int → Int → Int → Int → XR) (s : XS) (x7_41 : Int) (a3 : Int) (x4_44 : Int) (x5_43 : Int) (x6_42 : Int) : XR := if x7_41 < 24 then g20_X11_dealing R90 s a3 x4_44 x5_43 x6_42 x7_41 else g19_X11_dealing s a3 x4_44 x5_43 x6_42
noncomputable def g17l_X11_dealing (R90 : XS → Int → Int → Int → Int → Int → XR) (s : XS) (a3 : Int) (x4_44 : Int) (x5_43 : Int) (x6_42 : Int) (x7_41 : Int) : XR := g18b_X11_dealing R90 s x7_41 a3 x4_44 x5_43 x6_42
noncomputable def L16_X11_dealing (n : Nat) : XS → Int → Int → Int → Int → Int → XR := Nat.rec (motive := fun _ => XS → Int → Int → Int → Int → Int → XR) (fun s _ _ _ _ _ => (s, 0)) (fun _ R90 => g17l_X11_dealing R90) n
noncomputable def g14_X11_dealing (s : XS) (a3 : Int) : XR := L16_X11_dealing (Int.toNat (24 - 0 + 1)) s a3 0 (((-1))) (((-1))) 0
noncomputable def g36w_X11_dealing (R24 : XS → Int → Int → Int → Int → XR) (s : XS) (a1 : Int) (a2 : Int) (a3 : Int) (x4_21 : Int) : XR := R24 s a1 a2 a3 ((x4_21 + 1))
noncomputable def g35c_X11_dealing (R24 : XS → Int → Int → Int → Int → XR) (s : XS) (r_129 : Int) (x4_21 : Int) (a1 : Int) (a2 : Int) (a3 : Int) : XR := g36w_X11_dealing R24 (xup s 1 208 (Int.toNat x4_21) (r_129)) a1 a2 a3 x4_21
noncomputable def g15_X11_dealing (R24 : XS → Int → Int → Int → Int → XR) (s : XS) (a1 : Int) (a2 : Int) (a3 : Int) (x4_21 : Int) : XR := g35c_X11_dealing R24 ((f_X0_cost s 1 a1 (Xiadd (s 0 10 8) x4_21) (s 1 16 (Int.toNat a1)) a2).1) (((f_X0_cost s 1 a1 (Xiadd (s 0 10 8) x4_21) (s 1 16 (Int.toNat a1)) a2).2)) x4_21 a1 a2 a3
noncomputable def g13b_X11_dealing (R24 : XS → Int → Int → Int → Int → XR) (s : XS) (x4_21 : Int) (a1 : Int) (a2 : Int) (a3 : Int) : XR := if x4_21 < 24 then g15_X11_dealing R24 s a1 a2 a3 x4_21 else g14_X11_dealing s a3
noncomputable def g12l_X11_dealing (R24 : XS → Int → Int → Int → Int → XR) (s : XS) (a1 : Int) (a2 : Int) (a3 : Int) (x4_21 : Int) : XR := g13b_X11_dealing R24 s x4_21 a1 a2 a3
noncomputable def L11_X11_dealing (n : Nat) : XS → Int → Int → Int → Int → XR := Nat.rec (motive := fun _ => XS → Int → Int → Int → Int → XR) (fun s _ _ _ _ => (s, 0)) (fun _ R24 => g12l_X11_dealing R24) n
noncomputable def g9_X11_dealing (s : XS) (a1 : Int) (a2 : Int) (a3 : Int) : XR := L11_X11_dealing (Int.toNat (24 - 0 + 1)) s a1 a2 a3 0
noncomputable def g10_X11_dealing (s : XS) : XR := (s, ((-2)))
noncomputable def g8b_X11_dealing (s : XS) (a3 : Int) (a1 : Int) (a2 : Int) : XR := if 2 < a3 then g10_X11_dealing s else g9_X11_dealing s a1 a2 a3
noncomputable def g7_X11_dealing (s : XS) (a1 : Int) (a2 : Int) (a3 : Int) : XR := g8b_X11_dealing s a3 a1 a2
noncomputable def g5b_X11_dealing (s : XS) (a3 : Int) (a1 : Int) (a2 : Int) : XR := if a3 < 0 then g6_X11_dealing s else g7_X11_dealing s a1 a2 a3
noncomputable def g4_X11_dealing (s : XS) (a1 : Int) (a2 : Int) (a3 : Int) : XR := g5b_X11_dealing s a3 a1 a2
noncomputable def g2b_X11_dealing (s : XS) (r_4 : Int) (a1 : Int) (a2 : Int) (a3 : Int) : XR := if r_4 = 0 then g3_X11_dealing s else g4_X11_dealing s a1 a2 a3
noncomputable def g1c_X11_dealing (s : XS) (r_4 : Int) (a1 : Int) (a2 : Int) (a3 : Int) : XR := g2b_X11_dealing s r_4 a1 a2 a3
noncomputable def f_X11_dealing (s : XS) (a1 : Int) (a2 : Int) (a3 : Int) : XR := g1c_X11_dealing ((f_X11_isStand s a1 a2).1) (((f_X11_isStand s a1 a2).2)) a1 a2 a3
set_option maxHeartbeats 4000000 in
set_option maxRecDepth 100000 in
theorem c_X11_dealing (l : Launch) (G : GG) (Z : RZ) (ad : Nat → Nat) (ws0 : va_W) (hT : Ty G SC ad ws0) (a1 : Int32) (a2 : Int32) (a3 : Int32) (hR : Rel ws0) (hH : Hok ws0) : Mq l yX11_dealing cX11_dealing 9 (some .int) 4 G Z [.ref (ad 0), .int a1, .int a2, .int a3] ws0 (PI G SC ad [4, 5, 49] ws0 (fun r u => (xso SC ad u = (f_X11_dealing (xso SC ad ws0) a1.toInt a2.toInt a3.toInt).1) ∧ (r.toInt = (f_X11_dealing (xso SC ad ws0) a1.toInt a2.toInt a3.toInt).2) ∧ (Rel u) ∧ (Hok u))) := by
  refine Mq.start (by decide) (Nat.le_of_ble_eq_true rfl) ?_
  intro p e s m below meth c A ls C0 hZ h hl
  have hl : lv_has ls 9 [(0, .ref (ad 0)), (1, .int a1), (2, .int a2), (3, .int a3)] := hl
  have h : Wt G SC ad A s s.heap [] ws0 := ⟨h, hT⟩
  obtain ⟨args, hargs⟩ : ∃ z, z = ([.ref (ad 0), .int a1, .int a2, .int a3] : List Value).toArray := ⟨_, rfl⟩
  rw [← hargs] at C0 ⊢
  have C0 : Cx p s m args meth c RX11 cX11_dealing 9 (some .int) := C0
  obtain ⟨Q, hQ⟩ : ∃ z, z = MQ below ((PI G SC ad [4, 5, 49] ws0 (fun r u => (xso SC ad u = (f_X11_dealing (xso SC ad ws0) a1.toInt a2.toInt a3.toInt).1) ∧ (r.toInt = (f_X11_dealing (xso SC ad ws0) a1.toInt a2.toInt a3.toInt).2) ∧ (Rel u) ∧ (Hok u))) A) args s 0 0 A := ⟨_, rfl⟩
  rw [← hQ]
  obtain ⟨FT, hFT⟩ : ∃ z, z = f_X11_dealing (xso SC ad ws0) a1.toInt a2.toInt a3.toInt := ⟨_, rfl⟩
  have HE : FT = f_X11_dealing (xso SC ad ws0) a1.toInt a2.toInt a3.toInt := hFT
  refine lv_aload_n C0.1 C0.2.1 dX11_dealing_0 rfl (lv_at hl 0 rfl) ?_
  refine lv_iload_n C0.1 C0.2.1 dX11_dealing_1 rfl (lv_at hl 1 rfl) ?_
  refine lv_iload_n C0.1 C0.2.1 dX11_dealing_2 rfl (lv_at hl 2 rfl) ?_
  refine y_ci h (y_rV (As := [.int a1, .int a2]) (rest := []) C0 hZ h (c_X11_isStand l G Z ad _ h.2 a1 a2) k_X11_isStand q_911 q_24 q_909 kSC_0 rfl rfl rfl hl.1 rfl rfl (Nat.le_of_ble_eq_true rfl) dX11_dealing_3 ⟨Nat.le_of_ble_eq_true rfl, Nat.le_of_ble_eq_true rfl⟩ ⟨Nat.le_of_ble_eq_true rfl, Nat.le_of_ble_eq_true rfl⟩) (fun r_4 H locs ws_1 h u_2 p_3 => ?_)
  obtain ⟨e_5, e_6, e_7, e_8, e_9⟩ := p_3
  replace HE : FT = g1c_X11_dealing (xso SC ad ws_1) r_4.toInt a1.toInt a2.toInt a3.toInt := HE.trans (by rw [e_5, e_6]; rfl)
  replace HE : FT = g2b_X11_dealing (xso SC ad ws_1) r_4.toInt a1.toInt a2.toInt a3.toInt := HE.trans rfl
  refine y_if_eq (tgt := 18) C0 dX11_dealing_6 (by decide) (fun c_10 => ?_) (fun c_10 => ?_)
  · -- 6
    replace HE : FT = g3_X11_dealing (xso SC ad ws_1) := HE.trans (if_pos c_10)
    refine y_c2 (n := (-2)) C0 (by decide) dX11_dealing_18 (fun v_11 e_12 => ?_)
    replace HE : FT = ((xso SC ad ws_1), v_11.toInt) := HE.trans (by rw [e_12]; rfl)
    rw [hQ]
    exact y_iret C0 h (Fr.mono u_2 (by decide)) ⟨(congrArg Prod.fst (HE.symm.trans hFT)), (congrArg Prod.snd (HE.symm.trans hFT)), (Rel.fr (M := []) hR u_2 (by decide) (by decide)), (Hok.fr (M := []) hH u_2 (by decide))⟩ dX11_dealing_20
  · -- 6
    replace HE : FT = g4_X11_dealing (xso SC ad ws_1) a1.toInt a2.toInt a3.toInt := HE.trans (if_neg c_10)
    refine lv_iload_n C0.1 C0.2.1 dX11_dealing_9 rfl (lv_at hl 3 rfl) ?_
    replace HE : FT = g5b_X11_dealing (xso SC ad ws_1) a3.toInt a1.toInt a2.toInt := HE.trans rfl
    refine y_if_lt (tgt := 18) C0 dX11_dealing_10 (by decide) (fun c_13 => ?_) (fun c_13 => ?_)
    · -- 10
      replace HE : FT = g6_X11_dealing (xso SC ad ws_1) := HE.trans (if_pos c_13)
      refine y_c2 (n := (-2)) C0 (by decide) dX11_dealing_18 (fun v_14 e_15 => ?_)
      replace HE : FT = ((xso SC ad ws_1), v_14.toInt) := HE.trans (by rw [e_15]; rfl)
      rw [hQ]
      exact y_iret C0 h (Fr.mono u_2 (by decide)) ⟨(congrArg Prod.fst (HE.symm.trans hFT)), (congrArg Prod.snd (HE.symm.trans hFT)), (Rel.fr (M := []) hR u_2 (by decide) (by decide)), (Hok.fr (M := []) hH u_2 (by decide))⟩ dX11_dealing_20
    · -- 10
      replace HE : FT = g7_X11_dealing (xso SC ad ws_1) a1.toInt a2.toInt a3.toInt := HE.trans (if_neg (Int.not_lt.mpr c_13))
      refine lv_iload_n C0.1 C0.2.1 dX11_dealing_13 rfl (lv_at hl 3 rfl) ?_
      refine y_c1 (n := 2) C0 (by decide) dX11_dealing_14 (fun v_16 e_17 => ?_)
      replace HE : FT = g8b_X11_dealing (xso SC ad ws_1) a3.toInt a1.toInt a2.toInt := HE.trans rfl
      refine y_icmp_le (tgt := 21) C0 dX11_dealing_15 (by decide) (fun c_18 => ?_) (fun c_18 => ?_)
      · -- 15
        replace HE : FT = g9_X11_dealing (xso SC ad ws_1) a1.toInt a2.toInt a3.toInt := HE.trans (if_neg (o28_106 c_13 e_17 c_18))
        refine y_c1 (n := 0) C0 (by decide) dX11_dealing_21 (fun v_19 e_20 => ?_)
        refine lv_istore (lv' := [(4, .int v_19), (0, .ref (ad 0)), (1, .int a1), (2, .int a2), (3, .int a3)]) C0.1 C0.2.1 dX11_dealing_22 hl (by decide) rfl (fun ls hl => ?_)
        have lp_24 : ∀ (n_26 : Nat) (x4_21 : Int32) (H : Heap) (locs : List Loc) (ls : Array Slot) (ws_22 : va_W), 24 - x4_21.toInt < (n_26 : Int) → 0 ≤ x4_21.toInt → x4_21.toInt ≤ 24 → (FT = L11_X11_dealing n_26 (xso SC ad ws_22) a1.toInt a2.toInt a3.toInt x4_21.toInt) → Wt G SC ad A s H locs ws_22 → Fr SC [4, 5, 49] ws_1 ws_22 → lv_has ls 9 [(4, .int x4_21), (0, .ref (ad 0)), (1, .int a1), (2, .int a2), (3, .int a3)] → W p l e (rmd 4 0 0) s m args below meth c H locs 0 0 Q (F0 m 24 ls []) := by
          intro n_26
          induction n_26 with
          | zero => intro x4_21 H locs ls ws_22 hn_27 b_28 b_29 HE h hF_23 hl; exact ((o28_108 b_28 b_29 hn_27)).elim
          | succ n_26 ih_25 =>
            intro x4_21 H locs ls ws_22 hn_27 b_28 b_29 HE h hF_23 hl
            obtain ⟨R24, hR24⟩ : ∃ z, z = L11_X11_dealing n_26 := ⟨_, rfl⟩
            replace HE : FT = g12l_X11_dealing R24 (xso SC ad ws_22) a1.toInt a2.toInt a3.toInt x4_21.toInt := HE.trans (by rw [hR24]; rfl)
            refine lv_iload C0.1 C0.2.1 dX11_dealing_24 (lv_at hl 0 rfl) ?_
            refine y_c2 (n := 24) C0 (by decide) dX11_dealing_26 (fun v_30 e_31 => ?_)
            replace HE : FT = g13b_X11_dealing R24 (xso SC ad ws_22) x4_21.toInt a1.toInt a2.toInt a3.toInt := HE.trans rfl
            refine y_icmp_ge (tgt := 78) C0 dX11_dealing_28 (by decide) (fun c_32 => ?_) (fun c_32 => ?_)
            · -- 28
              replace HE : FT = g14_X11_dealing (xso SC ad ws_22) a3.toInt := HE.trans (if_neg (o28_110 b_28 b_29 hn_27 e_31 c_32))
              refine y_c1 (n := 0) C0 (by decide) dX11_dealing_78 (fun v_33 e_34 => ?_)
              refine lv_istore (lv' := [(4, .int v_33), (0, .ref (ad 0)), (1, .int a1), (2, .int a2), (3, .int a3)]) C0.1 C0.2.1 dX11_dealing_79 hl (by decide) rfl (fun ls hl => ?_)
              refine y_c1 (n := (-1)) C0 (by decide) dX11_dealing_81 (fun v_35 e_36 => ?_)
              refine lv_istore (lv' := [(5, .int v_35), (4, .int v_33), (0, .ref (ad 0)), (1, .int a1), (2, .int a2), (3, .int a3)]) C0.1 C0.2.1 dX11_dealing_82 hl (by decide) rfl (fun ls hl => ?_)
              refine y_c1 (n := (-1)) C0 (by decide) dX11_dealing_84 (fun v_37 e_38 => ?_)
              refine lv_istore (lv' := [(6, .int v_37), (5, .int v_35), (4, .int v_33), (0, .ref (ad 0)), (1, .int a1), (2, .int a2), (3, .int a3)]) C0.1 C0.2.1 dX11_dealing_85 hl (by decide) rfl (fun ls hl => ?_)
              refine y_c1 (n := 0) C0 (by decide) dX11_dealing_87 (fun v_39 e_40 => ?_)
              refine lv_istore (lv' := [(7, .int v_39), (6, .int v_37), (5, .int v_35), (4, .int v_33), (0, .ref (ad 0)), (1, .int a1), (2, .int a2), (3, .int a3)]) C0.1 C0.2.1 dX11_dealing_88 hl (by decide) rfl (fun ls hl => ?_)
              have lp_47 : ∀ (n_49 : Nat) (x7_41 : Int32) (x6_42 : Int32) (x5_43 : Int32) (x4_44 : Int32) (H : Heap) (locs : List Loc) (ls : Array Slot) (ws_45 : va_W), 24 - x7_41.toInt < (n_49 : Int) → 0 ≤ x7_41.toInt → x7_41.toInt ≤ 24 → (-1) ≤ x6_42.toInt → x6_42.toInt ≤ 23 → (-1) ≤ x5_43.toInt → x5_43.toInt ≤ 23 → (FT = L16_X11_dealing n_49 (xso SC ad ws_45) a3.toInt x4_44.toInt x5_43.toInt x6_42.toInt x7_41.toInt) → Wt G SC ad A s H locs ws_45 → Fr SC [] ws_22 ws_45 → lv_has ls 9 [(7, .int x7_41), (6, .int x6_42), (5, .int x5_43), (4, .int x4_44), (0, .ref (ad 0)), (1, .int a1), (2, .int a2), (3, .int a3)] → W p l e (rmd 4 0 0) s m args below meth c H locs 0 0 Q (F0 m 90 ls []) := by
                intro n_49
                induction n_49 with
                | zero => intro x7_41 x6_42 x5_43 x4_44 H locs ls ws_45 hn_50 b_51 b_52 b_53 b_54 b_55 b_56 HE h hF_46 hl; exact ((o28_108 b_51 b_52 hn_50)).elim
                | succ n_49 ih_48 =>
                  intro x7_41 x6_42 x5_43 x4_44 H locs ls ws_45 hn_50 b_51 b_52 b_53 b_54 b_55 b_56 HE h hF_46 hl
                  obtain ⟨R90, hR90⟩ : ∃ z, z = L16_X11_dealing n_49 := ⟨_, rfl⟩
                  replace HE : FT = g17l_X11_dealing R90 (xso SC ad ws_45) a3.toInt x4_44.toInt x5_43.toInt x6_42.toInt x7_41.toInt := HE.trans (by rw [hR90]; rfl)
                  refine lv_iload C0.1 C0.2.1 dX11_dealing_90 (lv_at hl 0 rfl) ?_
                  refine y_c2 (n := 24) C0 (by decide) dX11_dealing_92 (fun v_57 e_58 => ?_)
                  replace HE : FT = g18b_X11_dealing R90 (xso SC ad ws_45) x7_41.toInt a3.toInt x4_44.toInt x5_43.toInt x6_42.toInt := HE.trans rfl
                  refine y_icmp_ge (tgt := 167) C0 dX11_dealing_94 (by decide) (fun c_59 => ?_) (fun c_59 => ?_)
                  · -- 94
                    replace HE : FT = g19_X11_dealing (xso SC ad ws_45) a3.toInt x4_44.toInt x5_43.toInt x6_42.toInt := HE.trans (if_neg (o28_110 b_51 b_52 hn_50 e_58 c_59))
                    refine lv_iload_n C0.1 C0.2.1 dX11_dealing_167 rfl (lv_at hl 7 rfl) ?_
                    replace HE : FT = g21b_X11_dealing (xso SC ad ws_45) a3.toInt x4_44.toInt x5_43.toInt x6_42.toInt := HE.trans rfl
                    refine y_if_ne (tgt := 176) C0 dX11_dealing_168 (by decide) (fun c_60 => ?_) (fun c_60 => ?_)
                    · -- 168
                      replace HE : FT = g22_X11_dealing (xso SC ad ws_45) a3.toInt x5_43.toInt x6_42.toInt := HE.trans (if_neg c_60)
                      refine lv_iload_n C0.1 C0.2.1 dX11_dealing_176 rfl (lv_at hl 7 rfl) ?_
                      refine y_c1 (n := 1) C0 (by decide) dX11_dealing_177 (fun v_61 e_62 => ?_)
                      replace HE : FT = g24b_X11_dealing (xso SC ad ws_45) a3.toInt x5_43.toInt x6_42.toInt := HE.trans rfl
                      refine y_icmp_ne (tgt := 186) C0 dX11_dealing_178 (by decide) (fun c_63 => ?_) (fun c_63 => ?_)
                      · -- 178
                        replace HE : FT = g25_X11_dealing (xso SC ad ws_45) x6_42.toInt := HE.trans (if_neg (o28_112 c_13 e_17 c_18 c_60 e_62 c_63))
                        refine lv_iload C0.1 C0.2.1 dX11_dealing_186 (lv_at hl 1 rfl) ?_
                        replace HE : FT = ((xso SC ad ws_45), x6_42.toInt) := HE.trans rfl
                        rw [hQ]
                        exact y_iret C0 h (Fr.tr (Fr.tr (Fr.mono u_2 (by decide)) hF_23) (Fr.mono hF_46 (by decide))) ⟨(congrArg Prod.fst (HE.symm.trans hFT)), (congrArg Prod.snd (HE.symm.trans hFT)), (Rel.fr (M := [4, 5, 49]) hR (Fr.tr (Fr.tr (Fr.mono u_2 (by decide)) hF_23) (Fr.mono hF_46 (by decide))) (by decide) (by decide)), (Hok.fr (M := [4, 5, 49]) hH (Fr.tr (Fr.tr (Fr.mono u_2 (by decide)) hF_23) (Fr.mono hF_46 (by decide))) (by decide))⟩ dX11_dealing_188
                      · -- 178
                        replace HE : FT = g26_X11_dealing (xso SC ad ws_45) x5_43.toInt := HE.trans (if_pos (o28_113 c_13 e_17 c_18 c_60 e_62 c_63))
                        refine lv_iload C0.1 C0.2.1 dX11_dealing_181 (lv_at hl 2 rfl) ?_
                        refine lv_goto (tgt := 188) C0.1 C0.2.1 dX11_dealing_183 (by decide) ?_
                        replace HE : FT = ((xso SC ad ws_45), x5_43.toInt) := HE.trans rfl
                        rw [hQ]
                        exact y_iret C0 h (Fr.tr (Fr.tr (Fr.mono u_2 (by decide)) hF_23) (Fr.mono hF_46 (by decide))) ⟨(congrArg Prod.fst (HE.symm.trans hFT)), (congrArg Prod.snd (HE.symm.trans hFT)), (Rel.fr (M := [4, 5, 49]) hR (Fr.tr (Fr.tr (Fr.mono u_2 (by decide)) hF_23) (Fr.mono hF_46 (by decide))) (by decide) (by decide)), (Hok.fr (M := [4, 5, 49]) hH (Fr.tr (Fr.tr (Fr.mono u_2 (by decide)) hF_23) (Fr.mono hF_46 (by decide))) (by decide))⟩ dX11_dealing_188
                    · -- 168
                      replace HE : FT = g23_X11_dealing (xso SC ad ws_45) x4_44.toInt := HE.trans (if_pos c_60)
                      refine lv_iload C0.1 C0.2.1 dX11_dealing_171 (lv_at hl 3 rfl) ?_
                      refine lv_goto (tgt := 188) C0.1 C0.2.1 dX11_dealing_173 (by decide) ?_
                      replace HE : FT = ((xso SC ad ws_45), x4_44.toInt) := HE.trans rfl
                      rw [hQ]
                      exact y_iret C0 h (Fr.tr (Fr.tr (Fr.mono u_2 (by decide)) hF_23) (Fr.mono hF_46 (by decide))) ⟨(congrArg Prod.fst (HE.symm.trans hFT)), (congrArg Prod.snd (HE.symm.trans hFT)), (Rel.fr (M := [4, 5, 49]) hR (Fr.tr (Fr.tr (Fr.mono u_2 (by decide)) hF_23) (Fr.mono hF_46 (by decide))) (by decide) (by decide)), (Hok.fr (M := [4, 5, 49]) hH (Fr.tr (Fr.tr (Fr.mono u_2 (by decide)) hF_23) (Fr.mono hF_46 (by decide))) (by decide))⟩ dX11_dealing_188
                  · -- 94
                    replace HE : FT = g20_X11_dealing R90 (xso SC ad ws_45) a3.toInt x4_44.toInt x5_43.toInt x6_42.toInt x7_41.toInt := HE.trans (if_pos (o28_111 b_51 b_52 hn_50 e_58 c_59))
                    refine lv_iload C0.1 C0.2.1 dX11_dealing_97 (lv_at hl 0 rfl) ?_
                    refine y_c1 (n := 1) C0 (by decide) dX11_dealing_99 (fun v_64 e_65 => ?_)
                    refine y_add C0 (o28_114 b_51 b_52 hn_50 e_58 c_59 e_65 (le_min x7_41) (le_max x7_41) (le_min v_64) (le_max v_64) (le_min v_57) (le_max v_57)) (o28_115 b_51 b_52 hn_50 e_58 c_59 e_65 (le_min x7_41) (le_max x7_41) (le_min v_64) (le_max v_64) (le_min v_57) (le_max v_57)) dX11_dealing_100 (fun v_66 e_67 => ?_)
                    refine lv_istore (lv' := [(8, .int v_66), (7, .int x7_41), (6, .int x6_42), (5, .int x5_43), (4, .int x4_44), (0, .ref (ad 0)), (1, .int a1), (2, .int a2), (3, .int a3)]) C0.1 C0.2.1 dX11_dealing_101 hl (by decide) rfl (fun ls hl => ?_)
                    have lp_74 : ∀ (n_76 : Nat) (x8_68 : Int32) (x6_69 : Int32) (x5_70 : Int32) (x4_71 : Int32) (H : Heap) (locs : List Loc) (ls : Array Slot) (ws_72 : va_W), 24 - x8_68.toInt < (n_76 : Int) → 1 ≤ x8_68.toInt → x8_68.toInt ≤ 24 → (-1) ≤ x6_69.toInt → x6_69.toInt ≤ 23 → (-1) ≤ x5_70.toInt → x5_70.toInt ≤ 23 → (FT = L27_X11_dealing R90 n_76 (xso SC ad ws_72) a3.toInt x4_71.toInt x5_70.toInt x6_69.toInt x7_41.toInt x8_68.toInt) → Wt G SC ad A s H locs ws_72 → Fr SC [] ws_45 ws_72 → lv_has ls 9 [(8, .int x8_68), (7, .int x7_41), (6, .int x6_69), (5, .int x5_70), (4, .int x4_71), (0, .ref (ad 0)), (1, .int a1), (2, .int a2), (3, .int a3)] → W p l e (rmd 4 0 0) s m args below meth c H locs 0 0 Q (F0 m 103 ls []) := by
                      intro n_76
                      induction n_76 with
                      | zero => intro x8_68 x6_69 x5_70 x4_71 H locs ls ws_72 hn_77 b_78 b_79 b_80 b_81 b_82 b_83 HE h hF_73 hl; exact ((o28_116 b_78 b_79 hn_77)).elim
                      | succ n_76 ih_75 =>
                        intro x8_68 x6_69 x5_70 x4_71 H locs ls ws_72 hn_77 b_78 b_79 b_80 b_81 b_82 b_83 HE h hF_73 hl
                        obtain ⟨R103, hR103⟩ : ∃ z, z = L27_X11_dealing R90 n_76 := ⟨_, rfl⟩
                        replace HE : FT = g28l_X11_dealing R90 R103 (xso SC ad ws_72) a3.toInt x4_71.toInt x5_70.toInt x6_69.toInt x7_41.toInt x8_68.toInt := HE.trans (by rw [hR103]; rfl)
                        refine lv_iload C0.1 C0.2.1 dX11_dealing_103 (lv_at hl 0 rfl) ?_
                        refine y_c2 (n := 24) C0 (by decide) dX11_dealing_105 (fun v_84 e_85 => ?_)
                        replace HE : FT = g29b_X11_dealing R90 R103 (xso SC ad ws_72) x8_68.toInt a3.toInt x4_71.toInt x5_70.toInt x6_69.toInt x7_41.toInt := HE.trans rfl
                        refine y_icmp_ge (tgt := 161) C0 dX11_dealing_107 (by decide) (fun c_86 => ?_) (fun c_86 => ?_)
                        · -- 107
                          replace HE : FT = g30_X11_dealing R90 (xso SC ad ws_72) a3.toInt x4_71.toInt x5_70.toInt x6_69.toInt x7_41.toInt := HE.trans (if_neg (o28_117 b_78 b_79 hn_77 e_85 c_86))
                          refine y_inc (kp := 1) (n := 1) (fun v_87 => [(7, .int v_87), (8, .int x8_68), (6, .int x6_69), (5, .int x5_70), (4, .int x4_71), (0, .ref (ad 0)), (1, .int a1), (2, .int a2), (3, .int a3)]) C0 hl rfl (by decide) (by decide) (fun _ => rfl) (o28_119 b_51 b_52 hn_50 e_58 c_59 e_65 e_67 (le_min x7_41) (le_max x7_41) (le_min v_57) (le_max v_57) (le_min v_64) (le_max v_64) (le_min v_66) (le_max v_66)) (o28_120 b_51 b_52 hn_50 e_58 c_59 e_65 e_67 (le_min x7_41) (le_max x7_41) (le_min v_57) (le_max v_57) (le_min v_64) (le_max v_64) (le_min v_66) (le_max v_66)) dX11_dealing_161 (fun v_87 ls e_88 hl => ?_)
                          refine lv_goto (tgt := 90) C0.1 C0.2.1 dX11_dealing_164 (by decide) ?_
                          exact ih_48 v_87 x6_69 x5_70 x4_71 _ _ _ _ (o28_121 b_51 b_52 hn_50 e_58 c_59 e_65 e_67 e_88) (o28_122 b_51 b_52 hn_50 e_58 c_59 e_65 e_67 e_88) (o28_123 b_51 b_52 hn_50 e_58 c_59 e_65 e_67 e_88) (o28_124 b_80 b_81) (o28_125 b_80 b_81) (o28_124 b_82 b_83) (o28_125 b_82 b_83) (((show FT = R90 (xso SC ad ws_72) a3.toInt x4_71.toInt x5_70.toInt x6_69.toInt v_87.toInt from HE.trans (by rw [e_88]; rfl)).trans (by rw [hR90]))) h (Fr.tr hF_46 hF_73) (lv_sub hl [0, 2, 3, 4, 5, 6, 7, 8] rfl)
                        · -- 107
                          replace HE : FT = g31_X11_dealing R90 R103 (xso SC ad ws_72) a3.toInt x4_71.toInt x5_70.toInt x6_69.toInt x7_41.toInt x8_68.toInt := HE.trans (if_pos (o28_118 b_78 b_79 hn_77 e_85 c_86))
                          refine lv_aload_n C0.1 C0.2.1 dX11_dealing_110 rfl (lv_at hl 5 rfl) ?_
                          refine tg_X11_dayPrices C0 h kSC_0 q_530 dX11_dealing_111 ?_
                          refine lv_iload C0.1 C0.2.1 dX11_dealing_114 (lv_at hl 0 rfl) ?_
                          refine y_iald C0 h kSC_208 rfl (by decide) (o28_126 b_78 b_79 hn_77 e_85 c_86) (o28_127 b_78 b_79 hn_77 e_85 c_86) dX11_dealing_116 (fun v_89 e_90 e_91 e_92 => ?_)
                          refine lv_aload_n C0.1 C0.2.1 dX11_dealing_117 rfl (lv_at hl 5 rfl) ?_
                          refine tg_X11_dayPrices C0 h kSC_0 q_530 dX11_dealing_118 ?_
                          refine lv_iload C0.1 C0.2.1 dX11_dealing_121 (lv_at hl 1 rfl) ?_
                          refine y_iald C0 h kSC_208 rfl (by decide) (o28_128 b_51 b_52 hn_50 e_58 c_59 e_65 e_67) (o28_129 b_51 b_52 hn_50 e_58 c_59 e_65 e_67) dX11_dealing_123 (fun v_93 e_94 e_95 e_96 => ?_)
                          refine xr_isub C0 dX11_dealing_124 (fun v_97 e_98 => ?_)
                          refine lv_iload C0.1 C0.2.1 dX11_dealing_125 (lv_at hl 4 rfl) ?_
                          replace HE : FT = g32b_X11_dealing R90 R103 (xso SC ad ws_72) x4_71.toInt v_97.toInt a3.toInt x5_70.toInt x6_69.toInt x7_41.toInt x8_68.toInt := HE.trans (by rw [e_98, (xg1 e_94 : v_93.toInt = (xso SC ad ws_72) 1 208 x7_41.toInt.toNat), (xg1 e_90 : v_89.toInt = (xso SC ad ws_72) 1 208 x8_68.toInt.toNat)]; rfl)
                          refine y_icmp_le (tgt := 155) C0 dX11_dealing_127 (by decide) (fun c_99 => ?_) (fun c_99 => ?_)
                          · -- 127
                            replace HE : FT = g33_X11_dealing R90 R103 (xso SC ad ws_72) a3.toInt x4_71.toInt x5_70.toInt x6_69.toInt x7_41.toInt x8_68.toInt := HE.trans (if_neg (Int.not_lt.mpr c_99))
                            refine y_inc (kp := 0) (n := 1) (fun v_100 => [(8, .int v_100), (7, .int x7_41), (6, .int x6_69), (5, .int x5_70), (4, .int x4_71), (0, .ref (ad 0)), (1, .int a1), (2, .int a2), (3, .int a3)]) C0 hl rfl (by decide) (by decide) (fun _ => rfl) (o28_130 b_78 b_79 hn_77 e_85 c_86 (le_min x8_68) (le_max x8_68) (le_min v_84) (le_max v_84)) (o28_131 b_78 b_79 hn_77 e_85 c_86 (le_min x8_68) (le_max x8_68) (le_min v_84) (le_max v_84)) dX11_dealing_155 (fun v_100 ls e_101 hl => ?_)
                            refine lv_goto (tgt := 103) C0.1 C0.2.1 dX11_dealing_158 (by decide) ?_
                            exact ih_75 v_100 x6_69 x5_70 x4_71 _ _ _ _ (o28_132 b_78 b_79 hn_77 e_85 c_86 e_101) (o28_133 b_78 b_79 hn_77 e_85 c_86 e_101) (o28_134 b_78 b_79 hn_77 e_85 c_86 e_101) (o28_124 b_80 b_81) (o28_125 b_80 b_81) (o28_124 b_82 b_83) (o28_125 b_82 b_83) (((show FT = R103 (xso SC ad ws_72) a3.toInt x4_71.toInt x5_70.toInt x6_69.toInt x7_41.toInt v_100.toInt from HE.trans (by rw [e_101]; rfl)).trans (by rw [hR103]))) h hF_73 (lv_sub hl [0, 1, 2, 3, 4, 5, 6, 7, 8] rfl)
                          · -- 127
                            replace HE : FT = g34_X11_dealing R90 R103 (xso SC ad ws_72) a3.toInt x7_41.toInt x8_68.toInt := HE.trans (if_pos c_99)
                            refine lv_aload_n C0.1 C0.2.1 dX11_dealing_130 rfl (lv_at hl 5 rfl) ?_
                            refine tg_X11_dayPrices C0 h kSC_0 q_530 dX11_dealing_131 ?_
                            refine lv_iload C0.1 C0.2.1 dX11_dealing_134 (lv_at hl 0 rfl) ?_
                            refine y_iald C0 h kSC_208 rfl (by decide) (o28_126 b_78 b_79 hn_77 e_85 c_86) (o28_127 b_78 b_79 hn_77 e_85 c_86) dX11_dealing_136 (fun v_102 e_103 e_104 e_105 => ?_)
                            have qh_106 : v_102.toInt = v_89.toInt := congrArg Int32.toInt (e_103.symm.trans (Eq.trans rfl e_90))
                            refine lv_aload_n C0.1 C0.2.1 dX11_dealing_137 rfl (lv_at hl 5 rfl) ?_
                            refine tg_X11_dayPrices C0 h kSC_0 q_530 dX11_dealing_138 ?_
                            refine lv_iload C0.1 C0.2.1 dX11_dealing_141 (lv_at hl 1 rfl) ?_
                            refine y_iald C0 h kSC_208 rfl (by decide) (o28_128 b_51 b_52 hn_50 e_58 c_59 e_65 e_67) (o28_129 b_51 b_52 hn_50 e_58 c_59 e_65 e_67) dX11_dealing_143 (fun v_107 e_108 e_109 e_110 => ?_)
                            have qh_111 : v_107.toInt = v_93.toInt := congrArg Int32.toInt (e_108.symm.trans (Eq.trans rfl e_94))
                            refine xr_isub C0 dX11_dealing_144 (fun v_112 e_113 => ?_)
                            refine lv_istore (lv' := [(4, .int v_112), (8, .int x8_68), (7, .int x7_41), (6, .int x6_69), (5, .int x5_70), (0, .ref (ad 0)), (1, .int a1), (2, .int a2), (3, .int a3)]) C0.1 C0.2.1 dX11_dealing_145 hl (by decide) rfl (fun ls hl => ?_)
                            refine lv_iload C0.1 C0.2.1 dX11_dealing_147 (lv_at hl 2 rfl) ?_
                            refine lv_istore (lv' := [(5, .int x7_41), (4, .int v_112), (8, .int x8_68), (7, .int x7_41), (6, .int x6_69), (0, .ref (ad 0)), (1, .int a1), (2, .int a2), (3, .int a3)]) C0.1 C0.2.1 dX11_dealing_149 hl (by decide) rfl (fun ls hl => ?_)
                            refine lv_iload C0.1 C0.2.1 dX11_dealing_151 (lv_at hl 2 rfl) ?_
                            refine lv_istore (lv' := [(6, .int x8_68), (5, .int x7_41), (4, .int v_112), (8, .int x8_68), (7, .int x7_41), (0, .ref (ad 0)), (1, .int a1), (2, .int a2), (3, .int a3)]) C0.1 C0.2.1 dX11_dealing_153 hl (by decide) rfl (fun ls hl => ?_)
                            refine y_inc (kp := 3) (n := 1) (fun v_114 => [(8, .int v_114), (6, .int x8_68), (5, .int x7_41), (4, .int v_112), (7, .int x7_41), (0, .ref (ad 0)), (1, .int a1), (2, .int a2), (3, .int a3)]) C0 hl rfl (by decide) (by decide) (fun _ => rfl) (o28_130 b_78 b_79 hn_77 e_85 c_86 (le_min x8_68) (le_max x8_68) (le_min v_84) (le_max v_84)) (o28_131 b_78 b_79 hn_77 e_85 c_86 (le_min x8_68) (le_max x8_68) (le_min v_84) (le_max v_84)) dX11_dealing_155 (fun v_114 ls e_115 hl => ?_)
                            refine lv_goto (tgt := 103) C0.1 C0.2.1 dX11_dealing_158 (by decide) ?_
                            exact ih_75 v_114 x8_68 x7_41 v_112 _ _ _ _ (o28_132 b_78 b_79 hn_77 e_85 c_86 e_115) (o28_133 b_78 b_79 hn_77 e_85 c_86 e_115) (o28_134 b_78 b_79 hn_77 e_85 c_86 e_115) (o28_135 b_78 b_79 hn_77 e_85 c_86 e_115) (o28_136 b_78 b_79 hn_77 e_85 c_86 e_115) (o28_137 b_51 b_52 hn_50 e_58 c_59 e_65 e_67) (o28_138 b_51 b_52 hn_50 e_58 c_59 e_65 e_67) (((show FT = R103 (xso SC ad ws_72) a3.toInt v_112.toInt x7_41.toInt x8_68.toInt x7_41.toInt v_114.toInt from HE.trans (by rw [e_115, e_113, (xg1 e_108 : v_107.toInt = (xso SC ad ws_72) 1 208 x7_41.toInt.toNat), (xg1 e_103 : v_102.toInt = (xso SC ad ws_72) 1 208 x8_68.toInt.toNat)]; rfl)).trans (by rw [hR103]))) h hF_73 (lv_sub hl [0, 4, 1, 2, 3, 5, 6, 7, 8] rfl)
                    exact lp_74 ((24 - v_66.toInt + 1).toNat) v_66 x6_42 x5_43 x4_44 _ _ _ _ (o28_139 b_51 b_52 hn_50 e_58 c_59 e_65 e_67) (o28_140 b_51 b_52 hn_50 e_58 c_59 e_65 e_67) (o28_141 b_51 b_52 hn_50 e_58 c_59 e_65 e_67) (o28_124 b_53 b_54) (o28_125 b_53 b_54) (o28_124 b_55 b_56) (o28_125 b_55 b_56) ((show FT = L27_X11_dealing R90 (Int.toNat (24 - v_66.toInt + 1)) (xso SC ad ws_45) a3.toInt x4_44.toInt x5_43.toInt x6_42.toInt x7_41.toInt v_66.toInt from HE.trans (by rw [e_67, e_65]; rfl))) h Fr.rf (lv_sub hl [0, 1, 2, 3, 4, 5, 6, 7, 8] rfl)
              exact lp_47 ((24 - v_39.toInt + 1).toNat) v_39 v_37 v_35 v_33 _ _ _ _ (o28_142 e_40) (o28_23 e_40) (o28_143 e_40) (o28_102 e_38) (o28_144 e_38) (o28_102 e_36) (o28_144 e_36) ((show FT = L16_X11_dealing (Int.toNat (24 - v_39.toInt + 1)) (xso SC ad ws_22) a3.toInt v_33.toInt v_35.toInt v_37.toInt v_39.toInt from HE.trans (by rw [e_40, e_38, e_36, e_34]; rfl))) h Fr.rf (lv_sub hl [0, 1, 2, 3, 4, 5, 6, 7] rfl)
            · -- 28
              replace HE : FT = g15_X11_dealing R24 (xso SC ad ws_22) a1.toInt a2.toInt a3.toInt x4_21.toInt := HE.trans (if_pos (o28_111 b_28 b_29 hn_27 e_31 c_32))
              refine lv_aload_n C0.1 C0.2.1 dX11_dealing_31 rfl (lv_at hl 1 rfl) ?_
              refine tg_X11_dayPrices C0 h kSC_0 q_530 dX11_dealing_32 ?_
              refine lv_iload C0.1 C0.2.1 dX11_dealing_35 (lv_at hl 0 rfl) ?_
              refine lv_aload_n C0.1 C0.2.1 dX11_dealing_37 rfl (lv_at hl 1 rfl) ?_
              refine tg_X11_now C0 h kSC_0 q_515 dX11_dealing_38 ?_
              refine lv_iload_n C0.1 C0.2.1 dX11_dealing_41 rfl (lv_at hl 2 rfl) ?_
              refine lv_aload_n C0.1 C0.2.1 dX11_dealing_42 rfl (lv_at hl 1 rfl) ?_
              refine tg_X11_now C0 h kSC_0 q_515 dX11_dealing_43 ?_
              refine tg_X0_folk C0 h kSC_1 q_249 dX11_dealing_46 ?_
              refine tg_X1_hours C0 h kSC_10 q_220 dX11_dealing_49 (fun v_116 e_117 e_118 e_119 => ?_)
              refine lv_iload C0.1 C0.2.1 dX11_dealing_52 (lv_at hl 0 rfl) ?_
              refine xr_iadd C0 dX11_dealing_54 (fun v_120 e_121 => ?_)
              refine lv_aload_n C0.1 C0.2.1 dX11_dealing_55 rfl (lv_at hl 1 rfl) ?_
              refine tg_X11_now C0 h kSC_0 q_515 dX11_dealing_56 ?_
              refine tg_X0_folk C0 h kSC_1 q_249 dX11_dealing_59 ?_
              refine tg_X1_sold C0 h kSC_10 q_208 dX11_dealing_62 ?_
              refine lv_iload_n C0.1 C0.2.1 dX11_dealing_65 rfl (lv_at hl 2 rfl) ?_
              refine y_iald C0 h kSC_16 rfl (by decide) (o28_145 e_7 e_8 e_9 c_10) (o28_146 e_7 e_8 e_9 c_10) dX11_dealing_66 (fun v_122 e_123 e_124 e_125 => ?_)
              refine lv_iload_n C0.1 C0.2.1 dX11_dealing_67 rfl (lv_at hl 3 rfl) ?_
              refine y_ci h (y_rV (As := [.int a1, .int v_120, .int v_122, .int a2]) (rest := [.int x4_21, .ref (ad 208)]) C0 hZ h (c_X0_cost l G Z ad _ h.2 1 kSC_1 a1 v_120 v_122 a2 (o28_145 e_7 e_8 e_9 c_10) (o28_147 e_7 e_8 e_9 c_10)) k_X0_cost q_927 q_928 q_926 kSC_1 rfl rfl rfl hl.1 rfl rfl (Nat.le_of_ble_eq_true rfl) dX11_dealing_68 ⟨Nat.le_of_ble_eq_true rfl, Nat.le_of_ble_eq_true rfl⟩ ⟨Nat.le_of_ble_eq_true rfl, Nat.le_of_ble_eq_true rfl⟩) (fun r_129 H locs ws_126 h u_127 p_128 => ?_)
              obtain ⟨e_130, e_131, e_132⟩ := p_128
              replace HE : FT = g35c_X11_dealing R24 (xso SC ad ws_126) r_129.toInt x4_21.toInt a1.toInt a2.toInt a3.toInt := HE.trans (by rw [e_130, e_131, (xg1 e_123 : v_122.toInt = (xso SC ad ws_22) 1 16 a1.toInt.toNat), e_121, (xg0 e_117 : v_116.toInt = (xso SC ad ws_22) 0 10 8)]; rfl)
              have hO_135 := h.2
              refine y_iast C0 h kSC_208 rfl (by decide) (o28_148 b_28 b_29 hn_27 e_31 c_32) (o28_149 b_28 b_29 hn_27 e_31 c_32) (le_min r_129) (le_max r_129) dX11_dealing_71 (fun H locs ws_133 h u_134 => ?_)
              replace HE : FT = g36w_X11_dealing R24 (xso SC ad ws_133) a1.toInt a2.toInt a3.toInt x4_21.toInt := HE.trans (by rw [(xso_A (i := 208) hO_135 h.2 kSC_208 rfl u_134)]; rfl)
              refine y_inc (kp := 0) (n := 1) (fun v_136 => [(4, .int v_136), (0, .ref (ad 0)), (1, .int a1), (2, .int a2), (3, .int a3)]) C0 hl rfl (by decide) (by decide) (fun _ => rfl) (o28_150 b_28 b_29 hn_27 e_31 c_32 (le_min x4_21) (le_max x4_21) (le_min v_30) (le_max v_30)) (o28_151 b_28 b_29 hn_27 e_31 c_32 (le_min x4_21) (le_max x4_21) (le_min v_30) (le_max v_30)) dX11_dealing_72 (fun v_136 ls e_137 hl => ?_)
              refine lv_goto (tgt := 24) C0.1 C0.2.1 dX11_dealing_75 (by decide) ?_
              exact ih_25 v_136 _ _ _ _ (o28_152 b_28 b_29 hn_27 e_31 c_32 e_137) (o28_153 b_28 b_29 hn_27 e_31 c_32 e_137) (o28_154 b_28 b_29 hn_27 e_31 c_32 e_137) (((show FT = R24 (xso SC ad ws_133) a1.toInt a2.toInt a3.toInt v_136.toInt from HE.trans (by rw [e_137]; rfl)).trans (by rw [hR24]))) h (Fr.tr (Fr.tr hF_23 (Fr.mono u_127 (by decide))) (Fr.up u_134.1 kSC_208 (by decide))) (lv_sub hl [0, 1, 2, 3, 4] rfl)
        exact lp_24 ((24 - v_19.toInt + 1).toNat) v_19 _ _ _ _ (o28_142 e_20) (o28_23 e_20) (o28_143 e_20) ((show FT = L11_X11_dealing (Int.toNat (24 - v_19.toInt + 1)) (xso SC ad ws_1) a1.toInt a2.toInt a3.toInt v_19.toInt from HE.trans (by rw [e_20]; rfl))) h Fr.rf (lv_sub hl [0, 1, 2, 3, 4] rfl)
      · -- 15
        replace HE : FT = g10_X11_dealing (xso SC ad ws_1) := HE.trans (if_pos (o28_107 c_13 e_17 c_18))
        refine y_c2 (n := (-2)) C0 (by decide) dX11_dealing_18 (fun v_138 e_139 => ?_)
        replace HE : FT = ((xso SC ad ws_1), v_138.toInt) := HE.trans (by rw [e_139]; rfl)
        rw [hQ]
        exact y_iret C0 h (Fr.mono u_2 (by decide)) ⟨(congrArg Prod.fst (HE.symm.trans hFT)), (congrArg Prod.snd (HE.symm.trans hFT)), (Rel.fr (M := []) hR u_2 (by decide) (by decide)), (Hok.fr (M := []) hH u_2 (by decide))⟩ dX11_dealing_20
noncomputable def g5_X11_cheap (s : XS) (x1_9 : Int) : XR := (s, x1_9)
noncomputable def g9_X11_cheap (R6 : XS → Int → Int → Int → XR) (s : XS) (x3_7 : Int) (r_43 : Int) : XR := R6 s x3_7 r_43 ((x3_7 + 1))
noncomputable def g12_X11_cheap (R6 : XS → Int → Int → Int → XR) (s : XS) (x1_9 : Int) (x2_8 : Int) (x3_7 : Int) : XR := R6 s x1_9 x2_8 ((x3_7 + 1))
noncomputable def g13_X11_cheap (R6 : XS → Int → Int → Int → XR) (s : XS) (x3_7 : Int) (r_43 : Int) : XR := R6 s x3_7 r_43 ((x3_7 + 1))
noncomputable def g11b_X11_cheap (R6 : XS → Int → Int → Int → XR) (s : XS) (x2_8 : Int) (r_43 : Int) (x1_9 : Int) (x3_7 : Int) : XR := if r_43 < x2_8 then g13_X11_cheap R6 s x3_7 r_43 else g12_X11_cheap R6 s x1_9 x2_8 x3_7
noncomputable def g10_X11_cheap (R6 : XS → Int → Int → Int → XR) (s : XS) (x1_9 : Int) (x2_8 : Int) (x3_7 : Int) (r_43 : Int) : XR := g11b_X11_cheap R6 s x2_8 r_43 x1_9 x3_7
noncomputable def g8b_X11_cheap (R6 : XS → Int → Int → Int → XR) (s : XS) (x1_9 : Int) (x2_8 : Int) (x3_7 : Int) (r_43 : Int) : XR := if x1_9 < 0 then g9_X11_cheap R6 s x3_7 r_43 else g10_X11_cheap R6 s x1_9 x2_8 x3_7 r_43
noncomputable def g7c_X11_cheap (R6 : XS → Int → Int → Int → XR) (s : XS) (r_43 : Int) (x1_9 : Int) (x2_8 : Int) (x3_7 : Int) : XR := g8b_X11_cheap R6 s x1_9 x2_8 x3_7 r_43
noncomputable def g6_X11_cheap (R6 : XS → Int → Int → Int → XR) (s : XS) (x1_9 : Int) (x2_8 : Int) (x3_7 : Int) : XR := g7c_X11_cheap R6 ((f_X0_cost s 1 x3_7 (s 0 10 8) (s 1 16 (Int.toNat x3_7)) 0).1) (((f_X0_cost s 1 x3_7 (s 0 10 8) (s 1 16 (Int.toNat x3_7)) 0).2)) x1_9 x2_8 x3_7
noncomputable def g4b_X11_cheap (R6 : XS → Int → Int → Int → XR) (s : XS) (r_24 : Int) (x3_7 : Int) (x1_9 : Int) (x2_8 : Int) : XR := if x3_7 < r_24 then g6_X11_cheap R6 s x1_9 x2_8 x3_7 else g5_X11_cheap s x1_9
noncomputable def g3c_X11_cheap (R6 : XS → Int → Int → Int → XR) (s : XS) (r_24 : Int) (x3_7 : Int) (x1_9 : Int) (x2_8 : Int) : XR := g4b_X11_cheap R6 s r_24 x3_7 x1_9 x2_8
noncomputable def g2l_X11_cheap (R6 : XS → Int → Int → Int → XR) (s : XS) (x1_9 : Int) (x2_8 : Int) (x3_7 : Int) : XR := g3c_X11_cheap R6 ((f_X0_crossings s 1).1) (((f_X0_crossings s 1).2)) x3_7 x1_9 x2_8
noncomputable def L1_X11_cheap (n : Nat) : XS → Int → Int → Int → XR := Nat.rec (motive := fun _ => XS → Int → Int → Int → XR) (fun s _ _ _ => (s, 0)) (fun _ R6 => g2l_X11_cheap R6) n
noncomputable def f_X11_cheap (s : XS) : XR := L1_X11_cheap (Int.toNat (25 - 0 + 1)) s (((-1))) 0 0
set_option maxHeartbeats 4000000 in
set_option maxRecDepth 100000 in
theorem c_X11_cheap (l : Launch) (G : GG) (Z : RZ) (ad : Nat → Nat) (ws0 : va_W) (hT : Ty G SC ad ws0) (hR : Rel ws0) (hH : Hok ws0) : Mq l yX11_cheap cX11_cheap 5 (some .int) 3 G Z [.ref (ad 0)] ws0 (PI G SC ad [4, 5] ws0 (fun r u => (xso SC ad u = (f_X11_cheap (xso SC ad ws0)).1) ∧ (r.toInt = (f_X11_cheap (xso SC ad ws0)).2) ∧ ((-1) ≤ r.toInt) ∧ (r.toInt ≤ 24) ∧ (Rel u) ∧ (Hok u))) := by
  refine Mq.start (by decide) (Nat.le_of_ble_eq_true rfl) ?_
  intro p e s m below meth c A ls C0 hZ h hl
  have hl : lv_has ls 5 [(0, .ref (ad 0))] := hl
  have h : Wt G SC ad A s s.heap [] ws0 := ⟨h, hT⟩
  obtain ⟨args, hargs⟩ : ∃ z, z = ([.ref (ad 0)] : List Value).toArray := ⟨_, rfl⟩
  rw [← hargs] at C0 ⊢
  have C0 : Cx p s m args meth c RX11 cX11_cheap 5 (some .int) := C0
  obtain ⟨Q, hQ⟩ : ∃ z, z = MQ below ((PI G SC ad [4, 5] ws0 (fun r u => (xso SC ad u = (f_X11_cheap (xso SC ad ws0)).1) ∧ (r.toInt = (f_X11_cheap (xso SC ad ws0)).2) ∧ ((-1) ≤ r.toInt) ∧ (r.toInt ≤ 24) ∧ (Rel u) ∧ (Hok u))) A) args s 0 0 A := ⟨_, rfl⟩
  rw [← hQ]
  obtain ⟨FT, hFT⟩ : ∃ z, z = f_X11_cheap (xso SC ad ws0) := ⟨_, rfl⟩
  have HE : FT = f_X11_cheap (xso SC ad ws0) := hFT
  refine y_c1 (n := (-1)) C0 (by decide) dX11_cheap_0 (fun v_1 e_2 => ?_)
  refine lv_istore_n (lv' := [(1, .int v_1), (0, .ref (ad 0))]) C0.1 C0.2.1 dX11_cheap_1 rfl hl (by decide) rfl (fun ls hl => ?_)
  refine y_c1 (n := 0) C0 (by decide) dX11_cheap_2 (fun v_3 e_4 => ?_)
  refine lv_istore_n (lv' := [(2, .int v_3), (1, .int v_1), (0, .ref (ad 0))]) C0.1 C0.2.1 dX11_cheap_3 rfl hl (by decide) rfl (fun ls hl => ?_)
  refine y_c1 (n := 0) C0 (by decide) dX11_cheap_4 (fun v_5 e_6 => ?_)
  refine lv_istore_n (lv' := [(3, .int v_5), (2, .int v_3), (1, .int v_1), (0, .ref (ad 0))]) C0.1 C0.2.1 dX11_cheap_5 rfl hl (by decide) rfl (fun ls hl => ?_)
  have lp_12 : ∀ (n_14 : Nat) (x3_7 : Int32) (x2_8 : Int32) (x1_9 : Int32) (H : Heap) (locs : List Loc) (ls : Array Slot) (ws_10 : va_W), 25 - x3_7.toInt < (n_14 : Int) → 0 ≤ x3_7.toInt → x3_7.toInt ≤ 25 → 0 ≤ x2_8.toInt → (-1) ≤ x1_9.toInt → x1_9.toInt ≤ 24 → (FT = L1_X11_cheap n_14 (xso SC ad ws_10) x1_9.toInt x2_8.toInt x3_7.toInt) → Wt G SC ad A s H locs ws_10 → Fr SC [4, 5] ws0 ws_10 → lv_has ls 5 [(3, .int x3_7), (2, .int x2_8), (1, .int x1_9), (0, .ref (ad 0))] → W p l e (rmd 3 0 0) s m args below meth c H locs 0 0 Q (F0 m 6 ls []) := by
    intro n_14
    induction n_14 with
    | zero => intro x3_7 x2_8 x1_9 H locs ls ws_10 hn_15 b_16 b_17 b_18 b_19 b_20 HE h hF_11 hl; exact ((o28_85 b_16 b_17 hn_15)).elim
    | succ n_14 ih_13 =>
      intro x3_7 x2_8 x1_9 H locs ls ws_10 hn_15 b_16 b_17 b_18 b_19 b_20 HE h hF_11 hl
      obtain ⟨R6, hR6⟩ : ∃ z, z = L1_X11_cheap n_14 := ⟨_, rfl⟩
      replace HE : FT = g2l_X11_cheap R6 (xso SC ad ws_10) x1_9.toInt x2_8.toInt x3_7.toInt := HE.trans (by rw [hR6]; rfl)
      refine lv_iload_n C0.1 C0.2.1 dX11_cheap_6 rfl (lv_at hl 0 rfl) ?_
      refine lv_aload_n C0.1 C0.2.1 dX11_cheap_7 rfl (lv_at hl 3 rfl) ?_
      refine tg_X11_now C0 h kSC_0 q_515 dX11_cheap_8 ?_
      refine y_ci h (y_rV (As := []) (rest := [.int x3_7]) C0 hZ h (c_X0_crossings l G Z ad _ h.2 1 kSC_1) k_X0_crossings q_918 q_919 q_917 kSC_1 rfl rfl rfl hl.1 rfl rfl (Nat.le_of_ble_eq_true rfl) dX11_cheap_11 ⟨Nat.le_of_ble_eq_true rfl, Nat.le_of_ble_eq_true rfl⟩ ⟨Nat.le_of_ble_eq_true rfl, Nat.le_of_ble_eq_true rfl⟩) (fun r_24 H locs ws_21 h u_22 p_23 => ?_)
      obtain ⟨e_25, e_26, e_27, e_28⟩ := p_23
      replace HE : FT = g3c_X11_cheap R6 (xso SC ad ws_21) r_24.toInt x3_7.toInt x1_9.toInt x2_8.toInt := HE.trans (by rw [e_25, e_26]; rfl)
      replace HE : FT = g4b_X11_cheap R6 (xso SC ad ws_21) r_24.toInt x3_7.toInt x1_9.toInt x2_8.toInt := HE.trans rfl
      refine y_icmp_ge (tgt := 71) C0 dX11_cheap_14 (by decide) (fun c_29 => ?_) (fun c_29 => ?_)
      · -- 14
        replace HE : FT = g5_X11_cheap (xso SC ad ws_21) x1_9.toInt := HE.trans (if_neg (Int.not_lt.mpr c_29))
        refine lv_iload_n C0.1 C0.2.1 dX11_cheap_71 rfl (lv_at hl 2 rfl) ?_
        replace HE : FT = ((xso SC ad ws_21), x1_9.toInt) := HE.trans rfl
        rw [hQ]
        exact y_iret C0 h (Fr.tr hF_11 (Fr.mono u_22 (by decide))) ⟨(congrArg Prod.fst (HE.symm.trans hFT)), (congrArg Prod.snd (HE.symm.trans hFT)), (o28_93 b_19 b_20), (o28_87 b_19 b_20), (Rel.fr (M := [4, 5]) hR (Fr.tr hF_11 (Fr.mono u_22 (by decide))) (by decide) (by decide)), (Hok.fr (M := [4, 5]) hH (Fr.tr hF_11 (Fr.mono u_22 (by decide))) (by decide))⟩ dX11_cheap_72
      · -- 14
        replace HE : FT = g6_X11_cheap R6 (xso SC ad ws_21) x1_9.toInt x2_8.toInt x3_7.toInt := HE.trans (if_pos c_29)
        refine lv_aload_n C0.1 C0.2.1 dX11_cheap_17 rfl (lv_at hl 3 rfl) ?_
        refine tg_X11_now C0 h kSC_0 q_515 dX11_cheap_18 ?_
        refine lv_iload_n C0.1 C0.2.1 dX11_cheap_21 rfl (lv_at hl 0 rfl) ?_
        refine lv_aload_n C0.1 C0.2.1 dX11_cheap_22 rfl (lv_at hl 3 rfl) ?_
        refine tg_X11_now C0 h kSC_0 q_515 dX11_cheap_23 ?_
        refine tg_X0_folk C0 h kSC_1 q_249 dX11_cheap_26 ?_
        refine tg_X1_hours C0 h kSC_10 q_220 dX11_cheap_29 (fun v_30 e_31 e_32 e_33 => ?_)
        refine lv_aload_n C0.1 C0.2.1 dX11_cheap_32 rfl (lv_at hl 3 rfl) ?_
        refine tg_X11_now C0 h kSC_0 q_515 dX11_cheap_33 ?_
        refine tg_X0_folk C0 h kSC_1 q_249 dX11_cheap_36 ?_
        refine tg_X1_sold C0 h kSC_10 q_208 dX11_cheap_39 ?_
        refine lv_iload_n C0.1 C0.2.1 dX11_cheap_42 rfl (lv_at hl 0 rfl) ?_
        refine y_iald C0 h kSC_16 rfl (by decide) (o28_155 b_16 b_17 hn_15 e_27 e_28 c_29) (o28_156 b_16 b_17 hn_15 e_27 e_28 c_29) dX11_cheap_43 (fun v_34 e_35 e_36 e_37 => ?_)
        refine y_c1 (n := 0) C0 (by decide) dX11_cheap_44 (fun v_38 e_39 => ?_)
        refine y_ci h (y_rV (As := [.int x3_7, .int v_30, .int v_34, .int v_38]) (rest := []) C0 hZ h (c_X0_cost l G Z ad _ h.2 1 kSC_1 x3_7 v_30 v_34 v_38 (o28_155 b_16 b_17 hn_15 e_27 e_28 c_29) (o28_157 b_16 b_17 hn_15 e_27 e_28 c_29)) k_X0_cost q_927 q_928 q_926 kSC_1 rfl rfl rfl hl.1 rfl rfl (Nat.le_of_ble_eq_true rfl) dX11_cheap_45 ⟨Nat.le_of_ble_eq_true rfl, Nat.le_of_ble_eq_true rfl⟩ ⟨Nat.le_of_ble_eq_true rfl, Nat.le_of_ble_eq_true rfl⟩) (fun r_43 H locs ws_40 h u_41 p_42 => ?_)
        obtain ⟨e_44, e_45, e_46⟩ := p_42
        replace HE : FT = g7c_X11_cheap R6 (xso SC ad ws_40) r_43.toInt x1_9.toInt x2_8.toInt x3_7.toInt := HE.trans (by rw [e_44, e_45, e_39, (xg1 e_35 : v_34.toInt = (xso SC ad ws_21) 1 16 x3_7.toInt.toNat), (xg0 e_31 : v_30.toInt = (xso SC ad ws_21) 0 10 8)]; rfl)
        refine lv_istore (lv' := [(4, .int r_43), (3, .int x3_7), (2, .int x2_8), (1, .int x1_9), (0, .ref (ad 0))]) C0.1 C0.2.1 dX11_cheap_48 hl (by decide) rfl (fun ls hl => ?_)
        refine lv_iload_n C0.1 C0.2.1 dX11_cheap_50 rfl (lv_at hl 3 rfl) ?_
        replace HE : FT = g8b_X11_cheap R6 (xso SC ad ws_40) x1_9.toInt x2_8.toInt x3_7.toInt r_43.toInt := HE.trans rfl
        refine y_if_lt (tgt := 60) C0 dX11_cheap_51 (by decide) (fun c_47 => ?_) (fun c_47 => ?_)
        · -- 51
          replace HE : FT = g9_X11_cheap R6 (xso SC ad ws_40) x3_7.toInt r_43.toInt := HE.trans (if_pos c_47)
          refine lv_iload_n C0.1 C0.2.1 dX11_cheap_60 rfl (lv_at hl 1 rfl) ?_
          refine lv_istore_n (lv' := [(1, .int x3_7), (4, .int r_43), (3, .int x3_7), (2, .int x2_8), (0, .ref (ad 0))]) C0.1 C0.2.1 dX11_cheap_61 rfl hl (by decide) rfl (fun ls hl => ?_)
          refine lv_iload C0.1 C0.2.1 dX11_cheap_62 (lv_at hl 1 rfl) ?_
          refine lv_istore_n (lv' := [(2, .int r_43), (1, .int x3_7), (4, .int r_43), (3, .int x3_7), (0, .ref (ad 0))]) C0.1 C0.2.1 dX11_cheap_64 rfl hl (by decide) rfl (fun ls hl => ?_)
          refine y_inc (kp := 3) (n := 1) (fun v_48 => [(3, .int v_48), (2, .int r_43), (1, .int x3_7), (4, .int r_43), (0, .ref (ad 0))]) C0 hl rfl (by decide) (by decide) (fun _ => rfl) (o28_88 b_16 b_17 hn_15 e_27 e_28 c_29 (le_min x3_7) (le_max x3_7) (le_min r_24) (le_max r_24)) (o28_89 b_16 b_17 hn_15 e_27 e_28 c_29 (le_min x3_7) (le_max x3_7) (le_min r_24) (le_max r_24)) dX11_cheap_65 (fun v_48 ls e_49 hl => ?_)
          refine lv_goto (tgt := 6) C0.1 C0.2.1 dX11_cheap_68 (by decide) ?_
          exact ih_13 v_48 r_43 x3_7 _ _ _ _ (o28_90 b_16 b_17 hn_15 e_27 e_28 c_29 e_49) (o28_91 b_16 b_17 hn_15 e_27 e_28 c_29 e_49) (o28_92 b_16 b_17 hn_15 e_27 e_28 c_29 e_49) (o28_158 e_46) (o28_96 b_16 b_17 hn_15 e_27 e_28 c_29 e_49) (o28_97 b_16 b_17 hn_15 e_27 e_28 c_29 e_49) (((show FT = R6 (xso SC ad ws_40) x3_7.toInt r_43.toInt v_48.toInt from HE.trans (by rw [e_49]; rfl)).trans (by rw [hR6]))) h (Fr.tr (Fr.tr hF_11 (Fr.mono u_22 (by decide))) u_41) (lv_sub hl [0, 1, 2, 4] rfl)
        · -- 51
          replace HE : FT = g10_X11_cheap R6 (xso SC ad ws_40) x1_9.toInt x2_8.toInt x3_7.toInt r_43.toInt := HE.trans (if_neg (Int.not_lt.mpr c_47))
          refine lv_iload C0.1 C0.2.1 dX11_cheap_54 (lv_at hl 0 rfl) ?_
          refine lv_iload_n C0.1 C0.2.1 dX11_cheap_56 rfl (lv_at hl 2 rfl) ?_
          replace HE : FT = g11b_X11_cheap R6 (xso SC ad ws_40) x2_8.toInt r_43.toInt x1_9.toInt x3_7.toInt := HE.trans rfl
          refine y_icmp_ge (tgt := 65) C0 dX11_cheap_57 (by decide) (fun c_50 => ?_) (fun c_50 => ?_)
          · -- 57
            replace HE : FT = g12_X11_cheap R6 (xso SC ad ws_40) x1_9.toInt x2_8.toInt x3_7.toInt := HE.trans (if_neg (Int.not_lt.mpr c_50))
            refine y_inc (kp := 1) (n := 1) (fun v_51 => [(3, .int v_51), (4, .int r_43), (2, .int x2_8), (1, .int x1_9), (0, .ref (ad 0))]) C0 hl rfl (by decide) (by decide) (fun _ => rfl) (o28_88 b_16 b_17 hn_15 e_27 e_28 c_29 (le_min x3_7) (le_max x3_7) (le_min r_24) (le_max r_24)) (o28_89 b_16 b_17 hn_15 e_27 e_28 c_29 (le_min x3_7) (le_max x3_7) (le_min r_24) (le_max r_24)) dX11_cheap_65 (fun v_51 ls e_52 hl => ?_)
            refine lv_goto (tgt := 6) C0.1 C0.2.1 dX11_cheap_68 (by decide) ?_
            exact ih_13 v_51 x2_8 x1_9 _ _ _ _ (o28_90 b_16 b_17 hn_15 e_27 e_28 c_29 e_52) (o28_91 b_16 b_17 hn_15 e_27 e_28 c_29 e_52) (o28_92 b_16 b_17 hn_15 e_27 e_28 c_29 e_52) (o28_159 b_18 e_46 c_50) (o28_160 b_19 b_20 c_47) (o28_161 b_19 b_20 c_47) (((show FT = R6 (xso SC ad ws_40) x1_9.toInt x2_8.toInt v_51.toInt from HE.trans (by rw [e_52]; rfl)).trans (by rw [hR6]))) h (Fr.tr (Fr.tr hF_11 (Fr.mono u_22 (by decide))) u_41) (lv_sub hl [0, 2, 3, 4] rfl)
          · -- 57
            replace HE : FT = g13_X11_cheap R6 (xso SC ad ws_40) x3_7.toInt r_43.toInt := HE.trans (if_pos c_50)
            refine lv_iload_n C0.1 C0.2.1 dX11_cheap_60 rfl (lv_at hl 1 rfl) ?_
            refine lv_istore_n (lv' := [(1, .int x3_7), (4, .int r_43), (3, .int x3_7), (2, .int x2_8), (0, .ref (ad 0))]) C0.1 C0.2.1 dX11_cheap_61 rfl hl (by decide) rfl (fun ls hl => ?_)
            refine lv_iload C0.1 C0.2.1 dX11_cheap_62 (lv_at hl 1 rfl) ?_
            refine lv_istore_n (lv' := [(2, .int r_43), (1, .int x3_7), (4, .int r_43), (3, .int x3_7), (0, .ref (ad 0))]) C0.1 C0.2.1 dX11_cheap_64 rfl hl (by decide) rfl (fun ls hl => ?_)
            refine y_inc (kp := 3) (n := 1) (fun v_53 => [(3, .int v_53), (2, .int r_43), (1, .int x3_7), (4, .int r_43), (0, .ref (ad 0))]) C0 hl rfl (by decide) (by decide) (fun _ => rfl) (o28_88 b_16 b_17 hn_15 e_27 e_28 c_29 (le_min x3_7) (le_max x3_7) (le_min r_24) (le_max r_24)) (o28_89 b_16 b_17 hn_15 e_27 e_28 c_29 (le_min x3_7) (le_max x3_7) (le_min r_24) (le_max r_24)) dX11_cheap_65 (fun v_53 ls e_54 hl => ?_)
            refine lv_goto (tgt := 6) C0.1 C0.2.1 dX11_cheap_68 (by decide) ?_
            exact ih_13 v_53 r_43 x3_7 _ _ _ _ (o28_90 b_16 b_17 hn_15 e_27 e_28 c_29 e_54) (o28_91 b_16 b_17 hn_15 e_27 e_28 c_29 e_54) (o28_92 b_16 b_17 hn_15 e_27 e_28 c_29 e_54) (o28_162 b_18 e_46 c_50) (o28_96 b_16 b_17 hn_15 e_27 e_28 c_29 e_54) (o28_97 b_16 b_17 hn_15 e_27 e_28 c_29 e_54) (((show FT = R6 (xso SC ad ws_40) x3_7.toInt r_43.toInt v_53.toInt from HE.trans (by rw [e_54]; rfl)).trans (by rw [hR6]))) h (Fr.tr (Fr.tr hF_11 (Fr.mono u_22 (by decide))) u_41) (lv_sub hl [0, 1, 2, 4] rfl)
  exact lp_12 ((25 - v_5.toInt + 1).toNat) v_5 v_3 v_1 _ _ _ _ (o28_100 e_6) (o28_23 e_6) (o28_101 e_6) (o28_23 e_4) (o28_102 e_2) (o28_103 e_2) ((show FT = L1_X11_cheap (Int.toNat (25 - v_5.toInt + 1)) (xso SC ad ws0) v_1.toInt v_3.toInt v_5.toInt from HE.trans (by rw [e_6, e_4, e_2]; rfl))) h Fr.rf (lv_sub hl [0, 1, 2, 3] rfl)
noncomputable def g8_X11_affords (s : XS) (x4_25 : Int) : XR := (s, x4_25)
noncomputable def g12_X11_affords (R43 : XS → Int → Int → Int → Int → XR) (s : XS) (a1 : Int) (x2_26 : Int) (v_21 : Int) (x4_25 : Int) (r_39 : Int) : XR := R43 s a1 ((x2_26 - r_39)) v_21 ((x4_25 + 1))
noncomputable def g13_X11_affords (s : XS) (x4_25 : Int) : XR := (s, x4_25)
noncomputable def g11b_X11_affords (R43 : XS → Int → Int → Int → Int → XR) (s : XS) (x2_26 : Int) (r_39 : Int) (a1 : Int) (v_21 : Int) (x4_25 : Int) : XR := if x2_26 < r_39 then g13_X11_affords s x4_25 else g12_X11_affords R43 s a1 x2_26 v_21 x4_25 r_39
noncomputable def g10c_X11_affords (R43 : XS → Int → Int → Int → Int → XR) (s : XS) (r_39 : Int) (a1 : Int) (x2_26 : Int) (v_21 : Int) (x4_25 : Int) : XR := g11b_X11_affords R43 s x2_26 r_39 a1 v_21 x4_25
noncomputable def g9_X11_affords (R43 : XS → Int → Int → Int → Int → XR) (s : XS) (a1 : Int) (x2_26 : Int) (v_21 : Int) (x4_25 : Int) : XR := g10c_X11_affords R43 ((f_X0_costTo s 1 a1 x4_25).1) (((f_X0_costTo s 1 a1 x4_25).2)) a1 x2_26 v_21 x4_25
noncomputable def g7b_X11_affords (R43 : XS → Int → Int → Int → Int → XR) (s : XS) (v_21 : Int) (x4_25 : Int) (a1 : Int) (x2_26 : Int) : XR := if x4_25 < v_21 then g9_X11_affords R43 s a1 x2_26 v_21 x4_25 else g8_X11_affords s x4_25
noncomputable def g6l_X11_affords (R43 : XS → Int → Int → Int → Int → XR) (s : XS) (a1 : Int) (x2_26 : Int) (v_21 : Int) (x4_25 : Int) : XR := g7b_X11_affords R43 s v_21 x4_25 a1 x2_26
noncomputable def L5_X11_affords (n : Nat) : XS → Int → Int → Int → Int → XR := Nat.rec (motive := fun _ => XS → Int → Int → Int → Int → XR) (fun s _ _ _ _ => (s, 0)) (fun _ R43 => g6l_X11_affords R43) n
noncomputable def g3_X11_affords (s : XS) (a1 : Int) : XR := L5_X11_affords (Int.toNat (2147483647 - 0 + 1)) s a1 ((s 1 14 (Int.toNat a1))) ((Xisub 99 (s 1 13 (Int.toNat a1)))) 0
noncomputable def g4_X11_affords (s : XS) : XR := (s, ((-2)))
noncomputable def g2b_X11_affords (s : XS) (r_4 : Int) (a1 : Int) : XR := if r_4 = 0 then g4_X11_affords s else g3_X11_affords s a1
noncomputable def g1c_X11_affords (s : XS) (r_4 : Int) (a1 : Int) : XR := g2b_X11_affords s r_4 a1
noncomputable def f_X11_affords (s : XS) (a1 : Int) : XR := g1c_X11_affords ((f_X11_isPerson s a1).1) (((f_X11_isPerson s a1).2)) a1
set_option maxHeartbeats 4000000 in
set_option maxRecDepth 100000 in
theorem c_X11_affords (l : Launch) (G : GG) (Z : RZ) (ad : Nat → Nat) (ws0 : va_W) (hT : Ty G SC ad ws0) (a1 : Int32) (hR : Rel ws0) (hH : Hok ws0) : Mq l yX11_affords cX11_affords 6 (some .int) 4 G Z [.ref (ad 0), .int a1] ws0 (PI G SC ad [4, 5] ws0 (fun r u => (xso SC ad u = (f_X11_affords (xso SC ad ws0) a1.toInt).1) ∧ (r.toInt = (f_X11_affords (xso SC ad ws0) a1.toInt).2) ∧ ((-2) ≤ r.toInt) ∧ (Rel u) ∧ (Hok u))) := by
  refine Mq.start (by decide) (Nat.le_of_ble_eq_true rfl) ?_
  intro p e s m below meth c A ls C0 hZ h hl
  have hl : lv_has ls 6 [(0, .ref (ad 0)), (1, .int a1)] := hl
  have h : Wt G SC ad A s s.heap [] ws0 := ⟨h, hT⟩
  obtain ⟨args, hargs⟩ : ∃ z, z = ([.ref (ad 0), .int a1] : List Value).toArray := ⟨_, rfl⟩
  rw [← hargs] at C0 ⊢
  have C0 : Cx p s m args meth c RX11 cX11_affords 6 (some .int) := C0
  obtain ⟨Q, hQ⟩ : ∃ z, z = MQ below ((PI G SC ad [4, 5] ws0 (fun r u => (xso SC ad u = (f_X11_affords (xso SC ad ws0) a1.toInt).1) ∧ (r.toInt = (f_X11_affords (xso SC ad ws0) a1.toInt).2) ∧ ((-2) ≤ r.toInt) ∧ (Rel u) ∧ (Hok u))) A) args s 0 0 A := ⟨_, rfl⟩
  rw [← hQ]
  obtain ⟨FT, hFT⟩ : ∃ z, z = f_X11_affords (xso SC ad ws0) a1.toInt := ⟨_, rfl⟩
  have HE : FT = f_X11_affords (xso SC ad ws0) a1.toInt := hFT
  refine lv_aload_n C0.1 C0.2.1 dX11_affords_0 rfl (lv_at hl 0 rfl) ?_
  refine lv_iload_n C0.1 C0.2.1 dX11_affords_1 rfl (lv_at hl 1 rfl) ?_
  refine y_ci h (y_rV (As := [.int a1]) (rest := []) C0 hZ h (c_X11_isPerson l G Z ad _ h.2 a1) k_X11_isPerson q_903 q_23 q_901 kSC_0 rfl rfl rfl hl.1 rfl rfl (Nat.le_of_ble_eq_true rfl) dX11_affords_2 ⟨Nat.le_of_ble_eq_true rfl, Nat.le_of_ble_eq_true rfl⟩ ⟨Nat.le_of_ble_eq_true rfl, Nat.le_of_ble_eq_true rfl⟩) (fun r_4 H locs ws_1 h u_2 p_3 => ?_)
  obtain ⟨e_5, e_6, e_7, e_8, e_9⟩ := p_3
  replace HE : FT = g1c_X11_affords (xso SC ad ws_1) r_4.toInt a1.toInt := HE.trans (by rw [e_5, e_6]; rfl)
  replace HE : FT = g2b_X11_affords (xso SC ad ws_1) r_4.toInt a1.toInt := HE.trans rfl
  refine y_if_ne (tgt := 11) C0 dX11_affords_5 (by decide) (fun c_10 => ?_) (fun c_10 => ?_)
  · -- 5
    replace HE : FT = g3_X11_affords (xso SC ad ws_1) a1.toInt := HE.trans (if_neg c_10)
    refine lv_aload_n C0.1 C0.2.1 dX11_affords_11 rfl (lv_at hl 0 rfl) ?_
    refine tg_X11_now C0 h kSC_0 q_515 dX11_affords_12 ?_
    refine tg_X0_folk C0 h kSC_1 q_249 dX11_affords_15 ?_
    refine tg_X1_coins C0 h kSC_10 q_200 dX11_affords_18 ?_
    refine lv_iload_n C0.1 C0.2.1 dX11_affords_21 rfl (lv_at hl 1 rfl) ?_
    refine y_iald C0 h kSC_14 rfl (by decide) (o28_8 e_7 e_8 e_9 c_10) (o28_163 e_7 e_8 e_9 c_10) dX11_affords_22 (fun v_11 e_12 e_13 e_14 => ?_)
    refine lv_istore_n (lv' := [(2, .int v_11), (0, .ref (ad 0)), (1, .int a1)]) C0.1 C0.2.1 dX11_affords_23 rfl hl (by decide) rfl (fun ls hl => ?_)
    refine y_c2 (n := 99) C0 (by decide) dX11_affords_24 (fun v_15 e_16 => ?_)
    refine lv_aload_n C0.1 C0.2.1 dX11_affords_26 rfl (lv_at hl 1 rfl) ?_
    refine tg_X11_now C0 h kSC_0 q_515 dX11_affords_27 ?_
    refine tg_X0_folk C0 h kSC_1 q_249 dX11_affords_30 ?_
    refine tg_X1_lefts C0 h kSC_10 q_197 dX11_affords_33 ?_
    refine lv_iload_n C0.1 C0.2.1 dX11_affords_36 rfl (lv_at hl 2 rfl) ?_
    refine y_iald C0 h kSC_13 rfl (by decide) (o28_8 e_7 e_8 e_9 c_10) (o28_163 e_7 e_8 e_9 c_10) dX11_affords_37 (fun v_17 e_18 e_19 e_20 => ?_)
    refine xr_isub C0 dX11_affords_38 (fun v_21 e_22 => ?_)
    refine lv_istore_n (lv' := [(3, .int v_21), (2, .int v_11), (0, .ref (ad 0)), (1, .int a1)]) C0.1 C0.2.1 dX11_affords_39 rfl hl (by decide) rfl (fun ls hl => ?_)
    refine y_c1 (n := 0) C0 (by decide) dX11_affords_40 (fun v_23 e_24 => ?_)
    refine lv_istore (lv' := [(4, .int v_23), (3, .int v_21), (2, .int v_11), (0, .ref (ad 0)), (1, .int a1)]) C0.1 C0.2.1 dX11_affords_41 hl (by decide) rfl (fun ls hl => ?_)
    have lp_29 : ∀ (n_31 : Nat) (x4_25 : Int32) (x2_26 : Int32) (H : Heap) (locs : List Loc) (ls : Array Slot) (ws_27 : va_W), 2147483647 - x4_25.toInt < (n_31 : Int) → 0 ≤ x4_25.toInt → x4_25.toInt ≤ 2147483647 → (FT = L5_X11_affords n_31 (xso SC ad ws_27) a1.toInt x2_26.toInt v_21.toInt x4_25.toInt) → Wt G SC ad A s H locs ws_27 → Fr SC [4, 5] ws_1 ws_27 → lv_has ls 6 [(4, .int x4_25), (3, .int v_21), (2, .int x2_26), (0, .ref (ad 0)), (1, .int a1)] → W p l e (rmd 4 0 0) s m args below meth c H locs 0 0 Q (F0 m 43 ls []) := by
      intro n_31
      induction n_31 with
      | zero => intro x4_25 x2_26 H locs ls ws_27 hn_32 b_33 b_34 HE h hF_28 hl; exact ((o28_164 b_33 b_34 hn_32)).elim
      | succ n_31 ih_30 =>
        intro x4_25 x2_26 H locs ls ws_27 hn_32 b_33 b_34 HE h hF_28 hl
        obtain ⟨R43, hR43⟩ : ∃ z, z = L5_X11_affords n_31 := ⟨_, rfl⟩
        replace HE : FT = g6l_X11_affords R43 (xso SC ad ws_27) a1.toInt x2_26.toInt v_21.toInt x4_25.toInt := HE.trans (by rw [hR43]; rfl)
        refine lv_iload C0.1 C0.2.1 dX11_affords_43 (lv_at hl 0 rfl) ?_
        refine lv_iload_n C0.1 C0.2.1 dX11_affords_45 rfl (lv_at hl 1 rfl) ?_
        replace HE : FT = g7b_X11_affords R43 (xso SC ad ws_27) v_21.toInt x4_25.toInt a1.toInt x2_26.toInt := HE.trans rfl
        refine y_icmp_ge (tgt := 81) C0 dX11_affords_46 (by decide) (fun c_35 => ?_) (fun c_35 => ?_)
        · -- 46
          replace HE : FT = g8_X11_affords (xso SC ad ws_27) x4_25.toInt := HE.trans (if_neg (Int.not_lt.mpr c_35))
          refine lv_iload C0.1 C0.2.1 dX11_affords_81 (lv_at hl 0 rfl) ?_
          replace HE : FT = ((xso SC ad ws_27), x4_25.toInt) := HE.trans rfl
          rw [hQ]
          exact y_iret C0 h (Fr.tr (Fr.mono u_2 (by decide)) hF_28) ⟨(congrArg Prod.fst (HE.symm.trans hFT)), (congrArg Prod.snd (HE.symm.trans hFT)), (o28_165 b_33 b_34 hn_32 c_35), (Rel.fr (M := [4, 5]) hR (Fr.tr (Fr.mono u_2 (by decide)) hF_28) (by decide) (by decide)), (Hok.fr (M := [4, 5]) hH (Fr.tr (Fr.mono u_2 (by decide)) hF_28) (by decide))⟩ dX11_affords_83
        · -- 46
          replace HE : FT = g9_X11_affords R43 (xso SC ad ws_27) a1.toInt x2_26.toInt v_21.toInt x4_25.toInt := HE.trans (if_pos c_35)
          refine lv_aload_n C0.1 C0.2.1 dX11_affords_49 rfl (lv_at hl 3 rfl) ?_
          refine tg_X11_now C0 h kSC_0 q_515 dX11_affords_50 ?_
          refine lv_iload_n C0.1 C0.2.1 dX11_affords_53 rfl (lv_at hl 4 rfl) ?_
          refine lv_iload C0.1 C0.2.1 dX11_affords_54 (lv_at hl 0 rfl) ?_
          refine y_ci h (y_rV (As := [.int a1, .int x4_25]) (rest := []) C0 hZ h (c_X0_costTo l G Z ad _ h.2 1 kSC_1 a1 x4_25 (o28_8 e_7 e_8 e_9 c_10) (o28_9 e_7 e_8 e_9 c_10)) k_X0_costTo q_1017 q_1018 q_1016 kSC_1 rfl rfl rfl hl.1 rfl rfl (Nat.le_of_ble_eq_true rfl) dX11_affords_56 ⟨Nat.le_of_ble_eq_true rfl, Nat.le_of_ble_eq_true rfl⟩ ⟨Nat.le_of_ble_eq_true rfl, Nat.le_of_ble_eq_true rfl⟩) (fun r_39 H locs ws_36 h u_37 p_38 => ?_)
          obtain ⟨e_40, e_41, e_42⟩ := p_38
          replace HE : FT = g10c_X11_affords R43 (xso SC ad ws_36) r_39.toInt a1.toInt x2_26.toInt v_21.toInt x4_25.toInt := HE.trans (by rw [e_40, e_41]; rfl)
          refine lv_istore (lv' := [(5, .int r_39), (4, .int x4_25), (3, .int v_21), (2, .int x2_26), (0, .ref (ad 0)), (1, .int a1)]) C0.1 C0.2.1 dX11_affords_59 hl (by decide) rfl (fun ls hl => ?_)
          refine lv_iload C0.1 C0.2.1 dX11_affords_61 (lv_at hl 0 rfl) ?_
          refine lv_iload_n C0.1 C0.2.1 dX11_affords_63 rfl (lv_at hl 3 rfl) ?_
          replace HE : FT = g11b_X11_affords R43 (xso SC ad ws_36) x2_26.toInt r_39.toInt a1.toInt v_21.toInt x4_25.toInt := HE.trans rfl
          refine y_icmp_le (tgt := 70) C0 dX11_affords_64 (by decide) (fun c_43 => ?_) (fun c_43 => ?_)
          · -- 64
            replace HE : FT = g12_X11_affords R43 (xso SC ad ws_36) a1.toInt x2_26.toInt v_21.toInt x4_25.toInt r_39.toInt := HE.trans (if_neg (Int.not_lt.mpr c_43))
            refine lv_iload_n C0.1 C0.2.1 dX11_affords_70 rfl (lv_at hl 3 rfl) ?_
            refine lv_iload C0.1 C0.2.1 dX11_affords_71 (lv_at hl 0 rfl) ?_
            refine y_sub C0 (o28_166 e_42 c_43 (le_min x2_26) (le_max x2_26) (le_min r_39) (le_max r_39)) (o28_167 e_42 c_43 (le_min x2_26) (le_max x2_26) (le_min r_39) (le_max r_39)) dX11_affords_73 (fun v_44 e_45 => ?_)
            refine lv_istore_n (lv' := [(2, .int v_44), (5, .int r_39), (4, .int x4_25), (3, .int v_21), (0, .ref (ad 0)), (1, .int a1)]) C0.1 C0.2.1 dX11_affords_74 rfl hl (by decide) rfl (fun ls hl => ?_)
            refine y_inc (kp := 2) (n := 1) (fun v_46 => [(4, .int v_46), (2, .int v_44), (5, .int r_39), (3, .int v_21), (0, .ref (ad 0)), (1, .int a1)]) C0 hl rfl (by decide) (by decide) (fun _ => rfl) (o28_168 b_33 b_34 hn_32 c_35 (le_min x4_25) (le_max x4_25) (le_min v_21) (le_max v_21)) (o28_169 b_33 b_34 hn_32 c_35 (le_min x4_25) (le_max x4_25) (le_min v_21) (le_max v_21)) dX11_affords_75 (fun v_46 ls e_47 hl => ?_)
            refine lv_goto (tgt := 43) C0.1 C0.2.1 dX11_affords_78 (by decide) ?_
            exact ih_30 v_46 v_44 _ _ _ _ (o28_170 b_33 b_34 hn_32 c_35 e_47 (le_min v_46) (le_max v_46) (le_min x4_25) (le_max x4_25) (le_min v_21) (le_max v_21)) (o28_171 b_33 b_34 hn_32 c_35 e_47) (o28_172 b_33 b_34 hn_32 c_35 e_47 (le_min v_46) (le_max v_46) (le_min x4_25) (le_max x4_25) (le_min v_21) (le_max v_21)) (((show FT = R43 (xso SC ad ws_36) a1.toInt v_44.toInt v_21.toInt v_46.toInt from HE.trans (by rw [e_47, e_45]; rfl)).trans (by rw [hR43]))) h (Fr.tr hF_28 u_37) (lv_sub hl [0, 3, 1, 4, 5] rfl)
          · -- 64
            replace HE : FT = g13_X11_affords (xso SC ad ws_36) x4_25.toInt := HE.trans (if_pos c_43)
            refine lv_goto (tgt := 81) C0.1 C0.2.1 dX11_affords_67 (by decide) ?_
            refine lv_iload C0.1 C0.2.1 dX11_affords_81 (lv_at hl 1 rfl) ?_
            replace HE : FT = ((xso SC ad ws_36), x4_25.toInt) := HE.trans rfl
            rw [hQ]
            exact y_iret C0 h (Fr.tr (Fr.tr (Fr.mono u_2 (by decide)) hF_28) u_37) ⟨(congrArg Prod.fst (HE.symm.trans hFT)), (congrArg Prod.snd (HE.symm.trans hFT)), (o28_173 b_33 b_34 hn_32 c_35), (Rel.fr (M := [4, 5]) hR (Fr.tr (Fr.tr (Fr.mono u_2 (by decide)) hF_28) u_37) (by decide) (by decide)), (Hok.fr (M := [4, 5]) hH (Fr.tr (Fr.tr (Fr.mono u_2 (by decide)) hF_28) u_37) (by decide))⟩ dX11_affords_83
    exact lp_29 ((2147483647 - v_23.toInt + 1).toNat) v_23 v_11 _ _ _ _ (o28_174 e_24 (le_min v_23) (le_max v_23)) (o28_23 e_24) (o28_175 e_24 (le_min v_23) (le_max v_23)) ((show FT = L5_X11_affords (Int.toNat (2147483647 - v_23.toInt + 1)) (xso SC ad ws_1) a1.toInt v_11.toInt v_21.toInt v_23.toInt from HE.trans (by rw [e_24, e_22, (xg1 e_18 : v_17.toInt = (xso SC ad ws_1) 1 13 a1.toInt.toNat), e_16, (xg1 e_12 : v_11.toInt = (xso SC ad ws_1) 1 14 a1.toInt.toNat)]; rfl))) h Fr.rf (lv_sub hl [0, 1, 2, 3, 4] rfl)
  · -- 5
    replace HE : FT = g4_X11_affords (xso SC ad ws_1) := HE.trans (if_pos c_10)
    refine y_c2 (n := (-2)) C0 (by decide) dX11_affords_8 (fun v_48 e_49 => ?_)
    replace HE : FT = ((xso SC ad ws_1), v_48.toInt) := HE.trans (by rw [e_49]; rfl)
    rw [hQ]
    exact y_iret C0 h (Fr.mono u_2 (by decide)) ⟨(congrArg Prod.fst (HE.symm.trans hFT)), (congrArg Prod.snd (HE.symm.trans hFT)), (o28_46 e_49), (Rel.fr (M := []) hR u_2 (by decide) (by decide)), (Hok.fr (M := []) hH u_2 (by decide))⟩ dX11_affords_10
noncomputable def g3_X11_found (s : XS) : XR := (s, ((-2)))
noncomputable def g18_X11_found (s : XS) : XR := (s, ((-3)))
noncomputable def g21_X11_found (s : XS) : XR := (s, ((-3)))
noncomputable def g27c_X11_found (s : XS) (r_73 : Int) : XR := (s, r_73)
noncomputable def g26c_X11_found (s : XS) (r_65 : Int) (a3 : Int) (i_23 : Nat) : XR := g27c_X11_found ((f_X8_whereByEnvelopes s r_65 i_23 a3).1) (((f_X8_whereByEnvelopes s r_65 i_23 a3).2))
noncomputable def g24_X11_found (s : XS) (a1 : Int) (a3 : Int) (i_23 : Nat) : XR := g26c_X11_found ((f_X1_stand s 10 a1).1) (((f_X1_stand s 10 a1).2)) a3 i_23
noncomputable def g25_X11_found (s : XS) : XR := (s, ((-3)))
noncomputable def g23b_X11_found (s : XS) (a3 : Int) (a1 : Int) (i_23 : Nat) : XR := if 30 < a3 then g25_X11_found s else g24_X11_found s a1 a3 i_23
noncomputable def g22_X11_found (s : XS) (a1 : Int) (a3 : Int) (i_23 : Nat) : XR := g23b_X11_found s a3 a1 i_23
noncomputable def g20b_X11_found (s : XS) (a3 : Int) (a1 : Int) (i_23 : Nat) : XR := if a3 < 0 then g21_X11_found s else g22_X11_found s a1 a3 i_23
noncomputable def g19_X11_found (s : XS) (a1 : Int) (a3 : Int) (i_23 : Nat) : XR := g20b_X11_found s a3 a1 i_23
noncomputable def g17b_X11_found (s : XS) (r_48 : Int) (a1 : Int) (a3 : Int) (i_23 : Nat) : XR := if r_48 = 0 then g18_X11_found s else g19_X11_found s a1 a3 i_23
noncomputable def g16c_X11_found (s : XS) (r_48 : Int) (a1 : Int) (a3 : Int) (i_23 : Nat) : XR := g17b_X11_found s r_48 a1 a3 i_23
noncomputable def g15c_X11_found (s : XS) (r_40 : Int) (i_23 : Nat) (a1 : Int) (a3 : Int) : XR := g16c_X11_found ((f_X10_allBelow s i_23 r_40).1) (((f_X10_allBelow s i_23 r_40).2)) a1 a3 i_23
noncomputable def g13_X11_found (s : XS) (a1 : Int) (a3 : Int) (i_23 : Nat) : XR := g15c_X11_found ((f_X0_crossings s 1).1) (((f_X0_crossings s 1).2)) i_23 a1 a3
noncomputable def g14_X11_found (s : XS) : XR := (s, ((-4)))
noncomputable def g12b_X11_found (s : XS) (v_29 : Int) (a1 : Int) (a3 : Int) (i_23 : Nat) : XR := if 10 < v_29 then g14_X11_found s else g13_X11_found s a1 a3 i_23
noncomputable def g10_X11_found (s : XS) (a1 : Int) (a3 : Int) (i_23 : Nat) : XR := g12b_X11_found s ((s 0 i_23 2)) a1 a3 i_23
noncomputable def g11_X11_found (s : XS) : XR := (s, ((-6)))
noncomputable def g9b_X11_found (s : XS) (v_24 : Int) (a1 : Int) (a3 : Int) (i_23 : Nat) : XR := if v_24 < 0 then g11_X11_found s else g10_X11_found s a1 a3 i_23
noncomputable def g7_X11_found (s : XS) (a1 : Int) (a2 : Int) (a3 : Int) : XR := g9b_X11_found s ((s 0 (107 + 2 * Int.toNat a2) 2)) a1 a3 ((107 + 2 * Int.toNat a2))
noncomputable def g8_X11_found (s : XS) : XR := (s, ((-2)))
noncomputable def g6b_X11_found (s : XS) (r_16 : Int) (a1 : Int) (a2 : Int) (a3 : Int) : XR := if r_16 = 0 then g8_X11_found s else g7_X11_found s a1 a2 a3
noncomputable def g5c_X11_found (s : XS) (r_16 : Int) (a1 : Int) (a2 : Int) (a3 : Int) : XR := g6b_X11_found s r_16 a1 a2 a3
noncomputable def g4_X11_found (s : XS) (a1 : Int) (a2 : Int) (a3 : Int) : XR := g5c_X11_found ((f_X11_isTray s a2).1) (((f_X11_isTray s a2).2)) a1 a2 a3
noncomputable def g2b_X11_found (s : XS) (r_4 : Int) (a1 : Int) (a2 : Int) (a3 : Int) : XR := if r_4 = 0 then g3_X11_found s else g4_X11_found s a1 a2 a3
noncomputable def g1c_X11_found (s : XS) (r_4 : Int) (a1 : Int) (a2 : Int) (a3 : Int) : XR := g2b_X11_found s r_4 a1 a2 a3
noncomputable def f_X11_found (s : XS) (a1 : Int) (a2 : Int) (a3 : Int) : XR := g1c_X11_found ((f_X11_isPerson s a1).1) (((f_X11_isPerson s a1).2)) a1 a2 a3
set_option maxHeartbeats 4000000 in
set_option maxRecDepth 100000 in
theorem c_X11_found (l : Launch) (G : GG) (Z : RZ) (ad : Nat → Nat) (ws0 : va_W) (hT : Ty G SC ad ws0) (a1 : Int32) (a2 : Int32) (a3 : Int32) (hR : Rel ws0) (hH : Hok ws0) : Mq l yX11_found cX11_found 5 (some .int) 7 G Z [.ref (ad 0), .int a1, .int a2, .int a3] ws0 (PI G SC ad [4, 5, 18, 19, 20, 21, 22, 23] ws0 (fun r u => (xso SC ad u = (f_X11_found (xso SC ad ws0) a1.toInt a2.toInt a3.toInt).1) ∧ (r.toInt = (f_X11_found (xso SC ad ws0) a1.toInt a2.toInt a3.toInt).2) ∧ (Rel u) ∧ (Hok u))) := by
  refine Mq.start (by decide) (Nat.le_of_ble_eq_true rfl) ?_
  intro p e s m below meth c A ls C0 hZ h hl
  have hl : lv_has ls 5 [(0, .ref (ad 0)), (1, .int a1), (2, .int a2), (3, .int a3)] := hl
  have h : Wt G SC ad A s s.heap [] ws0 := ⟨h, hT⟩
  obtain ⟨args, hargs⟩ : ∃ z, z = ([.ref (ad 0), .int a1, .int a2, .int a3] : List Value).toArray := ⟨_, rfl⟩
  rw [← hargs] at C0 ⊢
  have C0 : Cx p s m args meth c RX11 cX11_found 5 (some .int) := C0
  obtain ⟨Q, hQ⟩ : ∃ z, z = MQ below ((PI G SC ad [4, 5, 18, 19, 20, 21, 22, 23] ws0 (fun r u => (xso SC ad u = (f_X11_found (xso SC ad ws0) a1.toInt a2.toInt a3.toInt).1) ∧ (r.toInt = (f_X11_found (xso SC ad ws0) a1.toInt a2.toInt a3.toInt).2) ∧ (Rel u) ∧ (Hok u))) A) args s 0 0 A := ⟨_, rfl⟩
  rw [← hQ]
  obtain ⟨FT, hFT⟩ : ∃ z, z = f_X11_found (xso SC ad ws0) a1.toInt a2.toInt a3.toInt := ⟨_, rfl⟩
  have HE : FT = f_X11_found (xso SC ad ws0) a1.toInt a2.toInt a3.toInt := hFT
  refine lv_aload_n C0.1 C0.2.1 dX11_found_0 rfl (lv_at hl 0 rfl) ?_
  refine lv_iload_n C0.1 C0.2.1 dX11_found_1 rfl (lv_at hl 1 rfl) ?_
  refine y_ci h (y_rV (As := [.int a1]) (rest := []) C0 hZ h (c_X11_isPerson l G Z ad _ h.2 a1) k_X11_isPerson q_903 q_23 q_901 kSC_0 rfl rfl rfl hl.1 rfl rfl (Nat.le_of_ble_eq_true rfl) dX11_found_2 ⟨Nat.le_of_ble_eq_true rfl, Nat.le_of_ble_eq_true rfl⟩ ⟨Nat.le_of_ble_eq_true rfl, Nat.le_of_ble_eq_true rfl⟩) (fun r_4 H locs ws_1 h u_2 p_3 => ?_)
  obtain ⟨e_5, e_6, e_7, e_8, e_9⟩ := p_3
  replace HE : FT = g1c_X11_found (xso SC ad ws_1) r_4.toInt a1.toInt a2.toInt a3.toInt := HE.trans (by rw [e_5, e_6]; rfl)
  replace HE : FT = g2b_X11_found (xso SC ad ws_1) r_4.toInt a1.toInt a2.toInt a3.toInt := HE.trans rfl
  refine y_if_eq (tgt := 15) C0 dX11_found_5 (by decide) (fun c_10 => ?_) (fun c_10 => ?_)
  · -- 5
    replace HE : FT = g3_X11_found (xso SC ad ws_1) := HE.trans (if_pos c_10)
    refine y_c2 (n := (-2)) C0 (by decide) dX11_found_15 (fun v_11 e_12 => ?_)
    replace HE : FT = ((xso SC ad ws_1), v_11.toInt) := HE.trans (by rw [e_12]; rfl)
    rw [hQ]
    exact y_iret C0 h (Fr.mono u_2 (by decide)) ⟨(congrArg Prod.fst (HE.symm.trans hFT)), (congrArg Prod.snd (HE.symm.trans hFT)), (Rel.fr (M := []) hR u_2 (by decide) (by decide)), (Hok.fr (M := []) hH u_2 (by decide))⟩ dX11_found_17
  · -- 5
    replace HE : FT = g4_X11_found (xso SC ad ws_1) a1.toInt a2.toInt a3.toInt := HE.trans (if_neg c_10)
    refine lv_iload_n C0.1 C0.2.1 dX11_found_8 rfl (lv_at hl 2 rfl) ?_
    refine y_ci h (y_rS (As := [.int a2]) (rest := []) C0 hZ h (c_X11_isTray l G Z ad _ h.2 a2) k_X11_isTray q_998 q_997 hl.1 rfl rfl (Nat.le_of_ble_eq_true rfl) dX11_found_9 ⟨Nat.le_of_ble_eq_true rfl, Nat.le_of_ble_eq_true rfl⟩ ⟨Nat.le_of_ble_eq_true rfl, Nat.le_of_ble_eq_true rfl⟩) (fun r_16 H locs ws_13 h u_14 p_15 => ?_)
    obtain ⟨e_17, e_18, e_19, e_20, e_21⟩ := p_15
    replace HE : FT = g5c_X11_found (xso SC ad ws_13) r_16.toInt a1.toInt a2.toInt a3.toInt := HE.trans (by rw [e_17, e_18]; rfl)
    replace HE : FT = g6b_X11_found (xso SC ad ws_13) r_16.toInt a1.toInt a2.toInt a3.toInt := HE.trans rfl
    refine y_if_ne (tgt := 18) C0 dX11_found_12 (by decide) (fun c_22 => ?_) (fun c_22 => ?_)
    · -- 12
      replace HE : FT = g7_X11_found (xso SC ad ws_13) a1.toInt a2.toInt a3.toInt := HE.trans (if_neg c_22)
      refine lv_aload_n C0.1 C0.2.1 dX11_found_18 rfl (lv_at hl 0 rfl) ?_
      refine tg_X11_trays C0 h kSC_0 q_524 dX11_found_19 ?_
      refine lv_iload_n C0.1 C0.2.1 dX11_found_22 rfl (lv_at hl 2 rfl) ?_
      refine y_aald C0 h kSC_115 rfl rfl (by decide) (o28_58 e_19 e_20 e_21 c_22) (o28_59 e_19 e_20 e_21 c_22) dX11_found_23 ?_
      obtain ⟨i_23, hi_23, ei_23⟩ : ∃ j : Nat, Kd SC j 42 ∧ j = 107 + 2 * a2.toInt.toNat := ⟨_, aSC_44 (o28_60 e_19 e_20 e_21 c_22), rfl⟩
      rw [← ei_23]
      refine lv_astore (lv' := [(4, .ref (ad i_23)), (0, .ref (ad 0)), (1, .int a1), (2, .int a2), (3, .int a3)]) C0.1 C0.2.1 dX11_found_24 hl (by decide) rfl (fun ls hl => ?_)
      refine lv_aload C0.1 C0.2.1 dX11_found_26 (lv_at hl 0 rfl) ?_
      refine tg_X10_size C0 h hi_23 q_502 dX11_found_28 (fun v_24 e_25 e_26 e_27 => ?_)
      replace HE : FT = g9b_X11_found (xso SC ad ws_13) v_24.toInt a1.toInt a3.toInt i_23 := HE.trans (by rw [(xg0 e_25 : v_24.toInt = (xso SC ad ws_13) 0 i_23 2), ei_23]; rfl)
      refine y_if_ge (tgt := 37) C0 dX11_found_31 (by decide) (fun c_28 => ?_) (fun c_28 => ?_)
      · -- 31
        replace HE : FT = g10_X11_found (xso SC ad ws_13) a1.toInt a3.toInt i_23 := HE.trans (if_neg (Int.not_lt.mpr c_28))
        refine lv_aload C0.1 C0.2.1 dX11_found_37 (lv_at hl 0 rfl) ?_
        refine tg_X10_size C0 h hi_23 q_502 dX11_found_39 (fun v_29 e_30 e_31 e_32 => ?_)
        have qh_33 : v_29.toInt = v_24.toInt := congrArg Int32.toInt (e_30.symm.trans (Eq.trans rfl e_25))
        refine y_c2 (n := 10) C0 (by decide) dX11_found_42 (fun v_34 e_35 => ?_)
        replace HE : FT = g12b_X11_found (xso SC ad ws_13) v_29.toInt a1.toInt a3.toInt i_23 := HE.trans (by rw [(xg0 e_30 : v_29.toInt = (xso SC ad ws_13) 0 i_23 2)]; rfl)
        refine y_icmp_le (tgt := 50) C0 dX11_found_44 (by decide) (fun c_36 => ?_) (fun c_36 => ?_)
        · -- 44
          replace HE : FT = g13_X11_found (xso SC ad ws_13) a1.toInt a3.toInt i_23 := HE.trans (if_neg (o28_176 e_26 e_27 c_28 e_31 e_32 qh_33 e_35 c_36))
          refine lv_aload C0.1 C0.2.1 dX11_found_50 (lv_at hl 0 rfl) ?_
          refine lv_aload_n C0.1 C0.2.1 dX11_found_52 rfl (lv_at hl 1 rfl) ?_
          refine tg_X11_now C0 h kSC_0 q_515 dX11_found_53 ?_
          refine y_ci h (y_rV (As := []) (rest := [.ref (ad i_23)]) C0 hZ h (c_X0_crossings l G Z ad _ h.2 1 kSC_1) k_X0_crossings q_918 q_919 q_917 kSC_1 rfl rfl rfl hl.1 rfl rfl (Nat.le_of_ble_eq_true rfl) dX11_found_56 ⟨Nat.le_of_ble_eq_true rfl, Nat.le_of_ble_eq_true rfl⟩ ⟨Nat.le_of_ble_eq_true rfl, Nat.le_of_ble_eq_true rfl⟩) (fun r_40 H locs ws_37 h u_38 p_39 => ?_)
          obtain ⟨e_41, e_42, e_43, e_44⟩ := p_39
          replace HE : FT = g15c_X11_found (xso SC ad ws_37) r_40.toInt i_23 a1.toInt a3.toInt := HE.trans (by rw [e_41, e_42]; rfl)
          refine y_ci h (y_rV (As := [.int r_40]) (rest := []) C0 hZ h (c_X10_allBelow l G Z ad _ h.2 i_23 hi_23 r_40) k_X10_allBelow q_1279 q_1280 q_1278 hi_23 rfl rfl rfl hl.1 rfl rfl (Nat.le_of_ble_eq_true rfl) dX11_found_59 ⟨Nat.le_of_ble_eq_true rfl, Nat.le_of_ble_eq_true rfl⟩ ⟨Nat.le_of_ble_eq_true rfl, Nat.le_of_ble_eq_true rfl⟩) (fun r_48 H locs ws_45 h u_46 p_47 => ?_)
          obtain ⟨e_49, e_50, e_51, e_52⟩ := p_47
          replace HE : FT = g16c_X11_found (xso SC ad ws_45) r_48.toInt a1.toInt a3.toInt i_23 := HE.trans (by rw [e_49, e_50]; rfl)
          replace HE : FT = g17b_X11_found (xso SC ad ws_45) r_48.toInt a1.toInt a3.toInt i_23 := HE.trans rfl
          refine y_if_eq (tgt := 75) C0 dX11_found_62 (by decide) (fun c_53 => ?_) (fun c_53 => ?_)
          · -- 62
            replace HE : FT = g18_X11_found (xso SC ad ws_45) := HE.trans (if_pos c_53)
            refine y_c2 (n := (-3)) C0 (by decide) dX11_found_75 (fun v_54 e_55 => ?_)
            replace HE : FT = ((xso SC ad ws_45), v_54.toInt) := HE.trans (by rw [e_55]; rfl)
            rw [hQ]
            exact y_iret C0 h (Fr.tr (Fr.tr (Fr.tr (Fr.mono u_2 (by decide)) (Fr.mono u_14 (by decide))) (Fr.mono u_38 (by decide))) (Fr.mono u_46 (by decide))) ⟨(congrArg Prod.fst (HE.symm.trans hFT)), (congrArg Prod.snd (HE.symm.trans hFT)), (Rel.fr (M := []) hR (Fr.tr (Fr.tr (Fr.tr u_2 u_14) u_38) u_46) (by decide) (by decide)), (Hok.fr (M := []) hH (Fr.tr (Fr.tr (Fr.tr u_2 u_14) u_38) u_46) (by decide))⟩ dX11_found_77
          · -- 62
            replace HE : FT = g19_X11_found (xso SC ad ws_45) a1.toInt a3.toInt i_23 := HE.trans (if_neg c_53)
            refine lv_iload_n C0.1 C0.2.1 dX11_found_65 rfl (lv_at hl 4 rfl) ?_
            replace HE : FT = g20b_X11_found (xso SC ad ws_45) a3.toInt a1.toInt i_23 := HE.trans rfl
            refine y_if_lt (tgt := 75) C0 dX11_found_66 (by decide) (fun c_56 => ?_) (fun c_56 => ?_)
            · -- 66
              replace HE : FT = g21_X11_found (xso SC ad ws_45) := HE.trans (if_pos c_56)
              refine y_c2 (n := (-3)) C0 (by decide) dX11_found_75 (fun v_57 e_58 => ?_)
              replace HE : FT = ((xso SC ad ws_45), v_57.toInt) := HE.trans (by rw [e_58]; rfl)
              rw [hQ]
              exact y_iret C0 h (Fr.tr (Fr.tr (Fr.tr (Fr.mono u_2 (by decide)) (Fr.mono u_14 (by decide))) (Fr.mono u_38 (by decide))) (Fr.mono u_46 (by decide))) ⟨(congrArg Prod.fst (HE.symm.trans hFT)), (congrArg Prod.snd (HE.symm.trans hFT)), (Rel.fr (M := []) hR (Fr.tr (Fr.tr (Fr.tr u_2 u_14) u_38) u_46) (by decide) (by decide)), (Hok.fr (M := []) hH (Fr.tr (Fr.tr (Fr.tr u_2 u_14) u_38) u_46) (by decide))⟩ dX11_found_77
            · -- 66
              replace HE : FT = g22_X11_found (xso SC ad ws_45) a1.toInt a3.toInt i_23 := HE.trans (if_neg (Int.not_lt.mpr c_56))
              refine lv_iload_n C0.1 C0.2.1 dX11_found_69 rfl (lv_at hl 4 rfl) ?_
              refine y_c2 (n := 30) C0 (by decide) dX11_found_70 (fun v_59 e_60 => ?_)
              replace HE : FT = g23b_X11_found (xso SC ad ws_45) a3.toInt a1.toInt i_23 := HE.trans rfl
              refine y_icmp_le (tgt := 78) C0 dX11_found_72 (by decide) (fun c_61 => ?_) (fun c_61 => ?_)
              · -- 72
                replace HE : FT = g24_X11_found (xso SC ad ws_45) a1.toInt a3.toInt i_23 := HE.trans (if_neg (o28_81 c_56 e_60 c_61))
                refine lv_aload_n C0.1 C0.2.1 dX11_found_78 rfl (lv_at hl 1 rfl) ?_
                refine tg_X11_spread C0 h kSC_0 q_522 dX11_found_79 ?_
                refine lv_aload_n C0.1 C0.2.1 dX11_found_82 rfl (lv_at hl 1 rfl) ?_
                refine tg_X11_now C0 h kSC_0 q_515 dX11_found_83 ?_
                refine tg_X0_folk C0 h kSC_1 q_249 dX11_found_86 ?_
                refine lv_iload_n C0.1 C0.2.1 dX11_found_89 rfl (lv_at hl 2 rfl) ?_
                refine y_ci h (y_rV (As := [.int a1]) (rest := [.ref (ad 83)]) C0 hZ h (c_X1_stand l G Z ad _ h.2 10 kSC_10 a1 (o28_8 e_7 e_8 e_9 c_10) (o28_9 e_7 e_8 e_9 c_10)) k_X1_stand q_1071 q_1072 q_1070 kSC_10 rfl rfl rfl hl.1 rfl rfl (Nat.le_of_ble_eq_true rfl) dX11_found_90 ⟨Nat.le_of_ble_eq_true rfl, Nat.le_of_ble_eq_true rfl⟩ ⟨Nat.le_of_ble_eq_true rfl, Nat.le_of_ble_eq_true rfl⟩) (fun r_65 H locs ws_62 h u_63 p_64 => ?_)
                obtain ⟨e_66, e_67, e_68, e_69⟩ := p_64
                replace HE : FT = g26c_X11_found (xso SC ad ws_62) r_65.toInt a3.toInt i_23 := HE.trans (by rw [e_66, e_67]; rfl)
                refine lv_aload C0.1 C0.2.1 dX11_found_93 (lv_at hl 0 rfl) ?_
                refine lv_iload_n C0.1 C0.2.1 dX11_found_95 rfl (lv_at hl 4 rfl) ?_
                refine y_ci h (y_rV (As := [.int r_65, .ref (ad i_23), .int a3]) (rest := []) C0 hZ h (c_X8_whereByEnvelopes l G Z ad _ h.2 r_65 i_23 hi_23 a3 (o28_10 e_68 e_69) (o28_11 e_68 e_69) (o28_83 c_56 e_60 c_61) (o28_178 c_56 e_60 c_61) (fbd_lo (Eq.trans (Eq.trans (Fr.fI u_63 hi_23 (by decide)) (Eq.trans (Fr.fI u_46 hi_23 (by decide)) (Fr.fI u_38 hi_23 (by decide)))) e_25) (o28_179 e_26 e_27 c_28 e_31 e_32 qh_33 e_35 c_36)) (fbd_hi (Eq.trans (Eq.trans (Fr.fI u_63 hi_23 (by decide)) (Eq.trans (Fr.fI u_46 hi_23 (by decide)) (Fr.fI u_38 hi_23 (by decide)))) e_25) (o28_180 e_26 e_27 c_28 e_31 e_32 qh_33 e_35 c_36))) k_X8_whereByEnvelopes q_1347 q_1348 q_1346 kSC_83 rfl rfl rfl hl.1 rfl rfl (Nat.le_of_ble_eq_true rfl) dX11_found_96 ⟨Nat.le_of_ble_eq_true rfl, Nat.le_of_ble_eq_true rfl⟩ ⟨Nat.le_of_ble_eq_true rfl, Nat.le_of_ble_eq_true rfl⟩) (fun r_73 H locs ws_70 h u_71 p_72 => ?_)
                obtain ⟨e_74, e_75⟩ := p_72
                replace HE : FT = g27c_X11_found (xso SC ad ws_70) r_73.toInt := HE.trans (by rw [e_74, e_75]; rfl)
                replace HE : FT = ((xso SC ad ws_70), r_73.toInt) := HE.trans rfl
                rw [hQ]
                exact y_iret C0 h (Fr.tr (Fr.tr (Fr.tr (Fr.tr (Fr.tr (Fr.mono u_2 (by decide)) (Fr.mono u_14 (by decide))) (Fr.mono u_38 (by decide))) (Fr.mono u_46 (by decide))) (Fr.mono u_63 (by decide))) u_71) ⟨(congrArg Prod.fst (HE.symm.trans hFT)), (congrArg Prod.snd (HE.symm.trans hFT)), (Rel.fr (M := [4, 5, 18, 19, 20, 21, 22, 23]) hR (Fr.tr (Fr.tr (Fr.tr (Fr.tr (Fr.tr (Fr.mono u_2 (by decide)) (Fr.mono u_14 (by decide))) (Fr.mono u_38 (by decide))) (Fr.mono u_46 (by decide))) (Fr.mono u_63 (by decide))) u_71) (by decide) (by decide)), (Hok.fr (M := [4, 5, 18, 19, 20, 21, 22, 23]) hH (Fr.tr (Fr.tr (Fr.tr (Fr.tr (Fr.tr (Fr.mono u_2 (by decide)) (Fr.mono u_14 (by decide))) (Fr.mono u_38 (by decide))) (Fr.mono u_46 (by decide))) (Fr.mono u_63 (by decide))) u_71) (by decide))⟩ dX11_found_99
              · -- 72
                replace HE : FT = g25_X11_found (xso SC ad ws_45) := HE.trans (if_pos (o28_82 c_56 e_60 c_61))
                refine y_c2 (n := (-3)) C0 (by decide) dX11_found_75 (fun v_76 e_77 => ?_)
                replace HE : FT = ((xso SC ad ws_45), v_76.toInt) := HE.trans (by rw [e_77]; rfl)
                rw [hQ]
                exact y_iret C0 h (Fr.tr (Fr.tr (Fr.tr (Fr.mono u_2 (by decide)) (Fr.mono u_14 (by decide))) (Fr.mono u_38 (by decide))) (Fr.mono u_46 (by decide))) ⟨(congrArg Prod.fst (HE.symm.trans hFT)), (congrArg Prod.snd (HE.symm.trans hFT)), (Rel.fr (M := []) hR (Fr.tr (Fr.tr (Fr.tr u_2 u_14) u_38) u_46) (by decide) (by decide)), (Hok.fr (M := []) hH (Fr.tr (Fr.tr (Fr.tr u_2 u_14) u_38) u_46) (by decide))⟩ dX11_found_77
        · -- 44
          replace HE : FT = g14_X11_found (xso SC ad ws_13) := HE.trans (if_pos (o28_177 e_26 e_27 c_28 e_31 e_32 qh_33 e_35 c_36))
          refine y_c2 (n := (-4)) C0 (by decide) dX11_found_47 (fun v_78 e_79 => ?_)
          replace HE : FT = ((xso SC ad ws_13), v_78.toInt) := HE.trans (by rw [e_79]; rfl)
          rw [hQ]
          exact y_iret C0 h (Fr.tr (Fr.mono u_2 (by decide)) (Fr.mono u_14 (by decide))) ⟨(congrArg Prod.fst (HE.symm.trans hFT)), (congrArg Prod.snd (HE.symm.trans hFT)), (Rel.fr (M := []) hR (Fr.tr u_2 u_14) (by decide) (by decide)), (Hok.fr (M := []) hH (Fr.tr u_2 u_14) (by decide))⟩ dX11_found_49
      · -- 31
        replace HE : FT = g11_X11_found (xso SC ad ws_13) := HE.trans (if_pos c_28)
        refine y_c2 (n := (-6)) C0 (by decide) dX11_found_34 (fun v_80 e_81 => ?_)
        replace HE : FT = ((xso SC ad ws_13), v_80.toInt) := HE.trans (by rw [e_81]; rfl)
        rw [hQ]
        exact y_iret C0 h (Fr.tr (Fr.mono u_2 (by decide)) (Fr.mono u_14 (by decide))) ⟨(congrArg Prod.fst (HE.symm.trans hFT)), (congrArg Prod.snd (HE.symm.trans hFT)), (Rel.fr (M := []) hR (Fr.tr u_2 u_14) (by decide) (by decide)), (Hok.fr (M := []) hH (Fr.tr u_2 u_14) (by decide))⟩ dX11_found_36
    · -- 12
      replace HE : FT = g8_X11_found (xso SC ad ws_13) := HE.trans (if_pos c_22)
      refine y_c2 (n := (-2)) C0 (by decide) dX11_found_15 (fun v_82 e_83 => ?_)
      replace HE : FT = ((xso SC ad ws_13), v_82.toInt) := HE.trans (by rw [e_83]; rfl)
      rw [hQ]
      exact y_iret C0 h (Fr.tr (Fr.mono u_2 (by decide)) (Fr.mono u_14 (by decide))) ⟨(congrArg Prod.fst (HE.symm.trans hFT)), (congrArg Prod.snd (HE.symm.trans hFT)), (Rel.fr (M := []) hR (Fr.tr u_2 u_14) (by decide) (by decide)), (Hok.fr (M := []) hH (Fr.tr u_2 u_14) (by decide))⟩ dX11_found_17
noncomputable def g3_X11_chase (s : XS) : XR := (s, ((-2)))
noncomputable def g12_X11_chase (s : XS) : XR := (s, ((-1)))
noncomputable def g16_X11_chase (R25 : XS → Int → Int → Int → Int → Int → XR) (s : XS) (a1 : Int) (a2 : Int) (a3 : Int) (a4 : Int) (x5_25 : Int) : XR := R25 s a1 a2 a3 a4 ((x5_25 + 1))
noncomputable def g17_X11_chase (s : XS) (x5_25 : Int) : XR := (s, x5_25)
noncomputable def g15b_X11_chase (R25 : XS → Int → Int → Int → Int → Int → XR) (s : XS) (v_56 : Int) (a1 : Int) (a2 : Int) (a3 : Int) (a4 : Int) (x5_25 : Int) : XR := if v_56 = 0 then g16_X11_chase R25 s a1 a2 a3 a4 x5_25 else g17_X11_chase s x5_25
noncomputable def g14c_X11_chase (R25 : XS → Int → Int → Int → Int → Int → XR) (s : XS) (r_48 : Int) (a1 : Int) (a2 : Int) (a3 : Int) (a4 : Int) (x5_25 : Int) : XR := g15b_X11_chase R25 s ((Xiand (Xishr r_48 a3) 1)) a1 a2 a3 a4 x5_25
noncomputable def g13_X11_chase (R25 : XS → Int → Int → Int → Int → Int → XR) (s : XS) (a1 : Int) (a2 : Int) (a3 : Int) (a4 : Int) (x5_25 : Int) : XR := g14c_X11_chase R25 ((fm_X3_catching s ((4 * a1) + a2) a4 x5_25).1) (((fm_X3_catching s ((4 * a1) + a2) a4 x5_25).2)) a1 a2 a3 a4 x5_25
noncomputable def g11b_X11_chase (R25 : XS → Int → Int → Int → Int → Int → XR) (s : XS) (x5_25 : Int) (a1 : Int) (a2 : Int) (a3 : Int) (a4 : Int) : XR := if 30 < x5_25 then g12_X11_chase s else g13_X11_chase R25 s a1 a2 a3 a4 x5_25
noncomputable def g10l_X11_chase (R25 : XS → Int → Int → Int → Int → Int → XR) (s : XS) (a1 : Int) (a2 : Int) (a3 : Int) (a4 : Int) (x5_25 : Int) : XR := g11b_X11_chase R25 s x5_25 a1 a2 a3 a4
noncomputable def L9_X11_chase (n : Nat) : XS → Int → Int → Int → Int → Int → XR := Nat.rec (motive := fun _ => XS → Int → Int → Int → Int → Int → XR) (fun s _ _ _ _ _ => (s, 0)) (fun _ R25 => g10l_X11_chase R25) n
noncomputable def g7_X11_chase (s : XS) (a1 : Int) (a2 : Int) (a3 : Int) (a4 : Int) : XR := L9_X11_chase (Int.toNat (31 - 0 + 1)) s a1 a2 a3 a4 0
noncomputable def g8_X11_chase (s : XS) : XR := (s, ((-2)))
noncomputable def g6b_X11_chase (s : XS) (r_16 : Int) (a1 : Int) (a2 : Int) (a3 : Int) (a4 : Int) : XR := if r_16 = 0 then g8_X11_chase s else g7_X11_chase s a1 a2 a3 a4
noncomputable def g5c_X11_chase (s : XS) (r_16 : Int) (a1 : Int) (a2 : Int) (a3 : Int) (a4 : Int) : XR := g6b_X11_chase s r_16 a1 a2 a3 a4
noncomputable def g4_X11_chase (s : XS) (a1 : Int) (a2 : Int) (a3 : Int) (a4 : Int) : XR := g5c_X11_chase ((f_X11_isStand s a3 a4).1) (((f_X11_isStand s a3 a4).2)) a1 a2 a3 a4
noncomputable def g2b_X11_chase (s : XS) (r_4 : Int) (a1 : Int) (a2 : Int) (a3 : Int) (a4 : Int) : XR := if r_4 = 0 then g3_X11_chase s else g4_X11_chase s a1 a2 a3 a4
noncomputable def g1c_X11_chase (s : XS) (r_4 : Int) (a1 : Int) (a2 : Int) (a3 : Int) (a4 : Int) : XR := g2b_X11_chase s r_4 a1 a2 a3 a4
noncomputable def f_X11_chase (s : XS) (a1 : Int) (a2 : Int) (a3 : Int) (a4 : Int) : XR := g1c_X11_chase ((f_X11_isStand s a1 a2).1) (((f_X11_isStand s a1 a2).2)) a1 a2 a3 a4
set_option maxHeartbeats 4000000 in
set_option maxRecDepth 100000 in
theorem c_X11_chase (l : Launch) (G : GG) (Z : RZ) (ad : Nat → Nat) (ws0 : va_W) (hT : Ty G SC ad ws0) (a1 : Int32) (a2 : Int32) (a3 : Int32) (a4 : Int32) (hR : Rel ws0) (hH : Hok ws0) : Mq l yX11_chase cX11_chase 6 (some .int) 5 G Z [.ref (ad 0), .int a1, .int a2, .int a3, .int a4] ws0 (PI G SC ad [39, 40, 41] ws0 (fun r u => (xso SC ad u = (f_X11_chase (xso SC ad ws0) a1.toInt a2.toInt a3.toInt a4.toInt).1) ∧ (r.toInt = (f_X11_chase (xso SC ad ws0) a1.toInt a2.toInt a3.toInt a4.toInt).2) ∧ ((-2) ≤ r.toInt) ∧ (r.toInt ≤ 30) ∧ (Rel u) ∧ (Hok u))) := by
  refine Mq.start (by decide) (Nat.le_of_ble_eq_true rfl) ?_
  intro p e s m below meth c A ls C0 hZ h hl
  have hl : lv_has ls 6 [(0, .ref (ad 0)), (1, .int a1), (2, .int a2), (3, .int a3), (4, .int a4)] := hl
  have h : Wt G SC ad A s s.heap [] ws0 := ⟨h, hT⟩
  obtain ⟨args, hargs⟩ : ∃ z, z = ([.ref (ad 0), .int a1, .int a2, .int a3, .int a4] : List Value).toArray := ⟨_, rfl⟩
  rw [← hargs] at C0 ⊢
  have C0 : Cx p s m args meth c RX11 cX11_chase 6 (some .int) := C0
  obtain ⟨Q, hQ⟩ : ∃ z, z = MQ below ((PI G SC ad [39, 40, 41] ws0 (fun r u => (xso SC ad u = (f_X11_chase (xso SC ad ws0) a1.toInt a2.toInt a3.toInt a4.toInt).1) ∧ (r.toInt = (f_X11_chase (xso SC ad ws0) a1.toInt a2.toInt a3.toInt a4.toInt).2) ∧ ((-2) ≤ r.toInt) ∧ (r.toInt ≤ 30) ∧ (Rel u) ∧ (Hok u))) A) args s 0 0 A := ⟨_, rfl⟩
  rw [← hQ]
  obtain ⟨FT, hFT⟩ : ∃ z, z = f_X11_chase (xso SC ad ws0) a1.toInt a2.toInt a3.toInt a4.toInt := ⟨_, rfl⟩
  have HE : FT = f_X11_chase (xso SC ad ws0) a1.toInt a2.toInt a3.toInt a4.toInt := hFT
  refine lv_aload_n C0.1 C0.2.1 dX11_chase_0 rfl (lv_at hl 0 rfl) ?_
  refine lv_iload_n C0.1 C0.2.1 dX11_chase_1 rfl (lv_at hl 1 rfl) ?_
  refine lv_iload_n C0.1 C0.2.1 dX11_chase_2 rfl (lv_at hl 2 rfl) ?_
  refine y_ci h (y_rV (As := [.int a1, .int a2]) (rest := []) C0 hZ h (c_X11_isStand l G Z ad _ h.2 a1 a2) k_X11_isStand q_911 q_24 q_909 kSC_0 rfl rfl rfl hl.1 rfl rfl (Nat.le_of_ble_eq_true rfl) dX11_chase_3 ⟨Nat.le_of_ble_eq_true rfl, Nat.le_of_ble_eq_true rfl⟩ ⟨Nat.le_of_ble_eq_true rfl, Nat.le_of_ble_eq_true rfl⟩) (fun r_4 H locs ws_1 h u_2 p_3 => ?_)
  obtain ⟨e_5, e_6, e_7, e_8, e_9⟩ := p_3
  replace HE : FT = g1c_X11_chase (xso SC ad ws_1) r_4.toInt a1.toInt a2.toInt a3.toInt a4.toInt := HE.trans (by rw [e_5, e_6]; rfl)
  replace HE : FT = g2b_X11_chase (xso SC ad ws_1) r_4.toInt a1.toInt a2.toInt a3.toInt a4.toInt := HE.trans rfl
  refine y_if_eq (tgt := 19) C0 dX11_chase_6 (by decide) (fun c_10 => ?_) (fun c_10 => ?_)
  · -- 6
    replace HE : FT = g3_X11_chase (xso SC ad ws_1) := HE.trans (if_pos c_10)
    refine y_c2 (n := (-2)) C0 (by decide) dX11_chase_19 (fun v_11 e_12 => ?_)
    replace HE : FT = ((xso SC ad ws_1), v_11.toInt) := HE.trans (by rw [e_12]; rfl)
    rw [hQ]
    exact y_iret C0 h (Fr.mono u_2 (by decide)) ⟨(congrArg Prod.fst (HE.symm.trans hFT)), (congrArg Prod.snd (HE.symm.trans hFT)), (o28_46 e_12), (o28_181 e_12), (Rel.fr (M := []) hR u_2 (by decide) (by decide)), (Hok.fr (M := []) hH u_2 (by decide))⟩ dX11_chase_21
  · -- 6
    replace HE : FT = g4_X11_chase (xso SC ad ws_1) a1.toInt a2.toInt a3.toInt a4.toInt := HE.trans (if_neg c_10)
    refine lv_aload_n C0.1 C0.2.1 dX11_chase_9 rfl (lv_at hl 0 rfl) ?_
    refine lv_iload_n C0.1 C0.2.1 dX11_chase_10 rfl (lv_at hl 3 rfl) ?_
    refine lv_iload C0.1 C0.2.1 dX11_chase_11 (lv_at hl 4 rfl) ?_
    refine y_ci h (y_rV (As := [.int a3, .int a4]) (rest := []) C0 hZ h (c_X11_isStand l G Z ad _ h.2 a3 a4) k_X11_isStand q_911 q_24 q_909 kSC_0 rfl rfl rfl hl.1 rfl rfl (Nat.le_of_ble_eq_true rfl) dX11_chase_13 ⟨Nat.le_of_ble_eq_true rfl, Nat.le_of_ble_eq_true rfl⟩ ⟨Nat.le_of_ble_eq_true rfl, Nat.le_of_ble_eq_true rfl⟩) (fun r_16 H locs ws_13 h u_14 p_15 => ?_)
    obtain ⟨e_17, e_18, e_19, e_20, e_21⟩ := p_15
    replace HE : FT = g5c_X11_chase (xso SC ad ws_13) r_16.toInt a1.toInt a2.toInt a3.toInt a4.toInt := HE.trans (by rw [e_17, e_18]; rfl)
    replace HE : FT = g6b_X11_chase (xso SC ad ws_13) r_16.toInt a1.toInt a2.toInt a3.toInt a4.toInt := HE.trans rfl
    refine y_if_ne (tgt := 22) C0 dX11_chase_16 (by decide) (fun c_22 => ?_) (fun c_22 => ?_)
    · -- 16
      replace HE : FT = g7_X11_chase (xso SC ad ws_13) a1.toInt a2.toInt a3.toInt a4.toInt := HE.trans (if_neg c_22)
      refine y_c1 (n := 0) C0 (by decide) dX11_chase_22 (fun v_23 e_24 => ?_)
      refine lv_istore (lv' := [(5, .int v_23), (0, .ref (ad 0)), (1, .int a1), (2, .int a2), (3, .int a3), (4, .int a4)]) C0.1 C0.2.1 dX11_chase_23 hl (by decide) rfl (fun ls hl => ?_)
      have lp_28 : ∀ (n_30 : Nat) (x5_25 : Int32) (H : Heap) (locs : List Loc) (ls : Array Slot) (ws_26 : va_W), 31 - x5_25.toInt < (n_30 : Int) → 0 ≤ x5_25.toInt → x5_25.toInt ≤ 31 → (FT = L9_X11_chase n_30 (xso SC ad ws_26) a1.toInt a2.toInt a3.toInt a4.toInt x5_25.toInt) → Hok ws_26 → Wt G SC ad A s H locs ws_26 → Fr SC [39, 40, 41] ws_13 ws_26 → lv_has ls 6 [(5, .int x5_25), (0, .ref (ad 0)), (1, .int a1), (2, .int a2), (3, .int a3), (4, .int a4)] → W p l e (rmd 5 0 0) s m args below meth c H locs 0 0 Q (F0 m 25 ls []) := by
        intro n_30
        induction n_30 with
        | zero => intro x5_25 H locs ls ws_26 hn_31 b_32 b_33 HE hHl h hF_27 hl; exact ((o28_182 b_32 b_33 hn_31)).elim
        | succ n_30 ih_29 =>
          intro x5_25 H locs ls ws_26 hn_31 b_32 b_33 HE hHl h hF_27 hl
          obtain ⟨R25, hR25⟩ : ∃ z, z = L9_X11_chase n_30 := ⟨_, rfl⟩
          replace HE : FT = g10l_X11_chase R25 (xso SC ad ws_26) a1.toInt a2.toInt a3.toInt a4.toInt x5_25.toInt := HE.trans (by rw [hR25]; rfl)
          refine lv_iload C0.1 C0.2.1 dX11_chase_25 (lv_at hl 0 rfl) ?_
          refine y_c2 (n := 30) C0 (by decide) dX11_chase_27 (fun v_34 e_35 => ?_)
          replace HE : FT = g11b_X11_chase R25 (xso SC ad ws_26) x5_25.toInt a1.toInt a2.toInt a3.toInt a4.toInt := HE.trans rfl
          refine y_icmp_gt (tgt := 64) C0 dX11_chase_29 (by decide) (fun c_36 => ?_) (fun c_36 => ?_)
          · -- 29
            replace HE : FT = g12_X11_chase (xso SC ad ws_26) := HE.trans (if_pos (o28_183 b_32 b_33 hn_31 e_35 c_36))
            refine y_c1 (n := (-1)) C0 (by decide) dX11_chase_64 (fun v_37 e_38 => ?_)
            replace HE : FT = ((xso SC ad ws_26), v_37.toInt) := HE.trans (by rw [e_38]; rfl)
            rw [hQ]
            exact y_iret C0 h (Fr.tr (Fr.tr (Fr.mono u_2 (by decide)) (Fr.mono u_14 (by decide))) hF_27) ⟨(congrArg Prod.fst (HE.symm.trans hFT)), (congrArg Prod.snd (HE.symm.trans hFT)), (o28_185 e_38), (o28_186 e_38), (Rel.fr (M := [39, 40, 41]) hR (Fr.tr (Fr.tr (Fr.mono u_2 (by decide)) (Fr.mono u_14 (by decide))) hF_27) (by decide) (by decide)), hHl⟩ dX11_chase_65
          · -- 29
            replace HE : FT = g13_X11_chase R25 (xso SC ad ws_26) a1.toInt a2.toInt a3.toInt a4.toInt x5_25.toInt := HE.trans (if_neg (o28_184 b_32 b_33 hn_31 e_35 c_36))
            refine lv_aload_n C0.1 C0.2.1 dX11_chase_32 rfl (lv_at hl 1 rfl) ?_
            refine tg_X11_hunt C0 h kSC_0 q_523 dX11_chase_33 ?_
            refine y_c1 (n := 4) C0 (by decide) dX11_chase_36 (fun v_39 e_40 => ?_)
            refine lv_iload_n C0.1 C0.2.1 dX11_chase_37 rfl (lv_at hl 2 rfl) ?_
            refine y_cmul (n := 4) C0 (o28_47 e_40) (o28_48 e_7 e_8 e_9 c_10 (le_min a1) (le_max a1) (le_min r_4) (le_max r_4) (le_min a2) (le_max a2)) (o28_49 e_7 e_8 e_9 c_10 (le_min a1) (le_max a1) (le_min r_4) (le_max r_4) (le_min a2) (le_max a2)) dX11_chase_38 (fun v_41 e_42 => ?_)
            refine lv_iload_n C0.1 C0.2.1 dX11_chase_39 rfl (lv_at hl 3 rfl) ?_
            refine y_add C0 (o28_50 e_7 e_8 e_9 c_10 e_42 (le_min v_41) (le_max v_41) (le_min a2) (le_max a2) (le_min r_4) (le_max r_4) (le_min a1) (le_max a1)) (o28_51 e_7 e_8 e_9 c_10 e_42 (le_min v_41) (le_max v_41) (le_min a2) (le_max a2) (le_min r_4) (le_max r_4) (le_min a1) (le_max a1)) dX11_chase_40 (fun v_43 e_44 => ?_)
            refine lv_iload C0.1 C0.2.1 dX11_chase_41 (lv_at hl 5 rfl) ?_
            refine lv_iload C0.1 C0.2.1 dX11_chase_43 (lv_at hl 0 rfl) ?_
            refine y_ci h (y_rV (As := [.int v_43, .int a4, .int x5_25]) (rest := []) C0 hZ h (c_X3_catching l G Z ad _ h.2 v_43 a4 x5_25 (o28_52 e_7 e_8 e_9 c_10 e_42 e_44) (o28_53 e_7 e_8 e_9 c_10 e_42 e_44) (o28_187 e_19 e_20 e_21 c_22) (o28_188 e_19 e_20 e_21 c_22) (o28_189 b_32 b_33 hn_31 e_35 c_36) (o28_190 b_32 b_33 hn_31 e_35 c_36) (Rel.fr (M := [39, 40, 41]) hR (Fr.tr (Fr.tr (Fr.mono u_2 (by decide)) (Fr.mono u_14 (by decide))) hF_27) (by decide) (by decide)) hHl) k_X3_catching q_1360 q_1361 q_1359 kSC_104 rfl rfl rfl hl.1 rfl rfl (Nat.le_of_ble_eq_true rfl) dX11_chase_45 ⟨Nat.le_of_ble_eq_true rfl, Nat.le_of_ble_eq_true rfl⟩ ⟨Nat.le_of_ble_eq_true rfl, Nat.le_of_ble_eq_true rfl⟩) (fun r_48 H locs ws_45 h u_46 p_47 => ?_)
            obtain ⟨e_49, e_50, e_51⟩ := p_47
            replace HE : FT = g14c_X11_chase R25 (xso SC ad ws_45) r_48.toInt a1.toInt a2.toInt a3.toInt a4.toInt x5_25.toInt := HE.trans (by rw [e_49, e_50, e_44, e_42]; rfl)
            refine lv_iload_n C0.1 C0.2.1 dX11_chase_48 rfl (lv_at hl 4 rfl) ?_
            refine xr_ishr C0 dX11_chase_49 (fun v_52 e_53 => ?_)
            refine y_c1 (n := 1) C0 (by decide) dX11_chase_50 (fun v_54 e_55 => ?_)
            refine xr_iand C0 dX11_chase_51 (fun v_56 e_57 => ?_)
            replace HE : FT = g15b_X11_chase R25 (xso SC ad ws_45) v_56.toInt a1.toInt a2.toInt a3.toInt a4.toInt x5_25.toInt := HE.trans (by rw [e_57, e_55, e_53]; rfl)
            refine y_if_eq (tgt := 58) C0 dX11_chase_52 (by decide) (fun c_58 => ?_) (fun c_58 => ?_)
            · -- 52
              replace HE : FT = g16_X11_chase R25 (xso SC ad ws_45) a1.toInt a2.toInt a3.toInt a4.toInt x5_25.toInt := HE.trans (if_pos c_58)
              refine y_inc (kp := 0) (n := 1) (fun v_59 => [(5, .int v_59), (0, .ref (ad 0)), (1, .int a1), (2, .int a2), (3, .int a3), (4, .int a4)]) C0 hl rfl (by decide) (by decide) (fun _ => rfl) (o28_191 b_32 b_33 hn_31 e_35 c_36 (le_min x5_25) (le_max x5_25) (le_min v_34) (le_max v_34)) (o28_192 b_32 b_33 hn_31 e_35 c_36 (le_min x5_25) (le_max x5_25) (le_min v_34) (le_max v_34)) dX11_chase_58 (fun v_59 ls e_60 hl => ?_)
              refine lv_goto (tgt := 25) C0.1 C0.2.1 dX11_chase_61 (by decide) ?_
              exact ih_29 v_59 _ _ _ _ (o28_193 b_32 b_33 hn_31 e_35 c_36 e_60) (o28_194 b_32 b_33 hn_31 e_35 c_36 e_60) (o28_195 b_32 b_33 hn_31 e_35 c_36 e_60) (((show FT = R25 (xso SC ad ws_45) a1.toInt a2.toInt a3.toInt a4.toInt v_59.toInt from HE.trans (by rw [e_60]; rfl)).trans (by rw [hR25]))) e_51 h (Fr.tr hF_27 u_46) (lv_sub hl [0, 1, 2, 3, 4, 5] rfl)
            · -- 52
              replace HE : FT = g17_X11_chase (xso SC ad ws_45) x5_25.toInt := HE.trans (if_neg c_58)
              refine lv_iload C0.1 C0.2.1 dX11_chase_55 (lv_at hl 0 rfl) ?_
              replace HE : FT = ((xso SC ad ws_45), x5_25.toInt) := HE.trans rfl
              rw [hQ]
              exact y_iret C0 h (Fr.tr (Fr.tr (Fr.tr (Fr.mono u_2 (by decide)) (Fr.mono u_14 (by decide))) hF_27) u_46) ⟨(congrArg Prod.fst (HE.symm.trans hFT)), (congrArg Prod.snd (HE.symm.trans hFT)), (o28_196 b_32 b_33 hn_31 e_35 c_36), (o28_190 b_32 b_33 hn_31 e_35 c_36), (Rel.fr (M := [39, 40, 41]) hR (Fr.tr (Fr.tr (Fr.tr (Fr.mono u_2 (by decide)) (Fr.mono u_14 (by decide))) hF_27) u_46) (by decide) (by decide)), e_51⟩ dX11_chase_57
      exact lp_28 ((31 - v_23.toInt + 1).toNat) v_23 _ _ _ _ (o28_197 e_24) (o28_23 e_24) (o28_198 e_24) ((show FT = L9_X11_chase (Int.toNat (31 - v_23.toInt + 1)) (xso SC ad ws_13) a1.toInt a2.toInt a3.toInt a4.toInt v_23.toInt from HE.trans (by rw [e_24]; rfl))) (Hok.fr (M := []) hH (Fr.tr u_2 u_14) (by decide)) h Fr.rf (lv_sub hl [0, 1, 2, 3, 4, 5] rfl)
    · -- 16
      replace HE : FT = g8_X11_chase (xso SC ad ws_13) := HE.trans (if_pos c_22)
      refine y_c2 (n := (-2)) C0 (by decide) dX11_chase_19 (fun v_61 e_62 => ?_)
      replace HE : FT = ((xso SC ad ws_13), v_61.toInt) := HE.trans (by rw [e_62]; rfl)
      rw [hQ]
      exact y_iret C0 h (Fr.tr (Fr.mono u_2 (by decide)) (Fr.mono u_14 (by decide))) ⟨(congrArg Prod.fst (HE.symm.trans hFT)), (congrArg Prod.snd (HE.symm.trans hFT)), (o28_46 e_62), (o28_181 e_62), (Rel.fr (M := []) hR (Fr.tr u_2 u_14) (by decide) (by decide)), (Hok.fr (M := []) hH (Fr.tr u_2 u_14) (by decide))⟩ dX11_chase_21
noncomputable def g3_X11_posts (s : XS) : XR := (s, ((-2)))
noncomputable def g6_X11_posts (s : XS) : XR := (s, ((-2)))
noncomputable def g12_X11_posts (s : XS) : XR := (s, ((-3)))
noncomputable def g17c_X11_posts (s : XS) (r_34 : Int) : XR := (s, r_34)
noncomputable def g15_X11_posts (s : XS) (a1 : Int) (a2 : Int) (a3 : Int) (a4 : Int) : XR := g17c_X11_posts ((fm_X3_catching s ((4 * a1) + a2) a3 a4).1) (((fm_X3_catching s ((4 * a1) + a2) a3 a4).2))
noncomputable def g16_X11_posts (s : XS) : XR := (s, ((-3)))
noncomputable def g14b_X11_posts (s : XS) (a4 : Int) (a1 : Int) (a2 : Int) (a3 : Int) : XR := if 30 < a4 then g16_X11_posts s else g15_X11_posts s a1 a2 a3 a4
noncomputable def g13_X11_posts (s : XS) (a1 : Int) (a2 : Int) (a3 : Int) (a4 : Int) : XR := g14b_X11_posts s a4 a1 a2 a3
noncomputable def g11b_X11_posts (s : XS) (a4 : Int) (a1 : Int) (a2 : Int) (a3 : Int) : XR := if a4 < 0 then g12_X11_posts s else g13_X11_posts s a1 a2 a3 a4
noncomputable def g9_X11_posts (s : XS) (a1 : Int) (a2 : Int) (a3 : Int) (a4 : Int) : XR := g11b_X11_posts s a4 a1 a2 a3
noncomputable def g10_X11_posts (s : XS) : XR := (s, ((-2)))
noncomputable def g8b_X11_posts (s : XS) (a3 : Int) (a1 : Int) (a2 : Int) (a4 : Int) : XR := if 3 < a3 then g10_X11_posts s else g9_X11_posts s a1 a2 a3 a4
noncomputable def g7_X11_posts (s : XS) (a1 : Int) (a2 : Int) (a3 : Int) (a4 : Int) : XR := g8b_X11_posts s a3 a1 a2 a4
noncomputable def g5b_X11_posts (s : XS) (a3 : Int) (a1 : Int) (a2 : Int) (a4 : Int) : XR := if a3 < 0 then g6_X11_posts s else g7_X11_posts s a1 a2 a3 a4
noncomputable def g4_X11_posts (s : XS) (a1 : Int) (a2 : Int) (a3 : Int) (a4 : Int) : XR := g5b_X11_posts s a3 a1 a2 a4
noncomputable def g2b_X11_posts (s : XS) (r_4 : Int) (a1 : Int) (a2 : Int) (a3 : Int) (a4 : Int) : XR := if r_4 = 0 then g3_X11_posts s else g4_X11_posts s a1 a2 a3 a4
noncomputable def g1c_X11_posts (s : XS) (r_4 : Int) (a1 : Int) (a2 : Int) (a3 : Int) (a4 : Int) : XR := g2b_X11_posts s r_4 a1 a2 a3 a4
noncomputable def f_X11_posts (s : XS) (a1 : Int) (a2 : Int) (a3 : Int) (a4 : Int) : XR := g1c_X11_posts ((f_X11_isStand s a1 a2).1) (((f_X11_isStand s a1 a2).2)) a1 a2 a3 a4
set_option maxHeartbeats 4000000 in
set_option maxRecDepth 100000 in
theorem c_X11_posts (l : Launch) (G : GG) (Z : RZ) (ad : Nat → Nat) (ws0 : va_W) (hT : Ty G SC ad ws0) (a1 : Int32) (a2 : Int32) (a3 : Int32) (a4 : Int32) (hR : Rel ws0) (hH : Hok ws0) : Mq l yX11_posts cX11_posts 5 (some .int) 5 G Z [.ref (ad 0), .int a1, .int a2, .int a3, .int a4] ws0 (PI G SC ad [39, 40, 41] ws0 (fun r u => (xso SC ad u = (f_X11_posts (xso SC ad ws0) a1.toInt a2.toInt a3.toInt a4.toInt).1) ∧ (r.toInt = (f_X11_posts (xso SC ad ws0) a1.toInt a2.toInt a3.toInt a4.toInt).2) ∧ (Rel u) ∧ (Hok u))) := by
  refine Mq.start (by decide) (Nat.le_of_ble_eq_true rfl) ?_
  intro p e s m below meth c A ls C0 hZ h hl
  have hl : lv_has ls 5 [(0, .ref (ad 0)), (1, .int a1), (2, .int a2), (3, .int a3), (4, .int a4)] := hl
  have h : Wt G SC ad A s s.heap [] ws0 := ⟨h, hT⟩
  obtain ⟨args, hargs⟩ : ∃ z, z = ([.ref (ad 0), .int a1, .int a2, .int a3, .int a4] : List Value).toArray := ⟨_, rfl⟩
  rw [← hargs] at C0 ⊢
  have C0 : Cx p s m args meth c RX11 cX11_posts 5 (some .int) := C0
  obtain ⟨Q, hQ⟩ : ∃ z, z = MQ below ((PI G SC ad [39, 40, 41] ws0 (fun r u => (xso SC ad u = (f_X11_posts (xso SC ad ws0) a1.toInt a2.toInt a3.toInt a4.toInt).1) ∧ (r.toInt = (f_X11_posts (xso SC ad ws0) a1.toInt a2.toInt a3.toInt a4.toInt).2) ∧ (Rel u) ∧ (Hok u))) A) args s 0 0 A := ⟨_, rfl⟩
  rw [← hQ]
  obtain ⟨FT, hFT⟩ : ∃ z, z = f_X11_posts (xso SC ad ws0) a1.toInt a2.toInt a3.toInt a4.toInt := ⟨_, rfl⟩
  have HE : FT = f_X11_posts (xso SC ad ws0) a1.toInt a2.toInt a3.toInt a4.toInt := hFT
  refine lv_aload_n C0.1 C0.2.1 dX11_posts_0 rfl (lv_at hl 0 rfl) ?_
  refine lv_iload_n C0.1 C0.2.1 dX11_posts_1 rfl (lv_at hl 1 rfl) ?_
  refine lv_iload_n C0.1 C0.2.1 dX11_posts_2 rfl (lv_at hl 2 rfl) ?_
  refine y_ci h (y_rV (As := [.int a1, .int a2]) (rest := []) C0 hZ h (c_X11_isStand l G Z ad _ h.2 a1 a2) k_X11_isStand q_911 q_24 q_909 kSC_0 rfl rfl rfl hl.1 rfl rfl (Nat.le_of_ble_eq_true rfl) dX11_posts_3 ⟨Nat.le_of_ble_eq_true rfl, Nat.le_of_ble_eq_true rfl⟩ ⟨Nat.le_of_ble_eq_true rfl, Nat.le_of_ble_eq_true rfl⟩) (fun r_4 H locs ws_1 h u_2 p_3 => ?_)
  obtain ⟨e_5, e_6, e_7, e_8, e_9⟩ := p_3
  replace HE : FT = g1c_X11_posts (xso SC ad ws_1) r_4.toInt a1.toInt a2.toInt a3.toInt a4.toInt := HE.trans (by rw [e_5, e_6]; rfl)
  replace HE : FT = g2b_X11_posts (xso SC ad ws_1) r_4.toInt a1.toInt a2.toInt a3.toInt a4.toInt := HE.trans rfl
  refine y_if_eq (tgt := 18) C0 dX11_posts_6 (by decide) (fun c_10 => ?_) (fun c_10 => ?_)
  · -- 6
    replace HE : FT = g3_X11_posts (xso SC ad ws_1) := HE.trans (if_pos c_10)
    refine y_c2 (n := (-2)) C0 (by decide) dX11_posts_18 (fun v_11 e_12 => ?_)
    replace HE : FT = ((xso SC ad ws_1), v_11.toInt) := HE.trans (by rw [e_12]; rfl)
    rw [hQ]
    exact y_iret C0 h (Fr.mono u_2 (by decide)) ⟨(congrArg Prod.fst (HE.symm.trans hFT)), (congrArg Prod.snd (HE.symm.trans hFT)), (Rel.fr (M := []) hR u_2 (by decide) (by decide)), (Hok.fr (M := []) hH u_2 (by decide))⟩ dX11_posts_20
  · -- 6
    replace HE : FT = g4_X11_posts (xso SC ad ws_1) a1.toInt a2.toInt a3.toInt a4.toInt := HE.trans (if_neg c_10)
    refine lv_iload_n C0.1 C0.2.1 dX11_posts_9 rfl (lv_at hl 3 rfl) ?_
    replace HE : FT = g5b_X11_posts (xso SC ad ws_1) a3.toInt a1.toInt a2.toInt a4.toInt := HE.trans rfl
    refine y_if_lt (tgt := 18) C0 dX11_posts_10 (by decide) (fun c_13 => ?_) (fun c_13 => ?_)
    · -- 10
      replace HE : FT = g6_X11_posts (xso SC ad ws_1) := HE.trans (if_pos c_13)
      refine y_c2 (n := (-2)) C0 (by decide) dX11_posts_18 (fun v_14 e_15 => ?_)
      replace HE : FT = ((xso SC ad ws_1), v_14.toInt) := HE.trans (by rw [e_15]; rfl)
      rw [hQ]
      exact y_iret C0 h (Fr.mono u_2 (by decide)) ⟨(congrArg Prod.fst (HE.symm.trans hFT)), (congrArg Prod.snd (HE.symm.trans hFT)), (Rel.fr (M := []) hR u_2 (by decide) (by decide)), (Hok.fr (M := []) hH u_2 (by decide))⟩ dX11_posts_20
    · -- 10
      replace HE : FT = g7_X11_posts (xso SC ad ws_1) a1.toInt a2.toInt a3.toInt a4.toInt := HE.trans (if_neg (Int.not_lt.mpr c_13))
      refine lv_iload_n C0.1 C0.2.1 dX11_posts_13 rfl (lv_at hl 3 rfl) ?_
      refine y_c1 (n := 3) C0 (by decide) dX11_posts_14 (fun v_16 e_17 => ?_)
      replace HE : FT = g8b_X11_posts (xso SC ad ws_1) a3.toInt a1.toInt a2.toInt a4.toInt := HE.trans rfl
      refine y_icmp_le (tgt := 21) C0 dX11_posts_15 (by decide) (fun c_18 => ?_) (fun c_18 => ?_)
      · -- 15
        replace HE : FT = g9_X11_posts (xso SC ad ws_1) a1.toInt a2.toInt a3.toInt a4.toInt := HE.trans (if_neg (o28_200 c_13 e_17 c_18))
        refine lv_iload C0.1 C0.2.1 dX11_posts_21 (lv_at hl 4 rfl) ?_
        replace HE : FT = g11b_X11_posts (xso SC ad ws_1) a4.toInt a1.toInt a2.toInt a3.toInt := HE.trans rfl
        refine y_if_lt (tgt := 33) C0 dX11_posts_23 (by decide) (fun c_19 => ?_) (fun c_19 => ?_)
        · -- 23
          replace HE : FT = g12_X11_posts (xso SC ad ws_1) := HE.trans (if_pos c_19)
          refine y_c2 (n := (-3)) C0 (by decide) dX11_posts_33 (fun v_20 e_21 => ?_)
          replace HE : FT = ((xso SC ad ws_1), v_20.toInt) := HE.trans (by rw [e_21]; rfl)
          rw [hQ]
          exact y_iret C0 h (Fr.mono u_2 (by decide)) ⟨(congrArg Prod.fst (HE.symm.trans hFT)), (congrArg Prod.snd (HE.symm.trans hFT)), (Rel.fr (M := []) hR u_2 (by decide) (by decide)), (Hok.fr (M := []) hH u_2 (by decide))⟩ dX11_posts_35
        · -- 23
          replace HE : FT = g13_X11_posts (xso SC ad ws_1) a1.toInt a2.toInt a3.toInt a4.toInt := HE.trans (if_neg (Int.not_lt.mpr c_19))
          refine lv_iload C0.1 C0.2.1 dX11_posts_26 (lv_at hl 4 rfl) ?_
          refine y_c2 (n := 30) C0 (by decide) dX11_posts_28 (fun v_22 e_23 => ?_)
          replace HE : FT = g14b_X11_posts (xso SC ad ws_1) a4.toInt a1.toInt a2.toInt a3.toInt := HE.trans rfl
          refine y_icmp_le (tgt := 36) C0 dX11_posts_30 (by decide) (fun c_24 => ?_) (fun c_24 => ?_)
          · -- 30
            replace HE : FT = g15_X11_posts (xso SC ad ws_1) a1.toInt a2.toInt a3.toInt a4.toInt := HE.trans (if_neg (o28_81 c_19 e_23 c_24))
            refine lv_aload_n C0.1 C0.2.1 dX11_posts_36 rfl (lv_at hl 0 rfl) ?_
            refine tg_X11_hunt C0 h kSC_0 q_523 dX11_posts_37 ?_
            refine y_c1 (n := 4) C0 (by decide) dX11_posts_40 (fun v_25 e_26 => ?_)
            refine lv_iload_n C0.1 C0.2.1 dX11_posts_41 rfl (lv_at hl 1 rfl) ?_
            refine y_cmul (n := 4) C0 (o28_47 e_26) (o28_48 e_7 e_8 e_9 c_10 (le_min a1) (le_max a1) (le_min r_4) (le_max r_4) (le_min a2) (le_max a2)) (o28_49 e_7 e_8 e_9 c_10 (le_min a1) (le_max a1) (le_min r_4) (le_max r_4) (le_min a2) (le_max a2)) dX11_posts_42 (fun v_27 e_28 => ?_)
            refine lv_iload_n C0.1 C0.2.1 dX11_posts_43 rfl (lv_at hl 2 rfl) ?_
            refine y_add C0 (o28_50 e_7 e_8 e_9 c_10 e_28 (le_min v_27) (le_max v_27) (le_min a2) (le_max a2) (le_min r_4) (le_max r_4) (le_min a1) (le_max a1)) (o28_51 e_7 e_8 e_9 c_10 e_28 (le_min v_27) (le_max v_27) (le_min a2) (le_max a2) (le_min r_4) (le_max r_4) (le_min a1) (le_max a1)) dX11_posts_44 (fun v_29 e_30 => ?_)
            refine lv_iload_n C0.1 C0.2.1 dX11_posts_45 rfl (lv_at hl 3 rfl) ?_
            refine lv_iload C0.1 C0.2.1 dX11_posts_46 (lv_at hl 4 rfl) ?_
            refine y_ci h (y_rV (As := [.int v_29, .int a3, .int a4]) (rest := []) C0 hZ h (c_X3_catching l G Z ad _ h.2 v_29 a3 a4 (o28_52 e_7 e_8 e_9 c_10 e_28 e_30) (o28_53 e_7 e_8 e_9 c_10 e_28 e_30) (o28_202 c_13 e_17 c_18) (o28_203 c_13 e_17 c_18) (o28_83 c_19 e_23 c_24) (o28_178 c_19 e_23 c_24) (Rel.fr (M := []) hR u_2 (by decide) (by decide)) (Hok.fr (M := []) hH u_2 (by decide))) k_X3_catching q_1360 q_1361 q_1359 kSC_104 rfl rfl rfl hl.1 rfl rfl (Nat.le_of_ble_eq_true rfl) dX11_posts_48 ⟨Nat.le_of_ble_eq_true rfl, Nat.le_of_ble_eq_true rfl⟩ ⟨Nat.le_of_ble_eq_true rfl, Nat.le_of_ble_eq_true rfl⟩) (fun r_34 H locs ws_31 h u_32 p_33 => ?_)
            obtain ⟨e_35, e_36, e_37⟩ := p_33
            replace HE : FT = g17c_X11_posts (xso SC ad ws_31) r_34.toInt := HE.trans (by rw [e_35, e_36, e_30, e_28]; rfl)
            replace HE : FT = ((xso SC ad ws_31), r_34.toInt) := HE.trans rfl
            rw [hQ]
            exact y_iret C0 h (Fr.tr (Fr.mono u_2 (by decide)) u_32) ⟨(congrArg Prod.fst (HE.symm.trans hFT)), (congrArg Prod.snd (HE.symm.trans hFT)), (Rel.fr (M := [39, 40, 41]) hR (Fr.tr (Fr.mono u_2 (by decide)) u_32) (by decide) (by decide)), e_37⟩ dX11_posts_51
          · -- 30
            replace HE : FT = g16_X11_posts (xso SC ad ws_1) := HE.trans (if_pos (o28_82 c_19 e_23 c_24))
            refine y_c2 (n := (-3)) C0 (by decide) dX11_posts_33 (fun v_38 e_39 => ?_)
            replace HE : FT = ((xso SC ad ws_1), v_38.toInt) := HE.trans (by rw [e_39]; rfl)
            rw [hQ]
            exact y_iret C0 h (Fr.mono u_2 (by decide)) ⟨(congrArg Prod.fst (HE.symm.trans hFT)), (congrArg Prod.snd (HE.symm.trans hFT)), (Rel.fr (M := []) hR u_2 (by decide) (by decide)), (Hok.fr (M := []) hH u_2 (by decide))⟩ dX11_posts_35
      · -- 15
        replace HE : FT = g10_X11_posts (xso SC ad ws_1) := HE.trans (if_pos (o28_201 c_13 e_17 c_18))
        refine y_c2 (n := (-2)) C0 (by decide) dX11_posts_18 (fun v_40 e_41 => ?_)
        replace HE : FT = ((xso SC ad ws_1), v_40.toInt) := HE.trans (by rw [e_41]; rfl)
        rw [hQ]
        exact y_iret C0 h (Fr.mono u_2 (by decide)) ⟨(congrArg Prod.fst (HE.symm.trans hFT)), (congrArg Prod.snd (HE.symm.trans hFT)), (Rel.fr (M := []) hR u_2 (by decide) (by decide)), (Hok.fr (M := []) hH u_2 (by decide))⟩ dX11_posts_20
noncomputable def g3_X11_numbers (s : XS) : XR := (s, ((-2)))
noncomputable def g6_X11_numbers (s : XS) : XR := (s, ((-2)))
noncomputable def g12_X11_numbers (s : XS) : XR := (s, ((-3)))
noncomputable def g17c_X11_numbers (s : XS) : XR := (s, 0)
noncomputable def g15_X11_numbers (s : XS) (a1 : Int) (a2 : Int) (a3 : Int) : XR := g17c_X11_numbers ((f_X10_lay s (107 + 2 * Int.toNat a1) a2 a3).1)
noncomputable def g16_X11_numbers (s : XS) : XR := (s, ((-3)))
noncomputable def g14b_X11_numbers (s : XS) (a3 : Int) (a1 : Int) (a2 : Int) : XR := if 40 < a3 then g16_X11_numbers s else g15_X11_numbers s a1 a2 a3
noncomputable def g13_X11_numbers (s : XS) (a1 : Int) (a2 : Int) (a3 : Int) : XR := g14b_X11_numbers s a3 a1 a2
noncomputable def g11b_X11_numbers (s : XS) (a3 : Int) (a1 : Int) (a2 : Int) : XR := if a3 < 0 then g12_X11_numbers s else g13_X11_numbers s a1 a2 a3
noncomputable def g9_X11_numbers (s : XS) (a1 : Int) (a2 : Int) (a3 : Int) : XR := g11b_X11_numbers s a3 a1 a2
noncomputable def g10_X11_numbers (s : XS) : XR := (s, ((-2)))
noncomputable def g8b_X11_numbers (s : XS) (a2 : Int) (a1 : Int) (a3 : Int) : XR := if 3 < a2 then g10_X11_numbers s else g9_X11_numbers s a1 a2 a3
noncomputable def g7_X11_numbers (s : XS) (a1 : Int) (a2 : Int) (a3 : Int) : XR := g8b_X11_numbers s a2 a1 a3
noncomputable def g5b_X11_numbers (s : XS) (a2 : Int) (a1 : Int) (a3 : Int) : XR := if a2 < 0 then g6_X11_numbers s else g7_X11_numbers s a1 a2 a3
noncomputable def g4_X11_numbers (s : XS) (a1 : Int) (a2 : Int) (a3 : Int) : XR := g5b_X11_numbers s a2 a1 a3
noncomputable def g2b_X11_numbers (s : XS) (r_4 : Int) (a1 : Int) (a2 : Int) (a3 : Int) : XR := if r_4 = 0 then g3_X11_numbers s else g4_X11_numbers s a1 a2 a3
noncomputable def g1c_X11_numbers (s : XS) (r_4 : Int) (a1 : Int) (a2 : Int) (a3 : Int) : XR := g2b_X11_numbers s r_4 a1 a2 a3
noncomputable def f_X11_numbers (s : XS) (a1 : Int) (a2 : Int) (a3 : Int) : XR := g1c_X11_numbers ((f_X11_isTray s a1).1) (((f_X11_isTray s a1).2)) a1 a2 a3
set_option maxHeartbeats 4000000 in
set_option maxRecDepth 100000 in
theorem c_X11_numbers (l : Launch) (G : GG) (Z : RZ) (ad : Nat → Nat) (ws0 : va_W) (hT : Ty G SC ad ws0) (a1 : Int32) (a2 : Int32) (a3 : Int32) (hR : Rel ws0) (hH : Hok ws0) : Mq l yX11_numbers cX11_numbers 4 (some .int) 3 G Z [.ref (ad 0), .int a1, .int a2, .int a3] ws0 (PI G SC ad [42, 43] ws0 (fun r u => (xso SC ad u = (f_X11_numbers (xso SC ad ws0) a1.toInt a2.toInt a3.toInt).1) ∧ (r.toInt = (f_X11_numbers (xso SC ad ws0) a1.toInt a2.toInt a3.toInt).2) ∧ ((-3) ≤ r.toInt) ∧ (r.toInt ≤ 0) ∧ (((r.toInt = -2 ∧ (a1.toInt < 0 ∨ 3 < a1.toInt ∨ a2.toInt < 0 ∨ 3 < a2.toInt)) ∨ (0 ≤ a1.toInt ∧ a1.toInt ≤ 3 ∧ 0 ≤ a2.toInt ∧ a2.toInt ≤ 3 ∧ ((r.toInt = -3 ∧ (a3.toInt < 0 ∨ 40 < a3.toInt)) ∨ (r.toInt = 0 ∧ 0 ≤ a3.toInt ∧ a3.toInt ≤ 40))))) ∧ (Rel u) ∧ (Hok u))) := by
  refine Mq.start (by decide) (Nat.le_of_ble_eq_true rfl) ?_
  intro p e s m below meth c A ls C0 hZ h hl
  have hl : lv_has ls 4 [(0, .ref (ad 0)), (1, .int a1), (2, .int a2), (3, .int a3)] := hl
  have h : Wt G SC ad A s s.heap [] ws0 := ⟨h, hT⟩
  obtain ⟨args, hargs⟩ : ∃ z, z = ([.ref (ad 0), .int a1, .int a2, .int a3] : List Value).toArray := ⟨_, rfl⟩
  rw [← hargs] at C0 ⊢
  have C0 : Cx p s m args meth c RX11 cX11_numbers 4 (some .int) := C0
  obtain ⟨Q, hQ⟩ : ∃ z, z = MQ below ((PI G SC ad [42, 43] ws0 (fun r u => (xso SC ad u = (f_X11_numbers (xso SC ad ws0) a1.toInt a2.toInt a3.toInt).1) ∧ (r.toInt = (f_X11_numbers (xso SC ad ws0) a1.toInt a2.toInt a3.toInt).2) ∧ ((-3) ≤ r.toInt) ∧ (r.toInt ≤ 0) ∧ (((r.toInt = -2 ∧ (a1.toInt < 0 ∨ 3 < a1.toInt ∨ a2.toInt < 0 ∨ 3 < a2.toInt)) ∨ (0 ≤ a1.toInt ∧ a1.toInt ≤ 3 ∧ 0 ≤ a2.toInt ∧ a2.toInt ≤ 3 ∧ ((r.toInt = -3 ∧ (a3.toInt < 0 ∨ 40 < a3.toInt)) ∨ (r.toInt = 0 ∧ 0 ≤ a3.toInt ∧ a3.toInt ≤ 40))))) ∧ (Rel u) ∧ (Hok u))) A) args s 0 0 A := ⟨_, rfl⟩
  rw [← hQ]
  obtain ⟨FT, hFT⟩ : ∃ z, z = f_X11_numbers (xso SC ad ws0) a1.toInt a2.toInt a3.toInt := ⟨_, rfl⟩
  have HE : FT = f_X11_numbers (xso SC ad ws0) a1.toInt a2.toInt a3.toInt := hFT
  refine lv_iload_n C0.1 C0.2.1 dX11_numbers_0 rfl (lv_at hl 1 rfl) ?_
  refine y_ci h (y_rS (As := [.int a1]) (rest := []) C0 hZ h (c_X11_isTray l G Z ad _ h.2 a1) k_X11_isTray q_998 q_997 hl.1 rfl rfl (Nat.le_of_ble_eq_true rfl) dX11_numbers_1 ⟨Nat.le_of_ble_eq_true rfl, Nat.le_of_ble_eq_true rfl⟩ ⟨Nat.le_of_ble_eq_true rfl, Nat.le_of_ble_eq_true rfl⟩) (fun r_4 H locs ws_1 h u_2 p_3 => ?_)
  obtain ⟨e_5, e_6, e_7, e_8, e_9⟩ := p_3
  replace HE : FT = g1c_X11_numbers (xso SC ad ws_1) r_4.toInt a1.toInt a2.toInt a3.toInt := HE.trans (by rw [e_5, e_6]; rfl)
  replace HE : FT = g2b_X11_numbers (xso SC ad ws_1) r_4.toInt a1.toInt a2.toInt a3.toInt := HE.trans rfl
  refine y_if_eq (tgt := 16) C0 dX11_numbers_4 (by decide) (fun c_10 => ?_) (fun c_10 => ?_)
  · -- 4
    replace HE : FT = g3_X11_numbers (xso SC ad ws_1) := HE.trans (if_pos c_10)
    refine y_c2 (n := (-2)) C0 (by decide) dX11_numbers_16 (fun v_11 e_12 => ?_)
    replace HE : FT = ((xso SC ad ws_1), v_11.toInt) := HE.trans (by rw [e_12]; rfl)
    rw [hQ]
    exact y_iret C0 h (Fr.mono u_2 (by decide)) ⟨(congrArg Prod.fst (HE.symm.trans hFT)), (congrArg Prod.snd (HE.symm.trans hFT)), (o28_1 e_12), (o28_204 e_12), (o28_205 e_7 e_8 e_9 c_10 e_12), (Rel.fr (M := []) hR u_2 (by decide) (by decide)), (Hok.fr (M := []) hH u_2 (by decide))⟩ dX11_numbers_18
  · -- 4
    replace HE : FT = g4_X11_numbers (xso SC ad ws_1) a1.toInt a2.toInt a3.toInt := HE.trans (if_neg c_10)
    refine lv_iload_n C0.1 C0.2.1 dX11_numbers_7 rfl (lv_at hl 2 rfl) ?_
    replace HE : FT = g5b_X11_numbers (xso SC ad ws_1) a2.toInt a1.toInt a3.toInt := HE.trans rfl
    refine y_if_lt (tgt := 16) C0 dX11_numbers_8 (by decide) (fun c_13 => ?_) (fun c_13 => ?_)
    · -- 8
      replace HE : FT = g6_X11_numbers (xso SC ad ws_1) := HE.trans (if_pos c_13)
      refine y_c2 (n := (-2)) C0 (by decide) dX11_numbers_16 (fun v_14 e_15 => ?_)
      replace HE : FT = ((xso SC ad ws_1), v_14.toInt) := HE.trans (by rw [e_15]; rfl)
      rw [hQ]
      exact y_iret C0 h (Fr.mono u_2 (by decide)) ⟨(congrArg Prod.fst (HE.symm.trans hFT)), (congrArg Prod.snd (HE.symm.trans hFT)), (o28_1 e_15), (o28_204 e_15), (o28_206 e_7 e_8 e_9 c_10 c_13 e_15), (Rel.fr (M := []) hR u_2 (by decide) (by decide)), (Hok.fr (M := []) hH u_2 (by decide))⟩ dX11_numbers_18
    · -- 8
      replace HE : FT = g7_X11_numbers (xso SC ad ws_1) a1.toInt a2.toInt a3.toInt := HE.trans (if_neg (Int.not_lt.mpr c_13))
      refine lv_iload_n C0.1 C0.2.1 dX11_numbers_11 rfl (lv_at hl 2 rfl) ?_
      refine y_c1 (n := 3) C0 (by decide) dX11_numbers_12 (fun v_16 e_17 => ?_)
      replace HE : FT = g8b_X11_numbers (xso SC ad ws_1) a2.toInt a1.toInt a3.toInt := HE.trans rfl
      refine y_icmp_le (tgt := 19) C0 dX11_numbers_13 (by decide) (fun c_18 => ?_) (fun c_18 => ?_)
      · -- 13
        replace HE : FT = g9_X11_numbers (xso SC ad ws_1) a1.toInt a2.toInt a3.toInt := HE.trans (if_neg (o28_200 c_13 e_17 c_18))
        refine lv_iload_n C0.1 C0.2.1 dX11_numbers_19 rfl (lv_at hl 3 rfl) ?_
        replace HE : FT = g11b_X11_numbers (xso SC ad ws_1) a3.toInt a1.toInt a2.toInt := HE.trans rfl
        refine y_if_lt (tgt := 29) C0 dX11_numbers_20 (by decide) (fun c_19 => ?_) (fun c_19 => ?_)
        · -- 20
          replace HE : FT = g12_X11_numbers (xso SC ad ws_1) := HE.trans (if_pos c_19)
          refine y_c2 (n := (-3)) C0 (by decide) dX11_numbers_29 (fun v_20 e_21 => ?_)
          replace HE : FT = ((xso SC ad ws_1), v_20.toInt) := HE.trans (by rw [e_21]; rfl)
          rw [hQ]
          exact y_iret C0 h (Fr.mono u_2 (by decide)) ⟨(congrArg Prod.fst (HE.symm.trans hFT)), (congrArg Prod.snd (HE.symm.trans hFT)), (o28_3 e_21), (o28_207 e_21), (o28_208 e_7 e_8 e_9 c_10 c_13 e_17 c_18 c_19 e_21), (Rel.fr (M := []) hR u_2 (by decide) (by decide)), (Hok.fr (M := []) hH u_2 (by decide))⟩ dX11_numbers_31
        · -- 20
          replace HE : FT = g13_X11_numbers (xso SC ad ws_1) a1.toInt a2.toInt a3.toInt := HE.trans (if_neg (Int.not_lt.mpr c_19))
          refine lv_iload_n C0.1 C0.2.1 dX11_numbers_23 rfl (lv_at hl 3 rfl) ?_
          refine y_c2 (n := 40) C0 (by decide) dX11_numbers_24 (fun v_22 e_23 => ?_)
          replace HE : FT = g14b_X11_numbers (xso SC ad ws_1) a3.toInt a1.toInt a2.toInt := HE.trans rfl
          refine y_icmp_le (tgt := 32) C0 dX11_numbers_26 (by decide) (fun c_24 => ?_) (fun c_24 => ?_)
          · -- 26
            replace HE : FT = g15_X11_numbers (xso SC ad ws_1) a1.toInt a2.toInt a3.toInt := HE.trans (if_neg (o28_38 c_19 e_23 c_24))
            refine lv_aload_n C0.1 C0.2.1 dX11_numbers_32 rfl (lv_at hl 0 rfl) ?_
            refine tg_X11_trays C0 h kSC_0 q_524 dX11_numbers_33 ?_
            refine lv_iload_n C0.1 C0.2.1 dX11_numbers_36 rfl (lv_at hl 1 rfl) ?_
            refine y_aald C0 h kSC_115 rfl rfl (by decide) (o28_58 e_7 e_8 e_9 c_10) (o28_59 e_7 e_8 e_9 c_10) dX11_numbers_37 ?_
            obtain ⟨i_25, hi_25, ei_25⟩ : ∃ j : Nat, Kd SC j 42 ∧ j = 107 + 2 * a1.toInt.toNat := ⟨_, aSC_44 (o28_60 e_7 e_8 e_9 c_10), rfl⟩
            rw [← ei_25]
            refine lv_iload_n C0.1 C0.2.1 dX11_numbers_38 rfl (lv_at hl 2 rfl) ?_
            refine lv_iload_n C0.1 C0.2.1 dX11_numbers_39 rfl (lv_at hl 3 rfl) ?_
            refine y_cv h (y_rV (As := [.int a2, .int a3]) (rest := []) C0 hZ h (c_X10_lay l G Z ad _ h.2 i_25 hi_25 a2 a3 (o28_42 c_19 e_23 c_24) (o28_43 c_19 e_23 c_24)) k_X10_lay q_1388 q_1389 q_1387 hi_25 rfl rfl rfl hl.1 rfl rfl (Nat.le_of_ble_eq_true rfl) dX11_numbers_40 ⟨Nat.le_of_ble_eq_true rfl, Nat.le_of_ble_eq_true rfl⟩ ⟨Nat.le_of_ble_eq_true rfl, Nat.le_of_ble_eq_true rfl⟩) (fun H locs ws_26 h u_27 p_28 => ?_)
            have e_29 := p_28
            replace HE : FT = g17c_X11_numbers (xso SC ad ws_26) := HE.trans (by rw [e_29, ei_25]; rfl)
            refine y_c1 (n := 0) C0 (by decide) dX11_numbers_43 (fun v_30 e_31 => ?_)
            replace HE : FT = ((xso SC ad ws_26), v_30.toInt) := HE.trans (by rw [e_31]; rfl)
            rw [hQ]
            exact y_iret C0 h (Fr.tr (Fr.mono u_2 (by decide)) u_27) ⟨(congrArg Prod.fst (HE.symm.trans hFT)), (congrArg Prod.snd (HE.symm.trans hFT)), (o28_209 e_31), (o28_67 e_31), (o28_210 e_7 e_8 e_9 c_10 c_13 e_17 c_18 c_19 e_23 c_24 e_31), (Rel.fr (M := [42, 43]) hR (Fr.tr (Fr.mono u_2 (by decide)) u_27) (by decide) (by decide)), (Hok.fr (M := [42, 43]) hH (Fr.tr (Fr.mono u_2 (by decide)) u_27) (by decide))⟩ dX11_numbers_44
          · -- 26
            replace HE : FT = g16_X11_numbers (xso SC ad ws_1) := HE.trans (if_pos (o28_39 c_19 e_23 c_24))
            refine y_c2 (n := (-3)) C0 (by decide) dX11_numbers_29 (fun v_32 e_33 => ?_)
            replace HE : FT = ((xso SC ad ws_1), v_32.toInt) := HE.trans (by rw [e_33]; rfl)
            rw [hQ]
            exact y_iret C0 h (Fr.mono u_2 (by decide)) ⟨(congrArg Prod.fst (HE.symm.trans hFT)), (congrArg Prod.snd (HE.symm.trans hFT)), (o28_3 e_33), (o28_207 e_33), (o28_211 e_7 e_8 e_9 c_10 c_13 e_17 c_18 c_19 e_23 c_24 e_33), (Rel.fr (M := []) hR u_2 (by decide) (by decide)), (Hok.fr (M := []) hH u_2 (by decide))⟩ dX11_numbers_31
      · -- 13
        replace HE : FT = g10_X11_numbers (xso SC ad ws_1) := HE.trans (if_pos (o28_201 c_13 e_17 c_18))
        refine y_c2 (n := (-2)) C0 (by decide) dX11_numbers_16 (fun v_34 e_35 => ?_)
        replace HE : FT = ((xso SC ad ws_1), v_34.toInt) := HE.trans (by rw [e_35]; rfl)
        rw [hQ]
        exact y_iret C0 h (Fr.mono u_2 (by decide)) ⟨(congrArg Prod.fst (HE.symm.trans hFT)), (congrArg Prod.snd (HE.symm.trans hFT)), (o28_1 e_35), (o28_204 e_35), (o28_212 e_7 e_8 e_9 c_10 c_13 e_17 c_18 e_35), (Rel.fr (M := []) hR u_2 (by decide) (by decide)), (Hok.fr (M := []) hH u_2 (by decide))⟩ dX11_numbers_18
noncomputable def g9_X11_write (s : XS) : XR := (s, ((-7)))
noncomputable def g14c_X11_write (s : XS) (r_29 : Int) : XR := (s, r_29)
noncomputable def g12_X11_write (s : XS) (a2 : Int) (a3 : Int) (i_11 : Nat) : XR := g14c_X11_write ((f_X10_put s i_11 a2 a3).1) (((f_X10_put s i_11 a2 a3).2))
noncomputable def g13_X11_write (s : XS) : XR := (s, ((-7)))
noncomputable def g11b_X11_write (s : XS) (v_20 : Int) (a2 : Int) (a3 : Int) (i_11 : Nat) : XR := if a2 < v_20 then g12_X11_write s a2 a3 i_11 else g13_X11_write s
noncomputable def g10_X11_write (s : XS) (a2 : Int) (a3 : Int) (i_11 : Nat) : XR := g11b_X11_write s ((s 0 i_11 2)) a2 a3 i_11
noncomputable def g8b_X11_write (s : XS) (a2 : Int) (a3 : Int) (i_11 : Nat) : XR := if a2 < 0 then g9_X11_write s else g10_X11_write s a2 a3 i_11
noncomputable def g6_X11_write (s : XS) (a2 : Int) (a3 : Int) (i_11 : Nat) : XR := g8b_X11_write s a2 a3 i_11
noncomputable def g7_X11_write (s : XS) : XR := (s, ((-6)))
noncomputable def g5b_X11_write (s : XS) (v_12 : Int) (a2 : Int) (a3 : Int) (i_11 : Nat) : XR := if v_12 < 0 then g7_X11_write s else g6_X11_write s a2 a3 i_11
noncomputable def g3_X11_write (s : XS) (a1 : Int) (a2 : Int) (a3 : Int) : XR := g5b_X11_write s ((s 0 (107 + 2 * Int.toNat a1) 2)) a2 a3 ((107 + 2 * Int.toNat a1))
noncomputable def g4_X11_write (s : XS) : XR := (s, ((-2)))
noncomputable def g2b_X11_write (s : XS) (r_4 : Int) (a1 : Int) (a2 : Int) (a3 : Int) : XR := if r_4 = 0 then g4_X11_write s else g3_X11_write s a1 a2 a3
noncomputable def g1c_X11_write (s : XS) (r_4 : Int) (a1 : Int) (a2 : Int) (a3 : Int) : XR := g2b_X11_write s r_4 a1 a2 a3
noncomputable def f_X11_write (s : XS) (a1 : Int) (a2 : Int) (a3 : Int) : XR := g1c_X11_write ((f_X11_isTray s a1).1) (((f_X11_isTray s a1).2)) a1 a2 a3
set_option maxHeartbeats 4000000 in
set_option maxRecDepth 100000 in
theorem c_X11_write (l : Launch) (G : GG) (Z : RZ) (ad : Nat → Nat) (ws0 : va_W) (hT : Ty G SC ad ws0) (a1 : Int32) (a2 : Int32) (a3 : Int64) (hR : Rel ws0) (hH : Hok ws0) : Mq l yX11_write cX11_write 6 (some .long) 2 G Z [.ref (ad 0), .int a1, .int a2, .long a3] ws0 (PL G SC ad [43] ws0 (fun r u => (xso SC ad u = (f_X11_write (xso SC ad ws0) a1.toInt a2.toInt a3.toInt).1) ∧ (r.toInt = (f_X11_write (xso SC ad ws0) a1.toInt a2.toInt a3.toInt).2) ∧ (Rel u) ∧ (Hok u))) := by
  refine Mq.start (by decide) (Nat.le_of_ble_eq_true rfl) ?_
  intro p e s m below meth c A ls C0 hZ h hl
  have hl : lv_has ls 6 [(0, .ref (ad 0)), (1, .int a1), (2, .int a2), (3, .long a3)] := hl
  have h : Wt G SC ad A s s.heap [] ws0 := ⟨h, hT⟩
  obtain ⟨args, hargs⟩ : ∃ z, z = ([.ref (ad 0), .int a1, .int a2, .long a3] : List Value).toArray := ⟨_, rfl⟩
  rw [← hargs] at C0 ⊢
  have C0 : Cx p s m args meth c RX11 cX11_write 6 (some .long) := C0
  obtain ⟨Q, hQ⟩ : ∃ z, z = MQ below ((PL G SC ad [43] ws0 (fun r u => (xso SC ad u = (f_X11_write (xso SC ad ws0) a1.toInt a2.toInt a3.toInt).1) ∧ (r.toInt = (f_X11_write (xso SC ad ws0) a1.toInt a2.toInt a3.toInt).2) ∧ (Rel u) ∧ (Hok u))) A) args s 0 0 A := ⟨_, rfl⟩
  rw [← hQ]
  obtain ⟨FT, hFT⟩ : ∃ z, z = f_X11_write (xso SC ad ws0) a1.toInt a2.toInt a3.toInt := ⟨_, rfl⟩
  have HE : FT = f_X11_write (xso SC ad ws0) a1.toInt a2.toInt a3.toInt := hFT
  refine lv_iload_n C0.1 C0.2.1 dX11_write_0 rfl (lv_at hl 1 rfl) ?_
  refine y_ci h (y_rS (As := [.int a1]) (rest := []) C0 hZ h (c_X11_isTray l G Z ad _ h.2 a1) k_X11_isTray q_998 q_997 hl.1 rfl rfl (Nat.le_of_ble_eq_true rfl) dX11_write_1 ⟨Nat.le_of_ble_eq_true rfl, Nat.le_of_ble_eq_true rfl⟩ ⟨Nat.le_of_ble_eq_true rfl, Nat.le_of_ble_eq_true rfl⟩) (fun r_4 H locs ws_1 h u_2 p_3 => ?_)
  obtain ⟨e_5, e_6, e_7, e_8, e_9⟩ := p_3
  replace HE : FT = g1c_X11_write (xso SC ad ws_1) r_4.toInt a1.toInt a2.toInt a3.toInt := HE.trans (by rw [e_5, e_6]; rfl)
  replace HE : FT = g2b_X11_write (xso SC ad ws_1) r_4.toInt a1.toInt a2.toInt a3.toInt := HE.trans rfl
  refine y_if_ne (tgt := 11) C0 dX11_write_4 (by decide) (fun c_10 => ?_) (fun c_10 => ?_)
  · -- 4
    replace HE : FT = g3_X11_write (xso SC ad ws_1) a1.toInt a2.toInt a3.toInt := HE.trans (if_neg c_10)
    refine lv_aload_n C0.1 C0.2.1 dX11_write_11 rfl (lv_at hl 0 rfl) ?_
    refine tg_X11_trays C0 h kSC_0 q_524 dX11_write_12 ?_
    refine lv_iload_n C0.1 C0.2.1 dX11_write_15 rfl (lv_at hl 1 rfl) ?_
    refine y_aald C0 h kSC_115 rfl rfl (by decide) (o28_58 e_7 e_8 e_9 c_10) (o28_59 e_7 e_8 e_9 c_10) dX11_write_16 ?_
    obtain ⟨i_11, hi_11, ei_11⟩ : ∃ j : Nat, Kd SC j 42 ∧ j = 107 + 2 * a1.toInt.toNat := ⟨_, aSC_44 (o28_60 e_7 e_8 e_9 c_10), rfl⟩
    rw [← ei_11]
    refine lv_astore (lv' := [(5, .ref (ad i_11)), (0, .ref (ad 0)), (1, .int a1), (2, .int a2), (3, .long a3)]) C0.1 C0.2.1 dX11_write_17 hl (by decide) rfl (fun ls hl => ?_)
    refine lv_aload C0.1 C0.2.1 dX11_write_19 (lv_at hl 0 rfl) ?_
    refine tg_X10_size C0 h hi_11 q_502 dX11_write_21 (fun v_12 e_13 e_14 e_15 => ?_)
    replace HE : FT = g5b_X11_write (xso SC ad ws_1) v_12.toInt a2.toInt a3.toInt i_11 := HE.trans (by rw [(xg0 e_13 : v_12.toInt = (xso SC ad ws_1) 0 i_11 2), ei_11]; rfl)
    refine y_if_ge (tgt := 31) C0 dX11_write_24 (by decide) (fun c_16 => ?_) (fun c_16 => ?_)
    · -- 24
      replace HE : FT = g6_X11_write (xso SC ad ws_1) a2.toInt a3.toInt i_11 := HE.trans (if_neg (Int.not_lt.mpr c_16))
      refine lv_iload_n C0.1 C0.2.1 dX11_write_31 rfl (lv_at hl 3 rfl) ?_
      replace HE : FT = g8b_X11_write (xso SC ad ws_1) a2.toInt a3.toInt i_11 := HE.trans rfl
      refine y_if_lt (tgt := 44) C0 dX11_write_32 (by decide) (fun c_17 => ?_) (fun c_17 => ?_)
      · -- 32
        replace HE : FT = g9_X11_write (xso SC ad ws_1) := HE.trans (if_pos c_17)
        refine y_lc2 (n := (-7)) C0 q_1399 (by decide) dX11_write_44 (fun w_18 e_19 => ?_)
        replace HE : FT = ((xso SC ad ws_1), w_18.toInt) := HE.trans (by rw [e_19]; rfl)
        rw [hQ]
        exact y_lret C0 h (Fr.mono u_2 (by decide)) ⟨(congrArg Prod.fst (HE.symm.trans hFT)), (congrArg Prod.snd (HE.symm.trans hFT)), (Rel.fr (M := []) hR u_2 (by decide) (by decide)), (Hok.fr (M := []) hH u_2 (by decide))⟩ dX11_write_47
      · -- 32
        replace HE : FT = g10_X11_write (xso SC ad ws_1) a2.toInt a3.toInt i_11 := HE.trans (if_neg (Int.not_lt.mpr c_17))
        refine lv_iload_n C0.1 C0.2.1 dX11_write_35 rfl (lv_at hl 3 rfl) ?_
        refine lv_aload C0.1 C0.2.1 dX11_write_36 (lv_at hl 0 rfl) ?_
        refine tg_X10_size C0 h hi_11 q_502 dX11_write_38 (fun v_20 e_21 e_22 e_23 => ?_)
        have qh_24 : v_20.toInt = v_12.toInt := congrArg Int32.toInt (e_21.symm.trans (Eq.trans rfl e_13))
        replace HE : FT = g11b_X11_write (xso SC ad ws_1) v_20.toInt a2.toInt a3.toInt i_11 := HE.trans (by rw [(xg0 e_21 : v_20.toInt = (xso SC ad ws_1) 0 i_11 2)]; rfl)
        refine y_icmp_lt (tgt := 48) C0 dX11_write_41 (by decide) (fun c_25 => ?_) (fun c_25 => ?_)
        · -- 41
          replace HE : FT = g12_X11_write (xso SC ad ws_1) a2.toInt a3.toInt i_11 := HE.trans (if_pos c_25)
          refine lv_aload C0.1 C0.2.1 dX11_write_48 (lv_at hl 0 rfl) ?_
          refine lv_iload_n C0.1 C0.2.1 dX11_write_50 rfl (lv_at hl 3 rfl) ?_
          refine lv_lload_n C0.1 C0.2.1 dX11_write_51 rfl (lv_at hl 4 rfl) ?_
          refine y_cl h (y_rV (As := [.int a2, .long a3]) (rest := []) C0 hZ h (c_X10_put l G Z ad _ h.2 i_11 hi_11 a2 a3 (o28_213 e_14 e_15 c_16 c_17 e_22 e_23 qh_24 c_25) (o28_214 e_14 e_15 c_16 c_17 e_22 e_23 qh_24 c_25)) k_X10_put q_1401 q_1402 q_1400 hi_11 rfl rfl rfl hl.1 rfl rfl (Nat.le_of_ble_eq_true rfl) dX11_write_52 ⟨Nat.le_of_ble_eq_true rfl, Nat.le_of_ble_eq_true rfl⟩ ⟨Nat.le_of_ble_eq_true rfl, Nat.le_of_ble_eq_true rfl⟩) (fun r_29 H locs ws_26 h u_27 p_28 => ?_)
          obtain ⟨e_30, e_31⟩ := p_28
          replace HE : FT = g14c_X11_write (xso SC ad ws_26) r_29.toInt := HE.trans (by rw [e_30, e_31]; rfl)
          replace HE : FT = ((xso SC ad ws_26), r_29.toInt) := HE.trans rfl
          rw [hQ]
          exact y_lret C0 h (Fr.tr (Fr.mono u_2 (by decide)) u_27) ⟨(congrArg Prod.fst (HE.symm.trans hFT)), (congrArg Prod.snd (HE.symm.trans hFT)), (Rel.fr (M := [43]) hR (Fr.tr (Fr.mono u_2 (by decide)) u_27) (by decide) (by decide)), (Hok.fr (M := [43]) hH (Fr.tr (Fr.mono u_2 (by decide)) u_27) (by decide))⟩ dX11_write_55
        · -- 41
          replace HE : FT = g13_X11_write (xso SC ad ws_1) := HE.trans (if_neg (Int.not_lt.mpr c_25))
          refine y_lc2 (n := (-7)) C0 q_1399 (by decide) dX11_write_44 (fun w_32 e_33 => ?_)
          replace HE : FT = ((xso SC ad ws_1), w_32.toInt) := HE.trans (by rw [e_33]; rfl)
          rw [hQ]
          exact y_lret C0 h (Fr.mono u_2 (by decide)) ⟨(congrArg Prod.fst (HE.symm.trans hFT)), (congrArg Prod.snd (HE.symm.trans hFT)), (Rel.fr (M := []) hR u_2 (by decide) (by decide)), (Hok.fr (M := []) hH u_2 (by decide))⟩ dX11_write_47
    · -- 24
      replace HE : FT = g7_X11_write (xso SC ad ws_1) := HE.trans (if_pos c_16)
      refine y_lc2 (n := (-6)) C0 q_1398 (by decide) dX11_write_27 (fun w_34 e_35 => ?_)
      replace HE : FT = ((xso SC ad ws_1), w_34.toInt) := HE.trans (by rw [e_35]; rfl)
      rw [hQ]
      exact y_lret C0 h (Fr.mono u_2 (by decide)) ⟨(congrArg Prod.fst (HE.symm.trans hFT)), (congrArg Prod.snd (HE.symm.trans hFT)), (Rel.fr (M := []) hR u_2 (by decide) (by decide)), (Hok.fr (M := []) hH u_2 (by decide))⟩ dX11_write_30
  · -- 4
    replace HE : FT = g4_X11_write (xso SC ad ws_1) := HE.trans (if_pos c_10)
    refine y_lc2 (n := (-2)) C0 q_1229 (by decide) dX11_write_7 (fun w_36 e_37 => ?_)
    replace HE : FT = ((xso SC ad ws_1), w_36.toInt) := HE.trans (by rw [e_37]; rfl)
    rw [hQ]
    exact y_lret C0 h (Fr.mono u_2 (by decide)) ⟨(congrArg Prod.fst (HE.symm.trans hFT)), (congrArg Prod.snd (HE.symm.trans hFT)), (Rel.fr (M := []) hR u_2 (by decide) (by decide)), (Hok.fr (M := []) hH u_2 (by decide))⟩ dX11_write_10
noncomputable def g3_X11_lists (s : XS) : XR := (s, ((-2)))
noncomputable def g7_X11_lists (s : XS) : XR := (s, ((-2)))
noncomputable def g17_X11_lists (s : XS) : XR := (s, ((-3)))
noncomputable def g31_X11_lists (s : XS) (v_81 : Int) : XR := (s, v_81)
noncomputable def g37c_X11_lists (R109 : XS → Int → Nat → Int → Int → XR) (s : XS) (r_111 : Int) (a2 : Int) (i_35 : Nat) (v_81 : Int) (x7_85 : Int) : XR := R109 s a2 i_35 v_81 ((x7_85 + 1))
noncomputable def g36c_X11_lists (R109 : XS → Int → Nat → Int → Int → XR) (s : XS) (r_103 : Int) (x7_85 : Int) (i_35 : Nat) (a2 : Int) (v_81 : Int) : XR := g37c_X11_lists R109 ((f_X10_put s i_35 x7_85 r_103).1) (((f_X10_put s i_35 x7_85 r_103).2)) a2 i_35 v_81 x7_85
noncomputable def g34_X11_lists (R109 : XS → Int → Nat → Int → Int → XR) (s : XS) (x7_85 : Int) (i_35 : Nat) (a2 : Int) (v_81 : Int) : XR := g36c_X11_lists R109 ((f_X7_turnAt s (x7_85 - 1)).1) (((f_X7_turnAt s (x7_85 - 1)).2)) x7_85 i_35 a2 v_81
noncomputable def g38c_X11_lists (R109 : XS → Int → Nat → Int → Int → XR) (s : XS) (r_121 : Int) (a2 : Int) (i_35 : Nat) (v_81 : Int) : XR := R109 s a2 i_35 v_81 ((0 + 1))
noncomputable def g35_X11_lists (R109 : XS → Int → Nat → Int → Int → XR) (s : XS) (i_35 : Nat) (a2 : Int) (v_81 : Int) : XR := g38c_X11_lists R109 ((f_X10_put s i_35 0 a2).1) (((f_X10_put s i_35 0 a2).2)) a2 i_35 v_81
noncomputable def g33b_X11_lists (R109 : XS → Int → Nat → Int → Int → XR) (s : XS) (x7_85 : Int) (i_35 : Nat) (a2 : Int) (v_81 : Int) : XR := if x7_85 = 0 then g35_X11_lists R109 s i_35 a2 v_81 else g34_X11_lists R109 s x7_85 i_35 a2 v_81
noncomputable def g32_X11_lists (R109 : XS → Int → Nat → Int → Int → XR) (s : XS) (a2 : Int) (i_35 : Nat) (v_81 : Int) (x7_85 : Int) : XR := g33b_X11_lists R109 s x7_85 i_35 a2 v_81
noncomputable def g30b_X11_lists (R109 : XS → Int → Nat → Int → Int → XR) (s : XS) (v_81 : Int) (x7_85 : Int) (a2 : Int) (i_35 : Nat) : XR := if x7_85 < v_81 then g32_X11_lists R109 s a2 i_35 v_81 x7_85 else g31_X11_lists s v_81
noncomputable def g29l_X11_lists (R109 : XS → Int → Nat → Int → Int → XR) (s : XS) (a2 : Int) (i_35 : Nat) (v_81 : Int) (x7_85 : Int) : XR := g30b_X11_lists R109 s v_81 x7_85 a2 i_35
noncomputable def L28_X11_lists (n : Nat) : XS → Int → Nat → Int → Int → XR := Nat.rec (motive := fun _ => XS → Int → Nat → Int → Int → XR) (fun s _ _ _ _ => (s, 0)) (fun _ R109 => g29l_X11_lists R109) n
noncomputable def g27c_X11_lists (s : XS) (r_74 : Int) (v_64 : Int) (a2 : Int) (i_35 : Nat) : XR := L28_X11_lists (Int.toNat (40 - 0 + 1)) s a2 i_35 ((min v_64 (1 + r_74))) 0
noncomputable def g25_X11_lists (s : XS) (a2 : Int) (i_35 : Nat) : XR := g27c_X11_lists ((f_X7_length s).1) (((f_X7_length s).2)) ((s 0 i_35 2)) a2 i_35
noncomputable def g26_X11_lists (s : XS) : XR := (s, ((-5)))
noncomputable def g24b_X11_lists (s : XS) (r_58 : Int) (a2 : Int) (i_35 : Nat) : XR := if r_58 = 0 then g26_X11_lists s else g25_X11_lists s a2 i_35
noncomputable def g23c_X11_lists (s : XS) (r_58 : Int) (a2 : Int) (i_35 : Nat) : XR := g24b_X11_lists s r_58 a2 i_35
noncomputable def g22c_X11_lists (s : XS) (r_50 : Int) (a2 : Int) (a3 : Int) (a4 : Int) (i_35 : Nat) : XR := g23c_X11_lists ((f_X7_shortest s r_50 a3 a4).1) (((f_X7_shortest s r_50 a3 a4).2)) a2 i_35
noncomputable def g20_X11_lists (s : XS) (a2 : Int) (a3 : Int) (a4 : Int) (i_35 : Nat) : XR := g22c_X11_lists ((f_X1_stand s 10 a2).1) (((f_X1_stand s 10 a2).2)) a2 a3 a4 i_35
noncomputable def g21_X11_lists (s : XS) : XR := (s, ((-3)))
noncomputable def g19b_X11_lists (s : XS) (a4 : Int) (a2 : Int) (a3 : Int) (i_35 : Nat) : XR := if 120 < a4 then g21_X11_lists s else g20_X11_lists s a2 a3 a4 i_35
noncomputable def g18_X11_lists (s : XS) (a2 : Int) (a3 : Int) (a4 : Int) (i_35 : Nat) : XR := g19b_X11_lists s a4 a2 a3 i_35
noncomputable def g16b_X11_lists (s : XS) (a4 : Int) (a2 : Int) (a3 : Int) (i_35 : Nat) : XR := if a4 < 0 then g17_X11_lists s else g18_X11_lists s a2 a3 a4 i_35
noncomputable def g14_X11_lists (s : XS) (a2 : Int) (a3 : Int) (a4 : Int) (i_35 : Nat) : XR := g16b_X11_lists s a4 a2 a3 i_35
noncomputable def g15_X11_lists (s : XS) : XR := (s, ((-6)))
noncomputable def g13b_X11_lists (s : XS) (v_36 : Int) (a2 : Int) (a3 : Int) (a4 : Int) (i_35 : Nat) : XR := if v_36 < 0 then g15_X11_lists s else g14_X11_lists s a2 a3 a4 i_35
noncomputable def g11_X11_lists (s : XS) (a1 : Int) (a2 : Int) (a3 : Int) (a4 : Int) : XR := g13b_X11_lists s ((s 0 (107 + 2 * Int.toNat a1) 2)) a2 a3 a4 ((107 + 2 * Int.toNat a1))
noncomputable def g12_X11_lists (s : XS) : XR := (s, ((-2)))
noncomputable def g10b_X11_lists (s : XS) (r_28 : Int) (a1 : Int) (a2 : Int) (a3 : Int) (a4 : Int) : XR := if r_28 = 0 then g12_X11_lists s else g11_X11_lists s a1 a2 a3 a4
noncomputable def g9c_X11_lists (s : XS) (r_28 : Int) (a1 : Int) (a2 : Int) (a3 : Int) (a4 : Int) : XR := g10b_X11_lists s r_28 a1 a2 a3 a4
noncomputable def g8_X11_lists (s : XS) (a1 : Int) (a2 : Int) (a3 : Int) (a4 : Int) : XR := g9c_X11_lists ((f_X11_isCrossing s a3).1) (((f_X11_isCrossing s a3).2)) a1 a2 a3 a4
noncomputable def g6b_X11_lists (s : XS) (r_16 : Int) (a1 : Int) (a2 : Int) (a3 : Int) (a4 : Int) : XR := if r_16 = 0 then g7_X11_lists s else g8_X11_lists s a1 a2 a3 a4
noncomputable def g5c_X11_lists (s : XS) (r_16 : Int) (a1 : Int) (a2 : Int) (a3 : Int) (a4 : Int) : XR := g6b_X11_lists s r_16 a1 a2 a3 a4
noncomputable def g4_X11_lists (s : XS) (a1 : Int) (a2 : Int) (a3 : Int) (a4 : Int) : XR := g5c_X11_lists ((f_X11_isPerson s a2).1) (((f_X11_isPerson s a2).2)) a1 a2 a3 a4
noncomputable def g2b_X11_lists (s : XS) (r_4 : Int) (a1 : Int) (a2 : Int) (a3 : Int) (a4 : Int) : XR := if r_4 = 0 then g3_X11_lists s else g4_X11_lists s a1 a2 a3 a4
noncomputable def g1c_X11_lists (s : XS) (r_4 : Int) (a1 : Int) (a2 : Int) (a3 : Int) (a4 : Int) : XR := g2b_X11_lists s r_4 a1 a2 a3 a4
noncomputable def f_X11_lists (s : XS) (a1 : Int) (a2 : Int) (a3 : Int) (a4 : Int) : XR := g1c_X11_lists ((f_X11_isTray s a1).1) (((f_X11_isTray s a1).2)) a1 a2 a3 a4
set_option maxHeartbeats 4000000 in
set_option maxRecDepth 100000 in
theorem c_X11_lists (l : Launch) (G : GG) (Z : RZ) (ad : Nat → Nat) (ws0 : va_W) (hT : Ty G SC ad ws0) (a1 : Int32) (a2 : Int32) (a3 : Int32) (a4 : Int32) (hR : Rel ws0) (hH : Hok ws0) : Mq l yX11_lists cX11_lists 8 (some .int) 8 G Z [.ref (ad 0), .int a1, .int a2, .int a3, .int a4] ws0 (PI G SC ad [4, 5, 18, 19, 20, 21, 22, 23, 25, 26, 27, 43] ws0 (fun r u => (xso SC ad u = (f_X11_lists (xso SC ad ws0) a1.toInt a2.toInt a3.toInt a4.toInt).1) ∧ (r.toInt = (f_X11_lists (xso SC ad ws0) a1.toInt a2.toInt a3.toInt a4.toInt).2) ∧ ((-6) ≤ r.toInt) ∧ (r.toInt ≤ 40) ∧ (Rel u) ∧ (Hok u))) := by
  refine Mq.start (by decide) (Nat.le_of_ble_eq_true rfl) ?_
  intro p e s m below meth c A ls C0 hZ h hl
  have hl : lv_has ls 8 [(0, .ref (ad 0)), (1, .int a1), (2, .int a2), (3, .int a3), (4, .int a4)] := hl
  have h : Wt G SC ad A s s.heap [] ws0 := ⟨h, hT⟩
  obtain ⟨args, hargs⟩ : ∃ z, z = ([.ref (ad 0), .int a1, .int a2, .int a3, .int a4] : List Value).toArray := ⟨_, rfl⟩
  rw [← hargs] at C0 ⊢
  have C0 : Cx p s m args meth c RX11 cX11_lists 8 (some .int) := C0
  obtain ⟨Q, hQ⟩ : ∃ z, z = MQ below ((PI G SC ad [4, 5, 18, 19, 20, 21, 22, 23, 25, 26, 27, 43] ws0 (fun r u => (xso SC ad u = (f_X11_lists (xso SC ad ws0) a1.toInt a2.toInt a3.toInt a4.toInt).1) ∧ (r.toInt = (f_X11_lists (xso SC ad ws0) a1.toInt a2.toInt a3.toInt a4.toInt).2) ∧ ((-6) ≤ r.toInt) ∧ (r.toInt ≤ 40) ∧ (Rel u) ∧ (Hok u))) A) args s 0 0 A := ⟨_, rfl⟩
  rw [← hQ]
  obtain ⟨FT, hFT⟩ : ∃ z, z = f_X11_lists (xso SC ad ws0) a1.toInt a2.toInt a3.toInt a4.toInt := ⟨_, rfl⟩
  have HE : FT = f_X11_lists (xso SC ad ws0) a1.toInt a2.toInt a3.toInt a4.toInt := hFT
  refine lv_iload_n C0.1 C0.2.1 dX11_lists_0 rfl (lv_at hl 1 rfl) ?_
  refine y_ci h (y_rS (As := [.int a1]) (rest := []) C0 hZ h (c_X11_isTray l G Z ad _ h.2 a1) k_X11_isTray q_998 q_997 hl.1 rfl rfl (Nat.le_of_ble_eq_true rfl) dX11_lists_1 ⟨Nat.le_of_ble_eq_true rfl, Nat.le_of_ble_eq_true rfl⟩ ⟨Nat.le_of_ble_eq_true rfl, Nat.le_of_ble_eq_true rfl⟩) (fun r_4 H locs ws_1 h u_2 p_3 => ?_)
  obtain ⟨e_5, e_6, e_7, e_8, e_9⟩ := p_3
  replace HE : FT = g1c_X11_lists (xso SC ad ws_1) r_4.toInt a1.toInt a2.toInt a3.toInt a4.toInt := HE.trans (by rw [e_5, e_6]; rfl)
  replace HE : FT = g2b_X11_lists (xso SC ad ws_1) r_4.toInt a1.toInt a2.toInt a3.toInt a4.toInt := HE.trans rfl
  refine y_if_eq (tgt := 23) C0 dX11_lists_4 (by decide) (fun c_10 => ?_) (fun c_10 => ?_)
  · -- 4
    replace HE : FT = g3_X11_lists (xso SC ad ws_1) := HE.trans (if_pos c_10)
    refine y_c2 (n := (-2)) C0 (by decide) dX11_lists_23 (fun v_11 e_12 => ?_)
    replace HE : FT = ((xso SC ad ws_1), v_11.toInt) := HE.trans (by rw [e_12]; rfl)
    rw [hQ]
    exact y_iret C0 h (Fr.mono u_2 (by decide)) ⟨(congrArg Prod.fst (HE.symm.trans hFT)), (congrArg Prod.snd (HE.symm.trans hFT)), (o28_215 e_12), (o28_216 e_12), (Rel.fr (M := []) hR u_2 (by decide) (by decide)), (Hok.fr (M := []) hH u_2 (by decide))⟩ dX11_lists_25
  · -- 4
    replace HE : FT = g4_X11_lists (xso SC ad ws_1) a1.toInt a2.toInt a3.toInt a4.toInt := HE.trans (if_neg c_10)
    refine lv_aload_n C0.1 C0.2.1 dX11_lists_7 rfl (lv_at hl 0 rfl) ?_
    refine lv_iload_n C0.1 C0.2.1 dX11_lists_8 rfl (lv_at hl 2 rfl) ?_
    refine y_ci h (y_rV (As := [.int a2]) (rest := []) C0 hZ h (c_X11_isPerson l G Z ad _ h.2 a2) k_X11_isPerson q_903 q_23 q_901 kSC_0 rfl rfl rfl hl.1 rfl rfl (Nat.le_of_ble_eq_true rfl) dX11_lists_9 ⟨Nat.le_of_ble_eq_true rfl, Nat.le_of_ble_eq_true rfl⟩ ⟨Nat.le_of_ble_eq_true rfl, Nat.le_of_ble_eq_true rfl⟩) (fun r_16 H locs ws_13 h u_14 p_15 => ?_)
    obtain ⟨e_17, e_18, e_19, e_20, e_21⟩ := p_15
    replace HE : FT = g5c_X11_lists (xso SC ad ws_13) r_16.toInt a1.toInt a2.toInt a3.toInt a4.toInt := HE.trans (by rw [e_17, e_18]; rfl)
    replace HE : FT = g6b_X11_lists (xso SC ad ws_13) r_16.toInt a1.toInt a2.toInt a3.toInt a4.toInt := HE.trans rfl
    refine y_if_eq (tgt := 23) C0 dX11_lists_12 (by decide) (fun c_22 => ?_) (fun c_22 => ?_)
    · -- 12
      replace HE : FT = g7_X11_lists (xso SC ad ws_13) := HE.trans (if_pos c_22)
      refine y_c2 (n := (-2)) C0 (by decide) dX11_lists_23 (fun v_23 e_24 => ?_)
      replace HE : FT = ((xso SC ad ws_13), v_23.toInt) := HE.trans (by rw [e_24]; rfl)
      rw [hQ]
      exact y_iret C0 h (Fr.tr (Fr.mono u_2 (by decide)) (Fr.mono u_14 (by decide))) ⟨(congrArg Prod.fst (HE.symm.trans hFT)), (congrArg Prod.snd (HE.symm.trans hFT)), (o28_215 e_24), (o28_216 e_24), (Rel.fr (M := []) hR (Fr.tr u_2 u_14) (by decide) (by decide)), (Hok.fr (M := []) hH (Fr.tr u_2 u_14) (by decide))⟩ dX11_lists_25
    · -- 12
      replace HE : FT = g8_X11_lists (xso SC ad ws_13) a1.toInt a2.toInt a3.toInt a4.toInt := HE.trans (if_neg c_22)
      refine lv_aload_n C0.1 C0.2.1 dX11_lists_15 rfl (lv_at hl 0 rfl) ?_
      refine lv_iload_n C0.1 C0.2.1 dX11_lists_16 rfl (lv_at hl 3 rfl) ?_
      refine y_ci h (y_rV (As := [.int a3]) (rest := []) C0 hZ h (c_X11_isCrossing l G Z ad _ h.2 a3) k_X11_isCrossing q_915 q_25 q_913 kSC_0 rfl rfl rfl hl.1 rfl rfl (Nat.le_of_ble_eq_true rfl) dX11_lists_17 ⟨Nat.le_of_ble_eq_true rfl, Nat.le_of_ble_eq_true rfl⟩ ⟨Nat.le_of_ble_eq_true rfl, Nat.le_of_ble_eq_true rfl⟩) (fun r_28 H locs ws_25 h u_26 p_27 => ?_)
      obtain ⟨e_29, e_30, e_31, e_32, e_33⟩ := p_27
      replace HE : FT = g9c_X11_lists (xso SC ad ws_25) r_28.toInt a1.toInt a2.toInt a3.toInt a4.toInt := HE.trans (by rw [e_29, e_30]; rfl)
      replace HE : FT = g10b_X11_lists (xso SC ad ws_25) r_28.toInt a1.toInt a2.toInt a3.toInt a4.toInt := HE.trans rfl
      refine y_if_ne (tgt := 26) C0 dX11_lists_20 (by decide) (fun c_34 => ?_) (fun c_34 => ?_)
      · -- 20
        replace HE : FT = g11_X11_lists (xso SC ad ws_25) a1.toInt a2.toInt a3.toInt a4.toInt := HE.trans (if_neg c_34)
        refine lv_aload_n C0.1 C0.2.1 dX11_lists_26 rfl (lv_at hl 0 rfl) ?_
        refine tg_X11_trays C0 h kSC_0 q_524 dX11_lists_27 ?_
        refine lv_iload_n C0.1 C0.2.1 dX11_lists_30 rfl (lv_at hl 1 rfl) ?_
        refine y_aald C0 h kSC_115 rfl rfl (by decide) (o28_58 e_7 e_8 e_9 c_10) (o28_59 e_7 e_8 e_9 c_10) dX11_lists_31 ?_
        obtain ⟨i_35, hi_35, ei_35⟩ : ∃ j : Nat, Kd SC j 42 ∧ j = 107 + 2 * a1.toInt.toNat := ⟨_, aSC_44 (o28_60 e_7 e_8 e_9 c_10), rfl⟩
        rw [← ei_35]
        refine lv_astore (lv' := [(5, .ref (ad i_35)), (0, .ref (ad 0)), (1, .int a1), (2, .int a2), (3, .int a3), (4, .int a4)]) C0.1 C0.2.1 dX11_lists_32 hl (by decide) rfl (fun ls hl => ?_)
        refine lv_aload C0.1 C0.2.1 dX11_lists_34 (lv_at hl 0 rfl) ?_
        refine tg_X10_size C0 h hi_35 q_502 dX11_lists_36 (fun v_36 e_37 e_38 e_39 => ?_)
        replace HE : FT = g13b_X11_lists (xso SC ad ws_25) v_36.toInt a2.toInt a3.toInt a4.toInt i_35 := HE.trans (by rw [(xg0 e_37 : v_36.toInt = (xso SC ad ws_25) 0 i_35 2), ei_35]; rfl)
        refine y_if_ge (tgt := 45) C0 dX11_lists_39 (by decide) (fun c_40 => ?_) (fun c_40 => ?_)
        · -- 39
          replace HE : FT = g14_X11_lists (xso SC ad ws_25) a2.toInt a3.toInt a4.toInt i_35 := HE.trans (if_neg (Int.not_lt.mpr c_40))
          refine lv_iload C0.1 C0.2.1 dX11_lists_45 (lv_at hl 5 rfl) ?_
          replace HE : FT = g16b_X11_lists (xso SC ad ws_25) a4.toInt a2.toInt a3.toInt i_35 := HE.trans rfl
          refine y_if_lt (tgt := 57) C0 dX11_lists_47 (by decide) (fun c_41 => ?_) (fun c_41 => ?_)
          · -- 47
            replace HE : FT = g17_X11_lists (xso SC ad ws_25) := HE.trans (if_pos c_41)
            refine y_c2 (n := (-3)) C0 (by decide) dX11_lists_57 (fun v_42 e_43 => ?_)
            replace HE : FT = ((xso SC ad ws_25), v_42.toInt) := HE.trans (by rw [e_43]; rfl)
            rw [hQ]
            exact y_iret C0 h (Fr.tr (Fr.tr (Fr.mono u_2 (by decide)) (Fr.mono u_14 (by decide))) (Fr.mono u_26 (by decide))) ⟨(congrArg Prod.fst (HE.symm.trans hFT)), (congrArg Prod.snd (HE.symm.trans hFT)), (o28_217 e_43), (o28_218 e_43), (Rel.fr (M := []) hR (Fr.tr (Fr.tr u_2 u_14) u_26) (by decide) (by decide)), (Hok.fr (M := []) hH (Fr.tr (Fr.tr u_2 u_14) u_26) (by decide))⟩ dX11_lists_59
          · -- 47
            replace HE : FT = g18_X11_lists (xso SC ad ws_25) a2.toInt a3.toInt a4.toInt i_35 := HE.trans (if_neg (Int.not_lt.mpr c_41))
            refine lv_iload C0.1 C0.2.1 dX11_lists_50 (lv_at hl 5 rfl) ?_
            refine y_c2 (n := 120) C0 (by decide) dX11_lists_52 (fun v_44 e_45 => ?_)
            replace HE : FT = g19b_X11_lists (xso SC ad ws_25) a4.toInt a2.toInt a3.toInt i_35 := HE.trans rfl
            refine y_icmp_le (tgt := 60) C0 dX11_lists_54 (by decide) (fun c_46 => ?_) (fun c_46 => ?_)
            · -- 54
              replace HE : FT = g20_X11_lists (xso SC ad ws_25) a2.toInt a3.toInt a4.toInt i_35 := HE.trans (if_neg (o28_6 c_41 e_45 c_46))
              refine lv_aload_n C0.1 C0.2.1 dX11_lists_60 rfl (lv_at hl 1 rfl) ?_
              refine tg_X11_routes C0 h kSC_0 q_519 dX11_lists_61 ?_
              refine lv_aload_n C0.1 C0.2.1 dX11_lists_64 rfl (lv_at hl 1 rfl) ?_
              refine tg_X11_now C0 h kSC_0 q_515 dX11_lists_65 ?_
              refine tg_X0_folk C0 h kSC_1 q_249 dX11_lists_68 ?_
              refine lv_iload_n C0.1 C0.2.1 dX11_lists_71 rfl (lv_at hl 3 rfl) ?_
              refine y_ci h (y_rV (As := [.int a2]) (rest := [.ref (ad 87)]) C0 hZ h (c_X1_stand l G Z ad _ h.2 10 kSC_10 a2 (o28_8 e_19 e_20 e_21 c_22) (o28_9 e_19 e_20 e_21 c_22)) k_X1_stand q_1071 q_1072 q_1070 kSC_10 rfl rfl rfl hl.1 rfl rfl (Nat.le_of_ble_eq_true rfl) dX11_lists_72 ⟨Nat.le_of_ble_eq_true rfl, Nat.le_of_ble_eq_true rfl⟩ ⟨Nat.le_of_ble_eq_true rfl, Nat.le_of_ble_eq_true rfl⟩) (fun r_50 H locs ws_47 h u_48 p_49 => ?_)
              obtain ⟨e_51, e_52, e_53, e_54⟩ := p_49
              replace HE : FT = g22c_X11_lists (xso SC ad ws_47) r_50.toInt a2.toInt a3.toInt a4.toInt i_35 := HE.trans (by rw [e_51, e_52]; rfl)
              refine lv_iload_n C0.1 C0.2.1 dX11_lists_75 rfl (lv_at hl 4 rfl) ?_
              refine lv_iload C0.1 C0.2.1 dX11_lists_76 (lv_at hl 5 rfl) ?_
              refine y_ci h (y_rV (As := [.int r_50, .int a3, .int a4]) (rest := []) C0 hZ h (c_X7_shortest l G Z ad _ h.2 r_50 a3 a4 (o28_10 e_53 e_54) (o28_11 e_53 e_54) (o28_12 c_41 e_45 c_46) (o28_13 c_41 e_45 c_46) (Rel.fr (M := []) hR (Fr.tr (Fr.tr (Fr.tr u_2 u_14) u_26) u_48) (by decide) (by decide))) k_X7_shortest q_1149 q_1150 q_1148 kSC_87 rfl rfl rfl hl.1 rfl rfl (Nat.le_of_ble_eq_true rfl) dX11_lists_78 ⟨Nat.le_of_ble_eq_true rfl, Nat.le_of_ble_eq_true rfl⟩ ⟨Nat.le_of_ble_eq_true rfl, Nat.le_of_ble_eq_true rfl⟩) (fun r_58 H locs ws_55 h u_56 p_57 => ?_)
              obtain ⟨e_59, e_60, e_61, e_62⟩ := p_57
              replace HE : FT = g23c_X11_lists (xso SC ad ws_55) r_58.toInt a2.toInt i_35 := HE.trans (by rw [e_59, e_60]; rfl)
              replace HE : FT = g24b_X11_lists (xso SC ad ws_55) r_58.toInt a2.toInt i_35 := HE.trans rfl
              refine y_if_ne (tgt := 87) C0 dX11_lists_81 (by decide) (fun c_63 => ?_) (fun c_63 => ?_)
              · -- 81
                replace HE : FT = g25_X11_lists (xso SC ad ws_55) a2.toInt i_35 := HE.trans (if_neg c_63)
                refine lv_aload C0.1 C0.2.1 dX11_lists_87 (lv_at hl 0 rfl) ?_
                refine tg_X10_size C0 h hi_35 q_502 dX11_lists_89 (fun v_64 e_65 e_66 e_67 => ?_)
                have qh_68 : v_64.toInt = v_36.toInt := congrArg Int32.toInt (e_65.symm.trans (Eq.trans (Eq.trans (Fr.fI u_56 hi_35 (by decide)) (Fr.fI u_48 hi_35 (by decide))) e_37))
                refine y_c1 (n := 1) C0 (by decide) dX11_lists_92 (fun v_69 e_70 => ?_)
                refine lv_aload_n C0.1 C0.2.1 dX11_lists_93 rfl (lv_at hl 1 rfl) ?_
                refine tg_X11_routes C0 h kSC_0 q_519 dX11_lists_94 ?_
                refine y_ci h (y_rV (As := []) (rest := [.int v_69, .int v_64]) C0 hZ h (c_X7_length l G Z ad _ h.2) k_X7_length q_1308 q_1309 q_1408 kSC_87 rfl rfl rfl hl.1 rfl rfl (Nat.le_of_ble_eq_true rfl) dX11_lists_97 ⟨Nat.le_of_ble_eq_true rfl, Nat.le_of_ble_eq_true rfl⟩ ⟨Nat.le_of_ble_eq_true rfl, Nat.le_of_ble_eq_true rfl⟩) (fun r_74 H locs ws_71 h u_72 p_73 => ?_)
                obtain ⟨e_75, e_76, e_77, e_78⟩ := p_73
                replace HE : FT = g27c_X11_lists (xso SC ad ws_71) r_74.toInt v_64.toInt a2.toInt i_35 := HE.trans (by rw [e_75, (xg0 e_65 : v_64.toInt = (xso SC ad ws_55) 0 i_35 2), e_76]; rfl)
                refine y_add C0 (o28_219 e_70 e_77 e_78 (le_min v_69) (le_max v_69) (le_min r_74) (le_max r_74)) (o28_220 e_70 e_77 e_78 (le_min v_69) (le_max v_69) (le_min r_74) (le_max r_74)) dX11_lists_100 (fun v_79 e_80 => ?_)
                refine y_min C0 hl.1 q_1025 q_663 q_141 q_664 (Nat.le_of_ble_eq_true rfl) (Nat.le_of_ble_eq_true rfl) (Nat.le_of_ble_eq_true rfl) (Nat.le_of_ble_eq_true rfl) dX11_lists_101 (fun v_81 e_82 => ?_)
                refine lv_istore (lv' := [(6, .int v_81), (5, .ref (ad i_35)), (0, .ref (ad 0)), (1, .int a1), (2, .int a2), (3, .int a3), (4, .int a4)]) C0.1 C0.2.1 dX11_lists_104 hl (by decide) rfl (fun ls hl => ?_)
                refine y_c1 (n := 0) C0 (by decide) dX11_lists_106 (fun v_83 e_84 => ?_)
                refine lv_istore (lv' := [(7, .int v_83), (6, .int v_81), (5, .ref (ad i_35)), (0, .ref (ad 0)), (1, .int a1), (2, .int a2), (3, .int a3), (4, .int a4)]) C0.1 C0.2.1 dX11_lists_107 hl (by decide) rfl (fun ls hl => ?_)
                have lp_88 : ∀ (n_90 : Nat) (x7_85 : Int32) (H : Heap) (locs : List Loc) (ls : Array Slot) (ws_86 : va_W), 40 - x7_85.toInt < (n_90 : Int) → 0 ≤ x7_85.toInt → x7_85.toInt ≤ 40 → (FT = L28_X11_lists n_90 (xso SC ad ws_86) a2.toInt i_35 v_81.toInt x7_85.toInt) → Wt G SC ad A s H locs ws_86 → Fr SC [43] ws_71 ws_86 → lv_has ls 8 [(7, .int x7_85), (6, .int v_81), (5, .ref (ad i_35)), (0, .ref (ad 0)), (1, .int a1), (2, .int a2), (3, .int a3), (4, .int a4)] → W p l e (rmd 8 0 0) s m args below meth c H locs 0 0 Q (F0 m 109 ls []) := by
                  intro n_90
                  induction n_90 with
                  | zero => intro x7_85 H locs ls ws_86 hn_91 b_92 b_93 HE h hF_87 hl; exact ((o28_221 b_92 b_93 hn_91)).elim
                  | succ n_90 ih_89 =>
                    intro x7_85 H locs ls ws_86 hn_91 b_92 b_93 HE h hF_87 hl
                    obtain ⟨R109, hR109⟩ : ∃ z, z = L28_X11_lists n_90 := ⟨_, rfl⟩
                    replace HE : FT = g29l_X11_lists R109 (xso SC ad ws_86) a2.toInt i_35 v_81.toInt x7_85.toInt := HE.trans (by rw [hR109]; rfl)
                    refine lv_iload C0.1 C0.2.1 dX11_lists_109 (lv_at hl 0 rfl) ?_
                    refine lv_iload C0.1 C0.2.1 dX11_lists_111 (lv_at hl 1 rfl) ?_
                    replace HE : FT = g30b_X11_lists R109 (xso SC ad ws_86) v_81.toInt x7_85.toInt a2.toInt i_35 := HE.trans rfl
                    refine y_icmp_ge (tgt := 152) C0 dX11_lists_113 (by decide) (fun c_94 => ?_) (fun c_94 => ?_)
                    · -- 113
                      replace HE : FT = g31_X11_lists (xso SC ad ws_86) v_81.toInt := HE.trans (if_neg (Int.not_lt.mpr c_94))
                      refine lv_iload C0.1 C0.2.1 dX11_lists_152 (lv_at hl 1 rfl) ?_
                      replace HE : FT = ((xso SC ad ws_86), v_81.toInt) := HE.trans rfl
                      rw [hQ]
                      exact y_iret C0 h (Fr.tr (Fr.tr (Fr.tr (Fr.tr (Fr.tr (Fr.tr (Fr.mono u_2 (by decide)) (Fr.mono u_14 (by decide))) (Fr.mono u_26 (by decide))) (Fr.mono u_48 (by decide))) (Fr.mono u_56 (by decide))) (Fr.mono u_72 (by decide))) (Fr.mono hF_87 (by decide))) ⟨(congrArg Prod.fst (HE.symm.trans hFT)), (congrArg Prod.snd (HE.symm.trans hFT)), (o28_222 e_38 e_39 c_40 e_66 e_67 qh_68 e_70 e_77 e_78 e_80 e_82 b_92 b_93 hn_91 c_94), (o28_223 e_38 e_39 c_40 e_66 e_67 qh_68 e_70 e_77 e_78 e_80 e_82 b_92 b_93 hn_91 c_94), (Rel.fr (M := [4, 5, 18, 19, 20, 21, 22, 23, 25, 26, 27, 43]) hR (Fr.tr (Fr.tr (Fr.tr (Fr.tr (Fr.tr (Fr.tr (Fr.mono u_2 (by decide)) (Fr.mono u_14 (by decide))) (Fr.mono u_26 (by decide))) (Fr.mono u_48 (by decide))) (Fr.mono u_56 (by decide))) (Fr.mono u_72 (by decide))) (Fr.mono hF_87 (by decide))) (by decide) (by decide)), (Hok.fr (M := [4, 5, 18, 19, 20, 21, 22, 23, 25, 26, 27, 43]) hH (Fr.tr (Fr.tr (Fr.tr (Fr.tr (Fr.tr (Fr.tr (Fr.mono u_2 (by decide)) (Fr.mono u_14 (by decide))) (Fr.mono u_26 (by decide))) (Fr.mono u_48 (by decide))) (Fr.mono u_56 (by decide))) (Fr.mono u_72 (by decide))) (Fr.mono hF_87 (by decide))) (by decide))⟩ dX11_lists_154
                    · -- 113
                      replace HE : FT = g32_X11_lists R109 (xso SC ad ws_86) a2.toInt i_35 v_81.toInt x7_85.toInt := HE.trans (if_pos c_94)
                      refine lv_aload C0.1 C0.2.1 dX11_lists_116 (lv_at hl 2 rfl) ?_
                      refine lv_iload C0.1 C0.2.1 dX11_lists_118 (lv_at hl 0 rfl) ?_
                      refine lv_iload C0.1 C0.2.1 dX11_lists_120 (lv_at hl 0 rfl) ?_
                      replace HE : FT = g33b_X11_lists R109 (xso SC ad ws_86) x7_85.toInt i_35 a2.toInt v_81.toInt := HE.trans rfl
                      refine y_if_ne (tgt := 130) C0 dX11_lists_122 (by decide) (fun c_95 => ?_) (fun c_95 => ?_)
                      · -- 122
                        replace HE : FT = g34_X11_lists R109 (xso SC ad ws_86) x7_85.toInt i_35 a2.toInt v_81.toInt := HE.trans (if_neg c_95)
                        refine lv_aload_n C0.1 C0.2.1 dX11_lists_130 rfl (lv_at hl 3 rfl) ?_
                        refine tg_X11_routes C0 h kSC_0 q_519 dX11_lists_131 ?_
                        refine lv_iload C0.1 C0.2.1 dX11_lists_134 (lv_at hl 0 rfl) ?_
                        refine y_c1 (n := 1) C0 (by decide) dX11_lists_136 (fun v_96 e_97 => ?_)
                        refine y_sub C0 (o28_224 e_38 e_39 c_40 e_66 e_67 qh_68 e_70 e_77 e_78 e_80 e_82 b_92 b_93 hn_91 c_94 c_95 e_97 (le_min x7_85) (le_max x7_85) (le_min v_96) (le_max v_96) (le_min v_36) (le_max v_36) (le_min v_64) (le_max v_64) (le_min v_69) (le_max v_69) (le_min r_74) (le_max r_74) (le_min v_79) (le_max v_79) (le_min v_81) (le_max v_81)) (o28_225 e_38 e_39 c_40 e_66 e_67 qh_68 e_70 e_77 e_78 e_80 e_82 b_92 b_93 hn_91 c_94 c_95 e_97 (le_min x7_85) (le_max x7_85) (le_min v_96) (le_max v_96) (le_min v_36) (le_max v_36) (le_min v_64) (le_max v_64) (le_min v_69) (le_max v_69) (le_min r_74) (le_max r_74) (le_min v_79) (le_max v_79) (le_min v_81) (le_max v_81)) dX11_lists_137 (fun v_98 e_99 => ?_)
                        refine y_ci h (y_rV (As := [.int v_98]) (rest := [.int x7_85, .ref (ad i_35)]) C0 hZ h (c_X7_turnAt l G Z ad _ h.2 v_98) k_X7_turnAt q_1195 q_1196 q_1194 kSC_87 rfl rfl rfl hl.1 rfl rfl (Nat.le_of_ble_eq_true rfl) dX11_lists_138 ⟨Nat.le_of_ble_eq_true rfl, Nat.le_of_ble_eq_true rfl⟩ ⟨Nat.le_of_ble_eq_true rfl, Nat.le_of_ble_eq_true rfl⟩) (fun r_103 H locs ws_100 h u_101 p_102 => ?_)
                        obtain ⟨e_104, e_105⟩ := p_102
                        replace HE : FT = g36c_X11_lists R109 (xso SC ad ws_100) r_103.toInt x7_85.toInt i_35 a2.toInt v_81.toInt := HE.trans (by rw [e_104, e_105, e_99, e_97]; rfl)
                        refine y_i2l C0 dX11_lists_141 (fun w_106 e_107 => ?_)
                        refine y_cl h (y_rV (As := [.int x7_85, .long w_106]) (rest := []) C0 hZ h (c_X10_put l G Z ad _ h.2 i_35 hi_35 x7_85 w_106 (o28_226 e_38 e_39 c_40 e_66 e_67 qh_68 e_70 e_77 e_78 e_80 e_82 b_92 b_93 hn_91 c_94 c_95 e_97 e_99) (o28_227 e_38 e_39 c_40 e_66 e_67 qh_68 e_70 e_77 e_78 e_80 e_82 b_92 b_93 hn_91 c_94 c_95 e_97 e_99)) k_X10_put q_1401 q_1402 q_1400 hi_35 rfl rfl rfl hl.1 rfl rfl (Nat.le_of_ble_eq_true rfl) dX11_lists_142 ⟨Nat.le_of_ble_eq_true rfl, Nat.le_of_ble_eq_true rfl⟩ ⟨Nat.le_of_ble_eq_true rfl, Nat.le_of_ble_eq_true rfl⟩) (fun r_111 H locs ws_108 h u_109 p_110 => ?_)
                        obtain ⟨e_112, e_113⟩ := p_110
                        replace HE : FT = g37c_X11_lists R109 (xso SC ad ws_108) r_111.toInt a2.toInt i_35 v_81.toInt x7_85.toInt := HE.trans (by rw [e_112, e_113, e_107]; rfl)
                        refine lv_pop2_2 C0.1 C0.2.1 dX11_lists_145 rfl ?_
                        refine y_inc (kp := 0) (n := 1) (fun v_114 => [(7, .int v_114), (6, .int v_81), (5, .ref (ad i_35)), (0, .ref (ad 0)), (1, .int a1), (2, .int a2), (3, .int a3), (4, .int a4)]) C0 hl rfl (by decide) (by decide) (fun _ => rfl) (o28_228 e_38 e_39 c_40 e_66 e_67 qh_68 e_70 e_77 e_78 e_80 e_82 b_92 b_93 hn_91 c_94 c_95 e_97 e_99 (le_min x7_85) (le_max x7_85) (le_min v_36) (le_max v_36) (le_min v_64) (le_max v_64) (le_min v_69) (le_max v_69) (le_min r_74) (le_max r_74) (le_min v_79) (le_max v_79) (le_min v_81) (le_max v_81) (le_min v_96) (le_max v_96) (le_min v_98) (le_max v_98)) (o28_229 e_38 e_39 c_40 e_66 e_67 qh_68 e_70 e_77 e_78 e_80 e_82 b_92 b_93 hn_91 c_94 c_95 e_97 e_99 (le_min x7_85) (le_max x7_85) (le_min v_36) (le_max v_36) (le_min v_64) (le_max v_64) (le_min v_69) (le_max v_69) (le_min r_74) (le_max r_74) (le_min v_79) (le_max v_79) (le_min v_81) (le_max v_81) (le_min v_96) (le_max v_96) (le_min v_98) (le_max v_98)) dX11_lists_146 (fun v_114 ls e_115 hl => ?_)
                        refine lv_goto (tgt := 109) C0.1 C0.2.1 dX11_lists_149 (by decide) ?_
                        exact ih_89 v_114 _ _ _ _ (o28_230 e_38 e_39 c_40 e_66 e_67 qh_68 e_70 e_77 e_78 e_80 e_82 b_92 b_93 hn_91 c_94 c_95 e_97 e_99 e_115) (o28_231 e_38 e_39 c_40 e_66 e_67 qh_68 e_70 e_77 e_78 e_80 e_82 b_92 b_93 hn_91 c_94 c_95 e_97 e_99 e_115) (o28_232 e_38 e_39 c_40 e_66 e_67 qh_68 e_70 e_77 e_78 e_80 e_82 b_92 b_93 hn_91 c_94 c_95 e_97 e_99 e_115) (((show FT = R109 (xso SC ad ws_108) a2.toInt i_35 v_81.toInt v_114.toInt from HE.trans (by rw [e_115]; rfl)).trans (by rw [hR109]))) h (Fr.tr (Fr.tr hF_87 (Fr.mono u_101 (by decide))) u_109) (lv_sub hl [0, 1, 2, 3, 4, 5, 6, 7] rfl)
                      · -- 122
                        replace HE : FT = g35_X11_lists R109 (xso SC ad ws_86) i_35 a2.toInt v_81.toInt := HE.trans (if_pos c_95)
                        refine lv_iload_n C0.1 C0.2.1 dX11_lists_125 rfl (lv_at hl 5 rfl) ?_
                        refine y_i2l C0 dX11_lists_126 (fun w_116 e_117 => ?_)
                        refine lv_goto (tgt := 142) C0.1 C0.2.1 dX11_lists_127 (by decide) ?_
                        refine y_cl h (y_rV (As := [.int x7_85, .long w_116]) (rest := []) C0 hZ h (c_X10_put l G Z ad _ h.2 i_35 hi_35 x7_85 w_116 (o28_233 e_38 e_39 c_40 e_66 e_67 qh_68 e_70 e_77 e_78 e_80 e_82 b_92 b_93 hn_91 c_94 c_95) (o28_234 e_38 e_39 c_40 e_66 e_67 qh_68 e_70 e_77 e_78 e_80 e_82 b_92 b_93 hn_91 c_94 c_95)) k_X10_put q_1401 q_1402 q_1400 hi_35 rfl rfl rfl hl.1 rfl rfl (Nat.le_of_ble_eq_true rfl) dX11_lists_142 ⟨Nat.le_of_ble_eq_true rfl, Nat.le_of_ble_eq_true rfl⟩ ⟨Nat.le_of_ble_eq_true rfl, Nat.le_of_ble_eq_true rfl⟩) (fun r_121 H locs ws_118 h u_119 p_120 => ?_)
                        obtain ⟨e_122, e_123⟩ := p_120
                        replace HE : FT = g38c_X11_lists R109 (xso SC ad ws_118) r_121.toInt a2.toInt i_35 v_81.toInt := HE.trans (by rw [e_122, e_123, e_117, (o28_235 e_38 e_39 c_40 e_66 e_67 qh_68 e_70 e_77 e_78 e_80 e_82 b_92 b_93 hn_91 c_94 c_95)]; rfl)
                        refine lv_pop2_2 C0.1 C0.2.1 dX11_lists_145 rfl ?_
                        refine y_inc (kp := 0) (n := 1) (fun v_124 => [(7, .int v_124), (6, .int v_81), (5, .ref (ad i_35)), (0, .ref (ad 0)), (1, .int a1), (2, .int a2), (3, .int a3), (4, .int a4)]) C0 hl rfl (by decide) (by decide) (fun _ => rfl) (o28_236 e_38 e_39 c_40 e_66 e_67 qh_68 e_70 e_77 e_78 e_80 e_82 b_92 b_93 hn_91 c_94 c_95 (le_min x7_85) (le_max x7_85) (le_min v_36) (le_max v_36) (le_min v_64) (le_max v_64) (le_min v_69) (le_max v_69) (le_min r_74) (le_max r_74) (le_min v_79) (le_max v_79) (le_min v_81) (le_max v_81)) (o28_237 e_38 e_39 c_40 e_66 e_67 qh_68 e_70 e_77 e_78 e_80 e_82 b_92 b_93 hn_91 c_94 c_95 (le_min x7_85) (le_max x7_85) (le_min v_36) (le_max v_36) (le_min v_64) (le_max v_64) (le_min v_69) (le_max v_69) (le_min r_74) (le_max r_74) (le_min v_79) (le_max v_79) (le_min v_81) (le_max v_81)) dX11_lists_146 (fun v_124 ls e_125 hl => ?_)
                        refine lv_goto (tgt := 109) C0.1 C0.2.1 dX11_lists_149 (by decide) ?_
                        exact ih_89 v_124 _ _ _ _ (o28_238 e_38 e_39 c_40 e_66 e_67 qh_68 e_70 e_77 e_78 e_80 e_82 b_92 b_93 hn_91 c_94 c_95 e_125) (o28_239 e_38 e_39 c_40 e_66 e_67 qh_68 e_70 e_77 e_78 e_80 e_82 b_92 b_93 hn_91 c_94 c_95 e_125) (o28_240 e_38 e_39 c_40 e_66 e_67 qh_68 e_70 e_77 e_78 e_80 e_82 b_92 b_93 hn_91 c_94 c_95 e_125) (((show FT = R109 (xso SC ad ws_118) a2.toInt i_35 v_81.toInt v_124.toInt from HE.trans (by rw [e_125, (o28_241 e_38 e_39 c_40 e_66 e_67 qh_68 e_70 e_77 e_78 e_80 e_82 b_92 b_93 hn_91 c_94 c_95 e_125)]; rfl)).trans (by rw [hR109]))) h (Fr.tr hF_87 u_119) (lv_sub hl [0, 1, 2, 3, 4, 5, 6, 7] rfl)
                exact lp_88 ((40 - v_83.toInt + 1).toNat) v_83 _ _ _ _ (o28_242 e_84) (o28_23 e_84) (o28_243 e_84) ((show FT = L28_X11_lists (Int.toNat (40 - v_83.toInt + 1)) (xso SC ad ws_71) a2.toInt i_35 v_81.toInt v_83.toInt from HE.trans (by rw [e_84, (ix_min e_82), e_80, (o28_244 e_38 e_39 c_40 e_66 e_67 qh_68 e_70 e_77 e_78 e_80 e_82)]; rfl))) h Fr.rf (lv_sub hl [0, 1, 2, 3, 4, 5, 6, 7] rfl)
              · -- 81
                replace HE : FT = g26_X11_lists (xso SC ad ws_55) := HE.trans (if_pos c_63)
                refine y_c2 (n := (-5)) C0 (by decide) dX11_lists_84 (fun v_126 e_127 => ?_)
                replace HE : FT = ((xso SC ad ws_55), v_126.toInt) := HE.trans (by rw [e_127]; rfl)
                rw [hQ]
                exact y_iret C0 h (Fr.tr (Fr.tr (Fr.tr (Fr.tr (Fr.mono u_2 (by decide)) (Fr.mono u_14 (by decide))) (Fr.mono u_26 (by decide))) (Fr.mono u_48 (by decide))) (Fr.mono u_56 (by decide))) ⟨(congrArg Prod.fst (HE.symm.trans hFT)), (congrArg Prod.snd (HE.symm.trans hFT)), (o28_245 e_127), (o28_246 e_127), (Rel.fr (M := [4, 5, 18, 19, 20, 21, 22, 23, 25, 26, 27]) hR (Fr.tr (Fr.tr (Fr.tr (Fr.tr (Fr.mono u_2 (by decide)) (Fr.mono u_14 (by decide))) (Fr.mono u_26 (by decide))) (Fr.mono u_48 (by decide))) u_56) (by decide) (by decide)), (Hok.fr (M := [4, 5, 18, 19, 20, 21, 22, 23, 25, 26, 27]) hH (Fr.tr (Fr.tr (Fr.tr (Fr.tr (Fr.mono u_2 (by decide)) (Fr.mono u_14 (by decide))) (Fr.mono u_26 (by decide))) (Fr.mono u_48 (by decide))) u_56) (by decide))⟩ dX11_lists_86
            · -- 54
              replace HE : FT = g21_X11_lists (xso SC ad ws_25) := HE.trans (if_pos (o28_7 c_41 e_45 c_46))
              refine y_c2 (n := (-3)) C0 (by decide) dX11_lists_57 (fun v_128 e_129 => ?_)
              replace HE : FT = ((xso SC ad ws_25), v_128.toInt) := HE.trans (by rw [e_129]; rfl)
              rw [hQ]
              exact y_iret C0 h (Fr.tr (Fr.tr (Fr.mono u_2 (by decide)) (Fr.mono u_14 (by decide))) (Fr.mono u_26 (by decide))) ⟨(congrArg Prod.fst (HE.symm.trans hFT)), (congrArg Prod.snd (HE.symm.trans hFT)), (o28_217 e_129), (o28_218 e_129), (Rel.fr (M := []) hR (Fr.tr (Fr.tr u_2 u_14) u_26) (by decide) (by decide)), (Hok.fr (M := []) hH (Fr.tr (Fr.tr u_2 u_14) u_26) (by decide))⟩ dX11_lists_59
        · -- 39
          replace HE : FT = g15_X11_lists (xso SC ad ws_25) := HE.trans (if_pos c_40)
          refine y_c2 (n := (-6)) C0 (by decide) dX11_lists_42 (fun v_130 e_131 => ?_)
          replace HE : FT = ((xso SC ad ws_25), v_130.toInt) := HE.trans (by rw [e_131]; rfl)
          rw [hQ]
          exact y_iret C0 h (Fr.tr (Fr.tr (Fr.mono u_2 (by decide)) (Fr.mono u_14 (by decide))) (Fr.mono u_26 (by decide))) ⟨(congrArg Prod.fst (HE.symm.trans hFT)), (congrArg Prod.snd (HE.symm.trans hFT)), (o28_247 e_131), (o28_248 e_131), (Rel.fr (M := []) hR (Fr.tr (Fr.tr u_2 u_14) u_26) (by decide) (by decide)), (Hok.fr (M := []) hH (Fr.tr (Fr.tr u_2 u_14) u_26) (by decide))⟩ dX11_lists_44
      · -- 20
        replace HE : FT = g12_X11_lists (xso SC ad ws_25) := HE.trans (if_pos c_34)
        refine y_c2 (n := (-2)) C0 (by decide) dX11_lists_23 (fun v_132 e_133 => ?_)
        replace HE : FT = ((xso SC ad ws_25), v_132.toInt) := HE.trans (by rw [e_133]; rfl)
        rw [hQ]
        exact y_iret C0 h (Fr.tr (Fr.tr (Fr.mono u_2 (by decide)) (Fr.mono u_14 (by decide))) (Fr.mono u_26 (by decide))) ⟨(congrArg Prod.fst (HE.symm.trans hFT)), (congrArg Prod.snd (HE.symm.trans hFT)), (o28_215 e_133), (o28_216 e_133), (Rel.fr (M := []) hR (Fr.tr (Fr.tr u_2 u_14) u_26) (by decide) (by decide)), (Hok.fr (M := []) hH (Fr.tr (Fr.tr u_2 u_14) u_26) (by decide))⟩ dX11_lists_25
noncomputable def g2_X11_image (s : XS) : XR := (s, ((-2)))
noncomputable def g8w_X11_image (s : XS) : XR := (s, 0)
noncomputable def g7c_X11_image (s : XS) (a1 : Int) : XR := g8w_X11_image (xup s 1 117 (Int.toNat a1) (1))
noncomputable def g5_X11_image (s : XS) (a1 : Int) : XR := g7c_X11_image ((f_X0_copy s (39 + 19 * Int.toNat a1) 1).1) a1
noncomputable def g6_X11_image (s : XS) : XR := (s, ((-2)))
noncomputable def g4b_X11_image (s : XS) (a1 : Int) : XR := if a1 < 2 then g5_X11_image s a1 else g6_X11_image s
noncomputable def g3_X11_image (s : XS) (a1 : Int) : XR := g4b_X11_image s a1
noncomputable def g1b_X11_image (s : XS) (a1 : Int) : XR := if a1 < 0 then g2_X11_image s else g3_X11_image s a1
noncomputable def f_X11_image (s : XS) (a1 : Int) : XR := g1b_X11_image s a1
set_option maxHeartbeats 4000000 in
set_option maxRecDepth 100000 in
theorem c_X11_image (l : Launch) (G : GG) (Z : RZ) (ad : Nat → Nat) (ws0 : va_W) (hT : Ty G SC ad ws0) (a1 : Int32) (hR : Rel ws0) (hH : Hok ws0) : Mq l yX11_image cX11_image 2 (some .int) 3 G Z [.ref (ad 0), .int a1] ws0 (PI G SC ad [1, 2, 3, 6, 7, 8, 9, 10, 11, 12, 13, 14, 15, 46] ws0 (fun r u => (xso SC ad u = (f_X11_image (xso SC ad ws0) a1.toInt).1) ∧ (r.toInt = (f_X11_image (xso SC ad ws0) a1.toInt).2) ∧ ((-2) ≤ r.toInt) ∧ (r.toInt ≤ 0) ∧ (((r.toInt = -2 ∧ (a1.toInt < 0 ∨ 1 < a1.toInt)) ∨ (r.toInt = 0 ∧ 0 ≤ a1.toInt ∧ a1.toInt ≤ 1))) ∧ (Rel u) ∧ (Hok u))) := by
  refine Mq.start (by decide) (Nat.le_of_ble_eq_true rfl) ?_
  intro p e s m below meth c A ls C0 hZ h hl
  have hl : lv_has ls 2 [(0, .ref (ad 0)), (1, .int a1)] := hl
  have h : Wt G SC ad A s s.heap [] ws0 := ⟨h, hT⟩
  obtain ⟨args, hargs⟩ : ∃ z, z = ([.ref (ad 0), .int a1] : List Value).toArray := ⟨_, rfl⟩
  rw [← hargs] at C0 ⊢
  have C0 : Cx p s m args meth c RX11 cX11_image 2 (some .int) := C0
  obtain ⟨Q, hQ⟩ : ∃ z, z = MQ below ((PI G SC ad [1, 2, 3, 6, 7, 8, 9, 10, 11, 12, 13, 14, 15, 46] ws0 (fun r u => (xso SC ad u = (f_X11_image (xso SC ad ws0) a1.toInt).1) ∧ (r.toInt = (f_X11_image (xso SC ad ws0) a1.toInt).2) ∧ ((-2) ≤ r.toInt) ∧ (r.toInt ≤ 0) ∧ (((r.toInt = -2 ∧ (a1.toInt < 0 ∨ 1 < a1.toInt)) ∨ (r.toInt = 0 ∧ 0 ≤ a1.toInt ∧ a1.toInt ≤ 1))) ∧ (Rel u) ∧ (Hok u))) A) args s 0 0 A := ⟨_, rfl⟩
  rw [← hQ]
  obtain ⟨FT, hFT⟩ : ∃ z, z = f_X11_image (xso SC ad ws0) a1.toInt := ⟨_, rfl⟩
  have HE : FT = f_X11_image (xso SC ad ws0) a1.toInt := hFT
  refine lv_iload_n C0.1 C0.2.1 dX11_image_0 rfl (lv_at hl 1 rfl) ?_
  replace HE : FT = g1b_X11_image (xso SC ad ws0) a1.toInt := HE.trans rfl
  refine y_if_lt (tgt := 9) C0 dX11_image_1 (by decide) (fun c_1 => ?_) (fun c_1 => ?_)
  · -- 1
    replace HE : FT = g2_X11_image (xso SC ad ws0) := HE.trans (if_pos c_1)
    refine y_c2 (n := (-2)) C0 (by decide) dX11_image_9 (fun v_2 e_3 => ?_)
    replace HE : FT = ((xso SC ad ws0), v_2.toInt) := HE.trans (by rw [e_3]; rfl)
    rw [hQ]
    exact y_iret C0 h Fr.rf ⟨(congrArg Prod.fst (HE.symm.trans hFT)), (congrArg Prod.snd (HE.symm.trans hFT)), (o28_46 e_3), (o28_204 e_3), (o28_249 c_1 e_3), hR, hH⟩ dX11_image_11
  · -- 1
    replace HE : FT = g3_X11_image (xso SC ad ws0) a1.toInt := HE.trans (if_neg (Int.not_lt.mpr c_1))
    refine lv_iload_n C0.1 C0.2.1 dX11_image_4 rfl (lv_at hl 1 rfl) ?_
    refine y_c1 (n := 2) C0 (by decide) dX11_image_5 (fun v_4 e_5 => ?_)
    replace HE : FT = g4b_X11_image (xso SC ad ws0) a1.toInt := HE.trans rfl
    refine y_icmp_lt (tgt := 12) C0 dX11_image_6 (by decide) (fun c_6 => ?_) (fun c_6 => ?_)
    · -- 6
      replace HE : FT = g5_X11_image (xso SC ad ws0) a1.toInt := HE.trans (if_pos (o28_250 c_1 e_5 c_6))
      refine lv_aload_n C0.1 C0.2.1 dX11_image_12 rfl (lv_at hl 0 rfl) ?_
      refine tg_X11_images C0 h kSC_0 q_525 dX11_image_13 ?_
      refine lv_iload_n C0.1 C0.2.1 dX11_image_16 rfl (lv_at hl 1 rfl) ?_
      refine y_aald C0 h kSC_116 rfl rfl (by decide) (o28_252 c_1 e_5 c_6) (o28_253 c_1 e_5 c_6) dX11_image_17 ?_
      obtain ⟨i_7, hi_7, ei_7⟩ : ∃ j : Nat, Kd SC j 1 ∧ j = 39 + 19 * a1.toInt.toNat := ⟨_, aSC_45 (o28_254 c_1 e_5 c_6), rfl⟩
      rw [← ei_7]
      refine lv_aload_n C0.1 C0.2.1 dX11_image_18 rfl (lv_at hl 0 rfl) ?_
      refine tg_X11_now C0 h kSC_0 q_515 dX11_image_19 ?_
      refine y_cv h (y_rV (As := [.ref (ad 1)]) (rest := []) C0 hZ h (c_X0_copy l G Z ad _ h.2 i_7 hi_7 1 kSC_1 hR) k_X0_copy q_857 q_858 q_856 hi_7 rfl rfl rfl hl.1 rfl rfl (Nat.le_of_ble_eq_true rfl) dX11_image_22 ⟨Nat.le_of_ble_eq_true rfl, Nat.le_of_ble_eq_true rfl⟩ ⟨Nat.le_of_ble_eq_true rfl, Nat.le_of_ble_eq_true rfl⟩) (fun H locs ws_8 h u_9 p_10 => ?_)
      obtain ⟨e_11, e_12⟩ := p_10
      replace HE : FT = g7c_X11_image (xso SC ad ws_8) a1.toInt := HE.trans (by rw [e_11, ei_7]; rfl)
      refine lv_aload_n C0.1 C0.2.1 dX11_image_25 rfl (lv_at hl 0 rfl) ?_
      refine tg_X11_imageMade C0 h kSC_0 q_526 dX11_image_26 ?_
      refine lv_iload_n C0.1 C0.2.1 dX11_image_29 rfl (lv_at hl 1 rfl) ?_
      refine y_c1 (n := 1) C0 (by decide) dX11_image_30 (fun v_13 e_14 => ?_)
      have hO_17 := h.2
      refine y_zast C0 h kSC_117 rfl (by decide) (o28_252 c_1 e_5 c_6) (o28_253 c_1 e_5 c_6) (o28_255 e_14) (o28_256 e_14) (o28_255 e_14) (o28_256 e_14) dX11_image_31 (fun H locs ws_15 h u_16 => ?_)
      replace HE : FT = g8w_X11_image (xso SC ad ws_15) := HE.trans (by rw [(xso_A (i := 117) hO_17 h.2 kSC_117 rfl u_16), e_14]; rfl)
      refine y_c1 (n := 0) C0 (by decide) dX11_image_32 (fun v_18 e_19 => ?_)
      replace HE : FT = ((xso SC ad ws_15), v_18.toInt) := HE.trans (by rw [e_19]; rfl)
      rw [hQ]
      exact y_iret C0 h (Fr.tr (Fr.mono u_9 (by decide)) (Fr.up u_16.1 kSC_117 (by decide))) ⟨(congrArg Prod.fst (HE.symm.trans hFT)), (congrArg Prod.snd (HE.symm.trans hFT)), (o28_257 e_19), (o28_67 e_19), (o28_258 c_1 e_5 c_6 e_19), (Rel.fr (M := [46]) e_12 (Fr.up u_16.1 kSC_117 (by decide)) (by decide) (by decide)), (Hok.fr (M := [1, 2, 3, 6, 7, 8, 9, 10, 11, 12, 13, 14, 15, 46]) hH (Fr.tr (Fr.mono u_9 (by decide)) (Fr.up u_16.1 kSC_117 (by decide))) (by decide))⟩ dX11_image_33
    · -- 6
      replace HE : FT = g6_X11_image (xso SC ad ws0) := HE.trans (if_neg (o28_251 c_1 e_5 c_6))
      refine y_c2 (n := (-2)) C0 (by decide) dX11_image_9 (fun v_20 e_21 => ?_)
      replace HE : FT = ((xso SC ad ws0), v_20.toInt) := HE.trans (by rw [e_21]; rfl)
      rw [hQ]
      exact y_iret C0 h Fr.rf ⟨(congrArg Prod.fst (HE.symm.trans hFT)), (congrArg Prod.snd (HE.symm.trans hFT)), (o28_46 e_21), (o28_204 e_21), (o28_259 c_1 e_5 c_6 e_21), hR, hH⟩ dX11_image_11
noncomputable def g2_X11_restore (s : XS) : XR := (s, ((-2)))
noncomputable def g11c_X11_restore (s : XS) : XR := (s, 0)
noncomputable def g10c_X11_restore (s : XS) : XR := g11c_X11_restore ((f_X11_startAnew s).1)
noncomputable def g8_X11_restore (s : XS) (a1 : Int) : XR := g10c_X11_restore ((f_X0_copy s 1 (39 + 19 * Int.toNat a1)).1)
noncomputable def g9_X11_restore (s : XS) : XR := (s, ((-5)))
noncomputable def g7b_X11_restore (s : XS) (v_7 : Int) (a1 : Int) : XR := if v_7 = 0 then g9_X11_restore s else g8_X11_restore s a1
noncomputable def g5_X11_restore (s : XS) (a1 : Int) : XR := g7b_X11_restore s ((s 1 117 (Int.toNat a1))) a1
noncomputable def g6_X11_restore (s : XS) : XR := (s, ((-2)))
noncomputable def g4b_X11_restore (s : XS) (a1 : Int) : XR := if a1 < 2 then g5_X11_restore s a1 else g6_X11_restore s
noncomputable def g3_X11_restore (s : XS) (a1 : Int) : XR := g4b_X11_restore s a1
noncomputable def g1b_X11_restore (s : XS) (a1 : Int) : XR := if a1 < 0 then g2_X11_restore s else g3_X11_restore s a1
noncomputable def f_X11_restore (s : XS) (a1 : Int) : XR := g1b_X11_restore s a1
set_option maxHeartbeats 4000000 in
set_option maxRecDepth 100000 in
theorem c_X11_restore (l : Launch) (G : GG) (Z : RZ) (ad : Nat → Nat) (ws0 : va_W) (hT : Ty G SC ad ws0) (a1 : Int32) (hR : Rel ws0) (hH : Hok ws0) : Mq l yX11_restore cX11_restore 2 (some .int) 3 G Z [.ref (ad 0), .int a1] ws0 (PI G SC ad [0, 1, 2, 3, 6, 7, 8, 9, 10, 11, 12, 13, 14, 15, 18, 39] ws0 (fun r u => (xso SC ad u = (f_X11_restore (xso SC ad ws0) a1.toInt).1) ∧ (r.toInt = (f_X11_restore (xso SC ad ws0) a1.toInt).2) ∧ ((-5) ≤ r.toInt) ∧ (r.toInt ≤ 0) ∧ (Rel u) ∧ (Hok u))) := by
  refine Mq.start (by decide) (Nat.le_of_ble_eq_true rfl) ?_
  intro p e s m below meth c A ls C0 hZ h hl
  have hl : lv_has ls 2 [(0, .ref (ad 0)), (1, .int a1)] := hl
  have h : Wt G SC ad A s s.heap [] ws0 := ⟨h, hT⟩
  obtain ⟨args, hargs⟩ : ∃ z, z = ([.ref (ad 0), .int a1] : List Value).toArray := ⟨_, rfl⟩
  rw [← hargs] at C0 ⊢
  have C0 : Cx p s m args meth c RX11 cX11_restore 2 (some .int) := C0
  obtain ⟨Q, hQ⟩ : ∃ z, z = MQ below ((PI G SC ad [0, 1, 2, 3, 6, 7, 8, 9, 10, 11, 12, 13, 14, 15, 18, 39] ws0 (fun r u => (xso SC ad u = (f_X11_restore (xso SC ad ws0) a1.toInt).1) ∧ (r.toInt = (f_X11_restore (xso SC ad ws0) a1.toInt).2) ∧ ((-5) ≤ r.toInt) ∧ (r.toInt ≤ 0) ∧ (Rel u) ∧ (Hok u))) A) args s 0 0 A := ⟨_, rfl⟩
  rw [← hQ]
  obtain ⟨FT, hFT⟩ : ∃ z, z = f_X11_restore (xso SC ad ws0) a1.toInt := ⟨_, rfl⟩
  have HE : FT = f_X11_restore (xso SC ad ws0) a1.toInt := hFT
  refine lv_iload_n C0.1 C0.2.1 dX11_restore_0 rfl (lv_at hl 1 rfl) ?_
  replace HE : FT = g1b_X11_restore (xso SC ad ws0) a1.toInt := HE.trans rfl
  refine y_if_lt (tgt := 9) C0 dX11_restore_1 (by decide) (fun c_1 => ?_) (fun c_1 => ?_)
  · -- 1
    replace HE : FT = g2_X11_restore (xso SC ad ws0) := HE.trans (if_pos c_1)
    refine y_c2 (n := (-2)) C0 (by decide) dX11_restore_9 (fun v_2 e_3 => ?_)
    replace HE : FT = ((xso SC ad ws0), v_2.toInt) := HE.trans (by rw [e_3]; rfl)
    rw [hQ]
    exact y_iret C0 h Fr.rf ⟨(congrArg Prod.fst (HE.symm.trans hFT)), (congrArg Prod.snd (HE.symm.trans hFT)), (o28_260 e_3), (o28_204 e_3), hR, hH⟩ dX11_restore_11
  · -- 1
    replace HE : FT = g3_X11_restore (xso SC ad ws0) a1.toInt := HE.trans (if_neg (Int.not_lt.mpr c_1))
    refine lv_iload_n C0.1 C0.2.1 dX11_restore_4 rfl (lv_at hl 1 rfl) ?_
    refine y_c1 (n := 2) C0 (by decide) dX11_restore_5 (fun v_4 e_5 => ?_)
    replace HE : FT = g4b_X11_restore (xso SC ad ws0) a1.toInt := HE.trans rfl
    refine y_icmp_lt (tgt := 12) C0 dX11_restore_6 (by decide) (fun c_6 => ?_) (fun c_6 => ?_)
    · -- 6
      replace HE : FT = g5_X11_restore (xso SC ad ws0) a1.toInt := HE.trans (if_pos (o28_250 c_1 e_5 c_6))
      refine lv_aload_n C0.1 C0.2.1 dX11_restore_12 rfl (lv_at hl 0 rfl) ?_
      refine tg_X11_imageMade C0 h kSC_0 q_526 dX11_restore_13 ?_
      refine lv_iload_n C0.1 C0.2.1 dX11_restore_16 rfl (lv_at hl 1 rfl) ?_
      refine y_zald C0 h kSC_117 rfl (by decide) (o28_252 c_1 e_5 c_6) (o28_253 c_1 e_5 c_6) dX11_restore_17 (fun v_7 e_8 e_9 e_10 => ?_)
      replace HE : FT = g7b_X11_restore (xso SC ad ws0) v_7.toInt a1.toInt := HE.trans (by rw [(xg1 e_8 : v_7.toInt = (xso SC ad ws0) 1 117 a1.toInt.toNat)]; rfl)
      refine y_if_ne (tgt := 24) C0 dX11_restore_18 (by decide) (fun c_11 => ?_) (fun c_11 => ?_)
      · -- 18
        replace HE : FT = g8_X11_restore (xso SC ad ws0) a1.toInt := HE.trans (if_neg c_11)
        refine lv_aload_n C0.1 C0.2.1 dX11_restore_24 rfl (lv_at hl 0 rfl) ?_
        refine tg_X11_now C0 h kSC_0 q_515 dX11_restore_25 ?_
        refine lv_aload_n C0.1 C0.2.1 dX11_restore_28 rfl (lv_at hl 0 rfl) ?_
        refine tg_X11_images C0 h kSC_0 q_525 dX11_restore_29 ?_
        refine lv_iload_n C0.1 C0.2.1 dX11_restore_32 rfl (lv_at hl 1 rfl) ?_
        refine y_aald C0 h kSC_116 rfl rfl (by decide) (o28_252 c_1 e_5 c_6) (o28_253 c_1 e_5 c_6) dX11_restore_33 ?_
        obtain ⟨i_12, hi_12, ei_12⟩ : ∃ j : Nat, Kd SC j 1 ∧ j = 39 + 19 * a1.toInt.toNat := ⟨_, aSC_45 (o28_254 c_1 e_5 c_6), rfl⟩
        rw [← ei_12]
        refine y_cv h (y_rV (As := [.ref (ad i_12)]) (rest := []) C0 hZ h (c_X0_copy l G Z ad _ h.2 1 kSC_1 i_12 hi_12 hR) k_X0_copy q_857 q_858 q_856 kSC_1 rfl rfl rfl hl.1 rfl rfl (Nat.le_of_ble_eq_true rfl) dX11_restore_34 ⟨Nat.le_of_ble_eq_true rfl, Nat.le_of_ble_eq_true rfl⟩ ⟨Nat.le_of_ble_eq_true rfl, Nat.le_of_ble_eq_true rfl⟩) (fun H locs ws_13 h u_14 p_15 => ?_)
        obtain ⟨e_16, e_17⟩ := p_15
        replace HE : FT = g10c_X11_restore (xso SC ad ws_13) := HE.trans (by rw [e_16, ei_12]; rfl)
        refine lv_aload_n C0.1 C0.2.1 dX11_restore_37 rfl (lv_at hl 0 rfl) ?_
        refine y_cv h (y_rV (As := []) (rest := []) C0 hZ h (c_X11_startAnew l G Z ad _ h.2 (Hok.fr (M := [1, 2, 3, 6, 7, 8, 9, 10, 11, 12, 13, 14, 15]) hH u_14 (by decide))) k_X11_startAnew q_875 q_22 q_873 kSC_0 rfl rfl rfl hl.1 rfl rfl (Nat.le_of_ble_eq_true rfl) dX11_restore_38 ⟨Nat.le_of_ble_eq_true rfl, Nat.le_of_ble_eq_true rfl⟩ ⟨Nat.le_of_ble_eq_true rfl, Nat.le_of_ble_eq_true rfl⟩) (fun H locs ws_18 h u_19 p_20 => ?_)
        obtain ⟨e_21, e_22⟩ := p_20
        replace HE : FT = g11c_X11_restore (xso SC ad ws_18) := HE.trans (by rw [e_21]; rfl)
        refine y_c1 (n := 0) C0 (by decide) dX11_restore_41 (fun v_23 e_24 => ?_)
        replace HE : FT = ((xso SC ad ws_18), v_23.toInt) := HE.trans (by rw [e_24]; rfl)
        rw [hQ]
        exact y_iret C0 h (Fr.tr (Fr.mono u_14 (by decide)) (Fr.mono u_19 (by decide))) ⟨(congrArg Prod.fst (HE.symm.trans hFT)), (congrArg Prod.snd (HE.symm.trans hFT)), (o28_261 e_24), (o28_67 e_24), (Rel.fr (M := [0, 18, 39]) e_17 u_19 (by decide) (by decide)), e_22⟩ dX11_restore_42
      · -- 18
        replace HE : FT = g9_X11_restore (xso SC ad ws0) := HE.trans (if_pos c_11)
        refine y_c2 (n := (-5)) C0 (by decide) dX11_restore_21 (fun v_25 e_26 => ?_)
        replace HE : FT = ((xso SC ad ws0), v_25.toInt) := HE.trans (by rw [e_26]; rfl)
        rw [hQ]
        exact y_iret C0 h Fr.rf ⟨(congrArg Prod.fst (HE.symm.trans hFT)), (congrArg Prod.snd (HE.symm.trans hFT)), (o28_262 e_26), (o28_263 e_26), hR, hH⟩ dX11_restore_23
    · -- 6
      replace HE : FT = g6_X11_restore (xso SC ad ws0) := HE.trans (if_neg (o28_251 c_1 e_5 c_6))
      refine y_c2 (n := (-2)) C0 (by decide) dX11_restore_9 (fun v_27 e_28 => ?_)
      replace HE : FT = ((xso SC ad ws0), v_27.toInt) := HE.trans (by rw [e_28]; rfl)
      rw [hQ]
      exact y_iret C0 h Fr.rf ⟨(congrArg Prod.fst (HE.symm.trans hFT)), (congrArg Prod.snd (HE.symm.trans hFT)), (o28_260 e_28), (o28_204 e_28), hR, hH⟩ dX11_restore_11
noncomputable def g2_X11_count (s : XS) : XR := (s, ((-1)))
noncomputable def g3_X11_count (s : XS) : XR := (s, (s 0 1 5))
noncomputable def g4_X11_count (s : XS) : XR := (s, (s 0 1 6))
noncomputable def g5_X11_count (s : XS) : XR := (s, (s 0 10 7))
noncomputable def g6_X11_count (s : XS) : XR := (s, (s 0 10 8))
noncomputable def g8c_X11_count (s : XS) (r_23 : Int) : XR := (s, r_23)
noncomputable def g7_X11_count (s : XS) : XR := g8c_X11_count ((f_X1_allSold s 10).1) (((f_X1_allSold s 10).2))
noncomputable def g11c_X11_count (s : XS) (r_39 : Int) : XR := (s, r_39)
noncomputable def g10c_X11_count (s : XS) (r_33 : Int) : XR := g11c_X11_count ((f_J6_bitCount_0f7a4 s r_33).1) (((f_J6_bitCount_0f7a4 s r_33).2))
noncomputable def g9_X11_count (s : XS) : XR := g10c_X11_count ((f_X0_freeBits s 1 (s 0 10 8)).1) (((f_X0_freeBits s 1 (s 0 10 8)).2))
noncomputable def g12_X11_count (s : XS) : XR := (s, (s 0 0 17))
noncomputable def g14c_X11_count (s : XS) (r_51 : Int) : XR := (s, r_51)
noncomputable def g13_X11_count (s : XS) : XR := g14c_X11_count ((f_X5_fed s).1) (((f_X5_fed s).2))
noncomputable def g15_X11_count (s : XS) : XR := (s, (s 0 1 7))
noncomputable def g17c_X11_count (s : XS) (r_63 : Int) : XR := (s, r_63)
noncomputable def g16_X11_count (s : XS) : XR := g17c_X11_count ((f_X1_allLefts s 10).1) (((f_X1_allLefts s 10).2))
noncomputable def g1s_X11_count (s : XS) (a1 : Int) : XR := if a1 < 0 ∨ 9 < a1 then g2_X11_count s else if a1 = 0 then g3_X11_count s else if a1 = 1 then g4_X11_count s else if a1 = 2 then g5_X11_count s else if a1 = 3 then g6_X11_count s else if a1 = 4 then g7_X11_count s else if a1 = 5 then g9_X11_count s else if a1 = 6 then g12_X11_count s else if a1 = 7 then g13_X11_count s else if a1 = 8 then g15_X11_count s else if a1 = 9 then g16_X11_count s else (s, 0)
noncomputable def f_X11_count (s : XS) (a1 : Int) : XR := g1s_X11_count s a1
set_option maxHeartbeats 4000000 in
set_option maxRecDepth 100000 in
theorem c_X11_count (l : Launch) (G : GG) (Z : RZ) (ad : Nat → Nat) (ws0 : va_W) (hT : Ty G SC ad ws0) (a1 : Int32) (hR : Rel ws0) (hH : Hok ws0) : Mq l yX11_count cX11_count 2 (some .int) 2 G Z [.ref (ad 0), .int a1] ws0 (PI G SC ad [] ws0 (fun r u => (xso SC ad u = (f_X11_count (xso SC ad ws0) a1.toInt).1) ∧ (r.toInt = (f_X11_count (xso SC ad ws0) a1.toInt).2) ∧ (Rel u) ∧ (Hok u))) := by
  refine Mq.start (by decide) (Nat.le_of_ble_eq_true rfl) ?_
  intro p e s m below meth c A ls C0 hZ h hl
  have hl : lv_has ls 2 [(0, .ref (ad 0)), (1, .int a1)] := hl
  have h : Wt G SC ad A s s.heap [] ws0 := ⟨h, hT⟩
  obtain ⟨args, hargs⟩ : ∃ z, z = ([.ref (ad 0), .int a1] : List Value).toArray := ⟨_, rfl⟩
  rw [← hargs] at C0 ⊢
  have C0 : Cx p s m args meth c RX11 cX11_count 2 (some .int) := C0
  obtain ⟨Q, hQ⟩ : ∃ z, z = MQ below ((PI G SC ad [] ws0 (fun r u => (xso SC ad u = (f_X11_count (xso SC ad ws0) a1.toInt).1) ∧ (r.toInt = (f_X11_count (xso SC ad ws0) a1.toInt).2) ∧ (Rel u) ∧ (Hok u))) A) args s 0 0 A := ⟨_, rfl⟩
  rw [← hQ]
  obtain ⟨FT, hFT⟩ : ∃ z, z = f_X11_count (xso SC ad ws0) a1.toInt := ⟨_, rfl⟩
  have HE : FT = f_X11_count (xso SC ad ws0) a1.toInt := hFT
  refine lv_iload_n C0.1 C0.2.1 dX11_count_0 rfl (lv_at hl 1 rfl) ?_
  replace HE : FT = g1s_X11_count (xso SC ad ws0) a1.toInt := HE.trans rfl
  by_cases sw_1 : a1.toInt < 0 ∨ 9 < a1.toInt
  · refine lv_tableOut (tgt := 158) C0.1 C0.2.1 dX11_count_1 sw_1 (by decide) ?_
    replace HE : FT = g2_X11_count (xso SC ad ws0) := HE.trans (if_pos sw_1)
    refine y_c1 (n := (-1)) C0 (by decide) dX11_count_158 (fun v_2 e_3 => ?_)
    replace HE : FT = ((xso SC ad ws0), v_2.toInt) := HE.trans (by rw [e_3]; rfl)
    rw [hQ]
    exact y_iret C0 h Fr.rf ⟨(congrArg Prod.fst (HE.symm.trans hFT)), (congrArg Prod.snd (HE.symm.trans hFT)), hR, hH⟩ dX11_count_159
  · obtain ⟨sw_11, sw_12⟩ := not_or.mp sw_1
    rcases (show a1.toInt = 0 ∨ a1.toInt = 1 ∨ a1.toInt = 2 ∨ a1.toInt = 3 ∨ a1.toInt = 4 ∨ a1.toInt = 5 ∨ a1.toInt = 6 ∨ a1.toInt = 7 ∨ a1.toInt = 8 ∨ a1.toInt = 9 by omega) with sw_14 | sw_14 | sw_14 | sw_14 | sw_14 | sw_14 | sw_14 | sw_14 | sw_14 | sw_14
    · refine lv_tableIn (off := 55) (tgt := 56) C0.1 C0.2.1 dX11_count_1 sw_11 sw_12 (by rw [sw_14]; rfl) (by decide) ?_
      replace HE : FT = g3_X11_count (xso SC ad ws0) := HE.trans ((if_neg (not_or.mpr ⟨sw_11, sw_12⟩)).trans (if_pos sw_14))
      refine lv_aload_n C0.1 C0.2.1 dX11_count_56 rfl (lv_at hl 0 rfl) ?_
      refine tg_X11_now C0 h kSC_0 q_515 dX11_count_57 ?_
      refine tg_X0_wide C0 h kSC_1 q_259 dX11_count_60 (fun v_4 e_5 e_6 e_7 => ?_)
      replace HE : FT = ((xso SC ad ws0), v_4.toInt) := HE.trans (by rw [(xg0 e_5 : v_4.toInt = (xso SC ad ws0) 0 1 5)]; rfl)
      rw [hQ]
      exact y_iret C0 h Fr.rf ⟨(congrArg Prod.fst (HE.symm.trans hFT)), (congrArg Prod.snd (HE.symm.trans hFT)), hR, hH⟩ dX11_count_63
    · refine lv_tableIn (off := 63) (tgt := 64) C0.1 C0.2.1 dX11_count_1 sw_11 sw_12 (by rw [sw_14]; rfl) (by decide) ?_
      replace HE : FT = g4_X11_count (xso SC ad ws0) := HE.trans ((if_neg (not_or.mpr ⟨sw_11, sw_12⟩)).trans ((if_neg (fun q => absurd (sw_14.symm.trans q) (by decide))).trans (if_pos sw_14)))
      refine lv_aload_n C0.1 C0.2.1 dX11_count_64 rfl (lv_at hl 0 rfl) ?_
      refine tg_X11_now C0 h kSC_0 q_515 dX11_count_65 ?_
      refine tg_X0_high C0 h kSC_1 q_262 dX11_count_68 (fun v_8 e_9 e_10 e_11 => ?_)
      replace HE : FT = ((xso SC ad ws0), v_8.toInt) := HE.trans (by rw [(xg0 e_9 : v_8.toInt = (xso SC ad ws0) 0 1 6)]; rfl)
      rw [hQ]
      exact y_iret C0 h Fr.rf ⟨(congrArg Prod.fst (HE.symm.trans hFT)), (congrArg Prod.snd (HE.symm.trans hFT)), hR, hH⟩ dX11_count_71
    · refine lv_tableIn (off := 71) (tgt := 72) C0.1 C0.2.1 dX11_count_1 sw_11 sw_12 (by rw [sw_14]; rfl) (by decide) ?_
      replace HE : FT = g5_X11_count (xso SC ad ws0) := HE.trans ((if_neg (not_or.mpr ⟨sw_11, sw_12⟩)).trans ((if_neg (fun q => absurd (sw_14.symm.trans q) (by decide))).trans ((if_neg (fun q => absurd (sw_14.symm.trans q) (by decide))).trans (if_pos sw_14))))
      refine lv_aload_n C0.1 C0.2.1 dX11_count_72 rfl (lv_at hl 0 rfl) ?_
      refine tg_X11_now C0 h kSC_0 q_515 dX11_count_73 ?_
      refine tg_X0_folk C0 h kSC_1 q_249 dX11_count_76 ?_
      refine tg_X1_people C0 h kSC_10 q_215 dX11_count_79 (fun v_12 e_13 e_14 e_15 => ?_)
      replace HE : FT = ((xso SC ad ws0), v_12.toInt) := HE.trans (by rw [(xg0 e_13 : v_12.toInt = (xso SC ad ws0) 0 10 7)]; rfl)
      rw [hQ]
      exact y_iret C0 h Fr.rf ⟨(congrArg Prod.fst (HE.symm.trans hFT)), (congrArg Prod.snd (HE.symm.trans hFT)), hR, hH⟩ dX11_count_82
    · refine lv_tableIn (off := 82) (tgt := 83) C0.1 C0.2.1 dX11_count_1 sw_11 sw_12 (by rw [sw_14]; rfl) (by decide) ?_
      replace HE : FT = g6_X11_count (xso SC ad ws0) := HE.trans ((if_neg (not_or.mpr ⟨sw_11, sw_12⟩)).trans ((if_neg (fun q => absurd (sw_14.symm.trans q) (by decide))).trans ((if_neg (fun q => absurd (sw_14.symm.trans q) (by decide))).trans ((if_neg (fun q => absurd (sw_14.symm.trans q) (by decide))).trans (if_pos sw_14)))))
      refine lv_aload_n C0.1 C0.2.1 dX11_count_83 rfl (lv_at hl 0 rfl) ?_
      refine tg_X11_now C0 h kSC_0 q_515 dX11_count_84 ?_
      refine tg_X0_folk C0 h kSC_1 q_249 dX11_count_87 ?_
      refine tg_X1_hours C0 h kSC_10 q_220 dX11_count_90 (fun v_16 e_17 e_18 e_19 => ?_)
      replace HE : FT = ((xso SC ad ws0), v_16.toInt) := HE.trans (by rw [(xg0 e_17 : v_16.toInt = (xso SC ad ws0) 0 10 8)]; rfl)
      rw [hQ]
      exact y_iret C0 h Fr.rf ⟨(congrArg Prod.fst (HE.symm.trans hFT)), (congrArg Prod.snd (HE.symm.trans hFT)), hR, hH⟩ dX11_count_93
    · refine lv_tableIn (off := 93) (tgt := 94) C0.1 C0.2.1 dX11_count_1 sw_11 sw_12 (by rw [sw_14]; rfl) (by decide) ?_
      replace HE : FT = g7_X11_count (xso SC ad ws0) := HE.trans ((if_neg (not_or.mpr ⟨sw_11, sw_12⟩)).trans ((if_neg (fun q => absurd (sw_14.symm.trans q) (by decide))).trans ((if_neg (fun q => absurd (sw_14.symm.trans q) (by decide))).trans ((if_neg (fun q => absurd (sw_14.symm.trans q) (by decide))).trans ((if_neg (fun q => absurd (sw_14.symm.trans q) (by decide))).trans (if_pos sw_14))))))
      refine lv_aload_n C0.1 C0.2.1 dX11_count_94 rfl (lv_at hl 0 rfl) ?_
      refine tg_X11_now C0 h kSC_0 q_515 dX11_count_95 ?_
      refine tg_X0_folk C0 h kSC_1 q_249 dX11_count_98 ?_
      refine y_ci h (y_rV (As := []) (rest := []) C0 hZ h (c_X1_allSold l G Z ad _ h.2 10 kSC_10) k_X1_allSold q_1422 q_1423 q_1421 kSC_10 rfl rfl rfl hl.1 rfl rfl (Nat.le_of_ble_eq_true rfl) dX11_count_101 ⟨Nat.le_of_ble_eq_true rfl, Nat.le_of_ble_eq_true rfl⟩ ⟨Nat.le_of_ble_eq_true rfl, Nat.le_of_ble_eq_true rfl⟩) (fun r_23 H locs ws_20 h u_21 p_22 => ?_)
      obtain ⟨e_24, e_25⟩ := p_22
      replace HE : FT = g8c_X11_count (xso SC ad ws_20) r_23.toInt := HE.trans (by rw [e_24, e_25]; rfl)
      replace HE : FT = ((xso SC ad ws_20), r_23.toInt) := HE.trans rfl
      rw [hQ]
      exact y_iret C0 h u_21 ⟨(congrArg Prod.fst (HE.symm.trans hFT)), (congrArg Prod.snd (HE.symm.trans hFT)), (Rel.fr (M := []) hR u_21 (by decide) (by decide)), (Hok.fr (M := []) hH u_21 (by decide))⟩ dX11_count_104
    · refine lv_tableIn (off := 104) (tgt := 105) C0.1 C0.2.1 dX11_count_1 sw_11 sw_12 (by rw [sw_14]; rfl) (by decide) ?_
      replace HE : FT = g9_X11_count (xso SC ad ws0) := HE.trans ((if_neg (not_or.mpr ⟨sw_11, sw_12⟩)).trans ((if_neg (fun q => absurd (sw_14.symm.trans q) (by decide))).trans ((if_neg (fun q => absurd (sw_14.symm.trans q) (by decide))).trans ((if_neg (fun q => absurd (sw_14.symm.trans q) (by decide))).trans ((if_neg (fun q => absurd (sw_14.symm.trans q) (by decide))).trans ((if_neg (fun q => absurd (sw_14.symm.trans q) (by decide))).trans (if_pos sw_14)))))))
      refine lv_aload_n C0.1 C0.2.1 dX11_count_105 rfl (lv_at hl 0 rfl) ?_
      refine tg_X11_now C0 h kSC_0 q_515 dX11_count_106 ?_
      refine lv_aload_n C0.1 C0.2.1 dX11_count_109 rfl (lv_at hl 0 rfl) ?_
      refine tg_X11_now C0 h kSC_0 q_515 dX11_count_110 ?_
      refine tg_X0_folk C0 h kSC_1 q_249 dX11_count_113 ?_
      refine tg_X1_hours C0 h kSC_10 q_220 dX11_count_116 (fun v_26 e_27 e_28 e_29 => ?_)
      refine y_ci h (y_rV (As := [.int v_26]) (rest := []) C0 hZ h (c_X0_freeBits l G Z ad _ h.2 1 kSC_1 v_26) k_X0_freeBits q_948 q_949 q_947 kSC_1 rfl rfl rfl hl.1 rfl rfl (Nat.le_of_ble_eq_true rfl) dX11_count_119 ⟨Nat.le_of_ble_eq_true rfl, Nat.le_of_ble_eq_true rfl⟩ ⟨Nat.le_of_ble_eq_true rfl, Nat.le_of_ble_eq_true rfl⟩) (fun r_33 H locs ws_30 h u_31 p_32 => ?_)
      obtain ⟨e_34, e_35⟩ := p_32
      replace HE : FT = g10c_X11_count (xso SC ad ws_30) r_33.toInt := HE.trans (by rw [e_34, e_35, (xg0 e_27 : v_26.toInt = (xso SC ad ws0) 0 10 8)]; rfl)
      refine y_ci h (y_rS (As := [.int r_33]) (rest := []) C0 hZ h (c_J6_bitCount_0f7a4 l G Z ad _ h.2 r_33) k_J6_bitCount_0f7a4 q_1035 q_1034 hl.1 rfl rfl (Nat.le_of_ble_eq_true rfl) dX11_count_122 ⟨Nat.le_of_ble_eq_true rfl, Nat.le_of_ble_eq_true rfl⟩ ⟨Nat.le_of_ble_eq_true rfl, Nat.le_of_ble_eq_true rfl⟩) (fun r_39 H locs ws_36 h u_37 p_38 => ?_)
      obtain ⟨e_40, e_41, e_42, e_43⟩ := p_38
      replace HE : FT = g11c_X11_count (xso SC ad ws_36) r_39.toInt := HE.trans (by rw [e_40, e_41]; rfl)
      replace HE : FT = ((xso SC ad ws_36), r_39.toInt) := HE.trans rfl
      rw [hQ]
      exact y_iret C0 h (Fr.tr u_31 u_37) ⟨(congrArg Prod.fst (HE.symm.trans hFT)), (congrArg Prod.snd (HE.symm.trans hFT)), (Rel.fr (M := []) hR (Fr.tr u_31 u_37) (by decide) (by decide)), (Hok.fr (M := []) hH (Fr.tr u_31 u_37) (by decide))⟩ dX11_count_125
    · refine lv_tableIn (off := 125) (tgt := 126) C0.1 C0.2.1 dX11_count_1 sw_11 sw_12 (by rw [sw_14]; rfl) (by decide) ?_
      replace HE : FT = g12_X11_count (xso SC ad ws0) := HE.trans ((if_neg (not_or.mpr ⟨sw_11, sw_12⟩)).trans ((if_neg (fun q => absurd (sw_14.symm.trans q) (by decide))).trans ((if_neg (fun q => absurd (sw_14.symm.trans q) (by decide))).trans ((if_neg (fun q => absurd (sw_14.symm.trans q) (by decide))).trans ((if_neg (fun q => absurd (sw_14.symm.trans q) (by decide))).trans ((if_neg (fun q => absurd (sw_14.symm.trans q) (by decide))).trans ((if_neg (fun q => absurd (sw_14.symm.trans q) (by decide))).trans (if_pos sw_14))))))))
      refine lv_aload_n C0.1 C0.2.1 dX11_count_126 rfl (lv_at hl 0 rfl) ?_
      refine tg_X11_pastSize C0 h kSC_0 q_532 dX11_count_127 (fun v_44 e_45 e_46 e_47 => ?_)
      replace HE : FT = ((xso SC ad ws0), v_44.toInt) := HE.trans (by rw [(xg0 e_45 : v_44.toInt = (xso SC ad ws0) 0 0 17)]; rfl)
      rw [hQ]
      exact y_iret C0 h Fr.rf ⟨(congrArg Prod.fst (HE.symm.trans hFT)), (congrArg Prod.snd (HE.symm.trans hFT)), hR, hH⟩ dX11_count_130
    · refine lv_tableIn (off := 130) (tgt := 131) C0.1 C0.2.1 dX11_count_1 sw_11 sw_12 (by rw [sw_14]; rfl) (by decide) ?_
      replace HE : FT = g13_X11_count (xso SC ad ws0) := HE.trans ((if_neg (not_or.mpr ⟨sw_11, sw_12⟩)).trans ((if_neg (fun q => absurd (sw_14.symm.trans q) (by decide))).trans ((if_neg (fun q => absurd (sw_14.symm.trans q) (by decide))).trans ((if_neg (fun q => absurd (sw_14.symm.trans q) (by decide))).trans ((if_neg (fun q => absurd (sw_14.symm.trans q) (by decide))).trans ((if_neg (fun q => absurd (sw_14.symm.trans q) (by decide))).trans ((if_neg (fun q => absurd (sw_14.symm.trans q) (by decide))).trans ((if_neg (fun q => absurd (sw_14.symm.trans q) (by decide))).trans (if_pos sw_14)))))))))
      refine lv_aload_n C0.1 C0.2.1 dX11_count_131 rfl (lv_at hl 0 rfl) ?_
      refine tg_X11_reader C0 h kSC_0 q_517 dX11_count_132 ?_
      refine y_ci h (y_rV (As := []) (rest := []) C0 hZ h (c_X5_fed l G Z ad _ h.2) k_X5_fed q_587 q_588 q_586 kSC_77 rfl rfl rfl hl.1 rfl rfl (Nat.le_of_ble_eq_true rfl) dX11_count_135 ⟨Nat.le_of_ble_eq_true rfl, Nat.le_of_ble_eq_true rfl⟩ ⟨Nat.le_of_ble_eq_true rfl, Nat.le_of_ble_eq_true rfl⟩) (fun r_51 H locs ws_48 h u_49 p_50 => ?_)
      obtain ⟨e_52, e_53, e_54, e_55⟩ := p_50
      replace HE : FT = g14c_X11_count (xso SC ad ws_48) r_51.toInt := HE.trans (by rw [e_52, e_53]; rfl)
      replace HE : FT = ((xso SC ad ws_48), r_51.toInt) := HE.trans rfl
      rw [hQ]
      exact y_iret C0 h u_49 ⟨(congrArg Prod.fst (HE.symm.trans hFT)), (congrArg Prod.snd (HE.symm.trans hFT)), (Rel.fr (M := []) hR u_49 (by decide) (by decide)), (Hok.fr (M := []) hH u_49 (by decide))⟩ dX11_count_138
    · refine lv_tableIn (off := 138) (tgt := 139) C0.1 C0.2.1 dX11_count_1 sw_11 sw_12 (by rw [sw_14]; rfl) (by decide) ?_
      replace HE : FT = g15_X11_count (xso SC ad ws0) := HE.trans ((if_neg (not_or.mpr ⟨sw_11, sw_12⟩)).trans ((if_neg (fun q => absurd (sw_14.symm.trans q) (by decide))).trans ((if_neg (fun q => absurd (sw_14.symm.trans q) (by decide))).trans ((if_neg (fun q => absurd (sw_14.symm.trans q) (by decide))).trans ((if_neg (fun q => absurd (sw_14.symm.trans q) (by decide))).trans ((if_neg (fun q => absurd (sw_14.symm.trans q) (by decide))).trans ((if_neg (fun q => absurd (sw_14.symm.trans q) (by decide))).trans ((if_neg (fun q => absurd (sw_14.symm.trans q) (by decide))).trans ((if_neg (fun q => absurd (sw_14.symm.trans q) (by decide))).trans (if_pos sw_14))))))))))
      refine lv_aload_n C0.1 C0.2.1 dX11_count_139 rfl (lv_at hl 0 rfl) ?_
      refine tg_X11_now C0 h kSC_0 q_515 dX11_count_140 ?_
      refine tg_X0_lines C0 h kSC_1 q_264 dX11_count_143 (fun v_56 e_57 e_58 e_59 => ?_)
      replace HE : FT = ((xso SC ad ws0), v_56.toInt) := HE.trans (by rw [(xg0 e_57 : v_56.toInt = (xso SC ad ws0) 0 1 7)]; rfl)
      rw [hQ]
      exact y_iret C0 h Fr.rf ⟨(congrArg Prod.fst (HE.symm.trans hFT)), (congrArg Prod.snd (HE.symm.trans hFT)), hR, hH⟩ dX11_count_146
    · refine lv_tableIn (off := 146) (tgt := 147) C0.1 C0.2.1 dX11_count_1 sw_11 sw_12 (by rw [sw_14]; rfl) (by decide) ?_
      replace HE : FT = g16_X11_count (xso SC ad ws0) := HE.trans ((if_neg (not_or.mpr ⟨sw_11, sw_12⟩)).trans ((if_neg (fun q => absurd (sw_14.symm.trans q) (by decide))).trans ((if_neg (fun q => absurd (sw_14.symm.trans q) (by decide))).trans ((if_neg (fun q => absurd (sw_14.symm.trans q) (by decide))).trans ((if_neg (fun q => absurd (sw_14.symm.trans q) (by decide))).trans ((if_neg (fun q => absurd (sw_14.symm.trans q) (by decide))).trans ((if_neg (fun q => absurd (sw_14.symm.trans q) (by decide))).trans ((if_neg (fun q => absurd (sw_14.symm.trans q) (by decide))).trans ((if_neg (fun q => absurd (sw_14.symm.trans q) (by decide))).trans ((if_neg (fun q => absurd (sw_14.symm.trans q) (by decide))).trans (if_pos sw_14)))))))))))
      refine lv_aload_n C0.1 C0.2.1 dX11_count_147 rfl (lv_at hl 0 rfl) ?_
      refine tg_X11_now C0 h kSC_0 q_515 dX11_count_148 ?_
      refine tg_X0_folk C0 h kSC_1 q_249 dX11_count_151 ?_
      refine y_ci h (y_rV (As := []) (rest := []) C0 hZ h (c_X1_allLefts l G Z ad _ h.2 10 kSC_10) k_X1_allLefts q_1426 q_1427 q_1425 kSC_10 rfl rfl rfl hl.1 rfl rfl (Nat.le_of_ble_eq_true rfl) dX11_count_154 ⟨Nat.le_of_ble_eq_true rfl, Nat.le_of_ble_eq_true rfl⟩ ⟨Nat.le_of_ble_eq_true rfl, Nat.le_of_ble_eq_true rfl⟩) (fun r_63 H locs ws_60 h u_61 p_62 => ?_)
      obtain ⟨e_64, e_65⟩ := p_62
      replace HE : FT = g17c_X11_count (xso SC ad ws_60) r_63.toInt := HE.trans (by rw [e_64, e_65]; rfl)
      replace HE : FT = ((xso SC ad ws_60), r_63.toInt) := HE.trans rfl
      rw [hQ]
      exact y_iret C0 h u_61 ⟨(congrArg Prod.fst (HE.symm.trans hFT)), (congrArg Prod.snd (HE.symm.trans hFT)), (Rel.fr (M := []) hR u_61 (by decide) (by decide)), (Hok.fr (M := []) hH u_61 (by decide))⟩ dX11_count_157
