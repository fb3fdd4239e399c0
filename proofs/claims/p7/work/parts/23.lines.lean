theorem dX5_beginLaw_0 : decode cX5_beginLaw 0 = .ok (.aload_n 0, 1) := by decide +kernel
theorem dX5_beginLaw_1 : decode cX5_beginLaw 1 = .ok (.aload_n 1, 1) := by decide +kernel
theorem dX5_beginLaw_2 : decode cX5_beginLaw 2 = .ok (.putfield 29, 3) := by decide +kernel
theorem dX5_beginLaw_5 : decode cX5_beginLaw 5 = .ok (.aload_n 0, 1) := by decide +kernel
theorem dX5_beginLaw_6 : decode cX5_beginLaw 6 = .ok (.getfield 29, 3) := by decide +kernel
theorem dX5_beginLaw_9 : decode cX5_beginLaw 9 = .ok (.invokevirtual 191, 3) := by decide +kernel
theorem dX5_beginLaw_12 : decode cX5_beginLaw 12 = .ok (.aload_n 0, 1) := by decide +kernel
theorem dX5_beginLaw_13 : decode cX5_beginLaw 13 = .ok (.invokevirtual 47, 3) := by decide +kernel
theorem dX5_beginLaw_16 : decode cX5_beginLaw 16 = .ok (.aload_n 0, 1) := by decide +kernel
theorem dX5_beginLaw_17 : decode cX5_beginLaw 17 = .ok (.bipush 58, 2) := by decide +kernel
theorem dX5_beginLaw_19 : decode cX5_beginLaw 19 = .ok (.invokevirtual 56, 3) := by decide +kernel
theorem dX5_beginLaw_22 : decode cX5_beginLaw 22 = .ok (.return_, 1) := by decide +kernel
theorem dX5_cityLine_0 : decode cX5_cityLine 0 = .ok (.aload_n 0, 1) := by decide +kernel
theorem dX5_cityLine_1 : decode cX5_cityLine 1 = .ok (.getfield 19, 3) := by decide +kernel
theorem dX5_cityLine_4 : decode cX5_cityLine 4 = .ok (.getfield 150, 3) := by decide +kernel
theorem dX5_cityLine_7 : decode cX5_cityLine 7 = .ok (.ifCond .le 9, 3) := by decide +kernel
theorem dX5_cityLine_10 : decode cX5_cityLine 10 = .ok (.aload_n 0, 1) := by decide +kernel
theorem dX5_cityLine_11 : decode cX5_cityLine 11 = .ok (.iconst 2, 1) := by decide +kernel
theorem dX5_cityLine_12 : decode cX5_cityLine 12 = .ok (.invokevirtual 76, 3) := by decide +kernel
theorem dX5_cityLine_15 : decode cX5_cityLine 15 = .ok (.return_, 1) := by decide +kernel
theorem dX5_cityLine_16 : decode cX5_cityLine 16 = .ok (.aload_n 0, 1) := by decide +kernel
theorem dX5_cityLine_17 : decode cX5_cityLine 17 = .ok (.invokevirtual 47, 3) := by decide +kernel
theorem dX5_cityLine_20 : decode cX5_cityLine 20 = .ok (.aload_n 0, 1) := by decide +kernel
theorem dX5_cityLine_21 : decode cX5_cityLine 21 = .ok (.iconst 2, 1) := by decide +kernel
theorem dX5_cityLine_22 : decode cX5_cityLine 22 = .ok (.iconst 5, 1) := by decide +kernel
theorem dX5_cityLine_23 : decode cX5_cityLine 23 = .ok (.invokevirtual 141, 3) := by decide +kernel
theorem dX5_cityLine_26 : decode cX5_cityLine 26 = .ok (.istore_n 1, 1) := by decide +kernel
theorem dX5_cityLine_27 : decode cX5_cityLine 27 = .ok (.aload_n 0, 1) := by decide +kernel
theorem dX5_cityLine_28 : decode cX5_cityLine 28 = .ok (.iconst 2, 1) := by decide +kernel
theorem dX5_cityLine_29 : decode cX5_cityLine 29 = .ok (.iconst 5, 1) := by decide +kernel
theorem dX5_cityLine_30 : decode cX5_cityLine 30 = .ok (.invokevirtual 141, 3) := by decide +kernel
theorem dX5_cityLine_33 : decode cX5_cityLine 33 = .ok (.istore_n 2, 1) := by decide +kernel
theorem dX5_cityLine_34 : decode cX5_cityLine 34 = .ok (.aload_n 0, 1) := by decide +kernel
theorem dX5_cityLine_35 : decode cX5_cityLine 35 = .ok (.getfield 19, 3) := by decide +kernel
theorem dX5_cityLine_38 : decode cX5_cityLine 38 = .ok (.iload_n 1, 1) := by decide +kernel
theorem dX5_cityLine_39 : decode cX5_cityLine 39 = .ok (.iload_n 2, 1) := by decide +kernel
theorem dX5_cityLine_40 : decode cX5_cityLine 40 = .ok (.invokevirtual 153, 3) := by decide +kernel
theorem dX5_cityLine_43 : decode cX5_cityLine 43 = .ok (.return_, 1) := by decide +kernel
theorem dX5_crossingTold_0 : decode cX5_crossingTold 0 = .ok (.aload_n 0, 1) := by decide +kernel
theorem dX5_crossingTold_1 : decode cX5_crossingTold 1 = .ok (.getfield 19, 3) := by decide +kernel
theorem dX5_crossingTold_4 : decode cX5_crossingTold 4 = .ok (.getfield 150, 3) := by decide +kernel
theorem dX5_crossingTold_7 : decode cX5_crossingTold 7 = .ok (.ifCond .gt 10, 3) := by decide +kernel
theorem dX5_crossingTold_10 : decode cX5_crossingTold 10 = .ok (.aload_n 0, 1) := by decide +kernel
theorem dX5_crossingTold_11 : decode cX5_crossingTold 11 = .ok (.iconst 2, 1) := by decide +kernel
theorem dX5_crossingTold_12 : decode cX5_crossingTold 12 = .ok (.invokevirtual 76, 3) := by decide +kernel
theorem dX5_crossingTold_15 : decode cX5_crossingTold 15 = .ok (.iconst 0, 1) := by decide +kernel
theorem dX5_crossingTold_16 : decode cX5_crossingTold 16 = .ok (.ireturn, 1) := by decide +kernel
theorem dX5_crossingTold_17 : decode cX5_crossingTold 17 = .ok (.aload_n 0, 1) := by decide +kernel
theorem dX5_crossingTold_18 : decode cX5_crossingTold 18 = .ok (.invokevirtual 47, 3) := by decide +kernel
theorem dX5_crossingTold_21 : decode cX5_crossingTold 21 = .ok (.aload_n 0, 1) := by decide +kernel
theorem dX5_crossingTold_22 : decode cX5_crossingTold 22 = .ok (.iconst 0, 1) := by decide +kernel
theorem dX5_crossingTold_23 : decode cX5_crossingTold 23 = .ok (.aload_n 0, 1) := by decide +kernel
theorem dX5_crossingTold_24 : decode cX5_crossingTold 24 = .ok (.getfield 19, 3) := by decide +kernel
theorem dX5_crossingTold_27 : decode cX5_crossingTold 27 = .ok (.getfield 150, 3) := by decide +kernel
theorem dX5_crossingTold_30 : decode cX5_crossingTold 30 = .ok (.iconst 1, 1) := by decide +kernel
theorem dX5_crossingTold_31 : decode cX5_crossingTold 31 = .ok (.isub, 1) := by decide +kernel
theorem dX5_crossingTold_32 : decode cX5_crossingTold 32 = .ok (.invokevirtual 141, 3) := by decide +kernel
theorem dX5_crossingTold_35 : decode cX5_crossingTold 35 = .ok (.istore_n 1, 1) := by decide +kernel
theorem dX5_crossingTold_36 : decode cX5_crossingTold 36 = .ok (.aload_n 0, 1) := by decide +kernel
theorem dX5_crossingTold_37 : decode cX5_crossingTold 37 = .ok (.iconst 0, 1) := by decide +kernel
theorem dX5_crossingTold_38 : decode cX5_crossingTold 38 = .ok (.aload_n 0, 1) := by decide +kernel
theorem dX5_crossingTold_39 : decode cX5_crossingTold 39 = .ok (.getfield 19, 3) := by decide +kernel
theorem dX5_crossingTold_42 : decode cX5_crossingTold 42 = .ok (.getfield 157, 3) := by decide +kernel
theorem dX5_crossingTold_45 : decode cX5_crossingTold 45 = .ok (.iconst 1, 1) := by decide +kernel
theorem dX5_crossingTold_46 : decode cX5_crossingTold 46 = .ok (.isub, 1) := by decide +kernel
theorem dX5_crossingTold_47 : decode cX5_crossingTold 47 = .ok (.invokevirtual 141, 3) := by decide +kernel
theorem dX5_crossingTold_50 : decode cX5_crossingTold 50 = .ok (.istore_n 2, 1) := by decide +kernel
theorem dX5_crossingTold_51 : decode cX5_crossingTold 51 = .ok (.aload_n 0, 1) := by decide +kernel
theorem dX5_crossingTold_52 : decode cX5_crossingTold 52 = .ok (.getfield 19, 3) := by decide +kernel
theorem dX5_crossingTold_55 : decode cX5_crossingTold 55 = .ok (.getfield 150, 3) := by decide +kernel
theorem dX5_crossingTold_58 : decode cX5_crossingTold 58 = .ok (.iload_n 2, 1) := by decide +kernel
theorem dX5_crossingTold_59 : decode cX5_crossingTold 59 = .ok (.imul, 1) := by decide +kernel
theorem dX5_crossingTold_60 : decode cX5_crossingTold 60 = .ok (.iload_n 1, 1) := by decide +kernel
theorem dX5_crossingTold_61 : decode cX5_crossingTold 61 = .ok (.iadd, 1) := by decide +kernel
theorem dX5_crossingTold_62 : decode cX5_crossingTold 62 = .ok (.ireturn, 1) := by decide +kernel
theorem dX5_freeLine_0 : decode cX5_freeLine 0 = .ok (.aload_n 0, 1) := by decide +kernel
theorem dX5_freeLine_1 : decode cX5_freeLine 1 = .ok (.getfield 19, 3) := by decide +kernel
theorem dX5_freeLine_4 : decode cX5_freeLine 4 = .ok (.aload_n 0, 1) := by decide +kernel
theorem dX5_freeLine_5 : decode cX5_freeLine 5 = .ok (.invokevirtual 160, 3) := by decide +kernel
theorem dX5_freeLine_8 : decode cX5_freeLine 8 = .ok (.invokevirtual 166, 3) := by decide +kernel
theorem dX5_freeLine_11 : decode cX5_freeLine 11 = .ok (.return_, 1) := by decide +kernel
theorem dX5_heading_0 : decode cX5_heading 0 = .ok (.aload_n 0, 1) := by decide +kernel
theorem dX5_heading_1 : decode cX5_heading 1 = .ok (.ldc 183, 2) := by decide +kernel
theorem dX5_heading_3 : decode cX5_heading 3 = .ok (.invokevirtual 96, 3) := by decide +kernel
theorem dX5_heading_6 : decode cX5_heading 6 = .ok (.ifCond .eq 7, 3) := by decide +kernel
theorem dX5_heading_9 : decode cX5_heading 9 = .ok (.iconst 0, 1) := by decide +kernel
theorem dX5_heading_10 : decode cX5_heading 10 = .ok (.goto 43, 3) := by decide +kernel
theorem dX5_heading_13 : decode cX5_heading 13 = .ok (.aload_n 0, 1) := by decide +kernel
theorem dX5_heading_14 : decode cX5_heading 14 = .ok (.ldc 185, 2) := by decide +kernel
theorem dX5_heading_16 : decode cX5_heading 16 = .ok (.invokevirtual 96, 3) := by decide +kernel
theorem dX5_heading_19 : decode cX5_heading 19 = .ok (.ifCond .eq 7, 3) := by decide +kernel
theorem dX5_heading_22 : decode cX5_heading 22 = .ok (.iconst 1, 1) := by decide +kernel
theorem dX5_heading_23 : decode cX5_heading 23 = .ok (.goto 30, 3) := by decide +kernel
theorem dX5_heading_26 : decode cX5_heading 26 = .ok (.aload_n 0, 1) := by decide +kernel
theorem dX5_heading_27 : decode cX5_heading 27 = .ok (.ldc 187, 2) := by decide +kernel
theorem dX5_heading_29 : decode cX5_heading 29 = .ok (.invokevirtual 96, 3) := by decide +kernel
theorem dX5_heading_32 : decode cX5_heading 32 = .ok (.ifCond .eq 7, 3) := by decide +kernel
theorem dX5_heading_35 : decode cX5_heading 35 = .ok (.iconst 2, 1) := by decide +kernel
theorem dX5_heading_36 : decode cX5_heading 36 = .ok (.goto 17, 3) := by decide +kernel
theorem dX5_heading_39 : decode cX5_heading 39 = .ok (.aload_n 0, 1) := by decide +kernel
theorem dX5_heading_40 : decode cX5_heading 40 = .ok (.ldc 189, 2) := by decide +kernel
theorem dX5_heading_42 : decode cX5_heading 42 = .ok (.invokevirtual 96, 3) := by decide +kernel
theorem dX5_heading_45 : decode cX5_heading 45 = .ok (.ifCond .eq 7, 3) := by decide +kernel
theorem dX5_heading_48 : decode cX5_heading 48 = .ok (.iconst 3, 1) := by decide +kernel
theorem dX5_heading_49 : decode cX5_heading 49 = .ok (.goto 4, 3) := by decide +kernel
theorem dX5_heading_52 : decode cX5_heading 52 = .ok (.iconst (-1), 1) := by decide +kernel
theorem dX5_heading_53 : decode cX5_heading 53 = .ok (.istore_n 1, 1) := by decide +kernel
theorem dX5_heading_54 : decode cX5_heading 54 = .ok (.iload_n 1, 1) := by decide +kernel
theorem dX5_heading_55 : decode cX5_heading 55 = .ok (.ifCond .ge 10, 3) := by decide +kernel
theorem dX5_heading_58 : decode cX5_heading 58 = .ok (.aload_n 0, 1) := by decide +kernel
theorem dX5_heading_59 : decode cX5_heading 59 = .ok (.iconst 2, 1) := by decide +kernel
theorem dX5_heading_60 : decode cX5_heading 60 = .ok (.invokevirtual 76, 3) := by decide +kernel
theorem dX5_heading_63 : decode cX5_heading 63 = .ok (.iconst 0, 1) := by decide +kernel
theorem dX5_heading_64 : decode cX5_heading 64 = .ok (.ireturn, 1) := by decide +kernel
theorem dX5_heading_65 : decode cX5_heading 65 = .ok (.aload_n 0, 1) := by decide +kernel
theorem dX5_heading_66 : decode cX5_heading 66 = .ok (.invokevirtual 47, 3) := by decide +kernel
theorem dX5_heading_69 : decode cX5_heading 69 = .ok (.iload_n 1, 1) := by decide +kernel
theorem dX5_heading_70 : decode cX5_heading 70 = .ok (.ireturn, 1) := by decide +kernel
theorem dX5_personLine_0 : decode cX5_personLine 0 = .ok (.aload_n 0, 1) := by decide +kernel
theorem dX5_personLine_1 : decode cX5_personLine 1 = .ok (.getfield 19, 3) := by decide +kernel
theorem dX5_personLine_4 : decode cX5_personLine 4 = .ok (.getfield 150, 3) := by decide +kernel
theorem dX5_personLine_7 : decode cX5_personLine 7 = .ok (.ifCond .le 23, 3) := by decide +kernel
theorem dX5_personLine_10 : decode cX5_personLine 10 = .ok (.aload_n 0, 1) := by decide +kernel
theorem dX5_personLine_11 : decode cX5_personLine 11 = .ok (.getfield 19, 3) := by decide +kernel
theorem dX5_personLine_14 : decode cX5_personLine 14 = .ok (.getfield 137, 3) := by decide +kernel
theorem dX5_personLine_17 : decode cX5_personLine 17 = .ok (.getfield 169, 3) := by decide +kernel
theorem dX5_personLine_20 : decode cX5_personLine 20 = .ok (.iconst 5, 1) := by decide +kernel
theorem dX5_personLine_21 : decode cX5_personLine 21 = .ok (.if_icmp .lt 9, 3) := by decide +kernel
theorem dX5_personLine_24 : decode cX5_personLine 24 = .ok (.aload_n 0, 1) := by decide +kernel
theorem dX5_personLine_25 : decode cX5_personLine 25 = .ok (.iconst 4, 1) := by decide +kernel
theorem dX5_personLine_26 : decode cX5_personLine 26 = .ok (.invokevirtual 76, 3) := by decide +kernel
theorem dX5_personLine_29 : decode cX5_personLine 29 = .ok (.return_, 1) := by decide +kernel
theorem dX5_personLine_30 : decode cX5_personLine 30 = .ok (.aload_n 0, 1) := by decide +kernel
theorem dX5_personLine_31 : decode cX5_personLine 31 = .ok (.invokevirtual 160, 3) := by decide +kernel
theorem dX5_personLine_34 : decode cX5_personLine 34 = .ok (.istore_n 1, 1) := by decide +kernel
theorem dX5_personLine_35 : decode cX5_personLine 35 = .ok (.aload_n 0, 1) := by decide +kernel
theorem dX5_personLine_36 : decode cX5_personLine 36 = .ok (.invokevirtual 172, 3) := by decide +kernel
theorem dX5_personLine_39 : decode cX5_personLine 39 = .ok (.istore_n 2, 1) := by decide +kernel
theorem dX5_personLine_40 : decode cX5_personLine 40 = .ok (.iconst 0, 1) := by decide +kernel
theorem dX5_personLine_41 : decode cX5_personLine 41 = .ok (.istore_n 3, 1) := by decide +kernel
theorem dX5_personLine_42 : decode cX5_personLine 42 = .ok (.iconst 0, 1) := by decide +kernel
theorem dX5_personLine_43 : decode cX5_personLine 43 = .ok (.istore 4, 2) := by decide +kernel
theorem dX5_personLine_45 : decode cX5_personLine 45 = .ok (.aload_n 0, 1) := by decide +kernel
theorem dX5_personLine_46 : decode cX5_personLine 46 = .ok (.ldc 175, 2) := by decide +kernel
theorem dX5_personLine_48 : decode cX5_personLine 48 = .ok (.invokevirtual 96, 3) := by decide +kernel
theorem dX5_personLine_51 : decode cX5_personLine 51 = .ok (.ifCond .eq 15, 3) := by decide +kernel
theorem dX5_personLine_54 : decode cX5_personLine 54 = .ok (.aload_n 0, 1) := by decide +kernel
theorem dX5_personLine_55 : decode cX5_personLine 55 = .ok (.invokevirtual 47, 3) := by decide +kernel
theorem dX5_personLine_58 : decode cX5_personLine 58 = .ok (.aload_n 0, 1) := by decide +kernel
theorem dX5_personLine_59 : decode cX5_personLine 59 = .ok (.iconst 0, 1) := by decide +kernel
theorem dX5_personLine_60 : decode cX5_personLine 60 = .ok (.bipush 99, 2) := by decide +kernel
theorem dX5_personLine_62 : decode cX5_personLine 62 = .ok (.invokevirtual 141, 3) := by decide +kernel
theorem dX5_personLine_65 : decode cX5_personLine 65 = .ok (.istore_n 3, 1) := by decide +kernel
theorem dX5_personLine_66 : decode cX5_personLine 66 = .ok (.aload_n 0, 1) := by decide +kernel
theorem dX5_personLine_67 : decode cX5_personLine 67 = .ok (.ldc 177, 2) := by decide +kernel
theorem dX5_personLine_69 : decode cX5_personLine 69 = .ok (.invokevirtual 96, 3) := by decide +kernel
theorem dX5_personLine_72 : decode cX5_personLine 72 = .ok (.ifCond .eq 17, 3) := by decide +kernel
theorem dX5_personLine_75 : decode cX5_personLine 75 = .ok (.aload_n 0, 1) := by decide +kernel
theorem dX5_personLine_76 : decode cX5_personLine 76 = .ok (.invokevirtual 47, 3) := by decide +kernel
theorem dX5_personLine_79 : decode cX5_personLine 79 = .ok (.aload_n 0, 1) := by decide +kernel
theorem dX5_personLine_80 : decode cX5_personLine 80 = .ok (.iconst 0, 1) := by decide +kernel
theorem dX5_personLine_81 : decode cX5_personLine 81 = .ok (.sipush 999, 3) := by decide +kernel
theorem dX5_personLine_84 : decode cX5_personLine 84 = .ok (.invokevirtual 141, 3) := by decide +kernel
theorem dX5_personLine_87 : decode cX5_personLine 87 = .ok (.istore 4, 2) := by decide +kernel
theorem dX5_personLine_89 : decode cX5_personLine 89 = .ok (.aload_n 0, 1) := by decide +kernel
theorem dX5_personLine_90 : decode cX5_personLine 90 = .ok (.getfield 19, 3) := by decide +kernel
theorem dX5_personLine_93 : decode cX5_personLine 93 = .ok (.getfield 137, 3) := by decide +kernel
theorem dX5_personLine_96 : decode cX5_personLine 96 = .ok (.iload_n 1, 1) := by decide +kernel
theorem dX5_personLine_97 : decode cX5_personLine 97 = .ok (.iload_n 2, 1) := by decide +kernel
theorem dX5_personLine_98 : decode cX5_personLine 98 = .ok (.iload_n 3, 1) := by decide +kernel
theorem dX5_personLine_99 : decode cX5_personLine 99 = .ok (.iload 4, 2) := by decide +kernel
theorem dX5_personLine_101 : decode cX5_personLine 101 = .ok (.invokevirtual 179, 3) := by decide +kernel
theorem dX5_personLine_104 : decode cX5_personLine 104 = .ok (.return_, 1) := by decide +kernel
theorem dX5_wallLine_0 : decode cX5_wallLine 0 = .ok (.aload_n 0, 1) := by decide +kernel
theorem dX5_wallLine_1 : decode cX5_wallLine 1 = .ok (.invokevirtual 160, 3) := by decide +kernel
theorem dX5_wallLine_4 : decode cX5_wallLine 4 = .ok (.istore_n 1, 1) := by decide +kernel
theorem dX5_wallLine_5 : decode cX5_wallLine 5 = .ok (.aload_n 0, 1) := by decide +kernel
theorem dX5_wallLine_6 : decode cX5_wallLine 6 = .ok (.getfield 19, 3) := by decide +kernel
theorem dX5_wallLine_9 : decode cX5_wallLine 9 = .ok (.iload_n 1, 1) := by decide +kernel
theorem dX5_wallLine_10 : decode cX5_wallLine 10 = .ok (.aload_n 0, 1) := by decide +kernel
theorem dX5_wallLine_11 : decode cX5_wallLine 11 = .ok (.iconst 0, 1) := by decide +kernel
theorem dX5_wallLine_12 : decode cX5_wallLine 12 = .ok (.iconst 3, 1) := by decide +kernel
theorem dX5_wallLine_13 : decode cX5_wallLine 13 = .ok (.invokevirtual 141, 3) := by decide +kernel
theorem dX5_wallLine_16 : decode cX5_wallLine 16 = .ok (.invokevirtual 163, 3) := by decide +kernel
theorem dX5_wallLine_19 : decode cX5_wallLine 19 = .ok (.return_, 1) := by decide +kernel
theorem o23_1 {x0 : Int} (h0 : x0 = 2) : 2 ≤ x0 := by omega
theorem o23_2 {x0 : Int} (h0 : x0 = 2) : x0 ≤ 2 := by omega
theorem o23_3 {x0 : Int} (h0 : x0 = 5) : 5 ≤ x0 := by omega
theorem o23_4 {x0 : Int} (h0 : x0 = 5) : x0 ≤ 5 := by omega
theorem o23_5 {x0 : Int} (h0 : 2 ≤ x0) (h1 : x0 ≤ 5) : 2 ≤ x0 := by omega
theorem o23_6 {x0 : Int} (h0 : 2 ≤ x0) (h1 : x0 ≤ 5) : x0 ≤ 5 := by omega
theorem o23_7 {x0 x1 x2 : Int} (h0 : 0 ≤ x2) (h1 : x2 ≤ 5) (h2 : 0 < x2) (h3 : 0 ≤ x0) (h4 : x0 ≤ 5) (h5 : x0 = x2) (h6 : x1 = 1) (h7 : -2147483648 ≤ x0) (h8 : x0 ≤ 2147483647) (h9 : -2147483648 ≤ x1) (h10 : x1 ≤ 2147483647) (h11 : -2147483648 ≤ x2) (h12 : x2 ≤ 2147483647) : -2147483648 ≤ x0 - x1 := by omega
theorem o23_8 {x0 x1 x2 : Int} (h0 : 0 ≤ x2) (h1 : x2 ≤ 5) (h2 : 0 < x2) (h3 : 0 ≤ x0) (h4 : x0 ≤ 5) (h5 : x0 = x2) (h6 : x1 = 1) (h7 : -2147483648 ≤ x0) (h8 : x0 ≤ 2147483647) (h9 : -2147483648 ≤ x1) (h10 : x1 ≤ 2147483647) (h11 : -2147483648 ≤ x2) (h12 : x2 ≤ 2147483647) : x0 - x1 ≤ 2147483647 := by omega
theorem o23_9 {x0 : Int} (h0 : x0 = 0) : 0 ≤ x0 := by omega
theorem o23_10 {x0 : Int} (h0 : x0 = 0) : x0 ≤ 0 := by omega
theorem o23_11 {x0 x1 x2 x3 : Int} (h0 : 0 ≤ x1) (h1 : x1 ≤ 5) (h2 : 0 < x1) (h3 : 0 ≤ x2) (h4 : x2 ≤ 5) (h5 : x2 = x1) (h6 : x3 = 1) (h7 : x0 = x2 - x3) : (-1) ≤ x0 := by omega
theorem o23_12 {x0 x1 x2 x3 : Int} (h0 : 0 ≤ x1) (h1 : x1 ≤ 5) (h2 : 0 < x1) (h3 : 0 ≤ x2) (h4 : x2 ≤ 5) (h5 : x2 = x1) (h6 : x3 = 1) (h7 : x0 = x2 - x3) : x0 ≤ 4 := by omega
theorem o23_13 {x0 x1 : Int} (h0 : 0 ≤ x0) (h1 : x0 ≤ 5) (h2 : x1 = 1) (h3 : -2147483648 ≤ x0) (h4 : x0 ≤ 2147483647) (h5 : -2147483648 ≤ x1) (h6 : x1 ≤ 2147483647) : -2147483648 ≤ x0 - x1 := by omega
theorem o23_14 {x0 x1 : Int} (h0 : 0 ≤ x0) (h1 : x0 ≤ 5) (h2 : x1 = 1) (h3 : -2147483648 ≤ x0) (h4 : x0 ≤ 2147483647) (h5 : -2147483648 ≤ x1) (h6 : x1 ≤ 2147483647) : x0 - x1 ≤ 2147483647 := by omega
theorem o23_15 {x0 x1 x2 : Int} (h0 : 0 ≤ x1) (h1 : x1 ≤ 5) (h2 : x2 = 1) (h3 : x0 = x1 - x2) : (-1) ≤ x0 := by omega
theorem o23_16 {x0 x1 x2 : Int} (h0 : 0 ≤ x1) (h1 : x1 ≤ 5) (h2 : x2 = 1) (h3 : x0 = x1 - x2) : x0 ≤ 4 := by omega
theorem o23_17 {x0 x1 x2 x3 x4 : Int} (h0 : 0 ≤ x1) (h1 : x1 ≤ 5) (h2 : 0 < x1) (h3 : 0 ≤ x2) (h4 : x2 ≤ 5) (h5 : x2 = x1) (h6 : x3 = 1) (h7 : x4 = x2 - x3) (h8 : 0 ≤ x0) (h9 : x0 ≤ 5) (h10 : x0 = x1) : 1 ≤ x0 := by omega
theorem o23_18 {x0 x1 x2 x3 x4 : Int} (h0 : 0 ≤ x1) (h1 : x1 ≤ 5) (h2 : 0 < x1) (h3 : 0 ≤ x2) (h4 : x2 ≤ 5) (h5 : x2 = x1) (h6 : x3 = 1) (h7 : x4 = x2 - x3) (h8 : 0 ≤ x0) (h9 : x0 ≤ 5) (h10 : x0 = x1) : x0 ≤ 5 := by omega
theorem o23_19 {x0 : Int} (h0 : 0 ≤ x0) (h1 : x0 ≤ 4) : 0 ≤ x0 := by omega
theorem o23_20 {x0 : Int} (h0 : 0 ≤ x0) (h1 : x0 ≤ 4) : x0 ≤ 4 := by omega
theorem o23_21 {x0 x1 : Int} (h0 : 0 ≤ x1) (h1 : x1 ≤ 4) (h2 : 1 * 0 ≤ x0) (h3 : x0 ≤ 5 * 4) (h4 : -2147483648 ≤ x0) (h5 : x0 ≤ 2147483647) (h6 : -2147483648 ≤ x1) (h7 : x1 ≤ 2147483647) : -2147483648 ≤ x0 + x1 := by omega
theorem o23_22 {x0 x1 : Int} (h0 : 0 ≤ x1) (h1 : x1 ≤ 4) (h2 : 1 * 0 ≤ x0) (h3 : x0 ≤ 5 * 4) (h4 : -2147483648 ≤ x0) (h5 : x0 ≤ 2147483647) (h6 : -2147483648 ≤ x1) (h7 : x1 ≤ 2147483647) : x0 + x1 ≤ 2147483647 := by omega
theorem o23_23 {x0 x1 x2 : Int} (h0 : 0 ≤ x1) (h1 : x1 ≤ 4) (h2 : 1 * 0 ≤ x2) (h3 : x2 ≤ 5 * 4) (h4 : x0 = x2 + x1) : 0 ≤ x0 := by omega
theorem o23_24 {x0 x1 x2 : Int} (h0 : 0 ≤ x1) (h1 : x1 ≤ 4) (h2 : 1 * 0 ≤ x2) (h3 : x2 ≤ 5 * 4) (h4 : x0 = x2 + x1) : x0 ≤ 24 := by omega
theorem o23_25 {x0 : Int} (h0 : x0 = 0) : x0 ≤ 24 := by omega
theorem o23_26 {x0 : Int} (h0 : x0 = 3) : 3 ≤ x0 := by omega
theorem o23_27 {x0 : Int} (h0 : x0 = 3) : x0 ≤ 3 := by omega
theorem o23_28 {x0 : Int} (h0 : 0 ≤ x0) (h1 : x0 ≤ 24) : 0 ≤ x0 := by omega
theorem o23_29 {x0 : Int} (h0 : 0 ≤ x0) (h1 : x0 ≤ 24) : x0 ≤ 24 := by omega
theorem o23_30 {x0 : Int} (h0 : 0 ≤ x0) (h1 : x0 ≤ 3) : 0 ≤ x0 := by omega
theorem o23_31 {x0 : Int} (h0 : 0 ≤ x0) (h1 : x0 ≤ 3) : x0 ≤ 3 := by omega
theorem o23_32 {x0 : Int} (h0 : x0 = (-1)) (h1 : 0 ≤ x0) : False := by omega
theorem o23_33 {x0 : Int} (h0 : x0 = 0) : x0 ≤ 3 := by omega
theorem o23_34 {x0 : Int} (h0 : x0 = 3) (h1 : x0 < 0) : False := by omega
theorem o23_35 {x0 : Int} (h0 : x0 = 3) (h1 : 0 ≤ x0) : x0 = 3 := by omega
theorem o23_36 {x0 : Int} (h0 : x0 = 3) (h1 : 0 ≤ x0) : 0 ≤ x0 := by omega
theorem o23_37 {x0 : Int} (h0 : x0 = 3) (h1 : 0 ≤ x0) : x0 ≤ 3 := by omega
theorem o23_38 {x0 : Int} (h0 : x0 = 2) (h1 : x0 < 0) : False := by omega
theorem o23_39 {x0 : Int} (h0 : x0 = 2) (h1 : 0 ≤ x0) : x0 = 2 := by omega
theorem o23_40 {x0 : Int} (h0 : x0 = 2) (h1 : 0 ≤ x0) : 0 ≤ x0 := by omega
theorem o23_41 {x0 : Int} (h0 : x0 = 2) (h1 : 0 ≤ x0) : x0 ≤ 3 := by omega
theorem o23_42 {x0 : Int} (h0 : x0 = 1) (h1 : x0 < 0) : False := by omega
theorem o23_43 {x0 : Int} (h0 : x0 = 1) (h1 : 0 ≤ x0) : x0 = 1 := by omega
theorem o23_44 {x0 : Int} (h0 : x0 = 1) (h1 : 0 ≤ x0) : 0 ≤ x0 := by omega
theorem o23_45 {x0 : Int} (h0 : x0 = 1) (h1 : 0 ≤ x0) : x0 ≤ 3 := by omega
theorem o23_46 {x0 : Int} (h0 : x0 = 0) (h1 : x0 < 0) : False := by omega
theorem o23_47 {x0 : Int} (h0 : x0 = 0) (h1 : 0 ≤ x0) : x0 = 0 := by omega
theorem o23_48 {x0 : Int} (h0 : x0 = 0) (h1 : 0 ≤ x0) : 0 ≤ x0 := by omega
theorem o23_49 {x0 : Int} (h0 : x0 = 0) (h1 : 0 ≤ x0) : x0 ≤ 3 := by omega
theorem o23_50 {x0 : Int} (h0 : x0 = 0) : x0 = 0 := by omega
theorem o23_51 {x0 : Int} (h0 : x0 = 999) : 999 ≤ x0 := by omega
theorem o23_52 {x0 : Int} (h0 : x0 = 999) : x0 ≤ 999 := by omega
theorem o23_53 {x0 : Int} (h0 : x0 = 99) : 99 ≤ x0 := by omega
theorem o23_54 {x0 : Int} (h0 : x0 = 99) : x0 ≤ 99 := by omega
theorem o23_55 {x0 : Int} (h0 : x0 = 5) : x0 = 5 := by omega
theorem o23_56 {x0 x1 : Int} (h0 : 0 ≤ x0) (h1 : x0 ≤ 5) (h2 : x1 = 5) (h3 : x0 < x1) : x0 < 5 := by omega
theorem o23_57 {x0 x1 : Int} (h0 : 0 ≤ x0) (h1 : x0 ≤ 5) (h2 : x1 = 5) (h3 : x1 ≤ x0) : ¬ x0 < 5 := by omega
theorem o23_58 {x0 : Int} (h0 : x0 = 58) : 0 ≤ x0 := by omega
theorem o23_59 {x0 : Int} (h0 : x0 = 58) : x0 ≤ 65535 := by omega
noncomputable def g7c_X5_cityLine (s : XS) : XR := (s, 0)
noncomputable def g6c_X5_cityLine (s : XS) (r_29 : Int) (r_17 : Int) : XR := g7c_X5_cityLine ((f_X0_lay s 20 r_17 r_29).1)
noncomputable def g5c_X5_cityLine (s : XS) (r_17 : Int) : XR := g6c_X5_cityLine ((f_X5_boundeda s 2 5).1) (((f_X5_boundeda s 2 5).2)) r_17
noncomputable def g4c_X5_cityLine (s : XS) : XR := g5c_X5_cityLine ((f_X5_boundeda s 2 5).1) (((f_X5_boundeda s 2 5).2))
noncomputable def g2_X5_cityLine (s : XS) : XR := g4c_X5_cityLine ((f_X5_advance s).1)
noncomputable def g8c_X5_cityLine (s : XS) : XR := (s, 0)
noncomputable def g3_X5_cityLine (s : XS) : XR := g8c_X5_cityLine ((f_X5_fail s 2).1)
noncomputable def g1b_X5_cityLine (s : XS) (v_1 : Int) : XR := if 0 < v_1 then g3_X5_cityLine s else g2_X5_cityLine s
noncomputable def f_X5_cityLine (s : XS) : XR := g1b_X5_cityLine s ((s 0 20 5))
set_option maxHeartbeats 4000000 in
set_option maxRecDepth 100000 in
theorem c_X5_cityLine (l : Launch) (G : GG) (Z : RZ) (ad : Nat → Nat) (ws0 : va_W) (hT : Ty G SC ad ws0) (hR : Rel ws0) : Mq l yX5_cityLine cX5_cityLine 3 none 7 G Z [.ref (ad 77)] ws0 (PV G SC ad [1, 14, 15, 16] ws0 (fun u => (xso SC ad u = (f_X5_cityLine (xso SC ad ws0)).1) ∧ (Rel u))) := by
  refine Mq.start (by decide) (Nat.le_of_ble_eq_true rfl) ?_
  intro p e s m below meth c A ls C0 hZ h hl
  have hl : lv_has ls 3 [(0, .ref (ad 77))] := hl
  have h : Wt G SC ad A s s.heap [] ws0 := ⟨h, hT⟩
  obtain ⟨args, hargs⟩ : ∃ z, z = ([.ref (ad 77)] : List Value).toArray := ⟨_, rfl⟩
  rw [← hargs] at C0 ⊢
  have C0 : Cx p s m args meth c RX5 cX5_cityLine 3 none := C0
  obtain ⟨Q, hQ⟩ : ∃ z, z = MQ below ((PV G SC ad [1, 14, 15, 16] ws0 (fun u => (xso SC ad u = (f_X5_cityLine (xso SC ad ws0)).1) ∧ (Rel u))) A) args s 0 0 A := ⟨_, rfl⟩
  rw [← hQ]
  obtain ⟨FT, hFT⟩ : ∃ z, z = f_X5_cityLine (xso SC ad ws0) := ⟨_, rfl⟩
  have HE : FT = f_X5_cityLine (xso SC ad ws0) := hFT
  refine lv_aload_n C0.1 C0.2.1 dX5_cityLine_0 rfl (lv_at hl 0 rfl) ?_
  refine tg_X5_city C0 h kSC_77 q_370 dX5_cityLine_1 ?_
  refine tg_X0_wide C0 h kSC_20 q_258 dX5_cityLine_4 (fun v_1 e_2 e_3 e_4 => ?_)
  replace HE : FT = g1b_X5_cityLine (xso SC ad ws0) v_1.toInt := HE.trans (by rw [(xg0 e_2 : v_1.toInt = (xso SC ad ws0) 0 20 5)]; rfl)
  refine y_if_le (tgt := 16) C0 dX5_cityLine_7 (by decide) (fun c_5 => ?_) (fun c_5 => ?_)
  · -- 7
    replace HE : FT = g2_X5_cityLine (xso SC ad ws0) := HE.trans (if_neg (Int.not_lt.mpr c_5))
    refine lv_aload_n C0.1 C0.2.1 dX5_cityLine_16 rfl (lv_at hl 0 rfl) ?_
    refine y_cv h (y_rV (As := []) (rest := []) C0 hZ h (c_X5_advance l G Z ad _ h.2) k_X5_advance q_616 q_0 q_614 kSC_77 rfl rfl rfl hl.1 rfl rfl (Nat.le_of_ble_eq_true rfl) dX5_cityLine_17 ⟨Nat.le_of_ble_eq_true rfl, Nat.le_of_ble_eq_true rfl⟩ ⟨Nat.le_of_ble_eq_true rfl, Nat.le_of_ble_eq_true rfl⟩) (fun H locs ws_6 h u_7 p_8 => ?_)
    have e_9 := p_8
    replace HE : FT = g4c_X5_cityLine (xso SC ad ws_6) := HE.trans (by rw [e_9]; rfl)
    refine lv_aload_n C0.1 C0.2.1 dX5_cityLine_20 rfl (lv_at hl 0 rfl) ?_
    refine y_c1 (n := 2) C0 (by decide) dX5_cityLine_21 (fun v_10 e_11 => ?_)
    refine y_c1 (n := 5) C0 (by decide) dX5_cityLine_22 (fun v_12 e_13 => ?_)
    refine y_ci h (y_rV (As := [.int v_10, .int v_12]) (rest := []) C0 hZ h (c_X5_boundeda l G Z ad _ h.2 v_10 v_12 (o23_1 e_11) (o23_2 e_11) (o23_3 e_13) (o23_4 e_13)) k_X5_bounded q_753 q_7 q_751 kSC_77 rfl rfl rfl hl.1 rfl rfl (Nat.le_of_ble_eq_true rfl) dX5_cityLine_23 ⟨Nat.le_of_ble_eq_true rfl, Nat.le_of_ble_eq_true rfl⟩ ⟨Nat.le_of_ble_eq_true rfl, Nat.le_of_ble_eq_true rfl⟩) (fun r_17 H locs ws_14 h u_15 p_16 => ?_)
    obtain ⟨e_18, e_19, e_20, e_21⟩ := p_16
    replace HE : FT = g5c_X5_cityLine (xso SC ad ws_14) r_17.toInt := HE.trans (by rw [e_18, e_19, e_13, e_11]; rfl)
    refine lv_istore_n (lv' := [(1, .int r_17), (0, .ref (ad 77))]) C0.1 C0.2.1 dX5_cityLine_26 rfl hl (by decide) rfl (fun ls hl => ?_)
    refine lv_aload_n C0.1 C0.2.1 dX5_cityLine_27 rfl (lv_at hl 1 rfl) ?_
    refine y_c1 (n := 2) C0 (by decide) dX5_cityLine_28 (fun v_22 e_23 => ?_)
    refine y_c1 (n := 5) C0 (by decide) dX5_cityLine_29 (fun v_24 e_25 => ?_)
    refine y_ci h (y_rV (As := [.int v_22, .int v_24]) (rest := []) C0 hZ h (c_X5_boundeda l G Z ad _ h.2 v_22 v_24 (o23_1 e_23) (o23_2 e_23) (o23_3 e_25) (o23_4 e_25)) k_X5_bounded q_753 q_7 q_751 kSC_77 rfl rfl rfl hl.1 rfl rfl (Nat.le_of_ble_eq_true rfl) dX5_cityLine_30 ⟨Nat.le_of_ble_eq_true rfl, Nat.le_of_ble_eq_true rfl⟩ ⟨Nat.le_of_ble_eq_true rfl, Nat.le_of_ble_eq_true rfl⟩) (fun r_29 H locs ws_26 h u_27 p_28 => ?_)
    obtain ⟨e_30, e_31, e_32, e_33⟩ := p_28
    replace HE : FT = g6c_X5_cityLine (xso SC ad ws_26) r_29.toInt r_17.toInt := HE.trans (by rw [e_30, e_31, e_25, e_23]; rfl)
    refine lv_istore_n (lv' := [(2, .int r_29), (1, .int r_17), (0, .ref (ad 77))]) C0.1 C0.2.1 dX5_cityLine_33 rfl hl (by decide) rfl (fun ls hl => ?_)
    refine lv_aload_n C0.1 C0.2.1 dX5_cityLine_34 rfl (lv_at hl 2 rfl) ?_
    refine tg_X5_city C0 h kSC_77 q_370 dX5_cityLine_35 ?_
    refine lv_iload_n C0.1 C0.2.1 dX5_cityLine_38 rfl (lv_at hl 1 rfl) ?_
    refine lv_iload_n C0.1 C0.2.1 dX5_cityLine_39 rfl (lv_at hl 0 rfl) ?_
    refine y_cv h (y_rV (As := [.int r_17, .int r_29]) (rest := []) C0 hZ h (c_X0_lay l G Z ad _ h.2 20 kSC_20 r_17 r_29 (o23_5 e_20 e_21) (o23_6 e_20 e_21) (o23_5 e_32 e_33) (o23_6 e_32 e_33) (Rel.fr (M := [16]) hR (Fr.tr (Fr.tr u_7 u_15) u_27) (by decide) (by decide))) k_X0_lay q_756 q_757 q_755 kSC_20 rfl rfl rfl hl.1 rfl rfl (Nat.le_of_ble_eq_true rfl) dX5_cityLine_40 ⟨Nat.le_of_ble_eq_true rfl, Nat.le_of_ble_eq_true rfl⟩ ⟨Nat.le_of_ble_eq_true rfl, Nat.le_of_ble_eq_true rfl⟩) (fun H locs ws_34 h u_35 p_36 => ?_)
    obtain ⟨e_37, e_38⟩ := p_36
    replace HE : FT = g7c_X5_cityLine (xso SC ad ws_34) := HE.trans (by rw [e_37]; rfl)
    replace HE : FT = ((xso SC ad ws_34), 0) := HE.trans rfl
    rw [hQ]
    exact y_vret C0 h (Fr.tr (Fr.tr (Fr.tr (Fr.mono u_7 (by decide)) (Fr.mono u_15 (by decide))) (Fr.mono u_27 (by decide))) (Fr.mono u_35 (by decide))) ⟨(congrArg Prod.fst (HE.symm.trans hFT)), e_38⟩ dX5_cityLine_43
  · -- 7
    replace HE : FT = g3_X5_cityLine (xso SC ad ws0) := HE.trans (if_pos c_5)
    refine lv_aload_n C0.1 C0.2.1 dX5_cityLine_10 rfl (lv_at hl 0 rfl) ?_
    refine y_c1 (n := 2) C0 (by decide) dX5_cityLine_11 (fun v_39 e_40 => ?_)
    refine y_cv h (y_rV (As := [.int v_39]) (rest := []) C0 hZ h (c_X5_fail l G Z ad _ h.2 v_39) k_X5_fail q_628 q_3 q_626 kSC_77 rfl rfl rfl hl.1 rfl rfl (Nat.le_of_ble_eq_true rfl) dX5_cityLine_12 ⟨Nat.le_of_ble_eq_true rfl, Nat.le_of_ble_eq_true rfl⟩ ⟨Nat.le_of_ble_eq_true rfl, Nat.le_of_ble_eq_true rfl⟩) (fun H locs ws_41 h u_42 p_43 => ?_)
    have e_44 := p_43
    replace HE : FT = g8c_X5_cityLine (xso SC ad ws_41) := HE.trans (by rw [e_44, e_40]; rfl)
    replace HE : FT = ((xso SC ad ws_41), 0) := HE.trans rfl
    rw [hQ]
    exact y_vret C0 h (Fr.mono u_42 (by decide)) ⟨(congrArg Prod.fst (HE.symm.trans hFT)), (Rel.fr (M := [16]) hR u_42 (by decide) (by decide))⟩ dX5_cityLine_15
noncomputable def g6c_X5_crossingTold (s : XS) (r_42 : Int) (r_24 : Int) : XR := (s, (((s 0 20 5) * r_42) + r_24))
noncomputable def g5c_X5_crossingTold (s : XS) (r_24 : Int) : XR := g6c_X5_crossingTold ((f_X5_boundedb s 0 ((s 0 20 6) - 1)).1) (((f_X5_boundedb s 0 ((s 0 20 6) - 1)).2)) r_24
noncomputable def g4c_X5_crossingTold (s : XS) : XR := g5c_X5_crossingTold ((f_X5_boundedb s 0 ((s 0 20 5) - 1)).1) (((f_X5_boundedb s 0 ((s 0 20 5) - 1)).2))
noncomputable def g2_X5_crossingTold (s : XS) : XR := g4c_X5_crossingTold ((f_X5_advance s).1)
noncomputable def g7c_X5_crossingTold (s : XS) : XR := (s, 0)
noncomputable def g3_X5_crossingTold (s : XS) : XR := g7c_X5_crossingTold ((f_X5_fail s 2).1)
noncomputable def g1b_X5_crossingTold (s : XS) (v_1 : Int) : XR := if 0 < v_1 then g2_X5_crossingTold s else g3_X5_crossingTold s
noncomputable def f_X5_crossingTold (s : XS) : XR := g1b_X5_crossingTold s ((s 0 20 5))
set_option maxHeartbeats 4000000 in
set_option maxRecDepth 100000 in
theorem c_X5_crossingTold (l : Launch) (G : GG) (Z : RZ) (ad : Nat → Nat) (ws0 : va_W) (hT : Ty G SC ad ws0) : Mq l yX5_crossingTold cX5_crossingTold 3 (some .int) 7 G Z [.ref (ad 77)] ws0 (PI G SC ad [16] ws0 (fun r u => (xso SC ad u = (f_X5_crossingTold (xso SC ad ws0)).1) ∧ (r.toInt = (f_X5_crossingTold (xso SC ad ws0)).2) ∧ (0 ≤ r.toInt) ∧ (r.toInt ≤ 24))) := by
  refine Mq.start (by decide) (Nat.le_of_ble_eq_true rfl) ?_
  intro p e s m below meth c A ls C0 hZ h hl
  have hl : lv_has ls 3 [(0, .ref (ad 77))] := hl
  have h : Wt G SC ad A s s.heap [] ws0 := ⟨h, hT⟩
  obtain ⟨args, hargs⟩ : ∃ z, z = ([.ref (ad 77)] : List Value).toArray := ⟨_, rfl⟩
  rw [← hargs] at C0 ⊢
  have C0 : Cx p s m args meth c RX5 cX5_crossingTold 3 (some .int) := C0
  obtain ⟨Q, hQ⟩ : ∃ z, z = MQ below ((PI G SC ad [16] ws0 (fun r u => (xso SC ad u = (f_X5_crossingTold (xso SC ad ws0)).1) ∧ (r.toInt = (f_X5_crossingTold (xso SC ad ws0)).2) ∧ (0 ≤ r.toInt) ∧ (r.toInt ≤ 24))) A) args s 0 0 A := ⟨_, rfl⟩
  rw [← hQ]
  obtain ⟨FT, hFT⟩ : ∃ z, z = f_X5_crossingTold (xso SC ad ws0) := ⟨_, rfl⟩
  have HE : FT = f_X5_crossingTold (xso SC ad ws0) := hFT
  refine lv_aload_n C0.1 C0.2.1 dX5_crossingTold_0 rfl (lv_at hl 0 rfl) ?_
  refine tg_X5_city C0 h kSC_77 q_370 dX5_crossingTold_1 ?_
  refine tg_X0_wide C0 h kSC_20 q_258 dX5_crossingTold_4 (fun v_1 e_2 e_3 e_4 => ?_)
  replace HE : FT = g1b_X5_crossingTold (xso SC ad ws0) v_1.toInt := HE.trans (by rw [(xg0 e_2 : v_1.toInt = (xso SC ad ws0) 0 20 5)]; rfl)
  refine y_if_gt (tgt := 17) C0 dX5_crossingTold_7 (by decide) (fun c_5 => ?_) (fun c_5 => ?_)
  · -- 7
    replace HE : FT = g2_X5_crossingTold (xso SC ad ws0) := HE.trans (if_pos c_5)
    refine lv_aload_n C0.1 C0.2.1 dX5_crossingTold_17 rfl (lv_at hl 0 rfl) ?_
    refine y_cv h (y_rV (As := []) (rest := []) C0 hZ h (c_X5_advance l G Z ad _ h.2) k_X5_advance q_616 q_0 q_614 kSC_77 rfl rfl rfl hl.1 rfl rfl (Nat.le_of_ble_eq_true rfl) dX5_crossingTold_18 ⟨Nat.le_of_ble_eq_true rfl, Nat.le_of_ble_eq_true rfl⟩ ⟨Nat.le_of_ble_eq_true rfl, Nat.le_of_ble_eq_true rfl⟩) (fun H locs ws_6 h u_7 p_8 => ?_)
    have e_9 := p_8
    replace HE : FT = g4c_X5_crossingTold (xso SC ad ws_6) := HE.trans (by rw [e_9]; rfl)
    refine lv_aload_n C0.1 C0.2.1 dX5_crossingTold_21 rfl (lv_at hl 0 rfl) ?_
    refine y_c1 (n := 0) C0 (by decide) dX5_crossingTold_22 (fun v_10 e_11 => ?_)
    refine lv_aload_n C0.1 C0.2.1 dX5_crossingTold_23 rfl (lv_at hl 0 rfl) ?_
    refine tg_X5_city C0 h kSC_77 q_370 dX5_crossingTold_24 ?_
    refine tg_X0_wide C0 h kSC_20 q_258 dX5_crossingTold_27 (fun v_12 e_13 e_14 e_15 => ?_)
    have qh_16 : v_12.toInt = v_1.toInt := congrArg Int32.toInt (e_13.symm.trans (Eq.trans (Fr.fI u_7 kSC_20 (by decide)) e_2))
    refine y_c1 (n := 1) C0 (by decide) dX5_crossingTold_30 (fun v_17 e_18 => ?_)
    refine y_sub C0 (o23_7 e_3 e_4 c_5 e_14 e_15 qh_16 e_18 (le_min v_12) (le_max v_12) (le_min v_17) (le_max v_17) (le_min v_1) (le_max v_1)) (o23_8 e_3 e_4 c_5 e_14 e_15 qh_16 e_18 (le_min v_12) (le_max v_12) (le_min v_17) (le_max v_17) (le_min v_1) (le_max v_1)) dX5_crossingTold_31 (fun v_19 e_20 => ?_)
    refine y_ci h (y_rV (As := [.int v_10, .int v_19]) (rest := []) C0 hZ h (c_X5_boundedb l G Z ad _ h.2 v_10 v_19 (o23_9 e_11) (o23_10 e_11) (o23_11 e_3 e_4 c_5 e_14 e_15 qh_16 e_18 e_20) (o23_12 e_3 e_4 c_5 e_14 e_15 qh_16 e_18 e_20)) k_X5_bounded q_753 q_7 q_751 kSC_77 rfl rfl rfl hl.1 rfl rfl (Nat.le_of_ble_eq_true rfl) dX5_crossingTold_32 ⟨Nat.le_of_ble_eq_true rfl, Nat.le_of_ble_eq_true rfl⟩ ⟨Nat.le_of_ble_eq_true rfl, Nat.le_of_ble_eq_true rfl⟩) (fun r_24 H locs ws_21 h u_22 p_23 => ?_)
    obtain ⟨e_25, e_26, e_27, e_28⟩ := p_23
    replace HE : FT = g5c_X5_crossingTold (xso SC ad ws_21) r_24.toInt := HE.trans (by rw [e_25, e_26, e_20, e_18, (xg0 e_13 : v_12.toInt = (xso SC ad ws_6) 0 20 5), e_11]; rfl)
    refine lv_istore_n (lv' := [(1, .int r_24), (0, .ref (ad 77))]) C0.1 C0.2.1 dX5_crossingTold_35 rfl hl (by decide) rfl (fun ls hl => ?_)
    refine lv_aload_n C0.1 C0.2.1 dX5_crossingTold_36 rfl (lv_at hl 1 rfl) ?_
    refine y_c1 (n := 0) C0 (by decide) dX5_crossingTold_37 (fun v_29 e_30 => ?_)
    refine lv_aload_n C0.1 C0.2.1 dX5_crossingTold_38 rfl (lv_at hl 1 rfl) ?_
    refine tg_X5_city C0 h kSC_77 q_370 dX5_crossingTold_39 ?_
    refine tg_X0_high C0 h kSC_20 q_261 dX5_crossingTold_42 (fun v_31 e_32 e_33 e_34 => ?_)
    refine y_c1 (n := 1) C0 (by decide) dX5_crossingTold_45 (fun v_35 e_36 => ?_)
    refine y_sub C0 (o23_13 e_33 e_34 e_36 (le_min v_31) (le_max v_31) (le_min v_35) (le_max v_35)) (o23_14 e_33 e_34 e_36 (le_min v_31) (le_max v_31) (le_min v_35) (le_max v_35)) dX5_crossingTold_46 (fun v_37 e_38 => ?_)
    refine y_ci h (y_rV (As := [.int v_29, .int v_37]) (rest := []) C0 hZ h (c_X5_boundedb l G Z ad _ h.2 v_29 v_37 (o23_9 e_30) (o23_10 e_30) (o23_15 e_33 e_34 e_36 e_38) (o23_16 e_33 e_34 e_36 e_38)) k_X5_bounded q_753 q_7 q_751 kSC_77 rfl rfl rfl hl.1 rfl rfl (Nat.le_of_ble_eq_true rfl) dX5_crossingTold_47 ⟨Nat.le_of_ble_eq_true rfl, Nat.le_of_ble_eq_true rfl⟩ ⟨Nat.le_of_ble_eq_true rfl, Nat.le_of_ble_eq_true rfl⟩) (fun r_42 H locs ws_39 h u_40 p_41 => ?_)
    obtain ⟨e_43, e_44, e_45, e_46⟩ := p_41
    replace HE : FT = g6c_X5_crossingTold (xso SC ad ws_39) r_42.toInt r_24.toInt := HE.trans (by rw [e_43, e_44, e_38, e_36, (xg0 e_32 : v_31.toInt = (xso SC ad ws_21) 0 20 6), e_30]; rfl)
    refine lv_istore_n (lv' := [(2, .int r_42), (1, .int r_24), (0, .ref (ad 77))]) C0.1 C0.2.1 dX5_crossingTold_50 rfl hl (by decide) rfl (fun ls hl => ?_)
    refine lv_aload_n C0.1 C0.2.1 dX5_crossingTold_51 rfl (lv_at hl 2 rfl) ?_
    refine tg_X5_city C0 h kSC_77 q_370 dX5_crossingTold_52 ?_
    refine tg_X0_wide C0 h kSC_20 q_258 dX5_crossingTold_55 (fun v_47 e_48 e_49 e_50 => ?_)
    have qh_51 : v_47.toInt = v_1.toInt := congrArg Int32.toInt (e_48.symm.trans (Eq.trans (Eq.trans (Fr.fI u_40 kSC_20 (by decide)) (Eq.trans (Fr.fI u_22 kSC_20 (by decide)) (Fr.fI u_7 kSC_20 (by decide)))) e_2))
    refine lv_iload_n C0.1 C0.2.1 dX5_crossingTold_58 rfl (lv_at hl 0 rfl) ?_
    refine y_mulb (la := 1) (ha := 5) (lb := 0) (hb := 4) C0 (by decide) (o23_17 e_3 e_4 c_5 e_14 e_15 qh_16 e_18 e_20 e_49 e_50 qh_51) (o23_18 e_3 e_4 c_5 e_14 e_15 qh_16 e_18 e_20 e_49 e_50 qh_51) (by decide) (o23_19 e_45 e_46) (o23_20 e_45 e_46) (by decide) dX5_crossingTold_59 (fun v_52 e_53 e_54 e_55 => ?_)
    refine lv_iload_n C0.1 C0.2.1 dX5_crossingTold_60 rfl (lv_at hl 1 rfl) ?_
    refine y_add C0 (o23_21 e_27 e_28 e_54 e_55 (le_min v_52) (le_max v_52) (le_min r_24) (le_max r_24)) (o23_22 e_27 e_28 e_54 e_55 (le_min v_52) (le_max v_52) (le_min r_24) (le_max r_24)) dX5_crossingTold_61 (fun v_56 e_57 => ?_)
    replace HE : FT = ((xso SC ad ws_39), v_56.toInt) := HE.trans (by rw [e_57, e_53, (xg0 e_48 : v_47.toInt = (xso SC ad ws_39) 0 20 5)]; rfl)
    rw [hQ]
    exact y_iret C0 h (Fr.tr (Fr.tr u_7 u_22) u_40) ⟨(congrArg Prod.fst (HE.symm.trans hFT)), (congrArg Prod.snd (HE.symm.trans hFT)), (o23_23 e_27 e_28 e_54 e_55 e_57), (o23_24 e_27 e_28 e_54 e_55 e_57)⟩ dX5_crossingTold_62
  · -- 7
    replace HE : FT = g3_X5_crossingTold (xso SC ad ws0) := HE.trans (if_neg (Int.not_lt.mpr c_5))
    refine lv_aload_n C0.1 C0.2.1 dX5_crossingTold_10 rfl (lv_at hl 0 rfl) ?_
    refine y_c1 (n := 2) C0 (by decide) dX5_crossingTold_11 (fun v_58 e_59 => ?_)
    refine y_cv h (y_rV (As := [.int v_58]) (rest := []) C0 hZ h (c_X5_fail l G Z ad _ h.2 v_58) k_X5_fail q_628 q_3 q_626 kSC_77 rfl rfl rfl hl.1 rfl rfl (Nat.le_of_ble_eq_true rfl) dX5_crossingTold_12 ⟨Nat.le_of_ble_eq_true rfl, Nat.le_of_ble_eq_true rfl⟩ ⟨Nat.le_of_ble_eq_true rfl, Nat.le_of_ble_eq_true rfl⟩) (fun H locs ws_60 h u_61 p_62 => ?_)
    have e_63 := p_62
    replace HE : FT = g7c_X5_crossingTold (xso SC ad ws_60) := HE.trans (by rw [e_63, e_59]; rfl)
    refine y_c1 (n := 0) C0 (by decide) dX5_crossingTold_15 (fun v_64 e_65 => ?_)
    replace HE : FT = ((xso SC ad ws_60), v_64.toInt) := HE.trans (by rw [e_65]; rfl)
    rw [hQ]
    exact y_iret C0 h u_61 ⟨(congrArg Prod.fst (HE.symm.trans hFT)), (congrArg Prod.snd (HE.symm.trans hFT)), (o23_9 e_65), (o23_25 e_65)⟩ dX5_crossingTold_16
noncomputable def g3c_X5_wallLine (s : XS) : XR := (s, 0)
noncomputable def g2c_X5_wallLine (s : XS) (r_16 : Int) (r_4 : Int) : XR := g3c_X5_wallLine ((f_X0_block s 20 r_4 r_16).1)
noncomputable def g1c_X5_wallLine (s : XS) (r_4 : Int) : XR := g2c_X5_wallLine ((f_X5_boundedc s 0 3).1) (((f_X5_boundedc s 0 3).2)) r_4
noncomputable def f_X5_wallLine (s : XS) : XR := g1c_X5_wallLine ((f_X5_crossingTold s).1) (((f_X5_crossingTold s).2))
set_option maxHeartbeats 4000000 in
set_option maxRecDepth 100000 in
theorem c_X5_wallLine (l : Launch) (G : GG) (Z : RZ) (ad : Nat → Nat) (ws0 : va_W) (hT : Ty G SC ad ws0) (hR : Rel ws0) : Mq l yX5_wallLine cX5_wallLine 2 none 8 G Z [.ref (ad 77)] ws0 (PV G SC ad [14, 16] ws0 (fun u => (xso SC ad u = (f_X5_wallLine (xso SC ad ws0)).1) ∧ (Rel u))) := by
  refine Mq.start (by decide) (Nat.le_of_ble_eq_true rfl) ?_
  intro p e s m below meth c A ls C0 hZ h hl
  have hl : lv_has ls 2 [(0, .ref (ad 77))] := hl
  have h : Wt G SC ad A s s.heap [] ws0 := ⟨h, hT⟩
  obtain ⟨args, hargs⟩ : ∃ z, z = ([.ref (ad 77)] : List Value).toArray := ⟨_, rfl⟩
  rw [← hargs] at C0 ⊢
  have C0 : Cx p s m args meth c RX5 cX5_wallLine 2 none := C0
  obtain ⟨Q, hQ⟩ : ∃ z, z = MQ below ((PV G SC ad [14, 16] ws0 (fun u => (xso SC ad u = (f_X5_wallLine (xso SC ad ws0)).1) ∧ (Rel u))) A) args s 0 0 A := ⟨_, rfl⟩
  rw [← hQ]
  obtain ⟨FT, hFT⟩ : ∃ z, z = f_X5_wallLine (xso SC ad ws0) := ⟨_, rfl⟩
  have HE : FT = f_X5_wallLine (xso SC ad ws0) := hFT
  refine lv_aload_n C0.1 C0.2.1 dX5_wallLine_0 rfl (lv_at hl 0 rfl) ?_
  refine y_ci h (y_rV (As := []) (rest := []) C0 hZ h (c_X5_crossingTold l G Z ad _ h.2) k_X5_crossingTold q_766 q_9 q_764 kSC_77 rfl rfl rfl hl.1 rfl rfl (Nat.le_of_ble_eq_true rfl) dX5_wallLine_1 ⟨Nat.le_of_ble_eq_true rfl, Nat.le_of_ble_eq_true rfl⟩ ⟨Nat.le_of_ble_eq_true rfl, Nat.le_of_ble_eq_true rfl⟩) (fun r_4 H locs ws_1 h u_2 p_3 => ?_)
  obtain ⟨e_5, e_6, e_7, e_8⟩ := p_3
  replace HE : FT = g1c_X5_wallLine (xso SC ad ws_1) r_4.toInt := HE.trans (by rw [e_5, e_6]; rfl)
  refine lv_istore_n (lv' := [(1, .int r_4), (0, .ref (ad 77))]) C0.1 C0.2.1 dX5_wallLine_4 rfl hl (by decide) rfl (fun ls hl => ?_)
  refine lv_aload_n C0.1 C0.2.1 dX5_wallLine_5 rfl (lv_at hl 1 rfl) ?_
  refine tg_X5_city C0 h kSC_77 q_370 dX5_wallLine_6 ?_
  refine lv_iload_n C0.1 C0.2.1 dX5_wallLine_9 rfl (lv_at hl 0 rfl) ?_
  refine lv_aload_n C0.1 C0.2.1 dX5_wallLine_10 rfl (lv_at hl 1 rfl) ?_
  refine y_c1 (n := 0) C0 (by decide) dX5_wallLine_11 (fun v_9 e_10 => ?_)
  refine y_c1 (n := 3) C0 (by decide) dX5_wallLine_12 (fun v_11 e_12 => ?_)
  refine y_ci h (y_rV (As := [.int v_9, .int v_11]) (rest := [.int r_4, .ref (ad 20)]) C0 hZ h (c_X5_boundedc l G Z ad _ h.2 v_9 v_11 (o23_9 e_10) (o23_10 e_10) (o23_26 e_12) (o23_27 e_12)) k_X5_bounded q_753 q_7 q_751 kSC_77 rfl rfl rfl hl.1 rfl rfl (Nat.le_of_ble_eq_true rfl) dX5_wallLine_13 ⟨Nat.le_of_ble_eq_true rfl, Nat.le_of_ble_eq_true rfl⟩ ⟨Nat.le_of_ble_eq_true rfl, Nat.le_of_ble_eq_true rfl⟩) (fun r_16 H locs ws_13 h u_14 p_15 => ?_)
  obtain ⟨e_17, e_18, e_19, e_20⟩ := p_15
  replace HE : FT = g2c_X5_wallLine (xso SC ad ws_13) r_16.toInt r_4.toInt := HE.trans (by rw [e_17, e_18, e_12, e_10]; rfl)
  refine y_cv h (y_rV (As := [.int r_4, .int r_16]) (rest := []) C0 hZ h (c_X0_block l G Z ad _ h.2 20 kSC_20 r_4 r_16 (o23_28 e_7 e_8) (o23_29 e_7 e_8) (o23_30 e_19 e_20) (o23_31 e_19 e_20) (Rel.fr (M := [16]) hR (Fr.tr u_2 u_14) (by decide) (by decide))) k_X0_block q_769 q_770 q_768 kSC_20 rfl rfl rfl hl.1 rfl rfl (Nat.le_of_ble_eq_true rfl) dX5_wallLine_16 ⟨Nat.le_of_ble_eq_true rfl, Nat.le_of_ble_eq_true rfl⟩ ⟨Nat.le_of_ble_eq_true rfl, Nat.le_of_ble_eq_true rfl⟩) (fun H locs ws_21 h u_22 p_23 => ?_)
  obtain ⟨e_24, e_25⟩ := p_23
  replace HE : FT = g3c_X5_wallLine (xso SC ad ws_21) := HE.trans (by rw [e_24]; rfl)
  replace HE : FT = ((xso SC ad ws_21), 0) := HE.trans rfl
  rw [hQ]
  exact y_vret C0 h (Fr.tr (Fr.tr (Fr.mono u_2 (by decide)) (Fr.mono u_14 (by decide))) (Fr.mono u_22 (by decide))) ⟨(congrArg Prod.fst (HE.symm.trans hFT)), e_25⟩ dX5_wallLine_19
noncomputable def g2c_X5_freeLine (s : XS) : XR := (s, 0)
noncomputable def g1c_X5_freeLine (s : XS) (r_4 : Int) : XR := g2c_X5_freeLine ((f_X0_makeToldFree s 20 r_4).1)
noncomputable def f_X5_freeLine (s : XS) : XR := g1c_X5_freeLine ((f_X5_crossingTold s).1) (((f_X5_crossingTold s).2))
set_option maxHeartbeats 4000000 in
set_option maxRecDepth 100000 in
theorem c_X5_freeLine (l : Launch) (G : GG) (Z : RZ) (ad : Nat → Nat) (ws0 : va_W) (hT : Ty G SC ad ws0) : Mq l yX5_freeLine cX5_freeLine 1 none 8 G Z [.ref (ad 77)] ws0 (PV G SC ad [1, 16] ws0 (fun u => (xso SC ad u = (f_X5_freeLine (xso SC ad ws0)).1))) := by
  refine Mq.start (by decide) (Nat.le_of_ble_eq_true rfl) ?_
  intro p e s m below meth c A ls C0 hZ h hl
  have hl : lv_has ls 1 [(0, .ref (ad 77))] := hl
  have h : Wt G SC ad A s s.heap [] ws0 := ⟨h, hT⟩
  obtain ⟨args, hargs⟩ : ∃ z, z = ([.ref (ad 77)] : List Value).toArray := ⟨_, rfl⟩
  rw [← hargs] at C0 ⊢
  have C0 : Cx p s m args meth c RX5 cX5_freeLine 1 none := C0
  obtain ⟨Q, hQ⟩ : ∃ z, z = MQ below ((PV G SC ad [1, 16] ws0 (fun u => (xso SC ad u = (f_X5_freeLine (xso SC ad ws0)).1))) A) args s 0 0 A := ⟨_, rfl⟩
  rw [← hQ]
  obtain ⟨FT, hFT⟩ : ∃ z, z = f_X5_freeLine (xso SC ad ws0) := ⟨_, rfl⟩
  have HE : FT = f_X5_freeLine (xso SC ad ws0) := hFT
  refine lv_aload_n C0.1 C0.2.1 dX5_freeLine_0 rfl (lv_at hl 0 rfl) ?_
  refine tg_X5_city C0 h kSC_77 q_370 dX5_freeLine_1 ?_
  refine lv_aload_n C0.1 C0.2.1 dX5_freeLine_4 rfl (lv_at hl 0 rfl) ?_
  refine y_ci h (y_rV (As := []) (rest := [.ref (ad 20)]) C0 hZ h (c_X5_crossingTold l G Z ad _ h.2) k_X5_crossingTold q_766 q_9 q_764 kSC_77 rfl rfl rfl hl.1 rfl rfl (Nat.le_of_ble_eq_true rfl) dX5_freeLine_5 ⟨Nat.le_of_ble_eq_true rfl, Nat.le_of_ble_eq_true rfl⟩ ⟨Nat.le_of_ble_eq_true rfl, Nat.le_of_ble_eq_true rfl⟩) (fun r_4 H locs ws_1 h u_2 p_3 => ?_)
  obtain ⟨e_5, e_6, e_7, e_8⟩ := p_3
  replace HE : FT = g1c_X5_freeLine (xso SC ad ws_1) r_4.toInt := HE.trans (by rw [e_5, e_6]; rfl)
  refine y_cv h (y_rV (As := [.int r_4]) (rest := []) C0 hZ h (c_X0_makeToldFree l G Z ad _ h.2 20 kSC_20 r_4) k_X0_makeToldFree q_782 q_783 q_781 kSC_20 rfl rfl rfl hl.1 rfl rfl (Nat.le_of_ble_eq_true rfl) dX5_freeLine_8 ⟨Nat.le_of_ble_eq_true rfl, Nat.le_of_ble_eq_true rfl⟩ ⟨Nat.le_of_ble_eq_true rfl, Nat.le_of_ble_eq_true rfl⟩) (fun H locs ws_9 h u_10 p_11 => ?_)
  have e_12 := p_11
  replace HE : FT = g2c_X5_freeLine (xso SC ad ws_9) := HE.trans (by rw [e_12]; rfl)
  replace HE : FT = ((xso SC ad ws_9), 0) := HE.trans rfl
  rw [hQ]
  exact y_vret C0 h (Fr.tr (Fr.mono u_2 (by decide)) (Fr.mono u_10 (by decide))) (congrArg Prod.fst (HE.symm.trans hFT)) dX5_freeLine_11
noncomputable def g17c_X5_heading (s : XS) : XR := (s, 0)
noncomputable def g15_X5_heading (s : XS) : XR := g17c_X5_heading ((f_X5_fail s 2).1)
noncomputable def g18c_X5_heading (s : XS) : XR := (s, 3)
noncomputable def g16_X5_heading (s : XS) : XR := g18c_X5_heading ((f_X5_advance s).1)
noncomputable def g14b_X5_heading (s : XS) (r_31 : Int) : XR := if r_31 = 0 then g15_X5_heading s else g16_X5_heading s
noncomputable def g13c_X5_heading (s : XS) (r_31 : Int) : XR := g14b_X5_heading s r_31
noncomputable def g11_X5_heading (s : XS) : XR := g13c_X5_heading ((f_X5_isWord s 8).1) (((f_X5_isWord s 8).2))
noncomputable def g19c_X5_heading (s : XS) : XR := (s, 2)
noncomputable def g12_X5_heading (s : XS) : XR := g19c_X5_heading ((f_X5_advance s).1)
noncomputable def g10b_X5_heading (s : XS) (r_22 : Int) : XR := if r_22 = 0 then g11_X5_heading s else g12_X5_heading s
noncomputable def g9c_X5_heading (s : XS) (r_22 : Int) : XR := g10b_X5_heading s r_22
noncomputable def g7_X5_heading (s : XS) : XR := g9c_X5_heading ((f_X5_isWord s 7).1) (((f_X5_isWord s 7).2))
noncomputable def g20c_X5_heading (s : XS) : XR := (s, 1)
noncomputable def g8_X5_heading (s : XS) : XR := g20c_X5_heading ((f_X5_advance s).1)
noncomputable def g6b_X5_heading (s : XS) (r_13 : Int) : XR := if r_13 = 0 then g7_X5_heading s else g8_X5_heading s
noncomputable def g5c_X5_heading (s : XS) (r_13 : Int) : XR := g6b_X5_heading s r_13
noncomputable def g3_X5_heading (s : XS) : XR := g5c_X5_heading ((f_X5_isWord s 6).1) (((f_X5_isWord s 6).2))
noncomputable def g21c_X5_heading (s : XS) : XR := (s, 0)
noncomputable def g4_X5_heading (s : XS) : XR := g21c_X5_heading ((f_X5_advance s).1)
noncomputable def g2b_X5_heading (s : XS) (r_4 : Int) : XR := if r_4 = 0 then g3_X5_heading s else g4_X5_heading s
noncomputable def g1c_X5_heading (s : XS) (r_4 : Int) : XR := g2b_X5_heading s r_4
noncomputable def f_X5_heading (s : XS) : XR := g1c_X5_heading ((f_X5_isWord s 5).1) (((f_X5_isWord s 5).2))
set_option maxHeartbeats 4000000 in
set_option maxRecDepth 100000 in
theorem c_X5_heading (l : Launch) (G : GG) (Z : RZ) (ad : Nat → Nat) (ws0 : va_W) (hT : Ty G SC ad ws0) : Mq l yX5_heading cX5_heading 2 (some .int) 6 G Z [.ref (ad 77)] ws0 (PI G SC ad [16] ws0 (fun r u => (xso SC ad u = (f_X5_heading (xso SC ad ws0)).1) ∧ (r.toInt = (f_X5_heading (xso SC ad ws0)).2) ∧ (0 ≤ r.toInt) ∧ (r.toInt ≤ 3))) := by
  refine Mq.start (by decide) (Nat.le_of_ble_eq_true rfl) ?_
  intro p e s m below meth c A ls C0 hZ h hl
  have hl : lv_has ls 2 [(0, .ref (ad 77))] := hl
  have h : Wt G SC ad A s s.heap [] ws0 := ⟨h, hT⟩
  obtain ⟨args, hargs⟩ : ∃ z, z = ([.ref (ad 77)] : List Value).toArray := ⟨_, rfl⟩
  rw [← hargs] at C0 ⊢
  have C0 : Cx p s m args meth c RX5 cX5_heading 2 (some .int) := C0
  obtain ⟨Q, hQ⟩ : ∃ z, z = MQ below ((PI G SC ad [16] ws0 (fun r u => (xso SC ad u = (f_X5_heading (xso SC ad ws0)).1) ∧ (r.toInt = (f_X5_heading (xso SC ad ws0)).2) ∧ (0 ≤ r.toInt) ∧ (r.toInt ≤ 3))) A) args s 0 0 A := ⟨_, rfl⟩
  rw [← hQ]
  obtain ⟨FT, hFT⟩ : ∃ z, z = f_X5_heading (xso SC ad ws0) := ⟨_, rfl⟩
  have HE : FT = f_X5_heading (xso SC ad ws0) := hFT
  refine lv_aload_n C0.1 C0.2.1 dX5_heading_0 rfl (lv_at hl 0 rfl) ?_
  refine va_ldcS C0.1 C0.2.1 C0.2.2.2.1 (sr_5 hZ) dX5_heading_1 ?_
  refine y_ci h (y_rV (As := [.ref (Z.2.1 5)]) (rest := []) C0 hZ h (c_X5_isWord l G Z ad _ h.2 5 (by decide)) k_X5_isWord q_724 q_5 q_722 kSC_77 rfl rfl rfl hl.1 rfl rfl (Nat.le_of_ble_eq_true rfl) dX5_heading_3 ⟨Nat.le_of_ble_eq_true rfl, Nat.le_of_ble_eq_true rfl⟩ ⟨Nat.le_of_ble_eq_true rfl, Nat.le_of_ble_eq_true rfl⟩) (fun r_4 H locs ws_1 h u_2 p_3 => ?_)
  obtain ⟨e_5, e_6, e_7, e_8⟩ := p_3
  replace HE : FT = g1c_X5_heading (xso SC ad ws_1) r_4.toInt := HE.trans (by rw [e_5, e_6]; rfl)
  replace HE : FT = g2b_X5_heading (xso SC ad ws_1) r_4.toInt := HE.trans rfl
  refine y_if_eq (tgt := 13) C0 dX5_heading_6 (by decide) (fun c_9 => ?_) (fun c_9 => ?_)
  · -- 6
    replace HE : FT = g3_X5_heading (xso SC ad ws_1) := HE.trans (if_pos c_9)
    refine lv_aload_n C0.1 C0.2.1 dX5_heading_13 rfl (lv_at hl 0 rfl) ?_
    refine va_ldcS C0.1 C0.2.1 C0.2.2.2.1 (sr_6 hZ) dX5_heading_14 ?_
    refine y_ci h (y_rV (As := [.ref (Z.2.1 6)]) (rest := []) C0 hZ h (c_X5_isWord l G Z ad _ h.2 6 (by decide)) k_X5_isWord q_724 q_5 q_722 kSC_77 rfl rfl rfl hl.1 rfl rfl (Nat.le_of_ble_eq_true rfl) dX5_heading_16 ⟨Nat.le_of_ble_eq_true rfl, Nat.le_of_ble_eq_true rfl⟩ ⟨Nat.le_of_ble_eq_true rfl, Nat.le_of_ble_eq_true rfl⟩) (fun r_13 H locs ws_10 h u_11 p_12 => ?_)
    obtain ⟨e_14, e_15, e_16, e_17⟩ := p_12
    replace HE : FT = g5c_X5_heading (xso SC ad ws_10) r_13.toInt := HE.trans (by rw [e_14, e_15]; rfl)
    replace HE : FT = g6b_X5_heading (xso SC ad ws_10) r_13.toInt := HE.trans rfl
    refine y_if_eq (tgt := 26) C0 dX5_heading_19 (by decide) (fun c_18 => ?_) (fun c_18 => ?_)
    · -- 19
      replace HE : FT = g7_X5_heading (xso SC ad ws_10) := HE.trans (if_pos c_18)
      refine lv_aload_n C0.1 C0.2.1 dX5_heading_26 rfl (lv_at hl 0 rfl) ?_
      refine va_ldcS C0.1 C0.2.1 C0.2.2.2.1 (sr_7 hZ) dX5_heading_27 ?_
      refine y_ci h (y_rV (As := [.ref (Z.2.1 7)]) (rest := []) C0 hZ h (c_X5_isWord l G Z ad _ h.2 7 (by decide)) k_X5_isWord q_724 q_5 q_722 kSC_77 rfl rfl rfl hl.1 rfl rfl (Nat.le_of_ble_eq_true rfl) dX5_heading_29 ⟨Nat.le_of_ble_eq_true rfl, Nat.le_of_ble_eq_true rfl⟩ ⟨Nat.le_of_ble_eq_true rfl, Nat.le_of_ble_eq_true rfl⟩) (fun r_22 H locs ws_19 h u_20 p_21 => ?_)
      obtain ⟨e_23, e_24, e_25, e_26⟩ := p_21
      replace HE : FT = g9c_X5_heading (xso SC ad ws_19) r_22.toInt := HE.trans (by rw [e_23, e_24]; rfl)
      replace HE : FT = g10b_X5_heading (xso SC ad ws_19) r_22.toInt := HE.trans rfl
      refine y_if_eq (tgt := 39) C0 dX5_heading_32 (by decide) (fun c_27 => ?_) (fun c_27 => ?_)
      · -- 32
        replace HE : FT = g11_X5_heading (xso SC ad ws_19) := HE.trans (if_pos c_27)
        refine lv_aload_n C0.1 C0.2.1 dX5_heading_39 rfl (lv_at hl 0 rfl) ?_
        refine va_ldcS C0.1 C0.2.1 C0.2.2.2.1 (sr_8 hZ) dX5_heading_40 ?_
        refine y_ci h (y_rV (As := [.ref (Z.2.1 8)]) (rest := []) C0 hZ h (c_X5_isWord l G Z ad _ h.2 8 (by decide)) k_X5_isWord q_724 q_5 q_722 kSC_77 rfl rfl rfl hl.1 rfl rfl (Nat.le_of_ble_eq_true rfl) dX5_heading_42 ⟨Nat.le_of_ble_eq_true rfl, Nat.le_of_ble_eq_true rfl⟩ ⟨Nat.le_of_ble_eq_true rfl, Nat.le_of_ble_eq_true rfl⟩) (fun r_31 H locs ws_28 h u_29 p_30 => ?_)
        obtain ⟨e_32, e_33, e_34, e_35⟩ := p_30
        replace HE : FT = g13c_X5_heading (xso SC ad ws_28) r_31.toInt := HE.trans (by rw [e_32, e_33]; rfl)
        replace HE : FT = g14b_X5_heading (xso SC ad ws_28) r_31.toInt := HE.trans rfl
        refine y_if_eq (tgt := 52) C0 dX5_heading_45 (by decide) (fun c_36 => ?_) (fun c_36 => ?_)
        · -- 45
          replace HE : FT = g15_X5_heading (xso SC ad ws_28) := HE.trans (if_pos c_36)
          refine y_c1 (n := (-1)) C0 (by decide) dX5_heading_52 (fun v_37 e_38 => ?_)
          refine lv_istore_n (lv' := [(1, .int v_37), (0, .ref (ad 77))]) C0.1 C0.2.1 dX5_heading_53 rfl hl (by decide) rfl (fun ls hl => ?_)
          refine lv_iload_n C0.1 C0.2.1 dX5_heading_54 rfl (lv_at hl 0 rfl) ?_
          refine y_if_ge (tgt := 65) C0 dX5_heading_55 (by decide) (fun c_39 => ((o23_32 e_38 c_39)).elim) (fun c_39 => ?_)
          refine lv_aload_n C0.1 C0.2.1 dX5_heading_58 rfl (lv_at hl 1 rfl) ?_
          refine y_c1 (n := 2) C0 (by decide) dX5_heading_59 (fun v_40 e_41 => ?_)
          refine y_cv h (y_rV (As := [.int v_40]) (rest := []) C0 hZ h (c_X5_fail l G Z ad _ h.2 v_40) k_X5_fail q_628 q_3 q_626 kSC_77 rfl rfl rfl hl.1 rfl rfl (Nat.le_of_ble_eq_true rfl) dX5_heading_60 ⟨Nat.le_of_ble_eq_true rfl, Nat.le_of_ble_eq_true rfl⟩ ⟨Nat.le_of_ble_eq_true rfl, Nat.le_of_ble_eq_true rfl⟩) (fun H locs ws_42 h u_43 p_44 => ?_)
          have e_45 := p_44
          replace HE : FT = g17c_X5_heading (xso SC ad ws_42) := HE.trans (by rw [e_45, e_41]; rfl)
          refine y_c1 (n := 0) C0 (by decide) dX5_heading_63 (fun v_46 e_47 => ?_)
          replace HE : FT = ((xso SC ad ws_42), v_46.toInt) := HE.trans (by rw [e_47]; rfl)
          rw [hQ]
          exact y_iret C0 h (Fr.tr (Fr.tr (Fr.tr (Fr.tr (Fr.mono u_2 (by decide)) (Fr.mono u_11 (by decide))) (Fr.mono u_20 (by decide))) (Fr.mono u_29 (by decide))) u_43) ⟨(congrArg Prod.fst (HE.symm.trans hFT)), (congrArg Prod.snd (HE.symm.trans hFT)), (o23_9 e_47), (o23_33 e_47)⟩ dX5_heading_64
        · -- 45
          replace HE : FT = g16_X5_heading (xso SC ad ws_28) := HE.trans (if_neg c_36)
          refine y_c1 (n := 3) C0 (by decide) dX5_heading_48 (fun v_48 e_49 => ?_)
          refine lv_goto (tgt := 53) C0.1 C0.2.1 dX5_heading_49 (by decide) ?_
          refine lv_istore_n (lv' := [(1, .int v_48), (0, .ref (ad 77))]) C0.1 C0.2.1 dX5_heading_53 rfl hl (by decide) rfl (fun ls hl => ?_)
          refine lv_iload_n C0.1 C0.2.1 dX5_heading_54 rfl (lv_at hl 0 rfl) ?_
          refine y_if_ge (tgt := 65) C0 dX5_heading_55 (by decide) (fun c_50 => ?_) (fun c_50 => ((o23_34 e_49 c_50)).elim)
          refine lv_aload_n C0.1 C0.2.1 dX5_heading_65 rfl (lv_at hl 1 rfl) ?_
          refine y_cv h (y_rV (As := []) (rest := []) C0 hZ h (c_X5_advance l G Z ad _ h.2) k_X5_advance q_616 q_0 q_614 kSC_77 rfl rfl rfl hl.1 rfl rfl (Nat.le_of_ble_eq_true rfl) dX5_heading_66 ⟨Nat.le_of_ble_eq_true rfl, Nat.le_of_ble_eq_true rfl⟩ ⟨Nat.le_of_ble_eq_true rfl, Nat.le_of_ble_eq_true rfl⟩) (fun H locs ws_51 h u_52 p_53 => ?_)
          have e_54 := p_53
          replace HE : FT = g18c_X5_heading (xso SC ad ws_51) := HE.trans (by rw [e_54]; rfl)
          refine lv_iload_n C0.1 C0.2.1 dX5_heading_69 rfl (lv_at hl 0 rfl) ?_
          replace HE : FT = ((xso SC ad ws_51), v_48.toInt) := HE.trans (by rw [(o23_35 e_49 c_50)]; rfl)
          rw [hQ]
          exact y_iret C0 h (Fr.tr (Fr.tr (Fr.tr (Fr.tr (Fr.mono u_2 (by decide)) (Fr.mono u_11 (by decide))) (Fr.mono u_20 (by decide))) (Fr.mono u_29 (by decide))) u_52) ⟨(congrArg Prod.fst (HE.symm.trans hFT)), (congrArg Prod.snd (HE.symm.trans hFT)), (o23_36 e_49 c_50), (o23_37 e_49 c_50)⟩ dX5_heading_70
      · -- 32
        replace HE : FT = g12_X5_heading (xso SC ad ws_19) := HE.trans (if_neg c_27)
        refine y_c1 (n := 2) C0 (by decide) dX5_heading_35 (fun v_55 e_56 => ?_)
        refine lv_goto (tgt := 53) C0.1 C0.2.1 dX5_heading_36 (by decide) ?_
        refine lv_istore_n (lv' := [(1, .int v_55), (0, .ref (ad 77))]) C0.1 C0.2.1 dX5_heading_53 rfl hl (by decide) rfl (fun ls hl => ?_)
        refine lv_iload_n C0.1 C0.2.1 dX5_heading_54 rfl (lv_at hl 0 rfl) ?_
        refine y_if_ge (tgt := 65) C0 dX5_heading_55 (by decide) (fun c_57 => ?_) (fun c_57 => ((o23_38 e_56 c_57)).elim)
        refine lv_aload_n C0.1 C0.2.1 dX5_heading_65 rfl (lv_at hl 1 rfl) ?_
        refine y_cv h (y_rV (As := []) (rest := []) C0 hZ h (c_X5_advance l G Z ad _ h.2) k_X5_advance q_616 q_0 q_614 kSC_77 rfl rfl rfl hl.1 rfl rfl (Nat.le_of_ble_eq_true rfl) dX5_heading_66 ⟨Nat.le_of_ble_eq_true rfl, Nat.le_of_ble_eq_true rfl⟩ ⟨Nat.le_of_ble_eq_true rfl, Nat.le_of_ble_eq_true rfl⟩) (fun H locs ws_58 h u_59 p_60 => ?_)
        have e_61 := p_60
        replace HE : FT = g19c_X5_heading (xso SC ad ws_58) := HE.trans (by rw [e_61]; rfl)
        refine lv_iload_n C0.1 C0.2.1 dX5_heading_69 rfl (lv_at hl 0 rfl) ?_
        replace HE : FT = ((xso SC ad ws_58), v_55.toInt) := HE.trans (by rw [(o23_39 e_56 c_57)]; rfl)
        rw [hQ]
        exact y_iret C0 h (Fr.tr (Fr.tr (Fr.tr (Fr.mono u_2 (by decide)) (Fr.mono u_11 (by decide))) (Fr.mono u_20 (by decide))) u_59) ⟨(congrArg Prod.fst (HE.symm.trans hFT)), (congrArg Prod.snd (HE.symm.trans hFT)), (o23_40 e_56 c_57), (o23_41 e_56 c_57)⟩ dX5_heading_70
    · -- 19
      replace HE : FT = g8_X5_heading (xso SC ad ws_10) := HE.trans (if_neg c_18)
      refine y_c1 (n := 1) C0 (by decide) dX5_heading_22 (fun v_62 e_63 => ?_)
      refine lv_goto (tgt := 53) C0.1 C0.2.1 dX5_heading_23 (by decide) ?_
      refine lv_istore_n (lv' := [(1, .int v_62), (0, .ref (ad 77))]) C0.1 C0.2.1 dX5_heading_53 rfl hl (by decide) rfl (fun ls hl => ?_)
      refine lv_iload_n C0.1 C0.2.1 dX5_heading_54 rfl (lv_at hl 0 rfl) ?_
      refine y_if_ge (tgt := 65) C0 dX5_heading_55 (by decide) (fun c_64 => ?_) (fun c_64 => ((o23_42 e_63 c_64)).elim)
      refine lv_aload_n C0.1 C0.2.1 dX5_heading_65 rfl (lv_at hl 1 rfl) ?_
      refine y_cv h (y_rV (As := []) (rest := []) C0 hZ h (c_X5_advance l G Z ad _ h.2) k_X5_advance q_616 q_0 q_614 kSC_77 rfl rfl rfl hl.1 rfl rfl (Nat.le_of_ble_eq_true rfl) dX5_heading_66 ⟨Nat.le_of_ble_eq_true rfl, Nat.le_of_ble_eq_true rfl⟩ ⟨Nat.le_of_ble_eq_true rfl, Nat.le_of_ble_eq_true rfl⟩) (fun H locs ws_65 h u_66 p_67 => ?_)
      have e_68 := p_67
      replace HE : FT = g20c_X5_heading (xso SC ad ws_65) := HE.trans (by rw [e_68]; rfl)
      refine lv_iload_n C0.1 C0.2.1 dX5_heading_69 rfl (lv_at hl 0 rfl) ?_
      replace HE : FT = ((xso SC ad ws_65), v_62.toInt) := HE.trans (by rw [(o23_43 e_63 c_64)]; rfl)
      rw [hQ]
      exact y_iret C0 h (Fr.tr (Fr.tr (Fr.mono u_2 (by decide)) (Fr.mono u_11 (by decide))) u_66) ⟨(congrArg Prod.fst (HE.symm.trans hFT)), (congrArg Prod.snd (HE.symm.trans hFT)), (o23_44 e_63 c_64), (o23_45 e_63 c_64)⟩ dX5_heading_70
  · -- 6
    replace HE : FT = g4_X5_heading (xso SC ad ws_1) := HE.trans (if_neg c_9)
    refine y_c1 (n := 0) C0 (by decide) dX5_heading_9 (fun v_69 e_70 => ?_)
    refine lv_goto (tgt := 53) C0.1 C0.2.1 dX5_heading_10 (by decide) ?_
    refine lv_istore_n (lv' := [(1, .int v_69), (0, .ref (ad 77))]) C0.1 C0.2.1 dX5_heading_53 rfl hl (by decide) rfl (fun ls hl => ?_)
    refine lv_iload_n C0.1 C0.2.1 dX5_heading_54 rfl (lv_at hl 0 rfl) ?_
    refine y_if_ge (tgt := 65) C0 dX5_heading_55 (by decide) (fun c_71 => ?_) (fun c_71 => ((o23_46 e_70 c_71)).elim)
    refine lv_aload_n C0.1 C0.2.1 dX5_heading_65 rfl (lv_at hl 1 rfl) ?_
    refine y_cv h (y_rV (As := []) (rest := []) C0 hZ h (c_X5_advance l G Z ad _ h.2) k_X5_advance q_616 q_0 q_614 kSC_77 rfl rfl rfl hl.1 rfl rfl (Nat.le_of_ble_eq_true rfl) dX5_heading_66 ⟨Nat.le_of_ble_eq_true rfl, Nat.le_of_ble_eq_true rfl⟩ ⟨Nat.le_of_ble_eq_true rfl, Nat.le_of_ble_eq_true rfl⟩) (fun H locs ws_72 h u_73 p_74 => ?_)
    have e_75 := p_74
    replace HE : FT = g21c_X5_heading (xso SC ad ws_72) := HE.trans (by rw [e_75]; rfl)
    refine lv_iload_n C0.1 C0.2.1 dX5_heading_69 rfl (lv_at hl 0 rfl) ?_
    replace HE : FT = ((xso SC ad ws_72), v_69.toInt) := HE.trans (by rw [(o23_47 e_70 c_71)]; rfl)
    rw [hQ]
    exact y_iret C0 h (Fr.tr (Fr.mono u_2 (by decide)) u_73) ⟨(congrArg Prod.fst (HE.symm.trans hFT)), (congrArg Prod.snd (HE.symm.trans hFT)), (o23_48 e_70 c_71), (o23_49 e_70 c_71)⟩ dX5_heading_70
noncomputable def g14c_X5_personLine (s : XS) : XR := (s, 0)
noncomputable def g12_X5_personLine (s : XS) (r_9 : Int) (r_17 : Int) : XR := g14c_X5_personLine ((f_X1_settle s 29 r_9 r_17 0 0).1)
noncomputable def g17c_X5_personLine (s : XS) : XR := (s, 0)
noncomputable def g16c_X5_personLine (s : XS) (r_59 : Int) (r_9 : Int) (r_17 : Int) : XR := g17c_X5_personLine ((f_X1_settle s 29 r_9 r_17 0 r_59).1)
noncomputable def g15c_X5_personLine (s : XS) (r_9 : Int) (r_17 : Int) : XR := g16c_X5_personLine ((f_X5_boundede s 0 999).1) (((f_X5_boundede s 0 999).2)) r_9 r_17
noncomputable def g13_X5_personLine (s : XS) (r_9 : Int) (r_17 : Int) : XR := g15c_X5_personLine ((f_X5_advance s).1) r_9 r_17
noncomputable def g11b_X5_personLine (s : XS) (r_38 : Int) (r_9 : Int) (r_17 : Int) : XR := if r_38 = 0 then g12_X5_personLine s r_9 r_17 else g13_X5_personLine s r_9 r_17
noncomputable def g10c_X5_personLine (s : XS) (r_38 : Int) (r_9 : Int) (r_17 : Int) : XR := g11b_X5_personLine s r_38 r_9 r_17
noncomputable def g8_X5_personLine (s : XS) (r_9 : Int) (r_17 : Int) : XR := g10c_X5_personLine ((f_X5_isWord s 10).1) (((f_X5_isWord s 10).2)) r_9 r_17
noncomputable def g24c_X5_personLine (s : XS) : XR := (s, 0)
noncomputable def g22_X5_personLine (s : XS) (r_9 : Int) (r_17 : Int) (r_79 : Int) : XR := g24c_X5_personLine ((f_X1_settle s 29 r_9 r_17 r_79 0).1)
noncomputable def g27c_X5_personLine (s : XS) : XR := (s, 0)
noncomputable def g26c_X5_personLine (s : XS) (r_108 : Int) (r_9 : Int) (r_17 : Int) (r_79 : Int) : XR := g27c_X5_personLine ((f_X1_settle s 29 r_9 r_17 r_79 r_108).1)
noncomputable def g25c_X5_personLine (s : XS) (r_9 : Int) (r_17 : Int) (r_79 : Int) : XR := g26c_X5_personLine ((f_X5_boundede s 0 999).1) (((f_X5_boundede s 0 999).2)) r_9 r_17 r_79
noncomputable def g23_X5_personLine (s : XS) (r_9 : Int) (r_17 : Int) (r_79 : Int) : XR := g25c_X5_personLine ((f_X5_advance s).1) r_9 r_17 r_79
noncomputable def g21b_X5_personLine (s : XS) (r_87 : Int) (r_9 : Int) (r_17 : Int) (r_79 : Int) : XR := if r_87 = 0 then g22_X5_personLine s r_9 r_17 r_79 else g23_X5_personLine s r_9 r_17 r_79
noncomputable def g20c_X5_personLine (s : XS) (r_87 : Int) (r_9 : Int) (r_17 : Int) (r_79 : Int) : XR := g21b_X5_personLine s r_87 r_9 r_17 r_79
noncomputable def g19c_X5_personLine (s : XS) (r_79 : Int) (r_9 : Int) (r_17 : Int) : XR := g20c_X5_personLine ((f_X5_isWord s 10).1) (((f_X5_isWord s 10).2)) r_9 r_17 r_79
noncomputable def g18c_X5_personLine (s : XS) (r_9 : Int) (r_17 : Int) : XR := g19c_X5_personLine ((f_X5_boundedd s 0 99).1) (((f_X5_boundedd s 0 99).2)) r_9 r_17
noncomputable def g9_X5_personLine (s : XS) (r_9 : Int) (r_17 : Int) : XR := g18c_X5_personLine ((f_X5_advance s).1) r_9 r_17
noncomputable def g7b_X5_personLine (s : XS) (r_29 : Int) (r_9 : Int) (r_17 : Int) : XR := if r_29 = 0 then g8_X5_personLine s r_9 r_17 else g9_X5_personLine s r_9 r_17
noncomputable def g6c_X5_personLine (s : XS) (r_29 : Int) (r_9 : Int) (r_17 : Int) : XR := g7b_X5_personLine s r_29 r_9 r_17
noncomputable def g5c_X5_personLine (s : XS) (r_17 : Int) (r_9 : Int) : XR := g6c_X5_personLine ((f_X5_isWord s 9).1) (((f_X5_isWord s 9).2)) r_9 r_17
noncomputable def g4c_X5_personLine (s : XS) (r_9 : Int) : XR := g5c_X5_personLine ((f_X5_heading s).1) (((f_X5_heading s).2)) r_9
noncomputable def g2_X5_personLine (s : XS) : XR := g4c_X5_personLine ((f_X5_crossingTold s).1) (((f_X5_crossingTold s).2))
noncomputable def g41c_X5_personLine (s : XS) : XR := (s, 0)
noncomputable def g39_X5_personLine (s : XS) (r_127 : Int) (r_135 : Int) : XR := g41c_X5_personLine ((f_X1_settle s 29 r_127 r_135 0 0).1)
noncomputable def g44c_X5_personLine (s : XS) : XR := (s, 0)
noncomputable def g43c_X5_personLine (s : XS) (r_177 : Int) (r_127 : Int) (r_135 : Int) : XR := g44c_X5_personLine ((f_X1_settle s 29 r_127 r_135 0 r_177).1)
noncomputable def g42c_X5_personLine (s : XS) (r_127 : Int) (r_135 : Int) : XR := g43c_X5_personLine ((f_X5_boundede s 0 999).1) (((f_X5_boundede s 0 999).2)) r_127 r_135
noncomputable def g40_X5_personLine (s : XS) (r_127 : Int) (r_135 : Int) : XR := g42c_X5_personLine ((f_X5_advance s).1) r_127 r_135
noncomputable def g38b_X5_personLine (s : XS) (r_156 : Int) (r_127 : Int) (r_135 : Int) : XR := if r_156 = 0 then g39_X5_personLine s r_127 r_135 else g40_X5_personLine s r_127 r_135
noncomputable def g37c_X5_personLine (s : XS) (r_156 : Int) (r_127 : Int) (r_135 : Int) : XR := g38b_X5_personLine s r_156 r_127 r_135
noncomputable def g35_X5_personLine (s : XS) (r_127 : Int) (r_135 : Int) : XR := g37c_X5_personLine ((f_X5_isWord s 10).1) (((f_X5_isWord s 10).2)) r_127 r_135
noncomputable def g51c_X5_personLine (s : XS) : XR := (s, 0)
noncomputable def g49_X5_personLine (s : XS) (r_127 : Int) (r_135 : Int) (r_197 : Int) : XR := g51c_X5_personLine ((f_X1_settle s 29 r_127 r_135 r_197 0).1)
noncomputable def g54c_X5_personLine (s : XS) : XR := (s, 0)
noncomputable def g53c_X5_personLine (s : XS) (r_226 : Int) (r_127 : Int) (r_135 : Int) (r_197 : Int) : XR := g54c_X5_personLine ((f_X1_settle s 29 r_127 r_135 r_197 r_226).1)
noncomputable def g52c_X5_personLine (s : XS) (r_127 : Int) (r_135 : Int) (r_197 : Int) : XR := g53c_X5_personLine ((f_X5_boundede s 0 999).1) (((f_X5_boundede s 0 999).2)) r_127 r_135 r_197
noncomputable def g50_X5_personLine (s : XS) (r_127 : Int) (r_135 : Int) (r_197 : Int) : XR := g52c_X5_personLine ((f_X5_advance s).1) r_127 r_135 r_197
noncomputable def g48b_X5_personLine (s : XS) (r_205 : Int) (r_127 : Int) (r_135 : Int) (r_197 : Int) : XR := if r_205 = 0 then g49_X5_personLine s r_127 r_135 r_197 else g50_X5_personLine s r_127 r_135 r_197
noncomputable def g47c_X5_personLine (s : XS) (r_205 : Int) (r_127 : Int) (r_135 : Int) (r_197 : Int) : XR := g48b_X5_personLine s r_205 r_127 r_135 r_197
noncomputable def g46c_X5_personLine (s : XS) (r_197 : Int) (r_127 : Int) (r_135 : Int) : XR := g47c_X5_personLine ((f_X5_isWord s 10).1) (((f_X5_isWord s 10).2)) r_127 r_135 r_197
noncomputable def g45c_X5_personLine (s : XS) (r_127 : Int) (r_135 : Int) : XR := g46c_X5_personLine ((f_X5_boundedd s 0 99).1) (((f_X5_boundedd s 0 99).2)) r_127 r_135
noncomputable def g36_X5_personLine (s : XS) (r_127 : Int) (r_135 : Int) : XR := g45c_X5_personLine ((f_X5_advance s).1) r_127 r_135
noncomputable def g34b_X5_personLine (s : XS) (r_147 : Int) (r_127 : Int) (r_135 : Int) : XR := if r_147 = 0 then g35_X5_personLine s r_127 r_135 else g36_X5_personLine s r_127 r_135
noncomputable def g33c_X5_personLine (s : XS) (r_147 : Int) (r_127 : Int) (r_135 : Int) : XR := g34b_X5_personLine s r_147 r_127 r_135
noncomputable def g32c_X5_personLine (s : XS) (r_135 : Int) (r_127 : Int) : XR := g33c_X5_personLine ((f_X5_isWord s 9).1) (((f_X5_isWord s 9).2)) r_127 r_135
noncomputable def g31c_X5_personLine (s : XS) (r_127 : Int) : XR := g32c_X5_personLine ((f_X5_heading s).1) (((f_X5_heading s).2)) r_127
noncomputable def g29_X5_personLine (s : XS) : XR := g31c_X5_personLine ((f_X5_crossingTold s).1) (((f_X5_crossingTold s).2))
noncomputable def g55c_X5_personLine (s : XS) : XR := (s, 0)
noncomputable def g30_X5_personLine (s : XS) : XR := g55c_X5_personLine ((f_X5_fail s 4).1)
noncomputable def g28b_X5_personLine (s : XS) (v_117 : Int) : XR := if v_117 < 5 then g29_X5_personLine s else g30_X5_personLine s
noncomputable def g3_X5_personLine (s : XS) : XR := g28b_X5_personLine s ((s 0 29 7))
noncomputable def g1b_X5_personLine (s : XS) (v_1 : Int) : XR := if 0 < v_1 then g3_X5_personLine s else g2_X5_personLine s
noncomputable def f_X5_personLine (s : XS) : XR := g1b_X5_personLine s ((s 0 20 5))
set_option maxHeartbeats 4000000 in
set_option maxRecDepth 100000 in
theorem c_X5_personLine (l : Launch) (G : GG) (Z : RZ) (ad : Nat → Nat) (ws0 : va_W) (hT : Ty G SC ad ws0) : Mq l yX5_personLine cX5_personLine 5 none 8 G Z [.ref (ad 77)] ws0 (PV G SC ad [6, 7, 8, 9, 10, 16] ws0 (fun u => (xso SC ad u = (f_X5_personLine (xso SC ad ws0)).1))) := by
  refine Mq.start (by decide) (Nat.le_of_ble_eq_true rfl) ?_
  intro p e s m below meth c A ls C0 hZ h hl
  have hl : lv_has ls 5 [(0, .ref (ad 77))] := hl
  have h : Wt G SC ad A s s.heap [] ws0 := ⟨h, hT⟩
  obtain ⟨args, hargs⟩ : ∃ z, z = ([.ref (ad 77)] : List Value).toArray := ⟨_, rfl⟩
  rw [← hargs] at C0 ⊢
  have C0 : Cx p s m args meth c RX5 cX5_personLine 5 none := C0
  obtain ⟨Q, hQ⟩ : ∃ z, z = MQ below ((PV G SC ad [6, 7, 8, 9, 10, 16] ws0 (fun u => (xso SC ad u = (f_X5_personLine (xso SC ad ws0)).1))) A) args s 0 0 A := ⟨_, rfl⟩
  rw [← hQ]
  obtain ⟨FT, hFT⟩ : ∃ z, z = f_X5_personLine (xso SC ad ws0) := ⟨_, rfl⟩
  have HE : FT = f_X5_personLine (xso SC ad ws0) := hFT
  refine lv_aload_n C0.1 C0.2.1 dX5_personLine_0 rfl (lv_at hl 0 rfl) ?_
  refine tg_X5_city C0 h kSC_77 q_370 dX5_personLine_1 ?_
  refine tg_X0_wide C0 h kSC_20 q_258 dX5_personLine_4 (fun v_1 e_2 e_3 e_4 => ?_)
  replace HE : FT = g1b_X5_personLine (xso SC ad ws0) v_1.toInt := HE.trans (by rw [(xg0 e_2 : v_1.toInt = (xso SC ad ws0) 0 20 5)]; rfl)
  refine y_if_le (tgt := 30) C0 dX5_personLine_7 (by decide) (fun c_5 => ?_) (fun c_5 => ?_)
  · -- 7
    replace HE : FT = g2_X5_personLine (xso SC ad ws0) := HE.trans (if_neg (Int.not_lt.mpr c_5))
    refine lv_aload_n C0.1 C0.2.1 dX5_personLine_30 rfl (lv_at hl 0 rfl) ?_
    refine y_ci h (y_rV (As := []) (rest := []) C0 hZ h (c_X5_crossingTold l G Z ad _ h.2) k_X5_crossingTold q_766 q_9 q_764 kSC_77 rfl rfl rfl hl.1 rfl rfl (Nat.le_of_ble_eq_true rfl) dX5_personLine_31 ⟨Nat.le_of_ble_eq_true rfl, Nat.le_of_ble_eq_true rfl⟩ ⟨Nat.le_of_ble_eq_true rfl, Nat.le_of_ble_eq_true rfl⟩) (fun r_9 H locs ws_6 h u_7 p_8 => ?_)
    obtain ⟨e_10, e_11, e_12, e_13⟩ := p_8
    replace HE : FT = g4c_X5_personLine (xso SC ad ws_6) r_9.toInt := HE.trans (by rw [e_10, e_11]; rfl)
    refine lv_istore_n (lv' := [(1, .int r_9), (0, .ref (ad 77))]) C0.1 C0.2.1 dX5_personLine_34 rfl hl (by decide) rfl (fun ls hl => ?_)
    refine lv_aload_n C0.1 C0.2.1 dX5_personLine_35 rfl (lv_at hl 1 rfl) ?_
    refine y_ci h (y_rV (As := []) (rest := []) C0 hZ h (c_X5_heading l G Z ad _ h.2) k_X5_heading q_792 q_12 q_790 kSC_77 rfl rfl rfl hl.1 rfl rfl (Nat.le_of_ble_eq_true rfl) dX5_personLine_36 ⟨Nat.le_of_ble_eq_true rfl, Nat.le_of_ble_eq_true rfl⟩ ⟨Nat.le_of_ble_eq_true rfl, Nat.le_of_ble_eq_true rfl⟩) (fun r_17 H locs ws_14 h u_15 p_16 => ?_)
    obtain ⟨e_18, e_19, e_20, e_21⟩ := p_16
    replace HE : FT = g5c_X5_personLine (xso SC ad ws_14) r_17.toInt r_9.toInt := HE.trans (by rw [e_18, e_19]; rfl)
    refine lv_istore_n (lv' := [(2, .int r_17), (1, .int r_9), (0, .ref (ad 77))]) C0.1 C0.2.1 dX5_personLine_39 rfl hl (by decide) rfl (fun ls hl => ?_)
    refine y_c1 (n := 0) C0 (by decide) dX5_personLine_40 (fun v_22 e_23 => ?_)
    refine lv_istore_n (lv' := [(3, .int v_22), (2, .int r_17), (1, .int r_9), (0, .ref (ad 77))]) C0.1 C0.2.1 dX5_personLine_41 rfl hl (by decide) rfl (fun ls hl => ?_)
    refine y_c1 (n := 0) C0 (by decide) dX5_personLine_42 (fun v_24 e_25 => ?_)
    refine lv_istore (lv' := [(4, .int v_24), (3, .int v_22), (2, .int r_17), (1, .int r_9), (0, .ref (ad 77))]) C0.1 C0.2.1 dX5_personLine_43 hl (by decide) rfl (fun ls hl => ?_)
    refine lv_aload_n C0.1 C0.2.1 dX5_personLine_45 rfl (lv_at hl 4 rfl) ?_
    refine va_ldcS C0.1 C0.2.1 C0.2.2.2.1 (sr_9 hZ) dX5_personLine_46 ?_
    refine y_ci h (y_rV (As := [.ref (Z.2.1 9)]) (rest := []) C0 hZ h (c_X5_isWord l G Z ad _ h.2 9 (by decide)) k_X5_isWord q_724 q_5 q_722 kSC_77 rfl rfl rfl hl.1 rfl rfl (Nat.le_of_ble_eq_true rfl) dX5_personLine_48 ⟨Nat.le_of_ble_eq_true rfl, Nat.le_of_ble_eq_true rfl⟩ ⟨Nat.le_of_ble_eq_true rfl, Nat.le_of_ble_eq_true rfl⟩) (fun r_29 H locs ws_26 h u_27 p_28 => ?_)
    obtain ⟨e_30, e_31, e_32, e_33⟩ := p_28
    replace HE : FT = g6c_X5_personLine (xso SC ad ws_26) r_29.toInt r_9.toInt r_17.toInt := HE.trans (by rw [e_30, e_31]; rfl)
    replace HE : FT = g7b_X5_personLine (xso SC ad ws_26) r_29.toInt r_9.toInt r_17.toInt := HE.trans rfl
    refine y_if_eq (tgt := 66) C0 dX5_personLine_51 (by decide) (fun c_34 => ?_) (fun c_34 => ?_)
    · -- 51
      replace HE : FT = g8_X5_personLine (xso SC ad ws_26) r_9.toInt r_17.toInt := HE.trans (if_pos c_34)
      refine lv_aload_n C0.1 C0.2.1 dX5_personLine_66 rfl (lv_at hl 4 rfl) ?_
      refine va_ldcS C0.1 C0.2.1 C0.2.2.2.1 (sr_10 hZ) dX5_personLine_67 ?_
      refine y_ci h (y_rV (As := [.ref (Z.2.1 10)]) (rest := []) C0 hZ h (c_X5_isWord l G Z ad _ h.2 10 (by decide)) k_X5_isWord q_724 q_5 q_722 kSC_77 rfl rfl rfl hl.1 rfl rfl (Nat.le_of_ble_eq_true rfl) dX5_personLine_69 ⟨Nat.le_of_ble_eq_true rfl, Nat.le_of_ble_eq_true rfl⟩ ⟨Nat.le_of_ble_eq_true rfl, Nat.le_of_ble_eq_true rfl⟩) (fun r_38 H locs ws_35 h u_36 p_37 => ?_)
      obtain ⟨e_39, e_40, e_41, e_42⟩ := p_37
      replace HE : FT = g10c_X5_personLine (xso SC ad ws_35) r_38.toInt r_9.toInt r_17.toInt := HE.trans (by rw [e_39, e_40]; rfl)
      replace HE : FT = g11b_X5_personLine (xso SC ad ws_35) r_38.toInt r_9.toInt r_17.toInt := HE.trans rfl
      refine y_if_eq (tgt := 89) C0 dX5_personLine_72 (by decide) (fun c_43 => ?_) (fun c_43 => ?_)
      · -- 72
        replace HE : FT = g12_X5_personLine (xso SC ad ws_35) r_9.toInt r_17.toInt := HE.trans (if_pos c_43)
        refine lv_aload_n C0.1 C0.2.1 dX5_personLine_89 rfl (lv_at hl 4 rfl) ?_
        refine tg_X5_city C0 h kSC_77 q_370 dX5_personLine_90 ?_
        refine tg_X0_folk C0 h kSC_20 q_251 dX5_personLine_93 ?_
        refine lv_iload_n C0.1 C0.2.1 dX5_personLine_96 rfl (lv_at hl 3 rfl) ?_
        refine lv_iload_n C0.1 C0.2.1 dX5_personLine_97 rfl (lv_at hl 2 rfl) ?_
        refine lv_iload_n C0.1 C0.2.1 dX5_personLine_98 rfl (lv_at hl 1 rfl) ?_
        refine lv_iload C0.1 C0.2.1 dX5_personLine_99 (lv_at hl 0 rfl) ?_
        refine y_cv h (y_rV (As := [.int r_9, .int r_17, .int v_22, .int v_24]) (rest := []) C0 hZ h (c_X1_settle l G Z ad _ h.2 29 kSC_29 r_9 r_17 v_22 v_24 (o23_28 e_12 e_13) (o23_29 e_12 e_13) (o23_30 e_20 e_21) (o23_31 e_20 e_21)) k_X1_settle q_801 q_802 q_800 kSC_29 rfl rfl rfl hl.1 rfl rfl (Nat.le_of_ble_eq_true rfl) dX5_personLine_101 ⟨Nat.le_of_ble_eq_true rfl, Nat.le_of_ble_eq_true rfl⟩ ⟨Nat.le_of_ble_eq_true rfl, Nat.le_of_ble_eq_true rfl⟩) (fun H locs ws_44 h u_45 p_46 => ?_)
        have e_47 := p_46
        replace HE : FT = g14c_X5_personLine (xso SC ad ws_44) := HE.trans (by rw [e_47, (o23_50 e_25), (o23_50 e_23)]; rfl)
        replace HE : FT = ((xso SC ad ws_44), 0) := HE.trans rfl
        rw [hQ]
        exact y_vret C0 h (Fr.tr (Fr.tr (Fr.tr (Fr.tr (Fr.mono u_7 (by decide)) (Fr.mono u_15 (by decide))) (Fr.mono u_27 (by decide))) (Fr.mono u_36 (by decide))) (Fr.mono u_45 (by decide))) (congrArg Prod.fst (HE.symm.trans hFT)) dX5_personLine_104
      · -- 72
        replace HE : FT = g13_X5_personLine (xso SC ad ws_35) r_9.toInt r_17.toInt := HE.trans (if_neg c_43)
        refine lv_aload_n C0.1 C0.2.1 dX5_personLine_75 rfl (lv_at hl 4 rfl) ?_
        refine y_cv h (y_rV (As := []) (rest := []) C0 hZ h (c_X5_advance l G Z ad _ h.2) k_X5_advance q_616 q_0 q_614 kSC_77 rfl rfl rfl hl.1 rfl rfl (Nat.le_of_ble_eq_true rfl) dX5_personLine_76 ⟨Nat.le_of_ble_eq_true rfl, Nat.le_of_ble_eq_true rfl⟩ ⟨Nat.le_of_ble_eq_true rfl, Nat.le_of_ble_eq_true rfl⟩) (fun H locs ws_48 h u_49 p_50 => ?_)
        have e_51 := p_50
        replace HE : FT = g15c_X5_personLine (xso SC ad ws_48) r_9.toInt r_17.toInt := HE.trans (by rw [e_51]; rfl)
        refine lv_aload_n C0.1 C0.2.1 dX5_personLine_79 rfl (lv_at hl 4 rfl) ?_
        refine y_c1 (n := 0) C0 (by decide) dX5_personLine_80 (fun v_52 e_53 => ?_)
        refine y_c3 (n := 999) C0 (by decide) dX5_personLine_81 (fun v_54 e_55 => ?_)
        refine y_ci h (y_rV (As := [.int v_52, .int v_54]) (rest := []) C0 hZ h (c_X5_boundede l G Z ad _ h.2 v_52 v_54 (o23_9 e_53) (o23_10 e_53) (o23_51 e_55) (o23_52 e_55)) k_X5_bounded q_753 q_7 q_751 kSC_77 rfl rfl rfl hl.1 rfl rfl (Nat.le_of_ble_eq_true rfl) dX5_personLine_84 ⟨Nat.le_of_ble_eq_true rfl, Nat.le_of_ble_eq_true rfl⟩ ⟨Nat.le_of_ble_eq_true rfl, Nat.le_of_ble_eq_true rfl⟩) (fun r_59 H locs ws_56 h u_57 p_58 => ?_)
        obtain ⟨e_60, e_61, e_62, e_63⟩ := p_58
        replace HE : FT = g16c_X5_personLine (xso SC ad ws_56) r_59.toInt r_9.toInt r_17.toInt := HE.trans (by rw [e_60, e_61, e_55, e_53]; rfl)
        refine lv_istore (lv' := [(4, .int r_59), (3, .int v_22), (2, .int r_17), (1, .int r_9), (0, .ref (ad 77))]) C0.1 C0.2.1 dX5_personLine_87 hl (by decide) rfl (fun ls hl => ?_)
        refine lv_aload_n C0.1 C0.2.1 dX5_personLine_89 rfl (lv_at hl 4 rfl) ?_
        refine tg_X5_city C0 h kSC_77 q_370 dX5_personLine_90 ?_
        refine tg_X0_folk C0 h kSC_20 q_251 dX5_personLine_93 ?_
        refine lv_iload_n C0.1 C0.2.1 dX5_personLine_96 rfl (lv_at hl 3 rfl) ?_
        refine lv_iload_n C0.1 C0.2.1 dX5_personLine_97 rfl (lv_at hl 2 rfl) ?_
        refine lv_iload_n C0.1 C0.2.1 dX5_personLine_98 rfl (lv_at hl 1 rfl) ?_
        refine lv_iload C0.1 C0.2.1 dX5_personLine_99 (lv_at hl 0 rfl) ?_
        refine y_cv h (y_rV (As := [.int r_9, .int r_17, .int v_22, .int r_59]) (rest := []) C0 hZ h (c_X1_settle l G Z ad _ h.2 29 kSC_29 r_9 r_17 v_22 r_59 (o23_28 e_12 e_13) (o23_29 e_12 e_13) (o23_30 e_20 e_21) (o23_31 e_20 e_21)) k_X1_settle q_801 q_802 q_800 kSC_29 rfl rfl rfl hl.1 rfl rfl (Nat.le_of_ble_eq_true rfl) dX5_personLine_101 ⟨Nat.le_of_ble_eq_true rfl, Nat.le_of_ble_eq_true rfl⟩ ⟨Nat.le_of_ble_eq_true rfl, Nat.le_of_ble_eq_true rfl⟩) (fun H locs ws_64 h u_65 p_66 => ?_)
        have e_67 := p_66
        replace HE : FT = g17c_X5_personLine (xso SC ad ws_64) := HE.trans (by rw [e_67, (o23_50 e_23)]; rfl)
        replace HE : FT = ((xso SC ad ws_64), 0) := HE.trans rfl
        rw [hQ]
        exact y_vret C0 h (Fr.tr (Fr.tr (Fr.tr (Fr.tr (Fr.tr (Fr.tr (Fr.mono u_7 (by decide)) (Fr.mono u_15 (by decide))) (Fr.mono u_27 (by decide))) (Fr.mono u_36 (by decide))) (Fr.mono u_49 (by decide))) (Fr.mono u_57 (by decide))) (Fr.mono u_65 (by decide))) (congrArg Prod.fst (HE.symm.trans hFT)) dX5_personLine_104
    · -- 51
      replace HE : FT = g9_X5_personLine (xso SC ad ws_26) r_9.toInt r_17.toInt := HE.trans (if_neg c_34)
      refine lv_aload_n C0.1 C0.2.1 dX5_personLine_54 rfl (lv_at hl 4 rfl) ?_
      refine y_cv h (y_rV (As := []) (rest := []) C0 hZ h (c_X5_advance l G Z ad _ h.2) k_X5_advance q_616 q_0 q_614 kSC_77 rfl rfl rfl hl.1 rfl rfl (Nat.le_of_ble_eq_true rfl) dX5_personLine_55 ⟨Nat.le_of_ble_eq_true rfl, Nat.le_of_ble_eq_true rfl⟩ ⟨Nat.le_of_ble_eq_true rfl, Nat.le_of_ble_eq_true rfl⟩) (fun H locs ws_68 h u_69 p_70 => ?_)
      have e_71 := p_70
      replace HE : FT = g18c_X5_personLine (xso SC ad ws_68) r_9.toInt r_17.toInt := HE.trans (by rw [e_71]; rfl)
      refine lv_aload_n C0.1 C0.2.1 dX5_personLine_58 rfl (lv_at hl 4 rfl) ?_
      refine y_c1 (n := 0) C0 (by decide) dX5_personLine_59 (fun v_72 e_73 => ?_)
      refine y_c2 (n := 99) C0 (by decide) dX5_personLine_60 (fun v_74 e_75 => ?_)
      refine y_ci h (y_rV (As := [.int v_72, .int v_74]) (rest := []) C0 hZ h (c_X5_boundedd l G Z ad _ h.2 v_72 v_74 (o23_9 e_73) (o23_10 e_73) (o23_53 e_75) (o23_54 e_75)) k_X5_bounded q_753 q_7 q_751 kSC_77 rfl rfl rfl hl.1 rfl rfl (Nat.le_of_ble_eq_true rfl) dX5_personLine_62 ⟨Nat.le_of_ble_eq_true rfl, Nat.le_of_ble_eq_true rfl⟩ ⟨Nat.le_of_ble_eq_true rfl, Nat.le_of_ble_eq_true rfl⟩) (fun r_79 H locs ws_76 h u_77 p_78 => ?_)
      obtain ⟨e_80, e_81, e_82, e_83⟩ := p_78
      replace HE : FT = g19c_X5_personLine (xso SC ad ws_76) r_79.toInt r_9.toInt r_17.toInt := HE.trans (by rw [e_80, e_81, e_75, e_73]; rfl)
      refine lv_istore_n (lv' := [(3, .int r_79), (4, .int v_24), (2, .int r_17), (1, .int r_9), (0, .ref (ad 77))]) C0.1 C0.2.1 dX5_personLine_65 rfl hl (by decide) rfl (fun ls hl => ?_)
      refine lv_aload_n C0.1 C0.2.1 dX5_personLine_66 rfl (lv_at hl 4 rfl) ?_
      refine va_ldcS C0.1 C0.2.1 C0.2.2.2.1 (sr_10 hZ) dX5_personLine_67 ?_
      refine y_ci h (y_rV (As := [.ref (Z.2.1 10)]) (rest := []) C0 hZ h (c_X5_isWord l G Z ad _ h.2 10 (by decide)) k_X5_isWord q_724 q_5 q_722 kSC_77 rfl rfl rfl hl.1 rfl rfl (Nat.le_of_ble_eq_true rfl) dX5_personLine_69 ⟨Nat.le_of_ble_eq_true rfl, Nat.le_of_ble_eq_true rfl⟩ ⟨Nat.le_of_ble_eq_true rfl, Nat.le_of_ble_eq_true rfl⟩) (fun r_87 H locs ws_84 h u_85 p_86 => ?_)
      obtain ⟨e_88, e_89, e_90, e_91⟩ := p_86
      replace HE : FT = g20c_X5_personLine (xso SC ad ws_84) r_87.toInt r_9.toInt r_17.toInt r_79.toInt := HE.trans (by rw [e_88, e_89]; rfl)
      replace HE : FT = g21b_X5_personLine (xso SC ad ws_84) r_87.toInt r_9.toInt r_17.toInt r_79.toInt := HE.trans rfl
      refine y_if_eq (tgt := 89) C0 dX5_personLine_72 (by decide) (fun c_92 => ?_) (fun c_92 => ?_)
      · -- 72
        replace HE : FT = g22_X5_personLine (xso SC ad ws_84) r_9.toInt r_17.toInt r_79.toInt := HE.trans (if_pos c_92)
        refine lv_aload_n C0.1 C0.2.1 dX5_personLine_89 rfl (lv_at hl 4 rfl) ?_
        refine tg_X5_city C0 h kSC_77 q_370 dX5_personLine_90 ?_
        refine tg_X0_folk C0 h kSC_20 q_251 dX5_personLine_93 ?_
        refine lv_iload_n C0.1 C0.2.1 dX5_personLine_96 rfl (lv_at hl 3 rfl) ?_
        refine lv_iload_n C0.1 C0.2.1 dX5_personLine_97 rfl (lv_at hl 2 rfl) ?_
        refine lv_iload_n C0.1 C0.2.1 dX5_personLine_98 rfl (lv_at hl 0 rfl) ?_
        refine lv_iload C0.1 C0.2.1 dX5_personLine_99 (lv_at hl 1 rfl) ?_
        refine y_cv h (y_rV (As := [.int r_9, .int r_17, .int r_79, .int v_24]) (rest := []) C0 hZ h (c_X1_settle l G Z ad _ h.2 29 kSC_29 r_9 r_17 r_79 v_24 (o23_28 e_12 e_13) (o23_29 e_12 e_13) (o23_30 e_20 e_21) (o23_31 e_20 e_21)) k_X1_settle q_801 q_802 q_800 kSC_29 rfl rfl rfl hl.1 rfl rfl (Nat.le_of_ble_eq_true rfl) dX5_personLine_101 ⟨Nat.le_of_ble_eq_true rfl, Nat.le_of_ble_eq_true rfl⟩ ⟨Nat.le_of_ble_eq_true rfl, Nat.le_of_ble_eq_true rfl⟩) (fun H locs ws_93 h u_94 p_95 => ?_)
        have e_96 := p_95
        replace HE : FT = g24c_X5_personLine (xso SC ad ws_93) := HE.trans (by rw [e_96, (o23_50 e_25)]; rfl)
        replace HE : FT = ((xso SC ad ws_93), 0) := HE.trans rfl
        rw [hQ]
        exact y_vret C0 h (Fr.tr (Fr.tr (Fr.tr (Fr.tr (Fr.tr (Fr.tr (Fr.mono u_7 (by decide)) (Fr.mono u_15 (by decide))) (Fr.mono u_27 (by decide))) (Fr.mono u_69 (by decide))) (Fr.mono u_77 (by decide))) (Fr.mono u_85 (by decide))) (Fr.mono u_94 (by decide))) (congrArg Prod.fst (HE.symm.trans hFT)) dX5_personLine_104
      · -- 72
        replace HE : FT = g23_X5_personLine (xso SC ad ws_84) r_9.toInt r_17.toInt r_79.toInt := HE.trans (if_neg c_92)
        refine lv_aload_n C0.1 C0.2.1 dX5_personLine_75 rfl (lv_at hl 4 rfl) ?_
        refine y_cv h (y_rV (As := []) (rest := []) C0 hZ h (c_X5_advance l G Z ad _ h.2) k_X5_advance q_616 q_0 q_614 kSC_77 rfl rfl rfl hl.1 rfl rfl (Nat.le_of_ble_eq_true rfl) dX5_personLine_76 ⟨Nat.le_of_ble_eq_true rfl, Nat.le_of_ble_eq_true rfl⟩ ⟨Nat.le_of_ble_eq_true rfl, Nat.le_of_ble_eq_true rfl⟩) (fun H locs ws_97 h u_98 p_99 => ?_)
        have e_100 := p_99
        replace HE : FT = g25c_X5_personLine (xso SC ad ws_97) r_9.toInt r_17.toInt r_79.toInt := HE.trans (by rw [e_100]; rfl)
        refine lv_aload_n C0.1 C0.2.1 dX5_personLine_79 rfl (lv_at hl 4 rfl) ?_
        refine y_c1 (n := 0) C0 (by decide) dX5_personLine_80 (fun v_101 e_102 => ?_)
        refine y_c3 (n := 999) C0 (by decide) dX5_personLine_81 (fun v_103 e_104 => ?_)
        refine y_ci h (y_rV (As := [.int v_101, .int v_103]) (rest := []) C0 hZ h (c_X5_boundede l G Z ad _ h.2 v_101 v_103 (o23_9 e_102) (o23_10 e_102) (o23_51 e_104) (o23_52 e_104)) k_X5_bounded q_753 q_7 q_751 kSC_77 rfl rfl rfl hl.1 rfl rfl (Nat.le_of_ble_eq_true rfl) dX5_personLine_84 ⟨Nat.le_of_ble_eq_true rfl, Nat.le_of_ble_eq_true rfl⟩ ⟨Nat.le_of_ble_eq_true rfl, Nat.le_of_ble_eq_true rfl⟩) (fun r_108 H locs ws_105 h u_106 p_107 => ?_)
        obtain ⟨e_109, e_110, e_111, e_112⟩ := p_107
        replace HE : FT = g26c_X5_personLine (xso SC ad ws_105) r_108.toInt r_9.toInt r_17.toInt r_79.toInt := HE.trans (by rw [e_109, e_110, e_104, e_102]; rfl)
        refine lv_istore (lv' := [(4, .int r_108), (3, .int r_79), (2, .int r_17), (1, .int r_9), (0, .ref (ad 77))]) C0.1 C0.2.1 dX5_personLine_87 hl (by decide) rfl (fun ls hl => ?_)
        refine lv_aload_n C0.1 C0.2.1 dX5_personLine_89 rfl (lv_at hl 4 rfl) ?_
        refine tg_X5_city C0 h kSC_77 q_370 dX5_personLine_90 ?_
        refine tg_X0_folk C0 h kSC_20 q_251 dX5_personLine_93 ?_
        refine lv_iload_n C0.1 C0.2.1 dX5_personLine_96 rfl (lv_at hl 3 rfl) ?_
        refine lv_iload_n C0.1 C0.2.1 dX5_personLine_97 rfl (lv_at hl 2 rfl) ?_
        refine lv_iload_n C0.1 C0.2.1 dX5_personLine_98 rfl (lv_at hl 1 rfl) ?_
        refine lv_iload C0.1 C0.2.1 dX5_personLine_99 (lv_at hl 0 rfl) ?_
        refine y_cv h (y_rV (As := [.int r_9, .int r_17, .int r_79, .int r_108]) (rest := []) C0 hZ h (c_X1_settle l G Z ad _ h.2 29 kSC_29 r_9 r_17 r_79 r_108 (o23_28 e_12 e_13) (o23_29 e_12 e_13) (o23_30 e_20 e_21) (o23_31 e_20 e_21)) k_X1_settle q_801 q_802 q_800 kSC_29 rfl rfl rfl hl.1 rfl rfl (Nat.le_of_ble_eq_true rfl) dX5_personLine_101 ⟨Nat.le_of_ble_eq_true rfl, Nat.le_of_ble_eq_true rfl⟩ ⟨Nat.le_of_ble_eq_true rfl, Nat.le_of_ble_eq_true rfl⟩) (fun H locs ws_113 h u_114 p_115 => ?_)
        have e_116 := p_115
        replace HE : FT = g27c_X5_personLine (xso SC ad ws_113) := HE.trans (by rw [e_116]; rfl)
        replace HE : FT = ((xso SC ad ws_113), 0) := HE.trans rfl
        rw [hQ]
        exact y_vret C0 h (Fr.tr (Fr.tr (Fr.tr (Fr.tr (Fr.tr (Fr.tr (Fr.tr (Fr.tr (Fr.mono u_7 (by decide)) (Fr.mono u_15 (by decide))) (Fr.mono u_27 (by decide))) (Fr.mono u_69 (by decide))) (Fr.mono u_77 (by decide))) (Fr.mono u_85 (by decide))) (Fr.mono u_98 (by decide))) (Fr.mono u_106 (by decide))) (Fr.mono u_114 (by decide))) (congrArg Prod.fst (HE.symm.trans hFT)) dX5_personLine_104
  · -- 7
    replace HE : FT = g3_X5_personLine (xso SC ad ws0) := HE.trans (if_pos c_5)
    refine lv_aload_n C0.1 C0.2.1 dX5_personLine_10 rfl (lv_at hl 0 rfl) ?_
    refine tg_X5_city C0 h kSC_77 q_370 dX5_personLine_11 ?_
    refine tg_X0_folk C0 h kSC_20 q_251 dX5_personLine_14 ?_
    refine tg_X1_people C0 h kSC_29 q_216 dX5_personLine_17 (fun v_117 e_118 e_119 e_120 => ?_)
    refine y_c1 (n := 5) C0 (by decide) dX5_personLine_20 (fun v_121 e_122 => ?_)
    replace HE : FT = g28b_X5_personLine (xso SC ad ws0) v_117.toInt := HE.trans (by rw [(xg0 e_118 : v_117.toInt = (xso SC ad ws0) 0 29 7)]; rfl)
    refine y_icmp_lt (tgt := 30) C0 dX5_personLine_21 (by decide) (fun c_123 => ?_) (fun c_123 => ?_)
    · -- 21
      replace HE : FT = g29_X5_personLine (xso SC ad ws0) := HE.trans (if_pos (o23_56 e_119 e_120 e_122 c_123))
      refine lv_aload_n C0.1 C0.2.1 dX5_personLine_30 rfl (lv_at hl 0 rfl) ?_
      refine y_ci h (y_rV (As := []) (rest := []) C0 hZ h (c_X5_crossingTold l G Z ad _ h.2) k_X5_crossingTold q_766 q_9 q_764 kSC_77 rfl rfl rfl hl.1 rfl rfl (Nat.le_of_ble_eq_true rfl) dX5_personLine_31 ⟨Nat.le_of_ble_eq_true rfl, Nat.le_of_ble_eq_true rfl⟩ ⟨Nat.le_of_ble_eq_true rfl, Nat.le_of_ble_eq_true rfl⟩) (fun r_127 H locs ws_124 h u_125 p_126 => ?_)
      obtain ⟨e_128, e_129, e_130, e_131⟩ := p_126
      replace HE : FT = g31c_X5_personLine (xso SC ad ws_124) r_127.toInt := HE.trans (by rw [e_128, e_129]; rfl)
      refine lv_istore_n (lv' := [(1, .int r_127), (0, .ref (ad 77))]) C0.1 C0.2.1 dX5_personLine_34 rfl hl (by decide) rfl (fun ls hl => ?_)
      refine lv_aload_n C0.1 C0.2.1 dX5_personLine_35 rfl (lv_at hl 1 rfl) ?_
      refine y_ci h (y_rV (As := []) (rest := []) C0 hZ h (c_X5_heading l G Z ad _ h.2) k_X5_heading q_792 q_12 q_790 kSC_77 rfl rfl rfl hl.1 rfl rfl (Nat.le_of_ble_eq_true rfl) dX5_personLine_36 ⟨Nat.le_of_ble_eq_true rfl, Nat.le_of_ble_eq_true rfl⟩ ⟨Nat.le_of_ble_eq_true rfl, Nat.le_of_ble_eq_true rfl⟩) (fun r_135 H locs ws_132 h u_133 p_134 => ?_)
      obtain ⟨e_136, e_137, e_138, e_139⟩ := p_134
      replace HE : FT = g32c_X5_personLine (xso SC ad ws_132) r_135.toInt r_127.toInt := HE.trans (by rw [e_136, e_137]; rfl)
      refine lv_istore_n (lv' := [(2, .int r_135), (1, .int r_127), (0, .ref (ad 77))]) C0.1 C0.2.1 dX5_personLine_39 rfl hl (by decide) rfl (fun ls hl => ?_)
      refine y_c1 (n := 0) C0 (by decide) dX5_personLine_40 (fun v_140 e_141 => ?_)
      refine lv_istore_n (lv' := [(3, .int v_140), (2, .int r_135), (1, .int r_127), (0, .ref (ad 77))]) C0.1 C0.2.1 dX5_personLine_41 rfl hl (by decide) rfl (fun ls hl => ?_)
      refine y_c1 (n := 0) C0 (by decide) dX5_personLine_42 (fun v_142 e_143 => ?_)
      refine lv_istore (lv' := [(4, .int v_142), (3, .int v_140), (2, .int r_135), (1, .int r_127), (0, .ref (ad 77))]) C0.1 C0.2.1 dX5_personLine_43 hl (by decide) rfl (fun ls hl => ?_)
      refine lv_aload_n C0.1 C0.2.1 dX5_personLine_45 rfl (lv_at hl 4 rfl) ?_
      refine va_ldcS C0.1 C0.2.1 C0.2.2.2.1 (sr_9 hZ) dX5_personLine_46 ?_
      refine y_ci h (y_rV (As := [.ref (Z.2.1 9)]) (rest := []) C0 hZ h (c_X5_isWord l G Z ad _ h.2 9 (by decide)) k_X5_isWord q_724 q_5 q_722 kSC_77 rfl rfl rfl hl.1 rfl rfl (Nat.le_of_ble_eq_true rfl) dX5_personLine_48 ⟨Nat.le_of_ble_eq_true rfl, Nat.le_of_ble_eq_true rfl⟩ ⟨Nat.le_of_ble_eq_true rfl, Nat.le_of_ble_eq_true rfl⟩) (fun r_147 H locs ws_144 h u_145 p_146 => ?_)
      obtain ⟨e_148, e_149, e_150, e_151⟩ := p_146
      replace HE : FT = g33c_X5_personLine (xso SC ad ws_144) r_147.toInt r_127.toInt r_135.toInt := HE.trans (by rw [e_148, e_149]; rfl)
      replace HE : FT = g34b_X5_personLine (xso SC ad ws_144) r_147.toInt r_127.toInt r_135.toInt := HE.trans rfl
      refine y_if_eq (tgt := 66) C0 dX5_personLine_51 (by decide) (fun c_152 => ?_) (fun c_152 => ?_)
      · -- 51
        replace HE : FT = g35_X5_personLine (xso SC ad ws_144) r_127.toInt r_135.toInt := HE.trans (if_pos c_152)
        refine lv_aload_n C0.1 C0.2.1 dX5_personLine_66 rfl (lv_at hl 4 rfl) ?_
        refine va_ldcS C0.1 C0.2.1 C0.2.2.2.1 (sr_10 hZ) dX5_personLine_67 ?_
        refine y_ci h (y_rV (As := [.ref (Z.2.1 10)]) (rest := []) C0 hZ h (c_X5_isWord l G Z ad _ h.2 10 (by decide)) k_X5_isWord q_724 q_5 q_722 kSC_77 rfl rfl rfl hl.1 rfl rfl (Nat.le_of_ble_eq_true rfl) dX5_personLine_69 ⟨Nat.le_of_ble_eq_true rfl, Nat.le_of_ble_eq_true rfl⟩ ⟨Nat.le_of_ble_eq_true rfl, Nat.le_of_ble_eq_true rfl⟩) (fun r_156 H locs ws_153 h u_154 p_155 => ?_)
        obtain ⟨e_157, e_158, e_159, e_160⟩ := p_155
        replace HE : FT = g37c_X5_personLine (xso SC ad ws_153) r_156.toInt r_127.toInt r_135.toInt := HE.trans (by rw [e_157, e_158]; rfl)
        replace HE : FT = g38b_X5_personLine (xso SC ad ws_153) r_156.toInt r_127.toInt r_135.toInt := HE.trans rfl
        refine y_if_eq (tgt := 89) C0 dX5_personLine_72 (by decide) (fun c_161 => ?_) (fun c_161 => ?_)
        · -- 72
          replace HE : FT = g39_X5_personLine (xso SC ad ws_153) r_127.toInt r_135.toInt := HE.trans (if_pos c_161)
          refine lv_aload_n C0.1 C0.2.1 dX5_personLine_89 rfl (lv_at hl 4 rfl) ?_
          refine tg_X5_city C0 h kSC_77 q_370 dX5_personLine_90 ?_
          refine tg_X0_folk C0 h kSC_20 q_251 dX5_personLine_93 ?_
          refine lv_iload_n C0.1 C0.2.1 dX5_personLine_96 rfl (lv_at hl 3 rfl) ?_
          refine lv_iload_n C0.1 C0.2.1 dX5_personLine_97 rfl (lv_at hl 2 rfl) ?_
          refine lv_iload_n C0.1 C0.2.1 dX5_personLine_98 rfl (lv_at hl 1 rfl) ?_
          refine lv_iload C0.1 C0.2.1 dX5_personLine_99 (lv_at hl 0 rfl) ?_
          refine y_cv h (y_rV (As := [.int r_127, .int r_135, .int v_140, .int v_142]) (rest := []) C0 hZ h (c_X1_settle l G Z ad _ h.2 29 kSC_29 r_127 r_135 v_140 v_142 (o23_28 e_130 e_131) (o23_29 e_130 e_131) (o23_30 e_138 e_139) (o23_31 e_138 e_139)) k_X1_settle q_801 q_802 q_800 kSC_29 rfl rfl rfl hl.1 rfl rfl (Nat.le_of_ble_eq_true rfl) dX5_personLine_101 ⟨Nat.le_of_ble_eq_true rfl, Nat.le_of_ble_eq_true rfl⟩ ⟨Nat.le_of_ble_eq_true rfl, Nat.le_of_ble_eq_true rfl⟩) (fun H locs ws_162 h u_163 p_164 => ?_)
          have e_165 := p_164
          replace HE : FT = g41c_X5_personLine (xso SC ad ws_162) := HE.trans (by rw [e_165, (o23_50 e_143), (o23_50 e_141)]; rfl)
          replace HE : FT = ((xso SC ad ws_162), 0) := HE.trans rfl
          rw [hQ]
          exact y_vret C0 h (Fr.tr (Fr.tr (Fr.tr (Fr.tr (Fr.mono u_125 (by decide)) (Fr.mono u_133 (by decide))) (Fr.mono u_145 (by decide))) (Fr.mono u_154 (by decide))) (Fr.mono u_163 (by decide))) (congrArg Prod.fst (HE.symm.trans hFT)) dX5_personLine_104
        · -- 72
          replace HE : FT = g40_X5_personLine (xso SC ad ws_153) r_127.toInt r_135.toInt := HE.trans (if_neg c_161)
          refine lv_aload_n C0.1 C0.2.1 dX5_personLine_75 rfl (lv_at hl 4 rfl) ?_
          refine y_cv h (y_rV (As := []) (rest := []) C0 hZ h (c_X5_advance l G Z ad _ h.2) k_X5_advance q_616 q_0 q_614 kSC_77 rfl rfl rfl hl.1 rfl rfl (Nat.le_of_ble_eq_true rfl) dX5_personLine_76 ⟨Nat.le_of_ble_eq_true rfl, Nat.le_of_ble_eq_true rfl⟩ ⟨Nat.le_of_ble_eq_true rfl, Nat.le_of_ble_eq_true rfl⟩) (fun H locs ws_166 h u_167 p_168 => ?_)
          have e_169 := p_168
          replace HE : FT = g42c_X5_personLine (xso SC ad ws_166) r_127.toInt r_135.toInt := HE.trans (by rw [e_169]; rfl)
          refine lv_aload_n C0.1 C0.2.1 dX5_personLine_79 rfl (lv_at hl 4 rfl) ?_
          refine y_c1 (n := 0) C0 (by decide) dX5_personLine_80 (fun v_170 e_171 => ?_)
          refine y_c3 (n := 999) C0 (by decide) dX5_personLine_81 (fun v_172 e_173 => ?_)
          refine y_ci h (y_rV (As := [.int v_170, .int v_172]) (rest := []) C0 hZ h (c_X5_boundede l G Z ad _ h.2 v_170 v_172 (o23_9 e_171) (o23_10 e_171) (o23_51 e_173) (o23_52 e_173)) k_X5_bounded q_753 q_7 q_751 kSC_77 rfl rfl rfl hl.1 rfl rfl (Nat.le_of_ble_eq_true rfl) dX5_personLine_84 ⟨Nat.le_of_ble_eq_true rfl, Nat.le_of_ble_eq_true rfl⟩ ⟨Nat.le_of_ble_eq_true rfl, Nat.le_of_ble_eq_true rfl⟩) (fun r_177 H locs ws_174 h u_175 p_176 => ?_)
          obtain ⟨e_178, e_179, e_180, e_181⟩ := p_176
          replace HE : FT = g43c_X5_personLine (xso SC ad ws_174) r_177.toInt r_127.toInt r_135.toInt := HE.trans (by rw [e_178, e_179, e_173, e_171]; rfl)
          refine lv_istore (lv' := [(4, .int r_177), (3, .int v_140), (2, .int r_135), (1, .int r_127), (0, .ref (ad 77))]) C0.1 C0.2.1 dX5_personLine_87 hl (by decide) rfl (fun ls hl => ?_)
          refine lv_aload_n C0.1 C0.2.1 dX5_personLine_89 rfl (lv_at hl 4 rfl) ?_
          refine tg_X5_city C0 h kSC_77 q_370 dX5_personLine_90 ?_
          refine tg_X0_folk C0 h kSC_20 q_251 dX5_personLine_93 ?_
          refine lv_iload_n C0.1 C0.2.1 dX5_personLine_96 rfl (lv_at hl 3 rfl) ?_
          refine lv_iload_n C0.1 C0.2.1 dX5_personLine_97 rfl (lv_at hl 2 rfl) ?_
          refine lv_iload_n C0.1 C0.2.1 dX5_personLine_98 rfl (lv_at hl 1 rfl) ?_
          refine lv_iload C0.1 C0.2.1 dX5_personLine_99 (lv_at hl 0 rfl) ?_
          refine y_cv h (y_rV (As := [.int r_127, .int r_135, .int v_140, .int r_177]) (rest := []) C0 hZ h (c_X1_settle l G Z ad _ h.2 29 kSC_29 r_127 r_135 v_140 r_177 (o23_28 e_130 e_131) (o23_29 e_130 e_131) (o23_30 e_138 e_139) (o23_31 e_138 e_139)) k_X1_settle q_801 q_802 q_800 kSC_29 rfl rfl rfl hl.1 rfl rfl (Nat.le_of_ble_eq_true rfl) dX5_personLine_101 ⟨Nat.le_of_ble_eq_true rfl, Nat.le_of_ble_eq_true rfl⟩ ⟨Nat.le_of_ble_eq_true rfl, Nat.le_of_ble_eq_true rfl⟩) (fun H locs ws_182 h u_183 p_184 => ?_)
          have e_185 := p_184
          replace HE : FT = g44c_X5_personLine (xso SC ad ws_182) := HE.trans (by rw [e_185, (o23_50 e_141)]; rfl)
          replace HE : FT = ((xso SC ad ws_182), 0) := HE.trans rfl
          rw [hQ]
          exact y_vret C0 h (Fr.tr (Fr.tr (Fr.tr (Fr.tr (Fr.tr (Fr.tr (Fr.mono u_125 (by decide)) (Fr.mono u_133 (by decide))) (Fr.mono u_145 (by decide))) (Fr.mono u_154 (by decide))) (Fr.mono u_167 (by decide))) (Fr.mono u_175 (by decide))) (Fr.mono u_183 (by decide))) (congrArg Prod.fst (HE.symm.trans hFT)) dX5_personLine_104
      · -- 51
        replace HE : FT = g36_X5_personLine (xso SC ad ws_144) r_127.toInt r_135.toInt := HE.trans (if_neg c_152)
        refine lv_aload_n C0.1 C0.2.1 dX5_personLine_54 rfl (lv_at hl 4 rfl) ?_
        refine y_cv h (y_rV (As := []) (rest := []) C0 hZ h (c_X5_advance l G Z ad _ h.2) k_X5_advance q_616 q_0 q_614 kSC_77 rfl rfl rfl hl.1 rfl rfl (Nat.le_of_ble_eq_true rfl) dX5_personLine_55 ⟨Nat.le_of_ble_eq_true rfl, Nat.le_of_ble_eq_true rfl⟩ ⟨Nat.le_of_ble_eq_true rfl, Nat.le_of_ble_eq_true rfl⟩) (fun H locs ws_186 h u_187 p_188 => ?_)
        have e_189 := p_188
        replace HE : FT = g45c_X5_personLine (xso SC ad ws_186) r_127.toInt r_135.toInt := HE.trans (by rw [e_189]; rfl)
        refine lv_aload_n C0.1 C0.2.1 dX5_personLine_58 rfl (lv_at hl 4 rfl) ?_
        refine y_c1 (n := 0) C0 (by decide) dX5_personLine_59 (fun v_190 e_191 => ?_)
        refine y_c2 (n := 99) C0 (by decide) dX5_personLine_60 (fun v_192 e_193 => ?_)
        refine y_ci h (y_rV (As := [.int v_190, .int v_192]) (rest := []) C0 hZ h (c_X5_boundedd l G Z ad _ h.2 v_190 v_192 (o23_9 e_191) (o23_10 e_191) (o23_53 e_193) (o23_54 e_193)) k_X5_bounded q_753 q_7 q_751 kSC_77 rfl rfl rfl hl.1 rfl rfl (Nat.le_of_ble_eq_true rfl) dX5_personLine_62 ⟨Nat.le_of_ble_eq_true rfl, Nat.le_of_ble_eq_true rfl⟩ ⟨Nat.le_of_ble_eq_true rfl, Nat.le_of_ble_eq_true rfl⟩) (fun r_197 H locs ws_194 h u_195 p_196 => ?_)
        obtain ⟨e_198, e_199, e_200, e_201⟩ := p_196
        replace HE : FT = g46c_X5_personLine (xso SC ad ws_194) r_197.toInt r_127.toInt r_135.toInt := HE.trans (by rw [e_198, e_199, e_193, e_191]; rfl)
        refine lv_istore_n (lv' := [(3, .int r_197), (4, .int v_142), (2, .int r_135), (1, .int r_127), (0, .ref (ad 77))]) C0.1 C0.2.1 dX5_personLine_65 rfl hl (by decide) rfl (fun ls hl => ?_)
        refine lv_aload_n C0.1 C0.2.1 dX5_personLine_66 rfl (lv_at hl 4 rfl) ?_
        refine va_ldcS C0.1 C0.2.1 C0.2.2.2.1 (sr_10 hZ) dX5_personLine_67 ?_
        refine y_ci h (y_rV (As := [.ref (Z.2.1 10)]) (rest := []) C0 hZ h (c_X5_isWord l G Z ad _ h.2 10 (by decide)) k_X5_isWord q_724 q_5 q_722 kSC_77 rfl rfl rfl hl.1 rfl rfl (Nat.le_of_ble_eq_true rfl) dX5_personLine_69 ⟨Nat.le_of_ble_eq_true rfl, Nat.le_of_ble_eq_true rfl⟩ ⟨Nat.le_of_ble_eq_true rfl, Nat.le_of_ble_eq_true rfl⟩) (fun r_205 H locs ws_202 h u_203 p_204 => ?_)
        obtain ⟨e_206, e_207, e_208, e_209⟩ := p_204
        replace HE : FT = g47c_X5_personLine (xso SC ad ws_202) r_205.toInt r_127.toInt r_135.toInt r_197.toInt := HE.trans (by rw [e_206, e_207]; rfl)
        replace HE : FT = g48b_X5_personLine (xso SC ad ws_202) r_205.toInt r_127.toInt r_135.toInt r_197.toInt := HE.trans rfl
        refine y_if_eq (tgt := 89) C0 dX5_personLine_72 (by decide) (fun c_210 => ?_) (fun c_210 => ?_)
        · -- 72
          replace HE : FT = g49_X5_personLine (xso SC ad ws_202) r_127.toInt r_135.toInt r_197.toInt := HE.trans (if_pos c_210)
          refine lv_aload_n C0.1 C0.2.1 dX5_personLine_89 rfl (lv_at hl 4 rfl) ?_
          refine tg_X5_city C0 h kSC_77 q_370 dX5_personLine_90 ?_
          refine tg_X0_folk C0 h kSC_20 q_251 dX5_personLine_93 ?_
          refine lv_iload_n C0.1 C0.2.1 dX5_personLine_96 rfl (lv_at hl 3 rfl) ?_
          refine lv_iload_n C0.1 C0.2.1 dX5_personLine_97 rfl (lv_at hl 2 rfl) ?_
          refine lv_iload_n C0.1 C0.2.1 dX5_personLine_98 rfl (lv_at hl 0 rfl) ?_
          refine lv_iload C0.1 C0.2.1 dX5_personLine_99 (lv_at hl 1 rfl) ?_
          refine y_cv h (y_rV (As := [.int r_127, .int r_135, .int r_197, .int v_142]) (rest := []) C0 hZ h (c_X1_settle l G Z ad _ h.2 29 kSC_29 r_127 r_135 r_197 v_142 (o23_28 e_130 e_131) (o23_29 e_130 e_131) (o23_30 e_138 e_139) (o23_31 e_138 e_139)) k_X1_settle q_801 q_802 q_800 kSC_29 rfl rfl rfl hl.1 rfl rfl (Nat.le_of_ble_eq_true rfl) dX5_personLine_101 ⟨Nat.le_of_ble_eq_true rfl, Nat.le_of_ble_eq_true rfl⟩ ⟨Nat.le_of_ble_eq_true rfl, Nat.le_of_ble_eq_true rfl⟩) (fun H locs ws_211 h u_212 p_213 => ?_)
          have e_214 := p_213
          replace HE : FT = g51c_X5_personLine (xso SC ad ws_211) := HE.trans (by rw [e_214, (o23_50 e_143)]; rfl)
          replace HE : FT = ((xso SC ad ws_211), 0) := HE.trans rfl
          rw [hQ]
          exact y_vret C0 h (Fr.tr (Fr.tr (Fr.tr (Fr.tr (Fr.tr (Fr.tr (Fr.mono u_125 (by decide)) (Fr.mono u_133 (by decide))) (Fr.mono u_145 (by decide))) (Fr.mono u_187 (by decide))) (Fr.mono u_195 (by decide))) (Fr.mono u_203 (by decide))) (Fr.mono u_212 (by decide))) (congrArg Prod.fst (HE.symm.trans hFT)) dX5_personLine_104
        · -- 72
          replace HE : FT = g50_X5_personLine (xso SC ad ws_202) r_127.toInt r_135.toInt r_197.toInt := HE.trans (if_neg c_210)
          refine lv_aload_n C0.1 C0.2.1 dX5_personLine_75 rfl (lv_at hl 4 rfl) ?_
          refine y_cv h (y_rV (As := []) (rest := []) C0 hZ h (c_X5_advance l G Z ad _ h.2) k_X5_advance q_616 q_0 q_614 kSC_77 rfl rfl rfl hl.1 rfl rfl (Nat.le_of_ble_eq_true rfl) dX5_personLine_76 ⟨Nat.le_of_ble_eq_true rfl, Nat.le_of_ble_eq_true rfl⟩ ⟨Nat.le_of_ble_eq_true rfl, Nat.le_of_ble_eq_true rfl⟩) (fun H locs ws_215 h u_216 p_217 => ?_)
          have e_218 := p_217
          replace HE : FT = g52c_X5_personLine (xso SC ad ws_215) r_127.toInt r_135.toInt r_197.toInt := HE.trans (by rw [e_218]; rfl)
          refine lv_aload_n C0.1 C0.2.1 dX5_personLine_79 rfl (lv_at hl 4 rfl) ?_
          refine y_c1 (n := 0) C0 (by decide) dX5_personLine_80 (fun v_219 e_220 => ?_)
          refine y_c3 (n := 999) C0 (by decide) dX5_personLine_81 (fun v_221 e_222 => ?_)
          refine y_ci h (y_rV (As := [.int v_219, .int v_221]) (rest := []) C0 hZ h (c_X5_boundede l G Z ad _ h.2 v_219 v_221 (o23_9 e_220) (o23_10 e_220) (o23_51 e_222) (o23_52 e_222)) k_X5_bounded q_753 q_7 q_751 kSC_77 rfl rfl rfl hl.1 rfl rfl (Nat.le_of_ble_eq_true rfl) dX5_personLine_84 ⟨Nat.le_of_ble_eq_true rfl, Nat.le_of_ble_eq_true rfl⟩ ⟨Nat.le_of_ble_eq_true rfl, Nat.le_of_ble_eq_true rfl⟩) (fun r_226 H locs ws_223 h u_224 p_225 => ?_)
          obtain ⟨e_227, e_228, e_229, e_230⟩ := p_225
          replace HE : FT = g53c_X5_personLine (xso SC ad ws_223) r_226.toInt r_127.toInt r_135.toInt r_197.toInt := HE.trans (by rw [e_227, e_228, e_222, e_220]; rfl)
          refine lv_istore (lv' := [(4, .int r_226), (3, .int r_197), (2, .int r_135), (1, .int r_127), (0, .ref (ad 77))]) C0.1 C0.2.1 dX5_personLine_87 hl (by decide) rfl (fun ls hl => ?_)
          refine lv_aload_n C0.1 C0.2.1 dX5_personLine_89 rfl (lv_at hl 4 rfl) ?_
          refine tg_X5_city C0 h kSC_77 q_370 dX5_personLine_90 ?_
          refine tg_X0_folk C0 h kSC_20 q_251 dX5_personLine_93 ?_
          refine lv_iload_n C0.1 C0.2.1 dX5_personLine_96 rfl (lv_at hl 3 rfl) ?_
          refine lv_iload_n C0.1 C0.2.1 dX5_personLine_97 rfl (lv_at hl 2 rfl) ?_
          refine lv_iload_n C0.1 C0.2.1 dX5_personLine_98 rfl (lv_at hl 1 rfl) ?_
          refine lv_iload C0.1 C0.2.1 dX5_personLine_99 (lv_at hl 0 rfl) ?_
          refine y_cv h (y_rV (As := [.int r_127, .int r_135, .int r_197, .int r_226]) (rest := []) C0 hZ h (c_X1_settle l G Z ad _ h.2 29 kSC_29 r_127 r_135 r_197 r_226 (o23_28 e_130 e_131) (o23_29 e_130 e_131) (o23_30 e_138 e_139) (o23_31 e_138 e_139)) k_X1_settle q_801 q_802 q_800 kSC_29 rfl rfl rfl hl.1 rfl rfl (Nat.le_of_ble_eq_true rfl) dX5_personLine_101 ⟨Nat.le_of_ble_eq_true rfl, Nat.le_of_ble_eq_true rfl⟩ ⟨Nat.le_of_ble_eq_true rfl, Nat.le_of_ble_eq_true rfl⟩) (fun H locs ws_231 h u_232 p_233 => ?_)
          have e_234 := p_233
          replace HE : FT = g54c_X5_personLine (xso SC ad ws_231) := HE.trans (by rw [e_234]; rfl)
          replace HE : FT = ((xso SC ad ws_231), 0) := HE.trans rfl
          rw [hQ]
          exact y_vret C0 h (Fr.tr (Fr.tr (Fr.tr (Fr.tr (Fr.tr (Fr.tr (Fr.tr (Fr.tr (Fr.mono u_125 (by decide)) (Fr.mono u_133 (by decide))) (Fr.mono u_145 (by decide))) (Fr.mono u_187 (by decide))) (Fr.mono u_195 (by decide))) (Fr.mono u_203 (by decide))) (Fr.mono u_216 (by decide))) (Fr.mono u_224 (by decide))) (Fr.mono u_232 (by decide))) (congrArg Prod.fst (HE.symm.trans hFT)) dX5_personLine_104
    · -- 21
      replace HE : FT = g30_X5_personLine (xso SC ad ws0) := HE.trans (if_neg (o23_57 e_119 e_120 e_122 c_123))
      refine lv_aload_n C0.1 C0.2.1 dX5_personLine_24 rfl (lv_at hl 0 rfl) ?_
      refine y_c1 (n := 4) C0 (by decide) dX5_personLine_25 (fun v_235 e_236 => ?_)
      refine y_cv h (y_rV (As := [.int v_235]) (rest := []) C0 hZ h (c_X5_fail l G Z ad _ h.2 v_235) k_X5_fail q_628 q_3 q_626 kSC_77 rfl rfl rfl hl.1 rfl rfl (Nat.le_of_ble_eq_true rfl) dX5_personLine_26 ⟨Nat.le_of_ble_eq_true rfl, Nat.le_of_ble_eq_true rfl⟩ ⟨Nat.le_of_ble_eq_true rfl, Nat.le_of_ble_eq_true rfl⟩) (fun H locs ws_237 h u_238 p_239 => ?_)
      have e_240 := p_239
      replace HE : FT = g55c_X5_personLine (xso SC ad ws_237) := HE.trans (by rw [e_240, e_236]; rfl)
      replace HE : FT = ((xso SC ad ws_237), 0) := HE.trans rfl
      rw [hQ]
      exact y_vret C0 h (Fr.mono u_238 (by decide)) (congrArg Prod.fst (HE.symm.trans hFT)) dX5_personLine_29
noncomputable def g4c_X5_beginLaw (s : XS) : XR := (s, 0)
noncomputable def g3c_X5_beginLaw (s : XS) : XR := g4c_X5_beginLaw ((f_X5_sign s 58).1)
noncomputable def g2c_X5_beginLaw (s : XS) : XR := g3c_X5_beginLaw ((f_X5_advance s).1)
noncomputable def g1w_X5_beginLaw (s : XS) : XR := g2c_X5_beginLaw ((f_X4_clear s (Int.toNat (s 3 77 10))).1)
noncomputable def f_X5_beginLaw (s : XS) (i1 : Nat) : XR := g1w_X5_beginLaw (xup s 3 77 10 (((i1) : Nat) : Int))
set_option maxHeartbeats 4000000 in
set_option maxRecDepth 100000 in
theorem c_X5_beginLaw (l : Launch) (G : GG) (Z : RZ) (ad : Nat → Nat) (ws0 : va_W) (hT : Ty G SC ad ws0) (i1 : Nat) (hi1 : Kd SC i1 2) : Mq l yX5_beginLaw cX5_beginLaw 2 none 7 G Z [.ref (ad 77), .ref (ad i1)] ws0 (PV G SC ad [2, 16] ws0 (fun u => (xso SC ad u = (f_X5_beginLaw (xso SC ad ws0) i1).1))) := by
  refine Mq.start (by decide) (Nat.le_of_ble_eq_true rfl) ?_
  intro p e s m below meth c A ls C0 hZ h hl
  have hl : lv_has ls 2 [(0, .ref (ad 77)), (1, .ref (ad i1))] := hl
  have h : Wt G SC ad A s s.heap [] ws0 := ⟨h, hT⟩
  obtain ⟨args, hargs⟩ : ∃ z, z = ([.ref (ad 77), .ref (ad i1)] : List Value).toArray := ⟨_, rfl⟩
  rw [← hargs] at C0 ⊢
  have C0 : Cx p s m args meth c RX5 cX5_beginLaw 2 none := C0
  obtain ⟨Q, hQ⟩ : ∃ z, z = MQ below ((PV G SC ad [2, 16] ws0 (fun u => (xso SC ad u = (f_X5_beginLaw (xso SC ad ws0) i1).1))) A) args s 0 0 A := ⟨_, rfl⟩
  rw [← hQ]
  obtain ⟨FT, hFT⟩ : ∃ z, z = f_X5_beginLaw (xso SC ad ws0) i1 := ⟨_, rfl⟩
  have HE : FT = f_X5_beginLaw (xso SC ad ws0) i1 := hFT
  refine lv_aload_n C0.1 C0.2.1 dX5_beginLaw_0 rfl (lv_at hl 0 rfl) ?_
  refine lv_aload_n C0.1 C0.2.1 dX5_beginLaw_1 rfl (lv_at hl 1 rfl) ?_
  refine tp_X5_law C0 h kSC_77 q_380 hi1 dX5_beginLaw_2 (fun H locs ws_1 h u_2 Xu_2 => ?_)
  replace HE : FT = g1w_X5_beginLaw (xso SC ad ws_1) := HE.trans (by rw [Xu_2]; rfl)
  refine lv_aload_n C0.1 C0.2.1 dX5_beginLaw_5 rfl (lv_at hl 0 rfl) ?_
  refine tg_X5_law C0 h kSC_77 q_380 dX5_beginLaw_6 (fun i_3 hi_3 ei_3 => ?_)
  refine y_cv h (y_rV (As := []) (rest := []) C0 hZ h (c_X4_clear l G Z ad _ h.2 i_3 hi_3) k_X4_clear q_603 q_604 q_809 hi_3 rfl rfl rfl hl.1 rfl rfl (Nat.le_of_ble_eq_true rfl) dX5_beginLaw_9 ⟨Nat.le_of_ble_eq_true rfl, Nat.le_of_ble_eq_true rfl⟩ ⟨Nat.le_of_ble_eq_true rfl, Nat.le_of_ble_eq_true rfl⟩) (fun H locs ws_4 h u_5 p_6 => ?_)
  have e_7 := p_6
  replace HE : FT = g2c_X5_beginLaw (xso SC ad ws_4) := HE.trans (by rw [e_7, ei_3]; rfl)
  refine lv_aload_n C0.1 C0.2.1 dX5_beginLaw_12 rfl (lv_at hl 0 rfl) ?_
  refine y_cv h (y_rV (As := []) (rest := []) C0 hZ h (c_X5_advance l G Z ad _ h.2) k_X5_advance q_616 q_0 q_614 kSC_77 rfl rfl rfl hl.1 rfl rfl (Nat.le_of_ble_eq_true rfl) dX5_beginLaw_13 ⟨Nat.le_of_ble_eq_true rfl, Nat.le_of_ble_eq_true rfl⟩ ⟨Nat.le_of_ble_eq_true rfl, Nat.le_of_ble_eq_true rfl⟩) (fun H locs ws_8 h u_9 p_10 => ?_)
  have e_11 := p_10
  replace HE : FT = g3c_X5_beginLaw (xso SC ad ws_8) := HE.trans (by rw [e_11]; rfl)
  refine lv_aload_n C0.1 C0.2.1 dX5_beginLaw_16 rfl (lv_at hl 0 rfl) ?_
  refine y_c2 (n := 58) C0 (by decide) dX5_beginLaw_17 (fun v_12 e_13 => ?_)
  refine y_cv h (y_rV (As := [.int v_12]) (rest := []) C0 hZ h (c_X5_sign l G Z ad _ h.2 v_12 (o23_58 e_13) (o23_59 e_13)) k_X5_sign q_812 q_14 q_810 kSC_77 rfl rfl rfl hl.1 rfl rfl (Nat.le_of_ble_eq_true rfl) dX5_beginLaw_19 ⟨Nat.le_of_ble_eq_true rfl, Nat.le_of_ble_eq_true rfl⟩ ⟨Nat.le_of_ble_eq_true rfl, Nat.le_of_ble_eq_true rfl⟩) (fun H locs ws_14 h u_15 p_16 => ?_)
  have e_17 := p_16
  replace HE : FT = g4c_X5_beginLaw (xso SC ad ws_14) := HE.trans (by rw [e_17, e_13]; rfl)
  replace HE : FT = ((xso SC ad ws_14), 0) := HE.trans rfl
  rw [hQ]
  exact y_vret C0 h (Fr.tr (Fr.tr (Fr.tr (Fr.up u_2.1 kSC_77 (by decide)) (Fr.mono u_5 (by decide))) (Fr.mono u_9 (by decide))) (Fr.mono u_15 (by decide))) (congrArg Prod.fst (HE.symm.trans hFT)) dX5_beginLaw_22
