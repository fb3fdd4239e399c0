variable {tt : QQ}
theorem dX5_beginLaw_0 : decode cX5_beginLaw 0 = .ok (.aload_n 0, 1) := by decide +kernel
theorem dX5_beginLaw_1 : decode cX5_beginLaw 1 = .ok (.aload_n 1, 1) := by decide +kernel
theorem dX5_beginLaw_2 : decode cX5_beginLaw 2 = .ok (.putfield 29, 3) := by decide +kernel
theorem dX5_beginLaw_5 : decode cX5_beginLaw 5 = .ok (.aload_n 0, 1) := by decide +kernel
theorem dX5_beginLaw_6 : decode cX5_beginLaw 6 = .ok (.getfield 29, 3) := by decide +kernel
theorem dX5_beginLaw_9 : decode cX5_beginLaw 9 = .ok (.invokevirtual 191, 3) := by decide +kernel
theorem dX5_beginLaw_12 : decode cX5_beginLaw 12 = .ok (.aload_n 0, 1) := by decide +kernel
theorem dX5_beginLaw_13 : decode cX5_beginLaw 13 = .ok (.invokevirtual 47, 3) := by decide +kernel
theorem dX5_beginLaw_16 : decode cX5_beginLaw 16 = .ok (.aload_n 0, 1) := by decide +kernel
theorem dX5_beginLaw_17 : decode cX5_beginLaw 17 = .ok (.bipush 58, 2) := by decide +kernel
theorem dX5_beginLaw_19 : decode cX5_beginLaw 19 = .ok (.invokevirtual 56, 3) := by decide +kernel
theorem dX5_beginLaw_22 : decode cX5_beginLaw 22 = .ok (.return_, 1) := by decide +kernel
theorem dX5_cityLine_0 : decode cX5_cityLine 0 = .ok (.aload_n 0, 1) := by decide +kernel
theorem dX5_cityLine_1 : decode cX5_cityLine 1 = .ok (.getfield 19, 3) := by decide +kernel
theorem dX5_cityLine_4 : decode cX5_cityLine 4 = .ok (.getfield 150, 3) := by decide +kernel
theorem dX5_cityLine_7 : decode cX5_cityLine 7 = .ok (.ifCond .le 9, 3) := by decide +kernel
theorem dX5_cityLine_10 : decode cX5_cityLine 10 = .ok (.aload_n 0, 1) := by decide +kernel
theorem dX5_cityLine_11 : decode cX5_cityLine 11 = .ok (.iconst 2, 1) := by decide +kernel
theorem dX5_cityLine_12 : decode cX5_cityLine 12 = .ok (.invokevirtual 76, 3) := by decide +kernel
theorem dX5_cityLine_15 : decode cX5_cityLine 15 = .ok (.return_, 1) := by decide +kernel
theorem dX5_cityLine_16 : decode cX5_cityLine 16 = .ok (.aload_n 0, 1) := by decide +kernel
theorem dX5_cityLine_17 : decode cX5_cityLine 17 = .ok (.invokevirtual 47, 3) := by decide +kernel
theorem dX5_cityLine_20 : decode cX5_cityLine 20 = .ok (.aload_n 0, 1) := by decide +kernel
theorem dX5_cityLine_21 : decode cX5_cityLine 21 = .ok (.iconst 2, 1) := by decide +kernel
theorem dX5_cityLine_22 : decode cX5_cityLine 22 = .ok (.iconst 5, 1) := by decide +kernel
theorem dX5_cityLine_23 : decode cX5_cityLine 23 = .ok (.invokevirtual 141, 3) := by decide +kernel
theorem dX5_cityLine_26 : decode cX5_cityLine 26 = .ok (.istore_n 1, 1) := by decide +kernel
theorem dX5_cityLine_27 : decode cX5_cityLine 27 = .ok (.aload_n 0, 1) := by decide +kernel
theorem dX5_cityLine_28 : decode cX5_cityLine 28 = .ok (.iconst 2, 1) := by decide +kernel
theorem dX5_cityLine_29 : decode cX5_cityLine 29 = .ok (.iconst 5, 1) := by decide +kernel
theorem dX5_cityLine_30 : decode cX5_cityLine 30 = .ok (.invokevirtual 141, 3) := by decide +kernel
theorem dX5_cityLine_33 : decode cX5_cityLine 33 = .ok (.istore_n 2, 1) := by decide +kernel
theorem dX5_cityLine_34 : decode cX5_cityLine 34 = .ok (.aload_n 0, 1) := by decide +kernel
theorem dX5_cityLine_35 : decode cX5_cityLine 35 = .ok (.getfield 19, 3) := by decide +kernel
theorem dX5_cityLine_38 : decode cX5_cityLine 38 = .ok (.iload_n 1, 1) := by decide +kernel
theorem dX5_cityLine_39 : decode cX5_cityLine 39 = .ok (.iload_n 2, 1) := by decide +kernel
theorem dX5_cityLine_40 : decode cX5_cityLine 40 = .ok (.invokevirtual 153, 3) := by decide +kernel
theorem dX5_cityLine_43 : decode cX5_cityLine 43 = .ok (.return_, 1) := by decide +kernel
theorem dX5_crossingTold_0 : decode cX5_crossingTold 0 = .ok (.aload_n 0, 1) := by decide +kernel
theorem dX5_crossingTold_1 : decode cX5_crossingTold 1 = .ok (.getfield 19, 3) := by decide +kernel
theorem dX5_crossingTold_4 : decode cX5_crossingTold 4 = .ok (.getfield 150, 3) := by decide +kernel
theorem dX5_crossingTold_7 : decode cX5_crossingTold 7 = .ok (.ifCond .gt 10, 3) := by decide +kernel
theorem dX5_crossingTold_10 : decode cX5_crossingTold 10 = .ok (.aload_n 0, 1) := by decide +kernel
theorem dX5_crossingTold_11 : decode cX5_crossingTold 11 = .ok (.iconst 2, 1) := by decide +kernel
theorem dX5_crossingTold_12 : decode cX5_crossingTold 12 = .ok (.invokevirtual 76, 3) := by decide +kernel
theorem dX5_crossingTold_15 : decode cX5_crossingTold 15 = .ok (.iconst 0, 1) := by decide +kernel
theorem dX5_crossingTold_16 : decode cX5_crossingTold 16 = .ok (.ireturn, 1) := by decide +kernel
theorem dX5_crossingTold_17 : decode cX5_crossingTold 17 = .ok (.aload_n 0, 1) := by decide +kernel
theorem dX5_crossingTold_18 : decode cX5_crossingTold 18 = .ok (.invokevirtual 47, 3) := by decide +kernel
theorem dX5_crossingTold_21 : decode cX5_crossingTold 21 = .ok (.aload_n 0, 1) := by decide +kernel
theorem dX5_crossingTold_22 : decode cX5_crossingTold 22 = .ok (.iconst 0, 1) := by decide +kernel
theorem dX5_crossingTold_23 : decode cX5_crossingTold 23 = .ok (.aload_n 0, 1) := by decide +kernel
theorem dX5_crossingTold_24 : decode cX5_crossingTold 24 = .ok (.getfield 19, 3) := by decide +kernel
theorem dX5_crossingTold_27 : decode cX5_crossingTold 27 = .ok (.getfield 150, 3) := by decide +kernel
theorem dX5_crossingTold_30 : decode cX5_crossingTold 30 = .ok (.iconst 1, 1) := by decide +kernel
theorem dX5_crossingTold_31 : decode cX5_crossingTold 31 = .ok (.isub, 1) := by decide +kernel
theorem dX5_crossingTold_32 : decode cX5_crossingTold 32 = .ok (.invokevirtual 141, 3) := by decide +kernel
theorem dX5_crossingTold_35 : decode cX5_crossingTold 35 = .ok (.istore_n 1, 1) := by decide +kernel
theorem dX5_crossingTold_36 : decode cX5_crossingTold 36 = .ok (.aload_n 0, 1) := by decide +kernel
theorem dX5_crossingTold_37 : decode cX5_crossingTold 37 = .ok (.iconst 0, 1) := by decide +kernel
theorem dX5_crossingTold_38 : decode cX5_crossingTold 38 = .ok (.aload_n 0, 1) := by decide +kernel
theorem dX5_crossingTold_39 : decode cX5_crossingTold 39 = .ok (.getfield 19, 3) := by decide +kernel
theorem dX5_crossingTold_42 : decode cX5_crossingTold 42 = .ok (.getfield 157, 3) := by decide +kernel
theorem dX5_crossingTold_45 : decode cX5_crossingTold 45 = .ok (.iconst 1, 1) := by decide +kernel
theorem dX5_crossingTold_46 : decode cX5_crossingTold 46 = .ok (.isub, 1) := by decide +kernel
theorem dX5_crossingTold_47 : decode cX5_crossingTold 47 = .ok (.invokevirtual 141, 3) := by decide +kernel
theorem dX5_crossingTold_50 : decode cX5_crossingTold 50 = .ok (.istore_n 2, 1) := by decide +kernel
theorem dX5_crossingTold_51 : decode cX5_crossingTold 51 = .ok (.aload_n 0, 1) := by decide +kernel
theorem dX5_crossingTold_52 : decode cX5_crossingTold 52 = .ok (.getfield 19, 3) := by decide +kernel
theorem dX5_crossingTold_55 : decode cX5_crossingTold 55 = .ok (.getfield 150, 3) := by decide +kernel
theorem dX5_crossingTold_58 : decode cX5_crossingTold 58 = .ok (.iload_n 2, 1) := by decide +kernel
theorem dX5_crossingTold_59 : decode cX5_crossingTold 59 = .ok (.imul, 1) := by decide +kernel
theorem dX5_crossingTold_60 : decode cX5_crossingTold 60 = .ok (.iload_n 1, 1) := by decide +kernel
theorem dX5_crossingTold_61 : decode cX5_crossingTold 61 = .ok (.iadd, 1) := by decide +kernel
theorem dX5_crossingTold_62 : decode cX5_crossingTold 62 = .ok (.ireturn, 1) := by decide +kernel
theorem dX5_freeLine_0 : decode cX5_freeLine 0 = .ok (.aload_n 0, 1) := by decide +kernel
theorem dX5_freeLine_1 : decode cX5_freeLine 1 = .ok (.getfield 19, 3) := by decide +kernel
theorem dX5_freeLine_4 : decode cX5_freeLine 4 = .ok (.aload_n 0, 1) := by decide +kernel
theorem dX5_freeLine_5 : decode cX5_freeLine 5 = .ok (.invokevirtual 160, 3) := by decide +kernel
theorem dX5_freeLine_8 : decode cX5_freeLine 8 = .ok (.invokevirtual 166, 3) := by decide +kernel
theorem dX5_freeLine_11 : decode cX5_freeLine 11 = .ok (.return_, 1) := by decide +kernel
theorem dX5_heading_0 : decode cX5_heading 0 = .ok (.aload_n 0, 1) := by decide +kernel
theorem dX5_heading_1 : decode cX5_heading 1 = .ok (.ldc 183, 2) := by decide +kernel
theorem dX5_heading_3 : decode cX5_heading 3 = .ok (.invokevirtual 96, 3) := by decide +kernel
theorem dX5_heading_6 : decode cX5_heading 6 = .ok (.ifCond .eq 7, 3) := by decide +kernel
theorem dX5_heading_9 : decode cX5_heading 9 = .ok (.iconst 0, 1) := by decide +kernel
theorem dX5_heading_10 : decode cX5_heading 10 = .ok (.goto 43, 3) := by decide +kernel
theorem dX5_heading_13 : decode cX5_heading 13 = .ok (.aload_n 0, 1) := by decide +kernel
theorem dX5_heading_14 : decode cX5_heading 14 = .ok (.ldc 185, 2) := by decide +kernel
theorem dX5_heading_16 : decode cX5_heading 16 = .ok (.invokevirtual 96, 3) := by decide +kernel
theorem dX5_heading_19 : decode cX5_heading 19 = .ok (.ifCond .eq 7, 3) := by decide +kernel
theorem dX5_heading_22 : decode cX5_heading 22 = .ok (.iconst 1, 1) := by decide +kernel
theorem dX5_heading_23 : decode cX5_heading 23 = .ok (.goto 30, 3) := by decide +kernel
theorem dX5_heading_26 : decode cX5_heading 26 = .ok (.aload_n 0, 1) := by decide +kernel
theorem dX5_heading_27 : decode cX5_heading 27 = .ok (.ldc 187, 2) := by decide +kernel
theorem dX5_heading_29 : decode cX5_heading 29 = .ok (.invokevirtual 96, 3) := by decide +kernel
theorem dX5_heading_32 : decode cX5_heading 32 = .ok (.ifCond .eq 7, 3) := by decide +kernel
theorem dX5_heading_35 : decode cX5_heading 35 = .ok (.iconst 2, 1) := by decide +kernel
theorem dX5_heading_36 : decode cX5_heading 36 = .ok (.goto 17, 3) := by decide +kernel
theorem dX5_heading_39 : decode cX5_heading 39 = .ok (.aload_n 0, 1) := by decide +kernel
theorem dX5_heading_40 : decode cX5_heading 40 = .ok (.ldc 189, 2) := by decide +kernel
theorem dX5_heading_42 : decode cX5_heading 42 = .ok (.invokevirtual 96, 3) := by decide +kernel
theorem dX5_heading_45 : decode cX5_heading 45 = .ok (.ifCond .eq 7, 3) := by decide +kernel
theorem dX5_heading_48 : decode cX5_heading 48 = .ok (.iconst 3, 1) := by decide +kernel
theorem dX5_heading_49 : decode cX5_heading 49 = .ok (.goto 4, 3) := by decide +kernel
theorem dX5_heading_52 : decode cX5_heading 52 = .ok (.iconst (-1), 1) := by decide +kernel
theorem dX5_heading_53 : decode cX5_heading 53 = .ok (.istore_n 1, 1) := by decide +kernel
theorem dX5_heading_54 : decode cX5_heading 54 = .ok (.iload_n 1, 1) := by decide +kernel
theorem dX5_heading_55 : decode cX5_heading 55 = .ok (.ifCond .ge 10, 3) := by decide +kernel
theorem dX5_heading_58 : decode cX5_heading 58 = .ok (.aload_n 0, 1) := by decide +kernel
theorem dX5_heading_59 : decode cX5_heading 59 = .ok (.iconst 2, 1) := by decide +kernel
theorem dX5_heading_60 : decode cX5_heading 60 = .ok (.invokevirtual 76, 3) := by decide +kernel
theorem dX5_heading_63 : decode cX5_heading 63 = .ok (.iconst 0, 1) := by decide +kernel
theorem dX5_heading_64 : decode cX5_heading 64 = .ok (.ireturn, 1) := by decide +kernel
theorem dX5_heading_65 : decode cX5_heading 65 = .ok (.aload_n 0, 1) := by decide +kernel
theorem dX5_heading_66 : decode cX5_heading 66 = .ok (.invokevirtual 47, 3) := by decide +kernel
theorem dX5_heading_69 : decode cX5_heading 69 = .ok (.iload_n 1, 1) := by decide +kernel
theorem dX5_heading_70 : decode cX5_heading 70 = .ok (.ireturn, 1) := by decide +kernel
theorem dX5_personLine_0 : decode cX5_personLine 0 = .ok (.aload_n 0, 1) := by decide +kernel
theorem dX5_personLine_1 : decode cX5_personLine 1 = .ok (.getfield 19, 3) := by decide +kernel
theorem dX5_personLine_4 : decode cX5_personLine 4 = .ok (.getfield 150, 3) := by decide +kernel
theorem dX5_personLine_7 : decode cX5_personLine 7 = .ok (.ifCond .le 23, 3) := by decide +kernel
theorem dX5_personLine_10 : decode cX5_personLine 10 = .ok (.aload_n 0, 1) := by decide +kernel
theorem dX5_personLine_11 : decode cX5_personLine 11 = .ok (.getfield 19, 3) := by decide +kernel
theorem dX5_personLine_14 : decode cX5_personLine 14 = .ok (.getfield 137, 3) := by decide +kernel
theorem dX5_personLine_17 : decode cX5_personLine 17 = .ok (.getfield 169, 3) := by decide +kernel
theorem dX5_personLine_20 : decode cX5_personLine 20 = .ok (.iconst 5, 1) := by decide +kernel
theorem dX5_personLine_21 : decode cX5_personLine 21 = .ok (.if_icmp .lt 9, 3) := by decide +kernel
theorem dX5_personLine_24 : decode cX5_personLine 24 = .ok (.aload_n 0, 1) := by decide +kernel
theorem dX5_personLine_25 : decode cX5_personLine 25 = .ok (.iconst 4, 1) := by decide +kernel
theorem dX5_personLine_26 : decode cX5_personLine 26 = .ok (.invokevirtual 76, 3) := by decide +kernel
theorem dX5_personLine_29 : decode cX5_personLine 29 = .ok (.return_, 1) := by decide +kernel
theorem dX5_personLine_30 : decode cX5_personLine 30 = .ok (.aload_n 0, 1) := by decide +kernel
theorem dX5_personLine_31 : decode cX5_personLine 31 = .ok (.invokevirtual 160, 3) := by decide +kernel
theorem dX5_personLine_34 : decode cX5_personLine 34 = .ok (.istore_n 1, 1) := by decide +kernel
theorem dX5_personLine_35 : decode cX5_personLine 35 = .ok (.aload_n 0, 1) := by decide +kernel
theorem dX5_personLine_36 : decode cX5_personLine 36 = .ok (.invokevirtual 172, 3) := by decide +kernel
theorem dX5_personLine_39 : decode cX5_personLine 39 = .ok (.istore_n 2, 1) := by decide +kernel
theorem dX5_personLine_40 : decode cX5_personLine 40 = .ok (.iconst 0, 1) := by decide +kernel
theorem dX5_personLine_41 : decode cX5_personLine 41 = .ok (.istore_n 3, 1) := by decide +kernel
theorem dX5_personLine_42 : decode cX5_personLine 42 = .ok (.iconst 0, 1) := by decide +kernel
theorem dX5_personLine_43 : decode cX5_personLine 43 = .ok (.istore 4, 2) := by decide +kernel
theorem dX5_personLine_45 : decode cX5_personLine 45 = .ok (.aload_n 0, 1) := by decide +kernel
theorem dX5_personLine_46 : decode cX5_personLine 46 = .ok (.ldc 175, 2) := by decide +kernel
theorem dX5_personLine_48 : decode cX5_personLine 48 = .ok (.invokevirtual 96, 3) := by decide +kernel
theorem dX5_personLine_51 : decode cX5_personLine 51 = .ok (.ifCond .eq 15, 3) := by decide +kernel
theorem dX5_personLine_54 : decode cX5_personLine 54 = .ok (.aload_n 0, 1) := by decide +kernel
theorem dX5_personLine_55 : decode cX5_personLine 55 = .ok (.invokevirtual 47, 3) := by decide +kernel
theorem dX5_personLine_58 : decode cX5_personLine 58 = .ok (.aload_n 0, 1) := by decide +kernel
theorem dX5_personLine_59 : decode cX5_personLine 59 = .ok (.iconst 0, 1) := by decide +kernel
theorem dX5_personLine_60 : decode cX5_personLine 60 = .ok (.bipush 99, 2) := by decide +kernel
theorem dX5_personLine_62 : decode cX5_personLine 62 = .ok (.invokevirtual 141, 3) := by decide +kernel
theorem dX5_personLine_65 : decode cX5_personLine 65 = .ok (.istore_n 3, 1) := by decide +kernel
theorem dX5_personLine_66 : decode cX5_personLine 66 = .ok (.aload_n 0, 1) := by decide +kernel
theorem dX5_personLine_67 : decode cX5_personLine 67 = .ok (.ldc 177, 2) := by decide +kernel
theorem dX5_personLine_69 : decode cX5_personLine 69 = .ok (.invokevirtual 96, 3) := by decide +kernel
theorem dX5_personLine_72 : decode cX5_personLine 72 = .ok (.ifCond .eq 17, 3) := by decide +kernel
theorem dX5_personLine_75 : decode cX5_personLine 75 = .ok (.aload_n 0, 1) := by decide +kernel
theorem dX5_personLine_76 : decode cX5_personLine 76 = .ok (.invokevirtual 47, 3) := by decide +kernel
theorem dX5_personLine_79 : decode cX5_personLine 79 = .ok (.aload_n 0, 1) := by decide +kernel
theorem dX5_personLine_80 : decode cX5_personLine 80 = .ok (.iconst 0, 1) := by decide +kernel
theorem dX5_personLine_81 : decode cX5_personLine 81 = .ok (.sipush 999, 3) := by decide +kernel
theorem dX5_personLine_84 : decode cX5_personLine 84 = .ok (.invokevirtual 141, 3) := by decide +kernel
theorem dX5_personLine_87 : decode cX5_personLine 87 = .ok (.istore 4, 2) := by decide +kernel
theorem dX5_personLine_89 : decode cX5_personLine 89 = .ok (.aload_n 0, 1) := by decide +kernel
theorem dX5_personLine_90 : decode cX5_personLine 90 = .ok (.getfield 19, 3) := by decide +kernel
theorem dX5_personLine_93 : decode cX5_personLine 93 = .ok (.getfield 137, 3) := by decide +kernel
theorem dX5_personLine_96 : decode cX5_personLine 96 = .ok (.iload_n 1, 1) := by decide +kernel
theorem dX5_personLine_97 : decode cX5_personLine 97 = .ok (.iload_n 2, 1) := by decide +kernel
theorem dX5_personLine_98 : decode cX5_personLine 98 = .ok (.iload_n 3, 1) := by decide +kernel
theorem dX5_personLine_99 : decode cX5_personLine 99 = .ok (.iload 4, 2) := by decide +kernel
theorem dX5_personLine_101 : decode cX5_personLine 101 = .ok (.invokevirtual 179, 3) := by decide +kernel
theorem dX5_personLine_104 : decode cX5_personLine 104 = .ok (.return_, 1) := by decide +kernel
theorem dX5_wallLine_0 : decode cX5_wallLine 0 = .ok (.aload_n 0, 1) := by decide +kernel
theorem dX5_wallLine_1 : decode cX5_wallLine 1 = .ok (.invokevirtual 160, 3) := by decide +kernel
theorem dX5_wallLine_4 : decode cX5_wallLine 4 = .ok (.istore_n 1, 1) := by decide +kernel
theorem dX5_wallLine_5 : decode cX5_wallLine 5 = .ok (.aload_n 0, 1) := by decide +kernel
theorem dX5_wallLine_6 : decode cX5_wallLine 6 = .ok (.getfield 19, 3) := by decide +kernel
theorem dX5_wallLine_9 : decode cX5_wallLine 9 = .ok (.iload_n 1, 1) := by decide +kernel
theorem dX5_wallLine_10 : decode cX5_wallLine 10 = .ok (.aload_n 0, 1) := by decide +kernel
theorem dX5_wallLine_11 : decode cX5_wallLine 11 = .ok (.iconst 0, 1) := by decide +kernel
theorem dX5_wallLine_12 : decode cX5_wallLine 12 = .ok (.iconst 3, 1) := by decide +kernel
theorem dX5_wallLine_13 : decode cX5_wallLine 13 = .ok (.invokevirtual 141, 3) := by decide +kernel
theorem dX5_wallLine_16 : decode cX5_wallLine 16 = .ok (.invokevirtual 163, 3) := by decide +kernel
theorem dX5_wallLine_19 : decode cX5_wallLine 19 = .ok (.return_, 1) := by decide +kernel
theorem o23_1 {x0 : Int} (h0 : x0 = 2) : 2 ≤ x0 := by omega
theorem o23_2 {x0 : Int} (h0 : x0 = 2) : x0 ≤ 2 := by omega
theorem o23_3 {x0 : Int} (h0 : x0 = 5) : 5 ≤ x0 := by omega
theorem o23_4 {x0 : Int} (h0 : x0 = 5) : x0 ≤ 5 := by omega
theorem o23_5 {x0 : Int} (h0 : 2 ≤ x0) (h1 : x0 ≤ 5) : 2 ≤ x0 := by omega
theorem o23_6 {x0 : Int} (h0 : 2 ≤ x0) (h1 : x0 ≤ 5) : x0 ≤ 5 := by omega
theorem o23_7 {x0 x1 x2 : Int} (h0 : 0 ≤ x2) (h1 : x2 ≤ 5) (h2 : 0 < x2) (h3 : 0 ≤ x0) (h4 : x0 ≤ 5) (h5 : x0 = x2) (h6 : x1 = 1) (h7 : -2147483648 ≤ x0) (h8 : x0 ≤ 2147483647) (h9 : -2147483648 ≤ x1) (h10 : x1 ≤ 2147483647) (h11 : -2147483648 ≤ x2) (h12 : x2 ≤ 2147483647) : -2147483648 ≤ x0 - x1 := by omega
theorem o23_8 {x0 x1 x2 : Int} (h0 : 0 ≤ x2) (h1 : x2 ≤ 5) (h2 : 0 < x2) (h3 : 0 ≤ x0) (h4 : x0 ≤ 5) (h5 : x0 = x2) (h6 : x1 = 1) (h7 : -2147483648 ≤ x0) (h8 : x0 ≤ 2147483647) (h9 : -2147483648 ≤ x1) (h10 : x1 ≤ 2147483647) (h11 : -2147483648 ≤ x2) (h12 : x2 ≤ 2147483647) : x0 - x1 ≤ 2147483647 := by omega
theorem o23_9 {x0 : Int} (h0 : x0 = 0) : 0 ≤ x0 := by omega
theorem o23_10 {x0 : Int} (h0 : x0 = 0) : x0 ≤ 0 := by omega
theorem o23_11 {x0 x1 x2 x3 : Int} (h0 : 0 ≤ x1) (h1 : x1 ≤ 5) (h2 : 0 < x1) (h3 : 0 ≤ x2) (h4 : x2 ≤ 5) (h5 : x2 = x1) (h6 : x3 = 1) (h7 : x0 = x2 - x3) : (-1) ≤ x0 := by omega
theorem o23_12 {x0 x1 x2 x3 : Int} (h0 : 0 ≤ x1) (h1 : x1 ≤ 5) (h2 : 0 < x1) (h3 : 0 ≤ x2) (h4 : x2 ≤ 5) (h5 : x2 = x1) (h6 : x3 = 1) (h7 : x0 = x2 - x3) : x0 ≤ 4 := by omega
theorem o23_13 {x0 x1 : Int} (h0 : 0 ≤ x0) (h1 : x0 ≤ 5) (h2 : x1 = 1) (h3 : -2147483648 ≤ x0) (h4 : x0 ≤ 2147483647) (h5 : -2147483648 ≤ x1) (h6 : x1 ≤ 2147483647) : -2147483648 ≤ x0 - x1 := by omega
theorem o23_14 {x0 x1 : Int} (h0 : 0 ≤ x0) (h1 : x0 ≤ 5) (h2 : x1 = 1) (h3 : -2147483648 ≤ x0) (h4 : x0 ≤ 2147483647) (h5 : -2147483648 ≤ x1) (h6 : x1 ≤ 2147483647) : x0 - x1 ≤ 2147483647 := by omega
theorem o23_15 {x0 x1 x2 : Int} (h0 : 0 ≤ x1) (h1 : x1 ≤ 5) (h2 : x2 = 1) (h3 : x0 = x1 - x2) : (-1) ≤ x0 := by omega
theorem o23_16 {x0 x1 x2 : Int} (h0 : 0 ≤ x1) (h1 : x1 ≤ 5) (h2 : x2 = 1) (h3 : x0 = x1 - x2) : x0 ≤ 4 := by omega
theorem o23_17 {x0 x1 x2 x3 x4 : Int} (h0 : 0 ≤ x1) (h1 : x1 ≤ 5) (h2 : 0 < x1) (h3 : 0 ≤ x2) (h4 : x2 ≤ 5) (h5 : x2 = x1) (h6 : x3 = 1) (h7 : x4 = x2 - x3) (h8 : 0 ≤ x0) (h9 : x0 ≤ 5) (h10 : x0 = x1) : 1 ≤ x0 := by omega
theorem o23_18 {x0 x1 x2 x3 x4 : Int} (h0 : 0 ≤ x1) (h1 : x1 ≤ 5) (h2 : 0 < x1) (h3 : 0 ≤ x2) (h4 : x2 ≤ 5) (h5 : x2 = x1) (h6 : x3 = 1) (h7 : x4 = x2 - x3) (h8 : 0 ≤ x0) (h9 : x0 ≤ 5) (h10 : x0 = x1) : x0 ≤ 5 := by omega
theorem o23_19 {x0 : Int} (h0 : 0 ≤ x0) (h1 : x0 ≤ 4) : 0 ≤ x0 := by omega
theorem o23_20 {x0 : Int} (h0 : 0 ≤ x0) (h1 : x0 ≤ 4) : x0 ≤ 4 := by omega
theorem o23_21 {x0 x1 : Int} (h0 : 0 ≤ x1) (h1 : x1 ≤ 4) (h2 : 1 * 0 ≤ x0) (h3 : x0 ≤ 5 * 4) (h4 : -2147483648 ≤ x0) (h5 : x0 ≤ 2147483647) (h6 : -2147483648 ≤ x1) (h7 : x1 ≤ 2147483647) : -2147483648 ≤ x0 + x1 := by omega
theorem o23_22 {x0 x1 : Int} (h0 : 0 ≤ x1) (h1 : x1 ≤ 4) (h2 : 1 * 0 ≤ x0) (h3 : x0 ≤ 5 * 4) (h4 : -2147483648 ≤ x0) (h5 : x0 ≤ 2147483647) (h6 : -2147483648 ≤ x1) (h7 : x1 ≤ 2147483647) : x0 + x1 ≤ 2147483647 := by omega
theorem o23_23 {x0 x1 x2 : Int} (h0 : 0 ≤ x1) (h1 : x1 ≤ 4) (h2 : 1 * 0 ≤ x2) (h3 : x2 ≤ 5 * 4) (h4 : x0 = x2 + x1) : 0 ≤ x0 := by omega
theorem o23_24 {x0 x1 x2 : Int} (h0 : 0 ≤ x1) (h1 : x1 ≤ 4) (h2 : 1 * 0 ≤ x2) (h3 : x2 ≤ 5 * 4) (h4 : x0 = x2 + x1) : x0 ≤ 24 := by omega
theorem o23_25 {x0 : Int} (h0 : x0 = 0) : x0 ≤ 24 := by omega
theorem o23_26 {x0 : Int} (h0 : x0 = 3) : 3 ≤ x0 := by omega
theorem o23_27 {x0 : Int} (h0 : x0 = 3) : x0 ≤ 3 := by omega
theorem o23_28 {x0 : Int} (h0 : 0 ≤ x0) (h1 : x0 ≤ 24) : 0 ≤ x0 := by omega
theorem o23_29 {x0 : Int} (h0 : 0 ≤ x0) (h1 : x0 ≤ 24) : x0 ≤ 24 := by omega
theorem o23_30 {x0 : Int} (h0 : 0 ≤ x0) (h1 : x0 ≤ 3) : 0 ≤ x0 := by omega
theorem o23_31 {x0 : Int} (h0 : 0 ≤ x0) (h1 : x0 ≤ 3) : x0 ≤ 3 := by omega
theorem o23_32 {x0 : Int} (h0 : x0 = (-1)) (h1 : 0 ≤ x0) : False := by omega
theorem o23_33 {x0 : Int} (h0 : x0 = 0) : x0 ≤ 3 := by omega
theorem o23_34 {x0 : Int} (h0 : x0 = 3) (h1 : x0 < 0) : False := by omega
theorem o23_35 {x0 : Int} (h0 : x0 = 3) (h1 : 0 ≤ x0) : 0 ≤ x0 := by omega
theorem o23_36 {x0 : Int} (h0 : x0 = 3) (h1 : 0 ≤ x0) : x0 ≤ 3 := by omega
theorem o23_37 {x0 : Int} (h0 : x0 = 2) (h1 : x0 < 0) : False := by omega
theorem o23_38 {x0 : Int} (h0 : x0 = 2) (h1 : 0 ≤ x0) : 0 ≤ x0 := by omega
theorem o23_39 {x0 : Int} (h0 : x0 = 2) (h1 : 0 ≤ x0) : x0 ≤ 3 := by omega
theorem o23_40 {x0 : Int} (h0 : x0 = 1) (h1 : x0 < 0) : False := by omega
theorem o23_41 {x0 : Int} (h0 : x0 = 1) (h1 : 0 ≤ x0) : 0 ≤ x0 := by omega
theorem o23_42 {x0 : Int} (h0 : x0 = 1) (h1 : 0 ≤ x0) : x0 ≤ 3 := by omega
theorem o23_43 {x0 : Int} (h0 : x0 = 0) (h1 : x0 < 0) : False := by omega
theorem o23_44 {x0 : Int} (h0 : x0 = 0) (h1 : 0 ≤ x0) : 0 ≤ x0 := by omega
theorem o23_45 {x0 : Int} (h0 : x0 = 0) (h1 : 0 ≤ x0) : x0 ≤ 3 := by omega
theorem o23_46 {x0 : Int} (h0 : x0 = 999) : 999 ≤ x0 := by omega
theorem o23_47 {x0 : Int} (h0 : x0 = 999) : x0 ≤ 999 := by omega
theorem o23_48 {x0 : Int} (h0 : x0 = 99) : 99 ≤ x0 := by omega
theorem o23_49 {x0 : Int} (h0 : x0 = 99) : x0 ≤ 99 := by omega
theorem o23_50 {x0 : Int} (h0 : x0 = 58) : 0 ≤ x0 := by omega
theorem o23_51 {x0 : Int} (h0 : x0 = 58) : x0 ≤ 65535 := by omega
set_option maxHeartbeats 4000000 in
set_option maxRecDepth 100000 in
theorem c_X5_cityLine (l : Launch) (G : GG) (Z : RZ) (ad : Nat → Nat) (ws0 : va_W) (hT : Ty G (SC tt) ad ws0) (hR : Rel ws0) : Mq l yX5_cityLine cX5_cityLine 3 none 7 G Z [.ref (ad 77)] ws0 (PV G (SC tt) ad [1, 14, 15, 16] ws0 (fun u => (Rel u))) := by
  refine Mq.start (by decide) (Nat.le_of_ble_eq_true rfl) ?_
  intro p e s m below meth c A ls C0 hZ h hl
  have hl : lv_has ls 3 [(0, .ref (ad 77))] := hl
  have h : Wt G (SC tt) ad A s s.heap [] ws0 := ⟨h, hT⟩
  obtain ⟨args, hargs⟩ : ∃ z, z = ([.ref (ad 77)] : List Value).toArray := ⟨_, rfl⟩
  rw [← hargs] at C0 ⊢
  have C0 : Cx p s m args meth c RX5 cX5_cityLine 3 none := C0
  obtain ⟨Q, hQ⟩ : ∃ z, z = MQ below ((PV G (SC tt) ad [1, 14, 15, 16] ws0 (fun u => (Rel u))) A) args s 0 0 A := ⟨_, rfl⟩
  rw [← hQ]
  refine lv_aload_n C0.1 C0.2.1 dX5_cityLine_0 rfl (lv_at hl 0 rfl) ?_
  refine tg_X5_city C0 h kSC_77 q_370 dX5_cityLine_1 ?_
  refine tg_X0_wide C0 h kSC_20 q_258 dX5_cityLine_4 (fun v_1 e_2 e_3 e_4 => ?_)
  refine y_if_le (tgt := 16) C0 dX5_cityLine_7 (by decide) (fun c_5 => ?_) (fun c_5 => ?_)
  · -- 7
    refine lv_aload_n C0.1 C0.2.1 dX5_cityLine_16 rfl (lv_at hl 0 rfl) ?_
    refine y_cv h (y_rV (As := []) (rest := []) C0 hZ h (c_X5_advance l G Z ad _ h.2) k_X5_advance q_616 q_0 q_614 kSC_77 rfl rfl rfl hl.1 rfl rfl (Nat.le_of_ble_eq_true rfl) dX5_cityLine_17 ⟨Nat.le_of_ble_eq_true rfl, Nat.le_of_ble_eq_true rfl⟩ ⟨Nat.le_of_ble_eq_true rfl, Nat.le_of_ble_eq_true rfl⟩) (fun H locs ws_6 h u_7 p_8 => ?_)
    refine lv_aload_n C0.1 C0.2.1 dX5_cityLine_20 rfl (lv_at hl 0 rfl) ?_
    refine y_c1 (n := 2) C0 (by decide) dX5_cityLine_21 (fun v_9 e_10 => ?_)
    refine y_c1 (n := 5) C0 (by decide) dX5_cityLine_22 (fun v_11 e_12 => ?_)
    refine y_ci h (y_rV (As := [.int v_9, .int v_11]) (rest := []) C0 hZ h (c_X5_boundeda l G Z ad _ h.2 v_9 v_11 (o23_1 e_10) (o23_2 e_10) (o23_3 e_12) (o23_4 e_12)) k_X5_bounded q_753 q_7 q_751 kSC_77 rfl rfl rfl hl.1 rfl rfl (Nat.le_of_ble_eq_true rfl) dX5_cityLine_23 ⟨Nat.le_of_ble_eq_true rfl, Nat.le_of_ble_eq_true rfl⟩ ⟨Nat.le_of_ble_eq_true rfl, Nat.le_of_ble_eq_true rfl⟩) (fun r_16 H locs ws_13 h u_14 p_15 => ?_)
    obtain ⟨e_17, e_18⟩ := p_15
    refine lv_istore_n (lv' := [(1, .int r_16), (0, .ref (ad 77))]) C0.1 C0.2.1 dX5_cityLine_26 rfl hl (by decide) rfl (fun ls hl => ?_)
    refine lv_aload_n C0.1 C0.2.1 dX5_cityLine_27 rfl (lv_at hl 1 rfl) ?_
    refine y_c1 (n := 2) C0 (by decide) dX5_cityLine_28 (fun v_19 e_20 => ?_)
    refine y_c1 (n := 5) C0 (by decide) dX5_cityLine_29 (fun v_21 e_22 => ?_)
    refine y_ci h (y_rV (As := [.int v_19, .int v_21]) (rest := []) C0 hZ h (c_X5_boundeda l G Z ad _ h.2 v_19 v_21 (o23_1 e_20) (o23_2 e_20) (o23_3 e_22) (o23_4 e_22)) k_X5_bounded q_753 q_7 q_751 kSC_77 rfl rfl rfl hl.1 rfl rfl (Nat.le_of_ble_eq_true rfl) dX5_cityLine_30 ⟨Nat.le_of_ble_eq_true rfl, Nat.le_of_ble_eq_true rfl⟩ ⟨Nat.le_of_ble_eq_true rfl, Nat.le_of_ble_eq_true rfl⟩) (fun r_26 H locs ws_23 h u_24 p_25 => ?_)
    obtain ⟨e_27, e_28⟩ := p_25
    refine lv_istore_n (lv' := [(2, .int r_26), (1, .int r_16), (0, .ref (ad 77))]) C0.1 C0.2.1 dX5_cityLine_33 rfl hl (by decide) rfl (fun ls hl => ?_)
    refine lv_aload_n C0.1 C0.2.1 dX5_cityLine_34 rfl (lv_at hl 2 rfl) ?_
    refine tg_X5_city C0 h kSC_77 q_370 dX5_cityLine_35 ?_
    refine lv_iload_n C0.1 C0.2.1 dX5_cityLine_38 rfl (lv_at hl 1 rfl) ?_
    refine lv_iload_n C0.1 C0.2.1 dX5_cityLine_39 rfl (lv_at hl 0 rfl) ?_
    refine y_cv h (y_rV (As := [.int r_16, .int r_26]) (rest := []) C0 hZ h (c_X0_lay l G Z ad _ h.2 20 kSC_20 r_16 r_26 (o23_5 e_17 e_18) (o23_6 e_17 e_18) (o23_5 e_27 e_28) (o23_6 e_27 e_28) (Rel.fr (M := [16]) hR (Fr.tr (Fr.tr u_7 u_14) u_24) (by decide) (by decide))) k_X0_lay q_756 q_757 q_755 kSC_20 rfl rfl rfl hl.1 rfl rfl (Nat.le_of_ble_eq_true rfl) dX5_cityLine_40 ⟨Nat.le_of_ble_eq_true rfl, Nat.le_of_ble_eq_true rfl⟩ ⟨Nat.le_of_ble_eq_true rfl, Nat.le_of_ble_eq_true rfl⟩) (fun H locs ws_29 h u_30 p_31 => ?_)
    have e_32 := p_31
    rw [hQ]
    exact y_vret C0 h (Fr.tr (Fr.tr (Fr.tr (Fr.mono u_7 (by decide)) (Fr.mono u_14 (by decide))) (Fr.mono u_24 (by decide))) (Fr.mono u_30 (by decide))) e_32 dX5_cityLine_43
  · -- 7
    refine lv_aload_n C0.1 C0.2.1 dX5_cityLine_10 rfl (lv_at hl 0 rfl) ?_
    refine y_c1 (n := 2) C0 (by decide) dX5_cityLine_11 (fun v_33 e_34 => ?_)
    refine y_cv h (y_rV (As := [.int v_33]) (rest := []) C0 hZ h (c_X5_fail l G Z ad _ h.2 v_33) k_X5_fail q_628 q_3 q_626 kSC_77 rfl rfl rfl hl.1 rfl rfl (Nat.le_of_ble_eq_true rfl) dX5_cityLine_12 ⟨Nat.le_of_ble_eq_true rfl, Nat.le_of_ble_eq_true rfl⟩ ⟨Nat.le_of_ble_eq_true rfl, Nat.le_of_ble_eq_true rfl⟩) (fun H locs ws_35 h u_36 p_37 => ?_)
    rw [hQ]
    exact y_vret C0 h (Fr.mono u_36 (by decide)) (Rel.fr (M := [16]) hR u_36 (by decide) (by decide)) dX5_cityLine_15
set_option maxHeartbeats 4000000 in
set_option maxRecDepth 100000 in
theorem c_X5_crossingTold (l : Launch) (G : GG) (Z : RZ) (ad : Nat → Nat) (ws0 : va_W) (hT : Ty G (SC tt) ad ws0) : Mq l yX5_crossingTold cX5_crossingTold 3 (some .int) 7 G Z [.ref (ad 77)] ws0 (PI G (SC tt) ad [16] ws0 (fun r u => (0 ≤ r.toInt) ∧ (r.toInt ≤ 24))) := by
  refine Mq.start (by decide) (Nat.le_of_ble_eq_true rfl) ?_
  intro p e s m below meth c A ls C0 hZ h hl
  have hl : lv_has ls 3 [(0, .ref (ad 77))] := hl
  have h : Wt G (SC tt) ad A s s.heap [] ws0 := ⟨h, hT⟩
  obtain ⟨args, hargs⟩ : ∃ z, z = ([.ref (ad 77)] : List Value).toArray := ⟨_, rfl⟩
  rw [← hargs] at C0 ⊢
  have C0 : Cx p s m args meth c RX5 cX5_crossingTold 3 (some .int) := C0
  obtain ⟨Q, hQ⟩ : ∃ z, z = MQ below ((PI G (SC tt) ad [16] ws0 (fun r u => (0 ≤ r.toInt) ∧ (r.toInt ≤ 24))) A) args s 0 0 A := ⟨_, rfl⟩
  rw [← hQ]
  refine lv_aload_n C0.1 C0.2.1 dX5_crossingTold_0 rfl (lv_at hl 0 rfl) ?_
  refine tg_X5_city C0 h kSC_77 q_370 dX5_crossingTold_1 ?_
  refine tg_X0_wide C0 h kSC_20 q_258 dX5_crossingTold_4 (fun v_1 e_2 e_3 e_4 => ?_)
  refine y_if_gt (tgt := 17) C0 dX5_crossingTold_7 (by decide) (fun c_5 => ?_) (fun c_5 => ?_)
  · -- 7
    refine lv_aload_n C0.1 C0.2.1 dX5_crossingTold_17 rfl (lv_at hl 0 rfl) ?_
    refine y_cv h (y_rV (As := []) (rest := []) C0 hZ h (c_X5_advance l G Z ad _ h.2) k_X5_advance q_616 q_0 q_614 kSC_77 rfl rfl rfl hl.1 rfl rfl (Nat.le_of_ble_eq_true rfl) dX5_crossingTold_18 ⟨Nat.le_of_ble_eq_true rfl, Nat.le_of_ble_eq_true rfl⟩ ⟨Nat.le_of_ble_eq_true rfl, Nat.le_of_ble_eq_true rfl⟩) (fun H locs ws_6 h u_7 p_8 => ?_)
    refine lv_aload_n C0.1 C0.2.1 dX5_crossingTold_21 rfl (lv_at hl 0 rfl) ?_
    refine y_c1 (n := 0) C0 (by decide) dX5_crossingTold_22 (fun v_9 e_10 => ?_)
    refine lv_aload_n C0.1 C0.2.1 dX5_crossingTold_23 rfl (lv_at hl 0 rfl) ?_
    refine tg_X5_city C0 h kSC_77 q_370 dX5_crossingTold_24 ?_
    refine tg_X0_wide C0 h kSC_20 q_258 dX5_crossingTold_27 (fun v_11 e_12 e_13 e_14 => ?_)
    have q_15 : v_11.toInt = v_1.toInt := congrArg Int32.toInt (e_12.symm.trans (Eq.trans (Fr.fI u_7 kSC_20 (by decide)) e_2))
    refine y_c1 (n := 1) C0 (by decide) dX5_crossingTold_30 (fun v_16 e_17 => ?_)
    refine y_sub C0 (o23_7 e_3 e_4 c_5 e_13 e_14 q_15 e_17 (le_min v_11) (le_max v_11) (le_min v_16) (le_max v_16) (le_min v_1) (le_max v_1)) (o23_8 e_3 e_4 c_5 e_13 e_14 q_15 e_17 (le_min v_11) (le_max v_11) (le_min v_16) (le_max v_16) (le_min v_1) (le_max v_1)) dX5_crossingTold_31 (fun v_18 e_19 => ?_)
    refine y_ci h (y_rV (As := [.int v_9, .int v_18]) (rest := []) C0 hZ h (c_X5_boundedb l G Z ad _ h.2 v_9 v_18 (o23_9 e_10) (o23_10 e_10) (o23_11 e_3 e_4 c_5 e_13 e_14 q_15 e_17 e_19) (o23_12 e_3 e_4 c_5 e_13 e_14 q_15 e_17 e_19)) k_X5_bounded q_753 q_7 q_751 kSC_77 rfl rfl rfl hl.1 rfl rfl (Nat.le_of_ble_eq_true rfl) dX5_crossingTold_32 ⟨Nat.le_of_ble_eq_true rfl, Nat.le_of_ble_eq_true rfl⟩ ⟨Nat.le_of_ble_eq_true rfl, Nat.le_of_ble_eq_true rfl⟩) (fun r_23 H locs ws_20 h u_21 p_22 => ?_)
    obtain ⟨e_24, e_25⟩ := p_22
    refine lv_istore_n (lv' := [(1, .int r_23), (0, .ref (ad 77))]) C0.1 C0.2.1 dX5_crossingTold_35 rfl hl (by decide) rfl (fun ls hl => ?_)
    refine lv_aload_n C0.1 C0.2.1 dX5_crossingTold_36 rfl (lv_at hl 1 rfl) ?_
    refine y_c1 (n := 0) C0 (by decide) dX5_crossingTold_37 (fun v_26 e_27 => ?_)
    refine lv_aload_n C0.1 C0.2.1 dX5_crossingTold_38 rfl (lv_at hl 1 rfl) ?_
    refine tg_X5_city C0 h kSC_77 q_370 dX5_crossingTold_39 ?_
    refine tg_X0_high C0 h kSC_20 q_261 dX5_crossingTold_42 (fun v_28 e_29 e_30 e_31 => ?_)
    refine y_c1 (n := 1) C0 (by decide) dX5_crossingTold_45 (fun v_32 e_33 => ?_)
    refine y_sub C0 (o23_13 e_30 e_31 e_33 (le_min v_28) (le_max v_28) (le_min v_32) (le_max v_32)) (o23_14 e_30 e_31 e_33 (le_min v_28) (le_max v_28) (le_min v_32) (le_max v_32)) dX5_crossingTold_46 (fun v_34 e_35 => ?_)
    refine y_ci h (y_rV (As := [.int v_26, .int v_34]) (rest := []) C0 hZ h (c_X5_boundedb l G Z ad _ h.2 v_26 v_34 (o23_9 e_27) (o23_10 e_27) (o23_15 e_30 e_31 e_33 e_35) (o23_16 e_30 e_31 e_33 e_35)) k_X5_bounded q_753 q_7 q_751 kSC_77 rfl rfl rfl hl.1 rfl rfl (Nat.le_of_ble_eq_true rfl) dX5_crossingTold_47 ⟨Nat.le_of_ble_eq_true rfl, Nat.le_of_ble_eq_true rfl⟩ ⟨Nat.le_of_ble_eq_true rfl, Nat.le_of_ble_eq_true rfl⟩) (fun r_39 H locs ws_36 h u_37 p_38 => ?_)
    obtain ⟨e_40, e_41⟩ := p_38
    refine lv_istore_n (lv' := [(2, .int r_39), (1, .int r_23), (0, .ref (ad 77))]) C0.1 C0.2.1 dX5_crossingTold_50 rfl hl (by decide) rfl (fun ls hl => ?_)
    refine lv_aload_n C0.1 C0.2.1 dX5_crossingTold_51 rfl (lv_at hl 2 rfl) ?_
    refine tg_X5_city C0 h kSC_77 q_370 dX5_crossingTold_52 ?_
    refine tg_X0_wide C0 h kSC_20 q_258 dX5_crossingTold_55 (fun v_42 e_43 e_44 e_45 => ?_)
    have q_46 : v_42.toInt = v_1.toInt := congrArg Int32.toInt (e_43.symm.trans (Eq.trans (Eq.trans (Fr.fI u_37 kSC_20 (by decide)) (Eq.trans (Fr.fI u_21 kSC_20 (by decide)) (Fr.fI u_7 kSC_20 (by decide)))) e_2))
    refine lv_iload_n C0.1 C0.2.1 dX5_crossingTold_58 rfl (lv_at hl 0 rfl) ?_
    refine y_mulb (la := 1) (ha := 5) (lb := 0) (hb := 4) C0 (by decide) (o23_17 e_3 e_4 c_5 e_13 e_14 q_15 e_17 e_19 e_44 e_45 q_46) (o23_18 e_3 e_4 c_5 e_13 e_14 q_15 e_17 e_19 e_44 e_45 q_46) (by decide) (o23_19 e_40 e_41) (o23_20 e_40 e_41) (by decide) dX5_crossingTold_59 (fun v_47 e_48 e_49 e_50 => ?_)
    refine lv_iload_n C0.1 C0.2.1 dX5_crossingTold_60 rfl (lv_at hl 1 rfl) ?_
    refine y_add C0 (o23_21 e_24 e_25 e_49 e_50 (le_min v_47) (le_max v_47) (le_min r_23) (le_max r_23)) (o23_22 e_24 e_25 e_49 e_50 (le_min v_47) (le_max v_47) (le_min r_23) (le_max r_23)) dX5_crossingTold_61 (fun v_51 e_52 => ?_)
    rw [hQ]
    exact y_iret C0 h (Fr.tr (Fr.tr u_7 u_21) u_37) ⟨(o23_23 e_24 e_25 e_49 e_50 e_52), (o23_24 e_24 e_25 e_49 e_50 e_52)⟩ dX5_crossingTold_62
  · -- 7
    refine lv_aload_n C0.1 C0.2.1 dX5_crossingTold_10 rfl (lv_at hl 0 rfl) ?_
    refine y_c1 (n := 2) C0 (by decide) dX5_crossingTold_11 (fun v_53 e_54 => ?_)
    refine y_cv h (y_rV (As := [.int v_53]) (rest := []) C0 hZ h (c_X5_fail l G Z ad _ h.2 v_53) k_X5_fail q_628 q_3 q_626 kSC_77 rfl rfl rfl hl.1 rfl rfl (Nat.le_of_ble_eq_true rfl) dX5_crossingTold_12 ⟨Nat.le_of_ble_eq_true rfl, Nat.le_of_ble_eq_true rfl⟩ ⟨Nat.le_of_ble_eq_true rfl, Nat.le_of_ble_eq_true rfl⟩) (fun H locs ws_55 h u_56 p_57 => ?_)
    refine y_c1 (n := 0) C0 (by decide) dX5_crossingTold_15 (fun v_58 e_59 => ?_)
    rw [hQ]
    exact y_iret C0 h u_56 ⟨(o23_9 e_59), (o23_25 e_59)⟩ dX5_crossingTold_16
set_option maxHeartbeats 4000000 in
set_option maxRecDepth 100000 in
theorem c_X5_wallLine (l : Launch) (G : GG) (Z : RZ) (ad : Nat → Nat) (ws0 : va_W) (hT : Ty G (SC tt) ad ws0) (hR : Rel ws0) : Mq l yX5_wallLine cX5_wallLine 2 none 8 G Z [.ref (ad 77)] ws0 (PV G (SC tt) ad [14, 16] ws0 (fun u => (Rel u))) := by
  refine Mq.start (by decide) (Nat.le_of_ble_eq_true rfl) ?_
  intro p e s m below meth c A ls C0 hZ h hl
  have hl : lv_has ls 2 [(0, .ref (ad 77))] := hl
  have h : Wt G (SC tt) ad A s s.heap [] ws0 := ⟨h, hT⟩
  obtain ⟨args, hargs⟩ : ∃ z, z = ([.ref (ad 77)] : List Value).toArray := ⟨_, rfl⟩
  rw [← hargs] at C0 ⊢
  have C0 : Cx p s m args meth c RX5 cX5_wallLine 2 none := C0
  obtain ⟨Q, hQ⟩ : ∃ z, z = MQ below ((PV G (SC tt) ad [14, 16] ws0 (fun u => (Rel u))) A) args s 0 0 A := ⟨_, rfl⟩
  rw [← hQ]
  refine lv_aload_n C0.1 C0.2.1 dX5_wallLine_0 rfl (lv_at hl 0 rfl) ?_
  refine y_ci h (y_rV (As := []) (rest := []) C0 hZ h (c_X5_crossingTold l G Z ad _ h.2) k_X5_crossingTold q_766 q_9 q_764 kSC_77 rfl rfl rfl hl.1 rfl rfl (Nat.le_of_ble_eq_true rfl) dX5_wallLine_1 ⟨Nat.le_of_ble_eq_true rfl, Nat.le_of_ble_eq_true rfl⟩ ⟨Nat.le_of_ble_eq_true rfl, Nat.le_of_ble_eq_true rfl⟩) (fun r_4 H locs ws_1 h u_2 p_3 => ?_)
  obtain ⟨e_5, e_6⟩ := p_3
  refine lv_istore_n (lv' := [(1, .int r_4), (0, .ref (ad 77))]) C0.1 C0.2.1 dX5_wallLine_4 rfl hl (by decide) rfl (fun ls hl => ?_)
  refine lv_aload_n C0.1 C0.2.1 dX5_wallLine_5 rfl (lv_at hl 1 rfl) ?_
  refine tg_X5_city C0 h kSC_77 q_370 dX5_wallLine_6 ?_
  refine lv_iload_n C0.1 C0.2.1 dX5_wallLine_9 rfl (lv_at hl 0 rfl) ?_
  refine lv_aload_n C0.1 C0.2.1 dX5_wallLine_10 rfl (lv_at hl 1 rfl) ?_
  refine y_c1 (n := 0) C0 (by decide) dX5_wallLine_11 (fun v_7 e_8 => ?_)
  refine y_c1 (n := 3) C0 (by decide) dX5_wallLine_12 (fun v_9 e_10 => ?_)
  refine y_ci h (y_rV (As := [.int v_7, .int v_9]) (rest := [.int r_4, .ref (ad 20)]) C0 hZ h (c_X5_boundedc l G Z ad _ h.2 v_7 v_9 (o23_9 e_8) (o23_10 e_8) (o23_26 e_10) (o23_27 e_10)) k_X5_bounded q_753 q_7 q_751 kSC_77 rfl rfl rfl hl.1 rfl rfl (Nat.le_of_ble_eq_true rfl) dX5_wallLine_13 ⟨Nat.le_of_ble_eq_true rfl, Nat.le_of_ble_eq_true rfl⟩ ⟨Nat.le_of_ble_eq_true rfl, Nat.le_of_ble_eq_true rfl⟩) (fun r_14 H locs ws_11 h u_12 p_13 => ?_)
  obtain ⟨e_15, e_16⟩ := p_13
  refine y_cv h (y_rV (As := [.int r_4, .int r_14]) (rest := []) C0 hZ h (c_X0_block l G Z ad _ h.2 20 kSC_20 r_4 r_14 (o23_28 e_5 e_6) (o23_29 e_5 e_6) (o23_30 e_15 e_16) (o23_31 e_15 e_16) (Rel.fr (M := [16]) hR (Fr.tr u_2 u_12) (by decide) (by decide))) k_X0_block q_769 q_770 q_768 kSC_20 rfl rfl rfl hl.1 rfl rfl (Nat.le_of_ble_eq_true rfl) dX5_wallLine_16 ⟨Nat.le_of_ble_eq_true rfl, Nat.le_of_ble_eq_true rfl⟩ ⟨Nat.le_of_ble_eq_true rfl, Nat.le_of_ble_eq_true rfl⟩) (fun H locs ws_17 h u_18 p_19 => ?_)
  have e_20 := p_19
  rw [hQ]
  exact y_vret C0 h (Fr.tr (Fr.tr (Fr.mono u_2 (by decide)) (Fr.mono u_12 (by decide))) (Fr.mono u_18 (by decide))) e_20 dX5_wallLine_19
set_option maxHeartbeats 4000000 in
set_option maxRecDepth 100000 in
theorem c_X5_freeLine (l : Launch) (G : GG) (Z : RZ) (ad : Nat → Nat) (ws0 : va_W) (hT : Ty G (SC tt) ad ws0) : Mq l yX5_freeLine cX5_freeLine 1 none 8 G Z [.ref (ad 77)] ws0 (PV G (SC tt) ad [1, 16] ws0 (fun u => True)) := by
  refine Mq.start (by decide) (Nat.le_of_ble_eq_true rfl) ?_
  intro p e s m below meth c A ls C0 hZ h hl
  have hl : lv_has ls 1 [(0, .ref (ad 77))] := hl
  have h : Wt G (SC tt) ad A s s.heap [] ws0 := ⟨h, hT⟩
  obtain ⟨args, hargs⟩ : ∃ z, z = ([.ref (ad 77)] : List Value).toArray := ⟨_, rfl⟩
  rw [← hargs] at C0 ⊢
  have C0 : Cx p s m args meth c RX5 cX5_freeLine 1 none := C0
  obtain ⟨Q, hQ⟩ : ∃ z, z = MQ below ((PV G (SC tt) ad [1, 16] ws0 (fun u => True)) A) args s 0 0 A := ⟨_, rfl⟩
  rw [← hQ]
  refine lv_aload_n C0.1 C0.2.1 dX5_freeLine_0 rfl (lv_at hl 0 rfl) ?_
  refine tg_X5_city C0 h kSC_77 q_370 dX5_freeLine_1 ?_
  refine lv_aload_n C0.1 C0.2.1 dX5_freeLine_4 rfl (lv_at hl 0 rfl) ?_
  refine y_ci h (y_rV (As := []) (rest := [.ref (ad 20)]) C0 hZ h (c_X5_crossingTold l G Z ad _ h.2) k_X5_crossingTold q_766 q_9 q_764 kSC_77 rfl rfl rfl hl.1 rfl rfl (Nat.le_of_ble_eq_true rfl) dX5_freeLine_5 ⟨Nat.le_of_ble_eq_true rfl, Nat.le_of_ble_eq_true rfl⟩ ⟨Nat.le_of_ble_eq_true rfl, Nat.le_of_ble_eq_true rfl⟩) (fun r_4 H locs ws_1 h u_2 p_3 => ?_)
  obtain ⟨e_5, e_6⟩ := p_3
  refine y_cv h (y_rV (As := [.int r_4]) (rest := []) C0 hZ h (c_X0_makeToldFree l G Z ad _ h.2 20 kSC_20 r_4) k_X0_makeToldFree q_782 q_783 q_781 kSC_20 rfl rfl rfl hl.1 rfl rfl (Nat.le_of_ble_eq_true rfl) dX5_freeLine_8 ⟨Nat.le_of_ble_eq_true rfl, Nat.le_of_ble_eq_true rfl⟩ ⟨Nat.le_of_ble_eq_true rfl, Nat.le_of_ble_eq_true rfl⟩) (fun H locs ws_7 h u_8 p_9 => ?_)
  rw [hQ]
  exact y_vret C0 h (Fr.tr (Fr.mono u_2 (by decide)) (Fr.mono u_8 (by decide))) trivial dX5_freeLine_11
set_option maxHeartbeats 4000000 in
set_option maxRecDepth 100000 in
theorem c_X5_heading (l : Launch) (G : GG) (Z : RZ) (ad : Nat → Nat) (ws0 : va_W) (hT : Ty G (SC tt) ad ws0) : Mq l yX5_heading cX5_heading 2 (some .int) 6 G Z [.ref (ad 77)] ws0 (PI G (SC tt) ad [16] ws0 (fun r u => (0 ≤ r.toInt) ∧ (r.toInt ≤ 3))) := by
  refine Mq.start (by decide) (Nat.le_of_ble_eq_true rfl) ?_
  intro p e s m below meth c A ls C0 hZ h hl
  have hl : lv_has ls 2 [(0, .ref (ad 77))] := hl
  have h : Wt G (SC tt) ad A s s.heap [] ws0 := ⟨h, hT⟩
  obtain ⟨args, hargs⟩ : ∃ z, z = ([.ref (ad 77)] : List Value).toArray := ⟨_, rfl⟩
  rw [← hargs] at C0 ⊢
  have C0 : Cx p s m args meth c RX5 cX5_heading 2 (some .int) := C0
  obtain ⟨Q, hQ⟩ : ∃ z, z = MQ below ((PI G (SC tt) ad [16] ws0 (fun r u => (0 ≤ r.toInt) ∧ (r.toInt ≤ 3))) A) args s 0 0 A := ⟨_, rfl⟩
  rw [← hQ]
  refine lv_aload_n C0.1 C0.2.1 dX5_heading_0 rfl (lv_at hl 0 rfl) ?_
  refine va_ldcS C0.1 C0.2.1 C0.2.2.2.1 (sr_5 hZ) dX5_heading_1 ?_
  refine y_ci h (y_rV (As := [.ref (Z.2.1 5)]) (rest := []) C0 hZ h (c_X5_isWord l G Z ad _ h.2 5 (by decide)) k_X5_isWord q_724 q_5 q_722 kSC_77 rfl rfl rfl hl.1 rfl rfl (Nat.le_of_ble_eq_true rfl) dX5_heading_3 ⟨Nat.le_of_ble_eq_true rfl, Nat.le_of_ble_eq_true rfl⟩ ⟨Nat.le_of_ble_eq_true rfl, Nat.le_of_ble_eq_true rfl⟩) (fun r_4 H locs ws_1 h u_2 p_3 => ?_)
  obtain ⟨e_5, e_6⟩ := p_3
  refine y_if_eq (tgt := 13) C0 dX5_heading_6 (by decide) (fun c_7 => ?_) (fun c_7 => ?_)
  · -- 6
    refine lv_aload_n C0.1 C0.2.1 dX5_heading_13 rfl (lv_at hl 0 rfl) ?_
    refine va_ldcS C0.1 C0.2.1 C0.2.2.2.1 (sr_6 hZ) dX5_heading_14 ?_
    refine y_ci h (y_rV (As := [.ref (Z.2.1 6)]) (rest := []) C0 hZ h (c_X5_isWord l G Z ad _ h.2 6 (by decide)) k_X5_isWord q_724 q_5 q_722 kSC_77 rfl rfl rfl hl.1 rfl rfl (Nat.le_of_ble_eq_true rfl) dX5_heading_16 ⟨Nat.le_of_ble_eq_true rfl, Nat.le_of_ble_eq_true rfl⟩ ⟨Nat.le_of_ble_eq_true rfl, Nat.le_of_ble_eq_true rfl⟩) (fun r_11 H locs ws_8 h u_9 p_10 => ?_)
    obtain ⟨e_12, e_13⟩ := p_10
    refine y_if_eq (tgt := 26) C0 dX5_heading_19 (by decide) (fun c_14 => ?_) (fun c_14 => ?_)
    · -- 19
      refine lv_aload_n C0.1 C0.2.1 dX5_heading_26 rfl (lv_at hl 0 rfl) ?_
      refine va_ldcS C0.1 C0.2.1 C0.2.2.2.1 (sr_7 hZ) dX5_heading_27 ?_
      refine y_ci h (y_rV (As := [.ref (Z.2.1 7)]) (rest := []) C0 hZ h (c_X5_isWord l G Z ad _ h.2 7 (by decide)) k_X5_isWord q_724 q_5 q_722 kSC_77 rfl rfl rfl hl.1 rfl rfl (Nat.le_of_ble_eq_true rfl) dX5_heading_29 ⟨Nat.le_of_ble_eq_true rfl, Nat.le_of_ble_eq_true rfl⟩ ⟨Nat.le_of_ble_eq_true rfl, Nat.le_of_ble_eq_true rfl⟩) (fun r_18 H locs ws_15 h u_16 p_17 => ?_)
      obtain ⟨e_19, e_20⟩ := p_17
      refine y_if_eq (tgt := 39) C0 dX5_heading_32 (by decide) (fun c_21 => ?_) (fun c_21 => ?_)
      · -- 32
        refine lv_aload_n C0.1 C0.2.1 dX5_heading_39 rfl (lv_at hl 0 rfl) ?_
        refine va_ldcS C0.1 C0.2.1 C0.2.2.2.1 (sr_8 hZ) dX5_heading_40 ?_
        refine y_ci h (y_rV (As := [.ref (Z.2.1 8)]) (rest := []) C0 hZ h (c_X5_isWord l G Z ad _ h.2 8 (by decide)) k_X5_isWord q_724 q_5 q_722 kSC_77 rfl rfl rfl hl.1 rfl rfl (Nat.le_of_ble_eq_true rfl) dX5_heading_42 ⟨Nat.le_of_ble_eq_true rfl, Nat.le_of_ble_eq_true rfl⟩ ⟨Nat.le_of_ble_eq_true rfl, Nat.le_of_ble_eq_true rfl⟩) (fun r_25 H locs ws_22 h u_23 p_24 => ?_)
        obtain ⟨e_26, e_27⟩ := p_24
        refine y_if_eq (tgt := 52) C0 dX5_heading_45 (by decide) (fun c_28 => ?_) (fun c_28 => ?_)
        · -- 45
          refine y_c1 (n := (-1)) C0 (by decide) dX5_heading_52 (fun v_29 e_30 => ?_)
          refine lv_istore_n (lv' := [(1, .int v_29), (0, .ref (ad 77))]) C0.1 C0.2.1 dX5_heading_53 rfl hl (by decide) rfl (fun ls hl => ?_)
          refine lv_iload_n C0.1 C0.2.1 dX5_heading_54 rfl (lv_at hl 0 rfl) ?_
          refine y_if_ge (tgt := 65) C0 dX5_heading_55 (by decide) (fun c_31 => ((o23_32 e_30 c_31)).elim) (fun c_31 => ?_)
          refine lv_aload_n C0.1 C0.2.1 dX5_heading_58 rfl (lv_at hl 1 rfl) ?_
          refine y_c1 (n := 2) C0 (by decide) dX5_heading_59 (fun v_32 e_33 => ?_)
          refine y_cv h (y_rV (As := [.int v_32]) (rest := []) C0 hZ h (c_X5_fail l G Z ad _ h.2 v_32) k_X5_fail q_628 q_3 q_626 kSC_77 rfl rfl rfl hl.1 rfl rfl (Nat.le_of_ble_eq_true rfl) dX5_heading_60 ⟨Nat.le_of_ble_eq_true rfl, Nat.le_of_ble_eq_true rfl⟩ ⟨Nat.le_of_ble_eq_true rfl, Nat.le_of_ble_eq_true rfl⟩) (fun H locs ws_34 h u_35 p_36 => ?_)
          refine y_c1 (n := 0) C0 (by decide) dX5_heading_63 (fun v_37 e_38 => ?_)
          rw [hQ]
          exact y_iret C0 h (Fr.tr (Fr.tr (Fr.tr (Fr.tr (Fr.mono u_2 (by decide)) (Fr.mono u_9 (by decide))) (Fr.mono u_16 (by decide))) (Fr.mono u_23 (by decide))) u_35) ⟨(o23_9 e_38), (o23_33 e_38)⟩ dX5_heading_64
        · -- 45
          refine y_c1 (n := 3) C0 (by decide) dX5_heading_48 (fun v_39 e_40 => ?_)
          refine lv_goto (tgt := 53) C0.1 C0.2.1 dX5_heading_49 (by decide) ?_
          refine lv_istore_n (lv' := [(1, .int v_39), (0, .ref (ad 77))]) C0.1 C0.2.1 dX5_heading_53 rfl hl (by decide) rfl (fun ls hl => ?_)
          refine lv_iload_n C0.1 C0.2.1 dX5_heading_54 rfl (lv_at hl 0 rfl) ?_
          refine y_if_ge (tgt := 65) C0 dX5_heading_55 (by decide) (fun c_41 => ?_) (fun c_41 => ((o23_34 e_40 c_41)).elim)
          refine lv_aload_n C0.1 C0.2.1 dX5_heading_65 rfl (lv_at hl 1 rfl) ?_
          refine y_cv h (y_rV (As := []) (rest := []) C0 hZ h (c_X5_advance l G Z ad _ h.2) k_X5_advance q_616 q_0 q_614 kSC_77 rfl rfl rfl hl.1 rfl rfl (Nat.le_of_ble_eq_true rfl) dX5_heading_66 ⟨Nat.le_of_ble_eq_true rfl, Nat.le_of_ble_eq_true rfl⟩ ⟨Nat.le_of_ble_eq_true rfl, Nat.le_of_ble_eq_true rfl⟩) (fun H locs ws_42 h u_43 p_44 => ?_)
          refine lv_iload_n C0.1 C0.2.1 dX5_heading_69 rfl (lv_at hl 0 rfl) ?_
          rw [hQ]
          exact y_iret C0 h (Fr.tr (Fr.tr (Fr.tr (Fr.tr (Fr.mono u_2 (by decide)) (Fr.mono u_9 (by decide))) (Fr.mono u_16 (by decide))) (Fr.mono u_23 (by decide))) u_43) ⟨(o23_35 e_40 c_41), (o23_36 e_40 c_41)⟩ dX5_heading_70
      · -- 32
        refine y_c1 (n := 2) C0 (by decide) dX5_heading_35 (fun v_45 e_46 => ?_)
        refine lv_goto (tgt := 53) C0.1 C0.2.1 dX5_heading_36 (by decide) ?_
        refine lv_istore_n (lv' := [(1, .int v_45), (0, .ref (ad 77))]) C0.1 C0.2.1 dX5_heading_53 rfl hl (by decide) rfl (fun ls hl => ?_)
        refine lv_iload_n C0.1 C0.2.1 dX5_heading_54 rfl (lv_at hl 0 rfl) ?_
        refine y_if_ge (tgt := 65) C0 dX5_heading_55 (by decide) (fun c_47 => ?_) (fun c_47 => ((o23_37 e_46 c_47)).elim)
        refine lv_aload_n C0.1 C0.2.1 dX5_heading_65 rfl (lv_at hl 1 rfl) ?_
        refine y_cv h (y_rV (As := []) (rest := []) C0 hZ h (c_X5_advance l G Z ad _ h.2) k_X5_advance q_616 q_0 q_614 kSC_77 rfl rfl rfl hl.1 rfl rfl (Nat.le_of_ble_eq_true rfl) dX5_heading_66 ⟨Nat.le_of_ble_eq_true rfl, Nat.le_of_ble_eq_true rfl⟩ ⟨Nat.le_of_ble_eq_true rfl, Nat.le_of_ble_eq_true rfl⟩) (fun H locs ws_48 h u_49 p_50 => ?_)
        refine lv_iload_n C0.1 C0.2.1 dX5_heading_69 rfl (lv_at hl 0 rfl) ?_
        rw [hQ]
        exact y_iret C0 h (Fr.tr (Fr.tr (Fr.tr (Fr.mono u_2 (by decide)) (Fr.mono u_9 (by decide))) (Fr.mono u_16 (by decide))) u_49) ⟨(o23_38 e_46 c_47), (o23_39 e_46 c_47)⟩ dX5_heading_70
    · -- 19
      refine y_c1 (n := 1) C0 (by decide) dX5_heading_22 (fun v_51 e_52 => ?_)
      refine lv_goto (tgt := 53) C0.1 C0.2.1 dX5_heading_23 (by decide) ?_
      refine lv_istore_n (lv' := [(1, .int v_51), (0, .ref (ad 77))]) C0.1 C0.2.1 dX5_heading_53 rfl hl (by decide) rfl (fun ls hl => ?_)
      refine lv_iload_n C0.1 C0.2.1 dX5_heading_54 rfl (lv_at hl 0 rfl) ?_
      refine y_if_ge (tgt := 65) C0 dX5_heading_55 (by decide) (fun c_53 => ?_) (fun c_53 => ((o23_40 e_52 c_53)).elim)
      refine lv_aload_n C0.1 C0.2.1 dX5_heading_65 rfl (lv_at hl 1 rfl) ?_
      refine y_cv h (y_rV (As := []) (rest := []) C0 hZ h (c_X5_advance l G Z ad _ h.2) k_X5_advance q_616 q_0 q_614 kSC_77 rfl rfl rfl hl.1 rfl rfl (Nat.le_of_ble_eq_true rfl) dX5_heading_66 ⟨Nat.le_of_ble_eq_true rfl, Nat.le_of_ble_eq_true rfl⟩ ⟨Nat.le_of_ble_eq_true rfl, Nat.le_of_ble_eq_true rfl⟩) (fun H locs ws_54 h u_55 p_56 => ?_)
      refine lv_iload_n C0.1 C0.2.1 dX5_heading_69 rfl (lv_at hl 0 rfl) ?_
      rw [hQ]
      exact y_iret C0 h (Fr.tr (Fr.tr (Fr.mono u_2 (by decide)) (Fr.mono u_9 (by decide))) u_55) ⟨(o23_41 e_52 c_53), (o23_42 e_52 c_53)⟩ dX5_heading_70
  · -- 6
    refine y_c1 (n := 0) C0 (by decide) dX5_heading_9 (fun v_57 e_58 => ?_)
    refine lv_goto (tgt := 53) C0.1 C0.2.1 dX5_heading_10 (by decide) ?_
    refine lv_istore_n (lv' := [(1, .int v_57), (0, .ref (ad 77))]) C0.1 C0.2.1 dX5_heading_53 rfl hl (by decide) rfl (fun ls hl => ?_)
    refine lv_iload_n C0.1 C0.2.1 dX5_heading_54 rfl (lv_at hl 0 rfl) ?_
    refine y_if_ge (tgt := 65) C0 dX5_heading_55 (by decide) (fun c_59 => ?_) (fun c_59 => ((o23_43 e_58 c_59)).elim)
    refine lv_aload_n C0.1 C0.2.1 dX5_heading_65 rfl (lv_at hl 1 rfl) ?_
    refine y_cv h (y_rV (As := []) (rest := []) C0 hZ h (c_X5_advance l G Z ad _ h.2) k_X5_advance q_616 q_0 q_614 kSC_77 rfl rfl rfl hl.1 rfl rfl (Nat.le_of_ble_eq_true rfl) dX5_heading_66 ⟨Nat.le_of_ble_eq_true rfl, Nat.le_of_ble_eq_true rfl⟩ ⟨Nat.le_of_ble_eq_true rfl, Nat.le_of_ble_eq_true rfl⟩) (fun H locs ws_60 h u_61 p_62 => ?_)
    refine lv_iload_n C0.1 C0.2.1 dX5_heading_69 rfl (lv_at hl 0 rfl) ?_
    rw [hQ]
    exact y_iret C0 h (Fr.tr (Fr.mono u_2 (by decide)) u_61) ⟨(o23_44 e_58 c_59), (o23_45 e_58 c_59)⟩ dX5_heading_70
set_option maxHeartbeats 4000000 in
set_option maxRecDepth 100000 in
theorem c_X5_personLine (l : Launch) (G : GG) (Z : RZ) (ad : Nat → Nat) (ws0 : va_W) (hT : Ty G (SC tt) ad ws0) : Mq l yX5_personLine cX5_personLine 5 none 8 G Z [.ref (ad 77)] ws0 (PV G (SC tt) ad [6, 7, 8, 9, 10, 16] ws0 (fun u => True)) := by
  refine Mq.start (by decide) (Nat.le_of_ble_eq_true rfl) ?_
  intro p e s m below meth c A ls C0 hZ h hl
  have hl : lv_has ls 5 [(0, .ref (ad 77))] := hl
  have h : Wt G (SC tt) ad A s s.heap [] ws0 := ⟨h, hT⟩
  obtain ⟨args, hargs⟩ : ∃ z, z = ([.ref (ad 77)] : List Value).toArray := ⟨_, rfl⟩
  rw [← hargs] at C0 ⊢
  have C0 : Cx p s m args meth c RX5 cX5_personLine 5 none := C0
  obtain ⟨Q, hQ⟩ : ∃ z, z = MQ below ((PV G (SC tt) ad [6, 7, 8, 9, 10, 16] ws0 (fun u => True)) A) args s 0 0 A := ⟨_, rfl⟩
  rw [← hQ]
  refine lv_aload_n C0.1 C0.2.1 dX5_personLine_0 rfl (lv_at hl 0 rfl) ?_
  refine tg_X5_city C0 h kSC_77 q_370 dX5_personLine_1 ?_
  refine tg_X0_wide C0 h kSC_20 q_258 dX5_personLine_4 (fun v_1 e_2 e_3 e_4 => ?_)
  refine y_if_le (tgt := 30) C0 dX5_personLine_7 (by decide) (fun c_5 => ?_) (fun c_5 => ?_)
  · -- 7
    refine lv_aload_n C0.1 C0.2.1 dX5_personLine_30 rfl (lv_at hl 0 rfl) ?_
    refine y_ci h (y_rV (As := []) (rest := []) C0 hZ h (c_X5_crossingTold l G Z ad _ h.2) k_X5_crossingTold q_766 q_9 q_764 kSC_77 rfl rfl rfl hl.1 rfl rfl (Nat.le_of_ble_eq_true rfl) dX5_personLine_31 ⟨Nat.le_of_ble_eq_true rfl, Nat.le_of_ble_eq_true rfl⟩ ⟨Nat.le_of_ble_eq_true rfl, Nat.le_of_ble_eq_true rfl⟩) (fun r_9 H locs ws_6 h u_7 p_8 => ?_)
    obtain ⟨e_10, e_11⟩ := p_8
    refine lv_istore_n (lv' := [(1, .int r_9), (0, .ref (ad 77))]) C0.1 C0.2.1 dX5_personLine_34 rfl hl (by decide) rfl (fun ls hl => ?_)
    refine lv_aload_n C0.1 C0.2.1 dX5_personLine_35 rfl (lv_at hl 1 rfl) ?_
    refine y_ci h (y_rV (As := []) (rest := []) C0 hZ h (c_X5_heading l G Z ad _ h.2) k_X5_heading q_792 q_12 q_790 kSC_77 rfl rfl rfl hl.1 rfl rfl (Nat.le_of_ble_eq_true rfl) dX5_personLine_36 ⟨Nat.le_of_ble_eq_true rfl, Nat.le_of_ble_eq_true rfl⟩ ⟨Nat.le_of_ble_eq_true rfl, Nat.le_of_ble_eq_true rfl⟩) (fun r_15 H locs ws_12 h u_13 p_14 => ?_)
    obtain ⟨e_16, e_17⟩ := p_14
    refine lv_istore_n (lv' := [(2, .int r_15), (1, .int r_9), (0, .ref (ad 77))]) C0.1 C0.2.1 dX5_personLine_39 rfl hl (by decide) rfl (fun ls hl => ?_)
    refine y_c1 (n := 0) C0 (by decide) dX5_personLine_40 (fun v_18 e_19 => ?_)
    refine lv_istore_n (lv' := [(3, .int v_18), (2, .int r_15), (1, .int r_9), (0, .ref (ad 77))]) C0.1 C0.2.1 dX5_personLine_41 rfl hl (by decide) rfl (fun ls hl => ?_)
    refine y_c1 (n := 0) C0 (by decide) dX5_personLine_42 (fun v_20 e_21 => ?_)
    refine lv_istore (lv' := [(4, .int v_20), (3, .int v_18), (2, .int r_15), (1, .int r_9), (0, .ref (ad 77))]) C0.1 C0.2.1 dX5_personLine_43 hl (by decide) rfl (fun ls hl => ?_)
    refine lv_aload_n C0.1 C0.2.1 dX5_personLine_45 rfl (lv_at hl 4 rfl) ?_
    refine va_ldcS C0.1 C0.2.1 C0.2.2.2.1 (sr_9 hZ) dX5_personLine_46 ?_
    refine y_ci h (y_rV (As := [.ref (Z.2.1 9)]) (rest := []) C0 hZ h (c_X5_isWord l G Z ad _ h.2 9 (by decide)) k_X5_isWord q_724 q_5 q_722 kSC_77 rfl rfl rfl hl.1 rfl rfl (Nat.le_of_ble_eq_true rfl) dX5_personLine_48 ⟨Nat.le_of_ble_eq_true rfl, Nat.le_of_ble_eq_true rfl⟩ ⟨Nat.le_of_ble_eq_true rfl, Nat.le_of_ble_eq_true rfl⟩) (fun r_25 H locs ws_22 h u_23 p_24 => ?_)
    obtain ⟨e_26, e_27⟩ := p_24
    refine y_if_eq (tgt := 66) C0 dX5_personLine_51 (by decide) (fun c_28 => ?_) (fun c_28 => ?_)
    · -- 51
      refine lv_aload_n C0.1 C0.2.1 dX5_personLine_66 rfl (lv_at hl 4 rfl) ?_
      refine va_ldcS C0.1 C0.2.1 C0.2.2.2.1 (sr_10 hZ) dX5_personLine_67 ?_
      refine y_ci h (y_rV (As := [.ref (Z.2.1 10)]) (rest := []) C0 hZ h (c_X5_isWord l G Z ad _ h.2 10 (by decide)) k_X5_isWord q_724 q_5 q_722 kSC_77 rfl rfl rfl hl.1 rfl rfl (Nat.le_of_ble_eq_true rfl) dX5_personLine_69 ⟨Nat.le_of_ble_eq_true rfl, Nat.le_of_ble_eq_true rfl⟩ ⟨Nat.le_of_ble_eq_true rfl, Nat.le_of_ble_eq_true rfl⟩) (fun r_32 H locs ws_29 h u_30 p_31 => ?_)
      obtain ⟨e_33, e_34⟩ := p_31
      refine y_if_eq (tgt := 89) C0 dX5_personLine_72 (by decide) (fun c_35 => ?_) (fun c_35 => ?_)
      · -- 72
        refine lv_aload_n C0.1 C0.2.1 dX5_personLine_89 rfl (lv_at hl 4 rfl) ?_
        refine tg_X5_city C0 h kSC_77 q_370 dX5_personLine_90 ?_
        refine tg_X0_folk C0 h kSC_20 q_251 dX5_personLine_93 ?_
        refine lv_iload_n C0.1 C0.2.1 dX5_personLine_96 rfl (lv_at hl 3 rfl) ?_
        refine lv_iload_n C0.1 C0.2.1 dX5_personLine_97 rfl (lv_at hl 2 rfl) ?_
        refine lv_iload_n C0.1 C0.2.1 dX5_personLine_98 rfl (lv_at hl 1 rfl) ?_
        refine lv_iload C0.1 C0.2.1 dX5_personLine_99 (lv_at hl 0 rfl) ?_
        refine y_cv h (y_rV (As := [.int r_9, .int r_15, .int v_18, .int v_20]) (rest := []) C0 hZ h (c_X1_settle l G Z ad _ h.2 29 kSC_29 r_9 r_15 v_18 v_20 (o23_28 e_10 e_11) (o23_29 e_10 e_11) (o23_30 e_16 e_17) (o23_31 e_16 e_17)) k_X1_settle q_801 q_802 q_800 kSC_29 rfl rfl rfl hl.1 rfl rfl (Nat.le_of_ble_eq_true rfl) dX5_personLine_101 ⟨Nat.le_of_ble_eq_true rfl, Nat.le_of_ble_eq_true rfl⟩ ⟨Nat.le_of_ble_eq_true rfl, Nat.le_of_ble_eq_true rfl⟩) (fun H locs ws_36 h u_37 p_38 => ?_)
        rw [hQ]
        exact y_vret C0 h (Fr.tr (Fr.tr (Fr.tr (Fr.tr (Fr.mono u_7 (by decide)) (Fr.mono u_13 (by decide))) (Fr.mono u_23 (by decide))) (Fr.mono u_30 (by decide))) (Fr.mono u_37 (by decide))) trivial dX5_personLine_104
      · -- 72
        refine lv_aload_n C0.1 C0.2.1 dX5_personLine_75 rfl (lv_at hl 4 rfl) ?_
        refine y_cv h (y_rV (As := []) (rest := []) C0 hZ h (c_X5_advance l G Z ad _ h.2) k_X5_advance q_616 q_0 q_614 kSC_77 rfl rfl rfl hl.1 rfl rfl (Nat.le_of_ble_eq_true rfl) dX5_personLine_76 ⟨Nat.le_of_ble_eq_true rfl, Nat.le_of_ble_eq_true rfl⟩ ⟨Nat.le_of_ble_eq_true rfl, Nat.le_of_ble_eq_true rfl⟩) (fun H locs ws_39 h u_40 p_41 => ?_)
        refine lv_aload_n C0.1 C0.2.1 dX5_personLine_79 rfl (lv_at hl 4 rfl) ?_
        refine y_c1 (n := 0) C0 (by decide) dX5_personLine_80 (fun v_42 e_43 => ?_)
        refine y_c3 (n := 999) C0 (by decide) dX5_personLine_81 (fun v_44 e_45 => ?_)
        refine y_ci h (y_rV (As := [.int v_42, .int v_44]) (rest := []) C0 hZ h (c_X5_boundede l G Z ad _ h.2 v_42 v_44 (o23_9 e_43) (o23_10 e_43) (o23_46 e_45) (o23_47 e_45)) k_X5_bounded q_753 q_7 q_751 kSC_77 rfl rfl rfl hl.1 rfl rfl (Nat.le_of_ble_eq_true rfl) dX5_personLine_84 ⟨Nat.le_of_ble_eq_true rfl, Nat.le_of_ble_eq_true rfl⟩ ⟨Nat.le_of_ble_eq_true rfl, Nat.le_of_ble_eq_true rfl⟩) (fun r_49 H locs ws_46 h u_47 p_48 => ?_)
        obtain ⟨e_50, e_51⟩ := p_48
        refine lv_istore (lv' := [(4, .int r_49), (3, .int v_18), (2, .int r_15), (1, .int r_9), (0, .ref (ad 77))]) C0.1 C0.2.1 dX5_personLine_87 hl (by decide) rfl (fun ls hl => ?_)
        refine lv_aload_n C0.1 C0.2.1 dX5_personLine_89 rfl (lv_at hl 4 rfl) ?_
        refine tg_X5_city C0 h kSC_77 q_370 dX5_personLine_90 ?_
        refine tg_X0_folk C0 h kSC_20 q_251 dX5_personLine_93 ?_
        refine lv_iload_n C0.1 C0.2.1 dX5_personLine_96 rfl (lv_at hl 3 rfl) ?_
        refine lv_iload_n C0.1 C0.2.1 dX5_personLine_97 rfl (lv_at hl 2 rfl) ?_
        refine lv_iload_n C0.1 C0.2.1 dX5_personLine_98 rfl (lv_at hl 1 rfl) ?_
        refine lv_iload C0.1 C0.2.1 dX5_personLine_99 (lv_at hl 0 rfl) ?_
        refine y_cv h (y_rV (As := [.int r_9, .int r_15, .int v_18, .int r_49]) (rest := []) C0 hZ h (c_X1_settle l G Z ad _ h.2 29 kSC_29 r_9 r_15 v_18 r_49 (o23_28 e_10 e_11) (o23_29 e_10 e_11) (o23_30 e_16 e_17) (o23_31 e_16 e_17)) k_X1_settle q_801 q_802 q_800 kSC_29 rfl rfl rfl hl.1 rfl rfl (Nat.le_of_ble_eq_true rfl) dX5_personLine_101 ⟨Nat.le_of_ble_eq_true rfl, Nat.le_of_ble_eq_true rfl⟩ ⟨Nat.le_of_ble_eq_true rfl, Nat.le_of_ble_eq_true rfl⟩) (fun H locs ws_52 h u_53 p_54 => ?_)
        rw [hQ]
        exact y_vret C0 h (Fr.tr (Fr.tr (Fr.tr (Fr.tr (Fr.tr (Fr.tr (Fr.mono u_7 (by decide)) (Fr.mono u_13 (by decide))) (Fr.mono u_23 (by decide))) (Fr.mono u_30 (by decide))) (Fr.mono u_40 (by decide))) (Fr.mono u_47 (by decide))) (Fr.mono u_53 (by decide))) trivial dX5_personLine_104
    · -- 51
      refine lv_aload_n C0.1 C0.2.1 dX5_personLine_54 rfl (lv_at hl 4 rfl) ?_
      refine y_cv h (y_rV (As := []) (rest := []) C0 hZ h (c_X5_advance l G Z ad _ h.2) k_X5_advance q_616 q_0 q_614 kSC_77 rfl rfl rfl hl.1 rfl rfl (Nat.le_of_ble_eq_true rfl) dX5_personLine_55 ⟨Nat.le_of_ble_eq_true rfl, Nat.le_of_ble_eq_true rfl⟩ ⟨Nat.le_of_ble_eq_true rfl, Nat.le_of_ble_eq_true rfl⟩) (fun H locs ws_55 h u_56 p_57 => ?_)
      refine lv_aload_n C0.1 C0.2.1 dX5_personLine_58 rfl (lv_at hl 4 rfl) ?_
      refine y_c1 (n := 0) C0 (by decide) dX5_personLine_59 (fun v_58 e_59 => ?_)
      refine y_c2 (n := 99) C0 (by decide) dX5_personLine_60 (fun v_60 e_61 => ?_)
      refine y_ci h (y_rV (As := [.int v_58, .int v_60]) (rest := []) C0 hZ h (c_X5_boundedd l G Z ad _ h.2 v_58 v_60 (o23_9 e_59) (o23_10 e_59) (o23_48 e_61) (o23_49 e_61)) k_X5_bounded q_753 q_7 q_751 kSC_77 rfl rfl rfl hl.1 rfl rfl (Nat.le_of_ble_eq_true rfl) dX5_personLine_62 ⟨Nat.le_of_ble_eq_true rfl, Nat.le_of_ble_eq_true rfl⟩ ⟨Nat.le_of_ble_eq_true rfl, Nat.le_of_ble_eq_true rfl⟩) (fun r_65 H locs ws_62 h u_63 p_64 => ?_)
      obtain ⟨e_66, e_67⟩ := p_64
      refine lv_istore_n (lv' := [(3, .int r_65), (4, .int v_20), (2, .int r_15), (1, .int r_9), (0, .ref (ad 77))]) C0.1 C0.2.1 dX5_personLine_65 rfl hl (by decide) rfl (fun ls hl => ?_)
      refine lv_aload_n C0.1 C0.2.1 dX5_personLine_66 rfl (lv_at hl 4 rfl) ?_
      refine va_ldcS C0.1 C0.2.1 C0.2.2.2.1 (sr_10 hZ) dX5_personLine_67 ?_
      refine y_ci h (y_rV (As := [.ref (Z.2.1 10)]) (rest := []) C0 hZ h (c_X5_isWord l G Z ad _ h.2 10 (by decide)) k_X5_isWord q_724 q_5 q_722 kSC_77 rfl rfl rfl hl.1 rfl rfl (Nat.le_of_ble_eq_true rfl) dX5_personLine_69 ⟨Nat.le_of_ble_eq_true rfl, Nat.le_of_ble_eq_true rfl⟩ ⟨Nat.le_of_ble_eq_true rfl, Nat.le_of_ble_eq_true rfl⟩) (fun r_71 H locs ws_68 h u_69 p_70 => ?_)
      obtain ⟨e_72, e_73⟩ := p_70
      refine y_if_eq (tgt := 89) C0 dX5_personLine_72 (by decide) (fun c_74 => ?_) (fun c_74 => ?_)
      · -- 72
        refine lv_aload_n C0.1 C0.2.1 dX5_personLine_89 rfl (lv_at hl 4 rfl) ?_
        refine tg_X5_city C0 h kSC_77 q_370 dX5_personLine_90 ?_
        refine tg_X0_folk C0 h kSC_20 q_251 dX5_personLine_93 ?_
        refine lv_iload_n C0.1 C0.2.1 dX5_personLine_96 rfl (lv_at hl 3 rfl) ?_
        refine lv_iload_n C0.1 C0.2.1 dX5_personLine_97 rfl (lv_at hl 2 rfl) ?_
        refine lv_iload_n C0.1 C0.2.1 dX5_personLine_98 rfl (lv_at hl 0 rfl) ?_
        refine lv_iload C0.1 C0.2.1 dX5_personLine_99 (lv_at hl 1 rfl) ?_
        refine y_cv h (y_rV (As := [.int r_9, .int r_15, .int r_65, .int v_20]) (rest := []) C0 hZ h (c_X1_settle l G Z ad _ h.2 29 kSC_29 r_9 r_15 r_65 v_20 (o23_28 e_10 e_11) (o23_29 e_10 e_11) (o23_30 e_16 e_17) (o23_31 e_16 e_17)) k_X1_settle q_801 q_802 q_800 kSC_29 rfl rfl rfl hl.1 rfl rfl (Nat.le_of_ble_eq_true rfl) dX5_personLine_101 ⟨Nat.le_of_ble_eq_true rfl, Nat.le_of_ble_eq_true rfl⟩ ⟨Nat.le_of_ble_eq_true rfl, Nat.le_of_ble_eq_true rfl⟩) (fun H locs ws_75 h u_76 p_77 => ?_)
        rw [hQ]
        exact y_vret C0 h (Fr.tr (Fr.tr (Fr.tr (Fr.tr (Fr.tr (Fr.tr (Fr.mono u_7 (by decide)) (Fr.mono u_13 (by decide))) (Fr.mono u_23 (by decide))) (Fr.mono u_56 (by decide))) (Fr.mono u_63 (by decide))) (Fr.mono u_69 (by decide))) (Fr.mono u_76 (by decide))) trivial dX5_personLine_104
      · -- 72
        refine lv_aload_n C0.1 C0.2.1 dX5_personLine_75 rfl (lv_at hl 4 rfl) ?_
        refine y_cv h (y_rV (As := []) (rest := []) C0 hZ h (c_X5_advance l G Z ad _ h.2) k_X5_advance q_616 q_0 q_614 kSC_77 rfl rfl rfl hl.1 rfl rfl (Nat.le_of_ble_eq_true rfl) dX5_personLine_76 ⟨Nat.le_of_ble_eq_true rfl, Nat.le_of_ble_eq_true rfl⟩ ⟨Nat.le_of_ble_eq_true rfl, Nat.le_of_ble_eq_true rfl⟩) (fun H locs ws_78 h u_79 p_80 => ?_)
        refine lv_aload_n C0.1 C0.2.1 dX5_personLine_79 rfl (lv_at hl 4 rfl) ?_
        refine y_c1 (n := 0) C0 (by decide) dX5_personLine_80 (fun v_81 e_82 => ?_)
        refine y_c3 (n := 999) C0 (by decide) dX5_personLine_81 (fun v_83 e_84 => ?_)
        refine y_ci h (y_rV (As := [.int v_81, .int v_83]) (rest := []) C0 hZ h (c_X5_boundede l G Z ad _ h.2 v_81 v_83 (o23_9 e_82) (o23_10 e_82) (o23_46 e_84) (o23_47 e_84)) k_X5_bounded q_753 q_7 q_751 kSC_77 rfl rfl rfl hl.1 rfl rfl (Nat.le_of_ble_eq_true rfl) dX5_personLine_84 ⟨Nat.le_of_ble_eq_true rfl, Nat.le_of_ble_eq_true rfl⟩ ⟨Nat.le_of_ble_eq_true rfl, Nat.le_of_ble_eq_true rfl⟩) (fun r_88 H locs ws_85 h u_86 p_87 => ?_)
        obtain ⟨e_89, e_90⟩ := p_87
        refine lv_istore (lv' := [(4, .int r_88), (3, .int r_65), (2, .int r_15), (1, .int r_9), (0, .ref (ad 77))]) C0.1 C0.2.1 dX5_personLine_87 hl (by decide) rfl (fun ls hl => ?_)
        refine lv_aload_n C0.1 C0.2.1 dX5_personLine_89 rfl (lv_at hl 4 rfl) ?_
        refine tg_X5_city C0 h kSC_77 q_370 dX5_personLine_90 ?_
        refine tg_X0_folk C0 h kSC_20 q_251 dX5_personLine_93 ?_
        refine lv_iload_n C0.1 C0.2.1 dX5_personLine_96 rfl (lv_at hl 3 rfl) ?_
        refine lv_iload_n C0.1 C0.2.1 dX5_personLine_97 rfl (lv_at hl 2 rfl) ?_
        refine lv_iload_n C0.1 C0.2.1 dX5_personLine_98 rfl (lv_at hl 1 rfl) ?_
        refine lv_iload C0.1 C0.2.1 dX5_personLine_99 (lv_at hl 0 rfl) ?_
        refine y_cv h (y_rV (As := [.int r_9, .int r_15, .int r_65, .int r_88]) (rest := []) C0 hZ h (c_X1_settle l G Z ad _ h.2 29 kSC_29 r_9 r_15 r_65 r_88 (o23_28 e_10 e_11) (o23_29 e_10 e_11) (o23_30 e_16 e_17) (o23_31 e_16 e_17)) k_X1_settle q_801 q_802 q_800 kSC_29 rfl rfl rfl hl.1 rfl rfl (Nat.le_of_ble_eq_true rfl) dX5_personLine_101 ⟨Nat.le_of_ble_eq_true rfl, Nat.le_of_ble_eq_true rfl⟩ ⟨Nat.le_of_ble_eq_true rfl, Nat.le_of_ble_eq_true rfl⟩) (fun H locs ws_91 h u_92 p_93 => ?_)
        rw [hQ]
        exact y_vret C0 h (Fr.tr (Fr.tr (Fr.tr (Fr.tr (Fr.tr (Fr.tr (Fr.tr (Fr.tr (Fr.mono u_7 (by decide)) (Fr.mono u_13 (by decide))) (Fr.mono u_23 (by decide))) (Fr.mono u_56 (by decide))) (Fr.mono u_63 (by decide))) (Fr.mono u_69 (by decide))) (Fr.mono u_79 (by decide))) (Fr.mono u_86 (by decide))) (Fr.mono u_92 (by decide))) trivial dX5_personLine_104
  · -- 7
    refine lv_aload_n C0.1 C0.2.1 dX5_personLine_10 rfl (lv_at hl 0 rfl) ?_
    refine tg_X5_city C0 h kSC_77 q_370 dX5_personLine_11 ?_
    refine tg_X0_folk C0 h kSC_20 q_251 dX5_personLine_14 ?_
    refine tg_X1_people C0 h kSC_29 q_216 dX5_personLine_17 (fun v_94 e_95 e_96 e_97 => ?_)
    refine y_c1 (n := 5) C0 (by decide) dX5_personLine_20 (fun v_98 e_99 => ?_)
    refine y_icmp_lt (tgt := 30) C0 dX5_personLine_21 (by decide) (fun c_100 => ?_) (fun c_100 => ?_)
    · -- 21
      refine lv_aload_n C0.1 C0.2.1 dX5_personLine_30 rfl (lv_at hl 0 rfl) ?_
      refine y_ci h (y_rV (As := []) (rest := []) C0 hZ h (c_X5_crossingTold l G Z ad _ h.2) k_X5_crossingTold q_766 q_9 q_764 kSC_77 rfl rfl rfl hl.1 rfl rfl (Nat.le_of_ble_eq_true rfl) dX5_personLine_31 ⟨Nat.le_of_ble_eq_true rfl, Nat.le_of_ble_eq_true rfl⟩ ⟨Nat.le_of_ble_eq_true rfl, Nat.le_of_ble_eq_true rfl⟩) (fun r_104 H locs ws_101 h u_102 p_103 => ?_)
      obtain ⟨e_105, e_106⟩ := p_103
      refine lv_istore_n (lv' := [(1, .int r_104), (0, .ref (ad 77))]) C0.1 C0.2.1 dX5_personLine_34 rfl hl (by decide) rfl (fun ls hl => ?_)
      refine lv_aload_n C0.1 C0.2.1 dX5_personLine_35 rfl (lv_at hl 1 rfl) ?_
      refine y_ci h (y_rV (As := []) (rest := []) C0 hZ h (c_X5_heading l G Z ad _ h.2) k_X5_heading q_792 q_12 q_790 kSC_77 rfl rfl rfl hl.1 rfl rfl (Nat.le_of_ble_eq_true rfl) dX5_personLine_36 ⟨Nat.le_of_ble_eq_true rfl, Nat.le_of_ble_eq_true rfl⟩ ⟨Nat.le_of_ble_eq_true rfl, Nat.le_of_ble_eq_true rfl⟩) (fun r_110 H locs ws_107 h u_108 p_109 => ?_)
      obtain ⟨e_111, e_112⟩ := p_109
      refine lv_istore_n (lv' := [(2, .int r_110), (1, .int r_104), (0, .ref (ad 77))]) C0.1 C0.2.1 dX5_personLine_39 rfl hl (by decide) rfl (fun ls hl => ?_)
      refine y_c1 (n := 0) C0 (by decide) dX5_personLine_40 (fun v_113 e_114 => ?_)
      refine lv_istore_n (lv' := [(3, .int v_113), (2, .int r_110), (1, .int r_104), (0, .ref (ad 77))]) C0.1 C0.2.1 dX5_personLine_41 rfl hl (by decide) rfl (fun ls hl => ?_)
      refine y_c1 (n := 0) C0 (by decide) dX5_personLine_42 (fun v_115 e_116 => ?_)
      refine lv_istore (lv' := [(4, .int v_115), (3, .int v_113), (2, .int r_110), (1, .int r_104), (0, .ref (ad 77))]) C0.1 C0.2.1 dX5_personLine_43 hl (by decide) rfl (fun ls hl => ?_)
      refine lv_aload_n C0.1 C0.2.1 dX5_personLine_45 rfl (lv_at hl 4 rfl) ?_
      refine va_ldcS C0.1 C0.2.1 C0.2.2.2.1 (sr_9 hZ) dX5_personLine_46 ?_
      refine y_ci h (y_rV (As := [.ref (Z.2.1 9)]) (rest := []) C0 hZ h (c_X5_isWord l G Z ad _ h.2 9 (by decide)) k_X5_isWord q_724 q_5 q_722 kSC_77 rfl rfl rfl hl.1 rfl rfl (Nat.le_of_ble_eq_true rfl) dX5_personLine_48 ⟨Nat.le_of_ble_eq_true rfl, Nat.le_of_ble_eq_true rfl⟩ ⟨Nat.le_of_ble_eq_true rfl, Nat.le_of_ble_eq_true rfl⟩) (fun r_120 H locs ws_117 h u_118 p_119 => ?_)
      obtain ⟨e_121, e_122⟩ := p_119
      refine y_if_eq (tgt := 66) C0 dX5_personLine_51 (by decide) (fun c_123 => ?_) (fun c_123 => ?_)
      · -- 51
        refine lv_aload_n C0.1 C0.2.1 dX5_personLine_66 rfl (lv_at hl 4 rfl) ?_
        refine va_ldcS C0.1 C0.2.1 C0.2.2.2.1 (sr_10 hZ) dX5_personLine_67 ?_
        refine y_ci h (y_rV (As := [.ref (Z.2.1 10)]) (rest := []) C0 hZ h (c_X5_isWord l G Z ad _ h.2 10 (by decide)) k_X5_isWord q_724 q_5 q_722 kSC_77 rfl rfl rfl hl.1 rfl rfl (Nat.le_of_ble_eq_true rfl) dX5_personLine_69 ⟨Nat.le_of_ble_eq_true rfl, Nat.le_of_ble_eq_true rfl⟩ ⟨Nat.le_of_ble_eq_true rfl, Nat.le_of_ble_eq_true rfl⟩) (fun r_127 H locs ws_124 h u_125 p_126 => ?_)
        obtain ⟨e_128, e_129⟩ := p_126
        refine y_if_eq (tgt := 89) C0 dX5_personLine_72 (by decide) (fun c_130 => ?_) (fun c_130 => ?_)
        · -- 72
          refine lv_aload_n C0.1 C0.2.1 dX5_personLine_89 rfl (lv_at hl 4 rfl) ?_
          refine tg_X5_city C0 h kSC_77 q_370 dX5_personLine_90 ?_
          refine tg_X0_folk C0 h kSC_20 q_251 dX5_personLine_93 ?_
          refine lv_iload_n C0.1 C0.2.1 dX5_personLine_96 rfl (lv_at hl 3 rfl) ?_
          refine lv_iload_n C0.1 C0.2.1 dX5_personLine_97 rfl (lv_at hl 2 rfl) ?_
          refine lv_iload_n C0.1 C0.2.1 dX5_personLine_98 rfl (lv_at hl 1 rfl) ?_
          refine lv_iload C0.1 C0.2.1 dX5_personLine_99 (lv_at hl 0 rfl) ?_
          refine y_cv h (y_rV (As := [.int r_104, .int r_110, .int v_113, .int v_115]) (rest := []) C0 hZ h (c_X1_settle l G Z ad _ h.2 29 kSC_29 r_104 r_110 v_113 v_115 (o23_28 e_105 e_106) (o23_29 e_105 e_106) (o23_30 e_111 e_112) (o23_31 e_111 e_112)) k_X1_settle q_801 q_802 q_800 kSC_29 rfl rfl rfl hl.1 rfl rfl (Nat.le_of_ble_eq_true rfl) dX5_personLine_101 ⟨Nat.le_of_ble_eq_true rfl, Nat.le_of_ble_eq_true rfl⟩ ⟨Nat.le_of_ble_eq_true rfl, Nat.le_of_ble_eq_true rfl⟩) (fun H locs ws_131 h u_132 p_133 => ?_)
          rw [hQ]
          exact y_vret C0 h (Fr.tr (Fr.tr (Fr.tr (Fr.tr (Fr.mono u_102 (by decide)) (Fr.mono u_108 (by decide))) (Fr.mono u_118 (by decide))) (Fr.mono u_125 (by decide))) (Fr.mono u_132 (by decide))) trivial dX5_personLine_104
        · -- 72
          refine lv_aload_n C0.1 C0.2.1 dX5_personLine_75 rfl (lv_at hl 4 rfl) ?_
          refine y_cv h (y_rV (As := []) (rest := []) C0 hZ h (c_X5_advance l G Z ad _ h.2) k_X5_advance q_616 q_0 q_614 kSC_77 rfl rfl rfl hl.1 rfl rfl (Nat.le_of_ble_eq_true rfl) dX5_personLine_76 ⟨Nat.le_of_ble_eq_true rfl, Nat.le_of_ble_eq_true rfl⟩ ⟨Nat.le_of_ble_eq_true rfl, Nat.le_of_ble_eq_true rfl⟩) (fun H locs ws_134 h u_135 p_136 => ?_)
          refine lv_aload_n C0.1 C0.2.1 dX5_personLine_79 rfl (lv_at hl 4 rfl) ?_
          refine y_c1 (n := 0) C0 (by decide) dX5_personLine_80 (fun v_137 e_138 => ?_)
          refine y_c3 (n := 999) C0 (by decide) dX5_personLine_81 (fun v_139 e_140 => ?_)
          refine y_ci h (y_rV (As := [.int v_137, .int v_139]) (rest := []) C0 hZ h (c_X5_boundede l G Z ad _ h.2 v_137 v_139 (o23_9 e_138) (o23_10 e_138) (o23_46 e_140) (o23_47 e_140)) k_X5_bounded q_753 q_7 q_751 kSC_77 rfl rfl rfl hl.1 rfl rfl (Nat.le_of_ble_eq_true rfl) dX5_personLine_84 ⟨Nat.le_of_ble_eq_true rfl, Nat.le_of_ble_eq_true rfl⟩ ⟨Nat.le_of_ble_eq_true rfl, Nat.le_of_ble_eq_true rfl⟩) (fun r_144 H locs ws_141 h u_142 p_143 => ?_)
          obtain ⟨e_145, e_146⟩ := p_143
          refine lv_istore (lv' := [(4, .int r_144), (3, .int v_113), (2, .int r_110), (1, .int r_104), (0, .ref (ad 77))]) C0.1 C0.2.1 dX5_personLine_87 hl (by decide) rfl (fun ls hl => ?_)
          refine lv_aload_n C0.1 C0.2.1 dX5_personLine_89 rfl (lv_at hl 4 rfl) ?_
          refine tg_X5_city C0 h kSC_77 q_370 dX5_personLine_90 ?_
          refine tg_X0_folk C0 h kSC_20 q_251 dX5_personLine_93 ?_
          refine lv_iload_n C0.1 C0.2.1 dX5_personLine_96 rfl (lv_at hl 3 rfl) ?_
          refine lv_iload_n C0.1 C0.2.1 dX5_personLine_97 rfl (lv_at hl 2 rfl) ?_
          refine lv_iload_n C0.1 C0.2.1 dX5_personLine_98 rfl (lv_at hl 1 rfl) ?_
          refine lv_iload C0.1 C0.2.1 dX5_personLine_99 (lv_at hl 0 rfl) ?_
          refine y_cv h (y_rV (As := [.int r_104, .int r_110, .int v_113, .int r_144]) (rest := []) C0 hZ h (c_X1_settle l G Z ad _ h.2 29 kSC_29 r_104 r_110 v_113 r_144 (o23_28 e_105 e_106) (o23_29 e_105 e_106) (o23_30 e_111 e_112) (o23_31 e_111 e_112)) k_X1_settle q_801 q_802 q_800 kSC_29 rfl rfl rfl hl.1 rfl rfl (Nat.le_of_ble_eq_true rfl) dX5_personLine_101 ⟨Nat.le_of_ble_eq_true rfl, Nat.le_of_ble_eq_true rfl⟩ ⟨Nat.le_of_ble_eq_true rfl, Nat.le_of_ble_eq_true rfl⟩) (fun H locs ws_147 h u_148 p_149 => ?_)
          rw [hQ]
          exact y_vret C0 h (Fr.tr (Fr.tr (Fr.tr (Fr.tr (Fr.tr (Fr.tr (Fr.mono u_102 (by decide)) (Fr.mono u_108 (by decide))) (Fr.mono u_118 (by decide))) (Fr.mono u_125 (by decide))) (Fr.mono u_135 (by decide))) (Fr.mono u_142 (by decide))) (Fr.mono u_148 (by decide))) trivial dX5_personLine_104
      · -- 51
        refine lv_aload_n C0.1 C0.2.1 dX5_personLine_54 rfl (lv_at hl 4 rfl) ?_
        refine y_cv h (y_rV (As := []) (rest := []) C0 hZ h (c_X5_advance l G Z ad _ h.2) k_X5_advance q_616 q_0 q_614 kSC_77 rfl rfl rfl hl.1 rfl rfl (Nat.le_of_ble_eq_true rfl) dX5_personLine_55 ⟨Nat.le_of_ble_eq_true rfl, Nat.le_of_ble_eq_true rfl⟩ ⟨Nat.le_of_ble_eq_true rfl, Nat.le_of_ble_eq_true rfl⟩) (fun H locs ws_150 h u_151 p_152 => ?_)
        refine lv_aload_n C0.1 C0.2.1 dX5_personLine_58 rfl (lv_at hl 4 rfl) ?_
        refine y_c1 (n := 0) C0 (by decide) dX5_personLine_59 (fun v_153 e_154 => ?_)
        refine y_c2 (n := 99) C0 (by decide) dX5_personLine_60 (fun v_155 e_156 => ?_)
        refine y_ci h (y_rV (As := [.int v_153, .int v_155]) (rest := []) C0 hZ h (c_X5_boundedd l G Z ad _ h.2 v_153 v_155 (o23_9 e_154) (o23_10 e_154) (o23_48 e_156) (o23_49 e_156)) k_X5_bounded q_753 q_7 q_751 kSC_77 rfl rfl rfl hl.1 rfl rfl (Nat.le_of_ble_eq_true rfl) dX5_personLine_62 ⟨Nat.le_of_ble_eq_true rfl, Nat.le_of_ble_eq_true rfl⟩ ⟨Nat.le_of_ble_eq_true rfl, Nat.le_of_ble_eq_true rfl⟩) (fun r_160 H locs ws_157 h u_158 p_159 => ?_)
        obtain ⟨e_161, e_162⟩ := p_159
        refine lv_istore_n (lv' := [(3, .int r_160), (4, .int v_115), (2, .int r_110), (1, .int r_104), (0, .ref (ad 77))]) C0.1 C0.2.1 dX5_personLine_65 rfl hl (by decide) rfl (fun ls hl => ?_)
        refine lv_aload_n C0.1 C0.2.1 dX5_personLine_66 rfl (lv_at hl 4 rfl) ?_
        refine va_ldcS C0.1 C0.2.1 C0.2.2.2.1 (sr_10 hZ) dX5_personLine_67 ?_
        refine y_ci h (y_rV (As := [.ref (Z.2.1 10)]) (rest := []) C0 hZ h (c_X5_isWord l G Z ad _ h.2 10 (by decide)) k_X5_isWord q_724 q_5 q_722 kSC_77 rfl rfl rfl hl.1 rfl rfl (Nat.le_of_ble_eq_true rfl) dX5_personLine_69 ⟨Nat.le_of_ble_eq_true rfl, Nat.le_of_ble_eq_true rfl⟩ ⟨Nat.le_of_ble_eq_true rfl, Nat.le_of_ble_eq_true rfl⟩) (fun r_166 H locs ws_163 h u_164 p_165 => ?_)
        obtain ⟨e_167, e_168⟩ := p_165
        refine y_if_eq (tgt := 89) C0 dX5_personLine_72 (by decide) (fun c_169 => ?_) (fun c_169 => ?_)
        · -- 72
          refine lv_aload_n C0.1 C0.2.1 dX5_personLine_89 rfl (lv_at hl 4 rfl) ?_
          refine tg_X5_city C0 h kSC_77 q_370 dX5_personLine_90 ?_
          refine tg_X0_folk C0 h kSC_20 q_251 dX5_personLine_93 ?_
          refine lv_iload_n C0.1 C0.2.1 dX5_personLine_96 rfl (lv_at hl 3 rfl) ?_
          refine lv_iload_n C0.1 C0.2.1 dX5_personLine_97 rfl (lv_at hl 2 rfl) ?_
          refine lv_iload_n C0.1 C0.2.1 dX5_personLine_98 rfl (lv_at hl 0 rfl) ?_
          refine lv_iload C0.1 C0.2.1 dX5_personLine_99 (lv_at hl 1 rfl) ?_
          refine y_cv h (y_rV (As := [.int r_104, .int r_110, .int r_160, .int v_115]) (rest := []) C0 hZ h (c_X1_settle l G Z ad _ h.2 29 kSC_29 r_104 r_110 r_160 v_115 (o23_28 e_105 e_106) (o23_29 e_105 e_106) (o23_30 e_111 e_112) (o23_31 e_111 e_112)) k_X1_settle q_801 q_802 q_800 kSC_29 rfl rfl rfl hl.1 rfl rfl (Nat.le_of_ble_eq_true rfl) dX5_personLine_101 ⟨Nat.le_of_ble_eq_true rfl, Nat.le_of_ble_eq_true rfl⟩ ⟨Nat.le_of_ble_eq_true rfl, Nat.le_of_ble_eq_true rfl⟩) (fun H locs ws_170 h u_171 p_172 => ?_)
          rw [hQ]
          exact y_vret C0 h (Fr.tr (Fr.tr (Fr.tr (Fr.tr (Fr.tr (Fr.tr (Fr.mono u_102 (by decide)) (Fr.mono u_108 (by decide))) (Fr.mono u_118 (by decide))) (Fr.mono u_151 (by decide))) (Fr.mono u_158 (by decide))) (Fr.mono u_164 (by decide))) (Fr.mono u_171 (by decide))) trivial dX5_personLine_104
        · -- 72
          refine lv_aload_n C0.1 C0.2.1 dX5_personLine_75 rfl (lv_at hl 4 rfl) ?_
          refine y_cv h (y_rV (As := []) (rest := []) C0 hZ h (c_X5_advance l G Z ad _ h.2) k_X5_advance q_616 q_0 q_614 kSC_77 rfl rfl rfl hl.1 rfl rfl (Nat.le_of_ble_eq_true rfl) dX5_personLine_76 ⟨Nat.le_of_ble_eq_true rfl, Nat.le_of_ble_eq_true rfl⟩ ⟨Nat.le_of_ble_eq_true rfl, Nat.le_of_ble_eq_true rfl⟩) (fun H locs ws_173 h u_174 p_175 => ?_)
          refine lv_aload_n C0.1 C0.2.1 dX5_personLine_79 rfl (lv_at hl 4 rfl) ?_
          refine y_c1 (n := 0) C0 (by decide) dX5_personLine_80 (fun v_176 e_177 => ?_)
          refine y_c3 (n := 999) C0 (by decide) dX5_personLine_81 (fun v_178 e_179 => ?_)
          refine y_ci h (y_rV (As := [.int v_176, .int v_178]) (rest := []) C0 hZ h (c_X5_boundede l G Z ad _ h.2 v_176 v_178 (o23_9 e_177) (o23_10 e_177) (o23_46 e_179) (o23_47 e_179)) k_X5_bounded q_753 q_7 q_751 kSC_77 rfl rfl rfl hl.1 rfl rfl (Nat.le_of_ble_eq_true rfl) dX5_personLine_84 ⟨Nat.le_of_ble_eq_true rfl, Nat.le_of_ble_eq_true rfl⟩ ⟨Nat.le_of_ble_eq_true rfl, Nat.le_of_ble_eq_true rfl⟩) (fun r_183 H locs ws_180 h u_181 p_182 => ?_)
          obtain ⟨e_184, e_185⟩ := p_182
          refine lv_istore (lv' := [(4, .int r_183), (3, .int r_160), (2, .int r_110), (1, .int r_104), (0, .ref (ad 77))]) C0.1 C0.2.1 dX5_personLine_87 hl (by decide) rfl (fun ls hl => ?_)
          refine lv_aload_n C0.1 C0.2.1 dX5_personLine_89 rfl (lv_at hl 4 rfl) ?_
          refine tg_X5_city C0 h kSC_77 q_370 dX5_personLine_90 ?_
          refine tg_X0_folk C0 h kSC_20 q_251 dX5_personLine_93 ?_
          refine lv_iload_n C0.1 C0.2.1 dX5_personLine_96 rfl (lv_at hl 3 rfl) ?_
          refine lv_iload_n C0.1 C0.2.1 dX5_personLine_97 rfl (lv_at hl 2 rfl) ?_
          refine lv_iload_n C0.1 C0.2.1 dX5_personLine_98 rfl (lv_at hl 1 rfl) ?_
          refine lv_iload C0.1 C0.2.1 dX5_personLine_99 (lv_at hl 0 rfl) ?_
          refine y_cv h (y_rV (As := [.int r_104, .int r_110, .int r_160, .int r_183]) (rest := []) C0 hZ h (c_X1_settle l G Z ad _ h.2 29 kSC_29 r_104 r_110 r_160 r_183 (o23_28 e_105 e_106) (o23_29 e_105 e_106) (o23_30 e_111 e_112) (o23_31 e_111 e_112)) k_X1_settle q_801 q_802 q_800 kSC_29 rfl rfl rfl hl.1 rfl rfl (Nat.le_of_ble_eq_true rfl) dX5_personLine_101 ⟨Nat.le_of_ble_eq_true rfl, Nat.le_of_ble_eq_true rfl⟩ ⟨Nat.le_of_ble_eq_true rfl, Nat.le_of_ble_eq_true rfl⟩) (fun H locs ws_186 h u_187 p_188 => ?_)
          rw [hQ]
          exact y_vret C0 h (Fr.tr (Fr.tr (Fr.tr (Fr.tr (Fr.tr (Fr.tr (Fr.tr (Fr.tr (Fr.mono u_102 (by decide)) (Fr.mono u_108 (by decide))) (Fr.mono u_118 (by decide))) (Fr.mono u_151 (by decide))) (Fr.mono u_158 (by decide))) (Fr.mono u_164 (by decide))) (Fr.mono u_174 (by decide))) (Fr.mono u_181 (by decide))) (Fr.mono u_187 (by decide))) trivial dX5_personLine_104
    · -- 21
      refine lv_aload_n C0.1 C0.2.1 dX5_personLine_24 rfl (lv_at hl 0 rfl) ?_
      refine y_c1 (n := 4) C0 (by decide) dX5_personLine_25 (fun v_189 e_190 => ?_)
      refine y_cv h (y_rV (As := [.int v_189]) (rest := []) C0 hZ h (c_X5_fail l G Z ad _ h.2 v_189) k_X5_fail q_628 q_3 q_626 kSC_77 rfl rfl rfl hl.1 rfl rfl (Nat.le_of_ble_eq_true rfl) dX5_personLine_26 ⟨Nat.le_of_ble_eq_true rfl, Nat.le_of_ble_eq_true rfl⟩ ⟨Nat.le_of_ble_eq_true rfl, Nat.le_of_ble_eq_true rfl⟩) (fun H locs ws_191 h u_192 p_193 => ?_)
      rw [hQ]
      exact y_vret C0 h (Fr.mono u_192 (by decide)) trivial dX5_personLine_29
set_option maxHeartbeats 4000000 in
set_option maxRecDepth 100000 in
theorem c_X5_beginLaw (l : Launch) (G : GG) (Z : RZ) (ad : Nat → Nat) (ws0 : va_W) (hT : Ty G (SC tt) ad ws0) (i1 : Nat) (hi1 : Kd (SC tt) i1 2) : Mq l yX5_beginLaw cX5_beginLaw 2 none 7 G Z [.ref (ad 77), .ref (ad i1)] ws0 (PV G (SC tt) ad [2, 16] ws0 (fun u => True)) := by
  refine Mq.start (by decide) (Nat.le_of_ble_eq_true rfl) ?_
  intro p e s m below meth c A ls C0 hZ h hl
  have hl : lv_has ls 2 [(0, .ref (ad 77)), (1, .ref (ad i1))] := hl
  have h : Wt G (SC tt) ad A s s.heap [] ws0 := ⟨h, hT⟩
  obtain ⟨args, hargs⟩ : ∃ z, z = ([.ref (ad 77), .ref (ad i1)] : List Value).toArray := ⟨_, rfl⟩
  rw [← hargs] at C0 ⊢
  have C0 : Cx p s m args meth c RX5 cX5_beginLaw 2 none := C0
  obtain ⟨Q, hQ⟩ : ∃ z, z = MQ below ((PV G (SC tt) ad [2, 16] ws0 (fun u => True)) A) args s 0 0 A := ⟨_, rfl⟩
  rw [← hQ]
  refine lv_aload_n C0.1 C0.2.1 dX5_beginLaw_0 rfl (lv_at hl 0 rfl) ?_
  refine lv_aload_n C0.1 C0.2.1 dX5_beginLaw_1 rfl (lv_at hl 1 rfl) ?_
  refine tp_X5_law C0 h kSC_77 q_380 hi1 dX5_beginLaw_2 (fun H locs ws_1 h u_2 => ?_)
  refine lv_aload_n C0.1 C0.2.1 dX5_beginLaw_5 rfl (lv_at hl 0 rfl) ?_
  refine tg_X5_law C0 h kSC_77 q_380 dX5_beginLaw_6 (fun i_3 hi_3 => ?_)
  refine y_cv h (y_rV (As := []) (rest := []) C0 hZ h (c_X4_clear l G Z ad _ h.2 i_3 hi_3) k_X4_clear q_603 q_604 q_809 hi_3 rfl rfl rfl hl.1 rfl rfl (Nat.le_of_ble_eq_true rfl) dX5_beginLaw_9 ⟨Nat.le_of_ble_eq_true rfl, Nat.le_of_ble_eq_true rfl⟩ ⟨Nat.le_of_ble_eq_true rfl, Nat.le_of_ble_eq_true rfl⟩) (fun H locs ws_4 h u_5 p_6 => ?_)
  refine lv_aload_n C0.1 C0.2.1 dX5_beginLaw_12 rfl (lv_at hl 0 rfl) ?_
  refine y_cv h (y_rV (As := []) (rest := []) C0 hZ h (c_X5_advance l G Z ad _ h.2) k_X5_advance q_616 q_0 q_614 kSC_77 rfl rfl rfl hl.1 rfl rfl (Nat.le_of_ble_eq_true rfl) dX5_beginLaw_13 ⟨Nat.le_of_ble_eq_true rfl, Nat.le_of_ble_eq_true rfl⟩ ⟨Nat.le_of_ble_eq_true rfl, Nat.le_of_ble_eq_true rfl⟩) (fun H locs ws_7 h u_8 p_9 => ?_)
  refine lv_aload_n C0.1 C0.2.1 dX5_beginLaw_16 rfl (lv_at hl 0 rfl) ?_
  refine y_c2 (n := 58) C0 (by decide) dX5_beginLaw_17 (fun v_10 e_11 => ?_)
  refine y_cv h (y_rV (As := [.int v_10]) (rest := []) C0 hZ h (c_X5_sign l G Z ad _ h.2 v_10 (o23_50 e_11) (o23_51 e_11)) k_X5_sign q_812 q_14 q_810 kSC_77 rfl rfl rfl hl.1 rfl rfl (Nat.le_of_ble_eq_true rfl) dX5_beginLaw_19 ⟨Nat.le_of_ble_eq_true rfl, Nat.le_of_ble_eq_true rfl⟩ ⟨Nat.le_of_ble_eq_true rfl, Nat.le_of_ble_eq_true rfl⟩) (fun H locs ws_12 h u_13 p_14 => ?_)
  rw [hQ]
  exact y_vret C0 h (Fr.tr (Fr.tr (Fr.tr (Fr.up u_2.1 kSC_77 (by decide)) (Fr.mono u_5 (by decide))) (Fr.mono u_8 (by decide))) (Fr.mono u_13 (by decide))) trivial dX5_beginLaw_22
