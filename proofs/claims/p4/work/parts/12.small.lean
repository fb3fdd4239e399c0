variable {tt : QQ}
theorem dJ6_bitCount_0f7a4_0 : decode cJ6_bitCount_0f7a4 0 = .ok (.iload_n 0, 1) := by decide +kernel
theorem dJ6_bitCount_0f7a4_1 : decode cJ6_bitCount_0f7a4 1 = .ok (.iload_n 0, 1) := by decide +kernel
theorem dJ6_bitCount_0f7a4_2 : decode cJ6_bitCount_0f7a4 2 = .ok (.iconst 1, 1) := by decide +kernel
theorem dJ6_bitCount_0f7a4_3 : decode cJ6_bitCount_0f7a4 3 = .ok (.iushr, 1) := by decide +kernel
theorem dJ6_bitCount_0f7a4_4 : decode cJ6_bitCount_0f7a4 4 = .ok (.ldc_w 265, 3) := by decide +kernel
theorem dJ6_bitCount_0f7a4_7 : decode cJ6_bitCount_0f7a4 7 = .ok (.iand, 1) := by decide +kernel
theorem dJ6_bitCount_0f7a4_8 : decode cJ6_bitCount_0f7a4 8 = .ok (.isub, 1) := by decide +kernel
theorem dJ6_bitCount_0f7a4_9 : decode cJ6_bitCount_0f7a4 9 = .ok (.istore_n 0, 1) := by decide +kernel
theorem dJ6_bitCount_0f7a4_10 : decode cJ6_bitCount_0f7a4 10 = .ok (.iload_n 0, 1) := by decide +kernel
theorem dJ6_bitCount_0f7a4_11 : decode cJ6_bitCount_0f7a4 11 = .ok (.ldc_w 266, 3) := by decide +kernel
theorem dJ6_bitCount_0f7a4_14 : decode cJ6_bitCount_0f7a4 14 = .ok (.iand, 1) := by decide +kernel
theorem dJ6_bitCount_0f7a4_15 : decode cJ6_bitCount_0f7a4 15 = .ok (.iload_n 0, 1) := by decide +kernel
theorem dJ6_bitCount_0f7a4_16 : decode cJ6_bitCount_0f7a4 16 = .ok (.iconst 2, 1) := by decide +kernel
theorem dJ6_bitCount_0f7a4_17 : decode cJ6_bitCount_0f7a4 17 = .ok (.iushr, 1) := by decide +kernel
theorem dJ6_bitCount_0f7a4_18 : decode cJ6_bitCount_0f7a4 18 = .ok (.ldc_w 266, 3) := by decide +kernel
theorem dJ6_bitCount_0f7a4_21 : decode cJ6_bitCount_0f7a4 21 = .ok (.iand, 1) := by decide +kernel
theorem dJ6_bitCount_0f7a4_22 : decode cJ6_bitCount_0f7a4 22 = .ok (.iadd, 1) := by decide +kernel
theorem dJ6_bitCount_0f7a4_23 : decode cJ6_bitCount_0f7a4 23 = .ok (.istore_n 0, 1) := by decide +kernel
theorem dJ6_bitCount_0f7a4_24 : decode cJ6_bitCount_0f7a4 24 = .ok (.iload_n 0, 1) := by decide +kernel
theorem dJ6_bitCount_0f7a4_25 : decode cJ6_bitCount_0f7a4 25 = .ok (.iload_n 0, 1) := by decide +kernel
theorem dJ6_bitCount_0f7a4_26 : decode cJ6_bitCount_0f7a4 26 = .ok (.iconst 4, 1) := by decide +kernel
theorem dJ6_bitCount_0f7a4_27 : decode cJ6_bitCount_0f7a4 27 = .ok (.iushr, 1) := by decide +kernel
theorem dJ6_bitCount_0f7a4_28 : decode cJ6_bitCount_0f7a4 28 = .ok (.iadd, 1) := by decide +kernel
theorem dJ6_bitCount_0f7a4_29 : decode cJ6_bitCount_0f7a4 29 = .ok (.ldc_w 267, 3) := by decide +kernel
theorem dJ6_bitCount_0f7a4_32 : decode cJ6_bitCount_0f7a4 32 = .ok (.iand, 1) := by decide +kernel
theorem dJ6_bitCount_0f7a4_33 : decode cJ6_bitCount_0f7a4 33 = .ok (.istore_n 0, 1) := by decide +kernel
theorem dJ6_bitCount_0f7a4_34 : decode cJ6_bitCount_0f7a4 34 = .ok (.iload_n 0, 1) := by decide +kernel
theorem dJ6_bitCount_0f7a4_35 : decode cJ6_bitCount_0f7a4 35 = .ok (.iload_n 0, 1) := by decide +kernel
theorem dJ6_bitCount_0f7a4_36 : decode cJ6_bitCount_0f7a4 36 = .ok (.bipush 8, 2) := by decide +kernel
theorem dJ6_bitCount_0f7a4_38 : decode cJ6_bitCount_0f7a4 38 = .ok (.iushr, 1) := by decide +kernel
theorem dJ6_bitCount_0f7a4_39 : decode cJ6_bitCount_0f7a4 39 = .ok (.iadd, 1) := by decide +kernel
theorem dJ6_bitCount_0f7a4_40 : decode cJ6_bitCount_0f7a4 40 = .ok (.istore_n 0, 1) := by decide +kernel
theorem dJ6_bitCount_0f7a4_41 : decode cJ6_bitCount_0f7a4 41 = .ok (.iload_n 0, 1) := by decide +kernel
theorem dJ6_bitCount_0f7a4_42 : decode cJ6_bitCount_0f7a4 42 = .ok (.iload_n 0, 1) := by decide +kernel
theorem dJ6_bitCount_0f7a4_43 : decode cJ6_bitCount_0f7a4 43 = .ok (.bipush 16, 2) := by decide +kernel
theorem dJ6_bitCount_0f7a4_45 : decode cJ6_bitCount_0f7a4 45 = .ok (.iushr, 1) := by decide +kernel
theorem dJ6_bitCount_0f7a4_46 : decode cJ6_bitCount_0f7a4 46 = .ok (.iadd, 1) := by decide +kernel
theorem dJ6_bitCount_0f7a4_47 : decode cJ6_bitCount_0f7a4 47 = .ok (.istore_n 0, 1) := by decide +kernel
theorem dJ6_bitCount_0f7a4_48 : decode cJ6_bitCount_0f7a4 48 = .ok (.iload_n 0, 1) := by decide +kernel
theorem dJ6_bitCount_0f7a4_49 : decode cJ6_bitCount_0f7a4 49 = .ok (.bipush 63, 2) := by decide +kernel
theorem dJ6_bitCount_0f7a4_51 : decode cJ6_bitCount_0f7a4 51 = .ok (.iand, 1) := by decide +kernel
theorem dJ6_bitCount_0f7a4_52 : decode cJ6_bitCount_0f7a4 52 = .ok (.ireturn, 1) := by decide +kernel
theorem dJ7_fill_53178_0 : decode cJ7_fill_53178 0 = .ok (.iconst 0, 1) := by decide +kernel
theorem dJ7_fill_53178_1 : decode cJ7_fill_53178 1 = .ok (.istore_n 2, 1) := by decide +kernel
theorem dJ7_fill_53178_2 : decode cJ7_fill_53178 2 = .ok (.aload_n 0, 1) := by decide +kernel
theorem dJ7_fill_53178_3 : decode cJ7_fill_53178 3 = .ok (.arraylength, 1) := by decide +kernel
theorem dJ7_fill_53178_4 : decode cJ7_fill_53178 4 = .ok (.istore_n 3, 1) := by decide +kernel
theorem dJ7_fill_53178_5 : decode cJ7_fill_53178 5 = .ok (.iload_n 2, 1) := by decide +kernel
theorem dJ7_fill_53178_6 : decode cJ7_fill_53178 6 = .ok (.iload_n 3, 1) := by decide +kernel
theorem dJ7_fill_53178_7 : decode cJ7_fill_53178 7 = .ok (.if_icmp .ge 13, 3) := by decide +kernel
theorem dJ7_fill_53178_10 : decode cJ7_fill_53178 10 = .ok (.aload_n 0, 1) := by decide +kernel
theorem dJ7_fill_53178_11 : decode cJ7_fill_53178 11 = .ok (.iload_n 2, 1) := by decide +kernel
theorem dJ7_fill_53178_12 : decode cJ7_fill_53178 12 = .ok (.iload_n 1, 1) := by decide +kernel
theorem dJ7_fill_53178_13 : decode cJ7_fill_53178 13 = .ok (.iastore, 1) := by decide +kernel
theorem dJ7_fill_53178_14 : decode cJ7_fill_53178 14 = .ok (.iinc 2 1, 3) := by decide +kernel
theorem dJ7_fill_53178_17 : decode cJ7_fill_53178 17 = .ok (.goto (-12), 3) := by decide +kernel
theorem dJ7_fill_53178_20 : decode cJ7_fill_53178 20 = .ok (.return_, 1) := by decide +kernel
theorem dJ7_fill_d0a16_0 : decode cJ7_fill_d0a16 0 = .ok (.iconst 0, 1) := by decide +kernel
theorem dJ7_fill_d0a16_1 : decode cJ7_fill_d0a16 1 = .ok (.istore_n 3, 1) := by decide +kernel
theorem dJ7_fill_d0a16_2 : decode cJ7_fill_d0a16 2 = .ok (.aload_n 0, 1) := by decide +kernel
theorem dJ7_fill_d0a16_3 : decode cJ7_fill_d0a16 3 = .ok (.arraylength, 1) := by decide +kernel
theorem dJ7_fill_d0a16_4 : decode cJ7_fill_d0a16 4 = .ok (.istore 4, 2) := by decide +kernel
theorem dJ7_fill_d0a16_6 : decode cJ7_fill_d0a16 6 = .ok (.iload_n 3, 1) := by decide +kernel
theorem dJ7_fill_d0a16_7 : decode cJ7_fill_d0a16 7 = .ok (.iload 4, 2) := by decide +kernel
theorem dJ7_fill_d0a16_9 : decode cJ7_fill_d0a16 9 = .ok (.if_icmp .ge 13, 3) := by decide +kernel
theorem dJ7_fill_d0a16_12 : decode cJ7_fill_d0a16 12 = .ok (.aload_n 0, 1) := by decide +kernel
theorem dJ7_fill_d0a16_13 : decode cJ7_fill_d0a16 13 = .ok (.iload_n 3, 1) := by decide +kernel
theorem dJ7_fill_d0a16_14 : decode cJ7_fill_d0a16 14 = .ok (.lload_n 1, 1) := by decide +kernel
theorem dJ7_fill_d0a16_15 : decode cJ7_fill_d0a16 15 = .ok (.lastore, 1) := by decide +kernel
theorem dJ7_fill_d0a16_16 : decode cJ7_fill_d0a16 16 = .ok (.iinc 3 1, 3) := by decide +kernel
theorem dJ7_fill_d0a16_19 : decode cJ7_fill_d0a16 19 = .ok (.goto (-13), 3) := by decide +kernel
theorem dJ7_fill_d0a16_22 : decode cJ7_fill_d0a16 22 = .ok (.return_, 1) := by decide +kernel
theorem dX10_allBelow_0 : decode cX10_allBelow 0 = .ok (.iconst 0, 1) := by decide +kernel
theorem dX10_allBelow_1 : decode cX10_allBelow 1 = .ok (.istore_n 2, 1) := by decide +kernel
theorem dX10_allBelow_2 : decode cX10_allBelow 2 = .ok (.iload_n 2, 1) := by decide +kernel
theorem dX10_allBelow_3 : decode cX10_allBelow 3 = .ok (.aload_n 0, 1) := by decide +kernel
theorem dX10_allBelow_4 : decode cX10_allBelow 4 = .ok (.getfield 15, 3) := by decide +kernel
theorem dX10_allBelow_7 : decode cX10_allBelow 7 = .ok (.if_icmp .ge 34, 3) := by decide +kernel
theorem dX10_allBelow_10 : decode cX10_allBelow 10 = .ok (.aload_n 0, 1) := by decide +kernel
theorem dX10_allBelow_11 : decode cX10_allBelow 11 = .ok (.getfield 11, 3) := by decide +kernel
theorem dX10_allBelow_14 : decode cX10_allBelow 14 = .ok (.iload_n 2, 1) := by decide +kernel
theorem dX10_allBelow_15 : decode cX10_allBelow 15 = .ok (.laload, 1) := by decide +kernel
theorem dX10_allBelow_16 : decode cX10_allBelow 16 = .ok (.lconst 0, 1) := by decide +kernel
theorem dX10_allBelow_17 : decode cX10_allBelow 17 = .ok (.lcmp, 1) := by decide +kernel
theorem dX10_allBelow_18 : decode cX10_allBelow 18 = .ok (.ifCond .lt 15, 3) := by decide +kernel
theorem dX10_allBelow_21 : decode cX10_allBelow 21 = .ok (.aload_n 0, 1) := by decide +kernel
theorem dX10_allBelow_22 : decode cX10_allBelow 22 = .ok (.getfield 11, 3) := by decide +kernel
theorem dX10_allBelow_25 : decode cX10_allBelow 25 = .ok (.iload_n 2, 1) := by decide +kernel
theorem dX10_allBelow_26 : decode cX10_allBelow 26 = .ok (.laload, 1) := by decide +kernel
theorem dX10_allBelow_27 : decode cX10_allBelow 27 = .ok (.iload_n 1, 1) := by decide +kernel
theorem dX10_allBelow_28 : decode cX10_allBelow 28 = .ok (.i2l, 1) := by decide +kernel
theorem dX10_allBelow_29 : decode cX10_allBelow 29 = .ok (.lcmp, 1) := by decide +kernel
theorem dX10_allBelow_30 : decode cX10_allBelow 30 = .ok (.ifCond .lt 5, 3) := by decide +kernel
theorem dX10_allBelow_33 : decode cX10_allBelow 33 = .ok (.iconst 0, 1) := by decide +kernel
theorem dX10_allBelow_34 : decode cX10_allBelow 34 = .ok (.ireturn, 1) := by decide +kernel
theorem dX10_allBelow_35 : decode cX10_allBelow 35 = .ok (.iinc 2 1, 3) := by decide +kernel
theorem dX10_allBelow_38 : decode cX10_allBelow 38 = .ok (.goto (-36), 3) := by decide +kernel
theorem dX10_allBelow_41 : decode cX10_allBelow 41 = .ok (.iconst 1, 1) := by decide +kernel
theorem dX10_allBelow_42 : decode cX10_allBelow 42 = .ok (.ireturn, 1) := by decide +kernel
theorem dX10_asSmall_0 : decode cX10_asSmall 0 = .ok (.iload_n 1, 1) := by decide +kernel
theorem dX10_asSmall_1 : decode cX10_asSmall 1 = .ok (.ifCond .lt 11, 3) := by decide +kernel
theorem dX10_asSmall_4 : decode cX10_asSmall 4 = .ok (.iload_n 1, 1) := by decide +kernel
theorem dX10_asSmall_5 : decode cX10_asSmall 5 = .ok (.aload_n 0, 1) := by decide +kernel
theorem dX10_asSmall_6 : decode cX10_asSmall 6 = .ok (.getfield 15, 3) := by decide +kernel
theorem dX10_asSmall_9 : decode cX10_asSmall 9 = .ok (.if_icmp .lt 5, 3) := by decide +kernel
theorem dX10_asSmall_12 : decode cX10_asSmall 12 = .ok (.iconst (-1), 1) := by decide +kernel
theorem dX10_asSmall_13 : decode cX10_asSmall 13 = .ok (.ireturn, 1) := by decide +kernel
theorem dX10_asSmall_14 : decode cX10_asSmall 14 = .ok (.aload_n 0, 1) := by decide +kernel
theorem dX10_asSmall_15 : decode cX10_asSmall 15 = .ok (.getfield 11, 3) := by decide +kernel
theorem dX10_asSmall_18 : decode cX10_asSmall 18 = .ok (.iload_n 1, 1) := by decide +kernel
theorem dX10_asSmall_19 : decode cX10_asSmall 19 = .ok (.laload, 1) := by decide +kernel
theorem dX10_asSmall_20 : decode cX10_asSmall 20 = .ok (.l2i, 1) := by decide +kernel
theorem dX10_asSmall_21 : decode cX10_asSmall 21 = .ok (.istore_n 2, 1) := by decide +kernel
theorem dX10_asSmall_22 : decode cX10_asSmall 22 = .ok (.iload_n 2, 1) := by decide +kernel
theorem dX10_asSmall_23 : decode cX10_asSmall 23 = .ok (.ifCond .lt 19, 3) := by decide +kernel
theorem dX10_asSmall_26 : decode cX10_asSmall 26 = .ok (.iload_n 2, 1) := by decide +kernel
theorem dX10_asSmall_27 : decode cX10_asSmall 27 = .ok (.i2l, 1) := by decide +kernel
theorem dX10_asSmall_28 : decode cX10_asSmall 28 = .ok (.aload_n 0, 1) := by decide +kernel
theorem dX10_asSmall_29 : decode cX10_asSmall 29 = .ok (.getfield 11, 3) := by decide +kernel
theorem dX10_asSmall_32 : decode cX10_asSmall 32 = .ok (.iload_n 1, 1) := by decide +kernel
theorem dX10_asSmall_33 : decode cX10_asSmall 33 = .ok (.laload, 1) := by decide +kernel
theorem dX10_asSmall_34 : decode cX10_asSmall 34 = .ok (.lcmp, 1) := by decide +kernel
theorem dX10_asSmall_35 : decode cX10_asSmall 35 = .ok (.ifCond .ne 7, 3) := by decide +kernel
theorem dX10_asSmall_38 : decode cX10_asSmall 38 = .ok (.iload_n 2, 1) := by decide +kernel
theorem dX10_asSmall_39 : decode cX10_asSmall 39 = .ok (.goto 4, 3) := by decide +kernel
theorem dX10_asSmall_42 : decode cX10_asSmall 42 = .ok (.iconst (-1), 1) := by decide +kernel
theorem dX10_asSmall_43 : decode cX10_asSmall 43 = .ok (.ireturn, 1) := by decide +kernel
theorem dX10_lay_0 : decode cX10_lay 0 = .ok (.aload_n 0, 1) := by decide +kernel
theorem dX10_lay_1 : decode cX10_lay 1 = .ok (.getfield 11, 3) := by decide +kernel
theorem dX10_lay_4 : decode cX10_lay 4 = .ok (.lconst 0, 1) := by decide +kernel
theorem dX10_lay_5 : decode cX10_lay 5 = .ok (.invokestatic 19, 3) := by decide +kernel
theorem dX10_lay_8 : decode cX10_lay 8 = .ok (.aload_n 0, 1) := by decide +kernel
theorem dX10_lay_9 : decode cX10_lay 9 = .ok (.iload_n 1, 1) := by decide +kernel
theorem dX10_lay_10 : decode cX10_lay 10 = .ok (.putfield 25, 3) := by decide +kernel
theorem dX10_lay_13 : decode cX10_lay 13 = .ok (.aload_n 0, 1) := by decide +kernel
theorem dX10_lay_14 : decode cX10_lay 14 = .ok (.iload_n 2, 1) := by decide +kernel
theorem dX10_lay_15 : decode cX10_lay 15 = .ok (.putfield 15, 3) := by decide +kernel
theorem dX10_lay_18 : decode cX10_lay 18 = .ok (.return_, 1) := by decide +kernel
theorem dX10_put_0 : decode cX10_put 0 = .ok (.aload_n 0, 1) := by decide +kernel
theorem dX10_put_1 : decode cX10_put 1 = .ok (.getfield 11, 3) := by decide +kernel
theorem dX10_put_4 : decode cX10_put 4 = .ok (.iload_n 1, 1) := by decide +kernel
theorem dX10_put_5 : decode cX10_put 5 = .ok (.aload_n 0, 1) := by decide +kernel
theorem dX10_put_6 : decode cX10_put 6 = .ok (.getfield 25, 3) := by decide +kernel
theorem dX10_put_9 : decode cX10_put 9 = .ok (.ifCond .ne 10, 3) := by decide +kernel
theorem dX10_put_12 : decode cX10_put 12 = .ok (.lload_n 2, 1) := by decide +kernel
theorem dX10_put_13 : decode cX10_put 13 = .ok (.l2i, 1) := by decide +kernel
theorem dX10_put_14 : decode cX10_put 14 = .ok (.i2b, 1) := by decide +kernel
theorem dX10_put_15 : decode cX10_put 15 = .ok (.i2l, 1) := by decide +kernel
theorem dX10_put_16 : decode cX10_put 16 = .ok (.goto 33, 3) := by decide +kernel
theorem dX10_put_19 : decode cX10_put 19 = .ok (.aload_n 0, 1) := by decide +kernel
theorem dX10_put_20 : decode cX10_put 20 = .ok (.getfield 25, 3) := by decide +kernel
theorem dX10_put_23 : decode cX10_put 23 = .ok (.iconst 1, 1) := by decide +kernel
theorem dX10_put_24 : decode cX10_put 24 = .ok (.if_icmp .ne 10, 3) := by decide +kernel
theorem dX10_put_27 : decode cX10_put 27 = .ok (.lload_n 2, 1) := by decide +kernel
theorem dX10_put_28 : decode cX10_put 28 = .ok (.l2i, 1) := by decide +kernel
theorem dX10_put_29 : decode cX10_put 29 = .ok (.i2s, 1) := by decide +kernel
theorem dX10_put_30 : decode cX10_put 30 = .ok (.i2l, 1) := by decide +kernel
theorem dX10_put_31 : decode cX10_put 31 = .ok (.goto 18, 3) := by decide +kernel
theorem dX10_put_34 : decode cX10_put 34 = .ok (.aload_n 0, 1) := by decide +kernel
theorem dX10_put_35 : decode cX10_put 35 = .ok (.getfield 25, 3) := by decide +kernel
theorem dX10_put_38 : decode cX10_put 38 = .ok (.iconst 2, 1) := by decide +kernel
theorem dX10_put_39 : decode cX10_put 39 = .ok (.if_icmp .ne 9, 3) := by decide +kernel
theorem dX10_put_42 : decode cX10_put 42 = .ok (.lload_n 2, 1) := by decide +kernel
theorem dX10_put_43 : decode cX10_put 43 = .ok (.l2i, 1) := by decide +kernel
theorem dX10_put_44 : decode cX10_put 44 = .ok (.i2l, 1) := by decide +kernel
theorem dX10_put_45 : decode cX10_put 45 = .ok (.goto 4, 3) := by decide +kernel
theorem dX10_put_48 : decode cX10_put 48 = .ok (.lload_n 2, 1) := by decide +kernel
theorem dX10_put_49 : decode cX10_put 49 = .ok (.lastore, 1) := by decide +kernel
theorem dX10_put_50 : decode cX10_put 50 = .ok (.aload_n 0, 1) := by decide +kernel
theorem dX10_put_51 : decode cX10_put 51 = .ok (.getfield 11, 3) := by decide +kernel
theorem dX10_put_54 : decode cX10_put 54 = .ok (.iload_n 1, 1) := by decide +kernel
theorem dX10_put_55 : decode cX10_put 55 = .ok (.laload, 1) := by decide +kernel
theorem dX10_put_56 : decode cX10_put 56 = .ok (.lreturn, 1) := by decide +kernel
theorem dX1_allLefts_0 : decode cX1_allLefts 0 = .ok (.iconst 0, 1) := by decide +kernel
theorem dX1_allLefts_1 : decode cX1_allLefts 1 = .ok (.istore_n 1, 1) := by decide +kernel
theorem dX1_allLefts_2 : decode cX1_allLefts 2 = .ok (.iconst 0, 1) := by decide +kernel
theorem dX1_allLefts_3 : decode cX1_allLefts 3 = .ok (.istore_n 2, 1) := by decide +kernel
theorem dX1_allLefts_4 : decode cX1_allLefts 4 = .ok (.iload_n 2, 1) := by decide +kernel
theorem dX1_allLefts_5 : decode cX1_allLefts 5 = .ok (.aload_n 0, 1) := by decide +kernel
theorem dX1_allLefts_6 : decode cX1_allLefts 6 = .ok (.getfield 39, 3) := by decide +kernel
theorem dX1_allLefts_9 : decode cX1_allLefts 9 = .ok (.if_icmp .ge 18, 3) := by decide +kernel
theorem dX1_allLefts_12 : decode cX1_allLefts 12 = .ok (.iload_n 1, 1) := by decide +kernel
theorem dX1_allLefts_13 : decode cX1_allLefts 13 = .ok (.aload_n 0, 1) := by decide +kernel
theorem dX1_allLefts_14 : decode cX1_allLefts 14 = .ok (.getfield 18, 3) := by decide +kernel
theorem dX1_allLefts_17 : decode cX1_allLefts 17 = .ok (.iload_n 2, 1) := by decide +kernel
theorem dX1_allLefts_18 : decode cX1_allLefts 18 = .ok (.iaload, 1) := by decide +kernel
theorem dX1_allLefts_19 : decode cX1_allLefts 19 = .ok (.iadd, 1) := by decide +kernel
theorem dX1_allLefts_20 : decode cX1_allLefts 20 = .ok (.istore_n 1, 1) := by decide +kernel
theorem dX1_allLefts_21 : decode cX1_allLefts 21 = .ok (.iinc 2 1, 3) := by decide +kernel
theorem dX1_allLefts_24 : decode cX1_allLefts 24 = .ok (.goto (-20), 3) := by decide +kernel
theorem dX1_allLefts_27 : decode cX1_allLefts 27 = .ok (.iload_n 1, 1) := by decide +kernel
theorem dX1_allLefts_28 : decode cX1_allLefts 28 = .ok (.ireturn, 1) := by decide +kernel
theorem dX1_allSold_0 : decode cX1_allSold 0 = .ok (.iconst 0, 1) := by decide +kernel
theorem dX1_allSold_1 : decode cX1_allSold 1 = .ok (.istore_n 1, 1) := by decide +kernel
theorem dX1_allSold_2 : decode cX1_allSold 2 = .ok (.iconst 0, 1) := by decide +kernel
theorem dX1_allSold_3 : decode cX1_allSold 3 = .ok (.istore_n 2, 1) := by decide +kernel
theorem dX1_allSold_4 : decode cX1_allSold 4 = .ok (.iload_n 2, 1) := by decide +kernel
theorem dX1_allSold_5 : decode cX1_allSold 5 = .ok (.bipush 25, 2) := by decide +kernel
theorem dX1_allSold_7 : decode cX1_allSold 7 = .ok (.if_icmp .ge 18, 3) := by decide +kernel
theorem dX1_allSold_10 : decode cX1_allSold 10 = .ok (.iload_n 1, 1) := by decide +kernel
theorem dX1_allSold_11 : decode cX1_allSold 11 = .ok (.aload_n 0, 1) := by decide +kernel
theorem dX1_allSold_12 : decode cX1_allSold 12 = .ok (.getfield 27, 3) := by decide +kernel
theorem dX1_allSold_15 : decode cX1_allSold 15 = .ok (.iload_n 2, 1) := by decide +kernel
theorem dX1_allSold_16 : decode cX1_allSold 16 = .ok (.iaload, 1) := by decide +kernel
theorem dX1_allSold_17 : decode cX1_allSold 17 = .ok (.iadd, 1) := by decide +kernel
theorem dX1_allSold_18 : decode cX1_allSold 18 = .ok (.istore_n 1, 1) := by decide +kernel
theorem dX1_allSold_19 : decode cX1_allSold 19 = .ok (.iinc 2 1, 3) := by decide +kernel
theorem dX1_allSold_22 : decode cX1_allSold 22 = .ok (.goto (-18), 3) := by decide +kernel
theorem dX1_allSold_25 : decode cX1_allSold 25 = .ok (.iload_n 1, 1) := by decide +kernel
theorem dX1_allSold_26 : decode cX1_allSold 26 = .ok (.ireturn, 1) := by decide +kernel
theorem dX1_clear_0 : decode cX1_clear 0 = .ok (.aload_n 0, 1) := by decide +kernel
theorem dX1_clear_1 : decode cX1_clear 1 = .ok (.getfield 24, 3) := by decide +kernel
theorem dX1_clear_4 : decode cX1_clear 4 = .ok (.iconst 0, 1) := by decide +kernel
theorem dX1_clear_5 : decode cX1_clear 5 = .ok (.invokestatic 33, 3) := by decide +kernel
theorem dX1_clear_8 : decode cX1_clear 8 = .ok (.aload_n 0, 1) := by decide +kernel
theorem dX1_clear_9 : decode cX1_clear 9 = .ok (.getfield 27, 3) := by decide +kernel
theorem dX1_clear_12 : decode cX1_clear 12 = .ok (.iconst 0, 1) := by decide +kernel
theorem dX1_clear_13 : decode cX1_clear 13 = .ok (.invokestatic 33, 3) := by decide +kernel
theorem dX1_clear_16 : decode cX1_clear 16 = .ok (.aload_n 0, 1) := by decide +kernel
theorem dX1_clear_17 : decode cX1_clear 17 = .ok (.getfield 30, 3) := by decide +kernel
theorem dX1_clear_20 : decode cX1_clear 20 = .ok (.iconst 0, 1) := by decide +kernel
theorem dX1_clear_21 : decode cX1_clear 21 = .ok (.invokestatic 33, 3) := by decide +kernel
theorem dX1_clear_24 : decode cX1_clear 24 = .ok (.aload_n 0, 1) := by decide +kernel
theorem dX1_clear_25 : decode cX1_clear 25 = .ok (.iconst 0, 1) := by decide +kernel
theorem dX1_clear_26 : decode cX1_clear 26 = .ok (.putfield 39, 3) := by decide +kernel
theorem dX1_clear_29 : decode cX1_clear 29 = .ok (.aload_n 0, 1) := by decide +kernel
theorem dX1_clear_30 : decode cX1_clear 30 = .ok (.iconst 0, 1) := by decide +kernel
theorem dX1_clear_31 : decode cX1_clear 31 = .ok (.putfield 43, 3) := by decide +kernel
theorem dX1_clear_34 : decode cX1_clear 34 = .ok (.return_, 1) := by decide +kernel
theorem dX1_copy_0 : decode cX1_copy 0 = .ok (.aload_n 1, 1) := by decide +kernel
theorem dX1_copy_1 : decode cX1_copy 1 = .ok (.getfield 9, 3) := by decide +kernel
theorem dX1_copy_4 : decode cX1_copy 4 = .ok (.iconst 0, 1) := by decide +kernel
theorem dX1_copy_5 : decode cX1_copy 5 = .ok (.aload_n 0, 1) := by decide +kernel
theorem dX1_copy_6 : decode cX1_copy 6 = .ok (.getfield 9, 3) := by decide +kernel
theorem dX1_copy_9 : decode cX1_copy 9 = .ok (.iconst 0, 1) := by decide +kernel
theorem dX1_copy_10 : decode cX1_copy 10 = .ok (.iconst 5, 1) := by decide +kernel
theorem dX1_copy_11 : decode cX1_copy 11 = .ok (.invokestatic 46, 3) := by decide +kernel
theorem dX1_copy_14 : decode cX1_copy 14 = .ok (.aload_n 1, 1) := by decide +kernel
theorem dX1_copy_15 : decode cX1_copy 15 = .ok (.getfield 15, 3) := by decide +kernel
theorem dX1_copy_18 : decode cX1_copy 18 = .ok (.iconst 0, 1) := by decide +kernel
theorem dX1_copy_19 : decode cX1_copy 19 = .ok (.aload_n 0, 1) := by decide +kernel
theorem dX1_copy_20 : decode cX1_copy 20 = .ok (.getfield 15, 3) := by decide +kernel
theorem dX1_copy_23 : decode cX1_copy 23 = .ok (.iconst 0, 1) := by decide +kernel
theorem dX1_copy_24 : decode cX1_copy 24 = .ok (.iconst 5, 1) := by decide +kernel
theorem dX1_copy_25 : decode cX1_copy 25 = .ok (.invokestatic 46, 3) := by decide +kernel
theorem dX1_copy_28 : decode cX1_copy 28 = .ok (.aload_n 1, 1) := by decide +kernel
theorem dX1_copy_29 : decode cX1_copy 29 = .ok (.getfield 18, 3) := by decide +kernel
theorem dX1_copy_32 : decode cX1_copy 32 = .ok (.iconst 0, 1) := by decide +kernel
theorem dX1_copy_33 : decode cX1_copy 33 = .ok (.aload_n 0, 1) := by decide +kernel
theorem dX1_copy_34 : decode cX1_copy 34 = .ok (.getfield 18, 3) := by decide +kernel
theorem dX1_copy_37 : decode cX1_copy 37 = .ok (.iconst 0, 1) := by decide +kernel
theorem dX1_copy_38 : decode cX1_copy 38 = .ok (.iconst 5, 1) := by decide +kernel
theorem dX1_copy_39 : decode cX1_copy 39 = .ok (.invokestatic 46, 3) := by decide +kernel
theorem dX1_copy_42 : decode cX1_copy 42 = .ok (.aload_n 1, 1) := by decide +kernel
theorem dX1_copy_43 : decode cX1_copy 43 = .ok (.getfield 21, 3) := by decide +kernel
theorem dX1_copy_46 : decode cX1_copy 46 = .ok (.iconst 0, 1) := by decide +kernel
theorem dX1_copy_47 : decode cX1_copy 47 = .ok (.aload_n 0, 1) := by decide +kernel
theorem dX1_copy_48 : decode cX1_copy 48 = .ok (.getfield 21, 3) := by decide +kernel
theorem dX1_copy_51 : decode cX1_copy 51 = .ok (.iconst 0, 1) := by decide +kernel
theorem dX1_copy_52 : decode cX1_copy 52 = .ok (.iconst 5, 1) := by decide +kernel
theorem dX1_copy_53 : decode cX1_copy 53 = .ok (.invokestatic 46, 3) := by decide +kernel
theorem dX1_copy_56 : decode cX1_copy 56 = .ok (.aload_n 1, 1) := by decide +kernel
theorem dX1_copy_57 : decode cX1_copy 57 = .ok (.getfield 24, 3) := by decide +kernel
theorem dX1_copy_60 : decode cX1_copy 60 = .ok (.iconst 0, 1) := by decide +kernel
theorem dX1_copy_61 : decode cX1_copy 61 = .ok (.aload_n 0, 1) := by decide +kernel
theorem dX1_copy_62 : decode cX1_copy 62 = .ok (.getfield 24, 3) := by decide +kernel
theorem dX1_copy_65 : decode cX1_copy 65 = .ok (.iconst 0, 1) := by decide +kernel
theorem dX1_copy_66 : decode cX1_copy 66 = .ok (.iconst 5, 1) := by decide +kernel
theorem dX1_copy_67 : decode cX1_copy 67 = .ok (.invokestatic 46, 3) := by decide +kernel
theorem dX1_copy_70 : decode cX1_copy 70 = .ok (.aload_n 1, 1) := by decide +kernel
theorem dX1_copy_71 : decode cX1_copy 71 = .ok (.getfield 27, 3) := by decide +kernel
theorem dX1_copy_74 : decode cX1_copy 74 = .ok (.iconst 0, 1) := by decide +kernel
theorem dX1_copy_75 : decode cX1_copy 75 = .ok (.aload_n 0, 1) := by decide +kernel
theorem dX1_copy_76 : decode cX1_copy 76 = .ok (.getfield 27, 3) := by decide +kernel
theorem dX1_copy_79 : decode cX1_copy 79 = .ok (.iconst 0, 1) := by decide +kernel
theorem dX1_copy_80 : decode cX1_copy 80 = .ok (.bipush 25, 2) := by decide +kernel
theorem dX1_copy_82 : decode cX1_copy 82 = .ok (.invokestatic 46, 3) := by decide +kernel
theorem dX1_copy_85 : decode cX1_copy 85 = .ok (.aload_n 1, 1) := by decide +kernel
theorem dX1_copy_86 : decode cX1_copy 86 = .ok (.getfield 30, 3) := by decide +kernel
theorem dX1_copy_89 : decode cX1_copy 89 = .ok (.iconst 0, 1) := by decide +kernel
theorem dX1_copy_90 : decode cX1_copy 90 = .ok (.aload_n 0, 1) := by decide +kernel
theorem dX1_copy_91 : decode cX1_copy 91 = .ok (.getfield 30, 3) := by decide +kernel
theorem dX1_copy_94 : decode cX1_copy 94 = .ok (.iconst 0, 1) := by decide +kernel
theorem dX1_copy_95 : decode cX1_copy 95 = .ok (.bipush 25, 2) := by decide +kernel
theorem dX1_copy_97 : decode cX1_copy 97 = .ok (.invokestatic 46, 3) := by decide +kernel
theorem dX1_copy_100 : decode cX1_copy 100 = .ok (.aload_n 0, 1) := by decide +kernel
theorem dX1_copy_101 : decode cX1_copy 101 = .ok (.aload_n 1, 1) := by decide +kernel
theorem dX1_copy_102 : decode cX1_copy 102 = .ok (.getfield 39, 3) := by decide +kernel
theorem dX1_copy_105 : decode cX1_copy 105 = .ok (.putfield 39, 3) := by decide +kernel
theorem dX1_copy_108 : decode cX1_copy 108 = .ok (.aload_n 0, 1) := by decide +kernel
theorem dX1_copy_109 : decode cX1_copy 109 = .ok (.aload_n 1, 1) := by decide +kernel
theorem dX1_copy_110 : decode cX1_copy 110 = .ok (.getfield 43, 3) := by decide +kernel
theorem dX1_copy_113 : decode cX1_copy 113 = .ok (.putfield 43, 3) := by decide +kernel
theorem dX1_copy_116 : decode cX1_copy 116 = .ok (.return_, 1) := by decide +kernel
theorem dX1_settle_0 : decode cX1_settle 0 = .ok (.aload_n 0, 1) := by decide +kernel
theorem dX1_settle_1 : decode cX1_settle 1 = .ok (.getfield 39, 3) := by decide +kernel
theorem dX1_settle_4 : decode cX1_settle 4 = .ok (.iconst 5, 1) := by decide +kernel
theorem dX1_settle_5 : decode cX1_settle 5 = .ok (.if_icmp .ge 54, 3) := by decide +kernel
theorem dX1_settle_8 : decode cX1_settle 8 = .ok (.aload_n 0, 1) := by decide +kernel
theorem dX1_settle_9 : decode cX1_settle 9 = .ok (.getfield 9, 3) := by decide +kernel
theorem dX1_settle_12 : decode cX1_settle 12 = .ok (.aload_n 0, 1) := by decide +kernel
theorem dX1_settle_13 : decode cX1_settle 13 = .ok (.getfield 39, 3) := by decide +kernel
theorem dX1_settle_16 : decode cX1_settle 16 = .ok (.iload_n 1, 1) := by decide +kernel
theorem dX1_settle_17 : decode cX1_settle 17 = .ok (.iastore, 1) := by decide +kernel
theorem dX1_settle_18 : decode cX1_settle 18 = .ok (.aload_n 0, 1) := by decide +kernel
theorem dX1_settle_19 : decode cX1_settle 19 = .ok (.getfield 15, 3) := by decide +kernel
theorem dX1_settle_22 : decode cX1_settle 22 = .ok (.aload_n 0, 1) := by decide +kernel
theorem dX1_settle_23 : decode cX1_settle 23 = .ok (.getfield 39, 3) := by decide +kernel
theorem dX1_settle_26 : decode cX1_settle 26 = .ok (.iload_n 2, 1) := by decide +kernel
theorem dX1_settle_27 : decode cX1_settle 27 = .ok (.iastore, 1) := by decide +kernel
theorem dX1_settle_28 : decode cX1_settle 28 = .ok (.aload_n 0, 1) := by decide +kernel
theorem dX1_settle_29 : decode cX1_settle 29 = .ok (.getfield 18, 3) := by decide +kernel
theorem dX1_settle_32 : decode cX1_settle 32 = .ok (.aload_n 0, 1) := by decide +kernel
theorem dX1_settle_33 : decode cX1_settle 33 = .ok (.getfield 39, 3) := by decide +kernel
theorem dX1_settle_36 : decode cX1_settle 36 = .ok (.iload_n 3, 1) := by decide +kernel
theorem dX1_settle_37 : decode cX1_settle 37 = .ok (.iastore, 1) := by decide +kernel
theorem dX1_settle_38 : decode cX1_settle 38 = .ok (.aload_n 0, 1) := by decide +kernel
theorem dX1_settle_39 : decode cX1_settle 39 = .ok (.getfield 21, 3) := by decide +kernel
theorem dX1_settle_42 : decode cX1_settle 42 = .ok (.aload_n 0, 1) := by decide +kernel
theorem dX1_settle_43 : decode cX1_settle 43 = .ok (.getfield 39, 3) := by decide +kernel
theorem dX1_settle_46 : decode cX1_settle 46 = .ok (.iload 4, 2) := by decide +kernel
theorem dX1_settle_48 : decode cX1_settle 48 = .ok (.iastore, 1) := by decide +kernel
theorem dX1_settle_49 : decode cX1_settle 49 = .ok (.aload_n 0, 1) := by decide +kernel
theorem dX1_settle_50 : decode cX1_settle 50 = .ok (.dup, 1) := by decide +kernel
theorem dX1_settle_51 : decode cX1_settle 51 = .ok (.getfield 39, 3) := by decide +kernel
theorem dX1_settle_54 : decode cX1_settle 54 = .ok (.iconst 1, 1) := by decide +kernel
theorem dX1_settle_55 : decode cX1_settle 55 = .ok (.iadd, 1) := by decide +kernel
theorem dX1_settle_56 : decode cX1_settle 56 = .ok (.putfield 39, 3) := by decide +kernel
theorem dX1_settle_59 : decode cX1_settle 59 = .ok (.return_, 1) := by decide +kernel
theorem dX1_stand_0 : decode cX1_stand 0 = .ok (.iconst 4, 1) := by decide +kernel
theorem dX1_stand_1 : decode cX1_stand 1 = .ok (.aload_n 0, 1) := by decide +kernel
theorem dX1_stand_2 : decode cX1_stand 2 = .ok (.getfield 9, 3) := by decide +kernel
theorem dX1_stand_5 : decode cX1_stand 5 = .ok (.iload_n 1, 1) := by decide +kernel
theorem dX1_stand_6 : decode cX1_stand 6 = .ok (.iaload, 1) := by decide +kernel
theorem dX1_stand_7 : decode cX1_stand 7 = .ok (.imul, 1) := by decide +kernel
theorem dX1_stand_8 : decode cX1_stand 8 = .ok (.aload_n 0, 1) := by decide +kernel
theorem dX1_stand_9 : decode cX1_stand 9 = .ok (.getfield 15, 3) := by decide +kernel
theorem dX1_stand_12 : decode cX1_stand 12 = .ok (.iload_n 1, 1) := by decide +kernel
theorem dX1_stand_13 : decode cX1_stand 13 = .ok (.iaload, 1) := by decide +kernel
theorem dX1_stand_14 : decode cX1_stand 14 = .ok (.iadd, 1) := by decide +kernel
theorem dX1_stand_15 : decode cX1_stand 15 = .ok (.ireturn, 1) := by decide +kernel
theorem o12_1 {x0 : Int} (h0 : 0 ≤ x0) (h1 : x0 ≤ 5) (h2 : 5 - x0 < 0) : False := by omega
theorem o12_2 {x0 x1 : Int} {x2 : Nat} (h0 : x1 = (5 : Nat)) (h1 : 0 ≤ x0) (h2 : x0 ≤ 5) (h3 : 5 - x0 < ((x2 + 1 : Nat) : Int)) (h4 : x0 < x1) : 0 ≤ x0 := by omega
theorem o12_3 {x0 x1 : Int} {x2 : Nat} (h0 : x1 = (5 : Nat)) (h1 : 0 ≤ x0) (h2 : x0 ≤ 5) (h3 : 5 - x0 < ((x2 + 1 : Nat) : Int)) (h4 : x0 < x1) : x0 < (5 : Nat) := by omega
theorem o12_4 {x0 x1 : Int} {x2 : Nat} (h0 : x1 = (5 : Nat)) (h1 : 0 ≤ x0) (h2 : x0 ≤ 5) (h3 : 5 - x0 < ((x2 + 1 : Nat) : Int)) (h4 : x0 < x1) (h5 : -2147483648 ≤ x0) (h6 : x0 ≤ 2147483647) (h7 : -2147483648 ≤ x1) (h8 : x1 ≤ 2147483647) : -2147483648 ≤ x0 + 1 := by omega
theorem o12_5 {x0 x1 : Int} {x2 : Nat} (h0 : x1 = (5 : Nat)) (h1 : 0 ≤ x0) (h2 : x0 ≤ 5) (h3 : 5 - x0 < ((x2 + 1 : Nat) : Int)) (h4 : x0 < x1) (h5 : -2147483648 ≤ x0) (h6 : x0 ≤ 2147483647) (h7 : -2147483648 ≤ x1) (h8 : x1 ≤ 2147483647) : x0 + 1 ≤ 2147483647 := by omega
theorem o12_6 {x0 x2 x3 : Int} {x1 : Nat} (h0 : x2 = (5 : Nat)) (h1 : 0 ≤ x3) (h2 : x3 ≤ 5) (h3 : 5 - x3 < ((x1 + 1 : Nat) : Int)) (h4 : x3 < x2) (h5 : x0 = x3 + 1) : 5 - x0 < (x1 : Int) := by omega
theorem o12_7 {x0 x1 x2 : Int} {x3 : Nat} (h0 : x1 = (5 : Nat)) (h1 : 0 ≤ x2) (h2 : x2 ≤ 5) (h3 : 5 - x2 < ((x3 + 1 : Nat) : Int)) (h4 : x2 < x1) (h5 : x0 = x2 + 1) : 0 ≤ x0 := by omega
theorem o12_8 {x0 x1 x2 : Int} {x3 : Nat} (h0 : x1 = (5 : Nat)) (h1 : 0 ≤ x2) (h2 : x2 ≤ 5) (h3 : 5 - x2 < ((x3 + 1 : Nat) : Int)) (h4 : x2 < x1) (h5 : x0 = x2 + 1) : x0 ≤ 5 := by omega
theorem o12_9 {x0 : Int} (h0 : x0 = 0) : 5 - x0 < (((5 - x0 + 1).toNat : Nat) : Int) := by omega
theorem o12_10 {x0 : Int} (h0 : x0 = 0) : 0 ≤ x0 := by omega
theorem o12_11 {x0 : Int} (h0 : x0 = 0) : x0 ≤ 5 := by omega
theorem o12_12 {x0 : Int} (h0 : 0 ≤ x0) (h1 : x0 ≤ 25) (h2 : 25 - x0 < 0) : False := by omega
theorem o12_13 {x0 x1 : Int} {x2 : Nat} (h0 : x1 = (25 : Nat)) (h1 : 0 ≤ x0) (h2 : x0 ≤ 25) (h3 : 25 - x0 < ((x2 + 1 : Nat) : Int)) (h4 : x0 < x1) : 0 ≤ x0 := by omega
theorem o12_14 {x0 x1 : Int} {x2 : Nat} (h0 : x1 = (25 : Nat)) (h1 : 0 ≤ x0) (h2 : x0 ≤ 25) (h3 : 25 - x0 < ((x2 + 1 : Nat) : Int)) (h4 : x0 < x1) : x0 < (25 : Nat) := by omega
theorem o12_15 {x0 x1 : Int} {x2 : Nat} (h0 : x1 = (25 : Nat)) (h1 : 0 ≤ x0) (h2 : x0 ≤ 25) (h3 : 25 - x0 < ((x2 + 1 : Nat) : Int)) (h4 : x0 < x1) (h5 : -2147483648 ≤ x0) (h6 : x0 ≤ 2147483647) (h7 : -2147483648 ≤ x1) (h8 : x1 ≤ 2147483647) : -2147483648 ≤ x0 + 1 := by omega
theorem o12_16 {x0 x1 : Int} {x2 : Nat} (h0 : x1 = (25 : Nat)) (h1 : 0 ≤ x0) (h2 : x0 ≤ 25) (h3 : 25 - x0 < ((x2 + 1 : Nat) : Int)) (h4 : x0 < x1) (h5 : -2147483648 ≤ x0) (h6 : x0 ≤ 2147483647) (h7 : -2147483648 ≤ x1) (h8 : x1 ≤ 2147483647) : x0 + 1 ≤ 2147483647 := by omega
theorem o12_17 {x0 x2 x3 : Int} {x1 : Nat} (h0 : x2 = (25 : Nat)) (h1 : 0 ≤ x3) (h2 : x3 ≤ 25) (h3 : 25 - x3 < ((x1 + 1 : Nat) : Int)) (h4 : x3 < x2) (h5 : x0 = x3 + 1) : 25 - x0 < (x1 : Int) := by omega
theorem o12_18 {x0 x1 x2 : Int} {x3 : Nat} (h0 : x1 = (25 : Nat)) (h1 : 0 ≤ x2) (h2 : x2 ≤ 25) (h3 : 25 - x2 < ((x3 + 1 : Nat) : Int)) (h4 : x2 < x1) (h5 : x0 = x2 + 1) : 0 ≤ x0 := by omega
theorem o12_19 {x0 x1 x2 : Int} {x3 : Nat} (h0 : x1 = (25 : Nat)) (h1 : 0 ≤ x2) (h2 : x2 ≤ 25) (h3 : 25 - x2 < ((x3 + 1 : Nat) : Int)) (h4 : x2 < x1) (h5 : x0 = x2 + 1) : x0 ≤ 25 := by omega
theorem o12_20 {x0 : Int} (h0 : x0 = 0) : 25 - x0 < (((25 - x0 + 1).toNat : Nat) : Int) := by omega
theorem o12_21 {x0 : Int} (h0 : x0 = 0) : x0 ≤ 25 := by omega
theorem o12_22 {x0 : Int} (h0 : 0 ≤ x0) (h1 : x0 ≤ 121) (h2 : 121 - x0 < 0) : False := by omega
theorem o12_23 {x0 x1 : Int} {x2 : Nat} (h0 : x1 = (121 : Nat)) (h1 : 0 ≤ x0) (h2 : x0 ≤ 121) (h3 : 121 - x0 < ((x2 + 1 : Nat) : Int)) (h4 : x0 < x1) : 0 ≤ x0 := by omega
theorem o12_24 {x0 x1 : Int} {x2 : Nat} (h0 : x1 = (121 : Nat)) (h1 : 0 ≤ x0) (h2 : x0 ≤ 121) (h3 : 121 - x0 < ((x2 + 1 : Nat) : Int)) (h4 : x0 < x1) : x0 < (121 : Nat) := by omega
theorem o12_25 {x0 x1 : Int} {x2 : Nat} (h0 : x1 = (121 : Nat)) (h1 : 0 ≤ x0) (h2 : x0 ≤ 121) (h3 : 121 - x0 < ((x2 + 1 : Nat) : Int)) (h4 : x0 < x1) (h5 : -2147483648 ≤ x0) (h6 : x0 ≤ 2147483647) (h7 : -2147483648 ≤ x1) (h8 : x1 ≤ 2147483647) : -2147483648 ≤ x0 + 1 := by omega
theorem o12_26 {x0 x1 : Int} {x2 : Nat} (h0 : x1 = (121 : Nat)) (h1 : 0 ≤ x0) (h2 : x0 ≤ 121) (h3 : 121 - x0 < ((x2 + 1 : Nat) : Int)) (h4 : x0 < x1) (h5 : -2147483648 ≤ x0) (h6 : x0 ≤ 2147483647) (h7 : -2147483648 ≤ x1) (h8 : x1 ≤ 2147483647) : x0 + 1 ≤ 2147483647 := by omega
theorem o12_27 {x0 x2 x3 : Int} {x1 : Nat} (h0 : x2 = (121 : Nat)) (h1 : 0 ≤ x3) (h2 : x3 ≤ 121) (h3 : 121 - x3 < ((x1 + 1 : Nat) : Int)) (h4 : x3 < x2) (h5 : x0 = x3 + 1) : 121 - x0 < (x1 : Int) := by omega
theorem o12_28 {x0 x1 x2 : Int} {x3 : Nat} (h0 : x1 = (121 : Nat)) (h1 : 0 ≤ x2) (h2 : x2 ≤ 121) (h3 : 121 - x2 < ((x3 + 1 : Nat) : Int)) (h4 : x2 < x1) (h5 : x0 = x2 + 1) : 0 ≤ x0 := by omega
theorem o12_29 {x0 x1 x2 : Int} {x3 : Nat} (h0 : x1 = (121 : Nat)) (h1 : 0 ≤ x2) (h2 : x2 ≤ 121) (h3 : 121 - x2 < ((x3 + 1 : Nat) : Int)) (h4 : x2 < x1) (h5 : x0 = x2 + 1) : x0 ≤ 121 := by omega
theorem o12_30 {x0 : Int} (h0 : x0 = 0) : 121 - x0 < (((121 - x0 + 1).toNat : Nat) : Int) := by omega
theorem o12_31 {x0 : Int} (h0 : x0 = 0) : x0 ≤ 121 := by omega
theorem o12_32 {x0 : Int} (h0 : 0 ≤ x0) (h1 : x0 ≤ 100) (h2 : 100 - x0 < 0) : False := by omega
theorem o12_33 {x0 x1 : Int} {x2 : Nat} (h0 : x1 = (100 : Nat)) (h1 : 0 ≤ x0) (h2 : x0 ≤ 100) (h3 : 100 - x0 < ((x2 + 1 : Nat) : Int)) (h4 : x0 < x1) : 0 ≤ x0 := by omega
theorem o12_34 {x0 x1 : Int} {x2 : Nat} (h0 : x1 = (100 : Nat)) (h1 : 0 ≤ x0) (h2 : x0 ≤ 100) (h3 : 100 - x0 < ((x2 + 1 : Nat) : Int)) (h4 : x0 < x1) : x0 < (100 : Nat) := by omega
theorem o12_35 {x0 : Int} (h0 : (-1) ≤ x0) (h1 : x0 ≤ 40) : (-1) ≤ x0 := by omega
theorem o12_36 {x0 : Int} (h0 : (-1) ≤ x0) (h1 : x0 ≤ 40) : x0 ≤ 40 := by omega
theorem o12_37 {x0 x1 : Int} {x2 : Nat} (h0 : x1 = (100 : Nat)) (h1 : 0 ≤ x0) (h2 : x0 ≤ 100) (h3 : 100 - x0 < ((x2 + 1 : Nat) : Int)) (h4 : x0 < x1) (h5 : -2147483648 ≤ x0) (h6 : x0 ≤ 2147483647) (h7 : -2147483648 ≤ x1) (h8 : x1 ≤ 2147483647) : -2147483648 ≤ x0 + 1 := by omega
theorem o12_38 {x0 x1 : Int} {x2 : Nat} (h0 : x1 = (100 : Nat)) (h1 : 0 ≤ x0) (h2 : x0 ≤ 100) (h3 : 100 - x0 < ((x2 + 1 : Nat) : Int)) (h4 : x0 < x1) (h5 : -2147483648 ≤ x0) (h6 : x0 ≤ 2147483647) (h7 : -2147483648 ≤ x1) (h8 : x1 ≤ 2147483647) : x0 + 1 ≤ 2147483647 := by omega
theorem o12_39 {x0 x2 x3 : Int} {x1 : Nat} (h0 : x2 = (100 : Nat)) (h1 : 0 ≤ x3) (h2 : x3 ≤ 100) (h3 : 100 - x3 < ((x1 + 1 : Nat) : Int)) (h4 : x3 < x2) (h5 : x0 = x3 + 1) : 100 - x0 < (x1 : Int) := by omega
theorem o12_40 {x0 x1 x2 : Int} {x3 : Nat} (h0 : x1 = (100 : Nat)) (h1 : 0 ≤ x2) (h2 : x2 ≤ 100) (h3 : 100 - x2 < ((x3 + 1 : Nat) : Int)) (h4 : x2 < x1) (h5 : x0 = x2 + 1) : 0 ≤ x0 := by omega
theorem o12_41 {x0 x1 x2 : Int} {x3 : Nat} (h0 : x1 = (100 : Nat)) (h1 : 0 ≤ x2) (h2 : x2 ≤ 100) (h3 : 100 - x2 < ((x3 + 1 : Nat) : Int)) (h4 : x2 < x1) (h5 : x0 = x2 + 1) : x0 ≤ 100 := by omega
theorem o12_42 {x0 : Int} (h0 : x0 = 0) : 100 - x0 < (((100 - x0 + 1).toNat : Nat) : Int) := by omega
theorem o12_43 {x0 : Int} (h0 : x0 = 0) : x0 ≤ 100 := by omega
theorem o12_44 {x0 : Int} (h0 : 0 ≤ x0) (h1 : x0 ≤ 40) (h2 : 40 - x0 < 0) : False := by omega
theorem o12_45 {x0 x1 : Int} {x2 : Nat} (h0 : x1 = (40 : Nat)) (h1 : 0 ≤ x0) (h2 : x0 ≤ 40) (h3 : 40 - x0 < ((x2 + 1 : Nat) : Int)) (h4 : x0 < x1) : 0 ≤ x0 := by omega
theorem o12_46 {x0 x1 : Int} {x2 : Nat} (h0 : x1 = (40 : Nat)) (h1 : 0 ≤ x0) (h2 : x0 ≤ 40) (h3 : 40 - x0 < ((x2 + 1 : Nat) : Int)) (h4 : x0 < x1) : x0 < (40 : Nat) := by omega
theorem o12_47 {x0 x1 : Int} {x2 : Nat} (h0 : x1 = (40 : Nat)) (h1 : 0 ≤ x0) (h2 : x0 ≤ 40) (h3 : 40 - x0 < ((x2 + 1 : Nat) : Int)) (h4 : x0 < x1) (h5 : -2147483648 ≤ x0) (h6 : x0 ≤ 2147483647) (h7 : -2147483648 ≤ x1) (h8 : x1 ≤ 2147483647) : -2147483648 ≤ x0 + 1 := by omega
theorem o12_48 {x0 x1 : Int} {x2 : Nat} (h0 : x1 = (40 : Nat)) (h1 : 0 ≤ x0) (h2 : x0 ≤ 40) (h3 : 40 - x0 < ((x2 + 1 : Nat) : Int)) (h4 : x0 < x1) (h5 : -2147483648 ≤ x0) (h6 : x0 ≤ 2147483647) (h7 : -2147483648 ≤ x1) (h8 : x1 ≤ 2147483647) : x0 + 1 ≤ 2147483647 := by omega
theorem o12_49 {x0 x2 x3 : Int} {x1 : Nat} (h0 : x2 = (40 : Nat)) (h1 : 0 ≤ x3) (h2 : x3 ≤ 40) (h3 : 40 - x3 < ((x1 + 1 : Nat) : Int)) (h4 : x3 < x2) (h5 : x0 = x3 + 1) : 40 - x0 < (x1 : Int) := by omega
theorem o12_50 {x0 x1 x2 : Int} {x3 : Nat} (h0 : x1 = (40 : Nat)) (h1 : 0 ≤ x2) (h2 : x2 ≤ 40) (h3 : 40 - x2 < ((x3 + 1 : Nat) : Int)) (h4 : x2 < x1) (h5 : x0 = x2 + 1) : 0 ≤ x0 := by omega
theorem o12_51 {x0 x1 x2 : Int} {x3 : Nat} (h0 : x1 = (40 : Nat)) (h1 : 0 ≤ x2) (h2 : x2 ≤ 40) (h3 : 40 - x2 < ((x3 + 1 : Nat) : Int)) (h4 : x2 < x1) (h5 : x0 = x2 + 1) : x0 ≤ 40 := by omega
theorem o12_52 {x0 : Int} (h0 : x0 = 0) : 40 - x0 < (((40 - x0 + 1).toNat : Nat) : Int) := by omega
theorem o12_53 {x0 : Int} (h0 : x0 = 0) : x0 ≤ 40 := by omega
theorem o12_54 {x0 : Int} (h0 : x0 = 1) : x0 = 1 := by omega
theorem o12_55 {x0 : Int} (h0 : x0 = 2) : x0 = 2 := by omega
theorem o12_56 {x0 : Int} (h0 : x0 = 4) : x0 = 4 := by omega
theorem o12_57 {x0 : Int} (h0 : x0 = 8) : x0 = 8 := by omega
theorem o12_58 {x0 : Int} (h0 : x0 = 16) : x0 = 16 := by omega
theorem o12_59 {x0 : Int} (h0 : x0 = 63) : x0 = 63 := by omega
theorem o12_60 {x0 : Int} (h0 : 0 ≤ x0) (h1 : x0 ≤ 63) : 0 ≤ x0 := by omega
theorem o12_61 {x0 : Int} (h0 : 0 ≤ x0) (h1 : x0 ≤ 63) : x0 ≤ 63 := by omega
theorem o12_62 {x0 : Int} (h0 : x0 = 0) : x0 ≤ 0 := by omega
theorem o12_63 {x0 : Int} (h0 : x0 = 0) : x0 = 0 := by omega
theorem o12_64 {x0 : Int} (h0 : x0 = 5) : 0 ≤ x0 := by omega
theorem o12_65 {x0 : Int} (h0 : x0 = 5) : x0 ≤ (5 : Nat) := by omega
theorem o12_66 {x0 : Int} (h0 : x0 = 25) : 0 ≤ x0 := by omega
theorem o12_67 {x0 : Int} (h0 : x0 = 25) : x0 ≤ (25 : Nat) := by omega
theorem o12_68 {x0 : Int} (h0 : 0 ≤ x0) (h1 : x0 ≤ 5) : 0 ≤ x0 := by omega
theorem o12_69 {x0 : Int} (h0 : 0 ≤ x0) (h1 : x0 ≤ 5) : x0 ≤ 5 := by omega
theorem o12_70 {x0 x1 x2 : Int} (h0 : 0 ≤ x1) (h1 : x1 ≤ 5) (h2 : x2 = 5) (h3 : x1 < x2) (h4 : 0 ≤ x0) (h5 : x0 ≤ 5) (h6 : x0 = x1) : 0 ≤ x0 := by omega
theorem o12_71 {x0 x1 x2 : Int} (h0 : 0 ≤ x1) (h1 : x1 ≤ 5) (h2 : x2 = 5) (h3 : x1 < x2) (h4 : 0 ≤ x0) (h5 : x0 ≤ 5) (h6 : x0 = x1) : x0 < (5 : Nat) := by omega
theorem o12_72 {x0 : Int} (h0 : 0 ≤ x0) (h1 : x0 ≤ 24) : 0 ≤ x0 := by omega
theorem o12_73 {x0 : Int} (h0 : 0 ≤ x0) (h1 : x0 ≤ 24) : x0 ≤ 24 := by omega
theorem o12_74 {x0 x1 x2 x3 : Int} (h0 : 0 ≤ x1) (h1 : x1 ≤ 5) (h2 : x2 = 5) (h3 : x1 < x2) (h4 : 0 ≤ x3) (h5 : x3 ≤ 5) (h6 : x3 = x1) (h7 : 0 ≤ x0) (h8 : x0 ≤ 5) (h9 : x0 = x1) : 0 ≤ x0 := by omega
theorem o12_75 {x0 x1 x2 x3 : Int} (h0 : 0 ≤ x1) (h1 : x1 ≤ 5) (h2 : x2 = 5) (h3 : x1 < x2) (h4 : 0 ≤ x3) (h5 : x3 ≤ 5) (h6 : x3 = x1) (h7 : 0 ≤ x0) (h8 : x0 ≤ 5) (h9 : x0 = x1) : x0 < (5 : Nat) := by omega
theorem o12_76 {x0 : Int} (h0 : 0 ≤ x0) (h1 : x0 ≤ 3) : 0 ≤ x0 := by omega
theorem o12_77 {x0 : Int} (h0 : 0 ≤ x0) (h1 : x0 ≤ 3) : x0 ≤ 3 := by omega
theorem o12_78 {x0 x1 x2 x3 x4 : Int} (h0 : 0 ≤ x1) (h1 : x1 ≤ 5) (h2 : x2 = 5) (h3 : x1 < x2) (h4 : 0 ≤ x3) (h5 : x3 ≤ 5) (h6 : x3 = x1) (h7 : 0 ≤ x4) (h8 : x4 ≤ 5) (h9 : x4 = x1) (h10 : 0 ≤ x0) (h11 : x0 ≤ 5) (h12 : x0 = x1) : 0 ≤ x0 := by omega
theorem o12_79 {x0 x1 x2 x3 x4 : Int} (h0 : 0 ≤ x1) (h1 : x1 ≤ 5) (h2 : x2 = 5) (h3 : x1 < x2) (h4 : 0 ≤ x3) (h5 : x3 ≤ 5) (h6 : x3 = x1) (h7 : 0 ≤ x4) (h8 : x4 ≤ 5) (h9 : x4 = x1) (h10 : 0 ≤ x0) (h11 : x0 ≤ 5) (h12 : x0 = x1) : x0 < (5 : Nat) := by omega
theorem o12_80 {x0 x1 x2 x3 x4 x5 : Int} (h0 : 0 ≤ x1) (h1 : x1 ≤ 5) (h2 : x2 = 5) (h3 : x1 < x2) (h4 : 0 ≤ x3) (h5 : x3 ≤ 5) (h6 : x3 = x1) (h7 : 0 ≤ x4) (h8 : x4 ≤ 5) (h9 : x4 = x1) (h10 : 0 ≤ x5) (h11 : x5 ≤ 5) (h12 : x5 = x1) (h13 : 0 ≤ x0) (h14 : x0 ≤ 5) (h15 : x0 = x1) : 0 ≤ x0 := by omega
theorem o12_81 {x0 x1 x2 x3 x4 x5 : Int} (h0 : 0 ≤ x1) (h1 : x1 ≤ 5) (h2 : x2 = 5) (h3 : x1 < x2) (h4 : 0 ≤ x3) (h5 : x3 ≤ 5) (h6 : x3 = x1) (h7 : 0 ≤ x4) (h8 : x4 ≤ 5) (h9 : x4 = x1) (h10 : 0 ≤ x5) (h11 : x5 ≤ 5) (h12 : x5 = x1) (h13 : 0 ≤ x0) (h14 : x0 ≤ 5) (h15 : x0 = x1) : x0 < (5 : Nat) := by omega
theorem o12_82 {x0 x1 x2 x3 x4 x5 x6 x7 : Int} (h0 : 0 ≤ x2) (h1 : x2 ≤ 5) (h2 : x3 = 5) (h3 : x2 < x3) (h4 : 0 ≤ x4) (h5 : x4 ≤ 5) (h6 : x4 = x2) (h7 : 0 ≤ x5) (h8 : x5 ≤ 5) (h9 : x5 = x2) (h10 : 0 ≤ x6) (h11 : x6 ≤ 5) (h12 : x6 = x2) (h13 : 0 ≤ x7) (h14 : x7 ≤ 5) (h15 : x7 = x2) (h16 : 0 ≤ x0) (h17 : x0 ≤ 5) (h18 : x0 = x2) (h19 : x1 = 1) (h20 : -2147483648 ≤ x0) (h21 : x0 ≤ 2147483647) (h22 : -2147483648 ≤ x1) (h23 : x1 ≤ 2147483647) (h24 : -2147483648 ≤ x2) (h25 : x2 ≤ 2147483647) (h26 : -2147483648 ≤ x3) (h27 : x3 ≤ 2147483647) (h28 : -2147483648 ≤ x4) (h29 : x4 ≤ 2147483647) (h30 : -2147483648 ≤ x5) (h31 : x5 ≤ 2147483647) (h32 : -2147483648 ≤ x6) (h33 : x6 ≤ 2147483647) (h34 : -2147483648 ≤ x7) (h35 : x7 ≤ 2147483647) : -2147483648 ≤ x0 + x1 := by omega
theorem o12_83 {x0 x1 x2 x3 x4 x5 x6 x7 : Int} (h0 : 0 ≤ x2) (h1 : x2 ≤ 5) (h2 : x3 = 5) (h3 : x2 < x3) (h4 : 0 ≤ x4) (h5 : x4 ≤ 5) (h6 : x4 = x2) (h7 : 0 ≤ x5) (h8 : x5 ≤ 5) (h9 : x5 = x2) (h10 : 0 ≤ x6) (h11 : x6 ≤ 5) (h12 : x6 = x2) (h13 : 0 ≤ x7) (h14 : x7 ≤ 5) (h15 : x7 = x2) (h16 : 0 ≤ x0) (h17 : x0 ≤ 5) (h18 : x0 = x2) (h19 : x1 = 1) (h20 : -2147483648 ≤ x0) (h21 : x0 ≤ 2147483647) (h22 : -2147483648 ≤ x1) (h23 : x1 ≤ 2147483647) (h24 : -2147483648 ≤ x2) (h25 : x2 ≤ 2147483647) (h26 : -2147483648 ≤ x3) (h27 : x3 ≤ 2147483647) (h28 : -2147483648 ≤ x4) (h29 : x4 ≤ 2147483647) (h30 : -2147483648 ≤ x5) (h31 : x5 ≤ 2147483647) (h32 : -2147483648 ≤ x6) (h33 : x6 ≤ 2147483647) (h34 : -2147483648 ≤ x7) (h35 : x7 ≤ 2147483647) : x0 + x1 ≤ 2147483647 := by omega
theorem o12_84 {x0 x1 x2 x3 x4 x5 x6 x7 x8 : Int} (h0 : 0 ≤ x1) (h1 : x1 ≤ 5) (h2 : x2 = 5) (h3 : x1 < x2) (h4 : 0 ≤ x3) (h5 : x3 ≤ 5) (h6 : x3 = x1) (h7 : 0 ≤ x4) (h8 : x4 ≤ 5) (h9 : x4 = x1) (h10 : 0 ≤ x5) (h11 : x5 ≤ 5) (h12 : x5 = x1) (h13 : 0 ≤ x6) (h14 : x6 ≤ 5) (h15 : x6 = x1) (h16 : 0 ≤ x7) (h17 : x7 ≤ 5) (h18 : x7 = x1) (h19 : x8 = 1) (h20 : x0 = x7 + x8) : 0 ≤ x0 := by omega
theorem o12_85 {x0 x1 x2 x3 x4 x5 x6 x7 x8 : Int} (h0 : 0 ≤ x1) (h1 : x1 ≤ 5) (h2 : x2 = 5) (h3 : x1 < x2) (h4 : 0 ≤ x3) (h5 : x3 ≤ 5) (h6 : x3 = x1) (h7 : 0 ≤ x4) (h8 : x4 ≤ 5) (h9 : x4 = x1) (h10 : 0 ≤ x5) (h11 : x5 ≤ 5) (h12 : x5 = x1) (h13 : 0 ≤ x6) (h14 : x6 ≤ 5) (h15 : x6 = x1) (h16 : 0 ≤ x7) (h17 : x7 ≤ 5) (h18 : x7 = x1) (h19 : x8 = 1) (h20 : x0 = x7 + x8) : x0 ≤ 5 := by omega
theorem o12_86 {x0 : Int} (h0 : 0 ≤ x0) (h1 : x0 ≤ 4) : 0 ≤ x0 := by omega
theorem o12_87 {x0 : Int} (h0 : 0 ≤ x0) (h1 : x0 ≤ 4) : x0 < (5 : Nat) := by omega
theorem o12_88 {x0 : Int} (h0 : 0 ≤ x0) (h1 : x0 ≤ 24) (h2 : -2147483648 ≤ x0) (h3 : x0 ≤ 2147483647) : -2147483648 ≤ 4 * x0 := by omega
theorem o12_89 {x0 : Int} (h0 : 0 ≤ x0) (h1 : x0 ≤ 24) (h2 : -2147483648 ≤ x0) (h3 : x0 ≤ 2147483647) : 4 * x0 ≤ 2147483647 := by omega
theorem o12_90 {x0 x1 x2 : Int} (h0 : 0 ≤ x2) (h1 : x2 ≤ 24) (h2 : x0 = 4 * x2) (h3 : 0 ≤ x1) (h4 : x1 ≤ 3) (h5 : -2147483648 ≤ x0) (h6 : x0 ≤ 2147483647) (h7 : -2147483648 ≤ x1) (h8 : x1 ≤ 2147483647) (h9 : -2147483648 ≤ x2) (h10 : x2 ≤ 2147483647) : -2147483648 ≤ x0 + x1 := by omega
theorem o12_91 {x0 x1 x2 : Int} (h0 : 0 ≤ x2) (h1 : x2 ≤ 24) (h2 : x0 = 4 * x2) (h3 : 0 ≤ x1) (h4 : x1 ≤ 3) (h5 : -2147483648 ≤ x0) (h6 : x0 ≤ 2147483647) (h7 : -2147483648 ≤ x1) (h8 : x1 ≤ 2147483647) (h9 : -2147483648 ≤ x2) (h10 : x2 ≤ 2147483647) : x0 + x1 ≤ 2147483647 := by omega
theorem o12_92 {x0 x1 x2 x3 : Int} (h0 : 0 ≤ x1) (h1 : x1 ≤ 24) (h2 : x2 = 4 * x1) (h3 : 0 ≤ x3) (h4 : x3 ≤ 3) (h5 : x0 = x2 + x3) : 0 ≤ x0 := by omega
theorem o12_93 {x0 x1 x2 x3 : Int} (h0 : 0 ≤ x1) (h1 : x1 ≤ 24) (h2 : x2 = 4 * x1) (h3 : 0 ≤ x3) (h4 : x3 ≤ 3) (h5 : x0 = x2 + x3) : x0 ≤ 99 := by omega
theorem o12_94 {x0 x2 : Int} {x1 : Nat} (h0 : 0 ≤ x0) (h1 : x0 ≤ 25) (h2 : 25 - x0 < ((x1 + 1 : Nat) : Int)) (h3 : x2 = 25) (h4 : x0 < x2) : 0 ≤ x0 := by omega
theorem o12_95 {x0 x2 : Int} {x1 : Nat} (h0 : 0 ≤ x0) (h1 : x0 ≤ 25) (h2 : 25 - x0 < ((x1 + 1 : Nat) : Int)) (h3 : x2 = 25) (h4 : x0 < x2) : x0 < (25 : Nat) := by omega
theorem o12_96 {x0 x2 : Int} {x1 : Nat} (h0 : 0 ≤ x0) (h1 : x0 ≤ 25) (h2 : 25 - x0 < ((x1 + 1 : Nat) : Int)) (h3 : x2 = 25) (h4 : x0 < x2) (h5 : -2147483648 ≤ x0) (h6 : x0 ≤ 2147483647) (h7 : -2147483648 ≤ x2) (h8 : x2 ≤ 2147483647) : -2147483648 ≤ x0 + 1 := by omega
theorem o12_97 {x0 x2 : Int} {x1 : Nat} (h0 : 0 ≤ x0) (h1 : x0 ≤ 25) (h2 : 25 - x0 < ((x1 + 1 : Nat) : Int)) (h3 : x2 = 25) (h4 : x0 < x2) (h5 : -2147483648 ≤ x0) (h6 : x0 ≤ 2147483647) (h7 : -2147483648 ≤ x2) (h8 : x2 ≤ 2147483647) : x0 + 1 ≤ 2147483647 := by omega
theorem o12_98 {x0 x2 x3 : Int} {x1 : Nat} (h0 : 0 ≤ x2) (h1 : x2 ≤ 25) (h2 : 25 - x2 < ((x1 + 1 : Nat) : Int)) (h3 : x3 = 25) (h4 : x2 < x3) (h5 : x0 = x2 + 1) : 25 - x0 < (x1 : Int) := by omega
theorem o12_99 {x0 x1 x3 : Int} {x2 : Nat} (h0 : 0 ≤ x1) (h1 : x1 ≤ 25) (h2 : 25 - x1 < ((x2 + 1 : Nat) : Int)) (h3 : x3 = 25) (h4 : x1 < x3) (h5 : x0 = x1 + 1) : 0 ≤ x0 := by omega
theorem o12_100 {x0 x1 x3 : Int} {x2 : Nat} (h0 : 0 ≤ x1) (h1 : x1 ≤ 25) (h2 : 25 - x1 < ((x2 + 1 : Nat) : Int)) (h3 : x3 = 25) (h4 : x1 < x3) (h5 : x0 = x1 + 1) : x0 ≤ 25 := by omega
theorem o12_101 {x0 x2 : Int} {x1 : Nat} (h0 : 0 ≤ x0) (h1 : x0 ≤ 5) (h2 : 5 - x0 < ((x1 + 1 : Nat) : Int)) (h3 : 0 ≤ x2) (h4 : x2 ≤ 5) (h5 : x0 < x2) : 0 ≤ x0 := by omega
theorem o12_102 {x0 x2 : Int} {x1 : Nat} (h0 : 0 ≤ x0) (h1 : x0 ≤ 5) (h2 : 5 - x0 < ((x1 + 1 : Nat) : Int)) (h3 : 0 ≤ x2) (h4 : x2 ≤ 5) (h5 : x0 < x2) : x0 < (5 : Nat) := by omega
theorem o12_103 {x0 x2 : Int} {x1 : Nat} (h0 : 0 ≤ x0) (h1 : x0 ≤ 5) (h2 : 5 - x0 < ((x1 + 1 : Nat) : Int)) (h3 : 0 ≤ x2) (h4 : x2 ≤ 5) (h5 : x0 < x2) (h6 : -2147483648 ≤ x0) (h7 : x0 ≤ 2147483647) (h8 : -2147483648 ≤ x2) (h9 : x2 ≤ 2147483647) : -2147483648 ≤ x0 + 1 := by omega
theorem o12_104 {x0 x2 : Int} {x1 : Nat} (h0 : 0 ≤ x0) (h1 : x0 ≤ 5) (h2 : 5 - x0 < ((x1 + 1 : Nat) : Int)) (h3 : 0 ≤ x2) (h4 : x2 ≤ 5) (h5 : x0 < x2) (h6 : -2147483648 ≤ x0) (h7 : x0 ≤ 2147483647) (h8 : -2147483648 ≤ x2) (h9 : x2 ≤ 2147483647) : x0 + 1 ≤ 2147483647 := by omega
theorem o12_105 {x0 x2 x3 : Int} {x1 : Nat} (h0 : 0 ≤ x2) (h1 : x2 ≤ 5) (h2 : 5 - x2 < ((x1 + 1 : Nat) : Int)) (h3 : 0 ≤ x3) (h4 : x3 ≤ 5) (h5 : x2 < x3) (h6 : x0 = x2 + 1) : 5 - x0 < (x1 : Int) := by omega
theorem o12_106 {x0 x1 x3 : Int} {x2 : Nat} (h0 : 0 ≤ x1) (h1 : x1 ≤ 5) (h2 : 5 - x1 < ((x2 + 1 : Nat) : Int)) (h3 : 0 ≤ x3) (h4 : x3 ≤ 5) (h5 : x1 < x3) (h6 : x0 = x1 + 1) : 0 ≤ x0 := by omega
theorem o12_107 {x0 x1 x3 : Int} {x2 : Nat} (h0 : 0 ≤ x1) (h1 : x1 ≤ 5) (h2 : 5 - x1 < ((x2 + 1 : Nat) : Int)) (h3 : 0 ≤ x3) (h4 : x3 ≤ 5) (h5 : x1 < x3) (h6 : x0 = x1 + 1) : x0 ≤ 5 := by omega
theorem o12_108 {x0 : Int} (h0 : 0 ≤ x0) (h1 : x0 ≤ 40) : (-1) ≤ x0 := by omega
theorem o12_109 {x0 : Int} (h0 : 0 ≤ x0) (h1 : x0 ≤ 40) : x0 ≤ 40 := by omega
theorem o12_110 {x0 : Int} (h0 : 0 ≤ x0) (h1 : x0 ≤ 39) : 0 ≤ x0 := by omega
theorem o12_111 {x0 : Int} (h0 : 0 ≤ x0) (h1 : x0 ≤ 39) : x0 < (40 : Nat) := by omega
theorem o12_112 {x0 : Int} (h0 : x0 = (-1)) : (-1) ≤ x0 := by omega
theorem o12_113 {x0 x1 : Int} (h0 : 0 ≤ x0) (h1 : (-1) ≤ x1) (h2 : x1 ≤ 40) (h3 : x0 < x1) : 0 ≤ x0 := by omega
theorem o12_114 {x0 x1 : Int} (h0 : 0 ≤ x0) (h1 : (-1) ≤ x1) (h2 : x1 ≤ 40) (h3 : x0 < x1) : x0 < (40 : Nat) := by omega
theorem o12_115 {x0 x1 x2 x3 x4 : Int} (h0 : 0 ≤ x0) (h1 : x1 = x0) (h2 : x2 = x3) (h3 : ((x4 = -1 ∧ x1 < x2) ∨ (x4 = 0 ∧ x1 = x2) ∨ (x4 = 1 ∧ x2 < x1))) (h4 : x4 = 0) : (-1) ≤ x0 := by omega
theorem o12_116 {x0 : Int} (h0 : x0 = 1) : 0 ≤ x0 := by omega
theorem o12_117 {x0 : Int} (h0 : x0 = 1) : x0 ≤ 1 := by omega
theorem o12_118 {x0 x2 : Int} {x1 : Nat} (h0 : 0 ≤ x0) (h1 : x0 ≤ 40) (h2 : 40 - x0 < ((x1 + 1 : Nat) : Int)) (h3 : (-1) ≤ x2) (h4 : x2 ≤ 40) (h5 : x0 < x2) : 0 ≤ x0 := by omega
theorem o12_119 {x0 x2 : Int} {x1 : Nat} (h0 : 0 ≤ x0) (h1 : x0 ≤ 40) (h2 : 40 - x0 < ((x1 + 1 : Nat) : Int)) (h3 : (-1) ≤ x2) (h4 : x2 ≤ 40) (h5 : x0 < x2) : x0 < (40 : Nat) := by omega
theorem o12_120 {x0 : Int} (h0 : x0 = 0) : x0 ≤ 1 := by omega
theorem o12_121 {x0 x2 : Int} {x1 : Nat} (h0 : 0 ≤ x0) (h1 : x0 ≤ 40) (h2 : 40 - x0 < ((x1 + 1 : Nat) : Int)) (h3 : (-1) ≤ x2) (h4 : x2 ≤ 40) (h5 : x0 < x2) (h6 : -2147483648 ≤ x0) (h7 : x0 ≤ 2147483647) (h8 : -2147483648 ≤ x2) (h9 : x2 ≤ 2147483647) : -2147483648 ≤ x0 + 1 := by omega
theorem o12_122 {x0 x2 : Int} {x1 : Nat} (h0 : 0 ≤ x0) (h1 : x0 ≤ 40) (h2 : 40 - x0 < ((x1 + 1 : Nat) : Int)) (h3 : (-1) ≤ x2) (h4 : x2 ≤ 40) (h5 : x0 < x2) (h6 : -2147483648 ≤ x0) (h7 : x0 ≤ 2147483647) (h8 : -2147483648 ≤ x2) (h9 : x2 ≤ 2147483647) : x0 + 1 ≤ 2147483647 := by omega
theorem o12_123 {x0 x2 x3 : Int} {x1 : Nat} (h0 : 0 ≤ x2) (h1 : x2 ≤ 40) (h2 : 40 - x2 < ((x1 + 1 : Nat) : Int)) (h3 : (-1) ≤ x3) (h4 : x3 ≤ 40) (h5 : x2 < x3) (h6 : x0 = x2 + 1) : 40 - x0 < (x1 : Int) := by omega
theorem o12_124 {x0 x1 x3 : Int} {x2 : Nat} (h0 : 0 ≤ x1) (h1 : x1 ≤ 40) (h2 : 40 - x1 < ((x2 + 1 : Nat) : Int)) (h3 : (-1) ≤ x3) (h4 : x3 ≤ 40) (h5 : x1 < x3) (h6 : x0 = x1 + 1) : 0 ≤ x0 := by omega
theorem o12_125 {x0 x1 x3 : Int} {x2 : Nat} (h0 : 0 ≤ x1) (h1 : x1 ≤ 40) (h2 : 40 - x1 < ((x2 + 1 : Nat) : Int)) (h3 : (-1) ≤ x3) (h4 : x3 ≤ 40) (h5 : x1 < x3) (h6 : x0 = x1 + 1) : x0 ≤ 40 := by omega
set_option maxHeartbeats 4000000 in
set_option maxRecDepth 100000 in
theorem c_J7_fill_53178_11 (l : Launch) (G : GG) (Z : RZ) (ad : Nat → Nat) (ws0 : va_W) (hT : Ty G (SC tt) ad ws0) (i0 : Nat) (hi0 : Kd (SC tt) i0 11) (a1 : Int32) (l1 : 0 ≤ a1.toInt) (u1 : a1.toInt ≤ 0) : Mq l yJ7_fill_53178 cJ7_fill_53178 4 none 1 G Z [.ref (ad i0), .int a1] ws0 (PV G (SC tt) ad [11] ws0 (fun u => True)) := by
  refine Mq.start (by decide) (Nat.le_of_ble_eq_true rfl) ?_
  intro p e s m below meth c A ls C0 hZ h hl
  have hl : lv_has ls 4 [(0, .ref (ad i0)), (1, .int a1)] := hl
  have h : Wt G (SC tt) ad A s s.heap [] ws0 := ⟨h, hT⟩
  obtain ⟨args, hargs⟩ : ∃ z, z = ([.ref (ad i0), .int a1] : List Value).toArray := ⟨_, rfl⟩
  rw [← hargs] at C0 ⊢
  have C0 : Cx p s m args meth c RJ7 cJ7_fill_53178 4 none := C0
  obtain ⟨Q, hQ⟩ : ∃ z, z = MQ below ((PV G (SC tt) ad [11] ws0 (fun u => True)) A) args s 0 0 A := ⟨_, rfl⟩
  rw [← hQ]
  refine y_c1 (n := 0) C0 (by decide) dJ7_fill_53178_0 (fun v_1 e_2 => ?_)
  refine lv_istore_n (lv' := [(2, .int v_1), (0, .ref (ad i0)), (1, .int a1)]) C0.1 C0.2.1 dJ7_fill_53178_1 rfl hl (by decide) rfl (fun ls hl => ?_)
  refine lv_aload_n C0.1 C0.2.1 dJ7_fill_53178_2 rfl (lv_at hl 1 rfl) ?_
  refine y_alenI (cA := G.2 0) C0 h hi0 rfl rfl (by decide) dJ7_fill_53178_3 (fun v_3 e_4 => ?_)
  refine lv_istore_n (lv' := [(3, .int v_3), (2, .int v_1), (0, .ref (ad i0)), (1, .int a1)]) C0.1 C0.2.1 dJ7_fill_53178_4 rfl hl (by decide) rfl (fun ls hl => ?_)
  have lp_8 : ∀ (n_10 : Nat) (x2_5 : Int32) (H : Heap) (locs : List Loc) (ls : Array Slot) (ws_6 : va_W), 5 - x2_5.toInt < (n_10 : Int) → 0 ≤ x2_5.toInt → x2_5.toInt ≤ 5 → Wt G (SC tt) ad A s H locs ws_6 → Fr (SC tt) [11] ws0 ws_6 → lv_has ls 4 [(3, .int v_3), (2, .int x2_5), (0, .ref (ad i0)), (1, .int a1)] → W p l e (rmd 1 0 0) s m args below meth c H locs 0 0 Q (F0 m 5 ls []) := by
    intro n_10
    induction n_10 with
    | zero => intro x2_5 H locs ls ws_6 hn_11 b_12 b_13 h hF_7 hl; exact ((o12_1 b_12 b_13 hn_11)).elim
    | succ n_10 ih_9 =>
      intro x2_5 H locs ls ws_6 hn_11 b_12 b_13 h hF_7 hl
      refine lv_iload_n C0.1 C0.2.1 dJ7_fill_53178_5 rfl (lv_at hl 1 rfl) ?_
      refine lv_iload_n C0.1 C0.2.1 dJ7_fill_53178_6 rfl (lv_at hl 0 rfl) ?_
      refine y_icmp_ge (tgt := 20) C0 dJ7_fill_53178_7 (by decide) (fun c_14 => ?_) (fun c_14 => ?_)
      · -- 7
        rw [hQ]
        exact y_vret C0 h hF_7 trivial dJ7_fill_53178_20
      · -- 7
        refine lv_aload_n C0.1 C0.2.1 dJ7_fill_53178_10 rfl (lv_at hl 2 rfl) ?_
        refine lv_iload_n C0.1 C0.2.1 dJ7_fill_53178_11 rfl (lv_at hl 1 rfl) ?_
        refine lv_iload_n C0.1 C0.2.1 dJ7_fill_53178_12 rfl (lv_at hl 3 rfl) ?_
        refine y_iast C0 h hi0 rfl (by decide) (o12_2 e_4 b_12 b_13 hn_11 c_14) (o12_3 e_4 b_12 b_13 hn_11 c_14) (le_min a1) (le_max a1) dJ7_fill_53178_13 (fun H locs ws_15 h u_16 => ?_)
        refine y_inc (kp := 1) (n := 1) (fun v_17 => [(2, .int v_17), (3, .int v_3), (0, .ref (ad i0)), (1, .int a1)]) C0 hl rfl (by decide) (by decide) (fun _ => rfl) (o12_4 e_4 b_12 b_13 hn_11 c_14 (le_min x2_5) (le_max x2_5) (le_min v_3) (le_max v_3)) (o12_5 e_4 b_12 b_13 hn_11 c_14 (le_min x2_5) (le_max x2_5) (le_min v_3) (le_max v_3)) dJ7_fill_53178_14 (fun v_17 ls e_18 hl => ?_)
        refine lv_goto (tgt := 5) C0.1 C0.2.1 dJ7_fill_53178_17 (by decide) ?_
        exact ih_9 v_17 _ _ _ _ (o12_6 e_4 b_12 b_13 hn_11 c_14 e_18) (o12_7 e_4 b_12 b_13 hn_11 c_14 e_18) (o12_8 e_4 b_12 b_13 hn_11 c_14 e_18) h (Fr.tr hF_7 (Fr.up u_16.1 hi0 (by decide))) (lv_sub hl [1, 0, 2, 3] rfl)
  exact lp_8 ((5 - v_1.toInt + 1).toNat) v_1 _ _ _ _ (o12_9 e_2) (o12_10 e_2) (o12_11 e_2) h Fr.rf (lv_sub hl [0, 1, 2, 3] rfl)
set_option maxHeartbeats 4000000 in
set_option maxRecDepth 100000 in
theorem c_J7_fill_53178_12 (l : Launch) (G : GG) (Z : RZ) (ad : Nat → Nat) (ws0 : va_W) (hT : Ty G (SC tt) ad ws0) (i0 : Nat) (hi0 : Kd (SC tt) i0 12) (a1 : Int32) (l1 : 0 ≤ a1.toInt) (u1 : a1.toInt ≤ 0) : Mq l yJ7_fill_53178 cJ7_fill_53178 4 none 1 G Z [.ref (ad i0), .int a1] ws0 (PV G (SC tt) ad [12] ws0 (fun u => True)) := by
  refine Mq.start (by decide) (Nat.le_of_ble_eq_true rfl) ?_
  intro p e s m below meth c A ls C0 hZ h hl
  have hl : lv_has ls 4 [(0, .ref (ad i0)), (1, .int a1)] := hl
  have h : Wt G (SC tt) ad A s s.heap [] ws0 := ⟨h, hT⟩
  obtain ⟨args, hargs⟩ : ∃ z, z = ([.ref (ad i0), .int a1] : List Value).toArray := ⟨_, rfl⟩
  rw [← hargs] at C0 ⊢
  have C0 : Cx p s m args meth c RJ7 cJ7_fill_53178 4 none := C0
  obtain ⟨Q, hQ⟩ : ∃ z, z = MQ below ((PV G (SC tt) ad [12] ws0 (fun u => True)) A) args s 0 0 A := ⟨_, rfl⟩
  rw [← hQ]
  refine y_c1 (n := 0) C0 (by decide) dJ7_fill_53178_0 (fun v_1 e_2 => ?_)
  refine lv_istore_n (lv' := [(2, .int v_1), (0, .ref (ad i0)), (1, .int a1)]) C0.1 C0.2.1 dJ7_fill_53178_1 rfl hl (by decide) rfl (fun ls hl => ?_)
  refine lv_aload_n C0.1 C0.2.1 dJ7_fill_53178_2 rfl (lv_at hl 1 rfl) ?_
  refine y_alenI (cA := G.2 0) C0 h hi0 rfl rfl (by decide) dJ7_fill_53178_3 (fun v_3 e_4 => ?_)
  refine lv_istore_n (lv' := [(3, .int v_3), (2, .int v_1), (0, .ref (ad i0)), (1, .int a1)]) C0.1 C0.2.1 dJ7_fill_53178_4 rfl hl (by decide) rfl (fun ls hl => ?_)
  have lp_8 : ∀ (n_10 : Nat) (x2_5 : Int32) (H : Heap) (locs : List Loc) (ls : Array Slot) (ws_6 : va_W), 25 - x2_5.toInt < (n_10 : Int) → 0 ≤ x2_5.toInt → x2_5.toInt ≤ 25 → Wt G (SC tt) ad A s H locs ws_6 → Fr (SC tt) [12] ws0 ws_6 → lv_has ls 4 [(3, .int v_3), (2, .int x2_5), (0, .ref (ad i0)), (1, .int a1)] → W p l e (rmd 1 0 0) s m args below meth c H locs 0 0 Q (F0 m 5 ls []) := by
    intro n_10
    induction n_10 with
    | zero => intro x2_5 H locs ls ws_6 hn_11 b_12 b_13 h hF_7 hl; exact ((o12_12 b_12 b_13 hn_11)).elim
    | succ n_10 ih_9 =>
      intro x2_5 H locs ls ws_6 hn_11 b_12 b_13 h hF_7 hl
      refine lv_iload_n C0.1 C0.2.1 dJ7_fill_53178_5 rfl (lv_at hl 1 rfl) ?_
      refine lv_iload_n C0.1 C0.2.1 dJ7_fill_53178_6 rfl (lv_at hl 0 rfl) ?_
      refine y_icmp_ge (tgt := 20) C0 dJ7_fill_53178_7 (by decide) (fun c_14 => ?_) (fun c_14 => ?_)
      · -- 7
        rw [hQ]
        exact y_vret C0 h hF_7 trivial dJ7_fill_53178_20
      · -- 7
        refine lv_aload_n C0.1 C0.2.1 dJ7_fill_53178_10 rfl (lv_at hl 2 rfl) ?_
        refine lv_iload_n C0.1 C0.2.1 dJ7_fill_53178_11 rfl (lv_at hl 1 rfl) ?_
        refine lv_iload_n C0.1 C0.2.1 dJ7_fill_53178_12 rfl (lv_at hl 3 rfl) ?_
        refine y_iast C0 h hi0 rfl (by decide) (o12_13 e_4 b_12 b_13 hn_11 c_14) (o12_14 e_4 b_12 b_13 hn_11 c_14) (le_min a1) (le_max a1) dJ7_fill_53178_13 (fun H locs ws_15 h u_16 => ?_)
        refine y_inc (kp := 1) (n := 1) (fun v_17 => [(2, .int v_17), (3, .int v_3), (0, .ref (ad i0)), (1, .int a1)]) C0 hl rfl (by decide) (by decide) (fun _ => rfl) (o12_15 e_4 b_12 b_13 hn_11 c_14 (le_min x2_5) (le_max x2_5) (le_min v_3) (le_max v_3)) (o12_16 e_4 b_12 b_13 hn_11 c_14 (le_min x2_5) (le_max x2_5) (le_min v_3) (le_max v_3)) dJ7_fill_53178_14 (fun v_17 ls e_18 hl => ?_)
        refine lv_goto (tgt := 5) C0.1 C0.2.1 dJ7_fill_53178_17 (by decide) ?_
        exact ih_9 v_17 _ _ _ _ (o12_17 e_4 b_12 b_13 hn_11 c_14 e_18) (o12_18 e_4 b_12 b_13 hn_11 c_14 e_18) (o12_19 e_4 b_12 b_13 hn_11 c_14 e_18) h (Fr.tr hF_7 (Fr.up u_16.1 hi0 (by decide))) (lv_sub hl [1, 0, 2, 3] rfl)
  exact lp_8 ((25 - v_1.toInt + 1).toNat) v_1 _ _ _ _ (o12_20 e_2) (o12_10 e_2) (o12_21 e_2) h Fr.rf (lv_sub hl [0, 1, 2, 3] rfl)
set_option maxHeartbeats 4000000 in
set_option maxRecDepth 100000 in
theorem c_J7_fill_53178_13 (l : Launch) (G : GG) (Z : RZ) (ad : Nat → Nat) (ws0 : va_W) (hT : Ty G (SC tt) ad ws0) (i0 : Nat) (hi0 : Kd (SC tt) i0 13) (a1 : Int32) (l1 : 0 ≤ a1.toInt) (u1 : a1.toInt ≤ 0) : Mq l yJ7_fill_53178 cJ7_fill_53178 4 none 1 G Z [.ref (ad i0), .int a1] ws0 (PV G (SC tt) ad [13] ws0 (fun u => True)) := by
  refine Mq.start (by decide) (Nat.le_of_ble_eq_true rfl) ?_
  intro p e s m below meth c A ls C0 hZ h hl
  have hl : lv_has ls 4 [(0, .ref (ad i0)), (1, .int a1)] := hl
  have h : Wt G (SC tt) ad A s s.heap [] ws0 := ⟨h, hT⟩
  obtain ⟨args, hargs⟩ : ∃ z, z = ([.ref (ad i0), .int a1] : List Value).toArray := ⟨_, rfl⟩
  rw [← hargs] at C0 ⊢
  have C0 : Cx p s m args meth c RJ7 cJ7_fill_53178 4 none := C0
  obtain ⟨Q, hQ⟩ : ∃ z, z = MQ below ((PV G (SC tt) ad [13] ws0 (fun u => True)) A) args s 0 0 A := ⟨_, rfl⟩
  rw [← hQ]
  refine y_c1 (n := 0) C0 (by decide) dJ7_fill_53178_0 (fun v_1 e_2 => ?_)
  refine lv_istore_n (lv' := [(2, .int v_1), (0, .ref (ad i0)), (1, .int a1)]) C0.1 C0.2.1 dJ7_fill_53178_1 rfl hl (by decide) rfl (fun ls hl => ?_)
  refine lv_aload_n C0.1 C0.2.1 dJ7_fill_53178_2 rfl (lv_at hl 1 rfl) ?_
  refine y_alenI (cA := G.2 0) C0 h hi0 rfl rfl (by decide) dJ7_fill_53178_3 (fun v_3 e_4 => ?_)
  refine lv_istore_n (lv' := [(3, .int v_3), (2, .int v_1), (0, .ref (ad i0)), (1, .int a1)]) C0.1 C0.2.1 dJ7_fill_53178_4 rfl hl (by decide) rfl (fun ls hl => ?_)
  have lp_8 : ∀ (n_10 : Nat) (x2_5 : Int32) (H : Heap) (locs : List Loc) (ls : Array Slot) (ws_6 : va_W), 25 - x2_5.toInt < (n_10 : Int) → 0 ≤ x2_5.toInt → x2_5.toInt ≤ 25 → Wt G (SC tt) ad A s H locs ws_6 → Fr (SC tt) [13] ws0 ws_6 → lv_has ls 4 [(3, .int v_3), (2, .int x2_5), (0, .ref (ad i0)), (1, .int a1)] → W p l e (rmd 1 0 0) s m args below meth c H locs 0 0 Q (F0 m 5 ls []) := by
    intro n_10
    induction n_10 with
    | zero => intro x2_5 H locs ls ws_6 hn_11 b_12 b_13 h hF_7 hl; exact ((o12_12 b_12 b_13 hn_11)).elim
    | succ n_10 ih_9 =>
      intro x2_5 H locs ls ws_6 hn_11 b_12 b_13 h hF_7 hl
      refine lv_iload_n C0.1 C0.2.1 dJ7_fill_53178_5 rfl (lv_at hl 1 rfl) ?_
      refine lv_iload_n C0.1 C0.2.1 dJ7_fill_53178_6 rfl (lv_at hl 0 rfl) ?_
      refine y_icmp_ge (tgt := 20) C0 dJ7_fill_53178_7 (by decide) (fun c_14 => ?_) (fun c_14 => ?_)
      · -- 7
        rw [hQ]
        exact y_vret C0 h hF_7 trivial dJ7_fill_53178_20
      · -- 7
        refine lv_aload_n C0.1 C0.2.1 dJ7_fill_53178_10 rfl (lv_at hl 2 rfl) ?_
        refine lv_iload_n C0.1 C0.2.1 dJ7_fill_53178_11 rfl (lv_at hl 1 rfl) ?_
        refine lv_iload_n C0.1 C0.2.1 dJ7_fill_53178_12 rfl (lv_at hl 3 rfl) ?_
        refine y_iast C0 h hi0 rfl (by decide) (o12_13 e_4 b_12 b_13 hn_11 c_14) (o12_14 e_4 b_12 b_13 hn_11 c_14) (le_min a1) (le_max a1) dJ7_fill_53178_13 (fun H locs ws_15 h u_16 => ?_)
        refine y_inc (kp := 1) (n := 1) (fun v_17 => [(2, .int v_17), (3, .int v_3), (0, .ref (ad i0)), (1, .int a1)]) C0 hl rfl (by decide) (by decide) (fun _ => rfl) (o12_15 e_4 b_12 b_13 hn_11 c_14 (le_min x2_5) (le_max x2_5) (le_min v_3) (le_max v_3)) (o12_16 e_4 b_12 b_13 hn_11 c_14 (le_min x2_5) (le_max x2_5) (le_min v_3) (le_max v_3)) dJ7_fill_53178_14 (fun v_17 ls e_18 hl => ?_)
        refine lv_goto (tgt := 5) C0.1 C0.2.1 dJ7_fill_53178_17 (by decide) ?_
        exact ih_9 v_17 _ _ _ _ (o12_17 e_4 b_12 b_13 hn_11 c_14 e_18) (o12_18 e_4 b_12 b_13 hn_11 c_14 e_18) (o12_19 e_4 b_12 b_13 hn_11 c_14 e_18) h (Fr.tr hF_7 (Fr.up u_16.1 hi0 (by decide))) (lv_sub hl [1, 0, 2, 3] rfl)
  exact lp_8 ((25 - v_1.toInt + 1).toNat) v_1 _ _ _ _ (o12_20 e_2) (o12_10 e_2) (o12_21 e_2) h Fr.rf (lv_sub hl [0, 1, 2, 3] rfl)
set_option maxHeartbeats 4000000 in
set_option maxRecDepth 100000 in
theorem c_J7_fill_53178_24 (l : Launch) (G : GG) (Z : RZ) (ad : Nat → Nat) (ws0 : va_W) (hT : Ty G (SC tt) ad ws0) (i0 : Nat) (hi0 : Kd (SC tt) i0 24) (a1 : Int32) : Mq l yJ7_fill_53178 cJ7_fill_53178 4 none 1 G Z [.ref (ad i0), .int a1] ws0 (PV G (SC tt) ad [24] ws0 (fun u => True)) := by
  refine Mq.start (by decide) (Nat.le_of_ble_eq_true rfl) ?_
  intro p e s m below meth c A ls C0 hZ h hl
  have hl : lv_has ls 4 [(0, .ref (ad i0)), (1, .int a1)] := hl
  have h : Wt G (SC tt) ad A s s.heap [] ws0 := ⟨h, hT⟩
  obtain ⟨args, hargs⟩ : ∃ z, z = ([.ref (ad i0), .int a1] : List Value).toArray := ⟨_, rfl⟩
  rw [← hargs] at C0 ⊢
  have C0 : Cx p s m args meth c RJ7 cJ7_fill_53178 4 none := C0
  obtain ⟨Q, hQ⟩ : ∃ z, z = MQ below ((PV G (SC tt) ad [24] ws0 (fun u => True)) A) args s 0 0 A := ⟨_, rfl⟩
  rw [← hQ]
  refine y_c1 (n := 0) C0 (by decide) dJ7_fill_53178_0 (fun v_1 e_2 => ?_)
  refine lv_istore_n (lv' := [(2, .int v_1), (0, .ref (ad i0)), (1, .int a1)]) C0.1 C0.2.1 dJ7_fill_53178_1 rfl hl (by decide) rfl (fun ls hl => ?_)
  refine lv_aload_n C0.1 C0.2.1 dJ7_fill_53178_2 rfl (lv_at hl 1 rfl) ?_
  refine y_alenI (cA := G.2 0) C0 h hi0 rfl rfl (by decide) dJ7_fill_53178_3 (fun v_3 e_4 => ?_)
  refine lv_istore_n (lv' := [(3, .int v_3), (2, .int v_1), (0, .ref (ad i0)), (1, .int a1)]) C0.1 C0.2.1 dJ7_fill_53178_4 rfl hl (by decide) rfl (fun ls hl => ?_)
  have lp_8 : ∀ (n_10 : Nat) (x2_5 : Int32) (H : Heap) (locs : List Loc) (ls : Array Slot) (ws_6 : va_W), 121 - x2_5.toInt < (n_10 : Int) → 0 ≤ x2_5.toInt → x2_5.toInt ≤ 121 → Wt G (SC tt) ad A s H locs ws_6 → Fr (SC tt) [24] ws0 ws_6 → lv_has ls 4 [(3, .int v_3), (2, .int x2_5), (0, .ref (ad i0)), (1, .int a1)] → W p l e (rmd 1 0 0) s m args below meth c H locs 0 0 Q (F0 m 5 ls []) := by
    intro n_10
    induction n_10 with
    | zero => intro x2_5 H locs ls ws_6 hn_11 b_12 b_13 h hF_7 hl; exact ((o12_22 b_12 b_13 hn_11)).elim
    | succ n_10 ih_9 =>
      intro x2_5 H locs ls ws_6 hn_11 b_12 b_13 h hF_7 hl
      refine lv_iload_n C0.1 C0.2.1 dJ7_fill_53178_5 rfl (lv_at hl 1 rfl) ?_
      refine lv_iload_n C0.1 C0.2.1 dJ7_fill_53178_6 rfl (lv_at hl 0 rfl) ?_
      refine y_icmp_ge (tgt := 20) C0 dJ7_fill_53178_7 (by decide) (fun c_14 => ?_) (fun c_14 => ?_)
      · -- 7
        rw [hQ]
        exact y_vret C0 h hF_7 trivial dJ7_fill_53178_20
      · -- 7
        refine lv_aload_n C0.1 C0.2.1 dJ7_fill_53178_10 rfl (lv_at hl 2 rfl) ?_
        refine lv_iload_n C0.1 C0.2.1 dJ7_fill_53178_11 rfl (lv_at hl 1 rfl) ?_
        refine lv_iload_n C0.1 C0.2.1 dJ7_fill_53178_12 rfl (lv_at hl 3 rfl) ?_
        refine y_iast C0 h hi0 rfl (by decide) (o12_23 e_4 b_12 b_13 hn_11 c_14) (o12_24 e_4 b_12 b_13 hn_11 c_14) (le_min a1) (le_max a1) dJ7_fill_53178_13 (fun H locs ws_15 h u_16 => ?_)
        refine y_inc (kp := 1) (n := 1) (fun v_17 => [(2, .int v_17), (3, .int v_3), (0, .ref (ad i0)), (1, .int a1)]) C0 hl rfl (by decide) (by decide) (fun _ => rfl) (o12_25 e_4 b_12 b_13 hn_11 c_14 (le_min x2_5) (le_max x2_5) (le_min v_3) (le_max v_3)) (o12_26 e_4 b_12 b_13 hn_11 c_14 (le_min x2_5) (le_max x2_5) (le_min v_3) (le_max v_3)) dJ7_fill_53178_14 (fun v_17 ls e_18 hl => ?_)
        refine lv_goto (tgt := 5) C0.1 C0.2.1 dJ7_fill_53178_17 (by decide) ?_
        exact ih_9 v_17 _ _ _ _ (o12_27 e_4 b_12 b_13 hn_11 c_14 e_18) (o12_28 e_4 b_12 b_13 hn_11 c_14 e_18) (o12_29 e_4 b_12 b_13 hn_11 c_14 e_18) h (Fr.tr hF_7 (Fr.up u_16.1 hi0 (by decide))) (lv_sub hl [1, 0, 2, 3] rfl)
  exact lp_8 ((121 - v_1.toInt + 1).toNat) v_1 _ _ _ _ (o12_30 e_2) (o12_10 e_2) (o12_31 e_2) h Fr.rf (lv_sub hl [0, 1, 2, 3] rfl)
set_option maxHeartbeats 4000000 in
set_option maxRecDepth 100000 in
theorem c_J7_fill_53178_36 (l : Launch) (G : GG) (Z : RZ) (ad : Nat → Nat) (ws0 : va_W) (hT : Ty G (SC tt) ad ws0) (i0 : Nat) (hi0 : Kd (SC tt) i0 36) (a1 : Int32) (l1 : (-1) ≤ a1.toInt) (u1 : a1.toInt ≤ 40) : Mq l yJ7_fill_53178 cJ7_fill_53178 4 none 1 G Z [.ref (ad i0), .int a1] ws0 (PV G (SC tt) ad [36] ws0 (fun u => True)) := by
  refine Mq.start (by decide) (Nat.le_of_ble_eq_true rfl) ?_
  intro p e s m below meth c A ls C0 hZ h hl
  have hl : lv_has ls 4 [(0, .ref (ad i0)), (1, .int a1)] := hl
  have h : Wt G (SC tt) ad A s s.heap [] ws0 := ⟨h, hT⟩
  obtain ⟨args, hargs⟩ : ∃ z, z = ([.ref (ad i0), .int a1] : List Value).toArray := ⟨_, rfl⟩
  rw [← hargs] at C0 ⊢
  have C0 : Cx p s m args meth c RJ7 cJ7_fill_53178 4 none := C0
  obtain ⟨Q, hQ⟩ : ∃ z, z = MQ below ((PV G (SC tt) ad [36] ws0 (fun u => True)) A) args s 0 0 A := ⟨_, rfl⟩
  rw [← hQ]
  refine y_c1 (n := 0) C0 (by decide) dJ7_fill_53178_0 (fun v_1 e_2 => ?_)
  refine lv_istore_n (lv' := [(2, .int v_1), (0, .ref (ad i0)), (1, .int a1)]) C0.1 C0.2.1 dJ7_fill_53178_1 rfl hl (by decide) rfl (fun ls hl => ?_)
  refine lv_aload_n C0.1 C0.2.1 dJ7_fill_53178_2 rfl (lv_at hl 1 rfl) ?_
  refine y_alenI (cA := G.2 0) C0 h hi0 rfl rfl (by decide) dJ7_fill_53178_3 (fun v_3 e_4 => ?_)
  refine lv_istore_n (lv' := [(3, .int v_3), (2, .int v_1), (0, .ref (ad i0)), (1, .int a1)]) C0.1 C0.2.1 dJ7_fill_53178_4 rfl hl (by decide) rfl (fun ls hl => ?_)
  have lp_8 : ∀ (n_10 : Nat) (x2_5 : Int32) (H : Heap) (locs : List Loc) (ls : Array Slot) (ws_6 : va_W), 100 - x2_5.toInt < (n_10 : Int) → 0 ≤ x2_5.toInt → x2_5.toInt ≤ 100 → Wt G (SC tt) ad A s H locs ws_6 → Fr (SC tt) [36] ws0 ws_6 → lv_has ls 4 [(3, .int v_3), (2, .int x2_5), (0, .ref (ad i0)), (1, .int a1)] → W p l e (rmd 1 0 0) s m args below meth c H locs 0 0 Q (F0 m 5 ls []) := by
    intro n_10
    induction n_10 with
    | zero => intro x2_5 H locs ls ws_6 hn_11 b_12 b_13 h hF_7 hl; exact ((o12_32 b_12 b_13 hn_11)).elim
    | succ n_10 ih_9 =>
      intro x2_5 H locs ls ws_6 hn_11 b_12 b_13 h hF_7 hl
      refine lv_iload_n C0.1 C0.2.1 dJ7_fill_53178_5 rfl (lv_at hl 1 rfl) ?_
      refine lv_iload_n C0.1 C0.2.1 dJ7_fill_53178_6 rfl (lv_at hl 0 rfl) ?_
      refine y_icmp_ge (tgt := 20) C0 dJ7_fill_53178_7 (by decide) (fun c_14 => ?_) (fun c_14 => ?_)
      · -- 7
        rw [hQ]
        exact y_vret C0 h hF_7 trivial dJ7_fill_53178_20
      · -- 7
        refine lv_aload_n C0.1 C0.2.1 dJ7_fill_53178_10 rfl (lv_at hl 2 rfl) ?_
        refine lv_iload_n C0.1 C0.2.1 dJ7_fill_53178_11 rfl (lv_at hl 1 rfl) ?_
        refine lv_iload_n C0.1 C0.2.1 dJ7_fill_53178_12 rfl (lv_at hl 3 rfl) ?_
        refine y_iast C0 h hi0 rfl (by decide) (o12_33 e_4 b_12 b_13 hn_11 c_14) (o12_34 e_4 b_12 b_13 hn_11 c_14) (o12_35 l1 u1) (o12_36 l1 u1) dJ7_fill_53178_13 (fun H locs ws_15 h u_16 => ?_)
        refine y_inc (kp := 1) (n := 1) (fun v_17 => [(2, .int v_17), (3, .int v_3), (0, .ref (ad i0)), (1, .int a1)]) C0 hl rfl (by decide) (by decide) (fun _ => rfl) (o12_37 e_4 b_12 b_13 hn_11 c_14 (le_min x2_5) (le_max x2_5) (le_min v_3) (le_max v_3)) (o12_38 e_4 b_12 b_13 hn_11 c_14 (le_min x2_5) (le_max x2_5) (le_min v_3) (le_max v_3)) dJ7_fill_53178_14 (fun v_17 ls e_18 hl => ?_)
        refine lv_goto (tgt := 5) C0.1 C0.2.1 dJ7_fill_53178_17 (by decide) ?_
        exact ih_9 v_17 _ _ _ _ (o12_39 e_4 b_12 b_13 hn_11 c_14 e_18) (o12_40 e_4 b_12 b_13 hn_11 c_14 e_18) (o12_41 e_4 b_12 b_13 hn_11 c_14 e_18) h (Fr.tr hF_7 (Fr.up u_16.1 hi0 (by decide))) (lv_sub hl [1, 0, 2, 3] rfl)
  exact lp_8 ((100 - v_1.toInt + 1).toNat) v_1 _ _ _ _ (o12_42 e_2) (o12_10 e_2) (o12_43 e_2) h Fr.rf (lv_sub hl [0, 1, 2, 3] rfl)
set_option maxHeartbeats 4000000 in
set_option maxRecDepth 100000 in
theorem c_J7_fill_53178_38 (l : Launch) (G : GG) (Z : RZ) (ad : Nat → Nat) (ws0 : va_W) (hT : Ty G (SC tt) ad ws0) (i0 : Nat) (hi0 : Kd (SC tt) i0 38) (a1 : Int32) : Mq l yJ7_fill_53178 cJ7_fill_53178 4 none 1 G Z [.ref (ad i0), .int a1] ws0 (PV G (SC tt) ad [38] ws0 (fun u => True)) := by
  refine Mq.start (by decide) (Nat.le_of_ble_eq_true rfl) ?_
  intro p e s m below meth c A ls C0 hZ h hl
  have hl : lv_has ls 4 [(0, .ref (ad i0)), (1, .int a1)] := hl
  have h : Wt G (SC tt) ad A s s.heap [] ws0 := ⟨h, hT⟩
  obtain ⟨args, hargs⟩ : ∃ z, z = ([.ref (ad i0), .int a1] : List Value).toArray := ⟨_, rfl⟩
  rw [← hargs] at C0 ⊢
  have C0 : Cx p s m args meth c RJ7 cJ7_fill_53178 4 none := C0
  obtain ⟨Q, hQ⟩ : ∃ z, z = MQ below ((PV G (SC tt) ad [38] ws0 (fun u => True)) A) args s 0 0 A := ⟨_, rfl⟩
  rw [← hQ]
  refine y_c1 (n := 0) C0 (by decide) dJ7_fill_53178_0 (fun v_1 e_2 => ?_)
  refine lv_istore_n (lv' := [(2, .int v_1), (0, .ref (ad i0)), (1, .int a1)]) C0.1 C0.2.1 dJ7_fill_53178_1 rfl hl (by decide) rfl (fun ls hl => ?_)
  refine lv_aload_n C0.1 C0.2.1 dJ7_fill_53178_2 rfl (lv_at hl 1 rfl) ?_
  refine y_alenI (cA := G.2 0) C0 h hi0 rfl rfl (by decide) dJ7_fill_53178_3 (fun v_3 e_4 => ?_)
  refine lv_istore_n (lv' := [(3, .int v_3), (2, .int v_1), (0, .ref (ad i0)), (1, .int a1)]) C0.1 C0.2.1 dJ7_fill_53178_4 rfl hl (by decide) rfl (fun ls hl => ?_)
  have lp_8 : ∀ (n_10 : Nat) (x2_5 : Int32) (H : Heap) (locs : List Loc) (ls : Array Slot) (ws_6 : va_W), 100 - x2_5.toInt < (n_10 : Int) → 0 ≤ x2_5.toInt → x2_5.toInt ≤ 100 → Wt G (SC tt) ad A s H locs ws_6 → Fr (SC tt) [38] ws0 ws_6 → lv_has ls 4 [(3, .int v_3), (2, .int x2_5), (0, .ref (ad i0)), (1, .int a1)] → W p l e (rmd 1 0 0) s m args below meth c H locs 0 0 Q (F0 m 5 ls []) := by
    intro n_10
    induction n_10 with
    | zero => intro x2_5 H locs ls ws_6 hn_11 b_12 b_13 h hF_7 hl; exact ((o12_32 b_12 b_13 hn_11)).elim
    | succ n_10 ih_9 =>
      intro x2_5 H locs ls ws_6 hn_11 b_12 b_13 h hF_7 hl
      refine lv_iload_n C0.1 C0.2.1 dJ7_fill_53178_5 rfl (lv_at hl 1 rfl) ?_
      refine lv_iload_n C0.1 C0.2.1 dJ7_fill_53178_6 rfl (lv_at hl 0 rfl) ?_
      refine y_icmp_ge (tgt := 20) C0 dJ7_fill_53178_7 (by decide) (fun c_14 => ?_) (fun c_14 => ?_)
      · -- 7
        rw [hQ]
        exact y_vret C0 h hF_7 trivial dJ7_fill_53178_20
      · -- 7
        refine lv_aload_n C0.1 C0.2.1 dJ7_fill_53178_10 rfl (lv_at hl 2 rfl) ?_
        refine lv_iload_n C0.1 C0.2.1 dJ7_fill_53178_11 rfl (lv_at hl 1 rfl) ?_
        refine lv_iload_n C0.1 C0.2.1 dJ7_fill_53178_12 rfl (lv_at hl 3 rfl) ?_
        refine y_iast C0 h hi0 rfl (by decide) (o12_33 e_4 b_12 b_13 hn_11 c_14) (o12_34 e_4 b_12 b_13 hn_11 c_14) (le_min a1) (le_max a1) dJ7_fill_53178_13 (fun H locs ws_15 h u_16 => ?_)
        refine y_inc (kp := 1) (n := 1) (fun v_17 => [(2, .int v_17), (3, .int v_3), (0, .ref (ad i0)), (1, .int a1)]) C0 hl rfl (by decide) (by decide) (fun _ => rfl) (o12_37 e_4 b_12 b_13 hn_11 c_14 (le_min x2_5) (le_max x2_5) (le_min v_3) (le_max v_3)) (o12_38 e_4 b_12 b_13 hn_11 c_14 (le_min x2_5) (le_max x2_5) (le_min v_3) (le_max v_3)) dJ7_fill_53178_14 (fun v_17 ls e_18 hl => ?_)
        refine lv_goto (tgt := 5) C0.1 C0.2.1 dJ7_fill_53178_17 (by decide) ?_
        exact ih_9 v_17 _ _ _ _ (o12_39 e_4 b_12 b_13 hn_11 c_14 e_18) (o12_40 e_4 b_12 b_13 hn_11 c_14 e_18) (o12_41 e_4 b_12 b_13 hn_11 c_14 e_18) h (Fr.tr hF_7 (Fr.up u_16.1 hi0 (by decide))) (lv_sub hl [1, 0, 2, 3] rfl)
  exact lp_8 ((100 - v_1.toInt + 1).toNat) v_1 _ _ _ _ (o12_42 e_2) (o12_10 e_2) (o12_43 e_2) h Fr.rf (lv_sub hl [0, 1, 2, 3] rfl)
set_option maxHeartbeats 4000000 in
set_option maxRecDepth 100000 in
theorem c_J7_fill_d0a16 (l : Launch) (G : GG) (Z : RZ) (ad : Nat → Nat) (ws0 : va_W) (hT : Ty G (SC tt) ad ws0) (i0 : Nat) (hi0 : Kd (SC tt) i0 43) (a1 : Int64) : Mq l yJ7_fill_d0a16 cJ7_fill_d0a16 5 none 1 G Z [.ref (ad i0), .long a1] ws0 (PV G (SC tt) ad [43] ws0 (fun u => True)) := by
  refine Mq.start (by decide) (Nat.le_of_ble_eq_true rfl) ?_
  intro p e s m below meth c A ls C0 hZ h hl
  have hl : lv_has ls 5 [(0, .ref (ad i0)), (1, .long a1)] := hl
  have h : Wt G (SC tt) ad A s s.heap [] ws0 := ⟨h, hT⟩
  obtain ⟨args, hargs⟩ : ∃ z, z = ([.ref (ad i0), .long a1] : List Value).toArray := ⟨_, rfl⟩
  rw [← hargs] at C0 ⊢
  have C0 : Cx p s m args meth c RJ7 cJ7_fill_d0a16 5 none := C0
  obtain ⟨Q, hQ⟩ : ∃ z, z = MQ below ((PV G (SC tt) ad [43] ws0 (fun u => True)) A) args s 0 0 A := ⟨_, rfl⟩
  rw [← hQ]
  refine y_c1 (n := 0) C0 (by decide) dJ7_fill_d0a16_0 (fun v_1 e_2 => ?_)
  refine lv_istore_n (lv' := [(3, .int v_1), (0, .ref (ad i0)), (1, .long a1)]) C0.1 C0.2.1 dJ7_fill_d0a16_1 rfl hl (by decide) rfl (fun ls hl => ?_)
  refine lv_aload_n C0.1 C0.2.1 dJ7_fill_d0a16_2 rfl (lv_at hl 1 rfl) ?_
  refine y_alenL C0 h hi0 rfl (by decide) dJ7_fill_d0a16_3 (fun v_3 e_4 => ?_)
  refine lv_istore (lv' := [(4, .int v_3), (3, .int v_1), (0, .ref (ad i0)), (1, .long a1)]) C0.1 C0.2.1 dJ7_fill_d0a16_4 hl (by decide) rfl (fun ls hl => ?_)
  have lp_8 : ∀ (n_10 : Nat) (x3_5 : Int32) (H : Heap) (locs : List Loc) (ls : Array Slot) (ws_6 : va_W), 40 - x3_5.toInt < (n_10 : Int) → 0 ≤ x3_5.toInt → x3_5.toInt ≤ 40 → Wt G (SC tt) ad A s H locs ws_6 → Fr (SC tt) [43] ws0 ws_6 → lv_has ls 5 [(4, .int v_3), (3, .int x3_5), (0, .ref (ad i0)), (1, .long a1)] → W p l e (rmd 1 0 0) s m args below meth c H locs 0 0 Q (F0 m 6 ls []) := by
    intro n_10
    induction n_10 with
    | zero => intro x3_5 H locs ls ws_6 hn_11 b_12 b_13 h hF_7 hl; exact ((o12_44 b_12 b_13 hn_11)).elim
    | succ n_10 ih_9 =>
      intro x3_5 H locs ls ws_6 hn_11 b_12 b_13 h hF_7 hl
      refine lv_iload_n C0.1 C0.2.1 dJ7_fill_d0a16_6 rfl (lv_at hl 1 rfl) ?_
      refine lv_iload C0.1 C0.2.1 dJ7_fill_d0a16_7 (lv_at hl 0 rfl) ?_
      refine y_icmp_ge (tgt := 22) C0 dJ7_fill_d0a16_9 (by decide) (fun c_14 => ?_) (fun c_14 => ?_)
      · -- 9
        rw [hQ]
        exact y_vret C0 h hF_7 trivial dJ7_fill_d0a16_22
      · -- 9
        refine lv_aload_n C0.1 C0.2.1 dJ7_fill_d0a16_12 rfl (lv_at hl 2 rfl) ?_
        refine lv_iload_n C0.1 C0.2.1 dJ7_fill_d0a16_13 rfl (lv_at hl 1 rfl) ?_
        refine lv_lload_n C0.1 C0.2.1 dJ7_fill_d0a16_14 rfl (lv_at hl 3 rfl) ?_
        refine y_last C0 h hi0 rfl (by decide) (o12_45 e_4 b_12 b_13 hn_11 c_14) (o12_46 e_4 b_12 b_13 hn_11 c_14) dJ7_fill_d0a16_15 (fun H locs ws_15 h u_16 => ?_)
        refine y_inc (kp := 1) (n := 1) (fun v_17 => [(3, .int v_17), (4, .int v_3), (0, .ref (ad i0)), (1, .long a1)]) C0 hl rfl (by decide) (by decide) (fun _ => rfl) (o12_47 e_4 b_12 b_13 hn_11 c_14 (le_min x3_5) (le_max x3_5) (le_min v_3) (le_max v_3)) (o12_48 e_4 b_12 b_13 hn_11 c_14 (le_min x3_5) (le_max x3_5) (le_min v_3) (le_max v_3)) dJ7_fill_d0a16_16 (fun v_17 ls e_18 hl => ?_)
        refine lv_goto (tgt := 6) C0.1 C0.2.1 dJ7_fill_d0a16_19 (by decide) ?_
        exact ih_9 v_17 _ _ _ _ (o12_49 e_4 b_12 b_13 hn_11 c_14 e_18) (o12_50 e_4 b_12 b_13 hn_11 c_14 e_18) (o12_51 e_4 b_12 b_13 hn_11 c_14 e_18) h (Fr.tr hF_7 (Fr.up u_16.1 hi0 (by decide))) (lv_sub hl [1, 0, 2, 3] rfl)
  exact lp_8 ((40 - v_1.toInt + 1).toNat) v_1 _ _ _ _ (o12_52 e_2) (o12_10 e_2) (o12_53 e_2) h Fr.rf (lv_sub hl [0, 1, 2, 3] rfl)
set_option maxHeartbeats 4000000 in
set_option maxRecDepth 100000 in
theorem c_J6_bitCount_0f7a4 (l : Launch) (G : GG) (Z : RZ) (ad : Nat → Nat) (ws0 : va_W) (hT : Ty G (SC tt) ad ws0) (a0 : Int32) : Mq l yJ6_bitCount_0f7a4 cJ6_bitCount_0f7a4 1 (some .int) 1 G Z [.int a0] ws0 (PI G (SC tt) ad [] ws0 (fun r u => (0 ≤ r.toInt) ∧ (r.toInt ≤ 63))) := by
  refine Mq.start (by decide) (Nat.le_of_ble_eq_true rfl) ?_
  intro p e s m below meth c A ls C0 hZ h hl
  have hl : lv_has ls 1 [(0, .int a0)] := hl
  have h : Wt G (SC tt) ad A s s.heap [] ws0 := ⟨h, hT⟩
  obtain ⟨args, hargs⟩ : ∃ z, z = ([.int a0] : List Value).toArray := ⟨_, rfl⟩
  rw [← hargs] at C0 ⊢
  have C0 : Cx p s m args meth c RJ6 cJ6_bitCount_0f7a4 1 (some .int) := C0
  obtain ⟨Q, hQ⟩ : ∃ z, z = MQ below ((PI G (SC tt) ad [] ws0 (fun r u => (0 ≤ r.toInt) ∧ (r.toInt ≤ 63))) A) args s 0 0 A := ⟨_, rfl⟩
  rw [← hQ]
  refine lv_iload_n C0.1 C0.2.1 dJ6_bitCount_0f7a4_0 rfl (lv_at hl 0 rfl) ?_
  refine lv_iload_n C0.1 C0.2.1 dJ6_bitCount_0f7a4_1 rfl (lv_at hl 0 rfl) ?_
  refine y_c1 (n := 1) C0 (by decide) dJ6_bitCount_0f7a4_2 (fun v_1 e_2 => ?_)
  refine y_ushr 1 1 (n := 2147483647) C0 (Eq.trans (o12_54 e_2) (by decide)) (by decide) (by decide) (by decide) dJ6_bitCount_0f7a4_3 (fun v_3 e_4 e_5 => ?_)
  refine y_c5 (n := 1431655765) C0 q_1037 (by decide) dJ6_bitCount_0f7a4_4 (fun v_6 e_7 => ?_)
  refine y_iandU C0 dJ6_bitCount_0f7a4_7 (fun v_8 => ?_)
  refine y_isubU C0 dJ6_bitCount_0f7a4_8 (fun v_9 => ?_)
  refine lv_istore_n (lv' := [(0, .int v_9)]) C0.1 C0.2.1 dJ6_bitCount_0f7a4_9 rfl hl (by decide) rfl (fun ls hl => ?_)
  refine lv_iload_n C0.1 C0.2.1 dJ6_bitCount_0f7a4_10 rfl (lv_at hl 0 rfl) ?_
  refine y_c5 (n := 858993459) C0 q_1038 (by decide) dJ6_bitCount_0f7a4_11 (fun v_10 e_11 => ?_)
  refine y_iandU C0 dJ6_bitCount_0f7a4_14 (fun v_12 => ?_)
  refine lv_iload_n C0.1 C0.2.1 dJ6_bitCount_0f7a4_15 rfl (lv_at hl 0 rfl) ?_
  refine y_c1 (n := 2) C0 (by decide) dJ6_bitCount_0f7a4_16 (fun v_13 e_14 => ?_)
  refine y_ushr 2 2 (n := 1073741823) C0 (Eq.trans (o12_55 e_14) (by decide)) (by decide) (by decide) (by decide) dJ6_bitCount_0f7a4_17 (fun v_15 e_16 e_17 => ?_)
  refine y_c5 (n := 858993459) C0 q_1038 (by decide) dJ6_bitCount_0f7a4_18 (fun v_18 e_19 => ?_)
  refine y_iandU C0 dJ6_bitCount_0f7a4_21 (fun v_20 => ?_)
  refine y_iaddU C0 dJ6_bitCount_0f7a4_22 (fun v_21 => ?_)
  refine lv_istore_n (lv' := [(0, .int v_21)]) C0.1 C0.2.1 dJ6_bitCount_0f7a4_23 rfl hl (by decide) rfl (fun ls hl => ?_)
  refine lv_iload_n C0.1 C0.2.1 dJ6_bitCount_0f7a4_24 rfl (lv_at hl 0 rfl) ?_
  refine lv_iload_n C0.1 C0.2.1 dJ6_bitCount_0f7a4_25 rfl (lv_at hl 0 rfl) ?_
  refine y_c1 (n := 4) C0 (by decide) dJ6_bitCount_0f7a4_26 (fun v_22 e_23 => ?_)
  refine y_ushr 4 4 (n := 268435455) C0 (Eq.trans (o12_56 e_23) (by decide)) (by decide) (by decide) (by decide) dJ6_bitCount_0f7a4_27 (fun v_24 e_25 e_26 => ?_)
  refine y_iaddU C0 dJ6_bitCount_0f7a4_28 (fun v_27 => ?_)
  refine y_c5 (n := 252645135) C0 q_1039 (by decide) dJ6_bitCount_0f7a4_29 (fun v_28 e_29 => ?_)
  refine y_iandU C0 dJ6_bitCount_0f7a4_32 (fun v_30 => ?_)
  refine lv_istore_n (lv' := [(0, .int v_30)]) C0.1 C0.2.1 dJ6_bitCount_0f7a4_33 rfl hl (by decide) rfl (fun ls hl => ?_)
  refine lv_iload_n C0.1 C0.2.1 dJ6_bitCount_0f7a4_34 rfl (lv_at hl 0 rfl) ?_
  refine lv_iload_n C0.1 C0.2.1 dJ6_bitCount_0f7a4_35 rfl (lv_at hl 0 rfl) ?_
  refine y_c2 (n := 8) C0 (by decide) dJ6_bitCount_0f7a4_36 (fun v_31 e_32 => ?_)
  refine y_ushr 8 8 (n := 16777215) C0 (Eq.trans (o12_57 e_32) (by decide)) (by decide) (by decide) (by decide) dJ6_bitCount_0f7a4_38 (fun v_33 e_34 e_35 => ?_)
  refine y_iaddU C0 dJ6_bitCount_0f7a4_39 (fun v_36 => ?_)
  refine lv_istore_n (lv' := [(0, .int v_36)]) C0.1 C0.2.1 dJ6_bitCount_0f7a4_40 rfl hl (by decide) rfl (fun ls hl => ?_)
  refine lv_iload_n C0.1 C0.2.1 dJ6_bitCount_0f7a4_41 rfl (lv_at hl 0 rfl) ?_
  refine lv_iload_n C0.1 C0.2.1 dJ6_bitCount_0f7a4_42 rfl (lv_at hl 0 rfl) ?_
  refine y_c2 (n := 16) C0 (by decide) dJ6_bitCount_0f7a4_43 (fun v_37 e_38 => ?_)
  refine y_ushr 16 16 (n := 65535) C0 (Eq.trans (o12_58 e_38) (by decide)) (by decide) (by decide) (by decide) dJ6_bitCount_0f7a4_45 (fun v_39 e_40 e_41 => ?_)
  refine y_iaddU C0 dJ6_bitCount_0f7a4_46 (fun v_42 => ?_)
  refine lv_istore_n (lv' := [(0, .int v_42)]) C0.1 C0.2.1 dJ6_bitCount_0f7a4_47 rfl hl (by decide) rfl (fun ls hl => ?_)
  refine lv_iload_n C0.1 C0.2.1 dJ6_bitCount_0f7a4_48 rfl (lv_at hl 0 rfl) ?_
  refine y_c2 (n := 63) C0 (by decide) dJ6_bitCount_0f7a4_49 (fun v_43 e_44 => ?_)
  refine y_and 63 6 (n := 63) C0 (Eq.trans (o12_59 e_44) (by decide)) (by decide) (by decide) (by decide) dJ6_bitCount_0f7a4_51 (fun v_45 e_46 e_47 => ?_)
  rw [hQ]
  exact y_iret C0 h Fr.rf ⟨(o12_60 e_46 e_47), (o12_61 e_46 e_47)⟩ dJ6_bitCount_0f7a4_52
set_option maxHeartbeats 4000000 in
set_option maxRecDepth 100000 in
theorem c_X1_clear (l : Launch) (G : GG) (Z : RZ) (ad : Nat → Nat) (ws0 : va_W) (hT : Ty G (SC tt) ad ws0) (i0 : Nat) (hi0 : Kd (SC tt) i0 6) : Mq l yX1_clear cX1_clear 1 none 2 G Z [.ref (ad i0)] ws0 (PV G (SC tt) ad [6, 11, 12, 13] ws0 (fun u => True)) := by
  refine Mq.start (by decide) (Nat.le_of_ble_eq_true rfl) ?_
  intro p e s m below meth c A ls C0 hZ h hl
  have hl : lv_has ls 1 [(0, .ref (ad i0))] := hl
  have h : Wt G (SC tt) ad A s s.heap [] ws0 := ⟨h, hT⟩
  obtain ⟨args, hargs⟩ : ∃ z, z = ([.ref (ad i0)] : List Value).toArray := ⟨_, rfl⟩
  rw [← hargs] at C0 ⊢
  have C0 : Cx p s m args meth c RX1 cX1_clear 1 none := C0
  obtain ⟨Q, hQ⟩ : ∃ z, z = MQ below ((PV G (SC tt) ad [6, 11, 12, 13] ws0 (fun u => True)) A) args s 0 0 A := ⟨_, rfl⟩
  rw [← hQ]
  refine lv_aload_n C0.1 C0.2.1 dX1_clear_0 rfl (lv_at hl 0 rfl) ?_
  refine tg_X1_used C0 h hi0 q_202 dX1_clear_1 ?_
  refine y_c1 (n := 0) C0 (by decide) dX1_clear_4 (fun v_1 e_2 => ?_)
  refine y_cv h (y_rS (As := [.ref (ad (i0 + 5)), .int v_1]) (rest := []) C0 hZ h (c_J7_fill_53178_11 l G Z ad _ h.2 (i0 + 5) ((rSC_6_5 hi0)) v_1 (o12_10 e_2) (o12_62 e_2)) k_J7_fill_53178 q_611 q_610 hl.1 rfl rfl (Nat.le_of_ble_eq_true rfl) dX1_clear_5 ⟨Nat.le_of_ble_eq_true rfl, Nat.le_of_ble_eq_true rfl⟩ ⟨Nat.le_of_ble_eq_true rfl, Nat.le_of_ble_eq_true rfl⟩) (fun H locs ws_3 h u_4 p_5 => ?_)
  refine lv_aload_n C0.1 C0.2.1 dX1_clear_8 rfl (lv_at hl 0 rfl) ?_
  refine tg_X1_sold C0 h hi0 q_205 dX1_clear_9 ?_
  refine y_c1 (n := 0) C0 (by decide) dX1_clear_12 (fun v_6 e_7 => ?_)
  refine y_cv h (y_rS (As := [.ref (ad (i0 + 6)), .int v_6]) (rest := []) C0 hZ h (c_J7_fill_53178_12 l G Z ad _ h.2 (i0 + 6) ((rSC_6_6 hi0)) v_6 (o12_10 e_7) (o12_62 e_7)) k_J7_fill_53178 q_611 q_610 hl.1 rfl rfl (Nat.le_of_ble_eq_true rfl) dX1_clear_13 ⟨Nat.le_of_ble_eq_true rfl, Nat.le_of_ble_eq_true rfl⟩ ⟨Nat.le_of_ble_eq_true rfl, Nat.le_of_ble_eq_true rfl⟩) (fun H locs ws_8 h u_9 p_10 => ?_)
  refine lv_aload_n C0.1 C0.2.1 dX1_clear_16 rfl (lv_at hl 0 rfl) ?_
  refine tg_X1_fogEnds C0 h hi0 q_210 dX1_clear_17 ?_
  refine y_c1 (n := 0) C0 (by decide) dX1_clear_20 (fun v_11 e_12 => ?_)
  refine y_cv h (y_rS (As := [.ref (ad (i0 + 7)), .int v_11]) (rest := []) C0 hZ h (c_J7_fill_53178_13 l G Z ad _ h.2 (i0 + 7) ((rSC_6_7 hi0)) v_11 (o12_10 e_12) (o12_62 e_12)) k_J7_fill_53178 q_611 q_610 hl.1 rfl rfl (Nat.le_of_ble_eq_true rfl) dX1_clear_21 ⟨Nat.le_of_ble_eq_true rfl, Nat.le_of_ble_eq_true rfl⟩ ⟨Nat.le_of_ble_eq_true rfl, Nat.le_of_ble_eq_true rfl⟩) (fun H locs ws_13 h u_14 p_15 => ?_)
  refine lv_aload_n C0.1 C0.2.1 dX1_clear_24 rfl (lv_at hl 0 rfl) ?_
  refine y_c1 (n := 0) C0 (by decide) dX1_clear_25 (fun v_16 e_17 => ?_)
  refine tp_X1_people C0 h hi0 q_213 (o12_10 e_17) (o12_11 e_17) dX1_clear_26 (fun H locs ws_18 h u_19 => ?_)
  refine lv_aload_n C0.1 C0.2.1 dX1_clear_29 rfl (lv_at hl 0 rfl) ?_
  refine y_c1 (n := 0) C0 (by decide) dX1_clear_30 (fun v_20 e_21 => ?_)
  refine tp_X1_hours C0 h hi0 q_217 (le_min v_20) (le_max v_20) dX1_clear_31 (fun H locs ws_22 h u_23 => ?_)
  rw [hQ]
  exact y_vret C0 h (Fr.tr (Fr.tr (Fr.tr (Fr.tr (Fr.mono u_4 (by decide)) (Fr.mono u_9 (by decide))) (Fr.mono u_14 (by decide))) (Fr.up u_19.1 hi0 (by decide))) (Fr.up u_23.1 hi0 (by decide))) trivial dX1_clear_34
set_option maxHeartbeats 4000000 in
set_option maxRecDepth 100000 in
theorem c_X1_copy (l : Launch) (G : GG) (Z : RZ) (ad : Nat → Nat) (ws0 : va_W) (hT : Ty G (SC tt) ad ws0) (i0 : Nat) (hi0 : Kd (SC tt) i0 6) (i1 : Nat) (hi1 : Kd (SC tt) i1 6) : Mq l yX1_copy cX1_copy 2 none 1 G Z [.ref (ad i0), .ref (ad i1)] ws0 (PV G (SC tt) ad [6, 7, 8, 9, 10, 11, 12, 13] ws0 (fun u => (Out i0 8 ws0 u))) := by
  refine Mq.start (by decide) (Nat.le_of_ble_eq_true rfl) ?_
  intro p e s m below meth c A ls C0 hZ h hl
  have hl : lv_has ls 2 [(0, .ref (ad i0)), (1, .ref (ad i1))] := hl
  have h : Wt G (SC tt) ad A s s.heap [] ws0 := ⟨h, hT⟩
  obtain ⟨args, hargs⟩ : ∃ z, z = ([.ref (ad i0), .ref (ad i1)] : List Value).toArray := ⟨_, rfl⟩
  rw [← hargs] at C0 ⊢
  have C0 : Cx p s m args meth c RX1 cX1_copy 2 none := C0
  obtain ⟨Q, hQ⟩ : ∃ z, z = MQ below ((PV G (SC tt) ad [6, 7, 8, 9, 10, 11, 12, 13] ws0 (fun u => (Out i0 8 ws0 u))) A) args s 0 0 A := ⟨_, rfl⟩
  rw [← hQ]
  refine lv_aload_n C0.1 C0.2.1 dX1_copy_0 rfl (lv_at hl 1 rfl) ?_
  refine tg_X1_at C0 h hi1 q_190 dX1_copy_1 ?_
  refine y_c1 (n := 0) C0 (by decide) dX1_copy_4 (fun v_1 e_2 => ?_)
  refine lv_aload_n C0.1 C0.2.1 dX1_copy_5 rfl (lv_at hl 0 rfl) ?_
  refine tg_X1_at C0 h hi0 q_190 dX1_copy_6 ?_
  refine y_c1 (n := 0) C0 (by decide) dX1_copy_9 (fun v_3 e_4 => ?_)
  refine y_c1 (n := 5) C0 (by decide) dX1_copy_10 (fun v_5 e_6 => ?_)
  refine y_copy C0 h hl.1 (rSC_6_1 hi1) (rSC_6_1 hi0) rfl rfl q_871 q_866 q_865 q_145 (o12_63 e_2) (o12_63 e_4) (o12_64 e_6) (o12_65 e_6) (o12_65 e_6) (fun _ _ => ⟨by decide, by decide⟩) (Nat.le_of_ble_eq_true rfl) (Nat.le_of_ble_eq_true rfl) dX1_copy_11 (fun H locs ws_7 h u_8 c_9 c_10 => ?_)
  refine lv_aload_n C0.1 C0.2.1 dX1_copy_14 rfl (lv_at hl 1 rfl) ?_
  refine tg_X1_heads C0 h hi1 q_193 dX1_copy_15 ?_
  refine y_c1 (n := 0) C0 (by decide) dX1_copy_18 (fun v_11 e_12 => ?_)
  refine lv_aload_n C0.1 C0.2.1 dX1_copy_19 rfl (lv_at hl 0 rfl) ?_
  refine tg_X1_heads C0 h hi0 q_193 dX1_copy_20 ?_
  refine y_c1 (n := 0) C0 (by decide) dX1_copy_23 (fun v_13 e_14 => ?_)
  refine y_c1 (n := 5) C0 (by decide) dX1_copy_24 (fun v_15 e_16 => ?_)
  refine y_copy C0 h hl.1 (rSC_6_2 hi1) (rSC_6_2 hi0) rfl rfl q_871 q_866 q_865 q_145 (o12_63 e_12) (o12_63 e_14) (o12_64 e_16) (o12_65 e_16) (o12_65 e_16) (fun _ _ => ⟨by decide, by decide⟩) (Nat.le_of_ble_eq_true rfl) (Nat.le_of_ble_eq_true rfl) dX1_copy_25 (fun H locs ws_17 h u_18 c_19 c_20 => ?_)
  refine lv_aload_n C0.1 C0.2.1 dX1_copy_28 rfl (lv_at hl 1 rfl) ?_
  refine tg_X1_lefts C0 h hi1 q_196 dX1_copy_29 ?_
  refine y_c1 (n := 0) C0 (by decide) dX1_copy_32 (fun v_21 e_22 => ?_)
  refine lv_aload_n C0.1 C0.2.1 dX1_copy_33 rfl (lv_at hl 0 rfl) ?_
  refine tg_X1_lefts C0 h hi0 q_196 dX1_copy_34 ?_
  refine y_c1 (n := 0) C0 (by decide) dX1_copy_37 (fun v_23 e_24 => ?_)
  refine y_c1 (n := 5) C0 (by decide) dX1_copy_38 (fun v_25 e_26 => ?_)
  refine y_copy C0 h hl.1 (rSC_6_3 hi1) (rSC_6_3 hi0) rfl rfl q_871 q_866 q_865 q_145 (o12_63 e_22) (o12_63 e_24) (o12_64 e_26) (o12_65 e_26) (o12_65 e_26) (fun _ _ => ⟨by decide, by decide⟩) (Nat.le_of_ble_eq_true rfl) (Nat.le_of_ble_eq_true rfl) dX1_copy_39 (fun H locs ws_27 h u_28 c_29 c_30 => ?_)
  refine lv_aload_n C0.1 C0.2.1 dX1_copy_42 rfl (lv_at hl 1 rfl) ?_
  refine tg_X1_coins C0 h hi1 q_199 dX1_copy_43 ?_
  refine y_c1 (n := 0) C0 (by decide) dX1_copy_46 (fun v_31 e_32 => ?_)
  refine lv_aload_n C0.1 C0.2.1 dX1_copy_47 rfl (lv_at hl 0 rfl) ?_
  refine tg_X1_coins C0 h hi0 q_199 dX1_copy_48 ?_
  refine y_c1 (n := 0) C0 (by decide) dX1_copy_51 (fun v_33 e_34 => ?_)
  refine y_c1 (n := 5) C0 (by decide) dX1_copy_52 (fun v_35 e_36 => ?_)
  refine y_copy C0 h hl.1 (rSC_6_4 hi1) (rSC_6_4 hi0) rfl rfl q_871 q_866 q_865 q_145 (o12_63 e_32) (o12_63 e_34) (o12_64 e_36) (o12_65 e_36) (o12_65 e_36) (fun _ _ => ⟨by decide, by decide⟩) (Nat.le_of_ble_eq_true rfl) (Nat.le_of_ble_eq_true rfl) dX1_copy_53 (fun H locs ws_37 h u_38 c_39 c_40 => ?_)
  refine lv_aload_n C0.1 C0.2.1 dX1_copy_56 rfl (lv_at hl 1 rfl) ?_
  refine tg_X1_used C0 h hi1 q_202 dX1_copy_57 ?_
  refine y_c1 (n := 0) C0 (by decide) dX1_copy_60 (fun v_41 e_42 => ?_)
  refine lv_aload_n C0.1 C0.2.1 dX1_copy_61 rfl (lv_at hl 0 rfl) ?_
  refine tg_X1_used C0 h hi0 q_202 dX1_copy_62 ?_
  refine y_c1 (n := 0) C0 (by decide) dX1_copy_65 (fun v_43 e_44 => ?_)
  refine y_c1 (n := 5) C0 (by decide) dX1_copy_66 (fun v_45 e_46 => ?_)
  refine y_copy C0 h hl.1 (rSC_6_5 hi1) (rSC_6_5 hi0) rfl rfl q_871 q_866 q_865 q_145 (o12_63 e_42) (o12_63 e_44) (o12_64 e_46) (o12_65 e_46) (o12_65 e_46) (fun _ _ => ⟨by decide, by decide⟩) (Nat.le_of_ble_eq_true rfl) (Nat.le_of_ble_eq_true rfl) dX1_copy_67 (fun H locs ws_47 h u_48 c_49 c_50 => ?_)
  refine lv_aload_n C0.1 C0.2.1 dX1_copy_70 rfl (lv_at hl 1 rfl) ?_
  refine tg_X1_sold C0 h hi1 q_205 dX1_copy_71 ?_
  refine y_c1 (n := 0) C0 (by decide) dX1_copy_74 (fun v_51 e_52 => ?_)
  refine lv_aload_n C0.1 C0.2.1 dX1_copy_75 rfl (lv_at hl 0 rfl) ?_
  refine tg_X1_sold C0 h hi0 q_205 dX1_copy_76 ?_
  refine y_c1 (n := 0) C0 (by decide) dX1_copy_79 (fun v_53 e_54 => ?_)
  refine y_c2 (n := 25) C0 (by decide) dX1_copy_80 (fun v_55 e_56 => ?_)
  refine y_copy C0 h hl.1 (rSC_6_6 hi1) (rSC_6_6 hi0) rfl rfl q_871 q_866 q_865 q_145 (o12_63 e_52) (o12_63 e_54) (o12_66 e_56) (o12_67 e_56) (o12_67 e_56) (fun _ _ => ⟨by decide, by decide⟩) (Nat.le_of_ble_eq_true rfl) (Nat.le_of_ble_eq_true rfl) dX1_copy_82 (fun H locs ws_57 h u_58 c_59 c_60 => ?_)
  refine lv_aload_n C0.1 C0.2.1 dX1_copy_85 rfl (lv_at hl 1 rfl) ?_
  refine tg_X1_fogEnds C0 h hi1 q_210 dX1_copy_86 ?_
  refine y_c1 (n := 0) C0 (by decide) dX1_copy_89 (fun v_61 e_62 => ?_)
  refine lv_aload_n C0.1 C0.2.1 dX1_copy_90 rfl (lv_at hl 0 rfl) ?_
  refine tg_X1_fogEnds C0 h hi0 q_210 dX1_copy_91 ?_
  refine y_c1 (n := 0) C0 (by decide) dX1_copy_94 (fun v_63 e_64 => ?_)
  refine y_c2 (n := 25) C0 (by decide) dX1_copy_95 (fun v_65 e_66 => ?_)
  refine y_copy C0 h hl.1 (rSC_6_7 hi1) (rSC_6_7 hi0) rfl rfl q_871 q_866 q_865 q_145 (o12_63 e_62) (o12_63 e_64) (o12_66 e_66) (o12_67 e_66) (o12_67 e_66) (fun _ _ => ⟨by decide, by decide⟩) (Nat.le_of_ble_eq_true rfl) (Nat.le_of_ble_eq_true rfl) dX1_copy_97 (fun H locs ws_67 h u_68 c_69 c_70 => ?_)
  refine lv_aload_n C0.1 C0.2.1 dX1_copy_100 rfl (lv_at hl 0 rfl) ?_
  refine lv_aload_n C0.1 C0.2.1 dX1_copy_101 rfl (lv_at hl 1 rfl) ?_
  refine tg_X1_people C0 h hi1 q_213 dX1_copy_102 (fun v_71 e_72 e_73 e_74 => ?_)
  refine tp_X1_people C0 h hi0 q_213 (o12_68 e_73 e_74) (o12_69 e_73 e_74) dX1_copy_105 (fun H locs ws_75 h u_76 => ?_)
  refine lv_aload_n C0.1 C0.2.1 dX1_copy_108 rfl (lv_at hl 0 rfl) ?_
  refine lv_aload_n C0.1 C0.2.1 dX1_copy_109 rfl (lv_at hl 1 rfl) ?_
  refine tg_X1_hours C0 h hi1 q_217 dX1_copy_110 (fun v_77 e_78 e_79 e_80 => ?_)
  refine tp_X1_hours C0 h hi0 q_217 (le_min v_77) (le_max v_77) dX1_copy_113 (fun H locs ws_81 h u_82 => ?_)
  rw [hQ]
  exact y_vret C0 h (Fr.tr (Fr.tr (Fr.tr (Fr.tr (Fr.tr (Fr.tr (Fr.tr (Fr.tr (Fr.up u_8 (rSC_6_1 hi0) (by decide)) (Fr.up u_18 (rSC_6_2 hi0) (by decide))) (Fr.up u_28 (rSC_6_3 hi0) (by decide))) (Fr.up u_38 (rSC_6_4 hi0) (by decide))) (Fr.up u_48 (rSC_6_5 hi0) (by decide))) (Fr.up u_58 (rSC_6_6 hi0) (by decide))) (Fr.up u_68 (rSC_6_7 hi0) (by decide))) (Fr.up u_76.1 hi0 (by decide))) (Fr.up u_82.1 hi0 (by decide))) (Out.ud (Out.ud (Out.ud (Out.ud (Out.ud (Out.ud (Out.ud (Out.ud (Out.ud Out.rf u_8 (by omega) (by omega)) u_18 (by omega) (by omega)) u_28 (by omega) (by omega)) u_38 (by omega) (by omega)) u_48 (by omega) (by omega)) u_58 (by omega) (by omega)) u_68 (by omega) (by omega)) u_76.1 (by omega) (by omega)) u_82.1 (by omega) (by omega)) dX1_copy_116
set_option maxHeartbeats 4000000 in
set_option maxRecDepth 100000 in
theorem c_X1_settle (l : Launch) (G : GG) (Z : RZ) (ad : Nat → Nat) (ws0 : va_W) (hT : Ty G (SC tt) ad ws0) (i0 : Nat) (hi0 : Kd (SC tt) i0 6) (a1 : Int32) (a2 : Int32) (a3 : Int32) (a4 : Int32) (l1 : 0 ≤ a1.toInt) (u1 : a1.toInt ≤ 24) (l2 : 0 ≤ a2.toInt) (u2 : a2.toInt ≤ 3) : Mq l yX1_settle cX1_settle 5 none 1 G Z [.ref (ad i0), .int a1, .int a2, .int a3, .int a4] ws0 (PV G (SC tt) ad [6, 7, 8, 9, 10] ws0 (fun u => True)) := by
  refine Mq.start (by decide) (Nat.le_of_ble_eq_true rfl) ?_
  intro p e s m below meth c A ls C0 hZ h hl
  have hl : lv_has ls 5 [(0, .ref (ad i0)), (1, .int a1), (2, .int a2), (3, .int a3), (4, .int a4)] := hl
  have h : Wt G (SC tt) ad A s s.heap [] ws0 := ⟨h, hT⟩
  obtain ⟨args, hargs⟩ : ∃ z, z = ([.ref (ad i0), .int a1, .int a2, .int a3, .int a4] : List Value).toArray := ⟨_, rfl⟩
  rw [← hargs] at C0 ⊢
  have C0 : Cx p s m args meth c RX1 cX1_settle 5 none := C0
  obtain ⟨Q, hQ⟩ : ∃ z, z = MQ below ((PV G (SC tt) ad [6, 7, 8, 9, 10] ws0 (fun u => True)) A) args s 0 0 A := ⟨_, rfl⟩
  rw [← hQ]
  refine lv_aload_n C0.1 C0.2.1 dX1_settle_0 rfl (lv_at hl 0 rfl) ?_
  refine tg_X1_people C0 h hi0 q_213 dX1_settle_1 (fun v_1 e_2 e_3 e_4 => ?_)
  refine y_c1 (n := 5) C0 (by decide) dX1_settle_4 (fun v_5 e_6 => ?_)
  refine y_icmp_ge (tgt := 59) C0 dX1_settle_5 (by decide) (fun c_7 => ?_) (fun c_7 => ?_)
  · -- 5
    rw [hQ]
    exact y_vret C0 h Fr.rf trivial dX1_settle_59
  · -- 5
    refine lv_aload_n C0.1 C0.2.1 dX1_settle_8 rfl (lv_at hl 0 rfl) ?_
    refine tg_X1_at C0 h hi0 q_190 dX1_settle_9 ?_
    refine lv_aload_n C0.1 C0.2.1 dX1_settle_12 rfl (lv_at hl 0 rfl) ?_
    refine tg_X1_people C0 h hi0 q_213 dX1_settle_13 (fun v_8 e_9 e_10 e_11 => ?_)
    have q_12 : v_8.toInt = v_1.toInt := congrArg Int32.toInt (e_9.symm.trans (Eq.trans rfl e_2))
    refine lv_iload_n C0.1 C0.2.1 dX1_settle_16 rfl (lv_at hl 1 rfl) ?_
    refine y_iast C0 h (rSC_6_1 hi0) rfl (by decide) (o12_70 e_3 e_4 e_6 c_7 e_10 e_11 q_12) (o12_71 e_3 e_4 e_6 c_7 e_10 e_11 q_12) (o12_72 l1 u1) (o12_73 l1 u1) dX1_settle_17 (fun H locs ws_13 h u_14 => ?_)
    refine lv_aload_n C0.1 C0.2.1 dX1_settle_18 rfl (lv_at hl 0 rfl) ?_
    refine tg_X1_heads C0 h hi0 q_193 dX1_settle_19 ?_
    refine lv_aload_n C0.1 C0.2.1 dX1_settle_22 rfl (lv_at hl 0 rfl) ?_
    refine tg_X1_people C0 h hi0 q_213 dX1_settle_23 (fun v_15 e_16 e_17 e_18 => ?_)
    have q_19 : v_15.toInt = v_1.toInt := congrArg Int32.toInt (e_16.symm.trans (Eq.trans (fI_of (u_14.1 i0 (kd_ne hi0 (rSC_6_1 hi0) (by decide)))) e_2))
    refine lv_iload_n C0.1 C0.2.1 dX1_settle_26 rfl (lv_at hl 2 rfl) ?_
    refine y_iast C0 h (rSC_6_2 hi0) rfl (by decide) (o12_74 e_3 e_4 e_6 c_7 e_10 e_11 q_12 e_17 e_18 q_19) (o12_75 e_3 e_4 e_6 c_7 e_10 e_11 q_12 e_17 e_18 q_19) (o12_76 l2 u2) (o12_77 l2 u2) dX1_settle_27 (fun H locs ws_20 h u_21 => ?_)
    refine lv_aload_n C0.1 C0.2.1 dX1_settle_28 rfl (lv_at hl 0 rfl) ?_
    refine tg_X1_lefts C0 h hi0 q_196 dX1_settle_29 ?_
    refine lv_aload_n C0.1 C0.2.1 dX1_settle_32 rfl (lv_at hl 0 rfl) ?_
    refine tg_X1_people C0 h hi0 q_213 dX1_settle_33 (fun v_22 e_23 e_24 e_25 => ?_)
    have q_26 : v_22.toInt = v_1.toInt := congrArg Int32.toInt (e_23.symm.trans (Eq.trans (Eq.trans (fI_of (u_21.1 i0 (kd_ne hi0 (rSC_6_2 hi0) (by decide)))) (fI_of (u_14.1 i0 (kd_ne hi0 (rSC_6_1 hi0) (by decide))))) e_2))
    refine lv_iload_n C0.1 C0.2.1 dX1_settle_36 rfl (lv_at hl 3 rfl) ?_
    refine y_iast C0 h (rSC_6_3 hi0) rfl (by decide) (o12_78 e_3 e_4 e_6 c_7 e_10 e_11 q_12 e_17 e_18 q_19 e_24 e_25 q_26) (o12_79 e_3 e_4 e_6 c_7 e_10 e_11 q_12 e_17 e_18 q_19 e_24 e_25 q_26) (le_min a3) (le_max a3) dX1_settle_37 (fun H locs ws_27 h u_28 => ?_)
    refine lv_aload_n C0.1 C0.2.1 dX1_settle_38 rfl (lv_at hl 0 rfl) ?_
    refine tg_X1_coins C0 h hi0 q_199 dX1_settle_39 ?_
    refine lv_aload_n C0.1 C0.2.1 dX1_settle_42 rfl (lv_at hl 0 rfl) ?_
    refine tg_X1_people C0 h hi0 q_213 dX1_settle_43 (fun v_29 e_30 e_31 e_32 => ?_)
    have q_33 : v_29.toInt = v_1.toInt := congrArg Int32.toInt (e_30.symm.trans (Eq.trans (Eq.trans (fI_of (u_28.1 i0 (kd_ne hi0 (rSC_6_3 hi0) (by decide)))) (Eq.trans (fI_of (u_21.1 i0 (kd_ne hi0 (rSC_6_2 hi0) (by decide)))) (fI_of (u_14.1 i0 (kd_ne hi0 (rSC_6_1 hi0) (by decide)))))) e_2))
    refine lv_iload C0.1 C0.2.1 dX1_settle_46 (lv_at hl 4 rfl) ?_
    refine y_iast C0 h (rSC_6_4 hi0) rfl (by decide) (o12_80 e_3 e_4 e_6 c_7 e_10 e_11 q_12 e_17 e_18 q_19 e_24 e_25 q_26 e_31 e_32 q_33) (o12_81 e_3 e_4 e_6 c_7 e_10 e_11 q_12 e_17 e_18 q_19 e_24 e_25 q_26 e_31 e_32 q_33) (le_min a4) (le_max a4) dX1_settle_48 (fun H locs ws_34 h u_35 => ?_)
    refine lv_aload_n C0.1 C0.2.1 dX1_settle_49 rfl (lv_at hl 0 rfl) ?_
    refine lv_dup C0.1 C0.2.1 dX1_settle_50 rfl ?_
    refine tg_X1_people C0 h hi0 q_213 dX1_settle_51 (fun v_36 e_37 e_38 e_39 => ?_)
    have q_40 : v_36.toInt = v_1.toInt := congrArg Int32.toInt (e_37.symm.trans (Eq.trans (Eq.trans (fI_of (u_35.1 i0 (kd_ne hi0 (rSC_6_4 hi0) (by decide)))) (Eq.trans (fI_of (u_28.1 i0 (kd_ne hi0 (rSC_6_3 hi0) (by decide)))) (Eq.trans (fI_of (u_21.1 i0 (kd_ne hi0 (rSC_6_2 hi0) (by decide)))) (fI_of (u_14.1 i0 (kd_ne hi0 (rSC_6_1 hi0) (by decide))))))) e_2))
    refine y_c1 (n := 1) C0 (by decide) dX1_settle_54 (fun v_41 e_42 => ?_)
    refine y_add C0 (o12_82 e_3 e_4 e_6 c_7 e_10 e_11 q_12 e_17 e_18 q_19 e_24 e_25 q_26 e_31 e_32 q_33 e_38 e_39 q_40 e_42 (le_min v_36) (le_max v_36) (le_min v_41) (le_max v_41) (le_min v_1) (le_max v_1) (le_min v_5) (le_max v_5) (le_min v_8) (le_max v_8) (le_min v_15) (le_max v_15) (le_min v_22) (le_max v_22) (le_min v_29) (le_max v_29)) (o12_83 e_3 e_4 e_6 c_7 e_10 e_11 q_12 e_17 e_18 q_19 e_24 e_25 q_26 e_31 e_32 q_33 e_38 e_39 q_40 e_42 (le_min v_36) (le_max v_36) (le_min v_41) (le_max v_41) (le_min v_1) (le_max v_1) (le_min v_5) (le_max v_5) (le_min v_8) (le_max v_8) (le_min v_15) (le_max v_15) (le_min v_22) (le_max v_22) (le_min v_29) (le_max v_29)) dX1_settle_55 (fun v_43 e_44 => ?_)
    refine tp_X1_people C0 h hi0 q_213 (o12_84 e_3 e_4 e_6 c_7 e_10 e_11 q_12 e_17 e_18 q_19 e_24 e_25 q_26 e_31 e_32 q_33 e_38 e_39 q_40 e_42 e_44) (o12_85 e_3 e_4 e_6 c_7 e_10 e_11 q_12 e_17 e_18 q_19 e_24 e_25 q_26 e_31 e_32 q_33 e_38 e_39 q_40 e_42 e_44) dX1_settle_56 (fun H locs ws_45 h u_46 => ?_)
    rw [hQ]
    exact y_vret C0 h (Fr.tr (Fr.tr (Fr.tr (Fr.tr (Fr.up u_14.1 (rSC_6_1 hi0) (by decide)) (Fr.up u_21.1 (rSC_6_2 hi0) (by decide))) (Fr.up u_28.1 (rSC_6_3 hi0) (by decide))) (Fr.up u_35.1 (rSC_6_4 hi0) (by decide))) (Fr.up u_46.1 hi0 (by decide))) trivial dX1_settle_59
set_option maxHeartbeats 4000000 in
set_option maxRecDepth 100000 in
theorem c_X1_stand (l : Launch) (G : GG) (Z : RZ) (ad : Nat → Nat) (ws0 : va_W) (hT : Ty G (SC tt) ad ws0) (i0 : Nat) (hi0 : Kd (SC tt) i0 6) (a1 : Int32) (l1 : 0 ≤ a1.toInt) (u1 : a1.toInt ≤ 4) : Mq l yX1_stand cX1_stand 2 (some .int) 1 G Z [.ref (ad i0), .int a1] ws0 (PI G (SC tt) ad [] ws0 (fun r u => (0 ≤ r.toInt) ∧ (r.toInt ≤ 99))) := by
  refine Mq.start (by decide) (Nat.le_of_ble_eq_true rfl) ?_
  intro p e s m below meth c A ls C0 hZ h hl
  have hl : lv_has ls 2 [(0, .ref (ad i0)), (1, .int a1)] := hl
  have h : Wt G (SC tt) ad A s s.heap [] ws0 := ⟨h, hT⟩
  obtain ⟨args, hargs⟩ : ∃ z, z = ([.ref (ad i0), .int a1] : List Value).toArray := ⟨_, rfl⟩
  rw [← hargs] at C0 ⊢
  have C0 : Cx p s m args meth c RX1 cX1_stand 2 (some .int) := C0
  obtain ⟨Q, hQ⟩ : ∃ z, z = MQ below ((PI G (SC tt) ad [] ws0 (fun r u => (0 ≤ r.toInt) ∧ (r.toInt ≤ 99))) A) args s 0 0 A := ⟨_, rfl⟩
  rw [← hQ]
  refine y_c1 (n := 4) C0 (by decide) dX1_stand_0 (fun v_1 e_2 => ?_)
  refine lv_aload_n C0.1 C0.2.1 dX1_stand_1 rfl (lv_at hl 0 rfl) ?_
  refine tg_X1_at C0 h hi0 q_190 dX1_stand_2 ?_
  refine lv_iload_n C0.1 C0.2.1 dX1_stand_5 rfl (lv_at hl 1 rfl) ?_
  refine y_iald C0 h (rSC_6_1 hi0) rfl (by decide) (o12_86 l1 u1) (o12_87 l1 u1) dX1_stand_6 (fun v_3 e_4 e_5 e_6 => ?_)
  refine y_cmul (n := 4) C0 (o12_56 e_2) (o12_88 e_5 e_6 (le_min v_3) (le_max v_3)) (o12_89 e_5 e_6 (le_min v_3) (le_max v_3)) dX1_stand_7 (fun v_7 e_8 => ?_)
  refine lv_aload_n C0.1 C0.2.1 dX1_stand_8 rfl (lv_at hl 0 rfl) ?_
  refine tg_X1_heads C0 h hi0 q_193 dX1_stand_9 ?_
  refine lv_iload_n C0.1 C0.2.1 dX1_stand_12 rfl (lv_at hl 1 rfl) ?_
  refine y_iald C0 h (rSC_6_2 hi0) rfl (by decide) (o12_86 l1 u1) (o12_87 l1 u1) dX1_stand_13 (fun v_9 e_10 e_11 e_12 => ?_)
  refine y_add C0 (o12_90 e_5 e_6 e_8 e_11 e_12 (le_min v_7) (le_max v_7) (le_min v_9) (le_max v_9) (le_min v_3) (le_max v_3)) (o12_91 e_5 e_6 e_8 e_11 e_12 (le_min v_7) (le_max v_7) (le_min v_9) (le_max v_9) (le_min v_3) (le_max v_3)) dX1_stand_14 (fun v_13 e_14 => ?_)
  rw [hQ]
  exact y_iret C0 h Fr.rf ⟨(o12_92 e_5 e_6 e_8 e_11 e_12 e_14), (o12_93 e_5 e_6 e_8 e_11 e_12 e_14)⟩ dX1_stand_15
set_option maxHeartbeats 4000000 in
set_option maxRecDepth 100000 in
theorem c_X1_allSold (l : Launch) (G : GG) (Z : RZ) (ad : Nat → Nat) (ws0 : va_W) (hT : Ty G (SC tt) ad ws0) (i0 : Nat) (hi0 : Kd (SC tt) i0 6) : Mq l yX1_allSold cX1_allSold 3 (some .int) 1 G Z [.ref (ad i0)] ws0 (PI G (SC tt) ad [] ws0 (fun r u => True)) := by
  refine Mq.start (by decide) (Nat.le_of_ble_eq_true rfl) ?_
  intro p e s m below meth c A ls C0 hZ h hl
  have hl : lv_has ls 3 [(0, .ref (ad i0))] := hl
  have h : Wt G (SC tt) ad A s s.heap [] ws0 := ⟨h, hT⟩
  obtain ⟨args, hargs⟩ : ∃ z, z = ([.ref (ad i0)] : List Value).toArray := ⟨_, rfl⟩
  rw [← hargs] at C0 ⊢
  have C0 : Cx p s m args meth c RX1 cX1_allSold 3 (some .int) := C0
  obtain ⟨Q, hQ⟩ : ∃ z, z = MQ below ((PI G (SC tt) ad [] ws0 (fun r u => True)) A) args s 0 0 A := ⟨_, rfl⟩
  rw [← hQ]
  refine y_c1 (n := 0) C0 (by decide) dX1_allSold_0 (fun v_1 e_2 => ?_)
  refine lv_istore_n (lv' := [(1, .int v_1), (0, .ref (ad i0))]) C0.1 C0.2.1 dX1_allSold_1 rfl hl (by decide) rfl (fun ls hl => ?_)
  refine y_c1 (n := 0) C0 (by decide) dX1_allSold_2 (fun v_3 e_4 => ?_)
  refine lv_istore_n (lv' := [(2, .int v_3), (1, .int v_1), (0, .ref (ad i0))]) C0.1 C0.2.1 dX1_allSold_3 rfl hl (by decide) rfl (fun ls hl => ?_)
  have lp_9 : ∀ (n_11 : Nat) (x2_5 : Int32) (x1_6 : Int32) (H : Heap) (locs : List Loc) (ls : Array Slot) (ws_7 : va_W), 25 - x2_5.toInt < (n_11 : Int) → 0 ≤ x2_5.toInt → x2_5.toInt ≤ 25 → Wt G (SC tt) ad A s H locs ws_7 → Fr (SC tt) [] ws0 ws_7 → lv_has ls 3 [(2, .int x2_5), (1, .int x1_6), (0, .ref (ad i0))] → W p l e (rmd 1 0 0) s m args below meth c H locs 0 0 Q (F0 m 4 ls []) := by
    intro n_11
    induction n_11 with
    | zero => intro x2_5 x1_6 H locs ls ws_7 hn_12 b_13 b_14 h hF_8 hl; exact ((o12_12 b_13 b_14 hn_12)).elim
    | succ n_11 ih_10 =>
      intro x2_5 x1_6 H locs ls ws_7 hn_12 b_13 b_14 h hF_8 hl
      refine lv_iload_n C0.1 C0.2.1 dX1_allSold_4 rfl (lv_at hl 0 rfl) ?_
      refine y_c2 (n := 25) C0 (by decide) dX1_allSold_5 (fun v_15 e_16 => ?_)
      refine y_icmp_ge (tgt := 25) C0 dX1_allSold_7 (by decide) (fun c_17 => ?_) (fun c_17 => ?_)
      · -- 7
        refine lv_iload_n C0.1 C0.2.1 dX1_allSold_25 rfl (lv_at hl 1 rfl) ?_
        rw [hQ]
        exact y_iret C0 h hF_8 trivial dX1_allSold_26
      · -- 7
        refine lv_iload_n C0.1 C0.2.1 dX1_allSold_10 rfl (lv_at hl 1 rfl) ?_
        refine lv_aload_n C0.1 C0.2.1 dX1_allSold_11 rfl (lv_at hl 2 rfl) ?_
        refine tg_X1_sold C0 h hi0 q_205 dX1_allSold_12 ?_
        refine lv_iload_n C0.1 C0.2.1 dX1_allSold_15 rfl (lv_at hl 0 rfl) ?_
        refine y_iald C0 h (rSC_6_6 hi0) rfl (by decide) (o12_94 b_13 b_14 hn_12 e_16 c_17) (o12_95 b_13 b_14 hn_12 e_16 c_17) dX1_allSold_16 (fun v_18 e_19 e_20 e_21 => ?_)
        refine y_iaddU C0 dX1_allSold_17 (fun v_22 => ?_)
        refine lv_istore_n (lv' := [(1, .int v_22), (2, .int x2_5), (0, .ref (ad i0))]) C0.1 C0.2.1 dX1_allSold_18 rfl hl (by decide) rfl (fun ls hl => ?_)
        refine y_inc (kp := 1) (n := 1) (fun v_23 => [(2, .int v_23), (1, .int v_22), (0, .ref (ad i0))]) C0 hl rfl (by decide) (by decide) (fun _ => rfl) (o12_96 b_13 b_14 hn_12 e_16 c_17 (le_min x2_5) (le_max x2_5) (le_min v_15) (le_max v_15)) (o12_97 b_13 b_14 hn_12 e_16 c_17 (le_min x2_5) (le_max x2_5) (le_min v_15) (le_max v_15)) dX1_allSold_19 (fun v_23 ls e_24 hl => ?_)
        refine lv_goto (tgt := 4) C0.1 C0.2.1 dX1_allSold_22 (by decide) ?_
        exact ih_10 v_23 v_22 _ _ _ _ (o12_98 b_13 b_14 hn_12 e_16 c_17 e_24) (o12_99 b_13 b_14 hn_12 e_16 c_17 e_24) (o12_100 b_13 b_14 hn_12 e_16 c_17 e_24) h hF_8 (lv_sub hl [0, 1, 2] rfl)
  exact lp_9 ((25 - v_3.toInt + 1).toNat) v_3 v_1 _ _ _ _ (o12_20 e_4) (o12_10 e_4) (o12_21 e_4) h Fr.rf (lv_sub hl [0, 1, 2] rfl)
set_option maxHeartbeats 4000000 in
set_option maxRecDepth 100000 in
theorem c_X1_allLefts (l : Launch) (G : GG) (Z : RZ) (ad : Nat → Nat) (ws0 : va_W) (hT : Ty G (SC tt) ad ws0) (i0 : Nat) (hi0 : Kd (SC tt) i0 6) : Mq l yX1_allLefts cX1_allLefts 3 (some .int) 1 G Z [.ref (ad i0)] ws0 (PI G (SC tt) ad [] ws0 (fun r u => True)) := by
  refine Mq.start (by decide) (Nat.le_of_ble_eq_true rfl) ?_
  intro p e s m below meth c A ls C0 hZ h hl
  have hl : lv_has ls 3 [(0, .ref (ad i0))] := hl
  have h : Wt G (SC tt) ad A s s.heap [] ws0 := ⟨h, hT⟩
  obtain ⟨args, hargs⟩ : ∃ z, z = ([.ref (ad i0)] : List Value).toArray := ⟨_, rfl⟩
  rw [← hargs] at C0 ⊢
  have C0 : Cx p s m args meth c RX1 cX1_allLefts 3 (some .int) := C0
  obtain ⟨Q, hQ⟩ : ∃ z, z = MQ below ((PI G (SC tt) ad [] ws0 (fun r u => True)) A) args s 0 0 A := ⟨_, rfl⟩
  rw [← hQ]
  refine y_c1 (n := 0) C0 (by decide) dX1_allLefts_0 (fun v_1 e_2 => ?_)
  refine lv_istore_n (lv' := [(1, .int v_1), (0, .ref (ad i0))]) C0.1 C0.2.1 dX1_allLefts_1 rfl hl (by decide) rfl (fun ls hl => ?_)
  refine y_c1 (n := 0) C0 (by decide) dX1_allLefts_2 (fun v_3 e_4 => ?_)
  refine lv_istore_n (lv' := [(2, .int v_3), (1, .int v_1), (0, .ref (ad i0))]) C0.1 C0.2.1 dX1_allLefts_3 rfl hl (by decide) rfl (fun ls hl => ?_)
  have lp_9 : ∀ (n_11 : Nat) (x2_5 : Int32) (x1_6 : Int32) (H : Heap) (locs : List Loc) (ls : Array Slot) (ws_7 : va_W), 5 - x2_5.toInt < (n_11 : Int) → 0 ≤ x2_5.toInt → x2_5.toInt ≤ 5 → Wt G (SC tt) ad A s H locs ws_7 → Fr (SC tt) [] ws0 ws_7 → lv_has ls 3 [(2, .int x2_5), (1, .int x1_6), (0, .ref (ad i0))] → W p l e (rmd 1 0 0) s m args below meth c H locs 0 0 Q (F0 m 4 ls []) := by
    intro n_11
    induction n_11 with
    | zero => intro x2_5 x1_6 H locs ls ws_7 hn_12 b_13 b_14 h hF_8 hl; exact ((o12_1 b_13 b_14 hn_12)).elim
    | succ n_11 ih_10 =>
      intro x2_5 x1_6 H locs ls ws_7 hn_12 b_13 b_14 h hF_8 hl
      refine lv_iload_n C0.1 C0.2.1 dX1_allLefts_4 rfl (lv_at hl 0 rfl) ?_
      refine lv_aload_n C0.1 C0.2.1 dX1_allLefts_5 rfl (lv_at hl 2 rfl) ?_
      refine tg_X1_people C0 h hi0 q_213 dX1_allLefts_6 (fun v_15 e_16 e_17 e_18 => ?_)
      refine y_icmp_ge (tgt := 27) C0 dX1_allLefts_9 (by decide) (fun c_19 => ?_) (fun c_19 => ?_)
      · -- 9
        refine lv_iload_n C0.1 C0.2.1 dX1_allLefts_27 rfl (lv_at hl 1 rfl) ?_
        rw [hQ]
        exact y_iret C0 h hF_8 trivial dX1_allLefts_28
      · -- 9
        refine lv_iload_n C0.1 C0.2.1 dX1_allLefts_12 rfl (lv_at hl 1 rfl) ?_
        refine lv_aload_n C0.1 C0.2.1 dX1_allLefts_13 rfl (lv_at hl 2 rfl) ?_
        refine tg_X1_lefts C0 h hi0 q_196 dX1_allLefts_14 ?_
        refine lv_iload_n C0.1 C0.2.1 dX1_allLefts_17 rfl (lv_at hl 0 rfl) ?_
        refine y_iald C0 h (rSC_6_3 hi0) rfl (by decide) (o12_101 b_13 b_14 hn_12 e_17 e_18 c_19) (o12_102 b_13 b_14 hn_12 e_17 e_18 c_19) dX1_allLefts_18 (fun v_20 e_21 e_22 e_23 => ?_)
        refine y_iaddU C0 dX1_allLefts_19 (fun v_24 => ?_)
        refine lv_istore_n (lv' := [(1, .int v_24), (2, .int x2_5), (0, .ref (ad i0))]) C0.1 C0.2.1 dX1_allLefts_20 rfl hl (by decide) rfl (fun ls hl => ?_)
        refine y_inc (kp := 1) (n := 1) (fun v_25 => [(2, .int v_25), (1, .int v_24), (0, .ref (ad i0))]) C0 hl rfl (by decide) (by decide) (fun _ => rfl) (o12_103 b_13 b_14 hn_12 e_17 e_18 c_19 (le_min x2_5) (le_max x2_5) (le_min v_15) (le_max v_15)) (o12_104 b_13 b_14 hn_12 e_17 e_18 c_19 (le_min x2_5) (le_max x2_5) (le_min v_15) (le_max v_15)) dX1_allLefts_21 (fun v_25 ls e_26 hl => ?_)
        refine lv_goto (tgt := 4) C0.1 C0.2.1 dX1_allLefts_24 (by decide) ?_
        exact ih_10 v_25 v_24 _ _ _ _ (o12_105 b_13 b_14 hn_12 e_17 e_18 c_19 e_26) (o12_106 b_13 b_14 hn_12 e_17 e_18 c_19 e_26) (o12_107 b_13 b_14 hn_12 e_17 e_18 c_19 e_26) h hF_8 (lv_sub hl [0, 1, 2] rfl)
  exact lp_9 ((5 - v_3.toInt + 1).toNat) v_3 v_1 _ _ _ _ (o12_9 e_4) (o12_10 e_4) (o12_11 e_4) h Fr.rf (lv_sub hl [0, 1, 2] rfl)
set_option maxHeartbeats 4000000 in
set_option maxRecDepth 100000 in
theorem c_X10_lay (l : Launch) (G : GG) (Z : RZ) (ad : Nat → Nat) (ws0 : va_W) (hT : Ty G (SC tt) ad ws0) (i0 : Nat) (hi0 : Kd (SC tt) i0 42) (a1 : Int32) (a2 : Int32) (l2 : 0 ≤ a2.toInt) (u2 : a2.toInt ≤ 40) : Mq l yX10_lay cX10_lay 3 none 2 G Z [.ref (ad i0), .int a1, .int a2] ws0 (PV G (SC tt) ad [42, 43] ws0 (fun u => True)) := by
  refine Mq.start (by decide) (Nat.le_of_ble_eq_true rfl) ?_
  intro p e s m below meth c A ls C0 hZ h hl
  have hl : lv_has ls 3 [(0, .ref (ad i0)), (1, .int a1), (2, .int a2)] := hl
  have h : Wt G (SC tt) ad A s s.heap [] ws0 := ⟨h, hT⟩
  obtain ⟨args, hargs⟩ : ∃ z, z = ([.ref (ad i0), .int a1, .int a2] : List Value).toArray := ⟨_, rfl⟩
  rw [← hargs] at C0 ⊢
  have C0 : Cx p s m args meth c RX10 cX10_lay 3 none := C0
  obtain ⟨Q, hQ⟩ : ∃ z, z = MQ below ((PV G (SC tt) ad [42, 43] ws0 (fun u => True)) A) args s 0 0 A := ⟨_, rfl⟩
  rw [← hQ]
  refine lv_aload_n C0.1 C0.2.1 dX10_lay_0 rfl (lv_at hl 0 rfl) ?_
  refine tg_X10_values C0 h hi0 q_498 dX10_lay_1 ?_
  refine y_lc (v := 0) C0 (by decide) dX10_lay_4 (fun w_1 e_2 => ?_)
  refine y_cv h (y_rS (As := [.ref (ad (i0 + 1)), .long w_1]) (rest := []) C0 hZ h (c_J7_fill_d0a16 l G Z ad _ h.2 (i0 + 1) ((rSC_42_1 hi0)) w_1) k_J7_fill_d0a16 q_1392 q_1391 hl.1 rfl rfl (Nat.le_of_ble_eq_true rfl) dX10_lay_5 ⟨Nat.le_of_ble_eq_true rfl, Nat.le_of_ble_eq_true rfl⟩ ⟨Nat.le_of_ble_eq_true rfl, Nat.le_of_ble_eq_true rfl⟩) (fun H locs ws_3 h u_4 p_5 => ?_)
  refine lv_aload_n C0.1 C0.2.1 dX10_lay_8 rfl (lv_at hl 0 rfl) ?_
  refine lv_iload_n C0.1 C0.2.1 dX10_lay_9 rfl (lv_at hl 1 rfl) ?_
  refine tp_X10_sort C0 h hi0 q_499 (le_min a1) (le_max a1) dX10_lay_10 (fun H locs ws_6 h u_7 => ?_)
  refine lv_aload_n C0.1 C0.2.1 dX10_lay_13 rfl (lv_at hl 0 rfl) ?_
  refine lv_iload_n C0.1 C0.2.1 dX10_lay_14 rfl (lv_at hl 2 rfl) ?_
  refine tp_X10_size C0 h hi0 q_500 (o12_108 l2 u2) (o12_109 l2 u2) dX10_lay_15 (fun H locs ws_8 h u_9 => ?_)
  rw [hQ]
  exact y_vret C0 h (Fr.tr (Fr.tr (Fr.mono u_4 (by decide)) (Fr.up u_7.1 hi0 (by decide))) (Fr.up u_9.1 hi0 (by decide))) trivial dX10_lay_18
set_option maxHeartbeats 4000000 in
set_option maxRecDepth 100000 in
theorem c_X10_put (l : Launch) (G : GG) (Z : RZ) (ad : Nat → Nat) (ws0 : va_W) (hT : Ty G (SC tt) ad ws0) (i0 : Nat) (hi0 : Kd (SC tt) i0 42) (a1 : Int32) (a2 : Int64) (l1 : 0 ≤ a1.toInt) (u1 : a1.toInt ≤ 39) : Mq l yX10_put cX10_put 4 (some .long) 1 G Z [.ref (ad i0), .int a1, .long a2] ws0 (PL G (SC tt) ad [43] ws0 (fun r u => True)) := by
  refine Mq.start (by decide) (Nat.le_of_ble_eq_true rfl) ?_
  intro p e s m below meth c A ls C0 hZ h hl
  have hl : lv_has ls 4 [(0, .ref (ad i0)), (1, .int a1), (2, .long a2)] := hl
  have h : Wt G (SC tt) ad A s s.heap [] ws0 := ⟨h, hT⟩
  obtain ⟨args, hargs⟩ : ∃ z, z = ([.ref (ad i0), .int a1, .long a2] : List Value).toArray := ⟨_, rfl⟩
  rw [← hargs] at C0 ⊢
  have C0 : Cx p s m args meth c RX10 cX10_put 4 (some .long) := C0
  obtain ⟨Q, hQ⟩ : ∃ z, z = MQ below ((PL G (SC tt) ad [43] ws0 (fun r u => True)) A) args s 0 0 A := ⟨_, rfl⟩
  rw [← hQ]
  refine lv_aload_n C0.1 C0.2.1 dX10_put_0 rfl (lv_at hl 0 rfl) ?_
  refine tg_X10_values C0 h hi0 q_498 dX10_put_1 ?_
  refine lv_iload_n C0.1 C0.2.1 dX10_put_4 rfl (lv_at hl 1 rfl) ?_
  refine lv_aload_n C0.1 C0.2.1 dX10_put_5 rfl (lv_at hl 0 rfl) ?_
  refine tg_X10_sort C0 h hi0 q_499 dX10_put_6 (fun v_1 e_2 e_3 e_4 => ?_)
  refine y_if_ne (tgt := 19) C0 dX10_put_9 (by decide) (fun c_5 => ?_) (fun c_5 => ?_)
  · -- 9
    refine lv_aload_n C0.1 C0.2.1 dX10_put_19 rfl (lv_at hl 0 rfl) ?_
    refine tg_X10_sort C0 h hi0 q_499 dX10_put_20 (fun v_6 e_7 e_8 e_9 => ?_)
    have q_10 : v_6.toInt = v_1.toInt := congrArg Int32.toInt (e_7.symm.trans (Eq.trans rfl e_2))
    refine y_c1 (n := 1) C0 (by decide) dX10_put_23 (fun v_11 e_12 => ?_)
    refine y_icmp_ne (tgt := 34) C0 dX10_put_24 (by decide) (fun c_13 => ?_) (fun c_13 => ?_)
    · -- 24
      refine lv_aload_n C0.1 C0.2.1 dX10_put_34 rfl (lv_at hl 0 rfl) ?_
      refine tg_X10_sort C0 h hi0 q_499 dX10_put_35 (fun v_14 e_15 e_16 e_17 => ?_)
      have q_18 : v_14.toInt = v_1.toInt := congrArg Int32.toInt (e_15.symm.trans (Eq.trans rfl e_2))
      refine y_c1 (n := 2) C0 (by decide) dX10_put_38 (fun v_19 e_20 => ?_)
      refine y_icmp_ne (tgt := 48) C0 dX10_put_39 (by decide) (fun c_21 => ?_) (fun c_21 => ?_)
      · -- 39
        refine lv_lload_n C0.1 C0.2.1 dX10_put_48 rfl (lv_at hl 2 rfl) ?_
        refine y_last C0 h (rSC_42_1 hi0) rfl (by decide) (o12_110 l1 u1) (o12_111 l1 u1) dX10_put_49 (fun H locs ws_22 h u_23 => ?_)
        refine lv_aload_n C0.1 C0.2.1 dX10_put_50 rfl (lv_at hl 0 rfl) ?_
        refine tg_X10_values C0 h hi0 q_498 dX10_put_51 ?_
        refine lv_iload_n C0.1 C0.2.1 dX10_put_54 rfl (lv_at hl 1 rfl) ?_
        refine y_lald C0 h (rSC_42_1 hi0) rfl (by decide) (o12_110 l1 u1) (o12_111 l1 u1) dX10_put_55 (fun w_24 e_25 => ?_)
        have q_26 : w_24.toInt = a2.toInt := congrArg Int64.toInt (e_25.symm.trans (Eq.trans rfl u_23.2.1))
        rw [hQ]
        exact y_lret C0 h (Fr.up u_23.1 (rSC_42_1 hi0) (by decide)) trivial dX10_put_56
      · -- 39
        refine lv_lload_n C0.1 C0.2.1 dX10_put_42 rfl (lv_at hl 2 rfl) ?_
        refine y_l2iU C0 dX10_put_43 (fun v_27 => ?_)
        refine y_i2l C0 dX10_put_44 (fun w_28 e_29 => ?_)
        refine lv_goto (tgt := 49) C0.1 C0.2.1 dX10_put_45 (by decide) ?_
        refine y_last C0 h (rSC_42_1 hi0) rfl (by decide) (o12_110 l1 u1) (o12_111 l1 u1) dX10_put_49 (fun H locs ws_30 h u_31 => ?_)
        refine lv_aload_n C0.1 C0.2.1 dX10_put_50 rfl (lv_at hl 0 rfl) ?_
        refine tg_X10_values C0 h hi0 q_498 dX10_put_51 ?_
        refine lv_iload_n C0.1 C0.2.1 dX10_put_54 rfl (lv_at hl 1 rfl) ?_
        refine y_lald C0 h (rSC_42_1 hi0) rfl (by decide) (o12_110 l1 u1) (o12_111 l1 u1) dX10_put_55 (fun w_32 e_33 => ?_)
        have q_34 : w_32.toInt = w_28.toInt := congrArg Int64.toInt (e_33.symm.trans (Eq.trans rfl u_31.2.1))
        rw [hQ]
        exact y_lret C0 h (Fr.up u_31.1 (rSC_42_1 hi0) (by decide)) trivial dX10_put_56
    · -- 24
      refine lv_lload_n C0.1 C0.2.1 dX10_put_27 rfl (lv_at hl 2 rfl) ?_
      refine y_l2iU C0 dX10_put_28 (fun v_35 => ?_)
      refine y_i2sU C0 dX10_put_29 (fun v_36 => ?_)
      refine y_i2l C0 dX10_put_30 (fun w_37 e_38 => ?_)
      refine lv_goto (tgt := 49) C0.1 C0.2.1 dX10_put_31 (by decide) ?_
      refine y_last C0 h (rSC_42_1 hi0) rfl (by decide) (o12_110 l1 u1) (o12_111 l1 u1) dX10_put_49 (fun H locs ws_39 h u_40 => ?_)
      refine lv_aload_n C0.1 C0.2.1 dX10_put_50 rfl (lv_at hl 0 rfl) ?_
      refine tg_X10_values C0 h hi0 q_498 dX10_put_51 ?_
      refine lv_iload_n C0.1 C0.2.1 dX10_put_54 rfl (lv_at hl 1 rfl) ?_
      refine y_lald C0 h (rSC_42_1 hi0) rfl (by decide) (o12_110 l1 u1) (o12_111 l1 u1) dX10_put_55 (fun w_41 e_42 => ?_)
      have q_43 : w_41.toInt = w_37.toInt := congrArg Int64.toInt (e_42.symm.trans (Eq.trans rfl u_40.2.1))
      rw [hQ]
      exact y_lret C0 h (Fr.up u_40.1 (rSC_42_1 hi0) (by decide)) trivial dX10_put_56
  · -- 9
    refine lv_lload_n C0.1 C0.2.1 dX10_put_12 rfl (lv_at hl 2 rfl) ?_
    refine y_l2iU C0 dX10_put_13 (fun v_44 => ?_)
    refine y_i2b C0 dX10_put_14 (fun v_45 e_46 e_47 => ?_)
    refine y_i2l C0 dX10_put_15 (fun w_48 e_49 => ?_)
    refine lv_goto (tgt := 49) C0.1 C0.2.1 dX10_put_16 (by decide) ?_
    refine y_last C0 h (rSC_42_1 hi0) rfl (by decide) (o12_110 l1 u1) (o12_111 l1 u1) dX10_put_49 (fun H locs ws_50 h u_51 => ?_)
    refine lv_aload_n C0.1 C0.2.1 dX10_put_50 rfl (lv_at hl 0 rfl) ?_
    refine tg_X10_values C0 h hi0 q_498 dX10_put_51 ?_
    refine lv_iload_n C0.1 C0.2.1 dX10_put_54 rfl (lv_at hl 1 rfl) ?_
    refine y_lald C0 h (rSC_42_1 hi0) rfl (by decide) (o12_110 l1 u1) (o12_111 l1 u1) dX10_put_55 (fun w_52 e_53 => ?_)
    have q_54 : w_52.toInt = w_48.toInt := congrArg Int64.toInt (e_53.symm.trans (Eq.trans rfl u_51.2.1))
    rw [hQ]
    exact y_lret C0 h (Fr.up u_51.1 (rSC_42_1 hi0) (by decide)) trivial dX10_put_56
set_option maxHeartbeats 4000000 in
set_option maxRecDepth 100000 in
theorem c_X10_asSmall (l : Launch) (G : GG) (Z : RZ) (ad : Nat → Nat) (ws0 : va_W) (hT : Ty G (SC tt) ad ws0) (i0 : Nat) (hi0 : Kd (SC tt) i0 42) (a1 : Int32) : Mq l yX10_asSmall cX10_asSmall 3 (some .int) 1 G Z [.ref (ad i0), .int a1] ws0 (PI G (SC tt) ad [] ws0 (fun r u => ((-1) ≤ r.toInt))) := by
  refine Mq.start (by decide) (Nat.le_of_ble_eq_true rfl) ?_
  intro p e s m below meth c A ls C0 hZ h hl
  have hl : lv_has ls 3 [(0, .ref (ad i0)), (1, .int a1)] := hl
  have h : Wt G (SC tt) ad A s s.heap [] ws0 := ⟨h, hT⟩
  obtain ⟨args, hargs⟩ : ∃ z, z = ([.ref (ad i0), .int a1] : List Value).toArray := ⟨_, rfl⟩
  rw [← hargs] at C0 ⊢
  have C0 : Cx p s m args meth c RX10 cX10_asSmall 3 (some .int) := C0
  obtain ⟨Q, hQ⟩ : ∃ z, z = MQ below ((PI G (SC tt) ad [] ws0 (fun r u => ((-1) ≤ r.toInt))) A) args s 0 0 A := ⟨_, rfl⟩
  rw [← hQ]
  refine lv_iload_n C0.1 C0.2.1 dX10_asSmall_0 rfl (lv_at hl 1 rfl) ?_
  refine y_if_lt (tgt := 12) C0 dX10_asSmall_1 (by decide) (fun c_1 => ?_) (fun c_1 => ?_)
  · -- 1
    refine y_c1 (n := (-1)) C0 (by decide) dX10_asSmall_12 (fun v_2 e_3 => ?_)
    rw [hQ]
    exact y_iret C0 h Fr.rf (o12_112 e_3) dX10_asSmall_13
  · -- 1
    refine lv_iload_n C0.1 C0.2.1 dX10_asSmall_4 rfl (lv_at hl 1 rfl) ?_
    refine lv_aload_n C0.1 C0.2.1 dX10_asSmall_5 rfl (lv_at hl 0 rfl) ?_
    refine tg_X10_size C0 h hi0 q_500 dX10_asSmall_6 (fun v_4 e_5 e_6 e_7 => ?_)
    refine y_icmp_lt (tgt := 14) C0 dX10_asSmall_9 (by decide) (fun c_8 => ?_) (fun c_8 => ?_)
    · -- 9
      refine lv_aload_n C0.1 C0.2.1 dX10_asSmall_14 rfl (lv_at hl 0 rfl) ?_
      refine tg_X10_values C0 h hi0 q_498 dX10_asSmall_15 ?_
      refine lv_iload_n C0.1 C0.2.1 dX10_asSmall_18 rfl (lv_at hl 1 rfl) ?_
      refine y_lald C0 h (rSC_42_1 hi0) rfl (by decide) (o12_113 c_1 e_6 e_7 c_8) (o12_114 c_1 e_6 e_7 c_8) dX10_asSmall_19 (fun w_9 e_10 => ?_)
      refine y_l2iU C0 dX10_asSmall_20 (fun v_11 => ?_)
      refine lv_istore_n (lv' := [(2, .int v_11), (0, .ref (ad i0)), (1, .int a1)]) C0.1 C0.2.1 dX10_asSmall_21 rfl hl (by decide) rfl (fun ls hl => ?_)
      refine lv_iload_n C0.1 C0.2.1 dX10_asSmall_22 rfl (lv_at hl 0 rfl) ?_
      refine y_if_lt (tgt := 42) C0 dX10_asSmall_23 (by decide) (fun c_12 => ?_) (fun c_12 => ?_)
      · -- 23
        refine y_c1 (n := (-1)) C0 (by decide) dX10_asSmall_42 (fun v_13 e_14 => ?_)
        rw [hQ]
        exact y_iret C0 h Fr.rf (o12_112 e_14) dX10_asSmall_43
      · -- 23
        refine lv_iload_n C0.1 C0.2.1 dX10_asSmall_26 rfl (lv_at hl 0 rfl) ?_
        refine y_i2l C0 dX10_asSmall_27 (fun w_15 e_16 => ?_)
        refine lv_aload_n C0.1 C0.2.1 dX10_asSmall_28 rfl (lv_at hl 1 rfl) ?_
        refine tg_X10_values C0 h hi0 q_498 dX10_asSmall_29 ?_
        refine lv_iload_n C0.1 C0.2.1 dX10_asSmall_32 rfl (lv_at hl 2 rfl) ?_
        refine y_lald C0 h (rSC_42_1 hi0) rfl (by decide) (o12_113 c_1 e_6 e_7 c_8) (o12_114 c_1 e_6 e_7 c_8) dX10_asSmall_33 (fun w_17 e_18 => ?_)
        have q_19 : w_17.toInt = w_9.toInt := congrArg Int64.toInt (e_18.symm.trans (Eq.trans rfl e_10))
        refine y_lcmp C0 dX10_asSmall_34 (fun v_20 e_21 => ?_)
        refine y_if_ne (tgt := 42) C0 dX10_asSmall_35 (by decide) (fun c_22 => ?_) (fun c_22 => ?_)
        · -- 35
          refine y_c1 (n := (-1)) C0 (by decide) dX10_asSmall_42 (fun v_23 e_24 => ?_)
          rw [hQ]
          exact y_iret C0 h Fr.rf (o12_112 e_24) dX10_asSmall_43
        · -- 35
          refine lv_iload_n C0.1 C0.2.1 dX10_asSmall_38 rfl (lv_at hl 0 rfl) ?_
          refine lv_goto (tgt := 43) C0.1 C0.2.1 dX10_asSmall_39 (by decide) ?_
          rw [hQ]
          exact y_iret C0 h Fr.rf (o12_115 c_12 e_16 q_19 e_21 c_22) dX10_asSmall_43
    · -- 9
      refine y_c1 (n := (-1)) C0 (by decide) dX10_asSmall_12 (fun v_25 e_26 => ?_)
      rw [hQ]
      exact y_iret C0 h Fr.rf (o12_112 e_26) dX10_asSmall_13
set_option maxHeartbeats 4000000 in
set_option maxRecDepth 100000 in
theorem c_X10_allBelow (l : Launch) (G : GG) (Z : RZ) (ad : Nat → Nat) (ws0 : va_W) (hT : Ty G (SC tt) ad ws0) (i0 : Nat) (hi0 : Kd (SC tt) i0 42) (a1 : Int32) : Mq l yX10_allBelow cX10_allBelow 3 (some .boolean) 1 G Z [.ref (ad i0), .int a1] ws0 (PI G (SC tt) ad [] ws0 (fun r u => (0 ≤ r.toInt) ∧ (r.toInt ≤ 1))) := by
  refine Mq.start (by decide) (Nat.le_of_ble_eq_true rfl) ?_
  intro p e s m below meth c A ls C0 hZ h hl
  have hl : lv_has ls 3 [(0, .ref (ad i0)), (1, .int a1)] := hl
  have h : Wt G (SC tt) ad A s s.heap [] ws0 := ⟨h, hT⟩
  obtain ⟨args, hargs⟩ : ∃ z, z = ([.ref (ad i0), .int a1] : List Value).toArray := ⟨_, rfl⟩
  rw [← hargs] at C0 ⊢
  have C0 : Cx p s m args meth c RX10 cX10_allBelow 3 (some .boolean) := C0
  obtain ⟨Q, hQ⟩ : ∃ z, z = MQ below ((PI G (SC tt) ad [] ws0 (fun r u => (0 ≤ r.toInt) ∧ (r.toInt ≤ 1))) A) args s 0 0 A := ⟨_, rfl⟩
  rw [← hQ]
  refine y_c1 (n := 0) C0 (by decide) dX10_allBelow_0 (fun v_1 e_2 => ?_)
  refine lv_istore_n (lv' := [(2, .int v_1), (0, .ref (ad i0)), (1, .int a1)]) C0.1 C0.2.1 dX10_allBelow_1 rfl hl (by decide) rfl (fun ls hl => ?_)
  have lp_6 : ∀ (n_8 : Nat) (x2_3 : Int32) (H : Heap) (locs : List Loc) (ls : Array Slot) (ws_4 : va_W), 40 - x2_3.toInt < (n_8 : Int) → 0 ≤ x2_3.toInt → x2_3.toInt ≤ 40 → Wt G (SC tt) ad A s H locs ws_4 → Fr (SC tt) [] ws0 ws_4 → lv_has ls 3 [(2, .int x2_3), (0, .ref (ad i0)), (1, .int a1)] → W p l e (rmd 1 0 0) s m args below meth c H locs 0 0 Q (F0 m 2 ls []) := by
    intro n_8
    induction n_8 with
    | zero => intro x2_3 H locs ls ws_4 hn_9 b_10 b_11 h hF_5 hl; exact ((o12_44 b_10 b_11 hn_9)).elim
    | succ n_8 ih_7 =>
      intro x2_3 H locs ls ws_4 hn_9 b_10 b_11 h hF_5 hl
      refine lv_iload_n C0.1 C0.2.1 dX10_allBelow_2 rfl (lv_at hl 0 rfl) ?_
      refine lv_aload_n C0.1 C0.2.1 dX10_allBelow_3 rfl (lv_at hl 1 rfl) ?_
      refine tg_X10_size C0 h hi0 q_500 dX10_allBelow_4 (fun v_12 e_13 e_14 e_15 => ?_)
      refine y_icmp_ge (tgt := 41) C0 dX10_allBelow_7 (by decide) (fun c_16 => ?_) (fun c_16 => ?_)
      · -- 7
        refine y_c1 (n := 1) C0 (by decide) dX10_allBelow_41 (fun v_17 e_18 => ?_)
        rw [hQ]
        exact y_zret C0 h (o12_116 e_18) (o12_117 e_18) hF_5 ⟨(o12_116 e_18), (o12_117 e_18)⟩ dX10_allBelow_42
      · -- 7
        refine lv_aload_n C0.1 C0.2.1 dX10_allBelow_10 rfl (lv_at hl 1 rfl) ?_
        refine tg_X10_values C0 h hi0 q_498 dX10_allBelow_11 ?_
        refine lv_iload_n C0.1 C0.2.1 dX10_allBelow_14 rfl (lv_at hl 0 rfl) ?_
        refine y_lald C0 h (rSC_42_1 hi0) rfl (by decide) (o12_118 b_10 b_11 hn_9 e_14 e_15 c_16) (o12_119 b_10 b_11 hn_9 e_14 e_15 c_16) dX10_allBelow_15 (fun w_19 e_20 => ?_)
        refine y_lc (v := 0) C0 (by decide) dX10_allBelow_16 (fun w_21 e_22 => ?_)
        refine y_lcmp C0 dX10_allBelow_17 (fun v_23 e_24 => ?_)
        refine y_if_lt (tgt := 33) C0 dX10_allBelow_18 (by decide) (fun c_25 => ?_) (fun c_25 => ?_)
        · -- 18
          refine y_c1 (n := 0) C0 (by decide) dX10_allBelow_33 (fun v_26 e_27 => ?_)
          rw [hQ]
          exact y_zret C0 h (o12_10 e_27) (o12_120 e_27) hF_5 ⟨(o12_10 e_27), (o12_120 e_27)⟩ dX10_allBelow_34
        · -- 18
          refine lv_aload_n C0.1 C0.2.1 dX10_allBelow_21 rfl (lv_at hl 1 rfl) ?_
          refine tg_X10_values C0 h hi0 q_498 dX10_allBelow_22 ?_
          refine lv_iload_n C0.1 C0.2.1 dX10_allBelow_25 rfl (lv_at hl 0 rfl) ?_
          refine y_lald C0 h (rSC_42_1 hi0) rfl (by decide) (o12_118 b_10 b_11 hn_9 e_14 e_15 c_16) (o12_119 b_10 b_11 hn_9 e_14 e_15 c_16) dX10_allBelow_26 (fun w_28 e_29 => ?_)
          have q_30 : w_28.toInt = w_19.toInt := congrArg Int64.toInt (e_29.symm.trans (Eq.trans rfl e_20))
          refine lv_iload_n C0.1 C0.2.1 dX10_allBelow_27 rfl (lv_at hl 2 rfl) ?_
          refine y_i2l C0 dX10_allBelow_28 (fun w_31 e_32 => ?_)
          refine y_lcmp C0 dX10_allBelow_29 (fun v_33 e_34 => ?_)
          refine y_if_lt (tgt := 35) C0 dX10_allBelow_30 (by decide) (fun c_35 => ?_) (fun c_35 => ?_)
          · -- 30
            refine y_inc (kp := 0) (n := 1) (fun v_36 => [(2, .int v_36), (0, .ref (ad i0)), (1, .int a1)]) C0 hl rfl (by decide) (by decide) (fun _ => rfl) (o12_121 b_10 b_11 hn_9 e_14 e_15 c_16 (le_min x2_3) (le_max x2_3) (le_min v_12) (le_max v_12)) (o12_122 b_10 b_11 hn_9 e_14 e_15 c_16 (le_min x2_3) (le_max x2_3) (le_min v_12) (le_max v_12)) dX10_allBelow_35 (fun v_36 ls e_37 hl => ?_)
            refine lv_goto (tgt := 2) C0.1 C0.2.1 dX10_allBelow_38 (by decide) ?_
            exact ih_7 v_36 _ _ _ _ (o12_123 b_10 b_11 hn_9 e_14 e_15 c_16 e_37) (o12_124 b_10 b_11 hn_9 e_14 e_15 c_16 e_37) (o12_125 b_10 b_11 hn_9 e_14 e_15 c_16 e_37) h hF_5 (lv_sub hl [0, 1, 2] rfl)
          · -- 30
            refine y_c1 (n := 0) C0 (by decide) dX10_allBelow_33 (fun v_38 e_39 => ?_)
            rw [hQ]
            exact y_zret C0 h (o12_10 e_39) (o12_120 e_39) hF_5 ⟨(o12_10 e_39), (o12_120 e_39)⟩ dX10_allBelow_34
  exact lp_6 ((40 - v_1.toInt + 1).toNat) v_1 _ _ _ _ (o12_52 e_2) (o12_10 e_2) (o12_53 e_2) h Fr.rf (lv_sub hl [0, 1, 2] rfl)
