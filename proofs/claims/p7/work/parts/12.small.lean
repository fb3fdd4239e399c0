theorem dJ6_bitCount_0f7a4_0 : decode cJ6_bitCount_0f7a4 0 = .ok (.iload_n 0, 1) := by decide +kernel
theorem dJ6_bitCount_0f7a4_1 : decode cJ6_bitCount_0f7a4 1 = .ok (.iload_n 0, 1) := by decide +kernel
theorem dJ6_bitCount_0f7a4_2 : decode cJ6_bitCount_0f7a4 2 = .ok (.iconst 1, 1) := by decide +kernel
theorem dJ6_bitCount_0f7a4_3 : decode cJ6_bitCount_0f7a4 3 = .ok (.iushr, 1) := by decide +kernel
theorem dJ6_bitCount_0f7a4_4 : decode cJ6_bitCount_0f7a4 4 = .ok (.ldc_w 265, 3) := by decide +kernel
theorem dJ6_bitCount_0f7a4_7 : decode cJ6_bitCount_0f7a4 7 = .ok (.iand, 1) := by decide +kernel
theorem dJ6_bitCount_0f7a4_8 : decode cJ6_bitCount_0f7a4 8 = .ok (.isub, 1) := by decide +kernel
theorem dJ6_bitCount_0f7a4_9 : decode cJ6_bitCount_0f7a4 9 = .ok (.istore_n 0, 1) := by decide +kernel
theorem dJ6_bitCount_0f7a4_10 : decode cJ6_bitCount_0f7a4 10 = .ok (.iload_n 0, 1) := by decide +kernel
theorem dJ6_bitCount_0f7a4_11 : decode cJ6_bitCount_0f7a4 11 = .ok (.ldc_w 266, 3) := by decide +kernel
theorem dJ6_bitCount_0f7a4_14 : decode cJ6_bitCount_0f7a4 14 = .ok (.iand, 1) := by decide +kernel
theorem dJ6_bitCount_0f7a4_15 : decode cJ6_bitCount_0f7a4 15 = .ok (.iload_n 0, 1) := by decide +kernel
theorem dJ6_bitCount_0f7a4_16 : decode cJ6_bitCount_0f7a4 16 = .ok (.iconst 2, 1) := by decide +kernel
theorem dJ6_bitCount_0f7a4_17 : decode cJ6_bitCount_0f7a4 17 = .ok (.iushr, 1) := by decide +kernel
theorem dJ6_bitCount_0f7a4_18 : decode cJ6_bitCount_0f7a4 18 = .ok (.ldc_w 266, 3) := by decide +kernel
theorem dJ6_bitCount_0f7a4_21 : decode cJ6_bitCount_0f7a4 21 = .ok (.iand, 1) := by decide +kernel
theorem dJ6_bitCount_0f7a4_22 : decode cJ6_bitCount_0f7a4 22 = .ok (.iadd, 1) := by decide +kernel
theorem dJ6_bitCount_0f7a4_23 : decode cJ6_bitCount_0f7a4 23 = .ok (.istore_n 0, 1) := by decide +kernel
theorem dJ6_bitCount_0f7a4_24 : decode cJ6_bitCount_0f7a4 24 = .ok (.iload_n 0, 1) := by decide +kernel
theorem dJ6_bitCount_0f7a4_25 : decode cJ6_bitCount_0f7a4 25 = .ok (.iload_n 0, 1) := by decide +kernel
theorem dJ6_bitCount_0f7a4_26 : decode cJ6_bitCount_0f7a4 26 = .ok (.iconst 4, 1) := by decide +kernel
theorem dJ6_bitCount_0f7a4_27 : decode cJ6_bitCount_0f7a4 27 = .ok (.iushr, 1) := by decide +kernel
theorem dJ6_bitCount_0f7a4_28 : decode cJ6_bitCount_0f7a4 28 = .ok (.iadd, 1) := by decide +kernel
theorem dJ6_bitCount_0f7a4_29 : decode cJ6_bitCount_0f7a4 29 = .ok (.ldc_w 267, 3) := by decide +kernel
theorem dJ6_bitCount_0f7a4_32 : decode cJ6_bitCount_0f7a4 32 = .ok (.iand, 1) := by decide +kernel
theorem dJ6_bitCount_0f7a4_33 : decode cJ6_bitCount_0f7a4 33 = .ok (.istore_n 0, 1) := by decide +kernel
theorem dJ6_bitCount_0f7a4_34 : decode cJ6_bitCount_0f7a4 34 = .ok (.iload_n 0, 1) := by decide +kernel
theorem dJ6_bitCount_0f7a4_35 : decode cJ6_bitCount_0f7a4 35 = .ok (.iload_n 0, 1) := by decide +kernel
theorem dJ6_bitCount_0f7a4_36 : decode cJ6_bitCount_0f7a4 36 = .ok (.bipush 8, 2) := by decide +kernel
theorem dJ6_bitCount_0f7a4_38 : decode cJ6_bitCount_0f7a4 38 = .ok (.iushr, 1) := by decide +kernel
theorem dJ6_bitCount_0f7a4_39 : decode cJ6_bitCount_0f7a4 39 = .ok (.iadd, 1) := by decide +kernel
theorem dJ6_bitCount_0f7a4_40 : decode cJ6_bitCount_0f7a4 40 = .ok (.istore_n 0, 1) := by decide +kernel
theorem dJ6_bitCount_0f7a4_41 : decode cJ6_bitCount_0f7a4 41 = .ok (.iload_n 0, 1) := by decide +kernel
theorem dJ6_bitCount_0f7a4_42 : decode cJ6_bitCount_0f7a4 42 = .ok (.iload_n 0, 1) := by decide +kernel
theorem dJ6_bitCount_0f7a4_43 : decode cJ6_bitCount_0f7a4 43 = .ok (.bipush 16, 2) := by decide +kernel
theorem dJ6_bitCount_0f7a4_45 : decode cJ6_bitCount_0f7a4 45 = .ok (.iushr, 1) := by decide +kernel
theorem dJ6_bitCount_0f7a4_46 : decode cJ6_bitCount_0f7a4 46 = .ok (.iadd, 1) := by decide +kernel
theorem dJ6_bitCount_0f7a4_47 : decode cJ6_bitCount_0f7a4 47 = .ok (.istore_n 0, 1) := by decide +kernel
theorem dJ6_bitCount_0f7a4_48 : decode cJ6_bitCount_0f7a4 48 = .ok (.iload_n 0, 1) := by decide +kernel
theorem dJ6_bitCount_0f7a4_49 : decode cJ6_bitCount_0f7a4 49 = .ok (.bipush 63, 2) := by decide +kernel
theorem dJ6_bitCount_0f7a4_51 : decode cJ6_bitCount_0f7a4 51 = .ok (.iand, 1) := by decide +kernel
theorem dJ6_bitCount_0f7a4_52 : decode cJ6_bitCount_0f7a4 52 = .ok (.ireturn, 1) := by decide +kernel
theorem dJ7_fill_53178_0 : decode cJ7_fill_53178 0 = .ok (.iconst 0, 1) := by decide +kernel
theorem dJ7_fill_53178_1 : decode cJ7_fill_53178 1 = .ok (.istore_n 2, 1) := by decide +kernel
theorem dJ7_fill_53178_2 : decode cJ7_fill_53178 2 = .ok (.aload_n 0, 1) := by decide +kernel
theorem dJ7_fill_53178_3 : decode cJ7_fill_53178 3 = .ok (.arraylength, 1) := by decide +kernel
theorem dJ7_fill_53178_4 : decode cJ7_fill_53178 4 = .ok (.istore_n 3, 1) := by decide +kernel
theorem dJ7_fill_53178_5 : decode cJ7_fill_53178 5 = .ok (.iload_n 2, 1) := by decide +kernel
theorem dJ7_fill_53178_6 : decode cJ7_fill_53178 6 = .ok (.iload_n 3, 1) := by decide +kernel
theorem dJ7_fill_53178_7 : decode cJ7_fill_53178 7 = .ok (.if_icmp .ge 13, 3) := by decide +kernel
theorem dJ7_fill_53178_10 : decode cJ7_fill_53178 10 = .ok (.aload_n 0, 1) := by decide +kernel
theorem dJ7_fill_53178_11 : decode cJ7_fill_53178 11 = .ok (.iload_n 2, 1) := by decide +kernel
theorem dJ7_fill_53178_12 : decode cJ7_fill_53178 12 = .ok (.iload_n 1, 1) := by decide +kernel
theorem dJ7_fill_53178_13 : decode cJ7_fill_53178 13 = .ok (.iastore, 1) := by decide +kernel
theorem dJ7_fill_53178_14 : decode cJ7_fill_53178 14 = .ok (.iinc 2 1, 3) := by decide +kernel
theorem dJ7_fill_53178_17 : decode cJ7_fill_53178 17 = .ok (.goto (-12), 3) := by decide +kernel
theorem dJ7_fill_53178_20 : decode cJ7_fill_53178 20 = .ok (.return_, 1) := by decide +kernel
theorem dJ7_fill_d0a16_0 : decode cJ7_fill_d0a16 0 = .ok (.iconst 0, 1) := by decide +kernel
theorem dJ7_fill_d0a16_1 : decode cJ7_fill_d0a16 1 = .ok (.istore_n 3, 1) := by decide +kernel
theorem dJ7_fill_d0a16_2 : decode cJ7_fill_d0a16 2 = .ok (.aload_n 0, 1) := by decide +kernel
theorem dJ7_fill_d0a16_3 : decode cJ7_fill_d0a16 3 = .ok (.arraylength, 1) := by decide +kernel
theorem dJ7_fill_d0a16_4 : decode cJ7_fill_d0a16 4 = .ok (.istore 4, 2) := by decide +kernel
theorem dJ7_fill_d0a16_6 : decode cJ7_fill_d0a16 6 = .ok (.iload_n 3, 1) := by decide +kernel
theorem dJ7_fill_d0a16_7 : decode cJ7_fill_d0a16 7 = .ok (.iload 4, 2) := by decide +kernel
theorem dJ7_fill_d0a16_9 : decode cJ7_fill_d0a16 9 = .ok (.if_icmp .ge 13, 3) := by decide +kernel
theorem dJ7_fill_d0a16_12 : decode cJ7_fill_d0a16 12 = .ok (.aload_n 0, 1) := by decide +kernel
theorem dJ7_fill_d0a16_13 : decode cJ7_fill_d0a16 13 = .ok (.iload_n 3, 1) := by decide +kernel
theorem dJ7_fill_d0a16_14 : decode cJ7_fill_d0a16 14 = .ok (.lload_n 1, 1) := by decide +kernel
theorem dJ7_fill_d0a16_15 : decode cJ7_fill_d0a16 15 = .ok (.lastore, 1) := by decide +kernel
theorem dJ7_fill_d0a16_16 : decode cJ7_fill_d0a16 16 = .ok (.iinc 3 1, 3) := by decide +kernel
theorem dJ7_fill_d0a16_19 : decode cJ7_fill_d0a16 19 = .ok (.goto (-13), 3) := by decide +kernel
theorem dJ7_fill_d0a16_22 : decode cJ7_fill_d0a16 22 = .ok (.return_, 1) := by decide +kernel
theorem dX10_allBelow_0 : decode cX10_allBelow 0 = .ok (.iconst 0, 1) := by decide +kernel
theorem dX10_allBelow_1 : decode cX10_allBelow 1 = .ok (.istore_n 2, 1) := by decide +kernel
theorem dX10_allBelow_2 : decode cX10_allBelow 2 = .ok (.iload_n 2, 1) := by decide +kernel
theorem dX10_allBelow_3 : decode cX10_allBelow 3 = .ok (.aload_n 0, 1) := by decide +kernel
theorem dX10_allBelow_4 : decode cX10_allBelow 4 = .ok (.getfield 15, 3) := by decide +kernel
theorem dX10_allBelow_7 : decode cX10_allBelow 7 = .ok (.if_icmp .ge 34, 3) := by decide +kernel
theorem dX10_allBelow_10 : decode cX10_allBelow 10 = .ok (.aload_n 0, 1) := by decide +kernel
theorem dX10_allBelow_11 : decode cX10_allBelow 11 = .ok (.getfield 11, 3) := by decide +kernel
theorem dX10_allBelow_14 : decode cX10_allBelow 14 = .ok (.iload_n 2, 1) := by decide +kernel
theorem dX10_allBelow_15 : decode cX10_allBelow 15 = .ok (.laload, 1) := by decide +kernel
theorem dX10_allBelow_16 : decode cX10_allBelow 16 = .ok (.lconst 0, 1) := by decide +kernel
theorem dX10_allBelow_17 : decode cX10_allBelow 17 = .ok (.lcmp, 1) := by decide +kernel
theorem dX10_allBelow_18 : decode cX10_allBelow 18 = .ok (.ifCond .lt 15, 3) := by decide +kernel
theorem dX10_allBelow_21 : decode cX10_allBelow 21 = .ok (.aload_n 0, 1) := by decide +kernel
theorem dX10_allBelow_22 : decode cX10_allBelow 22 = .ok (.getfield 11, 3) := by decide +kernel
theorem dX10_allBelow_25 : decode cX10_allBelow 25 = .ok (.iload_n 2, 1) := by decide +kernel
theorem dX10_allBelow_26 : decode cX10_allBelow 26 = .ok (.laload, 1) := by decide +kernel
theorem dX10_allBelow_27 : decode cX10_allBelow 27 = .ok (.iload_n 1, 1) := by decide +kernel
theorem dX10_allBelow_28 : decode cX10_allBelow 28 = .ok (.i2l, 1) := by decide +kernel
theorem dX10_allBelow_29 : decode cX10_allBelow 29 = .ok (.lcmp, 1) := by decide +kernel
theorem dX10_allBelow_30 : decode cX10_allBelow 30 = .ok (.ifCond .lt 5, 3) := by decide +kernel
theorem dX10_allBelow_33 : decode cX10_allBelow 33 = .ok (.iconst 0, 1) := by decide +kernel
theorem dX10_allBelow_34 : decode cX10_allBelow 34 = .ok (.ireturn, 1) := by decide +kernel
theorem dX10_allBelow_35 : decode cX10_allBelow 35 = .ok (.iinc 2 1, 3) := by decide +kernel
theorem dX10_allBelow_38 : decode cX10_allBelow 38 = .ok (.goto (-36), 3) := by decide +kernel
theorem dX10_allBelow_41 : decode cX10_allBelow 41 = .ok (.iconst 1, 1) := by decide +kernel
theorem dX10_allBelow_42 : decode cX10_allBelow 42 = .ok (.ireturn, 1) := by decide +kernel
theorem dX10_asSmall_0 : decode cX10_asSmall 0 = .ok (.iload_n 1, 1) := by decide +kernel
theorem dX10_asSmall_1 : decode cX10_asSmall 1 = .ok (.ifCond .lt 11, 3) := by decide +kernel
theorem dX10_asSmall_4 : decode cX10_asSmall 4 = .ok (.iload_n 1, 1) := by decide +kernel
theorem dX10_asSmall_5 : decode cX10_asSmall 5 = .ok (.aload_n 0, 1) := by decide +kernel
theorem dX10_asSmall_6 : decode cX10_asSmall 6 = .ok (.getfield 15, 3) := by decide +kernel
theorem dX10_asSmall_9 : decode cX10_asSmall 9 = .ok (.if_icmp .lt 5, 3) := by decide +kernel
theorem dX10_asSmall_12 : decode cX10_asSmall 12 = .ok (.iconst (-1), 1) := by decide +kernel
theorem dX10_asSmall_13 : decode cX10_asSmall 13 = .ok (.ireturn, 1) := by decide +kernel
theorem dX10_asSmall_14 : decode cX10_asSmall 14 = .ok (.aload_n 0, 1) := by decide +kernel
theorem dX10_asSmall_15 : decode cX10_asSmall 15 = .ok (.getfield 11, 3) := by decide +kernel
theorem dX10_asSmall_18 : decode cX10_asSmall 18 = .ok (.iload_n 1, 1) := by decide +kernel
theorem dX10_asSmall_19 : decode cX10_asSmall 19 = .ok (.laload, 1) := by decide +kernel
theorem dX10_asSmall_20 : decode cX10_asSmall 20 = .ok (.l2i, 1) := by decide +kernel
theorem dX10_asSmall_21 : decode cX10_asSmall 21 = .ok (.istore_n 2, 1) := by decide +kernel
theorem dX10_asSmall_22 : decode cX10_asSmall 22 = .ok (.iload_n 2, 1) := by decide +kernel
theorem dX10_asSmall_23 : decode cX10_asSmall 23 = .ok (.ifCond .lt 19, 3) := by decide +kernel
theorem dX10_asSmall_26 : decode cX10_asSmall 26 = .ok (.iload_n 2, 1) := by decide +kernel
theorem dX10_asSmall_27 : decode cX10_asSmall 27 = .ok (.i2l, 1) := by decide +kernel
theorem dX10_asSmall_28 : decode cX10_asSmall 28 = .ok (.aload_n 0, 1) := by decide +kernel
theorem dX10_asSmall_29 : decode cX10_asSmall 29 = .ok (.getfield 11, 3) := by decide +kernel
theorem dX10_asSmall_32 : decode cX10_asSmall 32 = .ok (.iload_n 1, 1) := by decide +kernel
theorem dX10_asSmall_33 : decode cX10_asSmall 33 = .ok (.laload, 1) := by decide +kernel
theorem dX10_asSmall_34 : decode cX10_asSmall 34 = .ok (.lcmp, 1) := by decide +kernel
theorem dX10_asSmall_35 : decode cX10_asSmall 35 = .ok (.ifCond .ne 7, 3) := by decide +kernel
theorem dX10_asSmall_38 : decode cX10_asSmall 38 = .ok (.iload_n 2, 1) := by decide +kernel
theorem dX10_asSmall_39 : decode cX10_asSmall 39 = .ok (.goto 4, 3) := by decide +kernel
theorem dX10_asSmall_42 : decode cX10_asSmall 42 = .ok (.iconst (-1), 1) := by decide +kernel
theorem dX10_asSmall_43 : decode cX10_asSmall 43 = .ok (.ireturn, 1) := by decide +kernel
theorem dX10_lay_0 : decode cX10_lay 0 = .ok (.aload_n 0, 1) := by decide +kernel
theorem dX10_lay_1 : decode cX10_lay 1 = .ok (.getfield 11, 3) := by decide +kernel
theorem dX10_lay_4 : decode cX10_lay 4 = .ok (.lconst 0, 1) := by decide +kernel
theorem dX10_lay_5 : decode cX10_lay 5 = .ok (.invokestatic 19, 3) := by decide +kernel
theorem dX10_lay_8 : decode cX10_lay 8 = .ok (.aload_n 0, 1) := by decide +kernel
theorem dX10_lay_9 : decode cX10_lay 9 = .ok (.iload_n 1, 1) := by decide +kernel
theorem dX10_lay_10 : decode cX10_lay 10 = .ok (.putfield 25, 3) := by decide +kernel
theorem dX10_lay_13 : decode cX10_lay 13 = .ok (.aload_n 0, 1) := by decide +kernel
theorem dX10_lay_14 : decode cX10_lay 14 = .ok (.iload_n 2, 1) := by decide +kernel
theorem dX10_lay_15 : decode cX10_lay 15 = .ok (.putfield 15, 3) := by decide +kernel
theorem dX10_lay_18 : decode cX10_lay 18 = .ok (.return_, 1) := by decide +kernel
theorem dX10_put_0 : decode cX10_put 0 = .ok (.aload_n 0, 1) := by decide +kernel
theorem dX10_put_1 : decode cX10_put 1 = .ok (.getfield 11, 3) := by decide +kernel
theorem dX10_put_4 : decode cX10_put 4 = .ok (.iload_n 1, 1) := by decide +kernel
theorem dX10_put_5 : decode cX10_put 5 = .ok (.aload_n 0, 1) := by decide +kernel
theorem dX10_put_6 : decode cX10_put 6 = .ok (.getfield 25, 3) := by decide +kernel
theorem dX10_put_9 : decode cX10_put 9 = .ok (.ifCond .ne 10, 3) := by decide +kernel
theorem dX10_put_12 : decode cX10_put 12 = .ok (.lload_n 2, 1) := by decide +kernel
theorem dX10_put_13 : decode cX10_put 13 = .ok (.l2i, 1) := by decide +kernel
theorem dX10_put_14 : decode cX10_put 14 = .ok (.i2b, 1) := by decide +kernel
theorem dX10_put_15 : decode cX10_put 15 = .ok (.i2l, 1) := by decide +kernel
theorem dX10_put_16 : decode cX10_put 16 = .ok (.goto 33, 3) := by decide +kernel
theorem dX10_put_19 : decode cX10_put 19 = .ok (.aload_n 0, 1) := by decide +kernel
theorem dX10_put_20 : decode cX10_put 20 = .ok (.getfield 25, 3) := by decide +kernel
theorem dX10_put_23 : decode cX10_put 23 = .ok (.iconst 1, 1) := by decide +kernel
theorem dX10_put_24 : decode cX10_put 24 = .ok (.if_icmp .ne 10, 3) := by decide +kernel
theorem dX10_put_27 : decode cX10_put 27 = .ok (.lload_n 2, 1) := by decide +kernel
theorem dX10_put_28 : decode cX10_put 28 = .ok (.l2i, 1) := by decide +kernel
theorem dX10_put_29 : decode cX10_put 29 = .ok (.i2s, 1) := by decide +kernel
theorem dX10_put_30 : decode cX10_put 30 = .ok (.i2l, 1) := by decide +kernel
theorem dX10_put_31 : decode cX10_put 31 = .ok (.goto 18, 3) := by decide +kernel
theorem dX10_put_34 : decode cX10_put 34 = .ok (.aload_n 0, 1) := by decide +kernel
theorem dX10_put_35 : decode cX10_put 35 = .ok (.getfield 25, 3) := by decide +kernel
theorem dX10_put_38 : decode cX10_put 38 = .ok (.iconst 2, 1) := by decide +kernel
theorem dX10_put_39 : decode cX10_put 39 = .ok (.if_icmp .ne 9, 3) := by decide +kernel
theorem dX10_put_42 : decode cX10_put 42 = .ok (.lload_n 2, 1) := by decide +kernel
theorem dX10_put_43 : decode cX10_put 43 = .ok (.l2i, 1) := by decide +kernel
theorem dX10_put_44 : decode cX10_put 44 = .ok (.i2l, 1) := by decide +kernel
theorem dX10_put_45 : decode cX10_put 45 = .ok (.goto 4, 3) := by decide +kernel
theorem dX10_put_48 : decode cX10_put 48 = .ok (.lload_n 2, 1) := by decide +kernel
theorem dX10_put_49 : decode cX10_put 49 = .ok (.lastore, 1) := by decide +kernel
theorem dX10_put_50 : decode cX10_put 50 = .ok (.aload_n 0, 1) := by decide +kernel
theorem dX10_put_51 : decode cX10_put 51 = .ok (.getfield 11, 3) := by decide +kernel
theorem dX10_put_54 : decode cX10_put 54 = .ok (.iload_n 1, 1) := by decide +kernel
theorem dX10_put_55 : decode cX10_put 55 = .ok (.laload, 1) := by decide +kernel
theorem dX10_put_56 : decode cX10_put 56 = .ok (.lreturn, 1) := by decide +kernel
theorem dX1_allLefts_0 : decode cX1_allLefts 0 = .ok (.iconst 0, 1) := by decide +kernel
theorem dX1_allLefts_1 : decode cX1_allLefts 1 = .ok (.istore_n 1, 1) := by decide +kernel
theorem dX1_allLefts_2 : decode cX1_allLefts 2 = .ok (.iconst 0, 1) := by decide +kernel
theorem dX1_allLefts_3 : decode cX1_allLefts 3 = .ok (.istore_n 2, 1) := by decide +kernel
theorem dX1_allLefts_4 : decode cX1_allLefts 4 = .ok (.iload_n 2, 1) := by decide +kernel
theorem dX1_allLefts_5 : decode cX1_allLefts 5 = .ok (.aload_n 0, 1) := by decide +kernel
theorem dX1_allLefts_6 : decode cX1_allLefts 6 = .ok (.getfield 39, 3) := by decide +kernel
theorem dX1_allLefts_9 : decode cX1_allLefts 9 = .ok (.if_icmp .ge 18, 3) := by decide +kernel
theorem dX1_allLefts_12 : decode cX1_allLefts 12 = .ok (.iload_n 1, 1) := by decide +kernel
theorem dX1_allLefts_13 : decode cX1_allLefts 13 = .ok (.aload_n 0, 1) := by decide +kernel
theorem dX1_allLefts_14 : decode cX1_allLefts 14 = .ok (.getfield 18, 3) := by decide +kernel
theorem dX1_allLefts_17 : decode cX1_allLefts 17 = .ok (.iload_n 2, 1) := by decide +kernel
theorem dX1_allLefts_18 : decode cX1_allLefts 18 = .ok (.iaload, 1) := by decide +kernel
theorem dX1_allLefts_19 : decode cX1_allLefts 19 = .ok (.iadd, 1) := by decide +kernel
theorem dX1_allLefts_20 : decode cX1_allLefts 20 = .ok (.istore_n 1, 1) := by decide +kernel
theorem dX1_allLefts_21 : decode cX1_allLefts 21 = .ok (.iinc 2 1, 3) := by decide +kernel
theorem dX1_allLefts_24 : decode cX1_allLefts 24 = .ok (.goto (-20), 3) := by decide +kernel
theorem dX1_allLefts_27 : decode cX1_allLefts 27 = .ok (.iload_n 1, 1) := by decide +kernel
theorem dX1_allLefts_28 : decode cX1_allLefts 28 = .ok (.ireturn, 1) := by decide +kernel
theorem dX1_allSold_0 : decode cX1_allSold 0 = .ok (.iconst 0, 1) := by decide +kernel
theorem dX1_allSold_1 : decode cX1_allSold 1 = .ok (.istore_n 1, 1) := by decide +kernel
theorem dX1_allSold_2 : decode cX1_allSold 2 = .ok (.iconst 0, 1) := by decide +kernel
theorem dX1_allSold_3 : decode cX1_allSold 3 = .ok (.istore_n 2, 1) := by decide +kernel
theorem dX1_allSold_4 : decode cX1_allSold 4 = .ok (.iload_n 2, 1) := by decide +kernel
theorem dX1_allSold_5 : decode cX1_allSold 5 = .ok (.bipush 25, 2) := by decide +kernel
theorem dX1_allSold_7 : decode cX1_allSold 7 = .ok (.if_icmp .ge 18, 3) := by decide +kernel
theorem dX1_allSold_10 : decode cX1_allSold 10 = .ok (.iload_n 1, 1) := by decide +kernel
theorem dX1_allSold_11 : decode cX1_allSold 11 = .ok (.aload_n 0, 1) := by decide +kernel
theorem dX1_allSold_12 : decode cX1_allSold 12 = .ok (.getfield 27, 3) := by decide +kernel
theorem dX1_allSold_15 : decode cX1_allSold 15 = .ok (.iload_n 2, 1) := by decide +kernel
theorem dX1_allSold_16 : decode cX1_allSold 16 = .ok (.iaload, 1) := by decide +kernel
theorem dX1_allSold_17 : decode cX1_allSold 17 = .ok (.iadd, 1) := by decide +kernel
theorem dX1_allSold_18 : decode cX1_allSold 18 = .ok (.istore_n 1, 1) := by decide +kernel
theorem dX1_allSold_19 : decode cX1_allSold 19 = .ok (.iinc 2 1, 3) := by decide +kernel
theorem dX1_allSold_22 : decode cX1_allSold 22 = .ok (.goto (-18), 3) := by decide +kernel
theorem dX1_allSold_25 : decode cX1_allSold 25 = .ok (.iload_n 1, 1) := by decide +kernel
theorem dX1_allSold_26 : decode cX1_allSold 26 = .ok (.ireturn, 1) := by decide +kernel
theorem dX1_clear_0 : decode cX1_clear 0 = .ok (.aload_n 0, 1) := by decide +kernel
theorem dX1_clear_1 : decode cX1_clear 1 = .ok (.getfield 24, 3) := by decide +kernel
theorem dX1_clear_4 : decode cX1_clear 4 = .ok (.iconst 0, 1) := by decide +kernel
theorem dX1_clear_5 : decode cX1_clear 5 = .ok (.invokestatic 33, 3) := by decide +kernel
theorem dX1_clear_8 : decode cX1_clear 8 = .ok (.aload_n 0, 1) := by decide +kernel
theorem dX1_clear_9 : decode cX1_clear 9 = .ok (.getfield 27, 3) := by decide +kernel
theorem dX1_clear_12 : decode cX1_clear 12 = .ok (.iconst 0, 1) := by decide +kernel
theorem dX1_clear_13 : decode cX1_clear 13 = .ok (.invokestatic 33, 3) := by decide +kernel
theorem dX1_clear_16 : decode cX1_clear 16 = .ok (.aload_n 0, 1) := by decide +kernel
theorem dX1_clear_17 : decode cX1_clear 17 = .ok (.getfield 30, 3) := by decide +kernel
theorem dX1_clear_20 : decode cX1_clear 20 = .ok (.iconst 0, 1) := by decide +kernel
theorem dX1_clear_21 : decode cX1_clear 21 = .ok (.invokestatic 33, 3) := by decide +kernel
theorem dX1_clear_24 : decode cX1_clear 24 = .ok (.aload_n 0, 1) := by decide +kernel
theorem dX1_clear_25 : decode cX1_clear 25 = .ok (.iconst 0, 1) := by decide +kernel
theorem dX1_clear_26 : decode cX1_clear 26 = .ok (.putfield 39, 3) := by decide +kernel
theorem dX1_clear_29 : decode cX1_clear 29 = .ok (.aload_n 0, 1) := by decide +kernel
theorem dX1_clear_30 : decode cX1_clear 30 = .ok (.iconst 0, 1) := by decide +kernel
theorem dX1_clear_31 : decode cX1_clear 31 = .ok (.putfield 43, 3) := by decide +kernel
theorem dX1_clear_34 : decode cX1_clear 34 = .ok (.return_, 1) := by decide +kernel
theorem dX1_copy_0 : decode cX1_copy 0 = .ok (.aload_n 1, 1) := by decide +kernel
theorem dX1_copy_1 : decode cX1_copy 1 = .ok (.getfield 9, 3) := by decide +kernel
theorem dX1_copy_4 : decode cX1_copy 4 = .ok (.iconst 0, 1) := by decide +kernel
theorem dX1_copy_5 : decode cX1_copy 5 = .ok (.aload_n 0, 1) := by decide +kernel
theorem dX1_copy_6 : decode cX1_copy 6 = .ok (.getfield 9, 3) := by decide +kernel
theorem dX1_copy_9 : decode cX1_copy 9 = .ok (.iconst 0, 1) := by decide +kernel
theorem dX1_copy_10 : decode cX1_copy 10 = .ok (.iconst 5, 1) := by decide +kernel
theorem dX1_copy_11 : decode cX1_copy 11 = .ok (.invokestatic 46, 3) := by decide +kernel
theorem dX1_copy_14 : decode cX1_copy 14 = .ok (.aload_n 1, 1) := by decide +kernel
theorem dX1_copy_15 : decode cX1_copy 15 = .ok (.getfield 15, 3) := by decide +kernel
theorem dX1_copy_18 : decode cX1_copy 18 = .ok (.iconst 0, 1) := by decide +kernel
theorem dX1_copy_19 : decode cX1_copy 19 = .ok (.aload_n 0, 1) := by decide +kernel
theorem dX1_copy_20 : decode cX1_copy 20 = .ok (.getfield 15, 3) := by decide +kernel
theorem dX1_copy_23 : decode cX1_copy 23 = .ok (.iconst 0, 1) := by decide +kernel
theorem dX1_copy_24 : decode cX1_copy 24 = .ok (.iconst 5, 1) := by decide +kernel
theorem dX1_copy_25 : decode cX1_copy 25 = .ok (.invokestatic 46, 3) := by decide +kernel
theorem dX1_copy_28 : decode cX1_copy 28 = .ok (.aload_n 1, 1) := by decide +kernel
theorem dX1_copy_29 : decode cX1_copy 29 = .ok (.getfield 18, 3) := by decide +kernel
theorem dX1_copy_32 : decode cX1_copy 32 = .ok (.iconst 0, 1) := by decide +kernel
theorem dX1_copy_33 : decode cX1_copy 33 = .ok (.aload_n 0, 1) := by decide +kernel
theorem dX1_copy_34 : decode cX1_copy 34 = .ok (.getfield 18, 3) := by decide +kernel
theorem dX1_copy_37 : decode cX1_copy 37 = .ok (.iconst 0, 1) := by decide +kernel
theorem dX1_copy_38 : decode cX1_copy 38 = .ok (.iconst 5, 1) := by decide +kernel
theorem dX1_copy_39 : decode cX1_copy 39 = .ok (.invokestatic 46, 3) := by decide +kernel
theorem dX1_copy_42 : decode cX1_copy 42 = .ok (.aload_n 1, 1) := by decide +kernel
theorem dX1_copy_43 : decode cX1_copy 43 = .ok (.getfield 21, 3) := by decide +kernel
theorem dX1_copy_46 : decode cX1_copy 46 = .ok (.iconst 0, 1) := by decide +kernel
theorem dX1_copy_47 : decode cX1_copy 47 = .ok (.aload_n 0, 1) := by decide +kernel
theorem dX1_copy_48 : decode cX1_copy 48 = .ok (.getfield 21, 3) := by decide +kernel
theorem dX1_copy_51 : decode cX1_copy 51 = .ok (.iconst 0, 1) := by decide +kernel
theorem dX1_copy_52 : decode cX1_copy 52 = .ok (.iconst 5, 1) := by decide +kernel
theorem dX1_copy_53 : decode cX1_copy 53 = .ok (.invokestatic 46, 3) := by decide +kernel
theorem dX1_copy_56 : decode cX1_copy 56 = .ok (.aload_n 1, 1) := by decide +kernel
theorem dX1_copy_57 : decode cX1_copy 57 = .ok (.getfield 24, 3) := by decide +kernel
theorem dX1_copy_60 : decode cX1_copy 60 = .ok (.iconst 0, 1) := by decide +kernel
theorem dX1_copy_61 : decode cX1_copy 61 = .ok (.aload_n 0, 1) := by decide +kernel
theorem dX1_copy_62 : decode cX1_copy 62 = .ok (.getfield 24, 3) := by decide +kernel
theorem dX1_copy_65 : decode cX1_copy 65 = .ok (.iconst 0, 1) := by decide +kernel
theorem dX1_copy_66 : decode cX1_copy 66 = .ok (.iconst 5, 1) := by decide +kernel
theorem dX1_copy_67 : decode cX1_copy 67 = .ok (.invokestatic 46, 3) := by decide +kernel
theorem dX1_copy_70 : decode cX1_copy 70 = .ok (.aload_n 1, 1) := by decide +kernel
theorem dX1_copy_71 : decode cX1_copy 71 = .ok (.getfield 27, 3) := by decide +kernel
theorem dX1_copy_74 : decode cX1_copy 74 = .ok (.iconst 0, 1) := by decide +kernel
theorem dX1_copy_75 : decode cX1_copy 75 = .ok (.aload_n 0, 1) := by decide +kernel
theorem dX1_copy_76 : decode cX1_copy 76 = .ok (.getfield 27, 3) := by decide +kernel
theorem dX1_copy_79 : decode cX1_copy 79 = .ok (.iconst 0, 1) := by decide +kernel
theorem dX1_copy_80 : decode cX1_copy 80 = .ok (.bipush 25, 2) := by decide +kernel
theorem dX1_copy_82 : decode cX1_copy 82 = .ok (.invokestatic 46, 3) := by decide +kernel
theorem dX1_copy_85 : decode cX1_copy 85 = .ok (.aload_n 1, 1) := by decide +kernel
theorem dX1_copy_86 : decode cX1_copy 86 = .ok (.getfield 30, 3) := by decide +kernel
theorem dX1_copy_89 : decode cX1_copy 89 = .ok (.iconst 0, 1) := by decide +kernel
theorem dX1_copy_90 : decode cX1_copy 90 = .ok (.aload_n 0, 1) := by decide +kernel
theorem dX1_copy_91 : decode cX1_copy 91 = .ok (.getfield 30, 3) := by decide +kernel
theorem dX1_copy_94 : decode cX1_copy 94 = .ok (.iconst 0, 1) := by decide +kernel
theorem dX1_copy_95 : decode cX1_copy 95 = .ok (.bipush 25, 2) := by decide +kernel
theorem dX1_copy_97 : decode cX1_copy 97 = .ok (.invokestatic 46, 3) := by decide +kernel
theorem dX1_copy_100 : decode cX1_copy 100 = .ok (.aload_n 0, 1) := by decide +kernel
theorem dX1_copy_101 : decode cX1_copy 101 = .ok (.aload_n 1, 1) := by decide +kernel
theorem dX1_copy_102 : decode cX1_copy 102 = .ok (.getfield 39, 3) := by decide +kernel
theorem dX1_copy_105 : decode cX1_copy 105 = .ok (.putfield 39, 3) := by decide +kernel
theorem dX1_copy_108 : decode cX1_copy 108 = .ok (.aload_n 0, 1) := by decide +kernel
theorem dX1_copy_109 : decode cX1_copy 109 = .ok (.aload_n 1, 1) := by decide +kernel
theorem dX1_copy_110 : decode cX1_copy 110 = .ok (.getfield 43, 3) := by decide +kernel
theorem dX1_copy_113 : decode cX1_copy 113 = .ok (.putfield 43, 3) := by decide +kernel
theorem dX1_copy_116 : decode cX1_copy 116 = .ok (.return_, 1) := by decide +kernel
theorem dX1_settle_0 : decode cX1_settle 0 = .ok (.aload_n 0, 1) := by decide +kernel
theorem dX1_settle_1 : decode cX1_settle 1 = .ok (.getfield 39, 3) := by decide +kernel
theorem dX1_settle_4 : decode cX1_settle 4 = .ok (.iconst 5, 1) := by decide +kernel
theorem dX1_settle_5 : decode cX1_settle 5 = .ok (.if_icmp .ge 54, 3) := by decide +kernel
theorem dX1_settle_8 : decode cX1_settle 8 = .ok (.aload_n 0, 1) := by decide +kernel
theorem dX1_settle_9 : decode cX1_settle 9 = .ok (.getfield 9, 3) := by decide +kernel
theorem dX1_settle_12 : decode cX1_settle 12 = .ok (.aload_n 0, 1) := by decide +kernel
theorem dX1_settle_13 : decode cX1_settle 13 = .ok (.getfield 39, 3) := by decide +kernel
theorem dX1_settle_16 : decode cX1_settle 16 = .ok (.iload_n 1, 1) := by decide +kernel
theorem dX1_settle_17 : decode cX1_settle 17 = .ok (.iastore, 1) := by decide +kernel
theorem dX1_settle_18 : decode cX1_settle 18 = .ok (.aload_n 0, 1) := by decide +kernel
theorem dX1_settle_19 : decode cX1_settle 19 = .ok (.getfield 15, 3) := by decide +kernel
theorem dX1_settle_22 : decode cX1_settle 22 = .ok (.aload_n 0, 1) := by decide +kernel
theorem dX1_settle_23 : decode cX1_settle 23 = .ok (.getfield 39, 3) := by decide +kernel
theorem dX1_settle_26 : decode cX1_settle 26 = .ok (.iload_n 2, 1) := by decide +kernel
theorem dX1_settle_27 : decode cX1_settle 27 = .ok (.iastore, 1) := by decide +kernel
theorem dX1_settle_28 : decode cX1_settle 28 = .ok (.aload_n 0, 1) := by decide +kernel
theorem dX1_settle_29 : decode cX1_settle 29 = .ok (.getfield 18, 3) := by decide +kernel
theorem dX1_settle_32 : decode cX1_settle 32 = .ok (.aload_n 0, 1) := by decide +kernel
theorem dX1_settle_33 : decode cX1_settle 33 = .ok (.getfield 39, 3) := by decide +kernel
theorem dX1_settle_36 : decode cX1_settle 36 = .ok (.iload_n 3, 1) := by decide +kernel
theorem dX1_settle_37 : decode cX1_settle 37 = .ok (.iastore, 1) := by decide +kernel
theorem dX1_settle_38 : decode cX1_settle 38 = .ok (.aload_n 0, 1) := by decide +kernel
theorem dX1_settle_39 : decode cX1_settle 39 = .ok (.getfield 21, 3) := by decide +kernel
theorem dX1_settle_42 : decode cX1_settle 42 = .ok (.aload_n 0, 1) := by decide +kernel
theorem dX1_settle_43 : decode cX1_settle 43 = .ok (.getfield 39, 3) := by decide +kernel
theorem dX1_settle_46 : decode cX1_settle 46 = .ok (.iload 4, 2) := by decide +kernel
theorem dX1_settle_48 : decode cX1_settle 48 = .ok (.iastore, 1) := by decide +kernel
theorem dX1_settle_49 : decode cX1_settle 49 = .ok (.aload_n 0, 1) := by decide +kernel
theorem dX1_settle_50 : decode cX1_settle 50 = .ok (.dup, 1) := by decide +kernel
theorem dX1_settle_51 : decode cX1_settle 51 = .ok (.getfield 39, 3) := by decide +kernel
theorem dX1_settle_54 : decode cX1_settle 54 = .ok (.iconst 1, 1) := by decide +kernel
theorem dX1_settle_55 : decode cX1_settle 55 = .ok (.iadd, 1) := by decide +kernel
theorem dX1_settle_56 : decode cX1_settle 56 = .ok (.putfield 39, 3) := by decide +kernel
theorem dX1_settle_59 : decode cX1_settle 59 = .ok (.return_, 1) := by decide +kernel
theorem dX1_stand_0 : decode cX1_stand 0 = .ok (.iconst 4, 1) := by decide +kernel
theorem dX1_stand_1 : decode cX1_stand 1 = .ok (.aload_n 0, 1) := by decide +kernel
theorem dX1_stand_2 : decode cX1_stand 2 = .ok (.getfield 9, 3) := by decide +kernel
theorem dX1_stand_5 : decode cX1_stand 5 = .ok (.iload_n 1, 1) := by decide +kernel
theorem dX1_stand_6 : decode cX1_stand 6 = .ok (.iaload, 1) := by decide +kernel
theorem dX1_stand_7 : decode cX1_stand 7 = .ok (.imul, 1) := by decide +kernel
theorem dX1_stand_8 : decode cX1_stand 8 = .ok (.aload_n 0, 1) := by decide +kernel
theorem dX1_stand_9 : decode cX1_stand 9 = .ok (.getfield 15, 3) := by decide +kernel
theorem dX1_stand_12 : decode cX1_stand 12 = .ok (.iload_n 1, 1) := by decide +kernel
theorem dX1_stand_13 : decode cX1_stand 13 = .ok (.iaload, 1) := by decide +kernel
theorem dX1_stand_14 : decode cX1_stand 14 = .ok (.iadd, 1) := by decide +kernel
theorem dX1_stand_15 : decode cX1_stand 15 = .ok (.ireturn, 1) := by decide +kernel
theorem o12_1 {x0 : Int} (h0 : 0 ≤ x0) (h1 : x0 ≤ 5) (h2 : 5 - x0 < 0) : False := by omega
theorem o12_2 {x0 : Int} (h0 : x0 = (5 : Nat)) : x0 = 5 := by omega
theorem o12_3 {x0 x1 : Int} {x2 : Nat} (h0 : x1 = (5 : Nat)) (h1 : 0 ≤ x0) (h2 : x0 ≤ 5) (h3 : 5 - x0 < ((x2 + 1 : Nat) : Int)) (h4 : x1 ≤ x0) : ¬ x0 < 5 := by omega
theorem o12_4 {x0 x1 : Int} {x2 : Nat} (h0 : x1 = (5 : Nat)) (h1 : 0 ≤ x0) (h2 : x0 ≤ 5) (h3 : 5 - x0 < ((x2 + 1 : Nat) : Int)) (h4 : x0 < x1) : x0 < 5 := by omega
theorem o12_5 {x0 x1 : Int} {x2 : Nat} (h0 : x1 = (5 : Nat)) (h1 : 0 ≤ x0) (h2 : x0 ≤ 5) (h3 : 5 - x0 < ((x2 + 1 : Nat) : Int)) (h4 : x0 < x1) : 0 ≤ x0 := by omega
theorem o12_6 {x0 x1 : Int} {x2 : Nat} (h0 : x1 = (5 : Nat)) (h1 : 0 ≤ x0) (h2 : x0 ≤ 5) (h3 : 5 - x0 < ((x2 + 1 : Nat) : Int)) (h4 : x0 < x1) : x0 < (5 : Nat) := by omega
theorem o12_7 {x0 : Int} (h0 : 0 ≤ x0) (h1 : x0 ≤ 0) : x0 = 0 := by omega
theorem o12_8 {x0 x1 : Int} {x2 : Nat} (h0 : x1 = (5 : Nat)) (h1 : 0 ≤ x0) (h2 : x0 ≤ 5) (h3 : 5 - x0 < ((x2 + 1 : Nat) : Int)) (h4 : x0 < x1) (h5 : -2147483648 ≤ x0) (h6 : x0 ≤ 2147483647) (h7 : -2147483648 ≤ x1) (h8 : x1 ≤ 2147483647) : -2147483648 ≤ x0 + 1 := by omega
theorem o12_9 {x0 x1 : Int} {x2 : Nat} (h0 : x1 = (5 : Nat)) (h1 : 0 ≤ x0) (h2 : x0 ≤ 5) (h3 : 5 - x0 < ((x2 + 1 : Nat) : Int)) (h4 : x0 < x1) (h5 : -2147483648 ≤ x0) (h6 : x0 ≤ 2147483647) (h7 : -2147483648 ≤ x1) (h8 : x1 ≤ 2147483647) : x0 + 1 ≤ 2147483647 := by omega
theorem o12_10 {x0 x2 x3 : Int} {x1 : Nat} (h0 : x2 = (5 : Nat)) (h1 : 0 ≤ x3) (h2 : x3 ≤ 5) (h3 : 5 - x3 < ((x1 + 1 : Nat) : Int)) (h4 : x3 < x2) (h5 : x0 = x3 + 1) : 5 - x0 < (x1 : Int) := by omega
theorem o12_11 {x0 x1 x2 : Int} {x3 : Nat} (h0 : x1 = (5 : Nat)) (h1 : 0 ≤ x2) (h2 : x2 ≤ 5) (h3 : 5 - x2 < ((x3 + 1 : Nat) : Int)) (h4 : x2 < x1) (h5 : x0 = x2 + 1) : 0 ≤ x0 := by omega
theorem o12_12 {x0 x1 x2 : Int} {x3 : Nat} (h0 : x1 = (5 : Nat)) (h1 : 0 ≤ x2) (h2 : x2 ≤ 5) (h3 : 5 - x2 < ((x3 + 1 : Nat) : Int)) (h4 : x2 < x1) (h5 : x0 = x2 + 1) : x0 ≤ 5 := by omega
theorem o12_13 {x0 : Int} (h0 : x0 = 0) : 5 - x0 < (((5 - x0 + 1).toNat : Nat) : Int) := by omega
theorem o12_14 {x0 : Int} (h0 : x0 = 0) : 0 ≤ x0 := by omega
theorem o12_15 {x0 : Int} (h0 : x0 = 0) : x0 ≤ 5 := by omega
theorem o12_16 {x0 : Int} (h0 : 0 ≤ x0) (h1 : x0 ≤ 25) (h2 : 25 - x0 < 0) : False := by omega
theorem o12_17 {x0 : Int} (h0 : x0 = (25 : Nat)) : x0 = 25 := by omega
theorem o12_18 {x0 x1 : Int} {x2 : Nat} (h0 : x1 = (25 : Nat)) (h1 : 0 ≤ x0) (h2 : x0 ≤ 25) (h3 : 25 - x0 < ((x2 + 1 : Nat) : Int)) (h4 : x1 ≤ x0) : ¬ x0 < 25 := by omega
theorem o12_19 {x0 x1 : Int} {x2 : Nat} (h0 : x1 = (25 : Nat)) (h1 : 0 ≤ x0) (h2 : x0 ≤ 25) (h3 : 25 - x0 < ((x2 + 1 : Nat) : Int)) (h4 : x0 < x1) : x0 < 25 := by omega
theorem o12_20 {x0 x1 : Int} {x2 : Nat} (h0 : x1 = (25 : Nat)) (h1 : 0 ≤ x0) (h2 : x0 ≤ 25) (h3 : 25 - x0 < ((x2 + 1 : Nat) : Int)) (h4 : x0 < x1) : 0 ≤ x0 := by omega
theorem o12_21 {x0 x1 : Int} {x2 : Nat} (h0 : x1 = (25 : Nat)) (h1 : 0 ≤ x0) (h2 : x0 ≤ 25) (h3 : 25 - x0 < ((x2 + 1 : Nat) : Int)) (h4 : x0 < x1) : x0 < (25 : Nat) := by omega
theorem o12_22 {x0 x1 : Int} {x2 : Nat} (h0 : x1 = (25 : Nat)) (h1 : 0 ≤ x0) (h2 : x0 ≤ 25) (h3 : 25 - x0 < ((x2 + 1 : Nat) : Int)) (h4 : x0 < x1) (h5 : -2147483648 ≤ x0) (h6 : x0 ≤ 2147483647) (h7 : -2147483648 ≤ x1) (h8 : x1 ≤ 2147483647) : -2147483648 ≤ x0 + 1 := by omega
theorem o12_23 {x0 x1 : Int} {x2 : Nat} (h0 : x1 = (25 : Nat)) (h1 : 0 ≤ x0) (h2 : x0 ≤ 25) (h3 : 25 - x0 < ((x2 + 1 : Nat) : Int)) (h4 : x0 < x1) (h5 : -2147483648 ≤ x0) (h6 : x0 ≤ 2147483647) (h7 : -2147483648 ≤ x1) (h8 : x1 ≤ 2147483647) : x0 + 1 ≤ 2147483647 := by omega
theorem o12_24 {x0 x2 x3 : Int} {x1 : Nat} (h0 : x2 = (25 : Nat)) (h1 : 0 ≤ x3) (h2 : x3 ≤ 25) (h3 : 25 - x3 < ((x1 + 1 : Nat) : Int)) (h4 : x3 < x2) (h5 : x0 = x3 + 1) : 25 - x0 < (x1 : Int) := by omega
theorem o12_25 {x0 x1 x2 : Int} {x3 : Nat} (h0 : x1 = (25 : Nat)) (h1 : 0 ≤ x2) (h2 : x2 ≤ 25) (h3 : 25 - x2 < ((x3 + 1 : Nat) : Int)) (h4 : x2 < x1) (h5 : x0 = x2 + 1) : 0 ≤ x0 := by omega
theorem o12_26 {x0 x1 x2 : Int} {x3 : Nat} (h0 : x1 = (25 : Nat)) (h1 : 0 ≤ x2) (h2 : x2 ≤ 25) (h3 : 25 - x2 < ((x3 + 1 : Nat) : Int)) (h4 : x2 < x1) (h5 : x0 = x2 + 1) : x0 ≤ 25 := by omega
theorem o12_27 {x0 : Int} (h0 : x0 = 0) : 25 - x0 < (((25 - x0 + 1).toNat : Nat) : Int) := by omega
theorem o12_28 {x0 : Int} (h0 : x0 = 0) : x0 ≤ 25 := by omega
theorem o12_29 {x0 : Int} (h0 : 0 ≤ x0) (h1 : x0 ≤ 121) (h2 : 121 - x0 < 0) : False := by omega
theorem o12_30 {x0 : Int} (h0 : x0 = (121 : Nat)) : x0 = 121 := by omega
theorem o12_31 {x0 x1 : Int} {x2 : Nat} (h0 : x1 = (121 : Nat)) (h1 : 0 ≤ x0) (h2 : x0 ≤ 121) (h3 : 121 - x0 < ((x2 + 1 : Nat) : Int)) (h4 : x1 ≤ x0) : ¬ x0 < 121 := by omega
theorem o12_32 {x0 x1 : Int} {x2 : Nat} (h0 : x1 = (121 : Nat)) (h1 : 0 ≤ x0) (h2 : x0 ≤ 121) (h3 : 121 - x0 < ((x2 + 1 : Nat) : Int)) (h4 : x0 < x1) : x0 < 121 := by omega
theorem o12_33 {x0 x1 : Int} {x2 : Nat} (h0 : x1 = (121 : Nat)) (h1 : 0 ≤ x0) (h2 : x0 ≤ 121) (h3 : 121 - x0 < ((x2 + 1 : Nat) : Int)) (h4 : x0 < x1) : 0 ≤ x0 := by omega
theorem o12_34 {x0 x1 : Int} {x2 : Nat} (h0 : x1 = (121 : Nat)) (h1 : 0 ≤ x0) (h2 : x0 ≤ 121) (h3 : 121 - x0 < ((x2 + 1 : Nat) : Int)) (h4 : x0 < x1) : x0 < (121 : Nat) := by omega
theorem o12_35 {x0 x1 : Int} {x2 : Nat} (h0 : x1 = (121 : Nat)) (h1 : 0 ≤ x0) (h2 : x0 ≤ 121) (h3 : 121 - x0 < ((x2 + 1 : Nat) : Int)) (h4 : x0 < x1) (h5 : -2147483648 ≤ x0) (h6 : x0 ≤ 2147483647) (h7 : -2147483648 ≤ x1) (h8 : x1 ≤ 2147483647) : -2147483648 ≤ x0 + 1 := by omega
theorem o12_36 {x0 x1 : Int} {x2 : Nat} (h0 : x1 = (121 : Nat)) (h1 : 0 ≤ x0) (h2 : x0 ≤ 121) (h3 : 121 - x0 < ((x2 + 1 : Nat) : Int)) (h4 : x0 < x1) (h5 : -2147483648 ≤ x0) (h6 : x0 ≤ 2147483647) (h7 : -2147483648 ≤ x1) (h8 : x1 ≤ 2147483647) : x0 + 1 ≤ 2147483647 := by omega
theorem o12_37 {x0 x2 x3 : Int} {x1 : Nat} (h0 : x2 = (121 : Nat)) (h1 : 0 ≤ x3) (h2 : x3 ≤ 121) (h3 : 121 - x3 < ((x1 + 1 : Nat) : Int)) (h4 : x3 < x2) (h5 : x0 = x3 + 1) : 121 - x0 < (x1 : Int) := by omega
theorem o12_38 {x0 x1 x2 : Int} {x3 : Nat} (h0 : x1 = (121 : Nat)) (h1 : 0 ≤ x2) (h2 : x2 ≤ 121) (h3 : 121 - x2 < ((x3 + 1 : Nat) : Int)) (h4 : x2 < x1) (h5 : x0 = x2 + 1) : 0 ≤ x0 := by omega
theorem o12_39 {x0 x1 x2 : Int} {x3 : Nat} (h0 : x1 = (121 : Nat)) (h1 : 0 ≤ x2) (h2 : x2 ≤ 121) (h3 : 121 - x2 < ((x3 + 1 : Nat) : Int)) (h4 : x2 < x1) (h5 : x0 = x2 + 1) : x0 ≤ 121 := by omega
theorem o12_40 {x0 : Int} (h0 : x0 = 0) : 121 - x0 < (((121 - x0 + 1).toNat : Nat) : Int) := by omega
theorem o12_41 {x0 : Int} (h0 : x0 = 0) : x0 ≤ 121 := by omega
theorem o12_42 {x0 : Int} (h0 : 0 ≤ x0) (h1 : x0 ≤ 100) (h2 : 100 - x0 < 0) : False := by omega
theorem o12_43 {x0 : Int} (h0 : x0 = (100 : Nat)) : x0 = 100 := by omega
theorem o12_44 {x0 x1 : Int} {x2 : Nat} (h0 : x1 = (100 : Nat)) (h1 : 0 ≤ x0) (h2 : x0 ≤ 100) (h3 : 100 - x0 < ((x2 + 1 : Nat) : Int)) (h4 : x1 ≤ x0) : ¬ x0 < 100 := by omega
theorem o12_45 {x0 x1 : Int} {x2 : Nat} (h0 : x1 = (100 : Nat)) (h1 : 0 ≤ x0) (h2 : x0 ≤ 100) (h3 : 100 - x0 < ((x2 + 1 : Nat) : Int)) (h4 : x0 < x1) : x0 < 100 := by omega
theorem o12_46 {x0 x1 : Int} {x2 : Nat} (h0 : x1 = (100 : Nat)) (h1 : 0 ≤ x0) (h2 : x0 ≤ 100) (h3 : 100 - x0 < ((x2 + 1 : Nat) : Int)) (h4 : x0 < x1) : 0 ≤ x0 := by omega
theorem o12_47 {x0 x1 : Int} {x2 : Nat} (h0 : x1 = (100 : Nat)) (h1 : 0 ≤ x0) (h2 : x0 ≤ 100) (h3 : 100 - x0 < ((x2 + 1 : Nat) : Int)) (h4 : x0 < x1) : x0 < (100 : Nat) := by omega
theorem o12_48 {x0 : Int} (h0 : (-1) ≤ x0) (h1 : x0 ≤ 40) : (-1) ≤ x0 := by omega
theorem o12_49 {x0 : Int} (h0 : (-1) ≤ x0) (h1 : x0 ≤ 40) : x0 ≤ 40 := by omega
theorem o12_50 {x0 x1 : Int} {x2 : Nat} (h0 : x1 = (100 : Nat)) (h1 : 0 ≤ x0) (h2 : x0 ≤ 100) (h3 : 100 - x0 < ((x2 + 1 : Nat) : Int)) (h4 : x0 < x1) (h5 : -2147483648 ≤ x0) (h6 : x0 ≤ 2147483647) (h7 : -2147483648 ≤ x1) (h8 : x1 ≤ 2147483647) : -2147483648 ≤ x0 + 1 := by omega
theorem o12_51 {x0 x1 : Int} {x2 : Nat} (h0 : x1 = (100 : Nat)) (h1 : 0 ≤ x0) (h2 : x0 ≤ 100) (h3 : 100 - x0 < ((x2 + 1 : Nat) : Int)) (h4 : x0 < x1) (h5 : -2147483648 ≤ x0) (h6 : x0 ≤ 2147483647) (h7 : -2147483648 ≤ x1) (h8 : x1 ≤ 2147483647) : x0 + 1 ≤ 2147483647 := by omega
theorem o12_52 {x0 x2 x3 : Int} {x1 : Nat} (h0 : x2 = (100 : Nat)) (h1 : 0 ≤ x3) (h2 : x3 ≤ 100) (h3 : 100 - x3 < ((x1 + 1 : Nat) : Int)) (h4 : x3 < x2) (h5 : x0 = x3 + 1) : 100 - x0 < (x1 : Int) := by omega
theorem o12_53 {x0 x1 x2 : Int} {x3 : Nat} (h0 : x1 = (100 : Nat)) (h1 : 0 ≤ x2) (h2 : x2 ≤ 100) (h3 : 100 - x2 < ((x3 + 1 : Nat) : Int)) (h4 : x2 < x1) (h5 : x0 = x2 + 1) : 0 ≤ x0 := by omega
theorem o12_54 {x0 x1 x2 : Int} {x3 : Nat} (h0 : x1 = (100 : Nat)) (h1 : 0 ≤ x2) (h2 : x2 ≤ 100) (h3 : 100 - x2 < ((x3 + 1 : Nat) : Int)) (h4 : x2 < x1) (h5 : x0 = x2 + 1) : x0 ≤ 100 := by omega
theorem o12_55 {x0 : Int} (h0 : x0 = 0) : 100 - x0 < (((100 - x0 + 1).toNat : Nat) : Int) := by omega
theorem o12_56 {x0 : Int} (h0 : x0 = 0) : x0 ≤ 100 := by omega
theorem o12_57 {x0 : Int} (h0 : 0 ≤ x0) (h1 : x0 ≤ 40) (h2 : 40 - x0 < 0) : False := by omega
theorem o12_58 {x0 : Int} (h0 : x0 = (40 : Nat)) : x0 = 40 := by omega
theorem o12_59 {x0 x1 : Int} {x2 : Nat} (h0 : x1 = (40 : Nat)) (h1 : 0 ≤ x0) (h2 : x0 ≤ 40) (h3 : 40 - x0 < ((x2 + 1 : Nat) : Int)) (h4 : x1 ≤ x0) : ¬ x0 < 40 := by omega
theorem o12_60 {x0 x1 : Int} {x2 : Nat} (h0 : x1 = (40 : Nat)) (h1 : 0 ≤ x0) (h2 : x0 ≤ 40) (h3 : 40 - x0 < ((x2 + 1 : Nat) : Int)) (h4 : x0 < x1) : x0 < 40 := by omega
theorem o12_61 {x0 x1 : Int} {x2 : Nat} (h0 : x1 = (40 : Nat)) (h1 : 0 ≤ x0) (h2 : x0 ≤ 40) (h3 : 40 - x0 < ((x2 + 1 : Nat) : Int)) (h4 : x0 < x1) : 0 ≤ x0 := by omega
theorem o12_62 {x0 x1 : Int} {x2 : Nat} (h0 : x1 = (40 : Nat)) (h1 : 0 ≤ x0) (h2 : x0 ≤ 40) (h3 : 40 - x0 < ((x2 + 1 : Nat) : Int)) (h4 : x0 < x1) : x0 < (40 : Nat) := by omega
theorem o12_63 {x0 x1 : Int} {x2 : Nat} (h0 : x1 = (40 : Nat)) (h1 : 0 ≤ x0) (h2 : x0 ≤ 40) (h3 : 40 - x0 < ((x2 + 1 : Nat) : Int)) (h4 : x0 < x1) (h5 : -2147483648 ≤ x0) (h6 : x0 ≤ 2147483647) (h7 : -2147483648 ≤ x1) (h8 : x1 ≤ 2147483647) : -2147483648 ≤ x0 + 1 := by omega
theorem o12_64 {x0 x1 : Int} {x2 : Nat} (h0 : x1 = (40 : Nat)) (h1 : 0 ≤ x0) (h2 : x0 ≤ 40) (h3 : 40 - x0 < ((x2 + 1 : Nat) : Int)) (h4 : x0 < x1) (h5 : -2147483648 ≤ x0) (h6 : x0 ≤ 2147483647) (h7 : -2147483648 ≤ x1) (h8 : x1 ≤ 2147483647) : x0 + 1 ≤ 2147483647 := by omega
theorem o12_65 {x0 x2 x3 : Int} {x1 : Nat} (h0 : x2 = (40 : Nat)) (h1 : 0 ≤ x3) (h2 : x3 ≤ 40) (h3 : 40 - x3 < ((x1 + 1 : Nat) : Int)) (h4 : x3 < x2) (h5 : x0 = x3 + 1) : 40 - x0 < (x1 : Int) := by omega
theorem o12_66 {x0 x1 x2 : Int} {x3 : Nat} (h0 : x1 = (40 : Nat)) (h1 : 0 ≤ x2) (h2 : x2 ≤ 40) (h3 : 40 - x2 < ((x3 + 1 : Nat) : Int)) (h4 : x2 < x1) (h5 : x0 = x2 + 1) : 0 ≤ x0 := by omega
theorem o12_67 {x0 x1 x2 : Int} {x3 : Nat} (h0 : x1 = (40 : Nat)) (h1 : 0 ≤ x2) (h2 : x2 ≤ 40) (h3 : 40 - x2 < ((x3 + 1 : Nat) : Int)) (h4 : x2 < x1) (h5 : x0 = x2 + 1) : x0 ≤ 40 := by omega
theorem o12_68 {x0 : Int} (h0 : x0 = 0) : 40 - x0 < (((40 - x0 + 1).toNat : Nat) : Int) := by omega
theorem o12_69 {x0 : Int} (h0 : x0 = 0) : x0 ≤ 40 := by omega
theorem o12_70 {x0 : Int} (h0 : x0 = 1) : x0 = 1 := by omega
theorem o12_71 {x0 : Int} (h0 : x0 = 2) : x0 = 2 := by omega
theorem o12_72 {x0 : Int} (h0 : x0 = 4) : x0 = 4 := by omega
theorem o12_73 {x0 : Int} (h0 : x0 = 8) : x0 = 8 := by omega
theorem o12_74 {x0 : Int} (h0 : x0 = 16) : x0 = 16 := by omega
theorem o12_75 {x0 : Int} (h0 : x0 = 63) : x0 = 63 := by omega
theorem o12_76 {x0 : Int} (h0 : 0 ≤ x0) (h1 : x0 ≤ 63) : 0 ≤ x0 := by omega
theorem o12_77 {x0 : Int} (h0 : 0 ≤ x0) (h1 : x0 ≤ 63) : x0 ≤ 63 := by omega
theorem o12_78 {x0 : Int} (h0 : x0 = 0) : x0 ≤ 0 := by omega
theorem o12_79 {x0 : Int} (h0 : x0 = 0) : x0 = 0 := by omega
theorem o12_80 {x0 : Int} (h0 : x0 = 5) : 0 ≤ x0 := by omega
theorem o12_81 {x0 : Int} (h0 : x0 = 5) : x0 ≤ (5 : Nat) := by omega
theorem o12_82 {x0 : Int} (h0 : x0 = 25) : 0 ≤ x0 := by omega
theorem o12_83 {x0 : Int} (h0 : x0 = 25) : x0 ≤ (25 : Nat) := by omega
theorem o12_84 {x0 : Int} (h0 : 0 ≤ x0) (h1 : x0 ≤ 5) : 0 ≤ x0 := by omega
theorem o12_85 {x0 : Int} (h0 : 0 ≤ x0) (h1 : x0 ≤ 5) : x0 ≤ 5 := by omega
theorem o12_86 {x0 : Int} (h0 : x0 = 5) : x0 = 5 := by omega
theorem o12_87 {x0 x1 : Int} (h0 : 0 ≤ x0) (h1 : x0 ≤ 5) (h2 : x1 = 5) (h3 : x1 ≤ x0) : ¬ x0 < 5 := by omega
theorem o12_88 {x0 x1 : Int} (h0 : 0 ≤ x0) (h1 : x0 ≤ 5) (h2 : x1 = 5) (h3 : x0 < x1) : x0 < 5 := by omega
theorem o12_89 {x0 x1 x2 : Int} (h0 : 0 ≤ x1) (h1 : x1 ≤ 5) (h2 : x2 = 5) (h3 : x1 < x2) (h4 : 0 ≤ x0) (h5 : x0 ≤ 5) (h6 : x0 = x1) : 0 ≤ x0 := by omega
theorem o12_90 {x0 x1 x2 : Int} (h0 : 0 ≤ x1) (h1 : x1 ≤ 5) (h2 : x2 = 5) (h3 : x1 < x2) (h4 : 0 ≤ x0) (h5 : x0 ≤ 5) (h6 : x0 = x1) : x0 < (5 : Nat) := by omega
theorem o12_91 {x0 : Int} (h0 : 0 ≤ x0) (h1 : x0 ≤ 24) : 0 ≤ x0 := by omega
theorem o12_92 {x0 : Int} (h0 : 0 ≤ x0) (h1 : x0 ≤ 24) : x0 ≤ 24 := by omega
theorem o12_93 {x0 x1 x2 x3 : Int} (h0 : 0 ≤ x1) (h1 : x1 ≤ 5) (h2 : x2 = 5) (h3 : x1 < x2) (h4 : 0 ≤ x3) (h5 : x3 ≤ 5) (h6 : x3 = x1) (h7 : 0 ≤ x0) (h8 : x0 ≤ 5) (h9 : x0 = x1) : 0 ≤ x0 := by omega
theorem o12_94 {x0 x1 x2 x3 : Int} (h0 : 0 ≤ x1) (h1 : x1 ≤ 5) (h2 : x2 = 5) (h3 : x1 < x2) (h4 : 0 ≤ x3) (h5 : x3 ≤ 5) (h6 : x3 = x1) (h7 : 0 ≤ x0) (h8 : x0 ≤ 5) (h9 : x0 = x1) : x0 < (5 : Nat) := by omega
theorem o12_95 {x0 : Int} (h0 : 0 ≤ x0) (h1 : x0 ≤ 3) : 0 ≤ x0 := by omega
theorem o12_96 {x0 : Int} (h0 : 0 ≤ x0) (h1 : x0 ≤ 3) : x0 ≤ 3 := by omega
theorem o12_97 {x0 x1 x2 x3 x4 : Int} (h0 : 0 ≤ x1) (h1 : x1 ≤ 5) (h2 : x2 = 5) (h3 : x1 < x2) (h4 : 0 ≤ x3) (h5 : x3 ≤ 5) (h6 : x3 = x1) (h7 : 0 ≤ x4) (h8 : x4 ≤ 5) (h9 : x4 = x1) (h10 : 0 ≤ x0) (h11 : x0 ≤ 5) (h12 : x0 = x1) : 0 ≤ x0 := by omega
theorem o12_98 {x0 x1 x2 x3 x4 : Int} (h0 : 0 ≤ x1) (h1 : x1 ≤ 5) (h2 : x2 = 5) (h3 : x1 < x2) (h4 : 0 ≤ x3) (h5 : x3 ≤ 5) (h6 : x3 = x1) (h7 : 0 ≤ x4) (h8 : x4 ≤ 5) (h9 : x4 = x1) (h10 : 0 ≤ x0) (h11 : x0 ≤ 5) (h12 : x0 = x1) : x0 < (5 : Nat) := by omega
theorem o12_99 {x0 x1 x2 x3 x4 x5 : Int} (h0 : 0 ≤ x1) (h1 : x1 ≤ 5) (h2 : x2 = 5) (h3 : x1 < x2) (h4 : 0 ≤ x3) (h5 : x3 ≤ 5) (h6 : x3 = x1) (h7 : 0 ≤ x4) (h8 : x4 ≤ 5) (h9 : x4 = x1) (h10 : 0 ≤ x5) (h11 : x5 ≤ 5) (h12 : x5 = x1) (h13 : 0 ≤ x0) (h14 : x0 ≤ 5) (h15 : x0 = x1) : 0 ≤ x0 := by omega
theorem o12_100 {x0 x1 x2 x3 x4 x5 : Int} (h0 : 0 ≤ x1) (h1 : x1 ≤ 5) (h2 : x2 = 5) (h3 : x1 < x2) (h4 : 0 ≤ x3) (h5 : x3 ≤ 5) (h6 : x3 = x1) (h7 : 0 ≤ x4) (h8 : x4 ≤ 5) (h9 : x4 = x1) (h10 : 0 ≤ x5) (h11 : x5 ≤ 5) (h12 : x5 = x1) (h13 : 0 ≤ x0) (h14 : x0 ≤ 5) (h15 : x0 = x1) : x0 < (5 : Nat) := by omega
theorem o12_101 {x0 x1 x2 x3 x4 x5 x6 x7 : Int} (h0 : 0 ≤ x2) (h1 : x2 ≤ 5) (h2 : x3 = 5) (h3 : x2 < x3) (h4 : 0 ≤ x4) (h5 : x4 ≤ 5) (h6 : x4 = x2) (h7 : 0 ≤ x5) (h8 : x5 ≤ 5) (h9 : x5 = x2) (h10 : 0 ≤ x6) (h11 : x6 ≤ 5) (h12 : x6 = x2) (h13 : 0 ≤ x7) (h14 : x7 ≤ 5) (h15 : x7 = x2) (h16 : 0 ≤ x0) (h17 : x0 ≤ 5) (h18 : x0 = x2) (h19 : x1 = 1) (h20 : -2147483648 ≤ x0) (h21 : x0 ≤ 2147483647) (h22 : -2147483648 ≤ x1) (h23 : x1 ≤ 2147483647) (h24 : -2147483648 ≤ x2) (h25 : x2 ≤ 2147483647) (h26 : -2147483648 ≤ x3) (h27 : x3 ≤ 2147483647) (h28 : -2147483648 ≤ x4) (h29 : x4 ≤ 2147483647) (h30 : -2147483648 ≤ x5) (h31 : x5 ≤ 2147483647) (h32 : -2147483648 ≤ x6) (h33 : x6 ≤ 2147483647) (h34 : -2147483648 ≤ x7) (h35 : x7 ≤ 2147483647) : -2147483648 ≤ x0 + x1 := by omega
theorem o12_102 {x0 x1 x2 x3 x4 x5 x6 x7 : Int} (h0 : 0 ≤ x2) (h1 : x2 ≤ 5) (h2 : x3 = 5) (h3 : x2 < x3) (h4 : 0 ≤ x4) (h5 : x4 ≤ 5) (h6 : x4 = x2) (h7 : 0 ≤ x5) (h8 : x5 ≤ 5) (h9 : x5 = x2) (h10 : 0 ≤ x6) (h11 : x6 ≤ 5) (h12 : x6 = x2) (h13 : 0 ≤ x7) (h14 : x7 ≤ 5) (h15 : x7 = x2) (h16 : 0 ≤ x0) (h17 : x0 ≤ 5) (h18 : x0 = x2) (h19 : x1 = 1) (h20 : -2147483648 ≤ x0) (h21 : x0 ≤ 2147483647) (h22 : -2147483648 ≤ x1) (h23 : x1 ≤ 2147483647) (h24 : -2147483648 ≤ x2) (h25 : x2 ≤ 2147483647) (h26 : -2147483648 ≤ x3) (h27 : x3 ≤ 2147483647) (h28 : -2147483648 ≤ x4) (h29 : x4 ≤ 2147483647) (h30 : -2147483648 ≤ x5) (h31 : x5 ≤ 2147483647) (h32 : -2147483648 ≤ x6) (h33 : x6 ≤ 2147483647) (h34 : -2147483648 ≤ x7) (h35 : x7 ≤ 2147483647) : x0 + x1 ≤ 2147483647 := by omega
theorem o12_103 {x0 x1 x2 x3 x4 x5 x6 x7 x8 : Int} (h0 : 0 ≤ x1) (h1 : x1 ≤ 5) (h2 : x2 = 5) (h3 : x1 < x2) (h4 : 0 ≤ x3) (h5 : x3 ≤ 5) (h6 : x3 = x1) (h7 : 0 ≤ x4) (h8 : x4 ≤ 5) (h9 : x4 = x1) (h10 : 0 ≤ x5) (h11 : x5 ≤ 5) (h12 : x5 = x1) (h13 : 0 ≤ x6) (h14 : x6 ≤ 5) (h15 : x6 = x1) (h16 : 0 ≤ x7) (h17 : x7 ≤ 5) (h18 : x7 = x1) (h19 : x8 = 1) (h20 : x0 = x7 + x8) : 0 ≤ x0 := by omega
theorem o12_104 {x0 x1 x2 x3 x4 x5 x6 x7 x8 : Int} (h0 : 0 ≤ x1) (h1 : x1 ≤ 5) (h2 : x2 = 5) (h3 : x1 < x2) (h4 : 0 ≤ x3) (h5 : x3 ≤ 5) (h6 : x3 = x1) (h7 : 0 ≤ x4) (h8 : x4 ≤ 5) (h9 : x4 = x1) (h10 : 0 ≤ x5) (h11 : x5 ≤ 5) (h12 : x5 = x1) (h13 : 0 ≤ x6) (h14 : x6 ≤ 5) (h15 : x6 = x1) (h16 : 0 ≤ x7) (h17 : x7 ≤ 5) (h18 : x7 = x1) (h19 : x8 = 1) (h20 : x0 = x7 + x8) : x0 ≤ 5 := by omega
theorem o12_105 {x0 : Int} (h0 : 0 ≤ x0) (h1 : x0 ≤ 4) : 0 ≤ x0 := by omega
theorem o12_106 {x0 : Int} (h0 : 0 ≤ x0) (h1 : x0 ≤ 4) : x0 < (5 : Nat) := by omega
theorem o12_107 {x0 : Int} (h0 : 0 ≤ x0) (h1 : x0 ≤ 24) (h2 : -2147483648 ≤ x0) (h3 : x0 ≤ 2147483647) : -2147483648 ≤ 4 * x0 := by omega
theorem o12_108 {x0 : Int} (h0 : 0 ≤ x0) (h1 : x0 ≤ 24) (h2 : -2147483648 ≤ x0) (h3 : x0 ≤ 2147483647) : 4 * x0 ≤ 2147483647 := by omega
theorem o12_109 {x0 x1 x2 : Int} (h0 : 0 ≤ x2) (h1 : x2 ≤ 24) (h2 : x0 = 4 * x2) (h3 : 0 ≤ x1) (h4 : x1 ≤ 3) (h5 : -2147483648 ≤ x0) (h6 : x0 ≤ 2147483647) (h7 : -2147483648 ≤ x1) (h8 : x1 ≤ 2147483647) (h9 : -2147483648 ≤ x2) (h10 : x2 ≤ 2147483647) : -2147483648 ≤ x0 + x1 := by omega
theorem o12_110 {x0 x1 x2 : Int} (h0 : 0 ≤ x2) (h1 : x2 ≤ 24) (h2 : x0 = 4 * x2) (h3 : 0 ≤ x1) (h4 : x1 ≤ 3) (h5 : -2147483648 ≤ x0) (h6 : x0 ≤ 2147483647) (h7 : -2147483648 ≤ x1) (h8 : x1 ≤ 2147483647) (h9 : -2147483648 ≤ x2) (h10 : x2 ≤ 2147483647) : x0 + x1 ≤ 2147483647 := by omega
theorem o12_111 {x0 x1 x2 x3 : Int} (h0 : 0 ≤ x1) (h1 : x1 ≤ 24) (h2 : x2 = 4 * x1) (h3 : 0 ≤ x3) (h4 : x3 ≤ 3) (h5 : x0 = x2 + x3) : 0 ≤ x0 := by omega
theorem o12_112 {x0 x1 x2 x3 : Int} (h0 : 0 ≤ x1) (h1 : x1 ≤ 24) (h2 : x2 = 4 * x1) (h3 : 0 ≤ x3) (h4 : x3 ≤ 3) (h5 : x0 = x2 + x3) : x0 ≤ 99 := by omega
theorem o12_113 {x0 : Int} (h0 : x0 = 25) : x0 = 25 := by omega
theorem o12_114 {x0 x2 : Int} {x1 : Nat} (h0 : 0 ≤ x0) (h1 : x0 ≤ 25) (h2 : 25 - x0 < ((x1 + 1 : Nat) : Int)) (h3 : x2 = 25) (h4 : x2 ≤ x0) : ¬ x0 < 25 := by omega
theorem o12_115 {x0 x2 : Int} {x1 : Nat} (h0 : 0 ≤ x0) (h1 : x0 ≤ 25) (h2 : 25 - x0 < ((x1 + 1 : Nat) : Int)) (h3 : x2 = 25) (h4 : x0 < x2) : x0 < 25 := by omega
theorem o12_116 {x0 x2 : Int} {x1 : Nat} (h0 : 0 ≤ x0) (h1 : x0 ≤ 25) (h2 : 25 - x0 < ((x1 + 1 : Nat) : Int)) (h3 : x2 = 25) (h4 : x0 < x2) : 0 ≤ x0 := by omega
theorem o12_117 {x0 x2 : Int} {x1 : Nat} (h0 : 0 ≤ x0) (h1 : x0 ≤ 25) (h2 : 25 - x0 < ((x1 + 1 : Nat) : Int)) (h3 : x2 = 25) (h4 : x0 < x2) : x0 < (25 : Nat) := by omega
theorem o12_118 {x0 x2 : Int} {x1 : Nat} (h0 : 0 ≤ x0) (h1 : x0 ≤ 25) (h2 : 25 - x0 < ((x1 + 1 : Nat) : Int)) (h3 : x2 = 25) (h4 : x0 < x2) (h5 : -2147483648 ≤ x0) (h6 : x0 ≤ 2147483647) (h7 : -2147483648 ≤ x2) (h8 : x2 ≤ 2147483647) : -2147483648 ≤ x0 + 1 := by omega
theorem o12_119 {x0 x2 : Int} {x1 : Nat} (h0 : 0 ≤ x0) (h1 : x0 ≤ 25) (h2 : 25 - x0 < ((x1 + 1 : Nat) : Int)) (h3 : x2 = 25) (h4 : x0 < x2) (h5 : -2147483648 ≤ x0) (h6 : x0 ≤ 2147483647) (h7 : -2147483648 ≤ x2) (h8 : x2 ≤ 2147483647) : x0 + 1 ≤ 2147483647 := by omega
theorem o12_120 {x0 x2 x3 : Int} {x1 : Nat} (h0 : 0 ≤ x2) (h1 : x2 ≤ 25) (h2 : 25 - x2 < ((x1 + 1 : Nat) : Int)) (h3 : x3 = 25) (h4 : x2 < x3) (h5 : x0 = x2 + 1) : 25 - x0 < (x1 : Int) := by omega
theorem o12_121 {x0 x1 x3 : Int} {x2 : Nat} (h0 : 0 ≤ x1) (h1 : x1 ≤ 25) (h2 : 25 - x1 < ((x2 + 1 : Nat) : Int)) (h3 : x3 = 25) (h4 : x1 < x3) (h5 : x0 = x1 + 1) : 0 ≤ x0 := by omega
theorem o12_122 {x0 x1 x3 : Int} {x2 : Nat} (h0 : 0 ≤ x1) (h1 : x1 ≤ 25) (h2 : 25 - x1 < ((x2 + 1 : Nat) : Int)) (h3 : x3 = 25) (h4 : x1 < x3) (h5 : x0 = x1 + 1) : x0 ≤ 25 := by omega
theorem o12_123 {x0 x2 : Int} {x1 : Nat} (h0 : 0 ≤ x0) (h1 : x0 ≤ 5) (h2 : 5 - x0 < ((x1 + 1 : Nat) : Int)) (h3 : 0 ≤ x2) (h4 : x2 ≤ 5) (h5 : x0 < x2) : 0 ≤ x0 := by omega
theorem o12_124 {x0 x2 : Int} {x1 : Nat} (h0 : 0 ≤ x0) (h1 : x0 ≤ 5) (h2 : 5 - x0 < ((x1 + 1 : Nat) : Int)) (h3 : 0 ≤ x2) (h4 : x2 ≤ 5) (h5 : x0 < x2) : x0 < (5 : Nat) := by omega
theorem o12_125 {x0 x2 : Int} {x1 : Nat} (h0 : 0 ≤ x0) (h1 : x0 ≤ 5) (h2 : 5 - x0 < ((x1 + 1 : Nat) : Int)) (h3 : 0 ≤ x2) (h4 : x2 ≤ 5) (h5 : x0 < x2) (h6 : -2147483648 ≤ x0) (h7 : x0 ≤ 2147483647) (h8 : -2147483648 ≤ x2) (h9 : x2 ≤ 2147483647) : -2147483648 ≤ x0 + 1 := by omega
theorem o12_126 {x0 x2 : Int} {x1 : Nat} (h0 : 0 ≤ x0) (h1 : x0 ≤ 5) (h2 : 5 - x0 < ((x1 + 1 : Nat) : Int)) (h3 : 0 ≤ x2) (h4 : x2 ≤ 5) (h5 : x0 < x2) (h6 : -2147483648 ≤ x0) (h7 : x0 ≤ 2147483647) (h8 : -2147483648 ≤ x2) (h9 : x2 ≤ 2147483647) : x0 + 1 ≤ 2147483647 := by omega
theorem o12_127 {x0 x2 x3 : Int} {x1 : Nat} (h0 : 0 ≤ x2) (h1 : x2 ≤ 5) (h2 : 5 - x2 < ((x1 + 1 : Nat) : Int)) (h3 : 0 ≤ x3) (h4 : x3 ≤ 5) (h5 : x2 < x3) (h6 : x0 = x2 + 1) : 5 - x0 < (x1 : Int) := by omega
theorem o12_128 {x0 x1 x3 : Int} {x2 : Nat} (h0 : 0 ≤ x1) (h1 : x1 ≤ 5) (h2 : 5 - x1 < ((x2 + 1 : Nat) : Int)) (h3 : 0 ≤ x3) (h4 : x3 ≤ 5) (h5 : x1 < x3) (h6 : x0 = x1 + 1) : 0 ≤ x0 := by omega
theorem o12_129 {x0 x1 x3 : Int} {x2 : Nat} (h0 : 0 ≤ x1) (h1 : x1 ≤ 5) (h2 : 5 - x1 < ((x2 + 1 : Nat) : Int)) (h3 : 0 ≤ x3) (h4 : x3 ≤ 5) (h5 : x1 < x3) (h6 : x0 = x1 + 1) : x0 ≤ 5 := by omega
theorem o12_130 {x0 : Int} (h0 : 0 ≤ x0) (h1 : x0 ≤ 40) : (-1) ≤ x0 := by omega
theorem o12_131 {x0 : Int} (h0 : 0 ≤ x0) (h1 : x0 ≤ 40) : x0 ≤ 40 := by omega
theorem o12_132 {x0 x1 x2 : Int} (h0 : ¬ x1 = 0) (h1 : x0 = x1) (h2 : x2 = 1) (h3 : ¬ x0 = x2) : ¬ x0 = 1 := by omega
theorem o12_133 {x0 x1 x2 : Int} (h0 : ¬ x1 = 0) (h1 : x0 = x1) (h2 : x2 = 1) (h3 : x0 = x2) : x0 = 1 := by omega
theorem o12_134 {x0 x1 x2 x3 x4 : Int} (h0 : ¬ x1 = 0) (h1 : x2 = x1) (h2 : x3 = 1) (h3 : ¬ x2 = x3) (h4 : x0 = x1) (h5 : x4 = 2) (h6 : ¬ x0 = x4) : ¬ x0 = 2 := by omega
theorem o12_135 {x0 x1 x2 x3 x4 : Int} (h0 : ¬ x1 = 0) (h1 : x2 = x1) (h2 : x3 = 1) (h3 : ¬ x2 = x3) (h4 : x0 = x1) (h5 : x4 = 2) (h6 : x0 = x4) : x0 = 2 := by omega
theorem o12_136 {x0 : Int} (h0 : 0 ≤ x0) (h1 : x0 ≤ 39) : 0 ≤ x0 := by omega
theorem o12_137 {x0 : Int} (h0 : 0 ≤ x0) (h1 : x0 ≤ 39) : x0 < (40 : Nat) := by omega
theorem o12_138 {x0 : Int} (h0 : x0 = (-1)) : (-1) ≤ x0 := by omega
theorem o12_139 {x0 x1 : Int} (h0 : 0 ≤ x0) (h1 : (-1) ≤ x1) (h2 : x1 ≤ 40) (h3 : x0 < x1) : 0 ≤ x0 := by omega
theorem o12_140 {x0 x1 : Int} (h0 : 0 ≤ x0) (h1 : (-1) ≤ x1) (h2 : x1 ≤ 40) (h3 : x0 < x1) : x0 < (40 : Nat) := by omega
theorem o12_141 {x0 x1 x2 x3 x4 : Int} (h0 : 0 ≤ x0) (h1 : x1 = x0) (h2 : x2 = x3) (h3 : ((x4 = -1 ∧ x1 < x2) ∨ (x4 = 0 ∧ x1 = x2) ∨ (x4 = 1 ∧ x2 < x1))) (h4 : x4 = 0) : (-1) ≤ x0 := by omega
theorem o12_142 {x0 : Int} (h0 : x0 = 1) : 0 ≤ x0 := by omega
theorem o12_143 {x0 : Int} (h0 : x0 = 1) : x0 ≤ 1 := by omega
theorem o12_144 {x0 x2 : Int} {x1 : Nat} (h0 : 0 ≤ x0) (h1 : x0 ≤ 40) (h2 : 40 - x0 < ((x1 + 1 : Nat) : Int)) (h3 : (-1) ≤ x2) (h4 : x2 ≤ 40) (h5 : x0 < x2) : 0 ≤ x0 := by omega
theorem o12_145 {x0 x2 : Int} {x1 : Nat} (h0 : 0 ≤ x0) (h1 : x0 ≤ 40) (h2 : 40 - x0 < ((x1 + 1 : Nat) : Int)) (h3 : (-1) ≤ x2) (h4 : x2 ≤ 40) (h5 : x0 < x2) : x0 < (40 : Nat) := by omega
theorem o12_146 {x0 : Int} (h0 : x0 = 0) : x0 ≤ 1 := by omega
theorem o12_147 {x0 x2 : Int} {x1 : Nat} (h0 : 0 ≤ x0) (h1 : x0 ≤ 40) (h2 : 40 - x0 < ((x1 + 1 : Nat) : Int)) (h3 : (-1) ≤ x2) (h4 : x2 ≤ 40) (h5 : x0 < x2) (h6 : -2147483648 ≤ x0) (h7 : x0 ≤ 2147483647) (h8 : -2147483648 ≤ x2) (h9 : x2 ≤ 2147483647) : -2147483648 ≤ x0 + 1 := by omega
theorem o12_148 {x0 x2 : Int} {x1 : Nat} (h0 : 0 ≤ x0) (h1 : x0 ≤ 40) (h2 : 40 - x0 < ((x1 + 1 : Nat) : Int)) (h3 : (-1) ≤ x2) (h4 : x2 ≤ 40) (h5 : x0 < x2) (h6 : -2147483648 ≤ x0) (h7 : x0 ≤ 2147483647) (h8 : -2147483648 ≤ x2) (h9 : x2 ≤ 2147483647) : x0 + 1 ≤ 2147483647 := by omega
theorem o12_149 {x0 x2 x3 : Int} {x1 : Nat} (h0 : 0 ≤ x2) (h1 : x2 ≤ 40) (h2 : 40 - x2 < ((x1 + 1 : Nat) : Int)) (h3 : (-1) ≤ x3) (h4 : x3 ≤ 40) (h5 : x2 < x3) (h6 : x0 = x2 + 1) : 40 - x0 < (x1 : Int) := by omega
theorem o12_150 {x0 x1 x3 : Int} {x2 : Nat} (h0 : 0 ≤ x1) (h1 : x1 ≤ 40) (h2 : 40 - x1 < ((x2 + 1 : Nat) : Int)) (h3 : (-1) ≤ x3) (h4 : x3 ≤ 40) (h5 : x1 < x3) (h6 : x0 = x1 + 1) : 0 ≤ x0 := by omega
theorem o12_151 {x0 x1 x3 : Int} {x2 : Nat} (h0 : 0 ≤ x1) (h1 : x1 ≤ 40) (h2 : 40 - x1 < ((x2 + 1 : Nat) : Int)) (h3 : (-1) ≤ x3) (h4 : x3 ≤ 40) (h5 : x1 < x3) (h6 : x0 = x1 + 1) : x0 ≤ 40 := by omega
noncomputable def g4_J7_fill_53178_11 (s : XS) : XR := (s, 0)
noncomputable def g6w_J7_fill_53178_11 (R5 : XS → Nat → Int → XR) (s : XS) (i0 : Nat) (x2_5 : Int) : XR := R5 s i0 ((x2_5 + 1))
noncomputable def g5_J7_fill_53178_11 (R5 : XS → Nat → Int → XR) (s : XS) (i0 : Nat) (x2_5 : Int) : XR := g6w_J7_fill_53178_11 R5 (xup s 1 i0 (Int.toNat x2_5) (0)) i0 x2_5
noncomputable def g3b_J7_fill_53178_11 (R5 : XS → Nat → Int → XR) (s : XS) (x2_5 : Int) (i0 : Nat) : XR := if x2_5 < 5 then g5_J7_fill_53178_11 R5 s i0 x2_5 else g4_J7_fill_53178_11 s
noncomputable def g2l_J7_fill_53178_11 (R5 : XS → Nat → Int → XR) (s : XS) (i0 : Nat) (x2_5 : Int) : XR := g3b_J7_fill_53178_11 R5 s x2_5 i0
noncomputable def L1_J7_fill_53178_11 (n : Nat) : XS → Nat → Int → XR := Nat.rec (motive := fun _ => XS → Nat → Int → XR) (fun s _ _ => (s, 0)) (fun _ R5 => g2l_J7_fill_53178_11 R5) n
noncomputable def f_J7_fill_53178_11 (s : XS) (i0 : Nat) (a1 : Int) : XR := L1_J7_fill_53178_11 (Int.toNat (5 - 0 + 1)) s i0 0
set_option maxHeartbeats 4000000 in
set_option maxRecDepth 100000 in
theorem c_J7_fill_53178_11 (l : Launch) (G : GG) (Z : RZ) (ad : Nat → Nat) (ws0 : va_W) (hT : Ty G SC ad ws0) (i0 : Nat) (hi0 : Kd SC i0 11) (a1 : Int32) (l1 : 0 ≤ a1.toInt) (u1 : a1.toInt ≤ 0) : Mq l yJ7_fill_53178 cJ7_fill_53178 4 none 1 G Z [.ref (ad i0), .int a1] ws0 (PV G SC ad [11] ws0 (fun u => (xso SC ad u = (f_J7_fill_53178_11 (xso SC ad ws0) i0 a1.toInt).1))) := by
  refine Mq.start (by decide) (Nat.le_of_ble_eq_true rfl) ?_
  intro p e s m below meth c A ls C0 hZ h hl
  have hl : lv_has ls 4 [(0, .ref (ad i0)), (1, .int a1)] := hl
  have h : Wt G SC ad A s s.heap [] ws0 := ⟨h, hT⟩
  obtain ⟨args, hargs⟩ : ∃ z, z = ([.ref (ad i0), .int a1] : List Value).toArray := ⟨_, rfl⟩
  rw [← hargs] at C0 ⊢
  have C0 : Cx p s m args meth c RJ7 cJ7_fill_53178 4 none := C0
  obtain ⟨Q, hQ⟩ : ∃ z, z = MQ below ((PV G SC ad [11] ws0 (fun u => (xso SC ad u = (f_J7_fill_53178_11 (xso SC ad ws0) i0 a1.toInt).1))) A) args s 0 0 A := ⟨_, rfl⟩
  rw [← hQ]
  obtain ⟨FT, hFT⟩ : ∃ z, z = f_J7_fill_53178_11 (xso SC ad ws0) i0 a1.toInt := ⟨_, rfl⟩
  have HE : FT = f_J7_fill_53178_11 (xso SC ad ws0) i0 a1.toInt := hFT
  refine y_c1 (n := 0) C0 (by decide) dJ7_fill_53178_0 (fun v_1 e_2 => ?_)
  refine lv_istore_n (lv' := [(2, .int v_1), (0, .ref (ad i0)), (1, .int a1)]) C0.1 C0.2.1 dJ7_fill_53178_1 rfl hl (by decide) rfl (fun ls hl => ?_)
  refine lv_aload_n C0.1 C0.2.1 dJ7_fill_53178_2 rfl (lv_at hl 1 rfl) ?_
  refine y_alenI (cA := G.2 0) C0 h hi0 rfl rfl (by decide) dJ7_fill_53178_3 (fun v_3 e_4 => ?_)
  refine lv_istore_n (lv' := [(3, .int v_3), (2, .int v_1), (0, .ref (ad i0)), (1, .int a1)]) C0.1 C0.2.1 dJ7_fill_53178_4 rfl hl (by decide) rfl (fun ls hl => ?_)
  have lp_8 : ∀ (n_10 : Nat) (x2_5 : Int32) (H : Heap) (locs : List Loc) (ls : Array Slot) (ws_6 : va_W), 5 - x2_5.toInt < (n_10 : Int) → 0 ≤ x2_5.toInt → x2_5.toInt ≤ 5 → (FT = L1_J7_fill_53178_11 n_10 (xso SC ad ws_6) i0 x2_5.toInt) → Wt G SC ad A s H locs ws_6 → Fr SC [11] ws0 ws_6 → lv_has ls 4 [(3, .int v_3), (2, .int x2_5), (0, .ref (ad i0)), (1, .int a1)] → W p l e (rmd 1 0 0) s m args below meth c H locs 0 0 Q (F0 m 5 ls []) := by
    intro n_10
    induction n_10 with
    | zero => intro x2_5 H locs ls ws_6 hn_11 b_12 b_13 HE h hF_7 hl; exact ((o12_1 b_12 b_13 hn_11)).elim
    | succ n_10 ih_9 =>
      intro x2_5 H locs ls ws_6 hn_11 b_12 b_13 HE h hF_7 hl
      obtain ⟨R5, hR5⟩ : ∃ z, z = L1_J7_fill_53178_11 n_10 := ⟨_, rfl⟩
      replace HE : FT = g2l_J7_fill_53178_11 R5 (xso SC ad ws_6) i0 x2_5.toInt := HE.trans (by rw [hR5]; rfl)
      refine lv_iload_n C0.1 C0.2.1 dJ7_fill_53178_5 rfl (lv_at hl 1 rfl) ?_
      refine lv_iload_n C0.1 C0.2.1 dJ7_fill_53178_6 rfl (lv_at hl 0 rfl) ?_
      replace HE : FT = g3b_J7_fill_53178_11 R5 (xso SC ad ws_6) x2_5.toInt i0 := HE.trans rfl
      refine y_icmp_ge (tgt := 20) C0 dJ7_fill_53178_7 (by decide) (fun c_14 => ?_) (fun c_14 => ?_)
      · -- 7
        replace HE : FT = g4_J7_fill_53178_11 (xso SC ad ws_6) := HE.trans (if_neg (o12_3 e_4 b_12 b_13 hn_11 c_14))
        replace HE : FT = ((xso SC ad ws_6), 0) := HE.trans rfl
        rw [hQ]
        exact y_vret C0 h hF_7 (congrArg Prod.fst (HE.symm.trans hFT)) dJ7_fill_53178_20
      · -- 7
        replace HE : FT = g5_J7_fill_53178_11 R5 (xso SC ad ws_6) i0 x2_5.toInt := HE.trans (if_pos (o12_4 e_4 b_12 b_13 hn_11 c_14))
        refine lv_aload_n C0.1 C0.2.1 dJ7_fill_53178_10 rfl (lv_at hl 2 rfl) ?_
        refine lv_iload_n C0.1 C0.2.1 dJ7_fill_53178_11 rfl (lv_at hl 1 rfl) ?_
        refine lv_iload_n C0.1 C0.2.1 dJ7_fill_53178_12 rfl (lv_at hl 3 rfl) ?_
        have hO_17 := h.2
        refine y_iast C0 h hi0 rfl (by decide) (o12_5 e_4 b_12 b_13 hn_11 c_14) (o12_6 e_4 b_12 b_13 hn_11 c_14) (le_min a1) (le_max a1) dJ7_fill_53178_13 (fun H locs ws_15 h u_16 => ?_)
        replace HE : FT = g6w_J7_fill_53178_11 R5 (xso SC ad ws_15) i0 x2_5.toInt := HE.trans (by rw [(xso_A (i := i0) hO_17 h.2 hi0 rfl u_16), (o12_7 l1 u1)]; rfl)
        refine y_inc (kp := 1) (n := 1) (fun v_18 => [(2, .int v_18), (3, .int v_3), (0, .ref (ad i0)), (1, .int a1)]) C0 hl rfl (by decide) (by decide) (fun _ => rfl) (o12_8 e_4 b_12 b_13 hn_11 c_14 (le_min x2_5) (le_max x2_5) (le_min v_3) (le_max v_3)) (o12_9 e_4 b_12 b_13 hn_11 c_14 (le_min x2_5) (le_max x2_5) (le_min v_3) (le_max v_3)) dJ7_fill_53178_14 (fun v_18 ls e_19 hl => ?_)
        refine lv_goto (tgt := 5) C0.1 C0.2.1 dJ7_fill_53178_17 (by decide) ?_
        exact ih_9 v_18 _ _ _ _ (o12_10 e_4 b_12 b_13 hn_11 c_14 e_19) (o12_11 e_4 b_12 b_13 hn_11 c_14 e_19) (o12_12 e_4 b_12 b_13 hn_11 c_14 e_19) (((show FT = R5 (xso SC ad ws_15) i0 v_18.toInt from HE.trans (by rw [e_19]; rfl)).trans (by rw [hR5]))) h (Fr.tr hF_7 (Fr.up u_16.1 hi0 (by decide))) (lv_sub hl [1, 0, 2, 3] rfl)
  exact lp_8 ((5 - v_1.toInt + 1).toNat) v_1 _ _ _ _ (o12_13 e_2) (o12_14 e_2) (o12_15 e_2) ((show FT = L1_J7_fill_53178_11 (Int.toNat (5 - v_1.toInt + 1)) (xso SC ad ws0) i0 v_1.toInt from HE.trans (by rw [e_2]; rfl))) h Fr.rf (lv_sub hl [0, 1, 2, 3] rfl)
noncomputable def g4_J7_fill_53178_12 (s : XS) : XR := (s, 0)
noncomputable def g6w_J7_fill_53178_12 (R5 : XS → Nat → Int → XR) (s : XS) (i0 : Nat) (x2_5 : Int) : XR := R5 s i0 ((x2_5 + 1))
noncomputable def g5_J7_fill_53178_12 (R5 : XS → Nat → Int → XR) (s : XS) (i0 : Nat) (x2_5 : Int) : XR := g6w_J7_fill_53178_12 R5 (xup s 1 i0 (Int.toNat x2_5) (0)) i0 x2_5
noncomputable def g3b_J7_fill_53178_12 (R5 : XS → Nat → Int → XR) (s : XS) (x2_5 : Int) (i0 : Nat) : XR := if x2_5 < 25 then g5_J7_fill_53178_12 R5 s i0 x2_5 else g4_J7_fill_53178_12 s
noncomputable def g2l_J7_fill_53178_12 (R5 : XS → Nat → Int → XR) (s : XS) (i0 : Nat) (x2_5 : Int) : XR := g3b_J7_fill_53178_12 R5 s x2_5 i0
noncomputable def L1_J7_fill_53178_12 (n : Nat) : XS → Nat → Int → XR := Nat.rec (motive := fun _ => XS → Nat → Int → XR) (fun s _ _ => (s, 0)) (fun _ R5 => g2l_J7_fill_53178_12 R5) n
noncomputable def f_J7_fill_53178_12 (s : XS) (i0 : Nat) (a1 : Int) : XR := L1_J7_fill_53178_12 (Int.toNat (25 - 0 + 1)) s i0 0
set_option maxHeartbeats 4000000 in
set_option maxRecDepth 100000 in
theorem c_J7_fill_53178_12 (l : Launch) (G : GG) (Z : RZ) (ad : Nat → Nat) (ws0 : va_W) (hT : Ty G SC ad ws0) (i0 : Nat) (hi0 : Kd SC i0 12) (a1 : Int32) (l1 : 0 ≤ a1.toInt) (u1 : a1.toInt ≤ 0) : Mq l yJ7_fill_53178 cJ7_fill_53178 4 none 1 G Z [.ref (ad i0), .int a1] ws0 (PV G SC ad [12] ws0 (fun u => (xso SC ad u = (f_J7_fill_53178_12 (xso SC ad ws0) i0 a1.toInt).1))) := by
  refine Mq.start (by decide) (Nat.le_of_ble_eq_true rfl) ?_
  intro p e s m below meth c A ls C0 hZ h hl
  have hl : lv_has ls 4 [(0, .ref (ad i0)), (1, .int a1)] := hl
  have h : Wt G SC ad A s s.heap [] ws0 := ⟨h, hT⟩
  obtain ⟨args, hargs⟩ : ∃ z, z = ([.ref (ad i0), .int a1] : List Value).toArray := ⟨_, rfl⟩
  rw [← hargs] at C0 ⊢
  have C0 : Cx p s m args meth c RJ7 cJ7_fill_53178 4 none := C0
  obtain ⟨Q, hQ⟩ : ∃ z, z = MQ below ((PV G SC ad [12] ws0 (fun u => (xso SC ad u = (f_J7_fill_53178_12 (xso SC ad ws0) i0 a1.toInt).1))) A) args s 0 0 A := ⟨_, rfl⟩
  rw [← hQ]
  obtain ⟨FT, hFT⟩ : ∃ z, z = f_J7_fill_53178_12 (xso SC ad ws0) i0 a1.toInt := ⟨_, rfl⟩
  have HE : FT = f_J7_fill_53178_12 (xso SC ad ws0) i0 a1.toInt := hFT
  refine y_c1 (n := 0) C0 (by decide) dJ7_fill_53178_0 (fun v_1 e_2 => ?_)
  refine lv_istore_n (lv' := [(2, .int v_1), (0, .ref (ad i0)), (1, .int a1)]) C0.1 C0.2.1 dJ7_fill_53178_1 rfl hl (by decide) rfl (fun ls hl => ?_)
  refine lv_aload_n C0.1 C0.2.1 dJ7_fill_53178_2 rfl (lv_at hl 1 rfl) ?_
  refine y_alenI (cA := G.2 0) C0 h hi0 rfl rfl (by decide) dJ7_fill_53178_3 (fun v_3 e_4 => ?_)
  refine lv_istore_n (lv' := [(3, .int v_3), (2, .int v_1), (0, .ref (ad i0)), (1, .int a1)]) C0.1 C0.2.1 dJ7_fill_53178_4 rfl hl (by decide) rfl (fun ls hl => ?_)
  have lp_8 : ∀ (n_10 : Nat) (x2_5 : Int32) (H : Heap) (locs : List Loc) (ls : Array Slot) (ws_6 : va_W), 25 - x2_5.toInt < (n_10 : Int) → 0 ≤ x2_5.toInt → x2_5.toInt ≤ 25 → (FT = L1_J7_fill_53178_12 n_10 (xso SC ad ws_6) i0 x2_5.toInt) → Wt G SC ad A s H locs ws_6 → Fr SC [12] ws0 ws_6 → lv_has ls 4 [(3, .int v_3), (2, .int x2_5), (0, .ref (ad i0)), (1, .int a1)] → W p l e (rmd 1 0 0) s m args below meth c H locs 0 0 Q (F0 m 5 ls []) := by
    intro n_10
    induction n_10 with
    | zero => intro x2_5 H locs ls ws_6 hn_11 b_12 b_13 HE h hF_7 hl; exact ((o12_16 b_12 b_13 hn_11)).elim
    | succ n_10 ih_9 =>
      intro x2_5 H locs ls ws_6 hn_11 b_12 b_13 HE h hF_7 hl
      obtain ⟨R5, hR5⟩ : ∃ z, z = L1_J7_fill_53178_12 n_10 := ⟨_, rfl⟩
      replace HE : FT = g2l_J7_fill_53178_12 R5 (xso SC ad ws_6) i0 x2_5.toInt := HE.trans (by rw [hR5]; rfl)
      refine lv_iload_n C0.1 C0.2.1 dJ7_fill_53178_5 rfl (lv_at hl 1 rfl) ?_
      refine lv_iload_n C0.1 C0.2.1 dJ7_fill_53178_6 rfl (lv_at hl 0 rfl) ?_
      replace HE : FT = g3b_J7_fill_53178_12 R5 (xso SC ad ws_6) x2_5.toInt i0 := HE.trans rfl
      refine y_icmp_ge (tgt := 20) C0 dJ7_fill_53178_7 (by decide) (fun c_14 => ?_) (fun c_14 => ?_)
      · -- 7
        replace HE : FT = g4_J7_fill_53178_12 (xso SC ad ws_6) := HE.trans (if_neg (o12_18 e_4 b_12 b_13 hn_11 c_14))
        replace HE : FT = ((xso SC ad ws_6), 0) := HE.trans rfl
        rw [hQ]
        exact y_vret C0 h hF_7 (congrArg Prod.fst (HE.symm.trans hFT)) dJ7_fill_53178_20
      · -- 7
        replace HE : FT = g5_J7_fill_53178_12 R5 (xso SC ad ws_6) i0 x2_5.toInt := HE.trans (if_pos (o12_19 e_4 b_12 b_13 hn_11 c_14))
        refine lv_aload_n C0.1 C0.2.1 dJ7_fill_53178_10 rfl (lv_at hl 2 rfl) ?_
        refine lv_iload_n C0.1 C0.2.1 dJ7_fill_53178_11 rfl (lv_at hl 1 rfl) ?_
        refine lv_iload_n C0.1 C0.2.1 dJ7_fill_53178_12 rfl (lv_at hl 3 rfl) ?_
        have hO_17 := h.2
        refine y_iast C0 h hi0 rfl (by decide) (o12_20 e_4 b_12 b_13 hn_11 c_14) (o12_21 e_4 b_12 b_13 hn_11 c_14) (le_min a1) (le_max a1) dJ7_fill_53178_13 (fun H locs ws_15 h u_16 => ?_)
        replace HE : FT = g6w_J7_fill_53178_12 R5 (xso SC ad ws_15) i0 x2_5.toInt := HE.trans (by rw [(xso_A (i := i0) hO_17 h.2 hi0 rfl u_16), (o12_7 l1 u1)]; rfl)
        refine y_inc (kp := 1) (n := 1) (fun v_18 => [(2, .int v_18), (3, .int v_3), (0, .ref (ad i0)), (1, .int a1)]) C0 hl rfl (by decide) (by decide) (fun _ => rfl) (o12_22 e_4 b_12 b_13 hn_11 c_14 (le_min x2_5) (le_max x2_5) (le_min v_3) (le_max v_3)) (o12_23 e_4 b_12 b_13 hn_11 c_14 (le_min x2_5) (le_max x2_5) (le_min v_3) (le_max v_3)) dJ7_fill_53178_14 (fun v_18 ls e_19 hl => ?_)
        refine lv_goto (tgt := 5) C0.1 C0.2.1 dJ7_fill_53178_17 (by decide) ?_
        exact ih_9 v_18 _ _ _ _ (o12_24 e_4 b_12 b_13 hn_11 c_14 e_19) (o12_25 e_4 b_12 b_13 hn_11 c_14 e_19) (o12_26 e_4 b_12 b_13 hn_11 c_14 e_19) (((show FT = R5 (xso SC ad ws_15) i0 v_18.toInt from HE.trans (by rw [e_19]; rfl)).trans (by rw [hR5]))) h (Fr.tr hF_7 (Fr.up u_16.1 hi0 (by decide))) (lv_sub hl [1, 0, 2, 3] rfl)
  exact lp_8 ((25 - v_1.toInt + 1).toNat) v_1 _ _ _ _ (o12_27 e_2) (o12_14 e_2) (o12_28 e_2) ((show FT = L1_J7_fill_53178_12 (Int.toNat (25 - v_1.toInt + 1)) (xso SC ad ws0) i0 v_1.toInt from HE.trans (by rw [e_2]; rfl))) h Fr.rf (lv_sub hl [0, 1, 2, 3] rfl)
noncomputable def g4_J7_fill_53178_13 (s : XS) : XR := (s, 0)
noncomputable def g6w_J7_fill_53178_13 (R5 : XS → Nat → Int → XR) (s : XS) (i0 : Nat) (x2_5 : Int) : XR := R5 s i0 ((x2_5 + 1))
noncomputable def g5_J7_fill_53178_13 (R5 : XS → Nat → Int → XR) (s : XS) (i0 : Nat) (x2_5 : Int) : XR := g6w_J7_fill_53178_13 R5 (xup s 1 i0 (Int.toNat x2_5) (0)) i0 x2_5
noncomputable def g3b_J7_fill_53178_13 (R5 : XS → Nat → Int → XR) (s : XS) (x2_5 : Int) (i0 : Nat) : XR := if x2_5 < 25 then g5_J7_fill_53178_13 R5 s i0 x2_5 else g4_J7_fill_53178_13 s
noncomputable def g2l_J7_fill_53178_13 (R5 : XS → Nat → Int → XR) (s : XS) (i0 : Nat) (x2_5 : Int) : XR := g3b_J7_fill_53178_13 R5 s x2_5 i0
noncomputable def L1_J7_fill_53178_13 (n : Nat) : XS → Nat → Int → XR := Nat.rec (motive := fun _ => XS → Nat → Int → XR) (fun s _ _ => (s, 0)) (fun _ R5 => g2l_J7_fill_53178_13 R5) n
noncomputable def f_J7_fill_53178_13 (s : XS) (i0 : Nat) (a1 : Int) : XR := L1_J7_fill_53178_13 (Int.toNat (25 - 0 + 1)) s i0 0
set_option maxHeartbeats 4000000 in
set_option maxRecDepth 100000 in
theorem c_J7_fill_53178_13 (l : Launch) (G : GG) (Z : RZ) (ad : Nat → Nat) (ws0 : va_W) (hT : Ty G SC ad ws0) (i0 : Nat) (hi0 : Kd SC i0 13) (a1 : Int32) (l1 : 0 ≤ a1.toInt) (u1 : a1.toInt ≤ 0) : Mq l yJ7_fill_53178 cJ7_fill_53178 4 none 1 G Z [.ref (ad i0), .int a1] ws0 (PV G SC ad [13] ws0 (fun u => (xso SC ad u = (f_J7_fill_53178_13 (xso SC ad ws0) i0 a1.toInt).1))) := by
  refine Mq.start (by decide) (Nat.le_of_ble_eq_true rfl) ?_
  intro p e s m below meth c A ls C0 hZ h hl
  have hl : lv_has ls 4 [(0, .ref (ad i0)), (1, .int a1)] := hl
  have h : Wt G SC ad A s s.heap [] ws0 := ⟨h, hT⟩
  obtain ⟨args, hargs⟩ : ∃ z, z = ([.ref (ad i0), .int a1] : List Value).toArray := ⟨_, rfl⟩
  rw [← hargs] at C0 ⊢
  have C0 : Cx p s m args meth c RJ7 cJ7_fill_53178 4 none := C0
  obtain ⟨Q, hQ⟩ : ∃ z, z = MQ below ((PV G SC ad [13] ws0 (fun u => (xso SC ad u = (f_J7_fill_53178_13 (xso SC ad ws0) i0 a1.toInt).1))) A) args s 0 0 A := ⟨_, rfl⟩
  rw [← hQ]
  obtain ⟨FT, hFT⟩ : ∃ z, z = f_J7_fill_53178_13 (xso SC ad ws0) i0 a1.toInt := ⟨_, rfl⟩
  have HE : FT = f_J7_fill_53178_13 (xso SC ad ws0) i0 a1.toInt := hFT
  refine y_c1 (n := 0) C0 (by decide) dJ7_fill_53178_0 (fun v_1 e_2 => ?_)
  refine lv_istore_n (lv' := [(2, .int v_1), (0, .ref (ad i0)), (1, .int a1)]) C0.1 C0.2.1 dJ7_fill_53178_1 rfl hl (by decide) rfl (fun ls hl => ?_)
  refine lv_aload_n C0.1 C0.2.1 dJ7_fill_53178_2 rfl (lv_at hl 1 rfl) ?_
  refine y_alenI (cA := G.2 0) C0 h hi0 rfl rfl (by decide) dJ7_fill_53178_3 (fun v_3 e_4 => ?_)
  refine lv_istore_n (lv' := [(3, .int v_3), (2, .int v_1), (0, .ref (ad i0)), (1, .int a1)]) C0.1 C0.2.1 dJ7_fill_53178_4 rfl hl (by decide) rfl (fun ls hl => ?_)
  have lp_8 : ∀ (n_10 : Nat) (x2_5 : Int32) (H : Heap) (locs : List Loc) (ls : Array Slot) (ws_6 : va_W), 25 - x2_5.toInt < (n_10 : Int) → 0 ≤ x2_5.toInt → x2_5.toInt ≤ 25 → (FT = L1_J7_fill_53178_13 n_10 (xso SC ad ws_6) i0 x2_5.toInt) → Wt G SC ad A s H locs ws_6 → Fr SC [13] ws0 ws_6 → lv_has ls 4 [(3, .int v_3), (2, .int x2_5), (0, .ref (ad i0)), (1, .int a1)] → W p l e (rmd 1 0 0) s m args below meth c H locs 0 0 Q (F0 m 5 ls []) := by
    intro n_10
    induction n_10 with
    | zero => intro x2_5 H locs ls ws_6 hn_11 b_12 b_13 HE h hF_7 hl; exact ((o12_16 b_12 b_13 hn_11)).elim
    | succ n_10 ih_9 =>
      intro x2_5 H locs ls ws_6 hn_11 b_12 b_13 HE h hF_7 hl
      obtain ⟨R5, hR5⟩ : ∃ z, z = L1_J7_fill_53178_13 n_10 := ⟨_, rfl⟩
      replace HE : FT = g2l_J7_fill_53178_13 R5 (xso SC ad ws_6) i0 x2_5.toInt := HE.trans (by rw [hR5]; rfl)
      refine lv_iload_n C0.1 C0.2.1 dJ7_fill_53178_5 rfl (lv_at hl 1 rfl) ?_
      refine lv_iload_n C0.1 C0.2.1 dJ7_fill_53178_6 rfl (lv_at hl 0 rfl) ?_
      replace HE : FT = g3b_J7_fill_53178_13 R5 (xso SC ad ws_6) x2_5.toInt i0 := HE.trans rfl
      refine y_icmp_ge (tgt := 20) C0 dJ7_fill_53178_7 (by decide) (fun c_14 => ?_) (fun c_14 => ?_)
      · -- 7
        replace HE : FT = g4_J7_fill_53178_13 (xso SC ad ws_6) := HE.trans (if_neg (o12_18 e_4 b_12 b_13 hn_11 c_14))
        replace HE : FT = ((xso SC ad ws_6), 0) := HE.trans rfl
        rw [hQ]
        exact y_vret C0 h hF_7 (congrArg Prod.fst (HE.symm.trans hFT)) dJ7_fill_53178_20
      · -- 7
        replace HE : FT = g5_J7_fill_53178_13 R5 (xso SC ad ws_6) i0 x2_5.toInt := HE.trans (if_pos (o12_19 e_4 b_12 b_13 hn_11 c_14))
        refine lv_aload_n C0.1 C0.2.1 dJ7_fill_53178_10 rfl (lv_at hl 2 rfl) ?_
        refine lv_iload_n C0.1 C0.2.1 dJ7_fill_53178_11 rfl (lv_at hl 1 rfl) ?_
        refine lv_iload_n C0.1 C0.2.1 dJ7_fill_53178_12 rfl (lv_at hl 3 rfl) ?_
        have hO_17 := h.2
        refine y_iast C0 h hi0 rfl (by decide) (o12_20 e_4 b_12 b_13 hn_11 c_14) (o12_21 e_4 b_12 b_13 hn_11 c_14) (le_min a1) (le_max a1) dJ7_fill_53178_13 (fun H locs ws_15 h u_16 => ?_)
        replace HE : FT = g6w_J7_fill_53178_13 R5 (xso SC ad ws_15) i0 x2_5.toInt := HE.trans (by rw [(xso_A (i := i0) hO_17 h.2 hi0 rfl u_16), (o12_7 l1 u1)]; rfl)
        refine y_inc (kp := 1) (n := 1) (fun v_18 => [(2, .int v_18), (3, .int v_3), (0, .ref (ad i0)), (1, .int a1)]) C0 hl rfl (by decide) (by decide) (fun _ => rfl) (o12_22 e_4 b_12 b_13 hn_11 c_14 (le_min x2_5) (le_max x2_5) (le_min v_3) (le_max v_3)) (o12_23 e_4 b_12 b_13 hn_11 c_14 (le_min x2_5) (le_max x2_5) (le_min v_3) (le_max v_3)) dJ7_fill_53178_14 (fun v_18 ls e_19 hl => ?_)
        refine lv_goto (tgt := 5) C0.1 C0.2.1 dJ7_fill_53178_17 (by decide) ?_
        exact ih_9 v_18 _ _ _ _ (o12_24 e_4 b_12 b_13 hn_11 c_14 e_19) (o12_25 e_4 b_12 b_13 hn_11 c_14 e_19) (o12_26 e_4 b_12 b_13 hn_11 c_14 e_19) (((show FT = R5 (xso SC ad ws_15) i0 v_18.toInt from HE.trans (by rw [e_19]; rfl)).trans (by rw [hR5]))) h (Fr.tr hF_7 (Fr.up u_16.1 hi0 (by decide))) (lv_sub hl [1, 0, 2, 3] rfl)
  exact lp_8 ((25 - v_1.toInt + 1).toNat) v_1 _ _ _ _ (o12_27 e_2) (o12_14 e_2) (o12_28 e_2) ((show FT = L1_J7_fill_53178_13 (Int.toNat (25 - v_1.toInt + 1)) (xso SC ad ws0) i0 v_1.toInt from HE.trans (by rw [e_2]; rfl))) h Fr.rf (lv_sub hl [0, 1, 2, 3] rfl)
noncomputable def g4_J7_fill_53178_24 (s : XS) : XR := (s, 0)
noncomputable def g6w_J7_fill_53178_24 (R5 : XS → Nat → Int → Int → XR) (s : XS) (i0 : Nat) (a1 : Int) (x2_5 : Int) : XR := R5 s i0 a1 ((x2_5 + 1))
noncomputable def g5_J7_fill_53178_24 (R5 : XS → Nat → Int → Int → XR) (s : XS) (i0 : Nat) (a1 : Int) (x2_5 : Int) : XR := g6w_J7_fill_53178_24 R5 (xup s 1 i0 (Int.toNat x2_5) (a1)) i0 a1 x2_5
noncomputable def g3b_J7_fill_53178_24 (R5 : XS → Nat → Int → Int → XR) (s : XS) (x2_5 : Int) (i0 : Nat) (a1 : Int) : XR := if x2_5 < 121 then g5_J7_fill_53178_24 R5 s i0 a1 x2_5 else g4_J7_fill_53178_24 s
noncomputable def g2l_J7_fill_53178_24 (R5 : XS → Nat → Int → Int → XR) (s : XS) (i0 : Nat) (a1 : Int) (x2_5 : Int) : XR := g3b_J7_fill_53178_24 R5 s x2_5 i0 a1
noncomputable def L1_J7_fill_53178_24 (n : Nat) : XS → Nat → Int → Int → XR := Nat.rec (motive := fun _ => XS → Nat → Int → Int → XR) (fun s _ _ _ => (s, 0)) (fun _ R5 => g2l_J7_fill_53178_24 R5) n
noncomputable def f_J7_fill_53178_24 (s : XS) (i0 : Nat) (a1 : Int) : XR := L1_J7_fill_53178_24 (Int.toNat (121 - 0 + 1)) s i0 a1 0
set_option maxHeartbeats 4000000 in
set_option maxRecDepth 100000 in
theorem c_J7_fill_53178_24 (l : Launch) (G : GG) (Z : RZ) (ad : Nat → Nat) (ws0 : va_W) (hT : Ty G SC ad ws0) (i0 : Nat) (hi0 : Kd SC i0 24) (a1 : Int32) : Mq l yJ7_fill_53178 cJ7_fill_53178 4 none 1 G Z [.ref (ad i0), .int a1] ws0 (PV G SC ad [24] ws0 (fun u => (xso SC ad u = (f_J7_fill_53178_24 (xso SC ad ws0) i0 a1.toInt).1))) := by
  refine Mq.start (by decide) (Nat.le_of_ble_eq_true rfl) ?_
  intro p e s m below meth c A ls C0 hZ h hl
  have hl : lv_has ls 4 [(0, .ref (ad i0)), (1, .int a1)] := hl
  have h : Wt G SC ad A s s.heap [] ws0 := ⟨h, hT⟩
  obtain ⟨args, hargs⟩ : ∃ z, z = ([.ref (ad i0), .int a1] : List Value).toArray := ⟨_, rfl⟩
  rw [← hargs] at C0 ⊢
  have C0 : Cx p s m args meth c RJ7 cJ7_fill_53178 4 none := C0
  obtain ⟨Q, hQ⟩ : ∃ z, z = MQ below ((PV G SC ad [24] ws0 (fun u => (xso SC ad u = (f_J7_fill_53178_24 (xso SC ad ws0) i0 a1.toInt).1))) A) args s 0 0 A := ⟨_, rfl⟩
  rw [← hQ]
  obtain ⟨FT, hFT⟩ : ∃ z, z = f_J7_fill_53178_24 (xso SC ad ws0) i0 a1.toInt := ⟨_, rfl⟩
  have HE : FT = f_J7_fill_53178_24 (xso SC ad ws0) i0 a1.toInt := hFT
  refine y_c1 (n := 0) C0 (by decide) dJ7_fill_53178_0 (fun v_1 e_2 => ?_)
  refine lv_istore_n (lv' := [(2, .int v_1), (0, .ref (ad i0)), (1, .int a1)]) C0.1 C0.2.1 dJ7_fill_53178_1 rfl hl (by decide) rfl (fun ls hl => ?_)
  refine lv_aload_n C0.1 C0.2.1 dJ7_fill_53178_2 rfl (lv_at hl 1 rfl) ?_
  refine y_alenI (cA := G.2 0) C0 h hi0 rfl rfl (by decide) dJ7_fill_53178_3 (fun v_3 e_4 => ?_)
  refine lv_istore_n (lv' := [(3, .int v_3), (2, .int v_1), (0, .ref (ad i0)), (1, .int a1)]) C0.1 C0.2.1 dJ7_fill_53178_4 rfl hl (by decide) rfl (fun ls hl => ?_)
  have lp_8 : ∀ (n_10 : Nat) (x2_5 : Int32) (H : Heap) (locs : List Loc) (ls : Array Slot) (ws_6 : va_W), 121 - x2_5.toInt < (n_10 : Int) → 0 ≤ x2_5.toInt → x2_5.toInt ≤ 121 → (FT = L1_J7_fill_53178_24 n_10 (xso SC ad ws_6) i0 a1.toInt x2_5.toInt) → Wt G SC ad A s H locs ws_6 → Fr SC [24] ws0 ws_6 → lv_has ls 4 [(3, .int v_3), (2, .int x2_5), (0, .ref (ad i0)), (1, .int a1)] → W p l e (rmd 1 0 0) s m args below meth c H locs 0 0 Q (F0 m 5 ls []) := by
    intro n_10
    induction n_10 with
    | zero => intro x2_5 H locs ls ws_6 hn_11 b_12 b_13 HE h hF_7 hl; exact ((o12_29 b_12 b_13 hn_11)).elim
    | succ n_10 ih_9 =>
      intro x2_5 H locs ls ws_6 hn_11 b_12 b_13 HE h hF_7 hl
      obtain ⟨R5, hR5⟩ : ∃ z, z = L1_J7_fill_53178_24 n_10 := ⟨_, rfl⟩
      replace HE : FT = g2l_J7_fill_53178_24 R5 (xso SC ad ws_6) i0 a1.toInt x2_5.toInt := HE.trans (by rw [hR5]; rfl)
      refine lv_iload_n C0.1 C0.2.1 dJ7_fill_53178_5 rfl (lv_at hl 1 rfl) ?_
      refine lv_iload_n C0.1 C0.2.1 dJ7_fill_53178_6 rfl (lv_at hl 0 rfl) ?_
      replace HE : FT = g3b_J7_fill_53178_24 R5 (xso SC ad ws_6) x2_5.toInt i0 a1.toInt := HE.trans rfl
      refine y_icmp_ge (tgt := 20) C0 dJ7_fill_53178_7 (by decide) (fun c_14 => ?_) (fun c_14 => ?_)
      · -- 7
        replace HE : FT = g4_J7_fill_53178_24 (xso SC ad ws_6) := HE.trans (if_neg (o12_31 e_4 b_12 b_13 hn_11 c_14))
        replace HE : FT = ((xso SC ad ws_6), 0) := HE.trans rfl
        rw [hQ]
        exact y_vret C0 h hF_7 (congrArg Prod.fst (HE.symm.trans hFT)) dJ7_fill_53178_20
      · -- 7
        replace HE : FT = g5_J7_fill_53178_24 R5 (xso SC ad ws_6) i0 a1.toInt x2_5.toInt := HE.trans (if_pos (o12_32 e_4 b_12 b_13 hn_11 c_14))
        refine lv_aload_n C0.1 C0.2.1 dJ7_fill_53178_10 rfl (lv_at hl 2 rfl) ?_
        refine lv_iload_n C0.1 C0.2.1 dJ7_fill_53178_11 rfl (lv_at hl 1 rfl) ?_
        refine lv_iload_n C0.1 C0.2.1 dJ7_fill_53178_12 rfl (lv_at hl 3 rfl) ?_
        have hO_17 := h.2
        refine y_iast C0 h hi0 rfl (by decide) (o12_33 e_4 b_12 b_13 hn_11 c_14) (o12_34 e_4 b_12 b_13 hn_11 c_14) (le_min a1) (le_max a1) dJ7_fill_53178_13 (fun H locs ws_15 h u_16 => ?_)
        replace HE : FT = g6w_J7_fill_53178_24 R5 (xso SC ad ws_15) i0 a1.toInt x2_5.toInt := HE.trans (by rw [(xso_A (i := i0) hO_17 h.2 hi0 rfl u_16)]; rfl)
        refine y_inc (kp := 1) (n := 1) (fun v_18 => [(2, .int v_18), (3, .int v_3), (0, .ref (ad i0)), (1, .int a1)]) C0 hl rfl (by decide) (by decide) (fun _ => rfl) (o12_35 e_4 b_12 b_13 hn_11 c_14 (le_min x2_5) (le_max x2_5) (le_min v_3) (le_max v_3)) (o12_36 e_4 b_12 b_13 hn_11 c_14 (le_min x2_5) (le_max x2_5) (le_min v_3) (le_max v_3)) dJ7_fill_53178_14 (fun v_18 ls e_19 hl => ?_)
        refine lv_goto (tgt := 5) C0.1 C0.2.1 dJ7_fill_53178_17 (by decide) ?_
        exact ih_9 v_18 _ _ _ _ (o12_37 e_4 b_12 b_13 hn_11 c_14 e_19) (o12_38 e_4 b_12 b_13 hn_11 c_14 e_19) (o12_39 e_4 b_12 b_13 hn_11 c_14 e_19) (((show FT = R5 (xso SC ad ws_15) i0 a1.toInt v_18.toInt from HE.trans (by rw [e_19]; rfl)).trans (by rw [hR5]))) h (Fr.tr hF_7 (Fr.up u_16.1 hi0 (by decide))) (lv_sub hl [1, 0, 2, 3] rfl)
  exact lp_8 ((121 - v_1.toInt + 1).toNat) v_1 _ _ _ _ (o12_40 e_2) (o12_14 e_2) (o12_41 e_2) ((show FT = L1_J7_fill_53178_24 (Int.toNat (121 - v_1.toInt + 1)) (xso SC ad ws0) i0 a1.toInt v_1.toInt from HE.trans (by rw [e_2]; rfl))) h Fr.rf (lv_sub hl [0, 1, 2, 3] rfl)
noncomputable def g4_J7_fill_53178_36 (s : XS) : XR := (s, 0)
noncomputable def g6w_J7_fill_53178_36 (R5 : XS → Nat → Int → Int → XR) (s : XS) (i0 : Nat) (a1 : Int) (x2_5 : Int) : XR := R5 s i0 a1 ((x2_5 + 1))
noncomputable def g5_J7_fill_53178_36 (R5 : XS → Nat → Int → Int → XR) (s : XS) (i0 : Nat) (a1 : Int) (x2_5 : Int) : XR := g6w_J7_fill_53178_36 R5 (xup s 1 i0 (Int.toNat x2_5) (a1)) i0 a1 x2_5
noncomputable def g3b_J7_fill_53178_36 (R5 : XS → Nat → Int → Int → XR) (s : XS) (x2_5 : Int) (i0 : Nat) (a1 : Int) : XR := if x2_5 < 100 then g5_J7_fill_53178_36 R5 s i0 a1 x2_5 else g4_J7_fill_53178_36 s
noncomputable def g2l_J7_fill_53178_36 (R5 : XS → Nat → Int → Int → XR) (s : XS) (i0 : Nat) (a1 : Int) (x2_5 : Int) : XR := g3b_J7_fill_53178_36 R5 s x2_5 i0 a1
noncomputable def L1_J7_fill_53178_36 (n : Nat) : XS → Nat → Int → Int → XR := Nat.rec (motive := fun _ => XS → Nat → Int → Int → XR) (fun s _ _ _ => (s, 0)) (fun _ R5 => g2l_J7_fill_53178_36 R5) n
noncomputable def f_J7_fill_53178_36 (s : XS) (i0 : Nat) (a1 : Int) : XR := L1_J7_fill_53178_36 (Int.toNat (100 - 0 + 1)) s i0 a1 0
set_option maxHeartbeats 4000000 in
set_option maxRecDepth 100000 in
theorem c_J7_fill_53178_36 (l : Launch) (G : GG) (Z : RZ) (ad : Nat → Nat) (ws0 : va_W) (hT : Ty G SC ad ws0) (i0 : Nat) (hi0 : Kd SC i0 36) (a1 : Int32) (l1 : (-1) ≤ a1.toInt) (u1 : a1.toInt ≤ 40) : Mq l yJ7_fill_53178 cJ7_fill_53178 4 none 1 G Z [.ref (ad i0), .int a1] ws0 (PV G SC ad [36] ws0 (fun u => (xso SC ad u = (f_J7_fill_53178_36 (xso SC ad ws0) i0 a1.toInt).1))) := by
  refine Mq.start (by decide) (Nat.le_of_ble_eq_true rfl) ?_
  intro p e s m below meth c A ls C0 hZ h hl
  have hl : lv_has ls 4 [(0, .ref (ad i0)), (1, .int a1)] := hl
  have h : Wt G SC ad A s s.heap [] ws0 := ⟨h, hT⟩
  obtain ⟨args, hargs⟩ : ∃ z, z = ([.ref (ad i0), .int a1] : List Value).toArray := ⟨_, rfl⟩
  rw [← hargs] at C0 ⊢
  have C0 : Cx p s m args meth c RJ7 cJ7_fill_53178 4 none := C0
  obtain ⟨Q, hQ⟩ : ∃ z, z = MQ below ((PV G SC ad [36] ws0 (fun u => (xso SC ad u = (f_J7_fill_53178_36 (xso SC ad ws0) i0 a1.toInt).1))) A) args s 0 0 A := ⟨_, rfl⟩
  rw [← hQ]
  obtain ⟨FT, hFT⟩ : ∃ z, z = f_J7_fill_53178_36 (xso SC ad ws0) i0 a1.toInt := ⟨_, rfl⟩
  have HE : FT = f_J7_fill_53178_36 (xso SC ad ws0) i0 a1.toInt := hFT
  refine y_c1 (n := 0) C0 (by decide) dJ7_fill_53178_0 (fun v_1 e_2 => ?_)
  refine lv_istore_n (lv' := [(2, .int v_1), (0, .ref (ad i0)), (1, .int a1)]) C0.1 C0.2.1 dJ7_fill_53178_1 rfl hl (by decide) rfl (fun ls hl => ?_)
  refine lv_aload_n C0.1 C0.2.1 dJ7_fill_53178_2 rfl (lv_at hl 1 rfl) ?_
  refine y_alenI (cA := G.2 0) C0 h hi0 rfl rfl (by decide) dJ7_fill_53178_3 (fun v_3 e_4 => ?_)
  refine lv_istore_n (lv' := [(3, .int v_3), (2, .int v_1), (0, .ref (ad i0)), (1, .int a1)]) C0.1 C0.2.1 dJ7_fill_53178_4 rfl hl (by decide) rfl (fun ls hl => ?_)
  have lp_8 : ∀ (n_10 : Nat) (x2_5 : Int32) (H : Heap) (locs : List Loc) (ls : Array Slot) (ws_6 : va_W), 100 - x2_5.toInt < (n_10 : Int) → 0 ≤ x2_5.toInt → x2_5.toInt ≤ 100 → (FT = L1_J7_fill_53178_36 n_10 (xso SC ad ws_6) i0 a1.toInt x2_5.toInt) → Wt G SC ad A s H locs ws_6 → Fr SC [36] ws0 ws_6 → lv_has ls 4 [(3, .int v_3), (2, .int x2_5), (0, .ref (ad i0)), (1, .int a1)] → W p l e (rmd 1 0 0) s m args below meth c H locs 0 0 Q (F0 m 5 ls []) := by
    intro n_10
    induction n_10 with
    | zero => intro x2_5 H locs ls ws_6 hn_11 b_12 b_13 HE h hF_7 hl; exact ((o12_42 b_12 b_13 hn_11)).elim
    | succ n_10 ih_9 =>
      intro x2_5 H locs ls ws_6 hn_11 b_12 b_13 HE h hF_7 hl
      obtain ⟨R5, hR5⟩ : ∃ z, z = L1_J7_fill_53178_36 n_10 := ⟨_, rfl⟩
      replace HE : FT = g2l_J7_fill_53178_36 R5 (xso SC ad ws_6) i0 a1.toInt x2_5.toInt := HE.trans (by rw [hR5]; rfl)
      refine lv_iload_n C0.1 C0.2.1 dJ7_fill_53178_5 rfl (lv_at hl 1 rfl) ?_
      refine lv_iload_n C0.1 C0.2.1 dJ7_fill_53178_6 rfl (lv_at hl 0 rfl) ?_
      replace HE : FT = g3b_J7_fill_53178_36 R5 (xso SC ad ws_6) x2_5.toInt i0 a1.toInt := HE.trans rfl
      refine y_icmp_ge (tgt := 20) C0 dJ7_fill_53178_7 (by decide) (fun c_14 => ?_) (fun c_14 => ?_)
      · -- 7
        replace HE : FT = g4_J7_fill_53178_36 (xso SC ad ws_6) := HE.trans (if_neg (o12_44 e_4 b_12 b_13 hn_11 c_14))
        replace HE : FT = ((xso SC ad ws_6), 0) := HE.trans rfl
        rw [hQ]
        exact y_vret C0 h hF_7 (congrArg Prod.fst (HE.symm.trans hFT)) dJ7_fill_53178_20
      · -- 7
        replace HE : FT = g5_J7_fill_53178_36 R5 (xso SC ad ws_6) i0 a1.toInt x2_5.toInt := HE.trans (if_pos (o12_45 e_4 b_12 b_13 hn_11 c_14))
        refine lv_aload_n C0.1 C0.2.1 dJ7_fill_53178_10 rfl (lv_at hl 2 rfl) ?_
        refine lv_iload_n C0.1 C0.2.1 dJ7_fill_53178_11 rfl (lv_at hl 1 rfl) ?_
        refine lv_iload_n C0.1 C0.2.1 dJ7_fill_53178_12 rfl (lv_at hl 3 rfl) ?_
        have hO_17 := h.2
        refine y_iast C0 h hi0 rfl (by decide) (o12_46 e_4 b_12 b_13 hn_11 c_14) (o12_47 e_4 b_12 b_13 hn_11 c_14) (o12_48 l1 u1) (o12_49 l1 u1) dJ7_fill_53178_13 (fun H locs ws_15 h u_16 => ?_)
        replace HE : FT = g6w_J7_fill_53178_36 R5 (xso SC ad ws_15) i0 a1.toInt x2_5.toInt := HE.trans (by rw [(xso_A (i := i0) hO_17 h.2 hi0 rfl u_16)]; rfl)
        refine y_inc (kp := 1) (n := 1) (fun v_18 => [(2, .int v_18), (3, .int v_3), (0, .ref (ad i0)), (1, .int a1)]) C0 hl rfl (by decide) (by decide) (fun _ => rfl) (o12_50 e_4 b_12 b_13 hn_11 c_14 (le_min x2_5) (le_max x2_5) (le_min v_3) (le_max v_3)) (o12_51 e_4 b_12 b_13 hn_11 c_14 (le_min x2_5) (le_max x2_5) (le_min v_3) (le_max v_3)) dJ7_fill_53178_14 (fun v_18 ls e_19 hl => ?_)
        refine lv_goto (tgt := 5) C0.1 C0.2.1 dJ7_fill_53178_17 (by decide) ?_
        exact ih_9 v_18 _ _ _ _ (o12_52 e_4 b_12 b_13 hn_11 c_14 e_19) (o12_53 e_4 b_12 b_13 hn_11 c_14 e_19) (o12_54 e_4 b_12 b_13 hn_11 c_14 e_19) (((show FT = R5 (xso SC ad ws_15) i0 a1.toInt v_18.toInt from HE.trans (by rw [e_19]; rfl)).trans (by rw [hR5]))) h (Fr.tr hF_7 (Fr.up u_16.1 hi0 (by decide))) (lv_sub hl [1, 0, 2, 3] rfl)
  exact lp_8 ((100 - v_1.toInt + 1).toNat) v_1 _ _ _ _ (o12_55 e_2) (o12_14 e_2) (o12_56 e_2) ((show FT = L1_J7_fill_53178_36 (Int.toNat (100 - v_1.toInt + 1)) (xso SC ad ws0) i0 a1.toInt v_1.toInt from HE.trans (by rw [e_2]; rfl))) h Fr.rf (lv_sub hl [0, 1, 2, 3] rfl)
noncomputable def g4_J7_fill_53178_38 (s : XS) : XR := (s, 0)
noncomputable def g6w_J7_fill_53178_38 (R5 : XS → Nat → Int → Int → XR) (s : XS) (i0 : Nat) (a1 : Int) (x2_5 : Int) : XR := R5 s i0 a1 ((x2_5 + 1))
noncomputable def g5_J7_fill_53178_38 (R5 : XS → Nat → Int → Int → XR) (s : XS) (i0 : Nat) (a1 : Int) (x2_5 : Int) : XR := g6w_J7_fill_53178_38 R5 (xup s 1 i0 (Int.toNat x2_5) (a1)) i0 a1 x2_5
noncomputable def g3b_J7_fill_53178_38 (R5 : XS → Nat → Int → Int → XR) (s : XS) (x2_5 : Int) (i0 : Nat) (a1 : Int) : XR := if x2_5 < 100 then g5_J7_fill_53178_38 R5 s i0 a1 x2_5 else g4_J7_fill_53178_38 s
noncomputable def g2l_J7_fill_53178_38 (R5 : XS → Nat → Int → Int → XR) (s : XS) (i0 : Nat) (a1 : Int) (x2_5 : Int) : XR := g3b_J7_fill_53178_38 R5 s x2_5 i0 a1
noncomputable def L1_J7_fill_53178_38 (n : Nat) : XS → Nat → Int → Int → XR := Nat.rec (motive := fun _ => XS → Nat → Int → Int → XR) (fun s _ _ _ => (s, 0)) (fun _ R5 => g2l_J7_fill_53178_38 R5) n
noncomputable def f_J7_fill_53178_38 (s : XS) (i0 : Nat) (a1 : Int) : XR := L1_J7_fill_53178_38 (Int.toNat (100 - 0 + 1)) s i0 a1 0
set_option maxHeartbeats 4000000 in
set_option maxRecDepth 100000 in
theorem c_J7_fill_53178_38 (l : Launch) (G : GG) (Z : RZ) (ad : Nat → Nat) (ws0 : va_W) (hT : Ty G SC ad ws0) (i0 : Nat) (hi0 : Kd SC i0 38) (a1 : Int32) : Mq l yJ7_fill_53178 cJ7_fill_53178 4 none 1 G Z [.ref (ad i0), .int a1] ws0 (PV G SC ad [38] ws0 (fun u => (xso SC ad u = (f_J7_fill_53178_38 (xso SC ad ws0) i0 a1.toInt).1))) := by
  refine Mq.start (by decide) (Nat.le_of_ble_eq_true rfl) ?_
  intro p e s m below meth c A ls C0 hZ h hl
  have hl : lv_has ls 4 [(0, .ref (ad i0)), (1, .int a1)] := hl
  have h : Wt G SC ad A s s.heap [] ws0 := ⟨h, hT⟩
  obtain ⟨args, hargs⟩ : ∃ z, z = ([.ref (ad i0), .int a1] : List Value).toArray := ⟨_, rfl⟩
  rw [← hargs] at C0 ⊢
  have C0 : Cx p s m args meth c RJ7 cJ7_fill_53178 4 none := C0
  obtain ⟨Q, hQ⟩ : ∃ z, z = MQ below ((PV G SC ad [38] ws0 (fun u => (xso SC ad u = (f_J7_fill_53178_38 (xso SC ad ws0) i0 a1.toInt).1))) A) args s 0 0 A := ⟨_, rfl⟩
  rw [← hQ]
  obtain ⟨FT, hFT⟩ : ∃ z, z = f_J7_fill_53178_38 (xso SC ad ws0) i0 a1.toInt := ⟨_, rfl⟩
  have HE : FT = f_J7_fill_53178_38 (xso SC ad ws0) i0 a1.toInt := hFT
  refine y_c1 (n := 0) C0 (by decide) dJ7_fill_53178_0 (fun v_1 e_2 => ?_)
  refine lv_istore_n (lv' := [(2, .int v_1), (0, .ref (ad i0)), (1, .int a1)]) C0.1 C0.2.1 dJ7_fill_53178_1 rfl hl (by decide) rfl (fun ls hl => ?_)
  refine lv_aload_n C0.1 C0.2.1 dJ7_fill_53178_2 rfl (lv_at hl 1 rfl) ?_
  refine y_alenI (cA := G.2 0) C0 h hi0 rfl rfl (by decide) dJ7_fill_53178_3 (fun v_3 e_4 => ?_)
  refine lv_istore_n (lv' := [(3, .int v_3), (2, .int v_1), (0, .ref (ad i0)), (1, .int a1)]) C0.1 C0.2.1 dJ7_fill_53178_4 rfl hl (by decide) rfl (fun ls hl => ?_)
  have lp_8 : ∀ (n_10 : Nat) (x2_5 : Int32) (H : Heap) (locs : List Loc) (ls : Array Slot) (ws_6 : va_W), 100 - x2_5.toInt < (n_10 : Int) → 0 ≤ x2_5.toInt → x2_5.toInt ≤ 100 → (FT = L1_J7_fill_53178_38 n_10 (xso SC ad ws_6) i0 a1.toInt x2_5.toInt) → Wt G SC ad A s H locs ws_6 → Fr SC [38] ws0 ws_6 → lv_has ls 4 [(3, .int v_3), (2, .int x2_5), (0, .ref (ad i0)), (1, .int a1)] → W p l e (rmd 1 0 0) s m args below meth c H locs 0 0 Q (F0 m 5 ls []) := by
    intro n_10
    induction n_10 with
    | zero => intro x2_5 H locs ls ws_6 hn_11 b_12 b_13 HE h hF_7 hl; exact ((o12_42 b_12 b_13 hn_11)).elim
    | succ n_10 ih_9 =>
      intro x2_5 H locs ls ws_6 hn_11 b_12 b_13 HE h hF_7 hl
      obtain ⟨R5, hR5⟩ : ∃ z, z = L1_J7_fill_53178_38 n_10 := ⟨_, rfl⟩
      replace HE : FT = g2l_J7_fill_53178_38 R5 (xso SC ad ws_6) i0 a1.toInt x2_5.toInt := HE.trans (by rw [hR5]; rfl)
      refine lv_iload_n C0.1 C0.2.1 dJ7_fill_53178_5 rfl (lv_at hl 1 rfl) ?_
      refine lv_iload_n C0.1 C0.2.1 dJ7_fill_53178_6 rfl (lv_at hl 0 rfl) ?_
      replace HE : FT = g3b_J7_fill_53178_38 R5 (xso SC ad ws_6) x2_5.toInt i0 a1.toInt := HE.trans rfl
      refine y_icmp_ge (tgt := 20) C0 dJ7_fill_53178_7 (by decide) (fun c_14 => ?_) (fun c_14 => ?_)
      · -- 7
        replace HE : FT = g4_J7_fill_53178_38 (xso SC ad ws_6) := HE.trans (if_neg (o12_44 e_4 b_12 b_13 hn_11 c_14))
        replace HE : FT = ((xso SC ad ws_6), 0) := HE.trans rfl
        rw [hQ]
        exact y_vret C0 h hF_7 (congrArg Prod.fst (HE.symm.trans hFT)) dJ7_fill_53178_20
      · -- 7
        replace HE : FT = g5_J7_fill_53178_38 R5 (xso SC ad ws_6) i0 a1.toInt x2_5.toInt := HE.trans (if_pos (o12_45 e_4 b_12 b_13 hn_11 c_14))
        refine lv_aload_n C0.1 C0.2.1 dJ7_fill_53178_10 rfl (lv_at hl 2 rfl) ?_
        refine lv_iload_n C0.1 C0.2.1 dJ7_fill_53178_11 rfl (lv_at hl 1 rfl) ?_
        refine lv_iload_n C0.1 C0.2.1 dJ7_fill_53178_12 rfl (lv_at hl 3 rfl) ?_
        have hO_17 := h.2
        refine y_iast C0 h hi0 rfl (by decide) (o12_46 e_4 b_12 b_13 hn_11 c_14) (o12_47 e_4 b_12 b_13 hn_11 c_14) (le_min a1) (le_max a1) dJ7_fill_53178_13 (fun H locs ws_15 h u_16 => ?_)
        replace HE : FT = g6w_J7_fill_53178_38 R5 (xso SC ad ws_15) i0 a1.toInt x2_5.toInt := HE.trans (by rw [(xso_A (i := i0) hO_17 h.2 hi0 rfl u_16)]; rfl)
        refine y_inc (kp := 1) (n := 1) (fun v_18 => [(2, .int v_18), (3, .int v_3), (0, .ref (ad i0)), (1, .int a1)]) C0 hl rfl (by decide) (by decide) (fun _ => rfl) (o12_50 e_4 b_12 b_13 hn_11 c_14 (le_min x2_5) (le_max x2_5) (le_min v_3) (le_max v_3)) (o12_51 e_4 b_12 b_13 hn_11 c_14 (le_min x2_5) (le_max x2_5) (le_min v_3) (le_max v_3)) dJ7_fill_53178_14 (fun v_18 ls e_19 hl => ?_)
        refine lv_goto (tgt := 5) C0.1 C0.2.1 dJ7_fill_53178_17 (by decide) ?_
        exact ih_9 v_18 _ _ _ _ (o12_52 e_4 b_12 b_13 hn_11 c_14 e_19) (o12_53 e_4 b_12 b_13 hn_11 c_14 e_19) (o12_54 e_4 b_12 b_13 hn_11 c_14 e_19) (((show FT = R5 (xso SC ad ws_15) i0 a1.toInt v_18.toInt from HE.trans (by rw [e_19]; rfl)).trans (by rw [hR5]))) h (Fr.tr hF_7 (Fr.up u_16.1 hi0 (by decide))) (lv_sub hl [1, 0, 2, 3] rfl)
  exact lp_8 ((100 - v_1.toInt + 1).toNat) v_1 _ _ _ _ (o12_55 e_2) (o12_14 e_2) (o12_56 e_2) ((show FT = L1_J7_fill_53178_38 (Int.toNat (100 - v_1.toInt + 1)) (xso SC ad ws0) i0 a1.toInt v_1.toInt from HE.trans (by rw [e_2]; rfl))) h Fr.rf (lv_sub hl [0, 1, 2, 3] rfl)
noncomputable def g4_J7_fill_d0a16 (s : XS) : XR := (s, 0)
noncomputable def g6w_J7_fill_d0a16 (R6 : XS → Nat → Int → Int → XR) (s : XS) (i0 : Nat) (a1 : Int) (x3_5 : Int) : XR := R6 s i0 a1 ((x3_5 + 1))
noncomputable def g5_J7_fill_d0a16 (R6 : XS → Nat → Int → Int → XR) (s : XS) (i0 : Nat) (a1 : Int) (x3_5 : Int) : XR := g6w_J7_fill_d0a16 R6 (xup s 2 i0 (Int.toNat x3_5) (a1)) i0 a1 x3_5
noncomputable def g3b_J7_fill_d0a16 (R6 : XS → Nat → Int → Int → XR) (s : XS) (x3_5 : Int) (i0 : Nat) (a1 : Int) : XR := if x3_5 < 40 then g5_J7_fill_d0a16 R6 s i0 a1 x3_5 else g4_J7_fill_d0a16 s
noncomputable def g2l_J7_fill_d0a16 (R6 : XS → Nat → Int → Int → XR) (s : XS) (i0 : Nat) (a1 : Int) (x3_5 : Int) : XR := g3b_J7_fill_d0a16 R6 s x3_5 i0 a1
noncomputable def L1_J7_fill_d0a16 (n : Nat) : XS → Nat → Int → Int → XR := Nat.rec (motive := fun _ => XS → Nat → Int → Int → XR) (fun s _ _ _ => (s, 0)) (fun _ R6 => g2l_J7_fill_d0a16 R6) n
noncomputable def f_J7_fill_d0a16 (s : XS) (i0 : Nat) (a1 : Int) : XR := L1_J7_fill_d0a16 (Int.toNat (40 - 0 + 1)) s i0 a1 0
set_option maxHeartbeats 4000000 in
set_option maxRecDepth 100000 in
theorem c_J7_fill_d0a16 (l : Launch) (G : GG) (Z : RZ) (ad : Nat → Nat) (ws0 : va_W) (hT : Ty G SC ad ws0) (i0 : Nat) (hi0 : Kd SC i0 43) (a1 : Int64) : Mq l yJ7_fill_d0a16 cJ7_fill_d0a16 5 none 1 G Z [.ref (ad i0), .long a1] ws0 (PV G SC ad [43] ws0 (fun u => (xso SC ad u = (f_J7_fill_d0a16 (xso SC ad ws0) i0 a1.toInt).1))) := by
  refine Mq.start (by decide) (Nat.le_of_ble_eq_true rfl) ?_
  intro p e s m below meth c A ls C0 hZ h hl
  have hl : lv_has ls 5 [(0, .ref (ad i0)), (1, .long a1)] := hl
  have h : Wt G SC ad A s s.heap [] ws0 := ⟨h, hT⟩
  obtain ⟨args, hargs⟩ : ∃ z, z = ([.ref (ad i0), .long a1] : List Value).toArray := ⟨_, rfl⟩
  rw [← hargs] at C0 ⊢
  have C0 : Cx p s m args meth c RJ7 cJ7_fill_d0a16 5 none := C0
  obtain ⟨Q, hQ⟩ : ∃ z, z = MQ below ((PV G SC ad [43] ws0 (fun u => (xso SC ad u = (f_J7_fill_d0a16 (xso SC ad ws0) i0 a1.toInt).1))) A) args s 0 0 A := ⟨_, rfl⟩
  rw [← hQ]
  obtain ⟨FT, hFT⟩ : ∃ z, z = f_J7_fill_d0a16 (xso SC ad ws0) i0 a1.toInt := ⟨_, rfl⟩
  have HE : FT = f_J7_fill_d0a16 (xso SC ad ws0) i0 a1.toInt := hFT
  refine y_c1 (n := 0) C0 (by decide) dJ7_fill_d0a16_0 (fun v_1 e_2 => ?_)
  refine lv_istore_n (lv' := [(3, .int v_1), (0, .ref (ad i0)), (1, .long a1)]) C0.1 C0.2.1 dJ7_fill_d0a16_1 rfl hl (by decide) rfl (fun ls hl => ?_)
  refine lv_aload_n C0.1 C0.2.1 dJ7_fill_d0a16_2 rfl (lv_at hl 1 rfl) ?_
  refine y_alenL C0 h hi0 rfl (by decide) dJ7_fill_d0a16_3 (fun v_3 e_4 => ?_)
  refine lv_istore (lv' := [(4, .int v_3), (3, .int v_1), (0, .ref (ad i0)), (1, .long a1)]) C0.1 C0.2.1 dJ7_fill_d0a16_4 hl (by decide) rfl (fun ls hl => ?_)
  have lp_8 : ∀ (n_10 : Nat) (x3_5 : Int32) (H : Heap) (locs : List Loc) (ls : Array Slot) (ws_6 : va_W), 40 - x3_5.toInt < (n_10 : Int) → 0 ≤ x3_5.toInt → x3_5.toInt ≤ 40 → (FT = L1_J7_fill_d0a16 n_10 (xso SC ad ws_6) i0 a1.toInt x3_5.toInt) → Wt G SC ad A s H locs ws_6 → Fr SC [43] ws0 ws_6 → lv_has ls 5 [(4, .int v_3), (3, .int x3_5), (0, .ref (ad i0)), (1, .long a1)] → W p l e (rmd 1 0 0) s m args below meth c H locs 0 0 Q (F0 m 6 ls []) := by
    intro n_10
    induction n_10 with
    | zero => intro x3_5 H locs ls ws_6 hn_11 b_12 b_13 HE h hF_7 hl; exact ((o12_57 b_12 b_13 hn_11)).elim
    | succ n_10 ih_9 =>
      intro x3_5 H locs ls ws_6 hn_11 b_12 b_13 HE h hF_7 hl
      obtain ⟨R6, hR6⟩ : ∃ z, z = L1_J7_fill_d0a16 n_10 := ⟨_, rfl⟩
      replace HE : FT = g2l_J7_fill_d0a16 R6 (xso SC ad ws_6) i0 a1.toInt x3_5.toInt := HE.trans (by rw [hR6]; rfl)
      refine lv_iload_n C0.1 C0.2.1 dJ7_fill_d0a16_6 rfl (lv_at hl 1 rfl) ?_
      refine lv_iload C0.1 C0.2.1 dJ7_fill_d0a16_7 (lv_at hl 0 rfl) ?_
      replace HE : FT = g3b_J7_fill_d0a16 R6 (xso SC ad ws_6) x3_5.toInt i0 a1.toInt := HE.trans rfl
      refine y_icmp_ge (tgt := 22) C0 dJ7_fill_d0a16_9 (by decide) (fun c_14 => ?_) (fun c_14 => ?_)
      · -- 9
        replace HE : FT = g4_J7_fill_d0a16 (xso SC ad ws_6) := HE.trans (if_neg (o12_59 e_4 b_12 b_13 hn_11 c_14))
        replace HE : FT = ((xso SC ad ws_6), 0) := HE.trans rfl
        rw [hQ]
        exact y_vret C0 h hF_7 (congrArg Prod.fst (HE.symm.trans hFT)) dJ7_fill_d0a16_22
      · -- 9
        replace HE : FT = g5_J7_fill_d0a16 R6 (xso SC ad ws_6) i0 a1.toInt x3_5.toInt := HE.trans (if_pos (o12_60 e_4 b_12 b_13 hn_11 c_14))
        refine lv_aload_n C0.1 C0.2.1 dJ7_fill_d0a16_12 rfl (lv_at hl 2 rfl) ?_
        refine lv_iload_n C0.1 C0.2.1 dJ7_fill_d0a16_13 rfl (lv_at hl 1 rfl) ?_
        refine lv_lload_n C0.1 C0.2.1 dJ7_fill_d0a16_14 rfl (lv_at hl 3 rfl) ?_
        have hO_17 := h.2
        refine y_last C0 h hi0 rfl (by decide) (o12_61 e_4 b_12 b_13 hn_11 c_14) (o12_62 e_4 b_12 b_13 hn_11 c_14) dJ7_fill_d0a16_15 (fun H locs ws_15 h u_16 => ?_)
        replace HE : FT = g6w_J7_fill_d0a16 R6 (xso SC ad ws_15) i0 a1.toInt x3_5.toInt := HE.trans (by rw [(xso_L (i := i0) hO_17 h.2 hi0 rfl u_16)]; rfl)
        refine y_inc (kp := 1) (n := 1) (fun v_18 => [(3, .int v_18), (4, .int v_3), (0, .ref (ad i0)), (1, .long a1)]) C0 hl rfl (by decide) (by decide) (fun _ => rfl) (o12_63 e_4 b_12 b_13 hn_11 c_14 (le_min x3_5) (le_max x3_5) (le_min v_3) (le_max v_3)) (o12_64 e_4 b_12 b_13 hn_11 c_14 (le_min x3_5) (le_max x3_5) (le_min v_3) (le_max v_3)) dJ7_fill_d0a16_16 (fun v_18 ls e_19 hl => ?_)
        refine lv_goto (tgt := 6) C0.1 C0.2.1 dJ7_fill_d0a16_19 (by decide) ?_
        exact ih_9 v_18 _ _ _ _ (o12_65 e_4 b_12 b_13 hn_11 c_14 e_19) (o12_66 e_4 b_12 b_13 hn_11 c_14 e_19) (o12_67 e_4 b_12 b_13 hn_11 c_14 e_19) (((show FT = R6 (xso SC ad ws_15) i0 a1.toInt v_18.toInt from HE.trans (by rw [e_19]; rfl)).trans (by rw [hR6]))) h (Fr.tr hF_7 (Fr.up u_16.1 hi0 (by decide))) (lv_sub hl [1, 0, 2, 3] rfl)
  exact lp_8 ((40 - v_1.toInt + 1).toNat) v_1 _ _ _ _ (o12_68 e_2) (o12_14 e_2) (o12_69 e_2) ((show FT = L1_J7_fill_d0a16 (Int.toNat (40 - v_1.toInt + 1)) (xso SC ad ws0) i0 a1.toInt v_1.toInt from HE.trans (by rw [e_2]; rfl))) h Fr.rf (lv_sub hl [0, 1, 2, 3] rfl)
noncomputable def f_J6_bitCount_0f7a4 (s : XS) (a0 : Int) : XR := (s, (Xiand (Xiadd (Xiadd (Xiand (Xiadd (Xiadd (Xiand (Xisub a0 (Xiand (Xiushr a0 1) 1431655765)) 858993459) (Xiand (Xiushr (Xisub a0 (Xiand (Xiushr a0 1) 1431655765)) 2) 858993459)) (Xiushr (Xiadd (Xiand (Xisub a0 (Xiand (Xiushr a0 1) 1431655765)) 858993459) (Xiand (Xiushr (Xisub a0 (Xiand (Xiushr a0 1) 1431655765)) 2) 858993459)) 4)) 252645135) (Xiushr (Xiand (Xiadd (Xiadd (Xiand (Xisub a0 (Xiand (Xiushr a0 1) 1431655765)) 858993459) (Xiand (Xiushr (Xisub a0 (Xiand (Xiushr a0 1) 1431655765)) 2) 858993459)) (Xiushr (Xiadd (Xiand (Xisub a0 (Xiand (Xiushr a0 1) 1431655765)) 858993459) (Xiand (Xiushr (Xisub a0 (Xiand (Xiushr a0 1) 1431655765)) 2) 858993459)) 4)) 252645135) 8)) (Xiushr (Xiadd (Xiand (Xiadd (Xiadd (Xiand (Xisub a0 (Xiand (Xiushr a0 1) 1431655765)) 858993459) (Xiand (Xiushr (Xisub a0 (Xiand (Xiushr a0 1) 1431655765)) 2) 858993459)) (Xiushr (Xiadd (Xiand (Xisub a0 (Xiand (Xiushr a0 1) 1431655765)) 858993459) (Xiand (Xiushr (Xisub a0 (Xiand (Xiushr a0 1) 1431655765)) 2) 858993459)) 4)) 252645135) (Xiushr (Xiand (Xiadd (Xiadd (Xiand (Xisub a0 (Xiand (Xiushr a0 1) 1431655765)) 858993459) (Xiand (Xiushr (Xisub a0 (Xiand (Xiushr a0 1) 1431655765)) 2) 858993459)) (Xiushr (Xiadd (Xiand (Xisub a0 (Xiand (Xiushr a0 1) 1431655765)) 858993459) (Xiand (Xiushr (Xisub a0 (Xiand (Xiushr a0 1) 1431655765)) 2) 858993459)) 4)) 252645135) 8)) 16)) 63))
set_option maxHeartbeats 4000000 in
set_option maxRecDepth 100000 in
theorem c_J6_bitCount_0f7a4 (l : Launch) (G : GG) (Z : RZ) (ad : Nat → Nat) (ws0 : va_W) (hT : Ty G SC ad ws0) (a0 : Int32) : Mq l yJ6_bitCount_0f7a4 cJ6_bitCount_0f7a4 1 (some .int) 1 G Z [.int a0] ws0 (PI G SC ad [] ws0 (fun r u => (xso SC ad u = (f_J6_bitCount_0f7a4 (xso SC ad ws0) a0.toInt).1) ∧ (r.toInt = (f_J6_bitCount_0f7a4 (xso SC ad ws0) a0.toInt).2) ∧ (0 ≤ r.toInt) ∧ (r.toInt ≤ 63))) := by
  refine Mq.start (by decide) (Nat.le_of_ble_eq_true rfl) ?_
  intro p e s m below meth c A ls C0 hZ h hl
  have hl : lv_has ls 1 [(0, .int a0)] := hl
  have h : Wt G SC ad A s s.heap [] ws0 := ⟨h, hT⟩
  obtain ⟨args, hargs⟩ : ∃ z, z = ([.int a0] : List Value).toArray := ⟨_, rfl⟩
  rw [← hargs] at C0 ⊢
  have C0 : Cx p s m args meth c RJ6 cJ6_bitCount_0f7a4 1 (some .int) := C0
  obtain ⟨Q, hQ⟩ : ∃ z, z = MQ below ((PI G SC ad [] ws0 (fun r u => (xso SC ad u = (f_J6_bitCount_0f7a4 (xso SC ad ws0) a0.toInt).1) ∧ (r.toInt = (f_J6_bitCount_0f7a4 (xso SC ad ws0) a0.toInt).2) ∧ (0 ≤ r.toInt) ∧ (r.toInt ≤ 63))) A) args s 0 0 A := ⟨_, rfl⟩
  rw [← hQ]
  obtain ⟨FT, hFT⟩ : ∃ z, z = f_J6_bitCount_0f7a4 (xso SC ad ws0) a0.toInt := ⟨_, rfl⟩
  have HE : FT = f_J6_bitCount_0f7a4 (xso SC ad ws0) a0.toInt := hFT
  refine lv_iload_n C0.1 C0.2.1 dJ6_bitCount_0f7a4_0 rfl (lv_at hl 0 rfl) ?_
  refine lv_iload_n C0.1 C0.2.1 dJ6_bitCount_0f7a4_1 rfl (lv_at hl 0 rfl) ?_
  refine y_c1 (n := 1) C0 (by decide) dJ6_bitCount_0f7a4_2 (fun v_1 e_2 => ?_)
  refine xr_iushr C0 dJ6_bitCount_0f7a4_3 (fun v_3 e_4 => ?_)
  refine y_c5 (n := 1431655765) C0 q_1037 (by decide) dJ6_bitCount_0f7a4_4 (fun v_5 e_6 => ?_)
  refine xr_iand C0 dJ6_bitCount_0f7a4_7 (fun v_7 e_8 => ?_)
  refine xr_isub C0 dJ6_bitCount_0f7a4_8 (fun v_9 e_10 => ?_)
  refine lv_istore_n (lv' := [(0, .int v_9)]) C0.1 C0.2.1 dJ6_bitCount_0f7a4_9 rfl hl (by decide) rfl (fun ls hl => ?_)
  refine lv_iload_n C0.1 C0.2.1 dJ6_bitCount_0f7a4_10 rfl (lv_at hl 0 rfl) ?_
  refine y_c5 (n := 858993459) C0 q_1038 (by decide) dJ6_bitCount_0f7a4_11 (fun v_11 e_12 => ?_)
  refine xr_iand C0 dJ6_bitCount_0f7a4_14 (fun v_13 e_14 => ?_)
  refine lv_iload_n C0.1 C0.2.1 dJ6_bitCount_0f7a4_15 rfl (lv_at hl 0 rfl) ?_
  refine y_c1 (n := 2) C0 (by decide) dJ6_bitCount_0f7a4_16 (fun v_15 e_16 => ?_)
  refine xr_iushr C0 dJ6_bitCount_0f7a4_17 (fun v_17 e_18 => ?_)
  refine y_c5 (n := 858993459) C0 q_1038 (by decide) dJ6_bitCount_0f7a4_18 (fun v_19 e_20 => ?_)
  refine xr_iand C0 dJ6_bitCount_0f7a4_21 (fun v_21 e_22 => ?_)
  refine xr_iadd C0 dJ6_bitCount_0f7a4_22 (fun v_23 e_24 => ?_)
  refine lv_istore_n (lv' := [(0, .int v_23)]) C0.1 C0.2.1 dJ6_bitCount_0f7a4_23 rfl hl (by decide) rfl (fun ls hl => ?_)
  refine lv_iload_n C0.1 C0.2.1 dJ6_bitCount_0f7a4_24 rfl (lv_at hl 0 rfl) ?_
  refine lv_iload_n C0.1 C0.2.1 dJ6_bitCount_0f7a4_25 rfl (lv_at hl 0 rfl) ?_
  refine y_c1 (n := 4) C0 (by decide) dJ6_bitCount_0f7a4_26 (fun v_25 e_26 => ?_)
  refine xr_iushr C0 dJ6_bitCount_0f7a4_27 (fun v_27 e_28 => ?_)
  refine xr_iadd C0 dJ6_bitCount_0f7a4_28 (fun v_29 e_30 => ?_)
  refine y_c5 (n := 252645135) C0 q_1039 (by decide) dJ6_bitCount_0f7a4_29 (fun v_31 e_32 => ?_)
  refine xr_iand C0 dJ6_bitCount_0f7a4_32 (fun v_33 e_34 => ?_)
  refine lv_istore_n (lv' := [(0, .int v_33)]) C0.1 C0.2.1 dJ6_bitCount_0f7a4_33 rfl hl (by decide) rfl (fun ls hl => ?_)
  refine lv_iload_n C0.1 C0.2.1 dJ6_bitCount_0f7a4_34 rfl (lv_at hl 0 rfl) ?_
  refine lv_iload_n C0.1 C0.2.1 dJ6_bitCount_0f7a4_35 rfl (lv_at hl 0 rfl) ?_
  refine y_c2 (n := 8) C0 (by decide) dJ6_bitCount_0f7a4_36 (fun v_35 e_36 => ?_)
  refine xr_iushr C0 dJ6_bitCount_0f7a4_38 (fun v_37 e_38 => ?_)
  refine xr_iadd C0 dJ6_bitCount_0f7a4_39 (fun v_39 e_40 => ?_)
  refine lv_istore_n (lv' := [(0, .int v_39)]) C0.1 C0.2.1 dJ6_bitCount_0f7a4_40 rfl hl (by decide) rfl (fun ls hl => ?_)
  refine lv_iload_n C0.1 C0.2.1 dJ6_bitCount_0f7a4_41 rfl (lv_at hl 0 rfl) ?_
  refine lv_iload_n C0.1 C0.2.1 dJ6_bitCount_0f7a4_42 rfl (lv_at hl 0 rfl) ?_
  refine y_c2 (n := 16) C0 (by decide) dJ6_bitCount_0f7a4_43 (fun v_41 e_42 => ?_)
  refine xr_iushr C0 dJ6_bitCount_0f7a4_45 (fun v_43 e_44 => ?_)
  refine xr_iadd C0 dJ6_bitCount_0f7a4_46 (fun v_45 e_46 => ?_)
  refine lv_istore_n (lv' := [(0, .int v_45)]) C0.1 C0.2.1 dJ6_bitCount_0f7a4_47 rfl hl (by decide) rfl (fun ls hl => ?_)
  refine lv_iload_n C0.1 C0.2.1 dJ6_bitCount_0f7a4_48 rfl (lv_at hl 0 rfl) ?_
  refine y_c2 (n := 63) C0 (by decide) dJ6_bitCount_0f7a4_49 (fun v_47 e_48 => ?_)
  refine xr_iand C0 dJ6_bitCount_0f7a4_51 (fun v_49 e_50 => ?_)
  replace HE : FT = ((xso SC ad ws0), v_49.toInt) := HE.trans (by rw [e_50, e_48, e_46, e_44, e_42, e_40, e_38, e_36, e_34, e_32, e_30, e_28, e_26, e_24, e_22, e_20, e_18, e_16, e_14, e_12, e_10, e_8, e_6, e_4, e_2]; rfl)
  rw [hQ]
  exact y_iret C0 h Fr.rf ⟨(congrArg Prod.fst (HE.symm.trans hFT)), (congrArg Prod.snd (HE.symm.trans hFT)), (o12_76 (xb_and 63 6 (n := 63) e_50 (Eq.trans (o12_75 e_48) (by decide)) (by decide) (by decide) (by decide)).1 (xb_and 63 6 (n := 63) e_50 (Eq.trans (o12_75 e_48) (by decide)) (by decide) (by decide) (by decide)).2), (o12_77 (xb_and 63 6 (n := 63) e_50 (Eq.trans (o12_75 e_48) (by decide)) (by decide) (by decide) (by decide)).1 (xb_and 63 6 (n := 63) e_50 (Eq.trans (o12_75 e_48) (by decide)) (by decide) (by decide) (by decide)).2)⟩ dJ6_bitCount_0f7a4_52
noncomputable def g5w_X1_clear (s : XS) : XR := (s, 0)
noncomputable def g4w_X1_clear (s : XS) (i0 : Nat) : XR := g5w_X1_clear (xup s 0 i0 8 0)
noncomputable def g3c_X1_clear (s : XS) (i0 : Nat) : XR := g4w_X1_clear (xup s 0 i0 7 0) i0
noncomputable def g2c_X1_clear (s : XS) (i0 : Nat) : XR := g3c_X1_clear ((f_J7_fill_53178_13 s (i0 + 7) 0).1) i0
noncomputable def g1c_X1_clear (s : XS) (i0 : Nat) : XR := g2c_X1_clear ((f_J7_fill_53178_12 s (i0 + 6) 0).1) i0
noncomputable def f_X1_clear (s : XS) (i0 : Nat) : XR := g1c_X1_clear ((f_J7_fill_53178_11 s (i0 + 5) 0).1) i0
set_option maxHeartbeats 4000000 in
set_option maxRecDepth 100000 in
theorem c_X1_clear (l : Launch) (G : GG) (Z : RZ) (ad : Nat → Nat) (ws0 : va_W) (hT : Ty G SC ad ws0) (i0 : Nat) (hi0 : Kd SC i0 6) : Mq l yX1_clear cX1_clear 1 none 2 G Z [.ref (ad i0)] ws0 (PV G SC ad [6, 11, 12, 13] ws0 (fun u => (xso SC ad u = (f_X1_clear (xso SC ad ws0) i0).1))) := by
  refine Mq.start (by decide) (Nat.le_of_ble_eq_true rfl) ?_
  intro p e s m below meth c A ls C0 hZ h hl
  have hl : lv_has ls 1 [(0, .ref (ad i0))] := hl
  have h : Wt G SC ad A s s.heap [] ws0 := ⟨h, hT⟩
  obtain ⟨args, hargs⟩ : ∃ z, z = ([.ref (ad i0)] : List Value).toArray := ⟨_, rfl⟩
  rw [← hargs] at C0 ⊢
  have C0 : Cx p s m args meth c RX1 cX1_clear 1 none := C0
  obtain ⟨Q, hQ⟩ : ∃ z, z = MQ below ((PV G SC ad [6, 11, 12, 13] ws0 (fun u => (xso SC ad u = (f_X1_clear (xso SC ad ws0) i0).1))) A) args s 0 0 A := ⟨_, rfl⟩
  rw [← hQ]
  obtain ⟨FT, hFT⟩ : ∃ z, z = f_X1_clear (xso SC ad ws0) i0 := ⟨_, rfl⟩
  have HE : FT = f_X1_clear (xso SC ad ws0) i0 := hFT
  refine lv_aload_n C0.1 C0.2.1 dX1_clear_0 rfl (lv_at hl 0 rfl) ?_
  refine tg_X1_used C0 h hi0 q_202 dX1_clear_1 ?_
  refine y_c1 (n := 0) C0 (by decide) dX1_clear_4 (fun v_1 e_2 => ?_)
  refine y_cv h (y_rS (As := [.ref (ad (i0 + 5)), .int v_1]) (rest := []) C0 hZ h (c_J7_fill_53178_11 l G Z ad _ h.2 (i0 + 5) ((rSC_6_5 hi0)) v_1 (o12_14 e_2) (o12_78 e_2)) k_J7_fill_53178 q_611 q_610 hl.1 rfl rfl (Nat.le_of_ble_eq_true rfl) dX1_clear_5 ⟨Nat.le_of_ble_eq_true rfl, Nat.le_of_ble_eq_true rfl⟩ ⟨Nat.le_of_ble_eq_true rfl, Nat.le_of_ble_eq_true rfl⟩) (fun H locs ws_3 h u_4 p_5 => ?_)
  have e_6 := p_5
  replace HE : FT = g1c_X1_clear (xso SC ad ws_3) i0 := HE.trans (by rw [e_6, e_2]; rfl)
  refine lv_aload_n C0.1 C0.2.1 dX1_clear_8 rfl (lv_at hl 0 rfl) ?_
  refine tg_X1_sold C0 h hi0 q_205 dX1_clear_9 ?_
  refine y_c1 (n := 0) C0 (by decide) dX1_clear_12 (fun v_7 e_8 => ?_)
  refine y_cv h (y_rS (As := [.ref (ad (i0 + 6)), .int v_7]) (rest := []) C0 hZ h (c_J7_fill_53178_12 l G Z ad _ h.2 (i0 + 6) ((rSC_6_6 hi0)) v_7 (o12_14 e_8) (o12_78 e_8)) k_J7_fill_53178 q_611 q_610 hl.1 rfl rfl (Nat.le_of_ble_eq_true rfl) dX1_clear_13 ⟨Nat.le_of_ble_eq_true rfl, Nat.le_of_ble_eq_true rfl⟩ ⟨Nat.le_of_ble_eq_true rfl, Nat.le_of_ble_eq_true rfl⟩) (fun H locs ws_9 h u_10 p_11 => ?_)
  have e_12 := p_11
  replace HE : FT = g2c_X1_clear (xso SC ad ws_9) i0 := HE.trans (by rw [e_12, e_8]; rfl)
  refine lv_aload_n C0.1 C0.2.1 dX1_clear_16 rfl (lv_at hl 0 rfl) ?_
  refine tg_X1_fogEnds C0 h hi0 q_210 dX1_clear_17 ?_
  refine y_c1 (n := 0) C0 (by decide) dX1_clear_20 (fun v_13 e_14 => ?_)
  refine y_cv h (y_rS (As := [.ref (ad (i0 + 7)), .int v_13]) (rest := []) C0 hZ h (c_J7_fill_53178_13 l G Z ad _ h.2 (i0 + 7) ((rSC_6_7 hi0)) v_13 (o12_14 e_14) (o12_78 e_14)) k_J7_fill_53178 q_611 q_610 hl.1 rfl rfl (Nat.le_of_ble_eq_true rfl) dX1_clear_21 ⟨Nat.le_of_ble_eq_true rfl, Nat.le_of_ble_eq_true rfl⟩ ⟨Nat.le_of_ble_eq_true rfl, Nat.le_of_ble_eq_true rfl⟩) (fun H locs ws_15 h u_16 p_17 => ?_)
  have e_18 := p_17
  replace HE : FT = g3c_X1_clear (xso SC ad ws_15) i0 := HE.trans (by rw [e_18, e_14]; rfl)
  refine lv_aload_n C0.1 C0.2.1 dX1_clear_24 rfl (lv_at hl 0 rfl) ?_
  refine y_c1 (n := 0) C0 (by decide) dX1_clear_25 (fun v_19 e_20 => ?_)
  refine tp_X1_people C0 h hi0 q_213 (o12_14 e_20) (o12_15 e_20) dX1_clear_26 (fun H locs ws_21 h u_22 Xu_22 => ?_)
  replace HE : FT = g4w_X1_clear (xso SC ad ws_21) i0 := HE.trans (by rw [Xu_22, e_20]; rfl)
  refine lv_aload_n C0.1 C0.2.1 dX1_clear_29 rfl (lv_at hl 0 rfl) ?_
  refine y_c1 (n := 0) C0 (by decide) dX1_clear_30 (fun v_23 e_24 => ?_)
  refine tp_X1_hours C0 h hi0 q_217 (le_min v_23) (le_max v_23) dX1_clear_31 (fun H locs ws_25 h u_26 Xu_26 => ?_)
  replace HE : FT = g5w_X1_clear (xso SC ad ws_25) := HE.trans (by rw [Xu_26, e_24]; rfl)
  replace HE : FT = ((xso SC ad ws_25), 0) := HE.trans rfl
  rw [hQ]
  exact y_vret C0 h (Fr.tr (Fr.tr (Fr.tr (Fr.tr (Fr.mono u_4 (by decide)) (Fr.mono u_10 (by decide))) (Fr.mono u_16 (by decide))) (Fr.up u_22.1 hi0 (by decide))) (Fr.up u_26.1 hi0 (by decide))) (congrArg Prod.fst (HE.symm.trans hFT)) dX1_clear_34
noncomputable def g9w_X1_copy (s : XS) : XR := (s, 0)
noncomputable def g8w_X1_copy (s : XS) (i0 : Nat) (i1 : Nat) : XR := g9w_X1_copy (xup s 0 i0 8 (s 0 i1 8))
noncomputable def g7w_X1_copy (s : XS) (i0 : Nat) (i1 : Nat) : XR := g8w_X1_copy (xup s 0 i0 7 (s 0 i1 7)) i0 i1
noncomputable def g6w_X1_copy (s : XS) (i0 : Nat) (i1 : Nat) : XR := g7w_X1_copy (xcp s (i1 + 7) (i0 + 7) 25) i0 i1
noncomputable def g5w_X1_copy (s : XS) (i0 : Nat) (i1 : Nat) : XR := g6w_X1_copy (xcp s (i1 + 6) (i0 + 6) 25) i0 i1
noncomputable def g4w_X1_copy (s : XS) (i0 : Nat) (i1 : Nat) : XR := g5w_X1_copy (xcp s (i1 + 5) (i0 + 5) 5) i0 i1
noncomputable def g3w_X1_copy (s : XS) (i0 : Nat) (i1 : Nat) : XR := g4w_X1_copy (xcp s (i1 + 4) (i0 + 4) 5) i0 i1
noncomputable def g2w_X1_copy (s : XS) (i0 : Nat) (i1 : Nat) : XR := g3w_X1_copy (xcp s (i1 + 3) (i0 + 3) 5) i0 i1
noncomputable def g1w_X1_copy (s : XS) (i0 : Nat) (i1 : Nat) : XR := g2w_X1_copy (xcp s (i1 + 2) (i0 + 2) 5) i0 i1
noncomputable def f_X1_copy (s : XS) (i0 : Nat) (i1 : Nat) : XR := g1w_X1_copy (xcp s (i1 + 1) (i0 + 1) 5) i0 i1
set_option maxHeartbeats 4000000 in
set_option maxRecDepth 100000 in
theorem c_X1_copy (l : Launch) (G : GG) (Z : RZ) (ad : Nat → Nat) (ws0 : va_W) (hT : Ty G SC ad ws0) (i0 : Nat) (hi0 : Kd SC i0 6) (i1 : Nat) (hi1 : Kd SC i1 6) : Mq l yX1_copy cX1_copy 2 none 1 G Z [.ref (ad i0), .ref (ad i1)] ws0 (PV G SC ad [6, 7, 8, 9, 10, 11, 12, 13] ws0 (fun u => (xso SC ad u = (f_X1_copy (xso SC ad ws0) i0 i1).1) ∧ (Out i0 8 ws0 u))) := by
  refine Mq.start (by decide) (Nat.le_of_ble_eq_true rfl) ?_
  intro p e s m below meth c A ls C0 hZ h hl
  have hl : lv_has ls 2 [(0, .ref (ad i0)), (1, .ref (ad i1))] := hl
  have h : Wt G SC ad A s s.heap [] ws0 := ⟨h, hT⟩
  obtain ⟨args, hargs⟩ : ∃ z, z = ([.ref (ad i0), .ref (ad i1)] : List Value).toArray := ⟨_, rfl⟩
  rw [← hargs] at C0 ⊢
  have C0 : Cx p s m args meth c RX1 cX1_copy 2 none := C0
  obtain ⟨Q, hQ⟩ : ∃ z, z = MQ below ((PV G SC ad [6, 7, 8, 9, 10, 11, 12, 13] ws0 (fun u => (xso SC ad u = (f_X1_copy (xso SC ad ws0) i0 i1).1) ∧ (Out i0 8 ws0 u))) A) args s 0 0 A := ⟨_, rfl⟩
  rw [← hQ]
  obtain ⟨FT, hFT⟩ : ∃ z, z = f_X1_copy (xso SC ad ws0) i0 i1 := ⟨_, rfl⟩
  have HE : FT = f_X1_copy (xso SC ad ws0) i0 i1 := hFT
  refine lv_aload_n C0.1 C0.2.1 dX1_copy_0 rfl (lv_at hl 1 rfl) ?_
  refine tg_X1_at C0 h hi1 q_190 dX1_copy_1 ?_
  refine y_c1 (n := 0) C0 (by decide) dX1_copy_4 (fun v_1 e_2 => ?_)
  refine lv_aload_n C0.1 C0.2.1 dX1_copy_5 rfl (lv_at hl 0 rfl) ?_
  refine tg_X1_at C0 h hi0 q_190 dX1_copy_6 ?_
  refine y_c1 (n := 0) C0 (by decide) dX1_copy_9 (fun v_3 e_4 => ?_)
  refine y_c1 (n := 5) C0 (by decide) dX1_copy_10 (fun v_5 e_6 => ?_)
  have hO_11 := h.2
  refine y_copy C0 h hl.1 (rSC_6_1 hi1) (rSC_6_1 hi0) rfl rfl q_871 q_866 q_865 q_145 (o12_79 e_2) (o12_79 e_4) (o12_80 e_6) (o12_81 e_6) (o12_81 e_6) (fun _ _ => ⟨by decide, by decide⟩) (Nat.le_of_ble_eq_true rfl) (Nat.le_of_ble_eq_true rfl) dX1_copy_11 (fun H locs ws_7 h u_8 c_9 c_10 => ?_)
  replace HE : FT = g1w_X1_copy (xso SC ad ws_7) i0 i1 := HE.trans (by rw [(xso_C (i := i0 + 1) (j := i1 + 1) hO_11 h.2 (rSC_6_1 hi0) rfl u_8 c_9 c_10), e_6]; rfl)
  refine lv_aload_n C0.1 C0.2.1 dX1_copy_14 rfl (lv_at hl 1 rfl) ?_
  refine tg_X1_heads C0 h hi1 q_193 dX1_copy_15 ?_
  refine y_c1 (n := 0) C0 (by decide) dX1_copy_18 (fun v_12 e_13 => ?_)
  refine lv_aload_n C0.1 C0.2.1 dX1_copy_19 rfl (lv_at hl 0 rfl) ?_
  refine tg_X1_heads C0 h hi0 q_193 dX1_copy_20 ?_
  refine y_c1 (n := 0) C0 (by decide) dX1_copy_23 (fun v_14 e_15 => ?_)
  refine y_c1 (n := 5) C0 (by decide) dX1_copy_24 (fun v_16 e_17 => ?_)
  have hO_22 := h.2
  refine y_copy C0 h hl.1 (rSC_6_2 hi1) (rSC_6_2 hi0) rfl rfl q_871 q_866 q_865 q_145 (o12_79 e_13) (o12_79 e_15) (o12_80 e_17) (o12_81 e_17) (o12_81 e_17) (fun _ _ => ⟨by decide, by decide⟩) (Nat.le_of_ble_eq_true rfl) (Nat.le_of_ble_eq_true rfl) dX1_copy_25 (fun H locs ws_18 h u_19 c_20 c_21 => ?_)
  replace HE : FT = g2w_X1_copy (xso SC ad ws_18) i0 i1 := HE.trans (by rw [(xso_C (i := i0 + 2) (j := i1 + 2) hO_22 h.2 (rSC_6_2 hi0) rfl u_19 c_20 c_21), e_17]; rfl)
  refine lv_aload_n C0.1 C0.2.1 dX1_copy_28 rfl (lv_at hl 1 rfl) ?_
  refine tg_X1_lefts C0 h hi1 q_196 dX1_copy_29 ?_
  refine y_c1 (n := 0) C0 (by decide) dX1_copy_32 (fun v_23 e_24 => ?_)
  refine lv_aload_n C0.1 C0.2.1 dX1_copy_33 rfl (lv_at hl 0 rfl) ?_
  refine tg_X1_lefts C0 h hi0 q_196 dX1_copy_34 ?_
  refine y_c1 (n := 0) C0 (by decide) dX1_copy_37 (fun v_25 e_26 => ?_)
  refine y_c1 (n := 5) C0 (by decide) dX1_copy_38 (fun v_27 e_28 => ?_)
  have hO_33 := h.2
  refine y_copy C0 h hl.1 (rSC_6_3 hi1) (rSC_6_3 hi0) rfl rfl q_871 q_866 q_865 q_145 (o12_79 e_24) (o12_79 e_26) (o12_80 e_28) (o12_81 e_28) (o12_81 e_28) (fun _ _ => ⟨by decide, by decide⟩) (Nat.le_of_ble_eq_true rfl) (Nat.le_of_ble_eq_true rfl) dX1_copy_39 (fun H locs ws_29 h u_30 c_31 c_32 => ?_)
  replace HE : FT = g3w_X1_copy (xso SC ad ws_29) i0 i1 := HE.trans (by rw [(xso_C (i := i0 + 3) (j := i1 + 3) hO_33 h.2 (rSC_6_3 hi0) rfl u_30 c_31 c_32), e_28]; rfl)
  refine lv_aload_n C0.1 C0.2.1 dX1_copy_42 rfl (lv_at hl 1 rfl) ?_
  refine tg_X1_coins C0 h hi1 q_199 dX1_copy_43 ?_
  refine y_c1 (n := 0) C0 (by decide) dX1_copy_46 (fun v_34 e_35 => ?_)
  refine lv_aload_n C0.1 C0.2.1 dX1_copy_47 rfl (lv_at hl 0 rfl) ?_
  refine tg_X1_coins C0 h hi0 q_199 dX1_copy_48 ?_
  refine y_c1 (n := 0) C0 (by decide) dX1_copy_51 (fun v_36 e_37 => ?_)
  refine y_c1 (n := 5) C0 (by decide) dX1_copy_52 (fun v_38 e_39 => ?_)
  have hO_44 := h.2
  refine y_copy C0 h hl.1 (rSC_6_4 hi1) (rSC_6_4 hi0) rfl rfl q_871 q_866 q_865 q_145 (o12_79 e_35) (o12_79 e_37) (o12_80 e_39) (o12_81 e_39) (o12_81 e_39) (fun _ _ => ⟨by decide, by decide⟩) (Nat.le_of_ble_eq_true rfl) (Nat.le_of_ble_eq_true rfl) dX1_copy_53 (fun H locs ws_40 h u_41 c_42 c_43 => ?_)
  replace HE : FT = g4w_X1_copy (xso SC ad ws_40) i0 i1 := HE.trans (by rw [(xso_C (i := i0 + 4) (j := i1 + 4) hO_44 h.2 (rSC_6_4 hi0) rfl u_41 c_42 c_43), e_39]; rfl)
  refine lv_aload_n C0.1 C0.2.1 dX1_copy_56 rfl (lv_at hl 1 rfl) ?_
  refine tg_X1_used C0 h hi1 q_202 dX1_copy_57 ?_
  refine y_c1 (n := 0) C0 (by decide) dX1_copy_60 (fun v_45 e_46 => ?_)
  refine lv_aload_n C0.1 C0.2.1 dX1_copy_61 rfl (lv_at hl 0 rfl) ?_
  refine tg_X1_used C0 h hi0 q_202 dX1_copy_62 ?_
  refine y_c1 (n := 0) C0 (by decide) dX1_copy_65 (fun v_47 e_48 => ?_)
  refine y_c1 (n := 5) C0 (by decide) dX1_copy_66 (fun v_49 e_50 => ?_)
  have hO_55 := h.2
  refine y_copy C0 h hl.1 (rSC_6_5 hi1) (rSC_6_5 hi0) rfl rfl q_871 q_866 q_865 q_145 (o12_79 e_46) (o12_79 e_48) (o12_80 e_50) (o12_81 e_50) (o12_81 e_50) (fun _ _ => ⟨by decide, by decide⟩) (Nat.le_of_ble_eq_true rfl) (Nat.le_of_ble_eq_true rfl) dX1_copy_67 (fun H locs ws_51 h u_52 c_53 c_54 => ?_)
  replace HE : FT = g5w_X1_copy (xso SC ad ws_51) i0 i1 := HE.trans (by rw [(xso_C (i := i0 + 5) (j := i1 + 5) hO_55 h.2 (rSC_6_5 hi0) rfl u_52 c_53 c_54), e_50]; rfl)
  refine lv_aload_n C0.1 C0.2.1 dX1_copy_70 rfl (lv_at hl 1 rfl) ?_
  refine tg_X1_sold C0 h hi1 q_205 dX1_copy_71 ?_
  refine y_c1 (n := 0) C0 (by decide) dX1_copy_74 (fun v_56 e_57 => ?_)
  refine lv_aload_n C0.1 C0.2.1 dX1_copy_75 rfl (lv_at hl 0 rfl) ?_
  refine tg_X1_sold C0 h hi0 q_205 dX1_copy_76 ?_
  refine y_c1 (n := 0) C0 (by decide) dX1_copy_79 (fun v_58 e_59 => ?_)
  refine y_c2 (n := 25) C0 (by decide) dX1_copy_80 (fun v_60 e_61 => ?_)
  have hO_66 := h.2
  refine y_copy C0 h hl.1 (rSC_6_6 hi1) (rSC_6_6 hi0) rfl rfl q_871 q_866 q_865 q_145 (o12_79 e_57) (o12_79 e_59) (o12_82 e_61) (o12_83 e_61) (o12_83 e_61) (fun _ _ => ⟨by decide, by decide⟩) (Nat.le_of_ble_eq_true rfl) (Nat.le_of_ble_eq_true rfl) dX1_copy_82 (fun H locs ws_62 h u_63 c_64 c_65 => ?_)
  replace HE : FT = g6w_X1_copy (xso SC ad ws_62) i0 i1 := HE.trans (by rw [(xso_C (i := i0 + 6) (j := i1 + 6) hO_66 h.2 (rSC_6_6 hi0) rfl u_63 c_64 c_65), e_61]; rfl)
  refine lv_aload_n C0.1 C0.2.1 dX1_copy_85 rfl (lv_at hl 1 rfl) ?_
  refine tg_X1_fogEnds C0 h hi1 q_210 dX1_copy_86 ?_
  refine y_c1 (n := 0) C0 (by decide) dX1_copy_89 (fun v_67 e_68 => ?_)
  refine lv_aload_n C0.1 C0.2.1 dX1_copy_90 rfl (lv_at hl 0 rfl) ?_
  refine tg_X1_fogEnds C0 h hi0 q_210 dX1_copy_91 ?_
  refine y_c1 (n := 0) C0 (by decide) dX1_copy_94 (fun v_69 e_70 => ?_)
  refine y_c2 (n := 25) C0 (by decide) dX1_copy_95 (fun v_71 e_72 => ?_)
  have hO_77 := h.2
  refine y_copy C0 h hl.1 (rSC_6_7 hi1) (rSC_6_7 hi0) rfl rfl q_871 q_866 q_865 q_145 (o12_79 e_68) (o12_79 e_70) (o12_82 e_72) (o12_83 e_72) (o12_83 e_72) (fun _ _ => ⟨by decide, by decide⟩) (Nat.le_of_ble_eq_true rfl) (Nat.le_of_ble_eq_true rfl) dX1_copy_97 (fun H locs ws_73 h u_74 c_75 c_76 => ?_)
  replace HE : FT = g7w_X1_copy (xso SC ad ws_73) i0 i1 := HE.trans (by rw [(xso_C (i := i0 + 7) (j := i1 + 7) hO_77 h.2 (rSC_6_7 hi0) rfl u_74 c_75 c_76), e_72]; rfl)
  refine lv_aload_n C0.1 C0.2.1 dX1_copy_100 rfl (lv_at hl 0 rfl) ?_
  refine lv_aload_n C0.1 C0.2.1 dX1_copy_101 rfl (lv_at hl 1 rfl) ?_
  refine tg_X1_people C0 h hi1 q_213 dX1_copy_102 (fun v_78 e_79 e_80 e_81 => ?_)
  refine tp_X1_people C0 h hi0 q_213 (o12_84 e_80 e_81) (o12_85 e_80 e_81) dX1_copy_105 (fun H locs ws_82 h u_83 Xu_83 => ?_)
  replace HE : FT = g8w_X1_copy (xso SC ad ws_82) i0 i1 := HE.trans (by rw [Xu_83, (xg0 e_79 : v_78.toInt = (xso SC ad ws_73) 0 i1 7)]; rfl)
  refine lv_aload_n C0.1 C0.2.1 dX1_copy_108 rfl (lv_at hl 0 rfl) ?_
  refine lv_aload_n C0.1 C0.2.1 dX1_copy_109 rfl (lv_at hl 1 rfl) ?_
  refine tg_X1_hours C0 h hi1 q_217 dX1_copy_110 (fun v_84 e_85 e_86 e_87 => ?_)
  refine tp_X1_hours C0 h hi0 q_217 (le_min v_84) (le_max v_84) dX1_copy_113 (fun H locs ws_88 h u_89 Xu_89 => ?_)
  replace HE : FT = g9w_X1_copy (xso SC ad ws_88) := HE.trans (by rw [Xu_89, (xg0 e_85 : v_84.toInt = (xso SC ad ws_82) 0 i1 8)]; rfl)
  replace HE : FT = ((xso SC ad ws_88), 0) := HE.trans rfl
  rw [hQ]
  exact y_vret C0 h (Fr.tr (Fr.tr (Fr.tr (Fr.tr (Fr.tr (Fr.tr (Fr.tr (Fr.tr (Fr.up u_8 (rSC_6_1 hi0) (by decide)) (Fr.up u_19 (rSC_6_2 hi0) (by decide))) (Fr.up u_30 (rSC_6_3 hi0) (by decide))) (Fr.up u_41 (rSC_6_4 hi0) (by decide))) (Fr.up u_52 (rSC_6_5 hi0) (by decide))) (Fr.up u_63 (rSC_6_6 hi0) (by decide))) (Fr.up u_74 (rSC_6_7 hi0) (by decide))) (Fr.up u_83.1 hi0 (by decide))) (Fr.up u_89.1 hi0 (by decide))) ⟨(congrArg Prod.fst (HE.symm.trans hFT)), (Out.ud (Out.ud (Out.ud (Out.ud (Out.ud (Out.ud (Out.ud (Out.ud (Out.ud Out.rf u_8 (by omega) (by omega)) u_19 (by omega) (by omega)) u_30 (by omega) (by omega)) u_41 (by omega) (by omega)) u_52 (by omega) (by omega)) u_63 (by omega) (by omega)) u_74 (by omega) (by omega)) u_83.1 (by omega) (by omega)) u_89.1 (by omega) (by omega))⟩ dX1_copy_116
noncomputable def g2_X1_settle (s : XS) : XR := (s, 0)
noncomputable def g8w_X1_settle (s : XS) : XR := (s, 0)
noncomputable def g7w_X1_settle (s : XS) (i0 : Nat) : XR := g8w_X1_settle (xup s 0 i0 7 ((s 0 i0 7) + 1))
noncomputable def g6w_X1_settle (s : XS) (i0 : Nat) (a4 : Int) : XR := g7w_X1_settle (xup s 1 (i0 + 4) (Int.toNat (s 0 i0 7)) (a4)) i0
noncomputable def g5w_X1_settle (s : XS) (i0 : Nat) (a3 : Int) (a4 : Int) : XR := g6w_X1_settle (xup s 1 (i0 + 3) (Int.toNat (s 0 i0 7)) (a3)) i0 a4
noncomputable def g4w_X1_settle (s : XS) (i0 : Nat) (a2 : Int) (a3 : Int) (a4 : Int) : XR := g5w_X1_settle (xup s 1 (i0 + 2) (Int.toNat (s 0 i0 7)) (a2)) i0 a3 a4
noncomputable def g3_X1_settle (s : XS) (i0 : Nat) (a1 : Int) (a2 : Int) (a3 : Int) (a4 : Int) : XR := g4w_X1_settle (xup s 1 (i0 + 1) (Int.toNat (s 0 i0 7)) (a1)) i0 a2 a3 a4
noncomputable def g1b_X1_settle (s : XS) (v_1 : Int) (i0 : Nat) (a1 : Int) (a2 : Int) (a3 : Int) (a4 : Int) : XR := if v_1 < 5 then g3_X1_settle s i0 a1 a2 a3 a4 else g2_X1_settle s
noncomputable def f_X1_settle (s : XS) (i0 : Nat) (a1 : Int) (a2 : Int) (a3 : Int) (a4 : Int) : XR := g1b_X1_settle s ((s 0 i0 7)) i0 a1 a2 a3 a4
set_option maxHeartbeats 4000000 in
set_option maxRecDepth 100000 in
theorem c_X1_settle (l : Launch) (G : GG) (Z : RZ) (ad : Nat → Nat) (ws0 : va_W) (hT : Ty G SC ad ws0) (i0 : Nat) (hi0 : Kd SC i0 6) (a1 : Int32) (a2 : Int32) (a3 : Int32) (a4 : Int32) (l1 : 0 ≤ a1.toInt) (u1 : a1.toInt ≤ 24) (l2 : 0 ≤ a2.toInt) (u2 : a2.toInt ≤ 3) : Mq l yX1_settle cX1_settle 5 none 1 G Z [.ref (ad i0), .int a1, .int a2, .int a3, .int a4] ws0 (PV G SC ad [6, 7, 8, 9, 10] ws0 (fun u => (xso SC ad u = (f_X1_settle (xso SC ad ws0) i0 a1.toInt a2.toInt a3.toInt a4.toInt).1))) := by
  refine Mq.start (by decide) (Nat.le_of_ble_eq_true rfl) ?_
  intro p e s m below meth c A ls C0 hZ h hl
  have hl : lv_has ls 5 [(0, .ref (ad i0)), (1, .int a1), (2, .int a2), (3, .int a3), (4, .int a4)] := hl
  have h : Wt G SC ad A s s.heap [] ws0 := ⟨h, hT⟩
  obtain ⟨args, hargs⟩ : ∃ z, z = ([.ref (ad i0), .int a1, .int a2, .int a3, .int a4] : List Value).toArray := ⟨_, rfl⟩
  rw [← hargs] at C0 ⊢
  have C0 : Cx p s m args meth c RX1 cX1_settle 5 none := C0
  obtain ⟨Q, hQ⟩ : ∃ z, z = MQ below ((PV G SC ad [6, 7, 8, 9, 10] ws0 (fun u => (xso SC ad u = (f_X1_settle (xso SC ad ws0) i0 a1.toInt a2.toInt a3.toInt a4.toInt).1))) A) args s 0 0 A := ⟨_, rfl⟩
  rw [← hQ]
  obtain ⟨FT, hFT⟩ : ∃ z, z = f_X1_settle (xso SC ad ws0) i0 a1.toInt a2.toInt a3.toInt a4.toInt := ⟨_, rfl⟩
  have HE : FT = f_X1_settle (xso SC ad ws0) i0 a1.toInt a2.toInt a3.toInt a4.toInt := hFT
  refine lv_aload_n C0.1 C0.2.1 dX1_settle_0 rfl (lv_at hl 0 rfl) ?_
  refine tg_X1_people C0 h hi0 q_213 dX1_settle_1 (fun v_1 e_2 e_3 e_4 => ?_)
  refine y_c1 (n := 5) C0 (by decide) dX1_settle_4 (fun v_5 e_6 => ?_)
  replace HE : FT = g1b_X1_settle (xso SC ad ws0) v_1.toInt i0 a1.toInt a2.toInt a3.toInt a4.toInt := HE.trans (by rw [(xg0 e_2 : v_1.toInt = (xso SC ad ws0) 0 i0 7)]; rfl)
  refine y_icmp_ge (tgt := 59) C0 dX1_settle_5 (by decide) (fun c_7 => ?_) (fun c_7 => ?_)
  · -- 5
    replace HE : FT = g2_X1_settle (xso SC ad ws0) := HE.trans (if_neg (o12_87 e_3 e_4 e_6 c_7))
    replace HE : FT = ((xso SC ad ws0), 0) := HE.trans rfl
    rw [hQ]
    exact y_vret C0 h Fr.rf (congrArg Prod.fst (HE.symm.trans hFT)) dX1_settle_59
  · -- 5
    replace HE : FT = g3_X1_settle (xso SC ad ws0) i0 a1.toInt a2.toInt a3.toInt a4.toInt := HE.trans (if_pos (o12_88 e_3 e_4 e_6 c_7))
    refine lv_aload_n C0.1 C0.2.1 dX1_settle_8 rfl (lv_at hl 0 rfl) ?_
    refine tg_X1_at C0 h hi0 q_190 dX1_settle_9 ?_
    refine lv_aload_n C0.1 C0.2.1 dX1_settle_12 rfl (lv_at hl 0 rfl) ?_
    refine tg_X1_people C0 h hi0 q_213 dX1_settle_13 (fun v_8 e_9 e_10 e_11 => ?_)
    have qh_12 : v_8.toInt = v_1.toInt := congrArg Int32.toInt (e_9.symm.trans (Eq.trans rfl e_2))
    refine lv_iload_n C0.1 C0.2.1 dX1_settle_16 rfl (lv_at hl 1 rfl) ?_
    have hO_15 := h.2
    refine y_iast C0 h (rSC_6_1 hi0) rfl (by decide) (o12_89 e_3 e_4 e_6 c_7 e_10 e_11 qh_12) (o12_90 e_3 e_4 e_6 c_7 e_10 e_11 qh_12) (o12_91 l1 u1) (o12_92 l1 u1) dX1_settle_17 (fun H locs ws_13 h u_14 => ?_)
    replace HE : FT = g4w_X1_settle (xso SC ad ws_13) i0 a2.toInt a3.toInt a4.toInt := HE.trans (by rw [(xso_A (i := i0 + 1) hO_15 h.2 (rSC_6_1 hi0) rfl u_14), (xg0 e_9 : v_8.toInt = (xso SC ad ws0) 0 i0 7)]; rfl)
    refine lv_aload_n C0.1 C0.2.1 dX1_settle_18 rfl (lv_at hl 0 rfl) ?_
    refine tg_X1_heads C0 h hi0 q_193 dX1_settle_19 ?_
    refine lv_aload_n C0.1 C0.2.1 dX1_settle_22 rfl (lv_at hl 0 rfl) ?_
    refine tg_X1_people C0 h hi0 q_213 dX1_settle_23 (fun v_16 e_17 e_18 e_19 => ?_)
    have qh_20 : v_16.toInt = v_1.toInt := congrArg Int32.toInt (e_17.symm.trans (Eq.trans (fI_of (u_14.1 i0 (kd_ne hi0 (rSC_6_1 hi0) (by decide)))) e_2))
    refine lv_iload_n C0.1 C0.2.1 dX1_settle_26 rfl (lv_at hl 2 rfl) ?_
    have hO_23 := h.2
    refine y_iast C0 h (rSC_6_2 hi0) rfl (by decide) (o12_93 e_3 e_4 e_6 c_7 e_10 e_11 qh_12 e_18 e_19 qh_20) (o12_94 e_3 e_4 e_6 c_7 e_10 e_11 qh_12 e_18 e_19 qh_20) (o12_95 l2 u2) (o12_96 l2 u2) dX1_settle_27 (fun H locs ws_21 h u_22 => ?_)
    replace HE : FT = g5w_X1_settle (xso SC ad ws_21) i0 a3.toInt a4.toInt := HE.trans (by rw [(xso_A (i := i0 + 2) hO_23 h.2 (rSC_6_2 hi0) rfl u_22), (xg0 e_17 : v_16.toInt = (xso SC ad ws_13) 0 i0 7)]; rfl)
    refine lv_aload_n C0.1 C0.2.1 dX1_settle_28 rfl (lv_at hl 0 rfl) ?_
    refine tg_X1_lefts C0 h hi0 q_196 dX1_settle_29 ?_
    refine lv_aload_n C0.1 C0.2.1 dX1_settle_32 rfl (lv_at hl 0 rfl) ?_
    refine tg_X1_people C0 h hi0 q_213 dX1_settle_33 (fun v_24 e_25 e_26 e_27 => ?_)
    have qh_28 : v_24.toInt = v_1.toInt := congrArg Int32.toInt (e_25.symm.trans (Eq.trans (Eq.trans (fI_of (u_22.1 i0 (kd_ne hi0 (rSC_6_2 hi0) (by decide)))) (fI_of (u_14.1 i0 (kd_ne hi0 (rSC_6_1 hi0) (by decide))))) e_2))
    refine lv_iload_n C0.1 C0.2.1 dX1_settle_36 rfl (lv_at hl 3 rfl) ?_
    have hO_31 := h.2
    refine y_iast C0 h (rSC_6_3 hi0) rfl (by decide) (o12_97 e_3 e_4 e_6 c_7 e_10 e_11 qh_12 e_18 e_19 qh_20 e_26 e_27 qh_28) (o12_98 e_3 e_4 e_6 c_7 e_10 e_11 qh_12 e_18 e_19 qh_20 e_26 e_27 qh_28) (le_min a3) (le_max a3) dX1_settle_37 (fun H locs ws_29 h u_30 => ?_)
    replace HE : FT = g6w_X1_settle (xso SC ad ws_29) i0 a4.toInt := HE.trans (by rw [(xso_A (i := i0 + 3) hO_31 h.2 (rSC_6_3 hi0) rfl u_30), (xg0 e_25 : v_24.toInt = (xso SC ad ws_21) 0 i0 7)]; rfl)
    refine lv_aload_n C0.1 C0.2.1 dX1_settle_38 rfl (lv_at hl 0 rfl) ?_
    refine tg_X1_coins C0 h hi0 q_199 dX1_settle_39 ?_
    refine lv_aload_n C0.1 C0.2.1 dX1_settle_42 rfl (lv_at hl 0 rfl) ?_
    refine tg_X1_people C0 h hi0 q_213 dX1_settle_43 (fun v_32 e_33 e_34 e_35 => ?_)
    have qh_36 : v_32.toInt = v_1.toInt := congrArg Int32.toInt (e_33.symm.trans (Eq.trans (Eq.trans (fI_of (u_30.1 i0 (kd_ne hi0 (rSC_6_3 hi0) (by decide)))) (Eq.trans (fI_of (u_22.1 i0 (kd_ne hi0 (rSC_6_2 hi0) (by decide)))) (fI_of (u_14.1 i0 (kd_ne hi0 (rSC_6_1 hi0) (by decide)))))) e_2))
    refine lv_iload C0.1 C0.2.1 dX1_settle_46 (lv_at hl 4 rfl) ?_
    have hO_39 := h.2
    refine y_iast C0 h (rSC_6_4 hi0) rfl (by decide) (o12_99 e_3 e_4 e_6 c_7 e_10 e_11 qh_12 e_18 e_19 qh_20 e_26 e_27 qh_28 e_34 e_35 qh_36) (o12_100 e_3 e_4 e_6 c_7 e_10 e_11 qh_12 e_18 e_19 qh_20 e_26 e_27 qh_28 e_34 e_35 qh_36) (le_min a4) (le_max a4) dX1_settle_48 (fun H locs ws_37 h u_38 => ?_)
    replace HE : FT = g7w_X1_settle (xso SC ad ws_37) i0 := HE.trans (by rw [(xso_A (i := i0 + 4) hO_39 h.2 (rSC_6_4 hi0) rfl u_38), (xg0 e_33 : v_32.toInt = (xso SC ad ws_29) 0 i0 7)]; rfl)
    refine lv_aload_n C0.1 C0.2.1 dX1_settle_49 rfl (lv_at hl 0 rfl) ?_
    refine lv_dup C0.1 C0.2.1 dX1_settle_50 rfl ?_
    refine tg_X1_people C0 h hi0 q_213 dX1_settle_51 (fun v_40 e_41 e_42 e_43 => ?_)
    have qh_44 : v_40.toInt = v_1.toInt := congrArg Int32.toInt (e_41.symm.trans (Eq.trans (Eq.trans (fI_of (u_38.1 i0 (kd_ne hi0 (rSC_6_4 hi0) (by decide)))) (Eq.trans (fI_of (u_30.1 i0 (kd_ne hi0 (rSC_6_3 hi0) (by decide)))) (Eq.trans (fI_of (u_22.1 i0 (kd_ne hi0 (rSC_6_2 hi0) (by decide)))) (fI_of (u_14.1 i0 (kd_ne hi0 (rSC_6_1 hi0) (by decide))))))) e_2))
    refine y_c1 (n := 1) C0 (by decide) dX1_settle_54 (fun v_45 e_46 => ?_)
    refine y_add C0 (o12_101 e_3 e_4 e_6 c_7 e_10 e_11 qh_12 e_18 e_19 qh_20 e_26 e_27 qh_28 e_34 e_35 qh_36 e_42 e_43 qh_44 e_46 (le_min v_40) (le_max v_40) (le_min v_45) (le_max v_45) (le_min v_1) (le_max v_1) (le_min v_5) (le_max v_5) (le_min v_8) (le_max v_8) (le_min v_16) (le_max v_16) (le_min v_24) (le_max v_24) (le_min v_32) (le_max v_32)) (o12_102 e_3 e_4 e_6 c_7 e_10 e_11 qh_12 e_18 e_19 qh_20 e_26 e_27 qh_28 e_34 e_35 qh_36 e_42 e_43 qh_44 e_46 (le_min v_40) (le_max v_40) (le_min v_45) (le_max v_45) (le_min v_1) (le_max v_1) (le_min v_5) (le_max v_5) (le_min v_8) (le_max v_8) (le_min v_16) (le_max v_16) (le_min v_24) (le_max v_24) (le_min v_32) (le_max v_32)) dX1_settle_55 (fun v_47 e_48 => ?_)
    refine tp_X1_people C0 h hi0 q_213 (o12_103 e_3 e_4 e_6 c_7 e_10 e_11 qh_12 e_18 e_19 qh_20 e_26 e_27 qh_28 e_34 e_35 qh_36 e_42 e_43 qh_44 e_46 e_48) (o12_104 e_3 e_4 e_6 c_7 e_10 e_11 qh_12 e_18 e_19 qh_20 e_26 e_27 qh_28 e_34 e_35 qh_36 e_42 e_43 qh_44 e_46 e_48) dX1_settle_56 (fun H locs ws_49 h u_50 Xu_50 => ?_)
    replace HE : FT = g8w_X1_settle (xso SC ad ws_49) := HE.trans (by rw [Xu_50, e_48, e_46, (xg0 e_41 : v_40.toInt = (xso SC ad ws_37) 0 i0 7)]; rfl)
    replace HE : FT = ((xso SC ad ws_49), 0) := HE.trans rfl
    rw [hQ]
    exact y_vret C0 h (Fr.tr (Fr.tr (Fr.tr (Fr.tr (Fr.up u_14.1 (rSC_6_1 hi0) (by decide)) (Fr.up u_22.1 (rSC_6_2 hi0) (by decide))) (Fr.up u_30.1 (rSC_6_3 hi0) (by decide))) (Fr.up u_38.1 (rSC_6_4 hi0) (by decide))) (Fr.up u_50.1 hi0 (by decide))) (congrArg Prod.fst (HE.symm.trans hFT)) dX1_settle_59
noncomputable def f_X1_stand (s : XS) (i0 : Nat) (a1 : Int) : XR := (s, ((4 * (s 1 (i0 + 1) (Int.toNat a1))) + (s 1 (i0 + 2) (Int.toNat a1))))
set_option maxHeartbeats 4000000 in
set_option maxRecDepth 100000 in
theorem c_X1_stand (l : Launch) (G : GG) (Z : RZ) (ad : Nat → Nat) (ws0 : va_W) (hT : Ty G SC ad ws0) (i0 : Nat) (hi0 : Kd SC i0 6) (a1 : Int32) (l1 : 0 ≤ a1.toInt) (u1 : a1.toInt ≤ 4) : Mq l yX1_stand cX1_stand 2 (some .int) 1 G Z [.ref (ad i0), .int a1] ws0 (PI G SC ad [] ws0 (fun r u => (xso SC ad u = (f_X1_stand (xso SC ad ws0) i0 a1.toInt).1) ∧ (r.toInt = (f_X1_stand (xso SC ad ws0) i0 a1.toInt).2) ∧ (0 ≤ r.toInt) ∧ (r.toInt ≤ 99))) := by
  refine Mq.start (by decide) (Nat.le_of_ble_eq_true rfl) ?_
  intro p e s m below meth c A ls C0 hZ h hl
  have hl : lv_has ls 2 [(0, .ref (ad i0)), (1, .int a1)] := hl
  have h : Wt G SC ad A s s.heap [] ws0 := ⟨h, hT⟩
  obtain ⟨args, hargs⟩ : ∃ z, z = ([.ref (ad i0), .int a1] : List Value).toArray := ⟨_, rfl⟩
  rw [← hargs] at C0 ⊢
  have C0 : Cx p s m args meth c RX1 cX1_stand 2 (some .int) := C0
  obtain ⟨Q, hQ⟩ : ∃ z, z = MQ below ((PI G SC ad [] ws0 (fun r u => (xso SC ad u = (f_X1_stand (xso SC ad ws0) i0 a1.toInt).1) ∧ (r.toInt = (f_X1_stand (xso SC ad ws0) i0 a1.toInt).2) ∧ (0 ≤ r.toInt) ∧ (r.toInt ≤ 99))) A) args s 0 0 A := ⟨_, rfl⟩
  rw [← hQ]
  obtain ⟨FT, hFT⟩ : ∃ z, z = f_X1_stand (xso SC ad ws0) i0 a1.toInt := ⟨_, rfl⟩
  have HE : FT = f_X1_stand (xso SC ad ws0) i0 a1.toInt := hFT
  refine y_c1 (n := 4) C0 (by decide) dX1_stand_0 (fun v_1 e_2 => ?_)
  refine lv_aload_n C0.1 C0.2.1 dX1_stand_1 rfl (lv_at hl 0 rfl) ?_
  refine tg_X1_at C0 h hi0 q_190 dX1_stand_2 ?_
  refine lv_iload_n C0.1 C0.2.1 dX1_stand_5 rfl (lv_at hl 1 rfl) ?_
  refine y_iald C0 h (rSC_6_1 hi0) rfl (by decide) (o12_105 l1 u1) (o12_106 l1 u1) dX1_stand_6 (fun v_3 e_4 e_5 e_6 => ?_)
  refine y_cmul (n := 4) C0 (o12_72 e_2) (o12_107 e_5 e_6 (le_min v_3) (le_max v_3)) (o12_108 e_5 e_6 (le_min v_3) (le_max v_3)) dX1_stand_7 (fun v_7 e_8 => ?_)
  refine lv_aload_n C0.1 C0.2.1 dX1_stand_8 rfl (lv_at hl 0 rfl) ?_
  refine tg_X1_heads C0 h hi0 q_193 dX1_stand_9 ?_
  refine lv_iload_n C0.1 C0.2.1 dX1_stand_12 rfl (lv_at hl 1 rfl) ?_
  refine y_iald C0 h (rSC_6_2 hi0) rfl (by decide) (o12_105 l1 u1) (o12_106 l1 u1) dX1_stand_13 (fun v_9 e_10 e_11 e_12 => ?_)
  refine y_add C0 (o12_109 e_5 e_6 e_8 e_11 e_12 (le_min v_7) (le_max v_7) (le_min v_9) (le_max v_9) (le_min v_3) (le_max v_3)) (o12_110 e_5 e_6 e_8 e_11 e_12 (le_min v_7) (le_max v_7) (le_min v_9) (le_max v_9) (le_min v_3) (le_max v_3)) dX1_stand_14 (fun v_13 e_14 => ?_)
  replace HE : FT = ((xso SC ad ws0), v_13.toInt) := HE.trans (by rw [e_14, (xg1 e_10 : v_9.toInt = (xso SC ad ws0) 1 (i0 + 2) a1.toInt.toNat), e_8, (xg1 e_4 : v_3.toInt = (xso SC ad ws0) 1 (i0 + 1) a1.toInt.toNat)]; rfl)
  rw [hQ]
  exact y_iret C0 h Fr.rf ⟨(congrArg Prod.fst (HE.symm.trans hFT)), (congrArg Prod.snd (HE.symm.trans hFT)), (o12_111 e_5 e_6 e_8 e_11 e_12 e_14), (o12_112 e_5 e_6 e_8 e_11 e_12 e_14)⟩ dX1_stand_15
noncomputable def g4_X1_allSold (s : XS) (x1_6 : Int) : XR := (s, x1_6)
noncomputable def g5_X1_allSold (R4 : XS → Nat → Int → Int → XR) (s : XS) (i0 : Nat) (x1_6 : Int) (x2_5 : Int) : XR := R4 s i0 ((Xiadd x1_6 (s 1 (i0 + 6) (Int.toNat x2_5)))) ((x2_5 + 1))
noncomputable def g3b_X1_allSold (R4 : XS → Nat → Int → Int → XR) (s : XS) (x2_5 : Int) (i0 : Nat) (x1_6 : Int) : XR := if x2_5 < 25 then g5_X1_allSold R4 s i0 x1_6 x2_5 else g4_X1_allSold s x1_6
noncomputable def g2l_X1_allSold (R4 : XS → Nat → Int → Int → XR) (s : XS) (i0 : Nat) (x1_6 : Int) (x2_5 : Int) : XR := g3b_X1_allSold R4 s x2_5 i0 x1_6
noncomputable def L1_X1_allSold (n : Nat) : XS → Nat → Int → Int → XR := Nat.rec (motive := fun _ => XS → Nat → Int → Int → XR) (fun s _ _ _ => (s, 0)) (fun _ R4 => g2l_X1_allSold R4) n
noncomputable def f_X1_allSold (s : XS) (i0 : Nat) : XR := L1_X1_allSold (Int.toNat (25 - 0 + 1)) s i0 0 0
set_option maxHeartbeats 4000000 in
set_option maxRecDepth 100000 in
theorem c_X1_allSold (l : Launch) (G : GG) (Z : RZ) (ad : Nat → Nat) (ws0 : va_W) (hT : Ty G SC ad ws0) (i0 : Nat) (hi0 : Kd SC i0 6) : Mq l yX1_allSold cX1_allSold 3 (some .int) 1 G Z [.ref (ad i0)] ws0 (PI G SC ad [] ws0 (fun r u => (xso SC ad u = (f_X1_allSold (xso SC ad ws0) i0).1) ∧ (r.toInt = (f_X1_allSold (xso SC ad ws0) i0).2))) := by
  refine Mq.start (by decide) (Nat.le_of_ble_eq_true rfl) ?_
  intro p e s m below meth c A ls C0 hZ h hl
  have hl : lv_has ls 3 [(0, .ref (ad i0))] := hl
  have h : Wt G SC ad A s s.heap [] ws0 := ⟨h, hT⟩
  obtain ⟨args, hargs⟩ : ∃ z, z = ([.ref (ad i0)] : List Value).toArray := ⟨_, rfl⟩
  rw [← hargs] at C0 ⊢
  have C0 : Cx p s m args meth c RX1 cX1_allSold 3 (some .int) := C0
  obtain ⟨Q, hQ⟩ : ∃ z, z = MQ below ((PI G SC ad [] ws0 (fun r u => (xso SC ad u = (f_X1_allSold (xso SC ad ws0) i0).1) ∧ (r.toInt = (f_X1_allSold (xso SC ad ws0) i0).2))) A) args s 0 0 A := ⟨_, rfl⟩
  rw [← hQ]
  obtain ⟨FT, hFT⟩ : ∃ z, z = f_X1_allSold (xso SC ad ws0) i0 := ⟨_, rfl⟩
  have HE : FT = f_X1_allSold (xso SC ad ws0) i0 := hFT
  refine y_c1 (n := 0) C0 (by decide) dX1_allSold_0 (fun v_1 e_2 => ?_)
  refine lv_istore_n (lv' := [(1, .int v_1), (0, .ref (ad i0))]) C0.1 C0.2.1 dX1_allSold_1 rfl hl (by decide) rfl (fun ls hl => ?_)
  refine y_c1 (n := 0) C0 (by decide) dX1_allSold_2 (fun v_3 e_4 => ?_)
  refine lv_istore_n (lv' := [(2, .int v_3), (1, .int v_1), (0, .ref (ad i0))]) C0.1 C0.2.1 dX1_allSold_3 rfl hl (by decide) rfl (fun ls hl => ?_)
  have lp_9 : ∀ (n_11 : Nat) (x2_5 : Int32) (x1_6 : Int32) (H : Heap) (locs : List Loc) (ls : Array Slot) (ws_7 : va_W), 25 - x2_5.toInt < (n_11 : Int) → 0 ≤ x2_5.toInt → x2_5.toInt ≤ 25 → (FT = L1_X1_allSold n_11 (xso SC ad ws_7) i0 x1_6.toInt x2_5.toInt) → Wt G SC ad A s H locs ws_7 → Fr SC [] ws0 ws_7 → lv_has ls 3 [(2, .int x2_5), (1, .int x1_6), (0, .ref (ad i0))] → W p l e (rmd 1 0 0) s m args below meth c H locs 0 0 Q (F0 m 4 ls []) := by
    intro n_11
    induction n_11 with
    | zero => intro x2_5 x1_6 H locs ls ws_7 hn_12 b_13 b_14 HE h hF_8 hl; exact ((o12_16 b_13 b_14 hn_12)).elim
    | succ n_11 ih_10 =>
      intro x2_5 x1_6 H locs ls ws_7 hn_12 b_13 b_14 HE h hF_8 hl
      obtain ⟨R4, hR4⟩ : ∃ z, z = L1_X1_allSold n_11 := ⟨_, rfl⟩
      replace HE : FT = g2l_X1_allSold R4 (xso SC ad ws_7) i0 x1_6.toInt x2_5.toInt := HE.trans (by rw [hR4]; rfl)
      refine lv_iload_n C0.1 C0.2.1 dX1_allSold_4 rfl (lv_at hl 0 rfl) ?_
      refine y_c2 (n := 25) C0 (by decide) dX1_allSold_5 (fun v_15 e_16 => ?_)
      replace HE : FT = g3b_X1_allSold R4 (xso SC ad ws_7) x2_5.toInt i0 x1_6.toInt := HE.trans rfl
      refine y_icmp_ge (tgt := 25) C0 dX1_allSold_7 (by decide) (fun c_17 => ?_) (fun c_17 => ?_)
      · -- 7
        replace HE : FT = g4_X1_allSold (xso SC ad ws_7) x1_6.toInt := HE.trans (if_neg (o12_114 b_13 b_14 hn_12 e_16 c_17))
        refine lv_iload_n C0.1 C0.2.1 dX1_allSold_25 rfl (lv_at hl 1 rfl) ?_
        replace HE : FT = ((xso SC ad ws_7), x1_6.toInt) := HE.trans rfl
        rw [hQ]
        exact y_iret C0 h hF_8 ⟨(congrArg Prod.fst (HE.symm.trans hFT)), (congrArg Prod.snd (HE.symm.trans hFT))⟩ dX1_allSold_26
      · -- 7
        replace HE : FT = g5_X1_allSold R4 (xso SC ad ws_7) i0 x1_6.toInt x2_5.toInt := HE.trans (if_pos (o12_115 b_13 b_14 hn_12 e_16 c_17))
        refine lv_iload_n C0.1 C0.2.1 dX1_allSold_10 rfl (lv_at hl 1 rfl) ?_
        refine lv_aload_n C0.1 C0.2.1 dX1_allSold_11 rfl (lv_at hl 2 rfl) ?_
        refine tg_X1_sold C0 h hi0 q_205 dX1_allSold_12 ?_
        refine lv_iload_n C0.1 C0.2.1 dX1_allSold_15 rfl (lv_at hl 0 rfl) ?_
        refine y_iald C0 h (rSC_6_6 hi0) rfl (by decide) (o12_116 b_13 b_14 hn_12 e_16 c_17) (o12_117 b_13 b_14 hn_12 e_16 c_17) dX1_allSold_16 (fun v_18 e_19 e_20 e_21 => ?_)
        refine xr_iadd C0 dX1_allSold_17 (fun v_22 e_23 => ?_)
        refine lv_istore_n (lv' := [(1, .int v_22), (2, .int x2_5), (0, .ref (ad i0))]) C0.1 C0.2.1 dX1_allSold_18 rfl hl (by decide) rfl (fun ls hl => ?_)
        refine y_inc (kp := 1) (n := 1) (fun v_24 => [(2, .int v_24), (1, .int v_22), (0, .ref (ad i0))]) C0 hl rfl (by decide) (by decide) (fun _ => rfl) (o12_118 b_13 b_14 hn_12 e_16 c_17 (le_min x2_5) (le_max x2_5) (le_min v_15) (le_max v_15)) (o12_119 b_13 b_14 hn_12 e_16 c_17 (le_min x2_5) (le_max x2_5) (le_min v_15) (le_max v_15)) dX1_allSold_19 (fun v_24 ls e_25 hl => ?_)
        refine lv_goto (tgt := 4) C0.1 C0.2.1 dX1_allSold_22 (by decide) ?_
        exact ih_10 v_24 v_22 _ _ _ _ (o12_120 b_13 b_14 hn_12 e_16 c_17 e_25) (o12_121 b_13 b_14 hn_12 e_16 c_17 e_25) (o12_122 b_13 b_14 hn_12 e_16 c_17 e_25) (((show FT = R4 (xso SC ad ws_7) i0 v_22.toInt v_24.toInt from HE.trans (by rw [e_25, e_23, (xg1 e_19 : v_18.toInt = (xso SC ad ws_7) 1 (i0 + 6) x2_5.toInt.toNat)]; rfl)).trans (by rw [hR4]))) h hF_8 (lv_sub hl [0, 1, 2] rfl)
  exact lp_9 ((25 - v_3.toInt + 1).toNat) v_3 v_1 _ _ _ _ (o12_27 e_4) (o12_14 e_4) (o12_28 e_4) ((show FT = L1_X1_allSold (Int.toNat (25 - v_3.toInt + 1)) (xso SC ad ws0) i0 v_1.toInt v_3.toInt from HE.trans (by rw [e_4, e_2]; rfl))) h Fr.rf (lv_sub hl [0, 1, 2] rfl)
noncomputable def g4_X1_allLefts (s : XS) (x1_6 : Int) : XR := (s, x1_6)
noncomputable def g5_X1_allLefts (R4 : XS → Nat → Int → Int → XR) (s : XS) (i0 : Nat) (x1_6 : Int) (x2_5 : Int) : XR := R4 s i0 ((Xiadd x1_6 (s 1 (i0 + 3) (Int.toNat x2_5)))) ((x2_5 + 1))
noncomputable def g3b_X1_allLefts (R4 : XS → Nat → Int → Int → XR) (s : XS) (v_15 : Int) (x2_5 : Int) (i0 : Nat) (x1_6 : Int) : XR := if x2_5 < v_15 then g5_X1_allLefts R4 s i0 x1_6 x2_5 else g4_X1_allLefts s x1_6
noncomputable def g2l_X1_allLefts (R4 : XS → Nat → Int → Int → XR) (s : XS) (i0 : Nat) (x1_6 : Int) (x2_5 : Int) : XR := g3b_X1_allLefts R4 s ((s 0 i0 7)) x2_5 i0 x1_6
noncomputable def L1_X1_allLefts (n : Nat) : XS → Nat → Int → Int → XR := Nat.rec (motive := fun _ => XS → Nat → Int → Int → XR) (fun s _ _ _ => (s, 0)) (fun _ R4 => g2l_X1_allLefts R4) n
noncomputable def f_X1_allLefts (s : XS) (i0 : Nat) : XR := L1_X1_allLefts (Int.toNat (5 - 0 + 1)) s i0 0 0
set_option maxHeartbeats 4000000 in
set_option maxRecDepth 100000 in
theorem c_X1_allLefts (l : Launch) (G : GG) (Z : RZ) (ad : Nat → Nat) (ws0 : va_W) (hT : Ty G SC ad ws0) (i0 : Nat) (hi0 : Kd SC i0 6) : Mq l yX1_allLefts cX1_allLefts 3 (some .int) 1 G Z [.ref (ad i0)] ws0 (PI G SC ad [] ws0 (fun r u => (xso SC ad u = (f_X1_allLefts (xso SC ad ws0) i0).1) ∧ (r.toInt = (f_X1_allLefts (xso SC ad ws0) i0).2))) := by
  refine Mq.start (by decide) (Nat.le_of_ble_eq_true rfl) ?_
  intro p e s m below meth c A ls C0 hZ h hl
  have hl : lv_has ls 3 [(0, .ref (ad i0))] := hl
  have h : Wt G SC ad A s s.heap [] ws0 := ⟨h, hT⟩
  obtain ⟨args, hargs⟩ : ∃ z, z = ([.ref (ad i0)] : List Value).toArray := ⟨_, rfl⟩
  rw [← hargs] at C0 ⊢
  have C0 : Cx p s m args meth c RX1 cX1_allLefts 3 (some .int) := C0
  obtain ⟨Q, hQ⟩ : ∃ z, z = MQ below ((PI G SC ad [] ws0 (fun r u => (xso SC ad u = (f_X1_allLefts (xso SC ad ws0) i0).1) ∧ (r.toInt = (f_X1_allLefts (xso SC ad ws0) i0).2))) A) args s 0 0 A := ⟨_, rfl⟩
  rw [← hQ]
  obtain ⟨FT, hFT⟩ : ∃ z, z = f_X1_allLefts (xso SC ad ws0) i0 := ⟨_, rfl⟩
  have HE : FT = f_X1_allLefts (xso SC ad ws0) i0 := hFT
  refine y_c1 (n := 0) C0 (by decide) dX1_allLefts_0 (fun v_1 e_2 => ?_)
  refine lv_istore_n (lv' := [(1, .int v_1), (0, .ref (ad i0))]) C0.1 C0.2.1 dX1_allLefts_1 rfl hl (by decide) rfl (fun ls hl => ?_)
  refine y_c1 (n := 0) C0 (by decide) dX1_allLefts_2 (fun v_3 e_4 => ?_)
  refine lv_istore_n (lv' := [(2, .int v_3), (1, .int v_1), (0, .ref (ad i0))]) C0.1 C0.2.1 dX1_allLefts_3 rfl hl (by decide) rfl (fun ls hl => ?_)
  have lp_9 : ∀ (n_11 : Nat) (x2_5 : Int32) (x1_6 : Int32) (H : Heap) (locs : List Loc) (ls : Array Slot) (ws_7 : va_W), 5 - x2_5.toInt < (n_11 : Int) → 0 ≤ x2_5.toInt → x2_5.toInt ≤ 5 → (FT = L1_X1_allLefts n_11 (xso SC ad ws_7) i0 x1_6.toInt x2_5.toInt) → Wt G SC ad A s H locs ws_7 → Fr SC [] ws0 ws_7 → lv_has ls 3 [(2, .int x2_5), (1, .int x1_6), (0, .ref (ad i0))] → W p l e (rmd 1 0 0) s m args below meth c H locs 0 0 Q (F0 m 4 ls []) := by
    intro n_11
    induction n_11 with
    | zero => intro x2_5 x1_6 H locs ls ws_7 hn_12 b_13 b_14 HE h hF_8 hl; exact ((o12_1 b_13 b_14 hn_12)).elim
    | succ n_11 ih_10 =>
      intro x2_5 x1_6 H locs ls ws_7 hn_12 b_13 b_14 HE h hF_8 hl
      obtain ⟨R4, hR4⟩ : ∃ z, z = L1_X1_allLefts n_11 := ⟨_, rfl⟩
      replace HE : FT = g2l_X1_allLefts R4 (xso SC ad ws_7) i0 x1_6.toInt x2_5.toInt := HE.trans (by rw [hR4]; rfl)
      refine lv_iload_n C0.1 C0.2.1 dX1_allLefts_4 rfl (lv_at hl 0 rfl) ?_
      refine lv_aload_n C0.1 C0.2.1 dX1_allLefts_5 rfl (lv_at hl 2 rfl) ?_
      refine tg_X1_people C0 h hi0 q_213 dX1_allLefts_6 (fun v_15 e_16 e_17 e_18 => ?_)
      replace HE : FT = g3b_X1_allLefts R4 (xso SC ad ws_7) v_15.toInt x2_5.toInt i0 x1_6.toInt := HE.trans (by rw [(xg0 e_16 : v_15.toInt = (xso SC ad ws_7) 0 i0 7)]; rfl)
      refine y_icmp_ge (tgt := 27) C0 dX1_allLefts_9 (by decide) (fun c_19 => ?_) (fun c_19 => ?_)
      · -- 9
        replace HE : FT = g4_X1_allLefts (xso SC ad ws_7) x1_6.toInt := HE.trans (if_neg (Int.not_lt.mpr c_19))
        refine lv_iload_n C0.1 C0.2.1 dX1_allLefts_27 rfl (lv_at hl 1 rfl) ?_
        replace HE : FT = ((xso SC ad ws_7), x1_6.toInt) := HE.trans rfl
        rw [hQ]
        exact y_iret C0 h hF_8 ⟨(congrArg Prod.fst (HE.symm.trans hFT)), (congrArg Prod.snd (HE.symm.trans hFT))⟩ dX1_allLefts_28
      · -- 9
        replace HE : FT = g5_X1_allLefts R4 (xso SC ad ws_7) i0 x1_6.toInt x2_5.toInt := HE.trans (if_pos c_19)
        refine lv_iload_n C0.1 C0.2.1 dX1_allLefts_12 rfl (lv_at hl 1 rfl) ?_
        refine lv_aload_n C0.1 C0.2.1 dX1_allLefts_13 rfl (lv_at hl 2 rfl) ?_
        refine tg_X1_lefts C0 h hi0 q_196 dX1_allLefts_14 ?_
        refine lv_iload_n C0.1 C0.2.1 dX1_allLefts_17 rfl (lv_at hl 0 rfl) ?_
        refine y_iald C0 h (rSC_6_3 hi0) rfl (by decide) (o12_123 b_13 b_14 hn_12 e_17 e_18 c_19) (o12_124 b_13 b_14 hn_12 e_17 e_18 c_19) dX1_allLefts_18 (fun v_20 e_21 e_22 e_23 => ?_)
        refine xr_iadd C0 dX1_allLefts_19 (fun v_24 e_25 => ?_)
        refine lv_istore_n (lv' := [(1, .int v_24), (2, .int x2_5), (0, .ref (ad i0))]) C0.1 C0.2.1 dX1_allLefts_20 rfl hl (by decide) rfl (fun ls hl => ?_)
        refine y_inc (kp := 1) (n := 1) (fun v_26 => [(2, .int v_26), (1, .int v_24), (0, .ref (ad i0))]) C0 hl rfl (by decide) (by decide) (fun _ => rfl) (o12_125 b_13 b_14 hn_12 e_17 e_18 c_19 (le_min x2_5) (le_max x2_5) (le_min v_15) (le_max v_15)) (o12_126 b_13 b_14 hn_12 e_17 e_18 c_19 (le_min x2_5) (le_max x2_5) (le_min v_15) (le_max v_15)) dX1_allLefts_21 (fun v_26 ls e_27 hl => ?_)
        refine lv_goto (tgt := 4) C0.1 C0.2.1 dX1_allLefts_24 (by decide) ?_
        exact ih_10 v_26 v_24 _ _ _ _ (o12_127 b_13 b_14 hn_12 e_17 e_18 c_19 e_27) (o12_128 b_13 b_14 hn_12 e_17 e_18 c_19 e_27) (o12_129 b_13 b_14 hn_12 e_17 e_18 c_19 e_27) (((show FT = R4 (xso SC ad ws_7) i0 v_24.toInt v_26.toInt from HE.trans (by rw [e_27, e_25, (xg1 e_21 : v_20.toInt = (xso SC ad ws_7) 1 (i0 + 3) x2_5.toInt.toNat)]; rfl)).trans (by rw [hR4]))) h hF_8 (lv_sub hl [0, 1, 2] rfl)
  exact lp_9 ((5 - v_3.toInt + 1).toNat) v_3 v_1 _ _ _ _ (o12_13 e_4) (o12_14 e_4) (o12_15 e_4) ((show FT = L1_X1_allLefts (Int.toNat (5 - v_3.toInt + 1)) (xso SC ad ws0) i0 v_1.toInt v_3.toInt from HE.trans (by rw [e_4, e_2]; rfl))) h Fr.rf (lv_sub hl [0, 1, 2] rfl)
noncomputable def g3w_X10_lay (s : XS) : XR := (s, 0)
noncomputable def g2w_X10_lay (s : XS) (i0 : Nat) (a2 : Int) : XR := g3w_X10_lay (xup s 0 i0 2 a2)
noncomputable def g1c_X10_lay (s : XS) (i0 : Nat) (a1 : Int) (a2 : Int) : XR := g2w_X10_lay (xup s 0 i0 1 a1) i0 a2
noncomputable def f_X10_lay (s : XS) (i0 : Nat) (a1 : Int) (a2 : Int) : XR := g1c_X10_lay ((f_J7_fill_d0a16 s (i0 + 1) 0).1) i0 a1 a2
set_option maxHeartbeats 4000000 in
set_option maxRecDepth 100000 in
theorem c_X10_lay (l : Launch) (G : GG) (Z : RZ) (ad : Nat → Nat) (ws0 : va_W) (hT : Ty G SC ad ws0) (i0 : Nat) (hi0 : Kd SC i0 42) (a1 : Int32) (a2 : Int32) (l2 : 0 ≤ a2.toInt) (u2 : a2.toInt ≤ 40) : Mq l yX10_lay cX10_lay 3 none 2 G Z [.ref (ad i0), .int a1, .int a2] ws0 (PV G SC ad [42, 43] ws0 (fun u => (xso SC ad u = (f_X10_lay (xso SC ad ws0) i0 a1.toInt a2.toInt).1))) := by
  refine Mq.start (by decide) (Nat.le_of_ble_eq_true rfl) ?_
  intro p e s m below meth c A ls C0 hZ h hl
  have hl : lv_has ls 3 [(0, .ref (ad i0)), (1, .int a1), (2, .int a2)] := hl
  have h : Wt G SC ad A s s.heap [] ws0 := ⟨h, hT⟩
  obtain ⟨args, hargs⟩ : ∃ z, z = ([.ref (ad i0), .int a1, .int a2] : List Value).toArray := ⟨_, rfl⟩
  rw [← hargs] at C0 ⊢
  have C0 : Cx p s m args meth c RX10 cX10_lay 3 none := C0
  obtain ⟨Q, hQ⟩ : ∃ z, z = MQ below ((PV G SC ad [42, 43] ws0 (fun u => (xso SC ad u = (f_X10_lay (xso SC ad ws0) i0 a1.toInt a2.toInt).1))) A) args s 0 0 A := ⟨_, rfl⟩
  rw [← hQ]
  obtain ⟨FT, hFT⟩ : ∃ z, z = f_X10_lay (xso SC ad ws0) i0 a1.toInt a2.toInt := ⟨_, rfl⟩
  have HE : FT = f_X10_lay (xso SC ad ws0) i0 a1.toInt a2.toInt := hFT
  refine lv_aload_n C0.1 C0.2.1 dX10_lay_0 rfl (lv_at hl 0 rfl) ?_
  refine tg_X10_values C0 h hi0 q_498 dX10_lay_1 ?_
  refine y_lc (v := 0) C0 (by decide) dX10_lay_4 (fun w_1 e_2 => ?_)
  refine y_cv h (y_rS (As := [.ref (ad (i0 + 1)), .long w_1]) (rest := []) C0 hZ h (c_J7_fill_d0a16 l G Z ad _ h.2 (i0 + 1) ((rSC_42_1 hi0)) w_1) k_J7_fill_d0a16 q_1392 q_1391 hl.1 rfl rfl (Nat.le_of_ble_eq_true rfl) dX10_lay_5 ⟨Nat.le_of_ble_eq_true rfl, Nat.le_of_ble_eq_true rfl⟩ ⟨Nat.le_of_ble_eq_true rfl, Nat.le_of_ble_eq_true rfl⟩) (fun H locs ws_3 h u_4 p_5 => ?_)
  have e_6 := p_5
  replace HE : FT = g1c_X10_lay (xso SC ad ws_3) i0 a1.toInt a2.toInt := HE.trans (by rw [e_6, e_2]; rfl)
  refine lv_aload_n C0.1 C0.2.1 dX10_lay_8 rfl (lv_at hl 0 rfl) ?_
  refine lv_iload_n C0.1 C0.2.1 dX10_lay_9 rfl (lv_at hl 1 rfl) ?_
  refine tp_X10_sort C0 h hi0 q_499 (le_min a1) (le_max a1) dX10_lay_10 (fun H locs ws_7 h u_8 Xu_8 => ?_)
  replace HE : FT = g2w_X10_lay (xso SC ad ws_7) i0 a2.toInt := HE.trans (by rw [Xu_8]; rfl)
  refine lv_aload_n C0.1 C0.2.1 dX10_lay_13 rfl (lv_at hl 0 rfl) ?_
  refine lv_iload_n C0.1 C0.2.1 dX10_lay_14 rfl (lv_at hl 2 rfl) ?_
  refine tp_X10_size C0 h hi0 q_500 (o12_130 l2 u2) (o12_131 l2 u2) dX10_lay_15 (fun H locs ws_9 h u_10 Xu_10 => ?_)
  replace HE : FT = g3w_X10_lay (xso SC ad ws_9) := HE.trans (by rw [Xu_10]; rfl)
  replace HE : FT = ((xso SC ad ws_9), 0) := HE.trans rfl
  rw [hQ]
  exact y_vret C0 h (Fr.tr (Fr.tr (Fr.mono u_4 (by decide)) (Fr.up u_8.1 hi0 (by decide))) (Fr.up u_10.1 hi0 (by decide))) (congrArg Prod.fst (HE.symm.trans hFT)) dX10_lay_18
noncomputable def g10w_X10_put (s : XS) (i0 : Nat) (a1 : Int) : XR := (s, (s 2 (i0 + 1) (Int.toNat a1)))
noncomputable def g8_X10_put (s : XS) (a1 : Int) (i0 : Nat) (a2 : Int) : XR := g10w_X10_put (xup s 2 (i0 + 1) (Int.toNat a1) (a2)) i0 a1
noncomputable def g11w_X10_put (s : XS) (i0 : Nat) (a1 : Int) : XR := (s, (s 2 (i0 + 1) (Int.toNat a1)))
noncomputable def g9_X10_put (s : XS) (a1 : Int) (i0 : Nat) (a2 : Int) : XR := g11w_X10_put (xup s 2 (i0 + 1) (Int.toNat a1) (((Xl2i a2)))) i0 a1
noncomputable def g7b_X10_put (s : XS) (v_14 : Int) (a1 : Int) (i0 : Nat) (a2 : Int) : XR := if v_14 = 2 then g9_X10_put s a1 i0 a2 else g8_X10_put s a1 i0 a2
noncomputable def g5_X10_put (s : XS) (a1 : Int) (i0 : Nat) (a2 : Int) : XR := g7b_X10_put s ((s 0 i0 1)) a1 i0 a2
noncomputable def g12w_X10_put (s : XS) (i0 : Nat) (a1 : Int) : XR := (s, (s 2 (i0 + 1) (Int.toNat a1)))
noncomputable def g6_X10_put (s : XS) (a1 : Int) (i0 : Nat) (a2 : Int) : XR := g12w_X10_put (xup s 2 (i0 + 1) (Int.toNat a1) (((Xi2s (Xl2i a2))))) i0 a1
noncomputable def g4b_X10_put (s : XS) (v_6 : Int) (a1 : Int) (i0 : Nat) (a2 : Int) : XR := if v_6 = 1 then g6_X10_put s a1 i0 a2 else g5_X10_put s a1 i0 a2
noncomputable def g2_X10_put (s : XS) (a1 : Int) (i0 : Nat) (a2 : Int) : XR := g4b_X10_put s ((s 0 i0 1)) a1 i0 a2
noncomputable def g13w_X10_put (s : XS) (i0 : Nat) (a1 : Int) : XR := (s, (s 2 (i0 + 1) (Int.toNat a1)))
noncomputable def g3_X10_put (s : XS) (a1 : Int) (i0 : Nat) (a2 : Int) : XR := g13w_X10_put (xup s 2 (i0 + 1) (Int.toNat a1) (((Xi2b (Xl2i a2))))) i0 a1
noncomputable def g1b_X10_put (s : XS) (v_1 : Int) (a1 : Int) (i0 : Nat) (a2 : Int) : XR := if v_1 = 0 then g3_X10_put s a1 i0 a2 else g2_X10_put s a1 i0 a2
noncomputable def f_X10_put (s : XS) (i0 : Nat) (a1 : Int) (a2 : Int) : XR := g1b_X10_put s ((s 0 i0 1)) a1 i0 a2
set_option maxHeartbeats 4000000 in
set_option maxRecDepth 100000 in
theorem c_X10_put (l : Launch) (G : GG) (Z : RZ) (ad : Nat → Nat) (ws0 : va_W) (hT : Ty G SC ad ws0) (i0 : Nat) (hi0 : Kd SC i0 42) (a1 : Int32) (a2 : Int64) (l1 : 0 ≤ a1.toInt) (u1 : a1.toInt ≤ 39) : Mq l yX10_put cX10_put 4 (some .long) 1 G Z [.ref (ad i0), .int a1, .long a2] ws0 (PL G SC ad [43] ws0 (fun r u => (xso SC ad u = (f_X10_put (xso SC ad ws0) i0 a1.toInt a2.toInt).1) ∧ (r.toInt = (f_X10_put (xso SC ad ws0) i0 a1.toInt a2.toInt).2))) := by
  refine Mq.start (by decide) (Nat.le_of_ble_eq_true rfl) ?_
  intro p e s m below meth c A ls C0 hZ h hl
  have hl : lv_has ls 4 [(0, .ref (ad i0)), (1, .int a1), (2, .long a2)] := hl
  have h : Wt G SC ad A s s.heap [] ws0 := ⟨h, hT⟩
  obtain ⟨args, hargs⟩ : ∃ z, z = ([.ref (ad i0), .int a1, .long a2] : List Value).toArray := ⟨_, rfl⟩
  rw [← hargs] at C0 ⊢
  have C0 : Cx p s m args meth c RX10 cX10_put 4 (some .long) := C0
  obtain ⟨Q, hQ⟩ : ∃ z, z = MQ below ((PL G SC ad [43] ws0 (fun r u => (xso SC ad u = (f_X10_put (xso SC ad ws0) i0 a1.toInt a2.toInt).1) ∧ (r.toInt = (f_X10_put (xso SC ad ws0) i0 a1.toInt a2.toInt).2))) A) args s 0 0 A := ⟨_, rfl⟩
  rw [← hQ]
  obtain ⟨FT, hFT⟩ : ∃ z, z = f_X10_put (xso SC ad ws0) i0 a1.toInt a2.toInt := ⟨_, rfl⟩
  have HE : FT = f_X10_put (xso SC ad ws0) i0 a1.toInt a2.toInt := hFT
  refine lv_aload_n C0.1 C0.2.1 dX10_put_0 rfl (lv_at hl 0 rfl) ?_
  refine tg_X10_values C0 h hi0 q_498 dX10_put_1 ?_
  refine lv_iload_n C0.1 C0.2.1 dX10_put_4 rfl (lv_at hl 1 rfl) ?_
  refine lv_aload_n C0.1 C0.2.1 dX10_put_5 rfl (lv_at hl 0 rfl) ?_
  refine tg_X10_sort C0 h hi0 q_499 dX10_put_6 (fun v_1 e_2 e_3 e_4 => ?_)
  replace HE : FT = g1b_X10_put (xso SC ad ws0) v_1.toInt a1.toInt i0 a2.toInt := HE.trans (by rw [(xg0 e_2 : v_1.toInt = (xso SC ad ws0) 0 i0 1)]; rfl)
  refine y_if_ne (tgt := 19) C0 dX10_put_9 (by decide) (fun c_5 => ?_) (fun c_5 => ?_)
  · -- 9
    replace HE : FT = g2_X10_put (xso SC ad ws0) a1.toInt i0 a2.toInt := HE.trans (if_neg c_5)
    refine lv_aload_n C0.1 C0.2.1 dX10_put_19 rfl (lv_at hl 0 rfl) ?_
    refine tg_X10_sort C0 h hi0 q_499 dX10_put_20 (fun v_6 e_7 e_8 e_9 => ?_)
    have qh_10 : v_6.toInt = v_1.toInt := congrArg Int32.toInt (e_7.symm.trans (Eq.trans rfl e_2))
    refine y_c1 (n := 1) C0 (by decide) dX10_put_23 (fun v_11 e_12 => ?_)
    replace HE : FT = g4b_X10_put (xso SC ad ws0) v_6.toInt a1.toInt i0 a2.toInt := HE.trans (by rw [(xg0 e_7 : v_6.toInt = (xso SC ad ws0) 0 i0 1)]; rfl)
    refine y_icmp_ne (tgt := 34) C0 dX10_put_24 (by decide) (fun c_13 => ?_) (fun c_13 => ?_)
    · -- 24
      replace HE : FT = g5_X10_put (xso SC ad ws0) a1.toInt i0 a2.toInt := HE.trans (if_neg (o12_132 c_5 qh_10 e_12 c_13))
      refine lv_aload_n C0.1 C0.2.1 dX10_put_34 rfl (lv_at hl 0 rfl) ?_
      refine tg_X10_sort C0 h hi0 q_499 dX10_put_35 (fun v_14 e_15 e_16 e_17 => ?_)
      have qh_18 : v_14.toInt = v_1.toInt := congrArg Int32.toInt (e_15.symm.trans (Eq.trans rfl e_2))
      refine y_c1 (n := 2) C0 (by decide) dX10_put_38 (fun v_19 e_20 => ?_)
      replace HE : FT = g7b_X10_put (xso SC ad ws0) v_14.toInt a1.toInt i0 a2.toInt := HE.trans (by rw [(xg0 e_15 : v_14.toInt = (xso SC ad ws0) 0 i0 1)]; rfl)
      refine y_icmp_ne (tgt := 48) C0 dX10_put_39 (by decide) (fun c_21 => ?_) (fun c_21 => ?_)
      · -- 39
        replace HE : FT = g8_X10_put (xso SC ad ws0) a1.toInt i0 a2.toInt := HE.trans (if_neg (o12_134 c_5 qh_10 e_12 c_13 qh_18 e_20 c_21))
        refine lv_lload_n C0.1 C0.2.1 dX10_put_48 rfl (lv_at hl 2 rfl) ?_
        have hO_24 := h.2
        refine y_last C0 h (rSC_42_1 hi0) rfl (by decide) (o12_136 l1 u1) (o12_137 l1 u1) dX10_put_49 (fun H locs ws_22 h u_23 => ?_)
        replace HE : FT = g10w_X10_put (xso SC ad ws_22) i0 a1.toInt := HE.trans (by rw [(xso_L (i := i0 + 1) hO_24 h.2 (rSC_42_1 hi0) rfl u_23)]; rfl)
        refine lv_aload_n C0.1 C0.2.1 dX10_put_50 rfl (lv_at hl 0 rfl) ?_
        refine tg_X10_values C0 h hi0 q_498 dX10_put_51 ?_
        refine lv_iload_n C0.1 C0.2.1 dX10_put_54 rfl (lv_at hl 1 rfl) ?_
        refine y_lald C0 h (rSC_42_1 hi0) rfl (by decide) (o12_136 l1 u1) (o12_137 l1 u1) dX10_put_55 (fun w_25 e_26 => ?_)
        have qh_27 : w_25.toInt = a2.toInt := congrArg Int64.toInt (e_26.symm.trans (Eq.trans rfl u_23.2.1))
        replace HE : FT = ((xso SC ad ws_22), w_25.toInt) := HE.trans (by rw [(xg2 e_26 : w_25.toInt = (xso SC ad ws_22) 2 (i0 + 1) a1.toInt.toNat)]; rfl)
        rw [hQ]
        exact y_lret C0 h (Fr.up u_23.1 (rSC_42_1 hi0) (by decide)) ⟨(congrArg Prod.fst (HE.symm.trans hFT)), (congrArg Prod.snd (HE.symm.trans hFT))⟩ dX10_put_56
      · -- 39
        replace HE : FT = g9_X10_put (xso SC ad ws0) a1.toInt i0 a2.toInt := HE.trans (if_pos (o12_135 c_5 qh_10 e_12 c_13 qh_18 e_20 c_21))
        refine lv_lload_n C0.1 C0.2.1 dX10_put_42 rfl (lv_at hl 2 rfl) ?_
        refine xr_l2i C0 dX10_put_43 (fun v_28 e_29 => ?_)
        refine y_i2l C0 dX10_put_44 (fun w_30 e_31 => ?_)
        refine lv_goto (tgt := 49) C0.1 C0.2.1 dX10_put_45 (by decide) ?_
        have hO_34 := h.2
        refine y_last C0 h (rSC_42_1 hi0) rfl (by decide) (o12_136 l1 u1) (o12_137 l1 u1) dX10_put_49 (fun H locs ws_32 h u_33 => ?_)
        replace HE : FT = g11w_X10_put (xso SC ad ws_32) i0 a1.toInt := HE.trans (by rw [(xso_L (i := i0 + 1) hO_34 h.2 (rSC_42_1 hi0) rfl u_33), e_31, e_29]; rfl)
        refine lv_aload_n C0.1 C0.2.1 dX10_put_50 rfl (lv_at hl 0 rfl) ?_
        refine tg_X10_values C0 h hi0 q_498 dX10_put_51 ?_
        refine lv_iload_n C0.1 C0.2.1 dX10_put_54 rfl (lv_at hl 1 rfl) ?_
        refine y_lald C0 h (rSC_42_1 hi0) rfl (by decide) (o12_136 l1 u1) (o12_137 l1 u1) dX10_put_55 (fun w_35 e_36 => ?_)
        have qh_37 : w_35.toInt = w_30.toInt := congrArg Int64.toInt (e_36.symm.trans (Eq.trans rfl u_33.2.1))
        replace HE : FT = ((xso SC ad ws_32), w_35.toInt) := HE.trans (by rw [(xg2 e_36 : w_35.toInt = (xso SC ad ws_32) 2 (i0 + 1) a1.toInt.toNat)]; rfl)
        rw [hQ]
        exact y_lret C0 h (Fr.up u_33.1 (rSC_42_1 hi0) (by decide)) ⟨(congrArg Prod.fst (HE.symm.trans hFT)), (congrArg Prod.snd (HE.symm.trans hFT))⟩ dX10_put_56
    · -- 24
      replace HE : FT = g6_X10_put (xso SC ad ws0) a1.toInt i0 a2.toInt := HE.trans (if_pos (o12_133 c_5 qh_10 e_12 c_13))
      refine lv_lload_n C0.1 C0.2.1 dX10_put_27 rfl (lv_at hl 2 rfl) ?_
      refine xr_l2i C0 dX10_put_28 (fun v_38 e_39 => ?_)
      refine xr_i2s C0 dX10_put_29 (fun v_40 e_41 => ?_)
      refine y_i2l C0 dX10_put_30 (fun w_42 e_43 => ?_)
      refine lv_goto (tgt := 49) C0.1 C0.2.1 dX10_put_31 (by decide) ?_
      have hO_46 := h.2
      refine y_last C0 h (rSC_42_1 hi0) rfl (by decide) (o12_136 l1 u1) (o12_137 l1 u1) dX10_put_49 (fun H locs ws_44 h u_45 => ?_)
      replace HE : FT = g12w_X10_put (xso SC ad ws_44) i0 a1.toInt := HE.trans (by rw [(xso_L (i := i0 + 1) hO_46 h.2 (rSC_42_1 hi0) rfl u_45), e_43, e_41, e_39]; rfl)
      refine lv_aload_n C0.1 C0.2.1 dX10_put_50 rfl (lv_at hl 0 rfl) ?_
      refine tg_X10_values C0 h hi0 q_498 dX10_put_51 ?_
      refine lv_iload_n C0.1 C0.2.1 dX10_put_54 rfl (lv_at hl 1 rfl) ?_
      refine y_lald C0 h (rSC_42_1 hi0) rfl (by decide) (o12_136 l1 u1) (o12_137 l1 u1) dX10_put_55 (fun w_47 e_48 => ?_)
      have qh_49 : w_47.toInt = w_42.toInt := congrArg Int64.toInt (e_48.symm.trans (Eq.trans rfl u_45.2.1))
      replace HE : FT = ((xso SC ad ws_44), w_47.toInt) := HE.trans (by rw [(xg2 e_48 : w_47.toInt = (xso SC ad ws_44) 2 (i0 + 1) a1.toInt.toNat)]; rfl)
      rw [hQ]
      exact y_lret C0 h (Fr.up u_45.1 (rSC_42_1 hi0) (by decide)) ⟨(congrArg Prod.fst (HE.symm.trans hFT)), (congrArg Prod.snd (HE.symm.trans hFT))⟩ dX10_put_56
  · -- 9
    replace HE : FT = g3_X10_put (xso SC ad ws0) a1.toInt i0 a2.toInt := HE.trans (if_pos c_5)
    refine lv_lload_n C0.1 C0.2.1 dX10_put_12 rfl (lv_at hl 2 rfl) ?_
    refine xr_l2i C0 dX10_put_13 (fun v_50 e_51 => ?_)
    refine xr_i2b C0 dX10_put_14 (fun v_52 e_53 => ?_)
    refine y_i2l C0 dX10_put_15 (fun w_54 e_55 => ?_)
    refine lv_goto (tgt := 49) C0.1 C0.2.1 dX10_put_16 (by decide) ?_
    have hO_58 := h.2
    refine y_last C0 h (rSC_42_1 hi0) rfl (by decide) (o12_136 l1 u1) (o12_137 l1 u1) dX10_put_49 (fun H locs ws_56 h u_57 => ?_)
    replace HE : FT = g13w_X10_put (xso SC ad ws_56) i0 a1.toInt := HE.trans (by rw [(xso_L (i := i0 + 1) hO_58 h.2 (rSC_42_1 hi0) rfl u_57), e_55, e_53, e_51]; rfl)
    refine lv_aload_n C0.1 C0.2.1 dX10_put_50 rfl (lv_at hl 0 rfl) ?_
    refine tg_X10_values C0 h hi0 q_498 dX10_put_51 ?_
    refine lv_iload_n C0.1 C0.2.1 dX10_put_54 rfl (lv_at hl 1 rfl) ?_
    refine y_lald C0 h (rSC_42_1 hi0) rfl (by decide) (o12_136 l1 u1) (o12_137 l1 u1) dX10_put_55 (fun w_59 e_60 => ?_)
    have qh_61 : w_59.toInt = w_54.toInt := congrArg Int64.toInt (e_60.symm.trans (Eq.trans rfl u_57.2.1))
    replace HE : FT = ((xso SC ad ws_56), w_59.toInt) := HE.trans (by rw [(xg2 e_60 : w_59.toInt = (xso SC ad ws_56) 2 (i0 + 1) a1.toInt.toNat)]; rfl)
    rw [hQ]
    exact y_lret C0 h (Fr.up u_57.1 (rSC_42_1 hi0) (by decide)) ⟨(congrArg Prod.fst (HE.symm.trans hFT)), (congrArg Prod.snd (HE.symm.trans hFT))⟩ dX10_put_56
noncomputable def g2_X10_asSmall (s : XS) : XR := (s, ((-1)))
noncomputable def g8_X10_asSmall (s : XS) : XR := (s, ((-1)))
noncomputable def g11_X10_asSmall (s : XS) : XR := (s, ((-1)))
noncomputable def g12_X10_asSmall (s : XS) (v_11 : Int) : XR := (s, v_11)
noncomputable def g10b_X10_asSmall (s : XS) (v_21 : Int) (v_11 : Int) : XR := if v_21 = 0 then g12_X10_asSmall s v_11 else g11_X10_asSmall s
noncomputable def g9_X10_asSmall (s : XS) (i0 : Nat) (a1 : Int) (v_11 : Int) : XR := g10b_X10_asSmall s ((Xcmp v_11 (s 2 (i0 + 1) (Int.toNat a1)))) v_11
noncomputable def g7b_X10_asSmall (s : XS) (v_11 : Int) (i0 : Nat) (a1 : Int) : XR := if v_11 < 0 then g8_X10_asSmall s else g9_X10_asSmall s i0 a1 v_11
noncomputable def g5_X10_asSmall (s : XS) (i0 : Nat) (a1 : Int) : XR := g7b_X10_asSmall s ((Xl2i (s 2 (i0 + 1) (Int.toNat a1)))) i0 a1
noncomputable def g6_X10_asSmall (s : XS) : XR := (s, ((-1)))
noncomputable def g4b_X10_asSmall (s : XS) (v_4 : Int) (a1 : Int) (i0 : Nat) : XR := if a1 < v_4 then g5_X10_asSmall s i0 a1 else g6_X10_asSmall s
noncomputable def g3_X10_asSmall (s : XS) (i0 : Nat) (a1 : Int) : XR := g4b_X10_asSmall s ((s 0 i0 2)) a1 i0
noncomputable def g1b_X10_asSmall (s : XS) (a1 : Int) (i0 : Nat) : XR := if a1 < 0 then g2_X10_asSmall s else g3_X10_asSmall s i0 a1
noncomputable def f_X10_asSmall (s : XS) (i0 : Nat) (a1 : Int) : XR := g1b_X10_asSmall s a1 i0
set_option maxHeartbeats 4000000 in
set_option maxRecDepth 100000 in
theorem c_X10_asSmall (l : Launch) (G : GG) (Z : RZ) (ad : Nat → Nat) (ws0 : va_W) (hT : Ty G SC ad ws0) (i0 : Nat) (hi0 : Kd SC i0 42) (a1 : Int32) : Mq l yX10_asSmall cX10_asSmall 3 (some .int) 1 G Z [.ref (ad i0), .int a1] ws0 (PI G SC ad [] ws0 (fun r u => (xso SC ad u = (f_X10_asSmall (xso SC ad ws0) i0 a1.toInt).1) ∧ (r.toInt = (f_X10_asSmall (xso SC ad ws0) i0 a1.toInt).2) ∧ ((-1) ≤ r.toInt))) := by
  refine Mq.start (by decide) (Nat.le_of_ble_eq_true rfl) ?_
  intro p e s m below meth c A ls C0 hZ h hl
  have hl : lv_has ls 3 [(0, .ref (ad i0)), (1, .int a1)] := hl
  have h : Wt G SC ad A s s.heap [] ws0 := ⟨h, hT⟩
  obtain ⟨args, hargs⟩ : ∃ z, z = ([.ref (ad i0), .int a1] : List Value).toArray := ⟨_, rfl⟩
  rw [← hargs] at C0 ⊢
  have C0 : Cx p s m args meth c RX10 cX10_asSmall 3 (some .int) := C0
  obtain ⟨Q, hQ⟩ : ∃ z, z = MQ below ((PI G SC ad [] ws0 (fun r u => (xso SC ad u = (f_X10_asSmall (xso SC ad ws0) i0 a1.toInt).1) ∧ (r.toInt = (f_X10_asSmall (xso SC ad ws0) i0 a1.toInt).2) ∧ ((-1) ≤ r.toInt))) A) args s 0 0 A := ⟨_, rfl⟩
  rw [← hQ]
  obtain ⟨FT, hFT⟩ : ∃ z, z = f_X10_asSmall (xso SC ad ws0) i0 a1.toInt := ⟨_, rfl⟩
  have HE : FT = f_X10_asSmall (xso SC ad ws0) i0 a1.toInt := hFT
  refine lv_iload_n C0.1 C0.2.1 dX10_asSmall_0 rfl (lv_at hl 1 rfl) ?_
  replace HE : FT = g1b_X10_asSmall (xso SC ad ws0) a1.toInt i0 := HE.trans rfl
  refine y_if_lt (tgt := 12) C0 dX10_asSmall_1 (by decide) (fun c_1 => ?_) (fun c_1 => ?_)
  · -- 1
    replace HE : FT = g2_X10_asSmall (xso SC ad ws0) := HE.trans (if_pos c_1)
    refine y_c1 (n := (-1)) C0 (by decide) dX10_asSmall_12 (fun v_2 e_3 => ?_)
    replace HE : FT = ((xso SC ad ws0), v_2.toInt) := HE.trans (by rw [e_3]; rfl)
    rw [hQ]
    exact y_iret C0 h Fr.rf ⟨(congrArg Prod.fst (HE.symm.trans hFT)), (congrArg Prod.snd (HE.symm.trans hFT)), (o12_138 e_3)⟩ dX10_asSmall_13
  · -- 1
    replace HE : FT = g3_X10_asSmall (xso SC ad ws0) i0 a1.toInt := HE.trans (if_neg (Int.not_lt.mpr c_1))
    refine lv_iload_n C0.1 C0.2.1 dX10_asSmall_4 rfl (lv_at hl 1 rfl) ?_
    refine lv_aload_n C0.1 C0.2.1 dX10_asSmall_5 rfl (lv_at hl 0 rfl) ?_
    refine tg_X10_size C0 h hi0 q_500 dX10_asSmall_6 (fun v_4 e_5 e_6 e_7 => ?_)
    replace HE : FT = g4b_X10_asSmall (xso SC ad ws0) v_4.toInt a1.toInt i0 := HE.trans (by rw [(xg0 e_5 : v_4.toInt = (xso SC ad ws0) 0 i0 2)]; rfl)
    refine y_icmp_lt (tgt := 14) C0 dX10_asSmall_9 (by decide) (fun c_8 => ?_) (fun c_8 => ?_)
    · -- 9
      replace HE : FT = g5_X10_asSmall (xso SC ad ws0) i0 a1.toInt := HE.trans (if_pos c_8)
      refine lv_aload_n C0.1 C0.2.1 dX10_asSmall_14 rfl (lv_at hl 0 rfl) ?_
      refine tg_X10_values C0 h hi0 q_498 dX10_asSmall_15 ?_
      refine lv_iload_n C0.1 C0.2.1 dX10_asSmall_18 rfl (lv_at hl 1 rfl) ?_
      refine y_lald C0 h (rSC_42_1 hi0) rfl (by decide) (o12_139 c_1 e_6 e_7 c_8) (o12_140 c_1 e_6 e_7 c_8) dX10_asSmall_19 (fun w_9 e_10 => ?_)
      refine xr_l2i C0 dX10_asSmall_20 (fun v_11 e_12 => ?_)
      refine lv_istore_n (lv' := [(2, .int v_11), (0, .ref (ad i0)), (1, .int a1)]) C0.1 C0.2.1 dX10_asSmall_21 rfl hl (by decide) rfl (fun ls hl => ?_)
      refine lv_iload_n C0.1 C0.2.1 dX10_asSmall_22 rfl (lv_at hl 0 rfl) ?_
      replace HE : FT = g7b_X10_asSmall (xso SC ad ws0) v_11.toInt i0 a1.toInt := HE.trans (by rw [e_12, (xg2 e_10 : w_9.toInt = (xso SC ad ws0) 2 (i0 + 1) a1.toInt.toNat)]; rfl)
      refine y_if_lt (tgt := 42) C0 dX10_asSmall_23 (by decide) (fun c_13 => ?_) (fun c_13 => ?_)
      · -- 23
        replace HE : FT = g8_X10_asSmall (xso SC ad ws0) := HE.trans (if_pos c_13)
        refine y_c1 (n := (-1)) C0 (by decide) dX10_asSmall_42 (fun v_14 e_15 => ?_)
        replace HE : FT = ((xso SC ad ws0), v_14.toInt) := HE.trans (by rw [e_15]; rfl)
        rw [hQ]
        exact y_iret C0 h Fr.rf ⟨(congrArg Prod.fst (HE.symm.trans hFT)), (congrArg Prod.snd (HE.symm.trans hFT)), (o12_138 e_15)⟩ dX10_asSmall_43
      · -- 23
        replace HE : FT = g9_X10_asSmall (xso SC ad ws0) i0 a1.toInt v_11.toInt := HE.trans (if_neg (Int.not_lt.mpr c_13))
        refine lv_iload_n C0.1 C0.2.1 dX10_asSmall_26 rfl (lv_at hl 0 rfl) ?_
        refine y_i2l C0 dX10_asSmall_27 (fun w_16 e_17 => ?_)
        refine lv_aload_n C0.1 C0.2.1 dX10_asSmall_28 rfl (lv_at hl 1 rfl) ?_
        refine tg_X10_values C0 h hi0 q_498 dX10_asSmall_29 ?_
        refine lv_iload_n C0.1 C0.2.1 dX10_asSmall_32 rfl (lv_at hl 2 rfl) ?_
        refine y_lald C0 h (rSC_42_1 hi0) rfl (by decide) (o12_139 c_1 e_6 e_7 c_8) (o12_140 c_1 e_6 e_7 c_8) dX10_asSmall_33 (fun w_18 e_19 => ?_)
        have qh_20 : w_18.toInt = w_9.toInt := congrArg Int64.toInt (e_19.symm.trans (Eq.trans rfl e_10))
        refine y_lcmp C0 dX10_asSmall_34 (fun v_21 e_22 => ?_)
        replace HE : FT = g10b_X10_asSmall (xso SC ad ws0) v_21.toInt v_11.toInt := HE.trans (by rw [(ix_cmp e_22), (xg2 e_19 : w_18.toInt = (xso SC ad ws0) 2 (i0 + 1) a1.toInt.toNat), e_17]; rfl)
        refine y_if_ne (tgt := 42) C0 dX10_asSmall_35 (by decide) (fun c_23 => ?_) (fun c_23 => ?_)
        · -- 35
          replace HE : FT = g11_X10_asSmall (xso SC ad ws0) := HE.trans (if_neg c_23)
          refine y_c1 (n := (-1)) C0 (by decide) dX10_asSmall_42 (fun v_24 e_25 => ?_)
          replace HE : FT = ((xso SC ad ws0), v_24.toInt) := HE.trans (by rw [e_25]; rfl)
          rw [hQ]
          exact y_iret C0 h Fr.rf ⟨(congrArg Prod.fst (HE.symm.trans hFT)), (congrArg Prod.snd (HE.symm.trans hFT)), (o12_138 e_25)⟩ dX10_asSmall_43
        · -- 35
          replace HE : FT = g12_X10_asSmall (xso SC ad ws0) v_11.toInt := HE.trans (if_pos c_23)
          refine lv_iload_n C0.1 C0.2.1 dX10_asSmall_38 rfl (lv_at hl 0 rfl) ?_
          refine lv_goto (tgt := 43) C0.1 C0.2.1 dX10_asSmall_39 (by decide) ?_
          replace HE : FT = ((xso SC ad ws0), v_11.toInt) := HE.trans rfl
          rw [hQ]
          exact y_iret C0 h Fr.rf ⟨(congrArg Prod.fst (HE.symm.trans hFT)), (congrArg Prod.snd (HE.symm.trans hFT)), (o12_141 c_13 e_17 qh_20 e_22 c_23)⟩ dX10_asSmall_43
    · -- 9
      replace HE : FT = g6_X10_asSmall (xso SC ad ws0) := HE.trans (if_neg (Int.not_lt.mpr c_8))
      refine y_c1 (n := (-1)) C0 (by decide) dX10_asSmall_12 (fun v_26 e_27 => ?_)
      replace HE : FT = ((xso SC ad ws0), v_26.toInt) := HE.trans (by rw [e_27]; rfl)
      rw [hQ]
      exact y_iret C0 h Fr.rf ⟨(congrArg Prod.fst (HE.symm.trans hFT)), (congrArg Prod.snd (HE.symm.trans hFT)), (o12_138 e_27)⟩ dX10_asSmall_13
noncomputable def g4_X10_allBelow (s : XS) : XR := (s, 1)
noncomputable def g7_X10_allBelow (s : XS) : XR := (s, 0)
noncomputable def g10_X10_allBelow (R2 : XS → Nat → Int → Int → XR) (s : XS) (i0 : Nat) (a1 : Int) (x2_3 : Int) : XR := R2 s i0 a1 ((x2_3 + 1))
noncomputable def g11_X10_allBelow (s : XS) : XR := (s, 0)
noncomputable def g9b_X10_allBelow (R2 : XS → Nat → Int → Int → XR) (s : XS) (v_33 : Int) (i0 : Nat) (a1 : Int) (x2_3 : Int) : XR := if v_33 < 0 then g10_X10_allBelow R2 s i0 a1 x2_3 else g11_X10_allBelow s
noncomputable def g8_X10_allBelow (R2 : XS → Nat → Int → Int → XR) (s : XS) (i0 : Nat) (a1 : Int) (x2_3 : Int) : XR := g9b_X10_allBelow R2 s ((Xcmp (s 2 (i0 + 1) (Int.toNat x2_3)) a1)) i0 a1 x2_3
noncomputable def g6b_X10_allBelow (R2 : XS → Nat → Int → Int → XR) (s : XS) (v_23 : Int) (i0 : Nat) (a1 : Int) (x2_3 : Int) : XR := if v_23 < 0 then g7_X10_allBelow s else g8_X10_allBelow R2 s i0 a1 x2_3
noncomputable def g5_X10_allBelow (R2 : XS → Nat → Int → Int → XR) (s : XS) (i0 : Nat) (a1 : Int) (x2_3 : Int) : XR := g6b_X10_allBelow R2 s ((Xcmp (s 2 (i0 + 1) (Int.toNat x2_3)) 0)) i0 a1 x2_3
noncomputable def g3b_X10_allBelow (R2 : XS → Nat → Int → Int → XR) (s : XS) (v_12 : Int) (x2_3 : Int) (i0 : Nat) (a1 : Int) : XR := if x2_3 < v_12 then g5_X10_allBelow R2 s i0 a1 x2_3 else g4_X10_allBelow s
noncomputable def g2l_X10_allBelow (R2 : XS → Nat → Int → Int → XR) (s : XS) (i0 : Nat) (a1 : Int) (x2_3 : Int) : XR := g3b_X10_allBelow R2 s ((s 0 i0 2)) x2_3 i0 a1
noncomputable def L1_X10_allBelow (n : Nat) : XS → Nat → Int → Int → XR := Nat.rec (motive := fun _ => XS → Nat → Int → Int → XR) (fun s _ _ _ => (s, 0)) (fun _ R2 => g2l_X10_allBelow R2) n
noncomputable def f_X10_allBelow (s : XS) (i0 : Nat) (a1 : Int) : XR := L1_X10_allBelow (Int.toNat (40 - 0 + 1)) s i0 a1 0
set_option maxHeartbeats 4000000 in
set_option maxRecDepth 100000 in
theorem c_X10_allBelow (l : Launch) (G : GG) (Z : RZ) (ad : Nat → Nat) (ws0 : va_W) (hT : Ty G SC ad ws0) (i0 : Nat) (hi0 : Kd SC i0 42) (a1 : Int32) : Mq l yX10_allBelow cX10_allBelow 3 (some .boolean) 1 G Z [.ref (ad i0), .int a1] ws0 (PI G SC ad [] ws0 (fun r u => (xso SC ad u = (f_X10_allBelow (xso SC ad ws0) i0 a1.toInt).1) ∧ (r.toInt = (f_X10_allBelow (xso SC ad ws0) i0 a1.toInt).2) ∧ (0 ≤ r.toInt) ∧ (r.toInt ≤ 1))) := by
  refine Mq.start (by decide) (Nat.le_of_ble_eq_true rfl) ?_
  intro p e s m below meth c A ls C0 hZ h hl
  have hl : lv_has ls 3 [(0, .ref (ad i0)), (1, .int a1)] := hl
  have h : Wt G SC ad A s s.heap [] ws0 := ⟨h, hT⟩
  obtain ⟨args, hargs⟩ : ∃ z, z = ([.ref (ad i0), .int a1] : List Value).toArray := ⟨_, rfl⟩
  rw [← hargs] at C0 ⊢
  have C0 : Cx p s m args meth c RX10 cX10_allBelow 3 (some .boolean) := C0
  obtain ⟨Q, hQ⟩ : ∃ z, z = MQ below ((PI G SC ad [] ws0 (fun r u => (xso SC ad u = (f_X10_allBelow (xso SC ad ws0) i0 a1.toInt).1) ∧ (r.toInt = (f_X10_allBelow (xso SC ad ws0) i0 a1.toInt).2) ∧ (0 ≤ r.toInt) ∧ (r.toInt ≤ 1))) A) args s 0 0 A := ⟨_, rfl⟩
  rw [← hQ]
  obtain ⟨FT, hFT⟩ : ∃ z, z = f_X10_allBelow (xso SC ad ws0) i0 a1.toInt := ⟨_, rfl⟩
  have HE : FT = f_X10_allBelow (xso SC ad ws0) i0 a1.toInt := hFT
  refine y_c1 (n := 0) C0 (by decide) dX10_allBelow_0 (fun v_1 e_2 => ?_)
  refine lv_istore_n (lv' := [(2, .int v_1), (0, .ref (ad i0)), (1, .int a1)]) C0.1 C0.2.1 dX10_allBelow_1 rfl hl (by decide) rfl (fun ls hl => ?_)
  have lp_6 : ∀ (n_8 : Nat) (x2_3 : Int32) (H : Heap) (locs : List Loc) (ls : Array Slot) (ws_4 : va_W), 40 - x2_3.toInt < (n_8 : Int) → 0 ≤ x2_3.toInt → x2_3.toInt ≤ 40 → (FT = L1_X10_allBelow n_8 (xso SC ad ws_4) i0 a1.toInt x2_3.toInt) → Wt G SC ad A s H locs ws_4 → Fr SC [] ws0 ws_4 → lv_has ls 3 [(2, .int x2_3), (0, .ref (ad i0)), (1, .int a1)] → W p l e (rmd 1 0 0) s m args below meth c H locs 0 0 Q (F0 m 2 ls []) := by
    intro n_8
    induction n_8 with
    | zero => intro x2_3 H locs ls ws_4 hn_9 b_10 b_11 HE h hF_5 hl; exact ((o12_57 b_10 b_11 hn_9)).elim
    | succ n_8 ih_7 =>
      intro x2_3 H locs ls ws_4 hn_9 b_10 b_11 HE h hF_5 hl
      obtain ⟨R2, hR2⟩ : ∃ z, z = L1_X10_allBelow n_8 := ⟨_, rfl⟩
      replace HE : FT = g2l_X10_allBelow R2 (xso SC ad ws_4) i0 a1.toInt x2_3.toInt := HE.trans (by rw [hR2]; rfl)
      refine lv_iload_n C0.1 C0.2.1 dX10_allBelow_2 rfl (lv_at hl 0 rfl) ?_
      refine lv_aload_n C0.1 C0.2.1 dX10_allBelow_3 rfl (lv_at hl 1 rfl) ?_
      refine tg_X10_size C0 h hi0 q_500 dX10_allBelow_4 (fun v_12 e_13 e_14 e_15 => ?_)
      replace HE : FT = g3b_X10_allBelow R2 (xso SC ad ws_4) v_12.toInt x2_3.toInt i0 a1.toInt := HE.trans (by rw [(xg0 e_13 : v_12.toInt = (xso SC ad ws_4) 0 i0 2)]; rfl)
      refine y_icmp_ge (tgt := 41) C0 dX10_allBelow_7 (by decide) (fun c_16 => ?_) (fun c_16 => ?_)
      · -- 7
        replace HE : FT = g4_X10_allBelow (xso SC ad ws_4) := HE.trans (if_neg (Int.not_lt.mpr c_16))
        refine y_c1 (n := 1) C0 (by decide) dX10_allBelow_41 (fun v_17 e_18 => ?_)
        replace HE : FT = ((xso SC ad ws_4), v_17.toInt) := HE.trans (by rw [e_18]; rfl)
        rw [hQ]
        exact y_zret C0 h (o12_142 e_18) (o12_143 e_18) hF_5 ⟨(congrArg Prod.fst (HE.symm.trans hFT)), (congrArg Prod.snd (HE.symm.trans hFT)), (o12_142 e_18), (o12_143 e_18)⟩ dX10_allBelow_42
      · -- 7
        replace HE : FT = g5_X10_allBelow R2 (xso SC ad ws_4) i0 a1.toInt x2_3.toInt := HE.trans (if_pos c_16)
        refine lv_aload_n C0.1 C0.2.1 dX10_allBelow_10 rfl (lv_at hl 1 rfl) ?_
        refine tg_X10_values C0 h hi0 q_498 dX10_allBelow_11 ?_
        refine lv_iload_n C0.1 C0.2.1 dX10_allBelow_14 rfl (lv_at hl 0 rfl) ?_
        refine y_lald C0 h (rSC_42_1 hi0) rfl (by decide) (o12_144 b_10 b_11 hn_9 e_14 e_15 c_16) (o12_145 b_10 b_11 hn_9 e_14 e_15 c_16) dX10_allBelow_15 (fun w_19 e_20 => ?_)
        refine y_lc (v := 0) C0 (by decide) dX10_allBelow_16 (fun w_21 e_22 => ?_)
        refine y_lcmp C0 dX10_allBelow_17 (fun v_23 e_24 => ?_)
        replace HE : FT = g6b_X10_allBelow R2 (xso SC ad ws_4) v_23.toInt i0 a1.toInt x2_3.toInt := HE.trans (by rw [(ix_cmp e_24), e_22, (xg2 e_20 : w_19.toInt = (xso SC ad ws_4) 2 (i0 + 1) x2_3.toInt.toNat)]; rfl)
        refine y_if_lt (tgt := 33) C0 dX10_allBelow_18 (by decide) (fun c_25 => ?_) (fun c_25 => ?_)
        · -- 18
          replace HE : FT = g7_X10_allBelow (xso SC ad ws_4) := HE.trans (if_pos c_25)
          refine y_c1 (n := 0) C0 (by decide) dX10_allBelow_33 (fun v_26 e_27 => ?_)
          replace HE : FT = ((xso SC ad ws_4), v_26.toInt) := HE.trans (by rw [e_27]; rfl)
          rw [hQ]
          exact y_zret C0 h (o12_14 e_27) (o12_146 e_27) hF_5 ⟨(congrArg Prod.fst (HE.symm.trans hFT)), (congrArg Prod.snd (HE.symm.trans hFT)), (o12_14 e_27), (o12_146 e_27)⟩ dX10_allBelow_34
        · -- 18
          replace HE : FT = g8_X10_allBelow R2 (xso SC ad ws_4) i0 a1.toInt x2_3.toInt := HE.trans (if_neg (Int.not_lt.mpr c_25))
          refine lv_aload_n C0.1 C0.2.1 dX10_allBelow_21 rfl (lv_at hl 1 rfl) ?_
          refine tg_X10_values C0 h hi0 q_498 dX10_allBelow_22 ?_
          refine lv_iload_n C0.1 C0.2.1 dX10_allBelow_25 rfl (lv_at hl 0 rfl) ?_
          refine y_lald C0 h (rSC_42_1 hi0) rfl (by decide) (o12_144 b_10 b_11 hn_9 e_14 e_15 c_16) (o12_145 b_10 b_11 hn_9 e_14 e_15 c_16) dX10_allBelow_26 (fun w_28 e_29 => ?_)
          have qh_30 : w_28.toInt = w_19.toInt := congrArg Int64.toInt (e_29.symm.trans (Eq.trans rfl e_20))
          refine lv_iload_n C0.1 C0.2.1 dX10_allBelow_27 rfl (lv_at hl 2 rfl) ?_
          refine y_i2l C0 dX10_allBelow_28 (fun w_31 e_32 => ?_)
          refine y_lcmp C0 dX10_allBelow_29 (fun v_33 e_34 => ?_)
          replace HE : FT = g9b_X10_allBelow R2 (xso SC ad ws_4) v_33.toInt i0 a1.toInt x2_3.toInt := HE.trans (by rw [(ix_cmp e_34), e_32, (xg2 e_29 : w_28.toInt = (xso SC ad ws_4) 2 (i0 + 1) x2_3.toInt.toNat)]; rfl)
          refine y_if_lt (tgt := 35) C0 dX10_allBelow_30 (by decide) (fun c_35 => ?_) (fun c_35 => ?_)
          · -- 30
            replace HE : FT = g10_X10_allBelow R2 (xso SC ad ws_4) i0 a1.toInt x2_3.toInt := HE.trans (if_pos c_35)
            refine y_inc (kp := 0) (n := 1) (fun v_36 => [(2, .int v_36), (0, .ref (ad i0)), (1, .int a1)]) C0 hl rfl (by decide) (by decide) (fun _ => rfl) (o12_147 b_10 b_11 hn_9 e_14 e_15 c_16 (le_min x2_3) (le_max x2_3) (le_min v_12) (le_max v_12)) (o12_148 b_10 b_11 hn_9 e_14 e_15 c_16 (le_min x2_3) (le_max x2_3) (le_min v_12) (le_max v_12)) dX10_allBelow_35 (fun v_36 ls e_37 hl => ?_)
            refine lv_goto (tgt := 2) C0.1 C0.2.1 dX10_allBelow_38 (by decide) ?_
            exact ih_7 v_36 _ _ _ _ (o12_149 b_10 b_11 hn_9 e_14 e_15 c_16 e_37) (o12_150 b_10 b_11 hn_9 e_14 e_15 c_16 e_37) (o12_151 b_10 b_11 hn_9 e_14 e_15 c_16 e_37) (((show FT = R2 (xso SC ad ws_4) i0 a1.toInt v_36.toInt from HE.trans (by rw [e_37]; rfl)).trans (by rw [hR2]))) h hF_5 (lv_sub hl [0, 1, 2] rfl)
          · -- 30
            replace HE : FT = g11_X10_allBelow (xso SC ad ws_4) := HE.trans (if_neg (Int.not_lt.mpr c_35))
            refine y_c1 (n := 0) C0 (by decide) dX10_allBelow_33 (fun v_38 e_39 => ?_)
            replace HE : FT = ((xso SC ad ws_4), v_38.toInt) := HE.trans (by rw [e_39]; rfl)
            rw [hQ]
            exact y_zret C0 h (o12_14 e_39) (o12_146 e_39) hF_5 ⟨(congrArg Prod.fst (HE.symm.trans hFT)), (congrArg Prod.snd (HE.symm.trans hFT)), (o12_14 e_39), (o12_146 e_39)⟩ dX10_allBelow_34
  exact lp_6 ((40 - v_1.toInt + 1).toNat) v_1 _ _ _ _ (o12_68 e_2) (o12_14 e_2) (o12_69 e_2) ((show FT = L1_X10_allBelow (Int.toNat (40 - v_1.toInt + 1)) (xso SC ad ws0) i0 a1.toInt v_1.toInt from HE.trans (by rw [e_2]; rfl))) h Fr.rf (lv_sub hl [0, 1, 2] rfl)
