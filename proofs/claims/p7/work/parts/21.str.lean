theorem dJ0_charAt_5068e_0 : decode cJ0_charAt_5068e 0 = .ok (.aload_n 0, 1) := by decide +kernel
theorem dJ0_charAt_5068e_1 : decode cJ0_charAt_5068e 1 = .ok (.invokevirtual 492, 3) := by decide +kernel
theorem dJ0_charAt_5068e_4 : decode cJ0_charAt_5068e 4 = .ok (.ifCond .eq 12, 3) := by decide +kernel
theorem dJ0_charAt_5068e_7 : decode cJ0_charAt_5068e 7 = .ok (.aload_n 0, 1) := by decide +kernel
theorem dJ0_charAt_5068e_8 : decode cJ0_charAt_5068e 8 = .ok (.getfield 9, 3) := by decide +kernel
theorem dJ0_charAt_5068e_11 : decode cJ0_charAt_5068e 11 = .ok (.iload_n 1, 1) := by decide +kernel
theorem dJ0_charAt_5068e_12 : decode cJ0_charAt_5068e 12 = .ok (.invokestatic 495, 3) := by decide +kernel
theorem dJ0_charAt_5068e_15 : decode cJ0_charAt_5068e 15 = .ok (.ireturn, 1) := by decide +kernel
theorem dJ0_checkIndex_df160_0 : decode cJ0_checkIndex_df160 0 = .ok (.iload_n 0, 1) := by decide +kernel
theorem dJ0_checkIndex_df160_1 : decode cJ0_checkIndex_df160 1 = .ok (.iload_n 1, 1) := by decide +kernel
theorem dJ0_checkIndex_df160_2 : decode cJ0_checkIndex_df160 2 = .ok (.getstatic 1053, 3) := by decide +kernel
theorem dJ0_checkIndex_df160_5 : decode cJ0_checkIndex_df160 5 = .ok (.invokestatic 1059, 3) := by decide +kernel
theorem dJ0_checkIndex_df160_8 : decode cJ0_checkIndex_df160 8 = .ok (.pop, 1) := by decide +kernel
theorem dJ0_checkIndex_df160_9 : decode cJ0_checkIndex_df160 9 = .ok (.return_, 1) := by decide +kernel
theorem dJ0_coder_7d493_0 : decode cJ0_coder_7d493 0 = .ok (.getstatic 38, 3) := by decide +kernel
theorem dJ0_coder_7d493_3 : decode cJ0_coder_7d493 3 = .ok (.ifCond .eq 10, 3) := by decide +kernel
theorem dJ0_coder_7d493_6 : decode cJ0_coder_7d493 6 = .ok (.aload_n 0, 1) := by decide +kernel
theorem dJ0_coder_7d493_7 : decode cJ0_coder_7d493 7 = .ok (.getfield 15, 3) := by decide +kernel
theorem dJ0_coder_7d493_10 : decode cJ0_coder_7d493 10 = .ok (.goto 4, 3) := by decide +kernel
theorem dJ0_coder_7d493_14 : decode cJ0_coder_7d493 14 = .ok (.ireturn, 1) := by decide +kernel
theorem dJ0_indexOf_0f7a4_0 : decode cJ0_indexOf_0f7a4 0 = .ok (.aload_n 0, 1) := by decide +kernel
theorem dJ0_indexOf_0f7a4_1 : decode cJ0_indexOf_0f7a4 1 = .ok (.iload_n 1, 1) := by decide +kernel
theorem dJ0_indexOf_0f7a4_2 : decode cJ0_indexOf_0f7a4 2 = .ok (.iconst 0, 1) := by decide +kernel
theorem dJ0_indexOf_0f7a4_3 : decode cJ0_indexOf_0f7a4 3 = .ok (.invokevirtual 633, 3) := by decide +kernel
theorem dJ0_indexOf_0f7a4_6 : decode cJ0_indexOf_0f7a4 6 = .ok (.ireturn, 1) := by decide +kernel
theorem dJ0_indexOf_7cf53_0 : decode cJ0_indexOf_7cf53 0 = .ok (.aload_n 0, 1) := by decide +kernel
theorem dJ0_indexOf_7cf53_1 : decode cJ0_indexOf_7cf53 1 = .ok (.invokevirtual 492, 3) := by decide +kernel
theorem dJ0_indexOf_7cf53_4 : decode cJ0_indexOf_7cf53 4 = .ok (.ifCond .eq 19, 3) := by decide +kernel
theorem dJ0_indexOf_7cf53_7 : decode cJ0_indexOf_7cf53 7 = .ok (.aload_n 0, 1) := by decide +kernel
theorem dJ0_indexOf_7cf53_8 : decode cJ0_indexOf_7cf53 8 = .ok (.getfield 9, 3) := by decide +kernel
theorem dJ0_indexOf_7cf53_11 : decode cJ0_indexOf_7cf53 11 = .ok (.iload_n 1, 1) := by decide +kernel
theorem dJ0_indexOf_7cf53_12 : decode cJ0_indexOf_7cf53 12 = .ok (.iload_n 2, 1) := by decide +kernel
theorem dJ0_indexOf_7cf53_13 : decode cJ0_indexOf_7cf53 13 = .ok (.aload_n 0, 1) := by decide +kernel
theorem dJ0_indexOf_7cf53_14 : decode cJ0_indexOf_7cf53 14 = .ok (.invokevirtual 505, 3) := by decide +kernel
theorem dJ0_indexOf_7cf53_17 : decode cJ0_indexOf_7cf53 17 = .ok (.invokestatic 637, 3) := by decide +kernel
theorem dJ0_indexOf_7cf53_20 : decode cJ0_indexOf_7cf53 20 = .ok (.goto 16, 3) := by decide +kernel
theorem dJ0_indexOf_7cf53_36 : decode cJ0_indexOf_7cf53 36 = .ok (.ireturn, 1) := by decide +kernel
theorem dJ0_isLatin1_aae02_0 : decode cJ0_isLatin1_aae02 0 = .ok (.getstatic 38, 3) := by decide +kernel
theorem dJ0_isLatin1_aae02_3 : decode cJ0_isLatin1_aae02 3 = .ok (.ifCond .eq 14, 3) := by decide +kernel
theorem dJ0_isLatin1_aae02_6 : decode cJ0_isLatin1_aae02 6 = .ok (.aload_n 0, 1) := by decide +kernel
theorem dJ0_isLatin1_aae02_7 : decode cJ0_isLatin1_aae02 7 = .ok (.getfield 15, 3) := by decide +kernel
theorem dJ0_isLatin1_aae02_10 : decode cJ0_isLatin1_aae02 10 = .ok (.ifCond .ne 7, 3) := by decide +kernel
theorem dJ0_isLatin1_aae02_13 : decode cJ0_isLatin1_aae02 13 = .ok (.iconst 1, 1) := by decide +kernel
theorem dJ0_isLatin1_aae02_14 : decode cJ0_isLatin1_aae02 14 = .ok (.goto 4, 3) := by decide +kernel
theorem dJ0_isLatin1_aae02_18 : decode cJ0_isLatin1_aae02 18 = .ok (.ireturn, 1) := by decide +kernel
theorem dJ0_length_8abf5_0 : decode cJ0_length_8abf5 0 = .ok (.aload_n 0, 1) := by decide +kernel
theorem dJ0_length_8abf5_1 : decode cJ0_length_8abf5 1 = .ok (.getfield 9, 3) := by decide +kernel
theorem dJ0_length_8abf5_4 : decode cJ0_length_8abf5 4 = .ok (.arraylength, 1) := by decide +kernel
theorem dJ0_length_8abf5_5 : decode cJ0_length_8abf5 5 = .ok (.aload_n 0, 1) := by decide +kernel
theorem dJ0_length_8abf5_6 : decode cJ0_length_8abf5 6 = .ok (.invokevirtual 335, 3) := by decide +kernel
theorem dJ0_length_8abf5_9 : decode cJ0_length_8abf5 9 = .ok (.ishr, 1) := by decide +kernel
theorem dJ0_length_8abf5_10 : decode cJ0_length_8abf5 10 = .ok (.ireturn, 1) := by decide +kernel
theorem dJ1_canEncode_9a6ad_0 : decode cJ1_canEncode_9a6ad 0 = .ok (.iload_n 0, 1) := by decide +kernel
theorem dJ1_canEncode_9a6ad_1 : decode cJ1_canEncode_9a6ad 1 = .ok (.ifCond .lt 14, 3) := by decide +kernel
theorem dJ1_canEncode_9a6ad_4 : decode cJ1_canEncode_9a6ad 4 = .ok (.iload_n 0, 1) := by decide +kernel
theorem dJ1_canEncode_9a6ad_5 : decode cJ1_canEncode_9a6ad 5 = .ok (.sipush 255, 3) := by decide +kernel
theorem dJ1_canEncode_9a6ad_8 : decode cJ1_canEncode_9a6ad 8 = .ok (.if_icmp .gt 7, 3) := by decide +kernel
theorem dJ1_canEncode_9a6ad_11 : decode cJ1_canEncode_9a6ad 11 = .ok (.iconst 1, 1) := by decide +kernel
theorem dJ1_canEncode_9a6ad_12 : decode cJ1_canEncode_9a6ad 12 = .ok (.goto 4, 3) := by decide +kernel
theorem dJ1_canEncode_9a6ad_15 : decode cJ1_canEncode_9a6ad 15 = .ok (.iconst 0, 1) := by decide +kernel
theorem dJ1_canEncode_9a6ad_16 : decode cJ1_canEncode_9a6ad 16 = .ok (.ireturn, 1) := by decide +kernel
theorem dJ1_charAt_3b067_0 : decode cJ1_charAt_3b067 0 = .ok (.iload_n 1, 1) := by decide +kernel
theorem dJ1_charAt_3b067_1 : decode cJ1_charAt_3b067 1 = .ok (.aload_n 0, 1) := by decide +kernel
theorem dJ1_charAt_3b067_2 : decode cJ1_charAt_3b067 2 = .ok (.arraylength, 1) := by decide +kernel
theorem dJ1_charAt_3b067_3 : decode cJ1_charAt_3b067 3 = .ok (.invokestatic 9, 3) := by decide +kernel
theorem dJ1_charAt_3b067_6 : decode cJ1_charAt_3b067 6 = .ok (.aload_n 0, 1) := by decide +kernel
theorem dJ1_charAt_3b067_7 : decode cJ1_charAt_3b067 7 = .ok (.iload_n 1, 1) := by decide +kernel
theorem dJ1_charAt_3b067_8 : decode cJ1_charAt_3b067 8 = .ok (.baload, 1) := by decide +kernel
theorem dJ1_charAt_3b067_9 : decode cJ1_charAt_3b067 9 = .ok (.sipush 255, 3) := by decide +kernel
theorem dJ1_charAt_3b067_12 : decode cJ1_charAt_3b067 12 = .ok (.iand, 1) := by decide +kernel
theorem dJ1_charAt_3b067_13 : decode cJ1_charAt_3b067 13 = .ok (.i2c, 1) := by decide +kernel
theorem dJ1_charAt_3b067_14 : decode cJ1_charAt_3b067 14 = .ok (.ireturn, 1) := by decide +kernel
theorem dJ1_indexOfChar_4cfef_0 : decode cJ1_indexOfChar_4cfef 0 = .ok (.iload_n 1, 1) := by decide +kernel
theorem dJ1_indexOfChar_4cfef_1 : decode cJ1_indexOfChar_4cfef 1 = .ok (.i2b, 1) := by decide +kernel
theorem dJ1_indexOfChar_4cfef_2 : decode cJ1_indexOfChar_4cfef 2 = .ok (.istore 4, 2) := by decide +kernel
theorem dJ1_indexOfChar_4cfef_4 : decode cJ1_indexOfChar_4cfef 4 = .ok (.iload_n 2, 1) := by decide +kernel
theorem dJ1_indexOfChar_4cfef_5 : decode cJ1_indexOfChar_4cfef 5 = .ok (.istore 5, 2) := by decide +kernel
theorem dJ1_indexOfChar_4cfef_7 : decode cJ1_indexOfChar_4cfef 7 = .ok (.iload 5, 2) := by decide +kernel
theorem dJ1_indexOfChar_4cfef_9 : decode cJ1_indexOfChar_4cfef 9 = .ok (.iload_n 3, 1) := by decide +kernel
theorem dJ1_indexOfChar_4cfef_10 : decode cJ1_indexOfChar_4cfef 10 = .ok (.if_icmp .ge 21, 3) := by decide +kernel
theorem dJ1_indexOfChar_4cfef_13 : decode cJ1_indexOfChar_4cfef 13 = .ok (.aload_n 0, 1) := by decide +kernel
theorem dJ1_indexOfChar_4cfef_14 : decode cJ1_indexOfChar_4cfef 14 = .ok (.iload 5, 2) := by decide +kernel
theorem dJ1_indexOfChar_4cfef_16 : decode cJ1_indexOfChar_4cfef 16 = .ok (.baload, 1) := by decide +kernel
theorem dJ1_indexOfChar_4cfef_17 : decode cJ1_indexOfChar_4cfef 17 = .ok (.iload 4, 2) := by decide +kernel
theorem dJ1_indexOfChar_4cfef_19 : decode cJ1_indexOfChar_4cfef 19 = .ok (.if_icmp .ne 6, 3) := by decide +kernel
theorem dJ1_indexOfChar_4cfef_22 : decode cJ1_indexOfChar_4cfef 22 = .ok (.iload 5, 2) := by decide +kernel
theorem dJ1_indexOfChar_4cfef_24 : decode cJ1_indexOfChar_4cfef 24 = .ok (.ireturn, 1) := by decide +kernel
theorem dJ1_indexOfChar_4cfef_25 : decode cJ1_indexOfChar_4cfef 25 = .ok (.iinc 5 1, 3) := by decide +kernel
theorem dJ1_indexOfChar_4cfef_28 : decode cJ1_indexOfChar_4cfef 28 = .ok (.goto (-21), 3) := by decide +kernel
theorem dJ1_indexOfChar_4cfef_31 : decode cJ1_indexOfChar_4cfef 31 = .ok (.iconst (-1), 1) := by decide +kernel
theorem dJ1_indexOfChar_4cfef_32 : decode cJ1_indexOfChar_4cfef 32 = .ok (.ireturn, 1) := by decide +kernel
theorem dJ1_indexOf_4cfef_0 : decode cJ1_indexOf_4cfef 0 = .ok (.iload_n 1, 1) := by decide +kernel
theorem dJ1_indexOf_4cfef_1 : decode cJ1_indexOf_4cfef 1 = .ok (.invokestatic 88, 3) := by decide +kernel
theorem dJ1_indexOf_4cfef_4 : decode cJ1_indexOf_4cfef 4 = .ok (.ifCond .ne 5, 3) := by decide +kernel
theorem dJ1_indexOf_4cfef_7 : decode cJ1_indexOf_4cfef 7 = .ok (.iconst (-1), 1) := by decide +kernel
theorem dJ1_indexOf_4cfef_8 : decode cJ1_indexOf_4cfef 8 = .ok (.ireturn, 1) := by decide +kernel
theorem dJ1_indexOf_4cfef_9 : decode cJ1_indexOf_4cfef 9 = .ok (.iload_n 2, 1) := by decide +kernel
theorem dJ1_indexOf_4cfef_10 : decode cJ1_indexOf_4cfef 10 = .ok (.iconst 0, 1) := by decide +kernel
theorem dJ1_indexOf_4cfef_11 : decode cJ1_indexOf_4cfef 11 = .ok (.invokestatic 92, 3) := by decide +kernel
theorem dJ1_indexOf_4cfef_14 : decode cJ1_indexOf_4cfef 14 = .ok (.istore_n 2, 1) := by decide +kernel
theorem dJ1_indexOf_4cfef_15 : decode cJ1_indexOf_4cfef 15 = .ok (.iload_n 3, 1) := by decide +kernel
theorem dJ1_indexOf_4cfef_16 : decode cJ1_indexOf_4cfef 16 = .ok (.aload_n 0, 1) := by decide +kernel
theorem dJ1_indexOf_4cfef_17 : decode cJ1_indexOf_4cfef 17 = .ok (.arraylength, 1) := by decide +kernel
theorem dJ1_indexOf_4cfef_18 : decode cJ1_indexOf_4cfef 18 = .ok (.invokestatic 38, 3) := by decide +kernel
theorem dJ1_indexOf_4cfef_21 : decode cJ1_indexOf_4cfef 21 = .ok (.istore_n 3, 1) := by decide +kernel
theorem dJ1_indexOf_4cfef_22 : decode cJ1_indexOf_4cfef 22 = .ok (.iload_n 2, 1) := by decide +kernel
theorem dJ1_indexOf_4cfef_23 : decode cJ1_indexOf_4cfef 23 = .ok (.iload_n 3, 1) := by decide +kernel
theorem dJ1_indexOf_4cfef_24 : decode cJ1_indexOf_4cfef 24 = .ok (.if_icmp .lt 5, 3) := by decide +kernel
theorem dJ1_indexOf_4cfef_27 : decode cJ1_indexOf_4cfef 27 = .ok (.iconst (-1), 1) := by decide +kernel
theorem dJ1_indexOf_4cfef_28 : decode cJ1_indexOf_4cfef 28 = .ok (.ireturn, 1) := by decide +kernel
theorem dJ1_indexOf_4cfef_29 : decode cJ1_indexOf_4cfef 29 = .ok (.aload_n 0, 1) := by decide +kernel
theorem dJ1_indexOf_4cfef_30 : decode cJ1_indexOf_4cfef 30 = .ok (.iload_n 1, 1) := by decide +kernel
theorem dJ1_indexOf_4cfef_31 : decode cJ1_indexOf_4cfef 31 = .ok (.iload_n 2, 1) := by decide +kernel
theorem dJ1_indexOf_4cfef_32 : decode cJ1_indexOf_4cfef 32 = .ok (.iload_n 3, 1) := by decide +kernel
theorem dJ1_indexOf_4cfef_33 : decode cJ1_indexOf_4cfef 33 = .ok (.invokestatic 95, 3) := by decide +kernel
theorem dJ1_indexOf_4cfef_36 : decode cJ1_indexOf_4cfef 36 = .ok (.ireturn, 1) := by decide +kernel
theorem dJ3_checkIndex_8e157_0 : decode cJ3_checkIndex_8e157 0 = .ok (.iload_n 0, 1) := by decide +kernel
theorem dJ3_checkIndex_8e157_1 : decode cJ3_checkIndex_8e157 1 = .ok (.ifCond .lt 8, 3) := by decide +kernel
theorem dJ3_checkIndex_8e157_4 : decode cJ3_checkIndex_8e157 4 = .ok (.iload_n 0, 1) := by decide +kernel
theorem dJ3_checkIndex_8e157_5 : decode cJ3_checkIndex_8e157 5 = .ok (.iload_n 1, 1) := by decide +kernel
theorem dJ3_checkIndex_8e157_6 : decode cJ3_checkIndex_8e157 6 = .ok (.if_icmp .lt 10, 3) := by decide +kernel
theorem dJ3_checkIndex_8e157_16 : decode cJ3_checkIndex_8e157 16 = .ok (.iload_n 0, 1) := by decide +kernel
theorem dJ3_checkIndex_8e157_17 : decode cJ3_checkIndex_8e157 17 = .ok (.ireturn, 1) := by decide +kernel
theorem o21_1 {x0 : Int} (h0 : x0 = 1) (h1 : x0 = 0) : False := by omega
theorem o21_2 {x0 : Int} (h0 : x0 = 0) : x0 = 0 := by omega
theorem o21_3 {x0 : Int} (h0 : x0 = 0) : 0 ≤ x0 := by omega
theorem o21_4 {x0 : Int} (h0 : x0 = 0) : x0 ≤ 0 := by omega
theorem o21_5 {x0 : Int} (h0 : x0 = 0) : -128 ≤ x0 := by omega
theorem o21_6 {x0 : Int} (h0 : x0 = 0) : x0 ≤ 127 := by omega
theorem o21_7 {x0 : Int} (h0 : x0 = 0) (h1 : ¬ x0 = 0) : False := by omega
theorem o21_8 {x0 : Int} (h0 : x0 = 1) : 1 ≤ x0 := by omega
theorem o21_9 {x0 : Int} (h0 : x0 = 1) : x0 ≤ 1 := by omega
theorem o21_10 {x0 : Int} (h0 : x0 = 1) : 0 ≤ x0 := by omega
theorem o21_11 {x0 : Int} (h0 : 0 ≤ x0) (h1 : x0 ≤ 0) : x0 = 0 := by omega
theorem o21_12 {x0 x2 : Int} {x1 : Nat} (h0 : strLen.getD x1 0 ≤ 102) (h1 : x2 = ((strLen.getD x1 0 : Nat) : Int)) (h2 : x0 = x2 / 1) : 0 ≤ x0 := by omega
theorem o21_13 {x0 x2 : Int} {x1 : Nat} (h0 : strLen.getD x1 0 ≤ 102) (h1 : x2 = ((strLen.getD x1 0 : Nat) : Int)) (h2 : x0 = x2 / 1) : x0 ≤ 102 := by omega
theorem o21_14 {x0 x2 : Int} {x1 : Nat} (h0 : strLen.getD x1 0 ≤ 102) (h1 : x2 = ((strLen.getD x1 0 : Nat) : Int)) (h2 : x0 = x2 / 1) : x0 = ((strLen.getD x1 0 : Nat) : Int) := by omega
theorem o21_15 {x0 x1 : Int} (h0 : 0 ≤ x0) (h1 : x0 < x1) (h2 : x0 < 0) : False := by omega
theorem o21_16 {x0 x1 : Int} (h0 : 0 ≤ x0) (h1 : x0 < x1) (h2 : x1 ≤ x0) : False := by omega
theorem o21_17 {x0 x1 : Int} (h0 : 0 ≤ x0) (h1 : x0 < x1) : 0 ≤ x0 := by omega
theorem o21_18 {x0 x1 : Int} (h0 : 0 ≤ x0) (h1 : x0 < x1) (h2 : -2147483648 ≤ x0) (h3 : x0 ≤ 2147483647) (h4 : -2147483648 ≤ x1) (h5 : x1 ≤ 2147483647) : x0 ≤ 2147483646 := by omega
theorem o21_19 {x0 x1 : Int} (h0 : 0 ≤ x0) (h1 : x0 < x1) : x0 < x1 := by omega
theorem o21_20 {x0 x2 : Int} {x1 : Nat} (h0 : strLen.getD x1 0 ≤ 102) (h1 : 0 ≤ x0) (h2 : x0 < ((strLen.getD x1 0 : Nat) : Int)) (h3 : x2 = ((strLen.getD x1 0 : Nat) : Int)) : 0 ≤ x0 := by omega
theorem o21_21 {x0 x1 : Int} {x2 : Nat} (h0 : strLen.getD x2 0 ≤ 102) (h1 : 0 ≤ x0) (h2 : x0 < ((strLen.getD x2 0 : Nat) : Int)) (h3 : x1 = ((strLen.getD x2 0 : Nat) : Int)) : x0 < x1 := by omega
theorem o21_22 {x0 x2 : Int} {x1 : Nat} (h0 : strLen.getD x1 0 ≤ 102) (h1 : 0 ≤ x0) (h2 : x0 < ((strLen.getD x1 0 : Nat) : Int)) (h3 : x2 = ((strLen.getD x1 0 : Nat) : Int)) : x0 < ((strLen.getD x1 0 : Nat) : Int) := by omega
theorem o21_23 {x0 : Int} (h0 : x0 = 255) : x0 = 255 := by omega
theorem o21_24 {x0 : Int} (h0 : 0 ≤ x0) (h1 : x0 ≤ 65535) : 0 ≤ x0 := by omega
theorem o21_25 {x0 : Int} (h0 : 0 ≤ x0) (h1 : x0 ≤ 65535) : x0 ≤ 65535 := by omega
theorem o21_26 {x0 : Int} (h0 : 1 ≤ x0) (h1 : x0 ≤ 1) (h2 : x0 = 0) : False := by omega
theorem o21_27 {x0 : Int} {x1 : Nat} (h0 : strLen.getD x1 0 ≤ 102) (h1 : 0 ≤ x0) (h2 : x0 < ((strLen.getD x1 0 : Nat) : Int)) : 0 ≤ x0 := by omega
theorem o21_28 {x0 : Int} {x1 : Nat} (h0 : strLen.getD x1 0 ≤ 102) (h1 : 0 ≤ x0) (h2 : x0 < ((strLen.getD x1 0 : Nat) : Int)) : x0 < ((strLen.getD x1 0 : Nat) : Int) := by omega
theorem o21_29 {x0 : Int} (h0 : x0 = 0) : x0 ≤ 1 := by omega
theorem o21_30 {x0 x1 : Int} (h0 : 0 ≤ x0) (h1 : x1 = 255) (h2 : x1 < x0) : 255 < x0 := by omega
theorem o21_31 {x0 x1 : Int} (h0 : 0 ≤ x0) (h1 : x1 = 255) (h2 : x0 ≤ x1) : ¬ 255 < x0 := by omega
theorem o21_32 {x0 : Int} (h0 : 0 ≤ x0) (h1 : x0 ≤ 102) (h2 : 102 - x0 < 0) : False := by omega
theorem o21_33 {x0 : Int} (h0 : x0 = (-1)) : (-1) ≤ x0 := by omega
theorem o21_34 {x0 : Int} (h0 : x0 = (-1)) : x0 ≤ 102 := by omega
theorem o21_35 {x0 x2 : Int} {x1 x3 : Nat} (h0 : strLen.getD x1 0 ≤ 102) (h1 : 0 ≤ x2) (h2 : x2 ≤ 102) (h3 : x2 ≤ ((strLen.getD x1 0 : Nat) : Int)) (h4 : 0 ≤ x0) (h5 : x0 ≤ 102) (h6 : 102 - x0 < ((x3 + 1 : Nat) : Int)) (h7 : x0 < x2) : 0 ≤ x0 := by omega
theorem o21_36 {x0 x2 : Int} {x1 x3 : Nat} (h0 : strLen.getD x1 0 ≤ 102) (h1 : 0 ≤ x2) (h2 : x2 ≤ 102) (h3 : x2 ≤ ((strLen.getD x1 0 : Nat) : Int)) (h4 : 0 ≤ x0) (h5 : x0 ≤ 102) (h6 : 102 - x0 < ((x3 + 1 : Nat) : Int)) (h7 : x0 < x2) : x0 < ((strLen.getD x1 0 : Nat) : Int) := by omega
theorem o21_37 {x0 x2 : Int} {x1 x3 : Nat} (h0 : strLen.getD x1 0 ≤ 102) (h1 : 0 ≤ x2) (h2 : x2 ≤ 102) (h3 : x2 ≤ ((strLen.getD x1 0 : Nat) : Int)) (h4 : 0 ≤ x0) (h5 : x0 ≤ 102) (h6 : 102 - x0 < ((x3 + 1 : Nat) : Int)) (h7 : x0 < x2) (h8 : -2147483648 ≤ x0) (h9 : x0 ≤ 2147483647) (h10 : -2147483648 ≤ x2) (h11 : x2 ≤ 2147483647) : -2147483648 ≤ x0 + 1 := by omega
theorem o21_38 {x0 x2 : Int} {x1 x3 : Nat} (h0 : strLen.getD x1 0 ≤ 102) (h1 : 0 ≤ x2) (h2 : x2 ≤ 102) (h3 : x2 ≤ ((strLen.getD x1 0 : Nat) : Int)) (h4 : 0 ≤ x0) (h5 : x0 ≤ 102) (h6 : 102 - x0 < ((x3 + 1 : Nat) : Int)) (h7 : x0 < x2) (h8 : -2147483648 ≤ x0) (h9 : x0 ≤ 2147483647) (h10 : -2147483648 ≤ x2) (h11 : x2 ≤ 2147483647) : x0 + 1 ≤ 2147483647 := by omega
theorem o21_39 {x0 x3 x4 : Int} {x1 x2 : Nat} (h0 : strLen.getD x2 0 ≤ 102) (h1 : 0 ≤ x3) (h2 : x3 ≤ 102) (h3 : x3 ≤ ((strLen.getD x2 0 : Nat) : Int)) (h4 : 0 ≤ x4) (h5 : x4 ≤ 102) (h6 : 102 - x4 < ((x1 + 1 : Nat) : Int)) (h7 : x4 < x3) (h8 : x0 = x4 + 1) : 102 - x0 < (x1 : Int) := by omega
theorem o21_40 {x0 x2 x3 : Int} {x1 x4 : Nat} (h0 : strLen.getD x1 0 ≤ 102) (h1 : 0 ≤ x2) (h2 : x2 ≤ 102) (h3 : x2 ≤ ((strLen.getD x1 0 : Nat) : Int)) (h4 : 0 ≤ x3) (h5 : x3 ≤ 102) (h6 : 102 - x3 < ((x4 + 1 : Nat) : Int)) (h7 : x3 < x2) (h8 : x0 = x3 + 1) : 0 ≤ x0 := by omega
theorem o21_41 {x0 x2 x3 : Int} {x1 x4 : Nat} (h0 : strLen.getD x1 0 ≤ 102) (h1 : 0 ≤ x2) (h2 : x2 ≤ 102) (h3 : x2 ≤ ((strLen.getD x1 0 : Nat) : Int)) (h4 : 0 ≤ x3) (h5 : x3 ≤ 102) (h6 : 102 - x3 < ((x4 + 1 : Nat) : Int)) (h7 : x3 < x2) (h8 : x0 = x3 + 1) : x0 ≤ 102 := by omega
theorem o21_42 {x0 x2 : Int} {x1 x3 : Nat} (h0 : strLen.getD x1 0 ≤ 102) (h1 : 0 ≤ x2) (h2 : x2 ≤ 102) (h3 : x2 ≤ ((strLen.getD x1 0 : Nat) : Int)) (h4 : 0 ≤ x0) (h5 : x0 ≤ 102) (h6 : 102 - x0 < ((x3 + 1 : Nat) : Int)) (h7 : x0 < x2) : (-1) ≤ x0 := by omega
theorem o21_43 {x0 x2 : Int} {x1 x3 : Nat} (h0 : strLen.getD x1 0 ≤ 102) (h1 : 0 ≤ x2) (h2 : x2 ≤ 102) (h3 : x2 ≤ ((strLen.getD x1 0 : Nat) : Int)) (h4 : 0 ≤ x0) (h5 : x0 ≤ 102) (h6 : 102 - x0 < ((x3 + 1 : Nat) : Int)) (h7 : x0 < x2) : x0 ≤ 102 := by omega
theorem o21_44 {x0 : Int} (h0 : 0 ≤ x0) (h1 : x0 ≤ 0) : 102 - x0 < (((102 - x0 + 1).toNat : Nat) : Int) := by omega
theorem o21_45 {x0 : Int} (h0 : 0 ≤ x0) (h1 : x0 ≤ 0) : 0 ≤ x0 := by omega
theorem o21_46 {x0 : Int} (h0 : 0 ≤ x0) (h1 : x0 ≤ 0) : x0 ≤ 102 := by omega
theorem o21_47 {x0 x1 x2 : Int} (h0 : 0 ≤ x1) (h1 : x1 ≤ 0) (h2 : x2 = 0) (h3 : (x0 = x1 ∧ x2 ≤ x1) ∨ (x0 = x2 ∧ x1 ≤ x2)) : x0 = 0 := by omega
theorem o21_48 {x0 x2 x3 x4 x5 x6 : Int} {x1 : Nat} (h0 : strLen.getD x1 0 ≤ 102) (h1 : 0 ≤ x2) (h2 : x2 ≤ 0) (h3 : 0 ≤ x3) (h4 : x3 ≤ 102) (h5 : x4 = 0) (h6 : (x5 = x2 ∧ x4 ≤ x2) ∨ (x5 = x4 ∧ x2 ≤ x4)) (h7 : x6 = ((strLen.getD x1 0 : Nat) : Int)) (h8 : (x0 = x3 ∧ x3 ≤ x6) ∨ (x0 = x6 ∧ x6 ≤ x3)) (h9 : x5 < x0) : 0 < x0 := by omega
theorem o21_49 {x0 x2 x3 x4 x5 x6 : Int} {x1 : Nat} (h0 : strLen.getD x1 0 ≤ 102) (h1 : 0 ≤ x2) (h2 : x2 ≤ 0) (h3 : 0 ≤ x3) (h4 : x3 ≤ 102) (h5 : x4 = 0) (h6 : (x5 = x2 ∧ x4 ≤ x2) ∨ (x5 = x4 ∧ x2 ≤ x4)) (h7 : x6 = ((strLen.getD x1 0 : Nat) : Int)) (h8 : (x0 = x3 ∧ x3 ≤ x6) ∨ (x0 = x6 ∧ x6 ≤ x3)) (h9 : x0 ≤ x5) : ¬ 0 < x0 := by omega
theorem o21_50 {x0 x2 x3 x4 x5 x6 : Int} {x1 : Nat} (h0 : strLen.getD x1 0 ≤ 102) (h1 : 0 ≤ x2) (h2 : x2 ≤ 0) (h3 : 0 ≤ x3) (h4 : x3 ≤ 102) (h5 : x4 = 0) (h6 : (x0 = x2 ∧ x4 ≤ x2) ∨ (x0 = x4 ∧ x2 ≤ x4)) (h7 : x5 = ((strLen.getD x1 0 : Nat) : Int)) (h8 : (x6 = x3 ∧ x3 ≤ x5) ∨ (x6 = x5 ∧ x5 ≤ x3)) (h9 : x0 < x6) : 0 ≤ x0 := by omega
theorem o21_51 {x0 x2 x3 x4 x5 x6 : Int} {x1 : Nat} (h0 : strLen.getD x1 0 ≤ 102) (h1 : 0 ≤ x2) (h2 : x2 ≤ 0) (h3 : 0 ≤ x3) (h4 : x3 ≤ 102) (h5 : x4 = 0) (h6 : (x0 = x2 ∧ x4 ≤ x2) ∨ (x0 = x4 ∧ x2 ≤ x4)) (h7 : x5 = ((strLen.getD x1 0 : Nat) : Int)) (h8 : (x6 = x3 ∧ x3 ≤ x5) ∨ (x6 = x5 ∧ x5 ≤ x3)) (h9 : x0 < x6) : x0 ≤ 0 := by omega
theorem o21_52 {x0 x2 x3 x4 x5 x6 : Int} {x1 : Nat} (h0 : strLen.getD x1 0 ≤ 102) (h1 : 0 ≤ x2) (h2 : x2 ≤ 0) (h3 : 0 ≤ x3) (h4 : x3 ≤ 102) (h5 : x4 = 0) (h6 : (x5 = x2 ∧ x4 ≤ x2) ∨ (x5 = x4 ∧ x2 ≤ x4)) (h7 : x6 = ((strLen.getD x1 0 : Nat) : Int)) (h8 : (x0 = x3 ∧ x3 ≤ x6) ∨ (x0 = x6 ∧ x6 ≤ x3)) (h9 : x5 < x0) : 0 ≤ x0 := by omega
theorem o21_53 {x0 x2 x3 x4 x5 x6 : Int} {x1 : Nat} (h0 : strLen.getD x1 0 ≤ 102) (h1 : 0 ≤ x2) (h2 : x2 ≤ 0) (h3 : 0 ≤ x3) (h4 : x3 ≤ 102) (h5 : x4 = 0) (h6 : (x5 = x2 ∧ x4 ≤ x2) ∨ (x5 = x4 ∧ x2 ≤ x4)) (h7 : x6 = ((strLen.getD x1 0 : Nat) : Int)) (h8 : (x0 = x3 ∧ x3 ≤ x6) ∨ (x0 = x6 ∧ x6 ≤ x3)) (h9 : x5 < x0) : x0 ≤ 102 := by omega
theorem o21_54 {x0 x2 x3 x4 x5 x6 : Int} {x1 : Nat} (h0 : strLen.getD x1 0 ≤ 102) (h1 : 0 ≤ x2) (h2 : x2 ≤ 0) (h3 : 0 ≤ x3) (h4 : x3 ≤ 102) (h5 : x4 = 0) (h6 : (x5 = x2 ∧ x4 ≤ x2) ∨ (x5 = x4 ∧ x2 ≤ x4)) (h7 : x6 = ((strLen.getD x1 0 : Nat) : Int)) (h8 : (x0 = x3 ∧ x3 ≤ x6) ∨ (x0 = x6 ∧ x6 ≤ x3)) (h9 : x5 < x0) : x0 ≤ ((strLen.getD x1 0 : Nat) : Int) := by omega
theorem o21_55 {x0 x2 x3 x4 x5 x6 : Int} {x1 : Nat} (h0 : strLen.getD x1 0 ≤ 102) (h1 : 0 ≤ x2) (h2 : x2 ≤ 0) (h3 : 0 ≤ x3) (h4 : x3 ≤ 102) (h5 : x4 = 0) (h6 : (x0 = x2 ∧ x4 ≤ x2) ∨ (x0 = x4 ∧ x2 ≤ x4)) (h7 : x5 = ((strLen.getD x1 0 : Nat) : Int)) (h8 : (x6 = x3 ∧ x3 ≤ x5) ∨ (x6 = x5 ∧ x5 ≤ x3)) (h9 : x0 < x6) : x0 = 0 := by omega
theorem o21_56 {x0 : Int} (h0 : (-1) ≤ x0) (h1 : x0 ≤ 102) : (-1) ≤ x0 := by omega
theorem o21_57 {x0 : Int} (h0 : (-1) ≤ x0) (h1 : x0 ≤ 102) : x0 ≤ 102 := by omega
theorem o21_58 {x0 : Int} (h0 : 0 ≤ x0) (h1 : x0 ≤ 0) : x0 ≤ 0 := by omega
theorem o21_59 {x0 : Int} {x1 : Nat} (h0 : strLen.getD x1 0 ≤ 102) (h1 : 0 ≤ x0) (h2 : x0 ≤ 102) (h3 : x0 = ((strLen.getD x1 0 : Nat) : Int)) : 0 ≤ x0 := by omega
theorem o21_60 {x0 : Int} {x1 : Nat} (h0 : strLen.getD x1 0 ≤ 102) (h1 : 0 ≤ x0) (h2 : x0 ≤ 102) (h3 : x0 = ((strLen.getD x1 0 : Nat) : Int)) : x0 ≤ 102 := by omega
noncomputable def f_J0_coder_7d493 (s : XS) (k0 : Nat) : XR := (s, 0)
set_option maxHeartbeats 4000000 in
set_option maxRecDepth 100000 in
theorem c_J0_coder_7d493 {S : Sp} (l : Launch) (G : GG) (Z : RZ) (ad : Nat → Nat) (ws0 : va_W) (hT : Ty G S ad ws0) (k0 : Nat) (hsk0 : k0 < 23) : Mq l yJ0_coder_7d493 cJ0_coder_7d493 1 (some .byte) 1 G Z [.ref (Z.2.1 k0)] ws0 (PI G S ad [] ws0 (fun r u => (xso S ad u = (f_J0_coder_7d493 (xso S ad ws0) k0).1) ∧ (r.toInt = (f_J0_coder_7d493 (xso S ad ws0) k0).2) ∧ (0 ≤ r.toInt) ∧ (r.toInt ≤ 0))) := by
  refine Mq.start (by decide) (Nat.le_of_ble_eq_true rfl) ?_
  intro p e s m below meth c A ls C0 hZ h hl
  have hl : lv_has ls 1 [(0, .ref (Z.2.1 k0))] := hl
  have h : Wt G S ad A s s.heap [] ws0 := ⟨h, hT⟩
  obtain ⟨args, hargs⟩ : ∃ z, z = ([.ref (Z.2.1 k0)] : List Value).toArray := ⟨_, rfl⟩
  rw [← hargs] at C0 ⊢
  have C0 : Cx p s m args meth c RJ0 cJ0_coder_7d493 1 (some .byte) := C0
  obtain ⟨Q, hQ⟩ : ∃ z, z = MQ below ((PI G S ad [] ws0 (fun r u => (xso S ad u = (f_J0_coder_7d493 (xso S ad ws0) k0).1) ∧ (r.toInt = (f_J0_coder_7d493 (xso S ad ws0) k0).2) ∧ (0 ≤ r.toInt) ∧ (r.toInt ≤ 0))) A) args s 0 0 A := ⟨_, rfl⟩
  rw [← hQ]
  obtain ⟨FT, hFT⟩ : ∃ z, z = f_J0_coder_7d493 (xso S ad ws0) k0 := ⟨_, rfl⟩
  have HE : FT = f_J0_coder_7d493 (xso S ad ws0) k0 := hFT
  refine y_scmp C0 hZ h q_643 dJ0_coder_7d493_0 (fun v_1 e_2 => ?_)
  refine y_if_eq (tgt := 13) C0 dJ0_coder_7d493_3 (by decide) (fun c_3 => ((o21_1 e_2 c_3)).elim) (fun c_3 => ?_)
  refine lv_aload_n C0.1 C0.2.1 dJ0_coder_7d493_6 rfl (lv_at hl 0 rfl) ?_
  refine y_scod C0 hZ h hsk0 q_2070 dJ0_coder_7d493_7 (fun v_4 e_5 => ?_)
  refine lv_goto (tgt := 14) C0.1 C0.2.1 dJ0_coder_7d493_10 (by decide) ?_
  replace HE : FT = ((xso S ad ws0), v_4.toInt) := HE.trans (by rw [(o21_2 e_5)]; rfl)
  rw [hQ]
  exact y_bret C0 h (o21_5 e_5) (o21_6 e_5) Fr.rf ⟨(congrArg Prod.fst (HE.symm.trans hFT)), (congrArg Prod.snd (HE.symm.trans hFT)), (o21_3 e_5), (o21_4 e_5)⟩ dJ0_coder_7d493_14
noncomputable def f_J0_isLatin1_aae02 (s : XS) (k0 : Nat) : XR := (s, 1)
set_option maxHeartbeats 4000000 in
set_option maxRecDepth 100000 in
theorem c_J0_isLatin1_aae02 {S : Sp} (l : Launch) (G : GG) (Z : RZ) (ad : Nat → Nat) (ws0 : va_W) (hT : Ty G S ad ws0) (k0 : Nat) (hsk0 : k0 < 23) : Mq l yJ0_isLatin1_aae02 cJ0_isLatin1_aae02 1 (some .boolean) 1 G Z [.ref (Z.2.1 k0)] ws0 (PI G S ad [] ws0 (fun r u => (xso S ad u = (f_J0_isLatin1_aae02 (xso S ad ws0) k0).1) ∧ (r.toInt = (f_J0_isLatin1_aae02 (xso S ad ws0) k0).2) ∧ (1 ≤ r.toInt) ∧ (r.toInt ≤ 1))) := by
  refine Mq.start (by decide) (Nat.le_of_ble_eq_true rfl) ?_
  intro p e s m below meth c A ls C0 hZ h hl
  have hl : lv_has ls 1 [(0, .ref (Z.2.1 k0))] := hl
  have h : Wt G S ad A s s.heap [] ws0 := ⟨h, hT⟩
  obtain ⟨args, hargs⟩ : ∃ z, z = ([.ref (Z.2.1 k0)] : List Value).toArray := ⟨_, rfl⟩
  rw [← hargs] at C0 ⊢
  have C0 : Cx p s m args meth c RJ0 cJ0_isLatin1_aae02 1 (some .boolean) := C0
  obtain ⟨Q, hQ⟩ : ∃ z, z = MQ below ((PI G S ad [] ws0 (fun r u => (xso S ad u = (f_J0_isLatin1_aae02 (xso S ad ws0) k0).1) ∧ (r.toInt = (f_J0_isLatin1_aae02 (xso S ad ws0) k0).2) ∧ (1 ≤ r.toInt) ∧ (r.toInt ≤ 1))) A) args s 0 0 A := ⟨_, rfl⟩
  rw [← hQ]
  obtain ⟨FT, hFT⟩ : ∃ z, z = f_J0_isLatin1_aae02 (xso S ad ws0) k0 := ⟨_, rfl⟩
  have HE : FT = f_J0_isLatin1_aae02 (xso S ad ws0) k0 := hFT
  refine y_scmp C0 hZ h q_643 dJ0_isLatin1_aae02_0 (fun v_1 e_2 => ?_)
  refine y_if_eq (tgt := 17) C0 dJ0_isLatin1_aae02_3 (by decide) (fun c_3 => ((o21_1 e_2 c_3)).elim) (fun c_3 => ?_)
  refine lv_aload_n C0.1 C0.2.1 dJ0_isLatin1_aae02_6 rfl (lv_at hl 0 rfl) ?_
  refine y_scod C0 hZ h hsk0 q_2070 dJ0_isLatin1_aae02_7 (fun v_4 e_5 => ?_)
  refine y_if_ne (tgt := 17) C0 dJ0_isLatin1_aae02_10 (by decide) (fun c_6 => ((o21_7 e_5 c_6)).elim) (fun c_6 => ?_)
  refine y_c1 (n := 1) C0 (by decide) dJ0_isLatin1_aae02_13 (fun v_7 e_8 => ?_)
  refine lv_goto (tgt := 18) C0.1 C0.2.1 dJ0_isLatin1_aae02_14 (by decide) ?_
  replace HE : FT = ((xso S ad ws0), v_7.toInt) := HE.trans (by rw [e_8]; rfl)
  rw [hQ]
  exact y_zret C0 h (o21_10 e_8) (o21_9 e_8) Fr.rf ⟨(congrArg Prod.fst (HE.symm.trans hFT)), (congrArg Prod.snd (HE.symm.trans hFT)), (o21_8 e_8), (o21_9 e_8)⟩ dJ0_isLatin1_aae02_18
noncomputable def g1c_J0_length_8abf5 (s : XS) (v_1 : Int) : XR := (s, (v_1 / 1))
noncomputable def f_J0_length_8abf5 (s : XS) (k0 : Nat) : XR := g1c_J0_length_8abf5 ((f_J0_coder_7d493 s k0).1) ((((strLen.getD k0 0 : Nat) : Int)))
set_option maxHeartbeats 4000000 in
set_option maxRecDepth 100000 in
theorem c_J0_length_8abf5 {S : Sp} (l : Launch) (G : GG) (Z : RZ) (ad : Nat → Nat) (ws0 : va_W) (hT : Ty G S ad ws0) (k0 : Nat) (hsk0 : k0 < 23) : Mq l yJ0_length_8abf5 cJ0_length_8abf5 1 (some .int) 2 G Z [.ref (Z.2.1 k0)] ws0 (PI G S ad [] ws0 (fun r u => (xso S ad u = (f_J0_length_8abf5 (xso S ad ws0) k0).1) ∧ (r.toInt = (f_J0_length_8abf5 (xso S ad ws0) k0).2) ∧ (0 ≤ r.toInt) ∧ (r.toInt ≤ 102) ∧ (r.toInt = ((strLen.getD k0 0 : Nat) : Int)))) := by
  refine Mq.start (by decide) (Nat.le_of_ble_eq_true rfl) ?_
  intro p e s m below meth c A ls C0 hZ h hl
  have hl : lv_has ls 1 [(0, .ref (Z.2.1 k0))] := hl
  have h : Wt G S ad A s s.heap [] ws0 := ⟨h, hT⟩
  obtain ⟨args, hargs⟩ : ∃ z, z = ([.ref (Z.2.1 k0)] : List Value).toArray := ⟨_, rfl⟩
  rw [← hargs] at C0 ⊢
  have C0 : Cx p s m args meth c RJ0 cJ0_length_8abf5 1 (some .int) := C0
  obtain ⟨Q, hQ⟩ : ∃ z, z = MQ below ((PI G S ad [] ws0 (fun r u => (xso S ad u = (f_J0_length_8abf5 (xso S ad ws0) k0).1) ∧ (r.toInt = (f_J0_length_8abf5 (xso S ad ws0) k0).2) ∧ (0 ≤ r.toInt) ∧ (r.toInt ≤ 102) ∧ (r.toInt = ((strLen.getD k0 0 : Nat) : Int)))) A) args s 0 0 A := ⟨_, rfl⟩
  rw [← hQ]
  obtain ⟨FT, hFT⟩ : ∃ z, z = f_J0_length_8abf5 (xso S ad ws0) k0 := ⟨_, rfl⟩
  have HE : FT = f_J0_length_8abf5 (xso S ad ws0) k0 := hFT
  refine lv_aload_n C0.1 C0.2.1 dJ0_length_8abf5_0 rfl (lv_at hl 0 rfl) ?_
  refine y_sval C0 hZ h hsk0 q_2071 dJ0_length_8abf5_1 ?_
  refine y_tlen C0 hZ h hsk0 dJ0_length_8abf5_4 (fun v_1 e_2 => ?_)
  refine lv_aload_n C0.1 C0.2.1 dJ0_length_8abf5_5 rfl (lv_at hl 0 rfl) ?_
  refine y_ci h (y_rT (As := []) (rest := [.int v_1]) C0 hZ h (c_J0_coder_7d493 l G Z ad _ h.2 k0 hsk0) k_J0_coder_7d493 q_650 q_651 q_649 hsk0 rfl hl.1 rfl rfl (Nat.le_of_ble_eq_true rfl) dJ0_length_8abf5_6 ⟨Nat.le_of_ble_eq_true rfl, Nat.le_of_ble_eq_true rfl⟩ ⟨Nat.le_of_ble_eq_true rfl, Nat.le_of_ble_eq_true rfl⟩) (fun r_6 H locs ws_3 h u_4 p_5 => ?_)
  obtain ⟨e_7, e_8, e_9, e_10⟩ := p_5
  replace HE : FT = g1c_J0_length_8abf5 (xso S ad ws_3) v_1.toInt := HE.trans (by rw [e_7, e_2]; rfl)
  refine y_shr 0 0 (n := 1) C0 (Eq.trans (o21_11 e_9 e_10) (by decide)) (by decide) (by decide) dJ0_length_8abf5_9 (fun v_11 e_12 => ?_)
  replace HE : FT = ((xso S ad ws_3), v_11.toInt) := HE.trans (by rw [e_12]; rfl)
  rw [hQ]
  exact y_iret C0 h u_4 ⟨(congrArg Prod.fst (HE.symm.trans hFT)), (congrArg Prod.snd (HE.symm.trans hFT)), (o21_12 (strLen_le k0) e_2 e_12), (o21_13 (strLen_le k0) e_2 e_12), (o21_14 (strLen_le k0) e_2 e_12)⟩ dJ0_length_8abf5_10
set_option maxHeartbeats 4000000 in
set_option maxRecDepth 100000 in
theorem c_J3_checkIndex_8e157n {S : Sp} (l : Launch) (G : GG) (Z : RZ) (ad : Nat → Nat) (ws0 : va_W) (hT : Ty G S ad ws0) (a0 : Int32) (a1 : Int32) (pre0 : 0 ≤ a0.toInt) (pre1 : a0.toInt < a1.toInt) : Mq l yJ3_checkIndex_8e157 cJ3_checkIndex_8e157 3 (some .int) 1 G Z [.int a0, .int a1, .null] ws0 (PI G S ad [] ws0 (fun r u => (0 ≤ r.toInt) ∧ (r.toInt ≤ 2147483646))) := by
  refine Mq.start (by decide) (Nat.le_of_ble_eq_true rfl) ?_
  intro p e s m below meth c A ls C0 hZ h hl
  have hl : lv_has ls 3 [(0, .int a0), (1, .int a1), (2, .null)] := hl
  have h : Wt G S ad A s s.heap [] ws0 := ⟨h, hT⟩
  obtain ⟨args, hargs⟩ : ∃ z, z = ([.int a0, .int a1, .null] : List Value).toArray := ⟨_, rfl⟩
  rw [← hargs] at C0 ⊢
  have C0 : Cx p s m args meth c RJ3 cJ3_checkIndex_8e157 3 (some .int) := C0
  obtain ⟨Q, hQ⟩ : ∃ z, z = MQ below ((PI G S ad [] ws0 (fun r u => (0 ≤ r.toInt) ∧ (r.toInt ≤ 2147483646))) A) args s 0 0 A := ⟨_, rfl⟩
  rw [← hQ]
  refine lv_iload_n C0.1 C0.2.1 dJ3_checkIndex_8e157_0 rfl (lv_at hl 0 rfl) ?_
  refine y_if_lt (tgt := 9) C0 dJ3_checkIndex_8e157_1 (by decide) (fun c_1 => ((o21_15 pre0 pre1 c_1)).elim) (fun c_1 => ?_)
  refine lv_iload_n C0.1 C0.2.1 dJ3_checkIndex_8e157_4 rfl (lv_at hl 0 rfl) ?_
  refine lv_iload_n C0.1 C0.2.1 dJ3_checkIndex_8e157_5 rfl (lv_at hl 1 rfl) ?_
  refine y_icmp_lt (tgt := 16) C0 dJ3_checkIndex_8e157_6 (by decide) (fun c_2 => ?_) (fun c_2 => ((o21_16 pre0 pre1 c_2)).elim)
  refine lv_iload_n C0.1 C0.2.1 dJ3_checkIndex_8e157_16 rfl (lv_at hl 0 rfl) ?_
  rw [hQ]
  exact y_iret C0 h Fr.rf ⟨(o21_17 pre0 pre1), (o21_18 pre0 pre1 (le_min a0) (le_max a0) (le_min a1) (le_max a1))⟩ dJ3_checkIndex_8e157_17
set_option maxHeartbeats 4000000 in
set_option maxRecDepth 100000 in
theorem c_J3_checkIndex_8e157r {S : Sp} (l : Launch) (G : GG) (Z : RZ) (ad : Nat → Nat) (ws0 : va_W) (hT : Ty G S ad ws0) (a0 : Int32) (a1 : Int32) (a2 : Nat) (pre0 : 0 ≤ a0.toInt) (pre1 : a0.toInt < a1.toInt) : Mq l yJ3_checkIndex_8e157 cJ3_checkIndex_8e157 3 (some .int) 1 G Z [.int a0, .int a1, .ref a2] ws0 (PI G S ad [] ws0 (fun r u => (0 ≤ r.toInt) ∧ (r.toInt ≤ 2147483646))) := by
  refine Mq.start (by decide) (Nat.le_of_ble_eq_true rfl) ?_
  intro p e s m below meth c A ls C0 hZ h hl
  have hl : lv_has ls 3 [(0, .int a0), (1, .int a1), (2, .ref a2)] := hl
  have h : Wt G S ad A s s.heap [] ws0 := ⟨h, hT⟩
  obtain ⟨args, hargs⟩ : ∃ z, z = ([.int a0, .int a1, .ref a2] : List Value).toArray := ⟨_, rfl⟩
  rw [← hargs] at C0 ⊢
  have C0 : Cx p s m args meth c RJ3 cJ3_checkIndex_8e157 3 (some .int) := C0
  obtain ⟨Q, hQ⟩ : ∃ z, z = MQ below ((PI G S ad [] ws0 (fun r u => (0 ≤ r.toInt) ∧ (r.toInt ≤ 2147483646))) A) args s 0 0 A := ⟨_, rfl⟩
  rw [← hQ]
  refine lv_iload_n C0.1 C0.2.1 dJ3_checkIndex_8e157_0 rfl (lv_at hl 0 rfl) ?_
  refine y_if_lt (tgt := 9) C0 dJ3_checkIndex_8e157_1 (by decide) (fun c_1 => ((o21_15 pre0 pre1 c_1)).elim) (fun c_1 => ?_)
  refine lv_iload_n C0.1 C0.2.1 dJ3_checkIndex_8e157_4 rfl (lv_at hl 0 rfl) ?_
  refine lv_iload_n C0.1 C0.2.1 dJ3_checkIndex_8e157_5 rfl (lv_at hl 1 rfl) ?_
  refine y_icmp_lt (tgt := 16) C0 dJ3_checkIndex_8e157_6 (by decide) (fun c_2 => ?_) (fun c_2 => ((o21_16 pre0 pre1 c_2)).elim)
  refine lv_iload_n C0.1 C0.2.1 dJ3_checkIndex_8e157_16 rfl (lv_at hl 0 rfl) ?_
  rw [hQ]
  exact y_iret C0 h Fr.rf ⟨(o21_17 pre0 pre1), (o21_18 pre0 pre1 (le_min a0) (le_max a0) (le_min a1) (le_max a1))⟩ dJ3_checkIndex_8e157_17
set_option maxHeartbeats 4000000 in
set_option maxRecDepth 100000 in
theorem c_J0_checkIndex_df160 {S : Sp} (l : Launch) (G : GG) (Z : RZ) (ad : Nat → Nat) (ws0 : va_W) (hT : Ty G S ad ws0) (a0 : Int32) (a1 : Int32) (pre0 : 0 ≤ a0.toInt) (pre1 : a0.toInt < a1.toInt) : Mq l yJ0_checkIndex_df160 cJ0_checkIndex_df160 2 none 2 G Z [.int a0, .int a1] ws0 (PV G S ad [] ws0 (fun u => True)) := by
  refine Mq.start (by decide) (Nat.le_of_ble_eq_true rfl) ?_
  intro p e s m below meth c A ls C0 hZ h hl
  have hl : lv_has ls 2 [(0, .int a0), (1, .int a1)] := hl
  have h : Wt G S ad A s s.heap [] ws0 := ⟨h, hT⟩
  obtain ⟨args, hargs⟩ : ∃ z, z = ([.int a0, .int a1] : List Value).toArray := ⟨_, rfl⟩
  rw [← hargs] at C0 ⊢
  have C0 : Cx p s m args meth c RJ0 cJ0_checkIndex_df160 2 none := C0
  obtain ⟨Q, hQ⟩ : ∃ z, z = MQ below ((PV G S ad [] ws0 (fun u => True)) A) args s 0 0 A := ⟨_, rfl⟩
  rw [← hQ]
  refine lv_iload_n C0.1 C0.2.1 dJ0_checkIndex_df160_0 rfl (lv_at hl 0 rfl) ?_
  refine lv_iload_n C0.1 C0.2.1 dJ0_checkIndex_df160_1 rfl (lv_at hl 1 rfl) ?_
  refine y_sfmt C0 hZ h q_686 dJ0_checkIndex_df160_2 ?_ (fun t_1 => ?_)
  · -- the formatter
    refine y_ci h (y_rS (As := [.int a0, .int a1, .null]) (rest := []) C0 hZ h (c_J3_checkIndex_8e157n l G Z ad _ h.2 a0 a1 (o21_17 pre0 pre1) (o21_19 pre0 pre1)) k_J3_checkIndex_8e157 q_738 q_737 hl.1 rfl rfl (Nat.le_of_ble_eq_true rfl) dJ0_checkIndex_df160_5 ⟨Nat.le_of_ble_eq_true rfl, Nat.le_of_ble_eq_true rfl⟩ ⟨Nat.le_of_ble_eq_true rfl, Nat.le_of_ble_eq_true rfl⟩) (fun r_5 H locs ws_2 h u_3 p_4 => ?_)
    obtain ⟨e_6, e_7⟩ := p_4
    refine lv_pop C0.1 C0.2.1 dJ0_checkIndex_df160_8 rfl ?_
    rw [hQ]
    exact y_vret C0 h u_3 trivial dJ0_checkIndex_df160_9
  · -- the formatter
    refine y_ci h (y_rS (As := [.int a0, .int a1, .ref t_1]) (rest := []) C0 hZ h (c_J3_checkIndex_8e157r l G Z ad _ h.2 a0 a1 t_1 (o21_17 pre0 pre1) (o21_19 pre0 pre1)) k_J3_checkIndex_8e157 q_738 q_737 hl.1 rfl rfl (Nat.le_of_ble_eq_true rfl) dJ0_checkIndex_df160_5 ⟨Nat.le_of_ble_eq_true rfl, Nat.le_of_ble_eq_true rfl⟩ ⟨Nat.le_of_ble_eq_true rfl, Nat.le_of_ble_eq_true rfl⟩) (fun r_11 H locs ws_8 h u_9 p_10 => ?_)
    obtain ⟨e_12, e_13⟩ := p_10
    refine lv_pop C0.1 C0.2.1 dJ0_checkIndex_df160_8 rfl ?_
    rw [hQ]
    exact y_vret C0 h u_9 trivial dJ0_checkIndex_df160_9
noncomputable def g1c_J1_charAt_3b067 (s : XS) (k0 : Nat) (a1 : Int) : XR := (s, (Xi2c (Xiand ((chB k0 (Int.toNat a1)).toInt) 255)))
noncomputable def f_J1_charAt_3b067 (s : XS) (k0 : Nat) (a1 : Int) : XR := g1c_J1_charAt_3b067 s k0 a1
set_option maxHeartbeats 4000000 in
set_option maxRecDepth 100000 in
theorem c_J1_charAt_3b067 {S : Sp} (l : Launch) (G : GG) (Z : RZ) (ad : Nat → Nat) (ws0 : va_W) (hT : Ty G S ad ws0) (k0 : Nat) (hsk0 : k0 < 23) (a1 : Int32) (pre0 : 0 ≤ a1.toInt) (pre1 : a1.toInt < ((strLen.getD k0 0 : Nat) : Int)) : Mq l yJ1_charAt_3b067 cJ1_charAt_3b067 2 (some .char) 3 G Z [.ref (Z.2.2 k0), .int a1] ws0 (PI G S ad [] ws0 (fun r u => (xso S ad u = (f_J1_charAt_3b067 (xso S ad ws0) k0 a1.toInt).1) ∧ (r.toInt = (f_J1_charAt_3b067 (xso S ad ws0) k0 a1.toInt).2) ∧ (0 ≤ r.toInt) ∧ (r.toInt ≤ 65535))) := by
  refine Mq.start (by decide) (Nat.le_of_ble_eq_true rfl) ?_
  intro p e s m below meth c A ls C0 hZ h hl
  have hl : lv_has ls 2 [(0, .ref (Z.2.2 k0)), (1, .int a1)] := hl
  have h : Wt G S ad A s s.heap [] ws0 := ⟨h, hT⟩
  obtain ⟨args, hargs⟩ : ∃ z, z = ([.ref (Z.2.2 k0), .int a1] : List Value).toArray := ⟨_, rfl⟩
  rw [← hargs] at C0 ⊢
  have C0 : Cx p s m args meth c RJ1 cJ1_charAt_3b067 2 (some .char) := C0
  obtain ⟨Q, hQ⟩ : ∃ z, z = MQ below ((PI G S ad [] ws0 (fun r u => (xso S ad u = (f_J1_charAt_3b067 (xso S ad ws0) k0 a1.toInt).1) ∧ (r.toInt = (f_J1_charAt_3b067 (xso S ad ws0) k0 a1.toInt).2) ∧ (0 ≤ r.toInt) ∧ (r.toInt ≤ 65535))) A) args s 0 0 A := ⟨_, rfl⟩
  rw [← hQ]
  obtain ⟨FT, hFT⟩ : ∃ z, z = f_J1_charAt_3b067 (xso S ad ws0) k0 a1.toInt := ⟨_, rfl⟩
  have HE : FT = f_J1_charAt_3b067 (xso S ad ws0) k0 a1.toInt := hFT
  refine lv_iload_n C0.1 C0.2.1 dJ1_charAt_3b067_0 rfl (lv_at hl 1 rfl) ?_
  refine lv_aload_n C0.1 C0.2.1 dJ1_charAt_3b067_1 rfl (lv_at hl 0 rfl) ?_
  refine y_tlen C0 hZ h hsk0 dJ1_charAt_3b067_2 (fun v_1 e_2 => ?_)
  have hO_3 := h.2
  refine y_cv h (y_rS (As := [.int a1, .int v_1]) (rest := []) C0 hZ h (c_J0_checkIndex_df160 l G Z ad _ h.2 a1 v_1 (o21_20 (strLen_le k0) pre0 pre1 e_2) (o21_21 (strLen_le k0) pre0 pre1 e_2)) k_J0_checkIndex_df160 q_735 q_734 hl.1 rfl rfl (Nat.le_of_ble_eq_true rfl) dJ1_charAt_3b067_3 ⟨Nat.le_of_ble_eq_true rfl, Nat.le_of_ble_eq_true rfl⟩ ⟨Nat.le_of_ble_eq_true rfl, Nat.le_of_ble_eq_true rfl⟩) (fun H locs ws_4 h u_5 p_6 => ?_)
  replace HE : FT = g1c_J1_charAt_3b067 (xso S ad ws_4) k0 a1.toInt := HE.trans (by rw [(xso_0 hO_3 h.2 u_5)]; rfl)
  refine lv_aload_n C0.1 C0.2.1 dJ1_charAt_3b067_6 rfl (lv_at hl 0 rfl) ?_
  refine lv_iload_n C0.1 C0.2.1 dJ1_charAt_3b067_7 rfl (lv_at hl 1 rfl) ?_
  refine y_tbld C0 hZ h hsk0 (o21_20 (strLen_le k0) pre0 pre1 e_2) (o21_22 (strLen_le k0) pre0 pre1 e_2) dJ1_charAt_3b067_8 (fun v_7 e_8 => ?_)
  refine y_c3 (n := 255) C0 (by decide) dJ1_charAt_3b067_9 (fun v_9 e_10 => ?_)
  refine xr_iand C0 dJ1_charAt_3b067_12 (fun v_11 e_12 => ?_)
  refine xr_i2c C0 dJ1_charAt_3b067_13 (fun v_13 e_14 => ?_)
  replace HE : FT = ((xso S ad ws_4), v_13.toInt) := HE.trans (by rw [e_14, e_12, e_10, (congrArg Int32.toInt e_8)]; rfl)
  rw [hQ]
  exact y_cret C0 h (o21_24 (xb_i2c e_14).1 (xb_i2c e_14).2) (o21_25 (xb_i2c e_14).1 (xb_i2c e_14).2) u_5 ⟨(congrArg Prod.fst (HE.symm.trans hFT)), (congrArg Prod.snd (HE.symm.trans hFT)), (o21_24 (xb_i2c e_14).1 (xb_i2c e_14).2), (o21_25 (xb_i2c e_14).1 (xb_i2c e_14).2)⟩ dJ1_charAt_3b067_14
noncomputable def g2c_J0_charAt_5068e (s : XS) (r_13 : Int) : XR := (s, r_13)
noncomputable def g1c_J0_charAt_5068e (s : XS) (k0 : Nat) (a1 : Int) : XR := g2c_J0_charAt_5068e ((f_J1_charAt_3b067 s k0 a1).1) (((f_J1_charAt_3b067 s k0 a1).2))
noncomputable def f_J0_charAt_5068e (s : XS) (k0 : Nat) (a1 : Int) : XR := g1c_J0_charAt_5068e ((f_J0_isLatin1_aae02 s k0).1) k0 a1
set_option maxHeartbeats 4000000 in
set_option maxRecDepth 100000 in
theorem c_J0_charAt_5068e {S : Sp} (l : Launch) (G : GG) (Z : RZ) (ad : Nat → Nat) (ws0 : va_W) (hT : Ty G S ad ws0) (k0 : Nat) (hsk0 : k0 < 23) (a1 : Int32) (pre0 : 0 ≤ a1.toInt) (pre1 : a1.toInt < ((strLen.getD k0 0 : Nat) : Int)) : Mq l yJ0_charAt_5068e cJ0_charAt_5068e 2 (some .char) 4 G Z [.ref (Z.2.1 k0), .int a1] ws0 (PI G S ad [] ws0 (fun r u => (xso S ad u = (f_J0_charAt_5068e (xso S ad ws0) k0 a1.toInt).1) ∧ (r.toInt = (f_J0_charAt_5068e (xso S ad ws0) k0 a1.toInt).2) ∧ (0 ≤ r.toInt) ∧ (r.toInt ≤ 65535))) := by
  refine Mq.start (by decide) (Nat.le_of_ble_eq_true rfl) ?_
  intro p e s m below meth c A ls C0 hZ h hl
  have hl : lv_has ls 2 [(0, .ref (Z.2.1 k0)), (1, .int a1)] := hl
  have h : Wt G S ad A s s.heap [] ws0 := ⟨h, hT⟩
  obtain ⟨args, hargs⟩ : ∃ z, z = ([.ref (Z.2.1 k0), .int a1] : List Value).toArray := ⟨_, rfl⟩
  rw [← hargs] at C0 ⊢
  have C0 : Cx p s m args meth c RJ0 cJ0_charAt_5068e 2 (some .char) := C0
  obtain ⟨Q, hQ⟩ : ∃ z, z = MQ below ((PI G S ad [] ws0 (fun r u => (xso S ad u = (f_J0_charAt_5068e (xso S ad ws0) k0 a1.toInt).1) ∧ (r.toInt = (f_J0_charAt_5068e (xso S ad ws0) k0 a1.toInt).2) ∧ (0 ≤ r.toInt) ∧ (r.toInt ≤ 65535))) A) args s 0 0 A := ⟨_, rfl⟩
  rw [← hQ]
  obtain ⟨FT, hFT⟩ : ∃ z, z = f_J0_charAt_5068e (xso S ad ws0) k0 a1.toInt := ⟨_, rfl⟩
  have HE : FT = f_J0_charAt_5068e (xso S ad ws0) k0 a1.toInt := hFT
  refine lv_aload_n C0.1 C0.2.1 dJ0_charAt_5068e_0 rfl (lv_at hl 0 rfl) ?_
  refine y_ci h (y_rT (As := []) (rest := []) C0 hZ h (c_J0_isLatin1_aae02 l G Z ad _ h.2 k0 hsk0) k_J0_isLatin1_aae02 q_640 q_641 q_639 hsk0 rfl hl.1 rfl rfl (Nat.le_of_ble_eq_true rfl) dJ0_charAt_5068e_1 ⟨Nat.le_of_ble_eq_true rfl, Nat.le_of_ble_eq_true rfl⟩ ⟨Nat.le_of_ble_eq_true rfl, Nat.le_of_ble_eq_true rfl⟩) (fun r_4 H locs ws_1 h u_2 p_3 => ?_)
  obtain ⟨e_5, e_6, e_7, e_8⟩ := p_3
  replace HE : FT = g1c_J0_charAt_5068e (xso S ad ws_1) k0 a1.toInt := HE.trans (by rw [e_5]; rfl)
  refine y_if_eq (tgt := 16) C0 dJ0_charAt_5068e_4 (by decide) (fun c_9 => ((o21_26 e_7 e_8 c_9)).elim) (fun c_9 => ?_)
  refine lv_aload_n C0.1 C0.2.1 dJ0_charAt_5068e_7 rfl (lv_at hl 0 rfl) ?_
  refine y_sval C0 hZ h hsk0 q_2071 dJ0_charAt_5068e_8 ?_
  refine lv_iload_n C0.1 C0.2.1 dJ0_charAt_5068e_11 rfl (lv_at hl 1 rfl) ?_
  refine y_ci h (y_rS (As := [.ref (Z.2.2 k0), .int a1]) (rest := []) C0 hZ h (c_J1_charAt_3b067 l G Z ad _ h.2 k0 hsk0 a1 (o21_27 (strLen_le k0) pre0 pre1) (o21_28 (strLen_le k0) pre0 pre1)) k_J1_charAt_3b067 q_732 q_731 hl.1 rfl rfl (Nat.le_of_ble_eq_true rfl) dJ0_charAt_5068e_12 ⟨Nat.le_of_ble_eq_true rfl, Nat.le_of_ble_eq_true rfl⟩ ⟨Nat.le_of_ble_eq_true rfl, Nat.le_of_ble_eq_true rfl⟩) (fun r_13 H locs ws_10 h u_11 p_12 => ?_)
  obtain ⟨e_14, e_15, e_16, e_17⟩ := p_12
  replace HE : FT = g2c_J0_charAt_5068e (xso S ad ws_10) r_13.toInt := HE.trans (by rw [e_14, e_15]; rfl)
  replace HE : FT = ((xso S ad ws_10), r_13.toInt) := HE.trans rfl
  rw [hQ]
  exact y_cret C0 h (o21_24 e_16 e_17) (o21_25 e_16 e_17) (Fr.tr u_2 u_11) ⟨(congrArg Prod.fst (HE.symm.trans hFT)), (congrArg Prod.snd (HE.symm.trans hFT)), (o21_24 e_16 e_17), (o21_25 e_16 e_17)⟩ dJ0_charAt_5068e_15
noncomputable def g2_J1_canEncode_9a6ad (s : XS) : XR := (s, 0)
noncomputable def g5_J1_canEncode_9a6ad (s : XS) : XR := (s, 0)
noncomputable def g6_J1_canEncode_9a6ad (s : XS) : XR := (s, 1)
noncomputable def g4b_J1_canEncode_9a6ad (s : XS) (a0 : Int) : XR := if 255 < a0 then g5_J1_canEncode_9a6ad s else g6_J1_canEncode_9a6ad s
noncomputable def g3_J1_canEncode_9a6ad (s : XS) (a0 : Int) : XR := g4b_J1_canEncode_9a6ad s a0
noncomputable def g1b_J1_canEncode_9a6ad (s : XS) (a0 : Int) : XR := if a0 < 0 then g2_J1_canEncode_9a6ad s else g3_J1_canEncode_9a6ad s a0
noncomputable def f_J1_canEncode_9a6ad (s : XS) (a0 : Int) : XR := g1b_J1_canEncode_9a6ad s a0
set_option maxHeartbeats 4000000 in
set_option maxRecDepth 100000 in
theorem c_J1_canEncode_9a6ad {S : Sp} (l : Launch) (G : GG) (Z : RZ) (ad : Nat → Nat) (ws0 : va_W) (hT : Ty G S ad ws0) (a0 : Int32) : Mq l yJ1_canEncode_9a6ad cJ1_canEncode_9a6ad 1 (some .boolean) 1 G Z [.int a0] ws0 (PI G S ad [] ws0 (fun r u => (xso S ad u = (f_J1_canEncode_9a6ad (xso S ad ws0) a0.toInt).1) ∧ (r.toInt = (f_J1_canEncode_9a6ad (xso S ad ws0) a0.toInt).2) ∧ (0 ≤ r.toInt) ∧ (r.toInt ≤ 1))) := by
  refine Mq.start (by decide) (Nat.le_of_ble_eq_true rfl) ?_
  intro p e s m below meth c A ls C0 hZ h hl
  have hl : lv_has ls 1 [(0, .int a0)] := hl
  have h : Wt G S ad A s s.heap [] ws0 := ⟨h, hT⟩
  obtain ⟨args, hargs⟩ : ∃ z, z = ([.int a0] : List Value).toArray := ⟨_, rfl⟩
  rw [← hargs] at C0 ⊢
  have C0 : Cx p s m args meth c RJ1 cJ1_canEncode_9a6ad 1 (some .boolean) := C0
  obtain ⟨Q, hQ⟩ : ∃ z, z = MQ below ((PI G S ad [] ws0 (fun r u => (xso S ad u = (f_J1_canEncode_9a6ad (xso S ad ws0) a0.toInt).1) ∧ (r.toInt = (f_J1_canEncode_9a6ad (xso S ad ws0) a0.toInt).2) ∧ (0 ≤ r.toInt) ∧ (r.toInt ≤ 1))) A) args s 0 0 A := ⟨_, rfl⟩
  rw [← hQ]
  obtain ⟨FT, hFT⟩ : ∃ z, z = f_J1_canEncode_9a6ad (xso S ad ws0) a0.toInt := ⟨_, rfl⟩
  have HE : FT = f_J1_canEncode_9a6ad (xso S ad ws0) a0.toInt := hFT
  refine lv_iload_n C0.1 C0.2.1 dJ1_canEncode_9a6ad_0 rfl (lv_at hl 0 rfl) ?_
  replace HE : FT = g1b_J1_canEncode_9a6ad (xso S ad ws0) a0.toInt := HE.trans rfl
  refine y_if_lt (tgt := 15) C0 dJ1_canEncode_9a6ad_1 (by decide) (fun c_1 => ?_) (fun c_1 => ?_)
  · -- 1
    replace HE : FT = g2_J1_canEncode_9a6ad (xso S ad ws0) := HE.trans (if_pos c_1)
    refine y_c1 (n := 0) C0 (by decide) dJ1_canEncode_9a6ad_15 (fun v_2 e_3 => ?_)
    replace HE : FT = ((xso S ad ws0), v_2.toInt) := HE.trans (by rw [e_3]; rfl)
    rw [hQ]
    exact y_zret C0 h (o21_3 e_3) (o21_29 e_3) Fr.rf ⟨(congrArg Prod.fst (HE.symm.trans hFT)), (congrArg Prod.snd (HE.symm.trans hFT)), (o21_3 e_3), (o21_29 e_3)⟩ dJ1_canEncode_9a6ad_16
  · -- 1
    replace HE : FT = g3_J1_canEncode_9a6ad (xso S ad ws0) a0.toInt := HE.trans (if_neg (Int.not_lt.mpr c_1))
    refine lv_iload_n C0.1 C0.2.1 dJ1_canEncode_9a6ad_4 rfl (lv_at hl 0 rfl) ?_
    refine y_c3 (n := 255) C0 (by decide) dJ1_canEncode_9a6ad_5 (fun v_4 e_5 => ?_)
    replace HE : FT = g4b_J1_canEncode_9a6ad (xso S ad ws0) a0.toInt := HE.trans rfl
    refine y_icmp_gt (tgt := 15) C0 dJ1_canEncode_9a6ad_8 (by decide) (fun c_6 => ?_) (fun c_6 => ?_)
    · -- 8
      replace HE : FT = g5_J1_canEncode_9a6ad (xso S ad ws0) := HE.trans (if_pos (o21_30 c_1 e_5 c_6))
      refine y_c1 (n := 0) C0 (by decide) dJ1_canEncode_9a6ad_15 (fun v_7 e_8 => ?_)
      replace HE : FT = ((xso S ad ws0), v_7.toInt) := HE.trans (by rw [e_8]; rfl)
      rw [hQ]
      exact y_zret C0 h (o21_3 e_8) (o21_29 e_8) Fr.rf ⟨(congrArg Prod.fst (HE.symm.trans hFT)), (congrArg Prod.snd (HE.symm.trans hFT)), (o21_3 e_8), (o21_29 e_8)⟩ dJ1_canEncode_9a6ad_16
    · -- 8
      replace HE : FT = g6_J1_canEncode_9a6ad (xso S ad ws0) := HE.trans (if_neg (o21_31 c_1 e_5 c_6))
      refine y_c1 (n := 1) C0 (by decide) dJ1_canEncode_9a6ad_11 (fun v_9 e_10 => ?_)
      refine lv_goto (tgt := 16) C0.1 C0.2.1 dJ1_canEncode_9a6ad_12 (by decide) ?_
      replace HE : FT = ((xso S ad ws0), v_9.toInt) := HE.trans (by rw [e_10]; rfl)
      rw [hQ]
      exact y_zret C0 h (o21_10 e_10) (o21_9 e_10) Fr.rf ⟨(congrArg Prod.fst (HE.symm.trans hFT)), (congrArg Prod.snd (HE.symm.trans hFT)), (o21_10 e_10), (o21_9 e_10)⟩ dJ1_canEncode_9a6ad_16
noncomputable def g4_J1_indexOfChar_4cfef (s : XS) : XR := (s, ((-1)))
noncomputable def g7_J1_indexOfChar_4cfef (R7 : XS → Nat → Int → Int → Int → XR) (s : XS) (k0 : Nat) (a3 : Int) (v_1 : Int) (x5_3 : Int) : XR := R7 s k0 a3 v_1 ((x5_3 + 1))
noncomputable def g8_J1_indexOfChar_4cfef (s : XS) (x5_3 : Int) : XR := (s, x5_3)
noncomputable def g6b_J1_indexOfChar_4cfef (R7 : XS → Nat → Int → Int → Int → XR) (s : XS) (v_1 : Int) (v_15 : Int) (k0 : Nat) (a3 : Int) (x5_3 : Int) : XR := if v_15 = v_1 then g8_J1_indexOfChar_4cfef s x5_3 else g7_J1_indexOfChar_4cfef R7 s k0 a3 v_1 x5_3
noncomputable def g5_J1_indexOfChar_4cfef (R7 : XS → Nat → Int → Int → Int → XR) (s : XS) (k0 : Nat) (a3 : Int) (v_1 : Int) (x5_3 : Int) : XR := g6b_J1_indexOfChar_4cfef R7 s v_1 (((chB k0 (Int.toNat x5_3)).toInt)) k0 a3 x5_3
noncomputable def g3b_J1_indexOfChar_4cfef (R7 : XS → Nat → Int → Int → Int → XR) (s : XS) (a3 : Int) (x5_3 : Int) (k0 : Nat) (v_1 : Int) : XR := if x5_3 < a3 then g5_J1_indexOfChar_4cfef R7 s k0 a3 v_1 x5_3 else g4_J1_indexOfChar_4cfef s
noncomputable def g2l_J1_indexOfChar_4cfef (R7 : XS → Nat → Int → Int → Int → XR) (s : XS) (k0 : Nat) (a3 : Int) (v_1 : Int) (x5_3 : Int) : XR := g3b_J1_indexOfChar_4cfef R7 s a3 x5_3 k0 v_1
noncomputable def L1_J1_indexOfChar_4cfef (n : Nat) : XS → Nat → Int → Int → Int → XR := Nat.rec (motive := fun _ => XS → Nat → Int → Int → Int → XR) (fun s _ _ _ _ => (s, 0)) (fun _ R7 => g2l_J1_indexOfChar_4cfef R7) n
noncomputable def f_J1_indexOfChar_4cfef (s : XS) (k0 : Nat) (a1 : Int) (a2 : Int) (a3 : Int) : XR := L1_J1_indexOfChar_4cfef (Int.toNat (102 - a2 + 1)) s k0 a3 ((Xi2b a1)) a2
set_option maxHeartbeats 4000000 in
set_option maxRecDepth 100000 in
theorem c_J1_indexOfChar_4cfef {S : Sp} (l : Launch) (G : GG) (Z : RZ) (ad : Nat → Nat) (ws0 : va_W) (hT : Ty G S ad ws0) (k0 : Nat) (hsk0 : k0 < 23) (a1 : Int32) (a2 : Int32) (a3 : Int32) (l2 : 0 ≤ a2.toInt) (u2 : a2.toInt ≤ 0) (l3 : 0 ≤ a3.toInt) (u3 : a3.toInt ≤ 102) (pre0 : a3.toInt ≤ ((strLen.getD k0 0 : Nat) : Int)) : Mq l yJ1_indexOfChar_4cfef cJ1_indexOfChar_4cfef 6 (some .int) 1 G Z [.ref (Z.2.2 k0), .int a1, .int a2, .int a3] ws0 (PI G S ad [] ws0 (fun r u => (xso S ad u = (f_J1_indexOfChar_4cfef (xso S ad ws0) k0 a1.toInt a2.toInt a3.toInt).1) ∧ (r.toInt = (f_J1_indexOfChar_4cfef (xso S ad ws0) k0 a1.toInt a2.toInt a3.toInt).2) ∧ ((-1) ≤ r.toInt) ∧ (r.toInt ≤ 102))) := by
  refine Mq.start (by decide) (Nat.le_of_ble_eq_true rfl) ?_
  intro p e s m below meth c A ls C0 hZ h hl
  have hl : lv_has ls 6 [(0, .ref (Z.2.2 k0)), (1, .int a1), (2, .int a2), (3, .int a3)] := hl
  have h : Wt G S ad A s s.heap [] ws0 := ⟨h, hT⟩
  obtain ⟨args, hargs⟩ : ∃ z, z = ([.ref (Z.2.2 k0), .int a1, .int a2, .int a3] : List Value).toArray := ⟨_, rfl⟩
  rw [← hargs] at C0 ⊢
  have C0 : Cx p s m args meth c RJ1 cJ1_indexOfChar_4cfef 6 (some .int) := C0
  obtain ⟨Q, hQ⟩ : ∃ z, z = MQ below ((PI G S ad [] ws0 (fun r u => (xso S ad u = (f_J1_indexOfChar_4cfef (xso S ad ws0) k0 a1.toInt a2.toInt a3.toInt).1) ∧ (r.toInt = (f_J1_indexOfChar_4cfef (xso S ad ws0) k0 a1.toInt a2.toInt a3.toInt).2) ∧ ((-1) ≤ r.toInt) ∧ (r.toInt ≤ 102))) A) args s 0 0 A := ⟨_, rfl⟩
  rw [← hQ]
  obtain ⟨FT, hFT⟩ : ∃ z, z = f_J1_indexOfChar_4cfef (xso S ad ws0) k0 a1.toInt a2.toInt a3.toInt := ⟨_, rfl⟩
  have HE : FT = f_J1_indexOfChar_4cfef (xso S ad ws0) k0 a1.toInt a2.toInt a3.toInt := hFT
  refine lv_iload_n C0.1 C0.2.1 dJ1_indexOfChar_4cfef_0 rfl (lv_at hl 1 rfl) ?_
  refine xr_i2b C0 dJ1_indexOfChar_4cfef_1 (fun v_1 e_2 => ?_)
  refine lv_istore (lv' := [(4, .int v_1), (0, .ref (Z.2.2 k0)), (1, .int a1), (2, .int a2), (3, .int a3)]) C0.1 C0.2.1 dJ1_indexOfChar_4cfef_2 hl (by decide) rfl (fun ls hl => ?_)
  refine lv_iload_n C0.1 C0.2.1 dJ1_indexOfChar_4cfef_4 rfl (lv_at hl 3 rfl) ?_
  refine lv_istore (lv' := [(5, .int a2), (4, .int v_1), (0, .ref (Z.2.2 k0)), (1, .int a1), (2, .int a2), (3, .int a3)]) C0.1 C0.2.1 dJ1_indexOfChar_4cfef_5 hl (by decide) rfl (fun ls hl => ?_)
  have lp_6 : ∀ (n_8 : Nat) (x5_3 : Int32) (H : Heap) (locs : List Loc) (ls : Array Slot) (ws_4 : va_W), 102 - x5_3.toInt < (n_8 : Int) → 0 ≤ x5_3.toInt → x5_3.toInt ≤ 102 → (FT = L1_J1_indexOfChar_4cfef n_8 (xso S ad ws_4) k0 a3.toInt v_1.toInt x5_3.toInt) → Wt G S ad A s H locs ws_4 → Fr S [] ws0 ws_4 → lv_has ls 6 [(5, .int x5_3), (4, .int v_1), (0, .ref (Z.2.2 k0)), (1, .int a1), (2, .int a2), (3, .int a3)] → W p l e (rmd 1 0 0) s m args below meth c H locs 0 0 Q (F0 m 7 ls []) := by
    intro n_8
    induction n_8 with
    | zero => intro x5_3 H locs ls ws_4 hn_9 b_10 b_11 HE h hF_5 hl; exact ((o21_32 b_10 b_11 hn_9)).elim
    | succ n_8 ih_7 =>
      intro x5_3 H locs ls ws_4 hn_9 b_10 b_11 HE h hF_5 hl
      obtain ⟨R7, hR7⟩ : ∃ z, z = L1_J1_indexOfChar_4cfef n_8 := ⟨_, rfl⟩
      replace HE : FT = g2l_J1_indexOfChar_4cfef R7 (xso S ad ws_4) k0 a3.toInt v_1.toInt x5_3.toInt := HE.trans (by rw [hR7]; rfl)
      refine lv_iload C0.1 C0.2.1 dJ1_indexOfChar_4cfef_7 (lv_at hl 0 rfl) ?_
      refine lv_iload_n C0.1 C0.2.1 dJ1_indexOfChar_4cfef_9 rfl (lv_at hl 5 rfl) ?_
      replace HE : FT = g3b_J1_indexOfChar_4cfef R7 (xso S ad ws_4) a3.toInt x5_3.toInt k0 v_1.toInt := HE.trans rfl
      refine y_icmp_ge (tgt := 31) C0 dJ1_indexOfChar_4cfef_10 (by decide) (fun c_12 => ?_) (fun c_12 => ?_)
      · -- 10
        replace HE : FT = g4_J1_indexOfChar_4cfef (xso S ad ws_4) := HE.trans (if_neg (Int.not_lt.mpr c_12))
        refine y_c1 (n := (-1)) C0 (by decide) dJ1_indexOfChar_4cfef_31 (fun v_13 e_14 => ?_)
        replace HE : FT = ((xso S ad ws_4), v_13.toInt) := HE.trans (by rw [e_14]; rfl)
        rw [hQ]
        exact y_iret C0 h hF_5 ⟨(congrArg Prod.fst (HE.symm.trans hFT)), (congrArg Prod.snd (HE.symm.trans hFT)), (o21_33 e_14), (o21_34 e_14)⟩ dJ1_indexOfChar_4cfef_32
      · -- 10
        replace HE : FT = g5_J1_indexOfChar_4cfef R7 (xso S ad ws_4) k0 a3.toInt v_1.toInt x5_3.toInt := HE.trans (if_pos c_12)
        refine lv_aload_n C0.1 C0.2.1 dJ1_indexOfChar_4cfef_13 rfl (lv_at hl 2 rfl) ?_
        refine lv_iload C0.1 C0.2.1 dJ1_indexOfChar_4cfef_14 (lv_at hl 0 rfl) ?_
        refine y_tbld C0 hZ h hsk0 (o21_35 (strLen_le k0) l3 u3 pre0 b_10 b_11 hn_9 c_12) (o21_36 (strLen_le k0) l3 u3 pre0 b_10 b_11 hn_9 c_12) dJ1_indexOfChar_4cfef_16 (fun v_15 e_16 => ?_)
        refine lv_iload C0.1 C0.2.1 dJ1_indexOfChar_4cfef_17 (lv_at hl 1 rfl) ?_
        replace HE : FT = g6b_J1_indexOfChar_4cfef R7 (xso S ad ws_4) v_1.toInt v_15.toInt k0 a3.toInt x5_3.toInt := HE.trans (by rw [(congrArg Int32.toInt e_16)]; rfl)
        refine y_icmp_ne (tgt := 25) C0 dJ1_indexOfChar_4cfef_19 (by decide) (fun c_17 => ?_) (fun c_17 => ?_)
        · -- 19
          replace HE : FT = g7_J1_indexOfChar_4cfef R7 (xso S ad ws_4) k0 a3.toInt v_1.toInt x5_3.toInt := HE.trans (if_neg c_17)
          refine y_inc (kp := 0) (n := 1) (fun v_18 => [(5, .int v_18), (4, .int v_1), (0, .ref (Z.2.2 k0)), (1, .int a1), (2, .int a2), (3, .int a3)]) C0 hl rfl (by decide) (by decide) (fun _ => rfl) (o21_37 (strLen_le k0) l3 u3 pre0 b_10 b_11 hn_9 c_12 (le_min x5_3) (le_max x5_3) (le_min a3) (le_max a3)) (o21_38 (strLen_le k0) l3 u3 pre0 b_10 b_11 hn_9 c_12 (le_min x5_3) (le_max x5_3) (le_min a3) (le_max a3)) dJ1_indexOfChar_4cfef_25 (fun v_18 ls e_19 hl => ?_)
          refine lv_goto (tgt := 7) C0.1 C0.2.1 dJ1_indexOfChar_4cfef_28 (by decide) ?_
          exact ih_7 v_18 _ _ _ _ (o21_39 (strLen_le k0) l3 u3 pre0 b_10 b_11 hn_9 c_12 e_19) (o21_40 (strLen_le k0) l3 u3 pre0 b_10 b_11 hn_9 c_12 e_19) (o21_41 (strLen_le k0) l3 u3 pre0 b_10 b_11 hn_9 c_12 e_19) (((show FT = R7 (xso S ad ws_4) k0 a3.toInt v_1.toInt v_18.toInt from HE.trans (by rw [e_19]; rfl)).trans (by rw [hR7]))) h hF_5 (lv_sub hl [0, 1, 2, 3, 4, 5] rfl)
        · -- 19
          replace HE : FT = g8_J1_indexOfChar_4cfef (xso S ad ws_4) x5_3.toInt := HE.trans (if_pos c_17)
          refine lv_iload C0.1 C0.2.1 dJ1_indexOfChar_4cfef_22 (lv_at hl 0 rfl) ?_
          replace HE : FT = ((xso S ad ws_4), x5_3.toInt) := HE.trans rfl
          rw [hQ]
          exact y_iret C0 h hF_5 ⟨(congrArg Prod.fst (HE.symm.trans hFT)), (congrArg Prod.snd (HE.symm.trans hFT)), (o21_42 (strLen_le k0) l3 u3 pre0 b_10 b_11 hn_9 c_12), (o21_43 (strLen_le k0) l3 u3 pre0 b_10 b_11 hn_9 c_12)⟩ dJ1_indexOfChar_4cfef_24
  exact lp_6 ((102 - a2.toInt + 1).toNat) a2 _ _ _ _ (o21_44 l2 u2) (o21_45 l2 u2) (o21_46 l2 u2) ((show FT = L1_J1_indexOfChar_4cfef (Int.toNat (102 - a2.toInt + 1)) (xso S ad ws0) k0 a3.toInt v_1.toInt a2.toInt from HE.trans (by rw [e_2]; rfl))) h Fr.rf (lv_sub hl [0, 1, 2, 3, 4, 5] rfl)
noncomputable def g8c_J1_indexOf_4cfef (s : XS) (r_22 : Int) : XR := (s, r_22)
noncomputable def g6_J1_indexOf_4cfef (s : XS) (k0 : Nat) (a1 : Int) (v_16 : Int) : XR := g8c_J1_indexOf_4cfef ((f_J1_indexOfChar_4cfef s k0 a1 0 v_16).1) (((f_J1_indexOfChar_4cfef s k0 a1 0 v_16).2))
noncomputable def g7_J1_indexOf_4cfef (s : XS) : XR := (s, ((-1)))
noncomputable def g5b_J1_indexOf_4cfef (s : XS) (v_16 : Int) (k0 : Nat) (a1 : Int) : XR := if 0 < v_16 then g6_J1_indexOf_4cfef s k0 a1 v_16 else g7_J1_indexOf_4cfef s
noncomputable def g3_J1_indexOf_4cfef (s : XS) (k0 : Nat) (a1 : Int) (a3 : Int) : XR := g5b_J1_indexOf_4cfef s ((min a3 (((strLen.getD k0 0 : Nat) : Int)))) k0 a1
noncomputable def g4_J1_indexOf_4cfef (s : XS) : XR := (s, ((-1)))
noncomputable def g2b_J1_indexOf_4cfef (s : XS) (r_4 : Int) (k0 : Nat) (a1 : Int) (a3 : Int) : XR := if r_4 = 0 then g4_J1_indexOf_4cfef s else g3_J1_indexOf_4cfef s k0 a1 a3
noncomputable def g1c_J1_indexOf_4cfef (s : XS) (r_4 : Int) (k0 : Nat) (a1 : Int) (a3 : Int) : XR := g2b_J1_indexOf_4cfef s r_4 k0 a1 a3
noncomputable def f_J1_indexOf_4cfef (s : XS) (k0 : Nat) (a1 : Int) (a2 : Int) (a3 : Int) : XR := g1c_J1_indexOf_4cfef ((f_J1_canEncode_9a6ad s a1).1) (((f_J1_canEncode_9a6ad s a1).2)) k0 a1 a3
set_option maxHeartbeats 4000000 in
set_option maxRecDepth 100000 in
theorem c_J1_indexOf_4cfef {S : Sp} (l : Launch) (G : GG) (Z : RZ) (ad : Nat → Nat) (ws0 : va_W) (hT : Ty G S ad ws0) (k0 : Nat) (hsk0 : k0 < 23) (a1 : Int32) (a2 : Int32) (a3 : Int32) (l2 : 0 ≤ a2.toInt) (u2 : a2.toInt ≤ 0) (l3 : 0 ≤ a3.toInt) (u3 : a3.toInt ≤ 102) : Mq l yJ1_indexOf_4cfef cJ1_indexOf_4cfef 4 (some .int) 2 G Z [.ref (Z.2.2 k0), .int a1, .int a2, .int a3] ws0 (PI G S ad [] ws0 (fun r u => (xso S ad u = (f_J1_indexOf_4cfef (xso S ad ws0) k0 a1.toInt a2.toInt a3.toInt).1) ∧ (r.toInt = (f_J1_indexOf_4cfef (xso S ad ws0) k0 a1.toInt a2.toInt a3.toInt).2) ∧ ((-1) ≤ r.toInt) ∧ (r.toInt ≤ 102))) := by
  refine Mq.start (by decide) (Nat.le_of_ble_eq_true rfl) ?_
  intro p e s m below meth c A ls C0 hZ h hl
  have hl : lv_has ls 4 [(0, .ref (Z.2.2 k0)), (1, .int a1), (2, .int a2), (3, .int a3)] := hl
  have h : Wt G S ad A s s.heap [] ws0 := ⟨h, hT⟩
  obtain ⟨args, hargs⟩ : ∃ z, z = ([.ref (Z.2.2 k0), .int a1, .int a2, .int a3] : List Value).toArray := ⟨_, rfl⟩
  rw [← hargs] at C0 ⊢
  have C0 : Cx p s m args meth c RJ1 cJ1_indexOf_4cfef 4 (some .int) := C0
  obtain ⟨Q, hQ⟩ : ∃ z, z = MQ below ((PI G S ad [] ws0 (fun r u => (xso S ad u = (f_J1_indexOf_4cfef (xso S ad ws0) k0 a1.toInt a2.toInt a3.toInt).1) ∧ (r.toInt = (f_J1_indexOf_4cfef (xso S ad ws0) k0 a1.toInt a2.toInt a3.toInt).2) ∧ ((-1) ≤ r.toInt) ∧ (r.toInt ≤ 102))) A) args s 0 0 A := ⟨_, rfl⟩
  rw [← hQ]
  obtain ⟨FT, hFT⟩ : ∃ z, z = f_J1_indexOf_4cfef (xso S ad ws0) k0 a1.toInt a2.toInt a3.toInt := ⟨_, rfl⟩
  have HE : FT = f_J1_indexOf_4cfef (xso S ad ws0) k0 a1.toInt a2.toInt a3.toInt := hFT
  refine lv_iload_n C0.1 C0.2.1 dJ1_indexOf_4cfef_0 rfl (lv_at hl 1 rfl) ?_
  refine y_ci h (y_rS (As := [.int a1]) (rest := []) C0 hZ h (c_J1_canEncode_9a6ad l G Z ad _ h.2 a1) k_J1_canEncode_9a6ad q_657 q_656 hl.1 rfl rfl (Nat.le_of_ble_eq_true rfl) dJ1_indexOf_4cfef_1 ⟨Nat.le_of_ble_eq_true rfl, Nat.le_of_ble_eq_true rfl⟩ ⟨Nat.le_of_ble_eq_true rfl, Nat.le_of_ble_eq_true rfl⟩) (fun r_4 H locs ws_1 h u_2 p_3 => ?_)
  obtain ⟨e_5, e_6, e_7, e_8⟩ := p_3
  replace HE : FT = g1c_J1_indexOf_4cfef (xso S ad ws_1) r_4.toInt k0 a1.toInt a3.toInt := HE.trans (by rw [e_5, e_6]; rfl)
  replace HE : FT = g2b_J1_indexOf_4cfef (xso S ad ws_1) r_4.toInt k0 a1.toInt a3.toInt := HE.trans rfl
  refine y_if_ne (tgt := 9) C0 dJ1_indexOf_4cfef_4 (by decide) (fun c_9 => ?_) (fun c_9 => ?_)
  · -- 4
    replace HE : FT = g3_J1_indexOf_4cfef (xso S ad ws_1) k0 a1.toInt a3.toInt := HE.trans (if_neg c_9)
    refine lv_iload_n C0.1 C0.2.1 dJ1_indexOf_4cfef_9 rfl (lv_at hl 2 rfl) ?_
    refine y_c1 (n := 0) C0 (by decide) dJ1_indexOf_4cfef_10 (fun v_10 e_11 => ?_)
    refine y_max C0 hl.1 q_659 q_660 q_141 q_661 (Nat.le_of_ble_eq_true rfl) (Nat.le_of_ble_eq_true rfl) (Nat.le_of_ble_eq_true rfl) (Nat.le_of_ble_eq_true rfl) dJ1_indexOf_4cfef_11 (fun v_12 e_13 => ?_)
    refine lv_istore_n (lv' := [(2, .int v_12), (0, .ref (Z.2.2 k0)), (1, .int a1), (3, .int a3)]) C0.1 C0.2.1 dJ1_indexOf_4cfef_14 rfl hl (by decide) rfl (fun ls hl => ?_)
    refine lv_iload_n C0.1 C0.2.1 dJ1_indexOf_4cfef_15 rfl (lv_at hl 3 rfl) ?_
    refine lv_aload_n C0.1 C0.2.1 dJ1_indexOf_4cfef_16 rfl (lv_at hl 1 rfl) ?_
    refine y_tlen C0 hZ h hsk0 dJ1_indexOf_4cfef_17 (fun v_14 e_15 => ?_)
    refine y_min C0 hl.1 q_662 q_663 q_141 q_664 (Nat.le_of_ble_eq_true rfl) (Nat.le_of_ble_eq_true rfl) (Nat.le_of_ble_eq_true rfl) (Nat.le_of_ble_eq_true rfl) dJ1_indexOf_4cfef_18 (fun v_16 e_17 => ?_)
    refine lv_istore_n (lv' := [(3, .int v_16), (2, .int v_12), (0, .ref (Z.2.2 k0)), (1, .int a1)]) C0.1 C0.2.1 dJ1_indexOf_4cfef_21 rfl hl (by decide) rfl (fun ls hl => ?_)
    refine lv_iload_n C0.1 C0.2.1 dJ1_indexOf_4cfef_22 rfl (lv_at hl 1 rfl) ?_
    refine lv_iload_n C0.1 C0.2.1 dJ1_indexOf_4cfef_23 rfl (lv_at hl 0 rfl) ?_
    replace HE : FT = g5b_J1_indexOf_4cfef (xso S ad ws_1) v_16.toInt k0 a1.toInt := HE.trans (by rw [(ix_min e_17), e_15]; rfl)
    refine y_icmp_lt (tgt := 29) C0 dJ1_indexOf_4cfef_24 (by decide) (fun c_18 => ?_) (fun c_18 => ?_)
    · -- 24
      replace HE : FT = g6_J1_indexOf_4cfef (xso S ad ws_1) k0 a1.toInt v_16.toInt := HE.trans (if_pos (o21_48 (strLen_le k0) l2 u2 l3 u3 e_11 e_13 e_15 e_17 c_18))
      refine lv_aload_n C0.1 C0.2.1 dJ1_indexOf_4cfef_29 rfl (lv_at hl 2 rfl) ?_
      refine lv_iload_n C0.1 C0.2.1 dJ1_indexOf_4cfef_30 rfl (lv_at hl 3 rfl) ?_
      refine lv_iload_n C0.1 C0.2.1 dJ1_indexOf_4cfef_31 rfl (lv_at hl 1 rfl) ?_
      refine lv_iload_n C0.1 C0.2.1 dJ1_indexOf_4cfef_32 rfl (lv_at hl 0 rfl) ?_
      refine y_ci h (y_rS (As := [.ref (Z.2.2 k0), .int a1, .int v_12, .int v_16]) (rest := []) C0 hZ h (c_J1_indexOfChar_4cfef l G Z ad _ h.2 k0 hsk0 a1 v_12 v_16 (o21_50 (strLen_le k0) l2 u2 l3 u3 e_11 e_13 e_15 e_17 c_18) (o21_51 (strLen_le k0) l2 u2 l3 u3 e_11 e_13 e_15 e_17 c_18) (o21_52 (strLen_le k0) l2 u2 l3 u3 e_11 e_13 e_15 e_17 c_18) (o21_53 (strLen_le k0) l2 u2 l3 u3 e_11 e_13 e_15 e_17 c_18) (o21_54 (strLen_le k0) l2 u2 l3 u3 e_11 e_13 e_15 e_17 c_18)) k_J1_indexOfChar_4cfef q_666 q_665 hl.1 rfl rfl (Nat.le_of_ble_eq_true rfl) dJ1_indexOf_4cfef_33 ⟨Nat.le_of_ble_eq_true rfl, Nat.le_of_ble_eq_true rfl⟩ ⟨Nat.le_of_ble_eq_true rfl, Nat.le_of_ble_eq_true rfl⟩) (fun r_22 H locs ws_19 h u_20 p_21 => ?_)
      obtain ⟨e_23, e_24, e_25, e_26⟩ := p_21
      replace HE : FT = g8c_J1_indexOf_4cfef (xso S ad ws_19) r_22.toInt := HE.trans (by rw [e_23, e_24, (o21_55 (strLen_le k0) l2 u2 l3 u3 e_11 e_13 e_15 e_17 c_18)]; rfl)
      replace HE : FT = ((xso S ad ws_19), r_22.toInt) := HE.trans rfl
      rw [hQ]
      exact y_iret C0 h (Fr.tr u_2 u_20) ⟨(congrArg Prod.fst (HE.symm.trans hFT)), (congrArg Prod.snd (HE.symm.trans hFT)), (o21_56 e_25 e_26), (o21_57 e_25 e_26)⟩ dJ1_indexOf_4cfef_36
    · -- 24
      replace HE : FT = g7_J1_indexOf_4cfef (xso S ad ws_1) := HE.trans (if_neg (o21_49 (strLen_le k0) l2 u2 l3 u3 e_11 e_13 e_15 e_17 c_18))
      refine y_c1 (n := (-1)) C0 (by decide) dJ1_indexOf_4cfef_27 (fun v_27 e_28 => ?_)
      replace HE : FT = ((xso S ad ws_1), v_27.toInt) := HE.trans (by rw [e_28]; rfl)
      rw [hQ]
      exact y_iret C0 h u_2 ⟨(congrArg Prod.fst (HE.symm.trans hFT)), (congrArg Prod.snd (HE.symm.trans hFT)), (o21_33 e_28), (o21_34 e_28)⟩ dJ1_indexOf_4cfef_28
  · -- 4
    replace HE : FT = g4_J1_indexOf_4cfef (xso S ad ws_1) := HE.trans (if_pos c_9)
    refine y_c1 (n := (-1)) C0 (by decide) dJ1_indexOf_4cfef_7 (fun v_29 e_30 => ?_)
    replace HE : FT = ((xso S ad ws_1), v_29.toInt) := HE.trans (by rw [e_30]; rfl)
    rw [hQ]
    exact y_iret C0 h u_2 ⟨(congrArg Prod.fst (HE.symm.trans hFT)), (congrArg Prod.snd (HE.symm.trans hFT)), (o21_33 e_30), (o21_34 e_30)⟩ dJ1_indexOf_4cfef_8
noncomputable def g3c_J0_indexOf_7cf53 (s : XS) (r_22 : Int) : XR := (s, r_22)
noncomputable def g2c_J0_indexOf_7cf53 (s : XS) (r_13 : Int) (a1 : Int) (k0 : Nat) : XR := g3c_J0_indexOf_7cf53 ((f_J1_indexOf_4cfef s k0 a1 0 r_13).1) (((f_J1_indexOf_4cfef s k0 a1 0 r_13).2))
noncomputable def g1c_J0_indexOf_7cf53 (s : XS) (k0 : Nat) (a1 : Int) : XR := g2c_J0_indexOf_7cf53 ((f_J0_length_8abf5 s k0).1) (((f_J0_length_8abf5 s k0).2)) a1 k0
noncomputable def f_J0_indexOf_7cf53 (s : XS) (k0 : Nat) (a1 : Int) (a2 : Int) : XR := g1c_J0_indexOf_7cf53 ((f_J0_isLatin1_aae02 s k0).1) k0 a1
set_option maxHeartbeats 4000000 in
set_option maxRecDepth 100000 in
theorem c_J0_indexOf_7cf53 {S : Sp} (l : Launch) (G : GG) (Z : RZ) (ad : Nat → Nat) (ws0 : va_W) (hT : Ty G S ad ws0) (k0 : Nat) (hsk0 : k0 < 23) (a1 : Int32) (a2 : Int32) (l2 : 0 ≤ a2.toInt) (u2 : a2.toInt ≤ 0) : Mq l yJ0_indexOf_7cf53 cJ0_indexOf_7cf53 3 (some .int) 3 G Z [.ref (Z.2.1 k0), .int a1, .int a2] ws0 (PI G S ad [] ws0 (fun r u => (xso S ad u = (f_J0_indexOf_7cf53 (xso S ad ws0) k0 a1.toInt a2.toInt).1) ∧ (r.toInt = (f_J0_indexOf_7cf53 (xso S ad ws0) k0 a1.toInt a2.toInt).2) ∧ ((-1) ≤ r.toInt) ∧ (r.toInt ≤ 102))) := by
  refine Mq.start (by decide) (Nat.le_of_ble_eq_true rfl) ?_
  intro p e s m below meth c A ls C0 hZ h hl
  have hl : lv_has ls 3 [(0, .ref (Z.2.1 k0)), (1, .int a1), (2, .int a2)] := hl
  have h : Wt G S ad A s s.heap [] ws0 := ⟨h, hT⟩
  obtain ⟨args, hargs⟩ : ∃ z, z = ([.ref (Z.2.1 k0), .int a1, .int a2] : List Value).toArray := ⟨_, rfl⟩
  rw [← hargs] at C0 ⊢
  have C0 : Cx p s m args meth c RJ0 cJ0_indexOf_7cf53 3 (some .int) := C0
  obtain ⟨Q, hQ⟩ : ∃ z, z = MQ below ((PI G S ad [] ws0 (fun r u => (xso S ad u = (f_J0_indexOf_7cf53 (xso S ad ws0) k0 a1.toInt a2.toInt).1) ∧ (r.toInt = (f_J0_indexOf_7cf53 (xso S ad ws0) k0 a1.toInt a2.toInt).2) ∧ ((-1) ≤ r.toInt) ∧ (r.toInt ≤ 102))) A) args s 0 0 A := ⟨_, rfl⟩
  rw [← hQ]
  obtain ⟨FT, hFT⟩ : ∃ z, z = f_J0_indexOf_7cf53 (xso S ad ws0) k0 a1.toInt a2.toInt := ⟨_, rfl⟩
  have HE : FT = f_J0_indexOf_7cf53 (xso S ad ws0) k0 a1.toInt a2.toInt := hFT
  refine lv_aload_n C0.1 C0.2.1 dJ0_indexOf_7cf53_0 rfl (lv_at hl 0 rfl) ?_
  refine y_ci h (y_rT (As := []) (rest := []) C0 hZ h (c_J0_isLatin1_aae02 l G Z ad _ h.2 k0 hsk0) k_J0_isLatin1_aae02 q_640 q_641 q_639 hsk0 rfl hl.1 rfl rfl (Nat.le_of_ble_eq_true rfl) dJ0_indexOf_7cf53_1 ⟨Nat.le_of_ble_eq_true rfl, Nat.le_of_ble_eq_true rfl⟩ ⟨Nat.le_of_ble_eq_true rfl, Nat.le_of_ble_eq_true rfl⟩) (fun r_4 H locs ws_1 h u_2 p_3 => ?_)
  obtain ⟨e_5, e_6, e_7, e_8⟩ := p_3
  replace HE : FT = g1c_J0_indexOf_7cf53 (xso S ad ws_1) k0 a1.toInt := HE.trans (by rw [e_5]; rfl)
  refine y_if_eq (tgt := 23) C0 dJ0_indexOf_7cf53_4 (by decide) (fun c_9 => ((o21_26 e_7 e_8 c_9)).elim) (fun c_9 => ?_)
  refine lv_aload_n C0.1 C0.2.1 dJ0_indexOf_7cf53_7 rfl (lv_at hl 0 rfl) ?_
  refine y_sval C0 hZ h hsk0 q_2071 dJ0_indexOf_7cf53_8 ?_
  refine lv_iload_n C0.1 C0.2.1 dJ0_indexOf_7cf53_11 rfl (lv_at hl 1 rfl) ?_
  refine lv_iload_n C0.1 C0.2.1 dJ0_indexOf_7cf53_12 rfl (lv_at hl 2 rfl) ?_
  refine lv_aload_n C0.1 C0.2.1 dJ0_indexOf_7cf53_13 rfl (lv_at hl 0 rfl) ?_
  refine y_ci h (y_rT (As := []) (rest := [.int a2, .int a1, .ref (Z.2.2 k0)]) C0 hZ h (c_J0_length_8abf5 l G Z ad _ h.2 k0 hsk0) k_J0_length_8abf5 q_646 q_647 q_645 hsk0 rfl hl.1 rfl rfl (Nat.le_of_ble_eq_true rfl) dJ0_indexOf_7cf53_14 ⟨Nat.le_of_ble_eq_true rfl, Nat.le_of_ble_eq_true rfl⟩ ⟨Nat.le_of_ble_eq_true rfl, Nat.le_of_ble_eq_true rfl⟩) (fun r_13 H locs ws_10 h u_11 p_12 => ?_)
  obtain ⟨e_14, e_15, e_16, e_17, e_18⟩ := p_12
  replace HE : FT = g2c_J0_indexOf_7cf53 (xso S ad ws_10) r_13.toInt a1.toInt k0 := HE.trans (by rw [e_14, e_15]; rfl)
  refine y_ci h (y_rS (As := [.ref (Z.2.2 k0), .int a1, .int a2, .int r_13]) (rest := []) C0 hZ h (c_J1_indexOf_4cfef l G Z ad _ h.2 k0 hsk0 a1 a2 r_13 (o21_45 l2 u2) (o21_58 l2 u2) (o21_59 (strLen_le k0) e_16 e_17 e_18) (o21_60 (strLen_le k0) e_16 e_17 e_18)) k_J1_indexOf_4cfef q_654 q_653 hl.1 rfl rfl (Nat.le_of_ble_eq_true rfl) dJ0_indexOf_7cf53_17 ⟨Nat.le_of_ble_eq_true rfl, Nat.le_of_ble_eq_true rfl⟩ ⟨Nat.le_of_ble_eq_true rfl, Nat.le_of_ble_eq_true rfl⟩) (fun r_22 H locs ws_19 h u_20 p_21 => ?_)
  obtain ⟨e_23, e_24, e_25, e_26⟩ := p_21
  replace HE : FT = g3c_J0_indexOf_7cf53 (xso S ad ws_19) r_22.toInt := HE.trans (by rw [e_23, e_24, (o21_11 l2 u2)]; rfl)
  refine lv_goto (tgt := 36) C0.1 C0.2.1 dJ0_indexOf_7cf53_20 (by decide) ?_
  replace HE : FT = ((xso S ad ws_19), r_22.toInt) := HE.trans rfl
  rw [hQ]
  exact y_iret C0 h (Fr.tr (Fr.tr u_2 u_11) u_20) ⟨(congrArg Prod.fst (HE.symm.trans hFT)), (congrArg Prod.snd (HE.symm.trans hFT)), (o21_56 e_25 e_26), (o21_57 e_25 e_26)⟩ dJ0_indexOf_7cf53_36
noncomputable def g1c_J0_indexOf_0f7a4 (s : XS) (r_6 : Int) : XR := (s, r_6)
noncomputable def f_J0_indexOf_0f7a4 (s : XS) (k0 : Nat) (a1 : Int) : XR := g1c_J0_indexOf_0f7a4 ((f_J0_indexOf_7cf53 s k0 a1 0).1) (((f_J0_indexOf_7cf53 s k0 a1 0).2))
set_option maxHeartbeats 4000000 in
set_option maxRecDepth 100000 in
theorem c_J0_indexOf_0f7a4 {S : Sp} (l : Launch) (G : GG) (Z : RZ) (ad : Nat → Nat) (ws0 : va_W) (hT : Ty G S ad ws0) (k0 : Nat) (hsk0 : k0 < 23) (a1 : Int32) : Mq l yJ0_indexOf_0f7a4 cJ0_indexOf_0f7a4 2 (some .int) 4 G Z [.ref (Z.2.1 k0), .int a1] ws0 (PI G S ad [] ws0 (fun r u => (xso S ad u = (f_J0_indexOf_0f7a4 (xso S ad ws0) k0 a1.toInt).1) ∧ (r.toInt = (f_J0_indexOf_0f7a4 (xso S ad ws0) k0 a1.toInt).2) ∧ ((-1) ≤ r.toInt) ∧ (r.toInt ≤ 102))) := by
  refine Mq.start (by decide) (Nat.le_of_ble_eq_true rfl) ?_
  intro p e s m below meth c A ls C0 hZ h hl
  have hl : lv_has ls 2 [(0, .ref (Z.2.1 k0)), (1, .int a1)] := hl
  have h : Wt G S ad A s s.heap [] ws0 := ⟨h, hT⟩
  obtain ⟨args, hargs⟩ : ∃ z, z = ([.ref (Z.2.1 k0), .int a1] : List Value).toArray := ⟨_, rfl⟩
  rw [← hargs] at C0 ⊢
  have C0 : Cx p s m args meth c RJ0 cJ0_indexOf_0f7a4 2 (some .int) := C0
  obtain ⟨Q, hQ⟩ : ∃ z, z = MQ below ((PI G S ad [] ws0 (fun r u => (xso S ad u = (f_J0_indexOf_0f7a4 (xso S ad ws0) k0 a1.toInt).1) ∧ (r.toInt = (f_J0_indexOf_0f7a4 (xso S ad ws0) k0 a1.toInt).2) ∧ ((-1) ≤ r.toInt) ∧ (r.toInt ≤ 102))) A) args s 0 0 A := ⟨_, rfl⟩
  rw [← hQ]
  obtain ⟨FT, hFT⟩ : ∃ z, z = f_J0_indexOf_0f7a4 (xso S ad ws0) k0 a1.toInt := ⟨_, rfl⟩
  have HE : FT = f_J0_indexOf_0f7a4 (xso S ad ws0) k0 a1.toInt := hFT
  refine lv_aload_n C0.1 C0.2.1 dJ0_indexOf_0f7a4_0 rfl (lv_at hl 0 rfl) ?_
  refine lv_iload_n C0.1 C0.2.1 dJ0_indexOf_0f7a4_1 rfl (lv_at hl 1 rfl) ?_
  refine y_c1 (n := 0) C0 (by decide) dJ0_indexOf_0f7a4_2 (fun v_1 e_2 => ?_)
  refine y_ci h (y_rT (As := [.int a1, .int v_1]) (rest := []) C0 hZ h (c_J0_indexOf_7cf53 l G Z ad _ h.2 k0 hsk0 a1 v_1 (o21_3 e_2) (o21_4 e_2)) k_J0_indexOf_7cf53 q_636 q_637 q_635 hsk0 rfl hl.1 rfl rfl (Nat.le_of_ble_eq_true rfl) dJ0_indexOf_0f7a4_3 ⟨Nat.le_of_ble_eq_true rfl, Nat.le_of_ble_eq_true rfl⟩ ⟨Nat.le_of_ble_eq_true rfl, Nat.le_of_ble_eq_true rfl⟩) (fun r_6 H locs ws_3 h u_4 p_5 => ?_)
  obtain ⟨e_7, e_8, e_9, e_10⟩ := p_5
  replace HE : FT = g1c_J0_indexOf_0f7a4 (xso S ad ws_3) r_6.toInt := HE.trans (by rw [e_7, e_8, e_2]; rfl)
  replace HE : FT = ((xso S ad ws_3), r_6.toInt) := HE.trans rfl
  rw [hQ]
  exact y_iret C0 h u_4 ⟨(congrArg Prod.fst (HE.symm.trans hFT)), (congrArg Prod.snd (HE.symm.trans hFT)), (o21_56 e_9 e_10), (o21_57 e_9 e_10)⟩ dJ0_indexOf_0f7a4_6
