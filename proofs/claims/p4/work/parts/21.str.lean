variable {tt : QQ}
theorem dJ0_charAt_5068e_0 : decode cJ0_charAt_5068e 0 = .ok (.aload_n 0, 1) := by decide +kernel
theorem dJ0_charAt_5068e_1 : decode cJ0_charAt_5068e 1 = .ok (.invokevirtual 492, 3) := by decide +kernel
theorem dJ0_charAt_5068e_4 : decode cJ0_charAt_5068e 4 = .ok (.ifCond .eq 12, 3) := by decide +kernel
theorem dJ0_charAt_5068e_7 : decode cJ0_charAt_5068e 7 = .ok (.aload_n 0, 1) := by decide +kernel
theorem dJ0_charAt_5068e_8 : decode cJ0_charAt_5068e 8 = .ok (.getfield 9, 3) := by decide +kernel
theorem dJ0_charAt_5068e_11 : decode cJ0_charAt_5068e 11 = .ok (.iload_n 1, 1) := by decide +kernel
theorem dJ0_charAt_5068e_12 : decode cJ0_charAt_5068e 12 = .ok (.invokestatic 495, 3) := by decide +kernel
theorem dJ0_charAt_5068e_15 : decode cJ0_charAt_5068e 15 = .ok (.ireturn, 1) := by decide +kernel
theorem dJ0_checkIndex_df160_0 : decode cJ0_checkIndex_df160 0 = .ok (.iload_n 0, 1) := by decide +kernel
theorem dJ0_checkIndex_df160_1 : decode cJ0_checkIndex_df160 1 = .ok (.iload_n 1, 1) := by decide +kernel
theorem dJ0_checkIndex_df160_2 : decode cJ0_checkIndex_df160 2 = .ok (.getstatic 1053, 3) := by decide +kernel
theorem dJ0_checkIndex_df160_5 : decode cJ0_checkIndex_df160 5 = .ok (.invokestatic 1059, 3) := by decide +kernel
theorem dJ0_checkIndex_df160_8 : decode cJ0_checkIndex_df160 8 = .ok (.pop, 1) := by decide +kernel
theorem dJ0_checkIndex_df160_9 : decode cJ0_checkIndex_df160 9 = .ok (.return_, 1) := by decide +kernel
theorem dJ0_coder_7d493_0 : decode cJ0_coder_7d493 0 = .ok (.getstatic 38, 3) := by decide +kernel
theorem dJ0_coder_7d493_3 : decode cJ0_coder_7d493 3 = .ok (.ifCond .eq 10, 3) := by decide +kernel
theorem dJ0_coder_7d493_6 : decode cJ0_coder_7d493 6 = .ok (.aload_n 0, 1) := by decide +kernel
theorem dJ0_coder_7d493_7 : decode cJ0_coder_7d493 7 = .ok (.getfield 15, 3) := by decide +kernel
theorem dJ0_coder_7d493_10 : decode cJ0_coder_7d493 10 = .ok (.goto 4, 3) := by decide +kernel
theorem dJ0_coder_7d493_14 : decode cJ0_coder_7d493 14 = .ok (.ireturn, 1) := by decide +kernel
theorem dJ0_indexOf_0f7a4_0 : decode cJ0_indexOf_0f7a4 0 = .ok (.aload_n 0, 1) := by decide +kernel
theorem dJ0_indexOf_0f7a4_1 : decode cJ0_indexOf_0f7a4 1 = .ok (.iload_n 1, 1) := by decide +kernel
theorem dJ0_indexOf_0f7a4_2 : decode cJ0_indexOf_0f7a4 2 = .ok (.iconst 0, 1) := by decide +kernel
theorem dJ0_indexOf_0f7a4_3 : decode cJ0_indexOf_0f7a4 3 = .ok (.invokevirtual 633, 3) := by decide +kernel
theorem dJ0_indexOf_0f7a4_6 : decode cJ0_indexOf_0f7a4 6 = .ok (.ireturn, 1) := by decide +kernel
theorem dJ0_indexOf_7cf53_0 : decode cJ0_indexOf_7cf53 0 = .ok (.aload_n 0, 1) := by decide +kernel
theorem dJ0_indexOf_7cf53_1 : decode cJ0_indexOf_7cf53 1 = .ok (.invokevirtual 492, 3) := by decide +kernel
theorem dJ0_indexOf_7cf53_4 : decode cJ0_indexOf_7cf53 4 = .ok (.ifCond .eq 19, 3) := by decide +kernel
theorem dJ0_indexOf_7cf53_7 : decode cJ0_indexOf_7cf53 7 = .ok (.aload_n 0, 1) := by decide +kernel
theorem dJ0_indexOf_7cf53_8 : decode cJ0_indexOf_7cf53 8 = .ok (.getfield 9, 3) := by decide +kernel
theorem dJ0_indexOf_7cf53_11 : decode cJ0_indexOf_7cf53 11 = .ok (.iload_n 1, 1) := by decide +kernel
theorem dJ0_indexOf_7cf53_12 : decode cJ0_indexOf_7cf53 12 = .ok (.iload_n 2, 1) := by decide +kernel
theorem dJ0_indexOf_7cf53_13 : decode cJ0_indexOf_7cf53 13 = .ok (.aload_n 0, 1) := by decide +kernel
theorem dJ0_indexOf_7cf53_14 : decode cJ0_indexOf_7cf53 14 = .ok (.invokevirtual 505, 3) := by decide +kernel
theorem dJ0_indexOf_7cf53_17 : decode cJ0_indexOf_7cf53 17 = .ok (.invokestatic 637, 3) := by decide +kernel
theorem dJ0_indexOf_7cf53_20 : decode cJ0_indexOf_7cf53 20 = .ok (.goto 16, 3) := by decide +kernel
theorem dJ0_indexOf_7cf53_36 : decode cJ0_indexOf_7cf53 36 = .ok (.ireturn, 1) := by decide +kernel
theorem dJ0_isLatin1_aae02_0 : decode cJ0_isLatin1_aae02 0 = .ok (.getstatic 38, 3) := by decide +kernel
theorem dJ0_isLatin1_aae02_3 : decode cJ0_isLatin1_aae02 3 = .ok (.ifCond .eq 14, 3) := by decide +kernel
theorem dJ0_isLatin1_aae02_6 : decode cJ0_isLatin1_aae02 6 = .ok (.aload_n 0, 1) := by decide +kernel
theorem dJ0_isLatin1_aae02_7 : decode cJ0_isLatin1_aae02 7 = .ok (.getfield 15, 3) := by decide +kernel
theorem dJ0_isLatin1_aae02_10 : decode cJ0_isLatin1_aae02 10 = .ok (.ifCond .ne 7, 3) := by decide +kernel
theorem dJ0_isLatin1_aae02_13 : decode cJ0_isLatin1_aae02 13 = .ok (.iconst 1, 1) := by decide +kernel
theorem dJ0_isLatin1_aae02_14 : decode cJ0_isLatin1_aae02 14 = .ok (.goto 4, 3) := by decide +kernel
theorem dJ0_isLatin1_aae02_18 : decode cJ0_isLatin1_aae02 18 = .ok (.ireturn, 1) := by decide +kernel
theorem dJ0_length_8abf5_0 : decode cJ0_length_8abf5 0 = .ok (.aload_n 0, 1) := by decide +kernel
theorem dJ0_length_8abf5_1 : decode cJ0_length_8abf5 1 = .ok (.getfield 9, 3) := by decide +kernel
theorem dJ0_length_8abf5_4 : decode cJ0_length_8abf5 4 = .ok (.arraylength, 1) := by decide +kernel
theorem dJ0_length_8abf5_5 : decode cJ0_length_8abf5 5 = .ok (.aload_n 0, 1) := by decide +kernel
theorem dJ0_length_8abf5_6 : decode cJ0_length_8abf5 6 = .ok (.invokevirtual 335, 3) := by decide +kernel
theorem dJ0_length_8abf5_9 : decode cJ0_length_8abf5 9 = .ok (.ishr, 1) := by decide +kernel
theorem dJ0_length_8abf5_10 : decode cJ0_length_8abf5 10 = .ok (.ireturn, 1) := by decide +kernel
theorem dJ1_canEncode_9a6ad_0 : decode cJ1_canEncode_9a6ad 0 = .ok (.iload_n 0, 1) := by decide +kernel
theorem dJ1_canEncode_9a6ad_1 : decode cJ1_canEncode_9a6ad 1 = .ok (.ifCond .lt 14, 3) := by decide +kernel
theorem dJ1_canEncode_9a6ad_4 : decode cJ1_canEncode_9a6ad 4 = .ok (.iload_n 0, 1) := by decide +kernel
theorem dJ1_canEncode_9a6ad_5 : decode cJ1_canEncode_9a6ad 5 = .ok (.sipush 255, 3) := by decide +kernel
theorem dJ1_canEncode_9a6ad_8 : decode cJ1_canEncode_9a6ad 8 = .ok (.if_icmp .gt 7, 3) := by decide +kernel
theorem dJ1_canEncode_9a6ad_11 : decode cJ1_canEncode_9a6ad 11 = .ok (.iconst 1, 1) := by decide +kernel
theorem dJ1_canEncode_9a6ad_12 : decode cJ1_canEncode_9a6ad 12 = .ok (.goto 4, 3) := by decide +kernel
theorem dJ1_canEncode_9a6ad_15 : decode cJ1_canEncode_9a6ad 15 = .ok (.iconst 0, 1) := by decide +kernel
theorem dJ1_canEncode_9a6ad_16 : decode cJ1_canEncode_9a6ad 16 = .ok (.ireturn, 1) := by decide +kernel
theorem dJ1_charAt_3b067_0 : decode cJ1_charAt_3b067 0 = .ok (.iload_n 1, 1) := by decide +kernel
theorem dJ1_charAt_3b067_1 : decode cJ1_charAt_3b067 1 = .ok (.aload_n 0, 1) := by decide +kernel
theorem dJ1_charAt_3b067_2 : decode cJ1_charAt_3b067 2 = .ok (.arraylength, 1) := by decide +kernel
theorem dJ1_charAt_3b067_3 : decode cJ1_charAt_3b067 3 = .ok (.invokestatic 9, 3) := by decide +kernel
theorem dJ1_charAt_3b067_6 : decode cJ1_charAt_3b067 6 = .ok (.aload_n 0, 1) := by decide +kernel
theorem dJ1_charAt_3b067_7 : decode cJ1_charAt_3b067 7 = .ok (.iload_n 1, 1) := by decide +kernel
theorem dJ1_charAt_3b067_8 : decode cJ1_charAt_3b067 8 = .ok (.baload, 1) := by decide +kernel
theorem dJ1_charAt_3b067_9 : decode cJ1_charAt_3b067 9 = .ok (.sipush 255, 3) := by decide +kernel
theorem dJ1_charAt_3b067_12 : decode cJ1_charAt_3b067 12 = .ok (.iand, 1) := by decide +kernel
theorem dJ1_charAt_3b067_13 : decode cJ1_charAt_3b067 13 = .ok (.i2c, 1) := by decide +kernel
theorem dJ1_charAt_3b067_14 : decode cJ1_charAt_3b067 14 = .ok (.ireturn, 1) := by decide +kernel
theorem dJ1_indexOfChar_4cfef_0 : decode cJ1_indexOfChar_4cfef 0 = .ok (.iload_n 1, 1) := by decide +kernel
theorem dJ1_indexOfChar_4cfef_1 : decode cJ1_indexOfChar_4cfef 1 = .ok (.i2b, 1) := by decide +kernel
theorem dJ1_indexOfChar_4cfef_2 : decode cJ1_indexOfChar_4cfef 2 = .ok (.istore 4, 2) := by decide +kernel
theorem dJ1_indexOfChar_4cfef_4 : decode cJ1_indexOfChar_4cfef 4 = .ok (.iload_n 2, 1) := by decide +kernel
theorem dJ1_indexOfChar_4cfef_5 : decode cJ1_indexOfChar_4cfef 5 = .ok (.istore 5, 2) := by decide +kernel
theorem dJ1_indexOfChar_4cfef_7 : decode cJ1_indexOfChar_4cfef 7 = .ok (.iload 5, 2) := by decide +kernel
theorem dJ1_indexOfChar_4cfef_9 : decode cJ1_indexOfChar_4cfef 9 = .ok (.iload_n 3, 1) := by decide +kernel
theorem dJ1_indexOfChar_4cfef_10 : decode cJ1_indexOfChar_4cfef 10 = .ok (.if_icmp .ge 21, 3) := by decide +kernel
theorem dJ1_indexOfChar_4cfef_13 : decode cJ1_indexOfChar_4cfef 13 = .ok (.aload_n 0, 1) := by decide +kernel
theorem dJ1_indexOfChar_4cfef_14 : decode cJ1_indexOfChar_4cfef 14 = .ok (.iload 5, 2) := by decide +kernel
theorem dJ1_indexOfChar_4cfef_16 : decode cJ1_indexOfChar_4cfef 16 = .ok (.baload, 1) := by decide +kernel
theorem dJ1_indexOfChar_4cfef_17 : decode cJ1_indexOfChar_4cfef 17 = .ok (.iload 4, 2) := by decide +kernel
theorem dJ1_indexOfChar_4cfef_19 : decode cJ1_indexOfChar_4cfef 19 = .ok (.if_icmp .ne 6, 3) := by decide +kernel
theorem dJ1_indexOfChar_4cfef_22 : decode cJ1_indexOfChar_4cfef 22 = .ok (.iload 5, 2) := by decide +kernel
theorem dJ1_indexOfChar_4cfef_24 : decode cJ1_indexOfChar_4cfef 24 = .ok (.ireturn, 1) := by decide +kernel
theorem dJ1_indexOfChar_4cfef_25 : decode cJ1_indexOfChar_4cfef 25 = .ok (.iinc 5 1, 3) := by decide +kernel
theorem dJ1_indexOfChar_4cfef_28 : decode cJ1_indexOfChar_4cfef 28 = .ok (.goto (-21), 3) := by decide +kernel
theorem dJ1_indexOfChar_4cfef_31 : decode cJ1_indexOfChar_4cfef 31 = .ok (.iconst (-1), 1) := by decide +kernel
theorem dJ1_indexOfChar_4cfef_32 : decode cJ1_indexOfChar_4cfef 32 = .ok (.ireturn, 1) := by decide +kernel
theorem dJ1_indexOf_4cfef_0 : decode cJ1_indexOf_4cfef 0 = .ok (.iload_n 1, 1) := by decide +kernel
theorem dJ1_indexOf_4cfef_1 : decode cJ1_indexOf_4cfef 1 = .ok (.invokestatic 88, 3) := by decide +kernel
theorem dJ1_indexOf_4cfef_4 : decode cJ1_indexOf_4cfef 4 = .ok (.ifCond .ne 5, 3) := by decide +kernel
theorem dJ1_indexOf_4cfef_7 : decode cJ1_indexOf_4cfef 7 = .ok (.iconst (-1), 1) := by decide +kernel
theorem dJ1_indexOf_4cfef_8 : decode cJ1_indexOf_4cfef 8 = .ok (.ireturn, 1) := by decide +kernel
theorem dJ1_indexOf_4cfef_9 : decode cJ1_indexOf_4cfef 9 = .ok (.iload_n 2, 1) := by decide +kernel
theorem dJ1_indexOf_4cfef_10 : decode cJ1_indexOf_4cfef 10 = .ok (.iconst 0, 1) := by decide +kernel
theorem dJ1_indexOf_4cfef_11 : decode cJ1_indexOf_4cfef 11 = .ok (.invokestatic 92, 3) := by decide +kernel
theorem dJ1_indexOf_4cfef_14 : decode cJ1_indexOf_4cfef 14 = .ok (.istore_n 2, 1) := by decide +kernel
theorem dJ1_indexOf_4cfef_15 : decode cJ1_indexOf_4cfef 15 = .ok (.iload_n 3, 1) := by decide +kernel
theorem dJ1_indexOf_4cfef_16 : decode cJ1_indexOf_4cfef 16 = .ok (.aload_n 0, 1) := by decide +kernel
theorem dJ1_indexOf_4cfef_17 : decode cJ1_indexOf_4cfef 17 = .ok (.arraylength, 1) := by decide +kernel
theorem dJ1_indexOf_4cfef_18 : decode cJ1_indexOf_4cfef 18 = .ok (.invokestatic 38, 3) := by decide +kernel
theorem dJ1_indexOf_4cfef_21 : decode cJ1_indexOf_4cfef 21 = .ok (.istore_n 3, 1) := by decide +kernel
theorem dJ1_indexOf_4cfef_22 : decode cJ1_indexOf_4cfef 22 = .ok (.iload_n 2, 1) := by decide +kernel
theorem dJ1_indexOf_4cfef_23 : decode cJ1_indexOf_4cfef 23 = .ok (.iload_n 3, 1) := by decide +kernel
theorem dJ1_indexOf_4cfef_24 : decode cJ1_indexOf_4cfef 24 = .ok (.if_icmp .lt 5, 3) := by decide +kernel
theorem dJ1_indexOf_4cfef_27 : decode cJ1_indexOf_4cfef 27 = .ok (.iconst (-1), 1) := by decide +kernel
theorem dJ1_indexOf_4cfef_28 : decode cJ1_indexOf_4cfef 28 = .ok (.ireturn, 1) := by decide +kernel
theorem dJ1_indexOf_4cfef_29 : decode cJ1_indexOf_4cfef 29 = .ok (.aload_n 0, 1) := by decide +kernel
theorem dJ1_indexOf_4cfef_30 : decode cJ1_indexOf_4cfef 30 = .ok (.iload_n 1, 1) := by decide +kernel
theorem dJ1_indexOf_4cfef_31 : decode cJ1_indexOf_4cfef 31 = .ok (.iload_n 2, 1) := by decide +kernel
theorem dJ1_indexOf_4cfef_32 : decode cJ1_indexOf_4cfef 32 = .ok (.iload_n 3, 1) := by decide +kernel
theorem dJ1_indexOf_4cfef_33 : decode cJ1_indexOf_4cfef 33 = .ok (.invokestatic 95, 3) := by decide +kernel
theorem dJ1_indexOf_4cfef_36 : decode cJ1_indexOf_4cfef 36 = .ok (.ireturn, 1) := by decide +kernel
theorem dJ3_checkIndex_8e157_0 : decode cJ3_checkIndex_8e157 0 = .ok (.iload_n 0, 1) := by decide +kernel
theorem dJ3_checkIndex_8e157_1 : decode cJ3_checkIndex_8e157 1 = .ok (.ifCond .lt 8, 3) := by decide +kernel
theorem dJ3_checkIndex_8e157_4 : decode cJ3_checkIndex_8e157 4 = .ok (.iload_n 0, 1) := by decide +kernel
theorem dJ3_checkIndex_8e157_5 : decode cJ3_checkIndex_8e157 5 = .ok (.iload_n 1, 1) := by decide +kernel
theorem dJ3_checkIndex_8e157_6 : decode cJ3_checkIndex_8e157 6 = .ok (.if_icmp .lt 10, 3) := by decide +kernel
theorem dJ3_checkIndex_8e157_16 : decode cJ3_checkIndex_8e157 16 = .ok (.iload_n 0, 1) := by decide +kernel
theorem dJ3_checkIndex_8e157_17 : decode cJ3_checkIndex_8e157 17 = .ok (.ireturn, 1) := by decide +kernel
theorem o21_1 {x0 : Int} (h0 : x0 = 1) (h1 : x0 = 0) : False := by omega
theorem o21_2 {x0 : Int} (h0 : x0 = 0) : 0 ≤ x0 := by omega
theorem o21_3 {x0 : Int} (h0 : x0 = 0) : x0 ≤ 0 := by omega
theorem o21_4 {x0 : Int} (h0 : x0 = 0) : -128 ≤ x0 := by omega
theorem o21_5 {x0 : Int} (h0 : x0 = 0) : x0 ≤ 127 := by omega
theorem o21_6 {x0 : Int} (h0 : x0 = 0) (h1 : ¬ x0 = 0) : False := by omega
theorem o21_7 {x0 : Int} (h0 : x0 = 1) : 1 ≤ x0 := by omega
theorem o21_8 {x0 : Int} (h0 : x0 = 1) : x0 ≤ 1 := by omega
theorem o21_9 {x0 : Int} (h0 : x0 = 1) : 0 ≤ x0 := by omega
theorem o21_10 {x0 : Int} (h0 : 0 ≤ x0) (h1 : x0 ≤ 0) : x0 = 0 := by omega
theorem o21_11 {x0 x2 : Int} {x1 : Nat} (h0 : strLen.getD x1 0 ≤ 102) (h1 : x2 = ((strLen.getD x1 0 : Nat) : Int)) (h2 : x0 = x2 / 1) : 0 ≤ x0 := by omega
theorem o21_12 {x0 x2 : Int} {x1 : Nat} (h0 : strLen.getD x1 0 ≤ 102) (h1 : x2 = ((strLen.getD x1 0 : Nat) : Int)) (h2 : x0 = x2 / 1) : x0 ≤ 102 := by omega
theorem o21_13 {x0 x2 : Int} {x1 : Nat} (h0 : strLen.getD x1 0 ≤ 102) (h1 : x2 = ((strLen.getD x1 0 : Nat) : Int)) (h2 : x0 = x2 / 1) : x0 = ((strLen.getD x1 0 : Nat) : Int) := by omega
theorem o21_14 {x0 x1 : Int} (h0 : 0 ≤ x0) (h1 : x0 < x1) (h2 : x0 < 0) : False := by omega
theorem o21_15 {x0 x1 : Int} (h0 : 0 ≤ x0) (h1 : x0 < x1) (h2 : x1 ≤ x0) : False := by omega
theorem o21_16 {x0 x1 : Int} (h0 : 0 ≤ x0) (h1 : x0 < x1) : 0 ≤ x0 := by omega
theorem o21_17 {x0 x1 : Int} (h0 : 0 ≤ x0) (h1 : x0 < x1) (h2 : -2147483648 ≤ x0) (h3 : x0 ≤ 2147483647) (h4 : -2147483648 ≤ x1) (h5 : x1 ≤ 2147483647) : x0 ≤ 2147483646 := by omega
theorem o21_18 {x0 x1 : Int} (h0 : 0 ≤ x0) (h1 : x0 < x1) : x0 < x1 := by omega
theorem o21_19 {x0 x2 : Int} {x1 : Nat} (h0 : strLen.getD x1 0 ≤ 102) (h1 : 0 ≤ x0) (h2 : x0 < ((strLen.getD x1 0 : Nat) : Int)) (h3 : x2 = ((strLen.getD x1 0 : Nat) : Int)) : 0 ≤ x0 := by omega
theorem o21_20 {x0 x1 : Int} {x2 : Nat} (h0 : strLen.getD x2 0 ≤ 102) (h1 : 0 ≤ x0) (h2 : x0 < ((strLen.getD x2 0 : Nat) : Int)) (h3 : x1 = ((strLen.getD x2 0 : Nat) : Int)) : x0 < x1 := by omega
theorem o21_21 {x0 x2 : Int} {x1 : Nat} (h0 : strLen.getD x1 0 ≤ 102) (h1 : 0 ≤ x0) (h2 : x0 < ((strLen.getD x1 0 : Nat) : Int)) (h3 : x2 = ((strLen.getD x1 0 : Nat) : Int)) : x0 < ((strLen.getD x1 0 : Nat) : Int) := by omega
theorem o21_22 {x0 : Int} (h0 : x0 = 255) : x0 = 255 := by omega
theorem o21_23 {x0 : Int} (h0 : 0 ≤ x0) (h1 : x0 ≤ 65535) : 0 ≤ x0 := by omega
theorem o21_24 {x0 : Int} (h0 : 0 ≤ x0) (h1 : x0 ≤ 65535) : x0 ≤ 65535 := by omega
theorem o21_25 {x0 : Int} (h0 : 1 ≤ x0) (h1 : x0 ≤ 1) (h2 : x0 = 0) : False := by omega
theorem o21_26 {x0 : Int} {x1 : Nat} (h0 : strLen.getD x1 0 ≤ 102) (h1 : 0 ≤ x0) (h2 : x0 < ((strLen.getD x1 0 : Nat) : Int)) : 0 ≤ x0 := by omega
theorem o21_27 {x0 : Int} {x1 : Nat} (h0 : strLen.getD x1 0 ≤ 102) (h1 : 0 ≤ x0) (h2 : x0 < ((strLen.getD x1 0 : Nat) : Int)) : x0 < ((strLen.getD x1 0 : Nat) : Int) := by omega
theorem o21_28 {x0 : Int} (h0 : x0 = 0) : x0 ≤ 1 := by omega
theorem o21_29 {x0 : Int} (h0 : 0 ≤ x0) (h1 : x0 ≤ 102) (h2 : 102 - x0 < 0) : False := by omega
theorem o21_30 {x0 : Int} (h0 : x0 = (-1)) : (-1) ≤ x0 := by omega
theorem o21_31 {x0 : Int} (h0 : x0 = (-1)) : x0 ≤ 102 := by omega
theorem o21_32 {x0 x2 : Int} {x1 x3 : Nat} (h0 : strLen.getD x1 0 ≤ 102) (h1 : 0 ≤ x2) (h2 : x2 ≤ 102) (h3 : x2 ≤ ((strLen.getD x1 0 : Nat) : Int)) (h4 : 0 ≤ x0) (h5 : x0 ≤ 102) (h6 : 102 - x0 < ((x3 + 1 : Nat) : Int)) (h7 : x0 < x2) : 0 ≤ x0 := by omega
theorem o21_33 {x0 x2 : Int} {x1 x3 : Nat} (h0 : strLen.getD x1 0 ≤ 102) (h1 : 0 ≤ x2) (h2 : x2 ≤ 102) (h3 : x2 ≤ ((strLen.getD x1 0 : Nat) : Int)) (h4 : 0 ≤ x0) (h5 : x0 ≤ 102) (h6 : 102 - x0 < ((x3 + 1 : Nat) : Int)) (h7 : x0 < x2) : x0 < ((strLen.getD x1 0 : Nat) : Int) := by omega
theorem o21_34 {x0 x2 : Int} {x1 x3 : Nat} (h0 : strLen.getD x1 0 ≤ 102) (h1 : 0 ≤ x2) (h2 : x2 ≤ 102) (h3 : x2 ≤ ((strLen.getD x1 0 : Nat) : Int)) (h4 : 0 ≤ x0) (h5 : x0 ≤ 102) (h6 : 102 - x0 < ((x3 + 1 : Nat) : Int)) (h7 : x0 < x2) (h8 : -2147483648 ≤ x0) (h9 : x0 ≤ 2147483647) (h10 : -2147483648 ≤ x2) (h11 : x2 ≤ 2147483647) : -2147483648 ≤ x0 + 1 := by omega
theorem o21_35 {x0 x2 : Int} {x1 x3 : Nat} (h0 : strLen.getD x1 0 ≤ 102) (h1 : 0 ≤ x2) (h2 : x2 ≤ 102) (h3 : x2 ≤ ((strLen.getD x1 0 : Nat) : Int)) (h4 : 0 ≤ x0) (h5 : x0 ≤ 102) (h6 : 102 - x0 < ((x3 + 1 : Nat) : Int)) (h7 : x0 < x2) (h8 : -2147483648 ≤ x0) (h9 : x0 ≤ 2147483647) (h10 : -2147483648 ≤ x2) (h11 : x2 ≤ 2147483647) : x0 + 1 ≤ 2147483647 := by omega
theorem o21_36 {x0 x3 x4 : Int} {x1 x2 : Nat} (h0 : strLen.getD x2 0 ≤ 102) (h1 : 0 ≤ x3) (h2 : x3 ≤ 102) (h3 : x3 ≤ ((strLen.getD x2 0 : Nat) : Int)) (h4 : 0 ≤ x4) (h5 : x4 ≤ 102) (h6 : 102 - x4 < ((x1 + 1 : Nat) : Int)) (h7 : x4 < x3) (h8 : x0 = x4 + 1) : 102 - x0 < (x1 : Int) := by omega
theorem o21_37 {x0 x2 x3 : Int} {x1 x4 : Nat} (h0 : strLen.getD x1 0 ≤ 102) (h1 : 0 ≤ x2) (h2 : x2 ≤ 102) (h3 : x2 ≤ ((strLen.getD x1 0 : Nat) : Int)) (h4 : 0 ≤ x3) (h5 : x3 ≤ 102) (h6 : 102 - x3 < ((x4 + 1 : Nat) : Int)) (h7 : x3 < x2) (h8 : x0 = x3 + 1) : 0 ≤ x0 := by omega
theorem o21_38 {x0 x2 x3 : Int} {x1 x4 : Nat} (h0 : strLen.getD x1 0 ≤ 102) (h1 : 0 ≤ x2) (h2 : x2 ≤ 102) (h3 : x2 ≤ ((strLen.getD x1 0 : Nat) : Int)) (h4 : 0 ≤ x3) (h5 : x3 ≤ 102) (h6 : 102 - x3 < ((x4 + 1 : Nat) : Int)) (h7 : x3 < x2) (h8 : x0 = x3 + 1) : x0 ≤ 102 := by omega
theorem o21_39 {x0 x2 : Int} {x1 x3 : Nat} (h0 : strLen.getD x1 0 ≤ 102) (h1 : 0 ≤ x2) (h2 : x2 ≤ 102) (h3 : x2 ≤ ((strLen.getD x1 0 : Nat) : Int)) (h4 : 0 ≤ x0) (h5 : x0 ≤ 102) (h6 : 102 - x0 < ((x3 + 1 : Nat) : Int)) (h7 : x0 < x2) : (-1) ≤ x0 := by omega
theorem o21_40 {x0 x2 : Int} {x1 x3 : Nat} (h0 : strLen.getD x1 0 ≤ 102) (h1 : 0 ≤ x2) (h2 : x2 ≤ 102) (h3 : x2 ≤ ((strLen.getD x1 0 : Nat) : Int)) (h4 : 0 ≤ x0) (h5 : x0 ≤ 102) (h6 : 102 - x0 < ((x3 + 1 : Nat) : Int)) (h7 : x0 < x2) : x0 ≤ 102 := by omega
theorem o21_41 {x0 : Int} (h0 : 0 ≤ x0) (h1 : x0 ≤ 0) : 102 - x0 < (((102 - x0 + 1).toNat : Nat) : Int) := by omega
theorem o21_42 {x0 : Int} (h0 : 0 ≤ x0) (h1 : x0 ≤ 0) : 0 ≤ x0 := by omega
theorem o21_43 {x0 : Int} (h0 : 0 ≤ x0) (h1 : x0 ≤ 0) : x0 ≤ 102 := by omega
theorem o21_44 {x0 x2 x3 x4 x5 x6 : Int} {x1 : Nat} (h0 : strLen.getD x1 0 ≤ 102) (h1 : 0 ≤ x2) (h2 : x2 ≤ 0) (h3 : 0 ≤ x3) (h4 : x3 ≤ 102) (h5 : x4 = 0) (h6 : (x0 = x2 ∧ x4 ≤ x2) ∨ (x0 = x4 ∧ x2 ≤ x4)) (h7 : x5 = ((strLen.getD x1 0 : Nat) : Int)) (h8 : (x6 = x3 ∧ x3 ≤ x5) ∨ (x6 = x5 ∧ x5 ≤ x3)) (h9 : x0 < x6) : 0 ≤ x0 := by omega
theorem o21_45 {x0 x2 x3 x4 x5 x6 : Int} {x1 : Nat} (h0 : strLen.getD x1 0 ≤ 102) (h1 : 0 ≤ x2) (h2 : x2 ≤ 0) (h3 : 0 ≤ x3) (h4 : x3 ≤ 102) (h5 : x4 = 0) (h6 : (x0 = x2 ∧ x4 ≤ x2) ∨ (x0 = x4 ∧ x2 ≤ x4)) (h7 : x5 = ((strLen.getD x1 0 : Nat) : Int)) (h8 : (x6 = x3 ∧ x3 ≤ x5) ∨ (x6 = x5 ∧ x5 ≤ x3)) (h9 : x0 < x6) : x0 ≤ 0 := by omega
theorem o21_46 {x0 x2 x3 x4 x5 x6 : Int} {x1 : Nat} (h0 : strLen.getD x1 0 ≤ 102) (h1 : 0 ≤ x2) (h2 : x2 ≤ 0) (h3 : 0 ≤ x3) (h4 : x3 ≤ 102) (h5 : x4 = 0) (h6 : (x5 = x2 ∧ x4 ≤ x2) ∨ (x5 = x4 ∧ x2 ≤ x4)) (h7 : x6 = ((strLen.getD x1 0 : Nat) : Int)) (h8 : (x0 = x3 ∧ x3 ≤ x6) ∨ (x0 = x6 ∧ x6 ≤ x3)) (h9 : x5 < x0) : 0 ≤ x0 := by omega
theorem o21_47 {x0 x2 x3 x4 x5 x6 : Int} {x1 : Nat} (h0 : strLen.getD x1 0 ≤ 102) (h1 : 0 ≤ x2) (h2 : x2 ≤ 0) (h3 : 0 ≤ x3) (h4 : x3 ≤ 102) (h5 : x4 = 0) (h6 : (x5 = x2 ∧ x4 ≤ x2) ∨ (x5 = x4 ∧ x2 ≤ x4)) (h7 : x6 = ((strLen.getD x1 0 : Nat) : Int)) (h8 : (x0 = x3 ∧ x3 ≤ x6) ∨ (x0 = x6 ∧ x6 ≤ x3)) (h9 : x5 < x0) : x0 ≤ 102 := by omega
theorem o21_48 {x0 x2 x3 x4 x5 x6 : Int} {x1 : Nat} (h0 : strLen.getD x1 0 ≤ 102) (h1 : 0 ≤ x2) (h2 : x2 ≤ 0) (h3 : 0 ≤ x3) (h4 : x3 ≤ 102) (h5 : x4 = 0) (h6 : (x5 = x2 ∧ x4 ≤ x2) ∨ (x5 = x4 ∧ x2 ≤ x4)) (h7 : x6 = ((strLen.getD x1 0 : Nat) : Int)) (h8 : (x0 = x3 ∧ x3 ≤ x6) ∨ (x0 = x6 ∧ x6 ≤ x3)) (h9 : x5 < x0) : x0 ≤ ((strLen.getD x1 0 : Nat) : Int) := by omega
theorem o21_49 {x0 : Int} (h0 : (-1) ≤ x0) (h1 : x0 ≤ 102) : (-1) ≤ x0 := by omega
theorem o21_50 {x0 : Int} (h0 : (-1) ≤ x0) (h1 : x0 ≤ 102) : x0 ≤ 102 := by omega
theorem o21_51 {x0 : Int} (h0 : 0 ≤ x0) (h1 : x0 ≤ 0) : x0 ≤ 0 := by omega
theorem o21_52 {x0 : Int} {x1 : Nat} (h0 : strLen.getD x1 0 ≤ 102) (h1 : 0 ≤ x0) (h2 : x0 ≤ 102) (h3 : x0 = ((strLen.getD x1 0 : Nat) : Int)) : 0 ≤ x0 := by omega
theorem o21_53 {x0 : Int} {x1 : Nat} (h0 : strLen.getD x1 0 ≤ 102) (h1 : 0 ≤ x0) (h2 : x0 ≤ 102) (h3 : x0 = ((strLen.getD x1 0 : Nat) : Int)) : x0 ≤ 102 := by omega
set_option maxHeartbeats 4000000 in
set_option maxRecDepth 100000 in
theorem c_J0_coder_7d493 {S : Sp} (l : Launch) (G : GG) (Z : RZ) (ad : Nat → Nat) (ws0 : va_W) (hT : Ty G S ad ws0) (k0 : Nat) (hsk0 : k0 < 23) : Mq l yJ0_coder_7d493 cJ0_coder_7d493 1 (some .byte) 1 G Z [.ref (Z.2.1 k0)] ws0 (PI G S ad [] ws0 (fun r u => (0 ≤ r.toInt) ∧ (r.toInt ≤ 0))) := by
  refine Mq.start (by decide) (Nat.le_of_ble_eq_true rfl) ?_
  intro p e s m below meth c A ls C0 hZ h hl
  have hl : lv_has ls 1 [(0, .ref (Z.2.1 k0))] := hl
  have h : Wt G S ad A s s.heap [] ws0 := ⟨h, hT⟩
  obtain ⟨args, hargs⟩ : ∃ z, z = ([.ref (Z.2.1 k0)] : List Value).toArray := ⟨_, rfl⟩
  rw [← hargs] at C0 ⊢
  have C0 : Cx p s m args meth c RJ0 cJ0_coder_7d493 1 (some .byte) := C0
  obtain ⟨Q, hQ⟩ : ∃ z, z = MQ below ((PI G S ad [] ws0 (fun r u => (0 ≤ r.toInt) ∧ (r.toInt ≤ 0))) A) args s 0 0 A := ⟨_, rfl⟩
  rw [← hQ]
  refine y_scmp C0 hZ h q_643 dJ0_coder_7d493_0 (fun v_1 e_2 => ?_)
  refine y_if_eq (tgt := 13) C0 dJ0_coder_7d493_3 (by decide) (fun c_3 => ((o21_1 e_2 c_3)).elim) (fun c_3 => ?_)
  refine lv_aload_n C0.1 C0.2.1 dJ0_coder_7d493_6 rfl (lv_at hl 0 rfl) ?_
  refine y_scod C0 hZ h hsk0 q_2070 dJ0_coder_7d493_7 (fun v_4 e_5 => ?_)
  refine lv_goto (tgt := 14) C0.1 C0.2.1 dJ0_coder_7d493_10 (by decide) ?_
  rw [hQ]
  exact y_bret C0 h (o21_4 e_5) (o21_5 e_5) Fr.rf ⟨(o21_2 e_5), (o21_3 e_5)⟩ dJ0_coder_7d493_14
set_option maxHeartbeats 4000000 in
set_option maxRecDepth 100000 in
theorem c_J0_isLatin1_aae02 {S : Sp} (l : Launch) (G : GG) (Z : RZ) (ad : Nat → Nat) (ws0 : va_W) (hT : Ty G S ad ws0) (k0 : Nat) (hsk0 : k0 < 23) : Mq l yJ0_isLatin1_aae02 cJ0_isLatin1_aae02 1 (some .boolean) 1 G Z [.ref (Z.2.1 k0)] ws0 (PI G S ad [] ws0 (fun r u => (1 ≤ r.toInt) ∧ (r.toInt ≤ 1))) := by
  refine Mq.start (by decide) (Nat.le_of_ble_eq_true rfl) ?_
  intro p e s m below meth c A ls C0 hZ h hl
  have hl : lv_has ls 1 [(0, .ref (Z.2.1 k0))] := hl
  have h : Wt G S ad A s s.heap [] ws0 := ⟨h, hT⟩
  obtain ⟨args, hargs⟩ : ∃ z, z = ([.ref (Z.2.1 k0)] : List Value).toArray := ⟨_, rfl⟩
  rw [← hargs] at C0 ⊢
  have C0 : Cx p s m args meth c RJ0 cJ0_isLatin1_aae02 1 (some .boolean) := C0
  obtain ⟨Q, hQ⟩ : ∃ z, z = MQ below ((PI G S ad [] ws0 (fun r u => (1 ≤ r.toInt) ∧ (r.toInt ≤ 1))) A) args s 0 0 A := ⟨_, rfl⟩
  rw [← hQ]
  refine y_scmp C0 hZ h q_643 dJ0_isLatin1_aae02_0 (fun v_1 e_2 => ?_)
  refine y_if_eq (tgt := 17) C0 dJ0_isLatin1_aae02_3 (by decide) (fun c_3 => ((o21_1 e_2 c_3)).elim) (fun c_3 => ?_)
  refine lv_aload_n C0.1 C0.2.1 dJ0_isLatin1_aae02_6 rfl (lv_at hl 0 rfl) ?_
  refine y_scod C0 hZ h hsk0 q_2070 dJ0_isLatin1_aae02_7 (fun v_4 e_5 => ?_)
  refine y_if_ne (tgt := 17) C0 dJ0_isLatin1_aae02_10 (by decide) (fun c_6 => ((o21_6 e_5 c_6)).elim) (fun c_6 => ?_)
  refine y_c1 (n := 1) C0 (by decide) dJ0_isLatin1_aae02_13 (fun v_7 e_8 => ?_)
  refine lv_goto (tgt := 18) C0.1 C0.2.1 dJ0_isLatin1_aae02_14 (by decide) ?_
  rw [hQ]
  exact y_zret C0 h (o21_9 e_8) (o21_8 e_8) Fr.rf ⟨(o21_7 e_8), (o21_8 e_8)⟩ dJ0_isLatin1_aae02_18
set_option maxHeartbeats 4000000 in
set_option maxRecDepth 100000 in
theorem c_J0_length_8abf5 {S : Sp} (l : Launch) (G : GG) (Z : RZ) (ad : Nat → Nat) (ws0 : va_W) (hT : Ty G S ad ws0) (k0 : Nat) (hsk0 : k0 < 23) : Mq l yJ0_length_8abf5 cJ0_length_8abf5 1 (some .int) 2 G Z [.ref (Z.2.1 k0)] ws0 (PI G S ad [] ws0 (fun r u => (0 ≤ r.toInt) ∧ (r.toInt ≤ 102) ∧ (r.toInt = ((strLen.getD k0 0 : Nat) : Int)))) := by
  refine Mq.start (by decide) (Nat.le_of_ble_eq_true rfl) ?_
  intro p e s m below meth c A ls C0 hZ h hl
  have hl : lv_has ls 1 [(0, .ref (Z.2.1 k0))] := hl
  have h : Wt G S ad A s s.heap [] ws0 := ⟨h, hT⟩
  obtain ⟨args, hargs⟩ : ∃ z, z = ([.ref (Z.2.1 k0)] : List Value).toArray := ⟨_, rfl⟩
  rw [← hargs] at C0 ⊢
  have C0 : Cx p s m args meth c RJ0 cJ0_length_8abf5 1 (some .int) := C0
  obtain ⟨Q, hQ⟩ : ∃ z, z = MQ below ((PI G S ad [] ws0 (fun r u => (0 ≤ r.toInt) ∧ (r.toInt ≤ 102) ∧ (r.toInt = ((strLen.getD k0 0 : Nat) : Int)))) A) args s 0 0 A := ⟨_, rfl⟩
  rw [← hQ]
  refine lv_aload_n C0.1 C0.2.1 dJ0_length_8abf5_0 rfl (lv_at hl 0 rfl) ?_
  refine y_sval C0 hZ h hsk0 q_2071 dJ0_length_8abf5_1 ?_
  refine y_tlen C0 hZ h hsk0 dJ0_length_8abf5_4 (fun v_1 e_2 => ?_)
  refine lv_aload_n C0.1 C0.2.1 dJ0_length_8abf5_5 rfl (lv_at hl 0 rfl) ?_
  refine y_ci h (y_rT (As := []) (rest := [.int v_1]) C0 hZ h (c_J0_coder_7d493 l G Z ad _ h.2 k0 hsk0) k_J0_coder_7d493 q_650 q_651 q_649 hsk0 rfl hl.1 rfl rfl (Nat.le_of_ble_eq_true rfl) dJ0_length_8abf5_6 ⟨Nat.le_of_ble_eq_true rfl, Nat.le_of_ble_eq_true rfl⟩ ⟨Nat.le_of_ble_eq_true rfl, Nat.le_of_ble_eq_true rfl⟩) (fun r_6 H locs ws_3 h u_4 p_5 => ?_)
  obtain ⟨e_7, e_8⟩ := p_5
  refine y_shr 0 0 (n := 1) C0 (Eq.trans (o21_10 e_7 e_8) (by decide)) (by decide) (by decide) dJ0_length_8abf5_9 (fun v_9 e_10 => ?_)
  rw [hQ]
  exact y_iret C0 h u_4 ⟨(o21_11 (strLen_le k0) e_2 e_10), (o21_12 (strLen_le k0) e_2 e_10), (o21_13 (strLen_le k0) e_2 e_10)⟩ dJ0_length_8abf5_10
set_option maxHeartbeats 4000000 in
set_option maxRecDepth 100000 in
theorem c_J3_checkIndex_8e157n {S : Sp} (l : Launch) (G : GG) (Z : RZ) (ad : Nat → Nat) (ws0 : va_W) (hT : Ty G S ad ws0) (a0 : Int32) (a1 : Int32) (pre0 : 0 ≤ a0.toInt) (pre1 : a0.toInt < a1.toInt) : Mq l yJ3_checkIndex_8e157 cJ3_checkIndex_8e157 3 (some .int) 1 G Z [.int a0, .int a1, .null] ws0 (PI G S ad [] ws0 (fun r u => (0 ≤ r.toInt) ∧ (r.toInt ≤ 2147483646))) := by
  refine Mq.start (by decide) (Nat.le_of_ble_eq_true rfl) ?_
  intro p e s m below meth c A ls C0 hZ h hl
  have hl : lv_has ls 3 [(0, .int a0), (1, .int a1), (2, .null)] := hl
  have h : Wt G S ad A s s.heap [] ws0 := ⟨h, hT⟩
  obtain ⟨args, hargs⟩ : ∃ z, z = ([.int a0, .int a1, .null] : List Value).toArray := ⟨_, rfl⟩
  rw [← hargs] at C0 ⊢
  have C0 : Cx p s m args meth c RJ3 cJ3_checkIndex_8e157 3 (some .int) := C0
  obtain ⟨Q, hQ⟩ : ∃ z, z = MQ below ((PI G S ad [] ws0 (fun r u => (0 ≤ r.toInt) ∧ (r.toInt ≤ 2147483646))) A) args s 0 0 A := ⟨_, rfl⟩
  rw [← hQ]
  refine lv_iload_n C0.1 C0.2.1 dJ3_checkIndex_8e157_0 rfl (lv_at hl 0 rfl) ?_
  refine y_if_lt (tgt := 9) C0 dJ3_checkIndex_8e157_1 (by decide) (fun c_1 => ((o21_14 pre0 pre1 c_1)).elim) (fun c_1 => ?_)
  refine lv_iload_n C0.1 C0.2.1 dJ3_checkIndex_8e157_4 rfl (lv_at hl 0 rfl) ?_
  refine lv_iload_n C0.1 C0.2.1 dJ3_checkIndex_8e157_5 rfl (lv_at hl 1 rfl) ?_
  refine y_icmp_lt (tgt := 16) C0 dJ3_checkIndex_8e157_6 (by decide) (fun c_2 => ?_) (fun c_2 => ((o21_15 pre0 pre1 c_2)).elim)
  refine lv_iload_n C0.1 C0.2.1 dJ3_checkIndex_8e157_16 rfl (lv_at hl 0 rfl) ?_
  rw [hQ]
  exact y_iret C0 h Fr.rf ⟨(o21_16 pre0 pre1), (o21_17 pre0 pre1 (le_min a0) (le_max a0) (le_min a1) (le_max a1))⟩ dJ3_checkIndex_8e157_17
set_option maxHeartbeats 4000000 in
set_option maxRecDepth 100000 in
theorem c_J3_checkIndex_8e157r {S : Sp} (l : Launch) (G : GG) (Z : RZ) (ad : Nat → Nat) (ws0 : va_W) (hT : Ty G S ad ws0) (a0 : Int32) (a1 : Int32) (a2 : Nat) (pre0 : 0 ≤ a0.toInt) (pre1 : a0.toInt < a1.toInt) : Mq l yJ3_checkIndex_8e157 cJ3_checkIndex_8e157 3 (some .int) 1 G Z [.int a0, .int a1, .ref a2] ws0 (PI G S ad [] ws0 (fun r u => (0 ≤ r.toInt) ∧ (r.toInt ≤ 2147483646))) := by
  refine Mq.start (by decide) (Nat.le_of_ble_eq_true rfl) ?_
  intro p e s m below meth c A ls C0 hZ h hl
  have hl : lv_has ls 3 [(0, .int a0), (1, .int a1), (2, .ref a2)] := hl
  have h : Wt G S ad A s s.heap [] ws0 := ⟨h, hT⟩
  obtain ⟨args, hargs⟩ : ∃ z, z = ([.int a0, .int a1, .ref a2] : List Value).toArray := ⟨_, rfl⟩
  rw [← hargs] at C0 ⊢
  have C0 : Cx p s m args meth c RJ3 cJ3_checkIndex_8e157 3 (some .int) := C0
  obtain ⟨Q, hQ⟩ : ∃ z, z = MQ below ((PI G S ad [] ws0 (fun r u => (0 ≤ r.toInt) ∧ (r.toInt ≤ 2147483646))) A) args s 0 0 A := ⟨_, rfl⟩
  rw [← hQ]
  refine lv_iload_n C0.1 C0.2.1 dJ3_checkIndex_8e157_0 rfl (lv_at hl 0 rfl) ?_
  refine y_if_lt (tgt := 9) C0 dJ3_checkIndex_8e157_1 (by decide) (fun c_1 => ((o21_14 pre0 pre1 c_1)).elim) (fun c_1 => ?_)
  refine lv_iload_n C0.1 C0.2.1 dJ3_checkIndex_8e157_4 rfl (lv_at hl 0 rfl) ?_
  refine lv_iload_n C0.1 C0.2.1 dJ3_checkIndex_8e157_5 rfl (lv_at hl 1 rfl) ?_
  refine y_icmp_lt (tgt := 16) C0 dJ3_checkIndex_8e157_6 (by decide) (fun c_2 => ?_) (fun c_2 => ((o21_15 pre0 pre1 c_2)).elim)
  refine lv_iload_n C0.1 C0.2.1 dJ3_checkIndex_8e157_16 rfl (lv_at hl 0 rfl) ?_
  rw [hQ]
  exact y_iret C0 h Fr.rf ⟨(o21_16 pre0 pre1), (o21_17 pre0 pre1 (le_min a0) (le_max a0) (le_min a1) (le_max a1))⟩ dJ3_checkIndex_8e157_17
set_option maxHeartbeats 4000000 in
set_option maxRecDepth 100000 in
theorem c_J0_checkIndex_df160 {S : Sp} (l : Launch) (G : GG) (Z : RZ) (ad : Nat → Nat) (ws0 : va_W) (hT : Ty G S ad ws0) (a0 : Int32) (a1 : Int32) (pre0 : 0 ≤ a0.toInt) (pre1 : a0.toInt < a1.toInt) : Mq l yJ0_checkIndex_df160 cJ0_checkIndex_df160 2 none 2 G Z [.int a0, .int a1] ws0 (PV G S ad [] ws0 (fun u => True)) := by
  refine Mq.start (by decide) (Nat.le_of_ble_eq_true rfl) ?_
  intro p e s m below meth c A ls C0 hZ h hl
  have hl : lv_has ls 2 [(0, .int a0), (1, .int a1)] := hl
  have h : Wt G S ad A s s.heap [] ws0 := ⟨h, hT⟩
  obtain ⟨args, hargs⟩ : ∃ z, z = ([.int a0, .int a1] : List Value).toArray := ⟨_, rfl⟩
  rw [← hargs] at C0 ⊢
  have C0 : Cx p s m args meth c RJ0 cJ0_checkIndex_df160 2 none := C0
  obtain ⟨Q, hQ⟩ : ∃ z, z = MQ below ((PV G S ad [] ws0 (fun u => True)) A) args s 0 0 A := ⟨_, rfl⟩
  rw [← hQ]
  refine lv_iload_n C0.1 C0.2.1 dJ0_checkIndex_df160_0 rfl (lv_at hl 0 rfl) ?_
  refine lv_iload_n C0.1 C0.2.1 dJ0_checkIndex_df160_1 rfl (lv_at hl 1 rfl) ?_
  refine y_sfmt C0 hZ h q_686 dJ0_checkIndex_df160_2 ?_ (fun t_1 => ?_)
  · -- the formatter
    refine y_ci h (y_rS (As := [.int a0, .int a1, .null]) (rest := []) C0 hZ h (c_J3_checkIndex_8e157n l G Z ad _ h.2 a0 a1 (o21_16 pre0 pre1) (o21_18 pre0 pre1)) k_J3_checkIndex_8e157 q_738 q_737 hl.1 rfl rfl (Nat.le_of_ble_eq_true rfl) dJ0_checkIndex_df160_5 ⟨Nat.le_of_ble_eq_true rfl, Nat.le_of_ble_eq_true rfl⟩ ⟨Nat.le_of_ble_eq_true rfl, Nat.le_of_ble_eq_true rfl⟩) (fun r_5 H locs ws_2 h u_3 p_4 => ?_)
    obtain ⟨e_6, e_7⟩ := p_4
    refine lv_pop C0.1 C0.2.1 dJ0_checkIndex_df160_8 rfl ?_
    rw [hQ]
    exact y_vret C0 h u_3 trivial dJ0_checkIndex_df160_9
  · -- the formatter
    refine y_ci h (y_rS (As := [.int a0, .int a1, .ref t_1]) (rest := []) C0 hZ h (c_J3_checkIndex_8e157r l G Z ad _ h.2 a0 a1 t_1 (o21_16 pre0 pre1) (o21_18 pre0 pre1)) k_J3_checkIndex_8e157 q_738 q_737 hl.1 rfl rfl (Nat.le_of_ble_eq_true rfl) dJ0_checkIndex_df160_5 ⟨Nat.le_of_ble_eq_true rfl, Nat.le_of_ble_eq_true rfl⟩ ⟨Nat.le_of_ble_eq_true rfl, Nat.le_of_ble_eq_true rfl⟩) (fun r_11 H locs ws_8 h u_9 p_10 => ?_)
    obtain ⟨e_12, e_13⟩ := p_10
    refine lv_pop C0.1 C0.2.1 dJ0_checkIndex_df160_8 rfl ?_
    rw [hQ]
    exact y_vret C0 h u_9 trivial dJ0_checkIndex_df160_9
set_option maxHeartbeats 4000000 in
set_option maxRecDepth 100000 in
theorem c_J1_charAt_3b067 {S : Sp} (l : Launch) (G : GG) (Z : RZ) (ad : Nat → Nat) (ws0 : va_W) (hT : Ty G S ad ws0) (k0 : Nat) (hsk0 : k0 < 23) (a1 : Int32) (pre0 : 0 ≤ a1.toInt) (pre1 : a1.toInt < ((strLen.getD k0 0 : Nat) : Int)) : Mq l yJ1_charAt_3b067 cJ1_charAt_3b067 2 (some .char) 3 G Z [.ref (Z.2.2 k0), .int a1] ws0 (PI G S ad [] ws0 (fun r u => (0 ≤ r.toInt) ∧ (r.toInt ≤ 65535))) := by
  refine Mq.start (by decide) (Nat.le_of_ble_eq_true rfl) ?_
  intro p e s m below meth c A ls C0 hZ h hl
  have hl : lv_has ls 2 [(0, .ref (Z.2.2 k0)), (1, .int a1)] := hl
  have h : Wt G S ad A s s.heap [] ws0 := ⟨h, hT⟩
  obtain ⟨args, hargs⟩ : ∃ z, z = ([.ref (Z.2.2 k0), .int a1] : List Value).toArray := ⟨_, rfl⟩
  rw [← hargs] at C0 ⊢
  have C0 : Cx p s m args meth c RJ1 cJ1_charAt_3b067 2 (some .char) := C0
  obtain ⟨Q, hQ⟩ : ∃ z, z = MQ below ((PI G S ad [] ws0 (fun r u => (0 ≤ r.toInt) ∧ (r.toInt ≤ 65535))) A) args s 0 0 A := ⟨_, rfl⟩
  rw [← hQ]
  refine lv_iload_n C0.1 C0.2.1 dJ1_charAt_3b067_0 rfl (lv_at hl 1 rfl) ?_
  refine lv_aload_n C0.1 C0.2.1 dJ1_charAt_3b067_1 rfl (lv_at hl 0 rfl) ?_
  refine y_tlen C0 hZ h hsk0 dJ1_charAt_3b067_2 (fun v_1 e_2 => ?_)
  refine y_cv h (y_rS (As := [.int a1, .int v_1]) (rest := []) C0 hZ h (c_J0_checkIndex_df160 l G Z ad _ h.2 a1 v_1 (o21_19 (strLen_le k0) pre0 pre1 e_2) (o21_20 (strLen_le k0) pre0 pre1 e_2)) k_J0_checkIndex_df160 q_735 q_734 hl.1 rfl rfl (Nat.le_of_ble_eq_true rfl) dJ1_charAt_3b067_3 ⟨Nat.le_of_ble_eq_true rfl, Nat.le_of_ble_eq_true rfl⟩ ⟨Nat.le_of_ble_eq_true rfl, Nat.le_of_ble_eq_true rfl⟩) (fun H locs ws_3 h u_4 p_5 => ?_)
  refine lv_aload_n C0.1 C0.2.1 dJ1_charAt_3b067_6 rfl (lv_at hl 0 rfl) ?_
  refine lv_iload_n C0.1 C0.2.1 dJ1_charAt_3b067_7 rfl (lv_at hl 1 rfl) ?_
  refine y_tbld C0 hZ h hsk0 (o21_19 (strLen_le k0) pre0 pre1 e_2) (o21_21 (strLen_le k0) pre0 pre1 e_2) dJ1_charAt_3b067_8 (fun v_6 e_7 => ?_)
  refine y_c3 (n := 255) C0 (by decide) dJ1_charAt_3b067_9 (fun v_8 e_9 => ?_)
  refine y_and 255 8 (n := 255) C0 (Eq.trans (o21_22 e_9) (by decide)) (by decide) (by decide) (by decide) dJ1_charAt_3b067_12 (fun v_10 e_11 e_12 => ?_)
  refine y_i2c C0 dJ1_charAt_3b067_13 (fun v_13 e_14 e_15 => ?_)
  rw [hQ]
  exact y_cret C0 h (o21_23 e_14 e_15) (o21_24 e_14 e_15) u_4 ⟨(o21_23 e_14 e_15), (o21_24 e_14 e_15)⟩ dJ1_charAt_3b067_14
set_option maxHeartbeats 4000000 in
set_option maxRecDepth 100000 in
theorem c_J0_charAt_5068e {S : Sp} (l : Launch) (G : GG) (Z : RZ) (ad : Nat → Nat) (ws0 : va_W) (hT : Ty G S ad ws0) (k0 : Nat) (hsk0 : k0 < 23) (a1 : Int32) (pre0 : 0 ≤ a1.toInt) (pre1 : a1.toInt < ((strLen.getD k0 0 : Nat) : Int)) : Mq l yJ0_charAt_5068e cJ0_charAt_5068e 2 (some .char) 4 G Z [.ref (Z.2.1 k0), .int a1] ws0 (PI G S ad [] ws0 (fun r u => (0 ≤ r.toInt) ∧ (r.toInt ≤ 65535))) := by
  refine Mq.start (by decide) (Nat.le_of_ble_eq_true rfl) ?_
  intro p e s m below meth c A ls C0 hZ h hl
  have hl : lv_has ls 2 [(0, .ref (Z.2.1 k0)), (1, .int a1)] := hl
  have h : Wt G S ad A s s.heap [] ws0 := ⟨h, hT⟩
  obtain ⟨args, hargs⟩ : ∃ z, z = ([.ref (Z.2.1 k0), .int a1] : List Value).toArray := ⟨_, rfl⟩
  rw [← hargs] at C0 ⊢
  have C0 : Cx p s m args meth c RJ0 cJ0_charAt_5068e 2 (some .char) := C0
  obtain ⟨Q, hQ⟩ : ∃ z, z = MQ below ((PI G S ad [] ws0 (fun r u => (0 ≤ r.toInt) ∧ (r.toInt ≤ 65535))) A) args s 0 0 A := ⟨_, rfl⟩
  rw [← hQ]
  refine lv_aload_n C0.1 C0.2.1 dJ0_charAt_5068e_0 rfl (lv_at hl 0 rfl) ?_
  refine y_ci h (y_rT (As := []) (rest := []) C0 hZ h (c_J0_isLatin1_aae02 l G Z ad _ h.2 k0 hsk0) k_J0_isLatin1_aae02 q_640 q_641 q_639 hsk0 rfl hl.1 rfl rfl (Nat.le_of_ble_eq_true rfl) dJ0_charAt_5068e_1 ⟨Nat.le_of_ble_eq_true rfl, Nat.le_of_ble_eq_true rfl⟩ ⟨Nat.le_of_ble_eq_true rfl, Nat.le_of_ble_eq_true rfl⟩) (fun r_4 H locs ws_1 h u_2 p_3 => ?_)
  obtain ⟨e_5, e_6⟩ := p_3
  refine y_if_eq (tgt := 16) C0 dJ0_charAt_5068e_4 (by decide) (fun c_7 => ((o21_25 e_5 e_6 c_7)).elim) (fun c_7 => ?_)
  refine lv_aload_n C0.1 C0.2.1 dJ0_charAt_5068e_7 rfl (lv_at hl 0 rfl) ?_
  refine y_sval C0 hZ h hsk0 q_2071 dJ0_charAt_5068e_8 ?_
  refine lv_iload_n C0.1 C0.2.1 dJ0_charAt_5068e_11 rfl (lv_at hl 1 rfl) ?_
  refine y_ci h (y_rS (As := [.ref (Z.2.2 k0), .int a1]) (rest := []) C0 hZ h (c_J1_charAt_3b067 l G Z ad _ h.2 k0 hsk0 a1 (o21_26 (strLen_le k0) pre0 pre1) (o21_27 (strLen_le k0) pre0 pre1)) k_J1_charAt_3b067 q_732 q_731 hl.1 rfl rfl (Nat.le_of_ble_eq_true rfl) dJ0_charAt_5068e_12 ⟨Nat.le_of_ble_eq_true rfl, Nat.le_of_ble_eq_true rfl⟩ ⟨Nat.le_of_ble_eq_true rfl, Nat.le_of_ble_eq_true rfl⟩) (fun r_11 H locs ws_8 h u_9 p_10 => ?_)
  obtain ⟨e_12, e_13⟩ := p_10
  rw [hQ]
  exact y_cret C0 h (o21_23 e_12 e_13) (o21_24 e_12 e_13) (Fr.tr u_2 u_9) ⟨(o21_23 e_12 e_13), (o21_24 e_12 e_13)⟩ dJ0_charAt_5068e_15
set_option maxHeartbeats 4000000 in
set_option maxRecDepth 100000 in
theorem c_J1_canEncode_9a6ad {S : Sp} (l : Launch) (G : GG) (Z : RZ) (ad : Nat → Nat) (ws0 : va_W) (hT : Ty G S ad ws0) (a0 : Int32) : Mq l yJ1_canEncode_9a6ad cJ1_canEncode_9a6ad 1 (some .boolean) 1 G Z [.int a0] ws0 (PI G S ad [] ws0 (fun r u => (0 ≤ r.toInt) ∧ (r.toInt ≤ 1))) := by
  refine Mq.start (by decide) (Nat.le_of_ble_eq_true rfl) ?_
  intro p e s m below meth c A ls C0 hZ h hl
  have hl : lv_has ls 1 [(0, .int a0)] := hl
  have h : Wt G S ad A s s.heap [] ws0 := ⟨h, hT⟩
  obtain ⟨args, hargs⟩ : ∃ z, z = ([.int a0] : List Value).toArray := ⟨_, rfl⟩
  rw [← hargs] at C0 ⊢
  have C0 : Cx p s m args meth c RJ1 cJ1_canEncode_9a6ad 1 (some .boolean) := C0
  obtain ⟨Q, hQ⟩ : ∃ z, z = MQ below ((PI G S ad [] ws0 (fun r u => (0 ≤ r.toInt) ∧ (r.toInt ≤ 1))) A) args s 0 0 A := ⟨_, rfl⟩
  rw [← hQ]
  refine lv_iload_n C0.1 C0.2.1 dJ1_canEncode_9a6ad_0 rfl (lv_at hl 0 rfl) ?_
  refine y_if_lt (tgt := 15) C0 dJ1_canEncode_9a6ad_1 (by decide) (fun c_1 => ?_) (fun c_1 => ?_)
  · -- 1
    refine y_c1 (n := 0) C0 (by decide) dJ1_canEncode_9a6ad_15 (fun v_2 e_3 => ?_)
    rw [hQ]
    exact y_zret C0 h (o21_2 e_3) (o21_28 e_3) Fr.rf ⟨(o21_2 e_3), (o21_28 e_3)⟩ dJ1_canEncode_9a6ad_16
  · -- 1
    refine lv_iload_n C0.1 C0.2.1 dJ1_canEncode_9a6ad_4 rfl (lv_at hl 0 rfl) ?_
    refine y_c3 (n := 255) C0 (by decide) dJ1_canEncode_9a6ad_5 (fun v_4 e_5 => ?_)
    refine y_icmp_gt (tgt := 15) C0 dJ1_canEncode_9a6ad_8 (by decide) (fun c_6 => ?_) (fun c_6 => ?_)
    · -- 8
      refine y_c1 (n := 0) C0 (by decide) dJ1_canEncode_9a6ad_15 (fun v_7 e_8 => ?_)
      rw [hQ]
      exact y_zret C0 h (o21_2 e_8) (o21_28 e_8) Fr.rf ⟨(o21_2 e_8), (o21_28 e_8)⟩ dJ1_canEncode_9a6ad_16
    · -- 8
      refine y_c1 (n := 1) C0 (by decide) dJ1_canEncode_9a6ad_11 (fun v_9 e_10 => ?_)
      refine lv_goto (tgt := 16) C0.1 C0.2.1 dJ1_canEncode_9a6ad_12 (by decide) ?_
      rw [hQ]
      exact y_zret C0 h (o21_9 e_10) (o21_8 e_10) Fr.rf ⟨(o21_9 e_10), (o21_8 e_10)⟩ dJ1_canEncode_9a6ad_16
set_option maxHeartbeats 4000000 in
set_option maxRecDepth 100000 in
theorem c_J1_indexOfChar_4cfef {S : Sp} (l : Launch) (G : GG) (Z : RZ) (ad : Nat → Nat) (ws0 : va_W) (hT : Ty G S ad ws0) (k0 : Nat) (hsk0 : k0 < 23) (a1 : Int32) (a2 : Int32) (a3 : Int32) (l2 : 0 ≤ a2.toInt) (u2 : a2.toInt ≤ 0) (l3 : 0 ≤ a3.toInt) (u3 : a3.toInt ≤ 102) (pre0 : a3.toInt ≤ ((strLen.getD k0 0 : Nat) : Int)) : Mq l yJ1_indexOfChar_4cfef cJ1_indexOfChar_4cfef 6 (some .int) 1 G Z [.ref (Z.2.2 k0), .int a1, .int a2, .int a3] ws0 (PI G S ad [] ws0 (fun r u => ((-1) ≤ r.toInt) ∧ (r.toInt ≤ 102))) := by
  refine Mq.start (by decide) (Nat.le_of_ble_eq_true rfl) ?_
  intro p e s m below meth c A ls C0 hZ h hl
  have hl : lv_has ls 6 [(0, .ref (Z.2.2 k0)), (1, .int a1), (2, .int a2), (3, .int a3)] := hl
  have h : Wt G S ad A s s.heap [] ws0 := ⟨h, hT⟩
  obtain ⟨args, hargs⟩ : ∃ z, z = ([.ref (Z.2.2 k0), .int a1, .int a2, .int a3] : List Value).toArray := ⟨_, rfl⟩
  rw [← hargs] at C0 ⊢
  have C0 : Cx p s m args meth c RJ1 cJ1_indexOfChar_4cfef 6 (some .int) := C0
  obtain ⟨Q, hQ⟩ : ∃ z, z = MQ below ((PI G S ad [] ws0 (fun r u => ((-1) ≤ r.toInt) ∧ (r.toInt ≤ 102))) A) args s 0 0 A := ⟨_, rfl⟩
  rw [← hQ]
  refine lv_iload_n C0.1 C0.2.1 dJ1_indexOfChar_4cfef_0 rfl (lv_at hl 1 rfl) ?_
  refine y_i2b C0 dJ1_indexOfChar_4cfef_1 (fun v_1 e_2 e_3 => ?_)
  refine lv_istore (lv' := [(4, .int v_1), (0, .ref (Z.2.2 k0)), (1, .int a1), (2, .int a2), (3, .int a3)]) C0.1 C0.2.1 dJ1_indexOfChar_4cfef_2 hl (by decide) rfl (fun ls hl => ?_)
  refine lv_iload_n C0.1 C0.2.1 dJ1_indexOfChar_4cfef_4 rfl (lv_at hl 3 rfl) ?_
  refine lv_istore (lv' := [(5, .int a2), (4, .int v_1), (0, .ref (Z.2.2 k0)), (1, .int a1), (2, .int a2), (3, .int a3)]) C0.1 C0.2.1 dJ1_indexOfChar_4cfef_5 hl (by decide) rfl (fun ls hl => ?_)
  have lp_7 : ∀ (n_9 : Nat) (x5_4 : Int32) (H : Heap) (locs : List Loc) (ls : Array Slot) (ws_5 : va_W), 102 - x5_4.toInt < (n_9 : Int) → 0 ≤ x5_4.toInt → x5_4.toInt ≤ 102 → Wt G S ad A s H locs ws_5 → Fr S [] ws0 ws_5 → lv_has ls 6 [(5, .int x5_4), (4, .int v_1), (0, .ref (Z.2.2 k0)), (1, .int a1), (2, .int a2), (3, .int a3)] → W p l e (rmd 1 0 0) s m args below meth c H locs 0 0 Q (F0 m 7 ls []) := by
    intro n_9
    induction n_9 with
    | zero => intro x5_4 H locs ls ws_5 hn_10 b_11 b_12 h hF_6 hl; exact ((o21_29 b_11 b_12 hn_10)).elim
    | succ n_9 ih_8 =>
      intro x5_4 H locs ls ws_5 hn_10 b_11 b_12 h hF_6 hl
      refine lv_iload C0.1 C0.2.1 dJ1_indexOfChar_4cfef_7 (lv_at hl 0 rfl) ?_
      refine lv_iload_n C0.1 C0.2.1 dJ1_indexOfChar_4cfef_9 rfl (lv_at hl 5 rfl) ?_
      refine y_icmp_ge (tgt := 31) C0 dJ1_indexOfChar_4cfef_10 (by decide) (fun c_13 => ?_) (fun c_13 => ?_)
      · -- 10
        refine y_c1 (n := (-1)) C0 (by decide) dJ1_indexOfChar_4cfef_31 (fun v_14 e_15 => ?_)
        rw [hQ]
        exact y_iret C0 h hF_6 ⟨(o21_30 e_15), (o21_31 e_15)⟩ dJ1_indexOfChar_4cfef_32
      · -- 10
        refine lv_aload_n C0.1 C0.2.1 dJ1_indexOfChar_4cfef_13 rfl (lv_at hl 2 rfl) ?_
        refine lv_iload C0.1 C0.2.1 dJ1_indexOfChar_4cfef_14 (lv_at hl 0 rfl) ?_
        refine y_tbld C0 hZ h hsk0 (o21_32 (strLen_le k0) l3 u3 pre0 b_11 b_12 hn_10 c_13) (o21_33 (strLen_le k0) l3 u3 pre0 b_11 b_12 hn_10 c_13) dJ1_indexOfChar_4cfef_16 (fun v_16 e_17 => ?_)
        refine lv_iload C0.1 C0.2.1 dJ1_indexOfChar_4cfef_17 (lv_at hl 1 rfl) ?_
        refine y_icmp_ne (tgt := 25) C0 dJ1_indexOfChar_4cfef_19 (by decide) (fun c_18 => ?_) (fun c_18 => ?_)
        · -- 19
          refine y_inc (kp := 0) (n := 1) (fun v_19 => [(5, .int v_19), (4, .int v_1), (0, .ref (Z.2.2 k0)), (1, .int a1), (2, .int a2), (3, .int a3)]) C0 hl rfl (by decide) (by decide) (fun _ => rfl) (o21_34 (strLen_le k0) l3 u3 pre0 b_11 b_12 hn_10 c_13 (le_min x5_4) (le_max x5_4) (le_min a3) (le_max a3)) (o21_35 (strLen_le k0) l3 u3 pre0 b_11 b_12 hn_10 c_13 (le_min x5_4) (le_max x5_4) (le_min a3) (le_max a3)) dJ1_indexOfChar_4cfef_25 (fun v_19 ls e_20 hl => ?_)
          refine lv_goto (tgt := 7) C0.1 C0.2.1 dJ1_indexOfChar_4cfef_28 (by decide) ?_
          exact ih_8 v_19 _ _ _ _ (o21_36 (strLen_le k0) l3 u3 pre0 b_11 b_12 hn_10 c_13 e_20) (o21_37 (strLen_le k0) l3 u3 pre0 b_11 b_12 hn_10 c_13 e_20) (o21_38 (strLen_le k0) l3 u3 pre0 b_11 b_12 hn_10 c_13 e_20) h hF_6 (lv_sub hl [0, 1, 2, 3, 4, 5] rfl)
        · -- 19
          refine lv_iload C0.1 C0.2.1 dJ1_indexOfChar_4cfef_22 (lv_at hl 0 rfl) ?_
          rw [hQ]
          exact y_iret C0 h hF_6 ⟨(o21_39 (strLen_le k0) l3 u3 pre0 b_11 b_12 hn_10 c_13), (o21_40 (strLen_le k0) l3 u3 pre0 b_11 b_12 hn_10 c_13)⟩ dJ1_indexOfChar_4cfef_24
  exact lp_7 ((102 - a2.toInt + 1).toNat) a2 _ _ _ _ (o21_41 l2 u2) (o21_42 l2 u2) (o21_43 l2 u2) h Fr.rf (lv_sub hl [0, 1, 2, 3, 4, 5] rfl)
set_option maxHeartbeats 4000000 in
set_option maxRecDepth 100000 in
theorem c_J1_indexOf_4cfef {S : Sp} (l : Launch) (G : GG) (Z : RZ) (ad : Nat → Nat) (ws0 : va_W) (hT : Ty G S ad ws0) (k0 : Nat) (hsk0 : k0 < 23) (a1 : Int32) (a2 : Int32) (a3 : Int32) (l2 : 0 ≤ a2.toInt) (u2 : a2.toInt ≤ 0) (l3 : 0 ≤ a3.toInt) (u3 : a3.toInt ≤ 102) : Mq l yJ1_indexOf_4cfef cJ1_indexOf_4cfef 4 (some .int) 2 G Z [.ref (Z.2.2 k0), .int a1, .int a2, .int a3] ws0 (PI G S ad [] ws0 (fun r u => ((-1) ≤ r.toInt) ∧ (r.toInt ≤ 102))) := by
  refine Mq.start (by decide) (Nat.le_of_ble_eq_true rfl) ?_
  intro p e s m below meth c A ls C0 hZ h hl
  have hl : lv_has ls 4 [(0, .ref (Z.2.2 k0)), (1, .int a1), (2, .int a2), (3, .int a3)] := hl
  have h : Wt G S ad A s s.heap [] ws0 := ⟨h, hT⟩
  obtain ⟨args, hargs⟩ : ∃ z, z = ([.ref (Z.2.2 k0), .int a1, .int a2, .int a3] : List Value).toArray := ⟨_, rfl⟩
  rw [← hargs] at C0 ⊢
  have C0 : Cx p s m args meth c RJ1 cJ1_indexOf_4cfef 4 (some .int) := C0
  obtain ⟨Q, hQ⟩ : ∃ z, z = MQ below ((PI G S ad [] ws0 (fun r u => ((-1) ≤ r.toInt) ∧ (r.toInt ≤ 102))) A) args s 0 0 A := ⟨_, rfl⟩
  rw [← hQ]
  refine lv_iload_n C0.1 C0.2.1 dJ1_indexOf_4cfef_0 rfl (lv_at hl 1 rfl) ?_
  refine y_ci h (y_rS (As := [.int a1]) (rest := []) C0 hZ h (c_J1_canEncode_9a6ad l G Z ad _ h.2 a1) k_J1_canEncode_9a6ad q_657 q_656 hl.1 rfl rfl (Nat.le_of_ble_eq_true rfl) dJ1_indexOf_4cfef_1 ⟨Nat.le_of_ble_eq_true rfl, Nat.le_of_ble_eq_true rfl⟩ ⟨Nat.le_of_ble_eq_true rfl, Nat.le_of_ble_eq_true rfl⟩) (fun r_4 H locs ws_1 h u_2 p_3 => ?_)
  obtain ⟨e_5, e_6⟩ := p_3
  refine y_if_ne (tgt := 9) C0 dJ1_indexOf_4cfef_4 (by decide) (fun c_7 => ?_) (fun c_7 => ?_)
  · -- 4
    refine lv_iload_n C0.1 C0.2.1 dJ1_indexOf_4cfef_9 rfl (lv_at hl 2 rfl) ?_
    refine y_c1 (n := 0) C0 (by decide) dJ1_indexOf_4cfef_10 (fun v_8 e_9 => ?_)
    refine y_max C0 hl.1 q_659 q_660 q_141 q_661 (Nat.le_of_ble_eq_true rfl) (Nat.le_of_ble_eq_true rfl) (Nat.le_of_ble_eq_true rfl) (Nat.le_of_ble_eq_true rfl) dJ1_indexOf_4cfef_11 (fun v_10 e_11 => ?_)
    refine lv_istore_n (lv' := [(2, .int v_10), (0, .ref (Z.2.2 k0)), (1, .int a1), (3, .int a3)]) C0.1 C0.2.1 dJ1_indexOf_4cfef_14 rfl hl (by decide) rfl (fun ls hl => ?_)
    refine lv_iload_n C0.1 C0.2.1 dJ1_indexOf_4cfef_15 rfl (lv_at hl 3 rfl) ?_
    refine lv_aload_n C0.1 C0.2.1 dJ1_indexOf_4cfef_16 rfl (lv_at hl 1 rfl) ?_
    refine y_tlen C0 hZ h hsk0 dJ1_indexOf_4cfef_17 (fun v_12 e_13 => ?_)
    refine y_min C0 hl.1 q_662 q_663 q_141 q_664 (Nat.le_of_ble_eq_true rfl) (Nat.le_of_ble_eq_true rfl) (Nat.le_of_ble_eq_true rfl) (Nat.le_of_ble_eq_true rfl) dJ1_indexOf_4cfef_18 (fun v_14 e_15 => ?_)
    refine lv_istore_n (lv' := [(3, .int v_14), (2, .int v_10), (0, .ref (Z.2.2 k0)), (1, .int a1)]) C0.1 C0.2.1 dJ1_indexOf_4cfef_21 rfl hl (by decide) rfl (fun ls hl => ?_)
    refine lv_iload_n C0.1 C0.2.1 dJ1_indexOf_4cfef_22 rfl (lv_at hl 1 rfl) ?_
    refine lv_iload_n C0.1 C0.2.1 dJ1_indexOf_4cfef_23 rfl (lv_at hl 0 rfl) ?_
    refine y_icmp_lt (tgt := 29) C0 dJ1_indexOf_4cfef_24 (by decide) (fun c_16 => ?_) (fun c_16 => ?_)
    · -- 24
      refine lv_aload_n C0.1 C0.2.1 dJ1_indexOf_4cfef_29 rfl (lv_at hl 2 rfl) ?_
      refine lv_iload_n C0.1 C0.2.1 dJ1_indexOf_4cfef_30 rfl (lv_at hl 3 rfl) ?_
      refine lv_iload_n C0.1 C0.2.1 dJ1_indexOf_4cfef_31 rfl (lv_at hl 1 rfl) ?_
      refine lv_iload_n C0.1 C0.2.1 dJ1_indexOf_4cfef_32 rfl (lv_at hl 0 rfl) ?_
      refine y_ci h (y_rS (As := [.ref (Z.2.2 k0), .int a1, .int v_10, .int v_14]) (rest := []) C0 hZ h (c_J1_indexOfChar_4cfef l G Z ad _ h.2 k0 hsk0 a1 v_10 v_14 (o21_44 (strLen_le k0) l2 u2 l3 u3 e_9 e_11 e_13 e_15 c_16) (o21_45 (strLen_le k0) l2 u2 l3 u3 e_9 e_11 e_13 e_15 c_16) (o21_46 (strLen_le k0) l2 u2 l3 u3 e_9 e_11 e_13 e_15 c_16) (o21_47 (strLen_le k0) l2 u2 l3 u3 e_9 e_11 e_13 e_15 c_16) (o21_48 (strLen_le k0) l2 u2 l3 u3 e_9 e_11 e_13 e_15 c_16)) k_J1_indexOfChar_4cfef q_666 q_665 hl.1 rfl rfl (Nat.le_of_ble_eq_true rfl) dJ1_indexOf_4cfef_33 ⟨Nat.le_of_ble_eq_true rfl, Nat.le_of_ble_eq_true rfl⟩ ⟨Nat.le_of_ble_eq_true rfl, Nat.le_of_ble_eq_true rfl⟩) (fun r_20 H locs ws_17 h u_18 p_19 => ?_)
      obtain ⟨e_21, e_22⟩ := p_19
      rw [hQ]
      exact y_iret C0 h (Fr.tr u_2 u_18) ⟨(o21_49 e_21 e_22), (o21_50 e_21 e_22)⟩ dJ1_indexOf_4cfef_36
    · -- 24
      refine y_c1 (n := (-1)) C0 (by decide) dJ1_indexOf_4cfef_27 (fun v_23 e_24 => ?_)
      rw [hQ]
      exact y_iret C0 h u_2 ⟨(o21_30 e_24), (o21_31 e_24)⟩ dJ1_indexOf_4cfef_28
  · -- 4
    refine y_c1 (n := (-1)) C0 (by decide) dJ1_indexOf_4cfef_7 (fun v_25 e_26 => ?_)
    rw [hQ]
    exact y_iret C0 h u_2 ⟨(o21_30 e_26), (o21_31 e_26)⟩ dJ1_indexOf_4cfef_8
set_option maxHeartbeats 4000000 in
set_option maxRecDepth 100000 in
theorem c_J0_indexOf_7cf53 {S : Sp} (l : Launch) (G : GG) (Z : RZ) (ad : Nat → Nat) (ws0 : va_W) (hT : Ty G S ad ws0) (k0 : Nat) (hsk0 : k0 < 23) (a1 : Int32) (a2 : Int32) (l2 : 0 ≤ a2.toInt) (u2 : a2.toInt ≤ 0) : Mq l yJ0_indexOf_7cf53 cJ0_indexOf_7cf53 3 (some .int) 3 G Z [.ref (Z.2.1 k0), .int a1, .int a2] ws0 (PI G S ad [] ws0 (fun r u => ((-1) ≤ r.toInt) ∧ (r.toInt ≤ 102))) := by
  refine Mq.start (by decide) (Nat.le_of_ble_eq_true rfl) ?_
  intro p e s m below meth c A ls C0 hZ h hl
  have hl : lv_has ls 3 [(0, .ref (Z.2.1 k0)), (1, .int a1), (2, .int a2)] := hl
  have h : Wt G S ad A s s.heap [] ws0 := ⟨h, hT⟩
  obtain ⟨args, hargs⟩ : ∃ z, z = ([.ref (Z.2.1 k0), .int a1, .int a2] : List Value).toArray := ⟨_, rfl⟩
  rw [← hargs] at C0 ⊢
  have C0 : Cx p s m args meth c RJ0 cJ0_indexOf_7cf53 3 (some .int) := C0
  obtain ⟨Q, hQ⟩ : ∃ z, z = MQ below ((PI G S ad [] ws0 (fun r u => ((-1) ≤ r.toInt) ∧ (r.toInt ≤ 102))) A) args s 0 0 A := ⟨_, rfl⟩
  rw [← hQ]
  refine lv_aload_n C0.1 C0.2.1 dJ0_indexOf_7cf53_0 rfl (lv_at hl 0 rfl) ?_
  refine y_ci h (y_rT (As := []) (rest := []) C0 hZ h (c_J0_isLatin1_aae02 l G Z ad _ h.2 k0 hsk0) k_J0_isLatin1_aae02 q_640 q_641 q_639 hsk0 rfl hl.1 rfl rfl (Nat.le_of_ble_eq_true rfl) dJ0_indexOf_7cf53_1 ⟨Nat.le_of_ble_eq_true rfl, Nat.le_of_ble_eq_true rfl⟩ ⟨Nat.le_of_ble_eq_true rfl, Nat.le_of_ble_eq_true rfl⟩) (fun r_4 H locs ws_1 h u_2 p_3 => ?_)
  obtain ⟨e_5, e_6⟩ := p_3
  refine y_if_eq (tgt := 23) C0 dJ0_indexOf_7cf53_4 (by decide) (fun c_7 => ((o21_25 e_5 e_6 c_7)).elim) (fun c_7 => ?_)
  refine lv_aload_n C0.1 C0.2.1 dJ0_indexOf_7cf53_7 rfl (lv_at hl 0 rfl) ?_
  refine y_sval C0 hZ h hsk0 q_2071 dJ0_indexOf_7cf53_8 ?_
  refine lv_iload_n C0.1 C0.2.1 dJ0_indexOf_7cf53_11 rfl (lv_at hl 1 rfl) ?_
  refine lv_iload_n C0.1 C0.2.1 dJ0_indexOf_7cf53_12 rfl (lv_at hl 2 rfl) ?_
  refine lv_aload_n C0.1 C0.2.1 dJ0_indexOf_7cf53_13 rfl (lv_at hl 0 rfl) ?_
  refine y_ci h (y_rT (As := []) (rest := [.int a2, .int a1, .ref (Z.2.2 k0)]) C0 hZ h (c_J0_length_8abf5 l G Z ad _ h.2 k0 hsk0) k_J0_length_8abf5 q_646 q_647 q_645 hsk0 rfl hl.1 rfl rfl (Nat.le_of_ble_eq_true rfl) dJ0_indexOf_7cf53_14 ⟨Nat.le_of_ble_eq_true rfl, Nat.le_of_ble_eq_true rfl⟩ ⟨Nat.le_of_ble_eq_true rfl, Nat.le_of_ble_eq_true rfl⟩) (fun r_11 H locs ws_8 h u_9 p_10 => ?_)
  obtain ⟨e_12, e_13, e_14⟩ := p_10
  refine y_ci h (y_rS (As := [.ref (Z.2.2 k0), .int a1, .int a2, .int r_11]) (rest := []) C0 hZ h (c_J1_indexOf_4cfef l G Z ad _ h.2 k0 hsk0 a1 a2 r_11 (o21_42 l2 u2) (o21_51 l2 u2) (o21_52 (strLen_le k0) e_12 e_13 e_14) (o21_53 (strLen_le k0) e_12 e_13 e_14)) k_J1_indexOf_4cfef q_654 q_653 hl.1 rfl rfl (Nat.le_of_ble_eq_true rfl) dJ0_indexOf_7cf53_17 ⟨Nat.le_of_ble_eq_true rfl, Nat.le_of_ble_eq_true rfl⟩ ⟨Nat.le_of_ble_eq_true rfl, Nat.le_of_ble_eq_true rfl⟩) (fun r_18 H locs ws_15 h u_16 p_17 => ?_)
  obtain ⟨e_19, e_20⟩ := p_17
  refine lv_goto (tgt := 36) C0.1 C0.2.1 dJ0_indexOf_7cf53_20 (by decide) ?_
  rw [hQ]
  exact y_iret C0 h (Fr.tr (Fr.tr u_2 u_9) u_16) ⟨(o21_49 e_19 e_20), (o21_50 e_19 e_20)⟩ dJ0_indexOf_7cf53_36
set_option maxHeartbeats 4000000 in
set_option maxRecDepth 100000 in
theorem c_J0_indexOf_0f7a4 {S : Sp} (l : Launch) (G : GG) (Z : RZ) (ad : Nat → Nat) (ws0 : va_W) (hT : Ty G S ad ws0) (k0 : Nat) (hsk0 : k0 < 23) (a1 : Int32) : Mq l yJ0_indexOf_0f7a4 cJ0_indexOf_0f7a4 2 (some .int) 4 G Z [.ref (Z.2.1 k0), .int a1] ws0 (PI G S ad [] ws0 (fun r u => ((-1) ≤ r.toInt) ∧ (r.toInt ≤ 102))) := by
  refine Mq.start (by decide) (Nat.le_of_ble_eq_true rfl) ?_
  intro p e s m below meth c A ls C0 hZ h hl
  have hl : lv_has ls 2 [(0, .ref (Z.2.1 k0)), (1, .int a1)] := hl
  have h : Wt G S ad A s s.heap [] ws0 := ⟨h, hT⟩
  obtain ⟨args, hargs⟩ : ∃ z, z = ([.ref (Z.2.1 k0), .int a1] : List Value).toArray := ⟨_, rfl⟩
  rw [← hargs] at C0 ⊢
  have C0 : Cx p s m args meth c RJ0 cJ0_indexOf_0f7a4 2 (some .int) := C0
  obtain ⟨Q, hQ⟩ : ∃ z, z = MQ below ((PI G S ad [] ws0 (fun r u => ((-1) ≤ r.toInt) ∧ (r.toInt ≤ 102))) A) args s 0 0 A := ⟨_, rfl⟩
  rw [← hQ]
  refine lv_aload_n C0.1 C0.2.1 dJ0_indexOf_0f7a4_0 rfl (lv_at hl 0 rfl) ?_
  refine lv_iload_n C0.1 C0.2.1 dJ0_indexOf_0f7a4_1 rfl (lv_at hl 1 rfl) ?_
  refine y_c1 (n := 0) C0 (by decide) dJ0_indexOf_0f7a4_2 (fun v_1 e_2 => ?_)
  refine y_ci h (y_rT (As := [.int a1, .int v_1]) (rest := []) C0 hZ h (c_J0_indexOf_7cf53 l G Z ad _ h.2 k0 hsk0 a1 v_1 (o21_2 e_2) (o21_3 e_2)) k_J0_indexOf_7cf53 q_636 q_637 q_635 hsk0 rfl hl.1 rfl rfl (Nat.le_of_ble_eq_true rfl) dJ0_indexOf_0f7a4_3 ⟨Nat.le_of_ble_eq_true rfl, Nat.le_of_ble_eq_true rfl⟩ ⟨Nat.le_of_ble_eq_true rfl, Nat.le_of_ble_eq_true rfl⟩) (fun r_6 H locs ws_3 h u_4 p_5 => ?_)
  obtain ⟨e_7, e_8⟩ := p_5
  rw [hQ]
  exact y_iret C0 h u_4 ⟨(o21_49 e_7 e_8), (o21_50 e_7 e_8)⟩ dJ0_indexOf_0f7a4_6
