variable {tt : QQ}
theorem dX12_codes_0 : decode cX12_codes 0 = .ok (.aload_n 0, 1) := by decide +kernel
theorem dX12_codes_1 : decode cX12_codes 1 = .ok (.getfield 145, 3) := by decide +kernel
theorem dX12_codes_4 : decode cX12_codes 4 = .ok (.ifCond .eq 4, 3) := by decide +kernel
theorem dX12_codes_7 : decode cX12_codes 7 = .ok (.return_, 1) := by decide +kernel
theorem dX12_codes_8 : decode cX12_codes 8 = .ok (.aload_n 0, 1) := by decide +kernel
theorem dX12_codes_9 : decode cX12_codes 9 = .ok (.getfield 24, 3) := by decide +kernel
theorem dX12_codes_12 : decode cX12_codes 12 = .ok (.sipush 874, 3) := by decide +kernel
theorem dX12_codes_15 : decode cX12_codes 15 = .ok (.aload_n 0, 1) := by decide +kernel
theorem dX12_codes_16 : decode cX12_codes 16 = .ok (.getfield 24, 3) := by decide +kernel
theorem dX12_codes_19 : decode cX12_codes 19 = .ok (.sipush 873, 3) := by decide +kernel
theorem dX12_codes_22 : decode cX12_codes 22 = .ok (.iaload, 1) := by decide +kernel
theorem dX12_codes_23 : decode cX12_codes 23 = .ok (.iadd, 1) := by decide +kernel
theorem dX12_codes_24 : decode cX12_codes 24 = .ok (.iload_n 1, 1) := by decide +kernel
theorem dX12_codes_25 : decode cX12_codes 25 = .ok (.iastore, 1) := by decide +kernel
theorem dX12_codes_26 : decode cX12_codes 26 = .ok (.aload_n 0, 1) := by decide +kernel
theorem dX12_codes_27 : decode cX12_codes 27 = .ok (.getfield 24, 3) := by decide +kernel
theorem dX12_codes_30 : decode cX12_codes 30 = .ok (.sipush 873, 3) := by decide +kernel
theorem dX12_codes_33 : decode cX12_codes 33 = .ok (.dup2, 1) := by decide +kernel
theorem dX12_codes_34 : decode cX12_codes 34 = .ok (.iaload, 1) := by decide +kernel
theorem dX12_codes_35 : decode cX12_codes 35 = .ok (.iconst 1, 1) := by decide +kernel
theorem dX12_codes_36 : decode cX12_codes 36 = .ok (.iadd, 1) := by decide +kernel
theorem dX12_codes_37 : decode cX12_codes 37 = .ok (.iastore, 1) := by decide +kernel
theorem dX12_codes_38 : decode cX12_codes 38 = .ok (.return_, 1) := by decide +kernel
theorem dX12_eats_0 : decode cX12_eats 0 = .ok (.aload_n 0, 1) := by decide +kernel
theorem dX12_eats_1 : decode cX12_eats 1 = .ok (.iload_n 1, 1) := by decide +kernel
theorem dX12_eats_2 : decode cX12_eats 2 = .ok (.invokevirtual 151, 3) := by decide +kernel
theorem dX12_eats_5 : decode cX12_eats 5 = .ok (.ifCond .ne 5, 3) := by decide +kernel
theorem dX12_eats_8 : decode cX12_eats 8 = .ok (.iconst 0, 1) := by decide +kernel
theorem dX12_eats_9 : decode cX12_eats 9 = .ok (.ireturn, 1) := by decide +kernel
theorem dX12_eats_10 : decode cX12_eats 10 = .ok (.aload_n 0, 1) := by decide +kernel
theorem dX12_eats_11 : decode cX12_eats 11 = .ok (.invokevirtual 154, 3) := by decide +kernel
theorem dX12_eats_14 : decode cX12_eats 14 = .ok (.iconst 1, 1) := by decide +kernel
theorem dX12_eats_15 : decode cX12_eats 15 = .ok (.ireturn, 1) := by decide +kernel
theorem dX12_fails_0 : decode cX12_fails 0 = .ok (.aload_n 0, 1) := by decide +kernel
theorem dX12_fails_1 : decode cX12_fails 1 = .ok (.getfield 145, 3) := by decide +kernel
theorem dX12_fails_4 : decode cX12_fails 4 = .ok (.ifCond .eq 4, 3) := by decide +kernel
theorem dX12_fails_7 : decode cX12_fails 7 = .ok (.return_, 1) := by decide +kernel
theorem dX12_fails_8 : decode cX12_fails 8 = .ok (.aload_n 0, 1) := by decide +kernel
theorem dX12_fails_9 : decode cX12_fails 9 = .ok (.aload_n 0, 1) := by decide +kernel
theorem dX12_fails_10 : decode cX12_fails 10 = .ok (.getfield 127, 3) := by decide +kernel
theorem dX12_fails_13 : decode cX12_fails 13 = .ok (.bipush 25, 2) := by decide +kernel
theorem dX12_fails_15 : decode cX12_fails 15 = .ok (.if_icmp .ne 7, 3) := by decide +kernel
theorem dX12_fails_18 : decode cX12_fails 18 = .ok (.iconst 1, 1) := by decide +kernel
theorem dX12_fails_19 : decode cX12_fails 19 = .ok (.goto 4, 3) := by decide +kernel
theorem dX12_fails_22 : decode cX12_fails 22 = .ok (.iload_n 1, 1) := by decide +kernel
theorem dX12_fails_23 : decode cX12_fails 23 = .ok (.putfield 145, 3) := by decide +kernel
theorem dX12_fails_26 : decode cX12_fails 26 = .ok (.aload_n 0, 1) := by decide +kernel
theorem dX12_fails_27 : decode cX12_fails 27 = .ok (.aload_n 0, 1) := by decide +kernel
theorem dX12_fails_28 : decode cX12_fails 28 = .ok (.getfield 117, 3) := by decide +kernel
theorem dX12_fails_31 : decode cX12_fails 31 = .ok (.putfield 148, 3) := by decide +kernel
theorem dX12_fails_34 : decode cX12_fails 34 = .ok (.return_, 1) := by decide +kernel
theorem dX12_goesIn_0 : decode cX12_goesIn 0 = .ok (.iload_n 1, 1) := by decide +kernel
theorem dX12_goesIn_1 : decode cX12_goesIn 1 = .ok (.bipush 6, 2) := by decide +kernel
theorem dX12_goesIn_3 : decode cX12_goesIn 3 = .ok (.if_icmp .ne 8, 3) := by decide +kernel
theorem dX12_goesIn_6 : decode cX12_goesIn 6 = .ok (.aload_n 0, 1) := by decide +kernel
theorem dX12_goesIn_7 : decode cX12_goesIn 7 = .ok (.iconst 4, 1) := by decide +kernel
theorem dX12_goesIn_8 : decode cX12_goesIn 8 = .ok (.invokevirtual 157, 3) := by decide +kernel
theorem dX12_goesIn_11 : decode cX12_goesIn 11 = .ok (.aload_n 0, 1) := by decide +kernel
theorem dX12_goesIn_12 : decode cX12_goesIn 12 = .ok (.getfield 145, 3) := by decide +kernel
theorem dX12_goesIn_15 : decode cX12_goesIn 15 = .ok (.ifCond .ne 7, 3) := by decide +kernel
theorem dX12_goesIn_18 : decode cX12_goesIn 18 = .ok (.aload_n 0, 1) := by decide +kernel
theorem dX12_goesIn_19 : decode cX12_goesIn 19 = .ok (.invokevirtual 154, 3) := by decide +kernel
theorem dX12_goesIn_22 : decode cX12_goesIn 22 = .ok (.aload_n 0, 1) := by decide +kernel
theorem dX12_goesIn_23 : decode cX12_goesIn 23 = .ok (.getfield 145, 3) := by decide +kernel
theorem dX12_goesIn_26 : decode cX12_goesIn 26 = .ok (.ifCond .ne 7, 3) := by decide +kernel
theorem dX12_goesIn_29 : decode cX12_goesIn 29 = .ok (.iconst 1, 1) := by decide +kernel
theorem dX12_goesIn_30 : decode cX12_goesIn 30 = .ok (.goto 4, 3) := by decide +kernel
theorem dX12_goesIn_33 : decode cX12_goesIn 33 = .ok (.iconst 0, 1) := by decide +kernel
theorem dX12_goesIn_34 : decode cX12_goesIn 34 = .ok (.ireturn, 1) := by decide +kernel
theorem dX12_is_0 : decode cX12_is 0 = .ok (.aload_n 0, 1) := by decide +kernel
theorem dX12_is_1 : decode cX12_is 1 = .ok (.getfield 145, 3) := by decide +kernel
theorem dX12_is_4 : decode cX12_is 4 = .ok (.ifCond .ne 15, 3) := by decide +kernel
theorem dX12_is_7 : decode cX12_is 7 = .ok (.aload_n 0, 1) := by decide +kernel
theorem dX12_is_8 : decode cX12_is 8 = .ok (.getfield 127, 3) := by decide +kernel
theorem dX12_is_11 : decode cX12_is 11 = .ok (.iload_n 1, 1) := by decide +kernel
theorem dX12_is_12 : decode cX12_is 12 = .ok (.if_icmp .ne 7, 3) := by decide +kernel
theorem dX12_is_15 : decode cX12_is 15 = .ok (.iconst 1, 1) := by decide +kernel
theorem dX12_is_16 : decode cX12_is 16 = .ok (.goto 4, 3) := by decide +kernel
theorem dX12_is_19 : decode cX12_is 19 = .ok (.iconst 0, 1) := by decide +kernel
theorem dX12_is_20 : decode cX12_is 20 = .ok (.ireturn, 1) := by decide +kernel
theorem dX12_takes_0 : decode cX12_takes 0 = .ok (.aload_n 0, 1) := by decide +kernel
theorem dX12_takes_1 : decode cX12_takes 1 = .ok (.bipush 23, 2) := by decide +kernel
theorem dX12_takes_3 : decode cX12_takes 3 = .ok (.invokevirtual 151, 3) := by decide +kernel
theorem dX12_takes_6 : decode cX12_takes 6 = .ok (.ifCond .ne 11, 3) := by decide +kernel
theorem dX12_takes_9 : decode cX12_takes 9 = .ok (.aload_n 0, 1) := by decide +kernel
theorem dX12_takes_10 : decode cX12_takes 10 = .ok (.iconst 2, 1) := by decide +kernel
theorem dX12_takes_11 : decode cX12_takes 11 = .ok (.invokevirtual 157, 3) := by decide +kernel
theorem dX12_takes_14 : decode cX12_takes 14 = .ok (.goto 23, 3) := by decide +kernel
theorem dX12_takes_17 : decode cX12_takes 17 = .ok (.aload_n 0, 1) := by decide +kernel
theorem dX12_takes_18 : decode cX12_takes 18 = .ok (.getfield 140, 3) := by decide +kernel
theorem dX12_takes_21 : decode cX12_takes 21 = .ok (.i2l, 1) := by decide +kernel
theorem dX12_takes_22 : decode cX12_takes 22 = .ok (.iload_n 1, 1) := by decide +kernel
theorem dX12_takes_23 : decode cX12_takes 23 = .ok (.i2l, 1) := by decide +kernel
theorem dX12_takes_24 : decode cX12_takes 24 = .ok (.iload_n 2, 1) := by decide +kernel
theorem dX12_takes_25 : decode cX12_takes 25 = .ok (.i2l, 1) := by decide +kernel
theorem dX12_takes_26 : decode cX12_takes 26 = .ok (.invokestatic 161, 3) := by decide +kernel
theorem dX12_takes_29 : decode cX12_takes 29 = .ok (.ifCond .ne 8, 3) := by decide +kernel
theorem dX12_takes_32 : decode cX12_takes 32 = .ok (.aload_n 0, 1) := by decide +kernel
theorem dX12_takes_33 : decode cX12_takes 33 = .ok (.iconst 3, 1) := by decide +kernel
theorem dX12_takes_34 : decode cX12_takes 34 = .ok (.invokevirtual 157, 3) := by decide +kernel
theorem dX12_takes_37 : decode cX12_takes 37 = .ok (.aload_n 0, 1) := by decide +kernel
theorem dX12_takes_38 : decode cX12_takes 38 = .ok (.getfield 140, 3) := by decide +kernel
theorem dX12_takes_41 : decode cX12_takes 41 = .ok (.istore_n 3, 1) := by decide +kernel
theorem dX12_takes_42 : decode cX12_takes 42 = .ok (.aload_n 0, 1) := by decide +kernel
theorem dX12_takes_43 : decode cX12_takes 43 = .ok (.getfield 145, 3) := by decide +kernel
theorem dX12_takes_46 : decode cX12_takes 46 = .ok (.ifCond .ne 7, 3) := by decide +kernel
theorem dX12_takes_49 : decode cX12_takes 49 = .ok (.aload_n 0, 1) := by decide +kernel
theorem dX12_takes_50 : decode cX12_takes 50 = .ok (.invokevirtual 154, 3) := by decide +kernel
theorem dX12_takes_53 : decode cX12_takes 53 = .ok (.iload_n 3, 1) := by decide +kernel
theorem dX12_takes_54 : decode cX12_takes 54 = .ok (.ireturn, 1) := by decide +kernel
theorem o43_1 {x0 : Int} (h0 : x0 = 0) : 0 ≤ x0 := by omega
theorem o43_2 {x0 : Int} (h0 : x0 = 0) : x0 ≤ 1 := by omega
theorem o43_3 {x0 x1 x2 x3 x4 : Int} (h0 : x4 = x1) (h1 : ¬ x4 = 0) (h2 : x0 = 0) : ((x0 = 0 ∧ ¬ (x1 = 0 ∧ x2 = x3)) ∨ (x0 = 1 ∧ x1 = 0 ∧ x2 = x3)) := by omega
theorem o43_4 {x0 x1 x2 x3 x4 x5 : Int} (h0 : x4 = x1) (h1 : x4 = 0) (h2 : x5 = x2) (h3 : ¬ x5 = x3) (h4 : x0 = 0) : ((x0 = 0 ∧ ¬ (x1 = 0 ∧ x2 = x3)) ∨ (x0 = 1 ∧ x1 = 0 ∧ x2 = x3)) := by omega
theorem o43_5 {x0 : Int} (h0 : x0 = 1) : 0 ≤ x0 := by omega
theorem o43_6 {x0 : Int} (h0 : x0 = 1) : x0 ≤ 1 := by omega
theorem o43_7 {x0 x1 x2 x3 x4 x5 : Int} (h0 : x4 = x1) (h1 : x4 = 0) (h2 : x5 = x2) (h3 : x5 = x3) (h4 : x0 = 1) : ((x0 = 0 ∧ ¬ (x1 = 0 ∧ x2 = x3)) ∨ (x0 = 1 ∧ x1 = 0 ∧ x2 = x3)) := by omega
theorem o43_8 {x0 x1 : Int} (h0 : 0 ≤ x0) (h1 : x0 ≤ 900) (h2 : 0 ≤ x1) (h3 : x1 ≤ 900) (h4 : x1 = x0) : x0 = x0 := by omega
theorem o43_9 {x0 : Int} (h0 : 0 ≤ x0) (h1 : x0 ≤ 900) : x0 = x0 := by omega
theorem o43_10 {x0 x1 x2 : Int} (h0 : x1 = x0) (h1 : x2 = 25) (h2 : ¬ x1 = x2) : x0 = x0 := by omega
theorem o43_11 {x0 : Int} (h0 : 1 ≤ x0) (h1 : x0 ≤ 9) : ¬ x0 = 0 := by omega
theorem o43_12 {x0 x1 x2 : Int} (h0 : x1 = x0) (h1 : x2 = 25) (h2 : x1 = x2) : x0 = x0 := by omega
theorem o43_13 {x0 : Int} (h0 : x0 = 1) : ¬ x0 = 0 := by omega
theorem o43_14 {x0 : Int} : x0 = x0 := by omega
theorem o43_15 {x0 : Int} (h0 : ¬ x0 = 0) : ¬ x0 = 0 := by omega
theorem o43_16 {x0 x1 x2 x3 x4 x5 x6 x7 x8 x9 : Int} (h0 : 0 ≤ x3) (h1 : x3 ≤ 900) (h2 : 0 ≤ x4) (h3 : x4 ≤ 900) (h4 : (x5 = 24 ∨ x3 < x4)) (h5 : x3 ≤ x4) (h6 : 0 ≤ x6) (h7 : x6 ≤ 1) (h8 : ((x6 = 0 ∧ ¬ (x7 = 0 ∧ x5 = x8)) ∨ (x6 = 1 ∧ x7 = 0 ∧ x5 = x8))) (h9 : ¬ x6 = 0) (h10 : 0 ≤ x1) (h11 : x1 ≤ 900) (h12 : x4 ≤ x1) (h13 : 0 ≤ x2) (h14 : x2 ≤ 900) (h15 : (x0 = 24 ∨ x1 < x2)) (h16 : x9 = x7) (h17 : x1 ≤ x2) : (x0 = 24 ∨ x1 < x2) := by omega
theorem o43_17 {x0 x1 x2 x3 x4 x5 x6 x7 x8 x9 : Int} (h0 : 0 ≤ x2) (h1 : x2 ≤ 900) (h2 : 0 ≤ x3) (h3 : x3 ≤ 900) (h4 : (x4 = 24 ∨ x2 < x3)) (h5 : x2 ≤ x3) (h6 : 0 ≤ x5) (h7 : x5 ≤ 1) (h8 : ((x5 = 0 ∧ ¬ (x6 = 0 ∧ x4 = x7)) ∨ (x5 = 1 ∧ x6 = 0 ∧ x4 = x7))) (h9 : ¬ x5 = 0) (h10 : 0 ≤ x0) (h11 : x0 ≤ 900) (h12 : x3 ≤ x0) (h13 : 0 ≤ x1) (h14 : x1 ≤ 900) (h15 : (x8 = 24 ∨ x0 < x1)) (h16 : x9 = x6) (h17 : x0 ≤ x1) : x0 ≤ x1 := by omega
theorem o43_18 {x0 x1 x2 x3 x4 x5 x6 x7 x8 x9 x10 : Int} (h0 : 0 ≤ x2) (h1 : x2 ≤ 900) (h2 : 0 ≤ x4) (h3 : x4 ≤ 900) (h4 : (x6 = 24 ∨ x2 < x4)) (h5 : x2 ≤ x4) (h6 : 0 ≤ x10) (h7 : x10 ≤ 1) (h8 : ((x10 = 0 ∧ ¬ (x8 = 0 ∧ x6 = x9)) ∨ (x10 = 1 ∧ x8 = 0 ∧ x6 = x9))) (h9 : ¬ x10 = 0) (h10 : 0 ≤ x1) (h11 : x1 ≤ 900) (h12 : x4 ≤ x1) (h13 : 0 ≤ x3) (h14 : x3 ≤ 900) (h15 : (x5 = 24 ∨ x1 < x3)) (h16 : x7 = x8) (h17 : x1 ≤ x3) (h18 : x0 = 1) : ((x0 = 0 ∧ x1 = x2 ∧ x3 = x4 ∧ x5 = x6 ∧ x7 = x8 ∧ ¬ (x8 = 0 ∧ x6 = x9)) ∨ (x0 = 1 ∧ x4 ≤ x1 ∧ x7 = 0 ∧ x8 = 0 ∧ x6 = x9)) := by omega
theorem o43_19 {x0 x1 x2 x3 x4 x5 : Int} (h0 : 0 ≤ x1) (h1 : x1 ≤ 900) (h2 : 0 ≤ x2) (h3 : x2 ≤ 900) (h4 : (x0 = 24 ∨ x1 < x2)) (h5 : x1 ≤ x2) (h6 : 0 ≤ x3) (h7 : x3 ≤ 1) (h8 : ((x3 = 0 ∧ ¬ (x4 = 0 ∧ x0 = x5)) ∨ (x3 = 1 ∧ x4 = 0 ∧ x0 = x5))) (h9 : x3 = 0) : (x0 = 24 ∨ x1 < x2) := by omega
theorem o43_20 {x0 x1 x2 x3 x4 x5 : Int} (h0 : 0 ≤ x0) (h1 : x0 ≤ 900) (h2 : 0 ≤ x1) (h3 : x1 ≤ 900) (h4 : (x2 = 24 ∨ x0 < x1)) (h5 : x0 ≤ x1) (h6 : 0 ≤ x3) (h7 : x3 ≤ 1) (h8 : ((x3 = 0 ∧ ¬ (x4 = 0 ∧ x2 = x5)) ∨ (x3 = 1 ∧ x4 = 0 ∧ x2 = x5))) (h9 : x3 = 0) : x0 ≤ x1 := by omega
theorem o43_21 {x0 x1 x2 x3 x4 x5 x6 : Int} (h0 : 0 ≤ x1) (h1 : x1 ≤ 900) (h2 : 0 ≤ x2) (h3 : x2 ≤ 900) (h4 : (x3 = 24 ∨ x1 < x2)) (h5 : x1 ≤ x2) (h6 : 0 ≤ x6) (h7 : x6 ≤ 1) (h8 : ((x6 = 0 ∧ ¬ (x4 = 0 ∧ x3 = x5)) ∨ (x6 = 1 ∧ x4 = 0 ∧ x3 = x5))) (h9 : x6 = 0) (h10 : x0 = 0) : ((x0 = 0 ∧ x1 = x1 ∧ x2 = x2 ∧ x3 = x3 ∧ x4 = x4 ∧ ¬ (x4 = 0 ∧ x3 = x5)) ∨ (x0 = 1 ∧ x2 ≤ x1 ∧ x4 = 0 ∧ x4 = 0 ∧ x3 = x5)) := by omega
theorem o43_22 {x0 x1 x2 x3 x4 x5 x6 x7 : Int} (h0 : 0 ≤ x1) (h1 : x1 ≤ 999) (h2 : x2 = x1) (h3 : x3 = x4) (h4 : x5 = x6) (h5 : 0 ≤ x7) (h6 : x7 ≤ 1) (h7 : ((x7 = 0 ∧ (x2 < x3 ∨ x5 < x2)) ∨ (x7 = 1 ∧ x3 ≤ x2 ∧ x2 ≤ x5))) (h8 : ¬ x7 = 0) (h9 : 0 ≤ x0) (h10 : x0 ≤ 999) (h11 : x0 = x1) : 0 ≤ x0 := by omega
theorem o43_23 {x0 x1 x2 x3 x4 x5 x6 x7 : Int} (h0 : 0 ≤ x1) (h1 : x1 ≤ 999) (h2 : x2 = x1) (h3 : x3 = x4) (h4 : x5 = x6) (h5 : 0 ≤ x7) (h6 : x7 ≤ 1) (h7 : ((x7 = 0 ∧ (x2 < x3 ∨ x5 < x2)) ∨ (x7 = 1 ∧ x3 ≤ x2 ∧ x2 ≤ x5))) (h8 : ¬ x7 = 0) (h9 : 0 ≤ x0) (h10 : x0 ≤ 999) (h11 : x0 = x1) : x0 ≤ 999 := by omega
theorem o43_24 {x0 x1 x2 x3 x4 x5 x6 : Int} (h0 : 0 ≤ x1) (h1 : x1 ≤ 900) (h2 : 0 ≤ x2) (h3 : x2 ≤ 900) (h4 : (x0 = 24 ∨ x1 < x2)) (h5 : x1 ≤ x2) (h6 : x3 = 23) (h7 : 0 ≤ x4) (h8 : x4 ≤ 1) (h9 : ((x4 = 0 ∧ ¬ (x5 = 0 ∧ x0 = x3)) ∨ (x4 = 1 ∧ x5 = 0 ∧ x0 = x3))) (h10 : ¬ x4 = 0) (h11 : x6 = x5) (h12 : ¬ x6 = 0) : (x0 = 24 ∨ x1 < x2) := by omega
theorem o43_25 {x0 x1 x2 x3 x4 x5 x6 : Int} (h0 : 0 ≤ x0) (h1 : x0 ≤ 900) (h2 : 0 ≤ x1) (h3 : x1 ≤ 900) (h4 : (x2 = 24 ∨ x0 < x1)) (h5 : x0 ≤ x1) (h6 : x3 = 23) (h7 : 0 ≤ x4) (h8 : x4 ≤ 1) (h9 : ((x4 = 0 ∧ ¬ (x5 = 0 ∧ x2 = x3)) ∨ (x4 = 1 ∧ x5 = 0 ∧ x2 = x3))) (h10 : ¬ x4 = 0) (h11 : x6 = x5) (h12 : ¬ x6 = 0) : x0 ≤ x1 := by omega
theorem o43_26 {x0 x1 x2 x3 x4 x5 x6 x7 x8 x9 x10 x11 x12 x13 x14 : Int} (h0 : 0 ≤ x4) (h1 : x4 ≤ 900) (h2 : 0 ≤ x5) (h3 : x5 ≤ 900) (h4 : (x6 = 24 ∨ x4 < x5)) (h5 : x4 ≤ x5) (h6 : x7 = 23) (h7 : 0 ≤ x8) (h8 : x8 ≤ 1) (h9 : ((x8 = 0 ∧ ¬ (x0 = 0 ∧ x6 = x7)) ∨ (x8 = 1 ∧ x0 = 0 ∧ x6 = x7))) (h10 : ¬ x8 = 0) (h11 : 0 ≤ x9) (h12 : x9 ≤ 999) (h13 : x10 = x9) (h14 : x11 = x1) (h15 : x12 = x3) (h16 : 0 ≤ x13) (h17 : x13 ≤ 1) (h18 : ((x13 = 0 ∧ (x10 < x11 ∨ x12 < x10)) ∨ (x13 = 1 ∧ x11 ≤ x10 ∧ x10 ≤ x12))) (h19 : ¬ x13 = 0) (h20 : 0 ≤ x2) (h21 : x2 ≤ 999) (h22 : x2 = x9) (h23 : x14 = x0) (h24 : ¬ x14 = 0) : (x0 = 0 → x0 = 0 ∧ x1 ≤ x2 ∧ x2 ≤ x3) := by omega
theorem o43_27 {x0 x1 x2 x3 x4 x5 x6 : Int} (h0 : 0 ≤ x0) (h1 : x0 ≤ 900) (h2 : 0 ≤ x1) (h3 : x1 ≤ 900) (h4 : (x2 = 24 ∨ x0 < x1)) (h5 : x0 ≤ x1) (h6 : x3 = 23) (h7 : 0 ≤ x4) (h8 : x4 ≤ 1) (h9 : ((x4 = 0 ∧ ¬ (x5 = 0 ∧ x2 = x3)) ∨ (x4 = 1 ∧ x5 = 0 ∧ x2 = x3))) (h10 : ¬ x4 = 0) (h11 : x6 = x5) (h12 : ¬ x6 = 0) : x0 ≤ x0 := by omega
theorem o43_28 {x0 x1 x2 x3 x4 x5 x6 x7 x8 x9 x10 : Int} (h0 : 0 ≤ x3) (h1 : x3 ≤ 900) (h2 : 0 ≤ x4) (h3 : x4 ≤ 900) (h4 : (x5 = 24 ∨ x3 < x4)) (h5 : x3 ≤ x4) (h6 : x6 = 23) (h7 : 0 ≤ x7) (h8 : x7 ≤ 1) (h9 : ((x7 = 0 ∧ ¬ (x8 = 0 ∧ x5 = x6)) ∨ (x7 = 1 ∧ x8 = 0 ∧ x5 = x6))) (h10 : ¬ x7 = 0) (h11 : x9 = x8) (h12 : x9 = 0) (h13 : 0 ≤ x1) (h14 : x1 ≤ 900) (h15 : x4 ≤ x1) (h16 : 0 ≤ x2) (h17 : x2 ≤ 900) (h18 : (x0 = 24 ∨ x1 < x2)) (h19 : x10 = x8) (h20 : x1 ≤ x2) : (x0 = 24 ∨ x1 < x2) := by omega
theorem o43_29 {x0 x1 x2 x3 x4 x5 x6 x7 x8 x9 x10 : Int} (h0 : 0 ≤ x2) (h1 : x2 ≤ 900) (h2 : 0 ≤ x3) (h3 : x3 ≤ 900) (h4 : (x4 = 24 ∨ x2 < x3)) (h5 : x2 ≤ x3) (h6 : x5 = 23) (h7 : 0 ≤ x6) (h8 : x6 ≤ 1) (h9 : ((x6 = 0 ∧ ¬ (x7 = 0 ∧ x4 = x5)) ∨ (x6 = 1 ∧ x7 = 0 ∧ x4 = x5))) (h10 : ¬ x6 = 0) (h11 : x8 = x7) (h12 : x8 = 0) (h13 : 0 ≤ x0) (h14 : x0 ≤ 900) (h15 : x3 ≤ x0) (h16 : 0 ≤ x1) (h17 : x1 ≤ 900) (h18 : (x9 = 24 ∨ x0 < x1)) (h19 : x10 = x7) (h20 : x0 ≤ x1) : x0 ≤ x1 := by omega
theorem o43_30 {x0 x1 x2 x3 x4 x5 x6 x7 x8 x9 x10 x11 x12 x13 x14 x15 x16 x17 x18 : Int} (h0 : 0 ≤ x5) (h1 : x5 ≤ 900) (h2 : 0 ≤ x6) (h3 : x6 ≤ 900) (h4 : (x7 = 24 ∨ x5 < x6)) (h5 : x5 ≤ x6) (h6 : x8 = 23) (h7 : 0 ≤ x9) (h8 : x9 ≤ 1) (h9 : ((x9 = 0 ∧ ¬ (x1 = 0 ∧ x7 = x8)) ∨ (x9 = 1 ∧ x1 = 0 ∧ x7 = x8))) (h10 : ¬ x9 = 0) (h11 : 0 ≤ x10) (h12 : x10 ≤ 999) (h13 : x11 = x10) (h14 : x12 = x2) (h15 : x13 = x4) (h16 : 0 ≤ x14) (h17 : x14 ≤ 1) (h18 : ((x14 = 0 ∧ (x11 < x12 ∨ x13 < x11)) ∨ (x14 = 1 ∧ x12 ≤ x11 ∧ x11 ≤ x13))) (h19 : ¬ x14 = 0) (h20 : 0 ≤ x3) (h21 : x3 ≤ 999) (h22 : x3 = x10) (h23 : x15 = x1) (h24 : x15 = 0) (h25 : 0 ≤ x16) (h26 : x16 ≤ 900) (h27 : x6 ≤ x16) (h28 : 0 ≤ x17) (h29 : x17 ≤ 900) (h30 : (x18 = 24 ∨ x16 < x17)) (h31 : x0 = x1) (h32 : x16 ≤ x17) : (x0 = 0 → x1 = 0 ∧ x2 ≤ x3 ∧ x3 ≤ x4) := by omega
theorem o43_31 {x0 x1 x2 x3 x4 x5 x6 x7 x8 x9 x10 : Int} (h0 : 0 ≤ x0) (h1 : x0 ≤ 900) (h2 : 0 ≤ x2) (h3 : x2 ≤ 900) (h4 : (x3 = 24 ∨ x0 < x2)) (h5 : x0 ≤ x2) (h6 : x4 = 23) (h7 : 0 ≤ x5) (h8 : x5 ≤ 1) (h9 : ((x5 = 0 ∧ ¬ (x6 = 0 ∧ x3 = x4)) ∨ (x5 = 1 ∧ x6 = 0 ∧ x3 = x4))) (h10 : ¬ x5 = 0) (h11 : x7 = x6) (h12 : x7 = 0) (h13 : 0 ≤ x1) (h14 : x1 ≤ 900) (h15 : x2 ≤ x1) (h16 : 0 ≤ x8) (h17 : x8 ≤ 900) (h18 : (x9 = 24 ∨ x1 < x8)) (h19 : x10 = x6) (h20 : x1 ≤ x8) : x0 ≤ x1 := by omega
theorem o43_32 {x0 : Int} (h0 : x0 = 3) : 1 ≤ x0 := by omega
theorem o43_33 {x0 : Int} (h0 : x0 = 3) : x0 ≤ 9 := by omega
theorem o43_34 {x0 : Int} (h0 : 0 ≤ x0) (h1 : x0 ≤ 999) : 0 ≤ x0 := by omega
theorem o43_35 {x0 : Int} (h0 : 0 ≤ x0) (h1 : x0 ≤ 999) : x0 ≤ 999 := by omega
theorem o43_36 {x0 x1 x2 x3 x4 x5 x6 x7 x8 : Int} (h0 : 0 ≤ x3) (h1 : x3 ≤ 900) (h2 : 0 ≤ x4) (h3 : x4 ≤ 900) (h4 : (x5 = 24 ∨ x3 < x4)) (h5 : x3 ≤ x4) (h6 : x6 = 23) (h7 : 0 ≤ x7) (h8 : x7 ≤ 1) (h9 : ((x7 = 0 ∧ ¬ (x8 = 0 ∧ x5 = x6)) ∨ (x7 = 1 ∧ x8 = 0 ∧ x5 = x6))) (h10 : ¬ x7 = 0) (h11 : 0 ≤ x1) (h12 : x1 ≤ 900) (h13 : x1 = x3) (h14 : 0 ≤ x2) (h15 : x2 ≤ 900) (h16 : x2 = x4) (h17 : x0 = x5) : (x0 = 24 ∨ x1 < x2) := by omega
theorem o43_37 {x0 x1 x2 x3 x4 x5 x6 x7 x8 : Int} (h0 : 0 ≤ x2) (h1 : x2 ≤ 900) (h2 : 0 ≤ x3) (h3 : x3 ≤ 900) (h4 : (x4 = 24 ∨ x2 < x3)) (h5 : x2 ≤ x3) (h6 : x5 = 23) (h7 : 0 ≤ x6) (h8 : x6 ≤ 1) (h9 : ((x6 = 0 ∧ ¬ (x7 = 0 ∧ x4 = x5)) ∨ (x6 = 1 ∧ x7 = 0 ∧ x4 = x5))) (h10 : ¬ x6 = 0) (h11 : 0 ≤ x0) (h12 : x0 ≤ 900) (h13 : x0 = x2) (h14 : 0 ≤ x1) (h15 : x1 ≤ 900) (h16 : x1 = x3) (h17 : x8 = x4) : x0 ≤ x1 := by omega
theorem o43_38 {x0 x1 x2 x3 x4 x5 x6 x7 x8 x9 x10 x11 x12 x13 x14 x15 x16 x17 x18 : Int} (h0 : 0 ≤ x5) (h1 : x5 ≤ 900) (h2 : 0 ≤ x6) (h3 : x6 ≤ 900) (h4 : (x7 = 24 ∨ x5 < x6)) (h5 : x5 ≤ x6) (h6 : x8 = 23) (h7 : 0 ≤ x9) (h8 : x9 ≤ 1) (h9 : ((x9 = 0 ∧ ¬ (x1 = 0 ∧ x7 = x8)) ∨ (x9 = 1 ∧ x1 = 0 ∧ x7 = x8))) (h10 : ¬ x9 = 0) (h11 : 0 ≤ x10) (h12 : x10 ≤ 999) (h13 : x11 = x10) (h14 : x12 = x2) (h15 : x13 = x4) (h16 : 0 ≤ x14) (h17 : x14 ≤ 1) (h18 : ((x14 = 0 ∧ (x11 < x12 ∨ x13 < x11)) ∨ (x14 = 1 ∧ x12 ≤ x11 ∧ x11 ≤ x13))) (h19 : x14 = 0) (h20 : 0 ≤ x15) (h21 : x15 ≤ 900) (h22 : x15 = x5) (h23 : 0 ≤ x16) (h24 : x16 ≤ 900) (h25 : x16 = x6) (h26 : x17 = x7) (h27 : ¬ x0 = 0) (h28 : 0 ≤ x3) (h29 : x3 ≤ 999) (h30 : x18 = x0) (h31 : ¬ x18 = 0) : (x0 = 0 → x1 = 0 ∧ x2 ≤ x3 ∧ x3 ≤ x4) := by omega
theorem o43_39 {x0 x1 x2 x3 x4 x5 x6 x7 x8 : Int} (h0 : 0 ≤ x0) (h1 : x0 ≤ 900) (h2 : 0 ≤ x2) (h3 : x2 ≤ 900) (h4 : (x3 = 24 ∨ x0 < x2)) (h5 : x0 ≤ x2) (h6 : x4 = 23) (h7 : 0 ≤ x5) (h8 : x5 ≤ 1) (h9 : ((x5 = 0 ∧ ¬ (x6 = 0 ∧ x3 = x4)) ∨ (x5 = 1 ∧ x6 = 0 ∧ x3 = x4))) (h10 : ¬ x5 = 0) (h11 : 0 ≤ x1) (h12 : x1 ≤ 900) (h13 : x1 = x0) (h14 : 0 ≤ x7) (h15 : x7 ≤ 900) (h16 : x7 = x2) (h17 : x8 = x3) : x0 ≤ x1 := by omega
theorem o43_40 {x0 x1 x2 x3 x4 x5 x6 x7 x8 x9 x10 x11 : Int} (h0 : 0 ≤ x3) (h1 : x3 ≤ 900) (h2 : 0 ≤ x4) (h3 : x4 ≤ 900) (h4 : (x5 = 24 ∨ x3 < x4)) (h5 : x3 ≤ x4) (h6 : x6 = 23) (h7 : 0 ≤ x7) (h8 : x7 ≤ 1) (h9 : ((x7 = 0 ∧ ¬ (x8 = 0 ∧ x5 = x6)) ∨ (x7 = 1 ∧ x8 = 0 ∧ x5 = x6))) (h10 : ¬ x7 = 0) (h11 : 0 ≤ x9) (h12 : x9 ≤ 900) (h13 : x9 = x3) (h14 : 0 ≤ x10) (h15 : x10 ≤ 900) (h16 : x10 = x4) (h17 : x11 = x5) (h18 : 0 ≤ x1) (h19 : x1 ≤ 900) (h20 : x10 ≤ x1) (h21 : 0 ≤ x2) (h22 : x2 ≤ 900) (h23 : (x0 = 24 ∨ x1 < x2)) (h24 : x1 ≤ x2) : (x0 = 24 ∨ x1 < x2) := by omega
theorem o43_41 {x0 x1 x2 x3 x4 x5 x6 x7 x8 x9 x10 x11 : Int} (h0 : 0 ≤ x2) (h1 : x2 ≤ 900) (h2 : 0 ≤ x3) (h3 : x3 ≤ 900) (h4 : (x4 = 24 ∨ x2 < x3)) (h5 : x2 ≤ x3) (h6 : x5 = 23) (h7 : 0 ≤ x6) (h8 : x6 ≤ 1) (h9 : ((x6 = 0 ∧ ¬ (x7 = 0 ∧ x4 = x5)) ∨ (x6 = 1 ∧ x7 = 0 ∧ x4 = x5))) (h10 : ¬ x6 = 0) (h11 : 0 ≤ x8) (h12 : x8 ≤ 900) (h13 : x8 = x2) (h14 : 0 ≤ x9) (h15 : x9 ≤ 900) (h16 : x9 = x3) (h17 : x10 = x4) (h18 : 0 ≤ x0) (h19 : x0 ≤ 900) (h20 : x9 ≤ x0) (h21 : 0 ≤ x1) (h22 : x1 ≤ 900) (h23 : (x11 = 24 ∨ x0 < x1)) (h24 : x0 ≤ x1) : x0 ≤ x1 := by omega
theorem o43_42 {x0 x1 x2 x3 x4 x5 x6 x7 x8 x9 x10 x11 x12 x13 x14 x15 x16 x17 x18 x19 x20 x21 x22 : Int} (h0 : 0 ≤ x5) (h1 : x5 ≤ 900) (h2 : 0 ≤ x6) (h3 : x6 ≤ 900) (h4 : (x7 = 24 ∨ x5 < x6)) (h5 : x5 ≤ x6) (h6 : x8 = 23) (h7 : 0 ≤ x9) (h8 : x9 ≤ 1) (h9 : ((x9 = 0 ∧ ¬ (x1 = 0 ∧ x7 = x8)) ∨ (x9 = 1 ∧ x1 = 0 ∧ x7 = x8))) (h10 : ¬ x9 = 0) (h11 : 0 ≤ x10) (h12 : x10 ≤ 999) (h13 : x11 = x10) (h14 : x12 = x2) (h15 : x13 = x4) (h16 : 0 ≤ x14) (h17 : x14 ≤ 1) (h18 : ((x14 = 0 ∧ (x11 < x12 ∨ x13 < x11)) ∨ (x14 = 1 ∧ x12 ≤ x11 ∧ x11 ≤ x13))) (h19 : x14 = 0) (h20 : 0 ≤ x15) (h21 : x15 ≤ 900) (h22 : x15 = x5) (h23 : 0 ≤ x16) (h24 : x16 ≤ 900) (h25 : x16 = x6) (h26 : x17 = x7) (h27 : ¬ x18 = 0) (h28 : 0 ≤ x3) (h29 : x3 ≤ 999) (h30 : x19 = x18) (h31 : x19 = 0) (h32 : 0 ≤ x20) (h33 : x20 ≤ 900) (h34 : x16 ≤ x20) (h35 : 0 ≤ x21) (h36 : x21 ≤ 900) (h37 : (x22 = 24 ∨ x20 < x21)) (h38 : x0 = x18) (h39 : x20 ≤ x21) : (x0 = 0 → x1 = 0 ∧ x2 ≤ x3 ∧ x3 ≤ x4) := by omega
theorem o43_43 {x0 x1 x2 x3 x4 x5 x6 x7 x8 x9 x10 x11 : Int} (h0 : 0 ≤ x0) (h1 : x0 ≤ 900) (h2 : 0 ≤ x2) (h3 : x2 ≤ 900) (h4 : (x3 = 24 ∨ x0 < x2)) (h5 : x0 ≤ x2) (h6 : x4 = 23) (h7 : 0 ≤ x5) (h8 : x5 ≤ 1) (h9 : ((x5 = 0 ∧ ¬ (x6 = 0 ∧ x3 = x4)) ∨ (x5 = 1 ∧ x6 = 0 ∧ x3 = x4))) (h10 : ¬ x5 = 0) (h11 : 0 ≤ x7) (h12 : x7 ≤ 900) (h13 : x7 = x0) (h14 : 0 ≤ x8) (h15 : x8 ≤ 900) (h16 : x8 = x2) (h17 : x9 = x3) (h18 : 0 ≤ x1) (h19 : x1 ≤ 900) (h20 : x8 ≤ x1) (h21 : 0 ≤ x10) (h22 : x10 ≤ 900) (h23 : (x11 = 24 ∨ x1 < x10)) (h24 : x1 ≤ x10) : x0 ≤ x1 := by omega
theorem o43_44 {x0 : Int} (h0 : x0 = 2) : 1 ≤ x0 := by omega
theorem o43_45 {x0 : Int} (h0 : x0 = 2) : x0 ≤ 9 := by omega
theorem o43_46 {x0 x1 x2 x3 x4 x5 x6 x7 x8 : Int} (h0 : 0 ≤ x3) (h1 : x3 ≤ 900) (h2 : 0 ≤ x4) (h3 : x4 ≤ 900) (h4 : (x5 = 24 ∨ x3 < x4)) (h5 : x3 ≤ x4) (h6 : x6 = 23) (h7 : 0 ≤ x7) (h8 : x7 ≤ 1) (h9 : ((x7 = 0 ∧ ¬ (x8 = 0 ∧ x5 = x6)) ∨ (x7 = 1 ∧ x8 = 0 ∧ x5 = x6))) (h10 : x7 = 0) (h11 : 0 ≤ x1) (h12 : x1 ≤ 900) (h13 : x1 = x3) (h14 : 0 ≤ x2) (h15 : x2 ≤ 900) (h16 : x2 = x4) (h17 : x0 = x5) : (x0 = 24 ∨ x1 < x2) := by omega
theorem o43_47 {x0 x1 x2 x3 x4 x5 x6 x7 x8 : Int} (h0 : 0 ≤ x2) (h1 : x2 ≤ 900) (h2 : 0 ≤ x3) (h3 : x3 ≤ 900) (h4 : (x4 = 24 ∨ x2 < x3)) (h5 : x2 ≤ x3) (h6 : x5 = 23) (h7 : 0 ≤ x6) (h8 : x6 ≤ 1) (h9 : ((x6 = 0 ∧ ¬ (x7 = 0 ∧ x4 = x5)) ∨ (x6 = 1 ∧ x7 = 0 ∧ x4 = x5))) (h10 : x6 = 0) (h11 : 0 ≤ x0) (h12 : x0 ≤ 900) (h13 : x0 = x2) (h14 : 0 ≤ x1) (h15 : x1 ≤ 900) (h16 : x1 = x3) (h17 : x8 = x4) : x0 ≤ x1 := by omega
theorem o43_48 {x0 x1 x2 x3 x4 x5 x6 x7 x8 x9 x10 x11 x12 x13 : Int} (h0 : 0 ≤ x5) (h1 : x5 ≤ 900) (h2 : 0 ≤ x6) (h3 : x6 ≤ 900) (h4 : (x7 = 24 ∨ x5 < x6)) (h5 : x5 ≤ x6) (h6 : x8 = 23) (h7 : 0 ≤ x9) (h8 : x9 ≤ 1) (h9 : ((x9 = 0 ∧ ¬ (x1 = 0 ∧ x7 = x8)) ∨ (x9 = 1 ∧ x1 = 0 ∧ x7 = x8))) (h10 : x9 = 0) (h11 : 0 ≤ x10) (h12 : x10 ≤ 900) (h13 : x10 = x5) (h14 : 0 ≤ x11) (h15 : x11 ≤ 900) (h16 : x11 = x6) (h17 : x12 = x7) (h18 : ¬ x0 = 0) (h19 : 0 ≤ x3) (h20 : x3 ≤ 999) (h21 : x13 = x0) (h22 : ¬ x13 = 0) : (x0 = 0 → x1 = 0 ∧ x2 ≤ x3 ∧ x3 ≤ x4) := by omega
theorem o43_49 {x0 x1 x2 x3 x4 x5 x6 x7 x8 : Int} (h0 : 0 ≤ x0) (h1 : x0 ≤ 900) (h2 : 0 ≤ x2) (h3 : x2 ≤ 900) (h4 : (x3 = 24 ∨ x0 < x2)) (h5 : x0 ≤ x2) (h6 : x4 = 23) (h7 : 0 ≤ x5) (h8 : x5 ≤ 1) (h9 : ((x5 = 0 ∧ ¬ (x6 = 0 ∧ x3 = x4)) ∨ (x5 = 1 ∧ x6 = 0 ∧ x3 = x4))) (h10 : x5 = 0) (h11 : 0 ≤ x1) (h12 : x1 ≤ 900) (h13 : x1 = x0) (h14 : 0 ≤ x7) (h15 : x7 ≤ 900) (h16 : x7 = x2) (h17 : x8 = x3) : x0 ≤ x1 := by omega
theorem o43_50 {x0 x1 x2 x3 x4 x5 x6 x7 x8 x9 x10 x11 : Int} (h0 : 0 ≤ x3) (h1 : x3 ≤ 900) (h2 : 0 ≤ x4) (h3 : x4 ≤ 900) (h4 : (x5 = 24 ∨ x3 < x4)) (h5 : x3 ≤ x4) (h6 : x6 = 23) (h7 : 0 ≤ x7) (h8 : x7 ≤ 1) (h9 : ((x7 = 0 ∧ ¬ (x8 = 0 ∧ x5 = x6)) ∨ (x7 = 1 ∧ x8 = 0 ∧ x5 = x6))) (h10 : x7 = 0) (h11 : 0 ≤ x9) (h12 : x9 ≤ 900) (h13 : x9 = x3) (h14 : 0 ≤ x10) (h15 : x10 ≤ 900) (h16 : x10 = x4) (h17 : x11 = x5) (h18 : 0 ≤ x1) (h19 : x1 ≤ 900) (h20 : x10 ≤ x1) (h21 : 0 ≤ x2) (h22 : x2 ≤ 900) (h23 : (x0 = 24 ∨ x1 < x2)) (h24 : x1 ≤ x2) : (x0 = 24 ∨ x1 < x2) := by omega
theorem o43_51 {x0 x1 x2 x3 x4 x5 x6 x7 x8 x9 x10 x11 : Int} (h0 : 0 ≤ x2) (h1 : x2 ≤ 900) (h2 : 0 ≤ x3) (h3 : x3 ≤ 900) (h4 : (x4 = 24 ∨ x2 < x3)) (h5 : x2 ≤ x3) (h6 : x5 = 23) (h7 : 0 ≤ x6) (h8 : x6 ≤ 1) (h9 : ((x6 = 0 ∧ ¬ (x7 = 0 ∧ x4 = x5)) ∨ (x6 = 1 ∧ x7 = 0 ∧ x4 = x5))) (h10 : x6 = 0) (h11 : 0 ≤ x8) (h12 : x8 ≤ 900) (h13 : x8 = x2) (h14 : 0 ≤ x9) (h15 : x9 ≤ 900) (h16 : x9 = x3) (h17 : x10 = x4) (h18 : 0 ≤ x0) (h19 : x0 ≤ 900) (h20 : x9 ≤ x0) (h21 : 0 ≤ x1) (h22 : x1 ≤ 900) (h23 : (x11 = 24 ∨ x0 < x1)) (h24 : x0 ≤ x1) : x0 ≤ x1 := by omega
theorem o43_52 {x0 x1 x2 x3 x4 x5 x6 x7 x8 x9 x10 x11 x12 x13 x14 x15 x16 x17 : Int} (h0 : 0 ≤ x5) (h1 : x5 ≤ 900) (h2 : 0 ≤ x6) (h3 : x6 ≤ 900) (h4 : (x7 = 24 ∨ x5 < x6)) (h5 : x5 ≤ x6) (h6 : x8 = 23) (h7 : 0 ≤ x9) (h8 : x9 ≤ 1) (h9 : ((x9 = 0 ∧ ¬ (x1 = 0 ∧ x7 = x8)) ∨ (x9 = 1 ∧ x1 = 0 ∧ x7 = x8))) (h10 : x9 = 0) (h11 : 0 ≤ x10) (h12 : x10 ≤ 900) (h13 : x10 = x5) (h14 : 0 ≤ x11) (h15 : x11 ≤ 900) (h16 : x11 = x6) (h17 : x12 = x7) (h18 : ¬ x13 = 0) (h19 : 0 ≤ x3) (h20 : x3 ≤ 999) (h21 : x14 = x13) (h22 : x14 = 0) (h23 : 0 ≤ x15) (h24 : x15 ≤ 900) (h25 : x11 ≤ x15) (h26 : 0 ≤ x16) (h27 : x16 ≤ 900) (h28 : (x17 = 24 ∨ x15 < x16)) (h29 : x0 = x13) (h30 : x15 ≤ x16) : (x0 = 0 → x1 = 0 ∧ x2 ≤ x3 ∧ x3 ≤ x4) := by omega
theorem o43_53 {x0 x1 x2 x3 x4 x5 x6 x7 x8 x9 x10 x11 : Int} (h0 : 0 ≤ x0) (h1 : x0 ≤ 900) (h2 : 0 ≤ x2) (h3 : x2 ≤ 900) (h4 : (x3 = 24 ∨ x0 < x2)) (h5 : x0 ≤ x2) (h6 : x4 = 23) (h7 : 0 ≤ x5) (h8 : x5 ≤ 1) (h9 : ((x5 = 0 ∧ ¬ (x6 = 0 ∧ x3 = x4)) ∨ (x5 = 1 ∧ x6 = 0 ∧ x3 = x4))) (h10 : x5 = 0) (h11 : 0 ≤ x7) (h12 : x7 ≤ 900) (h13 : x7 = x0) (h14 : 0 ≤ x8) (h15 : x8 ≤ 900) (h16 : x8 = x2) (h17 : x9 = x3) (h18 : 0 ≤ x1) (h19 : x1 ≤ 900) (h20 : x8 ≤ x1) (h21 : 0 ≤ x10) (h22 : x10 ≤ 900) (h23 : (x11 = 24 ∨ x1 < x10)) (h24 : x1 ≤ x10) : x0 ≤ x1 := by omega
theorem o43_54 {x0 : Int} (h0 : x0 = 873) : 0 ≤ x0 := by omega
theorem o43_55 {x0 : Int} (h0 : x0 = 873) : x0 < (1774 : Nat) := by omega
theorem o43_56 : ∀ p, p < 874 → 873 ≤ p → 0 ≤ (elR p).1 ∧ (elR p).2 ≤ 900 := by decide +kernel
theorem o43_57 {x0 : Int} (h0 : x0 = 873) : (x0).toNat < 874 := by omega
theorem o43_58 {x0 : Int} (h0 : x0 = 873) : 873 ≤ (x0).toNat := by omega
theorem o43_59 {x0 : Int} (h0 : x0 = 873) : x0 = ((873 : Nat) : Int) := by omega
theorem o43_60 {x0 x1 x2 x3 x4 : Int} (h0 : 0 ≤ x2) (h1 : x2 ≤ 900) (h2 : (¬ x3 = 0 ∨ x2 ≤ 899)) (h3 : x4 = x3) (h4 : x4 = 0) (h5 : x0 = 874) (h6 : 0 ≤ x1) (h7 : x1 ≤ 900) (h8 : x1 = x2) (h9 : -2147483648 ≤ x0) (h10 : x0 ≤ 2147483647) (h11 : -2147483648 ≤ x1) (h12 : x1 ≤ 2147483647) (h13 : -2147483648 ≤ x2) (h14 : x2 ≤ 2147483647) (h15 : -2147483648 ≤ x3) (h16 : x3 ≤ 2147483647) (h17 : -2147483648 ≤ x4) (h18 : x4 ≤ 2147483647) : -2147483648 ≤ x0 + x1 := by omega
theorem o43_61 {x0 x1 x2 x3 x4 : Int} (h0 : 0 ≤ x2) (h1 : x2 ≤ 900) (h2 : (¬ x3 = 0 ∨ x2 ≤ 899)) (h3 : x4 = x3) (h4 : x4 = 0) (h5 : x0 = 874) (h6 : 0 ≤ x1) (h7 : x1 ≤ 900) (h8 : x1 = x2) (h9 : -2147483648 ≤ x0) (h10 : x0 ≤ 2147483647) (h11 : -2147483648 ≤ x1) (h12 : x1 ≤ 2147483647) (h13 : -2147483648 ≤ x2) (h14 : x2 ≤ 2147483647) (h15 : -2147483648 ≤ x3) (h16 : x3 ≤ 2147483647) (h17 : -2147483648 ≤ x4) (h18 : x4 ≤ 2147483647) : x0 + x1 ≤ 2147483647 := by omega
theorem o43_62 {x0 x1 x2 x3 x4 x5 : Int} (h0 : 0 ≤ x1) (h1 : x1 ≤ 900) (h2 : (¬ x2 = 0 ∨ x1 ≤ 899)) (h3 : x3 = x2) (h4 : x3 = 0) (h5 : x4 = 874) (h6 : 0 ≤ x5) (h7 : x5 ≤ 900) (h8 : x5 = x1) (h9 : x0 = x4 + x5) : 0 ≤ x0 := by omega
theorem o43_63 {x0 x1 x2 x3 x4 x5 : Int} (h0 : 0 ≤ x1) (h1 : x1 ≤ 900) (h2 : (¬ x2 = 0 ∨ x1 ≤ 899)) (h3 : x3 = x2) (h4 : x3 = 0) (h5 : x4 = 874) (h6 : 0 ≤ x5) (h7 : x5 ≤ 900) (h8 : x5 = x1) (h9 : x0 = x4 + x5) : x0 < (1774 : Nat) := by omega
theorem o43_64 : ∀ p, p < 1774 → 874 ≤ p → (elR p).1 ≤ (-2147483648) ∧ 2147483647 ≤ (elR p).2 := by decide +kernel
theorem o43_65 {x0 x1 x2 x3 x4 x5 : Int} (h0 : 0 ≤ x1) (h1 : x1 ≤ 900) (h2 : (¬ x2 = 0 ∨ x1 ≤ 899)) (h3 : x3 = x2) (h4 : x3 = 0) (h5 : x4 = 874) (h6 : 0 ≤ x5) (h7 : x5 ≤ 900) (h8 : x5 = x1) (h9 : x0 = x4 + x5) : (x0).toNat < 1774 := by omega
theorem o43_66 {x0 x1 x2 x3 x4 x5 : Int} (h0 : 0 ≤ x1) (h1 : x1 ≤ 900) (h2 : (¬ x2 = 0 ∨ x1 ≤ 899)) (h3 : x3 = x2) (h4 : x3 = 0) (h5 : x4 = 874) (h6 : 0 ≤ x5) (h7 : x5 ≤ 900) (h8 : x5 = x1) (h9 : x0 = x4 + x5) : 874 ≤ (x0).toNat := by omega
theorem o43_67 {x0 x1 x2 x3 x4 x5 : Int} (h0 : 0 ≤ x1) (h1 : x1 ≤ 900) (h2 : (¬ x2 = 0 ∨ x1 ≤ 899)) (h3 : x3 = x2) (h4 : x3 = 0) (h5 : x4 = 874) (h6 : 0 ≤ x5) (h7 : x5 ≤ 900) (h8 : x5 = x1) (h9 : x0 = x4 + x5) : 873 ≠ (x0).toNat := by omega
theorem o43_68 {x0 x1 x2 x3 x4 x5 x6 x7 : Int} (h0 : 0 ≤ x2) (h1 : x2 ≤ 900) (h2 : (¬ x3 = 0 ∨ x2 ≤ 899)) (h3 : x4 = x3) (h4 : x4 = 0) (h5 : x5 = 874) (h6 : 0 ≤ x6) (h7 : x6 ≤ 900) (h8 : x6 = x2) (h9 : x7 = x5 + x6) (h10 : 0 ≤ x0) (h11 : x0 ≤ 900) (h12 : x0 = x2) (h13 : x1 = 1) (h14 : -2147483648 ≤ x0) (h15 : x0 ≤ 2147483647) (h16 : -2147483648 ≤ x1) (h17 : x1 ≤ 2147483647) (h18 : -2147483648 ≤ x2) (h19 : x2 ≤ 2147483647) (h20 : -2147483648 ≤ x3) (h21 : x3 ≤ 2147483647) (h22 : -2147483648 ≤ x4) (h23 : x4 ≤ 2147483647) (h24 : -2147483648 ≤ x5) (h25 : x5 ≤ 2147483647) (h26 : -2147483648 ≤ x6) (h27 : x6 ≤ 2147483647) (h28 : -2147483648 ≤ x7) (h29 : x7 ≤ 2147483647) : -2147483648 ≤ x0 + x1 := by omega
theorem o43_69 {x0 x1 x2 x3 x4 x5 x6 x7 : Int} (h0 : 0 ≤ x2) (h1 : x2 ≤ 900) (h2 : (¬ x3 = 0 ∨ x2 ≤ 899)) (h3 : x4 = x3) (h4 : x4 = 0) (h5 : x5 = 874) (h6 : 0 ≤ x6) (h7 : x6 ≤ 900) (h8 : x6 = x2) (h9 : x7 = x5 + x6) (h10 : 0 ≤ x0) (h11 : x0 ≤ 900) (h12 : x0 = x2) (h13 : x1 = 1) (h14 : -2147483648 ≤ x0) (h15 : x0 ≤ 2147483647) (h16 : -2147483648 ≤ x1) (h17 : x1 ≤ 2147483647) (h18 : -2147483648 ≤ x2) (h19 : x2 ≤ 2147483647) (h20 : -2147483648 ≤ x3) (h21 : x3 ≤ 2147483647) (h22 : -2147483648 ≤ x4) (h23 : x4 ≤ 2147483647) (h24 : -2147483648 ≤ x5) (h25 : x5 ≤ 2147483647) (h26 : -2147483648 ≤ x6) (h27 : x6 ≤ 2147483647) (h28 : -2147483648 ≤ x7) (h29 : x7 ≤ 2147483647) : x0 + x1 ≤ 2147483647 := by omega
theorem o43_70 : ∀ p, p < 874 → 873 ≤ p → (elR p).1 ≤ 0 ∧ 900 ≤ (elR p).2 := by decide +kernel
theorem o43_71 {x0 x1 x2 x3 x4 x5 x6 x7 x8 : Int} (h0 : 0 ≤ x1) (h1 : x1 ≤ 900) (h2 : (¬ x2 = 0 ∨ x1 ≤ 899)) (h3 : x3 = x2) (h4 : x3 = 0) (h5 : x4 = 874) (h6 : 0 ≤ x5) (h7 : x5 ≤ 900) (h8 : x5 = x1) (h9 : x6 = x4 + x5) (h10 : 0 ≤ x7) (h11 : x7 ≤ 900) (h12 : x7 = x1) (h13 : x8 = 1) (h14 : x0 = x7 + x8) : 0 ≤ x0 := by omega
theorem o43_72 {x0 x1 x2 x3 x4 x5 x6 x7 x8 : Int} (h0 : 0 ≤ x1) (h1 : x1 ≤ 900) (h2 : (¬ x2 = 0 ∨ x1 ≤ 899)) (h3 : x3 = x2) (h4 : x3 = 0) (h5 : x4 = 874) (h6 : 0 ≤ x5) (h7 : x5 ≤ 900) (h8 : x5 = x1) (h9 : x6 = x4 + x5) (h10 : 0 ≤ x7) (h11 : x7 ≤ 900) (h12 : x7 = x1) (h13 : x8 = 1) (h14 : x0 = x7 + x8) : x0 ≤ 900 := by omega
theorem o43_73 {x0 x1 x2 x3 x4 x5 x6 x7 x8 : Int} (h0 : 0 ≤ x2) (h1 : x2 ≤ 900) (h2 : (¬ x0 = 0 ∨ x2 ≤ 899)) (h3 : x3 = x0) (h4 : x3 = 0) (h5 : x4 = 874) (h6 : 0 ≤ x5) (h7 : x5 ≤ 900) (h8 : x5 = x2) (h9 : x6 = x4 + x5) (h10 : 0 ≤ x7) (h11 : x7 ≤ 900) (h12 : x7 = x2) (h13 : x8 = 1) (h14 : x1 = x7 + x8) : ((¬ x0 = 0 ∧ x1 = x2) ∨ (x0 = 0 ∧ x1 = x2 + 1)) := by omega
theorem o43_74 {x0 x1 x2 x3 x4 x5 x6 x7 x8 : Int} (h0 : 0 ≤ x1) (h1 : x1 ≤ 900) (h2 : (¬ x2 = 0 ∨ x1 ≤ 899)) (h3 : x3 = x2) (h4 : x3 = 0) (h5 : x4 = 874) (h6 : 0 ≤ x5) (h7 : x5 ≤ 900) (h8 : x5 = x1) (h9 : x0 = x4 + x5) (h10 : 0 ≤ x6) (h11 : x6 ≤ 900) (h12 : x6 = x1) (h13 : x7 = 1) (h14 : x8 = x6 + x7) : x0 = 874 + x1 := by omega
theorem o43_75 {x0 : Int} (h0 : x0 = 873) : x0 = 873 := by omega
theorem o43_76 {x0 x1 x2 x3 x4 x5 x6 x7 x8 : Int} (h0 : 0 ≤ x0) (h1 : x0 ≤ 900) (h2 : (¬ x1 = 0 ∨ x0 ≤ 899)) (h3 : x2 = x1) (h4 : x2 = 0) (h5 : x3 = 874) (h6 : 0 ≤ x4) (h7 : x4 ≤ 900) (h8 : x4 = x0) (h9 : x5 = x3 + x4) (h10 : 0 ≤ x6) (h11 : x6 ≤ 900) (h12 : x6 = x0) (h13 : x7 = 1) (h14 : x8 = x6 + x7) : 0 ≤ x0 := by omega
theorem o43_77 {x0 x1 x2 x3 x4 x5 x6 x7 x8 : Int} (h0 : 0 ≤ x1) (h1 : x1 ≤ 900) (h2 : (¬ x2 = 0 ∨ x1 ≤ 899)) (h3 : x3 = x2) (h4 : x3 = 0) (h5 : x4 = 874) (h6 : 0 ≤ x5) (h7 : x5 ≤ 900) (h8 : x5 = x1) (h9 : x6 = x4 + x5) (h10 : 0 ≤ x7) (h11 : x7 ≤ 900) (h12 : x7 = x1) (h13 : x8 = 1) (h14 : x0 = x7 + x8) : x0 = x1 + 1 := by omega
theorem o43_78 {x0 x1 x2 : Int} (h0 : 0 ≤ x1) (h1 : x1 ≤ 900) (h2 : (¬ x0 = 0 ∨ x1 ≤ 899)) (h3 : x2 = x0) (h4 : ¬ x2 = 0) : ((¬ x0 = 0 ∧ x1 = x1) ∨ (x0 = 0 ∧ x1 = x1 + 1)) := by omega
theorem o43_79 {x0 x1 x2 : Int} (h0 : 0 ≤ x1) (h1 : x1 ≤ 900) (h2 : (¬ x0 = 0 ∨ x1 ≤ 899)) (h3 : x2 = x0) (h4 : ¬ x2 = 0) : ¬ x0 = 0 := by omega
theorem o43_80 {x0 x1 : Int} (h0 : 0 ≤ x0) (h1 : x0 ≤ 5) (h2 : x1 = 6) (h3 : x0 = x1) : False := by omega
theorem o43_81 {x0 x1 x2 : Int} (h0 : 0 ≤ x2) (h1 : x2 ≤ 900) (h2 : 0 ≤ x1) (h3 : x1 ≤ 900) (h4 : (x0 = 24 ∨ x1 < x2)) (h5 : x1 ≤ x2) : (x0 = 24 ∨ x1 < x2) := by omega
theorem o43_82 {x0 x1 x2 : Int} (h0 : 0 ≤ x1) (h1 : x1 ≤ 900) (h2 : 0 ≤ x0) (h3 : x0 ≤ 900) (h4 : (x2 = 24 ∨ x0 < x1)) (h5 : x0 ≤ x1) : x0 ≤ x1 := by omega
theorem o43_83 {x0 x1 x2 x3 x4 x5 x6 : Int} (h0 : 0 ≤ x2) (h1 : x2 ≤ 900) (h2 : 0 ≤ x3) (h3 : x3 ≤ 900) (h4 : (x4 = 24 ∨ x3 < x2)) (h5 : x3 ≤ x2) (h6 : x5 = x1) (h7 : ¬ x5 = 0) (h8 : x6 = x1) (h9 : ¬ x6 = 0) (h10 : x0 = 0) : ((x0 = 0 ∧ ¬ x1 = 0) ∨ (x0 = 1 ∧ x1 = 0 ∧ x1 = 0 ∧ x2 ≤ x3)) := by omega
theorem o43_84 {x0 x1 x2 : Int} (h0 : 0 ≤ x1) (h1 : x1 ≤ 900) (h2 : 0 ≤ x0) (h3 : x0 ≤ 900) (h4 : (x2 = 24 ∨ x0 < x1)) (h5 : x0 ≤ x1) : x0 ≤ x0 := by omega
theorem o43_85 {x0 x1 x2 x3 x4 x5 x6 : Int} (h0 : 0 ≤ x2) (h1 : x2 ≤ 900) (h2 : 0 ≤ x3) (h3 : x3 ≤ 900) (h4 : (x4 = 24 ∨ x3 < x2)) (h5 : x3 ≤ x2) (h6 : x5 = x1) (h7 : ¬ x5 = 0) (h8 : x6 = x1) (h9 : x6 = 0) (h10 : x0 = 1) : ((x0 = 0 ∧ ¬ x1 = 0) ∨ (x0 = 1 ∧ x1 = 0 ∧ x1 = 0 ∧ x2 ≤ x3)) := by omega
theorem o43_86 {x0 x1 x2 x3 x4 x5 : Int} (h0 : 0 ≤ x3) (h1 : x3 ≤ 900) (h2 : 0 ≤ x4) (h3 : x4 ≤ 900) (h4 : (x5 = 24 ∨ x4 < x3)) (h5 : x4 ≤ x3) (h6 : 0 ≤ x1) (h7 : x1 ≤ 900) (h8 : x3 ≤ x1) (h9 : 0 ≤ x2) (h10 : x2 ≤ 900) (h11 : (x0 = 24 ∨ x1 < x2)) (h12 : x1 ≤ x2) : (x0 = 24 ∨ x1 < x2) := by omega
theorem o43_87 {x0 x1 x2 x3 x4 x5 : Int} (h0 : 0 ≤ x2) (h1 : x2 ≤ 900) (h2 : 0 ≤ x3) (h3 : x3 ≤ 900) (h4 : (x4 = 24 ∨ x3 < x2)) (h5 : x3 ≤ x2) (h6 : 0 ≤ x0) (h7 : x0 ≤ 900) (h8 : x2 ≤ x0) (h9 : 0 ≤ x1) (h10 : x1 ≤ 900) (h11 : (x5 = 24 ∨ x0 < x1)) (h12 : x0 ≤ x1) : x0 ≤ x1 := by omega
theorem o43_88 {x0 x1 x2 x3 x4 x5 x6 x7 x8 x9 x10 : Int} (h0 : 0 ≤ x3) (h1 : x3 ≤ 900) (h2 : 0 ≤ x5) (h3 : x5 ≤ 900) (h4 : (x6 = 24 ∨ x5 < x3)) (h5 : x5 ≤ x3) (h6 : x7 = x2) (h7 : x7 = 0) (h8 : 0 ≤ x4) (h9 : x4 ≤ 900) (h10 : x3 ≤ x4) (h11 : 0 ≤ x8) (h12 : x8 ≤ 900) (h13 : (x9 = 24 ∨ x4 < x8)) (h14 : x1 = x2) (h15 : x4 ≤ x8) (h16 : x10 = x1) (h17 : ¬ x10 = 0) (h18 : x0 = 0) : ((x0 = 0 ∧ ¬ x1 = 0) ∨ (x0 = 1 ∧ x1 = 0 ∧ x2 = 0 ∧ x3 ≤ x4)) := by omega
theorem o43_89 {x0 x1 x2 x3 x4 x5 : Int} (h0 : 0 ≤ x2) (h1 : x2 ≤ 900) (h2 : 0 ≤ x0) (h3 : x0 ≤ 900) (h4 : (x3 = 24 ∨ x0 < x2)) (h5 : x0 ≤ x2) (h6 : 0 ≤ x1) (h7 : x1 ≤ 900) (h8 : x2 ≤ x1) (h9 : 0 ≤ x4) (h10 : x4 ≤ 900) (h11 : (x5 = 24 ∨ x1 < x4)) (h12 : x1 ≤ x4) : x0 ≤ x1 := by omega
theorem o43_90 {x0 x1 x2 x3 x4 x5 x6 x7 x8 x9 x10 : Int} (h0 : 0 ≤ x3) (h1 : x3 ≤ 900) (h2 : 0 ≤ x5) (h3 : x5 ≤ 900) (h4 : (x6 = 24 ∨ x5 < x3)) (h5 : x5 ≤ x3) (h6 : x7 = x2) (h7 : x7 = 0) (h8 : 0 ≤ x4) (h9 : x4 ≤ 900) (h10 : x3 ≤ x4) (h11 : 0 ≤ x8) (h12 : x8 ≤ 900) (h13 : (x9 = 24 ∨ x4 < x8)) (h14 : x1 = x2) (h15 : x4 ≤ x8) (h16 : x10 = x1) (h17 : x10 = 0) (h18 : x0 = 1) : ((x0 = 0 ∧ ¬ x1 = 0) ∨ (x0 = 1 ∧ x1 = 0 ∧ x2 = 0 ∧ x3 ≤ x4)) := by omega
theorem o43_91 {x0 x1 : Int} (h0 : 6 ≤ x0) (h1 : x0 ≤ 6) (h2 : x1 = 6) (h3 : ¬ x0 = x1) : False := by omega
theorem o43_92 {x0 : Int} (h0 : x0 = 4) : 1 ≤ x0 := by omega
theorem o43_93 {x0 : Int} (h0 : x0 = 4) : x0 ≤ 9 := by omega
theorem o43_94 {x0 x1 : Int} (h0 : ¬ x1 = 0) (h1 : x0 = x1) (h2 : x0 = 0) : False := by omega
theorem o43_95 {x0 x1 x2 : Int} (h0 : ¬ x1 = 0) (h1 : x2 = x1) (h2 : ¬ x2 = 0) (h3 : x0 = x1) (h4 : x0 = 0) : False := by omega
theorem o43_96 {x0 : Int} (h0 : x0 = 0) : x0 ≤ 0 := by omega
theorem o43_97 {x0 x1 x2 x3 x4 x5 : Int} (h0 : 0 ≤ x3) (h1 : x3 ≤ 900) (h2 : 0 ≤ x4) (h3 : x4 ≤ 900) (h4 : (x5 = 24 ∨ x3 < x4)) (h5 : x3 ≤ x4) (h6 : 0 ≤ x1) (h7 : x1 ≤ 900) (h8 : x1 = x3) (h9 : 0 ≤ x2) (h10 : x2 ≤ 900) (h11 : x2 = x4) (h12 : x0 = x5) : (x0 = 24 ∨ x1 < x2) := by omega
theorem o43_98 {x0 x1 x2 x3 x4 x5 : Int} (h0 : 0 ≤ x2) (h1 : x2 ≤ 900) (h2 : 0 ≤ x3) (h3 : x3 ≤ 900) (h4 : (x4 = 24 ∨ x2 < x3)) (h5 : x2 ≤ x3) (h6 : 0 ≤ x0) (h7 : x0 ≤ 900) (h8 : x0 = x2) (h9 : 0 ≤ x1) (h10 : x1 ≤ 900) (h11 : x1 = x3) (h12 : x5 = x4) : x0 ≤ x1 := by omega
theorem o43_99 {x0 x1 x2 : Int} (h0 : ¬ x0 = 0) (h1 : x1 = x0) (h2 : ¬ x1 = 0) (h3 : x2 = x0) (h4 : ¬ x2 = 0) : ¬ x0 = 0 := by omega
theorem o43_100 {x0 x1 x2 x3 x4 x5 : Int} (h0 : 0 ≤ x0) (h1 : x0 ≤ 900) (h2 : 0 ≤ x2) (h3 : x2 ≤ 900) (h4 : (x3 = 24 ∨ x0 < x2)) (h5 : x0 ≤ x2) (h6 : 0 ≤ x1) (h7 : x1 ≤ 900) (h8 : x1 = x0) (h9 : 0 ≤ x4) (h10 : x4 ≤ 900) (h11 : x4 = x2) (h12 : x5 = x3) : x0 ≤ x1 := by omega
set_option maxHeartbeats 4000000 in
set_option maxRecDepth 100000 in
theorem c_X12_is (l : Launch) (G : GG) (Z : RZ) (ad : Nat → Nat) (ws0 : va_W) (hT : Ty G (SM tt) ad ws0) (a1 : Int32) : Mq l yX12_is cX12_is 2 (some .boolean) 1 G Z [.ref (ad 0), .int a1] ws0 (PI G (SM tt) ad [] ws0 (fun r u => (0 ≤ r.toInt) ∧ (r.toInt ≤ 1) ∧ (((r.toInt = 0 ∧ ¬ ((fI ws0 0 11).toInt = 0 ∧ (fI ws0 0 9).toInt = a1.toInt)) ∨ (r.toInt = 1 ∧ (fI ws0 0 11).toInt = 0 ∧ (fI ws0 0 9).toInt = a1.toInt))))) := by
  refine Mq.start (by decide) (Nat.le_of_ble_eq_true rfl) ?_
  intro p e s m below meth c A ls C0 hZ h hl
  have hl : lv_has ls 2 [(0, .ref (ad 0)), (1, .int a1)] := hl
  have h : Wt G (SM tt) ad A s s.heap [] ws0 := ⟨h, hT⟩
  obtain ⟨args, hargs⟩ : ∃ z, z = ([.ref (ad 0), .int a1] : List Value).toArray := ⟨_, rfl⟩
  rw [← hargs] at C0 ⊢
  have C0 : Cx p s m args meth c RX12 cX12_is 2 (some .boolean) := C0
  obtain ⟨Q, hQ⟩ : ∃ z, z = MQ below ((PI G (SM tt) ad [] ws0 (fun r u => (0 ≤ r.toInt) ∧ (r.toInt ≤ 1) ∧ (((r.toInt = 0 ∧ ¬ ((fI ws0 0 11).toInt = 0 ∧ (fI ws0 0 9).toInt = a1.toInt)) ∨ (r.toInt = 1 ∧ (fI ws0 0 11).toInt = 0 ∧ (fI ws0 0 9).toInt = a1.toInt))))) A) args s 0 0 A := ⟨_, rfl⟩
  rw [← hQ]
  obtain ⟨f_1, e_2⟩ : ∃ v, fI ws0 0 11 = v := ⟨_, rfl⟩
  have b_3 := ty_fI (k := 11) h.2 kSM_0 rfl rfl
  rw [e_2] at b_3
  obtain ⟨f_4, e_5⟩ : ∃ v, fI ws0 0 9 = v := ⟨_, rfl⟩
  have b_6 := ty_fI (k := 9) h.2 kSM_0 rfl rfl
  rw [e_5] at b_6
  refine lv_aload_n C0.1 C0.2.1 dX12_is_0 rfl (lv_at hl 0 rfl) ?_
  refine ng_X12_wrong C0 h kSM_0 q_1449 dX12_is_1 (fun v_7 e_8 e_9 e_10 => ?_)
  have qh_11 : v_7.toInt = f_1.toInt := congrArg Int32.toInt (e_8.symm.trans (Eq.trans rfl e_2))
  refine y_if_ne (tgt := 19) C0 dX12_is_4 (by decide) (fun c_12 => ?_) (fun c_12 => ?_)
  · -- 4
    refine y_c1 (n := 0) C0 (by decide) dX12_is_19 (fun v_13 e_14 => ?_)
    rw [hQ]
    exact y_zret C0 h (o43_1 e_14) (o43_2 e_14) Fr.rf ⟨(o43_1 e_14), (o43_2 e_14), (by rw [show fI ws0 0 11 = f_1 from e_2, show fI ws0 0 9 = f_4 from e_5] <;> exact (o43_3 qh_11 c_12 e_14))⟩ dX12_is_20
  · -- 4
    refine lv_aload_n C0.1 C0.2.1 dX12_is_7 rfl (lv_at hl 0 rfl) ?_
    refine ng_X12_kind C0 h kSM_0 q_1447 dX12_is_8 (fun v_15 e_16 e_17 e_18 => ?_)
    have qh_19 : v_15.toInt = f_4.toInt := congrArg Int32.toInt (e_16.symm.trans (Eq.trans rfl e_5))
    refine lv_iload_n C0.1 C0.2.1 dX12_is_11 rfl (lv_at hl 1 rfl) ?_
    refine y_icmp_ne (tgt := 19) C0 dX12_is_12 (by decide) (fun c_20 => ?_) (fun c_20 => ?_)
    · -- 12
      refine y_c1 (n := 0) C0 (by decide) dX12_is_19 (fun v_21 e_22 => ?_)
      rw [hQ]
      exact y_zret C0 h (o43_1 e_22) (o43_2 e_22) Fr.rf ⟨(o43_1 e_22), (o43_2 e_22), (by rw [show fI ws0 0 11 = f_1 from e_2, show fI ws0 0 9 = f_4 from e_5] <;> exact (o43_4 qh_11 c_12 qh_19 c_20 e_22))⟩ dX12_is_20
    · -- 12
      refine y_c1 (n := 1) C0 (by decide) dX12_is_15 (fun v_23 e_24 => ?_)
      refine lv_goto (tgt := 20) C0.1 C0.2.1 dX12_is_16 (by decide) ?_
      rw [hQ]
      exact y_zret C0 h (o43_5 e_24) (o43_6 e_24) Fr.rf ⟨(o43_5 e_24), (o43_6 e_24), (by rw [show fI ws0 0 11 = f_1 from e_2, show fI ws0 0 9 = f_4 from e_5] <;> exact (o43_7 qh_11 c_12 qh_19 c_20 e_24))⟩ dX12_is_20
set_option maxHeartbeats 4000000 in
set_option maxRecDepth 100000 in
theorem c_X12_fails (l : Launch) (G : GG) (Z : RZ) (ad : Nat → Nat) (ws0 : va_W) (hT : Ty G (SM tt) ad ws0) (a1 : Int32) (l1 : 1 ≤ a1.toInt) (u1 : a1.toInt ≤ 9) : Mq l yX12_fails cX12_fails 2 none 1 G Z [.ref (ad 0), .int a1] ws0 (PV G (SM tt) ad [0] ws0 (fun u => ((fI u 0 6).toInt = (fI ws0 0 6).toInt) ∧ ((fI u 0 7).toInt = (fI ws0 0 7).toInt) ∧ ((fI u 0 9).toInt = (fI ws0 0 9).toInt) ∧ (¬ (fI u 0 11).toInt = 0))) := by
  refine Mq.start (by decide) (Nat.le_of_ble_eq_true rfl) ?_
  intro p e s m below meth c A ls C0 hZ h hl
  have hl : lv_has ls 2 [(0, .ref (ad 0)), (1, .int a1)] := hl
  have h : Wt G (SM tt) ad A s s.heap [] ws0 := ⟨h, hT⟩
  obtain ⟨args, hargs⟩ : ∃ z, z = ([.ref (ad 0), .int a1] : List Value).toArray := ⟨_, rfl⟩
  rw [← hargs] at C0 ⊢
  have C0 : Cx p s m args meth c RX12 cX12_fails 2 none := C0
  obtain ⟨Q, hQ⟩ : ∃ z, z = MQ below ((PV G (SM tt) ad [0] ws0 (fun u => ((fI u 0 6).toInt = (fI ws0 0 6).toInt) ∧ ((fI u 0 7).toInt = (fI ws0 0 7).toInt) ∧ ((fI u 0 9).toInt = (fI ws0 0 9).toInt) ∧ (¬ (fI u 0 11).toInt = 0))) A) args s 0 0 A := ⟨_, rfl⟩
  rw [← hQ]
  obtain ⟨f_1, e_2⟩ : ∃ v, fI ws0 0 6 = v := ⟨_, rfl⟩
  have b_3 := ty_fI (k := 6) h.2 kSM_0 rfl rfl
  rw [e_2] at b_3
  obtain ⟨f_4, e_5⟩ : ∃ v, fI ws0 0 7 = v := ⟨_, rfl⟩
  have b_6 := ty_fI (k := 7) h.2 kSM_0 rfl rfl
  rw [e_5] at b_6
  obtain ⟨f_7, e_8⟩ : ∃ v, fI ws0 0 9 = v := ⟨_, rfl⟩
  have b_9 := ty_fI (k := 9) h.2 kSM_0 rfl rfl
  rw [e_8] at b_9
  refine lv_aload_n C0.1 C0.2.1 dX12_fails_0 rfl (lv_at hl 0 rfl) ?_
  refine ng_X12_wrong C0 h kSM_0 q_1449 dX12_fails_1 (fun v_10 e_11 e_12 e_13 => ?_)
  refine y_if_eq (tgt := 8) C0 dX12_fails_4 (by decide) (fun c_14 => ?_) (fun c_14 => ?_)
  · -- 4
    refine lv_aload_n C0.1 C0.2.1 dX12_fails_8 rfl (lv_at hl 0 rfl) ?_
    refine lv_aload_n C0.1 C0.2.1 dX12_fails_9 rfl (lv_at hl 0 rfl) ?_
    refine ng_X12_kind C0 h kSM_0 q_1447 dX12_fails_10 (fun v_15 e_16 e_17 e_18 => ?_)
    have qh_19 : v_15.toInt = f_7.toInt := congrArg Int32.toInt (e_16.symm.trans (Eq.trans rfl e_8))
    refine y_c2 (n := 25) C0 (by decide) dX12_fails_13 (fun v_20 e_21 => ?_)
    refine y_icmp_ne (tgt := 22) C0 dX12_fails_15 (by decide) (fun c_22 => ?_) (fun c_22 => ?_)
    · -- 15
      refine lv_iload_n C0.1 C0.2.1 dX12_fails_22 rfl (lv_at hl 1 rfl) ?_
      refine np_X12_wrong C0 h kSM_0 q_1449 (le_min a1) (le_max a1) dX12_fails_23 (fun H locs ws_23 h u_24 => ?_)
      refine lv_aload_n C0.1 C0.2.1 dX12_fails_26 rfl (lv_at hl 0 rfl) ?_
      refine lv_aload_n C0.1 C0.2.1 dX12_fails_27 rfl (lv_at hl 0 rfl) ?_
      refine ng_X12_at C0 h kSM_0 q_1444 dX12_fails_28 (fun v_25 e_26 e_27 e_28 => ?_)
      have qh_29 : v_25.toInt = f_1.toInt := congrArg Int32.toInt (e_26.symm.trans (Eq.trans (u_24.2.2 6 (by decide)) e_2))
      refine np_X12_wrongAt C0 h kSM_0 q_1450 (le_min v_25) (le_max v_25) dX12_fails_31 (fun H locs ws_30 h u_31 => ?_)
      rw [hQ]
      exact y_vret C0 h (Fr.tr (Fr.up u_24.1 kSM_0 (by decide)) (Fr.up u_31.1 kSM_0 (by decide))) ⟨(by rw [show fI ws_30 0 6 = f_1 from (Eq.trans (Eq.trans (u_31.2.2 6 (by decide)) (u_24.2.2 6 (by decide))) e_2), show fI ws0 0 6 = f_1 from e_2] <;> exact (o43_8 b_3.1 b_3.2 e_27 e_28 qh_29)), (by rw [show fI ws_30 0 7 = f_4 from (Eq.trans (Eq.trans (u_31.2.2 7 (by decide)) (u_24.2.2 7 (by decide))) e_5), show fI ws0 0 7 = f_4 from e_5] <;> exact (o43_9 b_6.1 b_6.2)), (by rw [show fI ws_30 0 9 = f_7 from (Eq.trans (Eq.trans (u_31.2.2 9 (by decide)) (u_24.2.2 9 (by decide))) e_8), show fI ws0 0 9 = f_7 from e_8] <;> exact (o43_10 qh_19 e_21 c_22)), (by rw [show fI ws_30 0 11 = a1 from (Eq.trans (u_31.2.2 11 (by decide)) u_24.2.1)] <;> exact (o43_11 l1 u1))⟩ dX12_fails_34
    · -- 15
      refine y_c1 (n := 1) C0 (by decide) dX12_fails_18 (fun v_32 e_33 => ?_)
      refine lv_goto (tgt := 23) C0.1 C0.2.1 dX12_fails_19 (by decide) ?_
      refine np_X12_wrong C0 h kSM_0 q_1449 (le_min v_32) (le_max v_32) dX12_fails_23 (fun H locs ws_34 h u_35 => ?_)
      refine lv_aload_n C0.1 C0.2.1 dX12_fails_26 rfl (lv_at hl 0 rfl) ?_
      refine lv_aload_n C0.1 C0.2.1 dX12_fails_27 rfl (lv_at hl 0 rfl) ?_
      refine ng_X12_at C0 h kSM_0 q_1444 dX12_fails_28 (fun v_36 e_37 e_38 e_39 => ?_)
      have qh_40 : v_36.toInt = f_1.toInt := congrArg Int32.toInt (e_37.symm.trans (Eq.trans (u_35.2.2 6 (by decide)) e_2))
      refine np_X12_wrongAt C0 h kSM_0 q_1450 (le_min v_36) (le_max v_36) dX12_fails_31 (fun H locs ws_41 h u_42 => ?_)
      rw [hQ]
      exact y_vret C0 h (Fr.tr (Fr.up u_35.1 kSM_0 (by decide)) (Fr.up u_42.1 kSM_0 (by decide))) ⟨(by rw [show fI ws_41 0 6 = f_1 from (Eq.trans (Eq.trans (u_42.2.2 6 (by decide)) (u_35.2.2 6 (by decide))) e_2), show fI ws0 0 6 = f_1 from e_2] <;> exact (o43_8 b_3.1 b_3.2 e_38 e_39 qh_40)), (by rw [show fI ws_41 0 7 = f_4 from (Eq.trans (Eq.trans (u_42.2.2 7 (by decide)) (u_35.2.2 7 (by decide))) e_5), show fI ws0 0 7 = f_4 from e_5] <;> exact (o43_9 b_6.1 b_6.2)), (by rw [show fI ws_41 0 9 = f_7 from (Eq.trans (Eq.trans (u_42.2.2 9 (by decide)) (u_35.2.2 9 (by decide))) e_8), show fI ws0 0 9 = f_7 from e_8] <;> exact (o43_12 qh_19 e_21 c_22)), (by rw [show fI ws_41 0 11 = v_32 from (Eq.trans (u_42.2.2 11 (by decide)) u_35.2.1)] <;> exact (o43_13 e_33))⟩ dX12_fails_34
  · -- 4
    rw [hQ]
    exact y_vret C0 h Fr.rf ⟨(by rw [show fI ws0 0 6 = f_1 from (Eq.trans rfl e_2)] <;> exact (o43_9 b_3.1 b_3.2)), (by rw [show fI ws0 0 7 = f_4 from (Eq.trans rfl e_5)] <;> exact (o43_9 b_6.1 b_6.2)), (by rw [show fI ws0 0 9 = f_7 from (Eq.trans rfl e_8)] <;> exact (o43_14)), (by rw [show fI ws0 0 11 = v_10 from (Eq.trans rfl e_11)] <;> exact (o43_15 c_14))⟩ dX12_fails_7
set_option maxHeartbeats 4000000 in
set_option maxRecDepth 100000 in
theorem c_X12_eats (l : Launch) (G : GG) (Z : RZ) (ad : Nat → Nat) (ws0 : va_W) (hT : Ty G (SM tt) ad ws0) (a1 : Int32) (pre0 : ((fI ws0 0 9).toInt = 24 ∨ (fI ws0 0 6).toInt < (fI ws0 0 7).toInt)) (pre1 : (fI ws0 0 6).toInt ≤ (fI ws0 0 7).toInt) : Mq l yX12_eats cX12_eats 2 (some .boolean) 7 G Z [.ref (ad 0), .int a1] ws0 (PI G (SM tt) ad [0] ws0 (fun r u => (0 ≤ r.toInt) ∧ (r.toInt ≤ 1) ∧ (((fI u 0 9).toInt = 24 ∨ (fI u 0 6).toInt < (fI u 0 7).toInt)) ∧ ((fI u 0 6).toInt ≤ (fI u 0 7).toInt) ∧ (((r.toInt = 0 ∧ (fI u 0 6).toInt = (fI ws0 0 6).toInt ∧ (fI u 0 7).toInt = (fI ws0 0 7).toInt ∧ (fI u 0 9).toInt = (fI ws0 0 9).toInt ∧ (fI u 0 11).toInt = (fI ws0 0 11).toInt ∧ ¬ ((fI ws0 0 11).toInt = 0 ∧ (fI ws0 0 9).toInt = a1.toInt)) ∨ (r.toInt = 1 ∧ (fI ws0 0 7).toInt ≤ (fI u 0 6).toInt ∧ (fI u 0 11).toInt = 0 ∧ (fI ws0 0 11).toInt = 0 ∧ (fI ws0 0 9).toInt = a1.toInt))))) := by
  refine Mq.start (by decide) (Nat.le_of_ble_eq_true rfl) ?_
  intro p e s m below meth c A ls C0 hZ h hl
  have hl : lv_has ls 2 [(0, .ref (ad 0)), (1, .int a1)] := hl
  have h : Wt G (SM tt) ad A s s.heap [] ws0 := ⟨h, hT⟩
  obtain ⟨args, hargs⟩ : ∃ z, z = ([.ref (ad 0), .int a1] : List Value).toArray := ⟨_, rfl⟩
  rw [← hargs] at C0 ⊢
  have C0 : Cx p s m args meth c RX12 cX12_eats 2 (some .boolean) := C0
  obtain ⟨Q, hQ⟩ : ∃ z, z = MQ below ((PI G (SM tt) ad [0] ws0 (fun r u => (0 ≤ r.toInt) ∧ (r.toInt ≤ 1) ∧ (((fI u 0 9).toInt = 24 ∨ (fI u 0 6).toInt < (fI u 0 7).toInt)) ∧ ((fI u 0 6).toInt ≤ (fI u 0 7).toInt) ∧ (((r.toInt = 0 ∧ (fI u 0 6).toInt = (fI ws0 0 6).toInt ∧ (fI u 0 7).toInt = (fI ws0 0 7).toInt ∧ (fI u 0 9).toInt = (fI ws0 0 9).toInt ∧ (fI u 0 11).toInt = (fI ws0 0 11).toInt ∧ ¬ ((fI ws0 0 11).toInt = 0 ∧ (fI ws0 0 9).toInt = a1.toInt)) ∨ (r.toInt = 1 ∧ (fI ws0 0 7).toInt ≤ (fI u 0 6).toInt ∧ (fI u 0 11).toInt = 0 ∧ (fI ws0 0 11).toInt = 0 ∧ (fI ws0 0 9).toInt = a1.toInt))))) A) args s 0 0 A := ⟨_, rfl⟩
  rw [← hQ]
  obtain ⟨f_1, e_2⟩ : ∃ v, fI ws0 0 6 = v := ⟨_, rfl⟩
  have b_3 := ty_fI (k := 6) h.2 kSM_0 rfl rfl
  rw [e_2] at b_3
  obtain ⟨f_4, e_5⟩ : ∃ v, fI ws0 0 7 = v := ⟨_, rfl⟩
  have b_6 := ty_fI (k := 7) h.2 kSM_0 rfl rfl
  rw [e_5] at b_6
  obtain ⟨f_7, e_8⟩ : ∃ v, fI ws0 0 9 = v := ⟨_, rfl⟩
  have b_9 := ty_fI (k := 9) h.2 kSM_0 rfl rfl
  rw [e_8] at b_9
  obtain ⟨f_10, e_11⟩ : ∃ v, fI ws0 0 11 = v := ⟨_, rfl⟩
  have b_12 := ty_fI (k := 11) h.2 kSM_0 rfl rfl
  rw [e_11] at b_12
  rw [show fI ws0 0 9 = f_7 from e_8, show fI ws0 0 6 = f_1 from e_2, show fI ws0 0 7 = f_4 from e_5] at pre0
  rw [show fI ws0 0 6 = f_1 from e_2, show fI ws0 0 7 = f_4 from e_5] at pre1
  refine lv_aload_n C0.1 C0.2.1 dX12_eats_0 rfl (lv_at hl 0 rfl) ?_
  refine lv_iload_n C0.1 C0.2.1 dX12_eats_1 rfl (lv_at hl 1 rfl) ?_
  refine y_ci h (y_rV (As := [.int a1]) (rest := []) C0 hZ h (c_X12_is l G Z ad _ h.2 a1) k_X12_is q_1610 q_60 q_1608 kSM_0 rfl rfl rfl hl.1 rfl rfl (Nat.le_of_ble_eq_true rfl) dX12_eats_2 ⟨Nat.le_of_ble_eq_true rfl, Nat.le_of_ble_eq_true rfl⟩ ⟨Nat.le_of_ble_eq_true rfl, Nat.le_of_ble_eq_true rfl⟩) (fun r_16 H locs ws_13 h u_14 p_15 => ?_)
  obtain ⟨e_17, e_18, e_19⟩ := p_15
  have e_20 := e_19
  rw [show fI ws0 0 11 = f_10 from (Eq.trans rfl e_11), show fI ws0 0 9 = f_7 from (Eq.trans rfl e_8)] at e_20
  refine y_if_ne (tgt := 10) C0 dX12_eats_5 (by decide) (fun c_21 => ?_) (fun c_21 => ?_)
  · -- 5
    refine lv_aload_n C0.1 C0.2.1 dX12_eats_10 rfl (lv_at hl 0 rfl) ?_
    refine y_cv h (y_rV (As := []) (rest := []) C0 hZ h (c_X12_next l G Z ad _ h.2) k_X12_next q_1584 q_56 q_1582 kSM_0 rfl rfl rfl hl.1 rfl rfl (Nat.le_of_ble_eq_true rfl) dX12_eats_11 ⟨Nat.le_of_ble_eq_true rfl, Nat.le_of_ble_eq_true rfl⟩ ⟨Nat.le_of_ble_eq_true rfl, Nat.le_of_ble_eq_true rfl⟩) (fun H locs ws_22 h u_23 p_24 => ?_)
    obtain ⟨e_25, e_26, e_27, e_28⟩ := p_24
    obtain ⟨f_29, e_30⟩ : ∃ v, fI ws_22 0 6 = v := ⟨_, rfl⟩
    have b_31 := ty_fI (k := 6) h.2 kSM_0 rfl rfl
    rw [e_30] at b_31
    have e_32 := e_25
    rw [show fI ws_13 0 7 = f_4 from (Eq.trans (Fr.fI u_14 kSM_0 (by decide)) e_5), show fI ws_22 0 6 = f_29 from e_30] at e_32
    obtain ⟨f_33, e_34⟩ : ∃ v, fI ws_22 0 9 = v := ⟨_, rfl⟩
    have b_35 := ty_fI (k := 9) h.2 kSM_0 rfl rfl
    rw [e_34] at b_35
    obtain ⟨f_36, e_37⟩ : ∃ v, fI ws_22 0 7 = v := ⟨_, rfl⟩
    have b_38 := ty_fI (k := 7) h.2 kSM_0 rfl rfl
    rw [e_37] at b_38
    have e_39 := e_26
    rw [show fI ws_22 0 9 = f_33 from e_34, show fI ws_22 0 6 = f_29 from (Eq.trans rfl e_30), show fI ws_22 0 7 = f_36 from e_37] at e_39
    obtain ⟨f_40, e_41⟩ : ∃ v, fI ws_22 0 11 = v := ⟨_, rfl⟩
    have b_42 := ty_fI (k := 11) h.2 kSM_0 rfl rfl
    rw [e_41] at b_42
    have e_43 := e_27
    rw [show fI ws_22 0 11 = f_40 from e_41, show fI ws_13 0 11 = f_10 from (Eq.trans (Fr.fI u_14 kSM_0 (by decide)) e_11)] at e_43
    have e_44 := e_28
    rw [show fI ws_22 0 6 = f_29 from (Eq.trans rfl e_30), show fI ws_22 0 7 = f_36 from (Eq.trans rfl e_37)] at e_44
    refine y_c1 (n := 1) C0 (by decide) dX12_eats_14 (fun v_45 e_46 => ?_)
    rw [hQ]
    exact y_zret C0 h (o43_5 e_46) (o43_6 e_46) (Fr.tr (Fr.mono u_14 (by decide)) u_23) ⟨(o43_5 e_46), (o43_6 e_46), (by rw [show fI ws_22 0 9 = f_33 from (Eq.trans rfl e_34), show fI ws_22 0 6 = f_29 from (Eq.trans rfl e_30), show fI ws_22 0 7 = f_36 from (Eq.trans rfl e_37)] <;> exact (o43_16 b_3.1 b_3.2 b_6.1 b_6.2 pre0 pre1 e_17 e_18 e_20 c_21 b_31.1 b_31.2 e_32 b_38.1 b_38.2 e_39 e_43 e_44)), (by rw [show fI ws_22 0 6 = f_29 from (Eq.trans rfl e_30), show fI ws_22 0 7 = f_36 from (Eq.trans rfl e_37)] <;> exact (o43_17 b_3.1 b_3.2 b_6.1 b_6.2 pre0 pre1 e_17 e_18 e_20 c_21 b_31.1 b_31.2 e_32 b_38.1 b_38.2 e_39 e_43 e_44)), (by rw [show fI ws_22 0 6 = f_29 from (Eq.trans rfl e_30), show fI ws0 0 6 = f_1 from e_2, show fI ws_22 0 7 = f_36 from (Eq.trans rfl e_37), show fI ws0 0 7 = f_4 from e_5, show fI ws_22 0 9 = f_33 from (Eq.trans rfl e_34), show fI ws0 0 9 = f_7 from e_8, show fI ws_22 0 11 = f_40 from (Eq.trans rfl e_41), show fI ws0 0 11 = f_10 from e_11] <;> exact (o43_18 b_3.1 b_3.2 b_6.1 b_6.2 pre0 pre1 e_17 e_18 e_20 c_21 b_31.1 b_31.2 e_32 b_38.1 b_38.2 e_39 e_43 e_44 e_46))⟩ dX12_eats_15
  · -- 5
    refine y_c1 (n := 0) C0 (by decide) dX12_eats_8 (fun v_47 e_48 => ?_)
    rw [hQ]
    exact y_zret C0 h (o43_1 e_48) (o43_2 e_48) (Fr.mono u_14 (by decide)) ⟨(o43_1 e_48), (o43_2 e_48), (by rw [show fI ws_13 0 9 = f_7 from (Eq.trans (Fr.fI u_14 kSM_0 (by decide)) e_8), show fI ws_13 0 6 = f_1 from (Eq.trans (Fr.fI u_14 kSM_0 (by decide)) e_2), show fI ws_13 0 7 = f_4 from (Eq.trans (Fr.fI u_14 kSM_0 (by decide)) e_5)] <;> exact (o43_19 b_3.1 b_3.2 b_6.1 b_6.2 pre0 pre1 e_17 e_18 e_20 c_21)), (by rw [show fI ws_13 0 6 = f_1 from (Eq.trans (Fr.fI u_14 kSM_0 (by decide)) e_2), show fI ws_13 0 7 = f_4 from (Eq.trans (Fr.fI u_14 kSM_0 (by decide)) e_5)] <;> exact (o43_20 b_3.1 b_3.2 b_6.1 b_6.2 pre0 pre1 e_17 e_18 e_20 c_21)), (by rw [show fI ws_13 0 6 = f_1 from (Eq.trans (Fr.fI u_14 kSM_0 (by decide)) e_2), show fI ws0 0 6 = f_1 from e_2, show fI ws_13 0 7 = f_4 from (Eq.trans (Fr.fI u_14 kSM_0 (by decide)) e_5), show fI ws0 0 7 = f_4 from e_5, show fI ws_13 0 9 = f_7 from (Eq.trans (Fr.fI u_14 kSM_0 (by decide)) e_8), show fI ws0 0 9 = f_7 from e_8, show fI ws_13 0 11 = f_10 from (Eq.trans (Fr.fI u_14 kSM_0 (by decide)) e_11), show fI ws0 0 11 = f_10 from e_11] <;> exact (o43_21 b_3.1 b_3.2 b_6.1 b_6.2 pre0 pre1 e_17 e_18 e_20 c_21 e_48))⟩ dX12_eats_9
set_option maxHeartbeats 4000000 in
set_option maxRecDepth 100000 in
theorem c_X12_takes (l : Launch) (G : GG) (Z : RZ) (ad : Nat → Nat) (ws0 : va_W) (hT : Ty G (SM tt) ad ws0) (a1 : Int32) (a2 : Int32) (pre0 : ((fI ws0 0 9).toInt = 24 ∨ (fI ws0 0 6).toInt < (fI ws0 0 7).toInt)) (pre1 : (fI ws0 0 6).toInt ≤ (fI ws0 0 7).toInt) : Mq l yX12_takes cX12_takes 4 (some .int) 7 G Z [.ref (ad 0), .int a1, .int a2] ws0 (PI G (SM tt) ad [0] ws0 (fun r u => (0 ≤ r.toInt) ∧ (r.toInt ≤ 999) ∧ (((fI u 0 9).toInt = 24 ∨ (fI u 0 6).toInt < (fI u 0 7).toInt)) ∧ ((fI u 0 6).toInt ≤ (fI u 0 7).toInt) ∧ (((fI u 0 11).toInt = 0 → (fI ws0 0 11).toInt = 0 ∧ a1.toInt ≤ r.toInt ∧ r.toInt ≤ a2.toInt)) ∧ ((fI ws0 0 6).toInt ≤ (fI u 0 6).toInt))) := by
  refine Mq.start (by decide) (Nat.le_of_ble_eq_true rfl) ?_
  intro p e s m below meth c A ls C0 hZ h hl
  have hl : lv_has ls 4 [(0, .ref (ad 0)), (1, .int a1), (2, .int a2)] := hl
  have h : Wt G (SM tt) ad A s s.heap [] ws0 := ⟨h, hT⟩
  obtain ⟨args, hargs⟩ : ∃ z, z = ([.ref (ad 0), .int a1, .int a2] : List Value).toArray := ⟨_, rfl⟩
  rw [← hargs] at C0 ⊢
  have C0 : Cx p s m args meth c RX12 cX12_takes 4 (some .int) := C0
  obtain ⟨Q, hQ⟩ : ∃ z, z = MQ below ((PI G (SM tt) ad [0] ws0 (fun r u => (0 ≤ r.toInt) ∧ (r.toInt ≤ 999) ∧ (((fI u 0 9).toInt = 24 ∨ (fI u 0 6).toInt < (fI u 0 7).toInt)) ∧ ((fI u 0 6).toInt ≤ (fI u 0 7).toInt) ∧ (((fI u 0 11).toInt = 0 → (fI ws0 0 11).toInt = 0 ∧ a1.toInt ≤ r.toInt ∧ r.toInt ≤ a2.toInt)) ∧ ((fI ws0 0 6).toInt ≤ (fI u 0 6).toInt))) A) args s 0 0 A := ⟨_, rfl⟩
  rw [← hQ]
  obtain ⟨f_1, e_2⟩ : ∃ v, fI ws0 0 11 = v := ⟨_, rfl⟩
  have b_3 := ty_fI (k := 11) h.2 kSM_0 rfl rfl
  rw [e_2] at b_3
  obtain ⟨f_4, e_5⟩ : ∃ v, fI ws0 0 6 = v := ⟨_, rfl⟩
  have b_6 := ty_fI (k := 6) h.2 kSM_0 rfl rfl
  rw [e_5] at b_6
  obtain ⟨f_7, e_8⟩ : ∃ v, fI ws0 0 9 = v := ⟨_, rfl⟩
  have b_9 := ty_fI (k := 9) h.2 kSM_0 rfl rfl
  rw [e_8] at b_9
  obtain ⟨f_10, e_11⟩ : ∃ v, fI ws0 0 7 = v := ⟨_, rfl⟩
  have b_12 := ty_fI (k := 7) h.2 kSM_0 rfl rfl
  rw [e_11] at b_12
  rw [show fI ws0 0 9 = f_7 from e_8, show fI ws0 0 6 = f_4 from e_5, show fI ws0 0 7 = f_10 from e_11] at pre0
  rw [show fI ws0 0 6 = f_4 from e_5, show fI ws0 0 7 = f_10 from e_11] at pre1
  refine lv_aload_n C0.1 C0.2.1 dX12_takes_0 rfl (lv_at hl 0 rfl) ?_
  refine y_c2 (n := 23) C0 (by decide) dX12_takes_1 (fun v_13 e_14 => ?_)
  refine y_ci h (y_rV (As := [.int v_13]) (rest := []) C0 hZ h (c_X12_is l G Z ad _ h.2 v_13) k_X12_is q_1610 q_60 q_1608 kSM_0 rfl rfl rfl hl.1 rfl rfl (Nat.le_of_ble_eq_true rfl) dX12_takes_3 ⟨Nat.le_of_ble_eq_true rfl, Nat.le_of_ble_eq_true rfl⟩ ⟨Nat.le_of_ble_eq_true rfl, Nat.le_of_ble_eq_true rfl⟩) (fun r_18 H locs ws_15 h u_16 p_17 => ?_)
  obtain ⟨e_19, e_20, e_21⟩ := p_17
  have e_22 := e_21
  rw [show fI ws0 0 11 = f_1 from (Eq.trans rfl e_2), show fI ws0 0 9 = f_7 from (Eq.trans rfl e_8)] at e_22
  refine y_if_ne (tgt := 17) C0 dX12_takes_6 (by decide) (fun c_23 => ?_) (fun c_23 => ?_)
  · -- 6
    refine lv_aload_n C0.1 C0.2.1 dX12_takes_17 rfl (lv_at hl 0 rfl) ?_
    refine ng_X12_number C0 h kSM_0 q_1448 dX12_takes_18 (fun v_24 e_25 e_26 e_27 => ?_)
    refine y_i2l C0 dX12_takes_21 (fun w_28 e_29 => ?_)
    refine lv_iload_n C0.1 C0.2.1 dX12_takes_22 rfl (lv_at hl 1 rfl) ?_
    refine y_i2l C0 dX12_takes_23 (fun w_30 e_31 => ?_)
    refine lv_iload_n C0.1 C0.2.1 dX12_takes_24 rfl (lv_at hl 2 rfl) ?_
    refine y_i2l C0 dX12_takes_25 (fun w_32 e_33 => ?_)
    refine y_ci h (y_rS (As := [.long w_28, .long w_30, .long w_32]) (rest := []) C0 hZ h (c_X12_within l G Z ad _ h.2 w_28 w_30 w_32) k_X12_within q_1580 q_1579 hl.1 rfl rfl (Nat.le_of_ble_eq_true rfl) dX12_takes_26 ⟨Nat.le_of_ble_eq_true rfl, Nat.le_of_ble_eq_true rfl⟩ ⟨Nat.le_of_ble_eq_true rfl, Nat.le_of_ble_eq_true rfl⟩) (fun r_37 H locs ws_34 h u_35 p_36 => ?_)
    obtain ⟨e_38, e_39, e_40⟩ := p_36
    refine y_if_ne (tgt := 37) C0 dX12_takes_29 (by decide) (fun c_41 => ?_) (fun c_41 => ?_)
    · -- 29
      refine lv_aload_n C0.1 C0.2.1 dX12_takes_37 rfl (lv_at hl 0 rfl) ?_
      refine ng_X12_number C0 h kSM_0 q_1448 dX12_takes_38 (fun v_42 e_43 e_44 e_45 => ?_)
      have qh_46 : v_42.toInt = v_24.toInt := congrArg Int32.toInt (e_43.symm.trans (Eq.trans (Fr.fI u_35 kSM_0 (by decide)) e_25))
      refine lv_istore_n (lv' := [(3, .int v_42), (0, .ref (ad 0)), (1, .int a1), (2, .int a2)]) C0.1 C0.2.1 dX12_takes_41 rfl hl (by decide) rfl (fun ls hl => ?_)
      refine lv_aload_n C0.1 C0.2.1 dX12_takes_42 rfl (lv_at hl 1 rfl) ?_
      refine ng_X12_wrong C0 h kSM_0 q_1449 dX12_takes_43 (fun v_47 e_48 e_49 e_50 => ?_)
      have qh_51 : v_47.toInt = f_1.toInt := congrArg Int32.toInt (e_48.symm.trans (Eq.trans (Eq.trans (Fr.fI u_35 kSM_0 (by decide)) (Fr.fI u_16 kSM_0 (by decide))) e_2))
      refine y_if_ne (tgt := 53) C0 dX12_takes_46 (by decide) (fun c_52 => ?_) (fun c_52 => ?_)
      · -- 46
        refine lv_iload_n C0.1 C0.2.1 dX12_takes_53 rfl (lv_at hl 0 rfl) ?_
        rw [hQ]
        exact y_iret C0 h (Fr.tr (Fr.mono u_16 (by decide)) (Fr.mono u_35 (by decide))) ⟨(o43_22 e_26 e_27 e_29 e_31 e_33 e_38 e_39 e_40 c_41 e_44 e_45 qh_46), (o43_23 e_26 e_27 e_29 e_31 e_33 e_38 e_39 e_40 c_41 e_44 e_45 qh_46), (by rw [show fI ws_34 0 9 = f_7 from (Eq.trans (Eq.trans (Fr.fI u_35 kSM_0 (by decide)) (Fr.fI u_16 kSM_0 (by decide))) e_8), show fI ws_34 0 6 = f_4 from (Eq.trans (Eq.trans (Fr.fI u_35 kSM_0 (by decide)) (Fr.fI u_16 kSM_0 (by decide))) e_5), show fI ws_34 0 7 = f_10 from (Eq.trans (Eq.trans (Fr.fI u_35 kSM_0 (by decide)) (Fr.fI u_16 kSM_0 (by decide))) e_11)] <;> exact (o43_24 b_6.1 b_6.2 b_12.1 b_12.2 pre0 pre1 e_14 e_19 e_20 e_22 c_23 qh_51 c_52)), (by rw [show fI ws_34 0 6 = f_4 from (Eq.trans (Eq.trans (Fr.fI u_35 kSM_0 (by decide)) (Fr.fI u_16 kSM_0 (by decide))) e_5), show fI ws_34 0 7 = f_10 from (Eq.trans (Eq.trans (Fr.fI u_35 kSM_0 (by decide)) (Fr.fI u_16 kSM_0 (by decide))) e_11)] <;> exact (o43_25 b_6.1 b_6.2 b_12.1 b_12.2 pre0 pre1 e_14 e_19 e_20 e_22 c_23 qh_51 c_52)), (by rw [show fI ws_34 0 11 = f_1 from (Eq.trans (Eq.trans (Fr.fI u_35 kSM_0 (by decide)) (Fr.fI u_16 kSM_0 (by decide))) e_2), show fI ws0 0 11 = f_1 from e_2] <;> exact (o43_26 b_6.1 b_6.2 b_12.1 b_12.2 pre0 pre1 e_14 e_19 e_20 e_22 c_23 e_26 e_27 e_29 e_31 e_33 e_38 e_39 e_40 c_41 e_44 e_45 qh_46 qh_51 c_52)), (by rw [show fI ws0 0 6 = f_4 from e_5, show fI ws_34 0 6 = f_4 from (Eq.trans (Eq.trans (Fr.fI u_35 kSM_0 (by decide)) (Fr.fI u_16 kSM_0 (by decide))) e_5)] <;> exact (o43_27 b_6.1 b_6.2 b_12.1 b_12.2 pre0 pre1 e_14 e_19 e_20 e_22 c_23 qh_51 c_52))⟩ dX12_takes_54
      · -- 46
        refine lv_aload_n C0.1 C0.2.1 dX12_takes_49 rfl (lv_at hl 1 rfl) ?_
        refine y_cv h (y_rV (As := []) (rest := []) C0 hZ h (c_X12_next l G Z ad _ h.2) k_X12_next q_1584 q_56 q_1582 kSM_0 rfl rfl rfl hl.1 rfl rfl (Nat.le_of_ble_eq_true rfl) dX12_takes_50 ⟨Nat.le_of_ble_eq_true rfl, Nat.le_of_ble_eq_true rfl⟩ ⟨Nat.le_of_ble_eq_true rfl, Nat.le_of_ble_eq_true rfl⟩) (fun H locs ws_53 h u_54 p_55 => ?_)
        obtain ⟨e_56, e_57, e_58, e_59⟩ := p_55
        obtain ⟨f_60, e_61⟩ : ∃ v, fI ws_53 0 6 = v := ⟨_, rfl⟩
        have b_62 := ty_fI (k := 6) h.2 kSM_0 rfl rfl
        rw [e_61] at b_62
        have e_63 := e_56
        rw [show fI ws_34 0 7 = f_10 from (Eq.trans (Eq.trans (Fr.fI u_35 kSM_0 (by decide)) (Fr.fI u_16 kSM_0 (by decide))) e_11), show fI ws_53 0 6 = f_60 from e_61] at e_63
        obtain ⟨f_64, e_65⟩ : ∃ v, fI ws_53 0 9 = v := ⟨_, rfl⟩
        have b_66 := ty_fI (k := 9) h.2 kSM_0 rfl rfl
        rw [e_65] at b_66
        obtain ⟨f_67, e_68⟩ : ∃ v, fI ws_53 0 7 = v := ⟨_, rfl⟩
        have b_69 := ty_fI (k := 7) h.2 kSM_0 rfl rfl
        rw [e_68] at b_69
        have e_70 := e_57
        rw [show fI ws_53 0 9 = f_64 from e_65, show fI ws_53 0 6 = f_60 from (Eq.trans rfl e_61), show fI ws_53 0 7 = f_67 from e_68] at e_70
        obtain ⟨f_71, e_72⟩ : ∃ v, fI ws_53 0 11 = v := ⟨_, rfl⟩
        have b_73 := ty_fI (k := 11) h.2 kSM_0 rfl rfl
        rw [e_72] at b_73
        have e_74 := e_58
        rw [show fI ws_53 0 11 = f_71 from e_72, show fI ws_34 0 11 = f_1 from (Eq.trans (Eq.trans (Fr.fI u_35 kSM_0 (by decide)) (Fr.fI u_16 kSM_0 (by decide))) e_2)] at e_74
        have e_75 := e_59
        rw [show fI ws_53 0 6 = f_60 from (Eq.trans rfl e_61), show fI ws_53 0 7 = f_67 from (Eq.trans rfl e_68)] at e_75
        refine lv_iload_n C0.1 C0.2.1 dX12_takes_53 rfl (lv_at hl 0 rfl) ?_
        rw [hQ]
        exact y_iret C0 h (Fr.tr (Fr.tr (Fr.mono u_16 (by decide)) (Fr.mono u_35 (by decide))) u_54) ⟨(o43_22 e_26 e_27 e_29 e_31 e_33 e_38 e_39 e_40 c_41 e_44 e_45 qh_46), (o43_23 e_26 e_27 e_29 e_31 e_33 e_38 e_39 e_40 c_41 e_44 e_45 qh_46), (by rw [show fI ws_53 0 9 = f_64 from (Eq.trans rfl e_65), show fI ws_53 0 6 = f_60 from (Eq.trans rfl e_61), show fI ws_53 0 7 = f_67 from (Eq.trans rfl e_68)] <;> exact (o43_28 b_6.1 b_6.2 b_12.1 b_12.2 pre0 pre1 e_14 e_19 e_20 e_22 c_23 qh_51 c_52 b_62.1 b_62.2 e_63 b_69.1 b_69.2 e_70 e_74 e_75)), (by rw [show fI ws_53 0 6 = f_60 from (Eq.trans rfl e_61), show fI ws_53 0 7 = f_67 from (Eq.trans rfl e_68)] <;> exact (o43_29 b_6.1 b_6.2 b_12.1 b_12.2 pre0 pre1 e_14 e_19 e_20 e_22 c_23 qh_51 c_52 b_62.1 b_62.2 e_63 b_69.1 b_69.2 e_70 e_74 e_75)), (by rw [show fI ws_53 0 11 = f_71 from (Eq.trans rfl e_72), show fI ws0 0 11 = f_1 from e_2] <;> exact (o43_30 b_6.1 b_6.2 b_12.1 b_12.2 pre0 pre1 e_14 e_19 e_20 e_22 c_23 e_26 e_27 e_29 e_31 e_33 e_38 e_39 e_40 c_41 e_44 e_45 qh_46 qh_51 c_52 b_62.1 b_62.2 e_63 b_69.1 b_69.2 e_70 e_74 e_75)), (by rw [show fI ws0 0 6 = f_4 from e_5, show fI ws_53 0 6 = f_60 from (Eq.trans rfl e_61)] <;> exact (o43_31 b_6.1 b_6.2 b_12.1 b_12.2 pre0 pre1 e_14 e_19 e_20 e_22 c_23 qh_51 c_52 b_62.1 b_62.2 e_63 b_69.1 b_69.2 e_70 e_74 e_75))⟩ dX12_takes_54
    · -- 29
      refine lv_aload_n C0.1 C0.2.1 dX12_takes_32 rfl (lv_at hl 0 rfl) ?_
      refine y_c1 (n := 3) C0 (by decide) dX12_takes_33 (fun v_76 e_77 => ?_)
      refine y_cv h (y_rV (As := [.int v_76]) (rest := []) C0 hZ h (c_X12_fails l G Z ad _ h.2 v_76 (o43_32 e_77) (o43_33 e_77)) k_X12_fails q_1622 q_63 q_1620 kSM_0 rfl rfl rfl hl.1 rfl rfl (Nat.le_of_ble_eq_true rfl) dX12_takes_34 ⟨Nat.le_of_ble_eq_true rfl, Nat.le_of_ble_eq_true rfl⟩ ⟨Nat.le_of_ble_eq_true rfl, Nat.le_of_ble_eq_true rfl⟩) (fun H locs ws_78 h u_79 p_80 => ?_)
      obtain ⟨e_81, e_82, e_83, e_84⟩ := p_80
      obtain ⟨f_85, e_86⟩ : ∃ v, fI ws_78 0 6 = v := ⟨_, rfl⟩
      have b_87 := ty_fI (k := 6) h.2 kSM_0 rfl rfl
      rw [e_86] at b_87
      have e_88 := e_81
      rw [show fI ws_78 0 6 = f_85 from e_86, show fI ws_34 0 6 = f_4 from (Eq.trans (Eq.trans (Fr.fI u_35 kSM_0 (by decide)) (Fr.fI u_16 kSM_0 (by decide))) e_5)] at e_88
      obtain ⟨f_89, e_90⟩ : ∃ v, fI ws_78 0 7 = v := ⟨_, rfl⟩
      have b_91 := ty_fI (k := 7) h.2 kSM_0 rfl rfl
      rw [e_90] at b_91
      have e_92 := e_82
      rw [show fI ws_78 0 7 = f_89 from e_90, show fI ws_34 0 7 = f_10 from (Eq.trans (Eq.trans (Fr.fI u_35 kSM_0 (by decide)) (Fr.fI u_16 kSM_0 (by decide))) e_11)] at e_92
      obtain ⟨f_93, e_94⟩ : ∃ v, fI ws_78 0 9 = v := ⟨_, rfl⟩
      have b_95 := ty_fI (k := 9) h.2 kSM_0 rfl rfl
      rw [e_94] at b_95
      have e_96 := e_83
      rw [show fI ws_78 0 9 = f_93 from e_94, show fI ws_34 0 9 = f_7 from (Eq.trans (Eq.trans (Fr.fI u_35 kSM_0 (by decide)) (Fr.fI u_16 kSM_0 (by decide))) e_8)] at e_96
      obtain ⟨f_97, e_98⟩ : ∃ v, fI ws_78 0 11 = v := ⟨_, rfl⟩
      have b_99 := ty_fI (k := 11) h.2 kSM_0 rfl rfl
      rw [e_98] at b_99
      have e_100 := e_84
      rw [show fI ws_78 0 11 = f_97 from e_98] at e_100
      refine lv_aload_n C0.1 C0.2.1 dX12_takes_37 rfl (lv_at hl 0 rfl) ?_
      refine ng_X12_number C0 h kSM_0 q_1448 dX12_takes_38 (fun v_101 e_102 e_103 e_104 => ?_)
      refine lv_istore_n (lv' := [(3, .int v_101), (0, .ref (ad 0)), (1, .int a1), (2, .int a2)]) C0.1 C0.2.1 dX12_takes_41 rfl hl (by decide) rfl (fun ls hl => ?_)
      refine lv_aload_n C0.1 C0.2.1 dX12_takes_42 rfl (lv_at hl 1 rfl) ?_
      refine ng_X12_wrong C0 h kSM_0 q_1449 dX12_takes_43 (fun v_105 e_106 e_107 e_108 => ?_)
      have qh_109 : v_105.toInt = f_97.toInt := congrArg Int32.toInt (e_106.symm.trans (Eq.trans rfl e_98))
      refine y_if_ne (tgt := 53) C0 dX12_takes_46 (by decide) (fun c_110 => ?_) (fun c_110 => ?_)
      · -- 46
        refine lv_iload_n C0.1 C0.2.1 dX12_takes_53 rfl (lv_at hl 0 rfl) ?_
        rw [hQ]
        exact y_iret C0 h (Fr.tr (Fr.tr (Fr.mono u_16 (by decide)) (Fr.mono u_35 (by decide))) u_79) ⟨(o43_34 e_103 e_104), (o43_35 e_103 e_104), (by rw [show fI ws_78 0 9 = f_93 from (Eq.trans rfl e_94), show fI ws_78 0 6 = f_85 from (Eq.trans rfl e_86), show fI ws_78 0 7 = f_89 from (Eq.trans rfl e_90)] <;> exact (o43_36 b_6.1 b_6.2 b_12.1 b_12.2 pre0 pre1 e_14 e_19 e_20 e_22 c_23 b_87.1 b_87.2 e_88 b_91.1 b_91.2 e_92 e_96)), (by rw [show fI ws_78 0 6 = f_85 from (Eq.trans rfl e_86), show fI ws_78 0 7 = f_89 from (Eq.trans rfl e_90)] <;> exact (o43_37 b_6.1 b_6.2 b_12.1 b_12.2 pre0 pre1 e_14 e_19 e_20 e_22 c_23 b_87.1 b_87.2 e_88 b_91.1 b_91.2 e_92 e_96)), (by rw [show fI ws_78 0 11 = f_97 from (Eq.trans rfl e_98), show fI ws0 0 11 = f_1 from e_2] <;> exact (o43_38 b_6.1 b_6.2 b_12.1 b_12.2 pre0 pre1 e_14 e_19 e_20 e_22 c_23 e_26 e_27 e_29 e_31 e_33 e_38 e_39 e_40 c_41 b_87.1 b_87.2 e_88 b_91.1 b_91.2 e_92 e_96 e_100 e_103 e_104 qh_109 c_110)), (by rw [show fI ws0 0 6 = f_4 from e_5, show fI ws_78 0 6 = f_85 from (Eq.trans rfl e_86)] <;> exact (o43_39 b_6.1 b_6.2 b_12.1 b_12.2 pre0 pre1 e_14 e_19 e_20 e_22 c_23 b_87.1 b_87.2 e_88 b_91.1 b_91.2 e_92 e_96))⟩ dX12_takes_54
      · -- 46
        refine lv_aload_n C0.1 C0.2.1 dX12_takes_49 rfl (lv_at hl 1 rfl) ?_
        refine y_cv h (y_rV (As := []) (rest := []) C0 hZ h (c_X12_next l G Z ad _ h.2) k_X12_next q_1584 q_56 q_1582 kSM_0 rfl rfl rfl hl.1 rfl rfl (Nat.le_of_ble_eq_true rfl) dX12_takes_50 ⟨Nat.le_of_ble_eq_true rfl, Nat.le_of_ble_eq_true rfl⟩ ⟨Nat.le_of_ble_eq_true rfl, Nat.le_of_ble_eq_true rfl⟩) (fun H locs ws_111 h u_112 p_113 => ?_)
        obtain ⟨e_114, e_115, e_116, e_117⟩ := p_113
        obtain ⟨f_118, e_119⟩ : ∃ v, fI ws_111 0 6 = v := ⟨_, rfl⟩
        have b_120 := ty_fI (k := 6) h.2 kSM_0 rfl rfl
        rw [e_119] at b_120
        have e_121 := e_114
        rw [show fI ws_78 0 7 = f_89 from (Eq.trans rfl e_90), show fI ws_111 0 6 = f_118 from e_119] at e_121
        obtain ⟨f_122, e_123⟩ : ∃ v, fI ws_111 0 9 = v := ⟨_, rfl⟩
        have b_124 := ty_fI (k := 9) h.2 kSM_0 rfl rfl
        rw [e_123] at b_124
        obtain ⟨f_125, e_126⟩ : ∃ v, fI ws_111 0 7 = v := ⟨_, rfl⟩
        have b_127 := ty_fI (k := 7) h.2 kSM_0 rfl rfl
        rw [e_126] at b_127
        have e_128 := e_115
        rw [show fI ws_111 0 9 = f_122 from e_123, show fI ws_111 0 6 = f_118 from (Eq.trans rfl e_119), show fI ws_111 0 7 = f_125 from e_126] at e_128
        obtain ⟨f_129, e_130⟩ : ∃ v, fI ws_111 0 11 = v := ⟨_, rfl⟩
        have b_131 := ty_fI (k := 11) h.2 kSM_0 rfl rfl
        rw [e_130] at b_131
        have e_132 := e_116
        rw [show fI ws_111 0 11 = f_129 from e_130, show fI ws_78 0 11 = f_97 from (Eq.trans rfl e_98)] at e_132
        have e_133 := e_117
        rw [show fI ws_111 0 6 = f_118 from (Eq.trans rfl e_119), show fI ws_111 0 7 = f_125 from (Eq.trans rfl e_126)] at e_133
        refine lv_iload_n C0.1 C0.2.1 dX12_takes_53 rfl (lv_at hl 0 rfl) ?_
        rw [hQ]
        exact y_iret C0 h (Fr.tr (Fr.tr (Fr.tr (Fr.mono u_16 (by decide)) (Fr.mono u_35 (by decide))) u_79) u_112) ⟨(o43_34 e_103 e_104), (o43_35 e_103 e_104), (by rw [show fI ws_111 0 9 = f_122 from (Eq.trans rfl e_123), show fI ws_111 0 6 = f_118 from (Eq.trans rfl e_119), show fI ws_111 0 7 = f_125 from (Eq.trans rfl e_126)] <;> exact (o43_40 b_6.1 b_6.2 b_12.1 b_12.2 pre0 pre1 e_14 e_19 e_20 e_22 c_23 b_87.1 b_87.2 e_88 b_91.1 b_91.2 e_92 e_96 b_120.1 b_120.2 e_121 b_127.1 b_127.2 e_128 e_133)), (by rw [show fI ws_111 0 6 = f_118 from (Eq.trans rfl e_119), show fI ws_111 0 7 = f_125 from (Eq.trans rfl e_126)] <;> exact (o43_41 b_6.1 b_6.2 b_12.1 b_12.2 pre0 pre1 e_14 e_19 e_20 e_22 c_23 b_87.1 b_87.2 e_88 b_91.1 b_91.2 e_92 e_96 b_120.1 b_120.2 e_121 b_127.1 b_127.2 e_128 e_133)), (by rw [show fI ws_111 0 11 = f_129 from (Eq.trans rfl e_130), show fI ws0 0 11 = f_1 from e_2] <;> exact (o43_42 b_6.1 b_6.2 b_12.1 b_12.2 pre0 pre1 e_14 e_19 e_20 e_22 c_23 e_26 e_27 e_29 e_31 e_33 e_38 e_39 e_40 c_41 b_87.1 b_87.2 e_88 b_91.1 b_91.2 e_92 e_96 e_100 e_103 e_104 qh_109 c_110 b_120.1 b_120.2 e_121 b_127.1 b_127.2 e_128 e_132 e_133)), (by rw [show fI ws0 0 6 = f_4 from e_5, show fI ws_111 0 6 = f_118 from (Eq.trans rfl e_119)] <;> exact (o43_43 b_6.1 b_6.2 b_12.1 b_12.2 pre0 pre1 e_14 e_19 e_20 e_22 c_23 b_87.1 b_87.2 e_88 b_91.1 b_91.2 e_92 e_96 b_120.1 b_120.2 e_121 b_127.1 b_127.2 e_128 e_133))⟩ dX12_takes_54
  · -- 6
    refine lv_aload_n C0.1 C0.2.1 dX12_takes_9 rfl (lv_at hl 0 rfl) ?_
    refine y_c1 (n := 2) C0 (by decide) dX12_takes_10 (fun v_134 e_135 => ?_)
    refine y_cv h (y_rV (As := [.int v_134]) (rest := []) C0 hZ h (c_X12_fails l G Z ad _ h.2 v_134 (o43_44 e_135) (o43_45 e_135)) k_X12_fails q_1622 q_63 q_1620 kSM_0 rfl rfl rfl hl.1 rfl rfl (Nat.le_of_ble_eq_true rfl) dX12_takes_11 ⟨Nat.le_of_ble_eq_true rfl, Nat.le_of_ble_eq_true rfl⟩ ⟨Nat.le_of_ble_eq_true rfl, Nat.le_of_ble_eq_true rfl⟩) (fun H locs ws_136 h u_137 p_138 => ?_)
    obtain ⟨e_139, e_140, e_141, e_142⟩ := p_138
    obtain ⟨f_143, e_144⟩ : ∃ v, fI ws_136 0 6 = v := ⟨_, rfl⟩
    have b_145 := ty_fI (k := 6) h.2 kSM_0 rfl rfl
    rw [e_144] at b_145
    have e_146 := e_139
    rw [show fI ws_136 0 6 = f_143 from e_144, show fI ws_15 0 6 = f_4 from (Eq.trans (Fr.fI u_16 kSM_0 (by decide)) e_5)] at e_146
    obtain ⟨f_147, e_148⟩ : ∃ v, fI ws_136 0 7 = v := ⟨_, rfl⟩
    have b_149 := ty_fI (k := 7) h.2 kSM_0 rfl rfl
    rw [e_148] at b_149
    have e_150 := e_140
    rw [show fI ws_136 0 7 = f_147 from e_148, show fI ws_15 0 7 = f_10 from (Eq.trans (Fr.fI u_16 kSM_0 (by decide)) e_11)] at e_150
    obtain ⟨f_151, e_152⟩ : ∃ v, fI ws_136 0 9 = v := ⟨_, rfl⟩
    have b_153 := ty_fI (k := 9) h.2 kSM_0 rfl rfl
    rw [e_152] at b_153
    have e_154 := e_141
    rw [show fI ws_136 0 9 = f_151 from e_152, show fI ws_15 0 9 = f_7 from (Eq.trans (Fr.fI u_16 kSM_0 (by decide)) e_8)] at e_154
    obtain ⟨f_155, e_156⟩ : ∃ v, fI ws_136 0 11 = v := ⟨_, rfl⟩
    have b_157 := ty_fI (k := 11) h.2 kSM_0 rfl rfl
    rw [e_156] at b_157
    have e_158 := e_142
    rw [show fI ws_136 0 11 = f_155 from e_156] at e_158
    refine lv_goto (tgt := 37) C0.1 C0.2.1 dX12_takes_14 (by decide) ?_
    refine lv_aload_n C0.1 C0.2.1 dX12_takes_37 rfl (lv_at hl 0 rfl) ?_
    refine ng_X12_number C0 h kSM_0 q_1448 dX12_takes_38 (fun v_159 e_160 e_161 e_162 => ?_)
    refine lv_istore_n (lv' := [(3, .int v_159), (0, .ref (ad 0)), (1, .int a1), (2, .int a2)]) C0.1 C0.2.1 dX12_takes_41 rfl hl (by decide) rfl (fun ls hl => ?_)
    refine lv_aload_n C0.1 C0.2.1 dX12_takes_42 rfl (lv_at hl 1 rfl) ?_
    refine ng_X12_wrong C0 h kSM_0 q_1449 dX12_takes_43 (fun v_163 e_164 e_165 e_166 => ?_)
    have qh_167 : v_163.toInt = f_155.toInt := congrArg Int32.toInt (e_164.symm.trans (Eq.trans rfl e_156))
    refine y_if_ne (tgt := 53) C0 dX12_takes_46 (by decide) (fun c_168 => ?_) (fun c_168 => ?_)
    · -- 46
      refine lv_iload_n C0.1 C0.2.1 dX12_takes_53 rfl (lv_at hl 0 rfl) ?_
      rw [hQ]
      exact y_iret C0 h (Fr.tr (Fr.mono u_16 (by decide)) u_137) ⟨(o43_34 e_161 e_162), (o43_35 e_161 e_162), (by rw [show fI ws_136 0 9 = f_151 from (Eq.trans rfl e_152), show fI ws_136 0 6 = f_143 from (Eq.trans rfl e_144), show fI ws_136 0 7 = f_147 from (Eq.trans rfl e_148)] <;> exact (o43_46 b_6.1 b_6.2 b_12.1 b_12.2 pre0 pre1 e_14 e_19 e_20 e_22 c_23 b_145.1 b_145.2 e_146 b_149.1 b_149.2 e_150 e_154)), (by rw [show fI ws_136 0 6 = f_143 from (Eq.trans rfl e_144), show fI ws_136 0 7 = f_147 from (Eq.trans rfl e_148)] <;> exact (o43_47 b_6.1 b_6.2 b_12.1 b_12.2 pre0 pre1 e_14 e_19 e_20 e_22 c_23 b_145.1 b_145.2 e_146 b_149.1 b_149.2 e_150 e_154)), (by rw [show fI ws_136 0 11 = f_155 from (Eq.trans rfl e_156), show fI ws0 0 11 = f_1 from e_2] <;> exact (o43_48 b_6.1 b_6.2 b_12.1 b_12.2 pre0 pre1 e_14 e_19 e_20 e_22 c_23 b_145.1 b_145.2 e_146 b_149.1 b_149.2 e_150 e_154 e_158 e_161 e_162 qh_167 c_168)), (by rw [show fI ws0 0 6 = f_4 from e_5, show fI ws_136 0 6 = f_143 from (Eq.trans rfl e_144)] <;> exact (o43_49 b_6.1 b_6.2 b_12.1 b_12.2 pre0 pre1 e_14 e_19 e_20 e_22 c_23 b_145.1 b_145.2 e_146 b_149.1 b_149.2 e_150 e_154))⟩ dX12_takes_54
    · -- 46
      refine lv_aload_n C0.1 C0.2.1 dX12_takes_49 rfl (lv_at hl 1 rfl) ?_
      refine y_cv h (y_rV (As := []) (rest := []) C0 hZ h (c_X12_next l G Z ad _ h.2) k_X12_next q_1584 q_56 q_1582 kSM_0 rfl rfl rfl hl.1 rfl rfl (Nat.le_of_ble_eq_true rfl) dX12_takes_50 ⟨Nat.le_of_ble_eq_true rfl, Nat.le_of_ble_eq_true rfl⟩ ⟨Nat.le_of_ble_eq_true rfl, Nat.le_of_ble_eq_true rfl⟩) (fun H locs ws_169 h u_170 p_171 => ?_)
      obtain ⟨e_172, e_173, e_174, e_175⟩ := p_171
      obtain ⟨f_176, e_177⟩ : ∃ v, fI ws_169 0 6 = v := ⟨_, rfl⟩
      have b_178 := ty_fI (k := 6) h.2 kSM_0 rfl rfl
      rw [e_177] at b_178
      have e_179 := e_172
      rw [show fI ws_136 0 7 = f_147 from (Eq.trans rfl e_148), show fI ws_169 0 6 = f_176 from e_177] at e_179
      obtain ⟨f_180, e_181⟩ : ∃ v, fI ws_169 0 9 = v := ⟨_, rfl⟩
      have b_182 := ty_fI (k := 9) h.2 kSM_0 rfl rfl
      rw [e_181] at b_182
      obtain ⟨f_183, e_184⟩ : ∃ v, fI ws_169 0 7 = v := ⟨_, rfl⟩
      have b_185 := ty_fI (k := 7) h.2 kSM_0 rfl rfl
      rw [e_184] at b_185
      have e_186 := e_173
      rw [show fI ws_169 0 9 = f_180 from e_181, show fI ws_169 0 6 = f_176 from (Eq.trans rfl e_177), show fI ws_169 0 7 = f_183 from e_184] at e_186
      obtain ⟨f_187, e_188⟩ : ∃ v, fI ws_169 0 11 = v := ⟨_, rfl⟩
      have b_189 := ty_fI (k := 11) h.2 kSM_0 rfl rfl
      rw [e_188] at b_189
      have e_190 := e_174
      rw [show fI ws_169 0 11 = f_187 from e_188, show fI ws_136 0 11 = f_155 from (Eq.trans rfl e_156)] at e_190
      have e_191 := e_175
      rw [show fI ws_169 0 6 = f_176 from (Eq.trans rfl e_177), show fI ws_169 0 7 = f_183 from (Eq.trans rfl e_184)] at e_191
      refine lv_iload_n C0.1 C0.2.1 dX12_takes_53 rfl (lv_at hl 0 rfl) ?_
      rw [hQ]
      exact y_iret C0 h (Fr.tr (Fr.tr (Fr.mono u_16 (by decide)) u_137) u_170) ⟨(o43_34 e_161 e_162), (o43_35 e_161 e_162), (by rw [show fI ws_169 0 9 = f_180 from (Eq.trans rfl e_181), show fI ws_169 0 6 = f_176 from (Eq.trans rfl e_177), show fI ws_169 0 7 = f_183 from (Eq.trans rfl e_184)] <;> exact (o43_50 b_6.1 b_6.2 b_12.1 b_12.2 pre0 pre1 e_14 e_19 e_20 e_22 c_23 b_145.1 b_145.2 e_146 b_149.1 b_149.2 e_150 e_154 b_178.1 b_178.2 e_179 b_185.1 b_185.2 e_186 e_191)), (by rw [show fI ws_169 0 6 = f_176 from (Eq.trans rfl e_177), show fI ws_169 0 7 = f_183 from (Eq.trans rfl e_184)] <;> exact (o43_51 b_6.1 b_6.2 b_12.1 b_12.2 pre0 pre1 e_14 e_19 e_20 e_22 c_23 b_145.1 b_145.2 e_146 b_149.1 b_149.2 e_150 e_154 b_178.1 b_178.2 e_179 b_185.1 b_185.2 e_186 e_191)), (by rw [show fI ws_169 0 11 = f_187 from (Eq.trans rfl e_188), show fI ws0 0 11 = f_1 from e_2] <;> exact (o43_52 b_6.1 b_6.2 b_12.1 b_12.2 pre0 pre1 e_14 e_19 e_20 e_22 c_23 b_145.1 b_145.2 e_146 b_149.1 b_149.2 e_150 e_154 e_158 e_161 e_162 qh_167 c_168 b_178.1 b_178.2 e_179 b_185.1 b_185.2 e_186 e_190 e_191)), (by rw [show fI ws0 0 6 = f_4 from e_5, show fI ws_169 0 6 = f_176 from (Eq.trans rfl e_177)] <;> exact (o43_53 b_6.1 b_6.2 b_12.1 b_12.2 pre0 pre1 e_14 e_19 e_20 e_22 c_23 b_145.1 b_145.2 e_146 b_149.1 b_149.2 e_150 e_154 b_178.1 b_178.2 e_179 b_185.1 b_185.2 e_186 e_191))⟩ dX12_takes_54
set_option maxHeartbeats 4000000 in
set_option maxRecDepth 100000 in
theorem c_X12_codes (l : Launch) (G : GG) (Z : RZ) (ad : Nat → Nat) (ws0 : va_W) (hT : Ty G (SM tt) ad ws0) (a1 : Int32) (pre0 : (¬ (fI ws0 0 11).toInt = 0 ∨ (aI ws0 4 873).toInt ≤ 899)) : Mq l yX12_codes cX12_codes 2 none 1 G Z [.ref (ad 0), .int a1] ws0 (PV G (SM tt) ad [4] ws0 (fun u => (((¬ (fI ws0 0 11).toInt = 0 ∧ (aI u 4 873).toInt = (aI ws0 4 873).toInt) ∨ ((fI ws0 0 11).toInt = 0 ∧ (aI u 4 873).toInt = (aI ws0 4 873).toInt + 1))) ∧ (Cod ws0 u a1))) := by
  refine Mq.start (by decide) (Nat.le_of_ble_eq_true rfl) ?_
  intro p e s m below meth c A ls C0 hZ h hl
  have hl : lv_has ls 2 [(0, .ref (ad 0)), (1, .int a1)] := hl
  have h : Wt G (SM tt) ad A s s.heap [] ws0 := ⟨h, hT⟩
  obtain ⟨args, hargs⟩ : ∃ z, z = ([.ref (ad 0), .int a1] : List Value).toArray := ⟨_, rfl⟩
  rw [← hargs] at C0 ⊢
  have C0 : Cx p s m args meth c RX12 cX12_codes 2 none := C0
  obtain ⟨Q, hQ⟩ : ∃ z, z = MQ below ((PV G (SM tt) ad [4] ws0 (fun u => (((¬ (fI ws0 0 11).toInt = 0 ∧ (aI u 4 873).toInt = (aI ws0 4 873).toInt) ∨ ((fI ws0 0 11).toInt = 0 ∧ (aI u 4 873).toInt = (aI ws0 4 873).toInt + 1))) ∧ (Cod ws0 u a1))) A) args s 0 0 A := ⟨_, rfl⟩
  rw [← hQ]
  obtain ⟨f_1, e_2⟩ : ∃ v, fI ws0 0 11 = v := ⟨_, rfl⟩
  have b_3 := ty_fI (k := 11) h.2 kSM_0 rfl rfl
  rw [e_2] at b_3
  obtain ⟨f_4, e_5⟩ : ∃ v, aI ws0 4 873 = v := ⟨_, rfl⟩
  have b_6 := ty_aI 873 h.2 kSM_4 rfl (by decide)
  rw [e_5] at b_6
  rw [show fI ws0 0 11 = f_1 from e_2, show aI ws0 4 873 = f_4 from e_5] at pre0
  refine lv_aload_n C0.1 C0.2.1 dX12_codes_0 rfl (lv_at hl 0 rfl) ?_
  refine ng_X12_wrong C0 h kSM_0 q_1449 dX12_codes_1 (fun v_7 e_8 e_9 e_10 => ?_)
  have qh_11 : v_7.toInt = f_1.toInt := congrArg Int32.toInt (e_8.symm.trans (Eq.trans rfl e_2))
  refine y_if_eq (tgt := 8) C0 dX12_codes_4 (by decide) (fun c_12 => ?_) (fun c_12 => ?_)
  · -- 4
    refine lv_aload_n C0.1 C0.2.1 dX12_codes_8 rfl (lv_at hl 0 rfl) ?_
    refine ng_X12_fresh C0 h kSM_0 q_1442 dX12_codes_9 ?_
    refine y_c3 (n := 874) C0 (by decide) dX12_codes_12 (fun v_13 e_14 => ?_)
    refine lv_aload_n C0.1 C0.2.1 dX12_codes_15 rfl (lv_at hl 0 rfl) ?_
    refine ng_X12_fresh C0 h kSM_0 q_1442 dX12_codes_16 ?_
    refine y_c3 (n := 873) C0 (by decide) dX12_codes_19 (fun v_15 e_16 => ?_)
    refine y_iald C0 h kSM_4 rfl (by decide) (o43_54 e_16) (o43_55 e_16) dX12_codes_22 (fun v_17 e_18 e_19 e_20 => ?_)
    have f_21 := o43_56 v_15.toInt.toNat (o43_57 e_16) (o43_58 e_16)
    have e_22 : aI ws0 4 873 = v_17 := (congrArg (aI ws0 4) (ix_c (c := 873) (o43_59 e_16))).symm.trans e_18
    have qh_23 : v_17.toInt = f_4.toInt := congrArg Int32.toInt (e_22.symm.trans (Eq.trans rfl e_5))
    refine y_add C0 (o43_60 (Int.le_trans (by decide : (0 : Int) ≤ (elR 873).1) b_6.1) (Int.le_trans b_6.2 (by decide : (elR 873).2 ≤ (900 : Int))) pre0 qh_11 c_12 e_14 (Int.le_trans f_21.1 e_19) (Int.le_trans e_20 f_21.2) qh_23 (le_min v_13) (le_max v_13) (le_min v_17) (le_max v_17) (le_min f_4) (le_max f_4) (le_min f_1) (le_max f_1) (le_min v_7) (le_max v_7)) (o43_61 (Int.le_trans (by decide : (0 : Int) ≤ (elR 873).1) b_6.1) (Int.le_trans b_6.2 (by decide : (elR 873).2 ≤ (900 : Int))) pre0 qh_11 c_12 e_14 (Int.le_trans f_21.1 e_19) (Int.le_trans e_20 f_21.2) qh_23 (le_min v_13) (le_max v_13) (le_min v_17) (le_max v_17) (le_min f_4) (le_max f_4) (le_min f_1) (le_max f_1) (le_min v_7) (le_max v_7)) dX12_codes_23 (fun v_24 e_25 => ?_)
    refine lv_iload_n C0.1 C0.2.1 dX12_codes_24 rfl (lv_at hl 1 rfl) ?_
    have f_28 := o43_64 v_24.toInt.toNat (o43_65 (Int.le_trans (by decide : (0 : Int) ≤ (elR 873).1) b_6.1) (Int.le_trans b_6.2 (by decide : (elR 873).2 ≤ (900 : Int))) pre0 qh_11 c_12 e_14 (Int.le_trans f_21.1 e_19) (Int.le_trans e_20 f_21.2) qh_23 e_25) (o43_66 (Int.le_trans (by decide : (0 : Int) ≤ (elR 873).1) b_6.1) (Int.le_trans b_6.2 (by decide : (elR 873).2 ≤ (900 : Int))) pre0 qh_11 c_12 e_14 (Int.le_trans f_21.1 e_19) (Int.le_trans e_20 f_21.2) qh_23 e_25)
    refine y_iast C0 h kSM_4 rfl (by decide) (o43_62 (Int.le_trans (by decide : (0 : Int) ≤ (elR 873).1) b_6.1) (Int.le_trans b_6.2 (by decide : (elR 873).2 ≤ (900 : Int))) pre0 qh_11 c_12 e_14 (Int.le_trans f_21.1 e_19) (Int.le_trans e_20 f_21.2) qh_23 e_25) (o43_63 (Int.le_trans (by decide : (0 : Int) ≤ (elR 873).1) b_6.1) (Int.le_trans b_6.2 (by decide : (elR 873).2 ≤ (900 : Int))) pre0 qh_11 c_12 e_14 (Int.le_trans f_21.1 e_19) (Int.le_trans e_20 f_21.2) qh_23 e_25) (Int.le_trans f_28.1 (le_min a1)) (Int.le_trans (le_max a1) f_28.2) dX12_codes_25 (fun H locs ws_26 h u_27 => ?_)
    refine lv_aload_n C0.1 C0.2.1 dX12_codes_26 rfl (lv_at hl 0 rfl) ?_
    refine ng_X12_fresh C0 h kSM_0 q_1442 dX12_codes_27 ?_
    refine y_c3 (n := 873) C0 (by decide) dX12_codes_30 (fun v_29 e_30 => ?_)
    refine lv_dup2_11 C0.1 C0.2.1 dX12_codes_33 rfl rfl ?_
    refine y_iald C0 h kSM_4 rfl (by decide) (o43_54 e_30) (o43_55 e_30) dX12_codes_34 (fun v_31 e_32 e_33 e_34 => ?_)
    have f_35 := o43_56 v_29.toInt.toNat (o43_57 e_30) (o43_58 e_30)
    have e_36 : aI ws_26 4 873 = v_31 := (congrArg (aI ws_26 4) (ix_c (c := 873) (o43_59 e_30))).symm.trans e_32
    have qh_37 : v_31.toInt = f_4.toInt := congrArg Int32.toInt (e_36.symm.trans (Eq.trans (u_27.2.2 873 (o43_67 (Int.le_trans (by decide : (0 : Int) ≤ (elR 873).1) b_6.1) (Int.le_trans b_6.2 (by decide : (elR 873).2 ≤ (900 : Int))) pre0 qh_11 c_12 e_14 (Int.le_trans f_21.1 e_19) (Int.le_trans e_20 f_21.2) qh_23 e_25)) e_5))
    refine y_c1 (n := 1) C0 (by decide) dX12_codes_35 (fun v_38 e_39 => ?_)
    refine y_add C0 (o43_68 (Int.le_trans (by decide : (0 : Int) ≤ (elR 873).1) b_6.1) (Int.le_trans b_6.2 (by decide : (elR 873).2 ≤ (900 : Int))) pre0 qh_11 c_12 e_14 (Int.le_trans f_21.1 e_19) (Int.le_trans e_20 f_21.2) qh_23 e_25 (Int.le_trans f_35.1 e_33) (Int.le_trans e_34 f_35.2) qh_37 e_39 (le_min v_31) (le_max v_31) (le_min v_38) (le_max v_38) (le_min f_4) (le_max f_4) (le_min f_1) (le_max f_1) (le_min v_7) (le_max v_7) (le_min v_13) (le_max v_13) (le_min v_17) (le_max v_17) (le_min v_24) (le_max v_24)) (o43_69 (Int.le_trans (by decide : (0 : Int) ≤ (elR 873).1) b_6.1) (Int.le_trans b_6.2 (by decide : (elR 873).2 ≤ (900 : Int))) pre0 qh_11 c_12 e_14 (Int.le_trans f_21.1 e_19) (Int.le_trans e_20 f_21.2) qh_23 e_25 (Int.le_trans f_35.1 e_33) (Int.le_trans e_34 f_35.2) qh_37 e_39 (le_min v_31) (le_max v_31) (le_min v_38) (le_max v_38) (le_min f_4) (le_max f_4) (le_min f_1) (le_max f_1) (le_min v_7) (le_max v_7) (le_min v_13) (le_max v_13) (le_min v_17) (le_max v_17) (le_min v_24) (le_max v_24)) dX12_codes_36 (fun v_40 e_41 => ?_)
    have f_44 := o43_70 v_29.toInt.toNat (o43_57 e_30) (o43_58 e_30)
    refine y_iast C0 h kSM_4 rfl (by decide) (o43_54 e_30) (o43_55 e_30) (Int.le_trans f_44.1 (o43_71 (Int.le_trans (by decide : (0 : Int) ≤ (elR 873).1) b_6.1) (Int.le_trans b_6.2 (by decide : (elR 873).2 ≤ (900 : Int))) pre0 qh_11 c_12 e_14 (Int.le_trans f_21.1 e_19) (Int.le_trans e_20 f_21.2) qh_23 e_25 (Int.le_trans f_35.1 e_33) (Int.le_trans e_34 f_35.2) qh_37 e_39 e_41)) (Int.le_trans (o43_72 (Int.le_trans (by decide : (0 : Int) ≤ (elR 873).1) b_6.1) (Int.le_trans b_6.2 (by decide : (elR 873).2 ≤ (900 : Int))) pre0 qh_11 c_12 e_14 (Int.le_trans f_21.1 e_19) (Int.le_trans e_20 f_21.2) qh_23 e_25 (Int.le_trans f_35.1 e_33) (Int.le_trans e_34 f_35.2) qh_37 e_39 e_41) f_44.2) dX12_codes_37 (fun H locs ws_42 h u_43 => ?_)
    have e_45 : aI ws_42 4 873 = v_40 := (congrArg (aI ws_42 4) (ix_c (c := 873) (o43_59 e_30))).symm.trans u_43.2.1
    rw [hQ]
    exact y_vret C0 h (Fr.tr (Fr.up u_27.1 kSM_4 (by decide)) (Fr.up u_43.1 kSM_4 (by decide))) ⟨(by rw [show fI ws0 0 11 = f_1 from e_2, show aI ws_42 4 873 = v_40 from (Eq.trans rfl e_45), show aI ws0 4 873 = f_4 from e_5] <;> exact (o43_73 (Int.le_trans (by decide : (0 : Int) ≤ (elR 873).1) b_6.1) (Int.le_trans b_6.2 (by decide : (elR 873).2 ≤ (900 : Int))) pre0 qh_11 c_12 e_14 (Int.le_trans f_21.1 e_19) (Int.le_trans e_20 f_21.2) qh_23 e_25 (Int.le_trans f_35.1 e_33) (Int.le_trans e_34 f_35.2) qh_37 e_39 e_41)), (cod_st u_27 u_43 e_5 (o43_74 (Int.le_trans (by decide : (0 : Int) ≤ (elR 873).1) b_6.1) (Int.le_trans b_6.2 (by decide : (elR 873).2 ≤ (900 : Int))) pre0 qh_11 c_12 e_14 (Int.le_trans f_21.1 e_19) (Int.le_trans e_20 f_21.2) qh_23 e_25 (Int.le_trans f_35.1 e_33) (Int.le_trans e_34 f_35.2) qh_37 e_39 e_41) (o43_75 e_30) (o43_76 (Int.le_trans (by decide : (0 : Int) ≤ (elR 873).1) b_6.1) (Int.le_trans b_6.2 (by decide : (elR 873).2 ≤ (900 : Int))) pre0 qh_11 c_12 e_14 (Int.le_trans f_21.1 e_19) (Int.le_trans e_20 f_21.2) qh_23 e_25 (Int.le_trans f_35.1 e_33) (Int.le_trans e_34 f_35.2) qh_37 e_39 e_41) (o43_77 (Int.le_trans (by decide : (0 : Int) ≤ (elR 873).1) b_6.1) (Int.le_trans b_6.2 (by decide : (elR 873).2 ≤ (900 : Int))) pre0 qh_11 c_12 e_14 (Int.le_trans f_21.1 e_19) (Int.le_trans e_20 f_21.2) qh_23 e_25 (Int.le_trans f_35.1 e_33) (Int.le_trans e_34 f_35.2) qh_37 e_39 e_41))⟩ dX12_codes_38
  · -- 4
    rw [hQ]
    exact y_vret C0 h Fr.rf ⟨(by rw [show fI ws0 0 11 = f_1 from e_2, show aI ws0 4 873 = f_4 from (Eq.trans rfl e_5)] <;> exact (o43_78 (Int.le_trans (by decide : (0 : Int) ≤ (elR 873).1) b_6.1) (Int.le_trans b_6.2 (by decide : (elR 873).2 ≤ (900 : Int))) pre0 qh_11 c_12)), (cod_bad (Eq.trans rfl e_2) (o43_79 (Int.le_trans (by decide : (0 : Int) ≤ (elR 873).1) b_6.1) (Int.le_trans b_6.2 (by decide : (elR 873).2 ≤ (900 : Int))) pre0 qh_11 c_12))⟩ dX12_codes_7
set_option maxHeartbeats 4000000 in
set_option maxRecDepth 100000 in
theorem c_X12_goesIn (l : Launch) (G : GG) (Z : RZ) (ad : Nat → Nat) (ws0 : va_W) (hT : Ty G (SM tt) ad ws0) (a1 : Int32) (l1 : 0 ≤ a1.toInt) (u1 : a1.toInt ≤ 5) (pre0 : ((fI ws0 0 9).toInt = 24 ∨ (fI ws0 0 6).toInt < (fI ws0 0 7).toInt)) (pre1 : (fI ws0 0 6).toInt ≤ (fI ws0 0 7).toInt) : Mq l yX12_goesIn cX12_goesIn 2 (some .boolean) 7 G Z [.ref (ad 0), .int a1] ws0 (PI G (SM tt) ad [0] ws0 (fun r u => (0 ≤ r.toInt) ∧ (r.toInt ≤ 1) ∧ (((fI u 0 9).toInt = 24 ∨ (fI u 0 6).toInt < (fI u 0 7).toInt)) ∧ ((fI u 0 6).toInt ≤ (fI u 0 7).toInt) ∧ (((r.toInt = 0 ∧ ¬ (fI u 0 11).toInt = 0) ∨ (r.toInt = 1 ∧ (fI u 0 11).toInt = 0 ∧ (fI ws0 0 11).toInt = 0 ∧ (fI ws0 0 7).toInt ≤ (fI u 0 6).toInt))) ∧ ((fI ws0 0 6).toInt ≤ (fI u 0 6).toInt))) := by
  refine Mq.start (by decide) (Nat.le_of_ble_eq_true rfl) ?_
  intro p e s m below meth c A ls C0 hZ h hl
  have hl : lv_has ls 2 [(0, .ref (ad 0)), (1, .int a1)] := hl
  have h : Wt G (SM tt) ad A s s.heap [] ws0 := ⟨h, hT⟩
  obtain ⟨args, hargs⟩ : ∃ z, z = ([.ref (ad 0), .int a1] : List Value).toArray := ⟨_, rfl⟩
  rw [← hargs] at C0 ⊢
  have C0 : Cx p s m args meth c RX12 cX12_goesIn 2 (some .boolean) := C0
  obtain ⟨Q, hQ⟩ : ∃ z, z = MQ below ((PI G (SM tt) ad [0] ws0 (fun r u => (0 ≤ r.toInt) ∧ (r.toInt ≤ 1) ∧ (((fI u 0 9).toInt = 24 ∨ (fI u 0 6).toInt < (fI u 0 7).toInt)) ∧ ((fI u 0 6).toInt ≤ (fI u 0 7).toInt) ∧ (((r.toInt = 0 ∧ ¬ (fI u 0 11).toInt = 0) ∨ (r.toInt = 1 ∧ (fI u 0 11).toInt = 0 ∧ (fI ws0 0 11).toInt = 0 ∧ (fI ws0 0 7).toInt ≤ (fI u 0 6).toInt))) ∧ ((fI ws0 0 6).toInt ≤ (fI u 0 6).toInt))) A) args s 0 0 A := ⟨_, rfl⟩
  rw [← hQ]
  obtain ⟨f_1, e_2⟩ : ∃ v, fI ws0 0 11 = v := ⟨_, rfl⟩
  have b_3 := ty_fI (k := 11) h.2 kSM_0 rfl rfl
  rw [e_2] at b_3
  obtain ⟨f_4, e_5⟩ : ∃ v, fI ws0 0 7 = v := ⟨_, rfl⟩
  have b_6 := ty_fI (k := 7) h.2 kSM_0 rfl rfl
  rw [e_5] at b_6
  obtain ⟨f_7, e_8⟩ : ∃ v, fI ws0 0 6 = v := ⟨_, rfl⟩
  have b_9 := ty_fI (k := 6) h.2 kSM_0 rfl rfl
  rw [e_8] at b_9
  obtain ⟨f_10, e_11⟩ : ∃ v, fI ws0 0 9 = v := ⟨_, rfl⟩
  have b_12 := ty_fI (k := 9) h.2 kSM_0 rfl rfl
  rw [e_11] at b_12
  rw [show fI ws0 0 9 = f_10 from e_11, show fI ws0 0 6 = f_7 from e_8, show fI ws0 0 7 = f_4 from e_5] at pre0
  rw [show fI ws0 0 6 = f_7 from e_8, show fI ws0 0 7 = f_4 from e_5] at pre1
  refine lv_iload_n C0.1 C0.2.1 dX12_goesIn_0 rfl (lv_at hl 1 rfl) ?_
  refine y_c2 (n := 6) C0 (by decide) dX12_goesIn_1 (fun v_13 e_14 => ?_)
  refine y_icmp_ne (tgt := 11) C0 dX12_goesIn_3 (by decide) (fun c_15 => ?_) (fun c_15 => ((o43_80 l1 u1 e_14 c_15)).elim)
  refine lv_aload_n C0.1 C0.2.1 dX12_goesIn_11 rfl (lv_at hl 0 rfl) ?_
  refine ng_X12_wrong C0 h kSM_0 q_1449 dX12_goesIn_12 (fun v_16 e_17 e_18 e_19 => ?_)
  have qh_20 : v_16.toInt = f_1.toInt := congrArg Int32.toInt (e_17.symm.trans (Eq.trans rfl e_2))
  refine y_if_ne (tgt := 22) C0 dX12_goesIn_15 (by decide) (fun c_21 => ?_) (fun c_21 => ?_)
  · -- 15
    refine lv_aload_n C0.1 C0.2.1 dX12_goesIn_22 rfl (lv_at hl 0 rfl) ?_
    refine ng_X12_wrong C0 h kSM_0 q_1449 dX12_goesIn_23 (fun v_22 e_23 e_24 e_25 => ?_)
    have qh_26 : v_22.toInt = f_1.toInt := congrArg Int32.toInt (e_23.symm.trans (Eq.trans rfl e_2))
    refine y_if_ne (tgt := 33) C0 dX12_goesIn_26 (by decide) (fun c_27 => ?_) (fun c_27 => ?_)
    · -- 26
      refine y_c1 (n := 0) C0 (by decide) dX12_goesIn_33 (fun v_28 e_29 => ?_)
      rw [hQ]
      exact y_zret C0 h (o43_1 e_29) (o43_2 e_29) Fr.rf ⟨(o43_1 e_29), (o43_2 e_29), (by rw [show fI ws0 0 9 = f_10 from (Eq.trans rfl e_11), show fI ws0 0 6 = f_7 from (Eq.trans rfl e_8), show fI ws0 0 7 = f_4 from (Eq.trans rfl e_5)] <;> exact (o43_81 b_6.1 b_6.2 b_9.1 b_9.2 pre0 pre1)), (by rw [show fI ws0 0 6 = f_7 from (Eq.trans rfl e_8), show fI ws0 0 7 = f_4 from (Eq.trans rfl e_5)] <;> exact (o43_82 b_6.1 b_6.2 b_9.1 b_9.2 pre0 pre1)), (by rw [show fI ws0 0 11 = f_1 from (Eq.trans rfl e_2), show fI ws0 0 7 = f_4 from e_5, show fI ws0 0 6 = f_7 from (Eq.trans rfl e_8)] <;> exact (o43_83 b_6.1 b_6.2 b_9.1 b_9.2 pre0 pre1 qh_20 c_21 qh_26 c_27 e_29)), (by rw [show fI ws0 0 6 = f_7 from e_8] <;> exact (o43_84 b_6.1 b_6.2 b_9.1 b_9.2 pre0 pre1))⟩ dX12_goesIn_34
    · -- 26
      refine y_c1 (n := 1) C0 (by decide) dX12_goesIn_29 (fun v_30 e_31 => ?_)
      refine lv_goto (tgt := 34) C0.1 C0.2.1 dX12_goesIn_30 (by decide) ?_
      rw [hQ]
      exact y_zret C0 h (o43_5 e_31) (o43_6 e_31) Fr.rf ⟨(o43_5 e_31), (o43_6 e_31), (by rw [show fI ws0 0 9 = f_10 from (Eq.trans rfl e_11), show fI ws0 0 6 = f_7 from (Eq.trans rfl e_8), show fI ws0 0 7 = f_4 from (Eq.trans rfl e_5)] <;> exact (o43_81 b_6.1 b_6.2 b_9.1 b_9.2 pre0 pre1)), (by rw [show fI ws0 0 6 = f_7 from (Eq.trans rfl e_8), show fI ws0 0 7 = f_4 from (Eq.trans rfl e_5)] <;> exact (o43_82 b_6.1 b_6.2 b_9.1 b_9.2 pre0 pre1)), (by rw [show fI ws0 0 11 = f_1 from (Eq.trans rfl e_2), show fI ws0 0 7 = f_4 from e_5, show fI ws0 0 6 = f_7 from (Eq.trans rfl e_8)] <;> exact (o43_85 b_6.1 b_6.2 b_9.1 b_9.2 pre0 pre1 qh_20 c_21 qh_26 c_27 e_31)), (by rw [show fI ws0 0 6 = f_7 from e_8] <;> exact (o43_84 b_6.1 b_6.2 b_9.1 b_9.2 pre0 pre1))⟩ dX12_goesIn_34
  · -- 15
    refine lv_aload_n C0.1 C0.2.1 dX12_goesIn_18 rfl (lv_at hl 0 rfl) ?_
    refine y_cv h (y_rV (As := []) (rest := []) C0 hZ h (c_X12_next l G Z ad _ h.2) k_X12_next q_1584 q_56 q_1582 kSM_0 rfl rfl rfl hl.1 rfl rfl (Nat.le_of_ble_eq_true rfl) dX12_goesIn_19 ⟨Nat.le_of_ble_eq_true rfl, Nat.le_of_ble_eq_true rfl⟩ ⟨Nat.le_of_ble_eq_true rfl, Nat.le_of_ble_eq_true rfl⟩) (fun H locs ws_32 h u_33 p_34 => ?_)
    obtain ⟨e_35, e_36, e_37, e_38⟩ := p_34
    obtain ⟨f_39, e_40⟩ : ∃ v, fI ws_32 0 6 = v := ⟨_, rfl⟩
    have b_41 := ty_fI (k := 6) h.2 kSM_0 rfl rfl
    rw [e_40] at b_41
    have e_42 := e_35
    rw [show fI ws0 0 7 = f_4 from (Eq.trans rfl e_5), show fI ws_32 0 6 = f_39 from e_40] at e_42
    obtain ⟨f_43, e_44⟩ : ∃ v, fI ws_32 0 9 = v := ⟨_, rfl⟩
    have b_45 := ty_fI (k := 9) h.2 kSM_0 rfl rfl
    rw [e_44] at b_45
    obtain ⟨f_46, e_47⟩ : ∃ v, fI ws_32 0 7 = v := ⟨_, rfl⟩
    have b_48 := ty_fI (k := 7) h.2 kSM_0 rfl rfl
    rw [e_47] at b_48
    have e_49 := e_36
    rw [show fI ws_32 0 9 = f_43 from e_44, show fI ws_32 0 6 = f_39 from (Eq.trans rfl e_40), show fI ws_32 0 7 = f_46 from e_47] at e_49
    obtain ⟨f_50, e_51⟩ : ∃ v, fI ws_32 0 11 = v := ⟨_, rfl⟩
    have b_52 := ty_fI (k := 11) h.2 kSM_0 rfl rfl
    rw [e_51] at b_52
    have e_53 := e_37
    rw [show fI ws_32 0 11 = f_50 from e_51, show fI ws0 0 11 = f_1 from (Eq.trans rfl e_2)] at e_53
    have e_54 := e_38
    rw [show fI ws_32 0 6 = f_39 from (Eq.trans rfl e_40), show fI ws_32 0 7 = f_46 from (Eq.trans rfl e_47)] at e_54
    refine lv_aload_n C0.1 C0.2.1 dX12_goesIn_22 rfl (lv_at hl 0 rfl) ?_
    refine ng_X12_wrong C0 h kSM_0 q_1449 dX12_goesIn_23 (fun v_55 e_56 e_57 e_58 => ?_)
    have qh_59 : v_55.toInt = f_50.toInt := congrArg Int32.toInt (e_56.symm.trans (Eq.trans rfl e_51))
    refine y_if_ne (tgt := 33) C0 dX12_goesIn_26 (by decide) (fun c_60 => ?_) (fun c_60 => ?_)
    · -- 26
      refine y_c1 (n := 0) C0 (by decide) dX12_goesIn_33 (fun v_61 e_62 => ?_)
      rw [hQ]
      exact y_zret C0 h (o43_1 e_62) (o43_2 e_62) u_33 ⟨(o43_1 e_62), (o43_2 e_62), (by rw [show fI ws_32 0 9 = f_43 from (Eq.trans rfl e_44), show fI ws_32 0 6 = f_39 from (Eq.trans rfl e_40), show fI ws_32 0 7 = f_46 from (Eq.trans rfl e_47)] <;> exact (o43_86 b_6.1 b_6.2 b_9.1 b_9.2 pre0 pre1 b_41.1 b_41.2 e_42 b_48.1 b_48.2 e_49 e_54)), (by rw [show fI ws_32 0 6 = f_39 from (Eq.trans rfl e_40), show fI ws_32 0 7 = f_46 from (Eq.trans rfl e_47)] <;> exact (o43_87 b_6.1 b_6.2 b_9.1 b_9.2 pre0 pre1 b_41.1 b_41.2 e_42 b_48.1 b_48.2 e_49 e_54)), (by rw [show fI ws_32 0 11 = f_50 from (Eq.trans rfl e_51), show fI ws0 0 11 = f_1 from e_2, show fI ws0 0 7 = f_4 from e_5, show fI ws_32 0 6 = f_39 from (Eq.trans rfl e_40)] <;> exact (o43_88 b_6.1 b_6.2 b_9.1 b_9.2 pre0 pre1 qh_20 c_21 b_41.1 b_41.2 e_42 b_48.1 b_48.2 e_49 e_53 e_54 qh_59 c_60 e_62)), (by rw [show fI ws0 0 6 = f_7 from e_8, show fI ws_32 0 6 = f_39 from (Eq.trans rfl e_40)] <;> exact (o43_89 b_6.1 b_6.2 b_9.1 b_9.2 pre0 pre1 b_41.1 b_41.2 e_42 b_48.1 b_48.2 e_49 e_54))⟩ dX12_goesIn_34
    · -- 26
      refine y_c1 (n := 1) C0 (by decide) dX12_goesIn_29 (fun v_63 e_64 => ?_)
      refine lv_goto (tgt := 34) C0.1 C0.2.1 dX12_goesIn_30 (by decide) ?_
      rw [hQ]
      exact y_zret C0 h (o43_5 e_64) (o43_6 e_64) u_33 ⟨(o43_5 e_64), (o43_6 e_64), (by rw [show fI ws_32 0 9 = f_43 from (Eq.trans rfl e_44), show fI ws_32 0 6 = f_39 from (Eq.trans rfl e_40), show fI ws_32 0 7 = f_46 from (Eq.trans rfl e_47)] <;> exact (o43_86 b_6.1 b_6.2 b_9.1 b_9.2 pre0 pre1 b_41.1 b_41.2 e_42 b_48.1 b_48.2 e_49 e_54)), (by rw [show fI ws_32 0 6 = f_39 from (Eq.trans rfl e_40), show fI ws_32 0 7 = f_46 from (Eq.trans rfl e_47)] <;> exact (o43_87 b_6.1 b_6.2 b_9.1 b_9.2 pre0 pre1 b_41.1 b_41.2 e_42 b_48.1 b_48.2 e_49 e_54)), (by rw [show fI ws_32 0 11 = f_50 from (Eq.trans rfl e_51), show fI ws0 0 11 = f_1 from e_2, show fI ws0 0 7 = f_4 from e_5, show fI ws_32 0 6 = f_39 from (Eq.trans rfl e_40)] <;> exact (o43_90 b_6.1 b_6.2 b_9.1 b_9.2 pre0 pre1 qh_20 c_21 b_41.1 b_41.2 e_42 b_48.1 b_48.2 e_49 e_53 e_54 qh_59 c_60 e_64)), (by rw [show fI ws0 0 6 = f_7 from e_8, show fI ws_32 0 6 = f_39 from (Eq.trans rfl e_40)] <;> exact (o43_89 b_6.1 b_6.2 b_9.1 b_9.2 pre0 pre1 b_41.1 b_41.2 e_42 b_48.1 b_48.2 e_49 e_54))⟩ dX12_goesIn_34
set_option maxHeartbeats 4000000 in
set_option maxRecDepth 100000 in
theorem c_X12_goesIn_6 (l : Launch) (G : GG) (Z : RZ) (ad : Nat → Nat) (ws0 : va_W) (hT : Ty G (SM tt) ad ws0) (a1 : Int32) (l1 : 6 ≤ a1.toInt) (u1 : a1.toInt ≤ 6) (pre0 : ((fI ws0 0 9).toInt = 24 ∨ (fI ws0 0 6).toInt < (fI ws0 0 7).toInt)) (pre1 : (fI ws0 0 6).toInt ≤ (fI ws0 0 7).toInt) : Mq l yX12_goesIn cX12_goesIn 2 (some .boolean) 2 G Z [.ref (ad 0), .int a1] ws0 (PI G (SM tt) ad [0] ws0 (fun r u => (0 ≤ r.toInt) ∧ (r.toInt ≤ 0) ∧ (((fI u 0 9).toInt = 24 ∨ (fI u 0 6).toInt < (fI u 0 7).toInt)) ∧ ((fI u 0 6).toInt ≤ (fI u 0 7).toInt) ∧ (¬ (fI u 0 11).toInt = 0) ∧ ((fI ws0 0 6).toInt ≤ (fI u 0 6).toInt))) := by
  refine Mq.start (by decide) (Nat.le_of_ble_eq_true rfl) ?_
  intro p e s m below meth c A ls C0 hZ h hl
  have hl : lv_has ls 2 [(0, .ref (ad 0)), (1, .int a1)] := hl
  have h : Wt G (SM tt) ad A s s.heap [] ws0 := ⟨h, hT⟩
  obtain ⟨args, hargs⟩ : ∃ z, z = ([.ref (ad 0), .int a1] : List Value).toArray := ⟨_, rfl⟩
  rw [← hargs] at C0 ⊢
  have C0 : Cx p s m args meth c RX12 cX12_goesIn 2 (some .boolean) := C0
  obtain ⟨Q, hQ⟩ : ∃ z, z = MQ below ((PI G (SM tt) ad [0] ws0 (fun r u => (0 ≤ r.toInt) ∧ (r.toInt ≤ 0) ∧ (((fI u 0 9).toInt = 24 ∨ (fI u 0 6).toInt < (fI u 0 7).toInt)) ∧ ((fI u 0 6).toInt ≤ (fI u 0 7).toInt) ∧ (¬ (fI u 0 11).toInt = 0) ∧ ((fI ws0 0 6).toInt ≤ (fI u 0 6).toInt))) A) args s 0 0 A := ⟨_, rfl⟩
  rw [← hQ]
  obtain ⟨f_1, e_2⟩ : ∃ v, fI ws0 0 6 = v := ⟨_, rfl⟩
  have b_3 := ty_fI (k := 6) h.2 kSM_0 rfl rfl
  rw [e_2] at b_3
  obtain ⟨f_4, e_5⟩ : ∃ v, fI ws0 0 9 = v := ⟨_, rfl⟩
  have b_6 := ty_fI (k := 9) h.2 kSM_0 rfl rfl
  rw [e_5] at b_6
  obtain ⟨f_7, e_8⟩ : ∃ v, fI ws0 0 7 = v := ⟨_, rfl⟩
  have b_9 := ty_fI (k := 7) h.2 kSM_0 rfl rfl
  rw [e_8] at b_9
  rw [show fI ws0 0 9 = f_4 from e_5, show fI ws0 0 6 = f_1 from e_2, show fI ws0 0 7 = f_7 from e_8] at pre0
  rw [show fI ws0 0 6 = f_1 from e_2, show fI ws0 0 7 = f_7 from e_8] at pre1
  refine lv_iload_n C0.1 C0.2.1 dX12_goesIn_0 rfl (lv_at hl 1 rfl) ?_
  refine y_c2 (n := 6) C0 (by decide) dX12_goesIn_1 (fun v_10 e_11 => ?_)
  refine y_icmp_ne (tgt := 11) C0 dX12_goesIn_3 (by decide) (fun c_12 => ((o43_91 l1 u1 e_11 c_12)).elim) (fun c_12 => ?_)
  refine lv_aload_n C0.1 C0.2.1 dX12_goesIn_6 rfl (lv_at hl 0 rfl) ?_
  refine y_c1 (n := 4) C0 (by decide) dX12_goesIn_7 (fun v_13 e_14 => ?_)
  refine y_cv h (y_rV (As := [.int v_13]) (rest := []) C0 hZ h (c_X12_fails l G Z ad _ h.2 v_13 (o43_92 e_14) (o43_93 e_14)) k_X12_fails q_1622 q_63 q_1620 kSM_0 rfl rfl rfl hl.1 rfl rfl (Nat.le_of_ble_eq_true rfl) dX12_goesIn_8 ⟨Nat.le_of_ble_eq_true rfl, Nat.le_of_ble_eq_true rfl⟩ ⟨Nat.le_of_ble_eq_true rfl, Nat.le_of_ble_eq_true rfl⟩) (fun H locs ws_15 h u_16 p_17 => ?_)
  obtain ⟨e_18, e_19, e_20, e_21⟩ := p_17
  obtain ⟨f_22, e_23⟩ : ∃ v, fI ws_15 0 6 = v := ⟨_, rfl⟩
  have b_24 := ty_fI (k := 6) h.2 kSM_0 rfl rfl
  rw [e_23] at b_24
  have e_25 := e_18
  rw [show fI ws_15 0 6 = f_22 from e_23, show fI ws0 0 6 = f_1 from (Eq.trans rfl e_2)] at e_25
  obtain ⟨f_26, e_27⟩ : ∃ v, fI ws_15 0 7 = v := ⟨_, rfl⟩
  have b_28 := ty_fI (k := 7) h.2 kSM_0 rfl rfl
  rw [e_27] at b_28
  have e_29 := e_19
  rw [show fI ws_15 0 7 = f_26 from e_27, show fI ws0 0 7 = f_7 from (Eq.trans rfl e_8)] at e_29
  obtain ⟨f_30, e_31⟩ : ∃ v, fI ws_15 0 9 = v := ⟨_, rfl⟩
  have b_32 := ty_fI (k := 9) h.2 kSM_0 rfl rfl
  rw [e_31] at b_32
  have e_33 := e_20
  rw [show fI ws_15 0 9 = f_30 from e_31, show fI ws0 0 9 = f_4 from (Eq.trans rfl e_5)] at e_33
  obtain ⟨f_34, e_35⟩ : ∃ v, fI ws_15 0 11 = v := ⟨_, rfl⟩
  have b_36 := ty_fI (k := 11) h.2 kSM_0 rfl rfl
  rw [e_35] at b_36
  have e_37 := e_21
  rw [show fI ws_15 0 11 = f_34 from e_35] at e_37
  refine lv_aload_n C0.1 C0.2.1 dX12_goesIn_11 rfl (lv_at hl 0 rfl) ?_
  refine ng_X12_wrong C0 h kSM_0 q_1449 dX12_goesIn_12 (fun v_38 e_39 e_40 e_41 => ?_)
  have qh_42 : v_38.toInt = f_34.toInt := congrArg Int32.toInt (e_39.symm.trans (Eq.trans rfl e_35))
  refine y_if_ne (tgt := 22) C0 dX12_goesIn_15 (by decide) (fun c_43 => ?_) (fun c_43 => ((o43_94 e_37 qh_42 c_43)).elim)
  refine lv_aload_n C0.1 C0.2.1 dX12_goesIn_22 rfl (lv_at hl 0 rfl) ?_
  refine ng_X12_wrong C0 h kSM_0 q_1449 dX12_goesIn_23 (fun v_44 e_45 e_46 e_47 => ?_)
  have qh_48 : v_44.toInt = f_34.toInt := congrArg Int32.toInt (e_45.symm.trans (Eq.trans rfl e_35))
  refine y_if_ne (tgt := 33) C0 dX12_goesIn_26 (by decide) (fun c_49 => ?_) (fun c_49 => ((o43_95 e_37 qh_42 c_43 qh_48 c_49)).elim)
  refine y_c1 (n := 0) C0 (by decide) dX12_goesIn_33 (fun v_50 e_51 => ?_)
  rw [hQ]
  exact y_zret C0 h (o43_1 e_51) (o43_2 e_51) u_16 ⟨(o43_1 e_51), (o43_96 e_51), (by rw [show fI ws_15 0 9 = f_30 from (Eq.trans rfl e_31), show fI ws_15 0 6 = f_22 from (Eq.trans rfl e_23), show fI ws_15 0 7 = f_26 from (Eq.trans rfl e_27)] <;> exact (o43_97 b_3.1 b_3.2 b_9.1 b_9.2 pre0 pre1 b_24.1 b_24.2 e_25 b_28.1 b_28.2 e_29 e_33)), (by rw [show fI ws_15 0 6 = f_22 from (Eq.trans rfl e_23), show fI ws_15 0 7 = f_26 from (Eq.trans rfl e_27)] <;> exact (o43_98 b_3.1 b_3.2 b_9.1 b_9.2 pre0 pre1 b_24.1 b_24.2 e_25 b_28.1 b_28.2 e_29 e_33)), (by rw [show fI ws_15 0 11 = f_34 from (Eq.trans rfl e_35)] <;> exact (o43_99 e_37 qh_42 c_43 qh_48 c_49)), (by rw [show fI ws0 0 6 = f_1 from e_2, show fI ws_15 0 6 = f_22 from (Eq.trans rfl e_23)] <;> exact (o43_100 b_3.1 b_3.2 b_9.1 b_9.2 pre0 pre1 b_24.1 b_24.2 e_25 b_28.1 b_28.2 e_29 e_33))⟩ dX12_goesIn_34
