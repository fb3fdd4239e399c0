theorem dX12_codes_0 : decode cX12_codes 0 = .ok (.aload_n 0, 1) := by decide +kernel
theorem dX12_codes_1 : decode cX12_codes 1 = .ok (.getfield 145, 3) := by decide +kernel
theorem dX12_codes_4 : decode cX12_codes 4 = .ok (.ifCond .eq 4, 3) := by decide +kernel
theorem dX12_codes_7 : decode cX12_codes 7 = .ok (.return_, 1) := by decide +kernel
theorem dX12_codes_8 : decode cX12_codes 8 = .ok (.aload_n 0, 1) := by decide +kernel
theorem dX12_codes_9 : decode cX12_codes 9 = .ok (.getfield 24, 3) := by decide +kernel
theorem dX12_codes_12 : decode cX12_codes 12 = .ok (.sipush 874, 3) := by decide +kernel
theorem dX12_codes_15 : decode cX12_codes 15 = .ok (.aload_n 0, 1) := by decide +kernel
theorem dX12_codes_16 : decode cX12_codes 16 = .ok (.getfield 24, 3) := by decide +kernel
theorem dX12_codes_19 : decode cX12_codes 19 = .ok (.sipush 873, 3) := by decide +kernel
theorem dX12_codes_22 : decode cX12_codes 22 = .ok (.iaload, 1) := by decide +kernel
theorem dX12_codes_23 : decode cX12_codes 23 = .ok (.iadd, 1) := by decide +kernel
theorem dX12_codes_24 : decode cX12_codes 24 = .ok (.iload_n 1, 1) := by decide +kernel
theorem dX12_codes_25 : decode cX12_codes 25 = .ok (.iastore, 1) := by decide +kernel
theorem dX12_codes_26 : decode cX12_codes 26 = .ok (.aload_n 0, 1) := by decide +kernel
theorem dX12_codes_27 : decode cX12_codes 27 = .ok (.getfield 24, 3) := by decide +kernel
theorem dX12_codes_30 : decode cX12_codes 30 = .ok (.sipush 873, 3) := by decide +kernel
theorem dX12_codes_33 : decode cX12_codes 33 = .ok (.dup2, 1) := by decide +kernel
theorem dX12_codes_34 : decode cX12_codes 34 = .ok (.iaload, 1) := by decide +kernel
theorem dX12_codes_35 : decode cX12_codes 35 = .ok (.iconst 1, 1) := by decide +kernel
theorem dX12_codes_36 : decode cX12_codes 36 = .ok (.iadd, 1) := by decide +kernel
theorem dX12_codes_37 : decode cX12_codes 37 = .ok (.iastore, 1) := by decide +kernel
theorem dX12_codes_38 : decode cX12_codes 38 = .ok (.return_, 1) := by decide +kernel
theorem dX12_eats_0 : decode cX12_eats 0 = .ok (.aload_n 0, 1) := by decide +kernel
theorem dX12_eats_1 : decode cX12_eats 1 = .ok (.iload_n 1, 1) := by decide +kernel
theorem dX12_eats_2 : decode cX12_eats 2 = .ok (.invokevirtual 151, 3) := by decide +kernel
theorem dX12_eats_5 : decode cX12_eats 5 = .ok (.ifCond .ne 5, 3) := by decide +kernel
theorem dX12_eats_8 : decode cX12_eats 8 = .ok (.iconst 0, 1) := by decide +kernel
theorem dX12_eats_9 : decode cX12_eats 9 = .ok (.ireturn, 1) := by decide +kernel
theorem dX12_eats_10 : decode cX12_eats 10 = .ok (.aload_n 0, 1) := by decide +kernel
theorem dX12_eats_11 : decode cX12_eats 11 = .ok (.invokevirtual 154, 3) := by decide +kernel
theorem dX12_eats_14 : decode cX12_eats 14 = .ok (.iconst 1, 1) := by decide +kernel
theorem dX12_eats_15 : decode cX12_eats 15 = .ok (.ireturn, 1) := by decide +kernel
theorem dX12_fails_0 : decode cX12_fails 0 = .ok (.aload_n 0, 1) := by decide +kernel
theorem dX12_fails_1 : decode cX12_fails 1 = .ok (.getfield 145, 3) := by decide +kernel
theorem dX12_fails_4 : decode cX12_fails 4 = .ok (.ifCond .eq 4, 3) := by decide +kernel
theorem dX12_fails_7 : decode cX12_fails 7 = .ok (.return_, 1) := by decide +kernel
theorem dX12_fails_8 : decode cX12_fails 8 = .ok (.aload_n 0, 1) := by decide +kernel
theorem dX12_fails_9 : decode cX12_fails 9 = .ok (.aload_n 0, 1) := by decide +kernel
theorem dX12_fails_10 : decode cX12_fails 10 = .ok (.getfield 127, 3) := by decide +kernel
theorem dX12_fails_13 : decode cX12_fails 13 = .ok (.bipush 25, 2) := by decide +kernel
theorem dX12_fails_15 : decode cX12_fails 15 = .ok (.if_icmp .ne 7, 3) := by decide +kernel
theorem dX12_fails_18 : decode cX12_fails 18 = .ok (.iconst 1, 1) := by decide +kernel
theorem dX12_fails_19 : decode cX12_fails 19 = .ok (.goto 4, 3) := by decide +kernel
theorem dX12_fails_22 : decode cX12_fails 22 = .ok (.iload_n 1, 1) := by decide +kernel
theorem dX12_fails_23 : decode cX12_fails 23 = .ok (.putfield 145, 3) := by decide +kernel
theorem dX12_fails_26 : decode cX12_fails 26 = .ok (.aload_n 0, 1) := by decide +kernel
theorem dX12_fails_27 : decode cX12_fails 27 = .ok (.aload_n 0, 1) := by decide +kernel
theorem dX12_fails_28 : decode cX12_fails 28 = .ok (.getfield 117, 3) := by decide +kernel
theorem dX12_fails_31 : decode cX12_fails 31 = .ok (.putfield 148, 3) := by decide +kernel
theorem dX12_fails_34 : decode cX12_fails 34 = .ok (.return_, 1) := by decide +kernel
theorem dX12_goesIn_0 : decode cX12_goesIn 0 = .ok (.iload_n 1, 1) := by decide +kernel
theorem dX12_goesIn_1 : decode cX12_goesIn 1 = .ok (.bipush 6, 2) := by decide +kernel
theorem dX12_goesIn_3 : decode cX12_goesIn 3 = .ok (.if_icmp .ne 8, 3) := by decide +kernel
theorem dX12_goesIn_6 : decode cX12_goesIn 6 = .ok (.aload_n 0, 1) := by decide +kernel
theorem dX12_goesIn_7 : decode cX12_goesIn 7 = .ok (.iconst 4, 1) := by decide +kernel
theorem dX12_goesIn_8 : decode cX12_goesIn 8 = .ok (.invokevirtual 157, 3) := by decide +kernel
theorem dX12_goesIn_11 : decode cX12_goesIn 11 = .ok (.aload_n 0, 1) := by decide +kernel
theorem dX12_goesIn_12 : decode cX12_goesIn 12 = .ok (.getfield 145, 3) := by decide +kernel
theorem dX12_goesIn_15 : decode cX12_goesIn 15 = .ok (.ifCond .ne 7, 3) := by decide +kernel
theorem dX12_goesIn_18 : decode cX12_goesIn 18 = .ok (.aload_n 0, 1) := by decide +kernel
theorem dX12_goesIn_19 : decode cX12_goesIn 19 = .ok (.invokevirtual 154, 3) := by decide +kernel
theorem dX12_goesIn_22 : decode cX12_goesIn 22 = .ok (.aload_n 0, 1) := by decide +kernel
theorem dX12_goesIn_23 : decode cX12_goesIn 23 = .ok (.getfield 145, 3) := by decide +kernel
theorem dX12_goesIn_26 : decode cX12_goesIn 26 = .ok (.ifCond .ne 7, 3) := by decide +kernel
theorem dX12_goesIn_29 : decode cX12_goesIn 29 = .ok (.iconst 1, 1) := by decide +kernel
theorem dX12_goesIn_30 : decode cX12_goesIn 30 = .ok (.goto 4, 3) := by decide +kernel
theorem dX12_goesIn_33 : decode cX12_goesIn 33 = .ok (.iconst 0, 1) := by decide +kernel
theorem dX12_goesIn_34 : decode cX12_goesIn 34 = .ok (.ireturn, 1) := by decide +kernel
theorem dX12_is_0 : decode cX12_is 0 = .ok (.aload_n 0, 1) := by decide +kernel
theorem dX12_is_1 : decode cX12_is 1 = .ok (.getfield 145, 3) := by decide +kernel
theorem dX12_is_4 : decode cX12_is 4 = .ok (.ifCond .ne 15, 3) := by decide +kernel
theorem dX12_is_7 : decode cX12_is 7 = .ok (.aload_n 0, 1) := by decide +kernel
theorem dX12_is_8 : decode cX12_is 8 = .ok (.getfield 127, 3) := by decide +kernel
theorem dX12_is_11 : decode cX12_is 11 = .ok (.iload_n 1, 1) := by decide +kernel
theorem dX12_is_12 : decode cX12_is 12 = .ok (.if_icmp .ne 7, 3) := by decide +kernel
theorem dX12_is_15 : decode cX12_is 15 = .ok (.iconst 1, 1) := by decide +kernel
theorem dX12_is_16 : decode cX12_is 16 = .ok (.goto 4, 3) := by decide +kernel
theorem dX12_is_19 : decode cX12_is 19 = .ok (.iconst 0, 1) := by decide +kernel
theorem dX12_is_20 : decode cX12_is 20 = .ok (.ireturn, 1) := by decide +kernel
theorem dX12_takes_0 : decode cX12_takes 0 = .ok (.aload_n 0, 1) := by decide +kernel
theorem dX12_takes_1 : decode cX12_takes 1 = .ok (.bipush 23, 2) := by decide +kernel
theorem dX12_takes_3 : decode cX12_takes 3 = .ok (.invokevirtual 151, 3) := by decide +kernel
theorem dX12_takes_6 : decode cX12_takes 6 = .ok (.ifCond .ne 11, 3) := by decide +kernel
theorem dX12_takes_9 : decode cX12_takes 9 = .ok (.aload_n 0, 1) := by decide +kernel
theorem dX12_takes_10 : decode cX12_takes 10 = .ok (.iconst 2, 1) := by decide +kernel
theorem dX12_takes_11 : decode cX12_takes 11 = .ok (.invokevirtual 157, 3) := by decide +kernel
theorem dX12_takes_14 : decode cX12_takes 14 = .ok (.goto 23, 3) := by decide +kernel
theorem dX12_takes_17 : decode cX12_takes 17 = .ok (.aload_n 0, 1) := by decide +kernel
theorem dX12_takes_18 : decode cX12_takes 18 = .ok (.getfield 140, 3) := by decide +kernel
theorem dX12_takes_21 : decode cX12_takes 21 = .ok (.i2l, 1) := by decide +kernel
theorem dX12_takes_22 : decode cX12_takes 22 = .ok (.iload_n 1, 1) := by decide +kernel
theorem dX12_takes_23 : decode cX12_takes 23 = .ok (.i2l, 1) := by decide +kernel
theorem dX12_takes_24 : decode cX12_takes 24 = .ok (.iload_n 2, 1) := by decide +kernel
theorem dX12_takes_25 : decode cX12_takes 25 = .ok (.i2l, 1) := by decide +kernel
theorem dX12_takes_26 : decode cX12_takes 26 = .ok (.invokestatic 161, 3) := by decide +kernel
theorem dX12_takes_29 : decode cX12_takes 29 = .ok (.ifCond .ne 8, 3) := by decide +kernel
theorem dX12_takes_32 : decode cX12_takes 32 = .ok (.aload_n 0, 1) := by decide +kernel
theorem dX12_takes_33 : decode cX12_takes 33 = .ok (.iconst 3, 1) := by decide +kernel
theorem dX12_takes_34 : decode cX12_takes 34 = .ok (.invokevirtual 157, 3) := by decide +kernel
theorem dX12_takes_37 : decode cX12_takes 37 = .ok (.aload_n 0, 1) := by decide +kernel
theorem dX12_takes_38 : decode cX12_takes 38 = .ok (.getfield 140, 3) := by decide +kernel
theorem dX12_takes_41 : decode cX12_takes 41 = .ok (.istore_n 3, 1) := by decide +kernel
theorem dX12_takes_42 : decode cX12_takes 42 = .ok (.aload_n 0, 1) := by decide +kernel
theorem dX12_takes_43 : decode cX12_takes 43 = .ok (.getfield 145, 3) := by decide +kernel
theorem dX12_takes_46 : decode cX12_takes 46 = .ok (.ifCond .ne 7, 3) := by decide +kernel
theorem dX12_takes_49 : decode cX12_takes 49 = .ok (.aload_n 0, 1) := by decide +kernel
theorem dX12_takes_50 : decode cX12_takes 50 = .ok (.invokevirtual 154, 3) := by decide +kernel
theorem dX12_takes_53 : decode cX12_takes 53 = .ok (.iload_n 3, 1) := by decide +kernel
theorem dX12_takes_54 : decode cX12_takes 54 = .ok (.ireturn, 1) := by decide +kernel
theorem o43_1 {x0 : Int} (h0 : x0 = 0) : 0 ≤ x0 := by omega
theorem o43_2 {x0 : Int} (h0 : x0 = 0) : x0 ≤ 1 := by omega
theorem o43_3 {x0 x1 x2 x3 x4 : Int} (h0 : x4 = x1) (h1 : ¬ x4 = 0) (h2 : x0 = 0) : ((x0 = 0 ∧ ¬ (x1 = 0 ∧ x2 = x3)) ∨ (x0 = 1 ∧ x1 = 0 ∧ x2 = x3)) := by omega
theorem o43_4 {x0 x1 x2 x3 x4 x5 : Int} (h0 : x4 = x1) (h1 : x4 = 0) (h2 : x5 = x2) (h3 : ¬ x5 = x3) (h4 : x0 = 0) : ((x0 = 0 ∧ ¬ (x1 = 0 ∧ x2 = x3)) ∨ (x0 = 1 ∧ x1 = 0 ∧ x2 = x3)) := by omega
theorem o43_5 {x0 : Int} (h0 : x0 = 1) : 0 ≤ x0 := by omega
theorem o43_6 {x0 : Int} (h0 : x0 = 1) : x0 ≤ 1 := by omega
theorem o43_7 {x0 x1 x2 x3 x4 x5 : Int} (h0 : x4 = x1) (h1 : x4 = 0) (h2 : x5 = x2) (h3 : x5 = x3) (h4 : x0 = 1) : ((x0 = 0 ∧ ¬ (x1 = 0 ∧ x2 = x3)) ∨ (x0 = 1 ∧ x1 = 0 ∧ x2 = x3)) := by omega
theorem o43_8 {x0 : Int} (h0 : x0 = 25) : x0 = 25 := by omega
theorem o43_9 {x0 x1 x2 : Int} (h0 : x0 = x1) (h1 : x2 = 25) (h2 : ¬ x0 = x2) : ¬ x0 = 25 := by omega
theorem o43_10 {x0 x1 x2 : Int} (h0 : x0 = x1) (h1 : x2 = 25) (h2 : x0 = x2) : x0 = 25 := by omega
theorem o43_11 {x0 x1 : Int} (h0 : 0 ≤ x0) (h1 : x0 ≤ 900) (h2 : 0 ≤ x1) (h3 : x1 ≤ 900) (h4 : x1 = x0) : x0 = x0 := by omega
theorem o43_12 {x0 : Int} (h0 : 0 ≤ x0) (h1 : x0 ≤ 900) : x0 = x0 := by omega
theorem o43_13 {x0 x1 x2 : Int} (h0 : x1 = x0) (h1 : x2 = 25) (h2 : ¬ x1 = x2) : x0 = x0 := by omega
theorem o43_14 {x0 : Int} (h0 : 1 ≤ x0) (h1 : x0 ≤ 9) : ¬ x0 = 0 := by omega
theorem o43_15 {x0 x1 x2 : Int} (h0 : x1 = x0) (h1 : x2 = 25) (h2 : x1 = x2) : x0 = x0 := by omega
theorem o43_16 {x0 : Int} (h0 : x0 = 1) : ¬ x0 = 0 := by omega
theorem o43_17 {x0 : Int} : x0 = x0 := by omega
theorem o43_18 {x0 : Int} (h0 : ¬ x0 = 0) : ¬ x0 = 0 := by omega
theorem o43_19 {x0 x1 x2 x3 x4 x5 x6 x7 x8 x9 : Int} (h0 : 0 ≤ x3) (h1 : x3 ≤ 900) (h2 : 0 ≤ x4) (h3 : x4 ≤ 900) (h4 : (x5 = 24 ∨ x3 < x4)) (h5 : x3 ≤ x4) (h6 : 0 ≤ x6) (h7 : x6 ≤ 1) (h8 : ((x6 = 0 ∧ ¬ (x7 = 0 ∧ x5 = x8)) ∨ (x6 = 1 ∧ x7 = 0 ∧ x5 = x8))) (h9 : ¬ x6 = 0) (h10 : 0 ≤ x1) (h11 : x1 ≤ 900) (h12 : x4 ≤ x1) (h13 : 0 ≤ x2) (h14 : x2 ≤ 900) (h15 : (x0 = 24 ∨ x1 < x2)) (h16 : x9 = x7) (h17 : x1 ≤ x2) : (x0 = 24 ∨ x1 < x2) := by omega
theorem o43_20 {x0 x1 x2 x3 x4 x5 x6 x7 x8 x9 : Int} (h0 : 0 ≤ x2) (h1 : x2 ≤ 900) (h2 : 0 ≤ x3) (h3 : x3 ≤ 900) (h4 : (x4 = 24 ∨ x2 < x3)) (h5 : x2 ≤ x3) (h6 : 0 ≤ x5) (h7 : x5 ≤ 1) (h8 : ((x5 = 0 ∧ ¬ (x6 = 0 ∧ x4 = x7)) ∨ (x5 = 1 ∧ x6 = 0 ∧ x4 = x7))) (h9 : ¬ x5 = 0) (h10 : 0 ≤ x0) (h11 : x0 ≤ 900) (h12 : x3 ≤ x0) (h13 : 0 ≤ x1) (h14 : x1 ≤ 900) (h15 : (x8 = 24 ∨ x0 < x1)) (h16 : x9 = x6) (h17 : x0 ≤ x1) : x0 ≤ x1 := by omega
theorem o43_21 {x0 x1 x2 x3 x4 x5 x6 x7 x8 x9 x10 : Int} (h0 : 0 ≤ x2) (h1 : x2 ≤ 900) (h2 : 0 ≤ x4) (h3 : x4 ≤ 900) (h4 : (x6 = 24 ∨ x2 < x4)) (h5 : x2 ≤ x4) (h6 : 0 ≤ x10) (h7 : x10 ≤ 1) (h8 : ((x10 = 0 ∧ ¬ (x8 = 0 ∧ x6 = x9)) ∨ (x10 = 1 ∧ x8 = 0 ∧ x6 = x9))) (h9 : ¬ x10 = 0) (h10 : 0 ≤ x1) (h11 : x1 ≤ 900) (h12 : x4 ≤ x1) (h13 : 0 ≤ x3) (h14 : x3 ≤ 900) (h15 : (x5 = 24 ∨ x1 < x3)) (h16 : x7 = x8) (h17 : x1 ≤ x3) (h18 : x0 = 1) : ((x0 = 0 ∧ x1 = x2 ∧ x3 = x4 ∧ x5 = x6 ∧ x7 = x8 ∧ ¬ (x8 = 0 ∧ x6 = x9)) ∨ (x0 = 1 ∧ x4 ≤ x1 ∧ x7 = 0 ∧ x8 = 0 ∧ x6 = x9)) := by omega
theorem o43_22 {x0 x1 x2 x3 x4 x5 : Int} (h0 : 0 ≤ x1) (h1 : x1 ≤ 900) (h2 : 0 ≤ x2) (h3 : x2 ≤ 900) (h4 : (x0 = 24 ∨ x1 < x2)) (h5 : x1 ≤ x2) (h6 : 0 ≤ x3) (h7 : x3 ≤ 1) (h8 : ((x3 = 0 ∧ ¬ (x4 = 0 ∧ x0 = x5)) ∨ (x3 = 1 ∧ x4 = 0 ∧ x0 = x5))) (h9 : x3 = 0) : (x0 = 24 ∨ x1 < x2) := by omega
theorem o43_23 {x0 x1 x2 x3 x4 x5 : Int} (h0 : 0 ≤ x0) (h1 : x0 ≤ 900) (h2 : 0 ≤ x1) (h3 : x1 ≤ 900) (h4 : (x2 = 24 ∨ x0 < x1)) (h5 : x0 ≤ x1) (h6 : 0 ≤ x3) (h7 : x3 ≤ 1) (h8 : ((x3 = 0 ∧ ¬ (x4 = 0 ∧ x2 = x5)) ∨ (x3 = 1 ∧ x4 = 0 ∧ x2 = x5))) (h9 : x3 = 0) : x0 ≤ x1 := by omega
theorem o43_24 {x0 x1 x2 x3 x4 x5 x6 : Int} (h0 : 0 ≤ x1) (h1 : x1 ≤ 900) (h2 : 0 ≤ x2) (h3 : x2 ≤ 900) (h4 : (x3 = 24 ∨ x1 < x2)) (h5 : x1 ≤ x2) (h6 : 0 ≤ x6) (h7 : x6 ≤ 1) (h8 : ((x6 = 0 ∧ ¬ (x4 = 0 ∧ x3 = x5)) ∨ (x6 = 1 ∧ x4 = 0 ∧ x3 = x5))) (h9 : x6 = 0) (h10 : x0 = 0) : ((x0 = 0 ∧ x1 = x1 ∧ x2 = x2 ∧ x3 = x3 ∧ x4 = x4 ∧ ¬ (x4 = 0 ∧ x3 = x5)) ∨ (x0 = 1 ∧ x2 ≤ x1 ∧ x4 = 0 ∧ x4 = 0 ∧ x3 = x5)) := by omega
theorem o43_25 {x0 x1 x2 x3 x4 x5 x6 x7 : Int} (h0 : 0 ≤ x1) (h1 : x1 ≤ 999) (h2 : x2 = x1) (h3 : x3 = x4) (h4 : x5 = x6) (h5 : 0 ≤ x7) (h6 : x7 ≤ 1) (h7 : ((x7 = 0 ∧ (x2 < x3 ∨ x5 < x2)) ∨ (x7 = 1 ∧ x3 ≤ x2 ∧ x2 ≤ x5))) (h8 : ¬ x7 = 0) (h9 : 0 ≤ x0) (h10 : x0 ≤ 999) (h11 : x0 = x1) : 0 ≤ x0 := by omega
theorem o43_26 {x0 x1 x2 x3 x4 x5 x6 x7 : Int} (h0 : 0 ≤ x1) (h1 : x1 ≤ 999) (h2 : x2 = x1) (h3 : x3 = x4) (h4 : x5 = x6) (h5 : 0 ≤ x7) (h6 : x7 ≤ 1) (h7 : ((x7 = 0 ∧ (x2 < x3 ∨ x5 < x2)) ∨ (x7 = 1 ∧ x3 ≤ x2 ∧ x2 ≤ x5))) (h8 : ¬ x7 = 0) (h9 : 0 ≤ x0) (h10 : x0 ≤ 999) (h11 : x0 = x1) : x0 ≤ 999 := by omega
theorem o43_27 {x0 x1 x2 x3 x4 x5 x6 : Int} (h0 : 0 ≤ x1) (h1 : x1 ≤ 900) (h2 : 0 ≤ x2) (h3 : x2 ≤ 900) (h4 : (x0 = 24 ∨ x1 < x2)) (h5 : x1 ≤ x2) (h6 : x3 = 23) (h7 : 0 ≤ x4) (h8 : x4 ≤ 1) (h9 : ((x4 = 0 ∧ ¬ (x5 = 0 ∧ x0 = x3)) ∨ (x4 = 1 ∧ x5 = 0 ∧ x0 = x3))) (h10 : ¬ x4 = 0) (h11 : x6 = x5) (h12 : ¬ x6 = 0) : (x0 = 24 ∨ x1 < x2) := by omega
theorem o43_28 {x0 x1 x2 x3 x4 x5 x6 : Int} (h0 : 0 ≤ x0) (h1 : x0 ≤ 900) (h2 : 0 ≤ x1) (h3 : x1 ≤ 900) (h4 : (x2 = 24 ∨ x0 < x1)) (h5 : x0 ≤ x1) (h6 : x3 = 23) (h7 : 0 ≤ x4) (h8 : x4 ≤ 1) (h9 : ((x4 = 0 ∧ ¬ (x5 = 0 ∧ x2 = x3)) ∨ (x4 = 1 ∧ x5 = 0 ∧ x2 = x3))) (h10 : ¬ x4 = 0) (h11 : x6 = x5) (h12 : ¬ x6 = 0) : x0 ≤ x1 := by omega
theorem o43_29 {x0 x1 x2 x3 x4 x5 x6 x7 x8 x9 x10 x11 x12 x13 x14 : Int} (h0 : 0 ≤ x4) (h1 : x4 ≤ 900) (h2 : 0 ≤ x5) (h3 : x5 ≤ 900) (h4 : (x6 = 24 ∨ x4 < x5)) (h5 : x4 ≤ x5) (h6 : x7 = 23) (h7 : 0 ≤ x8) (h8 : x8 ≤ 1) (h9 : ((x8 = 0 ∧ ¬ (x0 = 0 ∧ x6 = x7)) ∨ (x8 = 1 ∧ x0 = 0 ∧ x6 = x7))) (h10 : ¬ x8 = 0) (h11 : 0 ≤ x9) (h12 : x9 ≤ 999) (h13 : x10 = x9) (h14 : x11 = x1) (h15 : x12 = x3) (h16 : 0 ≤ x13) (h17 : x13 ≤ 1) (h18 : ((x13 = 0 ∧ (x10 < x11 ∨ x12 < x10)) ∨ (x13 = 1 ∧ x11 ≤ x10 ∧ x10 ≤ x12))) (h19 : ¬ x13 = 0) (h20 : 0 ≤ x2) (h21 : x2 ≤ 999) (h22 : x2 = x9) (h23 : x14 = x0) (h24 : ¬ x14 = 0) : (x0 = 0 → x0 = 0 ∧ x1 ≤ x2 ∧ x2 ≤ x3) := by omega
theorem o43_30 {x0 x1 x2 x3 x4 x5 x6 : Int} (h0 : 0 ≤ x0) (h1 : x0 ≤ 900) (h2 : 0 ≤ x1) (h3 : x1 ≤ 900) (h4 : (x2 = 24 ∨ x0 < x1)) (h5 : x0 ≤ x1) (h6 : x3 = 23) (h7 : 0 ≤ x4) (h8 : x4 ≤ 1) (h9 : ((x4 = 0 ∧ ¬ (x5 = 0 ∧ x2 = x3)) ∨ (x4 = 1 ∧ x5 = 0 ∧ x2 = x3))) (h10 : ¬ x4 = 0) (h11 : x6 = x5) (h12 : ¬ x6 = 0) : x0 ≤ x0 := by omega
theorem o43_31 {x0 x1 x2 x3 x4 x5 x6 x7 x8 x9 x10 : Int} (h0 : 0 ≤ x3) (h1 : x3 ≤ 900) (h2 : 0 ≤ x4) (h3 : x4 ≤ 900) (h4 : (x5 = 24 ∨ x3 < x4)) (h5 : x3 ≤ x4) (h6 : x6 = 23) (h7 : 0 ≤ x7) (h8 : x7 ≤ 1) (h9 : ((x7 = 0 ∧ ¬ (x8 = 0 ∧ x5 = x6)) ∨ (x7 = 1 ∧ x8 = 0 ∧ x5 = x6))) (h10 : ¬ x7 = 0) (h11 : x9 = x8) (h12 : x9 = 0) (h13 : 0 ≤ x1) (h14 : x1 ≤ 900) (h15 : x4 ≤ x1) (h16 : 0 ≤ x2) (h17 : x2 ≤ 900) (h18 : (x0 = 24 ∨ x1 < x2)) (h19 : x10 = x8) (h20 : x1 ≤ x2) : (x0 = 24 ∨ x1 < x2) := by omega
theorem o43_32 {x0 x1 x2 x3 x4 x5 x6 x7 x8 x9 x10 : Int} (h0 : 0 ≤ x2) (h1 : x2 ≤ 900) (h2 : 0 ≤ x3) (h3 : x3 ≤ 900) (h4 : (x4 = 24 ∨ x2 < x3)) (h5 : x2 ≤ x3) (h6 : x5 = 23) (h7 : 0 ≤ x6) (h8 : x6 ≤ 1) (h9 : ((x6 = 0 ∧ ¬ (x7 = 0 ∧ x4 = x5)) ∨ (x6 = 1 ∧ x7 = 0 ∧ x4 = x5))) (h10 : ¬ x6 = 0) (h11 : x8 = x7) (h12 : x8 = 0) (h13 : 0 ≤ x0) (h14 : x0 ≤ 900) (h15 : x3 ≤ x0) (h16 : 0 ≤ x1) (h17 : x1 ≤ 900) (h18 : (x9 = 24 ∨ x0 < x1)) (h19 : x10 = x7) (h20 : x0 ≤ x1) : x0 ≤ x1 := by omega
theorem o43_33 {x0 x1 x2 x3 x4 x5 x6 x7 x8 x9 x10 x11 x12 x13 x14 x15 x16 x17 x18 : Int} (h0 : 0 ≤ x5) (h1 : x5 ≤ 900) (h2 : 0 ≤ x6) (h3 : x6 ≤ 900) (h4 : (x7 = 24 ∨ x5 < x6)) (h5 : x5 ≤ x6) (h6 : x8 = 23) (h7 : 0 ≤ x9) (h8 : x9 ≤ 1) (h9 : ((x9 = 0 ∧ ¬ (x1 = 0 ∧ x7 = x8)) ∨ (x9 = 1 ∧ x1 = 0 ∧ x7 = x8))) (h10 : ¬ x9 = 0) (h11 : 0 ≤ x10) (h12 : x10 ≤ 999) (h13 : x11 = x10) (h14 : x12 = x2) (h15 : x13 = x4) (h16 : 0 ≤ x14) (h17 : x14 ≤ 1) (h18 : ((x14 = 0 ∧ (x11 < x12 ∨ x13 < x11)) ∨ (x14 = 1 ∧ x12 ≤ x11 ∧ x11 ≤ x13))) (h19 : ¬ x14 = 0) (h20 : 0 ≤ x3) (h21 : x3 ≤ 999) (h22 : x3 = x10) (h23 : x15 = x1) (h24 : x15 = 0) (h25 : 0 ≤ x16) (h26 : x16 ≤ 900) (h27 : x6 ≤ x16) (h28 : 0 ≤ x17) (h29 : x17 ≤ 900) (h30 : (x18 = 24 ∨ x16 < x17)) (h31 : x0 = x1) (h32 : x16 ≤ x17) : (x0 = 0 → x1 = 0 ∧ x2 ≤ x3 ∧ x3 ≤ x4) := by omega
theorem o43_34 {x0 x1 x2 x3 x4 x5 x6 x7 x8 x9 x10 : Int} (h0 : 0 ≤ x0) (h1 : x0 ≤ 900) (h2 : 0 ≤ x2) (h3 : x2 ≤ 900) (h4 : (x3 = 24 ∨ x0 < x2)) (h5 : x0 ≤ x2) (h6 : x4 = 23) (h7 : 0 ≤ x5) (h8 : x5 ≤ 1) (h9 : ((x5 = 0 ∧ ¬ (x6 = 0 ∧ x3 = x4)) ∨ (x5 = 1 ∧ x6 = 0 ∧ x3 = x4))) (h10 : ¬ x5 = 0) (h11 : x7 = x6) (h12 : x7 = 0) (h13 : 0 ≤ x1) (h14 : x1 ≤ 900) (h15 : x2 ≤ x1) (h16 : 0 ≤ x8) (h17 : x8 ≤ 900) (h18 : (x9 = 24 ∨ x1 < x8)) (h19 : x10 = x6) (h20 : x1 ≤ x8) : x0 ≤ x1 := by omega
theorem o43_35 {x0 : Int} (h0 : x0 = 3) : 1 ≤ x0 := by omega
theorem o43_36 {x0 : Int} (h0 : x0 = 3) : x0 ≤ 9 := by omega
theorem o43_37 {x0 : Int} (h0 : 0 ≤ x0) (h1 : x0 ≤ 999) : 0 ≤ x0 := by omega
theorem o43_38 {x0 : Int} (h0 : 0 ≤ x0) (h1 : x0 ≤ 999) : x0 ≤ 999 := by omega
theorem o43_39 {x0 x1 x2 x3 x4 x5 x6 x7 x8 : Int} (h0 : 0 ≤ x3) (h1 : x3 ≤ 900) (h2 : 0 ≤ x4) (h3 : x4 ≤ 900) (h4 : (x5 = 24 ∨ x3 < x4)) (h5 : x3 ≤ x4) (h6 : x6 = 23) (h7 : 0 ≤ x7) (h8 : x7 ≤ 1) (h9 : ((x7 = 0 ∧ ¬ (x8 = 0 ∧ x5 = x6)) ∨ (x7 = 1 ∧ x8 = 0 ∧ x5 = x6))) (h10 : ¬ x7 = 0) (h11 : 0 ≤ x1) (h12 : x1 ≤ 900) (h13 : x1 = x3) (h14 : 0 ≤ x2) (h15 : x2 ≤ 900) (h16 : x2 = x4) (h17 : x0 = x5) : (x0 = 24 ∨ x1 < x2) := by omega
theorem o43_40 {x0 x1 x2 x3 x4 x5 x6 x7 x8 : Int} (h0 : 0 ≤ x2) (h1 : x2 ≤ 900) (h2 : 0 ≤ x3) (h3 : x3 ≤ 900) (h4 : (x4 = 24 ∨ x2 < x3)) (h5 : x2 ≤ x3) (h6 : x5 = 23) (h7 : 0 ≤ x6) (h8 : x6 ≤ 1) (h9 : ((x6 = 0 ∧ ¬ (x7 = 0 ∧ x4 = x5)) ∨ (x6 = 1 ∧ x7 = 0 ∧ x4 = x5))) (h10 : ¬ x6 = 0) (h11 : 0 ≤ x0) (h12 : x0 ≤ 900) (h13 : x0 = x2) (h14 : 0 ≤ x1) (h15 : x1 ≤ 900) (h16 : x1 = x3) (h17 : x8 = x4) : x0 ≤ x1 := by omega
theorem o43_41 {x0 x1 x2 x3 x4 x5 x6 x7 x8 x9 x10 x11 x12 x13 x14 x15 x16 x17 x18 : Int} (h0 : 0 ≤ x5) (h1 : x5 ≤ 900) (h2 : 0 ≤ x6) (h3 : x6 ≤ 900) (h4 : (x7 = 24 ∨ x5 < x6)) (h5 : x5 ≤ x6) (h6 : x8 = 23) (h7 : 0 ≤ x9) (h8 : x9 ≤ 1) (h9 : ((x9 = 0 ∧ ¬ (x1 = 0 ∧ x7 = x8)) ∨ (x9 = 1 ∧ x1 = 0 ∧ x7 = x8))) (h10 : ¬ x9 = 0) (h11 : 0 ≤ x10) (h12 : x10 ≤ 999) (h13 : x11 = x10) (h14 : x12 = x2) (h15 : x13 = x4) (h16 : 0 ≤ x14) (h17 : x14 ≤ 1) (h18 : ((x14 = 0 ∧ (x11 < x12 ∨ x13 < x11)) ∨ (x14 = 1 ∧ x12 ≤ x11 ∧ x11 ≤ x13))) (h19 : x14 = 0) (h20 : 0 ≤ x15) (h21 : x15 ≤ 900) (h22 : x15 = x5) (h23 : 0 ≤ x16) (h24 : x16 ≤ 900) (h25 : x16 = x6) (h26 : x17 = x7) (h27 : ¬ x0 = 0) (h28 : 0 ≤ x3) (h29 : x3 ≤ 999) (h30 : x18 = x0) (h31 : ¬ x18 = 0) : (x0 = 0 → x1 = 0 ∧ x2 ≤ x3 ∧ x3 ≤ x4) := by omega
theorem o43_42 {x0 x1 x2 x3 x4 x5 x6 x7 x8 : Int} (h0 : 0 ≤ x0) (h1 : x0 ≤ 900) (h2 : 0 ≤ x2) (h3 : x2 ≤ 900) (h4 : (x3 = 24 ∨ x0 < x2)) (h5 : x0 ≤ x2) (h6 : x4 = 23) (h7 : 0 ≤ x5) (h8 : x5 ≤ 1) (h9 : ((x5 = 0 ∧ ¬ (x6 = 0 ∧ x3 = x4)) ∨ (x5 = 1 ∧ x6 = 0 ∧ x3 = x4))) (h10 : ¬ x5 = 0) (h11 : 0 ≤ x1) (h12 : x1 ≤ 900) (h13 : x1 = x0) (h14 : 0 ≤ x7) (h15 : x7 ≤ 900) (h16 : x7 = x2) (h17 : x8 = x3) : x0 ≤ x1 := by omega
theorem o43_43 {x0 x1 x2 x3 x4 x5 x6 x7 x8 x9 x10 x11 : Int} (h0 : 0 ≤ x3) (h1 : x3 ≤ 900) (h2 : 0 ≤ x4) (h3 : x4 ≤ 900) (h4 : (x5 = 24 ∨ x3 < x4)) (h5 : x3 ≤ x4) (h6 : x6 = 23) (h7 : 0 ≤ x7) (h8 : x7 ≤ 1) (h9 : ((x7 = 0 ∧ ¬ (x8 = 0 ∧ x5 = x6)) ∨ (x7 = 1 ∧ x8 = 0 ∧ x5 = x6))) (h10 : ¬ x7 = 0) (h11 : 0 ≤ x9) (h12 : x9 ≤ 900) (h13 : x9 = x3) (h14 : 0 ≤ x10) (h15 : x10 ≤ 900) (h16 : x10 = x4) (h17 : x11 = x5) (h18 : 0 ≤ x1) (h19 : x1 ≤ 900) (h20 : x10 ≤ x1) (h21 : 0 ≤ x2) (h22 : x2 ≤ 900) (h23 : (x0 = 24 ∨ x1 < x2)) (h24 : x1 ≤ x2) : (x0 = 24 ∨ x1 < x2) := by omega
theorem o43_44 {x0 x1 x2 x3 x4 x5 x6 x7 x8 x9 x10 x11 : Int} (h0 : 0 ≤ x2) (h1 : x2 ≤ 900) (h2 : 0 ≤ x3) (h3 : x3 ≤ 900) (h4 : (x4 = 24 ∨ x2 < x3)) (h5 : x2 ≤ x3) (h6 : x5 = 23) (h7 : 0 ≤ x6) (h8 : x6 ≤ 1) (h9 : ((x6 = 0 ∧ ¬ (x7 = 0 ∧ x4 = x5)) ∨ (x6 = 1 ∧ x7 = 0 ∧ x4 = x5))) (h10 : ¬ x6 = 0) (h11 : 0 ≤ x8) (h12 : x8 ≤ 900) (h13 : x8 = x2) (h14 : 0 ≤ x9) (h15 : x9 ≤ 900) (h16 : x9 = x3) (h17 : x10 = x4) (h18 : 0 ≤ x0) (h19 : x0 ≤ 900) (h20 : x9 ≤ x0) (h21 : 0 ≤ x1) (h22 : x1 ≤ 900) (h23 : (x11 = 24 ∨ x0 < x1)) (h24 : x0 ≤ x1) : x0 ≤ x1 := by omega
theorem o43_45 {x0 x1 x2 x3 x4 x5 x6 x7 x8 x9 x10 x11 x12 x13 x14 x15 x16 x17 x18 x19 x20 x21 x22 : Int} (h0 : 0 ≤ x5) (h1 : x5 ≤ 900) (h2 : 0 ≤ x6) (h3 : x6 ≤ 900) (h4 : (x7 = 24 ∨ x5 < x6)) (h5 : x5 ≤ x6) (h6 : x8 = 23) (h7 : 0 ≤ x9) (h8 : x9 ≤ 1) (h9 : ((x9 = 0 ∧ ¬ (x1 = 0 ∧ x7 = x8)) ∨ (x9 = 1 ∧ x1 = 0 ∧ x7 = x8))) (h10 : ¬ x9 = 0) (h11 : 0 ≤ x10) (h12 : x10 ≤ 999) (h13 : x11 = x10) (h14 : x12 = x2) (h15 : x13 = x4) (h16 : 0 ≤ x14) (h17 : x14 ≤ 1) (h18 : ((x14 = 0 ∧ (x11 < x12 ∨ x13 < x11)) ∨ (x14 = 1 ∧ x12 ≤ x11 ∧ x11 ≤ x13))) (h19 : x14 = 0) (h20 : 0 ≤ x15) (h21 : x15 ≤ 900) (h22 : x15 = x5) (h23 : 0 ≤ x16) (h24 : x16 ≤ 900) (h25 : x16 = x6) (h26 : x17 = x7) (h27 : ¬ x18 = 0) (h28 : 0 ≤ x3) (h29 : x3 ≤ 999) (h30 : x19 = x18) (h31 : x19 = 0) (h32 : 0 ≤ x20) (h33 : x20 ≤ 900) (h34 : x16 ≤ x20) (h35 : 0 ≤ x21) (h36 : x21 ≤ 900) (h37 : (x22 = 24 ∨ x20 < x21)) (h38 : x0 = x18) (h39 : x20 ≤ x21) : (x0 = 0 → x1 = 0 ∧ x2 ≤ x3 ∧ x3 ≤ x4) := by omega
theorem o43_46 {x0 x1 x2 x3 x4 x5 x6 x7 x8 x9 x10 x11 : Int} (h0 : 0 ≤ x0) (h1 : x0 ≤ 900) (h2 : 0 ≤ x2) (h3 : x2 ≤ 900) (h4 : (x3 = 24 ∨ x0 < x2)) (h5 : x0 ≤ x2) (h6 : x4 = 23) (h7 : 0 ≤ x5) (h8 : x5 ≤ 1) (h9 : ((x5 = 0 ∧ ¬ (x6 = 0 ∧ x3 = x4)) ∨ (x5 = 1 ∧ x6 = 0 ∧ x3 = x4))) (h10 : ¬ x5 = 0) (h11 : 0 ≤ x7) (h12 : x7 ≤ 900) (h13 : x7 = x0) (h14 : 0 ≤ x8) (h15 : x8 ≤ 900) (h16 : x8 = x2) (h17 : x9 = x3) (h18 : 0 ≤ x1) (h19 : x1 ≤ 900) (h20 : x8 ≤ x1) (h21 : 0 ≤ x10) (h22 : x10 ≤ 900) (h23 : (x11 = 24 ∨ x1 < x10)) (h24 : x1 ≤ x10) : x0 ≤ x1 := by omega
theorem o43_47 {x0 : Int} (h0 : x0 = 2) : 1 ≤ x0 := by omega
theorem o43_48 {x0 : Int} (h0 : x0 = 2) : x0 ≤ 9 := by omega
theorem o43_49 {x0 x1 x2 x3 x4 x5 x6 x7 x8 : Int} (h0 : 0 ≤ x3) (h1 : x3 ≤ 900) (h2 : 0 ≤ x4) (h3 : x4 ≤ 900) (h4 : (x5 = 24 ∨ x3 < x4)) (h5 : x3 ≤ x4) (h6 : x6 = 23) (h7 : 0 ≤ x7) (h8 : x7 ≤ 1) (h9 : ((x7 = 0 ∧ ¬ (x8 = 0 ∧ x5 = x6)) ∨ (x7 = 1 ∧ x8 = 0 ∧ x5 = x6))) (h10 : x7 = 0) (h11 : 0 ≤ x1) (h12 : x1 ≤ 900) (h13 : x1 = x3) (h14 : 0 ≤ x2) (h15 : x2 ≤ 900) (h16 : x2 = x4) (h17 : x0 = x5) : (x0 = 24 ∨ x1 < x2) := by omega
theorem o43_50 {x0 x1 x2 x3 x4 x5 x6 x7 x8 : Int} (h0 : 0 ≤ x2) (h1 : x2 ≤ 900) (h2 : 0 ≤ x3) (h3 : x3 ≤ 900) (h4 : (x4 = 24 ∨ x2 < x3)) (h5 : x2 ≤ x3) (h6 : x5 = 23) (h7 : 0 ≤ x6) (h8 : x6 ≤ 1) (h9 : ((x6 = 0 ∧ ¬ (x7 = 0 ∧ x4 = x5)) ∨ (x6 = 1 ∧ x7 = 0 ∧ x4 = x5))) (h10 : x6 = 0) (h11 : 0 ≤ x0) (h12 : x0 ≤ 900) (h13 : x0 = x2) (h14 : 0 ≤ x1) (h15 : x1 ≤ 900) (h16 : x1 = x3) (h17 : x8 = x4) : x0 ≤ x1 := by omega
theorem o43_51 {x0 x1 x2 x3 x4 x5 x6 x7 x8 x9 x10 x11 x12 x13 : Int} (h0 : 0 ≤ x5) (h1 : x5 ≤ 900) (h2 : 0 ≤ x6) (h3 : x6 ≤ 900) (h4 : (x7 = 24 ∨ x5 < x6)) (h5 : x5 ≤ x6) (h6 : x8 = 23) (h7 : 0 ≤ x9) (h8 : x9 ≤ 1) (h9 : ((x9 = 0 ∧ ¬ (x1 = 0 ∧ x7 = x8)) ∨ (x9 = 1 ∧ x1 = 0 ∧ x7 = x8))) (h10 : x9 = 0) (h11 : 0 ≤ x10) (h12 : x10 ≤ 900) (h13 : x10 = x5) (h14 : 0 ≤ x11) (h15 : x11 ≤ 900) (h16 : x11 = x6) (h17 : x12 = x7) (h18 : ¬ x0 = 0) (h19 : 0 ≤ x3) (h20 : x3 ≤ 999) (h21 : x13 = x0) (h22 : ¬ x13 = 0) : (x0 = 0 → x1 = 0 ∧ x2 ≤ x3 ∧ x3 ≤ x4) := by omega
theorem o43_52 {x0 x1 x2 x3 x4 x5 x6 x7 x8 : Int} (h0 : 0 ≤ x0) (h1 : x0 ≤ 900) (h2 : 0 ≤ x2) (h3 : x2 ≤ 900) (h4 : (x3 = 24 ∨ x0 < x2)) (h5 : x0 ≤ x2) (h6 : x4 = 23) (h7 : 0 ≤ x5) (h8 : x5 ≤ 1) (h9 : ((x5 = 0 ∧ ¬ (x6 = 0 ∧ x3 = x4)) ∨ (x5 = 1 ∧ x6 = 0 ∧ x3 = x4))) (h10 : x5 = 0) (h11 : 0 ≤ x1) (h12 : x1 ≤ 900) (h13 : x1 = x0) (h14 : 0 ≤ x7) (h15 : x7 ≤ 900) (h16 : x7 = x2) (h17 : x8 = x3) : x0 ≤ x1 := by omega
theorem o43_53 {x0 x1 x2 x3 x4 x5 x6 x7 x8 x9 x10 x11 : Int} (h0 : 0 ≤ x3) (h1 : x3 ≤ 900) (h2 : 0 ≤ x4) (h3 : x4 ≤ 900) (h4 : (x5 = 24 ∨ x3 < x4)) (h5 : x3 ≤ x4) (h6 : x6 = 23) (h7 : 0 ≤ x7) (h8 : x7 ≤ 1) (h9 : ((x7 = 0 ∧ ¬ (x8 = 0 ∧ x5 = x6)) ∨ (x7 = 1 ∧ x8 = 0 ∧ x5 = x6))) (h10 : x7 = 0) (h11 : 0 ≤ x9) (h12 : x9 ≤ 900) (h13 : x9 = x3) (h14 : 0 ≤ x10) (h15 : x10 ≤ 900) (h16 : x10 = x4) (h17 : x11 = x5) (h18 : 0 ≤ x1) (h19 : x1 ≤ 900) (h20 : x10 ≤ x1) (h21 : 0 ≤ x2) (h22 : x2 ≤ 900) (h23 : (x0 = 24 ∨ x1 < x2)) (h24 : x1 ≤ x2) : (x0 = 24 ∨ x1 < x2) := by omega
theorem o43_54 {x0 x1 x2 x3 x4 x5 x6 x7 x8 x9 x10 x11 : Int} (h0 : 0 ≤ x2) (h1 : x2 ≤ 900) (h2 : 0 ≤ x3) (h3 : x3 ≤ 900) (h4 : (x4 = 24 ∨ x2 < x3)) (h5 : x2 ≤ x3) (h6 : x5 = 23) (h7 : 0 ≤ x6) (h8 : x6 ≤ 1) (h9 : ((x6 = 0 ∧ ¬ (x7 = 0 ∧ x4 = x5)) ∨ (x6 = 1 ∧ x7 = 0 ∧ x4 = x5))) (h10 : x6 = 0) (h11 : 0 ≤ x8) (h12 : x8 ≤ 900) (h13 : x8 = x2) (h14 : 0 ≤ x9) (h15 : x9 ≤ 900) (h16 : x9 = x3) (h17 : x10 = x4) (h18 : 0 ≤ x0) (h19 : x0 ≤ 900) (h20 : x9 ≤ x0) (h21 : 0 ≤ x1) (h22 : x1 ≤ 900) (h23 : (x11 = 24 ∨ x0 < x1)) (h24 : x0 ≤ x1) : x0 ≤ x1 := by omega
theorem o43_55 {x0 x1 x2 x3 x4 x5 x6 x7 x8 x9 x10 x11 x12 x13 x14 x15 x16 x17 : Int} (h0 : 0 ≤ x5) (h1 : x5 ≤ 900) (h2 : 0 ≤ x6) (h3 : x6 ≤ 900) (h4 : (x7 = 24 ∨ x5 < x6)) (h5 : x5 ≤ x6) (h6 : x8 = 23) (h7 : 0 ≤ x9) (h8 : x9 ≤ 1) (h9 : ((x9 = 0 ∧ ¬ (x1 = 0 ∧ x7 = x8)) ∨ (x9 = 1 ∧ x1 = 0 ∧ x7 = x8))) (h10 : x9 = 0) (h11 : 0 ≤ x10) (h12 : x10 ≤ 900) (h13 : x10 = x5) (h14 : 0 ≤ x11) (h15 : x11 ≤ 900) (h16 : x11 = x6) (h17 : x12 = x7) (h18 : ¬ x13 = 0) (h19 : 0 ≤ x3) (h20 : x3 ≤ 999) (h21 : x14 = x13) (h22 : x14 = 0) (h23 : 0 ≤ x15) (h24 : x15 ≤ 900) (h25 : x11 ≤ x15) (h26 : 0 ≤ x16) (h27 : x16 ≤ 900) (h28 : (x17 = 24 ∨ x15 < x16)) (h29 : x0 = x13) (h30 : x15 ≤ x16) : (x0 = 0 → x1 = 0 ∧ x2 ≤ x3 ∧ x3 ≤ x4) := by omega
theorem o43_56 {x0 x1 x2 x3 x4 x5 x6 x7 x8 x9 x10 x11 : Int} (h0 : 0 ≤ x0) (h1 : x0 ≤ 900) (h2 : 0 ≤ x2) (h3 : x2 ≤ 900) (h4 : (x3 = 24 ∨ x0 < x2)) (h5 : x0 ≤ x2) (h6 : x4 = 23) (h7 : 0 ≤ x5) (h8 : x5 ≤ 1) (h9 : ((x5 = 0 ∧ ¬ (x6 = 0 ∧ x3 = x4)) ∨ (x5 = 1 ∧ x6 = 0 ∧ x3 = x4))) (h10 : x5 = 0) (h11 : 0 ≤ x7) (h12 : x7 ≤ 900) (h13 : x7 = x0) (h14 : 0 ≤ x8) (h15 : x8 ≤ 900) (h16 : x8 = x2) (h17 : x9 = x3) (h18 : 0 ≤ x1) (h19 : x1 ≤ 900) (h20 : x8 ≤ x1) (h21 : 0 ≤ x10) (h22 : x10 ≤ 900) (h23 : (x11 = 24 ∨ x1 < x10)) (h24 : x1 ≤ x10) : x0 ≤ x1 := by omega
theorem o43_57 {x0 : Int} (h0 : x0 = 873) : 0 ≤ x0 := by omega
theorem o43_58 {x0 : Int} (h0 : x0 = 873) : x0 < (1774 : Nat) := by omega
theorem o43_59 : ∀ p, p < 874 → 873 ≤ p → 0 ≤ (elR p).1 ∧ (elR p).2 ≤ 900 := by decide +kernel
theorem o43_60 {x0 : Int} (h0 : x0 = 873) : (x0).toNat < 874 := by omega
theorem o43_61 {x0 : Int} (h0 : x0 = 873) : 873 ≤ (x0).toNat := by omega
theorem o43_62 {x0 : Int} (h0 : x0 = 873) : x0 = ((873 : Nat) : Int) := by omega
theorem o43_63 {x0 x1 x2 x3 x4 : Int} (h0 : 0 ≤ x2) (h1 : x2 ≤ 900) (h2 : (¬ x3 = 0 ∨ x2 ≤ 899)) (h3 : x4 = x3) (h4 : x4 = 0) (h5 : x0 = 874) (h6 : 0 ≤ x1) (h7 : x1 ≤ 900) (h8 : x1 = x2) (h9 : -2147483648 ≤ x0) (h10 : x0 ≤ 2147483647) (h11 : -2147483648 ≤ x1) (h12 : x1 ≤ 2147483647) (h13 : -2147483648 ≤ x2) (h14 : x2 ≤ 2147483647) (h15 : -2147483648 ≤ x3) (h16 : x3 ≤ 2147483647) (h17 : -2147483648 ≤ x4) (h18 : x4 ≤ 2147483647) : -2147483648 ≤ x0 + x1 := by omega
theorem o43_64 {x0 x1 x2 x3 x4 : Int} (h0 : 0 ≤ x2) (h1 : x2 ≤ 900) (h2 : (¬ x3 = 0 ∨ x2 ≤ 899)) (h3 : x4 = x3) (h4 : x4 = 0) (h5 : x0 = 874) (h6 : 0 ≤ x1) (h7 : x1 ≤ 900) (h8 : x1 = x2) (h9 : -2147483648 ≤ x0) (h10 : x0 ≤ 2147483647) (h11 : -2147483648 ≤ x1) (h12 : x1 ≤ 2147483647) (h13 : -2147483648 ≤ x2) (h14 : x2 ≤ 2147483647) (h15 : -2147483648 ≤ x3) (h16 : x3 ≤ 2147483647) (h17 : -2147483648 ≤ x4) (h18 : x4 ≤ 2147483647) : x0 + x1 ≤ 2147483647 := by omega
theorem o43_65 {x0 x1 x2 x3 x4 x5 : Int} (h0 : 0 ≤ x1) (h1 : x1 ≤ 900) (h2 : (¬ x2 = 0 ∨ x1 ≤ 899)) (h3 : x3 = x2) (h4 : x3 = 0) (h5 : x4 = 874) (h6 : 0 ≤ x5) (h7 : x5 ≤ 900) (h8 : x5 = x1) (h9 : x0 = x4 + x5) : 0 ≤ x0 := by omega
theorem o43_66 {x0 x1 x2 x3 x4 x5 : Int} (h0 : 0 ≤ x1) (h1 : x1 ≤ 900) (h2 : (¬ x2 = 0 ∨ x1 ≤ 899)) (h3 : x3 = x2) (h4 : x3 = 0) (h5 : x4 = 874) (h6 : 0 ≤ x5) (h7 : x5 ≤ 900) (h8 : x5 = x1) (h9 : x0 = x4 + x5) : x0 < (1774 : Nat) := by omega
theorem o43_67 : ∀ p, p < 1774 → 874 ≤ p → (elR p).1 ≤ (-2147483648) ∧ 2147483647 ≤ (elR p).2 := by decide +kernel
theorem o43_68 {x0 x1 x2 x3 x4 x5 : Int} (h0 : 0 ≤ x1) (h1 : x1 ≤ 900) (h2 : (¬ x2 = 0 ∨ x1 ≤ 899)) (h3 : x3 = x2) (h4 : x3 = 0) (h5 : x4 = 874) (h6 : 0 ≤ x5) (h7 : x5 ≤ 900) (h8 : x5 = x1) (h9 : x0 = x4 + x5) : (x0).toNat < 1774 := by omega
theorem o43_69 {x0 x1 x2 x3 x4 x5 : Int} (h0 : 0 ≤ x1) (h1 : x1 ≤ 900) (h2 : (¬ x2 = 0 ∨ x1 ≤ 899)) (h3 : x3 = x2) (h4 : x3 = 0) (h5 : x4 = 874) (h6 : 0 ≤ x5) (h7 : x5 ≤ 900) (h8 : x5 = x1) (h9 : x0 = x4 + x5) : 874 ≤ (x0).toNat := by omega
theorem o43_70 {x0 x1 x2 x3 x4 x5 : Int} (h0 : 0 ≤ x1) (h1 : x1 ≤ 900) (h2 : (¬ x2 = 0 ∨ x1 ≤ 899)) (h3 : x3 = x2) (h4 : x3 = 0) (h5 : x4 = 874) (h6 : 0 ≤ x5) (h7 : x5 ≤ 900) (h8 : x5 = x1) (h9 : x0 = x4 + x5) : 873 ≠ (x0).toNat := by omega
theorem o43_71 {x0 x1 x2 x3 x4 x5 x6 x7 : Int} (h0 : 0 ≤ x2) (h1 : x2 ≤ 900) (h2 : (¬ x3 = 0 ∨ x2 ≤ 899)) (h3 : x4 = x3) (h4 : x4 = 0) (h5 : x5 = 874) (h6 : 0 ≤ x6) (h7 : x6 ≤ 900) (h8 : x6 = x2) (h9 : x7 = x5 + x6) (h10 : 0 ≤ x0) (h11 : x0 ≤ 900) (h12 : x0 = x2) (h13 : x1 = 1) (h14 : -2147483648 ≤ x0) (h15 : x0 ≤ 2147483647) (h16 : -2147483648 ≤ x1) (h17 : x1 ≤ 2147483647) (h18 : -2147483648 ≤ x2) (h19 : x2 ≤ 2147483647) (h20 : -2147483648 ≤ x3) (h21 : x3 ≤ 2147483647) (h22 : -2147483648 ≤ x4) (h23 : x4 ≤ 2147483647) (h24 : -2147483648 ≤ x5) (h25 : x5 ≤ 2147483647) (h26 : -2147483648 ≤ x6) (h27 : x6 ≤ 2147483647) (h28 : -2147483648 ≤ x7) (h29 : x7 ≤ 2147483647) : -2147483648 ≤ x0 + x1 := by omega
theorem o43_72 {x0 x1 x2 x3 x4 x5 x6 x7 : Int} (h0 : 0 ≤ x2) (h1 : x2 ≤ 900) (h2 : (¬ x3 = 0 ∨ x2 ≤ 899)) (h3 : x4 = x3) (h4 : x4 = 0) (h5 : x5 = 874) (h6 : 0 ≤ x6) (h7 : x6 ≤ 900) (h8 : x6 = x2) (h9 : x7 = x5 + x6) (h10 : 0 ≤ x0) (h11 : x0 ≤ 900) (h12 : x0 = x2) (h13 : x1 = 1) (h14 : -2147483648 ≤ x0) (h15 : x0 ≤ 2147483647) (h16 : -2147483648 ≤ x1) (h17 : x1 ≤ 2147483647) (h18 : -2147483648 ≤ x2) (h19 : x2 ≤ 2147483647) (h20 : -2147483648 ≤ x3) (h21 : x3 ≤ 2147483647) (h22 : -2147483648 ≤ x4) (h23 : x4 ≤ 2147483647) (h24 : -2147483648 ≤ x5) (h25 : x5 ≤ 2147483647) (h26 : -2147483648 ≤ x6) (h27 : x6 ≤ 2147483647) (h28 : -2147483648 ≤ x7) (h29 : x7 ≤ 2147483647) : x0 + x1 ≤ 2147483647 := by omega
theorem o43_73 : ∀ p, p < 874 → 873 ≤ p → (elR p).1 ≤ 0 ∧ 900 ≤ (elR p).2 := by decide +kernel
theorem o43_74 {x0 x1 x2 x3 x4 x5 x6 x7 x8 : Int} (h0 : 0 ≤ x1) (h1 : x1 ≤ 900) (h2 : (¬ x2 = 0 ∨ x1 ≤ 899)) (h3 : x3 = x2) (h4 : x3 = 0) (h5 : x4 = 874) (h6 : 0 ≤ x5) (h7 : x5 ≤ 900) (h8 : x5 = x1) (h9 : x6 = x4 + x5) (h10 : 0 ≤ x7) (h11 : x7 ≤ 900) (h12 : x7 = x1) (h13 : x8 = 1) (h14 : x0 = x7 + x8) : 0 ≤ x0 := by omega
theorem o43_75 {x0 x1 x2 x3 x4 x5 x6 x7 x8 : Int} (h0 : 0 ≤ x1) (h1 : x1 ≤ 900) (h2 : (¬ x2 = 0 ∨ x1 ≤ 899)) (h3 : x3 = x2) (h4 : x3 = 0) (h5 : x4 = 874) (h6 : 0 ≤ x5) (h7 : x5 ≤ 900) (h8 : x5 = x1) (h9 : x6 = x4 + x5) (h10 : 0 ≤ x7) (h11 : x7 ≤ 900) (h12 : x7 = x1) (h13 : x8 = 1) (h14 : x0 = x7 + x8) : x0 ≤ 900 := by omega
theorem o43_76 {x0 x1 x2 x3 x4 x5 x6 x7 x8 : Int} (h0 : 0 ≤ x2) (h1 : x2 ≤ 900) (h2 : (¬ x0 = 0 ∨ x2 ≤ 899)) (h3 : x3 = x0) (h4 : x3 = 0) (h5 : x4 = 874) (h6 : 0 ≤ x5) (h7 : x5 ≤ 900) (h8 : x5 = x2) (h9 : x6 = x4 + x5) (h10 : 0 ≤ x7) (h11 : x7 ≤ 900) (h12 : x7 = x2) (h13 : x8 = 1) (h14 : x1 = x7 + x8) : ((¬ x0 = 0 ∧ x1 = x2) ∨ (x0 = 0 ∧ x1 = x2 + 1)) := by omega
theorem o43_77 {x0 x1 x2 x3 x4 x5 x6 x7 x8 : Int} (h0 : 0 ≤ x1) (h1 : x1 ≤ 900) (h2 : (¬ x2 = 0 ∨ x1 ≤ 899)) (h3 : x3 = x2) (h4 : x3 = 0) (h5 : x4 = 874) (h6 : 0 ≤ x5) (h7 : x5 ≤ 900) (h8 : x5 = x1) (h9 : x0 = x4 + x5) (h10 : 0 ≤ x6) (h11 : x6 ≤ 900) (h12 : x6 = x1) (h13 : x7 = 1) (h14 : x8 = x6 + x7) : x0 = 874 + x1 := by omega
theorem o43_78 {x0 : Int} (h0 : x0 = 873) : x0 = 873 := by omega
theorem o43_79 {x0 x1 x2 x3 x4 x5 x6 x7 x8 : Int} (h0 : 0 ≤ x0) (h1 : x0 ≤ 900) (h2 : (¬ x1 = 0 ∨ x0 ≤ 899)) (h3 : x2 = x1) (h4 : x2 = 0) (h5 : x3 = 874) (h6 : 0 ≤ x4) (h7 : x4 ≤ 900) (h8 : x4 = x0) (h9 : x5 = x3 + x4) (h10 : 0 ≤ x6) (h11 : x6 ≤ 900) (h12 : x6 = x0) (h13 : x7 = 1) (h14 : x8 = x6 + x7) : 0 ≤ x0 := by omega
theorem o43_80 {x0 x1 x2 x3 x4 x5 x6 x7 x8 : Int} (h0 : 0 ≤ x1) (h1 : x1 ≤ 900) (h2 : (¬ x2 = 0 ∨ x1 ≤ 899)) (h3 : x3 = x2) (h4 : x3 = 0) (h5 : x4 = 874) (h6 : 0 ≤ x5) (h7 : x5 ≤ 900) (h8 : x5 = x1) (h9 : x6 = x4 + x5) (h10 : 0 ≤ x7) (h11 : x7 ≤ 900) (h12 : x7 = x1) (h13 : x8 = 1) (h14 : x0 = x7 + x8) : x0 = x1 + 1 := by omega
theorem o43_81 {x0 x1 x2 : Int} (h0 : 0 ≤ x1) (h1 : x1 ≤ 900) (h2 : (¬ x0 = 0 ∨ x1 ≤ 899)) (h3 : x2 = x0) (h4 : ¬ x2 = 0) : ((¬ x0 = 0 ∧ x1 = x1) ∨ (x0 = 0 ∧ x1 = x1 + 1)) := by omega
theorem o43_82 {x0 x1 x2 : Int} (h0 : 0 ≤ x1) (h1 : x1 ≤ 900) (h2 : (¬ x0 = 0 ∨ x1 ≤ 899)) (h3 : x2 = x0) (h4 : ¬ x2 = 0) : ¬ x0 = 0 := by omega
theorem o43_83 {x0 x1 : Int} (h0 : 0 ≤ x0) (h1 : x0 ≤ 5) (h2 : x1 = 6) (h3 : x0 = x1) : False := by omega
theorem o43_84 {x0 x1 x2 : Int} (h0 : 0 ≤ x2) (h1 : x2 ≤ 900) (h2 : 0 ≤ x1) (h3 : x1 ≤ 900) (h4 : (x0 = 24 ∨ x1 < x2)) (h5 : x1 ≤ x2) : (x0 = 24 ∨ x1 < x2) := by omega
theorem o43_85 {x0 x1 x2 : Int} (h0 : 0 ≤ x1) (h1 : x1 ≤ 900) (h2 : 0 ≤ x0) (h3 : x0 ≤ 900) (h4 : (x2 = 24 ∨ x0 < x1)) (h5 : x0 ≤ x1) : x0 ≤ x1 := by omega
theorem o43_86 {x0 x1 x2 x3 x4 x5 x6 : Int} (h0 : 0 ≤ x2) (h1 : x2 ≤ 900) (h2 : 0 ≤ x3) (h3 : x3 ≤ 900) (h4 : (x4 = 24 ∨ x3 < x2)) (h5 : x3 ≤ x2) (h6 : x5 = x1) (h7 : ¬ x5 = 0) (h8 : x6 = x1) (h9 : ¬ x6 = 0) (h10 : x0 = 0) : ((x0 = 0 ∧ ¬ x1 = 0) ∨ (x0 = 1 ∧ x1 = 0 ∧ x1 = 0 ∧ x2 ≤ x3)) := by omega
theorem o43_87 {x0 x1 x2 : Int} (h0 : 0 ≤ x1) (h1 : x1 ≤ 900) (h2 : 0 ≤ x0) (h3 : x0 ≤ 900) (h4 : (x2 = 24 ∨ x0 < x1)) (h5 : x0 ≤ x1) : x0 ≤ x0 := by omega
theorem o43_88 {x0 x1 x2 x3 x4 x5 x6 : Int} (h0 : 0 ≤ x2) (h1 : x2 ≤ 900) (h2 : 0 ≤ x3) (h3 : x3 ≤ 900) (h4 : (x4 = 24 ∨ x3 < x2)) (h5 : x3 ≤ x2) (h6 : x5 = x1) (h7 : ¬ x5 = 0) (h8 : x6 = x1) (h9 : x6 = 0) (h10 : x0 = 1) : ((x0 = 0 ∧ ¬ x1 = 0) ∨ (x0 = 1 ∧ x1 = 0 ∧ x1 = 0 ∧ x2 ≤ x3)) := by omega
theorem o43_89 {x0 x1 x2 x3 x4 x5 : Int} (h0 : 0 ≤ x3) (h1 : x3 ≤ 900) (h2 : 0 ≤ x4) (h3 : x4 ≤ 900) (h4 : (x5 = 24 ∨ x4 < x3)) (h5 : x4 ≤ x3) (h6 : 0 ≤ x1) (h7 : x1 ≤ 900) (h8 : x3 ≤ x1) (h9 : 0 ≤ x2) (h10 : x2 ≤ 900) (h11 : (x0 = 24 ∨ x1 < x2)) (h12 : x1 ≤ x2) : (x0 = 24 ∨ x1 < x2) := by omega
theorem o43_90 {x0 x1 x2 x3 x4 x5 : Int} (h0 : 0 ≤ x2) (h1 : x2 ≤ 900) (h2 : 0 ≤ x3) (h3 : x3 ≤ 900) (h4 : (x4 = 24 ∨ x3 < x2)) (h5 : x3 ≤ x2) (h6 : 0 ≤ x0) (h7 : x0 ≤ 900) (h8 : x2 ≤ x0) (h9 : 0 ≤ x1) (h10 : x1 ≤ 900) (h11 : (x5 = 24 ∨ x0 < x1)) (h12 : x0 ≤ x1) : x0 ≤ x1 := by omega
theorem o43_91 {x0 x1 x2 x3 x4 x5 x6 x7 x8 x9 x10 : Int} (h0 : 0 ≤ x3) (h1 : x3 ≤ 900) (h2 : 0 ≤ x5) (h3 : x5 ≤ 900) (h4 : (x6 = 24 ∨ x5 < x3)) (h5 : x5 ≤ x3) (h6 : x7 = x2) (h7 : x7 = 0) (h8 : 0 ≤ x4) (h9 : x4 ≤ 900) (h10 : x3 ≤ x4) (h11 : 0 ≤ x8) (h12 : x8 ≤ 900) (h13 : (x9 = 24 ∨ x4 < x8)) (h14 : x1 = x2) (h15 : x4 ≤ x8) (h16 : x10 = x1) (h17 : ¬ x10 = 0) (h18 : x0 = 0) : ((x0 = 0 ∧ ¬ x1 = 0) ∨ (x0 = 1 ∧ x1 = 0 ∧ x2 = 0 ∧ x3 ≤ x4)) := by omega
theorem o43_92 {x0 x1 x2 x3 x4 x5 : Int} (h0 : 0 ≤ x2) (h1 : x2 ≤ 900) (h2 : 0 ≤ x0) (h3 : x0 ≤ 900) (h4 : (x3 = 24 ∨ x0 < x2)) (h5 : x0 ≤ x2) (h6 : 0 ≤ x1) (h7 : x1 ≤ 900) (h8 : x2 ≤ x1) (h9 : 0 ≤ x4) (h10 : x4 ≤ 900) (h11 : (x5 = 24 ∨ x1 < x4)) (h12 : x1 ≤ x4) : x0 ≤ x1 := by omega
theorem o43_93 {x0 x1 x2 x3 x4 x5 x6 x7 x8 x9 x10 : Int} (h0 : 0 ≤ x3) (h1 : x3 ≤ 900) (h2 : 0 ≤ x5) (h3 : x5 ≤ 900) (h4 : (x6 = 24 ∨ x5 < x3)) (h5 : x5 ≤ x3) (h6 : x7 = x2) (h7 : x7 = 0) (h8 : 0 ≤ x4) (h9 : x4 ≤ 900) (h10 : x3 ≤ x4) (h11 : 0 ≤ x8) (h12 : x8 ≤ 900) (h13 : (x9 = 24 ∨ x4 < x8)) (h14 : x1 = x2) (h15 : x4 ≤ x8) (h16 : x10 = x1) (h17 : x10 = 0) (h18 : x0 = 1) : ((x0 = 0 ∧ ¬ x1 = 0) ∨ (x0 = 1 ∧ x1 = 0 ∧ x2 = 0 ∧ x3 ≤ x4)) := by omega
theorem o43_94 {x0 x1 : Int} (h0 : 6 ≤ x0) (h1 : x0 ≤ 6) (h2 : x1 = 6) (h3 : ¬ x0 = x1) : False := by omega
theorem o43_95 {x0 : Int} (h0 : x0 = 4) : 1 ≤ x0 := by omega
theorem o43_96 {x0 : Int} (h0 : x0 = 4) : x0 ≤ 9 := by omega
theorem o43_97 {x0 x1 : Int} (h0 : ¬ x1 = 0) (h1 : x0 = x1) (h2 : x0 = 0) : False := by omega
theorem o43_98 {x0 x1 x2 : Int} (h0 : ¬ x1 = 0) (h1 : x2 = x1) (h2 : ¬ x2 = 0) (h3 : x0 = x1) (h4 : x0 = 0) : False := by omega
theorem o43_99 {x0 : Int} (h0 : x0 = 0) : x0 ≤ 0 := by omega
theorem o43_100 {x0 x1 x2 x3 x4 x5 : Int} (h0 : 0 ≤ x3) (h1 : x3 ≤ 900) (h2 : 0 ≤ x4) (h3 : x4 ≤ 900) (h4 : (x5 = 24 ∨ x3 < x4)) (h5 : x3 ≤ x4) (h6 : 0 ≤ x1) (h7 : x1 ≤ 900) (h8 : x1 = x3) (h9 : 0 ≤ x2) (h10 : x2 ≤ 900) (h11 : x2 = x4) (h12 : x0 = x5) : (x0 = 24 ∨ x1 < x2) := by omega
theorem o43_101 {x0 x1 x2 x3 x4 x5 : Int} (h0 : 0 ≤ x2) (h1 : x2 ≤ 900) (h2 : 0 ≤ x3) (h3 : x3 ≤ 900) (h4 : (x4 = 24 ∨ x2 < x3)) (h5 : x2 ≤ x3) (h6 : 0 ≤ x0) (h7 : x0 ≤ 900) (h8 : x0 = x2) (h9 : 0 ≤ x1) (h10 : x1 ≤ 900) (h11 : x1 = x3) (h12 : x5 = x4) : x0 ≤ x1 := by omega
theorem o43_102 {x0 x1 x2 : Int} (h0 : ¬ x0 = 0) (h1 : x1 = x0) (h2 : ¬ x1 = 0) (h3 : x2 = x0) (h4 : ¬ x2 = 0) : ¬ x0 = 0 := by omega
theorem o43_103 {x0 x1 x2 x3 x4 x5 : Int} (h0 : 0 ≤ x0) (h1 : x0 ≤ 900) (h2 : 0 ≤ x2) (h3 : x2 ≤ 900) (h4 : (x3 = 24 ∨ x0 < x2)) (h5 : x0 ≤ x2) (h6 : 0 ≤ x1) (h7 : x1 ≤ 900) (h8 : x1 = x0) (h9 : 0 ≤ x4) (h10 : x4 ≤ 900) (h11 : x4 = x2) (h12 : x5 = x3) : x0 ≤ x1 := by omega
noncomputable def g2_X12_is (s : XS) : XR := (s, 0)
noncomputable def g5_X12_is (s : XS) : XR := (s, 0)
noncomputable def g6_X12_is (s : XS) : XR := (s, 1)
noncomputable def g4b_X12_is (s : XS) (a1 : Int) (v_15 : Int) : XR := if v_15 = a1 then g6_X12_is s else g5_X12_is s
noncomputable def g3_X12_is (s : XS) (a1 : Int) : XR := g4b_X12_is s a1 ((s 0 0 9))
noncomputable def g1b_X12_is (s : XS) (v_7 : Int) (a1 : Int) : XR := if v_7 = 0 then g3_X12_is s a1 else g2_X12_is s
noncomputable def f_X12_is (s : XS) (a1 : Int) : XR := g1b_X12_is s ((s 0 0 11)) a1
set_option maxHeartbeats 4000000 in
set_option maxRecDepth 100000 in
theorem c_X12_is (l : Launch) (G : GG) (Z : RZ) (ad : Nat → Nat) (ws0 : va_W) (hT : Ty G SM ad ws0) (a1 : Int32) : Mq l yX12_is cX12_is 2 (some .boolean) 1 G Z [.ref (ad 0), .int a1] ws0 (PI G SM ad [] ws0 (fun r u => (xso SM ad u = (f_X12_is (xso SM ad ws0) a1.toInt).1) ∧ (r.toInt = (f_X12_is (xso SM ad ws0) a1.toInt).2) ∧ (0 ≤ r.toInt) ∧ (r.toInt ≤ 1) ∧ (((r.toInt = 0 ∧ ¬ ((fI ws0 0 11).toInt = 0 ∧ (fI ws0 0 9).toInt = a1.toInt)) ∨ (r.toInt = 1 ∧ (fI ws0 0 11).toInt = 0 ∧ (fI ws0 0 9).toInt = a1.toInt))))) := by
  refine Mq.start (by decide) (Nat.le_of_ble_eq_true rfl) ?_
  intro p e s m below meth c A ls C0 hZ h hl
  have hl : lv_has ls 2 [(0, .ref (ad 0)), (1, .int a1)] := hl
  have h : Wt G SM ad A s s.heap [] ws0 := ⟨h, hT⟩
  obtain ⟨args, hargs⟩ : ∃ z, z = ([.ref (ad 0), .int a1] : List Value).toArray := ⟨_, rfl⟩
  rw [← hargs] at C0 ⊢
  have C0 : Cx p s m args meth c RX12 cX12_is 2 (some .boolean) := C0
  obtain ⟨Q, hQ⟩ : ∃ z, z = MQ below ((PI G SM ad [] ws0 (fun r u => (xso SM ad u = (f_X12_is (xso SM ad ws0) a1.toInt).1) ∧ (r.toInt = (f_X12_is (xso SM ad ws0) a1.toInt).2) ∧ (0 ≤ r.toInt) ∧ (r.toInt ≤ 1) ∧ (((r.toInt = 0 ∧ ¬ ((fI ws0 0 11).toInt = 0 ∧ (fI ws0 0 9).toInt = a1.toInt)) ∨ (r.toInt = 1 ∧ (fI ws0 0 11).toInt = 0 ∧ (fI ws0 0 9).toInt = a1.toInt))))) A) args s 0 0 A := ⟨_, rfl⟩
  rw [← hQ]
  obtain ⟨FT, hFT⟩ : ∃ z, z = f_X12_is (xso SM ad ws0) a1.toInt := ⟨_, rfl⟩
  have HE : FT = f_X12_is (xso SM ad ws0) a1.toInt := hFT
  obtain ⟨f_1, e_2⟩ : ∃ v, fI ws0 0 11 = v := ⟨_, rfl⟩
  have b_3 := ty_fI (k := 11) h.2 kSM_0 rfl rfl
  rw [e_2] at b_3
  obtain ⟨f_4, e_5⟩ : ∃ v, fI ws0 0 9 = v := ⟨_, rfl⟩
  have b_6 := ty_fI (k := 9) h.2 kSM_0 rfl rfl
  rw [e_5] at b_6
  refine lv_aload_n C0.1 C0.2.1 dX12_is_0 rfl (lv_at hl 0 rfl) ?_
  refine ng_X12_wrong C0 h kSM_0 q_1449 dX12_is_1 (fun v_7 e_8 e_9 e_10 => ?_)
  have qh_11 : v_7.toInt = f_1.toInt := congrArg Int32.toInt (e_8.symm.trans (Eq.trans rfl e_2))
  replace HE : FT = g1b_X12_is (xso SM ad ws0) v_7.toInt a1.toInt := HE.trans (by rw [(xg0 e_8 : v_7.toInt = (xso SM ad ws0) 0 0 11)]; rfl)
  refine y_if_ne (tgt := 19) C0 dX12_is_4 (by decide) (fun c_12 => ?_) (fun c_12 => ?_)
  · -- 4
    replace HE : FT = g2_X12_is (xso SM ad ws0) := HE.trans (if_neg c_12)
    refine y_c1 (n := 0) C0 (by decide) dX12_is_19 (fun v_13 e_14 => ?_)
    replace HE : FT = ((xso SM ad ws0), v_13.toInt) := HE.trans (by rw [e_14]; rfl)
    rw [hQ]
    exact y_zret C0 h (o43_1 e_14) (o43_2 e_14) Fr.rf ⟨(congrArg Prod.fst (HE.symm.trans hFT)), (congrArg Prod.snd (HE.symm.trans hFT)), (o43_1 e_14), (o43_2 e_14), (by rw [show fI ws0 0 11 = f_1 from e_2, show fI ws0 0 9 = f_4 from e_5] <;> exact (o43_3 qh_11 c_12 e_14))⟩ dX12_is_20
  · -- 4
    replace HE : FT = g3_X12_is (xso SM ad ws0) a1.toInt := HE.trans (if_pos c_12)
    refine lv_aload_n C0.1 C0.2.1 dX12_is_7 rfl (lv_at hl 0 rfl) ?_
    refine ng_X12_kind C0 h kSM_0 q_1447 dX12_is_8 (fun v_15 e_16 e_17 e_18 => ?_)
    have qh_19 : v_15.toInt = f_4.toInt := congrArg Int32.toInt (e_16.symm.trans (Eq.trans rfl e_5))
    refine lv_iload_n C0.1 C0.2.1 dX12_is_11 rfl (lv_at hl 1 rfl) ?_
    replace HE : FT = g4b_X12_is (xso SM ad ws0) a1.toInt v_15.toInt := HE.trans (by rw [(xg0 e_16 : v_15.toInt = (xso SM ad ws0) 0 0 9)]; rfl)
    refine y_icmp_ne (tgt := 19) C0 dX12_is_12 (by decide) (fun c_20 => ?_) (fun c_20 => ?_)
    · -- 12
      replace HE : FT = g5_X12_is (xso SM ad ws0) := HE.trans (if_neg c_20)
      refine y_c1 (n := 0) C0 (by decide) dX12_is_19 (fun v_21 e_22 => ?_)
      replace HE : FT = ((xso SM ad ws0), v_21.toInt) := HE.trans (by rw [e_22]; rfl)
      rw [hQ]
      exact y_zret C0 h (o43_1 e_22) (o43_2 e_22) Fr.rf ⟨(congrArg Prod.fst (HE.symm.trans hFT)), (congrArg Prod.snd (HE.symm.trans hFT)), (o43_1 e_22), (o43_2 e_22), (by rw [show fI ws0 0 11 = f_1 from e_2, show fI ws0 0 9 = f_4 from e_5] <;> exact (o43_4 qh_11 c_12 qh_19 c_20 e_22))⟩ dX12_is_20
    · -- 12
      replace HE : FT = g6_X12_is (xso SM ad ws0) := HE.trans (if_pos c_20)
      refine y_c1 (n := 1) C0 (by decide) dX12_is_15 (fun v_23 e_24 => ?_)
      refine lv_goto (tgt := 20) C0.1 C0.2.1 dX12_is_16 (by decide) ?_
      replace HE : FT = ((xso SM ad ws0), v_23.toInt) := HE.trans (by rw [e_24]; rfl)
      rw [hQ]
      exact y_zret C0 h (o43_5 e_24) (o43_6 e_24) Fr.rf ⟨(congrArg Prod.fst (HE.symm.trans hFT)), (congrArg Prod.snd (HE.symm.trans hFT)), (o43_5 e_24), (o43_6 e_24), (by rw [show fI ws0 0 11 = f_1 from e_2, show fI ws0 0 9 = f_4 from e_5] <;> exact (o43_7 qh_11 c_12 qh_19 c_20 e_24))⟩ dX12_is_20
noncomputable def g8w_X12_fails (s : XS) : XR := (s, 0)
noncomputable def g7w_X12_fails (s : XS) : XR := g8w_X12_fails (xup s 0 0 12 (s 0 0 6))
noncomputable def g5_X12_fails (s : XS) (a1 : Int) : XR := g7w_X12_fails (xup s 0 0 11 a1)
noncomputable def g10w_X12_fails (s : XS) : XR := (s, 0)
noncomputable def g9w_X12_fails (s : XS) : XR := g10w_X12_fails (xup s 0 0 12 (s 0 0 6))
noncomputable def g6_X12_fails (s : XS) : XR := g9w_X12_fails (xup s 0 0 11 1)
noncomputable def g4b_X12_fails (s : XS) (v_15 : Int) (a1 : Int) : XR := if v_15 = 25 then g6_X12_fails s else g5_X12_fails s a1
noncomputable def g2_X12_fails (s : XS) (a1 : Int) : XR := g4b_X12_fails s ((s 0 0 9)) a1
noncomputable def g3_X12_fails (s : XS) : XR := (s, 0)
noncomputable def g1b_X12_fails (s : XS) (v_10 : Int) (a1 : Int) : XR := if v_10 = 0 then g2_X12_fails s a1 else g3_X12_fails s
noncomputable def f_X12_fails (s : XS) (a1 : Int) : XR := g1b_X12_fails s ((s 0 0 11)) a1
set_option maxHeartbeats 4000000 in
set_option maxRecDepth 100000 in
theorem c_X12_fails (l : Launch) (G : GG) (Z : RZ) (ad : Nat → Nat) (ws0 : va_W) (hT : Ty G SM ad ws0) (a1 : Int32) (l1 : 1 ≤ a1.toInt) (u1 : a1.toInt ≤ 9) : Mq l yX12_fails cX12_fails 2 none 1 G Z [.ref (ad 0), .int a1] ws0 (PV G SM ad [0] ws0 (fun u => (xso SM ad u = (f_X12_fails (xso SM ad ws0) a1.toInt).1) ∧ ((fI u 0 6).toInt = (fI ws0 0 6).toInt) ∧ ((fI u 0 7).toInt = (fI ws0 0 7).toInt) ∧ ((fI u 0 9).toInt = (fI ws0 0 9).toInt) ∧ (¬ (fI u 0 11).toInt = 0))) := by
  refine Mq.start (by decide) (Nat.le_of_ble_eq_true rfl) ?_
  intro p e s m below meth c A ls C0 hZ h hl
  have hl : lv_has ls 2 [(0, .ref (ad 0)), (1, .int a1)] := hl
  have h : Wt G SM ad A s s.heap [] ws0 := ⟨h, hT⟩
  obtain ⟨args, hargs⟩ : ∃ z, z = ([.ref (ad 0), .int a1] : List Value).toArray := ⟨_, rfl⟩
  rw [← hargs] at C0 ⊢
  have C0 : Cx p s m args meth c RX12 cX12_fails 2 none := C0
  obtain ⟨Q, hQ⟩ : ∃ z, z = MQ below ((PV G SM ad [0] ws0 (fun u => (xso SM ad u = (f_X12_fails (xso SM ad ws0) a1.toInt).1) ∧ ((fI u 0 6).toInt = (fI ws0 0 6).toInt) ∧ ((fI u 0 7).toInt = (fI ws0 0 7).toInt) ∧ ((fI u 0 9).toInt = (fI ws0 0 9).toInt) ∧ (¬ (fI u 0 11).toInt = 0))) A) args s 0 0 A := ⟨_, rfl⟩
  rw [← hQ]
  obtain ⟨FT, hFT⟩ : ∃ z, z = f_X12_fails (xso SM ad ws0) a1.toInt := ⟨_, rfl⟩
  have HE : FT = f_X12_fails (xso SM ad ws0) a1.toInt := hFT
  obtain ⟨f_1, e_2⟩ : ∃ v, fI ws0 0 6 = v := ⟨_, rfl⟩
  have b_3 := ty_fI (k := 6) h.2 kSM_0 rfl rfl
  rw [e_2] at b_3
  obtain ⟨f_4, e_5⟩ : ∃ v, fI ws0 0 7 = v := ⟨_, rfl⟩
  have b_6 := ty_fI (k := 7) h.2 kSM_0 rfl rfl
  rw [e_5] at b_6
  obtain ⟨f_7, e_8⟩ : ∃ v, fI ws0 0 9 = v := ⟨_, rfl⟩
  have b_9 := ty_fI (k := 9) h.2 kSM_0 rfl rfl
  rw [e_8] at b_9
  refine lv_aload_n C0.1 C0.2.1 dX12_fails_0 rfl (lv_at hl 0 rfl) ?_
  refine ng_X12_wrong C0 h kSM_0 q_1449 dX12_fails_1 (fun v_10 e_11 e_12 e_13 => ?_)
  replace HE : FT = g1b_X12_fails (xso SM ad ws0) v_10.toInt a1.toInt := HE.trans (by rw [(xg0 e_11 : v_10.toInt = (xso SM ad ws0) 0 0 11)]; rfl)
  refine y_if_eq (tgt := 8) C0 dX12_fails_4 (by decide) (fun c_14 => ?_) (fun c_14 => ?_)
  · -- 4
    replace HE : FT = g2_X12_fails (xso SM ad ws0) a1.toInt := HE.trans (if_pos c_14)
    refine lv_aload_n C0.1 C0.2.1 dX12_fails_8 rfl (lv_at hl 0 rfl) ?_
    refine lv_aload_n C0.1 C0.2.1 dX12_fails_9 rfl (lv_at hl 0 rfl) ?_
    refine ng_X12_kind C0 h kSM_0 q_1447 dX12_fails_10 (fun v_15 e_16 e_17 e_18 => ?_)
    have qh_19 : v_15.toInt = f_7.toInt := congrArg Int32.toInt (e_16.symm.trans (Eq.trans rfl e_8))
    refine y_c2 (n := 25) C0 (by decide) dX12_fails_13 (fun v_20 e_21 => ?_)
    replace HE : FT = g4b_X12_fails (xso SM ad ws0) v_15.toInt a1.toInt := HE.trans (by rw [(xg0 e_16 : v_15.toInt = (xso SM ad ws0) 0 0 9)]; rfl)
    refine y_icmp_ne (tgt := 22) C0 dX12_fails_15 (by decide) (fun c_22 => ?_) (fun c_22 => ?_)
    · -- 15
      replace HE : FT = g5_X12_fails (xso SM ad ws0) a1.toInt := HE.trans (if_neg (o43_9 qh_19 e_21 c_22))
      refine lv_iload_n C0.1 C0.2.1 dX12_fails_22 rfl (lv_at hl 1 rfl) ?_
      refine np_X12_wrong C0 h kSM_0 q_1449 (le_min a1) (le_max a1) dX12_fails_23 (fun H locs ws_23 h u_24 Xu_24 => ?_)
      replace HE : FT = g7w_X12_fails (xso SM ad ws_23) := HE.trans (by rw [Xu_24]; rfl)
      refine lv_aload_n C0.1 C0.2.1 dX12_fails_26 rfl (lv_at hl 0 rfl) ?_
      refine lv_aload_n C0.1 C0.2.1 dX12_fails_27 rfl (lv_at hl 0 rfl) ?_
      refine ng_X12_at C0 h kSM_0 q_1444 dX12_fails_28 (fun v_25 e_26 e_27 e_28 => ?_)
      have qh_29 : v_25.toInt = f_1.toInt := congrArg Int32.toInt (e_26.symm.trans (Eq.trans (u_24.2.2 6 (by decide)) e_2))
      refine np_X12_wrongAt C0 h kSM_0 q_1450 (le_min v_25) (le_max v_25) dX12_fails_31 (fun H locs ws_30 h u_31 Xu_31 => ?_)
      replace HE : FT = g8w_X12_fails (xso SM ad ws_30) := HE.trans (by rw [Xu_31, (xg0 e_26 : v_25.toInt = (xso SM ad ws_23) 0 0 6)]; rfl)
      replace HE : FT = ((xso SM ad ws_30), 0) := HE.trans rfl
      rw [hQ]
      exact y_vret C0 h (Fr.tr (Fr.up u_24.1 kSM_0 (by decide)) (Fr.up u_31.1 kSM_0 (by decide))) ⟨(congrArg Prod.fst (HE.symm.trans hFT)), (by rw [show fI ws_30 0 6 = f_1 from (Eq.trans (Eq.trans (u_31.2.2 6 (by decide)) (u_24.2.2 6 (by decide))) e_2), show fI ws0 0 6 = f_1 from e_2] <;> exact (o43_11 b_3.1 b_3.2 e_27 e_28 qh_29)), (by rw [show fI ws_30 0 7 = f_4 from (Eq.trans (Eq.trans (u_31.2.2 7 (by decide)) (u_24.2.2 7 (by decide))) e_5), show fI ws0 0 7 = f_4 from e_5] <;> exact (o43_12 b_6.1 b_6.2)), (by rw [show fI ws_30 0 9 = f_7 from (Eq.trans (Eq.trans (u_31.2.2 9 (by decide)) (u_24.2.2 9 (by decide))) e_8), show fI ws0 0 9 = f_7 from e_8] <;> exact (o43_13 qh_19 e_21 c_22)), (by rw [show fI ws_30 0 11 = a1 from (Eq.trans (u_31.2.2 11 (by decide)) u_24.2.1)] <;> exact (o43_14 l1 u1))⟩ dX12_fails_34
    · -- 15
      replace HE : FT = g6_X12_fails (xso SM ad ws0) := HE.trans (if_pos (o43_10 qh_19 e_21 c_22))
      refine y_c1 (n := 1) C0 (by decide) dX12_fails_18 (fun v_32 e_33 => ?_)
      refine lv_goto (tgt := 23) C0.1 C0.2.1 dX12_fails_19 (by decide) ?_
      refine np_X12_wrong C0 h kSM_0 q_1449 (le_min v_32) (le_max v_32) dX12_fails_23 (fun H locs ws_34 h u_35 Xu_35 => ?_)
      replace HE : FT = g9w_X12_fails (xso SM ad ws_34) := HE.trans (by rw [Xu_35, e_33]; rfl)
      refine lv_aload_n C0.1 C0.2.1 dX12_fails_26 rfl (lv_at hl 0 rfl) ?_
      refine lv_aload_n C0.1 C0.2.1 dX12_fails_27 rfl (lv_at hl 0 rfl) ?_
      refine ng_X12_at C0 h kSM_0 q_1444 dX12_fails_28 (fun v_36 e_37 e_38 e_39 => ?_)
      have qh_40 : v_36.toInt = f_1.toInt := congrArg Int32.toInt (e_37.symm.trans (Eq.trans (u_35.2.2 6 (by decide)) e_2))
      refine np_X12_wrongAt C0 h kSM_0 q_1450 (le_min v_36) (le_max v_36) dX12_fails_31 (fun H locs ws_41 h u_42 Xu_42 => ?_)
      replace HE : FT = g10w_X12_fails (xso SM ad ws_41) := HE.trans (by rw [Xu_42, (xg0 e_37 : v_36.toInt = (xso SM ad ws_34) 0 0 6)]; rfl)
      replace HE : FT = ((xso SM ad ws_41), 0) := HE.trans rfl
      rw [hQ]
      exact y_vret C0 h (Fr.tr (Fr.up u_35.1 kSM_0 (by decide)) (Fr.up u_42.1 kSM_0 (by decide))) ⟨(congrArg Prod.fst (HE.symm.trans hFT)), (by rw [show fI ws_41 0 6 = f_1 from (Eq.trans (Eq.trans (u_42.2.2 6 (by decide)) (u_35.2.2 6 (by decide))) e_2), show fI ws0 0 6 = f_1 from e_2] <;> exact (o43_11 b_3.1 b_3.2 e_38 e_39 qh_40)), (by rw [show fI ws_41 0 7 = f_4 from (Eq.trans (Eq.trans (u_42.2.2 7 (by decide)) (u_35.2.2 7 (by decide))) e_5), show fI ws0 0 7 = f_4 from e_5] <;> exact (o43_12 b_6.1 b_6.2)), (by rw [show fI ws_41 0 9 = f_7 from (Eq.trans (Eq.trans (u_42.2.2 9 (by decide)) (u_35.2.2 9 (by decide))) e_8), show fI ws0 0 9 = f_7 from e_8] <;> exact (o43_15 qh_19 e_21 c_22)), (by rw [show fI ws_41 0 11 = v_32 from (Eq.trans (u_42.2.2 11 (by decide)) u_35.2.1)] <;> exact (o43_16 e_33))⟩ dX12_fails_34
  · -- 4
    replace HE : FT = g3_X12_fails (xso SM ad ws0) := HE.trans (if_neg c_14)
    replace HE : FT = ((xso SM ad ws0), 0) := HE.trans rfl
    rw [hQ]
    exact y_vret C0 h Fr.rf ⟨(congrArg Prod.fst (HE.symm.trans hFT)), (by rw [show fI ws0 0 6 = f_1 from (Eq.trans rfl e_2)] <;> exact (o43_12 b_3.1 b_3.2)), (by rw [show fI ws0 0 7 = f_4 from (Eq.trans rfl e_5)] <;> exact (o43_12 b_6.1 b_6.2)), (by rw [show fI ws0 0 9 = f_7 from (Eq.trans rfl e_8)] <;> exact (o43_17)), (by rw [show fI ws0 0 11 = v_10 from (Eq.trans rfl e_11)] <;> exact (o43_18 c_14))⟩ dX12_fails_7
noncomputable def g5c_X12_eats (s : XS) : XR := (s, 1)
noncomputable def g3_X12_eats (s : XS) : XR := g5c_X12_eats ((f_X12_next s).1)
noncomputable def g4_X12_eats (s : XS) : XR := (s, 0)
noncomputable def g2b_X12_eats (s : XS) (r_16 : Int) : XR := if r_16 = 0 then g4_X12_eats s else g3_X12_eats s
noncomputable def g1c_X12_eats (s : XS) (r_16 : Int) : XR := g2b_X12_eats s r_16
noncomputable def f_X12_eats (s : XS) (a1 : Int) : XR := g1c_X12_eats ((f_X12_is s a1).1) (((f_X12_is s a1).2))
set_option maxHeartbeats 4000000 in
set_option maxRecDepth 100000 in
theorem c_X12_eats (l : Launch) (G : GG) (Z : RZ) (ad : Nat → Nat) (ws0 : va_W) (hT : Ty G SM ad ws0) (a1 : Int32) (pre0 : ((fI ws0 0 9).toInt = 24 ∨ (fI ws0 0 6).toInt < (fI ws0 0 7).toInt)) (pre1 : (fI ws0 0 6).toInt ≤ (fI ws0 0 7).toInt) : Mq l yX12_eats cX12_eats 2 (some .boolean) 7 G Z [.ref (ad 0), .int a1] ws0 (PI G SM ad [0] ws0 (fun r u => (xso SM ad u = (f_X12_eats (xso SM ad ws0) a1.toInt).1) ∧ (r.toInt = (f_X12_eats (xso SM ad ws0) a1.toInt).2) ∧ (0 ≤ r.toInt) ∧ (r.toInt ≤ 1) ∧ (((fI u 0 9).toInt = 24 ∨ (fI u 0 6).toInt < (fI u 0 7).toInt)) ∧ ((fI u 0 6).toInt ≤ (fI u 0 7).toInt) ∧ (((r.toInt = 0 ∧ (fI u 0 6).toInt = (fI ws0 0 6).toInt ∧ (fI u 0 7).toInt = (fI ws0 0 7).toInt ∧ (fI u 0 9).toInt = (fI ws0 0 9).toInt ∧ (fI u 0 11).toInt = (fI ws0 0 11).toInt ∧ ¬ ((fI ws0 0 11).toInt = 0 ∧ (fI ws0 0 9).toInt = a1.toInt)) ∨ (r.toInt = 1 ∧ (fI ws0 0 7).toInt ≤ (fI u 0 6).toInt ∧ (fI u 0 11).toInt = 0 ∧ (fI ws0 0 11).toInt = 0 ∧ (fI ws0 0 9).toInt = a1.toInt))))) := by
  refine Mq.start (by decide) (Nat.le_of_ble_eq_true rfl) ?_
  intro p e s m below meth c A ls C0 hZ h hl
  have hl : lv_has ls 2 [(0, .ref (ad 0)), (1, .int a1)] := hl
  have h : Wt G SM ad A s s.heap [] ws0 := ⟨h, hT⟩
  obtain ⟨args, hargs⟩ : ∃ z, z = ([.ref (ad 0), .int a1] : List Value).toArray := ⟨_, rfl⟩
  rw [← hargs] at C0 ⊢
  have C0 : Cx p s m args meth c RX12 cX12_eats 2 (some .boolean) := C0
  obtain ⟨Q, hQ⟩ : ∃ z, z = MQ below ((PI G SM ad [0] ws0 (fun r u => (xso SM ad u = (f_X12_eats (xso SM ad ws0) a1.toInt).1) ∧ (r.toInt = (f_X12_eats (xso SM ad ws0) a1.toInt).2) ∧ (0 ≤ r.toInt) ∧ (r.toInt ≤ 1) ∧ (((fI u 0 9).toInt = 24 ∨ (fI u 0 6).toInt < (fI u 0 7).toInt)) ∧ ((fI u 0 6).toInt ≤ (fI u 0 7).toInt) ∧ (((r.toInt = 0 ∧ (fI u 0 6).toInt = (fI ws0 0 6).toInt ∧ (fI u 0 7).toInt = (fI ws0 0 7).toInt ∧ (fI u 0 9).toInt = (fI ws0 0 9).toInt ∧ (fI u 0 11).toInt = (fI ws0 0 11).toInt ∧ ¬ ((fI ws0 0 11).toInt = 0 ∧ (fI ws0 0 9).toInt = a1.toInt)) ∨ (r.toInt = 1 ∧ (fI ws0 0 7).toInt ≤ (fI u 0 6).toInt ∧ (fI u 0 11).toInt = 0 ∧ (fI ws0 0 11).toInt = 0 ∧ (fI ws0 0 9).toInt = a1.toInt))))) A) args s 0 0 A := ⟨_, rfl⟩
  rw [← hQ]
  obtain ⟨FT, hFT⟩ : ∃ z, z = f_X12_eats (xso SM ad ws0) a1.toInt := ⟨_, rfl⟩
  have HE : FT = f_X12_eats (xso SM ad ws0) a1.toInt := hFT
  obtain ⟨f_1, e_2⟩ : ∃ v, fI ws0 0 6 = v := ⟨_, rfl⟩
  have b_3 := ty_fI (k := 6) h.2 kSM_0 rfl rfl
  rw [e_2] at b_3
  obtain ⟨f_4, e_5⟩ : ∃ v, fI ws0 0 7 = v := ⟨_, rfl⟩
  have b_6 := ty_fI (k := 7) h.2 kSM_0 rfl rfl
  rw [e_5] at b_6
  obtain ⟨f_7, e_8⟩ : ∃ v, fI ws0 0 9 = v := ⟨_, rfl⟩
  have b_9 := ty_fI (k := 9) h.2 kSM_0 rfl rfl
  rw [e_8] at b_9
  obtain ⟨f_10, e_11⟩ : ∃ v, fI ws0 0 11 = v := ⟨_, rfl⟩
  have b_12 := ty_fI (k := 11) h.2 kSM_0 rfl rfl
  rw [e_11] at b_12
  rw [show fI ws0 0 9 = f_7 from e_8, show fI ws0 0 6 = f_1 from e_2, show fI ws0 0 7 = f_4 from e_5] at pre0
  rw [show fI ws0 0 6 = f_1 from e_2, show fI ws0 0 7 = f_4 from e_5] at pre1
  refine lv_aload_n C0.1 C0.2.1 dX12_eats_0 rfl (lv_at hl 0 rfl) ?_
  refine lv_iload_n C0.1 C0.2.1 dX12_eats_1 rfl (lv_at hl 1 rfl) ?_
  refine y_ci h (y_rV (As := [.int a1]) (rest := []) C0 hZ h (c_X12_is l G Z ad _ h.2 a1) k_X12_is q_1610 q_60 q_1608 kSM_0 rfl rfl rfl hl.1 rfl rfl (Nat.le_of_ble_eq_true rfl) dX12_eats_2 ⟨Nat.le_of_ble_eq_true rfl, Nat.le_of_ble_eq_true rfl⟩ ⟨Nat.le_of_ble_eq_true rfl, Nat.le_of_ble_eq_true rfl⟩) (fun r_16 H locs ws_13 h u_14 p_15 => ?_)
  obtain ⟨e_17, e_18, e_19, e_20, e_21⟩ := p_15
  have e_22 := e_21
  rw [show fI ws0 0 11 = f_10 from (Eq.trans rfl e_11), show fI ws0 0 9 = f_7 from (Eq.trans rfl e_8)] at e_22
  replace HE : FT = g1c_X12_eats (xso SM ad ws_13) r_16.toInt := HE.trans (by rw [e_17, e_18]; rfl)
  replace HE : FT = g2b_X12_eats (xso SM ad ws_13) r_16.toInt := HE.trans rfl
  refine y_if_ne (tgt := 10) C0 dX12_eats_5 (by decide) (fun c_23 => ?_) (fun c_23 => ?_)
  · -- 5
    replace HE : FT = g3_X12_eats (xso SM ad ws_13) := HE.trans (if_neg c_23)
    refine lv_aload_n C0.1 C0.2.1 dX12_eats_10 rfl (lv_at hl 0 rfl) ?_
    refine y_cv h (y_rV (As := []) (rest := []) C0 hZ h (c_X12_next l G Z ad _ h.2) k_X12_next q_1584 q_56 q_1582 kSM_0 rfl rfl rfl hl.1 rfl rfl (Nat.le_of_ble_eq_true rfl) dX12_eats_11 ⟨Nat.le_of_ble_eq_true rfl, Nat.le_of_ble_eq_true rfl⟩ ⟨Nat.le_of_ble_eq_true rfl, Nat.le_of_ble_eq_true rfl⟩) (fun H locs ws_24 h u_25 p_26 => ?_)
    obtain ⟨e_27, e_28, e_29, e_30, e_31⟩ := p_26
    obtain ⟨f_32, e_33⟩ : ∃ v, fI ws_24 0 6 = v := ⟨_, rfl⟩
    have b_34 := ty_fI (k := 6) h.2 kSM_0 rfl rfl
    rw [e_33] at b_34
    have e_35 := e_28
    rw [show fI ws_13 0 7 = f_4 from (Eq.trans (Fr.fI u_14 kSM_0 (by decide)) e_5), show fI ws_24 0 6 = f_32 from e_33] at e_35
    obtain ⟨f_36, e_37⟩ : ∃ v, fI ws_24 0 9 = v := ⟨_, rfl⟩
    have b_38 := ty_fI (k := 9) h.2 kSM_0 rfl rfl
    rw [e_37] at b_38
    obtain ⟨f_39, e_40⟩ : ∃ v, fI ws_24 0 7 = v := ⟨_, rfl⟩
    have b_41 := ty_fI (k := 7) h.2 kSM_0 rfl rfl
    rw [e_40] at b_41
    have e_42 := e_29
    rw [show fI ws_24 0 9 = f_36 from e_37, show fI ws_24 0 6 = f_32 from (Eq.trans rfl e_33), show fI ws_24 0 7 = f_39 from e_40] at e_42
    obtain ⟨f_43, e_44⟩ : ∃ v, fI ws_24 0 11 = v := ⟨_, rfl⟩
    have b_45 := ty_fI (k := 11) h.2 kSM_0 rfl rfl
    rw [e_44] at b_45
    have e_46 := e_30
    rw [show fI ws_24 0 11 = f_43 from e_44, show fI ws_13 0 11 = f_10 from (Eq.trans (Fr.fI u_14 kSM_0 (by decide)) e_11)] at e_46
    have e_47 := e_31
    rw [show fI ws_24 0 6 = f_32 from (Eq.trans rfl e_33), show fI ws_24 0 7 = f_39 from (Eq.trans rfl e_40)] at e_47
    replace HE : FT = g5c_X12_eats (xso SM ad ws_24) := HE.trans (by rw [e_27]; rfl)
    refine y_c1 (n := 1) C0 (by decide) dX12_eats_14 (fun v_48 e_49 => ?_)
    replace HE : FT = ((xso SM ad ws_24), v_48.toInt) := HE.trans (by rw [e_49]; rfl)
    rw [hQ]
    exact y_zret C0 h (o43_5 e_49) (o43_6 e_49) (Fr.tr (Fr.mono u_14 (by decide)) u_25) ⟨(congrArg Prod.fst (HE.symm.trans hFT)), (congrArg Prod.snd (HE.symm.trans hFT)), (o43_5 e_49), (o43_6 e_49), (by rw [show fI ws_24 0 9 = f_36 from (Eq.trans rfl e_37), show fI ws_24 0 6 = f_32 from (Eq.trans rfl e_33), show fI ws_24 0 7 = f_39 from (Eq.trans rfl e_40)] <;> exact (o43_19 b_3.1 b_3.2 b_6.1 b_6.2 pre0 pre1 e_19 e_20 e_22 c_23 b_34.1 b_34.2 e_35 b_41.1 b_41.2 e_42 e_46 e_47)), (by rw [show fI ws_24 0 6 = f_32 from (Eq.trans rfl e_33), show fI ws_24 0 7 = f_39 from (Eq.trans rfl e_40)] <;> exact (o43_20 b_3.1 b_3.2 b_6.1 b_6.2 pre0 pre1 e_19 e_20 e_22 c_23 b_34.1 b_34.2 e_35 b_41.1 b_41.2 e_42 e_46 e_47)), (by rw [show fI ws_24 0 6 = f_32 from (Eq.trans rfl e_33), show fI ws0 0 6 = f_1 from e_2, show fI ws_24 0 7 = f_39 from (Eq.trans rfl e_40), show fI ws0 0 7 = f_4 from e_5, show fI ws_24 0 9 = f_36 from (Eq.trans rfl e_37), show fI ws0 0 9 = f_7 from e_8, show fI ws_24 0 11 = f_43 from (Eq.trans rfl e_44), show fI ws0 0 11 = f_10 from e_11] <;> exact (o43_21 b_3.1 b_3.2 b_6.1 b_6.2 pre0 pre1 e_19 e_20 e_22 c_23 b_34.1 b_34.2 e_35 b_41.1 b_41.2 e_42 e_46 e_47 e_49))⟩ dX12_eats_15
  · -- 5
    replace HE : FT = g4_X12_eats (xso SM ad ws_13) := HE.trans (if_pos c_23)
    refine y_c1 (n := 0) C0 (by decide) dX12_eats_8 (fun v_50 e_51 => ?_)
    replace HE : FT = ((xso SM ad ws_13), v_50.toInt) := HE.trans (by rw [e_51]; rfl)
    rw [hQ]
    exact y_zret C0 h (o43_1 e_51) (o43_2 e_51) (Fr.mono u_14 (by decide)) ⟨(congrArg Prod.fst (HE.symm.trans hFT)), (congrArg Prod.snd (HE.symm.trans hFT)), (o43_1 e_51), (o43_2 e_51), (by rw [show fI ws_13 0 9 = f_7 from (Eq.trans (Fr.fI u_14 kSM_0 (by decide)) e_8), show fI ws_13 0 6 = f_1 from (Eq.trans (Fr.fI u_14 kSM_0 (by decide)) e_2), show fI ws_13 0 7 = f_4 from (Eq.trans (Fr.fI u_14 kSM_0 (by decide)) e_5)] <;> exact (o43_22 b_3.1 b_3.2 b_6.1 b_6.2 pre0 pre1 e_19 e_20 e_22 c_23)), (by rw [show fI ws_13 0 6 = f_1 from (Eq.trans (Fr.fI u_14 kSM_0 (by decide)) e_2), show fI ws_13 0 7 = f_4 from (Eq.trans (Fr.fI u_14 kSM_0 (by decide)) e_5)] <;> exact (o43_23 b_3.1 b_3.2 b_6.1 b_6.2 pre0 pre1 e_19 e_20 e_22 c_23)), (by rw [show fI ws_13 0 6 = f_1 from (Eq.trans (Fr.fI u_14 kSM_0 (by decide)) e_2), show fI ws0 0 6 = f_1 from e_2, show fI ws_13 0 7 = f_4 from (Eq.trans (Fr.fI u_14 kSM_0 (by decide)) e_5), show fI ws0 0 7 = f_4 from e_5, show fI ws_13 0 9 = f_7 from (Eq.trans (Fr.fI u_14 kSM_0 (by decide)) e_8), show fI ws0 0 9 = f_7 from e_8, show fI ws_13 0 11 = f_10 from (Eq.trans (Fr.fI u_14 kSM_0 (by decide)) e_11), show fI ws0 0 11 = f_10 from e_11] <;> exact (o43_24 b_3.1 b_3.2 b_6.1 b_6.2 pre0 pre1 e_19 e_20 e_22 c_23 e_51))⟩ dX12_eats_9
noncomputable def g10_X12_takes (s : XS) (v_46 : Int) : XR := (s, v_46)
noncomputable def g12c_X12_takes (s : XS) (v_46 : Int) : XR := (s, v_46)
noncomputable def g11_X12_takes (s : XS) (v_46 : Int) : XR := g12c_X12_takes ((f_X12_next s).1) v_46
noncomputable def g9b_X12_takes (s : XS) (v_51 : Int) (v_46 : Int) : XR := if v_51 = 0 then g11_X12_takes s v_46 else g10_X12_takes s v_46
noncomputable def g7_X12_takes (s : XS) : XR := g9b_X12_takes s ((s 0 0 11)) ((s 0 0 10))
noncomputable def g15_X12_takes (s : XS) (v_107 : Int) : XR := (s, v_107)
noncomputable def g17c_X12_takes (s : XS) (v_107 : Int) : XR := (s, v_107)
noncomputable def g16_X12_takes (s : XS) (v_107 : Int) : XR := g17c_X12_takes ((f_X12_next s).1) v_107
noncomputable def g14b_X12_takes (s : XS) (v_111 : Int) (v_107 : Int) : XR := if v_111 = 0 then g16_X12_takes s v_107 else g15_X12_takes s v_107
noncomputable def g13c_X12_takes (s : XS) : XR := g14b_X12_takes s ((s 0 0 11)) ((s 0 0 10))
noncomputable def g8_X12_takes (s : XS) : XR := g13c_X12_takes ((f_X12_fails s 3).1)
noncomputable def g6b_X12_takes (s : XS) (r_39 : Int) : XR := if r_39 = 0 then g8_X12_takes s else g7_X12_takes s
noncomputable def g5c_X12_takes (s : XS) (r_39 : Int) : XR := g6b_X12_takes s r_39
noncomputable def g3_X12_takes (s : XS) (a1 : Int) (a2 : Int) : XR := g5c_X12_takes ((f_X12_within s ((s 0 0 10)) a1 a2).1) (((f_X12_within s ((s 0 0 10)) a1 a2).2))
noncomputable def g20_X12_takes (s : XS) (v_167 : Int) : XR := (s, v_167)
noncomputable def g22c_X12_takes (s : XS) (v_167 : Int) : XR := (s, v_167)
noncomputable def g21_X12_takes (s : XS) (v_167 : Int) : XR := g22c_X12_takes ((f_X12_next s).1) v_167
noncomputable def g19b_X12_takes (s : XS) (v_171 : Int) (v_167 : Int) : XR := if v_171 = 0 then g21_X12_takes s v_167 else g20_X12_takes s v_167
noncomputable def g18c_X12_takes (s : XS) : XR := g19b_X12_takes s ((s 0 0 11)) ((s 0 0 10))
noncomputable def g4_X12_takes (s : XS) : XR := g18c_X12_takes ((f_X12_fails s 2).1)
noncomputable def g2b_X12_takes (s : XS) (r_18 : Int) (a1 : Int) (a2 : Int) : XR := if r_18 = 0 then g4_X12_takes s else g3_X12_takes s a1 a2
noncomputable def g1c_X12_takes (s : XS) (r_18 : Int) (a1 : Int) (a2 : Int) : XR := g2b_X12_takes s r_18 a1 a2
noncomputable def f_X12_takes (s : XS) (a1 : Int) (a2 : Int) : XR := g1c_X12_takes ((f_X12_is s 23).1) (((f_X12_is s 23).2)) a1 a2
set_option maxHeartbeats 4000000 in
set_option maxRecDepth 100000 in
theorem c_X12_takes (l : Launch) (G : GG) (Z : RZ) (ad : Nat → Nat) (ws0 : va_W) (hT : Ty G SM ad ws0) (a1 : Int32) (a2 : Int32) (pre0 : ((fI ws0 0 9).toInt = 24 ∨ (fI ws0 0 6).toInt < (fI ws0 0 7).toInt)) (pre1 : (fI ws0 0 6).toInt ≤ (fI ws0 0 7).toInt) : Mq l yX12_takes cX12_takes 4 (some .int) 7 G Z [.ref (ad 0), .int a1, .int a2] ws0 (PI G SM ad [0] ws0 (fun r u => (xso SM ad u = (f_X12_takes (xso SM ad ws0) a1.toInt a2.toInt).1) ∧ (r.toInt = (f_X12_takes (xso SM ad ws0) a1.toInt a2.toInt).2) ∧ (0 ≤ r.toInt) ∧ (r.toInt ≤ 999) ∧ (((fI u 0 9).toInt = 24 ∨ (fI u 0 6).toInt < (fI u 0 7).toInt)) ∧ ((fI u 0 6).toInt ≤ (fI u 0 7).toInt) ∧ (((fI u 0 11).toInt = 0 → (fI ws0 0 11).toInt = 0 ∧ a1.toInt ≤ r.toInt ∧ r.toInt ≤ a2.toInt)) ∧ ((fI ws0 0 6).toInt ≤ (fI u 0 6).toInt))) := by
  refine Mq.start (by decide) (Nat.le_of_ble_eq_true rfl) ?_
  intro p e s m below meth c A ls C0 hZ h hl
  have hl : lv_has ls 4 [(0, .ref (ad 0)), (1, .int a1), (2, .int a2)] := hl
  have h : Wt G SM ad A s s.heap [] ws0 := ⟨h, hT⟩
  obtain ⟨args, hargs⟩ : ∃ z, z = ([.ref (ad 0), .int a1, .int a2] : List Value).toArray := ⟨_, rfl⟩
  rw [← hargs] at C0 ⊢
  have C0 : Cx p s m args meth c RX12 cX12_takes 4 (some .int) := C0
  obtain ⟨Q, hQ⟩ : ∃ z, z = MQ below ((PI G SM ad [0] ws0 (fun r u => (xso SM ad u = (f_X12_takes (xso SM ad ws0) a1.toInt a2.toInt).1) ∧ (r.toInt = (f_X12_takes (xso SM ad ws0) a1.toInt a2.toInt).2) ∧ (0 ≤ r.toInt) ∧ (r.toInt ≤ 999) ∧ (((fI u 0 9).toInt = 24 ∨ (fI u 0 6).toInt < (fI u 0 7).toInt)) ∧ ((fI u 0 6).toInt ≤ (fI u 0 7).toInt) ∧ (((fI u 0 11).toInt = 0 → (fI ws0 0 11).toInt = 0 ∧ a1.toInt ≤ r.toInt ∧ r.toInt ≤ a2.toInt)) ∧ ((fI ws0 0 6).toInt ≤ (fI u 0 6).toInt))) A) args s 0 0 A := ⟨_, rfl⟩
  rw [← hQ]
  obtain ⟨FT, hFT⟩ : ∃ z, z = f_X12_takes (xso SM ad ws0) a1.toInt a2.toInt := ⟨_, rfl⟩
  have HE : FT = f_X12_takes (xso SM ad ws0) a1.toInt a2.toInt := hFT
  obtain ⟨f_1, e_2⟩ : ∃ v, fI ws0 0 11 = v := ⟨_, rfl⟩
  have b_3 := ty_fI (k := 11) h.2 kSM_0 rfl rfl
  rw [e_2] at b_3
  obtain ⟨f_4, e_5⟩ : ∃ v, fI ws0 0 6 = v := ⟨_, rfl⟩
  have b_6 := ty_fI (k := 6) h.2 kSM_0 rfl rfl
  rw [e_5] at b_6
  obtain ⟨f_7, e_8⟩ : ∃ v, fI ws0 0 9 = v := ⟨_, rfl⟩
  have b_9 := ty_fI (k := 9) h.2 kSM_0 rfl rfl
  rw [e_8] at b_9
  obtain ⟨f_10, e_11⟩ : ∃ v, fI ws0 0 7 = v := ⟨_, rfl⟩
  have b_12 := ty_fI (k := 7) h.2 kSM_0 rfl rfl
  rw [e_11] at b_12
  rw [show fI ws0 0 9 = f_7 from e_8, show fI ws0 0 6 = f_4 from e_5, show fI ws0 0 7 = f_10 from e_11] at pre0
  rw [show fI ws0 0 6 = f_4 from e_5, show fI ws0 0 7 = f_10 from e_11] at pre1
  refine lv_aload_n C0.1 C0.2.1 dX12_takes_0 rfl (lv_at hl 0 rfl) ?_
  refine y_c2 (n := 23) C0 (by decide) dX12_takes_1 (fun v_13 e_14 => ?_)
  refine y_ci h (y_rV (As := [.int v_13]) (rest := []) C0 hZ h (c_X12_is l G Z ad _ h.2 v_13) k_X12_is q_1610 q_60 q_1608 kSM_0 rfl rfl rfl hl.1 rfl rfl (Nat.le_of_ble_eq_true rfl) dX12_takes_3 ⟨Nat.le_of_ble_eq_true rfl, Nat.le_of_ble_eq_true rfl⟩ ⟨Nat.le_of_ble_eq_true rfl, Nat.le_of_ble_eq_true rfl⟩) (fun r_18 H locs ws_15 h u_16 p_17 => ?_)
  obtain ⟨e_19, e_20, e_21, e_22, e_23⟩ := p_17
  have e_24 := e_23
  rw [show fI ws0 0 11 = f_1 from (Eq.trans rfl e_2), show fI ws0 0 9 = f_7 from (Eq.trans rfl e_8)] at e_24
  replace HE : FT = g1c_X12_takes (xso SM ad ws_15) r_18.toInt a1.toInt a2.toInt := HE.trans (by rw [e_19, e_20, e_14]; rfl)
  replace HE : FT = g2b_X12_takes (xso SM ad ws_15) r_18.toInt a1.toInt a2.toInt := HE.trans rfl
  refine y_if_ne (tgt := 17) C0 dX12_takes_6 (by decide) (fun c_25 => ?_) (fun c_25 => ?_)
  · -- 6
    replace HE : FT = g3_X12_takes (xso SM ad ws_15) a1.toInt a2.toInt := HE.trans (if_neg c_25)
    refine lv_aload_n C0.1 C0.2.1 dX12_takes_17 rfl (lv_at hl 0 rfl) ?_
    refine ng_X12_number C0 h kSM_0 q_1448 dX12_takes_18 (fun v_26 e_27 e_28 e_29 => ?_)
    refine y_i2l C0 dX12_takes_21 (fun w_30 e_31 => ?_)
    refine lv_iload_n C0.1 C0.2.1 dX12_takes_22 rfl (lv_at hl 1 rfl) ?_
    refine y_i2l C0 dX12_takes_23 (fun w_32 e_33 => ?_)
    refine lv_iload_n C0.1 C0.2.1 dX12_takes_24 rfl (lv_at hl 2 rfl) ?_
    refine y_i2l C0 dX12_takes_25 (fun w_34 e_35 => ?_)
    refine y_ci h (y_rS (As := [.long w_30, .long w_32, .long w_34]) (rest := []) C0 hZ h (c_X12_within l G Z ad _ h.2 w_30 w_32 w_34) k_X12_within q_1580 q_1579 hl.1 rfl rfl (Nat.le_of_ble_eq_true rfl) dX12_takes_26 ⟨Nat.le_of_ble_eq_true rfl, Nat.le_of_ble_eq_true rfl⟩ ⟨Nat.le_of_ble_eq_true rfl, Nat.le_of_ble_eq_true rfl⟩) (fun r_39 H locs ws_36 h u_37 p_38 => ?_)
    obtain ⟨e_40, e_41, e_42, e_43, e_44⟩ := p_38
    replace HE : FT = g5c_X12_takes (xso SM ad ws_36) r_39.toInt := HE.trans (by rw [e_40, e_41, e_35, e_33, e_31, (xg0 e_27 : v_26.toInt = (xso SM ad ws_15) 0 0 10)]; rfl)
    replace HE : FT = g6b_X12_takes (xso SM ad ws_36) r_39.toInt := HE.trans rfl
    refine y_if_ne (tgt := 37) C0 dX12_takes_29 (by decide) (fun c_45 => ?_) (fun c_45 => ?_)
    · -- 29
      replace HE : FT = g7_X12_takes (xso SM ad ws_36) := HE.trans (if_neg c_45)
      refine lv_aload_n C0.1 C0.2.1 dX12_takes_37 rfl (lv_at hl 0 rfl) ?_
      refine ng_X12_number C0 h kSM_0 q_1448 dX12_takes_38 (fun v_46 e_47 e_48 e_49 => ?_)
      have qh_50 : v_46.toInt = v_26.toInt := congrArg Int32.toInt (e_47.symm.trans (Eq.trans (Fr.fI u_37 kSM_0 (by decide)) e_27))
      refine lv_istore_n (lv' := [(3, .int v_46), (0, .ref (ad 0)), (1, .int a1), (2, .int a2)]) C0.1 C0.2.1 dX12_takes_41 rfl hl (by decide) rfl (fun ls hl => ?_)
      refine lv_aload_n C0.1 C0.2.1 dX12_takes_42 rfl (lv_at hl 1 rfl) ?_
      refine ng_X12_wrong C0 h kSM_0 q_1449 dX12_takes_43 (fun v_51 e_52 e_53 e_54 => ?_)
      have qh_55 : v_51.toInt = f_1.toInt := congrArg Int32.toInt (e_52.symm.trans (Eq.trans (Eq.trans (Fr.fI u_37 kSM_0 (by decide)) (Fr.fI u_16 kSM_0 (by decide))) e_2))
      replace HE : FT = g9b_X12_takes (xso SM ad ws_36) v_51.toInt v_46.toInt := HE.trans (by rw [(xg0 e_47 : v_46.toInt = (xso SM ad ws_36) 0 0 10), (xg0 e_52 : v_51.toInt = (xso SM ad ws_36) 0 0 11)]; rfl)
      refine y_if_ne (tgt := 53) C0 dX12_takes_46 (by decide) (fun c_56 => ?_) (fun c_56 => ?_)
      · -- 46
        replace HE : FT = g10_X12_takes (xso SM ad ws_36) v_46.toInt := HE.trans (if_neg c_56)
        refine lv_iload_n C0.1 C0.2.1 dX12_takes_53 rfl (lv_at hl 0 rfl) ?_
        replace HE : FT = ((xso SM ad ws_36), v_46.toInt) := HE.trans rfl
        rw [hQ]
        exact y_iret C0 h (Fr.tr (Fr.mono u_16 (by decide)) (Fr.mono u_37 (by decide))) ⟨(congrArg Prod.fst (HE.symm.trans hFT)), (congrArg Prod.snd (HE.symm.trans hFT)), (o43_25 e_28 e_29 e_31 e_33 e_35 e_42 e_43 e_44 c_45 e_48 e_49 qh_50), (o43_26 e_28 e_29 e_31 e_33 e_35 e_42 e_43 e_44 c_45 e_48 e_49 qh_50), (by rw [show fI ws_36 0 9 = f_7 from (Eq.trans (Eq.trans (Fr.fI u_37 kSM_0 (by decide)) (Fr.fI u_16 kSM_0 (by decide))) e_8), show fI ws_36 0 6 = f_4 from (Eq.trans (Eq.trans (Fr.fI u_37 kSM_0 (by decide)) (Fr.fI u_16 kSM_0 (by decide))) e_5), show fI ws_36 0 7 = f_10 from (Eq.trans (Eq.trans (Fr.fI u_37 kSM_0 (by decide)) (Fr.fI u_16 kSM_0 (by decide))) e_11)] <;> exact (o43_27 b_6.1 b_6.2 b_12.1 b_12.2 pre0 pre1 e_14 e_21 e_22 e_24 c_25 qh_55 c_56)), (by rw [show fI ws_36 0 6 = f_4 from (Eq.trans (Eq.trans (Fr.fI u_37 kSM_0 (by decide)) (Fr.fI u_16 kSM_0 (by decide))) e_5), show fI ws_36 0 7 = f_10 from (Eq.trans (Eq.trans (Fr.fI u_37 kSM_0 (by decide)) (Fr.fI u_16 kSM_0 (by decide))) e_11)] <;> exact (o43_28 b_6.1 b_6.2 b_12.1 b_12.2 pre0 pre1 e_14 e_21 e_22 e_24 c_25 qh_55 c_56)), (by rw [show fI ws_36 0 11 = f_1 from (Eq.trans (Eq.trans (Fr.fI u_37 kSM_0 (by decide)) (Fr.fI u_16 kSM_0 (by decide))) e_2), show fI ws0 0 11 = f_1 from e_2] <;> exact (o43_29 b_6.1 b_6.2 b_12.1 b_12.2 pre0 pre1 e_14 e_21 e_22 e_24 c_25 e_28 e_29 e_31 e_33 e_35 e_42 e_43 e_44 c_45 e_48 e_49 qh_50 qh_55 c_56)), (by rw [show fI ws0 0 6 = f_4 from e_5, show fI ws_36 0 6 = f_4 from (Eq.trans (Eq.trans (Fr.fI u_37 kSM_0 (by decide)) (Fr.fI u_16 kSM_0 (by decide))) e_5)] <;> exact (o43_30 b_6.1 b_6.2 b_12.1 b_12.2 pre0 pre1 e_14 e_21 e_22 e_24 c_25 qh_55 c_56))⟩ dX12_takes_54
      · -- 46
        replace HE : FT = g11_X12_takes (xso SM ad ws_36) v_46.toInt := HE.trans (if_pos c_56)
        refine lv_aload_n C0.1 C0.2.1 dX12_takes_49 rfl (lv_at hl 1 rfl) ?_
        refine y_cv h (y_rV (As := []) (rest := []) C0 hZ h (c_X12_next l G Z ad _ h.2) k_X12_next q_1584 q_56 q_1582 kSM_0 rfl rfl rfl hl.1 rfl rfl (Nat.le_of_ble_eq_true rfl) dX12_takes_50 ⟨Nat.le_of_ble_eq_true rfl, Nat.le_of_ble_eq_true rfl⟩ ⟨Nat.le_of_ble_eq_true rfl, Nat.le_of_ble_eq_true rfl⟩) (fun H locs ws_57 h u_58 p_59 => ?_)
        obtain ⟨e_60, e_61, e_62, e_63, e_64⟩ := p_59
        obtain ⟨f_65, e_66⟩ : ∃ v, fI ws_57 0 6 = v := ⟨_, rfl⟩
        have b_67 := ty_fI (k := 6) h.2 kSM_0 rfl rfl
        rw [e_66] at b_67
        have e_68 := e_61
        rw [show fI ws_36 0 7 = f_10 from (Eq.trans (Eq.trans (Fr.fI u_37 kSM_0 (by decide)) (Fr.fI u_16 kSM_0 (by decide))) e_11), show fI ws_57 0 6 = f_65 from e_66] at e_68
        obtain ⟨f_69, e_70⟩ : ∃ v, fI ws_57 0 9 = v := ⟨_, rfl⟩
        have b_71 := ty_fI (k := 9) h.2 kSM_0 rfl rfl
        rw [e_70] at b_71
        obtain ⟨f_72, e_73⟩ : ∃ v, fI ws_57 0 7 = v := ⟨_, rfl⟩
        have b_74 := ty_fI (k := 7) h.2 kSM_0 rfl rfl
        rw [e_73] at b_74
        have e_75 := e_62
        rw [show fI ws_57 0 9 = f_69 from e_70, show fI ws_57 0 6 = f_65 from (Eq.trans rfl e_66), show fI ws_57 0 7 = f_72 from e_73] at e_75
        obtain ⟨f_76, e_77⟩ : ∃ v, fI ws_57 0 11 = v := ⟨_, rfl⟩
        have b_78 := ty_fI (k := 11) h.2 kSM_0 rfl rfl
        rw [e_77] at b_78
        have e_79 := e_63
        rw [show fI ws_57 0 11 = f_76 from e_77, show fI ws_36 0 11 = f_1 from (Eq.trans (Eq.trans (Fr.fI u_37 kSM_0 (by decide)) (Fr.fI u_16 kSM_0 (by decide))) e_2)] at e_79
        have e_80 := e_64
        rw [show fI ws_57 0 6 = f_65 from (Eq.trans rfl e_66), show fI ws_57 0 7 = f_72 from (Eq.trans rfl e_73)] at e_80
        replace HE : FT = g12c_X12_takes (xso SM ad ws_57) v_46.toInt := HE.trans (by rw [e_60]; rfl)
        refine lv_iload_n C0.1 C0.2.1 dX12_takes_53 rfl (lv_at hl 0 rfl) ?_
        replace HE : FT = ((xso SM ad ws_57), v_46.toInt) := HE.trans rfl
        rw [hQ]
        exact y_iret C0 h (Fr.tr (Fr.tr (Fr.mono u_16 (by decide)) (Fr.mono u_37 (by decide))) u_58) ⟨(congrArg Prod.fst (HE.symm.trans hFT)), (congrArg Prod.snd (HE.symm.trans hFT)), (o43_25 e_28 e_29 e_31 e_33 e_35 e_42 e_43 e_44 c_45 e_48 e_49 qh_50), (o43_26 e_28 e_29 e_31 e_33 e_35 e_42 e_43 e_44 c_45 e_48 e_49 qh_50), (by rw [show fI ws_57 0 9 = f_69 from (Eq.trans rfl e_70), show fI ws_57 0 6 = f_65 from (Eq.trans rfl e_66), show fI ws_57 0 7 = f_72 from (Eq.trans rfl e_73)] <;> exact (o43_31 b_6.1 b_6.2 b_12.1 b_12.2 pre0 pre1 e_14 e_21 e_22 e_24 c_25 qh_55 c_56 b_67.1 b_67.2 e_68 b_74.1 b_74.2 e_75 e_79 e_80)), (by rw [show fI ws_57 0 6 = f_65 from (Eq.trans rfl e_66), show fI ws_57 0 7 = f_72 from (Eq.trans rfl e_73)] <;> exact (o43_32 b_6.1 b_6.2 b_12.1 b_12.2 pre0 pre1 e_14 e_21 e_22 e_24 c_25 qh_55 c_56 b_67.1 b_67.2 e_68 b_74.1 b_74.2 e_75 e_79 e_80)), (by rw [show fI ws_57 0 11 = f_76 from (Eq.trans rfl e_77), show fI ws0 0 11 = f_1 from e_2] <;> exact (o43_33 b_6.1 b_6.2 b_12.1 b_12.2 pre0 pre1 e_14 e_21 e_22 e_24 c_25 e_28 e_29 e_31 e_33 e_35 e_42 e_43 e_44 c_45 e_48 e_49 qh_50 qh_55 c_56 b_67.1 b_67.2 e_68 b_74.1 b_74.2 e_75 e_79 e_80)), (by rw [show fI ws0 0 6 = f_4 from e_5, show fI ws_57 0 6 = f_65 from (Eq.trans rfl e_66)] <;> exact (o43_34 b_6.1 b_6.2 b_12.1 b_12.2 pre0 pre1 e_14 e_21 e_22 e_24 c_25 qh_55 c_56 b_67.1 b_67.2 e_68 b_74.1 b_74.2 e_75 e_79 e_80))⟩ dX12_takes_54
    · -- 29
      replace HE : FT = g8_X12_takes (xso SM ad ws_36) := HE.trans (if_pos c_45)
      refine lv_aload_n C0.1 C0.2.1 dX12_takes_32 rfl (lv_at hl 0 rfl) ?_
      refine y_c1 (n := 3) C0 (by decide) dX12_takes_33 (fun v_81 e_82 => ?_)
      refine y_cv h (y_rV (As := [.int v_81]) (rest := []) C0 hZ h (c_X12_fails l G Z ad _ h.2 v_81 (o43_35 e_82) (o43_36 e_82)) k_X12_fails q_1622 q_63 q_1620 kSM_0 rfl rfl rfl hl.1 rfl rfl (Nat.le_of_ble_eq_true rfl) dX12_takes_34 ⟨Nat.le_of_ble_eq_true rfl, Nat.le_of_ble_eq_true rfl⟩ ⟨Nat.le_of_ble_eq_true rfl, Nat.le_of_ble_eq_true rfl⟩) (fun H locs ws_83 h u_84 p_85 => ?_)
      obtain ⟨e_86, e_87, e_88, e_89, e_90⟩ := p_85
      obtain ⟨f_91, e_92⟩ : ∃ v, fI ws_83 0 6 = v := ⟨_, rfl⟩
      have b_93 := ty_fI (k := 6) h.2 kSM_0 rfl rfl
      rw [e_92] at b_93
      have e_94 := e_87
      rw [show fI ws_83 0 6 = f_91 from e_92, show fI ws_36 0 6 = f_4 from (Eq.trans (Eq.trans (Fr.fI u_37 kSM_0 (by decide)) (Fr.fI u_16 kSM_0 (by decide))) e_5)] at e_94
      obtain ⟨f_95, e_96⟩ : ∃ v, fI ws_83 0 7 = v := ⟨_, rfl⟩
      have b_97 := ty_fI (k := 7) h.2 kSM_0 rfl rfl
      rw [e_96] at b_97
      have e_98 := e_88
      rw [show fI ws_83 0 7 = f_95 from e_96, show fI ws_36 0 7 = f_10 from (Eq.trans (Eq.trans (Fr.fI u_37 kSM_0 (by decide)) (Fr.fI u_16 kSM_0 (by decide))) e_11)] at e_98
      obtain ⟨f_99, e_100⟩ : ∃ v, fI ws_83 0 9 = v := ⟨_, rfl⟩
      have b_101 := ty_fI (k := 9) h.2 kSM_0 rfl rfl
      rw [e_100] at b_101
      have e_102 := e_89
      rw [show fI ws_83 0 9 = f_99 from e_100, show fI ws_36 0 9 = f_7 from (Eq.trans (Eq.trans (Fr.fI u_37 kSM_0 (by decide)) (Fr.fI u_16 kSM_0 (by decide))) e_8)] at e_102
      obtain ⟨f_103, e_104⟩ : ∃ v, fI ws_83 0 11 = v := ⟨_, rfl⟩
      have b_105 := ty_fI (k := 11) h.2 kSM_0 rfl rfl
      rw [e_104] at b_105
      have e_106 := e_90
      rw [show fI ws_83 0 11 = f_103 from e_104] at e_106
      replace HE : FT = g13c_X12_takes (xso SM ad ws_83) := HE.trans (by rw [e_86, e_82]; rfl)
      refine lv_aload_n C0.1 C0.2.1 dX12_takes_37 rfl (lv_at hl 0 rfl) ?_
      refine ng_X12_number C0 h kSM_0 q_1448 dX12_takes_38 (fun v_107 e_108 e_109 e_110 => ?_)
      refine lv_istore_n (lv' := [(3, .int v_107), (0, .ref (ad 0)), (1, .int a1), (2, .int a2)]) C0.1 C0.2.1 dX12_takes_41 rfl hl (by decide) rfl (fun ls hl => ?_)
      refine lv_aload_n C0.1 C0.2.1 dX12_takes_42 rfl (lv_at hl 1 rfl) ?_
      refine ng_X12_wrong C0 h kSM_0 q_1449 dX12_takes_43 (fun v_111 e_112 e_113 e_114 => ?_)
      have qh_115 : v_111.toInt = f_103.toInt := congrArg Int32.toInt (e_112.symm.trans (Eq.trans rfl e_104))
      replace HE : FT = g14b_X12_takes (xso SM ad ws_83) v_111.toInt v_107.toInt := HE.trans (by rw [(xg0 e_108 : v_107.toInt = (xso SM ad ws_83) 0 0 10), (xg0 e_112 : v_111.toInt = (xso SM ad ws_83) 0 0 11)]; rfl)
      refine y_if_ne (tgt := 53) C0 dX12_takes_46 (by decide) (fun c_116 => ?_) (fun c_116 => ?_)
      · -- 46
        replace HE : FT = g15_X12_takes (xso SM ad ws_83) v_107.toInt := HE.trans (if_neg c_116)
        refine lv_iload_n C0.1 C0.2.1 dX12_takes_53 rfl (lv_at hl 0 rfl) ?_
        replace HE : FT = ((xso SM ad ws_83), v_107.toInt) := HE.trans rfl
        rw [hQ]
        exact y_iret C0 h (Fr.tr (Fr.tr (Fr.mono u_16 (by decide)) (Fr.mono u_37 (by decide))) u_84) ⟨(congrArg Prod.fst (HE.symm.trans hFT)), (congrArg Prod.snd (HE.symm.trans hFT)), (o43_37 e_109 e_110), (o43_38 e_109 e_110), (by rw [show fI ws_83 0 9 = f_99 from (Eq.trans rfl e_100), show fI ws_83 0 6 = f_91 from (Eq.trans rfl e_92), show fI ws_83 0 7 = f_95 from (Eq.trans rfl e_96)] <;> exact (o43_39 b_6.1 b_6.2 b_12.1 b_12.2 pre0 pre1 e_14 e_21 e_22 e_24 c_25 b_93.1 b_93.2 e_94 b_97.1 b_97.2 e_98 e_102)), (by rw [show fI ws_83 0 6 = f_91 from (Eq.trans rfl e_92), show fI ws_83 0 7 = f_95 from (Eq.trans rfl e_96)] <;> exact (o43_40 b_6.1 b_6.2 b_12.1 b_12.2 pre0 pre1 e_14 e_21 e_22 e_24 c_25 b_93.1 b_93.2 e_94 b_97.1 b_97.2 e_98 e_102)), (by rw [show fI ws_83 0 11 = f_103 from (Eq.trans rfl e_104), show fI ws0 0 11 = f_1 from e_2] <;> exact (o43_41 b_6.1 b_6.2 b_12.1 b_12.2 pre0 pre1 e_14 e_21 e_22 e_24 c_25 e_28 e_29 e_31 e_33 e_35 e_42 e_43 e_44 c_45 b_93.1 b_93.2 e_94 b_97.1 b_97.2 e_98 e_102 e_106 e_109 e_110 qh_115 c_116)), (by rw [show fI ws0 0 6 = f_4 from e_5, show fI ws_83 0 6 = f_91 from (Eq.trans rfl e_92)] <;> exact (o43_42 b_6.1 b_6.2 b_12.1 b_12.2 pre0 pre1 e_14 e_21 e_22 e_24 c_25 b_93.1 b_93.2 e_94 b_97.1 b_97.2 e_98 e_102))⟩ dX12_takes_54
      · -- 46
        replace HE : FT = g16_X12_takes (xso SM ad ws_83) v_107.toInt := HE.trans (if_pos c_116)
        refine lv_aload_n C0.1 C0.2.1 dX12_takes_49 rfl (lv_at hl 1 rfl) ?_
        refine y_cv h (y_rV (As := []) (rest := []) C0 hZ h (c_X12_next l G Z ad _ h.2) k_X12_next q_1584 q_56 q_1582 kSM_0 rfl rfl rfl hl.1 rfl rfl (Nat.le_of_ble_eq_true rfl) dX12_takes_50 ⟨Nat.le_of_ble_eq_true rfl, Nat.le_of_ble_eq_true rfl⟩ ⟨Nat.le_of_ble_eq_true rfl, Nat.le_of_ble_eq_true rfl⟩) (fun H locs ws_117 h u_118 p_119 => ?_)
        obtain ⟨e_120, e_121, e_122, e_123, e_124⟩ := p_119
        obtain ⟨f_125, e_126⟩ : ∃ v, fI ws_117 0 6 = v := ⟨_, rfl⟩
        have b_127 := ty_fI (k := 6) h.2 kSM_0 rfl rfl
        rw [e_126] at b_127
        have e_128 := e_121
        rw [show fI ws_83 0 7 = f_95 from (Eq.trans rfl e_96), show fI ws_117 0 6 = f_125 from e_126] at e_128
        obtain ⟨f_129, e_130⟩ : ∃ v, fI ws_117 0 9 = v := ⟨_, rfl⟩
        have b_131 := ty_fI (k := 9) h.2 kSM_0 rfl rfl
        rw [e_130] at b_131
        obtain ⟨f_132, e_133⟩ : ∃ v, fI ws_117 0 7 = v := ⟨_, rfl⟩
        have b_134 := ty_fI (k := 7) h.2 kSM_0 rfl rfl
        rw [e_133] at b_134
        have e_135 := e_122
        rw [show fI ws_117 0 9 = f_129 from e_130, show fI ws_117 0 6 = f_125 from (Eq.trans rfl e_126), show fI ws_117 0 7 = f_132 from e_133] at e_135
        obtain ⟨f_136, e_137⟩ : ∃ v, fI ws_117 0 11 = v := ⟨_, rfl⟩
        have b_138 := ty_fI (k := 11) h.2 kSM_0 rfl rfl
        rw [e_137] at b_138
        have e_139 := e_123
        rw [show fI ws_117 0 11 = f_136 from e_137, show fI ws_83 0 11 = f_103 from (Eq.trans rfl e_104)] at e_139
        have e_140 := e_124
        rw [show fI ws_117 0 6 = f_125 from (Eq.trans rfl e_126), show fI ws_117 0 7 = f_132 from (Eq.trans rfl e_133)] at e_140
        replace HE : FT = g17c_X12_takes (xso SM ad ws_117) v_107.toInt := HE.trans (by rw [e_120]; rfl)
        refine lv_iload_n C0.1 C0.2.1 dX12_takes_53 rfl (lv_at hl 0 rfl) ?_
        replace HE : FT = ((xso SM ad ws_117), v_107.toInt) := HE.trans rfl
        rw [hQ]
        exact y_iret C0 h (Fr.tr (Fr.tr (Fr.tr (Fr.mono u_16 (by decide)) (Fr.mono u_37 (by decide))) u_84) u_118) ⟨(congrArg Prod.fst (HE.symm.trans hFT)), (congrArg Prod.snd (HE.symm.trans hFT)), (o43_37 e_109 e_110), (o43_38 e_109 e_110), (by rw [show fI ws_117 0 9 = f_129 from (Eq.trans rfl e_130), show fI ws_117 0 6 = f_125 from (Eq.trans rfl e_126), show fI ws_117 0 7 = f_132 from (Eq.trans rfl e_133)] <;> exact (o43_43 b_6.1 b_6.2 b_12.1 b_12.2 pre0 pre1 e_14 e_21 e_22 e_24 c_25 b_93.1 b_93.2 e_94 b_97.1 b_97.2 e_98 e_102 b_127.1 b_127.2 e_128 b_134.1 b_134.2 e_135 e_140)), (by rw [show fI ws_117 0 6 = f_125 from (Eq.trans rfl e_126), show fI ws_117 0 7 = f_132 from (Eq.trans rfl e_133)] <;> exact (o43_44 b_6.1 b_6.2 b_12.1 b_12.2 pre0 pre1 e_14 e_21 e_22 e_24 c_25 b_93.1 b_93.2 e_94 b_97.1 b_97.2 e_98 e_102 b_127.1 b_127.2 e_128 b_134.1 b_134.2 e_135 e_140)), (by rw [show fI ws_117 0 11 = f_136 from (Eq.trans rfl e_137), show fI ws0 0 11 = f_1 from e_2] <;> exact (o43_45 b_6.1 b_6.2 b_12.1 b_12.2 pre0 pre1 e_14 e_21 e_22 e_24 c_25 e_28 e_29 e_31 e_33 e_35 e_42 e_43 e_44 c_45 b_93.1 b_93.2 e_94 b_97.1 b_97.2 e_98 e_102 e_106 e_109 e_110 qh_115 c_116 b_127.1 b_127.2 e_128 b_134.1 b_134.2 e_135 e_139 e_140)), (by rw [show fI ws0 0 6 = f_4 from e_5, show fI ws_117 0 6 = f_125 from (Eq.trans rfl e_126)] <;> exact (o43_46 b_6.1 b_6.2 b_12.1 b_12.2 pre0 pre1 e_14 e_21 e_22 e_24 c_25 b_93.1 b_93.2 e_94 b_97.1 b_97.2 e_98 e_102 b_127.1 b_127.2 e_128 b_134.1 b_134.2 e_135 e_140))⟩ dX12_takes_54
  · -- 6
    replace HE : FT = g4_X12_takes (xso SM ad ws_15) := HE.trans (if_pos c_25)
    refine lv_aload_n C0.1 C0.2.1 dX12_takes_9 rfl (lv_at hl 0 rfl) ?_
    refine y_c1 (n := 2) C0 (by decide) dX12_takes_10 (fun v_141 e_142 => ?_)
    refine y_cv h (y_rV (As := [.int v_141]) (rest := []) C0 hZ h (c_X12_fails l G Z ad _ h.2 v_141 (o43_47 e_142) (o43_48 e_142)) k_X12_fails q_1622 q_63 q_1620 kSM_0 rfl rfl rfl hl.1 rfl rfl (Nat.le_of_ble_eq_true rfl) dX12_takes_11 ⟨Nat.le_of_ble_eq_true rfl, Nat.le_of_ble_eq_true rfl⟩ ⟨Nat.le_of_ble_eq_true rfl, Nat.le_of_ble_eq_true rfl⟩) (fun H locs ws_143 h u_144 p_145 => ?_)
    obtain ⟨e_146, e_147, e_148, e_149, e_150⟩ := p_145
    obtain ⟨f_151, e_152⟩ : ∃ v, fI ws_143 0 6 = v := ⟨_, rfl⟩
    have b_153 := ty_fI (k := 6) h.2 kSM_0 rfl rfl
    rw [e_152] at b_153
    have e_154 := e_147
    rw [show fI ws_143 0 6 = f_151 from e_152, show fI ws_15 0 6 = f_4 from (Eq.trans (Fr.fI u_16 kSM_0 (by decide)) e_5)] at e_154
    obtain ⟨f_155, e_156⟩ : ∃ v, fI ws_143 0 7 = v := ⟨_, rfl⟩
    have b_157 := ty_fI (k := 7) h.2 kSM_0 rfl rfl
    rw [e_156] at b_157
    have e_158 := e_148
    rw [show fI ws_143 0 7 = f_155 from e_156, show fI ws_15 0 7 = f_10 from (Eq.trans (Fr.fI u_16 kSM_0 (by decide)) e_11)] at e_158
    obtain ⟨f_159, e_160⟩ : ∃ v, fI ws_143 0 9 = v := ⟨_, rfl⟩
    have b_161 := ty_fI (k := 9) h.2 kSM_0 rfl rfl
    rw [e_160] at b_161
    have e_162 := e_149
    rw [show fI ws_143 0 9 = f_159 from e_160, show fI ws_15 0 9 = f_7 from (Eq.trans (Fr.fI u_16 kSM_0 (by decide)) e_8)] at e_162
    obtain ⟨f_163, e_164⟩ : ∃ v, fI ws_143 0 11 = v := ⟨_, rfl⟩
    have b_165 := ty_fI (k := 11) h.2 kSM_0 rfl rfl
    rw [e_164] at b_165
    have e_166 := e_150
    rw [show fI ws_143 0 11 = f_163 from e_164] at e_166
    replace HE : FT = g18c_X12_takes (xso SM ad ws_143) := HE.trans (by rw [e_146, e_142]; rfl)
    refine lv_goto (tgt := 37) C0.1 C0.2.1 dX12_takes_14 (by decide) ?_
    refine lv_aload_n C0.1 C0.2.1 dX12_takes_37 rfl (lv_at hl 0 rfl) ?_
    refine ng_X12_number C0 h kSM_0 q_1448 dX12_takes_38 (fun v_167 e_168 e_169 e_170 => ?_)
    refine lv_istore_n (lv' := [(3, .int v_167), (0, .ref (ad 0)), (1, .int a1), (2, .int a2)]) C0.1 C0.2.1 dX12_takes_41 rfl hl (by decide) rfl (fun ls hl => ?_)
    refine lv_aload_n C0.1 C0.2.1 dX12_takes_42 rfl (lv_at hl 1 rfl) ?_
    refine ng_X12_wrong C0 h kSM_0 q_1449 dX12_takes_43 (fun v_171 e_172 e_173 e_174 => ?_)
    have qh_175 : v_171.toInt = f_163.toInt := congrArg Int32.toInt (e_172.symm.trans (Eq.trans rfl e_164))
    replace HE : FT = g19b_X12_takes (xso SM ad ws_143) v_171.toInt v_167.toInt := HE.trans (by rw [(xg0 e_168 : v_167.toInt = (xso SM ad ws_143) 0 0 10), (xg0 e_172 : v_171.toInt = (xso SM ad ws_143) 0 0 11)]; rfl)
    refine y_if_ne (tgt := 53) C0 dX12_takes_46 (by decide) (fun c_176 => ?_) (fun c_176 => ?_)
    · -- 46
      replace HE : FT = g20_X12_takes (xso SM ad ws_143) v_167.toInt := HE.trans (if_neg c_176)
      refine lv_iload_n C0.1 C0.2.1 dX12_takes_53 rfl (lv_at hl 0 rfl) ?_
      replace HE : FT = ((xso SM ad ws_143), v_167.toInt) := HE.trans rfl
      rw [hQ]
      exact y_iret C0 h (Fr.tr (Fr.mono u_16 (by decide)) u_144) ⟨(congrArg Prod.fst (HE.symm.trans hFT)), (congrArg Prod.snd (HE.symm.trans hFT)), (o43_37 e_169 e_170), (o43_38 e_169 e_170), (by rw [show fI ws_143 0 9 = f_159 from (Eq.trans rfl e_160), show fI ws_143 0 6 = f_151 from (Eq.trans rfl e_152), show fI ws_143 0 7 = f_155 from (Eq.trans rfl e_156)] <;> exact (o43_49 b_6.1 b_6.2 b_12.1 b_12.2 pre0 pre1 e_14 e_21 e_22 e_24 c_25 b_153.1 b_153.2 e_154 b_157.1 b_157.2 e_158 e_162)), (by rw [show fI ws_143 0 6 = f_151 from (Eq.trans rfl e_152), show fI ws_143 0 7 = f_155 from (Eq.trans rfl e_156)] <;> exact (o43_50 b_6.1 b_6.2 b_12.1 b_12.2 pre0 pre1 e_14 e_21 e_22 e_24 c_25 b_153.1 b_153.2 e_154 b_157.1 b_157.2 e_158 e_162)), (by rw [show fI ws_143 0 11 = f_163 from (Eq.trans rfl e_164), show fI ws0 0 11 = f_1 from e_2] <;> exact (o43_51 b_6.1 b_6.2 b_12.1 b_12.2 pre0 pre1 e_14 e_21 e_22 e_24 c_25 b_153.1 b_153.2 e_154 b_157.1 b_157.2 e_158 e_162 e_166 e_169 e_170 qh_175 c_176)), (by rw [show fI ws0 0 6 = f_4 from e_5, show fI ws_143 0 6 = f_151 from (Eq.trans rfl e_152)] <;> exact (o43_52 b_6.1 b_6.2 b_12.1 b_12.2 pre0 pre1 e_14 e_21 e_22 e_24 c_25 b_153.1 b_153.2 e_154 b_157.1 b_157.2 e_158 e_162))⟩ dX12_takes_54
    · -- 46
      replace HE : FT = g21_X12_takes (xso SM ad ws_143) v_167.toInt := HE.trans (if_pos c_176)
      refine lv_aload_n C0.1 C0.2.1 dX12_takes_49 rfl (lv_at hl 1 rfl) ?_
      refine y_cv h (y_rV (As := []) (rest := []) C0 hZ h (c_X12_next l G Z ad _ h.2) k_X12_next q_1584 q_56 q_1582 kSM_0 rfl rfl rfl hl.1 rfl rfl (Nat.le_of_ble_eq_true rfl) dX12_takes_50 ⟨Nat.le_of_ble_eq_true rfl, Nat.le_of_ble_eq_true rfl⟩ ⟨Nat.le_of_ble_eq_true rfl, Nat.le_of_ble_eq_true rfl⟩) (fun H locs ws_177 h u_178 p_179 => ?_)
      obtain ⟨e_180, e_181, e_182, e_183, e_184⟩ := p_179
      obtain ⟨f_185, e_186⟩ : ∃ v, fI ws_177 0 6 = v := ⟨_, rfl⟩
      have b_187 := ty_fI (k := 6) h.2 kSM_0 rfl rfl
      rw [e_186] at b_187
      have e_188 := e_181
      rw [show fI ws_143 0 7 = f_155 from (Eq.trans rfl e_156), show fI ws_177 0 6 = f_185 from e_186] at e_188
      obtain ⟨f_189, e_190⟩ : ∃ v, fI ws_177 0 9 = v := ⟨_, rfl⟩
      have b_191 := ty_fI (k := 9) h.2 kSM_0 rfl rfl
      rw [e_190] at b_191
      obtain ⟨f_192, e_193⟩ : ∃ v, fI ws_177 0 7 = v := ⟨_, rfl⟩
      have b_194 := ty_fI (k := 7) h.2 kSM_0 rfl rfl
      rw [e_193] at b_194
      have e_195 := e_182
      rw [show fI ws_177 0 9 = f_189 from e_190, show fI ws_177 0 6 = f_185 from (Eq.trans rfl e_186), show fI ws_177 0 7 = f_192 from e_193] at e_195
      obtain ⟨f_196, e_197⟩ : ∃ v, fI ws_177 0 11 = v := ⟨_, rfl⟩
      have b_198 := ty_fI (k := 11) h.2 kSM_0 rfl rfl
      rw [e_197] at b_198
      have e_199 := e_183
      rw [show fI ws_177 0 11 = f_196 from e_197, show fI ws_143 0 11 = f_163 from (Eq.trans rfl e_164)] at e_199
      have e_200 := e_184
      rw [show fI ws_177 0 6 = f_185 from (Eq.trans rfl e_186), show fI ws_177 0 7 = f_192 from (Eq.trans rfl e_193)] at e_200
      replace HE : FT = g22c_X12_takes (xso SM ad ws_177) v_167.toInt := HE.trans (by rw [e_180]; rfl)
      refine lv_iload_n C0.1 C0.2.1 dX12_takes_53 rfl (lv_at hl 0 rfl) ?_
      replace HE : FT = ((xso SM ad ws_177), v_167.toInt) := HE.trans rfl
      rw [hQ]
      exact y_iret C0 h (Fr.tr (Fr.tr (Fr.mono u_16 (by decide)) u_144) u_178) ⟨(congrArg Prod.fst (HE.symm.trans hFT)), (congrArg Prod.snd (HE.symm.trans hFT)), (o43_37 e_169 e_170), (o43_38 e_169 e_170), (by rw [show fI ws_177 0 9 = f_189 from (Eq.trans rfl e_190), show fI ws_177 0 6 = f_185 from (Eq.trans rfl e_186), show fI ws_177 0 7 = f_192 from (Eq.trans rfl e_193)] <;> exact (o43_53 b_6.1 b_6.2 b_12.1 b_12.2 pre0 pre1 e_14 e_21 e_22 e_24 c_25 b_153.1 b_153.2 e_154 b_157.1 b_157.2 e_158 e_162 b_187.1 b_187.2 e_188 b_194.1 b_194.2 e_195 e_200)), (by rw [show fI ws_177 0 6 = f_185 from (Eq.trans rfl e_186), show fI ws_177 0 7 = f_192 from (Eq.trans rfl e_193)] <;> exact (o43_54 b_6.1 b_6.2 b_12.1 b_12.2 pre0 pre1 e_14 e_21 e_22 e_24 c_25 b_153.1 b_153.2 e_154 b_157.1 b_157.2 e_158 e_162 b_187.1 b_187.2 e_188 b_194.1 b_194.2 e_195 e_200)), (by rw [show fI ws_177 0 11 = f_196 from (Eq.trans rfl e_197), show fI ws0 0 11 = f_1 from e_2] <;> exact (o43_55 b_6.1 b_6.2 b_12.1 b_12.2 pre0 pre1 e_14 e_21 e_22 e_24 c_25 b_153.1 b_153.2 e_154 b_157.1 b_157.2 e_158 e_162 e_166 e_169 e_170 qh_175 c_176 b_187.1 b_187.2 e_188 b_194.1 b_194.2 e_195 e_199 e_200)), (by rw [show fI ws0 0 6 = f_4 from e_5, show fI ws_177 0 6 = f_185 from (Eq.trans rfl e_186)] <;> exact (o43_56 b_6.1 b_6.2 b_12.1 b_12.2 pre0 pre1 e_14 e_21 e_22 e_24 c_25 b_153.1 b_153.2 e_154 b_157.1 b_157.2 e_158 e_162 b_187.1 b_187.2 e_188 b_194.1 b_194.2 e_195 e_200))⟩ dX12_takes_54
noncomputable def g5w_X12_codes (s : XS) : XR := (s, 0)
noncomputable def g4w_X12_codes (s : XS) : XR := g5w_X12_codes (xup s 1 4 (Int.toNat 873) (((s 1 4 (Int.toNat 873)) + 1)))
noncomputable def g2_X12_codes (s : XS) (a1 : Int) : XR := g4w_X12_codes (xup s 1 4 (Int.toNat (874 + (s 1 4 (Int.toNat 873)))) (a1))
noncomputable def g3_X12_codes (s : XS) : XR := (s, 0)
noncomputable def g1b_X12_codes (s : XS) (v_7 : Int) (a1 : Int) : XR := if v_7 = 0 then g2_X12_codes s a1 else g3_X12_codes s
noncomputable def f_X12_codes (s : XS) (a1 : Int) : XR := g1b_X12_codes s ((s 0 0 11)) a1
set_option maxHeartbeats 4000000 in
set_option maxRecDepth 100000 in
theorem c_X12_codes (l : Launch) (G : GG) (Z : RZ) (ad : Nat → Nat) (ws0 : va_W) (hT : Ty G SM ad ws0) (a1 : Int32) (pre0 : (¬ (fI ws0 0 11).toInt = 0 ∨ (aI ws0 4 873).toInt ≤ 899)) : Mq l yX12_codes cX12_codes 2 none 1 G Z [.ref (ad 0), .int a1] ws0 (PV G SM ad [4] ws0 (fun u => (xso SM ad u = (f_X12_codes (xso SM ad ws0) a1.toInt).1) ∧ (((¬ (fI ws0 0 11).toInt = 0 ∧ (aI u 4 873).toInt = (aI ws0 4 873).toInt) ∨ ((fI ws0 0 11).toInt = 0 ∧ (aI u 4 873).toInt = (aI ws0 4 873).toInt + 1))) ∧ (Cod ws0 u a1))) := by
  refine Mq.start (by decide) (Nat.le_of_ble_eq_true rfl) ?_
  intro p e s m below meth c A ls C0 hZ h hl
  have hl : lv_has ls 2 [(0, .ref (ad 0)), (1, .int a1)] := hl
  have h : Wt G SM ad A s s.heap [] ws0 := ⟨h, hT⟩
  obtain ⟨args, hargs⟩ : ∃ z, z = ([.ref (ad 0), .int a1] : List Value).toArray := ⟨_, rfl⟩
  rw [← hargs] at C0 ⊢
  have C0 : Cx p s m args meth c RX12 cX12_codes 2 none := C0
  obtain ⟨Q, hQ⟩ : ∃ z, z = MQ below ((PV G SM ad [4] ws0 (fun u => (xso SM ad u = (f_X12_codes (xso SM ad ws0) a1.toInt).1) ∧ (((¬ (fI ws0 0 11).toInt = 0 ∧ (aI u 4 873).toInt = (aI ws0 4 873).toInt) ∨ ((fI ws0 0 11).toInt = 0 ∧ (aI u 4 873).toInt = (aI ws0 4 873).toInt + 1))) ∧ (Cod ws0 u a1))) A) args s 0 0 A := ⟨_, rfl⟩
  rw [← hQ]
  obtain ⟨FT, hFT⟩ : ∃ z, z = f_X12_codes (xso SM ad ws0) a1.toInt := ⟨_, rfl⟩
  have HE : FT = f_X12_codes (xso SM ad ws0) a1.toInt := hFT
  obtain ⟨f_1, e_2⟩ : ∃ v, fI ws0 0 11 = v := ⟨_, rfl⟩
  have b_3 := ty_fI (k := 11) h.2 kSM_0 rfl rfl
  rw [e_2] at b_3
  obtain ⟨f_4, e_5⟩ : ∃ v, aI ws0 4 873 = v := ⟨_, rfl⟩
  have b_6 := ty_aI 873 h.2 kSM_4 rfl (by decide)
  rw [e_5] at b_6
  rw [show fI ws0 0 11 = f_1 from e_2, show aI ws0 4 873 = f_4 from e_5] at pre0
  refine lv_aload_n C0.1 C0.2.1 dX12_codes_0 rfl (lv_at hl 0 rfl) ?_
  refine ng_X12_wrong C0 h kSM_0 q_1449 dX12_codes_1 (fun v_7 e_8 e_9 e_10 => ?_)
  have qh_11 : v_7.toInt = f_1.toInt := congrArg Int32.toInt (e_8.symm.trans (Eq.trans rfl e_2))
  replace HE : FT = g1b_X12_codes (xso SM ad ws0) v_7.toInt a1.toInt := HE.trans (by rw [(xg0 e_8 : v_7.toInt = (xso SM ad ws0) 0 0 11)]; rfl)
  refine y_if_eq (tgt := 8) C0 dX12_codes_4 (by decide) (fun c_12 => ?_) (fun c_12 => ?_)
  · -- 4
    replace HE : FT = g2_X12_codes (xso SM ad ws0) a1.toInt := HE.trans (if_pos c_12)
    refine lv_aload_n C0.1 C0.2.1 dX12_codes_8 rfl (lv_at hl 0 rfl) ?_
    refine ng_X12_fresh C0 h kSM_0 q_1442 dX12_codes_9 ?_
    refine y_c3 (n := 874) C0 (by decide) dX12_codes_12 (fun v_13 e_14 => ?_)
    refine lv_aload_n C0.1 C0.2.1 dX12_codes_15 rfl (lv_at hl 0 rfl) ?_
    refine ng_X12_fresh C0 h kSM_0 q_1442 dX12_codes_16 ?_
    refine y_c3 (n := 873) C0 (by decide) dX12_codes_19 (fun v_15 e_16 => ?_)
    refine y_iald C0 h kSM_4 rfl (by decide) (o43_57 e_16) (o43_58 e_16) dX12_codes_22 (fun v_17 e_18 e_19 e_20 => ?_)
    have f_21 := o43_59 v_15.toInt.toNat (o43_60 e_16) (o43_61 e_16)
    have e_22 : aI ws0 4 873 = v_17 := (congrArg (aI ws0 4) (ix_c (c := 873) (o43_62 e_16))).symm.trans e_18
    have qh_23 : v_17.toInt = f_4.toInt := congrArg Int32.toInt (e_22.symm.trans (Eq.trans rfl e_5))
    refine y_add C0 (o43_63 (Int.le_trans (by decide : (0 : Int) ≤ (elR 873).1) b_6.1) (Int.le_trans b_6.2 (by decide : (elR 873).2 ≤ (900 : Int))) pre0 qh_11 c_12 e_14 (Int.le_trans f_21.1 e_19) (Int.le_trans e_20 f_21.2) qh_23 (le_min v_13) (le_max v_13) (le_min v_17) (le_max v_17) (le_min f_4) (le_max f_4) (le_min f_1) (le_max f_1) (le_min v_7) (le_max v_7)) (o43_64 (Int.le_trans (by decide : (0 : Int) ≤ (elR 873).1) b_6.1) (Int.le_trans b_6.2 (by decide : (elR 873).2 ≤ (900 : Int))) pre0 qh_11 c_12 e_14 (Int.le_trans f_21.1 e_19) (Int.le_trans e_20 f_21.2) qh_23 (le_min v_13) (le_max v_13) (le_min v_17) (le_max v_17) (le_min f_4) (le_max f_4) (le_min f_1) (le_max f_1) (le_min v_7) (le_max v_7)) dX12_codes_23 (fun v_24 e_25 => ?_)
    refine lv_iload_n C0.1 C0.2.1 dX12_codes_24 rfl (lv_at hl 1 rfl) ?_
    have hO_28 := h.2
    have f_29 := o43_67 v_24.toInt.toNat (o43_68 (Int.le_trans (by decide : (0 : Int) ≤ (elR 873).1) b_6.1) (Int.le_trans b_6.2 (by decide : (elR 873).2 ≤ (900 : Int))) pre0 qh_11 c_12 e_14 (Int.le_trans f_21.1 e_19) (Int.le_trans e_20 f_21.2) qh_23 e_25) (o43_69 (Int.le_trans (by decide : (0 : Int) ≤ (elR 873).1) b_6.1) (Int.le_trans b_6.2 (by decide : (elR 873).2 ≤ (900 : Int))) pre0 qh_11 c_12 e_14 (Int.le_trans f_21.1 e_19) (Int.le_trans e_20 f_21.2) qh_23 e_25)
    refine y_iast C0 h kSM_4 rfl (by decide) (o43_65 (Int.le_trans (by decide : (0 : Int) ≤ (elR 873).1) b_6.1) (Int.le_trans b_6.2 (by decide : (elR 873).2 ≤ (900 : Int))) pre0 qh_11 c_12 e_14 (Int.le_trans f_21.1 e_19) (Int.le_trans e_20 f_21.2) qh_23 e_25) (o43_66 (Int.le_trans (by decide : (0 : Int) ≤ (elR 873).1) b_6.1) (Int.le_trans b_6.2 (by decide : (elR 873).2 ≤ (900 : Int))) pre0 qh_11 c_12 e_14 (Int.le_trans f_21.1 e_19) (Int.le_trans e_20 f_21.2) qh_23 e_25) (Int.le_trans f_29.1 (le_min a1)) (Int.le_trans (le_max a1) f_29.2) dX12_codes_25 (fun H locs ws_26 h u_27 => ?_)
    replace HE : FT = g4w_X12_codes (xso SM ad ws_26) := HE.trans (by rw [(xso_A (i := 4) hO_28 h.2 kSM_4 rfl u_27), e_25, (xg1 e_18 : v_17.toInt = (xso SM ad ws0) 1 4 v_15.toInt.toNat), e_16, e_14]; rfl)
    refine lv_aload_n C0.1 C0.2.1 dX12_codes_26 rfl (lv_at hl 0 rfl) ?_
    refine ng_X12_fresh C0 h kSM_0 q_1442 dX12_codes_27 ?_
    refine y_c3 (n := 873) C0 (by decide) dX12_codes_30 (fun v_30 e_31 => ?_)
    refine lv_dup2_11 C0.1 C0.2.1 dX12_codes_33 rfl rfl ?_
    refine y_iald C0 h kSM_4 rfl (by decide) (o43_57 e_31) (o43_58 e_31) dX12_codes_34 (fun v_32 e_33 e_34 e_35 => ?_)
    have f_36 := o43_59 v_30.toInt.toNat (o43_60 e_31) (o43_61 e_31)
    have e_37 : aI ws_26 4 873 = v_32 := (congrArg (aI ws_26 4) (ix_c (c := 873) (o43_62 e_31))).symm.trans e_33
    have qh_38 : v_32.toInt = f_4.toInt := congrArg Int32.toInt (e_37.symm.trans (Eq.trans (u_27.2.2 873 (o43_70 (Int.le_trans (by decide : (0 : Int) ≤ (elR 873).1) b_6.1) (Int.le_trans b_6.2 (by decide : (elR 873).2 ≤ (900 : Int))) pre0 qh_11 c_12 e_14 (Int.le_trans f_21.1 e_19) (Int.le_trans e_20 f_21.2) qh_23 e_25)) e_5))
    refine y_c1 (n := 1) C0 (by decide) dX12_codes_35 (fun v_39 e_40 => ?_)
    refine y_add C0 (o43_71 (Int.le_trans (by decide : (0 : Int) ≤ (elR 873).1) b_6.1) (Int.le_trans b_6.2 (by decide : (elR 873).2 ≤ (900 : Int))) pre0 qh_11 c_12 e_14 (Int.le_trans f_21.1 e_19) (Int.le_trans e_20 f_21.2) qh_23 e_25 (Int.le_trans f_36.1 e_34) (Int.le_trans e_35 f_36.2) qh_38 e_40 (le_min v_32) (le_max v_32) (le_min v_39) (le_max v_39) (le_min f_4) (le_max f_4) (le_min f_1) (le_max f_1) (le_min v_7) (le_max v_7) (le_min v_13) (le_max v_13) (le_min v_17) (le_max v_17) (le_min v_24) (le_max v_24)) (o43_72 (Int.le_trans (by decide : (0 : Int) ≤ (elR 873).1) b_6.1) (Int.le_trans b_6.2 (by decide : (elR 873).2 ≤ (900 : Int))) pre0 qh_11 c_12 e_14 (Int.le_trans f_21.1 e_19) (Int.le_trans e_20 f_21.2) qh_23 e_25 (Int.le_trans f_36.1 e_34) (Int.le_trans e_35 f_36.2) qh_38 e_40 (le_min v_32) (le_max v_32) (le_min v_39) (le_max v_39) (le_min f_4) (le_max f_4) (le_min f_1) (le_max f_1) (le_min v_7) (le_max v_7) (le_min v_13) (le_max v_13) (le_min v_17) (le_max v_17) (le_min v_24) (le_max v_24)) dX12_codes_36 (fun v_41 e_42 => ?_)
    have hO_45 := h.2
    have f_46 := o43_73 v_30.toInt.toNat (o43_60 e_31) (o43_61 e_31)
    refine y_iast C0 h kSM_4 rfl (by decide) (o43_57 e_31) (o43_58 e_31) (Int.le_trans f_46.1 (o43_74 (Int.le_trans (by decide : (0 : Int) ≤ (elR 873).1) b_6.1) (Int.le_trans b_6.2 (by decide : (elR 873).2 ≤ (900 : Int))) pre0 qh_11 c_12 e_14 (Int.le_trans f_21.1 e_19) (Int.le_trans e_20 f_21.2) qh_23 e_25 (Int.le_trans f_36.1 e_34) (Int.le_trans e_35 f_36.2) qh_38 e_40 e_42)) (Int.le_trans (o43_75 (Int.le_trans (by decide : (0 : Int) ≤ (elR 873).1) b_6.1) (Int.le_trans b_6.2 (by decide : (elR 873).2 ≤ (900 : Int))) pre0 qh_11 c_12 e_14 (Int.le_trans f_21.1 e_19) (Int.le_trans e_20 f_21.2) qh_23 e_25 (Int.le_trans f_36.1 e_34) (Int.le_trans e_35 f_36.2) qh_38 e_40 e_42) f_46.2) dX12_codes_37 (fun H locs ws_43 h u_44 => ?_)
    have e_47 : aI ws_43 4 873 = v_41 := (congrArg (aI ws_43 4) (ix_c (c := 873) (o43_62 e_31))).symm.trans u_44.2.1
    replace HE : FT = g5w_X12_codes (xso SM ad ws_43) := HE.trans (by rw [(xso_A (i := 4) hO_45 h.2 kSM_4 rfl u_44), e_42, e_40, (xg1 e_33 : v_32.toInt = (xso SM ad ws_26) 1 4 v_30.toInt.toNat), e_31]; rfl)
    replace HE : FT = ((xso SM ad ws_43), 0) := HE.trans rfl
    rw [hQ]
    exact y_vret C0 h (Fr.tr (Fr.up u_27.1 kSM_4 (by decide)) (Fr.up u_44.1 kSM_4 (by decide))) ⟨(congrArg Prod.fst (HE.symm.trans hFT)), (by rw [show fI ws0 0 11 = f_1 from e_2, show aI ws_43 4 873 = v_41 from (Eq.trans rfl e_47), show aI ws0 4 873 = f_4 from e_5] <;> exact (o43_76 (Int.le_trans (by decide : (0 : Int) ≤ (elR 873).1) b_6.1) (Int.le_trans b_6.2 (by decide : (elR 873).2 ≤ (900 : Int))) pre0 qh_11 c_12 e_14 (Int.le_trans f_21.1 e_19) (Int.le_trans e_20 f_21.2) qh_23 e_25 (Int.le_trans f_36.1 e_34) (Int.le_trans e_35 f_36.2) qh_38 e_40 e_42)), (cod_st u_27 u_44 e_5 (o43_77 (Int.le_trans (by decide : (0 : Int) ≤ (elR 873).1) b_6.1) (Int.le_trans b_6.2 (by decide : (elR 873).2 ≤ (900 : Int))) pre0 qh_11 c_12 e_14 (Int.le_trans f_21.1 e_19) (Int.le_trans e_20 f_21.2) qh_23 e_25 (Int.le_trans f_36.1 e_34) (Int.le_trans e_35 f_36.2) qh_38 e_40 e_42) (o43_78 e_31) (o43_79 (Int.le_trans (by decide : (0 : Int) ≤ (elR 873).1) b_6.1) (Int.le_trans b_6.2 (by decide : (elR 873).2 ≤ (900 : Int))) pre0 qh_11 c_12 e_14 (Int.le_trans f_21.1 e_19) (Int.le_trans e_20 f_21.2) qh_23 e_25 (Int.le_trans f_36.1 e_34) (Int.le_trans e_35 f_36.2) qh_38 e_40 e_42) (o43_80 (Int.le_trans (by decide : (0 : Int) ≤ (elR 873).1) b_6.1) (Int.le_trans b_6.2 (by decide : (elR 873).2 ≤ (900 : Int))) pre0 qh_11 c_12 e_14 (Int.le_trans f_21.1 e_19) (Int.le_trans e_20 f_21.2) qh_23 e_25 (Int.le_trans f_36.1 e_34) (Int.le_trans e_35 f_36.2) qh_38 e_40 e_42))⟩ dX12_codes_38
  · -- 4
    replace HE : FT = g3_X12_codes (xso SM ad ws0) := HE.trans (if_neg c_12)
    replace HE : FT = ((xso SM ad ws0), 0) := HE.trans rfl
    rw [hQ]
    exact y_vret C0 h Fr.rf ⟨(congrArg Prod.fst (HE.symm.trans hFT)), (by rw [show fI ws0 0 11 = f_1 from e_2, show aI ws0 4 873 = f_4 from (Eq.trans rfl e_5)] <;> exact (o43_81 (Int.le_trans (by decide : (0 : Int) ≤ (elR 873).1) b_6.1) (Int.le_trans b_6.2 (by decide : (elR 873).2 ≤ (900 : Int))) pre0 qh_11 c_12)), (cod_bad (Eq.trans rfl e_2) (o43_82 (Int.le_trans (by decide : (0 : Int) ≤ (elR 873).1) b_6.1) (Int.le_trans b_6.2 (by decide : (elR 873).2 ≤ (900 : Int))) pre0 qh_11 c_12))⟩ dX12_codes_7
noncomputable def g5_X12_goesIn (s : XS) : XR := (s, 0)
noncomputable def g6_X12_goesIn (s : XS) : XR := (s, 1)
noncomputable def g4b_X12_goesIn (s : XS) (v_22 : Int) : XR := if v_22 = 0 then g6_X12_goesIn s else g5_X12_goesIn s
noncomputable def g2_X12_goesIn (s : XS) : XR := g4b_X12_goesIn s ((s 0 0 11))
noncomputable def g9_X12_goesIn (s : XS) : XR := (s, 0)
noncomputable def g10_X12_goesIn (s : XS) : XR := (s, 1)
noncomputable def g8b_X12_goesIn (s : XS) (v_56 : Int) : XR := if v_56 = 0 then g10_X12_goesIn s else g9_X12_goesIn s
noncomputable def g7c_X12_goesIn (s : XS) : XR := g8b_X12_goesIn s ((s 0 0 11))
noncomputable def g3_X12_goesIn (s : XS) : XR := g7c_X12_goesIn ((f_X12_next s).1)
noncomputable def g1b_X12_goesIn (s : XS) (v_16 : Int) : XR := if v_16 = 0 then g3_X12_goesIn s else g2_X12_goesIn s
noncomputable def f_X12_goesIn (s : XS) (a1 : Int) : XR := g1b_X12_goesIn s ((s 0 0 11))
set_option maxHeartbeats 4000000 in
set_option maxRecDepth 100000 in
theorem c_X12_goesIn (l : Launch) (G : GG) (Z : RZ) (ad : Nat → Nat) (ws0 : va_W) (hT : Ty G SM ad ws0) (a1 : Int32) (l1 : 0 ≤ a1.toInt) (u1 : a1.toInt ≤ 5) (pre0 : ((fI ws0 0 9).toInt = 24 ∨ (fI ws0 0 6).toInt < (fI ws0 0 7).toInt)) (pre1 : (fI ws0 0 6).toInt ≤ (fI ws0 0 7).toInt) : Mq l yX12_goesIn cX12_goesIn 2 (some .boolean) 7 G Z [.ref (ad 0), .int a1] ws0 (PI G SM ad [0] ws0 (fun r u => (xso SM ad u = (f_X12_goesIn (xso SM ad ws0) a1.toInt).1) ∧ (r.toInt = (f_X12_goesIn (xso SM ad ws0) a1.toInt).2) ∧ (0 ≤ r.toInt) ∧ (r.toInt ≤ 1) ∧ (((fI u 0 9).toInt = 24 ∨ (fI u 0 6).toInt < (fI u 0 7).toInt)) ∧ ((fI u 0 6).toInt ≤ (fI u 0 7).toInt) ∧ (((r.toInt = 0 ∧ ¬ (fI u 0 11).toInt = 0) ∨ (r.toInt = 1 ∧ (fI u 0 11).toInt = 0 ∧ (fI ws0 0 11).toInt = 0 ∧ (fI ws0 0 7).toInt ≤ (fI u 0 6).toInt))) ∧ ((fI ws0 0 6).toInt ≤ (fI u 0 6).toInt))) := by
  refine Mq.start (by decide) (Nat.le_of_ble_eq_true rfl) ?_
  intro p e s m below meth c A ls C0 hZ h hl
  have hl : lv_has ls 2 [(0, .ref (ad 0)), (1, .int a1)] := hl
  have h : Wt G SM ad A s s.heap [] ws0 := ⟨h, hT⟩
  obtain ⟨args, hargs⟩ : ∃ z, z = ([.ref (ad 0), .int a1] : List Value).toArray := ⟨_, rfl⟩
  rw [← hargs] at C0 ⊢
  have C0 : Cx p s m args meth c RX12 cX12_goesIn 2 (some .boolean) := C0
  obtain ⟨Q, hQ⟩ : ∃ z, z = MQ below ((PI G SM ad [0] ws0 (fun r u => (xso SM ad u = (f_X12_goesIn (xso SM ad ws0) a1.toInt).1) ∧ (r.toInt = (f_X12_goesIn (xso SM ad ws0) a1.toInt).2) ∧ (0 ≤ r.toInt) ∧ (r.toInt ≤ 1) ∧ (((fI u 0 9).toInt = 24 ∨ (fI u 0 6).toInt < (fI u 0 7).toInt)) ∧ ((fI u 0 6).toInt ≤ (fI u 0 7).toInt) ∧ (((r.toInt = 0 ∧ ¬ (fI u 0 11).toInt = 0) ∨ (r.toInt = 1 ∧ (fI u 0 11).toInt = 0 ∧ (fI ws0 0 11).toInt = 0 ∧ (fI ws0 0 7).toInt ≤ (fI u 0 6).toInt))) ∧ ((fI ws0 0 6).toInt ≤ (fI u 0 6).toInt))) A) args s 0 0 A := ⟨_, rfl⟩
  rw [← hQ]
  obtain ⟨FT, hFT⟩ : ∃ z, z = f_X12_goesIn (xso SM ad ws0) a1.toInt := ⟨_, rfl⟩
  have HE : FT = f_X12_goesIn (xso SM ad ws0) a1.toInt := hFT
  obtain ⟨f_1, e_2⟩ : ∃ v, fI ws0 0 11 = v := ⟨_, rfl⟩
  have b_3 := ty_fI (k := 11) h.2 kSM_0 rfl rfl
  rw [e_2] at b_3
  obtain ⟨f_4, e_5⟩ : ∃ v, fI ws0 0 7 = v := ⟨_, rfl⟩
  have b_6 := ty_fI (k := 7) h.2 kSM_0 rfl rfl
  rw [e_5] at b_6
  obtain ⟨f_7, e_8⟩ : ∃ v, fI ws0 0 6 = v := ⟨_, rfl⟩
  have b_9 := ty_fI (k := 6) h.2 kSM_0 rfl rfl
  rw [e_8] at b_9
  obtain ⟨f_10, e_11⟩ : ∃ v, fI ws0 0 9 = v := ⟨_, rfl⟩
  have b_12 := ty_fI (k := 9) h.2 kSM_0 rfl rfl
  rw [e_11] at b_12
  rw [show fI ws0 0 9 = f_10 from e_11, show fI ws0 0 6 = f_7 from e_8, show fI ws0 0 7 = f_4 from e_5] at pre0
  rw [show fI ws0 0 6 = f_7 from e_8, show fI ws0 0 7 = f_4 from e_5] at pre1
  refine lv_iload_n C0.1 C0.2.1 dX12_goesIn_0 rfl (lv_at hl 1 rfl) ?_
  refine y_c2 (n := 6) C0 (by decide) dX12_goesIn_1 (fun v_13 e_14 => ?_)
  refine y_icmp_ne (tgt := 11) C0 dX12_goesIn_3 (by decide) (fun c_15 => ?_) (fun c_15 => ((o43_83 l1 u1 e_14 c_15)).elim)
  refine lv_aload_n C0.1 C0.2.1 dX12_goesIn_11 rfl (lv_at hl 0 rfl) ?_
  refine ng_X12_wrong C0 h kSM_0 q_1449 dX12_goesIn_12 (fun v_16 e_17 e_18 e_19 => ?_)
  have qh_20 : v_16.toInt = f_1.toInt := congrArg Int32.toInt (e_17.symm.trans (Eq.trans rfl e_2))
  replace HE : FT = g1b_X12_goesIn (xso SM ad ws0) v_16.toInt := HE.trans (by rw [(xg0 e_17 : v_16.toInt = (xso SM ad ws0) 0 0 11)]; rfl)
  refine y_if_ne (tgt := 22) C0 dX12_goesIn_15 (by decide) (fun c_21 => ?_) (fun c_21 => ?_)
  · -- 15
    replace HE : FT = g2_X12_goesIn (xso SM ad ws0) := HE.trans (if_neg c_21)
    refine lv_aload_n C0.1 C0.2.1 dX12_goesIn_22 rfl (lv_at hl 0 rfl) ?_
    refine ng_X12_wrong C0 h kSM_0 q_1449 dX12_goesIn_23 (fun v_22 e_23 e_24 e_25 => ?_)
    have qh_26 : v_22.toInt = f_1.toInt := congrArg Int32.toInt (e_23.symm.trans (Eq.trans rfl e_2))
    replace HE : FT = g4b_X12_goesIn (xso SM ad ws0) v_22.toInt := HE.trans (by rw [(xg0 e_23 : v_22.toInt = (xso SM ad ws0) 0 0 11)]; rfl)
    refine y_if_ne (tgt := 33) C0 dX12_goesIn_26 (by decide) (fun c_27 => ?_) (fun c_27 => ?_)
    · -- 26
      replace HE : FT = g5_X12_goesIn (xso SM ad ws0) := HE.trans (if_neg c_27)
      refine y_c1 (n := 0) C0 (by decide) dX12_goesIn_33 (fun v_28 e_29 => ?_)
      replace HE : FT = ((xso SM ad ws0), v_28.toInt) := HE.trans (by rw [e_29]; rfl)
      rw [hQ]
      exact y_zret C0 h (o43_1 e_29) (o43_2 e_29) Fr.rf ⟨(congrArg Prod.fst (HE.symm.trans hFT)), (congrArg Prod.snd (HE.symm.trans hFT)), (o43_1 e_29), (o43_2 e_29), (by rw [show fI ws0 0 9 = f_10 from (Eq.trans rfl e_11), show fI ws0 0 6 = f_7 from (Eq.trans rfl e_8), show fI ws0 0 7 = f_4 from (Eq.trans rfl e_5)] <;> exact (o43_84 b_6.1 b_6.2 b_9.1 b_9.2 pre0 pre1)), (by rw [show fI ws0 0 6 = f_7 from (Eq.trans rfl e_8), show fI ws0 0 7 = f_4 from (Eq.trans rfl e_5)] <;> exact (o43_85 b_6.1 b_6.2 b_9.1 b_9.2 pre0 pre1)), (by rw [show fI ws0 0 11 = f_1 from (Eq.trans rfl e_2), show fI ws0 0 7 = f_4 from e_5, show fI ws0 0 6 = f_7 from (Eq.trans rfl e_8)] <;> exact (o43_86 b_6.1 b_6.2 b_9.1 b_9.2 pre0 pre1 qh_20 c_21 qh_26 c_27 e_29)), (by rw [show fI ws0 0 6 = f_7 from e_8] <;> exact (o43_87 b_6.1 b_6.2 b_9.1 b_9.2 pre0 pre1))⟩ dX12_goesIn_34
    · -- 26
      replace HE : FT = g6_X12_goesIn (xso SM ad ws0) := HE.trans (if_pos c_27)
      refine y_c1 (n := 1) C0 (by decide) dX12_goesIn_29 (fun v_30 e_31 => ?_)
      refine lv_goto (tgt := 34) C0.1 C0.2.1 dX12_goesIn_30 (by decide) ?_
      replace HE : FT = ((xso SM ad ws0), v_30.toInt) := HE.trans (by rw [e_31]; rfl)
      rw [hQ]
      exact y_zret C0 h (o43_5 e_31) (o43_6 e_31) Fr.rf ⟨(congrArg Prod.fst (HE.symm.trans hFT)), (congrArg Prod.snd (HE.symm.trans hFT)), (o43_5 e_31), (o43_6 e_31), (by rw [show fI ws0 0 9 = f_10 from (Eq.trans rfl e_11), show fI ws0 0 6 = f_7 from (Eq.trans rfl e_8), show fI ws0 0 7 = f_4 from (Eq.trans rfl e_5)] <;> exact (o43_84 b_6.1 b_6.2 b_9.1 b_9.2 pre0 pre1)), (by rw [show fI ws0 0 6 = f_7 from (Eq.trans rfl e_8), show fI ws0 0 7 = f_4 from (Eq.trans rfl e_5)] <;> exact (o43_85 b_6.1 b_6.2 b_9.1 b_9.2 pre0 pre1)), (by rw [show fI ws0 0 11 = f_1 from (Eq.trans rfl e_2), show fI ws0 0 7 = f_4 from e_5, show fI ws0 0 6 = f_7 from (Eq.trans rfl e_8)] <;> exact (o43_88 b_6.1 b_6.2 b_9.1 b_9.2 pre0 pre1 qh_20 c_21 qh_26 c_27 e_31)), (by rw [show fI ws0 0 6 = f_7 from e_8] <;> exact (o43_87 b_6.1 b_6.2 b_9.1 b_9.2 pre0 pre1))⟩ dX12_goesIn_34
  · -- 15
    replace HE : FT = g3_X12_goesIn (xso SM ad ws0) := HE.trans (if_pos c_21)
    refine lv_aload_n C0.1 C0.2.1 dX12_goesIn_18 rfl (lv_at hl 0 rfl) ?_
    refine y_cv h (y_rV (As := []) (rest := []) C0 hZ h (c_X12_next l G Z ad _ h.2) k_X12_next q_1584 q_56 q_1582 kSM_0 rfl rfl rfl hl.1 rfl rfl (Nat.le_of_ble_eq_true rfl) dX12_goesIn_19 ⟨Nat.le_of_ble_eq_true rfl, Nat.le_of_ble_eq_true rfl⟩ ⟨Nat.le_of_ble_eq_true rfl, Nat.le_of_ble_eq_true rfl⟩) (fun H locs ws_32 h u_33 p_34 => ?_)
    obtain ⟨e_35, e_36, e_37, e_38, e_39⟩ := p_34
    obtain ⟨f_40, e_41⟩ : ∃ v, fI ws_32 0 6 = v := ⟨_, rfl⟩
    have b_42 := ty_fI (k := 6) h.2 kSM_0 rfl rfl
    rw [e_41] at b_42
    have e_43 := e_36
    rw [show fI ws0 0 7 = f_4 from (Eq.trans rfl e_5), show fI ws_32 0 6 = f_40 from e_41] at e_43
    obtain ⟨f_44, e_45⟩ : ∃ v, fI ws_32 0 9 = v := ⟨_, rfl⟩
    have b_46 := ty_fI (k := 9) h.2 kSM_0 rfl rfl
    rw [e_45] at b_46
    obtain ⟨f_47, e_48⟩ : ∃ v, fI ws_32 0 7 = v := ⟨_, rfl⟩
    have b_49 := ty_fI (k := 7) h.2 kSM_0 rfl rfl
    rw [e_48] at b_49
    have e_50 := e_37
    rw [show fI ws_32 0 9 = f_44 from e_45, show fI ws_32 0 6 = f_40 from (Eq.trans rfl e_41), show fI ws_32 0 7 = f_47 from e_48] at e_50
    obtain ⟨f_51, e_52⟩ : ∃ v, fI ws_32 0 11 = v := ⟨_, rfl⟩
    have b_53 := ty_fI (k := 11) h.2 kSM_0 rfl rfl
    rw [e_52] at b_53
    have e_54 := e_38
    rw [show fI ws_32 0 11 = f_51 from e_52, show fI ws0 0 11 = f_1 from (Eq.trans rfl e_2)] at e_54
    have e_55 := e_39
    rw [show fI ws_32 0 6 = f_40 from (Eq.trans rfl e_41), show fI ws_32 0 7 = f_47 from (Eq.trans rfl e_48)] at e_55
    replace HE : FT = g7c_X12_goesIn (xso SM ad ws_32) := HE.trans (by rw [e_35]; rfl)
    refine lv_aload_n C0.1 C0.2.1 dX12_goesIn_22 rfl (lv_at hl 0 rfl) ?_
    refine ng_X12_wrong C0 h kSM_0 q_1449 dX12_goesIn_23 (fun v_56 e_57 e_58 e_59 => ?_)
    have qh_60 : v_56.toInt = f_51.toInt := congrArg Int32.toInt (e_57.symm.trans (Eq.trans rfl e_52))
    replace HE : FT = g8b_X12_goesIn (xso SM ad ws_32) v_56.toInt := HE.trans (by rw [(xg0 e_57 : v_56.toInt = (xso SM ad ws_32) 0 0 11)]; rfl)
    refine y_if_ne (tgt := 33) C0 dX12_goesIn_26 (by decide) (fun c_61 => ?_) (fun c_61 => ?_)
    · -- 26
      replace HE : FT = g9_X12_goesIn (xso SM ad ws_32) := HE.trans (if_neg c_61)
      refine y_c1 (n := 0) C0 (by decide) dX12_goesIn_33 (fun v_62 e_63 => ?_)
      replace HE : FT = ((xso SM ad ws_32), v_62.toInt) := HE.trans (by rw [e_63]; rfl)
      rw [hQ]
      exact y_zret C0 h (o43_1 e_63) (o43_2 e_63) u_33 ⟨(congrArg Prod.fst (HE.symm.trans hFT)), (congrArg Prod.snd (HE.symm.trans hFT)), (o43_1 e_63), (o43_2 e_63), (by rw [show fI ws_32 0 9 = f_44 from (Eq.trans rfl e_45), show fI ws_32 0 6 = f_40 from (Eq.trans rfl e_41), show fI ws_32 0 7 = f_47 from (Eq.trans rfl e_48)] <;> exact (o43_89 b_6.1 b_6.2 b_9.1 b_9.2 pre0 pre1 b_42.1 b_42.2 e_43 b_49.1 b_49.2 e_50 e_55)), (by rw [show fI ws_32 0 6 = f_40 from (Eq.trans rfl e_41), show fI ws_32 0 7 = f_47 from (Eq.trans rfl e_48)] <;> exact (o43_90 b_6.1 b_6.2 b_9.1 b_9.2 pre0 pre1 b_42.1 b_42.2 e_43 b_49.1 b_49.2 e_50 e_55)), (by rw [show fI ws_32 0 11 = f_51 from (Eq.trans rfl e_52), show fI ws0 0 11 = f_1 from e_2, show fI ws0 0 7 = f_4 from e_5, show fI ws_32 0 6 = f_40 from (Eq.trans rfl e_41)] <;> exact (o43_91 b_6.1 b_6.2 b_9.1 b_9.2 pre0 pre1 qh_20 c_21 b_42.1 b_42.2 e_43 b_49.1 b_49.2 e_50 e_54 e_55 qh_60 c_61 e_63)), (by rw [show fI ws0 0 6 = f_7 from e_8, show fI ws_32 0 6 = f_40 from (Eq.trans rfl e_41)] <;> exact (o43_92 b_6.1 b_6.2 b_9.1 b_9.2 pre0 pre1 b_42.1 b_42.2 e_43 b_49.1 b_49.2 e_50 e_55))⟩ dX12_goesIn_34
    · -- 26
      replace HE : FT = g10_X12_goesIn (xso SM ad ws_32) := HE.trans (if_pos c_61)
      refine y_c1 (n := 1) C0 (by decide) dX12_goesIn_29 (fun v_64 e_65 => ?_)
      refine lv_goto (tgt := 34) C0.1 C0.2.1 dX12_goesIn_30 (by decide) ?_
      replace HE : FT = ((xso SM ad ws_32), v_64.toInt) := HE.trans (by rw [e_65]; rfl)
      rw [hQ]
      exact y_zret C0 h (o43_5 e_65) (o43_6 e_65) u_33 ⟨(congrArg Prod.fst (HE.symm.trans hFT)), (congrArg Prod.snd (HE.symm.trans hFT)), (o43_5 e_65), (o43_6 e_65), (by rw [show fI ws_32 0 9 = f_44 from (Eq.trans rfl e_45), show fI ws_32 0 6 = f_40 from (Eq.trans rfl e_41), show fI ws_32 0 7 = f_47 from (Eq.trans rfl e_48)] <;> exact (o43_89 b_6.1 b_6.2 b_9.1 b_9.2 pre0 pre1 b_42.1 b_42.2 e_43 b_49.1 b_49.2 e_50 e_55)), (by rw [show fI ws_32 0 6 = f_40 from (Eq.trans rfl e_41), show fI ws_32 0 7 = f_47 from (Eq.trans rfl e_48)] <;> exact (o43_90 b_6.1 b_6.2 b_9.1 b_9.2 pre0 pre1 b_42.1 b_42.2 e_43 b_49.1 b_49.2 e_50 e_55)), (by rw [show fI ws_32 0 11 = f_51 from (Eq.trans rfl e_52), show fI ws0 0 11 = f_1 from e_2, show fI ws0 0 7 = f_4 from e_5, show fI ws_32 0 6 = f_40 from (Eq.trans rfl e_41)] <;> exact (o43_93 b_6.1 b_6.2 b_9.1 b_9.2 pre0 pre1 qh_20 c_21 b_42.1 b_42.2 e_43 b_49.1 b_49.2 e_50 e_54 e_55 qh_60 c_61 e_65)), (by rw [show fI ws0 0 6 = f_7 from e_8, show fI ws_32 0 6 = f_40 from (Eq.trans rfl e_41)] <;> exact (o43_92 b_6.1 b_6.2 b_9.1 b_9.2 pre0 pre1 b_42.1 b_42.2 e_43 b_49.1 b_49.2 e_50 e_55))⟩ dX12_goesIn_34
noncomputable def g1c_X12_goesIn_6 (s : XS) : XR := (s, 0)
noncomputable def f_X12_goesIn_6 (s : XS) (a1 : Int) : XR := g1c_X12_goesIn_6 ((f_X12_fails s 4).1)
set_option maxHeartbeats 4000000 in
set_option maxRecDepth 100000 in
theorem c_X12_goesIn_6 (l : Launch) (G : GG) (Z : RZ) (ad : Nat → Nat) (ws0 : va_W) (hT : Ty G SM ad ws0) (a1 : Int32) (l1 : 6 ≤ a1.toInt) (u1 : a1.toInt ≤ 6) (pre0 : ((fI ws0 0 9).toInt = 24 ∨ (fI ws0 0 6).toInt < (fI ws0 0 7).toInt)) (pre1 : (fI ws0 0 6).toInt ≤ (fI ws0 0 7).toInt) : Mq l yX12_goesIn cX12_goesIn 2 (some .boolean) 2 G Z [.ref (ad 0), .int a1] ws0 (PI G SM ad [0] ws0 (fun r u => (xso SM ad u = (f_X12_goesIn_6 (xso SM ad ws0) a1.toInt).1) ∧ (r.toInt = (f_X12_goesIn_6 (xso SM ad ws0) a1.toInt).2) ∧ (0 ≤ r.toInt) ∧ (r.toInt ≤ 0) ∧ (((fI u 0 9).toInt = 24 ∨ (fI u 0 6).toInt < (fI u 0 7).toInt)) ∧ ((fI u 0 6).toInt ≤ (fI u 0 7).toInt) ∧ (¬ (fI u 0 11).toInt = 0) ∧ ((fI ws0 0 6).toInt ≤ (fI u 0 6).toInt))) := by
  refine Mq.start (by decide) (Nat.le_of_ble_eq_true rfl) ?_
  intro p e s m below meth c A ls C0 hZ h hl
  have hl : lv_has ls 2 [(0, .ref (ad 0)), (1, .int a1)] := hl
  have h : Wt G SM ad A s s.heap [] ws0 := ⟨h, hT⟩
  obtain ⟨args, hargs⟩ : ∃ z, z = ([.ref (ad 0), .int a1] : List Value).toArray := ⟨_, rfl⟩
  rw [← hargs] at C0 ⊢
  have C0 : Cx p s m args meth c RX12 cX12_goesIn 2 (some .boolean) := C0
  obtain ⟨Q, hQ⟩ : ∃ z, z = MQ below ((PI G SM ad [0] ws0 (fun r u => (xso SM ad u = (f_X12_goesIn_6 (xso SM ad ws0) a1.toInt).1) ∧ (r.toInt = (f_X12_goesIn_6 (xso SM ad ws0) a1.toInt).2) ∧ (0 ≤ r.toInt) ∧ (r.toInt ≤ 0) ∧ (((fI u 0 9).toInt = 24 ∨ (fI u 0 6).toInt < (fI u 0 7).toInt)) ∧ ((fI u 0 6).toInt ≤ (fI u 0 7).toInt) ∧ (¬ (fI u 0 11).toInt = 0) ∧ ((fI ws0 0 6).toInt ≤ (fI u 0 6).toInt))) A) args s 0 0 A := ⟨_, rfl⟩
  rw [← hQ]
  obtain ⟨FT, hFT⟩ : ∃ z, z = f_X12_goesIn_6 (xso SM ad ws0) a1.toInt := ⟨_, rfl⟩
  have HE : FT = f_X12_goesIn_6 (xso SM ad ws0) a1.toInt := hFT
  obtain ⟨f_1, e_2⟩ : ∃ v, fI ws0 0 6 = v := ⟨_, rfl⟩
  have b_3 := ty_fI (k := 6) h.2 kSM_0 rfl rfl
  rw [e_2] at b_3
  obtain ⟨f_4, e_5⟩ : ∃ v, fI ws0 0 9 = v := ⟨_, rfl⟩
  have b_6 := ty_fI (k := 9) h.2 kSM_0 rfl rfl
  rw [e_5] at b_6
  obtain ⟨f_7, e_8⟩ : ∃ v, fI ws0 0 7 = v := ⟨_, rfl⟩
  have b_9 := ty_fI (k := 7) h.2 kSM_0 rfl rfl
  rw [e_8] at b_9
  rw [show fI ws0 0 9 = f_4 from e_5, show fI ws0 0 6 = f_1 from e_2, show fI ws0 0 7 = f_7 from e_8] at pre0
  rw [show fI ws0 0 6 = f_1 from e_2, show fI ws0 0 7 = f_7 from e_8] at pre1
  refine lv_iload_n C0.1 C0.2.1 dX12_goesIn_0 rfl (lv_at hl 1 rfl) ?_
  refine y_c2 (n := 6) C0 (by decide) dX12_goesIn_1 (fun v_10 e_11 => ?_)
  refine y_icmp_ne (tgt := 11) C0 dX12_goesIn_3 (by decide) (fun c_12 => ((o43_94 l1 u1 e_11 c_12)).elim) (fun c_12 => ?_)
  refine lv_aload_n C0.1 C0.2.1 dX12_goesIn_6 rfl (lv_at hl 0 rfl) ?_
  refine y_c1 (n := 4) C0 (by decide) dX12_goesIn_7 (fun v_13 e_14 => ?_)
  refine y_cv h (y_rV (As := [.int v_13]) (rest := []) C0 hZ h (c_X12_fails l G Z ad _ h.2 v_13 (o43_95 e_14) (o43_96 e_14)) k_X12_fails q_1622 q_63 q_1620 kSM_0 rfl rfl rfl hl.1 rfl rfl (Nat.le_of_ble_eq_true rfl) dX12_goesIn_8 ⟨Nat.le_of_ble_eq_true rfl, Nat.le_of_ble_eq_true rfl⟩ ⟨Nat.le_of_ble_eq_true rfl, Nat.le_of_ble_eq_true rfl⟩) (fun H locs ws_15 h u_16 p_17 => ?_)
  obtain ⟨e_18, e_19, e_20, e_21, e_22⟩ := p_17
  obtain ⟨f_23, e_24⟩ : ∃ v, fI ws_15 0 6 = v := ⟨_, rfl⟩
  have b_25 := ty_fI (k := 6) h.2 kSM_0 rfl rfl
  rw [e_24] at b_25
  have e_26 := e_19
  rw [show fI ws_15 0 6 = f_23 from e_24, show fI ws0 0 6 = f_1 from (Eq.trans rfl e_2)] at e_26
  obtain ⟨f_27, e_28⟩ : ∃ v, fI ws_15 0 7 = v := ⟨_, rfl⟩
  have b_29 := ty_fI (k := 7) h.2 kSM_0 rfl rfl
  rw [e_28] at b_29
  have e_30 := e_20
  rw [show fI ws_15 0 7 = f_27 from e_28, show fI ws0 0 7 = f_7 from (Eq.trans rfl e_8)] at e_30
  obtain ⟨f_31, e_32⟩ : ∃ v, fI ws_15 0 9 = v := ⟨_, rfl⟩
  have b_33 := ty_fI (k := 9) h.2 kSM_0 rfl rfl
  rw [e_32] at b_33
  have e_34 := e_21
  rw [show fI ws_15 0 9 = f_31 from e_32, show fI ws0 0 9 = f_4 from (Eq.trans rfl e_5)] at e_34
  obtain ⟨f_35, e_36⟩ : ∃ v, fI ws_15 0 11 = v := ⟨_, rfl⟩
  have b_37 := ty_fI (k := 11) h.2 kSM_0 rfl rfl
  rw [e_36] at b_37
  have e_38 := e_22
  rw [show fI ws_15 0 11 = f_35 from e_36] at e_38
  replace HE : FT = g1c_X12_goesIn_6 (xso SM ad ws_15) := HE.trans (by rw [e_18, e_14]; rfl)
  refine lv_aload_n C0.1 C0.2.1 dX12_goesIn_11 rfl (lv_at hl 0 rfl) ?_
  refine ng_X12_wrong C0 h kSM_0 q_1449 dX12_goesIn_12 (fun v_39 e_40 e_41 e_42 => ?_)
  have qh_43 : v_39.toInt = f_35.toInt := congrArg Int32.toInt (e_40.symm.trans (Eq.trans rfl e_36))
  refine y_if_ne (tgt := 22) C0 dX12_goesIn_15 (by decide) (fun c_44 => ?_) (fun c_44 => ((o43_97 e_38 qh_43 c_44)).elim)
  refine lv_aload_n C0.1 C0.2.1 dX12_goesIn_22 rfl (lv_at hl 0 rfl) ?_
  refine ng_X12_wrong C0 h kSM_0 q_1449 dX12_goesIn_23 (fun v_45 e_46 e_47 e_48 => ?_)
  have qh_49 : v_45.toInt = f_35.toInt := congrArg Int32.toInt (e_46.symm.trans (Eq.trans rfl e_36))
  refine y_if_ne (tgt := 33) C0 dX12_goesIn_26 (by decide) (fun c_50 => ?_) (fun c_50 => ((o43_98 e_38 qh_43 c_44 qh_49 c_50)).elim)
  refine y_c1 (n := 0) C0 (by decide) dX12_goesIn_33 (fun v_51 e_52 => ?_)
  replace HE : FT = ((xso SM ad ws_15), v_51.toInt) := HE.trans (by rw [e_52]; rfl)
  rw [hQ]
  exact y_zret C0 h (o43_1 e_52) (o43_2 e_52) u_16 ⟨(congrArg Prod.fst (HE.symm.trans hFT)), (congrArg Prod.snd (HE.symm.trans hFT)), (o43_1 e_52), (o43_99 e_52), (by rw [show fI ws_15 0 9 = f_31 from (Eq.trans rfl e_32), show fI ws_15 0 6 = f_23 from (Eq.trans rfl e_24), show fI ws_15 0 7 = f_27 from (Eq.trans rfl e_28)] <;> exact (o43_100 b_3.1 b_3.2 b_9.1 b_9.2 pre0 pre1 b_25.1 b_25.2 e_26 b_29.1 b_29.2 e_30 e_34)), (by rw [show fI ws_15 0 6 = f_23 from (Eq.trans rfl e_24), show fI ws_15 0 7 = f_27 from (Eq.trans rfl e_28)] <;> exact (o43_101 b_3.1 b_3.2 b_9.1 b_9.2 pre0 pre1 b_25.1 b_25.2 e_26 b_29.1 b_29.2 e_30 e_34)), (by rw [show fI ws_15 0 11 = f_35 from (Eq.trans rfl e_36)] <;> exact (o43_102 e_38 qh_43 c_44 qh_49 c_50)), (by rw [show fI ws0 0 6 = f_1 from e_2, show fI ws_15 0 6 = f_23 from (Eq.trans rfl e_24)] <;> exact (o43_103 b_3.1 b_3.2 b_9.1 b_9.2 pre0 pre1 b_25.1 b_25.2 e_26 b_29.1 b_29.2 e_30 e_34))⟩ dX12_goesIn_34
