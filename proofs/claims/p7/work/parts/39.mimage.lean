theorem dX12_image_0 : decode cX12_image 0 = .ok (.aload_n 0, 1) := by decide +kernel
theorem dX12_image_1 : decode cX12_image 1 = .ok (.iconst 0, 1) := by decide +kernel
theorem dX12_image_2 : decode cX12_image 2 = .ok (.putfield 1, 3) := by decide +kernel
theorem dX12_image_5 : decode cX12_image 5 = .ok (.iload_n 1, 1) := by decide +kernel
theorem dX12_image_6 : decode cX12_image 6 = .ok (.i2l, 1) := by decide +kernel
theorem dX12_image_7 : decode cX12_image 7 = .ok (.lconst 0, 1) := by decide +kernel
theorem dX12_image_8 : decode cX12_image 8 = .ok (.lconst 1, 1) := by decide +kernel
theorem dX12_image_9 : decode cX12_image 9 = .ok (.invokestatic 161, 3) := by decide +kernel
theorem dX12_image_12 : decode cX12_image 12 = .ok (.ifCond .ne 6, 3) := by decide +kernel
theorem dX12_image_15 : decode cX12_image 15 = .ok (.bipush (-2), 2) := by decide +kernel
theorem dX12_image_17 : decode cX12_image 17 = .ok (.ireturn, 1) := by decide +kernel
theorem dX12_image_18 : decode cX12_image 18 = .ok (.iconst 0, 1) := by decide +kernel
theorem dX12_image_19 : decode cX12_image 19 = .ok (.istore_n 2, 1) := by decide +kernel
theorem dX12_image_20 : decode cX12_image 20 = .ok (.iload_n 2, 1) := by decide +kernel
theorem dX12_image_21 : decode cX12_image 21 = .ok (.sipush 1774, 3) := by decide +kernel
theorem dX12_image_24 : decode cX12_image 24 = .ok (.if_icmp .ge 29, 3) := by decide +kernel
theorem dX12_image_27 : decode cX12_image 27 = .ok (.aload_n 0, 1) := by decide +kernel
theorem dX12_image_28 : decode cX12_image 28 = .ok (.getfield 13, 3) := by decide +kernel
theorem dX12_image_31 : decode cX12_image 31 = .ok (.sipush 1774, 3) := by decide +kernel
theorem dX12_image_34 : decode cX12_image 34 = .ok (.iload_n 1, 1) := by decide +kernel
theorem dX12_image_35 : decode cX12_image 35 = .ok (.iconst 1, 1) := by decide +kernel
theorem dX12_image_36 : decode cX12_image 36 = .ok (.iadd, 1) := by decide +kernel
theorem dX12_image_37 : decode cX12_image 37 = .ok (.imul, 1) := by decide +kernel
theorem dX12_image_38 : decode cX12_image 38 = .ok (.iload_n 2, 1) := by decide +kernel
theorem dX12_image_39 : decode cX12_image 39 = .ok (.iadd, 1) := by decide +kernel
theorem dX12_image_40 : decode cX12_image 40 = .ok (.aload_n 0, 1) := by decide +kernel
theorem dX12_image_41 : decode cX12_image 41 = .ok (.getfield 13, 3) := by decide +kernel
theorem dX12_image_44 : decode cX12_image 44 = .ok (.iload_n 2, 1) := by decide +kernel
theorem dX12_image_45 : decode cX12_image 45 = .ok (.iaload, 1) := by decide +kernel
theorem dX12_image_46 : decode cX12_image 46 = .ok (.iastore, 1) := by decide +kernel
theorem dX12_image_47 : decode cX12_image 47 = .ok (.iinc 2 1, 3) := by decide +kernel
theorem dX12_image_50 : decode cX12_image 50 = .ok (.goto (-30), 3) := by decide +kernel
theorem dX12_image_53 : decode cX12_image 53 = .ok (.aload_n 0, 1) := by decide +kernel
theorem dX12_image_54 : decode cX12_image 54 = .ok (.getfield 17, 3) := by decide +kernel
theorem dX12_image_57 : decode cX12_image 57 = .ok (.iload_n 1, 1) := by decide +kernel
theorem dX12_image_58 : decode cX12_image 58 = .ok (.iconst 1, 1) := by decide +kernel
theorem dX12_image_59 : decode cX12_image 59 = .ok (.bastore, 1) := by decide +kernel
theorem dX12_image_60 : decode cX12_image 60 = .ok (.iconst 0, 1) := by decide +kernel
theorem dX12_image_61 : decode cX12_image 61 = .ok (.ireturn, 1) := by decide +kernel
theorem dX12_restore_0 : decode cX12_restore 0 = .ok (.aload_n 0, 1) := by decide +kernel
theorem dX12_restore_1 : decode cX12_restore 1 = .ok (.iconst 0, 1) := by decide +kernel
theorem dX12_restore_2 : decode cX12_restore 2 = .ok (.putfield 1, 3) := by decide +kernel
theorem dX12_restore_5 : decode cX12_restore 5 = .ok (.iload_n 1, 1) := by decide +kernel
theorem dX12_restore_6 : decode cX12_restore 6 = .ok (.i2l, 1) := by decide +kernel
theorem dX12_restore_7 : decode cX12_restore 7 = .ok (.lconst 0, 1) := by decide +kernel
theorem dX12_restore_8 : decode cX12_restore 8 = .ok (.lconst 1, 1) := by decide +kernel
theorem dX12_restore_9 : decode cX12_restore 9 = .ok (.invokestatic 161, 3) := by decide +kernel
theorem dX12_restore_12 : decode cX12_restore 12 = .ok (.ifCond .ne 6, 3) := by decide +kernel
theorem dX12_restore_15 : decode cX12_restore 15 = .ok (.bipush (-2), 2) := by decide +kernel
theorem dX12_restore_17 : decode cX12_restore 17 = .ok (.ireturn, 1) := by decide +kernel
theorem dX12_restore_18 : decode cX12_restore 18 = .ok (.aload_n 0, 1) := by decide +kernel
theorem dX12_restore_19 : decode cX12_restore 19 = .ok (.getfield 17, 3) := by decide +kernel
theorem dX12_restore_22 : decode cX12_restore 22 = .ok (.iload_n 1, 1) := by decide +kernel
theorem dX12_restore_23 : decode cX12_restore 23 = .ok (.baload, 1) := by decide +kernel
theorem dX12_restore_24 : decode cX12_restore 24 = .ok (.ifCond .ne 6, 3) := by decide +kernel
theorem dX12_restore_27 : decode cX12_restore 27 = .ok (.bipush (-5), 2) := by decide +kernel
theorem dX12_restore_29 : decode cX12_restore 29 = .ok (.ireturn, 1) := by decide +kernel
theorem dX12_restore_30 : decode cX12_restore 30 = .ok (.iconst 0, 1) := by decide +kernel
theorem dX12_restore_31 : decode cX12_restore 31 = .ok (.istore_n 2, 1) := by decide +kernel
theorem dX12_restore_32 : decode cX12_restore 32 = .ok (.iload_n 2, 1) := by decide +kernel
theorem dX12_restore_33 : decode cX12_restore 33 = .ok (.sipush 1774, 3) := by decide +kernel
theorem dX12_restore_36 : decode cX12_restore 36 = .ok (.if_icmp .ge 29, 3) := by decide +kernel
theorem dX12_restore_39 : decode cX12_restore 39 = .ok (.aload_n 0, 1) := by decide +kernel
theorem dX12_restore_40 : decode cX12_restore 40 = .ok (.getfield 13, 3) := by decide +kernel
theorem dX12_restore_43 : decode cX12_restore 43 = .ok (.iload_n 2, 1) := by decide +kernel
theorem dX12_restore_44 : decode cX12_restore 44 = .ok (.aload_n 0, 1) := by decide +kernel
theorem dX12_restore_45 : decode cX12_restore 45 = .ok (.getfield 13, 3) := by decide +kernel
theorem dX12_restore_48 : decode cX12_restore 48 = .ok (.sipush 1774, 3) := by decide +kernel
theorem dX12_restore_51 : decode cX12_restore 51 = .ok (.iload_n 1, 1) := by decide +kernel
theorem dX12_restore_52 : decode cX12_restore 52 = .ok (.iconst 1, 1) := by decide +kernel
theorem dX12_restore_53 : decode cX12_restore 53 = .ok (.iadd, 1) := by decide +kernel
theorem dX12_restore_54 : decode cX12_restore 54 = .ok (.imul, 1) := by decide +kernel
theorem dX12_restore_55 : decode cX12_restore 55 = .ok (.iload_n 2, 1) := by decide +kernel
theorem dX12_restore_56 : decode cX12_restore 56 = .ok (.iadd, 1) := by decide +kernel
theorem dX12_restore_57 : decode cX12_restore 57 = .ok (.iaload, 1) := by decide +kernel
theorem dX12_restore_58 : decode cX12_restore 58 = .ok (.iastore, 1) := by decide +kernel
theorem dX12_restore_59 : decode cX12_restore 59 = .ok (.iinc 2 1, 3) := by decide +kernel
theorem dX12_restore_62 : decode cX12_restore 62 = .ok (.goto (-30), 3) := by decide +kernel
theorem dX12_restore_65 : decode cX12_restore 65 = .ok (.aload_n 0, 1) := by decide +kernel
theorem dX12_restore_66 : decode cX12_restore 66 = .ok (.getfield 13, 3) := by decide +kernel
theorem dX12_restore_69 : decode cX12_restore 69 = .ok (.bipush 112, 2) := by decide +kernel
theorem dX12_restore_71 : decode cX12_restore 71 = .ok (.iconst 0, 1) := by decide +kernel
theorem dX12_restore_72 : decode cX12_restore 72 = .ok (.iastore, 1) := by decide +kernel
theorem dX12_restore_73 : decode cX12_restore 73 = .ok (.iconst 0, 1) := by decide +kernel
theorem dX12_restore_74 : decode cX12_restore 74 = .ok (.ireturn, 1) := by decide +kernel
theorem o39_1 {x0 : Int} (h0 : 0 ≤ x0) (h1 : x0 ≤ 1774) (h2 : 1774 - x0 < 0) : False := by omega
theorem o39_2 {x0 : Int} (h0 : x0 = 1774) : x0 = 1774 := by omega
theorem o39_3 {x0 x2 : Int} {x1 : Nat} (h0 : 0 ≤ x0) (h1 : x0 ≤ 1774) (h2 : 1774 - x0 < ((x1 + 1 : Nat) : Int)) (h3 : x2 = 1774) (h4 : x2 ≤ x0) : ¬ x0 < 1774 := by omega
theorem o39_4 {x0 x2 : Int} {x1 : Nat} (h0 : 0 ≤ x0) (h1 : x0 ≤ 1774) (h2 : 1774 - x0 < ((x1 + 1 : Nat) : Int)) (h3 : x2 = 1774) (h4 : x0 < x2) : x0 < 1774 := by omega
theorem o39_5 {x0 x2 : Int} {x1 : Nat} (h0 : 0 ≤ x0) (h1 : x0 ≤ 1774) (h2 : 1774 - x0 < ((x1 + 1 : Nat) : Int)) (h3 : x2 = 1774) (h4 : x2 ≤ x0) : x0 = 1774 := by omega
theorem o39_6 {x0 x1 x2 x3 x4 : Int} (h0 : x1 = x0) (h1 : x2 = 0) (h2 : x3 = 1) (h3 : 0 ≤ x4) (h4 : x4 ≤ 1) (h5 : ((x4 = 0 ∧ (x1 < x2 ∨ x3 < x1)) ∨ (x4 = 1 ∧ x2 ≤ x1 ∧ x1 ≤ x3))) (h6 : ¬ x4 = 0) : 0 ≤ x0 := by omega
theorem o39_7 {x0 x1 x2 x3 x4 : Int} (h0 : x1 = x0) (h1 : x2 = 0) (h2 : x3 = 1) (h3 : 0 ≤ x4) (h4 : x4 ≤ 1) (h5 : ((x4 = 0 ∧ (x1 < x2 ∨ x3 < x1)) ∨ (x4 = 1 ∧ x2 ≤ x1 ∧ x1 ≤ x3))) (h6 : ¬ x4 = 0) : x0 < (2 : Nat) := by omega
theorem o39_8 {x0 : Int} (h0 : x0 = 1) : 0 ≤ x0 := by omega
theorem o39_9 {x0 : Int} (h0 : x0 = 1) : x0 ≤ 1 := by omega
theorem o39_10 {x0 : Int} (h0 : x0 = 0) : (-2) ≤ x0 := by omega
theorem o39_11 {x0 : Int} (h0 : x0 = 0) : x0 ≤ 0 := by omega
theorem o39_12 {x0 x1 x2 x3 x4 x5 : Int} (h0 : x2 = x1) (h1 : x3 = 0) (h2 : x4 = 1) (h3 : 0 ≤ x5) (h4 : x5 ≤ 1) (h5 : ((x5 = 0 ∧ (x2 < x3 ∨ x4 < x2)) ∨ (x5 = 1 ∧ x3 ≤ x2 ∧ x2 ≤ x4))) (h6 : ¬ x5 = 0) (h7 : x0 = 0) : ((x0 = -2 ∧ (x1 < 0 ∨ 1 < x1)) ∨ (x0 = 0 ∧ 0 ≤ x1 ∧ x1 ≤ 1)) := by omega
theorem o39_13 {x0 x1 x2 x3 x4 x5 : Int} (h0 : x2 = x0) (h1 : x3 = 0) (h2 : x4 = 1) (h3 : 0 ≤ x5) (h4 : x5 ≤ 1) (h5 : ((x5 = 0 ∧ (x2 < x3 ∨ x4 < x2)) ∨ (x5 = 1 ∧ x3 ≤ x2 ∧ x2 ≤ x4))) (h6 : ¬ x5 = 0) (h7 : x1 = 1) (h8 : -2147483648 ≤ x0) (h9 : x0 ≤ 2147483647) (h10 : -2147483648 ≤ x1) (h11 : x1 ≤ 2147483647) (h12 : -2147483648 ≤ x5) (h13 : x5 ≤ 2147483647) : -2147483648 ≤ x0 + x1 := by omega
theorem o39_14 {x0 x1 x2 x3 x4 x5 : Int} (h0 : x2 = x0) (h1 : x3 = 0) (h2 : x4 = 1) (h3 : 0 ≤ x5) (h4 : x5 ≤ 1) (h5 : ((x5 = 0 ∧ (x2 < x3 ∨ x4 < x2)) ∨ (x5 = 1 ∧ x3 ≤ x2 ∧ x2 ≤ x4))) (h6 : ¬ x5 = 0) (h7 : x1 = 1) (h8 : -2147483648 ≤ x0) (h9 : x0 ≤ 2147483647) (h10 : -2147483648 ≤ x1) (h11 : x1 ≤ 2147483647) (h12 : -2147483648 ≤ x5) (h13 : x5 ≤ 2147483647) : x0 + x1 ≤ 2147483647 := by omega
theorem o39_15 {x0 x1 x2 x3 x4 x5 x6 : Int} (h0 : x1 = x2) (h1 : x3 = 0) (h2 : x4 = 1) (h3 : 0 ≤ x5) (h4 : x5 ≤ 1) (h5 : ((x5 = 0 ∧ (x1 < x3 ∨ x4 < x1)) ∨ (x5 = 1 ∧ x3 ≤ x1 ∧ x1 ≤ x4))) (h6 : ¬ x5 = 0) (h7 : x6 = 1) (h8 : x0 = x2 + x6) (h9 : -2147483648 ≤ x0) (h10 : x0 ≤ 2147483647) (h11 : -2147483648 ≤ x2) (h12 : x2 ≤ 2147483647) (h13 : -2147483648 ≤ x5) (h14 : x5 ≤ 2147483647) (h15 : -2147483648 ≤ x6) (h16 : x6 ≤ 2147483647) : -2147483648 ≤ 1774 * x0 := by omega
theorem o39_16 {x0 x1 x2 x3 x4 x5 x6 : Int} (h0 : x1 = x2) (h1 : x3 = 0) (h2 : x4 = 1) (h3 : 0 ≤ x5) (h4 : x5 ≤ 1) (h5 : ((x5 = 0 ∧ (x1 < x3 ∨ x4 < x1)) ∨ (x5 = 1 ∧ x3 ≤ x1 ∧ x1 ≤ x4))) (h6 : ¬ x5 = 0) (h7 : x6 = 1) (h8 : x0 = x2 + x6) (h9 : -2147483648 ≤ x0) (h10 : x0 ≤ 2147483647) (h11 : -2147483648 ≤ x2) (h12 : x2 ≤ 2147483647) (h13 : -2147483648 ≤ x5) (h14 : x5 ≤ 2147483647) (h15 : -2147483648 ≤ x6) (h16 : x6 ≤ 2147483647) : 1774 * x0 ≤ 2147483647 := by omega
theorem o39_17 {x0 x1 x2 x3 x4 x5 x6 x8 x9 x10 : Int} {x7 : Nat} (h0 : x2 = x3) (h1 : x4 = 0) (h2 : x5 = 1) (h3 : 0 ≤ x6) (h4 : x6 ≤ 1) (h5 : ((x6 = 0 ∧ (x2 < x4 ∨ x5 < x2)) ∨ (x6 = 1 ∧ x4 ≤ x2 ∧ x2 ≤ x5))) (h6 : ¬ x6 = 0) (h7 : 0 ≤ x1) (h8 : x1 ≤ 1774) (h9 : 1774 - x1 < ((x7 + 1 : Nat) : Int)) (h10 : x8 = 1774) (h11 : x1 < x8) (h12 : x9 = 1) (h13 : x10 = x3 + x9) (h14 : x0 = 1774 * x10) (h15 : -2147483648 ≤ x0) (h16 : x0 ≤ 2147483647) (h17 : -2147483648 ≤ x1) (h18 : x1 ≤ 2147483647) (h19 : -2147483648 ≤ x3) (h20 : x3 ≤ 2147483647) (h21 : -2147483648 ≤ x6) (h22 : x6 ≤ 2147483647) (h23 : -2147483648 ≤ x8) (h24 : x8 ≤ 2147483647) (h25 : -2147483648 ≤ x9) (h26 : x9 ≤ 2147483647) (h27 : -2147483648 ≤ x10) (h28 : x10 ≤ 2147483647) : -2147483648 ≤ x0 + x1 := by omega
theorem o39_18 {x0 x1 x2 x3 x4 x5 x6 x8 x9 x10 : Int} {x7 : Nat} (h0 : x2 = x3) (h1 : x4 = 0) (h2 : x5 = 1) (h3 : 0 ≤ x6) (h4 : x6 ≤ 1) (h5 : ((x6 = 0 ∧ (x2 < x4 ∨ x5 < x2)) ∨ (x6 = 1 ∧ x4 ≤ x2 ∧ x2 ≤ x5))) (h6 : ¬ x6 = 0) (h7 : 0 ≤ x1) (h8 : x1 ≤ 1774) (h9 : 1774 - x1 < ((x7 + 1 : Nat) : Int)) (h10 : x8 = 1774) (h11 : x1 < x8) (h12 : x9 = 1) (h13 : x10 = x3 + x9) (h14 : x0 = 1774 * x10) (h15 : -2147483648 ≤ x0) (h16 : x0 ≤ 2147483647) (h17 : -2147483648 ≤ x1) (h18 : x1 ≤ 2147483647) (h19 : -2147483648 ≤ x3) (h20 : x3 ≤ 2147483647) (h21 : -2147483648 ≤ x6) (h22 : x6 ≤ 2147483647) (h23 : -2147483648 ≤ x8) (h24 : x8 ≤ 2147483647) (h25 : -2147483648 ≤ x9) (h26 : x9 ≤ 2147483647) (h27 : -2147483648 ≤ x10) (h28 : x10 ≤ 2147483647) : x0 + x1 ≤ 2147483647 := by omega
theorem o39_19 {x0 x1 x2 x3 x4 x5 x7 x8 x9 x10 x11 : Int} {x6 : Nat} (h0 : x1 = x2) (h1 : x3 = 0) (h2 : x4 = 1) (h3 : 0 ≤ x5) (h4 : x5 ≤ 1) (h5 : ((x5 = 0 ∧ (x1 < x3 ∨ x4 < x1)) ∨ (x5 = 1 ∧ x3 ≤ x1 ∧ x1 ≤ x4))) (h6 : ¬ x5 = 0) (h7 : 0 ≤ x0) (h8 : x0 ≤ 1774) (h9 : 1774 - x0 < ((x6 + 1 : Nat) : Int)) (h10 : x7 = 1774) (h11 : x0 < x7) (h12 : x8 = 1) (h13 : x9 = x2 + x8) (h14 : x10 = 1774 * x9) (h15 : x11 = x10 + x0) : 0 ≤ x0 := by omega
theorem o39_20 {x0 x1 x2 x3 x4 x5 x7 x8 x9 x10 x11 : Int} {x6 : Nat} (h0 : x1 = x2) (h1 : x3 = 0) (h2 : x4 = 1) (h3 : 0 ≤ x5) (h4 : x5 ≤ 1) (h5 : ((x5 = 0 ∧ (x1 < x3 ∨ x4 < x1)) ∨ (x5 = 1 ∧ x3 ≤ x1 ∧ x1 ≤ x4))) (h6 : ¬ x5 = 0) (h7 : 0 ≤ x0) (h8 : x0 ≤ 1774) (h9 : 1774 - x0 < ((x6 + 1 : Nat) : Int)) (h10 : x7 = 1774) (h11 : x0 < x7) (h12 : x8 = 1) (h13 : x9 = x2 + x8) (h14 : x10 = 1774 * x9) (h15 : x11 = x10 + x0) : x0 < (5322 : Nat) := by omega
theorem o39_21 {x0 x1 x2 x3 x4 x5 x6 x8 x9 x10 x11 : Int} {x7 : Nat} (h0 : x1 = x2) (h1 : x3 = 0) (h2 : x4 = 1) (h3 : 0 ≤ x5) (h4 : x5 ≤ 1) (h5 : ((x5 = 0 ∧ (x1 < x3 ∨ x4 < x1)) ∨ (x5 = 1 ∧ x3 ≤ x1 ∧ x1 ≤ x4))) (h6 : ¬ x5 = 0) (h7 : 0 ≤ x6) (h8 : x6 ≤ 1774) (h9 : 1774 - x6 < ((x7 + 1 : Nat) : Int)) (h10 : x8 = 1774) (h11 : x6 < x8) (h12 : x9 = 1) (h13 : x10 = x2 + x9) (h14 : x11 = 1774 * x10) (h15 : x0 = x11 + x6) : 0 ≤ x0 := by omega
theorem o39_22 {x0 x1 x2 x3 x4 x5 x6 x8 x9 x10 x11 : Int} {x7 : Nat} (h0 : x1 = x2) (h1 : x3 = 0) (h2 : x4 = 1) (h3 : 0 ≤ x5) (h4 : x5 ≤ 1) (h5 : ((x5 = 0 ∧ (x1 < x3 ∨ x4 < x1)) ∨ (x5 = 1 ∧ x3 ≤ x1 ∧ x1 ≤ x4))) (h6 : ¬ x5 = 0) (h7 : 0 ≤ x6) (h8 : x6 ≤ 1774) (h9 : 1774 - x6 < ((x7 + 1 : Nat) : Int)) (h10 : x8 = 1774) (h11 : x6 < x8) (h12 : x9 = 1) (h13 : x10 = x2 + x9) (h14 : x11 = 1774 * x10) (h15 : x0 = x11 + x6) : x0 < (5322 : Nat) := by omega
theorem o39_23 {x0 x1 x2 x3 x4 x5 x6 x8 x9 x10 x11 : Int} {x7 : Nat} (h0 : x2 = x3) (h1 : x4 = 0) (h2 : x5 = 1) (h3 : 0 ≤ x6) (h4 : x6 ≤ 1) (h5 : ((x6 = 0 ∧ (x2 < x4 ∨ x5 < x2)) ∨ (x6 = 1 ∧ x4 ≤ x2 ∧ x2 ≤ x5))) (h6 : ¬ x6 = 0) (h7 : 0 ≤ x1) (h8 : x1 ≤ 1774) (h9 : 1774 - x1 < ((x7 + 1 : Nat) : Int)) (h10 : x8 = 1774) (h11 : x1 < x8) (h12 : x9 = 1) (h13 : x10 = x3 + x9) (h14 : x11 = 1774 * x10) (h15 : x0 = x11 + x1) : (x0).toNat = (x1).toNat + 1774 ∨ (x0).toNat = (x1).toNat + 3548 ∨ (x1).toNat = (x0).toNat + 1774 ∨ (x1).toNat = (x0).toNat + 3548 := by omega
theorem o39_24 {x0 x1 x2 x3 x4 x5 x7 x8 x9 x10 x11 : Int} {x6 : Nat} (h0 : x1 = x2) (h1 : x3 = 0) (h2 : x4 = 1) (h3 : 0 ≤ x5) (h4 : x5 ≤ 1) (h5 : ((x5 = 0 ∧ (x1 < x3 ∨ x4 < x1)) ∨ (x5 = 1 ∧ x3 ≤ x1 ∧ x1 ≤ x4))) (h6 : ¬ x5 = 0) (h7 : 0 ≤ x0) (h8 : x0 ≤ 1774) (h9 : 1774 - x0 < ((x6 + 1 : Nat) : Int)) (h10 : x7 = 1774) (h11 : x0 < x7) (h12 : x8 = 1) (h13 : x9 = x2 + x8) (h14 : x10 = 1774 * x9) (h15 : x11 = x10 + x0) (h16 : -2147483648 ≤ x0) (h17 : x0 ≤ 2147483647) (h18 : -2147483648 ≤ x2) (h19 : x2 ≤ 2147483647) (h20 : -2147483648 ≤ x5) (h21 : x5 ≤ 2147483647) (h22 : -2147483648 ≤ x7) (h23 : x7 ≤ 2147483647) (h24 : -2147483648 ≤ x8) (h25 : x8 ≤ 2147483647) (h26 : -2147483648 ≤ x9) (h27 : x9 ≤ 2147483647) (h28 : -2147483648 ≤ x10) (h29 : x10 ≤ 2147483647) (h30 : -2147483648 ≤ x11) (h31 : x11 ≤ 2147483647) : -2147483648 ≤ x0 + 1 := by omega
theorem o39_25 {x0 x1 x2 x3 x4 x5 x7 x8 x9 x10 x11 : Int} {x6 : Nat} (h0 : x1 = x2) (h1 : x3 = 0) (h2 : x4 = 1) (h3 : 0 ≤ x5) (h4 : x5 ≤ 1) (h5 : ((x5 = 0 ∧ (x1 < x3 ∨ x4 < x1)) ∨ (x5 = 1 ∧ x3 ≤ x1 ∧ x1 ≤ x4))) (h6 : ¬ x5 = 0) (h7 : 0 ≤ x0) (h8 : x0 ≤ 1774) (h9 : 1774 - x0 < ((x6 + 1 : Nat) : Int)) (h10 : x7 = 1774) (h11 : x0 < x7) (h12 : x8 = 1) (h13 : x9 = x2 + x8) (h14 : x10 = 1774 * x9) (h15 : x11 = x10 + x0) (h16 : -2147483648 ≤ x0) (h17 : x0 ≤ 2147483647) (h18 : -2147483648 ≤ x2) (h19 : x2 ≤ 2147483647) (h20 : -2147483648 ≤ x5) (h21 : x5 ≤ 2147483647) (h22 : -2147483648 ≤ x7) (h23 : x7 ≤ 2147483647) (h24 : -2147483648 ≤ x8) (h25 : x8 ≤ 2147483647) (h26 : -2147483648 ≤ x9) (h27 : x9 ≤ 2147483647) (h28 : -2147483648 ≤ x10) (h29 : x10 ≤ 2147483647) (h30 : -2147483648 ≤ x11) (h31 : x11 ≤ 2147483647) : x0 + 1 ≤ 2147483647 := by omega
theorem o39_26 {x0 x2 x3 x4 x5 x6 x7 x8 x9 x10 x11 x12 : Int} {x1 : Nat} (h0 : x2 = x3) (h1 : x4 = 0) (h2 : x5 = 1) (h3 : 0 ≤ x6) (h4 : x6 ≤ 1) (h5 : ((x6 = 0 ∧ (x2 < x4 ∨ x5 < x2)) ∨ (x6 = 1 ∧ x4 ≤ x2 ∧ x2 ≤ x5))) (h6 : ¬ x6 = 0) (h7 : 0 ≤ x7) (h8 : x7 ≤ 1774) (h9 : 1774 - x7 < ((x1 + 1 : Nat) : Int)) (h10 : x8 = 1774) (h11 : x7 < x8) (h12 : x9 = 1) (h13 : x10 = x3 + x9) (h14 : x11 = 1774 * x10) (h15 : x12 = x11 + x7) (h16 : x0 = x7 + 1) : 1774 - x0 < (x1 : Int) := by omega
theorem o39_27 {x0 x1 x2 x3 x4 x5 x6 x8 x9 x10 x11 x12 : Int} {x7 : Nat} (h0 : x1 = x2) (h1 : x3 = 0) (h2 : x4 = 1) (h3 : 0 ≤ x5) (h4 : x5 ≤ 1) (h5 : ((x5 = 0 ∧ (x1 < x3 ∨ x4 < x1)) ∨ (x5 = 1 ∧ x3 ≤ x1 ∧ x1 ≤ x4))) (h6 : ¬ x5 = 0) (h7 : 0 ≤ x6) (h8 : x6 ≤ 1774) (h9 : 1774 - x6 < ((x7 + 1 : Nat) : Int)) (h10 : x8 = 1774) (h11 : x6 < x8) (h12 : x9 = 1) (h13 : x10 = x2 + x9) (h14 : x11 = 1774 * x10) (h15 : x12 = x11 + x6) (h16 : x0 = x6 + 1) : 0 ≤ x0 := by omega
theorem o39_28 {x0 x1 x2 x3 x4 x5 x6 x8 x9 x10 x11 x12 : Int} {x7 : Nat} (h0 : x1 = x2) (h1 : x3 = 0) (h2 : x4 = 1) (h3 : 0 ≤ x5) (h4 : x5 ≤ 1) (h5 : ((x5 = 0 ∧ (x1 < x3 ∨ x4 < x1)) ∨ (x5 = 1 ∧ x3 ≤ x1 ∧ x1 ≤ x4))) (h6 : ¬ x5 = 0) (h7 : 0 ≤ x6) (h8 : x6 ≤ 1774) (h9 : 1774 - x6 < ((x7 + 1 : Nat) : Int)) (h10 : x8 = 1774) (h11 : x6 < x8) (h12 : x9 = 1) (h13 : x10 = x2 + x9) (h14 : x11 = 1774 * x10) (h15 : x12 = x11 + x6) (h16 : x0 = x6 + 1) : x0 ≤ 1774 := by omega
theorem o39_29 {x0 x1 x2 x3 x4 x5 x6 x8 x9 x10 x11 x12 : Int} {x7 : Nat} (h0 : x3 = x2) (h1 : x4 = 0) (h2 : x5 = 1) (h3 : 0 ≤ x6) (h4 : x6 ≤ 1) (h5 : ((x6 = 0 ∧ (x3 < x4 ∨ x5 < x3)) ∨ (x6 = 1 ∧ x4 ≤ x3 ∧ x3 ≤ x5))) (h6 : ¬ x6 = 0) (h7 : 0 ≤ x1) (h8 : x1 ≤ 1774) (h9 : 1774 - x1 < ((x7 + 1 : Nat) : Int)) (h10 : x8 = 1774) (h11 : x1 < x8) (h12 : x9 = 1) (h13 : x10 = x2 + x9) (h14 : x11 = 1774 * x10) (h15 : x0 = x11 + x1) (h16 : x12 = x1 + 1) : (x0).toNat = 1774 * ((x2).toNat + 1) + (x1).toNat := by omega
theorem o39_30 {x0 x1 x2 x3 x4 x5 x7 x8 x9 x10 x11 x12 : Int} {x6 : Nat} (h0 : x1 = x2) (h1 : x3 = 0) (h2 : x4 = 1) (h3 : 0 ≤ x5) (h4 : x5 ≤ 1) (h5 : ((x5 = 0 ∧ (x1 < x3 ∨ x4 < x1)) ∨ (x5 = 1 ∧ x3 ≤ x1 ∧ x1 ≤ x4))) (h6 : ¬ x5 = 0) (h7 : 0 ≤ x0) (h8 : x0 ≤ 1774) (h9 : 1774 - x0 < ((x6 + 1 : Nat) : Int)) (h10 : x7 = 1774) (h11 : x0 < x7) (h12 : x8 = 1) (h13 : x9 = x2 + x8) (h14 : x10 = 1774 * x9) (h15 : x11 = x10 + x0) (h16 : x12 = x0 + 1) : (x0).toNat = 0 + (x0).toNat := by omega
theorem o39_31 {x0 x1 x2 x3 x4 x5 x7 x8 x9 x10 x11 x12 : Int} {x6 : Nat} (h0 : x1 = x2) (h1 : x3 = 0) (h2 : x4 = 1) (h3 : 0 ≤ x5) (h4 : x5 ≤ 1) (h5 : ((x5 = 0 ∧ (x1 < x3 ∨ x4 < x1)) ∨ (x5 = 1 ∧ x3 ≤ x1 ∧ x1 ≤ x4))) (h6 : ¬ x5 = 0) (h7 : 0 ≤ x0) (h8 : x0 ≤ 1774) (h9 : 1774 - x0 < ((x6 + 1 : Nat) : Int)) (h10 : x7 = 1774) (h11 : x0 < x7) (h12 : x8 = 1) (h13 : x9 = x2 + x8) (h14 : x10 = 1774 * x9) (h15 : x11 = x10 + x0) (h16 : x12 = x0 + 1) : x0 < 1774 := by omega
theorem o39_32 {x0 x1 x2 x3 x4 x5 x7 x8 x9 x10 x11 x12 : Int} {x6 : Nat} (h0 : x1 = x2) (h1 : x3 = 0) (h2 : x4 = 1) (h3 : 0 ≤ x5) (h4 : x5 ≤ 1) (h5 : ((x5 = 0 ∧ (x1 < x3 ∨ x4 < x1)) ∨ (x5 = 1 ∧ x3 ≤ x1 ∧ x1 ≤ x4))) (h6 : ¬ x5 = 0) (h7 : 0 ≤ x0) (h8 : x0 ≤ 1774) (h9 : 1774 - x0 < ((x6 + 1 : Nat) : Int)) (h10 : x7 = 1774) (h11 : x0 < x7) (h12 : x8 = 1) (h13 : x9 = x2 + x8) (h14 : x10 = 1774 * x9) (h15 : x11 = x10 + x0) (h16 : x12 = x0 + 1) : 0 ≤ x0 := by omega
theorem o39_33 {x0 : Int} (h0 : x0 = 0) : 1774 - x0 < (((1774 - x0 + 1).toNat : Nat) : Int) := by omega
theorem o39_34 {x0 : Int} (h0 : x0 = 0) : 0 ≤ x0 := by omega
theorem o39_35 {x0 : Int} (h0 : x0 = 0) : x0 ≤ 1774 := by omega
theorem o39_36 {x0 : Int} (h0 : x0 = (-2)) : (-2) ≤ x0 := by omega
theorem o39_37 {x0 : Int} (h0 : x0 = (-2)) : x0 ≤ 0 := by omega
theorem o39_38 {x0 x1 x2 x3 x4 x5 : Int} (h0 : x2 = x1) (h1 : x3 = 0) (h2 : x4 = 1) (h3 : 0 ≤ x5) (h4 : x5 ≤ 1) (h5 : ((x5 = 0 ∧ (x2 < x3 ∨ x4 < x2)) ∨ (x5 = 1 ∧ x3 ≤ x2 ∧ x2 ≤ x4))) (h6 : x5 = 0) (h7 : x0 = (-2)) : ((x0 = -2 ∧ (x1 < 0 ∨ 1 < x1)) ∨ (x0 = 0 ∧ 0 ≤ x1 ∧ x1 ≤ 1)) := by omega
theorem o39_39 {x0 : Int} (h0 : x0 = 112) : 0 ≤ x0 := by omega
theorem o39_40 {x0 : Int} (h0 : x0 = 112) : x0 < (5322 : Nat) := by omega
theorem o39_41 : ∀ p, p < 113 → 112 ≤ p → (elAll p).1 ≤ 0 ∧ 10 ≤ (elAll p).2 := by decide +kernel
theorem o39_42 {x0 : Int} (h0 : x0 = 112) : (x0).toNat < 113 := by omega
theorem o39_43 {x0 : Int} (h0 : x0 = 112) : 112 ≤ (x0).toNat := by omega
theorem o39_44 {x0 : Int} (h0 : x0 = 0) : x0 ≤ 10 := by omega
theorem o39_45 {x0 : Int} (h0 : x0 = 112) : x0 = ((112 : Nat) : Int) := by omega
theorem o39_46 {x0 : Int} (h0 : x0 = 0) : (-5) ≤ x0 := by omega
theorem o39_47 {x0 : Int} (h0 : x0 = 112) : 10 ≤ x0 := by omega
theorem o39_48 {x0 : Int} (h0 : x0 = 112) : x0 ≤ 872 := by omega
theorem o39_49 {x0 x1 x2 x3 x4 x5 x6 x8 x9 x10 x11 : Int} {x7 : Nat} (h0 : x2 = x3) (h1 : x4 = 0) (h2 : x5 = 1) (h3 : 0 ≤ x6) (h4 : x6 ≤ 1) (h5 : ((x6 = 0 ∧ (x2 < x4 ∨ x5 < x2)) ∨ (x6 = 1 ∧ x4 ≤ x2 ∧ x2 ≤ x5))) (h6 : ¬ x6 = 0) (h7 : 0 ≤ x0) (h8 : x0 ≤ 1774) (h9 : 1774 - x0 < ((x7 + 1 : Nat) : Int)) (h10 : x8 = 1774) (h11 : x0 < x8) (h12 : x9 = 1) (h13 : x10 = x3 + x9) (h14 : x11 = 1774 * x10) (h15 : x1 = x11 + x0) : (x0).toNat = (x1).toNat + 1774 ∨ (x0).toNat = (x1).toNat + 3548 ∨ (x1).toNat = (x0).toNat + 1774 ∨ (x1).toNat = (x0).toNat + 3548 := by omega
theorem o39_50 {x0 : Int} (h0 : x0 = (-5)) : (-5) ≤ x0 := by omega
theorem o39_51 {x0 : Int} (h0 : x0 = (-5)) : x0 ≤ 0 := by omega
theorem o39_52 {x0 : Int} (h0 : x0 = (-2)) : (-5) ≤ x0 := by omega
noncomputable def g11w_X12_image (s : XS) : XR := (s, 0)
noncomputable def g9_X12_image (s : XS) (a1 : Int) : XR := g11w_X12_image (xup s 1 2 (Int.toNat a1) (1))
noncomputable def g12w_X12_image (R20 : XS → Int → Int → XR) (s : XS) (a1 : Int) (x2_23 : Int) : XR := R20 s a1 ((x2_23 + 1))
noncomputable def g10_X12_image (R20 : XS → Int → Int → XR) (s : XS) (a1 : Int) (x2_23 : Int) : XR := g12w_X12_image R20 (xup s 1 1 (Int.toNat ((1774 * (a1 + 1)) + x2_23)) ((s 1 1 (Int.toNat x2_23)))) a1 x2_23
noncomputable def g8b_X12_image (R20 : XS → Int → Int → XR) (s : XS) (x2_23 : Int) (a1 : Int) : XR := if x2_23 < 1774 then g10_X12_image R20 s a1 x2_23 else g9_X12_image s a1
noncomputable def g7l_X12_image (R20 : XS → Int → Int → XR) (s : XS) (a1 : Int) (x2_23 : Int) : XR := g8b_X12_image R20 s x2_23 a1
noncomputable def L6_X12_image (n : Nat) : XS → Int → Int → XR := Nat.rec (motive := fun _ => XS → Int → Int → XR) (fun s _ _ => (s, 0)) (fun _ R20 => g7l_X12_image R20) n
noncomputable def g4_X12_image (s : XS) (a1 : Int) : XR := L6_X12_image (Int.toNat (1774 - 0 + 1)) s a1 0
noncomputable def g5_X12_image (s : XS) : XR := (s, ((-2)))
noncomputable def g3b_X12_image (s : XS) (r_14 : Int) (a1 : Int) : XR := if r_14 = 0 then g5_X12_image s else g4_X12_image s a1
noncomputable def g2c_X12_image (s : XS) (r_14 : Int) (a1 : Int) : XR := g3b_X12_image s r_14 a1
noncomputable def g1w_X12_image (s : XS) (a1 : Int) : XR := g2c_X12_image ((f_X12_within s a1 0 1).1) (((f_X12_within s a1 0 1).2)) a1
noncomputable def f_X12_image (s : XS) (a1 : Int) : XR := g1w_X12_image (xup s 0 0 0 0) a1
set_option maxHeartbeats 4000000 in
set_option maxRecDepth 100000 in
theorem c_X12_image (l : Launch) (G : GG) (Z : RZ) (ad : Nat → Nat) (ws0 : va_W) (hT : Ty G SM ad ws0) (a1 : Int32) (hJ : J ws0) : Mq l yX12_image cX12_image 3 (some .int) 2 G Z [.ref (ad 0), .int a1] ws0 (PI G SM ad [0, 1, 2] ws0 (fun r u => (xso SM ad u = (f_X12_image (xso SM ad ws0) a1.toInt).1) ∧ (r.toInt = (f_X12_image (xso SM ad ws0) a1.toInt).2) ∧ ((-2) ≤ r.toInt) ∧ (r.toInt ≤ 0) ∧ (((r.toInt = -2 ∧ (a1.toInt < 0 ∨ 1 < a1.toInt)) ∨ (r.toInt = 0 ∧ 0 ≤ a1.toInt ∧ a1.toInt ≤ 1))) ∧ (J u))) := by
  refine Mq.start (by decide) (Nat.le_of_ble_eq_true rfl) ?_
  intro p e s m below meth c A ls C0 hZ h hl
  have hl : lv_has ls 3 [(0, .ref (ad 0)), (1, .int a1)] := hl
  have h : Wt G SM ad A s s.heap [] ws0 := ⟨h, hT⟩
  obtain ⟨args, hargs⟩ : ∃ z, z = ([.ref (ad 0), .int a1] : List Value).toArray := ⟨_, rfl⟩
  rw [← hargs] at C0 ⊢
  have C0 : Cx p s m args meth c RX12 cX12_image 3 (some .int) := C0
  obtain ⟨Q, hQ⟩ : ∃ z, z = MQ below ((PI G SM ad [0, 1, 2] ws0 (fun r u => (xso SM ad u = (f_X12_image (xso SM ad ws0) a1.toInt).1) ∧ (r.toInt = (f_X12_image (xso SM ad ws0) a1.toInt).2) ∧ ((-2) ≤ r.toInt) ∧ (r.toInt ≤ 0) ∧ (((r.toInt = -2 ∧ (a1.toInt < 0 ∨ 1 < a1.toInt)) ∨ (r.toInt = 0 ∧ 0 ≤ a1.toInt ∧ a1.toInt ≤ 1))) ∧ (J u))) A) args s 0 0 A := ⟨_, rfl⟩
  rw [← hQ]
  obtain ⟨FT, hFT⟩ : ∃ z, z = f_X12_image (xso SM ad ws0) a1.toInt := ⟨_, rfl⟩
  have HE : FT = f_X12_image (xso SM ad ws0) a1.toInt := hFT
  refine lv_aload_n C0.1 C0.2.1 dX12_image_0 rfl (lv_at hl 0 rfl) ?_
  refine y_c1 (n := 0) C0 (by decide) dX12_image_1 (fun v_1 e_2 => ?_)
  refine np_X12_thrown C0 h kSM_0 q_1438 (le_min v_1) (le_max v_1) dX12_image_2 (fun H locs ws_3 h u_4 Xu_4 => ?_)
  replace HE : FT = g1w_X12_image (xso SM ad ws_3) a1.toInt := HE.trans (by rw [Xu_4, e_2]; rfl)
  refine lv_iload_n C0.1 C0.2.1 dX12_image_5 rfl (lv_at hl 1 rfl) ?_
  refine y_i2l C0 dX12_image_6 (fun w_5 e_6 => ?_)
  refine y_lc (v := 0) C0 (by decide) dX12_image_7 (fun w_7 e_8 => ?_)
  refine y_lc (v := 1) C0 (by decide) dX12_image_8 (fun w_9 e_10 => ?_)
  refine y_ci h (y_rS (As := [.long w_5, .long w_7, .long w_9]) (rest := []) C0 hZ h (c_X12_within l G Z ad _ h.2 w_5 w_7 w_9) k_X12_within q_1580 q_1579 hl.1 rfl rfl (Nat.le_of_ble_eq_true rfl) dX12_image_9 ⟨Nat.le_of_ble_eq_true rfl, Nat.le_of_ble_eq_true rfl⟩ ⟨Nat.le_of_ble_eq_true rfl, Nat.le_of_ble_eq_true rfl⟩) (fun r_14 H locs ws_11 h u_12 p_13 => ?_)
  obtain ⟨e_15, e_16, e_17, e_18, e_19⟩ := p_13
  replace HE : FT = g2c_X12_image (xso SM ad ws_11) r_14.toInt a1.toInt := HE.trans (by rw [e_15, e_16, e_10, e_8, e_6]; rfl)
  replace HE : FT = g3b_X12_image (xso SM ad ws_11) r_14.toInt a1.toInt := HE.trans rfl
  refine y_if_ne (tgt := 18) C0 dX12_image_12 (by decide) (fun c_20 => ?_) (fun c_20 => ?_)
  · -- 12
    replace HE : FT = g4_X12_image (xso SM ad ws_11) a1.toInt := HE.trans (if_neg c_20)
    refine y_c1 (n := 0) C0 (by decide) dX12_image_18 (fun v_21 e_22 => ?_)
    refine lv_istore_n (lv' := [(2, .int v_21), (0, .ref (ad 0)), (1, .int a1)]) C0.1 C0.2.1 dX12_image_19 rfl hl (by decide) rfl (fun ls hl => ?_)
    have lp_26 : ∀ (n_28 : Nat) (x2_23 : Int32) (H : Heap) (locs : List Loc) (ls : Array Slot) (ws_24 : va_W), 1774 - x2_23.toInt < (n_28 : Int) → 0 ≤ x2_23.toInt → x2_23.toInt ≤ 1774 → (CpR ws0 ws_24 (1774 * (a1.toInt.toNat + 1)) 0 x2_23.toInt.toNat) → (FT = L6_X12_image n_28 (xso SM ad ws_24) a1.toInt x2_23.toInt) → Wt G SM ad A s H locs ws_24 → Fr SM [1] ws_11 ws_24 → lv_has ls 3 [(2, .int x2_23), (0, .ref (ad 0)), (1, .int a1)] → W p l e (rmd 2 0 0) s m args below meth c H locs 0 0 Q (F0 m 20 ls []) := by
      intro n_28
      induction n_28 with
      | zero => intro x2_23 H locs ls ws_24 hn_29 b_30 b_31 hCp HE h hF_25 hl; exact ((o39_1 b_30 b_31 hn_29)).elim
      | succ n_28 ih_27 =>
        intro x2_23 H locs ls ws_24 hn_29 b_30 b_31 hCp HE h hF_25 hl
        obtain ⟨R20, hR20⟩ : ∃ z, z = L6_X12_image n_28 := ⟨_, rfl⟩
        replace HE : FT = g7l_X12_image R20 (xso SM ad ws_24) a1.toInt x2_23.toInt := HE.trans (by rw [hR20]; rfl)
        refine lv_iload_n C0.1 C0.2.1 dX12_image_20 rfl (lv_at hl 0 rfl) ?_
        refine y_c3 (n := 1774) C0 (by decide) dX12_image_21 (fun v_32 e_33 => ?_)
        replace HE : FT = g8b_X12_image R20 (xso SM ad ws_24) x2_23.toInt a1.toInt := HE.trans rfl
        refine y_icmp_ge (tgt := 53) C0 dX12_image_24 (by decide) (fun c_34 => ?_) (fun c_34 => ?_)
        · -- 24
          replace HE : FT = g9_X12_image (xso SM ad ws_24) a1.toInt := HE.trans (if_neg (o39_3 b_30 b_31 hn_29 e_33 c_34))
          have hJ_35 : J ws_24 := J_cp hT hJ (cp_e (M := []) hCp (o39_5 b_30 b_31 hn_29 e_33 c_34) Fr.rf (by decide)) (by omega) (by omega)
          have hT_36 := h.2
          refine lv_aload_n C0.1 C0.2.1 dX12_image_53 rfl (lv_at hl 1 rfl) ?_
          refine ng_X12_hasImage C0 h kSM_0 q_1440 dX12_image_54 ?_
          refine lv_iload_n C0.1 C0.2.1 dX12_image_57 rfl (lv_at hl 2 rfl) ?_
          refine y_c1 (n := 1) C0 (by decide) dX12_image_58 (fun v_37 e_38 => ?_)
          have hO_41 := h.2
          refine y_zast C0 h kSM_2 rfl (by decide) (o39_6 e_6 e_8 e_10 e_17 e_18 e_19 c_20) (o39_7 e_6 e_8 e_10 e_17 e_18 e_19 c_20) (o39_8 e_38) (o39_9 e_38) (o39_8 e_38) (o39_9 e_38) dX12_image_59 (fun H locs ws_39 h u_40 => ?_)
          replace HE : FT = g11w_X12_image (xso SM ad ws_39) := HE.trans (by rw [(xso_A (i := 2) hO_41 h.2 kSM_2 rfl u_40), e_38]; rfl)
          refine y_c1 (n := 0) C0 (by decide) dX12_image_60 (fun v_42 e_43 => ?_)
          replace HE : FT = ((xso SM ad ws_39), v_42.toInt) := HE.trans (by rw [e_43]; rfl)
          rw [hQ]
          exact y_iret C0 h (Fr.tr (Fr.tr (Fr.tr (Fr.up u_4.1 kSM_0 (by decide)) (Fr.mono u_12 (by decide))) (Fr.mono hF_25 (by decide))) (Fr.up u_40.1 kSM_2 (by decide))) ⟨(congrArg Prod.fst (HE.symm.trans hFT)), (congrArg Prod.snd (HE.symm.trans hFT)), (o39_10 e_43), (o39_11 e_43), (o39_12 e_6 e_8 e_10 e_17 e_18 e_19 c_20 e_43), (J.pa hT_36 hJ_35 (Pa.ud u_40.1 (by decide)))⟩ dX12_image_61
        · -- 24
          replace HE : FT = g10_X12_image R20 (xso SM ad ws_24) a1.toInt x2_23.toInt := HE.trans (if_pos (o39_4 b_30 b_31 hn_29 e_33 c_34))
          refine lv_aload_n C0.1 C0.2.1 dX12_image_27 rfl (lv_at hl 1 rfl) ?_
          refine ng_X12_all C0 h kSM_0 q_1439 dX12_image_28 ?_
          refine y_c3 (n := 1774) C0 (by decide) dX12_image_31 (fun v_44 e_45 => ?_)
          refine lv_iload_n C0.1 C0.2.1 dX12_image_34 rfl (lv_at hl 2 rfl) ?_
          refine y_c1 (n := 1) C0 (by decide) dX12_image_35 (fun v_46 e_47 => ?_)
          refine y_add C0 (o39_13 e_6 e_8 e_10 e_17 e_18 e_19 c_20 e_47 (le_min a1) (le_max a1) (le_min v_46) (le_max v_46) (le_min r_14) (le_max r_14)) (o39_14 e_6 e_8 e_10 e_17 e_18 e_19 c_20 e_47 (le_min a1) (le_max a1) (le_min v_46) (le_max v_46) (le_min r_14) (le_max r_14)) dX12_image_36 (fun v_48 e_49 => ?_)
          refine y_cmul (n := 1774) C0 (o39_2 e_45) (o39_15 e_6 e_8 e_10 e_17 e_18 e_19 c_20 e_47 e_49 (le_min v_48) (le_max v_48) (le_min a1) (le_max a1) (le_min r_14) (le_max r_14) (le_min v_46) (le_max v_46)) (o39_16 e_6 e_8 e_10 e_17 e_18 e_19 c_20 e_47 e_49 (le_min v_48) (le_max v_48) (le_min a1) (le_max a1) (le_min r_14) (le_max r_14) (le_min v_46) (le_max v_46)) dX12_image_37 (fun v_50 e_51 => ?_)
          refine lv_iload_n C0.1 C0.2.1 dX12_image_38 rfl (lv_at hl 0 rfl) ?_
          refine y_add C0 (o39_17 e_6 e_8 e_10 e_17 e_18 e_19 c_20 b_30 b_31 hn_29 e_33 c_34 e_47 e_49 e_51 (le_min v_50) (le_max v_50) (le_min x2_23) (le_max x2_23) (le_min a1) (le_max a1) (le_min r_14) (le_max r_14) (le_min v_32) (le_max v_32) (le_min v_46) (le_max v_46) (le_min v_48) (le_max v_48)) (o39_18 e_6 e_8 e_10 e_17 e_18 e_19 c_20 b_30 b_31 hn_29 e_33 c_34 e_47 e_49 e_51 (le_min v_50) (le_max v_50) (le_min x2_23) (le_max x2_23) (le_min a1) (le_max a1) (le_min r_14) (le_max r_14) (le_min v_32) (le_max v_32) (le_min v_46) (le_max v_46) (le_min v_48) (le_max v_48)) dX12_image_39 (fun v_52 e_53 => ?_)
          refine lv_aload_n C0.1 C0.2.1 dX12_image_40 rfl (lv_at hl 1 rfl) ?_
          refine ng_X12_all C0 h kSM_0 q_1439 dX12_image_41 ?_
          refine lv_iload_n C0.1 C0.2.1 dX12_image_44 rfl (lv_at hl 0 rfl) ?_
          refine y_iald C0 h kSM_1 rfl (by decide) (o39_19 e_6 e_8 e_10 e_17 e_18 e_19 c_20 b_30 b_31 hn_29 e_33 c_34 e_47 e_49 e_51 e_53) (o39_20 e_6 e_8 e_10 e_17 e_18 e_19 c_20 b_30 b_31 hn_29 e_33 c_34 e_47 e_49 e_51 e_53) dX12_image_45 (fun v_54 e_55 e_56 e_57 => ?_)
          have hO_60 := h.2
          refine y_iast C0 h kSM_1 rfl (by decide) (o39_21 e_6 e_8 e_10 e_17 e_18 e_19 c_20 b_30 b_31 hn_29 e_33 c_34 e_47 e_49 e_51 e_53) (o39_22 e_6 e_8 e_10 e_17 e_18 e_19 c_20 b_30 b_31 hn_29 e_33 c_34 e_47 e_49 e_51 e_53) (el_lo (ec_im (o39_23 e_6 e_8 e_10 e_17 e_18 e_19 c_20 b_30 b_31 hn_29 e_33 c_34 e_47 e_49 e_51 e_53)) e_56) (el_hi (ec_im (o39_23 e_6 e_8 e_10 e_17 e_18 e_19 c_20 b_30 b_31 hn_29 e_33 c_34 e_47 e_49 e_51 e_53)) e_57) dX12_image_46 (fun H locs ws_58 h u_59 => ?_)
          replace HE : FT = g12w_X12_image R20 (xso SM ad ws_58) a1.toInt x2_23.toInt := HE.trans (by rw [(xso_A (i := 1) hO_60 h.2 kSM_1 rfl u_59), (xg1 e_55 : v_54.toInt = (xso SM ad ws_24) 1 1 x2_23.toInt.toNat), e_53, e_51, e_49, e_47]; rfl)
          refine y_inc (kp := 0) (n := 1) (fun v_61 => [(2, .int v_61), (0, .ref (ad 0)), (1, .int a1)]) C0 hl rfl (by decide) (by decide) (fun _ => rfl) (o39_24 e_6 e_8 e_10 e_17 e_18 e_19 c_20 b_30 b_31 hn_29 e_33 c_34 e_47 e_49 e_51 e_53 (le_min x2_23) (le_max x2_23) (le_min a1) (le_max a1) (le_min r_14) (le_max r_14) (le_min v_32) (le_max v_32) (le_min v_46) (le_max v_46) (le_min v_48) (le_max v_48) (le_min v_50) (le_max v_50) (le_min v_52) (le_max v_52)) (o39_25 e_6 e_8 e_10 e_17 e_18 e_19 c_20 b_30 b_31 hn_29 e_33 c_34 e_47 e_49 e_51 e_53 (le_min x2_23) (le_max x2_23) (le_min a1) (le_max a1) (le_min r_14) (le_max r_14) (le_min v_32) (le_max v_32) (le_min v_46) (le_max v_46) (le_min v_48) (le_max v_48) (le_min v_50) (le_max v_50) (le_min v_52) (le_max v_52)) dX12_image_47 (fun v_61 ls e_62 hl => ?_)
          refine lv_goto (tgt := 20) C0.1 C0.2.1 dX12_image_50 (by decide) ?_
          exact ih_27 v_61 _ _ _ _ (o39_26 e_6 e_8 e_10 e_17 e_18 e_19 c_20 b_30 b_31 hn_29 e_33 c_34 e_47 e_49 e_51 e_53 e_62) (o39_27 e_6 e_8 e_10 e_17 e_18 e_19 c_20 b_30 b_31 hn_29 e_33 c_34 e_47 e_49 e_51 e_53 e_62) (o39_28 e_6 e_8 e_10 e_17 e_18 e_19 c_20 b_30 b_31 hn_29 e_33 c_34 e_47 e_49 e_51 e_53 e_62) ((cp_s hCp u_59 (o39_29 e_6 e_8 e_10 e_17 e_18 e_19 c_20 b_30 b_31 hn_29 e_33 c_34 e_47 e_49 e_51 e_53 e_62) e_55 (o39_30 e_6 e_8 e_10 e_17 e_18 e_19 c_20 b_30 b_31 hn_29 e_33 c_34 e_47 e_49 e_51 e_53 e_62) (by omega) (o39_31 e_6 e_8 e_10 e_17 e_18 e_19 c_20 b_30 b_31 hn_29 e_33 c_34 e_47 e_49 e_51 e_53 e_62) (o39_32 e_6 e_8 e_10 e_17 e_18 e_19 c_20 b_30 b_31 hn_29 e_33 c_34 e_47 e_49 e_51 e_53 e_62) e_62)) (((show FT = R20 (xso SM ad ws_58) a1.toInt v_61.toInt from HE.trans (by rw [e_62]; rfl)).trans (by rw [hR20]))) h (Fr.tr hF_25 (Fr.up u_59.1 kSM_1 (by decide))) (lv_sub hl [0, 1, 2] rfl)
    exact lp_26 ((1774 - v_21.toInt + 1).toNat) v_21 _ _ _ _ (o39_33 e_22) (o39_34 e_22) (o39_35 e_22) ((cp_0 (M := [0]) e_22 (Fr.tr (Fr.up u_4.1 kSM_0 (by decide)) (Fr.mono u_12 (by decide))) (by decide))) ((show FT = L6_X12_image (Int.toNat (1774 - v_21.toInt + 1)) (xso SM ad ws_11) a1.toInt v_21.toInt from HE.trans (by rw [e_22]; rfl))) h Fr.rf (lv_sub hl [0, 1, 2] rfl)
  · -- 12
    replace HE : FT = g5_X12_image (xso SM ad ws_11) := HE.trans (if_pos c_20)
    refine y_c2 (n := (-2)) C0 (by decide) dX12_image_15 (fun v_63 e_64 => ?_)
    replace HE : FT = ((xso SM ad ws_11), v_63.toInt) := HE.trans (by rw [e_64]; rfl)
    rw [hQ]
    exact y_iret C0 h (Fr.tr (Fr.up u_4.1 kSM_0 (by decide)) (Fr.mono u_12 (by decide))) ⟨(congrArg Prod.fst (HE.symm.trans hFT)), (congrArg Prod.snd (HE.symm.trans hFT)), (o39_36 e_64), (o39_37 e_64), (o39_38 e_6 e_8 e_10 e_17 e_18 e_19 c_20 e_64), (J.pa hT hJ (Pa.fr (M := [0]) (Fr.tr (Fr.up u_4.1 kSM_0 (by decide)) (Fr.mono u_12 (by decide))) (by decide)))⟩ dX12_image_17
noncomputable def g14w_X12_restore (s : XS) : XR := (s, 0)
noncomputable def g12_X12_restore (s : XS) : XR := g14w_X12_restore (xup s 1 1 (Int.toNat 112) (0))
noncomputable def g15w_X12_restore (R32 : XS → Int → Int → XR) (s : XS) (a1 : Int) (x2_28 : Int) : XR := R32 s a1 ((x2_28 + 1))
noncomputable def g13_X12_restore (R32 : XS → Int → Int → XR) (s : XS) (a1 : Int) (x2_28 : Int) : XR := g15w_X12_restore R32 (xup s 1 1 (Int.toNat x2_28) ((s 1 1 (Int.toNat ((1774 * (a1 + 1)) + x2_28))))) a1 x2_28
noncomputable def g11b_X12_restore (R32 : XS → Int → Int → XR) (s : XS) (x2_28 : Int) (a1 : Int) : XR := if x2_28 < 1774 then g13_X12_restore R32 s a1 x2_28 else g12_X12_restore s
noncomputable def g10l_X12_restore (R32 : XS → Int → Int → XR) (s : XS) (a1 : Int) (x2_28 : Int) : XR := g11b_X12_restore R32 s x2_28 a1
noncomputable def L9_X12_restore (n : Nat) : XS → Int → Int → XR := Nat.rec (motive := fun _ => XS → Int → Int → XR) (fun s _ _ => (s, 0)) (fun _ R32 => g10l_X12_restore R32) n
noncomputable def g7_X12_restore (s : XS) (a1 : Int) : XR := L9_X12_restore (Int.toNat (1774 - 0 + 1)) s a1 0
noncomputable def g8_X12_restore (s : XS) : XR := (s, ((-5)))
noncomputable def g6b_X12_restore (s : XS) (v_21 : Int) (a1 : Int) : XR := if v_21 = 0 then g8_X12_restore s else g7_X12_restore s a1
noncomputable def g4_X12_restore (s : XS) (a1 : Int) : XR := g6b_X12_restore s ((s 1 2 (Int.toNat a1))) a1
noncomputable def g5_X12_restore (s : XS) : XR := (s, ((-2)))
noncomputable def g3b_X12_restore (s : XS) (r_14 : Int) (a1 : Int) : XR := if r_14 = 0 then g5_X12_restore s else g4_X12_restore s a1
noncomputable def g2c_X12_restore (s : XS) (r_14 : Int) (a1 : Int) : XR := g3b_X12_restore s r_14 a1
noncomputable def g1w_X12_restore (s : XS) (a1 : Int) : XR := g2c_X12_restore ((f_X12_within s a1 0 1).1) (((f_X12_within s a1 0 1).2)) a1
noncomputable def f_X12_restore (s : XS) (a1 : Int) : XR := g1w_X12_restore (xup s 0 0 0 0) a1
set_option maxHeartbeats 4000000 in
set_option maxRecDepth 100000 in
theorem c_X12_restore (l : Launch) (G : GG) (Z : RZ) (ad : Nat → Nat) (ws0 : va_W) (hT : Ty G SM ad ws0) (a1 : Int32) (hJ : J ws0) : Mq l yX12_restore cX12_restore 3 (some .int) 2 G Z [.ref (ad 0), .int a1] ws0 (PI G SM ad [0, 1] ws0 (fun r u => (xso SM ad u = (f_X12_restore (xso SM ad ws0) a1.toInt).1) ∧ (r.toInt = (f_X12_restore (xso SM ad ws0) a1.toInt).2) ∧ ((-5) ≤ r.toInt) ∧ (r.toInt ≤ 0) ∧ (J u))) := by
  refine Mq.start (by decide) (Nat.le_of_ble_eq_true rfl) ?_
  intro p e s m below meth c A ls C0 hZ h hl
  have hl : lv_has ls 3 [(0, .ref (ad 0)), (1, .int a1)] := hl
  have h : Wt G SM ad A s s.heap [] ws0 := ⟨h, hT⟩
  obtain ⟨args, hargs⟩ : ∃ z, z = ([.ref (ad 0), .int a1] : List Value).toArray := ⟨_, rfl⟩
  rw [← hargs] at C0 ⊢
  have C0 : Cx p s m args meth c RX12 cX12_restore 3 (some .int) := C0
  obtain ⟨Q, hQ⟩ : ∃ z, z = MQ below ((PI G SM ad [0, 1] ws0 (fun r u => (xso SM ad u = (f_X12_restore (xso SM ad ws0) a1.toInt).1) ∧ (r.toInt = (f_X12_restore (xso SM ad ws0) a1.toInt).2) ∧ ((-5) ≤ r.toInt) ∧ (r.toInt ≤ 0) ∧ (J u))) A) args s 0 0 A := ⟨_, rfl⟩
  rw [← hQ]
  obtain ⟨FT, hFT⟩ : ∃ z, z = f_X12_restore (xso SM ad ws0) a1.toInt := ⟨_, rfl⟩
  have HE : FT = f_X12_restore (xso SM ad ws0) a1.toInt := hFT
  refine lv_aload_n C0.1 C0.2.1 dX12_restore_0 rfl (lv_at hl 0 rfl) ?_
  refine y_c1 (n := 0) C0 (by decide) dX12_restore_1 (fun v_1 e_2 => ?_)
  refine np_X12_thrown C0 h kSM_0 q_1438 (le_min v_1) (le_max v_1) dX12_restore_2 (fun H locs ws_3 h u_4 Xu_4 => ?_)
  replace HE : FT = g1w_X12_restore (xso SM ad ws_3) a1.toInt := HE.trans (by rw [Xu_4, e_2]; rfl)
  refine lv_iload_n C0.1 C0.2.1 dX12_restore_5 rfl (lv_at hl 1 rfl) ?_
  refine y_i2l C0 dX12_restore_6 (fun w_5 e_6 => ?_)
  refine y_lc (v := 0) C0 (by decide) dX12_restore_7 (fun w_7 e_8 => ?_)
  refine y_lc (v := 1) C0 (by decide) dX12_restore_8 (fun w_9 e_10 => ?_)
  refine y_ci h (y_rS (As := [.long w_5, .long w_7, .long w_9]) (rest := []) C0 hZ h (c_X12_within l G Z ad _ h.2 w_5 w_7 w_9) k_X12_within q_1580 q_1579 hl.1 rfl rfl (Nat.le_of_ble_eq_true rfl) dX12_restore_9 ⟨Nat.le_of_ble_eq_true rfl, Nat.le_of_ble_eq_true rfl⟩ ⟨Nat.le_of_ble_eq_true rfl, Nat.le_of_ble_eq_true rfl⟩) (fun r_14 H locs ws_11 h u_12 p_13 => ?_)
  obtain ⟨e_15, e_16, e_17, e_18, e_19⟩ := p_13
  replace HE : FT = g2c_X12_restore (xso SM ad ws_11) r_14.toInt a1.toInt := HE.trans (by rw [e_15, e_16, e_10, e_8, e_6]; rfl)
  replace HE : FT = g3b_X12_restore (xso SM ad ws_11) r_14.toInt a1.toInt := HE.trans rfl
  refine y_if_ne (tgt := 18) C0 dX12_restore_12 (by decide) (fun c_20 => ?_) (fun c_20 => ?_)
  · -- 12
    replace HE : FT = g4_X12_restore (xso SM ad ws_11) a1.toInt := HE.trans (if_neg c_20)
    refine lv_aload_n C0.1 C0.2.1 dX12_restore_18 rfl (lv_at hl 0 rfl) ?_
    refine ng_X12_hasImage C0 h kSM_0 q_1440 dX12_restore_19 ?_
    refine lv_iload_n C0.1 C0.2.1 dX12_restore_22 rfl (lv_at hl 1 rfl) ?_
    refine y_zald C0 h kSM_2 rfl (by decide) (o39_6 e_6 e_8 e_10 e_17 e_18 e_19 c_20) (o39_7 e_6 e_8 e_10 e_17 e_18 e_19 c_20) dX12_restore_23 (fun v_21 e_22 e_23 e_24 => ?_)
    replace HE : FT = g6b_X12_restore (xso SM ad ws_11) v_21.toInt a1.toInt := HE.trans (by rw [(xg1 e_22 : v_21.toInt = (xso SM ad ws_11) 1 2 a1.toInt.toNat)]; rfl)
    refine y_if_ne (tgt := 30) C0 dX12_restore_24 (by decide) (fun c_25 => ?_) (fun c_25 => ?_)
    · -- 24
      replace HE : FT = g7_X12_restore (xso SM ad ws_11) a1.toInt := HE.trans (if_neg c_25)
      refine y_c1 (n := 0) C0 (by decide) dX12_restore_30 (fun v_26 e_27 => ?_)
      refine lv_istore_n (lv' := [(2, .int v_26), (0, .ref (ad 0)), (1, .int a1)]) C0.1 C0.2.1 dX12_restore_31 rfl hl (by decide) rfl (fun ls hl => ?_)
      have lp_31 : ∀ (n_33 : Nat) (x2_28 : Int32) (H : Heap) (locs : List Loc) (ls : Array Slot) (ws_29 : va_W), 1774 - x2_28.toInt < (n_33 : Int) → 0 ≤ x2_28.toInt → x2_28.toInt ≤ 1774 → (CpR ws0 ws_29 0 (1774 * (a1.toInt.toNat + 1)) x2_28.toInt.toNat) → (FT = L9_X12_restore n_33 (xso SM ad ws_29) a1.toInt x2_28.toInt) → Wt G SM ad A s H locs ws_29 → Fr SM [1] ws_11 ws_29 → lv_has ls 3 [(2, .int x2_28), (0, .ref (ad 0)), (1, .int a1)] → W p l e (rmd 2 0 0) s m args below meth c H locs 0 0 Q (F0 m 32 ls []) := by
        intro n_33
        induction n_33 with
        | zero => intro x2_28 H locs ls ws_29 hn_34 b_35 b_36 hCp HE h hF_30 hl; exact ((o39_1 b_35 b_36 hn_34)).elim
        | succ n_33 ih_32 =>
          intro x2_28 H locs ls ws_29 hn_34 b_35 b_36 hCp HE h hF_30 hl
          obtain ⟨R32, hR32⟩ : ∃ z, z = L9_X12_restore n_33 := ⟨_, rfl⟩
          replace HE : FT = g10l_X12_restore R32 (xso SM ad ws_29) a1.toInt x2_28.toInt := HE.trans (by rw [hR32]; rfl)
          refine lv_iload_n C0.1 C0.2.1 dX12_restore_32 rfl (lv_at hl 0 rfl) ?_
          refine y_c3 (n := 1774) C0 (by decide) dX12_restore_33 (fun v_37 e_38 => ?_)
          replace HE : FT = g11b_X12_restore R32 (xso SM ad ws_29) x2_28.toInt a1.toInt := HE.trans rfl
          refine y_icmp_ge (tgt := 65) C0 dX12_restore_36 (by decide) (fun c_39 => ?_) (fun c_39 => ?_)
          · -- 36
            replace HE : FT = g12_X12_restore (xso SM ad ws_29) := HE.trans (if_neg (o39_3 b_35 b_36 hn_34 e_38 c_39))
            have hJ_40 : J ws_29 := J_cp hT hJ (cp_e (M := []) hCp (o39_5 b_35 b_36 hn_34 e_38 c_39) Fr.rf (by decide)) (by omega) (by omega)
            have hT_41 := h.2
            refine lv_aload_n C0.1 C0.2.1 dX12_restore_65 rfl (lv_at hl 1 rfl) ?_
            refine ng_X12_all C0 h kSM_0 q_1439 dX12_restore_66 ?_
            refine y_c2 (n := 112) C0 (by decide) dX12_restore_69 (fun v_42 e_43 => ?_)
            refine y_c1 (n := 0) C0 (by decide) dX12_restore_71 (fun v_44 e_45 => ?_)
            have hO_48 := h.2
            have f_49 := o39_41 v_42.toInt.toNat (o39_42 e_43) (o39_43 e_43)
            refine y_iast C0 h kSM_1 rfl (by decide) (o39_39 e_43) (o39_40 e_43) (Int.le_trans f_49.1 (o39_34 e_45)) (Int.le_trans (o39_44 e_45) f_49.2) dX12_restore_72 (fun H locs ws_46 h u_47 => ?_)
            have e_50 : aI ws_46 1 112 = v_44 := (congrArg (aI ws_46 1) (ix_c (c := 112) (o39_45 e_43))).symm.trans u_47.2.1
            replace HE : FT = g14w_X12_restore (xso SM ad ws_46) := HE.trans (by rw [(xso_A (i := 1) hO_48 h.2 kSM_1 rfl u_47), e_45, e_43]; rfl)
            refine y_c1 (n := 0) C0 (by decide) dX12_restore_73 (fun v_51 e_52 => ?_)
            replace HE : FT = ((xso SM ad ws_46), v_51.toInt) := HE.trans (by rw [e_52]; rfl)
            rw [hQ]
            exact y_iret C0 h (Fr.tr (Fr.tr (Fr.tr (Fr.up u_4.1 kSM_0 (by decide)) (Fr.mono u_12 (by decide))) (Fr.mono hF_30 (by decide))) (Fr.up u_47.1 kSM_1 (by decide))) ⟨(congrArg Prod.fst (HE.symm.trans hFT)), (congrArg Prod.snd (HE.symm.trans hFT)), (o39_46 e_52), (o39_11 e_52), (J.pa hT_41 hJ_40 (Pa.st u_47 (o39_47 e_43) (o39_48 e_43)))⟩ dX12_restore_74
          · -- 36
            replace HE : FT = g13_X12_restore R32 (xso SM ad ws_29) a1.toInt x2_28.toInt := HE.trans (if_pos (o39_4 b_35 b_36 hn_34 e_38 c_39))
            refine lv_aload_n C0.1 C0.2.1 dX12_restore_39 rfl (lv_at hl 1 rfl) ?_
            refine ng_X12_all C0 h kSM_0 q_1439 dX12_restore_40 ?_
            refine lv_iload_n C0.1 C0.2.1 dX12_restore_43 rfl (lv_at hl 0 rfl) ?_
            refine lv_aload_n C0.1 C0.2.1 dX12_restore_44 rfl (lv_at hl 1 rfl) ?_
            refine ng_X12_all C0 h kSM_0 q_1439 dX12_restore_45 ?_
            refine y_c3 (n := 1774) C0 (by decide) dX12_restore_48 (fun v_53 e_54 => ?_)
            refine lv_iload_n C0.1 C0.2.1 dX12_restore_51 rfl (lv_at hl 2 rfl) ?_
            refine y_c1 (n := 1) C0 (by decide) dX12_restore_52 (fun v_55 e_56 => ?_)
            refine y_add C0 (o39_13 e_6 e_8 e_10 e_17 e_18 e_19 c_20 e_56 (le_min a1) (le_max a1) (le_min v_55) (le_max v_55) (le_min r_14) (le_max r_14)) (o39_14 e_6 e_8 e_10 e_17 e_18 e_19 c_20 e_56 (le_min a1) (le_max a1) (le_min v_55) (le_max v_55) (le_min r_14) (le_max r_14)) dX12_restore_53 (fun v_57 e_58 => ?_)
            refine y_cmul (n := 1774) C0 (o39_2 e_54) (o39_15 e_6 e_8 e_10 e_17 e_18 e_19 c_20 e_56 e_58 (le_min v_57) (le_max v_57) (le_min a1) (le_max a1) (le_min r_14) (le_max r_14) (le_min v_55) (le_max v_55)) (o39_16 e_6 e_8 e_10 e_17 e_18 e_19 c_20 e_56 e_58 (le_min v_57) (le_max v_57) (le_min a1) (le_max a1) (le_min r_14) (le_max r_14) (le_min v_55) (le_max v_55)) dX12_restore_54 (fun v_59 e_60 => ?_)
            refine lv_iload_n C0.1 C0.2.1 dX12_restore_55 rfl (lv_at hl 0 rfl) ?_
            refine y_add C0 (o39_17 e_6 e_8 e_10 e_17 e_18 e_19 c_20 b_35 b_36 hn_34 e_38 c_39 e_56 e_58 e_60 (le_min v_59) (le_max v_59) (le_min x2_28) (le_max x2_28) (le_min a1) (le_max a1) (le_min r_14) (le_max r_14) (le_min v_37) (le_max v_37) (le_min v_55) (le_max v_55) (le_min v_57) (le_max v_57)) (o39_18 e_6 e_8 e_10 e_17 e_18 e_19 c_20 b_35 b_36 hn_34 e_38 c_39 e_56 e_58 e_60 (le_min v_59) (le_max v_59) (le_min x2_28) (le_max x2_28) (le_min a1) (le_max a1) (le_min r_14) (le_max r_14) (le_min v_37) (le_max v_37) (le_min v_55) (le_max v_55) (le_min v_57) (le_max v_57)) dX12_restore_56 (fun v_61 e_62 => ?_)
            refine y_iald C0 h kSM_1 rfl (by decide) (o39_21 e_6 e_8 e_10 e_17 e_18 e_19 c_20 b_35 b_36 hn_34 e_38 c_39 e_56 e_58 e_60 e_62) (o39_22 e_6 e_8 e_10 e_17 e_18 e_19 c_20 b_35 b_36 hn_34 e_38 c_39 e_56 e_58 e_60 e_62) dX12_restore_57 (fun v_63 e_64 e_65 e_66 => ?_)
            have hO_69 := h.2
            refine y_iast C0 h kSM_1 rfl (by decide) (o39_19 e_6 e_8 e_10 e_17 e_18 e_19 c_20 b_35 b_36 hn_34 e_38 c_39 e_56 e_58 e_60 e_62) (o39_20 e_6 e_8 e_10 e_17 e_18 e_19 c_20 b_35 b_36 hn_34 e_38 c_39 e_56 e_58 e_60 e_62) (el_lo (ec_im (o39_49 e_6 e_8 e_10 e_17 e_18 e_19 c_20 b_35 b_36 hn_34 e_38 c_39 e_56 e_58 e_60 e_62)) e_65) (el_hi (ec_im (o39_49 e_6 e_8 e_10 e_17 e_18 e_19 c_20 b_35 b_36 hn_34 e_38 c_39 e_56 e_58 e_60 e_62)) e_66) dX12_restore_58 (fun H locs ws_67 h u_68 => ?_)
            replace HE : FT = g15w_X12_restore R32 (xso SM ad ws_67) a1.toInt x2_28.toInt := HE.trans (by rw [(xso_A (i := 1) hO_69 h.2 kSM_1 rfl u_68), (xg1 e_64 : v_63.toInt = (xso SM ad ws_29) 1 1 v_61.toInt.toNat), e_62, e_60, e_58, e_56]; rfl)
            refine y_inc (kp := 0) (n := 1) (fun v_70 => [(2, .int v_70), (0, .ref (ad 0)), (1, .int a1)]) C0 hl rfl (by decide) (by decide) (fun _ => rfl) (o39_24 e_6 e_8 e_10 e_17 e_18 e_19 c_20 b_35 b_36 hn_34 e_38 c_39 e_56 e_58 e_60 e_62 (le_min x2_28) (le_max x2_28) (le_min a1) (le_max a1) (le_min r_14) (le_max r_14) (le_min v_37) (le_max v_37) (le_min v_55) (le_max v_55) (le_min v_57) (le_max v_57) (le_min v_59) (le_max v_59) (le_min v_61) (le_max v_61)) (o39_25 e_6 e_8 e_10 e_17 e_18 e_19 c_20 b_35 b_36 hn_34 e_38 c_39 e_56 e_58 e_60 e_62 (le_min x2_28) (le_max x2_28) (le_min a1) (le_max a1) (le_min r_14) (le_max r_14) (le_min v_37) (le_max v_37) (le_min v_55) (le_max v_55) (le_min v_57) (le_max v_57) (le_min v_59) (le_max v_59) (le_min v_61) (le_max v_61)) dX12_restore_59 (fun v_70 ls e_71 hl => ?_)
            refine lv_goto (tgt := 32) C0.1 C0.2.1 dX12_restore_62 (by decide) ?_
            exact ih_32 v_70 _ _ _ _ (o39_26 e_6 e_8 e_10 e_17 e_18 e_19 c_20 b_35 b_36 hn_34 e_38 c_39 e_56 e_58 e_60 e_62 e_71) (o39_27 e_6 e_8 e_10 e_17 e_18 e_19 c_20 b_35 b_36 hn_34 e_38 c_39 e_56 e_58 e_60 e_62 e_71) (o39_28 e_6 e_8 e_10 e_17 e_18 e_19 c_20 b_35 b_36 hn_34 e_38 c_39 e_56 e_58 e_60 e_62 e_71) ((cp_s hCp u_68 (o39_30 e_6 e_8 e_10 e_17 e_18 e_19 c_20 b_35 b_36 hn_34 e_38 c_39 e_56 e_58 e_60 e_62 e_71) e_64 (o39_29 e_6 e_8 e_10 e_17 e_18 e_19 c_20 b_35 b_36 hn_34 e_38 c_39 e_56 e_58 e_60 e_62 e_71) (by omega) (o39_31 e_6 e_8 e_10 e_17 e_18 e_19 c_20 b_35 b_36 hn_34 e_38 c_39 e_56 e_58 e_60 e_62 e_71) (o39_32 e_6 e_8 e_10 e_17 e_18 e_19 c_20 b_35 b_36 hn_34 e_38 c_39 e_56 e_58 e_60 e_62 e_71) e_71)) (((show FT = R32 (xso SM ad ws_67) a1.toInt v_70.toInt from HE.trans (by rw [e_71]; rfl)).trans (by rw [hR32]))) h (Fr.tr hF_30 (Fr.up u_68.1 kSM_1 (by decide))) (lv_sub hl [0, 1, 2] rfl)
      exact lp_31 ((1774 - v_26.toInt + 1).toNat) v_26 _ _ _ _ (o39_33 e_27) (o39_34 e_27) (o39_35 e_27) ((cp_0 (M := [0]) e_27 (Fr.tr (Fr.up u_4.1 kSM_0 (by decide)) (Fr.mono u_12 (by decide))) (by decide))) ((show FT = L9_X12_restore (Int.toNat (1774 - v_26.toInt + 1)) (xso SM ad ws_11) a1.toInt v_26.toInt from HE.trans (by rw [e_27]; rfl))) h Fr.rf (lv_sub hl [0, 1, 2] rfl)
    · -- 24
      replace HE : FT = g8_X12_restore (xso SM ad ws_11) := HE.trans (if_pos c_25)
      refine y_c2 (n := (-5)) C0 (by decide) dX12_restore_27 (fun v_72 e_73 => ?_)
      replace HE : FT = ((xso SM ad ws_11), v_72.toInt) := HE.trans (by rw [e_73]; rfl)
      rw [hQ]
      exact y_iret C0 h (Fr.tr (Fr.up u_4.1 kSM_0 (by decide)) (Fr.mono u_12 (by decide))) ⟨(congrArg Prod.fst (HE.symm.trans hFT)), (congrArg Prod.snd (HE.symm.trans hFT)), (o39_50 e_73), (o39_51 e_73), (J.pa hT hJ (Pa.fr (M := [0]) (Fr.tr (Fr.up u_4.1 kSM_0 (by decide)) (Fr.mono u_12 (by decide))) (by decide)))⟩ dX12_restore_29
  · -- 12
    replace HE : FT = g5_X12_restore (xso SM ad ws_11) := HE.trans (if_pos c_20)
    refine y_c2 (n := (-2)) C0 (by decide) dX12_restore_15 (fun v_74 e_75 => ?_)
    replace HE : FT = ((xso SM ad ws_11), v_74.toInt) := HE.trans (by rw [e_75]; rfl)
    rw [hQ]
    exact y_iret C0 h (Fr.tr (Fr.up u_4.1 kSM_0 (by decide)) (Fr.mono u_12 (by decide))) ⟨(congrArg Prod.fst (HE.symm.trans hFT)), (congrArg Prod.snd (HE.symm.trans hFT)), (o39_52 e_75), (o39_37 e_75), (J.pa hT hJ (Pa.fr (M := [0]) (Fr.tr (Fr.up u_4.1 kSM_0 (by decide)) (Fr.mono u_12 (by decide))) (by decide)))⟩ dX12_restore_17
