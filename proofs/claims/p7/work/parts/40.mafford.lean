theorem dX12_affords_0 : decode cX12_affords 0 = .ok (.aload_n 0, 1) := by decide +kernel
theorem dX12_affords_1 : decode cX12_affords 1 = .ok (.iconst 0, 1) := by decide +kernel
theorem dX12_affords_2 : decode cX12_affords 2 = .ok (.putfield 1, 3) := by decide +kernel
theorem dX12_affords_5 : decode cX12_affords 5 = .ok (.aload_n 0, 1) := by decide +kernel
theorem dX12_affords_6 : decode cX12_affords 6 = .ok (.iload_n 1, 1) := by decide +kernel
theorem dX12_affords_7 : decode cX12_affords 7 = .ok (.i2l, 1) := by decide +kernel
theorem dX12_affords_8 : decode cX12_affords 8 = .ok (.invokevirtual 253, 3) := by decide +kernel
theorem dX12_affords_11 : decode cX12_affords 11 = .ok (.ifCond .ne 6, 3) := by decide +kernel
theorem dX12_affords_14 : decode cX12_affords 14 = .ok (.bipush (-2), 2) := by decide +kernel
theorem dX12_affords_16 : decode cX12_affords 16 = .ok (.ireturn, 1) := by decide +kernel
theorem dX12_affords_17 : decode cX12_affords 17 = .ok (.iconst 0, 1) := by decide +kernel
theorem dX12_affords_18 : decode cX12_affords 18 = .ok (.istore_n 2, 1) := by decide +kernel
theorem dX12_affords_19 : decode cX12_affords 19 = .ok (.iload_n 2, 1) := by decide +kernel
theorem dX12_affords_20 : decode cX12_affords 20 = .ok (.bipush 76, 2) := by decide +kernel
theorem dX12_affords_22 : decode cX12_affords 22 = .ok (.if_icmp .ge 24, 3) := by decide +kernel
theorem dX12_affords_25 : decode cX12_affords 25 = .ok (.aload_n 0, 1) := by decide +kernel
theorem dX12_affords_26 : decode cX12_affords 26 = .ok (.getfield 36, 3) := by decide +kernel
theorem dX12_affords_29 : decode cX12_affords 29 = .ok (.iload_n 2, 1) := by decide +kernel
theorem dX12_affords_30 : decode cX12_affords 30 = .ok (.aload_n 0, 1) := by decide +kernel
theorem dX12_affords_31 : decode cX12_affords 31 = .ok (.getfield 13, 3) := by decide +kernel
theorem dX12_affords_34 : decode cX12_affords 34 = .ok (.bipush 36, 2) := by decide +kernel
theorem dX12_affords_36 : decode cX12_affords 36 = .ok (.iload_n 2, 1) := by decide +kernel
theorem dX12_affords_37 : decode cX12_affords 37 = .ok (.iadd, 1) := by decide +kernel
theorem dX12_affords_38 : decode cX12_affords 38 = .ok (.iaload, 1) := by decide +kernel
theorem dX12_affords_39 : decode cX12_affords 39 = .ok (.iastore, 1) := by decide +kernel
theorem dX12_affords_40 : decode cX12_affords 40 = .ok (.iinc 2 1, 3) := by decide +kernel
theorem dX12_affords_43 : decode cX12_affords 43 = .ok (.goto (-24), 3) := by decide +kernel
theorem dX12_affords_46 : decode cX12_affords 46 = .ok (.iconst 0, 1) := by decide +kernel
theorem dX12_affords_47 : decode cX12_affords 47 = .ok (.istore_n 2, 1) := by decide +kernel
theorem dX12_affords_48 : decode cX12_affords 48 = .ok (.aload_n 0, 1) := by decide +kernel
theorem dX12_affords_49 : decode cX12_affords 49 = .ok (.iload_n 1, 1) := by decide +kernel
theorem dX12_affords_50 : decode cX12_affords 50 = .ok (.iconst 1, 1) := by decide +kernel
theorem dX12_affords_51 : decode cX12_affords 51 = .ok (.invokevirtual 325, 3) := by decide +kernel
theorem dX12_affords_54 : decode cX12_affords 54 = .ok (.ifCond .lt 9, 3) := by decide +kernel
theorem dX12_affords_57 : decode cX12_affords 57 = .ok (.iinc 2 1, 3) := by decide +kernel
theorem dX12_affords_60 : decode cX12_affords 60 = .ok (.goto (-12), 3) := by decide +kernel
theorem dX12_affords_63 : decode cX12_affords 63 = .ok (.iconst 0, 1) := by decide +kernel
theorem dX12_affords_64 : decode cX12_affords 64 = .ok (.istore_n 3, 1) := by decide +kernel
theorem dX12_affords_65 : decode cX12_affords 65 = .ok (.iload_n 3, 1) := by decide +kernel
theorem dX12_affords_66 : decode cX12_affords 66 = .ok (.bipush 76, 2) := by decide +kernel
theorem dX12_affords_68 : decode cX12_affords 68 = .ok (.if_icmp .ge 24, 3) := by decide +kernel
theorem dX12_affords_71 : decode cX12_affords 71 = .ok (.aload_n 0, 1) := by decide +kernel
theorem dX12_affords_72 : decode cX12_affords 72 = .ok (.getfield 13, 3) := by decide +kernel
theorem dX12_affords_75 : decode cX12_affords 75 = .ok (.bipush 36, 2) := by decide +kernel
theorem dX12_affords_77 : decode cX12_affords 77 = .ok (.iload_n 3, 1) := by decide +kernel
theorem dX12_affords_78 : decode cX12_affords 78 = .ok (.iadd, 1) := by decide +kernel
theorem dX12_affords_79 : decode cX12_affords 79 = .ok (.aload_n 0, 1) := by decide +kernel
theorem dX12_affords_80 : decode cX12_affords 80 = .ok (.getfield 36, 3) := by decide +kernel
theorem dX12_affords_83 : decode cX12_affords 83 = .ok (.iload_n 3, 1) := by decide +kernel
theorem dX12_affords_84 : decode cX12_affords 84 = .ok (.iaload, 1) := by decide +kernel
theorem dX12_affords_85 : decode cX12_affords 85 = .ok (.iastore, 1) := by decide +kernel
theorem dX12_affords_86 : decode cX12_affords 86 = .ok (.iinc 3 1, 3) := by decide +kernel
theorem dX12_affords_89 : decode cX12_affords 89 = .ok (.goto (-24), 3) := by decide +kernel
theorem dX12_affords_92 : decode cX12_affords 92 = .ok (.iload_n 2, 1) := by decide +kernel
theorem dX12_affords_93 : decode cX12_affords 93 = .ok (.ireturn, 1) := by decide +kernel
theorem o40_1 {x0 : Int} (h0 : 0 ≤ x0) (h1 : x0 ≤ 76) (h2 : 76 - x0 < 0) : False := by omega
theorem o40_2 {x0 : Int} (h0 : x0 = 76) : x0 = 76 := by omega
theorem o40_3 {x0 x2 : Int} {x1 : Nat} (h0 : 0 ≤ x0) (h1 : x0 ≤ 76) (h2 : 76 - x0 < ((x1 + 1 : Nat) : Int)) (h3 : x2 = 76) (h4 : x2 ≤ x0) : ¬ x0 < 76 := by omega
theorem o40_4 {x0 x2 : Int} {x1 : Nat} (h0 : 0 ≤ x0) (h1 : x0 ≤ 76) (h2 : 76 - x0 < ((x1 + 1 : Nat) : Int)) (h3 : x2 = 76) (h4 : x0 < x2) : x0 < 76 := by omega
theorem o40_5 {x0 x1 x2 : Int} (h0 : x1 = x0) (h1 : 0 ≤ x2) (h2 : x2 ≤ 1) (h3 : (x2 = 0 ∨ (0 ≤ x1 ∧ x1 ≤ 4))) (h4 : ¬ x2 = 0) : 0 ≤ x0 := by omega
theorem o40_6 {x0 x1 x2 : Int} (h0 : x1 = x0) (h1 : 0 ≤ x2) (h2 : x2 ≤ 1) (h3 : (x2 = 0 ∨ (0 ≤ x1 ∧ x1 ≤ 4))) (h4 : ¬ x2 = 0) : x0 ≤ 4 := by omega
theorem o40_7 {x0 : Int} (h0 : x0 = 1) : 1 ≤ x0 := by omega
theorem o40_8 {x0 : Int} (h0 : x0 = 1) : x0 ≤ 20 := by omega
theorem o40_9 {x0 x1 x2 : Int} (h0 : x1 = x2) (h1 : 0 ≤ x0) (h2 : x0 ≤ 1) (h3 : (x0 = 0 ∨ (0 ≤ x1 ∧ x1 ≤ 4))) (h4 : ¬ x0 = 0) : ¬ x0 = 0 := by omega
theorem o40_10 {x0 x1 x3 : Int} {x2 : Nat} (h0 : 0 ≤ x1) (h1 : x1 ≤ 76) (h2 : 76 - x1 < ((x2 + 1 : Nat) : Int)) (h3 : x3 = 76) (h4 : x1 < x3) (h5 : x0 = 36) (h6 : -2147483648 ≤ x0) (h7 : x0 ≤ 2147483647) (h8 : -2147483648 ≤ x1) (h9 : x1 ≤ 2147483647) (h10 : -2147483648 ≤ x3) (h11 : x3 ≤ 2147483647) : -2147483648 ≤ x0 + x1 := by omega
theorem o40_11 {x0 x1 x3 : Int} {x2 : Nat} (h0 : 0 ≤ x1) (h1 : x1 ≤ 76) (h2 : 76 - x1 < ((x2 + 1 : Nat) : Int)) (h3 : x3 = 76) (h4 : x1 < x3) (h5 : x0 = 36) (h6 : -2147483648 ≤ x0) (h7 : x0 ≤ 2147483647) (h8 : -2147483648 ≤ x1) (h9 : x1 ≤ 2147483647) (h10 : -2147483648 ≤ x3) (h11 : x3 ≤ 2147483647) : x0 + x1 ≤ 2147483647 := by omega
theorem o40_12 {x0 x2 x3 x4 : Int} {x1 : Nat} (h0 : 0 ≤ x0) (h1 : x0 ≤ 76) (h2 : 76 - x0 < ((x1 + 1 : Nat) : Int)) (h3 : x2 = 76) (h4 : x0 < x2) (h5 : x3 = 36) (h6 : x4 = x3 + x0) : 0 ≤ x0 := by omega
theorem o40_13 {x0 x2 x3 x4 : Int} {x1 : Nat} (h0 : 0 ≤ x0) (h1 : x0 ≤ 76) (h2 : 76 - x0 < ((x1 + 1 : Nat) : Int)) (h3 : x2 = 76) (h4 : x0 < x2) (h5 : x3 = 36) (h6 : x4 = x3 + x0) : x0 < (76 : Nat) := by omega
theorem o40_14 {x0 x1 x3 x4 : Int} {x2 : Nat} (h0 : 0 ≤ x1) (h1 : x1 ≤ 76) (h2 : 76 - x1 < ((x2 + 1 : Nat) : Int)) (h3 : x3 = 76) (h4 : x1 < x3) (h5 : x4 = 36) (h6 : x0 = x4 + x1) : 0 ≤ x0 := by omega
theorem o40_15 {x0 x1 x3 x4 : Int} {x2 : Nat} (h0 : 0 ≤ x1) (h1 : x1 ≤ 76) (h2 : 76 - x1 < ((x2 + 1 : Nat) : Int)) (h3 : x3 = 76) (h4 : x1 < x3) (h5 : x4 = 36) (h6 : x0 = x4 + x1) : x0 < (5322 : Nat) := by omega
theorem o40_16 {x0 x1 x3 x4 : Int} {x2 : Nat} (h0 : 0 ≤ x1) (h1 : x1 ≤ 76) (h2 : 76 - x1 < ((x2 + 1 : Nat) : Int)) (h3 : x3 = 76) (h4 : x1 < x3) (h5 : x4 = 36) (h6 : x0 = x4 + x1) : (x0).toNat = 36 + (x1).toNat := by omega
theorem o40_17 {x0 x2 x3 x4 : Int} {x1 : Nat} (h0 : 0 ≤ x0) (h1 : x0 ≤ 76) (h2 : 76 - x0 < ((x1 + 1 : Nat) : Int)) (h3 : x2 = 76) (h4 : x0 < x2) (h5 : x3 = 36) (h6 : x4 = x3 + x0) : (x0).toNat < 76 := by omega
theorem o40_18 {x0 x1 x3 x4 : Int} {x2 : Nat} (h0 : 0 ≤ x1) (h1 : x1 ≤ 76) (h2 : 76 - x1 < ((x2 + 1 : Nat) : Int)) (h3 : x3 = 76) (h4 : x1 < x3) (h5 : x4 = 36) (h6 : x0 = x4 + x1) : (36 ≤ x0 ∨ x0 = 10) := by omega
theorem o40_19 {x0 x1 x3 x4 : Int} {x2 : Nat} (h0 : 0 ≤ x1) (h1 : x1 ≤ 76) (h2 : 76 - x1 < ((x2 + 1 : Nat) : Int)) (h3 : x3 = 76) (h4 : x1 < x3) (h5 : x4 = 36) (h6 : x0 = x4 + x1) : 10 ≤ x0 := by omega
theorem o40_20 {x0 x1 x3 x4 : Int} {x2 : Nat} (h0 : 0 ≤ x1) (h1 : x1 ≤ 76) (h2 : 76 - x1 < ((x2 + 1 : Nat) : Int)) (h3 : x3 = 76) (h4 : x1 < x3) (h5 : x4 = 36) (h6 : x0 = x4 + x1) : x0 ≤ 872 := by omega
theorem o40_21 {x0 x2 x3 x4 : Int} {x1 : Nat} (h0 : 0 ≤ x0) (h1 : x0 ≤ 76) (h2 : 76 - x0 < ((x1 + 1 : Nat) : Int)) (h3 : x2 = 76) (h4 : x0 < x2) (h5 : x3 = 36) (h6 : x4 = x3 + x0) (h7 : -2147483648 ≤ x0) (h8 : x0 ≤ 2147483647) (h9 : -2147483648 ≤ x2) (h10 : x2 ≤ 2147483647) (h11 : -2147483648 ≤ x3) (h12 : x3 ≤ 2147483647) (h13 : -2147483648 ≤ x4) (h14 : x4 ≤ 2147483647) : -2147483648 ≤ x0 + 1 := by omega
theorem o40_22 {x0 x2 x3 x4 : Int} {x1 : Nat} (h0 : 0 ≤ x0) (h1 : x0 ≤ 76) (h2 : 76 - x0 < ((x1 + 1 : Nat) : Int)) (h3 : x2 = 76) (h4 : x0 < x2) (h5 : x3 = 36) (h6 : x4 = x3 + x0) (h7 : -2147483648 ≤ x0) (h8 : x0 ≤ 2147483647) (h9 : -2147483648 ≤ x2) (h10 : x2 ≤ 2147483647) (h11 : -2147483648 ≤ x3) (h12 : x3 ≤ 2147483647) (h13 : -2147483648 ≤ x4) (h14 : x4 ≤ 2147483647) : x0 + 1 ≤ 2147483647 := by omega
theorem o40_23 {x0 x2 x3 x4 x5 : Int} {x1 : Nat} (h0 : 0 ≤ x2) (h1 : x2 ≤ 76) (h2 : 76 - x2 < ((x1 + 1 : Nat) : Int)) (h3 : x3 = 76) (h4 : x2 < x3) (h5 : x4 = 36) (h6 : x5 = x4 + x2) (h7 : x0 = x2 + 1) : 76 - x0 < (x1 : Int) := by omega
theorem o40_24 {x0 x1 x3 x4 x5 : Int} {x2 : Nat} (h0 : 0 ≤ x1) (h1 : x1 ≤ 76) (h2 : 76 - x1 < ((x2 + 1 : Nat) : Int)) (h3 : x3 = 76) (h4 : x1 < x3) (h5 : x4 = 36) (h6 : x5 = x4 + x1) (h7 : x0 = x1 + 1) : 0 ≤ x0 := by omega
theorem o40_25 {x0 x1 x3 x4 x5 : Int} {x2 : Nat} (h0 : 0 ≤ x1) (h1 : x1 ≤ 76) (h2 : 76 - x1 < ((x2 + 1 : Nat) : Int)) (h3 : x3 = 76) (h4 : x1 < x3) (h5 : x4 = 36) (h6 : x5 = x4 + x1) (h7 : x0 = x1 + 1) : x0 ≤ 76 := by omega
theorem o40_26 {x0 : Int} (h0 : x0 = 0) : 76 - x0 < (((76 - x0 + 1).toNat : Nat) : Int) := by omega
theorem o40_27 {x0 : Int} (h0 : x0 = 0) : 0 ≤ x0 := by omega
theorem o40_28 {x0 : Int} (h0 : x0 = 0) : x0 ≤ 76 := by omega
theorem o40_29 {x0 : Int} (h0 : 0 ≤ x0) : 0 ≤ x0 := by omega
theorem o40_30 {x0 : Int} (h0 : x0 = 1) : x0 = 1 := by omega
noncomputable def g20_X12_affords (s : XS) (x2_34 : Int) : XR := (s, x2_34)
noncomputable def g22w_X12_affords (R65 : XS → Int → Int → XR) (s : XS) (x2_34 : Int) (x3_55 : Int) : XR := R65 s x2_34 ((x3_55 + 1))
noncomputable def g21_X12_affords (R65 : XS → Int → Int → XR) (s : XS) (x2_34 : Int) (x3_55 : Int) : XR := g22w_X12_affords R65 (xup s 1 1 (Int.toNat (36 + x3_55)) ((s 1 7 (Int.toNat x3_55)))) x2_34 x3_55
noncomputable def g19b_X12_affords (R65 : XS → Int → Int → XR) (s : XS) (x3_55 : Int) (x2_34 : Int) : XR := if x3_55 < 76 then g21_X12_affords R65 s x2_34 x3_55 else g20_X12_affords s x2_34
noncomputable def g18l_X12_affords (R65 : XS → Int → Int → XR) (s : XS) (x2_34 : Int) (x3_55 : Int) : XR := g19b_X12_affords R65 s x3_55 x2_34
noncomputable def L17_X12_affords (n : Nat) : XS → Int → Int → XR := Nat.rec (motive := fun _ => XS → Int → Int → XR) (fun s _ _ => (s, 0)) (fun _ R65 => g18l_X12_affords R65) n
noncomputable def g15_X12_affords (s : XS) (x2_34 : Int) : XR := L17_X12_affords (Int.toNat (76 - 0 + 1)) s x2_34 0
noncomputable def g16_X12_affords (R48 : XS → Int → Int → XR) (s : XS) (a1 : Int) (x2_34 : Int) : XR := R48 s a1 ((Xiadd x2_34 1))
noncomputable def g14b_X12_affords (R48 : XS → Int → Int → XR) (s : XS) (r_46 : Int) (a1 : Int) (x2_34 : Int) : XR := if r_46 < 0 then g15_X12_affords s x2_34 else g16_X12_affords R48 s a1 x2_34
noncomputable def g13c_X12_affords (R48 : XS → Int → Int → XR) (s : XS) (r_46 : Int) (a1 : Int) (x2_34 : Int) : XR := g14b_X12_affords R48 s r_46 a1 x2_34
noncomputable def g12l_X12_affords (R48 : XS → Int → Int → XR) (s : XS) (a1 : Int) (x2_34 : Int) : XR := g13c_X12_affords R48 ((f_X12_boughtBy s a1 1).1) (((f_X12_boughtBy s a1 1).2)) a1 x2_34
noncomputable def L11_X12_affords (n : Nat) : XS → Int → Int → XR := Nat.rec (motive := fun _ => XS → Int → Int → XR) (fun s _ _ => (s, 0)) (fun _ R48 => g12l_X12_affords R48) n
noncomputable def g9_X12_affords (s : XS) (a1 : Int) : XR := L11_X12_affords (Int.toNat (99 - s 1 1 (46 + Int.toNat a1) + 1)) s a1 0
noncomputable def g23w_X12_affords (R19 : XS → Int → Int → XR) (s : XS) (a1 : Int) (x2_20 : Int) : XR := R19 s a1 ((x2_20 + 1))
noncomputable def g10_X12_affords (R19 : XS → Int → Int → XR) (s : XS) (a1 : Int) (x2_20 : Int) : XR := g23w_X12_affords R19 (xup s 1 7 (Int.toNat x2_20) ((s 1 1 (Int.toNat (36 + x2_20))))) a1 x2_20
noncomputable def g8b_X12_affords (R19 : XS → Int → Int → XR) (s : XS) (x2_20 : Int) (a1 : Int) : XR := if x2_20 < 76 then g10_X12_affords R19 s a1 x2_20 else g9_X12_affords s a1
noncomputable def g7l_X12_affords (R19 : XS → Int → Int → XR) (s : XS) (a1 : Int) (x2_20 : Int) : XR := g8b_X12_affords R19 s x2_20 a1
noncomputable def L6_X12_affords (n : Nat) : XS → Int → Int → XR := Nat.rec (motive := fun _ => XS → Int → Int → XR) (fun s _ _ => (s, 0)) (fun _ R19 => g7l_X12_affords R19) n
noncomputable def g4_X12_affords (s : XS) (a1 : Int) : XR := L6_X12_affords (Int.toNat (76 - 0 + 1)) s a1 0
noncomputable def g5_X12_affords (s : XS) : XR := (s, ((-2)))
noncomputable def g3b_X12_affords (s : XS) (r_10 : Int) (a1 : Int) : XR := if r_10 = 0 then g5_X12_affords s else g4_X12_affords s a1
noncomputable def g2c_X12_affords (s : XS) (r_10 : Int) (a1 : Int) : XR := g3b_X12_affords s r_10 a1
noncomputable def g1w_X12_affords (s : XS) (a1 : Int) : XR := g2c_X12_affords ((f_X12_isPerson s a1).1) (((f_X12_isPerson s a1).2)) a1
noncomputable def f_X12_affords (s : XS) (a1 : Int) : XR := g1w_X12_affords (xup s 0 0 0 0) a1
set_option maxHeartbeats 4000000 in
set_option maxRecDepth 100000 in
theorem c_X12_affords (l : Launch) (G : GG) (Z : RZ) (ad : Nat → Nat) (ws0 : va_W) (hT : Ty G SM ad ws0) (a1 : Int32) (hJ : J ws0) : Mq l yX12_affords cX12_affords 4 (some .int) 6 G Z [.ref (ad 0), .int a1] ws0 (PI G SM ad [0, 1, 5, 6, 7] ws0 (fun r u => (xso SM ad u = (f_X12_affords (xso SM ad ws0) a1.toInt).1) ∧ (r.toInt = (f_X12_affords (xso SM ad ws0) a1.toInt).2) ∧ (Pa ws0 u) ∧ (Pw ws0 u))) := by
  refine Mq.start (by decide) (Nat.le_of_ble_eq_true rfl) ?_
  intro p e s m below meth c A ls C0 hZ h hl
  have hl : lv_has ls 4 [(0, .ref (ad 0)), (1, .int a1)] := hl
  have h : Wt G SM ad A s s.heap [] ws0 := ⟨h, hT⟩
  obtain ⟨args, hargs⟩ : ∃ z, z = ([.ref (ad 0), .int a1] : List Value).toArray := ⟨_, rfl⟩
  rw [← hargs] at C0 ⊢
  have C0 : Cx p s m args meth c RX12 cX12_affords 4 (some .int) := C0
  obtain ⟨Q, hQ⟩ : ∃ z, z = MQ below ((PI G SM ad [0, 1, 5, 6, 7] ws0 (fun r u => (xso SM ad u = (f_X12_affords (xso SM ad ws0) a1.toInt).1) ∧ (r.toInt = (f_X12_affords (xso SM ad ws0) a1.toInt).2) ∧ (Pa ws0 u) ∧ (Pw ws0 u))) A) args s 0 0 A := ⟨_, rfl⟩
  rw [← hQ]
  obtain ⟨FT, hFT⟩ : ∃ z, z = f_X12_affords (xso SM ad ws0) a1.toInt := ⟨_, rfl⟩
  have HE : FT = f_X12_affords (xso SM ad ws0) a1.toInt := hFT
  refine lv_aload_n C0.1 C0.2.1 dX12_affords_0 rfl (lv_at hl 0 rfl) ?_
  refine y_c1 (n := 0) C0 (by decide) dX12_affords_1 (fun v_1 e_2 => ?_)
  refine np_X12_thrown C0 h kSM_0 q_1438 (le_min v_1) (le_max v_1) dX12_affords_2 (fun H locs ws_3 h u_4 Xu_4 => ?_)
  replace HE : FT = g1w_X12_affords (xso SM ad ws_3) a1.toInt := HE.trans (by rw [Xu_4, e_2]; rfl)
  refine lv_aload_n C0.1 C0.2.1 dX12_affords_5 rfl (lv_at hl 0 rfl) ?_
  refine lv_iload_n C0.1 C0.2.1 dX12_affords_6 rfl (lv_at hl 1 rfl) ?_
  refine y_i2l C0 dX12_affords_7 (fun w_5 e_6 => ?_)
  refine y_ci h (y_rV (As := [.long w_5]) (rest := []) C0 hZ h (c_X12_isPerson l G Z ad _ h.2 w_5 (J.pa hT hJ (Pa.ud u_4.1 (by decide)))) k_X12_isPerson q_1693 q_77 q_1691 kSM_0 rfl rfl rfl hl.1 rfl rfl (Nat.le_of_ble_eq_true rfl) dX12_affords_8 ⟨Nat.le_of_ble_eq_true rfl, Nat.le_of_ble_eq_true rfl⟩ ⟨Nat.le_of_ble_eq_true rfl, Nat.le_of_ble_eq_true rfl⟩) (fun r_10 H locs ws_7 h u_8 p_9 => ?_)
  obtain ⟨e_11, e_12, e_13, e_14, e_15, e_16⟩ := p_9
  replace HE : FT = g2c_X12_affords (xso SM ad ws_7) r_10.toInt a1.toInt := HE.trans (by rw [e_11, e_12, e_6]; rfl)
  replace HE : FT = g3b_X12_affords (xso SM ad ws_7) r_10.toInt a1.toInt := HE.trans rfl
  refine y_if_ne (tgt := 17) C0 dX12_affords_11 (by decide) (fun c_17 => ?_) (fun c_17 => ?_)
  · -- 11
    replace HE : FT = g4_X12_affords (xso SM ad ws_7) a1.toInt := HE.trans (if_neg c_17)
    refine y_c1 (n := 0) C0 (by decide) dX12_affords_17 (fun v_18 e_19 => ?_)
    refine lv_istore_n (lv' := [(2, .int v_18), (0, .ref (ad 0)), (1, .int a1)]) C0.1 C0.2.1 dX12_affords_18 rfl hl (by decide) rfl (fun ls hl => ?_)
    have lp_23 : ∀ (n_25 : Nat) (x2_20 : Int32) (H : Heap) (locs : List Loc) (ls : Array Slot) (ws_21 : va_W), 76 - x2_20.toInt < (n_25 : Int) → 0 ≤ x2_20.toInt → x2_20.toInt ≤ 76 → (FT = L6_X12_affords n_25 (xso SM ad ws_21) a1.toInt x2_20.toInt) → Wt G SM ad A s H locs ws_21 → Fr SM [7] ws_7 ws_21 → lv_has ls 4 [(2, .int x2_20), (0, .ref (ad 0)), (1, .int a1)] → W p l e (rmd 6 0 0) s m args below meth c H locs 0 0 Q (F0 m 19 ls []) := by
      intro n_25
      induction n_25 with
      | zero => intro x2_20 H locs ls ws_21 hn_26 b_27 b_28 HE h hF_22 hl; exact ((o40_1 b_27 b_28 hn_26)).elim
      | succ n_25 ih_24 =>
        intro x2_20 H locs ls ws_21 hn_26 b_27 b_28 HE h hF_22 hl
        obtain ⟨R19, hR19⟩ : ∃ z, z = L6_X12_affords n_25 := ⟨_, rfl⟩
        replace HE : FT = g7l_X12_affords R19 (xso SM ad ws_21) a1.toInt x2_20.toInt := HE.trans (by rw [hR19]; rfl)
        refine lv_iload_n C0.1 C0.2.1 dX12_affords_19 rfl (lv_at hl 0 rfl) ?_
        refine y_c2 (n := 76) C0 (by decide) dX12_affords_20 (fun v_29 e_30 => ?_)
        replace HE : FT = g8b_X12_affords R19 (xso SM ad ws_21) x2_20.toInt a1.toInt := HE.trans rfl
        refine y_icmp_ge (tgt := 46) C0 dX12_affords_22 (by decide) (fun c_31 => ?_) (fun c_31 => ?_)
        · -- 22
          replace HE : FT = g9_X12_affords (xso SM ad ws_21) a1.toInt := HE.trans (if_neg (o40_3 b_27 b_28 hn_26 e_30 c_31))
          refine y_c1 (n := 0) C0 (by decide) dX12_affords_46 (fun v_32 e_33 => ?_)
          refine lv_istore_n (lv' := [(2, .int v_32), (0, .ref (ad 0)), (1, .int a1)]) C0.1 C0.2.1 dX12_affords_47 rfl hl (by decide) rfl (fun ls hl => ?_)
          have lp_37 : ∀ (n_39 : Nat) (x2_34 : Int32) (H : Heap) (locs : List Loc) (ls : Array Slot) (ws_35 : va_W), 99 - (aI ws_35 1 (46 + a1.toInt.toNat)).toInt < (n_39 : Int) → (Pa ws_21 ws_35) → (Pw ws_21 ws_35) → (FT = L11_X12_affords n_39 (xso SM ad ws_35) a1.toInt x2_34.toInt) → Wt G SM ad A s H locs ws_35 → Fr SM [1, 5, 6] ws_21 ws_35 → lv_has ls 4 [(2, .int x2_34), (0, .ref (ad 0)), (1, .int a1)] → W p l e (rmd 6 0 0) s m args below meth c H locs 0 0 Q (F0 m 48 ls []) := by
            intro n_39
            induction n_39 with
            | zero => intro x2_34 H locs ls ws_35 hn_40 hPa_48 hPw_48 HE h hF_36 hl; exact (aff_0 h.2 (by omega) hn_40).elim
            | succ n_39 ih_38 =>
              intro x2_34 H locs ls ws_35 hn_40 hPa_48 hPw_48 HE h hF_36 hl
              obtain ⟨R48, hR48⟩ : ∃ z, z = L11_X12_affords n_39 := ⟨_, rfl⟩
              replace HE : FT = g12l_X12_affords R48 (xso SM ad ws_35) a1.toInt x2_34.toInt := HE.trans (by rw [hR48]; rfl)
              refine lv_aload_n C0.1 C0.2.1 dX12_affords_48 rfl (lv_at hl 1 rfl) ?_
              refine lv_iload_n C0.1 C0.2.1 dX12_affords_49 rfl (lv_at hl 2 rfl) ?_
              refine y_c1 (n := 1) C0 (by decide) dX12_affords_50 (fun v_41 e_42 => ?_)
              refine y_ci h (y_rV (As := [.int a1, .int v_41]) (rest := []) C0 hZ h (c_X12_boughtBy l G Z ad _ h.2 a1 v_41 (o40_5 e_6 e_13 e_14 e_15 c_17) (o40_6 e_6 e_13 e_14 e_15 c_17) (o40_7 e_42) (o40_8 e_42) (J.pa hT hJ (Pa.tr (Pa.tr (Pa.tr (Pa.ud u_4.1 (by decide)) (Pa.fr u_8 (by decide))) (Pa.fr hF_22 (by decide))) hPa_48)) (Laid.pa (Or.resolve_left e_16 (o40_9 e_6 e_13 e_14 e_15 c_17)) (Pa.tr (Pa.tr (Pa.fr u_8 (by decide)) (Pa.fr hF_22 (by decide))) hPa_48))) k_X12_boughtBy q_1816 q_94 q_1814 kSM_0 rfl rfl rfl hl.1 rfl rfl (Nat.le_of_ble_eq_true rfl) dX12_affords_51 ⟨Nat.le_of_ble_eq_true rfl, Nat.le_of_ble_eq_true rfl⟩ ⟨Nat.le_of_ble_eq_true rfl, Nat.le_of_ble_eq_true rfl⟩) (fun r_46 H locs ws_43 h u_44 p_45 => ?_)
              obtain ⟨e_47, e_48, e_49, e_50, e_51⟩ := p_45
              replace HE : FT = g13c_X12_affords R48 (xso SM ad ws_43) r_46.toInt a1.toInt x2_34.toInt := HE.trans (by rw [e_47, e_48, e_42]; rfl)
              replace HE : FT = g14b_X12_affords R48 (xso SM ad ws_43) r_46.toInt a1.toInt x2_34.toInt := HE.trans rfl
              refine y_if_lt (tgt := 63) C0 dX12_affords_54 (by decide) (fun c_52 => ?_) (fun c_52 => ?_)
              · -- 54
                replace HE : FT = g15_X12_affords (xso SM ad ws_43) x2_34.toInt := HE.trans (if_pos c_52)
                refine y_c1 (n := 0) C0 (by decide) dX12_affords_63 (fun v_53 e_54 => ?_)
                refine lv_istore_n (lv' := [(3, .int v_53), (2, .int x2_34), (0, .ref (ad 0)), (1, .int a1)]) C0.1 C0.2.1 dX12_affords_64 rfl hl (by decide) rfl (fun ls hl => ?_)
                have lp_58 : ∀ (n_60 : Nat) (x3_55 : Int32) (H : Heap) (locs : List Loc) (ls : Array Slot) (ws_56 : va_W), 76 - x3_55.toInt < (n_60 : Int) → 0 ≤ x3_55.toInt → x3_55.toInt ≤ 76 → (Pa ws_43 ws_56) → (Pw ws_43 ws_56) → (FT = L17_X12_affords n_60 (xso SM ad ws_56) x2_34.toInt x3_55.toInt) → Wt G SM ad A s H locs ws_56 → Fr SM [1] ws_43 ws_56 → lv_has ls 4 [(3, .int x3_55), (2, .int x2_34), (0, .ref (ad 0)), (1, .int a1)] → W p l e (rmd 6 0 0) s m args below meth c H locs 0 0 Q (F0 m 65 ls []) := by
                  intro n_60
                  induction n_60 with
                  | zero => intro x3_55 H locs ls ws_56 hn_61 b_62 b_63 hPa_65 hPw_65 HE h hF_57 hl; exact ((o40_1 b_62 b_63 hn_61)).elim
                  | succ n_60 ih_59 =>
                    intro x3_55 H locs ls ws_56 hn_61 b_62 b_63 hPa_65 hPw_65 HE h hF_57 hl
                    obtain ⟨R65, hR65⟩ : ∃ z, z = L17_X12_affords n_60 := ⟨_, rfl⟩
                    replace HE : FT = g18l_X12_affords R65 (xso SM ad ws_56) x2_34.toInt x3_55.toInt := HE.trans (by rw [hR65]; rfl)
                    refine lv_iload_n C0.1 C0.2.1 dX12_affords_65 rfl (lv_at hl 0 rfl) ?_
                    refine y_c2 (n := 76) C0 (by decide) dX12_affords_66 (fun v_64 e_65 => ?_)
                    replace HE : FT = g19b_X12_affords R65 (xso SM ad ws_56) x3_55.toInt x2_34.toInt := HE.trans rfl
                    refine y_icmp_ge (tgt := 92) C0 dX12_affords_68 (by decide) (fun c_66 => ?_) (fun c_66 => ?_)
                    · -- 68
                      replace HE : FT = g20_X12_affords (xso SM ad ws_56) x2_34.toInt := HE.trans (if_neg (o40_3 b_62 b_63 hn_61 e_65 c_66))
                      refine lv_iload_n C0.1 C0.2.1 dX12_affords_92 rfl (lv_at hl 1 rfl) ?_
                      replace HE : FT = ((xso SM ad ws_56), x2_34.toInt) := HE.trans rfl
                      rw [hQ]
                      exact y_iret C0 h (Fr.tr (Fr.tr (Fr.tr (Fr.tr (Fr.tr (Fr.up u_4.1 kSM_0 (by decide)) (Fr.mono u_8 (by decide))) (Fr.mono hF_22 (by decide))) (Fr.mono hF_36 (by decide))) (Fr.mono u_44 (by decide))) (Fr.mono hF_57 (by decide))) ⟨(congrArg Prod.fst (HE.symm.trans hFT)), (congrArg Prod.snd (HE.symm.trans hFT)), (Pa.tr (Pa.tr (Pa.tr (Pa.tr (Pa.tr (Pa.ud u_4.1 (by decide)) (Pa.fr u_8 (by decide))) (Pa.fr hF_22 (by decide))) hPa_48) e_50) hPa_65), (Pw.tr (Pw.tr (Pw.tr (Pw.tr (Pw.tr (Pw.ud u_4.1 (by decide)) (Pw.fr u_8 (by decide))) (Pw.fr hF_22 (by decide))) hPw_48) e_51) hPw_65)⟩ dX12_affords_93
                    · -- 68
                      replace HE : FT = g21_X12_affords R65 (xso SM ad ws_56) x2_34.toInt x3_55.toInt := HE.trans (if_pos (o40_4 b_62 b_63 hn_61 e_65 c_66))
                      refine lv_aload_n C0.1 C0.2.1 dX12_affords_71 rfl (lv_at hl 2 rfl) ?_
                      refine ng_X12_all C0 h kSM_0 q_1439 dX12_affords_72 ?_
                      refine y_c2 (n := 36) C0 (by decide) dX12_affords_75 (fun v_67 e_68 => ?_)
                      refine lv_iload_n C0.1 C0.2.1 dX12_affords_77 rfl (lv_at hl 0 rfl) ?_
                      refine y_add C0 (o40_10 b_62 b_63 hn_61 e_65 c_66 e_68 (le_min v_67) (le_max v_67) (le_min x3_55) (le_max x3_55) (le_min v_64) (le_max v_64)) (o40_11 b_62 b_63 hn_61 e_65 c_66 e_68 (le_min v_67) (le_max v_67) (le_min x3_55) (le_max x3_55) (le_min v_64) (le_max v_64)) dX12_affords_78 (fun v_69 e_70 => ?_)
                      refine lv_aload_n C0.1 C0.2.1 dX12_affords_79 rfl (lv_at hl 2 rfl) ?_
                      refine ng_X12_ahead C0 h kSM_0 q_1458 dX12_affords_80 ?_
                      refine lv_iload_n C0.1 C0.2.1 dX12_affords_83 rfl (lv_at hl 0 rfl) ?_
                      refine y_iald C0 h kSM_7 rfl (by decide) (o40_12 b_62 b_63 hn_61 e_65 c_66 e_68 e_70) (o40_13 b_62 b_63 hn_61 e_65 c_66 e_68 e_70) dX12_affords_84 (fun v_71 e_72 e_73 e_74 => ?_)
                      have hO_77 := h.2
                      refine y_iast C0 h kSM_1 rfl (by decide) (o40_14 b_62 b_63 hn_61 e_65 c_66 e_68 e_70) (o40_15 b_62 b_63 hn_61 e_65 c_66 e_68 e_70) (el_lo (Eq.symm (ec_wa (o40_16 b_62 b_63 hn_61 e_65 c_66 e_68 e_70) (o40_17 b_62 b_63 hn_61 e_65 c_66 e_68 e_70))) e_73) (el_hi (Eq.symm (ec_wa (o40_16 b_62 b_63 hn_61 e_65 c_66 e_68 e_70) (o40_17 b_62 b_63 hn_61 e_65 c_66 e_68 e_70))) e_74) dX12_affords_85 (fun H locs ws_75 h u_76 => ?_)
                      replace HE : FT = g22w_X12_affords R65 (xso SM ad ws_75) x2_34.toInt x3_55.toInt := HE.trans (by rw [(xso_A (i := 1) hO_77 h.2 kSM_1 rfl u_76), (xg1 e_72 : v_71.toInt = (xso SM ad ws_56) 1 7 x3_55.toInt.toNat), e_70, e_68]; rfl)
                      refine y_inc (kp := 0) (n := 1) (fun v_78 => [(3, .int v_78), (2, .int x2_34), (0, .ref (ad 0)), (1, .int a1)]) C0 hl rfl (by decide) (by decide) (fun _ => rfl) (o40_21 b_62 b_63 hn_61 e_65 c_66 e_68 e_70 (le_min x3_55) (le_max x3_55) (le_min v_64) (le_max v_64) (le_min v_67) (le_max v_67) (le_min v_69) (le_max v_69)) (o40_22 b_62 b_63 hn_61 e_65 c_66 e_68 e_70 (le_min x3_55) (le_max x3_55) (le_min v_64) (le_max v_64) (le_min v_67) (le_max v_67) (le_min v_69) (le_max v_69)) dX12_affords_86 (fun v_78 ls e_79 hl => ?_)
                      refine lv_goto (tgt := 65) C0.1 C0.2.1 dX12_affords_89 (by decide) ?_
                      exact ih_59 v_78 _ _ _ _ (o40_23 b_62 b_63 hn_61 e_65 c_66 e_68 e_70 e_79) (o40_24 b_62 b_63 hn_61 e_65 c_66 e_68 e_70 e_79) (o40_25 b_62 b_63 hn_61 e_65 c_66 e_68 e_70 e_79) ((Pa.tr hPa_65 (Pa.st u_76 (o40_19 b_62 b_63 hn_61 e_65 c_66 e_68 e_70) (o40_20 b_62 b_63 hn_61 e_65 c_66 e_68 e_70)))) ((Pw.tr hPw_65 (Pw.st u_76 (o40_18 b_62 b_63 hn_61 e_65 c_66 e_68 e_70)))) (((show FT = R65 (xso SM ad ws_75) x2_34.toInt v_78.toInt from HE.trans (by rw [e_79]; rfl)).trans (by rw [hR65]))) h (Fr.tr hF_57 (Fr.up u_76.1 kSM_1 (by decide))) (lv_sub hl [0, 1, 2, 3] rfl)
                exact lp_58 ((76 - v_53.toInt + 1).toNat) v_53 _ _ _ _ (o40_26 e_54) (o40_27 e_54) (o40_28 e_54) Pa.rf Pw.rf ((show FT = L17_X12_affords (Int.toNat (76 - v_53.toInt + 1)) (xso SM ad ws_43) x2_34.toInt v_53.toInt from HE.trans (by rw [e_54]; rfl))) h Fr.rf (lv_sub hl [0, 1, 2, 3] rfl)
              · -- 54
                replace HE : FT = g16_X12_affords R48 (xso SM ad ws_43) a1.toInt x2_34.toInt := HE.trans (if_neg (Int.not_lt.mpr c_52))
                refine xr_inc (kp := 0) (fun v_80 => [(2, .int v_80), (0, .ref (ad 0)), (1, .int a1)]) C0 hl rfl (by decide) (fun _ => rfl) dX12_affords_57 (fun v_80 ls e_81 hl => ?_)
                refine lv_goto (tgt := 48) C0.1 C0.2.1 dX12_affords_60 (by decide) ?_
                exact ih_38 v_80 _ _ _ _ (aff_s hn_40 e_49 (o40_29 c_52) (o40_30 e_42)) ((Pa.tr hPa_48 e_50)) ((Pw.tr hPw_48 e_51)) (((show FT = R48 (xso SM ad ws_43) a1.toInt v_80.toInt from HE.trans (by rw [e_81]; rfl)).trans (by rw [hR48]))) h (Fr.tr hF_36 u_44) (lv_sub hl [0, 1, 2] rfl)
          exact lp_37 ((99 - (aI ws_21 1 (46 + a1.toInt.toNat)).toInt + 1).toNat) v_32 _ _ _ _ (by omega) Pa.rf Pw.rf ((by have q := (show FT = L11_X12_affords (Int.toNat (99 - (xso SM ad ws_21) 1 1 (46 + Int.toNat a1.toInt) + 1)) (xso SM ad ws_21) a1.toInt v_32.toInt from HE.trans (by rw [e_33]; rfl)); rw [xso1] at q; exact q)) h Fr.rf (lv_sub hl [0, 1, 2] rfl)
        · -- 22
          replace HE : FT = g10_X12_affords R19 (xso SM ad ws_21) a1.toInt x2_20.toInt := HE.trans (if_pos (o40_4 b_27 b_28 hn_26 e_30 c_31))
          refine lv_aload_n C0.1 C0.2.1 dX12_affords_25 rfl (lv_at hl 1 rfl) ?_
          refine ng_X12_ahead C0 h kSM_0 q_1458 dX12_affords_26 ?_
          refine lv_iload_n C0.1 C0.2.1 dX12_affords_29 rfl (lv_at hl 0 rfl) ?_
          refine lv_aload_n C0.1 C0.2.1 dX12_affords_30 rfl (lv_at hl 1 rfl) ?_
          refine ng_X12_all C0 h kSM_0 q_1439 dX12_affords_31 ?_
          refine y_c2 (n := 36) C0 (by decide) dX12_affords_34 (fun v_82 e_83 => ?_)
          refine lv_iload_n C0.1 C0.2.1 dX12_affords_36 rfl (lv_at hl 0 rfl) ?_
          refine y_add C0 (o40_10 b_27 b_28 hn_26 e_30 c_31 e_83 (le_min v_82) (le_max v_82) (le_min x2_20) (le_max x2_20) (le_min v_29) (le_max v_29)) (o40_11 b_27 b_28 hn_26 e_30 c_31 e_83 (le_min v_82) (le_max v_82) (le_min x2_20) (le_max x2_20) (le_min v_29) (le_max v_29)) dX12_affords_37 (fun v_84 e_85 => ?_)
          refine y_iald C0 h kSM_1 rfl (by decide) (o40_14 b_27 b_28 hn_26 e_30 c_31 e_83 e_85) (o40_15 b_27 b_28 hn_26 e_30 c_31 e_83 e_85) dX12_affords_38 (fun v_86 e_87 e_88 e_89 => ?_)
          have hO_92 := h.2
          refine y_iast C0 h kSM_7 rfl (by decide) (o40_12 b_27 b_28 hn_26 e_30 c_31 e_83 e_85) (o40_13 b_27 b_28 hn_26 e_30 c_31 e_83 e_85) (el_lo (ec_wa (o40_16 b_27 b_28 hn_26 e_30 c_31 e_83 e_85) (o40_17 b_27 b_28 hn_26 e_30 c_31 e_83 e_85)) e_88) (el_hi (ec_wa (o40_16 b_27 b_28 hn_26 e_30 c_31 e_83 e_85) (o40_17 b_27 b_28 hn_26 e_30 c_31 e_83 e_85)) e_89) dX12_affords_39 (fun H locs ws_90 h u_91 => ?_)
          replace HE : FT = g23w_X12_affords R19 (xso SM ad ws_90) a1.toInt x2_20.toInt := HE.trans (by rw [(xso_A (i := 7) hO_92 h.2 kSM_7 rfl u_91), (xg1 e_87 : v_86.toInt = (xso SM ad ws_21) 1 1 v_84.toInt.toNat), e_85, e_83]; rfl)
          refine y_inc (kp := 0) (n := 1) (fun v_93 => [(2, .int v_93), (0, .ref (ad 0)), (1, .int a1)]) C0 hl rfl (by decide) (by decide) (fun _ => rfl) (o40_21 b_27 b_28 hn_26 e_30 c_31 e_83 e_85 (le_min x2_20) (le_max x2_20) (le_min v_29) (le_max v_29) (le_min v_82) (le_max v_82) (le_min v_84) (le_max v_84)) (o40_22 b_27 b_28 hn_26 e_30 c_31 e_83 e_85 (le_min x2_20) (le_max x2_20) (le_min v_29) (le_max v_29) (le_min v_82) (le_max v_82) (le_min v_84) (le_max v_84)) dX12_affords_40 (fun v_93 ls e_94 hl => ?_)
          refine lv_goto (tgt := 19) C0.1 C0.2.1 dX12_affords_43 (by decide) ?_
          exact ih_24 v_93 _ _ _ _ (o40_23 b_27 b_28 hn_26 e_30 c_31 e_83 e_85 e_94) (o40_24 b_27 b_28 hn_26 e_30 c_31 e_83 e_85 e_94) (o40_25 b_27 b_28 hn_26 e_30 c_31 e_83 e_85 e_94) (((show FT = R19 (xso SM ad ws_90) a1.toInt v_93.toInt from HE.trans (by rw [e_94]; rfl)).trans (by rw [hR19]))) h (Fr.tr hF_22 (Fr.up u_91.1 kSM_7 (by decide))) (lv_sub hl [0, 1, 2] rfl)
    exact lp_23 ((76 - v_18.toInt + 1).toNat) v_18 _ _ _ _ (o40_26 e_19) (o40_27 e_19) (o40_28 e_19) ((show FT = L6_X12_affords (Int.toNat (76 - v_18.toInt + 1)) (xso SM ad ws_7) a1.toInt v_18.toInt from HE.trans (by rw [e_19]; rfl))) h Fr.rf (lv_sub hl [0, 1, 2] rfl)
  · -- 11
    replace HE : FT = g5_X12_affords (xso SM ad ws_7) := HE.trans (if_pos c_17)
    refine y_c2 (n := (-2)) C0 (by decide) dX12_affords_14 (fun v_95 e_96 => ?_)
    replace HE : FT = ((xso SM ad ws_7), v_95.toInt) := HE.trans (by rw [e_96]; rfl)
    rw [hQ]
    exact y_iret C0 h (Fr.tr (Fr.up u_4.1 kSM_0 (by decide)) (Fr.mono u_8 (by decide))) ⟨(congrArg Prod.fst (HE.symm.trans hFT)), (congrArg Prod.snd (HE.symm.trans hFT)), (Pa.tr (Pa.ud u_4.1 (by decide)) (Pa.fr u_8 (by decide))), (Pw.tr (Pw.ud u_4.1 (by decide)) (Pw.fr u_8 (by decide)))⟩ dX12_affords_16
