variable {tt : QQ}
theorem dX12_city_0 : decode cX12_city 0 = .ok (.aload_n 0, 1) := by decide +kernel
theorem dX12_city_1 : decode cX12_city 1 = .ok (.iconst 0, 1) := by decide +kernel
theorem dX12_city_2 : decode cX12_city 2 = .ok (.putfield 1, 3) := by decide +kernel
theorem dX12_city_5 : decode cX12_city 5 = .ok (.iload_n 1, 1) := by decide +kernel
theorem dX12_city_6 : decode cX12_city 6 = .ok (.i2l, 1) := by decide +kernel
theorem dX12_city_7 : decode cX12_city 7 = .ok (.lconst 0, 1) := by decide +kernel
theorem dX12_city_8 : decode cX12_city 8 = .ok (.aload_n 0, 1) := by decide +kernel
theorem dX12_city_9 : decode cX12_city 9 = .ok (.getfield 99, 3) := by decide +kernel
theorem dX12_city_12 : decode cX12_city 12 = .ok (.i2l, 1) := by decide +kernel
theorem dX12_city_13 : decode cX12_city 13 = .ok (.invokestatic 161, 3) := by decide +kernel
theorem dX12_city_16 : decode cX12_city 16 = .ok (.ifCond .ne 6, 3) := by decide +kernel
theorem dX12_city_19 : decode cX12_city 19 = .ok (.bipush (-3), 2) := by decide +kernel
theorem dX12_city_21 : decode cX12_city 21 = .ok (.ireturn, 1) := by decide +kernel
theorem dX12_city_22 : decode cX12_city 22 = .ok (.aload_n 0, 1) := by decide +kernel
theorem dX12_city_23 : decode cX12_city 23 = .ok (.iload_n 1, 1) := by decide +kernel
theorem dX12_city_24 : decode cX12_city 24 = .ok (.putfield 102, 3) := by decide +kernel
theorem dX12_city_27 : decode cX12_city 27 = .ok (.aload_n 0, 1) := by decide +kernel
theorem dX12_city_28 : decode cX12_city 28 = .ok (.iconst 0, 1) := by decide +kernel
theorem dX12_city_29 : decode cX12_city 29 = .ok (.putfield 99, 3) := by decide +kernel
theorem dX12_city_32 : decode cX12_city 32 = .ok (.aload_n 0, 1) := by decide +kernel
theorem dX12_city_33 : decode cX12_city 33 = .ok (.iconst 0, 1) := by decide +kernel
theorem dX12_city_34 : decode cX12_city 34 = .ok (.putfield 120, 3) := by decide +kernel
theorem dX12_city_37 : decode cX12_city 37 = .ok (.aload_n 0, 1) := by decide +kernel
theorem dX12_city_38 : decode cX12_city 38 = .ok (.iconst 0, 1) := by decide +kernel
theorem dX12_city_39 : decode cX12_city 39 = .ok (.putfield 145, 3) := by decide +kernel
theorem dX12_city_42 : decode cX12_city 42 = .ok (.aload_n 0, 1) := by decide +kernel
theorem dX12_city_43 : decode cX12_city 43 = .ok (.getfield 24, 3) := by decide +kernel
theorem dX12_city_46 : decode cX12_city 46 = .ok (.invokestatic 95, 3) := by decide +kernel
theorem dX12_city_49 : decode cX12_city 49 = .ok (.aload_n 0, 1) := by decide +kernel
theorem dX12_city_50 : decode cX12_city 50 = .ok (.invokevirtual 154, 3) := by decide +kernel
theorem dX12_city_53 : decode cX12_city 53 = .ok (.aload_n 0, 1) := by decide +kernel
theorem dX12_city_54 : decode cX12_city 54 = .ok (.getfield 145, 3) := by decide +kernel
theorem dX12_city_57 : decode cX12_city 57 = .ok (.ifCond .ne 43, 3) := by decide +kernel
theorem dX12_city_60 : decode cX12_city 60 = .ok (.aload_n 0, 1) := by decide +kernel
theorem dX12_city_61 : decode cX12_city 61 = .ok (.getfield 127, 3) := by decide +kernel
theorem dX12_city_64 : decode cX12_city 64 = .ok (.bipush 24, 2) := by decide +kernel
theorem dX12_city_66 : decode cX12_city 66 = .ok (.if_icmp .eq 34, 3) := by decide +kernel
theorem dX12_city_69 : decode cX12_city 69 = .ok (.aload_n 0, 1) := by decide +kernel
theorem dX12_city_70 : decode cX12_city 70 = .ok (.invokevirtual 223, 3) := by decide +kernel
theorem dX12_city_73 : decode cX12_city 73 = .ok (.aload_n 0, 1) := by decide +kernel
theorem dX12_city_74 : decode cX12_city 74 = .ok (.bipush 30, 2) := by decide +kernel
theorem dX12_city_76 : decode cX12_city 76 = .ok (.invokevirtual 178, 3) := by decide +kernel
theorem dX12_city_79 : decode cX12_city 79 = .ok (.ifCond .ne 8, 3) := by decide +kernel
theorem dX12_city_82 : decode cX12_city 82 = .ok (.aload_n 0, 1) := by decide +kernel
theorem dX12_city_83 : decode cX12_city 83 = .ok (.iconst 2, 1) := by decide +kernel
theorem dX12_city_84 : decode cX12_city 84 = .ok (.invokevirtual 157, 3) := by decide +kernel
theorem dX12_city_87 : decode cX12_city 87 = .ok (.aload_n 0, 1) := by decide +kernel
theorem dX12_city_88 : decode cX12_city 88 = .ok (.getfield 24, 3) := by decide +kernel
theorem dX12_city_91 : decode cX12_city 91 = .ok (.iconst 0, 1) := by decide +kernel
theorem dX12_city_92 : decode cX12_city 92 = .ok (.dup2, 1) := by decide +kernel
theorem dX12_city_93 : decode cX12_city 93 = .ok (.iaload, 1) := by decide +kernel
theorem dX12_city_94 : decode cX12_city 94 = .ok (.iconst 1, 1) := by decide +kernel
theorem dX12_city_95 : decode cX12_city 95 = .ok (.iadd, 1) := by decide +kernel
theorem dX12_city_96 : decode cX12_city 96 = .ok (.iastore, 1) := by decide +kernel
theorem dX12_city_97 : decode cX12_city 97 = .ok (.goto (-44), 3) := by decide +kernel
theorem dX12_city_100 : decode cX12_city 100 = .ok (.aload_n 0, 1) := by decide +kernel
theorem dX12_city_101 : decode cX12_city 101 = .ok (.aload_n 0, 1) := by decide +kernel
theorem dX12_city_102 : decode cX12_city 102 = .ok (.getfield 145, 3) := by decide +kernel
theorem dX12_city_105 : decode cX12_city 105 = .ok (.putfield 226, 3) := by decide +kernel
theorem dX12_city_108 : decode cX12_city 108 = .ok (.aload_n 0, 1) := by decide +kernel
theorem dX12_city_109 : decode cX12_city 109 = .ok (.aload_n 0, 1) := by decide +kernel
theorem dX12_city_110 : decode cX12_city 110 = .ok (.getfield 145, 3) := by decide +kernel
theorem dX12_city_113 : decode cX12_city 113 = .ok (.ifCond .ne 7, 3) := by decide +kernel
theorem dX12_city_116 : decode cX12_city 116 = .ok (.iconst (-1), 1) := by decide +kernel
theorem dX12_city_117 : decode cX12_city 117 = .ok (.goto 7, 3) := by decide +kernel
theorem dX12_city_120 : decode cX12_city 120 = .ok (.aload_n 0, 1) := by decide +kernel
theorem dX12_city_121 : decode cX12_city 121 = .ok (.getfield 148, 3) := by decide +kernel
theorem dX12_city_124 : decode cX12_city 124 = .ok (.putfield 27, 3) := by decide +kernel
theorem dX12_city_127 : decode cX12_city 127 = .ok (.aload_n 0, 1) := by decide +kernel
theorem dX12_city_128 : decode cX12_city 128 = .ok (.getfield 145, 3) := by decide +kernel
theorem dX12_city_131 : decode cX12_city 131 = .ok (.ifCond .eq 11, 3) := by decide +kernel
theorem dX12_city_134 : decode cX12_city 134 = .ok (.bipush (-30), 2) := by decide +kernel
theorem dX12_city_136 : decode cX12_city 136 = .ok (.aload_n 0, 1) := by decide +kernel
theorem dX12_city_137 : decode cX12_city 137 = .ok (.getfield 145, 3) := by decide +kernel
theorem dX12_city_140 : decode cX12_city 140 = .ok (.isub, 1) := by decide +kernel
theorem dX12_city_141 : decode cX12_city 141 = .ok (.ireturn, 1) := by decide +kernel
theorem dX12_city_142 : decode cX12_city 142 = .ok (.iconst 0, 1) := by decide +kernel
theorem dX12_city_143 : decode cX12_city 143 = .ok (.istore_n 2, 1) := by decide +kernel
theorem dX12_city_144 : decode cX12_city 144 = .ok (.iload_n 2, 1) := by decide +kernel
theorem dX12_city_145 : decode cX12_city 145 = .ok (.sipush 1774, 3) := by decide +kernel
theorem dX12_city_148 : decode cX12_city 148 = .ok (.if_icmp .ge 21, 3) := by decide +kernel
theorem dX12_city_151 : decode cX12_city 151 = .ok (.aload_n 0, 1) := by decide +kernel
theorem dX12_city_152 : decode cX12_city 152 = .ok (.getfield 13, 3) := by decide +kernel
theorem dX12_city_155 : decode cX12_city 155 = .ok (.iload_n 2, 1) := by decide +kernel
theorem dX12_city_156 : decode cX12_city 156 = .ok (.aload_n 0, 1) := by decide +kernel
theorem dX12_city_157 : decode cX12_city 157 = .ok (.getfield 24, 3) := by decide +kernel
theorem dX12_city_160 : decode cX12_city 160 = .ok (.iload_n 2, 1) := by decide +kernel
theorem dX12_city_161 : decode cX12_city 161 = .ok (.iaload, 1) := by decide +kernel
theorem dX12_city_162 : decode cX12_city 162 = .ok (.iastore, 1) := by decide +kernel
theorem dX12_city_163 : decode cX12_city 163 = .ok (.iinc 2 1, 3) := by decide +kernel
theorem dX12_city_166 : decode cX12_city 166 = .ok (.goto (-22), 3) := by decide +kernel
theorem dX12_city_169 : decode cX12_city 169 = .ok (.aload_n 0, 1) := by decide +kernel
theorem dX12_city_170 : decode cX12_city 170 = .ok (.getfield 13, 3) := by decide +kernel
theorem dX12_city_173 : decode cX12_city 173 = .ok (.iconst 0, 1) := by decide +kernel
theorem dX12_city_174 : decode cX12_city 174 = .ok (.iaload, 1) := by decide +kernel
theorem dX12_city_175 : decode cX12_city 175 = .ok (.ireturn, 1) := by decide +kernel
theorem dX12_plain_0 : decode cX12_plain 0 = .ok (.iconst 0, 1) := by decide +kernel
theorem dX12_plain_1 : decode cX12_plain 1 = .ok (.istore_n 1, 1) := by decide +kernel
theorem dX12_plain_2 : decode cX12_plain 2 = .ok (.iload_n 1, 1) := by decide +kernel
theorem dX12_plain_3 : decode cX12_plain 3 = .ok (.sipush 1774, 3) := by decide +kernel
theorem dX12_plain_6 : decode cX12_plain 6 = .ok (.if_icmp .ge 13, 3) := by decide +kernel
theorem dX12_plain_9 : decode cX12_plain 9 = .ok (.aload_n 0, 1) := by decide +kernel
theorem dX12_plain_10 : decode cX12_plain 10 = .ok (.iload_n 1, 1) := by decide +kernel
theorem dX12_plain_11 : decode cX12_plain 11 = .ok (.iconst 0, 1) := by decide +kernel
theorem dX12_plain_12 : decode cX12_plain 12 = .ok (.iastore, 1) := by decide +kernel
theorem dX12_plain_13 : decode cX12_plain 13 = .ok (.iinc 1 1, 3) := by decide +kernel
theorem dX12_plain_16 : decode cX12_plain 16 = .ok (.goto (-14), 3) := by decide +kernel
theorem dX12_plain_19 : decode cX12_plain 19 = .ok (.return_, 1) := by decide +kernel
theorem o48_1 {x0 : Int} (h0 : 0 ≤ x0) (h1 : x0 ≤ 1774) (h2 : 1774 - x0 < 0) : False := by omega
theorem o48_2 {x0 x2 : Int} {x1 : Nat} (h0 : 0 ≤ x0) (h1 : x0 ≤ 1774) (h2 : 1774 - x0 < ((x1 + 1 : Nat) : Int)) (h3 : x2 = 1774) (h4 : x2 ≤ x0) : 1774 ≤ x0 := by omega
theorem o48_3 {x0 x2 : Int} {x1 : Nat} (h0 : 0 ≤ x0) (h1 : x0 ≤ 1774) (h2 : 1774 - x0 < ((x1 + 1 : Nat) : Int)) (h3 : x2 = 1774) (h4 : x0 < x2) : 0 ≤ x0 := by omega
theorem o48_4 {x0 x2 : Int} {x1 : Nat} (h0 : 0 ≤ x0) (h1 : x0 ≤ 1774) (h2 : 1774 - x0 < ((x1 + 1 : Nat) : Int)) (h3 : x2 = 1774) (h4 : x0 < x2) : x0 < (1774 : Nat) := by omega
theorem o48_5 : ∀ p, p < 1774 → 0 ≤ p → (elR p).1 ≤ 0 ∧ 1 ≤ (elR p).2 := by decide +kernel
theorem o48_6 {x0 x2 : Int} {x1 : Nat} (h0 : 0 ≤ x0) (h1 : x0 ≤ 1774) (h2 : 1774 - x0 < ((x1 + 1 : Nat) : Int)) (h3 : x2 = 1774) (h4 : x0 < x2) : (x0).toNat < 1774 := by omega
theorem o48_7 {x0 x2 : Int} {x1 : Nat} (h0 : 0 ≤ x0) (h1 : x0 ≤ 1774) (h2 : 1774 - x0 < ((x1 + 1 : Nat) : Int)) (h3 : x2 = 1774) (h4 : x0 < x2) : 0 ≤ (x0).toNat := by omega
theorem o48_8 {x0 : Int} (h0 : x0 = 0) : 0 ≤ x0 := by omega
theorem o48_9 {x0 : Int} (h0 : x0 = 0) : x0 ≤ 1 := by omega
theorem o48_10 {x0 x2 : Int} {x1 : Nat} (h0 : 0 ≤ x0) (h1 : x0 ≤ 1774) (h2 : 1774 - x0 < ((x1 + 1 : Nat) : Int)) (h3 : x2 = 1774) (h4 : x0 < x2) (h5 : -2147483648 ≤ x0) (h6 : x0 ≤ 2147483647) (h7 : -2147483648 ≤ x2) (h8 : x2 ≤ 2147483647) : -2147483648 ≤ x0 + 1 := by omega
theorem o48_11 {x0 x2 : Int} {x1 : Nat} (h0 : 0 ≤ x0) (h1 : x0 ≤ 1774) (h2 : 1774 - x0 < ((x1 + 1 : Nat) : Int)) (h3 : x2 = 1774) (h4 : x0 < x2) (h5 : -2147483648 ≤ x0) (h6 : x0 ≤ 2147483647) (h7 : -2147483648 ≤ x2) (h8 : x2 ≤ 2147483647) : x0 + 1 ≤ 2147483647 := by omega
theorem o48_12 {x0 x2 x3 : Int} {x1 : Nat} (h0 : 0 ≤ x2) (h1 : x2 ≤ 1774) (h2 : 1774 - x2 < ((x1 + 1 : Nat) : Int)) (h3 : x3 = 1774) (h4 : x2 < x3) (h5 : x0 = x2 + 1) : 1774 - x0 < (x1 : Int) := by omega
theorem o48_13 {x0 x1 x3 : Int} {x2 : Nat} (h0 : 0 ≤ x1) (h1 : x1 ≤ 1774) (h2 : 1774 - x1 < ((x2 + 1 : Nat) : Int)) (h3 : x3 = 1774) (h4 : x1 < x3) (h5 : x0 = x1 + 1) : 0 ≤ x0 := by omega
theorem o48_14 {x0 x1 x3 : Int} {x2 : Nat} (h0 : 0 ≤ x1) (h1 : x1 ≤ 1774) (h2 : 1774 - x1 < ((x2 + 1 : Nat) : Int)) (h3 : x3 = 1774) (h4 : x1 < x3) (h5 : x0 = x1 + 1) : x0 ≤ 1774 := by omega
theorem o48_15 {x0 x2 x3 : Int} {x1 : Nat} (h0 : 0 ≤ x0) (h1 : x0 ≤ 1774) (h2 : 1774 - x0 < ((x1 + 1 : Nat) : Int)) (h3 : x2 = 1774) (h4 : x0 < x2) (h5 : x3 = x0 + 1) : x0 = x0 := by omega
theorem o48_16 {x0 : Int} (h0 : x0 = 0) : x0 = 0 := by omega
theorem o48_17 {x0 x2 x3 : Int} {x1 : Nat} (h0 : 0 ≤ x0) (h1 : x0 ≤ 1774) (h2 : 1774 - x0 < ((x1 + 1 : Nat) : Int)) (h3 : x2 = 1774) (h4 : x0 < x2) (h5 : x3 = x0 + 1) : 0 ≤ x0 := by omega
theorem o48_18 {x0 : Int} (h0 : x0 = 0) : 1774 - x0 < (((1774 - x0 + 1).toNat : Nat) : Int) := by omega
theorem o48_19 {x0 : Int} (h0 : x0 = 0) : x0 ≤ 1774 := by omega
theorem o48_20 {x0 x1 x2 x3 x4 x5 : Int} (h0 : x1 = x0) (h1 : x2 = 0) (h2 : 0 ≤ x3) (h3 : x3 ≤ 900) (h4 : x4 = x3) (h5 : 0 ≤ x5) (h6 : x5 ≤ 1) (h7 : ((x5 = 0 ∧ (x1 < x2 ∨ x4 < x1)) ∨ (x5 = 1 ∧ x2 ≤ x1 ∧ x1 ≤ x4))) (h8 : ¬ x5 = 0) : 0 ≤ x0 := by omega
theorem o48_21 {x0 x1 x2 x3 x4 x5 : Int} (h0 : x1 = x0) (h1 : x2 = 0) (h2 : 0 ≤ x3) (h3 : x3 ≤ 900) (h4 : x4 = x3) (h5 : 0 ≤ x5) (h6 : x5 ≤ 1) (h7 : ((x5 = 0 ∧ (x1 < x2 ∨ x4 < x1)) ∨ (x5 = 1 ∧ x2 ≤ x1 ∧ x1 ≤ x4))) (h8 : ¬ x5 = 0) : x0 ≤ 900 := by omega
theorem o48_22 {x0 : Int} (h0 : x0 = 0) : x0 ≤ 900 := by omega
theorem o48_23 {x0 x1 x2 x3 x4 : Int} (h0 : 0 ≤ x0) (h1 : x0 ≤ 900) (h2 : 0 ≤ x2) (h3 : x2 ≤ 900) (h4 : 0 ≤ x3) (h5 : x3 ≤ 900) (h6 : (x4 = 24 ∨ x0 < x2)) (h7 : x0 ≤ x2) (h8 : (¬ x1 = 0 ∨ x3 ≤ x0)) (h9 : 2 * (900 - x0) + 1 - min 1 (max x1 (-x1)) < 0) : False := by omega
theorem o48_24 {x0 x1 x2 x3 x4 x5 x7 x8 : Int} {x6 : Nat} (h0 : 0 ≤ x1) (h1 : x1 ≤ 900) (h2 : 0 ≤ x2) (h3 : x2 ≤ 900) (h4 : 0 ≤ x3) (h5 : x3 ≤ 900) (h6 : (x4 = 24 ∨ x1 < x2)) (h7 : x1 ≤ x2) (h8 : (¬ x5 = 0 ∨ x3 ≤ x1)) (h9 : 2 * (900 - x1) + 1 - min 1 (max x5 (-x5)) < ((x6 + 1 : Nat) : Int)) (h10 : x7 = x5) (h11 : ¬ x7 = 0) (h12 : x8 = x5) (h13 : x0 = x5) (h14 : x0 = 0) : False := by omega
theorem o48_25 {x0 x1 x2 x3 x4 x5 x7 x8 x9 : Int} {x6 : Nat} (h0 : 0 ≤ x1) (h1 : x1 ≤ 900) (h2 : 0 ≤ x2) (h3 : x2 ≤ 900) (h4 : 0 ≤ x3) (h5 : x3 ≤ 900) (h6 : (x4 = 24 ∨ x1 < x2)) (h7 : x1 ≤ x2) (h8 : (¬ x5 = 0 ∨ x3 ≤ x1)) (h9 : 2 * (900 - x1) + 1 - min 1 (max x5 (-x5)) < ((x6 + 1 : Nat) : Int)) (h10 : x7 = x5) (h11 : ¬ x7 = 0) (h12 : x8 = x5) (h13 : x9 = x5) (h14 : ¬ x9 = 0) (h15 : x0 = x5) (h16 : x0 = 0) : False := by omega
theorem o48_26 {x0 x1 x2 x3 x4 x5 x7 x8 x9 x10 : Int} {x6 : Nat} (h0 : 0 ≤ x1) (h1 : x1 ≤ 900) (h2 : 0 ≤ x2) (h3 : x2 ≤ 900) (h4 : 0 ≤ x3) (h5 : x3 ≤ 900) (h6 : (x4 = 24 ∨ x1 < x2)) (h7 : x1 ≤ x2) (h8 : (¬ x5 = 0 ∨ x3 ≤ x1)) (h9 : 2 * (900 - x1) + 1 - min 1 (max x5 (-x5)) < ((x6 + 1 : Nat) : Int)) (h10 : x7 = x5) (h11 : x7 = 0) (h12 : x8 = x4) (h13 : x9 = 24) (h14 : x8 = x9) (h15 : x10 = x5) (h16 : x0 = x5) (h17 : ¬ x0 = 0) : False := by omega
theorem o48_27 {x0 x1 x2 x3 x4 x5 x7 x8 x9 x10 x11 : Int} {x6 : Nat} (h0 : 0 ≤ x1) (h1 : x1 ≤ 900) (h2 : 0 ≤ x2) (h3 : x2 ≤ 900) (h4 : 0 ≤ x3) (h5 : x3 ≤ 900) (h6 : (x4 = 24 ∨ x1 < x2)) (h7 : x1 ≤ x2) (h8 : (¬ x5 = 0 ∨ x3 ≤ x1)) (h9 : 2 * (900 - x1) + 1 - min 1 (max x5 (-x5)) < ((x6 + 1 : Nat) : Int)) (h10 : x7 = x5) (h11 : x7 = 0) (h12 : x8 = x4) (h13 : x9 = 24) (h14 : x8 = x9) (h15 : x10 = x5) (h16 : x11 = x5) (h17 : x11 = 0) (h18 : x0 = x5) (h19 : ¬ x0 = 0) : False := by omega
theorem o48_28 {x0 x1 x2 x3 x4 x6 x7 x8 x9 x10 x11 : Int} {x5 : Nat} (h0 : 0 ≤ x1) (h1 : x1 ≤ 900) (h2 : 0 ≤ x2) (h3 : x2 ≤ 900) (h4 : 0 ≤ x3) (h5 : x3 ≤ 900) (h6 : (x4 = 24 ∨ x1 < x2)) (h7 : x1 ≤ x2) (h8 : (¬ x0 = 0 ∨ x3 ≤ x1)) (h9 : 2 * (900 - x1) + 1 - min 1 (max x0 (-x0)) < ((x5 + 1 : Nat) : Int)) (h10 : x6 = x0) (h11 : x6 = 0) (h12 : x7 = x4) (h13 : x8 = 24) (h14 : x7 = x8) (h15 : x9 = x0) (h16 : x10 = x0) (h17 : x10 = 0) (h18 : x11 = x0) (h19 : x11 = 0) : (x0 = 0 → x0 = 0) := by omega
theorem o48_29 {x0 x1 x2 x3 x4 x6 x7 x8 x9 x10 x11 : Int} {x5 : Nat} (h0 : 0 ≤ x1) (h1 : x1 ≤ 900) (h2 : 0 ≤ x2) (h3 : x2 ≤ 900) (h4 : 0 ≤ x3) (h5 : x3 ≤ 900) (h6 : (x4 = 24 ∨ x1 < x2)) (h7 : x1 ≤ x2) (h8 : (¬ x0 = 0 ∨ x3 ≤ x1)) (h9 : 2 * (900 - x1) + 1 - min 1 (max x0 (-x0)) < ((x5 + 1 : Nat) : Int)) (h10 : x6 = x0) (h11 : x6 = 0) (h12 : x7 = x4) (h13 : x8 = 24) (h14 : x7 = x8) (h15 : x9 = x0) (h16 : x10 = x0) (h17 : x10 = 0) (h18 : x11 = x0) (h19 : x11 = 0) : x0 = 0 := by omega
theorem o48_30 {x0 x1 x2 : Int} (h0 : 0 ≤ x0) (h1 : x0 ≤ 5) (h2 : 0 ≤ x1) (h3 : x1 ≤ 5) (h4 : 0 ≤ x2) (h5 : x2 ≤ 5) (h6 : (x0 = 0 ∨ 1 ≤ x1)) (h7 : (x2 = 0 ∨ 1 ≤ x0)) : (x0 = 0 ∨ 1 ≤ x1) := by omega
theorem o48_31 {x0 x1 x2 : Int} (h0 : 0 ≤ x1) (h1 : x1 ≤ 5) (h2 : 0 ≤ x2) (h3 : x2 ≤ 5) (h4 : 0 ≤ x0) (h5 : x0 ≤ 5) (h6 : (x1 = 0 ∨ 1 ≤ x2)) (h7 : (x0 = 0 ∨ 1 ≤ x1)) : (x0 = 0 ∨ 1 ≤ x1) := by omega
theorem o48_32 {x0 : Int} (h0 : x0 = 0) : x0 < (5322 : Nat) := by omega
theorem o48_33 {x0 : Int} (h0 : x0 = 0) : x0 = ((0 : Nat) : Int) := by omega
theorem o48_34 {x0 x2 : Int} {x1 : Nat} (h0 : 0 ≤ x0) (h1 : x0 ≤ 1774) (h2 : 1774 - x0 < ((x1 + 1 : Nat) : Int)) (h3 : x2 = 1774) (h4 : x0 < x2) : x0 < (5322 : Nat) := by omega
theorem o48_35 {x0 x2 x3 : Int} {x1 : Nat} (h0 : 0 ≤ x0) (h1 : x0 ≤ 1774) (h2 : 1774 - x0 < ((x1 + 1 : Nat) : Int)) (h3 : x2 = 1774) (h4 : x0 < x2) (h5 : x3 = x0 + 1) : x0 < 1774 := by omega
theorem o48_36 {x0 x1 x2 x3 x4 x6 x7 x8 : Int} {x5 : Nat} (h0 : 0 ≤ x1) (h1 : x1 ≤ 900) (h2 : 0 ≤ x2) (h3 : x2 ≤ 900) (h4 : 0 ≤ x3) (h5 : x3 ≤ 900) (h6 : (x0 = 24 ∨ x1 < x2)) (h7 : x1 ≤ x2) (h8 : (¬ x4 = 0 ∨ x3 ≤ x1)) (h9 : 2 * (900 - x1) + 1 - min 1 (max x4 (-x4)) < ((x5 + 1 : Nat) : Int)) (h10 : x6 = x4) (h11 : x6 = 0) (h12 : x7 = x0) (h13 : x8 = 24) (h14 : ¬ x7 = x8) : (x0 = 24 ∨ x1 < x2) := by omega
theorem o48_37 {x0 x1 x2 x3 x4 x6 x7 x8 : Int} {x5 : Nat} (h0 : 0 ≤ x0) (h1 : x0 ≤ 900) (h2 : 0 ≤ x1) (h3 : x1 ≤ 900) (h4 : 0 ≤ x2) (h5 : x2 ≤ 900) (h6 : (x3 = 24 ∨ x0 < x1)) (h7 : x0 ≤ x1) (h8 : (¬ x4 = 0 ∨ x2 ≤ x0)) (h9 : 2 * (900 - x0) + 1 - min 1 (max x4 (-x4)) < ((x5 + 1 : Nat) : Int)) (h10 : x6 = x4) (h11 : x6 = 0) (h12 : x7 = x3) (h13 : x8 = 24) (h14 : ¬ x7 = x8) : x0 ≤ x1 := by omega
theorem o48_38 {x0 x1 x2 x3 x4 x6 x7 x8 : Int} {x5 : Nat} (h0 : 0 ≤ x2) (h1 : x2 ≤ 900) (h2 : 0 ≤ x3) (h3 : x3 ≤ 900) (h4 : 0 ≤ x1) (h5 : x1 ≤ 900) (h6 : (x4 = 24 ∨ x2 < x3)) (h7 : x2 ≤ x3) (h8 : (¬ x0 = 0 ∨ x1 ≤ x2)) (h9 : 2 * (900 - x2) + 1 - min 1 (max x0 (-x0)) < ((x5 + 1 : Nat) : Int)) (h10 : x6 = x0) (h11 : x6 = 0) (h12 : x7 = x4) (h13 : x8 = 24) (h14 : ¬ x7 = x8) : (¬ x0 = 0 ∨ x1 ≤ x2) := by omega
theorem o48_39 {x0 x1 x2 x3 x4 x5 x6 x7 x9 x10 x11 x12 x13 : Int} {x8 : Nat} (h0 : 0 ≤ x3) (h1 : x3 ≤ 900) (h2 : 0 ≤ x4) (h3 : x4 ≤ 900) (h4 : 0 ≤ x5) (h5 : x5 ≤ 900) (h6 : (x6 = 24 ∨ x3 < x4)) (h7 : x3 ≤ x4) (h8 : (¬ x7 = 0 ∨ x5 ≤ x3)) (h9 : 2 * (900 - x3) + 1 - min 1 (max x7 (-x7)) < ((x8 + 1 : Nat) : Int)) (h10 : x9 = x7) (h11 : x9 = 0) (h12 : x10 = x6) (h13 : x11 = 24) (h14 : ¬ x10 = x11) (h15 : 0 ≤ x1) (h16 : x1 ≤ 900) (h17 : 0 ≤ x2) (h18 : x2 ≤ 900) (h19 : (x0 = 24 ∨ x1 < x2)) (h20 : x1 ≤ x2) (h21 : 0 ≤ x12) (h22 : x12 ≤ 900) (h23 : (x13 = 0 → x7 = 0 ∧ x12 - x5 ≤ x1 - x3)) (h24 : x3 ≤ x1) : (x0 = 24 ∨ x1 < x2) := by omega
theorem o48_40 {x0 x1 x2 x3 x4 x5 x6 x8 x9 x10 x11 x12 x13 : Int} {x7 : Nat} (h0 : 0 ≤ x2) (h1 : x2 ≤ 900) (h2 : 0 ≤ x3) (h3 : x3 ≤ 900) (h4 : 0 ≤ x4) (h5 : x4 ≤ 900) (h6 : (x5 = 24 ∨ x2 < x3)) (h7 : x2 ≤ x3) (h8 : (¬ x6 = 0 ∨ x4 ≤ x2)) (h9 : 2 * (900 - x2) + 1 - min 1 (max x6 (-x6)) < ((x7 + 1 : Nat) : Int)) (h10 : x8 = x6) (h11 : x8 = 0) (h12 : x9 = x5) (h13 : x10 = 24) (h14 : ¬ x9 = x10) (h15 : 0 ≤ x0) (h16 : x0 ≤ 900) (h17 : 0 ≤ x1) (h18 : x1 ≤ 900) (h19 : (x11 = 24 ∨ x0 < x1)) (h20 : x0 ≤ x1) (h21 : 0 ≤ x12) (h22 : x12 ≤ 900) (h23 : (x13 = 0 → x6 = 0 ∧ x12 - x4 ≤ x0 - x2)) (h24 : x2 ≤ x0) : x0 ≤ x1 := by omega
theorem o48_41 {x0 : Int} (h0 : x0 = 0) : x0 < (1774 : Nat) := by omega
theorem o48_42 : ∀ p, p < 1 → 0 ≤ p → (elR p).1 ≤ (-2147483648) ∧ 2147483647 ≤ (elR p).2 := by decide +kernel
theorem o48_43 {x0 : Int} (h0 : x0 = 0) : (x0).toNat < 1 := by omega
theorem o48_44 {x0 : Int} (h0 : x0 = 0) : 0 ≤ (x0).toNat := by omega
theorem o48_45 {x0 : Int} (h0 : x0 = 0) : 873 ≠ (x0).toNat := by omega
theorem o48_46 {x0 : Int} (h0 : x0 = 0) : 1 ≠ (x0).toNat := by omega
theorem o48_47 {x0 : Int} (h0 : x0 = 0) : 2 ≠ (x0).toNat := by omega
theorem o48_48 {x0 : Int} (h0 : x0 = 0) : 3 ≠ (x0).toNat := by omega
theorem o48_49 {x0 x1 x3 x4 x5 x6 x7 x8 x9 x10 x11 x12 x13 x14 x15 x16 x17 x18 x19 : Int} {x2 : Nat} (h0 : 0 ≤ x3) (h1 : x3 ≤ 900) (h2 : 0 ≤ x4) (h3 : x4 ≤ 900) (h4 : 0 ≤ x5) (h5 : x5 ≤ 900) (h6 : (x6 = 24 ∨ x3 < x4)) (h7 : x3 ≤ x4) (h8 : (¬ x7 = 0 ∨ x5 ≤ x3)) (h9 : 2 * (900 - x3) + 1 - min 1 (max x7 (-x7)) < ((x2 + 1 : Nat) : Int)) (h10 : x8 = x7) (h11 : x8 = 0) (h12 : x9 = x6) (h13 : x10 = 24) (h14 : ¬ x9 = x10) (h15 : 0 ≤ x11) (h16 : x11 ≤ 900) (h17 : 0 ≤ x12) (h18 : x12 ≤ 900) (h19 : (x13 = 24 ∨ x11 < x12)) (h20 : x11 ≤ x12) (h21 : 0 ≤ x14) (h22 : x14 ≤ 900) (h23 : (x15 = 0 → x7 = 0 ∧ x14 - x5 ≤ x11 - x3)) (h24 : x3 ≤ x11) (h25 : x16 = 30) (h26 : 0 ≤ x17) (h27 : x17 ≤ 1) (h28 : 0 ≤ x0) (h29 : x0 ≤ 900) (h30 : 0 ≤ x18) (h31 : x18 ≤ 900) (h32 : (x19 = 24 ∨ x0 < x18)) (h33 : x0 ≤ x18) (h34 : ((x17 = 0 ∧ x0 = x11 ∧ x18 = x12 ∧ x19 = x13 ∧ x1 = x15 ∧ ¬ (x15 = 0 ∧ x13 = x16)) ∨ (x17 = 1 ∧ x12 ≤ x0 ∧ x1 = 0 ∧ x15 = 0 ∧ x13 = x16))) (h35 : ¬ x17 = 0) : 2 * (900 - x0) + 1 - min 1 (max x1 (-x1)) < (x2 : Int) := by omega
theorem o48_50 {x0 x1 x2 x3 x4 x5 x7 x8 x9 x10 x11 x12 x13 x14 x15 x16 x17 x18 x19 : Int} {x6 : Nat} (h0 : 0 ≤ x1) (h1 : x1 ≤ 900) (h2 : 0 ≤ x2) (h3 : x2 ≤ 900) (h4 : 0 ≤ x3) (h5 : x3 ≤ 900) (h6 : (x4 = 24 ∨ x1 < x2)) (h7 : x1 ≤ x2) (h8 : (¬ x5 = 0 ∨ x3 ≤ x1)) (h9 : 2 * (900 - x1) + 1 - min 1 (max x5 (-x5)) < ((x6 + 1 : Nat) : Int)) (h10 : x7 = x5) (h11 : x7 = 0) (h12 : x8 = x4) (h13 : x9 = 24) (h14 : ¬ x8 = x9) (h15 : 0 ≤ x10) (h16 : x10 ≤ 900) (h17 : 0 ≤ x11) (h18 : x11 ≤ 900) (h19 : (x12 = 24 ∨ x10 < x11)) (h20 : x10 ≤ x11) (h21 : 0 ≤ x13) (h22 : x13 ≤ 900) (h23 : (x14 = 0 → x5 = 0 ∧ x13 - x3 ≤ x10 - x1)) (h24 : x1 ≤ x10) (h25 : x15 = 30) (h26 : 0 ≤ x16) (h27 : x16 ≤ 1) (h28 : 0 ≤ x0) (h29 : x0 ≤ 900) (h30 : 0 ≤ x17) (h31 : x17 ≤ 900) (h32 : (x18 = 24 ∨ x0 < x17)) (h33 : x0 ≤ x17) (h34 : ((x16 = 0 ∧ x0 = x10 ∧ x17 = x11 ∧ x18 = x12 ∧ x19 = x14 ∧ ¬ (x14 = 0 ∧ x12 = x15)) ∨ (x16 = 1 ∧ x11 ≤ x0 ∧ x19 = 0 ∧ x14 = 0 ∧ x12 = x15))) (h35 : ¬ x16 = 0) : 0 ≤ x0 := by omega
theorem o48_51 {x0 x1 x2 x3 x4 x5 x7 x8 x9 x10 x11 x12 x13 x14 x15 x16 x17 x18 x19 : Int} {x6 : Nat} (h0 : 0 ≤ x1) (h1 : x1 ≤ 900) (h2 : 0 ≤ x2) (h3 : x2 ≤ 900) (h4 : 0 ≤ x3) (h5 : x3 ≤ 900) (h6 : (x4 = 24 ∨ x1 < x2)) (h7 : x1 ≤ x2) (h8 : (¬ x5 = 0 ∨ x3 ≤ x1)) (h9 : 2 * (900 - x1) + 1 - min 1 (max x5 (-x5)) < ((x6 + 1 : Nat) : Int)) (h10 : x7 = x5) (h11 : x7 = 0) (h12 : x8 = x4) (h13 : x9 = 24) (h14 : ¬ x8 = x9) (h15 : 0 ≤ x10) (h16 : x10 ≤ 900) (h17 : 0 ≤ x11) (h18 : x11 ≤ 900) (h19 : (x12 = 24 ∨ x10 < x11)) (h20 : x10 ≤ x11) (h21 : 0 ≤ x13) (h22 : x13 ≤ 900) (h23 : (x14 = 0 → x5 = 0 ∧ x13 - x3 ≤ x10 - x1)) (h24 : x1 ≤ x10) (h25 : x15 = 30) (h26 : 0 ≤ x16) (h27 : x16 ≤ 1) (h28 : 0 ≤ x0) (h29 : x0 ≤ 900) (h30 : 0 ≤ x17) (h31 : x17 ≤ 900) (h32 : (x18 = 24 ∨ x0 < x17)) (h33 : x0 ≤ x17) (h34 : ((x16 = 0 ∧ x0 = x10 ∧ x17 = x11 ∧ x18 = x12 ∧ x19 = x14 ∧ ¬ (x14 = 0 ∧ x12 = x15)) ∨ (x16 = 1 ∧ x11 ≤ x0 ∧ x19 = 0 ∧ x14 = 0 ∧ x12 = x15))) (h35 : ¬ x16 = 0) : x0 ≤ 900 := by omega
theorem o48_52 {x0 x1 x2 x3 x4 x5 x7 x8 x9 x10 x11 x12 x13 x14 x15 x16 x17 x18 x19 : Int} {x6 : Nat} (h0 : 0 ≤ x1) (h1 : x1 ≤ 900) (h2 : 0 ≤ x2) (h3 : x2 ≤ 900) (h4 : 0 ≤ x3) (h5 : x3 ≤ 900) (h6 : (x4 = 24 ∨ x1 < x2)) (h7 : x1 ≤ x2) (h8 : (¬ x5 = 0 ∨ x3 ≤ x1)) (h9 : 2 * (900 - x1) + 1 - min 1 (max x5 (-x5)) < ((x6 + 1 : Nat) : Int)) (h10 : x7 = x5) (h11 : x7 = 0) (h12 : x8 = x4) (h13 : x9 = 24) (h14 : ¬ x8 = x9) (h15 : 0 ≤ x10) (h16 : x10 ≤ 900) (h17 : 0 ≤ x11) (h18 : x11 ≤ 900) (h19 : (x12 = 24 ∨ x10 < x11)) (h20 : x10 ≤ x11) (h21 : 0 ≤ x13) (h22 : x13 ≤ 900) (h23 : (x14 = 0 → x5 = 0 ∧ x13 - x3 ≤ x10 - x1)) (h24 : x1 ≤ x10) (h25 : x15 = 30) (h26 : 0 ≤ x16) (h27 : x16 ≤ 1) (h28 : 0 ≤ x17) (h29 : x17 ≤ 900) (h30 : 0 ≤ x0) (h31 : x0 ≤ 900) (h32 : (x18 = 24 ∨ x17 < x0)) (h33 : x17 ≤ x0) (h34 : ((x16 = 0 ∧ x17 = x10 ∧ x0 = x11 ∧ x18 = x12 ∧ x19 = x14 ∧ ¬ (x14 = 0 ∧ x12 = x15)) ∨ (x16 = 1 ∧ x11 ≤ x17 ∧ x19 = 0 ∧ x14 = 0 ∧ x12 = x15))) (h35 : ¬ x16 = 0) : 0 ≤ x0 := by omega
theorem o48_53 {x0 x1 x2 x3 x4 x5 x7 x8 x9 x10 x11 x12 x13 x14 x15 x16 x17 x18 x19 : Int} {x6 : Nat} (h0 : 0 ≤ x1) (h1 : x1 ≤ 900) (h2 : 0 ≤ x2) (h3 : x2 ≤ 900) (h4 : 0 ≤ x3) (h5 : x3 ≤ 900) (h6 : (x4 = 24 ∨ x1 < x2)) (h7 : x1 ≤ x2) (h8 : (¬ x5 = 0 ∨ x3 ≤ x1)) (h9 : 2 * (900 - x1) + 1 - min 1 (max x5 (-x5)) < ((x6 + 1 : Nat) : Int)) (h10 : x7 = x5) (h11 : x7 = 0) (h12 : x8 = x4) (h13 : x9 = 24) (h14 : ¬ x8 = x9) (h15 : 0 ≤ x10) (h16 : x10 ≤ 900) (h17 : 0 ≤ x11) (h18 : x11 ≤ 900) (h19 : (x12 = 24 ∨ x10 < x11)) (h20 : x10 ≤ x11) (h21 : 0 ≤ x13) (h22 : x13 ≤ 900) (h23 : (x14 = 0 → x5 = 0 ∧ x13 - x3 ≤ x10 - x1)) (h24 : x1 ≤ x10) (h25 : x15 = 30) (h26 : 0 ≤ x16) (h27 : x16 ≤ 1) (h28 : 0 ≤ x17) (h29 : x17 ≤ 900) (h30 : 0 ≤ x0) (h31 : x0 ≤ 900) (h32 : (x18 = 24 ∨ x17 < x0)) (h33 : x17 ≤ x0) (h34 : ((x16 = 0 ∧ x17 = x10 ∧ x0 = x11 ∧ x18 = x12 ∧ x19 = x14 ∧ ¬ (x14 = 0 ∧ x12 = x15)) ∨ (x16 = 1 ∧ x11 ≤ x17 ∧ x19 = 0 ∧ x14 = 0 ∧ x12 = x15))) (h35 : ¬ x16 = 0) : x0 ≤ 900 := by omega
theorem o48_54 {x0 x1 x2 x3 x4 x5 x7 x8 x9 x10 x11 x12 x13 x14 x15 x16 x17 x18 x19 : Int} {x6 : Nat} (h0 : 0 ≤ x1) (h1 : x1 ≤ 900) (h2 : 0 ≤ x2) (h3 : x2 ≤ 900) (h4 : 0 ≤ x3) (h5 : x3 ≤ 900) (h6 : (x4 = 24 ∨ x1 < x2)) (h7 : x1 ≤ x2) (h8 : (¬ x5 = 0 ∨ x3 ≤ x1)) (h9 : 2 * (900 - x1) + 1 - min 1 (max x5 (-x5)) < ((x6 + 1 : Nat) : Int)) (h10 : x7 = x5) (h11 : x7 = 0) (h12 : x8 = x4) (h13 : x9 = 24) (h14 : ¬ x8 = x9) (h15 : 0 ≤ x10) (h16 : x10 ≤ 900) (h17 : 0 ≤ x11) (h18 : x11 ≤ 900) (h19 : (x12 = 24 ∨ x10 < x11)) (h20 : x10 ≤ x11) (h21 : 0 ≤ x0) (h22 : x0 ≤ 900) (h23 : (x13 = 0 → x5 = 0 ∧ x0 - x3 ≤ x10 - x1)) (h24 : x1 ≤ x10) (h25 : x14 = 30) (h26 : 0 ≤ x15) (h27 : x15 ≤ 1) (h28 : 0 ≤ x16) (h29 : x16 ≤ 900) (h30 : 0 ≤ x17) (h31 : x17 ≤ 900) (h32 : (x18 = 24 ∨ x16 < x17)) (h33 : x16 ≤ x17) (h34 : ((x15 = 0 ∧ x16 = x10 ∧ x17 = x11 ∧ x18 = x12 ∧ x19 = x13 ∧ ¬ (x13 = 0 ∧ x12 = x14)) ∨ (x15 = 1 ∧ x11 ≤ x16 ∧ x19 = 0 ∧ x13 = 0 ∧ x12 = x14))) (h35 : ¬ x15 = 0) : 0 ≤ x0 := by omega
theorem o48_55 {x0 x1 x2 x3 x4 x5 x7 x8 x9 x10 x11 x12 x13 x14 x15 x16 x17 x18 x19 : Int} {x6 : Nat} (h0 : 0 ≤ x1) (h1 : x1 ≤ 900) (h2 : 0 ≤ x2) (h3 : x2 ≤ 900) (h4 : 0 ≤ x3) (h5 : x3 ≤ 900) (h6 : (x4 = 24 ∨ x1 < x2)) (h7 : x1 ≤ x2) (h8 : (¬ x5 = 0 ∨ x3 ≤ x1)) (h9 : 2 * (900 - x1) + 1 - min 1 (max x5 (-x5)) < ((x6 + 1 : Nat) : Int)) (h10 : x7 = x5) (h11 : x7 = 0) (h12 : x8 = x4) (h13 : x9 = 24) (h14 : ¬ x8 = x9) (h15 : 0 ≤ x10) (h16 : x10 ≤ 900) (h17 : 0 ≤ x11) (h18 : x11 ≤ 900) (h19 : (x12 = 24 ∨ x10 < x11)) (h20 : x10 ≤ x11) (h21 : 0 ≤ x0) (h22 : x0 ≤ 900) (h23 : (x13 = 0 → x5 = 0 ∧ x0 - x3 ≤ x10 - x1)) (h24 : x1 ≤ x10) (h25 : x14 = 30) (h26 : 0 ≤ x15) (h27 : x15 ≤ 1) (h28 : 0 ≤ x16) (h29 : x16 ≤ 900) (h30 : 0 ≤ x17) (h31 : x17 ≤ 900) (h32 : (x18 = 24 ∨ x16 < x17)) (h33 : x16 ≤ x17) (h34 : ((x15 = 0 ∧ x16 = x10 ∧ x17 = x11 ∧ x18 = x12 ∧ x19 = x13 ∧ ¬ (x13 = 0 ∧ x12 = x14)) ∨ (x15 = 1 ∧ x11 ≤ x16 ∧ x19 = 0 ∧ x13 = 0 ∧ x12 = x14))) (h35 : ¬ x15 = 0) : x0 ≤ 900 := by omega
theorem o48_56 {x0 x1 x2 : Int} (h0 : 0 ≤ x0) (h1 : x0 ≤ 5) (h2 : 0 ≤ x1) (h3 : x1 ≤ 5) (h4 : (x0 = 0 ∨ 1 ≤ x1)) (h5 : 0 ≤ x2) (h6 : x2 ≤ 5) (h7 : (x2 = 0 ∨ 1 ≤ x0)) : 0 ≤ x0 := by omega
theorem o48_57 {x0 x1 x2 : Int} (h0 : 0 ≤ x0) (h1 : x0 ≤ 5) (h2 : 0 ≤ x1) (h3 : x1 ≤ 5) (h4 : (x0 = 0 ∨ 1 ≤ x1)) (h5 : 0 ≤ x2) (h6 : x2 ≤ 5) (h7 : (x2 = 0 ∨ 1 ≤ x0)) : x0 ≤ 5 := by omega
theorem o48_58 {x0 x1 x2 : Int} (h0 : 0 ≤ x1) (h1 : x1 ≤ 5) (h2 : 0 ≤ x0) (h3 : x0 ≤ 5) (h4 : (x1 = 0 ∨ 1 ≤ x0)) (h5 : 0 ≤ x2) (h6 : x2 ≤ 5) (h7 : (x2 = 0 ∨ 1 ≤ x1)) : 0 ≤ x0 := by omega
theorem o48_59 {x0 x1 x2 : Int} (h0 : 0 ≤ x1) (h1 : x1 ≤ 5) (h2 : 0 ≤ x0) (h3 : x0 ≤ 5) (h4 : (x1 = 0 ∨ 1 ≤ x0)) (h5 : 0 ≤ x2) (h6 : x2 ≤ 5) (h7 : (x2 = 0 ∨ 1 ≤ x1)) : x0 ≤ 5 := by omega
theorem o48_60 {x0 x1 x2 : Int} (h0 : 0 ≤ x1) (h1 : x1 ≤ 5) (h2 : 0 ≤ x2) (h3 : x2 ≤ 5) (h4 : (x1 = 0 ∨ 1 ≤ x2)) (h5 : 0 ≤ x0) (h6 : x0 ≤ 5) (h7 : (x0 = 0 ∨ 1 ≤ x1)) : 0 ≤ x0 := by omega
theorem o48_61 {x0 x1 x2 : Int} (h0 : 0 ≤ x1) (h1 : x1 ≤ 5) (h2 : 0 ≤ x2) (h3 : x2 ≤ 5) (h4 : (x1 = 0 ∨ 1 ≤ x2)) (h5 : 0 ≤ x0) (h6 : x0 ≤ 5) (h7 : (x0 = 0 ∨ 1 ≤ x1)) : x0 ≤ 5 := by omega
theorem o48_62 {x0 x1 x2 x3 x4 x5 x6 x7 x9 x10 x11 x12 x13 x14 x15 x16 x17 x18 x19 : Int} {x8 : Nat} (h0 : 0 ≤ x3) (h1 : x3 ≤ 900) (h2 : 0 ≤ x4) (h3 : x4 ≤ 900) (h4 : 0 ≤ x5) (h5 : x5 ≤ 900) (h6 : (x6 = 24 ∨ x3 < x4)) (h7 : x3 ≤ x4) (h8 : (¬ x7 = 0 ∨ x5 ≤ x3)) (h9 : 2 * (900 - x3) + 1 - min 1 (max x7 (-x7)) < ((x8 + 1 : Nat) : Int)) (h10 : x9 = x7) (h11 : x9 = 0) (h12 : x10 = x6) (h13 : x11 = 24) (h14 : ¬ x10 = x11) (h15 : 0 ≤ x12) (h16 : x12 ≤ 900) (h17 : 0 ≤ x13) (h18 : x13 ≤ 900) (h19 : (x14 = 24 ∨ x12 < x13)) (h20 : x12 ≤ x13) (h21 : 0 ≤ x15) (h22 : x15 ≤ 900) (h23 : (x16 = 0 → x7 = 0 ∧ x15 - x5 ≤ x12 - x3)) (h24 : x3 ≤ x12) (h25 : x17 = 30) (h26 : 0 ≤ x18) (h27 : x18 ≤ 1) (h28 : 0 ≤ x1) (h29 : x1 ≤ 900) (h30 : 0 ≤ x2) (h31 : x2 ≤ 900) (h32 : (x0 = 24 ∨ x1 < x2)) (h33 : x1 ≤ x2) (h34 : ((x18 = 0 ∧ x1 = x12 ∧ x2 = x13 ∧ x0 = x14 ∧ x19 = x16 ∧ ¬ (x16 = 0 ∧ x14 = x17)) ∨ (x18 = 1 ∧ x13 ≤ x1 ∧ x19 = 0 ∧ x16 = 0 ∧ x14 = x17))) (h35 : ¬ x18 = 0) : (x0 = 24 ∨ x1 < x2) := by omega
theorem o48_63 {x0 x1 x2 x3 x4 x5 x6 x8 x9 x10 x11 x12 x13 x14 x15 x16 x17 x18 x19 : Int} {x7 : Nat} (h0 : 0 ≤ x2) (h1 : x2 ≤ 900) (h2 : 0 ≤ x3) (h3 : x3 ≤ 900) (h4 : 0 ≤ x4) (h5 : x4 ≤ 900) (h6 : (x5 = 24 ∨ x2 < x3)) (h7 : x2 ≤ x3) (h8 : (¬ x6 = 0 ∨ x4 ≤ x2)) (h9 : 2 * (900 - x2) + 1 - min 1 (max x6 (-x6)) < ((x7 + 1 : Nat) : Int)) (h10 : x8 = x6) (h11 : x8 = 0) (h12 : x9 = x5) (h13 : x10 = 24) (h14 : ¬ x9 = x10) (h15 : 0 ≤ x11) (h16 : x11 ≤ 900) (h17 : 0 ≤ x12) (h18 : x12 ≤ 900) (h19 : (x13 = 24 ∨ x11 < x12)) (h20 : x11 ≤ x12) (h21 : 0 ≤ x14) (h22 : x14 ≤ 900) (h23 : (x15 = 0 → x6 = 0 ∧ x14 - x4 ≤ x11 - x2)) (h24 : x2 ≤ x11) (h25 : x16 = 30) (h26 : 0 ≤ x17) (h27 : x17 ≤ 1) (h28 : 0 ≤ x0) (h29 : x0 ≤ 900) (h30 : 0 ≤ x1) (h31 : x1 ≤ 900) (h32 : (x18 = 24 ∨ x0 < x1)) (h33 : x0 ≤ x1) (h34 : ((x17 = 0 ∧ x0 = x11 ∧ x1 = x12 ∧ x18 = x13 ∧ x19 = x15 ∧ ¬ (x15 = 0 ∧ x13 = x16)) ∨ (x17 = 1 ∧ x12 ≤ x0 ∧ x19 = 0 ∧ x15 = 0 ∧ x13 = x16))) (h35 : ¬ x17 = 0) : x0 ≤ x1 := by omega
theorem o48_64 {x0 x1 x2 x3 x4 x5 x6 x7 x9 x10 x11 x12 x13 x14 x15 x16 x17 x18 x19 : Int} {x8 : Nat} (h0 : 0 ≤ x3) (h1 : x3 ≤ 900) (h2 : 0 ≤ x4) (h3 : x4 ≤ 900) (h4 : 0 ≤ x5) (h5 : x5 ≤ 900) (h6 : (x6 = 24 ∨ x3 < x4)) (h7 : x3 ≤ x4) (h8 : (¬ x7 = 0 ∨ x5 ≤ x3)) (h9 : 2 * (900 - x3) + 1 - min 1 (max x7 (-x7)) < ((x8 + 1 : Nat) : Int)) (h10 : x9 = x7) (h11 : x9 = 0) (h12 : x10 = x6) (h13 : x11 = 24) (h14 : ¬ x10 = x11) (h15 : 0 ≤ x12) (h16 : x12 ≤ 900) (h17 : 0 ≤ x13) (h18 : x13 ≤ 900) (h19 : (x14 = 24 ∨ x12 < x13)) (h20 : x12 ≤ x13) (h21 : 0 ≤ x1) (h22 : x1 ≤ 900) (h23 : (x15 = 0 → x7 = 0 ∧ x1 - x5 ≤ x12 - x3)) (h24 : x3 ≤ x12) (h25 : x16 = 30) (h26 : 0 ≤ x17) (h27 : x17 ≤ 1) (h28 : 0 ≤ x2) (h29 : x2 ≤ 900) (h30 : 0 ≤ x18) (h31 : x18 ≤ 900) (h32 : (x19 = 24 ∨ x2 < x18)) (h33 : x2 ≤ x18) (h34 : ((x17 = 0 ∧ x2 = x12 ∧ x18 = x13 ∧ x19 = x14 ∧ x0 = x15 ∧ ¬ (x15 = 0 ∧ x14 = x16)) ∨ (x17 = 1 ∧ x13 ≤ x2 ∧ x0 = 0 ∧ x15 = 0 ∧ x14 = x16))) (h35 : ¬ x17 = 0) : (¬ x0 = 0 ∨ x1 ≤ x2) := by omega
theorem o48_65 {x0 x1 x2 : Int} (h0 : 0 ≤ x0) (h1 : x0 ≤ 5) (h2 : 0 ≤ x1) (h3 : x1 ≤ 5) (h4 : (x0 = 0 ∨ 1 ≤ x1)) (h5 : 0 ≤ x2) (h6 : x2 ≤ 5) (h7 : (x2 = 0 ∨ 1 ≤ x0)) : (x0 = 0 ∨ 1 ≤ x1) := by omega
theorem o48_66 {x0 x1 x2 : Int} (h0 : 0 ≤ x1) (h1 : x1 ≤ 5) (h2 : 0 ≤ x2) (h3 : x2 ≤ 5) (h4 : (x1 = 0 ∨ 1 ≤ x2)) (h5 : 0 ≤ x0) (h6 : x0 ≤ 5) (h7 : (x0 = 0 ∨ 1 ≤ x1)) : (x0 = 0 ∨ 1 ≤ x1) := by omega
theorem o48_67 {x0 : Int} (h0 : x0 = 0) : ((0 ≤ x0 ∧ x0 < 4) ∨ (10 ≤ x0 ∧ x0 ≤ 872)) := by omega
theorem o48_68 {x0 x1 x2 x3 x4 x5 x6 x8 x9 x10 x11 x12 x13 x14 x15 x16 x17 x18 x19 : Int} {x7 : Nat} (h0 : 0 ≤ x2) (h1 : x2 ≤ 900) (h2 : 0 ≤ x3) (h3 : x3 ≤ 900) (h4 : 0 ≤ x4) (h5 : x4 ≤ 900) (h6 : (x5 = 24 ∨ x2 < x3)) (h7 : x2 ≤ x3) (h8 : (¬ x6 = 0 ∨ x4 ≤ x2)) (h9 : 2 * (900 - x2) + 1 - min 1 (max x6 (-x6)) < ((x7 + 1 : Nat) : Int)) (h10 : x8 = x6) (h11 : x8 = 0) (h12 : x9 = x5) (h13 : x10 = 24) (h14 : ¬ x9 = x10) (h15 : 0 ≤ x11) (h16 : x11 ≤ 900) (h17 : 0 ≤ x12) (h18 : x12 ≤ 900) (h19 : (x13 = 24 ∨ x11 < x12)) (h20 : x11 ≤ x12) (h21 : 0 ≤ x14) (h22 : x14 ≤ 900) (h23 : (x0 = 0 → x6 = 0 ∧ x14 - x4 ≤ x11 - x2)) (h24 : x2 ≤ x11) (h25 : x15 = 30) (h26 : 0 ≤ x16) (h27 : x16 ≤ 1) (h28 : 0 ≤ x17) (h29 : x17 ≤ 900) (h30 : 0 ≤ x18) (h31 : x18 ≤ 900) (h32 : (x19 = 24 ∨ x17 < x18)) (h33 : x17 ≤ x18) (h34 : ((x16 = 0 ∧ x17 = x11 ∧ x18 = x12 ∧ x19 = x13 ∧ x1 = x0 ∧ ¬ (x0 = 0 ∧ x13 = x15)) ∨ (x16 = 1 ∧ x12 ≤ x17 ∧ x1 = 0 ∧ x0 = 0 ∧ x13 = x15))) (h35 : ¬ x16 = 0) : (x1 = 0 → x0 = 0) := by omega
theorem o48_69 {x0 : Int} (h0 : x0 = 2) : 1 ≤ x0 := by omega
theorem o48_70 {x0 : Int} (h0 : x0 = 2) : x0 ≤ 9 := by omega
theorem o48_71 {x0 x1 x3 x4 x5 x6 x7 x8 x9 x10 x11 x12 x13 x14 x15 x16 x17 x18 x19 x20 x21 x22 x23 : Int} {x2 : Nat} (h0 : 0 ≤ x3) (h1 : x3 ≤ 900) (h2 : 0 ≤ x4) (h3 : x4 ≤ 900) (h4 : 0 ≤ x5) (h5 : x5 ≤ 900) (h6 : (x6 = 24 ∨ x3 < x4)) (h7 : x3 ≤ x4) (h8 : (¬ x7 = 0 ∨ x5 ≤ x3)) (h9 : 2 * (900 - x3) + 1 - min 1 (max x7 (-x7)) < ((x2 + 1 : Nat) : Int)) (h10 : x8 = x7) (h11 : x8 = 0) (h12 : x9 = x6) (h13 : x10 = 24) (h14 : ¬ x9 = x10) (h15 : 0 ≤ x11) (h16 : x11 ≤ 900) (h17 : 0 ≤ x12) (h18 : x12 ≤ 900) (h19 : (x13 = 24 ∨ x11 < x12)) (h20 : x11 ≤ x12) (h21 : 0 ≤ x14) (h22 : x14 ≤ 900) (h23 : (x15 = 0 → x7 = 0 ∧ x14 - x5 ≤ x11 - x3)) (h24 : x3 ≤ x11) (h25 : x16 = 30) (h26 : 0 ≤ x17) (h27 : x17 ≤ 1) (h28 : 0 ≤ x18) (h29 : x18 ≤ 900) (h30 : 0 ≤ x19) (h31 : x19 ≤ 900) (h32 : (x20 = 24 ∨ x18 < x19)) (h33 : x18 ≤ x19) (h34 : ((x17 = 0 ∧ x18 = x11 ∧ x19 = x12 ∧ x20 = x13 ∧ x21 = x15 ∧ ¬ (x15 = 0 ∧ x13 = x16)) ∨ (x17 = 1 ∧ x12 ≤ x18 ∧ x21 = 0 ∧ x15 = 0 ∧ x13 = x16))) (h35 : x17 = 0) (h36 : 0 ≤ x0) (h37 : x0 ≤ 900) (h38 : x0 = x18) (h39 : 0 ≤ x22) (h40 : x22 ≤ 900) (h41 : x22 = x19) (h42 : x23 = x20) (h43 : ¬ x1 = 0) : 2 * (900 - x0) + 1 - min 1 (max x1 (-x1)) < (x2 : Int) := by omega
theorem o48_72 {x0 x1 x2 x3 x4 x5 x7 x8 x9 x10 x11 x12 x13 x14 x15 x16 x17 x18 x19 x20 x21 x22 : Int} {x6 : Nat} (h0 : 0 ≤ x1) (h1 : x1 ≤ 900) (h2 : 0 ≤ x2) (h3 : x2 ≤ 900) (h4 : 0 ≤ x3) (h5 : x3 ≤ 900) (h6 : (x4 = 24 ∨ x1 < x2)) (h7 : x1 ≤ x2) (h8 : (¬ x5 = 0 ∨ x3 ≤ x1)) (h9 : 2 * (900 - x1) + 1 - min 1 (max x5 (-x5)) < ((x6 + 1 : Nat) : Int)) (h10 : x7 = x5) (h11 : x7 = 0) (h12 : x8 = x4) (h13 : x9 = 24) (h14 : ¬ x8 = x9) (h15 : 0 ≤ x10) (h16 : x10 ≤ 900) (h17 : 0 ≤ x11) (h18 : x11 ≤ 900) (h19 : (x12 = 24 ∨ x10 < x11)) (h20 : x10 ≤ x11) (h21 : 0 ≤ x13) (h22 : x13 ≤ 900) (h23 : (x14 = 0 → x5 = 0 ∧ x13 - x3 ≤ x10 - x1)) (h24 : x1 ≤ x10) (h25 : x15 = 30) (h26 : 0 ≤ x16) (h27 : x16 ≤ 1) (h28 : 0 ≤ x17) (h29 : x17 ≤ 900) (h30 : 0 ≤ x18) (h31 : x18 ≤ 900) (h32 : (x19 = 24 ∨ x17 < x18)) (h33 : x17 ≤ x18) (h34 : ((x16 = 0 ∧ x17 = x10 ∧ x18 = x11 ∧ x19 = x12 ∧ x20 = x14 ∧ ¬ (x14 = 0 ∧ x12 = x15)) ∨ (x16 = 1 ∧ x11 ≤ x17 ∧ x20 = 0 ∧ x14 = 0 ∧ x12 = x15))) (h35 : x16 = 0) (h36 : 0 ≤ x0) (h37 : x0 ≤ 900) (h38 : x0 = x17) (h39 : 0 ≤ x21) (h40 : x21 ≤ 900) (h41 : x21 = x18) (h42 : x22 = x19) : 0 ≤ x0 := by omega
theorem o48_73 {x0 x1 x2 x3 x4 x5 x7 x8 x9 x10 x11 x12 x13 x14 x15 x16 x17 x18 x19 x20 x21 x22 : Int} {x6 : Nat} (h0 : 0 ≤ x1) (h1 : x1 ≤ 900) (h2 : 0 ≤ x2) (h3 : x2 ≤ 900) (h4 : 0 ≤ x3) (h5 : x3 ≤ 900) (h6 : (x4 = 24 ∨ x1 < x2)) (h7 : x1 ≤ x2) (h8 : (¬ x5 = 0 ∨ x3 ≤ x1)) (h9 : 2 * (900 - x1) + 1 - min 1 (max x5 (-x5)) < ((x6 + 1 : Nat) : Int)) (h10 : x7 = x5) (h11 : x7 = 0) (h12 : x8 = x4) (h13 : x9 = 24) (h14 : ¬ x8 = x9) (h15 : 0 ≤ x10) (h16 : x10 ≤ 900) (h17 : 0 ≤ x11) (h18 : x11 ≤ 900) (h19 : (x12 = 24 ∨ x10 < x11)) (h20 : x10 ≤ x11) (h21 : 0 ≤ x13) (h22 : x13 ≤ 900) (h23 : (x14 = 0 → x5 = 0 ∧ x13 - x3 ≤ x10 - x1)) (h24 : x1 ≤ x10) (h25 : x15 = 30) (h26 : 0 ≤ x16) (h27 : x16 ≤ 1) (h28 : 0 ≤ x17) (h29 : x17 ≤ 900) (h30 : 0 ≤ x18) (h31 : x18 ≤ 900) (h32 : (x19 = 24 ∨ x17 < x18)) (h33 : x17 ≤ x18) (h34 : ((x16 = 0 ∧ x17 = x10 ∧ x18 = x11 ∧ x19 = x12 ∧ x20 = x14 ∧ ¬ (x14 = 0 ∧ x12 = x15)) ∨ (x16 = 1 ∧ x11 ≤ x17 ∧ x20 = 0 ∧ x14 = 0 ∧ x12 = x15))) (h35 : x16 = 0) (h36 : 0 ≤ x0) (h37 : x0 ≤ 900) (h38 : x0 = x17) (h39 : 0 ≤ x21) (h40 : x21 ≤ 900) (h41 : x21 = x18) (h42 : x22 = x19) : x0 ≤ 900 := by omega
theorem o48_74 {x0 x1 x2 x3 x4 x5 x7 x8 x9 x10 x11 x12 x13 x14 x15 x16 x17 x18 x19 x20 x21 x22 : Int} {x6 : Nat} (h0 : 0 ≤ x1) (h1 : x1 ≤ 900) (h2 : 0 ≤ x2) (h3 : x2 ≤ 900) (h4 : 0 ≤ x3) (h5 : x3 ≤ 900) (h6 : (x4 = 24 ∨ x1 < x2)) (h7 : x1 ≤ x2) (h8 : (¬ x5 = 0 ∨ x3 ≤ x1)) (h9 : 2 * (900 - x1) + 1 - min 1 (max x5 (-x5)) < ((x6 + 1 : Nat) : Int)) (h10 : x7 = x5) (h11 : x7 = 0) (h12 : x8 = x4) (h13 : x9 = 24) (h14 : ¬ x8 = x9) (h15 : 0 ≤ x10) (h16 : x10 ≤ 900) (h17 : 0 ≤ x11) (h18 : x11 ≤ 900) (h19 : (x12 = 24 ∨ x10 < x11)) (h20 : x10 ≤ x11) (h21 : 0 ≤ x13) (h22 : x13 ≤ 900) (h23 : (x14 = 0 → x5 = 0 ∧ x13 - x3 ≤ x10 - x1)) (h24 : x1 ≤ x10) (h25 : x15 = 30) (h26 : 0 ≤ x16) (h27 : x16 ≤ 1) (h28 : 0 ≤ x17) (h29 : x17 ≤ 900) (h30 : 0 ≤ x18) (h31 : x18 ≤ 900) (h32 : (x19 = 24 ∨ x17 < x18)) (h33 : x17 ≤ x18) (h34 : ((x16 = 0 ∧ x17 = x10 ∧ x18 = x11 ∧ x19 = x12 ∧ x20 = x14 ∧ ¬ (x14 = 0 ∧ x12 = x15)) ∨ (x16 = 1 ∧ x11 ≤ x17 ∧ x20 = 0 ∧ x14 = 0 ∧ x12 = x15))) (h35 : x16 = 0) (h36 : 0 ≤ x21) (h37 : x21 ≤ 900) (h38 : x21 = x17) (h39 : 0 ≤ x0) (h40 : x0 ≤ 900) (h41 : x0 = x18) (h42 : x22 = x19) : 0 ≤ x0 := by omega
theorem o48_75 {x0 x1 x2 x3 x4 x5 x7 x8 x9 x10 x11 x12 x13 x14 x15 x16 x17 x18 x19 x20 x21 x22 : Int} {x6 : Nat} (h0 : 0 ≤ x1) (h1 : x1 ≤ 900) (h2 : 0 ≤ x2) (h3 : x2 ≤ 900) (h4 : 0 ≤ x3) (h5 : x3 ≤ 900) (h6 : (x4 = 24 ∨ x1 < x2)) (h7 : x1 ≤ x2) (h8 : (¬ x5 = 0 ∨ x3 ≤ x1)) (h9 : 2 * (900 - x1) + 1 - min 1 (max x5 (-x5)) < ((x6 + 1 : Nat) : Int)) (h10 : x7 = x5) (h11 : x7 = 0) (h12 : x8 = x4) (h13 : x9 = 24) (h14 : ¬ x8 = x9) (h15 : 0 ≤ x10) (h16 : x10 ≤ 900) (h17 : 0 ≤ x11) (h18 : x11 ≤ 900) (h19 : (x12 = 24 ∨ x10 < x11)) (h20 : x10 ≤ x11) (h21 : 0 ≤ x13) (h22 : x13 ≤ 900) (h23 : (x14 = 0 → x5 = 0 ∧ x13 - x3 ≤ x10 - x1)) (h24 : x1 ≤ x10) (h25 : x15 = 30) (h26 : 0 ≤ x16) (h27 : x16 ≤ 1) (h28 : 0 ≤ x17) (h29 : x17 ≤ 900) (h30 : 0 ≤ x18) (h31 : x18 ≤ 900) (h32 : (x19 = 24 ∨ x17 < x18)) (h33 : x17 ≤ x18) (h34 : ((x16 = 0 ∧ x17 = x10 ∧ x18 = x11 ∧ x19 = x12 ∧ x20 = x14 ∧ ¬ (x14 = 0 ∧ x12 = x15)) ∨ (x16 = 1 ∧ x11 ≤ x17 ∧ x20 = 0 ∧ x14 = 0 ∧ x12 = x15))) (h35 : x16 = 0) (h36 : 0 ≤ x21) (h37 : x21 ≤ 900) (h38 : x21 = x17) (h39 : 0 ≤ x0) (h40 : x0 ≤ 900) (h41 : x0 = x18) (h42 : x22 = x19) : x0 ≤ 900 := by omega
theorem o48_76 {x0 x1 x2 x3 x4 x5 x7 x8 x9 x10 x11 x12 x13 x14 x15 x16 x17 x18 x19 x20 x21 x22 : Int} {x6 : Nat} (h0 : 0 ≤ x1) (h1 : x1 ≤ 900) (h2 : 0 ≤ x2) (h3 : x2 ≤ 900) (h4 : 0 ≤ x3) (h5 : x3 ≤ 900) (h6 : (x4 = 24 ∨ x1 < x2)) (h7 : x1 ≤ x2) (h8 : (¬ x5 = 0 ∨ x3 ≤ x1)) (h9 : 2 * (900 - x1) + 1 - min 1 (max x5 (-x5)) < ((x6 + 1 : Nat) : Int)) (h10 : x7 = x5) (h11 : x7 = 0) (h12 : x8 = x4) (h13 : x9 = 24) (h14 : ¬ x8 = x9) (h15 : 0 ≤ x10) (h16 : x10 ≤ 900) (h17 : 0 ≤ x11) (h18 : x11 ≤ 900) (h19 : (x12 = 24 ∨ x10 < x11)) (h20 : x10 ≤ x11) (h21 : 0 ≤ x0) (h22 : x0 ≤ 900) (h23 : (x13 = 0 → x5 = 0 ∧ x0 - x3 ≤ x10 - x1)) (h24 : x1 ≤ x10) (h25 : x14 = 30) (h26 : 0 ≤ x15) (h27 : x15 ≤ 1) (h28 : 0 ≤ x16) (h29 : x16 ≤ 900) (h30 : 0 ≤ x17) (h31 : x17 ≤ 900) (h32 : (x18 = 24 ∨ x16 < x17)) (h33 : x16 ≤ x17) (h34 : ((x15 = 0 ∧ x16 = x10 ∧ x17 = x11 ∧ x18 = x12 ∧ x19 = x13 ∧ ¬ (x13 = 0 ∧ x12 = x14)) ∨ (x15 = 1 ∧ x11 ≤ x16 ∧ x19 = 0 ∧ x13 = 0 ∧ x12 = x14))) (h35 : x15 = 0) (h36 : 0 ≤ x20) (h37 : x20 ≤ 900) (h38 : x20 = x16) (h39 : 0 ≤ x21) (h40 : x21 ≤ 900) (h41 : x21 = x17) (h42 : x22 = x18) : 0 ≤ x0 := by omega
theorem o48_77 {x0 x1 x2 x3 x4 x5 x7 x8 x9 x10 x11 x12 x13 x14 x15 x16 x17 x18 x19 x20 x21 x22 : Int} {x6 : Nat} (h0 : 0 ≤ x1) (h1 : x1 ≤ 900) (h2 : 0 ≤ x2) (h3 : x2 ≤ 900) (h4 : 0 ≤ x3) (h5 : x3 ≤ 900) (h6 : (x4 = 24 ∨ x1 < x2)) (h7 : x1 ≤ x2) (h8 : (¬ x5 = 0 ∨ x3 ≤ x1)) (h9 : 2 * (900 - x1) + 1 - min 1 (max x5 (-x5)) < ((x6 + 1 : Nat) : Int)) (h10 : x7 = x5) (h11 : x7 = 0) (h12 : x8 = x4) (h13 : x9 = 24) (h14 : ¬ x8 = x9) (h15 : 0 ≤ x10) (h16 : x10 ≤ 900) (h17 : 0 ≤ x11) (h18 : x11 ≤ 900) (h19 : (x12 = 24 ∨ x10 < x11)) (h20 : x10 ≤ x11) (h21 : 0 ≤ x0) (h22 : x0 ≤ 900) (h23 : (x13 = 0 → x5 = 0 ∧ x0 - x3 ≤ x10 - x1)) (h24 : x1 ≤ x10) (h25 : x14 = 30) (h26 : 0 ≤ x15) (h27 : x15 ≤ 1) (h28 : 0 ≤ x16) (h29 : x16 ≤ 900) (h30 : 0 ≤ x17) (h31 : x17 ≤ 900) (h32 : (x18 = 24 ∨ x16 < x17)) (h33 : x16 ≤ x17) (h34 : ((x15 = 0 ∧ x16 = x10 ∧ x17 = x11 ∧ x18 = x12 ∧ x19 = x13 ∧ ¬ (x13 = 0 ∧ x12 = x14)) ∨ (x15 = 1 ∧ x11 ≤ x16 ∧ x19 = 0 ∧ x13 = 0 ∧ x12 = x14))) (h35 : x15 = 0) (h36 : 0 ≤ x20) (h37 : x20 ≤ 900) (h38 : x20 = x16) (h39 : 0 ≤ x21) (h40 : x21 ≤ 900) (h41 : x21 = x17) (h42 : x22 = x18) : x0 ≤ 900 := by omega
theorem o48_78 {x0 x1 x2 x3 x4 x5 x6 x7 x9 x10 x11 x12 x13 x14 x15 x16 x17 x18 x19 x20 x21 x22 : Int} {x8 : Nat} (h0 : 0 ≤ x3) (h1 : x3 ≤ 900) (h2 : 0 ≤ x4) (h3 : x4 ≤ 900) (h4 : 0 ≤ x5) (h5 : x5 ≤ 900) (h6 : (x6 = 24 ∨ x3 < x4)) (h7 : x3 ≤ x4) (h8 : (¬ x7 = 0 ∨ x5 ≤ x3)) (h9 : 2 * (900 - x3) + 1 - min 1 (max x7 (-x7)) < ((x8 + 1 : Nat) : Int)) (h10 : x9 = x7) (h11 : x9 = 0) (h12 : x10 = x6) (h13 : x11 = 24) (h14 : ¬ x10 = x11) (h15 : 0 ≤ x12) (h16 : x12 ≤ 900) (h17 : 0 ≤ x13) (h18 : x13 ≤ 900) (h19 : (x14 = 24 ∨ x12 < x13)) (h20 : x12 ≤ x13) (h21 : 0 ≤ x15) (h22 : x15 ≤ 900) (h23 : (x16 = 0 → x7 = 0 ∧ x15 - x5 ≤ x12 - x3)) (h24 : x3 ≤ x12) (h25 : x17 = 30) (h26 : 0 ≤ x18) (h27 : x18 ≤ 1) (h28 : 0 ≤ x19) (h29 : x19 ≤ 900) (h30 : 0 ≤ x20) (h31 : x20 ≤ 900) (h32 : (x21 = 24 ∨ x19 < x20)) (h33 : x19 ≤ x20) (h34 : ((x18 = 0 ∧ x19 = x12 ∧ x20 = x13 ∧ x21 = x14 ∧ x22 = x16 ∧ ¬ (x16 = 0 ∧ x14 = x17)) ∨ (x18 = 1 ∧ x13 ≤ x19 ∧ x22 = 0 ∧ x16 = 0 ∧ x14 = x17))) (h35 : x18 = 0) (h36 : 0 ≤ x1) (h37 : x1 ≤ 900) (h38 : x1 = x19) (h39 : 0 ≤ x2) (h40 : x2 ≤ 900) (h41 : x2 = x20) (h42 : x0 = x21) : (x0 = 24 ∨ x1 < x2) := by omega
theorem o48_79 {x0 x1 x2 x3 x4 x5 x6 x8 x9 x10 x11 x12 x13 x14 x15 x16 x17 x18 x19 x20 x21 x22 : Int} {x7 : Nat} (h0 : 0 ≤ x2) (h1 : x2 ≤ 900) (h2 : 0 ≤ x3) (h3 : x3 ≤ 900) (h4 : 0 ≤ x4) (h5 : x4 ≤ 900) (h6 : (x5 = 24 ∨ x2 < x3)) (h7 : x2 ≤ x3) (h8 : (¬ x6 = 0 ∨ x4 ≤ x2)) (h9 : 2 * (900 - x2) + 1 - min 1 (max x6 (-x6)) < ((x7 + 1 : Nat) : Int)) (h10 : x8 = x6) (h11 : x8 = 0) (h12 : x9 = x5) (h13 : x10 = 24) (h14 : ¬ x9 = x10) (h15 : 0 ≤ x11) (h16 : x11 ≤ 900) (h17 : 0 ≤ x12) (h18 : x12 ≤ 900) (h19 : (x13 = 24 ∨ x11 < x12)) (h20 : x11 ≤ x12) (h21 : 0 ≤ x14) (h22 : x14 ≤ 900) (h23 : (x15 = 0 → x6 = 0 ∧ x14 - x4 ≤ x11 - x2)) (h24 : x2 ≤ x11) (h25 : x16 = 30) (h26 : 0 ≤ x17) (h27 : x17 ≤ 1) (h28 : 0 ≤ x18) (h29 : x18 ≤ 900) (h30 : 0 ≤ x19) (h31 : x19 ≤ 900) (h32 : (x20 = 24 ∨ x18 < x19)) (h33 : x18 ≤ x19) (h34 : ((x17 = 0 ∧ x18 = x11 ∧ x19 = x12 ∧ x20 = x13 ∧ x21 = x15 ∧ ¬ (x15 = 0 ∧ x13 = x16)) ∨ (x17 = 1 ∧ x12 ≤ x18 ∧ x21 = 0 ∧ x15 = 0 ∧ x13 = x16))) (h35 : x17 = 0) (h36 : 0 ≤ x0) (h37 : x0 ≤ 900) (h38 : x0 = x18) (h39 : 0 ≤ x1) (h40 : x1 ≤ 900) (h41 : x1 = x19) (h42 : x22 = x20) : x0 ≤ x1 := by omega
theorem o48_80 {x0 x1 x2 x3 x4 x5 x6 x7 x9 x10 x11 x12 x13 x14 x15 x16 x17 x18 x19 x20 x21 x22 x23 : Int} {x8 : Nat} (h0 : 0 ≤ x3) (h1 : x3 ≤ 900) (h2 : 0 ≤ x4) (h3 : x4 ≤ 900) (h4 : 0 ≤ x5) (h5 : x5 ≤ 900) (h6 : (x6 = 24 ∨ x3 < x4)) (h7 : x3 ≤ x4) (h8 : (¬ x7 = 0 ∨ x5 ≤ x3)) (h9 : 2 * (900 - x3) + 1 - min 1 (max x7 (-x7)) < ((x8 + 1 : Nat) : Int)) (h10 : x9 = x7) (h11 : x9 = 0) (h12 : x10 = x6) (h13 : x11 = 24) (h14 : ¬ x10 = x11) (h15 : 0 ≤ x12) (h16 : x12 ≤ 900) (h17 : 0 ≤ x13) (h18 : x13 ≤ 900) (h19 : (x14 = 24 ∨ x12 < x13)) (h20 : x12 ≤ x13) (h21 : 0 ≤ x1) (h22 : x1 ≤ 900) (h23 : (x15 = 0 → x7 = 0 ∧ x1 - x5 ≤ x12 - x3)) (h24 : x3 ≤ x12) (h25 : x16 = 30) (h26 : 0 ≤ x17) (h27 : x17 ≤ 1) (h28 : 0 ≤ x18) (h29 : x18 ≤ 900) (h30 : 0 ≤ x19) (h31 : x19 ≤ 900) (h32 : (x20 = 24 ∨ x18 < x19)) (h33 : x18 ≤ x19) (h34 : ((x17 = 0 ∧ x18 = x12 ∧ x19 = x13 ∧ x20 = x14 ∧ x21 = x15 ∧ ¬ (x15 = 0 ∧ x14 = x16)) ∨ (x17 = 1 ∧ x13 ≤ x18 ∧ x21 = 0 ∧ x15 = 0 ∧ x14 = x16))) (h35 : x17 = 0) (h36 : 0 ≤ x2) (h37 : x2 ≤ 900) (h38 : x2 = x18) (h39 : 0 ≤ x22) (h40 : x22 ≤ 900) (h41 : x22 = x19) (h42 : x23 = x20) (h43 : ¬ x0 = 0) : (¬ x0 = 0 ∨ x1 ≤ x2) := by omega
theorem o48_81 {x0 x1 x2 x3 x4 x5 x6 x8 x9 x10 x11 x12 x13 x14 x15 x16 x17 x18 x19 x20 x21 x22 x23 : Int} {x7 : Nat} (h0 : 0 ≤ x2) (h1 : x2 ≤ 900) (h2 : 0 ≤ x3) (h3 : x3 ≤ 900) (h4 : 0 ≤ x4) (h5 : x4 ≤ 900) (h6 : (x5 = 24 ∨ x2 < x3)) (h7 : x2 ≤ x3) (h8 : (¬ x6 = 0 ∨ x4 ≤ x2)) (h9 : 2 * (900 - x2) + 1 - min 1 (max x6 (-x6)) < ((x7 + 1 : Nat) : Int)) (h10 : x8 = x6) (h11 : x8 = 0) (h12 : x9 = x5) (h13 : x10 = 24) (h14 : ¬ x9 = x10) (h15 : 0 ≤ x11) (h16 : x11 ≤ 900) (h17 : 0 ≤ x12) (h18 : x12 ≤ 900) (h19 : (x13 = 24 ∨ x11 < x12)) (h20 : x11 ≤ x12) (h21 : 0 ≤ x14) (h22 : x14 ≤ 900) (h23 : (x0 = 0 → x6 = 0 ∧ x14 - x4 ≤ x11 - x2)) (h24 : x2 ≤ x11) (h25 : x15 = 30) (h26 : 0 ≤ x16) (h27 : x16 ≤ 1) (h28 : 0 ≤ x17) (h29 : x17 ≤ 900) (h30 : 0 ≤ x18) (h31 : x18 ≤ 900) (h32 : (x19 = 24 ∨ x17 < x18)) (h33 : x17 ≤ x18) (h34 : ((x16 = 0 ∧ x17 = x11 ∧ x18 = x12 ∧ x19 = x13 ∧ x20 = x0 ∧ ¬ (x0 = 0 ∧ x13 = x15)) ∨ (x16 = 1 ∧ x12 ≤ x17 ∧ x20 = 0 ∧ x0 = 0 ∧ x13 = x15))) (h35 : x16 = 0) (h36 : 0 ≤ x21) (h37 : x21 ≤ 900) (h38 : x21 = x17) (h39 : 0 ≤ x22) (h40 : x22 ≤ 900) (h41 : x22 = x18) (h42 : x23 = x19) (h43 : ¬ x1 = 0) : (x1 = 0 → x0 = 0) := by omega
theorem o48_82 {x0 x1 x2 x3 x4 x5 : Int} (h0 : x2 = 0) (h1 : x3 = 0) (h2 : 0 ≤ x0) (h3 : x0 ≤ 900) (h4 : x2 ≤ x0) (h5 : 0 ≤ x4) (h6 : x4 ≤ 900) (h7 : (x5 = 24 ∨ x0 < x4)) (h8 : x1 = x3) (h9 : x0 ≤ x4) : 2 * (900 - x0) + 1 - min 1 (max x1 (-x1)) < (((2 * (900 - x0) + 1 - min 1 (max x1 (-x1)) + 1).toNat : Nat) : Int) := by omega
theorem o48_83 {x0 x1 x2 x3 : Int} (h0 : x1 = 0) (h1 : 0 ≤ x0) (h2 : x0 ≤ 900) (h3 : x1 ≤ x0) (h4 : 0 ≤ x2) (h5 : x2 ≤ 900) (h6 : (x3 = 24 ∨ x0 < x2)) (h7 : x0 ≤ x2) : 0 ≤ x0 := by omega
theorem o48_84 {x0 x1 x2 x3 : Int} (h0 : x1 = 0) (h1 : 0 ≤ x0) (h2 : x0 ≤ 900) (h3 : x1 ≤ x0) (h4 : 0 ≤ x2) (h5 : x2 ≤ 900) (h6 : (x3 = 24 ∨ x0 < x2)) (h7 : x0 ≤ x2) : x0 ≤ 900 := by omega
theorem o48_85 {x0 x1 x2 x3 : Int} (h0 : x1 = 0) (h1 : 0 ≤ x2) (h2 : x2 ≤ 900) (h3 : x1 ≤ x2) (h4 : 0 ≤ x0) (h5 : x0 ≤ 900) (h6 : (x3 = 24 ∨ x2 < x0)) (h7 : x2 ≤ x0) : 0 ≤ x0 := by omega
theorem o48_86 {x0 x1 x2 x3 : Int} (h0 : x1 = 0) (h1 : 0 ≤ x2) (h2 : x2 ≤ 900) (h3 : x1 ≤ x2) (h4 : 0 ≤ x0) (h5 : x0 ≤ 900) (h6 : (x3 = 24 ∨ x2 < x0)) (h7 : x2 ≤ x0) : x0 ≤ 900 := by omega
theorem o48_87 {x0 : Int} (h0 : 0 ≤ x0) (h1 : x0 ≤ 900) (h2 : x0 = 0) : 0 ≤ x0 := by omega
theorem o48_88 {x0 : Int} (h0 : 0 ≤ x0) (h1 : x0 ≤ 900) (h2 : x0 = 0) : x0 ≤ 900 := by omega
theorem o48_89 {x0 : Int} (h0 : 0 ≤ x0) (h1 : x0 ≤ 5) (h2 : x0 = 0) : 0 ≤ x0 := by omega
theorem o48_90 {x0 : Int} (h0 : 0 ≤ x0) (h1 : x0 ≤ 5) (h2 : x0 = 0) : x0 ≤ 5 := by omega
theorem o48_91 {x0 x1 x2 x3 : Int} (h0 : x3 = 0) (h1 : 0 ≤ x1) (h2 : x1 ≤ 900) (h3 : x3 ≤ x1) (h4 : 0 ≤ x2) (h5 : x2 ≤ 900) (h6 : (x0 = 24 ∨ x1 < x2)) (h7 : x1 ≤ x2) : (x0 = 24 ∨ x1 < x2) := by omega
theorem o48_92 {x0 x1 x2 x3 : Int} (h0 : x2 = 0) (h1 : 0 ≤ x0) (h2 : x0 ≤ 900) (h3 : x2 ≤ x0) (h4 : 0 ≤ x1) (h5 : x1 ≤ 900) (h6 : (x3 = 24 ∨ x0 < x1)) (h7 : x0 ≤ x1) : x0 ≤ x1 := by omega
theorem o48_93 {x0 x1 x2 x3 x4 x5 x6 : Int} (h0 : x3 = 0) (h1 : x4 = 0) (h2 : 0 ≤ x1) (h3 : x1 ≤ 900) (h4 : x1 = 0) (h5 : 0 ≤ x2) (h6 : x2 ≤ 900) (h7 : x3 ≤ x2) (h8 : 0 ≤ x5) (h9 : x5 ≤ 900) (h10 : (x6 = 24 ∨ x2 < x5)) (h11 : x0 = x4) (h12 : x2 ≤ x5) : (¬ x0 = 0 ∨ x1 ≤ x2) := by omega
theorem o48_94 {x0 x1 : Int} (h0 : 0 ≤ x0) (h1 : x0 ≤ 5) (h2 : x0 = 0) (h3 : 0 ≤ x1) (h4 : x1 ≤ 5) (h5 : x1 = 0) : (x0 = 0 ∨ 1 ≤ x1) := by omega
theorem o48_95 {x0 x1 : Int} (h0 : 0 ≤ x1) (h1 : x1 ≤ 5) (h2 : x1 = 0) (h3 : 0 ≤ x0) (h4 : x0 ≤ 5) (h5 : x0 = 0) : (x0 = 0 ∨ 1 ≤ x1) := by omega
theorem o48_96 {x0 x1 : Int} (h0 : x0 = 0) (h1 : x1 = x0) : (x1 = 0 → x0 = 0) := by omega
set_option maxHeartbeats 4000000 in
set_option maxRecDepth 100000 in
theorem c_X12_plain4 (l : Launch) (G : GG) (Z : RZ) (ad : Nat → Nat) (ws0 : va_W) (hT : Ty G (SM tt) ad ws0) : Mq l yX12_plain cX12_plain 2 none 1 G Z [.ref (ad 4)] ws0 (PV G (SM tt) ad [4] ws0 (fun u => (Zf u))) := by
  refine Mq.start (by decide) (Nat.le_of_ble_eq_true rfl) ?_
  intro p e s m below meth c A ls C0 hZ h hl
  have hl : lv_has ls 2 [(0, .ref (ad 4))] := hl
  have h : Wt G (SM tt) ad A s s.heap [] ws0 := ⟨h, hT⟩
  obtain ⟨args, hargs⟩ : ∃ z, z = ([.ref (ad 4)] : List Value).toArray := ⟨_, rfl⟩
  rw [← hargs] at C0 ⊢
  have C0 : Cx p s m args meth c RX12 cX12_plain 2 none := C0
  obtain ⟨Q, hQ⟩ : ∃ z, z = MQ below ((PV G (SM tt) ad [4] ws0 (fun u => (Zf u))) A) args s 0 0 A := ⟨_, rfl⟩
  rw [← hQ]
  refine y_c1 (n := 0) C0 (by decide) dX12_plain_0 (fun v_1 e_2 => ?_)
  refine lv_istore_n (lv' := [(1, .int v_1), (0, .ref (ad 4))]) C0.1 C0.2.1 dX12_plain_1 rfl hl (by decide) rfl (fun ls hl => ?_)
  have lp_6 : ∀ (n_8 : Nat) (x1_3 : Int32) (H : Heap) (locs : List Loc) (ls : Array Slot) (ws_4 : va_W), 1774 - x1_3.toInt < (n_8 : Int) → 0 ≤ x1_3.toInt → x1_3.toInt ≤ 1774 → (∀ p, p < x1_3.toInt.toNat → aI ws_4 4 p = 0) → Wt G (SM tt) ad A s H locs ws_4 → Fr (SM tt) [4] ws0 ws_4 → lv_has ls 2 [(1, .int x1_3), (0, .ref (ad 4))] → W p l e (rmd 1 0 0) s m args below meth c H locs 0 0 Q (F0 m 2 ls []) := by
    intro n_8
    induction n_8 with
    | zero => intro x1_3 H locs ls ws_4 hn_9 b_10 b_11 hZf h hF_5 hl; exact ((o48_1 b_10 b_11 hn_9)).elim
    | succ n_8 ih_7 =>
      intro x1_3 H locs ls ws_4 hn_9 b_10 b_11 hZf h hF_5 hl
      refine lv_iload_n C0.1 C0.2.1 dX12_plain_2 rfl (lv_at hl 0 rfl) ?_
      refine y_c3 (n := 1774) C0 (by decide) dX12_plain_3 (fun v_12 e_13 => ?_)
      refine y_icmp_ge (tgt := 19) C0 dX12_plain_6 (by decide) (fun c_14 => ?_) (fun c_14 => ?_)
      · -- 6
        rw [hQ]
        exact y_vret C0 h hF_5 (zf_e hZf (o48_2 b_10 b_11 hn_9 e_13 c_14)) dX12_plain_19
      · -- 6
        refine lv_aload_n C0.1 C0.2.1 dX12_plain_9 rfl (lv_at hl 1 rfl) ?_
        refine lv_iload_n C0.1 C0.2.1 dX12_plain_10 rfl (lv_at hl 0 rfl) ?_
        refine y_c1 (n := 0) C0 (by decide) dX12_plain_11 (fun v_15 e_16 => ?_)
        have f_19 := o48_5 x1_3.toInt.toNat (o48_6 b_10 b_11 hn_9 e_13 c_14) (o48_7 b_10 b_11 hn_9 e_13 c_14)
        refine y_iast C0 h kSM_4 rfl (by decide) (o48_3 b_10 b_11 hn_9 e_13 c_14) (o48_4 b_10 b_11 hn_9 e_13 c_14) (Int.le_trans f_19.1 (o48_8 e_16)) (Int.le_trans (o48_9 e_16) f_19.2) dX12_plain_12 (fun H locs ws_17 h u_18 => ?_)
        refine y_inc (kp := 0) (n := 1) (fun v_20 => [(1, .int v_20), (0, .ref (ad 4))]) C0 hl rfl (by decide) (by decide) (fun _ => rfl) (o48_10 b_10 b_11 hn_9 e_13 c_14 (le_min x1_3) (le_max x1_3) (le_min v_12) (le_max v_12)) (o48_11 b_10 b_11 hn_9 e_13 c_14 (le_min x1_3) (le_max x1_3) (le_min v_12) (le_max v_12)) dX12_plain_13 (fun v_20 ls e_21 hl => ?_)
        refine lv_goto (tgt := 2) C0.1 C0.2.1 dX12_plain_16 (by decide) ?_
        exact ih_7 v_20 _ _ _ _ (o48_12 b_10 b_11 hn_9 e_13 c_14 e_21) (o48_13 b_10 b_11 hn_9 e_13 c_14 e_21) (o48_14 b_10 b_11 hn_9 e_13 c_14 e_21) ((zf_s hZf u_18 (o48_15 b_10 b_11 hn_9 e_13 c_14 e_21) (o48_16 e_16) (o48_17 b_10 b_11 hn_9 e_13 c_14 e_21) e_21)) h (Fr.tr hF_5 (Fr.up u_18.1 kSM_4 (by decide))) (lv_sub hl [0, 1] rfl)
  exact lp_6 ((1774 - v_1.toInt + 1).toNat) v_1 _ _ _ _ (o48_18 e_2) (o48_8 e_2) (o48_19 e_2) ((zf_i e_2)) h Fr.rf (lv_sub hl [0, 1] rfl)
set_option maxHeartbeats 4000000 in
set_option maxRecDepth 100000 in
theorem c_X12_cityR (l : Launch) (G : GG) (Z : RZ) (ad : Nat → Nat) (ws0 : va_W) (hT : Ty G (SM q0) ad ws0) (a1 : Int32) (hJ : J ws0) : Mq l yX12_city cX12_city 3 (some .int) 33 G Z [.ref (ad 0), .int a1] ws0 (PI G (SM q0) ad [0, 1, 4] ws0 (fun r u => (J u) ∧ (CtF (fI ws0 0 5).toInt (fI u 0 5).toInt a1))) := by
  refine Mq.start (by decide) (Nat.le_of_ble_eq_true rfl) ?_
  intro p e s m below meth c A ls C0 hZ h hl
  have hl : lv_has ls 3 [(0, .ref (ad 0)), (1, .int a1)] := hl
  have h : Wt G (SM q0) ad A s s.heap [] ws0 := ⟨h, hT⟩
  obtain ⟨args, hargs⟩ : ∃ z, z = ([.ref (ad 0), .int a1] : List Value).toArray := ⟨_, rfl⟩
  rw [← hargs] at C0 ⊢
  have C0 : Cx p s m args meth c RX12 cX12_city 3 (some .int) := C0
  obtain ⟨Q, hQ⟩ : ∃ z, z = MQ below ((PI G (SM q0) ad [0, 1, 4] ws0 (fun r u => (J u) ∧ (CtF (fI ws0 0 5).toInt (fI u 0 5).toInt a1))) A) args s 0 0 A := ⟨_, rfl⟩
  rw [← hQ]
  refine lv_aload_n C0.1 C0.2.1 dX12_city_0 rfl (lv_at hl 0 rfl) ?_
  refine y_c1 (n := 0) C0 (by decide) dX12_city_1 (fun v_1 e_2 => ?_)
  refine np_X12_thrown C0 h kSM_0 q_1438 (le_min v_1) (le_max v_1) dX12_city_2 (fun H locs ws_3 h u_4 => ?_)
  refine lv_iload_n C0.1 C0.2.1 dX12_city_5 rfl (lv_at hl 1 rfl) ?_
  refine y_i2l C0 dX12_city_6 (fun w_5 e_6 => ?_)
  refine y_lc (v := 0) C0 (by decide) dX12_city_7 (fun w_7 e_8 => ?_)
  refine lv_aload_n C0.1 C0.2.1 dX12_city_8 rfl (lv_at hl 0 rfl) ?_
  refine ng_X12_taped C0 h kSM_0 q_1443 dX12_city_9 (fun v_9 e_10 e_11 e_12 => ?_)
  refine y_i2l C0 dX12_city_12 (fun w_13 e_14 => ?_)
  refine y_ci h (y_rS (As := [.long w_5, .long w_7, .long w_13]) (rest := []) C0 hZ h (c_X12_within l G Z ad _ h.2 w_5 w_7 w_13) k_X12_within q_1580 q_1579 hl.1 rfl rfl (Nat.le_of_ble_eq_true rfl) dX12_city_13 ⟨Nat.le_of_ble_eq_true rfl, Nat.le_of_ble_eq_true rfl⟩ ⟨Nat.le_of_ble_eq_true rfl, Nat.le_of_ble_eq_true rfl⟩) (fun r_18 H locs ws_15 h u_16 p_17 => ?_)
  obtain ⟨e_19, e_20, e_21⟩ := p_17
  refine y_if_ne (tgt := 22) C0 dX12_city_16 (by decide) (fun c_22 => ?_) (fun c_22 => ?_)
  · -- 16
    refine lv_aload_n C0.1 C0.2.1 dX12_city_22 rfl (lv_at hl 0 rfl) ?_
    refine lv_iload_n C0.1 C0.2.1 dX12_city_23 rfl (lv_at hl 1 rfl) ?_
    refine np_X12_size C0 h kSM_0 q_1446 (o48_20 e_6 e_8 e_11 e_12 e_14 e_19 e_20 e_21 c_22) (o48_21 e_6 e_8 e_11 e_12 e_14 e_19 e_20 e_21 c_22) dX12_city_24 (fun H locs ws_23 h u_24 => ?_)
    refine lv_aload_n C0.1 C0.2.1 dX12_city_27 rfl (lv_at hl 0 rfl) ?_
    refine y_c1 (n := 0) C0 (by decide) dX12_city_28 (fun v_25 e_26 => ?_)
    refine np_X12_taped C0 h kSM_0 q_1443 (o48_8 e_26) (o48_22 e_26) dX12_city_29 (fun H locs ws_27 h u_28 => ?_)
    have h : Wt G (SM q00) ad A s H locs ws_27 := ⟨h.1, SM_at (by rw [u_28.2.1, e_26]; exact ⟨rfl, rfl⟩) h.2⟩
    refine lv_aload_n C0.1 C0.2.1 dX12_city_32 rfl (lv_at hl 0 rfl) ?_
    refine y_c1 (n := 0) C0 (by decide) dX12_city_33 (fun v_29 e_30 => ?_)
    refine np_X12_behind C0 h kSM_0 q_1445 (o48_8 e_30) (o48_22 e_30) dX12_city_34 (fun H locs ws_31 h u_32 => ?_)
    refine lv_aload_n C0.1 C0.2.1 dX12_city_37 rfl (lv_at hl 0 rfl) ?_
    refine y_c1 (n := 0) C0 (by decide) dX12_city_38 (fun v_33 e_34 => ?_)
    refine np_X12_wrong C0 h kSM_0 q_1449 (le_min v_33) (le_max v_33) dX12_city_39 (fun H locs ws_35 h u_36 => ?_)
    refine lv_aload_n C0.1 C0.2.1 dX12_city_42 rfl (lv_at hl 0 rfl) ?_
    refine ng_X12_fresh C0 h kSM_0 q_1442 dX12_city_43 ?_
    refine y_cv h (y_rS (As := [.ref (ad 4)]) (rest := []) C0 hZ h (c_X12_plain4 l G Z ad _ h.2) k_X12_plain q_1436 q_1435 hl.1 rfl rfl (Nat.le_of_ble_eq_true rfl) dX12_city_46 ⟨Nat.le_of_ble_eq_true rfl, Nat.le_of_ble_eq_true rfl⟩ ⟨Nat.le_of_ble_eq_true rfl, Nat.le_of_ble_eq_true rfl⟩) (fun H locs ws_37 h u_38 p_39 => ?_)
    have e_40 := p_39
    obtain ⟨f_41, e_42⟩ : ∃ v, aI ws_37 4 1 = v := ⟨_, rfl⟩
    have b_43 := ty_aI 1 h.2 kSM_4 rfl (by decide)
    rw [e_42] at b_43
    obtain ⟨f_44, e_45⟩ : ∃ v, aI ws_37 4 2 = v := ⟨_, rfl⟩
    have b_46 := ty_aI 2 h.2 kSM_4 rfl (by decide)
    rw [e_45] at b_46
    obtain ⟨f_47, e_48⟩ : ∃ v, aI ws_37 4 3 = v := ⟨_, rfl⟩
    have b_49 := ty_aI 3 h.2 kSM_4 rfl (by decide)
    rw [e_48] at b_49
    obtain ⟨f_50, e_51⟩ : ∃ v, aI ws_37 4 873 = v := ⟨_, rfl⟩
    have b_52 := ty_aI 873 h.2 kSM_4 rfl (by decide)
    rw [e_51] at b_52
    refine lv_aload_n C0.1 C0.2.1 dX12_city_49 rfl (lv_at hl 0 rfl) ?_
    refine y_cv h (y_rV (As := []) (rest := []) C0 hZ h (c_X12_next l G Z ad _ h.2) k_X12_next q_1584 q_56 q_1582 kSM_0 rfl rfl rfl hl.1 rfl rfl (Nat.le_of_ble_eq_true rfl) dX12_city_50 ⟨Nat.le_of_ble_eq_true rfl, Nat.le_of_ble_eq_true rfl⟩ ⟨Nat.le_of_ble_eq_true rfl, Nat.le_of_ble_eq_true rfl⟩) (fun H locs ws_53 h u_54 p_55 => ?_)
    obtain ⟨e_56, e_57, e_58, e_59⟩ := p_55
    obtain ⟨f_60, e_61⟩ : ∃ v, fI ws_53 0 6 = v := ⟨_, rfl⟩
    have b_62 := ty_fI (k := 6) h.2 kSM_0 rfl rfl
    rw [e_61] at b_62
    have e_63 := e_56
    rw [show fI ws_37 0 7 = v_29 from (Eq.trans (Eq.trans (Fr.fI u_38 kSM_0 (by decide)) (u_36.2.2 7 (by decide))) u_32.2.1), show fI ws_53 0 6 = f_60 from e_61] at e_63
    obtain ⟨f_64, e_65⟩ : ∃ v, fI ws_53 0 9 = v := ⟨_, rfl⟩
    have b_66 := ty_fI (k := 9) h.2 kSM_0 rfl rfl
    rw [e_65] at b_66
    obtain ⟨f_67, e_68⟩ : ∃ v, fI ws_53 0 7 = v := ⟨_, rfl⟩
    have b_69 := ty_fI (k := 7) h.2 kSM_0 rfl rfl
    rw [e_68] at b_69
    have e_70 := e_57
    rw [show fI ws_53 0 9 = f_64 from e_65, show fI ws_53 0 6 = f_60 from (Eq.trans rfl e_61), show fI ws_53 0 7 = f_67 from e_68] at e_70
    obtain ⟨f_71, e_72⟩ : ∃ v, fI ws_53 0 11 = v := ⟨_, rfl⟩
    have b_73 := ty_fI (k := 11) h.2 kSM_0 rfl rfl
    rw [e_72] at b_73
    have e_74 := e_58
    rw [show fI ws_53 0 11 = f_71 from e_72, show fI ws_37 0 11 = v_33 from (Eq.trans (Fr.fI u_38 kSM_0 (by decide)) u_36.2.1)] at e_74
    have e_75 := e_59
    rw [show fI ws_53 0 6 = f_60 from (Eq.trans rfl e_61), show fI ws_53 0 7 = f_67 from (Eq.trans rfl e_68)] at e_75
    have lp_78 : ∀ (n_80 : Nat) (f_82 : Int32) (f_86 : Int32) (f_90 : Int32) (f_92 : Int32) (f_94 : Int32) (f_98 : Int32) (f_102 : Int32) (f_106 : Int32) (H : Heap) (locs : List Loc) (ls : Array Slot) (ws_76 : va_W), 2 * (900 - f_82.toInt) + 1 - min 1 (max f_92.toInt (-f_92.toInt)) < (n_80 : Int) → 0 ≤ f_82.toInt → f_82.toInt ≤ 900 → 0 ≤ f_86.toInt → f_86.toInt ≤ 900 → 0 ≤ f_94.toInt → f_94.toInt ≤ 900 → 0 ≤ f_98.toInt → f_98.toInt ≤ 5 → 0 ≤ f_102.toInt → f_102.toInt ≤ 5 → 0 ≤ f_106.toInt → f_106.toInt ≤ 5 → (f_90.toInt = 24 ∨ f_82.toInt < f_86.toInt) → f_82.toInt ≤ f_86.toInt → (¬ f_92.toInt = 0 ∨ f_94.toInt ≤ f_82.toInt) → (f_98.toInt = 0 ∨ 1 ≤ f_102.toInt) → (f_106.toInt = 0 ∨ 1 ≤ f_98.toInt) → (FLs ws_76) → fI ws_76 0 6 = f_82 → fI ws_76 0 7 = f_86 → fI ws_76 0 9 = f_90 → fI ws_76 0 11 = f_92 → aI ws_76 4 873 = f_94 → aI ws_76 4 1 = f_98 → aI ws_76 4 2 = f_102 → aI ws_76 4 3 = f_106 → Wt G (SM q00) ad A s H locs ws_76 → Fr (SM q00) [0, 4] ws_53 ws_76 → lv_has ls 3 [(0, .ref (ad 0)), (1, .int a1)] → W p l e (rmd 33 0 0) s m args below meth c H locs 0 0 Q (F0 m 53 ls []) := by
      intro n_80
      induction n_80 with
      | zero => intro f_82 f_86 f_90 f_92 f_94 f_98 f_102 f_106 H locs ls ws_76 hn_81 b_84 b_85 b_88 b_89 b_96 b_97 b_100 b_101 b_104 b_105 b_108 b_109 b_110 b_111 b_112 b_113 b_114 hFL e_83 e_87 e_91 e_93 e_95 e_99 e_103 e_107 h hF_77 hl; exact ((o48_23 b_84 b_85 b_88 b_89 b_96 b_97 b_110 b_111 b_112 hn_81)).elim
      | succ n_80 ih_79 =>
        intro f_82 f_86 f_90 f_92 f_94 f_98 f_102 f_106 H locs ls ws_76 hn_81 b_84 b_85 b_88 b_89 b_96 b_97 b_100 b_101 b_104 b_105 b_108 b_109 b_110 b_111 b_112 b_113 b_114 hFL e_83 e_87 e_91 e_93 e_95 e_99 e_103 e_107 h hF_77 hl
        refine lv_aload_n C0.1 C0.2.1 dX12_city_53 rfl (lv_at hl 0 rfl) ?_
        refine ng_X12_wrong C0 h kSM_0 q_1449 dX12_city_54 (fun v_115 e_116 e_117 e_118 => ?_)
        have qh_119 : v_115.toInt = f_92.toInt := congrArg Int32.toInt (e_116.symm.trans (Eq.trans rfl e_93))
        refine y_if_ne (tgt := 100) C0 dX12_city_57 (by decide) (fun c_120 => ?_) (fun c_120 => ?_)
        · -- 57
          refine lv_aload_n C0.1 C0.2.1 dX12_city_100 rfl (lv_at hl 0 rfl) ?_
          refine lv_aload_n C0.1 C0.2.1 dX12_city_101 rfl (lv_at hl 0 rfl) ?_
          refine ng_X12_wrong C0 h kSM_0 q_1449 dX12_city_102 (fun v_121 e_122 e_123 e_124 => ?_)
          have qh_125 : v_121.toInt = f_92.toInt := congrArg Int32.toInt (e_122.symm.trans (Eq.trans rfl e_93))
          refine np_X12_faultKind C0 h kSM_0 q_1451 (le_min v_121) (le_max v_121) dX12_city_105 (fun H locs ws_126 h u_127 => ?_)
          refine lv_aload_n C0.1 C0.2.1 dX12_city_108 rfl (lv_at hl 0 rfl) ?_
          refine lv_aload_n C0.1 C0.2.1 dX12_city_109 rfl (lv_at hl 0 rfl) ?_
          refine ng_X12_wrong C0 h kSM_0 q_1449 dX12_city_110 (fun v_128 e_129 e_130 e_131 => ?_)
          have qh_132 : v_128.toInt = f_92.toInt := congrArg Int32.toInt (e_129.symm.trans (Eq.trans (u_127.2.2 11 (by decide)) e_93))
          refine y_if_ne (tgt := 120) C0 dX12_city_113 (by decide) (fun c_133 => ?_) (fun c_133 => ((o48_24 b_84 b_85 b_88 b_89 b_96 b_97 b_110 b_111 b_112 hn_81 qh_119 c_120 qh_125 qh_132 c_133)).elim)
          refine lv_aload_n C0.1 C0.2.1 dX12_city_120 rfl (lv_at hl 0 rfl) ?_
          refine ng_X12_wrongAt C0 h kSM_0 q_1450 dX12_city_121 (fun v_134 e_135 e_136 e_137 => ?_)
          refine np_X12_faultPlace C0 h kSM_0 q_1452 (le_min v_134) (le_max v_134) dX12_city_124 (fun H locs ws_138 h u_139 => ?_)
          refine lv_aload_n C0.1 C0.2.1 dX12_city_127 rfl (lv_at hl 0 rfl) ?_
          refine ng_X12_wrong C0 h kSM_0 q_1449 dX12_city_128 (fun v_140 e_141 e_142 e_143 => ?_)
          have qh_144 : v_140.toInt = f_92.toInt := congrArg Int32.toInt (e_141.symm.trans (Eq.trans (Eq.trans (u_139.2.2 11 (by decide)) (u_127.2.2 11 (by decide))) e_93))
          refine y_if_eq (tgt := 142) C0 dX12_city_131 (by decide) (fun c_145 => ((o48_25 b_84 b_85 b_88 b_89 b_96 b_97 b_110 b_111 b_112 hn_81 qh_119 c_120 qh_125 qh_132 c_133 qh_144 c_145)).elim) (fun c_145 => ?_)
          refine y_c2 (n := (-30)) C0 (by decide) dX12_city_134 (fun v_146 e_147 => ?_)
          refine lv_aload_n C0.1 C0.2.1 dX12_city_136 rfl (lv_at hl 0 rfl) ?_
          refine ng_X12_wrong C0 h kSM_0 q_1449 dX12_city_137 (fun v_148 e_149 e_150 e_151 => ?_)
          have qh_152 : v_148.toInt = f_92.toInt := congrArg Int32.toInt (e_149.symm.trans (Eq.trans (Eq.trans (u_139.2.2 11 (by decide)) (u_127.2.2 11 (by decide))) e_93))
          refine y_isubU C0 dX12_city_140 (fun v_153 => ?_)
          rw [hQ]
          exact y_iret C0 (⟨h.1, SM_q0 h.2⟩ : Wt G (SM q0) ad A s _ _ _) (Fr.tr (Fr.tr (Fr.tr (Fr.tr (Fr.tr (Fr.tr (Fr.tr (Fr.tr (Fr.tr (Fr.tr (Fr.up u_4.1 kSM_0 (by decide)) (Fr.mono u_16 (by decide))) (Fr.up u_24.1 kSM_0 (by decide))) (Fr.up u_28.1 kSM_0 (by decide))) (Fr.up u_32.1 kSM_0 (by decide))) (Fr.up u_36.1 kSM_0 (by decide))) (Fr.mono u_38 (by decide))) (Fr.mono u_54 (by decide))) (Fr.mono hF_77 (by decide))) (Fr.up u_127.1 kSM_0 (by decide))) (Fr.up u_139.1 kSM_0 (by decide))) ⟨(J.pa hT hJ (Pa.fr (M := [0, 4]) (Fr.tr (Fr.tr (Fr.tr (Fr.tr (Fr.tr (Fr.tr (Fr.tr (Fr.tr (Fr.tr (Fr.tr (Fr.up u_4.1 kSM_0 (by decide)) (Fr.mono u_16 (by decide))) (Fr.up u_24.1 kSM_0 (by decide))) (Fr.up u_28.1 kSM_0 (by decide))) (Fr.up u_32.1 kSM_0 (by decide))) (Fr.up u_36.1 kSM_0 (by decide))) (Fr.mono u_38 (by decide))) (Fr.mono u_54 (by decide))) hF_77) (Fr.up u_127.1 kSM_0 (by decide))) (Fr.up u_139.1 kSM_0 (by decide))) (by decide))), (by have f9 : (fI _ 0 5).toInt = 0 := SM_is (a := q00) rfl h.2; have g := congrArg Int32.toInt ((u_4.2.2 5 (by decide)).symm.trans e_10); exact Or.inr ⟨by omega, by omega, f9⟩)⟩ dX12_city_141
        · -- 57
          refine lv_aload_n C0.1 C0.2.1 dX12_city_60 rfl (lv_at hl 0 rfl) ?_
          refine ng_X12_kind C0 h kSM_0 q_1447 dX12_city_61 (fun v_154 e_155 e_156 e_157 => ?_)
          have qh_158 : v_154.toInt = f_90.toInt := congrArg Int32.toInt (e_155.symm.trans (Eq.trans rfl e_91))
          refine y_c2 (n := 24) C0 (by decide) dX12_city_64 (fun v_159 e_160 => ?_)
          refine y_icmp_eq (tgt := 100) C0 dX12_city_66 (by decide) (fun c_161 => ?_) (fun c_161 => ?_)
          · -- 66
            refine lv_aload_n C0.1 C0.2.1 dX12_city_100 rfl (lv_at hl 0 rfl) ?_
            refine lv_aload_n C0.1 C0.2.1 dX12_city_101 rfl (lv_at hl 0 rfl) ?_
            refine ng_X12_wrong C0 h kSM_0 q_1449 dX12_city_102 (fun v_162 e_163 e_164 e_165 => ?_)
            have qh_166 : v_162.toInt = f_92.toInt := congrArg Int32.toInt (e_163.symm.trans (Eq.trans rfl e_93))
            refine np_X12_faultKind C0 h kSM_0 q_1451 (le_min v_162) (le_max v_162) dX12_city_105 (fun H locs ws_167 h u_168 => ?_)
            refine lv_aload_n C0.1 C0.2.1 dX12_city_108 rfl (lv_at hl 0 rfl) ?_
            refine lv_aload_n C0.1 C0.2.1 dX12_city_109 rfl (lv_at hl 0 rfl) ?_
            refine ng_X12_wrong C0 h kSM_0 q_1449 dX12_city_110 (fun v_169 e_170 e_171 e_172 => ?_)
            have qh_173 : v_169.toInt = f_92.toInt := congrArg Int32.toInt (e_170.symm.trans (Eq.trans (u_168.2.2 11 (by decide)) e_93))
            refine y_if_ne (tgt := 120) C0 dX12_city_113 (by decide) (fun c_174 => ((o48_26 b_84 b_85 b_88 b_89 b_96 b_97 b_110 b_111 b_112 hn_81 qh_119 c_120 qh_158 e_160 c_161 qh_166 qh_173 c_174)).elim) (fun c_174 => ?_)
            refine y_c1 (n := (-1)) C0 (by decide) dX12_city_116 (fun v_175 e_176 => ?_)
            refine lv_goto (tgt := 124) C0.1 C0.2.1 dX12_city_117 (by decide) ?_
            refine np_X12_faultPlace C0 h kSM_0 q_1452 (le_min v_175) (le_max v_175) dX12_city_124 (fun H locs ws_177 h u_178 => ?_)
            refine lv_aload_n C0.1 C0.2.1 dX12_city_127 rfl (lv_at hl 0 rfl) ?_
            refine ng_X12_wrong C0 h kSM_0 q_1449 dX12_city_128 (fun v_179 e_180 e_181 e_182 => ?_)
            have qh_183 : v_179.toInt = f_92.toInt := congrArg Int32.toInt (e_180.symm.trans (Eq.trans (Eq.trans (u_178.2.2 11 (by decide)) (u_168.2.2 11 (by decide))) e_93))
            refine y_if_eq (tgt := 142) C0 dX12_city_131 (by decide) (fun c_184 => ?_) (fun c_184 => ((o48_27 b_84 b_85 b_88 b_89 b_96 b_97 b_110 b_111 b_112 hn_81 qh_119 c_120 qh_158 e_160 c_161 qh_166 qh_173 c_174 qh_183 c_184)).elim)
            have hX_185T := h.2
            have hX_185J : J ws_177 := J.pa hT hJ (Pa.fr (M := [0, 4]) (Fr.tr (Fr.tr (Fr.tr (Fr.tr (Fr.tr (Fr.tr (Fr.tr (Fr.tr (Fr.tr (Fr.tr (Fr.up u_4.1 kSM_0 (by decide)) (Fr.mono u_16 (by decide))) (Fr.up u_24.1 kSM_0 (by decide))) (Fr.up u_28.1 kSM_0 (by decide))) (Fr.up u_32.1 kSM_0 (by decide))) (Fr.up u_36.1 kSM_0 (by decide))) (Fr.mono u_38 (by decide))) (Fr.mono u_54 (by decide))) hF_77) (Fr.up u_168.1 kSM_0 (by decide))) (Fr.up u_178.1 kSM_0 (by decide))) (by decide))
            have hX_185 : ∀ (b : va_W) (k : Int32), C4 ws_177 b k.toInt.toNat → 1774 ≤ k.toInt → J b := fun b k c hk => J_city hX_185T hX_185J (FLs.pa hFL (P4.tr (P4.ud u_168.1 (by decide)) (P4.ud u_178.1 (by decide))) e_93 (Eq.trans (Eq.trans (u_178.2.2 11 (by decide)) (u_168.2.2 11 (by decide))) e_93) (o48_28 b_84 b_85 b_88 b_89 b_96 b_97 b_110 b_111 b_112 hn_81 qh_119 c_120 qh_158 e_160 c_161 qh_166 qh_173 c_174 qh_183 c_184)) (Eq.trans (Eq.trans (u_178.2.2 11 (by decide)) (u_168.2.2 11 (by decide))) e_93) (o48_29 b_84 b_85 b_88 b_89 b_96 b_97 b_110 b_111 b_112 hn_81 qh_119 c_120 qh_158 e_160 c_161 qh_166 qh_173 c_174 qh_183 c_184) (Eq.trans (Eq.trans (aI_of (u_178.1 4 (kd_ne (S := SM q0) kSM_4 kSM_0 (by decide)))) (aI_of (u_168.1 4 (kd_ne (S := SM q0) kSM_4 kSM_0 (by decide))))) e_99) (Eq.trans (Eq.trans (aI_of (u_178.1 4 (kd_ne (S := SM q0) kSM_4 kSM_0 (by decide)))) (aI_of (u_168.1 4 (kd_ne (S := SM q0) kSM_4 kSM_0 (by decide))))) e_103) (Eq.trans (Eq.trans (aI_of (u_178.1 4 (kd_ne (S := SM q0) kSM_4 kSM_0 (by decide)))) (aI_of (u_168.1 4 (kd_ne (S := SM q0) kSM_4 kSM_0 (by decide))))) e_107) (o48_30 b_100 b_101 b_104 b_105 b_108 b_109 b_113 b_114) (o48_31 b_100 b_101 b_104 b_105 b_108 b_109 b_113 b_114) c hk
            refine y_c1 (n := 0) C0 (by decide) dX12_city_142 (fun v_186 e_187 => ?_)
            refine lv_istore_n (lv' := [(2, .int v_186), (0, .ref (ad 0)), (1, .int a1)]) C0.1 C0.2.1 dX12_city_143 rfl hl (by decide) rfl (fun ls hl => ?_)
            have lp_191 : ∀ (n_193 : Nat) (x2_188 : Int32) (H : Heap) (locs : List Loc) (ls : Array Slot) (ws_189 : va_W), 1774 - x2_188.toInt < (n_193 : Int) → 0 ≤ x2_188.toInt → x2_188.toInt ≤ 1774 → (C4 ws_177 ws_189 x2_188.toInt.toNat) → Wt G (SM q00) ad A s H locs ws_189 → Fr (SM q00) [1] ws_177 ws_189 → lv_has ls 3 [(2, .int x2_188), (0, .ref (ad 0)), (1, .int a1)] → W p l e (rmd 33 0 0) s m args below meth c H locs 0 0 Q (F0 m 144 ls []) := by
              intro n_193
              induction n_193 with
              | zero => intro x2_188 H locs ls ws_189 hn_194 b_195 b_196 hC4 h hF_190 hl; exact ((o48_1 b_195 b_196 hn_194)).elim
              | succ n_193 ih_192 =>
                intro x2_188 H locs ls ws_189 hn_194 b_195 b_196 hC4 h hF_190 hl
                refine lv_iload_n C0.1 C0.2.1 dX12_city_144 rfl (lv_at hl 0 rfl) ?_
                refine y_c3 (n := 1774) C0 (by decide) dX12_city_145 (fun v_197 e_198 => ?_)
                refine y_icmp_ge (tgt := 169) C0 dX12_city_148 (by decide) (fun c_199 => ?_) (fun c_199 => ?_)
                · -- 148
                  refine lv_aload_n C0.1 C0.2.1 dX12_city_169 rfl (lv_at hl 1 rfl) ?_
                  refine ng_X12_all C0 h kSM_0 q_1439 dX12_city_170 ?_
                  refine y_c1 (n := 0) C0 (by decide) dX12_city_173 (fun v_200 e_201 => ?_)
                  refine y_iald C0 h kSM_1 rfl (by decide) (o48_8 e_201) (o48_32 e_201) dX12_city_174 (fun v_202 e_203 e_204 e_205 => ?_)
                  have e_206 : aI ws_189 1 0 = v_202 := (congrArg (aI ws_189 1) (ix_c (c := 0) (o48_33 e_201))).symm.trans e_203
                  rw [hQ]
                  exact y_iret C0 (⟨h.1, SM_q0 h.2⟩ : Wt G (SM q0) ad A s _ _ _) (Fr.tr (Fr.tr (Fr.tr (Fr.tr (Fr.tr (Fr.tr (Fr.tr (Fr.tr (Fr.tr (Fr.tr (Fr.tr (Fr.up u_4.1 kSM_0 (by decide)) (Fr.mono u_16 (by decide))) (Fr.up u_24.1 kSM_0 (by decide))) (Fr.up u_28.1 kSM_0 (by decide))) (Fr.up u_32.1 kSM_0 (by decide))) (Fr.up u_36.1 kSM_0 (by decide))) (Fr.mono u_38 (by decide))) (Fr.mono u_54 (by decide))) (Fr.mono hF_77 (by decide))) (Fr.up u_168.1 kSM_0 (by decide))) (Fr.up u_178.1 kSM_0 (by decide))) (Fr.mono hF_190 (by decide))) ⟨(hX_185 _ _ hC4 (o48_2 b_195 b_196 hn_194 e_198 c_199)), (by have f9 : (fI _ 0 5).toInt = 0 := SM_is (a := q00) rfl h.2; have g := congrArg Int32.toInt ((u_4.2.2 5 (by decide)).symm.trans e_10); exact Or.inr ⟨by omega, by omega, f9⟩)⟩ dX12_city_175
                · -- 148
                  refine lv_aload_n C0.1 C0.2.1 dX12_city_151 rfl (lv_at hl 1 rfl) ?_
                  refine ng_X12_all C0 h kSM_0 q_1439 dX12_city_152 ?_
                  refine lv_iload_n C0.1 C0.2.1 dX12_city_155 rfl (lv_at hl 0 rfl) ?_
                  refine lv_aload_n C0.1 C0.2.1 dX12_city_156 rfl (lv_at hl 1 rfl) ?_
                  refine ng_X12_fresh C0 h kSM_0 q_1442 dX12_city_157 ?_
                  refine lv_iload_n C0.1 C0.2.1 dX12_city_160 rfl (lv_at hl 0 rfl) ?_
                  refine y_iald C0 h kSM_4 rfl (by decide) (o48_3 b_195 b_196 hn_194 e_198 c_199) (o48_4 b_195 b_196 hn_194 e_198 c_199) dX12_city_161 (fun v_207 e_208 e_209 e_210 => ?_)
                  refine y_iast C0 h kSM_1 rfl (by decide) (o48_3 b_195 b_196 hn_194 e_198 c_199) (o48_34 b_195 b_196 hn_194 e_198 c_199) (el_lo (ec_fr (o48_6 b_195 b_196 hn_194 e_198 c_199)) e_209) (el_hi (ec_fr (o48_6 b_195 b_196 hn_194 e_198 c_199)) e_210) dX12_city_162 (fun H locs ws_211 h u_212 => ?_)
                  refine y_inc (kp := 0) (n := 1) (fun v_213 => [(2, .int v_213), (0, .ref (ad 0)), (1, .int a1)]) C0 hl rfl (by decide) (by decide) (fun _ => rfl) (o48_10 b_195 b_196 hn_194 e_198 c_199 (le_min x2_188) (le_max x2_188) (le_min v_197) (le_max v_197)) (o48_11 b_195 b_196 hn_194 e_198 c_199 (le_min x2_188) (le_max x2_188) (le_min v_197) (le_max v_197)) dX12_city_163 (fun v_213 ls e_214 hl => ?_)
                  refine lv_goto (tgt := 144) C0.1 C0.2.1 dX12_city_166 (by decide) ?_
                  exact ih_192 v_213 _ _ _ _ (o48_12 b_195 b_196 hn_194 e_198 c_199 e_214) (o48_13 b_195 b_196 hn_194 e_198 c_199 e_214) (o48_14 b_195 b_196 hn_194 e_198 c_199 e_214) ((c4_s (M := [1]) hC4 u_212 hF_190 (by decide) e_208 (o48_15 b_195 b_196 hn_194 e_198 c_199 e_214) (o48_17 b_195 b_196 hn_194 e_198 c_199 e_214) (o48_35 b_195 b_196 hn_194 e_198 c_199 e_214) e_214)) h (Fr.tr hF_190 (Fr.up u_212.1 kSM_1 (by decide))) (lv_sub hl [0, 1, 2] rfl)
            exact lp_191 ((1774 - v_186.toInt + 1).toNat) v_186 _ _ _ _ (o48_18 e_187) (o48_8 e_187) (o48_19 e_187) ((c4_0 e_187)) h Fr.rf (lv_sub hl [0, 1, 2] rfl)
          · -- 66
            refine lv_aload_n C0.1 C0.2.1 dX12_city_69 rfl (lv_at hl 0 rfl) ?_
            refine y_cv h (y_rV (As := []) (rest := []) C0 hZ h (c_X12_readLine l G Z ad _ h.2 (by rw [show fI ws_76 0 9 = f_90 from (Eq.trans rfl e_91), show fI ws_76 0 6 = f_82 from (Eq.trans rfl e_83), show fI ws_76 0 7 = f_86 from (Eq.trans rfl e_87)] <;> exact (o48_36 b_84 b_85 b_88 b_89 b_96 b_97 b_110 b_111 b_112 hn_81 qh_119 c_120 qh_158 e_160 c_161)) (by rw [show fI ws_76 0 6 = f_82 from (Eq.trans rfl e_83), show fI ws_76 0 7 = f_86 from (Eq.trans rfl e_87)] <;> exact (o48_37 b_84 b_85 b_88 b_89 b_96 b_97 b_110 b_111 b_112 hn_81 qh_119 c_120 qh_158 e_160 c_161)) (by rw [show fI ws_76 0 11 = f_92 from (Eq.trans rfl e_93), show aI ws_76 4 873 = f_94 from (Eq.trans rfl e_95), show fI ws_76 0 6 = f_82 from (Eq.trans rfl e_83)] <;> exact (o48_38 b_84 b_85 b_88 b_89 b_96 b_97 b_110 b_111 b_112 hn_81 qh_119 c_120 qh_158 e_160 c_161)) (by rw [show aI ws_76 4 1 = f_98 from (Eq.trans rfl e_99), show aI ws_76 4 2 = f_102 from (Eq.trans rfl e_103)] <;> exact (o48_30 b_100 b_101 b_104 b_105 b_108 b_109 b_113 b_114)) (by rw [show aI ws_76 4 3 = f_106 from (Eq.trans rfl e_107), show aI ws_76 4 1 = f_98 from (Eq.trans rfl e_99)] <;> exact (o48_31 b_100 b_101 b_104 b_105 b_108 b_109 b_113 b_114)) hFL) k_X12_readLine q_1606 q_59 q_1604 kSM_0 rfl rfl rfl hl.1 rfl rfl (Nat.le_of_ble_eq_true rfl) dX12_city_70 ⟨Nat.le_of_ble_eq_true rfl, Nat.le_of_ble_eq_true rfl⟩ ⟨Nat.le_of_ble_eq_true rfl, Nat.le_of_ble_eq_true rfl⟩) (fun H locs ws_215 h u_216 p_217 => ?_)
            obtain ⟨e_218, e_219, e_220, e_221, e_222, e_223, e_224⟩ := p_217
            obtain ⟨f_225, e_226⟩ : ∃ v, fI ws_215 0 9 = v := ⟨_, rfl⟩
            have b_227 := ty_fI (k := 9) h.2 kSM_0 rfl rfl
            rw [e_226] at b_227
            obtain ⟨f_228, e_229⟩ : ∃ v, fI ws_215 0 6 = v := ⟨_, rfl⟩
            have b_230 := ty_fI (k := 6) h.2 kSM_0 rfl rfl
            rw [e_229] at b_230
            obtain ⟨f_231, e_232⟩ : ∃ v, fI ws_215 0 7 = v := ⟨_, rfl⟩
            have b_233 := ty_fI (k := 7) h.2 kSM_0 rfl rfl
            rw [e_232] at b_233
            have e_234 := e_218
            rw [show fI ws_215 0 9 = f_225 from e_226, show fI ws_215 0 6 = f_228 from e_229, show fI ws_215 0 7 = f_231 from e_232] at e_234
            have e_235 := e_219
            rw [show fI ws_215 0 6 = f_228 from (Eq.trans rfl e_229), show fI ws_215 0 7 = f_231 from (Eq.trans rfl e_232)] at e_235
            obtain ⟨f_236, e_237⟩ : ∃ v, fI ws_215 0 11 = v := ⟨_, rfl⟩
            have b_238 := ty_fI (k := 11) h.2 kSM_0 rfl rfl
            rw [e_237] at b_238
            obtain ⟨f_239, e_240⟩ : ∃ v, aI ws_215 4 873 = v := ⟨_, rfl⟩
            have b_241 := ty_aI 873 h.2 kSM_4 rfl (by decide)
            rw [e_240] at b_241
            have e_242 := e_220
            rw [show fI ws_215 0 11 = f_236 from e_237, show fI ws_76 0 11 = f_92 from (Eq.trans rfl e_93), show aI ws_215 4 873 = f_239 from e_240, show aI ws_76 4 873 = f_94 from (Eq.trans rfl e_95), show fI ws_215 0 6 = f_228 from (Eq.trans rfl e_229), show fI ws_76 0 6 = f_82 from (Eq.trans rfl e_83)] at e_242
            have e_243 := e_221
            rw [show fI ws_76 0 6 = f_82 from (Eq.trans rfl e_83), show fI ws_215 0 6 = f_228 from (Eq.trans rfl e_229)] at e_243
            obtain ⟨f_244, e_245⟩ : ∃ v, aI ws_215 4 1 = v := ⟨_, rfl⟩
            have b_246 := ty_aI 1 h.2 kSM_4 rfl (by decide)
            rw [e_245] at b_246
            obtain ⟨f_247, e_248⟩ : ∃ v, aI ws_215 4 2 = v := ⟨_, rfl⟩
            have b_249 := ty_aI 2 h.2 kSM_4 rfl (by decide)
            rw [e_248] at b_249
            have e_250 := e_222
            rw [show aI ws_215 4 1 = f_244 from e_245, show aI ws_215 4 2 = f_247 from e_248] at e_250
            obtain ⟨f_251, e_252⟩ : ∃ v, aI ws_215 4 3 = v := ⟨_, rfl⟩
            have b_253 := ty_aI 3 h.2 kSM_4 rfl (by decide)
            rw [e_252] at b_253
            have e_254 := e_223
            rw [show aI ws_215 4 3 = f_251 from e_252, show aI ws_215 4 1 = f_244 from (Eq.trans rfl e_245)] at e_254
            refine lv_aload_n C0.1 C0.2.1 dX12_city_73 rfl (lv_at hl 0 rfl) ?_
            refine y_c2 (n := 30) C0 (by decide) dX12_city_74 (fun v_255 e_256 => ?_)
            refine y_ci h (y_rV (As := [.int v_255]) (rest := []) C0 hZ h (c_X12_eats l G Z ad _ h.2 v_255 (by rw [show fI ws_215 0 9 = f_225 from (Eq.trans rfl e_226), show fI ws_215 0 6 = f_228 from (Eq.trans rfl e_229), show fI ws_215 0 7 = f_231 from (Eq.trans rfl e_232)] <;> exact (o48_39 b_84 b_85 b_88 b_89 b_96 b_97 b_110 b_111 b_112 hn_81 qh_119 c_120 qh_158 e_160 c_161 b_230.1 b_230.2 b_233.1 b_233.2 e_234 e_235 (Int.le_trans (by decide : (0 : Int) ≤ (elR 873).1) b_241.1) (Int.le_trans b_241.2 (by decide : (elR 873).2 ≤ (900 : Int))) e_242 e_243)) (by rw [show fI ws_215 0 6 = f_228 from (Eq.trans rfl e_229), show fI ws_215 0 7 = f_231 from (Eq.trans rfl e_232)] <;> exact (o48_40 b_84 b_85 b_88 b_89 b_96 b_97 b_110 b_111 b_112 hn_81 qh_119 c_120 qh_158 e_160 c_161 b_230.1 b_230.2 b_233.1 b_233.2 e_234 e_235 (Int.le_trans (by decide : (0 : Int) ≤ (elR 873).1) b_241.1) (Int.le_trans b_241.2 (by decide : (elR 873).2 ≤ (900 : Int))) e_242 e_243))) k_X12_eats q_1643 q_67 q_1641 kSM_0 rfl rfl rfl hl.1 rfl rfl (Nat.le_of_ble_eq_true rfl) dX12_city_76 ⟨Nat.le_of_ble_eq_true rfl, Nat.le_of_ble_eq_true rfl⟩ ⟨Nat.le_of_ble_eq_true rfl, Nat.le_of_ble_eq_true rfl⟩) (fun r_260 H locs ws_257 h u_258 p_259 => ?_)
            obtain ⟨e_261, e_262, e_263, e_264, e_265⟩ := p_259
            obtain ⟨f_266, e_267⟩ : ∃ v, fI ws_257 0 9 = v := ⟨_, rfl⟩
            have b_268 := ty_fI (k := 9) h.2 kSM_0 rfl rfl
            rw [e_267] at b_268
            obtain ⟨f_269, e_270⟩ : ∃ v, fI ws_257 0 6 = v := ⟨_, rfl⟩
            have b_271 := ty_fI (k := 6) h.2 kSM_0 rfl rfl
            rw [e_270] at b_271
            obtain ⟨f_272, e_273⟩ : ∃ v, fI ws_257 0 7 = v := ⟨_, rfl⟩
            have b_274 := ty_fI (k := 7) h.2 kSM_0 rfl rfl
            rw [e_273] at b_274
            have e_275 := e_263
            rw [show fI ws_257 0 9 = f_266 from e_267, show fI ws_257 0 6 = f_269 from e_270, show fI ws_257 0 7 = f_272 from e_273] at e_275
            have e_276 := e_264
            rw [show fI ws_257 0 6 = f_269 from (Eq.trans rfl e_270), show fI ws_257 0 7 = f_272 from (Eq.trans rfl e_273)] at e_276
            obtain ⟨f_277, e_278⟩ : ∃ v, fI ws_257 0 11 = v := ⟨_, rfl⟩
            have b_279 := ty_fI (k := 11) h.2 kSM_0 rfl rfl
            rw [e_278] at b_279
            have e_280 := e_265
            rw [show fI ws_257 0 6 = f_269 from (Eq.trans rfl e_270), show fI ws_215 0 6 = f_228 from (Eq.trans rfl e_229), show fI ws_257 0 7 = f_272 from (Eq.trans rfl e_273), show fI ws_215 0 7 = f_231 from (Eq.trans rfl e_232), show fI ws_257 0 9 = f_266 from (Eq.trans rfl e_267), show fI ws_215 0 9 = f_225 from (Eq.trans rfl e_226), show fI ws_257 0 11 = f_277 from e_278, show fI ws_215 0 11 = f_236 from (Eq.trans rfl e_237)] at e_280
            refine y_if_ne (tgt := 87) C0 dX12_city_79 (by decide) (fun c_281 => ?_) (fun c_281 => ?_)
            · -- 79
              refine lv_aload_n C0.1 C0.2.1 dX12_city_87 rfl (lv_at hl 0 rfl) ?_
              refine ng_X12_fresh C0 h kSM_0 q_1442 dX12_city_88 ?_
              refine y_c1 (n := 0) C0 (by decide) dX12_city_91 (fun v_282 e_283 => ?_)
              refine lv_dup2_11 C0.1 C0.2.1 dX12_city_92 rfl rfl ?_
              refine y_iald C0 h kSM_4 rfl (by decide) (o48_8 e_283) (o48_41 e_283) dX12_city_93 (fun v_284 e_285 e_286 e_287 => ?_)
              have e_288 : aI ws_257 4 0 = v_284 := (congrArg (aI ws_257 4) (ix_c (c := 0) (o48_33 e_283))).symm.trans e_285
              refine y_c1 (n := 1) C0 (by decide) dX12_city_94 (fun v_289 e_290 => ?_)
              refine y_iaddU C0 dX12_city_95 (fun v_291 => ?_)
              have f_294 := o48_42 v_282.toInt.toNat (o48_43 e_283) (o48_44 e_283)
              refine y_iast C0 h kSM_4 rfl (by decide) (o48_8 e_283) (o48_41 e_283) (Int.le_trans f_294.1 (le_min v_291)) (Int.le_trans (le_max v_291) f_294.2) dX12_city_96 (fun H locs ws_292 h u_293 => ?_)
              have e_295 : aI ws_292 4 0 = v_291 := (congrArg (aI ws_292 4) (ix_c (c := 0) (o48_33 e_283))).symm.trans u_293.2.1
              refine lv_goto (tgt := 53) C0.1 C0.2.1 dX12_city_97 (by decide) ?_
              exact ih_79 f_269 f_272 f_266 f_277 f_239 f_244 f_247 f_251 _ _ _ _ (o48_49 b_84 b_85 b_88 b_89 b_96 b_97 b_110 b_111 b_112 hn_81 qh_119 c_120 qh_158 e_160 c_161 b_230.1 b_230.2 b_233.1 b_233.2 e_234 e_235 (Int.le_trans (by decide : (0 : Int) ≤ (elR 873).1) b_241.1) (Int.le_trans b_241.2 (by decide : (elR 873).2 ≤ (900 : Int))) e_242 e_243 e_256 e_261 e_262 b_271.1 b_271.2 b_274.1 b_274.2 e_275 e_276 e_280 c_281) (o48_50 b_84 b_85 b_88 b_89 b_96 b_97 b_110 b_111 b_112 hn_81 qh_119 c_120 qh_158 e_160 c_161 b_230.1 b_230.2 b_233.1 b_233.2 e_234 e_235 (Int.le_trans (by decide : (0 : Int) ≤ (elR 873).1) b_241.1) (Int.le_trans b_241.2 (by decide : (elR 873).2 ≤ (900 : Int))) e_242 e_243 e_256 e_261 e_262 b_271.1 b_271.2 b_274.1 b_274.2 e_275 e_276 e_280 c_281) (o48_51 b_84 b_85 b_88 b_89 b_96 b_97 b_110 b_111 b_112 hn_81 qh_119 c_120 qh_158 e_160 c_161 b_230.1 b_230.2 b_233.1 b_233.2 e_234 e_235 (Int.le_trans (by decide : (0 : Int) ≤ (elR 873).1) b_241.1) (Int.le_trans b_241.2 (by decide : (elR 873).2 ≤ (900 : Int))) e_242 e_243 e_256 e_261 e_262 b_271.1 b_271.2 b_274.1 b_274.2 e_275 e_276 e_280 c_281) (o48_52 b_84 b_85 b_88 b_89 b_96 b_97 b_110 b_111 b_112 hn_81 qh_119 c_120 qh_158 e_160 c_161 b_230.1 b_230.2 b_233.1 b_233.2 e_234 e_235 (Int.le_trans (by decide : (0 : Int) ≤ (elR 873).1) b_241.1) (Int.le_trans b_241.2 (by decide : (elR 873).2 ≤ (900 : Int))) e_242 e_243 e_256 e_261 e_262 b_271.1 b_271.2 b_274.1 b_274.2 e_275 e_276 e_280 c_281) (o48_53 b_84 b_85 b_88 b_89 b_96 b_97 b_110 b_111 b_112 hn_81 qh_119 c_120 qh_158 e_160 c_161 b_230.1 b_230.2 b_233.1 b_233.2 e_234 e_235 (Int.le_trans (by decide : (0 : Int) ≤ (elR 873).1) b_241.1) (Int.le_trans b_241.2 (by decide : (elR 873).2 ≤ (900 : Int))) e_242 e_243 e_256 e_261 e_262 b_271.1 b_271.2 b_274.1 b_274.2 e_275 e_276 e_280 c_281) (o48_54 b_84 b_85 b_88 b_89 b_96 b_97 b_110 b_111 b_112 hn_81 qh_119 c_120 qh_158 e_160 c_161 b_230.1 b_230.2 b_233.1 b_233.2 e_234 e_235 (Int.le_trans (by decide : (0 : Int) ≤ (elR 873).1) b_241.1) (Int.le_trans b_241.2 (by decide : (elR 873).2 ≤ (900 : Int))) e_242 e_243 e_256 e_261 e_262 b_271.1 b_271.2 b_274.1 b_274.2 e_275 e_276 e_280 c_281) (o48_55 b_84 b_85 b_88 b_89 b_96 b_97 b_110 b_111 b_112 hn_81 qh_119 c_120 qh_158 e_160 c_161 b_230.1 b_230.2 b_233.1 b_233.2 e_234 e_235 (Int.le_trans (by decide : (0 : Int) ≤ (elR 873).1) b_241.1) (Int.le_trans b_241.2 (by decide : (elR 873).2 ≤ (900 : Int))) e_242 e_243 e_256 e_261 e_262 b_271.1 b_271.2 b_274.1 b_274.2 e_275 e_276 e_280 c_281) (o48_56 (Int.le_trans (by decide : (0 : Int) ≤ (elR 1).1) b_246.1) (Int.le_trans b_246.2 (by decide : (elR 1).2 ≤ (5 : Int))) (Int.le_trans (by decide : (0 : Int) ≤ (elR 2).1) b_249.1) (Int.le_trans b_249.2 (by decide : (elR 2).2 ≤ (5 : Int))) e_250 (Int.le_trans (by decide : (0 : Int) ≤ (elR 3).1) b_253.1) (Int.le_trans b_253.2 (by decide : (elR 3).2 ≤ (5 : Int))) e_254) (o48_57 (Int.le_trans (by decide : (0 : Int) ≤ (elR 1).1) b_246.1) (Int.le_trans b_246.2 (by decide : (elR 1).2 ≤ (5 : Int))) (Int.le_trans (by decide : (0 : Int) ≤ (elR 2).1) b_249.1) (Int.le_trans b_249.2 (by decide : (elR 2).2 ≤ (5 : Int))) e_250 (Int.le_trans (by decide : (0 : Int) ≤ (elR 3).1) b_253.1) (Int.le_trans b_253.2 (by decide : (elR 3).2 ≤ (5 : Int))) e_254) (o48_58 (Int.le_trans (by decide : (0 : Int) ≤ (elR 1).1) b_246.1) (Int.le_trans b_246.2 (by decide : (elR 1).2 ≤ (5 : Int))) (Int.le_trans (by decide : (0 : Int) ≤ (elR 2).1) b_249.1) (Int.le_trans b_249.2 (by decide : (elR 2).2 ≤ (5 : Int))) e_250 (Int.le_trans (by decide : (0 : Int) ≤ (elR 3).1) b_253.1) (Int.le_trans b_253.2 (by decide : (elR 3).2 ≤ (5 : Int))) e_254) (o48_59 (Int.le_trans (by decide : (0 : Int) ≤ (elR 1).1) b_246.1) (Int.le_trans b_246.2 (by decide : (elR 1).2 ≤ (5 : Int))) (Int.le_trans (by decide : (0 : Int) ≤ (elR 2).1) b_249.1) (Int.le_trans b_249.2 (by decide : (elR 2).2 ≤ (5 : Int))) e_250 (Int.le_trans (by decide : (0 : Int) ≤ (elR 3).1) b_253.1) (Int.le_trans b_253.2 (by decide : (elR 3).2 ≤ (5 : Int))) e_254) (o48_60 (Int.le_trans (by decide : (0 : Int) ≤ (elR 1).1) b_246.1) (Int.le_trans b_246.2 (by decide : (elR 1).2 ≤ (5 : Int))) (Int.le_trans (by decide : (0 : Int) ≤ (elR 2).1) b_249.1) (Int.le_trans b_249.2 (by decide : (elR 2).2 ≤ (5 : Int))) e_250 (Int.le_trans (by decide : (0 : Int) ≤ (elR 3).1) b_253.1) (Int.le_trans b_253.2 (by decide : (elR 3).2 ≤ (5 : Int))) e_254) (o48_61 (Int.le_trans (by decide : (0 : Int) ≤ (elR 1).1) b_246.1) (Int.le_trans b_246.2 (by decide : (elR 1).2 ≤ (5 : Int))) (Int.le_trans (by decide : (0 : Int) ≤ (elR 2).1) b_249.1) (Int.le_trans b_249.2 (by decide : (elR 2).2 ≤ (5 : Int))) e_250 (Int.le_trans (by decide : (0 : Int) ≤ (elR 3).1) b_253.1) (Int.le_trans b_253.2 (by decide : (elR 3).2 ≤ (5 : Int))) e_254) (o48_62 b_84 b_85 b_88 b_89 b_96 b_97 b_110 b_111 b_112 hn_81 qh_119 c_120 qh_158 e_160 c_161 b_230.1 b_230.2 b_233.1 b_233.2 e_234 e_235 (Int.le_trans (by decide : (0 : Int) ≤ (elR 873).1) b_241.1) (Int.le_trans b_241.2 (by decide : (elR 873).2 ≤ (900 : Int))) e_242 e_243 e_256 e_261 e_262 b_271.1 b_271.2 b_274.1 b_274.2 e_275 e_276 e_280 c_281) (o48_63 b_84 b_85 b_88 b_89 b_96 b_97 b_110 b_111 b_112 hn_81 qh_119 c_120 qh_158 e_160 c_161 b_230.1 b_230.2 b_233.1 b_233.2 e_234 e_235 (Int.le_trans (by decide : (0 : Int) ≤ (elR 873).1) b_241.1) (Int.le_trans b_241.2 (by decide : (elR 873).2 ≤ (900 : Int))) e_242 e_243 e_256 e_261 e_262 b_271.1 b_271.2 b_274.1 b_274.2 e_275 e_276 e_280 c_281) (o48_64 b_84 b_85 b_88 b_89 b_96 b_97 b_110 b_111 b_112 hn_81 qh_119 c_120 qh_158 e_160 c_161 b_230.1 b_230.2 b_233.1 b_233.2 e_234 e_235 (Int.le_trans (by decide : (0 : Int) ≤ (elR 873).1) b_241.1) (Int.le_trans b_241.2 (by decide : (elR 873).2 ≤ (900 : Int))) e_242 e_243 e_256 e_261 e_262 b_271.1 b_271.2 b_274.1 b_274.2 e_275 e_276 e_280 c_281) (o48_65 (Int.le_trans (by decide : (0 : Int) ≤ (elR 1).1) b_246.1) (Int.le_trans b_246.2 (by decide : (elR 1).2 ≤ (5 : Int))) (Int.le_trans (by decide : (0 : Int) ≤ (elR 2).1) b_249.1) (Int.le_trans b_249.2 (by decide : (elR 2).2 ≤ (5 : Int))) e_250 (Int.le_trans (by decide : (0 : Int) ≤ (elR 3).1) b_253.1) (Int.le_trans b_253.2 (by decide : (elR 3).2 ≤ (5 : Int))) e_254) (o48_66 (Int.le_trans (by decide : (0 : Int) ≤ (elR 1).1) b_246.1) (Int.le_trans b_246.2 (by decide : (elR 1).2 ≤ (5 : Int))) (Int.le_trans (by decide : (0 : Int) ≤ (elR 2).1) b_249.1) (Int.le_trans b_249.2 (by decide : (elR 2).2 ≤ (5 : Int))) e_250 (Int.le_trans (by decide : (0 : Int) ≤ (elR 3).1) b_253.1) (Int.le_trans b_253.2 (by decide : (elR 3).2 ≤ (5 : Int))) e_254) ((FLs.pa e_224 (P4.tr (P4.fr u_258 (by decide)) (P4.st u_293 (o48_67 e_283))) (Eq.trans rfl e_237) (Eq.trans (fI_of (u_293.1 0 (kd_ne (S := SM q0) kSM_0 kSM_4 (by decide)))) e_278) (o48_68 b_84 b_85 b_88 b_89 b_96 b_97 b_110 b_111 b_112 hn_81 qh_119 c_120 qh_158 e_160 c_161 b_230.1 b_230.2 b_233.1 b_233.2 e_234 e_235 (Int.le_trans (by decide : (0 : Int) ≤ (elR 873).1) b_241.1) (Int.le_trans b_241.2 (by decide : (elR 873).2 ≤ (900 : Int))) e_242 e_243 e_256 e_261 e_262 b_271.1 b_271.2 b_274.1 b_274.2 e_275 e_276 e_280 c_281))) (Eq.trans (fI_of (u_293.1 0 (kd_ne (S := SM q0) kSM_0 kSM_4 (by decide)))) e_270) (Eq.trans (fI_of (u_293.1 0 (kd_ne (S := SM q0) kSM_0 kSM_4 (by decide)))) e_273) (Eq.trans (fI_of (u_293.1 0 (kd_ne (S := SM q0) kSM_0 kSM_4 (by decide)))) e_267) (Eq.trans (fI_of (u_293.1 0 (kd_ne (S := SM q0) kSM_0 kSM_4 (by decide)))) e_278) (Eq.trans (Eq.trans (u_293.2.2 873 (o48_45 e_283)) (Fr.aI u_258 kSM_4 (by decide))) e_240) (Eq.trans (Eq.trans (u_293.2.2 1 (o48_46 e_283)) (Fr.aI u_258 kSM_4 (by decide))) e_245) (Eq.trans (Eq.trans (u_293.2.2 2 (o48_47 e_283)) (Fr.aI u_258 kSM_4 (by decide))) e_248) (Eq.trans (Eq.trans (u_293.2.2 3 (o48_48 e_283)) (Fr.aI u_258 kSM_4 (by decide))) e_252) h (Fr.tr (Fr.tr (Fr.tr hF_77 u_216) (Fr.mono u_258 (by decide))) (Fr.up u_293.1 kSM_4 (by decide))) (lv_sub hl [0, 1] rfl)
            · -- 79
              refine lv_aload_n C0.1 C0.2.1 dX12_city_82 rfl (lv_at hl 0 rfl) ?_
              refine y_c1 (n := 2) C0 (by decide) dX12_city_83 (fun v_296 e_297 => ?_)
              refine y_cv h (y_rV (As := [.int v_296]) (rest := []) C0 hZ h (c_X12_fails l G Z ad _ h.2 v_296 (o48_69 e_297) (o48_70 e_297)) k_X12_fails q_1622 q_63 q_1620 kSM_0 rfl rfl rfl hl.1 rfl rfl (Nat.le_of_ble_eq_true rfl) dX12_city_84 ⟨Nat.le_of_ble_eq_true rfl, Nat.le_of_ble_eq_true rfl⟩ ⟨Nat.le_of_ble_eq_true rfl, Nat.le_of_ble_eq_true rfl⟩) (fun H locs ws_298 h u_299 p_300 => ?_)
              obtain ⟨e_301, e_302, e_303, e_304⟩ := p_300
              obtain ⟨f_305, e_306⟩ : ∃ v, fI ws_298 0 6 = v := ⟨_, rfl⟩
              have b_307 := ty_fI (k := 6) h.2 kSM_0 rfl rfl
              rw [e_306] at b_307
              have e_308 := e_301
              rw [show fI ws_298 0 6 = f_305 from e_306, show fI ws_257 0 6 = f_269 from (Eq.trans rfl e_270)] at e_308
              obtain ⟨f_309, e_310⟩ : ∃ v, fI ws_298 0 7 = v := ⟨_, rfl⟩
              have b_311 := ty_fI (k := 7) h.2 kSM_0 rfl rfl
              rw [e_310] at b_311
              have e_312 := e_302
              rw [show fI ws_298 0 7 = f_309 from e_310, show fI ws_257 0 7 = f_272 from (Eq.trans rfl e_273)] at e_312
              obtain ⟨f_313, e_314⟩ : ∃ v, fI ws_298 0 9 = v := ⟨_, rfl⟩
              have b_315 := ty_fI (k := 9) h.2 kSM_0 rfl rfl
              rw [e_314] at b_315
              have e_316 := e_303
              rw [show fI ws_298 0 9 = f_313 from e_314, show fI ws_257 0 9 = f_266 from (Eq.trans rfl e_267)] at e_316
              obtain ⟨f_317, e_318⟩ : ∃ v, fI ws_298 0 11 = v := ⟨_, rfl⟩
              have b_319 := ty_fI (k := 11) h.2 kSM_0 rfl rfl
              rw [e_318] at b_319
              have e_320 := e_304
              rw [show fI ws_298 0 11 = f_317 from e_318] at e_320
              refine lv_aload_n C0.1 C0.2.1 dX12_city_87 rfl (lv_at hl 0 rfl) ?_
              refine ng_X12_fresh C0 h kSM_0 q_1442 dX12_city_88 ?_
              refine y_c1 (n := 0) C0 (by decide) dX12_city_91 (fun v_321 e_322 => ?_)
              refine lv_dup2_11 C0.1 C0.2.1 dX12_city_92 rfl rfl ?_
              refine y_iald C0 h kSM_4 rfl (by decide) (o48_8 e_322) (o48_41 e_322) dX12_city_93 (fun v_323 e_324 e_325 e_326 => ?_)
              have e_327 : aI ws_298 4 0 = v_323 := (congrArg (aI ws_298 4) (ix_c (c := 0) (o48_33 e_322))).symm.trans e_324
              refine y_c1 (n := 1) C0 (by decide) dX12_city_94 (fun v_328 e_329 => ?_)
              refine y_iaddU C0 dX12_city_95 (fun v_330 => ?_)
              have f_333 := o48_42 v_321.toInt.toNat (o48_43 e_322) (o48_44 e_322)
              refine y_iast C0 h kSM_4 rfl (by decide) (o48_8 e_322) (o48_41 e_322) (Int.le_trans f_333.1 (le_min v_330)) (Int.le_trans (le_max v_330) f_333.2) dX12_city_96 (fun H locs ws_331 h u_332 => ?_)
              have e_334 : aI ws_331 4 0 = v_330 := (congrArg (aI ws_331 4) (ix_c (c := 0) (o48_33 e_322))).symm.trans u_332.2.1
              refine lv_goto (tgt := 53) C0.1 C0.2.1 dX12_city_97 (by decide) ?_
              exact ih_79 f_305 f_309 f_313 f_317 f_239 f_244 f_247 f_251 _ _ _ _ (o48_71 b_84 b_85 b_88 b_89 b_96 b_97 b_110 b_111 b_112 hn_81 qh_119 c_120 qh_158 e_160 c_161 b_230.1 b_230.2 b_233.1 b_233.2 e_234 e_235 (Int.le_trans (by decide : (0 : Int) ≤ (elR 873).1) b_241.1) (Int.le_trans b_241.2 (by decide : (elR 873).2 ≤ (900 : Int))) e_242 e_243 e_256 e_261 e_262 b_271.1 b_271.2 b_274.1 b_274.2 e_275 e_276 e_280 c_281 b_307.1 b_307.2 e_308 b_311.1 b_311.2 e_312 e_316 e_320) (o48_72 b_84 b_85 b_88 b_89 b_96 b_97 b_110 b_111 b_112 hn_81 qh_119 c_120 qh_158 e_160 c_161 b_230.1 b_230.2 b_233.1 b_233.2 e_234 e_235 (Int.le_trans (by decide : (0 : Int) ≤ (elR 873).1) b_241.1) (Int.le_trans b_241.2 (by decide : (elR 873).2 ≤ (900 : Int))) e_242 e_243 e_256 e_261 e_262 b_271.1 b_271.2 b_274.1 b_274.2 e_275 e_276 e_280 c_281 b_307.1 b_307.2 e_308 b_311.1 b_311.2 e_312 e_316) (o48_73 b_84 b_85 b_88 b_89 b_96 b_97 b_110 b_111 b_112 hn_81 qh_119 c_120 qh_158 e_160 c_161 b_230.1 b_230.2 b_233.1 b_233.2 e_234 e_235 (Int.le_trans (by decide : (0 : Int) ≤ (elR 873).1) b_241.1) (Int.le_trans b_241.2 (by decide : (elR 873).2 ≤ (900 : Int))) e_242 e_243 e_256 e_261 e_262 b_271.1 b_271.2 b_274.1 b_274.2 e_275 e_276 e_280 c_281 b_307.1 b_307.2 e_308 b_311.1 b_311.2 e_312 e_316) (o48_74 b_84 b_85 b_88 b_89 b_96 b_97 b_110 b_111 b_112 hn_81 qh_119 c_120 qh_158 e_160 c_161 b_230.1 b_230.2 b_233.1 b_233.2 e_234 e_235 (Int.le_trans (by decide : (0 : Int) ≤ (elR 873).1) b_241.1) (Int.le_trans b_241.2 (by decide : (elR 873).2 ≤ (900 : Int))) e_242 e_243 e_256 e_261 e_262 b_271.1 b_271.2 b_274.1 b_274.2 e_275 e_276 e_280 c_281 b_307.1 b_307.2 e_308 b_311.1 b_311.2 e_312 e_316) (o48_75 b_84 b_85 b_88 b_89 b_96 b_97 b_110 b_111 b_112 hn_81 qh_119 c_120 qh_158 e_160 c_161 b_230.1 b_230.2 b_233.1 b_233.2 e_234 e_235 (Int.le_trans (by decide : (0 : Int) ≤ (elR 873).1) b_241.1) (Int.le_trans b_241.2 (by decide : (elR 873).2 ≤ (900 : Int))) e_242 e_243 e_256 e_261 e_262 b_271.1 b_271.2 b_274.1 b_274.2 e_275 e_276 e_280 c_281 b_307.1 b_307.2 e_308 b_311.1 b_311.2 e_312 e_316) (o48_76 b_84 b_85 b_88 b_89 b_96 b_97 b_110 b_111 b_112 hn_81 qh_119 c_120 qh_158 e_160 c_161 b_230.1 b_230.2 b_233.1 b_233.2 e_234 e_235 (Int.le_trans (by decide : (0 : Int) ≤ (elR 873).1) b_241.1) (Int.le_trans b_241.2 (by decide : (elR 873).2 ≤ (900 : Int))) e_242 e_243 e_256 e_261 e_262 b_271.1 b_271.2 b_274.1 b_274.2 e_275 e_276 e_280 c_281 b_307.1 b_307.2 e_308 b_311.1 b_311.2 e_312 e_316) (o48_77 b_84 b_85 b_88 b_89 b_96 b_97 b_110 b_111 b_112 hn_81 qh_119 c_120 qh_158 e_160 c_161 b_230.1 b_230.2 b_233.1 b_233.2 e_234 e_235 (Int.le_trans (by decide : (0 : Int) ≤ (elR 873).1) b_241.1) (Int.le_trans b_241.2 (by decide : (elR 873).2 ≤ (900 : Int))) e_242 e_243 e_256 e_261 e_262 b_271.1 b_271.2 b_274.1 b_274.2 e_275 e_276 e_280 c_281 b_307.1 b_307.2 e_308 b_311.1 b_311.2 e_312 e_316) (o48_56 (Int.le_trans (by decide : (0 : Int) ≤ (elR 1).1) b_246.1) (Int.le_trans b_246.2 (by decide : (elR 1).2 ≤ (5 : Int))) (Int.le_trans (by decide : (0 : Int) ≤ (elR 2).1) b_249.1) (Int.le_trans b_249.2 (by decide : (elR 2).2 ≤ (5 : Int))) e_250 (Int.le_trans (by decide : (0 : Int) ≤ (elR 3).1) b_253.1) (Int.le_trans b_253.2 (by decide : (elR 3).2 ≤ (5 : Int))) e_254) (o48_57 (Int.le_trans (by decide : (0 : Int) ≤ (elR 1).1) b_246.1) (Int.le_trans b_246.2 (by decide : (elR 1).2 ≤ (5 : Int))) (Int.le_trans (by decide : (0 : Int) ≤ (elR 2).1) b_249.1) (Int.le_trans b_249.2 (by decide : (elR 2).2 ≤ (5 : Int))) e_250 (Int.le_trans (by decide : (0 : Int) ≤ (elR 3).1) b_253.1) (Int.le_trans b_253.2 (by decide : (elR 3).2 ≤ (5 : Int))) e_254) (o48_58 (Int.le_trans (by decide : (0 : Int) ≤ (elR 1).1) b_246.1) (Int.le_trans b_246.2 (by decide : (elR 1).2 ≤ (5 : Int))) (Int.le_trans (by decide : (0 : Int) ≤ (elR 2).1) b_249.1) (Int.le_trans b_249.2 (by decide : (elR 2).2 ≤ (5 : Int))) e_250 (Int.le_trans (by decide : (0 : Int) ≤ (elR 3).1) b_253.1) (Int.le_trans b_253.2 (by decide : (elR 3).2 ≤ (5 : Int))) e_254) (o48_59 (Int.le_trans (by decide : (0 : Int) ≤ (elR 1).1) b_246.1) (Int.le_trans b_246.2 (by decide : (elR 1).2 ≤ (5 : Int))) (Int.le_trans (by decide : (0 : Int) ≤ (elR 2).1) b_249.1) (Int.le_trans b_249.2 (by decide : (elR 2).2 ≤ (5 : Int))) e_250 (Int.le_trans (by decide : (0 : Int) ≤ (elR 3).1) b_253.1) (Int.le_trans b_253.2 (by decide : (elR 3).2 ≤ (5 : Int))) e_254) (o48_60 (Int.le_trans (by decide : (0 : Int) ≤ (elR 1).1) b_246.1) (Int.le_trans b_246.2 (by decide : (elR 1).2 ≤ (5 : Int))) (Int.le_trans (by decide : (0 : Int) ≤ (elR 2).1) b_249.1) (Int.le_trans b_249.2 (by decide : (elR 2).2 ≤ (5 : Int))) e_250 (Int.le_trans (by decide : (0 : Int) ≤ (elR 3).1) b_253.1) (Int.le_trans b_253.2 (by decide : (elR 3).2 ≤ (5 : Int))) e_254) (o48_61 (Int.le_trans (by decide : (0 : Int) ≤ (elR 1).1) b_246.1) (Int.le_trans b_246.2 (by decide : (elR 1).2 ≤ (5 : Int))) (Int.le_trans (by decide : (0 : Int) ≤ (elR 2).1) b_249.1) (Int.le_trans b_249.2 (by decide : (elR 2).2 ≤ (5 : Int))) e_250 (Int.le_trans (by decide : (0 : Int) ≤ (elR 3).1) b_253.1) (Int.le_trans b_253.2 (by decide : (elR 3).2 ≤ (5 : Int))) e_254) (o48_78 b_84 b_85 b_88 b_89 b_96 b_97 b_110 b_111 b_112 hn_81 qh_119 c_120 qh_158 e_160 c_161 b_230.1 b_230.2 b_233.1 b_233.2 e_234 e_235 (Int.le_trans (by decide : (0 : Int) ≤ (elR 873).1) b_241.1) (Int.le_trans b_241.2 (by decide : (elR 873).2 ≤ (900 : Int))) e_242 e_243 e_256 e_261 e_262 b_271.1 b_271.2 b_274.1 b_274.2 e_275 e_276 e_280 c_281 b_307.1 b_307.2 e_308 b_311.1 b_311.2 e_312 e_316) (o48_79 b_84 b_85 b_88 b_89 b_96 b_97 b_110 b_111 b_112 hn_81 qh_119 c_120 qh_158 e_160 c_161 b_230.1 b_230.2 b_233.1 b_233.2 e_234 e_235 (Int.le_trans (by decide : (0 : Int) ≤ (elR 873).1) b_241.1) (Int.le_trans b_241.2 (by decide : (elR 873).2 ≤ (900 : Int))) e_242 e_243 e_256 e_261 e_262 b_271.1 b_271.2 b_274.1 b_274.2 e_275 e_276 e_280 c_281 b_307.1 b_307.2 e_308 b_311.1 b_311.2 e_312 e_316) (o48_80 b_84 b_85 b_88 b_89 b_96 b_97 b_110 b_111 b_112 hn_81 qh_119 c_120 qh_158 e_160 c_161 b_230.1 b_230.2 b_233.1 b_233.2 e_234 e_235 (Int.le_trans (by decide : (0 : Int) ≤ (elR 873).1) b_241.1) (Int.le_trans b_241.2 (by decide : (elR 873).2 ≤ (900 : Int))) e_242 e_243 e_256 e_261 e_262 b_271.1 b_271.2 b_274.1 b_274.2 e_275 e_276 e_280 c_281 b_307.1 b_307.2 e_308 b_311.1 b_311.2 e_312 e_316 e_320) (o48_65 (Int.le_trans (by decide : (0 : Int) ≤ (elR 1).1) b_246.1) (Int.le_trans b_246.2 (by decide : (elR 1).2 ≤ (5 : Int))) (Int.le_trans (by decide : (0 : Int) ≤ (elR 2).1) b_249.1) (Int.le_trans b_249.2 (by decide : (elR 2).2 ≤ (5 : Int))) e_250 (Int.le_trans (by decide : (0 : Int) ≤ (elR 3).1) b_253.1) (Int.le_trans b_253.2 (by decide : (elR 3).2 ≤ (5 : Int))) e_254) (o48_66 (Int.le_trans (by decide : (0 : Int) ≤ (elR 1).1) b_246.1) (Int.le_trans b_246.2 (by decide : (elR 1).2 ≤ (5 : Int))) (Int.le_trans (by decide : (0 : Int) ≤ (elR 2).1) b_249.1) (Int.le_trans b_249.2 (by decide : (elR 2).2 ≤ (5 : Int))) e_250 (Int.le_trans (by decide : (0 : Int) ≤ (elR 3).1) b_253.1) (Int.le_trans b_253.2 (by decide : (elR 3).2 ≤ (5 : Int))) e_254) ((FLs.pa e_224 (P4.tr (P4.tr (P4.fr u_258 (by decide)) (P4.fr u_299 (by decide))) (P4.st u_332 (o48_67 e_322))) (Eq.trans rfl e_237) (Eq.trans (fI_of (u_332.1 0 (kd_ne (S := SM q0) kSM_0 kSM_4 (by decide)))) e_318) (o48_81 b_84 b_85 b_88 b_89 b_96 b_97 b_110 b_111 b_112 hn_81 qh_119 c_120 qh_158 e_160 c_161 b_230.1 b_230.2 b_233.1 b_233.2 e_234 e_235 (Int.le_trans (by decide : (0 : Int) ≤ (elR 873).1) b_241.1) (Int.le_trans b_241.2 (by decide : (elR 873).2 ≤ (900 : Int))) e_242 e_243 e_256 e_261 e_262 b_271.1 b_271.2 b_274.1 b_274.2 e_275 e_276 e_280 c_281 b_307.1 b_307.2 e_308 b_311.1 b_311.2 e_312 e_316 e_320))) (Eq.trans (fI_of (u_332.1 0 (kd_ne (S := SM q0) kSM_0 kSM_4 (by decide)))) e_306) (Eq.trans (fI_of (u_332.1 0 (kd_ne (S := SM q0) kSM_0 kSM_4 (by decide)))) e_310) (Eq.trans (fI_of (u_332.1 0 (kd_ne (S := SM q0) kSM_0 kSM_4 (by decide)))) e_314) (Eq.trans (fI_of (u_332.1 0 (kd_ne (S := SM q0) kSM_0 kSM_4 (by decide)))) e_318) (Eq.trans (Eq.trans (u_332.2.2 873 (o48_45 e_322)) (Eq.trans (Fr.aI u_299 kSM_4 (by decide)) (Fr.aI u_258 kSM_4 (by decide)))) e_240) (Eq.trans (Eq.trans (u_332.2.2 1 (o48_46 e_322)) (Eq.trans (Fr.aI u_299 kSM_4 (by decide)) (Fr.aI u_258 kSM_4 (by decide)))) e_245) (Eq.trans (Eq.trans (u_332.2.2 2 (o48_47 e_322)) (Eq.trans (Fr.aI u_299 kSM_4 (by decide)) (Fr.aI u_258 kSM_4 (by decide)))) e_248) (Eq.trans (Eq.trans (u_332.2.2 3 (o48_48 e_322)) (Eq.trans (Fr.aI u_299 kSM_4 (by decide)) (Fr.aI u_258 kSM_4 (by decide)))) e_252) h (Fr.tr (Fr.tr (Fr.tr (Fr.tr hF_77 u_216) (Fr.mono u_258 (by decide))) (Fr.mono u_299 (by decide))) (Fr.up u_332.1 kSM_4 (by decide))) (lv_sub hl [0, 1] rfl)
    exact lp_78 ((2 * (900 - f_60.toInt) + 1 - min 1 (max f_71.toInt (-f_71.toInt)) + 1).toNat) f_60 f_67 f_64 f_71 f_50 f_41 f_44 f_47 _ _ _ _ (o48_82 e_30 e_34 b_62.1 b_62.2 e_63 b_69.1 b_69.2 e_70 e_74 e_75) (o48_83 e_30 b_62.1 b_62.2 e_63 b_69.1 b_69.2 e_70 e_75) (o48_84 e_30 b_62.1 b_62.2 e_63 b_69.1 b_69.2 e_70 e_75) (o48_85 e_30 b_62.1 b_62.2 e_63 b_69.1 b_69.2 e_70 e_75) (o48_86 e_30 b_62.1 b_62.2 e_63 b_69.1 b_69.2 e_70 e_75) (o48_87 (Int.le_trans (by decide : (0 : Int) ≤ (elR 873).1) b_52.1) (Int.le_trans b_52.2 (by decide : (elR 873).2 ≤ (900 : Int))) (zf_0 e_40 e_51 (by decide))) (o48_88 (Int.le_trans (by decide : (0 : Int) ≤ (elR 873).1) b_52.1) (Int.le_trans b_52.2 (by decide : (elR 873).2 ≤ (900 : Int))) (zf_0 e_40 e_51 (by decide))) (o48_89 (Int.le_trans (by decide : (0 : Int) ≤ (elR 1).1) b_43.1) (Int.le_trans b_43.2 (by decide : (elR 1).2 ≤ (5 : Int))) (zf_0 e_40 e_42 (by decide))) (o48_90 (Int.le_trans (by decide : (0 : Int) ≤ (elR 1).1) b_43.1) (Int.le_trans b_43.2 (by decide : (elR 1).2 ≤ (5 : Int))) (zf_0 e_40 e_42 (by decide))) (o48_89 (Int.le_trans (by decide : (0 : Int) ≤ (elR 2).1) b_46.1) (Int.le_trans b_46.2 (by decide : (elR 2).2 ≤ (5 : Int))) (zf_0 e_40 e_45 (by decide))) (o48_90 (Int.le_trans (by decide : (0 : Int) ≤ (elR 2).1) b_46.1) (Int.le_trans b_46.2 (by decide : (elR 2).2 ≤ (5 : Int))) (zf_0 e_40 e_45 (by decide))) (o48_89 (Int.le_trans (by decide : (0 : Int) ≤ (elR 3).1) b_49.1) (Int.le_trans b_49.2 (by decide : (elR 3).2 ≤ (5 : Int))) (zf_0 e_40 e_48 (by decide))) (o48_90 (Int.le_trans (by decide : (0 : Int) ≤ (elR 3).1) b_49.1) (Int.le_trans b_49.2 (by decide : (elR 3).2 ≤ (5 : Int))) (zf_0 e_40 e_48 (by decide))) (o48_91 e_30 b_62.1 b_62.2 e_63 b_69.1 b_69.2 e_70 e_75) (o48_92 e_30 b_62.1 b_62.2 e_63 b_69.1 b_69.2 e_70 e_75) (o48_93 e_30 e_34 (Int.le_trans (by decide : (0 : Int) ≤ (elR 873).1) b_52.1) (Int.le_trans b_52.2 (by decide : (elR 873).2 ≤ (900 : Int))) (zf_0 e_40 e_51 (by decide)) b_62.1 b_62.2 e_63 b_69.1 b_69.2 e_70 e_74 e_75) (o48_94 (Int.le_trans (by decide : (0 : Int) ≤ (elR 1).1) b_43.1) (Int.le_trans b_43.2 (by decide : (elR 1).2 ≤ (5 : Int))) (zf_0 e_40 e_42 (by decide)) (Int.le_trans (by decide : (0 : Int) ≤ (elR 2).1) b_46.1) (Int.le_trans b_46.2 (by decide : (elR 2).2 ≤ (5 : Int))) (zf_0 e_40 e_45 (by decide))) (o48_95 (Int.le_trans (by decide : (0 : Int) ≤ (elR 1).1) b_43.1) (Int.le_trans b_43.2 (by decide : (elR 1).2 ≤ (5 : Int))) (zf_0 e_40 e_42 (by decide)) (Int.le_trans (by decide : (0 : Int) ≤ (elR 3).1) b_49.1) (Int.le_trans b_49.2 (by decide : (elR 3).2 ≤ (5 : Int))) (zf_0 e_40 e_48 (by decide))) ((FLs.pa (FLs.zf e_40) (P4.fr u_54 (by decide)) (Eq.trans (Fr.fI u_38 kSM_0 (by decide)) u_36.2.1) (Eq.trans rfl e_72) (o48_96 e_34 e_74))) (Eq.trans rfl e_61) (Eq.trans rfl e_68) (Eq.trans rfl e_65) (Eq.trans rfl e_72) (Eq.trans (Fr.aI u_54 kSM_4 (by decide)) e_51) (Eq.trans (Fr.aI u_54 kSM_4 (by decide)) e_42) (Eq.trans (Fr.aI u_54 kSM_4 (by decide)) e_45) (Eq.trans (Fr.aI u_54 kSM_4 (by decide)) e_48) h Fr.rf (lv_sub hl [0, 1] rfl)
  · -- 16
    refine y_c2 (n := (-3)) C0 (by decide) dX12_city_19 (fun v_335 e_336 => ?_)
    rw [hQ]
    exact y_iret C0 h (Fr.tr (Fr.up u_4.1 kSM_0 (by decide)) (Fr.mono u_16 (by decide))) ⟨(J.pa hT hJ (Pa.fr (M := [0]) (Fr.tr (Fr.up u_4.1 kSM_0 (by decide)) (Fr.mono u_16 (by decide))) (by decide))), (by have g := congrArg Int32.toInt ((u_4.2.2 5 (by decide)).symm.trans e_10); have g2 := congrArg Int32.toInt (Fr.fI (k := 5) u_16 kSM_0 (by decide)); have g3 := congrArg Int32.toInt (u_4.2.2 5 (by decide)); exact Or.inl ⟨by omega, by omega⟩)⟩ dX12_city_21
