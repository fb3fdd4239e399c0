theorem dX12_city_0 : decode cX12_city 0 = .ok (.aload_n 0, 1) := by decide +kernel
theorem dX12_city_1 : decode cX12_city 1 = .ok (.iconst 0, 1) := by decide +kernel
theorem dX12_city_2 : decode cX12_city 2 = .ok (.putfield 1, 3) := by decide +kernel
theorem dX12_city_5 : decode cX12_city 5 = .ok (.iload_n 1, 1) := by decide +kernel
theorem dX12_city_6 : decode cX12_city 6 = .ok (.i2l, 1) := by decide +kernel
theorem dX12_city_7 : decode cX12_city 7 = .ok (.lconst 0, 1) := by decide +kernel
theorem dX12_city_8 : decode cX12_city 8 = .ok (.aload_n 0, 1) := by decide +kernel
theorem dX12_city_9 : decode cX12_city 9 = .ok (.getfield 99, 3) := by decide +kernel
theorem dX12_city_12 : decode cX12_city 12 = .ok (.i2l, 1) := by decide +kernel
theorem dX12_city_13 : decode cX12_city 13 = .ok (.invokestatic 161, 3) := by decide +kernel
theorem dX12_city_16 : decode cX12_city 16 = .ok (.ifCond .ne 6, 3) := by decide +kernel
theorem dX12_city_19 : decode cX12_city 19 = .ok (.bipush (-3), 2) := by decide +kernel
theorem dX12_city_21 : decode cX12_city 21 = .ok (.ireturn, 1) := by decide +kernel
theorem dX12_city_22 : decode cX12_city 22 = .ok (.aload_n 0, 1) := by decide +kernel
theorem dX12_city_23 : decode cX12_city 23 = .ok (.iload_n 1, 1) := by decide +kernel
theorem dX12_city_24 : decode cX12_city 24 = .ok (.putfield 102, 3) := by decide +kernel
theorem dX12_city_27 : decode cX12_city 27 = .ok (.aload_n 0, 1) := by decide +kernel
theorem dX12_city_28 : decode cX12_city 28 = .ok (.iconst 0, 1) := by decide +kernel
theorem dX12_city_29 : decode cX12_city 29 = .ok (.putfield 99, 3) := by decide +kernel
theorem dX12_city_32 : decode cX12_city 32 = .ok (.aload_n 0, 1) := by decide +kernel
theorem dX12_city_33 : decode cX12_city 33 = .ok (.iconst 0, 1) := by decide +kernel
theorem dX12_city_34 : decode cX12_city 34 = .ok (.putfield 120, 3) := by decide +kernel
theorem dX12_city_37 : decode cX12_city 37 = .ok (.aload_n 0, 1) := by decide +kernel
theorem dX12_city_38 : decode cX12_city 38 = .ok (.iconst 0, 1) := by decide +kernel
theorem dX12_city_39 : decode cX12_city 39 = .ok (.putfield 145, 3) := by decide +kernel
theorem dX12_city_42 : decode cX12_city 42 = .ok (.aload_n 0, 1) := by decide +kernel
theorem dX12_city_43 : decode cX12_city 43 = .ok (.getfield 24, 3) := by decide +kernel
theorem dX12_city_46 : decode cX12_city 46 = .ok (.invokestatic 95, 3) := by decide +kernel
theorem dX12_city_49 : decode cX12_city 49 = .ok (.aload_n 0, 1) := by decide +kernel
theorem dX12_city_50 : decode cX12_city 50 = .ok (.invokevirtual 154, 3) := by decide +kernel
theorem dX12_city_53 : decode cX12_city 53 = .ok (.aload_n 0, 1) := by decide +kernel
theorem dX12_city_54 : decode cX12_city 54 = .ok (.getfield 145, 3) := by decide +kernel
theorem dX12_city_57 : decode cX12_city 57 = .ok (.ifCond .ne 43, 3) := by decide +kernel
theorem dX12_city_60 : decode cX12_city 60 = .ok (.aload_n 0, 1) := by decide +kernel
theorem dX12_city_61 : decode cX12_city 61 = .ok (.getfield 127, 3) := by decide +kernel
theorem dX12_city_64 : decode cX12_city 64 = .ok (.bipush 24, 2) := by decide +kernel
theorem dX12_city_66 : decode cX12_city 66 = .ok (.if_icmp .eq 34, 3) := by decide +kernel
theorem dX12_city_69 : decode cX12_city 69 = .ok (.aload_n 0, 1) := by decide +kernel
theorem dX12_city_70 : decode cX12_city 70 = .ok (.invokevirtual 223, 3) := by decide +kernel
theorem dX12_city_73 : decode cX12_city 73 = .ok (.aload_n 0, 1) := by decide +kernel
theorem dX12_city_74 : decode cX12_city 74 = .ok (.bipush 30, 2) := by decide +kernel
theorem dX12_city_76 : decode cX12_city 76 = .ok (.invokevirtual 178, 3) := by decide +kernel
theorem dX12_city_79 : decode cX12_city 79 = .ok (.ifCond .ne 8, 3) := by decide +kernel
theorem dX12_city_82 : decode cX12_city 82 = .ok (.aload_n 0, 1) := by decide +kernel
theorem dX12_city_83 : decode cX12_city 83 = .ok (.iconst 2, 1) := by decide +kernel
theorem dX12_city_84 : decode cX12_city 84 = .ok (.invokevirtual 157, 3) := by decide +kernel
theorem dX12_city_87 : decode cX12_city 87 = .ok (.aload_n 0, 1) := by decide +kernel
theorem dX12_city_88 : decode cX12_city 88 = .ok (.getfield 24, 3) := by decide +kernel
theorem dX12_city_91 : decode cX12_city 91 = .ok (.iconst 0, 1) := by decide +kernel
theorem dX12_city_92 : decode cX12_city 92 = .ok (.dup2, 1) := by decide +kernel
theorem dX12_city_93 : decode cX12_city 93 = .ok (.iaload, 1) := by decide +kernel
theorem dX12_city_94 : decode cX12_city 94 = .ok (.iconst 1, 1) := by decide +kernel
theorem dX12_city_95 : decode cX12_city 95 = .ok (.iadd, 1) := by decide +kernel
theorem dX12_city_96 : decode cX12_city 96 = .ok (.iastore, 1) := by decide +kernel
theorem dX12_city_97 : decode cX12_city 97 = .ok (.goto (-44), 3) := by decide +kernel
theorem dX12_city_100 : decode cX12_city 100 = .ok (.aload_n 0, 1) := by decide +kernel
theorem dX12_city_101 : decode cX12_city 101 = .ok (.aload_n 0, 1) := by decide +kernel
theorem dX12_city_102 : decode cX12_city 102 = .ok (.getfield 145, 3) := by decide +kernel
theorem dX12_city_105 : decode cX12_city 105 = .ok (.putfield 226, 3) := by decide +kernel
theorem dX12_city_108 : decode cX12_city 108 = .ok (.aload_n 0, 1) := by decide +kernel
theorem dX12_city_109 : decode cX12_city 109 = .ok (.aload_n 0, 1) := by decide +kernel
theorem dX12_city_110 : decode cX12_city 110 = .ok (.getfield 145, 3) := by decide +kernel
theorem dX12_city_113 : decode cX12_city 113 = .ok (.ifCond .ne 7, 3) := by decide +kernel
theorem dX12_city_116 : decode cX12_city 116 = .ok (.iconst (-1), 1) := by decide +kernel
theorem dX12_city_117 : decode cX12_city 117 = .ok (.goto 7, 3) := by decide +kernel
theorem dX12_city_120 : decode cX12_city 120 = .ok (.aload_n 0, 1) := by decide +kernel
theorem dX12_city_121 : decode cX12_city 121 = .ok (.getfield 148, 3) := by decide +kernel
theorem dX12_city_124 : decode cX12_city 124 = .ok (.putfield 27, 3) := by decide +kernel
theorem dX12_city_127 : decode cX12_city 127 = .ok (.aload_n 0, 1) := by decide +kernel
theorem dX12_city_128 : decode cX12_city 128 = .ok (.getfield 145, 3) := by decide +kernel
theorem dX12_city_131 : decode cX12_city 131 = .ok (.ifCond .eq 11, 3) := by decide +kernel
theorem dX12_city_134 : decode cX12_city 134 = .ok (.bipush (-30), 2) := by decide +kernel
theorem dX12_city_136 : decode cX12_city 136 = .ok (.aload_n 0, 1) := by decide +kernel
theorem dX12_city_137 : decode cX12_city 137 = .ok (.getfield 145, 3) := by decide +kernel
theorem dX12_city_140 : decode cX12_city 140 = .ok (.isub, 1) := by decide +kernel
theorem dX12_city_141 : decode cX12_city 141 = .ok (.ireturn, 1) := by decide +kernel
theorem dX12_city_142 : decode cX12_city 142 = .ok (.iconst 0, 1) := by decide +kernel
theorem dX12_city_143 : decode cX12_city 143 = .ok (.istore_n 2, 1) := by decide +kernel
theorem dX12_city_144 : decode cX12_city 144 = .ok (.iload_n 2, 1) := by decide +kernel
theorem dX12_city_145 : decode cX12_city 145 = .ok (.sipush 1774, 3) := by decide +kernel
theorem dX12_city_148 : decode cX12_city 148 = .ok (.if_icmp .ge 21, 3) := by decide +kernel
theorem dX12_city_151 : decode cX12_city 151 = .ok (.aload_n 0, 1) := by decide +kernel
theorem dX12_city_152 : decode cX12_city 152 = .ok (.getfield 13, 3) := by decide +kernel
theorem dX12_city_155 : decode cX12_city 155 = .ok (.iload_n 2, 1) := by decide +kernel
theorem dX12_city_156 : decode cX12_city 156 = .ok (.aload_n 0, 1) := by decide +kernel
theorem dX12_city_157 : decode cX12_city 157 = .ok (.getfield 24, 3) := by decide +kernel
theorem dX12_city_160 : decode cX12_city 160 = .ok (.iload_n 2, 1) := by decide +kernel
theorem dX12_city_161 : decode cX12_city 161 = .ok (.iaload, 1) := by decide +kernel
theorem dX12_city_162 : decode cX12_city 162 = .ok (.iastore, 1) := by decide +kernel
theorem dX12_city_163 : decode cX12_city 163 = .ok (.iinc 2 1, 3) := by decide +kernel
theorem dX12_city_166 : decode cX12_city 166 = .ok (.goto (-22), 3) := by decide +kernel
theorem dX12_city_169 : decode cX12_city 169 = .ok (.aload_n 0, 1) := by decide +kernel
theorem dX12_city_170 : decode cX12_city 170 = .ok (.getfield 13, 3) := by decide +kernel
theorem dX12_city_173 : decode cX12_city 173 = .ok (.iconst 0, 1) := by decide +kernel
theorem dX12_city_174 : decode cX12_city 174 = .ok (.iaload, 1) := by decide +kernel
theorem dX12_city_175 : decode cX12_city 175 = .ok (.ireturn, 1) := by decide +kernel
theorem dX12_plain_0 : decode cX12_plain 0 = .ok (.iconst 0, 1) := by decide +kernel
theorem dX12_plain_1 : decode cX12_plain 1 = .ok (.istore_n 1, 1) := by decide +kernel
theorem dX12_plain_2 : decode cX12_plain 2 = .ok (.iload_n 1, 1) := by decide +kernel
theorem dX12_plain_3 : decode cX12_plain 3 = .ok (.sipush 1774, 3) := by decide +kernel
theorem dX12_plain_6 : decode cX12_plain 6 = .ok (.if_icmp .ge 13, 3) := by decide +kernel
theorem dX12_plain_9 : decode cX12_plain 9 = .ok (.aload_n 0, 1) := by decide +kernel
theorem dX12_plain_10 : decode cX12_plain 10 = .ok (.iload_n 1, 1) := by decide +kernel
theorem dX12_plain_11 : decode cX12_plain 11 = .ok (.iconst 0, 1) := by decide +kernel
theorem dX12_plain_12 : decode cX12_plain 12 = .ok (.iastore, 1) := by decide +kernel
theorem dX12_plain_13 : decode cX12_plain 13 = .ok (.iinc 1 1, 3) := by decide +kernel
theorem dX12_plain_16 : decode cX12_plain 16 = .ok (.goto (-14), 3) := by decide +kernel
theorem dX12_plain_19 : decode cX12_plain 19 = .ok (.return_, 1) := by decide +kernel
theorem o48_1 {x0 : Int} (h0 : 0 ≤ x0) (h1 : x0 ≤ 1774) (h2 : 1774 - x0 < 0) : False := by omega
theorem o48_2 {x0 : Int} (h0 : x0 = 1774) : x0 = 1774 := by omega
theorem o48_3 {x0 x2 : Int} {x1 : Nat} (h0 : 0 ≤ x0) (h1 : x0 ≤ 1774) (h2 : 1774 - x0 < ((x1 + 1 : Nat) : Int)) (h3 : x2 = 1774) (h4 : x2 ≤ x0) : ¬ x0 < 1774 := by omega
theorem o48_4 {x0 x2 : Int} {x1 : Nat} (h0 : 0 ≤ x0) (h1 : x0 ≤ 1774) (h2 : 1774 - x0 < ((x1 + 1 : Nat) : Int)) (h3 : x2 = 1774) (h4 : x0 < x2) : x0 < 1774 := by omega
theorem o48_5 {x0 x2 : Int} {x1 : Nat} (h0 : 0 ≤ x0) (h1 : x0 ≤ 1774) (h2 : 1774 - x0 < ((x1 + 1 : Nat) : Int)) (h3 : x2 = 1774) (h4 : x2 ≤ x0) : 1774 ≤ x0 := by omega
theorem o48_6 {x0 x2 : Int} {x1 : Nat} (h0 : 0 ≤ x0) (h1 : x0 ≤ 1774) (h2 : 1774 - x0 < ((x1 + 1 : Nat) : Int)) (h3 : x2 = 1774) (h4 : x0 < x2) : 0 ≤ x0 := by omega
theorem o48_7 {x0 x2 : Int} {x1 : Nat} (h0 : 0 ≤ x0) (h1 : x0 ≤ 1774) (h2 : 1774 - x0 < ((x1 + 1 : Nat) : Int)) (h3 : x2 = 1774) (h4 : x0 < x2) : x0 < (1774 : Nat) := by omega
theorem o48_8 : ∀ p, p < 1774 → 0 ≤ p → (elR p).1 ≤ 0 ∧ 1 ≤ (elR p).2 := by decide +kernel
theorem o48_9 {x0 x2 : Int} {x1 : Nat} (h0 : 0 ≤ x0) (h1 : x0 ≤ 1774) (h2 : 1774 - x0 < ((x1 + 1 : Nat) : Int)) (h3 : x2 = 1774) (h4 : x0 < x2) : (x0).toNat < 1774 := by omega
theorem o48_10 {x0 x2 : Int} {x1 : Nat} (h0 : 0 ≤ x0) (h1 : x0 ≤ 1774) (h2 : 1774 - x0 < ((x1 + 1 : Nat) : Int)) (h3 : x2 = 1774) (h4 : x0 < x2) : 0 ≤ (x0).toNat := by omega
theorem o48_11 {x0 : Int} (h0 : x0 = 0) : 0 ≤ x0 := by omega
theorem o48_12 {x0 : Int} (h0 : x0 = 0) : x0 ≤ 1 := by omega
theorem o48_13 {x0 x2 : Int} {x1 : Nat} (h0 : 0 ≤ x0) (h1 : x0 ≤ 1774) (h2 : 1774 - x0 < ((x1 + 1 : Nat) : Int)) (h3 : x2 = 1774) (h4 : x0 < x2) (h5 : -2147483648 ≤ x0) (h6 : x0 ≤ 2147483647) (h7 : -2147483648 ≤ x2) (h8 : x2 ≤ 2147483647) : -2147483648 ≤ x0 + 1 := by omega
theorem o48_14 {x0 x2 : Int} {x1 : Nat} (h0 : 0 ≤ x0) (h1 : x0 ≤ 1774) (h2 : 1774 - x0 < ((x1 + 1 : Nat) : Int)) (h3 : x2 = 1774) (h4 : x0 < x2) (h5 : -2147483648 ≤ x0) (h6 : x0 ≤ 2147483647) (h7 : -2147483648 ≤ x2) (h8 : x2 ≤ 2147483647) : x0 + 1 ≤ 2147483647 := by omega
theorem o48_15 {x0 x2 x3 : Int} {x1 : Nat} (h0 : 0 ≤ x2) (h1 : x2 ≤ 1774) (h2 : 1774 - x2 < ((x1 + 1 : Nat) : Int)) (h3 : x3 = 1774) (h4 : x2 < x3) (h5 : x0 = x2 + 1) : 1774 - x0 < (x1 : Int) := by omega
theorem o48_16 {x0 x1 x3 : Int} {x2 : Nat} (h0 : 0 ≤ x1) (h1 : x1 ≤ 1774) (h2 : 1774 - x1 < ((x2 + 1 : Nat) : Int)) (h3 : x3 = 1774) (h4 : x1 < x3) (h5 : x0 = x1 + 1) : 0 ≤ x0 := by omega
theorem o48_17 {x0 x1 x3 : Int} {x2 : Nat} (h0 : 0 ≤ x1) (h1 : x1 ≤ 1774) (h2 : 1774 - x1 < ((x2 + 1 : Nat) : Int)) (h3 : x3 = 1774) (h4 : x1 < x3) (h5 : x0 = x1 + 1) : x0 ≤ 1774 := by omega
theorem o48_18 {x0 x2 x3 : Int} {x1 : Nat} (h0 : 0 ≤ x0) (h1 : x0 ≤ 1774) (h2 : 1774 - x0 < ((x1 + 1 : Nat) : Int)) (h3 : x2 = 1774) (h4 : x0 < x2) (h5 : x3 = x0 + 1) : x0 = x0 := by omega
theorem o48_19 {x0 : Int} (h0 : x0 = 0) : x0 = 0 := by omega
theorem o48_20 {x0 x2 x3 : Int} {x1 : Nat} (h0 : 0 ≤ x0) (h1 : x0 ≤ 1774) (h2 : 1774 - x0 < ((x1 + 1 : Nat) : Int)) (h3 : x2 = 1774) (h4 : x0 < x2) (h5 : x3 = x0 + 1) : 0 ≤ x0 := by omega
theorem o48_21 {x0 : Int} (h0 : x0 = 0) : 1774 - x0 < (((1774 - x0 + 1).toNat : Nat) : Int) := by omega
theorem o48_22 {x0 : Int} (h0 : x0 = 0) : x0 ≤ 1774 := by omega
theorem o48_23 {x0 x1 x2 x3 x4 x5 : Int} (h0 : x1 = x0) (h1 : x2 = 0) (h2 : 0 ≤ x3) (h3 : x3 ≤ 900) (h4 : x4 = x3) (h5 : 0 ≤ x5) (h6 : x5 ≤ 1) (h7 : ((x5 = 0 ∧ (x1 < x2 ∨ x4 < x1)) ∨ (x5 = 1 ∧ x2 ≤ x1 ∧ x1 ≤ x4))) (h8 : ¬ x5 = 0) : 0 ≤ x0 := by omega
theorem o48_24 {x0 x1 x2 x3 x4 x5 : Int} (h0 : x1 = x0) (h1 : x2 = 0) (h2 : 0 ≤ x3) (h3 : x3 ≤ 900) (h4 : x4 = x3) (h5 : 0 ≤ x5) (h6 : x5 ≤ 1) (h7 : ((x5 = 0 ∧ (x1 < x2 ∨ x4 < x1)) ∨ (x5 = 1 ∧ x2 ≤ x1 ∧ x1 ≤ x4))) (h8 : ¬ x5 = 0) : x0 ≤ 900 := by omega
theorem o48_25 {x0 : Int} (h0 : x0 = 0) : x0 ≤ 900 := by omega
theorem o48_26 {x0 x1 x2 x3 x4 : Int} (h0 : 0 ≤ x0) (h1 : x0 ≤ 900) (h2 : 0 ≤ x2) (h3 : x2 ≤ 900) (h4 : 0 ≤ x3) (h5 : x3 ≤ 900) (h6 : (x4 = 24 ∨ x0 < x2)) (h7 : x0 ≤ x2) (h8 : (¬ x1 = 0 ∨ x3 ≤ x0)) (h9 : 2 * (900 - x0) + 1 - min 1 (max x1 (-x1)) < 0) : False := by omega
theorem o48_27 {x0 x1 x2 x3 x4 x5 x7 x8 : Int} {x6 : Nat} (h0 : 0 ≤ x1) (h1 : x1 ≤ 900) (h2 : 0 ≤ x2) (h3 : x2 ≤ 900) (h4 : 0 ≤ x3) (h5 : x3 ≤ 900) (h6 : (x4 = 24 ∨ x1 < x2)) (h7 : x1 ≤ x2) (h8 : (¬ x5 = 0 ∨ x3 ≤ x1)) (h9 : 2 * (900 - x1) + 1 - min 1 (max x5 (-x5)) < ((x6 + 1 : Nat) : Int)) (h10 : x7 = x5) (h11 : ¬ x7 = 0) (h12 : x8 = x5) (h13 : x0 = x5) (h14 : x0 = 0) : False := by omega
theorem o48_28 {x0 x1 x2 x3 x4 x5 x7 x8 x9 : Int} {x6 : Nat} (h0 : 0 ≤ x1) (h1 : x1 ≤ 900) (h2 : 0 ≤ x2) (h3 : x2 ≤ 900) (h4 : 0 ≤ x3) (h5 : x3 ≤ 900) (h6 : (x4 = 24 ∨ x1 < x2)) (h7 : x1 ≤ x2) (h8 : (¬ x5 = 0 ∨ x3 ≤ x1)) (h9 : 2 * (900 - x1) + 1 - min 1 (max x5 (-x5)) < ((x6 + 1 : Nat) : Int)) (h10 : x7 = x5) (h11 : ¬ x7 = 0) (h12 : x8 = x5) (h13 : x9 = x5) (h14 : ¬ x9 = 0) (h15 : x0 = x5) (h16 : x0 = 0) : False := by omega
theorem o48_29 {x0 : Int} (h0 : x0 = 24) : x0 = 24 := by omega
theorem o48_30 {x0 x1 x2 x3 x4 x5 x7 x8 : Int} {x6 : Nat} (h0 : 0 ≤ x1) (h1 : x1 ≤ 900) (h2 : 0 ≤ x2) (h3 : x2 ≤ 900) (h4 : 0 ≤ x3) (h5 : x3 ≤ 900) (h6 : (x4 = 24 ∨ x1 < x2)) (h7 : x1 ≤ x2) (h8 : (¬ x5 = 0 ∨ x3 ≤ x1)) (h9 : 2 * (900 - x1) + 1 - min 1 (max x5 (-x5)) < ((x6 + 1 : Nat) : Int)) (h10 : x7 = x5) (h11 : x7 = 0) (h12 : x0 = x4) (h13 : x8 = 24) (h14 : x0 = x8) : x0 = 24 := by omega
theorem o48_31 {x0 x1 x2 x3 x4 x5 x7 x8 : Int} {x6 : Nat} (h0 : 0 ≤ x1) (h1 : x1 ≤ 900) (h2 : 0 ≤ x2) (h3 : x2 ≤ 900) (h4 : 0 ≤ x3) (h5 : x3 ≤ 900) (h6 : (x4 = 24 ∨ x1 < x2)) (h7 : x1 ≤ x2) (h8 : (¬ x5 = 0 ∨ x3 ≤ x1)) (h9 : 2 * (900 - x1) + 1 - min 1 (max x5 (-x5)) < ((x6 + 1 : Nat) : Int)) (h10 : x7 = x5) (h11 : x7 = 0) (h12 : x0 = x4) (h13 : x8 = 24) (h14 : ¬ x0 = x8) : ¬ x0 = 24 := by omega
theorem o48_32 {x0 x1 x2 x3 x4 x5 x7 x8 x9 x10 : Int} {x6 : Nat} (h0 : 0 ≤ x1) (h1 : x1 ≤ 900) (h2 : 0 ≤ x2) (h3 : x2 ≤ 900) (h4 : 0 ≤ x3) (h5 : x3 ≤ 900) (h6 : (x4 = 24 ∨ x1 < x2)) (h7 : x1 ≤ x2) (h8 : (¬ x5 = 0 ∨ x3 ≤ x1)) (h9 : 2 * (900 - x1) + 1 - min 1 (max x5 (-x5)) < ((x6 + 1 : Nat) : Int)) (h10 : x7 = x5) (h11 : x7 = 0) (h12 : x8 = x4) (h13 : x9 = 24) (h14 : x8 = x9) (h15 : x10 = x5) (h16 : x0 = x5) (h17 : ¬ x0 = 0) : False := by omega
theorem o48_33 {x0 x1 x2 x3 x4 x5 x7 x8 x9 x10 x11 : Int} {x6 : Nat} (h0 : 0 ≤ x1) (h1 : x1 ≤ 900) (h2 : 0 ≤ x2) (h3 : x2 ≤ 900) (h4 : 0 ≤ x3) (h5 : x3 ≤ 900) (h6 : (x4 = 24 ∨ x1 < x2)) (h7 : x1 ≤ x2) (h8 : (¬ x5 = 0 ∨ x3 ≤ x1)) (h9 : 2 * (900 - x1) + 1 - min 1 (max x5 (-x5)) < ((x6 + 1 : Nat) : Int)) (h10 : x7 = x5) (h11 : x7 = 0) (h12 : x8 = x4) (h13 : x9 = 24) (h14 : x8 = x9) (h15 : x10 = x5) (h16 : x11 = x5) (h17 : x11 = 0) (h18 : x0 = x5) (h19 : ¬ x0 = 0) : False := by omega
theorem o48_34 {x0 x1 x2 x3 x4 x6 x7 x8 x9 x10 x11 : Int} {x5 : Nat} (h0 : 0 ≤ x1) (h1 : x1 ≤ 900) (h2 : 0 ≤ x2) (h3 : x2 ≤ 900) (h4 : 0 ≤ x3) (h5 : x3 ≤ 900) (h6 : (x4 = 24 ∨ x1 < x2)) (h7 : x1 ≤ x2) (h8 : (¬ x0 = 0 ∨ x3 ≤ x1)) (h9 : 2 * (900 - x1) + 1 - min 1 (max x0 (-x0)) < ((x5 + 1 : Nat) : Int)) (h10 : x6 = x0) (h11 : x6 = 0) (h12 : x7 = x4) (h13 : x8 = 24) (h14 : x7 = x8) (h15 : x9 = x0) (h16 : x10 = x0) (h17 : x10 = 0) (h18 : x11 = x0) (h19 : x11 = 0) : (x0 = 0 → x0 = 0) := by omega
theorem o48_35 {x0 x1 x2 x3 x4 x6 x7 x8 x9 x10 x11 : Int} {x5 : Nat} (h0 : 0 ≤ x1) (h1 : x1 ≤ 900) (h2 : 0 ≤ x2) (h3 : x2 ≤ 900) (h4 : 0 ≤ x3) (h5 : x3 ≤ 900) (h6 : (x4 = 24 ∨ x1 < x2)) (h7 : x1 ≤ x2) (h8 : (¬ x0 = 0 ∨ x3 ≤ x1)) (h9 : 2 * (900 - x1) + 1 - min 1 (max x0 (-x0)) < ((x5 + 1 : Nat) : Int)) (h10 : x6 = x0) (h11 : x6 = 0) (h12 : x7 = x4) (h13 : x8 = 24) (h14 : x7 = x8) (h15 : x9 = x0) (h16 : x10 = x0) (h17 : x10 = 0) (h18 : x11 = x0) (h19 : x11 = 0) : x0 = 0 := by omega
theorem o48_36 {x0 x1 x2 : Int} (h0 : 0 ≤ x0) (h1 : x0 ≤ 5) (h2 : 0 ≤ x1) (h3 : x1 ≤ 5) (h4 : 0 ≤ x2) (h5 : x2 ≤ 5) (h6 : (x0 = 0 ∨ 1 ≤ x1)) (h7 : (x2 = 0 ∨ 1 ≤ x0)) : (x0 = 0 ∨ 1 ≤ x1) := by omega
theorem o48_37 {x0 x1 x2 : Int} (h0 : 0 ≤ x1) (h1 : x1 ≤ 5) (h2 : 0 ≤ x2) (h3 : x2 ≤ 5) (h4 : 0 ≤ x0) (h5 : x0 ≤ 5) (h6 : (x1 = 0 ∨ 1 ≤ x2)) (h7 : (x0 = 0 ∨ 1 ≤ x1)) : (x0 = 0 ∨ 1 ≤ x1) := by omega
theorem o48_38 {x0 : Int} (h0 : x0 = 0) : x0 < (5322 : Nat) := by omega
theorem o48_39 {x0 : Int} (h0 : x0 = 0) : x0 = ((0 : Nat) : Int) := by omega
theorem o48_40 {x0 x2 : Int} {x1 : Nat} (h0 : 0 ≤ x0) (h1 : x0 ≤ 1774) (h2 : 1774 - x0 < ((x1 + 1 : Nat) : Int)) (h3 : x2 = 1774) (h4 : x0 < x2) : x0 < (5322 : Nat) := by omega
theorem o48_41 {x0 x2 x3 : Int} {x1 : Nat} (h0 : 0 ≤ x0) (h1 : x0 ≤ 1774) (h2 : 1774 - x0 < ((x1 + 1 : Nat) : Int)) (h3 : x2 = 1774) (h4 : x0 < x2) (h5 : x3 = x0 + 1) : x0 < 1774 := by omega
theorem o48_42 {x0 x1 x2 x3 x4 x6 x7 x8 : Int} {x5 : Nat} (h0 : 0 ≤ x1) (h1 : x1 ≤ 900) (h2 : 0 ≤ x2) (h3 : x2 ≤ 900) (h4 : 0 ≤ x3) (h5 : x3 ≤ 900) (h6 : (x0 = 24 ∨ x1 < x2)) (h7 : x1 ≤ x2) (h8 : (¬ x4 = 0 ∨ x3 ≤ x1)) (h9 : 2 * (900 - x1) + 1 - min 1 (max x4 (-x4)) < ((x5 + 1 : Nat) : Int)) (h10 : x6 = x4) (h11 : x6 = 0) (h12 : x7 = x0) (h13 : x8 = 24) (h14 : ¬ x7 = x8) : (x0 = 24 ∨ x1 < x2) := by omega
theorem o48_43 {x0 x1 x2 x3 x4 x6 x7 x8 : Int} {x5 : Nat} (h0 : 0 ≤ x0) (h1 : x0 ≤ 900) (h2 : 0 ≤ x1) (h3 : x1 ≤ 900) (h4 : 0 ≤ x2) (h5 : x2 ≤ 900) (h6 : (x3 = 24 ∨ x0 < x1)) (h7 : x0 ≤ x1) (h8 : (¬ x4 = 0 ∨ x2 ≤ x0)) (h9 : 2 * (900 - x0) + 1 - min 1 (max x4 (-x4)) < ((x5 + 1 : Nat) : Int)) (h10 : x6 = x4) (h11 : x6 = 0) (h12 : x7 = x3) (h13 : x8 = 24) (h14 : ¬ x7 = x8) : x0 ≤ x1 := by omega
theorem o48_44 {x0 x1 x2 x3 x4 x6 x7 x8 : Int} {x5 : Nat} (h0 : 0 ≤ x2) (h1 : x2 ≤ 900) (h2 : 0 ≤ x3) (h3 : x3 ≤ 900) (h4 : 0 ≤ x1) (h5 : x1 ≤ 900) (h6 : (x4 = 24 ∨ x2 < x3)) (h7 : x2 ≤ x3) (h8 : (¬ x0 = 0 ∨ x1 ≤ x2)) (h9 : 2 * (900 - x2) + 1 - min 1 (max x0 (-x0)) < ((x5 + 1 : Nat) : Int)) (h10 : x6 = x0) (h11 : x6 = 0) (h12 : x7 = x4) (h13 : x8 = 24) (h14 : ¬ x7 = x8) : (¬ x0 = 0 ∨ x1 ≤ x2) := by omega
theorem o48_45 {x0 x1 x2 x3 x4 x5 x6 x7 x9 x10 x11 x12 x13 : Int} {x8 : Nat} (h0 : 0 ≤ x3) (h1 : x3 ≤ 900) (h2 : 0 ≤ x4) (h3 : x4 ≤ 900) (h4 : 0 ≤ x5) (h5 : x5 ≤ 900) (h6 : (x6 = 24 ∨ x3 < x4)) (h7 : x3 ≤ x4) (h8 : (¬ x7 = 0 ∨ x5 ≤ x3)) (h9 : 2 * (900 - x3) + 1 - min 1 (max x7 (-x7)) < ((x8 + 1 : Nat) : Int)) (h10 : x9 = x7) (h11 : x9 = 0) (h12 : x10 = x6) (h13 : x11 = 24) (h14 : ¬ x10 = x11) (h15 : 0 ≤ x1) (h16 : x1 ≤ 900) (h17 : 0 ≤ x2) (h18 : x2 ≤ 900) (h19 : (x0 = 24 ∨ x1 < x2)) (h20 : x1 ≤ x2) (h21 : 0 ≤ x12) (h22 : x12 ≤ 900) (h23 : (x13 = 0 → x7 = 0 ∧ x12 - x5 ≤ x1 - x3)) (h24 : x3 ≤ x1) : (x0 = 24 ∨ x1 < x2) := by omega
theorem o48_46 {x0 x1 x2 x3 x4 x5 x6 x8 x9 x10 x11 x12 x13 : Int} {x7 : Nat} (h0 : 0 ≤ x2) (h1 : x2 ≤ 900) (h2 : 0 ≤ x3) (h3 : x3 ≤ 900) (h4 : 0 ≤ x4) (h5 : x4 ≤ 900) (h6 : (x5 = 24 ∨ x2 < x3)) (h7 : x2 ≤ x3) (h8 : (¬ x6 = 0 ∨ x4 ≤ x2)) (h9 : 2 * (900 - x2) + 1 - min 1 (max x6 (-x6)) < ((x7 + 1 : Nat) : Int)) (h10 : x8 = x6) (h11 : x8 = 0) (h12 : x9 = x5) (h13 : x10 = 24) (h14 : ¬ x9 = x10) (h15 : 0 ≤ x0) (h16 : x0 ≤ 900) (h17 : 0 ≤ x1) (h18 : x1 ≤ 900) (h19 : (x11 = 24 ∨ x0 < x1)) (h20 : x0 ≤ x1) (h21 : 0 ≤ x12) (h22 : x12 ≤ 900) (h23 : (x13 = 0 → x6 = 0 ∧ x12 - x4 ≤ x0 - x2)) (h24 : x2 ≤ x0) : x0 ≤ x1 := by omega
theorem o48_47 {x0 : Int} (h0 : x0 = 0) : x0 < (1774 : Nat) := by omega
theorem o48_48 : ∀ p, p < 1 → 0 ≤ p → (elR p).1 ≤ (-2147483648) ∧ 2147483647 ≤ (elR p).2 := by decide +kernel
theorem o48_49 {x0 : Int} (h0 : x0 = 0) : (x0).toNat < 1 := by omega
theorem o48_50 {x0 : Int} (h0 : x0 = 0) : 0 ≤ (x0).toNat := by omega
theorem o48_51 {x0 : Int} (h0 : x0 = 0) : 873 ≠ (x0).toNat := by omega
theorem o48_52 {x0 : Int} (h0 : x0 = 0) : 1 ≠ (x0).toNat := by omega
theorem o48_53 {x0 : Int} (h0 : x0 = 0) : 2 ≠ (x0).toNat := by omega
theorem o48_54 {x0 : Int} (h0 : x0 = 0) : 3 ≠ (x0).toNat := by omega
theorem o48_55 {x0 x1 x3 x4 x5 x6 x7 x8 x9 x10 x11 x12 x13 x14 x15 x16 x17 x18 x19 : Int} {x2 : Nat} (h0 : 0 ≤ x3) (h1 : x3 ≤ 900) (h2 : 0 ≤ x4) (h3 : x4 ≤ 900) (h4 : 0 ≤ x5) (h5 : x5 ≤ 900) (h6 : (x6 = 24 ∨ x3 < x4)) (h7 : x3 ≤ x4) (h8 : (¬ x7 = 0 ∨ x5 ≤ x3)) (h9 : 2 * (900 - x3) + 1 - min 1 (max x7 (-x7)) < ((x2 + 1 : Nat) : Int)) (h10 : x8 = x7) (h11 : x8 = 0) (h12 : x9 = x6) (h13 : x10 = 24) (h14 : ¬ x9 = x10) (h15 : 0 ≤ x11) (h16 : x11 ≤ 900) (h17 : 0 ≤ x12) (h18 : x12 ≤ 900) (h19 : (x13 = 24 ∨ x11 < x12)) (h20 : x11 ≤ x12) (h21 : 0 ≤ x14) (h22 : x14 ≤ 900) (h23 : (x15 = 0 → x7 = 0 ∧ x14 - x5 ≤ x11 - x3)) (h24 : x3 ≤ x11) (h25 : x16 = 30) (h26 : 0 ≤ x17) (h27 : x17 ≤ 1) (h28 : 0 ≤ x0) (h29 : x0 ≤ 900) (h30 : 0 ≤ x18) (h31 : x18 ≤ 900) (h32 : (x19 = 24 ∨ x0 < x18)) (h33 : x0 ≤ x18) (h34 : ((x17 = 0 ∧ x0 = x11 ∧ x18 = x12 ∧ x19 = x13 ∧ x1 = x15 ∧ ¬ (x15 = 0 ∧ x13 = x16)) ∨ (x17 = 1 ∧ x12 ≤ x0 ∧ x1 = 0 ∧ x15 = 0 ∧ x13 = x16))) (h35 : ¬ x17 = 0) : 2 * (900 - x0) + 1 - min 1 (max x1 (-x1)) < (x2 : Int) := by omega
theorem o48_56 {x0 x1 x2 x3 x4 x5 x7 x8 x9 x10 x11 x12 x13 x14 x15 x16 x17 x18 x19 : Int} {x6 : Nat} (h0 : 0 ≤ x1) (h1 : x1 ≤ 900) (h2 : 0 ≤ x2) (h3 : x2 ≤ 900) (h4 : 0 ≤ x3) (h5 : x3 ≤ 900) (h6 : (x4 = 24 ∨ x1 < x2)) (h7 : x1 ≤ x2) (h8 : (¬ x5 = 0 ∨ x3 ≤ x1)) (h9 : 2 * (900 - x1) + 1 - min 1 (max x5 (-x5)) < ((x6 + 1 : Nat) : Int)) (h10 : x7 = x5) (h11 : x7 = 0) (h12 : x8 = x4) (h13 : x9 = 24) (h14 : ¬ x8 = x9) (h15 : 0 ≤ x10) (h16 : x10 ≤ 900) (h17 : 0 ≤ x11) (h18 : x11 ≤ 900) (h19 : (x12 = 24 ∨ x10 < x11)) (h20 : x10 ≤ x11) (h21 : 0 ≤ x13) (h22 : x13 ≤ 900) (h23 : (x14 = 0 → x5 = 0 ∧ x13 - x3 ≤ x10 - x1)) (h24 : x1 ≤ x10) (h25 : x15 = 30) (h26 : 0 ≤ x16) (h27 : x16 ≤ 1) (h28 : 0 ≤ x0) (h29 : x0 ≤ 900) (h30 : 0 ≤ x17) (h31 : x17 ≤ 900) (h32 : (x18 = 24 ∨ x0 < x17)) (h33 : x0 ≤ x17) (h34 : ((x16 = 0 ∧ x0 = x10 ∧ x17 = x11 ∧ x18 = x12 ∧ x19 = x14 ∧ ¬ (x14 = 0 ∧ x12 = x15)) ∨ (x16 = 1 ∧ x11 ≤ x0 ∧ x19 = 0 ∧ x14 = 0 ∧ x12 = x15))) (h35 : ¬ x16 = 0) : 0 ≤ x0 := by omega
theorem o48_57 {x0 x1 x2 x3 x4 x5 x7 x8 x9 x10 x11 x12 x13 x14 x15 x16 x17 x18 x19 : Int} {x6 : Nat} (h0 : 0 ≤ x1) (h1 : x1 ≤ 900) (h2 : 0 ≤ x2) (h3 : x2 ≤ 900) (h4 : 0 ≤ x3) (h5 : x3 ≤ 900) (h6 : (x4 = 24 ∨ x1 < x2)) (h7 : x1 ≤ x2) (h8 : (¬ x5 = 0 ∨ x3 ≤ x1)) (h9 : 2 * (900 - x1) + 1 - min 1 (max x5 (-x5)) < ((x6 + 1 : Nat) : Int)) (h10 : x7 = x5) (h11 : x7 = 0) (h12 : x8 = x4) (h13 : x9 = 24) (h14 : ¬ x8 = x9) (h15 : 0 ≤ x10) (h16 : x10 ≤ 900) (h17 : 0 ≤ x11) (h18 : x11 ≤ 900) (h19 : (x12 = 24 ∨ x10 < x11)) (h20 : x10 ≤ x11) (h21 : 0 ≤ x13) (h22 : x13 ≤ 900) (h23 : (x14 = 0 → x5 = 0 ∧ x13 - x3 ≤ x10 - x1)) (h24 : x1 ≤ x10) (h25 : x15 = 30) (h26 : 0 ≤ x16) (h27 : x16 ≤ 1) (h28 : 0 ≤ x0) (h29 : x0 ≤ 900) (h30 : 0 ≤ x17) (h31 : x17 ≤ 900) (h32 : (x18 = 24 ∨ x0 < x17)) (h33 : x0 ≤ x17) (h34 : ((x16 = 0 ∧ x0 = x10 ∧ x17 = x11 ∧ x18 = x12 ∧ x19 = x14 ∧ ¬ (x14 = 0 ∧ x12 = x15)) ∨ (x16 = 1 ∧ x11 ≤ x0 ∧ x19 = 0 ∧ x14 = 0 ∧ x12 = x15))) (h35 : ¬ x16 = 0) : x0 ≤ 900 := by omega
theorem o48_58 {x0 x1 x2 x3 x4 x5 x7 x8 x9 x10 x11 x12 x13 x14 x15 x16 x17 x18 x19 : Int} {x6 : Nat} (h0 : 0 ≤ x1) (h1 : x1 ≤ 900) (h2 : 0 ≤ x2) (h3 : x2 ≤ 900) (h4 : 0 ≤ x3) (h5 : x3 ≤ 900) (h6 : (x4 = 24 ∨ x1 < x2)) (h7 : x1 ≤ x2) (h8 : (¬ x5 = 0 ∨ x3 ≤ x1)) (h9 : 2 * (900 - x1) + 1 - min 1 (max x5 (-x5)) < ((x6 + 1 : Nat) : Int)) (h10 : x7 = x5) (h11 : x7 = 0) (h12 : x8 = x4) (h13 : x9 = 24) (h14 : ¬ x8 = x9) (h15 : 0 ≤ x10) (h16 : x10 ≤ 900) (h17 : 0 ≤ x11) (h18 : x11 ≤ 900) (h19 : (x12 = 24 ∨ x10 < x11)) (h20 : x10 ≤ x11) (h21 : 0 ≤ x13) (h22 : x13 ≤ 900) (h23 : (x14 = 0 → x5 = 0 ∧ x13 - x3 ≤ x10 - x1)) (h24 : x1 ≤ x10) (h25 : x15 = 30) (h26 : 0 ≤ x16) (h27 : x16 ≤ 1) (h28 : 0 ≤ x17) (h29 : x17 ≤ 900) (h30 : 0 ≤ x0) (h31 : x0 ≤ 900) (h32 : (x18 = 24 ∨ x17 < x0)) (h33 : x17 ≤ x0) (h34 : ((x16 = 0 ∧ x17 = x10 ∧ x0 = x11 ∧ x18 = x12 ∧ x19 = x14 ∧ ¬ (x14 = 0 ∧ x12 = x15)) ∨ (x16 = 1 ∧ x11 ≤ x17 ∧ x19 = 0 ∧ x14 = 0 ∧ x12 = x15))) (h35 : ¬ x16 = 0) : 0 ≤ x0 := by omega
theorem o48_59 {x0 x1 x2 x3 x4 x5 x7 x8 x9 x10 x11 x12 x13 x14 x15 x16 x17 x18 x19 : Int} {x6 : Nat} (h0 : 0 ≤ x1) (h1 : x1 ≤ 900) (h2 : 0 ≤ x2) (h3 : x2 ≤ 900) (h4 : 0 ≤ x3) (h5 : x3 ≤ 900) (h6 : (x4 = 24 ∨ x1 < x2)) (h7 : x1 ≤ x2) (h8 : (¬ x5 = 0 ∨ x3 ≤ x1)) (h9 : 2 * (900 - x1) + 1 - min 1 (max x5 (-x5)) < ((x6 + 1 : Nat) : Int)) (h10 : x7 = x5) (h11 : x7 = 0) (h12 : x8 = x4) (h13 : x9 = 24) (h14 : ¬ x8 = x9) (h15 : 0 ≤ x10) (h16 : x10 ≤ 900) (h17 : 0 ≤ x11) (h18 : x11 ≤ 900) (h19 : (x12 = 24 ∨ x10 < x11)) (h20 : x10 ≤ x11) (h21 : 0 ≤ x13) (h22 : x13 ≤ 900) (h23 : (x14 = 0 → x5 = 0 ∧ x13 - x3 ≤ x10 - x1)) (h24 : x1 ≤ x10) (h25 : x15 = 30) (h26 : 0 ≤ x16) (h27 : x16 ≤ 1) (h28 : 0 ≤ x17) (h29 : x17 ≤ 900) (h30 : 0 ≤ x0) (h31 : x0 ≤ 900) (h32 : (x18 = 24 ∨ x17 < x0)) (h33 : x17 ≤ x0) (h34 : ((x16 = 0 ∧ x17 = x10 ∧ x0 = x11 ∧ x18 = x12 ∧ x19 = x14 ∧ ¬ (x14 = 0 ∧ x12 = x15)) ∨ (x16 = 1 ∧ x11 ≤ x17 ∧ x19 = 0 ∧ x14 = 0 ∧ x12 = x15))) (h35 : ¬ x16 = 0) : x0 ≤ 900 := by omega
theorem o48_60 {x0 x1 x2 x3 x4 x5 x7 x8 x9 x10 x11 x12 x13 x14 x15 x16 x17 x18 x19 : Int} {x6 : Nat} (h0 : 0 ≤ x1) (h1 : x1 ≤ 900) (h2 : 0 ≤ x2) (h3 : x2 ≤ 900) (h4 : 0 ≤ x3) (h5 : x3 ≤ 900) (h6 : (x4 = 24 ∨ x1 < x2)) (h7 : x1 ≤ x2) (h8 : (¬ x5 = 0 ∨ x3 ≤ x1)) (h9 : 2 * (900 - x1) + 1 - min 1 (max x5 (-x5)) < ((x6 + 1 : Nat) : Int)) (h10 : x7 = x5) (h11 : x7 = 0) (h12 : x8 = x4) (h13 : x9 = 24) (h14 : ¬ x8 = x9) (h15 : 0 ≤ x10) (h16 : x10 ≤ 900) (h17 : 0 ≤ x11) (h18 : x11 ≤ 900) (h19 : (x12 = 24 ∨ x10 < x11)) (h20 : x10 ≤ x11) (h21 : 0 ≤ x0) (h22 : x0 ≤ 900) (h23 : (x13 = 0 → x5 = 0 ∧ x0 - x3 ≤ x10 - x1)) (h24 : x1 ≤ x10) (h25 : x14 = 30) (h26 : 0 ≤ x15) (h27 : x15 ≤ 1) (h28 : 0 ≤ x16) (h29 : x16 ≤ 900) (h30 : 0 ≤ x17) (h31 : x17 ≤ 900) (h32 : (x18 = 24 ∨ x16 < x17)) (h33 : x16 ≤ x17) (h34 : ((x15 = 0 ∧ x16 = x10 ∧ x17 = x11 ∧ x18 = x12 ∧ x19 = x13 ∧ ¬ (x13 = 0 ∧ x12 = x14)) ∨ (x15 = 1 ∧ x11 ≤ x16 ∧ x19 = 0 ∧ x13 = 0 ∧ x12 = x14))) (h35 : ¬ x15 = 0) : 0 ≤ x0 := by omega
theorem o48_61 {x0 x1 x2 x3 x4 x5 x7 x8 x9 x10 x11 x12 x13 x14 x15 x16 x17 x18 x19 : Int} {x6 : Nat} (h0 : 0 ≤ x1) (h1 : x1 ≤ 900) (h2 : 0 ≤ x2) (h3 : x2 ≤ 900) (h4 : 0 ≤ x3) (h5 : x3 ≤ 900) (h6 : (x4 = 24 ∨ x1 < x2)) (h7 : x1 ≤ x2) (h8 : (¬ x5 = 0 ∨ x3 ≤ x1)) (h9 : 2 * (900 - x1) + 1 - min 1 (max x5 (-x5)) < ((x6 + 1 : Nat) : Int)) (h10 : x7 = x5) (h11 : x7 = 0) (h12 : x8 = x4) (h13 : x9 = 24) (h14 : ¬ x8 = x9) (h15 : 0 ≤ x10) (h16 : x10 ≤ 900) (h17 : 0 ≤ x11) (h18 : x11 ≤ 900) (h19 : (x12 = 24 ∨ x10 < x11)) (h20 : x10 ≤ x11) (h21 : 0 ≤ x0) (h22 : x0 ≤ 900) (h23 : (x13 = 0 → x5 = 0 ∧ x0 - x3 ≤ x10 - x1)) (h24 : x1 ≤ x10) (h25 : x14 = 30) (h26 : 0 ≤ x15) (h27 : x15 ≤ 1) (h28 : 0 ≤ x16) (h29 : x16 ≤ 900) (h30 : 0 ≤ x17) (h31 : x17 ≤ 900) (h32 : (x18 = 24 ∨ x16 < x17)) (h33 : x16 ≤ x17) (h34 : ((x15 = 0 ∧ x16 = x10 ∧ x17 = x11 ∧ x18 = x12 ∧ x19 = x13 ∧ ¬ (x13 = 0 ∧ x12 = x14)) ∨ (x15 = 1 ∧ x11 ≤ x16 ∧ x19 = 0 ∧ x13 = 0 ∧ x12 = x14))) (h35 : ¬ x15 = 0) : x0 ≤ 900 := by omega
theorem o48_62 {x0 x1 x2 : Int} (h0 : 0 ≤ x0) (h1 : x0 ≤ 5) (h2 : 0 ≤ x1) (h3 : x1 ≤ 5) (h4 : (x0 = 0 ∨ 1 ≤ x1)) (h5 : 0 ≤ x2) (h6 : x2 ≤ 5) (h7 : (x2 = 0 ∨ 1 ≤ x0)) : 0 ≤ x0 := by omega
theorem o48_63 {x0 x1 x2 : Int} (h0 : 0 ≤ x0) (h1 : x0 ≤ 5) (h2 : 0 ≤ x1) (h3 : x1 ≤ 5) (h4 : (x0 = 0 ∨ 1 ≤ x1)) (h5 : 0 ≤ x2) (h6 : x2 ≤ 5) (h7 : (x2 = 0 ∨ 1 ≤ x0)) : x0 ≤ 5 := by omega
theorem o48_64 {x0 x1 x2 : Int} (h0 : 0 ≤ x1) (h1 : x1 ≤ 5) (h2 : 0 ≤ x0) (h3 : x0 ≤ 5) (h4 : (x1 = 0 ∨ 1 ≤ x0)) (h5 : 0 ≤ x2) (h6 : x2 ≤ 5) (h7 : (x2 = 0 ∨ 1 ≤ x1)) : 0 ≤ x0 := by omega
theorem o48_65 {x0 x1 x2 : Int} (h0 : 0 ≤ x1) (h1 : x1 ≤ 5) (h2 : 0 ≤ x0) (h3 : x0 ≤ 5) (h4 : (x1 = 0 ∨ 1 ≤ x0)) (h5 : 0 ≤ x2) (h6 : x2 ≤ 5) (h7 : (x2 = 0 ∨ 1 ≤ x1)) : x0 ≤ 5 := by omega
theorem o48_66 {x0 x1 x2 : Int} (h0 : 0 ≤ x1) (h1 : x1 ≤ 5) (h2 : 0 ≤ x2) (h3 : x2 ≤ 5) (h4 : (x1 = 0 ∨ 1 ≤ x2)) (h5 : 0 ≤ x0) (h6 : x0 ≤ 5) (h7 : (x0 = 0 ∨ 1 ≤ x1)) : 0 ≤ x0 := by omega
theorem o48_67 {x0 x1 x2 : Int} (h0 : 0 ≤ x1) (h1 : x1 ≤ 5) (h2 : 0 ≤ x2) (h3 : x2 ≤ 5) (h4 : (x1 = 0 ∨ 1 ≤ x2)) (h5 : 0 ≤ x0) (h6 : x0 ≤ 5) (h7 : (x0 = 0 ∨ 1 ≤ x1)) : x0 ≤ 5 := by omega
theorem o48_68 {x0 x1 x2 x3 x4 x5 x6 x7 x9 x10 x11 x12 x13 x14 x15 x16 x17 x18 x19 : Int} {x8 : Nat} (h0 : 0 ≤ x3) (h1 : x3 ≤ 900) (h2 : 0 ≤ x4) (h3 : x4 ≤ 900) (h4 : 0 ≤ x5) (h5 : x5 ≤ 900) (h6 : (x6 = 24 ∨ x3 < x4)) (h7 : x3 ≤ x4) (h8 : (¬ x7 = 0 ∨ x5 ≤ x3)) (h9 : 2 * (900 - x3) + 1 - min 1 (max x7 (-x7)) < ((x8 + 1 : Nat) : Int)) (h10 : x9 = x7) (h11 : x9 = 0) (h12 : x10 = x6) (h13 : x11 = 24) (h14 : ¬ x10 = x11) (h15 : 0 ≤ x12) (h16 : x12 ≤ 900) (h17 : 0 ≤ x13) (h18 : x13 ≤ 900) (h19 : (x14 = 24 ∨ x12 < x13)) (h20 : x12 ≤ x13) (h21 : 0 ≤ x15) (h22 : x15 ≤ 900) (h23 : (x16 = 0 → x7 = 0 ∧ x15 - x5 ≤ x12 - x3)) (h24 : x3 ≤ x12) (h25 : x17 = 30) (h26 : 0 ≤ x18) (h27 : x18 ≤ 1) (h28 : 0 ≤ x1) (h29 : x1 ≤ 900) (h30 : 0 ≤ x2) (h31 : x2 ≤ 900) (h32 : (x0 = 24 ∨ x1 < x2)) (h33 : x1 ≤ x2) (h34 : ((x18 = 0 ∧ x1 = x12 ∧ x2 = x13 ∧ x0 = x14 ∧ x19 = x16 ∧ ¬ (x16 = 0 ∧ x14 = x17)) ∨ (x18 = 1 ∧ x13 ≤ x1 ∧ x19 = 0 ∧ x16 = 0 ∧ x14 = x17))) (h35 : ¬ x18 = 0) : (x0 = 24 ∨ x1 < x2) := by omega
theorem o48_69 {x0 x1 x2 x3 x4 x5 x6 x8 x9 x10 x11 x12 x13 x14 x15 x16 x17 x18 x19 : Int} {x7 : Nat} (h0 : 0 ≤ x2) (h1 : x2 ≤ 900) (h2 : 0 ≤ x3) (h3 : x3 ≤ 900) (h4 : 0 ≤ x4) (h5 : x4 ≤ 900) (h6 : (x5 = 24 ∨ x2 < x3)) (h7 : x2 ≤ x3) (h8 : (¬ x6 = 0 ∨ x4 ≤ x2)) (h9 : 2 * (900 - x2) + 1 - min 1 (max x6 (-x6)) < ((x7 + 1 : Nat) : Int)) (h10 : x8 = x6) (h11 : x8 = 0) (h12 : x9 = x5) (h13 : x10 = 24) (h14 : ¬ x9 = x10) (h15 : 0 ≤ x11) (h16 : x11 ≤ 900) (h17 : 0 ≤ x12) (h18 : x12 ≤ 900) (h19 : (x13 = 24 ∨ x11 < x12)) (h20 : x11 ≤ x12) (h21 : 0 ≤ x14) (h22 : x14 ≤ 900) (h23 : (x15 = 0 → x6 = 0 ∧ x14 - x4 ≤ x11 - x2)) (h24 : x2 ≤ x11) (h25 : x16 = 30) (h26 : 0 ≤ x17) (h27 : x17 ≤ 1) (h28 : 0 ≤ x0) (h29 : x0 ≤ 900) (h30 : 0 ≤ x1) (h31 : x1 ≤ 900) (h32 : (x18 = 24 ∨ x0 < x1)) (h33 : x0 ≤ x1) (h34 : ((x17 = 0 ∧ x0 = x11 ∧ x1 = x12 ∧ x18 = x13 ∧ x19 = x15 ∧ ¬ (x15 = 0 ∧ x13 = x16)) ∨ (x17 = 1 ∧ x12 ≤ x0 ∧ x19 = 0 ∧ x15 = 0 ∧ x13 = x16))) (h35 : ¬ x17 = 0) : x0 ≤ x1 := by omega
theorem o48_70 {x0 x1 x2 x3 x4 x5 x6 x7 x9 x10 x11 x12 x13 x14 x15 x16 x17 x18 x19 : Int} {x8 : Nat} (h0 : 0 ≤ x3) (h1 : x3 ≤ 900) (h2 : 0 ≤ x4) (h3 : x4 ≤ 900) (h4 : 0 ≤ x5) (h5 : x5 ≤ 900) (h6 : (x6 = 24 ∨ x3 < x4)) (h7 : x3 ≤ x4) (h8 : (¬ x7 = 0 ∨ x5 ≤ x3)) (h9 : 2 * (900 - x3) + 1 - min 1 (max x7 (-x7)) < ((x8 + 1 : Nat) : Int)) (h10 : x9 = x7) (h11 : x9 = 0) (h12 : x10 = x6) (h13 : x11 = 24) (h14 : ¬ x10 = x11) (h15 : 0 ≤ x12) (h16 : x12 ≤ 900) (h17 : 0 ≤ x13) (h18 : x13 ≤ 900) (h19 : (x14 = 24 ∨ x12 < x13)) (h20 : x12 ≤ x13) (h21 : 0 ≤ x1) (h22 : x1 ≤ 900) (h23 : (x15 = 0 → x7 = 0 ∧ x1 - x5 ≤ x12 - x3)) (h24 : x3 ≤ x12) (h25 : x16 = 30) (h26 : 0 ≤ x17) (h27 : x17 ≤ 1) (h28 : 0 ≤ x2) (h29 : x2 ≤ 900) (h30 : 0 ≤ x18) (h31 : x18 ≤ 900) (h32 : (x19 = 24 ∨ x2 < x18)) (h33 : x2 ≤ x18) (h34 : ((x17 = 0 ∧ x2 = x12 ∧ x18 = x13 ∧ x19 = x14 ∧ x0 = x15 ∧ ¬ (x15 = 0 ∧ x14 = x16)) ∨ (x17 = 1 ∧ x13 ≤ x2 ∧ x0 = 0 ∧ x15 = 0 ∧ x14 = x16))) (h35 : ¬ x17 = 0) : (¬ x0 = 0 ∨ x1 ≤ x2) := by omega
theorem o48_71 {x0 x1 x2 : Int} (h0 : 0 ≤ x0) (h1 : x0 ≤ 5) (h2 : 0 ≤ x1) (h3 : x1 ≤ 5) (h4 : (x0 = 0 ∨ 1 ≤ x1)) (h5 : 0 ≤ x2) (h6 : x2 ≤ 5) (h7 : (x2 = 0 ∨ 1 ≤ x0)) : (x0 = 0 ∨ 1 ≤ x1) := by omega
theorem o48_72 {x0 x1 x2 : Int} (h0 : 0 ≤ x1) (h1 : x1 ≤ 5) (h2 : 0 ≤ x2) (h3 : x2 ≤ 5) (h4 : (x1 = 0 ∨ 1 ≤ x2)) (h5 : 0 ≤ x0) (h6 : x0 ≤ 5) (h7 : (x0 = 0 ∨ 1 ≤ x1)) : (x0 = 0 ∨ 1 ≤ x1) := by omega
theorem o48_73 {x0 : Int} (h0 : x0 = 0) : ((0 ≤ x0 ∧ x0 < 4) ∨ (10 ≤ x0 ∧ x0 ≤ 872)) := by omega
theorem o48_74 {x0 x1 x2 x3 x4 x5 x6 x8 x9 x10 x11 x12 x13 x14 x15 x16 x17 x18 x19 : Int} {x7 : Nat} (h0 : 0 ≤ x2) (h1 : x2 ≤ 900) (h2 : 0 ≤ x3) (h3 : x3 ≤ 900) (h4 : 0 ≤ x4) (h5 : x4 ≤ 900) (h6 : (x5 = 24 ∨ x2 < x3)) (h7 : x2 ≤ x3) (h8 : (¬ x6 = 0 ∨ x4 ≤ x2)) (h9 : 2 * (900 - x2) + 1 - min 1 (max x6 (-x6)) < ((x7 + 1 : Nat) : Int)) (h10 : x8 = x6) (h11 : x8 = 0) (h12 : x9 = x5) (h13 : x10 = 24) (h14 : ¬ x9 = x10) (h15 : 0 ≤ x11) (h16 : x11 ≤ 900) (h17 : 0 ≤ x12) (h18 : x12 ≤ 900) (h19 : (x13 = 24 ∨ x11 < x12)) (h20 : x11 ≤ x12) (h21 : 0 ≤ x14) (h22 : x14 ≤ 900) (h23 : (x0 = 0 → x6 = 0 ∧ x14 - x4 ≤ x11 - x2)) (h24 : x2 ≤ x11) (h25 : x15 = 30) (h26 : 0 ≤ x16) (h27 : x16 ≤ 1) (h28 : 0 ≤ x17) (h29 : x17 ≤ 900) (h30 : 0 ≤ x18) (h31 : x18 ≤ 900) (h32 : (x19 = 24 ∨ x17 < x18)) (h33 : x17 ≤ x18) (h34 : ((x16 = 0 ∧ x17 = x11 ∧ x18 = x12 ∧ x19 = x13 ∧ x1 = x0 ∧ ¬ (x0 = 0 ∧ x13 = x15)) ∨ (x16 = 1 ∧ x12 ≤ x17 ∧ x1 = 0 ∧ x0 = 0 ∧ x13 = x15))) (h35 : ¬ x16 = 0) : (x1 = 0 → x0 = 0) := by omega
theorem o48_75 {x0 : Int} (h0 : x0 = 2) : 1 ≤ x0 := by omega
theorem o48_76 {x0 : Int} (h0 : x0 = 2) : x0 ≤ 9 := by omega
theorem o48_77 {x0 x1 x3 x4 x5 x6 x7 x8 x9 x10 x11 x12 x13 x14 x15 x16 x17 x18 x19 x20 x21 x22 x23 : Int} {x2 : Nat} (h0 : 0 ≤ x3) (h1 : x3 ≤ 900) (h2 : 0 ≤ x4) (h3 : x4 ≤ 900) (h4 : 0 ≤ x5) (h5 : x5 ≤ 900) (h6 : (x6 = 24 ∨ x3 < x4)) (h7 : x3 ≤ x4) (h8 : (¬ x7 = 0 ∨ x5 ≤ x3)) (h9 : 2 * (900 - x3) + 1 - min 1 (max x7 (-x7)) < ((x2 + 1 : Nat) : Int)) (h10 : x8 = x7) (h11 : x8 = 0) (h12 : x9 = x6) (h13 : x10 = 24) (h14 : ¬ x9 = x10) (h15 : 0 ≤ x11) (h16 : x11 ≤ 900) (h17 : 0 ≤ x12) (h18 : x12 ≤ 900) (h19 : (x13 = 24 ∨ x11 < x12)) (h20 : x11 ≤ x12) (h21 : 0 ≤ x14) (h22 : x14 ≤ 900) (h23 : (x15 = 0 → x7 = 0 ∧ x14 - x5 ≤ x11 - x3)) (h24 : x3 ≤ x11) (h25 : x16 = 30) (h26 : 0 ≤ x17) (h27 : x17 ≤ 1) (h28 : 0 ≤ x18) (h29 : x18 ≤ 900) (h30 : 0 ≤ x19) (h31 : x19 ≤ 900) (h32 : (x20 = 24 ∨ x18 < x19)) (h33 : x18 ≤ x19) (h34 : ((x17 = 0 ∧ x18 = x11 ∧ x19 = x12 ∧ x20 = x13 ∧ x21 = x15 ∧ ¬ (x15 = 0 ∧ x13 = x16)) ∨ (x17 = 1 ∧ x12 ≤ x18 ∧ x21 = 0 ∧ x15 = 0 ∧ x13 = x16))) (h35 : x17 = 0) (h36 : 0 ≤ x0) (h37 : x0 ≤ 900) (h38 : x0 = x18) (h39 : 0 ≤ x22) (h40 : x22 ≤ 900) (h41 : x22 = x19) (h42 : x23 = x20) (h43 : ¬ x1 = 0) : 2 * (900 - x0) + 1 - min 1 (max x1 (-x1)) < (x2 : Int) := by omega
theorem o48_78 {x0 x1 x2 x3 x4 x5 x7 x8 x9 x10 x11 x12 x13 x14 x15 x16 x17 x18 x19 x20 x21 x22 : Int} {x6 : Nat} (h0 : 0 ≤ x1) (h1 : x1 ≤ 900) (h2 : 0 ≤ x2) (h3 : x2 ≤ 900) (h4 : 0 ≤ x3) (h5 : x3 ≤ 900) (h6 : (x4 = 24 ∨ x1 < x2)) (h7 : x1 ≤ x2) (h8 : (¬ x5 = 0 ∨ x3 ≤ x1)) (h9 : 2 * (900 - x1) + 1 - min 1 (max x5 (-x5)) < ((x6 + 1 : Nat) : Int)) (h10 : x7 = x5) (h11 : x7 = 0) (h12 : x8 = x4) (h13 : x9 = 24) (h14 : ¬ x8 = x9) (h15 : 0 ≤ x10) (h16 : x10 ≤ 900) (h17 : 0 ≤ x11) (h18 : x11 ≤ 900) (h19 : (x12 = 24 ∨ x10 < x11)) (h20 : x10 ≤ x11) (h21 : 0 ≤ x13) (h22 : x13 ≤ 900) (h23 : (x14 = 0 → x5 = 0 ∧ x13 - x3 ≤ x10 - x1)) (h24 : x1 ≤ x10) (h25 : x15 = 30) (h26 : 0 ≤ x16) (h27 : x16 ≤ 1) (h28 : 0 ≤ x17) (h29 : x17 ≤ 900) (h30 : 0 ≤ x18) (h31 : x18 ≤ 900) (h32 : (x19 = 24 ∨ x17 < x18)) (h33 : x17 ≤ x18) (h34 : ((x16 = 0 ∧ x17 = x10 ∧ x18 = x11 ∧ x19 = x12 ∧ x20 = x14 ∧ ¬ (x14 = 0 ∧ x12 = x15)) ∨ (x16 = 1 ∧ x11 ≤ x17 ∧ x20 = 0 ∧ x14 = 0 ∧ x12 = x15))) (h35 : x16 = 0) (h36 : 0 ≤ x0) (h37 : x0 ≤ 900) (h38 : x0 = x17) (h39 : 0 ≤ x21) (h40 : x21 ≤ 900) (h41 : x21 = x18) (h42 : x22 = x19) : 0 ≤ x0 := by omega
theorem o48_79 {x0 x1 x2 x3 x4 x5 x7 x8 x9 x10 x11 x12 x13 x14 x15 x16 x17 x18 x19 x20 x21 x22 : Int} {x6 : Nat} (h0 : 0 ≤ x1) (h1 : x1 ≤ 900) (h2 : 0 ≤ x2) (h3 : x2 ≤ 900) (h4 : 0 ≤ x3) (h5 : x3 ≤ 900) (h6 : (x4 = 24 ∨ x1 < x2)) (h7 : x1 ≤ x2) (h8 : (¬ x5 = 0 ∨ x3 ≤ x1)) (h9 : 2 * (900 - x1) + 1 - min 1 (max x5 (-x5)) < ((x6 + 1 : Nat) : Int)) (h10 : x7 = x5) (h11 : x7 = 0) (h12 : x8 = x4) (h13 : x9 = 24) (h14 : ¬ x8 = x9) (h15 : 0 ≤ x10) (h16 : x10 ≤ 900) (h17 : 0 ≤ x11) (h18 : x11 ≤ 900) (h19 : (x12 = 24 ∨ x10 < x11)) (h20 : x10 ≤ x11) (h21 : 0 ≤ x13) (h22 : x13 ≤ 900) (h23 : (x14 = 0 → x5 = 0 ∧ x13 - x3 ≤ x10 - x1)) (h24 : x1 ≤ x10) (h25 : x15 = 30) (h26 : 0 ≤ x16) (h27 : x16 ≤ 1) (h28 : 0 ≤ x17) (h29 : x17 ≤ 900) (h30 : 0 ≤ x18) (h31 : x18 ≤ 900) (h32 : (x19 = 24 ∨ x17 < x18)) (h33 : x17 ≤ x18) (h34 : ((x16 = 0 ∧ x17 = x10 ∧ x18 = x11 ∧ x19 = x12 ∧ x20 = x14 ∧ ¬ (x14 = 0 ∧ x12 = x15)) ∨ (x16 = 1 ∧ x11 ≤ x17 ∧ x20 = 0 ∧ x14 = 0 ∧ x12 = x15))) (h35 : x16 = 0) (h36 : 0 ≤ x0) (h37 : x0 ≤ 900) (h38 : x0 = x17) (h39 : 0 ≤ x21) (h40 : x21 ≤ 900) (h41 : x21 = x18) (h42 : x22 = x19) : x0 ≤ 900 := by omega
theorem o48_80 {x0 x1 x2 x3 x4 x5 x7 x8 x9 x10 x11 x12 x13 x14 x15 x16 x17 x18 x19 x20 x21 x22 : Int} {x6 : Nat} (h0 : 0 ≤ x1) (h1 : x1 ≤ 900) (h2 : 0 ≤ x2) (h3 : x2 ≤ 900) (h4 : 0 ≤ x3) (h5 : x3 ≤ 900) (h6 : (x4 = 24 ∨ x1 < x2)) (h7 : x1 ≤ x2) (h8 : (¬ x5 = 0 ∨ x3 ≤ x1)) (h9 : 2 * (900 - x1) + 1 - min 1 (max x5 (-x5)) < ((x6 + 1 : Nat) : Int)) (h10 : x7 = x5) (h11 : x7 = 0) (h12 : x8 = x4) (h13 : x9 = 24) (h14 : ¬ x8 = x9) (h15 : 0 ≤ x10) (h16 : x10 ≤ 900) (h17 : 0 ≤ x11) (h18 : x11 ≤ 900) (h19 : (x12 = 24 ∨ x10 < x11)) (h20 : x10 ≤ x11) (h21 : 0 ≤ x13) (h22 : x13 ≤ 900) (h23 : (x14 = 0 → x5 = 0 ∧ x13 - x3 ≤ x10 - x1)) (h24 : x1 ≤ x10) (h25 : x15 = 30) (h26 : 0 ≤ x16) (h27 : x16 ≤ 1) (h28 : 0 ≤ x17) (h29 : x17 ≤ 900) (h30 : 0 ≤ x18) (h31 : x18 ≤ 900) (h32 : (x19 = 24 ∨ x17 < x18)) (h33 : x17 ≤ x18) (h34 : ((x16 = 0 ∧ x17 = x10 ∧ x18 = x11 ∧ x19 = x12 ∧ x20 = x14 ∧ ¬ (x14 = 0 ∧ x12 = x15)) ∨ (x16 = 1 ∧ x11 ≤ x17 ∧ x20 = 0 ∧ x14 = 0 ∧ x12 = x15))) (h35 : x16 = 0) (h36 : 0 ≤ x21) (h37 : x21 ≤ 900) (h38 : x21 = x17) (h39 : 0 ≤ x0) (h40 : x0 ≤ 900) (h41 : x0 = x18) (h42 : x22 = x19) : 0 ≤ x0 := by omega
theorem o48_81 {x0 x1 x2 x3 x4 x5 x7 x8 x9 x10 x11 x12 x13 x14 x15 x16 x17 x18 x19 x20 x21 x22 : Int} {x6 : Nat} (h0 : 0 ≤ x1) (h1 : x1 ≤ 900) (h2 : 0 ≤ x2) (h3 : x2 ≤ 900) (h4 : 0 ≤ x3) (h5 : x3 ≤ 900) (h6 : (x4 = 24 ∨ x1 < x2)) (h7 : x1 ≤ x2) (h8 : (¬ x5 = 0 ∨ x3 ≤ x1)) (h9 : 2 * (900 - x1) + 1 - min 1 (max x5 (-x5)) < ((x6 + 1 : Nat) : Int)) (h10 : x7 = x5) (h11 : x7 = 0) (h12 : x8 = x4) (h13 : x9 = 24) (h14 : ¬ x8 = x9) (h15 : 0 ≤ x10) (h16 : x10 ≤ 900) (h17 : 0 ≤ x11) (h18 : x11 ≤ 900) (h19 : (x12 = 24 ∨ x10 < x11)) (h20 : x10 ≤ x11) (h21 : 0 ≤ x13) (h22 : x13 ≤ 900) (h23 : (x14 = 0 → x5 = 0 ∧ x13 - x3 ≤ x10 - x1)) (h24 : x1 ≤ x10) (h25 : x15 = 30) (h26 : 0 ≤ x16) (h27 : x16 ≤ 1) (h28 : 0 ≤ x17) (h29 : x17 ≤ 900) (h30 : 0 ≤ x18) (h31 : x18 ≤ 900) (h32 : (x19 = 24 ∨ x17 < x18)) (h33 : x17 ≤ x18) (h34 : ((x16 = 0 ∧ x17 = x10 ∧ x18 = x11 ∧ x19 = x12 ∧ x20 = x14 ∧ ¬ (x14 = 0 ∧ x12 = x15)) ∨ (x16 = 1 ∧ x11 ≤ x17 ∧ x20 = 0 ∧ x14 = 0 ∧ x12 = x15))) (h35 : x16 = 0) (h36 : 0 ≤ x21) (h37 : x21 ≤ 900) (h38 : x21 = x17) (h39 : 0 ≤ x0) (h40 : x0 ≤ 900) (h41 : x0 = x18) (h42 : x22 = x19) : x0 ≤ 900 := by omega
theorem o48_82 {x0 x1 x2 x3 x4 x5 x7 x8 x9 x10 x11 x12 x13 x14 x15 x16 x17 x18 x19 x20 x21 x22 : Int} {x6 : Nat} (h0 : 0 ≤ x1) (h1 : x1 ≤ 900) (h2 : 0 ≤ x2) (h3 : x2 ≤ 900) (h4 : 0 ≤ x3) (h5 : x3 ≤ 900) (h6 : (x4 = 24 ∨ x1 < x2)) (h7 : x1 ≤ x2) (h8 : (¬ x5 = 0 ∨ x3 ≤ x1)) (h9 : 2 * (900 - x1) + 1 - min 1 (max x5 (-x5)) < ((x6 + 1 : Nat) : Int)) (h10 : x7 = x5) (h11 : x7 = 0) (h12 : x8 = x4) (h13 : x9 = 24) (h14 : ¬ x8 = x9) (h15 : 0 ≤ x10) (h16 : x10 ≤ 900) (h17 : 0 ≤ x11) (h18 : x11 ≤ 900) (h19 : (x12 = 24 ∨ x10 < x11)) (h20 : x10 ≤ x11) (h21 : 0 ≤ x0) (h22 : x0 ≤ 900) (h23 : (x13 = 0 → x5 = 0 ∧ x0 - x3 ≤ x10 - x1)) (h24 : x1 ≤ x10) (h25 : x14 = 30) (h26 : 0 ≤ x15) (h27 : x15 ≤ 1) (h28 : 0 ≤ x16) (h29 : x16 ≤ 900) (h30 : 0 ≤ x17) (h31 : x17 ≤ 900) (h32 : (x18 = 24 ∨ x16 < x17)) (h33 : x16 ≤ x17) (h34 : ((x15 = 0 ∧ x16 = x10 ∧ x17 = x11 ∧ x18 = x12 ∧ x19 = x13 ∧ ¬ (x13 = 0 ∧ x12 = x14)) ∨ (x15 = 1 ∧ x11 ≤ x16 ∧ x19 = 0 ∧ x13 = 0 ∧ x12 = x14))) (h35 : x15 = 0) (h36 : 0 ≤ x20) (h37 : x20 ≤ 900) (h38 : x20 = x16) (h39 : 0 ≤ x21) (h40 : x21 ≤ 900) (h41 : x21 = x17) (h42 : x22 = x18) : 0 ≤ x0 := by omega
theorem o48_83 {x0 x1 x2 x3 x4 x5 x7 x8 x9 x10 x11 x12 x13 x14 x15 x16 x17 x18 x19 x20 x21 x22 : Int} {x6 : Nat} (h0 : 0 ≤ x1) (h1 : x1 ≤ 900) (h2 : 0 ≤ x2) (h3 : x2 ≤ 900) (h4 : 0 ≤ x3) (h5 : x3 ≤ 900) (h6 : (x4 = 24 ∨ x1 < x2)) (h7 : x1 ≤ x2) (h8 : (¬ x5 = 0 ∨ x3 ≤ x1)) (h9 : 2 * (900 - x1) + 1 - min 1 (max x5 (-x5)) < ((x6 + 1 : Nat) : Int)) (h10 : x7 = x5) (h11 : x7 = 0) (h12 : x8 = x4) (h13 : x9 = 24) (h14 : ¬ x8 = x9) (h15 : 0 ≤ x10) (h16 : x10 ≤ 900) (h17 : 0 ≤ x11) (h18 : x11 ≤ 900) (h19 : (x12 = 24 ∨ x10 < x11)) (h20 : x10 ≤ x11) (h21 : 0 ≤ x0) (h22 : x0 ≤ 900) (h23 : (x13 = 0 → x5 = 0 ∧ x0 - x3 ≤ x10 - x1)) (h24 : x1 ≤ x10) (h25 : x14 = 30) (h26 : 0 ≤ x15) (h27 : x15 ≤ 1) (h28 : 0 ≤ x16) (h29 : x16 ≤ 900) (h30 : 0 ≤ x17) (h31 : x17 ≤ 900) (h32 : (x18 = 24 ∨ x16 < x17)) (h33 : x16 ≤ x17) (h34 : ((x15 = 0 ∧ x16 = x10 ∧ x17 = x11 ∧ x18 = x12 ∧ x19 = x13 ∧ ¬ (x13 = 0 ∧ x12 = x14)) ∨ (x15 = 1 ∧ x11 ≤ x16 ∧ x19 = 0 ∧ x13 = 0 ∧ x12 = x14))) (h35 : x15 = 0) (h36 : 0 ≤ x20) (h37 : x20 ≤ 900) (h38 : x20 = x16) (h39 : 0 ≤ x21) (h40 : x21 ≤ 900) (h41 : x21 = x17) (h42 : x22 = x18) : x0 ≤ 900 := by omega
theorem o48_84 {x0 x1 x2 x3 x4 x5 x6 x7 x9 x10 x11 x12 x13 x14 x15 x16 x17 x18 x19 x20 x21 x22 : Int} {x8 : Nat} (h0 : 0 ≤ x3) (h1 : x3 ≤ 900) (h2 : 0 ≤ x4) (h3 : x4 ≤ 900) (h4 : 0 ≤ x5) (h5 : x5 ≤ 900) (h6 : (x6 = 24 ∨ x3 < x4)) (h7 : x3 ≤ x4) (h8 : (¬ x7 = 0 ∨ x5 ≤ x3)) (h9 : 2 * (900 - x3) + 1 - min 1 (max x7 (-x7)) < ((x8 + 1 : Nat) : Int)) (h10 : x9 = x7) (h11 : x9 = 0) (h12 : x10 = x6) (h13 : x11 = 24) (h14 : ¬ x10 = x11) (h15 : 0 ≤ x12) (h16 : x12 ≤ 900) (h17 : 0 ≤ x13) (h18 : x13 ≤ 900) (h19 : (x14 = 24 ∨ x12 < x13)) (h20 : x12 ≤ x13) (h21 : 0 ≤ x15) (h22 : x15 ≤ 900) (h23 : (x16 = 0 → x7 = 0 ∧ x15 - x5 ≤ x12 - x3)) (h24 : x3 ≤ x12) (h25 : x17 = 30) (h26 : 0 ≤ x18) (h27 : x18 ≤ 1) (h28 : 0 ≤ x19) (h29 : x19 ≤ 900) (h30 : 0 ≤ x20) (h31 : x20 ≤ 900) (h32 : (x21 = 24 ∨ x19 < x20)) (h33 : x19 ≤ x20) (h34 : ((x18 = 0 ∧ x19 = x12 ∧ x20 = x13 ∧ x21 = x14 ∧ x22 = x16 ∧ ¬ (x16 = 0 ∧ x14 = x17)) ∨ (x18 = 1 ∧ x13 ≤ x19 ∧ x22 = 0 ∧ x16 = 0 ∧ x14 = x17))) (h35 : x18 = 0) (h36 : 0 ≤ x1) (h37 : x1 ≤ 900) (h38 : x1 = x19) (h39 : 0 ≤ x2) (h40 : x2 ≤ 900) (h41 : x2 = x20) (h42 : x0 = x21) : (x0 = 24 ∨ x1 < x2) := by omega
theorem o48_85 {x0 x1 x2 x3 x4 x5 x6 x8 x9 x10 x11 x12 x13 x14 x15 x16 x17 x18 x19 x20 x21 x22 : Int} {x7 : Nat} (h0 : 0 ≤ x2) (h1 : x2 ≤ 900) (h2 : 0 ≤ x3) (h3 : x3 ≤ 900) (h4 : 0 ≤ x4) (h5 : x4 ≤ 900) (h6 : (x5 = 24 ∨ x2 < x3)) (h7 : x2 ≤ x3) (h8 : (¬ x6 = 0 ∨ x4 ≤ x2)) (h9 : 2 * (900 - x2) + 1 - min 1 (max x6 (-x6)) < ((x7 + 1 : Nat) : Int)) (h10 : x8 = x6) (h11 : x8 = 0) (h12 : x9 = x5) (h13 : x10 = 24) (h14 : ¬ x9 = x10) (h15 : 0 ≤ x11) (h16 : x11 ≤ 900) (h17 : 0 ≤ x12) (h18 : x12 ≤ 900) (h19 : (x13 = 24 ∨ x11 < x12)) (h20 : x11 ≤ x12) (h21 : 0 ≤ x14) (h22 : x14 ≤ 900) (h23 : (x15 = 0 → x6 = 0 ∧ x14 - x4 ≤ x11 - x2)) (h24 : x2 ≤ x11) (h25 : x16 = 30) (h26 : 0 ≤ x17) (h27 : x17 ≤ 1) (h28 : 0 ≤ x18) (h29 : x18 ≤ 900) (h30 : 0 ≤ x19) (h31 : x19 ≤ 900) (h32 : (x20 = 24 ∨ x18 < x19)) (h33 : x18 ≤ x19) (h34 : ((x17 = 0 ∧ x18 = x11 ∧ x19 = x12 ∧ x20 = x13 ∧ x21 = x15 ∧ ¬ (x15 = 0 ∧ x13 = x16)) ∨ (x17 = 1 ∧ x12 ≤ x18 ∧ x21 = 0 ∧ x15 = 0 ∧ x13 = x16))) (h35 : x17 = 0) (h36 : 0 ≤ x0) (h37 : x0 ≤ 900) (h38 : x0 = x18) (h39 : 0 ≤ x1) (h40 : x1 ≤ 900) (h41 : x1 = x19) (h42 : x22 = x20) : x0 ≤ x1 := by omega
theorem o48_86 {x0 x1 x2 x3 x4 x5 x6 x7 x9 x10 x11 x12 x13 x14 x15 x16 x17 x18 x19 x20 x21 x22 x23 : Int} {x8 : Nat} (h0 : 0 ≤ x3) (h1 : x3 ≤ 900) (h2 : 0 ≤ x4) (h3 : x4 ≤ 900) (h4 : 0 ≤ x5) (h5 : x5 ≤ 900) (h6 : (x6 = 24 ∨ x3 < x4)) (h7 : x3 ≤ x4) (h8 : (¬ x7 = 0 ∨ x5 ≤ x3)) (h9 : 2 * (900 - x3) + 1 - min 1 (max x7 (-x7)) < ((x8 + 1 : Nat) : Int)) (h10 : x9 = x7) (h11 : x9 = 0) (h12 : x10 = x6) (h13 : x11 = 24) (h14 : ¬ x10 = x11) (h15 : 0 ≤ x12) (h16 : x12 ≤ 900) (h17 : 0 ≤ x13) (h18 : x13 ≤ 900) (h19 : (x14 = 24 ∨ x12 < x13)) (h20 : x12 ≤ x13) (h21 : 0 ≤ x1) (h22 : x1 ≤ 900) (h23 : (x15 = 0 → x7 = 0 ∧ x1 - x5 ≤ x12 - x3)) (h24 : x3 ≤ x12) (h25 : x16 = 30) (h26 : 0 ≤ x17) (h27 : x17 ≤ 1) (h28 : 0 ≤ x18) (h29 : x18 ≤ 900) (h30 : 0 ≤ x19) (h31 : x19 ≤ 900) (h32 : (x20 = 24 ∨ x18 < x19)) (h33 : x18 ≤ x19) (h34 : ((x17 = 0 ∧ x18 = x12 ∧ x19 = x13 ∧ x20 = x14 ∧ x21 = x15 ∧ ¬ (x15 = 0 ∧ x14 = x16)) ∨ (x17 = 1 ∧ x13 ≤ x18 ∧ x21 = 0 ∧ x15 = 0 ∧ x14 = x16))) (h35 : x17 = 0) (h36 : 0 ≤ x2) (h37 : x2 ≤ 900) (h38 : x2 = x18) (h39 : 0 ≤ x22) (h40 : x22 ≤ 900) (h41 : x22 = x19) (h42 : x23 = x20) (h43 : ¬ x0 = 0) : (¬ x0 = 0 ∨ x1 ≤ x2) := by omega
theorem o48_87 {x0 x1 x2 x3 x4 x5 x6 x8 x9 x10 x11 x12 x13 x14 x15 x16 x17 x18 x19 x20 x21 x22 x23 : Int} {x7 : Nat} (h0 : 0 ≤ x2) (h1 : x2 ≤ 900) (h2 : 0 ≤ x3) (h3 : x3 ≤ 900) (h4 : 0 ≤ x4) (h5 : x4 ≤ 900) (h6 : (x5 = 24 ∨ x2 < x3)) (h7 : x2 ≤ x3) (h8 : (¬ x6 = 0 ∨ x4 ≤ x2)) (h9 : 2 * (900 - x2) + 1 - min 1 (max x6 (-x6)) < ((x7 + 1 : Nat) : Int)) (h10 : x8 = x6) (h11 : x8 = 0) (h12 : x9 = x5) (h13 : x10 = 24) (h14 : ¬ x9 = x10) (h15 : 0 ≤ x11) (h16 : x11 ≤ 900) (h17 : 0 ≤ x12) (h18 : x12 ≤ 900) (h19 : (x13 = 24 ∨ x11 < x12)) (h20 : x11 ≤ x12) (h21 : 0 ≤ x14) (h22 : x14 ≤ 900) (h23 : (x0 = 0 → x6 = 0 ∧ x14 - x4 ≤ x11 - x2)) (h24 : x2 ≤ x11) (h25 : x15 = 30) (h26 : 0 ≤ x16) (h27 : x16 ≤ 1) (h28 : 0 ≤ x17) (h29 : x17 ≤ 900) (h30 : 0 ≤ x18) (h31 : x18 ≤ 900) (h32 : (x19 = 24 ∨ x17 < x18)) (h33 : x17 ≤ x18) (h34 : ((x16 = 0 ∧ x17 = x11 ∧ x18 = x12 ∧ x19 = x13 ∧ x20 = x0 ∧ ¬ (x0 = 0 ∧ x13 = x15)) ∨ (x16 = 1 ∧ x12 ≤ x17 ∧ x20 = 0 ∧ x0 = 0 ∧ x13 = x15))) (h35 : x16 = 0) (h36 : 0 ≤ x21) (h37 : x21 ≤ 900) (h38 : x21 = x17) (h39 : 0 ≤ x22) (h40 : x22 ≤ 900) (h41 : x22 = x18) (h42 : x23 = x19) (h43 : ¬ x1 = 0) : (x1 = 0 → x0 = 0) := by omega
theorem o48_88 {x0 x1 x2 x3 x4 x5 : Int} (h0 : x2 = 0) (h1 : x3 = 0) (h2 : 0 ≤ x0) (h3 : x0 ≤ 900) (h4 : x2 ≤ x0) (h5 : 0 ≤ x4) (h6 : x4 ≤ 900) (h7 : (x5 = 24 ∨ x0 < x4)) (h8 : x1 = x3) (h9 : x0 ≤ x4) : 2 * (900 - x0) + 1 - min 1 (max x1 (-x1)) < (((2 * (900 - x0) + 1 - min 1 (max x1 (-x1)) + 1).toNat : Nat) : Int) := by omega
theorem o48_89 {x0 x1 x2 x3 : Int} (h0 : x1 = 0) (h1 : 0 ≤ x0) (h2 : x0 ≤ 900) (h3 : x1 ≤ x0) (h4 : 0 ≤ x2) (h5 : x2 ≤ 900) (h6 : (x3 = 24 ∨ x0 < x2)) (h7 : x0 ≤ x2) : 0 ≤ x0 := by omega
theorem o48_90 {x0 x1 x2 x3 : Int} (h0 : x1 = 0) (h1 : 0 ≤ x0) (h2 : x0 ≤ 900) (h3 : x1 ≤ x0) (h4 : 0 ≤ x2) (h5 : x2 ≤ 900) (h6 : (x3 = 24 ∨ x0 < x2)) (h7 : x0 ≤ x2) : x0 ≤ 900 := by omega
theorem o48_91 {x0 x1 x2 x3 : Int} (h0 : x1 = 0) (h1 : 0 ≤ x2) (h2 : x2 ≤ 900) (h3 : x1 ≤ x2) (h4 : 0 ≤ x0) (h5 : x0 ≤ 900) (h6 : (x3 = 24 ∨ x2 < x0)) (h7 : x2 ≤ x0) : 0 ≤ x0 := by omega
theorem o48_92 {x0 x1 x2 x3 : Int} (h0 : x1 = 0) (h1 : 0 ≤ x2) (h2 : x2 ≤ 900) (h3 : x1 ≤ x2) (h4 : 0 ≤ x0) (h5 : x0 ≤ 900) (h6 : (x3 = 24 ∨ x2 < x0)) (h7 : x2 ≤ x0) : x0 ≤ 900 := by omega
theorem o48_93 {x0 : Int} (h0 : 0 ≤ x0) (h1 : x0 ≤ 900) (h2 : x0 = 0) : 0 ≤ x0 := by omega
theorem o48_94 {x0 : Int} (h0 : 0 ≤ x0) (h1 : x0 ≤ 900) (h2 : x0 = 0) : x0 ≤ 900 := by omega
theorem o48_95 {x0 : Int} (h0 : 0 ≤ x0) (h1 : x0 ≤ 5) (h2 : x0 = 0) : 0 ≤ x0 := by omega
theorem o48_96 {x0 : Int} (h0 : 0 ≤ x0) (h1 : x0 ≤ 5) (h2 : x0 = 0) : x0 ≤ 5 := by omega
theorem o48_97 {x0 x1 x2 x3 : Int} (h0 : x3 = 0) (h1 : 0 ≤ x1) (h2 : x1 ≤ 900) (h3 : x3 ≤ x1) (h4 : 0 ≤ x2) (h5 : x2 ≤ 900) (h6 : (x0 = 24 ∨ x1 < x2)) (h7 : x1 ≤ x2) : (x0 = 24 ∨ x1 < x2) := by omega
theorem o48_98 {x0 x1 x2 x3 : Int} (h0 : x2 = 0) (h1 : 0 ≤ x0) (h2 : x0 ≤ 900) (h3 : x2 ≤ x0) (h4 : 0 ≤ x1) (h5 : x1 ≤ 900) (h6 : (x3 = 24 ∨ x0 < x1)) (h7 : x0 ≤ x1) : x0 ≤ x1 := by omega
theorem o48_99 {x0 x1 x2 x3 x4 x5 x6 : Int} (h0 : x3 = 0) (h1 : x4 = 0) (h2 : 0 ≤ x1) (h3 : x1 ≤ 900) (h4 : x1 = 0) (h5 : 0 ≤ x2) (h6 : x2 ≤ 900) (h7 : x3 ≤ x2) (h8 : 0 ≤ x5) (h9 : x5 ≤ 900) (h10 : (x6 = 24 ∨ x2 < x5)) (h11 : x0 = x4) (h12 : x2 ≤ x5) : (¬ x0 = 0 ∨ x1 ≤ x2) := by omega
theorem o48_100 {x0 x1 : Int} (h0 : 0 ≤ x0) (h1 : x0 ≤ 5) (h2 : x0 = 0) (h3 : 0 ≤ x1) (h4 : x1 ≤ 5) (h5 : x1 = 0) : (x0 = 0 ∨ 1 ≤ x1) := by omega
theorem o48_101 {x0 x1 : Int} (h0 : 0 ≤ x1) (h1 : x1 ≤ 5) (h2 : x1 = 0) (h3 : 0 ≤ x0) (h4 : x0 ≤ 5) (h5 : x0 = 0) : (x0 = 0 ∨ 1 ≤ x1) := by omega
theorem o48_102 {x0 x1 : Int} (h0 : x0 = 0) (h1 : x1 = x0) : (x1 = 0 → x0 = 0) := by omega
noncomputable def g4_X12_plain4 (s : XS) : XR := (s, 0)
noncomputable def g6w_X12_plain4 (R2 : XS → Int → XR) (s : XS) (x1_3 : Int) : XR := R2 s ((x1_3 + 1))
noncomputable def g5_X12_plain4 (R2 : XS → Int → XR) (s : XS) (x1_3 : Int) : XR := g6w_X12_plain4 R2 (xup s 1 4 (Int.toNat x1_3) (0)) x1_3
noncomputable def g3b_X12_plain4 (R2 : XS → Int → XR) (s : XS) (x1_3 : Int) : XR := if x1_3 < 1774 then g5_X12_plain4 R2 s x1_3 else g4_X12_plain4 s
noncomputable def g2l_X12_plain4 (R2 : XS → Int → XR) (s : XS) (x1_3 : Int) : XR := g3b_X12_plain4 R2 s x1_3
noncomputable def L1_X12_plain4 (n : Nat) : XS → Int → XR := Nat.rec (motive := fun _ => XS → Int → XR) (fun s _ => (s, 0)) (fun _ R2 => g2l_X12_plain4 R2) n
noncomputable def f_X12_plain4 (s : XS) : XR := L1_X12_plain4 (Int.toNat (1774 - 0 + 1)) s 0
set_option maxHeartbeats 4000000 in
set_option maxRecDepth 100000 in
theorem c_X12_plain4 (l : Launch) (G : GG) (Z : RZ) (ad : Nat → Nat) (ws0 : va_W) (hT : Ty G SM ad ws0) : Mq l yX12_plain cX12_plain 2 none 1 G Z [.ref (ad 4)] ws0 (PV G SM ad [4] ws0 (fun u => (xso SM ad u = (f_X12_plain4 (xso SM ad ws0)).1) ∧ (Zf u))) := by
  refine Mq.start (by decide) (Nat.le_of_ble_eq_true rfl) ?_
  intro p e s m below meth c A ls C0 hZ h hl
  have hl : lv_has ls 2 [(0, .ref (ad 4))] := hl
  have h : Wt G SM ad A s s.heap [] ws0 := ⟨h, hT⟩
  obtain ⟨args, hargs⟩ : ∃ z, z = ([.ref (ad 4)] : List Value).toArray := ⟨_, rfl⟩
  rw [← hargs] at C0 ⊢
  have C0 : Cx p s m args meth c RX12 cX12_plain 2 none := C0
  obtain ⟨Q, hQ⟩ : ∃ z, z = MQ below ((PV G SM ad [4] ws0 (fun u => (xso SM ad u = (f_X12_plain4 (xso SM ad ws0)).1) ∧ (Zf u))) A) args s 0 0 A := ⟨_, rfl⟩
  rw [← hQ]
  obtain ⟨FT, hFT⟩ : ∃ z, z = f_X12_plain4 (xso SM ad ws0) := ⟨_, rfl⟩
  have HE : FT = f_X12_plain4 (xso SM ad ws0) := hFT
  refine y_c1 (n := 0) C0 (by decide) dX12_plain_0 (fun v_1 e_2 => ?_)
  refine lv_istore_n (lv' := [(1, .int v_1), (0, .ref (ad 4))]) C0.1 C0.2.1 dX12_plain_1 rfl hl (by decide) rfl (fun ls hl => ?_)
  have lp_6 : ∀ (n_8 : Nat) (x1_3 : Int32) (H : Heap) (locs : List Loc) (ls : Array Slot) (ws_4 : va_W), 1774 - x1_3.toInt < (n_8 : Int) → 0 ≤ x1_3.toInt → x1_3.toInt ≤ 1774 → (∀ p, p < x1_3.toInt.toNat → aI ws_4 4 p = 0) → (FT = L1_X12_plain4 n_8 (xso SM ad ws_4) x1_3.toInt) → Wt G SM ad A s H locs ws_4 → Fr SM [4] ws0 ws_4 → lv_has ls 2 [(1, .int x1_3), (0, .ref (ad 4))] → W p l e (rmd 1 0 0) s m args below meth c H locs 0 0 Q (F0 m 2 ls []) := by
    intro n_8
    induction n_8 with
    | zero => intro x1_3 H locs ls ws_4 hn_9 b_10 b_11 hZf HE h hF_5 hl; exact ((o48_1 b_10 b_11 hn_9)).elim
    | succ n_8 ih_7 =>
      intro x1_3 H locs ls ws_4 hn_9 b_10 b_11 hZf HE h hF_5 hl
      obtain ⟨R2, hR2⟩ : ∃ z, z = L1_X12_plain4 n_8 := ⟨_, rfl⟩
      replace HE : FT = g2l_X12_plain4 R2 (xso SM ad ws_4) x1_3.toInt := HE.trans (by rw [hR2]; rfl)
      refine lv_iload_n C0.1 C0.2.1 dX12_plain_2 rfl (lv_at hl 0 rfl) ?_
      refine y_c3 (n := 1774) C0 (by decide) dX12_plain_3 (fun v_12 e_13 => ?_)
      replace HE : FT = g3b_X12_plain4 R2 (xso SM ad ws_4) x1_3.toInt := HE.trans rfl
      refine y_icmp_ge (tgt := 19) C0 dX12_plain_6 (by decide) (fun c_14 => ?_) (fun c_14 => ?_)
      · -- 6
        replace HE : FT = g4_X12_plain4 (xso SM ad ws_4) := HE.trans (if_neg (o48_3 b_10 b_11 hn_9 e_13 c_14))
        replace HE : FT = ((xso SM ad ws_4), 0) := HE.trans rfl
        rw [hQ]
        exact y_vret C0 h hF_5 ⟨(congrArg Prod.fst (HE.symm.trans hFT)), (zf_e hZf (o48_5 b_10 b_11 hn_9 e_13 c_14))⟩ dX12_plain_19
      · -- 6
        replace HE : FT = g5_X12_plain4 R2 (xso SM ad ws_4) x1_3.toInt := HE.trans (if_pos (o48_4 b_10 b_11 hn_9 e_13 c_14))
        refine lv_aload_n C0.1 C0.2.1 dX12_plain_9 rfl (lv_at hl 1 rfl) ?_
        refine lv_iload_n C0.1 C0.2.1 dX12_plain_10 rfl (lv_at hl 0 rfl) ?_
        refine y_c1 (n := 0) C0 (by decide) dX12_plain_11 (fun v_15 e_16 => ?_)
        have hO_19 := h.2
        have f_20 := o48_8 x1_3.toInt.toNat (o48_9 b_10 b_11 hn_9 e_13 c_14) (o48_10 b_10 b_11 hn_9 e_13 c_14)
        refine y_iast C0 h kSM_4 rfl (by decide) (o48_6 b_10 b_11 hn_9 e_13 c_14) (o48_7 b_10 b_11 hn_9 e_13 c_14) (Int.le_trans f_20.1 (o48_11 e_16)) (Int.le_trans (o48_12 e_16) f_20.2) dX12_plain_12 (fun H locs ws_17 h u_18 => ?_)
        replace HE : FT = g6w_X12_plain4 R2 (xso SM ad ws_17) x1_3.toInt := HE.trans (by rw [(xso_A (i := 4) hO_19 h.2 kSM_4 rfl u_18), e_16]; rfl)
        refine y_inc (kp := 0) (n := 1) (fun v_21 => [(1, .int v_21), (0, .ref (ad 4))]) C0 hl rfl (by decide) (by decide) (fun _ => rfl) (o48_13 b_10 b_11 hn_9 e_13 c_14 (le_min x1_3) (le_max x1_3) (le_min v_12) (le_max v_12)) (o48_14 b_10 b_11 hn_9 e_13 c_14 (le_min x1_3) (le_max x1_3) (le_min v_12) (le_max v_12)) dX12_plain_13 (fun v_21 ls e_22 hl => ?_)
        refine lv_goto (tgt := 2) C0.1 C0.2.1 dX12_plain_16 (by decide) ?_
        exact ih_7 v_21 _ _ _ _ (o48_15 b_10 b_11 hn_9 e_13 c_14 e_22) (o48_16 b_10 b_11 hn_9 e_13 c_14 e_22) (o48_17 b_10 b_11 hn_9 e_13 c_14 e_22) ((zf_s hZf u_18 (o48_18 b_10 b_11 hn_9 e_13 c_14 e_22) (o48_19 e_16) (o48_20 b_10 b_11 hn_9 e_13 c_14 e_22) e_22)) (((show FT = R2 (xso SM ad ws_17) v_21.toInt from HE.trans (by rw [e_22]; rfl)).trans (by rw [hR2]))) h (Fr.tr hF_5 (Fr.up u_18.1 kSM_4 (by decide))) (lv_sub hl [0, 1] rfl)
  exact lp_6 ((1774 - v_1.toInt + 1).toNat) v_1 _ _ _ _ (o48_21 e_2) (o48_11 e_2) (o48_22 e_2) ((zf_i e_2)) ((show FT = L1_X12_plain4 (Int.toNat (1774 - v_1.toInt + 1)) (xso SM ad ws0) v_1.toInt from HE.trans (by rw [e_2]; rfl))) h Fr.rf (lv_sub hl [0, 1] rfl)
noncomputable def g18w_X12_city (s : XS) : XR := (s, (Xisub ((-30)) (s 0 0 11)))
noncomputable def g17w_X12_city (s : XS) : XR := g18w_X12_city (xup s 0 0 14 (s 0 0 12))
noncomputable def g15_X12_city (s : XS) : XR := g17w_X12_city (xup s 0 0 13 (s 0 0 11))
noncomputable def g27_X12_city (s : XS) : XR := (s, (s 1 1 (Int.toNat 0)))
noncomputable def g29w_X12_city (R144 : XS → Int → XR) (s : XS) (x2_193 : Int) : XR := R144 s ((x2_193 + 1))
noncomputable def g28_X12_city (R144 : XS → Int → XR) (s : XS) (x2_193 : Int) : XR := g29w_X12_city R144 (xup s 1 1 (Int.toNat x2_193) ((s 1 4 (Int.toNat x2_193)))) x2_193
noncomputable def g26b_X12_city (R144 : XS → Int → XR) (s : XS) (x2_193 : Int) : XR := if x2_193 < 1774 then g28_X12_city R144 s x2_193 else g27_X12_city s
noncomputable def g25l_X12_city (R144 : XS → Int → XR) (s : XS) (x2_193 : Int) : XR := g26b_X12_city R144 s x2_193
noncomputable def L24_X12_city (n : Nat) : XS → Int → XR := Nat.rec (motive := fun _ => XS → Int → XR) (fun s _ => (s, 0)) (fun _ R144 => g25l_X12_city R144) n
noncomputable def g23w_X12_city (s : XS) : XR := L24_X12_city (Int.toNat (1774 - 0 + 1)) s 0
noncomputable def g22w_X12_city (s : XS) : XR := g23w_X12_city (xup s 0 0 14 ((-1)))
noncomputable def g20_X12_city (s : XS) : XR := g22w_X12_city (xup s 0 0 13 (s 0 0 11))
noncomputable def g35w_X12_city (R53 : XS → XR) (s : XS) : XR := R53 s
noncomputable def g33_X12_city (R53 : XS → XR) (s : XS) : XR := g35w_X12_city R53 (xup s 1 4 (Int.toNat 0) ((Xiadd (s 1 4 (Int.toNat 0)) 1)))
noncomputable def g37w_X12_city (R53 : XS → XR) (s : XS) : XR := R53 s
noncomputable def g36c_X12_city (R53 : XS → XR) (s : XS) : XR := g37w_X12_city R53 (xup s 1 4 (Int.toNat 0) ((Xiadd (s 1 4 (Int.toNat 0)) 1)))
noncomputable def g34_X12_city (R53 : XS → XR) (s : XS) : XR := g36c_X12_city R53 ((f_X12_fails s 2).1)
noncomputable def g32b_X12_city (R53 : XS → XR) (s : XS) (r_267 : Int) : XR := if r_267 = 0 then g34_X12_city R53 s else g33_X12_city R53 s
noncomputable def g31c_X12_city (R53 : XS → XR) (s : XS) (r_267 : Int) : XR := g32b_X12_city R53 s r_267
noncomputable def g30c_X12_city (R53 : XS → XR) (s : XS) : XR := g31c_X12_city R53 ((f_X12_eats s 30).1) (((f_X12_eats s 30).2))
noncomputable def g21_X12_city (R53 : XS → XR) (s : XS) : XR := g30c_X12_city R53 ((f_X12_readLine s).1)
noncomputable def g19b_X12_city (R53 : XS → XR) (s : XS) (v_159 : Int) : XR := if v_159 = 24 then g20_X12_city s else g21_X12_city R53 s
noncomputable def g16_X12_city (R53 : XS → XR) (s : XS) : XR := g19b_X12_city R53 s ((s 0 0 9))
noncomputable def g14b_X12_city (R53 : XS → XR) (s : XS) (v_119 : Int) : XR := if v_119 = 0 then g16_X12_city R53 s else g15_X12_city s
noncomputable def g13l_X12_city (R53 : XS → XR) (s : XS) : XR := g14b_X12_city R53 s ((s 0 0 11))
noncomputable def L12_X12_city (n : Nat) : XS → XR := Nat.rec (motive := fun _ => XS → XR) (fun s => (s, 0)) (fun _ R53 => g13l_X12_city R53) n
noncomputable def g11c_X12_city (s : XS) : XR := L12_X12_city (Int.toNat (2 * (900 - (s 0 0 6)) + 1 - min 1 (max (s 0 0 11) (-(s 0 0 11))) + 1)) s
noncomputable def g10c_X12_city (s : XS) : XR := g11c_X12_city ((f_X12_next s).1)
noncomputable def g9w_X12_city (s : XS) : XR := g10c_X12_city ((f_X12_plain4 s).1)
noncomputable def g8w_X12_city (s : XS) : XR := g9w_X12_city (xup s 0 0 11 0)
noncomputable def g7w_X12_city (s : XS) : XR := g8w_X12_city (xup s 0 0 7 0)
noncomputable def g6w_X12_city (s : XS) : XR := g7w_X12_city (xup s 0 0 5 0)
noncomputable def g4_X12_city (s : XS) (a1 : Int) : XR := g6w_X12_city (xup s 0 0 8 a1)
noncomputable def g5_X12_city (s : XS) : XR := (s, ((-3)))
noncomputable def g3b_X12_city (s : XS) (r_18 : Int) (a1 : Int) : XR := if r_18 = 0 then g5_X12_city s else g4_X12_city s a1
noncomputable def g2c_X12_city (s : XS) (r_18 : Int) (a1 : Int) : XR := g3b_X12_city s r_18 a1
noncomputable def g1w_X12_city (s : XS) (a1 : Int) : XR := g2c_X12_city ((f_X12_within s a1 0 ((s 0 0 5))).1) (((f_X12_within s a1 0 ((s 0 0 5))).2)) a1
noncomputable def f_X12_city (s : XS) (a1 : Int) : XR := g1w_X12_city (xup s 0 0 0 0) a1
set_option maxHeartbeats 4000000 in
set_option maxRecDepth 100000 in
theorem c_X12_city (l : Launch) (G : GG) (Z : RZ) (ad : Nat → Nat) (ws0 : va_W) (hT : Ty G SM ad ws0) (a1 : Int32) (hJ : J ws0) : Mq l yX12_city cX12_city 3 (some .int) 33 G Z [.ref (ad 0), .int a1] ws0 (PI G SM ad [0, 1, 4] ws0 (fun r u => (xso SM ad u = (f_X12_city (xso SM ad ws0) a1.toInt).1) ∧ (r.toInt = (f_X12_city (xso SM ad ws0) a1.toInt).2) ∧ (J u))) := by
  refine Mq.start (by decide) (Nat.le_of_ble_eq_true rfl) ?_
  intro p e s m below meth c A ls C0 hZ h hl
  have hl : lv_has ls 3 [(0, .ref (ad 0)), (1, .int a1)] := hl
  have h : Wt G SM ad A s s.heap [] ws0 := ⟨h, hT⟩
  obtain ⟨args, hargs⟩ : ∃ z, z = ([.ref (ad 0), .int a1] : List Value).toArray := ⟨_, rfl⟩
  rw [← hargs] at C0 ⊢
  have C0 : Cx p s m args meth c RX12 cX12_city 3 (some .int) := C0
  obtain ⟨Q, hQ⟩ : ∃ z, z = MQ below ((PI G SM ad [0, 1, 4] ws0 (fun r u => (xso SM ad u = (f_X12_city (xso SM ad ws0) a1.toInt).1) ∧ (r.toInt = (f_X12_city (xso SM ad ws0) a1.toInt).2) ∧ (J u))) A) args s 0 0 A := ⟨_, rfl⟩
  rw [← hQ]
  obtain ⟨FT, hFT⟩ : ∃ z, z = f_X12_city (xso SM ad ws0) a1.toInt := ⟨_, rfl⟩
  have HE : FT = f_X12_city (xso SM ad ws0) a1.toInt := hFT
  refine lv_aload_n C0.1 C0.2.1 dX12_city_0 rfl (lv_at hl 0 rfl) ?_
  refine y_c1 (n := 0) C0 (by decide) dX12_city_1 (fun v_1 e_2 => ?_)
  refine np_X12_thrown C0 h kSM_0 q_1438 (le_min v_1) (le_max v_1) dX12_city_2 (fun H locs ws_3 h u_4 Xu_4 => ?_)
  replace HE : FT = g1w_X12_city (xso SM ad ws_3) a1.toInt := HE.trans (by rw [Xu_4, e_2]; rfl)
  refine lv_iload_n C0.1 C0.2.1 dX12_city_5 rfl (lv_at hl 1 rfl) ?_
  refine y_i2l C0 dX12_city_6 (fun w_5 e_6 => ?_)
  refine y_lc (v := 0) C0 (by decide) dX12_city_7 (fun w_7 e_8 => ?_)
  refine lv_aload_n C0.1 C0.2.1 dX12_city_8 rfl (lv_at hl 0 rfl) ?_
  refine ng_X12_taped C0 h kSM_0 q_1443 dX12_city_9 (fun v_9 e_10 e_11 e_12 => ?_)
  refine y_i2l C0 dX12_city_12 (fun w_13 e_14 => ?_)
  refine y_ci h (y_rS (As := [.long w_5, .long w_7, .long w_13]) (rest := []) C0 hZ h (c_X12_within l G Z ad _ h.2 w_5 w_7 w_13) k_X12_within q_1580 q_1579 hl.1 rfl rfl (Nat.le_of_ble_eq_true rfl) dX12_city_13 ⟨Nat.le_of_ble_eq_true rfl, Nat.le_of_ble_eq_true rfl⟩ ⟨Nat.le_of_ble_eq_true rfl, Nat.le_of_ble_eq_true rfl⟩) (fun r_18 H locs ws_15 h u_16 p_17 => ?_)
  obtain ⟨e_19, e_20, e_21, e_22, e_23⟩ := p_17
  replace HE : FT = g2c_X12_city (xso SM ad ws_15) r_18.toInt a1.toInt := HE.trans (by rw [e_19, e_20, e_14, (xg0 e_10 : v_9.toInt = (xso SM ad ws_3) 0 0 5), e_8, e_6]; rfl)
  replace HE : FT = g3b_X12_city (xso SM ad ws_15) r_18.toInt a1.toInt := HE.trans rfl
  refine y_if_ne (tgt := 22) C0 dX12_city_16 (by decide) (fun c_24 => ?_) (fun c_24 => ?_)
  · -- 16
    replace HE : FT = g4_X12_city (xso SM ad ws_15) a1.toInt := HE.trans (if_neg c_24)
    refine lv_aload_n C0.1 C0.2.1 dX12_city_22 rfl (lv_at hl 0 rfl) ?_
    refine lv_iload_n C0.1 C0.2.1 dX12_city_23 rfl (lv_at hl 1 rfl) ?_
    refine np_X12_size C0 h kSM_0 q_1446 (o48_23 e_6 e_8 e_11 e_12 e_14 e_21 e_22 e_23 c_24) (o48_24 e_6 e_8 e_11 e_12 e_14 e_21 e_22 e_23 c_24) dX12_city_24 (fun H locs ws_25 h u_26 Xu_26 => ?_)
    replace HE : FT = g6w_X12_city (xso SM ad ws_25) := HE.trans (by rw [Xu_26]; rfl)
    refine lv_aload_n C0.1 C0.2.1 dX12_city_27 rfl (lv_at hl 0 rfl) ?_
    refine y_c1 (n := 0) C0 (by decide) dX12_city_28 (fun v_27 e_28 => ?_)
    refine np_X12_taped C0 h kSM_0 q_1443 (o48_11 e_28) (o48_25 e_28) dX12_city_29 (fun H locs ws_29 h u_30 Xu_30 => ?_)
    replace HE : FT = g7w_X12_city (xso SM ad ws_29) := HE.trans (by rw [Xu_30, e_28]; rfl)
    refine lv_aload_n C0.1 C0.2.1 dX12_city_32 rfl (lv_at hl 0 rfl) ?_
    refine y_c1 (n := 0) C0 (by decide) dX12_city_33 (fun v_31 e_32 => ?_)
    refine np_X12_behind C0 h kSM_0 q_1445 (o48_11 e_32) (o48_25 e_32) dX12_city_34 (fun H locs ws_33 h u_34 Xu_34 => ?_)
    replace HE : FT = g8w_X12_city (xso SM ad ws_33) := HE.trans (by rw [Xu_34, e_32]; rfl)
    refine lv_aload_n C0.1 C0.2.1 dX12_city_37 rfl (lv_at hl 0 rfl) ?_
    refine y_c1 (n := 0) C0 (by decide) dX12_city_38 (fun v_35 e_36 => ?_)
    refine np_X12_wrong C0 h kSM_0 q_1449 (le_min v_35) (le_max v_35) dX12_city_39 (fun H locs ws_37 h u_38 Xu_38 => ?_)
    replace HE : FT = g9w_X12_city (xso SM ad ws_37) := HE.trans (by rw [Xu_38, e_36]; rfl)
    refine lv_aload_n C0.1 C0.2.1 dX12_city_42 rfl (lv_at hl 0 rfl) ?_
    refine ng_X12_fresh C0 h kSM_0 q_1442 dX12_city_43 ?_
    refine y_cv h (y_rS (As := [.ref (ad 4)]) (rest := []) C0 hZ h (c_X12_plain4 l G Z ad _ h.2) k_X12_plain q_1436 q_1435 hl.1 rfl rfl (Nat.le_of_ble_eq_true rfl) dX12_city_46 ⟨Nat.le_of_ble_eq_true rfl, Nat.le_of_ble_eq_true rfl⟩ ⟨Nat.le_of_ble_eq_true rfl, Nat.le_of_ble_eq_true rfl⟩) (fun H locs ws_39 h u_40 p_41 => ?_)
    obtain ⟨e_42, e_43⟩ := p_41
    obtain ⟨f_44, e_45⟩ : ∃ v, aI ws_39 4 1 = v := ⟨_, rfl⟩
    have b_46 := ty_aI 1 h.2 kSM_4 rfl (by decide)
    rw [e_45] at b_46
    obtain ⟨f_47, e_48⟩ : ∃ v, aI ws_39 4 2 = v := ⟨_, rfl⟩
    have b_49 := ty_aI 2 h.2 kSM_4 rfl (by decide)
    rw [e_48] at b_49
    obtain ⟨f_50, e_51⟩ : ∃ v, aI ws_39 4 3 = v := ⟨_, rfl⟩
    have b_52 := ty_aI 3 h.2 kSM_4 rfl (by decide)
    rw [e_51] at b_52
    obtain ⟨f_53, e_54⟩ : ∃ v, aI ws_39 4 873 = v := ⟨_, rfl⟩
    have b_55 := ty_aI 873 h.2 kSM_4 rfl (by decide)
    rw [e_54] at b_55
    replace HE : FT = g10c_X12_city (xso SM ad ws_39) := HE.trans (by rw [e_42]; rfl)
    refine lv_aload_n C0.1 C0.2.1 dX12_city_49 rfl (lv_at hl 0 rfl) ?_
    refine y_cv h (y_rV (As := []) (rest := []) C0 hZ h (c_X12_next l G Z ad _ h.2) k_X12_next q_1584 q_56 q_1582 kSM_0 rfl rfl rfl hl.1 rfl rfl (Nat.le_of_ble_eq_true rfl) dX12_city_50 ⟨Nat.le_of_ble_eq_true rfl, Nat.le_of_ble_eq_true rfl⟩ ⟨Nat.le_of_ble_eq_true rfl, Nat.le_of_ble_eq_true rfl⟩) (fun H locs ws_56 h u_57 p_58 => ?_)
    obtain ⟨e_59, e_60, e_61, e_62, e_63⟩ := p_58
    obtain ⟨f_64, e_65⟩ : ∃ v, fI ws_56 0 6 = v := ⟨_, rfl⟩
    have b_66 := ty_fI (k := 6) h.2 kSM_0 rfl rfl
    rw [e_65] at b_66
    have e_67 := e_60
    rw [show fI ws_39 0 7 = v_31 from (Eq.trans (Eq.trans (Fr.fI u_40 kSM_0 (by decide)) (u_38.2.2 7 (by decide))) u_34.2.1), show fI ws_56 0 6 = f_64 from e_65] at e_67
    obtain ⟨f_68, e_69⟩ : ∃ v, fI ws_56 0 9 = v := ⟨_, rfl⟩
    have b_70 := ty_fI (k := 9) h.2 kSM_0 rfl rfl
    rw [e_69] at b_70
    obtain ⟨f_71, e_72⟩ : ∃ v, fI ws_56 0 7 = v := ⟨_, rfl⟩
    have b_73 := ty_fI (k := 7) h.2 kSM_0 rfl rfl
    rw [e_72] at b_73
    have e_74 := e_61
    rw [show fI ws_56 0 9 = f_68 from e_69, show fI ws_56 0 6 = f_64 from (Eq.trans rfl e_65), show fI ws_56 0 7 = f_71 from e_72] at e_74
    obtain ⟨f_75, e_76⟩ : ∃ v, fI ws_56 0 11 = v := ⟨_, rfl⟩
    have b_77 := ty_fI (k := 11) h.2 kSM_0 rfl rfl
    rw [e_76] at b_77
    have e_78 := e_62
    rw [show fI ws_56 0 11 = f_75 from e_76, show fI ws_39 0 11 = v_35 from (Eq.trans (Fr.fI u_40 kSM_0 (by decide)) u_38.2.1)] at e_78
    have e_79 := e_63
    rw [show fI ws_56 0 6 = f_64 from (Eq.trans rfl e_65), show fI ws_56 0 7 = f_71 from (Eq.trans rfl e_72)] at e_79
    replace HE : FT = g11c_X12_city (xso SM ad ws_56) := HE.trans (by rw [e_59]; rfl)
    have lp_82 : ∀ (n_84 : Nat) (f_86 : Int32) (f_90 : Int32) (f_94 : Int32) (f_96 : Int32) (f_98 : Int32) (f_102 : Int32) (f_106 : Int32) (f_110 : Int32) (H : Heap) (locs : List Loc) (ls : Array Slot) (ws_80 : va_W), 2 * (900 - f_86.toInt) + 1 - min 1 (max f_96.toInt (-f_96.toInt)) < (n_84 : Int) → 0 ≤ f_86.toInt → f_86.toInt ≤ 900 → 0 ≤ f_90.toInt → f_90.toInt ≤ 900 → 0 ≤ f_98.toInt → f_98.toInt ≤ 900 → 0 ≤ f_102.toInt → f_102.toInt ≤ 5 → 0 ≤ f_106.toInt → f_106.toInt ≤ 5 → 0 ≤ f_110.toInt → f_110.toInt ≤ 5 → (f_94.toInt = 24 ∨ f_86.toInt < f_90.toInt) → f_86.toInt ≤ f_90.toInt → (¬ f_96.toInt = 0 ∨ f_98.toInt ≤ f_86.toInt) → (f_102.toInt = 0 ∨ 1 ≤ f_106.toInt) → (f_110.toInt = 0 ∨ 1 ≤ f_102.toInt) → (FLs ws_80) → (FT = L12_X12_city n_84 (xso SM ad ws_80)) → fI ws_80 0 6 = f_86 → fI ws_80 0 7 = f_90 → fI ws_80 0 9 = f_94 → fI ws_80 0 11 = f_96 → aI ws_80 4 873 = f_98 → aI ws_80 4 1 = f_102 → aI ws_80 4 2 = f_106 → aI ws_80 4 3 = f_110 → Wt G SM ad A s H locs ws_80 → Fr SM [0, 4] ws_56 ws_80 → lv_has ls 3 [(0, .ref (ad 0)), (1, .int a1)] → W p l e (rmd 33 0 0) s m args below meth c H locs 0 0 Q (F0 m 53 ls []) := by
      intro n_84
      induction n_84 with
      | zero => intro f_86 f_90 f_94 f_96 f_98 f_102 f_106 f_110 H locs ls ws_80 hn_85 b_88 b_89 b_92 b_93 b_100 b_101 b_104 b_105 b_108 b_109 b_112 b_113 b_114 b_115 b_116 b_117 b_118 hFL HE e_87 e_91 e_95 e_97 e_99 e_103 e_107 e_111 h hF_81 hl; exact ((o48_26 b_88 b_89 b_92 b_93 b_100 b_101 b_114 b_115 b_116 hn_85)).elim
      | succ n_84 ih_83 =>
        intro f_86 f_90 f_94 f_96 f_98 f_102 f_106 f_110 H locs ls ws_80 hn_85 b_88 b_89 b_92 b_93 b_100 b_101 b_104 b_105 b_108 b_109 b_112 b_113 b_114 b_115 b_116 b_117 b_118 hFL HE e_87 e_91 e_95 e_97 e_99 e_103 e_107 e_111 h hF_81 hl
        obtain ⟨R53, hR53⟩ : ∃ z, z = L12_X12_city n_84 := ⟨_, rfl⟩
        replace HE : FT = g13l_X12_city R53 (xso SM ad ws_80) := HE.trans (by rw [hR53]; rfl)
        refine lv_aload_n C0.1 C0.2.1 dX12_city_53 rfl (lv_at hl 0 rfl) ?_
        refine ng_X12_wrong C0 h kSM_0 q_1449 dX12_city_54 (fun v_119 e_120 e_121 e_122 => ?_)
        have qh_123 : v_119.toInt = f_96.toInt := congrArg Int32.toInt (e_120.symm.trans (Eq.trans rfl e_97))
        replace HE : FT = g14b_X12_city R53 (xso SM ad ws_80) v_119.toInt := HE.trans (by rw [(xg0 e_120 : v_119.toInt = (xso SM ad ws_80) 0 0 11)]; rfl)
        refine y_if_ne (tgt := 100) C0 dX12_city_57 (by decide) (fun c_124 => ?_) (fun c_124 => ?_)
        · -- 57
          replace HE : FT = g15_X12_city (xso SM ad ws_80) := HE.trans (if_neg c_124)
          refine lv_aload_n C0.1 C0.2.1 dX12_city_100 rfl (lv_at hl 0 rfl) ?_
          refine lv_aload_n C0.1 C0.2.1 dX12_city_101 rfl (lv_at hl 0 rfl) ?_
          refine ng_X12_wrong C0 h kSM_0 q_1449 dX12_city_102 (fun v_125 e_126 e_127 e_128 => ?_)
          have qh_129 : v_125.toInt = f_96.toInt := congrArg Int32.toInt (e_126.symm.trans (Eq.trans rfl e_97))
          refine np_X12_faultKind C0 h kSM_0 q_1451 (le_min v_125) (le_max v_125) dX12_city_105 (fun H locs ws_130 h u_131 Xu_131 => ?_)
          replace HE : FT = g17w_X12_city (xso SM ad ws_130) := HE.trans (by rw [Xu_131, (xg0 e_126 : v_125.toInt = (xso SM ad ws_80) 0 0 11)]; rfl)
          refine lv_aload_n C0.1 C0.2.1 dX12_city_108 rfl (lv_at hl 0 rfl) ?_
          refine lv_aload_n C0.1 C0.2.1 dX12_city_109 rfl (lv_at hl 0 rfl) ?_
          refine ng_X12_wrong C0 h kSM_0 q_1449 dX12_city_110 (fun v_132 e_133 e_134 e_135 => ?_)
          have qh_136 : v_132.toInt = f_96.toInt := congrArg Int32.toInt (e_133.symm.trans (Eq.trans (u_131.2.2 11 (by decide)) e_97))
          refine y_if_ne (tgt := 120) C0 dX12_city_113 (by decide) (fun c_137 => ?_) (fun c_137 => ((o48_27 b_88 b_89 b_92 b_93 b_100 b_101 b_114 b_115 b_116 hn_85 qh_123 c_124 qh_129 qh_136 c_137)).elim)
          refine lv_aload_n C0.1 C0.2.1 dX12_city_120 rfl (lv_at hl 0 rfl) ?_
          refine ng_X12_wrongAt C0 h kSM_0 q_1450 dX12_city_121 (fun v_138 e_139 e_140 e_141 => ?_)
          refine np_X12_faultPlace C0 h kSM_0 q_1452 (le_min v_138) (le_max v_138) dX12_city_124 (fun H locs ws_142 h u_143 Xu_143 => ?_)
          replace HE : FT = g18w_X12_city (xso SM ad ws_142) := HE.trans (by rw [Xu_143, (xg0 e_139 : v_138.toInt = (xso SM ad ws_130) 0 0 12)]; rfl)
          refine lv_aload_n C0.1 C0.2.1 dX12_city_127 rfl (lv_at hl 0 rfl) ?_
          refine ng_X12_wrong C0 h kSM_0 q_1449 dX12_city_128 (fun v_144 e_145 e_146 e_147 => ?_)
          have qh_148 : v_144.toInt = f_96.toInt := congrArg Int32.toInt (e_145.symm.trans (Eq.trans (Eq.trans (u_143.2.2 11 (by decide)) (u_131.2.2 11 (by decide))) e_97))
          refine y_if_eq (tgt := 142) C0 dX12_city_131 (by decide) (fun c_149 => ((o48_28 b_88 b_89 b_92 b_93 b_100 b_101 b_114 b_115 b_116 hn_85 qh_123 c_124 qh_129 qh_136 c_137 qh_148 c_149)).elim) (fun c_149 => ?_)
          refine y_c2 (n := (-30)) C0 (by decide) dX12_city_134 (fun v_150 e_151 => ?_)
          refine lv_aload_n C0.1 C0.2.1 dX12_city_136 rfl (lv_at hl 0 rfl) ?_
          refine ng_X12_wrong C0 h kSM_0 q_1449 dX12_city_137 (fun v_152 e_153 e_154 e_155 => ?_)
          have qh_156 : v_152.toInt = f_96.toInt := congrArg Int32.toInt (e_153.symm.trans (Eq.trans (Eq.trans (u_143.2.2 11 (by decide)) (u_131.2.2 11 (by decide))) e_97))
          refine xr_isub C0 dX12_city_140 (fun v_157 e_158 => ?_)
          replace HE : FT = ((xso SM ad ws_142), v_157.toInt) := HE.trans (by rw [e_158, (xg0 e_153 : v_152.toInt = (xso SM ad ws_142) 0 0 11), e_151]; rfl)
          rw [hQ]
          exact y_iret C0 h (Fr.tr (Fr.tr (Fr.tr (Fr.tr (Fr.tr (Fr.tr (Fr.tr (Fr.tr (Fr.tr (Fr.tr (Fr.up u_4.1 kSM_0 (by decide)) (Fr.mono u_16 (by decide))) (Fr.up u_26.1 kSM_0 (by decide))) (Fr.up u_30.1 kSM_0 (by decide))) (Fr.up u_34.1 kSM_0 (by decide))) (Fr.up u_38.1 kSM_0 (by decide))) (Fr.mono u_40 (by decide))) (Fr.mono u_57 (by decide))) (Fr.mono hF_81 (by decide))) (Fr.up u_131.1 kSM_0 (by decide))) (Fr.up u_143.1 kSM_0 (by decide))) ⟨(congrArg Prod.fst (HE.symm.trans hFT)), (congrArg Prod.snd (HE.symm.trans hFT)), (J.pa hT hJ (Pa.fr (M := [0, 4]) (Fr.tr (Fr.tr (Fr.tr (Fr.tr (Fr.tr (Fr.tr (Fr.tr (Fr.tr (Fr.tr (Fr.tr (Fr.up u_4.1 kSM_0 (by decide)) (Fr.mono u_16 (by decide))) (Fr.up u_26.1 kSM_0 (by decide))) (Fr.up u_30.1 kSM_0 (by decide))) (Fr.up u_34.1 kSM_0 (by decide))) (Fr.up u_38.1 kSM_0 (by decide))) (Fr.mono u_40 (by decide))) (Fr.mono u_57 (by decide))) hF_81) (Fr.up u_131.1 kSM_0 (by decide))) (Fr.up u_143.1 kSM_0 (by decide))) (by decide)))⟩ dX12_city_141
        · -- 57
          replace HE : FT = g16_X12_city R53 (xso SM ad ws_80) := HE.trans (if_pos c_124)
          refine lv_aload_n C0.1 C0.2.1 dX12_city_60 rfl (lv_at hl 0 rfl) ?_
          refine ng_X12_kind C0 h kSM_0 q_1447 dX12_city_61 (fun v_159 e_160 e_161 e_162 => ?_)
          have qh_163 : v_159.toInt = f_94.toInt := congrArg Int32.toInt (e_160.symm.trans (Eq.trans rfl e_95))
          refine y_c2 (n := 24) C0 (by decide) dX12_city_64 (fun v_164 e_165 => ?_)
          replace HE : FT = g19b_X12_city R53 (xso SM ad ws_80) v_159.toInt := HE.trans (by rw [(xg0 e_160 : v_159.toInt = (xso SM ad ws_80) 0 0 9)]; rfl)
          refine y_icmp_eq (tgt := 100) C0 dX12_city_66 (by decide) (fun c_166 => ?_) (fun c_166 => ?_)
          · -- 66
            replace HE : FT = g20_X12_city (xso SM ad ws_80) := HE.trans (if_pos (o48_30 b_88 b_89 b_92 b_93 b_100 b_101 b_114 b_115 b_116 hn_85 qh_123 c_124 qh_163 e_165 c_166))
            refine lv_aload_n C0.1 C0.2.1 dX12_city_100 rfl (lv_at hl 0 rfl) ?_
            refine lv_aload_n C0.1 C0.2.1 dX12_city_101 rfl (lv_at hl 0 rfl) ?_
            refine ng_X12_wrong C0 h kSM_0 q_1449 dX12_city_102 (fun v_167 e_168 e_169 e_170 => ?_)
            have qh_171 : v_167.toInt = f_96.toInt := congrArg Int32.toInt (e_168.symm.trans (Eq.trans rfl e_97))
            refine np_X12_faultKind C0 h kSM_0 q_1451 (le_min v_167) (le_max v_167) dX12_city_105 (fun H locs ws_172 h u_173 Xu_173 => ?_)
            replace HE : FT = g22w_X12_city (xso SM ad ws_172) := HE.trans (by rw [Xu_173, (xg0 e_168 : v_167.toInt = (xso SM ad ws_80) 0 0 11)]; rfl)
            refine lv_aload_n C0.1 C0.2.1 dX12_city_108 rfl (lv_at hl 0 rfl) ?_
            refine lv_aload_n C0.1 C0.2.1 dX12_city_109 rfl (lv_at hl 0 rfl) ?_
            refine ng_X12_wrong C0 h kSM_0 q_1449 dX12_city_110 (fun v_174 e_175 e_176 e_177 => ?_)
            have qh_178 : v_174.toInt = f_96.toInt := congrArg Int32.toInt (e_175.symm.trans (Eq.trans (u_173.2.2 11 (by decide)) e_97))
            refine y_if_ne (tgt := 120) C0 dX12_city_113 (by decide) (fun c_179 => ((o48_32 b_88 b_89 b_92 b_93 b_100 b_101 b_114 b_115 b_116 hn_85 qh_123 c_124 qh_163 e_165 c_166 qh_171 qh_178 c_179)).elim) (fun c_179 => ?_)
            refine y_c1 (n := (-1)) C0 (by decide) dX12_city_116 (fun v_180 e_181 => ?_)
            refine lv_goto (tgt := 124) C0.1 C0.2.1 dX12_city_117 (by decide) ?_
            refine np_X12_faultPlace C0 h kSM_0 q_1452 (le_min v_180) (le_max v_180) dX12_city_124 (fun H locs ws_182 h u_183 Xu_183 => ?_)
            replace HE : FT = g23w_X12_city (xso SM ad ws_182) := HE.trans (by rw [Xu_183, e_181]; rfl)
            refine lv_aload_n C0.1 C0.2.1 dX12_city_127 rfl (lv_at hl 0 rfl) ?_
            refine ng_X12_wrong C0 h kSM_0 q_1449 dX12_city_128 (fun v_184 e_185 e_186 e_187 => ?_)
            have qh_188 : v_184.toInt = f_96.toInt := congrArg Int32.toInt (e_185.symm.trans (Eq.trans (Eq.trans (u_183.2.2 11 (by decide)) (u_173.2.2 11 (by decide))) e_97))
            refine y_if_eq (tgt := 142) C0 dX12_city_131 (by decide) (fun c_189 => ?_) (fun c_189 => ((o48_33 b_88 b_89 b_92 b_93 b_100 b_101 b_114 b_115 b_116 hn_85 qh_123 c_124 qh_163 e_165 c_166 qh_171 qh_178 c_179 qh_188 c_189)).elim)
            have hX_190T := h.2
            have hX_190J : J ws_182 := J.pa hT hJ (Pa.fr (M := [0, 4]) (Fr.tr (Fr.tr (Fr.tr (Fr.tr (Fr.tr (Fr.tr (Fr.tr (Fr.tr (Fr.tr (Fr.tr (Fr.up u_4.1 kSM_0 (by decide)) (Fr.mono u_16 (by decide))) (Fr.up u_26.1 kSM_0 (by decide))) (Fr.up u_30.1 kSM_0 (by decide))) (Fr.up u_34.1 kSM_0 (by decide))) (Fr.up u_38.1 kSM_0 (by decide))) (Fr.mono u_40 (by decide))) (Fr.mono u_57 (by decide))) hF_81) (Fr.up u_173.1 kSM_0 (by decide))) (Fr.up u_183.1 kSM_0 (by decide))) (by decide))
            have hX_190 : ∀ (b : va_W) (k : Int32), C4 ws_182 b k.toInt.toNat → 1774 ≤ k.toInt → J b := fun b k c hk => J_city hX_190T hX_190J (FLs.pa hFL (P4.tr (P4.ud u_173.1 (by decide)) (P4.ud u_183.1 (by decide))) e_97 (Eq.trans (Eq.trans (u_183.2.2 11 (by decide)) (u_173.2.2 11 (by decide))) e_97) (o48_34 b_88 b_89 b_92 b_93 b_100 b_101 b_114 b_115 b_116 hn_85 qh_123 c_124 qh_163 e_165 c_166 qh_171 qh_178 c_179 qh_188 c_189)) (Eq.trans (Eq.trans (u_183.2.2 11 (by decide)) (u_173.2.2 11 (by decide))) e_97) (o48_35 b_88 b_89 b_92 b_93 b_100 b_101 b_114 b_115 b_116 hn_85 qh_123 c_124 qh_163 e_165 c_166 qh_171 qh_178 c_179 qh_188 c_189) (Eq.trans (Eq.trans (aI_of (u_183.1 4 (kd_ne kSM_4 kSM_0 (by decide)))) (aI_of (u_173.1 4 (kd_ne kSM_4 kSM_0 (by decide))))) e_103) (Eq.trans (Eq.trans (aI_of (u_183.1 4 (kd_ne kSM_4 kSM_0 (by decide)))) (aI_of (u_173.1 4 (kd_ne kSM_4 kSM_0 (by decide))))) e_107) (Eq.trans (Eq.trans (aI_of (u_183.1 4 (kd_ne kSM_4 kSM_0 (by decide)))) (aI_of (u_173.1 4 (kd_ne kSM_4 kSM_0 (by decide))))) e_111) (o48_36 b_104 b_105 b_108 b_109 b_112 b_113 b_117 b_118) (o48_37 b_104 b_105 b_108 b_109 b_112 b_113 b_117 b_118) c hk
            refine y_c1 (n := 0) C0 (by decide) dX12_city_142 (fun v_191 e_192 => ?_)
            refine lv_istore_n (lv' := [(2, .int v_191), (0, .ref (ad 0)), (1, .int a1)]) C0.1 C0.2.1 dX12_city_143 rfl hl (by decide) rfl (fun ls hl => ?_)
            have lp_196 : ∀ (n_198 : Nat) (x2_193 : Int32) (H : Heap) (locs : List Loc) (ls : Array Slot) (ws_194 : va_W), 1774 - x2_193.toInt < (n_198 : Int) → 0 ≤ x2_193.toInt → x2_193.toInt ≤ 1774 → (C4 ws_182 ws_194 x2_193.toInt.toNat) → (FT = L24_X12_city n_198 (xso SM ad ws_194) x2_193.toInt) → Wt G SM ad A s H locs ws_194 → Fr SM [1] ws_182 ws_194 → lv_has ls 3 [(2, .int x2_193), (0, .ref (ad 0)), (1, .int a1)] → W p l e (rmd 33 0 0) s m args below meth c H locs 0 0 Q (F0 m 144 ls []) := by
              intro n_198
              induction n_198 with
              | zero => intro x2_193 H locs ls ws_194 hn_199 b_200 b_201 hC4 HE h hF_195 hl; exact ((o48_1 b_200 b_201 hn_199)).elim
              | succ n_198 ih_197 =>
                intro x2_193 H locs ls ws_194 hn_199 b_200 b_201 hC4 HE h hF_195 hl
                obtain ⟨R144, hR144⟩ : ∃ z, z = L24_X12_city n_198 := ⟨_, rfl⟩
                replace HE : FT = g25l_X12_city R144 (xso SM ad ws_194) x2_193.toInt := HE.trans (by rw [hR144]; rfl)
                refine lv_iload_n C0.1 C0.2.1 dX12_city_144 rfl (lv_at hl 0 rfl) ?_
                refine y_c3 (n := 1774) C0 (by decide) dX12_city_145 (fun v_202 e_203 => ?_)
                replace HE : FT = g26b_X12_city R144 (xso SM ad ws_194) x2_193.toInt := HE.trans rfl
                refine y_icmp_ge (tgt := 169) C0 dX12_city_148 (by decide) (fun c_204 => ?_) (fun c_204 => ?_)
                · -- 148
                  replace HE : FT = g27_X12_city (xso SM ad ws_194) := HE.trans (if_neg (o48_3 b_200 b_201 hn_199 e_203 c_204))
                  refine lv_aload_n C0.1 C0.2.1 dX12_city_169 rfl (lv_at hl 1 rfl) ?_
                  refine ng_X12_all C0 h kSM_0 q_1439 dX12_city_170 ?_
                  refine y_c1 (n := 0) C0 (by decide) dX12_city_173 (fun v_205 e_206 => ?_)
                  refine y_iald C0 h kSM_1 rfl (by decide) (o48_11 e_206) (o48_38 e_206) dX12_city_174 (fun v_207 e_208 e_209 e_210 => ?_)
                  have e_211 : aI ws_194 1 0 = v_207 := (congrArg (aI ws_194 1) (ix_c (c := 0) (o48_39 e_206))).symm.trans e_208
                  replace HE : FT = ((xso SM ad ws_194), v_207.toInt) := HE.trans (by rw [(xg1 e_208 : v_207.toInt = (xso SM ad ws_194) 1 1 v_205.toInt.toNat), e_206]; rfl)
                  rw [hQ]
                  exact y_iret C0 h (Fr.tr (Fr.tr (Fr.tr (Fr.tr (Fr.tr (Fr.tr (Fr.tr (Fr.tr (Fr.tr (Fr.tr (Fr.tr (Fr.up u_4.1 kSM_0 (by decide)) (Fr.mono u_16 (by decide))) (Fr.up u_26.1 kSM_0 (by decide))) (Fr.up u_30.1 kSM_0 (by decide))) (Fr.up u_34.1 kSM_0 (by decide))) (Fr.up u_38.1 kSM_0 (by decide))) (Fr.mono u_40 (by decide))) (Fr.mono u_57 (by decide))) (Fr.mono hF_81 (by decide))) (Fr.up u_173.1 kSM_0 (by decide))) (Fr.up u_183.1 kSM_0 (by decide))) (Fr.mono hF_195 (by decide))) ⟨(congrArg Prod.fst (HE.symm.trans hFT)), (congrArg Prod.snd (HE.symm.trans hFT)), (hX_190 _ _ hC4 (o48_5 b_200 b_201 hn_199 e_203 c_204))⟩ dX12_city_175
                · -- 148
                  replace HE : FT = g28_X12_city R144 (xso SM ad ws_194) x2_193.toInt := HE.trans (if_pos (o48_4 b_200 b_201 hn_199 e_203 c_204))
                  refine lv_aload_n C0.1 C0.2.1 dX12_city_151 rfl (lv_at hl 1 rfl) ?_
                  refine ng_X12_all C0 h kSM_0 q_1439 dX12_city_152 ?_
                  refine lv_iload_n C0.1 C0.2.1 dX12_city_155 rfl (lv_at hl 0 rfl) ?_
                  refine lv_aload_n C0.1 C0.2.1 dX12_city_156 rfl (lv_at hl 1 rfl) ?_
                  refine ng_X12_fresh C0 h kSM_0 q_1442 dX12_city_157 ?_
                  refine lv_iload_n C0.1 C0.2.1 dX12_city_160 rfl (lv_at hl 0 rfl) ?_
                  refine y_iald C0 h kSM_4 rfl (by decide) (o48_6 b_200 b_201 hn_199 e_203 c_204) (o48_7 b_200 b_201 hn_199 e_203 c_204) dX12_city_161 (fun v_212 e_213 e_214 e_215 => ?_)
                  have hO_218 := h.2
                  refine y_iast C0 h kSM_1 rfl (by decide) (o48_6 b_200 b_201 hn_199 e_203 c_204) (o48_40 b_200 b_201 hn_199 e_203 c_204) (el_lo (ec_fr (o48_9 b_200 b_201 hn_199 e_203 c_204)) e_214) (el_hi (ec_fr (o48_9 b_200 b_201 hn_199 e_203 c_204)) e_215) dX12_city_162 (fun H locs ws_216 h u_217 => ?_)
                  replace HE : FT = g29w_X12_city R144 (xso SM ad ws_216) x2_193.toInt := HE.trans (by rw [(xso_A (i := 1) hO_218 h.2 kSM_1 rfl u_217), (xg1 e_213 : v_212.toInt = (xso SM ad ws_194) 1 4 x2_193.toInt.toNat)]; rfl)
                  refine y_inc (kp := 0) (n := 1) (fun v_219 => [(2, .int v_219), (0, .ref (ad 0)), (1, .int a1)]) C0 hl rfl (by decide) (by decide) (fun _ => rfl) (o48_13 b_200 b_201 hn_199 e_203 c_204 (le_min x2_193) (le_max x2_193) (le_min v_202) (le_max v_202)) (o48_14 b_200 b_201 hn_199 e_203 c_204 (le_min x2_193) (le_max x2_193) (le_min v_202) (le_max v_202)) dX12_city_163 (fun v_219 ls e_220 hl => ?_)
                  refine lv_goto (tgt := 144) C0.1 C0.2.1 dX12_city_166 (by decide) ?_
                  exact ih_197 v_219 _ _ _ _ (o48_15 b_200 b_201 hn_199 e_203 c_204 e_220) (o48_16 b_200 b_201 hn_199 e_203 c_204 e_220) (o48_17 b_200 b_201 hn_199 e_203 c_204 e_220) ((c4_s (M := [1]) hC4 u_217 hF_195 (by decide) e_213 (o48_18 b_200 b_201 hn_199 e_203 c_204 e_220) (o48_20 b_200 b_201 hn_199 e_203 c_204 e_220) (o48_41 b_200 b_201 hn_199 e_203 c_204 e_220) e_220)) (((show FT = R144 (xso SM ad ws_216) v_219.toInt from HE.trans (by rw [e_220]; rfl)).trans (by rw [hR144]))) h (Fr.tr hF_195 (Fr.up u_217.1 kSM_1 (by decide))) (lv_sub hl [0, 1, 2] rfl)
            exact lp_196 ((1774 - v_191.toInt + 1).toNat) v_191 _ _ _ _ (o48_21 e_192) (o48_11 e_192) (o48_22 e_192) ((c4_0 e_192)) ((show FT = L24_X12_city (Int.toNat (1774 - v_191.toInt + 1)) (xso SM ad ws_182) v_191.toInt from HE.trans (by rw [e_192]; rfl))) h Fr.rf (lv_sub hl [0, 1, 2] rfl)
          · -- 66
            replace HE : FT = g21_X12_city R53 (xso SM ad ws_80) := HE.trans (if_neg (o48_31 b_88 b_89 b_92 b_93 b_100 b_101 b_114 b_115 b_116 hn_85 qh_123 c_124 qh_163 e_165 c_166))
            refine lv_aload_n C0.1 C0.2.1 dX12_city_69 rfl (lv_at hl 0 rfl) ?_
            refine y_cv h (y_rV (As := []) (rest := []) C0 hZ h (c_X12_readLine l G Z ad _ h.2 (by rw [show fI ws_80 0 9 = f_94 from (Eq.trans rfl e_95), show fI ws_80 0 6 = f_86 from (Eq.trans rfl e_87), show fI ws_80 0 7 = f_90 from (Eq.trans rfl e_91)] <;> exact (o48_42 b_88 b_89 b_92 b_93 b_100 b_101 b_114 b_115 b_116 hn_85 qh_123 c_124 qh_163 e_165 c_166)) (by rw [show fI ws_80 0 6 = f_86 from (Eq.trans rfl e_87), show fI ws_80 0 7 = f_90 from (Eq.trans rfl e_91)] <;> exact (o48_43 b_88 b_89 b_92 b_93 b_100 b_101 b_114 b_115 b_116 hn_85 qh_123 c_124 qh_163 e_165 c_166)) (by rw [show fI ws_80 0 11 = f_96 from (Eq.trans rfl e_97), show aI ws_80 4 873 = f_98 from (Eq.trans rfl e_99), show fI ws_80 0 6 = f_86 from (Eq.trans rfl e_87)] <;> exact (o48_44 b_88 b_89 b_92 b_93 b_100 b_101 b_114 b_115 b_116 hn_85 qh_123 c_124 qh_163 e_165 c_166)) (by rw [show aI ws_80 4 1 = f_102 from (Eq.trans rfl e_103), show aI ws_80 4 2 = f_106 from (Eq.trans rfl e_107)] <;> exact (o48_36 b_104 b_105 b_108 b_109 b_112 b_113 b_117 b_118)) (by rw [show aI ws_80 4 3 = f_110 from (Eq.trans rfl e_111), show aI ws_80 4 1 = f_102 from (Eq.trans rfl e_103)] <;> exact (o48_37 b_104 b_105 b_108 b_109 b_112 b_113 b_117 b_118)) hFL) k_X12_readLine q_1606 q_59 q_1604 kSM_0 rfl rfl rfl hl.1 rfl rfl (Nat.le_of_ble_eq_true rfl) dX12_city_70 ⟨Nat.le_of_ble_eq_true rfl, Nat.le_of_ble_eq_true rfl⟩ ⟨Nat.le_of_ble_eq_true rfl, Nat.le_of_ble_eq_true rfl⟩) (fun H locs ws_221 h u_222 p_223 => ?_)
            obtain ⟨e_224, e_225, e_226, e_227, e_228, e_229, e_230, e_231⟩ := p_223
            obtain ⟨f_232, e_233⟩ : ∃ v, fI ws_221 0 9 = v := ⟨_, rfl⟩
            have b_234 := ty_fI (k := 9) h.2 kSM_0 rfl rfl
            rw [e_233] at b_234
            obtain ⟨f_235, e_236⟩ : ∃ v, fI ws_221 0 6 = v := ⟨_, rfl⟩
            have b_237 := ty_fI (k := 6) h.2 kSM_0 rfl rfl
            rw [e_236] at b_237
            obtain ⟨f_238, e_239⟩ : ∃ v, fI ws_221 0 7 = v := ⟨_, rfl⟩
            have b_240 := ty_fI (k := 7) h.2 kSM_0 rfl rfl
            rw [e_239] at b_240
            have e_241 := e_225
            rw [show fI ws_221 0 9 = f_232 from e_233, show fI ws_221 0 6 = f_235 from e_236, show fI ws_221 0 7 = f_238 from e_239] at e_241
            have e_242 := e_226
            rw [show fI ws_221 0 6 = f_235 from (Eq.trans rfl e_236), show fI ws_221 0 7 = f_238 from (Eq.trans rfl e_239)] at e_242
            obtain ⟨f_243, e_244⟩ : ∃ v, fI ws_221 0 11 = v := ⟨_, rfl⟩
            have b_245 := ty_fI (k := 11) h.2 kSM_0 rfl rfl
            rw [e_244] at b_245
            obtain ⟨f_246, e_247⟩ : ∃ v, aI ws_221 4 873 = v := ⟨_, rfl⟩
            have b_248 := ty_aI 873 h.2 kSM_4 rfl (by decide)
            rw [e_247] at b_248
            have e_249 := e_227
            rw [show fI ws_221 0 11 = f_243 from e_244, show fI ws_80 0 11 = f_96 from (Eq.trans rfl e_97), show aI ws_221 4 873 = f_246 from e_247, show aI ws_80 4 873 = f_98 from (Eq.trans rfl e_99), show fI ws_221 0 6 = f_235 from (Eq.trans rfl e_236), show fI ws_80 0 6 = f_86 from (Eq.trans rfl e_87)] at e_249
            have e_250 := e_228
            rw [show fI ws_80 0 6 = f_86 from (Eq.trans rfl e_87), show fI ws_221 0 6 = f_235 from (Eq.trans rfl e_236)] at e_250
            obtain ⟨f_251, e_252⟩ : ∃ v, aI ws_221 4 1 = v := ⟨_, rfl⟩
            have b_253 := ty_aI 1 h.2 kSM_4 rfl (by decide)
            rw [e_252] at b_253
            obtain ⟨f_254, e_255⟩ : ∃ v, aI ws_221 4 2 = v := ⟨_, rfl⟩
            have b_256 := ty_aI 2 h.2 kSM_4 rfl (by decide)
            rw [e_255] at b_256
            have e_257 := e_229
            rw [show aI ws_221 4 1 = f_251 from e_252, show aI ws_221 4 2 = f_254 from e_255] at e_257
            obtain ⟨f_258, e_259⟩ : ∃ v, aI ws_221 4 3 = v := ⟨_, rfl⟩
            have b_260 := ty_aI 3 h.2 kSM_4 rfl (by decide)
            rw [e_259] at b_260
            have e_261 := e_230
            rw [show aI ws_221 4 3 = f_258 from e_259, show aI ws_221 4 1 = f_251 from (Eq.trans rfl e_252)] at e_261
            replace HE : FT = g30c_X12_city R53 (xso SM ad ws_221) := HE.trans (by rw [e_224]; rfl)
            refine lv_aload_n C0.1 C0.2.1 dX12_city_73 rfl (lv_at hl 0 rfl) ?_
            refine y_c2 (n := 30) C0 (by decide) dX12_city_74 (fun v_262 e_263 => ?_)
            refine y_ci h (y_rV (As := [.int v_262]) (rest := []) C0 hZ h (c_X12_eats l G Z ad _ h.2 v_262 (by rw [show fI ws_221 0 9 = f_232 from (Eq.trans rfl e_233), show fI ws_221 0 6 = f_235 from (Eq.trans rfl e_236), show fI ws_221 0 7 = f_238 from (Eq.trans rfl e_239)] <;> exact (o48_45 b_88 b_89 b_92 b_93 b_100 b_101 b_114 b_115 b_116 hn_85 qh_123 c_124 qh_163 e_165 c_166 b_237.1 b_237.2 b_240.1 b_240.2 e_241 e_242 (Int.le_trans (by decide : (0 : Int) ≤ (elR 873).1) b_248.1) (Int.le_trans b_248.2 (by decide : (elR 873).2 ≤ (900 : Int))) e_249 e_250)) (by rw [show fI ws_221 0 6 = f_235 from (Eq.trans rfl e_236), show fI ws_221 0 7 = f_238 from (Eq.trans rfl e_239)] <;> exact (o48_46 b_88 b_89 b_92 b_93 b_100 b_101 b_114 b_115 b_116 hn_85 qh_123 c_124 qh_163 e_165 c_166 b_237.1 b_237.2 b_240.1 b_240.2 e_241 e_242 (Int.le_trans (by decide : (0 : Int) ≤ (elR 873).1) b_248.1) (Int.le_trans b_248.2 (by decide : (elR 873).2 ≤ (900 : Int))) e_249 e_250))) k_X12_eats q_1643 q_67 q_1641 kSM_0 rfl rfl rfl hl.1 rfl rfl (Nat.le_of_ble_eq_true rfl) dX12_city_76 ⟨Nat.le_of_ble_eq_true rfl, Nat.le_of_ble_eq_true rfl⟩ ⟨Nat.le_of_ble_eq_true rfl, Nat.le_of_ble_eq_true rfl⟩) (fun r_267 H locs ws_264 h u_265 p_266 => ?_)
            obtain ⟨e_268, e_269, e_270, e_271, e_272, e_273, e_274⟩ := p_266
            obtain ⟨f_275, e_276⟩ : ∃ v, fI ws_264 0 9 = v := ⟨_, rfl⟩
            have b_277 := ty_fI (k := 9) h.2 kSM_0 rfl rfl
            rw [e_276] at b_277
            obtain ⟨f_278, e_279⟩ : ∃ v, fI ws_264 0 6 = v := ⟨_, rfl⟩
            have b_280 := ty_fI (k := 6) h.2 kSM_0 rfl rfl
            rw [e_279] at b_280
            obtain ⟨f_281, e_282⟩ : ∃ v, fI ws_264 0 7 = v := ⟨_, rfl⟩
            have b_283 := ty_fI (k := 7) h.2 kSM_0 rfl rfl
            rw [e_282] at b_283
            have e_284 := e_272
            rw [show fI ws_264 0 9 = f_275 from e_276, show fI ws_264 0 6 = f_278 from e_279, show fI ws_264 0 7 = f_281 from e_282] at e_284
            have e_285 := e_273
            rw [show fI ws_264 0 6 = f_278 from (Eq.trans rfl e_279), show fI ws_264 0 7 = f_281 from (Eq.trans rfl e_282)] at e_285
            obtain ⟨f_286, e_287⟩ : ∃ v, fI ws_264 0 11 = v := ⟨_, rfl⟩
            have b_288 := ty_fI (k := 11) h.2 kSM_0 rfl rfl
            rw [e_287] at b_288
            have e_289 := e_274
            rw [show fI ws_264 0 6 = f_278 from (Eq.trans rfl e_279), show fI ws_221 0 6 = f_235 from (Eq.trans rfl e_236), show fI ws_264 0 7 = f_281 from (Eq.trans rfl e_282), show fI ws_221 0 7 = f_238 from (Eq.trans rfl e_239), show fI ws_264 0 9 = f_275 from (Eq.trans rfl e_276), show fI ws_221 0 9 = f_232 from (Eq.trans rfl e_233), show fI ws_264 0 11 = f_286 from e_287, show fI ws_221 0 11 = f_243 from (Eq.trans rfl e_244)] at e_289
            replace HE : FT = g31c_X12_city R53 (xso SM ad ws_264) r_267.toInt := HE.trans (by rw [e_268, e_269, e_263]; rfl)
            replace HE : FT = g32b_X12_city R53 (xso SM ad ws_264) r_267.toInt := HE.trans rfl
            refine y_if_ne (tgt := 87) C0 dX12_city_79 (by decide) (fun c_290 => ?_) (fun c_290 => ?_)
            · -- 79
              replace HE : FT = g33_X12_city R53 (xso SM ad ws_264) := HE.trans (if_neg c_290)
              refine lv_aload_n C0.1 C0.2.1 dX12_city_87 rfl (lv_at hl 0 rfl) ?_
              refine ng_X12_fresh C0 h kSM_0 q_1442 dX12_city_88 ?_
              refine y_c1 (n := 0) C0 (by decide) dX12_city_91 (fun v_291 e_292 => ?_)
              refine lv_dup2_11 C0.1 C0.2.1 dX12_city_92 rfl rfl ?_
              refine y_iald C0 h kSM_4 rfl (by decide) (o48_11 e_292) (o48_47 e_292) dX12_city_93 (fun v_293 e_294 e_295 e_296 => ?_)
              have e_297 : aI ws_264 4 0 = v_293 := (congrArg (aI ws_264 4) (ix_c (c := 0) (o48_39 e_292))).symm.trans e_294
              refine y_c1 (n := 1) C0 (by decide) dX12_city_94 (fun v_298 e_299 => ?_)
              refine xr_iadd C0 dX12_city_95 (fun v_300 e_301 => ?_)
              have hO_304 := h.2
              have f_305 := o48_48 v_291.toInt.toNat (o48_49 e_292) (o48_50 e_292)
              refine y_iast C0 h kSM_4 rfl (by decide) (o48_11 e_292) (o48_47 e_292) (Int.le_trans f_305.1 (le_min v_300)) (Int.le_trans (le_max v_300) f_305.2) dX12_city_96 (fun H locs ws_302 h u_303 => ?_)
              have e_306 : aI ws_302 4 0 = v_300 := (congrArg (aI ws_302 4) (ix_c (c := 0) (o48_39 e_292))).symm.trans u_303.2.1
              replace HE : FT = g35w_X12_city R53 (xso SM ad ws_302) := HE.trans (by rw [(xso_A (i := 4) hO_304 h.2 kSM_4 rfl u_303), e_301, e_299, (xg1 e_294 : v_293.toInt = (xso SM ad ws_264) 1 4 v_291.toInt.toNat), e_292]; rfl)
              refine lv_goto (tgt := 53) C0.1 C0.2.1 dX12_city_97 (by decide) ?_
              exact ih_83 f_278 f_281 f_275 f_286 f_246 f_251 f_254 f_258 _ _ _ _ (o48_55 b_88 b_89 b_92 b_93 b_100 b_101 b_114 b_115 b_116 hn_85 qh_123 c_124 qh_163 e_165 c_166 b_237.1 b_237.2 b_240.1 b_240.2 e_241 e_242 (Int.le_trans (by decide : (0 : Int) ≤ (elR 873).1) b_248.1) (Int.le_trans b_248.2 (by decide : (elR 873).2 ≤ (900 : Int))) e_249 e_250 e_263 e_270 e_271 b_280.1 b_280.2 b_283.1 b_283.2 e_284 e_285 e_289 c_290) (o48_56 b_88 b_89 b_92 b_93 b_100 b_101 b_114 b_115 b_116 hn_85 qh_123 c_124 qh_163 e_165 c_166 b_237.1 b_237.2 b_240.1 b_240.2 e_241 e_242 (Int.le_trans (by decide : (0 : Int) ≤ (elR 873).1) b_248.1) (Int.le_trans b_248.2 (by decide : (elR 873).2 ≤ (900 : Int))) e_249 e_250 e_263 e_270 e_271 b_280.1 b_280.2 b_283.1 b_283.2 e_284 e_285 e_289 c_290) (o48_57 b_88 b_89 b_92 b_93 b_100 b_101 b_114 b_115 b_116 hn_85 qh_123 c_124 qh_163 e_165 c_166 b_237.1 b_237.2 b_240.1 b_240.2 e_241 e_242 (Int.le_trans (by decide : (0 : Int) ≤ (elR 873).1) b_248.1) (Int.le_trans b_248.2 (by decide : (elR 873).2 ≤ (900 : Int))) e_249 e_250 e_263 e_270 e_271 b_280.1 b_280.2 b_283.1 b_283.2 e_284 e_285 e_289 c_290) (o48_58 b_88 b_89 b_92 b_93 b_100 b_101 b_114 b_115 b_116 hn_85 qh_123 c_124 qh_163 e_165 c_166 b_237.1 b_237.2 b_240.1 b_240.2 e_241 e_242 (Int.le_trans (by decide : (0 : Int) ≤ (elR 873).1) b_248.1) (Int.le_trans b_248.2 (by decide : (elR 873).2 ≤ (900 : Int))) e_249 e_250 e_263 e_270 e_271 b_280.1 b_280.2 b_283.1 b_283.2 e_284 e_285 e_289 c_290) (o48_59 b_88 b_89 b_92 b_93 b_100 b_101 b_114 b_115 b_116 hn_85 qh_123 c_124 qh_163 e_165 c_166 b_237.1 b_237.2 b_240.1 b_240.2 e_241 e_242 (Int.le_trans (by decide : (0 : Int) ≤ (elR 873).1) b_248.1) (Int.le_trans b_248.2 (by decide : (elR 873).2 ≤ (900 : Int))) e_249 e_250 e_263 e_270 e_271 b_280.1 b_280.2 b_283.1 b_283.2 e_284 e_285 e_289 c_290) (o48_60 b_88 b_89 b_92 b_93 b_100 b_101 b_114 b_115 b_116 hn_85 qh_123 c_124 qh_163 e_165 c_166 b_237.1 b_237.2 b_240.1 b_240.2 e_241 e_242 (Int.le_trans (by decide : (0 : Int) ≤ (elR 873).1) b_248.1) (Int.le_trans b_248.2 (by decide : (elR 873).2 ≤ (900 : Int))) e_249 e_250 e_263 e_270 e_271 b_280.1 b_280.2 b_283.1 b_283.2 e_284 e_285 e_289 c_290) (o48_61 b_88 b_89 b_92 b_93 b_100 b_101 b_114 b_115 b_116 hn_85 qh_123 c_124 qh_163 e_165 c_166 b_237.1 b_237.2 b_240.1 b_240.2 e_241 e_242 (Int.le_trans (by decide : (0 : Int) ≤ (elR 873).1) b_248.1) (Int.le_trans b_248.2 (by decide : (elR 873).2 ≤ (900 : Int))) e_249 e_250 e_263 e_270 e_271 b_280.1 b_280.2 b_283.1 b_283.2 e_284 e_285 e_289 c_290) (o48_62 (Int.le_trans (by decide : (0 : Int) ≤ (elR 1).1) b_253.1) (Int.le_trans b_253.2 (by decide : (elR 1).2 ≤ (5 : Int))) (Int.le_trans (by decide : (0 : Int) ≤ (elR 2).1) b_256.1) (Int.le_trans b_256.2 (by decide : (elR 2).2 ≤ (5 : Int))) e_257 (Int.le_trans (by decide : (0 : Int) ≤ (elR 3).1) b_260.1) (Int.le_trans b_260.2 (by decide : (elR 3).2 ≤ (5 : Int))) e_261) (o48_63 (Int.le_trans (by decide : (0 : Int) ≤ (elR 1).1) b_253.1) (Int.le_trans b_253.2 (by decide : (elR 1).2 ≤ (5 : Int))) (Int.le_trans (by decide : (0 : Int) ≤ (elR 2).1) b_256.1) (Int.le_trans b_256.2 (by decide : (elR 2).2 ≤ (5 : Int))) e_257 (Int.le_trans (by decide : (0 : Int) ≤ (elR 3).1) b_260.1) (Int.le_trans b_260.2 (by decide : (elR 3).2 ≤ (5 : Int))) e_261) (o48_64 (Int.le_trans (by decide : (0 : Int) ≤ (elR 1).1) b_253.1) (Int.le_trans b_253.2 (by decide : (elR 1).2 ≤ (5 : Int))) (Int.le_trans (by decide : (0 : Int) ≤ (elR 2).1) b_256.1) (Int.le_trans b_256.2 (by decide : (elR 2).2 ≤ (5 : Int))) e_257 (Int.le_trans (by decide : (0 : Int) ≤ (elR 3).1) b_260.1) (Int.le_trans b_260.2 (by decide : (elR 3).2 ≤ (5 : Int))) e_261) (o48_65 (Int.le_trans (by decide : (0 : Int) ≤ (elR 1).1) b_253.1) (Int.le_trans b_253.2 (by decide : (elR 1).2 ≤ (5 : Int))) (Int.le_trans (by decide : (0 : Int) ≤ (elR 2).1) b_256.1) (Int.le_trans b_256.2 (by decide : (elR 2).2 ≤ (5 : Int))) e_257 (Int.le_trans (by decide : (0 : Int) ≤ (elR 3).1) b_260.1) (Int.le_trans b_260.2 (by decide : (elR 3).2 ≤ (5 : Int))) e_261) (o48_66 (Int.le_trans (by decide : (0 : Int) ≤ (elR 1).1) b_253.1) (Int.le_trans b_253.2 (by decide : (elR 1).2 ≤ (5 : Int))) (Int.le_trans (by decide : (0 : Int) ≤ (elR 2).1) b_256.1) (Int.le_trans b_256.2 (by decide : (elR 2).2 ≤ (5 : Int))) e_257 (Int.le_trans (by decide : (0 : Int) ≤ (elR 3).1) b_260.1) (Int.le_trans b_260.2 (by decide : (elR 3).2 ≤ (5 : Int))) e_261) (o48_67 (Int.le_trans (by decide : (0 : Int) ≤ (elR 1).1) b_253.1) (Int.le_trans b_253.2 (by decide : (elR 1).2 ≤ (5 : Int))) (Int.le_trans (by decide : (0 : Int) ≤ (elR 2).1) b_256.1) (Int.le_trans b_256.2 (by decide : (elR 2).2 ≤ (5 : Int))) e_257 (Int.le_trans (by decide : (0 : Int) ≤ (elR 3).1) b_260.1) (Int.le_trans b_260.2 (by decide : (elR 3).2 ≤ (5 : Int))) e_261) (o48_68 b_88 b_89 b_92 b_93 b_100 b_101 b_114 b_115 b_116 hn_85 qh_123 c_124 qh_163 e_165 c_166 b_237.1 b_237.2 b_240.1 b_240.2 e_241 e_242 (Int.le_trans (by decide : (0 : Int) ≤ (elR 873).1) b_248.1) (Int.le_trans b_248.2 (by decide : (elR 873).2 ≤ (900 : Int))) e_249 e_250 e_263 e_270 e_271 b_280.1 b_280.2 b_283.1 b_283.2 e_284 e_285 e_289 c_290) (o48_69 b_88 b_89 b_92 b_93 b_100 b_101 b_114 b_115 b_116 hn_85 qh_123 c_124 qh_163 e_165 c_166 b_237.1 b_237.2 b_240.1 b_240.2 e_241 e_242 (Int.le_trans (by decide : (0 : Int) ≤ (elR 873).1) b_248.1) (Int.le_trans b_248.2 (by decide : (elR 873).2 ≤ (900 : Int))) e_249 e_250 e_263 e_270 e_271 b_280.1 b_280.2 b_283.1 b_283.2 e_284 e_285 e_289 c_290) (o48_70 b_88 b_89 b_92 b_93 b_100 b_101 b_114 b_115 b_116 hn_85 qh_123 c_124 qh_163 e_165 c_166 b_237.1 b_237.2 b_240.1 b_240.2 e_241 e_242 (Int.le_trans (by decide : (0 : Int) ≤ (elR 873).1) b_248.1) (Int.le_trans b_248.2 (by decide : (elR 873).2 ≤ (900 : Int))) e_249 e_250 e_263 e_270 e_271 b_280.1 b_280.2 b_283.1 b_283.2 e_284 e_285 e_289 c_290) (o48_71 (Int.le_trans (by decide : (0 : Int) ≤ (elR 1).1) b_253.1) (Int.le_trans b_253.2 (by decide : (elR 1).2 ≤ (5 : Int))) (Int.le_trans (by decide : (0 : Int) ≤ (elR 2).1) b_256.1) (Int.le_trans b_256.2 (by decide : (elR 2).2 ≤ (5 : Int))) e_257 (Int.le_trans (by decide : (0 : Int) ≤ (elR 3).1) b_260.1) (Int.le_trans b_260.2 (by decide : (elR 3).2 ≤ (5 : Int))) e_261) (o48_72 (Int.le_trans (by decide : (0 : Int) ≤ (elR 1).1) b_253.1) (Int.le_trans b_253.2 (by decide : (elR 1).2 ≤ (5 : Int))) (Int.le_trans (by decide : (0 : Int) ≤ (elR 2).1) b_256.1) (Int.le_trans b_256.2 (by decide : (elR 2).2 ≤ (5 : Int))) e_257 (Int.le_trans (by decide : (0 : Int) ≤ (elR 3).1) b_260.1) (Int.le_trans b_260.2 (by decide : (elR 3).2 ≤ (5 : Int))) e_261) ((FLs.pa e_231 (P4.tr (P4.fr u_265 (by decide)) (P4.st u_303 (o48_73 e_292))) (Eq.trans rfl e_244) (Eq.trans (fI_of (u_303.1 0 (kd_ne kSM_0 kSM_4 (by decide)))) e_287) (o48_74 b_88 b_89 b_92 b_93 b_100 b_101 b_114 b_115 b_116 hn_85 qh_123 c_124 qh_163 e_165 c_166 b_237.1 b_237.2 b_240.1 b_240.2 e_241 e_242 (Int.le_trans (by decide : (0 : Int) ≤ (elR 873).1) b_248.1) (Int.le_trans b_248.2 (by decide : (elR 873).2 ≤ (900 : Int))) e_249 e_250 e_263 e_270 e_271 b_280.1 b_280.2 b_283.1 b_283.2 e_284 e_285 e_289 c_290))) (((show FT = R53 (xso SM ad ws_302) from HE.trans rfl).trans (by rw [hR53]))) (Eq.trans (fI_of (u_303.1 0 (kd_ne kSM_0 kSM_4 (by decide)))) e_279) (Eq.trans (fI_of (u_303.1 0 (kd_ne kSM_0 kSM_4 (by decide)))) e_282) (Eq.trans (fI_of (u_303.1 0 (kd_ne kSM_0 kSM_4 (by decide)))) e_276) (Eq.trans (fI_of (u_303.1 0 (kd_ne kSM_0 kSM_4 (by decide)))) e_287) (Eq.trans (Eq.trans (u_303.2.2 873 (o48_51 e_292)) (Fr.aI u_265 kSM_4 (by decide))) e_247) (Eq.trans (Eq.trans (u_303.2.2 1 (o48_52 e_292)) (Fr.aI u_265 kSM_4 (by decide))) e_252) (Eq.trans (Eq.trans (u_303.2.2 2 (o48_53 e_292)) (Fr.aI u_265 kSM_4 (by decide))) e_255) (Eq.trans (Eq.trans (u_303.2.2 3 (o48_54 e_292)) (Fr.aI u_265 kSM_4 (by decide))) e_259) h (Fr.tr (Fr.tr (Fr.tr hF_81 u_222) (Fr.mono u_265 (by decide))) (Fr.up u_303.1 kSM_4 (by decide))) (lv_sub hl [0, 1] rfl)
            · -- 79
              replace HE : FT = g34_X12_city R53 (xso SM ad ws_264) := HE.trans (if_pos c_290)
              refine lv_aload_n C0.1 C0.2.1 dX12_city_82 rfl (lv_at hl 0 rfl) ?_
              refine y_c1 (n := 2) C0 (by decide) dX12_city_83 (fun v_307 e_308 => ?_)
              refine y_cv h (y_rV (As := [.int v_307]) (rest := []) C0 hZ h (c_X12_fails l G Z ad _ h.2 v_307 (o48_75 e_308) (o48_76 e_308)) k_X12_fails q_1622 q_63 q_1620 kSM_0 rfl rfl rfl hl.1 rfl rfl (Nat.le_of_ble_eq_true rfl) dX12_city_84 ⟨Nat.le_of_ble_eq_true rfl, Nat.le_of_ble_eq_true rfl⟩ ⟨Nat.le_of_ble_eq_true rfl, Nat.le_of_ble_eq_true rfl⟩) (fun H locs ws_309 h u_310 p_311 => ?_)
              obtain ⟨e_312, e_313, e_314, e_315, e_316⟩ := p_311
              obtain ⟨f_317, e_318⟩ : ∃ v, fI ws_309 0 6 = v := ⟨_, rfl⟩
              have b_319 := ty_fI (k := 6) h.2 kSM_0 rfl rfl
              rw [e_318] at b_319
              have e_320 := e_313
              rw [show fI ws_309 0 6 = f_317 from e_318, show fI ws_264 0 6 = f_278 from (Eq.trans rfl e_279)] at e_320
              obtain ⟨f_321, e_322⟩ : ∃ v, fI ws_309 0 7 = v := ⟨_, rfl⟩
              have b_323 := ty_fI (k := 7) h.2 kSM_0 rfl rfl
              rw [e_322] at b_323
              have e_324 := e_314
              rw [show fI ws_309 0 7 = f_321 from e_322, show fI ws_264 0 7 = f_281 from (Eq.trans rfl e_282)] at e_324
              obtain ⟨f_325, e_326⟩ : ∃ v, fI ws_309 0 9 = v := ⟨_, rfl⟩
              have b_327 := ty_fI (k := 9) h.2 kSM_0 rfl rfl
              rw [e_326] at b_327
              have e_328 := e_315
              rw [show fI ws_309 0 9 = f_325 from e_326, show fI ws_264 0 9 = f_275 from (Eq.trans rfl e_276)] at e_328
              obtain ⟨f_329, e_330⟩ : ∃ v, fI ws_309 0 11 = v := ⟨_, rfl⟩
              have b_331 := ty_fI (k := 11) h.2 kSM_0 rfl rfl
              rw [e_330] at b_331
              have e_332 := e_316
              rw [show fI ws_309 0 11 = f_329 from e_330] at e_332
              replace HE : FT = g36c_X12_city R53 (xso SM ad ws_309) := HE.trans (by rw [e_312, e_308]; rfl)
              refine lv_aload_n C0.1 C0.2.1 dX12_city_87 rfl (lv_at hl 0 rfl) ?_
              refine ng_X12_fresh C0 h kSM_0 q_1442 dX12_city_88 ?_
              refine y_c1 (n := 0) C0 (by decide) dX12_city_91 (fun v_333 e_334 => ?_)
              refine lv_dup2_11 C0.1 C0.2.1 dX12_city_92 rfl rfl ?_
              refine y_iald C0 h kSM_4 rfl (by decide) (o48_11 e_334) (o48_47 e_334) dX12_city_93 (fun v_335 e_336 e_337 e_338 => ?_)
              have e_339 : aI ws_309 4 0 = v_335 := (congrArg (aI ws_309 4) (ix_c (c := 0) (o48_39 e_334))).symm.trans e_336
              refine y_c1 (n := 1) C0 (by decide) dX12_city_94 (fun v_340 e_341 => ?_)
              refine xr_iadd C0 dX12_city_95 (fun v_342 e_343 => ?_)
              have hO_346 := h.2
              have f_347 := o48_48 v_333.toInt.toNat (o48_49 e_334) (o48_50 e_334)
              refine y_iast C0 h kSM_4 rfl (by decide) (o48_11 e_334) (o48_47 e_334) (Int.le_trans f_347.1 (le_min v_342)) (Int.le_trans (le_max v_342) f_347.2) dX12_city_96 (fun H locs ws_344 h u_345 => ?_)
              have e_348 : aI ws_344 4 0 = v_342 := (congrArg (aI ws_344 4) (ix_c (c := 0) (o48_39 e_334))).symm.trans u_345.2.1
              replace HE : FT = g37w_X12_city R53 (xso SM ad ws_344) := HE.trans (by rw [(xso_A (i := 4) hO_346 h.2 kSM_4 rfl u_345), e_343, e_341, (xg1 e_336 : v_335.toInt = (xso SM ad ws_309) 1 4 v_333.toInt.toNat), e_334]; rfl)
              refine lv_goto (tgt := 53) C0.1 C0.2.1 dX12_city_97 (by decide) ?_
              exact ih_83 f_317 f_321 f_325 f_329 f_246 f_251 f_254 f_258 _ _ _ _ (o48_77 b_88 b_89 b_92 b_93 b_100 b_101 b_114 b_115 b_116 hn_85 qh_123 c_124 qh_163 e_165 c_166 b_237.1 b_237.2 b_240.1 b_240.2 e_241 e_242 (Int.le_trans (by decide : (0 : Int) ≤ (elR 873).1) b_248.1) (Int.le_trans b_248.2 (by decide : (elR 873).2 ≤ (900 : Int))) e_249 e_250 e_263 e_270 e_271 b_280.1 b_280.2 b_283.1 b_283.2 e_284 e_285 e_289 c_290 b_319.1 b_319.2 e_320 b_323.1 b_323.2 e_324 e_328 e_332) (o48_78 b_88 b_89 b_92 b_93 b_100 b_101 b_114 b_115 b_116 hn_85 qh_123 c_124 qh_163 e_165 c_166 b_237.1 b_237.2 b_240.1 b_240.2 e_241 e_242 (Int.le_trans (by decide : (0 : Int) ≤ (elR 873).1) b_248.1) (Int.le_trans b_248.2 (by decide : (elR 873).2 ≤ (900 : Int))) e_249 e_250 e_263 e_270 e_271 b_280.1 b_280.2 b_283.1 b_283.2 e_284 e_285 e_289 c_290 b_319.1 b_319.2 e_320 b_323.1 b_323.2 e_324 e_328) (o48_79 b_88 b_89 b_92 b_93 b_100 b_101 b_114 b_115 b_116 hn_85 qh_123 c_124 qh_163 e_165 c_166 b_237.1 b_237.2 b_240.1 b_240.2 e_241 e_242 (Int.le_trans (by decide : (0 : Int) ≤ (elR 873).1) b_248.1) (Int.le_trans b_248.2 (by decide : (elR 873).2 ≤ (900 : Int))) e_249 e_250 e_263 e_270 e_271 b_280.1 b_280.2 b_283.1 b_283.2 e_284 e_285 e_289 c_290 b_319.1 b_319.2 e_320 b_323.1 b_323.2 e_324 e_328) (o48_80 b_88 b_89 b_92 b_93 b_100 b_101 b_114 b_115 b_116 hn_85 qh_123 c_124 qh_163 e_165 c_166 b_237.1 b_237.2 b_240.1 b_240.2 e_241 e_242 (Int.le_trans (by decide : (0 : Int) ≤ (elR 873).1) b_248.1) (Int.le_trans b_248.2 (by decide : (elR 873).2 ≤ (900 : Int))) e_249 e_250 e_263 e_270 e_271 b_280.1 b_280.2 b_283.1 b_283.2 e_284 e_285 e_289 c_290 b_319.1 b_319.2 e_320 b_323.1 b_323.2 e_324 e_328) (o48_81 b_88 b_89 b_92 b_93 b_100 b_101 b_114 b_115 b_116 hn_85 qh_123 c_124 qh_163 e_165 c_166 b_237.1 b_237.2 b_240.1 b_240.2 e_241 e_242 (Int.le_trans (by decide : (0 : Int) ≤ (elR 873).1) b_248.1) (Int.le_trans b_248.2 (by decide : (elR 873).2 ≤ (900 : Int))) e_249 e_250 e_263 e_270 e_271 b_280.1 b_280.2 b_283.1 b_283.2 e_284 e_285 e_289 c_290 b_319.1 b_319.2 e_320 b_323.1 b_323.2 e_324 e_328) (o48_82 b_88 b_89 b_92 b_93 b_100 b_101 b_114 b_115 b_116 hn_85 qh_123 c_124 qh_163 e_165 c_166 b_237.1 b_237.2 b_240.1 b_240.2 e_241 e_242 (Int.le_trans (by decide : (0 : Int) ≤ (elR 873).1) b_248.1) (Int.le_trans b_248.2 (by decide : (elR 873).2 ≤ (900 : Int))) e_249 e_250 e_263 e_270 e_271 b_280.1 b_280.2 b_283.1 b_283.2 e_284 e_285 e_289 c_290 b_319.1 b_319.2 e_320 b_323.1 b_323.2 e_324 e_328) (o48_83 b_88 b_89 b_92 b_93 b_100 b_101 b_114 b_115 b_116 hn_85 qh_123 c_124 qh_163 e_165 c_166 b_237.1 b_237.2 b_240.1 b_240.2 e_241 e_242 (Int.le_trans (by decide : (0 : Int) ≤ (elR 873).1) b_248.1) (Int.le_trans b_248.2 (by decide : (elR 873).2 ≤ (900 : Int))) e_249 e_250 e_263 e_270 e_271 b_280.1 b_280.2 b_283.1 b_283.2 e_284 e_285 e_289 c_290 b_319.1 b_319.2 e_320 b_323.1 b_323.2 e_324 e_328) (o48_62 (Int.le_trans (by decide : (0 : Int) ≤ (elR 1).1) b_253.1) (Int.le_trans b_253.2 (by decide : (elR 1).2 ≤ (5 : Int))) (Int.le_trans (by decide : (0 : Int) ≤ (elR 2).1) b_256.1) (Int.le_trans b_256.2 (by decide : (elR 2).2 ≤ (5 : Int))) e_257 (Int.le_trans (by decide : (0 : Int) ≤ (elR 3).1) b_260.1) (Int.le_trans b_260.2 (by decide : (elR 3).2 ≤ (5 : Int))) e_261) (o48_63 (Int.le_trans (by decide : (0 : Int) ≤ (elR 1).1) b_253.1) (Int.le_trans b_253.2 (by decide : (elR 1).2 ≤ (5 : Int))) (Int.le_trans (by decide : (0 : Int) ≤ (elR 2).1) b_256.1) (Int.le_trans b_256.2 (by decide : (elR 2).2 ≤ (5 : Int))) e_257 (Int.le_trans (by decide : (0 : Int) ≤ (elR 3).1) b_260.1) (Int.le_trans b_260.2 (by decide : (elR 3).2 ≤ (5 : Int))) e_261) (o48_64 (Int.le_trans (by decide : (0 : Int) ≤ (elR 1).1) b_253.1) (Int.le_trans b_253.2 (by decide : (elR 1).2 ≤ (5 : Int))) (Int.le_trans (by decide : (0 : Int) ≤ (elR 2).1) b_256.1) (Int.le_trans b_256.2 (by decide : (elR 2).2 ≤ (5 : Int))) e_257 (Int.le_trans (by decide : (0 : Int) ≤ (elR 3).1) b_260.1) (Int.le_trans b_260.2 (by decide : (elR 3).2 ≤ (5 : Int))) e_261) (o48_65 (Int.le_trans (by decide : (0 : Int) ≤ (elR 1).1) b_253.1) (Int.le_trans b_253.2 (by decide : (elR 1).2 ≤ (5 : Int))) (Int.le_trans (by decide : (0 : Int) ≤ (elR 2).1) b_256.1) (Int.le_trans b_256.2 (by decide : (elR 2).2 ≤ (5 : Int))) e_257 (Int.le_trans (by decide : (0 : Int) ≤ (elR 3).1) b_260.1) (Int.le_trans b_260.2 (by decide : (elR 3).2 ≤ (5 : Int))) e_261) (o48_66 (Int.le_trans (by decide : (0 : Int) ≤ (elR 1).1) b_253.1) (Int.le_trans b_253.2 (by decide : (elR 1).2 ≤ (5 : Int))) (Int.le_trans (by decide : (0 : Int) ≤ (elR 2).1) b_256.1) (Int.le_trans b_256.2 (by decide : (elR 2).2 ≤ (5 : Int))) e_257 (Int.le_trans (by decide : (0 : Int) ≤ (elR 3).1) b_260.1) (Int.le_trans b_260.2 (by decide : (elR 3).2 ≤ (5 : Int))) e_261) (o48_67 (Int.le_trans (by decide : (0 : Int) ≤ (elR 1).1) b_253.1) (Int.le_trans b_253.2 (by decide : (elR 1).2 ≤ (5 : Int))) (Int.le_trans (by decide : (0 : Int) ≤ (elR 2).1) b_256.1) (Int.le_trans b_256.2 (by decide : (elR 2).2 ≤ (5 : Int))) e_257 (Int.le_trans (by decide : (0 : Int) ≤ (elR 3).1) b_260.1) (Int.le_trans b_260.2 (by decide : (elR 3).2 ≤ (5 : Int))) e_261) (o48_84 b_88 b_89 b_92 b_93 b_100 b_101 b_114 b_115 b_116 hn_85 qh_123 c_124 qh_163 e_165 c_166 b_237.1 b_237.2 b_240.1 b_240.2 e_241 e_242 (Int.le_trans (by decide : (0 : Int) ≤ (elR 873).1) b_248.1) (Int.le_trans b_248.2 (by decide : (elR 873).2 ≤ (900 : Int))) e_249 e_250 e_263 e_270 e_271 b_280.1 b_280.2 b_283.1 b_283.2 e_284 e_285 e_289 c_290 b_319.1 b_319.2 e_320 b_323.1 b_323.2 e_324 e_328) (o48_85 b_88 b_89 b_92 b_93 b_100 b_101 b_114 b_115 b_116 hn_85 qh_123 c_124 qh_163 e_165 c_166 b_237.1 b_237.2 b_240.1 b_240.2 e_241 e_242 (Int.le_trans (by decide : (0 : Int) ≤ (elR 873).1) b_248.1) (Int.le_trans b_248.2 (by decide : (elR 873).2 ≤ (900 : Int))) e_249 e_250 e_263 e_270 e_271 b_280.1 b_280.2 b_283.1 b_283.2 e_284 e_285 e_289 c_290 b_319.1 b_319.2 e_320 b_323.1 b_323.2 e_324 e_328) (o48_86 b_88 b_89 b_92 b_93 b_100 b_101 b_114 b_115 b_116 hn_85 qh_123 c_124 qh_163 e_165 c_166 b_237.1 b_237.2 b_240.1 b_240.2 e_241 e_242 (Int.le_trans (by decide : (0 : Int) ≤ (elR 873).1) b_248.1) (Int.le_trans b_248.2 (by decide : (elR 873).2 ≤ (900 : Int))) e_249 e_250 e_263 e_270 e_271 b_280.1 b_280.2 b_283.1 b_283.2 e_284 e_285 e_289 c_290 b_319.1 b_319.2 e_320 b_323.1 b_323.2 e_324 e_328 e_332) (o48_71 (Int.le_trans (by decide : (0 : Int) ≤ (elR 1).1) b_253.1) (Int.le_trans b_253.2 (by decide : (elR 1).2 ≤ (5 : Int))) (Int.le_trans (by decide : (0 : Int) ≤ (elR 2).1) b_256.1) (Int.le_trans b_256.2 (by decide : (elR 2).2 ≤ (5 : Int))) e_257 (Int.le_trans (by decide : (0 : Int) ≤ (elR 3).1) b_260.1) (Int.le_trans b_260.2 (by decide : (elR 3).2 ≤ (5 : Int))) e_261) (o48_72 (Int.le_trans (by decide : (0 : Int) ≤ (elR 1).1) b_253.1) (Int.le_trans b_253.2 (by decide : (elR 1).2 ≤ (5 : Int))) (Int.le_trans (by decide : (0 : Int) ≤ (elR 2).1) b_256.1) (Int.le_trans b_256.2 (by decide : (elR 2).2 ≤ (5 : Int))) e_257 (Int.le_trans (by decide : (0 : Int) ≤ (elR 3).1) b_260.1) (Int.le_trans b_260.2 (by decide : (elR 3).2 ≤ (5 : Int))) e_261) ((FLs.pa e_231 (P4.tr (P4.tr (P4.fr u_265 (by decide)) (P4.fr u_310 (by decide))) (P4.st u_345 (o48_73 e_334))) (Eq.trans rfl e_244) (Eq.trans (fI_of (u_345.1 0 (kd_ne kSM_0 kSM_4 (by decide)))) e_330) (o48_87 b_88 b_89 b_92 b_93 b_100 b_101 b_114 b_115 b_116 hn_85 qh_123 c_124 qh_163 e_165 c_166 b_237.1 b_237.2 b_240.1 b_240.2 e_241 e_242 (Int.le_trans (by decide : (0 : Int) ≤ (elR 873).1) b_248.1) (Int.le_trans b_248.2 (by decide : (elR 873).2 ≤ (900 : Int))) e_249 e_250 e_263 e_270 e_271 b_280.1 b_280.2 b_283.1 b_283.2 e_284 e_285 e_289 c_290 b_319.1 b_319.2 e_320 b_323.1 b_323.2 e_324 e_328 e_332))) (((show FT = R53 (xso SM ad ws_344) from HE.trans rfl).trans (by rw [hR53]))) (Eq.trans (fI_of (u_345.1 0 (kd_ne kSM_0 kSM_4 (by decide)))) e_318) (Eq.trans (fI_of (u_345.1 0 (kd_ne kSM_0 kSM_4 (by decide)))) e_322) (Eq.trans (fI_of (u_345.1 0 (kd_ne kSM_0 kSM_4 (by decide)))) e_326) (Eq.trans (fI_of (u_345.1 0 (kd_ne kSM_0 kSM_4 (by decide)))) e_330) (Eq.trans (Eq.trans (u_345.2.2 873 (o48_51 e_334)) (Eq.trans (Fr.aI u_310 kSM_4 (by decide)) (Fr.aI u_265 kSM_4 (by decide)))) e_247) (Eq.trans (Eq.trans (u_345.2.2 1 (o48_52 e_334)) (Eq.trans (Fr.aI u_310 kSM_4 (by decide)) (Fr.aI u_265 kSM_4 (by decide)))) e_252) (Eq.trans (Eq.trans (u_345.2.2 2 (o48_53 e_334)) (Eq.trans (Fr.aI u_310 kSM_4 (by decide)) (Fr.aI u_265 kSM_4 (by decide)))) e_255) (Eq.trans (Eq.trans (u_345.2.2 3 (o48_54 e_334)) (Eq.trans (Fr.aI u_310 kSM_4 (by decide)) (Fr.aI u_265 kSM_4 (by decide)))) e_259) h (Fr.tr (Fr.tr (Fr.tr (Fr.tr hF_81 u_222) (Fr.mono u_265 (by decide))) (Fr.mono u_310 (by decide))) (Fr.up u_345.1 kSM_4 (by decide))) (lv_sub hl [0, 1] rfl)
    exact lp_82 ((2 * (900 - f_64.toInt) + 1 - min 1 (max f_75.toInt (-f_75.toInt)) + 1).toNat) f_64 f_71 f_68 f_75 f_53 f_44 f_47 f_50 _ _ _ _ (o48_88 e_32 e_36 b_66.1 b_66.2 e_67 b_73.1 b_73.2 e_74 e_78 e_79) (o48_89 e_32 b_66.1 b_66.2 e_67 b_73.1 b_73.2 e_74 e_79) (o48_90 e_32 b_66.1 b_66.2 e_67 b_73.1 b_73.2 e_74 e_79) (o48_91 e_32 b_66.1 b_66.2 e_67 b_73.1 b_73.2 e_74 e_79) (o48_92 e_32 b_66.1 b_66.2 e_67 b_73.1 b_73.2 e_74 e_79) (o48_93 (Int.le_trans (by decide : (0 : Int) ≤ (elR 873).1) b_55.1) (Int.le_trans b_55.2 (by decide : (elR 873).2 ≤ (900 : Int))) (zf_0 e_43 e_54 (by decide))) (o48_94 (Int.le_trans (by decide : (0 : Int) ≤ (elR 873).1) b_55.1) (Int.le_trans b_55.2 (by decide : (elR 873).2 ≤ (900 : Int))) (zf_0 e_43 e_54 (by decide))) (o48_95 (Int.le_trans (by decide : (0 : Int) ≤ (elR 1).1) b_46.1) (Int.le_trans b_46.2 (by decide : (elR 1).2 ≤ (5 : Int))) (zf_0 e_43 e_45 (by decide))) (o48_96 (Int.le_trans (by decide : (0 : Int) ≤ (elR 1).1) b_46.1) (Int.le_trans b_46.2 (by decide : (elR 1).2 ≤ (5 : Int))) (zf_0 e_43 e_45 (by decide))) (o48_95 (Int.le_trans (by decide : (0 : Int) ≤ (elR 2).1) b_49.1) (Int.le_trans b_49.2 (by decide : (elR 2).2 ≤ (5 : Int))) (zf_0 e_43 e_48 (by decide))) (o48_96 (Int.le_trans (by decide : (0 : Int) ≤ (elR 2).1) b_49.1) (Int.le_trans b_49.2 (by decide : (elR 2).2 ≤ (5 : Int))) (zf_0 e_43 e_48 (by decide))) (o48_95 (Int.le_trans (by decide : (0 : Int) ≤ (elR 3).1) b_52.1) (Int.le_trans b_52.2 (by decide : (elR 3).2 ≤ (5 : Int))) (zf_0 e_43 e_51 (by decide))) (o48_96 (Int.le_trans (by decide : (0 : Int) ≤ (elR 3).1) b_52.1) (Int.le_trans b_52.2 (by decide : (elR 3).2 ≤ (5 : Int))) (zf_0 e_43 e_51 (by decide))) (o48_97 e_32 b_66.1 b_66.2 e_67 b_73.1 b_73.2 e_74 e_79) (o48_98 e_32 b_66.1 b_66.2 e_67 b_73.1 b_73.2 e_74 e_79) (o48_99 e_32 e_36 (Int.le_trans (by decide : (0 : Int) ≤ (elR 873).1) b_55.1) (Int.le_trans b_55.2 (by decide : (elR 873).2 ≤ (900 : Int))) (zf_0 e_43 e_54 (by decide)) b_66.1 b_66.2 e_67 b_73.1 b_73.2 e_74 e_78 e_79) (o48_100 (Int.le_trans (by decide : (0 : Int) ≤ (elR 1).1) b_46.1) (Int.le_trans b_46.2 (by decide : (elR 1).2 ≤ (5 : Int))) (zf_0 e_43 e_45 (by decide)) (Int.le_trans (by decide : (0 : Int) ≤ (elR 2).1) b_49.1) (Int.le_trans b_49.2 (by decide : (elR 2).2 ≤ (5 : Int))) (zf_0 e_43 e_48 (by decide))) (o48_101 (Int.le_trans (by decide : (0 : Int) ≤ (elR 1).1) b_46.1) (Int.le_trans b_46.2 (by decide : (elR 1).2 ≤ (5 : Int))) (zf_0 e_43 e_45 (by decide)) (Int.le_trans (by decide : (0 : Int) ≤ (elR 3).1) b_52.1) (Int.le_trans b_52.2 (by decide : (elR 3).2 ≤ (5 : Int))) (zf_0 e_43 e_51 (by decide))) ((FLs.pa (FLs.zf e_43) (P4.fr u_57 (by decide)) (Eq.trans (Fr.fI u_40 kSM_0 (by decide)) u_38.2.1) (Eq.trans rfl e_76) (o48_102 e_36 e_78))) ((show FT = L12_X12_city (Int.toNat (2 * (900 - f_64.toInt) + 1 - min 1 (max f_75.toInt (-f_75.toInt)) + 1)) (xso SM ad ws_56) from HE.trans (by rw [(xg0 ((Eq.trans rfl e_76)) : f_75.toInt = (xso SM ad ws_56) 0 0 11), (xg0 ((Eq.trans rfl e_65)) : f_64.toInt = (xso SM ad ws_56) 0 0 6)]; rfl))) (Eq.trans rfl e_65) (Eq.trans rfl e_72) (Eq.trans rfl e_69) (Eq.trans rfl e_76) (Eq.trans (Fr.aI u_57 kSM_4 (by decide)) e_54) (Eq.trans (Fr.aI u_57 kSM_4 (by decide)) e_45) (Eq.trans (Fr.aI u_57 kSM_4 (by decide)) e_48) (Eq.trans (Fr.aI u_57 kSM_4 (by decide)) e_51) h Fr.rf (lv_sub hl [0, 1] rfl)
  · -- 16
    replace HE : FT = g5_X12_city (xso SM ad ws_15) := HE.trans (if_pos c_24)
    refine y_c2 (n := (-3)) C0 (by decide) dX12_city_19 (fun v_349 e_350 => ?_)
    replace HE : FT = ((xso SM ad ws_15), v_349.toInt) := HE.trans (by rw [e_350]; rfl)
    rw [hQ]
    exact y_iret C0 h (Fr.tr (Fr.up u_4.1 kSM_0 (by decide)) (Fr.mono u_16 (by decide))) ⟨(congrArg Prod.fst (HE.symm.trans hFT)), (congrArg Prod.snd (HE.symm.trans hFT)), (J.pa hT hJ (Pa.fr (M := [0]) (Fr.tr (Fr.up u_4.1 kSM_0 (by decide)) (Fr.mono u_16 (by decide))) (by decide)))⟩ dX12_city_21
