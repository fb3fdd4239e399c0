theorem dX0_block_0 : decode cX0_block 0 = .ok (.aload_n 0, 1) := by decide +kernel
theorem dX0_block_1 : decode cX0_block 1 = .ok (.iload_n 1, 1) := by decide +kernel
theorem dX0_block_2 : decode cX0_block 2 = .ok (.iload_n 2, 1) := by decide +kernel
theorem dX0_block_3 : decode cX0_block 3 = .ok (.invokevirtual 71, 3) := by decide +kernel
theorem dX0_block_6 : decode cX0_block 6 = .ok (.istore_n 3, 1) := by decide +kernel
theorem dX0_block_7 : decode cX0_block 7 = .ok (.iload_n 3, 1) := by decide +kernel
theorem dX0_block_8 : decode cX0_block 8 = .ok (.ifCond .lt 35, 3) := by decide +kernel
theorem dX0_block_11 : decode cX0_block 11 = .ok (.aload_n 0, 1) := by decide +kernel
theorem dX0_block_12 : decode cX0_block 12 = .ok (.getfield 28, 3) := by decide +kernel
theorem dX0_block_15 : decode cX0_block 15 = .ok (.iload_n 2, 1) := by decide +kernel
theorem dX0_block_16 : decode cX0_block 16 = .ok (.dup2, 1) := by decide +kernel
theorem dX0_block_17 : decode cX0_block 17 = .ok (.iaload, 1) := by decide +kernel
theorem dX0_block_18 : decode cX0_block 18 = .ok (.iconst 1, 1) := by decide +kernel
theorem dX0_block_19 : decode cX0_block 19 = .ok (.iload_n 1, 1) := by decide +kernel
theorem dX0_block_20 : decode cX0_block 20 = .ok (.ishl, 1) := by decide +kernel
theorem dX0_block_21 : decode cX0_block 21 = .ok (.iconst (-1), 1) := by decide +kernel
theorem dX0_block_22 : decode cX0_block 22 = .ok (.ixor, 1) := by decide +kernel
theorem dX0_block_23 : decode cX0_block 23 = .ok (.iand, 1) := by decide +kernel
theorem dX0_block_24 : decode cX0_block 24 = .ok (.iastore, 1) := by decide +kernel
theorem dX0_block_25 : decode cX0_block 25 = .ok (.aload_n 0, 1) := by decide +kernel
theorem dX0_block_26 : decode cX0_block 26 = .ok (.getfield 28, 3) := by decide +kernel
theorem dX0_block_29 : decode cX0_block 29 = .ok (.iload_n 2, 1) := by decide +kernel
theorem dX0_block_30 : decode cX0_block 30 = .ok (.iconst 2, 1) := by decide +kernel
theorem dX0_block_31 : decode cX0_block 31 = .ok (.iadd, 1) := by decide +kernel
theorem dX0_block_32 : decode cX0_block 32 = .ok (.iconst 3, 1) := by decide +kernel
theorem dX0_block_33 : decode cX0_block 33 = .ok (.iand, 1) := by decide +kernel
theorem dX0_block_34 : decode cX0_block 34 = .ok (.dup2, 1) := by decide +kernel
theorem dX0_block_35 : decode cX0_block 35 = .ok (.iaload, 1) := by decide +kernel
theorem dX0_block_36 : decode cX0_block 36 = .ok (.iconst 1, 1) := by decide +kernel
theorem dX0_block_37 : decode cX0_block 37 = .ok (.iload_n 3, 1) := by decide +kernel
theorem dX0_block_38 : decode cX0_block 38 = .ok (.ishl, 1) := by decide +kernel
theorem dX0_block_39 : decode cX0_block 39 = .ok (.iconst (-1), 1) := by decide +kernel
theorem dX0_block_40 : decode cX0_block 40 = .ok (.ixor, 1) := by decide +kernel
theorem dX0_block_41 : decode cX0_block 41 = .ok (.iand, 1) := by decide +kernel
theorem dX0_block_42 : decode cX0_block 42 = .ok (.iastore, 1) := by decide +kernel
theorem dX0_block_43 : decode cX0_block 43 = .ok (.return_, 1) := by decide +kernel
theorem dX0_clear_0 : decode cX0_clear 0 = .ok (.aload_n 0, 1) := by decide +kernel
theorem dX0_clear_1 : decode cX0_clear 1 = .ok (.getfield 12, 3) := by decide +kernel
theorem dX0_clear_4 : decode cX0_clear 4 = .ok (.invokevirtual 35, 3) := by decide +kernel
theorem dX0_clear_7 : decode cX0_clear 7 = .ok (.aload_n 0, 1) := by decide +kernel
theorem dX0_clear_8 : decode cX0_clear 8 = .ok (.getfield 18, 3) := by decide +kernel
theorem dX0_clear_11 : decode cX0_clear 11 = .ok (.invokevirtual 35, 3) := by decide +kernel
theorem dX0_clear_14 : decode cX0_clear 14 = .ok (.aload_n 0, 1) := by decide +kernel
theorem dX0_clear_15 : decode cX0_clear 15 = .ok (.getfield 24, 3) := by decide +kernel
theorem dX0_clear_18 : decode cX0_clear 18 = .ok (.invokevirtual 38, 3) := by decide +kernel
theorem dX0_clear_21 : decode cX0_clear 21 = .ok (.aload_n 0, 1) := by decide +kernel
theorem dX0_clear_22 : decode cX0_clear 22 = .ok (.getfield 28, 3) := by decide +kernel
theorem dX0_clear_25 : decode cX0_clear 25 = .ok (.iconst 0, 1) := by decide +kernel
theorem dX0_clear_26 : decode cX0_clear 26 = .ok (.invokestatic 39, 3) := by decide +kernel
theorem dX0_clear_29 : decode cX0_clear 29 = .ok (.aload_n 0, 1) := by decide +kernel
theorem dX0_clear_30 : decode cX0_clear 30 = .ok (.getfield 32, 3) := by decide +kernel
theorem dX0_clear_33 : decode cX0_clear 33 = .ok (.iconst 0, 1) := by decide +kernel
theorem dX0_clear_34 : decode cX0_clear 34 = .ok (.invokestatic 39, 3) := by decide +kernel
theorem dX0_clear_37 : decode cX0_clear 37 = .ok (.aload_n 0, 1) := by decide +kernel
theorem dX0_clear_38 : decode cX0_clear 38 = .ok (.iconst 0, 1) := by decide +kernel
theorem dX0_clear_39 : decode cX0_clear 39 = .ok (.putfield 45, 3) := by decide +kernel
theorem dX0_clear_42 : decode cX0_clear 42 = .ok (.aload_n 0, 1) := by decide +kernel
theorem dX0_clear_43 : decode cX0_clear 43 = .ok (.iconst 0, 1) := by decide +kernel
theorem dX0_clear_44 : decode cX0_clear 44 = .ok (.putfield 49, 3) := by decide +kernel
theorem dX0_clear_47 : decode cX0_clear 47 = .ok (.aload_n 0, 1) := by decide +kernel
theorem dX0_clear_48 : decode cX0_clear 48 = .ok (.iconst 0, 1) := by decide +kernel
theorem dX0_clear_49 : decode cX0_clear 49 = .ok (.putfield 52, 3) := by decide +kernel
theorem dX0_clear_52 : decode cX0_clear 52 = .ok (.aload_n 0, 1) := by decide +kernel
theorem dX0_clear_53 : decode cX0_clear 53 = .ok (.iconst 0, 1) := by decide +kernel
theorem dX0_clear_54 : decode cX0_clear 54 = .ok (.putfield 55, 3) := by decide +kernel
theorem dX0_clear_57 : decode cX0_clear 57 = .ok (.return_, 1) := by decide +kernel
theorem dX0_copy_0 : decode cX0_copy 0 = .ok (.aload_n 0, 1) := by decide +kernel
theorem dX0_copy_1 : decode cX0_copy 1 = .ok (.getfield 12, 3) := by decide +kernel
theorem dX0_copy_4 : decode cX0_copy 4 = .ok (.aload_n 1, 1) := by decide +kernel
theorem dX0_copy_5 : decode cX0_copy 5 = .ok (.getfield 12, 3) := by decide +kernel
theorem dX0_copy_8 : decode cX0_copy 8 = .ok (.invokevirtual 58, 3) := by decide +kernel
theorem dX0_copy_11 : decode cX0_copy 11 = .ok (.aload_n 0, 1) := by decide +kernel
theorem dX0_copy_12 : decode cX0_copy 12 = .ok (.getfield 18, 3) := by decide +kernel
theorem dX0_copy_15 : decode cX0_copy 15 = .ok (.aload_n 1, 1) := by decide +kernel
theorem dX0_copy_16 : decode cX0_copy 16 = .ok (.getfield 18, 3) := by decide +kernel
theorem dX0_copy_19 : decode cX0_copy 19 = .ok (.invokevirtual 58, 3) := by decide +kernel
theorem dX0_copy_22 : decode cX0_copy 22 = .ok (.aload_n 0, 1) := by decide +kernel
theorem dX0_copy_23 : decode cX0_copy 23 = .ok (.getfield 24, 3) := by decide +kernel
theorem dX0_copy_26 : decode cX0_copy 26 = .ok (.aload_n 1, 1) := by decide +kernel
theorem dX0_copy_27 : decode cX0_copy 27 = .ok (.getfield 24, 3) := by decide +kernel
theorem dX0_copy_30 : decode cX0_copy 30 = .ok (.invokevirtual 62, 3) := by decide +kernel
theorem dX0_copy_33 : decode cX0_copy 33 = .ok (.aload_n 1, 1) := by decide +kernel
theorem dX0_copy_34 : decode cX0_copy 34 = .ok (.getfield 28, 3) := by decide +kernel
theorem dX0_copy_37 : decode cX0_copy 37 = .ok (.iconst 0, 1) := by decide +kernel
theorem dX0_copy_38 : decode cX0_copy 38 = .ok (.aload_n 0, 1) := by decide +kernel
theorem dX0_copy_39 : decode cX0_copy 39 = .ok (.getfield 28, 3) := by decide +kernel
theorem dX0_copy_42 : decode cX0_copy 42 = .ok (.iconst 0, 1) := by decide +kernel
theorem dX0_copy_43 : decode cX0_copy 43 = .ok (.iconst 4, 1) := by decide +kernel
theorem dX0_copy_44 : decode cX0_copy 44 = .ok (.invokestatic 65, 3) := by decide +kernel
theorem dX0_copy_47 : decode cX0_copy 47 = .ok (.aload_n 1, 1) := by decide +kernel
theorem dX0_copy_48 : decode cX0_copy 48 = .ok (.getfield 32, 3) := by decide +kernel
theorem dX0_copy_51 : decode cX0_copy 51 = .ok (.iconst 0, 1) := by decide +kernel
theorem dX0_copy_52 : decode cX0_copy 52 = .ok (.aload_n 0, 1) := by decide +kernel
theorem dX0_copy_53 : decode cX0_copy 53 = .ok (.getfield 32, 3) := by decide +kernel
theorem dX0_copy_56 : decode cX0_copy 56 = .ok (.iconst 0, 1) := by decide +kernel
theorem dX0_copy_57 : decode cX0_copy 57 = .ok (.iconst 4, 1) := by decide +kernel
theorem dX0_copy_58 : decode cX0_copy 58 = .ok (.invokestatic 65, 3) := by decide +kernel
theorem dX0_copy_61 : decode cX0_copy 61 = .ok (.aload_n 0, 1) := by decide +kernel
theorem dX0_copy_62 : decode cX0_copy 62 = .ok (.aload_n 1, 1) := by decide +kernel
theorem dX0_copy_63 : decode cX0_copy 63 = .ok (.getfield 45, 3) := by decide +kernel
theorem dX0_copy_66 : decode cX0_copy 66 = .ok (.putfield 45, 3) := by decide +kernel
theorem dX0_copy_69 : decode cX0_copy 69 = .ok (.aload_n 0, 1) := by decide +kernel
theorem dX0_copy_70 : decode cX0_copy 70 = .ok (.aload_n 1, 1) := by decide +kernel
theorem dX0_copy_71 : decode cX0_copy 71 = .ok (.getfield 49, 3) := by decide +kernel
theorem dX0_copy_74 : decode cX0_copy 74 = .ok (.putfield 49, 3) := by decide +kernel
theorem dX0_copy_77 : decode cX0_copy 77 = .ok (.aload_n 0, 1) := by decide +kernel
theorem dX0_copy_78 : decode cX0_copy 78 = .ok (.aload_n 1, 1) := by decide +kernel
theorem dX0_copy_79 : decode cX0_copy 79 = .ok (.getfield 52, 3) := by decide +kernel
theorem dX0_copy_82 : decode cX0_copy 82 = .ok (.putfield 52, 3) := by decide +kernel
theorem dX0_copy_85 : decode cX0_copy 85 = .ok (.aload_n 0, 1) := by decide +kernel
theorem dX0_copy_86 : decode cX0_copy 86 = .ok (.aload_n 1, 1) := by decide +kernel
theorem dX0_copy_87 : decode cX0_copy 87 = .ok (.getfield 55, 3) := by decide +kernel
theorem dX0_copy_90 : decode cX0_copy 90 = .ok (.putfield 55, 3) := by decide +kernel
theorem dX0_copy_93 : decode cX0_copy 93 = .ok (.return_, 1) := by decide +kernel
theorem dX0_lay_0 : decode cX0_lay 0 = .ok (.aload_n 0, 1) := by decide +kernel
theorem dX0_lay_1 : decode cX0_lay 1 = .ok (.iload_n 1, 1) := by decide +kernel
theorem dX0_lay_2 : decode cX0_lay 2 = .ok (.putfield 45, 3) := by decide +kernel
theorem dX0_lay_5 : decode cX0_lay 5 = .ok (.aload_n 0, 1) := by decide +kernel
theorem dX0_lay_6 : decode cX0_lay 6 = .ok (.iload_n 2, 1) := by decide +kernel
theorem dX0_lay_7 : decode cX0_lay 7 = .ok (.putfield 49, 3) := by decide +kernel
theorem dX0_lay_10 : decode cX0_lay 10 = .ok (.iconst 1, 1) := by decide +kernel
theorem dX0_lay_11 : decode cX0_lay 11 = .ok (.iload_n 1, 1) := by decide +kernel
theorem dX0_lay_12 : decode cX0_lay 12 = .ok (.iload_n 2, 1) := by decide +kernel
theorem dX0_lay_13 : decode cX0_lay 13 = .ok (.imul, 1) := by decide +kernel
theorem dX0_lay_14 : decode cX0_lay 14 = .ok (.ishl, 1) := by decide +kernel
theorem dX0_lay_15 : decode cX0_lay 15 = .ok (.iconst 1, 1) := by decide +kernel
theorem dX0_lay_16 : decode cX0_lay 16 = .ok (.isub, 1) := by decide +kernel
theorem dX0_lay_17 : decode cX0_lay 17 = .ok (.istore_n 3, 1) := by decide +kernel
theorem dX0_lay_18 : decode cX0_lay 18 = .ok (.iconst 0, 1) := by decide +kernel
theorem dX0_lay_19 : decode cX0_lay 19 = .ok (.istore 4, 2) := by decide +kernel
theorem dX0_lay_21 : decode cX0_lay 21 = .ok (.iconst 0, 1) := by decide +kernel
theorem dX0_lay_22 : decode cX0_lay 22 = .ok (.istore 5, 2) := by decide +kernel
theorem dX0_lay_24 : decode cX0_lay 24 = .ok (.iload 5, 2) := by decide +kernel
theorem dX0_lay_26 : decode cX0_lay 26 = .ok (.iload_n 2, 1) := by decide +kernel
theorem dX0_lay_27 : decode cX0_lay 27 = .ok (.if_icmp .ge 20, 3) := by decide +kernel
theorem dX0_lay_30 : decode cX0_lay 30 = .ok (.iload 4, 2) := by decide +kernel
theorem dX0_lay_32 : decode cX0_lay 32 = .ok (.iconst 1, 1) := by decide +kernel
theorem dX0_lay_33 : decode cX0_lay 33 = .ok (.iload 5, 2) := by decide +kernel
theorem dX0_lay_35 : decode cX0_lay 35 = .ok (.iload_n 1, 1) := by decide +kernel
theorem dX0_lay_36 : decode cX0_lay 36 = .ok (.imul, 1) := by decide +kernel
theorem dX0_lay_37 : decode cX0_lay 37 = .ok (.ishl, 1) := by decide +kernel
theorem dX0_lay_38 : decode cX0_lay 38 = .ok (.ior, 1) := by decide +kernel
theorem dX0_lay_39 : decode cX0_lay 39 = .ok (.istore 4, 2) := by decide +kernel
theorem dX0_lay_41 : decode cX0_lay 41 = .ok (.iinc 5 1, 3) := by decide +kernel
theorem dX0_lay_44 : decode cX0_lay 44 = .ok (.goto (-20), 3) := by decide +kernel
theorem dX0_lay_47 : decode cX0_lay 47 = .ok (.aload_n 0, 1) := by decide +kernel
theorem dX0_lay_48 : decode cX0_lay 48 = .ok (.getfield 28, 3) := by decide +kernel
theorem dX0_lay_51 : decode cX0_lay 51 = .ok (.iconst 0, 1) := by decide +kernel
theorem dX0_lay_52 : decode cX0_lay 52 = .ok (.iload_n 3, 1) := by decide +kernel
theorem dX0_lay_53 : decode cX0_lay 53 = .ok (.iconst 1, 1) := by decide +kernel
theorem dX0_lay_54 : decode cX0_lay 54 = .ok (.iload_n 1, 1) := by decide +kernel
theorem dX0_lay_55 : decode cX0_lay 55 = .ok (.ishl, 1) := by decide +kernel
theorem dX0_lay_56 : decode cX0_lay 56 = .ok (.iconst 1, 1) := by decide +kernel
theorem dX0_lay_57 : decode cX0_lay 57 = .ok (.isub, 1) := by decide +kernel
theorem dX0_lay_58 : decode cX0_lay 58 = .ok (.iconst (-1), 1) := by decide +kernel
theorem dX0_lay_59 : decode cX0_lay 59 = .ok (.ixor, 1) := by decide +kernel
theorem dX0_lay_60 : decode cX0_lay 60 = .ok (.iand, 1) := by decide +kernel
theorem dX0_lay_61 : decode cX0_lay 61 = .ok (.iastore, 1) := by decide +kernel
theorem dX0_lay_62 : decode cX0_lay 62 = .ok (.aload_n 0, 1) := by decide +kernel
theorem dX0_lay_63 : decode cX0_lay 63 = .ok (.getfield 28, 3) := by decide +kernel
theorem dX0_lay_66 : decode cX0_lay 66 = .ok (.iconst 1, 1) := by decide +kernel
theorem dX0_lay_67 : decode cX0_lay 67 = .ok (.iload_n 3, 1) := by decide +kernel
theorem dX0_lay_68 : decode cX0_lay 68 = .ok (.iload 4, 2) := by decide +kernel
theorem dX0_lay_70 : decode cX0_lay 70 = .ok (.iload_n 1, 1) := by decide +kernel
theorem dX0_lay_71 : decode cX0_lay 71 = .ok (.iconst 1, 1) := by decide +kernel
theorem dX0_lay_72 : decode cX0_lay 72 = .ok (.isub, 1) := by decide +kernel
theorem dX0_lay_73 : decode cX0_lay 73 = .ok (.ishl, 1) := by decide +kernel
theorem dX0_lay_74 : decode cX0_lay 74 = .ok (.iconst (-1), 1) := by decide +kernel
theorem dX0_lay_75 : decode cX0_lay 75 = .ok (.ixor, 1) := by decide +kernel
theorem dX0_lay_76 : decode cX0_lay 76 = .ok (.iand, 1) := by decide +kernel
theorem dX0_lay_77 : decode cX0_lay 77 = .ok (.iastore, 1) := by decide +kernel
theorem dX0_lay_78 : decode cX0_lay 78 = .ok (.aload_n 0, 1) := by decide +kernel
theorem dX0_lay_79 : decode cX0_lay 79 = .ok (.getfield 28, 3) := by decide +kernel
theorem dX0_lay_82 : decode cX0_lay 82 = .ok (.iconst 2, 1) := by decide +kernel
theorem dX0_lay_83 : decode cX0_lay 83 = .ok (.iload_n 3, 1) := by decide +kernel
theorem dX0_lay_84 : decode cX0_lay 84 = .ok (.iload_n 1, 1) := by decide +kernel
theorem dX0_lay_85 : decode cX0_lay 85 = .ok (.ishr, 1) := by decide +kernel
theorem dX0_lay_86 : decode cX0_lay 86 = .ok (.iastore, 1) := by decide +kernel
theorem dX0_lay_87 : decode cX0_lay 87 = .ok (.aload_n 0, 1) := by decide +kernel
theorem dX0_lay_88 : decode cX0_lay 88 = .ok (.getfield 28, 3) := by decide +kernel
theorem dX0_lay_91 : decode cX0_lay 91 = .ok (.iconst 3, 1) := by decide +kernel
theorem dX0_lay_92 : decode cX0_lay 92 = .ok (.iload_n 3, 1) := by decide +kernel
theorem dX0_lay_93 : decode cX0_lay 93 = .ok (.iload 4, 2) := by decide +kernel
theorem dX0_lay_95 : decode cX0_lay 95 = .ok (.iconst (-1), 1) := by decide +kernel
theorem dX0_lay_96 : decode cX0_lay 96 = .ok (.ixor, 1) := by decide +kernel
theorem dX0_lay_97 : decode cX0_lay 97 = .ok (.iand, 1) := by decide +kernel
theorem dX0_lay_98 : decode cX0_lay 98 = .ok (.iastore, 1) := by decide +kernel
theorem dX0_lay_99 : decode cX0_lay 99 = .ok (.aload_n 0, 1) := by decide +kernel
theorem dX0_lay_100 : decode cX0_lay 100 = .ok (.getfield 32, 3) := by decide +kernel
theorem dX0_lay_103 : decode cX0_lay 103 = .ok (.iconst 0, 1) := by decide +kernel
theorem dX0_lay_104 : decode cX0_lay 104 = .ok (.iload_n 1, 1) := by decide +kernel
theorem dX0_lay_105 : decode cX0_lay 105 = .ok (.ineg, 1) := by decide +kernel
theorem dX0_lay_106 : decode cX0_lay 106 = .ok (.iastore, 1) := by decide +kernel
theorem dX0_lay_107 : decode cX0_lay 107 = .ok (.aload_n 0, 1) := by decide +kernel
theorem dX0_lay_108 : decode cX0_lay 108 = .ok (.getfield 32, 3) := by decide +kernel
theorem dX0_lay_111 : decode cX0_lay 111 = .ok (.iconst 1, 1) := by decide +kernel
theorem dX0_lay_112 : decode cX0_lay 112 = .ok (.iconst 1, 1) := by decide +kernel
theorem dX0_lay_113 : decode cX0_lay 113 = .ok (.iastore, 1) := by decide +kernel
theorem dX0_lay_114 : decode cX0_lay 114 = .ok (.aload_n 0, 1) := by decide +kernel
theorem dX0_lay_115 : decode cX0_lay 115 = .ok (.getfield 32, 3) := by decide +kernel
theorem dX0_lay_118 : decode cX0_lay 118 = .ok (.iconst 2, 1) := by decide +kernel
theorem dX0_lay_119 : decode cX0_lay 119 = .ok (.iload_n 1, 1) := by decide +kernel
theorem dX0_lay_120 : decode cX0_lay 120 = .ok (.iastore, 1) := by decide +kernel
theorem dX0_lay_121 : decode cX0_lay 121 = .ok (.aload_n 0, 1) := by decide +kernel
theorem dX0_lay_122 : decode cX0_lay 122 = .ok (.getfield 32, 3) := by decide +kernel
theorem dX0_lay_125 : decode cX0_lay 125 = .ok (.iconst 3, 1) := by decide +kernel
theorem dX0_lay_126 : decode cX0_lay 126 = .ok (.iconst (-1), 1) := by decide +kernel
theorem dX0_lay_127 : decode cX0_lay 127 = .ok (.iastore, 1) := by decide +kernel
theorem dX0_lay_128 : decode cX0_lay 128 = .ok (.return_, 1) := by decide +kernel
theorem o16_1 {x0 : Int} (h0 : 0 ≤ x0) (h1 : x0 ≤ 4) (h2 : 4 - x0 < 0) : False := by omega
theorem o16_2 {x0 : Int} (h0 : x0 = (4 : Nat)) : x0 = 4 := by omega
theorem o16_3 {x0 x1 : Int} {x2 : Nat} (h0 : x1 = (4 : Nat)) (h1 : 0 ≤ x0) (h2 : x0 ≤ 4) (h3 : 4 - x0 < ((x2 + 1 : Nat) : Int)) (h4 : x1 ≤ x0) : ¬ x0 < 4 := by omega
theorem o16_4 {x0 x1 : Int} {x2 : Nat} (h0 : x1 = (4 : Nat)) (h1 : 0 ≤ x0) (h2 : x0 ≤ 4) (h3 : 4 - x0 < ((x2 + 1 : Nat) : Int)) (h4 : x0 < x1) : x0 < 4 := by omega
theorem o16_5 {x0 x1 : Int} {x2 : Nat} (h0 : x1 = (4 : Nat)) (h1 : 0 ≤ x0) (h2 : x0 ≤ 4) (h3 : 4 - x0 < ((x2 + 1 : Nat) : Int)) (h4 : x1 ≤ x0) : ((4 : Nat) : Int) ≤ x0 := by omega
theorem o16_6 {x0 x1 : Int} {x2 : Nat} (h0 : x1 = (4 : Nat)) (h1 : 0 ≤ x0) (h2 : x0 ≤ 4) (h3 : 4 - x0 < ((x2 + 1 : Nat) : Int)) (h4 : x0 < x1) : 0 ≤ x0 := by omega
theorem o16_7 {x0 x1 : Int} {x2 : Nat} (h0 : x1 = (4 : Nat)) (h1 : 0 ≤ x0) (h2 : x0 ≤ 4) (h3 : 4 - x0 < ((x2 + 1 : Nat) : Int)) (h4 : x0 < x1) : x0 < (4 : Nat) := by omega
theorem o16_8 {x0 : Int} (h0 : 0 ≤ x0) (h1 : x0 ≤ 0) : x0 = 0 := by omega
theorem o16_9 {x0 x1 : Int} {x2 : Nat} (h0 : x1 = (4 : Nat)) (h1 : 0 ≤ x0) (h2 : x0 ≤ 4) (h3 : 4 - x0 < ((x2 + 1 : Nat) : Int)) (h4 : x0 < x1) (h5 : -2147483648 ≤ x0) (h6 : x0 ≤ 2147483647) (h7 : -2147483648 ≤ x1) (h8 : x1 ≤ 2147483647) : -2147483648 ≤ x0 + 1 := by omega
theorem o16_10 {x0 x1 : Int} {x2 : Nat} (h0 : x1 = (4 : Nat)) (h1 : 0 ≤ x0) (h2 : x0 ≤ 4) (h3 : 4 - x0 < ((x2 + 1 : Nat) : Int)) (h4 : x0 < x1) (h5 : -2147483648 ≤ x0) (h6 : x0 ≤ 2147483647) (h7 : -2147483648 ≤ x1) (h8 : x1 ≤ 2147483647) : x0 + 1 ≤ 2147483647 := by omega
theorem o16_11 {x0 x2 x3 : Int} {x1 : Nat} (h0 : x2 = (4 : Nat)) (h1 : 0 ≤ x3) (h2 : x3 ≤ 4) (h3 : 4 - x3 < ((x1 + 1 : Nat) : Int)) (h4 : x3 < x2) (h5 : x0 = x3 + 1) : 4 - x0 < (x1 : Int) := by omega
theorem o16_12 {x0 x1 x2 : Int} {x3 : Nat} (h0 : x1 = (4 : Nat)) (h1 : 0 ≤ x2) (h2 : x2 ≤ 4) (h3 : 4 - x2 < ((x3 + 1 : Nat) : Int)) (h4 : x2 < x1) (h5 : x0 = x2 + 1) : 0 ≤ x0 := by omega
theorem o16_13 {x0 x1 x2 : Int} {x3 : Nat} (h0 : x1 = (4 : Nat)) (h1 : 0 ≤ x2) (h2 : x2 ≤ 4) (h3 : 4 - x2 < ((x3 + 1 : Nat) : Int)) (h4 : x2 < x1) (h5 : x0 = x2 + 1) : x0 ≤ 4 := by omega
theorem o16_14 {x0 x1 x3 : Int} {x2 : Nat} (h0 : x1 = (4 : Nat)) (h1 : 0 ≤ x0) (h2 : x0 ≤ 4) (h3 : 4 - x0 < ((x2 + 1 : Nat) : Int)) (h4 : x0 < x1) (h5 : x3 = x0 + 1) : 0 ≤ x0 := by omega
theorem o16_15 {x0 : Int} (h0 : x0 = 0) : 4 - x0 < (((4 - x0 + 1).toNat : Nat) : Int) := by omega
theorem o16_16 {x0 : Int} (h0 : x0 = 0) : 0 ≤ x0 := by omega
theorem o16_17 {x0 : Int} (h0 : x0 = 0) : x0 ≤ 4 := by omega
theorem o16_18 {x0 : Int} (h0 : 0 ≤ x0) (h1 : x0 ≤ 0) : (-5) ≤ x0 := by omega
theorem o16_19 {x0 : Int} (h0 : 0 ≤ x0) (h1 : x0 ≤ 0) : x0 ≤ 5 := by omega
theorem o16_20 {x0 : Int} (h0 : x0 = 0) : x0 ≤ 0 := by omega
theorem o16_21 {x0 : Int} (h0 : x0 = 0) : x0 ≤ 5 := by omega
theorem o16_22 {x0 : Int} (h0 : x0 = 0) : x0 = 0 := by omega
theorem o16_23 {x0 : Int} (h0 : x0 = 4) : 0 ≤ x0 := by omega
theorem o16_24 {x0 : Int} (h0 : x0 = 4) : x0 ≤ (4 : Nat) := by omega
theorem o16_25 {x0 : Int} (h0 : 0 ≤ x0) (h1 : x0 ≤ 5) : 0 ≤ x0 := by omega
theorem o16_26 {x0 : Int} (h0 : 0 ≤ x0) (h1 : x0 ≤ 5) : x0 ≤ 5 := by omega
theorem o16_27 {x0 : Int} (h0 : 0 ≤ x0) (h1 : x0 ≤ 24) : 0 ≤ x0 := by omega
theorem o16_28 {x0 : Int} (h0 : 0 ≤ x0) (h1 : x0 ≤ 24) : x0 ≤ 24 := by omega
theorem o16_29 {x0 : Int} (h0 : 0 ≤ x0) (h1 : x0 ≤ 3) : 0 ≤ x0 := by omega
theorem o16_30 {x0 : Int} (h0 : 0 ≤ x0) (h1 : x0 ≤ 3) : x0 ≤ 3 := by omega
theorem o16_31 {x0 : Int} (h0 : 0 ≤ x0) (h1 : x0 ≤ 3) : x0 < (4 : Nat) := by omega
theorem o16_32 {x0 x1 : Int} (h0 : 0 ≤ x0) (h1 : x0 ≤ 3) (h2 : x1 = 2) (h3 : -2147483648 ≤ x0) (h4 : x0 ≤ 2147483647) (h5 : -2147483648 ≤ x1) (h6 : x1 ≤ 2147483647) : -2147483648 ≤ x0 + x1 := by omega
theorem o16_33 {x0 x1 : Int} (h0 : 0 ≤ x0) (h1 : x0 ≤ 3) (h2 : x1 = 2) (h3 : -2147483648 ≤ x0) (h4 : x0 ≤ 2147483647) (h5 : -2147483648 ≤ x1) (h6 : x1 ≤ 2147483647) : x0 + x1 ≤ 2147483647 := by omega
theorem o16_34 {x0 : Int} (h0 : x0 = 3) : x0 = 3 := by omega
theorem o16_35 {x0 : Int} (h0 : 2 ≤ x0) (h1 : x0 ≤ 5) : 0 ≤ x0 := by omega
theorem o16_36 {x0 : Int} (h0 : 2 ≤ x0) (h1 : x0 ≤ 5) : x0 ≤ 5 := by omega
theorem o16_37 {x0 x1 : Int} (h0 : 2 ≤ x1) (h1 : x1 ≤ 5) (h2 : 0 ≤ x0) (h3 : x0 ≤ 5) (h4 : x0 ≤ x1) (h5 : 5 - x0 < 0) : False := by omega
theorem o16_38 {x0 : Int} (h0 : x0 = 0) : x0 < (4 : Nat) := by omega
theorem o16_39 {x0 : Int} (h0 : x0 = 1) : 0 ≤ x0 := by omega
theorem o16_40 {x0 : Int} (h0 : x0 = 1) : x0 < (4 : Nat) := by omega
theorem o16_41 {x0 : Int} (h0 : x0 = 2) : 0 ≤ x0 := by omega
theorem o16_42 {x0 : Int} (h0 : x0 = 2) : x0 < (4 : Nat) := by omega
theorem o16_43 {x0 : Int} (h0 : x0 = 3) : 0 ≤ x0 := by omega
theorem o16_44 {x0 : Int} (h0 : x0 = 3) : x0 < (4 : Nat) := by omega
theorem o16_45 {x0 : Int} (h0 : 2 ≤ x0) (h1 : x0 ≤ 5) (h2 : -2147483648 ≤ x0) (h3 : x0 ≤ 2147483647) : -2147483648 < x0 := by omega
theorem o16_46 {x0 x1 : Int} (h0 : 2 ≤ x1) (h1 : x1 ≤ 5) (h2 : x0 = -x1) : (-5) ≤ x0 := by omega
theorem o16_47 {x0 x1 : Int} (h0 : 2 ≤ x1) (h1 : x1 ≤ 5) (h2 : x0 = -x1) : x0 ≤ 5 := by omega
theorem o16_48 {x0 : Int} (h0 : x0 = 1) : (-5) ≤ x0 := by omega
theorem o16_49 {x0 : Int} (h0 : x0 = 1) : x0 ≤ 5 := by omega
theorem o16_50 {x0 x1 : Int} (h0 : 2 ≤ x0) (h1 : x0 ≤ 5) (h2 : x1 = -x0) : (-5) ≤ x0 := by omega
theorem o16_51 {x0 x1 : Int} (h0 : 2 ≤ x0) (h1 : x0 ≤ 5) (h2 : x1 = -x0) : x0 ≤ 5 := by omega
theorem o16_52 {x0 : Int} (h0 : x0 = (-1)) : (-5) ≤ x0 := by omega
theorem o16_53 {x0 : Int} (h0 : x0 = (-1)) : x0 ≤ 5 := by omega
theorem o16_54 {x0 x1 : Int} {x2 : Nat} (h0 : 2 ≤ x1) (h1 : x1 ≤ 5) (h2 : 0 ≤ x0) (h3 : x0 ≤ 5) (h4 : x0 ≤ x1) (h5 : 5 - x0 < ((x2 + 1 : Nat) : Int)) (h6 : x1 ≤ x0) : x0 = x1 := by omega
theorem o16_55 {x0 x1 : Int} (h0 : 2 ≤ x1) (h1 : x1 ≤ 5) (h2 : x0 = -x1) : x0 = -x1 := by omega
theorem o16_56 {x0 x1 : Int} (h0 : 2 ≤ x0) (h1 : x0 ≤ 5) (h2 : x1 = -x0) (h3 : -2147483648 ≤ x0) (h4 : x0 ≤ 2147483647) (h5 : -2147483648 ≤ x1) (h6 : x1 ≤ 2147483647) : -2147483648 < x0 := by omega
theorem o16_57 {x0 x1 : Int} {x2 : Nat} (h0 : 2 ≤ x1) (h1 : x1 ≤ 5) (h2 : 0 ≤ x0) (h3 : x0 ≤ 5) (h4 : x0 ≤ x1) (h5 : 5 - x0 < ((x2 + 1 : Nat) : Int)) (h6 : x0 < x1) (h7 : -2147483648 ≤ x0) (h8 : x0 ≤ 2147483647) (h9 : -2147483648 ≤ x1) (h10 : x1 ≤ 2147483647) : -2147483648 ≤ x0 + 1 := by omega
theorem o16_58 {x0 x1 : Int} {x2 : Nat} (h0 : 2 ≤ x1) (h1 : x1 ≤ 5) (h2 : 0 ≤ x0) (h3 : x0 ≤ 5) (h4 : x0 ≤ x1) (h5 : 5 - x0 < ((x2 + 1 : Nat) : Int)) (h6 : x0 < x1) (h7 : -2147483648 ≤ x0) (h8 : x0 ≤ 2147483647) (h9 : -2147483648 ≤ x1) (h10 : x1 ≤ 2147483647) : x0 + 1 ≤ 2147483647 := by omega
theorem o16_59 {x0 x2 x3 : Int} {x1 : Nat} (h0 : 2 ≤ x2) (h1 : x2 ≤ 5) (h2 : 0 ≤ x3) (h3 : x3 ≤ 5) (h4 : x3 ≤ x2) (h5 : 5 - x3 < ((x1 + 1 : Nat) : Int)) (h6 : x3 < x2) (h7 : x0 = x3 + 1) : 5 - x0 < (x1 : Int) := by omega
theorem o16_60 {x0 x1 x2 : Int} {x3 : Nat} (h0 : 2 ≤ x1) (h1 : x1 ≤ 5) (h2 : 0 ≤ x2) (h3 : x2 ≤ 5) (h4 : x2 ≤ x1) (h5 : 5 - x2 < ((x3 + 1 : Nat) : Int)) (h6 : x2 < x1) (h7 : x0 = x2 + 1) : 0 ≤ x0 := by omega
theorem o16_61 {x0 x1 x2 : Int} {x3 : Nat} (h0 : 2 ≤ x1) (h1 : x1 ≤ 5) (h2 : 0 ≤ x2) (h3 : x2 ≤ 5) (h4 : x2 ≤ x1) (h5 : 5 - x2 < ((x3 + 1 : Nat) : Int)) (h6 : x2 < x1) (h7 : x0 = x2 + 1) : x0 ≤ 5 := by omega
theorem o16_62 {x0 x1 x2 : Int} {x3 : Nat} (h0 : 2 ≤ x1) (h1 : x1 ≤ 5) (h2 : 0 ≤ x2) (h3 : x2 ≤ 5) (h4 : x2 ≤ x1) (h5 : 5 - x2 < ((x3 + 1 : Nat) : Int)) (h6 : x2 < x1) (h7 : x0 = x2 + 1) : x0 ≤ x1 := by omega
theorem o16_63 {x0 x1 x3 : Int} {x2 : Nat} (h0 : 2 ≤ x1) (h1 : x1 ≤ 5) (h2 : 0 ≤ x0) (h3 : x0 ≤ 5) (h4 : x0 ≤ x1) (h5 : 5 - x0 < ((x2 + 1 : Nat) : Int)) (h6 : x0 < x1) (h7 : x3 = x0 + 1) : 0 ≤ x0 := by omega
theorem o16_64 {x0 : Int} (h0 : x0 = 0) : 5 - x0 < (((5 - x0 + 1).toNat : Nat) : Int) := by omega
theorem o16_65 {x0 x1 : Int} (h0 : 2 ≤ x1) (h1 : x1 ≤ 5) (h2 : x0 = 0) : x0 ≤ x1 := by omega
noncomputable def g4_J7_fill_53178_14 (s : XS) : XR := (s, 0)
noncomputable def g6w_J7_fill_53178_14 (R5 : XS → Nat → Int → XR) (s : XS) (i0 : Nat) (x2_5 : Int) : XR := R5 s i0 ((x2_5 + 1))
noncomputable def g5_J7_fill_53178_14 (R5 : XS → Nat → Int → XR) (s : XS) (i0 : Nat) (x2_5 : Int) : XR := g6w_J7_fill_53178_14 R5 (xup s 1 i0 (Int.toNat x2_5) (0)) i0 x2_5
noncomputable def g3b_J7_fill_53178_14 (R5 : XS → Nat → Int → XR) (s : XS) (x2_5 : Int) (i0 : Nat) : XR := if x2_5 < 4 then g5_J7_fill_53178_14 R5 s i0 x2_5 else g4_J7_fill_53178_14 s
noncomputable def g2l_J7_fill_53178_14 (R5 : XS → Nat → Int → XR) (s : XS) (i0 : Nat) (x2_5 : Int) : XR := g3b_J7_fill_53178_14 R5 s x2_5 i0
noncomputable def L1_J7_fill_53178_14 (n : Nat) : XS → Nat → Int → XR := Nat.rec (motive := fun _ => XS → Nat → Int → XR) (fun s _ _ => (s, 0)) (fun _ R5 => g2l_J7_fill_53178_14 R5) n
noncomputable def f_J7_fill_53178_14 (s : XS) (i0 : Nat) (a1 : Int) : XR := L1_J7_fill_53178_14 (Int.toNat (4 - 0 + 1)) s i0 0
set_option maxHeartbeats 4000000 in
set_option maxRecDepth 100000 in
theorem c_J7_fill_53178_14 (l : Launch) (G : GG) (Z : RZ) (ad : Nat → Nat) (ws0 : va_W) (hT : Ty G SC ad ws0) (i0 : Nat) (hi0 : Kd SC i0 14) (a1 : Int32) (l1 : 0 ≤ a1.toInt) (u1 : a1.toInt ≤ 0) : Mq l yJ7_fill_53178 cJ7_fill_53178 4 none 1 G Z [.ref (ad i0), .int a1] ws0 (PV G SC ad [14] ws0 (fun u => (xso SC ad u = (f_J7_fill_53178_14 (xso SC ad ws0) i0 a1.toInt).1) ∧ (∀ k : Nat, k < 4 → aI u i0 k = a1) ∧ (Ud i0 ws0 u))) := by
  refine Mq.start (by decide) (Nat.le_of_ble_eq_true rfl) ?_
  intro p e s m below meth c A ls C0 hZ h hl
  have hl : lv_has ls 4 [(0, .ref (ad i0)), (1, .int a1)] := hl
  have h : Wt G SC ad A s s.heap [] ws0 := ⟨h, hT⟩
  obtain ⟨args, hargs⟩ : ∃ z, z = ([.ref (ad i0), .int a1] : List Value).toArray := ⟨_, rfl⟩
  rw [← hargs] at C0 ⊢
  have C0 : Cx p s m args meth c RJ7 cJ7_fill_53178 4 none := C0
  obtain ⟨Q, hQ⟩ : ∃ z, z = MQ below ((PV G SC ad [14] ws0 (fun u => (xso SC ad u = (f_J7_fill_53178_14 (xso SC ad ws0) i0 a1.toInt).1) ∧ (∀ k : Nat, k < 4 → aI u i0 k = a1) ∧ (Ud i0 ws0 u))) A) args s 0 0 A := ⟨_, rfl⟩
  rw [← hQ]
  obtain ⟨FT, hFT⟩ : ∃ z, z = f_J7_fill_53178_14 (xso SC ad ws0) i0 a1.toInt := ⟨_, rfl⟩
  have HE : FT = f_J7_fill_53178_14 (xso SC ad ws0) i0 a1.toInt := hFT
  refine y_c1 (n := 0) C0 (by decide) dJ7_fill_53178_0 (fun v_1 e_2 => ?_)
  refine lv_istore_n (lv' := [(2, .int v_1), (0, .ref (ad i0)), (1, .int a1)]) C0.1 C0.2.1 dJ7_fill_53178_1 rfl hl (by decide) rfl (fun ls hl => ?_)
  refine lv_aload_n C0.1 C0.2.1 dJ7_fill_53178_2 rfl (lv_at hl 1 rfl) ?_
  refine y_alenI (cA := G.2 0) C0 h hi0 rfl rfl (by decide) dJ7_fill_53178_3 (fun v_3 e_4 => ?_)
  refine lv_istore_n (lv' := [(3, .int v_3), (2, .int v_1), (0, .ref (ad i0)), (1, .int a1)]) C0.1 C0.2.1 dJ7_fill_53178_4 rfl hl (by decide) rfl (fun ls hl => ?_)
  have lp_8 : ∀ (n_10 : Nat) (x2_5 : Int32) (H : Heap) (locs : List Loc) (ls : Array Slot) (ws_6 : va_W), 4 - x2_5.toInt < (n_10 : Int) → 0 ≤ x2_5.toInt → x2_5.toInt ≤ 4 → (∀ k : Nat, (k : Int) < x2_5.toInt → aI ws_6 i0 k = a1) → (Ud i0 ws0 ws_6) → (FT = L1_J7_fill_53178_14 n_10 (xso SC ad ws_6) i0 x2_5.toInt) → Wt G SC ad A s H locs ws_6 → Fr SC [14] ws0 ws_6 → lv_has ls 4 [(3, .int v_3), (2, .int x2_5), (0, .ref (ad i0)), (1, .int a1)] → W p l e (rmd 1 0 0) s m args below meth c H locs 0 0 Q (F0 m 5 ls []) := by
    intro n_10
    induction n_10 with
    | zero => intro x2_5 H locs ls ws_6 hn_11 b_12 b_13 hfill hud HE h hF_7 hl; exact ((o16_1 b_12 b_13 hn_11)).elim
    | succ n_10 ih_9 =>
      intro x2_5 H locs ls ws_6 hn_11 b_12 b_13 hfill hud HE h hF_7 hl
      obtain ⟨R5, hR5⟩ : ∃ z, z = L1_J7_fill_53178_14 n_10 := ⟨_, rfl⟩
      replace HE : FT = g2l_J7_fill_53178_14 R5 (xso SC ad ws_6) i0 x2_5.toInt := HE.trans (by rw [hR5]; rfl)
      refine lv_iload_n C0.1 C0.2.1 dJ7_fill_53178_5 rfl (lv_at hl 1 rfl) ?_
      refine lv_iload_n C0.1 C0.2.1 dJ7_fill_53178_6 rfl (lv_at hl 0 rfl) ?_
      replace HE : FT = g3b_J7_fill_53178_14 R5 (xso SC ad ws_6) x2_5.toInt i0 := HE.trans rfl
      refine y_icmp_ge (tgt := 20) C0 dJ7_fill_53178_7 (by decide) (fun c_14 => ?_) (fun c_14 => ?_)
      · -- 7
        replace HE : FT = g4_J7_fill_53178_14 (xso SC ad ws_6) := HE.trans (if_neg (o16_3 e_4 b_12 b_13 hn_11 c_14))
        replace HE : FT = ((xso SC ad ws_6), 0) := HE.trans rfl
        rw [hQ]
        exact y_vret C0 h hF_7 ⟨(congrArg Prod.fst (HE.symm.trans hFT)), (fill_e (n := 4) hfill (o16_5 e_4 b_12 b_13 hn_11 c_14)), hud⟩ dJ7_fill_53178_20
      · -- 7
        replace HE : FT = g5_J7_fill_53178_14 R5 (xso SC ad ws_6) i0 x2_5.toInt := HE.trans (if_pos (o16_4 e_4 b_12 b_13 hn_11 c_14))
        refine lv_aload_n C0.1 C0.2.1 dJ7_fill_53178_10 rfl (lv_at hl 2 rfl) ?_
        refine lv_iload_n C0.1 C0.2.1 dJ7_fill_53178_11 rfl (lv_at hl 1 rfl) ?_
        refine lv_iload_n C0.1 C0.2.1 dJ7_fill_53178_12 rfl (lv_at hl 3 rfl) ?_
        have hO_17 := h.2
        refine y_iast C0 h hi0 rfl (by decide) (o16_6 e_4 b_12 b_13 hn_11 c_14) (o16_7 e_4 b_12 b_13 hn_11 c_14) (le_min a1) (le_max a1) dJ7_fill_53178_13 (fun H locs ws_15 h u_16 => ?_)
        replace HE : FT = g6w_J7_fill_53178_14 R5 (xso SC ad ws_15) i0 x2_5.toInt := HE.trans (by rw [(xso_A (i := i0) hO_17 h.2 hi0 rfl u_16), (o16_8 l1 u1)]; rfl)
        refine y_inc (kp := 1) (n := 1) (fun v_18 => [(2, .int v_18), (3, .int v_3), (0, .ref (ad i0)), (1, .int a1)]) C0 hl rfl (by decide) (by decide) (fun _ => rfl) (o16_9 e_4 b_12 b_13 hn_11 c_14 (le_min x2_5) (le_max x2_5) (le_min v_3) (le_max v_3)) (o16_10 e_4 b_12 b_13 hn_11 c_14 (le_min x2_5) (le_max x2_5) (le_min v_3) (le_max v_3)) dJ7_fill_53178_14 (fun v_18 ls e_19 hl => ?_)
        refine lv_goto (tgt := 5) C0.1 C0.2.1 dJ7_fill_53178_17 (by decide) ?_
        exact ih_9 v_18 _ _ _ _ (o16_11 e_4 b_12 b_13 hn_11 c_14 e_19) (o16_12 e_4 b_12 b_13 hn_11 c_14 e_19) (o16_13 e_4 b_12 b_13 hn_11 c_14 e_19) ((fill_s hfill u_16 (o16_14 e_4 b_12 b_13 hn_11 c_14 e_19) e_19)) ((hud.tr u_16.1)) (((show FT = R5 (xso SC ad ws_15) i0 v_18.toInt from HE.trans (by rw [e_19]; rfl)).trans (by rw [hR5]))) h (Fr.tr hF_7 (Fr.up u_16.1 hi0 (by decide))) (lv_sub hl [1, 0, 2, 3] rfl)
  exact lp_8 ((4 - v_1.toInt + 1).toNat) v_1 _ _ _ _ (o16_15 e_2) (o16_16 e_2) (o16_17 e_2) ((fill_0 e_2)) Ud.rf ((show FT = L1_J7_fill_53178_14 (Int.toNat (4 - v_1.toInt + 1)) (xso SC ad ws0) i0 v_1.toInt from HE.trans (by rw [e_2]; rfl))) h Fr.rf (lv_sub hl [0, 1, 2, 3] rfl)
noncomputable def g4_J7_fill_53178_15 (s : XS) : XR := (s, 0)
noncomputable def g6w_J7_fill_53178_15 (R5 : XS → Nat → Int → XR) (s : XS) (i0 : Nat) (x2_5 : Int) : XR := R5 s i0 ((x2_5 + 1))
noncomputable def g5_J7_fill_53178_15 (R5 : XS → Nat → Int → XR) (s : XS) (i0 : Nat) (x2_5 : Int) : XR := g6w_J7_fill_53178_15 R5 (xup s 1 i0 (Int.toNat x2_5) (0)) i0 x2_5
noncomputable def g3b_J7_fill_53178_15 (R5 : XS → Nat → Int → XR) (s : XS) (x2_5 : Int) (i0 : Nat) : XR := if x2_5 < 4 then g5_J7_fill_53178_15 R5 s i0 x2_5 else g4_J7_fill_53178_15 s
noncomputable def g2l_J7_fill_53178_15 (R5 : XS → Nat → Int → XR) (s : XS) (i0 : Nat) (x2_5 : Int) : XR := g3b_J7_fill_53178_15 R5 s x2_5 i0
noncomputable def L1_J7_fill_53178_15 (n : Nat) : XS → Nat → Int → XR := Nat.rec (motive := fun _ => XS → Nat → Int → XR) (fun s _ _ => (s, 0)) (fun _ R5 => g2l_J7_fill_53178_15 R5) n
noncomputable def f_J7_fill_53178_15 (s : XS) (i0 : Nat) (a1 : Int) : XR := L1_J7_fill_53178_15 (Int.toNat (4 - 0 + 1)) s i0 0
set_option maxHeartbeats 4000000 in
set_option maxRecDepth 100000 in
theorem c_J7_fill_53178_15 (l : Launch) (G : GG) (Z : RZ) (ad : Nat → Nat) (ws0 : va_W) (hT : Ty G SC ad ws0) (i0 : Nat) (hi0 : Kd SC i0 15) (a1 : Int32) (l1 : 0 ≤ a1.toInt) (u1 : a1.toInt ≤ 0) : Mq l yJ7_fill_53178 cJ7_fill_53178 4 none 1 G Z [.ref (ad i0), .int a1] ws0 (PV G SC ad [15] ws0 (fun u => (xso SC ad u = (f_J7_fill_53178_15 (xso SC ad ws0) i0 a1.toInt).1) ∧ (∀ k : Nat, k < 4 → aI u i0 k = a1) ∧ (Ud i0 ws0 u))) := by
  refine Mq.start (by decide) (Nat.le_of_ble_eq_true rfl) ?_
  intro p e s m below meth c A ls C0 hZ h hl
  have hl : lv_has ls 4 [(0, .ref (ad i0)), (1, .int a1)] := hl
  have h : Wt G SC ad A s s.heap [] ws0 := ⟨h, hT⟩
  obtain ⟨args, hargs⟩ : ∃ z, z = ([.ref (ad i0), .int a1] : List Value).toArray := ⟨_, rfl⟩
  rw [← hargs] at C0 ⊢
  have C0 : Cx p s m args meth c RJ7 cJ7_fill_53178 4 none := C0
  obtain ⟨Q, hQ⟩ : ∃ z, z = MQ below ((PV G SC ad [15] ws0 (fun u => (xso SC ad u = (f_J7_fill_53178_15 (xso SC ad ws0) i0 a1.toInt).1) ∧ (∀ k : Nat, k < 4 → aI u i0 k = a1) ∧ (Ud i0 ws0 u))) A) args s 0 0 A := ⟨_, rfl⟩
  rw [← hQ]
  obtain ⟨FT, hFT⟩ : ∃ z, z = f_J7_fill_53178_15 (xso SC ad ws0) i0 a1.toInt := ⟨_, rfl⟩
  have HE : FT = f_J7_fill_53178_15 (xso SC ad ws0) i0 a1.toInt := hFT
  refine y_c1 (n := 0) C0 (by decide) dJ7_fill_53178_0 (fun v_1 e_2 => ?_)
  refine lv_istore_n (lv' := [(2, .int v_1), (0, .ref (ad i0)), (1, .int a1)]) C0.1 C0.2.1 dJ7_fill_53178_1 rfl hl (by decide) rfl (fun ls hl => ?_)
  refine lv_aload_n C0.1 C0.2.1 dJ7_fill_53178_2 rfl (lv_at hl 1 rfl) ?_
  refine y_alenI (cA := G.2 0) C0 h hi0 rfl rfl (by decide) dJ7_fill_53178_3 (fun v_3 e_4 => ?_)
  refine lv_istore_n (lv' := [(3, .int v_3), (2, .int v_1), (0, .ref (ad i0)), (1, .int a1)]) C0.1 C0.2.1 dJ7_fill_53178_4 rfl hl (by decide) rfl (fun ls hl => ?_)
  have lp_8 : ∀ (n_10 : Nat) (x2_5 : Int32) (H : Heap) (locs : List Loc) (ls : Array Slot) (ws_6 : va_W), 4 - x2_5.toInt < (n_10 : Int) → 0 ≤ x2_5.toInt → x2_5.toInt ≤ 4 → (∀ k : Nat, (k : Int) < x2_5.toInt → aI ws_6 i0 k = a1) → (Ud i0 ws0 ws_6) → (FT = L1_J7_fill_53178_15 n_10 (xso SC ad ws_6) i0 x2_5.toInt) → Wt G SC ad A s H locs ws_6 → Fr SC [15] ws0 ws_6 → lv_has ls 4 [(3, .int v_3), (2, .int x2_5), (0, .ref (ad i0)), (1, .int a1)] → W p l e (rmd 1 0 0) s m args below meth c H locs 0 0 Q (F0 m 5 ls []) := by
    intro n_10
    induction n_10 with
    | zero => intro x2_5 H locs ls ws_6 hn_11 b_12 b_13 hfill hud HE h hF_7 hl; exact ((o16_1 b_12 b_13 hn_11)).elim
    | succ n_10 ih_9 =>
      intro x2_5 H locs ls ws_6 hn_11 b_12 b_13 hfill hud HE h hF_7 hl
      obtain ⟨R5, hR5⟩ : ∃ z, z = L1_J7_fill_53178_15 n_10 := ⟨_, rfl⟩
      replace HE : FT = g2l_J7_fill_53178_15 R5 (xso SC ad ws_6) i0 x2_5.toInt := HE.trans (by rw [hR5]; rfl)
      refine lv_iload_n C0.1 C0.2.1 dJ7_fill_53178_5 rfl (lv_at hl 1 rfl) ?_
      refine lv_iload_n C0.1 C0.2.1 dJ7_fill_53178_6 rfl (lv_at hl 0 rfl) ?_
      replace HE : FT = g3b_J7_fill_53178_15 R5 (xso SC ad ws_6) x2_5.toInt i0 := HE.trans rfl
      refine y_icmp_ge (tgt := 20) C0 dJ7_fill_53178_7 (by decide) (fun c_14 => ?_) (fun c_14 => ?_)
      · -- 7
        replace HE : FT = g4_J7_fill_53178_15 (xso SC ad ws_6) := HE.trans (if_neg (o16_3 e_4 b_12 b_13 hn_11 c_14))
        replace HE : FT = ((xso SC ad ws_6), 0) := HE.trans rfl
        rw [hQ]
        exact y_vret C0 h hF_7 ⟨(congrArg Prod.fst (HE.symm.trans hFT)), (fill_e (n := 4) hfill (o16_5 e_4 b_12 b_13 hn_11 c_14)), hud⟩ dJ7_fill_53178_20
      · -- 7
        replace HE : FT = g5_J7_fill_53178_15 R5 (xso SC ad ws_6) i0 x2_5.toInt := HE.trans (if_pos (o16_4 e_4 b_12 b_13 hn_11 c_14))
        refine lv_aload_n C0.1 C0.2.1 dJ7_fill_53178_10 rfl (lv_at hl 2 rfl) ?_
        refine lv_iload_n C0.1 C0.2.1 dJ7_fill_53178_11 rfl (lv_at hl 1 rfl) ?_
        refine lv_iload_n C0.1 C0.2.1 dJ7_fill_53178_12 rfl (lv_at hl 3 rfl) ?_
        have hO_17 := h.2
        refine y_iast C0 h hi0 rfl (by decide) (o16_6 e_4 b_12 b_13 hn_11 c_14) (o16_7 e_4 b_12 b_13 hn_11 c_14) (o16_18 l1 u1) (o16_19 l1 u1) dJ7_fill_53178_13 (fun H locs ws_15 h u_16 => ?_)
        replace HE : FT = g6w_J7_fill_53178_15 R5 (xso SC ad ws_15) i0 x2_5.toInt := HE.trans (by rw [(xso_A (i := i0) hO_17 h.2 hi0 rfl u_16), (o16_8 l1 u1)]; rfl)
        refine y_inc (kp := 1) (n := 1) (fun v_18 => [(2, .int v_18), (3, .int v_3), (0, .ref (ad i0)), (1, .int a1)]) C0 hl rfl (by decide) (by decide) (fun _ => rfl) (o16_9 e_4 b_12 b_13 hn_11 c_14 (le_min x2_5) (le_max x2_5) (le_min v_3) (le_max v_3)) (o16_10 e_4 b_12 b_13 hn_11 c_14 (le_min x2_5) (le_max x2_5) (le_min v_3) (le_max v_3)) dJ7_fill_53178_14 (fun v_18 ls e_19 hl => ?_)
        refine lv_goto (tgt := 5) C0.1 C0.2.1 dJ7_fill_53178_17 (by decide) ?_
        exact ih_9 v_18 _ _ _ _ (o16_11 e_4 b_12 b_13 hn_11 c_14 e_19) (o16_12 e_4 b_12 b_13 hn_11 c_14 e_19) (o16_13 e_4 b_12 b_13 hn_11 c_14 e_19) ((fill_s hfill u_16 (o16_14 e_4 b_12 b_13 hn_11 c_14 e_19) e_19)) ((hud.tr u_16.1)) (((show FT = R5 (xso SC ad ws_15) i0 v_18.toInt from HE.trans (by rw [e_19]; rfl)).trans (by rw [hR5]))) h (Fr.tr hF_7 (Fr.up u_16.1 hi0 (by decide))) (lv_sub hl [1, 0, 2, 3] rfl)
  exact lp_8 ((4 - v_1.toInt + 1).toNat) v_1 _ _ _ _ (o16_15 e_2) (o16_16 e_2) (o16_17 e_2) ((fill_0 e_2)) Ud.rf ((show FT = L1_J7_fill_53178_15 (Int.toNat (4 - v_1.toInt + 1)) (xso SC ad ws0) i0 v_1.toInt from HE.trans (by rw [e_2]; rfl))) h Fr.rf (lv_sub hl [0, 1, 2, 3] rfl)
noncomputable def g9w_X0_clear (s : XS) : XR := (s, 0)
noncomputable def g8w_X0_clear (s : XS) (i0 : Nat) : XR := g9w_X0_clear (xup s 0 i0 8 0)
noncomputable def g7w_X0_clear (s : XS) (i0 : Nat) : XR := g8w_X0_clear (xup s 0 i0 7 0) i0
noncomputable def g6w_X0_clear (s : XS) (i0 : Nat) : XR := g7w_X0_clear (xup s 0 i0 6 0) i0
noncomputable def g5c_X0_clear (s : XS) (i0 : Nat) : XR := g6w_X0_clear (xup s 0 i0 5 0) i0
noncomputable def g4c_X0_clear (s : XS) (i0 : Nat) : XR := g5c_X0_clear ((f_J7_fill_53178_15 s (i0 + 18) 0).1) i0
noncomputable def g3c_X0_clear (s : XS) (i0 : Nat) : XR := g4c_X0_clear ((f_J7_fill_53178_14 s (i0 + 17) 0).1) i0
noncomputable def g2c_X0_clear (s : XS) (i0 : Nat) : XR := g3c_X0_clear ((f_X1_clear s (i0 + 9)).1) i0
noncomputable def g1c_X0_clear (s : XS) (i0 : Nat) : XR := g2c_X0_clear ((f_X4_clear s (i0 + 5)).1) i0
noncomputable def f_X0_clear (s : XS) (i0 : Nat) : XR := g1c_X0_clear ((f_X4_clear s (i0 + 1)).1) i0
set_option maxHeartbeats 4000000 in
set_option maxRecDepth 100000 in
theorem c_X0_clear (l : Launch) (G : GG) (Z : RZ) (ad : Nat → Nat) (ws0 : va_W) (hT : Ty G SC ad ws0) (i0 : Nat) (hi0 : Kd SC i0 1) (hR : Rel ws0) : Mq l yX0_clear cX0_clear 1 none 3 G Z [.ref (ad i0)] ws0 (PV G SC ad [1, 2, 6, 11, 12, 13, 14, 15] ws0 (fun u => (xso SC ad u = (f_X0_clear (xso SC ad ws0) i0).1) ∧ (Rel u ))) := by
  refine Mq.start (by decide) (Nat.le_of_ble_eq_true rfl) ?_
  intro p e s m below meth c A ls C0 hZ h hl
  have hl : lv_has ls 1 [(0, .ref (ad i0))] := hl
  have h : Wt G SC ad A s s.heap [] ws0 := ⟨h, hT⟩
  obtain ⟨args, hargs⟩ : ∃ z, z = ([.ref (ad i0)] : List Value).toArray := ⟨_, rfl⟩
  rw [← hargs] at C0 ⊢
  have C0 : Cx p s m args meth c RX0 cX0_clear 1 none := C0
  obtain ⟨Q, hQ⟩ : ∃ z, z = MQ below ((PV G SC ad [1, 2, 6, 11, 12, 13, 14, 15] ws0 (fun u => (xso SC ad u = (f_X0_clear (xso SC ad ws0) i0).1) ∧ (Rel u ))) A) args s 0 0 A := ⟨_, rfl⟩
  rw [← hQ]
  obtain ⟨FT, hFT⟩ : ∃ z, z = f_X0_clear (xso SC ad ws0) i0 := ⟨_, rfl⟩
  have HE : FT = f_X0_clear (xso SC ad ws0) i0 := hFT
  refine lv_aload_n C0.1 C0.2.1 dX0_clear_0 rfl (lv_at hl 0 rfl) ?_
  refine tg_X0_priceLaw C0 h hi0 q_242 dX0_clear_1 ?_
  refine y_cv h (y_rV (As := []) (rest := []) C0 hZ h (c_X4_clear l G Z ad _ h.2 (i0 + 1) ((rSC_1_1 hi0))) k_X4_clear q_603 q_604 q_602 (rSC_1_1 hi0) rfl rfl rfl hl.1 rfl rfl (Nat.le_of_ble_eq_true rfl) dX0_clear_4 ⟨Nat.le_of_ble_eq_true rfl, Nat.le_of_ble_eq_true rfl⟩ ⟨Nat.le_of_ble_eq_true rfl, Nat.le_of_ble_eq_true rfl⟩) (fun H locs ws_1 h u_2 p_3 => ?_)
  have e_4 := p_3
  replace HE : FT = g1c_X0_clear (xso SC ad ws_1) i0 := HE.trans (by rw [e_4]; rfl)
  refine lv_aload_n C0.1 C0.2.1 dX0_clear_7 rfl (lv_at hl 0 rfl) ?_
  refine tg_X0_mayLaw C0 h hi0 q_244 dX0_clear_8 ?_
  refine y_cv h (y_rV (As := []) (rest := []) C0 hZ h (c_X4_clear l G Z ad _ h.2 (i0 + 5) ((rSC_1_5 hi0))) k_X4_clear q_603 q_604 q_602 (rSC_1_5 hi0) rfl rfl rfl hl.1 rfl rfl (Nat.le_of_ble_eq_true rfl) dX0_clear_11 ⟨Nat.le_of_ble_eq_true rfl, Nat.le_of_ble_eq_true rfl⟩ ⟨Nat.le_of_ble_eq_true rfl, Nat.le_of_ble_eq_true rfl⟩) (fun H locs ws_5 h u_6 p_7 => ?_)
  have e_8 := p_7
  replace HE : FT = g2c_X0_clear (xso SC ad ws_5) i0 := HE.trans (by rw [e_8]; rfl)
  refine lv_aload_n C0.1 C0.2.1 dX0_clear_14 rfl (lv_at hl 0 rfl) ?_
  refine tg_X0_folk C0 h hi0 q_247 dX0_clear_15 ?_
  refine y_cv h (y_rV (As := []) (rest := []) C0 hZ h (c_X1_clear l G Z ad _ h.2 (i0 + 9) ((rSC_1_9 hi0))) k_X1_clear q_607 q_608 q_606 (rSC_1_9 hi0) rfl rfl rfl hl.1 rfl rfl (Nat.le_of_ble_eq_true rfl) dX0_clear_18 ⟨Nat.le_of_ble_eq_true rfl, Nat.le_of_ble_eq_true rfl⟩ ⟨Nat.le_of_ble_eq_true rfl, Nat.le_of_ble_eq_true rfl⟩) (fun H locs ws_9 h u_10 p_11 => ?_)
  have e_12 := p_11
  replace HE : FT = g3c_X0_clear (xso SC ad ws_9) i0 := HE.trans (by rw [e_12]; rfl)
  refine lv_aload_n C0.1 C0.2.1 dX0_clear_21 rfl (lv_at hl 0 rfl) ?_
  refine tg_X0_streets C0 h hi0 q_252 dX0_clear_22 ?_
  refine y_c1 (n := 0) C0 (by decide) dX0_clear_25 (fun v_13 e_14 => ?_)
  refine y_cv h (y_rS (As := [.ref (ad (i0 + 17)), .int v_13]) (rest := []) C0 hZ h (c_J7_fill_53178_14 l G Z ad _ h.2 (i0 + 17) ((rSC_1_17 hi0)) v_13 (o16_16 e_14) (o16_20 e_14)) k_J7_fill_53178 q_611 q_613 hl.1 rfl rfl (Nat.le_of_ble_eq_true rfl) dX0_clear_26 ⟨Nat.le_of_ble_eq_true rfl, Nat.le_of_ble_eq_true rfl⟩ ⟨Nat.le_of_ble_eq_true rfl, Nat.le_of_ble_eq_true rfl⟩) (fun H locs ws_15 h u_16 p_17 => ?_)
  obtain ⟨e_18, e_19, e_20⟩ := p_17
  replace HE : FT = g4c_X0_clear (xso SC ad ws_15) i0 := HE.trans (by rw [e_18, e_14]; rfl)
  refine lv_aload_n C0.1 C0.2.1 dX0_clear_29 rfl (lv_at hl 0 rfl) ?_
  refine tg_X0_strides C0 h hi0 q_255 dX0_clear_30 ?_
  refine y_c1 (n := 0) C0 (by decide) dX0_clear_33 (fun v_21 e_22 => ?_)
  refine y_cv h (y_rS (As := [.ref (ad (i0 + 18)), .int v_21]) (rest := []) C0 hZ h (c_J7_fill_53178_15 l G Z ad _ h.2 (i0 + 18) ((rSC_1_18 hi0)) v_21 (o16_16 e_22) (o16_20 e_22)) k_J7_fill_53178 q_611 q_613 hl.1 rfl rfl (Nat.le_of_ble_eq_true rfl) dX0_clear_34 ⟨Nat.le_of_ble_eq_true rfl, Nat.le_of_ble_eq_true rfl⟩ ⟨Nat.le_of_ble_eq_true rfl, Nat.le_of_ble_eq_true rfl⟩) (fun H locs ws_23 h u_24 p_25 => ?_)
  obtain ⟨e_26, e_27, e_28⟩ := p_25
  replace HE : FT = g5c_X0_clear (xso SC ad ws_23) i0 := HE.trans (by rw [e_26, e_22]; rfl)
  refine lv_aload_n C0.1 C0.2.1 dX0_clear_37 rfl (lv_at hl 0 rfl) ?_
  refine y_c1 (n := 0) C0 (by decide) dX0_clear_38 (fun v_29 e_30 => ?_)
  refine tp_X0_wide C0 h hi0 q_256 (o16_16 e_30) (o16_21 e_30) dX0_clear_39 (fun H locs ws_31 h u_32 Xu_32 => ?_)
  replace HE : FT = g6w_X0_clear (xso SC ad ws_31) i0 := HE.trans (by rw [Xu_32, e_30]; rfl)
  refine lv_aload_n C0.1 C0.2.1 dX0_clear_42 rfl (lv_at hl 0 rfl) ?_
  refine y_c1 (n := 0) C0 (by decide) dX0_clear_43 (fun v_33 e_34 => ?_)
  refine tp_X0_high C0 h hi0 q_260 (o16_16 e_34) (o16_21 e_34) dX0_clear_44 (fun H locs ws_35 h u_36 Xu_36 => ?_)
  replace HE : FT = g7w_X0_clear (xso SC ad ws_35) i0 := HE.trans (by rw [Xu_36, e_34]; rfl)
  refine lv_aload_n C0.1 C0.2.1 dX0_clear_47 rfl (lv_at hl 0 rfl) ?_
  refine y_c1 (n := 0) C0 (by decide) dX0_clear_48 (fun v_37 e_38 => ?_)
  refine tp_X0_lines C0 h hi0 q_263 (le_min v_37) (le_max v_37) dX0_clear_49 (fun H locs ws_39 h u_40 Xu_40 => ?_)
  replace HE : FT = g8w_X0_clear (xso SC ad ws_39) i0 := HE.trans (by rw [Xu_40, e_38]; rfl)
  refine lv_aload_n C0.1 C0.2.1 dX0_clear_52 rfl (lv_at hl 0 rfl) ?_
  refine y_c1 (n := 0) C0 (by decide) dX0_clear_53 (fun v_41 e_42 => ?_)
  refine tp_X0_toldFree C0 h hi0 q_266 (le_min v_41) (le_max v_41) dX0_clear_54 (fun H locs ws_43 h u_44 Xu_44 => ?_)
  replace HE : FT = g9w_X0_clear (xso SC ad ws_43) := HE.trans (by rw [Xu_44, e_42]; rfl)
  replace HE : FT = ((xso SC ad ws_43), 0) := HE.trans rfl
  rw [hQ]
  exact y_vret C0 h (Fr.tr (Fr.tr (Fr.tr (Fr.tr (Fr.tr (Fr.tr (Fr.tr (Fr.tr (Fr.mono u_2 (by decide)) (Fr.mono u_6 (by decide))) (Fr.mono u_10 (by decide))) (Fr.mono u_16 (by decide))) (Fr.mono u_24 (by decide))) (Fr.up u_32.1 hi0 (by decide))) (Fr.up u_36.1 hi0 (by decide))) (Fr.up u_40.1 hi0 (by decide))) (Fr.up u_44.1 hi0 (by decide))) ⟨(congrArg Prod.fst (HE.symm.trans hFT)), (rel_fill (f := ws0) (M := [2, 6, 11, 12, 13]) (N := [1]) hR hi0 (Fr.tr (Fr.tr (Fr.mono u_2 (by decide)) (Fr.mono u_6 (by decide))) (Fr.mono u_10 (by decide))) (by decide) (by decide) e_14 ⟨e_19, e_20⟩ e_28 (Fr.tr (Fr.tr (Fr.tr (Fr.up u_32.1 hi0 (by decide)) (Fr.up u_36.1 hi0 (by decide))) (Fr.up u_40.1 hi0 (by decide))) (Fr.up u_44.1 hi0 (by decide))) (by decide) (by decide))⟩ dX0_clear_57
noncomputable def g9w_X0_copy (s : XS) : XR := (s, 0)
noncomputable def g8w_X0_copy (s : XS) (i0 : Nat) (i1 : Nat) : XR := g9w_X0_copy (xup s 0 i0 8 (s 0 i1 8))
noncomputable def g7w_X0_copy (s : XS) (i0 : Nat) (i1 : Nat) : XR := g8w_X0_copy (xup s 0 i0 7 (s 0 i1 7)) i0 i1
noncomputable def g6w_X0_copy (s : XS) (i0 : Nat) (i1 : Nat) : XR := g7w_X0_copy (xup s 0 i0 6 (s 0 i1 6)) i0 i1
noncomputable def g5w_X0_copy (s : XS) (i0 : Nat) (i1 : Nat) : XR := g6w_X0_copy (xup s 0 i0 5 (s 0 i1 5)) i0 i1
noncomputable def g4w_X0_copy (s : XS) (i0 : Nat) (i1 : Nat) : XR := g5w_X0_copy (xcp s (i1 + 18) (i0 + 18) 4) i0 i1
noncomputable def g3c_X0_copy (s : XS) (i0 : Nat) (i1 : Nat) : XR := g4w_X0_copy (xcp s (i1 + 17) (i0 + 17) 4) i0 i1
noncomputable def g2c_X0_copy (s : XS) (i0 : Nat) (i1 : Nat) : XR := g3c_X0_copy ((f_X1_copy s (i0 + 9) (i1 + 9)).1) i0 i1
noncomputable def g1c_X0_copy (s : XS) (i0 : Nat) (i1 : Nat) : XR := g2c_X0_copy ((f_X4_copy s (i0 + 5) (i1 + 5)).1) i0 i1
noncomputable def f_X0_copy (s : XS) (i0 : Nat) (i1 : Nat) : XR := g1c_X0_copy ((f_X4_copy s (i0 + 1) (i1 + 1)).1) i0 i1
set_option maxHeartbeats 4000000 in
set_option maxRecDepth 100000 in
theorem c_X0_copy (l : Launch) (G : GG) (Z : RZ) (ad : Nat → Nat) (ws0 : va_W) (hT : Ty G SC ad ws0) (i0 : Nat) (hi0 : Kd SC i0 1) (i1 : Nat) (hi1 : Kd SC i1 1) (hR : Rel ws0) : Mq l yX0_copy cX0_copy 2 none 2 G Z [.ref (ad i0), .ref (ad i1)] ws0 (PV G SC ad [1, 2, 3, 6, 7, 8, 9, 10, 11, 12, 13, 14, 15] ws0 (fun u => (xso SC ad u = (f_X0_copy (xso SC ad ws0) i0 i1).1) ∧ (Rel u ))) := by
  refine Mq.start (by decide) (Nat.le_of_ble_eq_true rfl) ?_
  intro p e s m below meth c A ls C0 hZ h hl
  have hl : lv_has ls 2 [(0, .ref (ad i0)), (1, .ref (ad i1))] := hl
  have h : Wt G SC ad A s s.heap [] ws0 := ⟨h, hT⟩
  obtain ⟨args, hargs⟩ : ∃ z, z = ([.ref (ad i0), .ref (ad i1)] : List Value).toArray := ⟨_, rfl⟩
  rw [← hargs] at C0 ⊢
  have C0 : Cx p s m args meth c RX0 cX0_copy 2 none := C0
  obtain ⟨Q, hQ⟩ : ∃ z, z = MQ below ((PV G SC ad [1, 2, 3, 6, 7, 8, 9, 10, 11, 12, 13, 14, 15] ws0 (fun u => (xso SC ad u = (f_X0_copy (xso SC ad ws0) i0 i1).1) ∧ (Rel u ))) A) args s 0 0 A := ⟨_, rfl⟩
  rw [← hQ]
  obtain ⟨FT, hFT⟩ : ∃ z, z = f_X0_copy (xso SC ad ws0) i0 i1 := ⟨_, rfl⟩
  have HE : FT = f_X0_copy (xso SC ad ws0) i0 i1 := hFT
  refine lv_aload_n C0.1 C0.2.1 dX0_copy_0 rfl (lv_at hl 0 rfl) ?_
  refine tg_X0_priceLaw C0 h hi0 q_242 dX0_copy_1 ?_
  refine lv_aload_n C0.1 C0.2.1 dX0_copy_4 rfl (lv_at hl 1 rfl) ?_
  refine tg_X0_priceLaw C0 h hi1 q_242 dX0_copy_5 ?_
  refine y_cv h (y_rV (As := [.ref (ad (i1 + 1))]) (rest := []) C0 hZ h (c_X4_copy l G Z ad _ h.2 (i0 + 1) ((rSC_1_1 hi0)) (i1 + 1) ((rSC_1_1 hi1))) k_X4_copy q_861 q_862 q_860 (rSC_1_1 hi0) rfl rfl rfl hl.1 rfl rfl (Nat.le_of_ble_eq_true rfl) dX0_copy_8 ⟨Nat.le_of_ble_eq_true rfl, Nat.le_of_ble_eq_true rfl⟩ ⟨Nat.le_of_ble_eq_true rfl, Nat.le_of_ble_eq_true rfl⟩) (fun H locs ws_1 h u_2 p_3 => ?_)
  have e_4 := p_3
  replace HE : FT = g1c_X0_copy (xso SC ad ws_1) i0 i1 := HE.trans (by rw [e_4]; rfl)
  refine lv_aload_n C0.1 C0.2.1 dX0_copy_11 rfl (lv_at hl 0 rfl) ?_
  refine tg_X0_mayLaw C0 h hi0 q_244 dX0_copy_12 ?_
  refine lv_aload_n C0.1 C0.2.1 dX0_copy_15 rfl (lv_at hl 1 rfl) ?_
  refine tg_X0_mayLaw C0 h hi1 q_244 dX0_copy_16 ?_
  refine y_cv h (y_rV (As := [.ref (ad (i1 + 5))]) (rest := []) C0 hZ h (c_X4_copy l G Z ad _ h.2 (i0 + 5) ((rSC_1_5 hi0)) (i1 + 5) ((rSC_1_5 hi1))) k_X4_copy q_861 q_862 q_860 (rSC_1_5 hi0) rfl rfl rfl hl.1 rfl rfl (Nat.le_of_ble_eq_true rfl) dX0_copy_19 ⟨Nat.le_of_ble_eq_true rfl, Nat.le_of_ble_eq_true rfl⟩ ⟨Nat.le_of_ble_eq_true rfl, Nat.le_of_ble_eq_true rfl⟩) (fun H locs ws_5 h u_6 p_7 => ?_)
  have e_8 := p_7
  replace HE : FT = g2c_X0_copy (xso SC ad ws_5) i0 i1 := HE.trans (by rw [e_8]; rfl)
  refine lv_aload_n C0.1 C0.2.1 dX0_copy_22 rfl (lv_at hl 0 rfl) ?_
  refine tg_X0_folk C0 h hi0 q_247 dX0_copy_23 ?_
  refine lv_aload_n C0.1 C0.2.1 dX0_copy_26 rfl (lv_at hl 1 rfl) ?_
  refine tg_X0_folk C0 h hi1 q_247 dX0_copy_27 ?_
  refine y_cv h (y_rV (As := [.ref (ad (i1 + 9))]) (rest := []) C0 hZ h (c_X1_copy l G Z ad _ h.2 (i0 + 9) ((rSC_1_9 hi0)) (i1 + 9) ((rSC_1_9 hi1))) k_X1_copy q_868 q_869 q_867 (rSC_1_9 hi0) rfl rfl rfl hl.1 rfl rfl (Nat.le_of_ble_eq_true rfl) dX0_copy_30 ⟨Nat.le_of_ble_eq_true rfl, Nat.le_of_ble_eq_true rfl⟩ ⟨Nat.le_of_ble_eq_true rfl, Nat.le_of_ble_eq_true rfl⟩) (fun H locs ws_9 h u_10 p_11 => ?_)
  obtain ⟨e_12, e_13⟩ := p_11
  replace HE : FT = g3c_X0_copy (xso SC ad ws_9) i0 i1 := HE.trans (by rw [e_12]; rfl)
  refine lv_aload_n C0.1 C0.2.1 dX0_copy_33 rfl (lv_at hl 1 rfl) ?_
  refine tg_X0_streets C0 h hi1 q_252 dX0_copy_34 ?_
  refine y_c1 (n := 0) C0 (by decide) dX0_copy_37 (fun v_14 e_15 => ?_)
  refine lv_aload_n C0.1 C0.2.1 dX0_copy_38 rfl (lv_at hl 0 rfl) ?_
  refine tg_X0_streets C0 h hi0 q_252 dX0_copy_39 ?_
  refine y_c1 (n := 0) C0 (by decide) dX0_copy_42 (fun v_16 e_17 => ?_)
  refine y_c1 (n := 4) C0 (by decide) dX0_copy_43 (fun v_18 e_19 => ?_)
  have hO_24 := h.2
  refine y_copy C0 h hl.1 (rSC_1_17 hi1) (rSC_1_17 hi0) rfl rfl q_872 q_866 q_865 q_145 (o16_22 e_15) (o16_22 e_17) (o16_23 e_19) (o16_24 e_19) (o16_24 e_19) (fun _ _ => ⟨by decide, by decide⟩) (Nat.le_of_ble_eq_true rfl) (Nat.le_of_ble_eq_true rfl) dX0_copy_44 (fun H locs ws_20 h u_21 c_22 c_23 => ?_)
  replace HE : FT = g4w_X0_copy (xso SC ad ws_20) i0 i1 := HE.trans (by rw [(xso_C (i := i0 + 17) (j := i1 + 17) hO_24 h.2 (rSC_1_17 hi0) rfl u_21 c_22 c_23), e_19]; rfl)
  refine lv_aload_n C0.1 C0.2.1 dX0_copy_47 rfl (lv_at hl 1 rfl) ?_
  refine tg_X0_strides C0 h hi1 q_255 dX0_copy_48 ?_
  refine y_c1 (n := 0) C0 (by decide) dX0_copy_51 (fun v_25 e_26 => ?_)
  refine lv_aload_n C0.1 C0.2.1 dX0_copy_52 rfl (lv_at hl 0 rfl) ?_
  refine tg_X0_strides C0 h hi0 q_255 dX0_copy_53 ?_
  refine y_c1 (n := 0) C0 (by decide) dX0_copy_56 (fun v_27 e_28 => ?_)
  refine y_c1 (n := 4) C0 (by decide) dX0_copy_57 (fun v_29 e_30 => ?_)
  have hO_35 := h.2
  refine y_copy C0 h hl.1 (rSC_1_18 hi1) (rSC_1_18 hi0) rfl rfl q_872 q_866 q_865 q_145 (o16_22 e_26) (o16_22 e_28) (o16_23 e_30) (o16_24 e_30) (o16_24 e_30) (fun _ _ => ⟨by decide, by decide⟩) (Nat.le_of_ble_eq_true rfl) (Nat.le_of_ble_eq_true rfl) dX0_copy_58 (fun H locs ws_31 h u_32 c_33 c_34 => ?_)
  replace HE : FT = g5w_X0_copy (xso SC ad ws_31) i0 i1 := HE.trans (by rw [(xso_C (i := i0 + 18) (j := i1 + 18) hO_35 h.2 (rSC_1_18 hi0) rfl u_32 c_33 c_34), e_30]; rfl)
  refine lv_aload_n C0.1 C0.2.1 dX0_copy_61 rfl (lv_at hl 0 rfl) ?_
  refine lv_aload_n C0.1 C0.2.1 dX0_copy_62 rfl (lv_at hl 1 rfl) ?_
  refine tg_X0_wide C0 h hi1 q_256 dX0_copy_63 (fun v_36 e_37 e_38 e_39 => ?_)
  refine tp_X0_wide C0 h hi0 q_256 (o16_25 e_38 e_39) (o16_26 e_38 e_39) dX0_copy_66 (fun H locs ws_40 h u_41 Xu_41 => ?_)
  replace HE : FT = g6w_X0_copy (xso SC ad ws_40) i0 i1 := HE.trans (by rw [Xu_41, (xg0 e_37 : v_36.toInt = (xso SC ad ws_31) 0 i1 5)]; rfl)
  refine lv_aload_n C0.1 C0.2.1 dX0_copy_69 rfl (lv_at hl 0 rfl) ?_
  refine lv_aload_n C0.1 C0.2.1 dX0_copy_70 rfl (lv_at hl 1 rfl) ?_
  refine tg_X0_high C0 h hi1 q_260 dX0_copy_71 (fun v_42 e_43 e_44 e_45 => ?_)
  refine tp_X0_high C0 h hi0 q_260 (o16_25 e_44 e_45) (o16_26 e_44 e_45) dX0_copy_74 (fun H locs ws_46 h u_47 Xu_47 => ?_)
  replace HE : FT = g7w_X0_copy (xso SC ad ws_46) i0 i1 := HE.trans (by rw [Xu_47, (xg0 e_43 : v_42.toInt = (xso SC ad ws_40) 0 i1 6)]; rfl)
  refine lv_aload_n C0.1 C0.2.1 dX0_copy_77 rfl (lv_at hl 0 rfl) ?_
  refine lv_aload_n C0.1 C0.2.1 dX0_copy_78 rfl (lv_at hl 1 rfl) ?_
  refine tg_X0_lines C0 h hi1 q_263 dX0_copy_79 (fun v_48 e_49 e_50 e_51 => ?_)
  refine tp_X0_lines C0 h hi0 q_263 (le_min v_48) (le_max v_48) dX0_copy_82 (fun H locs ws_52 h u_53 Xu_53 => ?_)
  replace HE : FT = g8w_X0_copy (xso SC ad ws_52) i0 i1 := HE.trans (by rw [Xu_53, (xg0 e_49 : v_48.toInt = (xso SC ad ws_46) 0 i1 7)]; rfl)
  refine lv_aload_n C0.1 C0.2.1 dX0_copy_85 rfl (lv_at hl 0 rfl) ?_
  refine lv_aload_n C0.1 C0.2.1 dX0_copy_86 rfl (lv_at hl 1 rfl) ?_
  refine tg_X0_toldFree C0 h hi1 q_266 dX0_copy_87 (fun v_54 e_55 e_56 e_57 => ?_)
  refine tp_X0_toldFree C0 h hi0 q_266 (le_min v_54) (le_max v_54) dX0_copy_90 (fun H locs ws_58 h u_59 Xu_59 => ?_)
  replace HE : FT = g9w_X0_copy (xso SC ad ws_58) := HE.trans (by rw [Xu_59, (xg0 e_55 : v_54.toInt = (xso SC ad ws_52) 0 i1 8)]; rfl)
  replace HE : FT = ((xso SC ad ws_58), 0) := HE.trans rfl
  rw [hQ]
  exact y_vret C0 h (Fr.tr (Fr.tr (Fr.tr (Fr.tr (Fr.tr (Fr.tr (Fr.tr (Fr.tr (Fr.mono u_2 (by decide)) (Fr.mono u_6 (by decide))) (Fr.mono u_10 (by decide))) (Fr.up u_21 (rSC_1_17 hi0) (by decide))) (Fr.up u_32 (rSC_1_18 hi0) (by decide))) (Fr.up u_41.1 hi0 (by decide))) (Fr.up u_47.1 hi0 (by decide))) (Fr.up u_53.1 hi0 (by decide))) (Fr.up u_59.1 hi0 (by decide))) ⟨(congrArg Prod.fst (HE.symm.trans hFT)), (rel_copy (M := [2, 3, 6, 7, 8, 9, 10, 11, 12, 13]) (N := [1]) hR hi0 hi1 (Fr.tr (Fr.tr (Fr.mono u_2 (by decide)) (Fr.mono u_6 (by decide))) (Fr.mono u_10 (by decide))) (by decide) (by decide) e_19 e_30 u_21 c_22 u_32 c_33 (Fr.tr (Fr.tr (Fr.tr (Fr.up u_41.1 hi0 (by decide)) (Fr.up u_47.1 hi0 (by decide))) (Fr.up u_53.1 hi0 (by decide))) (Fr.up u_59.1 hi0 (by decide))) (by decide) (by decide))⟩ dX0_copy_93
noncomputable def g3_X0_block (s : XS) : XR := (s, 0)
noncomputable def g6w_X0_block (s : XS) : XR := (s, 0)
noncomputable def g5w_X0_block (s : XS) (i0 : Nat) (a2 : Int) (r_4 : Int) : XR := g6w_X0_block (xup s 1 (i0 + 17) (Int.toNat (Xiand (a2 + 2) 3)) ((Xiand (s 1 (i0 + 17) (Int.toNat (Xiand (a2 + 2) 3))) (Xixor (Xishl 1 r_4) ((-1))))))
noncomputable def g4_X0_block (s : XS) (i0 : Nat) (a1 : Int) (a2 : Int) (r_4 : Int) : XR := g5w_X0_block (xup s 1 (i0 + 17) (Int.toNat a2) ((Xiand (s 1 (i0 + 17) (Int.toNat a2)) (Xixor (Xishl 1 a1) ((-1)))))) i0 a2 r_4
noncomputable def g2b_X0_block (s : XS) (r_4 : Int) (i0 : Nat) (a1 : Int) (a2 : Int) : XR := if r_4 < 0 then g3_X0_block s else g4_X0_block s i0 a1 a2 r_4
noncomputable def g1c_X0_block (s : XS) (r_4 : Int) (i0 : Nat) (a1 : Int) (a2 : Int) : XR := g2b_X0_block s r_4 i0 a1 a2
noncomputable def f_X0_block (s : XS) (i0 : Nat) (a1 : Int) (a2 : Int) : XR := g1c_X0_block ((f_X0_to s i0 a1 a2).1) (((f_X0_to s i0 a1 a2).2)) i0 a1 a2
set_option maxHeartbeats 4000000 in
set_option maxRecDepth 100000 in
theorem c_X0_block (l : Launch) (G : GG) (Z : RZ) (ad : Nat → Nat) (ws0 : va_W) (hT : Ty G SC ad ws0) (i0 : Nat) (hi0 : Kd SC i0 1) (a1 : Int32) (a2 : Int32) (l1 : 0 ≤ a1.toInt) (u1 : a1.toInt ≤ 24) (l2 : 0 ≤ a2.toInt) (u2 : a2.toInt ≤ 3) (hR : Rel ws0) : Mq l yX0_block cX0_block 4 none 2 G Z [.ref (ad i0), .int a1, .int a2] ws0 (PV G SC ad [14] ws0 (fun u => (xso SC ad u = (f_X0_block (xso SC ad ws0) i0 a1.toInt a2.toInt).1) ∧ (Rel u))) := by
  refine Mq.start (by decide) (Nat.le_of_ble_eq_true rfl) ?_
  intro p e s m below meth c A ls C0 hZ h hl
  have hl : lv_has ls 4 [(0, .ref (ad i0)), (1, .int a1), (2, .int a2)] := hl
  have h : Wt G SC ad A s s.heap [] ws0 := ⟨h, hT⟩
  obtain ⟨args, hargs⟩ : ∃ z, z = ([.ref (ad i0), .int a1, .int a2] : List Value).toArray := ⟨_, rfl⟩
  rw [← hargs] at C0 ⊢
  have C0 : Cx p s m args meth c RX0 cX0_block 4 none := C0
  obtain ⟨Q, hQ⟩ : ∃ z, z = MQ below ((PV G SC ad [14] ws0 (fun u => (xso SC ad u = (f_X0_block (xso SC ad ws0) i0 a1.toInt a2.toInt).1) ∧ (Rel u))) A) args s 0 0 A := ⟨_, rfl⟩
  rw [← hQ]
  obtain ⟨FT, hFT⟩ : ∃ z, z = f_X0_block (xso SC ad ws0) i0 a1.toInt a2.toInt := ⟨_, rfl⟩
  have HE : FT = f_X0_block (xso SC ad ws0) i0 a1.toInt a2.toInt := hFT
  refine lv_aload_n C0.1 C0.2.1 dX0_block_0 rfl (lv_at hl 0 rfl) ?_
  refine lv_iload_n C0.1 C0.2.1 dX0_block_1 rfl (lv_at hl 1 rfl) ?_
  refine lv_iload_n C0.1 C0.2.1 dX0_block_2 rfl (lv_at hl 2 rfl) ?_
  refine y_ci h (y_rV (As := [.int a1, .int a2]) (rest := []) C0 hZ h (c_X0_to l G Z ad _ h.2 i0 hi0 a1 a2 (o16_27 l1 u1) (o16_28 l1 u1) (o16_29 l2 u2) (o16_30 l2 u2) hR) k_X0_to q_773 q_774 q_772 hi0 rfl rfl rfl hl.1 rfl rfl (Nat.le_of_ble_eq_true rfl) dX0_block_3 ⟨Nat.le_of_ble_eq_true rfl, Nat.le_of_ble_eq_true rfl⟩ ⟨Nat.le_of_ble_eq_true rfl, Nat.le_of_ble_eq_true rfl⟩) (fun r_4 H locs ws_1 h u_2 p_3 => ?_)
  obtain ⟨e_5, e_6, e_7, e_8, e_9⟩ := p_3
  replace HE : FT = g1c_X0_block (xso SC ad ws_1) r_4.toInt i0 a1.toInt a2.toInt := HE.trans (by rw [e_5, e_6]; rfl)
  refine lv_istore_n (lv' := [(3, .int r_4), (0, .ref (ad i0)), (1, .int a1), (2, .int a2)]) C0.1 C0.2.1 dX0_block_6 rfl hl (by decide) rfl (fun ls hl => ?_)
  refine lv_iload_n C0.1 C0.2.1 dX0_block_7 rfl (lv_at hl 0 rfl) ?_
  replace HE : FT = g2b_X0_block (xso SC ad ws_1) r_4.toInt i0 a1.toInt a2.toInt := HE.trans rfl
  refine y_if_lt (tgt := 43) C0 dX0_block_8 (by decide) (fun c_10 => ?_) (fun c_10 => ?_)
  · -- 8
    replace HE : FT = g3_X0_block (xso SC ad ws_1) := HE.trans (if_pos c_10)
    replace HE : FT = ((xso SC ad ws_1), 0) := HE.trans rfl
    rw [hQ]
    exact y_vret C0 h (Fr.mono u_2 (by decide)) ⟨(congrArg Prod.fst (HE.symm.trans hFT)), (Rel.fr (M := []) hR u_2 (by decide) (by decide))⟩ dX0_block_43
  · -- 8
    replace HE : FT = g4_X0_block (xso SC ad ws_1) i0 a1.toInt a2.toInt r_4.toInt := HE.trans (if_neg (Int.not_lt.mpr c_10))
    refine lv_aload_n C0.1 C0.2.1 dX0_block_11 rfl (lv_at hl 1 rfl) ?_
    refine tg_X0_streets C0 h hi0 q_252 dX0_block_12 ?_
    refine lv_iload_n C0.1 C0.2.1 dX0_block_15 rfl (lv_at hl 3 rfl) ?_
    refine lv_dup2_11 C0.1 C0.2.1 dX0_block_16 rfl rfl ?_
    refine y_iald C0 h (rSC_1_17 hi0) rfl (by decide) (o16_29 l2 u2) (o16_31 l2 u2) dX0_block_17 (fun v_11 e_12 e_13 e_14 => ?_)
    refine y_c1 (n := 1) C0 (by decide) dX0_block_18 (fun v_15 e_16 => ?_)
    refine lv_iload_n C0.1 C0.2.1 dX0_block_19 rfl (lv_at hl 2 rfl) ?_
    refine xr_ishl C0 dX0_block_20 (fun v_17 e_18 => ?_)
    refine y_c1 (n := (-1)) C0 (by decide) dX0_block_21 (fun v_19 e_20 => ?_)
    refine y_ixorX C0 dX0_block_22 (fun v_22 e_21 => ?_)
    refine y_iandX C0 dX0_block_23 (fun v_24 e_23 => ?_)
    have hO_27 := h.2
    refine y_iast C0 h (rSC_1_17 hi0) rfl (by decide) (o16_29 l2 u2) (o16_31 l2 u2) (le_min v_24) (le_max v_24) dX0_block_24 (fun H locs ws_25 h u_26 => ?_)
    replace HE : FT = g5w_X0_block (xso SC ad ws_25) i0 a2.toInt r_4.toInt := HE.trans (by rw [(xso_A (i := i0 + 17) hO_27 h.2 (rSC_1_17 hi0) rfl u_26), (ix_iand e_23), (ix_ixor e_21), e_20, e_18, e_16, (xg1 e_12 : v_11.toInt = (xso SC ad ws_1) 1 (i0 + 17) a2.toInt.toNat)]; rfl)
    have hR_28 : Rel ws_25 := rel_clr (Rel.fr (M := []) hR u_2 (by decide) (by decide)) hi0 u_26 e_12 e_23
    refine lv_aload_n C0.1 C0.2.1 dX0_block_25 rfl (lv_at hl 1 rfl) ?_
    refine tg_X0_streets C0 h hi0 q_252 dX0_block_26 ?_
    refine lv_iload_n C0.1 C0.2.1 dX0_block_29 rfl (lv_at hl 3 rfl) ?_
    refine y_c1 (n := 2) C0 (by decide) dX0_block_30 (fun v_29 e_30 => ?_)
    refine y_add C0 (o16_32 l2 u2 e_30 (le_min a2) (le_max a2) (le_min v_29) (le_max v_29)) (o16_33 l2 u2 e_30 (le_min a2) (le_max a2) (le_min v_29) (le_max v_29)) dX0_block_31 (fun v_31 e_32 => ?_)
    refine y_c1 (n := 3) C0 (by decide) dX0_block_32 (fun v_33 e_34 => ?_)
    refine xr_iand C0 dX0_block_33 (fun v_35 e_36 => ?_)
    refine lv_dup2_11 C0.1 C0.2.1 dX0_block_34 rfl rfl ?_
    refine y_iald C0 h (rSC_1_17 hi0) rfl (by decide) (o16_29 (xb_and 3 2 (n := 3) e_36 (Eq.trans (o16_34 e_34) (by decide)) (by decide) (by decide) (by decide)).1 (xb_and 3 2 (n := 3) e_36 (Eq.trans (o16_34 e_34) (by decide)) (by decide) (by decide) (by decide)).2) (o16_31 (xb_and 3 2 (n := 3) e_36 (Eq.trans (o16_34 e_34) (by decide)) (by decide) (by decide) (by decide)).1 (xb_and 3 2 (n := 3) e_36 (Eq.trans (o16_34 e_34) (by decide)) (by decide) (by decide) (by decide)).2) dX0_block_35 (fun v_37 e_38 e_39 e_40 => ?_)
    refine y_c1 (n := 1) C0 (by decide) dX0_block_36 (fun v_41 e_42 => ?_)
    refine lv_iload_n C0.1 C0.2.1 dX0_block_37 rfl (lv_at hl 0 rfl) ?_
    refine xr_ishl C0 dX0_block_38 (fun v_43 e_44 => ?_)
    refine y_c1 (n := (-1)) C0 (by decide) dX0_block_39 (fun v_45 e_46 => ?_)
    refine y_ixorX C0 dX0_block_40 (fun v_48 e_47 => ?_)
    refine y_iandX C0 dX0_block_41 (fun v_50 e_49 => ?_)
    have hO_53 := h.2
    refine y_iast C0 h (rSC_1_17 hi0) rfl (by decide) (o16_29 (xb_and 3 2 (n := 3) e_36 (Eq.trans (o16_34 e_34) (by decide)) (by decide) (by decide) (by decide)).1 (xb_and 3 2 (n := 3) e_36 (Eq.trans (o16_34 e_34) (by decide)) (by decide) (by decide) (by decide)).2) (o16_31 (xb_and 3 2 (n := 3) e_36 (Eq.trans (o16_34 e_34) (by decide)) (by decide) (by decide) (by decide)).1 (xb_and 3 2 (n := 3) e_36 (Eq.trans (o16_34 e_34) (by decide)) (by decide) (by decide) (by decide)).2) (le_min v_50) (le_max v_50) dX0_block_42 (fun H locs ws_51 h u_52 => ?_)
    replace HE : FT = g6w_X0_block (xso SC ad ws_51) := HE.trans (by rw [(xso_A (i := i0 + 17) hO_53 h.2 (rSC_1_17 hi0) rfl u_52), (ix_iand e_49), (ix_ixor e_47), e_46, e_44, e_42, (xg1 e_38 : v_37.toInt = (xso SC ad ws_25) 1 (i0 + 17) v_35.toInt.toNat), e_36, e_34, e_32, e_30]; rfl)
    have hR_54 : Rel ws_51 := rel_clr hR_28 hi0 u_52 e_38 e_49
    replace HE : FT = ((xso SC ad ws_51), 0) := HE.trans rfl
    rw [hQ]
    exact y_vret C0 h (Fr.tr (Fr.tr (Fr.mono u_2 (by decide)) (Fr.up u_26.1 (rSC_1_17 hi0) (by decide))) (Fr.up u_52.1 (rSC_1_17 hi0) (by decide))) ⟨(congrArg Prod.fst (HE.symm.trans hFT)), hR_54⟩ dX0_block_43
noncomputable def g15w_X0_lay (s : XS) : XR := (s, 0)
noncomputable def g14w_X0_lay (s : XS) (i0 : Nat) : XR := g15w_X0_lay (xup s 1 (i0 + 18) (Int.toNat 3) (((-1))))
noncomputable def g13w_X0_lay (s : XS) (i0 : Nat) (a1 : Int) : XR := g14w_X0_lay (xup s 1 (i0 + 18) (Int.toNat 2) (a1)) i0
noncomputable def g12w_X0_lay (s : XS) (i0 : Nat) (a1 : Int) : XR := g13w_X0_lay (xup s 1 (i0 + 18) (Int.toNat 1) (1)) i0 a1
noncomputable def g11w_X0_lay (s : XS) (i0 : Nat) (a1 : Int) : XR := g12w_X0_lay (xup s 1 (i0 + 18) (Int.toNat 0) ((-a1))) i0 a1
noncomputable def g10w_X0_lay (s : XS) (i0 : Nat) (a1 : Int) (v_14 : Int) (x4_20 : Int) : XR := g11w_X0_lay (xup s 1 (i0 + 17) (Int.toNat 3) ((Xiand v_14 (Xixor x4_20 ((-1)))))) i0 a1
noncomputable def g9w_X0_lay (s : XS) (i0 : Nat) (a1 : Int) (v_14 : Int) (x4_20 : Int) : XR := g10w_X0_lay (xup s 1 (i0 + 17) (Int.toNat 2) ((Xishr v_14 a1))) i0 a1 v_14 x4_20
noncomputable def g8w_X0_lay (s : XS) (i0 : Nat) (a1 : Int) (v_14 : Int) (x4_20 : Int) : XR := g9w_X0_lay (xup s 1 (i0 + 17) (Int.toNat 1) ((Xiand v_14 (Xixor (Xishl x4_20 (Xisub a1 1)) ((-1)))))) i0 a1 v_14 x4_20
noncomputable def g6_X0_lay (s : XS) (i0 : Nat) (a1 : Int) (v_14 : Int) (x4_20 : Int) : XR := g8w_X0_lay (xup s 1 (i0 + 17) (Int.toNat 0) ((Xiand v_14 (Xixor (Xisub (Xishl 1 a1) 1) ((-1)))))) i0 a1 v_14 x4_20
noncomputable def g7_X0_lay (R24 : XS → Nat → Int → Int → Int → Int → Int → XR) (s : XS) (i0 : Nat) (a1 : Int) (a2 : Int) (v_14 : Int) (x4_20 : Int) (x5_19 : Int) : XR := R24 s i0 a1 a2 v_14 ((Xior x4_20 (Xishl 1 (Ximul x5_19 a1)))) ((x5_19 + 1))
noncomputable def g5b_X0_lay (R24 : XS → Nat → Int → Int → Int → Int → Int → XR) (s : XS) (a2 : Int) (x5_19 : Int) (i0 : Nat) (a1 : Int) (v_14 : Int) (x4_20 : Int) : XR := if x5_19 < a2 then g7_X0_lay R24 s i0 a1 a2 v_14 x4_20 x5_19 else g6_X0_lay s i0 a1 v_14 x4_20
noncomputable def g4l_X0_lay (R24 : XS → Nat → Int → Int → Int → Int → Int → XR) (s : XS) (i0 : Nat) (a1 : Int) (a2 : Int) (v_14 : Int) (x4_20 : Int) (x5_19 : Int) : XR := g5b_X0_lay R24 s a2 x5_19 i0 a1 v_14 x4_20
noncomputable def L3_X0_lay (n : Nat) : XS → Nat → Int → Int → Int → Int → Int → XR := Nat.rec (motive := fun _ => XS → Nat → Int → Int → Int → Int → Int → XR) (fun s _ _ _ _ _ _ => (s, 0)) (fun _ R24 => g4l_X0_lay R24) n
noncomputable def g2w_X0_lay (s : XS) (i0 : Nat) (a1 : Int) (a2 : Int) : XR := L3_X0_lay (Int.toNat (5 - 0 + 1)) s i0 a1 a2 ((Xisub (Xishl 1 (Ximul a1 a2)) 1)) 0 0
noncomputable def g1w_X0_lay (s : XS) (i0 : Nat) (a1 : Int) (a2 : Int) : XR := g2w_X0_lay (xup s 0 i0 6 a2) i0 a1 a2
noncomputable def f_X0_lay (s : XS) (i0 : Nat) (a1 : Int) (a2 : Int) : XR := g1w_X0_lay (xup s 0 i0 5 a1) i0 a1 a2
set_option maxHeartbeats 4000000 in
set_option maxRecDepth 100000 in
theorem c_X0_lay (l : Launch) (G : GG) (Z : RZ) (ad : Nat → Nat) (ws0 : va_W) (hT : Ty G SC ad ws0) (i0 : Nat) (hi0 : Kd SC i0 1) (a1 : Int32) (a2 : Int32) (l1 : 2 ≤ a1.toInt) (u1 : a1.toInt ≤ 5) (l2 : 2 ≤ a2.toInt) (u2 : a2.toInt ≤ 5) (hR : Rel ws0) : Mq l yX0_lay cX0_lay 6 none 1 G Z [.ref (ad i0), .int a1, .int a2] ws0 (PV G SC ad [1, 14, 15] ws0 (fun u => (xso SC ad u = (f_X0_lay (xso SC ad ws0) i0 a1.toInt a2.toInt).1) ∧ (Rel u ))) := by
  refine Mq.start (by decide) (Nat.le_of_ble_eq_true rfl) ?_
  intro p e s m below meth c A ls C0 hZ h hl
  have hl : lv_has ls 6 [(0, .ref (ad i0)), (1, .int a1), (2, .int a2)] := hl
  have h : Wt G SC ad A s s.heap [] ws0 := ⟨h, hT⟩
  obtain ⟨args, hargs⟩ : ∃ z, z = ([.ref (ad i0), .int a1, .int a2] : List Value).toArray := ⟨_, rfl⟩
  rw [← hargs] at C0 ⊢
  have C0 : Cx p s m args meth c RX0 cX0_lay 6 none := C0
  obtain ⟨Q, hQ⟩ : ∃ z, z = MQ below ((PV G SC ad [1, 14, 15] ws0 (fun u => (xso SC ad u = (f_X0_lay (xso SC ad ws0) i0 a1.toInt a2.toInt).1) ∧ (Rel u ))) A) args s 0 0 A := ⟨_, rfl⟩
  rw [← hQ]
  obtain ⟨FT, hFT⟩ : ∃ z, z = f_X0_lay (xso SC ad ws0) i0 a1.toInt a2.toInt := ⟨_, rfl⟩
  have HE : FT = f_X0_lay (xso SC ad ws0) i0 a1.toInt a2.toInt := hFT
  refine lv_aload_n C0.1 C0.2.1 dX0_lay_0 rfl (lv_at hl 0 rfl) ?_
  refine lv_iload_n C0.1 C0.2.1 dX0_lay_1 rfl (lv_at hl 1 rfl) ?_
  refine tp_X0_wide C0 h hi0 q_256 (o16_35 l1 u1) (o16_36 l1 u1) dX0_lay_2 (fun H locs ws_1 h u_2 Xu_2 => ?_)
  replace HE : FT = g1w_X0_lay (xso SC ad ws_1) i0 a1.toInt a2.toInt := HE.trans (by rw [Xu_2]; rfl)
  refine lv_aload_n C0.1 C0.2.1 dX0_lay_5 rfl (lv_at hl 0 rfl) ?_
  refine lv_iload_n C0.1 C0.2.1 dX0_lay_6 rfl (lv_at hl 2 rfl) ?_
  refine tp_X0_high C0 h hi0 q_260 (o16_35 l2 u2) (o16_36 l2 u2) dX0_lay_7 (fun H locs ws_3 h u_4 Xu_4 => ?_)
  replace HE : FT = g2w_X0_lay (xso SC ad ws_3) i0 a1.toInt a2.toInt := HE.trans (by rw [Xu_4]; rfl)
  refine y_c1 (n := 1) C0 (by decide) dX0_lay_10 (fun v_5 e_6 => ?_)
  refine lv_iload_n C0.1 C0.2.1 dX0_lay_11 rfl (lv_at hl 1 rfl) ?_
  refine lv_iload_n C0.1 C0.2.1 dX0_lay_12 rfl (lv_at hl 2 rfl) ?_
  refine y_imulX C0 dX0_lay_13 (fun v_8 e_7 => ?_)
  refine y_ishlX C0 dX0_lay_14 (fun v_10 e_9 => ?_)
  refine y_c1 (n := 1) C0 (by decide) dX0_lay_15 (fun v_11 e_12 => ?_)
  refine y_isubX C0 dX0_lay_16 (fun v_14 e_13 => ?_)
  refine lv_istore_n (lv' := [(3, .int v_14), (0, .ref (ad i0)), (1, .int a1), (2, .int a2)]) C0.1 C0.2.1 dX0_lay_17 rfl hl (by decide) rfl (fun ls hl => ?_)
  refine y_c1 (n := 0) C0 (by decide) dX0_lay_18 (fun v_15 e_16 => ?_)
  refine lv_istore (lv' := [(4, .int v_15), (3, .int v_14), (0, .ref (ad i0)), (1, .int a1), (2, .int a2)]) C0.1 C0.2.1 dX0_lay_19 hl (by decide) rfl (fun ls hl => ?_)
  refine y_c1 (n := 0) C0 (by decide) dX0_lay_21 (fun v_17 e_18 => ?_)
  refine lv_istore (lv' := [(5, .int v_17), (4, .int v_15), (3, .int v_14), (0, .ref (ad i0)), (1, .int a1), (2, .int a2)]) C0.1 C0.2.1 dX0_lay_22 hl (by decide) rfl (fun ls hl => ?_)
  have lp_23 : ∀ (n_25 : Nat) (x5_19 : Int32) (x4_20 : Int32) (H : Heap) (locs : List Loc) (ls : Array Slot) (ws_21 : va_W), 5 - x5_19.toInt < (n_25 : Int) → 0 ≤ x5_19.toInt → x5_19.toInt ≤ 5 → x5_19.toInt ≤ a2.toInt → (x4_20 = fcol a1 x5_19.toInt.toNat) → (FT = L3_X0_lay n_25 (xso SC ad ws_21) i0 a1.toInt a2.toInt v_14.toInt x4_20.toInt x5_19.toInt) → Wt G SC ad A s H locs ws_21 → Fr SC [] ws_3 ws_21 → lv_has ls 6 [(5, .int x5_19), (4, .int x4_20), (3, .int v_14), (0, .ref (ad i0)), (1, .int a1), (2, .int a2)] → W p l e (rmd 1 0 0) s m args below meth c H locs 0 0 Q (F0 m 24 ls []) := by
    intro n_25
    induction n_25 with
    | zero => intro x5_19 x4_20 H locs ls ws_21 hn_26 b_27 b_28 b_29 hfc HE h hF_22 hl; exact ((o16_37 l2 u2 b_27 b_28 b_29 hn_26)).elim
    | succ n_25 ih_24 =>
      intro x5_19 x4_20 H locs ls ws_21 hn_26 b_27 b_28 b_29 hfc HE h hF_22 hl
      obtain ⟨R24, hR24⟩ : ∃ z, z = L3_X0_lay n_25 := ⟨_, rfl⟩
      replace HE : FT = g4l_X0_lay R24 (xso SC ad ws_21) i0 a1.toInt a2.toInt v_14.toInt x4_20.toInt x5_19.toInt := HE.trans (by rw [hR24]; rfl)
      refine lv_iload C0.1 C0.2.1 dX0_lay_24 (lv_at hl 0 rfl) ?_
      refine lv_iload_n C0.1 C0.2.1 dX0_lay_26 rfl (lv_at hl 5 rfl) ?_
      replace HE : FT = g5b_X0_lay R24 (xso SC ad ws_21) a2.toInt x5_19.toInt i0 a1.toInt v_14.toInt x4_20.toInt := HE.trans rfl
      refine y_icmp_ge (tgt := 47) C0 dX0_lay_27 (by decide) (fun c_30 => ?_) (fun c_30 => ?_)
      · -- 27
        replace HE : FT = g6_X0_lay (xso SC ad ws_21) i0 a1.toInt v_14.toInt x4_20.toInt := HE.trans (if_neg (Int.not_lt.mpr c_30))
        refine lv_aload_n C0.1 C0.2.1 dX0_lay_47 rfl (lv_at hl 3 rfl) ?_
        refine tg_X0_streets C0 h hi0 q_252 dX0_lay_48 ?_
        refine y_c1 (n := 0) C0 (by decide) dX0_lay_51 (fun v_31 e_32 => ?_)
        refine lv_iload_n C0.1 C0.2.1 dX0_lay_52 rfl (lv_at hl 2 rfl) ?_
        refine y_c1 (n := 1) C0 (by decide) dX0_lay_53 (fun v_33 e_34 => ?_)
        refine lv_iload_n C0.1 C0.2.1 dX0_lay_54 rfl (lv_at hl 4 rfl) ?_
        refine y_ishlX C0 dX0_lay_55 (fun v_36 e_35 => ?_)
        refine y_c1 (n := 1) C0 (by decide) dX0_lay_56 (fun v_37 e_38 => ?_)
        refine y_isubX C0 dX0_lay_57 (fun v_40 e_39 => ?_)
        refine y_c1 (n := (-1)) C0 (by decide) dX0_lay_58 (fun v_41 e_42 => ?_)
        refine y_ixorX C0 dX0_lay_59 (fun v_44 e_43 => ?_)
        refine y_iandX C0 dX0_lay_60 (fun v_46 e_45 => ?_)
        have hO_49 := h.2
        refine y_iast C0 h (rSC_1_17 hi0) rfl (by decide) (o16_16 e_32) (o16_38 e_32) (le_min v_46) (le_max v_46) dX0_lay_61 (fun H locs ws_47 h u_48 => ?_)
        replace HE : FT = g8w_X0_lay (xso SC ad ws_47) i0 a1.toInt v_14.toInt x4_20.toInt := HE.trans (by rw [(xso_A (i := i0 + 17) hO_49 h.2 (rSC_1_17 hi0) rfl u_48), (ix_iand e_45), (ix_ixor e_43), e_42, (ix_isub e_39), e_38, (ix_ishl e_35), e_34, e_32]; rfl)
        refine lv_aload_n C0.1 C0.2.1 dX0_lay_62 rfl (lv_at hl 3 rfl) ?_
        refine tg_X0_streets C0 h hi0 q_252 dX0_lay_63 ?_
        refine y_c1 (n := 1) C0 (by decide) dX0_lay_66 (fun v_50 e_51 => ?_)
        refine lv_iload_n C0.1 C0.2.1 dX0_lay_67 rfl (lv_at hl 2 rfl) ?_
        refine lv_iload C0.1 C0.2.1 dX0_lay_68 (lv_at hl 1 rfl) ?_
        refine lv_iload_n C0.1 C0.2.1 dX0_lay_70 rfl (lv_at hl 4 rfl) ?_
        refine y_c1 (n := 1) C0 (by decide) dX0_lay_71 (fun v_52 e_53 => ?_)
        refine y_isubX C0 dX0_lay_72 (fun v_55 e_54 => ?_)
        refine y_ishlX C0 dX0_lay_73 (fun v_57 e_56 => ?_)
        refine y_c1 (n := (-1)) C0 (by decide) dX0_lay_74 (fun v_58 e_59 => ?_)
        refine y_ixorX C0 dX0_lay_75 (fun v_61 e_60 => ?_)
        refine y_iandX C0 dX0_lay_76 (fun v_63 e_62 => ?_)
        have hO_66 := h.2
        refine y_iast C0 h (rSC_1_17 hi0) rfl (by decide) (o16_39 e_51) (o16_40 e_51) (le_min v_63) (le_max v_63) dX0_lay_77 (fun H locs ws_64 h u_65 => ?_)
        replace HE : FT = g9w_X0_lay (xso SC ad ws_64) i0 a1.toInt v_14.toInt x4_20.toInt := HE.trans (by rw [(xso_A (i := i0 + 17) hO_66 h.2 (rSC_1_17 hi0) rfl u_65), (ix_iand e_62), (ix_ixor e_60), e_59, (ix_ishl e_56), (ix_isub e_54), e_53, e_51]; rfl)
        refine lv_aload_n C0.1 C0.2.1 dX0_lay_78 rfl (lv_at hl 3 rfl) ?_
        refine tg_X0_streets C0 h hi0 q_252 dX0_lay_79 ?_
        refine y_c1 (n := 2) C0 (by decide) dX0_lay_82 (fun v_67 e_68 => ?_)
        refine lv_iload_n C0.1 C0.2.1 dX0_lay_83 rfl (lv_at hl 2 rfl) ?_
        refine lv_iload_n C0.1 C0.2.1 dX0_lay_84 rfl (lv_at hl 4 rfl) ?_
        refine y_ishrX C0 dX0_lay_85 (fun v_70 e_69 => ?_)
        have hO_73 := h.2
        refine y_iast C0 h (rSC_1_17 hi0) rfl (by decide) (o16_41 e_68) (o16_42 e_68) (le_min v_70) (le_max v_70) dX0_lay_86 (fun H locs ws_71 h u_72 => ?_)
        replace HE : FT = g10w_X0_lay (xso SC ad ws_71) i0 a1.toInt v_14.toInt x4_20.toInt := HE.trans (by rw [(xso_A (i := i0 + 17) hO_73 h.2 (rSC_1_17 hi0) rfl u_72), (ix_ishr e_69), e_68]; rfl)
        refine lv_aload_n C0.1 C0.2.1 dX0_lay_87 rfl (lv_at hl 3 rfl) ?_
        refine tg_X0_streets C0 h hi0 q_252 dX0_lay_88 ?_
        refine y_c1 (n := 3) C0 (by decide) dX0_lay_91 (fun v_74 e_75 => ?_)
        refine lv_iload_n C0.1 C0.2.1 dX0_lay_92 rfl (lv_at hl 2 rfl) ?_
        refine lv_iload C0.1 C0.2.1 dX0_lay_93 (lv_at hl 1 rfl) ?_
        refine y_c1 (n := (-1)) C0 (by decide) dX0_lay_95 (fun v_76 e_77 => ?_)
        refine y_ixorX C0 dX0_lay_96 (fun v_79 e_78 => ?_)
        refine y_iandX C0 dX0_lay_97 (fun v_81 e_80 => ?_)
        have hO_84 := h.2
        refine y_iast C0 h (rSC_1_17 hi0) rfl (by decide) (o16_43 e_75) (o16_44 e_75) (le_min v_81) (le_max v_81) dX0_lay_98 (fun H locs ws_82 h u_83 => ?_)
        replace HE : FT = g11w_X0_lay (xso SC ad ws_82) i0 a1.toInt := HE.trans (by rw [(xso_A (i := i0 + 17) hO_84 h.2 (rSC_1_17 hi0) rfl u_83), (ix_iand e_80), (ix_ixor e_78), e_77, e_75]; rfl)
        refine lv_aload_n C0.1 C0.2.1 dX0_lay_99 rfl (lv_at hl 3 rfl) ?_
        refine tg_X0_strides C0 h hi0 q_255 dX0_lay_100 ?_
        refine y_c1 (n := 0) C0 (by decide) dX0_lay_103 (fun v_85 e_86 => ?_)
        refine lv_iload_n C0.1 C0.2.1 dX0_lay_104 rfl (lv_at hl 4 rfl) ?_
        refine y_neg C0 (o16_45 l1 u1 (le_min a1) (le_max a1)) dX0_lay_105 (fun v_87 e_88 => ?_)
        have hO_91 := h.2
        refine y_iast C0 h (rSC_1_18 hi0) rfl (by decide) (o16_16 e_86) (o16_38 e_86) (o16_46 l1 u1 e_88) (o16_47 l1 u1 e_88) dX0_lay_106 (fun H locs ws_89 h u_90 => ?_)
        replace HE : FT = g12w_X0_lay (xso SC ad ws_89) i0 a1.toInt := HE.trans (by rw [(xso_A (i := i0 + 18) hO_91 h.2 (rSC_1_18 hi0) rfl u_90), e_88, e_86]; rfl)
        refine lv_aload_n C0.1 C0.2.1 dX0_lay_107 rfl (lv_at hl 3 rfl) ?_
        refine tg_X0_strides C0 h hi0 q_255 dX0_lay_108 ?_
        refine y_c1 (n := 1) C0 (by decide) dX0_lay_111 (fun v_92 e_93 => ?_)
        refine y_c1 (n := 1) C0 (by decide) dX0_lay_112 (fun v_94 e_95 => ?_)
        have hO_98 := h.2
        refine y_iast C0 h (rSC_1_18 hi0) rfl (by decide) (o16_39 e_93) (o16_40 e_93) (o16_48 e_95) (o16_49 e_95) dX0_lay_113 (fun H locs ws_96 h u_97 => ?_)
        replace HE : FT = g13w_X0_lay (xso SC ad ws_96) i0 a1.toInt := HE.trans (by rw [(xso_A (i := i0 + 18) hO_98 h.2 (rSC_1_18 hi0) rfl u_97), e_95, e_93]; rfl)
        refine lv_aload_n C0.1 C0.2.1 dX0_lay_114 rfl (lv_at hl 3 rfl) ?_
        refine tg_X0_strides C0 h hi0 q_255 dX0_lay_115 ?_
        refine y_c1 (n := 2) C0 (by decide) dX0_lay_118 (fun v_99 e_100 => ?_)
        refine lv_iload_n C0.1 C0.2.1 dX0_lay_119 rfl (lv_at hl 4 rfl) ?_
        have hO_103 := h.2
        refine y_iast C0 h (rSC_1_18 hi0) rfl (by decide) (o16_41 e_100) (o16_42 e_100) (o16_50 l1 u1 e_88) (o16_51 l1 u1 e_88) dX0_lay_120 (fun H locs ws_101 h u_102 => ?_)
        replace HE : FT = g14w_X0_lay (xso SC ad ws_101) i0 := HE.trans (by rw [(xso_A (i := i0 + 18) hO_103 h.2 (rSC_1_18 hi0) rfl u_102), e_100]; rfl)
        refine lv_aload_n C0.1 C0.2.1 dX0_lay_121 rfl (lv_at hl 3 rfl) ?_
        refine tg_X0_strides C0 h hi0 q_255 dX0_lay_122 ?_
        refine y_c1 (n := 3) C0 (by decide) dX0_lay_125 (fun v_104 e_105 => ?_)
        refine y_c1 (n := (-1)) C0 (by decide) dX0_lay_126 (fun v_106 e_107 => ?_)
        have hO_110 := h.2
        refine y_iast C0 h (rSC_1_18 hi0) rfl (by decide) (o16_43 e_105) (o16_44 e_105) (o16_52 e_107) (o16_53 e_107) dX0_lay_127 (fun H locs ws_108 h u_109 => ?_)
        replace HE : FT = g15w_X0_lay (xso SC ad ws_108) := HE.trans (by rw [(xso_A (i := i0 + 18) hO_110 h.2 (rSC_1_18 hi0) rfl u_109), e_107, e_105]; rfl)
        have hx5 : x5_19.toInt = a2.toInt := (o16_54 l2 u2 b_27 b_28 b_29 hn_26 c_30)
        have kk_v_5 : v_5 = (1 : Int32) := Int32.toInt_inj.mp (Eq.trans e_6 (by decide))
        have kk_v_11 : v_11 = (1 : Int32) := Int32.toInt_inj.mp (Eq.trans e_12 (by decide))
        have kk_v_33 : v_33 = (1 : Int32) := Int32.toInt_inj.mp (Eq.trans e_34 (by decide))
        have kk_v_37 : v_37 = (1 : Int32) := Int32.toInt_inj.mp (Eq.trans e_38 (by decide))
        have kk_v_41 : v_41 = ((-1) : Int32) := Int32.toInt_inj.mp (Eq.trans e_42 (by decide))
        have hs0 : v_46 = laySt a1 a2 0 := by rw [e_45, e_13, e_9, kk_v_5, e_7, kk_v_11, e_43, e_39, e_35, kk_v_33, kk_v_37, kk_v_41]; rfl
        have kk_v_52 : v_52 = (1 : Int32) := Int32.toInt_inj.mp (Eq.trans e_53 (by decide))
        have kk_v_58 : v_58 = ((-1) : Int32) := Int32.toInt_inj.mp (Eq.trans e_59 (by decide))
        have hs1 : v_63 = laySt a1 a2 1 := by rw [e_62, e_13, e_9, kk_v_5, e_7, kk_v_11, e_60, e_56, hfc, hx5, e_54, kk_v_52, kk_v_58]; rfl
        have hs2 : v_70 = laySt a1 a2 2 := by rw [e_69, e_13, e_9, kk_v_5, e_7, kk_v_11]; rfl
        have kk_v_76 : v_76 = ((-1) : Int32) := Int32.toInt_inj.mp (Eq.trans e_77 (by decide))
        have hs3 : v_81 = laySt a1 a2 3 := by rw [e_80, e_13, e_9, kk_v_5, e_7, kk_v_11, e_78, hfc, hx5, kk_v_76]; rfl
        have ht0 : v_87 = layDd a1 0 := Int32.toInt_inj.mp (Eq.trans (o16_55 l1 u1 e_88) (t_neg (x := a1) (o16_56 l1 u1 e_88 (le_min a1) (le_max a1) (le_min v_87) (le_max v_87))).symm)
        have kk_v_94 : v_94 = (1 : Int32) := Int32.toInt_inj.mp (Eq.trans e_95 (by decide))
        have ht1 : v_94 = layDd a1 1 := kk_v_94
        have kk_v_106 : v_106 = ((-1) : Int32) := Int32.toInt_inj.mp (Eq.trans e_107 (by decide))
        have ht3 : v_106 = layDd a1 3 := kk_v_106
        have hRl : Rel ws_108 := rel_lay3 (M := [1]) (N := []) hR hi0 l1 u1 l2 u2 (Fr.tr (Fr.tr (Fr.up u_2.1 hi0 (by decide)) (Fr.up u_4.1 hi0 (by decide))) (Fr.mono hF_22 (by decide))) (by decide) (by decide) (four e_32 e_51 e_68 e_75 u_48 u_65 u_72 u_83 (laySt a1 a2) hs0 hs1 hs2 hs3) (four e_86 e_93 e_100 e_105 u_90 u_97 u_102 u_109 (layDd a1) ht0 ht1 rfl ht3)
        replace HE : FT = ((xso SC ad ws_108), 0) := HE.trans rfl
        rw [hQ]
        exact y_vret C0 h (Fr.tr (Fr.tr (Fr.tr (Fr.tr (Fr.tr (Fr.tr (Fr.tr (Fr.tr (Fr.tr (Fr.tr (Fr.up u_2.1 hi0 (by decide)) (Fr.up u_4.1 hi0 (by decide))) (Fr.mono hF_22 (by decide))) (Fr.up u_48.1 (rSC_1_17 hi0) (by decide))) (Fr.up u_65.1 (rSC_1_17 hi0) (by decide))) (Fr.up u_72.1 (rSC_1_17 hi0) (by decide))) (Fr.up u_83.1 (rSC_1_17 hi0) (by decide))) (Fr.up u_90.1 (rSC_1_18 hi0) (by decide))) (Fr.up u_97.1 (rSC_1_18 hi0) (by decide))) (Fr.up u_102.1 (rSC_1_18 hi0) (by decide))) (Fr.up u_109.1 (rSC_1_18 hi0) (by decide))) ⟨(congrArg Prod.fst (HE.symm.trans hFT)), hRl⟩ dX0_lay_128
      · -- 27
        replace HE : FT = g7_X0_lay R24 (xso SC ad ws_21) i0 a1.toInt a2.toInt v_14.toInt x4_20.toInt x5_19.toInt := HE.trans (if_pos c_30)
        refine lv_iload C0.1 C0.2.1 dX0_lay_30 (lv_at hl 1 rfl) ?_
        refine y_c1 (n := 1) C0 (by decide) dX0_lay_32 (fun v_111 e_112 => ?_)
        refine lv_iload C0.1 C0.2.1 dX0_lay_33 (lv_at hl 0 rfl) ?_
        refine lv_iload_n C0.1 C0.2.1 dX0_lay_35 rfl (lv_at hl 4 rfl) ?_
        refine y_imulX C0 dX0_lay_36 (fun v_114 e_113 => ?_)
        refine y_ishlX C0 dX0_lay_37 (fun v_116 e_115 => ?_)
        refine y_iorX C0 dX0_lay_38 (fun v_118 e_117 => ?_)
        refine lv_istore (lv' := [(4, .int v_118), (5, .int x5_19), (3, .int v_14), (0, .ref (ad i0)), (1, .int a1), (2, .int a2)]) C0.1 C0.2.1 dX0_lay_39 hl (by decide) rfl (fun ls hl => ?_)
        refine y_inc (kp := 1) (n := 1) (fun v_119 => [(5, .int v_119), (4, .int v_118), (3, .int v_14), (0, .ref (ad i0)), (1, .int a1), (2, .int a2)]) C0 hl rfl (by decide) (by decide) (fun _ => rfl) (o16_57 l2 u2 b_27 b_28 b_29 hn_26 c_30 (le_min x5_19) (le_max x5_19) (le_min a2) (le_max a2)) (o16_58 l2 u2 b_27 b_28 b_29 hn_26 c_30 (le_min x5_19) (le_max x5_19) (le_min a2) (le_max a2)) dX0_lay_41 (fun v_119 ls e_120 hl => ?_)
        refine lv_goto (tgt := 24) C0.1 C0.2.1 dX0_lay_44 (by decide) ?_
        exact ih_24 v_119 v_118 _ _ _ _ (o16_59 l2 u2 b_27 b_28 b_29 hn_26 c_30 e_120) (o16_60 l2 u2 b_27 b_28 b_29 hn_26 c_30 e_120) (o16_61 l2 u2 b_27 b_28 b_29 hn_26 c_30 e_120) (o16_62 l2 u2 b_27 b_28 b_29 hn_26 c_30 e_120) ((fcol_s hfc e_112 e_113 e_115 e_117 e_120 (o16_63 l2 u2 b_27 b_28 b_29 hn_26 c_30 e_120))) (((show FT = R24 (xso SC ad ws_21) i0 a1.toInt a2.toInt v_14.toInt v_118.toInt v_119.toInt from HE.trans (by rw [e_120, (ix_ior e_117), (ix_ishl e_115), (ix_imul e_113), e_112]; rfl)).trans (by rw [hR24]))) h hF_22 (lv_sub hl [0, 1, 2, 3, 4, 5] rfl)
  exact lp_23 ((5 - v_17.toInt + 1).toNat) v_17 v_15 _ _ _ _ (o16_64 e_18) (o16_16 e_18) (o16_21 e_18) (o16_65 l2 u2 e_18) ((fcol_i e_16 e_18)) ((show FT = L3_X0_lay (Int.toNat (5 - v_17.toInt + 1)) (xso SC ad ws_3) i0 a1.toInt a2.toInt v_14.toInt v_15.toInt v_17.toInt from HE.trans (by rw [e_18, e_16, (ix_isub e_13), e_12, (ix_ishl e_9), (ix_imul e_7), e_6]; rfl))) h Fr.rf (lv_sub hl [0, 1, 2, 3, 4, 5] rfl)
