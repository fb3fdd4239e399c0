theorem dX5_line_0 : decode cX5_line 0 = .ok (.aload_n 0, 1) := by decide +kernel
theorem dX5_line_1 : decode cX5_line 1 = .ok (.ldc 95, 2) := by decide +kernel
theorem dX5_line_3 : decode cX5_line 3 = .ok (.invokevirtual 96, 3) := by decide +kernel
theorem dX5_line_6 : decode cX5_line 6 = .ok (.ifCond .eq 10, 3) := by decide +kernel
theorem dX5_line_9 : decode cX5_line 9 = .ok (.aload_n 0, 1) := by decide +kernel
theorem dX5_line_10 : decode cX5_line 10 = .ok (.invokevirtual 100, 3) := by decide +kernel
theorem dX5_line_13 : decode cX5_line 13 = .ok (.goto 146, 3) := by decide +kernel
theorem dX5_line_16 : decode cX5_line 16 = .ok (.aload_n 0, 1) := by decide +kernel
theorem dX5_line_17 : decode cX5_line 17 = .ok (.ldc 103, 2) := by decide +kernel
theorem dX5_line_19 : decode cX5_line 19 = .ok (.invokevirtual 96, 3) := by decide +kernel
theorem dX5_line_22 : decode cX5_line 22 = .ok (.ifCond .eq 10, 3) := by decide +kernel
theorem dX5_line_25 : decode cX5_line 25 = .ok (.aload_n 0, 1) := by decide +kernel
theorem dX5_line_26 : decode cX5_line 26 = .ok (.invokevirtual 105, 3) := by decide +kernel
theorem dX5_line_29 : decode cX5_line 29 = .ok (.goto 130, 3) := by decide +kernel
theorem dX5_line_32 : decode cX5_line 32 = .ok (.aload_n 0, 1) := by decide +kernel
theorem dX5_line_33 : decode cX5_line 33 = .ok (.ldc 108, 2) := by decide +kernel
theorem dX5_line_35 : decode cX5_line 35 = .ok (.invokevirtual 96, 3) := by decide +kernel
theorem dX5_line_38 : decode cX5_line 38 = .ok (.ifCond .eq 10, 3) := by decide +kernel
theorem dX5_line_41 : decode cX5_line 41 = .ok (.aload_n 0, 1) := by decide +kernel
theorem dX5_line_42 : decode cX5_line 42 = .ok (.invokevirtual 110, 3) := by decide +kernel
theorem dX5_line_45 : decode cX5_line 45 = .ok (.goto 114, 3) := by decide +kernel
theorem dX5_line_48 : decode cX5_line 48 = .ok (.aload_n 0, 1) := by decide +kernel
theorem dX5_line_49 : decode cX5_line 49 = .ok (.ldc 113, 2) := by decide +kernel
theorem dX5_line_51 : decode cX5_line 51 = .ok (.invokevirtual 96, 3) := by decide +kernel
theorem dX5_line_54 : decode cX5_line 54 = .ok (.ifCond .eq 10, 3) := by decide +kernel
theorem dX5_line_57 : decode cX5_line 57 = .ok (.aload_n 0, 1) := by decide +kernel
theorem dX5_line_58 : decode cX5_line 58 = .ok (.invokevirtual 115, 3) := by decide +kernel
theorem dX5_line_61 : decode cX5_line 61 = .ok (.goto 98, 3) := by decide +kernel
theorem dX5_line_64 : decode cX5_line 64 = .ok (.aload_n 0, 1) := by decide +kernel
theorem dX5_line_65 : decode cX5_line 65 = .ok (.ldc 118, 2) := by decide +kernel
theorem dX5_line_67 : decode cX5_line 67 = .ok (.invokevirtual 96, 3) := by decide +kernel
theorem dX5_line_70 : decode cX5_line 70 = .ok (.ifCond .eq 22, 3) := by decide +kernel
theorem dX5_line_73 : decode cX5_line 73 = .ok (.aload_n 0, 1) := by decide +kernel
theorem dX5_line_74 : decode cX5_line 74 = .ok (.aload_n 0, 1) := by decide +kernel
theorem dX5_line_75 : decode cX5_line 75 = .ok (.getfield 19, 3) := by decide +kernel
theorem dX5_line_78 : decode cX5_line 78 = .ok (.getfield 23, 3) := by decide +kernel
theorem dX5_line_81 : decode cX5_line 81 = .ok (.invokevirtual 120, 3) := by decide +kernel
theorem dX5_line_84 : decode cX5_line 84 = .ok (.aload_n 0, 1) := by decide +kernel
theorem dX5_line_85 : decode cX5_line 85 = .ok (.iconst 0, 1) := by decide +kernel
theorem dX5_line_86 : decode cX5_line 86 = .ok (.invokevirtual 124, 3) := by decide +kernel
theorem dX5_line_89 : decode cX5_line 89 = .ok (.goto 70, 3) := by decide +kernel
theorem dX5_line_92 : decode cX5_line 92 = .ok (.aload_n 0, 1) := by decide +kernel
theorem dX5_line_93 : decode cX5_line 93 = .ok (.ldc 127, 2) := by decide +kernel
theorem dX5_line_95 : decode cX5_line 95 = .ok (.invokevirtual 96, 3) := by decide +kernel
theorem dX5_line_98 : decode cX5_line 98 = .ok (.ifCond .eq 22, 3) := by decide +kernel
theorem dX5_line_101 : decode cX5_line 101 = .ok (.aload_n 0, 1) := by decide +kernel
theorem dX5_line_102 : decode cX5_line 102 = .ok (.aload_n 0, 1) := by decide +kernel
theorem dX5_line_103 : decode cX5_line 103 = .ok (.getfield 19, 3) := by decide +kernel
theorem dX5_line_106 : decode cX5_line 106 = .ok (.getfield 129, 3) := by decide +kernel
theorem dX5_line_109 : decode cX5_line 109 = .ok (.invokevirtual 120, 3) := by decide +kernel
theorem dX5_line_112 : decode cX5_line 112 = .ok (.aload_n 0, 1) := by decide +kernel
theorem dX5_line_113 : decode cX5_line 113 = .ok (.iconst 0, 1) := by decide +kernel
theorem dX5_line_114 : decode cX5_line 114 = .ok (.invokevirtual 132, 3) := by decide +kernel
theorem dX5_line_117 : decode cX5_line 117 = .ok (.goto 42, 3) := by decide +kernel
theorem dX5_line_120 : decode cX5_line 120 = .ok (.aload_n 0, 1) := by decide +kernel
theorem dX5_line_121 : decode cX5_line 121 = .ok (.ldc 135, 2) := by decide +kernel
theorem dX5_line_123 : decode cX5_line 123 = .ok (.invokevirtual 96, 3) := by decide +kernel
theorem dX5_line_126 : decode cX5_line 126 = .ok (.ifCond .eq 28, 3) := by decide +kernel
theorem dX5_line_129 : decode cX5_line 129 = .ok (.aload_n 0, 1) := by decide +kernel
theorem dX5_line_130 : decode cX5_line 130 = .ok (.invokevirtual 47, 3) := by decide +kernel
theorem dX5_line_133 : decode cX5_line 133 = .ok (.aload_n 0, 1) := by decide +kernel
theorem dX5_line_134 : decode cX5_line 134 = .ok (.getfield 19, 3) := by decide +kernel
theorem dX5_line_137 : decode cX5_line 137 = .ok (.getfield 137, 3) := by decide +kernel
theorem dX5_line_140 : decode cX5_line 140 = .ok (.aload_n 0, 1) := by decide +kernel
theorem dX5_line_141 : decode cX5_line 141 = .ok (.iconst 0, 1) := by decide +kernel
theorem dX5_line_142 : decode cX5_line 142 = .ok (.sipush 999, 3) := by decide +kernel
theorem dX5_line_145 : decode cX5_line 145 = .ok (.invokevirtual 141, 3) := by decide +kernel
theorem dX5_line_148 : decode cX5_line 148 = .ok (.putfield 145, 3) := by decide +kernel
theorem dX5_line_151 : decode cX5_line 151 = .ok (.goto 8, 3) := by decide +kernel
theorem dX5_line_154 : decode cX5_line 154 = .ok (.aload_n 0, 1) := by decide +kernel
theorem dX5_line_155 : decode cX5_line 155 = .ok (.iconst 2, 1) := by decide +kernel
theorem dX5_line_156 : decode cX5_line 156 = .ok (.invokevirtual 76, 3) := by decide +kernel
theorem dX5_line_159 : decode cX5_line 159 = .ok (.return_, 1) := by decide +kernel
theorem dX5_read_0 : decode cX5_read 0 = .ok (.aload_n 0, 1) := by decide +kernel
theorem dX5_read_1 : decode cX5_read 1 = .ok (.getfield 19, 3) := by decide +kernel
theorem dX5_read_4 : decode cX5_read 4 = .ok (.invokevirtual 38, 3) := by decide +kernel
theorem dX5_read_7 : decode cX5_read 7 = .ok (.aload_n 0, 1) := by decide +kernel
theorem dX5_read_8 : decode cX5_read 8 = .ok (.iconst 0, 1) := by decide +kernel
theorem dX5_read_9 : decode cX5_read 9 = .ok (.putfield 32, 3) := by decide +kernel
theorem dX5_read_12 : decode cX5_read 12 = .ok (.aload_n 0, 1) := by decide +kernel
theorem dX5_read_13 : decode cX5_read 13 = .ok (.iload_n 1, 1) := by decide +kernel
theorem dX5_read_14 : decode cX5_read 14 = .ok (.putfield 41, 3) := by decide +kernel
theorem dX5_read_17 : decode cX5_read 17 = .ok (.aload_n 0, 1) := by decide +kernel
theorem dX5_read_18 : decode cX5_read 18 = .ok (.iconst 0, 1) := by decide +kernel
theorem dX5_read_19 : decode cX5_read 19 = .ok (.putfield 44, 3) := by decide +kernel
theorem dX5_read_22 : decode cX5_read 22 = .ok (.aload_n 0, 1) := by decide +kernel
theorem dX5_read_23 : decode cX5_read 23 = .ok (.iconst 0, 1) := by decide +kernel
theorem dX5_read_24 : decode cX5_read 24 = .ok (.putfield 35, 3) := by decide +kernel
theorem dX5_read_27 : decode cX5_read 27 = .ok (.aload_n 0, 1) := by decide +kernel
theorem dX5_read_28 : decode cX5_read 28 = .ok (.iconst (-1), 1) := by decide +kernel
theorem dX5_read_29 : decode cX5_read 29 = .ok (.putfield 15, 3) := by decide +kernel
theorem dX5_read_32 : decode cX5_read 32 = .ok (.aload_n 0, 1) := by decide +kernel
theorem dX5_read_33 : decode cX5_read 33 = .ok (.invokevirtual 47, 3) := by decide +kernel
theorem dX5_read_36 : decode cX5_read 36 = .ok (.iconst 0, 1) := by decide +kernel
theorem dX5_read_37 : decode cX5_read 37 = .ok (.istore_n 2, 1) := by decide +kernel
theorem dX5_read_38 : decode cX5_read 38 = .ok (.iload_n 2, 1) := by decide +kernel
theorem dX5_read_39 : decode cX5_read 39 = .ok (.sipush 900, 3) := by decide +kernel
theorem dX5_read_42 : decode cX5_read 42 = .ok (.if_icmp .ge 39, 3) := by decide +kernel
theorem dX5_read_45 : decode cX5_read 45 = .ok (.aload_n 0, 1) := by decide +kernel
theorem dX5_read_46 : decode cX5_read 46 = .ok (.getfield 50, 3) := by decide +kernel
theorem dX5_read_49 : decode cX5_read 49 = .ok (.ifCond .eq 32, 3) := by decide +kernel
theorem dX5_read_52 : decode cX5_read 52 = .ok (.aload_n 0, 1) := by decide +kernel
theorem dX5_read_53 : decode cX5_read 53 = .ok (.invokevirtual 53, 3) := by decide +kernel
theorem dX5_read_56 : decode cX5_read 56 = .ok (.aload_n 0, 1) := by decide +kernel
theorem dX5_read_57 : decode cX5_read 57 = .ok (.bipush 59, 2) := by decide +kernel
theorem dX5_read_59 : decode cX5_read 59 = .ok (.invokevirtual 56, 3) := by decide +kernel
theorem dX5_read_62 : decode cX5_read 62 = .ok (.aload_n 0, 1) := by decide +kernel
theorem dX5_read_63 : decode cX5_read 63 = .ok (.getfield 19, 3) := by decide +kernel
theorem dX5_read_66 : decode cX5_read 66 = .ok (.dup, 1) := by decide +kernel
theorem dX5_read_67 : decode cX5_read 67 = .ok (.getfield 60, 3) := by decide +kernel
theorem dX5_read_70 : decode cX5_read 70 = .ok (.iconst 1, 1) := by decide +kernel
theorem dX5_read_71 : decode cX5_read 71 = .ok (.iadd, 1) := by decide +kernel
theorem dX5_read_72 : decode cX5_read 72 = .ok (.putfield 60, 3) := by decide +kernel
theorem dX5_read_75 : decode cX5_read 75 = .ok (.iinc 2 1, 3) := by decide +kernel
theorem dX5_read_78 : decode cX5_read 78 = .ok (.goto (-40), 3) := by decide +kernel
theorem dX5_read_81 : decode cX5_read 81 = .ok (.aload_n 0, 1) := by decide +kernel
theorem dX5_read_82 : decode cX5_read 82 = .ok (.getfield 35, 3) := by decide +kernel
theorem dX5_read_85 : decode cX5_read 85 = .ok (.ireturn, 1) := by decide +kernel
theorem o25_1 {x0 : Int} (h0 : x0 = 0) : 0 ≤ x0 := by omega
theorem o25_2 {x0 : Int} (h0 : x0 = 0) : x0 ≤ 0 := by omega
theorem o25_3 {x0 : Int} (h0 : x0 = 999) : 999 ≤ x0 := by omega
theorem o25_4 {x0 : Int} (h0 : x0 = 999) : x0 ≤ 999 := by omega
theorem o25_5 {x0 : Int} (h0 : x0 = 0) : x0 ≤ 900 := by omega
theorem o25_6 {x0 : Int} (h0 : 0 ≤ x0) (h1 : x0 ≤ 900) : 0 ≤ x0 := by omega
theorem o25_7 {x0 : Int} (h0 : 0 ≤ x0) (h1 : x0 ≤ 900) : x0 ≤ 900 := by omega
theorem o25_8 {x0 : Int} (h0 : 0 ≤ x0) (h1 : x0 ≤ 900) (h2 : 900 - x0 < 0) : False := by omega
theorem o25_9 {x0 : Int} (h0 : x0 = 900) : x0 = 900 := by omega
theorem o25_10 {x0 x2 : Int} {x1 : Nat} (h0 : 0 ≤ x0) (h1 : x0 ≤ 900) (h2 : 900 - x0 < ((x1 + 1 : Nat) : Int)) (h3 : x2 = 900) (h4 : x2 ≤ x0) : ¬ x0 < 900 := by omega
theorem o25_11 {x0 x2 : Int} {x1 : Nat} (h0 : 0 ≤ x0) (h1 : x0 ≤ 900) (h2 : 900 - x0 < ((x1 + 1 : Nat) : Int)) (h3 : x2 = 900) (h4 : x0 < x2) : x0 < 900 := by omega
theorem o25_12 {x0 : Int} (h0 : x0 = 59) : 0 ≤ x0 := by omega
theorem o25_13 {x0 : Int} (h0 : x0 = 59) : x0 ≤ 65535 := by omega
theorem o25_14 {x0 x2 : Int} {x1 : Nat} (h0 : 0 ≤ x0) (h1 : x0 ≤ 900) (h2 : 900 - x0 < ((x1 + 1 : Nat) : Int)) (h3 : x2 = 900) (h4 : x0 < x2) (h5 : -2147483648 ≤ x0) (h6 : x0 ≤ 2147483647) (h7 : -2147483648 ≤ x2) (h8 : x2 ≤ 2147483647) : -2147483648 ≤ x0 + 1 := by omega
theorem o25_15 {x0 x2 : Int} {x1 : Nat} (h0 : 0 ≤ x0) (h1 : x0 ≤ 900) (h2 : 900 - x0 < ((x1 + 1 : Nat) : Int)) (h3 : x2 = 900) (h4 : x0 < x2) (h5 : -2147483648 ≤ x0) (h6 : x0 ≤ 2147483647) (h7 : -2147483648 ≤ x2) (h8 : x2 ≤ 2147483647) : x0 + 1 ≤ 2147483647 := by omega
theorem o25_16 {x0 x2 x3 : Int} {x1 : Nat} (h0 : 0 ≤ x2) (h1 : x2 ≤ 900) (h2 : 900 - x2 < ((x1 + 1 : Nat) : Int)) (h3 : x3 = 900) (h4 : x2 < x3) (h5 : x0 = x2 + 1) : 900 - x0 < (x1 : Int) := by omega
theorem o25_17 {x0 x1 x3 : Int} {x2 : Nat} (h0 : 0 ≤ x1) (h1 : x1 ≤ 900) (h2 : 900 - x1 < ((x2 + 1 : Nat) : Int)) (h3 : x3 = 900) (h4 : x1 < x3) (h5 : x0 = x1 + 1) : 0 ≤ x0 := by omega
theorem o25_18 {x0 x1 x3 : Int} {x2 : Nat} (h0 : 0 ≤ x1) (h1 : x1 ≤ 900) (h2 : 900 - x1 < ((x2 + 1 : Nat) : Int)) (h3 : x3 = 900) (h4 : x1 < x3) (h5 : x0 = x1 + 1) : x0 ≤ 900 := by omega
theorem o25_19 {x0 : Int} (h0 : x0 = 0) : 900 - x0 < (((900 - x0 + 1).toNat : Nat) : Int) := by omega
noncomputable def g29c_X5_line (s : XS) : XR := (s, 0)
noncomputable def g27_X5_line (s : XS) : XR := g29c_X5_line ((f_X5_fail s 2).1)
noncomputable def g32w_X5_line (s : XS) : XR := (s, 0)
noncomputable def g31c_X5_line (s : XS) (r_81 : Int) : XR := g32w_X5_line (xup s 0 29 8 r_81)
noncomputable def g30c_X5_line (s : XS) : XR := g31c_X5_line ((f_X5_boundede s 0 999).1) (((f_X5_boundede s 0 999).2))
noncomputable def g28_X5_line (s : XS) : XR := g30c_X5_line ((f_X5_advance s).1)
noncomputable def g26b_X5_line (s : XS) (r_58 : Int) : XR := if r_58 = 0 then g27_X5_line s else g28_X5_line s
noncomputable def g25c_X5_line (s : XS) (r_58 : Int) : XR := g26b_X5_line s r_58
noncomputable def g23_X5_line (s : XS) : XR := g25c_X5_line ((f_X5_isWord s 14).1) (((f_X5_isWord s 14).2))
noncomputable def g34c_X5_line (s : XS) : XR := (s, 0)
noncomputable def g33c_X5_line (s : XS) : XR := g34c_X5_line ((f_X5_truth_0 s 0).1)
noncomputable def g24_X5_line (s : XS) : XR := g33c_X5_line ((f_X5_beginLaw s 25).1)
noncomputable def g22b_X5_line (s : XS) (r_49 : Int) : XR := if r_49 = 0 then g23_X5_line s else g24_X5_line s
noncomputable def g21c_X5_line (s : XS) (r_49 : Int) : XR := g22b_X5_line s r_49
noncomputable def g19_X5_line (s : XS) : XR := g21c_X5_line ((f_X5_isWord s 18).1) (((f_X5_isWord s 18).2))
noncomputable def g36c_X5_line (s : XS) : XR := (s, 0)
noncomputable def g35c_X5_line (s : XS) : XR := g36c_X5_line ((f_X5_sum_0 s 0).1)
noncomputable def g20_X5_line (s : XS) : XR := g35c_X5_line ((f_X5_beginLaw s 21).1)
noncomputable def g18b_X5_line (s : XS) (r_40 : Int) : XR := if r_40 = 0 then g19_X5_line s else g20_X5_line s
noncomputable def g17c_X5_line (s : XS) (r_40 : Int) : XR := g18b_X5_line s r_40
noncomputable def g15_X5_line (s : XS) : XR := g17c_X5_line ((f_X5_isWord s 11).1) (((f_X5_isWord s 11).2))
noncomputable def g37c_X5_line (s : XS) : XR := (s, 0)
noncomputable def g16_X5_line (s : XS) : XR := g37c_X5_line ((f_X5_personLine s).1)
noncomputable def g14b_X5_line (s : XS) (r_31 : Int) : XR := if r_31 = 0 then g15_X5_line s else g16_X5_line s
noncomputable def g13c_X5_line (s : XS) (r_31 : Int) : XR := g14b_X5_line s r_31
noncomputable def g11_X5_line (s : XS) : XR := g13c_X5_line ((f_X5_isWord s 4).1) (((f_X5_isWord s 4).2))
noncomputable def g38c_X5_line (s : XS) : XR := (s, 0)
noncomputable def g12_X5_line (s : XS) : XR := g38c_X5_line ((f_X5_freeLine s).1)
noncomputable def g10b_X5_line (s : XS) (r_22 : Int) : XR := if r_22 = 0 then g11_X5_line s else g12_X5_line s
noncomputable def g9c_X5_line (s : XS) (r_22 : Int) : XR := g10b_X5_line s r_22
noncomputable def g7_X5_line (s : XS) : XR := g9c_X5_line ((f_X5_isWord s 3).1) (((f_X5_isWord s 3).2))
noncomputable def g39c_X5_line (s : XS) : XR := (s, 0)
noncomputable def g8_X5_line (s : XS) : XR := g39c_X5_line ((f_X5_wallLine s).1)
noncomputable def g6b_X5_line (s : XS) (r_13 : Int) : XR := if r_13 = 0 then g7_X5_line s else g8_X5_line s
noncomputable def g5c_X5_line (s : XS) (r_13 : Int) : XR := g6b_X5_line s r_13
noncomputable def g3_X5_line (s : XS) : XR := g5c_X5_line ((f_X5_isWord s 2).1) (((f_X5_isWord s 2).2))
noncomputable def g40c_X5_line (s : XS) : XR := (s, 0)
noncomputable def g4_X5_line (s : XS) : XR := g40c_X5_line ((f_X5_cityLine s).1)
noncomputable def g2b_X5_line (s : XS) (r_4 : Int) : XR := if r_4 = 0 then g3_X5_line s else g4_X5_line s
noncomputable def g1c_X5_line (s : XS) (r_4 : Int) : XR := g2b_X5_line s r_4
noncomputable def f_X5_line (s : XS) : XR := g1c_X5_line ((f_X5_isWord s 1).1) (((f_X5_isWord s 1).2))
set_option maxHeartbeats 4000000 in
set_option maxRecDepth 100000 in
theorem c_X5_line (l : Launch) (G : GG) (Z : RZ) (ad : Nat → Nat) (ws0 : va_W) (hT : Ty G SC ad ws0) (hR : Rel ws0) : Mq l yX5_line cX5_line 1 none 30 G Z [.ref (ad 77)] ws0 (PV G SC ad [1, 2, 3, 6, 7, 8, 9, 10, 14, 15, 16] ws0 (fun u => (xso SC ad u = (f_X5_line (xso SC ad ws0)).1) ∧ (Rel u))) := by
  refine Mq.start (by decide) (Nat.le_of_ble_eq_true rfl) ?_
  intro p e s m below meth c A ls C0 hZ h hl
  have hl : lv_has ls 1 [(0, .ref (ad 77))] := hl
  have h : Wt G SC ad A s s.heap [] ws0 := ⟨h, hT⟩
  obtain ⟨args, hargs⟩ : ∃ z, z = ([.ref (ad 77)] : List Value).toArray := ⟨_, rfl⟩
  rw [← hargs] at C0 ⊢
  have C0 : Cx p s m args meth c RX5 cX5_line 1 none := C0
  obtain ⟨Q, hQ⟩ : ∃ z, z = MQ below ((PV G SC ad [1, 2, 3, 6, 7, 8, 9, 10, 14, 15, 16] ws0 (fun u => (xso SC ad u = (f_X5_line (xso SC ad ws0)).1) ∧ (Rel u))) A) args s 0 0 A := ⟨_, rfl⟩
  rw [← hQ]
  obtain ⟨FT, hFT⟩ : ∃ z, z = f_X5_line (xso SC ad ws0) := ⟨_, rfl⟩
  have HE : FT = f_X5_line (xso SC ad ws0) := hFT
  refine lv_aload_n C0.1 C0.2.1 dX5_line_0 rfl (lv_at hl 0 rfl) ?_
  refine va_ldcS C0.1 C0.2.1 C0.2.2.2.1 (sr_1 hZ) dX5_line_1 ?_
  refine y_ci h (y_rV (As := [.ref (Z.2.1 1)]) (rest := []) C0 hZ h (c_X5_isWord l G Z ad _ h.2 1 (by decide)) k_X5_isWord q_724 q_5 q_722 kSC_77 rfl rfl rfl hl.1 rfl rfl (Nat.le_of_ble_eq_true rfl) dX5_line_3 ⟨Nat.le_of_ble_eq_true rfl, Nat.le_of_ble_eq_true rfl⟩ ⟨Nat.le_of_ble_eq_true rfl, Nat.le_of_ble_eq_true rfl⟩) (fun r_4 H locs ws_1 h u_2 p_3 => ?_)
  obtain ⟨e_5, e_6, e_7, e_8⟩ := p_3
  replace HE : FT = g1c_X5_line (xso SC ad ws_1) r_4.toInt := HE.trans (by rw [e_5, e_6]; rfl)
  replace HE : FT = g2b_X5_line (xso SC ad ws_1) r_4.toInt := HE.trans rfl
  refine y_if_eq (tgt := 16) C0 dX5_line_6 (by decide) (fun c_9 => ?_) (fun c_9 => ?_)
  · -- 6
    replace HE : FT = g3_X5_line (xso SC ad ws_1) := HE.trans (if_pos c_9)
    refine lv_aload_n C0.1 C0.2.1 dX5_line_16 rfl (lv_at hl 0 rfl) ?_
    refine va_ldcS C0.1 C0.2.1 C0.2.2.2.1 (sr_2 hZ) dX5_line_17 ?_
    refine y_ci h (y_rV (As := [.ref (Z.2.1 2)]) (rest := []) C0 hZ h (c_X5_isWord l G Z ad _ h.2 2 (by decide)) k_X5_isWord q_724 q_5 q_722 kSC_77 rfl rfl rfl hl.1 rfl rfl (Nat.le_of_ble_eq_true rfl) dX5_line_19 ⟨Nat.le_of_ble_eq_true rfl, Nat.le_of_ble_eq_true rfl⟩ ⟨Nat.le_of_ble_eq_true rfl, Nat.le_of_ble_eq_true rfl⟩) (fun r_13 H locs ws_10 h u_11 p_12 => ?_)
    obtain ⟨e_14, e_15, e_16, e_17⟩ := p_12
    replace HE : FT = g5c_X5_line (xso SC ad ws_10) r_13.toInt := HE.trans (by rw [e_14, e_15]; rfl)
    replace HE : FT = g6b_X5_line (xso SC ad ws_10) r_13.toInt := HE.trans rfl
    refine y_if_eq (tgt := 32) C0 dX5_line_22 (by decide) (fun c_18 => ?_) (fun c_18 => ?_)
    · -- 22
      replace HE : FT = g7_X5_line (xso SC ad ws_10) := HE.trans (if_pos c_18)
      refine lv_aload_n C0.1 C0.2.1 dX5_line_32 rfl (lv_at hl 0 rfl) ?_
      refine va_ldcS C0.1 C0.2.1 C0.2.2.2.1 (sr_3 hZ) dX5_line_33 ?_
      refine y_ci h (y_rV (As := [.ref (Z.2.1 3)]) (rest := []) C0 hZ h (c_X5_isWord l G Z ad _ h.2 3 (by decide)) k_X5_isWord q_724 q_5 q_722 kSC_77 rfl rfl rfl hl.1 rfl rfl (Nat.le_of_ble_eq_true rfl) dX5_line_35 ⟨Nat.le_of_ble_eq_true rfl, Nat.le_of_ble_eq_true rfl⟩ ⟨Nat.le_of_ble_eq_true rfl, Nat.le_of_ble_eq_true rfl⟩) (fun r_22 H locs ws_19 h u_20 p_21 => ?_)
      obtain ⟨e_23, e_24, e_25, e_26⟩ := p_21
      replace HE : FT = g9c_X5_line (xso SC ad ws_19) r_22.toInt := HE.trans (by rw [e_23, e_24]; rfl)
      replace HE : FT = g10b_X5_line (xso SC ad ws_19) r_22.toInt := HE.trans rfl
      refine y_if_eq (tgt := 48) C0 dX5_line_38 (by decide) (fun c_27 => ?_) (fun c_27 => ?_)
      · -- 38
        replace HE : FT = g11_X5_line (xso SC ad ws_19) := HE.trans (if_pos c_27)
        refine lv_aload_n C0.1 C0.2.1 dX5_line_48 rfl (lv_at hl 0 rfl) ?_
        refine va_ldcS C0.1 C0.2.1 C0.2.2.2.1 (sr_4 hZ) dX5_line_49 ?_
        refine y_ci h (y_rV (As := [.ref (Z.2.1 4)]) (rest := []) C0 hZ h (c_X5_isWord l G Z ad _ h.2 4 (by decide)) k_X5_isWord q_724 q_5 q_722 kSC_77 rfl rfl rfl hl.1 rfl rfl (Nat.le_of_ble_eq_true rfl) dX5_line_51 ⟨Nat.le_of_ble_eq_true rfl, Nat.le_of_ble_eq_true rfl⟩ ⟨Nat.le_of_ble_eq_true rfl, Nat.le_of_ble_eq_true rfl⟩) (fun r_31 H locs ws_28 h u_29 p_30 => ?_)
        obtain ⟨e_32, e_33, e_34, e_35⟩ := p_30
        replace HE : FT = g13c_X5_line (xso SC ad ws_28) r_31.toInt := HE.trans (by rw [e_32, e_33]; rfl)
        replace HE : FT = g14b_X5_line (xso SC ad ws_28) r_31.toInt := HE.trans rfl
        refine y_if_eq (tgt := 64) C0 dX5_line_54 (by decide) (fun c_36 => ?_) (fun c_36 => ?_)
        · -- 54
          replace HE : FT = g15_X5_line (xso SC ad ws_28) := HE.trans (if_pos c_36)
          refine lv_aload_n C0.1 C0.2.1 dX5_line_64 rfl (lv_at hl 0 rfl) ?_
          refine va_ldcS C0.1 C0.2.1 C0.2.2.2.1 (sr_11 hZ) dX5_line_65 ?_
          refine y_ci h (y_rV (As := [.ref (Z.2.1 11)]) (rest := []) C0 hZ h (c_X5_isWord l G Z ad _ h.2 11 (by decide)) k_X5_isWord q_724 q_5 q_722 kSC_77 rfl rfl rfl hl.1 rfl rfl (Nat.le_of_ble_eq_true rfl) dX5_line_67 ⟨Nat.le_of_ble_eq_true rfl, Nat.le_of_ble_eq_true rfl⟩ ⟨Nat.le_of_ble_eq_true rfl, Nat.le_of_ble_eq_true rfl⟩) (fun r_40 H locs ws_37 h u_38 p_39 => ?_)
          obtain ⟨e_41, e_42, e_43, e_44⟩ := p_39
          replace HE : FT = g17c_X5_line (xso SC ad ws_37) r_40.toInt := HE.trans (by rw [e_41, e_42]; rfl)
          replace HE : FT = g18b_X5_line (xso SC ad ws_37) r_40.toInt := HE.trans rfl
          refine y_if_eq (tgt := 92) C0 dX5_line_70 (by decide) (fun c_45 => ?_) (fun c_45 => ?_)
          · -- 70
            replace HE : FT = g19_X5_line (xso SC ad ws_37) := HE.trans (if_pos c_45)
            refine lv_aload_n C0.1 C0.2.1 dX5_line_92 rfl (lv_at hl 0 rfl) ?_
            refine va_ldcS C0.1 C0.2.1 C0.2.2.2.1 (sr_18 hZ) dX5_line_93 ?_
            refine y_ci h (y_rV (As := [.ref (Z.2.1 18)]) (rest := []) C0 hZ h (c_X5_isWord l G Z ad _ h.2 18 (by decide)) k_X5_isWord q_724 q_5 q_722 kSC_77 rfl rfl rfl hl.1 rfl rfl (Nat.le_of_ble_eq_true rfl) dX5_line_95 ⟨Nat.le_of_ble_eq_true rfl, Nat.le_of_ble_eq_true rfl⟩ ⟨Nat.le_of_ble_eq_true rfl, Nat.le_of_ble_eq_true rfl⟩) (fun r_49 H locs ws_46 h u_47 p_48 => ?_)
            obtain ⟨e_50, e_51, e_52, e_53⟩ := p_48
            replace HE : FT = g21c_X5_line (xso SC ad ws_46) r_49.toInt := HE.trans (by rw [e_50, e_51]; rfl)
            replace HE : FT = g22b_X5_line (xso SC ad ws_46) r_49.toInt := HE.trans rfl
            refine y_if_eq (tgt := 120) C0 dX5_line_98 (by decide) (fun c_54 => ?_) (fun c_54 => ?_)
            · -- 98
              replace HE : FT = g23_X5_line (xso SC ad ws_46) := HE.trans (if_pos c_54)
              refine lv_aload_n C0.1 C0.2.1 dX5_line_120 rfl (lv_at hl 0 rfl) ?_
              refine va_ldcS C0.1 C0.2.1 C0.2.2.2.1 (sr_14 hZ) dX5_line_121 ?_
              refine y_ci h (y_rV (As := [.ref (Z.2.1 14)]) (rest := []) C0 hZ h (c_X5_isWord l G Z ad _ h.2 14 (by decide)) k_X5_isWord q_724 q_5 q_722 kSC_77 rfl rfl rfl hl.1 rfl rfl (Nat.le_of_ble_eq_true rfl) dX5_line_123 ⟨Nat.le_of_ble_eq_true rfl, Nat.le_of_ble_eq_true rfl⟩ ⟨Nat.le_of_ble_eq_true rfl, Nat.le_of_ble_eq_true rfl⟩) (fun r_58 H locs ws_55 h u_56 p_57 => ?_)
              obtain ⟨e_59, e_60, e_61, e_62⟩ := p_57
              replace HE : FT = g25c_X5_line (xso SC ad ws_55) r_58.toInt := HE.trans (by rw [e_59, e_60]; rfl)
              replace HE : FT = g26b_X5_line (xso SC ad ws_55) r_58.toInt := HE.trans rfl
              refine y_if_eq (tgt := 154) C0 dX5_line_126 (by decide) (fun c_63 => ?_) (fun c_63 => ?_)
              · -- 126
                replace HE : FT = g27_X5_line (xso SC ad ws_55) := HE.trans (if_pos c_63)
                refine lv_aload_n C0.1 C0.2.1 dX5_line_154 rfl (lv_at hl 0 rfl) ?_
                refine y_c1 (n := 2) C0 (by decide) dX5_line_155 (fun v_64 e_65 => ?_)
                refine y_cv h (y_rV (As := [.int v_64]) (rest := []) C0 hZ h (c_X5_fail l G Z ad _ h.2 v_64) k_X5_fail q_628 q_3 q_626 kSC_77 rfl rfl rfl hl.1 rfl rfl (Nat.le_of_ble_eq_true rfl) dX5_line_156 ⟨Nat.le_of_ble_eq_true rfl, Nat.le_of_ble_eq_true rfl⟩ ⟨Nat.le_of_ble_eq_true rfl, Nat.le_of_ble_eq_true rfl⟩) (fun H locs ws_66 h u_67 p_68 => ?_)
                have e_69 := p_68
                replace HE : FT = g29c_X5_line (xso SC ad ws_66) := HE.trans (by rw [e_69, e_65]; rfl)
                replace HE : FT = ((xso SC ad ws_66), 0) := HE.trans rfl
                rw [hQ]
                exact y_vret C0 h (Fr.tr (Fr.tr (Fr.tr (Fr.tr (Fr.tr (Fr.tr (Fr.tr (Fr.mono u_2 (by decide)) (Fr.mono u_11 (by decide))) (Fr.mono u_20 (by decide))) (Fr.mono u_29 (by decide))) (Fr.mono u_38 (by decide))) (Fr.mono u_47 (by decide))) (Fr.mono u_56 (by decide))) (Fr.mono u_67 (by decide))) ⟨(congrArg Prod.fst (HE.symm.trans hFT)), (Rel.fr (M := [16]) hR (Fr.tr (Fr.tr (Fr.tr (Fr.tr (Fr.tr (Fr.tr (Fr.tr (Fr.mono u_2 (by decide)) (Fr.mono u_11 (by decide))) (Fr.mono u_20 (by decide))) (Fr.mono u_29 (by decide))) (Fr.mono u_38 (by decide))) (Fr.mono u_47 (by decide))) (Fr.mono u_56 (by decide))) u_67) (by decide) (by decide))⟩ dX5_line_159
              · -- 126
                replace HE : FT = g28_X5_line (xso SC ad ws_55) := HE.trans (if_neg c_63)
                refine lv_aload_n C0.1 C0.2.1 dX5_line_129 rfl (lv_at hl 0 rfl) ?_
                refine y_cv h (y_rV (As := []) (rest := []) C0 hZ h (c_X5_advance l G Z ad _ h.2) k_X5_advance q_616 q_0 q_614 kSC_77 rfl rfl rfl hl.1 rfl rfl (Nat.le_of_ble_eq_true rfl) dX5_line_130 ⟨Nat.le_of_ble_eq_true rfl, Nat.le_of_ble_eq_true rfl⟩ ⟨Nat.le_of_ble_eq_true rfl, Nat.le_of_ble_eq_true rfl⟩) (fun H locs ws_70 h u_71 p_72 => ?_)
                have e_73 := p_72
                replace HE : FT = g30c_X5_line (xso SC ad ws_70) := HE.trans (by rw [e_73]; rfl)
                refine lv_aload_n C0.1 C0.2.1 dX5_line_133 rfl (lv_at hl 0 rfl) ?_
                refine tg_X5_city C0 h kSC_77 q_370 dX5_line_134 ?_
                refine tg_X0_folk C0 h kSC_20 q_251 dX5_line_137 ?_
                refine lv_aload_n C0.1 C0.2.1 dX5_line_140 rfl (lv_at hl 0 rfl) ?_
                refine y_c1 (n := 0) C0 (by decide) dX5_line_141 (fun v_74 e_75 => ?_)
                refine y_c3 (n := 999) C0 (by decide) dX5_line_142 (fun v_76 e_77 => ?_)
                refine y_ci h (y_rV (As := [.int v_74, .int v_76]) (rest := [.ref (ad 29)]) C0 hZ h (c_X5_boundede l G Z ad _ h.2 v_74 v_76 (o25_1 e_75) (o25_2 e_75) (o25_3 e_77) (o25_4 e_77)) k_X5_bounded q_753 q_7 q_751 kSC_77 rfl rfl rfl hl.1 rfl rfl (Nat.le_of_ble_eq_true rfl) dX5_line_145 ⟨Nat.le_of_ble_eq_true rfl, Nat.le_of_ble_eq_true rfl⟩ ⟨Nat.le_of_ble_eq_true rfl, Nat.le_of_ble_eq_true rfl⟩) (fun r_81 H locs ws_78 h u_79 p_80 => ?_)
                obtain ⟨e_82, e_83, e_84, e_85⟩ := p_80
                replace HE : FT = g31c_X5_line (xso SC ad ws_78) r_81.toInt := HE.trans (by rw [e_82, e_83, e_77, e_75]; rfl)
                refine tp_X1_hours C0 h kSC_29 q_222 (le_min r_81) (le_max r_81) dX5_line_148 (fun H locs ws_86 h u_87 Xu_87 => ?_)
                replace HE : FT = g32w_X5_line (xso SC ad ws_86) := HE.trans (by rw [Xu_87]; rfl)
                refine lv_goto (tgt := 159) C0.1 C0.2.1 dX5_line_151 (by decide) ?_
                replace HE : FT = ((xso SC ad ws_86), 0) := HE.trans rfl
                rw [hQ]
                exact y_vret C0 h (Fr.tr (Fr.tr (Fr.tr (Fr.tr (Fr.tr (Fr.tr (Fr.tr (Fr.tr (Fr.tr (Fr.mono u_2 (by decide)) (Fr.mono u_11 (by decide))) (Fr.mono u_20 (by decide))) (Fr.mono u_29 (by decide))) (Fr.mono u_38 (by decide))) (Fr.mono u_47 (by decide))) (Fr.mono u_56 (by decide))) (Fr.mono u_71 (by decide))) (Fr.mono u_79 (by decide))) (Fr.up u_87.1 kSC_29 (by decide))) ⟨(congrArg Prod.fst (HE.symm.trans hFT)), (Rel.fr (M := [6, 16]) hR (Fr.tr (Fr.tr (Fr.tr (Fr.tr (Fr.tr (Fr.tr (Fr.tr (Fr.tr (Fr.tr (Fr.mono u_2 (by decide)) (Fr.mono u_11 (by decide))) (Fr.mono u_20 (by decide))) (Fr.mono u_29 (by decide))) (Fr.mono u_38 (by decide))) (Fr.mono u_47 (by decide))) (Fr.mono u_56 (by decide))) (Fr.mono u_71 (by decide))) (Fr.mono u_79 (by decide))) (Fr.up u_87.1 kSC_29 (by decide))) (by decide) (by decide))⟩ dX5_line_159
            · -- 98
              replace HE : FT = g24_X5_line (xso SC ad ws_46) := HE.trans (if_neg c_54)
              refine lv_aload_n C0.1 C0.2.1 dX5_line_101 rfl (lv_at hl 0 rfl) ?_
              refine lv_aload_n C0.1 C0.2.1 dX5_line_102 rfl (lv_at hl 0 rfl) ?_
              refine tg_X5_city C0 h kSC_77 q_370 dX5_line_103 ?_
              refine tg_X0_mayLaw C0 h kSC_20 q_246 dX5_line_106 ?_
              refine y_cv h (y_rV (As := [.ref (ad 25)]) (rest := []) C0 hZ h (c_X5_beginLaw l G Z ad _ h.2 25 kSC_25) k_X5_beginLaw q_807 q_13 q_805 kSC_77 rfl rfl rfl hl.1 rfl rfl (Nat.le_of_ble_eq_true rfl) dX5_line_109 ⟨Nat.le_of_ble_eq_true rfl, Nat.le_of_ble_eq_true rfl⟩ ⟨Nat.le_of_ble_eq_true rfl, Nat.le_of_ble_eq_true rfl⟩) (fun H locs ws_88 h u_89 p_90 => ?_)
              have e_91 := p_90
              replace HE : FT = g33c_X5_line (xso SC ad ws_88) := HE.trans (by rw [e_91]; rfl)
              refine lv_aload_n C0.1 C0.2.1 dX5_line_112 rfl (lv_at hl 0 rfl) ?_
              refine y_c1 (n := 0) C0 (by decide) dX5_line_113 (fun v_92 e_93 => ?_)
              refine y_cv h (y_rV (As := [.int v_92]) (rest := []) C0 hZ h (c_X5_truth_0 l G Z ad _ h.2 v_92 (o25_1 e_93) (o25_2 e_93)) k_X5_truth q_843 q_19 q_841 kSC_77 rfl rfl rfl hl.1 rfl rfl (Nat.le_of_ble_eq_true rfl) dX5_line_114 ⟨Nat.le_of_ble_eq_true rfl, Nat.le_of_ble_eq_true rfl⟩ ⟨Nat.le_of_ble_eq_true rfl, Nat.le_of_ble_eq_true rfl⟩) (fun H locs ws_94 h u_95 p_96 => ?_)
              have e_97 := p_96
              replace HE : FT = g34c_X5_line (xso SC ad ws_94) := HE.trans (by rw [e_97, e_93]; rfl)
              refine lv_goto (tgt := 159) C0.1 C0.2.1 dX5_line_117 (by decide) ?_
              replace HE : FT = ((xso SC ad ws_94), 0) := HE.trans rfl
              rw [hQ]
              exact y_vret C0 h (Fr.tr (Fr.tr (Fr.tr (Fr.tr (Fr.tr (Fr.tr (Fr.tr (Fr.mono u_2 (by decide)) (Fr.mono u_11 (by decide))) (Fr.mono u_20 (by decide))) (Fr.mono u_29 (by decide))) (Fr.mono u_38 (by decide))) (Fr.mono u_47 (by decide))) (Fr.mono u_89 (by decide))) (Fr.mono u_95 (by decide))) ⟨(congrArg Prod.fst (HE.symm.trans hFT)), (Rel.fr (M := [2, 3, 16]) hR (Fr.tr (Fr.tr (Fr.tr (Fr.tr (Fr.tr (Fr.tr (Fr.tr (Fr.mono u_2 (by decide)) (Fr.mono u_11 (by decide))) (Fr.mono u_20 (by decide))) (Fr.mono u_29 (by decide))) (Fr.mono u_38 (by decide))) (Fr.mono u_47 (by decide))) (Fr.mono u_89 (by decide))) u_95) (by decide) (by decide))⟩ dX5_line_159
          · -- 70
            replace HE : FT = g20_X5_line (xso SC ad ws_37) := HE.trans (if_neg c_45)
            refine lv_aload_n C0.1 C0.2.1 dX5_line_73 rfl (lv_at hl 0 rfl) ?_
            refine lv_aload_n C0.1 C0.2.1 dX5_line_74 rfl (lv_at hl 0 rfl) ?_
            refine tg_X5_city C0 h kSC_77 q_370 dX5_line_75 ?_
            refine tg_X0_priceLaw C0 h kSC_20 q_243 dX5_line_78 ?_
            refine y_cv h (y_rV (As := [.ref (ad 21)]) (rest := []) C0 hZ h (c_X5_beginLaw l G Z ad _ h.2 21 kSC_21) k_X5_beginLaw q_807 q_13 q_805 kSC_77 rfl rfl rfl hl.1 rfl rfl (Nat.le_of_ble_eq_true rfl) dX5_line_81 ⟨Nat.le_of_ble_eq_true rfl, Nat.le_of_ble_eq_true rfl⟩ ⟨Nat.le_of_ble_eq_true rfl, Nat.le_of_ble_eq_true rfl⟩) (fun H locs ws_98 h u_99 p_100 => ?_)
            have e_101 := p_100
            replace HE : FT = g35c_X5_line (xso SC ad ws_98) := HE.trans (by rw [e_101]; rfl)
            refine lv_aload_n C0.1 C0.2.1 dX5_line_84 rfl (lv_at hl 0 rfl) ?_
            refine y_c1 (n := 0) C0 (by decide) dX5_line_85 (fun v_102 e_103 => ?_)
            refine y_cv h (y_rV (As := [.int v_102]) (rest := []) C0 hZ h (c_X5_sum_0 l G Z ad _ h.2 v_102 (o25_1 e_103) (o25_2 e_103)) k_X5_sum q_816 q_15 q_814 kSC_77 rfl rfl rfl hl.1 rfl rfl (Nat.le_of_ble_eq_true rfl) dX5_line_86 ⟨Nat.le_of_ble_eq_true rfl, Nat.le_of_ble_eq_true rfl⟩ ⟨Nat.le_of_ble_eq_true rfl, Nat.le_of_ble_eq_true rfl⟩) (fun H locs ws_104 h u_105 p_106 => ?_)
            have e_107 := p_106
            replace HE : FT = g36c_X5_line (xso SC ad ws_104) := HE.trans (by rw [e_107, e_103]; rfl)
            refine lv_goto (tgt := 159) C0.1 C0.2.1 dX5_line_89 (by decide) ?_
            replace HE : FT = ((xso SC ad ws_104), 0) := HE.trans rfl
            rw [hQ]
            exact y_vret C0 h (Fr.tr (Fr.tr (Fr.tr (Fr.tr (Fr.tr (Fr.tr (Fr.mono u_2 (by decide)) (Fr.mono u_11 (by decide))) (Fr.mono u_20 (by decide))) (Fr.mono u_29 (by decide))) (Fr.mono u_38 (by decide))) (Fr.mono u_99 (by decide))) (Fr.mono u_105 (by decide))) ⟨(congrArg Prod.fst (HE.symm.trans hFT)), (Rel.fr (M := [2, 3, 16]) hR (Fr.tr (Fr.tr (Fr.tr (Fr.tr (Fr.tr (Fr.tr (Fr.mono u_2 (by decide)) (Fr.mono u_11 (by decide))) (Fr.mono u_20 (by decide))) (Fr.mono u_29 (by decide))) (Fr.mono u_38 (by decide))) (Fr.mono u_99 (by decide))) u_105) (by decide) (by decide))⟩ dX5_line_159
        · -- 54
          replace HE : FT = g16_X5_line (xso SC ad ws_28) := HE.trans (if_neg c_36)
          refine lv_aload_n C0.1 C0.2.1 dX5_line_57 rfl (lv_at hl 0 rfl) ?_
          refine y_cv h (y_rV (As := []) (rest := []) C0 hZ h (c_X5_personLine l G Z ad _ h.2) k_X5_personLine q_788 q_11 q_786 kSC_77 rfl rfl rfl hl.1 rfl rfl (Nat.le_of_ble_eq_true rfl) dX5_line_58 ⟨Nat.le_of_ble_eq_true rfl, Nat.le_of_ble_eq_true rfl⟩ ⟨Nat.le_of_ble_eq_true rfl, Nat.le_of_ble_eq_true rfl⟩) (fun H locs ws_108 h u_109 p_110 => ?_)
          have e_111 := p_110
          replace HE : FT = g37c_X5_line (xso SC ad ws_108) := HE.trans (by rw [e_111]; rfl)
          refine lv_goto (tgt := 159) C0.1 C0.2.1 dX5_line_61 (by decide) ?_
          replace HE : FT = ((xso SC ad ws_108), 0) := HE.trans rfl
          rw [hQ]
          exact y_vret C0 h (Fr.tr (Fr.tr (Fr.tr (Fr.tr (Fr.mono u_2 (by decide)) (Fr.mono u_11 (by decide))) (Fr.mono u_20 (by decide))) (Fr.mono u_29 (by decide))) (Fr.mono u_109 (by decide))) ⟨(congrArg Prod.fst (HE.symm.trans hFT)), (Rel.fr (M := [6, 7, 8, 9, 10, 16]) hR (Fr.tr (Fr.tr (Fr.tr (Fr.tr (Fr.mono u_2 (by decide)) (Fr.mono u_11 (by decide))) (Fr.mono u_20 (by decide))) (Fr.mono u_29 (by decide))) u_109) (by decide) (by decide))⟩ dX5_line_159
      · -- 38
        replace HE : FT = g12_X5_line (xso SC ad ws_19) := HE.trans (if_neg c_27)
        refine lv_aload_n C0.1 C0.2.1 dX5_line_41 rfl (lv_at hl 0 rfl) ?_
        refine y_cv h (y_rV (As := []) (rest := []) C0 hZ h (c_X5_freeLine l G Z ad _ h.2) k_X5_freeLine q_779 q_10 q_777 kSC_77 rfl rfl rfl hl.1 rfl rfl (Nat.le_of_ble_eq_true rfl) dX5_line_42 ⟨Nat.le_of_ble_eq_true rfl, Nat.le_of_ble_eq_true rfl⟩ ⟨Nat.le_of_ble_eq_true rfl, Nat.le_of_ble_eq_true rfl⟩) (fun H locs ws_112 h u_113 p_114 => ?_)
        have e_115 := p_114
        replace HE : FT = g38c_X5_line (xso SC ad ws_112) := HE.trans (by rw [e_115]; rfl)
        refine lv_goto (tgt := 159) C0.1 C0.2.1 dX5_line_45 (by decide) ?_
        replace HE : FT = ((xso SC ad ws_112), 0) := HE.trans rfl
        rw [hQ]
        exact y_vret C0 h (Fr.tr (Fr.tr (Fr.tr (Fr.mono u_2 (by decide)) (Fr.mono u_11 (by decide))) (Fr.mono u_20 (by decide))) (Fr.mono u_113 (by decide))) ⟨(congrArg Prod.fst (HE.symm.trans hFT)), (Rel.fr (M := [1, 16]) hR (Fr.tr (Fr.tr (Fr.tr (Fr.mono u_2 (by decide)) (Fr.mono u_11 (by decide))) (Fr.mono u_20 (by decide))) u_113) (by decide) (by decide))⟩ dX5_line_159
    · -- 22
      replace HE : FT = g8_X5_line (xso SC ad ws_10) := HE.trans (if_neg c_18)
      refine lv_aload_n C0.1 C0.2.1 dX5_line_25 rfl (lv_at hl 0 rfl) ?_
      refine y_cv h (y_rV (As := []) (rest := []) C0 hZ h (c_X5_wallLine l G Z ad _ h.2 (Rel.fr (M := []) hR (Fr.tr u_2 u_11) (by decide) (by decide))) k_X5_wallLine q_762 q_8 q_760 kSC_77 rfl rfl rfl hl.1 rfl rfl (Nat.le_of_ble_eq_true rfl) dX5_line_26 ⟨Nat.le_of_ble_eq_true rfl, Nat.le_of_ble_eq_true rfl⟩ ⟨Nat.le_of_ble_eq_true rfl, Nat.le_of_ble_eq_true rfl⟩) (fun H locs ws_116 h u_117 p_118 => ?_)
      obtain ⟨e_119, e_120⟩ := p_118
      replace HE : FT = g39c_X5_line (xso SC ad ws_116) := HE.trans (by rw [e_119]; rfl)
      refine lv_goto (tgt := 159) C0.1 C0.2.1 dX5_line_29 (by decide) ?_
      replace HE : FT = ((xso SC ad ws_116), 0) := HE.trans rfl
      rw [hQ]
      exact y_vret C0 h (Fr.tr (Fr.tr (Fr.mono u_2 (by decide)) (Fr.mono u_11 (by decide))) (Fr.mono u_117 (by decide))) ⟨(congrArg Prod.fst (HE.symm.trans hFT)), e_120⟩ dX5_line_159
  · -- 6
    replace HE : FT = g4_X5_line (xso SC ad ws_1) := HE.trans (if_neg c_9)
    refine lv_aload_n C0.1 C0.2.1 dX5_line_9 rfl (lv_at hl 0 rfl) ?_
    refine y_cv h (y_rV (As := []) (rest := []) C0 hZ h (c_X5_cityLine l G Z ad _ h.2 (Rel.fr (M := []) hR u_2 (by decide) (by decide))) k_X5_cityLine q_749 q_6 q_747 kSC_77 rfl rfl rfl hl.1 rfl rfl (Nat.le_of_ble_eq_true rfl) dX5_line_10 ⟨Nat.le_of_ble_eq_true rfl, Nat.le_of_ble_eq_true rfl⟩ ⟨Nat.le_of_ble_eq_true rfl, Nat.le_of_ble_eq_true rfl⟩) (fun H locs ws_121 h u_122 p_123 => ?_)
    obtain ⟨e_124, e_125⟩ := p_123
    replace HE : FT = g40c_X5_line (xso SC ad ws_121) := HE.trans (by rw [e_124]; rfl)
    refine lv_goto (tgt := 159) C0.1 C0.2.1 dX5_line_13 (by decide) ?_
    replace HE : FT = ((xso SC ad ws_121), 0) := HE.trans rfl
    rw [hQ]
    exact y_vret C0 h (Fr.tr (Fr.mono u_2 (by decide)) (Fr.mono u_122 (by decide))) ⟨(congrArg Prod.fst (HE.symm.trans hFT)), e_125⟩ dX5_line_159
noncomputable def g11_X5_read (s : XS) : XR := (s, (s 0 77 8))
noncomputable def g14_X5_read (s : XS) : XR := (s, (s 0 77 8))
noncomputable def g18w_X5_read (R38 : XS → Int → XR) (s : XS) (x2_30 : Int) : XR := R38 s ((x2_30 + 1))
noncomputable def g17c_X5_read (R38 : XS → Int → XR) (s : XS) (x2_30 : Int) : XR := g18w_X5_read R38 (xup s 0 20 7 (Xiadd (s 0 20 7) 1)) x2_30
noncomputable def g16c_X5_read (R38 : XS → Int → XR) (s : XS) (x2_30 : Int) : XR := g17c_X5_read R38 ((f_X5_sign s 59).1) x2_30
noncomputable def g15_X5_read (R38 : XS → Int → XR) (s : XS) (x2_30 : Int) : XR := g16c_X5_read R38 ((f_X5_line s).1) x2_30
noncomputable def g13b_X5_read (R38 : XS → Int → XR) (s : XS) (v_46 : Int) (x2_30 : Int) : XR := if v_46 = 0 then g14_X5_read s else g15_X5_read R38 s x2_30
noncomputable def g12_X5_read (R38 : XS → Int → XR) (s : XS) (x2_30 : Int) : XR := g13b_X5_read R38 s ((s 0 77 4)) x2_30
noncomputable def g10b_X5_read (R38 : XS → Int → XR) (s : XS) (x2_30 : Int) : XR := if x2_30 < 900 then g12_X5_read R38 s x2_30 else g11_X5_read s
noncomputable def g9l_X5_read (R38 : XS → Int → XR) (s : XS) (x2_30 : Int) : XR := g10b_X5_read R38 s x2_30
noncomputable def L8_X5_read (n : Nat) : XS → Int → XR := Nat.rec (motive := fun _ => XS → Int → XR) (fun s _ => (s, 0)) (fun _ R38 => g9l_X5_read R38) n
noncomputable def g7c_X5_read (s : XS) : XR := L8_X5_read (Int.toNat (900 - 0 + 1)) s 0
noncomputable def g6w_X5_read (s : XS) : XR := g7c_X5_read ((f_X5_advance s).1)
noncomputable def g5w_X5_read (s : XS) : XR := g6w_X5_read (xup s 0 77 9 ((-1)))
noncomputable def g4w_X5_read (s : XS) : XR := g5w_X5_read (xup s 0 77 8 0)
noncomputable def g3w_X5_read (s : XS) : XR := g4w_X5_read (xup s 0 77 6 0)
noncomputable def g2w_X5_read (s : XS) (a1 : Int) : XR := g3w_X5_read (xup s 0 77 3 a1)
noncomputable def g1c_X5_read (s : XS) (a1 : Int) : XR := g2w_X5_read (xup s 0 77 2 0) a1
noncomputable def f_X5_read (s : XS) (a1 : Int) : XR := g1c_X5_read ((f_X0_clear s 20).1) a1
set_option maxHeartbeats 4000000 in
set_option maxRecDepth 100000 in
theorem c_X5_read (l : Launch) (G : GG) (Z : RZ) (ad : Nat → Nat) (ws0 : va_W) (hT : Ty G SC ad ws0) (a1 : Int32) (l1 : 0 ≤ a1.toInt) (u1 : a1.toInt ≤ 900) (hR : Rel ws0) : Mq l yX5_read cX5_read 3 (some .int) 31 G Z [.ref (ad 77), .int a1] ws0 (PI G SC ad [1, 2, 3, 6, 7, 8, 9, 10, 11, 12, 13, 14, 15, 16] ws0 (fun r u => (xso SC ad u = (f_X5_read (xso SC ad ws0) a1.toInt).1) ∧ (r.toInt = (f_X5_read (xso SC ad ws0) a1.toInt).2) ∧ (Rel u))) := by
  refine Mq.start (by decide) (Nat.le_of_ble_eq_true rfl) ?_
  intro p e s m below meth c A ls C0 hZ h hl
  have hl : lv_has ls 3 [(0, .ref (ad 77)), (1, .int a1)] := hl
  have h : Wt G SC ad A s s.heap [] ws0 := ⟨h, hT⟩
  obtain ⟨args, hargs⟩ : ∃ z, z = ([.ref (ad 77), .int a1] : List Value).toArray := ⟨_, rfl⟩
  rw [← hargs] at C0 ⊢
  have C0 : Cx p s m args meth c RX5 cX5_read 3 (some .int) := C0
  obtain ⟨Q, hQ⟩ : ∃ z, z = MQ below ((PI G SC ad [1, 2, 3, 6, 7, 8, 9, 10, 11, 12, 13, 14, 15, 16] ws0 (fun r u => (xso SC ad u = (f_X5_read (xso SC ad ws0) a1.toInt).1) ∧ (r.toInt = (f_X5_read (xso SC ad ws0) a1.toInt).2) ∧ (Rel u))) A) args s 0 0 A := ⟨_, rfl⟩
  rw [← hQ]
  obtain ⟨FT, hFT⟩ : ∃ z, z = f_X5_read (xso SC ad ws0) a1.toInt := ⟨_, rfl⟩
  have HE : FT = f_X5_read (xso SC ad ws0) a1.toInt := hFT
  refine lv_aload_n C0.1 C0.2.1 dX5_read_0 rfl (lv_at hl 0 rfl) ?_
  refine tg_X5_city C0 h kSC_77 q_370 dX5_read_1 ?_
  refine y_cv h (y_rV (As := []) (rest := []) C0 hZ h (c_X0_clear l G Z ad _ h.2 20 kSC_20 hR) k_X0_clear q_599 q_600 q_598 kSC_20 rfl rfl rfl hl.1 rfl rfl (Nat.le_of_ble_eq_true rfl) dX5_read_4 ⟨Nat.le_of_ble_eq_true rfl, Nat.le_of_ble_eq_true rfl⟩ ⟨Nat.le_of_ble_eq_true rfl, Nat.le_of_ble_eq_true rfl⟩) (fun H locs ws_1 h u_2 p_3 => ?_)
  obtain ⟨e_4, e_5⟩ := p_3
  replace HE : FT = g1c_X5_read (xso SC ad ws_1) a1.toInt := HE.trans (by rw [e_4]; rfl)
  refine lv_aload_n C0.1 C0.2.1 dX5_read_7 rfl (lv_at hl 0 rfl) ?_
  refine y_c1 (n := 0) C0 (by decide) dX5_read_8 (fun v_6 e_7 => ?_)
  refine tp_X5_fed C0 h kSC_77 q_372 (o25_1 e_7) (o25_5 e_7) dX5_read_9 (fun H locs ws_8 h u_9 Xu_9 => ?_)
  replace HE : FT = g2w_X5_read (xso SC ad ws_8) a1.toInt := HE.trans (by rw [Xu_9, e_7]; rfl)
  refine lv_aload_n C0.1 C0.2.1 dX5_read_12 rfl (lv_at hl 0 rfl) ?_
  refine lv_iload_n C0.1 C0.2.1 dX5_read_13 rfl (lv_at hl 1 rfl) ?_
  refine tp_X5_length C0 h kSC_77 q_373 (o25_6 l1 u1) (o25_7 l1 u1) dX5_read_14 (fun H locs ws_10 h u_11 Xu_11 => ?_)
  replace HE : FT = g3w_X5_read (xso SC ad ws_10) := HE.trans (by rw [Xu_11]; rfl)
  refine lv_aload_n C0.1 C0.2.1 dX5_read_17 rfl (lv_at hl 0 rfl) ?_
  refine y_c1 (n := 0) C0 (by decide) dX5_read_18 (fun v_12 e_13 => ?_)
  refine tp_X5_end C0 h kSC_77 q_376 (o25_1 e_13) (o25_5 e_13) dX5_read_19 (fun H locs ws_14 h u_15 Xu_15 => ?_)
  replace HE : FT = g4w_X5_read (xso SC ad ws_14) := HE.trans (by rw [Xu_15, e_13]; rfl)
  refine lv_aload_n C0.1 C0.2.1 dX5_read_22 rfl (lv_at hl 0 rfl) ?_
  refine y_c1 (n := 0) C0 (by decide) dX5_read_23 (fun v_16 e_17 => ?_)
  refine tp_X5_fault C0 h kSC_77 q_378 (le_min v_16) (le_max v_16) dX5_read_24 (fun H locs ws_18 h u_19 Xu_19 => ?_)
  replace HE : FT = g5w_X5_read (xso SC ad ws_18) := HE.trans (by rw [Xu_19, e_17]; rfl)
  refine lv_aload_n C0.1 C0.2.1 dX5_read_27 rfl (lv_at hl 0 rfl) ?_
  refine y_c1 (n := (-1)) C0 (by decide) dX5_read_28 (fun v_20 e_21 => ?_)
  refine tp_X5_place C0 h kSC_77 q_379 (le_min v_20) (le_max v_20) dX5_read_29 (fun H locs ws_22 h u_23 Xu_23 => ?_)
  replace HE : FT = g6w_X5_read (xso SC ad ws_22) := HE.trans (by rw [Xu_23, e_21]; rfl)
  refine lv_aload_n C0.1 C0.2.1 dX5_read_32 rfl (lv_at hl 0 rfl) ?_
  refine y_cv h (y_rV (As := []) (rest := []) C0 hZ h (c_X5_advance l G Z ad _ h.2) k_X5_advance q_616 q_0 q_614 kSC_77 rfl rfl rfl hl.1 rfl rfl (Nat.le_of_ble_eq_true rfl) dX5_read_33 ⟨Nat.le_of_ble_eq_true rfl, Nat.le_of_ble_eq_true rfl⟩ ⟨Nat.le_of_ble_eq_true rfl, Nat.le_of_ble_eq_true rfl⟩) (fun H locs ws_24 h u_25 p_26 => ?_)
  have e_27 := p_26
  replace HE : FT = g7c_X5_read (xso SC ad ws_24) := HE.trans (by rw [e_27]; rfl)
  refine y_c1 (n := 0) C0 (by decide) dX5_read_36 (fun v_28 e_29 => ?_)
  refine lv_istore_n (lv' := [(2, .int v_28), (0, .ref (ad 77)), (1, .int a1)]) C0.1 C0.2.1 dX5_read_37 rfl hl (by decide) rfl (fun ls hl => ?_)
  have lp_33 : ∀ (n_35 : Nat) (x2_30 : Int32) (H : Heap) (locs : List Loc) (ls : Array Slot) (ws_31 : va_W), 900 - x2_30.toInt < (n_35 : Int) → 0 ≤ x2_30.toInt → x2_30.toInt ≤ 900 → (FT = L8_X5_read n_35 (xso SC ad ws_31) x2_30.toInt) → Rel ws_31 → Wt G SC ad A s H locs ws_31 → Fr SC [1, 2, 3, 6, 7, 8, 9, 10, 14, 15, 16] ws_24 ws_31 → lv_has ls 3 [(2, .int x2_30), (0, .ref (ad 77)), (1, .int a1)] → W p l e (rmd 31 0 0) s m args below meth c H locs 0 0 Q (F0 m 38 ls []) := by
    intro n_35
    induction n_35 with
    | zero => intro x2_30 H locs ls ws_31 hn_36 b_37 b_38 HE hRl h hF_32 hl; exact ((o25_8 b_37 b_38 hn_36)).elim
    | succ n_35 ih_34 =>
      intro x2_30 H locs ls ws_31 hn_36 b_37 b_38 HE hRl h hF_32 hl
      obtain ⟨R38, hR38⟩ : ∃ z, z = L8_X5_read n_35 := ⟨_, rfl⟩
      replace HE : FT = g9l_X5_read R38 (xso SC ad ws_31) x2_30.toInt := HE.trans (by rw [hR38]; rfl)
      refine lv_iload_n C0.1 C0.2.1 dX5_read_38 rfl (lv_at hl 0 rfl) ?_
      refine y_c3 (n := 900) C0 (by decide) dX5_read_39 (fun v_39 e_40 => ?_)
      replace HE : FT = g10b_X5_read R38 (xso SC ad ws_31) x2_30.toInt := HE.trans rfl
      refine y_icmp_ge (tgt := 81) C0 dX5_read_42 (by decide) (fun c_41 => ?_) (fun c_41 => ?_)
      · -- 42
        replace HE : FT = g11_X5_read (xso SC ad ws_31) := HE.trans (if_neg (o25_10 b_37 b_38 hn_36 e_40 c_41))
        refine lv_aload_n C0.1 C0.2.1 dX5_read_81 rfl (lv_at hl 1 rfl) ?_
        refine tg_X5_fault C0 h kSC_77 q_378 dX5_read_82 (fun v_42 e_43 e_44 e_45 => ?_)
        replace HE : FT = ((xso SC ad ws_31), v_42.toInt) := HE.trans (by rw [(xg0 e_43 : v_42.toInt = (xso SC ad ws_31) 0 77 8)]; rfl)
        rw [hQ]
        exact y_iret C0 h (Fr.tr (Fr.tr (Fr.tr (Fr.tr (Fr.tr (Fr.tr (Fr.tr (Fr.mono u_2 (by decide)) (Fr.up u_9.1 kSC_77 (by decide))) (Fr.up u_11.1 kSC_77 (by decide))) (Fr.up u_15.1 kSC_77 (by decide))) (Fr.up u_19.1 kSC_77 (by decide))) (Fr.up u_23.1 kSC_77 (by decide))) (Fr.mono u_25 (by decide))) (Fr.mono hF_32 (by decide))) ⟨(congrArg Prod.fst (HE.symm.trans hFT)), (congrArg Prod.snd (HE.symm.trans hFT)), hRl⟩ dX5_read_85
      · -- 42
        replace HE : FT = g12_X5_read R38 (xso SC ad ws_31) x2_30.toInt := HE.trans (if_pos (o25_11 b_37 b_38 hn_36 e_40 c_41))
        refine lv_aload_n C0.1 C0.2.1 dX5_read_45 rfl (lv_at hl 1 rfl) ?_
        refine tg_X5_kind C0 h kSC_77 q_374 dX5_read_46 (fun v_46 e_47 e_48 e_49 => ?_)
        replace HE : FT = g13b_X5_read R38 (xso SC ad ws_31) v_46.toInt x2_30.toInt := HE.trans (by rw [(xg0 e_47 : v_46.toInt = (xso SC ad ws_31) 0 77 4)]; rfl)
        refine y_if_eq (tgt := 81) C0 dX5_read_49 (by decide) (fun c_50 => ?_) (fun c_50 => ?_)
        · -- 49
          replace HE : FT = g14_X5_read (xso SC ad ws_31) := HE.trans (if_pos c_50)
          refine lv_aload_n C0.1 C0.2.1 dX5_read_81 rfl (lv_at hl 1 rfl) ?_
          refine tg_X5_fault C0 h kSC_77 q_378 dX5_read_82 (fun v_51 e_52 e_53 e_54 => ?_)
          replace HE : FT = ((xso SC ad ws_31), v_51.toInt) := HE.trans (by rw [(xg0 e_52 : v_51.toInt = (xso SC ad ws_31) 0 77 8)]; rfl)
          rw [hQ]
          exact y_iret C0 h (Fr.tr (Fr.tr (Fr.tr (Fr.tr (Fr.tr (Fr.tr (Fr.tr (Fr.mono u_2 (by decide)) (Fr.up u_9.1 kSC_77 (by decide))) (Fr.up u_11.1 kSC_77 (by decide))) (Fr.up u_15.1 kSC_77 (by decide))) (Fr.up u_19.1 kSC_77 (by decide))) (Fr.up u_23.1 kSC_77 (by decide))) (Fr.mono u_25 (by decide))) (Fr.mono hF_32 (by decide))) ⟨(congrArg Prod.fst (HE.symm.trans hFT)), (congrArg Prod.snd (HE.symm.trans hFT)), hRl⟩ dX5_read_85
        · -- 49
          replace HE : FT = g15_X5_read R38 (xso SC ad ws_31) x2_30.toInt := HE.trans (if_neg c_50)
          refine lv_aload_n C0.1 C0.2.1 dX5_read_52 rfl (lv_at hl 1 rfl) ?_
          refine y_cv h (y_rV (As := []) (rest := []) C0 hZ h (c_X5_line l G Z ad _ h.2 hRl) k_X5_line q_719 q_4 q_717 kSC_77 rfl rfl rfl hl.1 rfl rfl (Nat.le_of_ble_eq_true rfl) dX5_read_53 ⟨Nat.le_of_ble_eq_true rfl, Nat.le_of_ble_eq_true rfl⟩ ⟨Nat.le_of_ble_eq_true rfl, Nat.le_of_ble_eq_true rfl⟩) (fun H locs ws_55 h u_56 p_57 => ?_)
          obtain ⟨e_58, e_59⟩ := p_57
          replace HE : FT = g16c_X5_read R38 (xso SC ad ws_55) x2_30.toInt := HE.trans (by rw [e_58]; rfl)
          refine lv_aload_n C0.1 C0.2.1 dX5_read_56 rfl (lv_at hl 1 rfl) ?_
          refine y_c2 (n := 59) C0 (by decide) dX5_read_57 (fun v_60 e_61 => ?_)
          refine y_cv h (y_rV (As := [.int v_60]) (rest := []) C0 hZ h (c_X5_sign l G Z ad _ h.2 v_60 (o25_12 e_61) (o25_13 e_61)) k_X5_sign q_812 q_14 q_810 kSC_77 rfl rfl rfl hl.1 rfl rfl (Nat.le_of_ble_eq_true rfl) dX5_read_59 ⟨Nat.le_of_ble_eq_true rfl, Nat.le_of_ble_eq_true rfl⟩ ⟨Nat.le_of_ble_eq_true rfl, Nat.le_of_ble_eq_true rfl⟩) (fun H locs ws_62 h u_63 p_64 => ?_)
          have e_65 := p_64
          replace HE : FT = g17c_X5_read R38 (xso SC ad ws_62) x2_30.toInt := HE.trans (by rw [e_65, e_61]; rfl)
          refine lv_aload_n C0.1 C0.2.1 dX5_read_62 rfl (lv_at hl 1 rfl) ?_
          refine tg_X5_city C0 h kSC_77 q_370 dX5_read_63 ?_
          refine lv_dup C0.1 C0.2.1 dX5_read_66 rfl ?_
          refine tg_X0_lines C0 h kSC_20 q_265 dX5_read_67 (fun v_66 e_67 e_68 e_69 => ?_)
          refine y_c1 (n := 1) C0 (by decide) dX5_read_70 (fun v_70 e_71 => ?_)
          refine xr_iadd C0 dX5_read_71 (fun v_72 e_73 => ?_)
          refine tp_X0_lines C0 h kSC_20 q_265 (le_min v_72) (le_max v_72) dX5_read_72 (fun H locs ws_74 h u_75 Xu_75 => ?_)
          replace HE : FT = g18w_X5_read R38 (xso SC ad ws_74) x2_30.toInt := HE.trans (by rw [Xu_75, e_73, e_71, (xg0 e_67 : v_66.toInt = (xso SC ad ws_62) 0 20 7)]; rfl)
          refine y_inc (kp := 0) (n := 1) (fun v_76 => [(2, .int v_76), (0, .ref (ad 77)), (1, .int a1)]) C0 hl rfl (by decide) (by decide) (fun _ => rfl) (o25_14 b_37 b_38 hn_36 e_40 c_41 (le_min x2_30) (le_max x2_30) (le_min v_39) (le_max v_39)) (o25_15 b_37 b_38 hn_36 e_40 c_41 (le_min x2_30) (le_max x2_30) (le_min v_39) (le_max v_39)) dX5_read_75 (fun v_76 ls e_77 hl => ?_)
          refine lv_goto (tgt := 38) C0.1 C0.2.1 dX5_read_78 (by decide) ?_
          exact ih_34 v_76 _ _ _ _ (o25_16 b_37 b_38 hn_36 e_40 c_41 e_77) (o25_17 b_37 b_38 hn_36 e_40 c_41 e_77) (o25_18 b_37 b_38 hn_36 e_40 c_41 e_77) (((show FT = R38 (xso SC ad ws_74) v_76.toInt from HE.trans (by rw [e_77]; rfl)).trans (by rw [hR38]))) (Rel.fr (M := [1, 16]) e_59 (Fr.tr (Fr.mono u_63 (by decide)) (Fr.up u_75.1 kSC_20 (by decide))) (by decide) (by decide)) h (Fr.tr (Fr.tr (Fr.tr hF_32 u_56) (Fr.mono u_63 (by decide))) (Fr.up u_75.1 kSC_20 (by decide))) (lv_sub hl [0, 1, 2] rfl)
  exact lp_33 ((900 - v_28.toInt + 1).toNat) v_28 _ _ _ _ (o25_19 e_29) (o25_1 e_29) (o25_5 e_29) ((show FT = L8_X5_read (Int.toNat (900 - v_28.toInt + 1)) (xso SC ad ws_24) v_28.toInt from HE.trans (by rw [e_29]; rfl))) (Rel.fr (M := [16]) e_5 (Fr.tr (Fr.tr (Fr.tr (Fr.tr (Fr.tr (Fr.up u_9.1 kSC_77 (by decide)) (Fr.up u_11.1 kSC_77 (by decide))) (Fr.up u_15.1 kSC_77 (by decide))) (Fr.up u_19.1 kSC_77 (by decide))) (Fr.up u_23.1 kSC_77 (by decide))) u_25) (by decide) (by decide)) h Fr.rf (lv_sub hl [0, 1, 2] rfl)
