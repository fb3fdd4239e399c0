variable {tt : QQ}
theorem dX12_affords_0 : decode cX12_affords 0 = .ok (.aload_n 0, 1) := by decide +kernel
theorem dX12_affords_1 : decode cX12_affords 1 = .ok (.iconst 0, 1) := by decide +kernel
theorem dX12_affords_2 : decode cX12_affords 2 = .ok (.putfield 1, 3) := by decide +kernel
theorem dX12_affords_5 : decode cX12_affords 5 = .ok (.aload_n 0, 1) := by decide +kernel
theorem dX12_affords_6 : decode cX12_affords 6 = .ok (.iload_n 1, 1) := by decide +kernel
theorem dX12_affords_7 : decode cX12_affords 7 = .ok (.i2l, 1) := by decide +kernel
theorem dX12_affords_8 : decode cX12_affords 8 = .ok (.invokevirtual 253, 3) := by decide +kernel
theorem dX12_affords_11 : decode cX12_affords 11 = .ok (.ifCond .ne 6, 3) := by decide +kernel
theorem dX12_affords_14 : decode cX12_affords 14 = .ok (.bipush (-2), 2) := by decide +kernel
theorem dX12_affords_16 : decode cX12_affords 16 = .ok (.ireturn, 1) := by decide +kernel
theorem dX12_affords_17 : decode cX12_affords 17 = .ok (.iconst 0, 1) := by decide +kernel
theorem dX12_affords_18 : decode cX12_affords 18 = .ok (.istore_n 2, 1) := by decide +kernel
theorem dX12_affords_19 : decode cX12_affords 19 = .ok (.iload_n 2, 1) := by decide +kernel
theorem dX12_affords_20 : decode cX12_affords 20 = .ok (.bipush 76, 2) := by decide +kernel
theorem dX12_affords_22 : decode cX12_affords 22 = .ok (.if_icmp .ge 24, 3) := by decide +kernel
theorem dX12_affords_25 : decode cX12_affords 25 = .ok (.aload_n 0, 1) := by decide +kernel
theorem dX12_affords_26 : decode cX12_affords 26 = .ok (.getfield 36, 3) := by decide +kernel
theorem dX12_affords_29 : decode cX12_affords 29 = .ok (.iload_n 2, 1) := by decide +kernel
theorem dX12_affords_30 : decode cX12_affords 30 = .ok (.aload_n 0, 1) := by decide +kernel
theorem dX12_affords_31 : decode cX12_affords 31 = .ok (.getfield 13, 3) := by decide +kernel
theorem dX12_affords_34 : decode cX12_affords 34 = .ok (.bipush 36, 2) := by decide +kernel
theorem dX12_affords_36 : decode cX12_affords 36 = .ok (.iload_n 2, 1) := by decide +kernel
theorem dX12_affords_37 : decode cX12_affords 37 = .ok (.iadd, 1) := by decide +kernel
theorem dX12_affords_38 : decode cX12_affords 38 = .ok (.iaload, 1) := by decide +kernel
theorem dX12_affords_39 : decode cX12_affords 39 = .ok (.iastore, 1) := by decide +kernel
theorem dX12_affords_40 : decode cX12_affords 40 = .ok (.iinc 2 1, 3) := by decide +kernel
theorem dX12_affords_43 : decode cX12_affords 43 = .ok (.goto (-24), 3) := by decide +kernel
theorem dX12_affords_46 : decode cX12_affords 46 = .ok (.iconst 0, 1) := by decide +kernel
theorem dX12_affords_47 : decode cX12_affords 47 = .ok (.istore_n 2, 1) := by decide +kernel
theorem dX12_affords_48 : decode cX12_affords 48 = .ok (.aload_n 0, 1) := by decide +kernel
theorem dX12_affords_49 : decode cX12_affords 49 = .ok (.iload_n 1, 1) := by decide +kernel
theorem dX12_affords_50 : decode cX12_affords 50 = .ok (.iconst 1, 1) := by decide +kernel
theorem dX12_affords_51 : decode cX12_affords 51 = .ok (.invokevirtual 325, 3) := by decide +kernel
theorem dX12_affords_54 : decode cX12_affords 54 = .ok (.ifCond .lt 9, 3) := by decide +kernel
theorem dX12_affords_57 : decode cX12_affords 57 = .ok (.iinc 2 1, 3) := by decide +kernel
theorem dX12_affords_60 : decode cX12_affords 60 = .ok (.goto (-12), 3) := by decide +kernel
theorem dX12_affords_63 : decode cX12_affords 63 = .ok (.iconst 0, 1) := by decide +kernel
theorem dX12_affords_64 : decode cX12_affords 64 = .ok (.istore_n 3, 1) := by decide +kernel
theorem dX12_affords_65 : decode cX12_affords 65 = .ok (.iload_n 3, 1) := by decide +kernel
theorem dX12_affords_66 : decode cX12_affords 66 = .ok (.bipush 76, 2) := by decide +kernel
theorem dX12_affords_68 : decode cX12_affords 68 = .ok (.if_icmp .ge 24, 3) := by decide +kernel
theorem dX12_affords_71 : decode cX12_affords 71 = .ok (.aload_n 0, 1) := by decide +kernel
theorem dX12_affords_72 : decode cX12_affords 72 = .ok (.getfield 13, 3) := by decide +kernel
theorem dX12_affords_75 : decode cX12_affords 75 = .ok (.bipush 36, 2) := by decide +kernel
theorem dX12_affords_77 : decode cX12_affords 77 = .ok (.iload_n 3, 1) := by decide +kernel
theorem dX12_affords_78 : decode cX12_affords 78 = .ok (.iadd, 1) := by decide +kernel
theorem dX12_affords_79 : decode cX12_affords 79 = .ok (.aload_n 0, 1) := by decide +kernel
theorem dX12_affords_80 : decode cX12_affords 80 = .ok (.getfield 36, 3) := by decide +kernel
theorem dX12_affords_83 : decode cX12_affords 83 = .ok (.iload_n 3, 1) := by decide +kernel
theorem dX12_affords_84 : decode cX12_affords 84 = .ok (.iaload, 1) := by decide +kernel
theorem dX12_affords_85 : decode cX12_affords 85 = .ok (.iastore, 1) := by decide +kernel
theorem dX12_affords_86 : decode cX12_affords 86 = .ok (.iinc 3 1, 3) := by decide +kernel
theorem dX12_affords_89 : decode cX12_affords 89 = .ok (.goto (-24), 3) := by decide +kernel
theorem dX12_affords_92 : decode cX12_affords 92 = .ok (.iload_n 2, 1) := by decide +kernel
theorem dX12_affords_93 : decode cX12_affords 93 = .ok (.ireturn, 1) := by decide +kernel
theorem o40_1 {x0 : Int} (h0 : 0 ≤ x0) (h1 : x0 ≤ 76) (h2 : 76 - x0 < 0) : False := by omega
theorem o40_2 {x0 x1 x2 : Int} (h0 : x1 = x0) (h1 : 0 ≤ x2) (h2 : x2 ≤ 1) (h3 : (x2 = 0 ∨ (0 ≤ x1 ∧ x1 ≤ 4))) (h4 : ¬ x2 = 0) : 0 ≤ x0 := by omega
theorem o40_3 {x0 x1 x2 : Int} (h0 : x1 = x0) (h1 : 0 ≤ x2) (h2 : x2 ≤ 1) (h3 : (x2 = 0 ∨ (0 ≤ x1 ∧ x1 ≤ 4))) (h4 : ¬ x2 = 0) : x0 ≤ 4 := by omega
theorem o40_4 {x0 : Int} (h0 : x0 = 1) : 1 ≤ x0 := by omega
theorem o40_5 {x0 : Int} (h0 : x0 = 1) : x0 ≤ 20 := by omega
theorem o40_6 {x0 x1 x2 : Int} (h0 : x1 = x2) (h1 : 0 ≤ x0) (h2 : x0 ≤ 1) (h3 : (x0 = 0 ∨ (0 ≤ x1 ∧ x1 ≤ 4))) (h4 : ¬ x0 = 0) : ¬ x0 = 0 := by omega
theorem o40_7 {x0 x1 x3 : Int} {x2 : Nat} (h0 : 0 ≤ x1) (h1 : x1 ≤ 76) (h2 : 76 - x1 < ((x2 + 1 : Nat) : Int)) (h3 : x3 = 76) (h4 : x1 < x3) (h5 : x0 = 36) (h6 : -2147483648 ≤ x0) (h7 : x0 ≤ 2147483647) (h8 : -2147483648 ≤ x1) (h9 : x1 ≤ 2147483647) (h10 : -2147483648 ≤ x3) (h11 : x3 ≤ 2147483647) : -2147483648 ≤ x0 + x1 := by omega
theorem o40_8 {x0 x1 x3 : Int} {x2 : Nat} (h0 : 0 ≤ x1) (h1 : x1 ≤ 76) (h2 : 76 - x1 < ((x2 + 1 : Nat) : Int)) (h3 : x3 = 76) (h4 : x1 < x3) (h5 : x0 = 36) (h6 : -2147483648 ≤ x0) (h7 : x0 ≤ 2147483647) (h8 : -2147483648 ≤ x1) (h9 : x1 ≤ 2147483647) (h10 : -2147483648 ≤ x3) (h11 : x3 ≤ 2147483647) : x0 + x1 ≤ 2147483647 := by omega
theorem o40_9 {x0 x2 x3 x4 : Int} {x1 : Nat} (h0 : 0 ≤ x0) (h1 : x0 ≤ 76) (h2 : 76 - x0 < ((x1 + 1 : Nat) : Int)) (h3 : x2 = 76) (h4 : x0 < x2) (h5 : x3 = 36) (h6 : x4 = x3 + x0) : 0 ≤ x0 := by omega
theorem o40_10 {x0 x2 x3 x4 : Int} {x1 : Nat} (h0 : 0 ≤ x0) (h1 : x0 ≤ 76) (h2 : 76 - x0 < ((x1 + 1 : Nat) : Int)) (h3 : x2 = 76) (h4 : x0 < x2) (h5 : x3 = 36) (h6 : x4 = x3 + x0) : x0 < (76 : Nat) := by omega
theorem o40_11 {x0 x1 x3 x4 : Int} {x2 : Nat} (h0 : 0 ≤ x1) (h1 : x1 ≤ 76) (h2 : 76 - x1 < ((x2 + 1 : Nat) : Int)) (h3 : x3 = 76) (h4 : x1 < x3) (h5 : x4 = 36) (h6 : x0 = x4 + x1) : 0 ≤ x0 := by omega
theorem o40_12 {x0 x1 x3 x4 : Int} {x2 : Nat} (h0 : 0 ≤ x1) (h1 : x1 ≤ 76) (h2 : 76 - x1 < ((x2 + 1 : Nat) : Int)) (h3 : x3 = 76) (h4 : x1 < x3) (h5 : x4 = 36) (h6 : x0 = x4 + x1) : x0 < (5322 : Nat) := by omega
theorem o40_13 {x0 x1 x3 x4 : Int} {x2 : Nat} (h0 : 0 ≤ x1) (h1 : x1 ≤ 76) (h2 : 76 - x1 < ((x2 + 1 : Nat) : Int)) (h3 : x3 = 76) (h4 : x1 < x3) (h5 : x4 = 36) (h6 : x0 = x4 + x1) : (x0).toNat = 36 + (x1).toNat := by omega
theorem o40_14 {x0 x2 x3 x4 : Int} {x1 : Nat} (h0 : 0 ≤ x0) (h1 : x0 ≤ 76) (h2 : 76 - x0 < ((x1 + 1 : Nat) : Int)) (h3 : x2 = 76) (h4 : x0 < x2) (h5 : x3 = 36) (h6 : x4 = x3 + x0) : (x0).toNat < 76 := by omega
theorem o40_15 {x0 x1 x3 x4 : Int} {x2 : Nat} (h0 : 0 ≤ x1) (h1 : x1 ≤ 76) (h2 : 76 - x1 < ((x2 + 1 : Nat) : Int)) (h3 : x3 = 76) (h4 : x1 < x3) (h5 : x4 = 36) (h6 : x0 = x4 + x1) : (36 ≤ x0 ∨ x0 = 10) := by omega
theorem o40_16 {x0 x1 x3 x4 : Int} {x2 : Nat} (h0 : 0 ≤ x1) (h1 : x1 ≤ 76) (h2 : 76 - x1 < ((x2 + 1 : Nat) : Int)) (h3 : x3 = 76) (h4 : x1 < x3) (h5 : x4 = 36) (h6 : x0 = x4 + x1) : 10 ≤ x0 := by omega
theorem o40_17 {x0 x1 x3 x4 : Int} {x2 : Nat} (h0 : 0 ≤ x1) (h1 : x1 ≤ 76) (h2 : 76 - x1 < ((x2 + 1 : Nat) : Int)) (h3 : x3 = 76) (h4 : x1 < x3) (h5 : x4 = 36) (h6 : x0 = x4 + x1) : x0 ≤ 872 := by omega
theorem o40_18 {x0 x2 x3 x4 : Int} {x1 : Nat} (h0 : 0 ≤ x0) (h1 : x0 ≤ 76) (h2 : 76 - x0 < ((x1 + 1 : Nat) : Int)) (h3 : x2 = 76) (h4 : x0 < x2) (h5 : x3 = 36) (h6 : x4 = x3 + x0) (h7 : -2147483648 ≤ x0) (h8 : x0 ≤ 2147483647) (h9 : -2147483648 ≤ x2) (h10 : x2 ≤ 2147483647) (h11 : -2147483648 ≤ x3) (h12 : x3 ≤ 2147483647) (h13 : -2147483648 ≤ x4) (h14 : x4 ≤ 2147483647) : -2147483648 ≤ x0 + 1 := by omega
theorem o40_19 {x0 x2 x3 x4 : Int} {x1 : Nat} (h0 : 0 ≤ x0) (h1 : x0 ≤ 76) (h2 : 76 - x0 < ((x1 + 1 : Nat) : Int)) (h3 : x2 = 76) (h4 : x0 < x2) (h5 : x3 = 36) (h6 : x4 = x3 + x0) (h7 : -2147483648 ≤ x0) (h8 : x0 ≤ 2147483647) (h9 : -2147483648 ≤ x2) (h10 : x2 ≤ 2147483647) (h11 : -2147483648 ≤ x3) (h12 : x3 ≤ 2147483647) (h13 : -2147483648 ≤ x4) (h14 : x4 ≤ 2147483647) : x0 + 1 ≤ 2147483647 := by omega
theorem o40_20 {x0 x2 x3 x4 x5 : Int} {x1 : Nat} (h0 : 0 ≤ x2) (h1 : x2 ≤ 76) (h2 : 76 - x2 < ((x1 + 1 : Nat) : Int)) (h3 : x3 = 76) (h4 : x2 < x3) (h5 : x4 = 36) (h6 : x5 = x4 + x2) (h7 : x0 = x2 + 1) : 76 - x0 < (x1 : Int) := by omega
theorem o40_21 {x0 x1 x3 x4 x5 : Int} {x2 : Nat} (h0 : 0 ≤ x1) (h1 : x1 ≤ 76) (h2 : 76 - x1 < ((x2 + 1 : Nat) : Int)) (h3 : x3 = 76) (h4 : x1 < x3) (h5 : x4 = 36) (h6 : x5 = x4 + x1) (h7 : x0 = x1 + 1) : 0 ≤ x0 := by omega
theorem o40_22 {x0 x1 x3 x4 x5 : Int} {x2 : Nat} (h0 : 0 ≤ x1) (h1 : x1 ≤ 76) (h2 : 76 - x1 < ((x2 + 1 : Nat) : Int)) (h3 : x3 = 76) (h4 : x1 < x3) (h5 : x4 = 36) (h6 : x5 = x4 + x1) (h7 : x0 = x1 + 1) : x0 ≤ 76 := by omega
theorem o40_23 {x0 : Int} (h0 : x0 = 0) : 76 - x0 < (((76 - x0 + 1).toNat : Nat) : Int) := by omega
theorem o40_24 {x0 : Int} (h0 : x0 = 0) : 0 ≤ x0 := by omega
theorem o40_25 {x0 : Int} (h0 : x0 = 0) : x0 ≤ 76 := by omega
theorem o40_26 {x0 : Int} (h0 : 0 ≤ x0) : 0 ≤ x0 := by omega
theorem o40_27 {x0 : Int} (h0 : x0 = 1) : x0 = 1 := by omega
set_option maxHeartbeats 4000000 in
set_option maxRecDepth 100000 in
theorem c_X12_affords (l : Launch) (G : GG) (Z : RZ) (ad : Nat → Nat) (ws0 : va_W) (hT : Ty G (SM tt) ad ws0) (a1 : Int32) (hJ : J ws0) : Mq l yX12_affords cX12_affords 4 (some .int) 6 G Z [.ref (ad 0), .int a1] ws0 (PI G (SM tt) ad [0, 1, 5, 6, 7] ws0 (fun r u => (Pa ws0 u) ∧ (Pw ws0 u))) := by
  refine Mq.start (by decide) (Nat.le_of_ble_eq_true rfl) ?_
  intro p e s m below meth c A ls C0 hZ h hl
  have hl : lv_has ls 4 [(0, .ref (ad 0)), (1, .int a1)] := hl
  have h : Wt G (SM tt) ad A s s.heap [] ws0 := ⟨h, hT⟩
  obtain ⟨args, hargs⟩ : ∃ z, z = ([.ref (ad 0), .int a1] : List Value).toArray := ⟨_, rfl⟩
  rw [← hargs] at C0 ⊢
  have C0 : Cx p s m args meth c RX12 cX12_affords 4 (some .int) := C0
  obtain ⟨Q, hQ⟩ : ∃ z, z = MQ below ((PI G (SM tt) ad [0, 1, 5, 6, 7] ws0 (fun r u => (Pa ws0 u) ∧ (Pw ws0 u))) A) args s 0 0 A := ⟨_, rfl⟩
  rw [← hQ]
  refine lv_aload_n C0.1 C0.2.1 dX12_affords_0 rfl (lv_at hl 0 rfl) ?_
  refine y_c1 (n := 0) C0 (by decide) dX12_affords_1 (fun v_1 e_2 => ?_)
  refine np_X12_thrown C0 h kSM_0 q_1438 (le_min v_1) (le_max v_1) dX12_affords_2 (fun H locs ws_3 h u_4 => ?_)
  refine lv_aload_n C0.1 C0.2.1 dX12_affords_5 rfl (lv_at hl 0 rfl) ?_
  refine lv_iload_n C0.1 C0.2.1 dX12_affords_6 rfl (lv_at hl 1 rfl) ?_
  refine y_i2l C0 dX12_affords_7 (fun w_5 e_6 => ?_)
  refine y_ci h (y_rV (As := [.long w_5]) (rest := []) C0 hZ h (c_X12_isPerson l G Z ad _ h.2 w_5 (J.pa hT hJ (Pa.ud u_4.1 (by decide)))) k_X12_isPerson q_1693 q_77 q_1691 kSM_0 rfl rfl rfl hl.1 rfl rfl (Nat.le_of_ble_eq_true rfl) dX12_affords_8 ⟨Nat.le_of_ble_eq_true rfl, Nat.le_of_ble_eq_true rfl⟩ ⟨Nat.le_of_ble_eq_true rfl, Nat.le_of_ble_eq_true rfl⟩) (fun r_10 H locs ws_7 h u_8 p_9 => ?_)
  obtain ⟨e_11, e_12, e_13, e_14⟩ := p_9
  refine y_if_ne (tgt := 17) C0 dX12_affords_11 (by decide) (fun c_15 => ?_) (fun c_15 => ?_)
  · -- 11
    refine y_c1 (n := 0) C0 (by decide) dX12_affords_17 (fun v_16 e_17 => ?_)
    refine lv_istore_n (lv' := [(2, .int v_16), (0, .ref (ad 0)), (1, .int a1)]) C0.1 C0.2.1 dX12_affords_18 rfl hl (by decide) rfl (fun ls hl => ?_)
    have lp_21 : ∀ (n_23 : Nat) (x2_18 : Int32) (H : Heap) (locs : List Loc) (ls : Array Slot) (ws_19 : va_W), 76 - x2_18.toInt < (n_23 : Int) → 0 ≤ x2_18.toInt → x2_18.toInt ≤ 76 → Wt G (SM tt) ad A s H locs ws_19 → Fr (SM tt) [7] ws_7 ws_19 → lv_has ls 4 [(2, .int x2_18), (0, .ref (ad 0)), (1, .int a1)] → W p l e (rmd 6 0 0) s m args below meth c H locs 0 0 Q (F0 m 19 ls []) := by
      intro n_23
      induction n_23 with
      | zero => intro x2_18 H locs ls ws_19 hn_24 b_25 b_26 h hF_20 hl; exact ((o40_1 b_25 b_26 hn_24)).elim
      | succ n_23 ih_22 =>
        intro x2_18 H locs ls ws_19 hn_24 b_25 b_26 h hF_20 hl
        refine lv_iload_n C0.1 C0.2.1 dX12_affords_19 rfl (lv_at hl 0 rfl) ?_
        refine y_c2 (n := 76) C0 (by decide) dX12_affords_20 (fun v_27 e_28 => ?_)
        refine y_icmp_ge (tgt := 46) C0 dX12_affords_22 (by decide) (fun c_29 => ?_) (fun c_29 => ?_)
        · -- 22
          refine y_c1 (n := 0) C0 (by decide) dX12_affords_46 (fun v_30 e_31 => ?_)
          refine lv_istore_n (lv' := [(2, .int v_30), (0, .ref (ad 0)), (1, .int a1)]) C0.1 C0.2.1 dX12_affords_47 rfl hl (by decide) rfl (fun ls hl => ?_)
          have lp_35 : ∀ (n_37 : Nat) (x2_32 : Int32) (H : Heap) (locs : List Loc) (ls : Array Slot) (ws_33 : va_W), 99 - (aI ws_33 1 (46 + a1.toInt.toNat)).toInt < (n_37 : Int) → (Pa ws_19 ws_33) → (Pw ws_19 ws_33) → Wt G (SM tt) ad A s H locs ws_33 → Fr (SM tt) [1, 5, 6] ws_19 ws_33 → lv_has ls 4 [(2, .int x2_32), (0, .ref (ad 0)), (1, .int a1)] → W p l e (rmd 6 0 0) s m args below meth c H locs 0 0 Q (F0 m 48 ls []) := by
            intro n_37
            induction n_37 with
            | zero => intro x2_32 H locs ls ws_33 hn_38 hPa_48 hPw_48 h hF_34 hl; exact (aff_0 h.2 (by omega) hn_38).elim
            | succ n_37 ih_36 =>
              intro x2_32 H locs ls ws_33 hn_38 hPa_48 hPw_48 h hF_34 hl
              refine lv_aload_n C0.1 C0.2.1 dX12_affords_48 rfl (lv_at hl 1 rfl) ?_
              refine lv_iload_n C0.1 C0.2.1 dX12_affords_49 rfl (lv_at hl 2 rfl) ?_
              refine y_c1 (n := 1) C0 (by decide) dX12_affords_50 (fun v_39 e_40 => ?_)
              refine y_ci h (y_rV (As := [.int a1, .int v_39]) (rest := []) C0 hZ h (c_X12_boughtBy l G Z ad _ h.2 a1 v_39 (o40_2 e_6 e_11 e_12 e_13 c_15) (o40_3 e_6 e_11 e_12 e_13 c_15) (o40_4 e_40) (o40_5 e_40) (J.pa hT hJ (Pa.tr (Pa.tr (Pa.tr (Pa.ud u_4.1 (by decide)) (Pa.fr u_8 (by decide))) (Pa.fr hF_20 (by decide))) hPa_48)) (Laid.pa (Or.resolve_left e_14 (o40_6 e_6 e_11 e_12 e_13 c_15)) (Pa.tr (Pa.tr (Pa.fr u_8 (by decide)) (Pa.fr hF_20 (by decide))) hPa_48))) k_X12_boughtBy q_1816 q_94 q_1814 kSM_0 rfl rfl rfl hl.1 rfl rfl (Nat.le_of_ble_eq_true rfl) dX12_affords_51 ⟨Nat.le_of_ble_eq_true rfl, Nat.le_of_ble_eq_true rfl⟩ ⟨Nat.le_of_ble_eq_true rfl, Nat.le_of_ble_eq_true rfl⟩) (fun r_44 H locs ws_41 h u_42 p_43 => ?_)
              obtain ⟨e_45, e_46, e_47⟩ := p_43
              refine y_if_lt (tgt := 63) C0 dX12_affords_54 (by decide) (fun c_48 => ?_) (fun c_48 => ?_)
              · -- 54
                refine y_c1 (n := 0) C0 (by decide) dX12_affords_63 (fun v_49 e_50 => ?_)
                refine lv_istore_n (lv' := [(3, .int v_49), (2, .int x2_32), (0, .ref (ad 0)), (1, .int a1)]) C0.1 C0.2.1 dX12_affords_64 rfl hl (by decide) rfl (fun ls hl => ?_)
                have lp_54 : ∀ (n_56 : Nat) (x3_51 : Int32) (H : Heap) (locs : List Loc) (ls : Array Slot) (ws_52 : va_W), 76 - x3_51.toInt < (n_56 : Int) → 0 ≤ x3_51.toInt → x3_51.toInt ≤ 76 → (Pa ws_41 ws_52) → (Pw ws_41 ws_52) → Wt G (SM tt) ad A s H locs ws_52 → Fr (SM tt) [1] ws_41 ws_52 → lv_has ls 4 [(3, .int x3_51), (2, .int x2_32), (0, .ref (ad 0)), (1, .int a1)] → W p l e (rmd 6 0 0) s m args below meth c H locs 0 0 Q (F0 m 65 ls []) := by
                  intro n_56
                  induction n_56 with
                  | zero => intro x3_51 H locs ls ws_52 hn_57 b_58 b_59 hPa_65 hPw_65 h hF_53 hl; exact ((o40_1 b_58 b_59 hn_57)).elim
                  | succ n_56 ih_55 =>
                    intro x3_51 H locs ls ws_52 hn_57 b_58 b_59 hPa_65 hPw_65 h hF_53 hl
                    refine lv_iload_n C0.1 C0.2.1 dX12_affords_65 rfl (lv_at hl 0 rfl) ?_
                    refine y_c2 (n := 76) C0 (by decide) dX12_affords_66 (fun v_60 e_61 => ?_)
                    refine y_icmp_ge (tgt := 92) C0 dX12_affords_68 (by decide) (fun c_62 => ?_) (fun c_62 => ?_)
                    · -- 68
                      refine lv_iload_n C0.1 C0.2.1 dX12_affords_92 rfl (lv_at hl 1 rfl) ?_
                      rw [hQ]
                      exact y_iret C0 h (Fr.tr (Fr.tr (Fr.tr (Fr.tr (Fr.tr (Fr.up u_4.1 kSM_0 (by decide)) (Fr.mono u_8 (by decide))) (Fr.mono hF_20 (by decide))) (Fr.mono hF_34 (by decide))) (Fr.mono u_42 (by decide))) (Fr.mono hF_53 (by decide))) ⟨(Pa.tr (Pa.tr (Pa.tr (Pa.tr (Pa.tr (Pa.ud u_4.1 (by decide)) (Pa.fr u_8 (by decide))) (Pa.fr hF_20 (by decide))) hPa_48) e_46) hPa_65), (Pw.tr (Pw.tr (Pw.tr (Pw.tr (Pw.tr (Pw.ud u_4.1 (by decide)) (Pw.fr u_8 (by decide))) (Pw.fr hF_20 (by decide))) hPw_48) e_47) hPw_65)⟩ dX12_affords_93
                    · -- 68
                      refine lv_aload_n C0.1 C0.2.1 dX12_affords_71 rfl (lv_at hl 2 rfl) ?_
                      refine ng_X12_all C0 h kSM_0 q_1439 dX12_affords_72 ?_
                      refine y_c2 (n := 36) C0 (by decide) dX12_affords_75 (fun v_63 e_64 => ?_)
                      refine lv_iload_n C0.1 C0.2.1 dX12_affords_77 rfl (lv_at hl 0 rfl) ?_
                      refine y_add C0 (o40_7 b_58 b_59 hn_57 e_61 c_62 e_64 (le_min v_63) (le_max v_63) (le_min x3_51) (le_max x3_51) (le_min v_60) (le_max v_60)) (o40_8 b_58 b_59 hn_57 e_61 c_62 e_64 (le_min v_63) (le_max v_63) (le_min x3_51) (le_max x3_51) (le_min v_60) (le_max v_60)) dX12_affords_78 (fun v_65 e_66 => ?_)
                      refine lv_aload_n C0.1 C0.2.1 dX12_affords_79 rfl (lv_at hl 2 rfl) ?_
                      refine ng_X12_ahead C0 h kSM_0 q_1458 dX12_affords_80 ?_
                      refine lv_iload_n C0.1 C0.2.1 dX12_affords_83 rfl (lv_at hl 0 rfl) ?_
                      refine y_iald C0 h kSM_7 rfl (by decide) (o40_9 b_58 b_59 hn_57 e_61 c_62 e_64 e_66) (o40_10 b_58 b_59 hn_57 e_61 c_62 e_64 e_66) dX12_affords_84 (fun v_67 e_68 e_69 e_70 => ?_)
                      refine y_iast C0 h kSM_1 rfl (by decide) (o40_11 b_58 b_59 hn_57 e_61 c_62 e_64 e_66) (o40_12 b_58 b_59 hn_57 e_61 c_62 e_64 e_66) (el_lo (Eq.symm (ec_wa (o40_13 b_58 b_59 hn_57 e_61 c_62 e_64 e_66) (o40_14 b_58 b_59 hn_57 e_61 c_62 e_64 e_66))) e_69) (el_hi (Eq.symm (ec_wa (o40_13 b_58 b_59 hn_57 e_61 c_62 e_64 e_66) (o40_14 b_58 b_59 hn_57 e_61 c_62 e_64 e_66))) e_70) dX12_affords_85 (fun H locs ws_71 h u_72 => ?_)
                      refine y_inc (kp := 0) (n := 1) (fun v_73 => [(3, .int v_73), (2, .int x2_32), (0, .ref (ad 0)), (1, .int a1)]) C0 hl rfl (by decide) (by decide) (fun _ => rfl) (o40_18 b_58 b_59 hn_57 e_61 c_62 e_64 e_66 (le_min x3_51) (le_max x3_51) (le_min v_60) (le_max v_60) (le_min v_63) (le_max v_63) (le_min v_65) (le_max v_65)) (o40_19 b_58 b_59 hn_57 e_61 c_62 e_64 e_66 (le_min x3_51) (le_max x3_51) (le_min v_60) (le_max v_60) (le_min v_63) (le_max v_63) (le_min v_65) (le_max v_65)) dX12_affords_86 (fun v_73 ls e_74 hl => ?_)
                      refine lv_goto (tgt := 65) C0.1 C0.2.1 dX12_affords_89 (by decide) ?_
                      exact ih_55 v_73 _ _ _ _ (o40_20 b_58 b_59 hn_57 e_61 c_62 e_64 e_66 e_74) (o40_21 b_58 b_59 hn_57 e_61 c_62 e_64 e_66 e_74) (o40_22 b_58 b_59 hn_57 e_61 c_62 e_64 e_66 e_74) ((Pa.tr hPa_65 (Pa.st u_72 (o40_16 b_58 b_59 hn_57 e_61 c_62 e_64 e_66) (o40_17 b_58 b_59 hn_57 e_61 c_62 e_64 e_66)))) ((Pw.tr hPw_65 (Pw.st u_72 (o40_15 b_58 b_59 hn_57 e_61 c_62 e_64 e_66)))) h (Fr.tr hF_53 (Fr.up u_72.1 kSM_1 (by decide))) (lv_sub hl [0, 1, 2, 3] rfl)
                exact lp_54 ((76 - v_49.toInt + 1).toNat) v_49 _ _ _ _ (o40_23 e_50) (o40_24 e_50) (o40_25 e_50) Pa.rf Pw.rf h Fr.rf (lv_sub hl [0, 1, 2, 3] rfl)
              · -- 54
                refine y_incU (kp := 0) (fun v_75 => [(2, .int v_75), (0, .ref (ad 0)), (1, .int a1)]) C0 hl rfl (by decide) (fun _ => rfl) dX12_affords_57 (fun v_75 ls hl => ?_)
                refine lv_goto (tgt := 48) C0.1 C0.2.1 dX12_affords_60 (by decide) ?_
                exact ih_36 v_75 _ _ _ _ (aff_s hn_38 e_45 (o40_26 c_48) (o40_27 e_40)) ((Pa.tr hPa_48 e_46)) ((Pw.tr hPw_48 e_47)) h (Fr.tr hF_34 u_42) (lv_sub hl [0, 1, 2] rfl)
          exact lp_35 ((99 - (aI ws_19 1 (46 + a1.toInt.toNat)).toInt + 1).toNat) v_30 _ _ _ _ (by omega) Pa.rf Pw.rf h Fr.rf (lv_sub hl [0, 1, 2] rfl)
        · -- 22
          refine lv_aload_n C0.1 C0.2.1 dX12_affords_25 rfl (lv_at hl 1 rfl) ?_
          refine ng_X12_ahead C0 h kSM_0 q_1458 dX12_affords_26 ?_
          refine lv_iload_n C0.1 C0.2.1 dX12_affords_29 rfl (lv_at hl 0 rfl) ?_
          refine lv_aload_n C0.1 C0.2.1 dX12_affords_30 rfl (lv_at hl 1 rfl) ?_
          refine ng_X12_all C0 h kSM_0 q_1439 dX12_affords_31 ?_
          refine y_c2 (n := 36) C0 (by decide) dX12_affords_34 (fun v_76 e_77 => ?_)
          refine lv_iload_n C0.1 C0.2.1 dX12_affords_36 rfl (lv_at hl 0 rfl) ?_
          refine y_add C0 (o40_7 b_25 b_26 hn_24 e_28 c_29 e_77 (le_min v_76) (le_max v_76) (le_min x2_18) (le_max x2_18) (le_min v_27) (le_max v_27)) (o40_8 b_25 b_26 hn_24 e_28 c_29 e_77 (le_min v_76) (le_max v_76) (le_min x2_18) (le_max x2_18) (le_min v_27) (le_max v_27)) dX12_affords_37 (fun v_78 e_79 => ?_)
          refine y_iald C0 h kSM_1 rfl (by decide) (o40_11 b_25 b_26 hn_24 e_28 c_29 e_77 e_79) (o40_12 b_25 b_26 hn_24 e_28 c_29 e_77 e_79) dX12_affords_38 (fun v_80 e_81 e_82 e_83 => ?_)
          refine y_iast C0 h kSM_7 rfl (by decide) (o40_9 b_25 b_26 hn_24 e_28 c_29 e_77 e_79) (o40_10 b_25 b_26 hn_24 e_28 c_29 e_77 e_79) (el_lo (ec_wa (o40_13 b_25 b_26 hn_24 e_28 c_29 e_77 e_79) (o40_14 b_25 b_26 hn_24 e_28 c_29 e_77 e_79)) e_82) (el_hi (ec_wa (o40_13 b_25 b_26 hn_24 e_28 c_29 e_77 e_79) (o40_14 b_25 b_26 hn_24 e_28 c_29 e_77 e_79)) e_83) dX12_affords_39 (fun H locs ws_84 h u_85 => ?_)
          refine y_inc (kp := 0) (n := 1) (fun v_86 => [(2, .int v_86), (0, .ref (ad 0)), (1, .int a1)]) C0 hl rfl (by decide) (by decide) (fun _ => rfl) (o40_18 b_25 b_26 hn_24 e_28 c_29 e_77 e_79 (le_min x2_18) (le_max x2_18) (le_min v_27) (le_max v_27) (le_min v_76) (le_max v_76) (le_min v_78) (le_max v_78)) (o40_19 b_25 b_26 hn_24 e_28 c_29 e_77 e_79 (le_min x2_18) (le_max x2_18) (le_min v_27) (le_max v_27) (le_min v_76) (le_max v_76) (le_min v_78) (le_max v_78)) dX12_affords_40 (fun v_86 ls e_87 hl => ?_)
          refine lv_goto (tgt := 19) C0.1 C0.2.1 dX12_affords_43 (by decide) ?_
          exact ih_22 v_86 _ _ _ _ (o40_20 b_25 b_26 hn_24 e_28 c_29 e_77 e_79 e_87) (o40_21 b_25 b_26 hn_24 e_28 c_29 e_77 e_79 e_87) (o40_22 b_25 b_26 hn_24 e_28 c_29 e_77 e_79 e_87) h (Fr.tr hF_20 (Fr.up u_85.1 kSM_7 (by decide))) (lv_sub hl [0, 1, 2] rfl)
    exact lp_21 ((76 - v_16.toInt + 1).toNat) v_16 _ _ _ _ (o40_23 e_17) (o40_24 e_17) (o40_25 e_17) h Fr.rf (lv_sub hl [0, 1, 2] rfl)
  · -- 11
    refine y_c2 (n := (-2)) C0 (by decide) dX12_affords_14 (fun v_88 e_89 => ?_)
    rw [hQ]
    exact y_iret C0 h (Fr.tr (Fr.up u_4.1 kSM_0 (by decide)) (Fr.mono u_8 (by decide))) ⟨(Pa.tr (Pa.ud u_4.1 (by decide)) (Pa.fr u_8 (by decide))), (Pw.tr (Pw.ud u_4.1 (by decide)) (Pw.fr u_8 (by decide)))⟩ dX12_affords_16
