variable {tt : QQ}
theorem dX5_line_0 : decode cX5_line 0 = .ok (.aload_n 0, 1) := by decide +kernel
theorem dX5_line_1 : decode cX5_line 1 = .ok (.ldc 95, 2) := by decide +kernel
theorem dX5_line_3 : decode cX5_line 3 = .ok (.invokevirtual 96, 3) := by decide +kernel
theorem dX5_line_6 : decode cX5_line 6 = .ok (.ifCond .eq 10, 3) := by decide +kernel
theorem dX5_line_9 : decode cX5_line 9 = .ok (.aload_n 0, 1) := by decide +kernel
theorem dX5_line_10 : decode cX5_line 10 = .ok (.invokevirtual 100, 3) := by decide +kernel
theorem dX5_line_13 : decode cX5_line 13 = .ok (.goto 146, 3) := by decide +kernel
theorem dX5_line_16 : decode cX5_line 16 = .ok (.aload_n 0, 1) := by decide +kernel
theorem dX5_line_17 : decode cX5_line 17 = .ok (.ldc 103, 2) := by decide +kernel
theorem dX5_line_19 : decode cX5_line 19 = .ok (.invokevirtual 96, 3) := by decide +kernel
theorem dX5_line_22 : decode cX5_line 22 = .ok (.ifCond .eq 10, 3) := by decide +kernel
theorem dX5_line_25 : decode cX5_line 25 = .ok (.aload_n 0, 1) := by decide +kernel
theorem dX5_line_26 : decode cX5_line 26 = .ok (.invokevirtual 105, 3) := by decide +kernel
theorem dX5_line_29 : decode cX5_line 29 = .ok (.goto 130, 3) := by decide +kernel
theorem dX5_line_32 : decode cX5_line 32 = .ok (.aload_n 0, 1) := by decide +kernel
theorem dX5_line_33 : decode cX5_line 33 = .ok (.ldc 108, 2) := by decide +kernel
theorem dX5_line_35 : decode cX5_line 35 = .ok (.invokevirtual 96, 3) := by decide +kernel
theorem dX5_line_38 : decode cX5_line 38 = .ok (.ifCond .eq 10, 3) := by decide +kernel
theorem dX5_line_41 : decode cX5_line 41 = .ok (.aload_n 0, 1) := by decide +kernel
theorem dX5_line_42 : decode cX5_line 42 = .ok (.invokevirtual 110, 3) := by decide +kernel
theorem dX5_line_45 : decode cX5_line 45 = .ok (.goto 114, 3) := by decide +kernel
theorem dX5_line_48 : decode cX5_line 48 = .ok (.aload_n 0, 1) := by decide +kernel
theorem dX5_line_49 : decode cX5_line 49 = .ok (.ldc 113, 2) := by decide +kernel
theorem dX5_line_51 : decode cX5_line 51 = .ok (.invokevirtual 96, 3) := by decide +kernel
theorem dX5_line_54 : decode cX5_line 54 = .ok (.ifCond .eq 10, 3) := by decide +kernel
theorem dX5_line_57 : decode cX5_line 57 = .ok (.aload_n 0, 1) := by decide +kernel
theorem dX5_line_58 : decode cX5_line 58 = .ok (.invokevirtual 115, 3) := by decide +kernel
theorem dX5_line_61 : decode cX5_line 61 = .ok (.goto 98, 3) := by decide +kernel
theorem dX5_line_64 : decode cX5_line 64 = .ok (.aload_n 0, 1) := by decide +kernel
theorem dX5_line_65 : decode cX5_line 65 = .ok (.ldc 118, 2) := by decide +kernel
theorem dX5_line_67 : decode cX5_line 67 = .ok (.invokevirtual 96, 3) := by decide +kernel
theorem dX5_line_70 : decode cX5_line 70 = .ok (.ifCond .eq 22, 3) := by decide +kernel
theorem dX5_line_73 : decode cX5_line 73 = .ok (.aload_n 0, 1) := by decide +kernel
theorem dX5_line_74 : decode cX5_line 74 = .ok (.aload_n 0, 1) := by decide +kernel
theorem dX5_line_75 : decode cX5_line 75 = .ok (.getfield 19, 3) := by decide +kernel
theorem dX5_line_78 : decode cX5_line 78 = .ok (.getfield 23, 3) := by decide +kernel
theorem dX5_line_81 : decode cX5_line 81 = .ok (.invokevirtual 120, 3) := by decide +kernel
theorem dX5_line_84 : decode cX5_line 84 = .ok (.aload_n 0, 1) := by decide +kernel
theorem dX5_line_85 : decode cX5_line 85 = .ok (.iconst 0, 1) := by decide +kernel
theorem dX5_line_86 : decode cX5_line 86 = .ok (.invokevirtual 124, 3) := by decide +kernel
theorem dX5_line_89 : decode cX5_line 89 = .ok (.goto 70, 3) := by decide +kernel
theorem dX5_line_92 : decode cX5_line 92 = .ok (.aload_n 0, 1) := by decide +kernel
theorem dX5_line_93 : decode cX5_line 93 = .ok (.ldc 127, 2) := by decide +kernel
theorem dX5_line_95 : decode cX5_line 95 = .ok (.invokevirtual 96, 3) := by decide +kernel
theorem dX5_line_98 : decode cX5_line 98 = .ok (.ifCond .eq 22, 3) := by decide +kernel
theorem dX5_line_101 : decode cX5_line 101 = .ok (.aload_n 0, 1) := by decide +kernel
theorem dX5_line_102 : decode cX5_line 102 = .ok (.aload_n 0, 1) := by decide +kernel
theorem dX5_line_103 : decode cX5_line 103 = .ok (.getfield 19, 3) := by decide +kernel
theorem dX5_line_106 : decode cX5_line 106 = .ok (.getfield 129, 3) := by decide +kernel
theorem dX5_line_109 : decode cX5_line 109 = .ok (.invokevirtual 120, 3) := by decide +kernel
theorem dX5_line_112 : decode cX5_line 112 = .ok (.aload_n 0, 1) := by decide +kernel
theorem dX5_line_113 : decode cX5_line 113 = .ok (.iconst 0, 1) := by decide +kernel
theorem dX5_line_114 : decode cX5_line 114 = .ok (.invokevirtual 132, 3) := by decide +kernel
theorem dX5_line_117 : decode cX5_line 117 = .ok (.goto 42, 3) := by decide +kernel
theorem dX5_line_120 : decode cX5_line 120 = .ok (.aload_n 0, 1) := by decide +kernel
theorem dX5_line_121 : decode cX5_line 121 = .ok (.ldc 135, 2) := by decide +kernel
theorem dX5_line_123 : decode cX5_line 123 = .ok (.invokevirtual 96, 3) := by decide +kernel
theorem dX5_line_126 : decode cX5_line 126 = .ok (.ifCond .eq 28, 3) := by decide +kernel
theorem dX5_line_129 : decode cX5_line 129 = .ok (.aload_n 0, 1) := by decide +kernel
theorem dX5_line_130 : decode cX5_line 130 = .ok (.invokevirtual 47, 3) := by decide +kernel
theorem dX5_line_133 : decode cX5_line 133 = .ok (.aload_n 0, 1) := by decide +kernel
theorem dX5_line_134 : decode cX5_line 134 = .ok (.getfield 19, 3) := by decide +kernel
theorem dX5_line_137 : decode cX5_line 137 = .ok (.getfield 137, 3) := by decide +kernel
theorem dX5_line_140 : decode cX5_line 140 = .ok (.aload_n 0, 1) := by decide +kernel
theorem dX5_line_141 : decode cX5_line 141 = .ok (.iconst 0, 1) := by decide +kernel
theorem dX5_line_142 : decode cX5_line 142 = .ok (.sipush 999, 3) := by decide +kernel
theorem dX5_line_145 : decode cX5_line 145 = .ok (.invokevirtual 141, 3) := by decide +kernel
theorem dX5_line_148 : decode cX5_line 148 = .ok (.putfield 145, 3) := by decide +kernel
theorem dX5_line_151 : decode cX5_line 151 = .ok (.goto 8, 3) := by decide +kernel
theorem dX5_line_154 : decode cX5_line 154 = .ok (.aload_n 0, 1) := by decide +kernel
theorem dX5_line_155 : decode cX5_line 155 = .ok (.iconst 2, 1) := by decide +kernel
theorem dX5_line_156 : decode cX5_line 156 = .ok (.invokevirtual 76, 3) := by decide +kernel
theorem dX5_line_159 : decode cX5_line 159 = .ok (.return_, 1) := by decide +kernel
theorem dX5_read_0 : decode cX5_read 0 = .ok (.aload_n 0, 1) := by decide +kernel
theorem dX5_read_1 : decode cX5_read 1 = .ok (.getfield 19, 3) := by decide +kernel
theorem dX5_read_4 : decode cX5_read 4 = .ok (.invokevirtual 38, 3) := by decide +kernel
theorem dX5_read_7 : decode cX5_read 7 = .ok (.aload_n 0, 1) := by decide +kernel
theorem dX5_read_8 : decode cX5_read 8 = .ok (.iconst 0, 1) := by decide +kernel
theorem dX5_read_9 : decode cX5_read 9 = .ok (.putfield 32, 3) := by decide +kernel
theorem dX5_read_12 : decode cX5_read 12 = .ok (.aload_n 0, 1) := by decide +kernel
theorem dX5_read_13 : decode cX5_read 13 = .ok (.iload_n 1, 1) := by decide +kernel
theorem dX5_read_14 : decode cX5_read 14 = .ok (.putfield 41, 3) := by decide +kernel
theorem dX5_read_17 : decode cX5_read 17 = .ok (.aload_n 0, 1) := by decide +kernel
theorem dX5_read_18 : decode cX5_read 18 = .ok (.iconst 0, 1) := by decide +kernel
theorem dX5_read_19 : decode cX5_read 19 = .ok (.putfield 44, 3) := by decide +kernel
theorem dX5_read_22 : decode cX5_read 22 = .ok (.aload_n 0, 1) := by decide +kernel
theorem dX5_read_23 : decode cX5_read 23 = .ok (.iconst 0, 1) := by decide +kernel
theorem dX5_read_24 : decode cX5_read 24 = .ok (.putfield 35, 3) := by decide +kernel
theorem dX5_read_27 : decode cX5_read 27 = .ok (.aload_n 0, 1) := by decide +kernel
theorem dX5_read_28 : decode cX5_read 28 = .ok (.iconst (-1), 1) := by decide +kernel
theorem dX5_read_29 : decode cX5_read 29 = .ok (.putfield 15, 3) := by decide +kernel
theorem dX5_read_32 : decode cX5_read 32 = .ok (.aload_n 0, 1) := by decide +kernel
theorem dX5_read_33 : decode cX5_read 33 = .ok (.invokevirtual 47, 3) := by decide +kernel
theorem dX5_read_36 : decode cX5_read 36 = .ok (.iconst 0, 1) := by decide +kernel
theorem dX5_read_37 : decode cX5_read 37 = .ok (.istore_n 2, 1) := by decide +kernel
theorem dX5_read_38 : decode cX5_read 38 = .ok (.iload_n 2, 1) := by decide +kernel
theorem dX5_read_39 : decode cX5_read 39 = .ok (.sipush 900, 3) := by decide +kernel
theorem dX5_read_42 : decode cX5_read 42 = .ok (.if_icmp .ge 39, 3) := by decide +kernel
theorem dX5_read_45 : decode cX5_read 45 = .ok (.aload_n 0, 1) := by decide +kernel
theorem dX5_read_46 : decode cX5_read 46 = .ok (.getfield 50, 3) := by decide +kernel
theorem dX5_read_49 : decode cX5_read 49 = .ok (.ifCond .eq 32, 3) := by decide +kernel
theorem dX5_read_52 : decode cX5_read 52 = .ok (.aload_n 0, 1) := by decide +kernel
theorem dX5_read_53 : decode cX5_read 53 = .ok (.invokevirtual 53, 3) := by decide +kernel
theorem dX5_read_56 : decode cX5_read 56 = .ok (.aload_n 0, 1) := by decide +kernel
theorem dX5_read_57 : decode cX5_read 57 = .ok (.bipush 59, 2) := by decide +kernel
theorem dX5_read_59 : decode cX5_read 59 = .ok (.invokevirtual 56, 3) := by decide +kernel
theorem dX5_read_62 : decode cX5_read 62 = .ok (.aload_n 0, 1) := by decide +kernel
theorem dX5_read_63 : decode cX5_read 63 = .ok (.getfield 19, 3) := by decide +kernel
theorem dX5_read_66 : decode cX5_read 66 = .ok (.dup, 1) := by decide +kernel
theorem dX5_read_67 : decode cX5_read 67 = .ok (.getfield 60, 3) := by decide +kernel
theorem dX5_read_70 : decode cX5_read 70 = .ok (.iconst 1, 1) := by decide +kernel
theorem dX5_read_71 : decode cX5_read 71 = .ok (.iadd, 1) := by decide +kernel
theorem dX5_read_72 : decode cX5_read 72 = .ok (.putfield 60, 3) := by decide +kernel
theorem dX5_read_75 : decode cX5_read 75 = .ok (.iinc 2 1, 3) := by decide +kernel
theorem dX5_read_78 : decode cX5_read 78 = .ok (.goto (-40), 3) := by decide +kernel
theorem dX5_read_81 : decode cX5_read 81 = .ok (.aload_n 0, 1) := by decide +kernel
theorem dX5_read_82 : decode cX5_read 82 = .ok (.getfield 35, 3) := by decide +kernel
theorem dX5_read_85 : decode cX5_read 85 = .ok (.ireturn, 1) := by decide +kernel
theorem o25_1 {x0 : Int} (h0 : x0 = 0) : 0 ≤ x0 := by omega
theorem o25_2 {x0 : Int} (h0 : x0 = 0) : x0 ≤ 0 := by omega
theorem o25_3 {x0 : Int} (h0 : x0 = 999) : 999 ≤ x0 := by omega
theorem o25_4 {x0 : Int} (h0 : x0 = 999) : x0 ≤ 999 := by omega
theorem o25_5 {x0 : Int} (h0 : x0 = 0) : x0 ≤ 900 := by omega
theorem o25_6 {x0 : Int} (h0 : 0 ≤ x0) (h1 : x0 ≤ 900) : 0 ≤ x0 := by omega
theorem o25_7 {x0 : Int} (h0 : 0 ≤ x0) (h1 : x0 ≤ 900) : x0 ≤ 900 := by omega
theorem o25_8 {x0 : Int} (h0 : 0 ≤ x0) (h1 : x0 ≤ 900) (h2 : 900 - x0 < 0) : False := by omega
theorem o25_9 {x0 : Int} (h0 : x0 = 59) : 0 ≤ x0 := by omega
theorem o25_10 {x0 : Int} (h0 : x0 = 59) : x0 ≤ 65535 := by omega
theorem o25_11 {x0 x2 : Int} {x1 : Nat} (h0 : 0 ≤ x0) (h1 : x0 ≤ 900) (h2 : 900 - x0 < ((x1 + 1 : Nat) : Int)) (h3 : x2 = 900) (h4 : x0 < x2) (h5 : -2147483648 ≤ x0) (h6 : x0 ≤ 2147483647) (h7 : -2147483648 ≤ x2) (h8 : x2 ≤ 2147483647) : -2147483648 ≤ x0 + 1 := by omega
theorem o25_12 {x0 x2 : Int} {x1 : Nat} (h0 : 0 ≤ x0) (h1 : x0 ≤ 900) (h2 : 900 - x0 < ((x1 + 1 : Nat) : Int)) (h3 : x2 = 900) (h4 : x0 < x2) (h5 : -2147483648 ≤ x0) (h6 : x0 ≤ 2147483647) (h7 : -2147483648 ≤ x2) (h8 : x2 ≤ 2147483647) : x0 + 1 ≤ 2147483647 := by omega
theorem o25_13 {x0 x2 x3 : Int} {x1 : Nat} (h0 : 0 ≤ x2) (h1 : x2 ≤ 900) (h2 : 900 - x2 < ((x1 + 1 : Nat) : Int)) (h3 : x3 = 900) (h4 : x2 < x3) (h5 : x0 = x2 + 1) : 900 - x0 < (x1 : Int) := by omega
theorem o25_14 {x0 x1 x3 : Int} {x2 : Nat} (h0 : 0 ≤ x1) (h1 : x1 ≤ 900) (h2 : 900 - x1 < ((x2 + 1 : Nat) : Int)) (h3 : x3 = 900) (h4 : x1 < x3) (h5 : x0 = x1 + 1) : 0 ≤ x0 := by omega
theorem o25_15 {x0 x1 x3 : Int} {x2 : Nat} (h0 : 0 ≤ x1) (h1 : x1 ≤ 900) (h2 : 900 - x1 < ((x2 + 1 : Nat) : Int)) (h3 : x3 = 900) (h4 : x1 < x3) (h5 : x0 = x1 + 1) : x0 ≤ 900 := by omega
theorem o25_16 {x0 : Int} (h0 : x0 = 0) : 900 - x0 < (((900 - x0 + 1).toNat : Nat) : Int) := by omega
set_option maxHeartbeats 4000000 in
set_option maxRecDepth 100000 in
theorem c_X5_line (l : Launch) (G : GG) (Z : RZ) (ad : Nat → Nat) (ws0 : va_W) (hT : Ty G (SC tt) ad ws0) (hR : Rel ws0) : Mq l yX5_line cX5_line 1 none 30 G Z [.ref (ad 77)] ws0 (PV G (SC tt) ad [1, 2, 3, 6, 7, 8, 9, 10, 14, 15, 16] ws0 (fun u => (Rel u))) := by
  refine Mq.start (by decide) (Nat.le_of_ble_eq_true rfl) ?_
  intro p e s m below meth c A ls C0 hZ h hl
  have hl : lv_has ls 1 [(0, .ref (ad 77))] := hl
  have h : Wt G (SC tt) ad A s s.heap [] ws0 := ⟨h, hT⟩
  obtain ⟨args, hargs⟩ : ∃ z, z = ([.ref (ad 77)] : List Value).toArray := ⟨_, rfl⟩
  rw [← hargs] at C0 ⊢
  have C0 : Cx p s m args meth c RX5 cX5_line 1 none := C0
  obtain ⟨Q, hQ⟩ : ∃ z, z = MQ below ((PV G (SC tt) ad [1, 2, 3, 6, 7, 8, 9, 10, 14, 15, 16] ws0 (fun u => (Rel u))) A) args s 0 0 A := ⟨_, rfl⟩
  rw [← hQ]
  refine lv_aload_n C0.1 C0.2.1 dX5_line_0 rfl (lv_at hl 0 rfl) ?_
  refine va_ldcS C0.1 C0.2.1 C0.2.2.2.1 (sr_1 hZ) dX5_line_1 ?_
  refine y_ci h (y_rV (As := [.ref (Z.2.1 1)]) (rest := []) C0 hZ h (c_X5_isWord l G Z ad _ h.2 1 (by decide)) k_X5_isWord q_724 q_5 q_722 kSC_77 rfl rfl rfl hl.1 rfl rfl (Nat.le_of_ble_eq_true rfl) dX5_line_3 ⟨Nat.le_of_ble_eq_true rfl, Nat.le_of_ble_eq_true rfl⟩ ⟨Nat.le_of_ble_eq_true rfl, Nat.le_of_ble_eq_true rfl⟩) (fun r_4 H locs ws_1 h u_2 p_3 => ?_)
  obtain ⟨e_5, e_6⟩ := p_3
  refine y_if_eq (tgt := 16) C0 dX5_line_6 (by decide) (fun c_7 => ?_) (fun c_7 => ?_)
  · -- 6
    refine lv_aload_n C0.1 C0.2.1 dX5_line_16 rfl (lv_at hl 0 rfl) ?_
    refine va_ldcS C0.1 C0.2.1 C0.2.2.2.1 (sr_2 hZ) dX5_line_17 ?_
    refine y_ci h (y_rV (As := [.ref (Z.2.1 2)]) (rest := []) C0 hZ h (c_X5_isWord l G Z ad _ h.2 2 (by decide)) k_X5_isWord q_724 q_5 q_722 kSC_77 rfl rfl rfl hl.1 rfl rfl (Nat.le_of_ble_eq_true rfl) dX5_line_19 ⟨Nat.le_of_ble_eq_true rfl, Nat.le_of_ble_eq_true rfl⟩ ⟨Nat.le_of_ble_eq_true rfl, Nat.le_of_ble_eq_true rfl⟩) (fun r_11 H locs ws_8 h u_9 p_10 => ?_)
    obtain ⟨e_12, e_13⟩ := p_10
    refine y_if_eq (tgt := 32) C0 dX5_line_22 (by decide) (fun c_14 => ?_) (fun c_14 => ?_)
    · -- 22
      refine lv_aload_n C0.1 C0.2.1 dX5_line_32 rfl (lv_at hl 0 rfl) ?_
      refine va_ldcS C0.1 C0.2.1 C0.2.2.2.1 (sr_3 hZ) dX5_line_33 ?_
      refine y_ci h (y_rV (As := [.ref (Z.2.1 3)]) (rest := []) C0 hZ h (c_X5_isWord l G Z ad _ h.2 3 (by decide)) k_X5_isWord q_724 q_5 q_722 kSC_77 rfl rfl rfl hl.1 rfl rfl (Nat.le_of_ble_eq_true rfl) dX5_line_35 ⟨Nat.le_of_ble_eq_true rfl, Nat.le_of_ble_eq_true rfl⟩ ⟨Nat.le_of_ble_eq_true rfl, Nat.le_of_ble_eq_true rfl⟩) (fun r_18 H locs ws_15 h u_16 p_17 => ?_)
      obtain ⟨e_19, e_20⟩ := p_17
      refine y_if_eq (tgt := 48) C0 dX5_line_38 (by decide) (fun c_21 => ?_) (fun c_21 => ?_)
      · -- 38
        refine lv_aload_n C0.1 C0.2.1 dX5_line_48 rfl (lv_at hl 0 rfl) ?_
        refine va_ldcS C0.1 C0.2.1 C0.2.2.2.1 (sr_4 hZ) dX5_line_49 ?_
        refine y_ci h (y_rV (As := [.ref (Z.2.1 4)]) (rest := []) C0 hZ h (c_X5_isWord l G Z ad _ h.2 4 (by decide)) k_X5_isWord q_724 q_5 q_722 kSC_77 rfl rfl rfl hl.1 rfl rfl (Nat.le_of_ble_eq_true rfl) dX5_line_51 ⟨Nat.le_of_ble_eq_true rfl, Nat.le_of_ble_eq_true rfl⟩ ⟨Nat.le_of_ble_eq_true rfl, Nat.le_of_ble_eq_true rfl⟩) (fun r_25 H locs ws_22 h u_23 p_24 => ?_)
        obtain ⟨e_26, e_27⟩ := p_24
        refine y_if_eq (tgt := 64) C0 dX5_line_54 (by decide) (fun c_28 => ?_) (fun c_28 => ?_)
        · -- 54
          refine lv_aload_n C0.1 C0.2.1 dX5_line_64 rfl (lv_at hl 0 rfl) ?_
          refine va_ldcS C0.1 C0.2.1 C0.2.2.2.1 (sr_11 hZ) dX5_line_65 ?_
          refine y_ci h (y_rV (As := [.ref (Z.2.1 11)]) (rest := []) C0 hZ h (c_X5_isWord l G Z ad _ h.2 11 (by decide)) k_X5_isWord q_724 q_5 q_722 kSC_77 rfl rfl rfl hl.1 rfl rfl (Nat.le_of_ble_eq_true rfl) dX5_line_67 ⟨Nat.le_of_ble_eq_true rfl, Nat.le_of_ble_eq_true rfl⟩ ⟨Nat.le_of_ble_eq_true rfl, Nat.le_of_ble_eq_true rfl⟩) (fun r_32 H locs ws_29 h u_30 p_31 => ?_)
          obtain ⟨e_33, e_34⟩ := p_31
          refine y_if_eq (tgt := 92) C0 dX5_line_70 (by decide) (fun c_35 => ?_) (fun c_35 => ?_)
          · -- 70
            refine lv_aload_n C0.1 C0.2.1 dX5_line_92 rfl (lv_at hl 0 rfl) ?_
            refine va_ldcS C0.1 C0.2.1 C0.2.2.2.1 (sr_18 hZ) dX5_line_93 ?_
            refine y_ci h (y_rV (As := [.ref (Z.2.1 18)]) (rest := []) C0 hZ h (c_X5_isWord l G Z ad _ h.2 18 (by decide)) k_X5_isWord q_724 q_5 q_722 kSC_77 rfl rfl rfl hl.1 rfl rfl (Nat.le_of_ble_eq_true rfl) dX5_line_95 ⟨Nat.le_of_ble_eq_true rfl, Nat.le_of_ble_eq_true rfl⟩ ⟨Nat.le_of_ble_eq_true rfl, Nat.le_of_ble_eq_true rfl⟩) (fun r_39 H locs ws_36 h u_37 p_38 => ?_)
            obtain ⟨e_40, e_41⟩ := p_38
            refine y_if_eq (tgt := 120) C0 dX5_line_98 (by decide) (fun c_42 => ?_) (fun c_42 => ?_)
            · -- 98
              refine lv_aload_n C0.1 C0.2.1 dX5_line_120 rfl (lv_at hl 0 rfl) ?_
              refine va_ldcS C0.1 C0.2.1 C0.2.2.2.1 (sr_14 hZ) dX5_line_121 ?_
              refine y_ci h (y_rV (As := [.ref (Z.2.1 14)]) (rest := []) C0 hZ h (c_X5_isWord l G Z ad _ h.2 14 (by decide)) k_X5_isWord q_724 q_5 q_722 kSC_77 rfl rfl rfl hl.1 rfl rfl (Nat.le_of_ble_eq_true rfl) dX5_line_123 ⟨Nat.le_of_ble_eq_true rfl, Nat.le_of_ble_eq_true rfl⟩ ⟨Nat.le_of_ble_eq_true rfl, Nat.le_of_ble_eq_true rfl⟩) (fun r_46 H locs ws_43 h u_44 p_45 => ?_)
              obtain ⟨e_47, e_48⟩ := p_45
              refine y_if_eq (tgt := 154) C0 dX5_line_126 (by decide) (fun c_49 => ?_) (fun c_49 => ?_)
              · -- 126
                refine lv_aload_n C0.1 C0.2.1 dX5_line_154 rfl (lv_at hl 0 rfl) ?_
                refine y_c1 (n := 2) C0 (by decide) dX5_line_155 (fun v_50 e_51 => ?_)
                refine y_cv h (y_rV (As := [.int v_50]) (rest := []) C0 hZ h (c_X5_fail l G Z ad _ h.2 v_50) k_X5_fail q_628 q_3 q_626 kSC_77 rfl rfl rfl hl.1 rfl rfl (Nat.le_of_ble_eq_true rfl) dX5_line_156 ⟨Nat.le_of_ble_eq_true rfl, Nat.le_of_ble_eq_true rfl⟩ ⟨Nat.le_of_ble_eq_true rfl, Nat.le_of_ble_eq_true rfl⟩) (fun H locs ws_52 h u_53 p_54 => ?_)
                rw [hQ]
                exact y_vret C0 h (Fr.tr (Fr.tr (Fr.tr (Fr.tr (Fr.tr (Fr.tr (Fr.tr (Fr.mono u_2 (by decide)) (Fr.mono u_9 (by decide))) (Fr.mono u_16 (by decide))) (Fr.mono u_23 (by decide))) (Fr.mono u_30 (by decide))) (Fr.mono u_37 (by decide))) (Fr.mono u_44 (by decide))) (Fr.mono u_53 (by decide))) (Rel.fr (M := [16]) hR (Fr.tr (Fr.tr (Fr.tr (Fr.tr (Fr.tr (Fr.tr (Fr.tr (Fr.mono u_2 (by decide)) (Fr.mono u_9 (by decide))) (Fr.mono u_16 (by decide))) (Fr.mono u_23 (by decide))) (Fr.mono u_30 (by decide))) (Fr.mono u_37 (by decide))) (Fr.mono u_44 (by decide))) u_53) (by decide) (by decide)) dX5_line_159
              · -- 126
                refine lv_aload_n C0.1 C0.2.1 dX5_line_129 rfl (lv_at hl 0 rfl) ?_
                refine y_cv h (y_rV (As := []) (rest := []) C0 hZ h (c_X5_advance l G Z ad _ h.2) k_X5_advance q_616 q_0 q_614 kSC_77 rfl rfl rfl hl.1 rfl rfl (Nat.le_of_ble_eq_true rfl) dX5_line_130 ⟨Nat.le_of_ble_eq_true rfl, Nat.le_of_ble_eq_true rfl⟩ ⟨Nat.le_of_ble_eq_true rfl, Nat.le_of_ble_eq_true rfl⟩) (fun H locs ws_55 h u_56 p_57 => ?_)
                refine lv_aload_n C0.1 C0.2.1 dX5_line_133 rfl (lv_at hl 0 rfl) ?_
                refine tg_X5_city C0 h kSC_77 q_370 dX5_line_134 ?_
                refine tg_X0_folk C0 h kSC_20 q_251 dX5_line_137 ?_
                refine lv_aload_n C0.1 C0.2.1 dX5_line_140 rfl (lv_at hl 0 rfl) ?_
                refine y_c1 (n := 0) C0 (by decide) dX5_line_141 (fun v_58 e_59 => ?_)
                refine y_c3 (n := 999) C0 (by decide) dX5_line_142 (fun v_60 e_61 => ?_)
                refine y_ci h (y_rV (As := [.int v_58, .int v_60]) (rest := [.ref (ad 29)]) C0 hZ h (c_X5_boundede l G Z ad _ h.2 v_58 v_60 (o25_1 e_59) (o25_2 e_59) (o25_3 e_61) (o25_4 e_61)) k_X5_bounded q_753 q_7 q_751 kSC_77 rfl rfl rfl hl.1 rfl rfl (Nat.le_of_ble_eq_true rfl) dX5_line_145 ⟨Nat.le_of_ble_eq_true rfl, Nat.le_of_ble_eq_true rfl⟩ ⟨Nat.le_of_ble_eq_true rfl, Nat.le_of_ble_eq_true rfl⟩) (fun r_65 H locs ws_62 h u_63 p_64 => ?_)
                obtain ⟨e_66, e_67⟩ := p_64
                refine tp_X1_hours C0 h kSC_29 q_222 (le_min r_65) (le_max r_65) dX5_line_148 (fun H locs ws_68 h u_69 => ?_)
                refine lv_goto (tgt := 159) C0.1 C0.2.1 dX5_line_151 (by decide) ?_
                rw [hQ]
                exact y_vret C0 h (Fr.tr (Fr.tr (Fr.tr (Fr.tr (Fr.tr (Fr.tr (Fr.tr (Fr.tr (Fr.tr (Fr.mono u_2 (by decide)) (Fr.mono u_9 (by decide))) (Fr.mono u_16 (by decide))) (Fr.mono u_23 (by decide))) (Fr.mono u_30 (by decide))) (Fr.mono u_37 (by decide))) (Fr.mono u_44 (by decide))) (Fr.mono u_56 (by decide))) (Fr.mono u_63 (by decide))) (Fr.up u_69.1 kSC_29 (by decide))) (Rel.fr (M := [6, 16]) hR (Fr.tr (Fr.tr (Fr.tr (Fr.tr (Fr.tr (Fr.tr (Fr.tr (Fr.tr (Fr.tr (Fr.mono u_2 (by decide)) (Fr.mono u_9 (by decide))) (Fr.mono u_16 (by decide))) (Fr.mono u_23 (by decide))) (Fr.mono u_30 (by decide))) (Fr.mono u_37 (by decide))) (Fr.mono u_44 (by decide))) (Fr.mono u_56 (by decide))) (Fr.mono u_63 (by decide))) (Fr.up u_69.1 kSC_29 (by decide))) (by decide) (by decide)) dX5_line_159
            · -- 98
              refine lv_aload_n C0.1 C0.2.1 dX5_line_101 rfl (lv_at hl 0 rfl) ?_
              refine lv_aload_n C0.1 C0.2.1 dX5_line_102 rfl (lv_at hl 0 rfl) ?_
              refine tg_X5_city C0 h kSC_77 q_370 dX5_line_103 ?_
              refine tg_X0_mayLaw C0 h kSC_20 q_246 dX5_line_106 ?_
              refine y_cv h (y_rV (As := [.ref (ad 25)]) (rest := []) C0 hZ h (c_X5_beginLaw l G Z ad _ h.2 25 kSC_25) k_X5_beginLaw q_807 q_13 q_805 kSC_77 rfl rfl rfl hl.1 rfl rfl (Nat.le_of_ble_eq_true rfl) dX5_line_109 ⟨Nat.le_of_ble_eq_true rfl, Nat.le_of_ble_eq_true rfl⟩ ⟨Nat.le_of_ble_eq_true rfl, Nat.le_of_ble_eq_true rfl⟩) (fun H locs ws_70 h u_71 p_72 => ?_)
              refine lv_aload_n C0.1 C0.2.1 dX5_line_112 rfl (lv_at hl 0 rfl) ?_
              refine y_c1 (n := 0) C0 (by decide) dX5_line_113 (fun v_73 e_74 => ?_)
              refine y_cv h (y_rV (As := [.int v_73]) (rest := []) C0 hZ h (c_X5_truth_0 l G Z ad _ h.2 v_73 (o25_1 e_74) (o25_2 e_74)) k_X5_truth q_843 q_19 q_841 kSC_77 rfl rfl rfl hl.1 rfl rfl (Nat.le_of_ble_eq_true rfl) dX5_line_114 ⟨Nat.le_of_ble_eq_true rfl, Nat.le_of_ble_eq_true rfl⟩ ⟨Nat.le_of_ble_eq_true rfl, Nat.le_of_ble_eq_true rfl⟩) (fun H locs ws_75 h u_76 p_77 => ?_)
              refine lv_goto (tgt := 159) C0.1 C0.2.1 dX5_line_117 (by decide) ?_
              rw [hQ]
              exact y_vret C0 h (Fr.tr (Fr.tr (Fr.tr (Fr.tr (Fr.tr (Fr.tr (Fr.tr (Fr.mono u_2 (by decide)) (Fr.mono u_9 (by decide))) (Fr.mono u_16 (by decide))) (Fr.mono u_23 (by decide))) (Fr.mono u_30 (by decide))) (Fr.mono u_37 (by decide))) (Fr.mono u_71 (by decide))) (Fr.mono u_76 (by decide))) (Rel.fr (M := [2, 3, 16]) hR (Fr.tr (Fr.tr (Fr.tr (Fr.tr (Fr.tr (Fr.tr (Fr.tr (Fr.mono u_2 (by decide)) (Fr.mono u_9 (by decide))) (Fr.mono u_16 (by decide))) (Fr.mono u_23 (by decide))) (Fr.mono u_30 (by decide))) (Fr.mono u_37 (by decide))) (Fr.mono u_71 (by decide))) u_76) (by decide) (by decide)) dX5_line_159
          · -- 70
            refine lv_aload_n C0.1 C0.2.1 dX5_line_73 rfl (lv_at hl 0 rfl) ?_
            refine lv_aload_n C0.1 C0.2.1 dX5_line_74 rfl (lv_at hl 0 rfl) ?_
            refine tg_X5_city C0 h kSC_77 q_370 dX5_line_75 ?_
            refine tg_X0_priceLaw C0 h kSC_20 q_243 dX5_line_78 ?_
            refine y_cv h (y_rV (As := [.ref (ad 21)]) (rest := []) C0 hZ h (c_X5_beginLaw l G Z ad _ h.2 21 kSC_21) k_X5_beginLaw q_807 q_13 q_805 kSC_77 rfl rfl rfl hl.1 rfl rfl (Nat.le_of_ble_eq_true rfl) dX5_line_81 ⟨Nat.le_of_ble_eq_true rfl, Nat.le_of_ble_eq_true rfl⟩ ⟨Nat.le_of_ble_eq_true rfl, Nat.le_of_ble_eq_true rfl⟩) (fun H locs ws_78 h u_79 p_80 => ?_)
            refine lv_aload_n C0.1 C0.2.1 dX5_line_84 rfl (lv_at hl 0 rfl) ?_
            refine y_c1 (n := 0) C0 (by decide) dX5_line_85 (fun v_81 e_82 => ?_)
            refine y_cv h (y_rV (As := [.int v_81]) (rest := []) C0 hZ h (c_X5_sum_0 l G Z ad _ h.2 v_81 (o25_1 e_82) (o25_2 e_82)) k_X5_sum q_816 q_15 q_814 kSC_77 rfl rfl rfl hl.1 rfl rfl (Nat.le_of_ble_eq_true rfl) dX5_line_86 ⟨Nat.le_of_ble_eq_true rfl, Nat.le_of_ble_eq_true rfl⟩ ⟨Nat.le_of_ble_eq_true rfl, Nat.le_of_ble_eq_true rfl⟩) (fun H locs ws_83 h u_84 p_85 => ?_)
            refine lv_goto (tgt := 159) C0.1 C0.2.1 dX5_line_89 (by decide) ?_
            rw [hQ]
            exact y_vret C0 h (Fr.tr (Fr.tr (Fr.tr (Fr.tr (Fr.tr (Fr.tr (Fr.mono u_2 (by decide)) (Fr.mono u_9 (by decide))) (Fr.mono u_16 (by decide))) (Fr.mono u_23 (by decide))) (Fr.mono u_30 (by decide))) (Fr.mono u_79 (by decide))) (Fr.mono u_84 (by decide))) (Rel.fr (M := [2, 3, 16]) hR (Fr.tr (Fr.tr (Fr.tr (Fr.tr (Fr.tr (Fr.tr (Fr.mono u_2 (by decide)) (Fr.mono u_9 (by decide))) (Fr.mono u_16 (by decide))) (Fr.mono u_23 (by decide))) (Fr.mono u_30 (by decide))) (Fr.mono u_79 (by decide))) u_84) (by decide) (by decide)) dX5_line_159
        · -- 54
          refine lv_aload_n C0.1 C0.2.1 dX5_line_57 rfl (lv_at hl 0 rfl) ?_
          refine y_cv h (y_rV (As := []) (rest := []) C0 hZ h (c_X5_personLine l G Z ad _ h.2) k_X5_personLine q_788 q_11 q_786 kSC_77 rfl rfl rfl hl.1 rfl rfl (Nat.le_of_ble_eq_true rfl) dX5_line_58 ⟨Nat.le_of_ble_eq_true rfl, Nat.le_of_ble_eq_true rfl⟩ ⟨Nat.le_of_ble_eq_true rfl, Nat.le_of_ble_eq_true rfl⟩) (fun H locs ws_86 h u_87 p_88 => ?_)
          refine lv_goto (tgt := 159) C0.1 C0.2.1 dX5_line_61 (by decide) ?_
          rw [hQ]
          exact y_vret C0 h (Fr.tr (Fr.tr (Fr.tr (Fr.tr (Fr.mono u_2 (by decide)) (Fr.mono u_9 (by decide))) (Fr.mono u_16 (by decide))) (Fr.mono u_23 (by decide))) (Fr.mono u_87 (by decide))) (Rel.fr (M := [6, 7, 8, 9, 10, 16]) hR (Fr.tr (Fr.tr (Fr.tr (Fr.tr (Fr.mono u_2 (by decide)) (Fr.mono u_9 (by decide))) (Fr.mono u_16 (by decide))) (Fr.mono u_23 (by decide))) u_87) (by decide) (by decide)) dX5_line_159
      · -- 38
        refine lv_aload_n C0.1 C0.2.1 dX5_line_41 rfl (lv_at hl 0 rfl) ?_
        refine y_cv h (y_rV (As := []) (rest := []) C0 hZ h (c_X5_freeLine l G Z ad _ h.2) k_X5_freeLine q_779 q_10 q_777 kSC_77 rfl rfl rfl hl.1 rfl rfl (Nat.le_of_ble_eq_true rfl) dX5_line_42 ⟨Nat.le_of_ble_eq_true rfl, Nat.le_of_ble_eq_true rfl⟩ ⟨Nat.le_of_ble_eq_true rfl, Nat.le_of_ble_eq_true rfl⟩) (fun H locs ws_89 h u_90 p_91 => ?_)
        refine lv_goto (tgt := 159) C0.1 C0.2.1 dX5_line_45 (by decide) ?_
        rw [hQ]
        exact y_vret C0 h (Fr.tr (Fr.tr (Fr.tr (Fr.mono u_2 (by decide)) (Fr.mono u_9 (by decide))) (Fr.mono u_16 (by decide))) (Fr.mono u_90 (by decide))) (Rel.fr (M := [1, 16]) hR (Fr.tr (Fr.tr (Fr.tr (Fr.mono u_2 (by decide)) (Fr.mono u_9 (by decide))) (Fr.mono u_16 (by decide))) u_90) (by decide) (by decide)) dX5_line_159
    · -- 22
      refine lv_aload_n C0.1 C0.2.1 dX5_line_25 rfl (lv_at hl 0 rfl) ?_
      refine y_cv h (y_rV (As := []) (rest := []) C0 hZ h (c_X5_wallLine l G Z ad _ h.2 (Rel.fr (M := []) hR (Fr.tr u_2 u_9) (by decide) (by decide))) k_X5_wallLine q_762 q_8 q_760 kSC_77 rfl rfl rfl hl.1 rfl rfl (Nat.le_of_ble_eq_true rfl) dX5_line_26 ⟨Nat.le_of_ble_eq_true rfl, Nat.le_of_ble_eq_true rfl⟩ ⟨Nat.le_of_ble_eq_true rfl, Nat.le_of_ble_eq_true rfl⟩) (fun H locs ws_92 h u_93 p_94 => ?_)
      have e_95 := p_94
      refine lv_goto (tgt := 159) C0.1 C0.2.1 dX5_line_29 (by decide) ?_
      rw [hQ]
      exact y_vret C0 h (Fr.tr (Fr.tr (Fr.mono u_2 (by decide)) (Fr.mono u_9 (by decide))) (Fr.mono u_93 (by decide))) e_95 dX5_line_159
  · -- 6
    refine lv_aload_n C0.1 C0.2.1 dX5_line_9 rfl (lv_at hl 0 rfl) ?_
    refine y_cv h (y_rV (As := []) (rest := []) C0 hZ h (c_X5_cityLine l G Z ad _ h.2 (Rel.fr (M := []) hR u_2 (by decide) (by decide))) k_X5_cityLine q_749 q_6 q_747 kSC_77 rfl rfl rfl hl.1 rfl rfl (Nat.le_of_ble_eq_true rfl) dX5_line_10 ⟨Nat.le_of_ble_eq_true rfl, Nat.le_of_ble_eq_true rfl⟩ ⟨Nat.le_of_ble_eq_true rfl, Nat.le_of_ble_eq_true rfl⟩) (fun H locs ws_96 h u_97 p_98 => ?_)
    have e_99 := p_98
    refine lv_goto (tgt := 159) C0.1 C0.2.1 dX5_line_13 (by decide) ?_
    rw [hQ]
    exact y_vret C0 h (Fr.tr (Fr.mono u_2 (by decide)) (Fr.mono u_97 (by decide))) e_99 dX5_line_159
set_option maxHeartbeats 4000000 in
set_option maxRecDepth 100000 in
theorem c_X5_read (l : Launch) (G : GG) (Z : RZ) (ad : Nat → Nat) (ws0 : va_W) (hT : Ty G (SC q0) ad ws0) (a1 : Int32) (l1 : 0 ≤ a1.toInt) (u1 : a1.toInt ≤ 900) (hR : Rel ws0) : Mq l yX5_read cX5_read 3 (some .int) 31 G Z [.ref (ad 77), .int a1] ws0 (PI G (SC q00) ad [1, 2, 3, 6, 7, 8, 9, 10, 11, 12, 13, 14, 15, 16] ws0 (fun r u => (Rel u))) := by
  refine Mq.start (by decide) (Nat.le_of_ble_eq_true rfl) ?_
  intro p e s m below meth c A ls C0 hZ h hl
  have hl : lv_has ls 3 [(0, .ref (ad 77)), (1, .int a1)] := hl
  have h : Wt G (SC q0) ad A s s.heap [] ws0 := ⟨h, hT⟩
  obtain ⟨args, hargs⟩ : ∃ z, z = ([.ref (ad 77), .int a1] : List Value).toArray := ⟨_, rfl⟩
  rw [← hargs] at C0 ⊢
  have C0 : Cx p s m args meth c RX5 cX5_read 3 (some .int) := C0
  obtain ⟨Q, hQ⟩ : ∃ z, z = MQ below ((PI G (SC q00) ad [1, 2, 3, 6, 7, 8, 9, 10, 11, 12, 13, 14, 15, 16] ws0 (fun r u => (Rel u))) A) args s 0 0 A := ⟨_, rfl⟩
  rw [← hQ]
  refine lv_aload_n C0.1 C0.2.1 dX5_read_0 rfl (lv_at hl 0 rfl) ?_
  refine tg_X5_city C0 h kSC_77 q_370 dX5_read_1 ?_
  refine y_cv h (y_rV (As := []) (rest := []) C0 hZ h (c_X0_clear l G Z ad _ h.2 20 kSC_20 hR) k_X0_clear q_599 q_600 q_598 kSC_20 rfl rfl rfl hl.1 rfl rfl (Nat.le_of_ble_eq_true rfl) dX5_read_4 ⟨Nat.le_of_ble_eq_true rfl, Nat.le_of_ble_eq_true rfl⟩ ⟨Nat.le_of_ble_eq_true rfl, Nat.le_of_ble_eq_true rfl⟩) (fun H locs ws_1 h u_2 p_3 => ?_)
  have e_4 := p_3
  refine lv_aload_n C0.1 C0.2.1 dX5_read_7 rfl (lv_at hl 0 rfl) ?_
  refine y_c1 (n := 0) C0 (by decide) dX5_read_8 (fun v_5 e_6 => ?_)
  refine tp_X5_fed C0 h kSC_77 q_372 (o25_1 e_6) (o25_5 e_6) dX5_read_9 (fun H locs ws_7 h u_8 => ?_)
  have h : Wt G (SC q00) ad A s H locs ws_7 := ⟨h.1, SC_at (by rw [u_8.2.1, e_6]; exact ⟨rfl, rfl⟩) h.2⟩
  refine lv_aload_n C0.1 C0.2.1 dX5_read_12 rfl (lv_at hl 0 rfl) ?_
  refine lv_iload_n C0.1 C0.2.1 dX5_read_13 rfl (lv_at hl 1 rfl) ?_
  refine tp_X5_length C0 h kSC_77 q_373 (o25_6 l1 u1) (o25_7 l1 u1) dX5_read_14 (fun H locs ws_9 h u_10 => ?_)
  refine lv_aload_n C0.1 C0.2.1 dX5_read_17 rfl (lv_at hl 0 rfl) ?_
  refine y_c1 (n := 0) C0 (by decide) dX5_read_18 (fun v_11 e_12 => ?_)
  refine tp_X5_end C0 h kSC_77 q_376 (o25_1 e_12) (o25_5 e_12) dX5_read_19 (fun H locs ws_13 h u_14 => ?_)
  refine lv_aload_n C0.1 C0.2.1 dX5_read_22 rfl (lv_at hl 0 rfl) ?_
  refine y_c1 (n := 0) C0 (by decide) dX5_read_23 (fun v_15 e_16 => ?_)
  refine tp_X5_fault C0 h kSC_77 q_378 (le_min v_15) (le_max v_15) dX5_read_24 (fun H locs ws_17 h u_18 => ?_)
  refine lv_aload_n C0.1 C0.2.1 dX5_read_27 rfl (lv_at hl 0 rfl) ?_
  refine y_c1 (n := (-1)) C0 (by decide) dX5_read_28 (fun v_19 e_20 => ?_)
  refine tp_X5_place C0 h kSC_77 q_379 (le_min v_19) (le_max v_19) dX5_read_29 (fun H locs ws_21 h u_22 => ?_)
  refine lv_aload_n C0.1 C0.2.1 dX5_read_32 rfl (lv_at hl 0 rfl) ?_
  refine y_cv h (y_rV (As := []) (rest := []) C0 hZ h (c_X5_advance l G Z ad _ h.2) k_X5_advance q_616 q_0 q_614 kSC_77 rfl rfl rfl hl.1 rfl rfl (Nat.le_of_ble_eq_true rfl) dX5_read_33 ⟨Nat.le_of_ble_eq_true rfl, Nat.le_of_ble_eq_true rfl⟩ ⟨Nat.le_of_ble_eq_true rfl, Nat.le_of_ble_eq_true rfl⟩) (fun H locs ws_23 h u_24 p_25 => ?_)
  refine y_c1 (n := 0) C0 (by decide) dX5_read_36 (fun v_26 e_27 => ?_)
  refine lv_istore_n (lv' := [(2, .int v_26), (0, .ref (ad 77)), (1, .int a1)]) C0.1 C0.2.1 dX5_read_37 rfl hl (by decide) rfl (fun ls hl => ?_)
  have lp_31 : ∀ (n_33 : Nat) (x2_28 : Int32) (H : Heap) (locs : List Loc) (ls : Array Slot) (ws_29 : va_W), 900 - x2_28.toInt < (n_33 : Int) → 0 ≤ x2_28.toInt → x2_28.toInt ≤ 900 → Rel ws_29 → Wt G (SC q00) ad A s H locs ws_29 → Fr (SC q00) [1, 2, 3, 6, 7, 8, 9, 10, 14, 15, 16] ws_23 ws_29 → lv_has ls 3 [(2, .int x2_28), (0, .ref (ad 77)), (1, .int a1)] → W p l e (rmd 31 0 0) s m args below meth c H locs 0 0 Q (F0 m 38 ls []) := by
    intro n_33
    induction n_33 with
    | zero => intro x2_28 H locs ls ws_29 hn_34 b_35 b_36 hRl h hF_30 hl; exact ((o25_8 b_35 b_36 hn_34)).elim
    | succ n_33 ih_32 =>
      intro x2_28 H locs ls ws_29 hn_34 b_35 b_36 hRl h hF_30 hl
      refine lv_iload_n C0.1 C0.2.1 dX5_read_38 rfl (lv_at hl 0 rfl) ?_
      refine y_c3 (n := 900) C0 (by decide) dX5_read_39 (fun v_37 e_38 => ?_)
      refine y_icmp_ge (tgt := 81) C0 dX5_read_42 (by decide) (fun c_39 => ?_) (fun c_39 => ?_)
      · -- 42
        refine lv_aload_n C0.1 C0.2.1 dX5_read_81 rfl (lv_at hl 1 rfl) ?_
        refine tg_X5_fault C0 h kSC_77 q_378 dX5_read_82 (fun v_40 e_41 e_42 e_43 => ?_)
        rw [hQ]
        exact y_iret C0 h (Fr.tr (Fr.tr (Fr.tr (Fr.tr (Fr.tr (Fr.tr (Fr.tr (Fr.mono u_2 (by decide)) (Fr.up u_8.1 kSC_77 (by decide))) (Fr.up u_10.1 kSC_77 (by decide))) (Fr.up u_14.1 kSC_77 (by decide))) (Fr.up u_18.1 kSC_77 (by decide))) (Fr.up u_22.1 kSC_77 (by decide))) (Fr.mono u_24 (by decide))) (Fr.mono hF_30 (by decide))) hRl dX5_read_85
      · -- 42
        refine lv_aload_n C0.1 C0.2.1 dX5_read_45 rfl (lv_at hl 1 rfl) ?_
        refine tg_X5_kind C0 h kSC_77 q_374 dX5_read_46 (fun v_44 e_45 e_46 e_47 => ?_)
        refine y_if_eq (tgt := 81) C0 dX5_read_49 (by decide) (fun c_48 => ?_) (fun c_48 => ?_)
        · -- 49
          refine lv_aload_n C0.1 C0.2.1 dX5_read_81 rfl (lv_at hl 1 rfl) ?_
          refine tg_X5_fault C0 h kSC_77 q_378 dX5_read_82 (fun v_49 e_50 e_51 e_52 => ?_)
          rw [hQ]
          exact y_iret C0 h (Fr.tr (Fr.tr (Fr.tr (Fr.tr (Fr.tr (Fr.tr (Fr.tr (Fr.mono u_2 (by decide)) (Fr.up u_8.1 kSC_77 (by decide))) (Fr.up u_10.1 kSC_77 (by decide))) (Fr.up u_14.1 kSC_77 (by decide))) (Fr.up u_18.1 kSC_77 (by decide))) (Fr.up u_22.1 kSC_77 (by decide))) (Fr.mono u_24 (by decide))) (Fr.mono hF_30 (by decide))) hRl dX5_read_85
        · -- 49
          refine lv_aload_n C0.1 C0.2.1 dX5_read_52 rfl (lv_at hl 1 rfl) ?_
          refine y_cv h (y_rV (As := []) (rest := []) C0 hZ h (c_X5_line l G Z ad _ h.2 hRl) k_X5_line q_719 q_4 q_717 kSC_77 rfl rfl rfl hl.1 rfl rfl (Nat.le_of_ble_eq_true rfl) dX5_read_53 ⟨Nat.le_of_ble_eq_true rfl, Nat.le_of_ble_eq_true rfl⟩ ⟨Nat.le_of_ble_eq_true rfl, Nat.le_of_ble_eq_true rfl⟩) (fun H locs ws_53 h u_54 p_55 => ?_)
          have e_56 := p_55
          refine lv_aload_n C0.1 C0.2.1 dX5_read_56 rfl (lv_at hl 1 rfl) ?_
          refine y_c2 (n := 59) C0 (by decide) dX5_read_57 (fun v_57 e_58 => ?_)
          refine y_cv h (y_rV (As := [.int v_57]) (rest := []) C0 hZ h (c_X5_sign l G Z ad _ h.2 v_57 (o25_9 e_58) (o25_10 e_58)) k_X5_sign q_812 q_14 q_810 kSC_77 rfl rfl rfl hl.1 rfl rfl (Nat.le_of_ble_eq_true rfl) dX5_read_59 ⟨Nat.le_of_ble_eq_true rfl, Nat.le_of_ble_eq_true rfl⟩ ⟨Nat.le_of_ble_eq_true rfl, Nat.le_of_ble_eq_true rfl⟩) (fun H locs ws_59 h u_60 p_61 => ?_)
          refine lv_aload_n C0.1 C0.2.1 dX5_read_62 rfl (lv_at hl 1 rfl) ?_
          refine tg_X5_city C0 h kSC_77 q_370 dX5_read_63 ?_
          refine lv_dup C0.1 C0.2.1 dX5_read_66 rfl ?_
          refine tg_X0_lines C0 h kSC_20 q_265 dX5_read_67 (fun v_62 e_63 e_64 e_65 => ?_)
          refine y_c1 (n := 1) C0 (by decide) dX5_read_70 (fun v_66 e_67 => ?_)
          refine y_iaddU C0 dX5_read_71 (fun v_68 => ?_)
          refine tp_X0_lines C0 h kSC_20 q_265 (le_min v_68) (le_max v_68) dX5_read_72 (fun H locs ws_69 h u_70 => ?_)
          refine y_inc (kp := 0) (n := 1) (fun v_71 => [(2, .int v_71), (0, .ref (ad 77)), (1, .int a1)]) C0 hl rfl (by decide) (by decide) (fun _ => rfl) (o25_11 b_35 b_36 hn_34 e_38 c_39 (le_min x2_28) (le_max x2_28) (le_min v_37) (le_max v_37)) (o25_12 b_35 b_36 hn_34 e_38 c_39 (le_min x2_28) (le_max x2_28) (le_min v_37) (le_max v_37)) dX5_read_75 (fun v_71 ls e_72 hl => ?_)
          refine lv_goto (tgt := 38) C0.1 C0.2.1 dX5_read_78 (by decide) ?_
          exact ih_32 v_71 _ _ _ _ (o25_13 b_35 b_36 hn_34 e_38 c_39 e_72) (o25_14 b_35 b_36 hn_34 e_38 c_39 e_72) (o25_15 b_35 b_36 hn_34 e_38 c_39 e_72) (Rel.fr (M := [1, 16]) e_56 (Fr.tr (Fr.mono u_60 (by decide)) (Fr.up u_70.1 kSC_20 (by decide))) (by decide) (by decide)) h (Fr.tr (Fr.tr (Fr.tr hF_30 u_54) (Fr.mono u_60 (by decide))) (Fr.up u_70.1 kSC_20 (by decide))) (lv_sub hl [0, 1, 2] rfl)
  exact lp_31 ((900 - v_26.toInt + 1).toNat) v_26 _ _ _ _ (o25_16 e_27) (o25_1 e_27) (o25_5 e_27) (Rel.fr (M := [16]) e_4 (Fr.tr (Fr.tr (Fr.tr (Fr.tr (Fr.tr (Fr.up u_8.1 kSC_77 (by decide)) (Fr.up u_10.1 kSC_77 (by decide))) (Fr.up u_14.1 kSC_77 (by decide))) (Fr.up u_18.1 kSC_77 (by decide))) (Fr.up u_22.1 kSC_77 (by decide))) u_24) (by decide) (by decide)) h Fr.rf (lv_sub hl [0, 1, 2] rfl)
