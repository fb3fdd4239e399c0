variable {tt : QQ}
/-! fault's answers -/
def Flt (k p : Int) (a r : Int32) : Prop := (a.toInt = 0 ∧ r.toInt = k) ∨ (a.toInt = 1 ∧ r.toInt = p) ∨ (a.toInt ≠ 0 ∧ a.toInt ≠ 1 ∧ r.toInt = -1)
set_option maxHeartbeats 4000000 in
set_option maxRecDepth 100000 in
theorem c_X5_faultKindR (l : Launch) (G : GG) (Z : RZ) (ad : Nat → Nat) (ws0 : va_W) (hT : Ty G (SC tt) ad ws0) : Mq l yX5_faultKind cX5_faultKind 1 (some .int) 1 G Z [.ref (ad 77)] ws0 (PI G (SC tt) ad [] ws0 (fun r u => True ∧ (r = fI ws0 77 8))) := by
  refine Mq.start (by decide) (Nat.le_of_ble_eq_true rfl) ?_
  intro p e s m below meth c A ls C0 hZ h hl
  have hl : lv_has ls 1 [(0, .ref (ad 77))] := hl
  have h : Wt G (SC tt) ad A s s.heap [] ws0 := ⟨h, hT⟩
  obtain ⟨args, hargs⟩ : ∃ z, z = ([.ref (ad 77)] : List Value).toArray := ⟨_, rfl⟩
  rw [← hargs] at C0 ⊢
  have C0 : Cx p s m args meth c RX5 cX5_faultKind 1 (some .int) := C0
  obtain ⟨Q, hQ⟩ : ∃ z, z = MQ below ((PI G (SC tt) ad [] ws0 (fun r u => True ∧ (r = fI ws0 77 8))) A) args s 0 0 A := ⟨_, rfl⟩
  rw [← hQ]
  refine lv_aload_n C0.1 C0.2.1 dX5_faultKind_0 rfl (lv_at hl 0 rfl) ?_
  refine tg_X5_fault C0 h kSC_77 q_378 dX5_faultKind_1 (fun v_1 e_2 e_3 e_4 => ?_)
  rw [hQ]
  exact y_iret C0 h Fr.rf ⟨trivial, e_2.symm⟩ dX5_faultKind_4
set_option maxHeartbeats 4000000 in
set_option maxRecDepth 100000 in
theorem c_X5_faultPlaceR (l : Launch) (G : GG) (Z : RZ) (ad : Nat → Nat) (ws0 : va_W) (hT : Ty G (SC tt) ad ws0) : Mq l yX5_faultPlace cX5_faultPlace 1 (some .int) 1 G Z [.ref (ad 77)] ws0 (PI G (SC tt) ad [] ws0 (fun r u => True ∧ (r = fI ws0 77 9))) := by
  refine Mq.start (by decide) (Nat.le_of_ble_eq_true rfl) ?_
  intro p e s m below meth c A ls C0 hZ h hl
  have hl : lv_has ls 1 [(0, .ref (ad 77))] := hl
  have h : Wt G (SC tt) ad A s s.heap [] ws0 := ⟨h, hT⟩
  obtain ⟨args, hargs⟩ : ∃ z, z = ([.ref (ad 77)] : List Value).toArray := ⟨_, rfl⟩
  rw [← hargs] at C0 ⊢
  have C0 : Cx p s m args meth c RX5 cX5_faultPlace 1 (some .int) := C0
  obtain ⟨Q, hQ⟩ : ∃ z, z = MQ below ((PI G (SC tt) ad [] ws0 (fun r u => True ∧ (r = fI ws0 77 9))) A) args s 0 0 A := ⟨_, rfl⟩
  rw [← hQ]
  refine lv_aload_n C0.1 C0.2.1 dX5_faultPlace_0 rfl (lv_at hl 0 rfl) ?_
  refine tg_X5_place C0 h kSC_77 q_379 dX5_faultPlace_1 (fun v_1 e_2 e_3 e_4 => ?_)
  rw [hQ]
  exact y_iret C0 h Fr.rf ⟨trivial, e_2.symm⟩ dX5_faultPlace_4
set_option maxHeartbeats 4000000 in
set_option maxRecDepth 100000 in
theorem c_X11_faultR (l : Launch) (G : GG) (Z : RZ) (ad : Nat → Nat) (ws0 : va_W) (hT : Ty G (SC tt) ad ws0) (a1 : Int32) (hR : Rel ws0) (hH : Hok ws0) : Mq l yX11_fault cX11_fault 2 (some .int) 2 G Z [.ref (ad 0), .int a1] ws0 (PI G (SC tt) ad [] ws0 (fun r u => (Rel u) ∧ (Hok u) ∧ (Flt (fI ws0 77 8).toInt (fI ws0 77 9).toInt a1 r))) := by
  refine Mq.start (by decide) (Nat.le_of_ble_eq_true rfl) ?_
  intro p e s m below meth c A ls C0 hZ h hl
  have hl : lv_has ls 2 [(0, .ref (ad 0)), (1, .int a1)] := hl
  have h : Wt G (SC tt) ad A s s.heap [] ws0 := ⟨h, hT⟩
  obtain ⟨args, hargs⟩ : ∃ z, z = ([.ref (ad 0), .int a1] : List Value).toArray := ⟨_, rfl⟩
  rw [← hargs] at C0 ⊢
  have C0 : Cx p s m args meth c RX11 cX11_fault 2 (some .int) := C0
  obtain ⟨Q, hQ⟩ : ∃ z, z = MQ below ((PI G (SC tt) ad [] ws0 (fun r u => (Rel u) ∧ (Hok u) ∧ (Flt (fI ws0 77 8).toInt (fI ws0 77 9).toInt a1 r))) A) args s 0 0 A := ⟨_, rfl⟩
  rw [← hQ]
  refine lv_iload_n C0.1 C0.2.1 dX11_fault_0 rfl (lv_at hl 1 rfl) ?_
  refine y_if_ne (tgt := 14) C0 dX11_fault_1 (by decide) (fun c_1 => ?_) (fun c_1 => ?_)
  · -- 1
    refine lv_iload_n C0.1 C0.2.1 dX11_fault_14 rfl (lv_at hl 1 rfl) ?_
    refine y_c1 (n := 1) C0 (by decide) dX11_fault_15 (fun v_2 e_3 => ?_)
    refine y_icmp_ne (tgt := 29) C0 dX11_fault_16 (by decide) (fun c_4 => ?_) (fun c_4 => ?_)
    · -- 16
      refine y_c1 (n := (-1)) C0 (by decide) dX11_fault_29 (fun v_5 e_6 => ?_)
      rw [hQ]
      exact y_iret C0 h Fr.rf ⟨hR, hH, (Or.inr (Or.inr ⟨by omega, by omega, e_6⟩))⟩ dX11_fault_30
    · -- 16
      refine lv_aload_n C0.1 C0.2.1 dX11_fault_19 rfl (lv_at hl 0 rfl) ?_
      refine tg_X11_reader C0 h kSC_0 q_517 dX11_fault_20 ?_
      refine y_ci h (y_rV (As := []) (rest := []) C0 hZ h (c_X5_faultPlaceR l G Z ad _ h.2) k_X5_faultPlace q_894 q_895 q_893 kSC_77 rfl rfl rfl hl.1 rfl rfl (Nat.le_of_ble_eq_true rfl) dX11_fault_23 ⟨Nat.le_of_ble_eq_true rfl, Nat.le_of_ble_eq_true rfl⟩ ⟨Nat.le_of_ble_eq_true rfl, Nat.le_of_ble_eq_true rfl⟩) (fun r_10 H locs ws_7 h u_8 p_9 => ?_)
      refine lv_goto (tgt := 30) C0.1 C0.2.1 dX11_fault_26 (by decide) ?_
      rw [hQ]
      exact y_iret C0 h u_8 ⟨(Rel.fr (M := []) hR u_8 (by decide) (by decide)), (Hok.fr (M := []) hH u_8 (by decide)), (Or.inr (Or.inl ⟨by omega, congrArg Int32.toInt p_9.2⟩))⟩ dX11_fault_30
  · -- 1
    refine lv_aload_n C0.1 C0.2.1 dX11_fault_4 rfl (lv_at hl 0 rfl) ?_
    refine tg_X11_reader C0 h kSC_0 q_517 dX11_fault_5 ?_
    refine y_ci h (y_rV (As := []) (rest := []) C0 hZ h (c_X5_faultKindR l G Z ad _ h.2) k_X5_faultKind q_890 q_891 q_889 kSC_77 rfl rfl rfl hl.1 rfl rfl (Nat.le_of_ble_eq_true rfl) dX11_fault_8 ⟨Nat.le_of_ble_eq_true rfl, Nat.le_of_ble_eq_true rfl⟩ ⟨Nat.le_of_ble_eq_true rfl, Nat.le_of_ble_eq_true rfl⟩) (fun r_14 H locs ws_11 h u_12 p_13 => ?_)
    refine lv_goto (tgt := 30) C0.1 C0.2.1 dX11_fault_11 (by decide) ?_
    rw [hQ]
    exact y_iret C0 h u_12 ⟨(Rel.fr (M := []) hR u_12 (by decide) (by decide)), (Hok.fr (M := []) hH u_12 (by decide)), (Or.inl ⟨by omega, congrArg Int32.toInt p_13.2⟩)⟩ dX11_fault_30
set_option maxHeartbeats 4000000 in
set_option maxRecDepth 100000 in
theorem c_X12_faultR (l : Launch) (G : GG) (Z : RZ) (ad : Nat → Nat) (ws0 : va_W) (hT : Ty G (SM tt) ad ws0) (a1 : Int32) : Mq l yX12_fault cX12_fault 2 (some .int) 1 G Z [.ref (ad 0), .int a1] ws0 (PI G (SM tt) ad [0] ws0 (fun r u => True ∧ (Flt (fI ws0 0 13).toInt (fI ws0 0 14).toInt a1 r))) := by
  refine Mq.start (by decide) (Nat.le_of_ble_eq_true rfl) ?_
  intro p e s m below meth c A ls C0 hZ h hl
  have hl : lv_has ls 2 [(0, .ref (ad 0)), (1, .int a1)] := hl
  have h : Wt G (SM tt) ad A s s.heap [] ws0 := ⟨h, hT⟩
  obtain ⟨args, hargs⟩ : ∃ z, z = ([.ref (ad 0), .int a1] : List Value).toArray := ⟨_, rfl⟩
  rw [← hargs] at C0 ⊢
  have C0 : Cx p s m args meth c RX12 cX12_fault 2 (some .int) := C0
  obtain ⟨Q, hQ⟩ : ∃ z, z = MQ below ((PI G (SM tt) ad [0] ws0 (fun r u => True ∧ (Flt (fI ws0 0 13).toInt (fI ws0 0 14).toInt a1 r))) A) args s 0 0 A := ⟨_, rfl⟩
  rw [← hQ]
  refine lv_aload_n C0.1 C0.2.1 dX12_fault_0 rfl (lv_at hl 0 rfl) ?_
  refine y_c1 (n := 0) C0 (by decide) dX12_fault_1 (fun v_1 e_2 => ?_)
  refine np_X12_thrown C0 h kSM_0 q_1438 (le_min v_1) (le_max v_1) dX12_fault_2 (fun H locs ws_3 h u_4 => ?_)
  refine lv_iload_n C0.1 C0.2.1 dX12_fault_5 rfl (lv_at hl 1 rfl) ?_
  refine y_if_ne (tgt := 16) C0 dX12_fault_6 (by decide) (fun c_5 => ?_) (fun c_5 => ?_)
  · -- 6
    refine lv_iload_n C0.1 C0.2.1 dX12_fault_16 rfl (lv_at hl 1 rfl) ?_
    refine y_c1 (n := 1) C0 (by decide) dX12_fault_17 (fun v_6 e_7 => ?_)
    refine y_icmp_ne (tgt := 28) C0 dX12_fault_18 (by decide) (fun c_8 => ?_) (fun c_8 => ?_)
    · -- 18
      refine y_c1 (n := (-1)) C0 (by decide) dX12_fault_28 (fun v_9 e_10 => ?_)
      rw [hQ]
      exact y_iret C0 h (Fr.up u_4.1 kSM_0 (by decide)) ⟨trivial, (Or.inr (Or.inr ⟨by omega, by omega, e_10⟩))⟩ dX12_fault_29
    · -- 18
      refine lv_aload_n C0.1 C0.2.1 dX12_fault_21 rfl (lv_at hl 0 rfl) ?_
      refine ng_X12_faultPlace C0 h kSM_0 q_1452 dX12_fault_22 (fun v_11 e_12 e_13 e_14 => ?_)
      refine lv_goto (tgt := 29) C0.1 C0.2.1 dX12_fault_25 (by decide) ?_
      rw [hQ]
      exact y_iret C0 h (Fr.up u_4.1 kSM_0 (by decide)) ⟨trivial, (Or.inr (Or.inl ⟨by omega, congrArg Int32.toInt (e_12.symm.trans (u_4.2.2 14 (by decide)))⟩))⟩ dX12_fault_29
  · -- 6
    refine lv_aload_n C0.1 C0.2.1 dX12_fault_9 rfl (lv_at hl 0 rfl) ?_
    refine ng_X12_faultKind C0 h kSM_0 q_1451 dX12_fault_10 (fun v_15 e_16 e_17 e_18 => ?_)
    refine lv_goto (tgt := 29) C0.1 C0.2.1 dX12_fault_13 (by decide) ?_
    rw [hQ]
    exact y_iret C0 h (Fr.up u_4.1 kSM_0 (by decide)) ⟨trivial, (Or.inl ⟨by omega, congrArg Int32.toInt (e_16.symm.trans (u_4.2.2 13 (by decide)))⟩)⟩ dX12_fault_29
