variable {tt : QQ}
/-! city's answer, the class's -/
def ctyC (T : Nat → Int) (n f : Int) (s : Nat → Int) : Int := if n < 0 ∨ f < n then -3 else if (rdS T n s).1 8 = 0 then (rdS T n s).2.2.2.2 else neg30 ((rdS T n s).1 8)
def ctyF (T : Nat → Int) (n f : Int) (s : Nat → Int) : Nat → Int := if n < 0 ∨ f < n then s else (rdS T n s).1
set_option maxHeartbeats 4000000 in
set_option maxRecDepth 100000 in
theorem c_X0_copyS (l : Launch) (G : GG) (Z : RZ) (ad : Nat → Nat) (ws0 : va_W) (hT : Ty G (SC tt) ad ws0) (i0 : Nat) (hi0 : Kd (SC tt) i0 1) (i1 : Nat) (hi1 : Kd (SC tt) i1 1) (hR : Rel ws0) (hne : i1 ≠ i0) : Mq l yX0_copy cX0_copy 2 none 2 G Z [.ref (ad i0), .ref (ad i1)] ws0 (PV G (SC tt) ad [1, 2, 3, 6, 7, 8, 9, 10, 11, 12, 13, 14, 15] ws0 (fun u => (Rel u ) ∧ fI u i0 7 = fI ws0 i1 7)) := by
  refine Mq.start (by decide) (Nat.le_of_ble_eq_true rfl) ?_
  intro p e s m below meth c A ls C0 hZ h hl
  have hl : lv_has ls 2 [(0, .ref (ad i0)), (1, .ref (ad i1))] := hl
  have h : Wt G (SC tt) ad A s s.heap [] ws0 := ⟨h, hT⟩
  obtain ⟨args, hargs⟩ : ∃ z, z = ([.ref (ad i0), .ref (ad i1)] : List Value).toArray := ⟨_, rfl⟩
  rw [← hargs] at C0 ⊢
  have C0 : Cx p s m args meth c RX0 cX0_copy 2 none := C0
  obtain ⟨Q, hQ⟩ : ∃ z, z = MQ below ((PV G (SC tt) ad [1, 2, 3, 6, 7, 8, 9, 10, 11, 12, 13, 14, 15] ws0 (fun u => (Rel u ) ∧ fI u i0 7 = fI ws0 i1 7)) A) args s 0 0 A := ⟨_, rfl⟩
  rw [← hQ]
  refine lv_aload_n C0.1 C0.2.1 dX0_copy_0 rfl (lv_at hl 0 rfl) ?_
  refine tg_X0_priceLaw C0 h hi0 q_242 dX0_copy_1 ?_
  refine lv_aload_n C0.1 C0.2.1 dX0_copy_4 rfl (lv_at hl 1 rfl) ?_
  refine tg_X0_priceLaw C0 h hi1 q_242 dX0_copy_5 ?_
  refine y_cv h (y_rV (As := [.ref (ad (i1 + 1))]) (rest := []) C0 hZ h (c_X4_copy l G Z ad _ h.2 (i0 + 1) ((rSC_1_1 hi0)) (i1 + 1) ((rSC_1_1 hi1))) k_X4_copy q_861 q_862 q_860 (rSC_1_1 hi0) rfl rfl rfl hl.1 rfl rfl (Nat.le_of_ble_eq_true rfl) dX0_copy_8 ⟨Nat.le_of_ble_eq_true rfl, Nat.le_of_ble_eq_true rfl⟩ ⟨Nat.le_of_ble_eq_true rfl, Nat.le_of_ble_eq_true rfl⟩) (fun H locs ws_1 h u_2 p_3 => ?_)
  refine lv_aload_n C0.1 C0.2.1 dX0_copy_11 rfl (lv_at hl 0 rfl) ?_
  refine tg_X0_mayLaw C0 h hi0 q_244 dX0_copy_12 ?_
  refine lv_aload_n C0.1 C0.2.1 dX0_copy_15 rfl (lv_at hl 1 rfl) ?_
  refine tg_X0_mayLaw C0 h hi1 q_244 dX0_copy_16 ?_
  refine y_cv h (y_rV (As := [.ref (ad (i1 + 5))]) (rest := []) C0 hZ h (c_X4_copy l G Z ad _ h.2 (i0 + 5) ((rSC_1_5 hi0)) (i1 + 5) ((rSC_1_5 hi1))) k_X4_copy q_861 q_862 q_860 (rSC_1_5 hi0) rfl rfl rfl hl.1 rfl rfl (Nat.le_of_ble_eq_true rfl) dX0_copy_19 ⟨Nat.le_of_ble_eq_true rfl, Nat.le_of_ble_eq_true rfl⟩ ⟨Nat.le_of_ble_eq_true rfl, Nat.le_of_ble_eq_true rfl⟩) (fun H locs ws_4 h u_5 p_6 => ?_)
  refine lv_aload_n C0.1 C0.2.1 dX0_copy_22 rfl (lv_at hl 0 rfl) ?_
  refine tg_X0_folk C0 h hi0 q_247 dX0_copy_23 ?_
  refine lv_aload_n C0.1 C0.2.1 dX0_copy_26 rfl (lv_at hl 1 rfl) ?_
  refine tg_X0_folk C0 h hi1 q_247 dX0_copy_27 ?_
  refine y_cv h (y_rV (As := [.ref (ad (i1 + 9))]) (rest := []) C0 hZ h (c_X1_copy l G Z ad _ h.2 (i0 + 9) ((rSC_1_9 hi0)) (i1 + 9) ((rSC_1_9 hi1))) k_X1_copy q_868 q_869 q_867 (rSC_1_9 hi0) rfl rfl rfl hl.1 rfl rfl (Nat.le_of_ble_eq_true rfl) dX0_copy_30 ⟨Nat.le_of_ble_eq_true rfl, Nat.le_of_ble_eq_true rfl⟩ ⟨Nat.le_of_ble_eq_true rfl, Nat.le_of_ble_eq_true rfl⟩) (fun H locs ws_7 h u_8 p_9 => ?_)
  have e_10 := p_9
  refine lv_aload_n C0.1 C0.2.1 dX0_copy_33 rfl (lv_at hl 1 rfl) ?_
  refine tg_X0_streets C0 h hi1 q_252 dX0_copy_34 ?_
  refine y_c1 (n := 0) C0 (by decide) dX0_copy_37 (fun v_11 e_12 => ?_)
  refine lv_aload_n C0.1 C0.2.1 dX0_copy_38 rfl (lv_at hl 0 rfl) ?_
  refine tg_X0_streets C0 h hi0 q_252 dX0_copy_39 ?_
  refine y_c1 (n := 0) C0 (by decide) dX0_copy_42 (fun v_13 e_14 => ?_)
  refine y_c1 (n := 4) C0 (by decide) dX0_copy_43 (fun v_15 e_16 => ?_)
  refine y_copy C0 h hl.1 (rSC_1_17 hi1) (rSC_1_17 hi0) rfl rfl q_872 q_866 q_865 q_145 (o16_18 e_12) (o16_18 e_14) (o16_19 e_16) (o16_20 e_16) (o16_20 e_16) (fun _ _ => ⟨by decide, by decide⟩) (Nat.le_of_ble_eq_true rfl) (Nat.le_of_ble_eq_true rfl) dX0_copy_44 (fun H locs ws_17 h u_18 c_19 c_20 => ?_)
  refine lv_aload_n C0.1 C0.2.1 dX0_copy_47 rfl (lv_at hl 1 rfl) ?_
  refine tg_X0_strides C0 h hi1 q_255 dX0_copy_48 ?_
  refine y_c1 (n := 0) C0 (by decide) dX0_copy_51 (fun v_21 e_22 => ?_)
  refine lv_aload_n C0.1 C0.2.1 dX0_copy_52 rfl (lv_at hl 0 rfl) ?_
  refine tg_X0_strides C0 h hi0 q_255 dX0_copy_53 ?_
  refine y_c1 (n := 0) C0 (by decide) dX0_copy_56 (fun v_23 e_24 => ?_)
  refine y_c1 (n := 4) C0 (by decide) dX0_copy_57 (fun v_25 e_26 => ?_)
  refine y_copy C0 h hl.1 (rSC_1_18 hi1) (rSC_1_18 hi0) rfl rfl q_872 q_866 q_865 q_145 (o16_18 e_22) (o16_18 e_24) (o16_19 e_26) (o16_20 e_26) (o16_20 e_26) (fun _ _ => ⟨by decide, by decide⟩) (Nat.le_of_ble_eq_true rfl) (Nat.le_of_ble_eq_true rfl) dX0_copy_58 (fun H locs ws_27 h u_28 c_29 c_30 => ?_)
  refine lv_aload_n C0.1 C0.2.1 dX0_copy_61 rfl (lv_at hl 0 rfl) ?_
  refine lv_aload_n C0.1 C0.2.1 dX0_copy_62 rfl (lv_at hl 1 rfl) ?_
  refine tg_X0_wide C0 h hi1 q_256 dX0_copy_63 (fun v_31 e_32 e_33 e_34 => ?_)
  refine tp_X0_wide C0 h hi0 q_256 (o16_21 e_33 e_34) (o16_22 e_33 e_34) dX0_copy_66 (fun H locs ws_35 h u_36 => ?_)
  refine lv_aload_n C0.1 C0.2.1 dX0_copy_69 rfl (lv_at hl 0 rfl) ?_
  refine lv_aload_n C0.1 C0.2.1 dX0_copy_70 rfl (lv_at hl 1 rfl) ?_
  refine tg_X0_high C0 h hi1 q_260 dX0_copy_71 (fun v_37 e_38 e_39 e_40 => ?_)
  refine tp_X0_high C0 h hi0 q_260 (o16_21 e_39 e_40) (o16_22 e_39 e_40) dX0_copy_74 (fun H locs ws_41 h u_42 => ?_)
  refine lv_aload_n C0.1 C0.2.1 dX0_copy_77 rfl (lv_at hl 0 rfl) ?_
  refine lv_aload_n C0.1 C0.2.1 dX0_copy_78 rfl (lv_at hl 1 rfl) ?_
  refine tg_X0_lines C0 h hi1 q_263 dX0_copy_79 (fun v_43 e_44 e_45 e_46 => ?_)
  refine tp_X0_lines C0 h hi0 q_263 (le_min v_43) (le_max v_43) dX0_copy_82 (fun H locs ws_47 h u_48 => ?_)
  refine lv_aload_n C0.1 C0.2.1 dX0_copy_85 rfl (lv_at hl 0 rfl) ?_
  refine lv_aload_n C0.1 C0.2.1 dX0_copy_86 rfl (lv_at hl 1 rfl) ?_
  refine tg_X0_toldFree C0 h hi1 q_266 dX0_copy_87 (fun v_49 e_50 e_51 e_52 => ?_)
  refine tp_X0_toldFree C0 h hi0 q_266 (le_min v_49) (le_max v_49) dX0_copy_90 (fun H locs ws_53 h u_54 => ?_)
  rw [hQ]
  exact y_vret C0 h (Fr.tr (Fr.tr (Fr.tr (Fr.tr (Fr.tr (Fr.tr (Fr.tr (Fr.tr (Fr.mono u_2 (by decide)) (Fr.mono u_5 (by decide))) (Fr.mono u_8 (by decide))) (Fr.up u_18 (rSC_1_17 hi0) (by decide))) (Fr.up u_28 (rSC_1_18 hi0) (by decide))) (Fr.up u_36.1 hi0 (by decide))) (Fr.up u_42.1 hi0 (by decide))) (Fr.up u_48.1 hi0 (by decide))) (Fr.up u_54.1 hi0 (by decide))) ⟨(rel_copy (M := [2, 3, 6, 7, 8, 9, 10, 11, 12, 13]) (N := [1]) hR hi0 hi1 (Fr.tr (Fr.tr (Fr.mono u_2 (by decide)) (Fr.mono u_5 (by decide))) (Fr.mono u_8 (by decide))) (by decide) (by decide) e_16 e_26 u_18 c_19 u_28 c_29 (Fr.tr (Fr.tr (Fr.tr (Fr.up u_36.1 hi0 (by decide)) (Fr.up u_42.1 hi0 (by decide))) (Fr.up u_48.1 hi0 (by decide))) (Fr.up u_54.1 hi0 (by decide))) (by decide) (by decide)), (Eq.trans (u_54.2.2 7 (by decide)) (Eq.trans u_48.2.1 (Eq.trans e_44.symm (Eq.trans (fI_of (u_42.1 i1 hne)) (Eq.trans (fI_of (u_36.1 i1 hne)) (Eq.trans (fI_of (u_28 i1 (kd_ne hi1 (rSC_1_18 hi0) (by decide)))) (Eq.trans (fI_of (u_18 i1 (kd_ne hi1 (rSC_1_17 hi0) (by decide)))) (Eq.trans (Fr.fI u_8 hi1 (by decide)) (Eq.trans (Fr.fI u_5 hi1 (by decide)) (Fr.fI u_2 hi1 (by decide)))))))))))⟩ dX0_copy_93
set_option maxHeartbeats 4000000 in
set_option maxRecDepth 100000 in
theorem c_X11_cityS {T : Nat → Int} (l : Launch) (G : GG) (Z : RZ) (ad : Nat → Nat) (ws0 : va_W) (hT : Ty G (SC q0) ad ws0) (a1 : Int32) (hR : Rel ws0) (hH : Hok ws0) (hTp : Tp T ws0) : Mq l yX11_city cX11_city 3 (some .int) 32 G Z [.ref (ad 0), .int a1] ws0 (PI G (SC q0) ad [0, 1, 2, 3, 6, 7, 8, 9, 10, 11, 12, 13, 14, 15, 16, 18, 39] ws0 (fun r u => (Rel u) ∧ (Hok u) ∧ (CtF (fI ws0 77 2).toInt (fI u 77 2).toInt a1) ∧ (r.toInt = ctyC T a1.toInt (fI ws0 77 2).toInt (aF 77 ws0)) ∧ (aF 77 u = ctyF T a1.toInt (fI ws0 77 2).toInt (aF 77 ws0)))) := by
  refine Mq.start (by decide) (Nat.le_of_ble_eq_true rfl) ?_
  intro p e s m below meth c A ls C0 hZ h hl
  have hl : lv_has ls 3 [(0, .ref (ad 0)), (1, .int a1)] := hl
  have h : Wt G (SC q0) ad A s s.heap [] ws0 := ⟨h, hT⟩
  obtain ⟨args, hargs⟩ : ∃ z, z = ([.ref (ad 0), .int a1] : List Value).toArray := ⟨_, rfl⟩
  rw [← hargs] at C0 ⊢
  have C0 : Cx p s m args meth c RX11 cX11_city 3 (some .int) := C0
  obtain ⟨Q, hQ⟩ : ∃ z, z = MQ below ((PI G (SC q0) ad [0, 1, 2, 3, 6, 7, 8, 9, 10, 11, 12, 13, 14, 15, 16, 18, 39] ws0 (fun r u => (Rel u) ∧ (Hok u) ∧ (CtF (fI ws0 77 2).toInt (fI u 77 2).toInt a1) ∧ (r.toInt = ctyC T a1.toInt (fI ws0 77 2).toInt (aF 77 ws0)) ∧ (aF 77 u = ctyF T a1.toInt (fI ws0 77 2).toInt (aF 77 ws0)))) A) args s 0 0 A := ⟨_, rfl⟩
  rw [← hQ]
  refine lv_iload_n C0.1 C0.2.1 dX11_city_0 rfl (lv_at hl 1 rfl) ?_
  refine y_if_lt (tgt := 15) C0 dX11_city_1 (by decide) (fun c_1 => ?_) (fun c_1 => ?_)
  · -- 1
    refine y_c2 (n := (-3)) C0 (by decide) dX11_city_15 (fun v_2 e_3 => ?_)
    rw [hQ]
    exact y_iret C0 h Fr.rf ⟨hR, hH, Or.inl ⟨by omega, rfl⟩, (by unfold ctyC; rw [if_pos (by omega)]; omega), (by unfold ctyF; rw [if_pos (by omega)])⟩ dX11_city_17
  · -- 1
    refine lv_iload_n C0.1 C0.2.1 dX11_city_4 rfl (lv_at hl 1 rfl) ?_
    refine lv_aload_n C0.1 C0.2.1 dX11_city_5 rfl (lv_at hl 0 rfl) ?_
    refine tg_X11_reader C0 h kSC_0 q_517 dX11_city_6 ?_
    refine y_ci h (y_rV (As := []) (rest := [.int a1]) C0 hZ h (c_X5_fedR l G Z ad _ h.2) k_X5_fed q_587 q_588 q_586 kSC_77 rfl rfl rfl hl.1 rfl rfl (Nat.le_of_ble_eq_true rfl) dX11_city_9 ⟨Nat.le_of_ble_eq_true rfl, Nat.le_of_ble_eq_true rfl⟩ ⟨Nat.le_of_ble_eq_true rfl, Nat.le_of_ble_eq_true rfl⟩) (fun r_7 H locs ws_4 h u_5 p_6 => ?_)
    obtain ⟨e_8, e_9, e_9x⟩ := p_6
    refine y_icmp_le (tgt := 18) C0 dX11_city_12 (by decide) (fun c_10 => ?_) (fun c_10 => ?_)
    · -- 12
      refine lv_aload_n C0.1 C0.2.1 dX11_city_18 rfl (lv_at hl 0 rfl) ?_
      refine tg_X11_reader C0 h kSC_0 q_517 dX11_city_19 ?_
      refine lv_iload_n C0.1 C0.2.1 dX11_city_22 rfl (lv_at hl 1 rfl) ?_
      refine y_ciX h (y_rV (As := [.int a1]) (rest := []) C0 hZ h (c_X5_readS l G Z ad _ h.2 a1 (o27_5 c_1 e_8 e_9 c_10) (o27_6 c_1 e_8 e_9 c_10) (Rel.fr (M := []) hR u_5 (by decide) (by decide)) (Tp.fr (M := []) hTp u_5 kSC_78 (by decide))) k_X5_read q_595 q_596 q_594 kSC_77 rfl rfl rfl hl.1 rfl rfl (Nat.le_of_ble_eq_true rfl) dX11_city_23 ⟨Nat.le_of_ble_eq_true rfl, Nat.le_of_ble_eq_true rfl⟩ ⟨Nat.le_of_ble_eq_true rfl, Nat.le_of_ble_eq_true rfl⟩) (fun r_14 H locs ws_11 h u_12 p_13 => ?_)
      have h00 : (fI ws_11 77 2).toInt = 0 := SC_is (a := q00) rfl h.2
      have h : Wt G (SC q0) ad A s H locs ws_11 := ⟨h.1, SC_q0 h.2⟩
      obtain ⟨eA, eB, e_15⟩ := p_13
      have e4 : aF 77 ws_4 = aF 77 ws0 := aF_fr u_5 kSC_77 (by decide)
      rw [e4] at eA
      have eA1 : aF 77 ws_11 = (rdS T a1.toInt (aF 77 ws0)).1 := congrArg (fun q : RS => q.1) eA
      have eA2 : aF 20 ws_11 7 = (rdS T a1.toInt (aF 77 ws0)).2.2.2.2 := congrArg (fun q : RS => q.2.2.2.2) eA
      have eB1 : (rdS T a1.toInt (aF 77 ws0)).1 8 = r_14.toInt := by rw [← eA1]; exact eB.symm
      have g0 := congrArg Int32.toInt e_9x
      have hin : ¬ (a1.toInt < 0 ∨ (fI ws0 77 2).toInt < a1.toInt) := by omega
      have b8 := ty_fI (k := 8) h.2 kSC_77 rfl rfl
      have eB2 : r_14.toInt = (fI ws_11 77 8).toInt := eB.trans (aF_at (by decide) rfl)
      have eF : ∀ x, aF 77 x = aF 77 ws_11 → aF 77 x = ctyF T a1.toInt (fI ws0 77 2).toInt (aF 77 ws0) := fun x hx => by unfold ctyF; rw [if_neg hin, hx, eA1]
      refine lv_istore_n (lv' := [(2, .int r_14), (0, .ref (ad 0)), (1, .int a1)]) C0.1 C0.2.1 dX11_city_26 rfl hl (by decide) rfl (fun ls hl => ?_)
      refine lv_iload_n C0.1 C0.2.1 dX11_city_27 rfl (lv_at hl 0 rfl) ?_
      refine y_if_eq (tgt := 36) C0 dX11_city_28 (by decide) (fun c_16 => ?_) (fun c_16 => ?_)
      · -- 28
        refine lv_aload_n C0.1 C0.2.1 dX11_city_36 rfl (lv_at hl 1 rfl) ?_
        refine tg_X11_now C0 h kSC_0 q_515 dX11_city_37 ?_
        refine lv_aload_n C0.1 C0.2.1 dX11_city_40 rfl (lv_at hl 1 rfl) ?_
        refine tg_X11_spare C0 h kSC_0 q_516 dX11_city_41 ?_
        refine y_cv h (y_rV (As := [.ref (ad 20)]) (rest := []) C0 hZ h (c_X0_copyS l G Z ad _ h.2 1 kSC_1 20 kSC_20 e_15 (by decide)) k_X0_copy q_857 q_858 q_856 kSC_1 rfl rfl rfl hl.1 rfl rfl (Nat.le_of_ble_eq_true rfl) dX11_city_44 ⟨Nat.le_of_ble_eq_true rfl, Nat.le_of_ble_eq_true rfl⟩ ⟨Nat.le_of_ble_eq_true rfl, Nat.le_of_ble_eq_true rfl⟩) (fun H locs ws_17 h u_18 p_19 => ?_)
        obtain ⟨e_20, eL⟩ := p_19
        refine lv_aload_n C0.1 C0.2.1 dX11_city_47 rfl (lv_at hl 1 rfl) ?_
        refine y_cv h (y_rV (As := []) (rest := []) C0 hZ h (c_X11_startAnew l G Z ad _ h.2 (Hok.fr (M := [1, 2, 3, 6, 7, 8, 9, 10, 11, 12, 13, 14, 15, 16]) hH (Fr.tr (Fr.tr (Fr.mono u_5 (by decide)) u_12) (Fr.mono u_18 (by decide))) (by decide))) k_X11_startAnew q_875 q_22 q_873 kSC_0 rfl rfl rfl hl.1 rfl rfl (Nat.le_of_ble_eq_true rfl) dX11_city_48 ⟨Nat.le_of_ble_eq_true rfl, Nat.le_of_ble_eq_true rfl⟩ ⟨Nat.le_of_ble_eq_true rfl, Nat.le_of_ble_eq_true rfl⟩) (fun H locs ws_21 h u_22 p_23 => ?_)
        have e_24 := p_23
        refine lv_aload_n C0.1 C0.2.1 dX11_city_51 rfl (lv_at hl 1 rfl) ?_
        refine tg_X11_now C0 h kSC_0 q_515 dX11_city_52 ?_
        refine tg_X0_lines C0 h kSC_1 q_264 dX11_city_55 (fun v_25 e_26 e_27 e_28 => ?_)
        rw [hQ]
        exact y_iret C0 h (Fr.tr (Fr.tr (Fr.tr (Fr.mono u_5 (by decide)) (Fr.mono u_12 (by decide))) (Fr.mono u_18 (by decide))) (Fr.mono u_22 (by decide))) ⟨(Rel.fr (M := [0, 18, 39]) e_20 u_22 (by decide) (by decide)), e_24, (by have g1 := congrArg Int32.toInt (Fr.fI (k := 2) u_18 kSC_77 (by decide)); have g2 := congrArg Int32.toInt (Fr.fI (k := 2) u_22 kSC_77 (by decide)); have g3 := congrArg Int32.toInt e_9x; exact Or.inr ⟨by omega, by omega, by omega⟩), (by unfold ctyC; rw [if_neg hin, if_pos (by omega)]; exact (aF_at (by decide) e_26).symm.trans ((congrFun (aF_fr u_22 kSC_1 (by decide)) 7).trans (((aF_at (by decide) rfl).trans ((congrArg Int32.toInt eL).trans (aF_at (by decide) rfl).symm)).trans eA2))), (eF _ ((aF_fr u_22 kSC_77 (by decide)).trans (aF_fr u_18 kSC_77 (by decide))))⟩ dX11_city_58
      · -- 28
        refine y_c2 (n := (-30)) C0 (by decide) dX11_city_31 (fun v_29 e_30 => ?_)
        refine lv_iload_n C0.1 C0.2.1 dX11_city_33 rfl (lv_at hl 0 rfl) ?_
        refine y_isubX C0 dX11_city_34 (fun v_31 eX_31 => ?_)
        rw [hQ]
        exact y_iret C0 h (Fr.tr (Fr.mono u_5 (by decide)) (Fr.mono u_12 (by decide))) ⟨e_15, (Hok.fr (M := [1, 2, 3, 6, 7, 8, 9, 10, 11, 12, 13, 14, 15, 16]) hH (Fr.tr (Fr.mono u_5 (by decide)) u_12) (by decide)), (by have g3 := congrArg Int32.toInt e_9x; exact Or.inr ⟨by omega, by omega, h00⟩), (by unfold ctyC; rw [if_neg hin, if_neg (by omega)]; exact sub30 eX_31 e_30 eB1.symm), (eF _ rfl)⟩ dX11_city_35
    · -- 12
      refine y_c2 (n := (-3)) C0 (by decide) dX11_city_15 (fun v_32 e_33 => ?_)
      rw [hQ]
      exact y_iret C0 h (Fr.mono u_5 (by decide)) ⟨(Rel.fr (M := []) hR u_5 (by decide) (by decide)), (Hok.fr (M := []) hH u_5 (by decide)), (by have g3 := congrArg Int32.toInt e_9x; have g4 := congrArg Int32.toInt (Fr.fI (k := 2) u_5 kSC_77 (by decide)); exact Or.inl ⟨by omega, by omega⟩), (by have g0 := congrArg Int32.toInt e_9x; unfold ctyC; rw [if_pos (by omega)]; omega), (by have g0 := congrArg Int32.toInt e_9x; unfold ctyF; rw [if_pos (by omega)]; exact aF_fr u_5 kSC_77 (by decide))⟩ dX11_city_17
