/-! images: made or not -/
def ImC (c : Nat) (ws u : va_W) (a r : Int32) : Prop := (r.toInt = 0 ∧ 0 ≤ a.toInt ∧ a.toInt ≤ 1 ∧ aI u c a.toInt.toNat = 1 ∧ ∀ j, j ≠ a.toInt.toNat → aI u c j = aI ws c j) ∨ ((a.toInt < 0 ∨ 1 < a.toInt) ∧ ∀ j, aI u c j = aI ws c j)
theorem ImC.ok {c : Nat} {ws w1 u : va_W} {a v r : Int32} (hu : UdA c a.toInt.toNat v w1 u) (hv : v.toInt = 1) (hf : ∀ j, aI w1 c j = aI ws c j) (h0 : 0 ≤ a.toInt) (h1 : a.toInt ≤ 1) (hr : r.toInt = 0) : ImC c ws u a r := Or.inl ⟨hr, h0, h1, hu.2.1.trans (Int32.toInt_inj.mp hv), fun j hj => (hu.2.2 j hj).trans (hf j)⟩
theorem ImC.no {c : Nat} {ws u : va_W} {a r : Int32} (h : a.toInt < 0 ∨ 1 < a.toInt) (hf : ∀ j, aI u c j = aI ws c j) : ImC c ws u a r := Or.inr ⟨h, hf⟩
def RsC (c : Nat) (ws : va_W) (a r : Int32) : Prop := ((a.toInt < 0 ∨ 1 < a.toInt) ∧ r.toInt = -2) ∨ ((0 ≤ a.toInt ∧ a.toInt ≤ 1) ∧ (((aI ws c a.toInt.toNat).toInt = 0 ∧ r.toInt = -5) ∨ ((aI ws c a.toInt.toNat).toInt ≠ 0 ∧ r.toInt = 0)))
theorem RsC.no {c : Nat} {ws : va_W} {a r : Int32} (h : a.toInt < 0 ∨ 1 < a.toInt) (hr : r.toInt = -2) : RsC c ws a r := Or.inl ⟨h, hr⟩
theorem RsC.un {c : Nat} {ws w1 : va_W} {a r v : Int32} (e : aI w1 c a.toInt.toNat = v) (hf : ∀ j, aI w1 c j = aI ws c j) (h0 : 0 ≤ a.toInt) (h1 : a.toInt ≤ 1) (hv : v.toInt = 0) (hr : r.toInt = -5) : RsC c ws a r := Or.inr ⟨⟨h0, h1⟩, Or.inl ⟨by rw [← hf, e]; exact hv, hr⟩⟩
theorem RsC.ok {c : Nat} {ws w1 : va_W} {a r v : Int32} (e : aI w1 c a.toInt.toNat = v) (hf : ∀ j, aI w1 c j = aI ws c j) (h0 : 0 ≤ a.toInt) (h1 : a.toInt ≤ 1) (hv : v.toInt ≠ 0) (hr : r.toInt = 0) : RsC c ws a r := Or.inr ⟨⟨h0, h1⟩, Or.inr ⟨by rw [← hf, e]; exact hv, hr⟩⟩
def RI (a b : va_W) : Prop := ∀ j, j < 2 → aI a 117 j = aI b 2 j
theorem RI.fr {a a' b b' : va_W} {M N : List Nat} (h : RI a b) (f : Fr SC M a a') (hM : 46 ∉ M) (g : Fr SM N b b') (hN : 2 ∉ N) : RI a' b' := fun j hj => (f.aI kSC_117 hM).trans ((h j hj).trans (g.aI kSM_2 hN).symm)
theorem RI.im {a a' b b' : va_W} {x r q : Int32} (h : RI a b) (f : ImC 117 a a' x r) (g : ImC 2 b b' x q) : RI a' b' := fun j hj => by
  rcases f with ⟨-, f1, f2, f3, f4⟩ | ⟨f1, f2⟩
  · rcases g with ⟨-, g1, g2, g3, g4⟩ | ⟨g1, g2⟩
    · by_cases e : j = x.toInt.toNat
      · rw [e, f3, g3]
      · rw [f4 j e, g4 j e]; exact h j hj
    · omega
  · rcases g with ⟨-, g1, g2, g3, g4⟩ | ⟨g1, g2⟩
    · omega
    · rw [f2, g2]; exact h j hj
theorem RI.rs {a b : va_W} {x r q : Int32} (h : RI a b) (f : RsC 117 a x r) (g : RsC 2 b x q) : r.toInt = q.toInt := by
  rcases f with ⟨f1, f2⟩ | ⟨⟨f1, f2⟩, f3⟩
  · rcases g with ⟨g1, g2⟩ | ⟨⟨g1, g2⟩, g3⟩ <;> omega
  · rcases g with ⟨g1, g2⟩ | ⟨⟨g1, g2⟩, g3⟩
    · omega
    · rw [h _ (by omega)] at f3
      omega
set_option maxHeartbeats 4000000 in
set_option maxRecDepth 100000 in
theorem c_X11_imageR (l : Launch) (G : GG) (Z : RZ) (ad : Nat → Nat) (ws0 : va_W) (hT : Ty G SC ad ws0) (a1 : Int32) (hR : Rel ws0) (hH : Hok ws0) : Mq l yX11_image cX11_image 2 (some .int) 3 G Z [.ref (ad 0), .int a1] ws0 (PI G SC ad [1, 2, 3, 6, 7, 8, 9, 10, 11, 12, 13, 14, 15, 46] ws0 (fun r u => ((-2) ≤ r.toInt) ∧ (r.toInt ≤ 0) ∧ (((r.toInt = -2 ∧ (a1.toInt < 0 ∨ 1 < a1.toInt)) ∨ (r.toInt = 0 ∧ 0 ≤ a1.toInt ∧ a1.toInt ≤ 1))) ∧ (Rel u) ∧ (Hok u) ∧ (ImC 117 ws0 u a1 r))) := by
  refine Mq.start (by decide) (Nat.le_of_ble_eq_true rfl) ?_
  intro p e s m below meth c A ls C0 hZ h hl
  have hl : lv_has ls 2 [(0, .ref (ad 0)), (1, .int a1)] := hl
  have h : Wt G SC ad A s s.heap [] ws0 := ⟨h, hT⟩
  obtain ⟨args, hargs⟩ : ∃ z, z = ([.ref (ad 0), .int a1] : List Value).toArray := ⟨_, rfl⟩
  rw [← hargs] at C0 ⊢
  have C0 : Cx p s m args meth c RX11 cX11_image 2 (some .int) := C0
  obtain ⟨Q, hQ⟩ : ∃ z, z = MQ below ((PI G SC ad [1, 2, 3, 6, 7, 8, 9, 10, 11, 12, 13, 14, 15, 46] ws0 (fun r u => ((-2) ≤ r.toInt) ∧ (r.toInt ≤ 0) ∧ (((r.toInt = -2 ∧ (a1.toInt < 0 ∨ 1 < a1.toInt)) ∨ (r.toInt = 0 ∧ 0 ≤ a1.toInt ∧ a1.toInt ≤ 1))) ∧ (Rel u) ∧ (Hok u) ∧ (ImC 117 ws0 u a1 r))) A) args s 0 0 A := ⟨_, rfl⟩
  rw [← hQ]
  refine lv_iload_n C0.1 C0.2.1 dX11_image_0 rfl (lv_at hl 1 rfl) ?_
  refine y_if_lt (tgt := 9) C0 dX11_image_1 (by decide) (fun c_1 => ?_) (fun c_1 => ?_)
  · -- 1
    refine y_c2 (n := (-2)) C0 (by decide) dX11_image_9 (fun v_2 e_3 => ?_)
    rw [hQ]
    exact y_iret C0 h Fr.rf ⟨(o28_34 e_3), (o28_162 e_3), (o28_204 c_1 e_3), hR, hH, ImC.no (by omega) (fun _ => rfl)⟩ dX11_image_11
  · -- 1
    refine lv_iload_n C0.1 C0.2.1 dX11_image_4 rfl (lv_at hl 1 rfl) ?_
    refine y_c1 (n := 2) C0 (by decide) dX11_image_5 (fun v_4 e_5 => ?_)
    refine y_icmp_lt (tgt := 12) C0 dX11_image_6 (by decide) (fun c_6 => ?_) (fun c_6 => ?_)
    · -- 6
      refine lv_aload_n C0.1 C0.2.1 dX11_image_12 rfl (lv_at hl 0 rfl) ?_
      refine tg_X11_images C0 h kSC_0 q_525 dX11_image_13 ?_
      refine lv_iload_n C0.1 C0.2.1 dX11_image_16 rfl (lv_at hl 1 rfl) ?_
      refine y_aald C0 h kSC_116 rfl rfl (by decide) (o28_205 c_1 e_5 c_6) (o28_206 c_1 e_5 c_6) dX11_image_17 ?_
      obtain ⟨i_7, hi_7, ei_7⟩ : ∃ j : Nat, Kd SC j 1 ∧ j = 39 + 19 * a1.toInt.toNat := ⟨_, aSC_45 (o28_207 c_1 e_5 c_6), rfl⟩
      rw [← ei_7]
      refine lv_aload_n C0.1 C0.2.1 dX11_image_18 rfl (lv_at hl 0 rfl) ?_
      refine tg_X11_now C0 h kSC_0 q_515 dX11_image_19 ?_
      refine y_cv h (y_rV (As := [.ref (ad 1)]) (rest := []) C0 hZ h (c_X0_copy l G Z ad _ h.2 i_7 hi_7 1 kSC_1 hR) k_X0_copy q_857 q_858 q_856 hi_7 rfl rfl rfl hl.1 rfl rfl (Nat.le_of_ble_eq_true rfl) dX11_image_22 ⟨Nat.le_of_ble_eq_true rfl, Nat.le_of_ble_eq_true rfl⟩ ⟨Nat.le_of_ble_eq_true rfl, Nat.le_of_ble_eq_true rfl⟩) (fun H locs ws_8 h u_9 p_10 => ?_)
      have e_11 := p_10
      refine lv_aload_n C0.1 C0.2.1 dX11_image_25 rfl (lv_at hl 0 rfl) ?_
      refine tg_X11_imageMade C0 h kSC_0 q_526 dX11_image_26 ?_
      refine lv_iload_n C0.1 C0.2.1 dX11_image_29 rfl (lv_at hl 1 rfl) ?_
      refine y_c1 (n := 1) C0 (by decide) dX11_image_30 (fun v_12 e_13 => ?_)
      refine y_zast C0 h kSC_117 rfl (by decide) (o28_205 c_1 e_5 c_6) (o28_206 c_1 e_5 c_6) (o28_208 e_13) (o28_209 e_13) (o28_208 e_13) (o28_209 e_13) dX11_image_31 (fun H locs ws_14 h u_15 => ?_)
      refine y_c1 (n := 0) C0 (by decide) dX11_image_32 (fun v_16 e_17 => ?_)
      rw [hQ]
      exact y_iret C0 h (Fr.tr (Fr.mono u_9 (by decide)) (Fr.up u_15.1 kSC_117 (by decide))) ⟨(o28_210 e_17), (o28_48 e_17), (o28_211 c_1 e_5 c_6 e_17), (Rel.fr (M := [46]) e_11 (Fr.up u_15.1 kSC_117 (by decide)) (by decide) (by decide)), (Hok.fr (M := [1, 2, 3, 6, 7, 8, 9, 10, 11, 12, 13, 14, 15, 46]) hH (Fr.tr (Fr.mono u_9 (by decide)) (Fr.up u_15.1 kSC_117 (by decide))) (by decide)), ImC.ok u_15 e_13 (fun _ => u_9.aI kSC_117 (by decide)) (by omega) (by omega) e_17⟩ dX11_image_33
    · -- 6
      refine y_c2 (n := (-2)) C0 (by decide) dX11_image_9 (fun v_18 e_19 => ?_)
      rw [hQ]
      exact y_iret C0 h Fr.rf ⟨(o28_34 e_19), (o28_162 e_19), (o28_212 c_1 e_5 c_6 e_19), hR, hH, ImC.no (by omega) (fun _ => rfl)⟩ dX11_image_11
set_option maxHeartbeats 4000000 in
set_option maxRecDepth 100000 in
theorem c_X11_restoreR (l : Launch) (G : GG) (Z : RZ) (ad : Nat → Nat) (ws0 : va_W) (hT : Ty G SC ad ws0) (a1 : Int32) (hR : Rel ws0) (hH : Hok ws0) : Mq l yX11_restore cX11_restore 2 (some .int) 3 G Z [.ref (ad 0), .int a1] ws0 (PI G SC ad [0, 1, 2, 3, 6, 7, 8, 9, 10, 11, 12, 13, 14, 15, 18, 39] ws0 (fun r u => ((-5) ≤ r.toInt) ∧ (r.toInt ≤ 0) ∧ (Rel u) ∧ (Hok u) ∧ (RsC 117 ws0 a1 r))) := by
  refine Mq.start (by decide) (Nat.le_of_ble_eq_true rfl) ?_
  intro p e s m below meth c A ls C0 hZ h hl
  have hl : lv_has ls 2 [(0, .ref (ad 0)), (1, .int a1)] := hl
  have h : Wt G SC ad A s s.heap [] ws0 := ⟨h, hT⟩
  obtain ⟨args, hargs⟩ : ∃ z, z = ([.ref (ad 0), .int a1] : List Value).toArray := ⟨_, rfl⟩
  rw [← hargs] at C0 ⊢
  have C0 : Cx p s m args meth c RX11 cX11_restore 2 (some .int) := C0
  obtain ⟨Q, hQ⟩ : ∃ z, z = MQ below ((PI G SC ad [0, 1, 2, 3, 6, 7, 8, 9, 10, 11, 12, 13, 14, 15, 18, 39] ws0 (fun r u => ((-5) ≤ r.toInt) ∧ (r.toInt ≤ 0) ∧ (Rel u) ∧ (Hok u) ∧ (RsC 117 ws0 a1 r))) A) args s 0 0 A := ⟨_, rfl⟩
  rw [← hQ]
  refine lv_iload_n C0.1 C0.2.1 dX11_restore_0 rfl (lv_at hl 1 rfl) ?_
  refine y_if_lt (tgt := 9) C0 dX11_restore_1 (by decide) (fun c_1 => ?_) (fun c_1 => ?_)
  · -- 1
    refine y_c2 (n := (-2)) C0 (by decide) dX11_restore_9 (fun v_2 e_3 => ?_)
    rw [hQ]
    exact y_iret C0 h Fr.rf ⟨(o28_213 e_3), (o28_162 e_3), hR, hH, RsC.no (by omega) e_3⟩ dX11_restore_11
  · -- 1
    refine lv_iload_n C0.1 C0.2.1 dX11_restore_4 rfl (lv_at hl 1 rfl) ?_
    refine y_c1 (n := 2) C0 (by decide) dX11_restore_5 (fun v_4 e_5 => ?_)
    refine y_icmp_lt (tgt := 12) C0 dX11_restore_6 (by decide) (fun c_6 => ?_) (fun c_6 => ?_)
    · -- 6
      refine lv_aload_n C0.1 C0.2.1 dX11_restore_12 rfl (lv_at hl 0 rfl) ?_
      refine tg_X11_imageMade C0 h kSC_0 q_526 dX11_restore_13 ?_
      refine lv_iload_n C0.1 C0.2.1 dX11_restore_16 rfl (lv_at hl 1 rfl) ?_
      refine y_zald C0 h kSC_117 rfl (by decide) (o28_205 c_1 e_5 c_6) (o28_206 c_1 e_5 c_6) dX11_restore_17 (fun v_7 e_8 e_9 e_10 => ?_)
      refine y_if_ne (tgt := 24) C0 dX11_restore_18 (by decide) (fun c_11 => ?_) (fun c_11 => ?_)
      · -- 18
        refine lv_aload_n C0.1 C0.2.1 dX11_restore_24 rfl (lv_at hl 0 rfl) ?_
        refine tg_X11_now C0 h kSC_0 q_515 dX11_restore_25 ?_
        refine lv_aload_n C0.1 C0.2.1 dX11_restore_28 rfl (lv_at hl 0 rfl) ?_
        refine tg_X11_images C0 h kSC_0 q_525 dX11_restore_29 ?_
        refine lv_iload_n C0.1 C0.2.1 dX11_restore_32 rfl (lv_at hl 1 rfl) ?_
        refine y_aald C0 h kSC_116 rfl rfl (by decide) (o28_205 c_1 e_5 c_6) (o28_206 c_1 e_5 c_6) dX11_restore_33 ?_
        obtain ⟨i_12, hi_12, ei_12⟩ : ∃ j : Nat, Kd SC j 1 ∧ j = 39 + 19 * a1.toInt.toNat := ⟨_, aSC_45 (o28_207 c_1 e_5 c_6), rfl⟩
        rw [← ei_12]
        refine y_cv h (y_rV (As := [.ref (ad i_12)]) (rest := []) C0 hZ h (c_X0_copy l G Z ad _ h.2 1 kSC_1 i_12 hi_12 hR) k_X0_copy q_857 q_858 q_856 kSC_1 rfl rfl rfl hl.1 rfl rfl (Nat.le_of_ble_eq_true rfl) dX11_restore_34 ⟨Nat.le_of_ble_eq_true rfl, Nat.le_of_ble_eq_true rfl⟩ ⟨Nat.le_of_ble_eq_true rfl, Nat.le_of_ble_eq_true rfl⟩) (fun H locs ws_13 h u_14 p_15 => ?_)
        have e_16 := p_15
        refine lv_aload_n C0.1 C0.2.1 dX11_restore_37 rfl (lv_at hl 0 rfl) ?_
        refine y_cv h (y_rV (As := []) (rest := []) C0 hZ h (c_X11_startAnew l G Z ad _ h.2 (Hok.fr (M := [1, 2, 3, 6, 7, 8, 9, 10, 11, 12, 13, 14, 15]) hH u_14 (by decide))) k_X11_startAnew q_875 q_22 q_873 kSC_0 rfl rfl rfl hl.1 rfl rfl (Nat.le_of_ble_eq_true rfl) dX11_restore_38 ⟨Nat.le_of_ble_eq_true rfl, Nat.le_of_ble_eq_true rfl⟩ ⟨Nat.le_of_ble_eq_true rfl, Nat.le_of_ble_eq_true rfl⟩) (fun H locs ws_17 h u_18 p_19 => ?_)
        have e_20 := p_19
        refine y_c1 (n := 0) C0 (by decide) dX11_restore_41 (fun v_21 e_22 => ?_)
        rw [hQ]
        exact y_iret C0 h (Fr.tr (Fr.mono u_14 (by decide)) (Fr.mono u_18 (by decide))) ⟨(o28_214 e_22), (o28_48 e_22), (Rel.fr (M := [0, 18, 39]) e_16 u_18 (by decide) (by decide)), e_20, RsC.ok e_8 (fun _ => rfl) (by omega) (by omega) c_11 e_22⟩ dX11_restore_42
      · -- 18
        refine y_c2 (n := (-5)) C0 (by decide) dX11_restore_21 (fun v_23 e_24 => ?_)
        rw [hQ]
        exact y_iret C0 h Fr.rf ⟨(o28_215 e_24), (o28_216 e_24), hR, hH, RsC.un e_8 (fun _ => rfl) (by omega) (by omega) (by omega) e_24⟩ dX11_restore_23
    · -- 6
      refine y_c2 (n := (-2)) C0 (by decide) dX11_restore_9 (fun v_25 e_26 => ?_)
      rw [hQ]
      exact y_iret C0 h Fr.rf ⟨(o28_213 e_26), (o28_162 e_26), hR, hH, RsC.no (by omega) e_26⟩ dX11_restore_11
set_option maxHeartbeats 4000000 in
set_option maxRecDepth 100000 in
theorem c_X12_imageR (l : Launch) (G : GG) (Z : RZ) (ad : Nat → Nat) (ws0 : va_W) (hT : Ty G SM ad ws0) (a1 : Int32) (hJ : J ws0) : Mq l yX12_image cX12_image 3 (some .int) 2 G Z [.ref (ad 0), .int a1] ws0 (PI G SM ad [0, 1, 2] ws0 (fun r u => ((-2) ≤ r.toInt) ∧ (r.toInt ≤ 0) ∧ (((r.toInt = -2 ∧ (a1.toInt < 0 ∨ 1 < a1.toInt)) ∨ (r.toInt = 0 ∧ 0 ≤ a1.toInt ∧ a1.toInt ≤ 1))) ∧ (J u) ∧ (ImC 2 ws0 u a1 r))) := by
  refine Mq.start (by decide) (Nat.le_of_ble_eq_true rfl) ?_
  intro p e s m below meth c A ls C0 hZ h hl
  have hl : lv_has ls 3 [(0, .ref (ad 0)), (1, .int a1)] := hl
  have h : Wt G SM ad A s s.heap [] ws0 := ⟨h, hT⟩
  obtain ⟨args, hargs⟩ : ∃ z, z = ([.ref (ad 0), .int a1] : List Value).toArray := ⟨_, rfl⟩
  rw [← hargs] at C0 ⊢
  have C0 : Cx p s m args meth c RX12 cX12_image 3 (some .int) := C0
  obtain ⟨Q, hQ⟩ : ∃ z, z = MQ below ((PI G SM ad [0, 1, 2] ws0 (fun r u => ((-2) ≤ r.toInt) ∧ (r.toInt ≤ 0) ∧ (((r.toInt = -2 ∧ (a1.toInt < 0 ∨ 1 < a1.toInt)) ∨ (r.toInt = 0 ∧ 0 ≤ a1.toInt ∧ a1.toInt ≤ 1))) ∧ (J u) ∧ (ImC 2 ws0 u a1 r))) A) args s 0 0 A := ⟨_, rfl⟩
  rw [← hQ]
  refine lv_aload_n C0.1 C0.2.1 dX12_image_0 rfl (lv_at hl 0 rfl) ?_
  refine y_c1 (n := 0) C0 (by decide) dX12_image_1 (fun v_1 e_2 => ?_)
  refine np_X12_thrown C0 h kSM_0 q_1438 (le_min v_1) (le_max v_1) dX12_image_2 (fun H locs ws_3 h u_4 => ?_)
  refine lv_iload_n C0.1 C0.2.1 dX12_image_5 rfl (lv_at hl 1 rfl) ?_
  refine y_i2l C0 dX12_image_6 (fun w_5 e_6 => ?_)
  refine y_lc (v := 0) C0 (by decide) dX12_image_7 (fun w_7 e_8 => ?_)
  refine y_lc (v := 1) C0 (by decide) dX12_image_8 (fun w_9 e_10 => ?_)
  refine y_ci h (y_rS (As := [.long w_5, .long w_7, .long w_9]) (rest := []) C0 hZ h (c_X12_within l G Z ad _ h.2 w_5 w_7 w_9) k_X12_within q_1580 q_1579 hl.1 rfl rfl (Nat.le_of_ble_eq_true rfl) dX12_image_9 ⟨Nat.le_of_ble_eq_true rfl, Nat.le_of_ble_eq_true rfl⟩ ⟨Nat.le_of_ble_eq_true rfl, Nat.le_of_ble_eq_true rfl⟩) (fun r_14 H locs ws_11 h u_12 p_13 => ?_)
  obtain ⟨e_15, e_16, e_17⟩ := p_13
  refine y_if_ne (tgt := 18) C0 dX12_image_12 (by decide) (fun c_18 => ?_) (fun c_18 => ?_)
  · -- 12
    refine y_c1 (n := 0) C0 (by decide) dX12_image_18 (fun v_19 e_20 => ?_)
    refine lv_istore_n (lv' := [(2, .int v_19), (0, .ref (ad 0)), (1, .int a1)]) C0.1 C0.2.1 dX12_image_19 rfl hl (by decide) rfl (fun ls hl => ?_)
    have lp_24 : ∀ (n_26 : Nat) (x2_21 : Int32) (H : Heap) (locs : List Loc) (ls : Array Slot) (ws_22 : va_W), 1774 - x2_21.toInt < (n_26 : Int) → 0 ≤ x2_21.toInt → x2_21.toInt ≤ 1774 → (CpR ws0 ws_22 (1774 * (a1.toInt.toNat + 1)) 0 x2_21.toInt.toNat) → Wt G SM ad A s H locs ws_22 → Fr SM [1] ws_11 ws_22 → lv_has ls 3 [(2, .int x2_21), (0, .ref (ad 0)), (1, .int a1)] → W p l e (rmd 2 0 0) s m args below meth c H locs 0 0 Q (F0 m 20 ls []) := by
      intro n_26
      induction n_26 with
      | zero => intro x2_21 H locs ls ws_22 hn_27 b_28 b_29 hCp h hF_23 hl; exact ((o39_1 b_28 b_29 hn_27)).elim
      | succ n_26 ih_25 =>
        intro x2_21 H locs ls ws_22 hn_27 b_28 b_29 hCp h hF_23 hl
        refine lv_iload_n C0.1 C0.2.1 dX12_image_20 rfl (lv_at hl 0 rfl) ?_
        refine y_c3 (n := 1774) C0 (by decide) dX12_image_21 (fun v_30 e_31 => ?_)
        refine y_icmp_ge (tgt := 53) C0 dX12_image_24 (by decide) (fun c_32 => ?_) (fun c_32 => ?_)
        · -- 24
          have hJ_33 : J ws_22 := J_cp hT hJ (cp_e (M := []) hCp (o39_2 b_28 b_29 hn_27 e_31 c_32) Fr.rf (by decide)) (by omega) (by omega)
          have hT_34 := h.2
          refine lv_aload_n C0.1 C0.2.1 dX12_image_53 rfl (lv_at hl 1 rfl) ?_
          refine ng_X12_hasImage C0 h kSM_0 q_1440 dX12_image_54 ?_
          refine lv_iload_n C0.1 C0.2.1 dX12_image_57 rfl (lv_at hl 2 rfl) ?_
          refine y_c1 (n := 1) C0 (by decide) dX12_image_58 (fun v_35 e_36 => ?_)
          refine y_zast C0 h kSM_2 rfl (by decide) (o39_3 e_6 e_8 e_10 e_15 e_16 e_17 c_18) (o39_4 e_6 e_8 e_10 e_15 e_16 e_17 c_18) (o39_5 e_36) (o39_6 e_36) (o39_5 e_36) (o39_6 e_36) dX12_image_59 (fun H locs ws_37 h u_38 => ?_)
          refine y_c1 (n := 0) C0 (by decide) dX12_image_60 (fun v_39 e_40 => ?_)
          rw [hQ]
          exact y_iret C0 h (Fr.tr (Fr.tr (Fr.tr (Fr.up u_4.1 kSM_0 (by decide)) (Fr.mono u_12 (by decide))) (Fr.mono hF_23 (by decide))) (Fr.up u_38.1 kSM_2 (by decide))) ⟨(o39_7 e_40), (o39_8 e_40), (o39_9 e_6 e_8 e_10 e_15 e_16 e_17 c_18 e_40), (J.pa hT_34 hJ_33 (Pa.ud u_38.1 (by decide))), ImC.ok u_38 e_36 (fun _ => (Fr.tr (Fr.tr (Fr.up u_4.1 kSM_0 (by decide)) (Fr.mono u_12 (by decide))) (Fr.mono hF_23 (by decide)) : Fr SM [0, 1] ws0 _).aI kSM_2 (by decide)) (by omega) (by omega) e_40⟩ dX12_image_61
        · -- 24
          refine lv_aload_n C0.1 C0.2.1 dX12_image_27 rfl (lv_at hl 1 rfl) ?_
          refine ng_X12_all C0 h kSM_0 q_1439 dX12_image_28 ?_
          refine y_c3 (n := 1774) C0 (by decide) dX12_image_31 (fun v_41 e_42 => ?_)
          refine lv_iload_n C0.1 C0.2.1 dX12_image_34 rfl (lv_at hl 2 rfl) ?_
          refine y_c1 (n := 1) C0 (by decide) dX12_image_35 (fun v_43 e_44 => ?_)
          refine y_add C0 (o39_10 e_6 e_8 e_10 e_15 e_16 e_17 c_18 e_44 (le_min a1) (le_max a1) (le_min v_43) (le_max v_43) (le_min r_14) (le_max r_14)) (o39_11 e_6 e_8 e_10 e_15 e_16 e_17 c_18 e_44 (le_min a1) (le_max a1) (le_min v_43) (le_max v_43) (le_min r_14) (le_max r_14)) dX12_image_36 (fun v_45 e_46 => ?_)
          refine y_cmul (n := 1774) C0 (o39_12 e_42) (o39_13 e_6 e_8 e_10 e_15 e_16 e_17 c_18 e_44 e_46 (le_min v_45) (le_max v_45) (le_min a1) (le_max a1) (le_min r_14) (le_max r_14) (le_min v_43) (le_max v_43)) (o39_14 e_6 e_8 e_10 e_15 e_16 e_17 c_18 e_44 e_46 (le_min v_45) (le_max v_45) (le_min a1) (le_max a1) (le_min r_14) (le_max r_14) (le_min v_43) (le_max v_43)) dX12_image_37 (fun v_47 e_48 => ?_)
          refine lv_iload_n C0.1 C0.2.1 dX12_image_38 rfl (lv_at hl 0 rfl) ?_
          refine y_add C0 (o39_15 e_6 e_8 e_10 e_15 e_16 e_17 c_18 b_28 b_29 hn_27 e_31 c_32 e_44 e_46 e_48 (le_min v_47) (le_max v_47) (le_min x2_21) (le_max x2_21) (le_min a1) (le_max a1) (le_min r_14) (le_max r_14) (le_min v_30) (le_max v_30) (le_min v_43) (le_max v_43) (le_min v_45) (le_max v_45)) (o39_16 e_6 e_8 e_10 e_15 e_16 e_17 c_18 b_28 b_29 hn_27 e_31 c_32 e_44 e_46 e_48 (le_min v_47) (le_max v_47) (le_min x2_21) (le_max x2_21) (le_min a1) (le_max a1) (le_min r_14) (le_max r_14) (le_min v_30) (le_max v_30) (le_min v_43) (le_max v_43) (le_min v_45) (le_max v_45)) dX12_image_39 (fun v_49 e_50 => ?_)
          refine lv_aload_n C0.1 C0.2.1 dX12_image_40 rfl (lv_at hl 1 rfl) ?_
          refine ng_X12_all C0 h kSM_0 q_1439 dX12_image_41 ?_
          refine lv_iload_n C0.1 C0.2.1 dX12_image_44 rfl (lv_at hl 0 rfl) ?_
          refine y_iald C0 h kSM_1 rfl (by decide) (o39_17 e_6 e_8 e_10 e_15 e_16 e_17 c_18 b_28 b_29 hn_27 e_31 c_32 e_44 e_46 e_48 e_50) (o39_18 e_6 e_8 e_10 e_15 e_16 e_17 c_18 b_28 b_29 hn_27 e_31 c_32 e_44 e_46 e_48 e_50) dX12_image_45 (fun v_51 e_52 e_53 e_54 => ?_)
          refine y_iast C0 h kSM_1 rfl (by decide) (o39_19 e_6 e_8 e_10 e_15 e_16 e_17 c_18 b_28 b_29 hn_27 e_31 c_32 e_44 e_46 e_48 e_50) (o39_20 e_6 e_8 e_10 e_15 e_16 e_17 c_18 b_28 b_29 hn_27 e_31 c_32 e_44 e_46 e_48 e_50) (el_lo (ec_im (o39_21 e_6 e_8 e_10 e_15 e_16 e_17 c_18 b_28 b_29 hn_27 e_31 c_32 e_44 e_46 e_48 e_50)) e_53) (el_hi (ec_im (o39_21 e_6 e_8 e_10 e_15 e_16 e_17 c_18 b_28 b_29 hn_27 e_31 c_32 e_44 e_46 e_48 e_50)) e_54) dX12_image_46 (fun H locs ws_55 h u_56 => ?_)
          refine y_inc (kp := 0) (n := 1) (fun v_57 => [(2, .int v_57), (0, .ref (ad 0)), (1, .int a1)]) C0 hl rfl (by decide) (by decide) (fun _ => rfl) (o39_22 e_6 e_8 e_10 e_15 e_16 e_17 c_18 b_28 b_29 hn_27 e_31 c_32 e_44 e_46 e_48 e_50 (le_min x2_21) (le_max x2_21) (le_min a1) (le_max a1) (le_min r_14) (le_max r_14) (le_min v_30) (le_max v_30) (le_min v_43) (le_max v_43) (le_min v_45) (le_max v_45) (le_min v_47) (le_max v_47) (le_min v_49) (le_max v_49)) (o39_23 e_6 e_8 e_10 e_15 e_16 e_17 c_18 b_28 b_29 hn_27 e_31 c_32 e_44 e_46 e_48 e_50 (le_min x2_21) (le_max x2_21) (le_min a1) (le_max a1) (le_min r_14) (le_max r_14) (le_min v_30) (le_max v_30) (le_min v_43) (le_max v_43) (le_min v_45) (le_max v_45) (le_min v_47) (le_max v_47) (le_min v_49) (le_max v_49)) dX12_image_47 (fun v_57 ls e_58 hl => ?_)
          refine lv_goto (tgt := 20) C0.1 C0.2.1 dX12_image_50 (by decide) ?_
          exact ih_25 v_57 _ _ _ _ (o39_24 e_6 e_8 e_10 e_15 e_16 e_17 c_18 b_28 b_29 hn_27 e_31 c_32 e_44 e_46 e_48 e_50 e_58) (o39_25 e_6 e_8 e_10 e_15 e_16 e_17 c_18 b_28 b_29 hn_27 e_31 c_32 e_44 e_46 e_48 e_50 e_58) (o39_26 e_6 e_8 e_10 e_15 e_16 e_17 c_18 b_28 b_29 hn_27 e_31 c_32 e_44 e_46 e_48 e_50 e_58) ((cp_s hCp u_56 (o39_27 e_6 e_8 e_10 e_15 e_16 e_17 c_18 b_28 b_29 hn_27 e_31 c_32 e_44 e_46 e_48 e_50 e_58) e_52 (o39_28 e_6 e_8 e_10 e_15 e_16 e_17 c_18 b_28 b_29 hn_27 e_31 c_32 e_44 e_46 e_48 e_50 e_58) (by omega) (o39_29 e_6 e_8 e_10 e_15 e_16 e_17 c_18 b_28 b_29 hn_27 e_31 c_32 e_44 e_46 e_48 e_50 e_58) (o39_30 e_6 e_8 e_10 e_15 e_16 e_17 c_18 b_28 b_29 hn_27 e_31 c_32 e_44 e_46 e_48 e_50 e_58) e_58)) h (Fr.tr hF_23 (Fr.up u_56.1 kSM_1 (by decide))) (lv_sub hl [0, 1, 2] rfl)
    exact lp_24 ((1774 - v_19.toInt + 1).toNat) v_19 _ _ _ _ (o39_31 e_20) (o39_32 e_20) (o39_33 e_20) ((cp_0 (M := [0]) e_20 (Fr.tr (Fr.up u_4.1 kSM_0 (by decide)) (Fr.mono u_12 (by decide))) (by decide))) h Fr.rf (lv_sub hl [0, 1, 2] rfl)
  · -- 12
    refine y_c2 (n := (-2)) C0 (by decide) dX12_image_15 (fun v_59 e_60 => ?_)
    rw [hQ]
    exact y_iret C0 h (Fr.tr (Fr.up u_4.1 kSM_0 (by decide)) (Fr.mono u_12 (by decide))) ⟨(o39_34 e_60), (o39_35 e_60), (o39_36 e_6 e_8 e_10 e_15 e_16 e_17 c_18 e_60), (J.pa hT hJ (Pa.fr (M := [0]) (Fr.tr (Fr.up u_4.1 kSM_0 (by decide)) (Fr.mono u_12 (by decide))) (by decide))), ImC.no (by omega) (fun _ => (Fr.tr (Fr.up u_4.1 kSM_0 (by decide)) (Fr.mono u_12 (by decide)) : Fr SM [0] ws0 _).aI kSM_2 (by decide))⟩ dX12_image_17
set_option maxHeartbeats 4000000 in
set_option maxRecDepth 100000 in
theorem c_X12_restoreR (l : Launch) (G : GG) (Z : RZ) (ad : Nat → Nat) (ws0 : va_W) (hT : Ty G SM ad ws0) (a1 : Int32) (hJ : J ws0) : Mq l yX12_restore cX12_restore 3 (some .int) 2 G Z [.ref (ad 0), .int a1] ws0 (PI G SM ad [0, 1] ws0 (fun r u => ((-5) ≤ r.toInt) ∧ (r.toInt ≤ 0) ∧ (J u) ∧ (RsC 2 ws0 a1 r))) := by
  refine Mq.start (by decide) (Nat.le_of_ble_eq_true rfl) ?_
  intro p e s m below meth c A ls C0 hZ h hl
  have hl : lv_has ls 3 [(0, .ref (ad 0)), (1, .int a1)] := hl
  have h : Wt G SM ad A s s.heap [] ws0 := ⟨h, hT⟩
  obtain ⟨args, hargs⟩ : ∃ z, z = ([.ref (ad 0), .int a1] : List Value).toArray := ⟨_, rfl⟩
  rw [← hargs] at C0 ⊢
  have C0 : Cx p s m args meth c RX12 cX12_restore 3 (some .int) := C0
  obtain ⟨Q, hQ⟩ : ∃ z, z = MQ below ((PI G SM ad [0, 1] ws0 (fun r u => ((-5) ≤ r.toInt) ∧ (r.toInt ≤ 0) ∧ (J u) ∧ (RsC 2 ws0 a1 r))) A) args s 0 0 A := ⟨_, rfl⟩
  rw [← hQ]
  refine lv_aload_n C0.1 C0.2.1 dX12_restore_0 rfl (lv_at hl 0 rfl) ?_
  refine y_c1 (n := 0) C0 (by decide) dX12_restore_1 (fun v_1 e_2 => ?_)
  refine np_X12_thrown C0 h kSM_0 q_1438 (le_min v_1) (le_max v_1) dX12_restore_2 (fun H locs ws_3 h u_4 => ?_)
  refine lv_iload_n C0.1 C0.2.1 dX12_restore_5 rfl (lv_at hl 1 rfl) ?_
  refine y_i2l C0 dX12_restore_6 (fun w_5 e_6 => ?_)
  refine y_lc (v := 0) C0 (by decide) dX12_restore_7 (fun w_7 e_8 => ?_)
  refine y_lc (v := 1) C0 (by decide) dX12_restore_8 (fun w_9 e_10 => ?_)
  refine y_ci h (y_rS (As := [.long w_5, .long w_7, .long w_9]) (rest := []) C0 hZ h (c_X12_within l G Z ad _ h.2 w_5 w_7 w_9) k_X12_within q_1580 q_1579 hl.1 rfl rfl (Nat.le_of_ble_eq_true rfl) dX12_restore_9 ⟨Nat.le_of_ble_eq_true rfl, Nat.le_of_ble_eq_true rfl⟩ ⟨Nat.le_of_ble_eq_true rfl, Nat.le_of_ble_eq_true rfl⟩) (fun r_14 H locs ws_11 h u_12 p_13 => ?_)
  obtain ⟨e_15, e_16, e_17⟩ := p_13
  refine y_if_ne (tgt := 18) C0 dX12_restore_12 (by decide) (fun c_18 => ?_) (fun c_18 => ?_)
  · -- 12
    refine lv_aload_n C0.1 C0.2.1 dX12_restore_18 rfl (lv_at hl 0 rfl) ?_
    refine ng_X12_hasImage C0 h kSM_0 q_1440 dX12_restore_19 ?_
    refine lv_iload_n C0.1 C0.2.1 dX12_restore_22 rfl (lv_at hl 1 rfl) ?_
    refine y_zald C0 h kSM_2 rfl (by decide) (o39_3 e_6 e_8 e_10 e_15 e_16 e_17 c_18) (o39_4 e_6 e_8 e_10 e_15 e_16 e_17 c_18) dX12_restore_23 (fun v_19 e_20 e_21 e_22 => ?_)
    refine y_if_ne (tgt := 30) C0 dX12_restore_24 (by decide) (fun c_23 => ?_) (fun c_23 => ?_)
    · -- 24
      refine y_c1 (n := 0) C0 (by decide) dX12_restore_30 (fun v_24 e_25 => ?_)
      refine lv_istore_n (lv' := [(2, .int v_24), (0, .ref (ad 0)), (1, .int a1)]) C0.1 C0.2.1 dX12_restore_31 rfl hl (by decide) rfl (fun ls hl => ?_)
      have lp_29 : ∀ (n_31 : Nat) (x2_26 : Int32) (H : Heap) (locs : List Loc) (ls : Array Slot) (ws_27 : va_W), 1774 - x2_26.toInt < (n_31 : Int) → 0 ≤ x2_26.toInt → x2_26.toInt ≤ 1774 → (CpR ws0 ws_27 0 (1774 * (a1.toInt.toNat + 1)) x2_26.toInt.toNat) → Wt G SM ad A s H locs ws_27 → Fr SM [1] ws_11 ws_27 → lv_has ls 3 [(2, .int x2_26), (0, .ref (ad 0)), (1, .int a1)] → W p l e (rmd 2 0 0) s m args below meth c H locs 0 0 Q (F0 m 32 ls []) := by
        intro n_31
        induction n_31 with
        | zero => intro x2_26 H locs ls ws_27 hn_32 b_33 b_34 hCp h hF_28 hl; exact ((o39_1 b_33 b_34 hn_32)).elim
        | succ n_31 ih_30 =>
          intro x2_26 H locs ls ws_27 hn_32 b_33 b_34 hCp h hF_28 hl
          refine lv_iload_n C0.1 C0.2.1 dX12_restore_32 rfl (lv_at hl 0 rfl) ?_
          refine y_c3 (n := 1774) C0 (by decide) dX12_restore_33 (fun v_35 e_36 => ?_)
          refine y_icmp_ge (tgt := 65) C0 dX12_restore_36 (by decide) (fun c_37 => ?_) (fun c_37 => ?_)
          · -- 36
            have hJ_38 : J ws_27 := J_cp hT hJ (cp_e (M := []) hCp (o39_2 b_33 b_34 hn_32 e_36 c_37) Fr.rf (by decide)) (by omega) (by omega)
            have hT_39 := h.2
            refine lv_aload_n C0.1 C0.2.1 dX12_restore_65 rfl (lv_at hl 1 rfl) ?_
            refine ng_X12_all C0 h kSM_0 q_1439 dX12_restore_66 ?_
            refine y_c2 (n := 112) C0 (by decide) dX12_restore_69 (fun v_40 e_41 => ?_)
            refine y_c1 (n := 0) C0 (by decide) dX12_restore_71 (fun v_42 e_43 => ?_)
            have f_46 := o39_39 v_40.toInt.toNat (o39_40 e_41) (o39_41 e_41)
            refine y_iast C0 h kSM_1 rfl (by decide) (o39_37 e_41) (o39_38 e_41) (Int.le_trans f_46.1 (o39_32 e_43)) (Int.le_trans (o39_42 e_43) f_46.2) dX12_restore_72 (fun H locs ws_44 h u_45 => ?_)
            have e_47 : aI ws_44 1 112 = v_42 := (congrArg (aI ws_44 1) (ix_c (c := 112) (o39_43 e_41))).symm.trans u_45.2.1
            refine y_c1 (n := 0) C0 (by decide) dX12_restore_73 (fun v_48 e_49 => ?_)
            rw [hQ]
            exact y_iret C0 h (Fr.tr (Fr.tr (Fr.tr (Fr.up u_4.1 kSM_0 (by decide)) (Fr.mono u_12 (by decide))) (Fr.mono hF_28 (by decide))) (Fr.up u_45.1 kSM_1 (by decide))) ⟨(o39_44 e_49), (o39_8 e_49), (J.pa hT_39 hJ_38 (Pa.st u_45 (o39_45 e_41) (o39_46 e_41))), RsC.ok e_20 (fun _ => (Fr.tr (Fr.up u_4.1 kSM_0 (by decide)) (Fr.mono u_12 (by decide)) : Fr SM [0] ws0 _).aI kSM_2 (by decide)) (by omega) (by omega) c_23 e_49⟩ dX12_restore_74
          · -- 36
            refine lv_aload_n C0.1 C0.2.1 dX12_restore_39 rfl (lv_at hl 1 rfl) ?_
            refine ng_X12_all C0 h kSM_0 q_1439 dX12_restore_40 ?_
            refine lv_iload_n C0.1 C0.2.1 dX12_restore_43 rfl (lv_at hl 0 rfl) ?_
            refine lv_aload_n C0.1 C0.2.1 dX12_restore_44 rfl (lv_at hl 1 rfl) ?_
            refine ng_X12_all C0 h kSM_0 q_1439 dX12_restore_45 ?_
            refine y_c3 (n := 1774) C0 (by decide) dX12_restore_48 (fun v_50 e_51 => ?_)
            refine lv_iload_n C0.1 C0.2.1 dX12_restore_51 rfl (lv_at hl 2 rfl) ?_
            refine y_c1 (n := 1) C0 (by decide) dX12_restore_52 (fun v_52 e_53 => ?_)
            refine y_add C0 (o39_10 e_6 e_8 e_10 e_15 e_16 e_17 c_18 e_53 (le_min a1) (le_max a1) (le_min v_52) (le_max v_52) (le_min r_14) (le_max r_14)) (o39_11 e_6 e_8 e_10 e_15 e_16 e_17 c_18 e_53 (le_min a1) (le_max a1) (le_min v_52) (le_max v_52) (le_min r_14) (le_max r_14)) dX12_restore_53 (fun v_54 e_55 => ?_)
            refine y_cmul (n := 1774) C0 (o39_12 e_51) (o39_13 e_6 e_8 e_10 e_15 e_16 e_17 c_18 e_53 e_55 (le_min v_54) (le_max v_54) (le_min a1) (le_max a1) (le_min r_14) (le_max r_14) (le_min v_52) (le_max v_52)) (o39_14 e_6 e_8 e_10 e_15 e_16 e_17 c_18 e_53 e_55 (le_min v_54) (le_max v_54) (le_min a1) (le_max a1) (le_min r_14) (le_max r_14) (le_min v_52) (le_max v_52)) dX12_restore_54 (fun v_56 e_57 => ?_)
            refine lv_iload_n C0.1 C0.2.1 dX12_restore_55 rfl (lv_at hl 0 rfl) ?_
            refine y_add C0 (o39_15 e_6 e_8 e_10 e_15 e_16 e_17 c_18 b_33 b_34 hn_32 e_36 c_37 e_53 e_55 e_57 (le_min v_56) (le_max v_56) (le_min x2_26) (le_max x2_26) (le_min a1) (le_max a1) (le_min r_14) (le_max r_14) (le_min v_35) (le_max v_35) (le_min v_52) (le_max v_52) (le_min v_54) (le_max v_54)) (o39_16 e_6 e_8 e_10 e_15 e_16 e_17 c_18 b_33 b_34 hn_32 e_36 c_37 e_53 e_55 e_57 (le_min v_56) (le_max v_56) (le_min x2_26) (le_max x2_26) (le_min a1) (le_max a1) (le_min r_14) (le_max r_14) (le_min v_35) (le_max v_35) (le_min v_52) (le_max v_52) (le_min v_54) (le_max v_54)) dX12_restore_56 (fun v_58 e_59 => ?_)
            refine y_iald C0 h kSM_1 rfl (by decide) (o39_19 e_6 e_8 e_10 e_15 e_16 e_17 c_18 b_33 b_34 hn_32 e_36 c_37 e_53 e_55 e_57 e_59) (o39_20 e_6 e_8 e_10 e_15 e_16 e_17 c_18 b_33 b_34 hn_32 e_36 c_37 e_53 e_55 e_57 e_59) dX12_restore_57 (fun v_60 e_61 e_62 e_63 => ?_)
            refine y_iast C0 h kSM_1 rfl (by decide) (o39_17 e_6 e_8 e_10 e_15 e_16 e_17 c_18 b_33 b_34 hn_32 e_36 c_37 e_53 e_55 e_57 e_59) (o39_18 e_6 e_8 e_10 e_15 e_16 e_17 c_18 b_33 b_34 hn_32 e_36 c_37 e_53 e_55 e_57 e_59) (el_lo (ec_im (o39_47 e_6 e_8 e_10 e_15 e_16 e_17 c_18 b_33 b_34 hn_32 e_36 c_37 e_53 e_55 e_57 e_59)) e_62) (el_hi (ec_im (o39_47 e_6 e_8 e_10 e_15 e_16 e_17 c_18 b_33 b_34 hn_32 e_36 c_37 e_53 e_55 e_57 e_59)) e_63) dX12_restore_58 (fun H locs ws_64 h u_65 => ?_)
            refine y_inc (kp := 0) (n := 1) (fun v_66 => [(2, .int v_66), (0, .ref (ad 0)), (1, .int a1)]) C0 hl rfl (by decide) (by decide) (fun _ => rfl) (o39_22 e_6 e_8 e_10 e_15 e_16 e_17 c_18 b_33 b_34 hn_32 e_36 c_37 e_53 e_55 e_57 e_59 (le_min x2_26) (le_max x2_26) (le_min a1) (le_max a1) (le_min r_14) (le_max r_14) (le_min v_35) (le_max v_35) (le_min v_52) (le_max v_52) (le_min v_54) (le_max v_54) (le_min v_56) (le_max v_56) (le_min v_58) (le_max v_58)) (o39_23 e_6 e_8 e_10 e_15 e_16 e_17 c_18 b_33 b_34 hn_32 e_36 c_37 e_53 e_55 e_57 e_59 (le_min x2_26) (le_max x2_26) (le_min a1) (le_max a1) (le_min r_14) (le_max r_14) (le_min v_35) (le_max v_35) (le_min v_52) (le_max v_52) (le_min v_54) (le_max v_54) (le_min v_56) (le_max v_56) (le_min v_58) (le_max v_58)) dX12_restore_59 (fun v_66 ls e_67 hl => ?_)
            refine lv_goto (tgt := 32) C0.1 C0.2.1 dX12_restore_62 (by decide) ?_
            exact ih_30 v_66 _ _ _ _ (o39_24 e_6 e_8 e_10 e_15 e_16 e_17 c_18 b_33 b_34 hn_32 e_36 c_37 e_53 e_55 e_57 e_59 e_67) (o39_25 e_6 e_8 e_10 e_15 e_16 e_17 c_18 b_33 b_34 hn_32 e_36 c_37 e_53 e_55 e_57 e_59 e_67) (o39_26 e_6 e_8 e_10 e_15 e_16 e_17 c_18 b_33 b_34 hn_32 e_36 c_37 e_53 e_55 e_57 e_59 e_67) ((cp_s hCp u_65 (o39_28 e_6 e_8 e_10 e_15 e_16 e_17 c_18 b_33 b_34 hn_32 e_36 c_37 e_53 e_55 e_57 e_59 e_67) e_61 (o39_27 e_6 e_8 e_10 e_15 e_16 e_17 c_18 b_33 b_34 hn_32 e_36 c_37 e_53 e_55 e_57 e_59 e_67) (by omega) (o39_29 e_6 e_8 e_10 e_15 e_16 e_17 c_18 b_33 b_34 hn_32 e_36 c_37 e_53 e_55 e_57 e_59 e_67) (o39_30 e_6 e_8 e_10 e_15 e_16 e_17 c_18 b_33 b_34 hn_32 e_36 c_37 e_53 e_55 e_57 e_59 e_67) e_67)) h (Fr.tr hF_28 (Fr.up u_65.1 kSM_1 (by decide))) (lv_sub hl [0, 1, 2] rfl)
      exact lp_29 ((1774 - v_24.toInt + 1).toNat) v_24 _ _ _ _ (o39_31 e_25) (o39_32 e_25) (o39_33 e_25) ((cp_0 (M := [0]) e_25 (Fr.tr (Fr.up u_4.1 kSM_0 (by decide)) (Fr.mono u_12 (by decide))) (by decide))) h Fr.rf (lv_sub hl [0, 1, 2] rfl)
    · -- 24
      refine y_c2 (n := (-5)) C0 (by decide) dX12_restore_27 (fun v_68 e_69 => ?_)
      rw [hQ]
      exact y_iret C0 h (Fr.tr (Fr.up u_4.1 kSM_0 (by decide)) (Fr.mono u_12 (by decide))) ⟨(o39_48 e_69), (o39_49 e_69), (J.pa hT hJ (Pa.fr (M := [0]) (Fr.tr (Fr.up u_4.1 kSM_0 (by decide)) (Fr.mono u_12 (by decide))) (by decide))), RsC.un e_20 (fun _ => (Fr.tr (Fr.up u_4.1 kSM_0 (by decide)) (Fr.mono u_12 (by decide)) : Fr SM [0] ws0 _).aI kSM_2 (by decide)) (by omega) (by omega) (by omega) e_69⟩ dX12_restore_29
  · -- 12
    refine y_c2 (n := (-2)) C0 (by decide) dX12_restore_15 (fun v_70 e_71 => ?_)
    rw [hQ]
    exact y_iret C0 h (Fr.tr (Fr.up u_4.1 kSM_0 (by decide)) (Fr.mono u_12 (by decide))) ⟨(o39_50 e_71), (o39_35 e_71), (J.pa hT hJ (Pa.fr (M := [0]) (Fr.tr (Fr.up u_4.1 kSM_0 (by decide)) (Fr.mono u_12 (by decide))) (by decide))), RsC.no (by omega) e_71⟩ dX12_restore_17

