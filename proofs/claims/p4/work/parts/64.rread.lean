variable {tt : QQ}
/-! the whole text -/
abbrev RS : Type := (Nat → Int) × Int × Int × Int × Int
def lpG {α : Type} (c : α → Prop) [DecidablePred c] (b : α → α) : Nat → α → α
  | 0, s => s
  | k + 1, s => if c s then lpG c b k (b s) else s
theorem lg_0 {α : Type} {c : α → Prop} [DecidablePred c] {b : α → α} {x : Int} {s : α} (h : 900 ≤ x) : lpG c b (900 - x).toNat s = s := by
  rw [show (900 - x).toNat = 0 by omega]; rfl
theorem lg_e {α : Type} {c : α → Prop} [DecidablePred c] {b : α → α} {x : Int} {s : α} (hc : ¬ c s) : lpG c b (900 - x).toNat s = s := by
  cases (900 - x).toNat with
  | zero => rfl
  | succ k => unfold lpG; rw [if_neg hc]
theorem lg_s {α : Type} {c : α → Prop} [DecidablePred c] {b : α → α} {x y : Int} {s t : α} (h0 : 0 ≤ x) (h : x < 900) (hy : y = x + 1) (hc : c s) (ht : t = b s) : lpG c b (900 - y).toNat t = lpG c b (900 - x).toNat s := by
  subst ht
  rw [show (900 - x).toNat = (900 - y).toNat + 1 by omega]
  conv => rhs; unfold lpG
  rw [if_pos hc]
def lineW (T : Nat → Int) (W : Int) (s : Nat → Int) : Int := if wI T 1 s = 1 then (if 0 < W then W else bndV 2 5 (advS T s)) else W
def lineH (T : Nat → Int) (W H : Int) (s : Nat → Int) : Int := if wI T 1 s = 1 then (if 0 < W then H else bndV 2 5 (bndS T 2 5 (advS T s))) else H
def lineP (T : Nat → Int) (W P : Int) (s : Nat → Int) : Int := if wI T 1 s = 1 then P else if wI T 2 s = 1 then P else if wI T 3 s = 1 then P else if wI T 4 s = 1 then (if 0 < W ∧ 5 ≤ P then P else if P < 5 then P + 1 else P) else P
theorem lineC_5 {T s c : Nat → Int} : lineC T s c 5 = lineW T (c 5) s := by
  unfold lineC lineW ctC; (repeat' split) <;> rfl
theorem lineC_6 {T s c : Nat → Int} : lineC T s c 6 = lineH T (c 5) (c 6) s := by
  unfold lineC lineH ctC; (repeat' split) <;> rfl
theorem lineC_7 {T s c : Nat → Int} : lineC T s c 7 = c 7 := by
  unfold lineC ctC; (repeat' split) <;> rfl
theorem lineF_7 {T s f : Nat → Int} {W : Int} : lineF T W s f 7 = lineP T W (f 7) s := by
  unfold lineF lineP prF stlS; (repeat' split) <;> first | rfl | (exfalso; omega)
def rdB (T : Nat → Int) (q : RS) : RS := (signS T 59 (lineS T q.2.1 q.2.2.1 q.2.2.2.1 q.1), lineW T q.2.1 q.1, lineH T q.2.1 q.2.2.1 q.1, lineP T q.2.1 q.2.2.2.1 q.1, q.2.2.2.2 + 1)
abbrev rdL (T : Nat → Int) (k : Nat) (q : RS) : RS := lpG (fun q : RS => ¬ q.1 4 = 0) (rdB T) k q
def rd0 (n : Int) (s : Nat → Int) : Nat → Int := upI (upI (upI (upI (upI s 2 0) 3 n) 6 0) 8 0) 9 (-1)
def aR (ws : va_W) : RS := (aF 77 ws, aF 20 ws 5, aF 20 ws 6, aF 29 ws 7, aF 20 ws 7)
def rdS (T : Nat → Int) (n : Int) (s : Nat → Int) : RS := rdL T 900 (advS T (rd0 n s), 0, 0, 0, 0)
theorem aR_of {ws : va_W} {s c f : Nat → Int} {q : RS} (h1 : aF 77 ws = s) (h2 : aF 20 ws = c) (h3 : aF 29 ws = f) (h : (s, c 5, c 6, f 7, c 7) = q) : aR ws = q := by
  unfold aR; rw [h1, h2, h3]; exact h
theorem o64_1 {x0 : Int} (h0 : x0 = 0) : 0 ≤ x0 := by omega
theorem o64_2 {x0 : Int} (h0 : x0 = 0) : x0 ≤ 900 := by omega
theorem o64_3 {x0 : Int} (h0 : 0 ≤ x0) (h1 : x0 ≤ 900) : 0 ≤ x0 := by omega
theorem o64_4 {x0 : Int} (h0 : 0 ≤ x0) (h1 : x0 ≤ 900) : x0 ≤ 900 := by omega
theorem o64_5 {x0 : Int} (h0 : 0 ≤ x0) (h1 : x0 ≤ 900) (h2 : 900 - x0 < 0) : False := by omega
theorem o64_6 {x0 : Int} (h0 : x0 = 59) : 0 ≤ x0 := by omega
theorem o64_7 {x0 : Int} (h0 : x0 = 59) : x0 ≤ 65535 := by omega
theorem o64_8 {x0 : Int} (h0 : x0 = 59) : x0 = 59 := by omega
theorem o64_9 {x0 x2 : Int} {x1 : Nat} (h0 : 0 ≤ x0) (h1 : x0 ≤ 900) (h2 : 900 - x0 < ((x1 + 1 : Nat) : Int)) (h3 : x2 = 900) (h4 : x0 < x2) (h5 : -2147483648 ≤ x0) (h6 : x0 ≤ 2147483647) (h7 : -2147483648 ≤ x2) (h8 : x2 ≤ 2147483647) : -2147483648 ≤ x0 + 1 := by omega
theorem o64_10 {x0 x2 : Int} {x1 : Nat} (h0 : 0 ≤ x0) (h1 : x0 ≤ 900) (h2 : 900 - x0 < ((x1 + 1 : Nat) : Int)) (h3 : x2 = 900) (h4 : x0 < x2) (h5 : -2147483648 ≤ x0) (h6 : x0 ≤ 2147483647) (h7 : -2147483648 ≤ x2) (h8 : x2 ≤ 2147483647) : x0 + 1 ≤ 2147483647 := by omega
theorem o64_11 {x0 x2 x3 : Int} {x1 : Nat} (h0 : 0 ≤ x2) (h1 : x2 ≤ 900) (h2 : 900 - x2 < ((x1 + 1 : Nat) : Int)) (h3 : x3 = 900) (h4 : x2 < x3) (h5 : x0 = x2 + 1) : 900 - x0 < (x1 : Int) := by omega
theorem o64_12 {x0 x1 x3 : Int} {x2 : Nat} (h0 : 0 ≤ x1) (h1 : x1 ≤ 900) (h2 : 900 - x1 < ((x2 + 1 : Nat) : Int)) (h3 : x3 = 900) (h4 : x1 < x3) (h5 : x0 = x1 + 1) : 0 ≤ x0 := by omega
theorem o64_13 {x0 x1 x3 : Int} {x2 : Nat} (h0 : 0 ≤ x1) (h1 : x1 ≤ 900) (h2 : 900 - x1 < ((x2 + 1 : Nat) : Int)) (h3 : x3 = 900) (h4 : x1 < x3) (h5 : x0 = x1 + 1) : x0 ≤ 900 := by omega
theorem o64_14 {x0 : Int} (h0 : x0 = 0) : 900 - x0 < (((900 - x0 + 1).toNat : Nat) : Int) := by omega
theorem o64_15 {x0 : Int} (h0 : x0 = 0) : x0 = 0 := by omega
theorem o64_16 {x0 : Int} (h0 : x0 = (-1)) : x0 = (-1) := by omega
set_option maxHeartbeats 4000000 in
set_option maxRecDepth 100000 in
theorem c_X5_readS {T : Nat → Int} (l : Launch) (G : GG) (Z : RZ) (ad : Nat → Nat) (ws0 : va_W) (hT : Ty G (SC q0) ad ws0) (a1 : Int32) (l1 : 0 ≤ a1.toInt) (u1 : a1.toInt ≤ 900) (hR : Rel ws0) (hTp : Tp T ws0) : Mq l yX5_read cX5_read 3 (some .int) 31 G Z [.ref (ad 77), .int a1] ws0 (PI G (SC q00) ad [1, 2, 3, 6, 7, 8, 9, 10, 11, 12, 13, 14, 15, 16] ws0 (fun r u => (aR u = rdS T a1.toInt (aF 77 ws0)) ∧ (r.toInt = aF 77 u 8) ∧ (Rel u))) := by
  refine Mq.start (by decide) (Nat.le_of_ble_eq_true rfl) ?_
  intro p e s m below meth c A ls C0 hZ h hl
  have hl : lv_has ls 3 [(0, .ref (ad 77)), (1, .int a1)] := hl
  have h : Wt G (SC q0) ad A s s.heap [] ws0 := ⟨h, hT⟩
  obtain ⟨args, hargs⟩ : ∃ z, z = ([.ref (ad 77), .int a1] : List Value).toArray := ⟨_, rfl⟩
  rw [← hargs] at C0 ⊢
  have C0 : Cx p s m args meth c RX5 cX5_read 3 (some .int) := C0
  obtain ⟨Q, hQ⟩ : ∃ z, z = MQ below ((PI G (SC q00) ad [1, 2, 3, 6, 7, 8, 9, 10, 11, 12, 13, 14, 15, 16] ws0 (fun r u => (aR u = rdS T a1.toInt (aF 77 ws0)) ∧ (r.toInt = aF 77 u 8) ∧ (Rel u))) A) args s 0 0 A := ⟨_, rfl⟩
  rw [← hQ]
  refine lv_aload_n C0.1 C0.2.1 dX5_read_0 rfl (lv_at hl 0 rfl) ?_
  refine tg_X5_city C0 h kSC_77 q_370 dX5_read_1 ?_
  refine y_cv h (y_rV (As := []) (rest := []) C0 hZ h (c_X0_clearS l G Z ad _ h.2 20 kSC_20 hR) k_X0_clear q_599 q_600 q_598 kSC_20 rfl rfl rfl hl.1 rfl rfl (Nat.le_of_ble_eq_true rfl) dX5_read_4 ⟨Nat.le_of_ble_eq_true rfl, Nat.le_of_ble_eq_true rfl⟩ ⟨Nat.le_of_ble_eq_true rfl, Nat.le_of_ble_eq_true rfl⟩) (fun H locs ws_1 h u_2 p_3 => ?_)
  obtain ⟨e_4, e_5, e_6⟩ := p_3
  have hc_7 : aF 29 ws_1 = upI (upI (aF 29 ws0) 7 0) 8 0 := e_6
  refine lv_aload_n C0.1 C0.2.1 dX5_read_7 rfl (lv_at hl 0 rfl) ?_
  refine y_c1 (n := 0) C0 (by decide) dX5_read_8 (fun v_8 e_9 => ?_)
  refine tp_X5_fed C0 h kSC_77 q_372 (o64_1 e_9) (o64_2 e_9) dX5_read_9 (fun H locs ws_10 h u_11 => ?_)
  have h : Wt G (SC q00) ad A s H locs ws_10 := ⟨h.1, SC_at (by rw [u_11.2.1, e_9]; exact ⟨rfl, rfl⟩) h.2⟩
  refine lv_aload_n C0.1 C0.2.1 dX5_read_12 rfl (lv_at hl 0 rfl) ?_
  refine lv_iload_n C0.1 C0.2.1 dX5_read_13 rfl (lv_at hl 1 rfl) ?_
  refine tp_X5_length C0 h kSC_77 q_373 (o64_3 l1 u1) (o64_4 l1 u1) dX5_read_14 (fun H locs ws_12 h u_13 => ?_)
  refine lv_aload_n C0.1 C0.2.1 dX5_read_17 rfl (lv_at hl 0 rfl) ?_
  refine y_c1 (n := 0) C0 (by decide) dX5_read_18 (fun v_14 e_15 => ?_)
  refine tp_X5_end C0 h kSC_77 q_376 (o64_1 e_15) (o64_2 e_15) dX5_read_19 (fun H locs ws_16 h u_17 => ?_)
  refine lv_aload_n C0.1 C0.2.1 dX5_read_22 rfl (lv_at hl 0 rfl) ?_
  refine y_c1 (n := 0) C0 (by decide) dX5_read_23 (fun v_18 e_19 => ?_)
  refine tp_X5_fault C0 h kSC_77 q_378 (le_min v_18) (le_max v_18) dX5_read_24 (fun H locs ws_20 h u_21 => ?_)
  refine lv_aload_n C0.1 C0.2.1 dX5_read_27 rfl (lv_at hl 0 rfl) ?_
  refine y_c1 (n := (-1)) C0 (by decide) dX5_read_28 (fun v_22 e_23 => ?_)
  refine tp_X5_place C0 h kSC_77 q_379 (le_min v_22) (le_max v_22) dX5_read_29 (fun H locs ws_24 h u_25 => ?_)
  refine lv_aload_n C0.1 C0.2.1 dX5_read_32 rfl (lv_at hl 0 rfl) ?_
  refine y_cv h (y_rV (As := []) (rest := []) C0 hZ h (c_X5_advanceS l G Z ad _ h.2 ((Tp.fr (M := [1, 2, 6, 11, 12, 13, 14, 15, 16]) hTp (Fr.tr (Fr.tr (Fr.tr (Fr.tr (Fr.tr (Fr.mono u_2 (by decide)) (Fr.up u_11.1 kSC_77 (by decide))) (Fr.up u_13.1 kSC_77 (by decide))) (Fr.up u_17.1 kSC_77 (by decide))) (Fr.up u_21.1 kSC_77 (by decide))) (Fr.up u_25.1 kSC_77 (by decide))) kSC_78 (by decide)))) k_X5_advance q_616 q_0 q_614 kSC_77 rfl rfl rfl hl.1 rfl rfl (Nat.le_of_ble_eq_true rfl) dX5_read_33 ⟨Nat.le_of_ble_eq_true rfl, Nat.le_of_ble_eq_true rfl⟩ ⟨Nat.le_of_ble_eq_true rfl, Nat.le_of_ble_eq_true rfl⟩) (fun H locs ws_26 h u_27 p_28 => ?_)
  have e_29 := p_28
  refine y_c1 (n := 0) C0 (by decide) dX5_read_36 (fun v_30 e_31 => ?_)
  refine lv_istore_n (lv' := [(2, .int v_30), (0, .ref (ad 77)), (1, .int a1)]) C0.1 C0.2.1 dX5_read_37 rfl hl (by decide) rfl (fun ls hl => ?_)
  have lp_35 : ∀ (n_37 : Nat) (x2_32 : Int32) (H : Heap) (locs : List Loc) (ls : Array Slot) (ws_33 : va_W), 900 - x2_32.toInt < (n_37 : Int) → 0 ≤ x2_32.toInt → x2_32.toInt ≤ 900 → (rdL T (900 - x2_32.toInt).toNat (aR ws_33) = rdS T a1.toInt (aF 77 ws0)) → (aF 20 ws_33 7 = x2_32.toInt) → Rel ws_33 → Wt G (SC q00) ad A s H locs ws_33 → Fr (SC q00) [1, 2, 3, 6, 7, 8, 9, 10, 14, 15, 16] ws_26 ws_33 → lv_has ls 3 [(2, .int x2_32), (0, .ref (ad 77)), (1, .int a1)] → W p l e (rmd 31 0 0) s m args below meth c H locs 0 0 Q (F0 m 38 ls []) := by
    intro n_37
    induction n_37 with
    | zero => intro x2_32 H locs ls ws_33 hn_38 b_39 b_40 hSp hLn hRl h hF_34 hl; exact ((o64_5 b_39 b_40 hn_38)).elim
    | succ n_37 ih_36 =>
      intro x2_32 H locs ls ws_33 hn_38 b_39 b_40 hSp hLn hRl h hF_34 hl
      refine lv_iload_n C0.1 C0.2.1 dX5_read_38 rfl (lv_at hl 0 rfl) ?_
      refine y_c3 (n := 900) C0 (by decide) dX5_read_39 (fun v_41 e_42 => ?_)
      refine y_icmp_ge (tgt := 81) C0 dX5_read_42 (by decide) (fun c_43 => ?_) (fun c_43 => ?_)
      · -- 42
        refine lv_aload_n C0.1 C0.2.1 dX5_read_81 rfl (lv_at hl 1 rfl) ?_
        refine tg_X5_fault C0 h kSC_77 q_378 dX5_read_82 (fun v_44 e_45 e_46 e_47 => ?_)
        have hv_48 : (aF 77 ws_33) 8 = v_44.toInt := (aF_at (by decide) e_45)
        have hz_49 : aR ws_33 = rdL T (900 - x2_32.toInt).toNat (aR ws_33) := by first | (exfalso; omega) | exact (lg_0 (by omega)).symm | exact (lg_e (c := fun q : RS => ¬ q.1 4 = 0) (show ¬ ¬ (aF 77 ws_33) 4 = 0 by omega)).symm
        rw [hQ]
        exact y_iret C0 h (Fr.tr (Fr.tr (Fr.tr (Fr.tr (Fr.tr (Fr.tr (Fr.tr (Fr.mono u_2 (by decide)) (Fr.up u_11.1 kSC_77 (by decide))) (Fr.up u_13.1 kSC_77 (by decide))) (Fr.up u_17.1 kSC_77 (by decide))) (Fr.up u_21.1 kSC_77 (by decide))) (Fr.up u_25.1 kSC_77 (by decide))) (Fr.mono u_27 (by decide))) (Fr.mono hF_34 (by decide))) ⟨(Eq.trans hz_49 hSp), (aF_at (by decide) e_45).symm, hRl⟩ dX5_read_85
      · -- 42
        refine lv_aload_n C0.1 C0.2.1 dX5_read_45 rfl (lv_at hl 1 rfl) ?_
        refine tg_X5_kind C0 h kSC_77 q_374 dX5_read_46 (fun v_50 e_51 e_52 e_53 => ?_)
        refine y_if_eq (tgt := 81) C0 dX5_read_49 (by decide) (fun c_54 => ?_) (fun c_54 => ?_)
        · -- 49
          refine lv_aload_n C0.1 C0.2.1 dX5_read_81 rfl (lv_at hl 1 rfl) ?_
          refine tg_X5_fault C0 h kSC_77 q_378 dX5_read_82 (fun v_55 e_56 e_57 e_58 => ?_)
          have hv_59 : (aF 77 ws_33) 4 = v_50.toInt := (aF_at (by decide) e_51)
          have hv_60 : (aF 77 ws_33) 8 = v_55.toInt := (aF_at (by decide) e_56)
          have hz_61 : aR ws_33 = rdL T (900 - x2_32.toInt).toNat (aR ws_33) := by first | (exfalso; omega) | exact (lg_0 (by omega)).symm | exact (lg_e (c := fun q : RS => ¬ q.1 4 = 0) (show ¬ ¬ (aF 77 ws_33) 4 = 0 by omega)).symm
          rw [hQ]
          exact y_iret C0 h (Fr.tr (Fr.tr (Fr.tr (Fr.tr (Fr.tr (Fr.tr (Fr.tr (Fr.mono u_2 (by decide)) (Fr.up u_11.1 kSC_77 (by decide))) (Fr.up u_13.1 kSC_77 (by decide))) (Fr.up u_17.1 kSC_77 (by decide))) (Fr.up u_21.1 kSC_77 (by decide))) (Fr.up u_25.1 kSC_77 (by decide))) (Fr.mono u_27 (by decide))) (Fr.mono hF_34 (by decide))) ⟨(Eq.trans hz_61 hSp), (aF_at (by decide) e_56).symm, hRl⟩ dX5_read_85
        · -- 49
          refine lv_aload_n C0.1 C0.2.1 dX5_read_52 rfl (lv_at hl 1 rfl) ?_
          refine y_cv h (y_rV (As := []) (rest := []) C0 hZ h (c_X5_lineS l G Z ad _ h.2 hRl ((Tp.fr (M := [1, 2, 3, 6, 7, 8, 9, 10, 11, 12, 13, 14, 15, 16]) hTp (Fr.tr (Fr.tr (Fr.tr (Fr.tr (Fr.tr (Fr.tr (Fr.tr (Fr.mono u_2 (by decide)) (Fr.up u_11.1 kSC_77 (by decide))) (Fr.up u_13.1 kSC_77 (by decide))) (Fr.up u_17.1 kSC_77 (by decide))) (Fr.up u_21.1 kSC_77 (by decide))) (Fr.up u_25.1 kSC_77 (by decide))) (Fr.mono u_27 (by decide))) (Fr.mono hF_34 (by decide))) kSC_78 (by decide)))) k_X5_line q_719 q_4 q_717 kSC_77 rfl rfl rfl hl.1 rfl rfl (Nat.le_of_ble_eq_true rfl) dX5_read_53 ⟨Nat.le_of_ble_eq_true rfl, Nat.le_of_ble_eq_true rfl⟩ ⟨Nat.le_of_ble_eq_true rfl, Nat.le_of_ble_eq_true rfl⟩) (fun H locs ws_62 h u_63 p_64 => ?_)
          obtain ⟨e_65, e_66, e_67, e_68⟩ := p_64
          refine lv_aload_n C0.1 C0.2.1 dX5_read_56 rfl (lv_at hl 1 rfl) ?_
          refine y_c2 (n := 59) C0 (by decide) dX5_read_57 (fun v_69 e_70 => ?_)
          refine y_cv h (y_rV (As := [.int v_69]) (rest := []) C0 hZ h (c_X5_signS l G Z ad _ h.2 v_69 (o64_6 e_70) (o64_7 e_70) ((Tp.fr (M := [1, 2, 3, 6, 7, 8, 9, 10, 11, 12, 13, 14, 15, 16]) hTp (Fr.tr (Fr.tr (Fr.tr (Fr.tr (Fr.tr (Fr.tr (Fr.tr (Fr.tr (Fr.mono u_2 (by decide)) (Fr.up u_11.1 kSC_77 (by decide))) (Fr.up u_13.1 kSC_77 (by decide))) (Fr.up u_17.1 kSC_77 (by decide))) (Fr.up u_21.1 kSC_77 (by decide))) (Fr.up u_25.1 kSC_77 (by decide))) (Fr.mono u_27 (by decide))) (Fr.mono hF_34 (by decide))) (Fr.mono u_63 (by decide))) kSC_78 (by decide)))) k_X5_sign q_812 q_14 q_810 kSC_77 rfl rfl rfl hl.1 rfl rfl (Nat.le_of_ble_eq_true rfl) dX5_read_59 ⟨Nat.le_of_ble_eq_true rfl, Nat.le_of_ble_eq_true rfl⟩ ⟨Nat.le_of_ble_eq_true rfl, Nat.le_of_ble_eq_true rfl⟩) (fun H locs ws_71 h u_72 p_73 => ?_)
          have e_74 := p_73
          refine lv_aload_n C0.1 C0.2.1 dX5_read_62 rfl (lv_at hl 1 rfl) ?_
          refine tg_X5_city C0 h kSC_77 q_370 dX5_read_63 ?_
          refine lv_dup C0.1 C0.2.1 dX5_read_66 rfl ?_
          refine tg_X0_lines C0 h kSC_20 q_265 dX5_read_67 (fun v_75 e_76 e_77 e_78 => ?_)
          refine y_c1 (n := 1) C0 (by decide) dX5_read_70 (fun v_79 e_80 => ?_)
          refine y_iaddX C0 dX5_read_71 (fun v_82 e_81 => ?_)
          have hv_83 : (aF 77 ws_33) 4 = v_50.toInt := (aF_at (by decide) e_51)
          have hs_84 : aF 77 ws_62 = (lineS T (aF 20 ws_33 5) (aF 20 ws_33 6) (aF 29 ws_33 7) (aF 77 ws_33)) := e_65
          have hs_85 : aF 77 ws_71 = (signS T 59 (lineS T (aF 20 ws_33 5) (aF 20 ws_33 6) (aF 29 ws_33 7) (aF 77 ws_33))) := e_74.trans ((congrArg (fun s => signS T v_69.toInt s) hs_84).trans (by rw [(o64_8 e_70)]))
          have hs_86 : aF 20 ws_62 = (upI (lineC T (aF 77 ws_33) (aF 20 ws_33)) 8 (aF 20 ws_62 8)) := e_66
          have hs_87 : aF 20 ws_71 = (upI (lineC T (aF 77 ws_33) (aF 20 ws_33)) 8 (aF 20 ws_62 8)) := (aF_fr u_72 kSC_20 (by decide)).trans hs_86
          have hv_88 : (upI (lineC T (aF 77 ws_33) (aF 20 ws_33)) 8 (aF 20 ws_62 8)) 7 = v_75.toInt := (congrFun hs_87 7).symm.trans (aF_at (by decide) e_76)
          have hs_89 : aF 29 ws_62 = (upI (lineF T (aF 20 ws_33 5) (aF 77 ws_33) (aF 29 ws_33)) 8 (aF 29 ws_62 8)) := e_67
          have hs_90 : aF 29 ws_71 = (upI (lineF T (aF 20 ws_33 5) (aF 77 ws_33) (aF 29 ws_33)) 8 (aF 29 ws_62 8)) := (aF_fr u_72 kSC_29 (by decide)).trans hs_89
          have hl_91 : v_75.toInt = aF 20 ws_33 7 := Eq.trans hv_88.symm (lineC_7 (T := T) (s := aF 77 ws_33) (c := aF 20 ws_33))
          have hl_92 : v_82.toInt = v_75.toInt + v_79.toInt := by rw [e_81]; exact t_add (by omega) (by omega)
          refine tp_X0_lines C0 h kSC_20 q_265 (le_min v_82) (le_max v_82) dX5_read_72 (fun H locs ws_93 h u_94 => ?_)
          refine y_inc (kp := 0) (n := 1) (fun v_95 => [(2, .int v_95), (0, .ref (ad 77)), (1, .int a1)]) C0 hl rfl (by decide) (by decide) (fun _ => rfl) (o64_9 b_39 b_40 hn_38 e_42 c_43 (le_min x2_32) (le_max x2_32) (le_min v_41) (le_max v_41)) (o64_10 b_39 b_40 hn_38 e_42 c_43 (le_min x2_32) (le_max x2_32) (le_min v_41) (le_max v_41)) dX5_read_75 (fun v_95 ls e_96 hl => ?_)
          refine lv_goto (tgt := 38) C0.1 C0.2.1 dX5_read_78 (by decide) ?_
          have hs_97 : aF 77 ws_62 = (lineS T (aF 20 ws_33 5) (aF 20 ws_33 6) (aF 29 ws_33 7) (aF 77 ws_33)) := e_65
          have hs_98 : aF 77 ws_71 = (signS T 59 (lineS T (aF 20 ws_33 5) (aF 20 ws_33 6) (aF 29 ws_33 7) (aF 77 ws_33))) := e_74.trans ((congrArg (fun s => signS T v_69.toInt s) hs_97).trans (by rw [(o64_8 e_70)]))
          have hs_99 : aF 77 ws_93 = (signS T 59 (lineS T (aF 20 ws_33 5) (aF 20 ws_33 6) (aF 29 ws_33 7) (aF 77 ws_33))) := (aF_ud u_94.1 (kd_ne (S := SC q0) kSC_77 kSC_20 (by decide))).trans hs_98
          have hs_100 : aF 20 ws_62 = (upI (lineC T (aF 77 ws_33) (aF 20 ws_33)) 8 (aF 20 ws_62 8)) := e_66
          have hs_101 : aF 20 ws_71 = (upI (lineC T (aF 77 ws_33) (aF 20 ws_33)) 8 (aF 20 ws_62 8)) := (aF_fr u_72 kSC_20 (by decide)).trans hs_100
          have hs_102 : aF 20 ws_93 = (upI (upI (lineC T (aF 77 ws_33) (aF 20 ws_33)) 8 (aF 20 ws_62 8)) 7 v_82.toInt) := (aF_up (by decide) u_94).trans (congrArg (fun s => upI s 7 v_82.toInt) hs_101)
          have hs_103 : aF 29 ws_62 = (upI (lineF T (aF 20 ws_33 5) (aF 77 ws_33) (aF 29 ws_33)) 8 (aF 29 ws_62 8)) := e_67
          have hs_104 : aF 29 ws_71 = (upI (lineF T (aF 20 ws_33 5) (aF 77 ws_33) (aF 29 ws_33)) 8 (aF 29 ws_62 8)) := (aF_fr u_72 kSC_29 (by decide)).trans hs_103
          have hs_105 : aF 29 ws_93 = (upI (lineF T (aF 20 ws_33 5) (aF 77 ws_33) (aF 29 ws_33)) 8 (aF 29 ws_62 8)) := (aF_ud u_94.1 (kd_ne (S := SC q0) kSC_29 kSC_20 (by decide))).trans hs_104
          have hw_106 : aR ws_93 = rdB T (aR ws_33) := aR_of hs_99 hs_102 hs_105 (by show (_, lineC T _ _ 5, lineC T _ _ 6, lineF T _ _ _ 7, v_82.toInt) = _; rw [lineC_5, lineC_6, lineF_7, show v_82.toInt = aF 20 ws_33 7 + 1 by omega]; rfl)
          have hs_107 : aF 77 ws_62 = (lineS T (aF 20 ws_33 5) (aF 20 ws_33 6) (aF 29 ws_33 7) (aF 77 ws_33)) := e_65
          have hs_108 : aF 77 ws_71 = (signS T 59 (lineS T (aF 20 ws_33 5) (aF 20 ws_33 6) (aF 29 ws_33 7) (aF 77 ws_33))) := e_74.trans ((congrArg (fun s => signS T v_69.toInt s) hs_107).trans (by rw [(o64_8 e_70)]))
          have hs_109 : aF 77 ws_93 = (signS T 59 (lineS T (aF 20 ws_33 5) (aF 20 ws_33 6) (aF 29 ws_33 7) (aF 77 ws_33))) := (aF_ud u_94.1 (kd_ne (S := SC q0) kSC_77 kSC_20 (by decide))).trans hs_108
          have hs_110 : aF 20 ws_62 = (upI (lineC T (aF 77 ws_33) (aF 20 ws_33)) 8 (aF 20 ws_62 8)) := e_66
          have hs_111 : aF 20 ws_71 = (upI (lineC T (aF 77 ws_33) (aF 20 ws_33)) 8 (aF 20 ws_62 8)) := (aF_fr u_72 kSC_20 (by decide)).trans hs_110
          have hs_112 : aF 20 ws_93 = (upI (upI (lineC T (aF 77 ws_33) (aF 20 ws_33)) 8 (aF 20 ws_62 8)) 7 v_82.toInt) := (aF_up (by decide) u_94).trans (congrArg (fun s => upI s 7 v_82.toInt) hs_111)
          have hs_113 : aF 29 ws_62 = (upI (lineF T (aF 20 ws_33 5) (aF 77 ws_33) (aF 29 ws_33)) 8 (aF 29 ws_62 8)) := e_67
          have hs_114 : aF 29 ws_71 = (upI (lineF T (aF 20 ws_33 5) (aF 77 ws_33) (aF 29 ws_33)) 8 (aF 29 ws_62 8)) := (aF_fr u_72 kSC_29 (by decide)).trans hs_113
          have hs_115 : aF 29 ws_93 = (upI (lineF T (aF 20 ws_33 5) (aF 77 ws_33) (aF 29 ws_33)) 8 (aF 29 ws_62 8)) := (aF_ud u_94.1 (kd_ne (S := SC q0) kSC_29 kSC_20 (by decide))).trans hs_114
          exact ih_36 v_95 _ _ _ _ (o64_11 b_39 b_40 hn_38 e_42 c_43 e_96) (o64_12 b_39 b_40 hn_38 e_42 c_43 e_96) (o64_13 b_39 b_40 hn_38 e_42 c_43 e_96) (((lg_s (c := fun q : RS => ¬ q.1 4 = 0) (by omega) (by omega) (by omega) (show ¬ (aF 77 ws_33) 4 = 0 by omega) hw_106).trans hSp)) ((by rw [hs_112, upI_s]; omega)) (Rel.fr (M := [1, 16]) e_68 (Fr.tr (Fr.mono u_72 (by decide)) (Fr.up u_94.1 kSC_20 (by decide))) (by decide) (by decide)) h (Fr.tr (Fr.tr (Fr.tr hF_34 u_63) (Fr.mono u_72 (by decide))) (Fr.up u_94.1 kSC_20 (by decide))) (lv_sub hl [0, 1, 2] rfl)
  have hs_116 : aF 77 ws_1 = (aF 77 ws0) := (aF_fr u_2 kSC_77 (by decide))
  have hs_117 : aF 77 ws_10 = (upI (aF 77 ws0) 2 0) := (aF_up (by decide) u_11).trans ((congrArg (fun s => upI s 2 v_8.toInt) hs_116).trans (by rw [(o64_15 e_9)]))
  have hs_118 : aF 77 ws_12 = (upI (upI (aF 77 ws0) 2 0) 3 a1.toInt) := (aF_up (by decide) u_13).trans (congrArg (fun s => upI s 3 a1.toInt) hs_117)
  have hs_119 : aF 77 ws_16 = (upI (upI (upI (aF 77 ws0) 2 0) 3 a1.toInt) 6 0) := (aF_up (by decide) u_17).trans ((congrArg (fun s => upI s 6 v_14.toInt) hs_118).trans (by rw [(o64_15 e_15)]))
  have hs_120 : aF 77 ws_20 = (upI (upI (upI (upI (aF 77 ws0) 2 0) 3 a1.toInt) 6 0) 8 0) := (aF_up (by decide) u_21).trans ((congrArg (fun s => upI s 8 v_18.toInt) hs_119).trans (by rw [(o64_15 e_19)]))
  have hs_121 : aF 77 ws_24 = (upI (upI (upI (upI (upI (aF 77 ws0) 2 0) 3 a1.toInt) 6 0) 8 0) 9 ((-1))) := (aF_up (by decide) u_25).trans ((congrArg (fun s => upI s 9 v_22.toInt) hs_120).trans (by rw [(o64_16 e_23)]))
  have hs_122 : aF 77 ws_26 = (advS T (upI (upI (upI (upI (upI (aF 77 ws0) 2 0) 3 a1.toInt) 6 0) 8 0) 9 ((-1)))) := e_29.trans (congrArg (fun s => advS T s) hs_121)
  have hs_123 : aF 20 ws_1 = (upI (upI (upI (upI (aF 20 ws0) 5 0) 6 0) 7 0) 8 0) := e_5
  have hs_124 : aF 20 ws_10 = (upI (upI (upI (upI (aF 20 ws0) 5 0) 6 0) 7 0) 8 0) := (aF_ud u_11.1 (kd_ne (S := SC q0) kSC_20 kSC_77 (by decide))).trans hs_123
  have hs_125 : aF 20 ws_12 = (upI (upI (upI (upI (aF 20 ws0) 5 0) 6 0) 7 0) 8 0) := (aF_ud u_13.1 (kd_ne (S := SC q0) kSC_20 kSC_77 (by decide))).trans hs_124
  have hs_126 : aF 20 ws_16 = (upI (upI (upI (upI (aF 20 ws0) 5 0) 6 0) 7 0) 8 0) := (aF_ud u_17.1 (kd_ne (S := SC q0) kSC_20 kSC_77 (by decide))).trans hs_125
  have hs_127 : aF 20 ws_20 = (upI (upI (upI (upI (aF 20 ws0) 5 0) 6 0) 7 0) 8 0) := (aF_ud u_21.1 (kd_ne (S := SC q0) kSC_20 kSC_77 (by decide))).trans hs_126
  have hs_128 : aF 20 ws_24 = (upI (upI (upI (upI (aF 20 ws0) 5 0) 6 0) 7 0) 8 0) := (aF_ud u_25.1 (kd_ne (S := SC q0) kSC_20 kSC_77 (by decide))).trans hs_127
  have hs_129 : aF 20 ws_26 = (upI (upI (upI (upI (aF 20 ws0) 5 0) 6 0) 7 0) 8 0) := (aF_fr u_27 kSC_20 (by decide)).trans hs_128
  have hs_130 : aF 29 ws_1 = (upI (upI (aF 29 ws0) 7 0) 8 0) := hc_7
  have hs_131 : aF 29 ws_10 = (upI (upI (aF 29 ws0) 7 0) 8 0) := (aF_ud u_11.1 (kd_ne (S := SC q0) kSC_29 kSC_77 (by decide))).trans hs_130
  have hs_132 : aF 29 ws_12 = (upI (upI (aF 29 ws0) 7 0) 8 0) := (aF_ud u_13.1 (kd_ne (S := SC q0) kSC_29 kSC_77 (by decide))).trans hs_131
  have hs_133 : aF 29 ws_16 = (upI (upI (aF 29 ws0) 7 0) 8 0) := (aF_ud u_17.1 (kd_ne (S := SC q0) kSC_29 kSC_77 (by decide))).trans hs_132
  have hs_134 : aF 29 ws_20 = (upI (upI (aF 29 ws0) 7 0) 8 0) := (aF_ud u_21.1 (kd_ne (S := SC q0) kSC_29 kSC_77 (by decide))).trans hs_133
  have hs_135 : aF 29 ws_24 = (upI (upI (aF 29 ws0) 7 0) 8 0) := (aF_ud u_25.1 (kd_ne (S := SC q0) kSC_29 kSC_77 (by decide))).trans hs_134
  have hs_136 : aF 29 ws_26 = (upI (upI (aF 29 ws0) 7 0) 8 0) := (aF_fr u_27 kSC_29 (by decide)).trans hs_135
  have hs_137 : aF 77 ws_1 = (aF 77 ws0) := (aF_fr u_2 kSC_77 (by decide))
  have hs_138 : aF 77 ws_10 = (upI (aF 77 ws0) 2 0) := (aF_up (by decide) u_11).trans ((congrArg (fun s => upI s 2 v_8.toInt) hs_137).trans (by rw [(o64_15 e_9)]))
  have hs_139 : aF 77 ws_12 = (upI (upI (aF 77 ws0) 2 0) 3 a1.toInt) := (aF_up (by decide) u_13).trans (congrArg (fun s => upI s 3 a1.toInt) hs_138)
  have hs_140 : aF 77 ws_16 = (upI (upI (upI (aF 77 ws0) 2 0) 3 a1.toInt) 6 0) := (aF_up (by decide) u_17).trans ((congrArg (fun s => upI s 6 v_14.toInt) hs_139).trans (by rw [(o64_15 e_15)]))
  have hs_141 : aF 77 ws_20 = (upI (upI (upI (upI (aF 77 ws0) 2 0) 3 a1.toInt) 6 0) 8 0) := (aF_up (by decide) u_21).trans ((congrArg (fun s => upI s 8 v_18.toInt) hs_140).trans (by rw [(o64_15 e_19)]))
  have hs_142 : aF 77 ws_24 = (upI (upI (upI (upI (upI (aF 77 ws0) 2 0) 3 a1.toInt) 6 0) 8 0) 9 ((-1))) := (aF_up (by decide) u_25).trans ((congrArg (fun s => upI s 9 v_22.toInt) hs_141).trans (by rw [(o64_16 e_23)]))
  have hs_143 : aF 77 ws_26 = (advS T (upI (upI (upI (upI (upI (aF 77 ws0) 2 0) 3 a1.toInt) 6 0) 8 0) 9 ((-1)))) := e_29.trans (congrArg (fun s => advS T s) hs_142)
  have hs_144 : aF 20 ws_1 = (upI (upI (upI (upI (aF 20 ws0) 5 0) 6 0) 7 0) 8 0) := e_5
  have hs_145 : aF 20 ws_10 = (upI (upI (upI (upI (aF 20 ws0) 5 0) 6 0) 7 0) 8 0) := (aF_ud u_11.1 (kd_ne (S := SC q0) kSC_20 kSC_77 (by decide))).trans hs_144
  have hs_146 : aF 20 ws_12 = (upI (upI (upI (upI (aF 20 ws0) 5 0) 6 0) 7 0) 8 0) := (aF_ud u_13.1 (kd_ne (S := SC q0) kSC_20 kSC_77 (by decide))).trans hs_145
  have hs_147 : aF 20 ws_16 = (upI (upI (upI (upI (aF 20 ws0) 5 0) 6 0) 7 0) 8 0) := (aF_ud u_17.1 (kd_ne (S := SC q0) kSC_20 kSC_77 (by decide))).trans hs_146
  have hs_148 : aF 20 ws_20 = (upI (upI (upI (upI (aF 20 ws0) 5 0) 6 0) 7 0) 8 0) := (aF_ud u_21.1 (kd_ne (S := SC q0) kSC_20 kSC_77 (by decide))).trans hs_147
  have hs_149 : aF 20 ws_24 = (upI (upI (upI (upI (aF 20 ws0) 5 0) 6 0) 7 0) 8 0) := (aF_ud u_25.1 (kd_ne (S := SC q0) kSC_20 kSC_77 (by decide))).trans hs_148
  have hs_150 : aF 20 ws_26 = (upI (upI (upI (upI (aF 20 ws0) 5 0) 6 0) 7 0) 8 0) := (aF_fr u_27 kSC_20 (by decide)).trans hs_149
  have hs_151 : aF 29 ws_1 = (upI (upI (aF 29 ws0) 7 0) 8 0) := hc_7
  have hs_152 : aF 29 ws_10 = (upI (upI (aF 29 ws0) 7 0) 8 0) := (aF_ud u_11.1 (kd_ne (S := SC q0) kSC_29 kSC_77 (by decide))).trans hs_151
  have hs_153 : aF 29 ws_12 = (upI (upI (aF 29 ws0) 7 0) 8 0) := (aF_ud u_13.1 (kd_ne (S := SC q0) kSC_29 kSC_77 (by decide))).trans hs_152
  have hs_154 : aF 29 ws_16 = (upI (upI (aF 29 ws0) 7 0) 8 0) := (aF_ud u_17.1 (kd_ne (S := SC q0) kSC_29 kSC_77 (by decide))).trans hs_153
  have hs_155 : aF 29 ws_20 = (upI (upI (aF 29 ws0) 7 0) 8 0) := (aF_ud u_21.1 (kd_ne (S := SC q0) kSC_29 kSC_77 (by decide))).trans hs_154
  have hs_156 : aF 29 ws_24 = (upI (upI (aF 29 ws0) 7 0) 8 0) := (aF_ud u_25.1 (kd_ne (S := SC q0) kSC_29 kSC_77 (by decide))).trans hs_155
  have hs_157 : aF 29 ws_26 = (upI (upI (aF 29 ws0) 7 0) 8 0) := (aF_fr u_27 kSC_29 (by decide)).trans hs_156
  exact lp_35 ((900 - v_30.toInt + 1).toNat) v_30 _ _ _ _ (o64_14 e_31) (o64_1 e_31) (o64_2 e_31) ((by rw [show (900 - v_30.toInt).toNat = 900 by omega, aR_of hs_122 hs_129 hs_136 rfl]; rfl)) ((by rw [hs_150]; show (0 : Int) = _; omega)) (Rel.fr (M := [16]) e_4 (Fr.tr (Fr.tr (Fr.tr (Fr.tr (Fr.tr (Fr.up u_11.1 kSC_77 (by decide)) (Fr.up u_13.1 kSC_77 (by decide))) (Fr.up u_17.1 kSC_77 (by decide))) (Fr.up u_21.1 kSC_77 (by decide))) (Fr.up u_25.1 kSC_77 (by decide))) u_27) (by decide) (by decide)) h Fr.rf (lv_sub hl [0, 1, 2] rfl)
