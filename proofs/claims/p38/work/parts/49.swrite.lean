/-! trays: their sort and size; what a number is cut to -/
def cutV (s : Int) (v : Int64) : Int64 := if s = 0 then v.toInt32.toInt8.toInt32.toInt64 else if s = 1 then v.toInt32.toInt16.toInt32.toInt64 else if s = 2 then v.toInt32.toInt64 else v
theorem cut0 {s : Int} {v : Int64} (h : s = 0) : cutV s v = v.toInt32.toInt8.toInt32.toInt64 := by unfold cutV; rw [if_pos h]
theorem cut1 {s : Int} {v : Int64} (h : s = 1) : cutV s v = v.toInt32.toInt16.toInt32.toInt64 := by unfold cutV; rw [if_neg (by omega), if_pos h]
theorem cut2 {s : Int} {v : Int64} (h : s = 2) : cutV s v = v.toInt32.toInt64 := by unfold cutV; rw [if_neg (by omega), if_neg (by omega), if_pos h]
theorem cut3 {s : Int} {v : Int64} (h0 : s ≠ 0) (h1 : s ≠ 1) (h2 : s ≠ 2) : cutV s v = v := by unfold cutV; rw [if_neg h0, if_neg h1, if_neg h2]
theorem l_of {w : Int64} {x : Int32} (h : w.toInt = x.toInt) : w = x.toInt64 := Int64.toInt_inj.mp (h.trans (Int32.toInt_toInt64 _).symm)
def Lay (i : Nat) (a b : Int32) (ws u : va_W) : Prop := fI u i 1 = a ∧ fI u i 2 = b ∧ ∀ k, Kd SC k 42 → k ≠ i → u[k]? = ws[k]?
theorem Lay.pre {i : Nat} {a b : Int32} {ws w1 u : va_W} (h : Lay i a b w1 u) (g : ∀ k, Kd SC k 42 → w1[k]? = ws[k]?) : Lay i a b ws u := ⟨h.1, h.2.1, fun k hk hn => (h.2.2 k hk hn).trans (g k hk)⟩
def NuC (a1 a2 a3 : Int32) (ws u : va_W) (r : Int32) : Prop := (r.toInt = 0 ∧ 0 ≤ a1.toInt ∧ a1.toInt ≤ 3 ∧ 0 ≤ a3.toInt ∧ Lay (107 + 2 * a1.toInt.toNat) a2 a3 ws u) ∨ (r.toInt ≠ 0 ∧ ∀ k, Kd SC k 42 → u[k]? = ws[k]?)
def NuM (a1 a2 a3 : Int32) (ws u : va_W) (r : Int32) : Prop := (r.toInt = 0 ∧ 0 ≤ a2.toInt ∧ aI u 23 a1.toInt.toNat = a2 ∧ aI u 24 a1.toInt.toNat = a3 ∧ ∀ j, j ≠ a1.toInt.toNat → aI u 23 j = aI ws 23 j ∧ aI u 24 j = aI ws 24 j) ∨ (r.toInt ≠ 0 ∧ ∀ j, aI u 23 j = aI ws 23 j ∧ aI u 24 j = aI ws 24 j)
theorem NuM.ok {w1 w2 w3 u ws : va_W} {a b c r : Int32} (hr : r.toInt = 0) (hb : 0 ≤ b.toInt) (f0 : Fr SM [0] ws w1) (u1 : UdA 23 a.toInt.toNat b w1 w2) (u2 : UdA 24 a.toInt.toNat c w2 w3) (f1 : Fr SM [25] w3 u) : NuM a b c ws u r := by
  have g1 : ∀ j, aI u 23 j = aI w2 23 j := fun j => (f1.aI kSM_23 (by decide)).trans (aI_of (u2.1 23 (by decide)))
  have g2 : ∀ j, aI u 24 j = aI w3 24 j := fun j => f1.aI kSM_24 (by decide)
  have g3 : ∀ j, aI w2 24 j = aI w1 24 j := fun j => aI_of (u1.1 24 (by decide))
  refine Or.inl ⟨hr, hb, (g1 _).trans u1.2.1, (g2 _).trans u2.2.1, fun j hj => ⟨?_, ?_⟩⟩
  · exact (g1 j).trans ((u1.2.2 j hj).trans (f0.aI kSM_23 (by decide)))
  · exact (g2 j).trans ((u2.2.2 j hj).trans ((g3 j).trans (f0.aI kSM_24 (by decide))))
theorem NuM.no {u ws : va_W} {a b c r : Int32} (hr : r.toInt ≠ 0) (f0 : Fr SM [0] ws u) : NuM a b c ws u r := Or.inr ⟨hr, fun j => ⟨f0.aI kSM_23 (by decide), f0.aI kSM_24 (by decide)⟩⟩
def NoT (ws : va_W) (a1 r : Int32) : Prop := (r.toInt = -2 ∧ (a1.toInt < 0 ∨ 3 < a1.toInt)) ∨ ((0 ≤ a1.toInt ∧ a1.toInt ≤ 3) ∧ (((aI ws 23 a1.toInt.toNat).toInt = -1 ∧ r.toInt = -6) ∨ ((aI ws 23 a1.toInt.toNat).toInt ≠ -1 ∧ r.toInt = 0)))
def WrF (miss : Prop) (S so : Int) (a1 a2 : Int32) (a3 r : Int64) : Prop := ((a1.toInt < 0 ∨ 3 < a1.toInt) ∧ r.toInt = -2) ∨ ((0 ≤ a1.toInt ∧ a1.toInt ≤ 3) ∧ ((miss ∧ r.toInt = -6) ∨ (¬ miss ∧ (((a2.toInt < 0 ∨ S ≤ a2.toInt) ∧ r.toInt = -7) ∨ ((0 ≤ a2.toInt ∧ a2.toInt < S) ∧ r = cutV so a3)))))
def RT (a b : va_W) : Prop := ∀ t, t < 4 → ((fI a (107 + 2 * t) 2).toInt < 0 ∧ (aI b 23 t).toInt = -1) ∨ (0 ≤ (fI a (107 + 2 * t) 2).toInt ∧ (aI b 23 t).toInt ≠ -1 ∧ fI a (107 + 2 * t) 2 = aI b 24 t ∧ fI a (107 + 2 * t) 1 = aI b 23 t)
theorem RT.cg {a a' b b' : va_W} {t : Nat} (e1 : fI a' (107 + 2 * t) 1 = fI a (107 + 2 * t) 1) (e2 : fI a' (107 + 2 * t) 2 = fI a (107 + 2 * t) 2) (e3 : aI b' 23 t = aI b 23 t) (e4 : aI b' 24 t = aI b 24 t) (h : ((fI a (107 + 2 * t) 2).toInt < 0 ∧ (aI b 23 t).toInt = -1) ∨ (0 ≤ (fI a (107 + 2 * t) 2).toInt ∧ (aI b 23 t).toInt ≠ -1 ∧ fI a (107 + 2 * t) 2 = aI b 24 t ∧ fI a (107 + 2 * t) 1 = aI b 23 t)) : ((fI a' (107 + 2 * t) 2).toInt < 0 ∧ (aI b' 23 t).toInt = -1) ∨ (0 ≤ (fI a' (107 + 2 * t) 2).toInt ∧ (aI b' 23 t).toInt ≠ -1 ∧ fI a' (107 + 2 * t) 2 = aI b' 24 t ∧ fI a' (107 + 2 * t) 1 = aI b' 23 t) := by
  rw [e1, e2, e3, e4]
  exact h
theorem RT.fr {a a' b b' : va_W} {M N : List Nat} (h : RT a b) (f : Fr SC M a a') (hM : 42 ∉ M) (g : Fr SM N b b') (hN : 23 ∉ N) (hN2 : 24 ∉ N) : RT a' b' := fun t ht => RT.cg (f.fI (aSC_44 ht) hM) (f.fI (aSC_44 ht) hM) (g.aI kSM_23 hN) (g.aI kSM_24 hN2) (h t ht)
theorem RT.nu {a a' b b' : va_W} {x y z r q : Int32} (h : RT a b) (f : NuC x y z a a' r) (g : NuM x y z b b' q) (hrq : r.toInt = q.toInt) : RT a' b' := fun t ht => by
  rcases f with ⟨f1, f2, f3, f0, f4, f5, f6⟩ | ⟨f1, f2⟩
  · rcases g with ⟨g1, g2, g3, g4, g5⟩ | ⟨g1, g2⟩
    · by_cases e : t = x.toInt.toNat
      · subst e
        rw [f4, f5, g3, g4]
        exact Or.inr ⟨f0, by omega, rfl, rfl⟩
      · have hk : (107 + 2 * t) ≠ 107 + 2 * x.toInt.toNat := by omega
        have e1 := f6 _ (aSC_44 ht) hk
        exact RT.cg (fI_of e1) (fI_of e1) (g5 t e).1 (g5 t e).2 (h t ht)
    · omega
  · rcases g with ⟨g1, g2, g3, g4, g5⟩ | ⟨g1, g2⟩
    · omega
    · have e1 := f2 _ (aSC_44 ht)
      exact RT.cg (fI_of e1) (fI_of e1) (g2 t).1 (g2 t).2 (h t ht)
theorem RT.wr {a b : va_W} {x y : Int32} {z r q : Int64} (h : RT a b) (f : WrF ((fI a (107 + 2 * x.toInt.toNat) 2).toInt < 0) (fI a (107 + 2 * x.toInt.toNat) 2).toInt (fI a (107 + 2 * x.toInt.toNat) 1).toInt x y z r) (g : WrF ((aI b 23 x.toInt.toNat).toInt = -1) (aI b 24 x.toInt.toNat).toInt (aI b 23 x.toInt.toNat).toInt x y z q) : r = q := by
  rcases f with ⟨f1, f2⟩ | ⟨⟨f1, f2⟩, f3⟩
  · rcases g with ⟨g1, g2⟩ | ⟨⟨g1, g2⟩, g3⟩
    · exact Int64.toInt_inj.mp (f2.trans g2.symm)
    · omega
  · rcases g with ⟨g1, g2⟩ | ⟨⟨g1, g2⟩, g3⟩
    · omega
    · rcases h x.toInt.toNat (by omega) with ⟨h1, h2⟩ | ⟨h1, h2, h3, h4⟩
      · rcases f3 with ⟨-, f4⟩ | ⟨f4, -⟩
        · rcases g3 with ⟨-, g4⟩ | ⟨g4, -⟩
          · exact Int64.toInt_inj.mp (f4.trans g4.symm)
          · exact absurd h2 g4
        · exact absurd h1 f4
      · rw [h3, h4] at f3
        rw [h3] at h1
        rcases f3 with ⟨f4, -⟩ | ⟨-, f4⟩
        · omega
        · rcases g3 with ⟨g4, -⟩ | ⟨-, g4⟩
          · exact absurd g4 h2
          · rcases f4 with ⟨f5, f6⟩ | ⟨⟨f5, f7⟩, f6⟩
            · rcases g4 with ⟨g5, g6⟩ | ⟨⟨g5, g7⟩, g6⟩
              · exact Int64.toInt_inj.mp (f6.trans g6.symm)
              · omega
            · rcases g4 with ⟨g5, g6⟩ | ⟨⟨g5, g7⟩, g6⟩
              · omega
              · rw [f6, g6]
set_option maxHeartbeats 4000000 in
set_option maxRecDepth 100000 in
theorem c_X10_layR (l : Launch) (G : GG) (Z : RZ) (ad : Nat → Nat) (ws0 : va_W) (hT : Ty G SC ad ws0) (i0 : Nat) (hi0 : Kd SC i0 42) (a1 : Int32) (a2 : Int32) (l2 : 0 ≤ a2.toInt) (u2 : a2.toInt ≤ 40) : Mq l yX10_lay cX10_lay 3 none 2 G Z [.ref (ad i0), .int a1, .int a2] ws0 (PV G SC ad [42, 43] ws0 (fun u => True ∧ (Lay i0 a1 a2 ws0 u))) := by
  refine Mq.start (by decide) (Nat.le_of_ble_eq_true rfl) ?_
  intro p e s m below meth c A ls C0 hZ h hl
  have hl : lv_has ls 3 [(0, .ref (ad i0)), (1, .int a1), (2, .int a2)] := hl
  have h : Wt G SC ad A s s.heap [] ws0 := ⟨h, hT⟩
  obtain ⟨args, hargs⟩ : ∃ z, z = ([.ref (ad i0), .int a1, .int a2] : List Value).toArray := ⟨_, rfl⟩
  rw [← hargs] at C0 ⊢
  have C0 : Cx p s m args meth c RX10 cX10_lay 3 none := C0
  obtain ⟨Q, hQ⟩ : ∃ z, z = MQ below ((PV G SC ad [42, 43] ws0 (fun u => True ∧ (Lay i0 a1 a2 ws0 u))) A) args s 0 0 A := ⟨_, rfl⟩
  rw [← hQ]
  refine lv_aload_n C0.1 C0.2.1 dX10_lay_0 rfl (lv_at hl 0 rfl) ?_
  refine tg_X10_values C0 h hi0 q_498 dX10_lay_1 ?_
  refine y_lc (v := 0) C0 (by decide) dX10_lay_4 (fun w_1 e_2 => ?_)
  refine y_cv h (y_rS (As := [.ref (ad (i0 + 1)), .long w_1]) (rest := []) C0 hZ h (c_J7_fill_d0a16 l G Z ad _ h.2 (i0 + 1) ((rSC_42_1 hi0)) w_1) k_J7_fill_d0a16 q_1392 q_1391 hl.1 rfl rfl (Nat.le_of_ble_eq_true rfl) dX10_lay_5 ⟨Nat.le_of_ble_eq_true rfl, Nat.le_of_ble_eq_true rfl⟩ ⟨Nat.le_of_ble_eq_true rfl, Nat.le_of_ble_eq_true rfl⟩) (fun H locs ws_3 h u_4 p_5 => ?_)
  refine lv_aload_n C0.1 C0.2.1 dX10_lay_8 rfl (lv_at hl 0 rfl) ?_
  refine lv_iload_n C0.1 C0.2.1 dX10_lay_9 rfl (lv_at hl 1 rfl) ?_
  refine tp_X10_sort C0 h hi0 q_499 (le_min a1) (le_max a1) dX10_lay_10 (fun H locs ws_6 h u_7 => ?_)
  refine lv_aload_n C0.1 C0.2.1 dX10_lay_13 rfl (lv_at hl 0 rfl) ?_
  refine lv_iload_n C0.1 C0.2.1 dX10_lay_14 rfl (lv_at hl 2 rfl) ?_
  refine tp_X10_size C0 h hi0 q_500 (o12_108 l2 u2) (o12_109 l2 u2) dX10_lay_15 (fun H locs ws_8 h u_9 => ?_)
  rw [hQ]
  exact y_vret C0 h (Fr.tr (Fr.tr (Fr.mono u_4 (by decide)) (Fr.up u_7.1 hi0 (by decide))) (Fr.up u_9.1 hi0 (by decide))) ⟨trivial, ⟨(u_9.2.2 1 (by decide)).trans u_7.2.1, u_9.2.1, fun k hk hn => (u_9.1 k hn).trans ((u_7.1 k hn).trans (u_4 k 42 hk (by decide)))⟩⟩ dX10_lay_18
set_option maxHeartbeats 4000000 in
set_option maxRecDepth 100000 in
theorem c_X10_putR (l : Launch) (G : GG) (Z : RZ) (ad : Nat → Nat) (ws0 : va_W) (hT : Ty G SC ad ws0) (i0 : Nat) (hi0 : Kd SC i0 42) (a1 : Int32) (a2 : Int64) (l1 : 0 ≤ a1.toInt) (u1 : a1.toInt ≤ 39) : Mq l yX10_put cX10_put 4 (some .long) 1 G Z [.ref (ad i0), .int a1, .long a2] ws0 (PL G SC ad [43] ws0 (fun r u => True ∧ (r = cutV (fI ws0 i0 1).toInt a2))) := by
  refine Mq.start (by decide) (Nat.le_of_ble_eq_true rfl) ?_
  intro p e s m below meth c A ls C0 hZ h hl
  have hl : lv_has ls 4 [(0, .ref (ad i0)), (1, .int a1), (2, .long a2)] := hl
  have h : Wt G SC ad A s s.heap [] ws0 := ⟨h, hT⟩
  obtain ⟨args, hargs⟩ : ∃ z, z = ([.ref (ad i0), .int a1, .long a2] : List Value).toArray := ⟨_, rfl⟩
  rw [← hargs] at C0 ⊢
  have C0 : Cx p s m args meth c RX10 cX10_put 4 (some .long) := C0
  obtain ⟨Q, hQ⟩ : ∃ z, z = MQ below ((PL G SC ad [43] ws0 (fun r u => True ∧ (r = cutV (fI ws0 i0 1).toInt a2))) A) args s 0 0 A := ⟨_, rfl⟩
  rw [← hQ]
  refine lv_aload_n C0.1 C0.2.1 dX10_put_0 rfl (lv_at hl 0 rfl) ?_
  refine tg_X10_values C0 h hi0 q_498 dX10_put_1 ?_
  refine lv_iload_n C0.1 C0.2.1 dX10_put_4 rfl (lv_at hl 1 rfl) ?_
  refine lv_aload_n C0.1 C0.2.1 dX10_put_5 rfl (lv_at hl 0 rfl) ?_
  refine tg_X10_sort C0 h hi0 q_499 dX10_put_6 (fun v_1 e_2 e_3 e_4 => ?_)
  refine y_if_ne (tgt := 19) C0 dX10_put_9 (by decide) (fun c_5 => ?_) (fun c_5 => ?_)
  · -- 9
    refine lv_aload_n C0.1 C0.2.1 dX10_put_19 rfl (lv_at hl 0 rfl) ?_
    refine tg_X10_sort C0 h hi0 q_499 dX10_put_20 (fun v_6 e_7 e_8 e_9 => ?_)
    have q_10 : v_6.toInt = v_1.toInt := congrArg Int32.toInt (e_7.symm.trans (Eq.trans rfl e_2))
    refine y_c1 (n := 1) C0 (by decide) dX10_put_23 (fun v_11 e_12 => ?_)
    refine y_icmp_ne (tgt := 34) C0 dX10_put_24 (by decide) (fun c_13 => ?_) (fun c_13 => ?_)
    · -- 24
      refine lv_aload_n C0.1 C0.2.1 dX10_put_34 rfl (lv_at hl 0 rfl) ?_
      refine tg_X10_sort C0 h hi0 q_499 dX10_put_35 (fun v_14 e_15 e_16 e_17 => ?_)
      have q_18 : v_14.toInt = v_1.toInt := congrArg Int32.toInt (e_15.symm.trans (Eq.trans rfl e_2))
      refine y_c1 (n := 2) C0 (by decide) dX10_put_38 (fun v_19 e_20 => ?_)
      refine y_icmp_ne (tgt := 48) C0 dX10_put_39 (by decide) (fun c_21 => ?_) (fun c_21 => ?_)
      · -- 39
        refine lv_lload_n C0.1 C0.2.1 dX10_put_48 rfl (lv_at hl 2 rfl) ?_
        refine y_last C0 h (rSC_42_1 hi0) rfl (by decide) (o12_110 l1 u1) (o12_111 l1 u1) dX10_put_49 (fun H locs ws_22 h u_23 => ?_)
        refine lv_aload_n C0.1 C0.2.1 dX10_put_50 rfl (lv_at hl 0 rfl) ?_
        refine tg_X10_values C0 h hi0 q_498 dX10_put_51 ?_
        refine lv_iload_n C0.1 C0.2.1 dX10_put_54 rfl (lv_at hl 1 rfl) ?_
        refine y_lald C0 h (rSC_42_1 hi0) rfl (by decide) (o12_110 l1 u1) (o12_111 l1 u1) dX10_put_55 (fun w_24 e_25 => ?_)
        have q_26 : w_24.toInt = a2.toInt := congrArg Int64.toInt (e_25.symm.trans (Eq.trans rfl u_23.2.1))
        rw [hQ]
        exact y_lret C0 h (Fr.up u_23.1 (rSC_42_1 hi0) (by decide)) ⟨trivial, (by rw [e_2]; exact (Int64.toInt_inj.mp q_26).trans (cut3 (by omega) (by omega) (by omega)).symm)⟩ dX10_put_56
      · -- 39
        refine lv_lload_n C0.1 C0.2.1 dX10_put_42 rfl (lv_at hl 2 rfl) ?_
        refine lv_l2i (v := a2.toInt32) C0.1 C0.2.1 dX10_put_43 rfl ?_
        refine y_i2l C0 dX10_put_44 (fun w_28 e_29 => ?_)
        refine lv_goto (tgt := 49) C0.1 C0.2.1 dX10_put_45 (by decide) ?_
        refine y_last C0 h (rSC_42_1 hi0) rfl (by decide) (o12_110 l1 u1) (o12_111 l1 u1) dX10_put_49 (fun H locs ws_30 h u_31 => ?_)
        refine lv_aload_n C0.1 C0.2.1 dX10_put_50 rfl (lv_at hl 0 rfl) ?_
        refine tg_X10_values C0 h hi0 q_498 dX10_put_51 ?_
        refine lv_iload_n C0.1 C0.2.1 dX10_put_54 rfl (lv_at hl 1 rfl) ?_
        refine y_lald C0 h (rSC_42_1 hi0) rfl (by decide) (o12_110 l1 u1) (o12_111 l1 u1) dX10_put_55 (fun w_32 e_33 => ?_)
        have q_34 : w_32.toInt = w_28.toInt := congrArg Int64.toInt (e_33.symm.trans (Eq.trans rfl u_31.2.1))
        rw [hQ]
        exact y_lret C0 h (Fr.up u_31.1 (rSC_42_1 hi0) (by decide)) ⟨trivial, (by rw [e_2]; exact (Int64.toInt_inj.mp q_34).trans ((l_of e_29).trans (cut2 (by omega)).symm))⟩ dX10_put_56
    · -- 24
      refine lv_lload_n C0.1 C0.2.1 dX10_put_27 rfl (lv_at hl 2 rfl) ?_
      refine lv_l2i (v := a2.toInt32) C0.1 C0.2.1 dX10_put_28 rfl ?_
      refine lv_i2s (v := a2.toInt32.toInt16.toInt32) C0.1 C0.2.1 dX10_put_29 rfl ?_
      refine y_i2l C0 dX10_put_30 (fun w_37 e_38 => ?_)
      refine lv_goto (tgt := 49) C0.1 C0.2.1 dX10_put_31 (by decide) ?_
      refine y_last C0 h (rSC_42_1 hi0) rfl (by decide) (o12_110 l1 u1) (o12_111 l1 u1) dX10_put_49 (fun H locs ws_39 h u_40 => ?_)
      refine lv_aload_n C0.1 C0.2.1 dX10_put_50 rfl (lv_at hl 0 rfl) ?_
      refine tg_X10_values C0 h hi0 q_498 dX10_put_51 ?_
      refine lv_iload_n C0.1 C0.2.1 dX10_put_54 rfl (lv_at hl 1 rfl) ?_
      refine y_lald C0 h (rSC_42_1 hi0) rfl (by decide) (o12_110 l1 u1) (o12_111 l1 u1) dX10_put_55 (fun w_41 e_42 => ?_)
      have q_43 : w_41.toInt = w_37.toInt := congrArg Int64.toInt (e_42.symm.trans (Eq.trans rfl u_40.2.1))
      rw [hQ]
      exact y_lret C0 h (Fr.up u_40.1 (rSC_42_1 hi0) (by decide)) ⟨trivial, (by rw [e_2]; exact (Int64.toInt_inj.mp q_43).trans ((l_of e_38).trans (cut1 (by omega)).symm))⟩ dX10_put_56
  · -- 9
    refine lv_lload_n C0.1 C0.2.1 dX10_put_12 rfl (lv_at hl 2 rfl) ?_
    refine lv_l2i (v := a2.toInt32) C0.1 C0.2.1 dX10_put_13 rfl ?_
    refine lv_i2b (v := a2.toInt32.toInt8.toInt32) C0.1 C0.2.1 dX10_put_14 rfl ?_
    refine y_i2l C0 dX10_put_15 (fun w_48 e_49 => ?_)
    refine lv_goto (tgt := 49) C0.1 C0.2.1 dX10_put_16 (by decide) ?_
    refine y_last C0 h (rSC_42_1 hi0) rfl (by decide) (o12_110 l1 u1) (o12_111 l1 u1) dX10_put_49 (fun H locs ws_50 h u_51 => ?_)
    refine lv_aload_n C0.1 C0.2.1 dX10_put_50 rfl (lv_at hl 0 rfl) ?_
    refine tg_X10_values C0 h hi0 q_498 dX10_put_51 ?_
    refine lv_iload_n C0.1 C0.2.1 dX10_put_54 rfl (lv_at hl 1 rfl) ?_
    refine y_lald C0 h (rSC_42_1 hi0) rfl (by decide) (o12_110 l1 u1) (o12_111 l1 u1) dX10_put_55 (fun w_52 e_53 => ?_)
    have q_54 : w_52.toInt = w_48.toInt := congrArg Int64.toInt (e_53.symm.trans (Eq.trans rfl u_51.2.1))
    rw [hQ]
    exact y_lret C0 h (Fr.up u_51.1 (rSC_42_1 hi0) (by decide)) ⟨trivial, (by rw [e_2]; exact (Int64.toInt_inj.mp q_54).trans ((l_of e_49).trans (cut0 (by omega)).symm))⟩ dX10_put_56
set_option maxHeartbeats 4000000 in
set_option maxRecDepth 100000 in
theorem c_X11_numbersR (l : Launch) (G : GG) (Z : RZ) (ad : Nat → Nat) (ws0 : va_W) (hT : Ty G SC ad ws0) (a1 : Int32) (a2 : Int32) (a3 : Int32) (hR : Rel ws0) (hH : Hok ws0) : Mq l yX11_numbers cX11_numbers 4 (some .int) 3 G Z [.ref (ad 0), .int a1, .int a2, .int a3] ws0 (PI G SC ad [42, 43] ws0 (fun r u => ((-3) ≤ r.toInt) ∧ (r.toInt ≤ 0) ∧ (((r.toInt = -2 ∧ (a1.toInt < 0 ∨ 3 < a1.toInt ∨ a2.toInt < 0 ∨ 3 < a2.toInt)) ∨ (0 ≤ a1.toInt ∧ a1.toInt ≤ 3 ∧ 0 ≤ a2.toInt ∧ a2.toInt ≤ 3 ∧ ((r.toInt = -3 ∧ (a3.toInt < 0 ∨ 40 < a3.toInt)) ∨ (r.toInt = 0 ∧ 0 ≤ a3.toInt ∧ a3.toInt ≤ 40))))) ∧ (Rel u) ∧ (Hok u) ∧ (NuC a1 a2 a3 ws0 u r))) := by
  refine Mq.start (by decide) (Nat.le_of_ble_eq_true rfl) ?_
  intro p e s m below meth c A ls C0 hZ h hl
  have hl : lv_has ls 4 [(0, .ref (ad 0)), (1, .int a1), (2, .int a2), (3, .int a3)] := hl
  have h : Wt G SC ad A s s.heap [] ws0 := ⟨h, hT⟩
  obtain ⟨args, hargs⟩ : ∃ z, z = ([.ref (ad 0), .int a1, .int a2, .int a3] : List Value).toArray := ⟨_, rfl⟩
  rw [← hargs] at C0 ⊢
  have C0 : Cx p s m args meth c RX11 cX11_numbers 4 (some .int) := C0
  obtain ⟨Q, hQ⟩ : ∃ z, z = MQ below ((PI G SC ad [42, 43] ws0 (fun r u => ((-3) ≤ r.toInt) ∧ (r.toInt ≤ 0) ∧ (((r.toInt = -2 ∧ (a1.toInt < 0 ∨ 3 < a1.toInt ∨ a2.toInt < 0 ∨ 3 < a2.toInt)) ∨ (0 ≤ a1.toInt ∧ a1.toInt ≤ 3 ∧ 0 ≤ a2.toInt ∧ a2.toInt ≤ 3 ∧ ((r.toInt = -3 ∧ (a3.toInt < 0 ∨ 40 < a3.toInt)) ∨ (r.toInt = 0 ∧ 0 ≤ a3.toInt ∧ a3.toInt ≤ 40))))) ∧ (Rel u) ∧ (Hok u) ∧ (NuC a1 a2 a3 ws0 u r))) A) args s 0 0 A := ⟨_, rfl⟩
  rw [← hQ]
  refine lv_iload_n C0.1 C0.2.1 dX11_numbers_0 rfl (lv_at hl 1 rfl) ?_
  refine y_ci h (y_rS (As := [.int a1]) (rest := []) C0 hZ h (c_X11_isTray l G Z ad _ h.2 a1) k_X11_isTray q_998 q_997 hl.1 rfl rfl (Nat.le_of_ble_eq_true rfl) dX11_numbers_1 ⟨Nat.le_of_ble_eq_true rfl, Nat.le_of_ble_eq_true rfl⟩ ⟨Nat.le_of_ble_eq_true rfl, Nat.le_of_ble_eq_true rfl⟩) (fun r_4 H locs ws_1 h u_2 p_3 => ?_)
  obtain ⟨e_5, e_6, e_7⟩ := p_3
  refine y_if_eq (tgt := 16) C0 dX11_numbers_4 (by decide) (fun c_8 => ?_) (fun c_8 => ?_)
  · -- 4
    refine y_c2 (n := (-2)) C0 (by decide) dX11_numbers_16 (fun v_9 e_10 => ?_)
    rw [hQ]
    exact y_iret C0 h (Fr.mono u_2 (by decide)) ⟨(o28_1 e_10), (o28_162 e_10), (o28_163 e_5 e_6 e_7 c_8 e_10), (Rel.fr (M := []) hR u_2 (by decide) (by decide)), (Hok.fr (M := []) hH u_2 (by decide)), Or.inr ⟨by omega, fun k hk => u_2 k 42 hk (by decide)⟩⟩ dX11_numbers_18
  · -- 4
    refine lv_iload_n C0.1 C0.2.1 dX11_numbers_7 rfl (lv_at hl 2 rfl) ?_
    refine y_if_lt (tgt := 16) C0 dX11_numbers_8 (by decide) (fun c_11 => ?_) (fun c_11 => ?_)
    · -- 8
      refine y_c2 (n := (-2)) C0 (by decide) dX11_numbers_16 (fun v_12 e_13 => ?_)
      rw [hQ]
      exact y_iret C0 h (Fr.mono u_2 (by decide)) ⟨(o28_1 e_13), (o28_162 e_13), (o28_164 e_5 e_6 e_7 c_8 c_11 e_13), (Rel.fr (M := []) hR u_2 (by decide) (by decide)), (Hok.fr (M := []) hH u_2 (by decide)), Or.inr ⟨by omega, fun k hk => u_2 k 42 hk (by decide)⟩⟩ dX11_numbers_18
    · -- 8
      refine lv_iload_n C0.1 C0.2.1 dX11_numbers_11 rfl (lv_at hl 2 rfl) ?_
      refine y_c1 (n := 3) C0 (by decide) dX11_numbers_12 (fun v_14 e_15 => ?_)
      refine y_icmp_le (tgt := 19) C0 dX11_numbers_13 (by decide) (fun c_16 => ?_) (fun c_16 => ?_)
      · -- 13
        refine lv_iload_n C0.1 C0.2.1 dX11_numbers_19 rfl (lv_at hl 3 rfl) ?_
        refine y_if_lt (tgt := 29) C0 dX11_numbers_20 (by decide) (fun c_17 => ?_) (fun c_17 => ?_)
        · -- 20
          refine y_c2 (n := (-3)) C0 (by decide) dX11_numbers_29 (fun v_18 e_19 => ?_)
          rw [hQ]
          exact y_iret C0 h (Fr.mono u_2 (by decide)) ⟨(o28_3 e_19), (o28_165 e_19), (o28_166 e_5 e_6 e_7 c_8 c_11 e_15 c_16 c_17 e_19), (Rel.fr (M := []) hR u_2 (by decide) (by decide)), (Hok.fr (M := []) hH u_2 (by decide)), Or.inr ⟨by omega, fun k hk => u_2 k 42 hk (by decide)⟩⟩ dX11_numbers_31
        · -- 20
          refine lv_iload_n C0.1 C0.2.1 dX11_numbers_23 rfl (lv_at hl 3 rfl) ?_
          refine y_c2 (n := 40) C0 (by decide) dX11_numbers_24 (fun v_20 e_21 => ?_)
          refine y_icmp_le (tgt := 32) C0 dX11_numbers_26 (by decide) (fun c_22 => ?_) (fun c_22 => ?_)
          · -- 26
            refine lv_aload_n C0.1 C0.2.1 dX11_numbers_32 rfl (lv_at hl 0 rfl) ?_
            refine tg_X11_trays C0 h kSC_0 q_524 dX11_numbers_33 ?_
            refine lv_iload_n C0.1 C0.2.1 dX11_numbers_36 rfl (lv_at hl 1 rfl) ?_
            refine y_aald C0 h kSC_115 rfl rfl (by decide) (o28_43 e_5 e_6 e_7 c_8) (o28_44 e_5 e_6 e_7 c_8) dX11_numbers_37 ?_
            obtain ⟨i_23, hi_23, ei_23⟩ : ∃ j : Nat, Kd SC j 42 ∧ j = 107 + 2 * a1.toInt.toNat := ⟨_, aSC_44 (o28_45 e_5 e_6 e_7 c_8), rfl⟩
            rw [← ei_23]
            refine lv_iload_n C0.1 C0.2.1 dX11_numbers_38 rfl (lv_at hl 2 rfl) ?_
            refine lv_iload_n C0.1 C0.2.1 dX11_numbers_39 rfl (lv_at hl 3 rfl) ?_
            refine y_cv h (y_rV (As := [.int a2, .int a3]) (rest := []) C0 hZ h (c_X10_layR l G Z ad _ h.2 i_23 hi_23 a2 a3 (o28_30 c_17 e_21 c_22) (o28_31 c_17 e_21 c_22)) k_X10_lay q_1388 q_1389 q_1387 hi_23 rfl rfl rfl hl.1 rfl rfl (Nat.le_of_ble_eq_true rfl) dX11_numbers_40 ⟨Nat.le_of_ble_eq_true rfl, Nat.le_of_ble_eq_true rfl⟩ ⟨Nat.le_of_ble_eq_true rfl, Nat.le_of_ble_eq_true rfl⟩) (fun H locs ws_24 h u_25 p_26 => ?_)
            refine y_c1 (n := 0) C0 (by decide) dX11_numbers_43 (fun v_27 e_28 => ?_)
            rw [hQ]
            exact y_iret C0 h (Fr.tr (Fr.mono u_2 (by decide)) u_25) ⟨(o28_167 e_28), (o28_48 e_28), (o28_168 e_5 e_6 e_7 c_8 c_11 e_15 c_16 c_17 e_21 c_22 e_28), (Rel.fr (M := [42, 43]) hR (Fr.tr (Fr.mono u_2 (by decide)) u_25) (by decide) (by decide)), (Hok.fr (M := [42, 43]) hH (Fr.tr (Fr.mono u_2 (by decide)) u_25) (by decide)), Or.inl ⟨e_28, by omega, by omega, by omega, ei_23 ▸ Lay.pre p_26.2 (fun k hk => u_2 k 42 hk (by decide))⟩⟩ dX11_numbers_44
          · -- 26
            refine y_c2 (n := (-3)) C0 (by decide) dX11_numbers_29 (fun v_29 e_30 => ?_)
            rw [hQ]
            exact y_iret C0 h (Fr.mono u_2 (by decide)) ⟨(o28_3 e_30), (o28_165 e_30), (o28_169 e_5 e_6 e_7 c_8 c_11 e_15 c_16 c_17 e_21 c_22 e_30), (Rel.fr (M := []) hR u_2 (by decide) (by decide)), (Hok.fr (M := []) hH u_2 (by decide)), Or.inr ⟨by omega, fun k hk => u_2 k 42 hk (by decide)⟩⟩ dX11_numbers_31
      · -- 13
        refine y_c2 (n := (-2)) C0 (by decide) dX11_numbers_16 (fun v_31 e_32 => ?_)
        rw [hQ]
        exact y_iret C0 h (Fr.mono u_2 (by decide)) ⟨(o28_1 e_32), (o28_162 e_32), (o28_170 e_5 e_6 e_7 c_8 c_11 e_15 c_16 e_32), (Rel.fr (M := []) hR u_2 (by decide) (by decide)), (Hok.fr (M := []) hH u_2 (by decide)), Or.inr ⟨by omega, fun k hk => u_2 k 42 hk (by decide)⟩⟩ dX11_numbers_18
set_option maxHeartbeats 4000000 in
set_option maxRecDepth 100000 in
theorem c_X11_writeR (l : Launch) (G : GG) (Z : RZ) (ad : Nat → Nat) (ws0 : va_W) (hT : Ty G SC ad ws0) (a1 : Int32) (a2 : Int32) (a3 : Int64) (hR : Rel ws0) (hH : Hok ws0) : Mq l yX11_write cX11_write 6 (some .long) 2 G Z [.ref (ad 0), .int a1, .int a2, .long a3] ws0 (PL G SC ad [43] ws0 (fun r u => (Rel u) ∧ (Hok u) ∧ (WrF ((fI ws0 (107 + 2 * a1.toInt.toNat) 2).toInt < 0) (fI ws0 (107 + 2 * a1.toInt.toNat) 2).toInt (fI ws0 (107 + 2 * a1.toInt.toNat) 1).toInt a1 a2 a3 r))) := by
  refine Mq.start (by decide) (Nat.le_of_ble_eq_true rfl) ?_
  intro p e s m below meth c A ls C0 hZ h hl
  have hl : lv_has ls 6 [(0, .ref (ad 0)), (1, .int a1), (2, .int a2), (3, .long a3)] := hl
  have h : Wt G SC ad A s s.heap [] ws0 := ⟨h, hT⟩
  obtain ⟨args, hargs⟩ : ∃ z, z = ([.ref (ad 0), .int a1, .int a2, .long a3] : List Value).toArray := ⟨_, rfl⟩
  rw [← hargs] at C0 ⊢
  have C0 : Cx p s m args meth c RX11 cX11_write 6 (some .long) := C0
  obtain ⟨Q, hQ⟩ : ∃ z, z = MQ below ((PL G SC ad [43] ws0 (fun r u => (Rel u) ∧ (Hok u) ∧ (WrF ((fI ws0 (107 + 2 * a1.toInt.toNat) 2).toInt < 0) (fI ws0 (107 + 2 * a1.toInt.toNat) 2).toInt (fI ws0 (107 + 2 * a1.toInt.toNat) 1).toInt a1 a2 a3 r))) A) args s 0 0 A := ⟨_, rfl⟩
  rw [← hQ]
  refine lv_iload_n C0.1 C0.2.1 dX11_write_0 rfl (lv_at hl 1 rfl) ?_
  refine y_ci h (y_rS (As := [.int a1]) (rest := []) C0 hZ h (c_X11_isTray l G Z ad _ h.2 a1) k_X11_isTray q_998 q_997 hl.1 rfl rfl (Nat.le_of_ble_eq_true rfl) dX11_write_1 ⟨Nat.le_of_ble_eq_true rfl, Nat.le_of_ble_eq_true rfl⟩ ⟨Nat.le_of_ble_eq_true rfl, Nat.le_of_ble_eq_true rfl⟩) (fun r_4 H locs ws_1 h u_2 p_3 => ?_)
  obtain ⟨e_5, e_6, e_7⟩ := p_3
  refine y_if_ne (tgt := 11) C0 dX11_write_4 (by decide) (fun c_8 => ?_) (fun c_8 => ?_)
  · -- 4
    refine lv_aload_n C0.1 C0.2.1 dX11_write_11 rfl (lv_at hl 0 rfl) ?_
    refine tg_X11_trays C0 h kSC_0 q_524 dX11_write_12 ?_
    refine lv_iload_n C0.1 C0.2.1 dX11_write_15 rfl (lv_at hl 1 rfl) ?_
    refine y_aald C0 h kSC_115 rfl rfl (by decide) (o28_43 e_5 e_6 e_7 c_8) (o28_44 e_5 e_6 e_7 c_8) dX11_write_16 ?_
    obtain ⟨i_9, hi_9, ei_9⟩ : ∃ j : Nat, Kd SC j 42 ∧ j = 107 + 2 * a1.toInt.toNat := ⟨_, aSC_44 (o28_45 e_5 e_6 e_7 c_8), rfl⟩
    rw [← ei_9]
    refine lv_astore (lv' := [(5, .ref (ad i_9)), (0, .ref (ad 0)), (1, .int a1), (2, .int a2), (3, .long a3)]) C0.1 C0.2.1 dX11_write_17 hl (by decide) rfl (fun ls hl => ?_)
    refine lv_aload C0.1 C0.2.1 dX11_write_19 (lv_at hl 0 rfl) ?_
    refine tg_X10_size C0 h hi_9 q_502 dX11_write_21 (fun v_10 e_11 e_12 e_13 => ?_)
    refine y_if_ge (tgt := 31) C0 dX11_write_24 (by decide) (fun c_14 => ?_) (fun c_14 => ?_)
    · -- 24
      refine lv_iload_n C0.1 C0.2.1 dX11_write_31 rfl (lv_at hl 3 rfl) ?_
      refine y_if_lt (tgt := 44) C0 dX11_write_32 (by decide) (fun c_15 => ?_) (fun c_15 => ?_)
      · -- 32
        refine y_lc2 (n := (-7)) C0 q_1399 (by decide) dX11_write_44 (fun w_16 e_17 => ?_)
        rw [hQ]
        exact y_lret C0 h (Fr.mono u_2 (by decide)) ⟨(Rel.fr (M := []) hR u_2 (by decide) (by decide)), (Hok.fr (M := []) hH u_2 (by decide)), (by rw [← ei_9, ← (u_2.fI (k := 2) hi_9 (by decide)), ← (u_2.fI (k := 1) hi_9 (by decide)), e_11]; exact Or.inr ⟨⟨by omega, by omega⟩, Or.inr ⟨by omega, Or.inl ⟨by omega, e_17⟩⟩⟩)⟩ dX11_write_47
      · -- 32
        refine lv_iload_n C0.1 C0.2.1 dX11_write_35 rfl (lv_at hl 3 rfl) ?_
        refine lv_aload C0.1 C0.2.1 dX11_write_36 (lv_at hl 0 rfl) ?_
        refine tg_X10_size C0 h hi_9 q_502 dX11_write_38 (fun v_18 e_19 e_20 e_21 => ?_)
        have q_22 : v_18.toInt = v_10.toInt := congrArg Int32.toInt (e_19.symm.trans (Eq.trans rfl e_11))
        refine y_icmp_lt (tgt := 48) C0 dX11_write_41 (by decide) (fun c_23 => ?_) (fun c_23 => ?_)
        · -- 41
          refine lv_aload C0.1 C0.2.1 dX11_write_48 (lv_at hl 0 rfl) ?_
          refine lv_iload_n C0.1 C0.2.1 dX11_write_50 rfl (lv_at hl 3 rfl) ?_
          refine lv_lload_n C0.1 C0.2.1 dX11_write_51 rfl (lv_at hl 4 rfl) ?_
          refine y_cl h (y_rV (As := [.int a2, .long a3]) (rest := []) C0 hZ h (c_X10_putR l G Z ad _ h.2 i_9 hi_9 a2 a3 (o28_171 e_12 e_13 c_14 c_15 e_20 e_21 q_22 c_23) (o28_172 e_12 e_13 c_14 c_15 e_20 e_21 q_22 c_23)) k_X10_put q_1401 q_1402 q_1400 hi_9 rfl rfl rfl hl.1 rfl rfl (Nat.le_of_ble_eq_true rfl) dX11_write_52 ⟨Nat.le_of_ble_eq_true rfl, Nat.le_of_ble_eq_true rfl⟩ ⟨Nat.le_of_ble_eq_true rfl, Nat.le_of_ble_eq_true rfl⟩) (fun r_27 H locs ws_24 h u_25 p_26 => ?_)
          rw [hQ]
          exact y_lret C0 h (Fr.tr (Fr.mono u_2 (by decide)) u_25) ⟨(Rel.fr (M := [43]) hR (Fr.tr (Fr.mono u_2 (by decide)) u_25) (by decide) (by decide)), (Hok.fr (M := [43]) hH (Fr.tr (Fr.mono u_2 (by decide)) u_25) (by decide)), (by rw [← ei_9, ← (u_2.fI (k := 2) hi_9 (by decide)), ← (u_2.fI (k := 1) hi_9 (by decide)), e_11]; exact Or.inr ⟨⟨by omega, by omega⟩, Or.inr ⟨by omega, Or.inr ⟨⟨by omega, by omega⟩, p_26.2⟩⟩⟩)⟩ dX11_write_55
        · -- 41
          refine y_lc2 (n := (-7)) C0 q_1399 (by decide) dX11_write_44 (fun w_28 e_29 => ?_)
          rw [hQ]
          exact y_lret C0 h (Fr.mono u_2 (by decide)) ⟨(Rel.fr (M := []) hR u_2 (by decide) (by decide)), (Hok.fr (M := []) hH u_2 (by decide)), (by rw [← ei_9, ← (u_2.fI (k := 2) hi_9 (by decide)), ← (u_2.fI (k := 1) hi_9 (by decide)), e_11]; exact Or.inr ⟨⟨by omega, by omega⟩, Or.inr ⟨by omega, Or.inl ⟨by omega, e_29⟩⟩⟩)⟩ dX11_write_47
    · -- 24
      refine y_lc2 (n := (-6)) C0 q_1398 (by decide) dX11_write_27 (fun w_30 e_31 => ?_)
      rw [hQ]
      exact y_lret C0 h (Fr.mono u_2 (by decide)) ⟨(Rel.fr (M := []) hR u_2 (by decide) (by decide)), (Hok.fr (M := []) hH u_2 (by decide)), (by rw [← ei_9, ← (u_2.fI (k := 2) hi_9 (by decide)), ← (u_2.fI (k := 1) hi_9 (by decide)), e_11]; exact Or.inr ⟨⟨by omega, by omega⟩, Or.inl ⟨by omega, e_31⟩⟩)⟩ dX11_write_30
  · -- 4
    refine y_lc2 (n := (-2)) C0 q_1229 (by decide) dX11_write_7 (fun w_32 e_33 => ?_)
    rw [hQ]
    exact y_lret C0 h (Fr.mono u_2 (by decide)) ⟨(Rel.fr (M := []) hR u_2 (by decide) (by decide)), (Hok.fr (M := []) hH u_2 (by decide)), Or.inl ⟨by omega, e_33⟩⟩ dX11_write_10
set_option maxHeartbeats 4000000 in
set_option maxRecDepth 100000 in
theorem c_X12_cutR (l : Launch) (G : GG) (Z : RZ) (ad : Nat → Nat) (ws0 : va_W) (hT : Ty G SM ad ws0) (a0 : Int64) (a1 : Int32) : Mq l yX12_cut cX12_cut 3 (some .long) 1 G Z [.long a0, .int a1] ws0 (PL G SM ad [] ws0 (fun r u => True ∧ (r = cutV a1.toInt a0))) := by
  refine Mq.start (by decide) (Nat.le_of_ble_eq_true rfl) ?_
  intro p e s m below meth c A ls C0 hZ h hl
  have hl : lv_has ls 3 [(0, .long a0), (2, .int a1)] := hl
  have h : Wt G SM ad A s s.heap [] ws0 := ⟨h, hT⟩
  obtain ⟨args, hargs⟩ : ∃ z, z = ([.long a0, .int a1] : List Value).toArray := ⟨_, rfl⟩
  rw [← hargs] at C0 ⊢
  have C0 : Cx p s m args meth c RX12 cX12_cut 3 (some .long) := C0
  obtain ⟨Q, hQ⟩ : ∃ z, z = MQ below ((PL G SM ad [] ws0 (fun r u => True ∧ (r = cutV a1.toInt a0))) A) args s 0 0 A := ⟨_, rfl⟩
  rw [← hQ]
  refine lv_iload_n C0.1 C0.2.1 dX12_cut_0 rfl (lv_at hl 1 rfl) ?_
  refine y_if_ne (tgt := 11) C0 dX12_cut_1 (by decide) (fun c_1 => ?_) (fun c_1 => ?_)
  · -- 1
    refine lv_iload_n C0.1 C0.2.1 dX12_cut_11 rfl (lv_at hl 1 rfl) ?_
    refine y_c1 (n := 1) C0 (by decide) dX12_cut_12 (fun v_2 e_3 => ?_)
    refine y_icmp_ne (tgt := 23) C0 dX12_cut_13 (by decide) (fun c_4 => ?_) (fun c_4 => ?_)
    · -- 13
      refine lv_iload_n C0.1 C0.2.1 dX12_cut_23 rfl (lv_at hl 1 rfl) ?_
      refine y_c1 (n := 2) C0 (by decide) dX12_cut_24 (fun v_5 e_6 => ?_)
      refine y_icmp_ne (tgt := 34) C0 dX12_cut_25 (by decide) (fun c_7 => ?_) (fun c_7 => ?_)
      · -- 25
        refine lv_lload_n C0.1 C0.2.1 dX12_cut_34 rfl (lv_at hl 0 rfl) ?_
        rw [hQ]
        exact y_lret C0 h Fr.rf ⟨trivial, (cut3 (by omega) (by omega) (by omega)).symm⟩ dX12_cut_35
      · -- 25
        refine lv_lload_n C0.1 C0.2.1 dX12_cut_28 rfl (lv_at hl 0 rfl) ?_
        refine lv_l2i (v := a0.toInt32) C0.1 C0.2.1 dX12_cut_29 rfl ?_
        refine y_i2l C0 dX12_cut_30 (fun w_9 e_10 => ?_)
        refine lv_goto (tgt := 35) C0.1 C0.2.1 dX12_cut_31 (by decide) ?_
        rw [hQ]
        exact y_lret C0 h Fr.rf ⟨trivial, (l_of e_10).trans (cut2 (by omega)).symm⟩ dX12_cut_35
    · -- 13
      refine lv_lload_n C0.1 C0.2.1 dX12_cut_16 rfl (lv_at hl 0 rfl) ?_
      refine lv_l2i (v := a0.toInt32) C0.1 C0.2.1 dX12_cut_17 rfl ?_
      refine lv_i2s (v := a0.toInt32.toInt16.toInt32) C0.1 C0.2.1 dX12_cut_18 rfl ?_
      refine y_i2l C0 dX12_cut_19 (fun w_13 e_14 => ?_)
      refine lv_goto (tgt := 35) C0.1 C0.2.1 dX12_cut_20 (by decide) ?_
      rw [hQ]
      exact y_lret C0 h Fr.rf ⟨trivial, (l_of e_14).trans (cut1 (by omega)).symm⟩ dX12_cut_35
  · -- 1
    refine lv_lload_n C0.1 C0.2.1 dX12_cut_4 rfl (lv_at hl 0 rfl) ?_
    refine lv_l2i (v := a0.toInt32) C0.1 C0.2.1 dX12_cut_5 rfl ?_
    refine lv_i2b (v := a0.toInt32.toInt8.toInt32) C0.1 C0.2.1 dX12_cut_6 rfl ?_
    refine y_i2l C0 dX12_cut_7 (fun w_19 e_20 => ?_)
    refine lv_goto (tgt := 35) C0.1 C0.2.1 dX12_cut_8 (by decide) ?_
    rw [hQ]
    exact y_lret C0 h Fr.rf ⟨trivial, (l_of e_20).trans (cut0 (by omega)).symm⟩ dX12_cut_35

set_option maxHeartbeats 4000000 in
set_option maxRecDepth 100000 in
theorem c_X12_noTrayR (l : Launch) (G : GG) (Z : RZ) (ad : Nat → Nat) (ws0 : va_W) (hT : Ty G SM ad ws0) (a1 : Int32) : Mq l yX12_noTray cX12_noTray 2 (some .int) 2 G Z [.ref (ad 0), .int a1] ws0 (PI G SM ad [] ws0 (fun r u => ((-6) ≤ r.toInt) ∧ (r.toInt ≤ 0) ∧ ((r.toInt = -2 ∨ (0 ≤ a1.toInt ∧ a1.toInt ≤ 3))) ∧ (NoT ws0 a1 r))) := by
  refine Mq.start (by decide) (Nat.le_of_ble_eq_true rfl) ?_
  intro p e s m below meth c A ls C0 hZ h hl
  have hl : lv_has ls 2 [(0, .ref (ad 0)), (1, .int a1)] := hl
  have h : Wt G SM ad A s s.heap [] ws0 := ⟨h, hT⟩
  obtain ⟨args, hargs⟩ : ∃ z, z = ([.ref (ad 0), .int a1] : List Value).toArray := ⟨_, rfl⟩
  rw [← hargs] at C0 ⊢
  have C0 : Cx p s m args meth c RX12 cX12_noTray 2 (some .int) := C0
  obtain ⟨Q, hQ⟩ : ∃ z, z = MQ below ((PI G SM ad [] ws0 (fun r u => ((-6) ≤ r.toInt) ∧ (r.toInt ≤ 0) ∧ ((r.toInt = -2 ∨ (0 ≤ a1.toInt ∧ a1.toInt ≤ 3))) ∧ (NoT ws0 a1 r))) A) args s 0 0 A := ⟨_, rfl⟩
  rw [← hQ]
  refine lv_iload_n C0.1 C0.2.1 dX12_noTray_0 rfl (lv_at hl 1 rfl) ?_
  refine y_i2l C0 dX12_noTray_1 (fun w_1 e_2 => ?_)
  refine y_lc (v := 0) C0 (by decide) dX12_noTray_2 (fun w_3 e_4 => ?_)
  refine y_lc2 (n := 3) C0 q_1710 (by decide) dX12_noTray_3 (fun w_5 e_6 => ?_)
  refine y_ci h (y_rS (As := [.long w_1, .long w_3, .long w_5]) (rest := []) C0 hZ h (c_X12_within l G Z ad _ h.2 w_1 w_3 w_5) k_X12_within q_1580 q_1579 hl.1 rfl rfl (Nat.le_of_ble_eq_true rfl) dX12_noTray_6 ⟨Nat.le_of_ble_eq_true rfl, Nat.le_of_ble_eq_true rfl⟩ ⟨Nat.le_of_ble_eq_true rfl, Nat.le_of_ble_eq_true rfl⟩) (fun r_10 H locs ws_7 h u_8 p_9 => ?_)
  obtain ⟨e_11, e_12, e_13⟩ := p_9
  refine y_if_ne (tgt := 17) C0 dX12_noTray_9 (by decide) (fun c_14 => ?_) (fun c_14 => ?_)
  · -- 9
    refine lv_aload_n C0.1 C0.2.1 dX12_noTray_17 rfl (lv_at hl 0 rfl) ?_
    refine ng_X12_rowSort C0 h kSM_0 q_1479 dX12_noTray_18 ?_
    refine lv_iload_n C0.1 C0.2.1 dX12_noTray_21 rfl (lv_at hl 1 rfl) ?_
    refine y_iald C0 h kSM_23 rfl (by decide) (o35_1 e_2 e_4 e_6 e_11 e_12 e_13 c_14) (o35_2 e_2 e_4 e_6 e_11 e_12 e_13 c_14) dX12_noTray_22 (fun v_15 e_16 e_17 e_18 => ?_)
    refine y_c1 (n := (-1)) C0 (by decide) dX12_noTray_23 (fun v_19 e_20 => ?_)
    refine y_icmp_ne (tgt := 32) C0 dX12_noTray_24 (by decide) (fun c_21 => ?_) (fun c_21 => ?_)
    · -- 24
      refine y_c1 (n := 0) C0 (by decide) dX12_noTray_32 (fun v_22 e_23 => ?_)
      rw [hQ]
      exact y_iret C0 h u_8 ⟨(o35_3 e_23), (o35_4 e_23), (o35_5 e_2 e_4 e_6 e_11 e_12 e_13 c_14 e_23), Or.inr ⟨⟨by omega, by omega⟩, Or.inr ⟨(by rw [← (u_8.aI (k := a1.toInt.toNat) kSM_23 (by decide)), e_16]; omega), e_23⟩⟩⟩ dX12_noTray_33
    · -- 24
      refine y_c2 (n := (-6)) C0 (by decide) dX12_noTray_27 (fun v_24 e_25 => ?_)
      refine lv_goto (tgt := 33) C0.1 C0.2.1 dX12_noTray_29 (by decide) ?_
      rw [hQ]
      exact y_iret C0 h u_8 ⟨(o35_6 e_25), (o35_7 e_25), (o35_8 e_2 e_4 e_6 e_11 e_12 e_13 c_14 e_25), Or.inr ⟨⟨by omega, by omega⟩, Or.inl ⟨(by rw [← (u_8.aI (k := a1.toInt.toNat) kSM_23 (by decide)), e_16]; omega), e_25⟩⟩⟩ dX12_noTray_33
  · -- 9
    refine y_c2 (n := (-2)) C0 (by decide) dX12_noTray_12 (fun v_26 e_27 => ?_)
    refine lv_goto (tgt := 33) C0.1 C0.2.1 dX12_noTray_14 (by decide) ?_
    rw [hQ]
    exact y_iret C0 h u_8 ⟨(o35_9 e_27), (o35_10 e_27), (o35_11 e_2 e_4 e_6 e_11 e_12 e_13 c_14 e_27), Or.inl ⟨e_27, by omega⟩⟩ dX12_noTray_33
set_option maxHeartbeats 4000000 in
set_option maxRecDepth 100000 in
theorem c_X12_numbersR (l : Launch) (G : GG) (Z : RZ) (ad : Nat → Nat) (ws0 : va_W) (hT : Ty G SM ad ws0) (a1 : Int32) (a2 : Int32) (a3 : Int32) : Mq l yX12_numbers cX12_numbers 5 (some .int) 2 G Z [.ref (ad 0), .int a1, .int a2, .int a3] ws0 (PI G SM ad [0, 23, 24, 25] ws0 (fun r u => ((-3) ≤ r.toInt) ∧ (r.toInt ≤ 0) ∧ (((r.toInt = -2 ∧ (a1.toInt < 0 ∨ 3 < a1.toInt ∨ a2.toInt < 0 ∨ 3 < a2.toInt)) ∨ (0 ≤ a1.toInt ∧ a1.toInt ≤ 3 ∧ 0 ≤ a2.toInt ∧ a2.toInt ≤ 3 ∧ ((r.toInt = -3 ∧ (a3.toInt < 0 ∨ 40 < a3.toInt)) ∨ (r.toInt = 0 ∧ 0 ≤ a3.toInt ∧ a3.toInt ≤ 40))))) ∧ (NuM a1 a2 a3 ws0 u r))) := by
  refine Mq.start (by decide) (Nat.le_of_ble_eq_true rfl) ?_
  intro p e s m below meth c A ls C0 hZ h hl
  have hl : lv_has ls 5 [(0, .ref (ad 0)), (1, .int a1), (2, .int a2), (3, .int a3)] := hl
  have h : Wt G SM ad A s s.heap [] ws0 := ⟨h, hT⟩
  obtain ⟨args, hargs⟩ : ∃ z, z = ([.ref (ad 0), .int a1, .int a2, .int a3] : List Value).toArray := ⟨_, rfl⟩
  rw [← hargs] at C0 ⊢
  have C0 : Cx p s m args meth c RX12 cX12_numbers 5 (some .int) := C0
  obtain ⟨Q, hQ⟩ : ∃ z, z = MQ below ((PI G SM ad [0, 23, 24, 25] ws0 (fun r u => ((-3) ≤ r.toInt) ∧ (r.toInt ≤ 0) ∧ (((r.toInt = -2 ∧ (a1.toInt < 0 ∨ 3 < a1.toInt ∨ a2.toInt < 0 ∨ 3 < a2.toInt)) ∨ (0 ≤ a1.toInt ∧ a1.toInt ≤ 3 ∧ 0 ≤ a2.toInt ∧ a2.toInt ≤ 3 ∧ ((r.toInt = -3 ∧ (a3.toInt < 0 ∨ 40 < a3.toInt)) ∨ (r.toInt = 0 ∧ 0 ≤ a3.toInt ∧ a3.toInt ≤ 40))))) ∧ (NuM a1 a2 a3 ws0 u r))) A) args s 0 0 A := ⟨_, rfl⟩
  rw [← hQ]
  refine lv_aload_n C0.1 C0.2.1 dX12_numbers_0 rfl (lv_at hl 0 rfl) ?_
  refine y_c1 (n := 0) C0 (by decide) dX12_numbers_1 (fun v_1 e_2 => ?_)
  refine np_X12_thrown C0 h kSM_0 q_1438 (le_min v_1) (le_max v_1) dX12_numbers_2 (fun H locs ws_3 h u_4 => ?_)
  refine lv_iload_n C0.1 C0.2.1 dX12_numbers_5 rfl (lv_at hl 1 rfl) ?_
  refine y_i2l C0 dX12_numbers_6 (fun w_5 e_6 => ?_)
  refine y_lc (v := 0) C0 (by decide) dX12_numbers_7 (fun w_7 e_8 => ?_)
  refine y_lc2 (n := 3) C0 q_1710 (by decide) dX12_numbers_8 (fun w_9 e_10 => ?_)
  refine y_ci h (y_rS (As := [.long w_5, .long w_7, .long w_9]) (rest := []) C0 hZ h (c_X12_within l G Z ad _ h.2 w_5 w_7 w_9) k_X12_within q_1580 q_1579 hl.1 rfl rfl (Nat.le_of_ble_eq_true rfl) dX12_numbers_11 ⟨Nat.le_of_ble_eq_true rfl, Nat.le_of_ble_eq_true rfl⟩ ⟨Nat.le_of_ble_eq_true rfl, Nat.le_of_ble_eq_true rfl⟩) (fun r_14 H locs ws_11 h u_12 p_13 => ?_)
  obtain ⟨e_15, e_16, e_17⟩ := p_13
  refine y_if_eq (tgt := 29) C0 dX12_numbers_14 (by decide) (fun c_18 => ?_) (fun c_18 => ?_)
  · -- 14
    refine y_c2 (n := (-2)) C0 (by decide) dX12_numbers_29 (fun v_19 e_20 => ?_)
    rw [hQ]
    exact y_iret C0 h (Fr.tr (Fr.up u_4.1 kSM_0 (by decide)) (Fr.mono u_12 (by decide))) ⟨(o37_348 e_20), (o37_632 e_20), (o37_633 e_6 e_8 e_10 e_15 e_16 e_17 c_18 e_20), NuM.no (by omega) (Fr.tr (Fr.up u_4.1 kSM_0 (by decide)) (Fr.mono u_12 (by decide)))⟩ dX12_numbers_31
  · -- 14
    refine lv_iload_n C0.1 C0.2.1 dX12_numbers_17 rfl (lv_at hl 2 rfl) ?_
    refine y_i2l C0 dX12_numbers_18 (fun w_21 e_22 => ?_)
    refine y_lc (v := 0) C0 (by decide) dX12_numbers_19 (fun w_23 e_24 => ?_)
    refine y_lc2 (n := 3) C0 q_1710 (by decide) dX12_numbers_20 (fun w_25 e_26 => ?_)
    refine y_ci h (y_rS (As := [.long w_21, .long w_23, .long w_25]) (rest := []) C0 hZ h (c_X12_within l G Z ad _ h.2 w_21 w_23 w_25) k_X12_within q_1580 q_1579 hl.1 rfl rfl (Nat.le_of_ble_eq_true rfl) dX12_numbers_23 ⟨Nat.le_of_ble_eq_true rfl, Nat.le_of_ble_eq_true rfl⟩ ⟨Nat.le_of_ble_eq_true rfl, Nat.le_of_ble_eq_true rfl⟩) (fun r_30 H locs ws_27 h u_28 p_29 => ?_)
    obtain ⟨e_31, e_32, e_33⟩ := p_29
    refine y_if_ne (tgt := 32) C0 dX12_numbers_26 (by decide) (fun c_34 => ?_) (fun c_34 => ?_)
    · -- 26
      refine lv_iload_n C0.1 C0.2.1 dX12_numbers_32 rfl (lv_at hl 3 rfl) ?_
      refine y_i2l C0 dX12_numbers_33 (fun w_35 e_36 => ?_)
      refine y_lc (v := 0) C0 (by decide) dX12_numbers_34 (fun w_37 e_38 => ?_)
      refine y_lc2 (n := 40) C0 q_1940 (by decide) dX12_numbers_35 (fun w_39 e_40 => ?_)
      refine y_ci h (y_rS (As := [.long w_35, .long w_37, .long w_39]) (rest := []) C0 hZ h (c_X12_within l G Z ad _ h.2 w_35 w_37 w_39) k_X12_within q_1580 q_1579 hl.1 rfl rfl (Nat.le_of_ble_eq_true rfl) dX12_numbers_38 ⟨Nat.le_of_ble_eq_true rfl, Nat.le_of_ble_eq_true rfl⟩ ⟨Nat.le_of_ble_eq_true rfl, Nat.le_of_ble_eq_true rfl⟩) (fun r_44 H locs ws_41 h u_42 p_43 => ?_)
      obtain ⟨e_45, e_46, e_47⟩ := p_43
      refine y_if_ne (tgt := 47) C0 dX12_numbers_41 (by decide) (fun c_48 => ?_) (fun c_48 => ?_)
      · -- 41
        refine lv_aload_n C0.1 C0.2.1 dX12_numbers_47 rfl (lv_at hl 0 rfl) ?_
        refine ng_X12_rowSort C0 h kSM_0 q_1479 dX12_numbers_48 ?_
        refine lv_iload_n C0.1 C0.2.1 dX12_numbers_51 rfl (lv_at hl 1 rfl) ?_
        refine lv_iload_n C0.1 C0.2.1 dX12_numbers_52 rfl (lv_at hl 2 rfl) ?_
        refine y_iast C0 h kSM_23 rfl (by decide) (o37_634 e_6 e_8 e_10 e_15 e_16 e_17 c_18) (o37_635 e_6 e_8 e_10 e_15 e_16 e_17 c_18) (o37_636 e_22 e_24 e_26 e_31 e_32 e_33 c_34) (o37_637 e_22 e_24 e_26 e_31 e_32 e_33 c_34) dX12_numbers_53 (fun H locs ws_49 h u_50 => ?_)
        refine lv_aload_n C0.1 C0.2.1 dX12_numbers_54 rfl (lv_at hl 0 rfl) ?_
        refine ng_X12_rowMany C0 h kSM_0 q_1480 dX12_numbers_55 ?_
        refine lv_iload_n C0.1 C0.2.1 dX12_numbers_58 rfl (lv_at hl 1 rfl) ?_
        refine lv_iload_n C0.1 C0.2.1 dX12_numbers_59 rfl (lv_at hl 3 rfl) ?_
        refine y_iast C0 h kSM_24 rfl (by decide) (o37_634 e_6 e_8 e_10 e_15 e_16 e_17 c_18) (o37_635 e_6 e_8 e_10 e_15 e_16 e_17 c_18) (o37_638 e_36 e_38 e_40 e_45 e_46 e_47 c_48) (o37_639 e_36 e_38 e_40 e_45 e_46 e_47 c_48) dX12_numbers_60 (fun H locs ws_51 h u_52 => ?_)
        refine y_c1 (n := 0) C0 (by decide) dX12_numbers_61 (fun v_53 e_54 => ?_)
        refine lv_istore (lv' := [(4, .int v_53), (0, .ref (ad 0)), (1, .int a1), (2, .int a2), (3, .int a3)]) C0.1 C0.2.1 dX12_numbers_62 hl (by decide) rfl (fun ls hl => ?_)
        have lp_58 : ∀ (n_60 : Nat) (x4_55 : Int32) (H : Heap) (locs : List Loc) (ls : Array Slot) (ws_56 : va_W), 40 - x4_55.toInt < (n_60 : Int) → 0 ≤ x4_55.toInt → x4_55.toInt ≤ 40 → Wt G SM ad A s H locs ws_56 → Fr SM [25] ws_51 ws_56 → lv_has ls 5 [(4, .int x4_55), (0, .ref (ad 0)), (1, .int a1), (2, .int a2), (3, .int a3)] → W p l e (rmd 2 0 0) s m args below meth c H locs 0 0 Q (F0 m 64 ls []) := by
          intro n_60
          induction n_60 with
          | zero => intro x4_55 H locs ls ws_56 hn_61 b_62 b_63 h hF_57 hl; exact ((o37_640 b_62 b_63 hn_61)).elim
          | succ n_60 ih_59 =>
            intro x4_55 H locs ls ws_56 hn_61 b_62 b_63 h hF_57 hl
            refine lv_iload C0.1 C0.2.1 dX12_numbers_64 (lv_at hl 0 rfl) ?_
            refine lv_iload_n C0.1 C0.2.1 dX12_numbers_66 rfl (lv_at hl 4 rfl) ?_
            refine y_icmp_ge (tgt := 89) C0 dX12_numbers_67 (by decide) (fun c_64 => ?_) (fun c_64 => ?_)
            · -- 67
              refine y_c1 (n := 0) C0 (by decide) dX12_numbers_89 (fun v_65 e_66 => ?_)
              rw [hQ]
              exact y_iret C0 h (Fr.tr (Fr.tr (Fr.tr (Fr.tr (Fr.tr (Fr.tr (Fr.up u_4.1 kSM_0 (by decide)) (Fr.mono u_12 (by decide))) (Fr.mono u_28 (by decide))) (Fr.mono u_42 (by decide))) (Fr.up u_50.1 kSM_23 (by decide))) (Fr.up u_52.1 kSM_24 (by decide))) (Fr.mono hF_57 (by decide))) ⟨(o37_641 e_66), (o37_140 e_66), (o37_642 e_6 e_8 e_10 e_15 e_16 e_17 c_18 e_22 e_24 e_26 e_31 e_32 e_33 c_34 e_36 e_38 e_40 e_45 e_46 e_47 c_48 b_62 b_63 hn_61 c_64 e_66), NuM.ok e_66 (by omega) (Fr.tr (Fr.tr (Fr.tr (Fr.up u_4.1 kSM_0 (by decide)) (Fr.mono u_12 (by decide))) (Fr.mono u_28 (by decide))) (Fr.mono u_42 (by decide)) : Fr SM [0] ws0 _) u_50 u_52 hF_57⟩ dX12_numbers_90
            · -- 67
              refine lv_aload_n C0.1 C0.2.1 dX12_numbers_70 rfl (lv_at hl 1 rfl) ?_
              refine ng_X12_numbers C0 h kSM_0 q_1481 dX12_numbers_71 ?_
              refine y_c2 (n := 40) C0 (by decide) dX12_numbers_74 (fun v_67 e_68 => ?_)
              refine lv_iload_n C0.1 C0.2.1 dX12_numbers_76 rfl (lv_at hl 2 rfl) ?_
              refine y_cmul (n := 40) C0 (o37_357 e_68) (o37_643 e_6 e_8 e_10 e_15 e_16 e_17 c_18 (le_min a1) (le_max a1) (le_min r_14) (le_max r_14)) (o37_644 e_6 e_8 e_10 e_15 e_16 e_17 c_18 (le_min a1) (le_max a1) (le_min r_14) (le_max r_14)) dX12_numbers_77 (fun v_69 e_70 => ?_)
              refine lv_iload C0.1 C0.2.1 dX12_numbers_78 (lv_at hl 0 rfl) ?_
              refine y_add C0 (o37_645 e_6 e_8 e_10 e_15 e_16 e_17 c_18 e_36 e_38 e_40 e_45 e_46 e_47 c_48 b_62 b_63 hn_61 c_64 e_70 (le_min v_69) (le_max v_69) (le_min x4_55) (le_max x4_55) (le_min a1) (le_max a1) (le_min r_14) (le_max r_14) (le_min a3) (le_max a3) (le_min r_44) (le_max r_44)) (o37_646 e_6 e_8 e_10 e_15 e_16 e_17 c_18 e_36 e_38 e_40 e_45 e_46 e_47 c_48 b_62 b_63 hn_61 c_64 e_70 (le_min v_69) (le_max v_69) (le_min x4_55) (le_max x4_55) (le_min a1) (le_max a1) (le_min r_14) (le_max r_14) (le_min a3) (le_max a3) (le_min r_44) (le_max r_44)) dX12_numbers_80 (fun v_71 e_72 => ?_)
              refine y_lc (v := 0) C0 (by decide) dX12_numbers_81 (fun w_73 e_74 => ?_)
              refine y_last C0 h kSM_25 rfl (by decide) (o37_647 e_6 e_8 e_10 e_15 e_16 e_17 c_18 e_36 e_38 e_40 e_45 e_46 e_47 c_48 b_62 b_63 hn_61 c_64 e_70 e_72) (o37_648 e_6 e_8 e_10 e_15 e_16 e_17 c_18 e_36 e_38 e_40 e_45 e_46 e_47 c_48 b_62 b_63 hn_61 c_64 e_70 e_72) dX12_numbers_82 (fun H locs ws_75 h u_76 => ?_)
              refine y_inc (kp := 0) (n := 1) (fun v_77 => [(4, .int v_77), (0, .ref (ad 0)), (1, .int a1), (2, .int a2), (3, .int a3)]) C0 hl rfl (by decide) (by decide) (fun _ => rfl) (o37_649 e_6 e_8 e_10 e_15 e_16 e_17 c_18 e_36 e_38 e_40 e_45 e_46 e_47 c_48 b_62 b_63 hn_61 c_64 e_70 e_72 (le_min x4_55) (le_max x4_55) (le_min a1) (le_max a1) (le_min r_14) (le_max r_14) (le_min a3) (le_max a3) (le_min r_44) (le_max r_44) (le_min v_69) (le_max v_69) (le_min v_71) (le_max v_71)) (o37_650 e_6 e_8 e_10 e_15 e_16 e_17 c_18 e_36 e_38 e_40 e_45 e_46 e_47 c_48 b_62 b_63 hn_61 c_64 e_70 e_72 (le_min x4_55) (le_max x4_55) (le_min a1) (le_max a1) (le_min r_14) (le_max r_14) (le_min a3) (le_max a3) (le_min r_44) (le_max r_44) (le_min v_69) (le_max v_69) (le_min v_71) (le_max v_71)) dX12_numbers_83 (fun v_77 ls e_78 hl => ?_)
              refine lv_goto (tgt := 64) C0.1 C0.2.1 dX12_numbers_86 (by decide) ?_
              exact ih_59 v_77 _ _ _ _ (o37_651 e_6 e_8 e_10 e_15 e_16 e_17 c_18 e_36 e_38 e_40 e_45 e_46 e_47 c_48 b_62 b_63 hn_61 c_64 e_70 e_72 e_78) (o37_652 e_6 e_8 e_10 e_15 e_16 e_17 c_18 e_36 e_38 e_40 e_45 e_46 e_47 c_48 b_62 b_63 hn_61 c_64 e_70 e_72 e_78) (o37_653 e_6 e_8 e_10 e_15 e_16 e_17 c_18 e_36 e_38 e_40 e_45 e_46 e_47 c_48 b_62 b_63 hn_61 c_64 e_70 e_72 e_78) h (Fr.tr hF_57 (Fr.up u_76.1 kSM_25 (by decide))) (lv_sub hl [0, 1, 2, 3, 4] rfl)
        exact lp_58 ((40 - v_53.toInt + 1).toNat) v_53 _ _ _ _ (o37_654 e_54) (o37_10 e_54) (o37_655 e_54) h Fr.rf (lv_sub hl [0, 1, 2, 3, 4] rfl)
      · -- 41
        refine y_c2 (n := (-3)) C0 (by decide) dX12_numbers_44 (fun v_79 e_80 => ?_)
        rw [hQ]
        exact y_iret C0 h (Fr.tr (Fr.tr (Fr.tr (Fr.up u_4.1 kSM_0 (by decide)) (Fr.mono u_12 (by decide))) (Fr.mono u_28 (by decide))) (Fr.mono u_42 (by decide))) ⟨(o37_346 e_80), (o37_656 e_80), (o37_657 e_6 e_8 e_10 e_15 e_16 e_17 c_18 e_22 e_24 e_26 e_31 e_32 e_33 c_34 e_36 e_38 e_40 e_45 e_46 e_47 c_48 e_80), NuM.no (by omega) (Fr.tr (Fr.tr (Fr.tr (Fr.up u_4.1 kSM_0 (by decide)) (Fr.mono u_12 (by decide))) (Fr.mono u_28 (by decide))) (Fr.mono u_42 (by decide)))⟩ dX12_numbers_46
    · -- 26
      refine y_c2 (n := (-2)) C0 (by decide) dX12_numbers_29 (fun v_81 e_82 => ?_)
      rw [hQ]
      exact y_iret C0 h (Fr.tr (Fr.tr (Fr.up u_4.1 kSM_0 (by decide)) (Fr.mono u_12 (by decide))) (Fr.mono u_28 (by decide))) ⟨(o37_348 e_82), (o37_632 e_82), (o37_658 e_6 e_8 e_10 e_15 e_16 e_17 c_18 e_22 e_24 e_26 e_31 e_32 e_33 c_34 e_82), NuM.no (by omega) (Fr.tr (Fr.tr (Fr.up u_4.1 kSM_0 (by decide)) (Fr.mono u_12 (by decide))) (Fr.mono u_28 (by decide)))⟩ dX12_numbers_31
set_option maxHeartbeats 4000000 in
set_option maxRecDepth 100000 in
theorem c_X12_writeR (l : Launch) (G : GG) (Z : RZ) (ad : Nat → Nat) (ws0 : va_W) (hT : Ty G SM ad ws0) (a1 : Int32) (a2 : Int32) (a3 : Int64) : Mq l yX12_write cX12_write 6 (some .long) 3 G Z [.ref (ad 0), .int a1, .int a2, .long a3] ws0 (PL G SM ad [0, 25] ws0 (fun r u => True ∧ (WrF ((aI ws0 23 a1.toInt.toNat).toInt = -1) (aI ws0 24 a1.toInt.toNat).toInt (aI ws0 23 a1.toInt.toNat).toInt a1 a2 a3 r))) := by
  refine Mq.start (by decide) (Nat.le_of_ble_eq_true rfl) ?_
  intro p e s m below meth c A ls C0 hZ h hl
  have hl : lv_has ls 6 [(0, .ref (ad 0)), (1, .int a1), (2, .int a2), (3, .long a3)] := hl
  have h : Wt G SM ad A s s.heap [] ws0 := ⟨h, hT⟩
  obtain ⟨args, hargs⟩ : ∃ z, z = ([.ref (ad 0), .int a1, .int a2, .long a3] : List Value).toArray := ⟨_, rfl⟩
  rw [← hargs] at C0 ⊢
  have C0 : Cx p s m args meth c RX12 cX12_write 6 (some .long) := C0
  obtain ⟨Q, hQ⟩ : ∃ z, z = MQ below ((PL G SM ad [0, 25] ws0 (fun r u => True ∧ (WrF ((aI ws0 23 a1.toInt.toNat).toInt = -1) (aI ws0 24 a1.toInt.toNat).toInt (aI ws0 23 a1.toInt.toNat).toInt a1 a2 a3 r))) A) args s 0 0 A := ⟨_, rfl⟩
  rw [← hQ]
  refine lv_aload_n C0.1 C0.2.1 dX12_write_0 rfl (lv_at hl 0 rfl) ?_
  refine y_c1 (n := 0) C0 (by decide) dX12_write_1 (fun v_1 e_2 => ?_)
  refine np_X12_thrown C0 h kSM_0 q_1438 (le_min v_1) (le_max v_1) dX12_write_2 (fun H locs ws_3 h u_4 => ?_)
  refine lv_aload_n C0.1 C0.2.1 dX12_write_5 rfl (lv_at hl 0 rfl) ?_
  refine lv_iload_n C0.1 C0.2.1 dX12_write_6 rfl (lv_at hl 1 rfl) ?_
  refine y_ci h (y_rV (As := [.int a1]) (rest := []) C0 hZ h (c_X12_noTrayR l G Z ad _ h.2 a1) k_X12_noTray q_1796 q_91 q_1794 kSM_0 rfl rfl rfl hl.1 rfl rfl (Nat.le_of_ble_eq_true rfl) dX12_write_7 ⟨Nat.le_of_ble_eq_true rfl, Nat.le_of_ble_eq_true rfl⟩ ⟨Nat.le_of_ble_eq_true rfl, Nat.le_of_ble_eq_true rfl⟩) (fun r_8 H locs ws_5 h u_6 p_7 => ?_)
  obtain ⟨e_9, e_10, e_11, e_11x⟩ := p_7
  refine lv_istore (lv' := [(5, .int r_8), (0, .ref (ad 0)), (1, .int a1), (2, .int a2), (3, .long a3)]) C0.1 C0.2.1 dX12_write_10 hl (by decide) rfl (fun ls hl => ?_)
  refine lv_iload C0.1 C0.2.1 dX12_write_12 (lv_at hl 0 rfl) ?_
  refine y_if_eq (tgt := 21) C0 dX12_write_14 (by decide) (fun c_12 => ?_) (fun c_12 => ?_)
  · -- 14
    refine lv_iload_n C0.1 C0.2.1 dX12_write_21 rfl (lv_at hl 3 rfl) ?_
    refine y_i2l C0 dX12_write_22 (fun w_13 e_14 => ?_)
    refine y_lc (v := 0) C0 (by decide) dX12_write_23 (fun w_15 e_16 => ?_)
    refine lv_aload_n C0.1 C0.2.1 dX12_write_24 rfl (lv_at hl 1 rfl) ?_
    refine ng_X12_rowMany C0 h kSM_0 q_1480 dX12_write_25 ?_
    refine lv_iload_n C0.1 C0.2.1 dX12_write_28 rfl (lv_at hl 2 rfl) ?_
    refine y_iald C0 h kSM_24 rfl (by decide) (o37_659 e_9 e_10 e_11 c_12) (o37_660 e_9 e_10 e_11 c_12) dX12_write_29 (fun v_17 e_18 e_19 e_20 => ?_)
    refine y_c1 (n := 1) C0 (by decide) dX12_write_30 (fun v_21 e_22 => ?_)
    refine y_sub C0 (o37_661 e_19 e_20 e_22 (le_min v_17) (le_max v_17) (le_min v_21) (le_max v_21)) (o37_662 e_19 e_20 e_22 (le_min v_17) (le_max v_17) (le_min v_21) (le_max v_21)) dX12_write_31 (fun v_23 e_24 => ?_)
    refine y_i2l C0 dX12_write_32 (fun w_25 e_26 => ?_)
    refine y_ci h (y_rS (As := [.long w_13, .long w_15, .long w_25]) (rest := []) C0 hZ h (c_X12_within l G Z ad _ h.2 w_13 w_15 w_25) k_X12_within q_1580 q_1579 hl.1 rfl rfl (Nat.le_of_ble_eq_true rfl) dX12_write_33 ⟨Nat.le_of_ble_eq_true rfl, Nat.le_of_ble_eq_true rfl⟩ ⟨Nat.le_of_ble_eq_true rfl, Nat.le_of_ble_eq_true rfl⟩) (fun r_30 H locs ws_27 h u_28 p_29 => ?_)
    obtain ⟨e_31, e_32, e_33⟩ := p_29
    refine y_if_ne (tgt := 43) C0 dX12_write_36 (by decide) (fun c_34 => ?_) (fun c_34 => ?_)
    · -- 36
      refine lv_aload_n C0.1 C0.2.1 dX12_write_43 rfl (lv_at hl 1 rfl) ?_
      refine ng_X12_numbers C0 h kSM_0 q_1481 dX12_write_44 ?_
      refine y_c2 (n := 40) C0 (by decide) dX12_write_47 (fun v_35 e_36 => ?_)
      refine lv_iload_n C0.1 C0.2.1 dX12_write_49 rfl (lv_at hl 2 rfl) ?_
      refine y_cmul (n := 40) C0 (o37_357 e_36) (o37_663 e_9 e_10 e_11 c_12 (le_min a1) (le_max a1) (le_min r_8) (le_max r_8)) (o37_664 e_9 e_10 e_11 c_12 (le_min a1) (le_max a1) (le_min r_8) (le_max r_8)) dX12_write_50 (fun v_37 e_38 => ?_)
      refine lv_iload_n C0.1 C0.2.1 dX12_write_51 rfl (lv_at hl 3 rfl) ?_
      refine y_add C0 (o37_665 e_9 e_10 e_11 c_12 e_14 e_16 e_19 e_20 e_22 e_24 e_26 e_31 e_32 e_33 c_34 e_38 (le_min v_37) (le_max v_37) (le_min a2) (le_max a2) (le_min r_8) (le_max r_8) (le_min a1) (le_max a1) (le_min v_17) (le_max v_17) (le_min v_21) (le_max v_21) (le_min v_23) (le_max v_23) (le_min r_30) (le_max r_30)) (o37_666 e_9 e_10 e_11 c_12 e_14 e_16 e_19 e_20 e_22 e_24 e_26 e_31 e_32 e_33 c_34 e_38 (le_min v_37) (le_max v_37) (le_min a2) (le_max a2) (le_min r_8) (le_max r_8) (le_min a1) (le_max a1) (le_min v_17) (le_max v_17) (le_min v_21) (le_max v_21) (le_min v_23) (le_max v_23) (le_min r_30) (le_max r_30)) dX12_write_52 (fun v_39 e_40 => ?_)
      refine lv_lload_n C0.1 C0.2.1 dX12_write_53 rfl (lv_at hl 4 rfl) ?_
      refine lv_aload_n C0.1 C0.2.1 dX12_write_54 rfl (lv_at hl 1 rfl) ?_
      refine ng_X12_rowSort C0 h kSM_0 q_1479 dX12_write_55 ?_
      refine lv_iload_n C0.1 C0.2.1 dX12_write_58 rfl (lv_at hl 2 rfl) ?_
      refine y_iald C0 h kSM_23 rfl (by decide) (o37_667 e_9 e_10 e_11 c_12 e_14 e_16 e_19 e_20 e_22 e_24 e_26 e_31 e_32 e_33 c_34 e_38 e_40) (o37_668 e_9 e_10 e_11 c_12 e_14 e_16 e_19 e_20 e_22 e_24 e_26 e_31 e_32 e_33 c_34 e_38 e_40) dX12_write_59 (fun v_41 e_42 e_43 e_44 => ?_)
      refine y_cl h (y_rS (As := [.long a3, .int v_41]) (rest := [.int v_39, .ref (ad 25)]) C0 hZ h (c_X12_cutR l G Z ad _ h.2 a3 v_41) k_X12_cut q_2043 q_2042 hl.1 rfl rfl (Nat.le_of_ble_eq_true rfl) dX12_write_60 ⟨Nat.le_of_ble_eq_true rfl, Nat.le_of_ble_eq_true rfl⟩ ⟨Nat.le_of_ble_eq_true rfl, Nat.le_of_ble_eq_true rfl⟩) (fun r_48 H locs ws_45 h u_46 p_47 => ?_)
      refine y_last C0 h kSM_25 rfl (by decide) (o37_669 e_9 e_10 e_11 c_12 e_14 e_16 e_19 e_20 e_22 e_24 e_26 e_31 e_32 e_33 c_34 e_38 e_40) (o37_670 e_9 e_10 e_11 c_12 e_14 e_16 e_19 e_20 e_22 e_24 e_26 e_31 e_32 e_33 c_34 e_38 e_40) dX12_write_63 (fun H locs ws_49 h u_50 => ?_)
      refine lv_aload_n C0.1 C0.2.1 dX12_write_64 rfl (lv_at hl 1 rfl) ?_
      refine ng_X12_numbers C0 h kSM_0 q_1481 dX12_write_65 ?_
      refine y_c2 (n := 40) C0 (by decide) dX12_write_68 (fun v_51 e_52 => ?_)
      refine lv_iload_n C0.1 C0.2.1 dX12_write_70 rfl (lv_at hl 2 rfl) ?_
      refine y_cmul (n := 40) C0 (o37_357 e_52) (o37_671 e_9 e_10 e_11 c_12 e_14 e_16 e_19 e_20 e_22 e_24 e_26 e_31 e_32 e_33 c_34 e_38 e_40 (le_min a1) (le_max a1) (le_min r_8) (le_max r_8) (le_min a2) (le_max a2) (le_min v_17) (le_max v_17) (le_min v_21) (le_max v_21) (le_min v_23) (le_max v_23) (le_min r_30) (le_max r_30) (le_min v_37) (le_max v_37) (le_min v_39) (le_max v_39)) (o37_672 e_9 e_10 e_11 c_12 e_14 e_16 e_19 e_20 e_22 e_24 e_26 e_31 e_32 e_33 c_34 e_38 e_40 (le_min a1) (le_max a1) (le_min r_8) (le_max r_8) (le_min a2) (le_max a2) (le_min v_17) (le_max v_17) (le_min v_21) (le_max v_21) (le_min v_23) (le_max v_23) (le_min r_30) (le_max r_30) (le_min v_37) (le_max v_37) (le_min v_39) (le_max v_39)) dX12_write_71 (fun v_53 e_54 => ?_)
      refine lv_iload_n C0.1 C0.2.1 dX12_write_72 rfl (lv_at hl 3 rfl) ?_
      refine y_add C0 (o37_673 e_9 e_10 e_11 c_12 e_14 e_16 e_19 e_20 e_22 e_24 e_26 e_31 e_32 e_33 c_34 e_38 e_40 e_54 (le_min v_53) (le_max v_53) (le_min a2) (le_max a2) (le_min r_8) (le_max r_8) (le_min a1) (le_max a1) (le_min v_17) (le_max v_17) (le_min v_21) (le_max v_21) (le_min v_23) (le_max v_23) (le_min r_30) (le_max r_30) (le_min v_37) (le_max v_37) (le_min v_39) (le_max v_39)) (o37_674 e_9 e_10 e_11 c_12 e_14 e_16 e_19 e_20 e_22 e_24 e_26 e_31 e_32 e_33 c_34 e_38 e_40 e_54 (le_min v_53) (le_max v_53) (le_min a2) (le_max a2) (le_min r_8) (le_max r_8) (le_min a1) (le_max a1) (le_min v_17) (le_max v_17) (le_min v_21) (le_max v_21) (le_min v_23) (le_max v_23) (le_min r_30) (le_max r_30) (le_min v_37) (le_max v_37) (le_min v_39) (le_max v_39)) dX12_write_73 (fun v_55 e_56 => ?_)
      refine y_lald C0 h kSM_25 rfl (by decide) (o37_675 e_9 e_10 e_11 c_12 e_14 e_16 e_19 e_20 e_22 e_24 e_26 e_31 e_32 e_33 c_34 e_38 e_40 e_54 e_56) (o37_676 e_9 e_10 e_11 c_12 e_14 e_16 e_19 e_20 e_22 e_24 e_26 e_31 e_32 e_33 c_34 e_38 e_40 e_54 e_56) dX12_write_74 (fun w_57 e_58 => ?_)
      have q_59 : w_57.toInt = r_48.toInt := congrArg Int64.toInt (e_58.symm.trans (Eq.trans (congrArg (aL ws_49 25) (o37_677 e_9 e_10 e_11 c_12 e_14 e_16 e_19 e_20 e_22 e_24 e_26 e_31 e_32 e_33 c_34 e_38 e_40 e_54 e_56)) (Eq.trans rfl u_50.2.1)))
      rw [hQ]
      exact y_lret C0 h (Fr.tr (Fr.tr (Fr.tr (Fr.tr (Fr.up u_4.1 kSM_0 (by decide)) (Fr.mono u_6 (by decide))) (Fr.mono u_28 (by decide))) (Fr.mono u_46 (by decide))) (Fr.up u_50.1 kSM_25 (by decide))) ⟨trivial, (by have g3 : aI ws_3 23 a1.toInt.toNat = aI ws0 23 a1.toInt.toNat := aI_of (u_4.1 23 (by decide)); have e_11y : NoT ws_3 a1 r_8 := e_11x; unfold NoT at e_11y; rw [g3] at e_11y; have g4 : aI ws_5 24 a1.toInt.toNat = aI ws0 24 a1.toInt.toNat := (u_6.aI kSM_24 (by decide)).trans (aI_of (u_4.1 24 (by decide))); have g5 : aI ws_27 23 a1.toInt.toNat = aI ws0 23 a1.toInt.toNat := (u_28.aI kSM_23 (by decide)).trans ((u_6.aI kSM_23 (by decide)).trans g3); rw [← g5, e_42] at e_11y; rw [← g4, e_18, ← g5, e_42]; exact Or.inr ⟨⟨by omega, by omega⟩, Or.inr ⟨by omega, Or.inr ⟨⟨by omega, by omega⟩, (Int64.toInt_inj.mp q_59).trans p_47.2⟩⟩⟩)⟩ dX12_write_75
    · -- 36
      refine y_lc2 (n := (-7)) C0 q_2041 (by decide) dX12_write_39 (fun w_60 e_61 => ?_)
      rw [hQ]
      exact y_lret C0 h (Fr.tr (Fr.tr (Fr.up u_4.1 kSM_0 (by decide)) (Fr.mono u_6 (by decide))) (Fr.mono u_28 (by decide))) ⟨trivial, (by have g3 : aI ws_3 23 a1.toInt.toNat = aI ws0 23 a1.toInt.toNat := aI_of (u_4.1 23 (by decide)); have e_11y : NoT ws_3 a1 r_8 := e_11x; unfold NoT at e_11y; rw [g3] at e_11y; have g4 : aI ws_5 24 a1.toInt.toNat = aI ws0 24 a1.toInt.toNat := (u_6.aI kSM_24 (by decide)).trans (aI_of (u_4.1 24 (by decide))); rw [← g4, e_18]; exact Or.inr ⟨⟨by omega, by omega⟩, Or.inr ⟨by omega, Or.inl ⟨by omega, e_61⟩⟩⟩)⟩ dX12_write_42
  · -- 14
    refine lv_iload C0.1 C0.2.1 dX12_write_17 (lv_at hl 0 rfl) ?_
    refine y_i2l C0 dX12_write_19 (fun w_62 e_63 => ?_)
    rw [hQ]
    exact y_lret C0 h (Fr.tr (Fr.up u_4.1 kSM_0 (by decide)) (Fr.mono u_6 (by decide))) ⟨trivial, (by have g3 : aI ws_3 23 a1.toInt.toNat = aI ws0 23 a1.toInt.toNat := aI_of (u_4.1 23 (by decide)); have e_11y : NoT ws_3 a1 r_8 := e_11x; unfold NoT at e_11y; rw [g3] at e_11y; rcases e_11y with ⟨q1, q2⟩ | ⟨q1, ⟨q2, q3⟩ | ⟨q2, q3⟩⟩; exact Or.inl ⟨q2, by omega⟩; exact Or.inr ⟨q1, Or.inl ⟨q2, by omega⟩⟩; omega)⟩ dX12_write_20
