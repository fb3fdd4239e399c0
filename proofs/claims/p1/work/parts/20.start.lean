theorem tb_1 {w : Cond} (i : Nat) (h : tables_1_1[i]? = some w) : w ∈ lw_tbl := by
  have h := List.mem_of_getElem? h
  exact (List.mem_append_right _ (List.mem_append_left _ h) : w ∈ k2_sels lw_privs ++ tables_1)
theorem tb_2 {w : Cond} (i : Nat) (h : tables_1_2[i]? = some w) : w ∈ lw_tbl := by
  have h := List.mem_of_getElem? h
  exact (List.mem_append_right _ (List.mem_append_right _ (List.mem_append_left _ h)) : w ∈ k2_sels lw_privs ++ tables_1)
theorem tb_3 {w : Cond} (i : Nat) (h : tables_1_3[i]? = some w) : w ∈ lw_tbl := by
  have h := List.mem_of_getElem? h
  exact (List.mem_append_right _ (List.mem_append_right _ (List.mem_append_right _ (List.mem_append_left _ h))) : w ∈ k2_sels lw_privs ++ tables_1)
theorem tb_4 {w : Cond} (i : Nat) (h : tables_1_4[i]? = some w) : w ∈ lw_tbl := by
  have h := List.mem_of_getElem? h
  exact (List.mem_append_right _ (List.mem_append_right _ (List.mem_append_right _ (List.mem_append_right _ (List.mem_append_left _ h)))) : w ∈ k2_sels lw_privs ++ tables_1)
theorem tb_5 {w : Cond} (i : Nat) (h : tables_1_5[i]? = some w) : w ∈ lw_tbl := by
  have h := List.mem_of_getElem? h
  exact (List.mem_append_right _ (List.mem_append_right _ (List.mem_append_right _ (List.mem_append_right _ (List.mem_append_right _ (List.mem_append_left _ h))))) : w ∈ k2_sels lw_privs ++ tables_1)
theorem tb_6 {w : Cond} (i : Nat) (h : tables_1_6[i]? = some w) : w ∈ lw_tbl := by
  have h := List.mem_of_getElem? h
  exact (List.mem_append_right _ (List.mem_append_right _ (List.mem_append_right _ (List.mem_append_right _ (List.mem_append_right _ (List.mem_append_right _ (List.mem_append_left _ h)))))) : w ∈ k2_sels lw_privs ++ tables_1)
theorem tb_7 {w : Cond} (i : Nat) (h : tables_1_7[i]? = some w) : w ∈ lw_tbl := by
  have h := List.mem_of_getElem? h
  exact (List.mem_append_right _ (List.mem_append_right _ (List.mem_append_right _ (List.mem_append_right _ (List.mem_append_right _ (List.mem_append_right _ (List.mem_append_right _ (List.mem_append_left _ h))))))) : w ∈ k2_sels lw_privs ++ tables_1)
theorem tb_8 {w : Cond} (i : Nat) (h : tables_1_8[i]? = some w) : w ∈ lw_tbl := by
  have h := List.mem_of_getElem? h
  exact (List.mem_append_right _ (List.mem_append_right _ (List.mem_append_right _ (List.mem_append_right _ (List.mem_append_right _ (List.mem_append_right _ (List.mem_append_right _ (List.mem_append_right _ (List.mem_append_left _ h)))))))) : w ∈ k2_sels lw_privs ++ tables_1)
theorem tb_9 {w : Cond} (i : Nat) (h : tables_1_9[i]? = some w) : w ∈ lw_tbl := by
  have h := List.mem_of_getElem? h
  exact (List.mem_append_right _ (List.mem_append_right _ (List.mem_append_right _ (List.mem_append_right _ (List.mem_append_right _ (List.mem_append_right _ (List.mem_append_right _ (List.mem_append_right _ (List.mem_append_right _ (h))))))))) : w ∈ k2_sels lw_privs ++ tables_1)
theorem ac_of {ty : FieldType} {args : Array Value} {s : State} (h : (Cond.arrayClass ty).before args s = true) : ∃ c : ClassId, ArrOfT s c ty ∧ s.vm.findClass ("[" ++ ty.toString) = some c := by
  obtain ⟨c, k, comp, h1, h2, h3⟩ := Cond.arrayClass_spec h
  exact ⟨c, fun N z => ⟨(fun q hq => by cases hq), k, h2, comp, h3⟩, h1⟩
theorem ao_of {C : String} {s : State} (h : va_AO C s) : ∃ c : ClassId, ArrOfT s c (.object C) ∧ va_RA s c (.object C) := by
  obtain ⟨comp, c, k, h1, -, h3, h4, h5⟩ := Cond.arrayOver_spec h
  exact ⟨c, fun N z => ⟨(fun q hq => by cases hq), k, h3, comp, h4⟩, k, comp, h3, h4, h1, h5⟩
theorem aa_of {ty : FieldType} {s : State} (h : nx_A ty s) : ∃ c : ClassId, ArrOfT s c (.array ty) ∧ s.vm.findClass ("[" ++ (FieldType.array ty).toString) = some c := by
  unfold nx_A Cond.before Cond.holds at h
  simp only [Cond.value, beq_iff_eq] at h
  cases hc : s.vm.findClass (FieldType.array ty).toString with
  | none => simp [hc] at h
  | some comp =>
    simp only [hc, Option.bind_some, Option.bind_eq_some_iff, Option.map_eq_some_iff] at h
    obtain ⟨c, hi, k, hk, hb⟩ := h
    cases hkind : k.kind with
    | array component t2 =>
      rw [hkind] at hb
      simp at hb
      exact ⟨c, fun N z => ⟨(fun q hq => by cases hq), k, hk, component, by rw [hkind, hb.1]⟩, hb.2⟩
    | _ => rw [hkind] at hb; simp at hb
theorem dL_law_0 : decode cL_law 0 = .ok (.new 7, 3) := by decide +kernel
theorem dL_law_3 : decode cL_law 3 = .ok (.dup, 1) := by decide +kernel
theorem dL_law_4 : decode cL_law 4 = .ok (.invokespecial 9, 3) := by decide +kernel
theorem dL_law_7 : decode cL_law 7 = .ok (.astore_n 1, 1) := by decide +kernel
theorem dL_law_8 : decode cL_law 8 = .ok (.new 10, 3) := by decide +kernel
theorem dL_law_11 : decode cL_law 11 = .ok (.dup, 1) := by decide +kernel
theorem dL_law_12 : decode cL_law 12 = .ok (.invokespecial 12, 3) := by decide +kernel
theorem dL_law_15 : decode cL_law 15 = .ok (.astore_n 2, 1) := by decide +kernel
theorem dL_law_16 : decode cL_law 16 = .ok (.iconst 0, 1) := by decide +kernel
theorem dL_law_17 : decode cL_law 17 = .ok (.istore_n 3, 1) := by decide +kernel
theorem dL_law_27 : decode cL_law 27 = .ok (.aload_n 0, 1) := by decide +kernel
theorem dL_law_28 : decode cL_law 28 = .ok (.iload_n 3, 1) := by decide +kernel
theorem dL_law_29 : decode cL_law 29 = .ok (.iaload, 1) := by decide +kernel
theorem dL_law_30 : decode cL_law 30 = .ok (.bipush 63, 2) := by decide +kernel
theorem dL_law_32 : decode cL_law 32 = .ok (.iand, 1) := by decide +kernel
theorem dL_law_33 : decode cL_law 33 = .ok (.tableswitch 1694 0 40 #[179, 242, 265, 288, 321, 354, 387, 430, 463, 496, 529, 552, 585, 608, 651, 684, 707, 730, 763, 806, 859, 902, 945, 999, 1032, 1055, 1088, 1131, 1184, 1227, 1270, 1283, 1306, 1349, 1402, 1455, 1498, 1572, 1625, 1648, 1671], 179) := by decide +kernel
set_option maxHeartbeats 8000000 in
set_option maxRecDepth 100000 in
theorem whole_start {p : Program} {e : Env} {s : State} {m : MethodId} {below : List Frame} {meth : Method} {c : Code} (l : Launch) (hflags : l.flags = flags0) {b L : Nat} {xs : Nat → Int32} (hL : L ≤ 6) (C0 : lw_At p s m meth c b L xs) : W p l e room_1 s m #[Value.ref b] below meth c s.heap [] 0 0 (lw_Z below #[Value.ref b] s) (entryFrame m ([Value.ref b] : List Value).toArray 4) := by
  obtain ⟨hx, hb, hr, hml, hown, hts, hX, hbl, hlocks, hgv⟩ := C0
  obtain ⟨c0, iS0, hKn0⟩ := u_known (C := RX0) (T := TX0) (N := 9) (n := 9) hts (fun w h => gd_sub (gd_X0 w h)) (hts _ (gd_sub q_156))
  obtain ⟨c1, iS1, hKn1⟩ := u_known (C := RX1) (T := TX1) (N := 9) (n := 9) hts (fun w h => gd_sub (gd_X1 w h)) (hts _ (gd_sub q_185))
  obtain ⟨c2, iS2, hKn2⟩ := u_known (C := RX2) (T := TX2) (N := 5) (n := 5) hts (fun w h => gd_sub (gd_X2 w h)) (hts _ (gd_sub q_287))
  obtain ⟨c3, iS3, hKn3⟩ := u_known (C := RX3) (T := TX3) (N := 5) (n := 5) hts (fun w h => gd_sub (gd_X3 w h)) (hts _ (gd_sub q_470))
  obtain ⟨c4, iS4, hKn4⟩ := u_known (C := RX4) (T := TX4) (N := 5) (n := 5) hts (fun w h => gd_sub (gd_X4 w h)) (hts _ (gd_sub q_162))
  obtain ⟨c5, iS5, hKn5⟩ := u_known (C := RX5) (T := TX5) (N := 11) (n := 11) hts (fun w h => gd_sub (gd_X5 w h)) (hts _ (gd_sub q_365))
  obtain ⟨c6, iS6, hKn6⟩ := u_known (C := RX6) (T := TX6) (N := 10) (n := 10) hts (fun w h => gd_sub (gd_X6 w h)) (hts _ (gd_sub q_406))
  obtain ⟨c7, iS7, hKn7⟩ := u_known (C := RX7) (T := TX7) (N := 7) (n := 7) hts (fun w h => gd_sub (gd_X7 w h)) (hts _ (gd_sub q_337))
  obtain ⟨c8, iS8, hKn8⟩ := u_known (C := RX8) (T := TX8) (N := 7) (n := 7) hts (fun w h => gd_sub (gd_X8 w h)) (hts _ (gd_sub q_309))
  obtain ⟨c9, iS9, hKn9⟩ := u_known (C := RX9) (T := TX9) (N := 5) (n := 5) hts (fun w h => gd_sub (gd_X9 w h)) (hts _ (gd_sub q_443))
  obtain ⟨c10, iS10, hKn10⟩ := u_known (C := RX10) (T := TX10) (N := 3) (n := 3) hts (fun w h => gd_sub (gd_X10 w h)) (hts _ (gd_sub q_493))
  obtain ⟨c11, iS11, hKn11⟩ := u_known (C := RX11) (T := TX11) (N := 19) (n := 19) hts (fun w h => gd_sub (gd_X11 w h)) (hts _ (gd_sub q_148))
  obtain ⟨c12, iS12, hKn12⟩ := u_known (C := RX12) (T := TX12) (N := 44) (n := 44) hts (fun w h => gd_sub (gd_X12 w h)) (hts _ (gd_sub q_1430))
  have hN : Nx s := ⟨va_Nw.of rfl (hts _ (tb_1 33 rfl)), va_Nw.of rfl (hts _ (tb_1 39 rfl)), va_Nw.of rfl (hts _ (tb_1 62 rfl)), va_Nw.of rfl (hts _ (tb_2 130 rfl)), va_Nw.of rfl (hts _ (tb_2 150 rfl)), va_Nw.of rfl (hts _ (tb_5 204 rfl)), va_AO.of (hts _ (tb_2 147 rfl)), va_AO.of (hts _ (tb_2 149 rfl)), va_AO.of (hts _ (tb_2 128 rfl)), (hts _ (tb_2 87 rfl)), (hts _ (tb_2 85 rfl))⟩
  obtain ⟨aB, aB1, aB2⟩ := ac_of (hts _ (gd_sub q_404))
  obtain ⟨aI, aI1, aI2⟩ := ac_of (hts _ (gd_sub q_183))
  obtain ⟨aJ, aJ1, aJ2⟩ := ac_of (hts _ (gd_sub q_468))
  obtain ⟨aZ, aZ1, aZ2⟩ := ac_of (hts _ (gd_sub q_573))
  obtain ⟨-, -, -, -, -, -, n7, n8, n9, n10, n11⟩ := id hN
  obtain ⟨aC, aC1, aC2⟩ := ao_of n7
  obtain ⟨aF, aF1, aF2⟩ := ao_of n8
  obtain ⟨aT, aT1, aT2⟩ := ao_of n9
  obtain ⟨aII, aII1, aII2⟩ := aa_of n10
  obtain ⟨aJJ, aJJ1, aJJ2⟩ := aa_of n11
  obtain ⟨G, hK⟩ : ∃ G : GG, va_K G.1 vwCl (tysG G) s := by
    refine ⟨((fun k => ([c0, c1, c2, c3, c4, c5, c6, c7, c8, c9, c10, c11, c12] : List ClassId).getD k c0, fun k => ([iS0, iS1, iS2, iS3, iS4, iS5, iS6, iS7, iS8, iS9, iS10, iS11, iS12] : List (Nat → Nat)).getD k iS0), fun k => ([aB, aI, aJ, aZ, aC, aF, aT, aII, aJJ] : List ClassId).getD k aB), ?_, ?_⟩
    · intro k q hq
      match k, hq with
      | 0, hq => cases hq; exact hKn0
      | 1, hq => cases hq; exact hKn1
      | 2, hq => cases hq; exact hKn2
      | 3, hq => cases hq; exact hKn3
      | 4, hq => cases hq; exact hKn4
      | 5, hq => cases hq; exact hKn5
      | 6, hq => cases hq; exact hKn6
      | 7, hq => cases hq; exact hKn7
      | 8, hq => cases hq; exact hKn8
      | 9, hq => cases hq; exact hKn9
      | 10, hq => cases hq; exact hKn10
      | 11, hq => cases hq; exact hKn11
      | 12, hq => cases hq; exact hKn12
      | k + 13, hq => simp [vwCl] at hq
    · intro k q hq
      match k, hq with
      | 0, hq => cases hq; exact ⟨aB1, aB2⟩
      | 1, hq => cases hq; exact ⟨aI1, aI2⟩
      | 2, hq => cases hq; exact ⟨aJ1, aJ2⟩
      | 3, hq => cases hq; exact ⟨aZ1, aZ2⟩
      | 4, hq => cases hq; exact ⟨aC1, aC2⟩
      | 5, hq => cases hq; exact ⟨aF1, aF2⟩
      | 6, hq => cases hq; exact ⟨aT1, aT2⟩
      | 7, hq => cases hq; exact ⟨aII1, aII2⟩
      | 8, hq => cases hq; exact ⟨aJJ1, aJJ2⟩
      | k + 9, hq => simp [tysG] at hq
  have C0 : Cx p s m #[Value.ref b] meth c RL cL_law 4 (some .boolean) := ⟨hx, hb, hml, hown, fun w h => hts w (gd_sub h), hr, hlocks, hN⟩
  have hts : ∀ w ∈ lw_gd, w.before #[Value.ref b] s = true := fun w h => hts w (gd_sub h)
  obtain ⟨A, hA⟩ : ∃ A : Nat → Prop, A = (fun q : Nat => s.heap.size ≤ q) := ⟨_, rfl⟩
  have hbA : ¬ A b := by rw [hA]; exact Nat.not_le.mpr hbl
  have hAs : ∀ q : Nat, A q → s.heap.size ≤ q := fun q h => by rw [hA] at h; exact h
  have h : Wd G A s s.heap [] [] := ⟨hK, fun k q h => by simp at h, ⟨fun i j p q h => by simp at h, fun k q h => by simp at h⟩, va_S.rf, fun q h => by rw [hA]; exact h⟩
  have hl := lv_entry ([.ref b]) (n := 4) (Nat.le_of_ble_eq_true rfl)
  rw [lg_entry_eq]
  generalize (lg_sl ([.ref b]) ++ List.replicate (4 - (lg_sl ([.ref b])).length) Slot.unset).toArray = ls at hl ⊢
  have hl : lv_has ls 4 [(0, .ref b)] := hl
  refine m_new (ci := 11) (fs := [.null, .null, .null, .null, .null, .null, .null, .null, .null, .null, .null, .null, .null, .null, .null, .null, .int 0, .int 0, .int 0]) C0 h tyX11 tyX11_ok rfl gd_X11 q_147 q_148 q_125 (fun j hj => by rcases (show j = 0 ∨ j = 1 ∨ j = 2 ∨ j = 3 ∨ j = 4 ∨ j = 5 ∨ j = 6 ∨ j = 7 ∨ j = 8 ∨ j = 9 ∨ j = 10 ∨ j = 11 ∨ j = 12 ∨ j = 13 ∨ j = 14 ∨ j = 15 ∨ j = 16 ∨ j = 17 ∨ j = 18 by omega) with rfl | rfl | rfl | rfl | rfl | rfl | rfl | rfl | rfl | rfl | rfl | rfl | rfl | rfl | rfl | rfl | rfl | rfl | rfl <;> rfl) (Nat.le_of_ble_eq_true rfl) (Nat.le_of_ble_eq_true rfl) dL_law_0 (fun q_1 H h => ?_)
  have h : Wd G A s _ _ [(q_1, .inr (11, [.null, .null, .null, .null, .null, .null, .null, .null, .null, .null, .null, .null, .null, .null, .null, .null, .int 0, .int 0, .int 0]))] := h
  refine lv_dup hx hb dL_law_3 rfl ?_
  refine m_clv (wr := []) h (m_rI (As := []) (rest := [.ref q_1]) C0 h (c_X11_init l G q_1) k_X11_init rfl q_150 q_149 [0] (by decide) rfl hl.1 rfl rfl (Nat.le_of_ble_eq_true rfl) dL_law_4 ⟨Nat.le_of_ble_eq_true rfl, Nat.le_of_ble_eq_true rfl⟩ ⟨Nat.le_of_ble_eq_true rfl, Nat.le_of_ble_eq_true rfl⟩) [0] [] rfl rfl (by decide) (by decide) (fun u_2 H locs hp_3 h => ?_)
  obtain ⟨ad, pf⟩ := u_2
  have hpf : pf 0 = some (ad 7 7) := hp_3
  have h : Wd G A s _ _ (xW G q_1 ad pf) := h
  refine lv_astore_n (lv' := [(1, .ref q_1), (0, .ref b)]) hx hb dL_law_7 rfl hl (by decide) rfl (fun ls hl => ?_)
  refine m_new (ci := 12) (fs := [.int 0, .null, .null, .null, .null, .int 0, .int 0, .int 0, .int 0, .int 0, .int 0, .int 0, .int 0, .int 0, .int 0, .null, .null, .int 0, .int 0, .int 0, .null, .null, .null, .null, .null, .null, .int 0, .null, .int 0, .null, .null, .null, .null, .null, .null, .int 0, .int 0, .int 0, .null, .null, .null, .null, .null, .null]) C0 h tyX12 tyX12_ok rfl gd_X12 q_1429 q_1430 q_137 (fun j hj => by rcases (show j = 0 ∨ j = 1 ∨ j = 2 ∨ j = 3 ∨ j = 4 ∨ j = 5 ∨ j = 6 ∨ j = 7 ∨ j = 8 ∨ j = 9 ∨ j = 10 ∨ j = 11 ∨ j = 12 ∨ j = 13 ∨ j = 14 ∨ j = 15 ∨ j = 16 ∨ j = 17 ∨ j = 18 ∨ j = 19 ∨ j = 20 ∨ j = 21 ∨ j = 22 ∨ j = 23 ∨ j = 24 ∨ j = 25 ∨ j = 26 ∨ j = 27 ∨ j = 28 ∨ j = 29 ∨ j = 30 ∨ j = 31 ∨ j = 32 ∨ j = 33 ∨ j = 34 ∨ j = 35 ∨ j = 36 ∨ j = 37 ∨ j = 38 ∨ j = 39 ∨ j = 40 ∨ j = 41 ∨ j = 42 ∨ j = 43 by omega) with rfl | rfl | rfl | rfl | rfl | rfl | rfl | rfl | rfl | rfl | rfl | rfl | rfl | rfl | rfl | rfl | rfl | rfl | rfl | rfl | rfl | rfl | rfl | rfl | rfl | rfl | rfl | rfl | rfl | rfl | rfl | rfl | rfl | rfl | rfl | rfl | rfl | rfl | rfl | rfl | rfl | rfl | rfl | rfl <;> rfl) (Nat.le_of_ble_eq_true rfl) (Nat.le_of_ble_eq_true rfl) dL_law_8 (fun q_4 H h => ?_)
  have h : Wd G A s _ _ ((xW G q_1 ad pf) ++ [(q_4, .inr (12, [.int 0, .null, .null, .null, .null, .int 0, .int 0, .int 0, .int 0, .int 0, .int 0, .int 0, .int 0, .int 0, .int 0, .null, .null, .int 0, .int 0, .int 0, .null, .null, .null, .null, .null, .null, .int 0, .null, .int 0, .null, .null, .null, .null, .null, .null, .int 0, .int 0, .int 0, .null, .null, .null, .null, .null, .null]))]) := h
  refine lv_dup hx hb dL_law_11 rfl ?_
  refine m_clv (wr := (xW G q_1 ad pf)) h (m_rI (As := []) (rest := [.ref q_4]) C0 h (c_X12_init l G q_4) k_X12_init rfl q_1432 q_1431 [86] (by decide) rfl hl.1 rfl rfl (Nat.le_of_ble_eq_true rfl) dL_law_12 ⟨Nat.le_of_ble_eq_true rfl, Nat.le_of_ble_eq_true rfl⟩ ⟨Nat.le_of_ble_eq_true rfl, Nat.le_of_ble_eq_true rfl⟩) [86] [0, 1, 2, 3, 4, 5, 6, 7, 8, 9, 10, 11, 12, 13, 14, 15, 16, 17, 18, 19, 20, 21, 22, 23, 24, 25, 26, 27, 28, 29, 30, 31, 32, 33, 34, 35, 36, 37, 38, 39, 40, 41, 42, 43, 44, 45, 46, 47, 48, 49, 50, 51, 52, 53, 54, 55, 56, 57, 58, 59, 60, 61, 62, 63, 64, 65, 66, 67, 68, 69, 70, 71, 72, 73, 74, 75, 76, 77, 78, 79, 80, 81, 82, 83, 84, 85] rfl rfl (by decide) (by decide) (fun u_5 H locs hp_6 h => ?_)
  have h : Wd G A s _ _ ((xW G q_1 ad pf) ++ (mW G q_4 u_5)) := h
  refine lv_astore_n (lv' := [(2, .ref q_4), (1, .ref q_1), (0, .ref b)]) hx hb dL_law_15 rfl hl (by decide) rfl (fun ls hl => ?_)
  refine lv_iconst (v := 0) hx hb dL_law_16 (by decide) ?_
  refine lv_istore_n (lv' := [(3, .int 0), (2, .ref q_4), (1, .ref q_1), (0, .ref b)]) hx hb dL_law_17 rfl hl (by decide) rfl (fun ls hl => ?_)
  refine W.widen (k := 1000) (n := 200000) (Nat.le_of_ble_eq_true rfl) (Nat.le_of_ble_eq_true rfl) ?_
  rcases (show L = 0 ∨ L = 1 ∨ L = 2 ∨ L = 3 ∨ L = 4 ∨ L = 5 ∨ L = 6 by omega) with rfl | rfl | rfl | rfl | rfl | rfl | rfl
  · -- L = 0
    refine lv_iload_n hx hb dL_law_18 rfl (lv_at hl 0 rfl) ?_
    refine lv_aload_n hx hb dL_law_19 rfl (lv_at hl 3 rfl) ?_
    refine va_slen hx hb hX hbl hbA h.2.2.2.1 dL_law_20 ?_
    refine W.eq (g2 := F0 m 21 ls [.int 0, .int 0]) rfl ?_
    refine lv_bipush (v := 6) hx hb dL_law_21 (by decide) ?_
    refine lv_isub hx hb dL_law_23 ?_
    refine lv_topi (fun k_7 ek_7 => ?_)
    obtain rfl : k_7 = (-6) := ek_7.trans (by decide)
    refine lv_icmp_gt (tgt := 1733) hx hb dL_law_24 (by decide) (fun c_8 => ?_) (fun c_8 => absurd c_8 (by decide))
    refine lv_iconst (v := 1) hx hb dL_law_1733 (by decide) ?_
    refine W.widen (k := 600000) (n := 7302250) (Nat.le_of_ble_eq_true rfl) (Nat.le_of_ble_eq_true rfl) ?_
    refine va_forget (fun q hq => hAs _ (h.2.2.2.1.2.2 q hq)) ?_
    exact lw_ret hx hb hr hlocks dL_law_1734
  · -- L = 1
    refine lv_iload_n hx hb dL_law_18 rfl (lv_at hl 0 rfl) ?_
    refine lv_aload_n hx hb dL_law_19 rfl (lv_at hl 3 rfl) ?_
    refine va_slen hx hb hX hbl hbA h.2.2.2.1 dL_law_20 ?_
    refine W.eq (g2 := F0 m 21 ls [.int 1, .int 0]) rfl ?_
    refine lv_bipush (v := 6) hx hb dL_law_21 (by decide) ?_
    refine lv_isub hx hb dL_law_23 ?_
    refine lv_topi (fun k_9 ek_9 => ?_)
    obtain rfl : k_9 = (-5) := ek_9.trans (by decide)
    refine lv_icmp_gt (tgt := 1733) hx hb dL_law_24 (by decide) (fun c_10 => ?_) (fun c_10 => absurd c_10 (by decide))
    refine lv_iconst (v := 1) hx hb dL_law_1733 (by decide) ?_
    refine W.widen (k := 600000) (n := 7302250) (Nat.le_of_ble_eq_true rfl) (Nat.le_of_ble_eq_true rfl) ?_
    refine va_forget (fun q hq => hAs _ (h.2.2.2.1.2.2 q hq)) ?_
    exact lw_ret hx hb hr hlocks dL_law_1734
  · -- L = 2
    refine lv_iload_n hx hb dL_law_18 rfl (lv_at hl 0 rfl) ?_
    refine lv_aload_n hx hb dL_law_19 rfl (lv_at hl 3 rfl) ?_
    refine va_slen hx hb hX hbl hbA h.2.2.2.1 dL_law_20 ?_
    refine W.eq (g2 := F0 m 21 ls [.int 2, .int 0]) rfl ?_
    refine lv_bipush (v := 6) hx hb dL_law_21 (by decide) ?_
    refine lv_isub hx hb dL_law_23 ?_
    refine lv_topi (fun k_11 ek_11 => ?_)
    obtain rfl : k_11 = (-4) := ek_11.trans (by decide)
    refine lv_icmp_gt (tgt := 1733) hx hb dL_law_24 (by decide) (fun c_12 => ?_) (fun c_12 => absurd c_12 (by decide))
    refine lv_iconst (v := 1) hx hb dL_law_1733 (by decide) ?_
    refine W.widen (k := 600000) (n := 7302250) (Nat.le_of_ble_eq_true rfl) (Nat.le_of_ble_eq_true rfl) ?_
    refine va_forget (fun q hq => hAs _ (h.2.2.2.1.2.2 q hq)) ?_
    exact lw_ret hx hb hr hlocks dL_law_1734
  · -- L = 3
    refine lv_iload_n hx hb dL_law_18 rfl (lv_at hl 0 rfl) ?_
    refine lv_aload_n hx hb dL_law_19 rfl (lv_at hl 3 rfl) ?_
    refine va_slen hx hb hX hbl hbA h.2.2.2.1 dL_law_20 ?_
    refine W.eq (g2 := F0 m 21 ls [.int 3, .int 0]) rfl ?_
    refine lv_bipush (v := 6) hx hb dL_law_21 (by decide) ?_
    refine lv_isub hx hb dL_law_23 ?_
    refine lv_topi (fun k_13 ek_13 => ?_)
    obtain rfl : k_13 = (-3) := ek_13.trans (by decide)
    refine lv_icmp_gt (tgt := 1733) hx hb dL_law_24 (by decide) (fun c_14 => ?_) (fun c_14 => absurd c_14 (by decide))
    refine lv_iconst (v := 1) hx hb dL_law_1733 (by decide) ?_
    refine W.widen (k := 600000) (n := 7302250) (Nat.le_of_ble_eq_true rfl) (Nat.le_of_ble_eq_true rfl) ?_
    refine va_forget (fun q hq => hAs _ (h.2.2.2.1.2.2 q hq)) ?_
    exact lw_ret hx hb hr hlocks dL_law_1734
  · -- L = 4
    refine lv_iload_n hx hb dL_law_18 rfl (lv_at hl 0 rfl) ?_
    refine lv_aload_n hx hb dL_law_19 rfl (lv_at hl 3 rfl) ?_
    refine va_slen hx hb hX hbl hbA h.2.2.2.1 dL_law_20 ?_
    refine W.eq (g2 := F0 m 21 ls [.int 4, .int 0]) rfl ?_
    refine lv_bipush (v := 6) hx hb dL_law_21 (by decide) ?_
    refine lv_isub hx hb dL_law_23 ?_
    refine lv_topi (fun k_15 ek_15 => ?_)
    obtain rfl : k_15 = (-2) := ek_15.trans (by decide)
    refine lv_icmp_gt (tgt := 1733) hx hb dL_law_24 (by decide) (fun c_16 => ?_) (fun c_16 => absurd c_16 (by decide))
    refine lv_iconst (v := 1) hx hb dL_law_1733 (by decide) ?_
    refine W.widen (k := 600000) (n := 7302250) (Nat.le_of_ble_eq_true rfl) (Nat.le_of_ble_eq_true rfl) ?_
    refine va_forget (fun q hq => hAs _ (h.2.2.2.1.2.2 q hq)) ?_
    exact lw_ret hx hb hr hlocks dL_law_1734
  · -- L = 5
    refine lv_iload_n hx hb dL_law_18 rfl (lv_at hl 0 rfl) ?_
    refine lv_aload_n hx hb dL_law_19 rfl (lv_at hl 3 rfl) ?_
    refine va_slen hx hb hX hbl hbA h.2.2.2.1 dL_law_20 ?_
    refine W.eq (g2 := F0 m 21 ls [.int 5, .int 0]) rfl ?_
    refine lv_bipush (v := 6) hx hb dL_law_21 (by decide) ?_
    refine lv_isub hx hb dL_law_23 ?_
    refine lv_topi (fun k_17 ek_17 => ?_)
    obtain rfl : k_17 = (-1) := ek_17.trans (by decide)
    refine lv_icmp_gt (tgt := 1733) hx hb dL_law_24 (by decide) (fun c_18 => ?_) (fun c_18 => absurd c_18 (by decide))
    refine lv_iconst (v := 1) hx hb dL_law_1733 (by decide) ?_
    refine W.widen (k := 600000) (n := 7302250) (Nat.le_of_ble_eq_true rfl) (Nat.le_of_ble_eq_true rfl) ?_
    refine va_forget (fun q hq => hAs _ (h.2.2.2.1.2.2 q hq)) ?_
    exact lw_ret hx hb hr hlocks dL_law_1734
  · -- L = 6
    refine lv_iload_n hx hb dL_law_18 rfl (lv_at hl 0 rfl) ?_
    refine lv_aload_n hx hb dL_law_19 rfl (lv_at hl 3 rfl) ?_
    refine va_slen hx hb hX hbl hbA h.2.2.2.1 dL_law_20 ?_
    refine W.eq (g2 := F0 m 21 ls [.int 6, .int 0]) rfl ?_
    refine lv_bipush (v := 6) hx hb dL_law_21 (by decide) ?_
    refine lv_isub hx hb dL_law_23 ?_
    refine lv_topi (fun k_19 ek_19 => ?_)
    obtain rfl : k_19 = 0 := ek_19.trans (by decide)
    refine lv_icmp_gt (tgt := 1733) hx hb dL_law_24 (by decide) (fun c_20 => absurd c_20 (by decide)) (fun c_20 => ?_)
    refine lv_aload_n hx hb dL_law_27 rfl (lv_at hl 3 rfl) ?_
    refine lv_iload_n hx hb dL_law_28 rfl (lv_at hl 0 rfl) ?_
    refine va_sld hx hb hX hbl hbA h.2.2.2.1 (vp_in_nI (n := 0) (N := 6) (by decide) (by decide)) dL_law_29 ?_
    refine W.eq (g2 := F0 m 30 ls [.int (xs 0)]) rfl ?_
    refine lv_bipush (v := 63) hx hb dL_law_30 (by decide) ?_
    refine lv_iand hx hb dL_law_32 ?_
    refine lv_topi (fun kk ekk => ?_)
    clear ekk
    by_cases sw_21 : kk.toInt < 0 ∨ 40 < kk.toInt
    · refine lv_tableOut (tgt := 1727) hx hb dL_law_33 sw_21 (by decide) ?_
      refine W.widen (k := 600000) (n := 7302250) (Nat.le_of_ble_eq_true rfl) (Nat.le_of_ble_eq_true rfl) ?_
      exact law_tail C0 hX hbl hbA hAs G h (lv_sub hl [3, 2, 1, 0] rfl)
    · obtain ⟨sw_211, sw_212⟩ := not_or.mp sw_21
      have sw_213 : kk = 0 ∨ kk = 1 ∨ kk = 2 ∨ kk = 3 ∨ kk = 4 ∨ kk = 5 ∨ kk = 6 ∨ kk = 7 ∨ kk = 8 ∨ kk = 9 ∨ kk = 10 ∨ kk = 11 ∨ kk = 12 ∨ kk = 13 ∨ kk = 14 ∨ kk = 15 ∨ kk = 16 ∨ kk = 17 ∨ kk = 18 ∨ kk = 19 ∨ kk = 20 ∨ kk = 21 ∨ kk = 22 ∨ kk = 23 ∨ kk = 24 ∨ kk = 25 ∨ kk = 26 ∨ kk = 27 ∨ kk = 28 ∨ kk = 29 ∨ kk = 30 ∨ kk = 31 ∨ kk = 32 ∨ kk = 33 ∨ kk = 34 ∨ kk = 35 ∨ kk = 36 ∨ kk = 37 ∨ kk = 38 ∨ kk = 39 ∨ kk = 40 := by
        have e1 : kk = Int32.ofInt kk.toInt := (Int32.ofInt_toInt _).symm
        rcases (show kk.toInt = 0 ∨ kk.toInt = 1 ∨ kk.toInt = 2 ∨ kk.toInt = 3 ∨ kk.toInt = 4 ∨ kk.toInt = 5 ∨ kk.toInt = 6 ∨ kk.toInt = 7 ∨ kk.toInt = 8 ∨ kk.toInt = 9 ∨ kk.toInt = 10 ∨ kk.toInt = 11 ∨ kk.toInt = 12 ∨ kk.toInt = 13 ∨ kk.toInt = 14 ∨ kk.toInt = 15 ∨ kk.toInt = 16 ∨ kk.toInt = 17 ∨ kk.toInt = 18 ∨ kk.toInt = 19 ∨ kk.toInt = 20 ∨ kk.toInt = 21 ∨ kk.toInt = 22 ∨ kk.toInt = 23 ∨ kk.toInt = 24 ∨ kk.toInt = 25 ∨ kk.toInt = 26 ∨ kk.toInt = 27 ∨ kk.toInt = 28 ∨ kk.toInt = 29 ∨ kk.toInt = 30 ∨ kk.toInt = 31 ∨ kk.toInt = 32 ∨ kk.toInt = 33 ∨ kk.toInt = 34 ∨ kk.toInt = 35 ∨ kk.toInt = 36 ∨ kk.toInt = 37 ∨ kk.toInt = 38 ∨ kk.toInt = 39 ∨ kk.toInt = 40 by omega) with e2 | e2 | e2 | e2 | e2 | e2 | e2 | e2 | e2 | e2 | e2 | e2 | e2 | e2 | e2 | e2 | e2 | e2 | e2 | e2 | e2 | e2 | e2 | e2 | e2 | e2 | e2 | e2 | e2 | e2 | e2 | e2 | e2 | e2 | e2 | e2 | e2 | e2 | e2 | e2 | e2 <;> rw [e2] at e1 <;> simp [e1]
      rcases sw_213 with sw_214 | sw_214 | sw_214 | sw_214 | sw_214 | sw_214 | sw_214 | sw_214 | sw_214 | sw_214 | sw_214 | sw_214 | sw_214 | sw_214 | sw_214 | sw_214 | sw_214 | sw_214 | sw_214 | sw_214 | sw_214 | sw_214 | sw_214 | sw_214 | sw_214 | sw_214 | sw_214 | sw_214 | sw_214 | sw_214 | sw_214 | sw_214 | sw_214 | sw_214 | sw_214 | sw_214 | sw_214 | sw_214 | sw_214 | sw_214 | sw_214
      · refine lv_tableIn (off := 179) (tgt := 212) hx hb dL_law_33 sw_211 sw_212 (by rw [sw_214]; rfl) (by decide) ?_
        exact law_case_0 C0 hX hbl hbA hAs G q_1 q_4 ad pf hpf u_5 h (lv_sub hl [3, 2, 1, 0] rfl)
      · refine lv_tableIn (off := 242) (tgt := 275) hx hb dL_law_33 sw_211 sw_212 (by rw [sw_214]; rfl) (by decide) ?_
        exact law_case_1 C0 hX hbl hbA hAs G q_1 q_4 ad pf hpf u_5 h (lv_sub hl [3, 2, 1, 0] rfl)
      · refine lv_tableIn (off := 265) (tgt := 298) hx hb dL_law_33 sw_211 sw_212 (by rw [sw_214]; rfl) (by decide) ?_
        exact law_case_2 C0 hX hbl hbA hAs G q_1 q_4 ad pf hpf u_5 h (lv_sub hl [3, 2, 1, 0] rfl)
      · refine lv_tableIn (off := 288) (tgt := 321) hx hb dL_law_33 sw_211 sw_212 (by rw [sw_214]; rfl) (by decide) ?_
        exact law_case_3 C0 hX hbl hbA hAs G q_1 q_4 ad pf hpf u_5 h (lv_sub hl [3, 2, 1, 0] rfl)
      · refine lv_tableIn (off := 321) (tgt := 354) hx hb dL_law_33 sw_211 sw_212 (by rw [sw_214]; rfl) (by decide) ?_
        exact law_case_4 C0 hX hbl hbA hAs G q_1 q_4 ad pf hpf u_5 h (lv_sub hl [3, 2, 1, 0] rfl)
      · refine lv_tableIn (off := 354) (tgt := 387) hx hb dL_law_33 sw_211 sw_212 (by rw [sw_214]; rfl) (by decide) ?_
        exact law_case_5 C0 hX hbl hbA hAs G q_1 q_4 ad pf hpf u_5 h (lv_sub hl [3, 2, 1, 0] rfl)
      · refine lv_tableIn (off := 387) (tgt := 420) hx hb dL_law_33 sw_211 sw_212 (by rw [sw_214]; rfl) (by decide) ?_
        exact law_case_6 C0 hX hbl hbA hAs G q_1 q_4 ad pf hpf u_5 h (lv_sub hl [3, 2, 1, 0] rfl)
      · refine lv_tableIn (off := 430) (tgt := 463) hx hb dL_law_33 sw_211 sw_212 (by rw [sw_214]; rfl) (by decide) ?_
        exact law_case_7 C0 hX hbl hbA hAs G q_1 q_4 ad pf hpf u_5 h (lv_sub hl [3, 2, 1, 0] rfl)
      · refine lv_tableIn (off := 463) (tgt := 496) hx hb dL_law_33 sw_211 sw_212 (by rw [sw_214]; rfl) (by decide) ?_
        exact law_case_8 C0 hX hbl hbA hAs G q_1 q_4 ad pf hpf u_5 h (lv_sub hl [3, 2, 1, 0] rfl)
      · refine lv_tableIn (off := 496) (tgt := 529) hx hb dL_law_33 sw_211 sw_212 (by rw [sw_214]; rfl) (by decide) ?_
        exact law_case_9 C0 hX hbl hbA hAs G q_1 q_4 ad pf hpf u_5 h (lv_sub hl [3, 2, 1, 0] rfl)
      · refine lv_tableIn (off := 529) (tgt := 562) hx hb dL_law_33 sw_211 sw_212 (by rw [sw_214]; rfl) (by decide) ?_
        exact law_case_10 C0 hX hbl hbA hAs G q_1 q_4 ad pf hpf u_5 h (lv_sub hl [3, 2, 1, 0] rfl)
      · refine lv_tableIn (off := 552) (tgt := 585) hx hb dL_law_33 sw_211 sw_212 (by rw [sw_214]; rfl) (by decide) ?_
        exact law_case_11 C0 hX hbl hbA hAs G q_1 q_4 ad pf hpf u_5 h (lv_sub hl [3, 2, 1, 0] rfl)
      · refine lv_tableIn (off := 585) (tgt := 618) hx hb dL_law_33 sw_211 sw_212 (by rw [sw_214]; rfl) (by decide) ?_
        exact law_case_12 C0 hX hbl hbA hAs G q_1 q_4 ad pf hpf u_5 h (lv_sub hl [3, 2, 1, 0] rfl)
      · refine lv_tableIn (off := 608) (tgt := 641) hx hb dL_law_33 sw_211 sw_212 (by rw [sw_214]; rfl) (by decide) ?_
        exact law_case_13 C0 hX hbl hbA hAs G q_1 q_4 ad pf hpf u_5 h (lv_sub hl [3, 2, 1, 0] rfl)
      · refine lv_tableIn (off := 651) (tgt := 684) hx hb dL_law_33 sw_211 sw_212 (by rw [sw_214]; rfl) (by decide) ?_
        exact law_case_14 C0 hX hbl hbA hAs G q_1 q_4 ad pf hpf u_5 h (lv_sub hl [3, 2, 1, 0] rfl)
      · refine lv_tableIn (off := 684) (tgt := 717) hx hb dL_law_33 sw_211 sw_212 (by rw [sw_214]; rfl) (by decide) ?_
        exact law_case_15 C0 hX hbl hbA hAs G q_1 q_4 ad pf hpf u_5 h (lv_sub hl [3, 2, 1, 0] rfl)
      · refine lv_tableIn (off := 707) (tgt := 740) hx hb dL_law_33 sw_211 sw_212 (by rw [sw_214]; rfl) (by decide) ?_
        exact law_case_16 C0 hX hbl hbA hAs G q_1 q_4 ad pf hpf u_5 h (lv_sub hl [3, 2, 1, 0] rfl)
      · refine lv_tableIn (off := 730) (tgt := 763) hx hb dL_law_33 sw_211 sw_212 (by rw [sw_214]; rfl) (by decide) ?_
        exact law_case_17 C0 hX hbl hbA hAs G q_1 q_4 ad pf hpf u_5 h (lv_sub hl [3, 2, 1, 0] rfl)
      · refine lv_tableIn (off := 763) (tgt := 796) hx hb dL_law_33 sw_211 sw_212 (by rw [sw_214]; rfl) (by decide) ?_
        exact law_case_18 C0 hX hbl hbA hAs G q_1 q_4 ad pf hpf u_5 h (lv_sub hl [3, 2, 1, 0] rfl)
      · refine lv_tableIn (off := 806) (tgt := 839) hx hb dL_law_33 sw_211 sw_212 (by rw [sw_214]; rfl) (by decide) ?_
        exact law_case_19 C0 hX hbl hbA hAs G q_1 q_4 ad pf hpf u_5 h (lv_sub hl [3, 2, 1, 0] rfl)
      · refine lv_tableIn (off := 859) (tgt := 892) hx hb dL_law_33 sw_211 sw_212 (by rw [sw_214]; rfl) (by decide) ?_
        exact law_case_20 C0 hX hbl hbA hAs G q_1 q_4 ad pf hpf u_5 h (lv_sub hl [3, 2, 1, 0] rfl)
      · refine lv_tableIn (off := 902) (tgt := 935) hx hb dL_law_33 sw_211 sw_212 (by rw [sw_214]; rfl) (by decide) ?_
        exact law_case_21 C0 hX hbl hbA hAs G q_1 q_4 ad pf hpf u_5 h (lv_sub hl [3, 2, 1, 0] rfl)
      · refine lv_tableIn (off := 945) (tgt := 978) hx hb dL_law_33 sw_211 sw_212 (by rw [sw_214]; rfl) (by decide) ?_
        exact law_case_22 C0 hX hbl hbA hAs G q_1 q_4 ad pf hpf u_5 h (lv_sub hl [3, 2, 1, 0] rfl)
      · refine lv_tableIn (off := 999) (tgt := 1032) hx hb dL_law_33 sw_211 sw_212 (by rw [sw_214]; rfl) (by decide) ?_
        exact law_case_23 C0 hX hbl hbA hAs G q_1 q_4 ad pf hpf u_5 h (lv_sub hl [3, 2, 1, 0] rfl)
      · refine lv_tableIn (off := 1032) (tgt := 1065) hx hb dL_law_33 sw_211 sw_212 (by rw [sw_214]; rfl) (by decide) ?_
        exact law_case_24 C0 hX hbl hbA hAs G q_1 q_4 ad pf hpf u_5 h (lv_sub hl [3, 2, 1, 0] rfl)
      · refine lv_tableIn (off := 1055) (tgt := 1088) hx hb dL_law_33 sw_211 sw_212 (by rw [sw_214]; rfl) (by decide) ?_
        exact law_case_25 C0 hX hbl hbA hAs G q_1 q_4 ad pf hpf u_5 h (lv_sub hl [3, 2, 1, 0] rfl)
      · refine lv_tableIn (off := 1088) (tgt := 1121) hx hb dL_law_33 sw_211 sw_212 (by rw [sw_214]; rfl) (by decide) ?_
        exact law_case_26 C0 hX hbl hbA hAs G q_1 q_4 ad pf hpf u_5 h (lv_sub hl [3, 2, 1, 0] rfl)
      · refine lv_tableIn (off := 1131) (tgt := 1164) hx hb dL_law_33 sw_211 sw_212 (by rw [sw_214]; rfl) (by decide) ?_
        exact law_case_27 C0 hX hbl hbA hAs G q_1 q_4 ad pf hpf u_5 h (lv_sub hl [3, 2, 1, 0] rfl)
      · refine lv_tableIn (off := 1184) (tgt := 1217) hx hb dL_law_33 sw_211 sw_212 (by rw [sw_214]; rfl) (by decide) ?_
        exact law_case_28 C0 hX hbl hbA hAs G q_1 q_4 ad pf hpf u_5 h (lv_sub hl [3, 2, 1, 0] rfl)
      · refine lv_tableIn (off := 1227) (tgt := 1260) hx hb dL_law_33 sw_211 sw_212 (by rw [sw_214]; rfl) (by decide) ?_
        exact law_case_29 C0 hX hbl hbA hAs G q_1 q_4 ad pf hpf u_5 h (lv_sub hl [3, 2, 1, 0] rfl)
      · refine lv_tableIn (off := 1270) (tgt := 1303) hx hb dL_law_33 sw_211 sw_212 (by rw [sw_214]; rfl) (by decide) ?_
        exact law_case_30 C0 hX hbl hbA hAs G q_1 q_4 ad pf hpf u_5 h (lv_sub hl [3, 2, 1, 0] rfl)
      · refine lv_tableIn (off := 1283) (tgt := 1316) hx hb dL_law_33 sw_211 sw_212 (by rw [sw_214]; rfl) (by decide) ?_
        exact law_case_31 C0 hX hbl hbA hAs G q_1 q_4 ad pf hpf u_5 h (lv_sub hl [3, 2, 1, 0] rfl)
      · refine lv_tableIn (off := 1306) (tgt := 1339) hx hb dL_law_33 sw_211 sw_212 (by rw [sw_214]; rfl) (by decide) ?_
        exact law_case_32 C0 hX hbl hbA hAs G q_1 q_4 ad pf hpf u_5 h (lv_sub hl [3, 2, 1, 0] rfl)
      · refine lv_tableIn (off := 1349) (tgt := 1382) hx hb dL_law_33 sw_211 sw_212 (by rw [sw_214]; rfl) (by decide) ?_
        exact law_case_33 C0 hX hbl hbA hAs G q_1 q_4 ad pf hpf u_5 h (lv_sub hl [3, 2, 1, 0] rfl)
      · refine lv_tableIn (off := 1402) (tgt := 1435) hx hb dL_law_33 sw_211 sw_212 (by rw [sw_214]; rfl) (by decide) ?_
        exact law_case_34 C0 hX hbl hbA hAs G q_1 q_4 ad pf hpf u_5 h (lv_sub hl [3, 2, 1, 0] rfl)
      · refine lv_tableIn (off := 1455) (tgt := 1488) hx hb dL_law_33 sw_211 sw_212 (by rw [sw_214]; rfl) (by decide) ?_
        exact law_case_35 C0 hX hbl hbA hAs G q_1 q_4 ad pf hpf u_5 h (lv_sub hl [3, 2, 1, 0] rfl)
      · refine lv_tableIn (off := 1498) (tgt := 1531) hx hb dL_law_33 sw_211 sw_212 (by rw [sw_214]; rfl) (by decide) ?_
        exact law_case_36 C0 hX hbl hbA hAs G q_1 q_4 ad pf hpf u_5 h (lv_sub hl [3, 2, 1, 0] rfl)
      · refine lv_tableIn (off := 1572) (tgt := 1605) hx hb dL_law_33 sw_211 sw_212 (by rw [sw_214]; rfl) (by decide) ?_
        exact law_case_37 C0 hX hbl hbA hAs G q_1 q_4 ad pf hpf u_5 h (lv_sub hl [3, 2, 1, 0] rfl)
      · refine lv_tableIn (off := 1625) (tgt := 1658) hx hb dL_law_33 sw_211 sw_212 (by rw [sw_214]; rfl) (by decide) ?_
        exact law_case_38 C0 hX hbl hbA hAs G q_1 q_4 ad pf hpf u_5 h (lv_sub hl [3, 2, 1, 0] rfl)
      · refine lv_tableIn (off := 1648) (tgt := 1681) hx hb dL_law_33 sw_211 sw_212 (by rw [sw_214]; rfl) (by decide) ?_
        exact law_case_39 C0 hX hbl hbA hAs G q_1 q_4 ad pf hpf u_5 h (lv_sub hl [3, 2, 1, 0] rfl)
      · refine lv_tableIn (off := 1671) (tgt := 1704) hx hb dL_law_33 sw_211 sw_212 (by rw [sw_214]; rfl) (by decide) ?_
        exact law_case_40 C0 hX hbl hbA hAs G q_1 q_4 ad pf hpf u_5 h (lv_sub hl [3, 2, 1, 0] rfl)

set_option maxHeartbeats 4000000 in
theorem lw_walk (l : Launch) (hflags : l.flags = flags0) (b : Addr) (xs : List Int32) : MetFree l x (headSpec (Jvm.Cond.code x code maxLocals ret :: tables_1) room_1) (lw_P b xs) (fun _ _ _ _ _ => True) lw_Q := by
  refine MetFree.of_bodyS (code := code) (maxLocals := maxLocals) (ret := ret) (by decide) ?_ ?_
  · intro args s m h hn
    obtain ⟨meth, c, h1, h2, h3, h4, h5, h6, -, -⟩ := Cond.code_spec hn (atoms_spec (ws := Jvm.Cond.code x code maxLocals ret :: tables_1) h _ List.mem_cons_self)
    exact ⟨meth, c, h1, h2, h3, h4, h5, h6⟩
  · intro p e s m args below meth c s₁ B hml0 hP _
    obtain ⟨rfl, hx, hbd, hgv⟩ := hP
    obtain ⟨scr, harrAt, hlist, hof, hsmall⟩ := hx
    obtain ⟨hcb, hkn, -, -⟩ := State.arrayAt?_spec harrAt
    have hown : s.vm.findClass R_law = some m.cls := findClass_of_methodNamed B.named
    have hts0 : ∀ c ∈ (Jvm.Cond.code x code maxLocals ret :: tables_1), c.before #[Value.ref b] s = true := atoms_spec (ws := Jvm.Cond.code x code maxLocals ret :: tables_1) B.pre
    have hts : ∀ w ∈ lw_tbl, w.before #[Value.ref b] s = true := k2_hts_sels lw_privs (fun w hw => hts0 w (List.mem_cons_of_mem _ hw)) lw_privs_ok
    have hml : c.maxLocals = 4 := B.maxLocals_eq (hts0 _ List.mem_cons_self)
    have X₀ : Stand p l e room_1 s m #[Value.ref b] below meth c s₁ [] 0 0 := Stand.of_body B
    have hh0 : s₁.heap = s.heap := by rw [B.state]; rfl
    have hsz : scr.slots.size = xs.length := by rw [← Array.length_toList, hlist, List.length_map]
    have hval : ∀ j : Nat, j < xs.length → scr.slots[j]? = some (.int (xs.getD j 0)) := fun j hj => by
      rw [← Array.getElem?_toList, hlist]
      simp [hj]
    have hbl : b < s.heap.size := (Array.getElem?_eq_some_iff.mp hcb).1
    have hX : va_X b xs.length (fun j => xs.getD j 0) s s.heap := ⟨scr, hcb, hof, hkn, hsz, hval⟩
    have K : W p l e room_1 s m #[Value.ref b] below meth c s₁.heap [] 0 0 (lw_Z below #[Value.ref b] s) (entryFrame m ([Value.ref b] : List Value).toArray 4) := by
      rw [hh0]
      exact whole_start l hflags hbd ⟨B.exec, B.bytes, B.returns, hml, hown, hts, hX, hbl, B.notSynchronized, hgv⟩
    obtain ⟨t, a1, o, b1, b2, b3⟩ := K s₁ rfl X₀
    exact ⟨t, o, a1, b1, b2, b3⟩
theorem lw_pre_spec {args : Array Value} {s : State} (h : (Jvm.Cond.and given_1 narrow_1).before args s = true) (hr : rest_1_c.before args s = true) : ∃ (b : Addr) (xs : List Int32), lw_P b xs args s := by
  have hs := flat_of_before _ h
  have hq := flat_of_before _ hr
  have hc : (Cond.count 1).before args s = true := hs _ (by decide +kernel)
  have harr : (Cond.arrayOf (.arg 0) .int).before args s = true := hs _ (by decide +kernel)
  have hle : (Cond.le (.length (.arg 0)) (.int 6)).before args s = true := hs _ (by decide +kernel)
  have hlen : (Cond.isInt (.length (.arg 0))).before args s = true := hq _ (by decide +kernel)
  have hall : (Cond.all (.arg 0) (.isInt (.elem (.arg 0) (.index 0)))).before args s = true := hq _ (by decide +kernel)
  obtain ⟨b, xs, hb, hx⟩ := State.ints_of_pre rfl harr hlen hall
  have hsm : xs.length < 2 ^ 31 := hx.choose_spec.2.2.2
  have hev : (Term.length (.arg 0)).eval args s none [] s = some (.int xs.length.toInt32) := hx.length_eval hb
  have hv := Cond.le_ints hev (show (Term.int 6).eval args s none [] s = some (.int 6) from rfl)
  have hd : xs.length.toInt32 ≤ 6 := by
    simpa [Cond.before, Cond.holds, hv] using hle
  have hN : xs.length ≤ 6 := (Int32.ofNat_le_ofNat hsm (by decide)).mp (show Int32.ofNat xs.length ≤ Int32.ofNat 6 from hd)
  exact ⟨b, xs, Cond.one_arg hc (show args[0]? = some (.ref b) from hb), hx, hN, h⟩
theorem lw_comes (l : Launch) (hflags : l.flags = flags0) : Comes l x (Jvm.Cond.code x code maxLocals ret :: tables_1) room_1 (fun tb e args s => Calls_1 tb e args s ∧ rest_1 tb e args s ∧ Pre_1 tb e args s)
    (fun _ _ args s o t => lw_Q args s o t) := by
  intro p e ha hc hk s m args below hf hfit hheap happ hpre
  obtain ⟨b, xs, hP⟩ := lw_pre_spec hpre.2.2 hpre.2.1
  obtain ⟨k, o, h1, h2, h3, hQ⟩ := lw_walk l hflags b xs p e ha hc hk s m args below hf ((Spec.applies_iff_loose hf).mp happ).1 hP trivial
  exact ⟨k, o, h1, h2, h3, hQ⟩
theorem lw_frame {s t : State} {o : Outcome} {args : Array Value} (h : Framed s o t [] 600000 7302250) :
    Framed s o t (fieldLocs frame_1_writes args s ++ arrayLocs frame_1_arrays args s ++ staticLocs frame_1_statics s) 600000 7302250 := h
theorem lw_limb (L : Cond) (hL : ∀ (args : Array Value) (s t : State), L.after args s (.returned (some (.int 1))) t = true) :
    ArmFor flags0 classFile x code maxLocals ret World_1 tables_1 room_1 Calls_1 rest_1 Pre_1
      (fun tb e a s o t => postC L tb e a s o t ∧ Framed s o t (fieldLocs frame_1_writes a s ++ arrayLocs frame_1_arrays a s ++ staticLocs frame_1_statics s) 600000 7302250) := by
  intro l hflags _ _ p e ha hc hk s m args below hf hfit hheap happ hpre
  obtain ⟨k, o, h1, h2, h3, rfl, hF⟩ := lw_comes l hflags p e ha hc hk s m args below hf hfit hheap happ hpre
  exact ⟨k, _, h1, h2, h3, hL args s _, lw_frame hF⟩
theorem i_vc : Claimed_1_1 ∧ Claimed_1_2 := ⟨lw_limb limb_1_1 (fun args s t => by simp [limb_1_1, Cond.after, Cond.holds, Cond.value]), lw_limb limb_1_2 (fun args s t => Cond.after_iff.mpr (by
  first | (rw [show limb_1_2 = Cond.eq .result (.int 1) from rfl, Cond.eq_ints (x := 1) (y := 1) rfl rfl]; simp; done) | (simp [limb_1_2, Cond.value, Term.eval]; done)))⟩

