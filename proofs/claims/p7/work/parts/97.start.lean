def cns (a : Nat) (u : Nat → Nat) : Nat → Nat
  | 0 => a
  | k + 1 => u k
theorem ac_of {ty : FieldType} {args : Array Value} {s : State} (h : (Cond.arrayClass ty).before args s = true) : ∃ c : ClassId, ArrOfT s c ty ∧ s.vm.findClass ("[" ++ ty.toString) = some c := by
  obtain ⟨c, k, comp, h1, h2, h3⟩ := Cond.arrayClass_spec h
  exact ⟨c, fun N z => ⟨(fun q hq => by cases hq), k, h2, comp, h3⟩, h1⟩
theorem ao_of {C : String} {s : State} (h : va_AO C s) : ∃ c : ClassId, ArrOfT s c (.object C) ∧ va_RA s c (.object C) := by
  obtain ⟨comp, c, k, h1, -, h3, h4, h5⟩ := Cond.arrayOver_spec h
  exact ⟨c, fun N z => ⟨(fun q hq => by cases hq), k, h3, comp, h4⟩, k, comp, h3, h4, h1, h5⟩
theorem aa_of {ty : FieldType} {s : State} (h : nx_A ty s) : ∃ c : ClassId, ArrOfT s c (.array ty) ∧ s.vm.findClass ("[" ++ (FieldType.array ty).toString) = some c := by
  unfold nx_A Cond.before Cond.holds at h
  simp only [Cond.value, beq_iff_eq] at h
  cases hc : s.vm.findClass (FieldType.array ty).toString with
  | none => simp [hc] at h
  | some comp =>
    simp only [hc, Option.bind_some, Option.bind_eq_some_iff, Option.map_eq_some_iff] at h
    obtain ⟨c, hi, k, hk, hb⟩ := h
    cases hkind : k.kind with
    | array component t2 =>
      rw [hkind] at hb
      simp at hb
      exact ⟨c, fun N z => ⟨(fun q hq => by cases hq), k, hk, component, by rw [hkind, hb.1]⟩, hb.2⟩
    | _ => rw [hkind] at hb; simp at hb
theorem dL_law_0 : decode cL_law 0 = .ok (.new 7, 3) := by decide +kernel
theorem dL_law_3 : decode cL_law 3 = .ok (.dup, 1) := by decide +kernel
theorem dL_law_4 : decode cL_law 4 = .ok (.invokespecial 9, 3) := by decide +kernel
theorem dL_law_7 : decode cL_law 7 = .ok (.astore_n 1, 1) := by decide +kernel
theorem dL_law_8 : decode cL_law 8 = .ok (.new 10, 3) := by decide +kernel
theorem dL_law_11 : decode cL_law 11 = .ok (.dup, 1) := by decide +kernel
theorem dL_law_12 : decode cL_law 12 = .ok (.invokespecial 12, 3) := by decide +kernel
theorem dL_law_15 : decode cL_law 15 = .ok (.astore_n 2, 1) := by decide +kernel
theorem dL_law_16 : decode cL_law 16 = .ok (.iconst 0, 1) := by decide +kernel
theorem dL_law_17 : decode cL_law 17 = .ok (.istore_n 3, 1) := by decide +kernel
theorem RW_st {adC adM : Nat → Nat} {wc wm : va_W} (h : RA 1000 (xso SC adC wc) (xso SM adM wm)) : RW (1000 + 20 * (0 : Int32).toInt) adC adM wc wm := by
  have e0 : (1000 + 20 * (0 : Int32).toInt : Int) = 1000 := by decide
  unfold RW
  rw [e0]
  exact h
set_option maxHeartbeats 8000000 in
set_option maxRecDepth 100000 in
theorem whole_start {p : Program} {e : Env} {s : State} {m : MethodId} {below : List Frame} {meth : Method} {c : Code} (l : Launch) (hflags : l.flags = flags0) {b L : Nat} {xs : Nat → Int32} (hL : L ≤ 3072) (C0 : lw_At p s m meth c b L xs) : W p l e room_1 s m #[Value.ref b] below meth c s.heap [] 0 0 (lw_Z below #[Value.ref b] s) (entryFrame m ([Value.ref b] : List Value).toArray 4) := by
  obtain ⟨hx, hb, hr, hml, hown, hts, hX, hbl, hlocks, hgv⟩ := C0
  obtain ⟨c0, iS0, hKn0⟩ := u_known (C := RX0) (T := TX0) (N := 9) (n := 9) hts (fun w h => gd_sub (gd_X0 w h)) (hts _ (gd_sub q_156))
  obtain ⟨c1, iS1, hKn1⟩ := u_known (C := RX1) (T := TX1) (N := 9) (n := 9) hts (fun w h => gd_sub (gd_X1 w h)) (hts _ (gd_sub q_185))
  obtain ⟨c2, iS2, hKn2⟩ := u_known (C := RX2) (T := TX2) (N := 5) (n := 5) hts (fun w h => gd_sub (gd_X2 w h)) (hts _ (gd_sub q_287))
  obtain ⟨c3, iS3, hKn3⟩ := u_known (C := RX3) (T := TX3) (N := 5) (n := 5) hts (fun w h => gd_sub (gd_X3 w h)) (hts _ (gd_sub q_470))
  obtain ⟨c4, iS4, hKn4⟩ := u_known (C := RX4) (T := TX4) (N := 5) (n := 5) hts (fun w h => gd_sub (gd_X4 w h)) (hts _ (gd_sub q_162))
  obtain ⟨c5, iS5, hKn5⟩ := u_known (C := RX5) (T := TX5) (N := 11) (n := 11) hts (fun w h => gd_sub (gd_X5 w h)) (hts _ (gd_sub q_365))
  obtain ⟨c6, iS6, hKn6⟩ := u_known (C := RX6) (T := TX6) (N := 10) (n := 10) hts (fun w h => gd_sub (gd_X6 w h)) (hts _ (gd_sub q_406))
  obtain ⟨c7, iS7, hKn7⟩ := u_known (C := RX7) (T := TX7) (N := 7) (n := 7) hts (fun w h => gd_sub (gd_X7 w h)) (hts _ (gd_sub q_337))
  obtain ⟨c8, iS8, hKn8⟩ := u_known (C := RX8) (T := TX8) (N := 7) (n := 7) hts (fun w h => gd_sub (gd_X8 w h)) (hts _ (gd_sub q_309))
  obtain ⟨c9, iS9, hKn9⟩ := u_known (C := RX9) (T := TX9) (N := 5) (n := 5) hts (fun w h => gd_sub (gd_X9 w h)) (hts _ (gd_sub q_443))
  obtain ⟨c10, iS10, hKn10⟩ := u_known (C := RX10) (T := TX10) (N := 3) (n := 3) hts (fun w h => gd_sub (gd_X10 w h)) (hts _ (gd_sub q_493))
  obtain ⟨c11, iS11, hKn11⟩ := u_known (C := RX11) (T := TX11) (N := 19) (n := 19) hts (fun w h => gd_sub (gd_X11 w h)) (hts _ (gd_sub q_148))
  obtain ⟨c12, iS12, hKn12⟩ := u_known (C := RX12) (T := TX12) (N := 44) (n := 44) hts (fun w h => gd_sub (gd_X12 w h)) (hts _ (gd_sub q_1430))
  have hN : Nx s := ⟨va_Nw.of rfl (hts _ (tb_1 33 rfl)), va_Nw.of rfl (hts _ (tb_1 39 rfl)), va_Nw.of rfl (hts _ (tb_1 62 rfl)), va_Nw.of rfl (hts _ (tb_2 130 rfl)), va_Nw.of rfl (hts _ (tb_2 150 rfl)), va_Nw.of rfl (hts _ (tb_5 204 rfl)), va_AO.of (hts _ (tb_2 147 rfl)), va_AO.of (hts _ (tb_2 149 rfl)), va_AO.of (hts _ (tb_2 128 rfl)), (hts _ (tb_2 87 rfl)), (hts _ (tb_2 85 rfl))⟩
  obtain ⟨aB, aB1, aB2⟩ := ac_of (hts _ (gd_sub q_404))
  obtain ⟨aI, aI1, aI2⟩ := ac_of (hts _ (gd_sub q_183))
  obtain ⟨aJ, aJ1, aJ2⟩ := ac_of (hts _ (gd_sub q_468))
  obtain ⟨aZ, aZ1, aZ2⟩ := ac_of (hts _ (gd_sub q_573))
  obtain ⟨-, -, -, -, -, -, n7, n8, n9, n10, n11⟩ := id hN
  obtain ⟨aC, aC1, aC2⟩ := ao_of n7
  obtain ⟨aF, aF1, aF2⟩ := ao_of n8
  obtain ⟨aT, aT1, aT2⟩ := ao_of n9
  obtain ⟨aII, aII1, aII2⟩ := aa_of n10
  obtain ⟨aJJ, aJJ1, aJJ2⟩ := aa_of n11
  obtain ⟨G, hK⟩ : ∃ G : GG, va_K G.1 vwCl (tysG G) s := by
    refine ⟨((fun k => ([c0, c1, c2, c3, c4, c5, c6, c7, c8, c9, c10, c11, c12] : List ClassId).getD k c0, fun k => ([iS0, iS1, iS2, iS3, iS4, iS5, iS6, iS7, iS8, iS9, iS10, iS11, iS12] : List (Nat → Nat)).getD k iS0), fun k => ([aB, aI, aJ, aZ, aC, aF, aT, aII, aJJ] : List ClassId).getD k aB), ?_, ?_⟩
    · intro k q hq
      match k, hq with
      | 0, hq => cases hq; exact hKn0
      | 1, hq => cases hq; exact hKn1
      | 2, hq => cases hq; exact hKn2
      | 3, hq => cases hq; exact hKn3
      | 4, hq => cases hq; exact hKn4
      | 5, hq => cases hq; exact hKn5
      | 6, hq => cases hq; exact hKn6
      | 7, hq => cases hq; exact hKn7
      | 8, hq => cases hq; exact hKn8
      | 9, hq => cases hq; exact hKn9
      | 10, hq => cases hq; exact hKn10
      | 11, hq => cases hq; exact hKn11
      | 12, hq => cases hq; exact hKn12
      | k + 13, hq => simp [vwCl] at hq
    · intro k q hq
      match k, hq with
      | 0, hq => cases hq; exact ⟨aB1, aB2⟩
      | 1, hq => cases hq; exact ⟨aI1, aI2⟩
      | 2, hq => cases hq; exact ⟨aJ1, aJ2⟩
      | 3, hq => cases hq; exact ⟨aZ1, aZ2⟩
      | 4, hq => cases hq; exact ⟨aC1, aC2⟩
      | 5, hq => cases hq; exact ⟨aF1, aF2⟩
      | 6, hq => cases hq; exact ⟨aT1, aT2⟩
      | 7, hq => cases hq; exact ⟨aII1, aII2⟩
      | 8, hq => cases hq; exact ⟨aJJ1, aJJ2⟩
      | k + 9, hq => simp [tysG] at hq
  obtain ⟨A, hA⟩ : ∃ A : Nat → Prop, A = (fun q : Nat => s.heap.size ≤ q) := ⟨_, rfl⟩
  have hbA : ¬ A b := by rw [hA]; exact Nat.not_le.mpr hbl
  have hAs : ∀ q : Nat, A q → s.heap.size ≤ q := fun q h => by rw [hA] at h; exact h
  obtain ⟨Z, hZ⟩ := ro_start (A := A) hts hgv (fun a ha h => absurd (hAs a h) (Nat.not_le.mpr ha))
  have C0 : Cx p s m #[Value.ref b] meth c RL cL_law 4 (some .boolean) := ⟨hx, hb, hml, hown, fun w h => hts w (gd_sub h), hr, hlocks, hN⟩
  have hts : ∀ w ∈ lw_gd, w.before #[Value.ref b] s = true := fun w h => hts w (gd_sub h)
  have h : Wd G A s s.heap [] [] := ⟨hK, fun k q h => by simp at h, ⟨fun i j p q h => by simp at h, fun k q h => by simp at h⟩, va_S.rf, fun q h => by rw [hA]; exact h⟩
  have hl := lv_entry ([.ref b]) (n := 4) (Nat.le_of_ble_eq_true rfl)
  rw [lg_entry_eq]
  generalize (lg_sl ([.ref b]) ++ List.replicate (4 - (lg_sl ([.ref b])).length) Slot.unset).toArray = ls at hl ⊢
  have hl : lv_has ls 4 [(0, .ref b)] := hl
  refine m_new (ci := 11) (fs := [.null, .null, .null, .null, .null, .null, .null, .null, .null, .null, .null, .null, .null, .null, .null, .null, .int 0, .int 0, .int 0]) C0 h tyX11 tyX11_ok rfl gd_X11 q_147 q_148 q_125 (fun j hj => by rcases (show j = 0 ∨ j = 1 ∨ j = 2 ∨ j = 3 ∨ j = 4 ∨ j = 5 ∨ j = 6 ∨ j = 7 ∨ j = 8 ∨ j = 9 ∨ j = 10 ∨ j = 11 ∨ j = 12 ∨ j = 13 ∨ j = 14 ∨ j = 15 ∨ j = 16 ∨ j = 17 ∨ j = 18 by omega) with rfl | rfl | rfl | rfl | rfl | rfl | rfl | rfl | rfl | rfl | rfl | rfl | rfl | rfl | rfl | rfl | rfl | rfl | rfl <;> rfl) (Nat.le_of_ble_eq_true rfl) (Nat.le_of_ble_eq_true rfl) dL_law_0 (fun qz_1 H h => ?_)
  have h : Wd G A s _ _ [(qz_1, .inr (11, [.null, .null, .null, .null, .null, .null, .null, .null, .null, .null, .null, .null, .null, .null, .null, .null, .int 0, .int 0, .int 0]))] := h
  refine lv_dup hx hb dL_law_3 rfl ?_
  refine m_clv (wr := []) h (m_rI (As := []) (rest := [.ref qz_1]) C0 h (c_X11_init l G qz_1) k_X11_init rfl q_150 q_149 [0] (by decide) rfl hl.1 rfl rfl (Nat.le_of_ble_eq_true rfl) dL_law_4 ⟨Nat.le_of_ble_eq_true rfl, Nat.le_of_ble_eq_true rfl⟩ ⟨Nat.le_of_ble_eq_true rfl, Nat.le_of_ble_eq_true rfl⟩) [0] [] rfl rfl (by decide +kernel) (by decide +kernel) (fun u_2 H locs hp_3 h => ?_)
  have hx0 : u_2 0 = qz_1 := hp_3
  have h : Wd G A s _ _ (sW G u_2) := h
  refine lv_astore_n (lv' := [(1, .ref qz_1), (0, .ref b)]) hx hb dL_law_7 rfl hl (by decide) rfl (fun ls hl => ?_)
  refine m_new (ci := 12) (fs := [.int 0, .null, .null, .null, .null, .int 0, .int 0, .int 0, .int 0, .int 0, .int 0, .int 0, .int 0, .int 0, .int 0, .null, .null, .int 0, .int 0, .int 0, .null, .null, .null, .null, .null, .null, .int 0, .null, .int 0, .null, .null, .null, .null, .null, .null, .int 0, .int 0, .int 0, .null, .null, .null, .null, .null, .null]) C0 h tyX12 tyX12_ok rfl gd_X12 q_1429 q_1430 q_137 (fun j hj => by rcases (show j = 0 ∨ j = 1 ∨ j = 2 ∨ j = 3 ∨ j = 4 ∨ j = 5 ∨ j = 6 ∨ j = 7 ∨ j = 8 ∨ j = 9 ∨ j = 10 ∨ j = 11 ∨ j = 12 ∨ j = 13 ∨ j = 14 ∨ j = 15 ∨ j = 16 ∨ j = 17 ∨ j = 18 ∨ j = 19 ∨ j = 20 ∨ j = 21 ∨ j = 22 ∨ j = 23 ∨ j = 24 ∨ j = 25 ∨ j = 26 ∨ j = 27 ∨ j = 28 ∨ j = 29 ∨ j = 30 ∨ j = 31 ∨ j = 32 ∨ j = 33 ∨ j = 34 ∨ j = 35 ∨ j = 36 ∨ j = 37 ∨ j = 38 ∨ j = 39 ∨ j = 40 ∨ j = 41 ∨ j = 42 ∨ j = 43 by omega) with rfl | rfl | rfl | rfl | rfl | rfl | rfl | rfl | rfl | rfl | rfl | rfl | rfl | rfl | rfl | rfl | rfl | rfl | rfl | rfl | rfl | rfl | rfl | rfl | rfl | rfl | rfl | rfl | rfl | rfl | rfl | rfl | rfl | rfl | rfl | rfl | rfl | rfl | rfl | rfl | rfl | rfl | rfl | rfl <;> rfl) (Nat.le_of_ble_eq_true rfl) (Nat.le_of_ble_eq_true rfl) dL_law_8 (fun qz_4 H h => ?_)
  have h : Wd G A s _ _ ((sW G u_2) ++ [(qz_4, .inr (12, [.int 0, .null, .null, .null, .null, .int 0, .int 0, .int 0, .int 0, .int 0, .int 0, .int 0, .int 0, .int 0, .int 0, .null, .null, .int 0, .int 0, .int 0, .null, .null, .null, .null, .null, .null, .int 0, .null, .int 0, .null, .null, .null, .null, .null, .null, .int 0, .int 0, .int 0, .null, .null, .null, .null, .null, .null]))]) := h
  refine lv_dup hx hb dL_law_11 rfl ?_
  refine m_clv (wr := (sW G u_2)) h (m_rI (As := []) (rest := [.ref qz_4]) C0 h (c_X12_init l G qz_4) k_X12_init rfl q_1432 q_1431 [209] (by decide) rfl hl.1 rfl rfl (Nat.le_of_ble_eq_true rfl) dL_law_12 ⟨Nat.le_of_ble_eq_true rfl, Nat.le_of_ble_eq_true rfl⟩ ⟨Nat.le_of_ble_eq_true rfl, Nat.le_of_ble_eq_true rfl⟩) [209] [0, 1, 2, 3, 4, 5, 6, 7, 8, 9, 10, 11, 12, 13, 14, 15, 16, 17, 18, 19, 20, 21, 22, 23, 24, 25, 26, 27, 28, 29, 30, 31, 32, 33, 34, 35, 36, 37, 38, 39, 40, 41, 42, 43, 44, 45, 46, 47, 48, 49, 50, 51, 52, 53, 54, 55, 56, 57, 58, 59, 60, 61, 62, 63, 64, 65, 66, 67, 68, 69, 70, 71, 72, 73, 74, 75, 76, 77, 78, 79, 80, 81, 82, 83, 84, 85, 86, 87, 88, 89, 90, 91, 92, 93, 94, 95, 96, 97, 98, 99, 100, 101, 102, 103, 104, 105, 106, 107, 108, 109, 110, 111, 112, 113, 114, 115, 116, 117, 118, 119, 120, 121, 122, 123, 124, 125, 126, 127, 128, 129, 130, 131, 132, 133, 134, 135, 136, 137, 138, 139, 140, 141, 142, 143, 144, 145, 146, 147, 148, 149, 150, 151, 152, 153, 154, 155, 156, 157, 158, 159, 160, 161, 162, 163, 164, 165, 166, 167, 168, 169, 170, 171, 172, 173, 174, 175, 176, 177, 178, 179, 180, 181, 182, 183, 184, 185, 186, 187, 188, 189, 190, 191, 192, 193, 194, 195, 196, 197, 198, 199, 200, 201, 202, 203, 204, 205, 206, 207, 208] rfl rfl (by decide +kernel) (by decide +kernel) (fun u_5 H locs hp_6 h => ?_)
  have h : Wd G A s _ _ ((sW G u_2) ++ (rW G (cns qz_4 u_5))) := h
  refine lv_astore_n (lv' := [(2, .ref qz_4), (1, .ref qz_1), (0, .ref b)]) hx hb dL_law_15 rfl hl (by decide) rfl (fun ls hl => ?_)
  refine lv_iconst (v := 0) hx hb dL_law_16 (by decide) ?_
  refine lv_istore_n (lv' := [(3, .int 0), (2, .ref qz_4), (1, .ref qz_1), (0, .ref b)]) hx hb dL_law_17 rfl hl (by decide) rfl (fun ls hl => ?_)
  refine W.widen (k := 1000) (n := 200000) (Nat.le_of_ble_eq_true rfl) (Nat.le_of_ble_eq_true rfl) ?_
  have hl : lv_has ls 4 [(0, .ref b), (1, .ref (u_2 0)), (2, .ref (cns qz_4 u_5 0)), (3, .int 0)] := by rw [hx0]; exact lv_sub hl [3, 2, 1, 0] rfl
  exact law_loop C0 hX hbl hbA hL hAs hZ 512 (by decide) (by decide) (by have e0 : (0 : Int32).toInt = 0 := (by decide); omega) h ⟨sW_ty G _, sW_rel G _, sW_hok G _⟩ ⟨rW_ty G _, rW_J G _⟩ (RW_st (RA_start G _ _ ⟨h.sub _ (nd_C (sW G _).length) (ap_C (sW G _) (rW G _)), sW_ty G _⟩)) hl

set_option maxHeartbeats 4000000 in
theorem lw_walk (l : Launch) (hflags : l.flags = flags0) (b : Addr) (xs : List Int32) : MetFree l x (headSpec (Jvm.Cond.code x code maxLocals ret :: tables_1) room_1) (lw_P b xs) (fun _ _ _ _ _ => True) lw_Q := by
  refine MetFree.of_bodyS (code := code) (maxLocals := maxLocals) (ret := ret) (by decide) ?_ ?_
  · intro args s m h hn
    obtain ⟨meth, c, h1, h2, h3, h4, h5, h6, -, -⟩ := Cond.code_spec hn (atoms_spec (ws := Jvm.Cond.code x code maxLocals ret :: tables_1) h _ List.mem_cons_self)
    exact ⟨meth, c, h1, h2, h3, h4, h5, h6⟩
  · intro p e s m args below meth c s₁ B hml0 hP _
    obtain ⟨rfl, hx, hbd, hgv⟩ := hP
    obtain ⟨scr, harrAt, hlist, hof, hsmall⟩ := hx
    obtain ⟨hcb, hkn, -, -⟩ := State.arrayAt?_spec harrAt
    have hown : s.vm.findClass R_law = some m.cls := findClass_of_methodNamed B.named
    have hts0 : ∀ c ∈ (Jvm.Cond.code x code maxLocals ret :: tables_1), c.before #[Value.ref b] s = true := atoms_spec (ws := Jvm.Cond.code x code maxLocals ret :: tables_1) B.pre
    have hts : ∀ w ∈ lw_tbl, w.before #[Value.ref b] s = true := k2_hts_sels lw_privs (fun w hw => hts0 w (List.mem_cons_of_mem _ hw)) lw_privs_ok
    have hml : c.maxLocals = 4 := B.maxLocals_eq (hts0 _ List.mem_cons_self)
    have X₀ : Stand p l e room_1 s m #[Value.ref b] below meth c s₁ [] 0 0 := Stand.of_body B
    have hh0 : s₁.heap = s.heap := by rw [B.state]; rfl
    have hsz : scr.slots.size = xs.length := by rw [← Array.length_toList, hlist, List.length_map]
    have hval : ∀ j : Nat, j < xs.length → scr.slots[j]? = some (.int (xs.getD j 0)) := fun j hj => by
      rw [← Array.getElem?_toList, hlist]
      simp [hj]
    have hbl : b < s.heap.size := (Array.getElem?_eq_some_iff.mp hcb).1
    have hX : va_X b xs.length (fun j => xs.getD j 0) s s.heap := ⟨scr, hcb, hof, hkn, hsz, hval⟩
    have K : W p l e room_1 s m #[Value.ref b] below meth c s₁.heap [] 0 0 (lw_Z below #[Value.ref b] s) (entryFrame m ([Value.ref b] : List Value).toArray 4) := by
      rw [hh0]
      exact whole_start l hflags hbd ⟨B.exec, B.bytes, B.returns, hml, hown, hts, hX, hbl, B.notSynchronized, hgv⟩
    obtain ⟨t, a1, o, b1, b2, b3⟩ := K s₁ rfl X₀
    exact ⟨t, o, a1, b1, b2, b3⟩
theorem lw_pre_spec {args : Array Value} {s : State} (h : (Jvm.Cond.and given_1 narrow_1).before args s = true) (hr : rest_1_c.before args s = true) : ∃ (b : Addr) (xs : List Int32), lw_P b xs args s := by
  have hs := flat_of_before _ h
  have hq := flat_of_before _ hr
  have hc : (Cond.count 1).before args s = true := hs _ (by decide +kernel)
  have harr : (Cond.arrayOf (.arg 0) .int).before args s = true := hs _ (by decide +kernel)
  have hle : (Cond.le (.length (.arg 0)) (.int 3072)).before args s = true := hs _ (by decide +kernel)
  have hlen : (Cond.isInt (.length (.arg 0))).before args s = true := hq _ (by decide +kernel)
  have hall : (Cond.all (.arg 0) (.isInt (.elem (.arg 0) (.index 0)))).before args s = true := hq _ (by decide +kernel)
  obtain ⟨b, xs, hb, hx⟩ := State.ints_of_pre rfl harr hlen hall
  have hsm : xs.length < 2 ^ 31 := hx.choose_spec.2.2.2
  have hev : (Term.length (.arg 0)).eval args s none [] s = some (.int xs.length.toInt32) := hx.length_eval hb
  have hv := Cond.le_ints hev (show (Term.int 3072).eval args s none [] s = some (.int 3072) from rfl)
  have hd : xs.length.toInt32 ≤ 3072 := by
    simpa [Cond.before, Cond.holds, hv] using hle
  have hN : xs.length ≤ 3072 := (Int32.ofNat_le_ofNat hsm (by decide)).mp (show Int32.ofNat xs.length ≤ Int32.ofNat 3072 from hd)
  exact ⟨b, xs, Cond.one_arg hc (show args[0]? = some (.ref b) from hb), hx, hN, h⟩
theorem lw_comes (l : Launch) (hflags : l.flags = flags0) : Comes l x (Jvm.Cond.code x code maxLocals ret :: tables_1) room_1 (fun tb e args s => Calls_1 tb e args s ∧ rest_1 tb e args s ∧ Pre_1 tb e args s)
    (fun _ _ args s o t => lw_Q args s o t) := by
  intro p e ha hc hk s m args below hf hfit hheap happ hpre
  obtain ⟨b, xs, hP⟩ := lw_pre_spec hpre.2.2 hpre.2.1
  obtain ⟨k, o, h1, h2, h3, hQ⟩ := lw_walk l hflags b xs p e ha hc hk s m args below hf ((Spec.applies_iff_loose hf).mp happ).1 hP trivial
  exact ⟨k, o, h1, h2, h3, hQ⟩
theorem lw_frame {s t : State} {o : Outcome} {args : Array Value} (h : Framed s o t [] 600000 7302250) :
    Framed s o t (fieldLocs frame_1_writes args s ++ arrayLocs frame_1_arrays args s ++ staticLocs frame_1_statics s) 600000 7302250 := h
theorem lw_limb (L : Cond) (hL : ∀ (args : Array Value) (s t : State), L.after args s (.returned (some (.int 1))) t = true) :
    ArmFor flags0 classFile x code maxLocals ret World_1 tables_1 room_1 Calls_1 rest_1 Pre_1
      (fun tb e a s o t => postC L tb e a s o t ∧ Framed s o t (fieldLocs frame_1_writes a s ++ arrayLocs frame_1_arrays a s ++ staticLocs frame_1_statics s) 600000 7302250) := by
  intro l hflags _ _ p e ha hc hk s m args below hf hfit hheap happ hpre
  obtain ⟨k, o, h1, h2, h3, rfl, hF⟩ := lw_comes l hflags p e ha hc hk s m args below hf hfit hheap happ hpre
  exact ⟨k, _, h1, h2, h3, hL args s _, lw_frame hF⟩
theorem i_vc : Claimed_1_1 ∧ Claimed_1_2 := ⟨lw_limb limb_1_1 (fun args s t => by simp [limb_1_1, Cond.after, Cond.holds, Cond.value]), lw_limb limb_1_2 (fun args s t => Cond.after_iff.mpr (by
  first | (rw [show limb_1_2 = Cond.eq .result (.int 1) from rfl, Cond.eq_ints (x := 1) (y := 1) rfl rfl]; simp; done) | (simp [limb_1_2, Cond.value, Term.eval]; done)))⟩

