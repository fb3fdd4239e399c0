abbrev mO (r : Nat → Nat) : va_E := .inr (12, [.int 0, .ref (r 1), .ref (r 2), .ref (r 3), .ref (r 4), .int 0, .int 0, .int 0, .int 0, .int 0, .int 0, .int 0, .int 0, .int 0, .int (-1), .ref (r 15), .ref (r 16), .int 0, .int 0, .int 0, .ref (r 20), .ref (r 21), .ref (r 22), .ref (r 23), .ref (r 24), .ref (r 25), .int 0, .ref (r 27), .int 0, .ref (r 29), .ref (r 30), .ref (r 31), .ref (r 32), .ref (r 33), .ref (r 34), .int 0, .int 0, .int 0, .ref (r 38), .ref (r 39), .ref (r 40), .ref (r 41), .ref (r 42), .ref (r 43)])
def sp_fault (w : Int32) : Int32 := if w = 0 then 0 else -1
def sp_tray (t : Int32) : Int32 := if 0 ≤ t ∧ t ≤ 3 then -6 else -2
def sp_judge (t w : Int32) : Int32 := if (0 ≤ t ∧ t ≤ 3) ∧ (0 ≤ w ∧ w ≤ 3) then -6 else -2
def sp_hours (n : Int32) : Int32 := if 1 ≤ n ∧ n ≤ 99 then n else -3
def sp_week (n : Int32) : Int32 := if 1 ≤ n ∧ n ≤ 60 then -5 else -3
def sp_numbers (t o n : Int32) : Int32 := if (0 ≤ t ∧ t ≤ 3) ∧ (0 ≤ o ∧ o ≤ 3) then (if 0 ≤ n ∧ n ≤ 40 then 0 else -3) else -2
def sp_image (i : Int32) : Int32 := if 0 ≤ i ∧ i ≤ 1 then 0 else -2
def sp_restore (i : Int32) : Int32 := if 0 ≤ i ∧ i ≤ 1 then -5 else -2
def sp_count (w : Int32) : Int32 := if 0 ≤ w ∧ w ≤ 9 then 0 else -1
def sp_city (n : Int32) : Int32 := if n = 0 then 0 else -3
theorem in4 {x : Int32} (h1 : 0 ≤ x) (h2 : x ≤ 3) : x = 0 ∨ x = 1 ∨ x = 2 ∨ x = 3 := by
  have e1 : x = Int32.ofInt x.toInt := (Int32.ofInt_toInt _).symm
  have a1 : (0 : Int32).toInt ≤ x.toInt := Int32.le_iff_toInt_le.mp h1
  have a2 : x.toInt ≤ (3 : Int32).toInt := Int32.le_iff_toInt_le.mp h2
  have b1 : (0 : Int32).toInt = 0 := by decide
  have b2 : (3 : Int32).toInt = 3 := by decide
  rcases (show x.toInt = 0 ∨ x.toInt = 1 ∨ x.toInt = 2 ∨ x.toInt = 3 by omega) with e | e | e | e <;> rw [e] at e1
  · exact Or.inl e1
  · exact Or.inr (Or.inl e1)
  · exact Or.inr (Or.inr (Or.inl e1))
  · exact Or.inr (Or.inr (Or.inr e1))
theorem in2 {x : Int32} (h1 : 0 ≤ x) (h2 : x ≤ 1) : x = 0 ∨ x = 1 := by
  rcases in4 h1 (Int32.le_trans h2 (by decide)) with e | e | e | e
  · exact Or.inl e
  · exact Or.inr e
  · rw [e] at h2; exact absurd h2 (by decide)
  · rw [e] at h2; exact absurd h2 (by decide)
theorem dX0_crossings_0 : decode cX0_crossings 0 = .ok (.aload_n 0, 1) := by decide +kernel
theorem dX0_crossings_1 : decode cX0_crossings 1 = .ok (.getfield 45, 3) := by decide +kernel
theorem dX0_crossings_4 : decode cX0_crossings 4 = .ok (.aload_n 0, 1) := by decide +kernel
theorem dX0_crossings_5 : decode cX0_crossings 5 = .ok (.getfield 49, 3) := by decide +kernel
theorem dX0_crossings_8 : decode cX0_crossings 8 = .ok (.imul, 1) := by decide +kernel
theorem dX0_crossings_9 : decode cX0_crossings 9 = .ok (.ireturn, 1) := by decide +kernel
theorem dX11_isPerson_0 : decode cX11_isPerson 0 = .ok (.iload_n 1, 1) := by decide +kernel
theorem dX11_isPerson_1 : decode cX11_isPerson 1 = .ok (.ifCond .lt 21, 3) := by decide +kernel
theorem dX11_isPerson_4 : decode cX11_isPerson 4 = .ok (.iload_n 1, 1) := by decide +kernel
theorem dX11_isPerson_5 : decode cX11_isPerson 5 = .ok (.aload_n 0, 1) := by decide +kernel
theorem dX11_isPerson_6 : decode cX11_isPerson 6 = .ok (.getfield 27, 3) := by decide +kernel
theorem dX11_isPerson_9 : decode cX11_isPerson 9 = .ok (.getfield 145, 3) := by decide +kernel
theorem dX11_isPerson_12 : decode cX11_isPerson 12 = .ok (.getfield 240, 3) := by decide +kernel
theorem dX11_isPerson_15 : decode cX11_isPerson 15 = .ok (.if_icmp .ge 7, 3) := by decide +kernel
theorem dX11_isPerson_22 : decode cX11_isPerson 22 = .ok (.iconst 0, 1) := by decide +kernel
theorem dX11_isPerson_23 : decode cX11_isPerson 23 = .ok (.ireturn, 1) := by decide +kernel
theorem dX11_isCrossing_0 : decode cX11_isCrossing 0 = .ok (.iload_n 1, 1) := by decide +kernel
theorem dX11_isCrossing_1 : decode cX11_isCrossing 1 = .ok (.ifCond .lt 18, 3) := by decide +kernel
theorem dX11_isCrossing_4 : decode cX11_isCrossing 4 = .ok (.iload_n 1, 1) := by decide +kernel
theorem dX11_isCrossing_5 : decode cX11_isCrossing 5 = .ok (.aload_n 0, 1) := by decide +kernel
theorem dX11_isCrossing_6 : decode cX11_isCrossing 6 = .ok (.getfield 27, 3) := by decide +kernel
theorem dX11_isCrossing_9 : decode cX11_isCrossing 9 = .ok (.invokevirtual 287, 3) := by decide +kernel
theorem dX11_isCrossing_12 : decode cX11_isCrossing 12 = .ok (.if_icmp .ge 7, 3) := by decide +kernel
theorem dX11_isCrossing_19 : decode cX11_isCrossing 19 = .ok (.iconst 0, 1) := by decide +kernel
theorem dX11_isCrossing_20 : decode cX11_isCrossing 20 = .ok (.ireturn, 1) := by decide +kernel
theorem dX11_isStand_0 : decode cX11_isStand 0 = .ok (.aload_n 0, 1) := by decide +kernel
theorem dX11_isStand_1 : decode cX11_isStand 1 = .ok (.iload_n 1, 1) := by decide +kernel
theorem dX11_isStand_2 : decode cX11_isStand 2 = .ok (.invokevirtual 171, 3) := by decide +kernel
theorem dX11_isStand_5 : decode cX11_isStand 5 = .ok (.ifCond .eq 16, 3) := by decide +kernel
theorem dX11_isStand_21 : decode cX11_isStand 21 = .ok (.iconst 0, 1) := by decide +kernel
theorem dX11_isStand_22 : decode cX11_isStand 22 = .ok (.ireturn, 1) := by decide +kernel
theorem dX11_isTray_0 : decode cX11_isTray 0 = .ok (.iload_n 0, 1) := by decide +kernel
theorem dX11_isTray_1 : decode cX11_isTray 1 = .ok (.ifCond .lt 12, 3) := by decide +kernel
theorem dX11_isTray_4 : decode cX11_isTray 4 = .ok (.iload_n 0, 1) := by decide +kernel
theorem dX11_isTray_5 : decode cX11_isTray 5 = .ok (.iconst 4, 1) := by decide +kernel
theorem dX11_isTray_6 : decode cX11_isTray 6 = .ok (.if_icmp .ge 7, 3) := by decide +kernel
theorem dX11_isTray_9 : decode cX11_isTray 9 = .ok (.iconst 1, 1) := by decide +kernel
theorem dX11_isTray_10 : decode cX11_isTray 10 = .ok (.goto 4, 3) := by decide +kernel
theorem dX11_isTray_13 : decode cX11_isTray 13 = .ok (.iconst 0, 1) := by decide +kernel
theorem dX11_isTray_14 : decode cX11_isTray 14 = .ok (.ireturn, 1) := by decide +kernel
set_option maxHeartbeats 4000000 in
set_option maxRecDepth 100000 in
theorem c_X0_crossings (l : Launch) (G : GG) (a : Nat) (u : Nat → Nat) : Mt l yX0_crossings cX0_crossings 1 (some .int) 0 0 0 G [.ref a] [(a, .inr (0, [.ref (u 0), .ref (u 1), .ref (u 2), .ref (u 3), .ref (u 4), .int 0, .int 0, .int 0, .int 0]))] (Ri (S := Unit) G (fun r _ => r = 0) (fun _ => [(a, .inr (0, [.ref (u 0), .ref (u 1), .ref (u 2), .ref (u 3), .ref (u 4), .int 0, .int 0, .int 0, .int 0]))])) := by
  refine Mt.start (by decide) (Nat.le_of_ble_eq_true rfl) ?_
  intro p e s m below meth c A ls C0 hini h hl
  have C0 : Cx p s m _ meth c RX0 cX0_crossings 1 (some .int) := C0
  obtain ⟨hx, hb, hml, hown, hts, -⟩ := id C0
  have hl : lv_has ls 1 [(0, .ref a)] := hl
  refine lv_aload_n hx hb dX0_crossings_0 rfl (lv_at hl 0 rfl) ?_
  refine g_X0_wide C0 h 0 q_256 rfl rfl dX0_crossings_1 ?_
  refine lv_aload_n hx hb dX0_crossings_4 rfl (lv_at hl 0 rfl) ?_
  refine g_X0_high C0 h 0 q_260 rfl rfl dX0_crossings_5 ?_
  refine lv_imul hx hb dX0_crossings_8 ?_
  refine lv_topi (fun k_1 ek_1 => ?_)
  obtain rfl : k_1 = 0 := ek_1.trans (by decide)
  exact m_iret () C0 h [0] (by decide) rfl rfl (Nat.le_of_ble_eq_true rfl) (Nat.le_of_ble_eq_true rfl) dX0_crossings_9
set_option maxHeartbeats 4000000 in
set_option maxRecDepth 100000 in
theorem c_X11_isPerson (l : Launch) (G : GG) (x : Nat) (r : Nat → Nat) (u : Nat → Nat) (p0 : Int32) : Mt l yX11_isPerson cX11_isPerson 2 (some .boolean) 1 0 0 G [.ref x, .int p0] [(x, .inr (11, [.ref (r 0), .ref (r 1), .ref (r 2), .ref (r 3), .ref (r 4), .ref (r 5), .ref (r 6), .ref (r 7), .ref (r 8), .ref (r 9), .ref (r 10), .ref (r 11), .ref (r 12), .ref (r 13), .ref (r 14), .ref (r 15), .int 0, .int 0, .int 0])), (r 0, .inr (0, [.ref (u 0), .ref (u 1), .ref (u 2), .ref (u 3), .ref (u 4), .int 0, .int 0, .int 0, .int 0])), (u 2, .inr (1, [.ref (u 11), .ref (u 12), .ref (u 13), .ref (u 14), .ref (u 15), .ref (u 16), .ref (u 17), .int 0, .int 0]))] (Ri (S := Unit) G (fun r _ => r = 0) (fun _ => [(x, .inr (11, [.ref (r 0), .ref (r 1), .ref (r 2), .ref (r 3), .ref (r 4), .ref (r 5), .ref (r 6), .ref (r 7), .ref (r 8), .ref (r 9), .ref (r 10), .ref (r 11), .ref (r 12), .ref (r 13), .ref (r 14), .ref (r 15), .int 0, .int 0, .int 0])), (r 0, .inr (0, [.ref (u 0), .ref (u 1), .ref (u 2), .ref (u 3), .ref (u 4), .int 0, .int 0, .int 0, .int 0])), (u 2, .inr (1, [.ref (u 11), .ref (u 12), .ref (u 13), .ref (u 14), .ref (u 15), .ref (u 16), .ref (u 17), .int 0, .int 0]))])) := by
  refine Mt.start (by decide) (Nat.le_of_ble_eq_true rfl) ?_
  intro p e s m below meth c A ls C0 hini h hl
  have C0 : Cx p s m _ meth c RX11 cX11_isPerson 2 (some .boolean) := C0
  obtain ⟨hx, hb, hml, hown, hts, -⟩ := id C0
  have hl : lv_has ls 2 [(0, .ref x), (1, .int p0)] := hl
  refine lv_iload_n hx hb dX11_isPerson_0 rfl (lv_at hl 1 rfl) ?_
  refine lv_if_lt (tgt := 22) hx hb dX11_isPerson_1 (by decide) (fun c_1 => ?_) (fun c_1 => ?_)
  · -- 1 p0 < 0
    refine lv_iconst (v := 0) hx hb dX11_isPerson_22 (by decide) ?_
    exact m_zret () C0 h (by decide) [0, 1, 2] (by decide) rfl rfl (Nat.le_of_ble_eq_true rfl) (Nat.le_of_ble_eq_true rfl) dX11_isPerson_23
  · -- 1 ¬ p0 < 0
    refine lv_iload_n hx hb dX11_isPerson_4 rfl (lv_at hl 1 rfl) ?_
    refine lv_aload_n hx hb dX11_isPerson_5 rfl (lv_at hl 0 rfl) ?_
    refine g_X11_now C0 h 0 q_515 rfl rfl dX11_isPerson_6 ?_
    refine g_X0_folk C0 h 1 q_249 rfl rfl dX11_isPerson_9 ?_
    refine g_X1_people C0 h 2 q_215 rfl rfl dX11_isPerson_12 ?_
    refine lv_icmp_ge (tgt := 22) hx hb dX11_isPerson_15 (by decide) (fun c_2 => ?_) (fun c_2 => by exfalso; grind)
    refine lv_iconst (v := 0) hx hb dX11_isPerson_22 (by decide) ?_
    exact m_zret () C0 h (by decide) [0, 1, 2] (by decide) rfl rfl (Nat.le_of_ble_eq_true rfl) (Nat.le_of_ble_eq_true rfl) dX11_isPerson_23
set_option maxHeartbeats 4000000 in
set_option maxRecDepth 100000 in
theorem c_X11_isCrossing (l : Launch) (G : GG) (x : Nat) (r : Nat → Nat) (u : Nat → Nat) (p0 : Int32) : Mt l yX11_isCrossing cX11_isCrossing 2 (some .boolean) 1 0 0 G [.ref x, .int p0] [(x, .inr (11, [.ref (r 0), .ref (r 1), .ref (r 2), .ref (r 3), .ref (r 4), .ref (r 5), .ref (r 6), .ref (r 7), .ref (r 8), .ref (r 9), .ref (r 10), .ref (r 11), .ref (r 12), .ref (r 13), .ref (r 14), .ref (r 15), .int 0, .int 0, .int 0])), (r 0, .inr (0, [.ref (u 0), .ref (u 1), .ref (u 2), .ref (u 3), .ref (u 4), .int 0, .int 0, .int 0, .int 0]))] (Ri (S := Unit) G (fun r _ => r = 0) (fun _ => [(x, .inr (11, [.ref (r 0), .ref (r 1), .ref (r 2), .ref (r 3), .ref (r 4), .ref (r 5), .ref (r 6), .ref (r 7), .ref (r 8), .ref (r 9), .ref (r 10), .ref (r 11), .ref (r 12), .ref (r 13), .ref (r 14), .ref (r 15), .int 0, .int 0, .int 0])), (r 0, .inr (0, [.ref (u 0), .ref (u 1), .ref (u 2), .ref (u 3), .ref (u 4), .int 0, .int 0, .int 0, .int 0]))])) := by
  refine Mt.start (by decide) (Nat.le_of_ble_eq_true rfl) ?_
  intro p e s m below meth c A ls C0 hini h hl
  have C0 : Cx p s m _ meth c RX11 cX11_isCrossing 2 (some .boolean) := C0
  obtain ⟨hx, hb, hml, hown, hts, -⟩ := id C0
  have hl : lv_has ls 2 [(0, .ref x), (1, .int p0)] := hl
  refine lv_iload_n hx hb dX11_isCrossing_0 rfl (lv_at hl 1 rfl) ?_
  refine lv_if_lt (tgt := 19) hx hb dX11_isCrossing_1 (by decide) (fun c_1 => ?_) (fun c_1 => ?_)
  · -- 1 p0 < 0
    refine lv_iconst (v := 0) hx hb dX11_isCrossing_19 (by decide) ?_
    exact m_zret () C0 h (by decide) [0, 1] (by decide) rfl rfl (Nat.le_of_ble_eq_true rfl) (Nat.le_of_ble_eq_true rfl) dX11_isCrossing_20
  · -- 1 ¬ p0 < 0
    refine lv_iload_n hx hb dX11_isCrossing_4 rfl (lv_at hl 1 rfl) ?_
    refine lv_aload_n hx hb dX11_isCrossing_5 rfl (lv_at hl 0 rfl) ?_
    refine g_X11_now C0 h 0 q_515 rfl rfl dX11_isCrossing_6 ?_
    refine m_cli (wr := [(x, .inr (11, [.ref (r 0), .ref (r 1), .ref (r 2), .ref (r 3), .ref (r 4), .ref (r 5), .ref (r 6), .ref (r 7), .ref (r 8), .ref (r 9), .ref (r 10), .ref (r 11), .ref (r 12), .ref (r 13), .ref (r 14), .ref (r 15), .int 0, .int 0, .int 0]))]) h (m_rV (ci := 0) (q0 := 1) (As := []) (rest := [.int p0]) C0 h (c_X0_crossings l G (r 0) u) k_X0_crossings q_918 q_919 q_917 rfl rfl rfl [1] (by decide) rfl hl.1 rfl rfl (Nat.le_of_ble_eq_true rfl) dX11_isCrossing_9 ⟨Nat.le_of_ble_eq_true rfl, Nat.le_of_ble_eq_true rfl⟩ ⟨Nat.le_of_ble_eq_true rfl, Nat.le_of_ble_eq_true rfl⟩) [1] [0] rfl rfl (by decide) (by decide) (fun r_4 u_2 H locs hp_3 h => ?_)
    have h : Wd G A s _ _ [(x, .inr (11, [.ref (r 0), .ref (r 1), .ref (r 2), .ref (r 3), .ref (r 4), .ref (r 5), .ref (r 6), .ref (r 7), .ref (r 8), .ref (r 9), .ref (r 10), .ref (r 11), .ref (r 12), .ref (r 13), .ref (r 14), .ref (r 15), .int 0, .int 0, .int 0])), (r 0, .inr (0, [.ref (u 0), .ref (u 1), .ref (u 2), .ref (u 3), .ref (u 4), .int 0, .int 0, .int 0, .int 0]))] := h
    obtain rfl : r_4 = 0 := hp_3
    refine lv_icmp_ge (tgt := 19) hx hb dX11_isCrossing_12 (by decide) (fun c_5 => ?_) (fun c_5 => by exfalso; grind)
    refine lv_iconst (v := 0) hx hb dX11_isCrossing_19 (by decide) ?_
    exact m_zret () C0 h (by decide) [0, 1] (by decide) rfl rfl (Nat.le_of_ble_eq_true rfl) (Nat.le_of_ble_eq_true rfl) dX11_isCrossing_20
set_option maxHeartbeats 4000000 in
set_option maxRecDepth 100000 in
theorem c_X11_isStand (l : Launch) (G : GG) (x : Nat) (r : Nat → Nat) (u : Nat → Nat) (p0 : Int32) (p1 : Int32) : Mt l yX11_isStand cX11_isStand 3 (some .boolean) 2 0 0 G [.ref x, .int p0, .int p1] [(x, .inr (11, [.ref (r 0), .ref (r 1), .ref (r 2), .ref (r 3), .ref (r 4), .ref (r 5), .ref (r 6), .ref (r 7), .ref (r 8), .ref (r 9), .ref (r 10), .ref (r 11), .ref (r 12), .ref (r 13), .ref (r 14), .ref (r 15), .int 0, .int 0, .int 0])), (r 0, .inr (0, [.ref (u 0), .ref (u 1), .ref (u 2), .ref (u 3), .ref (u 4), .int 0, .int 0, .int 0, .int 0]))] (Ri (S := Unit) G (fun r _ => r = 0) (fun _ => [(x, .inr (11, [.ref (r 0), .ref (r 1), .ref (r 2), .ref (r 3), .ref (r 4), .ref (r 5), .ref (r 6), .ref (r 7), .ref (r 8), .ref (r 9), .ref (r 10), .ref (r 11), .ref (r 12), .ref (r 13), .ref (r 14), .ref (r 15), .int 0, .int 0, .int 0])), (r 0, .inr (0, [.ref (u 0), .ref (u 1), .ref (u 2), .ref (u 3), .ref (u 4), .int 0, .int 0, .int 0, .int 0]))])) := by
  refine Mt.start (by decide) (Nat.le_of_ble_eq_true rfl) ?_
  intro p e s m below meth c A ls C0 hini h hl
  have C0 : Cx p s m _ meth c RX11 cX11_isStand 3 (some .boolean) := C0
  obtain ⟨hx, hb, hml, hown, hts, -⟩ := id C0
  have hl : lv_has ls 3 [(0, .ref x), (1, .int p0), (2, .int p1)] := hl
  refine lv_aload_n hx hb dX11_isStand_0 rfl (lv_at hl 0 rfl) ?_
  refine lv_iload_n hx hb dX11_isStand_1 rfl (lv_at hl 1 rfl) ?_
  refine m_cli (wr := []) h (m_rV (ci := 11) (q0 := 0) (As := [.int p0]) (rest := []) C0 h (c_X11_isCrossing l G x r u p0) k_X11_isCrossing q_915 q_25 q_913 rfl rfl rfl [0, 1] (by decide) rfl hl.1 rfl rfl (Nat.le_of_ble_eq_true rfl) dX11_isStand_2 ⟨Nat.le_of_ble_eq_true rfl, Nat.le_of_ble_eq_true rfl⟩ ⟨Nat.le_of_ble_eq_true rfl, Nat.le_of_ble_eq_true rfl⟩) [0, 1] [] rfl rfl (by decide) (by decide) (fun r_3 u_1 H locs hp_2 h => ?_)
  have h : Wd G A s _ _ [(x, .inr (11, [.ref (r 0), .ref (r 1), .ref (r 2), .ref (r 3), .ref (r 4), .ref (r 5), .ref (r 6), .ref (r 7), .ref (r 8), .ref (r 9), .ref (r 10), .ref (r 11), .ref (r 12), .ref (r 13), .ref (r 14), .ref (r 15), .int 0, .int 0, .int 0])), (r 0, .inr (0, [.ref (u 0), .ref (u 1), .ref (u 2), .ref (u 3), .ref (u 4), .int 0, .int 0, .int 0, .int 0]))] := h
  obtain rfl : r_3 = 0 := hp_2
  refine lv_if_eq (tgt := 21) hx hb dX11_isStand_5 (by decide) (fun c_4 => ?_) (fun c_4 => absurd c_4 (by decide))
  refine lv_iconst (v := 0) hx hb dX11_isStand_21 (by decide) ?_
  exact m_zret () C0 h (by decide) [0, 1] (by decide) rfl rfl (Nat.le_of_ble_eq_true rfl) (Nat.le_of_ble_eq_true rfl) dX11_isStand_22
set_option maxHeartbeats 4000000 in
set_option maxRecDepth 100000 in
theorem c_X11_isTray (l : Launch) (G : GG) (p0 : Int32) : Mt l yX11_isTray cX11_isTray 1 (some .boolean) 0 0 0 G [.int p0] [] (Ri (S := Unit) G (fun r _ => (r = 1 ∧ (0 ≤ p0 ∧ p0 ≤ 3)) ∨ (r = 0 ∧ ¬ (0 ≤ p0 ∧ p0 ≤ 3))) (fun _ => [])) := by
  refine Mt.start (by decide) (Nat.le_of_ble_eq_true rfl) ?_
  intro p e s m below meth c A ls C0 hini h hl
  have C0 : Cx p s m _ meth c RX11 cX11_isTray 1 (some .boolean) := C0
  obtain ⟨hx, hb, hml, hown, hts, -⟩ := id C0
  have hl : lv_has ls 1 [(0, .int p0)] := hl
  refine lv_iload_n hx hb dX11_isTray_0 rfl (lv_at hl 0 rfl) ?_
  refine lv_if_lt (tgt := 13) hx hb dX11_isTray_1 (by decide) (fun c_1 => ?_) (fun c_1 => ?_)
  · -- 1 p0 < 0
    refine lv_iconst (v := 0) hx hb dX11_isTray_13 (by decide) ?_
    exact m_zret () C0 h (by decide) [] (by decide) rfl (by grind) (Nat.le_of_ble_eq_true rfl) (Nat.le_of_ble_eq_true rfl) dX11_isTray_14
  · -- 1 ¬ p0 < 0
    refine lv_iload_n hx hb dX11_isTray_4 rfl (lv_at hl 0 rfl) ?_
    refine lv_iconst (v := 4) hx hb dX11_isTray_5 (by decide) ?_
    refine lv_icmp_ge (tgt := 13) hx hb dX11_isTray_6 (by decide) (fun c_2 => ?_) (fun c_2 => ?_)
    · -- 6 4 ≤ p0
      refine lv_iconst (v := 0) hx hb dX11_isTray_13 (by decide) ?_
      exact m_zret () C0 h (by decide) [] (by decide) rfl (by grind) (Nat.le_of_ble_eq_true rfl) (Nat.le_of_ble_eq_true rfl) dX11_isTray_14
    · -- 6 ¬ 4 ≤ p0
      refine lv_iconst (v := 1) hx hb dX11_isTray_9 (by decide) ?_
      refine lv_goto (tgt := 14) hx hb dX11_isTray_10 (by decide) ?_
      exact m_zret () C0 h (by decide) [] (by decide) rfl (by grind) (Nat.le_of_ble_eq_true rfl) (Nat.le_of_ble_eq_true rfl) dX11_isTray_14
