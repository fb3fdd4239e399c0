theorem dJ9_max_f86c9_0 : decode cJ9_max_f86c9 0 = .ok (.lload_n 0, 1) := by decide +kernel
theorem dJ9_max_f86c9_1 : decode cJ9_max_f86c9 1 = .ok (.lload_n 2, 1) := by decide +kernel
theorem dJ9_max_f86c9_2 : decode cJ9_max_f86c9 2 = .ok (.lcmp, 1) := by decide +kernel
theorem dJ9_max_f86c9_3 : decode cJ9_max_f86c9 3 = .ok (.ifCond .lt 7, 3) := by decide +kernel
theorem dJ9_max_f86c9_6 : decode cJ9_max_f86c9 6 = .ok (.lload_n 0, 1) := by decide +kernel
theorem dJ9_max_f86c9_7 : decode cJ9_max_f86c9 7 = .ok (.goto 4, 3) := by decide +kernel
theorem dJ9_max_f86c9_10 : decode cJ9_max_f86c9 10 = .ok (.lload_n 2, 1) := by decide +kernel
theorem dJ9_max_f86c9_11 : decode cJ9_max_f86c9 11 = .ok (.lreturn, 1) := by decide +kernel
theorem dJ9_min_f86c9_0 : decode cJ9_min_f86c9 0 = .ok (.lload_n 0, 1) := by decide +kernel
theorem dJ9_min_f86c9_1 : decode cJ9_min_f86c9 1 = .ok (.lload_n 2, 1) := by decide +kernel
theorem dJ9_min_f86c9_2 : decode cJ9_min_f86c9 2 = .ok (.lcmp, 1) := by decide +kernel
theorem dJ9_min_f86c9_3 : decode cJ9_min_f86c9 3 = .ok (.ifCond .gt 7, 3) := by decide +kernel
theorem dJ9_min_f86c9_6 : decode cJ9_min_f86c9 6 = .ok (.lload_n 0, 1) := by decide +kernel
theorem dJ9_min_f86c9_7 : decode cJ9_min_f86c9 7 = .ok (.goto 4, 3) := by decide +kernel
theorem dJ9_min_f86c9_10 : decode cJ9_min_f86c9 10 = .ok (.lload_n 2, 1) := by decide +kernel
theorem dJ9_min_f86c9_11 : decode cJ9_min_f86c9 11 = .ok (.lreturn, 1) := by decide +kernel
theorem dJ9_max_7cf53_0 : decode cJ9_max_7cf53 0 = .ok (.iload_n 0, 1) := by decide +kernel
theorem dJ9_max_7cf53_1 : decode cJ9_max_7cf53 1 = .ok (.iload_n 1, 1) := by decide +kernel
theorem dJ9_max_7cf53_2 : decode cJ9_max_7cf53 2 = .ok (.if_icmp .lt 7, 3) := by decide +kernel
theorem dJ9_max_7cf53_5 : decode cJ9_max_7cf53 5 = .ok (.iload_n 0, 1) := by decide +kernel
theorem dJ9_max_7cf53_6 : decode cJ9_max_7cf53 6 = .ok (.goto 4, 3) := by decide +kernel
theorem dJ9_max_7cf53_9 : decode cJ9_max_7cf53 9 = .ok (.iload_n 1, 1) := by decide +kernel
theorem dJ9_max_7cf53_10 : decode cJ9_max_7cf53 10 = .ok (.ireturn, 1) := by decide +kernel
theorem dJ9_min_7cf53_0 : decode cJ9_min_7cf53 0 = .ok (.iload_n 0, 1) := by decide +kernel
theorem dJ9_min_7cf53_1 : decode cJ9_min_7cf53 1 = .ok (.iload_n 1, 1) := by decide +kernel
theorem dJ9_min_7cf53_2 : decode cJ9_min_7cf53 2 = .ok (.if_icmp .gt 7, 3) := by decide +kernel
theorem dJ9_min_7cf53_5 : decode cJ9_min_7cf53 5 = .ok (.iload_n 0, 1) := by decide +kernel
theorem dJ9_min_7cf53_6 : decode cJ9_min_7cf53 6 = .ok (.goto 4, 3) := by decide +kernel
theorem dJ9_min_7cf53_9 : decode cJ9_min_7cf53 9 = .ok (.iload_n 1, 1) := by decide +kernel
theorem dJ9_min_7cf53_10 : decode cJ9_min_7cf53 10 = .ok (.ireturn, 1) := by decide +kernel
theorem dX4_clear_0 : decode cX4_clear 0 = .ok (.aload_n 0, 1) := by decide +kernel
theorem dX4_clear_1 : decode cX4_clear 1 = .ok (.iconst 0, 1) := by decide +kernel
theorem dX4_clear_2 : decode cX4_clear 2 = .ok (.putfield 21, 3) := by decide +kernel
theorem dX4_clear_5 : decode cX4_clear 5 = .ok (.aload_n 0, 1) := by decide +kernel
theorem dX4_clear_6 : decode cX4_clear 6 = .ok (.iconst 0, 1) := by decide +kernel
theorem dX4_clear_7 : decode cX4_clear 7 = .ok (.putfield 25, 3) := by decide +kernel
theorem dX4_clear_10 : decode cX4_clear 10 = .ok (.return_, 1) := by decide +kernel
theorem dX4_isTold_0 : decode cX4_isTold 0 = .ok (.aload_n 0, 1) := by decide +kernel
theorem dX4_isTold_1 : decode cX4_isTold 1 = .ok (.getfield 21, 3) := by decide +kernel
theorem dX4_isTold_4 : decode cX4_isTold 4 = .ok (.ifCond .le 7, 3) := by decide +kernel
theorem dX4_isTold_7 : decode cX4_isTold 7 = .ok (.iconst 1, 1) := by decide +kernel
theorem dX4_isTold_8 : decode cX4_isTold 8 = .ok (.goto 4, 3) := by decide +kernel
theorem dX4_isTold_11 : decode cX4_isTold 11 = .ok (.iconst 0, 1) := by decide +kernel
theorem dX4_isTold_12 : decode cX4_isTold 12 = .ok (.ireturn, 1) := by decide +kernel
theorem dX4_add_0 : decode cX4_add 0 = .ok (.aload_n 0, 1) := by decide +kernel
theorem dX4_add_1 : decode cX4_add 1 = .ok (.getfield 21, 3) := by decide +kernel
theorem dX4_add_4 : decode cX4_add 4 = .ok (.aload_n 0, 1) := by decide +kernel
theorem dX4_add_5 : decode cX4_add 5 = .ok (.getfield 9, 3) := by decide +kernel
theorem dX4_add_8 : decode cX4_add 8 = .ok (.arraylength, 1) := by decide +kernel
theorem dX4_add_9 : decode cX4_add 9 = .ok (.if_icmp .ge 23, 3) := by decide +kernel
theorem dX4_add_12 : decode cX4_add 12 = .ok (.aload_n 0, 1) := by decide +kernel
theorem dX4_add_13 : decode cX4_add 13 = .ok (.getfield 9, 3) := by decide +kernel
theorem dX4_add_16 : decode cX4_add 16 = .ok (.aload_n 0, 1) := by decide +kernel
theorem dX4_add_17 : decode cX4_add 17 = .ok (.getfield 21, 3) := by decide +kernel
theorem dX4_add_20 : decode cX4_add 20 = .ok (.iload_n 1, 1) := by decide +kernel
theorem dX4_add_21 : decode cX4_add 21 = .ok (.iastore, 1) := by decide +kernel
theorem dX4_add_22 : decode cX4_add 22 = .ok (.aload_n 0, 1) := by decide +kernel
theorem dX4_add_23 : decode cX4_add 23 = .ok (.dup, 1) := by decide +kernel
theorem dX4_add_24 : decode cX4_add 24 = .ok (.getfield 21, 3) := by decide +kernel
theorem dX4_add_27 : decode cX4_add 27 = .ok (.iconst 1, 1) := by decide +kernel
theorem dX4_add_28 : decode cX4_add 28 = .ok (.iadd, 1) := by decide +kernel
theorem dX4_add_29 : decode cX4_add 29 = .ok (.putfield 21, 3) := by decide +kernel
theorem dX4_add_32 : decode cX4_add 32 = .ok (.iload_n 1, 1) := by decide +kernel
theorem dX4_add_33 : decode cX4_add 33 = .ok (.sipush 1000, 3) := by decide +kernel
theorem dX4_add_36 : decode cX4_add 36 = .ok (.if_icmp .lt 26, 3) := by decide +kernel
theorem dX4_add_39 : decode cX4_add 39 = .ok (.iload_n 1, 1) := by decide +kernel
theorem dX4_add_40 : decode cX4_add 40 = .ok (.sipush 1005, 3) := by decide +kernel
theorem dX4_add_43 : decode cX4_add 43 = .ok (.if_icmp .gt 19, 3) := by decide +kernel
theorem dX4_add_46 : decode cX4_add 46 = .ok (.aload_n 0, 1) := by decide +kernel
theorem dX4_add_47 : decode cX4_add 47 = .ok (.dup, 1) := by decide +kernel
theorem dX4_add_48 : decode cX4_add 48 = .ok (.getfield 25, 3) := by decide +kernel
theorem dX4_add_51 : decode cX4_add 51 = .ok (.iconst 1, 1) := by decide +kernel
theorem dX4_add_52 : decode cX4_add 52 = .ok (.iload_n 1, 1) := by decide +kernel
theorem dX4_add_53 : decode cX4_add 53 = .ok (.sipush 1000, 3) := by decide +kernel
theorem dX4_add_56 : decode cX4_add 56 = .ok (.isub, 1) := by decide +kernel
theorem dX4_add_57 : decode cX4_add 57 = .ok (.ishl, 1) := by decide +kernel
theorem dX4_add_58 : decode cX4_add 58 = .ok (.ior, 1) := by decide +kernel
theorem dX4_add_59 : decode cX4_add 59 = .ok (.putfield 25, 3) := by decide +kernel
theorem dX4_add_62 : decode cX4_add 62 = .ok (.return_, 1) := by decide +kernel
theorem dX4_asks_0 : decode cX4_asks 0 = .ok (.aload_n 0, 1) := by decide +kernel
theorem dX4_asks_1 : decode cX4_asks 1 = .ok (.getfield 25, 3) := by decide +kernel
theorem dX4_asks_4 : decode cX4_asks 4 = .ok (.iload_n 1, 1) := by decide +kernel
theorem dX4_asks_5 : decode cX4_asks 5 = .ok (.sipush 1000, 3) := by decide +kernel
theorem dX4_asks_8 : decode cX4_asks 8 = .ok (.isub, 1) := by decide +kernel
theorem dX4_asks_9 : decode cX4_asks 9 = .ok (.ishr, 1) := by decide +kernel
theorem dX4_asks_10 : decode cX4_asks 10 = .ok (.iconst 1, 1) := by decide +kernel
theorem dX4_asks_11 : decode cX4_asks 11 = .ok (.iand, 1) := by decide +kernel
theorem dX4_asks_12 : decode cX4_asks 12 = .ok (.ifCond .eq 7, 3) := by decide +kernel
theorem dX4_asks_15 : decode cX4_asks 15 = .ok (.iconst 1, 1) := by decide +kernel
theorem dX4_asks_16 : decode cX4_asks 16 = .ok (.goto 4, 3) := by decide +kernel
theorem dX4_asks_19 : decode cX4_asks 19 = .ok (.iconst 0, 1) := by decide +kernel
theorem dX4_asks_20 : decode cX4_asks 20 = .ok (.ireturn, 1) := by decide +kernel
set_option maxHeartbeats 4000000 in
set_option maxRecDepth 100000 in
theorem c_J9_max_f86c9 (l : Launch) (G : GG) (x : Int64) (y : Int64) : Mt l yJ9_max_f86c9 cJ9_max_f86c9 4 (some .long) 0 0 0 G [.long x, .long y] [] (Rl (S := Unit) G (fun r _ => True) (fun _ => [])) := by
  refine Mt.start (by decide) (Nat.le_of_ble_eq_true rfl) ?_
  intro p e s m below meth c A ls C0 hini h hl
  have C0 : Cx p s m _ meth c RJ9 cJ9_max_f86c9 4 (some .long) := C0
  obtain ⟨hx, hb, hml, hown, hts, -⟩ := id C0
  have hl : lv_has ls 4 [(0, .long x), (2, .long y)] := hl
  refine lv_lload_n hx hb dJ9_max_f86c9_0 rfl (lv_at hl 0 rfl) ?_
  refine lv_lload_n hx hb dJ9_max_f86c9_1 rfl (lv_at hl 1 rfl) ?_
  refine W.lcmp hx hb dJ9_max_f86c9_2 ?_
  refine lv_if_lt (tgt := 10) hx hb dJ9_max_f86c9_3 (by decide) (fun c_1 => ?_) (fun c_1 => ?_)
  · -- 3 lg_cmp x y < 0
    refine lv_lload_n hx hb dJ9_max_f86c9_10 rfl (lv_at hl 1 rfl) ?_
    exact m_lret () C0 h [] (by decide) rfl trivial (Nat.le_of_ble_eq_true rfl) (Nat.le_of_ble_eq_true rfl) dJ9_max_f86c9_11
  · -- 3 ¬ lg_cmp x y < 0
    refine lv_lload_n hx hb dJ9_max_f86c9_6 rfl (lv_at hl 0 rfl) ?_
    refine lv_goto (tgt := 11) hx hb dJ9_max_f86c9_7 (by decide) ?_
    exact m_lret () C0 h [] (by decide) rfl trivial (Nat.le_of_ble_eq_true rfl) (Nat.le_of_ble_eq_true rfl) dJ9_max_f86c9_11
set_option maxHeartbeats 4000000 in
set_option maxRecDepth 100000 in
theorem c_J9_min_f86c9 (l : Launch) (G : GG) (x : Int64) (y : Int64) : Mt l yJ9_min_f86c9 cJ9_min_f86c9 4 (some .long) 0 0 0 G [.long x, .long y] [] (Rl (S := Unit) G (fun r _ => True) (fun _ => [])) := by
  refine Mt.start (by decide) (Nat.le_of_ble_eq_true rfl) ?_
  intro p e s m below meth c A ls C0 hini h hl
  have C0 : Cx p s m _ meth c RJ9 cJ9_min_f86c9 4 (some .long) := C0
  obtain ⟨hx, hb, hml, hown, hts, -⟩ := id C0
  have hl : lv_has ls 4 [(0, .long x), (2, .long y)] := hl
  refine lv_lload_n hx hb dJ9_min_f86c9_0 rfl (lv_at hl 0 rfl) ?_
  refine lv_lload_n hx hb dJ9_min_f86c9_1 rfl (lv_at hl 1 rfl) ?_
  refine W.lcmp hx hb dJ9_min_f86c9_2 ?_
  refine lv_if_gt (tgt := 10) hx hb dJ9_min_f86c9_3 (by decide) (fun c_1 => ?_) (fun c_1 => ?_)
  · -- 3 0 < lg_cmp x y
    refine lv_lload_n hx hb dJ9_min_f86c9_10 rfl (lv_at hl 1 rfl) ?_
    exact m_lret () C0 h [] (by decide) rfl trivial (Nat.le_of_ble_eq_true rfl) (Nat.le_of_ble_eq_true rfl) dJ9_min_f86c9_11
  · -- 3 ¬ 0 < lg_cmp x y
    refine lv_lload_n hx hb dJ9_min_f86c9_6 rfl (lv_at hl 0 rfl) ?_
    refine lv_goto (tgt := 11) hx hb dJ9_min_f86c9_7 (by decide) ?_
    exact m_lret () C0 h [] (by decide) rfl trivial (Nat.le_of_ble_eq_true rfl) (Nat.le_of_ble_eq_true rfl) dJ9_min_f86c9_11
set_option maxHeartbeats 4000000 in
set_option maxRecDepth 100000 in
theorem c_J9_max_7cf53N (l : Launch) (G : GG) (x : Nat) (y : Nat) (hx_ : x < 2 ^ 31) (hy_ : y < 2 ^ 31) : Mt l yJ9_max_7cf53 cJ9_max_7cf53 2 (some .int) 0 0 0 G [.int (nI x), .int (nI y)] [] (Ri (S := Unit) G (fun r _ => r = nI (max x y)) (fun _ => [])) := by
  refine Mt.start (by decide) (Nat.le_of_ble_eq_true rfl) ?_
  intro p e s m below meth c A ls C0 hini h hl
  have C0 : Cx p s m _ meth c RJ9 cJ9_max_7cf53 2 (some .int) := C0
  obtain ⟨hx, hb, hml, hown, hts, -⟩ := id C0
  have hl : lv_has ls 2 [(0, .int (nI x)), (1, .int (nI y))] := hl
  refine lv_iload_n hx hb dJ9_max_7cf53_0 rfl (lv_at hl 0 rfl) ?_
  refine lv_iload_n hx hb dJ9_max_7cf53_1 rfl (lv_at hl 1 rfl) ?_
  refine lv_icmp_lt (tgt := 9) hx hb dJ9_max_7cf53_2 (by decide) (fun c_1 => ?_) (fun c_1 => ?_)
  · -- 2
    have c_1 : x < y := cv_lt (a := x) (b := y) (by omega) (by omega) c_1
    refine lv_iload_n hx hb dJ9_max_7cf53_9 rfl (lv_at hl 1 rfl) ?_
    exact m_iret () C0 h [] (by decide) rfl (by dsimp only; congr 1; omega) (Nat.le_of_ble_eq_true rfl) (Nat.le_of_ble_eq_true rfl) dJ9_max_7cf53_10
  · -- 2
    have c_1 : y ≤ x := cv_nlt (a := x) (b := y) (by omega) (by omega) c_1
    refine lv_iload_n hx hb dJ9_max_7cf53_5 rfl (lv_at hl 0 rfl) ?_
    refine lv_goto (tgt := 10) hx hb dJ9_max_7cf53_6 (by decide) ?_
    exact m_iret () C0 h [] (by decide) rfl (by dsimp only; congr 1; omega) (Nat.le_of_ble_eq_true rfl) (Nat.le_of_ble_eq_true rfl) dJ9_max_7cf53_10
set_option maxHeartbeats 4000000 in
set_option maxRecDepth 100000 in
theorem c_J9_min_7cf53N (l : Launch) (G : GG) (x : Nat) (y : Nat) (hx_ : x < 2 ^ 31) (hy_ : y < 2 ^ 31) : Mt l yJ9_min_7cf53 cJ9_min_7cf53 2 (some .int) 0 0 0 G [.int (nI x), .int (nI y)] [] (Ri (S := Unit) G (fun r _ => r = nI (min x y)) (fun _ => [])) := by
  refine Mt.start (by decide) (Nat.le_of_ble_eq_true rfl) ?_
  intro p e s m below meth c A ls C0 hini h hl
  have C0 : Cx p s m _ meth c RJ9 cJ9_min_7cf53 2 (some .int) := C0
  obtain ⟨hx, hb, hml, hown, hts, -⟩ := id C0
  have hl : lv_has ls 2 [(0, .int (nI x)), (1, .int (nI y))] := hl
  refine lv_iload_n hx hb dJ9_min_7cf53_0 rfl (lv_at hl 0 rfl) ?_
  refine lv_iload_n hx hb dJ9_min_7cf53_1 rfl (lv_at hl 1 rfl) ?_
  refine lv_icmp_gt (tgt := 9) hx hb dJ9_min_7cf53_2 (by decide) (fun c_1 => ?_) (fun c_1 => ?_)
  · -- 2
    have c_1 : y < x := cv_lt (a := y) (b := x) (by omega) (by omega) c_1
    refine lv_iload_n hx hb dJ9_min_7cf53_9 rfl (lv_at hl 1 rfl) ?_
    exact m_iret () C0 h [] (by decide) rfl (by dsimp only; congr 1; omega) (Nat.le_of_ble_eq_true rfl) (Nat.le_of_ble_eq_true rfl) dJ9_min_7cf53_10
  · -- 2
    have c_1 : x ≤ y := cv_nlt (a := y) (b := x) (by omega) (by omega) c_1
    refine lv_iload_n hx hb dJ9_min_7cf53_5 rfl (lv_at hl 0 rfl) ?_
    refine lv_goto (tgt := 10) hx hb dJ9_min_7cf53_6 (by decide) ?_
    exact m_iret () C0 h [] (by decide) rfl (by dsimp only; congr 1; omega) (Nat.le_of_ble_eq_true rfl) (Nat.le_of_ble_eq_true rfl) dJ9_min_7cf53_10
set_option maxHeartbeats 4000000 in
set_option maxRecDepth 100000 in
theorem c_J9_max_7cf53 (l : Launch) (G : GG) (x : Int32) (y : Int32) : Mt l yJ9_max_7cf53 cJ9_max_7cf53 2 (some .int) 0 0 0 G [.int x, .int y] [] (Ri (S := Unit) G (fun r _ => True) (fun _ => [])) := by
  refine Mt.start (by decide) (Nat.le_of_ble_eq_true rfl) ?_
  intro p e s m below meth c A ls C0 hini h hl
  have C0 : Cx p s m _ meth c RJ9 cJ9_max_7cf53 2 (some .int) := C0
  obtain ⟨hx, hb, hml, hown, hts, -⟩ := id C0
  have hl : lv_has ls 2 [(0, .int x), (1, .int y)] := hl
  refine lv_iload_n hx hb dJ9_max_7cf53_0 rfl (lv_at hl 0 rfl) ?_
  refine lv_iload_n hx hb dJ9_max_7cf53_1 rfl (lv_at hl 1 rfl) ?_
  refine lv_icmp_lt (tgt := 9) hx hb dJ9_max_7cf53_2 (by decide) (fun c_1 => ?_) (fun c_1 => ?_)
  · -- 2 x < y
    refine lv_iload_n hx hb dJ9_max_7cf53_9 rfl (lv_at hl 1 rfl) ?_
    exact m_iret () C0 h [] (by decide) rfl trivial (Nat.le_of_ble_eq_true rfl) (Nat.le_of_ble_eq_true rfl) dJ9_max_7cf53_10
  · -- 2 ¬ x < y
    refine lv_iload_n hx hb dJ9_max_7cf53_5 rfl (lv_at hl 0 rfl) ?_
    refine lv_goto (tgt := 10) hx hb dJ9_max_7cf53_6 (by decide) ?_
    exact m_iret () C0 h [] (by decide) rfl trivial (Nat.le_of_ble_eq_true rfl) (Nat.le_of_ble_eq_true rfl) dJ9_max_7cf53_10
set_option maxHeartbeats 4000000 in
set_option maxRecDepth 100000 in
theorem c_J9_min_7cf53 (l : Launch) (G : GG) (x : Int32) (y : Int32) : Mt l yJ9_min_7cf53 cJ9_min_7cf53 2 (some .int) 0 0 0 G [.int x, .int y] [] (Ri (S := Unit) G (fun r _ => True) (fun _ => [])) := by
  refine Mt.start (by decide) (Nat.le_of_ble_eq_true rfl) ?_
  intro p e s m below meth c A ls C0 hini h hl
  have C0 : Cx p s m _ meth c RJ9 cJ9_min_7cf53 2 (some .int) := C0
  obtain ⟨hx, hb, hml, hown, hts, -⟩ := id C0
  have hl : lv_has ls 2 [(0, .int x), (1, .int y)] := hl
  refine lv_iload_n hx hb dJ9_min_7cf53_0 rfl (lv_at hl 0 rfl) ?_
  refine lv_iload_n hx hb dJ9_min_7cf53_1 rfl (lv_at hl 1 rfl) ?_
  refine lv_icmp_gt (tgt := 9) hx hb dJ9_min_7cf53_2 (by decide) (fun c_1 => ?_) (fun c_1 => ?_)
  · -- 2 y < x
    refine lv_iload_n hx hb dJ9_min_7cf53_9 rfl (lv_at hl 1 rfl) ?_
    exact m_iret () C0 h [] (by decide) rfl trivial (Nat.le_of_ble_eq_true rfl) (Nat.le_of_ble_eq_true rfl) dJ9_min_7cf53_10
  · -- 2 ¬ y < x
    refine lv_iload_n hx hb dJ9_min_7cf53_5 rfl (lv_at hl 0 rfl) ?_
    refine lv_goto (tgt := 10) hx hb dJ9_min_7cf53_6 (by decide) ?_
    exact m_iret () C0 h [] (by decide) rfl trivial (Nat.le_of_ble_eq_true rfl) (Nat.le_of_ble_eq_true rfl) dJ9_min_7cf53_10
set_option maxHeartbeats 4000000 in
set_option maxRecDepth 100000 in
theorem c_X4_clear (l : Launch) (G : GG) (a : Nat) (lc : Nat) (lk : Nat) (ln : Nat) (sz : Nat) (nd : Int32) : Mt l yX4_clear cX4_clear 1 none 0 0 0 G [.ref a] [(a, .inr (4, [.ref lc, .ref lk, .ref ln, .int (nI sz), .int nd]))] (Rv (S := Unit) G (fun _ => True) (fun _ => [(a, .inr (4, [.ref lc, .ref lk, .ref ln, .int 0, .int 0]))])) := by
  refine Mt.start (by decide) (Nat.le_of_ble_eq_true rfl) ?_
  intro p e s m below meth c A ls C0 hini h hl
  have C0 : Cx p s m _ meth c RX4 cX4_clear 1 none := C0
  obtain ⟨hx, hb, hml, hown, hts, -⟩ := id C0
  have hl : lv_has ls 1 [(0, .ref a)] := hl
  refine lv_aload_n hx hb dX4_clear_0 rfl (lv_at hl 0 rfl) ?_
  refine lv_iconst (v := 0) hx hb dX4_clear_1 (by decide) ?_
  refine p_X4_size (ws' := [(a, .inr (4, [.ref lc, .ref lk, .ref ln, .int 0, .int nd]))]) C0 h 0 q_170 rfl (Nat.le_of_ble_eq_true rfl) rfl rfl rfl dX4_clear_2 (fun H locs h => ?_)
  refine lv_aload_n hx hb dX4_clear_5 rfl (lv_at hl 0 rfl) ?_
  refine lv_iconst (v := 0) hx hb dX4_clear_6 (by decide) ?_
  refine p_X4_named (ws' := [(a, .inr (4, [.ref lc, .ref lk, .ref ln, .int 0, .int 0]))]) C0 h 0 q_171 rfl (Nat.le_of_ble_eq_true rfl) rfl rfl rfl dX4_clear_7 (fun H locs h => ?_)
  exact m_vret () C0 h [0] (by decide) rfl trivial (Nat.le_of_ble_eq_true rfl) (Nat.le_of_ble_eq_true rfl) dX4_clear_10
set_option maxHeartbeats 4000000 in
set_option maxRecDepth 100000 in
theorem c_X4_isTold (l : Launch) (G : GG) (a : Nat) (lc : Nat) (lk : Nat) (ln : Nat) (sz : Nat) (nd : Int32) (hsz : sz ≤ 900) : Mt l yX4_isTold cX4_isTold 1 (some .boolean) 0 0 0 G [.ref a] [(a, .inr (4, [.ref lc, .ref lk, .ref ln, .int (nI sz), .int nd]))] (Ri (S := Unit) G (fun r _ => (r = 1 ∧ 0 < sz) ∨ (r = 0 ∧ sz = 0)) (fun _ => [(a, .inr (4, [.ref lc, .ref lk, .ref ln, .int (nI sz), .int nd]))])) := by
  refine Mt.start (by decide) (Nat.le_of_ble_eq_true rfl) ?_
  intro p e s m below meth c A ls C0 hini h hl
  have C0 : Cx p s m _ meth c RX4 cX4_isTold 1 (some .boolean) := C0
  obtain ⟨hx, hb, hml, hown, hts, -⟩ := id C0
  have hl : lv_has ls 1 [(0, .ref a)] := hl
  refine lv_aload_n hx hb dX4_isTold_0 rfl (lv_at hl 0 rfl) ?_
  refine g_X4_size C0 h 0 q_170 rfl rfl dX4_isTold_1 ?_
  refine lv_if_le (tgt := 11) hx hb dX4_isTold_4 (by decide) (fun c_1 => ?_) (fun c_1 => ?_)
  · -- 4
    have c_1 : sz ≤ 0 := cv_le (a := sz) (b := 0) (by omega) (by omega) c_1
    refine lv_iconst (v := 0) hx hb dX4_isTold_11 (by decide) ?_
    exact m_zret () C0 h (by decide) [0] (by decide) rfl (by dsimp only; first | exact Or.inl ⟨rfl, by omega⟩ | exact Or.inr ⟨rfl, by omega⟩) (Nat.le_of_ble_eq_true rfl) (Nat.le_of_ble_eq_true rfl) dX4_isTold_12
  · -- 4
    have c_1 : 0 < sz := cv_nle (a := sz) (b := 0) (by omega) (by omega) c_1
    refine lv_iconst (v := 1) hx hb dX4_isTold_7 (by decide) ?_
    refine lv_goto (tgt := 12) hx hb dX4_isTold_8 (by decide) ?_
    exact m_zret () C0 h (by decide) [0] (by decide) rfl (by dsimp only; first | exact Or.inl ⟨rfl, by omega⟩ | exact Or.inr ⟨rfl, by omega⟩) (Nat.le_of_ble_eq_true rfl) (Nat.le_of_ble_eq_true rfl) dX4_isTold_12
set_option maxHeartbeats 4000000 in
set_option maxRecDepth 100000 in
theorem c_X4_add (l : Launch) (G : GG) (a : Nat) (lc : Nat) (lk : Nat) (ln : Nat) (sz : Nat) (nd : Int32) (f : Nat → Int32) (q : Int32) (hsz : sz ≤ 900) : Mt l yX4_add cX4_add 2 none 0 0 0 G [.ref a, .int q] [(a, .inr (4, [.ref lc, .ref lk, .ref ln, .int (nI sz), .int nd])), (lc, .inl (G.2 1, 900, .inl f))] (Rv (S := Nat × Int32 × (Nat → Int32)) G (fun ⟨sz2, nd2, f2⟩ => sz2 ≤ 900) (fun ⟨sz2, nd2, f2⟩ => [(a, .inr (4, [.ref lc, .ref lk, .ref ln, .int (nI sz2), .int nd2])), (lc, .inl (G.2 1, 900, .inl f2))])) := by
  refine Mt.start (by decide) (Nat.le_of_ble_eq_true rfl) ?_
  intro p e s m below meth c A ls C0 hini h hl
  have C0 : Cx p s m _ meth c RX4 cX4_add 2 none := C0
  obtain ⟨hx, hb, hml, hown, hts, -⟩ := id C0
  have hl : lv_has ls 2 [(0, .ref a), (1, .int q)] := hl
  refine lv_aload_n hx hb dX4_add_0 rfl (lv_at hl 0 rfl) ?_
  refine g_X4_size C0 h 0 q_170 rfl rfl dX4_add_1 ?_
  refine lv_aload_n hx hb dX4_add_4 rfl (lv_at hl 0 rfl) ?_
  refine g_X4_code C0 h 0 q_167 rfl rfl dX4_add_5 ?_
  refine m_alen (v := 900) C0 h 1 1 rfl rfl rfl dX4_add_8 ?_
  refine lv_icmp_ge (tgt := 32) hx hb dX4_add_9 (by decide) (fun c_1 => ?_) (fun c_1 => ?_)
  · -- 9
    have c_1 : 900 ≤ sz := cv_le (a := 900) (b := sz) (by omega) (by omega) c_1
    refine lv_iload_n hx hb dX4_add_32 rfl (lv_at hl 1 rfl) ?_
    refine lv_sipush (v := 1000) hx hb dX4_add_33 (by decide) ?_
    refine lv_icmp_lt (tgt := 62) hx hb dX4_add_36 (by decide) (fun c_2 => ?_) (fun c_2 => ?_)
    · -- 36 q < 1000
      exact m_vret (sz, nd, f) C0 h [0, 1] (by decide) rfl (by dsimp only; omega) (Nat.le_of_ble_eq_true rfl) (Nat.le_of_ble_eq_true rfl) dX4_add_62
    · -- 36 ¬ q < 1000
      refine lv_iload_n hx hb dX4_add_39 rfl (lv_at hl 1 rfl) ?_
      refine lv_sipush (v := 1005) hx hb dX4_add_40 (by decide) ?_
      refine lv_icmp_gt (tgt := 62) hx hb dX4_add_43 (by decide) (fun c_3 => ?_) (fun c_3 => ?_)
      · -- 43 1005 < q
        exact m_vret (sz, nd, f) C0 h [0, 1] (by decide) rfl (by dsimp only; omega) (Nat.le_of_ble_eq_true rfl) (Nat.le_of_ble_eq_true rfl) dX4_add_62
      · -- 43 ¬ 1005 < q
        refine lv_aload_n hx hb dX4_add_46 rfl (lv_at hl 0 rfl) ?_
        refine lv_dup hx hb dX4_add_47 rfl ?_
        refine g_X4_named C0 h 0 q_171 rfl rfl dX4_add_48 ?_
        refine lv_iconst (v := 1) hx hb dX4_add_51 (by decide) ?_
        refine lv_iload_n hx hb dX4_add_52 rfl (lv_at hl 1 rfl) ?_
        refine lv_sipush (v := 1000) hx hb dX4_add_53 (by decide) ?_
        refine lv_isub hx hb dX4_add_56 ?_
        refine lv_ishl hx hb dX4_add_57 ?_
        refine lv_ior hx hb dX4_add_58 ?_
        refine p_X4_named (ws' := [(a, .inr (4, [.ref lc, .ref lk, .ref ln, .int (nI sz), .int (nd ||| (1 <<< ((q - 1000) &&& 31)))])), (lc, .inl (G.2 1, 900, .inl f))]) C0 h 0 q_171 rfl (Nat.le_of_ble_eq_true rfl) rfl rfl rfl dX4_add_59 (fun H locs h => ?_)
        exact m_vret (sz, (nd ||| (1 <<< ((q - 1000) &&& 31))), f) C0 h [0, 1] (by decide) rfl (by dsimp only; omega) (Nat.le_of_ble_eq_true rfl) (Nat.le_of_ble_eq_true rfl) dX4_add_62
  · -- 9
    have c_1 : sz < 900 := cv_nle (a := 900) (b := sz) (by omega) (by omega) c_1
    refine lv_aload_n hx hb dX4_add_12 rfl (lv_at hl 0 rfl) ?_
    refine g_X4_code C0 h 0 q_167 rfl rfl dX4_add_13 ?_
    refine lv_aload_n hx hb dX4_add_16 rfl (lv_at hl 0 rfl) ?_
    refine g_X4_size C0 h 0 q_170 rfl rfl dX4_add_17 ?_
    refine lv_iload_n hx hb dX4_add_20 rfl (lv_at hl 1 rfl) ?_
    refine m_iast (ws' := [(a, .inr (4, [.ref lc, .ref lk, .ref ln, .int (nI sz), .int nd])), (lc, .inl (G.2 1, 900, .inl (upd f sz q)))]) C0 h 1 sz rfl rfl (by omega) (by decide) rfl dX4_add_21 (fun H locs h => ?_)
    refine lv_aload_n hx hb dX4_add_22 rfl (lv_at hl 0 rfl) ?_
    refine lv_dup hx hb dX4_add_23 rfl ?_
    refine g_X4_size C0 h 0 q_170 rfl rfl dX4_add_24 ?_
    refine lv_iconst (v := 1) hx hb dX4_add_27 (by decide) ?_
    refine lv_iadd hx hb dX4_add_28 ?_
    refine lv_topi (fun k_4 ek_4 => ?_)
    obtain rfl : k_4 = nI (sz + 1) := ek_4.trans (nI_add sz 1)
    refine p_X4_size (ws' := [(a, .inr (4, [.ref lc, .ref lk, .ref ln, .int (nI (sz + 1)), .int nd])), (lc, .inl (G.2 1, 900, .inl (upd f sz q)))]) C0 h 0 q_170 rfl (Nat.le_of_ble_eq_true rfl) rfl rfl rfl dX4_add_29 (fun H locs h => ?_)
    refine lv_iload_n hx hb dX4_add_32 rfl (lv_at hl 1 rfl) ?_
    refine lv_sipush (v := 1000) hx hb dX4_add_33 (by decide) ?_
    refine lv_icmp_lt (tgt := 62) hx hb dX4_add_36 (by decide) (fun c_5 => ?_) (fun c_5 => ?_)
    · -- 36 q < 1000
      exact m_vret (sz + 1, nd, upd f sz q) C0 h [0, 1] (by decide) rfl (by dsimp only; omega) (Nat.le_of_ble_eq_true rfl) (Nat.le_of_ble_eq_true rfl) dX4_add_62
    · -- 36 ¬ q < 1000
      refine lv_iload_n hx hb dX4_add_39 rfl (lv_at hl 1 rfl) ?_
      refine lv_sipush (v := 1005) hx hb dX4_add_40 (by decide) ?_
      refine lv_icmp_gt (tgt := 62) hx hb dX4_add_43 (by decide) (fun c_6 => ?_) (fun c_6 => ?_)
      · -- 43 1005 < q
        exact m_vret (sz + 1, nd, upd f sz q) C0 h [0, 1] (by decide) rfl (by dsimp only; omega) (Nat.le_of_ble_eq_true rfl) (Nat.le_of_ble_eq_true rfl) dX4_add_62
      · -- 43 ¬ 1005 < q
        refine lv_aload_n hx hb dX4_add_46 rfl (lv_at hl 0 rfl) ?_
        refine lv_dup hx hb dX4_add_47 rfl ?_
        refine g_X4_named C0 h 0 q_171 rfl rfl dX4_add_48 ?_
        refine lv_iconst (v := 1) hx hb dX4_add_51 (by decide) ?_
        refine lv_iload_n hx hb dX4_add_52 rfl (lv_at hl 1 rfl) ?_
        refine lv_sipush (v := 1000) hx hb dX4_add_53 (by decide) ?_
        refine lv_isub hx hb dX4_add_56 ?_
        refine lv_ishl hx hb dX4_add_57 ?_
        refine lv_ior hx hb dX4_add_58 ?_
        refine p_X4_named (ws' := [(a, .inr (4, [.ref lc, .ref lk, .ref ln, .int (nI (sz + 1)), .int (nd ||| (1 <<< ((q - 1000) &&& 31)))])), (lc, .inl (G.2 1, 900, .inl (upd f sz q)))]) C0 h 0 q_171 rfl (Nat.le_of_ble_eq_true rfl) rfl rfl rfl dX4_add_59 (fun H locs h => ?_)
        exact m_vret (sz + 1, (nd ||| (1 <<< ((q - 1000) &&& 31))), upd f sz q) C0 h [0, 1] (by decide) rfl (by dsimp only; omega) (Nat.le_of_ble_eq_true rfl) (Nat.le_of_ble_eq_true rfl) dX4_add_62
set_option maxHeartbeats 4000000 in
set_option maxRecDepth 100000 in
theorem c_X4_asks (l : Launch) (G : GG) (a : Nat) (lc : Nat) (lk : Nat) (ln : Nat) (sz : Nat) (nd : Int32) (q : Int32) : Mt l yX4_asks cX4_asks 2 (some .boolean) 0 0 0 G [.ref a, .int q] [(a, .inr (4, [.ref lc, .ref lk, .ref ln, .int (nI sz), .int nd]))] (Ri (S := Unit) G (fun r _ => r = 1 ∨ r = 0) (fun _ => [(a, .inr (4, [.ref lc, .ref lk, .ref ln, .int (nI sz), .int nd]))])) := by
  refine Mt.start (by decide) (Nat.le_of_ble_eq_true rfl) ?_
  intro p e s m below meth c A ls C0 hini h hl
  have C0 : Cx p s m _ meth c RX4 cX4_asks 2 (some .boolean) := C0
  obtain ⟨hx, hb, hml, hown, hts, -⟩ := id C0
  have hl : lv_has ls 2 [(0, .ref a), (1, .int q)] := hl
  refine lv_aload_n hx hb dX4_asks_0 rfl (lv_at hl 0 rfl) ?_
  refine g_X4_named C0 h 0 q_171 rfl rfl dX4_asks_1 ?_
  refine lv_iload_n hx hb dX4_asks_4 rfl (lv_at hl 1 rfl) ?_
  refine lv_sipush (v := 1000) hx hb dX4_asks_5 (by decide) ?_
  refine lv_isub hx hb dX4_asks_8 ?_
  refine lv_ishr hx hb dX4_asks_9 ?_
  refine lv_iconst (v := 1) hx hb dX4_asks_10 (by decide) ?_
  refine lv_iand hx hb dX4_asks_11 ?_
  obtain ⟨j_1, hj_1, ej_1⟩ := pk_andE (nd >>> ((q - 1000) &&& 31)) (m := 1) 1 rfl
  refine W.eq (g2 := F0 m 12 ls [.int (nI j_1)]) (by rw [ej_1]) ?_
  refine lv_if_eq (tgt := 19) hx hb dX4_asks_12 (by decide) (fun c_2 => ?_) (fun c_2 => ?_)
  · -- 12
    have c_2 : j_1 = 0 := cv_eq (a := j_1) (b := 0) (by omega) (by omega) c_2
    refine lv_iconst (v := 0) hx hb dX4_asks_19 (by decide) ?_
    exact m_zret () C0 h (by decide) [0] (by decide) rfl (by dsimp only; first | exact Or.inl rfl | exact Or.inr rfl) (Nat.le_of_ble_eq_true rfl) (Nat.le_of_ble_eq_true rfl) dX4_asks_20
  · -- 12
    have c_2 : j_1 ≠ 0 := cv_ne (a := j_1) (b := 0) (by omega) (by omega) c_2
    refine lv_iconst (v := 1) hx hb dX4_asks_15 (by decide) ?_
    refine lv_goto (tgt := 20) hx hb dX4_asks_16 (by decide) ?_
    exact m_zret () C0 h (by decide) [0] (by decide) rfl (by dsimp only; first | exact Or.inl rfl | exact Or.inr rfl) (Nat.le_of_ble_eq_true rfl) (Nat.le_of_ble_eq_true rfl) dX4_asks_20
