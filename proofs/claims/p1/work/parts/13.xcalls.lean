abbrev trF (t : Nat → Nat) : Nat → Option Nat := va_up (va_up (va_up (va_up (fun _ => none) 0 (some (t 0))) 1 (some (t 1))) 2 (some (t 2))) 3 (some (t 3))
abbrev imF (t : Nat → Nat) : Nat → Option Nat := va_up (va_up (fun _ => none) 0 (some (t 8))) 1 (some (t 9))
theorem in4' {x : Int32} (h1 : ¬ x < 0) (h2 : x < 4) : x = 0 ∨ x = 1 ∨ x = 2 ∨ x = 3 := in4 (by grind) (by grind)
def sp_trayL (t : Int32) : Int64 := if 0 ≤ t ∧ t ≤ 3 then -6 else -2
theorem dX11_judge_0 : decode cX11_judge 0 = .ok (.iload_n 1, 1) := by decide +kernel
theorem dX11_judge_1 : decode cX11_judge 1 = .ok (.invokestatic 211, 3) := by decide +kernel
theorem dX11_judge_4 : decode cX11_judge 4 = .ok (.ifCond .eq 16, 3) := by decide +kernel
theorem dX11_judge_7 : decode cX11_judge 7 = .ok (.iload_n 2, 1) := by decide +kernel
theorem dX11_judge_8 : decode cX11_judge 8 = .ok (.ifCond .lt 12, 3) := by decide +kernel
theorem dX11_judge_11 : decode cX11_judge 11 = .ok (.iload_n 2, 1) := by decide +kernel
theorem dX11_judge_12 : decode cX11_judge 12 = .ok (.aload_n 0, 1) := by decide +kernel
theorem dX11_judge_13 : decode cX11_judge 13 = .ok (.getfield 102, 3) := by decide +kernel
theorem dX11_judge_16 : decode cX11_judge 16 = .ok (.arraylength, 1) := by decide +kernel
theorem dX11_judge_17 : decode cX11_judge 17 = .ok (.if_icmp .lt 6, 3) := by decide +kernel
theorem dX11_judge_20 : decode cX11_judge 20 = .ok (.bipush (-2), 2) := by decide +kernel
theorem dX11_judge_22 : decode cX11_judge 22 = .ok (.ireturn, 1) := by decide +kernel
theorem dX11_judge_23 : decode cX11_judge 23 = .ok (.aload_n 0, 1) := by decide +kernel
theorem dX11_judge_24 : decode cX11_judge 24 = .ok (.getfield 78, 3) := by decide +kernel
theorem dX11_judge_27 : decode cX11_judge 27 = .ok (.iload_n 1, 1) := by decide +kernel
theorem dX11_judge_28 : decode cX11_judge 28 = .ok (.aaload, 1) := by decide +kernel
theorem dX11_judge_29 : decode cX11_judge 29 = .ok (.getfield 214, 3) := by decide +kernel
theorem dX11_judge_32 : decode cX11_judge 32 = .ok (.ifCond .ge 6, 3) := by decide +kernel
theorem dX11_judge_35 : decode cX11_judge 35 = .ok (.bipush (-6), 2) := by decide +kernel
theorem dX11_judge_37 : decode cX11_judge 37 = .ok (.ireturn, 1) := by decide +kernel
theorem dX11_walk_0 : decode cX11_walk 0 = .ok (.iload_n 1, 1) := by decide +kernel
theorem dX11_walk_1 : decode cX11_walk 1 = .ok (.invokestatic 211, 3) := by decide +kernel
theorem dX11_walk_4 : decode cX11_walk 4 = .ok (.ifCond .ne 6, 3) := by decide +kernel
theorem dX11_walk_7 : decode cX11_walk 7 = .ok (.bipush (-2), 2) := by decide +kernel
theorem dX11_walk_9 : decode cX11_walk 9 = .ok (.ireturn, 1) := by decide +kernel
theorem dX11_walk_10 : decode cX11_walk 10 = .ok (.aload_n 0, 1) := by decide +kernel
theorem dX11_walk_11 : decode cX11_walk 11 = .ok (.getfield 78, 3) := by decide +kernel
theorem dX11_walk_14 : decode cX11_walk 14 = .ok (.iload_n 1, 1) := by decide +kernel
theorem dX11_walk_15 : decode cX11_walk 15 = .ok (.aaload, 1) := by decide +kernel
theorem dX11_walk_16 : decode cX11_walk 16 = .ok (.getfield 214, 3) := by decide +kernel
theorem dX11_walk_19 : decode cX11_walk 19 = .ok (.ifCond .ge 6, 3) := by decide +kernel
theorem dX11_walk_22 : decode cX11_walk 22 = .ok (.bipush (-6), 2) := by decide +kernel
theorem dX11_walk_24 : decode cX11_walk 24 = .ok (.ireturn, 1) := by decide +kernel
theorem dX11_write_0 : decode cX11_write 0 = .ok (.iload_n 1, 1) := by decide +kernel
theorem dX11_write_1 : decode cX11_write 1 = .ok (.invokestatic 211, 3) := by decide +kernel
theorem dX11_write_4 : decode cX11_write 4 = .ok (.ifCond .ne 7, 3) := by decide +kernel
theorem dX11_write_7 : decode cX11_write 7 = .ok (.ldc2_w 270, 3) := by decide +kernel
theorem dX11_write_10 : decode cX11_write 10 = .ok (.lreturn, 1) := by decide +kernel
theorem dX11_write_11 : decode cX11_write 11 = .ok (.aload_n 0, 1) := by decide +kernel
theorem dX11_write_12 : decode cX11_write 12 = .ok (.getfield 78, 3) := by decide +kernel
theorem dX11_write_15 : decode cX11_write 15 = .ok (.iload_n 1, 1) := by decide +kernel
theorem dX11_write_16 : decode cX11_write 16 = .ok (.aaload, 1) := by decide +kernel
theorem dX11_write_17 : decode cX11_write 17 = .ok (.astore 5, 2) := by decide +kernel
theorem dX11_write_19 : decode cX11_write 19 = .ok (.aload 5, 2) := by decide +kernel
theorem dX11_write_21 : decode cX11_write 21 = .ok (.getfield 214, 3) := by decide +kernel
theorem dX11_write_24 : decode cX11_write 24 = .ok (.ifCond .ge 7, 3) := by decide +kernel
theorem dX11_write_27 : decode cX11_write 27 = .ok (.ldc2_w 318, 3) := by decide +kernel
theorem dX11_write_30 : decode cX11_write 30 = .ok (.lreturn, 1) := by decide +kernel
theorem dX10_lay_0 : decode cX10_lay 0 = .ok (.aload_n 0, 1) := by decide +kernel
theorem dX10_lay_1 : decode cX10_lay 1 = .ok (.getfield 11, 3) := by decide +kernel
theorem dX10_lay_4 : decode cX10_lay 4 = .ok (.lconst 0, 1) := by decide +kernel
theorem dX10_lay_5 : decode cX10_lay 5 = .ok (.invokestatic 19, 3) := by decide +kernel
theorem dX10_lay_8 : decode cX10_lay 8 = .ok (.aload_n 0, 1) := by decide +kernel
theorem dX10_lay_9 : decode cX10_lay 9 = .ok (.iload_n 1, 1) := by decide +kernel
theorem dX10_lay_10 : decode cX10_lay 10 = .ok (.putfield 25, 3) := by decide +kernel
theorem dX10_lay_13 : decode cX10_lay 13 = .ok (.aload_n 0, 1) := by decide +kernel
theorem dX10_lay_14 : decode cX10_lay 14 = .ok (.iload_n 2, 1) := by decide +kernel
theorem dX10_lay_15 : decode cX10_lay 15 = .ok (.putfield 15, 3) := by decide +kernel
theorem dX10_lay_18 : decode cX10_lay 18 = .ok (.return_, 1) := by decide +kernel
theorem dX11_numbers_0 : decode cX11_numbers 0 = .ok (.iload_n 1, 1) := by decide +kernel
theorem dX11_numbers_1 : decode cX11_numbers 1 = .ok (.invokestatic 211, 3) := by decide +kernel
theorem dX11_numbers_4 : decode cX11_numbers 4 = .ok (.ifCond .eq 12, 3) := by decide +kernel
theorem dX11_numbers_7 : decode cX11_numbers 7 = .ok (.iload_n 2, 1) := by decide +kernel
theorem dX11_numbers_8 : decode cX11_numbers 8 = .ok (.ifCond .lt 8, 3) := by decide +kernel
theorem dX11_numbers_11 : decode cX11_numbers 11 = .ok (.iload_n 2, 1) := by decide +kernel
theorem dX11_numbers_12 : decode cX11_numbers 12 = .ok (.iconst 3, 1) := by decide +kernel
theorem dX11_numbers_13 : decode cX11_numbers 13 = .ok (.if_icmp .le 6, 3) := by decide +kernel
theorem dX11_numbers_16 : decode cX11_numbers 16 = .ok (.bipush (-2), 2) := by decide +kernel
theorem dX11_numbers_18 : decode cX11_numbers 18 = .ok (.ireturn, 1) := by decide +kernel
theorem dX11_numbers_19 : decode cX11_numbers 19 = .ok (.iload_n 3, 1) := by decide +kernel
theorem dX11_numbers_20 : decode cX11_numbers 20 = .ok (.ifCond .lt 9, 3) := by decide +kernel
theorem dX11_numbers_23 : decode cX11_numbers 23 = .ok (.iload_n 3, 1) := by decide +kernel
theorem dX11_numbers_24 : decode cX11_numbers 24 = .ok (.bipush 40, 2) := by decide +kernel
theorem dX11_numbers_26 : decode cX11_numbers 26 = .ok (.if_icmp .le 6, 3) := by decide +kernel
theorem dX11_numbers_29 : decode cX11_numbers 29 = .ok (.bipush (-3), 2) := by decide +kernel
theorem dX11_numbers_31 : decode cX11_numbers 31 = .ok (.ireturn, 1) := by decide +kernel
theorem dX11_numbers_32 : decode cX11_numbers 32 = .ok (.aload_n 0, 1) := by decide +kernel
theorem dX11_numbers_33 : decode cX11_numbers 33 = .ok (.getfield 78, 3) := by decide +kernel
theorem dX11_numbers_36 : decode cX11_numbers 36 = .ok (.iload_n 1, 1) := by decide +kernel
theorem dX11_numbers_37 : decode cX11_numbers 37 = .ok (.aaload, 1) := by decide +kernel
theorem dX11_numbers_38 : decode cX11_numbers 38 = .ok (.iload_n 2, 1) := by decide +kernel
theorem dX11_numbers_39 : decode cX11_numbers 39 = .ok (.iload_n 3, 1) := by decide +kernel
theorem dX11_numbers_40 : decode cX11_numbers 40 = .ok (.invokevirtual 314, 3) := by decide +kernel
theorem dX11_numbers_43 : decode cX11_numbers 43 = .ok (.iconst 0, 1) := by decide +kernel
theorem dX11_numbers_44 : decode cX11_numbers 44 = .ok (.ireturn, 1) := by decide +kernel
theorem dX11_restore_0 : decode cX11_restore 0 = .ok (.iload_n 1, 1) := by decide +kernel
theorem dX11_restore_1 : decode cX11_restore 1 = .ok (.ifCond .lt 8, 3) := by decide +kernel
theorem dX11_restore_4 : decode cX11_restore 4 = .ok (.iload_n 1, 1) := by decide +kernel
theorem dX11_restore_5 : decode cX11_restore 5 = .ok (.iconst 2, 1) := by decide +kernel
theorem dX11_restore_6 : decode cX11_restore 6 = .ok (.if_icmp .lt 6, 3) := by decide +kernel
theorem dX11_restore_9 : decode cX11_restore 9 = .ok (.bipush (-2), 2) := by decide +kernel
theorem dX11_restore_11 : decode cX11_restore 11 = .ok (.ireturn, 1) := by decide +kernel
theorem dX11_restore_12 : decode cX11_restore 12 = .ok (.aload_n 0, 1) := by decide +kernel
theorem dX11_restore_13 : decode cX11_restore 13 = .ok (.getfield 87, 3) := by decide +kernel
theorem dX11_restore_16 : decode cX11_restore 16 = .ok (.iload_n 1, 1) := by decide +kernel
theorem dX11_restore_17 : decode cX11_restore 17 = .ok (.baload, 1) := by decide +kernel
theorem dX11_restore_18 : decode cX11_restore 18 = .ok (.ifCond .ne 6, 3) := by decide +kernel
theorem dX11_restore_21 : decode cX11_restore 21 = .ok (.bipush (-5), 2) := by decide +kernel
theorem dX11_restore_23 : decode cX11_restore 23 = .ok (.ireturn, 1) := by decide +kernel
theorem dX5_faultKind_0 : decode cX5_faultKind 0 = .ok (.aload_n 0, 1) := by decide +kernel
theorem dX5_faultKind_1 : decode cX5_faultKind 1 = .ok (.getfield 35, 3) := by decide +kernel
theorem dX5_faultKind_4 : decode cX5_faultKind 4 = .ok (.ireturn, 1) := by decide +kernel
theorem dX5_faultPlace_0 : decode cX5_faultPlace 0 = .ok (.aload_n 0, 1) := by decide +kernel
theorem dX5_faultPlace_1 : decode cX5_faultPlace 1 = .ok (.getfield 15, 3) := by decide +kernel
theorem dX5_faultPlace_4 : decode cX5_faultPlace 4 = .ok (.ireturn, 1) := by decide +kernel
theorem dX11_fault_0 : decode cX11_fault 0 = .ok (.iload_n 1, 1) := by decide +kernel
theorem dX11_fault_1 : decode cX11_fault 1 = .ok (.ifCond .ne 13, 3) := by decide +kernel
theorem dX11_fault_4 : decode cX11_fault 4 = .ok (.aload_n 0, 1) := by decide +kernel
theorem dX11_fault_5 : decode cX11_fault 5 = .ok (.getfield 37, 3) := by decide +kernel
theorem dX11_fault_8 : decode cX11_fault 8 = .ok (.invokevirtual 135, 3) := by decide +kernel
theorem dX11_fault_11 : decode cX11_fault 11 = .ok (.goto 19, 3) := by decide +kernel
theorem dX11_fault_14 : decode cX11_fault 14 = .ok (.iload_n 1, 1) := by decide +kernel
theorem dX11_fault_15 : decode cX11_fault 15 = .ok (.iconst 1, 1) := by decide +kernel
theorem dX11_fault_16 : decode cX11_fault 16 = .ok (.if_icmp .ne 13, 3) := by decide +kernel
theorem dX11_fault_19 : decode cX11_fault 19 = .ok (.aload_n 0, 1) := by decide +kernel
theorem dX11_fault_20 : decode cX11_fault 20 = .ok (.getfield 37, 3) := by decide +kernel
theorem dX11_fault_23 : decode cX11_fault 23 = .ok (.invokevirtual 138, 3) := by decide +kernel
theorem dX11_fault_26 : decode cX11_fault 26 = .ok (.goto 4, 3) := by decide +kernel
theorem dX11_fault_29 : decode cX11_fault 29 = .ok (.iconst (-1), 1) := by decide +kernel
theorem dX11_fault_30 : decode cX11_fault 30 = .ok (.ireturn, 1) := by decide +kernel
theorem dX5_fed_0 : decode cX5_fed 0 = .ok (.aload_n 0, 1) := by decide +kernel
theorem dX5_fed_1 : decode cX5_fed 1 = .ok (.getfield 32, 3) := by decide +kernel
theorem dX5_fed_4 : decode cX5_fed 4 = .ok (.ireturn, 1) := by decide +kernel
theorem dX5_hasRoom_0 : decode cX5_hasRoom 0 = .ok (.aload_n 0, 1) := by decide +kernel
theorem dX5_hasRoom_1 : decode cX5_hasRoom 1 = .ok (.getfield 32, 3) := by decide +kernel
theorem dX5_hasRoom_4 : decode cX5_hasRoom 4 = .ok (.bipush 20, 2) := by decide +kernel
theorem dX5_hasRoom_6 : decode cX5_hasRoom 6 = .ok (.iadd, 1) := by decide +kernel
theorem dX5_hasRoom_7 : decode cX5_hasRoom 7 = .ok (.sipush 900, 3) := by decide +kernel
theorem dX5_hasRoom_10 : decode cX5_hasRoom 10 = .ok (.if_icmp .gt 7, 3) := by decide +kernel
theorem dX5_hasRoom_13 : decode cX5_hasRoom 13 = .ok (.iconst 1, 1) := by decide +kernel
theorem dX5_hasRoom_14 : decode cX5_hasRoom 14 = .ok (.goto 4, 3) := by decide +kernel
theorem dX5_hasRoom_18 : decode cX5_hasRoom 18 = .ok (.ireturn, 1) := by decide +kernel
theorem dX5_put_0 : decode cX5_put 0 = .ok (.bipush 24, 2) := by decide +kernel
theorem dX5_put_2 : decode cX5_put 2 = .ok (.istore_n 2, 1) := by decide +kernel
theorem dX5_put_3 : decode cX5_put 3 = .ok (.iload_n 2, 1) := by decide +kernel
theorem dX5_put_4 : decode cX5_put 4 = .ok (.ifCond .lt 42, 3) := by decide +kernel
theorem dX5_put_7 : decode cX5_put 7 = .ok (.aload_n 0, 1) := by decide +kernel
theorem dX5_put_8 : decode cX5_put 8 = .ok (.getfield 32, 3) := by decide +kernel
theorem dX5_put_11 : decode cX5_put 11 = .ok (.sipush 900, 3) := by decide +kernel
theorem dX5_put_14 : decode cX5_put 14 = .ok (.if_icmp .ge 32, 3) := by decide +kernel
theorem dX5_put_17 : decode cX5_put 17 = .ok (.aload_n 0, 1) := by decide +kernel
theorem dX5_put_18 : decode cX5_put 18 = .ok (.getfield 9, 3) := by decide +kernel
theorem dX5_put_21 : decode cX5_put 21 = .ok (.aload_n 0, 1) := by decide +kernel
theorem dX5_put_22 : decode cX5_put 22 = .ok (.getfield 32, 3) := by decide +kernel
theorem dX5_put_25 : decode cX5_put 25 = .ok (.iload_n 1, 1) := by decide +kernel
theorem dX5_put_26 : decode cX5_put 26 = .ok (.iload_n 2, 1) := by decide +kernel
theorem dX5_put_27 : decode cX5_put 27 = .ok (.ishr, 1) := by decide +kernel
theorem dX5_put_28 : decode cX5_put 28 = .ok (.i2b, 1) := by decide +kernel
theorem dX5_put_29 : decode cX5_put 29 = .ok (.bastore, 1) := by decide +kernel
theorem dX5_put_30 : decode cX5_put 30 = .ok (.aload_n 0, 1) := by decide +kernel
theorem dX5_put_31 : decode cX5_put 31 = .ok (.dup, 1) := by decide +kernel
theorem dX5_put_32 : decode cX5_put 32 = .ok (.getfield 32, 3) := by decide +kernel
theorem dX5_put_35 : decode cX5_put 35 = .ok (.iconst 1, 1) := by decide +kernel
theorem dX5_put_36 : decode cX5_put 36 = .ok (.iadd, 1) := by decide +kernel
theorem dX5_put_37 : decode cX5_put 37 = .ok (.putfield 32, 3) := by decide +kernel
theorem dX5_put_40 : decode cX5_put 40 = .ok (.iinc 2 (-8), 3) := by decide +kernel
theorem dX5_put_43 : decode cX5_put 43 = .ok (.goto (-40), 3) := by decide +kernel
theorem dX5_put_46 : decode cX5_put 46 = .ok (.return_, 1) := by decide +kernel
theorem dX11_feed_0 : decode cX11_feed 0 = .ok (.aload_n 0, 1) := by decide +kernel
theorem dX11_feed_1 : decode cX11_feed 1 = .ok (.getfield 37, 3) := by decide +kernel
theorem dX11_feed_4 : decode cX11_feed 4 = .ok (.invokevirtual 109, 3) := by decide +kernel
theorem dX11_feed_7 : decode cX11_feed 7 = .ok (.ifCond .ne 6, 3) := by decide +kernel
theorem dX11_feed_13 : decode cX11_feed 13 = .ok (.aload_n 0, 1) := by decide +kernel
theorem dX11_feed_14 : decode cX11_feed 14 = .ok (.getfield 37, 3) := by decide +kernel
theorem dX11_feed_17 : decode cX11_feed 17 = .ok (.iload_n 1, 1) := by decide +kernel
theorem dX11_feed_18 : decode cX11_feed 18 = .ok (.invokevirtual 113, 3) := by decide +kernel
theorem dX11_feed_21 : decode cX11_feed 21 = .ok (.aload_n 0, 1) := by decide +kernel
theorem dX11_feed_22 : decode cX11_feed 22 = .ok (.getfield 37, 3) := by decide +kernel
theorem dX11_feed_25 : decode cX11_feed 25 = .ok (.iload_n 2, 1) := by decide +kernel
theorem dX11_feed_26 : decode cX11_feed 26 = .ok (.invokevirtual 113, 3) := by decide +kernel
theorem dX11_feed_29 : decode cX11_feed 29 = .ok (.aload_n 0, 1) := by decide +kernel
theorem dX11_feed_30 : decode cX11_feed 30 = .ok (.getfield 37, 3) := by decide +kernel
theorem dX11_feed_33 : decode cX11_feed 33 = .ok (.iload_n 3, 1) := by decide +kernel
theorem dX11_feed_34 : decode cX11_feed 34 = .ok (.invokevirtual 113, 3) := by decide +kernel
theorem dX11_feed_37 : decode cX11_feed 37 = .ok (.aload_n 0, 1) := by decide +kernel
theorem dX11_feed_38 : decode cX11_feed 38 = .ok (.getfield 37, 3) := by decide +kernel
theorem dX11_feed_41 : decode cX11_feed 41 = .ok (.iload 4, 2) := by decide +kernel
theorem dX11_feed_43 : decode cX11_feed 43 = .ok (.invokevirtual 113, 3) := by decide +kernel
theorem dX11_feed_46 : decode cX11_feed 46 = .ok (.aload_n 0, 1) := by decide +kernel
theorem dX11_feed_47 : decode cX11_feed 47 = .ok (.getfield 37, 3) := by decide +kernel
theorem dX11_feed_50 : decode cX11_feed 50 = .ok (.iload 5, 2) := by decide +kernel
theorem dX11_feed_52 : decode cX11_feed 52 = .ok (.invokevirtual 113, 3) := by decide +kernel
theorem dX11_feed_55 : decode cX11_feed 55 = .ok (.aload_n 0, 1) := by decide +kernel
theorem dX11_feed_56 : decode cX11_feed 56 = .ok (.getfield 37, 3) := by decide +kernel
theorem dX11_feed_59 : decode cX11_feed 59 = .ok (.invokevirtual 117, 3) := by decide +kernel
theorem dX11_feed_62 : decode cX11_feed 62 = .ok (.ireturn, 1) := by decide +kernel
set_option maxHeartbeats 4000000 in
set_option maxRecDepth 100000 in
theorem c_X11_judge (l : Launch) (G : GG) (x : Nat) (r : Nat → Nat) (t : Nat → Nat) (p0 : Int32) (p1 : Int32) : Mt l yX11_judge cX11_judge 3 (some .int) 3 0 0 G [.ref x, .int p0, .int p1] [(x, .inr (11, [.ref (r 0), .ref (r 1), .ref (r 2), .ref (r 3), .ref (r 4), .ref (r 5), .ref (r 6), .ref (r 7), .ref (r 8), .ref (r 9), .ref (r 10), .ref (r 11), .ref (r 12), .ref (r 13), .ref (r 14), .ref (r 15), .int 0, .int 0, .int 0])), (r 9, .inl (G.2 6, 4, .inr (.inr (.inr (.inr (trF t)))))), (t 0, .inr (10, [.ref (t 4), .int 0, .int (-1)])), (t 1, .inr (10, [.ref (t 5), .int 0, .int (-1)])), (t 2, .inr (10, [.ref (t 6), .int 0, .int (-1)])), (t 3, .inr (10, [.ref (t 7), .int 0, .int (-1)])), (r 14, .inl (G.2 1, 4, .inl (fun _ => 0)))] (Ri (S := Unit) G (fun r _ => r = sp_judge p0 p1) (fun _ => [])) := by
  refine Mt.start (by decide) (Nat.le_of_ble_eq_true rfl) ?_
  intro p e s m below meth c A ls C0 hini h hl
  have C0 : Cx p s m _ meth c RX11 cX11_judge 3 (some .int) := C0
  obtain ⟨hx, hb, hml, hown, hts, -⟩ := id C0
  have hl : lv_has ls 3 [(0, .ref x), (1, .int p0), (2, .int p1)] := hl
  refine lv_iload_n hx hb dX11_judge_0 rfl (lv_at hl 1 rfl) ?_
  refine m_cli (wr := [(x, .inr (11, [.ref (r 0), .ref (r 1), .ref (r 2), .ref (r 3), .ref (r 4), .ref (r 5), .ref (r 6), .ref (r 7), .ref (r 8), .ref (r 9), .ref (r 10), .ref (r 11), .ref (r 12), .ref (r 13), .ref (r 14), .ref (r 15), .int 0, .int 0, .int 0])), (r 9, .inl (G.2 6, 4, .inr (.inr (.inr (.inr (trF t)))))), (t 0, .inr (10, [.ref (t 4), .int 0, .int (-1)])), (t 1, .inr (10, [.ref (t 5), .int 0, .int (-1)])), (t 2, .inr (10, [.ref (t 6), .int 0, .int (-1)])), (t 3, .inr (10, [.ref (t 7), .int 0, .int (-1)])), (r 14, .inl (G.2 1, 4, .inl (fun _ => 0)))]) h (m_rS (As := [.int p0]) (rest := []) C0 h (c_X11_isTray l G p0) k_X11_isTray q_998 q_997 [] (by decide) rfl hl.1 rfl rfl (Nat.le_of_ble_eq_true rfl) dX11_judge_1 ⟨Nat.le_of_ble_eq_true rfl, Nat.le_of_ble_eq_true rfl⟩ ⟨Nat.le_of_ble_eq_true rfl, Nat.le_of_ble_eq_true rfl⟩) [] [0, 1, 2, 3, 4, 5, 6] rfl rfl (by decide) (by decide) (fun r_3 u_1 H locs hp_2 h => ?_)
  have h : Wd G A s _ _ [(x, .inr (11, [.ref (r 0), .ref (r 1), .ref (r 2), .ref (r 3), .ref (r 4), .ref (r 5), .ref (r 6), .ref (r 7), .ref (r 8), .ref (r 9), .ref (r 10), .ref (r 11), .ref (r 12), .ref (r 13), .ref (r 14), .ref (r 15), .int 0, .int 0, .int 0])), (r 9, .inl (G.2 6, 4, .inr (.inr (.inr (.inr (trF t)))))), (t 0, .inr (10, [.ref (t 4), .int 0, .int (-1)])), (t 1, .inr (10, [.ref (t 5), .int 0, .int (-1)])), (t 2, .inr (10, [.ref (t 6), .int 0, .int (-1)])), (t 3, .inr (10, [.ref (t 7), .int 0, .int (-1)])), (r 14, .inl (G.2 1, 4, .inl (fun _ => 0)))] := h
  rcases hp_2 with ⟨rfl, hp_2w⟩ | ⟨rfl, hp_2w⟩
  · -- answer 1
    refine lv_if_eq (tgt := 20) hx hb dX11_judge_4 (by decide) (fun c_4 => absurd c_4 (by decide)) (fun c_4 => ?_)
    refine lv_iload_n hx hb dX11_judge_7 rfl (lv_at hl 2 rfl) ?_
    refine lv_if_lt (tgt := 20) hx hb dX11_judge_8 (by decide) (fun c_5 => ?_) (fun c_5 => ?_)
    · -- 8 p1 < 0
      refine lv_bipush (v := (-2)) hx hb dX11_judge_20 (by decide) ?_
      exact m_iret () C0 h [] (by decide) rfl (by unfold sp_judge; grind) (Nat.le_of_ble_eq_true rfl) (Nat.le_of_ble_eq_true rfl) dX11_judge_22
    · -- 8 ¬ p1 < 0
      refine lv_iload_n hx hb dX11_judge_11 rfl (lv_at hl 2 rfl) ?_
      refine lv_aload_n hx hb dX11_judge_12 rfl (lv_at hl 0 rfl) ?_
      refine g_X11_walked C0 h 0 q_529 rfl rfl dX11_judge_13 ?_
      refine m_alen (v := 4) C0 h 6 1 rfl rfl rfl dX11_judge_16 ?_
      refine lv_icmp_lt (tgt := 23) hx hb dX11_judge_17 (by decide) (fun c_6 => ?_) (fun c_6 => ?_)
      · -- 17 p1 < 4
        refine lv_aload_n hx hb dX11_judge_23 rfl (lv_at hl 0 rfl) ?_
        refine g_X11_trays C0 h 0 q_524 rfl rfl dX11_judge_24 ?_
        refine lv_iload_n hx hb dX11_judge_27 rfl (lv_at hl 1 rfl) ?_
        rcases (in4 hp_2w.1 hp_2w.2) with rfl | rfl | rfl | rfl
        · -- p0 = 0
          refine m_aald C0 h 1 6 0 rfl rfl (by decide) (by decide) (by decide) dX11_judge_28 ?_
          refine W.eq (g2 := F0 m 29 ls [.ref (t 0)]) rfl ?_
          refine g_X10_size C0 h 2 q_502 rfl rfl dX11_judge_29 ?_
          refine lv_if_ge (tgt := 38) hx hb dX11_judge_32 (by decide) (fun c_7 => absurd c_7 (by decide)) (fun c_7 => ?_)
          refine lv_bipush (v := (-6)) hx hb dX11_judge_35 (by decide) ?_
          exact m_iret () C0 h [] (by decide) rfl (by unfold sp_judge; grind) (Nat.le_of_ble_eq_true rfl) (Nat.le_of_ble_eq_true rfl) dX11_judge_37
        · -- p0 = 1
          refine m_aald C0 h 1 6 1 rfl rfl (by decide) (by decide) (by decide) dX11_judge_28 ?_
          refine W.eq (g2 := F0 m 29 ls [.ref (t 1)]) rfl ?_
          refine g_X10_size C0 h 3 q_502 rfl rfl dX11_judge_29 ?_
          refine lv_if_ge (tgt := 38) hx hb dX11_judge_32 (by decide) (fun c_8 => absurd c_8 (by decide)) (fun c_8 => ?_)
          refine lv_bipush (v := (-6)) hx hb dX11_judge_35 (by decide) ?_
          exact m_iret () C0 h [] (by decide) rfl (by unfold sp_judge; grind) (Nat.le_of_ble_eq_true rfl) (Nat.le_of_ble_eq_true rfl) dX11_judge_37
        · -- p0 = 2
          refine m_aald C0 h 1 6 2 rfl rfl (by decide) (by decide) (by decide) dX11_judge_28 ?_
          refine W.eq (g2 := F0 m 29 ls [.ref (t 2)]) rfl ?_
          refine g_X10_size C0 h 4 q_502 rfl rfl dX11_judge_29 ?_
          refine lv_if_ge (tgt := 38) hx hb dX11_judge_32 (by decide) (fun c_9 => absurd c_9 (by decide)) (fun c_9 => ?_)
          refine lv_bipush (v := (-6)) hx hb dX11_judge_35 (by decide) ?_
          exact m_iret () C0 h [] (by decide) rfl (by unfold sp_judge; grind) (Nat.le_of_ble_eq_true rfl) (Nat.le_of_ble_eq_true rfl) dX11_judge_37
        · -- p0 = 3
          refine m_aald C0 h 1 6 3 rfl rfl (by decide) (by decide) (by decide) dX11_judge_28 ?_
          refine W.eq (g2 := F0 m 29 ls [.ref (t 3)]) rfl ?_
          refine g_X10_size C0 h 5 q_502 rfl rfl dX11_judge_29 ?_
          refine lv_if_ge (tgt := 38) hx hb dX11_judge_32 (by decide) (fun c_10 => absurd c_10 (by decide)) (fun c_10 => ?_)
          refine lv_bipush (v := (-6)) hx hb dX11_judge_35 (by decide) ?_
          exact m_iret () C0 h [] (by decide) rfl (by unfold sp_judge; grind) (Nat.le_of_ble_eq_true rfl) (Nat.le_of_ble_eq_true rfl) dX11_judge_37
      · -- 17 ¬ p1 < 4
        refine lv_bipush (v := (-2)) hx hb dX11_judge_20 (by decide) ?_
        exact m_iret () C0 h [] (by decide) rfl (by unfold sp_judge; grind) (Nat.le_of_ble_eq_true rfl) (Nat.le_of_ble_eq_true rfl) dX11_judge_22
  · -- answer 0
    refine lv_if_eq (tgt := 20) hx hb dX11_judge_4 (by decide) (fun c_11 => ?_) (fun c_11 => absurd c_11 (by decide))
    refine lv_bipush (v := (-2)) hx hb dX11_judge_20 (by decide) ?_
    exact m_iret () C0 h [] (by decide) rfl (by unfold sp_judge; grind) (Nat.le_of_ble_eq_true rfl) (Nat.le_of_ble_eq_true rfl) dX11_judge_22
set_option maxHeartbeats 4000000 in
set_option maxRecDepth 100000 in
theorem c_X11_walk (l : Launch) (G : GG) (x : Nat) (r : Nat → Nat) (t : Nat → Nat) (p0 : Int32) : Mt l yX11_walk cX11_walk 3 (some .int) 3 0 0 G [.ref x, .int p0] [(x, .inr (11, [.ref (r 0), .ref (r 1), .ref (r 2), .ref (r 3), .ref (r 4), .ref (r 5), .ref (r 6), .ref (r 7), .ref (r 8), .ref (r 9), .ref (r 10), .ref (r 11), .ref (r 12), .ref (r 13), .ref (r 14), .ref (r 15), .int 0, .int 0, .int 0])), (r 9, .inl (G.2 6, 4, .inr (.inr (.inr (.inr (trF t)))))), (t 0, .inr (10, [.ref (t 4), .int 0, .int (-1)])), (t 1, .inr (10, [.ref (t 5), .int 0, .int (-1)])), (t 2, .inr (10, [.ref (t 6), .int 0, .int (-1)])), (t 3, .inr (10, [.ref (t 7), .int 0, .int (-1)]))] (Ri (S := Unit) G (fun r _ => r = sp_tray p0) (fun _ => [])) := by
  refine Mt.start (by decide) (Nat.le_of_ble_eq_true rfl) ?_
  intro p e s m below meth c A ls C0 hini h hl
  have C0 : Cx p s m _ meth c RX11 cX11_walk 3 (some .int) := C0
  obtain ⟨hx, hb, hml, hown, hts, -⟩ := id C0
  have hl : lv_has ls 3 [(0, .ref x), (1, .int p0)] := hl
  refine lv_iload_n hx hb dX11_walk_0 rfl (lv_at hl 1 rfl) ?_
  refine m_cli (wr := [(x, .inr (11, [.ref (r 0), .ref (r 1), .ref (r 2), .ref (r 3), .ref (r 4), .ref (r 5), .ref (r 6), .ref (r 7), .ref (r 8), .ref (r 9), .ref (r 10), .ref (r 11), .ref (r 12), .ref (r 13), .ref (r 14), .ref (r 15), .int 0, .int 0, .int 0])), (r 9, .inl (G.2 6, 4, .inr (.inr (.inr (.inr (trF t)))))), (t 0, .inr (10, [.ref (t 4), .int 0, .int (-1)])), (t 1, .inr (10, [.ref (t 5), .int 0, .int (-1)])), (t 2, .inr (10, [.ref (t 6), .int 0, .int (-1)])), (t 3, .inr (10, [.ref (t 7), .int 0, .int (-1)]))]) h (m_rS (As := [.int p0]) (rest := []) C0 h (c_X11_isTray l G p0) k_X11_isTray q_998 q_997 [] (by decide) rfl hl.1 rfl rfl (Nat.le_of_ble_eq_true rfl) dX11_walk_1 ⟨Nat.le_of_ble_eq_true rfl, Nat.le_of_ble_eq_true rfl⟩ ⟨Nat.le_of_ble_eq_true rfl, Nat.le_of_ble_eq_true rfl⟩) [] [0, 1, 2, 3, 4, 5] rfl rfl (by decide) (by decide) (fun r_3 u_1 H locs hp_2 h => ?_)
  have h : Wd G A s _ _ [(x, .inr (11, [.ref (r 0), .ref (r 1), .ref (r 2), .ref (r 3), .ref (r 4), .ref (r 5), .ref (r 6), .ref (r 7), .ref (r 8), .ref (r 9), .ref (r 10), .ref (r 11), .ref (r 12), .ref (r 13), .ref (r 14), .ref (r 15), .int 0, .int 0, .int 0])), (r 9, .inl (G.2 6, 4, .inr (.inr (.inr (.inr (trF t)))))), (t 0, .inr (10, [.ref (t 4), .int 0, .int (-1)])), (t 1, .inr (10, [.ref (t 5), .int 0, .int (-1)])), (t 2, .inr (10, [.ref (t 6), .int 0, .int (-1)])), (t 3, .inr (10, [.ref (t 7), .int 0, .int (-1)]))] := h
  rcases hp_2 with ⟨rfl, hp_2w⟩ | ⟨rfl, hp_2w⟩
  · -- answer 1
    refine lv_if_ne (tgt := 10) hx hb dX11_walk_4 (by decide) (fun c_4 => ?_) (fun c_4 => absurd c_4 (by decide))
    refine lv_aload_n hx hb dX11_walk_10 rfl (lv_at hl 0 rfl) ?_
    refine g_X11_trays C0 h 0 q_524 rfl rfl dX11_walk_11 ?_
    refine lv_iload_n hx hb dX11_walk_14 rfl (lv_at hl 1 rfl) ?_
    rcases (in4 hp_2w.1 hp_2w.2) with rfl | rfl | rfl | rfl
    · -- p0 = 0
      refine m_aald C0 h 1 6 0 rfl rfl (by decide) (by decide) (by decide) dX11_walk_15 ?_
      refine W.eq (g2 := F0 m 16 ls [.ref (t 0)]) rfl ?_
      refine g_X10_size C0 h 2 q_502 rfl rfl dX11_walk_16 ?_
      refine lv_if_ge (tgt := 25) hx hb dX11_walk_19 (by decide) (fun c_5 => absurd c_5 (by decide)) (fun c_5 => ?_)
      refine lv_bipush (v := (-6)) hx hb dX11_walk_22 (by decide) ?_
      exact m_iret () C0 h [] (by decide) rfl (by unfold sp_tray; grind) (Nat.le_of_ble_eq_true rfl) (Nat.le_of_ble_eq_true rfl) dX11_walk_24
    · -- p0 = 1
      refine m_aald C0 h 1 6 1 rfl rfl (by decide) (by decide) (by decide) dX11_walk_15 ?_
      refine W.eq (g2 := F0 m 16 ls [.ref (t 1)]) rfl ?_
      refine g_X10_size C0 h 3 q_502 rfl rfl dX11_walk_16 ?_
      refine lv_if_ge (tgt := 25) hx hb dX11_walk_19 (by decide) (fun c_6 => absurd c_6 (by decide)) (fun c_6 => ?_)
      refine lv_bipush (v := (-6)) hx hb dX11_walk_22 (by decide) ?_
      exact m_iret () C0 h [] (by decide) rfl (by unfold sp_tray; grind) (Nat.le_of_ble_eq_true rfl) (Nat.le_of_ble_eq_true rfl) dX11_walk_24
    · -- p0 = 2
      refine m_aald C0 h 1 6 2 rfl rfl (by decide) (by decide) (by decide) dX11_walk_15 ?_
      refine W.eq (g2 := F0 m 16 ls [.ref (t 2)]) rfl ?_
      refine g_X10_size C0 h 4 q_502 rfl rfl dX11_walk_16 ?_
      refine lv_if_ge (tgt := 25) hx hb dX11_walk_19 (by decide) (fun c_7 => absurd c_7 (by decide)) (fun c_7 => ?_)
      refine lv_bipush (v := (-6)) hx hb dX11_walk_22 (by decide) ?_
      exact m_iret () C0 h [] (by decide) rfl (by unfold sp_tray; grind) (Nat.le_of_ble_eq_true rfl) (Nat.le_of_ble_eq_true rfl) dX11_walk_24
    · -- p0 = 3
      refine m_aald C0 h 1 6 3 rfl rfl (by decide) (by decide) (by decide) dX11_walk_15 ?_
      refine W.eq (g2 := F0 m 16 ls [.ref (t 3)]) rfl ?_
      refine g_X10_size C0 h 5 q_502 rfl rfl dX11_walk_16 ?_
      refine lv_if_ge (tgt := 25) hx hb dX11_walk_19 (by decide) (fun c_8 => absurd c_8 (by decide)) (fun c_8 => ?_)
      refine lv_bipush (v := (-6)) hx hb dX11_walk_22 (by decide) ?_
      exact m_iret () C0 h [] (by decide) rfl (by unfold sp_tray; grind) (Nat.le_of_ble_eq_true rfl) (Nat.le_of_ble_eq_true rfl) dX11_walk_24
  · -- answer 0
    refine lv_if_ne (tgt := 10) hx hb dX11_walk_4 (by decide) (fun c_9 => absurd c_9 (by decide)) (fun c_9 => ?_)
    refine lv_bipush (v := (-2)) hx hb dX11_walk_7 (by decide) ?_
    exact m_iret () C0 h [] (by decide) rfl (by unfold sp_tray; grind) (Nat.le_of_ble_eq_true rfl) (Nat.le_of_ble_eq_true rfl) dX11_walk_9
set_option maxHeartbeats 4000000 in
set_option maxRecDepth 100000 in
theorem c_X11_write (l : Launch) (G : GG) (x : Nat) (r : Nat → Nat) (t : Nat → Nat) (p0 : Int32) (p1 : Int32) (p2 : Int64) : Mt l yX11_write cX11_write 6 (some .long) 3 0 0 G [.ref x, .int p0, .int p1, .long p2] [(x, .inr (11, [.ref (r 0), .ref (r 1), .ref (r 2), .ref (r 3), .ref (r 4), .ref (r 5), .ref (r 6), .ref (r 7), .ref (r 8), .ref (r 9), .ref (r 10), .ref (r 11), .ref (r 12), .ref (r 13), .ref (r 14), .ref (r 15), .int 0, .int 0, .int 0])), (r 9, .inl (G.2 6, 4, .inr (.inr (.inr (.inr (trF t)))))), (t 0, .inr (10, [.ref (t 4), .int 0, .int (-1)])), (t 1, .inr (10, [.ref (t 5), .int 0, .int (-1)])), (t 2, .inr (10, [.ref (t 6), .int 0, .int (-1)])), (t 3, .inr (10, [.ref (t 7), .int 0, .int (-1)]))] (Rl (S := Unit) G (fun r _ => r = sp_trayL p0) (fun _ => [])) := by
  refine Mt.start (by decide) (Nat.le_of_ble_eq_true rfl) ?_
  intro p e s m below meth c A ls C0 hini h hl
  have C0 : Cx p s m _ meth c RX11 cX11_write 6 (some .long) := C0
  obtain ⟨hx, hb, hml, hown, hts, -⟩ := id C0
  have hl : lv_has ls 6 [(0, .ref x), (1, .int p0), (2, .int p1), (3, .long p2)] := hl
  refine lv_iload_n hx hb dX11_write_0 rfl (lv_at hl 1 rfl) ?_
  refine m_cli (wr := [(x, .inr (11, [.ref (r 0), .ref (r 1), .ref (r 2), .ref (r 3), .ref (r 4), .ref (r 5), .ref (r 6), .ref (r 7), .ref (r 8), .ref (r 9), .ref (r 10), .ref (r 11), .ref (r 12), .ref (r 13), .ref (r 14), .ref (r 15), .int 0, .int 0, .int 0])), (r 9, .inl (G.2 6, 4, .inr (.inr (.inr (.inr (trF t)))))), (t 0, .inr (10, [.ref (t 4), .int 0, .int (-1)])), (t 1, .inr (10, [.ref (t 5), .int 0, .int (-1)])), (t 2, .inr (10, [.ref (t 6), .int 0, .int (-1)])), (t 3, .inr (10, [.ref (t 7), .int 0, .int (-1)]))]) h (m_rS (As := [.int p0]) (rest := []) C0 h (c_X11_isTray l G p0) k_X11_isTray q_998 q_997 [] (by decide) rfl hl.1 rfl rfl (Nat.le_of_ble_eq_true rfl) dX11_write_1 ⟨Nat.le_of_ble_eq_true rfl, Nat.le_of_ble_eq_true rfl⟩ ⟨Nat.le_of_ble_eq_true rfl, Nat.le_of_ble_eq_true rfl⟩) [] [0, 1, 2, 3, 4, 5] rfl rfl (by decide) (by decide) (fun r_3 u_1 H locs hp_2 h => ?_)
  have h : Wd G A s _ _ [(x, .inr (11, [.ref (r 0), .ref (r 1), .ref (r 2), .ref (r 3), .ref (r 4), .ref (r 5), .ref (r 6), .ref (r 7), .ref (r 8), .ref (r 9), .ref (r 10), .ref (r 11), .ref (r 12), .ref (r 13), .ref (r 14), .ref (r 15), .int 0, .int 0, .int 0])), (r 9, .inl (G.2 6, 4, .inr (.inr (.inr (.inr (trF t)))))), (t 0, .inr (10, [.ref (t 4), .int 0, .int (-1)])), (t 1, .inr (10, [.ref (t 5), .int 0, .int (-1)])), (t 2, .inr (10, [.ref (t 6), .int 0, .int (-1)])), (t 3, .inr (10, [.ref (t 7), .int 0, .int (-1)]))] := h
  rcases hp_2 with ⟨rfl, hp_2w⟩ | ⟨rfl, hp_2w⟩
  · -- answer 1
    refine lv_if_ne (tgt := 11) hx hb dX11_write_4 (by decide) (fun c_4 => ?_) (fun c_4 => absurd c_4 (by decide))
    refine lv_aload_n hx hb dX11_write_11 rfl (lv_at hl 0 rfl) ?_
    refine g_X11_trays C0 h 0 q_524 rfl rfl dX11_write_12 ?_
    refine lv_iload_n hx hb dX11_write_15 rfl (lv_at hl 1 rfl) ?_
    rcases (in4 hp_2w.1 hp_2w.2) with rfl | rfl | rfl | rfl
    · -- p0 = 0
      refine m_aald C0 h 1 6 0 rfl rfl (by decide) (by decide) (by decide) dX11_write_16 ?_
      refine W.eq (g2 := F0 m 17 ls [.ref (t 0)]) rfl ?_
      refine lv_astore (lv' := [(5, .ref (t 0)), (0, .ref x), (1, .int 0), (2, .int p1), (3, .long p2)]) hx hb dX11_write_17 hl (by decide) rfl (fun ls hl => ?_)
      refine lv_aload hx hb dX11_write_19 (lv_at hl 0 rfl) ?_
      refine g_X10_size C0 h 2 q_502 rfl rfl dX11_write_21 ?_
      refine lv_if_ge (tgt := 31) hx hb dX11_write_24 (by decide) (fun c_5 => absurd c_5 (by decide)) (fun c_5 => ?_)
      refine lv_ldc2 (v := (-6)) hx hb hown (hts _ q_1398) dX11_write_27 ?_
      exact m_lret () C0 h [] (by decide) rfl (by unfold sp_trayL; grind) (Nat.le_of_ble_eq_true rfl) (Nat.le_of_ble_eq_true rfl) dX11_write_30
    · -- p0 = 1
      refine m_aald C0 h 1 6 1 rfl rfl (by decide) (by decide) (by decide) dX11_write_16 ?_
      refine W.eq (g2 := F0 m 17 ls [.ref (t 1)]) rfl ?_
      refine lv_astore (lv' := [(5, .ref (t 1)), (0, .ref x), (1, .int 1), (2, .int p1), (3, .long p2)]) hx hb dX11_write_17 hl (by decide) rfl (fun ls hl => ?_)
      refine lv_aload hx hb dX11_write_19 (lv_at hl 0 rfl) ?_
      refine g_X10_size C0 h 3 q_502 rfl rfl dX11_write_21 ?_
      refine lv_if_ge (tgt := 31) hx hb dX11_write_24 (by decide) (fun c_6 => absurd c_6 (by decide)) (fun c_6 => ?_)
      refine lv_ldc2 (v := (-6)) hx hb hown (hts _ q_1398) dX11_write_27 ?_
      exact m_lret () C0 h [] (by decide) rfl (by unfold sp_trayL; grind) (Nat.le_of_ble_eq_true rfl) (Nat.le_of_ble_eq_true rfl) dX11_write_30
    · -- p0 = 2
      refine m_aald C0 h 1 6 2 rfl rfl (by decide) (by decide) (by decide) dX11_write_16 ?_
      refine W.eq (g2 := F0 m 17 ls [.ref (t 2)]) rfl ?_
      refine lv_astore (lv' := [(5, .ref (t 2)), (0, .ref x), (1, .int 2), (2, .int p1), (3, .long p2)]) hx hb dX11_write_17 hl (by decide) rfl (fun ls hl => ?_)
      refine lv_aload hx hb dX11_write_19 (lv_at hl 0 rfl) ?_
      refine g_X10_size C0 h 4 q_502 rfl rfl dX11_write_21 ?_
      refine lv_if_ge (tgt := 31) hx hb dX11_write_24 (by decide) (fun c_7 => absurd c_7 (by decide)) (fun c_7 => ?_)
      refine lv_ldc2 (v := (-6)) hx hb hown (hts _ q_1398) dX11_write_27 ?_
      exact m_lret () C0 h [] (by decide) rfl (by unfold sp_trayL; grind) (Nat.le_of_ble_eq_true rfl) (Nat.le_of_ble_eq_true rfl) dX11_write_30
    · -- p0 = 3
      refine m_aald C0 h 1 6 3 rfl rfl (by decide) (by decide) (by decide) dX11_write_16 ?_
      refine W.eq (g2 := F0 m 17 ls [.ref (t 3)]) rfl ?_
      refine lv_astore (lv' := [(5, .ref (t 3)), (0, .ref x), (1, .int 3), (2, .int p1), (3, .long p2)]) hx hb dX11_write_17 hl (by decide) rfl (fun ls hl => ?_)
      refine lv_aload hx hb dX11_write_19 (lv_at hl 0 rfl) ?_
      refine g_X10_size C0 h 5 q_502 rfl rfl dX11_write_21 ?_
      refine lv_if_ge (tgt := 31) hx hb dX11_write_24 (by decide) (fun c_8 => absurd c_8 (by decide)) (fun c_8 => ?_)
      refine lv_ldc2 (v := (-6)) hx hb hown (hts _ q_1398) dX11_write_27 ?_
      exact m_lret () C0 h [] (by decide) rfl (by unfold sp_trayL; grind) (Nat.le_of_ble_eq_true rfl) (Nat.le_of_ble_eq_true rfl) dX11_write_30
  · -- answer 0
    refine lv_if_ne (tgt := 11) hx hb dX11_write_4 (by decide) (fun c_9 => absurd c_9 (by decide)) (fun c_9 => ?_)
    refine lv_ldc2 (v := (-2)) hx hb hown (hts _ q_1229) dX11_write_7 ?_
    exact m_lret () C0 h [] (by decide) rfl (by unfold sp_trayL; grind) (Nat.le_of_ble_eq_true rfl) (Nat.le_of_ble_eq_true rfl) dX11_write_10
set_option maxHeartbeats 4000000 in
set_option maxRecDepth 100000 in
theorem c_X10_lay (l : Launch) (G : GG) (a : Nat) (b : Nat) (so : Int32) (sz : Int32) (p0 : Int32) (p1 : Int32) : Mt l yX10_lay cX10_lay 3 none 2 0 0 G [.ref a, .int p0, .int p1] [(a, .inr (10, [.ref b, .int so, .int sz])), (b, .inl (G.2 2, 40, .inr (.inl (fun _ => 0))))] (Rv (S := Unit) G (fun _ => True) (fun _ => [])) := by
  refine Mt.start (by decide) (Nat.le_of_ble_eq_true rfl) ?_
  intro p e s m below meth c A ls C0 hini h hl
  have C0 : Cx p s m _ meth c RX10 cX10_lay 3 none := C0
  obtain ⟨hx, hb, hml, hown, hts, -⟩ := id C0
  have hl : lv_has ls 3 [(0, .ref a), (1, .int p0), (2, .int p1)] := hl
  refine lv_aload_n hx hb dX10_lay_0 rfl (lv_at hl 0 rfl) ?_
  refine g_X10_values C0 h 0 q_498 rfl rfl dX10_lay_1 ?_
  refine lv_lconst (v := 0) hx hb dX10_lay_4 (by decide) ?_
  refine m_clv (wr := [(a, .inr (10, [.ref b, .int so, .int sz]))]) h (m_rS (As := [.ref b, .long 0]) (rest := []) C0 h (c_J7_fill_d0a16 l G b 40 (fun _ => 0) 0 (by decide)) k_J7_fill_d0a16 q_1392 q_1391 [1] (by decide) rfl hl.1 rfl rfl (Nat.le_of_ble_eq_true rfl) dX10_lay_5 ⟨Nat.le_of_ble_eq_true rfl, Nat.le_of_ble_eq_true rfl⟩ ⟨Nat.le_of_ble_eq_true rfl, Nat.le_of_ble_eq_true rfl⟩) [1] [0] rfl rfl (by decide) (by decide) (fun u_1 H locs hp_2 h => ?_)
  have h : Wd G A s _ _ [(a, .inr (10, [.ref b, .int so, .int sz])), (b, .inl (G.2 2, 40, .inr (.inl u_1)))] := h
  refine lv_aload_n hx hb dX10_lay_8 rfl (lv_at hl 0 rfl) ?_
  refine lv_iload_n hx hb dX10_lay_9 rfl (lv_at hl 1 rfl) ?_
  refine p_X10_sort (ws' := [(a, .inr (10, [.ref b, .int p0, .int sz])), (b, .inl (G.2 2, 40, .inr (.inl u_1)))]) C0 h 0 q_499 rfl (Nat.le_of_ble_eq_true rfl) rfl rfl rfl dX10_lay_10 (fun H locs h => ?_)
  refine lv_aload_n hx hb dX10_lay_13 rfl (lv_at hl 0 rfl) ?_
  refine lv_iload_n hx hb dX10_lay_14 rfl (lv_at hl 2 rfl) ?_
  refine p_X10_size (ws' := [(a, .inr (10, [.ref b, .int p0, .int p1])), (b, .inl (G.2 2, 40, .inr (.inl u_1)))]) C0 h 0 q_500 rfl (Nat.le_of_ble_eq_true rfl) rfl rfl rfl dX10_lay_15 (fun H locs h => ?_)
  exact m_vret () C0 h [] (by decide) rfl trivial (Nat.le_of_ble_eq_true rfl) (Nat.le_of_ble_eq_true rfl) dX10_lay_18
set_option maxHeartbeats 4000000 in
set_option maxRecDepth 100000 in
theorem c_X11_numbers (l : Launch) (G : GG) (x : Nat) (r : Nat → Nat) (t : Nat → Nat) (p0 : Int32) (p1 : Int32) (p2 : Int32) : Mt l yX11_numbers cX11_numbers 4 (some .int) 3 0 0 G [.ref x, .int p0, .int p1, .int p2] [(x, .inr (11, [.ref (r 0), .ref (r 1), .ref (r 2), .ref (r 3), .ref (r 4), .ref (r 5), .ref (r 6), .ref (r 7), .ref (r 8), .ref (r 9), .ref (r 10), .ref (r 11), .ref (r 12), .ref (r 13), .ref (r 14), .ref (r 15), .int 0, .int 0, .int 0])), (r 9, .inl (G.2 6, 4, .inr (.inr (.inr (.inr (trF t)))))), (t 0, .inr (10, [.ref (t 4), .int 0, .int (-1)])), (t 1, .inr (10, [.ref (t 5), .int 0, .int (-1)])), (t 2, .inr (10, [.ref (t 6), .int 0, .int (-1)])), (t 3, .inr (10, [.ref (t 7), .int 0, .int (-1)])), (t 4, .inl (G.2 2, 40, .inr (.inl (fun _ => 0)))), (t 5, .inl (G.2 2, 40, .inr (.inl (fun _ => 0)))), (t 6, .inl (G.2 2, 40, .inr (.inl (fun _ => 0)))), (t 7, .inl (G.2 2, 40, .inr (.inl (fun _ => 0))))] (Ri (S := Unit) G (fun r _ => r = sp_numbers p0 p1 p2) (fun _ => [])) := by
  refine Mt.start (by decide) (Nat.le_of_ble_eq_true rfl) ?_
  intro p e s m below meth c A ls C0 hini h hl
  have C0 : Cx p s m _ meth c RX11 cX11_numbers 4 (some .int) := C0
  obtain ⟨hx, hb, hml, hown, hts, -⟩ := id C0
  have hl : lv_has ls 4 [(0, .ref x), (1, .int p0), (2, .int p1), (3, .int p2)] := hl
  refine lv_iload_n hx hb dX11_numbers_0 rfl (lv_at hl 1 rfl) ?_
  refine m_cli (wr := [(x, .inr (11, [.ref (r 0), .ref (r 1), .ref (r 2), .ref (r 3), .ref (r 4), .ref (r 5), .ref (r 6), .ref (r 7), .ref (r 8), .ref (r 9), .ref (r 10), .ref (r 11), .ref (r 12), .ref (r 13), .ref (r 14), .ref (r 15), .int 0, .int 0, .int 0])), (r 9, .inl (G.2 6, 4, .inr (.inr (.inr (.inr (trF t)))))), (t 0, .inr (10, [.ref (t 4), .int 0, .int (-1)])), (t 1, .inr (10, [.ref (t 5), .int 0, .int (-1)])), (t 2, .inr (10, [.ref (t 6), .int 0, .int (-1)])), (t 3, .inr (10, [.ref (t 7), .int 0, .int (-1)])), (t 4, .inl (G.2 2, 40, .inr (.inl (fun _ => 0)))), (t 5, .inl (G.2 2, 40, .inr (.inl (fun _ => 0)))), (t 6, .inl (G.2 2, 40, .inr (.inl (fun _ => 0)))), (t 7, .inl (G.2 2, 40, .inr (.inl (fun _ => 0))))]) h (m_rS (As := [.int p0]) (rest := []) C0 h (c_X11_isTray l G p0) k_X11_isTray q_998 q_997 [] (by decide) rfl hl.1 rfl rfl (Nat.le_of_ble_eq_true rfl) dX11_numbers_1 ⟨Nat.le_of_ble_eq_true rfl, Nat.le_of_ble_eq_true rfl⟩ ⟨Nat.le_of_ble_eq_true rfl, Nat.le_of_ble_eq_true rfl⟩) [] [0, 1, 2, 3, 4, 5, 6, 7, 8, 9] rfl rfl (by decide) (by decide) (fun r_3 u_1 H locs hp_2 h => ?_)
  have h : Wd G A s _ _ [(x, .inr (11, [.ref (r 0), .ref (r 1), .ref (r 2), .ref (r 3), .ref (r 4), .ref (r 5), .ref (r 6), .ref (r 7), .ref (r 8), .ref (r 9), .ref (r 10), .ref (r 11), .ref (r 12), .ref (r 13), .ref (r 14), .ref (r 15), .int 0, .int 0, .int 0])), (r 9, .inl (G.2 6, 4, .inr (.inr (.inr (.inr (trF t)))))), (t 0, .inr (10, [.ref (t 4), .int 0, .int (-1)])), (t 1, .inr (10, [.ref (t 5), .int 0, .int (-1)])), (t 2, .inr (10, [.ref (t 6), .int 0, .int (-1)])), (t 3, .inr (10, [.ref (t 7), .int 0, .int (-1)])), (t 4, .inl (G.2 2, 40, .inr (.inl (fun _ => 0)))), (t 5, .inl (G.2 2, 40, .inr (.inl (fun _ => 0)))), (t 6, .inl (G.2 2, 40, .inr (.inl (fun _ => 0)))), (t 7, .inl (G.2 2, 40, .inr (.inl (fun _ => 0))))] := h
  rcases hp_2 with ⟨rfl, hp_2w⟩ | ⟨rfl, hp_2w⟩
  · -- answer 1
    refine lv_if_eq (tgt := 16) hx hb dX11_numbers_4 (by decide) (fun c_4 => absurd c_4 (by decide)) (fun c_4 => ?_)
    refine lv_iload_n hx hb dX11_numbers_7 rfl (lv_at hl 2 rfl) ?_
    refine lv_if_lt (tgt := 16) hx hb dX11_numbers_8 (by decide) (fun c_5 => ?_) (fun c_5 => ?_)
    · -- 8 p1 < 0
      refine lv_bipush (v := (-2)) hx hb dX11_numbers_16 (by decide) ?_
      exact m_iret () C0 h [] (by decide) rfl (by unfold sp_numbers; grind) (Nat.le_of_ble_eq_true rfl) (Nat.le_of_ble_eq_true rfl) dX11_numbers_18
    · -- 8 ¬ p1 < 0
      refine lv_iload_n hx hb dX11_numbers_11 rfl (lv_at hl 2 rfl) ?_
      refine lv_iconst (v := 3) hx hb dX11_numbers_12 (by decide) ?_
      refine lv_icmp_le (tgt := 19) hx hb dX11_numbers_13 (by decide) (fun c_6 => ?_) (fun c_6 => ?_)
      · -- 13 p1 ≤ 3
        refine lv_iload_n hx hb dX11_numbers_19 rfl (lv_at hl 3 rfl) ?_
        refine lv_if_lt (tgt := 29) hx hb dX11_numbers_20 (by decide) (fun c_7 => ?_) (fun c_7 => ?_)
        · -- 20 p2 < 0
          refine lv_bipush (v := (-3)) hx hb dX11_numbers_29 (by decide) ?_
          exact m_iret () C0 h [] (by decide) rfl (by unfold sp_numbers; grind) (Nat.le_of_ble_eq_true rfl) (Nat.le_of_ble_eq_true rfl) dX11_numbers_31
        · -- 20 ¬ p2 < 0
          refine lv_iload_n hx hb dX11_numbers_23 rfl (lv_at hl 3 rfl) ?_
          refine lv_bipush (v := 40) hx hb dX11_numbers_24 (by decide) ?_
          refine lv_icmp_le (tgt := 32) hx hb dX11_numbers_26 (by decide) (fun c_8 => ?_) (fun c_8 => ?_)
          · -- 26 p2 ≤ 40
            refine lv_aload_n hx hb dX11_numbers_32 rfl (lv_at hl 0 rfl) ?_
            refine g_X11_trays C0 h 0 q_524 rfl rfl dX11_numbers_33 ?_
            refine lv_iload_n hx hb dX11_numbers_36 rfl (lv_at hl 1 rfl) ?_
            rcases (in4 hp_2w.1 hp_2w.2) with rfl | rfl | rfl | rfl
            · -- p0 = 0
              refine m_aald C0 h 1 6 0 rfl rfl (by decide) (by decide) (by decide) dX11_numbers_37 ?_
              refine W.eq (g2 := F0 m 38 ls [.ref (t 0)]) rfl ?_
              refine lv_iload_n hx hb dX11_numbers_38 rfl (lv_at hl 2 rfl) ?_
              refine lv_iload_n hx hb dX11_numbers_39 rfl (lv_at hl 3 rfl) ?_
              refine m_clv (wr := [(x, .inr (11, [.ref (r 0), .ref (r 1), .ref (r 2), .ref (r 3), .ref (r 4), .ref (r 5), .ref (r 6), .ref (r 7), .ref (r 8), .ref (r 9), .ref (r 10), .ref (r 11), .ref (r 12), .ref (r 13), .ref (r 14), .ref (r 15), .int 0, .int 0, .int 0])), (r 9, .inl (G.2 6, 4, .inr (.inr (.inr (.inr (trF t)))))), (t 1, .inr (10, [.ref (t 5), .int 0, .int (-1)])), (t 2, .inr (10, [.ref (t 6), .int 0, .int (-1)])), (t 3, .inr (10, [.ref (t 7), .int 0, .int (-1)])), (t 5, .inl (G.2 2, 40, .inr (.inl (fun _ => 0)))), (t 6, .inl (G.2 2, 40, .inr (.inl (fun _ => 0)))), (t 7, .inl (G.2 2, 40, .inr (.inl (fun _ => 0))))]) h (m_rV (ci := 10) (q0 := 2) (As := [.int p1, .int p2]) (rest := []) C0 h (c_X10_lay l G (t 0) (t 4) 0 (-1) p1 p2) k_X10_lay q_1388 q_1389 q_1387 rfl rfl rfl [2, 6] (by decide) rfl hl.1 rfl rfl (Nat.le_of_ble_eq_true rfl) dX11_numbers_40 ⟨Nat.le_of_ble_eq_true rfl, Nat.le_of_ble_eq_true rfl⟩ ⟨Nat.le_of_ble_eq_true rfl, Nat.le_of_ble_eq_true rfl⟩) [2, 6] [0, 1, 3, 4, 5, 7, 8, 9] rfl rfl (by decide) (by decide) (fun u_9 H locs hp_10 h => ?_)
              have h : Wd G A s _ _ [(x, .inr (11, [.ref (r 0), .ref (r 1), .ref (r 2), .ref (r 3), .ref (r 4), .ref (r 5), .ref (r 6), .ref (r 7), .ref (r 8), .ref (r 9), .ref (r 10), .ref (r 11), .ref (r 12), .ref (r 13), .ref (r 14), .ref (r 15), .int 0, .int 0, .int 0])), (r 9, .inl (G.2 6, 4, .inr (.inr (.inr (.inr (trF t)))))), (t 1, .inr (10, [.ref (t 5), .int 0, .int (-1)])), (t 2, .inr (10, [.ref (t 6), .int 0, .int (-1)])), (t 3, .inr (10, [.ref (t 7), .int 0, .int (-1)])), (t 5, .inl (G.2 2, 40, .inr (.inl (fun _ => 0)))), (t 6, .inl (G.2 2, 40, .inr (.inl (fun _ => 0)))), (t 7, .inl (G.2 2, 40, .inr (.inl (fun _ => 0))))] := h
              refine lv_iconst (v := 0) hx hb dX11_numbers_43 (by decide) ?_
              exact m_iret () C0 h [] (by decide) rfl (by unfold sp_numbers; grind) (Nat.le_of_ble_eq_true rfl) (Nat.le_of_ble_eq_true rfl) dX11_numbers_44
            · -- p0 = 1
              refine m_aald C0 h 1 6 1 rfl rfl (by decide) (by decide) (by decide) dX11_numbers_37 ?_
              refine W.eq (g2 := F0 m 38 ls [.ref (t 1)]) rfl ?_
              refine lv_iload_n hx hb dX11_numbers_38 rfl (lv_at hl 2 rfl) ?_
              refine lv_iload_n hx hb dX11_numbers_39 rfl (lv_at hl 3 rfl) ?_
              refine m_clv (wr := [(x, .inr (11, [.ref (r 0), .ref (r 1), .ref (r 2), .ref (r 3), .ref (r 4), .ref (r 5), .ref (r 6), .ref (r 7), .ref (r 8), .ref (r 9), .ref (r 10), .ref (r 11), .ref (r 12), .ref (r 13), .ref (r 14), .ref (r 15), .int 0, .int 0, .int 0])), (r 9, .inl (G.2 6, 4, .inr (.inr (.inr (.inr (trF t)))))), (t 0, .inr (10, [.ref (t 4), .int 0, .int (-1)])), (t 2, .inr (10, [.ref (t 6), .int 0, .int (-1)])), (t 3, .inr (10, [.ref (t 7), .int 0, .int (-1)])), (t 4, .inl (G.2 2, 40, .inr (.inl (fun _ => 0)))), (t 6, .inl (G.2 2, 40, .inr (.inl (fun _ => 0)))), (t 7, .inl (G.2 2, 40, .inr (.inl (fun _ => 0))))]) h (m_rV (ci := 10) (q0 := 3) (As := [.int p1, .int p2]) (rest := []) C0 h (c_X10_lay l G (t 1) (t 5) 0 (-1) p1 p2) k_X10_lay q_1388 q_1389 q_1387 rfl rfl rfl [3, 7] (by decide) rfl hl.1 rfl rfl (Nat.le_of_ble_eq_true rfl) dX11_numbers_40 ⟨Nat.le_of_ble_eq_true rfl, Nat.le_of_ble_eq_true rfl⟩ ⟨Nat.le_of_ble_eq_true rfl, Nat.le_of_ble_eq_true rfl⟩) [3, 7] [0, 1, 2, 4, 5, 6, 8, 9] rfl rfl (by decide) (by decide) (fun u_11 H locs hp_12 h => ?_)
              have h : Wd G A s _ _ [(x, .inr (11, [.ref (r 0), .ref (r 1), .ref (r 2), .ref (r 3), .ref (r 4), .ref (r 5), .ref (r 6), .ref (r 7), .ref (r 8), .ref (r 9), .ref (r 10), .ref (r 11), .ref (r 12), .ref (r 13), .ref (r 14), .ref (r 15), .int 0, .int 0, .int 0])), (r 9, .inl (G.2 6, 4, .inr (.inr (.inr (.inr (trF t)))))), (t 0, .inr (10, [.ref (t 4), .int 0, .int (-1)])), (t 2, .inr (10, [.ref (t 6), .int 0, .int (-1)])), (t 3, .inr (10, [.ref (t 7), .int 0, .int (-1)])), (t 4, .inl (G.2 2, 40, .inr (.inl (fun _ => 0)))), (t 6, .inl (G.2 2, 40, .inr (.inl (fun _ => 0)))), (t 7, .inl (G.2 2, 40, .inr (.inl (fun _ => 0))))] := h
              refine lv_iconst (v := 0) hx hb dX11_numbers_43 (by decide) ?_
              exact m_iret () C0 h [] (by decide) rfl (by unfold sp_numbers; grind) (Nat.le_of_ble_eq_true rfl) (Nat.le_of_ble_eq_true rfl) dX11_numbers_44
            · -- p0 = 2
              refine m_aald C0 h 1 6 2 rfl rfl (by decide) (by decide) (by decide) dX11_numbers_37 ?_
              refine W.eq (g2 := F0 m 38 ls [.ref (t 2)]) rfl ?_
              refine lv_iload_n hx hb dX11_numbers_38 rfl (lv_at hl 2 rfl) ?_
              refine lv_iload_n hx hb dX11_numbers_39 rfl (lv_at hl 3 rfl) ?_
              refine m_clv (wr := [(x, .inr (11, [.ref (r 0), .ref (r 1), .ref (r 2), .ref (r 3), .ref (r 4), .ref (r 5), .ref (r 6), .ref (r 7), .ref (r 8), .ref (r 9), .ref (r 10), .ref (r 11), .ref (r 12), .ref (r 13), .ref (r 14), .ref (r 15), .int 0, .int 0, .int 0])), (r 9, .inl (G.2 6, 4, .inr (.inr (.inr (.inr (trF t)))))), (t 0, .inr (10, [.ref (t 4), .int 0, .int (-1)])), (t 1, .inr (10, [.ref (t 5), .int 0, .int (-1)])), (t 3, .inr (10, [.ref (t 7), .int 0, .int (-1)])), (t 4, .inl (G.2 2, 40, .inr (.inl (fun _ => 0)))), (t 5, .inl (G.2 2, 40, .inr (.inl (fun _ => 0)))), (t 7, .inl (G.2 2, 40, .inr (.inl (fun _ => 0))))]) h (m_rV (ci := 10) (q0 := 4) (As := [.int p1, .int p2]) (rest := []) C0 h (c_X10_lay l G (t 2) (t 6) 0 (-1) p1 p2) k_X10_lay q_1388 q_1389 q_1387 rfl rfl rfl [4, 8] (by decide) rfl hl.1 rfl rfl (Nat.le_of_ble_eq_true rfl) dX11_numbers_40 ⟨Nat.le_of_ble_eq_true rfl, Nat.le_of_ble_eq_true rfl⟩ ⟨Nat.le_of_ble_eq_true rfl, Nat.le_of_ble_eq_true rfl⟩) [4, 8] [0, 1, 2, 3, 5, 6, 7, 9] rfl rfl (by decide) (by decide) (fun u_13 H locs hp_14 h => ?_)
              have h : Wd G A s _ _ [(x, .inr (11, [.ref (r 0), .ref (r 1), .ref (r 2), .ref (r 3), .ref (r 4), .ref (r 5), .ref (r 6), .ref (r 7), .ref (r 8), .ref (r 9), .ref (r 10), .ref (r 11), .ref (r 12), .ref (r 13), .ref (r 14), .ref (r 15), .int 0, .int 0, .int 0])), (r 9, .inl (G.2 6, 4, .inr (.inr (.inr (.inr (trF t)))))), (t 0, .inr (10, [.ref (t 4), .int 0, .int (-1)])), (t 1, .inr (10, [.ref (t 5), .int 0, .int (-1)])), (t 3, .inr (10, [.ref (t 7), .int 0, .int (-1)])), (t 4, .inl (G.2 2, 40, .inr (.inl (fun _ => 0)))), (t 5, .inl (G.2 2, 40, .inr (.inl (fun _ => 0)))), (t 7, .inl (G.2 2, 40, .inr (.inl (fun _ => 0))))] := h
              refine lv_iconst (v := 0) hx hb dX11_numbers_43 (by decide) ?_
              exact m_iret () C0 h [] (by decide) rfl (by unfold sp_numbers; grind) (Nat.le_of_ble_eq_true rfl) (Nat.le_of_ble_eq_true rfl) dX11_numbers_44
            · -- p0 = 3
              refine m_aald C0 h 1 6 3 rfl rfl (by decide) (by decide) (by decide) dX11_numbers_37 ?_
              refine W.eq (g2 := F0 m 38 ls [.ref (t 3)]) rfl ?_
              refine lv_iload_n hx hb dX11_numbers_38 rfl (lv_at hl 2 rfl) ?_
              refine lv_iload_n hx hb dX11_numbers_39 rfl (lv_at hl 3 rfl) ?_
              refine m_clv (wr := [(x, .inr (11, [.ref (r 0), .ref (r 1), .ref (r 2), .ref (r 3), .ref (r 4), .ref (r 5), .ref (r 6), .ref (r 7), .ref (r 8), .ref (r 9), .ref (r 10), .ref (r 11), .ref (r 12), .ref (r 13), .ref (r 14), .ref (r 15), .int 0, .int 0, .int 0])), (r 9, .inl (G.2 6, 4, .inr (.inr (.inr (.inr (trF t)))))), (t 0, .inr (10, [.ref (t 4), .int 0, .int (-1)])), (t 1, .inr (10, [.ref (t 5), .int 0, .int (-1)])), (t 2, .inr (10, [.ref (t 6), .int 0, .int (-1)])), (t 4, .inl (G.2 2, 40, .inr (.inl (fun _ => 0)))), (t 5, .inl (G.2 2, 40, .inr (.inl (fun _ => 0)))), (t 6, .inl (G.2 2, 40, .inr (.inl (fun _ => 0))))]) h (m_rV (ci := 10) (q0 := 5) (As := [.int p1, .int p2]) (rest := []) C0 h (c_X10_lay l G (t 3) (t 7) 0 (-1) p1 p2) k_X10_lay q_1388 q_1389 q_1387 rfl rfl rfl [5, 9] (by decide) rfl hl.1 rfl rfl (Nat.le_of_ble_eq_true rfl) dX11_numbers_40 ⟨Nat.le_of_ble_eq_true rfl, Nat.le_of_ble_eq_true rfl⟩ ⟨Nat.le_of_ble_eq_true rfl, Nat.le_of_ble_eq_true rfl⟩) [5, 9] [0, 1, 2, 3, 4, 6, 7, 8] rfl rfl (by decide) (by decide) (fun u_15 H locs hp_16 h => ?_)
              have h : Wd G A s _ _ [(x, .inr (11, [.ref (r 0), .ref (r 1), .ref (r 2), .ref (r 3), .ref (r 4), .ref (r 5), .ref (r 6), .ref (r 7), .ref (r 8), .ref (r 9), .ref (r 10), .ref (r 11), .ref (r 12), .ref (r 13), .ref (r 14), .ref (r 15), .int 0, .int 0, .int 0])), (r 9, .inl (G.2 6, 4, .inr (.inr (.inr (.inr (trF t)))))), (t 0, .inr (10, [.ref (t 4), .int 0, .int (-1)])), (t 1, .inr (10, [.ref (t 5), .int 0, .int (-1)])), (t 2, .inr (10, [.ref (t 6), .int 0, .int (-1)])), (t 4, .inl (G.2 2, 40, .inr (.inl (fun _ => 0)))), (t 5, .inl (G.2 2, 40, .inr (.inl (fun _ => 0)))), (t 6, .inl (G.2 2, 40, .inr (.inl (fun _ => 0))))] := h
              refine lv_iconst (v := 0) hx hb dX11_numbers_43 (by decide) ?_
              exact m_iret () C0 h [] (by decide) rfl (by unfold sp_numbers; grind) (Nat.le_of_ble_eq_true rfl) (Nat.le_of_ble_eq_true rfl) dX11_numbers_44
          · -- 26 ¬ p2 ≤ 40
            refine lv_bipush (v := (-3)) hx hb dX11_numbers_29 (by decide) ?_
            exact m_iret () C0 h [] (by decide) rfl (by unfold sp_numbers; grind) (Nat.le_of_ble_eq_true rfl) (Nat.le_of_ble_eq_true rfl) dX11_numbers_31
      · -- 13 ¬ p1 ≤ 3
        refine lv_bipush (v := (-2)) hx hb dX11_numbers_16 (by decide) ?_
        exact m_iret () C0 h [] (by decide) rfl (by unfold sp_numbers; grind) (Nat.le_of_ble_eq_true rfl) (Nat.le_of_ble_eq_true rfl) dX11_numbers_18
  · -- answer 0
    refine lv_if_eq (tgt := 16) hx hb dX11_numbers_4 (by decide) (fun c_17 => ?_) (fun c_17 => absurd c_17 (by decide))
    refine lv_bipush (v := (-2)) hx hb dX11_numbers_16 (by decide) ?_
    exact m_iret () C0 h [] (by decide) rfl (by unfold sp_numbers; grind) (Nat.le_of_ble_eq_true rfl) (Nat.le_of_ble_eq_true rfl) dX11_numbers_18
set_option maxHeartbeats 4000000 in
set_option maxRecDepth 100000 in
theorem c_X11_restore (l : Launch) (G : GG) (x : Nat) (r : Nat → Nat) (p0 : Int32) : Mt l yX11_restore cX11_restore 2 (some .int) 3 0 0 G [.ref x, .int p0] [(x, .inr (11, [.ref (r 0), .ref (r 1), .ref (r 2), .ref (r 3), .ref (r 4), .ref (r 5), .ref (r 6), .ref (r 7), .ref (r 8), .ref (r 9), .ref (r 10), .ref (r 11), .ref (r 12), .ref (r 13), .ref (r 14), .ref (r 15), .int 0, .int 0, .int 0])), (r 11, .inl (G.2 3, 2, .inl (fun _ => 0)))] (Ri (S := Unit) G (fun r _ => r = sp_restore p0) (fun _ => [])) := by
  refine Mt.start (by decide) (Nat.le_of_ble_eq_true rfl) ?_
  intro p e s m below meth c A ls C0 hini h hl
  have C0 : Cx p s m _ meth c RX11 cX11_restore 2 (some .int) := C0
  obtain ⟨hx, hb, hml, hown, hts, -⟩ := id C0
  have hl : lv_has ls 2 [(0, .ref x), (1, .int p0)] := hl
  refine lv_iload_n hx hb dX11_restore_0 rfl (lv_at hl 1 rfl) ?_
  refine lv_if_lt (tgt := 9) hx hb dX11_restore_1 (by decide) (fun c_1 => ?_) (fun c_1 => ?_)
  · -- 1 p0 < 0
    refine lv_bipush (v := (-2)) hx hb dX11_restore_9 (by decide) ?_
    exact m_iret () C0 h [] (by decide) rfl (by unfold sp_restore; grind) (Nat.le_of_ble_eq_true rfl) (Nat.le_of_ble_eq_true rfl) dX11_restore_11
  · -- 1 ¬ p0 < 0
    refine lv_iload_n hx hb dX11_restore_4 rfl (lv_at hl 1 rfl) ?_
    refine lv_iconst (v := 2) hx hb dX11_restore_5 (by decide) ?_
    refine lv_icmp_lt (tgt := 12) hx hb dX11_restore_6 (by decide) (fun c_2 => ?_) (fun c_2 => ?_)
    · -- 6 p0 < 2
      refine lv_aload_n hx hb dX11_restore_12 rfl (lv_at hl 0 rfl) ?_
      refine g_X11_imageMade C0 h 0 q_526 rfl rfl dX11_restore_13 ?_
      refine lv_iload_n hx hb dX11_restore_16 rfl (lv_at hl 1 rfl) ?_
      rcases (in2 (x := p0) (by grind) (by grind)) with rfl | rfl
      · -- p0 = 0
        refine m_zald C0 h 1 0 rfl (by decide) (by decide) (by decide) dX11_restore_17 ?_
        refine W.eq (g2 := F0 m 18 ls [.int 0]) rfl ?_
        refine lv_if_ne (tgt := 24) hx hb dX11_restore_18 (by decide) (fun c_3 => absurd c_3 (by decide)) (fun c_3 => ?_)
        refine lv_bipush (v := (-5)) hx hb dX11_restore_21 (by decide) ?_
        exact m_iret () C0 h [] (by decide) rfl (by unfold sp_restore; grind) (Nat.le_of_ble_eq_true rfl) (Nat.le_of_ble_eq_true rfl) dX11_restore_23
      · -- p0 = 1
        refine m_zald C0 h 1 1 rfl (by decide) (by decide) (by decide) dX11_restore_17 ?_
        refine W.eq (g2 := F0 m 18 ls [.int 0]) rfl ?_
        refine lv_if_ne (tgt := 24) hx hb dX11_restore_18 (by decide) (fun c_4 => absurd c_4 (by decide)) (fun c_4 => ?_)
        refine lv_bipush (v := (-5)) hx hb dX11_restore_21 (by decide) ?_
        exact m_iret () C0 h [] (by decide) rfl (by unfold sp_restore; grind) (Nat.le_of_ble_eq_true rfl) (Nat.le_of_ble_eq_true rfl) dX11_restore_23
    · -- 6 ¬ p0 < 2
      refine lv_bipush (v := (-2)) hx hb dX11_restore_9 (by decide) ?_
      exact m_iret () C0 h [] (by decide) rfl (by unfold sp_restore; grind) (Nat.le_of_ble_eq_true rfl) (Nat.le_of_ble_eq_true rfl) dX11_restore_11
set_option maxHeartbeats 4000000 in
set_option maxRecDepth 100000 in
theorem c_X5_faultKind (l : Launch) (G : GG) (a : Nat) (r : Nat → Nat) (v : Nat → Nat) (z : Nat → Nat) : Mt l yX5_faultKind cX5_faultKind 1 (some .int) 0 0 0 G [.ref a] [(a, .inr (5, [.ref (r 1), .ref (z 0), .int 0, .int 0, .int 0, .int 0, .int 0, .int 0, .int 0, .int (-1), .ref (v 0)]))] (Ri (S := Unit) G (fun r _ => r = 0) (fun _ => [(a, .inr (5, [.ref (r 1), .ref (z 0), .int 0, .int 0, .int 0, .int 0, .int 0, .int 0, .int 0, .int (-1), .ref (v 0)]))])) := by
  refine Mt.start (by decide) (Nat.le_of_ble_eq_true rfl) ?_
  intro p e s m below meth c A ls C0 hini h hl
  have C0 : Cx p s m _ meth c RX5 cX5_faultKind 1 (some .int) := C0
  obtain ⟨hx, hb, hml, hown, hts, -⟩ := id C0
  have hl : lv_has ls 1 [(0, .ref a)] := hl
  refine lv_aload_n hx hb dX5_faultKind_0 rfl (lv_at hl 0 rfl) ?_
  refine g_X5_fault C0 h 0 q_378 rfl rfl dX5_faultKind_1 ?_
  exact m_iret () C0 h [0] (by decide) rfl rfl (Nat.le_of_ble_eq_true rfl) (Nat.le_of_ble_eq_true rfl) dX5_faultKind_4
set_option maxHeartbeats 4000000 in
set_option maxRecDepth 100000 in
theorem c_X5_faultPlace (l : Launch) (G : GG) (a : Nat) (r : Nat → Nat) (v : Nat → Nat) (z : Nat → Nat) : Mt l yX5_faultPlace cX5_faultPlace 1 (some .int) 0 0 0 G [.ref a] [(a, .inr (5, [.ref (r 1), .ref (z 0), .int 0, .int 0, .int 0, .int 0, .int 0, .int 0, .int 0, .int (-1), .ref (v 0)]))] (Ri (S := Unit) G (fun r _ => r = (-1)) (fun _ => [(a, .inr (5, [.ref (r 1), .ref (z 0), .int 0, .int 0, .int 0, .int 0, .int 0, .int 0, .int 0, .int (-1), .ref (v 0)]))])) := by
  refine Mt.start (by decide) (Nat.le_of_ble_eq_true rfl) ?_
  intro p e s m below meth c A ls C0 hini h hl
  have C0 : Cx p s m _ meth c RX5 cX5_faultPlace 1 (some .int) := C0
  obtain ⟨hx, hb, hml, hown, hts, -⟩ := id C0
  have hl : lv_has ls 1 [(0, .ref a)] := hl
  refine lv_aload_n hx hb dX5_faultPlace_0 rfl (lv_at hl 0 rfl) ?_
  refine g_X5_place C0 h 0 q_379 rfl rfl dX5_faultPlace_1 ?_
  exact m_iret () C0 h [0] (by decide) rfl rfl (Nat.le_of_ble_eq_true rfl) (Nat.le_of_ble_eq_true rfl) dX5_faultPlace_4
set_option maxHeartbeats 4000000 in
set_option maxRecDepth 100000 in
theorem c_X11_fault (l : Launch) (G : GG) (x : Nat) (r : Nat → Nat) (v : Nat → Nat) (z : Nat → Nat) (p0 : Int32) : Mt l yX11_fault cX11_fault 2 (some .int) 3 0 0 G [.ref x, .int p0] [(x, .inr (11, [.ref (r 0), .ref (r 1), .ref (r 2), .ref (r 3), .ref (r 4), .ref (r 5), .ref (r 6), .ref (r 7), .ref (r 8), .ref (r 9), .ref (r 10), .ref (r 11), .ref (r 12), .ref (r 13), .ref (r 14), .ref (r 15), .int 0, .int 0, .int 0])), (r 2, .inr (5, [.ref (r 1), .ref (z 0), .int 0, .int 0, .int 0, .int 0, .int 0, .int 0, .int 0, .int (-1), .ref (v 0)]))] (Ri (S := Unit) G (fun r _ => r = sp_fault p0) (fun _ => [])) := by
  refine Mt.start (by decide) (Nat.le_of_ble_eq_true rfl) ?_
  intro p e s m below meth c A ls C0 hini h hl
  have C0 : Cx p s m _ meth c RX11 cX11_fault 2 (some .int) := C0
  obtain ⟨hx, hb, hml, hown, hts, -⟩ := id C0
  have hl : lv_has ls 2 [(0, .ref x), (1, .int p0)] := hl
  refine lv_iload_n hx hb dX11_fault_0 rfl (lv_at hl 1 rfl) ?_
  refine lv_if_ne (tgt := 14) hx hb dX11_fault_1 (by decide) (fun c_1 => ?_) (fun c_1 => ?_)
  · -- 1 ¬ p0 = 0
    refine lv_iload_n hx hb dX11_fault_14 rfl (lv_at hl 1 rfl) ?_
    refine lv_iconst (v := 1) hx hb dX11_fault_15 (by decide) ?_
    refine lv_icmp_ne (tgt := 29) hx hb dX11_fault_16 (by decide) (fun c_2 => ?_) (fun c_2 => ?_)
    · -- 16 p0 ≠ 1
      refine lv_iconst (v := (-1)) hx hb dX11_fault_29 (by decide) ?_
      exact m_iret () C0 h [] (by decide) rfl (by unfold sp_fault; grind) (Nat.le_of_ble_eq_true rfl) (Nat.le_of_ble_eq_true rfl) dX11_fault_30
    · -- 16 ¬ p0 ≠ 1
      refine lv_aload_n hx hb dX11_fault_19 rfl (lv_at hl 0 rfl) ?_
      refine g_X11_reader C0 h 0 q_517 rfl rfl dX11_fault_20 ?_
      refine m_cli (wr := [(x, .inr (11, [.ref (r 0), .ref (r 1), .ref (r 2), .ref (r 3), .ref (r 4), .ref (r 5), .ref (r 6), .ref (r 7), .ref (r 8), .ref (r 9), .ref (r 10), .ref (r 11), .ref (r 12), .ref (r 13), .ref (r 14), .ref (r 15), .int 0, .int 0, .int 0]))]) h (m_rV (ci := 5) (q0 := 1) (As := []) (rest := []) C0 h (c_X5_faultPlace l G (r 2) r v z) k_X5_faultPlace q_894 q_895 q_893 rfl rfl rfl [1] (by decide) rfl hl.1 rfl rfl (Nat.le_of_ble_eq_true rfl) dX11_fault_23 ⟨Nat.le_of_ble_eq_true rfl, Nat.le_of_ble_eq_true rfl⟩ ⟨Nat.le_of_ble_eq_true rfl, Nat.le_of_ble_eq_true rfl⟩) [1] [0] rfl rfl (by decide) (by decide) (fun r_5 u_3 H locs hp_4 h => ?_)
      have h : Wd G A s _ _ [(x, .inr (11, [.ref (r 0), .ref (r 1), .ref (r 2), .ref (r 3), .ref (r 4), .ref (r 5), .ref (r 6), .ref (r 7), .ref (r 8), .ref (r 9), .ref (r 10), .ref (r 11), .ref (r 12), .ref (r 13), .ref (r 14), .ref (r 15), .int 0, .int 0, .int 0])), (r 2, .inr (5, [.ref (r 1), .ref (z 0), .int 0, .int 0, .int 0, .int 0, .int 0, .int 0, .int 0, .int (-1), .ref (v 0)]))] := h
      obtain rfl : r_5 = (-1) := hp_4
      refine lv_goto (tgt := 30) hx hb dX11_fault_26 (by decide) ?_
      exact m_iret () C0 h [] (by decide) rfl (by unfold sp_fault; grind) (Nat.le_of_ble_eq_true rfl) (Nat.le_of_ble_eq_true rfl) dX11_fault_30
  · -- 1 p0 = 0
    refine lv_aload_n hx hb dX11_fault_4 rfl (lv_at hl 0 rfl) ?_
    refine g_X11_reader C0 h 0 q_517 rfl rfl dX11_fault_5 ?_
    refine m_cli (wr := [(x, .inr (11, [.ref (r 0), .ref (r 1), .ref (r 2), .ref (r 3), .ref (r 4), .ref (r 5), .ref (r 6), .ref (r 7), .ref (r 8), .ref (r 9), .ref (r 10), .ref (r 11), .ref (r 12), .ref (r 13), .ref (r 14), .ref (r 15), .int 0, .int 0, .int 0]))]) h (m_rV (ci := 5) (q0 := 1) (As := []) (rest := []) C0 h (c_X5_faultKind l G (r 2) r v z) k_X5_faultKind q_890 q_891 q_889 rfl rfl rfl [1] (by decide) rfl hl.1 rfl rfl (Nat.le_of_ble_eq_true rfl) dX11_fault_8 ⟨Nat.le_of_ble_eq_true rfl, Nat.le_of_ble_eq_true rfl⟩ ⟨Nat.le_of_ble_eq_true rfl, Nat.le_of_ble_eq_true rfl⟩) [1] [0] rfl rfl (by decide) (by decide) (fun r_8 u_6 H locs hp_7 h => ?_)
    have h : Wd G A s _ _ [(x, .inr (11, [.ref (r 0), .ref (r 1), .ref (r 2), .ref (r 3), .ref (r 4), .ref (r 5), .ref (r 6), .ref (r 7), .ref (r 8), .ref (r 9), .ref (r 10), .ref (r 11), .ref (r 12), .ref (r 13), .ref (r 14), .ref (r 15), .int 0, .int 0, .int 0])), (r 2, .inr (5, [.ref (r 1), .ref (z 0), .int 0, .int 0, .int 0, .int 0, .int 0, .int 0, .int 0, .int (-1), .ref (v 0)]))] := h
    obtain rfl : r_8 = 0 := hp_7
    refine lv_goto (tgt := 30) hx hb dX11_fault_11 (by decide) ?_
    exact m_iret () C0 h [] (by decide) rfl (by unfold sp_fault; grind) (Nat.le_of_ble_eq_true rfl) (Nat.le_of_ble_eq_true rfl) dX11_fault_30
set_option maxHeartbeats 4000000 in
set_option maxRecDepth 100000 in
theorem c_X5_fed_0 (l : Launch) (G : GG) (a : Nat) (r : Nat → Nat) (v : Nat → Nat) (z : Nat → Nat) : Mt l yX5_fed cX5_fed 1 (some .int) 0 0 0 G [.ref a] [(a, .inr (5, [.ref (r 1), .ref (z 0), .int 0, .int 0, .int 0, .int 0, .int 0, .int 0, .int 0, .int (-1), .ref (v 0)]))] (Ri (S := Unit) G (fun r _ => r = 0) (fun _ => [(a, .inr (5, [.ref (r 1), .ref (z 0), .int 0, .int 0, .int 0, .int 0, .int 0, .int 0, .int 0, .int (-1), .ref (v 0)]))])) := by
  refine Mt.start (by decide) (Nat.le_of_ble_eq_true rfl) ?_
  intro p e s m below meth c A ls C0 hini h hl
  have C0 : Cx p s m _ meth c RX5 cX5_fed 1 (some .int) := C0
  obtain ⟨hx, hb, hml, hown, hts, -⟩ := id C0
  have hl : lv_has ls 1 [(0, .ref a)] := hl
  refine lv_aload_n hx hb dX5_fed_0 rfl (lv_at hl 0 rfl) ?_
  refine g_X5_fed C0 h 0 q_372 rfl rfl dX5_fed_1 ?_
  exact m_iret () C0 h [0] (by decide) rfl rfl (Nat.le_of_ble_eq_true rfl) (Nat.le_of_ble_eq_true rfl) dX5_fed_4
set_option maxHeartbeats 4000000 in
set_option maxRecDepth 100000 in
theorem c_X5_fed_20 (l : Launch) (G : GG) (a : Nat) (r : Nat → Nat) (v : Nat → Nat) (z : Nat → Nat) : Mt l yX5_fed cX5_fed 1 (some .int) 0 0 0 G [.ref a] [(a, .inr (5, [.ref (r 1), .ref (z 0), .int 20, .int 0, .int 0, .int 0, .int 0, .int 0, .int 0, .int (-1), .ref (v 0)]))] (Ri (S := Unit) G (fun r _ => r = 20) (fun _ => [(a, .inr (5, [.ref (r 1), .ref (z 0), .int 20, .int 0, .int 0, .int 0, .int 0, .int 0, .int 0, .int (-1), .ref (v 0)]))])) := by
  refine Mt.start (by decide) (Nat.le_of_ble_eq_true rfl) ?_
  intro p e s m below meth c A ls C0 hini h hl
  have C0 : Cx p s m _ meth c RX5 cX5_fed 1 (some .int) := C0
  obtain ⟨hx, hb, hml, hown, hts, -⟩ := id C0
  have hl : lv_has ls 1 [(0, .ref a)] := hl
  refine lv_aload_n hx hb dX5_fed_0 rfl (lv_at hl 0 rfl) ?_
  refine g_X5_fed C0 h 0 q_372 rfl rfl dX5_fed_1 ?_
  exact m_iret () C0 h [0] (by decide) rfl rfl (Nat.le_of_ble_eq_true rfl) (Nat.le_of_ble_eq_true rfl) dX5_fed_4
set_option maxHeartbeats 4000000 in
set_option maxRecDepth 100000 in
theorem c_X5_hasRoom (l : Launch) (G : GG) (a : Nat) (r : Nat → Nat) (v : Nat → Nat) (z : Nat → Nat) : Mt l yX5_hasRoom cX5_hasRoom 1 (some .boolean) 0 0 0 G [.ref a] [(a, .inr (5, [.ref (r 1), .ref (z 0), .int 0, .int 0, .int 0, .int 0, .int 0, .int 0, .int 0, .int (-1), .ref (v 0)]))] (Ri (S := Unit) G (fun r _ => r = 1) (fun _ => [(a, .inr (5, [.ref (r 1), .ref (z 0), .int 0, .int 0, .int 0, .int 0, .int 0, .int 0, .int 0, .int (-1), .ref (v 0)]))])) := by
  refine Mt.start (by decide) (Nat.le_of_ble_eq_true rfl) ?_
  intro p e s m below meth c A ls C0 hini h hl
  have C0 : Cx p s m _ meth c RX5 cX5_hasRoom 1 (some .boolean) := C0
  obtain ⟨hx, hb, hml, hown, hts, -⟩ := id C0
  have hl : lv_has ls 1 [(0, .ref a)] := hl
  refine lv_aload_n hx hb dX5_hasRoom_0 rfl (lv_at hl 0 rfl) ?_
  refine g_X5_fed C0 h 0 q_372 rfl rfl dX5_hasRoom_1 ?_
  refine lv_bipush (v := 20) hx hb dX5_hasRoom_4 (by decide) ?_
  refine lv_iadd hx hb dX5_hasRoom_6 ?_
  refine lv_topi (fun k_1 ek_1 => ?_)
  obtain rfl : k_1 = 20 := ek_1.trans (by decide)
  refine lv_sipush (v := 900) hx hb dX5_hasRoom_7 (by decide) ?_
  refine lv_icmp_gt (tgt := 17) hx hb dX5_hasRoom_10 (by decide) (fun c_2 => absurd c_2 (by decide)) (fun c_2 => ?_)
  refine lv_iconst (v := 1) hx hb dX5_hasRoom_13 (by decide) ?_
  refine lv_goto (tgt := 18) hx hb dX5_hasRoom_14 (by decide) ?_
  exact m_zret () C0 h (by decide) [0] (by decide) rfl rfl (Nat.le_of_ble_eq_true rfl) (Nat.le_of_ble_eq_true rfl) dX5_hasRoom_18
set_option maxHeartbeats 4000000 in
set_option maxRecDepth 100000 in
theorem c_X5_put_0 (l : Launch) (G : GG) (a : Nat) (r : Nat → Nat) (v : Nat → Nat) (z : Nat → Nat) (f : Nat → Int32) (p0 : Int32) : Mt l yX5_put cX5_put 3 none 0 0 0 G [.ref a, .int p0] [(a, .inr (5, [.ref (r 1), .ref (z 0), .int 0, .int 0, .int 0, .int 0, .int 0, .int 0, .int 0, .int (-1), .ref (v 0)])), (z 0, .inl (G.2 0, 900, .inl f))] (Rv (S := (Nat → Int32)) G (fun _ => True) (fun g => [(a, .inr (5, [.ref (r 1), .ref (z 0), .int 4, .int 0, .int 0, .int 0, .int 0, .int 0, .int 0, .int (-1), .ref (v 0)])), (z 0, .inl (G.2 0, 900, .inl g))])) := by
  refine Mt.start (by decide) (Nat.le_of_ble_eq_true rfl) ?_
  intro p e s m below meth c A ls C0 hini h hl
  have C0 : Cx p s m _ meth c RX5 cX5_put 3 none := C0
  obtain ⟨hx, hb, hml, hown, hts, -⟩ := id C0
  have hl : lv_has ls 3 [(0, .ref a), (1, .int p0)] := hl
  refine lv_bipush (v := 24) hx hb dX5_put_0 (by decide) ?_
  refine lv_istore_n (lv' := [(2, .int 24), (0, .ref a), (1, .int p0)]) hx hb dX5_put_2 rfl hl (by decide) rfl (fun ls hl => ?_)
  refine lv_iload_n hx hb dX5_put_3 rfl (lv_at hl 0 rfl) ?_
  refine lv_if_lt (tgt := 46) hx hb dX5_put_4 (by decide) (fun c_1 => absurd c_1 (by decide)) (fun c_1 => ?_)
  refine lv_aload_n hx hb dX5_put_7 rfl (lv_at hl 1 rfl) ?_
  refine g_X5_fed C0 h 0 q_372 rfl rfl dX5_put_8 ?_
  refine lv_sipush (v := 900) hx hb dX5_put_11 (by decide) ?_
  refine lv_icmp_ge (tgt := 46) hx hb dX5_put_14 (by decide) (fun c_2 => absurd c_2 (by decide)) (fun c_2 => ?_)
  refine lv_aload_n hx hb dX5_put_17 rfl (lv_at hl 1 rfl) ?_
  refine g_X5_tape C0 h 0 q_371 rfl rfl dX5_put_18 ?_
  refine lv_aload_n hx hb dX5_put_21 rfl (lv_at hl 1 rfl) ?_
  refine g_X5_fed C0 h 0 q_372 rfl rfl dX5_put_22 ?_
  refine lv_iload_n hx hb dX5_put_25 rfl (lv_at hl 2 rfl) ?_
  refine lv_iload_n hx hb dX5_put_26 rfl (lv_at hl 0 rfl) ?_
  refine lv_ishr hx hb dX5_put_27 ?_
  refine lv_i2b (v := (p0 >>> (24 &&& 31)).toInt8.toInt32) hx hb dX5_put_28 rfl ?_
  refine m_bast (ws' := [(a, .inr (5, [.ref (r 1), .ref (z 0), .int 0, .int 0, .int 0, .int 0, .int 0, .int 0, .int 0, .int (-1), .ref (v 0)])), (z 0, .inl (G.2 0, 900, .inl (upd f 0 (vp_nar .byte ((p0 >>> (24 &&& 31)).toInt8.toInt32)))))]) C0 h 1 0 rfl (by decide) (by decide) (by decide) rfl dX5_put_29 (fun H locs h => ?_)
  refine lv_aload_n hx hb dX5_put_30 rfl (lv_at hl 1 rfl) ?_
  refine lv_dup hx hb dX5_put_31 rfl ?_
  refine g_X5_fed C0 h 0 q_372 rfl rfl dX5_put_32 ?_
  refine lv_iconst (v := 1) hx hb dX5_put_35 (by decide) ?_
  refine lv_iadd hx hb dX5_put_36 ?_
  refine lv_topi (fun k_3 ek_3 => ?_)
  obtain rfl : k_3 = 1 := ek_3.trans (by decide)
  refine p_X5_fed (ws' := [(a, .inr (5, [.ref (r 1), .ref (z 0), .int 1, .int 0, .int 0, .int 0, .int 0, .int 0, .int 0, .int (-1), .ref (v 0)])), (z 0, .inl (G.2 0, 900, .inl (upd f 0 (vp_nar .byte ((p0 >>> (24 &&& 31)).toInt8.toInt32)))))]) C0 h 0 q_372 rfl (Nat.le_of_ble_eq_true rfl) rfl rfl rfl dX5_put_37 (fun H locs h => ?_)
  refine lv_iinc (v := 16) (lv' := [(2, .int 16), (0, .ref a), (1, .int p0)]) hx hb dX5_put_40 hl (k := 0) rfl (by decide) (by decide) rfl (fun ls hl => ?_)
  refine lv_goto (tgt := 3) hx hb dX5_put_43 (by decide) ?_
  refine lv_iload_n hx hb dX5_put_3 rfl (lv_at hl 0 rfl) ?_
  refine lv_if_lt (tgt := 46) hx hb dX5_put_4 (by decide) (fun c_4 => absurd c_4 (by decide)) (fun c_4 => ?_)
  refine lv_aload_n hx hb dX5_put_7 rfl (lv_at hl 1 rfl) ?_
  refine g_X5_fed C0 h 0 q_372 rfl rfl dX5_put_8 ?_
  refine lv_sipush (v := 900) hx hb dX5_put_11 (by decide) ?_
  refine lv_icmp_ge (tgt := 46) hx hb dX5_put_14 (by decide) (fun c_5 => absurd c_5 (by decide)) (fun c_5 => ?_)
  refine lv_aload_n hx hb dX5_put_17 rfl (lv_at hl 1 rfl) ?_
  refine g_X5_tape C0 h 0 q_371 rfl rfl dX5_put_18 ?_
  refine lv_aload_n hx hb dX5_put_21 rfl (lv_at hl 1 rfl) ?_
  refine g_X5_fed C0 h 0 q_372 rfl rfl dX5_put_22 ?_
  refine lv_iload_n hx hb dX5_put_25 rfl (lv_at hl 2 rfl) ?_
  refine lv_iload_n hx hb dX5_put_26 rfl (lv_at hl 0 rfl) ?_
  refine lv_ishr hx hb dX5_put_27 ?_
  refine lv_i2b (v := (p0 >>> (16 &&& 31)).toInt8.toInt32) hx hb dX5_put_28 rfl ?_
  refine m_bast (ws' := [(a, .inr (5, [.ref (r 1), .ref (z 0), .int 1, .int 0, .int 0, .int 0, .int 0, .int 0, .int 0, .int (-1), .ref (v 0)])), (z 0, .inl (G.2 0, 900, .inl (upd (upd f 0 (vp_nar .byte ((p0 >>> (24 &&& 31)).toInt8.toInt32))) 1 (vp_nar .byte ((p0 >>> (16 &&& 31)).toInt8.toInt32)))))]) C0 h 1 1 rfl (by decide) (by decide) (by decide) rfl dX5_put_29 (fun H locs h => ?_)
  refine lv_aload_n hx hb dX5_put_30 rfl (lv_at hl 1 rfl) ?_
  refine lv_dup hx hb dX5_put_31 rfl ?_
  refine g_X5_fed C0 h 0 q_372 rfl rfl dX5_put_32 ?_
  refine lv_iconst (v := 1) hx hb dX5_put_35 (by decide) ?_
  refine lv_iadd hx hb dX5_put_36 ?_
  refine lv_topi (fun k_6 ek_6 => ?_)
  obtain rfl : k_6 = 2 := ek_6.trans (by decide)
  refine p_X5_fed (ws' := [(a, .inr (5, [.ref (r 1), .ref (z 0), .int 2, .int 0, .int 0, .int 0, .int 0, .int 0, .int 0, .int (-1), .ref (v 0)])), (z 0, .inl (G.2 0, 900, .inl (upd (upd f 0 (vp_nar .byte ((p0 >>> (24 &&& 31)).toInt8.toInt32))) 1 (vp_nar .byte ((p0 >>> (16 &&& 31)).toInt8.toInt32)))))]) C0 h 0 q_372 rfl (Nat.le_of_ble_eq_true rfl) rfl rfl rfl dX5_put_37 (fun H locs h => ?_)
  refine lv_iinc (v := 8) (lv' := [(2, .int 8), (0, .ref a), (1, .int p0)]) hx hb dX5_put_40 hl (k := 0) rfl (by decide) (by decide) rfl (fun ls hl => ?_)
  refine lv_goto (tgt := 3) hx hb dX5_put_43 (by decide) ?_
  refine lv_iload_n hx hb dX5_put_3 rfl (lv_at hl 0 rfl) ?_
  refine lv_if_lt (tgt := 46) hx hb dX5_put_4 (by decide) (fun c_7 => absurd c_7 (by decide)) (fun c_7 => ?_)
  refine lv_aload_n hx hb dX5_put_7 rfl (lv_at hl 1 rfl) ?_
  refine g_X5_fed C0 h 0 q_372 rfl rfl dX5_put_8 ?_
  refine lv_sipush (v := 900) hx hb dX5_put_11 (by decide) ?_
  refine lv_icmp_ge (tgt := 46) hx hb dX5_put_14 (by decide) (fun c_8 => absurd c_8 (by decide)) (fun c_8 => ?_)
  refine lv_aload_n hx hb dX5_put_17 rfl (lv_at hl 1 rfl) ?_
  refine g_X5_tape C0 h 0 q_371 rfl rfl dX5_put_18 ?_
  refine lv_aload_n hx hb dX5_put_21 rfl (lv_at hl 1 rfl) ?_
  refine g_X5_fed C0 h 0 q_372 rfl rfl dX5_put_22 ?_
  refine lv_iload_n hx hb dX5_put_25 rfl (lv_at hl 2 rfl) ?_
  refine lv_iload_n hx hb dX5_put_26 rfl (lv_at hl 0 rfl) ?_
  refine lv_ishr hx hb dX5_put_27 ?_
  refine lv_i2b (v := (p0 >>> (8 &&& 31)).toInt8.toInt32) hx hb dX5_put_28 rfl ?_
  refine m_bast (ws' := [(a, .inr (5, [.ref (r 1), .ref (z 0), .int 2, .int 0, .int 0, .int 0, .int 0, .int 0, .int 0, .int (-1), .ref (v 0)])), (z 0, .inl (G.2 0, 900, .inl (upd (upd (upd f 0 (vp_nar .byte ((p0 >>> (24 &&& 31)).toInt8.toInt32))) 1 (vp_nar .byte ((p0 >>> (16 &&& 31)).toInt8.toInt32))) 2 (vp_nar .byte ((p0 >>> (8 &&& 31)).toInt8.toInt32)))))]) C0 h 1 2 rfl (by decide) (by decide) (by decide) rfl dX5_put_29 (fun H locs h => ?_)
  refine lv_aload_n hx hb dX5_put_30 rfl (lv_at hl 1 rfl) ?_
  refine lv_dup hx hb dX5_put_31 rfl ?_
  refine g_X5_fed C0 h 0 q_372 rfl rfl dX5_put_32 ?_
  refine lv_iconst (v := 1) hx hb dX5_put_35 (by decide) ?_
  refine lv_iadd hx hb dX5_put_36 ?_
  refine lv_topi (fun k_9 ek_9 => ?_)
  obtain rfl : k_9 = 3 := ek_9.trans (by decide)
  refine p_X5_fed (ws' := [(a, .inr (5, [.ref (r 1), .ref (z 0), .int 3, .int 0, .int 0, .int 0, .int 0, .int 0, .int 0, .int (-1), .ref (v 0)])), (z 0, .inl (G.2 0, 900, .inl (upd (upd (upd f 0 (vp_nar .byte ((p0 >>> (24 &&& 31)).toInt8.toInt32))) 1 (vp_nar .byte ((p0 >>> (16 &&& 31)).toInt8.toInt32))) 2 (vp_nar .byte ((p0 >>> (8 &&& 31)).toInt8.toInt32)))))]) C0 h 0 q_372 rfl (Nat.le_of_ble_eq_true rfl) rfl rfl rfl dX5_put_37 (fun H locs h => ?_)
  refine lv_iinc (v := 0) (lv' := [(2, .int 0), (0, .ref a), (1, .int p0)]) hx hb dX5_put_40 hl (k := 0) rfl (by decide) (by decide) rfl (fun ls hl => ?_)
  refine lv_goto (tgt := 3) hx hb dX5_put_43 (by decide) ?_
  refine lv_iload_n hx hb dX5_put_3 rfl (lv_at hl 0 rfl) ?_
  refine lv_if_lt (tgt := 46) hx hb dX5_put_4 (by decide) (fun c_10 => absurd c_10 (by decide)) (fun c_10 => ?_)
  refine lv_aload_n hx hb dX5_put_7 rfl (lv_at hl 1 rfl) ?_
  refine g_X5_fed C0 h 0 q_372 rfl rfl dX5_put_8 ?_
  refine lv_sipush (v := 900) hx hb dX5_put_11 (by decide) ?_
  refine lv_icmp_ge (tgt := 46) hx hb dX5_put_14 (by decide) (fun c_11 => absurd c_11 (by decide)) (fun c_11 => ?_)
  refine lv_aload_n hx hb dX5_put_17 rfl (lv_at hl 1 rfl) ?_
  refine g_X5_tape C0 h 0 q_371 rfl rfl dX5_put_18 ?_
  refine lv_aload_n hx hb dX5_put_21 rfl (lv_at hl 1 rfl) ?_
  refine g_X5_fed C0 h 0 q_372 rfl rfl dX5_put_22 ?_
  refine lv_iload_n hx hb dX5_put_25 rfl (lv_at hl 2 rfl) ?_
  refine lv_iload_n hx hb dX5_put_26 rfl (lv_at hl 0 rfl) ?_
  refine lv_ishr hx hb dX5_put_27 ?_
  refine lv_i2b (v := (p0 >>> (0 &&& 31)).toInt8.toInt32) hx hb dX5_put_28 rfl ?_
  refine m_bast (ws' := [(a, .inr (5, [.ref (r 1), .ref (z 0), .int 3, .int 0, .int 0, .int 0, .int 0, .int 0, .int 0, .int (-1), .ref (v 0)])), (z 0, .inl (G.2 0, 900, .inl (upd (upd (upd (upd f 0 (vp_nar .byte ((p0 >>> (24 &&& 31)).toInt8.toInt32))) 1 (vp_nar .byte ((p0 >>> (16 &&& 31)).toInt8.toInt32))) 2 (vp_nar .byte ((p0 >>> (8 &&& 31)).toInt8.toInt32))) 3 (vp_nar .byte ((p0 >>> (0 &&& 31)).toInt8.toInt32)))))]) C0 h 1 3 rfl (by decide) (by decide) (by decide) rfl dX5_put_29 (fun H locs h => ?_)
  refine lv_aload_n hx hb dX5_put_30 rfl (lv_at hl 1 rfl) ?_
  refine lv_dup hx hb dX5_put_31 rfl ?_
  refine g_X5_fed C0 h 0 q_372 rfl rfl dX5_put_32 ?_
  refine lv_iconst (v := 1) hx hb dX5_put_35 (by decide) ?_
  refine lv_iadd hx hb dX5_put_36 ?_
  refine lv_topi (fun k_12 ek_12 => ?_)
  obtain rfl : k_12 = 4 := ek_12.trans (by decide)
  refine p_X5_fed (ws' := [(a, .inr (5, [.ref (r 1), .ref (z 0), .int 4, .int 0, .int 0, .int 0, .int 0, .int 0, .int 0, .int (-1), .ref (v 0)])), (z 0, .inl (G.2 0, 900, .inl (upd (upd (upd (upd f 0 (vp_nar .byte ((p0 >>> (24 &&& 31)).toInt8.toInt32))) 1 (vp_nar .byte ((p0 >>> (16 &&& 31)).toInt8.toInt32))) 2 (vp_nar .byte ((p0 >>> (8 &&& 31)).toInt8.toInt32))) 3 (vp_nar .byte ((p0 >>> (0 &&& 31)).toInt8.toInt32)))))]) C0 h 0 q_372 rfl (Nat.le_of_ble_eq_true rfl) rfl rfl rfl dX5_put_37 (fun H locs h => ?_)
  refine lv_iinc (v := (-8)) (lv' := [(2, .int (-8)), (0, .ref a), (1, .int p0)]) hx hb dX5_put_40 hl (k := 0) rfl (by decide) (by decide) rfl (fun ls hl => ?_)
  refine lv_goto (tgt := 3) hx hb dX5_put_43 (by decide) ?_
  refine lv_iload_n hx hb dX5_put_3 rfl (lv_at hl 0 rfl) ?_
  refine lv_if_lt (tgt := 46) hx hb dX5_put_4 (by decide) (fun c_13 => ?_) (fun c_13 => absurd c_13 (by decide))
  exact m_vret (upd (upd (upd (upd f 0 (vp_nar .byte ((p0 >>> (24 &&& 31)).toInt8.toInt32))) 1 (vp_nar .byte ((p0 >>> (16 &&& 31)).toInt8.toInt32))) 2 (vp_nar .byte ((p0 >>> (8 &&& 31)).toInt8.toInt32))) 3 (vp_nar .byte ((p0 >>> (0 &&& 31)).toInt8.toInt32))) C0 h [0, 1] (by decide) rfl trivial (Nat.le_of_ble_eq_true rfl) (Nat.le_of_ble_eq_true rfl) dX5_put_46
set_option maxHeartbeats 4000000 in
set_option maxRecDepth 100000 in
theorem c_X5_put_4 (l : Launch) (G : GG) (a : Nat) (r : Nat → Nat) (v : Nat → Nat) (z : Nat → Nat) (f : Nat → Int32) (p0 : Int32) : Mt l yX5_put cX5_put 3 none 0 0 0 G [.ref a, .int p0] [(a, .inr (5, [.ref (r 1), .ref (z 0), .int 4, .int 0, .int 0, .int 0, .int 0, .int 0, .int 0, .int (-1), .ref (v 0)])), (z 0, .inl (G.2 0, 900, .inl f))] (Rv (S := (Nat → Int32)) G (fun _ => True) (fun g => [(a, .inr (5, [.ref (r 1), .ref (z 0), .int 8, .int 0, .int 0, .int 0, .int 0, .int 0, .int 0, .int (-1), .ref (v 0)])), (z 0, .inl (G.2 0, 900, .inl g))])) := by
  refine Mt.start (by decide) (Nat.le_of_ble_eq_true rfl) ?_
  intro p e s m below meth c A ls C0 hini h hl
  have C0 : Cx p s m _ meth c RX5 cX5_put 3 none := C0
  obtain ⟨hx, hb, hml, hown, hts, -⟩ := id C0
  have hl : lv_has ls 3 [(0, .ref a), (1, .int p0)] := hl
  refine lv_bipush (v := 24) hx hb dX5_put_0 (by decide) ?_
  refine lv_istore_n (lv' := [(2, .int 24), (0, .ref a), (1, .int p0)]) hx hb dX5_put_2 rfl hl (by decide) rfl (fun ls hl => ?_)
  refine lv_iload_n hx hb dX5_put_3 rfl (lv_at hl 0 rfl) ?_
  refine lv_if_lt (tgt := 46) hx hb dX5_put_4 (by decide) (fun c_1 => absurd c_1 (by decide)) (fun c_1 => ?_)
  refine lv_aload_n hx hb dX5_put_7 rfl (lv_at hl 1 rfl) ?_
  refine g_X5_fed C0 h 0 q_372 rfl rfl dX5_put_8 ?_
  refine lv_sipush (v := 900) hx hb dX5_put_11 (by decide) ?_
  refine lv_icmp_ge (tgt := 46) hx hb dX5_put_14 (by decide) (fun c_2 => absurd c_2 (by decide)) (fun c_2 => ?_)
  refine lv_aload_n hx hb dX5_put_17 rfl (lv_at hl 1 rfl) ?_
  refine g_X5_tape C0 h 0 q_371 rfl rfl dX5_put_18 ?_
  refine lv_aload_n hx hb dX5_put_21 rfl (lv_at hl 1 rfl) ?_
  refine g_X5_fed C0 h 0 q_372 rfl rfl dX5_put_22 ?_
  refine lv_iload_n hx hb dX5_put_25 rfl (lv_at hl 2 rfl) ?_
  refine lv_iload_n hx hb dX5_put_26 rfl (lv_at hl 0 rfl) ?_
  refine lv_ishr hx hb dX5_put_27 ?_
  refine lv_i2b (v := (p0 >>> (24 &&& 31)).toInt8.toInt32) hx hb dX5_put_28 rfl ?_
  refine m_bast (ws' := [(a, .inr (5, [.ref (r 1), .ref (z 0), .int 4, .int 0, .int 0, .int 0, .int 0, .int 0, .int 0, .int (-1), .ref (v 0)])), (z 0, .inl (G.2 0, 900, .inl (upd f 4 (vp_nar .byte ((p0 >>> (24 &&& 31)).toInt8.toInt32)))))]) C0 h 1 4 rfl (by decide) (by decide) (by decide) rfl dX5_put_29 (fun H locs h => ?_)
  refine lv_aload_n hx hb dX5_put_30 rfl (lv_at hl 1 rfl) ?_
  refine lv_dup hx hb dX5_put_31 rfl ?_
  refine g_X5_fed C0 h 0 q_372 rfl rfl dX5_put_32 ?_
  refine lv_iconst (v := 1) hx hb dX5_put_35 (by decide) ?_
  refine lv_iadd hx hb dX5_put_36 ?_
  refine lv_topi (fun k_3 ek_3 => ?_)
  obtain rfl : k_3 = 5 := ek_3.trans (by decide)
  refine p_X5_fed (ws' := [(a, .inr (5, [.ref (r 1), .ref (z 0), .int 5, .int 0, .int 0, .int 0, .int 0, .int 0, .int 0, .int (-1), .ref (v 0)])), (z 0, .inl (G.2 0, 900, .inl (upd f 4 (vp_nar .byte ((p0 >>> (24 &&& 31)).toInt8.toInt32)))))]) C0 h 0 q_372 rfl (Nat.le_of_ble_eq_true rfl) rfl rfl rfl dX5_put_37 (fun H locs h => ?_)
  refine lv_iinc (v := 16) (lv' := [(2, .int 16), (0, .ref a), (1, .int p0)]) hx hb dX5_put_40 hl (k := 0) rfl (by decide) (by decide) rfl (fun ls hl => ?_)
  refine lv_goto (tgt := 3) hx hb dX5_put_43 (by decide) ?_
  refine lv_iload_n hx hb dX5_put_3 rfl (lv_at hl 0 rfl) ?_
  refine lv_if_lt (tgt := 46) hx hb dX5_put_4 (by decide) (fun c_4 => absurd c_4 (by decide)) (fun c_4 => ?_)
  refine lv_aload_n hx hb dX5_put_7 rfl (lv_at hl 1 rfl) ?_
  refine g_X5_fed C0 h 0 q_372 rfl rfl dX5_put_8 ?_
  refine lv_sipush (v := 900) hx hb dX5_put_11 (by decide) ?_
  refine lv_icmp_ge (tgt := 46) hx hb dX5_put_14 (by decide) (fun c_5 => absurd c_5 (by decide)) (fun c_5 => ?_)
  refine lv_aload_n hx hb dX5_put_17 rfl (lv_at hl 1 rfl) ?_
  refine g_X5_tape C0 h 0 q_371 rfl rfl dX5_put_18 ?_
  refine lv_aload_n hx hb dX5_put_21 rfl (lv_at hl 1 rfl) ?_
  refine g_X5_fed C0 h 0 q_372 rfl rfl dX5_put_22 ?_
  refine lv_iload_n hx hb dX5_put_25 rfl (lv_at hl 2 rfl) ?_
  refine lv_iload_n hx hb dX5_put_26 rfl (lv_at hl 0 rfl) ?_
  refine lv_ishr hx hb dX5_put_27 ?_
  refine lv_i2b (v := (p0 >>> (16 &&& 31)).toInt8.toInt32) hx hb dX5_put_28 rfl ?_
  refine m_bast (ws' := [(a, .inr (5, [.ref (r 1), .ref (z 0), .int 5, .int 0, .int 0, .int 0, .int 0, .int 0, .int 0, .int (-1), .ref (v 0)])), (z 0, .inl (G.2 0, 900, .inl (upd (upd f 4 (vp_nar .byte ((p0 >>> (24 &&& 31)).toInt8.toInt32))) 5 (vp_nar .byte ((p0 >>> (16 &&& 31)).toInt8.toInt32)))))]) C0 h 1 5 rfl (by decide) (by decide) (by decide) rfl dX5_put_29 (fun H locs h => ?_)
  refine lv_aload_n hx hb dX5_put_30 rfl (lv_at hl 1 rfl) ?_
  refine lv_dup hx hb dX5_put_31 rfl ?_
  refine g_X5_fed C0 h 0 q_372 rfl rfl dX5_put_32 ?_
  refine lv_iconst (v := 1) hx hb dX5_put_35 (by decide) ?_
  refine lv_iadd hx hb dX5_put_36 ?_
  refine lv_topi (fun k_6 ek_6 => ?_)
  obtain rfl : k_6 = 6 := ek_6.trans (by decide)
  refine p_X5_fed (ws' := [(a, .inr (5, [.ref (r 1), .ref (z 0), .int 6, .int 0, .int 0, .int 0, .int 0, .int 0, .int 0, .int (-1), .ref (v 0)])), (z 0, .inl (G.2 0, 900, .inl (upd (upd f 4 (vp_nar .byte ((p0 >>> (24 &&& 31)).toInt8.toInt32))) 5 (vp_nar .byte ((p0 >>> (16 &&& 31)).toInt8.toInt32)))))]) C0 h 0 q_372 rfl (Nat.le_of_ble_eq_true rfl) rfl rfl rfl dX5_put_37 (fun H locs h => ?_)
  refine lv_iinc (v := 8) (lv' := [(2, .int 8), (0, .ref a), (1, .int p0)]) hx hb dX5_put_40 hl (k := 0) rfl (by decide) (by decide) rfl (fun ls hl => ?_)
  refine lv_goto (tgt := 3) hx hb dX5_put_43 (by decide) ?_
  refine lv_iload_n hx hb dX5_put_3 rfl (lv_at hl 0 rfl) ?_
  refine lv_if_lt (tgt := 46) hx hb dX5_put_4 (by decide) (fun c_7 => absurd c_7 (by decide)) (fun c_7 => ?_)
  refine lv_aload_n hx hb dX5_put_7 rfl (lv_at hl 1 rfl) ?_
  refine g_X5_fed C0 h 0 q_372 rfl rfl dX5_put_8 ?_
  refine lv_sipush (v := 900) hx hb dX5_put_11 (by decide) ?_
  refine lv_icmp_ge (tgt := 46) hx hb dX5_put_14 (by decide) (fun c_8 => absurd c_8 (by decide)) (fun c_8 => ?_)
  refine lv_aload_n hx hb dX5_put_17 rfl (lv_at hl 1 rfl) ?_
  refine g_X5_tape C0 h 0 q_371 rfl rfl dX5_put_18 ?_
  refine lv_aload_n hx hb dX5_put_21 rfl (lv_at hl 1 rfl) ?_
  refine g_X5_fed C0 h 0 q_372 rfl rfl dX5_put_22 ?_
  refine lv_iload_n hx hb dX5_put_25 rfl (lv_at hl 2 rfl) ?_
  refine lv_iload_n hx hb dX5_put_26 rfl (lv_at hl 0 rfl) ?_
  refine lv_ishr hx hb dX5_put_27 ?_
  refine lv_i2b (v := (p0 >>> (8 &&& 31)).toInt8.toInt32) hx hb dX5_put_28 rfl ?_
  refine m_bast (ws' := [(a, .inr (5, [.ref (r 1), .ref (z 0), .int 6, .int 0, .int 0, .int 0, .int 0, .int 0, .int 0, .int (-1), .ref (v 0)])), (z 0, .inl (G.2 0, 900, .inl (upd (upd (upd f 4 (vp_nar .byte ((p0 >>> (24 &&& 31)).toInt8.toInt32))) 5 (vp_nar .byte ((p0 >>> (16 &&& 31)).toInt8.toInt32))) 6 (vp_nar .byte ((p0 >>> (8 &&& 31)).toInt8.toInt32)))))]) C0 h 1 6 rfl (by decide) (by decide) (by decide) rfl dX5_put_29 (fun H locs h => ?_)
  refine lv_aload_n hx hb dX5_put_30 rfl (lv_at hl 1 rfl) ?_
  refine lv_dup hx hb dX5_put_31 rfl ?_
  refine g_X5_fed C0 h 0 q_372 rfl rfl dX5_put_32 ?_
  refine lv_iconst (v := 1) hx hb dX5_put_35 (by decide) ?_
  refine lv_iadd hx hb dX5_put_36 ?_
  refine lv_topi (fun k_9 ek_9 => ?_)
  obtain rfl : k_9 = 7 := ek_9.trans (by decide)
  refine p_X5_fed (ws' := [(a, .inr (5, [.ref (r 1), .ref (z 0), .int 7, .int 0, .int 0, .int 0, .int 0, .int 0, .int 0, .int (-1), .ref (v 0)])), (z 0, .inl (G.2 0, 900, .inl (upd (upd (upd f 4 (vp_nar .byte ((p0 >>> (24 &&& 31)).toInt8.toInt32))) 5 (vp_nar .byte ((p0 >>> (16 &&& 31)).toInt8.toInt32))) 6 (vp_nar .byte ((p0 >>> (8 &&& 31)).toInt8.toInt32)))))]) C0 h 0 q_372 rfl (Nat.le_of_ble_eq_true rfl) rfl rfl rfl dX5_put_37 (fun H locs h => ?_)
  refine lv_iinc (v := 0) (lv' := [(2, .int 0), (0, .ref a), (1, .int p0)]) hx hb dX5_put_40 hl (k := 0) rfl (by decide) (by decide) rfl (fun ls hl => ?_)
  refine lv_goto (tgt := 3) hx hb dX5_put_43 (by decide) ?_
  refine lv_iload_n hx hb dX5_put_3 rfl (lv_at hl 0 rfl) ?_
  refine lv_if_lt (tgt := 46) hx hb dX5_put_4 (by decide) (fun c_10 => absurd c_10 (by decide)) (fun c_10 => ?_)
  refine lv_aload_n hx hb dX5_put_7 rfl (lv_at hl 1 rfl) ?_
  refine g_X5_fed C0 h 0 q_372 rfl rfl dX5_put_8 ?_
  refine lv_sipush (v := 900) hx hb dX5_put_11 (by decide) ?_
  refine lv_icmp_ge (tgt := 46) hx hb dX5_put_14 (by decide) (fun c_11 => absurd c_11 (by decide)) (fun c_11 => ?_)
  refine lv_aload_n hx hb dX5_put_17 rfl (lv_at hl 1 rfl) ?_
  refine g_X5_tape C0 h 0 q_371 rfl rfl dX5_put_18 ?_
  refine lv_aload_n hx hb dX5_put_21 rfl (lv_at hl 1 rfl) ?_
  refine g_X5_fed C0 h 0 q_372 rfl rfl dX5_put_22 ?_
  refine lv_iload_n hx hb dX5_put_25 rfl (lv_at hl 2 rfl) ?_
  refine lv_iload_n hx hb dX5_put_26 rfl (lv_at hl 0 rfl) ?_
  refine lv_ishr hx hb dX5_put_27 ?_
  refine lv_i2b (v := (p0 >>> (0 &&& 31)).toInt8.toInt32) hx hb dX5_put_28 rfl ?_
  refine m_bast (ws' := [(a, .inr (5, [.ref (r 1), .ref (z 0), .int 7, .int 0, .int 0, .int 0, .int 0, .int 0, .int 0, .int (-1), .ref (v 0)])), (z 0, .inl (G.2 0, 900, .inl (upd (upd (upd (upd f 4 (vp_nar .byte ((p0 >>> (24 &&& 31)).toInt8.toInt32))) 5 (vp_nar .byte ((p0 >>> (16 &&& 31)).toInt8.toInt32))) 6 (vp_nar .byte ((p0 >>> (8 &&& 31)).toInt8.toInt32))) 7 (vp_nar .byte ((p0 >>> (0 &&& 31)).toInt8.toInt32)))))]) C0 h 1 7 rfl (by decide) (by decide) (by decide) rfl dX5_put_29 (fun H locs h => ?_)
  refine lv_aload_n hx hb dX5_put_30 rfl (lv_at hl 1 rfl) ?_
  refine lv_dup hx hb dX5_put_31 rfl ?_
  refine g_X5_fed C0 h 0 q_372 rfl rfl dX5_put_32 ?_
  refine lv_iconst (v := 1) hx hb dX5_put_35 (by decide) ?_
  refine lv_iadd hx hb dX5_put_36 ?_
  refine lv_topi (fun k_12 ek_12 => ?_)
  obtain rfl : k_12 = 8 := ek_12.trans (by decide)
  refine p_X5_fed (ws' := [(a, .inr (5, [.ref (r 1), .ref (z 0), .int 8, .int 0, .int 0, .int 0, .int 0, .int 0, .int 0, .int (-1), .ref (v 0)])), (z 0, .inl (G.2 0, 900, .inl (upd (upd (upd (upd f 4 (vp_nar .byte ((p0 >>> (24 &&& 31)).toInt8.toInt32))) 5 (vp_nar .byte ((p0 >>> (16 &&& 31)).toInt8.toInt32))) 6 (vp_nar .byte ((p0 >>> (8 &&& 31)).toInt8.toInt32))) 7 (vp_nar .byte ((p0 >>> (0 &&& 31)).toInt8.toInt32)))))]) C0 h 0 q_372 rfl (Nat.le_of_ble_eq_true rfl) rfl rfl rfl dX5_put_37 (fun H locs h => ?_)
  refine lv_iinc (v := (-8)) (lv' := [(2, .int (-8)), (0, .ref a), (1, .int p0)]) hx hb dX5_put_40 hl (k := 0) rfl (by decide) (by decide) rfl (fun ls hl => ?_)
  refine lv_goto (tgt := 3) hx hb dX5_put_43 (by decide) ?_
  refine lv_iload_n hx hb dX5_put_3 rfl (lv_at hl 0 rfl) ?_
  refine lv_if_lt (tgt := 46) hx hb dX5_put_4 (by decide) (fun c_13 => ?_) (fun c_13 => absurd c_13 (by decide))
  exact m_vret (upd (upd (upd (upd f 4 (vp_nar .byte ((p0 >>> (24 &&& 31)).toInt8.toInt32))) 5 (vp_nar .byte ((p0 >>> (16 &&& 31)).toInt8.toInt32))) 6 (vp_nar .byte ((p0 >>> (8 &&& 31)).toInt8.toInt32))) 7 (vp_nar .byte ((p0 >>> (0 &&& 31)).toInt8.toInt32))) C0 h [0, 1] (by decide) rfl trivial (Nat.le_of_ble_eq_true rfl) (Nat.le_of_ble_eq_true rfl) dX5_put_46
set_option maxHeartbeats 4000000 in
set_option maxRecDepth 100000 in
theorem c_X5_put_8 (l : Launch) (G : GG) (a : Nat) (r : Nat → Nat) (v : Nat → Nat) (z : Nat → Nat) (f : Nat → Int32) (p0 : Int32) : Mt l yX5_put cX5_put 3 none 0 0 0 G [.ref a, .int p0] [(a, .inr (5, [.ref (r 1), .ref (z 0), .int 8, .int 0, .int 0, .int 0, .int 0, .int 0, .int 0, .int (-1), .ref (v 0)])), (z 0, .inl (G.2 0, 900, .inl f))] (Rv (S := (Nat → Int32)) G (fun _ => True) (fun g => [(a, .inr (5, [.ref (r 1), .ref (z 0), .int 12, .int 0, .int 0, .int 0, .int 0, .int 0, .int 0, .int (-1), .ref (v 0)])), (z 0, .inl (G.2 0, 900, .inl g))])) := by
  refine Mt.start (by decide) (Nat.le_of_ble_eq_true rfl) ?_
  intro p e s m below meth c A ls C0 hini h hl
  have C0 : Cx p s m _ meth c RX5 cX5_put 3 none := C0
  obtain ⟨hx, hb, hml, hown, hts, -⟩ := id C0
  have hl : lv_has ls 3 [(0, .ref a), (1, .int p0)] := hl
  refine lv_bipush (v := 24) hx hb dX5_put_0 (by decide) ?_
  refine lv_istore_n (lv' := [(2, .int 24), (0, .ref a), (1, .int p0)]) hx hb dX5_put_2 rfl hl (by decide) rfl (fun ls hl => ?_)
  refine lv_iload_n hx hb dX5_put_3 rfl (lv_at hl 0 rfl) ?_
  refine lv_if_lt (tgt := 46) hx hb dX5_put_4 (by decide) (fun c_1 => absurd c_1 (by decide)) (fun c_1 => ?_)
  refine lv_aload_n hx hb dX5_put_7 rfl (lv_at hl 1 rfl) ?_
  refine g_X5_fed C0 h 0 q_372 rfl rfl dX5_put_8 ?_
  refine lv_sipush (v := 900) hx hb dX5_put_11 (by decide) ?_
  refine lv_icmp_ge (tgt := 46) hx hb dX5_put_14 (by decide) (fun c_2 => absurd c_2 (by decide)) (fun c_2 => ?_)
  refine lv_aload_n hx hb dX5_put_17 rfl (lv_at hl 1 rfl) ?_
  refine g_X5_tape C0 h 0 q_371 rfl rfl dX5_put_18 ?_
  refine lv_aload_n hx hb dX5_put_21 rfl (lv_at hl 1 rfl) ?_
  refine g_X5_fed C0 h 0 q_372 rfl rfl dX5_put_22 ?_
  refine lv_iload_n hx hb dX5_put_25 rfl (lv_at hl 2 rfl) ?_
  refine lv_iload_n hx hb dX5_put_26 rfl (lv_at hl 0 rfl) ?_
  refine lv_ishr hx hb dX5_put_27 ?_
  refine lv_i2b (v := (p0 >>> (24 &&& 31)).toInt8.toInt32) hx hb dX5_put_28 rfl ?_
  refine m_bast (ws' := [(a, .inr (5, [.ref (r 1), .ref (z 0), .int 8, .int 0, .int 0, .int 0, .int 0, .int 0, .int 0, .int (-1), .ref (v 0)])), (z 0, .inl (G.2 0, 900, .inl (upd f 8 (vp_nar .byte ((p0 >>> (24 &&& 31)).toInt8.toInt32)))))]) C0 h 1 8 rfl (by decide) (by decide) (by decide) rfl dX5_put_29 (fun H locs h => ?_)
  refine lv_aload_n hx hb dX5_put_30 rfl (lv_at hl 1 rfl) ?_
  refine lv_dup hx hb dX5_put_31 rfl ?_
  refine g_X5_fed C0 h 0 q_372 rfl rfl dX5_put_32 ?_
  refine lv_iconst (v := 1) hx hb dX5_put_35 (by decide) ?_
  refine lv_iadd hx hb dX5_put_36 ?_
  refine lv_topi (fun k_3 ek_3 => ?_)
  obtain rfl : k_3 = 9 := ek_3.trans (by decide)
  refine p_X5_fed (ws' := [(a, .inr (5, [.ref (r 1), .ref (z 0), .int 9, .int 0, .int 0, .int 0, .int 0, .int 0, .int 0, .int (-1), .ref (v 0)])), (z 0, .inl (G.2 0, 900, .inl (upd f 8 (vp_nar .byte ((p0 >>> (24 &&& 31)).toInt8.toInt32)))))]) C0 h 0 q_372 rfl (Nat.le_of_ble_eq_true rfl) rfl rfl rfl dX5_put_37 (fun H locs h => ?_)
  refine lv_iinc (v := 16) (lv' := [(2, .int 16), (0, .ref a), (1, .int p0)]) hx hb dX5_put_40 hl (k := 0) rfl (by decide) (by decide) rfl (fun ls hl => ?_)
  refine lv_goto (tgt := 3) hx hb dX5_put_43 (by decide) ?_
  refine lv_iload_n hx hb dX5_put_3 rfl (lv_at hl 0 rfl) ?_
  refine lv_if_lt (tgt := 46) hx hb dX5_put_4 (by decide) (fun c_4 => absurd c_4 (by decide)) (fun c_4 => ?_)
  refine lv_aload_n hx hb dX5_put_7 rfl (lv_at hl 1 rfl) ?_
  refine g_X5_fed C0 h 0 q_372 rfl rfl dX5_put_8 ?_
  refine lv_sipush (v := 900) hx hb dX5_put_11 (by decide) ?_
  refine lv_icmp_ge (tgt := 46) hx hb dX5_put_14 (by decide) (fun c_5 => absurd c_5 (by decide)) (fun c_5 => ?_)
  refine lv_aload_n hx hb dX5_put_17 rfl (lv_at hl 1 rfl) ?_
  refine g_X5_tape C0 h 0 q_371 rfl rfl dX5_put_18 ?_
  refine lv_aload_n hx hb dX5_put_21 rfl (lv_at hl 1 rfl) ?_
  refine g_X5_fed C0 h 0 q_372 rfl rfl dX5_put_22 ?_
  refine lv_iload_n hx hb dX5_put_25 rfl (lv_at hl 2 rfl) ?_
  refine lv_iload_n hx hb dX5_put_26 rfl (lv_at hl 0 rfl) ?_
  refine lv_ishr hx hb dX5_put_27 ?_
  refine lv_i2b (v := (p0 >>> (16 &&& 31)).toInt8.toInt32) hx hb dX5_put_28 rfl ?_
  refine m_bast (ws' := [(a, .inr (5, [.ref (r 1), .ref (z 0), .int 9, .int 0, .int 0, .int 0, .int 0, .int 0, .int 0, .int (-1), .ref (v 0)])), (z 0, .inl (G.2 0, 900, .inl (upd (upd f 8 (vp_nar .byte ((p0 >>> (24 &&& 31)).toInt8.toInt32))) 9 (vp_nar .byte ((p0 >>> (16 &&& 31)).toInt8.toInt32)))))]) C0 h 1 9 rfl (by decide) (by decide) (by decide) rfl dX5_put_29 (fun H locs h => ?_)
  refine lv_aload_n hx hb dX5_put_30 rfl (lv_at hl 1 rfl) ?_
  refine lv_dup hx hb dX5_put_31 rfl ?_
  refine g_X5_fed C0 h 0 q_372 rfl rfl dX5_put_32 ?_
  refine lv_iconst (v := 1) hx hb dX5_put_35 (by decide) ?_
  refine lv_iadd hx hb dX5_put_36 ?_
  refine lv_topi (fun k_6 ek_6 => ?_)
  obtain rfl : k_6 = 10 := ek_6.trans (by decide)
  refine p_X5_fed (ws' := [(a, .inr (5, [.ref (r 1), .ref (z 0), .int 10, .int 0, .int 0, .int 0, .int 0, .int 0, .int 0, .int (-1), .ref (v 0)])), (z 0, .inl (G.2 0, 900, .inl (upd (upd f 8 (vp_nar .byte ((p0 >>> (24 &&& 31)).toInt8.toInt32))) 9 (vp_nar .byte ((p0 >>> (16 &&& 31)).toInt8.toInt32)))))]) C0 h 0 q_372 rfl (Nat.le_of_ble_eq_true rfl) rfl rfl rfl dX5_put_37 (fun H locs h => ?_)
  refine lv_iinc (v := 8) (lv' := [(2, .int 8), (0, .ref a), (1, .int p0)]) hx hb dX5_put_40 hl (k := 0) rfl (by decide) (by decide) rfl (fun ls hl => ?_)
  refine lv_goto (tgt := 3) hx hb dX5_put_43 (by decide) ?_
  refine lv_iload_n hx hb dX5_put_3 rfl (lv_at hl 0 rfl) ?_
  refine lv_if_lt (tgt := 46) hx hb dX5_put_4 (by decide) (fun c_7 => absurd c_7 (by decide)) (fun c_7 => ?_)
  refine lv_aload_n hx hb dX5_put_7 rfl (lv_at hl 1 rfl) ?_
  refine g_X5_fed C0 h 0 q_372 rfl rfl dX5_put_8 ?_
  refine lv_sipush (v := 900) hx hb dX5_put_11 (by decide) ?_
  refine lv_icmp_ge (tgt := 46) hx hb dX5_put_14 (by decide) (fun c_8 => absurd c_8 (by decide)) (fun c_8 => ?_)
  refine lv_aload_n hx hb dX5_put_17 rfl (lv_at hl 1 rfl) ?_
  refine g_X5_tape C0 h 0 q_371 rfl rfl dX5_put_18 ?_
  refine lv_aload_n hx hb dX5_put_21 rfl (lv_at hl 1 rfl) ?_
  refine g_X5_fed C0 h 0 q_372 rfl rfl dX5_put_22 ?_
  refine lv_iload_n hx hb dX5_put_25 rfl (lv_at hl 2 rfl) ?_
  refine lv_iload_n hx hb dX5_put_26 rfl (lv_at hl 0 rfl) ?_
  refine lv_ishr hx hb dX5_put_27 ?_
  refine lv_i2b (v := (p0 >>> (8 &&& 31)).toInt8.toInt32) hx hb dX5_put_28 rfl ?_
  refine m_bast (ws' := [(a, .inr (5, [.ref (r 1), .ref (z 0), .int 10, .int 0, .int 0, .int 0, .int 0, .int 0, .int 0, .int (-1), .ref (v 0)])), (z 0, .inl (G.2 0, 900, .inl (upd (upd (upd f 8 (vp_nar .byte ((p0 >>> (24 &&& 31)).toInt8.toInt32))) 9 (vp_nar .byte ((p0 >>> (16 &&& 31)).toInt8.toInt32))) 10 (vp_nar .byte ((p0 >>> (8 &&& 31)).toInt8.toInt32)))))]) C0 h 1 10 rfl (by decide) (by decide) (by decide) rfl dX5_put_29 (fun H locs h => ?_)
  refine lv_aload_n hx hb dX5_put_30 rfl (lv_at hl 1 rfl) ?_
  refine lv_dup hx hb dX5_put_31 rfl ?_
  refine g_X5_fed C0 h 0 q_372 rfl rfl dX5_put_32 ?_
  refine lv_iconst (v := 1) hx hb dX5_put_35 (by decide) ?_
  refine lv_iadd hx hb dX5_put_36 ?_
  refine lv_topi (fun k_9 ek_9 => ?_)
  obtain rfl : k_9 = 11 := ek_9.trans (by decide)
  refine p_X5_fed (ws' := [(a, .inr (5, [.ref (r 1), .ref (z 0), .int 11, .int 0, .int 0, .int 0, .int 0, .int 0, .int 0, .int (-1), .ref (v 0)])), (z 0, .inl (G.2 0, 900, .inl (upd (upd (upd f 8 (vp_nar .byte ((p0 >>> (24 &&& 31)).toInt8.toInt32))) 9 (vp_nar .byte ((p0 >>> (16 &&& 31)).toInt8.toInt32))) 10 (vp_nar .byte ((p0 >>> (8 &&& 31)).toInt8.toInt32)))))]) C0 h 0 q_372 rfl (Nat.le_of_ble_eq_true rfl) rfl rfl rfl dX5_put_37 (fun H locs h => ?_)
  refine lv_iinc (v := 0) (lv' := [(2, .int 0), (0, .ref a), (1, .int p0)]) hx hb dX5_put_40 hl (k := 0) rfl (by decide) (by decide) rfl (fun ls hl => ?_)
  refine lv_goto (tgt := 3) hx hb dX5_put_43 (by decide) ?_
  refine lv_iload_n hx hb dX5_put_3 rfl (lv_at hl 0 rfl) ?_
  refine lv_if_lt (tgt := 46) hx hb dX5_put_4 (by decide) (fun c_10 => absurd c_10 (by decide)) (fun c_10 => ?_)
  refine lv_aload_n hx hb dX5_put_7 rfl (lv_at hl 1 rfl) ?_
  refine g_X5_fed C0 h 0 q_372 rfl rfl dX5_put_8 ?_
  refine lv_sipush (v := 900) hx hb dX5_put_11 (by decide) ?_
  refine lv_icmp_ge (tgt := 46) hx hb dX5_put_14 (by decide) (fun c_11 => absurd c_11 (by decide)) (fun c_11 => ?_)
  refine lv_aload_n hx hb dX5_put_17 rfl (lv_at hl 1 rfl) ?_
  refine g_X5_tape C0 h 0 q_371 rfl rfl dX5_put_18 ?_
  refine lv_aload_n hx hb dX5_put_21 rfl (lv_at hl 1 rfl) ?_
  refine g_X5_fed C0 h 0 q_372 rfl rfl dX5_put_22 ?_
  refine lv_iload_n hx hb dX5_put_25 rfl (lv_at hl 2 rfl) ?_
  refine lv_iload_n hx hb dX5_put_26 rfl (lv_at hl 0 rfl) ?_
  refine lv_ishr hx hb dX5_put_27 ?_
  refine lv_i2b (v := (p0 >>> (0 &&& 31)).toInt8.toInt32) hx hb dX5_put_28 rfl ?_
  refine m_bast (ws' := [(a, .inr (5, [.ref (r 1), .ref (z 0), .int 11, .int 0, .int 0, .int 0, .int 0, .int 0, .int 0, .int (-1), .ref (v 0)])), (z 0, .inl (G.2 0, 900, .inl (upd (upd (upd (upd f 8 (vp_nar .byte ((p0 >>> (24 &&& 31)).toInt8.toInt32))) 9 (vp_nar .byte ((p0 >>> (16 &&& 31)).toInt8.toInt32))) 10 (vp_nar .byte ((p0 >>> (8 &&& 31)).toInt8.toInt32))) 11 (vp_nar .byte ((p0 >>> (0 &&& 31)).toInt8.toInt32)))))]) C0 h 1 11 rfl (by decide) (by decide) (by decide) rfl dX5_put_29 (fun H locs h => ?_)
  refine lv_aload_n hx hb dX5_put_30 rfl (lv_at hl 1 rfl) ?_
  refine lv_dup hx hb dX5_put_31 rfl ?_
  refine g_X5_fed C0 h 0 q_372 rfl rfl dX5_put_32 ?_
  refine lv_iconst (v := 1) hx hb dX5_put_35 (by decide) ?_
  refine lv_iadd hx hb dX5_put_36 ?_
  refine lv_topi (fun k_12 ek_12 => ?_)
  obtain rfl : k_12 = 12 := ek_12.trans (by decide)
  refine p_X5_fed (ws' := [(a, .inr (5, [.ref (r 1), .ref (z 0), .int 12, .int 0, .int 0, .int 0, .int 0, .int 0, .int 0, .int (-1), .ref (v 0)])), (z 0, .inl (G.2 0, 900, .inl (upd (upd (upd (upd f 8 (vp_nar .byte ((p0 >>> (24 &&& 31)).toInt8.toInt32))) 9 (vp_nar .byte ((p0 >>> (16 &&& 31)).toInt8.toInt32))) 10 (vp_nar .byte ((p0 >>> (8 &&& 31)).toInt8.toInt32))) 11 (vp_nar .byte ((p0 >>> (0 &&& 31)).toInt8.toInt32)))))]) C0 h 0 q_372 rfl (Nat.le_of_ble_eq_true rfl) rfl rfl rfl dX5_put_37 (fun H locs h => ?_)
  refine lv_iinc (v := (-8)) (lv' := [(2, .int (-8)), (0, .ref a), (1, .int p0)]) hx hb dX5_put_40 hl (k := 0) rfl (by decide) (by decide) rfl (fun ls hl => ?_)
  refine lv_goto (tgt := 3) hx hb dX5_put_43 (by decide) ?_
  refine lv_iload_n hx hb dX5_put_3 rfl (lv_at hl 0 rfl) ?_
  refine lv_if_lt (tgt := 46) hx hb dX5_put_4 (by decide) (fun c_13 => ?_) (fun c_13 => absurd c_13 (by decide))
  exact m_vret (upd (upd (upd (upd f 8 (vp_nar .byte ((p0 >>> (24 &&& 31)).toInt8.toInt32))) 9 (vp_nar .byte ((p0 >>> (16 &&& 31)).toInt8.toInt32))) 10 (vp_nar .byte ((p0 >>> (8 &&& 31)).toInt8.toInt32))) 11 (vp_nar .byte ((p0 >>> (0 &&& 31)).toInt8.toInt32))) C0 h [0, 1] (by decide) rfl trivial (Nat.le_of_ble_eq_true rfl) (Nat.le_of_ble_eq_true rfl) dX5_put_46
set_option maxHeartbeats 4000000 in
set_option maxRecDepth 100000 in
theorem c_X5_put_12 (l : Launch) (G : GG) (a : Nat) (r : Nat → Nat) (v : Nat → Nat) (z : Nat → Nat) (f : Nat → Int32) (p0 : Int32) : Mt l yX5_put cX5_put 3 none 0 0 0 G [.ref a, .int p0] [(a, .inr (5, [.ref (r 1), .ref (z 0), .int 12, .int 0, .int 0, .int 0, .int 0, .int 0, .int 0, .int (-1), .ref (v 0)])), (z 0, .inl (G.2 0, 900, .inl f))] (Rv (S := (Nat → Int32)) G (fun _ => True) (fun g => [(a, .inr (5, [.ref (r 1), .ref (z 0), .int 16, .int 0, .int 0, .int 0, .int 0, .int 0, .int 0, .int (-1), .ref (v 0)])), (z 0, .inl (G.2 0, 900, .inl g))])) := by
  refine Mt.start (by decide) (Nat.le_of_ble_eq_true rfl) ?_
  intro p e s m below meth c A ls C0 hini h hl
  have C0 : Cx p s m _ meth c RX5 cX5_put 3 none := C0
  obtain ⟨hx, hb, hml, hown, hts, -⟩ := id C0
  have hl : lv_has ls 3 [(0, .ref a), (1, .int p0)] := hl
  refine lv_bipush (v := 24) hx hb dX5_put_0 (by decide) ?_
  refine lv_istore_n (lv' := [(2, .int 24), (0, .ref a), (1, .int p0)]) hx hb dX5_put_2 rfl hl (by decide) rfl (fun ls hl => ?_)
  refine lv_iload_n hx hb dX5_put_3 rfl (lv_at hl 0 rfl) ?_
  refine lv_if_lt (tgt := 46) hx hb dX5_put_4 (by decide) (fun c_1 => absurd c_1 (by decide)) (fun c_1 => ?_)
  refine lv_aload_n hx hb dX5_put_7 rfl (lv_at hl 1 rfl) ?_
  refine g_X5_fed C0 h 0 q_372 rfl rfl dX5_put_8 ?_
  refine lv_sipush (v := 900) hx hb dX5_put_11 (by decide) ?_
  refine lv_icmp_ge (tgt := 46) hx hb dX5_put_14 (by decide) (fun c_2 => absurd c_2 (by decide)) (fun c_2 => ?_)
  refine lv_aload_n hx hb dX5_put_17 rfl (lv_at hl 1 rfl) ?_
  refine g_X5_tape C0 h 0 q_371 rfl rfl dX5_put_18 ?_
  refine lv_aload_n hx hb dX5_put_21 rfl (lv_at hl 1 rfl) ?_
  refine g_X5_fed C0 h 0 q_372 rfl rfl dX5_put_22 ?_
  refine lv_iload_n hx hb dX5_put_25 rfl (lv_at hl 2 rfl) ?_
  refine lv_iload_n hx hb dX5_put_26 rfl (lv_at hl 0 rfl) ?_
  refine lv_ishr hx hb dX5_put_27 ?_
  refine lv_i2b (v := (p0 >>> (24 &&& 31)).toInt8.toInt32) hx hb dX5_put_28 rfl ?_
  refine m_bast (ws' := [(a, .inr (5, [.ref (r 1), .ref (z 0), .int 12, .int 0, .int 0, .int 0, .int 0, .int 0, .int 0, .int (-1), .ref (v 0)])), (z 0, .inl (G.2 0, 900, .inl (upd f 12 (vp_nar .byte ((p0 >>> (24 &&& 31)).toInt8.toInt32)))))]) C0 h 1 12 rfl (by decide) (by decide) (by decide) rfl dX5_put_29 (fun H locs h => ?_)
  refine lv_aload_n hx hb dX5_put_30 rfl (lv_at hl 1 rfl) ?_
  refine lv_dup hx hb dX5_put_31 rfl ?_
  refine g_X5_fed C0 h 0 q_372 rfl rfl dX5_put_32 ?_
  refine lv_iconst (v := 1) hx hb dX5_put_35 (by decide) ?_
  refine lv_iadd hx hb dX5_put_36 ?_
  refine lv_topi (fun k_3 ek_3 => ?_)
  obtain rfl : k_3 = 13 := ek_3.trans (by decide)
  refine p_X5_fed (ws' := [(a, .inr (5, [.ref (r 1), .ref (z 0), .int 13, .int 0, .int 0, .int 0, .int 0, .int 0, .int 0, .int (-1), .ref (v 0)])), (z 0, .inl (G.2 0, 900, .inl (upd f 12 (vp_nar .byte ((p0 >>> (24 &&& 31)).toInt8.toInt32)))))]) C0 h 0 q_372 rfl (Nat.le_of_ble_eq_true rfl) rfl rfl rfl dX5_put_37 (fun H locs h => ?_)
  refine lv_iinc (v := 16) (lv' := [(2, .int 16), (0, .ref a), (1, .int p0)]) hx hb dX5_put_40 hl (k := 0) rfl (by decide) (by decide) rfl (fun ls hl => ?_)
  refine lv_goto (tgt := 3) hx hb dX5_put_43 (by decide) ?_
  refine lv_iload_n hx hb dX5_put_3 rfl (lv_at hl 0 rfl) ?_
  refine lv_if_lt (tgt := 46) hx hb dX5_put_4 (by decide) (fun c_4 => absurd c_4 (by decide)) (fun c_4 => ?_)
  refine lv_aload_n hx hb dX5_put_7 rfl (lv_at hl 1 rfl) ?_
  refine g_X5_fed C0 h 0 q_372 rfl rfl dX5_put_8 ?_
  refine lv_sipush (v := 900) hx hb dX5_put_11 (by decide) ?_
  refine lv_icmp_ge (tgt := 46) hx hb dX5_put_14 (by decide) (fun c_5 => absurd c_5 (by decide)) (fun c_5 => ?_)
  refine lv_aload_n hx hb dX5_put_17 rfl (lv_at hl 1 rfl) ?_
  refine g_X5_tape C0 h 0 q_371 rfl rfl dX5_put_18 ?_
  refine lv_aload_n hx hb dX5_put_21 rfl (lv_at hl 1 rfl) ?_
  refine g_X5_fed C0 h 0 q_372 rfl rfl dX5_put_22 ?_
  refine lv_iload_n hx hb dX5_put_25 rfl (lv_at hl 2 rfl) ?_
  refine lv_iload_n hx hb dX5_put_26 rfl (lv_at hl 0 rfl) ?_
  refine lv_ishr hx hb dX5_put_27 ?_
  refine lv_i2b (v := (p0 >>> (16 &&& 31)).toInt8.toInt32) hx hb dX5_put_28 rfl ?_
  refine m_bast (ws' := [(a, .inr (5, [.ref (r 1), .ref (z 0), .int 13, .int 0, .int 0, .int 0, .int 0, .int 0, .int 0, .int (-1), .ref (v 0)])), (z 0, .inl (G.2 0, 900, .inl (upd (upd f 12 (vp_nar .byte ((p0 >>> (24 &&& 31)).toInt8.toInt32))) 13 (vp_nar .byte ((p0 >>> (16 &&& 31)).toInt8.toInt32)))))]) C0 h 1 13 rfl (by decide) (by decide) (by decide) rfl dX5_put_29 (fun H locs h => ?_)
  refine lv_aload_n hx hb dX5_put_30 rfl (lv_at hl 1 rfl) ?_
  refine lv_dup hx hb dX5_put_31 rfl ?_
  refine g_X5_fed C0 h 0 q_372 rfl rfl dX5_put_32 ?_
  refine lv_iconst (v := 1) hx hb dX5_put_35 (by decide) ?_
  refine lv_iadd hx hb dX5_put_36 ?_
  refine lv_topi (fun k_6 ek_6 => ?_)
  obtain rfl : k_6 = 14 := ek_6.trans (by decide)
  refine p_X5_fed (ws' := [(a, .inr (5, [.ref (r 1), .ref (z 0), .int 14, .int 0, .int 0, .int 0, .int 0, .int 0, .int 0, .int (-1), .ref (v 0)])), (z 0, .inl (G.2 0, 900, .inl (upd (upd f 12 (vp_nar .byte ((p0 >>> (24 &&& 31)).toInt8.toInt32))) 13 (vp_nar .byte ((p0 >>> (16 &&& 31)).toInt8.toInt32)))))]) C0 h 0 q_372 rfl (Nat.le_of_ble_eq_true rfl) rfl rfl rfl dX5_put_37 (fun H locs h => ?_)
  refine lv_iinc (v := 8) (lv' := [(2, .int 8), (0, .ref a), (1, .int p0)]) hx hb dX5_put_40 hl (k := 0) rfl (by decide) (by decide) rfl (fun ls hl => ?_)
  refine lv_goto (tgt := 3) hx hb dX5_put_43 (by decide) ?_
  refine lv_iload_n hx hb dX5_put_3 rfl (lv_at hl 0 rfl) ?_
  refine lv_if_lt (tgt := 46) hx hb dX5_put_4 (by decide) (fun c_7 => absurd c_7 (by decide)) (fun c_7 => ?_)
  refine lv_aload_n hx hb dX5_put_7 rfl (lv_at hl 1 rfl) ?_
  refine g_X5_fed C0 h 0 q_372 rfl rfl dX5_put_8 ?_
  refine lv_sipush (v := 900) hx hb dX5_put_11 (by decide) ?_
  refine lv_icmp_ge (tgt := 46) hx hb dX5_put_14 (by decide) (fun c_8 => absurd c_8 (by decide)) (fun c_8 => ?_)
  refine lv_aload_n hx hb dX5_put_17 rfl (lv_at hl 1 rfl) ?_
  refine g_X5_tape C0 h 0 q_371 rfl rfl dX5_put_18 ?_
  refine lv_aload_n hx hb dX5_put_21 rfl (lv_at hl 1 rfl) ?_
  refine g_X5_fed C0 h 0 q_372 rfl rfl dX5_put_22 ?_
  refine lv_iload_n hx hb dX5_put_25 rfl (lv_at hl 2 rfl) ?_
  refine lv_iload_n hx hb dX5_put_26 rfl (lv_at hl 0 rfl) ?_
  refine lv_ishr hx hb dX5_put_27 ?_
  refine lv_i2b (v := (p0 >>> (8 &&& 31)).toInt8.toInt32) hx hb dX5_put_28 rfl ?_
  refine m_bast (ws' := [(a, .inr (5, [.ref (r 1), .ref (z 0), .int 14, .int 0, .int 0, .int 0, .int 0, .int 0, .int 0, .int (-1), .ref (v 0)])), (z 0, .inl (G.2 0, 900, .inl (upd (upd (upd f 12 (vp_nar .byte ((p0 >>> (24 &&& 31)).toInt8.toInt32))) 13 (vp_nar .byte ((p0 >>> (16 &&& 31)).toInt8.toInt32))) 14 (vp_nar .byte ((p0 >>> (8 &&& 31)).toInt8.toInt32)))))]) C0 h 1 14 rfl (by decide) (by decide) (by decide) rfl dX5_put_29 (fun H locs h => ?_)
  refine lv_aload_n hx hb dX5_put_30 rfl (lv_at hl 1 rfl) ?_
  refine lv_dup hx hb dX5_put_31 rfl ?_
  refine g_X5_fed C0 h 0 q_372 rfl rfl dX5_put_32 ?_
  refine lv_iconst (v := 1) hx hb dX5_put_35 (by decide) ?_
  refine lv_iadd hx hb dX5_put_36 ?_
  refine lv_topi (fun k_9 ek_9 => ?_)
  obtain rfl : k_9 = 15 := ek_9.trans (by decide)
  refine p_X5_fed (ws' := [(a, .inr (5, [.ref (r 1), .ref (z 0), .int 15, .int 0, .int 0, .int 0, .int 0, .int 0, .int 0, .int (-1), .ref (v 0)])), (z 0, .inl (G.2 0, 900, .inl (upd (upd (upd f 12 (vp_nar .byte ((p0 >>> (24 &&& 31)).toInt8.toInt32))) 13 (vp_nar .byte ((p0 >>> (16 &&& 31)).toInt8.toInt32))) 14 (vp_nar .byte ((p0 >>> (8 &&& 31)).toInt8.toInt32)))))]) C0 h 0 q_372 rfl (Nat.le_of_ble_eq_true rfl) rfl rfl rfl dX5_put_37 (fun H locs h => ?_)
  refine lv_iinc (v := 0) (lv' := [(2, .int 0), (0, .ref a), (1, .int p0)]) hx hb dX5_put_40 hl (k := 0) rfl (by decide) (by decide) rfl (fun ls hl => ?_)
  refine lv_goto (tgt := 3) hx hb dX5_put_43 (by decide) ?_
  refine lv_iload_n hx hb dX5_put_3 rfl (lv_at hl 0 rfl) ?_
  refine lv_if_lt (tgt := 46) hx hb dX5_put_4 (by decide) (fun c_10 => absurd c_10 (by decide)) (fun c_10 => ?_)
  refine lv_aload_n hx hb dX5_put_7 rfl (lv_at hl 1 rfl) ?_
  refine g_X5_fed C0 h 0 q_372 rfl rfl dX5_put_8 ?_
  refine lv_sipush (v := 900) hx hb dX5_put_11 (by decide) ?_
  refine lv_icmp_ge (tgt := 46) hx hb dX5_put_14 (by decide) (fun c_11 => absurd c_11 (by decide)) (fun c_11 => ?_)
  refine lv_aload_n hx hb dX5_put_17 rfl (lv_at hl 1 rfl) ?_
  refine g_X5_tape C0 h 0 q_371 rfl rfl dX5_put_18 ?_
  refine lv_aload_n hx hb dX5_put_21 rfl (lv_at hl 1 rfl) ?_
  refine g_X5_fed C0 h 0 q_372 rfl rfl dX5_put_22 ?_
  refine lv_iload_n hx hb dX5_put_25 rfl (lv_at hl 2 rfl) ?_
  refine lv_iload_n hx hb dX5_put_26 rfl (lv_at hl 0 rfl) ?_
  refine lv_ishr hx hb dX5_put_27 ?_
  refine lv_i2b (v := (p0 >>> (0 &&& 31)).toInt8.toInt32) hx hb dX5_put_28 rfl ?_
  refine m_bast (ws' := [(a, .inr (5, [.ref (r 1), .ref (z 0), .int 15, .int 0, .int 0, .int 0, .int 0, .int 0, .int 0, .int (-1), .ref (v 0)])), (z 0, .inl (G.2 0, 900, .inl (upd (upd (upd (upd f 12 (vp_nar .byte ((p0 >>> (24 &&& 31)).toInt8.toInt32))) 13 (vp_nar .byte ((p0 >>> (16 &&& 31)).toInt8.toInt32))) 14 (vp_nar .byte ((p0 >>> (8 &&& 31)).toInt8.toInt32))) 15 (vp_nar .byte ((p0 >>> (0 &&& 31)).toInt8.toInt32)))))]) C0 h 1 15 rfl (by decide) (by decide) (by decide) rfl dX5_put_29 (fun H locs h => ?_)
  refine lv_aload_n hx hb dX5_put_30 rfl (lv_at hl 1 rfl) ?_
  refine lv_dup hx hb dX5_put_31 rfl ?_
  refine g_X5_fed C0 h 0 q_372 rfl rfl dX5_put_32 ?_
  refine lv_iconst (v := 1) hx hb dX5_put_35 (by decide) ?_
  refine lv_iadd hx hb dX5_put_36 ?_
  refine lv_topi (fun k_12 ek_12 => ?_)
  obtain rfl : k_12 = 16 := ek_12.trans (by decide)
  refine p_X5_fed (ws' := [(a, .inr (5, [.ref (r 1), .ref (z 0), .int 16, .int 0, .int 0, .int 0, .int 0, .int 0, .int 0, .int (-1), .ref (v 0)])), (z 0, .inl (G.2 0, 900, .inl (upd (upd (upd (upd f 12 (vp_nar .byte ((p0 >>> (24 &&& 31)).toInt8.toInt32))) 13 (vp_nar .byte ((p0 >>> (16 &&& 31)).toInt8.toInt32))) 14 (vp_nar .byte ((p0 >>> (8 &&& 31)).toInt8.toInt32))) 15 (vp_nar .byte ((p0 >>> (0 &&& 31)).toInt8.toInt32)))))]) C0 h 0 q_372 rfl (Nat.le_of_ble_eq_true rfl) rfl rfl rfl dX5_put_37 (fun H locs h => ?_)
  refine lv_iinc (v := (-8)) (lv' := [(2, .int (-8)), (0, .ref a), (1, .int p0)]) hx hb dX5_put_40 hl (k := 0) rfl (by decide) (by decide) rfl (fun ls hl => ?_)
  refine lv_goto (tgt := 3) hx hb dX5_put_43 (by decide) ?_
  refine lv_iload_n hx hb dX5_put_3 rfl (lv_at hl 0 rfl) ?_
  refine lv_if_lt (tgt := 46) hx hb dX5_put_4 (by decide) (fun c_13 => ?_) (fun c_13 => absurd c_13 (by decide))
  exact m_vret (upd (upd (upd (upd f 12 (vp_nar .byte ((p0 >>> (24 &&& 31)).toInt8.toInt32))) 13 (vp_nar .byte ((p0 >>> (16 &&& 31)).toInt8.toInt32))) 14 (vp_nar .byte ((p0 >>> (8 &&& 31)).toInt8.toInt32))) 15 (vp_nar .byte ((p0 >>> (0 &&& 31)).toInt8.toInt32))) C0 h [0, 1] (by decide) rfl trivial (Nat.le_of_ble_eq_true rfl) (Nat.le_of_ble_eq_true rfl) dX5_put_46
set_option maxHeartbeats 4000000 in
set_option maxRecDepth 100000 in
theorem c_X5_put_16 (l : Launch) (G : GG) (a : Nat) (r : Nat → Nat) (v : Nat → Nat) (z : Nat → Nat) (f : Nat → Int32) (p0 : Int32) : Mt l yX5_put cX5_put 3 none 0 0 0 G [.ref a, .int p0] [(a, .inr (5, [.ref (r 1), .ref (z 0), .int 16, .int 0, .int 0, .int 0, .int 0, .int 0, .int 0, .int (-1), .ref (v 0)])), (z 0, .inl (G.2 0, 900, .inl f))] (Rv (S := (Nat → Int32)) G (fun _ => True) (fun g => [(a, .inr (5, [.ref (r 1), .ref (z 0), .int 20, .int 0, .int 0, .int 0, .int 0, .int 0, .int 0, .int (-1), .ref (v 0)])), (z 0, .inl (G.2 0, 900, .inl g))])) := by
  refine Mt.start (by decide) (Nat.le_of_ble_eq_true rfl) ?_
  intro p e s m below meth c A ls C0 hini h hl
  have C0 : Cx p s m _ meth c RX5 cX5_put 3 none := C0
  obtain ⟨hx, hb, hml, hown, hts, -⟩ := id C0
  have hl : lv_has ls 3 [(0, .ref a), (1, .int p0)] := hl
  refine lv_bipush (v := 24) hx hb dX5_put_0 (by decide) ?_
  refine lv_istore_n (lv' := [(2, .int 24), (0, .ref a), (1, .int p0)]) hx hb dX5_put_2 rfl hl (by decide) rfl (fun ls hl => ?_)
  refine lv_iload_n hx hb dX5_put_3 rfl (lv_at hl 0 rfl) ?_
  refine lv_if_lt (tgt := 46) hx hb dX5_put_4 (by decide) (fun c_1 => absurd c_1 (by decide)) (fun c_1 => ?_)
  refine lv_aload_n hx hb dX5_put_7 rfl (lv_at hl 1 rfl) ?_
  refine g_X5_fed C0 h 0 q_372 rfl rfl dX5_put_8 ?_
  refine lv_sipush (v := 900) hx hb dX5_put_11 (by decide) ?_
  refine lv_icmp_ge (tgt := 46) hx hb dX5_put_14 (by decide) (fun c_2 => absurd c_2 (by decide)) (fun c_2 => ?_)
  refine lv_aload_n hx hb dX5_put_17 rfl (lv_at hl 1 rfl) ?_
  refine g_X5_tape C0 h 0 q_371 rfl rfl dX5_put_18 ?_
  refine lv_aload_n hx hb dX5_put_21 rfl (lv_at hl 1 rfl) ?_
  refine g_X5_fed C0 h 0 q_372 rfl rfl dX5_put_22 ?_
  refine lv_iload_n hx hb dX5_put_25 rfl (lv_at hl 2 rfl) ?_
  refine lv_iload_n hx hb dX5_put_26 rfl (lv_at hl 0 rfl) ?_
  refine lv_ishr hx hb dX5_put_27 ?_
  refine lv_i2b (v := (p0 >>> (24 &&& 31)).toInt8.toInt32) hx hb dX5_put_28 rfl ?_
  refine m_bast (ws' := [(a, .inr (5, [.ref (r 1), .ref (z 0), .int 16, .int 0, .int 0, .int 0, .int 0, .int 0, .int 0, .int (-1), .ref (v 0)])), (z 0, .inl (G.2 0, 900, .inl (upd f 16 (vp_nar .byte ((p0 >>> (24 &&& 31)).toInt8.toInt32)))))]) C0 h 1 16 rfl (by decide) (by decide) (by decide) rfl dX5_put_29 (fun H locs h => ?_)
  refine lv_aload_n hx hb dX5_put_30 rfl (lv_at hl 1 rfl) ?_
  refine lv_dup hx hb dX5_put_31 rfl ?_
  refine g_X5_fed C0 h 0 q_372 rfl rfl dX5_put_32 ?_
  refine lv_iconst (v := 1) hx hb dX5_put_35 (by decide) ?_
  refine lv_iadd hx hb dX5_put_36 ?_
  refine lv_topi (fun k_3 ek_3 => ?_)
  obtain rfl : k_3 = 17 := ek_3.trans (by decide)
  refine p_X5_fed (ws' := [(a, .inr (5, [.ref (r 1), .ref (z 0), .int 17, .int 0, .int 0, .int 0, .int 0, .int 0, .int 0, .int (-1), .ref (v 0)])), (z 0, .inl (G.2 0, 900, .inl (upd f 16 (vp_nar .byte ((p0 >>> (24 &&& 31)).toInt8.toInt32)))))]) C0 h 0 q_372 rfl (Nat.le_of_ble_eq_true rfl) rfl rfl rfl dX5_put_37 (fun H locs h => ?_)
  refine lv_iinc (v := 16) (lv' := [(2, .int 16), (0, .ref a), (1, .int p0)]) hx hb dX5_put_40 hl (k := 0) rfl (by decide) (by decide) rfl (fun ls hl => ?_)
  refine lv_goto (tgt := 3) hx hb dX5_put_43 (by decide) ?_
  refine lv_iload_n hx hb dX5_put_3 rfl (lv_at hl 0 rfl) ?_
  refine lv_if_lt (tgt := 46) hx hb dX5_put_4 (by decide) (fun c_4 => absurd c_4 (by decide)) (fun c_4 => ?_)
  refine lv_aload_n hx hb dX5_put_7 rfl (lv_at hl 1 rfl) ?_
  refine g_X5_fed C0 h 0 q_372 rfl rfl dX5_put_8 ?_
  refine lv_sipush (v := 900) hx hb dX5_put_11 (by decide) ?_
  refine lv_icmp_ge (tgt := 46) hx hb dX5_put_14 (by decide) (fun c_5 => absurd c_5 (by decide)) (fun c_5 => ?_)
  refine lv_aload_n hx hb dX5_put_17 rfl (lv_at hl 1 rfl) ?_
  refine g_X5_tape C0 h 0 q_371 rfl rfl dX5_put_18 ?_
  refine lv_aload_n hx hb dX5_put_21 rfl (lv_at hl 1 rfl) ?_
  refine g_X5_fed C0 h 0 q_372 rfl rfl dX5_put_22 ?_
  refine lv_iload_n hx hb dX5_put_25 rfl (lv_at hl 2 rfl) ?_
  refine lv_iload_n hx hb dX5_put_26 rfl (lv_at hl 0 rfl) ?_
  refine lv_ishr hx hb dX5_put_27 ?_
  refine lv_i2b (v := (p0 >>> (16 &&& 31)).toInt8.toInt32) hx hb dX5_put_28 rfl ?_
  refine m_bast (ws' := [(a, .inr (5, [.ref (r 1), .ref (z 0), .int 17, .int 0, .int 0, .int 0, .int 0, .int 0, .int 0, .int (-1), .ref (v 0)])), (z 0, .inl (G.2 0, 900, .inl (upd (upd f 16 (vp_nar .byte ((p0 >>> (24 &&& 31)).toInt8.toInt32))) 17 (vp_nar .byte ((p0 >>> (16 &&& 31)).toInt8.toInt32)))))]) C0 h 1 17 rfl (by decide) (by decide) (by decide) rfl dX5_put_29 (fun H locs h => ?_)
  refine lv_aload_n hx hb dX5_put_30 rfl (lv_at hl 1 rfl) ?_
  refine lv_dup hx hb dX5_put_31 rfl ?_
  refine g_X5_fed C0 h 0 q_372 rfl rfl dX5_put_32 ?_
  refine lv_iconst (v := 1) hx hb dX5_put_35 (by decide) ?_
  refine lv_iadd hx hb dX5_put_36 ?_
  refine lv_topi (fun k_6 ek_6 => ?_)
  obtain rfl : k_6 = 18 := ek_6.trans (by decide)
  refine p_X5_fed (ws' := [(a, .inr (5, [.ref (r 1), .ref (z 0), .int 18, .int 0, .int 0, .int 0, .int 0, .int 0, .int 0, .int (-1), .ref (v 0)])), (z 0, .inl (G.2 0, 900, .inl (upd (upd f 16 (vp_nar .byte ((p0 >>> (24 &&& 31)).toInt8.toInt32))) 17 (vp_nar .byte ((p0 >>> (16 &&& 31)).toInt8.toInt32)))))]) C0 h 0 q_372 rfl (Nat.le_of_ble_eq_true rfl) rfl rfl rfl dX5_put_37 (fun H locs h => ?_)
  refine lv_iinc (v := 8) (lv' := [(2, .int 8), (0, .ref a), (1, .int p0)]) hx hb dX5_put_40 hl (k := 0) rfl (by decide) (by decide) rfl (fun ls hl => ?_)
  refine lv_goto (tgt := 3) hx hb dX5_put_43 (by decide) ?_
  refine lv_iload_n hx hb dX5_put_3 rfl (lv_at hl 0 rfl) ?_
  refine lv_if_lt (tgt := 46) hx hb dX5_put_4 (by decide) (fun c_7 => absurd c_7 (by decide)) (fun c_7 => ?_)
  refine lv_aload_n hx hb dX5_put_7 rfl (lv_at hl 1 rfl) ?_
  refine g_X5_fed C0 h 0 q_372 rfl rfl dX5_put_8 ?_
  refine lv_sipush (v := 900) hx hb dX5_put_11 (by decide) ?_
  refine lv_icmp_ge (tgt := 46) hx hb dX5_put_14 (by decide) (fun c_8 => absurd c_8 (by decide)) (fun c_8 => ?_)
  refine lv_aload_n hx hb dX5_put_17 rfl (lv_at hl 1 rfl) ?_
  refine g_X5_tape C0 h 0 q_371 rfl rfl dX5_put_18 ?_
  refine lv_aload_n hx hb dX5_put_21 rfl (lv_at hl 1 rfl) ?_
  refine g_X5_fed C0 h 0 q_372 rfl rfl dX5_put_22 ?_
  refine lv_iload_n hx hb dX5_put_25 rfl (lv_at hl 2 rfl) ?_
  refine lv_iload_n hx hb dX5_put_26 rfl (lv_at hl 0 rfl) ?_
  refine lv_ishr hx hb dX5_put_27 ?_
  refine lv_i2b (v := (p0 >>> (8 &&& 31)).toInt8.toInt32) hx hb dX5_put_28 rfl ?_
  refine m_bast (ws' := [(a, .inr (5, [.ref (r 1), .ref (z 0), .int 18, .int 0, .int 0, .int 0, .int 0, .int 0, .int 0, .int (-1), .ref (v 0)])), (z 0, .inl (G.2 0, 900, .inl (upd (upd (upd f 16 (vp_nar .byte ((p0 >>> (24 &&& 31)).toInt8.toInt32))) 17 (vp_nar .byte ((p0 >>> (16 &&& 31)).toInt8.toInt32))) 18 (vp_nar .byte ((p0 >>> (8 &&& 31)).toInt8.toInt32)))))]) C0 h 1 18 rfl (by decide) (by decide) (by decide) rfl dX5_put_29 (fun H locs h => ?_)
  refine lv_aload_n hx hb dX5_put_30 rfl (lv_at hl 1 rfl) ?_
  refine lv_dup hx hb dX5_put_31 rfl ?_
  refine g_X5_fed C0 h 0 q_372 rfl rfl dX5_put_32 ?_
  refine lv_iconst (v := 1) hx hb dX5_put_35 (by decide) ?_
  refine lv_iadd hx hb dX5_put_36 ?_
  refine lv_topi (fun k_9 ek_9 => ?_)
  obtain rfl : k_9 = 19 := ek_9.trans (by decide)
  refine p_X5_fed (ws' := [(a, .inr (5, [.ref (r 1), .ref (z 0), .int 19, .int 0, .int 0, .int 0, .int 0, .int 0, .int 0, .int (-1), .ref (v 0)])), (z 0, .inl (G.2 0, 900, .inl (upd (upd (upd f 16 (vp_nar .byte ((p0 >>> (24 &&& 31)).toInt8.toInt32))) 17 (vp_nar .byte ((p0 >>> (16 &&& 31)).toInt8.toInt32))) 18 (vp_nar .byte ((p0 >>> (8 &&& 31)).toInt8.toInt32)))))]) C0 h 0 q_372 rfl (Nat.le_of_ble_eq_true rfl) rfl rfl rfl dX5_put_37 (fun H locs h => ?_)
  refine lv_iinc (v := 0) (lv' := [(2, .int 0), (0, .ref a), (1, .int p0)]) hx hb dX5_put_40 hl (k := 0) rfl (by decide) (by decide) rfl (fun ls hl => ?_)
  refine lv_goto (tgt := 3) hx hb dX5_put_43 (by decide) ?_
  refine lv_iload_n hx hb dX5_put_3 rfl (lv_at hl 0 rfl) ?_
  refine lv_if_lt (tgt := 46) hx hb dX5_put_4 (by decide) (fun c_10 => absurd c_10 (by decide)) (fun c_10 => ?_)
  refine lv_aload_n hx hb dX5_put_7 rfl (lv_at hl 1 rfl) ?_
  refine g_X5_fed C0 h 0 q_372 rfl rfl dX5_put_8 ?_
  refine lv_sipush (v := 900) hx hb dX5_put_11 (by decide) ?_
  refine lv_icmp_ge (tgt := 46) hx hb dX5_put_14 (by decide) (fun c_11 => absurd c_11 (by decide)) (fun c_11 => ?_)
  refine lv_aload_n hx hb dX5_put_17 rfl (lv_at hl 1 rfl) ?_
  refine g_X5_tape C0 h 0 q_371 rfl rfl dX5_put_18 ?_
  refine lv_aload_n hx hb dX5_put_21 rfl (lv_at hl 1 rfl) ?_
  refine g_X5_fed C0 h 0 q_372 rfl rfl dX5_put_22 ?_
  refine lv_iload_n hx hb dX5_put_25 rfl (lv_at hl 2 rfl) ?_
  refine lv_iload_n hx hb dX5_put_26 rfl (lv_at hl 0 rfl) ?_
  refine lv_ishr hx hb dX5_put_27 ?_
  refine lv_i2b (v := (p0 >>> (0 &&& 31)).toInt8.toInt32) hx hb dX5_put_28 rfl ?_
  refine m_bast (ws' := [(a, .inr (5, [.ref (r 1), .ref (z 0), .int 19, .int 0, .int 0, .int 0, .int 0, .int 0, .int 0, .int (-1), .ref (v 0)])), (z 0, .inl (G.2 0, 900, .inl (upd (upd (upd (upd f 16 (vp_nar .byte ((p0 >>> (24 &&& 31)).toInt8.toInt32))) 17 (vp_nar .byte ((p0 >>> (16 &&& 31)).toInt8.toInt32))) 18 (vp_nar .byte ((p0 >>> (8 &&& 31)).toInt8.toInt32))) 19 (vp_nar .byte ((p0 >>> (0 &&& 31)).toInt8.toInt32)))))]) C0 h 1 19 rfl (by decide) (by decide) (by decide) rfl dX5_put_29 (fun H locs h => ?_)
  refine lv_aload_n hx hb dX5_put_30 rfl (lv_at hl 1 rfl) ?_
  refine lv_dup hx hb dX5_put_31 rfl ?_
  refine g_X5_fed C0 h 0 q_372 rfl rfl dX5_put_32 ?_
  refine lv_iconst (v := 1) hx hb dX5_put_35 (by decide) ?_
  refine lv_iadd hx hb dX5_put_36 ?_
  refine lv_topi (fun k_12 ek_12 => ?_)
  obtain rfl : k_12 = 20 := ek_12.trans (by decide)
  refine p_X5_fed (ws' := [(a, .inr (5, [.ref (r 1), .ref (z 0), .int 20, .int 0, .int 0, .int 0, .int 0, .int 0, .int 0, .int (-1), .ref (v 0)])), (z 0, .inl (G.2 0, 900, .inl (upd (upd (upd (upd f 16 (vp_nar .byte ((p0 >>> (24 &&& 31)).toInt8.toInt32))) 17 (vp_nar .byte ((p0 >>> (16 &&& 31)).toInt8.toInt32))) 18 (vp_nar .byte ((p0 >>> (8 &&& 31)).toInt8.toInt32))) 19 (vp_nar .byte ((p0 >>> (0 &&& 31)).toInt8.toInt32)))))]) C0 h 0 q_372 rfl (Nat.le_of_ble_eq_true rfl) rfl rfl rfl dX5_put_37 (fun H locs h => ?_)
  refine lv_iinc (v := (-8)) (lv' := [(2, .int (-8)), (0, .ref a), (1, .int p0)]) hx hb dX5_put_40 hl (k := 0) rfl (by decide) (by decide) rfl (fun ls hl => ?_)
  refine lv_goto (tgt := 3) hx hb dX5_put_43 (by decide) ?_
  refine lv_iload_n hx hb dX5_put_3 rfl (lv_at hl 0 rfl) ?_
  refine lv_if_lt (tgt := 46) hx hb dX5_put_4 (by decide) (fun c_13 => ?_) (fun c_13 => absurd c_13 (by decide))
  exact m_vret (upd (upd (upd (upd f 16 (vp_nar .byte ((p0 >>> (24 &&& 31)).toInt8.toInt32))) 17 (vp_nar .byte ((p0 >>> (16 &&& 31)).toInt8.toInt32))) 18 (vp_nar .byte ((p0 >>> (8 &&& 31)).toInt8.toInt32))) 19 (vp_nar .byte ((p0 >>> (0 &&& 31)).toInt8.toInt32))) C0 h [0, 1] (by decide) rfl trivial (Nat.le_of_ble_eq_true rfl) (Nat.le_of_ble_eq_true rfl) dX5_put_46
set_option maxHeartbeats 4000000 in
set_option maxRecDepth 100000 in
theorem c_X11_feed (l : Launch) (G : GG) (x : Nat) (r : Nat → Nat) (v : Nat → Nat) (z : Nat → Nat) (p0 : Int32) (p1 : Int32) (p2 : Int32) (p3 : Int32) (p4 : Int32) : Mt l yX11_feed cX11_feed 6 (some .int) 3 0 0 G [.ref x, .int p0, .int p1, .int p2, .int p3, .int p4] [(x, .inr (11, [.ref (r 0), .ref (r 1), .ref (r 2), .ref (r 3), .ref (r 4), .ref (r 5), .ref (r 6), .ref (r 7), .ref (r 8), .ref (r 9), .ref (r 10), .ref (r 11), .ref (r 12), .ref (r 13), .ref (r 14), .ref (r 15), .int 0, .int 0, .int 0])), (r 2, .inr (5, [.ref (r 1), .ref (z 0), .int 0, .int 0, .int 0, .int 0, .int 0, .int 0, .int 0, .int (-1), .ref (v 0)])), (z 0, .inl (G.2 0, 900, .inl (fun _ => 0)))] (Ri (S := Unit) G (fun r _ => r = 20) (fun _ => [])) := by
  refine Mt.start (by decide) (Nat.le_of_ble_eq_true rfl) ?_
  intro p e s m below meth c A ls C0 hini h hl
  have C0 : Cx p s m _ meth c RX11 cX11_feed 6 (some .int) := C0
  obtain ⟨hx, hb, hml, hown, hts, -⟩ := id C0
  have hl : lv_has ls 6 [(0, .ref x), (1, .int p0), (2, .int p1), (3, .int p2), (4, .int p3), (5, .int p4)] := hl
  refine lv_aload_n hx hb dX11_feed_0 rfl (lv_at hl 0 rfl) ?_
  refine g_X11_reader C0 h 0 q_517 rfl rfl dX11_feed_1 ?_
  refine m_cli (wr := [(x, .inr (11, [.ref (r 0), .ref (r 1), .ref (r 2), .ref (r 3), .ref (r 4), .ref (r 5), .ref (r 6), .ref (r 7), .ref (r 8), .ref (r 9), .ref (r 10), .ref (r 11), .ref (r 12), .ref (r 13), .ref (r 14), .ref (r 15), .int 0, .int 0, .int 0])), (z 0, .inl (G.2 0, 900, .inl (fun _ => 0)))]) h (m_rV (ci := 5) (q0 := 1) (As := []) (rest := []) C0 h (c_X5_hasRoom l G (r 2) r v z) k_X5_hasRoom q_579 q_580 q_578 rfl rfl rfl [1] (by decide) rfl hl.1 rfl rfl (Nat.le_of_ble_eq_true rfl) dX11_feed_4 ⟨Nat.le_of_ble_eq_true rfl, Nat.le_of_ble_eq_true rfl⟩ ⟨Nat.le_of_ble_eq_true rfl, Nat.le_of_ble_eq_true rfl⟩) [1] [0, 2] rfl rfl (by decide) (by decide) (fun r_3 u_1 H locs hp_2 h => ?_)
  have h : Wd G A s _ _ [(x, .inr (11, [.ref (r 0), .ref (r 1), .ref (r 2), .ref (r 3), .ref (r 4), .ref (r 5), .ref (r 6), .ref (r 7), .ref (r 8), .ref (r 9), .ref (r 10), .ref (r 11), .ref (r 12), .ref (r 13), .ref (r 14), .ref (r 15), .int 0, .int 0, .int 0])), (z 0, .inl (G.2 0, 900, .inl (fun _ => 0))), (r 2, .inr (5, [.ref (r 1), .ref (z 0), .int 0, .int 0, .int 0, .int 0, .int 0, .int 0, .int 0, .int (-1), .ref (v 0)]))] := h
  obtain rfl : r_3 = 1 := hp_2
  refine lv_if_ne (tgt := 13) hx hb dX11_feed_7 (by decide) (fun c_4 => ?_) (fun c_4 => absurd c_4 (by decide))
  refine lv_aload_n hx hb dX11_feed_13 rfl (lv_at hl 0 rfl) ?_
  refine g_X11_reader C0 h 0 q_517 rfl rfl dX11_feed_14 ?_
  refine lv_iload_n hx hb dX11_feed_17 rfl (lv_at hl 1 rfl) ?_
  refine m_clv (wr := [(x, .inr (11, [.ref (r 0), .ref (r 1), .ref (r 2), .ref (r 3), .ref (r 4), .ref (r 5), .ref (r 6), .ref (r 7), .ref (r 8), .ref (r 9), .ref (r 10), .ref (r 11), .ref (r 12), .ref (r 13), .ref (r 14), .ref (r 15), .int 0, .int 0, .int 0]))]) h (m_rV (ci := 5) (q0 := 2) (As := [.int p0]) (rest := []) C0 h (c_X5_put_0 l G (r 2) r v z (fun _ => 0) p0) k_X5_put q_583 q_584 q_582 rfl rfl rfl [2, 1] (by decide) rfl hl.1 rfl rfl (Nat.le_of_ble_eq_true rfl) dX11_feed_18 ⟨Nat.le_of_ble_eq_true rfl, Nat.le_of_ble_eq_true rfl⟩ ⟨Nat.le_of_ble_eq_true rfl, Nat.le_of_ble_eq_true rfl⟩) [2, 1] [0] rfl rfl (by decide) (by decide) (fun u_5 H locs hp_6 h => ?_)
  have h : Wd G A s _ _ [(x, .inr (11, [.ref (r 0), .ref (r 1), .ref (r 2), .ref (r 3), .ref (r 4), .ref (r 5), .ref (r 6), .ref (r 7), .ref (r 8), .ref (r 9), .ref (r 10), .ref (r 11), .ref (r 12), .ref (r 13), .ref (r 14), .ref (r 15), .int 0, .int 0, .int 0])), (r 2, .inr (5, [.ref (r 1), .ref (z 0), .int 4, .int 0, .int 0, .int 0, .int 0, .int 0, .int 0, .int (-1), .ref (v 0)])), (z 0, .inl (G.2 0, 900, .inl u_5))] := h
  refine lv_aload_n hx hb dX11_feed_21 rfl (lv_at hl 0 rfl) ?_
  refine g_X11_reader C0 h 0 q_517 rfl rfl dX11_feed_22 ?_
  refine lv_iload_n hx hb dX11_feed_25 rfl (lv_at hl 2 rfl) ?_
  refine m_clv (wr := [(x, .inr (11, [.ref (r 0), .ref (r 1), .ref (r 2), .ref (r 3), .ref (r 4), .ref (r 5), .ref (r 6), .ref (r 7), .ref (r 8), .ref (r 9), .ref (r 10), .ref (r 11), .ref (r 12), .ref (r 13), .ref (r 14), .ref (r 15), .int 0, .int 0, .int 0]))]) h (m_rV (ci := 5) (q0 := 1) (As := [.int p1]) (rest := []) C0 h (c_X5_put_4 l G (r 2) r v z u_5 p1) k_X5_put q_583 q_584 q_582 rfl rfl rfl [1, 2] (by decide) rfl hl.1 rfl rfl (Nat.le_of_ble_eq_true rfl) dX11_feed_26 ⟨Nat.le_of_ble_eq_true rfl, Nat.le_of_ble_eq_true rfl⟩ ⟨Nat.le_of_ble_eq_true rfl, Nat.le_of_ble_eq_true rfl⟩) [1, 2] [0] rfl rfl (by decide) (by decide) (fun u_7 H locs hp_8 h => ?_)
  have h : Wd G A s _ _ [(x, .inr (11, [.ref (r 0), .ref (r 1), .ref (r 2), .ref (r 3), .ref (r 4), .ref (r 5), .ref (r 6), .ref (r 7), .ref (r 8), .ref (r 9), .ref (r 10), .ref (r 11), .ref (r 12), .ref (r 13), .ref (r 14), .ref (r 15), .int 0, .int 0, .int 0])), (r 2, .inr (5, [.ref (r 1), .ref (z 0), .int 8, .int 0, .int 0, .int 0, .int 0, .int 0, .int 0, .int (-1), .ref (v 0)])), (z 0, .inl (G.2 0, 900, .inl u_7))] := h
  refine lv_aload_n hx hb dX11_feed_29 rfl (lv_at hl 0 rfl) ?_
  refine g_X11_reader C0 h 0 q_517 rfl rfl dX11_feed_30 ?_
  refine lv_iload_n hx hb dX11_feed_33 rfl (lv_at hl 3 rfl) ?_
  refine m_clv (wr := [(x, .inr (11, [.ref (r 0), .ref (r 1), .ref (r 2), .ref (r 3), .ref (r 4), .ref (r 5), .ref (r 6), .ref (r 7), .ref (r 8), .ref (r 9), .ref (r 10), .ref (r 11), .ref (r 12), .ref (r 13), .ref (r 14), .ref (r 15), .int 0, .int 0, .int 0]))]) h (m_rV (ci := 5) (q0 := 1) (As := [.int p2]) (rest := []) C0 h (c_X5_put_8 l G (r 2) r v z u_7 p2) k_X5_put q_583 q_584 q_582 rfl rfl rfl [1, 2] (by decide) rfl hl.1 rfl rfl (Nat.le_of_ble_eq_true rfl) dX11_feed_34 ⟨Nat.le_of_ble_eq_true rfl, Nat.le_of_ble_eq_true rfl⟩ ⟨Nat.le_of_ble_eq_true rfl, Nat.le_of_ble_eq_true rfl⟩) [1, 2] [0] rfl rfl (by decide) (by decide) (fun u_9 H locs hp_10 h => ?_)
  have h : Wd G A s _ _ [(x, .inr (11, [.ref (r 0), .ref (r 1), .ref (r 2), .ref (r 3), .ref (r 4), .ref (r 5), .ref (r 6), .ref (r 7), .ref (r 8), .ref (r 9), .ref (r 10), .ref (r 11), .ref (r 12), .ref (r 13), .ref (r 14), .ref (r 15), .int 0, .int 0, .int 0])), (r 2, .inr (5, [.ref (r 1), .ref (z 0), .int 12, .int 0, .int 0, .int 0, .int 0, .int 0, .int 0, .int (-1), .ref (v 0)])), (z 0, .inl (G.2 0, 900, .inl u_9))] := h
  refine lv_aload_n hx hb dX11_feed_37 rfl (lv_at hl 0 rfl) ?_
  refine g_X11_reader C0 h 0 q_517 rfl rfl dX11_feed_38 ?_
  refine lv_iload hx hb dX11_feed_41 (lv_at hl 4 rfl) ?_
  refine m_clv (wr := [(x, .inr (11, [.ref (r 0), .ref (r 1), .ref (r 2), .ref (r 3), .ref (r 4), .ref (r 5), .ref (r 6), .ref (r 7), .ref (r 8), .ref (r 9), .ref (r 10), .ref (r 11), .ref (r 12), .ref (r 13), .ref (r 14), .ref (r 15), .int 0, .int 0, .int 0]))]) h (m_rV (ci := 5) (q0 := 1) (As := [.int p3]) (rest := []) C0 h (c_X5_put_12 l G (r 2) r v z u_9 p3) k_X5_put q_583 q_584 q_582 rfl rfl rfl [1, 2] (by decide) rfl hl.1 rfl rfl (Nat.le_of_ble_eq_true rfl) dX11_feed_43 ⟨Nat.le_of_ble_eq_true rfl, Nat.le_of_ble_eq_true rfl⟩ ⟨Nat.le_of_ble_eq_true rfl, Nat.le_of_ble_eq_true rfl⟩) [1, 2] [0] rfl rfl (by decide) (by decide) (fun u_11 H locs hp_12 h => ?_)
  have h : Wd G A s _ _ [(x, .inr (11, [.ref (r 0), .ref (r 1), .ref (r 2), .ref (r 3), .ref (r 4), .ref (r 5), .ref (r 6), .ref (r 7), .ref (r 8), .ref (r 9), .ref (r 10), .ref (r 11), .ref (r 12), .ref (r 13), .ref (r 14), .ref (r 15), .int 0, .int 0, .int 0])), (r 2, .inr (5, [.ref (r 1), .ref (z 0), .int 16, .int 0, .int 0, .int 0, .int 0, .int 0, .int 0, .int (-1), .ref (v 0)])), (z 0, .inl (G.2 0, 900, .inl u_11))] := h
  refine lv_aload_n hx hb dX11_feed_46 rfl (lv_at hl 0 rfl) ?_
  refine g_X11_reader C0 h 0 q_517 rfl rfl dX11_feed_47 ?_
  refine lv_iload hx hb dX11_feed_50 (lv_at hl 5 rfl) ?_
  refine m_clv (wr := [(x, .inr (11, [.ref (r 0), .ref (r 1), .ref (r 2), .ref (r 3), .ref (r 4), .ref (r 5), .ref (r 6), .ref (r 7), .ref (r 8), .ref (r 9), .ref (r 10), .ref (r 11), .ref (r 12), .ref (r 13), .ref (r 14), .ref (r 15), .int 0, .int 0, .int 0]))]) h (m_rV (ci := 5) (q0 := 1) (As := [.int p4]) (rest := []) C0 h (c_X5_put_16 l G (r 2) r v z u_11 p4) k_X5_put q_583 q_584 q_582 rfl rfl rfl [1, 2] (by decide) rfl hl.1 rfl rfl (Nat.le_of_ble_eq_true rfl) dX11_feed_52 ⟨Nat.le_of_ble_eq_true rfl, Nat.le_of_ble_eq_true rfl⟩ ⟨Nat.le_of_ble_eq_true rfl, Nat.le_of_ble_eq_true rfl⟩) [1, 2] [0] rfl rfl (by decide) (by decide) (fun u_13 H locs hp_14 h => ?_)
  have h : Wd G A s _ _ [(x, .inr (11, [.ref (r 0), .ref (r 1), .ref (r 2), .ref (r 3), .ref (r 4), .ref (r 5), .ref (r 6), .ref (r 7), .ref (r 8), .ref (r 9), .ref (r 10), .ref (r 11), .ref (r 12), .ref (r 13), .ref (r 14), .ref (r 15), .int 0, .int 0, .int 0])), (r 2, .inr (5, [.ref (r 1), .ref (z 0), .int 20, .int 0, .int 0, .int 0, .int 0, .int 0, .int 0, .int (-1), .ref (v 0)])), (z 0, .inl (G.2 0, 900, .inl u_13))] := h
  refine lv_aload_n hx hb dX11_feed_55 rfl (lv_at hl 0 rfl) ?_
  refine g_X11_reader C0 h 0 q_517 rfl rfl dX11_feed_56 ?_
  refine m_cli (wr := [(x, .inr (11, [.ref (r 0), .ref (r 1), .ref (r 2), .ref (r 3), .ref (r 4), .ref (r 5), .ref (r 6), .ref (r 7), .ref (r 8), .ref (r 9), .ref (r 10), .ref (r 11), .ref (r 12), .ref (r 13), .ref (r 14), .ref (r 15), .int 0, .int 0, .int 0])), (z 0, .inl (G.2 0, 900, .inl u_13))]) h (m_rV (ci := 5) (q0 := 1) (As := []) (rest := []) C0 h (c_X5_fed_20 l G (r 2) r v z) k_X5_fed q_587 q_588 q_586 rfl rfl rfl [1] (by decide) rfl hl.1 rfl rfl (Nat.le_of_ble_eq_true rfl) dX11_feed_59 ⟨Nat.le_of_ble_eq_true rfl, Nat.le_of_ble_eq_true rfl⟩ ⟨Nat.le_of_ble_eq_true rfl, Nat.le_of_ble_eq_true rfl⟩) [1] [0, 2] rfl rfl (by decide) (by decide) (fun r_17 u_15 H locs hp_16 h => ?_)
  have h : Wd G A s _ _ [(x, .inr (11, [.ref (r 0), .ref (r 1), .ref (r 2), .ref (r 3), .ref (r 4), .ref (r 5), .ref (r 6), .ref (r 7), .ref (r 8), .ref (r 9), .ref (r 10), .ref (r 11), .ref (r 12), .ref (r 13), .ref (r 14), .ref (r 15), .int 0, .int 0, .int 0])), (z 0, .inl (G.2 0, 900, .inl u_13)), (r 2, .inr (5, [.ref (r 1), .ref (z 0), .int 20, .int 0, .int 0, .int 0, .int 0, .int 0, .int 0, .int (-1), .ref (v 0)]))] := h
  obtain rfl : r_17 = 20 := hp_16
  exact m_iret () C0 h [] (by decide) rfl rfl (Nat.le_of_ble_eq_true rfl) (Nat.le_of_ble_eq_true rfl) dX11_feed_62
