variable {tt : QQ}
set_option maxHeartbeats 4000000 in
set_option maxRecDepth 100000 in
theorem c_X5_fedR (l : Launch) (G : GG) (Z : RZ) (ad : Nat → Nat) (ws0 : va_W) (hT : Ty G (SC tt) ad ws0) : Mq l yX5_fed cX5_fed 1 (some .int) 1 G Z [.ref (ad 77)] ws0 (PI G (SC tt) ad [] ws0 (fun r u => (0 ≤ r.toInt) ∧ (r.toInt ≤ 900) ∧ (r = fI ws0 77 2))) := by
  refine Mq.start (by decide) (Nat.le_of_ble_eq_true rfl) ?_
  intro p e s m below meth c A ls C0 hZ h hl
  have hl : lv_has ls 1 [(0, .ref (ad 77))] := hl
  have h : Wt G (SC tt) ad A s s.heap [] ws0 := ⟨h, hT⟩
  obtain ⟨args, hargs⟩ : ∃ z, z = ([.ref (ad 77)] : List Value).toArray := ⟨_, rfl⟩
  rw [← hargs] at C0 ⊢
  have C0 : Cx p s m args meth c RX5 cX5_fed 1 (some .int) := C0
  obtain ⟨Q, hQ⟩ : ∃ z, z = MQ below ((PI G (SC tt) ad [] ws0 (fun r u => (0 ≤ r.toInt) ∧ (r.toInt ≤ 900) ∧ (r = fI ws0 77 2))) A) args s 0 0 A := ⟨_, rfl⟩
  rw [← hQ]
  refine lv_aload_n C0.1 C0.2.1 dX5_fed_0 rfl (lv_at hl 0 rfl) ?_
  refine tg_X5_fed C0 h kSC_77 q_372 dX5_fed_1 (fun v_1 e_2 e_3 e_4 => ?_)
  rw [hQ]
  exact y_iret C0 h Fr.rf ⟨(o22_7 e_3 e_4), (o22_8 e_3 e_4), e_2.symm⟩ dX5_fed_4
