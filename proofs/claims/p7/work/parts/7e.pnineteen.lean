/-! the net alone, taken over -/
theorem Nt.map {b b' : Nat} {s s' : XS} {A : Nat → Int} (h5 : s' 0 b' 5 = s 0 b 5) (h6 : s' 0 b' 6 = s 0 b 6) (h17 : ∀ d, d < 4 → s' 1 (b' + 17) d = s 1 (b + 17) d) (h18 : ∀ d, d < 4 → s' 1 (b' + 18) d = s 1 (b + 18) d) (h : Nt b s A) : Nt b' s' A := by
  obtain ⟨n1, n2, n3, n4⟩ := h
  unfold Nt
  rw [h5, h6]
  refine ⟨n1, n2, n3, ?_⟩
  rcases n4 with n4 | ⟨w, h, q1, q2, q3, q4, q5, q6, q7, q8⟩
  · exact Or.inl n4
  · exact Or.inr ⟨w, h, q1, q2, q3, q4, q5, q6, fun d hd => by rw [h18 d hd]; exact q7 d hd, q8.same (fun x y hy => by unfold Sx; rw [h17 y hy]) (fun _ _ _ => Iff.rfl)⟩
theorem Nt.row {b : Nat} {s : XS} {A A' : Nat → Int} (hA : ∀ k, k = 1 ∨ k = 2 ∨ (11 ≤ k ∧ k ≤ 35) → A' k = A k) (h : Nt b s A) : Nt b s A' := h.same rfl rfl (fun _ => rfl) (fun _ => rfl) hA
set_option maxHeartbeats 4000000 in
theorem Nt_copy_39_1 {s : XS} {A : Nat → Int} (h : Nt 1 s A) : Nt 39 (f_X0_copy s 39 1).1 A ∧ (∀ t c k, ¬ (39 ≤ c ∧ c ≤ 57) → (f_X0_copy s 39 1).1 t c k = s t c k) := by
  simp only [f_X0_copy, g1c_X0_copy, g2c_X0_copy, g3c_X0_copy, g4w_X0_copy, g5w_X0_copy, g6w_X0_copy, g7w_X0_copy, g8w_X0_copy, g9w_X0_copy, f_X4_copy, g1w_X4_copy, g2w_X4_copy, g3w_X4_copy, f_X1_copy, g1w_X1_copy, g2w_X1_copy, g3w_X1_copy, g4w_X1_copy, g5w_X1_copy, g6w_X1_copy, g7w_X1_copy, g8w_X1_copy, g9w_X1_copy, Nat.reduceAdd]
  refine ⟨h.map ?_ ?_ (fun d hd => ?_) (fun d hd => ?_), fun t c k hk => ?_⟩
  · simp [xup, xcp]
  · simp [xup, xcp]
  · have : (d : Int) < 4 := by omega
    simp [xup, xcp, this]
  · have : (d : Int) < 4 := by omega
    simp [xup, xcp, this]
  · repeat first | rw [xup_c (by omega)] | rw [xcp_c (by omega)]
set_option maxHeartbeats 4000000 in
theorem Nt_copy_58_1 {s : XS} {A : Nat → Int} (h : Nt 1 s A) : Nt 58 (f_X0_copy s 58 1).1 A ∧ (∀ t c k, ¬ (58 ≤ c ∧ c ≤ 76) → (f_X0_copy s 58 1).1 t c k = s t c k) := by
  simp only [f_X0_copy, g1c_X0_copy, g2c_X0_copy, g3c_X0_copy, g4w_X0_copy, g5w_X0_copy, g6w_X0_copy, g7w_X0_copy, g8w_X0_copy, g9w_X0_copy, f_X4_copy, g1w_X4_copy, g2w_X4_copy, g3w_X4_copy, f_X1_copy, g1w_X1_copy, g2w_X1_copy, g3w_X1_copy, g4w_X1_copy, g5w_X1_copy, g6w_X1_copy, g7w_X1_copy, g8w_X1_copy, g9w_X1_copy, Nat.reduceAdd]
  refine ⟨h.map ?_ ?_ (fun d hd => ?_) (fun d hd => ?_), fun t c k hk => ?_⟩
  · simp [xup, xcp]
  · simp [xup, xcp]
  · have : (d : Int) < 4 := by omega
    simp [xup, xcp, this]
  · have : (d : Int) < 4 := by omega
    simp [xup, xcp, this]
  · repeat first | rw [xup_c (by omega)] | rw [xcp_c (by omega)]
set_option maxHeartbeats 4000000 in
theorem Nt_copy_1_39 {s : XS} {A : Nat → Int} (h : Nt 39 s A) : Nt 1 (f_X0_copy s 1 39).1 A ∧ (∀ t c k, ¬ (1 ≤ c ∧ c ≤ 19) → (f_X0_copy s 1 39).1 t c k = s t c k) := by
  simp only [f_X0_copy, g1c_X0_copy, g2c_X0_copy, g3c_X0_copy, g4w_X0_copy, g5w_X0_copy, g6w_X0_copy, g7w_X0_copy, g8w_X0_copy, g9w_X0_copy, f_X4_copy, g1w_X4_copy, g2w_X4_copy, g3w_X4_copy, f_X1_copy, g1w_X1_copy, g2w_X1_copy, g3w_X1_copy, g4w_X1_copy, g5w_X1_copy, g6w_X1_copy, g7w_X1_copy, g8w_X1_copy, g9w_X1_copy, Nat.reduceAdd]
  refine ⟨h.map ?_ ?_ (fun d hd => ?_) (fun d hd => ?_), fun t c k hk => ?_⟩
  · simp [xup, xcp]
  · simp [xup, xcp]
  · have : (d : Int) < 4 := by omega
    simp [xup, xcp, this]
  · have : (d : Int) < 4 := by omega
    simp [xup, xcp, this]
  · repeat first | rw [xup_c (by omega)] | rw [xcp_c (by omega)]
set_option maxHeartbeats 4000000 in
theorem Nt_copy_1_58 {s : XS} {A : Nat → Int} (h : Nt 58 s A) : Nt 1 (f_X0_copy s 1 58).1 A ∧ (∀ t c k, ¬ (1 ≤ c ∧ c ≤ 19) → (f_X0_copy s 1 58).1 t c k = s t c k) := by
  simp only [f_X0_copy, g1c_X0_copy, g2c_X0_copy, g3c_X0_copy, g4w_X0_copy, g5w_X0_copy, g6w_X0_copy, g7w_X0_copy, g8w_X0_copy, g9w_X0_copy, f_X4_copy, g1w_X4_copy, g2w_X4_copy, g3w_X4_copy, f_X1_copy, g1w_X1_copy, g2w_X1_copy, g3w_X1_copy, g4w_X1_copy, g5w_X1_copy, g6w_X1_copy, g7w_X1_copy, g8w_X1_copy, g9w_X1_copy, Nat.reduceAdd]
  refine ⟨h.map ?_ ?_ (fun d hd => ?_) (fun d hd => ?_), fun t c k hk => ?_⟩
  · simp [xup, xcp]
  · simp [xup, xcp]
  · have : (d : Int) < 4 := by omega
    simp [xup, xcp, this]
  · have : (d : Int) < 4 := by omega
    simp [xup, xcp, this]
  · repeat first | rw [xup_c (by omega)] | rw [xcp_c (by omega)]
