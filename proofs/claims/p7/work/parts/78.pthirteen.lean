/-! one city taken over by another -/
theorem Ci.row {b : Nat} {s : XS} {A A' : Nat → Int} (hA : ∀ k, k < 1774 → A' k = A k) (h : Ci b s A) : Ci b s A' := by
  obtain ⟨a1, a2, a3, a4, a5, a6, a7, a8⟩ := h
  exact ⟨by rw [hA _ (by omega)]; exact a1, by rw [hA _ (by omega)]; exact a2, a3.same rfl rfl (fun _ => rfl) (fun _ => rfl) (fun k hk => hA k (by omega)), a4.same (fun _ => rfl) (fun _ _ _ _ => rfl) (fun k hk => hA k (by omega)), by rw [hA _ (by omega)]; exact a5, by rw [hA _ (by omega)]; exact a6, a7.same (by omega) (fun _ => rfl) (fun _ => rfl) (fun k hk => hA k (by omega)) (by rw [hA _ (by omega)]; exact Int.le_refl _), a8.same (by omega) (fun _ => rfl) (fun _ => rfl) (fun k hk => hA k (by omega)) (by rw [hA _ (by omega)]; exact Int.le_refl _)⟩
theorem Lx.map {b : Bool} {L L' t : Nat} {s s' : XS} {A : Nat → Int} (h3 : s' 0 L' 3 = s 0 L 3) (h4 : s' 0 L' 4 = s 0 L 4) (hk : ∀ k : Nat, (k : Int) < s 0 L 3 → s' 1 (L' + 1) k = s 1 (L + 1) k) (h : Lx b L t s A) : Lx b L' t s' A := by
  unfold Lx
  rw [h3]
  rcases h with h | ⟨a1, l, a2, a3, a4, a5, a6, c1, c2, c3⟩
  · exact Or.inl h
  · refine Or.inr ⟨a1, l, a2, a3, a4, a5, a6, by rw [h3]; exact c1, by rw [h4]; exact c2, fun k q => ?_⟩
    rw [hk k (by rw [c1]; omega)]
    exact c3 k q
theorem Ci.map {b b' : Nat} {s s' : XS} {A : Nat → Int} (h0 : ∀ k, 5 ≤ k → k ≤ 8 → s' 0 b' k = s 0 b k) (h17 : ∀ d, d < 4 → s' 1 (b' + 17) d = s 1 (b + 17) d) (h18 : ∀ d, d < 4 → s' 1 (b' + 18) d = s 1 (b + 18) d) (h7 : s' 0 (b' + 9) 7 = s 0 (b + 9) 7) (h8 : s' 0 (b' + 9) 8 = s 0 (b + 9) 8)
    (p1 : ∀ p, p < 5 → s' 1 (b' + 10) p = s 1 (b + 10) p) (p2 : ∀ p, p < 5 → s' 1 (b' + 11) p = s 1 (b + 11) p) (p3 : ∀ p, p < 5 → s' 1 (b' + 12) p = s 1 (b + 12) p) (p4 : ∀ p, p < 5 → s' 1 (b' + 13) p = s 1 (b + 13) p) (p5 : ∀ p, p < 5 → s' 1 (b' + 14) p = s 1 (b + 14) p) (p6 : ∀ p, p < 25 → s' 1 (b' + 15) p = s 1 (b + 15) p) (p7 : ∀ p, p < 25 → s' 1 (b' + 16) p = s 1 (b + 16) p)
    (l3 : s' 0 (b' + 1) 3 = s 0 (b + 1) 3) (l4 : s' 0 (b' + 1) 4 = s 0 (b + 1) 4) (lk : ∀ k : Nat, (k : Int) < s 0 (b + 1) 3 → s' 1 (b' + 1 + 1) k = s 1 (b + 1 + 1) k)
    (r3 : s' 0 (b' + 5) 3 = s 0 (b + 5) 3) (r4 : s' 0 (b' + 5) 4 = s 0 (b + 5) 4) (rk : ∀ k : Nat, (k : Int) < s 0 (b + 5) 3 → s' 1 (b' + 5 + 1) k = s 1 (b + 5 + 1) k) (h : Ci b s A) : Ci b' s' A := by
  obtain ⟨a1, a2, ⟨n1, n2, n3, n4⟩, ⟨f1, f2, f3, f4, f5, f6, f7⟩, a5, a6, a7, a8⟩ := h
  refine ⟨by rw [h0 7 (by omega) (by omega)]; exact a1, by rw [h0 8 (by omega) (by omega)]; exact a2, ⟨by rw [h0 5 (by omega) (by omega)]; exact n1, by rw [h0 6 (by omega) (by omega)]; exact n2, n3, ?_⟩, ⟨by rw [h7]; exact f1, by rw [h7]; exact f2, by rw [h7]; exact f3, by rw [h8]; exact f4, fun p hp => ?_, fun p hp => by rw [p5 p hp]; exact f6 p hp, fun c hc => by rw [p6 c hc, p7 c hc]; exact f7 c hc⟩, a5, a6, a7.map l3 l4 lk, a8.map r3 r4 rk⟩
  · rw [h0 5 (by omega) (by omega), h0 6 (by omega) (by omega)]
    rcases n4 with n4 | ⟨w, h, q1, q2, q3, q4, q5, q6, q7, q8⟩
    · exact Or.inl n4
    · exact Or.inr ⟨w, h, q1, q2, q3, q4, q5, q6, fun d hd => by rw [h18 d hd]; exact q7 d hd, q8.same (fun x y hy => by unfold Sx; rw [h17 y hy]) (fun _ _ _ => Iff.rfl)⟩
  · rw [h7] at hp
    rw [p1 p (by omega), p2 p (by omega), p3 p (by omega), p4 p (by omega)]
    exact f5 p hp
theorem xcp_c {s : XS} {j i t c k : Nat} {n : Int} (h : c ≠ i) : xcp s j i n t c k = s t c k := if_neg (fun q => h q.2.1)
theorem xcp_t {s : XS} {j i t c k : Nat} {n : Int} (h : t ≠ 1) : xcp s j i n t c k = s t c k := if_neg (fun q => h q.1)
theorem xcp_s {s : XS} {j i k : Nat} {n : Int} (h : (k : Int) < n) : xcp s j i n 1 i k = s 1 j k := if_pos ⟨rfl, rfl, h⟩
set_option maxHeartbeats 4000000 in
theorem Ci_copy_1_20 {s : XS} {A : Nat → Int} (h : Ci 20 s A) : Ci 1 (f_X0_copy s 1 20).1 A ∧ (∀ t c k, ¬ (1 ≤ c ∧ c ≤ 19) → (f_X0_copy s 1 20).1 t c k = s t c k) := by
  simp only [f_X0_copy, g1c_X0_copy, g2c_X0_copy, g3c_X0_copy, g4w_X0_copy, g5w_X0_copy, g6w_X0_copy, g7w_X0_copy, g8w_X0_copy, g9w_X0_copy, f_X4_copy, g1w_X4_copy, g2w_X4_copy, g3w_X4_copy, f_X1_copy, g1w_X1_copy, g2w_X1_copy, g3w_X1_copy, g4w_X1_copy, g5w_X1_copy, g6w_X1_copy, g7w_X1_copy, g8w_X1_copy, g9w_X1_copy, Nat.reduceAdd]
  refine ⟨h.map (fun k h5 h8 => ?_) (fun d hd => ?_) (fun d hd => ?_) ?_ ?_ (fun p hp => ?_) (fun p hp => ?_) (fun p hp => ?_) (fun p hp => ?_) (fun p hp => ?_) (fun p hp => ?_) (fun p hp => ?_) ?_ ?_ (fun k hk => ?_) ?_ ?_ (fun k hk => ?_), fun t c k hk => ?_⟩
  · rcases (show k = 5 ∨ k = 6 ∨ k = 7 ∨ k = 8 by omega) with rfl | rfl | rfl | rfl <;> simp [xup, xcp]
  · have : (d : Int) < 4 := by omega
    simp [xup, xcp, this]
  · have : (d : Int) < 4 := by omega
    simp [xup, xcp, this]
  · simp [xup, xcp]
  · simp [xup, xcp]
  · have : (p : Int) < 5 := by omega
    simp [xup, xcp, this]
  · have : (p : Int) < 5 := by omega
    simp [xup, xcp, this]
  · have : (p : Int) < 5 := by omega
    simp [xup, xcp, this]
  · have : (p : Int) < 5 := by omega
    simp [xup, xcp, this]
  · have : (p : Int) < 5 := by omega
    simp [xup, xcp, this]
  · have : (p : Int) < 25 := by omega
    simp [xup, xcp, this]
  · have : (p : Int) < 25 := by omega
    simp [xup, xcp, this]
  · simp [xup, xcp]
  · simp [xup, xcp]
  · have hk : (k : Int) < s 0 21 3 := hk
    simp [xup, xcp, hk]
  · simp [xup, xcp]
  · simp [xup, xcp]
  · have hk : (k : Int) < s 0 25 3 := hk
    simp [xup, xcp, hk]
  · repeat first | rw [xup_c (by omega)] | rw [xcp_c (by omega)]
set_option maxHeartbeats 4000000 in
theorem Ci_copy_39_1 {s : XS} {A : Nat → Int} (h : Ci 1 s A) : Ci 39 (f_X0_copy s 39 1).1 A ∧ (∀ t c k, ¬ (39 ≤ c ∧ c ≤ 57) → (f_X0_copy s 39 1).1 t c k = s t c k) := by
  simp only [f_X0_copy, g1c_X0_copy, g2c_X0_copy, g3c_X0_copy, g4w_X0_copy, g5w_X0_copy, g6w_X0_copy, g7w_X0_copy, g8w_X0_copy, g9w_X0_copy, f_X4_copy, g1w_X4_copy, g2w_X4_copy, g3w_X4_copy, f_X1_copy, g1w_X1_copy, g2w_X1_copy, g3w_X1_copy, g4w_X1_copy, g5w_X1_copy, g6w_X1_copy, g7w_X1_copy, g8w_X1_copy, g9w_X1_copy, Nat.reduceAdd]
  refine ⟨h.map (fun k h5 h8 => ?_) (fun d hd => ?_) (fun d hd => ?_) ?_ ?_ (fun p hp => ?_) (fun p hp => ?_) (fun p hp => ?_) (fun p hp => ?_) (fun p hp => ?_) (fun p hp => ?_) (fun p hp => ?_) ?_ ?_ (fun k hk => ?_) ?_ ?_ (fun k hk => ?_), fun t c k hk => ?_⟩
  · rcases (show k = 5 ∨ k = 6 ∨ k = 7 ∨ k = 8 by omega) with rfl | rfl | rfl | rfl <;> simp [xup, xcp]
  · have : (d : Int) < 4 := by omega
    simp [xup, xcp, this]
  · have : (d : Int) < 4 := by omega
    simp [xup, xcp, this]
  · simp [xup, xcp]
  · simp [xup, xcp]
  · have : (p : Int) < 5 := by omega
    simp [xup, xcp, this]
  · have : (p : Int) < 5 := by omega
    simp [xup, xcp, this]
  · have : (p : Int) < 5 := by omega
    simp [xup, xcp, this]
  · have : (p : Int) < 5 := by omega
    simp [xup, xcp, this]
  · have : (p : Int) < 5 := by omega
    simp [xup, xcp, this]
  · have : (p : Int) < 25 := by omega
    simp [xup, xcp, this]
  · have : (p : Int) < 25 := by omega
    simp [xup, xcp, this]
  · simp [xup, xcp]
  · simp [xup, xcp]
  · have hk : (k : Int) < s 0 2 3 := hk
    simp [xup, xcp, hk]
  · simp [xup, xcp]
  · simp [xup, xcp]
  · have hk : (k : Int) < s 0 6 3 := hk
    simp [xup, xcp, hk]
  · repeat first | rw [xup_c (by omega)] | rw [xcp_c (by omega)]
set_option maxHeartbeats 4000000 in
theorem Ci_copy_58_1 {s : XS} {A : Nat → Int} (h : Ci 1 s A) : Ci 58 (f_X0_copy s 58 1).1 A ∧ (∀ t c k, ¬ (58 ≤ c ∧ c ≤ 76) → (f_X0_copy s 58 1).1 t c k = s t c k) := by
  simp only [f_X0_copy, g1c_X0_copy, g2c_X0_copy, g3c_X0_copy, g4w_X0_copy, g5w_X0_copy, g6w_X0_copy, g7w_X0_copy, g8w_X0_copy, g9w_X0_copy, f_X4_copy, g1w_X4_copy, g2w_X4_copy, g3w_X4_copy, f_X1_copy, g1w_X1_copy, g2w_X1_copy, g3w_X1_copy, g4w_X1_copy, g5w_X1_copy, g6w_X1_copy, g7w_X1_copy, g8w_X1_copy, g9w_X1_copy, Nat.reduceAdd]
  refine ⟨h.map (fun k h5 h8 => ?_) (fun d hd => ?_) (fun d hd => ?_) ?_ ?_ (fun p hp => ?_) (fun p hp => ?_) (fun p hp => ?_) (fun p hp => ?_) (fun p hp => ?_) (fun p hp => ?_) (fun p hp => ?_) ?_ ?_ (fun k hk => ?_) ?_ ?_ (fun k hk => ?_), fun t c k hk => ?_⟩
  · rcases (show k = 5 ∨ k = 6 ∨ k = 7 ∨ k = 8 by omega) with rfl | rfl | rfl | rfl <;> simp [xup, xcp]
  · have : (d : Int) < 4 := by omega
    simp [xup, xcp, this]
  · have : (d : Int) < 4 := by omega
    simp [xup, xcp, this]
  · simp [xup, xcp]
  · simp [xup, xcp]
  · have : (p : Int) < 5 := by omega
    simp [xup, xcp, this]
  · have : (p : Int) < 5 := by omega
    simp [xup, xcp, this]
  · have : (p : Int) < 5 := by omega
    simp [xup, xcp, this]
  · have : (p : Int) < 5 := by omega
    simp [xup, xcp, this]
  · have : (p : Int) < 5 := by omega
    simp [xup, xcp, this]
  · have : (p : Int) < 25 := by omega
    simp [xup, xcp, this]
  · have : (p : Int) < 25 := by omega
    simp [xup, xcp, this]
  · simp [xup, xcp]
  · simp [xup, xcp]
  · have hk : (k : Int) < s 0 2 3 := hk
    simp [xup, xcp, hk]
  · simp [xup, xcp]
  · simp [xup, xcp]
  · have hk : (k : Int) < s 0 6 3 := hk
    simp [xup, xcp, hk]
  · repeat first | rw [xup_c (by omega)] | rw [xcp_c (by omega)]
set_option maxHeartbeats 4000000 in
theorem Ci_copy_1_39 {s : XS} {A : Nat → Int} (h : Ci 39 s A) : Ci 1 (f_X0_copy s 1 39).1 A ∧ (∀ t c k, ¬ (1 ≤ c ∧ c ≤ 19) → (f_X0_copy s 1 39).1 t c k = s t c k) := by
  simp only [f_X0_copy, g1c_X0_copy, g2c_X0_copy, g3c_X0_copy, g4w_X0_copy, g5w_X0_copy, g6w_X0_copy, g7w_X0_copy, g8w_X0_copy, g9w_X0_copy, f_X4_copy, g1w_X4_copy, g2w_X4_copy, g3w_X4_copy, f_X1_copy, g1w_X1_copy, g2w_X1_copy, g3w_X1_copy, g4w_X1_copy, g5w_X1_copy, g6w_X1_copy, g7w_X1_copy, g8w_X1_copy, g9w_X1_copy, Nat.reduceAdd]
  refine ⟨h.map (fun k h5 h8 => ?_) (fun d hd => ?_) (fun d hd => ?_) ?_ ?_ (fun p hp => ?_) (fun p hp => ?_) (fun p hp => ?_) (fun p hp => ?_) (fun p hp => ?_) (fun p hp => ?_) (fun p hp => ?_) ?_ ?_ (fun k hk => ?_) ?_ ?_ (fun k hk => ?_), fun t c k hk => ?_⟩
  · rcases (show k = 5 ∨ k = 6 ∨ k = 7 ∨ k = 8 by omega) with rfl | rfl | rfl | rfl <;> simp [xup, xcp]
  · have : (d : Int) < 4 := by omega
    simp [xup, xcp, this]
  · have : (d : Int) < 4 := by omega
    simp [xup, xcp, this]
  · simp [xup, xcp]
  · simp [xup, xcp]
  · have : (p : Int) < 5 := by omega
    simp [xup, xcp, this]
  · have : (p : Int) < 5 := by omega
    simp [xup, xcp, this]
  · have : (p : Int) < 5 := by omega
    simp [xup, xcp, this]
  · have : (p : Int) < 5 := by omega
    simp [xup, xcp, this]
  · have : (p : Int) < 5 := by omega
    simp [xup, xcp, this]
  · have : (p : Int) < 25 := by omega
    simp [xup, xcp, this]
  · have : (p : Int) < 25 := by omega
    simp [xup, xcp, this]
  · simp [xup, xcp]
  · simp [xup, xcp]
  · have hk : (k : Int) < s 0 40 3 := hk
    simp [xup, xcp, hk]
  · simp [xup, xcp]
  · simp [xup, xcp]
  · have hk : (k : Int) < s 0 44 3 := hk
    simp [xup, xcp, hk]
  · repeat first | rw [xup_c (by omega)] | rw [xcp_c (by omega)]
set_option maxHeartbeats 4000000 in
theorem Ci_copy_1_58 {s : XS} {A : Nat → Int} (h : Ci 58 s A) : Ci 1 (f_X0_copy s 1 58).1 A ∧ (∀ t c k, ¬ (1 ≤ c ∧ c ≤ 19) → (f_X0_copy s 1 58).1 t c k = s t c k) := by
  simp only [f_X0_copy, g1c_X0_copy, g2c_X0_copy, g3c_X0_copy, g4w_X0_copy, g5w_X0_copy, g6w_X0_copy, g7w_X0_copy, g8w_X0_copy, g9w_X0_copy, f_X4_copy, g1w_X4_copy, g2w_X4_copy, g3w_X4_copy, f_X1_copy, g1w_X1_copy, g2w_X1_copy, g3w_X1_copy, g4w_X1_copy, g5w_X1_copy, g6w_X1_copy, g7w_X1_copy, g8w_X1_copy, g9w_X1_copy, Nat.reduceAdd]
  refine ⟨h.map (fun k h5 h8 => ?_) (fun d hd => ?_) (fun d hd => ?_) ?_ ?_ (fun p hp => ?_) (fun p hp => ?_) (fun p hp => ?_) (fun p hp => ?_) (fun p hp => ?_) (fun p hp => ?_) (fun p hp => ?_) ?_ ?_ (fun k hk => ?_) ?_ ?_ (fun k hk => ?_), fun t c k hk => ?_⟩
  · rcases (show k = 5 ∨ k = 6 ∨ k = 7 ∨ k = 8 by omega) with rfl | rfl | rfl | rfl <;> simp [xup, xcp]
  · have : (d : Int) < 4 := by omega
    simp [xup, xcp, this]
  · have : (d : Int) < 4 := by omega
    simp [xup, xcp, this]
  · simp [xup, xcp]
  · simp [xup, xcp]
  · have : (p : Int) < 5 := by omega
    simp [xup, xcp, this]
  · have : (p : Int) < 5 := by omega
    simp [xup, xcp, this]
  · have : (p : Int) < 5 := by omega
    simp [xup, xcp, this]
  · have : (p : Int) < 5 := by omega
    simp [xup, xcp, this]
  · have : (p : Int) < 5 := by omega
    simp [xup, xcp, this]
  · have : (p : Int) < 25 := by omega
    simp [xup, xcp, this]
  · have : (p : Int) < 25 := by omega
    simp [xup, xcp, this]
  · simp [xup, xcp]
  · simp [xup, xcp]
  · have hk : (k : Int) < s 0 59 3 := hk
    simp [xup, xcp, hk]
  · simp [xup, xcp]
  · simp [xup, xcp]
  · have hk : (k : Int) < s 0 63 3 := hk
    simp [xup, xcp, hk]
  · repeat first | rw [xup_c (by omega)] | rw [xcp_c (by omega)]
