/-! the text's bounds, the reference -/
theorem k4_row {u s : XS} (h : KP k4P u s) : u 1 4 = s 1 4 := funext fun k => h 1 4 k (by unfold k4P; omega)
theorem kx_11 (m : XS) : (f_X12_next m).1 0 0 11 = m 0 0 11 := k1_f_X12_next 0 0 11 (by unfold k1P; omega)
theorem kx_4 (m : XS) : (f_X12_next m).1 1 4 = m 1 4 := k4_row k4_f_X12_next
theorem tk_4 (m : XS) (lo hi : Int) : (f_X12_takes m lo hi).1 1 4 = m 1 4 := k4_row k4_f_X12_takes
theorem tk_b {m : XS} {lo hi : Int} (h : (f_X12_takes m lo hi).1 0 0 11 = 0) : m 0 0 11 = 0 ∧ lo ≤ (f_X12_takes m lo hi).2 ∧ (f_X12_takes m lo hi).2 ≤ hi := by
  rw [takes_x] at h ⊢
  by_cases z : m 0 0 11 = 0 ∧ m 0 0 9 = 23
  · rw [if_pos z] at h ⊢
    by_cases y : lo ≤ m 0 0 10 ∧ m 0 0 10 ≤ hi
    · rw [if_pos y]; exact ⟨z.1, y.1, y.2⟩
    · rw [if_neg y] at h; exact absurd h (fails_11 (by decide))
  · rw [if_neg z] at h; exact absurd h (fails_11 (by decide))
theorem tc_b {m : XS} {W H : Nat} (w2 : 2 ≤ W) (w5 : W < 6) (e3 : m 1 4 1 = (W : Int)) (e4 : m 1 4 2 = (H : Int)) (h : (f_X12_takesCrossing m).1 0 0 11 = 0) : m 0 0 11 = 0 ∧ ∃ c : Nat, (f_X12_takesCrossing m).2 = (c : Int) ∧ c < W * H := by
  have f3 : (f_X12_takes m 0 ((W : Int) - 1)).1 1 4 2 = (H : Int) := by rw [tk_4]; exact e4
  have f4 : (f_X12_takes (f_X12_takes m 0 ((W : Int) - 1)).1 0 ((H : Int) - 1)).1 1 4 1 = (W : Int) := by rw [tk_4, tk_4]; exact e3
  have em : f_X12_takesCrossing m = ((f_X12_takes (f_X12_takes m 0 ((W : Int) - 1)).1 0 ((H : Int) - 1)).1, if (f_X12_takes (f_X12_takes m 0 ((W : Int) - 1)).1 0 ((H : Int) - 1)).1 0 0 11 = 0 then (W : Int) * (f_X12_takes (f_X12_takes m 0 ((W : Int) - 1)).1 0 ((H : Int) - 1)).2 + (f_X12_takes m 0 ((W : Int) - 1)).2 else 0) := by
    simp only [f_X12_takesCrossing, g1c_X12_takesCrossing, g2c_X12_takesCrossing, g3b_X12_takesCrossing, g4_X12_takesCrossing, g5_X12_takesCrossing, show Int.toNat 1 = 1 from rfl, show Int.toNat 2 = 2 from rfl, e3, f3, f4]
    split <;> rfl
  rw [em] at h ⊢
  dsimp only at h ⊢
  rw [if_pos h]
  obtain ⟨q1, q2, q3⟩ := tk_b h
  obtain ⟨q4, q5, q6⟩ := tk_b q1
  refine ⟨q4, ?_⟩
  clear em f3 f4 h q1 q4
  generalize (f_X12_takes (f_X12_takes m 0 ((W : Int) - 1)).1 0 ((H : Int) - 1)).2 = r2 at *
  generalize (f_X12_takes m 0 ((W : Int) - 1)).2 = r1 at *
  refine ⟨((W : Int) * r2 + r1).toNat, ?_, ?_⟩
  · rcases (show W = 2 ∨ W = 3 ∨ W = 4 ∨ W = 5 by omega) with rfl | rfl | rfl | rfl <;> omega
  · rcases (show W = 2 ∨ W = 3 ∨ W = 4 ∨ W = 5 by omega) with rfl | rfl | rfl | rfl <;> omega
theorem hM_4 {m : XS} : KP k4P (hM m).1 m := by
  unfold hM
  split
  · exact k4_f_X12_next
  · exact k4_f_X12_fails
theorem hM_b {m : XS} (h : (hM m).1 0 0 11 = 0) : m 0 0 11 = 0 ∧ 0 ≤ (hM m).2 ∧ (hM m).2 < 4 := by
  unfold hM at h ⊢
  by_cases z : m 0 0 11 = 0 ∧ 8 ≤ m 0 0 9 ∧ m 0 0 9 ≤ 11
  · rw [if_pos z]
    refine ⟨z.1, ?_, ?_⟩
    · show 0 ≤ m 0 0 9 - 8
      omega
    · show m 0 0 9 - 8 < 4
      omega
  · rw [if_neg z] at h; exact absurd h (fails_11 (by decide))
theorem oM_4 {m : XS} {k hi : Int} : KP k4P (oM k hi m).1 m := by
  unfold oM
  split
  · exact k4_f_X12_takes.tr k4_f_X12_next
  · exact KP.rf
theorem oM_b {m : XS} {k hi : Int} (h0 : 0 ≤ hi) (h : (oM k hi m).1 0 0 11 = 0) : m 0 0 11 = 0 ∧ 0 ≤ (oM k hi m).2 ∧ (oM k hi m).2 ≤ hi := by
  unfold oM at h ⊢
  by_cases z : m 0 0 11 = 0 ∧ m 0 0 9 = k
  · rw [if_pos z] at h ⊢
    obtain ⟨q1, q2, q3⟩ := tk_b h
    exact ⟨z.1, q2, q3⟩
  · rw [if_neg z] at h ⊢
    exact ⟨h, Int.le_refl _, h0⟩
theorem QJ.wh {m : XS} (q : QJ m) (hl : 0 < m 1 4 1) : ∃ W H : Nat, m 1 4 1 = (W : Int) ∧ m 1 4 2 = (H : Int) ∧ 2 ≤ W ∧ W < 6 ∧ 2 ≤ H ∧ H < 6 := by
  rcases q.2.1 with h | h
  · omega
  · exact ⟨(m 1 4 1).toNat, (m 1 4 2).toNat, by omega, by omega, by omega, by omega, by omega, by omega⟩
theorem KJ.u4 {s : XS} {k : Nat} {v : Int} (hk : k = 0 ∨ (4 ≤ k ∧ k ≤ 35)) : KJ (xup s 1 4 k v) s := by
  refine ⟨funext fun j => xup_c (by decide), fun q => ?_⟩
  unfold QJ
  rw [xup_k (by omega)]
  refine ⟨q.1, ?_⟩
  obtain ⟨a1, a2, a3, a4, a5⟩ := q.2
  have e : ∀ j, (j = 1 ∨ j = 2 ∨ j = 3 ∨ 36 ≤ j) → xup s 1 4 k v 1 4 j = s 1 4 j := fun j hj => xup_k (by omega)
  refine ⟨?_, ?_, fun p hp => ?_, fun j h1 h2 h3 => ?_, ?_⟩
  · rw [e 1 (by omega), e 2 (by omega), e 3 (by omega)]; exact a1
  · rw [e 3 (by omega)]; exact a2
  · rw [e 3 (by omega)] at hp
    rw [e (36 + p) (by omega), e (41 + p) (by omega), e (46 + p) (by omega), e (51 + p) (by omega), e 1 (by omega), e 2 (by omega)]; exact a3 p hp
  · rw [e j (by omega)]; exact a4 j h1 h2 h3
  · rw [e 111 (by omega)]; exact a5
theorem kj_city {m : XS} (hl : ¬ 0 < m 1 4 1) : KJ (f_X12_readCity m).1 m := by
  have em : (f_X12_readCity m).1 = (fun a b v => if v 0 0 11 = 0 then xup (xup v 1 4 1 a) 1 4 2 b else v) (f_X12_takes (f_X12_next m).1 2 5).2 (f_X12_takes (f_X12_takes (f_X12_next m).1 2 5).1 2 5).2 (f_X12_takes (f_X12_takes (f_X12_next m).1 2 5).1 2 5).1 := by
    simp only [f_X12_readCity, g1c_X12_readCity, g2c_X12_readCity, g3c_X12_readCity, g4b_X12_readCity, g5_X12_readCity, g6_X12_readCity, g7w_X12_readCity, g8w_X12_readCity, show Int.toNat 1 = 1 from rfl, show Int.toNat 2 = 2 from rfl]
    split <;> rfl
  have K : KP k4P (f_X12_takes (f_X12_takes (f_X12_next m).1 2 5).1 2 5).1 m := k4_f_X12_takes.tr (k4_f_X12_takes.tr k4_f_X12_next)
  have bb : (f_X12_takes (f_X12_takes (f_X12_next m).1 2 5).1 2 5).1 0 0 11 = 0 → (2 ≤ (f_X12_takes (f_X12_next m).1 2 5).2 ∧ (f_X12_takes (f_X12_next m).1 2 5).2 ≤ 5) ∧ (2 ≤ (f_X12_takes (f_X12_takes (f_X12_next m).1 2 5).1 2 5).2 ∧ (f_X12_takes (f_X12_takes (f_X12_next m).1 2 5).1 2 5).2 ≤ 5) := fun h => ⟨(tk_b (tk_b h).1).2, (tk_b h).2⟩
  rw [em]
  clear em
  generalize (f_X12_takes (f_X12_takes (f_X12_next m).1 2 5).1 2 5).2 = b at *
  generalize (f_X12_takes (f_X12_takes (f_X12_next m).1 2 5).1 2 5).1 = v at *
  generalize (f_X12_takes (f_X12_next m).1 2 5).2 = a at *
  show KJ (if v 0 0 11 = 0 then xup (xup v 1 4 1 a) 1 4 2 b else v) m
  by_cases z : v 0 0 11 = 0
  · rw [if_pos z]
    obtain ⟨b1, b2⟩ := bb z
    have e4 := k4_row K
    refine ⟨funext fun k => by rw [xup_c (by decide), xup_c (by decide)]; exact K 1 1 k (by unfold k4P; omega), fun q => ?_⟩
    obtain ⟨q0, ⟨a1, a2, a3, a4, a5⟩⟩ := q
    have e : ∀ j, j ≠ 1 → j ≠ 2 → xup (xup v 1 4 1 a) 1 4 2 b 1 4 j = m 1 4 j := fun j h1 h2 => by rw [xup_k h2, xup_k h1, e4]
    have e2 : xup (xup v 1 4 1 a) 1 4 2 b 1 4 2 = b := xup_s
    have e1 : xup (xup v 1 4 1 a) 1 4 2 b 1 4 1 = a := by rw [xup_k (by decide), xup_s]
    have p0 : m 1 4 3 = 0 := by omega
    refine ⟨by rw [e _ (by decide) (by decide)]; exact q0, ?_, ?_, fun p hp => ?_, fun j h1 h2 h3 => ?_, ?_⟩
    · rw [e1, e2]; exact Or.inr ⟨b1.1, b1.2, b2.1, b2.2⟩
    · rw [e _ (by decide) (by decide)]; exact a2
    · rw [e _ (by decide) (by decide)] at hp; omega
    · rw [e j (by omega) (by omega)]; exact a4 j h1 h2 h3
    · rw [e _ (by decide) (by decide)]; exact a5
  · rw [if_neg z]; exact KJ.of4 K
theorem kj_wall {m : XS} (hl : 0 < m 1 4 1) : KJ (f_X12_readWall m).1 m := by
  have em : (f_X12_readWall m).1 = (fun a b v => if v 0 0 11 = 0 then (if (f_X12_beyond4 v a b).2 = -1 then (f_X12_beyond4 v a b).1 else xup (xup (f_X12_beyond4 v a b).1 1 4 (Int.toNat (11 + a)) (Xior ((f_X12_beyond4 v a b).1 1 4 (Int.toNat (11 + a))) (Xishl 1 b))) 1 4 (Int.toNat (11 + (f_X12_beyond4 v a b).2)) (Xior ((xup (f_X12_beyond4 v a b).1 1 4 (Int.toNat (11 + a)) (Xior ((f_X12_beyond4 v a b).1 1 4 (Int.toNat (11 + a))) (Xishl 1 b))) 1 4 (Int.toNat (11 + (f_X12_beyond4 v a b).2))) (Xishl 1 ((b + 2) % 4)))) else v) (f_X12_takesCrossing (f_X12_next m).1).2 (f_X12_takes (f_X12_takesCrossing (f_X12_next m).1).1 0 3).2 (f_X12_takes (f_X12_takesCrossing (f_X12_next m).1).1 0 3).1 := by
    simp only [f_X12_readWall, g1c_X12_readWall, g2c_X12_readWall, g3c_X12_readWall, g4b_X12_readWall, g5_X12_readWall, g6_X12_readWall, g7c_X12_readWall, g8b_X12_readWall, g9_X12_readWall, g10_X12_readWall, g11w_X12_readWall, g12w_X12_readWall]
    (repeat' split) <;> first | rfl | contradiction
  have K : KP k4P (f_X12_takes (f_X12_takesCrossing (f_X12_next m).1).1 0 3).1 m := k4_f_X12_takes.tr (k4_f_X12_takesCrossing.tr k4_f_X12_next)
  have bb : (f_X12_takes (f_X12_takesCrossing (f_X12_next m).1).1 0 3).1 0 0 11 = 0 → QJ m → ∃ W H c d : Nat, m 1 4 1 = (W : Int) ∧ m 1 4 2 = (H : Int) ∧ 2 ≤ W ∧ W < 6 ∧ 2 ≤ H ∧ H < 6 ∧ (f_X12_takesCrossing (f_X12_next m).1).2 = (c : Int) ∧ c < W * H ∧ (f_X12_takes (f_X12_takesCrossing (f_X12_next m).1).1 0 3).2 = (d : Int) ∧ d < 4 := fun h q => by
    obtain ⟨W, H, w1, w2, w3, w4, w5, w6⟩ := q.wh hl
    obtain ⟨t1, t2, t3⟩ := tk_b h
    obtain ⟨-, c, c1, c2⟩ := tc_b w3 w4 (by rw [kx_4]; exact w1) (by rw [kx_4]; exact w2) t1
    exact ⟨W, H, c, _, w1, w2, w3, w4, w5, w6, c1, c2, (Int.toNat_of_nonneg t2).symm, by omega⟩
  rw [em]
  clear em
  generalize (f_X12_takes (f_X12_takesCrossing (f_X12_next m).1).1 0 3).2 = b2 at *
  generalize (f_X12_takes (f_X12_takesCrossing (f_X12_next m).1).1 0 3).1 = v at *
  generalize (f_X12_takesCrossing (f_X12_next m).1).2 = b1 at *
  have by4 : (f_X12_beyond4 v b1 b2).1 = v := by
    simp only [f_X12_beyond4, g1b_X12_beyond4, g2_X12_beyond4, g3_X12_beyond4, g4b_X12_beyond4, g5_X12_beyond4, g6_X12_beyond4, g7b_X12_beyond4, g8_X12_beyond4, g9_X12_beyond4, g10b_X12_beyond4, g11_X12_beyond4, g12_X12_beyond4, g13c_X12_beyond4, g14b_X12_beyond4, g15_X12_beyond4, g16_X12_beyond4, g17c_X12_beyond4, g18b_X12_beyond4, g19_X12_beyond4, g20_X12_beyond4, g21c_X12_beyond4, g22b_X12_beyond4, g23_X12_beyond4, g24_X12_beyond4, g25c_X12_beyond4, g26b_X12_beyond4, g27_X12_beyond4, g28_X12_beyond4, g29c_X12_beyond4, g30b_X12_beyond4, g31_X12_beyond4, g32_X12_beyond4, g33c_X12_beyond4, g34b_X12_beyond4, g35_X12_beyond4, g36_X12_beyond4, g37c_X12_beyond4, g38b_X12_beyond4, g39_X12_beyond4, g40_X12_beyond4, g41c_X12_beyond4, g42b_X12_beyond4, g43_X12_beyond4, g44_X12_beyond4, g45c_X12_beyond4, g46b_X12_beyond4, g47_X12_beyond4, g48_X12_beyond4, g49c_X12_beyond4, g50b_X12_beyond4, g51_X12_beyond4, g52_X12_beyond4, within_x]
    (repeat' split) <;> rfl
  have e4 := k4_row K
  dsimp only
  rw [by4]
  by_cases z : v 0 0 11 = 0
  · rw [if_pos z]
    by_cases y : (f_X12_beyond4 v b1 b2).2 = -1
    · rw [if_pos y]; exact KJ.of4 K
    rw [if_neg y]
    have row : ∀ (i j : Nat) (x y' : Int), (xup (xup v 1 4 i x) 1 4 j y') 1 1 = m 1 1 := fun i j x y' => funext fun k => by
      rw [xup_c (by decide), xup_c (by decide)]
      exact K 1 1 k (by unfold k4P; omega)
    refine ⟨row _ _ _ _, fun q => ?_⟩
    obtain ⟨W, H, c, d, w1, w2, w3, w4, w5, w6, c1, c2, d1, d2⟩ := bb z q
    have c25 : c < 25 := by have := wh25 ⟨w3, w4, w5, w6⟩; omega
    have q2 := (KJ.of4 K).2 q
    have eb := bey4_x (m := v) (w := W) (h := H) (c := c) (d := d) (by rw [e4]; exact w1) (by rw [e4]; exact w2) w4 w3 w6 w5 c25 d2
    rw [c1, d1, eb] at y ⊢
    dsimp only at y ⊢
    obtain ⟨r1, r2, -⟩ := bey_back W w4 H w6 c c25 d d2 w3 w5 c2 y
    have r3 : beyF (W : Int) (H : Int) (c : Int) (d : Int) < 25 := by
      have := wh25 ⟨w3, w4, w5, w6⟩
      rw [← Int.natCast_mul] at r2
      omega
    exact (KJ.u4 (by omega)).2 ((KJ.u4 (by omega)).2 q2)
  · rw [if_neg z]; exact KJ.of4 K
theorem kj_free {m : XS} (hl : 0 < m 1 4 1) : KJ (fM m) m := by
  unfold fM
  have K : KP k4P (f_X12_takesCrossing (f_X12_next m).1).1 m := k4_f_X12_takesCrossing.tr k4_f_X12_next
  split
  · exact (KJ.u4 (by omega)).tr (KJ.of4 K)
  · exact KJ.of4 K
theorem kj_hour {m : XS} : KJ (uM m) m := by
  unfold uM
  have K : KP k4P (f_X12_takes (f_X12_next m).1 0 999).1 m := k4_f_X12_takes.tr k4_f_X12_next
  by_cases z : (f_X12_takes (f_X12_next m).1 0 999).1 0 0 11 = 0
  · rw [if_pos z]
    obtain ⟨-, b1, b2⟩ := tk_b z
    generalize (f_X12_takes (f_X12_next m).1 0 999).2 = x at *
    generalize (f_X12_takes (f_X12_next m).1 0 999).1 = v at *
    refine KJ.tr ?_ (KJ.of4 K)
    refine ⟨funext fun k => xup_c (by decide), fun q => ?_⟩
    obtain ⟨q0, ⟨a1, a2, a3, a4, a5⟩⟩ := q
    have e : ∀ j, j ≠ 111 → xup v 1 4 111 x 1 4 j = v 1 4 j := fun j h => xup_k h
    refine ⟨by rw [e _ (by decide)]; exact q0, ?_, ?_, fun p hp => ?_, fun j h1 h2 h3 => ?_, ?_⟩
    · rw [e _ (by decide), e _ (by decide), e _ (by decide)]; exact a1
    · rw [e _ (by decide)]; exact a2
    · rw [e _ (by decide)] at hp
      rw [e (36 + p) (by omega), e (41 + p) (by omega), e (46 + p) (by omega), e (51 + p) (by omega), e 1 (by decide), e 2 (by decide)]; exact a3 p hp
    · rw [e j (by omega)]; exact a4 j h1 h2 h3
    · rw [xup_s]; exact ⟨b1, b2⟩
  · rw [if_neg z]; exact KJ.of4 K
theorem kj_qM {m v : XS} {C D E F : Int} (K : KP k4P v m) (h5 : m 1 4 3 ≠ 5) (bb : v 0 0 11 = 0 → QJ m → (0 ≤ C ∧ C < m 1 4 1 * m 1 4 2) ∧ (0 ≤ D ∧ D < 4) ∧ (0 ≤ E ∧ E ≤ 99) ∧ (0 ≤ F ∧ F ≤ 999)) : KJ (qM m (m 1 4 3) C D E F v) m := by
  unfold qM
  by_cases z : v 0 0 11 = 0
  · rw [if_pos z]
    have e4 := k4_row K
    refine ⟨funext fun k => by rw [xup_c (by decide), xup_c (by decide), xup_c (by decide), xup_c (by decide), xup_c (by decide)]; exact K 1 1 k (by unfold k4P; omega), fun q => ?_⟩
    obtain ⟨c1, c2, c3, c4⟩ := bb z q
    obtain ⟨q0, ⟨a1, a2, a3, a4, a5⟩⟩ := q
    obtain ⟨P, hP⟩ : ∃ P : Nat, m 1 4 3 = (P : Int) := ⟨(m 1 4 3).toNat, by omega⟩
    rw [hP, show Int.toNat (36 + (P : Int)) = 36 + P by omega, show Int.toNat (41 + (P : Int)) = 41 + P by omega, show Int.toNat (46 + (P : Int)) = 46 + P by omega, show Int.toNat (51 + (P : Int)) = 51 + P by omega]
    have P5 : P < 5 := by omega
    have e3 : xup (xup (xup (xup v 1 4 (36 + P) C) 1 4 (41 + P) D) 1 4 (46 + P) E) 1 4 (51 + P) F 1 4 3 = (P : Int) := by
      rw [xup_k (by omega), xup_k (by omega), xup_k (by omega), xup_k (by omega), e4, hP]
    rw [e3]
    have e36 : xup (xup (xup (xup (xup v 1 4 (36 + P) C) 1 4 (41 + P) D) 1 4 (46 + P) E) 1 4 (51 + P) F) 1 4 3 ((P : Int) + 1) 1 4 (36 + P) = C := by rw [xup_k (by omega), xup_k (by omega), xup_k (by omega), xup_k (by omega), xup_s]
    have e41 : xup (xup (xup (xup (xup v 1 4 (36 + P) C) 1 4 (41 + P) D) 1 4 (46 + P) E) 1 4 (51 + P) F) 1 4 3 ((P : Int) + 1) 1 4 (41 + P) = D := by rw [xup_k (by omega), xup_k (by omega), xup_k (by omega), xup_s]
    have e46 : xup (xup (xup (xup (xup v 1 4 (36 + P) C) 1 4 (41 + P) D) 1 4 (46 + P) E) 1 4 (51 + P) F) 1 4 3 ((P : Int) + 1) 1 4 (46 + P) = E := by rw [xup_k (by omega), xup_k (by omega), xup_s]
    have e51 : xup (xup (xup (xup (xup v 1 4 (36 + P) C) 1 4 (41 + P) D) 1 4 (46 + P) E) 1 4 (51 + P) F) 1 4 3 ((P : Int) + 1) 1 4 (51 + P) = F := by rw [xup_k (by omega), xup_s]
    have e33 : xup (xup (xup (xup (xup v 1 4 (36 + P) C) 1 4 (41 + P) D) 1 4 (46 + P) E) 1 4 (51 + P) F) 1 4 3 ((P : Int) + 1) 1 4 3 = (P : Int) + 1 := xup_s
    have e : ∀ j, j ≠ 3 → j ≠ 36 + P → j ≠ 41 + P → j ≠ 46 + P → j ≠ 51 + P → xup (xup (xup (xup (xup v 1 4 (36 + P) C) 1 4 (41 + P) D) 1 4 (46 + P) E) 1 4 (51 + P) F) 1 4 3 ((P : Int) + 1) 1 4 j = m 1 4 j := fun j h1 h2 h3 h4 h5 => by rw [xup_k h1, xup_k h5, xup_k h4, xup_k h3, xup_k h2, e4]
    refine ⟨by rw [e _ (by omega) (by omega) (by omega) (by omega) (by omega)]; exact q0, ?_, ?_, fun p hp => ?_, fun j h1 h2 h3 => ?_, ?_⟩
    · rw [e 1 (by omega) (by omega) (by omega) (by omega) (by omega), e 2 (by omega) (by omega) (by omega) (by omega) (by omega), e33]
      refine Or.inr ?_
      rcases a1 with x | x
      · exfalso
        have := c1.2
        rw [x.1, Int.zero_mul] at this
        omega
      · exact x
    · rw [e33]; omega
    · rw [e33] at hp
      rw [e 1 (by omega) (by omega) (by omega) (by omega) (by omega), e 2 (by omega) (by omega) (by omega) (by omega) (by omega)]
      by_cases x : p = P
      · subst x
        rw [e36, e41, e46, e51]
        exact ⟨c1, c2, c3, by omega⟩
      · rw [e (36 + p) (by omega) (by omega) (by omega) (by omega) (by omega), e (41 + p) (by omega) (by omega) (by omega) (by omega) (by omega), e (46 + p) (by omega) (by omega) (by omega) (by omega) (by omega), e (51 + p) (by omega) (by omega) (by omega) (by omega) (by omega)]
        exact a3 p (by omega)
    · rw [e j (by omega) (by omega) (by omega) (by omega) (by omega)]; exact a4 j h1 h2 h3
    · rw [e 111 (by omega) (by omega) (by omega) (by omega) (by omega)]; exact a5
  · rw [if_neg z]; exact KJ.of4 K
theorem kj_person {m : XS} (h11 : m 0 0 11 = 0) (hl : 0 < m 1 4 1) : KJ (f_X12_readPerson m).1 m := by
  rw [person_m h11]
  by_cases z : m 1 4 3 = 5
  · rw [if_pos z]; exact KJ.of4 k4_f_X12_fails
  rw [if_neg z]
  unfold pM
  refine kj_qM (oM_4.tr (oM_4.tr (hM_4.tr (k4_f_X12_takesCrossing.tr k4_f_X12_next)))) z (fun h q => ?_)
  obtain ⟨W, H, w1, w2, w3, w4, w5, w6⟩ := q.wh hl
  obtain ⟨t1, t2⟩ := oM_b (by decide) h
  obtain ⟨t3, t4⟩ := oM_b (by decide) t1
  obtain ⟨t5, t6⟩ := hM_b t3
  obtain ⟨-, c, c1, c2⟩ := tc_b w3 w4 (by rw [kx_4]; exact w1) (by rw [kx_4]; exact w2) t5
  refine ⟨?_, t6, t4, t2⟩
  rw [c1, w1, w2, ← Int.natCast_mul]
  omega
theorem coM_4 {m : XS} : KP k4P (coM m) m := by
  unfold coM
  split
  · exact k4_f_X12_next
  · exact k4_f_X12_fails
theorem wrL_j {t : Nat} {F : Int} {v s : XS} (ht : t < 2) (h : KJ v s) : KJ (wrL t F v) s := by
  unfold wrL
  split
  · exact (KJ.u4 (by omega)).tr ((KJ.u4 (by omega)).tr ((KJ.u4 (by omega)).tr h))
  · exact h
theorem kj_line {m : XS} (h : m 0 0 11 = 0) : KJ (f_X12_readLine m).1 m := by
  have fl : ∀ k, KJ (f_X12_fails m k).1 m := fun k => KJ.of4 k4_f_X12_fails
  by_cases z0 : m 0 0 9 = 0
  · rw [rl_0 h z0]
    by_cases y : 0 < m 1 4 1
    · rw [if_pos y]; exact fl _
    · rw [if_neg y]; exact kj_city y
  by_cases z1 : m 0 0 9 = 1
  · rw [rl_1 h z1]
    by_cases y : 0 < m 1 4 1
    · rw [if_pos y]; exact kj_wall y
    · rw [if_neg y]; exact fl _
  by_cases z2 : m 0 0 9 = 2
  · rw [rl_2 h z2]
    by_cases y : 0 < m 1 4 1
    · rw [if_pos y]; exact kj_free y
    · rw [if_neg y]; exact fl _
  by_cases z3 : m 0 0 9 = 3
  · rw [rl_3 h z3]
    by_cases y : 0 < m 1 4 1
    · rw [if_pos y]; exact kj_person h y
    · rw [if_neg y]; exact fl _
  by_cases z6 : m 0 0 9 = 6
  · rw [rl_6 h z6, law_m0]
    exact wrL_j (by decide) (kj_f_X12_readSum_0.tr (KJ.of4 (coM_4.tr k4_f_X12_next)))
  by_cases z7 : m 0 0 9 = 7
  · rw [rl_7 h z7, law_m1]
    exact wrL_j (by decide) (kj_f_X12_readTruth_0.tr (KJ.of4 (coM_4.tr k4_f_X12_next)))
  by_cases z17 : m 0 0 9 = 17
  · rw [rl_17 h z17]; exact kj_hour
  rw [rl_n z0 z1 z2 z3 z6 z7 z17]
  exact fl _
theorem kj_stM {m : XS} (h : m 0 0 11 = 0) : KJ (stM m) m := by
  unfold stM
  refine (KJ.u4 (Or.inl rfl)).tr ?_
  unfold smM
  split
  · exact (KJ.of4 k4_f_X12_next).tr (kj_line h)
  · exact (KJ.of4 k4_f_X12_fails).tr (kj_line h)
def RdnQ (s m u v : XS) (r : XR) : Prop := Rdn s m u v r ∧ (u 0 77 8 = 0 → QJ v)
theorem Rd_deadQ {s m : XS} (h : Dead (s 0 77) (m 0 0)) (nM nC : Nat) (i : Int) : ∃ u v, L8_X5_read (nC + 1) s i = (u, u 0 77 8) ∧ RdnQ s m u v (L12_X12_city (nM + 2) m) := by
  obtain ⟨u, v, g1, g2⟩ := Rd_dead h nM nC i
  refine ⟨u, v, g1, g2, fun e => ?_⟩
  rw [rd_c, if_neg (fun q => q.2 h.2.1)] at g1
  have e2 : s = u := congrArg Prod.fst g1
  rw [← e2] at e
  exact absurd e h.1
theorem Rd_loopQ {w : WW} : ∀ (nM nC : Nat) (i : Int) (s m : XS), QJ m → Sb (s 1 78) (m 1 3) → Tk w (s 1 78) (s 0 77) (m 0 0) → Ct s m → 2 * (900 - s 0 77 5) + 2 ≤ (nM : Int) → (nC : Int) = 901 - i → i ≤ s 0 77 5 → ∃ u v, L8_X5_read nC s i = (u, u 0 77 8) ∧ RdnQ s m u v (L12_X12_city nM m) := by
  intro nM
  induction nM with
  | zero =>
    intro nC i s m qj E h hC h1 h2 h3
    obtain ⟨-, -, -, b1, b2, b3, b4, -, -⟩ := h
    exfalso; omega
  | succ nM ih =>
    intro nC i s m qj E h hC h1 h2 h3
    have fin := h.fin
    have ok := h.1
    obtain ⟨b1, b2, b3, b4, b5, -⟩ := h.2.2.2
    obtain ⟨n, rfl⟩ : ∃ n, nC = n + 1 := ⟨nC - 1, by omega⟩
    by_cases c : s 0 77 4 = 0
    · refine ⟨s, m, ?_, ⟨FrL.rf, FrN.rf, Or.inl ⟨hC, ok.1, ok.2.1, ok.2.2.2.2.2.2.2.2, ?_⟩⟩, fun _ => qj⟩
      · rw [rd_c, if_neg (fun q => q.2 c)]
      · rw [rd_m, if_pos ok.2.1, if_pos (fin.mp c)]
    · have l := b5 c
      have nf : ¬ m 0 0 9 = 24 := fun q => c (fin.mpr q)
      rw [rd_c, if_pos ⟨by omega, c⟩, rd_m, if_pos ok.2.1, if_neg nf]
      obtain ⟨f1, f2, r⟩ := X_step E h hC
      have e78 : stC s 1 78 = s 1 78 := funext fun k => f1 1 78 k (by omega) (by omega) (by omega)
      have e3 : stM m 1 3 = m 1 3 := funext fun k => f2 1 3 k (by omega) (by omega)
      have E2 : Sb (stC s 1 78) (stM m 1 3) := by rw [e78, e3]; exact E
      have qj2 := (kj_stM ok.2.1).2 qj
      have go : ∃ u v, L8_X5_read n (stC s) (i + 1) = (u, u 0 77 8) ∧ RdnQ (stC s) (stM m) u v (L12_X12_city nM (stM m)) := by
        rcases r with ⟨r1, r2, r3⟩ | r
        · exact ih n (i + 1) (stC s) (stM m) qj2 E2 r1 r2 (by omega) (by omega) (by omega)
        · obtain ⟨a, rfl⟩ : ∃ a, n = a + 1 := ⟨n - 1, by omega⟩
          obtain ⟨b, rfl⟩ : ∃ b, nM = b + 2 := ⟨nM - 2, by omega⟩
          exact Rd_deadQ r b a (i + 1)
      obtain ⟨u, v, g1, ⟨g2, g3, g4⟩, gq⟩ := go
      exact ⟨u, v, g1, ⟨f1.tr g2, f2.tr g3, g4⟩, gq⟩
theorem Read_q {s m : XS} {n : Int} (E : Sb (s 1 78) (m 1 3)) (h0 : 0 ≤ n) (h1 : n ≤ m 0 0 5) (h9 : n ≤ 900) : ∃ u v, f_X5_read s n = (u, u 0 77 8) ∧ (u 0 77 8 = 0 → QJ v) ∧ (u 0 77 8 = 0 → f_X12_city m n = g20_X12_city v) := by
  obtain ⟨s1, s2, s3, s6, s8, s9, sc⟩ := s0C_x s n
  obtain ⟨m1, m8, m5, m7, m11, mc⟩ := m0M_x m n
  obtain ⟨-, k1, k2, k3, k4, k5, k6, k7, k8⟩ := clear_x s
  rw [read_e, city_e h0 h1]
  have Cs : Ci 20 (s0C s n) (m0M m n 1 4) := Ci_bare (fun k a b => by rw [sc _ _ _ (by omega) (by omega)]; exact k1 k a b) (by rw [sc _ _ _ (by omega) (by omega)]; exact k2) (by rw [sc _ _ _ (by omega) (by omega)]; exact k3) (by rw [sc _ _ _ (by omega) (by omega)]; exact k4) (by rw [sc _ _ _ (by omega) (by omega)]; exact k5) (fun p hp => by rw [sc _ _ _ (by omega) (by omega)]; exact k6 p hp) (fun p hp => by rw [sc _ _ _ (by omega) (by omega)]; exact k7 p hp) (fun p hp => by rw [sc _ _ _ (by omega) (by omega)]; exact k8 p hp) mc
  generalize s0C s n = S at *
  generalize m0M m n = M at *
  have e78 : S 1 78 = s 1 78 := funext fun k => s1 1 78 k (by omega) (by omega)
  have e3 : M 1 3 = m 1 3 := funext fun k => m1 1 3 k (by omega) (by omega)
  have E2 : Sb (S 1 78) (M 1 3) := by rw [e78, e3]; exact E
  obtain ⟨w, hw⟩ : ∃ w : WW, w = (M 0 0 100, M 0 0 101, M 0 0 102, M 0 0 103) := ⟨_, rfl⟩
  have ok : Ok w (S 0 77) (M 0 0) := ⟨s8, m11, by rw [s3, m8], by rw [s6, m7], by rw [hw], by rw [hw], by rw [hw], by rw [hw], s9⟩
  have hT : ∀ j, -128 ≤ S 1 78 j ∧ S 1 78 j ≤ 127 := fun j => by have := E2 j; omega
  have ea := adv_x S (by omega) ⟨by omega, by omega⟩ hT
  have en := nxt_m M (by omega) ⟨by omega, by omega⟩
  have r := R_adv0 E2 ok
  have b := Bd.adv0 (T := S 1 78) (x := S 0 77) s8 (by omega) (by omega) (by omega)
  have a6 : nxM (M 1 3) (M 0 0) 6 ≤ 900 := by
    rw [nxM_6]
    have q := (skP_bd (T := M 1 3) (n := M 0 0 8) (901 - M 0 0 7).toNat (M 0 0 7)).2 (by omega)
    have e : skP (M 1 3) (M 0 0 8) (901 - M 0 0 7).toNat (M 0 0 7) = skip (M 1 3) (M 0 0 8) (M 0 0 7) := rfl
    rw [e] at q
    omega
  have a11 : nxM (M 1 3) (M 0 0) 11 = 0 := nx_11.trans m11
  rw [ea, en]
  obtain ⟨P, hP⟩ : ∃ P, P = pO 77 S (advS (S 1 78) (S 0 77)) := ⟨_, rfl⟩
  obtain ⟨N, hN⟩ : ∃ N, N = pO 0 M (nxM (M 1 3) (M 0 0)) := ⟨_, rfl⟩
  show ∃ u v, L8_X5_read (900 + 1) (pO 77 S (advS (S 1 78) (S 0 77))) 0 = (u, u 0 77 8) ∧ (u 0 77 8 = 0 → QJ v) ∧ (u 0 77 8 = 0 → L12_X12_city (fuM (pO 0 M (nxM (M 1 3) (M 0 0)))) (pO 0 M (nxM (M 1 3) (M 0 0))) = g20_X12_city v)
  rw [← hP, ← hN]
  have p77 : P 0 77 = advS (S 1 78) (S 0 77) := by rw [hP, put_at]
  have n00 : N 0 0 = nxM (M 1 3) (M 0 0) := by rw [hN, put_at]
  have p78 : P 1 78 = S 1 78 := by rw [hP, put_1]
  have n13 : N 1 3 = M 1 3 := by rw [hN, put_1]
  have n14 : N 1 4 = M 1 4 := by rw [hN, put_1]
  have pn : ∀ t c k, c ≠ 77 → P t c k = S t c k := fun t c k h => by rw [hP, put_n (fun q => h q.2)]
  have nn : ∀ t c k, c ≠ 0 → N t c k = M t c k := fun t c k h => by rw [hN, put_n (fun q => h q.2)]
  have fu : fuM N = Int.toNat (2 * (900 - N 0 0 6)) + 2 := by
    unfold fuM
    rw [n00, a11]
    omega
  have qN : QJ N := by
    unfold QJ
    rw [n14]
    exact ⟨by rw [mc _ (by decide)]; decide, Or.inl ⟨mc _ (by decide), mc _ (by decide), mc _ (by decide)⟩, by rw [mc _ (by decide)]; decide, fun p hp => by rw [mc _ (by decide)] at hp; omega, fun k h1 h2 h3 => mc _ (by omega), by rw [mc _ (by decide)]; decide⟩
  have lp : ∃ u v, L8_X5_read (900 + 1) P 0 = (u, u 0 77 8) ∧ RdnQ P N u v (L12_X12_city (fuM N) N) := by
    rcases r with ⟨r1, r2, r3⟩ | r
    · refine Rd_loopQ (w := w) (fuM N) (900 + 1) 0 P N qN (by rw [p78, n13]; exact E2) (by rw [p78, p77, n00]; exact ⟨r1, r2, r3, b.1⟩) ⟨?_, ?_⟩ ?_ (by decide) ?_
      · rw [n14]
        exact Cs.same (fun t j k hj => pn t (20 + j) k (by omega))
      · rw [n14, mc 873 (by decide), p77]
        exact b.1.1
      · rw [fu, p77, n00]
        omega
      · rw [p77]
        exact b.1.1
    · rw [fu]
      exact Rd_deadQ (by rw [p77, n00]; exact r) _ 900 0
  obtain ⟨u, v, g1, ⟨g2, g3, g4⟩, gq⟩ := lp
  refine ⟨u, v, g1, gq, fun e => ?_⟩
  rcases g4 with ⟨q1, q2, q3, q9, q4⟩ | q
  · exact q4
  · exact absurd e q.1
