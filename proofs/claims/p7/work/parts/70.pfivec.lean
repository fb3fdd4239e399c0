/-! beyond over the row that is read -/
theorem two_if (m : XS) (p q r s : Prop) [Decidable p] [Decidable q] [Decidable r] [Decidable s] (v : Int) : (if (if p ∧ q then (1 : Int) else 0) = 0 then (m, (-1 : Int)) else if (if r ∧ s then (1 : Int) else 0) = 0 then (m, -1) else (m, v)) = (m, if p ∧ q ∧ r ∧ s then v else -1) := by
  by_cases hp : p ∧ q
  · rw [if_pos hp, if_neg (show ¬ (1 : Int) = 0 by decide)]
    by_cases hr : r ∧ s
    · rw [if_pos hr, if_neg (show ¬ (1 : Int) = 0 by decide), if_pos ⟨hp.1, hp.2, hr.1, hr.2⟩]
    · rw [if_neg hr, if_pos rfl, if_neg (fun z => hr z.2.2)]
  · rw [if_neg hp, if_pos rfl, if_neg (fun z => hp ⟨z.1, z.2.1⟩)]
set_option maxRecDepth 8000 in
theorem bey4_x {m : XS} {w h c d : Nat} (ew : m 1 4 1 = (w : Int)) (eh : m 1 4 2 = (h : Int)) (hw : w < 6) (hw2 : 2 ≤ w) (hh : h < 6) (hh2 : 2 ≤ h) (hc : c < 25) (hd : d < 4) : f_X12_beyond4 m (c : Int) (d : Int) = (m, beyF (w : Int) (h : Int) (c : Int) (d : Int)) := by
  obtain ⟨r1, r2⟩ := rem_t w hw hw2 c hc
  have m1 : (c : Int) % (w : Int) = ((c % w : Nat) : Int) := rfl
  have m2 : (c : Int) / (w : Int) = ((c / w : Nat) : Int) := rfl
  have b1 : c % w < 25 := Nat.lt_of_le_of_lt (Nat.mod_le c w) hc
  have b2 : c / w < 25 := Nat.lt_of_le_of_lt (Nat.div_le_self c w) hc
  obtain ⟨a1, a2⟩ := add1_t (c % w) b1
  obtain ⟨a3, a4⟩ := add1_t (c / w) b2
  simp only [f_X12_beyond4, g1b_X12_beyond4, g2_X12_beyond4, g3_X12_beyond4, g4b_X12_beyond4, g5_X12_beyond4, g6_X12_beyond4, g7b_X12_beyond4, g8_X12_beyond4, g9_X12_beyond4, g10b_X12_beyond4, g11_X12_beyond4, g12_X12_beyond4, g13c_X12_beyond4, g14b_X12_beyond4, g15_X12_beyond4, g16_X12_beyond4, g17c_X12_beyond4, g18b_X12_beyond4, g19_X12_beyond4, g20_X12_beyond4, g21c_X12_beyond4, g22b_X12_beyond4, g23_X12_beyond4, g24_X12_beyond4, g25c_X12_beyond4, g26b_X12_beyond4, g27_X12_beyond4, g28_X12_beyond4, g29c_X12_beyond4, g30b_X12_beyond4, g31_X12_beyond4, g32_X12_beyond4, g33c_X12_beyond4, g34b_X12_beyond4, g35_X12_beyond4, g36_X12_beyond4, g37c_X12_beyond4, g38b_X12_beyond4, g39_X12_beyond4, g40_X12_beyond4, g41c_X12_beyond4, g42b_X12_beyond4, g43_X12_beyond4, g44_X12_beyond4, g45c_X12_beyond4, g46b_X12_beyond4, g47_X12_beyond4, g48_X12_beyond4, g49c_X12_beyond4, g50b_X12_beyond4, g51_X12_beyond4, g52_X12_beyond4, within_x, show Int.toNat 1 = 1 from rfl, show Int.toNat 2 = 2 from rfl, ew, eh, r1, r2, m1, m2]
  unfold beyF
  rw [m1, m2]
  generalize ((c % w : Nat) : Int) = X at *
  generalize ((c / w : Nat) : Int) = Y at *
  clear r1 r2 m1 m2
  rcases (show d = 0 ∨ d = 1 ∨ d = 2 ∨ d = 3 by omega) with rfl | rfl | rfl | rfl
  · simp only [show ((0 : Nat) : Int) = 0 from rfl, show ¬ (0 : Int) = 1 by decide, show ¬ (0 : Int) = 2 by decide, show ¬ (0 : Int) = 3 by decide, if_false, if_true, Int.add_zero, a4]
    exact two_if m _ _ _ _ _
  · simp only [show ((1 : Nat) : Int) = 1 from rfl, show ¬ (1 : Int) = 0 by decide, show ¬ (1 : Int) = 2 by decide, show ¬ (1 : Int) = 3 by decide, if_false, if_true, Int.add_zero, a1]
    exact two_if m _ _ _ _ _
  · simp only [show ((2 : Nat) : Int) = 2 from rfl, show ¬ (2 : Int) = 0 by decide, show ¬ (2 : Int) = 1 by decide, show ¬ (2 : Int) = 3 by decide, if_false, if_true, Int.add_zero, a3]
    exact two_if m _ _ _ _ _
  · simp only [show ((3 : Nat) : Int) = 3 from rfl, show ¬ (3 : Int) = 0 by decide, show ¬ (3 : Int) = 1 by decide, show ¬ (3 : Int) = 2 by decide, if_false, if_true, Int.add_zero, a2]
    exact two_if m _ _ _ _ _
