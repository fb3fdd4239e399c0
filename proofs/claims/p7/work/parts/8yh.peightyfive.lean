/-! lists, both -/
theorem lists_ec (s : XS) (a1 a2 a3 a4 : Int) : f_X11_lists s a1 a2 a3 a4 = if 0 ≤ a1 ∧ a1 ≤ 3 then (if 0 ≤ a2 ∧ a2 < s 0 10 7 then (if 0 ≤ a3 ∧ a3 < s 0 1 5 * s 0 1 6 then (if s 0 (107 + 2 * a1.toNat) 2 < 0 then (s, -6) else if a4 < 0 then (s, -3) else if 120 < a4 then (s, -3) else g23c_X11_lists (f_X7_shortest s (4 * s 1 11 a2.toNat + s 1 12 a2.toNat) a3 a4).1 (f_X7_shortest s (4 * s 1 11 a2.toNat + s 1 12 a2.toNat) a3 a4).2 a2 (107 + 2 * a1.toNat)) else (s, -2)) else (s, -2)) else (s, -2) := by
  simp only [f_X11_lists, g1c_X11_lists, g2b_X11_lists, g3_X11_lists, g4_X11_lists, g5c_X11_lists, g6b_X11_lists, g7_X11_lists, g8_X11_lists, g9c_X11_lists, g10b_X11_lists, g11_X11_lists, g12_X11_lists, g13b_X11_lists, g14_X11_lists, g15_X11_lists, g16b_X11_lists, g17_X11_lists, g18_X11_lists, g19b_X11_lists, g20_X11_lists, g21_X11_lists, g22c_X11_lists, istC_x, ispC_x, iscC_x, f_X1_stand]
  by_cases t : 0 ≤ a1 ∧ a1 ≤ 3
  · rw [if_pos t, if_neg (show ¬ (1 : Int) = 0 by decide), if_pos t]
    by_cases z : 0 ≤ a2 ∧ a2 < s 0 10 7
    · rw [if_pos z, if_neg (show ¬ (1 : Int) = 0 by decide), if_pos z]
      by_cases y : 0 ≤ a3 ∧ a3 < s 0 1 5 * s 0 1 6
      · rw [if_pos y, if_neg (show ¬ (1 : Int) = 0 by decide), if_pos y]
      · rw [if_neg y, if_pos rfl, if_neg y]
    · rw [if_neg z, if_pos rfl, if_neg z]
  · rw [if_neg t, if_pos rfl, if_neg t]
theorem lists_em (m : XS) (a1 a2 a3 a4 : Int) : f_X12_lists m a1 a2 a3 a4 = if 0 ≤ a1 ∧ a1 ≤ 3 then (if (0 ≤ a2 ∧ a2 < m 1 1 3) ∧ (0 ≤ a3 ∧ a3 ≤ m 1 1 1 * m 1 1 2 - 1) then (if m 1 23 a1.toNat = -1 then (xup m 0 0 0 0, -6) else if 0 ≤ a4 ∧ a4 ≤ 120 then g18c_X12_lists (f_X12_laysWay (xup m 0 0 0 0) a2 a3 a4).1 (f_X12_laysWay (xup m 0 0 0 0) a2 a3 a4).2 a1 a2 else (xup m 0 0 0 0, -3)) else (xup m 0 0 0 0, -2)) else (xup m 0 0 0 0, -2) := by
  have f3 : ∀ k, (xup m 0 0 0 0) 1 1 k = m 1 1 k := fun k => xup_t (by decide)
  have f23 : ∀ k, (xup m 0 0 0 0) 1 23 k = m 1 23 k := fun k => xup_t (by decide)
  simp only [f_X12_lists, g1w_X12_lists, g2c_X12_lists, g3b_X12_lists, g4_X12_lists, g5_X12_lists, g6c_X12_lists, g7b_X12_lists, g8_X12_lists, g9_X12_lists, g10c_X12_lists, g11b_X12_lists, g12_X12_lists, g13_X12_lists, g14c_X12_lists, g15b_X12_lists, g16_X12_lists, g17_X12_lists, athM_x, within_x, notr_x, f3, f23]
  by_cases t : 0 ≤ a1 ∧ a1 ≤ 3
  · rw [if_pos t, if_neg (show ¬ (1 : Int) = 0 by decide), if_pos t]
    by_cases z : 0 ≤ a2 ∧ a2 < m 1 1 3
    · by_cases y : 0 ≤ a3 ∧ a3 ≤ m 1 1 1 * m 1 1 2 - 1
      · rw [if_pos z, if_pos y, if_neg (show ¬ (1 : Int) = 0 by decide), if_pos (show (0 ≤ a2 ∧ a2 < m 1 1 3) ∧ (0 ≤ a3 ∧ a3 ≤ m 1 1 1 * m 1 1 2 - 1) from ⟨z, y⟩), if_pos t]
        by_cases k : m 1 23 a1.toNat = -1
        · rw [if_pos k, if_neg (show ¬ (-6 : Int) = 0 by decide), if_pos k]
        · rw [if_neg k, if_pos rfl, if_neg k]
          by_cases x : 0 ≤ a4 ∧ a4 ≤ 120
          · rw [if_pos x, if_neg (show ¬ (1 : Int) = 0 by decide), if_pos x]
          · rw [if_neg x, if_pos rfl, if_neg x]
      · rw [if_pos z, if_neg y, if_pos rfl, if_neg (show ¬ ((0 ≤ a2 ∧ a2 < m 1 1 3) ∧ (0 ≤ a3 ∧ a3 ≤ m 1 1 1 * m 1 1 2 - 1)) from fun q => y q.2), if_pos t]
    · rw [if_neg z, if_pos rfl, if_neg (show ¬ ((0 ≤ a2 ∧ a2 < m 1 1 3) ∧ (0 ≤ a3 ∧ a3 ≤ m 1 1 1 * m 1 1 2 - 1)) from fun q => z q.1), if_pos t]
  · rw [if_neg t, if_pos rfl, if_neg t]
