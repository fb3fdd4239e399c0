theorem D_atom_1 {m : XS} (a : Int) (h : m 0 0 11 ≠ 0) : f_X12_readAtom_1 m a = (m, 0) := by
  simp only [f_X12_readAtom_1, g1c_X12_readAtom_1, g2b_X12_readAtom_1, g3_X12_readAtom_1, g4_X12_readAtom_1, g5b_X12_readAtom_1, g6_X12_readAtom_1, g7_X12_readAtom_1, g8c_X12_readAtom_1, g9b_X12_readAtom_1, g10_X12_readAtom_1, g11_X12_readAtom_1, g12c_X12_readAtom_1, g13c_X12_readAtom_1, g14b_X12_readAtom_1, g15_X12_readAtom_1, g16_X12_readAtom_1, g17c_X12_readAtom_1, g18c_X12_readAtom_1, g19b_X12_readAtom_1, g20_X12_readAtom_1, g21_X12_readAtom_1, g22c_X12_readAtom_1, g23c_X12_readAtom_1, g24b_X12_readAtom_1, g25_X12_readAtom_1, g26_X12_readAtom_1, g27c_X12_readAtom_1, g28b_X12_readAtom_1, g29_X12_readAtom_1, g30_X12_readAtom_1, g31c_X12_readAtom_1, g32c_X12_readAtom_1, g33b_X12_readAtom_1, g34_X12_readAtom_1, g35_X12_readAtom_1, g36c_X12_readAtom_1, g37c_X12_readAtom_1, g38b_X12_readAtom_1, g39_X12_readAtom_1, g40_X12_readAtom_1, g41c_X12_readAtom_1, g42c_X12_readAtom_1, g43c_X12_readAtom_1, g44c_X12_readAtom_1, g45c_X12_readAtom_1, is_d h, fails_d h, if_neg h, if_true]
set_option maxRecDepth 4000 in
theorem S_atom_1 (a a' : Int) : SimL (Num false 11) (fun s => (f_X5_atom_1 s a).1) (fun m => (f_X12_readAtom_1 m a').1) := by
  intro w L F l p s m E h h0
  have k2 := R_num h.rk
  have k40 := R_sgn h.rk (c := 40) (k := 35) (by omega)
  have w15 : wI (s 1 78) 12 (s 0 77) = 1 ↔ (m 0 0 11 = 0 ∧ m 0 0 9 = 15) := R_wd h.rk (q := 15) (by omega)
  have w16 : wI (s 1 78) 13 (s 0 77) = 1 ↔ (m 0 0 11 = 0 ∧ m 0 0 9 = 16) := R_wd h.rk (q := 16) (by omega)
  have w17 : wI (s 1 78) 14 (s 0 77) = 1 ↔ (m 0 0 11 = 0 ∧ m 0 0 9 = 17) := R_wd h.rk (q := 17) (by omega)
  have w18 : wI (s 1 78) 15 (s 0 77) = 1 ↔ (m 0 0 11 = 0 ∧ m 0 0 9 = 18) := R_wd h.rk (q := 18) (by omega)
  have w19 : wI (s 1 78) 16 (s 0 77) = 1 ↔ (m 0 0 11 = 0 ∧ m 0 0 9 = 19) := R_wd h.rk (q := 19) (by omega)
  have w20 : wI (s 1 78) 17 (s 0 77) = 1 ↔ (m 0 0 11 = 0 ∧ m 0 0 9 = 20) := R_wd h.rk (q := 20) (by omega)
  show Go w L F l p 1 (Num false 11) s m (f_X5_atom_1 s a).1 (f_X12_readAtom_1 m a').1
  by_cases c1 : m 0 0 11 = 0 ∧ m 0 0 9 = 23
  · have ok := h.ok c1.1 (by omega)
    have ec : (f_X5_atom_1 s a).1 = (f_X5_advance (f_X4_add s (Int.toNat (s 3 77 10)) (s 0 77 7)).1).1 := by
      simp only [f_X5_atom_1, g1b_X5_atom_1, g2_X5_atom_1, g3_X5_atom_1, g4b_X5_atom_1, g5_X5_atom_1, g6_X5_atom_1, g7c_X5_atom_1, g8b_X5_atom_1, g9_X5_atom_1, g10_X5_atom_1, g11c_X5_atom_1, g12b_X5_atom_1, g13_X5_atom_1, g14_X5_atom_1, g15c_X5_atom_1, g16b_X5_atom_1, g17_X5_atom_1, g18_X5_atom_1, g19c_X5_atom_1, g20b_X5_atom_1, g21_X5_atom_1, g22_X5_atom_1, g23c_X5_atom_1, g24b_X5_atom_1, g25_X5_atom_1, g26_X5_atom_1, g27c_X5_atom_1, g28b_X5_atom_1, g29_X5_atom_1, g30_X5_atom_1, g31c_X5_atom_1, g32c_X5_atom_1, g33c_X5_atom_1, g34c_X5_atom_1, g35c_X5_atom_1, g36c_X5_atom_1, g37c_X5_atom_1, g38c_X5_atom_1, g39c_X5_atom_1, g40c_X5_atom_1, g41c_X5_atom_1, g42c_X5_atom_1, g43c_X5_atom_1, g44c_X5_atom_1, g45c_X5_atom_1, g46c_X5_atom_1, g47c_X5_atom_1, g48c_X5_atom_1, g49c_X5_atom_1, if_pos (k2.mpr c1), n10, if_true, if_false]
    have em : (f_X12_readAtom_1 m a').1 = (f_X12_next (f_X12_codes m (m 0 0 10)).1).1 := by
      simp only [f_X12_readAtom_1, g1c_X12_readAtom_1, g2b_X12_readAtom_1, g3_X12_readAtom_1, g4_X12_readAtom_1, g5b_X12_readAtom_1, g6_X12_readAtom_1, g7_X12_readAtom_1, g8c_X12_readAtom_1, g9b_X12_readAtom_1, g10_X12_readAtom_1, g11_X12_readAtom_1, g12c_X12_readAtom_1, g13c_X12_readAtom_1, g14b_X12_readAtom_1, g15_X12_readAtom_1, g16_X12_readAtom_1, g17c_X12_readAtom_1, g18c_X12_readAtom_1, g19b_X12_readAtom_1, g20_X12_readAtom_1, g21_X12_readAtom_1, g22c_X12_readAtom_1, g23c_X12_readAtom_1, g24b_X12_readAtom_1, g25_X12_readAtom_1, g26_X12_readAtom_1, g27c_X12_readAtom_1, g28b_X12_readAtom_1, g29_X12_readAtom_1, g30_X12_readAtom_1, g31c_X12_readAtom_1, g32c_X12_readAtom_1, g33b_X12_readAtom_1, g34_X12_readAtom_1, g35_X12_readAtom_1, g36c_X12_readAtom_1, g37c_X12_readAtom_1, g38b_X12_readAtom_1, g39_X12_readAtom_1, g40_X12_readAtom_1, g41c_X12_readAtom_1, g42c_X12_readAtom_1, g43c_X12_readAtom_1, g44c_X12_readAtom_1, g45c_X12_readAtom_1, is_x, if_pos c1, n10, if_true, if_false]
    have e7 : s 0 77 7 = m 0 0 10 := by
      rcases ok.2.2.1 with r | r | r | r
      · omega
      · have := r.2.2.1; omega
      · exact r.2.2
      · rcases kd_in r.1 with t | t | t | t | t | t | t | t | t | t | t | t <;> omega
    have b7 := ok.2.2.2.1.2.2.2.2.2 (k2.mpr c1)
    rw [ec, em, ← e7]
    refine X_cadv (b := false) ?_ (fun st => ?_) (by omega) (by decide) E ok h0 (by rw [k2.mpr c1]; decide)
    · unfold tc1; rw [if_pos (by omega)]
    · unfold tyf; rw [if_pos (by omega), if_pos (by omega)]
  have n2 : ¬ s 0 77 4 = 2 := fun z => c1 (k2.mp z)
  by_cases c2 : m 0 0 11 = 0 ∧ m 0 0 9 = 35
  · have ok := h.ok c2.1 (by omega)

    have ec : (f_X5_atom_1 s a).1 = (f_X5_sign (f_X5_sum_2 (f_X5_advance s).1 (1 + 1)).1 41).1 := by
      simp only [f_X5_atom_1, g1b_X5_atom_1, g2_X5_atom_1, g3_X5_atom_1, g4b_X5_atom_1, g5_X5_atom_1, g6_X5_atom_1, g7c_X5_atom_1, g8b_X5_atom_1, g9_X5_atom_1, g10_X5_atom_1, g11c_X5_atom_1, g12b_X5_atom_1, g13_X5_atom_1, g14_X5_atom_1, g15c_X5_atom_1, g16b_X5_atom_1, g17_X5_atom_1, g18_X5_atom_1, g19c_X5_atom_1, g20b_X5_atom_1, g21_X5_atom_1, g22_X5_atom_1, g23c_X5_atom_1, g24b_X5_atom_1, g25_X5_atom_1, g26_X5_atom_1, g27c_X5_atom_1, g28b_X5_atom_1, g29_X5_atom_1, g30_X5_atom_1, g31c_X5_atom_1, g32c_X5_atom_1, g33c_X5_atom_1, g34c_X5_atom_1, g35c_X5_atom_1, g36c_X5_atom_1, g37c_X5_atom_1, g38c_X5_atom_1, g39c_X5_atom_1, g40c_X5_atom_1, g41c_X5_atom_1, g42c_X5_atom_1, g43c_X5_atom_1, g44c_X5_atom_1, g45c_X5_atom_1, g46c_X5_atom_1, g47c_X5_atom_1, g48c_X5_atom_1, g49c_X5_atom_1, f_X5_tooDeep_1, if_neg n2, if_pos (k40.mpr c2), n10, if_true, if_false]
    have em : (f_X12_readAtom_1 m a').1 = (if (f_X12_eats (f_X12_readSum_2 (f_X12_next m).1 (1 + 1)).1 36).2 = 0 then (f_X12_fails (f_X12_eats (f_X12_readSum_2 (f_X12_next m).1 (1 + 1)).1 36).1 2).1 else (f_X12_eats (f_X12_readSum_2 (f_X12_next m).1 (1 + 1)).1 36).1) := by
      simp only [f_X12_readAtom_1, g1c_X12_readAtom_1, g2b_X12_readAtom_1, g3_X12_readAtom_1, g4_X12_readAtom_1, g5b_X12_readAtom_1, g6_X12_readAtom_1, g7_X12_readAtom_1, g8c_X12_readAtom_1, g9b_X12_readAtom_1, g10_X12_readAtom_1, g11_X12_readAtom_1, g12c_X12_readAtom_1, g13c_X12_readAtom_1, g14b_X12_readAtom_1, g15_X12_readAtom_1, g16_X12_readAtom_1, g17c_X12_readAtom_1, g18c_X12_readAtom_1, g19b_X12_readAtom_1, g20_X12_readAtom_1, g21_X12_readAtom_1, g22c_X12_readAtom_1, g23c_X12_readAtom_1, g24b_X12_readAtom_1, g25_X12_readAtom_1, g26_X12_readAtom_1, g27c_X12_readAtom_1, g28b_X12_readAtom_1, g29_X12_readAtom_1, g30_X12_readAtom_1, g31c_X12_readAtom_1, g32c_X12_readAtom_1, g33b_X12_readAtom_1, g34_X12_readAtom_1, g35_X12_readAtom_1, g36c_X12_readAtom_1, g37c_X12_readAtom_1, g38b_X12_readAtom_1, g39_X12_readAtom_1, g40_X12_readAtom_1, g41c_X12_readAtom_1, g42c_X12_readAtom_1, g43c_X12_readAtom_1, g44c_X12_readAtom_1, g45c_X12_readAtom_1, is_x, within_x, goesIn_x ok, if_neg c1, if_pos c2.1, if_neg (show ¬ (15 ≤ m 0 0 9 ∧ m 0 0 9 ≤ 20) by omega), if_pos c2, n10, if_true, if_false]
      split <;> rfl
    rw [ec, em]
    exact X_par (f := fun s => (f_X5_sum_2 s (1 + 1)).1) (g := fun m => (f_X12_readSum_2 m (1 + 1)).1) (by omega) (S_sum_2 _ _) E ok h0
  have n40 : ¬ s 0 77 4 = 40 := fun z => c2 (k40.mp z)
  by_cases c3 : m 0 0 11 = 0 ∧ (15 ≤ m 0 0 9 ∧ m 0 0 9 ≤ 20)
  · have ok := h.ok c3.1 (by omega)
    have em : (f_X12_readAtom_1 m a').1 = (f_X12_next (f_X12_codes m ((1000 + m 0 0 9) - 15)).1).1 := by
      simp only [f_X12_readAtom_1, g1c_X12_readAtom_1, g2b_X12_readAtom_1, g3_X12_readAtom_1, g4_X12_readAtom_1, g5b_X12_readAtom_1, g6_X12_readAtom_1, g7_X12_readAtom_1, g8c_X12_readAtom_1, g9b_X12_readAtom_1, g10_X12_readAtom_1, g11_X12_readAtom_1, g12c_X12_readAtom_1, g13c_X12_readAtom_1, g14b_X12_readAtom_1, g15_X12_readAtom_1, g16_X12_readAtom_1, g17c_X12_readAtom_1, g18c_X12_readAtom_1, g19b_X12_readAtom_1, g20_X12_readAtom_1, g21_X12_readAtom_1, g22c_X12_readAtom_1, g23c_X12_readAtom_1, g24b_X12_readAtom_1, g25_X12_readAtom_1, g26_X12_readAtom_1, g27c_X12_readAtom_1, g28b_X12_readAtom_1, g29_X12_readAtom_1, g30_X12_readAtom_1, g31c_X12_readAtom_1, g32c_X12_readAtom_1, g33b_X12_readAtom_1, g34_X12_readAtom_1, g35_X12_readAtom_1, g36c_X12_readAtom_1, g37c_X12_readAtom_1, g38b_X12_readAtom_1, g39_X12_readAtom_1, g40_X12_readAtom_1, g41c_X12_readAtom_1, g42c_X12_readAtom_1, g43c_X12_readAtom_1, g44c_X12_readAtom_1, g45c_X12_readAtom_1, is_x, within_x, if_neg c1, if_pos c3.1, if_pos c3.2, n10, if_true, if_false]
    rcases (show m 0 0 9 = 15 ∨ m 0 0 9 = 16 ∨ m 0 0 9 = 17 ∨ m 0 0 9 = 18 ∨ m 0 0 9 = 19 ∨ m 0 0 9 = 20 by omega) with hj | hj | hj | hj | hj | hj
    · have ec : (f_X5_atom_1 s a).1 = (f_X5_advance (f_X4_add s (Int.toNat (s 3 77 10)) 1000).1).1 := by
        simp only [f_X5_atom_1, g1b_X5_atom_1, g2_X5_atom_1, g3_X5_atom_1, g4b_X5_atom_1, g5_X5_atom_1, g6_X5_atom_1, g7c_X5_atom_1, g8b_X5_atom_1, g9_X5_atom_1, g10_X5_atom_1, g11c_X5_atom_1, g12b_X5_atom_1, g13_X5_atom_1, g14_X5_atom_1, g15c_X5_atom_1, g16b_X5_atom_1, g17_X5_atom_1, g18_X5_atom_1, g19c_X5_atom_1, g20b_X5_atom_1, g21_X5_atom_1, g22_X5_atom_1, g23c_X5_atom_1, g24b_X5_atom_1, g25_X5_atom_1, g26_X5_atom_1, g27c_X5_atom_1, g28b_X5_atom_1, g29_X5_atom_1, g30_X5_atom_1, g31c_X5_atom_1, g32c_X5_atom_1, g33c_X5_atom_1, g34c_X5_atom_1, g35c_X5_atom_1, g36c_X5_atom_1, g37c_X5_atom_1, g38c_X5_atom_1, g39c_X5_atom_1, g40c_X5_atom_1, g41c_X5_atom_1, g42c_X5_atom_1, g43c_X5_atom_1, g44c_X5_atom_1, g45c_X5_atom_1, g46c_X5_atom_1, g47c_X5_atom_1, g48c_X5_atom_1, g49c_X5_atom_1, word_x, w15.mpr ⟨c3.1, hj⟩, if_neg n2, if_neg n40, n10, if_true, if_false]
      have em' := em
      rw [show (1000 + m 0 0 9) - 15 = 1000 by omega] at em'
      rw [ec, em']
      exact X_cadv (b := false) rfl (fun st => rfl) (by decide) (by decide) E ok h0 (by intro z; exact wI_0' (by omega) (w15.mpr ⟨c3.1, hj⟩))
    · have ec : (f_X5_atom_1 s a).1 = (f_X5_advance (f_X4_add s (Int.toNat (s 3 77 10)) 1001).1).1 := by
        simp only [f_X5_atom_1, g1b_X5_atom_1, g2_X5_atom_1, g3_X5_atom_1, g4b_X5_atom_1, g5_X5_atom_1, g6_X5_atom_1, g7c_X5_atom_1, g8b_X5_atom_1, g9_X5_atom_1, g10_X5_atom_1, g11c_X5_atom_1, g12b_X5_atom_1, g13_X5_atom_1, g14_X5_atom_1, g15c_X5_atom_1, g16b_X5_atom_1, g17_X5_atom_1, g18_X5_atom_1, g19c_X5_atom_1, g20b_X5_atom_1, g21_X5_atom_1, g22_X5_atom_1, g23c_X5_atom_1, g24b_X5_atom_1, g25_X5_atom_1, g26_X5_atom_1, g27c_X5_atom_1, g28b_X5_atom_1, g29_X5_atom_1, g30_X5_atom_1, g31c_X5_atom_1, g32c_X5_atom_1, g33c_X5_atom_1, g34c_X5_atom_1, g35c_X5_atom_1, g36c_X5_atom_1, g37c_X5_atom_1, g38c_X5_atom_1, g39c_X5_atom_1, g40c_X5_atom_1, g41c_X5_atom_1, g42c_X5_atom_1, g43c_X5_atom_1, g44c_X5_atom_1, g45c_X5_atom_1, g46c_X5_atom_1, g47c_X5_atom_1, g48c_X5_atom_1, g49c_X5_atom_1, word_x, w16.mpr ⟨c3.1, hj⟩, wI_n (fun z => absurd (w15.mp z).2 (by omega) : ¬ wI (s 1 78) 12 (s 0 77) = 1), if_neg n2, if_neg n40, n10, if_true, if_false]
      have em' := em
      rw [show (1000 + m 0 0 9) - 15 = 1001 by omega] at em'
      rw [ec, em']
      exact X_cadv (b := false) rfl (fun st => rfl) (by decide) (by decide) E ok h0 (by intro z; exact wI_0' (by omega) (w16.mpr ⟨c3.1, hj⟩))
    · have ec : (f_X5_atom_1 s a).1 = (f_X5_advance (f_X4_add s (Int.toNat (s 3 77 10)) 1002).1).1 := by
        simp only [f_X5_atom_1, g1b_X5_atom_1, g2_X5_atom_1, g3_X5_atom_1, g4b_X5_atom_1, g5_X5_atom_1, g6_X5_atom_1, g7c_X5_atom_1, g8b_X5_atom_1, g9_X5_atom_1, g10_X5_atom_1, g11c_X5_atom_1, g12b_X5_atom_1, g13_X5_atom_1, g14_X5_atom_1, g15c_X5_atom_1, g16b_X5_atom_1, g17_X5_atom_1, g18_X5_atom_1, g19c_X5_atom_1, g20b_X5_atom_1, g21_X5_atom_1, g22_X5_atom_1, g23c_X5_atom_1, g24b_X5_atom_1, g25_X5_atom_1, g26_X5_atom_1, g27c_X5_atom_1, g28b_X5_atom_1, g29_X5_atom_1, g30_X5_atom_1, g31c_X5_atom_1, g32c_X5_atom_1, g33c_X5_atom_1, g34c_X5_atom_1, g35c_X5_atom_1, g36c_X5_atom_1, g37c_X5_atom_1, g38c_X5_atom_1, g39c_X5_atom_1, g40c_X5_atom_1, g41c_X5_atom_1, g42c_X5_atom_1, g43c_X5_atom_1, g44c_X5_atom_1, g45c_X5_atom_1, g46c_X5_atom_1, g47c_X5_atom_1, g48c_X5_atom_1, g49c_X5_atom_1, word_x, w17.mpr ⟨c3.1, hj⟩, wI_n (fun z => absurd (w15.mp z).2 (by omega) : ¬ wI (s 1 78) 12 (s 0 77) = 1), wI_n (fun z => absurd (w16.mp z).2 (by omega) : ¬ wI (s 1 78) 13 (s 0 77) = 1), if_neg n2, if_neg n40, n10, if_true, if_false]
      have em' := em
      rw [show (1000 + m 0 0 9) - 15 = 1002 by omega] at em'
      rw [ec, em']
      exact X_cadv (b := false) rfl (fun st => rfl) (by decide) (by decide) E ok h0 (by intro z; exact wI_0' (by omega) (w17.mpr ⟨c3.1, hj⟩))
    · have ec : (f_X5_atom_1 s a).1 = (f_X5_advance (f_X4_add s (Int.toNat (s 3 77 10)) 1003).1).1 := by
        simp only [f_X5_atom_1, g1b_X5_atom_1, g2_X5_atom_1, g3_X5_atom_1, g4b_X5_atom_1, g5_X5_atom_1, g6_X5_atom_1, g7c_X5_atom_1, g8b_X5_atom_1, g9_X5_atom_1, g10_X5_atom_1, g11c_X5_atom_1, g12b_X5_atom_1, g13_X5_atom_1, g14_X5_atom_1, g15c_X5_atom_1, g16b_X5_atom_1, g17_X5_atom_1, g18_X5_atom_1, g19c_X5_atom_1, g20b_X5_atom_1, g21_X5_atom_1, g22_X5_atom_1, g23c_X5_atom_1, g24b_X5_atom_1, g25_X5_atom_1, g26_X5_atom_1, g27c_X5_atom_1, g28b_X5_atom_1, g29_X5_atom_1, g30_X5_atom_1, g31c_X5_atom_1, g32c_X5_atom_1, g33c_X5_atom_1, g34c_X5_atom_1, g35c_X5_atom_1, g36c_X5_atom_1, g37c_X5_atom_1, g38c_X5_atom_1, g39c_X5_atom_1, g40c_X5_atom_1, g41c_X5_atom_1, g42c_X5_atom_1, g43c_X5_atom_1, g44c_X5_atom_1, g45c_X5_atom_1, g46c_X5_atom_1, g47c_X5_atom_1, g48c_X5_atom_1, g49c_X5_atom_1, word_x, w18.mpr ⟨c3.1, hj⟩, wI_n (fun z => absurd (w15.mp z).2 (by omega) : ¬ wI (s 1 78) 12 (s 0 77) = 1), wI_n (fun z => absurd (w16.mp z).2 (by omega) : ¬ wI (s 1 78) 13 (s 0 77) = 1), wI_n (fun z => absurd (w17.mp z).2 (by omega) : ¬ wI (s 1 78) 14 (s 0 77) = 1), if_neg n2, if_neg n40, n10, if_true, if_false]
      have em' := em
      rw [show (1000 + m 0 0 9) - 15 = 1003 by omega] at em'
      rw [ec, em']
      exact X_cadv (b := false) rfl (fun st => rfl) (by decide) (by decide) E ok h0 (by intro z; exact wI_0' (by omega) (w18.mpr ⟨c3.1, hj⟩))
    · have ec : (f_X5_atom_1 s a).1 = (f_X5_advance (f_X4_add s (Int.toNat (s 3 77 10)) 1004).1).1 := by
        simp only [f_X5_atom_1, g1b_X5_atom_1, g2_X5_atom_1, g3_X5_atom_1, g4b_X5_atom_1, g5_X5_atom_1, g6_X5_atom_1, g7c_X5_atom_1, g8b_X5_atom_1, g9_X5_atom_1, g10_X5_atom_1, g11c_X5_atom_1, g12b_X5_atom_1, g13_X5_atom_1, g14_X5_atom_1, g15c_X5_atom_1, g16b_X5_atom_1, g17_X5_atom_1, g18_X5_atom_1, g19c_X5_atom_1, g20b_X5_atom_1, g21_X5_atom_1, g22_X5_atom_1, g23c_X5_atom_1, g24b_X5_atom_1, g25_X5_atom_1, g26_X5_atom_1, g27c_X5_atom_1, g28b_X5_atom_1, g29_X5_atom_1, g30_X5_atom_1, g31c_X5_atom_1, g32c_X5_atom_1, g33c_X5_atom_1, g34c_X5_atom_1, g35c_X5_atom_1, g36c_X5_atom_1, g37c_X5_atom_1, g38c_X5_atom_1, g39c_X5_atom_1, g40c_X5_atom_1, g41c_X5_atom_1, g42c_X5_atom_1, g43c_X5_atom_1, g44c_X5_atom_1, g45c_X5_atom_1, g46c_X5_atom_1, g47c_X5_atom_1, g48c_X5_atom_1, g49c_X5_atom_1, word_x, w19.mpr ⟨c3.1, hj⟩, wI_n (fun z => absurd (w15.mp z).2 (by omega) : ¬ wI (s 1 78) 12 (s 0 77) = 1), wI_n (fun z => absurd (w16.mp z).2 (by omega) : ¬ wI (s 1 78) 13 (s 0 77) = 1), wI_n (fun z => absurd (w17.mp z).2 (by omega) : ¬ wI (s 1 78) 14 (s 0 77) = 1), wI_n (fun z => absurd (w18.mp z).2 (by omega) : ¬ wI (s 1 78) 15 (s 0 77) = 1), if_neg n2, if_neg n40, n10, if_true, if_false]
      have em' := em
      rw [show (1000 + m 0 0 9) - 15 = 1004 by omega] at em'
      rw [ec, em']
      exact X_cadv (b := false) rfl (fun st => rfl) (by decide) (by decide) E ok h0 (by intro z; exact wI_0' (by omega) (w19.mpr ⟨c3.1, hj⟩))
    · have ec : (f_X5_atom_1 s a).1 = (f_X5_advance (f_X4_add s (Int.toNat (s 3 77 10)) 1005).1).1 := by
        simp only [f_X5_atom_1, g1b_X5_atom_1, g2_X5_atom_1, g3_X5_atom_1, g4b_X5_atom_1, g5_X5_atom_1, g6_X5_atom_1, g7c_X5_atom_1, g8b_X5_atom_1, g9_X5_atom_1, g10_X5_atom_1, g11c_X5_atom_1, g12b_X5_atom_1, g13_X5_atom_1, g14_X5_atom_1, g15c_X5_atom_1, g16b_X5_atom_1, g17_X5_atom_1, g18_X5_atom_1, g19c_X5_atom_1, g20b_X5_atom_1, g21_X5_atom_1, g22_X5_atom_1, g23c_X5_atom_1, g24b_X5_atom_1, g25_X5_atom_1, g26_X5_atom_1, g27c_X5_atom_1, g28b_X5_atom_1, g29_X5_atom_1, g30_X5_atom_1, g31c_X5_atom_1, g32c_X5_atom_1, g33c_X5_atom_1, g34c_X5_atom_1, g35c_X5_atom_1, g36c_X5_atom_1, g37c_X5_atom_1, g38c_X5_atom_1, g39c_X5_atom_1, g40c_X5_atom_1, g41c_X5_atom_1, g42c_X5_atom_1, g43c_X5_atom_1, g44c_X5_atom_1, g45c_X5_atom_1, g46c_X5_atom_1, g47c_X5_atom_1, g48c_X5_atom_1, g49c_X5_atom_1, word_x, w20.mpr ⟨c3.1, hj⟩, wI_n (fun z => absurd (w15.mp z).2 (by omega) : ¬ wI (s 1 78) 12 (s 0 77) = 1), wI_n (fun z => absurd (w16.mp z).2 (by omega) : ¬ wI (s 1 78) 13 (s 0 77) = 1), wI_n (fun z => absurd (w17.mp z).2 (by omega) : ¬ wI (s 1 78) 14 (s 0 77) = 1), wI_n (fun z => absurd (w18.mp z).2 (by omega) : ¬ wI (s 1 78) 15 (s 0 77) = 1), wI_n (fun z => absurd (w19.mp z).2 (by omega) : ¬ wI (s 1 78) 16 (s 0 77) = 1), if_neg n2, if_neg n40, n10, if_true, if_false]
      have em' := em
      rw [show (1000 + m 0 0 9) - 15 = 1005 by omega] at em'
      rw [ec, em']
      exact X_cadv (b := false) rfl (fun st => rfl) (by decide) (by decide) E ok h0 (by intro z; exact wI_0' (by omega) (w20.mpr ⟨c3.1, hj⟩))
  · have ec : (f_X5_atom_1 s a).1 = (f_X5_fail s 2).1 := by
      simp only [f_X5_atom_1, g1b_X5_atom_1, g2_X5_atom_1, g3_X5_atom_1, g4b_X5_atom_1, g5_X5_atom_1, g6_X5_atom_1, g7c_X5_atom_1, g8b_X5_atom_1, g9_X5_atom_1, g10_X5_atom_1, g11c_X5_atom_1, g12b_X5_atom_1, g13_X5_atom_1, g14_X5_atom_1, g15c_X5_atom_1, g16b_X5_atom_1, g17_X5_atom_1, g18_X5_atom_1, g19c_X5_atom_1, g20b_X5_atom_1, g21_X5_atom_1, g22_X5_atom_1, g23c_X5_atom_1, g24b_X5_atom_1, g25_X5_atom_1, g26_X5_atom_1, g27c_X5_atom_1, g28b_X5_atom_1, g29_X5_atom_1, g30_X5_atom_1, g31c_X5_atom_1, g32c_X5_atom_1, g33c_X5_atom_1, g34c_X5_atom_1, g35c_X5_atom_1, g36c_X5_atom_1, g37c_X5_atom_1, g38c_X5_atom_1, g39c_X5_atom_1, g40c_X5_atom_1, g41c_X5_atom_1, g42c_X5_atom_1, g43c_X5_atom_1, g44c_X5_atom_1, g45c_X5_atom_1, g46c_X5_atom_1, g47c_X5_atom_1, g48c_X5_atom_1, g49c_X5_atom_1, word_x, wI_n (fun z => c3 ⟨(w15.mp z).1, by have := (w15.mp z).2; omega⟩ : ¬ wI (s 1 78) 12 (s 0 77) = 1), wI_n (fun z => c3 ⟨(w16.mp z).1, by have := (w16.mp z).2; omega⟩ : ¬ wI (s 1 78) 13 (s 0 77) = 1), wI_n (fun z => c3 ⟨(w17.mp z).1, by have := (w17.mp z).2; omega⟩ : ¬ wI (s 1 78) 14 (s 0 77) = 1), wI_n (fun z => c3 ⟨(w18.mp z).1, by have := (w18.mp z).2; omega⟩ : ¬ wI (s 1 78) 15 (s 0 77) = 1), wI_n (fun z => c3 ⟨(w19.mp z).1, by have := (w19.mp z).2; omega⟩ : ¬ wI (s 1 78) 16 (s 0 77) = 1), wI_n (fun z => c3 ⟨(w20.mp z).1, by have := (w20.mp z).2; omega⟩ : ¬ wI (s 1 78) 17 (s 0 77) = 1), if_neg n2, if_neg n40, n10, if_true, if_false]
    have em : (f_X12_readAtom_1 m a').1 = (f_X12_fails m 2).1 := by
      by_cases z : m 0 0 11 = 0
      · simp only [f_X12_readAtom_1, g1c_X12_readAtom_1, g2b_X12_readAtom_1, g3_X12_readAtom_1, g4_X12_readAtom_1, g5b_X12_readAtom_1, g6_X12_readAtom_1, g7_X12_readAtom_1, g8c_X12_readAtom_1, g9b_X12_readAtom_1, g10_X12_readAtom_1, g11_X12_readAtom_1, g12c_X12_readAtom_1, g13c_X12_readAtom_1, g14b_X12_readAtom_1, g15_X12_readAtom_1, g16_X12_readAtom_1, g17c_X12_readAtom_1, g18c_X12_readAtom_1, g19b_X12_readAtom_1, g20_X12_readAtom_1, g21_X12_readAtom_1, g22c_X12_readAtom_1, g23c_X12_readAtom_1, g24b_X12_readAtom_1, g25_X12_readAtom_1, g26_X12_readAtom_1, g27c_X12_readAtom_1, g28b_X12_readAtom_1, g29_X12_readAtom_1, g30_X12_readAtom_1, g31c_X12_readAtom_1, g32c_X12_readAtom_1, g33b_X12_readAtom_1, g34_X12_readAtom_1, g35_X12_readAtom_1, g36c_X12_readAtom_1, g37c_X12_readAtom_1, g38b_X12_readAtom_1, g39_X12_readAtom_1, g40_X12_readAtom_1, g41c_X12_readAtom_1, g42c_X12_readAtom_1, g43c_X12_readAtom_1, g44c_X12_readAtom_1, g45c_X12_readAtom_1, is_x, within_x, if_neg c1, if_pos z, if_neg (fun q => c3 ⟨z, q⟩), if_neg c2, n10, if_true, if_false]
      · rw [D_atom_1 a' z, fails_d z]
    rw [ec, em]
    exact X_fail (by decide) E h
theorem D_term_1 {m : XS} (a : Int) (h : m 0 0 11 ≠ 0) : f_X12_readTerm_1 m a = (m, 0) := by
  have lz : ∀ n, L2_X12_readTerm_1 n m = (m, 0) := by
    intro n
    cases n with
    | zero => rfl
    | succ n =>
      show g3l_X12_readTerm_1 (L2_X12_readTerm_1 n) m = _
      simp only [f_X12_readTerm_1, g1c_X12_readTerm_1, g3l_X12_readTerm_1, g4c_X12_readTerm_1, g5b_X12_readTerm_1, g6_X12_readTerm_1, g7_X12_readTerm_1, g8c_X12_readTerm_1, g9c_X12_readTerm_1, is_d h, eats_d h, if_true]
  simp only [f_X12_readTerm_1, g1c_X12_readTerm_1, D_atom_1 a h]
  exact lz _
set_option maxRecDepth 4000 in
theorem S_term_1 (a a' : Int) : SimL (Num false 12) (fun s => (f_X5_term_1 s a).1) (fun m => (f_X12_readTerm_1 m a').1) := by
  intro w L F l p s m E h h0
  have g := S_atom_1 a a' w L F l p s m E h h0
  have lp := X_loop (w := w) (L := L) (F := F) (p := p) (b := false) (H := 11) (LC := L2_X5_term_1) (LM := L2_X12_readTerm_1) (cC := fun s => s 0 77 4 = 42) (cM := fun m => m 0 0 11 = 0 ∧ m 0 0 9 = 34) (bC := fun s => (f_X4_add (f_X5_atom_1 (f_X5_advance s).1 1).1 (Int.toNat ((f_X5_atom_1 (f_X5_advance s).1 1).1 3 77 10)) 2002).1) (bM := fun m => (f_X12_codes (f_X12_readAtom_1 (f_X12_next m).1 1).1 3002).1) (fun _ _ => rfl)
    (by
      intro n s i hi hc
      show g3l_X5_term_1 (L2_X5_term_1 n) s i = _
      simp only [f_X5_term_1, g1c_X5_term_1, g3l_X5_term_1, g4b_X5_term_1, g5_X5_term_1, g6_X5_term_1, g7b_X5_term_1, g8_X5_term_1, g9_X5_term_1, g10c_X5_term_1, g11c_X5_term_1, g12c_X5_term_1]
      rw [if_pos hi, if_pos hc])
    (by
      intro n s i hc
      show g3l_X5_term_1 (L2_X5_term_1 n) s i = _
      simp only [f_X5_term_1, g1c_X5_term_1, g3l_X5_term_1, g4b_X5_term_1, g5_X5_term_1, g6_X5_term_1, g7b_X5_term_1, g8_X5_term_1, g9_X5_term_1, g10c_X5_term_1, g11c_X5_term_1, g12c_X5_term_1]
      (repeat' split) <;> first | rfl | (exfalso; exact hc (by assumption)))
    (fun _ => rfl)
    (by
      intro n m hc
      have e := eats_x m 34
      rw [if_pos hc] at e
      show g3l_X12_readTerm_1 (L2_X12_readTerm_1 n) m = _
      simp only [f_X12_readTerm_1, g1c_X12_readTerm_1, g3l_X12_readTerm_1, g4c_X12_readTerm_1, g5b_X12_readTerm_1, g6_X12_readTerm_1, g7_X12_readTerm_1, g8c_X12_readTerm_1, g9c_X12_readTerm_1, e]
      rw [if_neg (by decide)])
    (by
      intro n m hc
      have e := eats_x m 34
      rw [if_neg hc] at e
      show g3l_X12_readTerm_1 (L2_X12_readTerm_1 n) m = _
      simp only [f_X12_readTerm_1, g1c_X12_readTerm_1, g3l_X12_readTerm_1, g4c_X12_readTerm_1, g5b_X12_readTerm_1, g6_X12_readTerm_1, g7_X12_readTerm_1, g8c_X12_readTerm_1, g9c_X12_readTerm_1, e, if_true])
    (fun l s m E h => R_sgn h.rk (by omega)) (fun m q => ⟨q.1, by have := q.2; omega⟩) (fun s q z => by have q2 : s 0 77 4 = 42 := q; omega)
    (fun l s m E h c => X_bin (b0 := false) (b := false) (a := 3002) (c := 2002) (f := fun s => (f_X5_atom_1 s 1).1) (g := fun m => (f_X12_readAtom_1 m 1).1) (fun st => rfl) rfl (by decide) (by decide) (S_atom_1 1 1) E h h0 (by have q := (R_sgn (Rx.rk (Or.inl h)) (c := 42) (k := 34) (by omega)).mpr c; omega))
  exact X_seq E g lp
theorem D_sum_1 {m : XS} (a : Int) (h : m 0 0 11 ≠ 0) : f_X12_readSum_1 m a = (m, 0) := by
  have lz : ∀ n, L2_X12_readSum_1 n m = (m, 0) := by
    intro n
    cases n with
    | zero => rfl
    | succ n =>
      show g3l_X12_readSum_1 (L2_X12_readSum_1 n) m = _
      simp only [f_X12_readSum_1, g1c_X12_readSum_1, g3l_X12_readSum_1, g4c_X12_readSum_1, g5b_X12_readSum_1, g6_X12_readSum_1, g7_X12_readSum_1, g8b_X12_readSum_1, g9_X12_readSum_1, g10_X12_readSum_1, g11c_X12_readSum_1, g12c_X12_readSum_1, g13c_X12_readSum_1, g14c_X12_readSum_1, g15c_X12_readSum_1, g16c_X12_readSum_1, g17c_X12_readSum_1, g18b_X12_readSum_1, g19_X12_readSum_1, g20_X12_readSum_1, g21b_X12_readSum_1, g22_X12_readSum_1, g23_X12_readSum_1, g24c_X12_readSum_1, g25c_X12_readSum_1, g26c_X12_readSum_1, g27c_X12_readSum_1, g28c_X12_readSum_1, g29c_X12_readSum_1, is_d h, eats_d h, if_true]
  simp only [f_X12_readSum_1, g1c_X12_readSum_1, D_term_1 a h]
  exact lz _
set_option maxRecDepth 4000 in
theorem S_sum_1 (a a' : Int) : SimL (Num false 13) (fun s => (f_X5_sum_1 s a).1) (fun m => (f_X12_readSum_1 m a').1) := by
  intro w L F l p s m E h h0
  have g := S_term_1 a a' w L F l p s m E h h0
  have lp := X_loop (w := w) (L := L) (F := F) (p := p) (b := false) (H := 12) (LC := L2_X5_sum_1) (LM := L2_X12_readSum_1) (cC := fun s => s 0 77 4 = 43 ∨ s 0 77 4 = 45) (cM := fun m => m 0 0 11 = 0 ∧ (m 0 0 9 = 32 ∨ m 0 0 9 = 33)) (bC := fun s => if s 0 77 4 = 43 then (f_X4_add (f_X5_term_1 (f_X5_advance s).1 1).1 (Int.toNat ((f_X5_term_1 (f_X5_advance s).1 1).1 3 77 10)) 2000).1 else (f_X4_add (f_X5_term_1 (f_X5_advance s).1 1).1 (Int.toNat ((f_X5_term_1 (f_X5_advance s).1 1).1 3 77 10)) 2001).1) (bM := fun m => if m 0 0 9 = 32 then (f_X12_codes (f_X12_readTerm_1 (f_X12_next m).1 1).1 3000).1 else (f_X12_codes (f_X12_readTerm_1 (f_X12_next m).1 1).1 3001).1) (fun _ _ => rfl)
    (by
      intro n s i hi hc
      show g3l_X5_sum_1 (L2_X5_sum_1 n) s i = _
      simp only [f_X5_sum_1, g1c_X5_sum_1, g3l_X5_sum_1, g4b_X5_sum_1, g5_X5_sum_1, g6_X5_sum_1, g7b_X5_sum_1, g8_X5_sum_1, g9_X5_sum_1, g10c_X5_sum_1, g11c_X5_sum_1, g12c_X5_sum_1, g13b_X5_sum_1, g14_X5_sum_1, g15_X5_sum_1, g16c_X5_sum_1, g17c_X5_sum_1, g18c_X5_sum_1, if_pos hi, n10, if_true, if_false]
      by_cases z : s 0 77 4 = 43
      · rw [if_pos z, if_pos z]
      · rw [if_neg z, if_neg z, if_pos (show s 0 77 4 = 45 from (show s 0 77 4 = 43 ∨ s 0 77 4 = 45 from hc).resolve_left z)])
    (by
      intro n s i hc
      show g3l_X5_sum_1 (L2_X5_sum_1 n) s i = _
      simp only [f_X5_sum_1, g1c_X5_sum_1, g3l_X5_sum_1, g4b_X5_sum_1, g5_X5_sum_1, g6_X5_sum_1, g7b_X5_sum_1, g8_X5_sum_1, g9_X5_sum_1, g10c_X5_sum_1, g11c_X5_sum_1, g12c_X5_sum_1, g13b_X5_sum_1, g14_X5_sum_1, g15_X5_sum_1, g16c_X5_sum_1, g17c_X5_sum_1, g18c_X5_sum_1]
      split
      · rw [if_neg (fun z => hc (Or.inl z)), if_neg (fun z => hc (Or.inr z))]
      · rfl)
    (fun _ => rfl)
    (by
      intro n m hc
      have hc2 : m 0 0 11 = 0 ∧ (m 0 0 9 = 32 ∨ m 0 0 9 = 33) := hc
      show g3l_X12_readSum_1 (L2_X12_readSum_1 n) m = _
      simp only [f_X12_readSum_1, g1c_X12_readSum_1, g3l_X12_readSum_1, g4c_X12_readSum_1, g5b_X12_readSum_1, g6_X12_readSum_1, g7_X12_readSum_1, g8b_X12_readSum_1, g9_X12_readSum_1, g10_X12_readSum_1, g11c_X12_readSum_1, g12c_X12_readSum_1, g13c_X12_readSum_1, g14c_X12_readSum_1, g15c_X12_readSum_1, g16c_X12_readSum_1, g17c_X12_readSum_1, g18b_X12_readSum_1, g19_X12_readSum_1, g20_X12_readSum_1, g21b_X12_readSum_1, g22_X12_readSum_1, g23_X12_readSum_1, g24c_X12_readSum_1, g25c_X12_readSum_1, g26c_X12_readSum_1, g27c_X12_readSum_1, g28c_X12_readSum_1, g29c_X12_readSum_1, is_x]
      by_cases z : m 0 0 9 = 32
      · rw [if_pos (show m 0 0 11 = 0 ∧ m 0 0 9 = 32 from ⟨hc2.1, z⟩), if_neg (by decide), if_pos z, if_pos z]
      · have z2 : m 0 0 9 = 33 := hc2.2.resolve_left z
        rw [if_neg (show ¬ (m 0 0 11 = 0 ∧ m 0 0 9 = 32) from fun q => z q.2), if_pos rfl, if_pos (show m 0 0 11 = 0 ∧ m 0 0 9 = 33 from ⟨hc2.1, z2⟩), if_neg (by decide), if_neg z, if_neg z])
    (by
      intro n m hc
      show g3l_X12_readSum_1 (L2_X12_readSum_1 n) m = _
      simp only [f_X12_readSum_1, g1c_X12_readSum_1, g3l_X12_readSum_1, g4c_X12_readSum_1, g5b_X12_readSum_1, g6_X12_readSum_1, g7_X12_readSum_1, g8b_X12_readSum_1, g9_X12_readSum_1, g10_X12_readSum_1, g11c_X12_readSum_1, g12c_X12_readSum_1, g13c_X12_readSum_1, g14c_X12_readSum_1, g15c_X12_readSum_1, g16c_X12_readSum_1, g17c_X12_readSum_1, g18b_X12_readSum_1, g19_X12_readSum_1, g20_X12_readSum_1, g21b_X12_readSum_1, g22_X12_readSum_1, g23_X12_readSum_1, g24c_X12_readSum_1, g25c_X12_readSum_1, g26c_X12_readSum_1, g27c_X12_readSum_1, g28c_X12_readSum_1, g29c_X12_readSum_1, is_x]
      rw [if_neg (show ¬ (m 0 0 11 = 0 ∧ m 0 0 9 = 32) from fun q => hc ⟨q.1, Or.inl q.2⟩), if_pos rfl, if_neg (show ¬ (m 0 0 11 = 0 ∧ m 0 0 9 = 33) from fun q => hc ⟨q.1, Or.inr q.2⟩), if_pos rfl])
    (fun l s m E h => by have q1 := R_sgn h.rk (c := 43) (k := 32) (by omega); have q2 := R_sgn h.rk (c := 45) (k := 33) (by omega); show (s 0 77 4 = 43 ∨ s 0 77 4 = 45) ↔ _; rw [q1, q2]; omega) (fun m q => ⟨q.1, by have := q.2; omega⟩) (fun s q z => by have q2 : s 0 77 4 = 43 ∨ s 0 77 4 = 45 := q; omega)
    (fun l s m E h c => by
      have c2 : m 0 0 11 = 0 ∧ (m 0 0 9 = 32 ∨ m 0 0 9 = 33) := c
      have q1 := R_sgn (Rx.rk (Or.inl h)) (c := 43) (k := 32) (by omega)
      have q2 := R_sgn (Rx.rk (Or.inl h)) (c := 45) (k := 33) (by omega)
      show Go w L F l p 1 (Bin false 12) s m (if s 0 77 4 = 43 then (f_X4_add (f_X5_term_1 (f_X5_advance s).1 1).1 (Int.toNat ((f_X5_term_1 (f_X5_advance s).1 1).1 3 77 10)) 2000).1 else (f_X4_add (f_X5_term_1 (f_X5_advance s).1 1).1 (Int.toNat ((f_X5_term_1 (f_X5_advance s).1 1).1 3 77 10)) 2001).1) (if m 0 0 9 = 32 then (f_X12_codes (f_X12_readTerm_1 (f_X12_next m).1 1).1 3000).1 else (f_X12_codes (f_X12_readTerm_1 (f_X12_next m).1 1).1 3001).1)
      by_cases z : m 0 0 9 = 32
      · have z1 := q1.mpr ⟨c2.1, z⟩
        rw [if_pos z, if_pos z1]
        exact X_bin (b0 := false) (b := false) (a := 3000) (c := 2000) (f := fun s => (f_X5_term_1 s 1).1) (g := fun m => (f_X12_readTerm_1 m 1).1) (fun st => rfl) rfl (by decide) (by decide) (S_term_1 1 1) E h h0 (by omega)
      · have z2 := q2.mpr ⟨c2.1, c2.2.resolve_left z⟩
        rw [if_neg z, if_neg (show ¬ s 0 77 4 = 43 by omega)]
        exact X_bin (b0 := false) (b := false) (a := 3001) (c := 2001) (f := fun s => (f_X5_term_1 s 1).1) (g := fun m => (f_X12_readTerm_1 m 1).1) (fun st => rfl) rfl (by decide) (by decide) (S_term_1 1 1) E h h0 (by omega))
  exact X_seq E g lp
theorem D_unit_1 {m : XS} (a : Int) (h : m 0 0 11 ≠ 0) : f_X12_readUnit_1 m a = (m, 0) := by
  simp only [f_X12_readUnit_1, g1c_X12_readUnit_1, g2b_X12_readUnit_1, g3_X12_readUnit_1, g4_X12_readUnit_1, g5c_X12_readUnit_1, g6b_X12_readUnit_1, g7_X12_readUnit_1, g8_X12_readUnit_1, g9c_X12_readUnit_1, g10c_X12_readUnit_1, g11j_X12_readUnit_1, g12c_X12_readUnit_1, g13b_X12_readUnit_1, g14_X12_readUnit_1, g15_X12_readUnit_1, g16c_X12_readUnit_1, g17c_X12_readUnit_1, g18c_X12_readUnit_1, g19c_X12_readUnit_1, g20b_X12_readUnit_1, g21_X12_readUnit_1, g22_X12_readUnit_1, g23c_X12_readUnit_1, g24c_X12_readUnit_1, g25c_X12_readUnit_1, g26c_X12_readUnit_1, g27b_X12_readUnit_1, g28_X12_readUnit_1, g29_X12_readUnit_1, g30c_X12_readUnit_1, g31c_X12_readUnit_1, g32c_X12_readUnit_1, g33c_X12_readUnit_1, g34c_X12_readUnit_1, g35c_X12_readUnit_1, g36b_X12_readUnit_1, g37_X12_readUnit_1, g38_X12_readUnit_1, g39c_X12_readUnit_1, g40b_X12_readUnit_1, g41_X12_readUnit_1, g42_X12_readUnit_1, g43c_X12_readUnit_1, g44b_X12_readUnit_1, g45_X12_readUnit_1, g46_X12_readUnit_1, g47c_X12_readUnit_1, g48c_X12_readUnit_1, g49b_X12_readUnit_1, g50_X12_readUnit_1, g51_X12_readUnit_1, g52c_X12_readUnit_1, g53c_X12_readUnit_1, g54b_X12_readUnit_1, g55_X12_readUnit_1, g56_X12_readUnit_1, g57c_X12_readUnit_1, g58c_X12_readUnit_1, is_d h, fails_d h, D_sum_1 _ h, codes_d h, if_true]
set_option maxRecDepth 4000 in
theorem S_unit_1 (a a' : Int) : SimL (Num true 14) (fun s => (f_X5_unit_1 s a).1) (fun m => (f_X12_readUnit_1 m a').1) := by
  intro w L F l p s m E h h0
  have wN : wI (s 1 78) 19 (s 0 77) = 1 ↔ (m 0 0 11 = 0 ∧ m 0 0 9 = 14) := R_wd h.rk (q := 14) (by omega)
  have k91 := R_sgn h.rk (c := 91) (k := 37) (by omega)
  show Go w L F l p 1 (Num true 14) s m (f_X5_unit_1 s a).1 (f_X12_readUnit_1 m a').1
  by_cases c1 : m 0 0 11 = 0 ∧ m 0 0 9 = 14
  · have ok := h.ok c1.1 (by omega)
    have ec : (f_X5_unit_1 s a).1 = (f_X4_add (f_X4_add (f_X5_unit_2 (f_X5_advance s).1 (1 + 1)).1 (Int.toNat ((f_X5_unit_2 (f_X5_advance s).1 (1 + 1)).1 3 77 10)) 0).1 (Int.toNat ((f_X4_add (f_X5_unit_2 (f_X5_advance s).1 (1 + 1)).1 (Int.toNat ((f_X5_unit_2 (f_X5_advance s).1 (1 + 1)).1 3 77 10)) 0).1 3 77 10)) 2003).1 := by
      simp only [f_X5_unit_1, g1c_X5_unit_1, g2b_X5_unit_1, g3_X5_unit_1, g4_X5_unit_1, g5b_X5_unit_1, g6_X5_unit_1, g7_X5_unit_1, g8c_X5_unit_1, g9b_X5_unit_1, g10_X5_unit_1, g11_X5_unit_1, g12b_X5_unit_1, g13_X5_unit_1, g14_X5_unit_1, g15b_X5_unit_1, g16_X5_unit_1, g17_X5_unit_1, g18c_X5_unit_1, g19c_X5_unit_1, g20c_X5_unit_1, g21c_X5_unit_1, g22c_X5_unit_1, g23c_X5_unit_1, g24c_X5_unit_1, g25c_X5_unit_1, g26c_X5_unit_1, g27c_X5_unit_1, g28c_X5_unit_1, g29c_X5_unit_1, g30c_X5_unit_1, g31c_X5_unit_1, g32c_X5_unit_1, g33c_X5_unit_1, g34c_X5_unit_1, g35c_X5_unit_1, g36c_X5_unit_1, f_X5_tooDeep_1, word_x, wN.mpr c1, n10, if_true, if_false]
    have em : (f_X12_readUnit_1 m a').1 = (f_X12_codes (f_X12_readUnit_2 (f_X12_next m).1 (1 + 1)).1 3008).1 := by
      simp only [f_X12_readUnit_1, g1c_X12_readUnit_1, g2b_X12_readUnit_1, g3_X12_readUnit_1, g4_X12_readUnit_1, g5c_X12_readUnit_1, g6b_X12_readUnit_1, g7_X12_readUnit_1, g8_X12_readUnit_1, g9c_X12_readUnit_1, g10c_X12_readUnit_1, g11j_X12_readUnit_1, g12c_X12_readUnit_1, g13b_X12_readUnit_1, g14_X12_readUnit_1, g15_X12_readUnit_1, g16c_X12_readUnit_1, g17c_X12_readUnit_1, g18c_X12_readUnit_1, g19c_X12_readUnit_1, g20b_X12_readUnit_1, g21_X12_readUnit_1, g22_X12_readUnit_1, g23c_X12_readUnit_1, g24c_X12_readUnit_1, g25c_X12_readUnit_1, g26c_X12_readUnit_1, g27b_X12_readUnit_1, g28_X12_readUnit_1, g29_X12_readUnit_1, g30c_X12_readUnit_1, g31c_X12_readUnit_1, g32c_X12_readUnit_1, g33c_X12_readUnit_1, g34c_X12_readUnit_1, g35c_X12_readUnit_1, g36b_X12_readUnit_1, g37_X12_readUnit_1, g38_X12_readUnit_1, g39c_X12_readUnit_1, g40b_X12_readUnit_1, g41_X12_readUnit_1, g42_X12_readUnit_1, g43c_X12_readUnit_1, g44b_X12_readUnit_1, g45_X12_readUnit_1, g46_X12_readUnit_1, g47c_X12_readUnit_1, g48c_X12_readUnit_1, g49b_X12_readUnit_1, g50_X12_readUnit_1, g51_X12_readUnit_1, g52c_X12_readUnit_1, g53c_X12_readUnit_1, g54b_X12_readUnit_1, g55_X12_readUnit_1, g56_X12_readUnit_1, g57c_X12_readUnit_1, g58c_X12_readUnit_1, is_x, goesIn_x ok, if_pos c1, n10, if_true, if_false]
    have h3 : s 0 77 5 + 3 ≤ s 0 77 6 := by
      have q := (wI_wd (m := 14)).mp (wN.mpr c1)
      have q2 := q.2.1
      have e3 : ln 14 = 3 := by decide +kernel
      rw [e3] at q2
      omega
    rw [ec, em]
    exact X_not (f := fun s => (f_X5_unit_2 s (1 + 1)).1) (g := fun m => (f_X12_readUnit_2 m (1 + 1)).1) (by decide) (by decide) (S_unit_2 _ _) E ok h0 h3
  have n1 : wI (s 1 78) 19 (s 0 77) = 0 := wI_n (fun z => c1 (wN.mp z))
  by_cases c2 : m 0 0 11 = 0 ∧ m 0 0 9 = 37
  · have ok := h.ok c2.1 (by omega)
    have ec : (f_X5_unit_1 s a).1 = (f_X5_sign (f_X5_truth_2 (f_X5_advance s).1 (1 + 1)).1 93).1 := by
      simp only [f_X5_unit_1, g1c_X5_unit_1, g2b_X5_unit_1, g3_X5_unit_1, g4_X5_unit_1, g5b_X5_unit_1, g6_X5_unit_1, g7_X5_unit_1, g8c_X5_unit_1, g9b_X5_unit_1, g10_X5_unit_1, g11_X5_unit_1, g12b_X5_unit_1, g13_X5_unit_1, g14_X5_unit_1, g15b_X5_unit_1, g16_X5_unit_1, g17_X5_unit_1, g18c_X5_unit_1, g19c_X5_unit_1, g20c_X5_unit_1, g21c_X5_unit_1, g22c_X5_unit_1, g23c_X5_unit_1, g24c_X5_unit_1, g25c_X5_unit_1, g26c_X5_unit_1, g27c_X5_unit_1, g28c_X5_unit_1, g29c_X5_unit_1, g30c_X5_unit_1, g31c_X5_unit_1, g32c_X5_unit_1, g33c_X5_unit_1, g34c_X5_unit_1, g35c_X5_unit_1, g36c_X5_unit_1, f_X5_tooDeep_1, word_x, n1, if_pos (k91.mpr c2), n10, if_true, if_false]
    have em : (f_X12_readUnit_1 m a').1 = (if (f_X12_eats (f_X12_readTruth_2 (f_X12_next m).1 (1 + 1)).1 38).2 = 0 then (f_X12_fails (f_X12_eats (f_X12_readTruth_2 (f_X12_next m).1 (1 + 1)).1 38).1 2).1 else (f_X12_eats (f_X12_readTruth_2 (f_X12_next m).1 (1 + 1)).1 38).1) := by
      simp only [f_X12_readUnit_1, g1c_X12_readUnit_1, g2b_X12_readUnit_1, g3_X12_readUnit_1, g4_X12_readUnit_1, g5c_X12_readUnit_1, g6b_X12_readUnit_1, g7_X12_readUnit_1, g8_X12_readUnit_1, g9c_X12_readUnit_1, g10c_X12_readUnit_1, g11j_X12_readUnit_1, g12c_X12_readUnit_1, g13b_X12_readUnit_1, g14_X12_readUnit_1, g15_X12_readUnit_1, g16c_X12_readUnit_1, g17c_X12_readUnit_1, g18c_X12_readUnit_1, g19c_X12_readUnit_1, g20b_X12_readUnit_1, g21_X12_readUnit_1, g22_X12_readUnit_1, g23c_X12_readUnit_1, g24c_X12_readUnit_1, g25c_X12_readUnit_1, g26c_X12_readUnit_1, g27b_X12_readUnit_1, g28_X12_readUnit_1, g29_X12_readUnit_1, g30c_X12_readUnit_1, g31c_X12_readUnit_1, g32c_X12_readUnit_1, g33c_X12_readUnit_1, g34c_X12_readUnit_1, g35c_X12_readUnit_1, g36b_X12_readUnit_1, g37_X12_readUnit_1, g38_X12_readUnit_1, g39c_X12_readUnit_1, g40b_X12_readUnit_1, g41_X12_readUnit_1, g42_X12_readUnit_1, g43c_X12_readUnit_1, g44b_X12_readUnit_1, g45_X12_readUnit_1, g46_X12_readUnit_1, g47c_X12_readUnit_1, g48c_X12_readUnit_1, g49b_X12_readUnit_1, g50_X12_readUnit_1, g51_X12_readUnit_1, g52c_X12_readUnit_1, g53c_X12_readUnit_1, g54b_X12_readUnit_1, g55_X12_readUnit_1, g56_X12_readUnit_1, g57c_X12_readUnit_1, g58c_X12_readUnit_1, is_x, goesIn_x ok, if_neg c1, if_pos c2, n10, if_true, if_false]
      split <;> rfl
    rw [ec, em]
    exact X_par (f := fun s => (f_X5_truth_2 s (1 + 1)).1) (g := fun m => (f_X12_readTruth_2 m (1 + 1)).1) (by omega) (S_truth_2 _ _) E ok h0
  · obtain ⟨u, hu⟩ : ∃ u, u = (f_X5_sum_1 s 1).1 := ⟨_, rfl⟩
    obtain ⟨v, hv⟩ : ∃ v, v = (f_X12_readSum_1 m 1).1 := ⟨_, rfl⟩
    have n91 : ¬ s 0 77 4 = 91 := fun z => c2 (k91.mp z)
    have ec0 : (f_X5_unit_1 s a).1 = if u 0 77 4 = 61 then (f_X4_add (f_X5_sum_1 (f_X5_advance u).1 1).1 (Int.toNat ((f_X5_sum_1 (f_X5_advance u).1 1).1 3 77 10)) 2003).1 else if u 0 77 4 = 60 then (f_X4_add (f_X5_sum_1 (f_X5_advance u).1 1).1 (Int.toNat ((f_X5_sum_1 (f_X5_advance u).1 1).1 3 77 10)) 2004).1 else if u 0 77 4 = 62 then (f_X4_add (f_X5_sum_1 (f_X5_advance u).1 1).1 (Int.toNat ((f_X5_sum_1 (f_X5_advance u).1 1).1 3 77 10)) 2005).1 else (f_X5_fail u 2).1 := by
      simp only [f_X5_unit_1, g1c_X5_unit_1, g2b_X5_unit_1, g3_X5_unit_1, g4_X5_unit_1, g5b_X5_unit_1, g6_X5_unit_1, g7_X5_unit_1, g8c_X5_unit_1, g9b_X5_unit_1, g10_X5_unit_1, g11_X5_unit_1, g12b_X5_unit_1, g13_X5_unit_1, g14_X5_unit_1, g15b_X5_unit_1, g16_X5_unit_1, g17_X5_unit_1, g18c_X5_unit_1, g19c_X5_unit_1, g20c_X5_unit_1, g21c_X5_unit_1, g22c_X5_unit_1, g23c_X5_unit_1, g24c_X5_unit_1, g25c_X5_unit_1, g26c_X5_unit_1, g27c_X5_unit_1, g28c_X5_unit_1, g29c_X5_unit_1, g30c_X5_unit_1, g31c_X5_unit_1, g32c_X5_unit_1, g33c_X5_unit_1, g34c_X5_unit_1, g35c_X5_unit_1, g36c_X5_unit_1, word_x, n1, if_true, if_neg n91, ← hu]
      (repeat' split) <;> rfl
    have em0 : (f_X12_readUnit_1 m a').1 = (if (f_X12_is v 39).2 = 0 then (if (f_X12_is v 40).2 = 0 then g11j_X12_readUnit_1 v 3005 else g11j_X12_readUnit_1 v 3004) else g11j_X12_readUnit_1 v 3003).1 := by
      simp only [f_X12_readUnit_1, g1c_X12_readUnit_1, g2b_X12_readUnit_1, g3_X12_readUnit_1, g5c_X12_readUnit_1, g6b_X12_readUnit_1, g7_X12_readUnit_1, g9c_X12_readUnit_1, g10c_X12_readUnit_1, g36b_X12_readUnit_1, g37_X12_readUnit_1, g38_X12_readUnit_1, g39c_X12_readUnit_1, g40b_X12_readUnit_1, g41_X12_readUnit_1, g42_X12_readUnit_1, is_x]
      rw [if_neg c1, if_pos rfl, if_neg c2, if_pos rfl, ← hv]
    obtain ⟨R, hR⟩ : ∃ R, R = (f_X12_readUnit_1 m a').1 := ⟨_, rfl⟩
    rw [← hR] at em0
    simp only [f_X12_readUnit_1, g1c_X12_readUnit_1, g2b_X12_readUnit_1, g3_X12_readUnit_1, g4_X12_readUnit_1, g5c_X12_readUnit_1, g6b_X12_readUnit_1, g7_X12_readUnit_1, g8_X12_readUnit_1, g9c_X12_readUnit_1, g10c_X12_readUnit_1, g11j_X12_readUnit_1, g12c_X12_readUnit_1, g13b_X12_readUnit_1, g14_X12_readUnit_1, g15_X12_readUnit_1, g16c_X12_readUnit_1, g17c_X12_readUnit_1, g18c_X12_readUnit_1, g19c_X12_readUnit_1, g20b_X12_readUnit_1, g21_X12_readUnit_1, g22_X12_readUnit_1, g23c_X12_readUnit_1, g24c_X12_readUnit_1, g25c_X12_readUnit_1, g26c_X12_readUnit_1, g27b_X12_readUnit_1, g28_X12_readUnit_1, g29_X12_readUnit_1, g30c_X12_readUnit_1, g31c_X12_readUnit_1, g32c_X12_readUnit_1, g33c_X12_readUnit_1, g34c_X12_readUnit_1, g35c_X12_readUnit_1, g36b_X12_readUnit_1, g37_X12_readUnit_1, g38_X12_readUnit_1, g39c_X12_readUnit_1, g40b_X12_readUnit_1, g41_X12_readUnit_1, g42_X12_readUnit_1, g43c_X12_readUnit_1, g44b_X12_readUnit_1, g45_X12_readUnit_1, g46_X12_readUnit_1, g47c_X12_readUnit_1, g48c_X12_readUnit_1, g49b_X12_readUnit_1, g50_X12_readUnit_1, g51_X12_readUnit_1, g52c_X12_readUnit_1, g53c_X12_readUnit_1, g54b_X12_readUnit_1, g55_X12_readUnit_1, g56_X12_readUnit_1, g57c_X12_readUnit_1, g58c_X12_readUnit_1] at em0
    have g := S_sum_1 1 1 w L F l p s m E h h0
    have g : Go w L F l p 1 (Num false 13) s m u v := by rw [hu, hv]; exact g
    obtain ⟨g1, g2, g3, g4⟩ := g
    have E2 := E.fr g1 g2 g3
    rcases g4 with ⟨d, d1, d2, d3⟩ | g4
    · have q61 := R_sgn (Rx.rk (Or.inl d2)) (c := 61) (k := 39) (by omega)
      have q60 := R_sgn (Rx.rk (Or.inl d2)) (c := 60) (k := 40) (by omega)
      have q62 := R_sgn (Rx.rk (Or.inl d2)) (c := 62) (k := 41) (by omega)
      rcases Classical.em (v 0 0 11 = 0 ∧ v 0 0 9 = 39) with z | z39
      · have zc := q61.mpr z
        have ec : (f_X5_unit_1 s a).1 = (f_X4_add (f_X5_sum_1 (f_X5_advance u).1 1).1 (Int.toNat ((f_X5_sum_1 (f_X5_advance u).1 1).1 3 77 10)) 2003).1 := by
          rw [ec0, if_pos zc]
        have em : (f_X12_readUnit_1 m a').1 = (f_X12_codes (f_X12_readSum_1 (f_X12_next v).1 1).1 3003).1 := by
          rw [← hR, em0]
          simp only [is_x, if_pos z, n10, if_true, if_false]
        rw [ec, em]
        have r := X_bin (b0 := false) (b := true) (a := 3003) (c := 2003) (f := fun s => (f_X5_sum_1 s 1).1) (g := fun m => (f_X12_readSum_1 m 1).1) (fun st => rfl) rfl (by decide) (by decide) (S_sum_1 1 1) E2 d2 h0 (by omega)
        obtain ⟨r1, r2, r3, r4⟩ := r
        refine ⟨g1.tr r1, g2.tr r2, r3, ?_⟩
        rcases r4 with ⟨d', t1, t2, t3⟩ | r4
        · refine Or.inl ⟨d ++ d', fun st => ⟨?_, ?_⟩, by rw [← List.append_assoc]; exact t2, by omega⟩
          · rw [tyl_app, (d1 st).1]
            exact (t1 st).1
          · have q := hgm_app d d' st (false :: st) (d1 st).1
            have q1 := (d1 st).2
            have q2 := (t1 st).2
            simp only [List.length_cons] at q
            omega
        · exact Or.inr r4
      rcases Classical.em (v 0 0 11 = 0 ∧ v 0 0 9 = 40) with z | z40
      · have zc := q60.mpr z
        have ec : (f_X5_unit_1 s a).1 = (f_X4_add (f_X5_sum_1 (f_X5_advance u).1 1).1 (Int.toNat ((f_X5_sum_1 (f_X5_advance u).1 1).1 3 77 10)) 2004).1 := by
          rw [ec0, if_neg (show ¬ u 0 77 4 = 61 by omega), if_pos zc]
        have em : (f_X12_readUnit_1 m a').1 = (f_X12_codes (f_X12_readSum_1 (f_X12_next v).1 1).1 3004).1 := by
          rw [← hR, em0]
          simp only [is_x, if_pos z, if_neg (show ¬ (v 0 0 11 = 0 ∧ v 0 0 9 = 39) by omega), n10, if_true, if_false]
        rw [ec, em]
        have r := X_bin (b0 := false) (b := true) (a := 3004) (c := 2004) (f := fun s => (f_X5_sum_1 s 1).1) (g := fun m => (f_X12_readSum_1 m 1).1) (fun st => rfl) rfl (by decide) (by decide) (S_sum_1 1 1) E2 d2 h0 (by omega)
        obtain ⟨r1, r2, r3, r4⟩ := r
        refine ⟨g1.tr r1, g2.tr r2, r3, ?_⟩
        rcases r4 with ⟨d', t1, t2, t3⟩ | r4
        · refine Or.inl ⟨d ++ d', fun st => ⟨?_, ?_⟩, by rw [← List.append_assoc]; exact t2, by omega⟩
          · rw [tyl_app, (d1 st).1]
            exact (t1 st).1
          · have q := hgm_app d d' st (false :: st) (d1 st).1
            have q1 := (d1 st).2
            have q2 := (t1 st).2
            simp only [List.length_cons] at q
            omega
        · exact Or.inr r4
      rcases Classical.em (v 0 0 11 = 0 ∧ v 0 0 9 = 41) with z | z41
      · have zc := q62.mpr z
        have ec : (f_X5_unit_1 s a).1 = (f_X4_add (f_X5_sum_1 (f_X5_advance u).1 1).1 (Int.toNat ((f_X5_sum_1 (f_X5_advance u).1 1).1 3 77 10)) 2005).1 := by
          rw [ec0, if_neg (show ¬ u 0 77 4 = 61 by omega), if_neg (show ¬ u 0 77 4 = 60 by omega), if_pos zc]
        have em : (f_X12_readUnit_1 m a').1 = (f_X12_codes (f_X12_readSum_1 (f_X12_next v).1 1).1 3005).1 := by
          rw [← hR, em0]
          simp only [is_x, if_pos z, if_neg (show ¬ (v 0 0 11 = 0 ∧ v 0 0 9 = 39) by omega), if_neg (show ¬ (v 0 0 11 = 0 ∧ v 0 0 9 = 40) by omega), n10, if_true, if_false]
        rw [ec, em]
        have r := X_bin (b0 := false) (b := true) (a := 3005) (c := 2005) (f := fun s => (f_X5_sum_1 s 1).1) (g := fun m => (f_X12_readSum_1 m 1).1) (fun st => rfl) rfl (by decide) (by decide) (S_sum_1 1 1) E2 d2 h0 (by omega)
        obtain ⟨r1, r2, r3, r4⟩ := r
        refine ⟨g1.tr r1, g2.tr r2, r3, ?_⟩
        rcases r4 with ⟨d', t1, t2, t3⟩ | r4
        · refine Or.inl ⟨d ++ d', fun st => ⟨?_, ?_⟩, by rw [← List.append_assoc]; exact t2, by omega⟩
          · rw [tyl_app, (d1 st).1]
            exact (t1 st).1
          · have q := hgm_app d d' st (false :: st) (d1 st).1
            have q1 := (d1 st).2
            have q2 := (t1 st).2
            simp only [List.length_cons] at q
            omega
        · exact Or.inr r4
      · have ec : (f_X5_unit_1 s a).1 = (f_X5_fail u 2).1 := by
          rw [ec0, if_neg (fun x => z39 (q61.mp x)), if_neg (fun x => z40 (q60.mp x)), if_neg (fun x => z41 (q62.mp x))]
        have f11 : (f_X12_fails v 2).1 0 0 11 ≠ 0 := by
          rw [fails_x]
          show pO 0 v (failM 2 (v 0 0)) 0 0 11 ≠ 0
          rw [put_at]
          exact failM_11 (by decide)
        have em : (f_X12_readUnit_1 m a').1 = (f_X12_fails v 2).1 := by
          rw [← hR, em0]
          simp only [is_x, if_neg z39, if_neg z40, if_neg z41, D_sum_1 _ f11, codes_d f11, if_true]
        rw [ec, em]
        have r := X_fail (k := 2) (kk := 1) (P := Num true 14) (by decide) E2 (Or.inl d2)
        obtain ⟨r1, r2, r3, r4⟩ := r
        refine ⟨g1.tr r1, g2.tr r2, r3, ?_⟩
        rcases r4 with ⟨d', t1, t2, t3⟩ | r4
        · exfalso
          have := t2.1.1
          rw [fail_x] at this
          have this : pO 77 u (failS 2 (u 0 77)) 0 77 8 = 0 := this
          rw [put_at] at this
          exact failS_8 (by decide) this
        · exact Or.inr r4
    · have r0 : Rx w L F l p u v := Or.inr g4
      have q61 := R_sgn r0.rk (c := 61) (k := 39) (by omega)
      have q60 := R_sgn r0.rk (c := 60) (k := 40) (by omega)
      have q62 := R_sgn r0.rk (c := 62) (k := 41) (by omega)
      have nz : ∀ q, q ≠ 25 → ¬ (v 0 0 11 = 0 ∧ v 0 0 9 = q) := fun q hq x => by
        obtain ⟨h8, -, ⟨y1, y2⟩ | ⟨y1, y2, -⟩⟩ := g4
        · exact h8 (y1.symm.trans x.1)
        · omega
      have z39 := nz 39 (by decide)
      have z40 := nz 40 (by decide)
      have z41 := nz 41 (by decide)
      have ec : (f_X5_unit_1 s a).1 = (f_X5_fail u 2).1 := by
        rw [ec0, if_neg (fun x => z39 (q61.mp x)), if_neg (fun x => z40 (q60.mp x)), if_neg (fun x => z41 (q62.mp x))]
      have f11 : (f_X12_fails v 2).1 0 0 11 ≠ 0 := by
        rw [fails_x]
        show pO 0 v (failM 2 (v 0 0)) 0 0 11 ≠ 0
        rw [put_at]
        exact failM_11 (by decide)
      have em : (f_X12_readUnit_1 m a').1 = (f_X12_fails v 2).1 := by
        rw [← hR, em0]
        simp only [is_x, if_neg z39, if_neg z40, if_neg z41, D_sum_1 _ f11, codes_d f11, if_true]
      rw [ec, em]
      have r := X_fail (k := 2) (kk := 1) (P := fun _ => False) (by decide) E2 r0
      obtain ⟨r1, r2, r3, r4⟩ := r
      refine ⟨g1.tr r1, g2.tr r2, r3, ?_⟩
      rcases r4 with ⟨d', t1, -⟩ | r4
      · exact t1.elim
      · exact Or.inr r4
theorem D_both_1 {m : XS} (a : Int) (h : m 0 0 11 ≠ 0) : f_X12_readBoth_1 m a = (m, 0) := by
  have lz : ∀ n, L2_X12_readBoth_1 n m = (m, 0) := by
    intro n
    cases n with
    | zero => rfl
    | succ n =>
      show g3l_X12_readBoth_1 (L2_X12_readBoth_1 n) m = _
      simp only [f_X12_readBoth_1, g1c_X12_readBoth_1, g3l_X12_readBoth_1, g4c_X12_readBoth_1, g5b_X12_readBoth_1, g6_X12_readBoth_1, g7_X12_readBoth_1, g8c_X12_readBoth_1, g9c_X12_readBoth_1, is_d h, eats_d h, if_true]
  simp only [f_X12_readBoth_1, g1c_X12_readBoth_1, D_unit_1 a h]
  exact lz _
set_option maxRecDepth 4000 in
theorem S_both_1 (a a' : Int) : SimL (Num true 15) (fun s => (f_X5_both_1 s a).1) (fun m => (f_X12_readBoth_1 m a').1) := by
  intro w L F l p s m E h h0
  have g := S_unit_1 a a' w L F l p s m E h h0
  have lp := X_loop (w := w) (L := L) (F := F) (p := p) (b := true) (H := 14) (LC := L2_X5_both_1) (LM := L2_X12_readBoth_1) (cC := fun s => wI (s 1 78) 20 (s 0 77) = 1) (cM := fun m => m 0 0 11 = 0 ∧ m 0 0 9 = 13) (bC := fun s => (f_X4_add (f_X5_unit_1 (f_X5_advance s).1 1).1 (Int.toNat ((f_X5_unit_1 (f_X5_advance s).1 1).1 3 77 10)) 2006).1) (bM := fun m => (f_X12_codes (f_X12_readUnit_1 (f_X12_next m).1 1).1 3006).1) (fun _ _ => rfl)
    (by
      intro n s i hi hc
      show g3l_X5_both_1 (L2_X5_both_1 n) s i = _
      simp only [f_X5_both_1, g1c_X5_both_1, g3l_X5_both_1, g4b_X5_both_1, g5_X5_both_1, g6_X5_both_1, g7c_X5_both_1, g8b_X5_both_1, g9_X5_both_1, g10_X5_both_1, g11c_X5_both_1, g12c_X5_both_1, g13c_X5_both_1, word_x]
      rw [if_pos hi, show wI (s 1 78) 20 (s 0 77) = 1 from hc, if_neg (by decide)])
    (by
      intro n s i hc
      show g3l_X5_both_1 (L2_X5_both_1 n) s i = _
      simp only [f_X5_both_1, g1c_X5_both_1, g3l_X5_both_1, g4b_X5_both_1, g5_X5_both_1, g6_X5_both_1, g7c_X5_both_1, g8b_X5_both_1, g9_X5_both_1, g10_X5_both_1, g11c_X5_both_1, g12c_X5_both_1, g13c_X5_both_1, word_x]
      rw [wI_n hc]
      split
      · rw [if_pos rfl]
      · rfl)
    (fun _ => rfl)
    (by
      intro n m hc
      have e := eats_x m 13
      rw [if_pos hc] at e
      show g3l_X12_readBoth_1 (L2_X12_readBoth_1 n) m = _
      simp only [f_X12_readBoth_1, g1c_X12_readBoth_1, g3l_X12_readBoth_1, g4c_X12_readBoth_1, g5b_X12_readBoth_1, g6_X12_readBoth_1, g7_X12_readBoth_1, g8c_X12_readBoth_1, g9c_X12_readBoth_1, e]
      rw [if_neg (by decide)])
    (by
      intro n m hc
      have e := eats_x m 13
      rw [if_neg hc] at e
      show g3l_X12_readBoth_1 (L2_X12_readBoth_1 n) m = _
      simp only [f_X12_readBoth_1, g1c_X12_readBoth_1, g3l_X12_readBoth_1, g4c_X12_readBoth_1, g5b_X12_readBoth_1, g6_X12_readBoth_1, g7_X12_readBoth_1, g8c_X12_readBoth_1, g9c_X12_readBoth_1, e, if_true])
    (fun l s m E h => R_wd h.rk (q := 13) (by omega)) (fun m q => ⟨q.1, by have := q.2; omega⟩) (fun s q z => by have q2 : wI (s 1 78) 20 (s 0 77) = 1 := q; exact wI_0' (by omega) q2)
    (fun l s m E h c => X_bin (b0 := true) (b := true) (a := 3006) (c := 2006) (f := fun s => (f_X5_unit_1 s 1).1) (g := fun m => (f_X12_readUnit_1 m 1).1) (fun st => rfl) rfl (by decide) (by decide) (S_unit_1 1 1) E h h0 (by intro z; exact wI_0' (by omega) ((R_wd (Rx.rk (Or.inl h)) (q := 13) (by omega)).mpr c : wI (s 1 78) 20 (s 0 77) = 1)))
  exact X_seq E g lp
theorem D_truth_1 {m : XS} (a : Int) (h : m 0 0 11 ≠ 0) : f_X12_readTruth_1 m a = (m, 0) := by
  have lz : ∀ n, L2_X12_readTruth_1 n m = (m, 0) := by
    intro n
    cases n with
    | zero => rfl
    | succ n =>
      show g3l_X12_readTruth_1 (L2_X12_readTruth_1 n) m = _
      simp only [f_X12_readTruth_1, g1c_X12_readTruth_1, g3l_X12_readTruth_1, g4c_X12_readTruth_1, g5b_X12_readTruth_1, g6_X12_readTruth_1, g7_X12_readTruth_1, g8c_X12_readTruth_1, g9c_X12_readTruth_1, is_d h, eats_d h, if_true]
  simp only [f_X12_readTruth_1, g1c_X12_readTruth_1, D_both_1 a h]
  exact lz _
set_option maxRecDepth 4000 in
theorem S_truth_1 (a a' : Int) : SimL (Num true 16) (fun s => (f_X5_truth_1 s a).1) (fun m => (f_X12_readTruth_1 m a').1) := by
  intro w L F l p s m E h h0
  have g := S_both_1 a a' w L F l p s m E h h0
  have lp := X_loop (w := w) (L := L) (F := F) (p := p) (b := true) (H := 15) (LC := L2_X5_truth_1) (LM := L2_X12_readTruth_1) (cC := fun s => wI (s 1 78) 21 (s 0 77) = 1) (cM := fun m => m 0 0 11 = 0 ∧ m 0 0 9 = 12) (bC := fun s => (f_X4_add (f_X5_both_1 (f_X5_advance s).1 1).1 (Int.toNat ((f_X5_both_1 (f_X5_advance s).1 1).1 3 77 10)) 2007).1) (bM := fun m => (f_X12_codes (f_X12_readBoth_1 (f_X12_next m).1 1).1 3007).1) (fun _ _ => rfl)
    (by
      intro n s i hi hc
      show g3l_X5_truth_1 (L2_X5_truth_1 n) s i = _
      simp only [f_X5_truth_1, g1c_X5_truth_1, g3l_X5_truth_1, g4b_X5_truth_1, g5_X5_truth_1, g6_X5_truth_1, g7c_X5_truth_1, g8b_X5_truth_1, g9_X5_truth_1, g10_X5_truth_1, g11c_X5_truth_1, g12c_X5_truth_1, g13c_X5_truth_1, word_x]
      rw [if_pos hi, show wI (s 1 78) 21 (s 0 77) = 1 from hc, if_neg (by decide)])
    (by
      intro n s i hc
      show g3l_X5_truth_1 (L2_X5_truth_1 n) s i = _
      simp only [f_X5_truth_1, g1c_X5_truth_1, g3l_X5_truth_1, g4b_X5_truth_1, g5_X5_truth_1, g6_X5_truth_1, g7c_X5_truth_1, g8b_X5_truth_1, g9_X5_truth_1, g10_X5_truth_1, g11c_X5_truth_1, g12c_X5_truth_1, g13c_X5_truth_1, word_x]
      rw [wI_n hc]
      split
      · rw [if_pos rfl]
      · rfl)
    (fun _ => rfl)
    (by
      intro n m hc
      have e := eats_x m 12
      rw [if_pos hc] at e
      show g3l_X12_readTruth_1 (L2_X12_readTruth_1 n) m = _
      simp only [f_X12_readTruth_1, g1c_X12_readTruth_1, g3l_X12_readTruth_1, g4c_X12_readTruth_1, g5b_X12_readTruth_1, g6_X12_readTruth_1, g7_X12_readTruth_1, g8c_X12_readTruth_1, g9c_X12_readTruth_1, e]
      rw [if_neg (by decide)])
    (by
      intro n m hc
      have e := eats_x m 12
      rw [if_neg hc] at e
      show g3l_X12_readTruth_1 (L2_X12_readTruth_1 n) m = _
      simp only [f_X12_readTruth_1, g1c_X12_readTruth_1, g3l_X12_readTruth_1, g4c_X12_readTruth_1, g5b_X12_readTruth_1, g6_X12_readTruth_1, g7_X12_readTruth_1, g8c_X12_readTruth_1, g9c_X12_readTruth_1, e, if_true])
    (fun l s m E h => R_wd h.rk (q := 12) (by omega)) (fun m q => ⟨q.1, by have := q.2; omega⟩) (fun s q z => by have q2 : wI (s 1 78) 21 (s 0 77) = 1 := q; exact wI_0' (by omega) q2)
    (fun l s m E h c => X_bin (b0 := true) (b := true) (a := 3007) (c := 2007) (f := fun s => (f_X5_both_1 s 1).1) (g := fun m => (f_X12_readBoth_1 m 1).1) (fun st => rfl) rfl (by decide) (by decide) (S_both_1 1 1) E h h0 (by intro z; exact wI_0' (by omega) ((R_wd (Rx.rk (Or.inl h)) (q := 12) (by omega)).mpr c : wI (s 1 78) 21 (s 0 77) = 1)))
  exact X_seq E g lp
