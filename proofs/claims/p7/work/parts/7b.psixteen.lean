/-! street: both -/
theorem rem0_t : ∀ w : Nat, w < 6 → ∀ c : Nat, c < 25 → (c : Int) % (w : Int) = ((c % w : Nat) : Int) ∧ (c : Int) / (w : Int) = ((c / w : Nat) : Int) := fun w _ c _ => ⟨rfl, rfl⟩
set_option maxRecDepth 8000 in
theorem bey1_x {m : XS} {w h c d : Nat} (ew : m 1 1 1 = (w : Int)) (eh : m 1 1 2 = (h : Int)) (hd : d < 4) : f_X12_beyond m (c : Int) (d : Int) = (m, beyF (w : Int) (h : Int) (c : Int) (d : Int)) := by
  simp only [f_X12_beyond, g1b_X12_beyond, g2_X12_beyond, g3_X12_beyond, g4b_X12_beyond, g5_X12_beyond, g6_X12_beyond, g7b_X12_beyond, g8_X12_beyond, g9_X12_beyond, g10b_X12_beyond, g11_X12_beyond, g12_X12_beyond, g13c_X12_beyond, g14b_X12_beyond, g15_X12_beyond, g16_X12_beyond, g17c_X12_beyond, g18b_X12_beyond, g19_X12_beyond, g20_X12_beyond, g21c_X12_beyond, g22b_X12_beyond, g23_X12_beyond, g24_X12_beyond, g25c_X12_beyond, g26b_X12_beyond, g27_X12_beyond, g28_X12_beyond, g29c_X12_beyond, g30b_X12_beyond, g31_X12_beyond, g32_X12_beyond, g33c_X12_beyond, g34b_X12_beyond, g35_X12_beyond, g36_X12_beyond, g37c_X12_beyond, g38b_X12_beyond, g39_X12_beyond, g40_X12_beyond, g41c_X12_beyond, g42b_X12_beyond, g43_X12_beyond, g44_X12_beyond, g45c_X12_beyond, g46b_X12_beyond, g47_X12_beyond, g48_X12_beyond, g49c_X12_beyond, g50b_X12_beyond, g51_X12_beyond, g52_X12_beyond, within_x, show Int.toNat 1 = 1 from rfl, show Int.toNat 2 = 2 from rfl, ew, eh]
  unfold beyF
  generalize (c : Int) % (w : Int) = X
  generalize (c : Int) / (w : Int) = Y
  rcases (show d = 0 ∨ d = 1 ∨ d = 2 ∨ d = 3 by omega) with rfl | rfl | rfl | rfl
  · simp only [show ((0 : Nat) : Int) = 0 from rfl, show ¬ (0 : Int) = 1 by decide, show ¬ (0 : Int) = 2 by decide, show ¬ (0 : Int) = 3 by decide, if_false, if_true, Int.add_zero]
    exact two_if m _ _ _ _ _
  · simp only [show ((1 : Nat) : Int) = 1 from rfl, show ¬ (1 : Int) = 0 by decide, show ¬ (1 : Int) = 2 by decide, show ¬ (1 : Int) = 3 by decide, if_false, if_true, Int.add_zero]
    exact two_if m _ _ _ _ _
  · simp only [show ((2 : Nat) : Int) = 2 from rfl, show ¬ (2 : Int) = 0 by decide, show ¬ (2 : Int) = 1 by decide, show ¬ (2 : Int) = 3 by decide, if_false, if_true, Int.add_zero]
    exact two_if m _ _ _ _ _
  · simp only [show ((3 : Nat) : Int) = 3 from rfl, show ¬ (3 : Int) = 0 by decide, show ¬ (3 : Int) = 1 by decide, show ¬ (3 : Int) = 2 by decide, if_false, if_true, Int.add_zero]
    exact two_if m _ _ _ _ _
theorem isin_x (m : XS) {v : Int} {d : Nat} (h0 : 0 ≤ v) (h1 : v < 16) (hd : d < 4) : f_X12_isIn m v (d : Int) = (m, if v.toNat.testBit d = true then 1 else 0) := by
  have q := isin_t v.toNat (by omega) d hd
  rw [show ((v.toNat : Nat) : Int) = v by omega] at q
  simp only [f_X12_isIn, g1b_X12_isIn, g2_X12_isIn, g3_X12_isIn]
  by_cases z : v.toNat.testBit d = true
  · rw [if_pos z, if_pos (q.mpr z)]
  · rw [if_neg z, if_neg (fun y => z (q.mp y))]
/-- a street in both -/
theorem Street_to {s m : XS} {c d : Nat} (hN : Nt 1 s (m 1 1)) (hc : (c : Int) < s 0 1 5 * s 0 1 6) (hd : d < 4) : f_X0_to s 1 (c : Int) (d : Int) = (s, (f_X12_streetFrom m (c : Int) (d : Int)).2) ∧ (f_X12_streetFrom m (c : Int) (d : Int)).1 = m := by
  obtain ⟨n1, n2, n3, n4⟩ := hN
  rcases n4 with ⟨q1, q2, -⟩ | ⟨w, h, q1, q2, q3, q4, q5, q6, q7, q8⟩
  · exfalso
    rw [q1] at hc
    omega
  · rw [q1, q2] at hc
    have hc : c < w * h := by exact_mod_cast hc
    have b25 : w * h ≤ 25 := by
      have : w * h ≤ 5 * 5 := Nat.mul_le_mul (by omega) (by omega)
      omega
    have b := bey1_x (m := m) (w := w) (h := h) (c := c) (d := d) (n1.trans q1) (n2.trans q2) hd
    have wl := n3 c (by omega)
    have i := isin_x m wl.1 wl.2 hd
    have r := q8 c d hc hd
    have es : f_X12_streetFrom m (c : Int) (d : Int) = (m, if (m 1 1 (11 + c)).toNat.testBit d = true then -1 else beyF (w : Int) (h : Int) (c : Int) (d : Int)) := by
      simp only [f_X12_streetFrom, g1c_X12_streetFrom, g2b_X12_streetFrom, g3_X12_streetFrom, g4_X12_streetFrom, g5c_X12_streetFrom, show Int.toNat (11 + (c : Int)) = 11 + c by omega, i, b]
      by_cases z : (m 1 1 (11 + c)).toNat.testBit d = true
      · simp only [if_pos z, n10, if_false]
      · simp only [if_neg z, if_true]
    rw [es, to_x s 1 (d : Int) (by omega) (by omega)]
    refine ⟨?_, rfl⟩
    show (s, @ite Int (bZ (s 1 (1 + 17) d) c) (Classical.propDecidable _) ((c : Int) + s 1 (1 + 18) d) (-1)) = (s, if (m 1 1 (11 + c)).toNat.testBit d = true then -1 else beyF (w : Int) (h : Int) (c : Int) (d : Int))
    by_cases z : bZ (s 1 (1 + 17) d) c
    · have y := r.1.mp ⟨by omega, z⟩
      rw [if_pos z, if_neg (fun t => y.2 ⟨by omega, t⟩), q7 d hd, dir_z w q4 h q6 c (by omega) d hd q3 q5 hc y.1]
    · rw [if_neg z]
      by_cases t : (m 1 1 (11 + c)).toNat.testBit d = true
      · rw [if_pos t]
      · rw [if_neg t]
        have e : beyF (w : Int) (h : Int) (c : Int) (d : Int) = -1 := Classical.byContradiction (fun k => z (r.1.mpr ⟨k, fun u => t u.2⟩).2)
        rw [e]
theorem Street_x {s m : XS} {c d : Int} (hN : Nt 1 s (m 1 1)) : (f_X11_street s c d).1 = s ∧ (f_X12_street m c d).1 = xup m 0 0 0 0 ∧ (f_X11_street s c d).2 = (f_X12_street m c d).2 := by
  obtain ⟨M, hM⟩ : ∃ M, M = xup m 0 0 0 0 := ⟨_, rfl⟩
  have m11 : M 1 1 = m 1 1 := funext fun k => by rw [hM, xup_t (by decide)]
  have hN2 : Nt 1 s (M 1 1) := by rw [m11]; exact hN
  have e1 : M 1 1 1 = s 0 1 5 := by rw [m11]; exact hN.1
  have e2 : M 1 1 2 = s 0 1 6 := by rw [m11]; exact hN.2.1
  have em : f_X12_street m c d = if 0 ≤ c ∧ c ≤ s 0 1 5 * s 0 1 6 - 1 then (if 0 ≤ d ∧ d ≤ 3 then f_X12_streetFrom M c d else (M, -2)) else (M, -2) := by
    simp only [f_X12_street, g1w_X12_street, g2c_X12_street, g3b_X12_street, g4_X12_street, g5_X12_street, g6c_X12_street, g7b_X12_street, g8_X12_street, g9_X12_street, g10c_X12_street, f_X12_isCrossing, g1c_X12_isCrossing, g2c_X12_isCrossing, f_X12_crossings, f_X12_isDirection, g1c_X12_isDirection, within_x, show Int.toNat 1 = 1 from rfl, show Int.toNat 2 = 2 from rfl, ← hM, e1, e2]
    by_cases z : 0 ≤ c ∧ c ≤ s 0 1 5 * s 0 1 6 - 1
    · simp only [if_pos z, n10, if_false]
      by_cases y : 0 ≤ d ∧ d ≤ 3
      · simp only [if_pos y, n10, if_false]
      · simp only [if_neg y, if_true]
    · simp only [if_neg z, if_true]
  have ec : f_X11_street s c d = if 0 ≤ c ∧ c < s 0 1 5 * s 0 1 6 then (if 0 ≤ d ∧ d < 4 then f_X0_to s 1 c d else (s, -2)) else (s, -2) := by
    have e3 : f_X11_isStand s c d = (s, if (0 ≤ c ∧ c < s 0 1 5 * s 0 1 6) ∧ (0 ≤ d ∧ d < 4) then 1 else 0) := by
      have e4 : f_X11_isCrossing s c = (s, if 0 ≤ c ∧ c < s 0 1 5 * s 0 1 6 then 1 else 0) := by
        have e0 : f_X11_isCrossing s c = if c < 0 then (s, 0) else if c < s 0 1 5 * s 0 1 6 then (s, 1) else (s, 0) := rfl
        rw [e0]
        by_cases y : c < 0
        · rw [if_pos y, if_neg (fun q => by omega)]
        · rw [if_neg y]
          by_cases z : c < s 0 1 5 * s 0 1 6
          · rw [if_pos z, if_pos ⟨by omega, z⟩]
          · rw [if_neg z, if_neg (fun q => z q.2)]
      simp only [f_X11_isStand, g1c_X11_isStand, g2b_X11_isStand, g3_X11_isStand, g4_X11_isStand, g5b_X11_isStand, g6_X11_isStand, g7_X11_isStand, g8b_X11_isStand, g9_X11_isStand, g10_X11_isStand, e4]
      by_cases z : 0 ≤ c ∧ c < s 0 1 5 * s 0 1 6
      · simp only [if_pos z, n10, if_false]
        by_cases y : d < 0
        · rw [if_pos y, if_neg (fun q => by omega)]
        · rw [if_neg y]
          by_cases x : d < 4
          · rw [if_pos x, if_pos ⟨z, by omega, x⟩]
          · rw [if_neg x, if_neg (fun q => x q.2.2)]
      · simp only [if_neg z, if_true]
        rw [if_neg (fun q => z q.1)]
    simp only [f_X11_street, g1c_X11_street, g2b_X11_street, g3_X11_street, g4_X11_street, g5c_X11_street, e3]
    by_cases z : 0 ≤ c ∧ c < s 0 1 5 * s 0 1 6
    · by_cases y : 0 ≤ d ∧ d < 4
      · have k : (0 ≤ c ∧ c < s 0 1 5 * s 0 1 6) ∧ (0 ≤ d ∧ d < 4) := ⟨z, y⟩
        simp only [if_pos k, if_pos z, if_pos y, n10, if_false]
      · have k : ¬ ((0 ≤ c ∧ c < s 0 1 5 * s 0 1 6) ∧ (0 ≤ d ∧ d < 4)) := fun q => y q.2
        simp only [if_neg k, if_pos z, if_neg y, if_true]
    · have k : ¬ ((0 ≤ c ∧ c < s 0 1 5 * s 0 1 6) ∧ (0 ≤ d ∧ d < 4)) := fun q => z q.1
      simp only [if_neg k, if_neg z, if_true]
  rw [ec, em, ← hM]
  by_cases z : 0 ≤ c ∧ c < s 0 1 5 * s 0 1 6
  · have z' : 0 ≤ c ∧ c ≤ s 0 1 5 * s 0 1 6 - 1 := ⟨z.1, by omega⟩
    rw [if_pos z, if_pos z']
    by_cases y : 0 ≤ d ∧ d < 4
    · have y' : 0 ≤ d ∧ d ≤ 3 := ⟨y.1, by omega⟩
      rw [if_pos y, if_pos y']
      obtain ⟨c', rfl⟩ : ∃ c' : Nat, c = (c' : Int) := ⟨c.toNat, by omega⟩
      obtain ⟨d', rfl⟩ : ∃ d' : Nat, d = (d' : Int) := ⟨d.toNat, by omega⟩
      obtain ⟨t1, t2⟩ := Street_to hN2 z.2 (show d' < 4 by omega)
      rw [t1]
      exact ⟨rfl, t2, rfl⟩
    · have y' : ¬ (0 ≤ d ∧ d ≤ 3) := fun q => y ⟨q.1, by omega⟩
      rw [if_neg y, if_neg y']
      exact ⟨rfl, rfl, rfl⟩
  · have z' : ¬ (0 ≤ c ∧ c ≤ s 0 1 5 * s 0 1 6 - 1) := fun q => z ⟨q.1, by omega⟩
    rw [if_neg z, if_neg z']
    exact ⟨rfl, rfl, rfl⟩
