/-! the i-th turn of the shortest way, both -/
theorem turn_x {B : Int} {w h : Nat} {s m : XS} (H : CS B w h s m) (V : FV (w * h) s (m 1 1)) (Sq : SQ 0 s) {a1 a2 a3 a4 : Int} : (f_X11_turn s a1 a2 a3 a4).2 = (f_X12_turn m a1 a2 a3 a4).2 ∧ FV (w * h) (f_X11_turn s a1 a2 a3 a4).1 (m 1 1) ∧ SQ 0 (f_X11_turn s a1 a2 a3 a4).1 ∧ FrSh (f_X11_turn s a1 a2 a3 a4).1 s ∧ FrMh (f_X12_turn m a1 a2 a3 a4).1 m := by
  obtain ⟨n1, n2⟩ := H.who
  rw [turn_ec, turn_em, n1, n2, ← H.pl.1]
  have none : ∀ x : Int, ((s, x) : XR).2 = ((xup m 0 0 0 0, x) : XR).2 ∧ FV (w * h) s (m 1 1) ∧ SQ 0 s ∧ FrSh s s ∧ FrMh (xup m 0 0 0 0) m := fun x => ⟨rfl, V, Sq, fun _ _ _ _ _ _ _ => rfl, FrMh.thr⟩
  by_cases z : 0 ≤ a1 ∧ a1 < m 1 1 3
  · rw [if_pos z]
    by_cases y : 0 ≤ a2 ∧ a2 < ((w * h : Nat) : Int)
    · rw [if_pos y, if_pos (show (0 ≤ a1 ∧ a1 < m 1 1 3) ∧ (0 ≤ a2 ∧ a2 ≤ ((w * h : Nat) : Int) - 1) from ⟨z, y.1, by omega⟩)]
      by_cases x : 0 ≤ a3 ∧ a3 ≤ 120
      · rw [if_neg (show ¬ a3 < 0 by omega), if_neg (show ¬ 120 < a3 by omega), if_pos x]
        by_cases x4 : a4 < 0
        · rw [if_pos x4, if_pos x4]
          exact none _
        rw [if_neg x4, if_neg x4]
        obtain ⟨p, rfl⟩ : ∃ p : Nat, a1 = (p : Int) := ⟨a1.toNat, by omega⟩
        obtain ⟨c, rfl⟩ : ∃ c : Nat, a2 = (c : Int) := ⟨a2.toNat, by omega⟩
        obtain ⟨k, rfl⟩ : ∃ k : Nat, a3 = (k : Int) := ⟨a3.toNat, by omega⟩
        obtain ⟨i, rfl⟩ : ∃ i : Nat, a4 = (i : Int) := ⟨a4.toNat, by omega⟩
        obtain ⟨⟨b1, b2⟩, ⟨b3, b4⟩, -⟩ := H.bd.1 p z.2
        obtain ⟨p1, p2, -⟩ := H.pl.2.2.2.2.1 p z.2
        obtain ⟨c0, h0⟩ : ∃ c0 : Nat, m 1 1 (36 + p) = (c0 : Int) := ⟨(m 1 1 (36 + p)).toNat, by omega⟩
        obtain ⟨d0, h1⟩ : ∃ d0 : Nat, m 1 1 (41 + p) = (d0 : Int) := ⟨(m 1 1 (41 + p)).toNat, by omega⟩
        have L := H.ld (show 0 < w * h by omega)
        rw [show (p : Int).toNat = p from rfl, p1, p2, h0, h1, show 4 * (c0 : Int) + (d0 : Int) = ((4 * c0 + d0 : Nat) : Int) by omega]
        have m0r : (xup m 0 0 0 0) 1 1 = m 1 1 := funext fun x => xup_t (by decide)
        obtain ⟨u, v, r, u1, u2, u3, u4, u5, u6, u7⟩ := sh_x (m := xup m 0 0 0 0) (H.fr FrA.rf m0r) (by rw [m0r]; exact L) (by rw [m0r]; exact V) Sq (p := p) (c0 := c0) (d0 := d0) (c := c) (k := k) (by rw [m0r]; exact h0) (by rw [m0r]; exact h1) (by omega) (by omega) (by omega) (by omega)
        rw [m0r] at u3
        rw [u1, u2]
        have fr : FrMh v m := fun t c' k' q1 q2 => (u6 t c' k' q1 (by omega)).trans (FrMh.thr t c' k' q1 q2)
        have ec : g19c_X11_turn u (if r < 0 then 0 else 1) (i : Int) = if r < 0 then (u, -1) else (if (i : Int) < u 0 87 5 then (u, u 1 89 i) else (u, -1)) := by
          simp only [g19c_X11_turn, g20b_X11_turn, g21_X11_turn, g22_X11_turn, g23c_X11_turn, f_X7_turnAt, g1b_X7_turnAt, g2_X7_turnAt, g3_X7_turnAt, g4b_X7_turnAt, g5_X7_turnAt, g6_X7_turnAt, Int.toNat_natCast]
          by_cases q : r < 0
          · rw [if_pos q, if_pos rfl, if_pos q]
          · rw [if_neg q, if_neg (show ¬ (1 : Int) = 0 by decide), if_neg q, if_neg x4]
        have em : g13c_X12_turn v r (i : Int) = if (i : Int) < r then (v, v 1 13 i) else (v, -1) := by
          simp only [g13c_X12_turn, g14b_X12_turn, g15_X12_turn, g16_X12_turn, Int.toNat_natCast]
        show (g19c_X11_turn u (if r < 0 then 0 else 1) (i : Int)).2 = (g13c_X12_turn v r (i : Int)).2 ∧ FV (w * h) (g19c_X11_turn u (if r < 0 then 0 else 1) (i : Int)).1 (m 1 1) ∧ SQ 0 (g19c_X11_turn u (if r < 0 then 0 else 1) (i : Int)).1 ∧ FrSh (g19c_X11_turn u (if r < 0 then 0 else 1) (i : Int)).1 s ∧ FrMh (g13c_X12_turn v r (i : Int)).1 m
        rw [ec, em]
        rcases u7 with q | ⟨len, q1, q2, q3, q4, -⟩
        · rw [if_pos (show r < 0 by omega), if_neg (show ¬ (i : Int) < r by omega)]
          exact ⟨rfl, u3, u4, u5, fr⟩
        · rw [if_neg (show ¬ r < 0 by omega), q3, q2]
          by_cases il : i < len
          · rw [if_pos (show (i : Int) < (len : Int) by omega), if_pos (show (i : Int) < (len : Int) by omega)]
            exact ⟨(q4 i il).1, u3, u4, u5, fr⟩
          · rw [if_neg (show ¬ (i : Int) < (len : Int) by omega), if_neg (show ¬ (i : Int) < (len : Int) by omega)]
            exact ⟨rfl, u3, u4, u5, fr⟩
      · rw [if_neg x]
        by_cases x1 : a3 < 0
        · rw [if_pos x1]
          exact none _
        · rw [if_neg x1, if_pos (show 120 < a3 by omega)]
          exact none _
    · rw [if_neg y, if_neg (fun q => y ⟨q.2.1, by have := q.2.2; omega⟩)]
      exact none _
  · rw [if_neg z, if_neg (fun q => z q.1)]
    exact none _
