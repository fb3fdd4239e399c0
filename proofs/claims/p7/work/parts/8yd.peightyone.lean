/-! way and turn, both -/
def FrSh (u s : XS) : Prop := ∀ t c k, ¬ (t = 1 ∧ (c = 8 ∨ c = 9 ∨ c = 80 ∨ c = 81 ∨ c = 82 ∨ c = 84 ∨ c = 85 ∨ c = 88 ∨ c = 89)) → ¬ (t = 0 ∧ c = 79 ∧ k = 4) → ¬ (t = 0 ∧ c = 87 ∧ (k = 5 ∨ k = 6)) → ¬ (c = 83) → u t c k = s t c k
def FrMh (v m : XS) : Prop := ∀ t c k, ¬ (t = 1 ∧ (c = 5 ∨ c = 8 ∨ c = 9 ∨ c = 10 ∨ c = 11 ∨ c = 12 ∨ c = 13)) → ¬ (t = 0 ∧ c = 0 ∧ (k = 0 ∨ k = 26 ∨ k = 28)) → v t c k = m t c k
theorem athM_x (m : XS) (a1 a2 : Int) : f_X12_areThere m a1 a2 = (m, if 0 ≤ a1 ∧ a1 < m 1 1 3 then (if 0 ≤ a2 ∧ a2 ≤ m 1 1 1 * m 1 1 2 - 1 then 1 else 0) else 0) := by
  simp only [f_X12_areThere, g1c_X12_areThere, g2b_X12_areThere, g3_X12_areThere, g4_X12_areThere, g5c_X12_areThere, g6b_X12_areThere, g7_X12_areThere, g8_X12_areThere, ispM_x, iscM_x]
  by_cases z : 0 ≤ a1 ∧ a1 < m 1 1 3
  · rw [if_pos z, if_neg (show ¬ (1 : Int) = 0 by decide), if_pos z]
    by_cases y : 0 ≤ a2 ∧ a2 ≤ m 1 1 1 * m 1 1 2 - 1
    · rw [if_pos y, if_neg (show ¬ (1 : Int) = 0 by decide)]
    · rw [if_neg y, if_pos rfl]
  · rw [if_neg z, if_pos rfl, if_neg z]
theorem way_ec (s : XS) (a1 a2 a3 : Int) : f_X11_way s a1 a2 a3 = if 0 ≤ a1 ∧ a1 < s 0 10 7 then (if 0 ≤ a2 ∧ a2 < s 0 1 5 * s 0 1 6 then (if a3 < 0 then (s, -3) else if 120 < a3 then (s, -3) else f_X8_fewestStreets s (4 * s 1 11 a1.toNat + s 1 12 a1.toNat) a2 a3 60 0) else (s, -2)) else (s, -2) := by
  simp only [f_X11_way, g1c_X11_way, g2b_X11_way, g3_X11_way, g4_X11_way, g5c_X11_way, g6b_X11_way, g7_X11_way, g8_X11_way, g9b_X11_way, g10_X11_way, g11_X11_way, g12b_X11_way, g13_X11_way, g14_X11_way, g15c_X11_way, g16c_X11_way, ispC_x, iscC_x, f_X1_stand]
  by_cases z : 0 ≤ a1 ∧ a1 < s 0 10 7
  · rw [if_pos z, if_neg (show ¬ (1 : Int) = 0 by decide), if_pos z]
    by_cases y : 0 ≤ a2 ∧ a2 < s 0 1 5 * s 0 1 6
    · rw [if_pos y, if_neg (show ¬ (1 : Int) = 0 by decide), if_pos y]
    · rw [if_neg y, if_pos rfl, if_neg y]
  · rw [if_neg z, if_pos rfl, if_neg z]
theorem turn_ec (s : XS) (a1 a2 a3 a4 : Int) : f_X11_turn s a1 a2 a3 a4 = if 0 ≤ a1 ∧ a1 < s 0 10 7 then (if 0 ≤ a2 ∧ a2 < s 0 1 5 * s 0 1 6 then (if a3 < 0 then (s, -3) else if 120 < a3 then (s, -3) else if a4 < 0 then (s, -3) else g19c_X11_turn (f_X7_shortest s (4 * s 1 11 a1.toNat + s 1 12 a1.toNat) a2 a3).1 (f_X7_shortest s (4 * s 1 11 a1.toNat + s 1 12 a1.toNat) a2 a3).2 a4) else (s, -2)) else (s, -2) := by
  simp only [f_X11_turn, g1c_X11_turn, g2b_X11_turn, g3_X11_turn, g4_X11_turn, g5c_X11_turn, g6b_X11_turn, g7_X11_turn, g8_X11_turn, g9b_X11_turn, g10_X11_turn, g11_X11_turn, g12b_X11_turn, g13_X11_turn, g14_X11_turn, g15b_X11_turn, g16_X11_turn, g17_X11_turn, g18c_X11_turn, ispC_x, iscC_x, f_X1_stand]
  by_cases z : 0 ≤ a1 ∧ a1 < s 0 10 7
  · rw [if_pos z, if_neg (show ¬ (1 : Int) = 0 by decide), if_pos z]
    by_cases y : 0 ≤ a2 ∧ a2 < s 0 1 5 * s 0 1 6
    · rw [if_pos y, if_neg (show ¬ (1 : Int) = 0 by decide), if_pos y]
    · rw [if_neg y, if_pos rfl, if_neg y]
  · rw [if_neg z, if_pos rfl, if_neg z]
theorem way_em (m : XS) (a1 a2 a3 : Int) : f_X12_way m a1 a2 a3 = if (0 ≤ a1 ∧ a1 < m 1 1 3) ∧ (0 ≤ a2 ∧ a2 ≤ m 1 1 1 * m 1 1 2 - 1) then (if 0 ≤ a3 ∧ a3 ≤ 120 then f_X12_wayOf (xup m 0 0 0 0) a1 a2 a3 else (xup m 0 0 0 0, -3)) else (xup m 0 0 0 0, -2) := by
  have f3 : ∀ k, (xup m 0 0 0 0) 1 1 k = m 1 1 k := fun k => xup_t (by decide)
  simp only [f_X12_way, g1w_X12_way, g2c_X12_way, g3b_X12_way, g4_X12_way, g5_X12_way, g6c_X12_way, g7b_X12_way, g8_X12_way, g9_X12_way, g10c_X12_way, athM_x, within_x, f3]
  by_cases z : 0 ≤ a1 ∧ a1 < m 1 1 3
  · by_cases y : 0 ≤ a2 ∧ a2 ≤ m 1 1 1 * m 1 1 2 - 1
    · rw [if_pos z, if_pos y, if_neg (show ¬ (1 : Int) = 0 by decide), if_pos (show (0 ≤ a1 ∧ a1 < m 1 1 3) ∧ (0 ≤ a2 ∧ a2 ≤ m 1 1 1 * m 1 1 2 - 1) from ⟨z, y⟩)]
      by_cases x : 0 ≤ a3 ∧ a3 ≤ 120
      · rw [if_pos x, if_neg (show ¬ (1 : Int) = 0 by decide), if_pos x]
      · rw [if_neg x, if_pos rfl, if_neg x]
    · rw [if_pos z, if_neg y, if_pos rfl, if_neg (show ¬ ((0 ≤ a1 ∧ a1 < m 1 1 3) ∧ (0 ≤ a2 ∧ a2 ≤ m 1 1 1 * m 1 1 2 - 1)) from fun q => y q.2)]
  · rw [if_neg z, if_pos rfl, if_neg (show ¬ ((0 ≤ a1 ∧ a1 < m 1 1 3) ∧ (0 ≤ a2 ∧ a2 ≤ m 1 1 1 * m 1 1 2 - 1)) from fun q => z q.1)]
theorem turn_em (m : XS) (a1 a2 a3 a4 : Int) : f_X12_turn m a1 a2 a3 a4 = if (0 ≤ a1 ∧ a1 < m 1 1 3) ∧ (0 ≤ a2 ∧ a2 ≤ m 1 1 1 * m 1 1 2 - 1) then (if 0 ≤ a3 ∧ a3 ≤ 120 then (if a4 < 0 then (xup m 0 0 0 0, -3) else g13c_X12_turn (f_X12_laysWay (xup m 0 0 0 0) a1 a2 a3).1 (f_X12_laysWay (xup m 0 0 0 0) a1 a2 a3).2 a4) else (xup m 0 0 0 0, -3)) else (xup m 0 0 0 0, -2) := by
  have f3 : ∀ k, (xup m 0 0 0 0) 1 1 k = m 1 1 k := fun k => xup_t (by decide)
  simp only [f_X12_turn, g1w_X12_turn, g2c_X12_turn, g3b_X12_turn, g4_X12_turn, g5_X12_turn, g6c_X12_turn, g7b_X12_turn, g8_X12_turn, g9_X12_turn, g10b_X12_turn, g11_X12_turn, g12_X12_turn, athM_x, within_x, f3]
  by_cases z : 0 ≤ a1 ∧ a1 < m 1 1 3
  · by_cases y : 0 ≤ a2 ∧ a2 ≤ m 1 1 1 * m 1 1 2 - 1
    · rw [if_pos z, if_pos y, if_neg (show ¬ (1 : Int) = 0 by decide), if_pos (show (0 ≤ a1 ∧ a1 < m 1 1 3) ∧ (0 ≤ a2 ∧ a2 ≤ m 1 1 1 * m 1 1 2 - 1) from ⟨z, y⟩)]
      by_cases x : 0 ≤ a3 ∧ a3 ≤ 120
      · rw [if_pos x, if_neg (show ¬ (1 : Int) = 0 by decide), if_pos x]
      · rw [if_neg x, if_pos rfl, if_neg x]
    · rw [if_pos z, if_neg y, if_pos rfl, if_neg (show ¬ ((0 ≤ a1 ∧ a1 < m 1 1 3) ∧ (0 ≤ a2 ∧ a2 ≤ m 1 1 1 * m 1 1 2 - 1)) from fun q => y q.2)]
  · rw [if_neg z, if_pos rfl, if_neg (show ¬ ((0 ≤ a1 ∧ a1 < m 1 1 3) ∧ (0 ≤ a2 ∧ a2 ≤ m 1 1 1 * m 1 1 2 - 1)) from fun q => z q.1)]
theorem FrMh.thr {m : XS} : FrMh (xup m 0 0 0 0) m := fun t c k _ q => if_neg (fun y => q ⟨y.1, y.2.1, Or.inl y.2.2⟩)
/-- someone, somewhere: the class's and the reference's -/
theorem CS.who {B : Int} {w h : Nat} {s m : XS} (H : CS B w h s m) : s 0 1 5 * s 0 1 6 = ((w * h : Nat) : Int) ∧ m 1 1 1 * m 1 1 2 = ((w * h : Nat) : Int) := by
  rcases H.1 with ⟨q1, q2, q3, q4, q5, q6⟩ | L
  · rw [q1, q3, q5, Nat.zero_mul]
    exact ⟨by rw [Int.zero_mul]; rfl, by rw [Int.zero_mul]; rfl⟩
  · rw [L.2.1.1, L.2.1.2.1, L.2.1.2.2.1, L.2.1.2.2.2, Int.natCast_mul]
    exact ⟨rfl, rfl⟩
theorem CS.ld {B : Int} {w h : Nat} {s m : XS} (H : CS B w h s m) (hn : 0 < w * h) : Ld s (m 1 1) w h := by
  rcases H.1 with ⟨q1, -⟩ | L
  · rw [q1, Nat.zero_mul] at hn
    omega
  · exact L
theorem way_x {B : Int} {w h : Nat} {s m : XS} (H : CS B w h s m) (V : FV (w * h) s (m 1 1)) (Sq : SQ 0 s) {a1 a2 a3 : Int} : (f_X11_way s a1 a2 a3).2 = (f_X12_way m a1 a2 a3).2 ∧ FV (w * h) (f_X11_way s a1 a2 a3).1 (m 1 1) ∧ SQ 0 (f_X11_way s a1 a2 a3).1 ∧ FrSh (f_X11_way s a1 a2 a3).1 s ∧ FrMh (f_X12_way m a1 a2 a3).1 m := by
  obtain ⟨n1, n2⟩ := H.who
  rw [way_ec, way_em, n1, n2, ← H.pl.1]
  have none : ∀ x : Int, ((s, x) : XR).2 = ((xup m 0 0 0 0, x) : XR).2 ∧ FV (w * h) s (m 1 1) ∧ SQ 0 s ∧ FrSh s s ∧ FrMh (xup m 0 0 0 0) m := fun x => ⟨rfl, V, Sq, fun _ _ _ _ _ _ _ => rfl, FrMh.thr⟩
  by_cases z : 0 ≤ a1 ∧ a1 < m 1 1 3
  · rw [if_pos z]
    by_cases y : 0 ≤ a2 ∧ a2 < ((w * h : Nat) : Int)
    · rw [if_pos y, if_pos (show (0 ≤ a1 ∧ a1 < m 1 1 3) ∧ (0 ≤ a2 ∧ a2 ≤ ((w * h : Nat) : Int) - 1) from ⟨z, y.1, by omega⟩)]
      by_cases x : 0 ≤ a3 ∧ a3 ≤ 120
      · rw [if_neg (show ¬ a3 < 0 by omega), if_neg (show ¬ 120 < a3 by omega), if_pos x]
        obtain ⟨p, rfl⟩ : ∃ p : Nat, a1 = (p : Int) := ⟨a1.toNat, by omega⟩
        obtain ⟨c, rfl⟩ : ∃ c : Nat, a2 = (c : Int) := ⟨a2.toNat, by omega⟩
        obtain ⟨k, rfl⟩ : ∃ k : Nat, a3 = (k : Int) := ⟨a3.toNat, by omega⟩
        obtain ⟨⟨b1, b2⟩, ⟨b3, b4⟩, -⟩ := H.bd.1 p z.2
        obtain ⟨p1, p2, -⟩ := H.pl.2.2.2.2.1 p z.2
        obtain ⟨c0, h0⟩ : ∃ c0 : Nat, m 1 1 (36 + p) = (c0 : Int) := ⟨(m 1 1 (36 + p)).toNat, by omega⟩
        obtain ⟨d0, h1⟩ : ∃ d0 : Nat, m 1 1 (41 + p) = (d0 : Int) := ⟨(m 1 1 (41 + p)).toNat, by omega⟩
        have L := H.ld (show 0 < w * h by omega)
        rw [show (p : Int).toNat = p from rfl, p1, p2, h0, h1, show 4 * (c0 : Int) + (d0 : Int) = ((4 * c0 + d0 : Nat) : Int) by omega]
        obtain ⟨u, r, u1, u2, u3, u4, u5⟩ := fewestStreets_s H L V Sq (c0 := c0) (d0 := d0) (k := k) (c := c) (by omega) (by omega) (by omega) (by omega) (n' := 60) (by decide) (mo := noM) (more := 0) (fun c' _ => by rw [bz_0]; exact ⟨(fun q => by cases q), fun q => q.elim⟩)
        have u1' : f_X8_fewestStreets s ((4 * c0 + d0 : Nat) : Int) (c : Int) (k : Int) 60 0 = (u, r) := u1
        have m0r : (xup m 0 0 0 0) 1 1 = m 1 1 := funext fun x => xup_t (by decide)
        obtain ⟨v, r', v1, v2, v3, -⟩ := wo_x (m := xup m 0 0 0 0) (H.fr FrA.rf m0r) (by rw [m0r]; exact L) (p := p) (c0 := c0) (d0 := d0) (c := c) (k := k) (by rw [m0r]; exact h0) (by rw [m0r]; exact h1) (by omega) (by omega) (by omega) (by omega)
        rw [m0r] at v2
        rw [u1', v1]
        exact ⟨u5.uq v2, u2, u4, fun t c' k' q1 q2 q3 q4 => u3 t c' k' (by omega) q2 q4, fun t c' k' q1 q2 => (v3 t c' k' (by omega) (by omega)).trans (FrMh.thr t c' k' q1 q2)⟩
      · rw [if_neg x]
        by_cases x1 : a3 < 0
        · rw [if_pos x1]
          exact none _
        · rw [if_neg x1, if_pos (show 120 < a3 by omega)]
          exact none _
    · rw [if_neg y, if_neg (fun q => y ⟨q.2.1, by have := q.2.2; omega⟩)]
      exact none _
  · rw [if_neg z, if_neg (fun q => z q.1)]
    exact none _
