/-! lines: both readers in step -/
def FrL (s u : XS) : Prop := ∀ t c k, ¬ (t = 0 ∧ c = 77 ∧ 4 ≤ k ∧ k ≤ 9) → ¬ (t = 3 ∧ c = 77 ∧ k = 10) → ¬ (20 ≤ c ∧ c ≤ 38) → u t c k = s t c k
def FrN (m v : XS) : Prop := ∀ t c k, ¬ (t = 0 ∧ c = 0 ∧ tkM k) → ¬ (t = 1 ∧ c = 4) → v t c k = m t c k
theorem FrL.rf {s : XS} : FrL s s := fun _ _ _ _ _ _ => rfl
theorem FrL.tr {a b c : XS} (h : FrL a b) (g : FrL b c) : FrL a c := fun t i k q1 q2 q3 => (g t i k q1 q2 q3).trans (h t i k q1 q2 q3)
theorem FrN.rf {m : XS} : FrN m m := fun _ _ _ _ _ => rfl
theorem FrN.tr {a b c : XS} (h : FrN a b) (g : FrN b c) : FrN a c := fun t i k q1 q2 => (g t i k q1 q2).trans (h t i k q1 q2)
def Ct (s m : XS) : Prop := Ci 20 s (m 1 4) ∧ m 1 4 873 ≤ s 0 77 5
def Gl (w : WW) (k : Int) (s m u v : XS) : Prop := FrL s u ∧ FrN m v ∧ ((Tk w (s 1 78) (u 0 77) (v 0 0) ∧ Ct u v ∧ s 0 77 5 + k ≤ u 0 77 5) ∨ Dead (u 0 77) (v 0 0))
theorem Gt.fr {w : WW} {s m u v : XS} {k : Int} {Q : Prop} (g : Gt w s m u v k Q) : FrL s u ∧ FrN m v := by
  obtain ⟨x, y, rfl, rfl, fx, fy, r⟩ := g
  refine ⟨fun t c j q1 _ _ => ?_, fun t c j q1 _ => ?_⟩
  · by_cases e : t = 0 ∧ c = 77
    · obtain ⟨rfl, rfl⟩ := e
      rw [put_at]; exact fx.1 j (fun q => q1 ⟨rfl, rfl, q⟩)
    · rw [put_n e]
  · by_cases e : t = 0 ∧ c = 0
    · obtain ⟨rfl, rfl⟩ := e
      rw [put_at]; exact fy j (fun q => q1 ⟨rfl, rfl, q⟩)
    · rw [put_n e]
theorem Gt.gl {w : WW} {s m u v u' v' : XS} {k j : Int} {Q : Prop} (g : Gt w s m u v k Q) (hk : j ≤ k) (hu : ∀ t c i, ¬ (20 ≤ c ∧ c ≤ 38) → u' t c i = u t c i) (hv : ∀ t c i, ¬ (t = 1 ∧ c = 4) → v' t c i = v t c i) (hc : Q → v 0 0 11 = 0 → s 0 77 5 + k ≤ u 0 77 5 → Ct u' v') : Gl w j s m u' v' := by
  obtain ⟨f1, f2⟩ := g.fr
  have e1 : u' 0 77 = u 0 77 := funext fun i => hu 0 77 i (by omega)
  have e2 : v' 0 0 = v 0 0 := funext fun i => hv 0 0 i (by omega)
  refine ⟨fun t c i q1 q2 q3 => (hu t c i q3).trans (f1 t c i q1 q2 q3), fun t c i q1 q2 => (hv t c i q2).trans (f2 t c i q1 q2), ?_⟩
  rw [e1, e2]
  obtain ⟨x, y, rfl, rfl, fx, fy, r⟩ := g
  rw [put_at, put_at] at *
  rcases r with ⟨r1, r2, r3, r4⟩ | r
  · exact Or.inl ⟨r1, hc r4 r1.1.2.1 r3, by omega⟩
  · exact Or.inr r
/-- nothing but tokens was read, and it came to a fault -/
theorem Gt.gl0 {w : WW} {s m u v : XS} {k j : Int} (g : Gt w s m u v k False) (hk : j ≤ k) : Gl w j s m u v := g.gl hk (fun _ _ _ _ => rfl) (fun _ _ _ _ => rfl) (fun q => q.elim)
theorem Ct.at {s m : XS} (h : Ct s m) {A : Nat → Int} (hA : A = m 1 4) : Ci 20 s A := by rw [hA]; exact h.1
theorem X_city {w : WW} {s m : XS} (E : Sb (s 1 78) (m 1 3)) (h : Tk w (s 1 78) (s 0 77) (m 0 0)) (h4 : s 0 77 4 ≠ 0) (hC : Ct s m) (hl : s 0 20 5 = 0) : Gl w 1 s m (f_X5_cityLine s).1 (f_X12_readCity m).1 := by
  have g1 := T_next E h h4
  have g2 := T_take (lo := 2) (hi := 5) (g1.env E) g1.rt
  have E2 := g2.env (g1.env E)
  have g3 := T_take (lo := 2) (hi := 5) E2 g2.rt
  have g := (g1.tr g2).tr g3
  have ec : (f_X5_cityLine s).1 = (f_X0_lay (bF 2 5 (bF 2 5 (f_X5_advance s).1).1).1 20 (bF 2 5 (f_X5_advance s).1).2 (bF 2 5 (bF 2 5 (f_X5_advance s).1).1).2).1 := by
    simp only [f_X5_cityLine, g1b_X5_cityLine, g2_X5_cityLine, g3_X5_cityLine, g4c_X5_cityLine, g5c_X5_cityLine, g6c_X5_cityLine, g7c_X5_cityLine, g8c_X5_cityLine, bnd_a, hl]
    rw [if_neg (by decide)]
  have em : (f_X12_readCity m).1 = if (f_X12_takes (f_X12_takes (f_X12_next m).1 2 5).1 2 5).1 0 0 11 = 0 then xup (xup (f_X12_takes (f_X12_takes (f_X12_next m).1 2 5).1 2 5).1 1 4 1 (f_X12_takes (f_X12_next m).1 2 5).2) 1 4 2 (f_X12_takes (f_X12_takes (f_X12_next m).1 2 5).1 2 5).2 else (f_X12_takes (f_X12_takes (f_X12_next m).1 2 5).1 2 5).1 := by
    simp only [f_X12_readCity, g1c_X12_readCity, g2c_X12_readCity, g3c_X12_readCity, g4b_X12_readCity, g5_X12_readCity, g6_X12_readCity, g7w_X12_readCity, g8w_X12_readCity]
    split <;> rfl
  rw [ec, em]
  generalize (bF 2 5 (f_X5_advance s).1).2 = a1 at *
  generalize (f_X12_takes (f_X12_next m).1 2 5).2 = b1 at *
  generalize (bF 2 5 (bF 2 5 (f_X5_advance s).1).1).2 = a2 at *
  generalize (f_X12_takes (f_X12_takes (f_X12_next m).1 2 5).1 2 5).2 = b2 at *
  generalize (bF 2 5 (bF 2 5 (f_X5_advance s).1).1).1 = u at *
  generalize (f_X12_takes (f_X12_takes (f_X12_next m).1 2 5).1 2 5).1 = v at *
  obtain ⟨c1, c2⟩ := g.cs
  have ly : ∀ t c k, ¬ (20 ≤ c ∧ c ≤ 38) → (f_X0_lay u 20 a1 a2).1 t c k = u t c k := by
    intro t c k hk
    have e : ∀ (n : Nat) (z : XS) (a y v : Int), (L3_X0_lay n z 20 a1 a2 v a y).1 t c k = z t c k := by
      intro n
      induction n with
      | zero => intro z a y v; rfl
      | succ n ih =>
        intro z a y v
        show (g4l_X0_lay (L3_X0_lay n) z 20 a1 a2 v a y).1 t c k = _
        simp only [g4l_X0_lay, g5b_X0_lay, g7_X0_lay]
        split
        · exact ih z _ _ _
        · simp only [g6_X0_lay, g8w_X0_lay, g9w_X0_lay, g10w_X0_lay, g11w_X0_lay, g12w_X0_lay, g13w_X0_lay, g14w_X0_lay, g15w_X0_lay]
          unfold xup
          repeat rw [if_neg (fun q => hk (by omega))]
    show (L3_X0_lay _ (xup (xup u 0 20 5 a1) 0 20 6 a2) 20 a1 a2 _ 0 0).1 t c k = _
    rw [e]
    unfold xup
    rw [if_neg (fun q => hk (by omega)), if_neg (fun q => hk (by omega))]
  refine g.gl (by decide) ly (fun t c k hk => ?_) (fun q h11 hs => ?_)
  · split
    · unfold xup
      rw [if_neg (fun q => hk ⟨q.1, q.2.1⟩), if_neg (fun q => hk ⟨q.1, q.2.1⟩)]
    · rfl
  · obtain ⟨⟨-, q1, q2, q3⟩, q4, q5, q6⟩ := q
    rw [if_pos h11, ← q1, ← q4]
    have hA : ∀ k, k ≠ 1 → k ≠ 2 → (xup (xup v 1 4 1 a1) 1 4 2 a2) 1 4 k = m 1 4 k := fun k z1 z2 => by rw [xup_k z2, xup_k z1]; exact c2 1 4 k (by decide)
    refine ⟨Ci_lay hC.1 hl q2 q3 q5 q6 (fun t c k z1 z2 => c1 t c k (by omega)) (by rw [xup_k (by decide), xup_s]) xup_s hA, ?_⟩
    rw [hA 873 (by decide) (by decide), ly 0 77 5 (by omega)]
    have := hC.2
    omega
theorem Gt.weak2 {w : WW} {s m u v : XS} {k k' : Int} {Q Q' : Prop} (g : Gt w s m u v k Q) (hk : k' ≤ k) (h : v 0 0 11 = 0 → Q → Q') : Gt w s m u v k' Q' := by
  obtain ⟨x, y, rfl, rfl, fx, fy, r⟩ := g
  refine ⟨x, y, rfl, rfl, fx, fy, ?_⟩
  rw [put_at] at h
  rcases r with ⟨r1, r2, r3, r4⟩ | r
  · exact Or.inl ⟨r1, r2, by omega, h r1.1.2.1 r4⟩
  · exact Or.inr r
/-! a crossing -/
noncomputable def crW (W H : Int) (s : XS) : XR := ((bF 0 (H - 1) (bF 0 (W - 1) s).1).1, W * (bF 0 (H - 1) (bF 0 (W - 1) s).1).2 + (bF 0 (W - 1) s).2)
theorem told_x {w : WW} {s m : XS} {W H : Int} (E : Sb (s 1 78) (m 1 3)) (h : Tk w (s 1 78) (s 0 77) (m 0 0)) (h4 : s 0 77 4 ≠ 0) (e1 : s 0 20 5 = W) (e2 : s 0 20 6 = H) (w0 : 0 < W) : f_X5_crossingTold s = crW W H (f_X5_advance s).1 := by
  have g0 := T_next E h h4
  have E1 := g0.env E
  have g1 := T_take (lo := 0) (hi := W - 1) E1 g0.rt
  have E2 := g1.env E1
  have g2 := T_take (lo := 0) (hi := H - 1) E2 g1.rt
  have k1 : (f_X5_advance s).1 0 20 5 = W := (g0.cs.1 0 20 5 (by decide)).trans e1
  have k2 : (bF 0 (W - 1) (f_X5_advance s).1).1 0 20 6 = H := (g1.cs.1 0 20 6 (by decide)).trans ((g0.cs.1 0 20 6 (by decide)).trans e2)
  have k3 : (bF 0 (H - 1) (bF 0 (W - 1) (f_X5_advance s).1).1).1 0 20 5 = W := (g2.cs.1 0 20 5 (by decide)).trans ((g1.cs.1 0 20 5 (by decide)).trans k1)
  simp only [f_X5_crossingTold, g1b_X5_crossingTold, g2_X5_crossingTold, g3_X5_crossingTold, g4c_X5_crossingTold, g5c_X5_crossingTold, g6c_X5_crossingTold, g7c_X5_crossingTold, bnd_b, e1, k1, k2, k3]
  rw [if_pos w0]
  rfl
theorem told_n (s : XS) (hl : s 0 20 5 = 0) : f_X5_crossingTold s = ((f_X5_fail s 2).1, 0) := by
  simp only [f_X5_crossingTold, g1b_X5_crossingTold, g2_X5_crossingTold, g3_X5_crossingTold, g4c_X5_crossingTold, g5c_X5_crossingTold, g6c_X5_crossingTold, g7c_X5_crossingTold, hl]
  rw [if_neg (by decide)]
theorem T_cross {w : WW} {s m : XS} {W H : Nat} (E : Sb (s 1 78) (m 1 3)) (h : Rt w (s 1 78) (s 0 77) (m 0 0)) (w2 : 2 ≤ W) (w5 : W < 6) (e3 : m 1 4 1 = (W : Int)) (e4 : m 1 4 2 = (H : Int)) : Gt w s m (crW (W : Int) (H : Int) s).1 (f_X12_takesCrossing m).1 2 ((crW (W : Int) (H : Int) s).2 = (f_X12_takesCrossing m).2 ∧ ∃ c : Nat, (crW (W : Int) (H : Int) s).2 = (c : Int) ∧ c < W * H) := by
  have g1 := T_take (lo := 0) (hi := (W : Int) - 1) E h
  have E1 := g1.env E
  have g2 := T_take (lo := 0) (hi := (H : Int) - 1) E1 g1.rt
  have g := g1.tr g2
  have f3 : (f_X12_takes m 0 ((W : Int) - 1)).1 1 4 2 = (H : Int) := (g1.cs.2 1 4 2 (by decide)).trans e4
  have f4 : (f_X12_takes (f_X12_takes m 0 ((W : Int) - 1)).1 0 ((H : Int) - 1)).1 1 4 1 = (W : Int) := (g2.cs.2 1 4 1 (by decide)).trans ((g1.cs.2 1 4 1 (by decide)).trans e3)
  have em : f_X12_takesCrossing m = ((f_X12_takes (f_X12_takes m 0 ((W : Int) - 1)).1 0 ((H : Int) - 1)).1, if (f_X12_takes (f_X12_takes m 0 ((W : Int) - 1)).1 0 ((H : Int) - 1)).1 0 0 11 = 0 then (W : Int) * (f_X12_takes (f_X12_takes m 0 ((W : Int) - 1)).1 0 ((H : Int) - 1)).2 + (f_X12_takes m 0 ((W : Int) - 1)).2 else 0) := by
    simp only [f_X12_takesCrossing, g1c_X12_takesCrossing, g2c_X12_takesCrossing, g3b_X12_takesCrossing, g4_X12_takesCrossing, g5_X12_takesCrossing, show Int.toNat 1 = 1 from rfl, show Int.toNat 2 = 2 from rfl, e3, f3, f4]
    split <;> rfl
  rw [em]
  refine g.weak2 (by decide) (fun h11 q => ?_)
  obtain ⟨⟨q1, q2, q3⟩, q4, q5, q6⟩ := q
  rw [if_pos h11, ← q1, ← q4]
  refine ⟨rfl, ?_⟩
  unfold crW
  generalize (bF 0 ((W : Int) - 1) s).2 = r1 at *
  generalize (bF 0 ((H : Int) - 1) (bF 0 ((W : Int) - 1) s).1).2 = r2 at *
  clear em f3 f4 g g1 g2 E1 q1 q4
  refine ⟨((W : Int) * r2 + r1).toNat, ?_, ?_⟩
  · rcases (show W = 2 ∨ W = 3 ∨ W = 4 ∨ W = 5 by omega) with rfl | rfl | rfl | rfl <;> omega
  · rcases (show W = 2 ∨ W = 3 ∨ W = 4 ∨ W = 5 by omega) with rfl | rfl | rfl | rfl <;> omega
/-- the net is laid -/
theorem Ct.laid {s m : XS} (h : Ct s m) (hl : 0 < s 0 20 5) : ∃ W H : Nat, s 0 20 5 = (W : Int) ∧ s 0 20 6 = (H : Int) ∧ m 1 4 1 = (W : Int) ∧ m 1 4 2 = (H : Int) ∧ 2 ≤ W ∧ W < 6 ∧ 2 ≤ H ∧ H < 6 := by
  obtain ⟨⟨a1, a2, ⟨n1, n2, n3, n4⟩, -⟩, -⟩ := h
  rcases n4 with ⟨q, -⟩ | ⟨w, h, q1, q2, q3, q4, q5, q6, -⟩
  · exfalso; omega
  · exact ⟨w, h, q1, q2, n1.trans q1, n2.trans q2, q3, q4, q5, q6⟩
theorem X_wall {w : WW} {s m : XS} (E : Sb (s 1 78) (m 1 3)) (h : Tk w (s 1 78) (s 0 77) (m 0 0)) (h4 : s 0 77 4 ≠ 0) (hC : Ct s m) (hl : 0 < s 0 20 5) : Gl w 1 s m (f_X5_wallLine s).1 (f_X12_readWall m).1 := by
  obtain ⟨W, H, e1, e2, e3, e4, w2, w5, h2, h5⟩ := hC.laid hl
  have g1 := T_next E h h4
  have E1 := g1.env E
  have g2 := T_cross (W := W) (H := H) E1 g1.rt w2 w5 ((g1.cs.2 1 4 1 (by decide)).trans e3) ((g1.cs.2 1 4 2 (by decide)).trans e4)
  have E2 := g2.env E1
  have g3 := T_take (lo := 0) (hi := 3) E2 g2.rt
  have g := (g1.tr g2).tr g3
  have ec : (f_X5_wallLine s).1 = (f_X0_block (bF 0 3 (crW (W : Int) (H : Int) (f_X5_advance s).1).1).1 20 (crW (W : Int) (H : Int) (f_X5_advance s).1).2 (bF 0 3 (crW (W : Int) (H : Int) (f_X5_advance s).1).1).2).1 := by
    simp only [f_X5_wallLine, g1c_X5_wallLine, g2c_X5_wallLine, g3c_X5_wallLine, bnd_c, told_x E h h4 e1 e2 (by omega)]
  have em : (f_X12_readWall m).1 = (fun a b v => if v 0 0 11 = 0 then (if (f_X12_beyond4 v a b).2 = -1 then (f_X12_beyond4 v a b).1 else xup (xup (f_X12_beyond4 v a b).1 1 4 (Int.toNat (11 + a)) (Xior ((f_X12_beyond4 v a b).1 1 4 (Int.toNat (11 + a))) (Xishl 1 b))) 1 4 (Int.toNat (11 + (f_X12_beyond4 v a b).2)) (Xior ((xup (f_X12_beyond4 v a b).1 1 4 (Int.toNat (11 + a)) (Xior ((f_X12_beyond4 v a b).1 1 4 (Int.toNat (11 + a))) (Xishl 1 b))) 1 4 (Int.toNat (11 + (f_X12_beyond4 v a b).2))) (Xishl 1 ((b + 2) % 4)))) else v) (f_X12_takesCrossing (f_X12_next m).1).2 (f_X12_takes (f_X12_takesCrossing (f_X12_next m).1).1 0 3).2 (f_X12_takes (f_X12_takesCrossing (f_X12_next m).1).1 0 3).1 := by
    simp only [f_X12_readWall, g1c_X12_readWall, g2c_X12_readWall, g3c_X12_readWall, g4b_X12_readWall, g5_X12_readWall, g6_X12_readWall, g7c_X12_readWall, g8b_X12_readWall, g9_X12_readWall, g10_X12_readWall, g11w_X12_readWall, g12w_X12_readWall]
    (repeat' split) <;> first | rfl | contradiction
  rw [ec, em]
  clear ec em
  generalize (crW (W : Int) (H : Int) (f_X5_advance s).1).2 = a1 at *
  generalize (f_X12_takesCrossing (f_X12_next m).1).2 = b1 at *
  generalize (bF 0 3 (crW (W : Int) (H : Int) (f_X5_advance s).1).1).2 = a2 at *
  generalize (f_X12_takes (f_X12_takesCrossing (f_X12_next m).1).1 0 3).2 = b2 at *
  generalize (bF 0 3 (crW (W : Int) (H : Int) (f_X5_advance s).1).1).1 = u at *
  generalize (f_X12_takes (f_X12_takesCrossing (f_X12_next m).1).1 0 3).1 = v at *
  obtain ⟨c1, c2⟩ := g.cs
  have by4 : ∀ t c k, (f_X12_beyond4 v b1 b2).1 t c k = v t c k := by
    intro t c k
    simp only [f_X12_beyond4, g1b_X12_beyond4, g2_X12_beyond4, g3_X12_beyond4, g4b_X12_beyond4, g5_X12_beyond4, g6_X12_beyond4, g7b_X12_beyond4, g8_X12_beyond4, g9_X12_beyond4, g10b_X12_beyond4, g11_X12_beyond4, g12_X12_beyond4, g13c_X12_beyond4, g14b_X12_beyond4, g15_X12_beyond4, g16_X12_beyond4, g17c_X12_beyond4, g18b_X12_beyond4, g19_X12_beyond4, g20_X12_beyond4, g21c_X12_beyond4, g22b_X12_beyond4, g23_X12_beyond4, g24_X12_beyond4, g25c_X12_beyond4, g26b_X12_beyond4, g27_X12_beyond4, g28_X12_beyond4, g29c_X12_beyond4, g30b_X12_beyond4, g31_X12_beyond4, g32_X12_beyond4, g33c_X12_beyond4, g34b_X12_beyond4, g35_X12_beyond4, g36_X12_beyond4, g37c_X12_beyond4, g38b_X12_beyond4, g39_X12_beyond4, g40_X12_beyond4, g41c_X12_beyond4, g42b_X12_beyond4, g43_X12_beyond4, g44_X12_beyond4, g45c_X12_beyond4, g46b_X12_beyond4, g47_X12_beyond4, g48_X12_beyond4, g49c_X12_beyond4, g50b_X12_beyond4, g51_X12_beyond4, g52_X12_beyond4, within_x]
    (repeat' split) <;> rfl
  have m14 : v 1 4 = m 1 4 := funext fun k => c2 1 4 k (by decide)
  refine g.gl (by decide) (fun t c k hk => ?_) (fun t c k hk => ?_) (fun q h11 hs => ?_)
  · simp only [f_X0_block, g1c_X0_block, g2b_X0_block, g3_X0_block, g4_X0_block, g5w_X0_block, g6w_X0_block, f_X0_to, g1b_X0_to, g2_X0_to, g3_X0_to]
    (repeat' split) <;> first | rfl | (dsimp only; rw [xup_c (by omega), xup_c (by omega)])
  · show (if v 0 0 11 = 0 then _ else v) t c k = v t c k
    split
    · split
      · exact by4 t c k
      · unfold xup
        rw [if_neg (fun q => hk ⟨q.1, q.2.1⟩), if_neg (fun q => hk ⟨q.1, q.2.1⟩)]
        exact by4 t c k
    · rfl
  · obtain ⟨⟨-, q1, c, q2, q3⟩, q4, q5, q6⟩ := q
    obtain ⟨d, hd⟩ : ∃ d : Nat, a2 = (d : Int) := ⟨a2.toNat, by omega⟩
    show Ct _ (if v 0 0 11 = 0 then _ else v)
    rw [if_pos h11, ← q1, ← q4, q2, hd]
    have cb := Ci_block (m' := v) hC.1 e1 e2 (by omega) q3 (show d < 4 by omega) (fun t c k z1 z2 => c1 t c k (by omega)) m14
    refine ⟨cb, ?_⟩
    have n873 : ∀ x y : XS, x = y → x 1 4 873 = y 1 4 873 := fun x y e => by rw [e]
    have e873 : (if (f_X12_beyond4 v (c : Int) (d : Int)).2 = -1 then (f_X12_beyond4 v (c : Int) (d : Int)).1 else xup (xup (f_X12_beyond4 v (c : Int) (d : Int)).1 1 4 (Int.toNat (11 + (c : Int))) (Xior ((f_X12_beyond4 v (c : Int) (d : Int)).1 1 4 (Int.toNat (11 + (c : Int)))) (Xishl 1 (d : Int)))) 1 4 (Int.toNat (11 + (f_X12_beyond4 v (c : Int) (d : Int)).2)) (Xior ((xup (f_X12_beyond4 v (c : Int) (d : Int)).1 1 4 (Int.toNat (11 + (c : Int))) (Xior ((f_X12_beyond4 v (c : Int) (d : Int)).1 1 4 (Int.toNat (11 + (c : Int)))) (Xishl 1 (d : Int)))) 1 4 (Int.toNat (11 + (f_X12_beyond4 v (c : Int) (d : Int)).2))) (Xishl 1 (((d : Int) + 2) % 4)))) 1 4 873 = m 1 4 873 := by
      have b25 : W * H ≤ 25 := by
        have : W * H ≤ 5 * 5 := Nat.mul_le_mul (by omega) (by omega)
        omega
      have bey := bey4_x (m := v) (w := W) (h := H) (c := c) (d := d) ((c2 1 4 1 (by decide)).trans e3) ((c2 1 4 2 (by decide)).trans e4) w5 w2 h5 h2 (by omega) (by omega)
      rw [bey]
      show (if beyF (W : Int) (H : Int) (c : Int) (d : Int) = -1 then v else _) 1 4 873 = _
      split
      · rw [m14]
      · rename_i hb
        have bk := bey_back W w5 H h5 c (by omega) d (by omega) w2 h2 q3 hb
        have b24 : beyF (W : Int) (H : Int) (c : Int) (d : Int) < 25 := by
          have := bk.2.1
          have z : ((W * H : Nat) : Int) ≤ 25 := by omega
          rw [Int.natCast_mul] at z
          omega
        have b0 := bk.1
        rw [xup_k (by show (873 : Nat) ≠ Int.toNat (11 + beyF (W : Int) (H : Int) (c : Int) (d : Int)); omega), xup_k (by omega)]
        show v 1 4 873 = _
        rw [m14]
    have fu : ∀ t c' k, ¬ (20 ≤ c' ∧ c' ≤ 38) → (f_X0_block u 20 (c : Int) (d : Int)).1 t c' k = u t c' k := by
      intro t c' k hk
      simp only [f_X0_block, g1c_X0_block, g2b_X0_block, g3_X0_block, g4_X0_block, g5w_X0_block, g6w_X0_block, f_X0_to, g1b_X0_to, g2_X0_to, g3_X0_to]
      (repeat' split) <;> first | rfl | (dsimp only; rw [xup_c (by omega), xup_c (by omega)])
    rw [e873, fu 0 77 5 (by omega)]
    have := hC.2
    omega
noncomputable def fM (m : XS) : XS := if (f_X12_takesCrossing (f_X12_next m).1).1 0 0 11 = 0 then xup (f_X12_takesCrossing (f_X12_next m).1).1 1 4 10 (Xior ((f_X12_takesCrossing (f_X12_next m).1).1 1 4 10) (Xishl 1 (f_X12_takesCrossing (f_X12_next m).1).2)) else (f_X12_takesCrossing (f_X12_next m).1).1
theorem X_free {w : WW} {s m : XS} (E : Sb (s 1 78) (m 1 3)) (h : Tk w (s 1 78) (s 0 77) (m 0 0)) (h4 : s 0 77 4 ≠ 0) (hC : Ct s m) (hl : 0 < s 0 20 5) : Gl w 1 s m (f_X5_freeLine s).1 (fM m) := by
  obtain ⟨W, H, e1, e2, e3, e4, w2, w5, h2, h5⟩ := hC.laid hl
  have g1 := T_next E h h4
  have E1 := g1.env E
  have g2 := T_cross (W := W) (H := H) E1 g1.rt w2 w5 ((g1.cs.2 1 4 1 (by decide)).trans e3) ((g1.cs.2 1 4 2 (by decide)).trans e4)
  have g := g1.tr g2
  have ec : (f_X5_freeLine s).1 = xup (crW (W : Int) (H : Int) (f_X5_advance s).1).1 0 20 8 (Xior ((crW (W : Int) (H : Int) (f_X5_advance s).1).1 0 20 8) (Xishl 1 (crW (W : Int) (H : Int) (f_X5_advance s).1).2)) := by
    simp only [f_X5_freeLine, g1c_X5_freeLine, g2c_X5_freeLine, f_X0_makeToldFree, g1w_X0_makeToldFree, told_x E h h4 e1 e2 (by omega)]
  rw [ec]
  unfold fM
  generalize (crW (W : Int) (H : Int) (f_X5_advance s).1).2 = a1 at *
  generalize (f_X12_takesCrossing (f_X12_next m).1).2 = b1 at *
  generalize (crW (W : Int) (H : Int) (f_X5_advance s).1).1 = u at *
  generalize (f_X12_takesCrossing (f_X12_next m).1).1 = v at *
  obtain ⟨c1, c2⟩ := g.cs
  refine g.gl (by decide) (fun t c k hk => ?_) (fun t c k hk => ?_) (fun q h11 hs => ?_)
  · unfold xup; rw [if_neg (fun q => hk (by omega))]
  · split
    · unfold xup; rw [if_neg (fun q => hk ⟨q.1, q.2.1⟩)]
    · rfl
  · obtain ⟨-, q1, c, q2, q3⟩ := q
    rw [if_pos h11, ← q1]
    have z : u 0 20 8 = v 1 4 10 := by
      rw [c1 0 20 8 (by decide), c2 1 4 10 (by decide)]
      exact hC.1.2.1.symm
    refine ⟨Ci_free (v := Xior (v 1 4 10) (Xishl 1 a1)) hC.1 (fun t c k z1 z2 z3 => ?_) (by rw [xup_s, z]) xup_s (fun k hk => ?_), ?_⟩
    · unfold xup; rw [if_neg z3]; exact c1 t c k (by omega)
    · rw [xup_k hk]; exact c2 1 4 k (by decide)
    · rw [xup_k (by decide), xup_c (by decide), c2 1 4 873 (by decide)]
      have := hC.2
      omega
noncomputable def uM (m : XS) : XS := if (f_X12_takes (f_X12_next m).1 0 999).1 0 0 11 = 0 then xup (f_X12_takes (f_X12_next m).1 0 999).1 1 4 111 (f_X12_takes (f_X12_next m).1 0 999).2 else (f_X12_takes (f_X12_next m).1 0 999).1
theorem X_hour {w : WW} {s m : XS} (E : Sb (s 1 78) (m 1 3)) (h : Tk w (s 1 78) (s 0 77) (m 0 0)) (h4 : s 0 77 4 ≠ 0) (hC : Ct s m) : Gl w 1 s m (xup (bF 0 999 (f_X5_advance s).1).1 0 29 8 (bF 0 999 (f_X5_advance s).1).2) (uM m) := by
  have g1 := T_next E h h4
  have E1 := g1.env E
  have g2 := T_take (lo := 0) (hi := 999) E1 g1.rt
  have g := g1.tr g2
  unfold uM
  generalize (bF 0 999 (f_X5_advance s).1).2 = a1 at *
  generalize (f_X12_takes (f_X12_next m).1 0 999).2 = b1 at *
  generalize (bF 0 999 (f_X5_advance s).1).1 = u at *
  generalize (f_X12_takes (f_X12_next m).1 0 999).1 = v at *
  obtain ⟨c1, c2⟩ := g.cs
  refine g.gl (by decide) (fun t c k hk => ?_) (fun t c k hk => ?_) (fun q h11 hs => ?_)
  · unfold xup; rw [if_neg (fun q => hk (by omega))]
  · split
    · unfold xup; rw [if_neg (fun q => hk ⟨q.1, q.2.1⟩)]
    · rfl
  · obtain ⟨-, q1, -, -⟩ := q
    rw [if_pos h11, ← q1]
    refine ⟨Ci_hour (v := a1) hC.1 (fun t c k z1 z2 z3 => ?_) xup_s xup_s (fun k hk => ?_), ?_⟩
    · unfold xup; rw [if_neg z3]; exact c1 t c k (by omega)
    · rw [xup_k hk]; exact c2 1 4 k (by decide)
    · rw [xup_k (by decide), xup_c (by decide), c2 1 4 873 (by decide)]
      have := hC.2
      omega
