/-! tokens alone: both readers -/
def Tk (w : WW) (T x y : Nat → Int) : Prop := Ok w x y ∧ x 5 = y 6 ∧ Kk T x y ∧ Bd x
def Rt (w : WW) (T x y : Nat → Int) : Prop := Tk w T x y ∨ Dead x y
def Fx (x x' : Nat → Int) : Prop := (∀ k, ¬ (4 ≤ k ∧ k ≤ 9) → x' k = x k) ∧ x 5 ≤ x' 5
def Fy (y y' : Nat → Int) : Prop := ∀ k, ¬ tkM k → y' k = y k
theorem Rt.rk {w : WW} {T x y : Nat → Int} (h : Rt w T x y) : Rk T w x y := by
  rcases h with h | h
  · exact Or.inl ⟨h.1, h.2.1, h.2.2.1⟩
  · exact Or.inr h
theorem Rt.ok {w : WW} {T x y : Nat → Int} (h : Rt w T x y) (h1 : y 11 = 0) (h2 : y 9 ≠ 25) : Tk w T x y := by
  rcases h with h | ⟨h8, h4, hD⟩
  · exact h
  · exfalso; omega
/-- both have read on, by tokens alone; Q: what is known where no fault stands -/
def Gt (w : WW) (s m u v : XS) (k : Int) (Q : Prop) : Prop := ∃ x' y', u = pO 77 s x' ∧ v = pO 0 m y' ∧ Fx (s 0 77) x' ∧ Fy (m 0 0) y' ∧ ((Tk w (s 1 78) x' y' ∧ Tk w (s 1 78) (s 0 77) (m 0 0) ∧ s 0 77 5 + k ≤ x' 5 ∧ Q) ∨ Dead x' y')
theorem Gt.weak {w : WW} {s m u v : XS} {k k' : Int} {Q Q' : Prop} (g : Gt w s m u v k Q) (hk : k' ≤ k) (h : Q → Q') : Gt w s m u v k' Q' := by
  obtain ⟨x, y, e1, e2, fx, fy, r⟩ := g
  refine ⟨x, y, e1, e2, fx, fy, ?_⟩
  rcases r with ⟨r1, r2, r3, r4⟩ | r
  · exact Or.inl ⟨r1, r2, by omega, h r4⟩
  · exact Or.inr r
theorem Gt.rf {w : WW} {s m : XS} (h : Rt w (s 1 78) (s 0 77) (m 0 0)) : Gt w s m s m 0 True := by
  refine ⟨s 0 77, m 0 0, put_id.symm, put_id.symm, ⟨fun _ _ => rfl, Int.le_refl _⟩, fun _ _ => rfl, ?_⟩
  rcases h with h | h
  · exact Or.inl ⟨h, h, by omega, trivial⟩
  · exact Or.inr h
theorem Gt.rt {w : WW} {s m u v : XS} {k : Int} {Q : Prop} (g : Gt w s m u v k Q) : Rt w (u 1 78) (u 0 77) (v 0 0) := by
  obtain ⟨x, y, rfl, rfl, fx, fy, r⟩ := g
  rw [put_at, put_at, put_1]
  rcases r with r | r
  · exact Or.inl r.1
  · exact Or.inr r
theorem Gt.env {w : WW} {s m u v : XS} {k : Int} {Q : Prop} (g : Gt w s m u v k Q) (E : Sb (s 1 78) (m 1 3)) : Sb (u 1 78) (v 1 3) := by
  obtain ⟨x, y, rfl, rfl, fx, fy, r⟩ := g
  rw [put_1, put_1]; exact E
theorem Gt.cs {w : WW} {s m u v : XS} {k : Int} {Q : Prop} (g : Gt w s m u v k Q) : (∀ t c j, c ≠ 77 → u t c j = s t c j) ∧ (∀ t c j, c ≠ 0 → v t c j = m t c j) := by
  obtain ⟨x, y, rfl, rfl, fx, fy, r⟩ := g
  exact ⟨fun t c j h => by rw [put_n (fun q => h q.2)], fun t c j h => by rw [put_n (fun q => h q.2)]⟩
theorem Gt.tr {w : WW} {s m u v u' v' : XS} {k k' : Int} {Q Q' : Prop} (g : Gt w s m u v k Q) (g' : Gt w u v u' v' k' Q') : Gt w s m u' v' (k + k') (Q ∧ Q') := by
  obtain ⟨x, y, rfl, rfl, fx, fy, r⟩ := g
  obtain ⟨x', y', rfl, rfl, fx', fy', r'⟩ := g'
  rw [put_at] at fx' fy'
  rw [put_at, put_at, put_1] at r'
  refine ⟨x', y', put_put, put_put, ⟨fun j hj => (fx'.1 j hj).trans (fx.1 j hj), Int.le_trans fx.2 fx'.2⟩, fun j hj => (fy' j hj).trans (fy j hj), ?_⟩
  rcases r' with ⟨t1, t2, t3, t4⟩ | r'
  · rcases r with ⟨r1, r2, r3, r4⟩ | r
    · exact Or.inl ⟨t1, r2, by omega, r4, t4⟩
    · exact absurd t2.1.1 r.1
  · exact Or.inr r'
/-- where both stand without a fault behind, they did so ahead -/
theorem Gt.back {w : WW} {s m u v : XS} {k : Int} {Q : Prop} (g : Gt w s m u v k Q) (h : Rt w (s 1 78) (s 0 77) (m 0 0)) (hv : v 0 0 11 = 0) (h9 : v 0 0 9 ≠ 25) : Tk w (s 1 78) (s 0 77) (m 0 0) ∧ Tk w (u 1 78) (u 0 77) (v 0 0) ∧ s 0 77 5 + k ≤ u 0 77 5 ∧ Q := by
  obtain ⟨x, y, rfl, rfl, fx, fy, r⟩ := g
  rw [put_at] at hv h9
  rw [put_at, put_at, put_1]
  rcases r with ⟨r1, r2, r3, r4⟩ | ⟨r1, r2, r3⟩
  · exact ⟨r2, r1, r3, r4⟩
  · exfalso; omega
theorem T_next {w : WW} {s m : XS} (E : Sb (s 1 78) (m 1 3)) (h : Tk w (s 1 78) (s 0 77) (m 0 0)) (h4 : s 0 77 4 ≠ 0) : Gt w s m (f_X5_advance s).1 (f_X12_next m).1 1 True := by
  obtain ⟨k1, k2, k3, b1, b2, b3, b4, b5, b6⟩ := h
  have k8 := k1.2.2.1
  have k9 := k1.2.2.2.1
  have hT : ∀ j, -128 ≤ s 1 78 j ∧ s 1 78 j ≤ 127 := fun j => by have := E j; omega
  rw [adv_x s b4 ⟨by omega, by omega⟩ hT, nxt_m m (by omega) ⟨by omega, by omega⟩]
  have r := R_adv0 E k1
  have b := Bd.adv (T := s 1 78) k1.1 ⟨b1, b2, b3, b4, b5, b6⟩
  refine ⟨advS (s 1 78) (s 0 77), nxM (m 1 3) (m 0 0), rfl, rfl, ⟨advS_fr, by have := b.2; omega⟩, nxM_fr, ?_⟩
  rcases r with ⟨r1, r2, r3⟩ | r
  · exact Or.inl ⟨⟨r1, r2, r3, b.1⟩, ⟨k1, k2, k3, b1, b2, b3, b4, b5, b6⟩, by have := b5 h4; have := b.2; omega, trivial⟩
  · exact Or.inr r
theorem T_fail {w : WW} {s m : XS} {k : Int} (hk : k ≠ 0) (h : Rt w (s 1 78) (s 0 77) (m 0 0)) : Gt w s m (f_X5_fail s k).1 (f_X12_fails m k).1 1 False := by
  rw [fail_x, fails_x]
  refine ⟨failS k (s 0 77), failM k (m 0 0), rfl, rfl, ⟨failS_fr, by rw [fail_58.2.1]; exact Int.le_refl _⟩, failM_fr, Or.inr ?_⟩
  rcases R_fail (k := k) hk h.rk with ⟨⟨q, -⟩, -⟩ | q
  · exact absurd q (failS_8 hk)
  · exact q
theorem fails_11 {m : XS} {k : Int} (hk : k ≠ 0) : (f_X12_fails m k).1 0 0 11 ≠ 0 := by
  rw [fails_x]
  show pO 0 m (failM k (m 0 0)) 0 0 11 ≠ 0
  rw [put_at]
  exact failM_11 hk
theorem fails_10 {m : XS} {k : Int} : (f_X12_fails m k).1 0 0 10 = m 0 0 10 := by
  rw [fails_x]
  show pO 0 m (failM k (m 0 0)) 0 0 10 = _
  rw [put_at]
  exact failM_10
noncomputable def bF (lo hi : Int) (s : XS) : XR := if s 0 77 4 = 2 then (if s 0 77 7 < lo ∨ hi < s 0 77 7 then ((f_X5_fail s 3).1, lo) else ((f_X5_advance s).1, s 0 77 7)) else ((f_X5_fail s 2).1, lo)
theorem bnd_a (s : XS) : f_X5_boundeda s 2 5 = bF 2 5 s := by
  simp only [f_X5_boundeda, g1b_X5_boundeda, g2_X5_boundeda, g3_X5_boundeda, g4b_X5_boundeda, g5_X5_boundeda, g6_X5_boundeda, g7c_X5_boundeda, g8b_X5_boundeda, g9_X5_boundeda, g10_X5_boundeda, g11c_X5_boundeda, g12c_X5_boundeda, g13c_X5_boundeda]
  unfold bF
  (repeat' split) <;> first | rfl | (exfalso; omega)
theorem bnd_b (s : XS) (a : Int) : f_X5_boundedb s 0 a = bF 0 a s := by
  simp only [f_X5_boundedb, g1b_X5_boundedb, g2_X5_boundedb, g3_X5_boundedb, g4b_X5_boundedb, g5_X5_boundedb, g6_X5_boundedb, g7c_X5_boundedb, g8b_X5_boundedb, g9_X5_boundedb, g10_X5_boundedb, g11c_X5_boundedb, g12c_X5_boundedb, g13c_X5_boundedb]
  unfold bF
  (repeat' split) <;> first | rfl | (exfalso; omega)
theorem bnd_c (s : XS) : f_X5_boundedc s 0 3 = bF 0 3 s := by
  simp only [f_X5_boundedc, g1b_X5_boundedc, g2_X5_boundedc, g3_X5_boundedc, g4b_X5_boundedc, g5_X5_boundedc, g6_X5_boundedc, g7c_X5_boundedc, g8b_X5_boundedc, g9_X5_boundedc, g10_X5_boundedc, g11c_X5_boundedc, g12c_X5_boundedc, g13c_X5_boundedc]
  unfold bF
  (repeat' split) <;> first | rfl | (exfalso; omega)
theorem bnd_d (s : XS) : f_X5_boundedd s 0 99 = bF 0 99 s := by
  simp only [f_X5_boundedd, g1b_X5_boundedd, g2_X5_boundedd, g3_X5_boundedd, g4b_X5_boundedd, g5_X5_boundedd, g6_X5_boundedd, g7c_X5_boundedd, g8b_X5_boundedd, g9_X5_boundedd, g10_X5_boundedd, g11c_X5_boundedd, g12c_X5_boundedd, g13c_X5_boundedd]
  unfold bF
  (repeat' split) <;> first | rfl | (exfalso; omega)
theorem bnd_e (s : XS) : f_X5_boundede s 0 999 = bF 0 999 s := by
  simp only [f_X5_boundede, g1b_X5_boundede, g2_X5_boundede, g3_X5_boundede, g4b_X5_boundede, g5_X5_boundede, g6_X5_boundede, g7c_X5_boundede, g8b_X5_boundede, g9_X5_boundede, g10_X5_boundede, g11c_X5_boundede, g12c_X5_boundede, g13c_X5_boundede]
  unfold bF
  (repeat' split) <;> first | rfl | (exfalso; omega)
theorem takes_x (m : XS) (lo hi : Int) : f_X12_takes m lo hi = if m 0 0 11 = 0 ∧ m 0 0 9 = 23 then (if lo ≤ m 0 0 10 ∧ m 0 0 10 ≤ hi then ((f_X12_next m).1, m 0 0 10) else ((f_X12_fails m 3).1, m 0 0 10)) else ((f_X12_fails m 2).1, m 0 0 10) := by
  have f3 := fails_11 (m := m) (k := 3) (by decide)
  have f2 := fails_11 (m := m) (k := 2) (by decide)
  simp only [f_X12_takes, g1c_X12_takes, g2b_X12_takes, g3_X12_takes, g4_X12_takes, g5c_X12_takes, g6b_X12_takes, g7_X12_takes, g8_X12_takes, g9b_X12_takes, g10_X12_takes, g11_X12_takes, g12c_X12_takes, g13c_X12_takes, g14b_X12_takes, g15_X12_takes, g16_X12_takes, g17c_X12_takes, g18c_X12_takes, g19b_X12_takes, g20_X12_takes, g21_X12_takes, g22c_X12_takes, is_x, within_x]
  by_cases c : m 0 0 11 = 0 ∧ m 0 0 9 = 23
  · rw [if_pos c, if_pos c, if_neg (by decide)]
    by_cases d : lo ≤ m 0 0 10 ∧ m 0 0 10 ≤ hi
    · rw [if_pos d, if_pos d, if_neg (by decide), if_pos c.1]
    · rw [if_neg d, if_neg d, if_pos rfl, if_neg f3, fails_10]
  · rw [if_neg c, if_neg c, if_pos rfl, if_neg f2, fails_10]
theorem T_take {w : WW} {s m : XS} {lo hi : Int} (E : Sb (s 1 78) (m 1 3)) (h : Rt w (s 1 78) (s 0 77) (m 0 0)) : Gt w s m (bF lo hi s).1 (f_X12_takes m lo hi).1 1 ((bF lo hi s).2 = (f_X12_takes m lo hi).2 ∧ lo ≤ (bF lo hi s).2 ∧ (bF lo hi s).2 ≤ hi) := by
  have q := R_num h.rk
  rw [takes_x]
  unfold bF
  by_cases c : m 0 0 11 = 0 ∧ m 0 0 9 = 23
  · have c2 := q.mpr c
    have tk := h.ok c.1 (by omega)
    have en : s 0 77 7 = m 0 0 10 := by
      rcases tk.2.2.1 with z | z | z | z
      · omega
      · omega
      · exact z.2.2
      · exfalso
        have z1 := z.1
        omega
    rw [if_pos c, if_pos c2]
    by_cases d : lo ≤ m 0 0 10 ∧ m 0 0 10 ≤ hi
    · rw [if_pos d, if_neg (by omega)]
      exact (T_next E tk (by omega)).weak (Int.le_refl _) (fun _ => ⟨en, by show lo ≤ s 0 77 7; omega, by show s 0 77 7 ≤ hi; omega⟩)
    · rw [if_neg d, if_pos (by omega)]
      exact (T_fail (by decide) h).weak (Int.le_refl _) False.elim
  · rw [if_neg c, if_neg (fun x => c (q.mp x))]
    exact (T_fail (by decide) h).weak (Int.le_refl _) False.elim
theorem sign_x (s : XS) (c : Int) : (f_X5_sign s c).1 = if s 0 77 4 = c then (f_X5_advance s).1 else (f_X5_fail s 2).1 := by
  simp only [f_X5_sign, g1b_X5_sign, g2_X5_sign, g3_X5_sign, g4c_X5_sign, g5c_X5_sign]
  split <;> rfl
/-- a sign that must stand there -/
theorem T_sign {w : WW} {s m : XS} {c k : Int} (hc : (c = 59 ∧ k = 30) ∨ (c = 58 ∧ k = 31)) (E : Sb (s 1 78) (m 1 3)) (h : Rt w (s 1 78) (s 0 77) (m 0 0)) : Gt w s m (f_X5_sign s c).1 (if m 0 0 11 = 0 ∧ m 0 0 9 = k then (f_X12_next m).1 else (f_X12_fails m 2).1) 1 True := by
  have q : s 0 77 4 = c ↔ (m 0 0 11 = 0 ∧ m 0 0 9 = k) := by
    rcases hc with ⟨rfl, rfl⟩ | ⟨rfl, rfl⟩
    · exact R_sgn h.rk (Or.inl ⟨rfl, rfl⟩)
    · exact R_sgn h.rk (Or.inr (Or.inl ⟨rfl, rfl⟩))
  have hk : k = 30 ∨ k = 31 := by omega
  have hc0 : c ≠ 0 := by omega
  clear hc
  rw [sign_x]
  by_cases z : m 0 0 11 = 0 ∧ m 0 0 9 = k
  · rw [if_pos z, if_pos (q.mpr z)]
    have q2 := q.mpr z
    exact T_next E (h.ok z.1 (by omega)) (by omega)
  · rw [if_neg z, if_neg (fun x => z (q.mp x))]
    exact (T_fail (by decide) h).weak (Int.le_refl _) False.elim
/-- a word that may stand there, and its number -/
noncomputable def oC (k : Nat) (hi : Int) (s : XS) : XR := if wI (s 1 78) k (s 0 77) = 1 then bF 0 hi (f_X5_advance s).1 else (s, 0)
noncomputable def oM (k hi : Int) (m : XS) : XR := if m 0 0 11 = 0 ∧ m 0 0 9 = k then f_X12_takes (f_X12_next m).1 0 hi else (m, 0)
theorem T_opt {w : WW} {s m : XS} {q : Nat} {hi : Int} (hq : q < 21) (h0 : 0 ≤ hi) (E : Sb (s 1 78) (m 1 3)) (h : Rt w (s 1 78) (s 0 77) (m 0 0)) : Gt w s m (oC (cl q) hi s).1 (oM (q : Int) hi m).1 0 ((oC (cl q) hi s).2 = (oM (q : Int) hi m).2 ∧ 0 ≤ (oC (cl q) hi s).2 ∧ (oC (cl q) hi s).2 ≤ hi) := by
  have r := R_wd h.rk hq
  unfold oC oM
  by_cases c : m 0 0 11 = 0 ∧ m 0 0 9 = (q : Int)
  · rw [if_pos c, if_pos (r.mpr c)]
    have tk := h.ok c.1 (by omega)
    have g := T_next E tk (by intro z; exact wI_0' (by omega) (r.mpr c))
    exact (g.tr (T_take (lo := 0) (hi := hi) (g.env E) g.rt)).weak (by decide) (fun x => x.2)
  · rw [if_neg c, if_neg (fun x => c (r.mp x))]
    exact (Gt.rf h).weak (Int.le_refl _) (fun _ => ⟨rfl, Int.le_refl _, h0⟩)
theorem n01 : ((0 : Int) = 1) = False := eq_false (by decide)
/-- a heading -/
noncomputable def hM (m : XS) : XR := if m 0 0 11 = 0 ∧ 8 ≤ m 0 0 9 ∧ m 0 0 9 ≤ 11 then ((f_X12_next m).1, m 0 0 9 - 8) else ((f_X12_fails m 2).1, 0)
theorem T_head {w : WW} {s m : XS} (E : Sb (s 1 78) (m 1 3)) (h : Rt w (s 1 78) (s 0 77) (m 0 0)) : Gt w s m (f_X5_heading s).1 (hM m).1 1 ((f_X5_heading s).2 = (hM m).2 ∧ 0 ≤ (f_X5_heading s).2 ∧ (f_X5_heading s).2 ≤ 3) := by
  have w0 : wI (s 1 78) 5 (s 0 77) = 1 ↔ (m 0 0 11 = 0 ∧ m 0 0 9 = 8) := R_wd h.rk (q := 8) (by omega)
  have w1 : wI (s 1 78) 6 (s 0 77) = 1 ↔ (m 0 0 11 = 0 ∧ m 0 0 9 = 9) := R_wd h.rk (q := 9) (by omega)
  have w2 : wI (s 1 78) 7 (s 0 77) = 1 ↔ (m 0 0 11 = 0 ∧ m 0 0 9 = 10) := R_wd h.rk (q := 10) (by omega)
  have w3 : wI (s 1 78) 8 (s 0 77) = 1 ↔ (m 0 0 11 = 0 ∧ m 0 0 9 = 11) := R_wd h.rk (q := 11) (by omega)
  have e : f_X5_heading s = if wI (s 1 78) 5 (s 0 77) = 1 then ((f_X5_advance s).1, 0) else if wI (s 1 78) 6 (s 0 77) = 1 then ((f_X5_advance s).1, 1) else if wI (s 1 78) 7 (s 0 77) = 1 then ((f_X5_advance s).1, 2) else if wI (s 1 78) 8 (s 0 77) = 1 then ((f_X5_advance s).1, 3) else ((f_X5_fail s 2).1, 0) := by
    simp only [f_X5_heading, g1c_X5_heading, g2b_X5_heading, g3_X5_heading, g4_X5_heading, g5c_X5_heading, g6b_X5_heading, g7_X5_heading, g8_X5_heading, g9c_X5_heading, g10b_X5_heading, g11_X5_heading, g12_X5_heading, g13c_X5_heading, g14b_X5_heading, g15_X5_heading, g16_X5_heading, g17c_X5_heading, g18c_X5_heading, g19c_X5_heading, g20c_X5_heading, g21c_X5_heading, word_x]
    rcases wI01 (s 1 78) 5 (s 0 77) with a | a <;> rcases wI01 (s 1 78) 6 (s 0 77) with b | b <;> rcases wI01 (s 1 78) 7 (s 0 77) with c | c <;> rcases wI01 (s 1 78) 8 (s 0 77) with d | d <;> simp only [a, b, c, d, n10, n01, if_true, if_false]
  unfold hM
  by_cases c : m 0 0 11 = 0 ∧ 8 ≤ m 0 0 9 ∧ m 0 0 9 ≤ 11
  · have tk := h.ok c.1 (by omega)
    rw [if_pos c]
    rcases (show m 0 0 9 = 8 ∨ m 0 0 9 = 9 ∨ m 0 0 9 = 10 ∨ m 0 0 9 = 11 by omega) with z | z | z | z
    · have k := w0.mpr ⟨c.1, z⟩
      rw [e, if_pos k]
      exact (T_next E tk (by intro y; exact wI_0' (by omega) k)).weak (Int.le_refl _) (fun _ => ⟨by show (0 : Int) = m 0 0 9 - 8; omega, by show (0 : Int) ≤ 0; decide, by show (0 : Int) ≤ 3; decide⟩)
    · have k := w1.mpr ⟨c.1, z⟩
      rw [e, if_neg (fun x => absurd (w0.mp x).2 (by omega)), if_pos k]
      exact (T_next E tk (by intro y; exact wI_0' (by omega) k)).weak (Int.le_refl _) (fun _ => ⟨by show (1 : Int) = m 0 0 9 - 8; omega, by show (0 : Int) ≤ 1; decide, by show (1 : Int) ≤ 3; decide⟩)
    · have k := w2.mpr ⟨c.1, z⟩
      rw [e, if_neg (fun x => absurd (w0.mp x).2 (by omega)), if_neg (fun x => absurd (w1.mp x).2 (by omega)), if_pos k]
      exact (T_next E tk (by intro y; exact wI_0' (by omega) k)).weak (Int.le_refl _) (fun _ => ⟨by show (2 : Int) = m 0 0 9 - 8; omega, by show (0 : Int) ≤ 2; decide, by show (2 : Int) ≤ 3; decide⟩)
    · have k := w3.mpr ⟨c.1, z⟩
      rw [e, if_neg (fun x => absurd (w0.mp x).2 (by omega)), if_neg (fun x => absurd (w1.mp x).2 (by omega)), if_neg (fun x => absurd (w2.mp x).2 (by omega)), if_pos k]
      exact (T_next E tk (by intro y; exact wI_0' (by omega) k)).weak (Int.le_refl _) (fun _ => ⟨by show (3 : Int) = m 0 0 9 - 8; omega, by show (0 : Int) ≤ 3; decide, by show (3 : Int) ≤ 3; decide⟩)
  · rw [if_neg c, e, if_neg (fun x => c ⟨(w0.mp x).1, by have := (w0.mp x).2; omega⟩), if_neg (fun x => c ⟨(w1.mp x).1, by have := (w1.mp x).2; omega⟩), if_neg (fun x => c ⟨(w2.mp x).1, by have := (w2.mp x).2; omega⟩), if_neg (fun x => c ⟨(w3.mp x).1, by have := (w3.mp x).2; omega⟩)]
    exact (T_fail (by decide) h).weak (Int.le_refl _) False.elim
