/-! the loop over lines -/
theorem Tk.fin {w : WW} {T x y : Nat → Int} (h : Tk w T x y) : x 4 = 0 ↔ y 9 = 24 := by
  rcases h.2.2.1 with z | z | z | z
  · exact ⟨fun _ => z.2, fun _ => z.1⟩
  · constructor <;> intro q <;> omega
  · constructor <;> intro q <;> omega
  · constructor
    · intro q
      have := z.1
      omega
    · intro q
      rcases kd_in z.1 with t | t | t | t | t | t | t | t | t | t | t | t <;> omega
noncomputable def stC (s : XS) : XS := xup (f_X5_sign (f_X5_line s).1 59).1 0 20 7 (Xiadd ((f_X5_sign (f_X5_line s).1 59).1 0 20 7) 1)
noncomputable def smM (v : XS) : XS := if v 0 0 11 = 0 ∧ v 0 0 9 = 30 then (f_X12_next v).1 else (f_X12_fails v 2).1
noncomputable def stM (m : XS) : XS := xup (smM (f_X12_readLine m).1) 1 4 0 (Xiadd (smM (f_X12_readLine m).1 1 4 0) 1)
theorem X_step {w : WW} {s m : XS} (E : Sb (s 1 78) (m 1 3)) (h : Tk w (s 1 78) (s 0 77) (m 0 0)) (hC : Ct s m) : FrL s (stC s) ∧ FrN m (stM m) ∧ ((Tk w (stC s 1 78) (stC s 0 77) (stM m 0 0) ∧ Ct (stC s) (stM m) ∧ s 0 77 5 + 2 ≤ stC s 0 77 5) ∨ Dead (stC s 0 77) (stM m 0 0)) := by
  obtain ⟨f1, f2, r⟩ := X_line E h hC
  unfold stC stM
  generalize (f_X5_line s).1 = u at *
  generalize (f_X12_readLine m).1 = v at *
  have e78 : u 1 78 = s 1 78 := funext fun k => f1 1 78 k (by omega) (by omega) (by omega)
  have e3 : v 1 3 = m 1 3 := funext fun k => f2 1 3 k (by omega) (by omega)
  have E2 : Sb (u 1 78) (v 1 3) := by rw [e78, e3]; exact E
  have rt : Rt w (u 1 78) (u 0 77) (v 0 0) := by
    rw [e78]
    rcases r with r | r
    · exact Or.inl r.1
    · exact Or.inr r
  have g : Gt w u v (f_X5_sign u 59).1 (smM v) 1 True := T_sign (c := 59) (k := 30) (Or.inl ⟨rfl, rfl⟩) E2 rt
  generalize (f_X5_sign u 59).1 = u' at *
  generalize smM v = v' at *
  obtain ⟨g1, g2⟩ := g.fr
  obtain ⟨c1, c2⟩ := g.cs
  have x77 : xup u' 0 20 7 (Xiadd (u' 0 20 7) 1) 0 77 = u' 0 77 := funext fun k => xup_c (by decide)
  have x78 : xup u' 0 20 7 (Xiadd (u' 0 20 7) 1) 1 78 = u' 1 78 := funext fun k => xup_c (by decide)
  have y0 : xup v' 1 4 0 (Xiadd (v' 1 4 0) 1) 0 0 = v' 0 0 := funext fun k => xup_c (by decide)
  refine ⟨(f1.tr g1).tr (fun t c k _ _ q => xup_c (by omega)), (f2.tr g2).tr (fun t c k _ q => by unfold xup; rw [if_neg (fun z => q ⟨z.1, z.2.1⟩)]), ?_⟩
  rw [x77, x78, y0]
  rcases r with ⟨r1, r2, r3⟩ | r
  · have gt := g.rt
    obtain ⟨x, y, e1, e2, fx, fy, q⟩ := g
    rcases q with ⟨q1, q2, q3, -⟩ | q
    · have a5 : u' 0 77 5 = x 5 := by rw [e1, put_at]
      have z0 : u' 0 20 7 = u 0 20 7 := c1 0 20 7 (by decide)
      have z1 : v' 1 4 0 = v 1 4 0 := c2 1 4 0 (by decide)
      have a0 : v 1 4 0 = u 0 20 7 := r2.1.1
      refine Or.inl ⟨?_, ⟨Ci_lines (v := Xiadd (u 0 20 7) 1) r2.1 (fun t c k z2 z3 z4 => ?_) (by rw [xup_s, z0]) (by rw [xup_s, z1, a0]) (fun k hk => ?_), ?_⟩, by omega⟩
      · rcases gt with gt | gt
        · exact gt
        · exfalso
          have k1 := q1.1.1
          have k2 := gt.1
          rw [e1, put_at] at k2
          exact k2 k1
      · unfold xup; rw [if_neg z4]; exact c1 t c k (by omega)
      · rw [xup_k hk]; exact c2 1 4 k (by decide)
      · rw [xup_k (by decide), x77, c2 1 4 873 (by decide), a5]
        have := r2.2
        omega
    · refine Or.inr ?_
      rw [e1, e2, put_at, put_at]
      exact q
  · refine Or.inr ?_
    rcases g.rt with gt | gt
    · exfalso
      obtain ⟨x, y, e1, e2, fx, fy, q⟩ := g
      have k1 := gt.1.1
      rw [e1, put_at] at k1
      rcases q with ⟨q1, q2, q3, -⟩ | q
      · exact r.1 q2.1.1
      · exact q.1 k1
    · exact gt
theorem rd_c (n : Nat) (s : XS) (i : Int) : L8_X5_read (n + 1) s i = if i < 900 ∧ s 0 77 4 ≠ 0 then L8_X5_read n (stC s) (i + 1) else (s, s 0 77 8) := by
  show g9l_X5_read (L8_X5_read n) s i = _
  simp only [g9l_X5_read, g10b_X5_read, g11_X5_read, g12_X5_read, g13b_X5_read, g14_X5_read, g15_X5_read, g16c_X5_read, g17c_X5_read, g18w_X5_read]
  by_cases c : i < 900
  · by_cases d : s 0 77 4 = 0
    · rw [if_pos c, if_pos d, if_neg (fun q => q.2 d)]
    · rw [if_pos c, if_neg d, if_pos ⟨c, d⟩]
      rfl
  · rw [if_neg c, if_neg (fun q => c q.1)]
theorem rd_m (n : Nat) (m : XS) : L12_X12_city (n + 1) m = if m 0 0 11 = 0 then (if m 0 0 9 = 24 then g20_X12_city m else L12_X12_city n (stM m)) else g15_X12_city m := by
  show g13l_X12_city (L12_X12_city n) m = _
  simp only [g13l_X12_city, g14b_X12_city, g16_X12_city, g19b_X12_city, g21_X12_city, g30c_X12_city, g31c_X12_city, g32b_X12_city, g33_X12_city, g34_X12_city, g35w_X12_city, g36c_X12_city, g37w_X12_city, eats_x]
  by_cases c : m 0 0 11 = 0
  · rw [if_pos c, if_pos c]
    by_cases d : m 0 0 9 = 24
    · rw [if_pos d, if_pos d]
    · rw [if_neg d, if_neg d]
      unfold stM smM
      generalize (f_X12_readLine m).1 = v
      by_cases e : v 0 0 11 = 0 ∧ v 0 0 9 = 30
      · simp only [if_pos e, n10, if_false]
        rfl
      · simp only [if_neg e, if_true]
        rfl
  · rw [if_neg c, if_neg c]
def Rdn (s m u v : XS) (r : XR) : Prop := FrL s u ∧ FrN m v ∧ ((Ct u v ∧ u 0 77 8 = 0 ∧ v 0 0 11 = 0 ∧ u 0 77 9 = -1 ∧ r = g20_X12_city v) ∨ (u 0 77 8 ≠ 0 ∧ v 0 0 11 = u 0 77 8 ∧ v 0 0 12 = u 0 77 9 ∧ r = g15_X12_city v))
theorem Rd_dead {s m : XS} (h : Dead (s 0 77) (m 0 0)) (nM nC : Nat) (i : Int) : ∃ u v, L8_X5_read (nC + 1) s i = (u, u 0 77 8) ∧ Rdn s m u v (L12_X12_city (nM + 2) m) := by
  obtain ⟨h8, h4, q⟩ := h
  have e1 : L8_X5_read (nC + 1) s i = (s, s 0 77 8) := by
    rw [rd_c, if_neg (fun q => q.2 h4)]
  rcases q with ⟨q1, q2⟩ | ⟨q1, q2, q3, q4⟩
  · refine ⟨s, m, e1, FrL.rf, FrN.rf, Or.inr ⟨h8, q1, q2, ?_⟩⟩
    rw [rd_m, if_neg (by omega)]
  · have e2 : (f_X12_readLine m).1 = (f_X12_fails m 2).1 := rl_n (by omega) (by omega) (by omega) (by omega) (by omega) (by omega) (by omega)
    have f11 := fails_11 (m := m) (k := 2) (by decide)
    have e3 : smM (f_X12_readLine m).1 = (f_X12_fails m 2).1 := by
      unfold smM
      rw [e2, if_neg (fun q => f11 q.1), fails_d f11]
    have e4 : stM m 0 0 = failM 2 (m 0 0) := by
      unfold stM
      rw [e3, fails_x]
      funext k
      rw [xup_c (by decide)]
      show pO 0 m (failM 2 (m 0 0)) 0 0 k = _
      rw [put_at]
    have e11 : stM m 0 0 11 = 1 := by
      rw [e4]
      unfold failM
      rw [if_pos q1, if_pos q2]
      rfl
    have e12 : stM m 0 0 12 = m 0 0 6 := by
      rw [e4]
      unfold failM
      rw [if_pos q1]
      rfl
    have fn : FrN m (stM m) := by
      intro t c k z1 z2
      unfold stM
      rw [e3, fails_x]
      have z3 : ∀ v, xup (pO 0 m (failM 2 (m 0 0))) 1 4 0 v t c k = pO 0 m (failM 2 (m 0 0)) t c k := fun v => by
        unfold xup
        rw [if_neg (fun q => z2 ⟨q.1, q.2.1⟩)]
      show xup (pO 0 m (failM 2 (m 0 0))) 1 4 0 _ t c k = _
      rw [z3]
      by_cases e : t = 0 ∧ c = 0
      · obtain ⟨rfl, rfl⟩ := e
        rw [put_at]
        exact failM_fr k (fun q => z1 ⟨rfl, rfl, q⟩)
      · rw [put_n e]
    refine ⟨s, stM m, e1, FrL.rf, fn, Or.inr ⟨h8, by rw [e11, q3], by rw [e12, q4], ?_⟩⟩
    rw [show nM + 2 = (nM + 1) + 1 from rfl, rd_m, if_pos q1, if_neg (by omega), rd_m, if_neg (by omega)]
theorem Rd_loop {w : WW} : ∀ (nM nC : Nat) (i : Int) (s m : XS), Sb (s 1 78) (m 1 3) → Tk w (s 1 78) (s 0 77) (m 0 0) → Ct s m → 2 * (900 - s 0 77 5) + 2 ≤ (nM : Int) → (nC : Int) = 901 - i → i ≤ s 0 77 5 → ∃ u v, L8_X5_read nC s i = (u, u 0 77 8) ∧ Rdn s m u v (L12_X12_city nM m) := by
  intro nM
  induction nM with
  | zero =>
    intro nC i s m E h hC h1 h2 h3
    obtain ⟨-, -, -, b1, b2, b3, b4, -, -⟩ := h
    exfalso; omega
  | succ nM ih =>
    intro nC i s m E h hC h1 h2 h3
    have fin := h.fin
    have ok := h.1
    obtain ⟨b1, b2, b3, b4, b5, -⟩ := h.2.2.2
    obtain ⟨n, rfl⟩ : ∃ n, nC = n + 1 := ⟨nC - 1, by omega⟩
    by_cases c : s 0 77 4 = 0
    · refine ⟨s, m, ?_, FrL.rf, FrN.rf, Or.inl ⟨hC, ok.1, ok.2.1, ok.2.2.2.2.2.2.2.2, ?_⟩⟩
      · rw [rd_c, if_neg (fun q => q.2 c)]
      · rw [rd_m, if_pos ok.2.1, if_pos (fin.mp c)]
    · have l := b5 c
      have nf : ¬ m 0 0 9 = 24 := fun q => c (fin.mpr q)
      rw [rd_c, if_pos ⟨by omega, c⟩, rd_m, if_pos ok.2.1, if_neg nf]
      obtain ⟨f1, f2, r⟩ := X_step E h hC
      have e78 : stC s 1 78 = s 1 78 := funext fun k => f1 1 78 k (by omega) (by omega) (by omega)
      have e3 : stM m 1 3 = m 1 3 := funext fun k => f2 1 3 k (by omega) (by omega)
      have E2 : Sb (stC s 1 78) (stM m 1 3) := by rw [e78, e3]; exact E
      have go : ∃ u v, L8_X5_read n (stC s) (i + 1) = (u, u 0 77 8) ∧ Rdn (stC s) (stM m) u v (L12_X12_city nM (stM m)) := by
        rcases r with ⟨r1, r2, r3⟩ | r
        · exact ih n (i + 1) (stC s) (stM m) E2 r1 r2 (by omega) (by omega) (by omega)
        · obtain ⟨a, rfl⟩ : ∃ a, n = a + 1 := ⟨n - 1, by omega⟩
          obtain ⟨b, rfl⟩ : ∃ b, nM = b + 2 := ⟨nM - 2, by omega⟩
          exact Rd_dead r b a (i + 1)
      obtain ⟨u, v, g1, g2, g3, g4⟩ := go
      exact ⟨u, v, g1, f1.tr g2, f2.tr g3, g4⟩
