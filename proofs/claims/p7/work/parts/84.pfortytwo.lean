/-! walk: both -/
theorem walk_x {B : Int} {w h : Nat} {s m : XS} (H : CS B w h s m) (hB : B ≤ 900000) (R : Rg s m) (hT : ∀ t, t < 4 → Tr s m t) {a1 : Int} : (f_X11_walk s a1).2 = (f_X12_walk m a1).2 ∧ (∃ B', B ≤ B' ∧ B' ≤ B + 40 ∧ CS B' w h (f_X11_walk s a1).1 (f_X12_walk m a1).1) ∧ Rg (f_X11_walk s a1).1 (f_X12_walk m a1).1 ∧ FdC (f_X11_walk s a1).1 s ∧ FdM (f_X12_walk m a1).1 m ∧ ((f_X11_walk s a1).1 0 79 4 = 0 ∨ ((f_X11_walk s a1).1 0 79 4 = s 0 79 4 ∧ rA ((f_X12_walk m a1).1 1 1) = rA (m 1 1))) ∧ (RB B (w * h) m → RB B (w * h) (f_X12_walk m a1).1) := by
  obtain ⟨m0, hm0⟩ : ∃ m0, m0 = xup m 0 0 0 0 := ⟨_, rfl⟩
  have m0o : ∀ t c k, ¬ (t = 0 ∧ c = 0 ∧ k = 0) → m0 t c k = m t c k := fun t c k q => by rw [hm0]; exact thr_f q
  have m0r : m0 1 1 = m 1 1 := funext fun k => m0o 1 1 k (by omega)
  have fm0 : FdM m0 m := by rw [hm0]; exact FdM.thr
  have H0 : CS B w h s m0 := H.fr FrA.rf m0r
  have R0 : Rg s m0 := R.same rfl rfl (fun _ _ _ _ _ => rfl) (by rw [m0r]) (fun k _ _ => by rw [m0r])
  have ec : f_X11_walk s a1 = if 0 ≤ a1 ∧ a1 ≤ 3 then (if s 0 (107 + 2 * a1.toNat) 2 < 0 then (s, -6) else g6_X11_walk s a1) else (s, -2) := by
    simp only [f_X11_walk, g1c_X11_walk, g2b_X11_walk, g3_X11_walk, g4_X11_walk, g5b_X11_walk, g7_X11_walk, istC_x]
    by_cases z1 : 0 ≤ a1 ∧ a1 ≤ 3
    · rw [if_pos z1, if_neg (show ¬ (1 : Int) = 0 by decide), if_pos z1]
    · rw [if_neg z1, if_pos rfl, if_neg z1]
  have em : f_X12_walk m a1 = if 0 ≤ a1 ∧ a1 ≤ 3 then (if m 1 23 a1.toNat = -1 then (m0, -6) else g4_X12_walk m0 a1) else (m0, -2) := by
    simp only [f_X12_walk, g1w_X12_walk, g2c_X12_walk, g3b_X12_walk, g5_X12_walk, notr_x, ← hm0]
    by_cases z2 : 0 ≤ a1 ∧ a1 ≤ 3
    · rw [if_pos z2, if_pos z2, m0o _ _ _ (by omega)]
      by_cases z3 : m 1 23 a1.toNat = -1
      · rw [if_pos z3, if_neg (show ¬ (-6 : Int) = 0 by decide), if_pos z3]
      · rw [if_neg z3, if_pos rfl, if_neg z3]
    · rw [if_neg z2, if_neg (show ¬ (-2 : Int) = 0 by decide), if_neg z2]
  rw [ec, em]
  have none : ∀ x : Int, ((s, x) : XR).2 = ((m0, x) : XR).2 ∧ (∃ B', B ≤ B' ∧ B' ≤ B + 40 ∧ CS B' w h s m0) ∧ Rg s m0 ∧ FdC s s ∧ FdM m0 m ∧ (s 0 79 4 = 0 ∨ (s 0 79 4 = s 0 79 4 ∧ rA (m0 1 1) = rA (m 1 1))) ∧ (RB B (w * h) m → RB B (w * h) m0) := fun x => ⟨rfl, ⟨B, by omega, by omega, H0⟩, R0, FdC.rf, fm0, Or.inr ⟨rfl, by rw [m0r]⟩, fun hr => hr.row m0r⟩
  by_cases z1 : 0 ≤ a1 ∧ a1 ≤ 3
  · rw [if_pos z1, if_pos z1]
    obtain ⟨t, rfl⟩ : ∃ t : Nat, a1 = (t : Int) := ⟨a1.toNat, by omega⟩
    rw [show ((t : Int)).toNat = t from rfl]
    rcases hT t (by omega) with ⟨t1, t2⟩ | ⟨t1, -, -, -, t3, t4, t5, t6⟩
    · rw [if_pos (show s 0 (107 + 2 * t) 2 < 0 by omega), if_pos t1]
      exact none _
    · rw [if_neg (show ¬ s 0 (107 + 2 * t) 2 < 0 by omega), if_neg t1]
      obtain ⟨c1, c2, c3⟩ := fcopy_x s (d := 199) (e := 10) (by omega)
      obtain ⟨s1, hs1⟩ : ∃ s1, s1 = (f_X1_copy s 199 10).1 := ⟨_, rfl⟩
      rw [← hs1] at c1 c2 c3
      have k1 := keeps_x m0
      obtain ⟨mk, hmk⟩ : ∃ mk, mk = (f_X12_keeps m0).1 := ⟨_, rfl⟩
      rw [← hmk] at k1
      have mkr : ∀ j, mk 1 1 j = m 1 1 j := fun j => by rw [k1, if_neg (by omega), m0o _ _ _ (by omega)]
      have H1 : CS B w h s1 mk := (H0.cls (fun t c k _ _ => c3 t c k (by unfold inF; omega))).fr FrA.rf (funext fun k => (mkr k).trans (by rw [m0r]))
      obtain ⟨u, v, g, k, l, i1, i2, i3, -, -, -, -, ⟨B', i8, i9, i10⟩, i11, i12, i13, -⟩ := wk_x H1 hB (t := t) (by omega) ⟨t4, t5⟩ (by rw [c3 _ _ _ (by unfold inF; omega)]; exact t3) (by rw [k1, if_neg (by omega), m0o _ _ _ (by omega)]) (fun i hi => by rw [c3 _ _ _ (by unfold inF; omega), k1, if_neg (by omega), m0o _ _ _ (by omega)]; exact t6 i hi)
      have eg : g6_X11_walk s (t : Int) = if 0 < g then (xup (f_X11_keep u 199).1 0 79 4 0, g) else (u, g) := by
        simp only [g6_X11_walk, g8c_X11_walk, g9c_X11_walk, g10b_X11_walk, g11_X11_walk, g12_X11_walk, g13c_X11_walk, g14c_X11_walk, show Int.toNat (t : Int) = t from rfl, ← hs1, i1, forg_x]
      have eh : g4_X12_walk m0 (t : Int) = if 0 < g then ((f_X12_notes v).1, g) else (v, 0) := by
        simp only [g4_X12_walk, g6c_X12_walk, g7c_X12_walk, g8b_X12_walk, g9_X12_walk, g10_X12_walk, g11c_X12_walk, ← hmk, i2]
      rw [eg, eh]
      have u0 : ∀ t c k, ¬ (t = 1 ∧ (c = 4 ∨ c = 5 ∨ c = 8 ∨ c = 9 ∨ (11 ≤ c ∧ c ≤ 17) ∨ c = 207)) → ¬ (t = 0 ∧ c = 10 ∧ k = 8) → ¬ inF 199 c → u t c k = s t c k := fun t c k q1 q2 q3 => (i11 t c k q1 q2).trans (c3 t c k q3)
      have v0 : ∀ t c k, ¬ (t = 1 ∧ c = 1 ∧ 36 ≤ k ∧ k ≤ 111) → ¬ (t = 1 ∧ (c = 5 ∨ c = 6)) → ¬ (t = 0 ∧ c = 0 ∧ (k = 0 ∨ k = 17 ∨ k = 18)) → v t c k = m t c k := fun t c k q1 q2 q3 => by
        rw [i12 t c k q1 (by omega) (by omega), k1, if_neg (by omega), m0o t c k (by omega)]
      have Ru : Rg u v := R.same (u0 _ _ _ (by omega) (by omega) (by unfold inF; omega)) (u0 _ _ _ (by omega) (by omega) (by unfold inF; omega)) (fun t c k q1 q2 => u0 _ _ _ (by omega) (by omega) (by unfold inF; omega)) (v0 _ _ _ (by omega) (by omega) (by omega)) (fun k q1 q2 => v0 _ _ _ (by omega) (by omega) (by omega))
      have v3 : v 1 1 3 = m 1 1 3 := v0 _ _ _ (by omega) (by omega) (by omega)
      by_cases zg : 0 < g
      · rw [if_pos zg, if_pos zg]
        have hp : u 0 199 7 = v 1 1 3 := by
          rw [i11 _ _ _ (by omega) (by omega), c1, v3]
          exact H.pl.1.symm
        have hw : Fw (v 1 1 3) (rwC u 199) (v 1 6) := by
          rw [v3, rwC_same (s := s1) (fun t c k q1 q2 => i11 t c k (by omega) (by omega))]
          intro j hj
          have q := H.fw j hj
          rw [c2 j hj.1, q, i12 _ _ _ (by omega) (by omega) (by omega), k1, if_pos ⟨rfl, rfl, hj.1⟩, m0o _ _ _ (by omega)]
          rfl
        obtain ⟨n1, n2, n3⟩ := keep_x (e := 199) (Or.inr (by decide)) Ru hp hw
        have rbn : RB B (w * h) m → RB B (w * h) (f_X12_notes v).1 := fun hr => by
          obtain ⟨f, n, -, -, -, a4, a5, -⟩ := R
          refine notes_rb (n := n) ((v0 _ _ _ (by omega) (by omega) (by omega)).trans a5) a4 (by rw [v3]; exact H.pl.2.2.1) (hr.same v3 H.pl.2.2.1 (fun k q1 q2 => v0 _ _ _ (by omega) (by omega) (by omega)) (by rw [a5]; omega)) ?_
          rw [v3]
          refine H.2.2.2.2.1.same (fun k hk => ?_) H.pl.2.2.1
          rw [i12 _ _ _ (by omega) (by omega) (by omega), k1, if_pos ⟨rfl, rfl, hk.1⟩, m0o _ _ _ (by omega)]
          rfl
        generalize (f_X11_keep u 199).1 = x at *
        generalize (f_X12_notes v).1 = y at *
        have xo : ∀ t c k, ¬ (t = 0 ∧ c = 79 ∧ k = 4) → xup x 0 79 4 0 t c k = x t c k := fun t c k q => by
          unfold xup
          exact if_neg q
        refine ⟨rfl, ⟨B', i8, i9, ?_⟩, ?_, fun t c k q1 q2 q3 q4 q5 q6 => ?_, fun t c k q1 q2 q3 => ?_, Or.inl (show xup x 0 79 4 0 0 79 4 = 0 from xup_s), rbn⟩
        · show CS B' w h (xup x 0 79 4 0) y
          exact (i10.cls (fun t c k y1 y2 => (xo t c k (by omega)).trans (n2 t c k (by omega) (by omega)))).row (fun k hk => n3 _ _ _ (by omega))
        · show Rg (xup x 0 79 4 0) y
          exact n1.same (xo _ _ _ (by omega)) (xo _ _ _ (by omega)) (fun t c k y1 y2 => xo t c k (by omega)) rfl (fun _ _ _ => rfl)
        · show xup x 0 79 4 0 t c k = s t c k
          rw [xo t c k q5, n2 t c k q3 (by omega)]
          exact u0 t c k (by omega) q2 (by unfold inF; omega)
        · show y t c k = m t c k
          rw [n3 t c k (by omega)]
          exact v0 t c k (by omega) (by omega) (by omega)
      · rw [if_neg zg, if_neg zg]
        have g0 : g = 0 := by omega
        refine ⟨g0, ⟨B', i8, i9, i10⟩, Ru, fun t c k q1 q2 q3 q4 q5 q6 => u0 t c k (by omega) q2 (by unfold inF; omega), fun t c k q1 q2 q3 => v0 t c k (by omega) (by omega) (by omega), Or.inr ⟨u0 _ _ _ (by omega) (by omega) (by unfold inF; omega), ?_⟩, fun hr => ?_⟩
        · show rA (v 1 1) = rA (m 1 1)
          rw [i13 g0]
          funext k
          exact mkr _
        · obtain ⟨f, n, -, -, -, a4, a5, -⟩ := R
          exact hr.same v3 H.pl.2.2.1 (fun k q1 q2 => v0 _ _ _ (by omega) (by omega) (by omega)) (by rw [a5]; omega)
  · rw [if_neg z1, if_neg z1]
    exact none _
