/-! judge, walk: both -/
theorem istC_x (s : XS) (a : Int) : f_X11_isTray s a = (s, if 0 ≤ a ∧ a ≤ 3 then 1 else 0) := by
  simp only [f_X11_isTray, g1b_X11_isTray, g2_X11_isTray, g3_X11_isTray, g4b_X11_isTray, g5_X11_isTray, g6_X11_isTray]
  by_cases z : a < 0
  · rw [if_pos z, if_neg (fun q => by omega)]
  · rw [if_neg z]
    by_cases y : a < 4
    · rw [if_pos y, if_pos (show 0 ≤ a ∧ a ≤ 3 by omega)]
    · rw [if_neg y, if_neg (fun q => by omega)]
theorem ispC_x (s : XS) (p : Int) : f_X11_isPerson s p = (s, if 0 ≤ p ∧ p < s 0 10 7 then 1 else 0) := by
  simp only [f_X11_isPerson, g1b_X11_isPerson, g2_X11_isPerson, g3_X11_isPerson, g4b_X11_isPerson, g5_X11_isPerson, g6_X11_isPerson]
  by_cases z : p < 0
  · rw [if_pos z, if_neg (fun q => by omega)]
  · rw [if_neg z]
    by_cases y : p < s 0 10 7
    · rw [if_pos y, if_pos (show 0 ≤ p ∧ p < s 0 10 7 from ⟨by omega, y⟩)]
    · rw [if_neg y, if_neg (fun q => y q.2)]
theorem ispM_x (m : XS) (p : Int) : f_X12_isPerson m p = (m, if 0 ≤ p ∧ p < m 1 1 3 then 1 else 0) := by
  simp only [f_X12_isPerson, g1c_X12_isPerson, within_x, show Int.toNat 3 = 3 from rfl]
  by_cases z : 0 ≤ p ∧ p < m 1 1 3
  · rw [if_pos z, if_pos (by omega)]
  · rw [if_neg z, if_neg (by omega)]
theorem notr_x (m : XS) (a : Int) : f_X12_noTray m a = (m, if 0 ≤ a ∧ a ≤ 3 then (if m 1 23 a.toNat = -1 then -6 else 0) else -2) := by
  simp only [f_X12_noTray, g1c_X12_noTray, g2b_X12_noTray, g3_X12_noTray, g4_X12_noTray, g5b_X12_noTray, g6_X12_noTray, g7_X12_noTray, within_x]
  by_cases z : 0 ≤ a ∧ a ≤ 3
  · rw [if_pos z, if_neg (show ¬ (1 : Int) = 0 by decide), if_pos z]
    by_cases y : m 1 23 (Int.toNat a) = -1
    · rw [if_pos y, if_pos y]
    · rw [if_neg y, if_neg y]
  · rw [if_neg z, if_pos rfl, if_neg z]
theorem gw_n {s : XS} {b : Nat} {p : Int} (hp : f_X10_asSmall s b 0 = (s, p)) (h : ¬ (0 ≤ p ∧ p < s 0 10 7)) : f_X11_goWalk s b = (wkd s 0 1 (-1) 0, 0) := by
  have e1 : f_X11_goWalk s b = L6_X11_goWalk (Int.toNat (1 - 1 + 1)) s b p := by
    simp only [f_X11_goWalk, g1c_X11_goWalk, g2c_X11_goWalk, g3b_X11_goWalk, g4_X11_goWalk, hp, ispC_x]
    rw [if_neg h, if_pos rfl]
  have e2 : L6_X11_goWalk (Int.toNat (1 - 1 + 1)) s b p = if 1 < s 0 b 2 then (wkd s 0 1 (-1) 0, 0) else (wkd s 0 1 (-1) 0, 0) := rfl
  rw [e1, e2]
  split <;> rfl
theorem gw_y {s : XS} {b : Nat} {p : Int} (hp : f_X10_asSmall s b 0 = (s, p)) (h : 0 ≤ p ∧ p < s 0 10 7) : f_X11_goWalk s b = L19_X11_goWalk 40 s b p (-1) 0 0 0 1 := by
  simp only [f_X11_goWalk, g1c_X11_goWalk, g2c_X11_goWalk, g3b_X11_goWalk, g5_X11_goWalk, hp, ispC_x]
  rw [if_pos h, if_neg (show ¬ (1 : Int) = 0 by decide)]
  rfl
def tl0 (m : XS) : XS := xup (xup m 0 0 17 0) 0 0 18 0
theorem tl0_f {m : XS} : ∀ t c k, ¬ (t = 0 ∧ c = 0 ∧ (k = 17 ∨ k = 18)) → tl0 m t c k = m t c k := fun t c k q => by
  unfold tl0 xup
  rw [if_neg (fun z => q ⟨z.1, z.2.1, by omega⟩), if_neg (fun z => q ⟨z.1, z.2.1, by omega⟩)]
theorem te_x {m : XS} {t : Nat} : f_X12_tells m (t : Int) = if m 1 24 t = 0 ∨ ¬ (0 ≤ m 2 25 (40 * t) ∧ m 2 25 (40 * t) < m 1 1 3) then (xup (tl0 m) 0 0 17 1, 0) else L11_X12_tells 40 (tl0 m) (t : Int) (m 2 25 (40 * t)) 1 := by
  have i0 : Int.toNat (40 * (t : Int)) = 40 * t := by omega
  have e1 : f_X12_tells m (t : Int) = g3b_X12_tells (tl0 m) ((tl0 m) 1 24 (Int.toNat (t : Int))) (t : Int) := rfl
  rw [e1, show Int.toNat (t : Int) = t from rfl, tl0_f 1 24 t (by omega)]
  have f25 : tl0 m 2 25 (40 * t) = m 2 25 (40 * t) := tl0_f _ _ _ (by omega)
  have f3 : tl0 m 1 1 3 = m 1 1 3 := tl0_f _ _ _ (by omega)
  simp only [g3b_X12_tells, g4_X12_tells, g5_X12_tells, g6w_X12_tells, g7c_X12_tells, g8b_X12_tells, g9_X12_tells, g10_X12_tells, g23w_X12_tells, i0, ispM_x, f25, f3]
  by_cases z : m 1 24 t = 0
  · rw [if_pos z, if_pos (Or.inl z)]
  · rw [if_neg z]
    by_cases y : 0 ≤ m 2 25 (40 * t) ∧ m 2 25 (40 * t) < m 1 1 3
    · rw [if_pos y, if_neg (show ¬ (1 : Int) = 0 by decide), if_neg (fun q => q.elim z (fun k => k y))]
      rfl
    · rw [if_neg y, if_pos rfl, if_pos (Or.inr y)]
/-- a told walk gone, in both -/
theorem wk_x {B : Int} {w h t : Nat} {s m : XS} (H : CS B w h s m) (hB : B ≤ 900000) (ht : t < 4) {Z : Int} (hZ : 0 ≤ Z ∧ Z ≤ 40) (h1 : s 0 (107 + 2 * t) 2 = Z) (h2 : m 1 24 t = Z) (h3 : ∀ i : Nat, (i : Int) < Z → s 2 (108 + 2 * t) i = m 2 25 (40 * t + i)) : ∃ u v : XS, ∃ g k l : Int, f_X11_goWalk s (107 + 2 * t) = (u, g) ∧ f_X12_tells m (t : Int) = (v, g) ∧ 0 ≤ g ∧ u 1 207 1 = k ∧ v 0 0 17 = k ∧ u 1 207 3 = l ∧ v 0 0 18 = l ∧ (∃ B', B ≤ B' ∧ B' ≤ B + 40 ∧ CS B' w h u v) ∧ FwC u s ∧ FwM v m ∧ (g = 0 → rA (v 1 1) = rA (m 1 1)) ∧ ((0 < Z ∧ (0 ≤ m 2 25 (40 * t) ∧ m 2 25 (40 * t) < m 1 1 3) ∧ u 1 207 0 = (if k = 0 then -1 else g + 1) ∧ u 1 207 2 = v 1 1 (36 + (m 2 25 (40 * t)).toNat)) ∨ (¬ (0 < Z ∧ (0 ≤ m 2 25 (40 * t) ∧ m 2 25 (40 * t) < m 1 1 3)) ∧ k = 1 ∧ g = 0 ∧ u 1 207 0 = 0 ∧ u 1 207 2 = -1)) := by
  have p5 := H.pl.2.2.1
  have p1 := H.pl.1
  have asm := asm_x s (107 + 2 * t) 0
  rw [h1, show 107 + 2 * t + 1 = 108 + 2 * t by omega, show (0 : Int).toNat = 0 from rfl] at asm
  rw [te_x, h2]
  have H0 : CS B w h s (tl0 m) := H.fr FrA.rf (funext fun k => tl0_f _ _ _ (by omega))
  by_cases z : 0 < Z
  · have v0 := h3 0 (by omega)
    rw [Nat.add_zero] at v0
    rw [if_pos (show (0 : Int) ≤ 0 ∧ 0 < Z from ⟨by decide, z⟩), v0] at asm
    by_cases y : 0 ≤ m 2 25 (40 * t) ∧ m 2 25 (40 * t) < m 1 1 3
    · obtain ⟨P, hP⟩ : ∃ P : Nat, m 2 25 (40 * t) = (P : Int) := ⟨(m 2 25 (40 * t)).toNat, by omega⟩
      rw [hP] at y asm ⊢
      have es : smV (P : Int) = (P : Int) := by unfold smV; rw [if_pos (by omega)]
      rw [es] at asm
      rw [gw_y asm (by rw [← p1]; exact y), if_neg (show ¬ (Z = 0 ∨ ¬ (0 ≤ (P : Int) ∧ (P : Int) < m 1 1 3)) from fun q => q.elim (by omega) (fun k => k y))]
      obtain ⟨u, v, g, k, l, i1, i2, i3, i4, i5, i6, i7, i8, ⟨B', i9, i10, i11⟩, i12, i13, i14, i15⟩ := tl_l (w := w) (h := h) (t := t) (P := P) (Z := Z) ht hZ.2 40 1 B 0 s (tl0 m) H0 (by rw [tl0_f _ _ _ (by omega)]; exact y.2) h1 (by rw [tl0_f _ _ _ (by omega)]; exact h2) (fun i hi => by rw [tl0_f _ _ _ (by omega)]; exact h3 i hi) (by unfold tl0; rw [xup_k (by decide), xup_s]) (by unfold tl0; rw [xup_s]) (by omega) (by omega) (by omega) (by omega) (by omega) (Or.inr rfl) (by omega)
      have e1 : L19_X11_goWalk 40 s (107 + 2 * t) (P : Int) (-1) 0 0 0 1 = (u, g) := i1
      have e2 : L11_X12_tells 40 (tl0 m) (t : Int) (P : Int) 1 = (v, g) := by
        have q := i2
        rw [if_pos (show ((1 : Nat) : Int) ≤ Z by omega)] at q
        exact q
      refine ⟨u, v, g, k, l, e1, e2, by omega, i4, i7, i6, i8, ⟨B', i9, by omega, i11⟩, i12, fun t c k q1 q2 q3 => (i13 t c k q1 q2 q3).trans (tl0_f t c k q3), fun q => ?_, Or.inl ⟨z, y, i3, by rw [show ((P : Int)).toNat = P from rfl]; exact i5⟩⟩
      rw [i15 (by omega)]
      unfold rA
      funext k
      exact tl0_f _ _ _ (by omega)
    · have np : ¬ (0 ≤ smV (m 2 25 (40 * t)) ∧ smV (m 2 25 (40 * t)) < s 0 10 7) := by
        intro q
        unfold smV at q
        rw [← p1] at q
        split at q
        · exact y q
        · omega
      rw [gw_n asm np, if_pos (Or.inr y)]
      have cw := wkd_v (s := s) (st := 0) (k := 1) (a := -1) (lf := 0)
      have cf := wkd_f (s := s) (st := 0) (k := 1) (a := -1) (lf := 0)
      have mo : ∀ t c k, ¬ (t = 0 ∧ c = 0 ∧ (k = 17 ∨ k = 18)) → xup (tl0 m) 0 0 17 1 t c k = m t c k := fun t c k q => by
        rw [← tl0_f (m := m) t c k q]
        unfold xup
        exact if_neg (fun z => q ⟨z.1, z.2.1, by omega⟩)
      refine ⟨_, _, 0, 1, 0, rfl, rfl, by decide, cw.2.1, xup_s, cw.2.2.2, by rw [xup_k (by decide)]; unfold tl0; rw [xup_s], ⟨B, by omega, by omega, ?_⟩, fun t c k q1 q2 => cf t c k (by omega), fun t c k q1 q2 q3 => mo t c k q3, fun _ => ?_, Or.inr ⟨fun q => y q.2, rfl, rfl, cw.1, cw.2.2.1⟩⟩
      · exact (H.cls (fun t c k _ _ => cf t c k (by omega))).fr FrA.rf (funext fun k => mo 1 1 k (by omega))
      · unfold rA
        funext k
        exact mo _ _ _ (by omega)
  · have Z0 : Z = 0 := by omega
    rw [if_neg (fun q => z q.2)] at asm
    rw [gw_n asm (by omega), if_pos (Or.inl Z0)]
    have cw := wkd_v (s := s) (st := 0) (k := 1) (a := -1) (lf := 0)
    have cf := wkd_f (s := s) (st := 0) (k := 1) (a := -1) (lf := 0)
    have mo : ∀ t c k, ¬ (t = 0 ∧ c = 0 ∧ (k = 17 ∨ k = 18)) → xup (tl0 m) 0 0 17 1 t c k = m t c k := fun t c k q => by
      rw [← tl0_f (m := m) t c k q]
      unfold xup
      exact if_neg (fun z => q ⟨z.1, z.2.1, by omega⟩)
    refine ⟨_, _, 0, 1, 0, rfl, rfl, by decide, cw.2.1, xup_s, cw.2.2.2, by rw [xup_k (by decide)]; unfold tl0; rw [xup_s], ⟨B, by omega, by omega, ?_⟩, fun t c k q1 q2 => cf t c k (by omega), fun t c k q1 q2 q3 => mo t c k q3, fun _ => ?_, Or.inr ⟨fun q => z q.1, rfl, rfl, cw.1, cw.2.2.1⟩⟩
    · exact (H.cls (fun t c k _ _ => cf t c k (by omega))).fr FrA.rf (funext fun k => mo 1 1 k (by omega))
    · unfold rA
      funext k
      exact mo _ _ _ (by omega)
/-- judge: both -/
theorem judge_x {B : Int} {w h : Nat} {s m : XS} (H : CS B w h s m) (hB : B ≤ 900000) (R : Rg s m) (hT : ∀ t, t < 4 → Tr s m t) {a1 a2 : Int} : (f_X11_judge s a1 a2).2 = (f_X12_judge m a1 a2).2 ∧ CS B w h (f_X11_judge s a1 a2).1 (f_X12_judge m a1 a2).1 ∧ Rg (f_X11_judge s a1 a2).1 (f_X12_judge m a1 a2).1 ∧ FdC (f_X11_judge s a1 a2).1 s ∧ FdM (f_X12_judge m a1 a2).1 m ∧ (∀ k, k < 76 → rwC (f_X11_judge s a1 a2).1 10 k = rwC s 10 k) ∧ (f_X11_judge s a1 a2).1 0 79 4 = s 0 79 4 ∧ (∀ k, k < 76 → (f_X12_judge m a1 a2).1 1 1 (36 + k) = m 1 1 (36 + k)) ∧ (RB B (w * h) m → RB B (w * h) (f_X12_judge m a1 a2).1) := by
  obtain ⟨m0, hm0⟩ : ∃ m0, m0 = xup m 0 0 0 0 := ⟨_, rfl⟩
  have m0o : ∀ t c k, ¬ (t = 0 ∧ c = 0 ∧ k = 0) → m0 t c k = m t c k := fun t c k q => by rw [hm0]; exact thr_f q
  have m0r : m0 1 1 = m 1 1 := funext fun k => m0o 1 1 k (by omega)
  have fm0 : FdM m0 m := by rw [hm0]; exact FdM.thr
  have H0 : CS B w h s m0 := H.fr FrA.rf m0r
  have R0 : Rg s m0 := R.same rfl rfl (fun _ _ _ _ _ => rfl) (by rw [m0r]) (fun k _ _ => by rw [m0r])
  have ec : f_X11_judge s a1 a2 = if 0 ≤ a1 ∧ a1 ≤ 3 then (if 0 ≤ a2 ∧ a2 ≤ 3 then (if s 0 (107 + 2 * a1.toNat) 2 < 0 then (s, -6) else g12_X11_judge s a1 a2) else (s, -2)) else (s, -2) := by
    simp only [f_X11_judge, g1c_X11_judge, g2b_X11_judge, g3_X11_judge, g4_X11_judge, g5b_X11_judge, g6_X11_judge, g7_X11_judge, g8b_X11_judge, g9_X11_judge, g10_X11_judge, g11b_X11_judge, g13_X11_judge, istC_x]
    by_cases z1 : 0 ≤ a1 ∧ a1 ≤ 3
    · rw [if_pos z1, if_neg (show ¬ (1 : Int) = 0 by decide), if_pos z1]
      by_cases z2 : a2 < 0
      · rw [if_pos z2, if_neg (fun q => by omega)]
      · rw [if_neg z2]
        by_cases z3 : a2 < 4
        · rw [if_pos z3, if_pos (show 0 ≤ a2 ∧ a2 ≤ 3 by omega)]
        · rw [if_neg z3, if_neg (fun q => by omega)]
    · rw [if_neg z1, if_pos rfl, if_neg z1]
  have em : f_X12_judge m a1 a2 = if 0 ≤ a2 ∧ a2 ≤ 3 then (if 0 ≤ a1 ∧ a1 ≤ 3 then (if m 1 23 a1.toNat = -1 then (m0, -6) else g8_X12_judge m0 a1 a2) else (m0, -2)) else (m0, -2) := by
    simp only [f_X12_judge, g1w_X12_judge, g2c_X12_judge, g3b_X12_judge, g4_X12_judge, g5_X12_judge, g6c_X12_judge, g7b_X12_judge, g9_X12_judge, within_x, notr_x, ← hm0]
    by_cases z1 : 0 ≤ a2 ∧ a2 ≤ 3
    · rw [if_pos z1, if_neg (show ¬ (1 : Int) = 0 by decide), if_pos z1]
      by_cases z2 : 0 ≤ a1 ∧ a1 ≤ 3
      · rw [if_pos z2, if_pos z2, m0o _ _ _ (by omega)]
        by_cases z3 : m 1 23 a1.toNat = -1
        · rw [if_pos z3, if_neg (show ¬ (-6 : Int) = 0 by decide), if_pos z3]
        · rw [if_neg z3, if_pos rfl, if_neg z3]
      · rw [if_neg z2, if_neg (show ¬ (-2 : Int) = 0 by decide), if_neg z2]
    · rw [if_neg z1, if_pos rfl, if_neg z1]
  rw [ec, em]
  have none : ∀ x : Int, ((s, x) : XR).2 = ((m0, x) : XR).2 ∧ CS B w h s m0 ∧ Rg s m0 ∧ FdC s s ∧ FdM m0 m ∧ (∀ k, k < 76 → rwC s 10 k = rwC s 10 k) ∧ s 0 79 4 = s 0 79 4 ∧ (∀ k, k < 76 → m0 1 1 (36 + k) = m 1 1 (36 + k)) ∧ (RB B (w * h) m → RB B (w * h) m0) := fun x => ⟨rfl, H0, R0, FdC.rf, fm0, fun _ _ => rfl, rfl, fun k _ => by rw [m0r], fun hr => hr.row m0r⟩
  by_cases z1 : 0 ≤ a1 ∧ a1 ≤ 3
  · by_cases z2 : 0 ≤ a2 ∧ a2 ≤ 3
    · rw [if_pos z1, if_pos z2, if_pos z2, if_pos z1]
      obtain ⟨t, rfl⟩ : ∃ t : Nat, a1 = (t : Int) := ⟨a1.toNat, by omega⟩
      rw [show ((t : Int)).toNat = t from rfl]
      rcases hT t (by omega) with ⟨t1, t2⟩ | ⟨t1, -, -, -, t3, t4, t5, t6⟩
      · rw [if_pos (show s 0 (107 + 2 * t) 2 < 0 by omega), if_pos t1]
        exact none _
      · rw [if_neg (show ¬ s 0 (107 + 2 * t) 2 < 0 by omega), if_neg t1]
        -- the class: what was is kept, gone, brought back
        obtain ⟨c1, c2, c3⟩ := fcopy_x s (d := 199) (e := 10) (by omega)
        obtain ⟨s1, hs1⟩ : ∃ s1, s1 = (f_X1_copy s 199 10).1 := ⟨_, rfl⟩
        rw [← hs1] at c1 c2 c3
        have k1 := keeps_x m0
        obtain ⟨mk, hmk⟩ : ∃ mk, mk = (f_X12_keeps m0).1 := ⟨_, rfl⟩
        rw [← hmk] at k1
        have mkr : ∀ j, mk 1 1 j = m 1 1 j := fun j => by rw [k1, if_neg (by omega), m0o _ _ _ (by omega)]
        have H1 : CS B w h s1 mk := (H0.cls (fun t c k _ _ => c3 t c k (by unfold inF; omega))).fr FrA.rf (funext fun k => (mkr k).trans (by rw [m0r]))
        obtain ⟨u, v, g, k, l, i1, i2, i3, i4, i5, i6, i7, ⟨B', i8, i9, i10⟩, i11, i12, -, i14⟩ := wk_x H1 hB (t := t) (by omega) ⟨t4, t5⟩ (by rw [c3 _ _ _ (by unfold inF; omega)]; exact t3) (by rw [k1, if_neg (by omega), m0o _ _ _ (by omega)]) (fun i hi => by rw [c3 _ _ _ (by unfold inF; omega), k1, if_neg (by omega), m0o _ _ _ (by omega)]; exact t6 i hi)
        obtain ⟨d1, d2, d3⟩ := fcopy_x u (d := 10) (e := 199) (by omega)
        have d4 := fcopy_t u (d := 10) (e := 199)
        obtain ⟨x, hx⟩ : ∃ x, x = (f_X1_copy u 10 199).1 := ⟨_, rfl⟩
        rw [← hx] at d1 d2 d3 d4
        have g1 := again_x v
        obtain ⟨y, hy⟩ : ∃ y, y = (f_X12_isAgain v).1 := ⟨_, rfl⟩
        rw [← hy] at g1
        have eg : g12_X11_judge s (t : Int) a2 = (x, x 1 207 a2.toNat) := by
          simp only [g12_X11_judge, g14c_X11_judge, g15c_X11_judge, g16c_X11_judge, show Int.toNat (t : Int) = t from rfl, ← hs1, i1, ← hx]
        have x207 : ∀ j, x 1 207 j = u 1 207 j := fun j => d3 _ _ _ (by unfold inF; omega)
        have y0 : ∀ j, y 0 0 j = v 0 0 j := fun j => by rw [g1, if_neg (by omega)]
        have mk25 : mk 2 25 (40 * t) = m 2 25 (40 * t) := by rw [k1, if_neg (by omega), m0o _ _ _ (by omega)]
        have mk3 : mk 1 1 3 = m 1 1 3 := mkr 3
        rw [mk25, mk3] at i14
        have eh : g8_X12_judge m0 (t : Int) a2 = (y, x 1 207 a2.toNat) := by
          have w24 : m0 1 24 t = m 1 24 t := m0o _ _ _ (by omega)
          have w25 : m0 2 25 (40 * t) = m 2 25 (40 * t) := m0o _ _ _ (by omega)
          have w3 : m0 1 1 3 = m 1 1 3 := by rw [m0r]
          have v25 : v 2 25 (40 * t) = m 2 25 (40 * t) := by rw [i12 _ _ _ (by omega) (by omega) (by omega), mk25]
          have i40 : Int.toNat (40 * (t : Int)) = 40 * t := by omega
          simp only [g8_X12_judge, g10b_X12_judge, g12_X12_judge, g28c_X12_judge, g29b_X12_judge, show Int.toNat (t : Int) = t from rfl, i40, w24, w25, w3, ispM_x]
          rcases i14 with ⟨j1, j2, j3, j4⟩ | ⟨j1, j2, j3, j4, j5⟩
          · rw [if_pos (show 0 < m 1 24 t from j1), if_pos j2, if_neg (show ¬ (1 : Int) = 0 by decide)]
            have i36 : Int.toNat (36 + m 2 25 (40 * t)) = 36 + (m 2 25 (40 * t)).toNat := by omega
            simp only [g31_X12_judge, g47c_X12_judge, g48c_X12_judge, g49c_X12_judge, g50b_X12_judge, g51_X12_judge, g52_X12_judge, g53b_X12_judge, g54_X12_judge, g55_X12_judge, g56b_X12_judge, g57_X12_judge, g58_X12_judge, g59b_X12_judge, g60_X12_judge, g61_X12_judge, ← hmk, i2, ← hy, y0, i5, i7, v25, i40, i36]
            rcases (show a2 = 0 ∨ a2 = 1 ∨ a2 = 2 ∨ a2 = 3 by omega) with rfl | rfl | rfl | rfl
            · rw [if_pos rfl, show (0 : Int).toNat = 0 from rfl, x207, j3]
              split <;> rfl
            · rw [if_neg (by decide), if_pos rfl, show (1 : Int).toNat = 1 from rfl, x207, i4]
            · rw [if_neg (by decide), if_neg (by decide), if_pos rfl, show (2 : Int).toNat = 2 from rfl, x207, j4]
            · rw [if_neg (by decide), if_neg (by decide), if_neg (by decide), show (3 : Int).toNat = 3 from rfl, x207, i6]
          · subst j2
            have fin : ∀ A : XR, (A = if a2 = 0 then (if (1 : Int) = 0 then (y, -1) else (y, 0)) else if a2 = 1 then (y, 1) else if a2 = 2 then (y, -1) else (y, l)) → A = (y, x 1 207 a2.toNat) := by
              intro A hA
              rw [hA]
              rcases (show a2 = 0 ∨ a2 = 1 ∨ a2 = 2 ∨ a2 = 3 by omega) with rfl | rfl | rfl | rfl
              · rw [if_pos rfl, if_neg (by decide), show (0 : Int).toNat = 0 from rfl, x207, j4]
              · rw [if_neg (by decide), if_pos rfl, show (1 : Int).toNat = 1 from rfl, x207, i4]
              · rw [if_neg (by decide), if_neg (by decide), if_pos rfl, show (2 : Int).toNat = 2 from rfl, x207, j5]
              · rw [if_neg (by decide), if_neg (by decide), if_neg (by decide), show (3 : Int).toNat = 3 from rfl, x207, i6]
            apply fin
            by_cases q : 0 < m 1 24 t
            · rw [if_pos q, if_neg (fun k => j1 ⟨q, k⟩), if_pos rfl]
              simp only [g30_X12_judge, g32c_X12_judge, g33c_X12_judge, g34c_X12_judge, g35b_X12_judge, g36_X12_judge, g37_X12_judge, g38b_X12_judge, g39_X12_judge, g40_X12_judge, g41b_X12_judge, g42_X12_judge, g43_X12_judge, g44b_X12_judge, g45_X12_judge, g46_X12_judge, ← hmk, i2, ← hy, y0, i5, i7]
            · rw [if_neg q]
              simp only [g11_X12_judge, g13c_X12_judge, g14c_X12_judge, g15c_X12_judge, g16b_X12_judge, g17_X12_judge, g18_X12_judge, g19b_X12_judge, g20_X12_judge, g21_X12_judge, g22b_X12_judge, g23_X12_judge, g24_X12_judge, g25b_X12_judge, g26_X12_judge, g27_X12_judge, ← hmk, i2, ← hy, y0, i5, i7]
        rw [eg, eh]
        have xo : ∀ t c k, ¬ (t = 1 ∧ (c = 4 ∨ c = 5 ∨ c = 8 ∨ c = 9 ∨ c = 207)) → ¬ inF 10 c → ¬ inF 199 c → x t c k = s t c k := fun t c k q1 q2 q3 => by
          have q2' := q2
          unfold inF at q2'
          rw [d3 t c k q2, i11 t c k (by omega) (by omega), c3 t c k q3]
        have xr : ∀ k, k < 76 → rwC x 10 k = rwC s 10 k := fun k hk => by
          rw [d2 k hk, rwC_same (s := s1) (fun t c k q1 q2 => i11 t c k (by omega) (by omega)), c2 k hk]
        have x7 : x 0 10 7 = s 0 10 7 := by rw [d1, i11 _ _ _ (by omega) (by omega), c1]
        have xq : ∀ t c k, ¬ (t = 1 ∧ (c = 4 ∨ c = 5 ∨ c = 8 ∨ c = 9 ∨ (11 ≤ c ∧ c ≤ 17) ∨ c = 207)) → ¬ (t = 0 ∧ c = 10 ∧ k = 8) → ¬ inF 199 c → x t c k = s t c k := fun t c k q1 q2 q3 => by
          by_cases e2 : t = 0 ∧ c = 10 ∧ k = 7
          · obtain ⟨rfl, rfl, rfl⟩ := e2
            exact x7
          · rw [d4 t c k (by omega) (by omega), i11 t c k q1 q2, c3 t c k q3]
        have yo : ∀ t c k, ¬ (t = 1 ∧ c = 1 ∧ 36 ≤ k ∧ k ≤ 111) → ¬ (t = 1 ∧ (c = 5 ∨ c = 6)) → ¬ (t = 0 ∧ c = 0 ∧ (k = 0 ∨ k = 17 ∨ k = 18)) → y t c k = m t c k := fun t c k q1 q2 q3 => by
          rw [g1, if_neg (by omega), i12 t c k (by omega) (by omega) (by omega), k1, if_neg (by omega), m0o t c k (by omega)]
        have yr : ∀ k, k < 76 → y 1 1 (36 + k) = m 1 1 (36 + k) := fun k hk => by
          rw [g1, if_pos ⟨rfl, rfl, by omega, by omega⟩, show 36 + k - 36 = k by omega, i12 _ _ _ (by omega) (by omega) (by omega), k1, if_pos ⟨rfl, rfl, hk⟩, m0o _ _ _ (by omega)]
        have F0 := H.fw
        refine ⟨rfl, H.mk (fun t c k q1 q2 q3 q4 q5 => ?_) (fun k hk => yo 1 1 k (by omega) (by omega) (by omega)) (fun k hk => ?_) ?_ H.2.2.2.2.2.2, ?_, fun t c k q1 q2 q3 q4 q5 q6 => ?_, fun t c k q1 q2 q3 => yo t c k (by omega) (by omega) (by omega), xr, xo _ _ _ (by omega) (by unfold inF; omega) (by unfold inF; omega), yr, fun hr => ?_⟩
        · exact xq t c k (by omega) q5 (by unfold inF; omega)
        · rw [xr k hk.1]
          exact (F0 k hk).trans (yr k hk.1).symm
        · exact H.2.2.2.2.1.same (fun k hk => yr k hk.1) H.pl.2.2.1
        · exact R.same (xo _ _ _ (by omega) (by unfold inF; omega) (by unfold inF; omega)) (xo _ _ _ (by omega) (by unfold inF; omega) (by unfold inF; omega)) (fun t c k q1 q2 => xo _ _ _ (by omega) (by unfold inF; omega) (by unfold inF; omega)) (yo _ _ _ (by omega) (by omega) (by omega)) (fun k q1 q2 => yo _ _ _ (by omega) (by omega) (by omega))
        · exact xq t c k (by omega) q2 (by unfold inF; omega)
        · obtain ⟨f, n, -, -, -, a4, a5, -⟩ := R
          exact hr.same (yo _ _ _ (by omega) (by omega) (by omega)) H.pl.2.2.1 (fun k q1 q2 => yo _ _ _ (by omega) (by omega) (by omega)) (by rw [a5]; omega)
    · rw [if_pos z1, if_neg z2, if_neg z2]
      exact none _
  · rw [if_neg z1]
    by_cases z2 : 0 ≤ a2 ∧ a2 ≤ 3
    · rw [if_pos z2, if_neg z1]
      exact none _
    · rw [if_neg z2]
      exact none _
