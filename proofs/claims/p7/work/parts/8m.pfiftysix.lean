/-! week: both -/
theorem wk_l {w h a2 : Nat} (ha : a2 ≤ 60) : ∀ (n j cnt : Nat) (B : Int) (s m : XS), CS B w h s m → B + (a2 : Int) ≤ 900000 + (j : Int) → s 0 0 18 = m 0 0 19 → 0 < m 1 1 3 → cnt ≤ j → j ≤ a2 → a2 < j + n → ∃ u v, ∃ g : Nat, L12_X11_week n s (a2 : Int) (cnt : Int) (j : Int) = g15_X11_week u (g : Int) ∧ L15_X12_week n m (a2 : Int) (cnt : Int) (j : Int) = g18_X12_week v (g : Int) ∧ CS (B + ((a2 : Int) - (j : Int))) w h u v ∧ FvC u s ∧ FvM v m ∧ cnt ≤ g ∧ g ≤ a2 ∧ (g = cnt → ∀ k, k < 76 → v 1 1 (36 + k) = m 1 1 (36 + k))
  | 0, j, cnt, B, s, m, _, _, _, _, _, h1, h2 => by omega
  | n + 1, j, cnt, B, s, m, H, hB, e, h0, hc, h1, h2 => by
    by_cases z : j < a2
    · obtain ⟨u, v, r, l1, l2, l3, l4, l5, l6, l7, l8⟩ := lv_x H (by omega) e h0
      have v3 : v 1 1 3 = m 1 1 3 := l7 _ _ _ (by omega) (by omega) (by omega)
      have eu : L12_X11_week (n + 1) s (a2 : Int) (cnt : Int) (j : Int) = L12_X11_week n u (a2 : Int) ((cnt : Int) + r) ((j + 1 : Nat) : Int) := by
        show g13l_X11_week (L12_X11_week n) s (a2 : Int) (cnt : Int) (j : Int) = _
        simp only [g13l_X11_week, g14b_X11_week, g16_X11_week, g22c_X11_week, g23b_X11_week, g24_X11_week, g25_X11_week, l1]
        rw [if_pos (by omega)]
        rcases l3 with rfl | rfl
        · rw [if_pos rfl, Int.add_zero]; rfl
        · rw [if_neg (by decide), iadd_v (by unfold rgI; omega)]; rfl
      have ev : L15_X12_week (n + 1) m (a2 : Int) (cnt : Int) (j : Int) = L15_X12_week n v (a2 : Int) ((cnt : Int) + r) ((j + 1 : Nat) : Int) := by
        show g16l_X12_week (L15_X12_week n) m (a2 : Int) (cnt : Int) (j : Int) = _
        simp only [g16l_X12_week, g17b_X12_week, g19_X12_week, g30c_X12_week, g31b_X12_week, g32_X12_week, g33_X12_week, l2]
        rw [if_pos (by omega)]
        rcases l3 with rfl | rfl
        · rw [if_pos rfl]; rfl
        · rw [if_neg (by decide), iadd_v (by unfold rgI; omega)]; rfl
      obtain ⟨R, hR⟩ : ∃ R : Nat, r = (R : Int) ∧ R ≤ 1 := ⟨r.toNat, by rcases l3 with rfl | rfl <;> decide⟩
      have er : (cnt : Int) + r = ((cnt + R : Nat) : Int) := by omega
      rw [eu, ev, er]
      obtain ⟨x, y, g, i1, i2, i3, i4, i5, i6, i7, i8⟩ := wk_l ha n (j + 1) (cnt + R) (B + 1) u v l4 (by omega) l5 (by rw [v3]; exact h0) (by omega) (by omega) (by omega)
      refine ⟨x, y, g, i1, i2, ?_, i4.tr l6, i5.tr l7, by omega, i7, fun q k hk => ?_⟩
      · have ee : B + 1 + ((a2 : Int) - ((j + 1 : Nat) : Int)) = B + ((a2 : Int) - (j : Int)) := by omega
        rw [ee] at i3
        exact i3
      · exact (i8 (by omega) k hk).trans (l8 (by omega) k hk)
    · have ja : j = a2 := by omega
      subst ja
      refine ⟨s, m, cnt, ?_, ?_, ?_, fun _ _ _ _ _ _ => rfl, fun _ _ _ _ _ _ => rfl, Nat.le_refl _, by omega, fun _ _ _ => rfl⟩
      · show g13l_X11_week (L12_X11_week n) s (j : Int) (cnt : Int) (j : Int) = _
        simp only [g13l_X11_week, g14b_X11_week]
        rw [if_neg (by omega)]
      · show g16l_X12_week (L15_X12_week n) m (j : Int) (cnt : Int) (j : Int) = _
        simp only [g16l_X12_week, g17b_X12_week]
        rw [if_neg (by omega)]
      · rw [Int.sub_self, Int.add_zero]
        exact H
theorem w9_l {a1 a2 : Int} : ∀ (n : Nat) (m : XS) (x : Int), 0 ≤ x → x ≤ 76 → 76 - x < (n : Int) → ∃ v, L9_X12_week n m a1 a2 x = g12_X12_week v a1 a2 ∧ ∀ t c k, v t c k = if t = 1 ∧ c = 7 ∧ x ≤ (k : Int) ∧ (k : Int) < 76 then m 1 1 (36 + k) else m t c k
  | 0, m, x, h0, h1, hn => by omega
  | n + 1, m, x, h0, h1, hn => by
    have e : L9_X12_week (n + 1) m a1 a2 x = if x < 76 then L9_X12_week n (xup m 1 7 (Int.toNat x) (m 1 1 (Int.toNat (36 + x)))) a1 a2 (x + 1) else g12_X12_week m a1 a2 := by
      show g10l_X12_week (L9_X12_week n) m a1 a2 x = _
      simp only [g10l_X12_week, g11b_X12_week, g13_X12_week, g34w_X12_week]
    rw [e]
    by_cases z : x < 76
    · rw [if_pos z]
      obtain ⟨v, v1, v2⟩ := w9_l (a1 := a1) (a2 := a2) n (xup m 1 7 (Int.toNat x) (m 1 1 (Int.toNat (36 + x)))) (x + 1) (by omega) (by omega) (by omega)
      refine ⟨v, v1, fun t c k => ?_⟩
      rw [v2]
      by_cases q : t = 1 ∧ c = 7 ∧ x ≤ (k : Int) ∧ (k : Int) < 76
      · rw [if_pos q]
        obtain ⟨rfl, rfl, q3, q4⟩ := q
        by_cases y : (k : Int) = x
        · rw [if_neg (by omega), show Int.toNat x = k by omega, xup_s, show Int.toNat (36 + x) = 36 + k by omega]
        · rw [if_pos ⟨rfl, rfl, by omega, q4⟩, xup_c (by decide)]
      · rw [if_neg q, if_neg (fun y => q ⟨y.1, y.2.1, by omega, y.2.2.2⟩)]
        unfold xup
        exact if_neg (fun y => q ⟨y.1, y.2.1, by omega, by omega⟩)
    · rw [if_neg z]
      exact ⟨m, rfl, fun t c k => by rw [if_neg (fun q => by omega)]⟩
theorem w20_l {g : Int} : ∀ (n : Nat) (m : XS) (x : Int), 0 ≤ x → x ≤ 76 → 76 - x < (n : Int) → ∃ v, L20_X12_week n m g x = g23_X12_week v g ∧ ∀ t c k, v t c k = if t = 1 ∧ c = 6 ∧ x ≤ (k : Int) ∧ (k : Int) < 76 then m 1 7 k else m t c k
  | 0, m, x, h0, h1, hn => by omega
  | n + 1, m, x, h0, h1, hn => by
    have e : L20_X12_week (n + 1) m g x = if x < 76 then L20_X12_week n (xup m 1 6 (Int.toNat x) (m 1 7 (Int.toNat x))) g (x + 1) else g23_X12_week m g := by
      show g21l_X12_week (L20_X12_week n) m g x = _
      simp only [g21l_X12_week, g22b_X12_week, g24_X12_week, g29w_X12_week]
    rw [e]
    by_cases z : x < 76
    · rw [if_pos z]
      obtain ⟨v, v1, v2⟩ := w20_l (g := g) n (xup m 1 6 (Int.toNat x) (m 1 7 (Int.toNat x))) (x + 1) (by omega) (by omega) (by omega)
      refine ⟨v, v1, fun t c k => ?_⟩
      rw [v2]
      by_cases q : t = 1 ∧ c = 6 ∧ x ≤ (k : Int) ∧ (k : Int) < 76
      · rw [if_pos q]
        obtain ⟨rfl, rfl, q3, q4⟩ := q
        by_cases y : (k : Int) = x
        · rw [if_neg (by omega), show Int.toNat x = k by omega, xup_s]
        · rw [if_pos ⟨rfl, rfl, by omega, q4⟩, xup_c (by decide)]
      · rw [if_neg q, if_neg (fun y => q ⟨y.1, y.2.1, by omega, y.2.2.2⟩)]
        unfold xup
        exact if_neg (fun y => q ⟨y.1, y.2.1, by omega, by omega⟩)
    · rw [if_neg z]
      exact ⟨m, rfl, fun t c k => by rw [if_neg (fun q => by omega)]⟩
theorem week_x {B : Int} {w h : Nat} {s m : XS} (H : CS B w h s m) (hB : B ≤ 900000 - 60) (R : Rg s m) {a1 a2 : Int} : (f_X11_week s a1 a2).2 = (f_X12_week m a1 a2).2 ∧ CS (B + 60) w h (f_X11_week s a1 a2).1 (f_X12_week m a1 a2).1 ∧ Rg (f_X11_week s a1 a2).1 (f_X12_week m a1 a2).1 ∧ FdC (f_X11_week s a1 a2).1 (xup s 0 0 18 ((f_X11_week s a1 a2).1 0 0 18)) ∧ FdM (f_X12_week m a1 a2).1 m ∧ KF (f_X11_week s a1 a2).1 s (f_X12_week m a1 a2).1 m ∧ (RB B (w * h) m → RB B (w * h) (f_X12_week m a1 a2).1) := by
  obtain ⟨m0, hm0⟩ : ∃ m0, m0 = xup m 0 0 0 0 := ⟨_, rfl⟩
  have m0o : ∀ t c k, ¬ (t = 0 ∧ c = 0 ∧ k = 0) → m0 t c k = m t c k := fun t c k q => by rw [hm0]; exact thr_f q
  have m0r : m0 1 1 = m 1 1 := funext fun k => m0o 1 1 k (by omega)
  have fm0 : FdM m0 m := by rw [hm0]; exact FdM.thr
  have H0 : CS B w h s m0 := H.fr FrA.rf m0r
  have R0 : Rg s m0 := R.same rfl rfl (fun _ _ _ _ _ => rfl) (by rw [m0r]) (fun k _ _ => by rw [m0r])
  obtain ⟨p1, p2, p3, p4, p5, p6, p7, p8⟩ := H.pl
  have b5 := H.bd.2.2.2.2
  have one : ¬ (1 : Int) = 0 := by decide
  have s18 : xup s 0 0 18 (s 0 0 18) = s := by
    funext t c k
    unfold xup
    split
    · rename_i q
      rw [q.1, q.2.1, q.2.2]
    · rfl
  have none : ∀ x : Int, ((s, x) : XR).2 = ((m0, x) : XR).2 ∧ CS (B + 60) w h s m0 ∧ Rg s m0 ∧ FdC s (xup s 0 0 18 (s 0 0 18)) ∧ FdM m0 m ∧ KF s s m0 m ∧ (RB B (w * h) m → RB B (w * h) m0) := fun x => ⟨rfl, H0.le (by omega) (by omega), R0, by rw [s18]; exact FdC.rf, fm0, Or.inr ⟨rfl, fun k _ _ => by rw [m0r]⟩, fun hr => hr.row m0r⟩
  have ec : f_X11_week s a1 a2 = if 1 ≤ a2 ∧ a2 ≤ 60 then (if m 1 1 3 = 0 then (s, -5) else g8_X11_week s a1 a2) else (s, -3) := by
    simp only [f_X11_week, g1b_X11_week, g2_X11_week, g3_X11_week, g4b_X11_week, g5_X11_week, g6_X11_week, g7b_X11_week, g9_X11_week, ← p1]
    by_cases z2 : a2 < 1
    · rw [if_pos z2, if_neg (fun q => by omega)]
    · rw [if_neg z2]
      by_cases z3 : 60 < a2
      · rw [if_pos z3, if_neg (fun q => by omega)]
      · rw [if_neg z3, if_pos (show 1 ≤ a2 ∧ a2 ≤ 60 by omega)]
  have em : f_X12_week m a1 a2 = if 1 ≤ a2 ∧ a2 ≤ 60 then (if m 1 1 3 = 0 then (m0, -5) else g7_X12_week m0 a1 a2) else (m0, -3) := by
    simp only [f_X12_week, g1w_X12_week, g2c_X12_week, g3b_X12_week, g4_X12_week, g5_X12_week, g6b_X12_week, g8_X12_week, within_x, ← hm0, show Int.toNat 3 = 3 from rfl, m0r]
    by_cases z2 : 1 ≤ a2 ∧ a2 ≤ 60
    · rw [if_pos z2, if_neg one, if_pos z2]
    · rw [if_neg z2, if_pos rfl, if_neg z2]
  rw [ec, em]
  by_cases z1 : 1 ≤ a2 ∧ a2 ≤ 60
  · rw [if_pos z1, if_pos z1]
    by_cases z2 : m 1 1 3 = 0
    · rw [if_pos z2, if_pos z2]; exact none _
    · rw [if_neg z2, if_neg z2]
      obtain ⟨N, rfl⟩ : ∃ N : Nat, a2 = (N : Int) := ⟨a2.toNat, by omega⟩
      -- the class: what was goes before; the seed
      obtain ⟨c1, c2, c3⟩ := fcopy_x s (d := 199) (e := 10) (by omega)
      obtain ⟨s1, hs1⟩ : ∃ s1, s1 = (f_X1_copy s 199 10).1 := ⟨_, rfl⟩
      rw [← hs1] at c1 c2 c3
      obtain ⟨s2, hs2⟩ : ∃ s2, s2 = xup s1 0 0 18 a1 := ⟨_, rfl⟩
      have s2o : ∀ t c k, ¬ (t = 0 ∧ c = 0 ∧ k = 18) → s2 t c k = s1 t c k := fun t c k q => by rw [hs2]; exact if_neg q
      -- the reference
      obtain ⟨v1, w1, w2⟩ := w9_l (a1 := a1) (a2 := (N : Int)) (Int.toNat (76 - 0 + 1)) m0 0 (by decide) (by decide) (by decide)
      obtain ⟨v2, hv2⟩ : ∃ v2, v2 = xup v1 0 0 19 a1 := ⟨_, rfl⟩
      have v2o : ∀ t c k, ¬ (t = 0 ∧ c = 0 ∧ k = 19) → v2 t c k = v1 t c k := fun t c k q => by rw [hv2]; exact if_neg q
      have v2r : v2 1 1 = m 1 1 := funext fun k => by rw [v2o _ _ _ (by omega), w2, if_neg (by omega), m0r]
      have H2 : CS B w h s2 v2 := (H.cls (fun t c k _ _ => (s2o t c k (by omega)).trans (c3 t c k (by unfold inF; omega)))).fr FrA.rf v2r
      obtain ⟨u, v, g, l1, l2, l3, l4, l5, -, l7, l8⟩ := wk_l (w := w) (h := h) (a2 := N) (by omega) 61 0 0 B s2 v2 H2 (by omega) (by rw [hs2, hv2, xup_s, xup_s]) (by rw [v2r]; omega) (Nat.le_refl _) (by omega) (by omega)
      have eg : g8_X11_week s a1 (N : Int) = g15_X11_week u (g : Int) := by
        simp only [g8_X11_week, g10c_X11_week, g11w_X11_week, ← hs1, ← hs2]
        exact l1
      have eh : g7_X12_week m0 a1 (N : Int) = g18_X12_week v (g : Int) := by
        have e0 : g7_X12_week m0 a1 (N : Int) = L9_X12_week (Int.toNat (76 - 0 + 1)) m0 a1 (N : Int) 0 := rfl
        rw [e0, w1]
        simp only [g12_X12_week, g14w_X12_week, ← hv2]
        exact l2
      obtain ⟨y, y1, y2⟩ := w20_l (g := (g : Int)) (Int.toNat (76 - 0 + 1)) v 0 (by decide) (by decide) (by decide)
      have eh2 : g18_X12_week v (g : Int) = g23_X12_week y (g : Int) := y1
      rw [eg, eh, eh2]
      have u0 : ∀ t c k, ¬ (t = 1 ∧ (c = 4 ∨ c = 5 ∨ c = 8 ∨ c = 9 ∨ (11 ≤ c ∧ c ≤ 17))) → ¬ (t = 0 ∧ c = 10 ∧ k = 8) → ¬ (t = 0 ∧ c = 0 ∧ k = 18) → ¬ inF 199 c → u t c k = s t c k := fun t c k q1 q2 q3 q4 => (l4 t c k q1 q2 q3).trans ((s2o t c k q3).trans (c3 t c k q4))
      have v7 : ∀ k, k < 76 → v 1 7 k = m 1 1 (36 + k) := fun k hk => by
        rw [l5 _ _ _ (by omega) (by omega) (by omega), v2o _ _ _ (by omega), w2, if_pos ⟨rfl, rfl, by omega, by omega⟩, m0r]
      have v0 : ∀ t c k, ¬ (t = 1 ∧ c = 1 ∧ 36 ≤ k ∧ k ≤ 111) → ¬ (t = 1 ∧ (c = 5 ∨ c = 6 ∨ c = 7)) → ¬ (t = 0 ∧ c = 0 ∧ (k = 0 ∨ k = 19)) → y t c k = m t c k := fun t c k q1 q2 q3 => by
        rw [y2, if_neg (by omega), l5 t c k q1 (by omega) (by omega), v2o t c k (by omega), w2, if_neg (by omega), m0o t c k (by omega)]
      have yrow : y 1 1 = v 1 1 := funext fun k => by rw [y2, if_neg (by omega)]
      have y6 : ∀ k, k < 76 → y 1 6 k = m 1 1 (36 + k) := fun k hk => by rw [y2, if_pos ⟨rfl, rfl, by omega, by omega⟩, v7 k hk]
      have y3 : y 1 1 3 = m 1 1 3 := v0 _ _ _ (by omega) (by omega) (by omega)
      have Cy : CS (B + 60) w h u y := (l3.fr FrA.rf yrow).le (by omega) (by omega)
      have Ry : Rg u y := R.same (u0 _ _ _ (by omega) (by omega) (by omega) (by unfold inF; omega)) (u0 _ _ _ (by omega) (by omega) (by omega) (by unfold inF; omega)) (fun t c k q1 q2 => u0 _ _ _ (by omega) (by omega) (by omega) (by unfold inF; omega)) y3 (fun k q1 q2 => v0 _ _ _ (by omega) (by omega) (by omega))
      obtain ⟨f, nn, -, -, -, a4, a5, -⟩ := R
      by_cases zg : 0 < g
      · have hp : u 0 199 7 = y 1 1 3 := by
          rw [l4 _ _ _ (by omega) (by omega) (by omega), s2o _ _ _ (by omega), c1, y3]
          exact p1.symm
        have hw : Fw (y 1 1 3) (rwC u 199) (y 1 6) := by
          rw [y3, rwC_same (s := s1) (fun t c k q1 q2 => (l4 t c k (by omega) (by omega) (by omega)).trans (s2o t c k (by omega)))]
          intro j hj
          have q := H.fw j hj
          rw [c2 j hj.1, q, y6 j hj.1]
          rfl
        obtain ⟨n1, n2, n3⟩ := keep_x (e := 199) (Or.inr (by decide)) Ry hp hw
        have rbn : RB B (w * h) m → RB B (w * h) (f_X12_notes y).1 := fun hr => by
          refine notes_rb (n := nn) ((v0 _ _ _ (by omega) (by omega) (by omega)).trans a5) a4 (by rw [y3]; exact p3) (hr.same y3 p3 (fun k q1 q2 => v0 _ _ _ (by omega) (by omega) (by omega)) (by rw [a5]; omega)) ?_
          rw [y3]
          exact H.2.2.2.2.1.same (fun k hk => y6 k hk.1) p3
        have e1 : g15_X11_week u (g : Int) = (xup (f_X11_keep u 199).1 0 79 4 0, (g : Int)) := by
          simp only [g15_X11_week, g17b_X11_week, g19_X11_week, g20c_X11_week, g21c_X11_week, forg_x]
          rw [if_pos (by omega)]
        have e2 : g23_X12_week y (g : Int) = ((f_X12_notes y).1, (g : Int)) := by
          simp only [g23_X12_week, g25b_X12_week, g27_X12_week, g28c_X12_week]
          rw [if_pos (by omega)]
        rw [e1, e2]
        generalize (f_X11_keep u 199).1 = x at *
        generalize (f_X12_notes y).1 = z at *
        have xo : ∀ t c k, ¬ (t = 0 ∧ c = 79 ∧ k = 4) → xup x 0 79 4 0 t c k = x t c k := fun t c k q => by
          unfold xup
          exact if_neg q
        refine ⟨rfl, (Cy.cls (fun t c k y1 y2 => (xo t c k (by omega)).trans (n2 t c k (by omega) (by omega)))).row (fun k hk => n3 _ _ _ (by omega)), ?_, fun t c k q1 q2 q3 q4 q5 q6 => ?_, fun t c k q1 q2 q3 => ?_, Or.inl (show xup x 0 79 4 0 0 79 4 = 0 from xup_s), rbn⟩
        · show Rg (xup x 0 79 4 0) z
          exact n1.same (xo _ _ _ (by omega)) (xo _ _ _ (by omega)) (fun t c k y1 y2 => xo t c k (by omega)) rfl (fun _ _ _ => rfl)
        · show xup x 0 79 4 0 t c k = xup s 0 0 18 (xup x 0 79 4 0 0 0 18) t c k
          by_cases zz : t = 0 ∧ c = 0 ∧ k = 18
          · obtain ⟨rfl, rfl, rfl⟩ := zz
            rw [xup_s]
          · rw [xo t c k q5, n2 t c k q3 (by omega), u0 t c k q1 q2 zz (by unfold inF; omega)]
            unfold xup
            exact (if_neg zz).symm
        · show z t c k = m t c k
          rw [n3 t c k (by omega)]
          exact v0 t c k (by omega) (by omega) (by omega)
      · have g0 : g = 0 := by omega
        have e1 : g15_X11_week u (g : Int) = (u, (g : Int)) := by
          simp only [g15_X11_week, g17b_X11_week, g18_X11_week]
          rw [if_neg (by omega)]
        have e2 : g23_X12_week y (g : Int) = (y, (g : Int)) := by
          simp only [g23_X12_week, g25b_X12_week, g26_X12_week]
          rw [if_neg (by omega)]
        rw [e1, e2]
        refine ⟨rfl, Cy, Ry, fun t c k q1 q2 q3 q4 q5 q6 => ?_, fun t c k q1 q2 q3 => v0 t c k (by omega) (by omega) (by omega), Or.inr ⟨u0 _ _ _ (by omega) (by omega) (by omega) (by unfold inF; omega), fun k q1 q2 => ?_⟩, fun hr => ?_⟩
        · by_cases zz : t = 0 ∧ c = 0 ∧ k = 18
          · obtain ⟨rfl, rfl, rfl⟩ := zz
            rw [xup_s]
          · show u t c k = xup s 0 0 18 (u 0 0 18) t c k
            rw [u0 t c k q1 q2 zz (by unfold inF; omega)]
            unfold xup
            exact (if_neg zz).symm
        · show y 1 1 (36 + k) = m 1 1 (36 + k)
          rw [yrow, l8 g0 k q2, v2r]
        · exact hr.same y3 p3 (fun k q1 q2 => v0 _ _ _ (by omega) (by omega) (by omega)) (by rw [a5]; omega)
  · rw [if_neg z1, if_neg z1]; exact none _
