/-! walks told in trays: both -/
def lrI (x : Int) : Prop := -9223372036854775808 ≤ x ∧ x ≤ 9223372036854775807
def smV (v : Int) : Int := if 0 ≤ v ∧ v ≤ 2147483647 then v else -1
def Tr (s m : XS) (t : Nat) : Prop := (m 1 23 t = -1 ∧ s 0 (107 + 2 * t) 2 = -1) ∨ (m 1 23 t ≠ -1 ∧ 0 ≤ m 1 23 t ∧ m 1 23 t ≤ 3 ∧ s 0 (107 + 2 * t) 1 = m 1 23 t ∧ s 0 (107 + 2 * t) 2 = m 1 24 t ∧ 0 ≤ m 1 24 t ∧ m 1 24 t ≤ 40 ∧ ∀ i : Nat, (i : Int) < m 1 24 t → s 2 (108 + 2 * t) i = m 2 25 (40 * t + i))
theorem l2i_r (v : Int) : rgI (Xl2i v) := by
  unfold Xl2i
  exact rg_i _
theorem asm_x (s : XS) (b : Nat) (i : Int) : f_X10_asSmall s b i = (s, if 0 ≤ i ∧ i < s 0 b 2 then smV (s 2 (b + 1) i.toNat) else -1) := by
  have e : f_X10_asSmall s b i = if i < 0 then (s, -1) else if i < s 0 b 2 then (if Xl2i (s 2 (b + 1) i.toNat) < 0 then (s, -1) else if Xcmp (Xl2i (s 2 (b + 1) i.toNat)) (s 2 (b + 1) i.toNat) = 0 then (s, Xl2i (s 2 (b + 1) i.toNat)) else (s, -1)) else (s, -1) := rfl
  rw [e]
  by_cases z1 : i < 0
  · rw [if_pos z1, if_neg (fun q => by omega)]
  · rw [if_neg z1]
    by_cases z2 : i < s 0 b 2
    · rw [if_pos z2, if_pos (show 0 ≤ i ∧ i < s 0 b 2 from ⟨by omega, z2⟩)]
      generalize s 2 (b + 1) i.toNat = v
      have r := l2i_r v
      obtain ⟨c1, -, -⟩ := cmp_v (Xl2i v) v
      unfold smV
      by_cases y : 0 ≤ v ∧ v ≤ 2147483647
      · have ev : Xl2i v = v := l2i_v ⟨by omega, y.2⟩
        rw [ev, if_neg (by omega), if_pos y]
        rw [ev] at c1
        rw [if_pos (c1.mpr rfl)]
      · rw [if_neg y]
        by_cases y2 : Xl2i v < 0
        · rw [if_pos y2]
        · rw [if_neg y2, if_neg (fun q => y (by have := c1.mp q; unfold rgI at r; omega))]
    · rw [if_neg z2, if_neg (fun q => z2 q.2)]
/-- what the class writes of a walk -/
def wkd (s : XS) (st k a lf : Int) : XS := xup (xup (xup (xup s 1 207 0 st) 1 207 1 k) 1 207 2 a) 1 207 3 lf
theorem wkd_f {s : XS} {st k a lf : Int} : ∀ t c j, ¬ (t = 1 ∧ c = 207) → wkd s st k a lf t c j = s t c j := fun t c j q => by
  unfold wkd xup
  rw [if_neg (fun z => q ⟨z.1, z.2.1⟩), if_neg (fun z => q ⟨z.1, z.2.1⟩), if_neg (fun z => q ⟨z.1, z.2.1⟩), if_neg (fun z => q ⟨z.1, z.2.1⟩)]
theorem wkd_v {s : XS} {st k a lf : Int} : wkd s st k a lf 1 207 0 = st ∧ wkd s st k a lf 1 207 1 = k ∧ wkd s st k a lf 1 207 2 = a ∧ wkd s st k a lf 1 207 3 = lf := by
  unfold wkd
  refine ⟨?_, ?_, ?_, xup_s⟩
  · rw [xup_k (by decide), xup_k (by decide), xup_k (by decide), xup_s]
  · rw [xup_k (by decide), xup_k (by decide), xup_s]
  · rw [xup_k (by decide), xup_s]
theorem cl_end {n : Nat} {s : XS} {b : Nat} {p st k lf g x : Int} (h : ¬ (x < s 0 b 2 ∧ k = 0)) : L19_X11_goWalk (n + 1) s b p st k lf g x = (wkd s st k (s 1 11 (Int.toNat p)) lf, g) := by
  show g20l_X11_goWalk (L19_X11_goWalk n) s b p st k lf g x = _
  have e11 : xup (xup s 1 207 0 st) 1 207 1 k 1 11 (Int.toNat p) = s 1 11 (Int.toNat p) := by rw [xup_c (by decide), xup_c (by decide)]
  simp only [g20l_X11_goWalk, g21b_X11_goWalk, g22_X11_goWalk, g23_X11_goWalk, g24w_X11_goWalk, g25w_X11_goWalk, g26w_X11_goWalk, g27w_X11_goWalk, g28b_X11_goWalk, g29_X11_goWalk, g31w_X11_goWalk, g32w_X11_goWalk, g33w_X11_goWalk, g34w_X11_goWalk, show Int.toNat 0 = 0 from rfl, show Int.toNat 1 = 1 from rfl, show Int.toNat 2 = 2 from rfl, show Int.toNat 3 = 3 from rfl, e11]
  by_cases z : x < s 0 b 2
  · rw [if_pos z, if_neg (fun q => h ⟨z, q⟩)]
    rfl
  · rw [if_neg z]
    rfl
theorem cl_go {n : Nat} {s u : XS} {b : Nat} {p st lf g x tv v : Int} (h : x < s 0 b 2) (ha : f_X10_asSmall s b x = (s, tv)) (hh : f_X0_hindrance s 1 p tv = (u, v)) : L19_X11_goWalk (n + 1) s b p st 0 lf g x = if v = 0 then L19_X11_goWalk n (f_X0_step u 1 p tv).1 b p st 0 (Xiadd lf (f_X0_step u 1 p tv).2) (Xiadd g 1) (x + 1) else L19_X11_goWalk n u b p x v lf g (x + 1) := by
  show g20l_X11_goWalk (L19_X11_goWalk n) s b p st 0 lf g x = _
  simp only [g20l_X11_goWalk, g21b_X11_goWalk, g23_X11_goWalk, g28b_X11_goWalk, g30_X11_goWalk, g35c_X11_goWalk, g36c_X11_goWalk, g37b_X11_goWalk, g38_X11_goWalk, g39_X11_goWalk, g40c_X11_goWalk, if_pos h, if_true, ha, hh]
theorem rf_end {n : Nat} {m : XS} {a p x : Int} (h : ¬ x < m 1 24 a.toNat) : L11_X12_tells (n + 1) m a p x = (m, m 1 24 a.toNat - 1) := by
  show g12l_X12_tells (L11_X12_tells n) m a p x = _
  simp only [g12l_X12_tells, g13b_X12_tells, g14_X12_tells, if_neg h]
theorem rf_go {n : Nat} {m y : XS} {a p x v : Int} (h : x < m 1 24 a.toNat) (hh : f_X12_whyNot m p (m 2 25 (Int.toNat ((40 * a) + x))) = (y, v)) : L11_X12_tells (n + 1) m a p x = if v = 0 then L11_X12_tells n (xup (f_X12_goes (xup y 0 0 17 v) p (y 2 25 (Int.toNat ((40 * a) + x)))).1 0 0 18 (Xiadd (y 0 0 18) (f_X12_goes (xup y 0 0 17 v) p (y 2 25 (Int.toNat ((40 * a) + x)))).2)) a p (x + 1) else (xup y 0 0 17 v, x - 1) := by
  show g12l_X12_tells (L11_X12_tells n) m a p x = _
  have e1 : xup y 0 0 17 v 0 0 17 = v := xup_s
  have e2 : xup y 0 0 17 v 0 0 18 = y 0 0 18 := xup_k (by decide)
  have e3 : ∀ j, xup y 0 0 17 v 2 25 j = y 2 25 j := fun j => xup_t (by decide)
  simp only [g12l_X12_tells, g13b_X12_tells, g15_X12_tells, g16c_X12_tells, g17w_X12_tells, g18b_X12_tells, g19_X12_tells, g20_X12_tells, g21c_X12_tells, g22w_X12_tells, if_pos h, hh, e1, e2, e3]
/-- what a walk leaves alone -/
def FwC (u s : XS) : Prop := ∀ t c k, ¬ (t = 1 ∧ (c = 4 ∨ c = 5 ∨ c = 8 ∨ c = 9 ∨ (11 ≤ c ∧ c ≤ 17) ∨ c = 207)) → ¬ (t = 0 ∧ c = 10 ∧ k = 8) → u t c k = s t c k
def FwM (v m : XS) : Prop := ∀ t c k, ¬ (t = 1 ∧ c = 1 ∧ 36 ≤ k ∧ k ≤ 111) → ¬ (t = 1 ∧ c = 5) → ¬ (t = 0 ∧ c = 0 ∧ (k = 17 ∨ k = 18)) → v t c k = m t c k
theorem FwC.tr {a b c : XS} (h : FwC a b) (g : FwC b c) : FwC a c := fun t c' k q1 q2 => (h t c' k q1 q2).trans (g t c' k q1 q2)
theorem FwM.tr {a b c : XS} (h : FwM a b) (g : FwM b c) : FwM a c := fun t c' k q1 q2 q3 => (h t c' k q1 q2 q3).trans (g t c' k q1 q2 q3)
theorem tl_l {w h t P : Nat} {Z : Int} (ht : t < 4) (hZ : Z ≤ 40) : ∀ (n x : Nat) (B lf : Int) (s m : XS), CS B w h s m → (P : Int) < m 1 1 3 → s 0 (107 + 2 * t) 2 = Z → m 1 24 t = Z → (∀ i : Nat, (i : Int) < Z → s 2 (108 + 2 * t) i = m 2 25 (40 * t + i)) → m 0 0 17 = 0 → m 0 0 18 = lf → 1 ≤ x → 0 ≤ lf → lf ≤ 2 * ((x : Int) - 1) → Z - x + 1 ≤ (n : Int) → 1 ≤ n → (x : Int) ≤ Z ∨ x = 1 → B + 100 ≤ 1000000 + (x : Int) → ∃ u v : XS, ∃ g k l : Int, L19_X11_goWalk n s (107 + 2 * t) (P : Int) (-1) 0 lf ((x : Int) - 1) (x : Int) = (u, g) ∧ L11_X12_tells n m (t : Int) (P : Int) (x : Int) = (v, if (x : Int) ≤ Z then g else Z - 1) ∧ u 1 207 0 = (if k = 0 then -1 else g + 1) ∧ u 1 207 1 = k ∧ u 1 207 2 = v 1 1 (36 + P) ∧ u 1 207 3 = l ∧ v 0 0 17 = k ∧ v 0 0 18 = l ∧ (∃ B', B ≤ B' ∧ B' ≤ B + (41 - (x : Int)) ∧ CS B' w h u v) ∧ FwC u s ∧ FwM v m ∧ (x : Int) - 1 ≤ g ∧ (g = (x : Int) - 1 → rA (v 1 1) = rA (m 1 1))
  | 0, x, B, lf, s, m, H, hP, h1, h2, h3, h4, h5, h6, h7, h8, h9, h10, h11, h12 => by omega
  | n + 1, x, B, lf, s, m, H, hP, h1, h2, h3, h4, h5, h6, h7, h8, h9, h10, h11, h12 => by
    have p5 := H.pl.2.2.1
    by_cases z : (x : Int) < Z
    · -- a turn
      have pb := H.bd
      have i2 : Int.toNat ((40 * (t : Int)) + (x : Int)) = 40 * t + x := by omega
      obtain ⟨V, hV⟩ : ∃ V, V = m 2 25 (40 * t + x) := ⟨_, rfl⟩
      have asm : f_X10_asSmall s (107 + 2 * t) (x : Int) = (s, smV V) := by
        rw [asm_x, if_pos (by rw [h1]; omega), show ((x : Int)).toNat = x from rfl, show 107 + 2 * t + 1 = 108 + 2 * t by omega, h3 x z, ← hV]
      obtain ⟨u, v, v', e1, e2, f1, f2, f3⟩ := hind_x H (p := (P : Int)) (q := (P : Int)) (t := smV V) (r := V) ⟨fun _ => rfl, id⟩ ⟨fun q => by unfold smV; rw [if_pos ⟨q.1, by omega⟩], fun q y => by
        unfold smV at y
        split at y
        · exact q y
        · omega⟩
      have H1 : CS B w h u v' := H.fr f1 f2.row
      have ecl := cl_go (n := n) (st := -1) (lf := lf) (g := (x : Int) - 1) (show (x : Int) < s 0 (107 + 2 * t) 2 by rw [h1]; exact z) asm e1
      have erf := rf_go (n := n) (y := v') (v := v) (a := (t : Int)) (p := (P : Int)) (x := (x : Int)) (show (x : Int) < m 1 24 ((t : Int)).toNat by rw [show ((t : Int)).toNat = t from rfl, h2]; exact z) (by rw [i2, ← hV]; exact e2)
      rw [ecl, erf, i2, f2 2 25 _ (by omega), ← hV, f2 0 0 18 (by omega), h5]
      by_cases y0 : v = 0
      · rw [if_pos y0, if_pos y0]
        obtain ⟨P', T, g1, g1', g2, g3, g3', g4, g5, g6⟩ := f3 y0
        have eP : P' = P := by omega
        subst eP
        obtain ⟨m1, hm1⟩ : ∃ m1, m1 = xup v' 0 0 17 v := ⟨_, rfl⟩
        have m1o : ∀ t c k, ¬ (t = 0 ∧ c = 0 ∧ k = 17) → m1 t c k = v' t c k := fun t c k q => by
          rw [hm1]
          unfold xup
          exact if_neg q
        have m1r : m1 1 1 = m 1 1 := funext fun k => (m1o 1 1 k (by omega)).trans (f2 1 1 k (by omega))
        have H2 : CS B w h u m1 := H1.fr FrA.rf (funext fun k => m1o 1 1 k (by omega))
        obtain ⟨⟨r1, r2⟩, ⟨r3, r4⟩, r5, -⟩ := pb.1 P' hP
        obtain ⟨a, b, x1, x2, x3, x4, x5, x6⟩ := goes_x H2 (P := P') (T := T) (c := (m 1 1 (36 + P')).toNat) (d := (m 1 1 (41 + P')).toNat) (by rw [m1r]; exact hP) g4 (by rw [m1r]; omega) (by rw [m1r]; omega) (by rw [m1r]; exact g5) (by omega) (by
          rw [m1r]
          unfold tkn
          split
          · omega
          · split
            · omega
            · rename_i y1 y2
              exact g6 (by omega) y2)
        rw [← hm1, g3, x1, g3', x2]
        obtain ⟨q, hq⟩ : ∃ q, q = tkn (m1 1 1) (m 1 1 (36 + P')).toNat T := ⟨_, rfl⟩
        have qr := tkn_r (A := m1 1 1) (c := (m 1 1 (36 + P')).toNat) g4
        rw [← hq] at qr ⊢
        have l1 : Xiadd lf q = lf + q := iadd_v (by unfold rgI; omega)
        have l2 : Xiadd ((x : Int) - 1) 1 = (x : Int) - 1 + 1 := iadd_v (by unfold rgI; omega)
        rw [l1, l2]
        obtain ⟨m2, hm2⟩ : ∃ m2, m2 = xup b 0 0 18 (lf + q) := ⟨_, rfl⟩
        rw [← hm2]
        have m2o : ∀ t c k, ¬ (t = 0 ∧ c = 0 ∧ k = 18) → m2 t c k = b t c k := fun t c k q => by
          rw [hm2]
          unfold xup
          exact if_neg q
        have H3 : CS (B + 1) w h a m2 := x3.fr FrA.rf (funext fun k => m2o 1 1 k (by omega))
        have ao : ∀ t c k, ¬ (t = 1 ∧ (c = 4 ∨ c = 5 ∨ c = 8 ∨ c = 9 ∨ c = 11 ∨ c = 12 ∨ c = 13 ∨ c = 15)) → ¬ (t = 0 ∧ c = 10 ∧ k = 8) → a t c k = s t c k := fun t c k q1 q2 => (x4 t c k (by omega) q2).trans (f1 t c k (by omega))
        have bo : ∀ t c k, ¬ (t = 1 ∧ c = 1 ∧ 36 ≤ k ∧ k ≤ 111) → ¬ (t = 1 ∧ c = 5) → ¬ (t = 0 ∧ c = 0 ∧ (k = 17 ∨ k = 18)) → m2 t c k = m t c k := fun t c k q1 q2 q3 => (m2o t c k (by omega)).trans ((x5 t c k q1).trans ((m1o t c k (by omega)).trans (f2 t c k q2)))
        have ih := tl_l (w := w) (h := h) (t := t) (P := P') (Z := Z) ht hZ n (x + 1) (B + 1) (lf + q) a m2 H3 (by rw [bo _ _ _ (by omega) (by omega) (by omega)]; exact hP) (by rw [ao _ _ _ (by omega) (by omega)]; exact h1) (by rw [bo _ _ _ (by omega) (by omega) (by omega)]; exact h2) (fun i hi => by rw [ao _ _ _ (by omega) (by omega), bo _ _ _ (by omega) (by omega) (by omega)]; exact h3 i hi) (by rw [m2o _ _ _ (by omega), x5 _ _ _ (by omega), hm1, xup_s]; exact y0) (by rw [hm2, xup_s]) (by omega) (by omega) (by omega) (by omega) (by omega) (Or.inl (by omega)) (by omega)
        obtain ⟨U, W, g, k, l, i1, i2', i3, i4, i5, i6, i7, i8, ⟨B', i9, i10, i11⟩, i12, i13, i14, i15⟩ := ih
        have ex : ((x + 1 : Nat) : Int) - 1 = (x : Int) - 1 + 1 := by omega
        have ex2 : ((x + 1 : Nat) : Int) = (x : Int) + 1 := by omega
        rw [ex, ex2] at i1
        rw [ex2] at i2' i10 i14
        refine ⟨U, W, g, k, l, i1, ?_, i3, i4, i5, i6, i7, i8, ⟨B', by omega, by omega, i11⟩, i12.tr (fun t c k q1 q2 => ao t c k (by omega) q2), i13.tr bo, by omega, fun y => by omega⟩
        rw [i2', if_pos (show (x : Int) + 1 ≤ Z by omega), if_pos (show (x : Int) ≤ Z by omega)]
      · rw [if_neg y0, if_neg y0]
        obtain ⟨n', rfl⟩ : ∃ n', n = n' + 1 := ⟨n - 1, by omega⟩
        rw [cl_end (fun q => y0 q.2)]
        have cw := wkd_v (s := u) (st := (x : Int)) (k := v) (a := u 1 11 (Int.toNat (P : Int))) (lf := lf)
        have cf := wkd_f (s := u) (st := (x : Int)) (k := v) (a := u 1 11 (Int.toNat (P : Int))) (lf := lf)
        have a11 := (H1.pl.2.2.2.2.1 P (by rw [f2.row]; exact hP)).1
        have m1o : ∀ t c k, ¬ (t = 0 ∧ c = 0 ∧ k = 17) → xup v' 0 0 17 v t c k = v' t c k := fun t c k q => by
          unfold xup
          exact if_neg q
        refine ⟨_, _, (x : Int) - 1, v, lf, rfl, ?_, ?_, cw.2.1, ?_, cw.2.2.2, xup_s, ?_, ⟨B, by omega, by omega, ?_⟩, fun t c k q1 q2 => (cf t c k (by omega)).trans (f1 t c k (by omega)), fun t c k q1 q2 q3 => (m1o t c k (by omega)).trans (f2 t c k q2), by omega, fun _ => ?_⟩
        · rw [if_pos (show (x : Int) ≤ Z by omega)]
        · rw [cw.1, if_neg y0]; omega
        · rw [cw.2.2.1, m1o _ _ _ (by omega)]
          exact a11
        · rw [m1o _ _ _ (by omega), f2 _ _ _ (by omega)]; exact h5
        · exact (H1.cls (fun t c k _ _ => cf t c k (by omega))).fr FrA.rf (funext fun k => m1o 1 1 k (by omega))
        · unfold rA
          funext k
          rw [m1o _ _ _ (by omega), f2 _ _ _ (by omega)]
    · rw [cl_end (show ¬ ((x : Int) < s 0 (107 + 2 * t) 2 ∧ (0 : Int) = 0) from fun q => z (by rw [← h1]; exact q.1)), rf_end (by rw [show ((t : Int)).toNat = t from rfl, h2]; exact z), show ((t : Int)).toNat = t from rfl, h2]
      have cw := wkd_v (s := s) (st := -1) (k := 0) (a := s 1 11 (Int.toNat (P : Int))) (lf := lf)
      have cf := wkd_f (s := s) (st := -1) (k := 0) (a := s 1 11 (Int.toNat (P : Int))) (lf := lf)
      have a11 := (H.pl.2.2.2.2.1 P hP).1
      refine ⟨_, m, (x : Int) - 1, 0, lf, rfl, ?_, ?_, cw.2.1, ?_, cw.2.2.2, h4, h5, ⟨B, by omega, by omega, H.cls (fun t c k _ _ => cf t c k (by omega))⟩, fun t c k q1 q2 => cf t c k (by omega), fun _ _ _ _ _ _ => rfl, by omega, fun _ => rfl⟩
      · split
        · rw [show Z - 1 = (x : Int) - 1 by omega]
        · rfl
      · rw [cw.1, if_pos rfl]
      · rw [cw.2.2.1]
        exact a11
