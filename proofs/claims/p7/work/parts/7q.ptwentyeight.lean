/-! watch and thief: the class -/
/-- round g of the class's table -/
def KT (A T : Nat → Int) (N g : Nat) : Prop := ∀ t h c, t < 4 * N → h < 4 → c < 32 → (bz (T (400 * g + 4 * t + h)) c = true ↔ (c < N ∧ CC A g t (4 * c + h)))
/-- what a watch at c that heads h can reach -/
def WG (A : Nat → Int) (n t c h : Nat) : Prop := ∃ j, j < 2 ∧ gOn A (4 * c + h) j ≠ -1 ∧ CC A n t (gOn A (4 * c + h) j).toNat
theorem tdr0 {h : Nat} (hh : h < 4) : tdr h 0 = h := by unfold tdr; simp; omega
theorem tdr1 {h : Nat} : tdr h 1 = (h + 1) % 4 := by unfold tdr; simp
theorem xr4 {c h : Nat} (hh : h < 4) : (4 * c + h) / 4 = c ∧ (4 * c + h) % 4 = h := by omega
theorem wgo_x {s : XS} {A : Nat → Int} {w h : Nat} (L : Ld s A w h) {n t hd : Nat} (K : KT A (s 1 105) (w * h) n) (ht : t < 4 * (w * h)) (hh : hd < 4) : (f_X3_watchGoes s (((400 * n + 4 * t : Nat)) : Int) (hd : Int)).1 = s ∧ ∀ c, c < 32 → (bz (f_X3_watchGoes s (((400 * n + 4 * t : Nat)) : Int) (hd : Int)).2 c = true ↔ (c < w * h ∧ WG A n t c hd)) := by
  have b25 := L.b25
  have r4 : (hd + 1) % 4 < 4 := Nat.mod_lt _ (by decide)
  have e1 : Xiand ((hd : Int) + 1) 3 = (((hd + 1) % 4 : Nat) : Int) := by rw [and3_x (by omega) (by omega)]; omega
  have i1 : Int.toNat (((400 * n + 4 * t : Nat) : Int) + (hd : Int)) = 400 * n + 4 * t + hd := by omega
  have i2 : Int.toNat (((400 * n + 4 * t : Nat) : Int) + (((hd + 1) % 4 : Nat) : Int)) = 400 * n + 4 * t + (hd + 1) % 4 := by omega
  obtain ⟨m1, m2⟩ := mvb_x L (v := s 1 105 (400 * n + 4 * t + hd)) hh
  obtain ⟨m3, m4⟩ := mvb_x L (v := s 1 105 (400 * n + 4 * t + (hd + 1) % 4)) r4
  have ev : f_X3_watchGoes s (((400 * n + 4 * t : Nat)) : Int) (hd : Int) = (s, Xior (Xior (f_X0_movedBack s 1 (s 1 105 (400 * n + 4 * t + hd)) (hd : Int)).2 (f_X0_movedBack s 1 (s 1 105 (400 * n + 4 * t + (hd + 1) % 4)) (((hd + 1) % 4 : Nat) : Int)).2) (Xiand (s 1 105 (400 * n + 4 * t + hd)) (Xixor (Xior (s 1 18 hd) (s 1 18 ((hd + 1) % 4))) (-1)))) := by
    unfold f_X3_watchGoes g1c_X3_watchGoes g2c_X3_watchGoes
    simp only [e1, i1, i2, m1, m3, show Int.toNat (hd : Int) = hd from rfl, show Int.toNat (((hd + 1) % 4 : Nat) : Int) = (hd + 1) % 4 from rfl]
  rw [ev]
  refine ⟨rfl, fun c hc => ?_⟩
  show bz (Xior (Xior _ _) (Xiand _ _)) c = true ↔ _
  rw [bz_ior, bz_ior, bz_iand, bz_inv _ hc, bz_ior, m2 c hc, m4 c hc]
  have st := fun d (hd : d < 4) => L.2.2.1 c d
  have lim := L.2.2.2.2.2.1
  have rg := L.2.2.2.1
  have Kh := fun (c' : Nat) (q : c' < 32) => K t hd c' ht hh q
  have Kr := fun (c' : Nat) (q : c' < 32) => K t ((hd + 1) % 4) c' ht r4 q
  obtain ⟨x1, x2⟩ := xr4 (c := c) hh
  have g0 : gOn A (4 * c + hd) 0 = if sF A c hd = -1 then (if sF A c ((hd + 1) % 4) = -1 then ((4 * c + hd : Nat) : Int) else -1) else 4 * sF A c hd + (hd : Int) := by
    unfold gOn
    rw [x1, x2, tdr0 hh, tdr1]
    by_cases z : sF A c hd = -1
    · rw [if_pos z, if_pos z]
      by_cases y : sF A c ((hd + 1) % 4) = -1
      · rw [if_pos y, if_pos ⟨rfl, y⟩]
      · rw [if_neg y, if_neg (fun q => y q.2)]
    · rw [if_neg z, if_neg z]
  have g1 : gOn A (4 * c + hd) 1 = if sF A c ((hd + 1) % 4) = -1 then -1 else 4 * sF A c ((hd + 1) % 4) + (((hd + 1) % 4 : Nat) : Int) := by
    unfold gOn
    rw [x1, x2, tdr1]
    by_cases y : sF A c ((hd + 1) % 4) = -1
    · rw [if_pos y, if_pos y, if_neg (fun q => absurd q.1 (by decide))]
    · rw [if_neg y, if_neg y]
  by_cases cN : c < w * h
  · have s0 := L.2.2.1 c hd cN hh
    have s1 := L.2.2.1 c ((hd + 1) % 4) cN r4
    unfold WG
    by_cases z : sF A c hd = -1
    · have f0 : bz (s 1 18 hd) c = false := by
        cases y : bz (s 1 18 hd) c with
        | false => rfl
        | true => exact absurd z (s0.mp y)
      rw [decide_eq_false (show ¬ (c < w * h ∧ sF A c hd ≠ -1) from fun q => q.2 z), f0, Bool.false_and, Bool.false_or, Bool.false_or]
      by_cases y : sF A c ((hd + 1) % 4) = -1
      · have f1 : bz (s 1 18 ((hd + 1) % 4)) c = false := by
          cases u : bz (s 1 18 ((hd + 1) % 4)) c with
          | false => rfl
          | true => exact absurd y (s1.mp u)
        rw [decide_eq_false (show ¬ (c < w * h ∧ sF A c ((hd + 1) % 4) ≠ -1) from fun q => q.2 y), f1, Bool.false_and, Bool.false_or, Bool.not_false, Bool.and_true, Kh c hc]
        rw [if_pos z, if_pos y] at g0
        rw [if_pos y] at g1
        constructor
        · rintro ⟨-, q⟩
          exact ⟨cN, 0, by decide, by rw [g0]; omega, by rw [g0]; exact q⟩
        · rintro ⟨-, j, j1, j2, j3⟩
          rcases (show j = 0 ∨ j = 1 by omega) with rfl | rfl
          · rw [g0] at j3; exact ⟨cN, j3⟩
          · exact absurd g1 j2
      · have f1 : bz (s 1 18 ((hd + 1) % 4)) c = true := s1.mpr y
        have b := (rg c _ cN r4 y).2
        rw [decide_eq_true (show c < w * h ∧ sF A c ((hd + 1) % 4) ≠ -1 from ⟨cN, y⟩), f1, Bool.true_and, Bool.not_true, Bool.and_false, Bool.or_false, Kr _ (by omega)]
        rw [if_pos z, if_neg y] at g0
        rw [if_neg y] at g1
        have e : (4 * sF A c ((hd + 1) % 4) + (((hd + 1) % 4 : Nat) : Int)).toNat = 4 * (sF A c ((hd + 1) % 4)).toNat + (hd + 1) % 4 := by omega
        constructor
        · rintro ⟨-, q⟩
          exact ⟨cN, 1, by decide, by rw [g1]; omega, by rw [g1, e]; exact q⟩
        · rintro ⟨-, j, j1, j2, j3⟩
          rcases (show j = 0 ∨ j = 1 by omega) with rfl | rfl
          · exact absurd g0 j2
          · rw [g1, e] at j3; exact ⟨by omega, j3⟩
    · have f0 : bz (s 1 18 hd) c = true := s0.mpr z
      have b := (rg c _ cN hh z).2
      rw [decide_eq_true (show c < w * h ∧ sF A c hd ≠ -1 from ⟨cN, z⟩), f0, Bool.true_and, Bool.true_or, Bool.not_true, Bool.and_false, Bool.or_false, Bool.or_eq_true, Kh _ (by omega)]
      rw [if_neg z] at g0
      have e0 : (4 * sF A c hd + (hd : Int)).toNat = 4 * (sF A c hd).toNat + hd := by omega
      by_cases y : sF A c ((hd + 1) % 4) = -1
      · rw [decide_eq_false (show ¬ (c < w * h ∧ sF A c ((hd + 1) % 4) ≠ -1) from fun q => q.2 y), Bool.false_and]
        rw [if_pos y] at g1
        constructor
        · rintro (⟨-, q⟩ | q)
          · exact ⟨cN, 0, by decide, by rw [g0]; omega, by rw [g0, e0]; exact q⟩
          · cases q
        · rintro ⟨-, j, j1, j2, j3⟩
          rcases (show j = 0 ∨ j = 1 by omega) with rfl | rfl
          · rw [g0, e0] at j3; exact Or.inl ⟨by omega, j3⟩
          · exact absurd g1 j2
      · have b1 := (rg c _ cN r4 y).2
        rw [decide_eq_true (show c < w * h ∧ sF A c ((hd + 1) % 4) ≠ -1 from ⟨cN, y⟩), Bool.true_and, Kr _ (by omega)]
        rw [if_neg y] at g1
        have e : (4 * sF A c ((hd + 1) % 4) + (((hd + 1) % 4 : Nat) : Int)).toNat = 4 * (sF A c ((hd + 1) % 4)).toNat + (hd + 1) % 4 := by omega
        constructor
        · rintro (⟨-, q⟩ | ⟨-, q⟩)
          · exact ⟨cN, 0, by decide, by rw [g0]; omega, by rw [g0, e0]; exact q⟩
          · exact ⟨cN, 1, by decide, by rw [g1]; omega, by rw [g1, e]; exact q⟩
        · rintro ⟨-, j, j1, j2, j3⟩
          rcases (show j = 0 ∨ j = 1 by omega) with rfl | rfl
          · rw [g0, e0] at j3; exact Or.inl ⟨by omega, j3⟩
          · rw [g1, e] at j3; exact Or.inr ⟨by omega, j3⟩
  · have n0 : bz (s 1 105 (400 * n + 4 * t + hd)) c = false := by
      cases y : bz (s 1 105 (400 * n + 4 * t + hd)) c with
      | false => rfl
      | true => exact absurd ((Kh c hc).mp y).1 cN
    rw [decide_eq_false (show ¬ (c < w * h ∧ sF A c hd ≠ -1) from fun q => cN q.1), decide_eq_false (show ¬ (c < w * h ∧ sF A c ((hd + 1) % 4) ≠ -1) from fun q => cN q.1), n0, Bool.false_and, Bool.false_and, Bool.false_and]
    constructor
    · intro q; cases q
    · intro q; exact absurd q.1 cN
/-! a round is worked out -/
noncomputable def fW (g t : Int) (hd : Int) (u : XS) : XS := xup u 1 106 (Int.toNat (4 * t + hd)) (Xior (Xishl 1 (t / 4)) (if 0 < g then (f_X3_watchGoes u ((g - 1) * 400 + 4 * t) hd).2 else 0))
noncomputable def fT (g t p q : Int) (hd : Int) (u : XS) : XS := xup u 1 105 (Int.toNat ((g * 400 + 4 * t) + hd)) (Xior (Xishl 1 (t / 4)) (Xiand (u 1 106 (Int.toNat (4 * p + hd))) (u 1 106 (Int.toNat (4 * q + hd)))))
theorem l47 {R12 : XS → Int → Int → Int → XR} {n : Nat} {u : XS} {g : Nat} {v t hd : Int} : L47_X3_workOut R12 (n + 1) u (g : Int) v t hd = if hd < 4 then L47_X3_workOut R12 n (fW (g : Int) t hd u) (g : Int) v t (hd + 1) else R12 u (g : Int) v (t + 1) := by
  show g48l_X3_workOut R12 (L47_X3_workOut R12 n) u (g : Int) v t hd = _
  have es : ∀ a b, (f_X3_watchGoes u a b).1 = u := fun a b => pu_f_X3_watchGoes
  simp only [g48l_X3_workOut, g49b_X3_workOut, g50_X3_workOut, g51_X3_workOut, g52b_X3_workOut, g53_X3_workOut, g54_X3_workOut, g55w_X3_workOut, g56c_X3_workOut, g57w_X3_workOut, es]
  unfold fW
  by_cases z : hd < 4
  · rw [if_pos z, if_pos z]
    by_cases y : (0 : Int) < (g : Int)
    · rw [if_pos y, if_pos y]
    · rw [if_neg y, if_neg y]
      have e : g = 0 := by omega
      subst e
      rfl
  · rw [if_neg z, if_neg z]
theorem l2 {n : Nat} {u : XS} {g : Nat} {v t : Int} : L2_X3_workOut (n + 1) u (g : Int) v t = if t < v then L2_X3_workOut n (itr (fW (g : Int) t) (4 - 0 : Int).toNat 0 u) (g : Int) v (t + 1) else L7_X3_workOut (Int.toNat (100 - 0 + 1)) u (g : Int) v 0 := by
  show g3l_X3_workOut (L2_X3_workOut n) u (g : Int) v t = _
  simp only [g3l_X3_workOut, g4b_X3_workOut, g5_X3_workOut, g6_X3_workOut]
  by_cases z : t < v
  · rw [if_pos z, if_pos z]
    exact itr_loop (L := fun n u hd => L47_X3_workOut (L2_X3_workOut _) n u (g : Int) v t hd) (f := fW (g : Int) t) (E := fun u => L2_X3_workOut _ u (g : Int) v (t + 1)) (N := 4) (fun n s x => l47) _ 0 u (by decide) (by decide)
  · rw [if_neg z, if_neg z]
theorem l20 {R : XS → Int → Int → Int → XR} {n : Nat} {u : XS} {g v t hd : Int} : L20_X3_workOut R (n + 1) u g v t hd = if hd < 4 then L20_X3_workOut R n (fT g t t t hd u) g v t (hd + 1) else R u g v (t + 1) := by
  show g21l_X3_workOut R (L20_X3_workOut R n) u g v t hd = _
  simp only [g21l_X3_workOut, g22b_X3_workOut, g23_X3_workOut, g24_X3_workOut, g25w_X3_workOut]
  rfl
theorem l26 {R : XS → Int → Int → Int → XR} {n : Nat} {u : XS} {g v t p hd : Int} : L26_X3_workOut R (n + 1) u g v t p hd = if hd < 4 then L26_X3_workOut R n (fT g t p p hd u) g v t p (hd + 1) else R u g v (t + 1) := by
  show g27l_X3_workOut R (L26_X3_workOut R n) u g v t p hd = _
  simp only [g27l_X3_workOut, g28b_X3_workOut, g29_X3_workOut, g30_X3_workOut, g31w_X3_workOut]
  rfl
theorem l35 {R : XS → Int → Int → Int → XR} {n : Nat} {u : XS} {g v t p hd : Int} : L35_X3_workOut R (n + 1) u g v t p hd = if hd < 4 then L35_X3_workOut R n (fT g t p p hd u) g v t p (hd + 1) else R u g v (t + 1) := by
  show g36l_X3_workOut R (L35_X3_workOut R n) u g v t p hd = _
  simp only [g36l_X3_workOut, g37b_X3_workOut, g38_X3_workOut, g39_X3_workOut, g40w_X3_workOut]
  rfl
theorem l41 {R : XS → Int → Int → Int → XR} {n : Nat} {u : XS} {g v t p q hd : Int} : L41_X3_workOut R (n + 1) u g v t p q hd = if hd < 4 then L41_X3_workOut R n (fT g t p q hd u) g v t p q (hd + 1) else R u g v (t + 1) := by
  show g42l_X3_workOut R (L41_X3_workOut R n) u g v t p q hd = _
  simp only [g42l_X3_workOut, g43b_X3_workOut, g44_X3_workOut, g45_X3_workOut, g46w_X3_workOut]
  rfl
/-- where a thief goes first, and else -/
def tP (a b t : Int) : Int := if a < 0 then (if b < 0 then t else b) else a
def tQ (a b t : Int) : Int := if b < 0 then (if a < 0 then t else a) else b
theorem l7 {n : Nat} {u : XS} {g v t : Int} : L7_X3_workOut (n + 1) u g v t = if t < v then L7_X3_workOut n (itr (fT g t (tP (f_X0_standAfter u 1 t 0).2 (f_X0_standAfter u 1 t 1).2 t) (tQ (f_X0_standAfter u 1 t 0).2 (f_X0_standAfter u 1 t 1).2 t)) (4 - 0 : Int).toNat 0 u) g v (t + 1) else (u, 0) := by
  show g8l_X3_workOut (L7_X3_workOut n) u g v t = _
  have es : ∀ a b, (f_X0_standAfter u 1 a b).1 = u := fun a b => pu_f_X0_standAfter
  simp only [g8l_X3_workOut, g9b_X3_workOut, g10_X3_workOut, g11_X3_workOut, g12c_X3_workOut, g13c_X3_workOut, g14b_X3_workOut, g15_X3_workOut, g16_X3_workOut, g17b_X3_workOut, g18_X3_workOut, g19_X3_workOut, g32b_X3_workOut, g33_X3_workOut, g34_X3_workOut, es]
  generalize (f_X0_standAfter u 1 t 0).2 = a
  generalize (f_X0_standAfter u 1 t 1).2 = b
  unfold tP tQ
  by_cases z : t < v
  · rw [if_pos z, if_pos z]
    by_cases ha : a < 0
    · rw [if_pos ha, if_pos ha]
      by_cases hb : b < 0
      · rw [if_pos hb, if_pos hb, if_pos hb, if_pos ha]
        exact itr_loop (L := fun n u hd => L20_X3_workOut (L7_X3_workOut _) n u g v t hd) (f := fT g t t t) (E := fun u => L7_X3_workOut _ u g v (t + 1)) (N := 4) (fun n s x => l20) _ 0 u (by decide) (by decide)
      · rw [if_neg hb, if_neg hb, if_neg hb]
        exact itr_loop (L := fun n u hd => L26_X3_workOut (L7_X3_workOut _) n u g v t b hd) (f := fT g t b b) (E := fun u => L7_X3_workOut _ u g v (t + 1)) (N := 4) (fun n s x => l26) _ 0 u (by decide) (by decide)
    · rw [if_neg ha, if_neg ha]
      by_cases hb : b < 0
      · rw [if_pos hb, if_pos hb, if_neg ha]
        exact itr_loop (L := fun n u hd => L35_X3_workOut (L7_X3_workOut _) n u g v t a hd) (f := fT g t a a) (E := fun u => L7_X3_workOut _ u g v (t + 1)) (N := 4) (fun n s x => l35) _ 0 u (by decide) (by decide)
      · rw [if_neg hb, if_neg hb]
        exact itr_loop (L := fun n u hd => L41_X3_workOut (L7_X3_workOut _) n u g v t a b hd) (f := fT g t a b) (E := fun u => L7_X3_workOut _ u g v (t + 1)) (N := 4) (fun n s x => l41) _ 0 u (by decide) (by decide)
  · rw [if_neg z, if_neg z]
