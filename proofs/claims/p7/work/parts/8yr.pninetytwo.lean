/-! the big relation: city, image, restore -/
theorem QB.bb {A : Nat → Int} (q : QB A) : BB 999 (NN A) (A 3) (rA A) := by
  obtain ⟨a1, a2, a3, a4, a5⟩ := q
  unfold rA
  refine ⟨fun p hp => ?_, fun p hp => ?_, fun c hc => ?_, ?_⟩
  · obtain ⟨b1, b2, b3, b4⟩ := a3 p hp
    dsimp only
    rw [show 36 + (5 + p) = 41 + p by omega, show 36 + (10 + p) = 46 + p by omega, show 36 + (15 + p) = 51 + p by omega]
    refine ⟨⟨b1.1, ?_⟩, b2, b3, b4⟩
    unfold NN
    omega
  · dsimp only
    rw [a4 (36 + (20 + p)) (by omega) (by omega) (by omega)]; decide
  · dsimp only
    rw [a4 (36 + (25 + c)) (by omega) (by omega) (by omega), a4 (36 + (50 + c)) (by omega) (by omega) (by omega)]
    exact ⟨by decide, by decide, fun _ => rfl⟩
  · exact a5
theorem LdO.nn {s : XS} {A : Nat → Int} {w h : Nat} (L : LdO s A w h) : NN A = w * h := by
  rcases L with ⟨q1, q2, -, -, q5, q6⟩ | L
  · unfold NN
    rw [q5, q6, q1, q2]
    rfl
  · exact L.nn
theorem LdO_of {s : XS} {A : Nat → Int} (hN : Nt 1 s A) (hX : NX 1 s) : ∃ w h, LdO s A w h := by
  rcases Ld_of hN hX with ⟨q1, q2, q3, q4⟩ | ⟨w, h, L⟩
  · exact ⟨0, 0, Or.inl ⟨rfl, rfl, q1, q2, q3, q4⟩⟩
  · exact ⟨w, h, Or.inr L⟩
theorem Ci.rw2 {b : Nat} {s : XS} {A A' : Nat → Int} (e : ∀ k, k < 1774 → k ≠ 112 → A' k = A k) (h : Ci b s A) : Ci b s A' := by
  obtain ⟨a1, a2, a3, a4, a5, a6, a7, a8⟩ := h
  refine ⟨by rw [e 0 (by omega) (by omega)]; exact a1, by rw [e 10 (by omega) (by omega)]; exact a2, a3.same rfl rfl (fun _ => rfl) (fun _ => rfl) (fun k hk => e k (by omega) (by omega)), a4.same (fun _ => rfl) (fun _ _ _ _ => rfl) (fun k hk => e k (by omega) (by omega)), by rw [e 873 (by omega) (by omega)]; exact a5, by rw [e 873 (by omega) (by omega)]; exact a6, ?_, ?_⟩
  · exact a7.same (by omega) (fun _ => rfl) (fun _ => rfl) (fun k hk => e k (by omega) (by omega)) (by rw [e 873 (by omega) (by omega)]; exact Int.le_refl _)
  · exact a8.same (by omega) (fun _ => rfl) (fun _ => rfl) (fun k hk => e k (by omega) (by omega)) (by rw [e 873 (by omega) (by omega)]; exact Int.le_refl _)
theorem IB.mk {N : Int} {i b : Nat} {u v : XS} {A : Nat → Int} (h1 : Ci b u A) (h2 : BB N (NN A) (A 3) (rA A)) (e : ∀ k, k < 1774 → v 1 1 (k + 1774 * (i + 1)) = A k) : IB N i b u v := fun _ => by
  have p3 : A 3 ≤ 5 := by rw [h1.2.2.2.1.1]; exact h1.2.2.2.1.2.2.1
  have en : NN (fun k => v 1 1 (k + 1774 * (i + 1))) = NN A := by
    show (v 1 1 (1 + 1774 * (i + 1)) * v 1 1 (2 + 1774 * (i + 1))).toNat = (A 1 * A 2).toNat
    rw [e 1 (by omega), e 2 (by omega)]
  rw [en, e 3 (by omega)]
  exact ⟨h1.row e, h2.same (fun k hk => e (36 + k) (by have := hk.1; omega)) p3⟩
/-- another city: all that is kept of the one before is forgotten -/
theorem RA_new {N : Int} {w0 h0 : Nat} {s m u v : XS} {A : Nat → Int} (H : RAw N w0 h0 s m) (hN : N ≤ 1000000) (S : RS u v) (C : Ci 1 u A) (hB : BB N (NN A) (A 3) (rA A)) (eA : ∀ k, k < 1774 → k ≠ 112 → v 1 1 k = A k) (e112 : v 1 1 112 = 0) (e17 : u 0 0 17 = 0) (e16 : u 0 0 16 = s 0 0 16) (hz1 : u 0 2 3 ≤ 900) (hz2 : u 0 6 3 ≤ 900) (hr : rgI (v 1 1 10)) (e79 : u 0 79 4 = 0) (F : ∀ T c k, 107 ≤ c → c ≤ 114 → u T c k = s T c k) (g1 : ∀ k, v 1 23 k = m 1 23 k) (g2 : ∀ k, v 1 24 k = m 1 24 k) (g3 : ∀ k, v 2 25 k = m 2 25 k) (I0 : IB N 0 39 u v) (I1 : IB N 1 58 u v) : RA N u v := by
  have p3 : A 3 ≤ 5 := by rw [C.2.2.2.1.1]; exact C.2.2.2.1.2.2.1
  obtain ⟨w, h, L⟩ := LdO_of S.1.1.2.2.2.2.1 S.1.2.2.1
  have en : NN A = w * h := by
    rw [← L.nn]
    unfold NN
    rw [eA 1 (by omega) (by omega), eA 2 (by omega) (by omega)]
  have hB2 : BB N (w * h) (v 1 1 3) (rA (v 1 1)) := by
    rw [← en, eA 3 (by omega) (by omega)]
    exact hB.same (fun k hk => eA (36 + k) (by have := hk.1; omega) (by have := hk.1; omega)) p3
  obtain ⟨f, n, r1, -, r3, -⟩ := H.2.2.1
  refine ⟨w, h, S, ⟨L, C.rw2 eA, hz1, hz2, hB2, hr, hN⟩, ⟨f, 0, e16.trans r1, e17, r3, by decide, e112, fun j hj => absurd hj (Nat.not_lt_zero _)⟩, fun j hj => ?_, fun t ht => (H.2.2.2.2.1 t ht).fr ht F g1 g2 g3, ⟨0, e79, by decide, fun t ht => absurd ht (Nat.not_lt_zero _), fun t d ht => absurd ht (Nat.not_lt_zero _)⟩, I0, I1⟩
  rw [e112] at hj
  omega
theorem new_z (s : XS) : (f_X11_startAnew s).1 0 0 17 = 0 ∧ (f_X11_startAnew s).1 0 79 4 = 0 ∧ ∀ t c k, ¬ (t = 0 ∧ c = 0 ∧ k = 17) → ¬ (t = 0 ∧ c = 79 ∧ k = 4) → ¬ (t = 0 ∧ c = 104) → (f_X11_startAnew s).1 t c k = s t c k := by
  simp only [f_X11_startAnew, g1w_X11_startAnew, g2c_X11_startAnew, g3c_X11_startAnew, f_X2_forget, g1w_X2_forget, f_X3_forget, g1w_X3_forget, g2w_X3_forget]
  refine ⟨?_, ?_, fun t c k q1 q2 q3 => ?_⟩
  · rw [xup_c (by decide), xup_c (by decide), xup_c (by decide), xup_s]
  · rw [xup_c (by decide), xup_c (by decide), xup_s]
  · unfold xup
    rw [if_neg (by omega), if_neg (by omega), if_neg (by omega), if_neg (by omega)]
/-- those of the images who come from one row: places elsewhere -/
theorem IB.f2 {N : Int} {i b : Nat} {s m u v : XS} (e1 : v 1 2 i = m 1 2 i) (e2 : ∀ t c k, b ≤ c → c ≤ b + 18 → u t c k = s t c k) (e3 : ∀ k, k < 1774 → v 1 1 (k + 1774 * (i + 1)) = m 1 1 (k + 1774 * (i + 1))) (h : IB N i b s m) : IB N i b u v := by
  intro q
  have q' := q
  rw [e1] at q'
  obtain ⟨h1, h2⟩ := h q'
  exact IB.mk (A := fun k => m 1 1 (k + 1774 * (i + 1))) (h1.same (fun t j k hj => e2 t (b + j) k (by omega) (by omega))) h2 e3 q
theorem RA_city {N : Int} (h0 : 1000 ≤ N ∧ N ≤ 800000) {s m : XS} {a1 : Int} (h : RA N s m) (hz1 : (f_X11_city s a1).1 0 2 3 ≤ 900) (hz2 : (f_X11_city s a1).1 0 6 3 ≤ 900) (hr : rgI ((f_X12_city m a1).1 1 1 10)) : (f_X11_city s a1).2 = (f_X12_city m a1).2 ∧ RA (N + 120) (f_X11_city s a1).1 (f_X12_city m a1).1 := by
  obtain ⟨w, hh, H⟩ := h
  obtain ⟨q1, SH⟩ := RH_city (a1 := a1) H.1.1
  refine ⟨q1, ?_⟩
  suffices R : RA N (f_X11_city s a1).1 (f_X12_city m a1).1 by
    obtain ⟨w', h', R⟩ := R
    exact ⟨w', h', R.le (by omega) (by omega)⟩
  obtain ⟨⟨f1, f2, f3⟩, f4, f5, f6, hN, -, -⟩ := H.1.1.1
  have SQ0 := H.1.2
  by_cases c : 0 ≤ a1 ∧ a1 ≤ m 0 0 5
  · obtain ⟨u, v, r1, r2, r3, r4, r5, r⟩ := Read_x (n := a1) f1 c.1 c.2 (by omega)
    obtain ⟨u', v', t1, t2, t3⟩ := Read_q (n := a1) f1 c.1 c.2 (by omega)
    have eu : u = u' := congrArg Prod.fst (r1.symm.trans t1)
    subst eu
    rw [City_c c.1 (by omega)] at hz1 hz2 SH ⊢
    rw [r1] at hz1 hz2 SH ⊢
    have ff : ∀ t c k, ¬ (c = 77) → ¬ (20 ≤ c ∧ c ≤ 38) → u t c k = s t c k := fun t c k y1 y2 => r2 t c k (by omega) (by omega) y2
    rcases r with ⟨y1, y2, y3, y4, y5⟩ | ⟨y1, y2, y3, y4⟩
    · have ei : (if (u, u 0 77 8).2 = 0 then ((f_X11_startAnew (f_X0_copy (u, u 0 77 8).1 1 20).1).1, (f_X11_startAnew (f_X0_copy (u, u 0 77 8).1 1 20).1).1 0 1 7) else ((u, u 0 77 8).1, Xisub (-30) (u, u 0 77 8).2)) = ((f_X11_startAnew (f_X0_copy u 1 20).1).1, (f_X11_startAnew (f_X0_copy u 1 20).1).1 0 1 7) := if_pos y2
      rw [ei] at hz1 hz2 SH ⊢
      have t3' := t3 y2
      have t2' := t2 y2
      have ev : (g20_X12_city v).1 = (g20_X12_city v').1 := by rw [← y5, ← t3']
      rw [y5] at SH hr ⊢
      obtain ⟨w1, -, -, w4, -⟩ := g20_x v
      obtain ⟨w1', -, -, w4', -⟩ := g20_x v'
      have e14 : ∀ k, k < 1774 → v 1 4 k = v' 1 4 k := fun k hk => by rw [← w4 k hk, ← w4' k hk, ev]
      obtain ⟨k1, k2⟩ := Ci_copy_1_20 y1
      generalize (f_X0_copy u 1 20).1 = y at *
      obtain ⟨z1, z2, z3⟩ := new_z y
      generalize (f_X11_startAnew y).1 = z at *
      generalize (g20_X12_city v).1 = V at *
      (try dsimp only at hz1); (try dsimp only at hz2); (try dsimp only at SH); (try dsimp only)
      have uo : ∀ t c k, ¬ (t = 0 ∧ c = 0 ∧ k = 17) → ¬ (t = 0 ∧ c = 79 ∧ k = 4) → ¬ (t = 0 ∧ c = 104) → ¬ (1 ≤ c ∧ c ≤ 38) → c ≠ 77 → z t c k = s t c k := fun t c k x1 x2 x3 x4 x5 => (z3 t c k x1 x2 x3).trans ((k2 t c k (by omega)).trans (ff t c k x5 (by omega)))
      have vo : ∀ t c k, ¬ (t = 0 ∧ c = 0) → ¬ (t = 1 ∧ c = 1 ∧ k < 1774) → ¬ (t = 1 ∧ c = 4) → V t c k = m t c k := fun t c k x1 x2 x3 => (w1 t c k (by omega) x2).trans (r3 t c k (by omega) x3)
      have qb : QB (v 1 4) := t2'.2.fr (fun k hk => e14 k (by omega))
      have S : RS z V := ⟨SH, SQ0.of8 (fun t c k x1 x2 => uo _ _ _ (by omega) (by omega) (by omega) (by omega) (by omega))⟩
      refine RA_new (A := v 1 4) H (by omega) S ?_ (qb.bb.le (by omega)) (fun k hk _ => w4 k hk) ((w4 112 (by decide)).trans (qb.2.2.2.1 112 (by decide) (by decide) (by decide))) z1 (uo _ _ _ (by omega) (by omega) (by omega) (by omega) (by omega)) hz1 hz2 hr z2 (fun T c k x1 x2 => uo _ _ _ (by omega) (by omega) (by omega) (by omega) (by omega)) (fun k => vo _ _ _ (by omega) (by omega) (by omega)) (fun k => vo _ _ _ (by omega) (by omega) (by omega)) (fun k => vo _ _ _ (by omega) (by omega) (by omega)) ?_ ?_
      · exact k1.same (fun t j k hj => z3 _ _ _ (by omega) (by omega) (by omega))
      · exact H.2.2.2.2.2.2.1.f2 (vo _ _ _ (by omega) (by omega) (by omega)) (fun t c k x1 x2 => uo _ _ _ (by omega) (by omega) (by omega) (by omega) (by omega)) (fun k hk => vo _ _ _ (by omega) (by omega) (by omega))
      · exact H.2.2.2.2.2.2.2.f2 (vo _ _ _ (by omega) (by omega) (by omega)) (fun t c k x1 x2 => uo _ _ _ (by omega) (by omega) (by omega) (by omega) (by omega)) (fun k hk => vo _ _ _ (by omega) (by omega) (by omega))
    · have ei : (if (u, u 0 77 8).2 = 0 then ((f_X11_startAnew (f_X0_copy (u, u 0 77 8).1 1 20).1).1, (f_X11_startAnew (f_X0_copy (u, u 0 77 8).1 1 20).1).1 0 1 7) else ((u, u 0 77 8).1, Xisub (-30) (u, u 0 77 8).2)) = (u, Xisub (-30) (u 0 77 8)) := if_neg y1
      have eg : g15_X12_city v = (xup (xup v 0 0 13 (v 0 0 11)) 0 0 14 (v 0 0 12), Xisub (-30) (v 0 0 11)) := by
        simp only [g15_X12_city, g17w_X12_city, g18w_X12_city]
        rw [xup_k (show (12 : Nat) ≠ 13 by decide), xup_k (show (11 : Nat) ≠ 14 by decide), xup_k (show (11 : Nat) ≠ 13 by decide)]
      rw [ei, y4, eg] at SH
      rw [ei, y4, eg]
      (try dsimp only at SH); (try dsimp only)
      have v1 : ∀ t c k, ¬ (t = 0 ∧ c = 0) → ¬ (t = 1 ∧ c = 4) → xup (xup v 0 0 13 (v 0 0 11)) 0 0 14 (v 0 0 12) t c k = m t c k := fun t c k x1 x2 => by
        unfold xup
        rw [if_neg (by omega), if_neg (by omega)]
        exact r3 t c k (by omega) x2
      exact ⟨w, hh, H.keep ⟨SH, SQ0.of8 (fun t c k x1 x2 => ff _ _ _ (by omega) (by omega))⟩ (fun t c k x1 x2 x3 x4 => ff _ _ _ (by omega) x2) (funext fun k => v1 _ _ _ (by omega) (by omega)) (fun k => v1 _ _ _ (by omega) (by omega)) (H.2.2.2.2.2.1.fr (ff _ _ _ (by omega) (by omega)) (fun c k q => ff _ _ _ (by omega) (by omega))) (fun t ht => (H.2.2.2.2.1 t ht).fr ht (fun T c k _ _ => ff _ _ _ (by omega) (by omega)) (fun k => v1 _ _ _ (by omega) (by omega)) (fun k => v1 _ _ _ (by omega) (by omega)) (fun k => v1 _ _ _ (by omega) (by omega)))⟩
  · have em : f_X12_city m a1 = (xup m 0 0 0 0, -3) := by
      have e5 : xup m 0 0 0 0 0 0 5 = m 0 0 5 := xup_k (by decide)
      simp only [f_X12_city, g1w_X12_city, g2c_X12_city, g3b_X12_city, within_x, e5]
      rw [if_neg c, if_pos rfl]
      rfl
    have ec : f_X11_city s a1 = (s, -3) := by
      have e0 : f_X11_city s a1 = if a1 < 0 then (s, -3) else if s 0 77 2 < a1 then (s, -3) else g6_X11_city s a1 := rfl
      rw [e0]
      by_cases z : a1 < 0
      · rw [if_pos z]
      · rw [if_neg z, if_pos (by omega)]
    rw [em, ec]
    exact ⟨w, hh, H.lk FrA.rf FmT.thr⟩
theorem RA_restore {N : Int} (h0 : 1000 ≤ N ∧ N ≤ 800000) {s m : XS} {a1 : Int} (h : RA N s m) (hz1 : (f_X11_restore s a1).1 0 2 3 ≤ 900) (hz2 : (f_X11_restore s a1).1 0 6 3 ≤ 900) (hr : rgI ((f_X12_restore m a1).1 1 1 10)) : (f_X11_restore s a1).2 = (f_X12_restore m a1).2 ∧ RA (N + 120) (f_X11_restore s a1).1 (f_X12_restore m a1).1 := by
  obtain ⟨w, hh, H⟩ := h
  obtain ⟨q1, SH⟩ := RH_restore (a1 := a1) H.1.1
  refine ⟨q1, ?_⟩
  suffices R : RA N (f_X11_restore s a1).1 (f_X12_restore m a1).1 by
    obtain ⟨w', h', R⟩ := R
    exact ⟨w', h', R.le (by omega) (by omega)⟩
  have SQ0 := H.1.2
  by_cases ha : 0 ≤ a1 ∧ a1 ≤ 1
  · obtain ⟨g1, g2, g3, g4, g5, g6, g7⟩ := H.1.1.1
    have ec := Restore_c (s := s) ha
    by_cases hi : m 1 2 a1.toNat = 0
    · have e117 : s 1 117 (Int.toNat a1) = 0 := by
        rcases (show a1 = 0 ∨ a1 = 1 by omega) with rfl | rfl
        · exact g6.1.trans hi
        · exact g7.1.trans hi
      rw [ec, Restore_0 ha hi, if_pos e117]
      exact ⟨w, hh, H.lk FrA.rf FmT.thr⟩
    · have e117 : ¬ s 1 117 (Int.toNat a1) = 0 := by
        rcases (show a1 = 0 ∨ a1 = 1 by omega) with rfl | rfl
        · exact fun z => hi (g6.1.symm.trans z)
        · exact fun z => hi (g7.1.symm.trans z)
      obtain ⟨-, m2⟩ := Restore_m (m := m) ha hi
      rw [ec, if_neg e117] at hz1 hz2 SH ⊢
      generalize (f_X12_restore m a1).1 = v at *
      (try dsimp only at hz1); (try dsimp only at hz2); (try dsimp only at SH); (try dsimp only)
      have vo : ∀ t c k, ¬ (t = 1 ∧ c = 1 ∧ k < 1774) → ¬ (t = 0 ∧ c = 0 ∧ k = 0) → v t c k = m t c k := fun t c k x1 x2 => by rw [m2, if_neg (by omega), if_neg (by omega), if_neg x2]
      have fin : ∀ (y : XS) (A : Nat → Int), Ci 1 y A → BB N (NN A) (A 3) (rA A) → (∀ t c k, ¬ (1 ≤ c ∧ c ≤ 19) → y t c k = s t c k) → (∀ k, k < 1774 → k ≠ 112 → v 1 1 k = A k) → (f_X11_startAnew y).1 0 2 3 ≤ 900 → (f_X11_startAnew y).1 0 6 3 ≤ 900 → RH (f_X11_startAnew y).1 v → RA N (f_X11_startAnew y).1 v := by
        intro y A k1 kB k2 kA hz1 hz2 SH
        obtain ⟨z1, z2, z3⟩ := new_z y
        generalize (f_X11_startAnew y).1 = z at *
        have uo : ∀ t c k, ¬ (t = 0 ∧ c = 0 ∧ k = 17) → ¬ (t = 0 ∧ c = 79 ∧ k = 4) → ¬ (t = 0 ∧ c = 104) → ¬ (1 ≤ c ∧ c ≤ 19) → z t c k = s t c k := fun t c k x1 x2 x3 x4 => (z3 t c k x1 x2 x3).trans (k2 t c k x4)
        have S : RS z v := ⟨SH, SQ0.of8 (fun t c k x1 x2 => uo _ _ _ (by omega) (by omega) (by omega) (by omega))⟩
        refine RA_new (A := A) H (by omega) S (k1.same (fun t j k hj => z3 _ _ _ (by omega) (by omega) (by omega))) kB kA (by rw [m2, if_pos ⟨rfl, rfl, rfl⟩]) z1 (uo _ _ _ (by omega) (by omega) (by omega) (by omega)) hz1 hz2 hr z2 (fun T c k x1 x2 => uo _ _ _ (by omega) (by omega) (by omega) (by omega)) (fun k => vo _ _ _ (by omega) (by omega)) (fun k => vo _ _ _ (by omega) (by omega)) (fun k => vo _ _ _ (by omega) (by omega)) ?_ ?_
        · exact H.2.2.2.2.2.2.1.f2 (vo _ _ _ (by omega) (by omega)) (fun t c k x1 x2 => uo _ _ _ (by omega) (by omega) (by omega) (by omega)) (fun k hk => vo _ _ _ (by omega) (by omega))
        · exact H.2.2.2.2.2.2.2.f2 (vo _ _ _ (by omega) (by omega)) (fun t c k x1 x2 => uo _ _ _ (by omega) (by omega) (by omega) (by omega)) (fun k hk => vo _ _ _ (by omega) (by omega))
      rcases (show a1 = 0 ∨ a1 = 1 by omega) with rfl | rfl
      · obtain ⟨i1, i2⟩ := H.2.2.2.2.2.2.1 hi
        obtain ⟨k1, k2⟩ := Ci_copy_1_39 i1
        exact fin _ _ k1 i2 k2 (fun k x1 x2 => by rw [m2, if_neg (by omega), if_pos ⟨rfl, rfl, by omega⟩]; rfl) hz1 hz2 SH
      · obtain ⟨i1, i2⟩ := H.2.2.2.2.2.2.2 hi
        obtain ⟨k1, k2⟩ := Ci_copy_1_58 i1
        exact fin _ _ k1 i2 k2 (fun k x1 x2 => by rw [m2, if_neg (by omega), if_pos ⟨rfl, rfl, by omega⟩]; rfl) hz1 hz2 SH
  · obtain ⟨n1, n2⟩ := Restore_n (s := s) (m := m) ha
    rw [n1, n2]
    exact ⟨w, hh, H.lk FrA.rf FmT.thr⟩
/-- an image is made -/
theorem mayQ_r2 {A A' : Nat → Int} {c : Nat} {t d : Int} (e : ∀ k, k < 1774 → A' k = A k) (hc : c < 25) (hl : A 5 = 0 ∨ (0 ≤ A 7 ∧ A 7 + A 9 ≤ 900)) : mayQ A' c t d ↔ mayQ A c t d := by
  have en : nmV A' (c : Int) t d = nmV A (c : Int) t d := by
    funext k
    unfold nmV
    rw [e 1 (by omega), e 111 (by omega), show ((c : Int)).toNat = c from rfl, e (61 + c) (by omega)]
  unfold mayQ
  rw [e 5 (by omega), en]
  rcases hl with z | ⟨z1, z2⟩
  · exact ⟨fun _ => Or.inl z, fun _ => Or.inl z⟩
  have el : ∀ l, lwO A' l ↔ lwO A l := fun l => by
    unfold lwO
    rw [e 9 (by omega), e 7 (by omega)]
    constructor
    · rintro ⟨q1, q2⟩
      exact ⟨q1, fun k hk' => by rw [← e _ (by omega)]; exact q2 k hk'⟩
    · rintro ⟨q1, q2⟩
      exact ⟨q1, fun k hk' => by rw [e _ (by omega)]; exact q2 k hk'⟩
  constructor
  · rintro (q | ⟨l, q1, q2⟩)
    · exact Or.inl q
    · exact Or.inr ⟨l, (el l).mp q1, q2⟩
  · rintro (q | ⟨l, q1, q2⟩)
    · exact Or.inl q
    · exact Or.inr ⟨l, (el l).mpr q1, q2⟩
theorem FV.r2 {N : Nat} {s : XS} {A A' : Nat → Int} (h : FV N s A) (e : ∀ k, k < 1774 → A' k = A k) (hN : N ≤ 25) (hl : A 5 = 0 ∨ (0 ≤ A 7 ∧ A 7 + A 9 ≤ 900)) : FV N s A' := by
  obtain ⟨n, a1, a2, a3, a4⟩ := h
  refine ⟨n, a1, a2, fun t ht k hk' => ?_, fun t d ht hd c hc => ⟨(a4 t d ht hd c hc).1, fun q => ?_⟩⟩
  · rw [a3 t ht k hk', e 10 (by omega), e 111 (by omega), e (86 + k) (by omega)]
  · obtain ⟨y1, y2⟩ := (a4 t d ht hd c hc).2 q
    exact ⟨y1, y2.trans (mayQ_r2 e (by omega) hl).symm⟩
theorem CS.l9 {B : Int} {w h : Nat} {s m : XS} (H : CS B w h s m) : m 1 1 5 = 0 ∨ (0 ≤ m 1 1 7 ∧ m 1 1 7 + m 1 1 9 ≤ 900) := by
  obtain ⟨-, ⟨-, -, -, -, h873, h900, -, lx⟩, -⟩ := H
  rcases lx with ⟨t0, t1⟩ | ⟨t0, l, -, t2, t3, t4, -⟩
  · exact Or.inl t0
  · have t2 : m 1 1 9 = (l.length : Int) := t2
    have t3 : 0 ≤ m 1 1 7 := t3
    have t4 : m 1 1 7 + (l.length : Int) ≤ m 1 1 873 := t4
    exact Or.inr ⟨t3, by omega⟩
theorem RA_image {N : Int} (h0 : 1000 ≤ N ∧ N ≤ 800000) {s m : XS} {a1 : Int} (h : RA N s m) : (f_X11_image s a1).2 = (f_X12_image m a1).2 ∧ RA (N + 120) (f_X11_image s a1).1 (f_X12_image m a1).1 := by
  obtain ⟨w, hh, H⟩ := h
  obtain ⟨q1, SH⟩ := RH_image (a1 := a1) H.1.1
  refine ⟨q1, ?_⟩
  suffices R : RA N (f_X11_image s a1).1 (f_X12_image m a1).1 by
    obtain ⟨w', h', R⟩ := R
    exact ⟨w', h', R.le (by omega) (by omega)⟩
  have l9 := H.2.1.l9
  have b25 := H.2.1.1.b25
  have nn := H.2.1.1.nn
  have p3 := H.2.1.pl.2.2.1
  have H0 := H
  obtain ⟨⟨-, SQ0⟩, ⟨c1, c2, c3, c4, c5, c6, c7⟩, R, B, T, V, I0, I1⟩ := H
  have c10 : m 1 1 112 ≤ 10 := by
    obtain ⟨f, n, -, -, -, x1, x2, -⟩ := R
    omega
  by_cases ha : 0 ≤ a1 ∧ a1 ≤ 1
  · obtain ⟨-, m2⟩ := Image_m (m := m) ha
    rw [Image_c (s := s) ha] at SH ⊢
    generalize (f_X12_image m a1).1 = v at *
    (try dsimp only at SH); (try dsimp only)
    have vr : ∀ k, k < 1774 → v 1 1 k = m 1 1 k := fun k hk => by rw [m2, if_neg (by omega), if_neg (by omega), if_neg (by omega)]
    have fin : ∀ (y u : XS) (b i : Nat), ((b = 39 ∧ i = 0) ∨ (b = 58 ∧ i = 1)) → (∀ t c k, ¬ (b ≤ c ∧ c ≤ b + 18) → y t c k = s t c k) → u = xup y 1 117 i 1 → RH u v → (∀ t c k, ¬ (t = 1 ∧ c = 1) → ¬ (t = 1 ∧ c = 2) → ¬ (t = 0 ∧ c = 0 ∧ k = 0) → v t c k = m t c k) → IB N 0 39 u v → IB N 1 58 u v → RA N u v := by
      intro y u b i hb k2 hu SH vo J0 J1
      have uo : ∀ t c k, ¬ (t = 1 ∧ c = 117) → ¬ (b ≤ c ∧ c ≤ b + 18) → u t c k = s t c k := fun t c k z1 z2 => by
        rw [← k2 t c k z2, hu]
        unfold xup
        exact if_neg (by omega)
      refine ⟨w, hh, ⟨SH, SQ0.of8 (fun t c k x1 x2 => uo _ _ _ (by omega) (by omega))⟩, ⟨?_, ?_, ?_, ?_, ?_, ?_, c7⟩, ?_, ?_, fun t ht => (T t ht).fr ht (fun T c k _ _ => uo _ _ _ (by omega) (by omega)) (fun k => vo _ _ _ (by omega) (by omega) (by omega)) (fun k => vo _ _ _ (by omega) (by omega) (by omega)) (fun k => vo _ _ _ (by omega) (by omega) (by omega)), ?_, J0, J1⟩
      · exact (c1.row (vr 1 (by omega)) (vr 2 (by omega)) (fun c hc => vr _ (by omega))).fr (uo _ _ _ (by omega) (by omega)) (uo _ _ _ (by omega) (by omega)) (funext fun k => uo _ _ _ (by omega) (by omega)) (funext fun k => uo _ _ _ (by omega) (by omega))
      · exact (c2.row vr).same (fun t j k hj => uo _ _ _ (by omega) (by omega))
      · rw [uo _ _ _ (by omega) (by omega)]; exact c3
      · rw [uo _ _ _ (by omega) (by omega)]; exact c4
      · rw [vr 3 (by omega)]
        exact c5.same (fun k hk => vr (36 + k) (by have := hk.1; omega)) p3
      · rw [vr 10 (by omega)]; exact c6
      · exact R.same (uo _ _ _ (by omega) (by omega)) (uo _ _ _ (by omega) (by omega)) (fun t c k x1 x2 => uo _ _ _ (by omega) (by omega)) (vr 3 (by omega)) (fun k x1 x2 => vr k (by omega))
      · exact B.same (vr 3 (by omega)) p3 (fun k x1 x2 => vr k (by omega)) c10
      · exact (V.fr (uo _ _ _ (by omega) (by omega)) (fun c k q => uo _ _ _ (by omega) (by omega))).r2 vr b25 l9
    rcases (show a1 = 0 ∨ a1 = 1 by omega) with rfl | rfl
    · obtain ⟨k1, k2⟩ := Ci_copy_39_1 c2
      have er : ∀ k, k < 1774 → v 1 1 (k + 1774 * (0 + 1)) = m 1 1 k := fun k hk => by
        rw [m2, if_neg (by omega), if_pos ⟨rfl, rfl, by omega, by omega⟩]
        exact congrArg (m 1 1) (by show k + 1774 * (0 + 1) - 1774 * (0 + 1) = k; omega)
      have vo : ∀ t c k, ¬ (t = 1 ∧ c = 1) → ¬ (t = 1 ∧ c = 2) → ¬ (t = 0 ∧ c = 0 ∧ k = 0) → v t c k = m t c k := fun t c k x1 x2 x3 => by rw [m2, if_neg (by omega), if_neg (by omega), if_neg x3]
      refine fin _ _ 39 0 (Or.inl ⟨rfl, rfl⟩) k2 rfl SH vo ?_ ?_
      · refine IB.mk (A := m 1 1) (k1.same (fun t j k hj => xup_c (by omega))) (by rw [nn]; exact c5) er
      · refine I1.f2 ?_ (fun t c k x1 x2 => ?_) (fun k hk => by rw [m2, if_neg (by omega), if_neg (by omega), if_neg (by omega)])
        · rw [m2, if_neg (by show ¬ (1 = 1 ∧ 2 = 2 ∧ 1 = 0); decide), if_neg (by omega), if_neg (by omega)]
        · rw [← k2 t c k (by omega)]; exact xup_c (by omega)
    · obtain ⟨k1, k2⟩ := Ci_copy_58_1 c2
      have er : ∀ k, k < 1774 → v 1 1 (k + 1774 * (1 + 1)) = m 1 1 k := fun k hk => by
        rw [m2, if_neg (by omega), if_pos ⟨rfl, rfl, by omega, by omega⟩]
        exact congrArg (m 1 1) (by show k + 1774 * (1 + 1) - 1774 * (1 + 1) = k; omega)
      have vo : ∀ t c k, ¬ (t = 1 ∧ c = 1) → ¬ (t = 1 ∧ c = 2) → ¬ (t = 0 ∧ c = 0 ∧ k = 0) → v t c k = m t c k := fun t c k x1 x2 x3 => by rw [m2, if_neg (by omega), if_neg (by omega), if_neg x3]
      refine fin _ _ 58 1 (Or.inr ⟨rfl, rfl⟩) k2 rfl SH vo ?_ ?_
      · refine I0.f2 ?_ (fun t c k x1 x2 => ?_) (fun k hk => by rw [m2, if_neg (by omega), if_neg (by omega), if_neg (by omega)])
        · rw [m2, if_neg (by show ¬ (1 = 1 ∧ 2 = 2 ∧ 0 = 1); decide), if_neg (by omega), if_neg (by omega)]
        · rw [← k2 t c k (by omega)]; exact xup_c (by omega)
      · refine IB.mk (A := m 1 1) (k1.same (fun t j k hj => xup_c (by omega))) (by rw [nn]; exact c5) er
  · obtain ⟨n1, n2⟩ := Image_n (s := s) (m := m) ha
    rw [n1, n2]
    exact ⟨w, hh, H0.lk FrA.rf FmT.thr⟩
