/-! feed, city, image, restore keep it too -/
theorem RH_feed {s m : XS} {a1 a2 a3 a4 a5 : Int} (h : RH s m) (hb : (f_X11_feed s a1 a2 a3 a4 a5).1 0 77 2 ≤ 900) : (f_X11_feed s a1 a2 a3 a4 a5).2 = (f_X12_feed m a1 a2 a3 a4 a5).2 ∧ RH (f_X11_feed s a1 a2 a3 a4 a5).1 (f_X12_feed m a1 a2 a3 a4 a5).1 := by
  obtain ⟨q1, q2⟩ := RN_feed h.1 hb
  obtain ⟨h1, h2, h3, h4, h5, h6⟩ := h
  have mr : ∀ k, (f_X12_feed m a1 a2 a3 a4 a5).1 1 1 k = m 1 1 k := fun k => feedm_f (by omega) (by omega)
  refine ⟨q1, q2, ?_, ?_, ?_, ?_, ?_⟩
  · unfold LW
    rw [feedc_f (by omega) (by omega)]
    exact h2
  · exact h3.same (fun d => feedc_f (by omega) (by omega)) (feedc_f (by omega) (by omega)) (feedc_f (by omega) (by omega))
  · rw [feedm_f (by omega) (by omega)]
    exact fun q => (h4 q).same (fun d => feedc_f (by omega) (by omega)) (feedc_f (by omega) (by omega)) (feedc_f (by omega) (by omega))
  · rw [feedm_f (by omega) (by omega)]
    exact fun q => (h5 q).same (fun d => feedc_f (by omega) (by omega)) (feedc_f (by omega) (by omega)) (feedc_f (by omega) (by omega))
  · exact HV.same h1.2.2.2.2.1 h3 (mr _) (mr _) (fun c _ => mr _) (feedc_f (by omega) (by omega)) (feedc_f (by omega) (by omega)) (funext fun k => feedc_f (by omega) (by omega)) h6
theorem new_h (s : XS) : (f_X11_startAnew s).1 0 104 3 = 0 ∧ (f_X11_startAnew s).1 0 104 4 = 0 := by
  simp only [f_X11_startAnew, g1w_X11_startAnew, g2c_X11_startAnew, g3c_X11_startAnew, f_X2_forget, g1w_X2_forget, f_X3_forget, g1w_X3_forget, g2w_X3_forget]
  constructor
  · rw [xup_k (by decide), xup_s]
  · rw [xup_s]
theorem City_c {s : XS} {n : Int} (h0 : 0 ≤ n) (h1 : n ≤ s 0 77 2) : f_X11_city s n = if (f_X5_read s n).2 = 0 then ((f_X11_startAnew (f_X0_copy (f_X5_read s n).1 1 20).1).1, (f_X11_startAnew (f_X0_copy (f_X5_read s n).1 1 20).1).1 0 1 7) else ((f_X5_read s n).1, Xisub (-30) (f_X5_read s n).2) := by
  have e0 : f_X11_city s n = if n < 0 then (s, -3) else if s 0 77 2 < n then (s, -3) else g6_X11_city s n := rfl
  rw [e0, if_neg (by omega), if_neg (by omega)]
  rfl
theorem read_nx {s : XS} {n : Int} (h : LW s) : NX 20 (f_X5_read s n).1 ∧ LW (f_X5_read s n).1 := by
  have e : f_X5_read s n = g1c_X5_read (f_X0_clear s 20).1 n := rfl
  rw [e]
  exact ki_g1c_X5_read (ki_clear h)
theorem RH_city {s m : XS} {a1 : Int} (h : RH s m) : (f_X11_city s a1).2 = (f_X12_city m a1).2 ∧ RH (f_X11_city s a1).1 (f_X12_city m a1).1 := by
  obtain ⟨q1, q2⟩ := RN_city (a1 := a1) h.1
  refine ⟨q1, q2, ?_⟩
  have hh := h
  obtain ⟨⟨⟨f1, f2, f3⟩, f4, f5, f6, hN, -, -⟩, h2, h3, h4, h5, h6⟩ := h
  by_cases c : 0 ≤ a1 ∧ a1 ≤ m 0 0 5
  · have hc2 := City_x (n := a1) f1 f2 (by omega)
    have nx := read_nx (n := a1) h2
    obtain ⟨u, v, r1, r2, r3, r4, r5, r⟩ := Read_x (n := a1) f1 c.1 c.2 (by omega)
    rw [City_c c.1 (by omega)]
    rw [r1] at nx ⊢
    have nx1 : NX 20 u := nx.1
    have nx2 : LW u := nx.2
    have ff : ∀ t c k, ¬ (c = 77) → ¬ (20 ≤ c ∧ c ≤ 38) → u t c k = s t c k := fun t c k y1 y2 => r2 t c k (by omega) (by omega) y2
    rcases r with ⟨y1, y2, y3, y4, y5⟩ | ⟨y1, y2, y3, y4⟩
    · have ei : (if (u, u 0 77 8).2 = 0 then ((f_X11_startAnew (f_X0_copy (u, u 0 77 8).1 1 20).1).1, (f_X11_startAnew (f_X0_copy (u, u 0 77 8).1 1 20).1).1 0 1 7) else ((u, u 0 77 8).1, Xisub (-30) (u, u 0 77 8).2)) = ((f_X11_startAnew (f_X0_copy u 1 20).1).1, (f_X11_startAnew (f_X0_copy u 1 20).1).1 0 1 7) := if_pos y2
      rw [ei, y5]
      obtain ⟨w1, -, -, -, -⟩ := g20_x v
      have k1 := NX_copy_1_20 nx1
      obtain ⟨-, k2⟩ := Ci_copy_1_20 y1
      generalize (f_X0_copy u 1 20).1 = y at *
      have nz := new_x y
      have nh := new_h y
      generalize (f_X11_startAnew y).1 = z at *
      generalize (g20_X12_city v).1 = V at *
      have v2 : ∀ k, V 1 2 k = m 1 2 k := fun k => (w1 1 2 k (by omega) (by omega)).trans (r3 1 2 k (by omega) (by omega))
      refine ⟨?_, ?_, ?_, ?_, ?_⟩
      · show z 3 77 10 = 21 ∨ z 3 77 10 = 25
        rw [nz 3 77 10 (by omega), k2 3 77 10 (by omega)]
        exact nx2
      · exact k1.same (fun d => nz _ _ _ (by omega)) (nz _ _ _ (by omega)) (nz _ _ _ (by omega))
      · rw [v2]
        exact fun q => (h4 q).same (fun d => (nz _ _ _ (by omega)).trans ((k2 _ _ _ (by omega)).trans (ff _ _ _ (by omega) (by omega)))) ((nz _ _ _ (by omega)).trans ((k2 _ _ _ (by omega)).trans (ff _ _ _ (by omega) (by omega)))) ((nz _ _ _ (by omega)).trans ((k2 _ _ _ (by omega)).trans (ff _ _ _ (by omega) (by omega))))
      · rw [v2]
        exact fun q => (h5 q).same (fun d => (nz _ _ _ (by omega)).trans ((k2 _ _ _ (by omega)).trans (ff _ _ _ (by omega) (by omega)))) ((nz _ _ _ (by omega)).trans ((k2 _ _ _ (by omega)).trans (ff _ _ _ (by omega) (by omega)))) ((nz _ _ _ (by omega)).trans ((k2 _ _ _ (by omega)).trans (ff _ _ _ (by omega) (by omega))))
      · refine HV.zero nh.1 nh.2 (fun k => ?_)
        show -2147483648 ≤ z 1 105 k ∧ z 1 105 k ≤ 2147483647
        rw [nz 1 105 k (by omega), k2 1 105 k (by omega), ff 1 105 k (by omega) (by omega)]
        exact h6.rg k
    · have ei : (if (u, u 0 77 8).2 = 0 then ((f_X11_startAnew (f_X0_copy (u, u 0 77 8).1 1 20).1).1, (f_X11_startAnew (f_X0_copy (u, u 0 77 8).1 1 20).1).1 0 1 7) else ((u, u 0 77 8).1, Xisub (-30) (u, u 0 77 8).2)) = (u, Xisub (-30) (u 0 77 8)) := if_neg y1
      have eg : g15_X12_city v = (xup (xup v 0 0 13 (v 0 0 11)) 0 0 14 (v 0 0 12), Xisub (-30) (v 0 0 11)) := by
        simp only [g15_X12_city, g17w_X12_city, g18w_X12_city]
        rw [xup_k (show (12 : Nat) ≠ 13 by decide), xup_k (show (11 : Nat) ≠ 14 by decide), xup_k (show (11 : Nat) ≠ 13 by decide)]
      rw [ei, y4, eg]
      dsimp only
      have v1 : ∀ c k, c = 1 ∨ c = 2 → xup (xup v 0 0 13 (v 0 0 11)) 0 0 14 (v 0 0 12) 1 c k = m 1 c k := fun c k q => by
        rw [xup_t (by decide), xup_t (by decide)]
        exact r3 1 c k (by omega) (by omega)
      refine ⟨nx2, h3.same (fun d => ff _ _ _ (by omega) (by omega)) (ff _ _ _ (by omega) (by omega)) (ff _ _ _ (by omega) (by omega)), ?_, ?_, ?_⟩
      · rw [v1 2 0 (Or.inr rfl)]
        exact fun q => (h4 q).same (fun d => ff _ _ _ (by omega) (by omega)) (ff _ _ _ (by omega) (by omega)) (ff _ _ _ (by omega) (by omega))
      · rw [v1 2 1 (Or.inr rfl)]
        exact fun q => (h5 q).same (fun d => ff _ _ _ (by omega) (by omega)) (ff _ _ _ (by omega) (by omega)) (ff _ _ _ (by omega) (by omega))
      · exact HV.same hN h3 (v1 1 _ (Or.inl rfl)) (v1 1 _ (Or.inl rfl)) (fun c _ => v1 1 _ (Or.inl rfl)) (ff _ _ _ (by omega) (by omega)) (ff _ _ _ (by omega) (by omega)) (funext fun k => ff _ _ _ (by omega) (by omega)) h6
  · obtain ⟨-, q⟩ := City_x (n := a1) f1 f2 (by omega)
    have em : f_X12_city m a1 = (xup m 0 0 0 0, -3) := by
      have e5 : xup m 0 0 0 0 0 0 5 = m 0 0 5 := xup_k (by decide)
      simp only [f_X12_city, g1w_X12_city, g2c_X12_city, g3b_X12_city, within_x, e5]
      rw [if_neg c, if_pos rfl]
      rfl
    have ec : f_X11_city s a1 = (s, -3) := by
      have e0 : f_X11_city s a1 = if a1 < 0 then (s, -3) else if s 0 77 2 < a1 then (s, -3) else g6_X11_city s a1 := rfl
      rw [e0]
      by_cases z : a1 < 0
      · rw [if_pos z]
      · rw [if_neg z, if_pos (by omega)]
    rw [em, ec]
    exact (RH_thr hh).2
theorem RH_image {s m : XS} {a1 : Int} (h : RH s m) : (f_X11_image s a1).2 = (f_X12_image m a1).2 ∧ RH (f_X11_image s a1).1 (f_X12_image m a1).1 := by
  obtain ⟨q1, q2⟩ := RN_image (a1 := a1) h.1
  refine ⟨q1, q2, ?_⟩
  by_cases ha : 0 ≤ a1 ∧ a1 ≤ 1
  · obtain ⟨h1, h2, h3, h4, h5, h6⟩ := h
    obtain ⟨-, m2⟩ := Image_m (m := m) ha
    generalize (f_X12_image m a1).1 = v at *
    rw [Image_c (s := s) ha]
    dsimp only
    have vo : ∀ t c k, ¬ (t = 1 ∧ c = 2 ∧ k = a1.toNat) → ¬ (t = 1 ∧ c = 1 ∧ 1774 ≤ k) → ¬ (t = 0 ∧ c = 0 ∧ k = 0) → v t c k = m t c k := fun t c k z1 z2 z3 => by rw [m2, if_neg z1, if_neg (by omega), if_neg z3]
    rcases (show a1 = 0 ∨ a1 = 1 by omega) with rfl | rfl
    · have k1 := NX_copy_39_1 h3
      obtain ⟨-, k2⟩ := Nt_copy_39_1 h1.2.2.2.2.1
      show LW (xup (f_X0_copy s 39 1).1 1 117 0 1) ∧ NX 1 (xup (f_X0_copy s 39 1).1 1 117 0 1) ∧ (v 1 2 0 ≠ 0 → NX 39 (xup (f_X0_copy s 39 1).1 1 117 0 1)) ∧ (v 1 2 1 ≠ 0 → NX 58 (xup (f_X0_copy s 39 1).1 1 117 0 1)) ∧ HV (xup (f_X0_copy s 39 1).1 1 117 0 1) (v 1 1) (NN (v 1 1))
      generalize (f_X0_copy s 39 1).1 = y at *
      have uo : ∀ t c k, ¬ (t = 1 ∧ c = 117 ∧ k = 0) → ¬ (39 ≤ c ∧ c ≤ 57) → xup y 1 117 0 1 t c k = s t c k := fun t c k z1 z2 => by
        rw [← k2 t c k z2]
        unfold xup
        exact if_neg z1
      refine ⟨?_, h3.same (fun d => uo _ _ _ (by omega) (by omega)) (uo _ _ _ (by omega) (by omega)) (uo _ _ _ (by omega) (by omega)), fun _ => k1.same (fun d => xup_c (by omega)) (xup_t (by decide)) (xup_t (by decide)), ?_, ?_⟩
      · unfold LW
        rw [uo _ _ _ (by omega) (by omega)]
        exact h2
      · rw [vo 1 2 1 (by show ¬ (1 = 1 ∧ 2 = 2 ∧ 1 = 0); decide) (by omega) (by omega)]
        exact fun q => (h5 q).same (fun d => uo _ _ _ (by omega) (by omega)) (uo _ _ _ (by omega) (by omega)) (uo _ _ _ (by omega) (by omega))
      · exact HV.same h1.2.2.2.2.1 h3 (vo _ _ _ (by omega) (by omega) (by omega)) (vo _ _ _ (by omega) (by omega) (by omega)) (fun c _ => vo _ _ _ (by omega) (by omega) (by omega)) (uo _ _ _ (by omega) (by omega)) (uo _ _ _ (by omega) (by omega)) (funext fun k => uo _ _ _ (by omega) (by omega)) h6
    · have k1 := NX_copy_58_1 h3
      obtain ⟨-, k2⟩ := Nt_copy_58_1 h1.2.2.2.2.1
      show LW (xup (f_X0_copy s 58 1).1 1 117 1 1) ∧ NX 1 (xup (f_X0_copy s 58 1).1 1 117 1 1) ∧ (v 1 2 0 ≠ 0 → NX 39 (xup (f_X0_copy s 58 1).1 1 117 1 1)) ∧ (v 1 2 1 ≠ 0 → NX 58 (xup (f_X0_copy s 58 1).1 1 117 1 1)) ∧ HV (xup (f_X0_copy s 58 1).1 1 117 1 1) (v 1 1) (NN (v 1 1))
      generalize (f_X0_copy s 58 1).1 = y at *
      have uo : ∀ t c k, ¬ (t = 1 ∧ c = 117 ∧ k = 1) → ¬ (58 ≤ c ∧ c ≤ 76) → xup y 1 117 1 1 t c k = s t c k := fun t c k z1 z2 => by
        rw [← k2 t c k z2]
        unfold xup
        exact if_neg z1
      refine ⟨?_, h3.same (fun d => uo _ _ _ (by omega) (by omega)) (uo _ _ _ (by omega) (by omega)) (uo _ _ _ (by omega) (by omega)), ?_, fun _ => k1.same (fun d => xup_c (by omega)) (xup_t (by decide)) (xup_t (by decide)), ?_⟩
      · unfold LW
        rw [uo _ _ _ (by omega) (by omega)]
        exact h2
      · rw [vo 1 2 0 (by show ¬ (1 = 1 ∧ 2 = 2 ∧ 0 = 1); decide) (by omega) (by omega)]
        exact fun q => (h4 q).same (fun d => uo _ _ _ (by omega) (by omega)) (uo _ _ _ (by omega) (by omega)) (uo _ _ _ (by omega) (by omega))
      · exact HV.same h1.2.2.2.2.1 h3 (vo _ _ _ (by omega) (by omega) (by omega)) (vo _ _ _ (by omega) (by omega) (by omega)) (fun c _ => vo _ _ _ (by omega) (by omega) (by omega)) (uo _ _ _ (by omega) (by omega)) (uo _ _ _ (by omega) (by omega)) (funext fun k => uo _ _ _ (by omega) (by omega)) h6
  · obtain ⟨n1, n2⟩ := Image_n (s := s) (m := m) ha
    rw [n1, n2]
    exact (RH_thr h).2
theorem RH_restore {s m : XS} {a1 : Int} (h : RH s m) : (f_X11_restore s a1).2 = (f_X12_restore m a1).2 ∧ RH (f_X11_restore s a1).1 (f_X12_restore m a1).1 := by
  obtain ⟨q1, q2⟩ := RN_restore (a1 := a1) h.1
  refine ⟨q1, q2, ?_⟩
  by_cases ha : 0 ≤ a1 ∧ a1 ≤ 1
  · have hh := h
    obtain ⟨⟨g1, g2, g3, g4, g5, g6, g7⟩, h2, h3, h4, h5, h6⟩ := h
    have ec := Restore_c (s := s) ha
    by_cases hi : m 1 2 a1.toNat = 0
    · have e117 : s 1 117 (Int.toNat a1) = 0 := by
        rcases (show a1 = 0 ∨ a1 = 1 by omega) with rfl | rfl
        · exact g6.1.trans hi
        · exact g7.1.trans hi
      rw [ec, Restore_0 ha hi, if_pos e117]
      exact (RH_thr hh).2
    · have e117 : ¬ s 1 117 (Int.toNat a1) = 0 := by
        rcases (show a1 = 0 ∨ a1 = 1 by omega) with rfl | rfl
        · exact fun z => hi (g6.1.symm.trans z)
        · exact fun z => hi (g7.1.symm.trans z)
      obtain ⟨-, m2⟩ := Restore_m (m := m) ha hi
      rw [ec, if_neg e117]
      generalize (f_X12_restore m a1).1 = v at *
      dsimp only
      have v2 : ∀ k, v 1 2 k = m 1 2 k := fun k => by rw [m2, if_neg (by omega), if_neg (by omega), if_neg (by omega)]
      have fin : ∀ w : XS, NX 1 w → (∀ t c k, ¬ (1 ≤ c ∧ c ≤ 19) → w t c k = s t c k) → LW (f_X11_startAnew w).1 ∧ NX 1 (f_X11_startAnew w).1 ∧ (v 1 2 0 ≠ 0 → NX 39 (f_X11_startAnew w).1) ∧ (v 1 2 1 ≠ 0 → NX 58 (f_X11_startAnew w).1) ∧ HV (f_X11_startAnew w).1 (v 1 1) (NN (v 1 1)) := by
        intro w k1 k2
        have nx := new_x w
        have nh := new_h w
        generalize (f_X11_startAnew w).1 = z at *
        have uo : ∀ t c k, ¬ (c = 0 ∨ c = 79 ∨ c = 104) → ¬ (1 ≤ c ∧ c ≤ 19) → z t c k = s t c k := fun t c k z1 z2 => (nx t c k z1).trans (k2 t c k z2)
        refine ⟨?_, k1.same (fun d => nx _ _ _ (by omega)) (nx _ _ _ (by omega)) (nx _ _ _ (by omega)), ?_, ?_, HV.zero nh.1 nh.2 (fun k => by rw [uo _ _ _ (by omega) (by omega)]; exact h6.rg k)⟩
        · unfold LW
          rw [uo _ _ _ (by omega) (by omega)]
          exact h2
        · rw [v2]
          exact fun q => (h4 q).same (fun d => uo _ _ _ (by omega) (by omega)) (uo _ _ _ (by omega) (by omega)) (uo _ _ _ (by omega) (by omega))
        · rw [v2]
          exact fun q => (h5 q).same (fun d => uo _ _ _ (by omega) (by omega)) (uo _ _ _ (by omega) (by omega)) (uo _ _ _ (by omega) (by omega))
      rcases (show a1 = 0 ∨ a1 = 1 by omega) with rfl | rfl
      · obtain ⟨-, k2⟩ := Nt_copy_1_39 (g6.2 hi)
        exact fin _ (NX_copy_1_39 (h4 hi)) k2
      · obtain ⟨-, k2⟩ := Nt_copy_1_58 (g7.2 hi)
        exact fin _ (NX_copy_1_58 (h5 hi)) k2
  · obtain ⟨n1, n2⟩ := Restore_n (s := s) (m := m) ha
    rw [n1, n2]
    exact (RH_thr h).2
theorem RH_street {s m : XS} {a1 a2 : Int} (h : RH s m) : (f_X11_street s a1 a2).2 = (f_X12_street m a1 a2).2 ∧ RH (f_X11_street s a1 a2).1 (f_X12_street m a1 a2).1 := by
  obtain ⟨a, b, e⟩ := Street_x (c := a1) (d := a2) h.1.2.2.2.2.1
  rw [a, b]
  exact ⟨e, RH_thr h⟩
