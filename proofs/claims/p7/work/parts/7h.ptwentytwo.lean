/-! feed, city, image, restore keep the relation -/
theorem Feed_c (s : XS) (a1 a2 a3 a4 a5 : Int) : f_X11_feed s a1 a2 a3 a4 a5 = if 900 < s 0 77 2 + 20 then (s, -5) else ((f_X5_put (f_X5_put (f_X5_put (f_X5_put (f_X5_put s a1).1 a2).1 a3).1 a4).1 a5).1, (f_X5_put (f_X5_put (f_X5_put (f_X5_put (f_X5_put s a1).1 a2).1 a3).1 a4).1 a5).1 0 77 2) := by
  have er : f_X5_hasRoom s = (s, if 900 < s 0 77 2 + 20 then 0 else 1) := by
    simp only [f_X5_hasRoom, g1b_X5_hasRoom, g2_X5_hasRoom, g3_X5_hasRoom]
    split <;> rfl
  simp only [f_X11_feed, g1c_X11_feed, g2b_X11_feed, g3_X11_feed, g4_X11_feed, g5c_X11_feed, g6c_X11_feed, g7c_X11_feed, g8c_X11_feed, g9c_X11_feed, g10c_X11_feed, f_X5_fed, er]
  by_cases z : 900 < s 0 77 2 + 20
  · simp only [if_pos z, if_true]
  · simp only [if_neg z, n10, if_false]
theorem Feed_m (m : XS) (a1 a2 a3 a4 a5 : Int) : f_X12_feed m a1 a2 a3 a4 a5 = if 900 < xup m 0 0 0 0 0 0 5 + 20 then (xup m 0 0 0 0, -5) else L5_X12_feed (0 + 1 + 1 + 1 + 1 + 1 + 1 + 1 + 1 + 1 + 1 + 1 + 1 + 1 + 1 + 1 + 1 + 1 + 1 + 1 + 1 + 1) (xup m 0 0 0 0) a1 a2 a3 a4 a5 0 := rfl
theorem feedc_f {s : XS} {a1 a2 a3 a4 a5 : Int} {t c k : Nat} (h1 : ¬ (t = 0 ∧ c = 77 ∧ k = 2)) (h2 : ¬ (t = 1 ∧ c = 78)) : (f_X11_feed s a1 a2 a3 a4 a5).1 t c k = s t c k := by
  rw [Feed_c]
  split
  · rfl
  · show (f_X5_put (f_X5_put (f_X5_put (f_X5_put (f_X5_put s a1).1 a2).1 a3).1 a4).1 a5).1 t c k = _
    rw [putf_x h1 h2, putf_x h1 h2, putf_x h1 h2, putf_x h1 h2, putf_x h1 h2]
theorem thr_f {m : XS} {v : Int} {t c k : Nat} (h : ¬ (t = 0 ∧ c = 0 ∧ k = 0)) : xup m 0 0 0 v t c k = m t c k := by
  unfold xup
  exact if_neg h
theorem feedm_f {m : XS} {a1 a2 a3 a4 a5 : Int} {t c k : Nat} (h1 : ¬ (t = 0 ∧ c = 0 ∧ (k = 0 ∨ k = 5))) (h2 : ¬ (t = 1 ∧ c = 3)) : (f_X12_feed m a1 a2 a3 a4 a5).1 t c k = m t c k := by
  rw [Feed_m]
  split
  · exact thr_f (by omega)
  · rw [feed_f (by omega) h2]
    exact thr_f (by omega)
theorem Im.fr {i b : Nat} {s m u v : XS} (e1 : v 1 2 i = m 1 2 i) (e2 : u 1 117 i = s 1 117 i) (e3 : ∀ t c k, b ≤ c → c ≤ b + 18 → u t c k = s t c k) (e4 : ∀ k, k ≤ 35 → v 1 1 (k + 1774 * (i + 1)) = m 1 1 (k + 1774 * (i + 1))) (h : Im i b s m) : Im i b u v := by
  unfold Im
  rw [e1, e2]
  exact ⟨h.1, fun q => (h.2 q).same (e3 _ _ _ (by omega) (by omega)) (e3 _ _ _ (by omega) (by omega)) (fun d => e3 _ _ _ (by omega) (by omega)) (fun d => e3 _ _ _ (by omega) (by omega)) (fun k hk => e4 k (by omega))⟩
theorem RN_feed {s m : XS} {a1 a2 a3 a4 a5 : Int} (h : RN s m) (hb : (f_X11_feed s a1 a2 a3 a4 a5).1 0 77 2 ≤ 900) : (f_X11_feed s a1 a2 a3 a4 a5).2 = (f_X12_feed m a1 a2 a3 a4 a5).2 ∧ RN (f_X11_feed s a1 a2 a3 a4 a5).1 (f_X12_feed m a1 a2 a3 a4 a5).1 := by
  obtain ⟨h1, h2, h3, h4, h5, h6, h7⟩ := h
  obtain ⟨f1, f2⟩ := Feed_x a1 a2 a3 a4 a5 h1
  refine ⟨f1, f2, hb, ?_, ?_, ?_, ?_, ?_⟩
  · rw [feedc_f (by omega) (by omega), feedm_f (by omega) (by omega)]; exact h3
  · rw [feedc_f (by omega) (by omega), feedm_f (by omega) (by omega)]; exact h4
  · exact h5.same (feedc_f (by omega) (by omega)) (feedc_f (by omega) (by omega)) (fun d => feedc_f (by omega) (by omega)) (fun d => feedc_f (by omega) (by omega)) (fun k _ => feedm_f (by omega) (by omega))
  · exact h6.fr (feedm_f (by omega) (by omega)) (feedc_f (by omega) (by omega)) (fun t c k q1 q2 => feedc_f (by omega) (by omega)) (fun k _ => feedm_f (by omega) (by omega))
  · exact h7.fr (feedm_f (by omega) (by omega)) (feedc_f (by omega) (by omega)) (fun t c k q1 q2 => feedc_f (by omega) (by omega)) (fun k _ => feedm_f (by omega) (by omega))
theorem RN_thr {s m : XS} (h : RN s m) : RN s (xup m 0 0 0 0) := h.same (fun _ _ _ _ => rfl) (fun t c k q => thr_f (by unfold pnM at q; omega))
theorem RN_city {s m : XS} {a1 : Int} (h : RN s m) : (f_X11_city s a1).2 = (f_X12_city m a1).2 ∧ RN (f_X11_city s a1).1 (f_X12_city m a1).1 := by
  have hh := h
  obtain ⟨⟨f1, f2, f3⟩, h2, h3, h4, h5, h6, h7⟩ := h
  obtain ⟨e, q⟩ := City_x (n := a1) f1 f2 (by omega)
  refine ⟨e, ?_⟩
  rcases q with ⟨-, q1, q2⟩ | ⟨q1, q2, q3, q4, q5, q6, q7⟩ | ⟨q1, q2, q3, q4, q5, q6, q7⟩
  · rw [q1, q2]
    exact RN_thr hh
  · generalize (f_X11_city s a1).1 = u at *
    generalize (f_X12_city m a1).1 = v at *
    have e78 : u 1 78 = s 1 78 := funext fun k => q1 1 78 k (by omega) (by omega) (by omega)
    have e3 : v 1 3 = m 1 3 := funext fun k => q2 1 3 k (by omega) (by omega) (by omega)
    refine ⟨⟨by rw [e78, e3]; exact f1, by rw [q4, q5], by omega⟩, by omega, q6, q7, ?_, ?_, ?_⟩
    · exact h5.same (q1 _ _ _ (by omega) (by omega) (by omega)) (q1 _ _ _ (by omega) (by omega) (by omega)) (fun d => q1 _ _ _ (by omega) (by omega) (by omega)) (fun d => q1 _ _ _ (by omega) (by omega) (by omega)) (fun k _ => by rw [q3])
    · exact h6.fr (q2 _ _ _ (by omega) (by omega) (by omega)) (q1 _ _ _ (by omega) (by omega) (by omega)) (fun t c k _ _ => q1 _ _ _ (by omega) (by omega) (by omega)) (fun k _ => by rw [q3])
    · exact h7.fr (q2 _ _ _ (by omega) (by omega) (by omega)) (q1 _ _ _ (by omega) (by omega) (by omega)) (fun t c k _ _ => q1 _ _ _ (by omega) (by omega) (by omega)) (fun k _ => by rw [q3])
  · generalize (f_X11_city s a1).1 = u at *
    generalize (f_X12_city m a1).1 = v at *
    have e78 : u 1 78 = s 1 78 := funext fun k => q1 1 78 k (by omega) (by omega) (by omega) (by omega) (by omega)
    have e3 : v 1 3 = m 1 3 := funext fun k => q2 1 3 k (by omega) (by omega) (by omega)
    refine ⟨⟨by rw [e78, e3]; exact f1, by rw [q4, q5], by omega⟩, by omega, q6, q7, q3.2.2.1, ?_, ?_⟩
    · exact h6.fr (q2 _ _ _ (by omega) (by omega) (by omega)) (q1 _ _ _ (by omega) (by omega) (by omega) (by omega) (by omega)) (fun t c k _ _ => q1 _ _ _ (by omega) (by omega) (by omega) (by omega) (by omega)) (fun k _ => q2 _ _ _ (by omega) (by omega) (by omega))
    · exact h7.fr (q2 _ _ _ (by omega) (by omega) (by omega)) (q1 _ _ _ (by omega) (by omega) (by omega) (by omega) (by omega)) (fun t c k _ _ => q1 _ _ _ (by omega) (by omega) (by omega) (by omega) (by omega)) (fun k _ => q2 _ _ _ (by omega) (by omega) (by omega))
/-- what both hold beside the cities is as it was -/
theorem Ft.fr {s m u v : XS} (e1 : u 1 78 = s 1 78) (e2 : v 1 3 = m 1 3) (e3 : u 0 77 2 = s 0 77 2) (e4 : v 0 0 5 = m 0 0 5) (h : Ft s m) : Ft u v := by
  obtain ⟨f1, f2, f3⟩ := h
  exact ⟨by rw [e1, e2]; exact f1, by rw [e3, e4]; exact f2, by rw [e3]; exact f3⟩
theorem RN_image {s m : XS} {a1 : Int} (h : RN s m) : (f_X11_image s a1).2 = (f_X12_image m a1).2 ∧ RN (f_X11_image s a1).1 (f_X12_image m a1).1 := by
  by_cases ha : 0 ≤ a1 ∧ a1 ≤ 1
  · obtain ⟨h1, h2, h3, h4, h5, h6, h7⟩ := h
    obtain ⟨m1, m2⟩ := Image_m (m := m) ha
    rw [m1]
    generalize (f_X12_image m a1).1 = v at *
    have ec := Image_c (s := s) ha
    rw [ec]
    refine ⟨rfl, ?_⟩
    dsimp only
    have vo : ∀ t c k, ¬ (t = 1 ∧ c = 2 ∧ k = a1.toNat) → ¬ (t = 1 ∧ c = 1 ∧ 1774 * (a1 + 1) ≤ (k : Int) ∧ (k : Int) < 1774 * (a1 + 1) + 1774) → ¬ (t = 0 ∧ c = 0 ∧ k = 0) → v t c k = m t c k := fun t c k z1 z2 z3 => by rw [m2, if_neg z1, if_neg z2, if_neg z3]
    have vi : ∀ k : Nat, k < 1774 → v 1 1 (k + 1774 * (a1.toNat + 1)) = m 1 1 k := fun k hk => by
      rw [m2, if_neg (by omega), if_pos ⟨rfl, rfl, by omega, by omega⟩]
      exact congrArg (m 1 1) (by omega)
    have v2 : v 1 2 a1.toNat = 1 := by rw [m2, if_pos ⟨rfl, rfl, rfl⟩]
    rcases (show a1 = 0 ∨ a1 = 1 by omega) with rfl | rfl
    · obtain ⟨k1, k2⟩ := Nt_copy_39_1 h5
      show RN (xup (f_X0_copy s 39 1).1 1 117 0 1) v
      generalize (f_X0_copy s 39 1).1 = w at *
      have uo : ∀ t c k, ¬ (t = 1 ∧ c = 117 ∧ k = 0) → ¬ (39 ≤ c ∧ c ≤ 57) → xup w 1 117 0 1 t c k = s t c k := fun t c k z1 z2 => by
        rw [← k2 t c k z2]
        unfold xup
        exact if_neg z1
      refine ⟨h1.fr (funext fun k => uo _ _ _ (by omega) (by omega)) (funext fun k => vo _ _ _ (by omega) (by omega) (by omega)) (uo _ _ _ (by omega) (by omega)) (vo _ _ _ (by omega) (by omega) (by omega)), by rw [uo _ _ _ (by omega) (by omega)]; exact h2, by rw [uo _ _ _ (by omega) (by omega), vo _ _ _ (by omega) (by omega) (by omega)]; exact h3, by rw [uo _ _ _ (by omega) (by omega), vo _ _ _ (by omega) (by omega) (by omega)]; exact h4, ?_, ?_, ?_⟩
      · exact h5.same (uo _ _ _ (by omega) (by omega)) (uo _ _ _ (by omega) (by omega)) (fun d => uo _ _ _ (by omega) (by omega)) (fun d => uo _ _ _ (by omega) (by omega)) (fun k hk => vo _ _ _ (by omega) (by omega) (by omega))
      · refine ⟨by rw [xup_s]; exact v2.symm, fun _ => ?_⟩
        exact (k1.row (A' := fun k => v 1 1 (k + 1774 * (0 + 1))) (fun k hk => vi k (by omega))).same (xup_t (by decide)) (xup_t (by decide)) (fun d => xup_c (by omega)) (fun d => xup_c (by omega)) (fun _ _ => rfl)
      · exact h7.fr (vo _ _ _ (by omega) (by omega) (by omega)) (uo _ _ _ (by omega) (by omega)) (fun t c k _ _ => uo _ _ _ (by omega) (by omega)) (fun k _ => vo _ _ _ (by omega) (by omega) (by omega))
    · obtain ⟨k1, k2⟩ := Nt_copy_58_1 h5
      show RN (xup (f_X0_copy s 58 1).1 1 117 1 1) v
      generalize (f_X0_copy s 58 1).1 = w at *
      have uo : ∀ t c k, ¬ (t = 1 ∧ c = 117 ∧ k = 1) → ¬ (58 ≤ c ∧ c ≤ 76) → xup w 1 117 1 1 t c k = s t c k := fun t c k z1 z2 => by
        rw [← k2 t c k z2]
        unfold xup
        exact if_neg z1
      refine ⟨h1.fr (funext fun k => uo _ _ _ (by omega) (by omega)) (funext fun k => vo _ _ _ (by omega) (by omega) (by omega)) (uo _ _ _ (by omega) (by omega)) (vo _ _ _ (by omega) (by omega) (by omega)), by rw [uo _ _ _ (by omega) (by omega)]; exact h2, by rw [uo _ _ _ (by omega) (by omega), vo _ _ _ (by omega) (by omega) (by omega)]; exact h3, by rw [uo _ _ _ (by omega) (by omega), vo _ _ _ (by omega) (by omega) (by omega)]; exact h4, ?_, ?_, ?_⟩
      · exact h5.same (uo _ _ _ (by omega) (by omega)) (uo _ _ _ (by omega) (by omega)) (fun d => uo _ _ _ (by omega) (by omega)) (fun d => uo _ _ _ (by omega) (by omega)) (fun k hk => vo _ _ _ (by omega) (by omega) (by omega))
      · exact h6.fr (vo _ _ _ (by omega) (by omega) (by omega)) (uo _ _ _ (by omega) (by omega)) (fun t c k _ _ => uo _ _ _ (by omega) (by omega)) (fun k _ => vo _ _ _ (by omega) (by omega) (by omega))
      · refine ⟨by rw [xup_s]; exact v2.symm, fun _ => ?_⟩
        exact (k1.row (A' := fun k => v 1 1 (k + 1774 * (1 + 1))) (fun k hk => vi k (by omega))).same (xup_t (by decide)) (xup_t (by decide)) (fun d => xup_c (by omega)) (fun d => xup_c (by omega)) (fun _ _ => rfl)
  · obtain ⟨n1, n2⟩ := Image_n (s := s) (m := m) ha
    rw [n1, n2]
    exact ⟨rfl, RN_thr h⟩
theorem RN_restore {s m : XS} {a1 : Int} (h : RN s m) : (f_X11_restore s a1).2 = (f_X12_restore m a1).2 ∧ RN (f_X11_restore s a1).1 (f_X12_restore m a1).1 := by
  by_cases ha : 0 ≤ a1 ∧ a1 ≤ 1
  · have hh := h
    obtain ⟨h1, h2, h3, h4, h5, h6, h7⟩ := h
    have ec := Restore_c (s := s) ha
    by_cases hi : m 1 2 a1.toNat = 0
    · have e117 : s 1 117 (Int.toNat a1) = 0 := by
        rcases (show a1 = 0 ∨ a1 = 1 by omega) with rfl | rfl
        · exact h6.1.trans hi
        · exact h7.1.trans hi
      rw [ec, Restore_0 ha hi, if_pos e117]
      exact ⟨rfl, RN_thr hh⟩
    · have e117 : ¬ s 1 117 (Int.toNat a1) = 0 := by
        rcases (show a1 = 0 ∨ a1 = 1 by omega) with rfl | rfl
        · exact fun z => hi (h6.1.symm.trans z)
        · exact fun z => hi (h7.1.symm.trans z)
      obtain ⟨m1, m2⟩ := Restore_m (m := m) ha hi
      rw [m1, ec, if_neg e117]
      generalize (f_X12_restore m a1).1 = v at *
      refine ⟨rfl, ?_⟩
      dsimp only
      have vo : ∀ t c k, ¬ (t = 1 ∧ c = 1 ∧ k < 1774) → ¬ (t = 0 ∧ c = 0 ∧ k = 0) → v t c k = m t c k := fun t c k z1 z2 => by rw [m2, if_neg (by omega), if_neg (by omega), if_neg z2]
      have vi : ∀ k : Nat, k < 112 → v 1 1 k = m 1 1 (k + 1774 * (a1.toNat + 1)) := fun k hk => by
        rw [m2, if_neg (by omega), if_pos ⟨rfl, rfl, by omega⟩]
      have fin : ∀ w : XS, Nt 1 w (fun k => m 1 1 (k + 1774 * (a1.toNat + 1))) → (∀ t c k, ¬ (1 ≤ c ∧ c ≤ 19) → w t c k = s t c k) → RN (f_X11_startAnew w).1 v := by
        intro w k1 k2
        have nx := new_x w
        generalize (f_X11_startAnew w).1 = z at *
        have uo : ∀ t c k, ¬ (c = 0 ∨ c = 79 ∨ c = 104) → ¬ (1 ≤ c ∧ c ≤ 19) → z t c k = s t c k := fun t c k z1 z2 => (nx t c k z1).trans (k2 t c k z2)
        refine ⟨h1.fr (funext fun k => uo _ _ _ (by omega) (by omega)) (funext fun k => vo _ _ _ (by omega) (by omega)) (uo _ _ _ (by omega) (by omega)) (vo _ _ _ (by omega) (by omega)), by rw [uo _ _ _ (by omega) (by omega)]; exact h2, by rw [uo _ _ _ (by omega) (by omega), vo _ _ _ (by omega) (by omega)]; exact h3, by rw [uo _ _ _ (by omega) (by omega), vo _ _ _ (by omega) (by omega)]; exact h4, ?_, ?_, ?_⟩
        · exact (k1.row (A' := v 1 1) (fun k hk => vi k (by omega))).same (nx _ _ _ (by omega)) (nx _ _ _ (by omega)) (fun d => nx _ _ _ (by omega)) (fun d => nx _ _ _ (by omega)) (fun _ _ => rfl)
        · exact h6.fr (vo _ _ _ (by omega) (by omega)) (uo _ _ _ (by omega) (by omega)) (fun t c k _ _ => uo _ _ _ (by omega) (by omega)) (fun k _ => vo _ _ _ (by omega) (by omega))
        · exact h7.fr (vo _ _ _ (by omega) (by omega)) (uo _ _ _ (by omega) (by omega)) (fun t c k _ _ => uo _ _ _ (by omega) (by omega)) (fun k _ => vo _ _ _ (by omega) (by omega))
      rcases (show a1 = 0 ∨ a1 = 1 by omega) with rfl | rfl
      · obtain ⟨k1, k2⟩ := Nt_copy_1_39 (h6.2 hi)
        exact fin _ k1 k2
      · obtain ⟨k1, k2⟩ := Nt_copy_1_58 (h7.2 hi)
        exact fin _ k1 k2
  · obtain ⟨n1, n2⟩ := Restore_n (s := s) (m := m) ha
    rw [n1, n2]
    exact ⟨rfl, RN_thr h⟩
