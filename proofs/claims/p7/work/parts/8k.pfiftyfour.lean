/-! undo: both -/
theorem undo_f {s : XS} {a : Int} : ∀ t c k, ¬ (t = 1 ∧ 11 ≤ c ∧ c ≤ 17) → ¬ (t = 0 ∧ c = 10 ∧ (k = 7 ∨ k = 8)) → ¬ (t = 0 ∧ c = 0 ∧ k = 17) → ¬ (t = 0 ∧ c = 79 ∧ k = 4) → (f_X11_undo s a).1 t c k = s t c k := by
  intro t c k q1 q2 q3 q4
  have e : f_X11_undo s a = if a < 1 then (s, -3) else if s 0 0 17 < a then (s, -3) else g5_X11_undo s a := rfl
  rw [e]
  split
  · rfl
  · split
    · rfl
    · simp only [g5_X11_undo, g7w_X11_undo, g8c_X11_undo, g9c_X11_undo, forg_x]
      have y1 : ∀ x : XS, xup x 0 79 4 0 t c k = x t c k := fun x => by
        unfold xup
        exact if_neg q4
      rw [y1, fcopy_t _ t c k (fun z => q1 ⟨z.1, by omega, by omega⟩) q2]
      unfold xup
      exact if_neg q3
theorem undo_y {B : Int} {w h : Nat} {s m : XS} (H : CS B w h s m) (R : Rg s m) (hr : RB B (w * h) m) {a1 : Int} : (f_X11_undo s a1).2 = (f_X12_undo m a1).2 ∧ CS B w h (f_X11_undo s a1).1 (f_X12_undo m a1).1 ∧ Rg (f_X11_undo s a1).1 (f_X12_undo m a1).1 ∧ FdC (f_X11_undo s a1).1 s ∧ FdM (f_X12_undo m a1).1 m ∧ KF (f_X11_undo s a1).1 s (f_X12_undo m a1).1 m ∧ RB B (w * h) (f_X12_undo m a1).1 := by
  have R' := R
  obtain ⟨f, n, -, a2', -, a4, a5, -⟩ := R'
  have m0r : (xup m 0 0 0 0) 1 1 = m 1 1 := funext fun k => xup_t (by decide)
  have no : CS B w h s (xup m 0 0 0 0) ∧ Rg s (xup m 0 0 0 0) ∧ FdC s s ∧ FdM (xup m 0 0 0 0) m ∧ KF s s (xup m 0 0 0 0) m ∧ RB B (w * h) (xup m 0 0 0 0) := ⟨H.fr FrA.rf m0r, R.same rfl rfl (fun _ _ _ _ _ => rfl) (by rw [m0r]) (fun k _ _ => by rw [m0r]), FdC.rf, FdM.thr, Or.inr ⟨rfl, fun k _ _ => by rw [m0r]⟩, hr.row m0r⟩
  by_cases ha : 1 ≤ a1 ∧ a1 ≤ (n : Int)
  · obtain ⟨e, q⟩ := undo_x (a := a1) R
    obtain ⟨m1, m2⟩ := undoM_x a5 a4 ha
    have uf := undo_f (s := s) (a := a1)
    rcases q with ⟨q1, q2⟩ | ⟨g1, g2, g3, -, g5, g6, g7⟩
    · rw [q1, q2]
      exact ⟨rfl, no⟩
    · refine ⟨e, ?_⟩
      clear e
      generalize (f_X12_undo m a1).1 = v at *
      generalize (f_X11_undo s a1).1 = u at *
      have v3 : v 1 1 3 = m 1 1 3 := g7 _ _ _ (by omega) (by omega)
      have vrow : ∀ k, k < 76 → v 1 1 (36 + k) = m 1 1 (113 + 76 * (n - a1.toNat) + k) := fun k hk => by
        rw [m2, if_pos ⟨rfl, rfl, by omega, by omega⟩, show 36 + k - 36 = k by omega]
      have bb : BB B (w * h) (m 1 1 3) (rA (v 1 1)) := (hr (n - a1.toNat) (by rw [a5]; omega)).same (fun k hk => vrow k hk.1) H.pl.2.2.1
      obtain ⟨v0, hv0⟩ : ∃ v0 : XS, v0 = fun t c k => if t = 1 ∧ c = 1 ∧ 112 ≤ k ∧ k ≤ 872 then m 1 1 k else v t c k := ⟨_, rfl⟩
      have v0a : ∀ k, k < 112 → v0 1 1 k = v 1 1 k := fun k hk => by rw [hv0]; exact if_neg (fun z => by omega)
      have v0b : ∀ k, (k < 36 ∨ 112 ≤ k) → v0 1 1 k = m 1 1 k := fun k hk => by
        by_cases z : 112 ≤ k ∧ k ≤ 872
        · rw [hv0]; exact if_pos ⟨rfl, rfl, z⟩
        · rw [hv0]
          show (if 1 = 1 ∧ 1 = 1 ∧ 112 ≤ k ∧ k ≤ 872 then m 1 1 k else v 1 1 k) = _
          rw [if_neg (fun y => z y.2.2)]
          exact g7 _ _ _ (by omega) (by omega)
      have C0 : CS B w h u v0 := by
        refine H.mk (fun t c' k q1 q2 q3 q4 q5 => ?_) v0b (fun k hk => ?_) (bb.same (fun k hk => v0a _ (by have := hk.1; omega)) H.pl.2.2.1) H.2.2.2.2.2.2
        · by_cases z : t = 0 ∧ c' = 10 ∧ k = 7
          · obtain ⟨rfl, rfl, rfl⟩ := z
            rw [g2]; exact H.pl.1
          · exact uf t c' k (fun y => q4 ⟨y.1, y.2⟩) (by omega) (by omega) (by omega)
        · rw [g3 k hk]
          exact (v0a _ (by have := hk.1; omega)).symm
      refine ⟨C0.row (fun k hk => ?_), g1, fun t c' k q1 q2 q3 q4 q5 q6 => ?_, fun t c' k q1 q2 q3 => g7 t c' k (by omega) (by omega), Or.inl g5, fun i hi => ?_⟩
      · rcases hk with hk | hk
        · exact (v0a k hk).symm
        · rw [v0b k (by omega)]
          exact g7 _ _ _ (by omega) (by omega)
      · by_cases z : t = 0 ∧ c' = 10 ∧ k = 7
        · obtain ⟨rfl, rfl, rfl⟩ := z
          rw [g2]; exact H.pl.1
        · exact uf t c' k (by omega) (by omega) (by omega) (by omega)
      · have v112 : v 1 1 112 = (n : Int) - a1 := by rw [m2, if_neg (by omega), if_pos ⟨rfl, rfl, rfl⟩]
        rw [v112] at hi
        rw [v3]
        refine (hr i (by rw [a5]; omega)).same (fun k hk => ?_) H.pl.2.2.1
        have k76 := hk.1
        exact g7 _ _ _ (by omega) (by omega)
  · rw [undoC_n a2' ha, undoM_n a5 a4 ha]
    exact ⟨rfl, no⟩
