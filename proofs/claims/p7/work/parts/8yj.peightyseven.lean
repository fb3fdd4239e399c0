/-! write, both: the trays behind -/
def cvK (k v : Int) : Int := if k = 0 then Xi2b (Xl2i v) else if k = 1 then Xi2s (Xl2i v) else if k = 2 then Xl2i v else v
theorem putK_x {s : XS} {b x : Nat} {v : Int} : f_X10_put s b (x : Int) v = (xup s 2 (b + 1) x (cvK (s 0 b 1) v), cvK (s 0 b 1) v) := by
  unfold cvK
  simp only [f_X10_put, g1b_X10_put, g2_X10_put, g3_X10_put, g4b_X10_put, g5_X10_put, g6_X10_put, g7b_X10_put, g8_X10_put, g9_X10_put, g10w_X10_put, g11w_X10_put, g12w_X10_put, g13w_X10_put, Int.toNat_natCast, xup_s]
  (repeat' split) <;> rfl
theorem cutK_x {m : XS} {k v : Int} : f_X12_cut m v k = (m, cvK k v) := by
  unfold cvK
  simp only [f_X12_cut, g1b_X12_cut, g2_X12_cut, g3_X12_cut, g4b_X12_cut, g5_X12_cut, g6_X12_cut, g7b_X12_cut, g8_X12_cut, g9_X12_cut]
  (repeat' split) <;> rfl
theorem write_x {s m : XS} (hT : ∀ t, t < 4 → Tr s m t) {a1 a2 a3 : Int} : (f_X11_write s a1 a2 a3).2 = (f_X12_write m a1 a2 a3).2 ∧ FrLs (f_X11_write s a1 a2 a3).1 s ∧ (∀ T c k, ¬ (T = 2 ∧ 108 ≤ c ∧ c ≤ 114) → (f_X11_write s a1 a2 a3).1 T c k = s T c k) ∧ FrLm (f_X12_write m a1 a2 a3).1 m ∧ ∀ t, t < 4 → Tr (f_X11_write s a1 a2 a3).1 (f_X12_write m a1 a2 a3).1 t := by
  have f23 : ∀ k, (xup m 0 0 0 0) 1 23 k = m 1 23 k := fun k => xup_t (by decide)
  have f24 : ∀ k, (xup m 0 0 0 0) 1 24 k = m 1 24 k := fun k => xup_t (by decide)
  have ec : f_X11_write s a1 a2 a3 = if 0 ≤ a1 ∧ a1 ≤ 3 then (if s 0 (107 + 2 * a1.toNat) 2 < 0 then (s, -6) else if a2 < 0 then (s, -7) else if a2 < s 0 (107 + 2 * a1.toNat) 2 then f_X10_put s (107 + 2 * a1.toNat) a2 a3 else (s, -7)) else (s, -2) := by
    simp only [f_X11_write, g1c_X11_write, g2b_X11_write, g3_X11_write, g4_X11_write, g5b_X11_write, g6_X11_write, g7_X11_write, g8b_X11_write, g9_X11_write, g10_X11_write, g11b_X11_write, g12_X11_write, g13_X11_write, g14c_X11_write, istC_x]
    by_cases t : 0 ≤ a1 ∧ a1 ≤ 3
    · rw [if_pos t, if_neg (show ¬ (1 : Int) = 0 by decide), if_pos t]
    · rw [if_neg t, if_pos rfl, if_neg t]
  have em : f_X12_write m a1 a2 a3 = if 0 ≤ a1 ∧ a1 ≤ 3 then (if m 1 23 a1.toNat = -1 then (xup m 0 0 0 0, -6) else if 0 ≤ a2 ∧ a2 ≤ m 1 24 a1.toNat - 1 then g8_X12_write (xup m 0 0 0 0) a1 a2 a3 else (xup m 0 0 0 0, -7)) else (xup m 0 0 0 0, -2) := by
    simp only [f_X12_write, g1w_X12_write, g2c_X12_write, g3b_X12_write, g4_X12_write, g5_X12_write, g6c_X12_write, g7b_X12_write, g9_X12_write, notr_x, within_x, f23, f24]
    by_cases t : 0 ≤ a1 ∧ a1 ≤ 3
    · rw [if_pos t, if_pos t]
      by_cases k : m 1 23 a1.toNat = -1
      · rw [if_pos k, if_neg (show ¬ (-6 : Int) = 0 by decide), if_pos k]
      · rw [if_neg k, if_pos rfl, if_neg k]
        by_cases x : 0 ≤ a2 ∧ a2 ≤ m 1 24 a1.toNat - 1
        · rw [if_pos x, if_neg (show ¬ (1 : Int) = 0 by decide), if_pos x]
        · rw [if_neg x, if_pos rfl, if_neg x]
    · rw [if_neg t, if_neg (show ¬ (-2 : Int) = 0 by decide), if_neg t]
  rw [ec, em]
  have none : ∀ x : Int, ((s, x) : XR).2 = ((xup m 0 0 0 0, x) : XR).2 ∧ FrLs s s ∧ (∀ T c k, ¬ (T = 2 ∧ 108 ≤ c ∧ c ≤ 114) → s T c k = s T c k) ∧ FrLm (xup m 0 0 0 0) m ∧ ∀ t, t < 4 → Tr s (xup m 0 0 0 0) t := fun x => ⟨rfl, fun _ _ _ _ _ _ _ _ => rfl, fun _ _ _ _ => rfl, FrLm.thr, fun t ht => (hT t ht).sh ht (fun _ _ _ _ _ _ _ => rfl) FrMh.thr⟩
  by_cases tt : 0 ≤ a1 ∧ a1 ≤ 3
  · rw [if_pos tt, if_pos tt]
    obtain ⟨t, rfl⟩ : ∃ t : Nat, a1 = (t : Int) := ⟨a1.toNat, by omega⟩
    rw [show (t : Int).toNat = t from rfl]
    rcases hT t (by omega) with ⟨t1, t2⟩ | ⟨t1, -, -, t2, t3, t4, t5, t6⟩
    · rw [if_pos (show s 0 (107 + 2 * t) 2 < 0 by omega), if_pos t1]
      exact none _
    rw [if_neg (show ¬ s 0 (107 + 2 * t) 2 < 0 by omega), if_neg t1]
    by_cases x : 0 ≤ a2 ∧ a2 ≤ m 1 24 t - 1
    · obtain ⟨i, rfl⟩ : ∃ i : Nat, a2 = (i : Int) := ⟨a2.toNat, by omega⟩
      rw [if_neg (show ¬ (i : Int) < 0 by omega), if_pos (show (i : Int) < s 0 (107 + 2 * t) 2 by omega), if_pos x, putK_x, t2]
      have e8 : g8_X12_write (xup m 0 0 0 0) (t : Int) (i : Int) a3 = (xup (xup m 0 0 0 0) 2 25 (40 * t + i) (cvK (m 1 23 t) a3), cvK (m 1 23 t) a3) := by
        simp only [g8_X12_write, g10c_X12_write, g11w_X12_write, cutK_x, f23, Int.toNat_natCast, show Int.toNat ((40 * (t : Int)) + (i : Int)) = 40 * t + i by omega, xup_s]
      rw [e8]
      have F1 : ∀ T c k, ¬ (T = 2 ∧ 108 ≤ c ∧ c ≤ 114) → xup s 2 (107 + 2 * t + 1) i (cvK (m 1 23 t) a3) T c k = s T c k := fun T c k q => if_neg (fun y => q ⟨y.1, by omega⟩)
      have G1 : FrLm (xup (xup m 0 0 0 0) 2 25 (40 * t + i) (cvK (m 1 23 t) a3)) m := fun T c k q1 q2 q3 => (if_neg (fun y => q3 ⟨y.1, y.2.1⟩)).trans (FrLm.thr T c k q1 q2 q3)
      refine ⟨rfl, fun T c k _ _ _ _ q => F1 T c k q, F1, G1, fun t' ht => ?_⟩
      show Tr (xup s 2 (107 + 2 * t + 1) i (cvK (m 1 23 t) a3)) (xup (xup m 0 0 0 0) 2 25 (40 * t + i) (cvK (m 1 23 t) a3)) t'
      have T0 := hT t' ht
      have g1 : xup (xup m 0 0 0 0) 2 25 (40 * t + i) (cvK (m 1 23 t) a3) 1 23 t' = m 1 23 t' := G1 _ _ _ (by omega) (by omega) (by omega)
      have g2 : xup (xup m 0 0 0 0) 2 25 (40 * t + i) (cvK (m 1 23 t) a3) 1 24 t' = m 1 24 t' := G1 _ _ _ (by omega) (by omega) (by omega)
      have g3 : xup s 2 (107 + 2 * t + 1) i (cvK (m 1 23 t) a3) 0 (107 + 2 * t') 2 = s 0 (107 + 2 * t') 2 := F1 _ _ _ (by omega)
      have g4 : xup s 2 (107 + 2 * t + 1) i (cvK (m 1 23 t) a3) 0 (107 + 2 * t') 1 = s 0 (107 + 2 * t') 1 := F1 _ _ _ (by omega)
      unfold Tr at T0 ⊢
      rw [g1, g2, g3, g4]
      refine T0.imp id (fun q => ⟨q.1, q.2.1, q.2.2.1, q.2.2.2.1, q.2.2.2.2.1, q.2.2.2.2.2.1, q.2.2.2.2.2.2.1, fun j hj => ?_⟩)
      have j40 : j < 40 := by have := q.2.2.2.2.2.2.1; omega
      have i40 : i < 40 := by omega
      have q8 := q.2.2.2.2.2.2.2 j hj
      have h0 : (xup m 0 0 0 0) 2 25 (40 * t' + j) = m 2 25 (40 * t' + j) := xup_t (by decide)
      by_cases te : t' = t ∧ j = i
      · rw [te.1, te.2, show 107 + 2 * t + 1 = 108 + 2 * t by omega, xup_s, xup_s]
      · have k1 : xup s 2 (107 + 2 * t + 1) i (cvK (m 1 23 t) a3) 2 (108 + 2 * t') j = s 2 (108 + 2 * t') j := if_neg (by omega)
        rw [k1, xup_k (by omega), h0]
        exact q8
    · rw [if_neg x]
      by_cases x1 : a2 < 0
      · rw [if_pos x1]
        exact none _
      · rw [if_neg x1, if_neg (show ¬ a2 < s 0 (107 + 2 * t) 2 by omega)]
        exact none _
  · rw [if_neg tt, if_neg tt]
    exact none _
