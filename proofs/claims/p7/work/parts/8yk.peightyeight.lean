/-! numbers, both: the trays behind -/
theorem fil40 {b : Nat} : ∀ (n x : Nat) (s : XS), x ≤ 40 → 40 < x + n → ∃ u, L1_J7_fill_d0a16 n s b 0 (x : Int) = (u, 0) ∧ ∀ T c k, u T c k = if T = 2 ∧ c = b ∧ x ≤ k ∧ k < 40 then 0 else s T c k := by
  intro n
  induction n with
  | zero => intro x s h1 h2; omega
  | succ n ih =>
    intro x s h1 h2
    have e : L1_J7_fill_d0a16 (n + 1) s b 0 (x : Int) = if x < 40 then L1_J7_fill_d0a16 n (xup s 2 b x 0) b 0 ((x + 1 : Nat) : Int) else (s, 0) := by
      show g2l_J7_fill_d0a16 (L1_J7_fill_d0a16 n) s b 0 (x : Int) = _
      simp only [g2l_J7_fill_d0a16, g3b_J7_fill_d0a16, g4_J7_fill_d0a16, g5_J7_fill_d0a16, g6w_J7_fill_d0a16, Int.toNat_natCast]
      by_cases z : x < 40
      · rw [if_pos z, if_pos (by omega)]
        rfl
      · rw [if_neg z, if_neg (by omega)]
    rw [e]
    by_cases z : x < 40
    · rw [if_pos z]
      obtain ⟨u, u1, u2⟩ := ih (x + 1) (xup s 2 b x 0) (by omega) (by omega)
      refine ⟨u, u1, fun T c k => ?_⟩
      rw [u2]
      unfold xup
      (repeat' split) <;> first | rfl | (exfalso; omega)
    · rw [if_neg z]
      exact ⟨s, rfl, fun T c k => by rw [if_neg (fun q => by omega)]⟩
theorem nu16 {t K : Nat} (hK : K ≤ 40) : ∀ (n x : Nat) (m : XS), x ≤ K → K < x + n → ∃ v, L16_X12_numbers n m (t : Int) (K : Int) (x : Int) = (v, 0) ∧ ∀ T c k, v T c k = if T = 2 ∧ c = 25 ∧ 40 * t + x ≤ k ∧ k < 40 * t + K then 0 else m T c k := by
  intro n
  induction n with
  | zero => intro x m h1 h2; omega
  | succ n ih =>
    intro x m h1 h2
    have e : L16_X12_numbers (n + 1) m (t : Int) (K : Int) (x : Int) = if x < K then L16_X12_numbers n (xup m 2 25 (40 * t + x) 0) (t : Int) (K : Int) ((x + 1 : Nat) : Int) else (m, 0) := by
      show g17l_X12_numbers (L16_X12_numbers n) m (t : Int) (K : Int) (x : Int) = _
      simp only [g17l_X12_numbers, g18b_X12_numbers, g19_X12_numbers, g20_X12_numbers, g21w_X12_numbers, show Int.toNat ((40 * (t : Int)) + (x : Int)) = 40 * t + x by omega]
      by_cases z : x < K
      · rw [if_pos z, if_pos (by omega)]
        rfl
      · rw [if_neg z, if_neg (by omega)]
    rw [e]
    by_cases z : x < K
    · rw [if_pos z]
      obtain ⟨u, u1, u2⟩ := ih (x + 1) (xup m 2 25 (40 * t + x) 0) (by omega) (by omega)
      refine ⟨u, u1, fun T c k => ?_⟩
      rw [u2]
      unfold xup
      (repeat' split) <;> first | rfl | (exfalso; omega)
    · rw [if_neg z]
      exact ⟨m, rfl, fun T c k => by rw [if_neg (fun q => by omega)]⟩
def FrNc (u s : XS) : Prop := ∀ T c k, ¬ (T = 0 ∧ 107 ≤ c ∧ c ≤ 113) → ¬ (T = 2 ∧ 108 ≤ c ∧ c ≤ 114) → u T c k = s T c k
def FrNm (v m : XS) : Prop := ∀ T c k, ¬ (T = 0 ∧ c = 0 ∧ k = 0) → ¬ (T = 1 ∧ (c = 23 ∨ c = 24)) → ¬ (T = 2 ∧ c = 25) → v T c k = m T c k
theorem numbers_x {s m : XS} (hT : ∀ t, t < 4 → Tr s m t) {a1 a2 a3 : Int} : (f_X11_numbers s a1 a2 a3).2 = (fm_X12_numbers m a1 a2 a3).2 ∧ FrNc (f_X11_numbers s a1 a2 a3).1 s ∧ FrNm (fm_X12_numbers m a1 a2 a3).1 m ∧ ∀ t, t < 4 → Tr (f_X11_numbers s a1 a2 a3).1 (fm_X12_numbers m a1 a2 a3).1 t := by
  have ec : f_X11_numbers s a1 a2 a3 = if 0 ≤ a1 ∧ a1 ≤ 3 then (if a2 < 0 then (s, -2) else if 3 < a2 then (s, -2) else if a3 < 0 then (s, -3) else if 40 < a3 then (s, -3) else (xup (xup (f_J7_fill_d0a16 s (107 + 2 * a1.toNat + 1) 0).1 0 (107 + 2 * a1.toNat) 1 a2) 0 (107 + 2 * a1.toNat) 2 a3, 0)) else (s, -2) := by
    simp only [f_X11_numbers, g1c_X11_numbers, g2b_X11_numbers, g3_X11_numbers, g4_X11_numbers, g5b_X11_numbers, g6_X11_numbers, g7_X11_numbers, g8b_X11_numbers, g9_X11_numbers, g10_X11_numbers, g11b_X11_numbers, g12_X11_numbers, g13_X11_numbers, g14b_X11_numbers, g15_X11_numbers, g16_X11_numbers, g17c_X11_numbers, f_X10_lay, g1c_X10_lay, g2w_X10_lay, g3w_X10_lay, istC_x]
    by_cases t : 0 ≤ a1 ∧ a1 ≤ 3
    · rw [if_pos t, if_neg (show ¬ (1 : Int) = 0 by decide), if_pos t]
    · rw [if_neg t, if_pos rfl, if_neg t]
  have em : fm_X12_numbers m a1 a2 a3 = if 0 ≤ a1 ∧ a1 ≤ 3 then (if 0 ≤ a2 ∧ a2 ≤ 3 then (if 0 ≤ a3 ∧ a3 ≤ 40 then L16_X12_numbers 41 (xup (xup (xup m 0 0 0 0) 1 23 a1.toNat a2) 1 24 a1.toNat a3) a1 a3 0 else (xup m 0 0 0 0, -3)) else (xup m 0 0 0 0, -2)) else (xup m 0 0 0 0, -2) := by
    simp only [fm_X12_numbers, g1w_X12_numbers, g2c_X12_numbers, g3b_X12_numbers, g4_X12_numbers, g5_X12_numbers, g6c_X12_numbers, g7b_X12_numbers, g8_X12_numbers, g9_X12_numbers, g10c_X12_numbers, g11b_X12_numbers, g12_X12_numbers, g13_X12_numbers, g14w_X12_numbers, g15w_X12_numbers, within_x]
    by_cases t : 0 ≤ a1 ∧ a1 ≤ 3
    · rw [if_pos t, if_neg (show ¬ (1 : Int) = 0 by decide), if_pos t]
      by_cases k : 0 ≤ a2 ∧ a2 ≤ 3
      · rw [if_pos k, if_neg (show ¬ (1 : Int) = 0 by decide), if_pos k]
        by_cases x : 0 ≤ a3 ∧ a3 ≤ 40
        · rw [if_pos x, if_neg (show ¬ (1 : Int) = 0 by decide), if_pos x]
          rfl
        · rw [if_neg x, if_pos rfl, if_neg x]
      · rw [if_neg k, if_pos rfl, if_neg k]
    · rw [if_neg t, if_pos rfl, if_neg t]
  rw [ec, em]
  have none : ∀ x : Int, ((s, x) : XR).2 = ((xup m 0 0 0 0, x) : XR).2 ∧ FrNc s s ∧ FrNm (xup m 0 0 0 0) m ∧ ∀ t, t < 4 → Tr s (xup m 0 0 0 0) t := fun x => ⟨rfl, fun _ _ _ _ _ => rfl, fun T c k q _ _ => if_neg q, fun t ht => (hT t ht).sh ht (fun _ _ _ _ _ _ _ => rfl) FrMh.thr⟩
  by_cases tt : 0 ≤ a1 ∧ a1 ≤ 3
  · rw [if_pos tt, if_pos tt]
    by_cases kk : 0 ≤ a2 ∧ a2 ≤ 3
    · rw [if_neg (show ¬ a2 < 0 by omega), if_neg (show ¬ 3 < a2 by omega), if_pos kk]
      by_cases x : 0 ≤ a3 ∧ a3 ≤ 40
      · rw [if_neg (show ¬ a3 < 0 by omega), if_neg (show ¬ 40 < a3 by omega), if_pos x]
        obtain ⟨t, rfl⟩ : ∃ t : Nat, a1 = (t : Int) := ⟨a1.toNat, by omega⟩
        obtain ⟨K, rfl⟩ : ∃ K : Nat, a3 = (K : Int) := ⟨a3.toNat, by omega⟩
        rw [show (t : Int).toNat = t from rfl]
        obtain ⟨u, u1, u2⟩ := fil40 (b := 107 + 2 * t + 1) 41 0 s (by decide) (by decide)
        have u1' : f_J7_fill_d0a16 s (107 + 2 * t + 1) 0 = (u, 0) := u1
        obtain ⟨v, v1, v2⟩ := nu16 (t := t) (K := K) (by omega) 41 0 (xup (xup (xup m 0 0 0 0) 1 23 t a2) 1 24 t (K : Int)) (by omega) (by omega)
        have v1' : L16_X12_numbers 41 (xup (xup (xup m 0 0 0 0) 1 23 t a2) 1 24 t (K : Int)) (t : Int) (K : Int) 0 = (v, 0) := v1
        rw [u1', v1']
        have U : ∀ T c k, xup (xup u 0 (107 + 2 * t) 1 a2) 0 (107 + 2 * t) 2 (K : Int) T c k = if T = 0 ∧ c = 107 + 2 * t ∧ k = 2 then (K : Int) else if T = 0 ∧ c = 107 + 2 * t ∧ k = 1 then a2 else if T = 2 ∧ c = 108 + 2 * t ∧ k < 40 then 0 else s T c k := fun T c k => by
          unfold xup
          rw [u2]
          (repeat' split) <;> first | rfl | (exfalso; omega)
        have W : ∀ T c k, v T c k = if T = 2 ∧ c = 25 ∧ 40 * t ≤ k ∧ k < 40 * t + K then 0 else if T = 1 ∧ c = 24 ∧ k = t then (K : Int) else if T = 1 ∧ c = 23 ∧ k = t then a2 else if T = 0 ∧ c = 0 ∧ k = 0 then 0 else m T c k := fun T c k => by
          rw [v2]
          unfold xup
          (repeat' split) <;> first | rfl | (exfalso; omega)
        refine ⟨rfl, fun T c k q1 q2 => ?_, fun T c k q1 q2 q3 => ?_, fun t' ht => ?_⟩
        · show xup (xup u 0 (107 + 2 * t) 1 a2) 0 (107 + 2 * t) 2 (K : Int) T c k = _
          rw [U, if_neg (by omega), if_neg (by omega), if_neg (by omega)]
        · show v T c k = _
          rw [W, if_neg (by omega), if_neg (by omega), if_neg (by omega), if_neg (by omega)]
        · show Tr (xup (xup u 0 (107 + 2 * t) 1 a2) 0 (107 + 2 * t) 2 (K : Int)) v t'
          have T0 := hT t' ht
          by_cases te : t' = t
          · subst te
            refine Or.inr ?_
            have w1 : v 1 23 t' = a2 := by rw [W, if_neg (by omega), if_neg (by omega), if_pos ⟨rfl, rfl, rfl⟩]
            have w2 : v 1 24 t' = (K : Int) := by rw [W, if_neg (by omega), if_pos ⟨rfl, rfl, rfl⟩]
            rw [w1, w2]
            refine ⟨by omega, kk.1, kk.2, ?_, ?_, by omega, by omega, fun i hi => ?_⟩
            · rw [U, if_neg (by omega), if_pos ⟨rfl, rfl, rfl⟩]
            · rw [U, if_pos ⟨rfl, rfl, rfl⟩]
            · rw [U, if_neg (by omega), if_neg (by omega), if_pos ⟨rfl, rfl, by omega⟩, W, if_pos ⟨rfl, rfl, by omega, by omega⟩]
          · have g1 : v 1 23 t' = m 1 23 t' := by rw [W, if_neg (by omega), if_neg (by omega), if_neg (by omega), if_neg (by omega)]
            have g2 : v 1 24 t' = m 1 24 t' := by rw [W, if_neg (by omega), if_neg (by omega), if_neg (by omega), if_neg (by omega)]
            have g3 : xup (xup u 0 (107 + 2 * t) 1 a2) 0 (107 + 2 * t) 2 (K : Int) 0 (107 + 2 * t') 2 = s 0 (107 + 2 * t') 2 := by rw [U, if_neg (by omega), if_neg (by omega), if_neg (by omega)]
            have g4 : xup (xup u 0 (107 + 2 * t) 1 a2) 0 (107 + 2 * t) 2 (K : Int) 0 (107 + 2 * t') 1 = s 0 (107 + 2 * t') 1 := by rw [U, if_neg (by omega), if_neg (by omega), if_neg (by omega)]
            unfold Tr at T0 ⊢
            rw [g1, g2, g3, g4]
            refine T0.imp id (fun q => ⟨q.1, q.2.1, q.2.2.1, q.2.2.2.1, q.2.2.2.2.1, q.2.2.2.2.2.1, q.2.2.2.2.2.2.1, fun j hj => ?_⟩)
            have j40 : j < 40 := by have := q.2.2.2.2.2.2.1; omega
            rw [U, if_neg (by omega), if_neg (by omega), if_neg (by omega), W, if_neg (by omega), if_neg (by omega), if_neg (by omega), if_neg (by omega)]
            exact q.2.2.2.2.2.2.2 j hj
      · rw [if_neg x]
        by_cases x1 : a3 < 0
        · rw [if_pos x1]
          exact none _
        · rw [if_neg x1, if_pos (show 40 < a3 by omega)]
          exact none _
    · rw [if_neg kk]
      by_cases x1 : a2 < 0
      · rw [if_pos x1]
        exact none _
      · rw [if_neg x1, if_pos (show 3 < a2 by omega)]
        exact none _
  · rw [if_neg tt, if_neg tt]
    exact none _
