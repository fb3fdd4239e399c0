/-! the reference's way told -/
theorem li_b {t : Nat} {p : Int} {f : Nat → Int} {len W : Nat} (hW : W ≤ len + 1) {m : XS} (et : ∀ x, x < len → m 1 13 x = f x) : ∀ (n x : Nat) (v : XS), (∀ T c k, ¬ (T = 2 ∧ c = 25) → v T c k = m T c k) → (∀ j, v 2 25 j = if 40 * t ≤ j ∧ j < 40 * t + x then wyA p f (j - 40 * t) else m 2 25 j) → x ≤ W → W < x + n → ∃ y, L25_X12_lists n v (t : Int) p (W : Int) (x : Int) = (y, (W : Int)) ∧ L35_X12_lists n v (t : Int) p (W : Int) (x : Int) = (y, (W : Int)) ∧ (∀ T c k, ¬ (T = 2 ∧ c = 25) → y T c k = m T c k) ∧ (∀ j, y 2 25 j = if 40 * t ≤ j ∧ j < 40 * t + W then wyA p f (j - 40 * t) else m 2 25 j) := by
  intro n
  induction n with
  | zero => intro x v _ _ h1 h2; omega
  | succ n ih =>
    intro x v F C h1 h2
    by_cases z : x < W
    · have nx : ∀ j, xup v 2 25 (40 * t + x) (wyA p f x) 2 25 j = if 40 * t ≤ j ∧ j < 40 * t + (x + 1) then wyA p f (j - 40 * t) else m 2 25 j := fun j => by
        by_cases q : j = 40 * t + x
        · rw [q, xup_s, if_pos (by omega), show 40 * t + x - 40 * t = x by omega]
        · rw [xup_k q, C]
          by_cases k : 40 * t ≤ j ∧ j < 40 * t + x
          · rw [if_pos k, if_pos (by omega)]
          · rw [if_neg k, if_neg (by omega)]
      have ix : Int.toNat ((40 * (t : Int)) + (x : Int)) = 40 * t + x := by omega
      have e1 : L25_X12_lists (n + 1) v (t : Int) p (W : Int) (x : Int) = L25_X12_lists n (xup v 2 25 (40 * t + x) (wyA p f x)) (t : Int) p (W : Int) ((x + 1 : Nat) : Int) := by
        show g26l_X12_lists (L25_X12_lists n) v (t : Int) p (W : Int) (x : Int) = _
        unfold wyA
        simp only [g26l_X12_lists, g27b_X12_lists, g29_X12_lists, g30b_X12_lists, g31_X12_lists, g32_X12_lists, g33w_X12_lists, g34w_X12_lists, ix]
        by_cases x0 : x = 0
        · subst x0
          rw [if_pos (by omega), if_pos (by decide), if_pos rfl]
          rfl
        · rw [if_pos (by omega), if_neg (by omega), if_neg x0, F _ _ _ (by omega), show Int.toNat ((x : Int) - 1) = x - 1 by omega, et _ (by omega)]
          rfl
      have e2 : L35_X12_lists (n + 1) v (t : Int) p (W : Int) (x : Int) = L35_X12_lists n (xup v 2 25 (40 * t + x) (wyA p f x)) (t : Int) p (W : Int) ((x + 1 : Nat) : Int) := by
        show g36l_X12_lists (L35_X12_lists n) v (t : Int) p (W : Int) (x : Int) = _
        unfold wyA
        simp only [g36l_X12_lists, g37b_X12_lists, g39_X12_lists, g40b_X12_lists, g41_X12_lists, g42_X12_lists, g43w_X12_lists, g44w_X12_lists, ix]
        by_cases x0 : x = 0
        · subst x0
          rw [if_pos (by omega), if_pos (by decide), if_pos rfl]
          rfl
        · rw [if_pos (by omega), if_neg (by omega), if_neg x0, F _ _ _ (by omega), show Int.toNat ((x : Int) - 1) = x - 1 by omega, et _ (by omega)]
          rfl
      rw [e1, e2]
      exact ih (x + 1) _ (fun T c k q => (if_neg (fun y => q ⟨y.1, y.2.1⟩)).trans (F T c k q)) nx (by omega) (by omega)
    · have xW : x = W := by omega
      subst xW
      refine ⟨v, ?_, ?_, F, C⟩
      · show g26l_X12_lists (L25_X12_lists n) v (t : Int) p (x : Int) (x : Int) = _
        simp only [g26l_X12_lists, g27b_X12_lists, g28_X12_lists]
        rw [if_neg (by omega)]
      · show g36l_X12_lists (L35_X12_lists n) v (t : Int) p (x : Int) (x : Int) = _
        simp only [g36l_X12_lists, g37b_X12_lists, g38_X12_lists]
        rw [if_neg (by omega)]
