/-! a way written into a tray -/
theorem putS_x {s : XS} {b x : Nat} {v : Int} (hv : 0 ≤ v ∧ v ≤ 4) : f_X10_put s b (x : Int) v = (xup s 2 (b + 1) x v, v) := by
  have c2 : Xl2i v = v := by rcases (show v = 0 ∨ v = 1 ∨ v = 2 ∨ v = 3 ∨ v = 4 by omega) with rfl | rfl | rfl | rfl | rfl <;> decide
  have c1 : Xi2s v = v := by rcases (show v = 0 ∨ v = 1 ∨ v = 2 ∨ v = 3 ∨ v = 4 by omega) with rfl | rfl | rfl | rfl | rfl <;> decide
  have c0 : Xi2b v = v := by rcases (show v = 0 ∨ v = 1 ∨ v = 2 ∨ v = 3 ∨ v = 4 by omega) with rfl | rfl | rfl | rfl | rfl <;> decide
  simp only [f_X10_put, g1b_X10_put, g2_X10_put, g3_X10_put, g4b_X10_put, g5_X10_put, g6_X10_put, g7b_X10_put, g8_X10_put, g9_X10_put, g10w_X10_put, g11w_X10_put, g12w_X10_put, g13w_X10_put, c2, c1, c0, Int.toNat_natCast, xup_s]
  (repeat' split) <;> rfl
/-- what a told way says at a place -/
def wyA (p : Int) (f : Nat → Int) (x : Nat) : Int := if x = 0 then p else f (x - 1)
theorem li_c {b : Nat} {p : Int} {f : Nat → Int} {len W : Nat} (hp : 0 ≤ p ∧ p ≤ 4) (hW : W ≤ len + 1) (hf : ∀ x, x < len → 0 ≤ f x ∧ f x ≤ 3) {u : XS} (e5 : u 0 87 5 = (len : Int)) (et : ∀ x, x < len → u 1 89 x = f x) : ∀ (n x : Nat) (v : XS), (∀ T c k, ¬ (T = 2 ∧ c = b + 1) → v T c k = u T c k) → (∀ j, v 2 (b + 1) j = if j < x then wyA p f j else u 2 (b + 1) j) → x ≤ W → W < x + n → ∃ y, L28_X11_lists n v p b (W : Int) (x : Int) = (y, (W : Int)) ∧ (∀ T c k, ¬ (T = 2 ∧ c = b + 1) → y T c k = u T c k) ∧ (∀ j, y 2 (b + 1) j = if j < W then wyA p f j else u 2 (b + 1) j) := by
  intro n
  induction n with
  | zero => intro x v _ _ h1 h2; omega
  | succ n ih =>
    intro x v F C h1 h2
    by_cases z : x < W
    · have nx : ∀ j, xup v 2 (b + 1) x (wyA p f x) 2 (b + 1) j = if j < x + 1 then wyA p f j else u 2 (b + 1) j := fun j => by
        by_cases q : j = x
        · rw [q, xup_s, if_pos (by omega)]
        · rw [xup_k q, C]
          by_cases k : j < x
          · rw [if_pos k, if_pos (by omega)]
          · rw [if_neg k, if_neg (by omega)]
      have e : L28_X11_lists (n + 1) v p b (W : Int) (x : Int) = L28_X11_lists n (xup v 2 (b + 1) x (wyA p f x)) p b (W : Int) ((x + 1 : Nat) : Int) := by
        show g29l_X11_lists (L28_X11_lists n) v p b (W : Int) (x : Int) = _
        unfold wyA
        by_cases x0 : x = 0
        · subst x0
          have pu := putS_x (s := v) (b := b) (x := 0) hp
          have pu' : f_X10_put v b 0 p = (xup v 2 (b + 1) 0 p, p) := pu
          simp only [g29l_X11_lists, g30b_X11_lists, g32_X11_lists, g33b_X11_lists, g35_X11_lists, g38c_X11_lists, pu']
          rw [if_pos (by omega), if_pos (by decide), if_pos trivial]
          rfl
        · have tt : f_X7_turnAt v ((x : Int) - 1) = (v, f (x - 1)) := by
            simp only [f_X7_turnAt, g1b_X7_turnAt, g3_X7_turnAt, g4b_X7_turnAt, g6_X7_turnAt]
            rw [if_neg (by omega), F _ _ _ (by omega), e5, if_pos (by omega), F _ _ _ (by omega), show Int.toNat ((x : Int) - 1) = x - 1 by omega, et _ (by omega)]
          have pu := putS_x (s := v) (b := b) (x := x) (v := f (x - 1)) (by have := hf (x - 1) (by omega); omega)
          simp only [g29l_X11_lists, g30b_X11_lists, g32_X11_lists, g33b_X11_lists, g34_X11_lists, g36c_X11_lists, g37c_X11_lists, tt, pu]
          rw [if_pos (by omega), if_neg (by omega), if_neg x0]
          rfl
      rw [e]
      exact ih (x + 1) _ (fun T c k q => (if_neg (fun y => q ⟨y.1, y.2.1⟩)).trans (F T c k q)) nx (by omega) (by omega)
    · have xW : x = W := by omega
      subst xW
      refine ⟨v, ?_, F, C⟩
      show g29l_X11_lists (L28_X11_lists n) v p b (x : Int) (x : Int) = _
      simp only [g29l_X11_lists, g30b_X11_lists, g31_X11_lists]
      rw [if_neg (by omega)]
