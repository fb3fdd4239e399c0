/-! watch and thief: the reference -/
def gOn (A : Nat → Int) (x t : Nat) : Int := if sF A (x / 4) (tdr (x % 4) t) = -1 then (if t = 0 ∧ sF A (x / 4) (tdr (x % 4) 1) = -1 then (x : Int) else -1) else 4 * sF A (x / 4) (tdr (x % 4) t) + ((tdr (x % 4) t : Nat) : Int)
theorem gon_x {s m : XS} {w h : Nat} (L : Ld s (m 1 1) w h) {x t : Nat} (hx : x < 4 * (w * h)) (ht : t < 2) : f_X12_goesOn m (x : Int) (t : Int) = (m, gOn (m 1 1) x t) := by
  have hc : x / 4 < w * h := by omega
  have e1 : (x : Int) % 4 = ((x % 4 : Nat) : Int) := by omega
  have e2 : (x : Int) / 4 = ((x / 4 : Nat) : Int) := by omega
  have d1 := dirby_x m (h := x % 4) (t := t) (by omega) (by omega)
  have d2 := dirby_x m (h := x % 4) (t := 1) (by omega) (by omega)
  have s1 := stF_x L hc (tdr_lt (x % 4) t)
  have s2 := stF_x L hc (tdr_lt (x % 4) 1)
  have one : ((1 : Nat) : Int) = 1 := rfl
  rw [one] at d2
  simp only [f_X12_goesOn, g1c_X12_goesOn, g2c_X12_goesOn, g3b_X12_goesOn, g4_X12_goesOn, g5_X12_goesOn, g6b_X12_goesOn, g7_X12_goesOn, g8_X12_goesOn, g9c_X12_goesOn, g10c_X12_goesOn, g11b_X12_goesOn, g12_X12_goesOn, g13_X12_goesOn, e1, e2, d1, d2, s1, s2]
  unfold gOn
  by_cases z : sF (m 1 1) (x / 4) (tdr (x % 4) t) = -1
  · rw [if_pos z, if_pos z]
    by_cases y : t = 0
    · subst y
      rw [if_pos (show ((0 : Nat) : Int) = 0 from rfl)]
      by_cases u : sF (m 1 1) (x / 4) (tdr (x % 4) 1) = -1
      · rw [if_pos u, if_pos ⟨rfl, u⟩]
      · rw [if_neg u, if_neg (fun q => u q.2)]
    · rw [if_neg (by omega), if_neg (fun q => y q.1)]
  · rw [if_neg z, if_neg z]
theorem gon_r {s : XS} {A : Nat → Int} {w h : Nat} (L : Ld s A w h) {x t : Nat} (hx : x < 4 * (w * h)) (hn : gOn A x t ≠ -1) : 0 ≤ gOn A x t ∧ (gOn A x t).toNat < 4 * (w * h) := by
  have hc : x / 4 < w * h := by omega
  have td := tdr_lt (x % 4) t
  unfold gOn at hn ⊢
  by_cases z : sF A (x / 4) (tdr (x % 4) t) = -1
  · rw [if_pos z] at hn ⊢
    by_cases y : t = 0 ∧ sF A (x / 4) (tdr (x % 4) 1) = -1
    · rw [if_pos y]; omega
    · rw [if_neg y] at hn; exact absurd rfl hn
  · rw [if_neg z]
    have := (L.2.2.2.1 _ _ hc td z).2
    omega
def CC (A : Nat → Int) : Nat → Nat → Nat → Prop
  | 0, t, w => t / 4 = w / 4 ∨ ∀ k, k < 2 → gOn A t k = -1 ∨ (gOn A t k).toNat / 4 = w / 4
  | n + 1, t, w => t / 4 = w / 4 ∨ ∀ k, k < 2 → gOn A t k = -1 ∨ (gOn A t k).toNat / 4 = w / 4 ∨ ∃ j, j < 2 ∧ gOn A w j ≠ -1 ∧ CC A n (gOn A t k).toNat (gOn A w j).toNat
theorem CC.up {A : Nat → Int} : ∀ (n t w : Nat), CC A n t w → CC A (n + 1) t w
  | 0, t, w, h => by
    rcases h with h | h
    · exact Or.inl h
    · refine Or.inr (fun k hk => ?_)
      rcases h k hk with q | q
      · exact Or.inl q
      · exact Or.inr (Or.inl q)
  | n + 1, t, w, h => by
    rcases h with h | h
    · exact Or.inl h
    · refine Or.inr (fun k hk => ?_)
      rcases h k hk with q | q | ⟨j, q1, q2, q3⟩
      · exact Or.inl q
      · exact Or.inr (Or.inl q)
      · exact Or.inr (Or.inr ⟨j, q1, q2, CC.up n _ _ q3⟩)
theorem CC.le {A : Nat → Int} {n k t w : Nat} (hk : n ≤ k) (h : CC A n t w) : CC A k t w := by
  induction hk with
  | refl => exact h
  | step _ ih => exact CC.up _ _ _ ih
/-- a place of the table behind p rounds -/
def TV (A : Nat → Int) (p : Nat) (v : Int) (t w : Nat) : Prop := (v = -1 ∧ ∀ k, k < p → ¬ CC A k t w) ∨ ∃ k : Nat, k < p ∧ v = (k : Int) ∧ CC A k t w ∧ ∀ j, j < k → ¬ CC A j t w
theorem TV.lo {A : Nat → Int} {p n : Nat} {v : Int} {t w : Nat} (h : TV A p v t w) (hn : n + 1 ≤ p) : (0 ≤ v ∧ v ≤ (n : Int)) ↔ CC A n t w := by
  rcases h with ⟨h1, h2⟩ | ⟨k, h1, h2, h3, h4⟩
  · constructor
    · intro q; omega
    · intro q; exact absurd q (h2 n (by omega))
  · constructor
    · intro q; exact h3.le (by omega)
    · intro q
      refine ⟨by omega, ?_⟩
      by_cases z : k ≤ n
      · omega
      · exact absurd q (h4 n (by omega))
theorem s16 {R : XS → Int → Int → Int → Int → XR} {n : Nat} {m : XS} {a1 a2 a3 x4 r x6 x7 g : Int} (hg : f_X12_goesOn m a2 x7 = (m, g)) (h3 : 0 < a3) (h7 : x7 < 2) : L16_X12_isSure R (n + 1) m a1 a2 a3 x4 r x6 x7 = L16_X12_isSure R n m a1 a2 a3 x4 r (if g ≠ -1 ∧ (g / 4 = r / 4 ∨ (0 ≤ m 1 22 (Int.toNat (100 * r + g)) ∧ m 1 22 (Int.toNat (100 * r + g)) ≤ a3 - 1)) then Xior x6 1 else Xior x6 0) (x7 + 1) := by
  show g17l_X12_isSure R (L16_X12_isSure R n) m a1 a2 a3 x4 r x6 x7 = _
  simp only [g17l_X12_isSure, g18b_X12_isSure, g20_X12_isSure, g24b_X12_isSure, g26_X12_isSure, g30c_X12_isSure, g31b_X12_isSure, g32_X12_isSure, g33_X12_isSure, g34b_X12_isSure, g35_X12_isSure, g36_X12_isSure, g37c_X12_isSure, g38b_X12_isSure, g39_X12_isSure, g40_X12_isSure, hg, within_x, if_pos h3, if_pos h7]
  by_cases z1 : g = -1
  · rw [if_pos z1, if_neg (fun q => q.1 z1)]
  · rw [if_neg z1]
    by_cases z2 : g / 4 = r / 4
    · rw [if_pos z2, if_pos ⟨z1, Or.inl z2⟩]
    · rw [if_neg z2]
      by_cases z3 : 0 ≤ m 1 22 (Int.toNat (100 * r + g)) ∧ m 1 22 (Int.toNat (100 * r + g)) ≤ a3 - 1
      · rw [if_pos z3, if_neg (by decide), if_pos ⟨z1, Or.inr z3⟩]
      · rw [if_neg z3, if_pos rfl, if_neg (fun q => q.2.elim z2 z3)]
theorem s16e {R : XS → Int → Int → Int → Int → XR} {n : Nat} {m : XS} {a1 a2 a3 x4 r x6 x7 : Int} (h : ¬ x7 < 2) : L16_X12_isSure R (n + 1) m a1 a2 a3 x4 r x6 x7 = if x6 = 0 then (m, 0) else R m a1 a2 a3 (x4 + 1) := by
  show g17l_X12_isSure R (L16_X12_isSure R n) m a1 a2 a3 x4 r x6 x7 = _
  simp only [g17l_X12_isSure, g18b_X12_isSure, g19_X12_isSure, g21b_X12_isSure, g22_X12_isSure, g23_X12_isSure, if_neg h]
theorem s16z {R : XS → Int → Int → Int → Int → XR} {n : Nat} {m : XS} {a1 a2 x4 r : Int} : L16_X12_isSure R (n + 1) m a1 a2 0 x4 r 0 0 = (m, 0) := by
  show g17l_X12_isSure R (L16_X12_isSure R n) m a1 a2 0 x4 r 0 0 = _
  simp only [g17l_X12_isSure, g18b_X12_isSure, g20_X12_isSure, g24b_X12_isSure, g25_X12_isSure, g27b_X12_isSure, g29_X12_isSure]
  rw [if_pos (by decide), if_neg (by decide)]
  exact if_pos trivial
/-- whether a watch can answer a thief's going -/
def wAns (A : Nat → Int) (T : Nat → Int) (n : Nat) (to w : Nat) : Prop := 0 < n ∧ ∃ j, j < 2 ∧ gOn A w j ≠ -1 ∧ ((gOn A w j).toNat / 4 = to / 4 ∨ (0 ≤ T (100 * to + (gOn A w j).toNat) ∧ T (100 * to + (gOn A w j).toNat) ≤ (n : Int) - 1))
theorem s16v {R : XS → Int → Int → Int → Int → XR} {s m : XS} {w h : Nat} (L : Ld s (m 1 1) w h) {a1 x4 : Int} {n to v : Nat} (hv : v < 4 * (w * h)) : L16_X12_isSure R 3 m a1 (v : Int) (n : Int) x4 (to : Int) 0 0 = @ite XR (wAns (m 1 1) (m 1 22) n to v) (Classical.propDecidable _) (R m a1 (v : Int) (n : Int) (x4 + 1)) (m, 0) := by
  by_cases hn : 0 < n
  · have g0 : f_X12_goesOn m (v : Int) 0 = (m, gOn (m 1 1) v 0) := gon_x L (t := 0) hv (by decide)
    have g1 : f_X12_goesOn m (v : Int) 1 = (m, gOn (m 1 1) v 1) := gon_x L (t := 1) hv (by decide)
    have b0 := gon_r L (t := 0) hv
    have b1 := gon_r L (t := 1) hv
    rw [s16 (n := 2) (a3 := (n : Int)) (x7 := 0) (g := gOn (m 1 1) v 0) g0 (by omega) (by decide), show (0 : Int) + 1 = 1 from rfl, s16 (n := 1) (a3 := (n : Int)) (x7 := 1) (g := gOn (m 1 1) v 1) g1 (by omega) (by decide), s16e (n := 0) (by decide)]
    have key : ∀ j, j < 2 → ((gOn (m 1 1) v j ≠ -1 ∧ (gOn (m 1 1) v j / 4 = (to : Int) / 4 ∨ (0 ≤ m 1 22 (Int.toNat (100 * (to : Int) + gOn (m 1 1) v j)) ∧ m 1 22 (Int.toNat (100 * (to : Int) + gOn (m 1 1) v j)) ≤ (n : Int) - 1))) ↔ (gOn (m 1 1) v j ≠ -1 ∧ ((gOn (m 1 1) v j).toNat / 4 = to / 4 ∨ (0 ≤ m 1 22 (100 * to + (gOn (m 1 1) v j).toNat) ∧ m 1 22 (100 * to + (gOn (m 1 1) v j).toNat) ≤ (n : Int) - 1)))) := by
      intro j hj
      have b : gOn (m 1 1) v j ≠ -1 → 0 ≤ gOn (m 1 1) v j := fun q => (gon_r L hv q).1
      constructor
      · rintro ⟨q1, q2⟩
        have := b q1
        rw [show Int.toNat (100 * (to : Int) + gOn (m 1 1) v j) = 100 * to + (gOn (m 1 1) v j).toNat by omega] at q2
        exact ⟨q1, q2.elim (fun z => Or.inl (by omega)) Or.inr⟩
      · rintro ⟨q1, q2⟩
        have := b q1
        rw [show Int.toNat (100 * (to : Int) + gOn (m 1 1) v j) = 100 * to + (gOn (m 1 1) v j).toNat by omega]
        exact ⟨q1, q2.elim (fun z => Or.inl (by omega)) Or.inr⟩
    have k0 := key 0 (by decide)
    have k1 := key 1 (by decide)
    have o00 : Xior 0 0 = 0 := by decide
    have o01 : Xior 0 1 = 1 := by decide
    have o10 : Xior 1 0 = 1 := by decide
    have o11 : Xior 1 1 = 1 := by decide
    by_cases c0 : gOn (m 1 1) v 0 ≠ -1 ∧ (gOn (m 1 1) v 0 / 4 = (to : Int) / 4 ∨ (0 ≤ m 1 22 (Int.toNat (100 * (to : Int) + gOn (m 1 1) v 0)) ∧ m 1 22 (Int.toNat (100 * (to : Int) + gOn (m 1 1) v 0)) ≤ (n : Int) - 1))
    · have y : wAns (m 1 1) (m 1 22) n to v := ⟨hn, 0, by decide, k0.mp c0⟩
      rw [if_pos c0, if_pos y, o01]
      have e1 : ∀ p : Prop, ∀ [Decidable p], (if p then Xior 1 1 else Xior 1 0) = 1 := fun p _ => by split <;> decide
      rw [e1, if_neg (by decide)]
    · rw [if_neg c0, o00]
      by_cases c1 : gOn (m 1 1) v 1 ≠ -1 ∧ (gOn (m 1 1) v 1 / 4 = (to : Int) / 4 ∨ (0 ≤ m 1 22 (Int.toNat (100 * (to : Int) + gOn (m 1 1) v 1)) ∧ m 1 22 (Int.toNat (100 * (to : Int) + gOn (m 1 1) v 1)) ≤ (n : Int) - 1))
      · have y : wAns (m 1 1) (m 1 22) n to v := ⟨hn, 1, by decide, k1.mp c1⟩
        rw [if_pos c1, if_pos y, o01, if_neg (by decide)]
      · have y : ¬ wAns (m 1 1) (m 1 22) n to v := by
          rintro ⟨-, j, q1, q2⟩
          rcases (show j = 0 ∨ j = 1 by omega) with rfl | rfl
          · exact c0 (k0.mpr q2)
          · exact c1 (k1.mpr q2)
        rw [if_neg c1, if_neg y, o00, if_pos rfl]
  · have y : ¬ wAns (m 1 1) (m 1 22) n to v := fun q => hn q.1
    have e : n = 0 := by omega
    subst e
    rw [if_neg y]
    exact s16z
/-- one going of the thief -/
theorem s4 {n : Nat} {m : XS} {a1 a2 a3 x4 r : Int} (hg : f_X12_goesOn m a1 x4 = (m, r)) (h4 : x4 < 2) : L4_X12_isSure (n + 1) m a1 a2 a3 x4 = if r = -1 ∨ a2 / 4 = r / 4 then L4_X12_isSure n m a1 a2 a3 (x4 + 1) else L16_X12_isSure (L4_X12_isSure n) 3 m a1 a2 a3 x4 r 0 0 := by
  show g5l_X12_isSure (L4_X12_isSure n) m a1 a2 a3 x4 = _
  simp only [g5l_X12_isSure, g6b_X12_isSure, g8_X12_isSure, g9c_X12_isSure, g10b_X12_isSure, g11_X12_isSure, g12_X12_isSure, g13b_X12_isSure, g15_X12_isSure, g14_X12_isSure, hg, if_pos h4]
  by_cases z1 : r = -1
  · rw [if_pos z1, if_pos (Or.inl z1)]
  · rw [if_neg z1]
    by_cases z2 : r / 4 = a2 / 4
    · rw [if_pos z2, if_pos (Or.inr z2.symm)]
    · rw [if_neg z2, if_neg (fun q => q.elim z1 (fun y => z2 y.symm))]
      rfl
theorem s4e {n : Nat} {m : XS} {a1 a2 a3 x4 : Int} (h : ¬ x4 < 2) : L4_X12_isSure (n + 1) m a1 a2 a3 x4 = (m, 1) := by
  show g5l_X12_isSure (L4_X12_isSure n) m a1 a2 a3 x4 = _
  simp only [g5l_X12_isSure, g6b_X12_isSure, g7_X12_isSure, if_neg h]
