/-! the rows that are kept: their bounds -/
def RB (B : Int) (N : Nat) (m : XS) : Prop := ∀ j : Nat, (j : Int) < m 1 1 112 → BB B N (m 1 1 3) (fun k => m 1 1 (113 + 76 * j + k))
theorem RB.le {B B' : Int} {N : Nat} {m : XS} (h : RB B N m) (hB : B ≤ B') : RB B' N m := fun j hj => (h j hj).le hB
theorem RB.row {B : Int} {N : Nat} {m v : XS} (h : RB B N m) (e : v 1 1 = m 1 1) : RB B N v := by
  unfold RB
  rw [e]
  exact h
theorem RB.same {B : Int} {N : Nat} {m v : XS} (h : RB B N m) (h3 : v 1 1 3 = m 1 1 3) (p3 : m 1 1 3 ≤ 5) (e : ∀ k, 112 ≤ k → k ≤ 872 → v 1 1 k = m 1 1 k) (h10 : m 1 1 112 ≤ 10) : RB B N v := fun j hj => by
  rw [e 112 (by omega) (by omega)] at hj
  rw [h3]
  exact (h j hj).same (fun k hk => e _ (by omega) (by have := hk.1; omega)) p3
theorem notes_rb {B : Int} {N n : Nat} {y : XS} (hy : y 1 1 112 = (n : Int)) (hn : n ≤ 10) (p3 : y 1 1 3 ≤ 5) (h : RB B N y) (h6 : BB B N (y 1 1 3) (y 1 6)) : RB B N (f_X12_notes y).1 := by
  have nx := notes_x hy hn
  generalize (f_X12_notes y).1 = v at *
  have e3 : v 1 1 3 = y 1 1 3 := by
    rw [nx, if_neg (by omega), if_neg (fun q => by have := q.2.2.1; omega), if_neg (by omega)]
  intro j hj
  rw [e3]
  by_cases h10 : n = 10
  · subst h10
    simp only [if_true] at nx
    have e112 : v 1 1 112 = 10 := by rw [nx, if_pos ⟨rfl, rfl, rfl⟩]; rfl
    rw [e112] at hj
    by_cases e : j = 9
    · subst e
      refine h6.same (fun k hk => ?_) p3
      have k76 := hk.1
      show v 1 1 (113 + 76 * 9 + k) = y 1 6 k
      rw [nx, if_neg (by omega), if_pos ⟨rfl, rfl, by omega, by omega⟩, show 113 + 76 * 9 + k - (113 + 76 * 9) = k by omega]
    · refine (h (j + 1) (by rw [hy]; omega)).same (fun k hk => ?_) p3
      have k76 := hk.1
      show v 1 1 (113 + 76 * j + k) = y 1 1 (113 + 76 * (j + 1) + k)
      rw [nx, if_neg (by omega), if_neg (by omega), if_pos ⟨rfl, rfl, trivial, by omega, by omega⟩, show 113 + 76 * j + k + 76 = 113 + 76 * (j + 1) + k by omega]
  · simp only [if_neg h10] at nx
    have e112 : v 1 1 112 = ((n + 1 : Nat) : Int) := by rw [nx, if_pos ⟨rfl, rfl, rfl⟩]
    rw [e112] at hj
    by_cases e : j = n
    · subst e
      refine h6.same (fun k hk => ?_) p3
      have k76 := hk.1
      show v 1 1 (113 + 76 * j + k) = y 1 6 k
      rw [nx, if_neg (by omega), if_pos ⟨rfl, rfl, by omega, by omega⟩, show 113 + 76 * j + k - (113 + 76 * j) = k by omega]
    · refine (h j (by rw [hy]; omega)).same (fun k hk => ?_) p3
      have k76 := hk.1
      show v 1 1 (113 + 76 * j + k) = y 1 1 (113 + 76 * j + k)
      rw [nx, if_neg (by omega), if_neg (by omega), if_neg (fun q => h10 q.2.2.1)]
