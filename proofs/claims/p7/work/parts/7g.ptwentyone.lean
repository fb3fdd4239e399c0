/-! feed keeps the relation -/
theorem wrC_f (s : XS) (a x : Int) (t c k : Nat) (h1 : ¬ (t = 0 ∧ c = 77 ∧ k = 2)) (h2 : ¬ (t = 1 ∧ c = 78)) : wrC s a x t c k = s t c k := by
  unfold wrC xup
  rw [if_neg h1, if_neg (fun q => h2 ⟨q.1, q.2.1⟩)]
theorem wrM_f (m : XS) (v x : Int) (t c k : Nat) (h1 : ¬ (t = 0 ∧ c = 0 ∧ k = 5)) (h2 : ¬ (t = 1 ∧ c = 3)) : wrM m v x t c k = m t c k := by
  unfold wrM xup
  rw [if_neg h1, if_neg (fun q => h2 ⟨q.1, q.2.1⟩)]
theorem feed_f {a1 a2 a3 a4 a5 : Int} {t c k : Nat} (h1 : ¬ (t = 0 ∧ c = 0 ∧ k = 5)) (h2 : ¬ (t = 1 ∧ c = 3)) : ∀ (n : Nat) (m : XS) (x : Int), (L5_X12_feed n m a1 a2 a3 a4 a5 x).1 t c k = m t c k
  | 0, m, x => rfl
  | n + 1, m, x => by
    rw [feed_s]
    split
    · rw [feed_f h1 h2 n]
      exact wrM_f _ _ _ t c k h1 h2
    · rfl
theorem put_f {a : Int} {t c k : Nat} (h1 : ¬ (t = 0 ∧ c = 77 ∧ k = 2)) (h2 : ¬ (t = 1 ∧ c = 78)) : ∀ (n : Nat) (s : XS) (x : Int), (L1_X5_put n s a x).1 t c k = s t c k
  | 0, s, x => rfl
  | n + 1, s, x => by
    rw [put_s]
    split
    · rfl
    · split
      · rw [put_f h1 h2 n]
        exact wrC_f _ _ _ t c k h1 h2
      · rfl
theorem putf_x {s : XS} {a : Int} {t c k : Nat} (h1 : ¬ (t = 0 ∧ c = 77 ∧ k = 2)) (h2 : ¬ (t = 1 ∧ c = 78)) : (f_X5_put s a).1 t c k = s t c k := put_f h1 h2 _ s 24
