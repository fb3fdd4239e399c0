/-! city's two answers -/
theorem city_ans {T U : Nat → Int} (hT : Sb T U) {n f : Int} {s m : Nat → Int} (hf : f = m 5) (hx : ctyX U n m) : ctyC T n f s = ctyR U n m := by
  unfold ctyC ctyR
  by_cases c : n < 0 ∨ m 5 < n
  · rw [if_pos c, if_pos (by rw [hf]; exact c)]
  · have q := city_eq hT (n := n) (s := s) (m := m) (hx c)
    rw [if_neg c, if_neg (by rw [hf]; exact c), q.1]
    by_cases z : ctL U n m 11 = 0
    · rw [if_pos z, if_pos z]; exact (q.2.1 z).2
    · rw [if_neg z, if_neg z]
theorem city_pl {T U : Nat → Int} (hT : Sb T U) {n f : Int} {s m : Nat → Int} (hf : f = m 5) (hx : ctyX U n m) (h8 : s 8 = m 13) (h9 : s 9 = m 14) : ctyF T n f s 8 = ctyM U n m 13 ∧ ctyF T n f s 9 = ctyM U n m 14 := by
  unfold ctyF ctyM
  by_cases c : n < 0 ∨ m 5 < n
  · rw [if_pos c, if_pos (by rw [hf]; exact c)]; exact ⟨h8, h9⟩
  · have q := city_eq hT (n := n) (s := s) (m := m) (hx c)
    rw [if_neg c, if_neg (by rw [hf]; exact c)]
    unfold ctE
    refine ⟨q.1.trans rfl, ?_⟩
    show _ = (if ctL U n m 11 = 0 then (-1 : Int) else ctL U n m 12)
    by_cases z : ctL U n m 11 = 0
    · rw [if_pos z]; exact (q.2.1 z).1
    · rw [if_neg z]; exact q.2.2 z
theorem Tq_start {a b : va_W} (h1 : ∀ j, aI a 78 j = 0) (h2 : ∀ j, aI b 3 j = 0) : Tq a b := fun j _ => by rw [h1, h2]; exact Or.inl (by decide)
