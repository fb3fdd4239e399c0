/-! city's two answers -/
theorem city_ans {T U : Nat → Int} (hT : Sb T U) {n f : Int} {s m : Nat → Int} (hf : f = m 5) (hx : ctyX U n m) : ctyC T n f s = ctyR U n m := by
  unfold ctyC ctyR
  by_cases c : n < 0 ∨ m 5 < n
  · rw [if_pos c, if_pos (by rw [hf]; exact c)]
  · have q := city_eq hT (n := n) (s := s) (m := m) (hx c)
    rw [if_neg c, if_neg (by rw [hf]; exact c), q.1]
    by_cases z : ctL U n m 11 = 0
    · rw [if_pos z, if_pos z]; exact (q.2.1 z).2
    · rw [if_neg z, if_neg z]
theorem city_pl {T U : Nat → Int} (hT : Sb T U) {n f : Int} {s m : Nat → Int} (hf : f = m 5) (hx : ctyX U n m) (h8 : s 8 = m 13) (h9 : s 9 = m 14) : ctyF T n f s 8 = ctyM U n m 13 ∧ ctyF T n f s 9 = ctyM U n m 14 := by
  unfold ctyF ctyM
  by_cases c : n < 0 ∨ m 5 < n
  · rw [if_pos c, if_pos (by rw [hf]; exact c)]; exact ⟨h8, h9⟩
  · have q := city_eq hT (n := n) (s := s) (m := m) (hx c)
    rw [if_neg c, if_neg (by rw [hf]; exact c)]
    unfold ctE
    refine ⟨q.1.trans rfl, ?_⟩
    show _ = (if ctL U n m 11 = 0 then (-1 : Int) else ctL U n m 12)
    by_cases z : ctL U n m 11 = 0
    · rw [if_pos z]; exact (q.2.1 z).1
    · rw [if_neg z]; exact q.2.2 z
theorem Tq_start {a b : va_W} (h1 : ∀ j, aI a 78 j = 0) (h2 : ∀ j, aI b 3 j = 0) : Tq a b := fun j _ => by rw [h1, h2]; exact Or.inl (by decide)
/-! p4: the tapes alike, the faults alike -/
def RF (a b : va_W) : Prop := Tq a b ∧ (fI a 77 8).toInt = (fI b 0 13).toInt ∧ (fI a 77 9).toInt = (fI b 0 14).toInt
theorem RF.fr {a b c d : va_W} (h : RF a b) (h1 : ∀ j, aI c 78 j = aI a 78 j) (h2 : ∀ j, aI d 3 j = aI b 3 j) (h8 : fI c 77 8 = fI a 77 8) (h9 : fI c 77 9 = fI a 77 9) (h4 : (fI d 0 13).toInt = (fI b 0 13).toInt) (h5 : (fI d 0 14).toInt = (fI b 0 14).toInt) : RF c d := ⟨h.1.same h1 h2, by rw [h8, h4]; exact h.2.1, by rw [h9, h5]; exact h.2.2⟩
theorem RF.feed {a b c d : va_W} (h : RF a b) (ht : Tq c d) (h8 : fI c 77 8 = fI a 77 8) (h9 : fI c 77 9 = fI a 77 9) (h4 : (fI d 0 13).toInt = (fI b 0 13).toInt) (h5 : (fI d 0 14).toInt = (fI b 0 14).toInt) : RF c d := ⟨ht, by rw [h8, h4]; exact h.2.1, by rw [h9, h5]; exact h.2.2⟩
theorem RF.city {a b c d : va_W} {n f : Int} (h : RF a b) (h1 : ∀ j, aI c 78 j = aI a 78 j) (h2 : ∀ j, aI d 3 j = aI b 3 j) (hf : f = aM b 5) (hx : ctyX (tM b) n (aM b)) (e1 : aF 77 c = ctyF (tC a) n f (aF 77 a)) (e2 : aM d = ctyM (tM b) n (aM b)) : RF c d := by
  have q := city_pl h.1.sb (n := n) (f := f) (s := aF 77 a) (m := aM b) hf hx (by rw [aF_at (k := 8) (by decide) rfl, aM_at (k := 13) (by decide) rfl]; exact h.2.1) (by rw [aF_at (k := 9) (by decide) rfl, aM_at (k := 14) (by decide) rfl]; exact h.2.2)
  rw [← e1, ← e2, aF_at (k := 8) (by decide) rfl, aM_at (k := 13) (by decide) rfl, aF_at (k := 9) (by decide) rfl, aM_at (k := 14) (by decide) rfl] at q
  exact ⟨h.1.same h1 h2, q.1, q.2⟩
def qs : QQ := ⟨((0, 0), (0, 0), (-1, -1)), by decide⟩
