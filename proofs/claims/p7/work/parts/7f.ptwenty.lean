/-! the two stores at the law's loop, as far as street asks -/
def Im (i b : Nat) (s m : XS) : Prop := s 1 117 i = m 1 2 i ∧ (m 1 2 i ≠ 0 → Nt b s (fun k => m 1 1 (k + 1774 * (i + 1))))
def RN (s m : XS) : Prop := Ft s m ∧ s 0 77 2 ≤ 900 ∧ s 0 77 8 = m 0 0 13 ∧ s 0 77 9 = m 0 0 14 ∧ Nt 1 s (m 1 1) ∧ Im 0 39 s m ∧ Im 1 58 s m
/-- places of the class's store that it speaks of -/
def pnC (t c k : Nat) : Prop := (t = 0 ∧ c = 77 ∧ (k = 2 ∨ k = 8 ∨ k = 9)) ∨ (t = 1 ∧ (c = 78 ∨ c = 117)) ∨ (t = 0 ∧ (c = 1 ∨ c = 39 ∨ c = 58) ∧ (k = 5 ∨ k = 6)) ∨ (t = 1 ∧ (c = 18 ∨ c = 19 ∨ c = 56 ∨ c = 57 ∨ c = 75 ∨ c = 76))
/-- and of the reference's -/
def pnM (t c k : Nat) : Prop := (t = 0 ∧ c = 0 ∧ (k = 5 ∨ k = 13 ∨ k = 14)) ∨ (t = 1 ∧ (c = 2 ∨ c = 3)) ∨ (t = 1 ∧ c = 1 ∧ (k % 1774 = 1 ∨ k % 1774 = 2 ∨ (11 ≤ k % 1774 ∧ k % 1774 ≤ 35)))
theorem Im.same {i b : Nat} {s m u v : XS} (hb : (i = 0 ∧ b = 39) ∨ (i = 1 ∧ b = 58)) (hs : ∀ t c k, pnC t c k → u t c k = s t c k) (hm : ∀ t c k, pnM t c k → v t c k = m t c k) (h : Im i b s m) : Im i b u v := by
  unfold Im
  have e2 : v 1 2 i = m 1 2 i := hm 1 2 i (by unfold pnM; omega)
  rw [hs 1 117 i (by unfold pnC; omega), e2]
  refine ⟨h.1, fun q => (h.2 q).same (hs _ _ _ (by unfold pnC; omega)) (hs _ _ _ (by unfold pnC; omega)) (fun d => hs _ _ _ (by unfold pnC; omega)) (fun d => hs _ _ _ (by unfold pnC; omega)) (fun k hk => hm _ _ _ (by unfold pnM; omega))⟩
theorem RN.same {s m u v : XS} (hs : ∀ t c k, pnC t c k → u t c k = s t c k) (hm : ∀ t c k, pnM t c k → v t c k = m t c k) (h : RN s m) : RN u v := by
  obtain ⟨⟨f1, f2, f3⟩, h2, h3, h4, h5, h6, h7⟩ := h
  have e78 : u 1 78 = s 1 78 := funext fun k => hs 1 78 k (by unfold pnC; omega)
  have e3 : v 1 3 = m 1 3 := funext fun k => hm 1 3 k (by unfold pnM; omega)
  have a2 : u 0 77 2 = s 0 77 2 := hs _ _ _ (by unfold pnC; omega)
  have a8 : u 0 77 8 = s 0 77 8 := hs _ _ _ (by unfold pnC; omega)
  have a9 : u 0 77 9 = s 0 77 9 := hs _ _ _ (by unfold pnC; omega)
  have b5 : v 0 0 5 = m 0 0 5 := hm _ _ _ (by unfold pnM; omega)
  have b13 : v 0 0 13 = m 0 0 13 := hm _ _ _ (by unfold pnM; omega)
  have b14 : v 0 0 14 = m 0 0 14 := hm _ _ _ (by unfold pnM; omega)
  refine ⟨⟨by rw [e78, e3]; exact f1, by rw [a2, b5]; exact f2, by rw [a2]; exact f3⟩, by rw [a2]; exact h2, by rw [a8, b13]; exact h3, by rw [a9, b14]; exact h4, ?_, h6.same (Or.inl ⟨rfl, rfl⟩) hs hm, h7.same (Or.inr ⟨rfl, rfl⟩) hs hm⟩
  exact h5.same (hs _ _ _ (by unfold pnC; omega)) (hs _ _ _ (by unfold pnC; omega)) (fun d => hs _ _ _ (by unfold pnC; omega)) (fun d => hs _ _ _ (by unfold pnC; omega)) (fun k hk => hm _ _ _ (by unfold pnM; omega))
