/-! lay, to -/
theorem lay_l {s : XS} {b : Nat} {w h v : Int} : ∀ (n : Nat) (a y : Int), 0 ≤ y → y ≤ h → h - y < (n : Int) → L3_X0_lay n s b w h v a y = g6_X0_lay s b w v (colZ w (h - y).toNat a y)
  | 0, a, y, h0, h1, hn => by omega
  | n + 1, a, y, h0, h1, hn => by
    show g4l_X0_lay (L3_X0_lay n) s b w h v a y = _
    simp only [g4l_X0_lay, g5b_X0_lay, g7_X0_lay]
    by_cases c : y < h
    · rw [if_pos c, lay_l n _ (y + 1) (by omega) (by omega) (by omega)]
      have e : (h - y).toNat = (h - (y + 1)).toNat + 1 := by omega
      rw [e]
      rfl
    · rw [if_neg c]
      have e : (h - y).toNat = 0 := by omega
      rw [e]
      rfl
theorem lay_x {s : XS} {b : Nat} {w h : Int} (h0 : 0 ≤ h) (h5 : h ≤ 5) : (f_X0_lay s b w h).1 0 b 5 = w ∧ (f_X0_lay s b w h).1 0 b 6 = h ∧ (∀ d, d < 4 → (f_X0_lay s b w h).1 1 (b + 17) d = layZ w h d) ∧ (∀ d, d < 4 → (f_X0_lay s b w h).1 1 (b + 18) d = dirZ w d) ∧ (∀ t c k, ¬ (t = 0 ∧ c = b ∧ (k = 5 ∨ k = 6)) → ¬ (t = 1 ∧ (c = b + 17 ∨ c = b + 18)) → (f_X0_lay s b w h).1 t c k = s t c k) := by
  have l := lay_l (s := xup (xup s 0 b 5 w) 0 b 6 h) (b := b) (w := w) (h := h) (v := Xisub (Xishl 1 (Ximul w h)) 1) (Int.toNat (5 - 0 + 1)) 0 0 (by decide) h0 (by show h - 0 < ((6 : Nat) : Int); omega)
  rw [show h - 0 = h from Int.sub_zero h] at l
  have e : f_X0_lay s b w h = g6_X0_lay (xup (xup s 0 b 5 w) 0 b 6 h) b w (Xisub (Xishl 1 (Ximul w h)) 1) (colZ w h.toNat 0 0) := l
  rw [e]
  simp only [g6_X0_lay, g8w_X0_lay, g9w_X0_lay, g10w_X0_lay, g11w_X0_lay, g12w_X0_lay, g13w_X0_lay, g14w_X0_lay, g15w_X0_lay, show Int.toNat 0 = 0 from rfl, show Int.toNat 1 = 1 from rfl, show Int.toNat 2 = 2 from rfl, show Int.toNat 3 = 3 from rfl]
  refine ⟨?_, ?_, fun d hd => ?_, fun d hd => ?_, fun t c k q1 q2 => ?_⟩
  · repeat rw [xup_t (by decide)]
    rw [xup_k (by decide), xup_s]
  · repeat rw [xup_t (by decide)]
    rw [xup_s]
  · rw [xup_c (by omega), xup_c (by omega), xup_c (by omega), xup_c (by omega)]
    rcases (show d = 0 ∨ d = 1 ∨ d = 2 ∨ d = 3 by omega) with rfl | rfl | rfl | rfl
    · rw [xup_k (by decide), xup_k (by decide), xup_k (by decide), xup_s]; rfl
    · rw [xup_k (by decide), xup_k (by decide), xup_s]; rfl
    · rw [xup_k (by decide), xup_s]; rfl
    · rw [xup_s]; rfl
  · rcases (show d = 0 ∨ d = 1 ∨ d = 2 ∨ d = 3 by omega) with rfl | rfl | rfl | rfl
    · rw [xup_k (by decide), xup_k (by decide), xup_k (by decide), xup_s]; rfl
    · rw [xup_k (by decide), xup_k (by decide), xup_s]; rfl
    · rw [xup_k (by decide), xup_s]; rfl
    · rw [xup_s]; rfl
  · unfold xup
    rw [if_neg (fun q => q2 ⟨q.1, Or.inr q.2.1⟩), if_neg (fun q => q2 ⟨q.1, Or.inr q.2.1⟩), if_neg (fun q => q2 ⟨q.1, Or.inr q.2.1⟩), if_neg (fun q => q2 ⟨q.1, Or.inr q.2.1⟩), if_neg (fun q => q2 ⟨q.1, Or.inl q.2.1⟩), if_neg (fun q => q2 ⟨q.1, Or.inl q.2.1⟩), if_neg (fun q => q2 ⟨q.1, Or.inl q.2.1⟩), if_neg (fun q => q2 ⟨q.1, Or.inl q.2.1⟩), if_neg (fun q => q1 ⟨q.1, q.2.1, Or.inr q.2.2⟩), if_neg (fun q => q1 ⟨q.1, q.2.1, Or.inl q.2.2⟩)]
theorem to_x (s : XS) (b : Nat) {c : Int} (d : Int) (h0 : 0 ≤ c) (h1 : c < 32) : f_X0_to s b c d = (s, @ite Int (bZ (s 1 (b + 17) d.toNat) c.toNat) (Classical.propDecidable _) (c + s 1 (b + 18) d.toNat) (-1)) := by
  simp only [f_X0_to, g1b_X0_to, g2_X0_to, g3_X0_to]
  have q := tst_x (v := s 1 (b + 17) d.toNat) h0 h1
  by_cases z : bZ (s 1 (b + 17) d.toNat) c.toNat
  · rw [if_pos z, if_neg (fun x => q.mp x z)]
  · rw [if_neg z, if_pos (q.mpr z)]
