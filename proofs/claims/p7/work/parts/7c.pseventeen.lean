/-! image, restore: both -/
theorem im_l {a : Int} {t c k : Nat} (ha : 0 ≤ a) : ∀ (n : Nat) (s : XS) (x : Int), 0 ≤ x → x ≤ 1774 → 1774 - x < (n : Int) → (L6_X12_image n s a x).2 = 0 ∧ (L6_X12_image n s a x).1 t c k = if t = 1 ∧ c = 2 ∧ k = a.toNat then 1 else if t = 1 ∧ c = 1 ∧ 1774 * (a + 1) + x ≤ (k : Int) ∧ (k : Int) < 1774 * (a + 1) + 1774 then s 1 1 (k - 1774 * (a.toNat + 1)) else s t c k
  | 0, s, x, h0, h1, hn => by omega
  | n + 1, s, x, h0, h1, hn => by
    show (g7l_X12_image (L6_X12_image n) s a x).2 = 0 ∧ (g7l_X12_image (L6_X12_image n) s a x).1 t c k = _
    simp only [g7l_X12_image, g8b_X12_image, g9_X12_image, g10_X12_image, g11w_X12_image, g12w_X12_image]
    by_cases z : x < 1774
    · rw [if_pos z]
      obtain ⟨i1, i2⟩ := im_l ha n (xup s 1 1 (Int.toNat (1774 * (a + 1) + x)) (s 1 1 (Int.toNat x))) (x + 1) (by omega) (by omega) (by omega)
      refine ⟨i1, ?_⟩
      rw [i2]
      by_cases p : t = 1 ∧ c = 2 ∧ k = a.toNat
      · rw [if_pos p, if_pos p]
      · rw [if_neg p, if_neg p]
        by_cases q : t = 1 ∧ c = 1 ∧ 1774 * (a + 1) + x ≤ (k : Int) ∧ (k : Int) < 1774 * (a + 1) + 1774
        · rw [if_pos q]
          obtain ⟨rfl, rfl, q3, q4⟩ := q
          by_cases r : (k : Int) = 1774 * (a + 1) + x
          · have e : Int.toNat (1774 * (a + 1) + x) = k := by omega
            have e2 : Int.toNat x = k - 1774 * (a.toNat + 1) := by omega
            rw [if_neg (fun y => by have := y.2.2.1; omega), e, xup_s, e2]
          · rw [if_pos ⟨rfl, rfl, by omega, q4⟩, xup_k (by omega)]
        · rw [if_neg q, if_neg (fun r => q ⟨r.1, r.2.1, by have := r.2.2.1; omega, r.2.2.2⟩)]
          unfold xup
          rw [if_neg (fun r => q ⟨r.1, r.2.1, by have := r.2.2; omega, by have := r.2.2; omega⟩)]
    · rw [if_neg z]
      refine ⟨rfl, ?_⟩
      by_cases p : t = 1 ∧ c = 2 ∧ k = a.toNat
      · rw [if_pos p]
        unfold xup
        exact if_pos p
      · have q : ¬ (t = 1 ∧ c = 1 ∧ 1774 * (a + 1) + x ≤ (k : Int) ∧ (k : Int) < 1774 * (a + 1) + 1774) := fun q => by have := q.2.2; omega
        rw [if_neg p, if_neg q]
        unfold xup
        exact if_neg p
theorem Image_m {m : XS} {a : Int} (ha : 0 ≤ a ∧ a ≤ 1) : (f_X12_image m a).2 = 0 ∧ ∀ t c k, (f_X12_image m a).1 t c k = if t = 1 ∧ c = 2 ∧ k = a.toNat then 1 else if t = 1 ∧ c = 1 ∧ 1774 * (a + 1) ≤ (k : Int) ∧ (k : Int) < 1774 * (a + 1) + 1774 then m 1 1 (k - 1774 * (a.toNat + 1)) else if t = 0 ∧ c = 0 ∧ k = 0 then 0 else m t c k := by
  have lp := fun t c k => im_l (t := t) (c := c) (k := k) ha.1 (Int.toNat (1774 - 0 + 1)) (xup m 0 0 0 0) 0 (by decide) (by decide) (by show 1774 - (0 : Int) < ((1775 : Nat) : Int); decide)
  have e : f_X12_image m a = L6_X12_image (Int.toNat (1774 - 0 + 1)) (xup m 0 0 0 0) a 0 := by
    simp only [f_X12_image, g1w_X12_image, g2c_X12_image, g3b_X12_image, g4_X12_image, within_x]
    rw [if_pos ha, if_neg (show ¬ (1 : Int) = 0 by decide)]
  rw [e]
  refine ⟨(lp 0 0 0).1, fun t c k => ?_⟩
  rw [(lp t c k).2, xup_t (show (1 : Nat) ≠ 0 by decide), Int.add_zero]
  rfl
theorem Image_c {s : XS} {a : Int} (ha : 0 ≤ a ∧ a ≤ 1) : f_X11_image s a = (xup (f_X0_copy s (39 + 19 * Int.toNat a) 1).1 1 117 (Int.toNat a) 1, 0) := by
  have e : f_X11_image s a = if a < 0 then (s, -2) else if a < 2 then g5_X11_image s a else (s, -2) := rfl
  rw [e, if_neg (by omega), if_pos (by omega)]
  rfl
theorem Image_n {s m : XS} {a : Int} (ha : ¬ (0 ≤ a ∧ a ≤ 1)) : f_X11_image s a = (s, -2) ∧ f_X12_image m a = (xup m 0 0 0 0, -2) := by
  constructor
  · have e : f_X11_image s a = if a < 0 then (s, -2) else if a < 2 then g5_X11_image s a else (s, -2) := rfl
    rw [e]
    by_cases z : a < 0
    · rw [if_pos z]
    · rw [if_neg z, if_neg (by omega)]
  · simp only [f_X12_image, g1w_X12_image, g2c_X12_image, g3b_X12_image, g5_X12_image, within_x]
    rw [if_neg ha, if_pos rfl]
theorem re_l {a : Int} {t c k : Nat} (ha : 0 ≤ a) : ∀ (n : Nat) (s : XS) (x : Int), 0 ≤ x → x ≤ 1774 → 1774 - x < (n : Int) → (L9_X12_restore n s a x).2 = 0 ∧ (L9_X12_restore n s a x).1 t c k = if t = 1 ∧ c = 1 ∧ k = 112 then 0 else if t = 1 ∧ c = 1 ∧ x ≤ (k : Int) ∧ (k : Int) < 1774 then s 1 1 (k + 1774 * (a.toNat + 1)) else s t c k
  | 0, s, x, h0, h1, hn => by omega
  | n + 1, s, x, h0, h1, hn => by
    show (g10l_X12_restore (L9_X12_restore n) s a x).2 = 0 ∧ (g10l_X12_restore (L9_X12_restore n) s a x).1 t c k = _
    simp only [g10l_X12_restore, g11b_X12_restore, g12_X12_restore, g13_X12_restore, g14w_X12_restore, g15w_X12_restore]
    by_cases z : x < 1774
    · rw [if_pos z]
      obtain ⟨i1, i2⟩ := re_l ha n (xup s 1 1 (Int.toNat x) (s 1 1 (Int.toNat (1774 * (a + 1) + x)))) (x + 1) (by omega) (by omega) (by omega)
      refine ⟨i1, ?_⟩
      rw [i2]
      by_cases p : t = 1 ∧ c = 1 ∧ k = 112
      · rw [if_pos p, if_pos p]
      · rw [if_neg p, if_neg p]
        by_cases q : t = 1 ∧ c = 1 ∧ x ≤ (k : Int) ∧ (k : Int) < 1774
        · rw [if_pos q]
          obtain ⟨rfl, rfl, q3, q4⟩ := q
          by_cases r : (k : Int) = x
          · have e : Int.toNat x = k := by omega
            have e2 : Int.toNat (1774 * (a + 1) + x) = k + 1774 * (a.toNat + 1) := by omega
            rw [if_neg (fun y => by have := y.2.2.1; omega), e, xup_s, e2]
          · rw [if_pos ⟨rfl, rfl, by omega, q4⟩, xup_k (by omega)]
        · rw [if_neg q, if_neg (fun r => q ⟨r.1, r.2.1, by have := r.2.2.1; omega, r.2.2.2⟩)]
          unfold xup
          rw [if_neg (fun r => q ⟨r.1, r.2.1, by have := r.2.2; omega, by have := r.2.2; omega⟩)]
    · rw [if_neg z]
      refine ⟨rfl, ?_⟩
      by_cases p : t = 1 ∧ c = 1 ∧ k = 112
      · rw [if_pos p]
        unfold xup
        exact if_pos ⟨p.1, p.2.1, p.2.2⟩
      · have q : ¬ (t = 1 ∧ c = 1 ∧ x ≤ (k : Int) ∧ (k : Int) < 1774) := fun q => by have := q.2.2; omega
        rw [if_neg p, if_neg q]
        unfold xup
        exact if_neg (fun y => p ⟨y.1, y.2.1, y.2.2⟩)
theorem Restore_m {m : XS} {a : Int} (ha : 0 ≤ a ∧ a ≤ 1) (hi : m 1 2 a.toNat ≠ 0) : (f_X12_restore m a).2 = 0 ∧ ∀ t c k, (f_X12_restore m a).1 t c k = if t = 1 ∧ c = 1 ∧ k = 112 then 0 else if t = 1 ∧ c = 1 ∧ (k : Int) < 1774 then m 1 1 (k + 1774 * (a.toNat + 1)) else if t = 0 ∧ c = 0 ∧ k = 0 then 0 else m t c k := by
  have lp := fun t c k => re_l (t := t) (c := c) (k := k) ha.1 (Int.toNat (1774 - 0 + 1)) (xup m 0 0 0 0) 0 (by decide) (by decide) (by show 1774 - (0 : Int) < ((1775 : Nat) : Int); decide)
  have e : f_X12_restore m a = L9_X12_restore (Int.toNat (1774 - 0 + 1)) (xup m 0 0 0 0) a 0 := by
    simp only [f_X12_restore, g1w_X12_restore, g2c_X12_restore, g3b_X12_restore, g4_X12_restore, g6b_X12_restore, g7_X12_restore, within_x]
    have h2 : xup m 0 0 0 0 1 2 (Int.toNat a) = m 1 2 a.toNat := xup_t (by decide)
    rw [if_pos ha, if_neg (show ¬ (1 : Int) = 0 by decide), h2, if_neg hi]
  rw [e]
  refine ⟨(lp 0 0 0).1, fun t c k => ?_⟩
  rw [(lp t c k).2, xup_t (show (1 : Nat) ≠ 0 by decide)]
  by_cases p : t = 1 ∧ c = 1 ∧ k = 112
  · rw [if_pos p, if_pos p]
  · rw [if_neg p, if_neg p]
    by_cases q : t = 1 ∧ c = 1 ∧ (k : Int) < 1774
    · rw [if_pos q, if_pos ⟨q.1, q.2.1, by omega, q.2.2⟩]
    · rw [if_neg q, if_neg (fun y => q ⟨y.1, y.2.1, y.2.2.2⟩)]
      rfl
theorem Restore_c {s : XS} {a : Int} (ha : 0 ≤ a ∧ a ≤ 1) : f_X11_restore s a = if s 1 117 (Int.toNat a) = 0 then (s, -5) else ((f_X11_startAnew (f_X0_copy s 1 (39 + 19 * Int.toNat a)).1).1, 0) := by
  have e : f_X11_restore s a = if a < 0 then (s, -2) else if a < 2 then (if s 1 117 (Int.toNat a) = 0 then (s, -5) else g8_X11_restore s a) else (s, -2) := rfl
  rw [e, if_neg (by omega), if_pos (by omega)]
  rfl
theorem Restore_n {s m : XS} {a : Int} (ha : ¬ (0 ≤ a ∧ a ≤ 1)) : f_X11_restore s a = (s, -2) ∧ f_X12_restore m a = (xup m 0 0 0 0, -2) := by
  constructor
  · have e : f_X11_restore s a = if a < 0 then (s, -2) else if a < 2 then (if s 1 117 (Int.toNat a) = 0 then (s, -5) else g8_X11_restore s a) else (s, -2) := rfl
    rw [e]
    by_cases z : a < 0
    · rw [if_pos z]
    · rw [if_neg z, if_neg (by omega)]
  · simp only [f_X12_restore, g1w_X12_restore, g2c_X12_restore, g3b_X12_restore, g5_X12_restore, within_x]
    rw [if_neg ha, if_pos rfl]
theorem Restore_0 {m : XS} {a : Int} (ha : 0 ≤ a ∧ a ≤ 1) (hi : m 1 2 a.toNat = 0) : f_X12_restore m a = (xup m 0 0 0 0, -5) := by
  simp only [f_X12_restore, g1w_X12_restore, g2c_X12_restore, g3b_X12_restore, g4_X12_restore, g6b_X12_restore, g8_X12_restore, within_x]
  have h2 : xup m 0 0 0 0 1 2 (Int.toNat a) = m 1 2 a.toNat := xup_t (by decide)
  rw [if_pos ha, if_neg (show ¬ (1 : Int) = 0 by decide), h2, if_pos hi]
