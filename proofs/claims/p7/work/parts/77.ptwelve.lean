/-! clear, plain -/
theorem fl_11 {c0 t c k : Nat} : ∀ (n : Nat) (s : XS) (x : Int), 0 ≤ x → x ≤ 5 → 5 - x < (n : Int) → (L1_J7_fill_53178_11 n s c0 x).1 t c k = if t = 1 ∧ c = c0 ∧ x ≤ (k : Int) ∧ (k : Int) < 5 then 0 else s t c k
  | 0, s, x, h0, h1, hn => by omega
  | n + 1, s, x, h0, h1, hn => by
    show (g2l_J7_fill_53178_11 (L1_J7_fill_53178_11 n) s c0 x).1 t c k = _
    simp only [g2l_J7_fill_53178_11, g3b_J7_fill_53178_11, g4_J7_fill_53178_11, g5_J7_fill_53178_11, g6w_J7_fill_53178_11]
    by_cases z : x < 5
    · rw [if_pos z, fl_11 n _ (x + 1) (by omega) (by omega) (by omega)]
      by_cases q : t = 1 ∧ c = c0 ∧ x ≤ (k : Int) ∧ (k : Int) < 5
      · rw [if_pos q]
        by_cases r : (k : Int) = x
        · rw [if_neg (by omega)]
          unfold xup
          rw [if_pos ⟨q.1, q.2.1, by omega⟩]
        · rw [if_pos ⟨q.1, q.2.1, by omega, q.2.2.2⟩]
      · rw [if_neg q, if_neg (fun r => q ⟨r.1, r.2.1, by omega, r.2.2.2⟩)]
        unfold xup
        rw [if_neg (fun r => q ⟨r.1, r.2.1, by omega, by omega⟩)]
    · rw [if_neg z, if_neg (fun r => by omega)]
theorem fill_11 (s : XS) (c0 : Nat) (t c k : Nat) : (f_J7_fill_53178_11 s c0 0).1 t c k = if t = 1 ∧ c = c0 ∧ (k : Int) < 5 then 0 else s t c k := by
  have q := fl_11 (c0 := c0) (t := t) (c := c) (k := k) (Int.toNat (5 - 0 + 1)) s 0 (by decide) (by decide) (by decide)
  refine q.trans ?_
  by_cases z : t = 1 ∧ c = c0 ∧ (k : Int) < 5
  · rw [if_pos z, if_pos ⟨z.1, z.2.1, by omega, z.2.2⟩]
  · rw [if_neg z, if_neg (fun r => z ⟨r.1, r.2.1, r.2.2.2⟩)]
theorem fl_12 {c0 t c k : Nat} : ∀ (n : Nat) (s : XS) (x : Int), 0 ≤ x → x ≤ 25 → 25 - x < (n : Int) → (L1_J7_fill_53178_12 n s c0 x).1 t c k = if t = 1 ∧ c = c0 ∧ x ≤ (k : Int) ∧ (k : Int) < 25 then 0 else s t c k
  | 0, s, x, h0, h1, hn => by omega
  | n + 1, s, x, h0, h1, hn => by
    show (g2l_J7_fill_53178_12 (L1_J7_fill_53178_12 n) s c0 x).1 t c k = _
    simp only [g2l_J7_fill_53178_12, g3b_J7_fill_53178_12, g4_J7_fill_53178_12, g5_J7_fill_53178_12, g6w_J7_fill_53178_12]
    by_cases z : x < 25
    · rw [if_pos z, fl_12 n _ (x + 1) (by omega) (by omega) (by omega)]
      by_cases q : t = 1 ∧ c = c0 ∧ x ≤ (k : Int) ∧ (k : Int) < 25
      · rw [if_pos q]
        by_cases r : (k : Int) = x
        · rw [if_neg (by omega)]
          unfold xup
          rw [if_pos ⟨q.1, q.2.1, by omega⟩]
        · rw [if_pos ⟨q.1, q.2.1, by omega, q.2.2.2⟩]
      · rw [if_neg q, if_neg (fun r => q ⟨r.1, r.2.1, by omega, r.2.2.2⟩)]
        unfold xup
        rw [if_neg (fun r => q ⟨r.1, r.2.1, by omega, by omega⟩)]
    · rw [if_neg z, if_neg (fun r => by omega)]
theorem fill_12 (s : XS) (c0 : Nat) (t c k : Nat) : (f_J7_fill_53178_12 s c0 0).1 t c k = if t = 1 ∧ c = c0 ∧ (k : Int) < 25 then 0 else s t c k := by
  have q := fl_12 (c0 := c0) (t := t) (c := c) (k := k) (Int.toNat (25 - 0 + 1)) s 0 (by decide) (by decide) (by decide)
  refine q.trans ?_
  by_cases z : t = 1 ∧ c = c0 ∧ (k : Int) < 25
  · rw [if_pos z, if_pos ⟨z.1, z.2.1, by omega, z.2.2⟩]
  · rw [if_neg z, if_neg (fun r => z ⟨r.1, r.2.1, r.2.2.2⟩)]
theorem fl_13 {c0 t c k : Nat} : ∀ (n : Nat) (s : XS) (x : Int), 0 ≤ x → x ≤ 25 → 25 - x < (n : Int) → (L1_J7_fill_53178_13 n s c0 x).1 t c k = if t = 1 ∧ c = c0 ∧ x ≤ (k : Int) ∧ (k : Int) < 25 then 0 else s t c k
  | 0, s, x, h0, h1, hn => by omega
  | n + 1, s, x, h0, h1, hn => by
    show (g2l_J7_fill_53178_13 (L1_J7_fill_53178_13 n) s c0 x).1 t c k = _
    simp only [g2l_J7_fill_53178_13, g3b_J7_fill_53178_13, g4_J7_fill_53178_13, g5_J7_fill_53178_13, g6w_J7_fill_53178_13]
    by_cases z : x < 25
    · rw [if_pos z, fl_13 n _ (x + 1) (by omega) (by omega) (by omega)]
      by_cases q : t = 1 ∧ c = c0 ∧ x ≤ (k : Int) ∧ (k : Int) < 25
      · rw [if_pos q]
        by_cases r : (k : Int) = x
        · rw [if_neg (by omega)]
          unfold xup
          rw [if_pos ⟨q.1, q.2.1, by omega⟩]
        · rw [if_pos ⟨q.1, q.2.1, by omega, q.2.2.2⟩]
      · rw [if_neg q, if_neg (fun r => q ⟨r.1, r.2.1, by omega, r.2.2.2⟩)]
        unfold xup
        rw [if_neg (fun r => q ⟨r.1, r.2.1, by omega, by omega⟩)]
    · rw [if_neg z, if_neg (fun r => by omega)]
theorem fill_13 (s : XS) (c0 : Nat) (t c k : Nat) : (f_J7_fill_53178_13 s c0 0).1 t c k = if t = 1 ∧ c = c0 ∧ (k : Int) < 25 then 0 else s t c k := by
  have q := fl_13 (c0 := c0) (t := t) (c := c) (k := k) (Int.toNat (25 - 0 + 1)) s 0 (by decide) (by decide) (by decide)
  refine q.trans ?_
  by_cases z : t = 1 ∧ c = c0 ∧ (k : Int) < 25
  · rw [if_pos z, if_pos ⟨z.1, z.2.1, by omega, z.2.2⟩]
  · rw [if_neg z, if_neg (fun r => z ⟨r.1, r.2.1, r.2.2.2⟩)]
theorem fl_14 {c0 t c k : Nat} : ∀ (n : Nat) (s : XS) (x : Int), 0 ≤ x → x ≤ 4 → 4 - x < (n : Int) → (L1_J7_fill_53178_14 n s c0 x).1 t c k = if t = 1 ∧ c = c0 ∧ x ≤ (k : Int) ∧ (k : Int) < 4 then 0 else s t c k
  | 0, s, x, h0, h1, hn => by omega
  | n + 1, s, x, h0, h1, hn => by
    show (g2l_J7_fill_53178_14 (L1_J7_fill_53178_14 n) s c0 x).1 t c k = _
    simp only [g2l_J7_fill_53178_14, g3b_J7_fill_53178_14, g4_J7_fill_53178_14, g5_J7_fill_53178_14, g6w_J7_fill_53178_14]
    by_cases z : x < 4
    · rw [if_pos z, fl_14 n _ (x + 1) (by omega) (by omega) (by omega)]
      by_cases q : t = 1 ∧ c = c0 ∧ x ≤ (k : Int) ∧ (k : Int) < 4
      · rw [if_pos q]
        by_cases r : (k : Int) = x
        · rw [if_neg (by omega)]
          unfold xup
          rw [if_pos ⟨q.1, q.2.1, by omega⟩]
        · rw [if_pos ⟨q.1, q.2.1, by omega, q.2.2.2⟩]
      · rw [if_neg q, if_neg (fun r => q ⟨r.1, r.2.1, by omega, r.2.2.2⟩)]
        unfold xup
        rw [if_neg (fun r => q ⟨r.1, r.2.1, by omega, by omega⟩)]
    · rw [if_neg z, if_neg (fun r => by omega)]
theorem fill_14 (s : XS) (c0 : Nat) (t c k : Nat) : (f_J7_fill_53178_14 s c0 0).1 t c k = if t = 1 ∧ c = c0 ∧ (k : Int) < 4 then 0 else s t c k := by
  have q := fl_14 (c0 := c0) (t := t) (c := c) (k := k) (Int.toNat (4 - 0 + 1)) s 0 (by decide) (by decide) (by decide)
  refine q.trans ?_
  by_cases z : t = 1 ∧ c = c0 ∧ (k : Int) < 4
  · rw [if_pos z, if_pos ⟨z.1, z.2.1, by omega, z.2.2⟩]
  · rw [if_neg z, if_neg (fun r => z ⟨r.1, r.2.1, r.2.2.2⟩)]
theorem fl_15 {c0 t c k : Nat} : ∀ (n : Nat) (s : XS) (x : Int), 0 ≤ x → x ≤ 4 → 4 - x < (n : Int) → (L1_J7_fill_53178_15 n s c0 x).1 t c k = if t = 1 ∧ c = c0 ∧ x ≤ (k : Int) ∧ (k : Int) < 4 then 0 else s t c k
  | 0, s, x, h0, h1, hn => by omega
  | n + 1, s, x, h0, h1, hn => by
    show (g2l_J7_fill_53178_15 (L1_J7_fill_53178_15 n) s c0 x).1 t c k = _
    simp only [g2l_J7_fill_53178_15, g3b_J7_fill_53178_15, g4_J7_fill_53178_15, g5_J7_fill_53178_15, g6w_J7_fill_53178_15]
    by_cases z : x < 4
    · rw [if_pos z, fl_15 n _ (x + 1) (by omega) (by omega) (by omega)]
      by_cases q : t = 1 ∧ c = c0 ∧ x ≤ (k : Int) ∧ (k : Int) < 4
      · rw [if_pos q]
        by_cases r : (k : Int) = x
        · rw [if_neg (by omega)]
          unfold xup
          rw [if_pos ⟨q.1, q.2.1, by omega⟩]
        · rw [if_pos ⟨q.1, q.2.1, by omega, q.2.2.2⟩]
      · rw [if_neg q, if_neg (fun r => q ⟨r.1, r.2.1, by omega, r.2.2.2⟩)]
        unfold xup
        rw [if_neg (fun r => q ⟨r.1, r.2.1, by omega, by omega⟩)]
    · rw [if_neg z, if_neg (fun r => by omega)]
theorem fill_15 (s : XS) (c0 : Nat) (t c k : Nat) : (f_J7_fill_53178_15 s c0 0).1 t c k = if t = 1 ∧ c = c0 ∧ (k : Int) < 4 then 0 else s t c k := by
  have q := fl_15 (c0 := c0) (t := t) (c := c) (k := k) (Int.toNat (4 - 0 + 1)) s 0 (by decide) (by decide) (by decide)
  refine q.trans ?_
  by_cases z : t = 1 ∧ c = c0 ∧ (k : Int) < 4
  · rw [if_pos z, if_pos ⟨z.1, z.2.1, by omega, z.2.2⟩]
  · rw [if_neg z, if_neg (fun r => z ⟨r.1, r.2.1, r.2.2.2⟩)]
theorem pl_l {t c k : Nat} : ∀ (n : Nat) (s : XS) (x : Int), 0 ≤ x → x ≤ 1774 → 1774 - x < (n : Int) → (L1_X12_plain4 n s x).1 t c k = if t = 1 ∧ c = 4 ∧ x ≤ (k : Int) ∧ (k : Int) < 1774 then 0 else s t c k
  | 0, s, x, h0, h1, hn => by omega
  | n + 1, s, x, h0, h1, hn => by
    show (g2l_X12_plain4 (L1_X12_plain4 n) s x).1 t c k = _
    simp only [g2l_X12_plain4, g3b_X12_plain4, g4_X12_plain4, g5_X12_plain4, g6w_X12_plain4]
    by_cases z : x < 1774
    · rw [if_pos z, pl_l n _ (x + 1) (by omega) (by omega) (by omega)]
      by_cases q : t = 1 ∧ c = 4 ∧ x ≤ (k : Int) ∧ (k : Int) < 1774
      · rw [if_pos q]
        by_cases r : (k : Int) = x
        · rw [if_neg (by omega)]
          unfold xup
          rw [if_pos ⟨q.1, q.2.1, by omega⟩]
        · rw [if_pos ⟨q.1, q.2.1, by omega, q.2.2.2⟩]
      · rw [if_neg q, if_neg (fun r => q ⟨r.1, r.2.1, by omega, r.2.2.2⟩)]
        unfold xup
        rw [if_neg (fun r => q ⟨r.1, r.2.1, by omega, by omega⟩)]
    · rw [if_neg z, if_neg (fun r => by omega)]
theorem plain_x (s : XS) (t c k : Nat) : (f_X12_plain4 s).1 t c k = if t = 1 ∧ c = 4 ∧ (k : Int) < 1774 then 0 else s t c k := by
  have q := pl_l (t := t) (c := c) (k := k) (Int.toNat (1774 - 0 + 1)) s 0 (by decide) (by decide) (by show 1774 - (0 : Int) < ((1775 : Nat) : Int); decide)
  unfold f_X12_plain4
  rw [q]
  by_cases z : t = 1 ∧ c = 4 ∧ (k : Int) < 1774
  · rw [if_pos z, if_pos ⟨z.1, z.2.1, by omega, z.2.2⟩]
  · rw [if_neg z, if_neg (fun r => z ⟨r.1, r.2.1, r.2.2.2⟩)]
/-- the city that is read is bare -/
theorem clear_x (s : XS) : (∀ t c k, ¬ (20 ≤ c ∧ c ≤ 38) → (f_X0_clear s 20).1 t c k = s t c k) ∧ (∀ k, 5 ≤ k → k ≤ 8 → (f_X0_clear s 20).1 0 20 k = 0) ∧ (f_X0_clear s 20).1 0 21 3 = 0 ∧ (f_X0_clear s 20).1 0 25 3 = 0 ∧ (f_X0_clear s 20).1 0 29 7 = 0 ∧ (f_X0_clear s 20).1 0 29 8 = 0 ∧ (∀ p, p < 5 → (f_X0_clear s 20).1 1 34 p = 0) ∧ (∀ p, p < 25 → (f_X0_clear s 20).1 1 35 p = 0) ∧ (∀ p, p < 25 → (f_X0_clear s 20).1 1 36 p = 0) := by
  simp only [f_X0_clear, g1c_X0_clear, g2c_X0_clear, g3c_X0_clear, g4c_X0_clear, g5c_X0_clear, g6w_X0_clear, g7w_X0_clear, g8w_X0_clear, g9w_X0_clear, f_X4_clear, g1w_X4_clear, g2w_X4_clear, f_X1_clear, g1c_X1_clear, g2c_X1_clear, g3c_X1_clear, g4w_X1_clear, g5w_X1_clear]
  refine ⟨fun t c k hk => ?_, fun k h5 h8 => ?_, ?_, ?_, ?_, ?_, fun p hp => ?_, fun p hp => ?_, fun p hp => ?_⟩
  · rw [xup_c (by omega), xup_c (by omega), xup_c (by omega), xup_c (by omega), fill_15, if_neg (fun q => hk (by omega)), fill_14, if_neg (fun q => hk (by omega)), xup_c (by omega), xup_c (by omega), fill_13, if_neg (fun q => hk (by omega)), fill_12, if_neg (fun q => hk (by omega)), fill_11, if_neg (fun q => hk (by omega)), xup_c (by omega), xup_c (by omega), xup_c (by omega), xup_c (by omega)]
  · rcases (show k = 5 ∨ k = 6 ∨ k = 7 ∨ k = 8 by omega) with rfl | rfl | rfl | rfl
    · rw [xup_k (by decide), xup_k (by decide), xup_k (by decide), xup_s]
    · rw [xup_k (by decide), xup_k (by decide), xup_s]
    · rw [xup_k (by decide), xup_s]
    · rw [xup_s]
  · rw [xup_c (by decide), xup_c (by decide), xup_c (by decide), xup_c (by decide), fill_15, if_neg (by decide), fill_14, if_neg (by decide), xup_c (by decide), xup_c (by decide), fill_13, if_neg (by decide), fill_12, if_neg (by decide), fill_11, if_neg (by decide), xup_c (by decide), xup_c (by decide), xup_k (by decide), xup_s]
  · rw [xup_c (by decide), xup_c (by decide), xup_c (by decide), xup_c (by decide), fill_15, if_neg (by decide), fill_14, if_neg (by decide), xup_c (by decide), xup_c (by decide), fill_13, if_neg (by decide), fill_12, if_neg (by decide), fill_11, if_neg (by decide), xup_k (by decide), xup_s]
  · rw [xup_c (by decide), xup_c (by decide), xup_c (by decide), xup_c (by decide), fill_15, if_neg (by decide), fill_14, if_neg (by decide), xup_k (by decide), xup_s]
  · rw [xup_c (by decide), xup_c (by decide), xup_c (by decide), xup_c (by decide), fill_15, if_neg (by decide), fill_14, if_neg (by decide), xup_s]
  · rw [xup_c (by decide), xup_c (by decide), xup_c (by decide), xup_c (by decide), fill_15, if_neg (by omega), fill_14, if_neg (by omega), xup_c (by decide), xup_c (by decide), fill_13, if_neg (by omega), fill_12, if_neg (by omega), fill_11, if_pos ⟨rfl, rfl, by omega⟩]
  · rw [xup_c (by decide), xup_c (by decide), xup_c (by decide), xup_c (by decide), fill_15, if_neg (by omega), fill_14, if_neg (by omega), xup_c (by decide), xup_c (by decide), fill_13, if_neg (by omega), fill_12, if_pos ⟨rfl, rfl, by omega⟩]
  · rw [xup_c (by decide), xup_c (by decide), xup_c (by decide), xup_c (by decide), fill_15, if_neg (by omega), fill_14, if_neg (by omega), xup_c (by decide), xup_c (by decide), fill_13, if_pos ⟨rfl, rfl, by omega⟩]
/-- both begin a text bare -/
theorem Ci_bare {s : XS} {A : Nat → Int} (h5 : ∀ k, 5 ≤ k → k ≤ 8 → s 0 20 k = 0) (h1 : s 0 21 3 = 0) (h2 : s 0 25 3 = 0) (h7 : s 0 29 7 = 0) (h8 : s 0 29 8 = 0) (h34 : ∀ p, p < 5 → s 1 34 p = 0) (h35 : ∀ p, p < 25 → s 1 35 p = 0) (h36 : ∀ p, p < 25 → s 1 36 p = 0) (hA : ∀ k, k < 1774 → A k = 0) : Ci 20 s A := by
  refine ⟨by rw [hA _ (by omega), h5 7 (by omega) (by omega)], by rw [hA _ (by omega), h5 8 (by omega) (by omega)], ⟨by rw [hA _ (by omega), h5 5 (by omega) (by omega)], by rw [hA _ (by omega), h5 6 (by omega) (by omega)], fun c hc => by rw [hA _ (by omega)]; omega, Or.inl ⟨h5 5 (by omega) (by omega), h5 6 (by omega) (by omega), fun c hc => hA _ (by omega)⟩⟩, ⟨by rw [hA _ (by omega)]; exact h7.symm, by show 0 ≤ s 0 29 7; omega, by show s 0 29 7 ≤ 5; omega, by rw [hA _ (by omega)]; exact h8.symm, fun p hp => ?_, fun p hp => by rw [hA _ (by omega)]; exact (h34 p hp).symm, fun c hc => ⟨by rw [hA _ (by omega)]; exact (h35 c hc).symm, by rw [hA _ (by omega)]; exact (h36 c hc).symm⟩⟩, by rw [hA _ (by omega)]; omega, by rw [hA _ (by omega)]; omega, Or.inl ⟨hA _ (by omega), h1⟩, Or.inl ⟨hA _ (by omega), h2⟩⟩
  have hp : (p : Int) < s 0 29 7 := hp
  omega
