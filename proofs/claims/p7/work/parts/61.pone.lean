/-! the class's reader on stores -/
def pO (c : Nat) (s : XS) (x : Nat → Int) : XS := fun t c' k => if t = 0 ∧ c' = c then x k else s t c' k
theorem put_at {c : Nat} {s : XS} {x : Nat → Int} : pO c s x 0 c = x := by
  funext k; unfold pO; rw [if_pos ⟨rfl, rfl⟩]
theorem put_n {c t c' : Nat} {s : XS} {x : Nat → Int} (h : ¬ (t = 0 ∧ c' = c)) : pO c s x t c' = s t c' := by
  funext k; unfold pO; rw [if_neg h]
theorem put_1 {c c' : Nat} {s : XS} {x : Nat → Int} : pO c s x 1 c' = s 1 c' := put_n (fun q => absurd q.1 (by decide))
theorem put_3 {c c' : Nat} {s : XS} {x : Nat → Int} : pO c s x 3 c' = s 3 c' := put_n (fun q => absurd q.1 (by decide))
theorem put_put {c : Nat} {s : XS} {x y : Nat → Int} : pO c (pO c s x) y = pO c s y := by
  funext t c' k; unfold pO; split <;> rfl
theorem put_id {c : Nat} {s : XS} : pO c s (s 0 c) = s := by
  funext t c' k; unfold pO; split
  · rename_i h; rw [h.1, h.2]
  · rfl
theorem xup_put {c k : Nat} {s : XS} {v : Int} : xup s 0 c k v = pO c s (upI (s 0 c) k v) := by
  funext t c' k'; unfold xup pO upI
  by_cases h : t = 0 ∧ c' = c
  · rw [if_pos h, h.1, h.2]
    by_cases e : k' = k
    · rw [if_pos ⟨rfl, rfl, e⟩, if_pos e]
    · rw [if_neg (fun q => e q.2.2), if_neg e]
  · rw [if_neg h, if_neg (fun q => h ⟨q.1, q.2.1⟩)]
theorem fail_x (s : XS) (a : Int) : f_X5_fail s a = (pO 77 s (failS a (s 0 77)), 0) := by
  simp only [f_X5_fail, g1b_X5_fail, g2_X5_fail, g3_X5_fail, g4w_X5_fail, g5w_X5_fail, g6w_X5_fail, g7w_X5_fail]
  unfold failS
  by_cases h : s 0 77 8 = 0
  · rw [if_pos h, if_pos h]
    simp only [xup_put, put_put, put_at]
    rfl
  · rw [if_neg h, if_neg h]
    simp only [xup_put]
theorem small_x (s : XS) (a : Int) : f_X5_isSmall s a = (s, if isSm (s 1 78 (Int.toNat a)) then 1 else 0) := by
  simp only [f_X5_isSmall, g1b_X5_isSmall, g2_X5_isSmall, g3_X5_isSmall, g4b_X5_isSmall, g5_X5_isSmall, g6_X5_isSmall]
  (repeat' split) <;> first | rfl | (exfalso; omega)
theorem digit_x (s : XS) (a : Int) : f_X5_isDigit s a = (s, if isDg (s 1 78 (Int.toNat a)) then 1 else 0) := by
  simp only [f_X5_isDigit, g1b_X5_isDigit, g2_X5_isDigit, g3_X5_isDigit, g4b_X5_isDigit, g5_X5_isDigit, g6_X5_isDigit]
  (repeat' split) <;> first | rfl | (exfalso; omega)
theorem ch_255 : ∀ c : Nat, c < 128 → Xi2c (Xiand ((c : Nat) : Int) 255) = (c : Int) := by decide +kernel
theorem ch_255i {c : Int} (h0 : 0 ≤ c) (h1 : c ≤ 127) : Xi2c (Xiand c 255) = c := by
  have q := ch_255 c.toNat (by omega)
  rw [show ((c.toNat : Nat) : Int) = c by omega] at q
  exact q
theorem char1_x (s : XS) (k : Nat) (a : Int) : f_J1_charAt_3b067 s k a = (s, (chB k (Int.toNat a)).toInt) := by
  simp only [f_J1_charAt_3b067, g1c_J1_charAt_3b067]
  have b := chB_bd k (Int.toNat a)
  rw [ch_255i b.1 b.2]
theorem char_x (s : XS) (k : Nat) (a : Int) : f_J0_charAt_5068e s k a = (s, (chB k (Int.toNat a)).toInt) := by
  simp only [f_J0_charAt_5068e, g1c_J0_charAt_5068e, g2c_J0_charAt_5068e, f_J0_isLatin1_aae02, char1_x]
theorem len_x (s : XS) (k : Nat) : f_J0_length_8abf5 s k = (s, ((strLen.getD k 0 : Nat) : Int)) := by
  simp only [f_J0_length_8abf5, g1c_J0_length_8abf5, f_J0_coder_7d493, Int.ediv_one]
/-! SIGNS.indexOf -/
theorem ioc_x {s : XS} {k : Nat} {a3 v : Int} : ∀ (n : Nat) (x : Int), 0 ≤ x → x ≤ a3 → a3 - x < (n : Int) → ∃ r : Int, L1_J1_indexOfChar_4cfef n s k a3 v x = (s, r) ∧ ((x ≤ r ∧ r < a3 ∧ (chB k (Int.toNat r)).toInt = v) ∨ (r = -1 ∧ ∀ j : Int, x ≤ j → j < a3 → (chB k (Int.toNat j)).toInt ≠ v))
  | 0, x, h0, h9, h => by exfalso; omega
  | n + 1, x, h0, h9, h => by
    show ∃ r : Int, g2l_J1_indexOfChar_4cfef (L1_J1_indexOfChar_4cfef n) s k a3 v x = (s, r) ∧ _
    simp only [g2l_J1_indexOfChar_4cfef, g3b_J1_indexOfChar_4cfef, g4_J1_indexOfChar_4cfef, g5_J1_indexOfChar_4cfef, g6b_J1_indexOfChar_4cfef, g7_J1_indexOfChar_4cfef, g8_J1_indexOfChar_4cfef]
    by_cases c : x < a3
    · rw [if_pos c]
      by_cases e : (chB k (Int.toNat x)).toInt = v
      · rw [if_pos e]
        exact ⟨x, rfl, Or.inl ⟨Int.le_refl _, c, e⟩⟩
      · rw [if_neg e]
        obtain ⟨r, h1, h2⟩ := ioc_x (s := s) (k := k) (a3 := a3) (v := v) n (x + 1) (by omega) (by omega) (by omega)
        refine ⟨r, h1, ?_⟩
        rcases h2 with h2 | h2
        · exact Or.inl ⟨by omega, h2.2⟩
        · refine Or.inr ⟨h2.1, fun j h3 h4 => ?_⟩
          by_cases z : j = x
          · rw [z]; exact e
          · exact h2.2 j (by omega) h4
    · rw [if_neg c]
      exact ⟨-1, rfl, Or.inr ⟨rfl, fun j h3 h4 => by omega⟩⟩
theorem can_x {s : XS} {a : Int} (h0 : 0 ≤ a) (h1 : a ≤ 255) : f_J1_canEncode_9a6ad s a = (s, 1) := by
  simp only [f_J1_canEncode_9a6ad, g1b_J1_canEncode_9a6ad, g2_J1_canEncode_9a6ad, g3_J1_canEncode_9a6ad, g4b_J1_canEncode_9a6ad, g5_J1_canEncode_9a6ad, g6_J1_canEncode_9a6ad]
  rw [if_neg (by omega), if_neg (by omega)]
theorem i2b_s : ∀ c : Nat, c < 128 → Xi2b ((c : Nat) : Int) = (c : Int) := by decide +kernel
theorem i2b_i {c : Int} (h0 : 0 ≤ c) (h1 : c ≤ 127) : Xi2b c = c := by
  have q := i2b_s c.toNat (by omega)
  rw [show ((c.toNat : Nat) : Int) = c by omega] at q
  exact q
theorem i2c_s : ∀ c : Nat, c < 128 → Xi2c ((c : Nat) : Int) = (c : Int) := by decide +kernel
theorem i2c_i {c : Int} (h0 : 0 ≤ c) (h1 : c ≤ 127) : Xi2c c = c := by
  have q := i2c_s c.toNat (by omega)
  rw [show ((c.toNat : Nat) : Int) = c by omega] at q
  exact q
theorem idx_x {s : XS} {c : Int} (h0 : 0 < c) (h1 : c ≤ 127) : ∃ r : Int, f_J0_indexOf_0f7a4 s 0 c = (s, r) ∧ ((0 ≤ r ∧ sgn c) ∨ (r = -1 ∧ ¬ sgn c)) := by
  have e : strLen.getD 0 0 = 12 := by decide +kernel
  obtain ⟨r, h2, h3⟩ := ioc_x (s := s) (k := 0) (a3 := 12) (v := c) ((102 - 0 + 1 : Int)).toNat 0 (by decide) (by decide) (by decide)
  refine ⟨r, ?_, ?_⟩
  · simp only [f_J0_indexOf_0f7a4, g1c_J0_indexOf_0f7a4, f_J0_indexOf_7cf53, g1c_J0_indexOf_7cf53, g2c_J0_indexOf_7cf53, g3c_J0_indexOf_7cf53, f_J0_isLatin1_aae02, f_J1_indexOf_4cfef, g1c_J1_indexOf_4cfef, g2b_J1_indexOf_4cfef, g3_J1_indexOf_4cfef, g4_J1_indexOf_4cfef, g5b_J1_indexOf_4cfef, g6_J1_indexOf_4cfef, g7_J1_indexOf_4cfef, g8c_J1_indexOf_4cfef, f_J1_indexOfChar_4cfef, g2l_J1_indexOfChar_4cfef, g3b_J1_indexOfChar_4cfef, g4_J1_indexOfChar_4cfef, g5_J1_indexOfChar_4cfef, g6b_J1_indexOfChar_4cfef, g7_J1_indexOfChar_4cfef, g8_J1_indexOfChar_4cfef, len_x, can_x (s := s) (a := c) (by omega) (by omega), e, i2b_i (c := c) (by omega) h1]
    rw [if_neg (by decide), if_pos (by decide)]
    exact h2
  · have q := ix_sgn (r := r) (c := c) (by
      rcases h3 with ⟨a, b, d⟩ | ⟨a, b⟩
      · exact Or.inl ⟨a, r.toNat, by rw [e]; omega, d⟩
      · exact Or.inr ⟨a, fun j hj => by
          have z := b (j : Int) (by omega) (by rw [e] at hj; omega)
          exact z⟩)
    exact q
/-! advance -/
theorem rnd_x : ∀ (n : Nat) (s : XS), s 0 77 3 ≤ 900 → s 0 77 6 ≤ 900 → 900 - s 0 77 6 < (n : Int) → L55_X5_advance n s = (pO 77 s (upI (s 0 77) 6 (run (s 1 78) (s 0 77 3) 97 122 (s 0 77 6))), 0)
  | 0, s, h3, h6, h => by omega
  | n + 1, s, h3, h6, h => by
    show g56l_X5_advance (L55_X5_advance n) s = _
    simp only [g56l_X5_advance, g57b_X5_advance, g58_X5_advance, g59_X5_advance, g60c_X5_advance, g61b_X5_advance, g62_X5_advance, g63_X5_advance, g64w_X5_advance, small_x]
    by_cases c : s 0 77 6 < s 0 77 3 ∧ (97 ≤ s 1 78 (s 0 77 6).toNat ∧ s 1 78 (s 0 77 6).toNat ≤ 122)
    · rw [if_pos c.1, if_pos (show isSm (s 1 78 (Int.toNat (s 0 77 6))) from c.2), if_neg (by decide)]
      have q := rnd_x n (xup s 0 77 6 (s 0 77 6 + 1))
      rw [xup_put] at q ⊢
      simp only [put_at, put_1, put_put, upI_up, upI_s] at q
      rw [show upI (s 0 77) 6 (s 0 77 6 + 1) 3 = s 0 77 3 from rfl] at q
      rw [q h3 (by omega) (by omega), run_s h6 rfl c]
    · rw [run_e h6 c, upI_id rfl, put_id]
      by_cases c1 : s 0 77 6 < s 0 77 3
      · rw [if_pos c1, if_neg (show ¬ isSm (s 1 78 (Int.toNat (s 0 77 6))) from fun z => c ⟨c1, z⟩), if_pos rfl]
      · rw [if_neg c1]
theorem nxt_x (v t : Int) : Xisub (Xiadd (Ximul v 10) t) 48 = nxt v t := by
  unfold Xisub Xiadd Ximul nxt
  simp only [Int32.ofInt_toInt]
  rfl
/-- behind the digits -/
def dgF (s : XS) : XS := pO 77 s (advN (s 0 77 6 - s 0 77 5) (s 0 77))
theorem dgF_x (s : XS) : g46_X5_advance s = (dgF s, 0) := by
  simp only [g46_X5_advance, g48b_X5_advance, g49_X5_advance, g50_X5_advance, g51c_X5_advance, fail_x]
  unfold dgF advN
  split
  · rfl
  · rw [put_id]
theorem dig_x : ∀ (n : Nat) (s : XS), s 0 77 3 ≤ 900 → s 0 77 6 ≤ 900 → 900 - s 0 77 6 < (n : Int) → L35_X5_advance n s = (dgF (pO 77 s (upI (upI (s 0 77) 7 (num (s 1 78) (s 0 77 3) (s 0 77 6) (s 0 77 7))) 6 (run (s 1 78) (s 0 77 3) 48 57 (s 0 77 6)))), 0)
  | 0, s, h3, h6, h => by omega
  | n + 1, s, h3, h6, h => by
    show g36l_X5_advance (L35_X5_advance n) s = _
    have e38 : g38_X5_advance s = (dgF s, 0) := dgF_x s
    simp only [g36l_X5_advance, g37b_X5_advance, e38, g39_X5_advance, g44c_X5_advance, g45b_X5_advance, dgF_x, g47_X5_advance, g52w_X5_advance, g53w_X5_advance, digit_x, nxt_x]
    by_cases c : s 0 77 6 < s 0 77 3 ∧ (48 ≤ s 1 78 (s 0 77 6).toNat ∧ s 1 78 (s 0 77 6).toNat ≤ 57)
    · rw [if_pos c.1, if_pos (show isDg (s 1 78 (Int.toNat (s 0 77 6))) from c.2), if_neg (by decide)]
      have q := dig_x n (pO 77 s (upI (upI (s 0 77) 7 (nxt (s 0 77 7) (s 1 78 (Int.toNat (s 0 77 6))))) 6 (s 0 77 6 + 1)))
      simp only [xup_put, put_at, put_1, put_put, upI_76] at q ⊢
      rw [show upI (upI (s 0 77) 7 (nxt (s 0 77 7) (s 1 78 (Int.toNat (s 0 77 6))))) 6 (s 0 77 6 + 1) 3 = s 0 77 3 from rfl, show upI (upI (s 0 77) 7 (nxt (s 0 77 7) (s 1 78 (Int.toNat (s 0 77 6))))) 6 (s 0 77 6 + 1) 6 = s 0 77 6 + 1 from rfl, show upI (upI (s 0 77) 7 (nxt (s 0 77 7) (s 1 78 (Int.toNat (s 0 77 6))))) 6 (s 0 77 6 + 1) 7 = nxt (s 0 77 7) (s 1 78 (Int.toNat (s 0 77 6))) from rfl] at q
      rw [show upI (s 0 77) 7 (nxt (s 0 77 7) (s 1 78 (Int.toNat (s 0 77 6)))) 6 = s 0 77 6 from rfl, q h3 (by omega) (by omega), run_s h6 rfl c, num_st h6 rfl rfl c]
    · rw [run_e h6 c, numR_e h6 c, upI_id2 rfl rfl, put_id]
      by_cases c1 : s 0 77 6 < s 0 77 3
      · rw [if_pos c1, if_neg (show ¬ isDg (s 1 78 (Int.toNat (s 0 77 6))) from fun z => c ⟨c1, z⟩), if_pos rfl]
      · rw [if_neg c1]
/-- a token at the place that the reader stands at -/
theorem tok_x (s : XS) (h3 : s 0 77 3 ≤ 900) (h5 : 0 ≤ s 0 77 5) (hT : ∀ j, -128 ≤ s 1 78 j ∧ s 1 78 j ≤ 127) : g8_X5_advance s = (pO 77 s (advT (s 1 78) (s 0 77 3) (s 0 77 5) (s 0 77)), 0) := by
  simp only [g8_X5_advance, g10w_X5_advance, g11b_X5_advance, g12_X5_advance, g13_X5_advance, g65w_X5_advance, g14c_X5_advance, g15b_X5_advance, g16_X5_advance, g17_X5_advance, g18c_X5_advance, g19b_X5_advance, g20_X5_advance, g21_X5_advance, g22b_X5_advance, g23_X5_advance, g25c_X5_advance, g24_X5_advance, g26c_X5_advance, g27b_X5_advance, g28_X5_advance, g30c_X5_advance, g29_X5_advance, g31w_X5_advance, g32w_X5_advance, g33w_X5_advance, g34w_X5_advance, g54w_X5_advance, small_x, digit_x, fail_x]
  simp only [xup_put, put_put, put_at, put_1]
  obtain ⟨x, hx⟩ : ∃ x, x = s 0 77 := ⟨_, rfl⟩
  obtain ⟨T, hT'⟩ : ∃ T, T = s 1 78 := ⟨_, rfl⟩
  rw [← hx] at h3 h5 ⊢
  rw [← hT'] at hT ⊢
  rw [show upI x 6 (x 5) 5 = x 5 from rfl, show upI x 6 (x 5) 3 = x 3 from rfl]
  have e5 : upI x 5 (x 5) = x := upI_id rfl
  unfold advT
  rw [e5]
  by_cases c0 : x 3 ≤ x 5
  · rw [if_neg (by omega), if_pos c0]
  · rw [if_pos (by omega), if_neg c0]
    by_cases c1 : isSm (T (x 5).toNat)
    · rw [if_pos c1, if_neg (by decide), if_pos c1]
      have q := rnd_x ((900 - (upI (upI x 6 (x 5)) 4 1 6) + 1)).toNat (pO 77 s (upI (upI x 6 (x 5)) 4 1))
      simp only [put_at, put_1, put_put] at q
      rw [show upI (upI x 6 (x 5)) 4 1 3 = x 3 from rfl, show upI (upI x 6 (x 5)) 4 1 6 = x 5 from rfl, ← hT'] at q
      rw [show upI (upI x 6 (x 5)) 4 1 6 = x 5 from rfl]
      exact q h3 (by omega) (by omega)
    · rw [if_neg c1, if_pos rfl, if_neg c1]
      by_cases c2 : isDg (T (x 5).toNat)
      · rw [if_pos c2, if_neg (by decide), if_pos c2]
        have q := dig_x ((900 - (upI (upI (upI x 6 (x 5)) 4 2) 7 0 6) + 1)).toNat (pO 77 s (upI (upI (upI x 6 (x 5)) 4 2) 7 0))
        simp only [put_at, put_1, put_put] at q
        rw [show upI (upI (upI x 6 (x 5)) 4 2) 7 0 3 = x 3 from rfl, show upI (upI (upI x 6 (x 5)) 4 2) 7 0 6 = x 5 from rfl, show upI (upI (upI x 6 (x 5)) 4 2) 7 0 7 = 0 from rfl, ← hT'] at q
        rw [show upI (upI (upI x 6 (x 5)) 4 2) 7 0 6 = x 5 from rfl, q h3 (by omega) (by omega)]
        unfold dgF
        rw [put_put, put_at]
        rfl
      · rw [if_neg c2, if_pos rfl, if_neg c2]
        by_cases c3 : 0 < T (x 5).toNat
        · rw [if_pos c3]
          obtain ⟨r, e1, e2⟩ := idx_x (s := pO 77 s (upI x 6 (x 5))) c3 (hT _).2
          rw [i2c_i (Int.le_of_lt c3) (hT _).2]
          simp only [e1]
          rcases e2 with ⟨g1, g2⟩ | ⟨g1, g2⟩
          · rw [if_neg (by omega), if_pos g2]
            simp only [xup_put, put_put, put_at, put_1]
            rw [← hT']
            rfl
          · rw [if_pos (by omega), if_neg g2]
            simp only [put_put, put_at]
        · rw [if_neg c3, if_neg (by omega)]
theorem g71_8 : g71_X5_advance = g8_X5_advance := rfl
theorem adv_x (s : XS) (h3 : s 0 77 3 ≤ 900) (h6 : 0 ≤ s 0 77 6 ∧ s 0 77 6 ≤ 900) (hT : ∀ j, -128 ≤ s 1 78 j ∧ s 1 78 j ≤ 127) : f_X5_advance s = (pO 77 s (advS (s 1 78) (s 0 77)), 0) := by
  have lp : ∀ (n : Nat) (u : XS), u 0 77 3 ≤ 900 → 0 ≤ u 0 77 5 → u 0 77 5 ≤ 900 → (∀ j, -128 ≤ u 1 78 j ∧ u 1 78 j ≤ 127) → 900 - u 0 77 5 < (n : Int) → L5_X5_advance n u = (pO 77 u (advT (u 1 78) (u 0 77 3) (skip (u 1 78) (u 0 77 3) (u 0 77 5)) (u 0 77)), 0) := by
    intro n
    induction n with
    | zero => intro u h3 h0 h5 hT h; omega
    | succ n ih =>
      intro u h3 h0 h5 hT h
      show g6l_X5_advance (L5_X5_advance n) u = _
      simp only [g6l_X5_advance, g7b_X5_advance, g9_X5_advance, g66b_X5_advance, g67_X5_advance, g69w_X5_advance, g68_X5_advance, g70b_X5_advance, g72_X5_advance, g129w_X5_advance, g71_8, tok_x u h3 h0 hT]
      by_cases c : u 0 77 5 < u 0 77 3 ∧ (u 1 78 (u 0 77 5).toNat = 32 ∨ u 1 78 (u 0 77 5).toNat = 10)
      · have q := ih (pO 77 u (upI (u 0 77) 5 (u 0 77 5 + 1)))
        simp only [put_at, put_1, put_put] at q
        rw [show upI (u 0 77) 5 (u 0 77 5 + 1) 3 = u 0 77 3 from rfl, show upI (u 0 77) 5 (u 0 77 5 + 1) 5 = u 0 77 5 + 1 from rfl] at q
        have q := q h3 (by omega) (by omega) hT (by omega)
        rw [skip_s h5 rfl c] at q
        have e : advT (u 1 78) (u 0 77 3) (skip (u 1 78) (u 0 77 3) (u 0 77 5)) (upI (u 0 77) 5 (u 0 77 5 + 1)) = advT (u 1 78) (u 0 77 3) (skip (u 1 78) (u 0 77 3) (u 0 77 5)) (u 0 77) := by unfold advT; rw [upI_up]
        rw [e] at q
        rw [if_pos c.1, xup_put, q]
        split
        · rfl
        · rw [if_pos (by omega)]
      · rw [skip_e h5 c]
        by_cases c1 : u 0 77 5 < u 0 77 3
        · rw [if_pos c1, if_neg (by omega), if_neg (by omega)]
        · rw [if_neg c1]
  simp only [f_X5_advance, g1b_X5_advance, g2_X5_advance, g3_X5_advance, g4w_X5_advance]
  unfold advS
  by_cases c : s 0 77 8 = 0
  · rw [if_pos c, if_pos c]
    have q := lp ((900 - s 0 77 6 + 1)).toNat (pO 77 s (upI (s 0 77) 5 (s 0 77 6)))
    simp only [put_at, put_1, put_put] at q
    rw [show upI (s 0 77) 5 (s 0 77 6) 3 = s 0 77 3 from rfl, show upI (s 0 77) 5 (s 0 77 6) 5 = s 0 77 6 from rfl] at q
    have q := q h3 h6.1 h6.2 hT (by omega)
    have e : advT (s 1 78) (s 0 77 3) (skip (s 1 78) (s 0 77 3) (s 0 77 6)) (upI (s 0 77) 5 (s 0 77 6)) = advT (s 1 78) (s 0 77 3) (skip (s 1 78) (s 0 77 3) (s 0 77 6)) (s 0 77) := by unfold advT; rw [upI_up]
    rw [e] at q
    rw [xup_put, put_at, show upI (s 0 77) 5 (s 0 77 6) 5 = s 0 77 6 from rfl]
    exact q
  · rw [if_neg c, if_neg c, put_id]
