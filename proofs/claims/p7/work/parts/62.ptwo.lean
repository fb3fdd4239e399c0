/-! words: the class's -/
theorem word_l {s : XS} {k : Nat} (h4 : s 0 77 4 = 1) (he : s 0 77 6 - s 0 77 5 = ((strLen.getD k 0 : Nat) : Int)) : ∀ (n : Nat) (x : Int), 0 ≤ x → x ≤ ((strLen.getD k 0 : Nat) : Int) → ((strLen.getD k 0 : Nat) : Int) - x < (n : Int) → (∀ j : Nat, (j : Int) < x → s 1 78 (s 0 77 5 + (j : Int)).toNat = (chB k j).toInt) → L8_X5_isWord n s k x = (s, wI (s 1 78) k (s 0 77))
  | 0, x, h0, hx, h, hj => by omega
  | n + 1, x, h0, hx, h, hj => by
    show g9l_X5_isWord (L8_X5_isWord n) s k x = _
    simp only [g9l_X5_isWord, g10c_X5_isWord, g11b_X5_isWord, g12_X5_isWord, g13_X5_isWord, g14c_X5_isWord, g15b_X5_isWord, g16_X5_isWord, g17_X5_isWord, len_x, char_x]
    have ex : ((x.toNat : Nat) : Int) = x := by omega
    by_cases c : x < ((strLen.getD k 0 : Nat) : Int)
    · rw [if_pos c]
      by_cases e : s 1 78 (Int.toNat (s 0 77 5 + x)) = (chB k (Int.toNat x)).toInt
      · rw [if_pos e]
        refine word_l h4 he n (x + 1) (by omega) (by omega) (by omega) (fun j hj' => ?_)
        by_cases z : (j : Int) = x
        · have : j = x.toNat := by omega
          subst this
          rw [ex]; exact e
        · exact hj j (by omega)
      · rw [if_neg e]
        refine congrArg (Prod.mk s) (wI_0 rfl (fun hw => e ?_))
        have q := hw.2.2 x.toNat (by omega)
        rw [ex] at q
        exact q
    · rw [if_neg c]
      exact congrArg (Prod.mk s) (wI_1 rfl ⟨h4, he, fun i hi => hj i (by omega)⟩)
theorem word_x (s : XS) (k : Nat) : f_X5_isWord s k = (s, wI (s 1 78) k (s 0 77)) := by
  simp only [f_X5_isWord, g1b_X5_isWord, g2_X5_isWord, g3_X5_isWord, g4c_X5_isWord, g5b_X5_isWord, g6_X5_isWord, g7_X5_isWord, len_x]
  by_cases c : s 0 77 4 = 1
  · rw [if_pos c]
    by_cases e : s 0 77 6 - s 0 77 5 = ((strLen.getD k 0 : Nat) : Int)
    · rw [if_pos e]
      have b := strLen_le k
      exact word_l c e _ 0 (by decide) (by omega) (by omega) (fun j hj => by omega)
    · rw [if_neg e]
      exact congrArg (Prod.mk s) (wI_0 rfl (fun hw => e hw.2.1))
  · rw [if_neg c]
    exact congrArg (Prod.mk s) (wI_0 rfl (fun hw => c hw.1))
/-! the reference's reader on stores -/
theorem see_x (m : XS) (a : Int) : f_X12_seex m a = (m, if a < m 0 0 8 then m 1 3 (Int.toNat a) else -1) := by
  simp only [f_X12_seex, g1b_X12_seex, g2_X12_seex, g3_X12_seex]
  split <;> rfl
theorem smallx_x (m : XS) (a : Int) : f_X12_isSmallx m a = (m, if isSm a then 1 else 0) := by
  simp only [f_X12_isSmallx, g1b_X12_isSmallx, g2_X12_isSmallx, g3_X12_isSmallx, g4b_X12_isSmallx, g5_X12_isSmallx, g6_X12_isSmallx]
  (repeat' split) <;> first | rfl | (exfalso; omega)
theorem digitx_x (m : XS) (a : Int) : f_X12_isDigitx m a = (m, if isDg a then 1 else 0) := by
  simp only [f_X12_isDigitx, g1b_X12_isDigitx, g2_X12_isDigitx, g3_X12_isDigitx, g4b_X12_isDigitx, g5_X12_isDigitx, g6_X12_isDigitx]
  (repeat' split) <;> first | rfl | (exfalso; omega)
theorem charx_x (s : XS) (k : Nat) (a : Int) : f_J0_charAt_5068ex s k a = (s, (chB k (Int.toNat a)).toInt) := by
  have b := chB_bd k (Int.toNat a)
  simp only [f_J0_charAt_5068ex, g1c_J0_charAt_5068ex, g2c_J0_charAt_5068ex, f_J0_isLatin1_aae02, f_J1_charAt_3b067x, g1c_J1_charAt_3b067x, ch_255i b.1 b.2]
theorem fails_x (m : XS) (a : Int) : f_X12_fails m a = (pO 0 m (failM a (m 0 0)), 0) := by
  simp only [f_X12_fails, g1b_X12_fails, g2_X12_fails, g3_X12_fails, g4b_X12_fails, g5_X12_fails, g6_X12_fails, g7w_X12_fails, g8w_X12_fails, g9w_X12_fails, g10w_X12_fails]
  unfold failM
  by_cases h : m 0 0 11 = 0
  · rw [if_pos h, if_pos h]
    by_cases g : m 0 0 9 = 25
    · rw [if_pos g, if_pos g]
      simp only [xup_put, put_put, put_at]
      rfl
    · rw [if_neg g, if_neg g]
      simp only [xup_put, put_put, put_at]
      rfl
  · rw [if_neg h, if_neg h, put_id]
theorem is_x (m : XS) (k : Int) : f_X12_is m k = (m, if m 0 0 11 = 0 ∧ m 0 0 9 = k then 1 else 0) := by
  simp only [f_X12_is, g1b_X12_is, g2_X12_is, g3_X12_is, g4b_X12_is, g5_X12_is, g6_X12_is]
  (repeat' split) <;> first | rfl | (exfalso; omega)
/-! keyAt -/
theorem chK_100 : chK 100 = 32 := by decide +kernel
theorem nb_bd : ∀ k : Nat, k < 101 → (k : Int) ≤ nb (k : Int) ∧ nb (k : Int) ≤ 100 := by decide +kernel
theorem nb_bdi {k : Int} (h0 : 0 ≤ k) (h1 : k ≤ 100) : k ≤ nb k ∧ nb k ≤ 100 := by
  have q := nb_bd k.toNat (by omega)
  rw [show ((k.toNat : Nat) : Int) = k by omega] at q
  exact q
theorem kskip_x {R : XS → Int → Int → XR} {m : XS} {x1 : Int} : ∀ (n : Nat) (x : Int), 0 ≤ x → x ≤ 100 → 100 - x < (n : Int) → L17_X12_keyAt R n m x1 x = R m (x1 + 1) (nb x + 1)
  | 0, x, h0, h1, h => by omega
  | n + 1, x, h0, h1, h => by
    show g18l_X12_keyAt R (L17_X12_keyAt R n) m x1 x = _
    simp only [g18l_X12_keyAt, g19c_X12_keyAt, g20b_X12_keyAt, g21_X12_keyAt, g22_X12_keyAt, charx_x]
    by_cases c : chK x = 32
    · rw [if_pos (show (chB 22 (Int.toNat x)).toInt = 32 from c), nb_e h1 c]
    · have : x ≠ 100 := fun e => c (by rw [e]; exact chK_100)
      rw [if_neg (show ¬ (chB 22 (Int.toNat x)).toInt = 32 from c), kskip_x n (x + 1) (by omega) (by omega) (by omega), nb_s h1 rfl c]
theorem kend_x {R : XS → Int → Int → XR} {m : XS} {x1 x2 x3 : Int} (h0 : 0 ≤ x2) (h1 : x2 ≤ 100) : g11_X12_keyAt R m x1 x2 x3 = if chK (x2 + x3) = 32 ∧ m 0 0 6 + x3 = m 0 0 7 then (m, x1) else R m (x1 + 1) (nb x2 + 1) := by
  have e24 : g24_X12_keyAt R m x1 x2 = g15_X12_keyAt R m x1 x2 := rfl
  have e15 : g15_X12_keyAt R m x1 x2 = R m (x1 + 1) (nb x2 + 1) := kskip_x _ x2 h0 h1 (by omega)
  simp only [g11_X12_keyAt, g13c_X12_keyAt, g14b_X12_keyAt, g16_X12_keyAt, g23b_X12_keyAt, g25_X12_keyAt, charx_x, e24, e15]
  by_cases c : chK (x2 + x3) = 32
  · rw [if_pos (show (chB 22 (Int.toNat (x2 + x3))).toInt = 32 from c)]
    by_cases e : m 0 0 6 + x3 = m 0 0 7
    · rw [if_pos e, if_pos ⟨c, e⟩]
    · rw [if_neg e, if_neg (fun q => e q.2)]
  · rw [if_neg (show ¬ (chB 22 (Int.toNat (x2 + x3))).toInt = 32 from c), if_neg (fun q => c q.1)]
theorem kin_x {R : XS → Int → Int → XR} {m : XS} {x1 x2 : Int} (h0 : 0 ≤ x2) (h1 : x2 ≤ 100) : ∀ (n : Nat) (x : Int), 0 ≤ x → x2 + x ≤ 100 → 100 - x < (n : Int) → (∀ j : Nat, (j : Int) < x → chK (x2 + (j : Int)) ≠ 32 ∧ m 1 3 (m 0 0 6 + (j : Int)).toNat = chK (x2 + (j : Int))) → (MW (m 1 3) (m 0 0 6) (m 0 0 7) x2 → L7_X12_keyAt R n m x1 x2 x = (m, x1)) ∧ (¬ MW (m 1 3) (m 0 0 6) (m 0 0 7) x2 → L7_X12_keyAt R n m x1 x2 x = R m (x1 + 1) (nb x2 + 1))
  | 0, x, g0, g1, h, hj => by omega
  | n + 1, x, g0, g1, h, hj => by
    have e33 : g33_X12_keyAt R m x1 x2 x = g11_X12_keyAt R m x1 x2 x := rfl
    have e56 : g56_X12_keyAt R m x1 x2 x = g11_X12_keyAt R m x1 x2 x := rfl
    have ex : ((x.toNat : Nat) : Int) = x := by omega
    have e : L7_X12_keyAt R (n + 1) m x1 x2 x = if chK (x2 + x) = 32 then g11_X12_keyAt R m x1 x2 x else if m 0 0 6 + x < m 0 0 7 then (if m 1 3 (Int.toNat (m 0 0 6 + x)) = chK (x2 + x) then L7_X12_keyAt R n m x1 x2 (x + 1) else g11_X12_keyAt R m x1 x2 x) else g11_X12_keyAt R m x1 x2 x := by
      show g8l_X12_keyAt R (L7_X12_keyAt R n) m x1 x2 x = _
      simp only [g8l_X12_keyAt, g9c_X12_keyAt, g10b_X12_keyAt, g12_X12_keyAt, g32b_X12_keyAt, g34_X12_keyAt, g54c_X12_keyAt, g55b_X12_keyAt, g57_X12_keyAt, charx_x, e33, e56]
      rfl
    rw [e, kend_x h0 h1]
    by_cases c : chK (x2 + x) = 32
    · rw [if_pos c]
      by_cases b : m 0 0 6 + x = m 0 0 7
      · have w := MW_yes g0 hj c b
        rw [if_pos ⟨c, b⟩]
        exact ⟨fun _ => rfl, fun q => absurd w q⟩
      · have w := MW_no g0 hj (Or.inl ⟨c, b⟩)
        rw [if_neg (fun q => b q.2)]
        exact ⟨fun q => absurd q w, fun _ => rfl⟩
    · rw [if_neg c, if_neg (show ¬ (chK (x2 + x) = 32 ∧ m 0 0 6 + x = m 0 0 7) from fun q => c q.1)]
      have : x2 + x ≠ 100 := fun z => c (by rw [z]; exact chK_100)
      by_cases b : m 0 0 6 + x < m 0 0 7
      · rw [if_pos b]
        by_cases t : m 1 3 (Int.toNat (m 0 0 6 + x)) = chK (x2 + x)
        · rw [if_pos t]
          refine kin_x h0 h1 n (x + 1) (by omega) (by omega) (by omega) (fun j hj' => ?_)
          by_cases z : (j : Int) = x
          · rw [z]; exact ⟨c, t⟩
          · exact hj j (by omega)
        · have w := MW_no (b := m 0 0 7) g0 hj (Or.inr ⟨c, Or.inr t⟩)
          rw [if_neg t]
          exact ⟨fun q => absurd q w, fun _ => rfl⟩
      · have w := MW_no (b := m 0 0 7) g0 hj (Or.inr ⟨c, Or.inl (by omega)⟩)
        rw [if_neg b]
        exact ⟨fun q => absurd q w, fun _ => rfl⟩
theorem kout_x {m : XS} : ∀ (n : Nat) (x1 x2 : Int), 0 ≤ x1 → x1 < x2 → 1 ≤ x2 → x2 ≤ 101 → 101 - x2 < (n : Int) → L1_X12_keyAt n m x1 x2 = (m, kyP (m 1 3) (m 0 0 6) (m 0 0 7) (200 - x1).toNat x2 x1)
  | 0, x1, x2, h0, h1, h2, h3, h => by omega
  | n + 1, x1, x2, h0, h1, h2, h3, h => by
    have el : strLen.getD 22 0 = 101 := by decide +kernel
    show g2l_X12_keyAt (L1_X12_keyAt n) m x1 x2 = _
    simp only [g2l_X12_keyAt, g3c_X12_keyAt, g4b_X12_keyAt, g5_X12_keyAt, g6_X12_keyAt, len_x, el]
    by_cases c : x2 < 101
    · rw [if_pos (show x2 < ((101 : Nat) : Int) from c)]
      have k := kin_x (R := L1_X12_keyAt n) (m := m) (x1 := x1) (x2 := x2) (by omega) (by omega) ((100 - 0 + 1 : Int)).toNat 0 (by decide) (by omega) (by decide) (fun j hj => by omega)
      by_cases w : MW (m 1 3) (m 0 0 6) (m 0 0 7) x2
      · rw [k.1 w, ← ky_y (by omega) c w]
      · have b := nb_bdi (k := x2) (by omega) (by omega)
        rw [k.2 w, kout_x n (x1 + 1) (nb x2 + 1) (by omega) (by omega) (by omega) (by omega) (by omega), ky_n (by omega) c w rfl rfl]
    · rw [if_neg (show ¬ x2 < ((101 : Nat) : Int) from c), ← ky_e (by omega)]
theorem key_x (m : XS) : f_X12_keyAt m = (m, kyM (m 1 3) (m 0 0 6) (m 0 0 7)) := by
  simp only [f_X12_keyAt]
  rw [kout_x _ 0 1 (by decide) (by decide) (by decide) (by decide) (by decide)]
  rfl
/-! next -/
theorem nrun_x : ∀ (n : Nat) (m : XS), m 0 0 8 ≤ 900 → 0 ≤ m 0 0 7 → m 0 0 7 ≤ 900 → 900 - m 0 0 7 < (n : Int) → L61_X12_next n m = (pO 0 m (upI (upI (m 0 0) 7 (run (m 1 3) (m 0 0 8) 97 122 (m 0 0 7))) 9 (kyM (m 1 3) (m 0 0 6) (run (m 1 3) (m 0 0 8) 97 122 (m 0 0 7)))), 0)
  | 0, m, h8, h0, h7, h => by omega
  | n + 1, m, h8, h0, h7, h => by
    show g62l_X12_next (L61_X12_next n) m = _
    simp only [g62l_X12_next, g63c_X12_next, g64c_X12_next, g65b_X12_next, g66_X12_next, g67_X12_next, g68c_X12_next, g69w_X12_next, g70w_X12_next, see_x, smallx_x, key_x]
    by_cases c : m 0 0 7 < m 0 0 8 ∧ (97 ≤ m 1 3 (m 0 0 7).toNat ∧ m 1 3 (m 0 0 7).toNat ≤ 122)
    · rw [if_pos c.1, if_pos (show isSm (m 1 3 (Int.toNat (m 0 0 7))) from c.2), if_neg (by decide)]
      have q := nrun_x n (pO 0 m (upI (m 0 0) 7 (m 0 0 7 + 1)))
      simp only [put_at, put_1, put_put, upI_up] at q
      rw [show upI (m 0 0) 7 (m 0 0 7 + 1) 8 = m 0 0 8 from rfl, show upI (m 0 0) 7 (m 0 0 7 + 1) 7 = m 0 0 7 + 1 from rfl, show upI (m 0 0) 7 (m 0 0 7 + 1) 6 = m 0 0 6 from rfl] at q
      rw [xup_put, q h8 (by omega) (by omega) (by omega), run_s h7 rfl c]
    · rw [run_e h7 c]
      have e : isSm (if m 0 0 7 < m 0 0 8 then m 1 3 (Int.toNat (m 0 0 7)) else -1) ↔ False := by
        constructor
        · intro z
          by_cases c1 : m 0 0 7 < m 0 0 8
          · rw [if_pos c1] at z; exact c ⟨c1, z⟩
          · rw [if_neg c1] at z; omega
        · exact False.elim
      rw [if_neg (fun z => e.mp z), if_pos rfl, xup_put, upI_id (s := m 0 0) (k := 7) rfl]
theorem ndig_x : ∀ (n : Nat) (m : XS), m 0 0 8 ≤ 900 → 0 ≤ m 0 0 7 → m 0 0 7 ≤ 900 → 900 - m 0 0 7 < (n : Int) → L42_X12_next n m = (pO 0 m (upI (upI (upI (m 0 0) 10 (nmM (m 1 3) (m 0 0 8) (m 0 0 6) (m 0 0 7) (m 0 0 10))) 7 (run (m 1 3) (m 0 0 8) 48 57 (m 0 0 7))) 9 (if 3 < run (m 1 3) (m 0 0 8) 48 57 (m 0 0 7) - m 0 0 6 then 25 else 23)), 0)
  | 0, m, h8, h0, h7, h => by omega
  | n + 1, m, h8, h0, h7, h => by
    show g43l_X12_next (L42_X12_next n) m = _
    simp only [g43l_X12_next, g44c_X12_next, g45c_X12_next, g46b_X12_next, g47_X12_next, g48_X12_next, g49b_X12_next, g50_X12_next, g51_X12_next, g52w_X12_next, g53w_X12_next, g54b_X12_next, g55_X12_next, g56_X12_next, g57w_X12_next, g58c_X12_next, g59w_X12_next, g60w_X12_next, see_x, digitx_x]
    by_cases c : m 0 0 7 < m 0 0 8 ∧ (48 ≤ m 1 3 (m 0 0 7).toNat ∧ m 1 3 (m 0 0 7).toNat ≤ 57)
    · rw [if_pos c.1, if_pos (show isDg (m 1 3 (Int.toNat (m 0 0 7))) from c.2), if_neg (by decide)]
      by_cases d : m 0 0 7 - m 0 0 6 < 3
      · rw [if_pos d]
        have q := ndig_x n (pO 0 m (upI (upI (m 0 0) 10 (10 * m 0 0 10 + m 1 3 (m 0 0 7).toNat - 48)) 7 (m 0 0 7 + 1)))
        simp only [put_at, put_1, put_put, upI_107] at q
        rw [show upI (upI (m 0 0) 10 (10 * m 0 0 10 + m 1 3 (m 0 0 7).toNat - 48)) 7 (m 0 0 7 + 1) 8 = m 0 0 8 from rfl, show upI (upI (m 0 0) 10 (10 * m 0 0 10 + m 1 3 (m 0 0 7).toNat - 48)) 7 (m 0 0 7 + 1) 7 = m 0 0 7 + 1 from rfl, show upI (upI (m 0 0) 10 (10 * m 0 0 10 + m 1 3 (m 0 0 7).toNat - 48)) 7 (m 0 0 7 + 1) 6 = m 0 0 6 from rfl, show upI (upI (m 0 0) 10 (10 * m 0 0 10 + m 1 3 (m 0 0 7).toNat - 48)) 7 (m 0 0 7 + 1) 10 = 10 * m 0 0 10 + m 1 3 (m 0 0 7).toNat - 48 from rfl] at q
        simp only [xup_put, put_at, put_put]
        rw [show upI (m 0 0) 10 (10 * m 0 0 10 + m 1 3 (Int.toNat (m 0 0 7)) - 48) 7 = m 0 0 7 from rfl, q h8 (by omega) (by omega) (by omega), run_s h7 rfl c, nmM_s h7 rfl (Or.inl ⟨d, rfl⟩) c]
      · rw [if_neg d]
        have q := ndig_x n (pO 0 m (upI (m 0 0) 7 (m 0 0 7 + 1)))
        simp only [put_at, put_1, put_put] at q
        rw [show upI (m 0 0) 7 (m 0 0 7 + 1) 8 = m 0 0 8 from rfl, show upI (m 0 0) 7 (m 0 0 7 + 1) 7 = m 0 0 7 + 1 from rfl, show upI (m 0 0) 7 (m 0 0 7 + 1) 6 = m 0 0 6 from rfl, show upI (m 0 0) 7 (m 0 0 7 + 1) 10 = m 0 0 10 from rfl] at q
        rw [xup_put, q h8 (by omega) (by omega) (by omega), run_s h7 rfl c, nmM_s h7 rfl (Or.inr ⟨d, rfl⟩) c]
        refine congrArg (fun z => (pO 0 m z, (0 : Int))) ?_
        funext j
        unfold upI
        by_cases j9 : j = 9
        · rw [if_pos j9, if_pos j9]
        · rw [if_neg j9, if_neg j9]
          by_cases j7 : j = 7
          · rw [if_pos j7, if_pos j7]
          · simp only [if_neg j7]
    · rw [run_e h7 c, nmM_e h7 c]
      have e : isDg (if m 0 0 7 < m 0 0 8 then m 1 3 (Int.toNat (m 0 0 7)) else -1) ↔ False := by
        constructor
        · intro z
          by_cases c1 : m 0 0 7 < m 0 0 8
          · rw [if_pos c1] at z; exact c ⟨c1, z⟩
          · rw [if_neg c1] at z; omega
        · exact False.elim
      rw [if_neg (fun z => e.mp z), if_pos rfl, upI_id3 rfl rfl]
      by_cases d : 3 < m 0 0 7 - m 0 0 6
      · rw [if_pos d, if_pos d, xup_put]
      · rw [if_neg d, if_neg d, xup_put]
theorem nsig_x {c : Int} : ∀ (n : Nat) (m : XS) (x : Int), 0 ≤ x → x ≤ 12 → 12 - x < (n : Int) → m 0 0 6 < m 0 0 8 → m 1 3 (Int.toNat (m 0 0 6)) = c → m 0 0 9 = kdP c x.toNat → L29_X12_next n m x = (pO 0 m (upI (m 0 0) 9 (kdP c 12)), 0)
  | 0, m, x, h0, h1, h, h6, hc, h9 => by omega
  | n + 1, m, x, h0, h1, h, h6, hc, h9 => by
    have el : strLen.getD 0 0 = 12 := by decide +kernel
    show g30l_X12_next (L29_X12_next n) m x = _
    simp only [g30l_X12_next, g31c_X12_next, g32b_X12_next, g33_X12_next, g34_X12_next, g35c_X12_next, g36c_X12_next, g37b_X12_next, g38_X12_next, g39_X12_next, g40w_X12_next, len_x, see_x, charx_x, el]
    by_cases d : x < 12
    · rw [if_pos (show x < ((12 : Nat) : Int) from d), if_pos h6, hc]
      by_cases e : c = (chB 0 (Int.toNat x)).toInt
      · rw [if_pos e, xup_put]
        have q := nsig_x (c := c) n (pO 0 m (upI (m 0 0) 9 (30 + x))) (x + 1) (by omega) (by omega) (by omega)
        simp only [put_at, put_1, put_put, upI_up, upI_s] at q
        exact q h6 hc (kd_y h0 rfl e rfl)
      · rw [if_neg e]
        exact nsig_x (c := c) n m (x + 1) (by omega) (by omega) (by omega) h6 hc (kd_n h0 rfl e h9)
    · rw [if_neg (show ¬ x < ((12 : Nat) : Int) from d)]
      have : x.toNat = 12 := by omega
      rw [this] at h9
      rw [upI_id h9, put_id]
theorem ntok_x (m : XS) (h8 : m 0 0 8 ≤ 900) (h6 : 0 ≤ m 0 0 6) : g11_X12_next m = (pO 0 m (nxT (m 1 3) (m 0 0 8) (m 0 0 6) (m 0 0)), 0) := by
  obtain ⟨x, hx⟩ : ∃ x, x = m 0 0 := ⟨_, rfl⟩
  obtain ⟨T, hT⟩ : ∃ T, T = m 1 3 := ⟨_, rfl⟩
  simp only [g11_X12_next, g13w_X12_next, g14b_X12_next, g15_X12_next, g16_X12_next, g71w_X12_next, g17c_X12_next, g18c_X12_next, g19b_X12_next, g20_X12_next, g21_X12_next, g22c_X12_next, g23c_X12_next, g24b_X12_next, g25_X12_next, g26_X12_next, g27w_X12_next, g28w_X12_next, g41w_X12_next, see_x, smallx_x, digitx_x]
  simp only [xup_put, put_put, put_at, put_1]
  rw [← hx] at h8 h6 ⊢
  rw [← hT]
  rw [show upI x 7 (x 6) 6 = x 6 from rfl, show upI x 7 (x 6) 8 = x 8 from rfl]
  have e6 : upI x 6 (x 6) = x := upI_id rfl
  unfold nxT
  rw [e6]
  by_cases c0 : x 8 ≤ x 6
  · rw [if_neg (by omega), if_pos c0]
  · have l : x 6 < x 8 := by omega
    simp only [if_pos l, if_neg c0]
    by_cases c1 : isSm (T (x 6).toNat)
    · rw [if_pos c1, if_neg (by decide), if_pos c1]
      have q := nrun_x ((900 - (upI x 7 (x 6) 7) + 1)).toNat (pO 0 m (upI x 7 (x 6)))
      simp only [put_at, put_1, put_put] at q
      rw [show upI x 7 (x 6) 8 = x 8 from rfl, show upI x 7 (x 6) 7 = x 6 from rfl, show upI x 7 (x 6) 6 = x 6 from rfl, ← hT] at q
      rw [show upI x 7 (x 6) 7 = x 6 from rfl]
      exact q h8 h6 (by omega) (by omega)
    · rw [if_neg c1, if_pos rfl, if_neg c1]
      by_cases c2 : isDg (T (x 6).toNat)
      · rw [if_pos c2, if_neg (by decide), if_pos c2]
        have q := ndig_x ((900 - (upI (upI x 7 (x 6)) 10 0 7) + 1)).toNat (pO 0 m (upI (upI x 7 (x 6)) 10 0))
        simp only [put_at, put_1, put_put] at q
        rw [show upI (upI x 7 (x 6)) 10 0 8 = x 8 from rfl, show upI (upI x 7 (x 6)) 10 0 7 = x 6 from rfl, show upI (upI x 7 (x 6)) 10 0 6 = x 6 from rfl, show upI (upI x 7 (x 6)) 10 0 10 = 0 from rfl, ← hT] at q
        rw [show upI (upI x 7 (x 6)) 10 0 7 = x 6 from rfl]
        exact q h8 h6 (by omega) (by omega)
      · rw [if_neg c2, if_pos rfl, if_neg c2]
        have q := nsig_x (c := T (x 6).toNat) ((102 - 0 + 1 : Int)).toNat (pO 0 m (upI (upI (upI x 7 (x 6)) 7 (x 6 + 1)) 9 25)) 0 (by decide) (by decide) (by decide)
        simp only [put_at, put_1, put_put, upI_s] at q
        rw [← hT] at q
        exact q (by show x 6 < x 8; omega) rfl rfl
theorem nxt_m (m : XS) (h8 : m 0 0 8 ≤ 900) (h7 : 0 ≤ m 0 0 7 ∧ m 0 0 7 ≤ 900) : f_X12_next m = (pO 0 m (nxM (m 1 3) (m 0 0)), 0) := by
  have lp : ∀ (n : Nat) (u : XS), u 0 0 8 ≤ 900 → 0 ≤ u 0 0 6 → u 0 0 6 ≤ 900 → 900 - u 0 0 6 < (n : Int) → L2_X12_next n u = (pO 0 u (nxT (u 1 3) (u 0 0 8) (skip (u 1 3) (u 0 0 8) (u 0 0 6)) (u 0 0)), 0) := by
    intro n
    induction n with
    | zero => intro u h8 h0 h6 h; omega
    | succ n ih =>
      intro u h8 h0 h6 h
      show g3l_X12_next (L2_X12_next n) u = _
      simp only [g3l_X12_next, g4c_X12_next, g5b_X12_next, g6_X12_next, g8w_X12_next, g7_X12_next, g9c_X12_next, g10b_X12_next, g12_X12_next, g72w_X12_next, see_x, ntok_x u h8 h0]
      by_cases c : u 0 0 6 < u 0 0 8 ∧ (u 1 3 (u 0 0 6).toNat = 32 ∨ u 1 3 (u 0 0 6).toNat = 10)
      · have q := ih (pO 0 u (upI (u 0 0) 6 (u 0 0 6 + 1)))
        simp only [put_at, put_1, put_put] at q
        rw [show upI (u 0 0) 6 (u 0 0 6 + 1) 8 = u 0 0 8 from rfl, show upI (u 0 0) 6 (u 0 0 6 + 1) 6 = u 0 0 6 + 1 from rfl] at q
        have q := q h8 (by omega) (by omega) (by omega)
        rw [skip_s h6 rfl c] at q
        have e : nxT (u 1 3) (u 0 0 8) (skip (u 1 3) (u 0 0 8) (u 0 0 6)) (upI (u 0 0) 6 (u 0 0 6 + 1)) = nxT (u 1 3) (u 0 0 8) (skip (u 1 3) (u 0 0 8) (u 0 0 6)) (u 0 0) := by unfold nxT; rw [upI_up]
        rw [e] at q
        rw [if_pos c.1, xup_put, q]
        split
        · rfl
        · rw [if_pos (by omega)]
      · rw [skip_e h6 c]
        by_cases c1 : u 0 0 6 < u 0 0 8
        · rw [if_pos c1, if_neg (by omega), if_neg (by omega)]
        · rw [if_neg c1, if_neg (by decide), if_neg (by decide)]
  simp only [f_X12_next, g1w_X12_next]
  have q := lp ((900 - m 0 0 7 + 1)).toNat (pO 0 m (upI (m 0 0) 6 (m 0 0 7)))
  simp only [put_at, put_1, put_put] at q
  rw [show upI (m 0 0) 6 (m 0 0 7) 8 = m 0 0 8 from rfl, show upI (m 0 0) 6 (m 0 0 7) 6 = m 0 0 7 from rfl] at q
  have q := q h8 h7.1 h7.2 (by omega)
  have e : nxT (m 1 3) (m 0 0 8) (skip (m 1 3) (m 0 0 8) (m 0 0 7)) (upI (m 0 0) 6 (m 0 0 7)) = nxT (m 1 3) (m 0 0 8) (skip (m 1 3) (m 0 0 8) (m 0 0 7)) (m 0 0) := by unfold nxT; rw [upI_up]
  rw [e] at q
  rw [xup_put, put_at, show upI (m 0 0) 6 (m 0 0 7) 6 = m 0 0 7 from rfl]
  exact q
