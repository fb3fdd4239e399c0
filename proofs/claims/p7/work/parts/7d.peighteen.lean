/-! feed: bytes of both tapes -/
theorem byt_x (y : Int) : (0 ≤ Xiand y 255 ∧ Xiand y 255 ≤ 127 ∧ Xi2b (Xi2b y) = Xiand y 255) ∨ (128 ≤ Xiand y 255 ∧ Xiand y 255 ≤ 255 ∧ Xi2b (Xi2b y) = Xiand y 255 - 256) := by
  have ea : Xiand y 255 = (Int32.ofInt y).toInt % 256 := by
    unfold Xiand
    have h1 : (Int32.ofInt y &&& Int32.ofInt 255).toBitVec.toNat = (Int32.ofInt y).toBitVec.toNat % 256 := by
      have e : (Int32.ofInt y &&& Int32.ofInt 255).toBitVec = (Int32.ofInt y).toBitVec &&& 255#32 := rfl
      rw [e, BitVec.toNat_and, show (255#32).toNat = 2 ^ 8 - 1 from rfl, Nat.and_two_pow_sub_one_eq_mod]
    have h2 : (Int32.ofInt y &&& Int32.ofInt 255).toInt = (Int32.ofInt y &&& Int32.ofInt 255).toBitVec.toInt := rfl
    have h3 : (Int32.ofInt y).toInt = (Int32.ofInt y).toBitVec.toInt := rfl
    rw [h2, h3, BitVec.toInt_eq_toNat_cond, BitVec.toInt_eq_toNat_cond, h1]
    have := (Int32.ofInt y).toBitVec.isLt
    split <;> split <;> omega
  have e1 : Xi2b y = (Int32.ofInt y).toInt.bmod 256 := by
    unfold Xi2b
    rw [Int8.toInt_toInt32, Int32.toInt_toInt8]
  have e : (Int32.ofInt y).toInt.bmod 256 = if (Int32.ofInt y).toInt % 256 < 128 then (Int32.ofInt y).toInt % 256 else (Int32.ofInt y).toInt % 256 - 256 := by
    unfold Int.bmod
    rfl
  have b : -128 ≤ Xi2b y ∧ Xi2b y ≤ 127 := by
    rw [e1, e]
    split <;> omega
  have e2 : Xi2b (Xi2b y) = Xi2b y := by
    have k : Xi2b y = ((Int32.ofInt y).toInt8.toInt32).toInt := rfl
    rw [k] at b ⊢
    unfold Xi2b
    rw [Int32.ofInt_toInt]
    exact by_id b.1 b.2
  rw [e2, e1, ea, e]
  split <;> omega
noncomputable def wrC (s : XS) (a x : Int) : XS := xup (xup s 1 78 (Int.toNat (s 0 77 2)) (Xi2b (Xi2b (Xishr a x)))) 0 77 2 (s 0 77 2 + 1)
noncomputable def wrM (m : XS) (v x : Int) : XS := xup (xup m 1 3 (Int.toNat (m 0 0 5)) (Xiand (Xishr v (24 - (8 * (x % 4)))) 255)) 0 0 5 (m 0 0 5 + 1)
theorem put_s (n : Nat) (s : XS) (a x : Int) : L1_X5_put (n + 1) s a x = if x < 0 then (s, 0) else if s 0 77 2 < 900 then L1_X5_put n (wrC s a x) a (x + (-8)) else (s, 0) := by
  show g2l_X5_put (L1_X5_put n) s a x = _
  have e : ∀ v, xup s 1 78 (Int.toNat (s 0 77 2)) v 0 77 2 = s 0 77 2 := fun v => xup_t (by decide)
  simp only [g2l_X5_put, g3b_X5_put, g4_X5_put, g5_X5_put, g6b_X5_put, g7_X5_put, g8_X5_put, g9w_X5_put, g10w_X5_put, e]
  rfl
theorem feed_s (n : Nat) (m : XS) (a1 a2 a3 a4 a5 x : Int) : L5_X12_feed (n + 1) m a1 a2 a3 a4 a5 x = if x < 20 then L5_X12_feed n (wrM m (if x < 4 then a1 else if x < 8 then a2 else if x < 12 then a3 else if x < 16 then a4 else a5) x) a1 a2 a3 a4 a5 (x + 1) else (m, m 0 0 5) := by
  show g6l_X12_feed (L5_X12_feed n) m a1 a2 a3 a4 a5 x = _
  have e : ∀ v, xup m 1 3 (Int.toNat (m 0 0 5)) v 0 0 5 = m 0 0 5 := fun v => xup_t (by decide)
  simp only [g6l_X12_feed, g7b_X12_feed, g8_X12_feed, g9_X12_feed, g10b_X12_feed, g11_X12_feed, g12_X12_feed, g13b_X12_feed, g14_X12_feed, g15_X12_feed, g16b_X12_feed, g17_X12_feed, g18_X12_feed, g19b_X12_feed, g20_X12_feed, g21_X12_feed, g22w_X12_feed, g23w_X12_feed, g24w_X12_feed, g25w_X12_feed, g26w_X12_feed, g27w_X12_feed, g28w_X12_feed, g29w_X12_feed, g30w_X12_feed, g31w_X12_feed, e]
  unfold wrM
  by_cases z : x < 20
  · rw [if_pos z, if_pos z]
    by_cases z1 : x < 4
    · rw [if_pos z1, if_pos z1]
    · rw [if_neg z1, if_neg z1]
      by_cases z2 : x < 8
      · rw [if_pos z2, if_pos z2]
      · rw [if_neg z2, if_neg z2]
        by_cases z3 : x < 12
        · rw [if_pos z3, if_pos z3]
        · rw [if_neg z3, if_neg z3]
          by_cases z4 : x < 16
          · rw [if_pos z4, if_pos z4]
          · rw [if_neg z4, if_neg z4]
  · rw [if_neg z, if_neg z]
def Ft (s m : XS) : Prop := Sb (s 1 78) (m 1 3) ∧ s 0 77 2 = m 0 0 5 ∧ 0 ≤ s 0 77 2
theorem Ft.st {s m : XS} {v x y : Int} (h : Ft s m) (hx : x = 24 - (8 * (y % 4))) : Ft (wrC s v x) (wrM m v y) ∧ wrC s v x 0 77 2 = s 0 77 2 + 1 := by
  obtain ⟨h1, h2, h3⟩ := h
  have e2 : wrC s v x 0 77 2 = s 0 77 2 + 1 := xup_s
  have f2 : wrM m v y 0 0 5 = m 0 0 5 + 1 := xup_s
  refine ⟨⟨fun j => ?_, by rw [e2, f2, h2], by rw [e2]; omega⟩, e2⟩
  unfold wrC wrM
  rw [xup_t (show (1 : Nat) ≠ 0 by decide), xup_t (show (1 : Nat) ≠ 0 by decide), ← hx, ← h2]
  by_cases q : j = Int.toNat (s 0 77 2)
  · subst q
    rw [xup_s, xup_s]
    exact byt_x _
  · rw [xup_k q, xup_k q]
    exact h1 j
theorem put_x (s : XS) (a : Int) (h0 : 0 ≤ s 0 77 2) (h : s 0 77 2 + 4 ≤ 900) : f_X5_put s a = (wrC (wrC (wrC (wrC s a 24) a 16) a 8) a 0, 0) := by
  have e : ∀ z x, wrC z a x 0 77 2 = z 0 77 2 + 1 := fun z x => xup_s
  have f : f_X5_put s a = L1_X5_put (28 + 1 + 1 + 1 + 1 + 1) s a 24 := rfl
  rw [f, put_s, if_neg (by decide), if_pos (by omega), put_s, if_neg (by decide), if_pos (by rw [e]; omega), put_s, if_neg (by decide), if_pos (by rw [e, e]; omega), put_s, if_neg (by decide), if_pos (by rw [e, e, e]; omega), put_s, if_pos (by decide)]
  rfl
theorem Feed_x {s m : XS} (a1 a2 a3 a4 a5 : Int) (h : Ft s m) : (f_X11_feed s a1 a2 a3 a4 a5).2 = (f_X12_feed m a1 a2 a3 a4 a5).2 ∧ Ft (f_X11_feed s a1 a2 a3 a4 a5).1 (f_X12_feed m a1 a2 a3 a4 a5).1 := by
  have e5 : xup m 0 0 0 0 0 0 5 = m 0 0 5 := xup_k (by decide)
  have hM : Ft s (xup m 0 0 0 0) := by
    refine ⟨?_, by rw [e5]; exact h.2.1, h.2.2⟩
    have e : xup m 0 0 0 0 1 3 = m 1 3 := funext fun k => xup_t (by decide)
    rw [e]; exact h.1
  have em : f_X12_feed m a1 a2 a3 a4 a5 = if 900 < xup m 0 0 0 0 0 0 5 + 20 then (xup m 0 0 0 0, -5) else L5_X12_feed (0 + 1 + 1 + 1 + 1 + 1 + 1 + 1 + 1 + 1 + 1 + 1 + 1 + 1 + 1 + 1 + 1 + 1 + 1 + 1 + 1 + 1) (xup m 0 0 0 0) a1 a2 a3 a4 a5 0 := rfl
  have ec : f_X11_feed s a1 a2 a3 a4 a5 = if 900 < s 0 77 2 + 20 then (s, -5) else ((f_X5_put (f_X5_put (f_X5_put (f_X5_put (f_X5_put s a1).1 a2).1 a3).1 a4).1 a5).1, (f_X5_put (f_X5_put (f_X5_put (f_X5_put (f_X5_put s a1).1 a2).1 a3).1 a4).1 a5).1 0 77 2) := by
    have er : f_X5_hasRoom s = (s, if 900 < s 0 77 2 + 20 then 0 else 1) := by
      simp only [f_X5_hasRoom, g1b_X5_hasRoom, g2_X5_hasRoom, g3_X5_hasRoom]
      split <;> rfl
    simp only [f_X11_feed, g1c_X11_feed, g2b_X11_feed, g3_X11_feed, g4_X11_feed, g5c_X11_feed, g6c_X11_feed, g7c_X11_feed, g8c_X11_feed, g9c_X11_feed, g10c_X11_feed, f_X5_fed, er]
    by_cases z : 900 < s 0 77 2 + 20
    · simp only [if_pos z, if_true]
    · simp only [if_neg z, n10, if_false]
  rw [em, ec]
  generalize xup m 0 0 0 0 = M at *
  obtain ⟨k1, k2, k3⟩ := hM
  by_cases z : 900 < s 0 77 2 + 20
  · rw [if_pos z, if_pos (by omega)]
    exact ⟨rfl, k1, k2, k3⟩
  · rw [if_neg z, if_neg (by omega)]
    have e : ∀ z a x, wrC z a x 0 77 2 = z 0 77 2 + 1 := fun z a x => xup_s
    rw [put_x s a1 k3 (by omega)]
    dsimp only
    rw [put_x _ a2 (by simp only [e]; omega) (by simp only [e]; omega)]
    dsimp only
    rw [put_x _ a3 (by simp only [e]; omega) (by simp only [e]; omega)]
    dsimp only
    rw [put_x _ a4 (by simp only [e]; omega) (by simp only [e]; omega)]
    dsimp only
    rw [put_x _ a5 (by simp only [e]; omega) (by simp only [e]; omega)]
    dsimp only
    have st : ∀ (s' m' : XS) (v x y : Int), Ft s' m' → x = 24 - (8 * (y % 4)) → Ft (wrC s' v x) (wrM m' v y) := fun s' m' v x y q hx => (q.st hx).1
    have F := st _ _ a5 0 19 (st _ _ a5 8 18 (st _ _ a5 16 17 (st _ _ a5 24 16 (st _ _ a4 0 15 (st _ _ a4 8 14 (st _ _ a4 16 13 (st _ _ a4 24 12 (st _ _ a3 0 11 (st _ _ a3 8 10 (st _ _ a3 16 9 (st _ _ a3 24 8 (st _ _ a2 0 7 (st _ _ a2 8 6 (st _ _ a2 16 5 (st _ _ a2 24 4 (st _ _ a1 0 3 (st _ _ a1 8 2 (st _ _ a1 16 1 (st s M a1 24 0 ⟨k1, k2, k3⟩ (by decide)) (by decide)) (by decide)) (by decide)) (by decide)) (by decide)) (by decide)) (by decide)) (by decide)) (by decide)) (by decide)) (by decide)) (by decide)) (by decide)) (by decide)) (by decide)) (by decide)) (by decide)) (by decide)) (by decide)
    have L : ∀ (n : Nat) (m' : XS) (x : Int), x < 20 → L5_X12_feed (n + 1) m' a1 a2 a3 a4 a5 x = L5_X12_feed n (wrM m' (if x < 4 then a1 else if x < 8 then a2 else if x < 12 then a3 else if x < 16 then a4 else a5) x) a1 a2 a3 a4 a5 (x + 1) := fun n m' x q => by rw [feed_s, if_pos q]
    have e20 : ∀ m', L5_X12_feed (0 + 1) m' a1 a2 a3 a4 a5 20 = (m', m' 0 0 5) := fun m' => by rw [feed_s, if_neg (by decide)]
    rw [L _ _ 0 (by decide), L _ _ (0 + 1) (by decide), L _ _ (0 + 1 + 1) (by decide), L _ _ (0 + 1 + 1 + 1) (by decide), L _ _ (0 + 1 + 1 + 1 + 1) (by decide), L _ _ (0 + 1 + 1 + 1 + 1 + 1) (by decide), L _ _ (0 + 1 + 1 + 1 + 1 + 1 + 1) (by decide), L _ _ (0 + 1 + 1 + 1 + 1 + 1 + 1 + 1) (by decide), L _ _ (0 + 1 + 1 + 1 + 1 + 1 + 1 + 1 + 1) (by decide), L _ _ (0 + 1 + 1 + 1 + 1 + 1 + 1 + 1 + 1 + 1) (by decide), L _ _ (0 + 1 + 1 + 1 + 1 + 1 + 1 + 1 + 1 + 1 + 1) (by decide), L _ _ (0 + 1 + 1 + 1 + 1 + 1 + 1 + 1 + 1 + 1 + 1 + 1) (by decide), L _ _ (0 + 1 + 1 + 1 + 1 + 1 + 1 + 1 + 1 + 1 + 1 + 1 + 1) (by decide), L _ _ (0 + 1 + 1 + 1 + 1 + 1 + 1 + 1 + 1 + 1 + 1 + 1 + 1 + 1) (by decide), L _ _ (0 + 1 + 1 + 1 + 1 + 1 + 1 + 1 + 1 + 1 + 1 + 1 + 1 + 1 + 1) (by decide), L _ _ (0 + 1 + 1 + 1 + 1 + 1 + 1 + 1 + 1 + 1 + 1 + 1 + 1 + 1 + 1 + 1) (by decide), L _ _ (0 + 1 + 1 + 1 + 1 + 1 + 1 + 1 + 1 + 1 + 1 + 1 + 1 + 1 + 1 + 1 + 1) (by decide), L _ _ (0 + 1 + 1 + 1 + 1 + 1 + 1 + 1 + 1 + 1 + 1 + 1 + 1 + 1 + 1 + 1 + 1 + 1) (by decide), L _ _ (0 + 1 + 1 + 1 + 1 + 1 + 1 + 1 + 1 + 1 + 1 + 1 + 1 + 1 + 1 + 1 + 1 + 1 + 1) (by decide), L _ _ (0 + 1 + 1 + 1 + 1 + 1 + 1 + 1 + 1 + 1 + 1 + 1 + 1 + 1 + 1 + 1 + 1 + 1 + 1 + 1) (by decide)]
    refine (e20 _).symm ▸ ⟨F.2.1, F⟩
