/-! streets, as both have them -/
theorem and_lo {y : Int} {k : Nat} {n : Int} (hn : Int32.ofInt n = nI (2 ^ k - 1)) (hk : k ≤ 30) (hb : (nI (2 ^ k - 1)).toBitVec.toNat = 2 ^ k - 1) (h0 : 0 ≤ y) (h1 : y < 2147483648) : Xiand y n = y % ((2 ^ k : Nat) : Int) := by
  have e1 := Int32.toInt_ofInt_of_le (n := y) (by omega) (by omega)
  unfold Xiand
  rw [hn]
  have h2 : (Int32.ofInt y &&& nI (2 ^ k - 1)).toBitVec.toNat = (Int32.ofInt y).toBitVec.toNat % 2 ^ k := by
    have e : (Int32.ofInt y &&& nI (2 ^ k - 1)).toBitVec = (Int32.ofInt y).toBitVec &&& (nI (2 ^ k - 1)).toBitVec := rfl
    rw [e, BitVec.toNat_and, hb, Nat.and_two_pow_sub_one_eq_mod]
  have h3 : (Int32.ofInt y &&& nI (2 ^ k - 1)).toInt = (Int32.ofInt y &&& nI (2 ^ k - 1)).toBitVec.toInt := rfl
  have h4 : (Int32.ofInt y).toInt = (Int32.ofInt y).toBitVec.toInt := rfl
  rw [h4, BitVec.toInt_eq_toNat_cond] at e1
  rw [h3, BitVec.toInt_eq_toNat_cond, h2]
  have l := (Int32.ofInt y).toBitVec.isLt
  have p1 : 2 ^ k ≤ 2 ^ 30 := Nat.pow_le_pow_right (by decide) hk
  have p2 : 0 < 2 ^ k := Nat.pow_pos (by decide)
  have l2 := Nat.mod_lt (Int32.ofInt y).toBitVec.toNat p2
  rw [if_pos (by omega)]
  have e2 : (((Int32.ofInt y).toBitVec.toNat : Nat) : Int) = y := by
    split at e1 <;> omega
  rw [Int.natCast_emod, e2]
theorem and3_x {y : Int} (h0 : 0 ≤ y) (h1 : y < 2147483648) : Xiand y 3 = y % 4 := and_lo (k := 2) (by decide) (by decide) (by decide) h0 h1
theorem and1_x {y : Int} (h0 : 0 ≤ y) (h1 : y < 2147483648) : Xiand y 1 = y % 2 := and_lo (k := 1) (by decide) (by decide) (by decide) h0 h1
def sF (A : Nat → Int) (c d : Nat) : Int := if (A (11 + c)).toNat.testBit d = true then -1 else beyF (A 1) (A 2) (c : Int) (d : Int)
def Ld (s : XS) (A : Nat → Int) (w h : Nat) : Prop := (2 ≤ w ∧ w < 6 ∧ 2 ≤ h ∧ h < 6) ∧ (s 0 1 5 = (w : Int) ∧ s 0 1 6 = (h : Int) ∧ A 1 = (w : Int) ∧ A 2 = (h : Int)) ∧ (∀ c d, c < w * h → d < 4 → (bz (s 1 18 d) c = true ↔ sF A c d ≠ -1)) ∧ (∀ c d, c < w * h → d < 4 → sF A c d ≠ -1 → sF A c d = (c : Int) + dirZ (w : Int) d ∧ 0 ≤ sF A c d ∧ (sF A c d).toNat < w * h) ∧ (∀ d, d < 4 → s 1 19 d = dirZ (w : Int) d) ∧ (∀ d, d < 4 → ∀ c, c < 32 → bz (s 1 18 d) c = true → c < w * h) ∧ (∀ c, c < 25 → 0 ≤ A (11 + c) ∧ A (11 + c) < 16)
theorem wh25 {w h : Nat} (q : 2 ≤ w ∧ w < 6 ∧ 2 ≤ h ∧ h < 6) : w * h ≤ 25 := by
  have : w * h ≤ 5 * 5 := Nat.mul_le_mul (by omega) (by omega)
  omega
theorem Ld.b25 {s : XS} {A : Nat → Int} {w h : Nat} (L : Ld s A w h) : w * h ≤ 25 := wh25 L.1
theorem Ld_of {s : XS} {A : Nat → Int} (hN : Nt 1 s A) (hX : NX 1 s) : (s 0 1 5 = 0 ∧ s 0 1 6 = 0 ∧ A 1 = 0 ∧ A 2 = 0) ∨ ∃ w h, Ld s A w h := by
  obtain ⟨n1, n2, n3, n4⟩ := hN
  rcases n4 with ⟨q1, q2, -⟩ | ⟨w, h, q1, q2, q3, q4, q5, q6, q7, q8⟩
  · exact Or.inl ⟨q1, q2, n1.trans q1, n2.trans q2⟩
  · have b25 : w * h ≤ 25 := wh25 ⟨q3, q4, q5, q6⟩
    have a1 : A 1 = (w : Int) := n1.trans q1
    have a2 : A 2 = (h : Int) := n2.trans q2
    have sf : ∀ c d, c < w * h → d < 4 → (sF A c d ≠ -1 ↔ (beyF (w : Int) (h : Int) (c : Int) (d : Int) ≠ -1 ∧ ¬ Wx A c d)) := by
      intro c d hc hd
      unfold sF Wx
      rw [a1, a2]
      by_cases t : (A (11 + c)).toNat.testBit d = true
      · rw [if_pos t]
        exact ⟨fun z => absurd rfl z, fun z => absurd ⟨by omega, t⟩ z.2⟩
      · rw [if_neg t]
        exact ⟨fun z => ⟨z, fun y => t y.2⟩, fun z => z.1⟩
    refine Or.inr ⟨w, h, ⟨q3, q4, q5, q6⟩, ⟨q1, q2, a1, a2⟩, fun c d hc hd => ?_, fun c d hc hd hs => ?_, q7, fun d hd c hc hb => ?_, n3⟩
    · rw [sf c d hc hd, ← (q8 c d hc hd).1]
      unfold Sx
      rw [bZ_bz (by omega)]
      exact ⟨fun z => ⟨by omega, z⟩, fun z => z.2⟩
    · have hb := ((sf c d hc hd).mp hs)
      have e : sF A c d = beyF (w : Int) (h : Int) (c : Int) (d : Int) := by
        unfold sF
        rw [a1, a2, if_neg (fun t => hb.2 ⟨by omega, t⟩)]
      have bk := bey_back w q4 h q6 c (by omega) d hd q3 q5 hc hb.1
      rw [e, dir_z w q4 h q6 c (by omega) d hd q3 q5 hc hb.1]
      refine ⟨rfl, bk.1, ?_⟩
      have z : beyF (w : Int) (h : Int) (c : Int) (d : Int) < ((w * h : Nat) : Int) := by
        rw [Int.natCast_mul]
        exact bk.2.1
      have := bk.1
      omega
    · have := hX d hd c hc hb
      rw [q1, q2] at this
      exact_mod_cast this
/-- the heading behind a turn -/
def tdr (h t : Nat) : Nat := (h + (if t = 2 then 3 else if t = 3 then 2 else t)) % 4
theorem tdr_lt (h t : Nat) : tdr h t < 4 := Nat.mod_lt _ (by decide)
theorem tTurn_v {t : Nat} (h : t < 4) : (tTurn t).toInt = ((if t = 2 then 3 else if t = 3 then 2 else t : Nat) : Int) := by
  rcases (show t = 0 ∨ t = 1 ∨ t = 2 ∨ t = 3 by omega) with rfl | rfl | rfl | rfl <;> decide
theorem dirby_x (m : XS) {h t : Nat} (hh : h < 4) (ht : t < 4) : f_X12_directionBy m (h : Int) (t : Int) = (m, (tdr h t : Int)) := by
  simp only [f_X12_directionBy, g1b_X12_directionBy, g2_X12_directionBy, g3_X12_directionBy, g4b_X12_directionBy, g5_X12_directionBy, g6_X12_directionBy]
  unfold tdr
  rcases (show t = 0 ∨ t = 1 ∨ t = 2 ∨ t = 3 by omega) with rfl | rfl | rfl | rfl
  · rw [if_neg (by decide), if_neg (by decide)]; rfl
  · rw [if_neg (by decide), if_neg (by decide)]; rfl
  · rw [if_pos (by decide)]; rfl
  · rw [if_neg (by decide), if_pos (by decide)]; rfl
theorem stF_x {s m : XS} {w h : Nat} (L : Ld s (m 1 1) w h) {c d : Nat} (hc : c < w * h) (hd : d < 4) : f_X12_streetFrom m (c : Int) (d : Int) = (m, sF (m 1 1) c d) := by
  have b25 := L.b25
  obtain ⟨l1, ⟨-, -, l2, l3⟩, -, -, -, -, l4⟩ := L
  have b := bey1_x (m := m) (w := w) (h := h) (c := c) (d := d) l2 l3 hd
  have wl := l4 c (by omega)
  have i := isin_x m wl.1 wl.2 hd
  simp only [f_X12_streetFrom, g1c_X12_streetFrom, g2b_X12_streetFrom, g3_X12_streetFrom, g4_X12_streetFrom, g5c_X12_streetFrom, show Int.toNat (11 + (c : Int)) = 11 + c by omega, i, b]
  unfold sF
  rw [l2, l3]
  by_cases z : (m 1 1 (11 + c)).toNat.testBit d = true
  · simp only [if_pos z, n10, if_false]
  · simp only [if_neg z, if_true]
theorem to_v {s : XS} {A : Nat → Int} {w h : Nat} (L : Ld s A w h) {c d : Nat} (hc : c < w * h) (hd : d < 4) : f_X0_to s 1 (c : Int) (d : Int) = (s, sF A c d) := by
  have b25 := L.b25
  obtain ⟨l1, -, l2, l3, l4, -, -⟩ := L
  rw [to_x s 1 (d : Int) (by omega) (by omega)]
  have e1 : ((d : Int)).toNat = d := rfl
  have e2 : ((c : Int)).toNat = c := rfl
  rw [e1, e2]
  have z := l2 c d hc hd
  by_cases y : bZ (s 1 (1 + 17) d) c
  · rw [if_pos y]
    have y2 := z.mp ((bZ_bz (by omega)).mp y)
    rw [(l3 c d hc hd y2).1, show 1 + 18 = 19 from rfl, l4 d hd]
  · rw [if_neg y]
    have y2 : ¬ sF A c d ≠ -1 := fun q => y ((bZ_bz (by omega)).mpr (z.mpr q))
    rw [Classical.not_not.mp y2]
theorem sta_x {s : XS} {A : Nat → Int} {w h : Nat} (L : Ld s A w h) {c d t : Nat} (hc : c < w * h) (hd : d < 4) (ht : t < 4) : f_X0_standAfter s 1 ((4 * c + d : Nat) : Int) (t : Int) = (s, if sF A c (tdr d t) = -1 then -1 else 4 * sF A c (tdr d t) + ((tdr d t : Nat) : Int)) := by
  have b25 := L.b25
  have td := tdr_lt d t
  have e1 : Xiand (((4 * c + d : Nat) : Int) + (tTurn (Int.toNat (t : Int))).toInt) 3 = ((tdr d t : Nat) : Int) := by
    rw [show Int.toNat (t : Int) = t from rfl, tTurn_v ht, ← Int.natCast_add, and3_x (by omega) (by split <;> (try split) <;> omega)]
    unfold tdr
    omega
  have e2 : ((4 * c + d : Nat) : Int) / 4 = (c : Int) := by omega
  unfold f_X0_standAfter
  rw [e1, e2, show Int.toNat ((tdr d t : Nat) : Int) = tdr d t from rfl, show 1 + 17 = 18 from rfl, bz_tst (by omega)]
  obtain ⟨-, -, l2, l3, l4, -, -⟩ := L
  have z := l2 c (tdr d t) hc td
  unfold g1b_X0_standAfter g2_X0_standAfter g3_X0_standAfter
  by_cases y : bz (s 1 18 (tdr d t)) c = true
  · have y2 := z.mp y
    rw [if_pos y, if_neg (by decide), if_neg y2, (l3 c _ hc td y2).1, show Int.toNat ((tdr d t : Nat) : Int) = tdr d t from rfl, show 1 + 18 = 19 from rfl, l4 _ td]
  · have y2 : sF A c (tdr d t) = -1 := Classical.byContradiction (fun q => y (z.mpr q))
    rw [if_neg y, if_pos rfl, if_pos y2]
theorem dirZ_c {w d : Nat} (hd : d < 4) : dirZ (w : Int) d = (if d = 0 then -(w : Int) else if d = 1 then 1 else if d = 2 then (w : Int) else -1) := rfl
/-- from where a street goes into a set -/
theorem mvb_x {s : XS} {A : Nat → Int} {w h : Nat} (L : Ld s A w h) {v : Int} {d : Nat} (hd : d < 4) : (f_X0_movedBack s 1 v (d : Int)).1 = s ∧ ∀ c, c < 32 → bz (f_X0_movedBack s 1 v (d : Int)).2 c = (decide (c < w * h ∧ sF A c d ≠ -1) && bz v (sF A c d).toNat) := by
  have b25 := L.b25
  obtain ⟨l1, -, l2, l3, l4, l5, -⟩ := L
  have e0 : Int.toNat ((d : Nat) : Int) = d := rfl
  have z : ∀ c, c < 32 → bz (s 1 18 d) c = decide (c < w * h ∧ sF A c d ≠ -1) := by
    intro c hc
    by_cases q : bz (s 1 18 d) c = true
    · have := l5 d hd c hc q
      rw [q]
      exact (decide_eq_true ⟨this, (l2 c d this hd).mp q⟩).symm
    · have q2 : ¬ (c < w * h ∧ sF A c d ≠ -1) := fun y => q ((l2 c d y.1 hd).mpr y.2)
      rw [decide_eq_false q2]
      simpa using q
  have key : ∀ (x : Int), (∀ c, c < 32 → c < w * h → sF A c d ≠ -1 → bz x c = bz v (sF A c d).toNat) → ∀ c, c < 32 → bz (Xiand x (s 1 18 d)) c = (decide (c < w * h ∧ sF A c d ≠ -1) && bz v (sF A c d).toNat) := by
    intro x hx c hc
    rw [bz_iand, z c hc]
    by_cases q : c < w * h ∧ sF A c d ≠ -1
    · rw [decide_eq_true q, hx c hc q.1 q.2, Bool.and_true, Bool.true_and]
    · rw [decide_eq_false q, Bool.and_false, Bool.false_and]
  simp only [f_X0_movedBack, g1b_X0_movedBack, g2_X0_movedBack, g3_X0_movedBack, e0, show 1 + 17 = 18 from rfl, show 1 + 18 = 19 from rfl, l4 d hd]
  rcases (show d = 0 ∨ d = 1 ∨ d = 2 ∨ d = 3 by omega) with rfl | rfl | rfl | rfl
  · have e : dirZ (w : Int) 0 = -(w : Int) := rfl
    rw [e, if_neg (by omega), Int.neg_neg]
    refine ⟨rfl, key _ (fun c hc h1 h2 => ?_)⟩
    have t := l3 c 0 h1 hd h2
    rw [e] at t
    rw [bz_shl v (by omega) hc, decide_eq_true (show w ≤ c by omega), Bool.true_and, show (sF A c 0).toNat = c - w by omega]
  · have e : dirZ (w : Int) 1 = 1 := rfl
    rw [e, if_pos (by decide)]
    refine ⟨rfl, key _ (fun c hc h1 h2 => ?_)⟩
    have t := l3 c 1 h1 hd h2
    rw [e] at t
    rw [show (1 : Int) = ((1 : Nat) : Int) from rfl, bz_shr v (by omega) hc, if_pos (by omega), show (sF A c 1).toNat = c + 1 by omega]
  · have e : dirZ (w : Int) 2 = (w : Int) := rfl
    rw [e, if_pos (by omega)]
    refine ⟨rfl, key _ (fun c hc h1 h2 => ?_)⟩
    have t := l3 c 2 h1 hd h2
    rw [e] at t
    rw [bz_shr v (by omega) hc, if_pos (by omega), show (sF A c 2).toNat = c + w by omega]
  · have e : dirZ (w : Int) 3 = -1 := rfl
    rw [e, if_neg (by decide), Int.neg_neg]
    refine ⟨rfl, key _ (fun c hc h1 h2 => ?_)⟩
    have t := l3 c 3 h1 hd h2
    rw [e] at t
    rw [show (1 : Int) = ((1 : Nat) : Int) from rfl, bz_shl v (by omega) hc, decide_eq_true (show 1 ≤ c by omega), Bool.true_and, show (sF A c 3).toNat = c - 1 by omega]
/-- where those of a set come who go that way -/
theorem mov_x {s : XS} {A : Nat → Int} {w h : Nat} (L : Ld s A w h) {v : Int} {d : Nat} (hd : d < 4) : (f_X0_moved s 1 v (d : Int)).1 = s ∧ ∀ k, k < 32 → (bz (f_X0_moved s 1 v (d : Int)).2 k = true ↔ ∃ c, c < w * h ∧ sF A c d = (k : Int) ∧ bz v c = true) := by
  have b25 := L.b25
  obtain ⟨l1, -, l2, l3, l4, l5, -⟩ := L
  have e0 : Int.toNat ((d : Nat) : Int) = d := rfl
  have st : ∀ c, c < 32 → bz (s 1 18 d) c = true → c < w * h ∧ sF A c d ≠ -1 := fun c hc q => ⟨l5 d hd c hc q, (l2 c d (l5 d hd c hc q) hd).mp q⟩
  simp only [f_X0_moved, g1b_X0_moved, g2_X0_moved, g3_X0_moved, e0, show 1 + 17 = 18 from rfl, show 1 + 18 = 19 from rfl, l4 d hd]
  have up : ∀ n : Nat, n < 8 → dirZ (w : Int) d = (n : Int) → ∀ k, k < 32 → (bz (Xishl (Xiand v (s 1 18 d)) (n : Int)) k = true ↔ ∃ c, c < w * h ∧ sF A c d = (k : Int) ∧ bz v c = true) := by
    intro n hn e k hk
    rw [bz_shl _ (by omega) hk, bz_iand]
    constructor
    · intro q
      simp only [Bool.and_eq_true, decide_eq_true_eq] at q
      obtain ⟨q1, q2, q3⟩ := q
      obtain ⟨y1, y2⟩ := st (k - n) (by omega) q3
      have t := (l3 _ d y1 hd y2).1
      exact ⟨k - n, y1, by rw [t, e]; omega, q2⟩
    · rintro ⟨c, q1, q2, q3⟩
      have t := (l3 c d q1 hd (by omega)).1
      simp only [Bool.and_eq_true, decide_eq_true_eq]
      have ec : k - n = c := by omega
      exact ⟨by omega, by rw [ec]; exact q3, by rw [ec]; exact (l2 c d q1 hd).mpr (by omega)⟩
  have dn : ∀ n : Nat, n < 8 → dirZ (w : Int) d = -(n : Int) → ∀ k, k < 32 → (bz (Xishr (Xiand v (s 1 18 d)) (n : Int)) k = true ↔ ∃ c, c < w * h ∧ sF A c d = (k : Int) ∧ bz v c = true) := by
    intro n hn e k hk
    have hi : bz (Xiand v (s 1 18 d)) 31 = false := by
      cases y : bz (Xiand v (s 1 18 d)) 31 with
      | false => rfl
      | true =>
        rw [bz_iand, Bool.and_eq_true] at y
        have := (st 31 (by omega) y.2).1
        omega
    rw [bz_shr _ (by omega) hk, hi]
    constructor
    · intro q
      by_cases r : k + n < 32
      · rw [if_pos r, bz_iand, Bool.and_eq_true] at q
        obtain ⟨y1, y2⟩ := st (k + n) (by omega) q.2
        have t := (l3 _ d y1 hd y2).1
        exact ⟨k + n, y1, by rw [t, e]; omega, q.1⟩
      · rw [if_neg r] at q; cases q
    · rintro ⟨c, q1, q2, q3⟩
      have t := (l3 c d q1 hd (by omega)).1
      have ec : k + n = c := by omega
      rw [if_pos (by omega), bz_iand, ec, q3, (l2 c d q1 hd).mpr (by omega)]
      rfl
  rcases (show d = 0 ∨ d = 1 ∨ d = 2 ∨ d = 3 by omega) with rfl | rfl | rfl | rfl
  · have e : dirZ (w : Int) 0 = -(w : Int) := rfl
    rw [e, if_neg (by omega), Int.neg_neg]
    exact ⟨rfl, dn w (by omega) rfl⟩
  · have e : dirZ (w : Int) 1 = 1 := rfl
    rw [e, if_pos (by decide)]
    exact ⟨rfl, up 1 (by omega) rfl⟩
  · have e : dirZ (w : Int) 2 = (w : Int) := rfl
    rw [e, if_pos (by omega)]
    exact ⟨rfl, up w (by omega) rfl⟩
  · have e : dirZ (w : Int) 3 = -1 := rfl
    rw [e, if_neg (by decide), Int.neg_neg]
    exact ⟨rfl, dn 1 (by omega) rfl⟩
