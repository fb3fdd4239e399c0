/-! p6: streets and walls alike -/
abbrev bitI (x : Int32) (j : Nat) : Prop := (x >>> (nI j &&& 31)) &&& 1 ≠ 0
def allN (n : Nat) (f : Nat → Bool) : Bool := (List.range n).all f
theorem allN_get {n : Nat} {f : Nat → Bool} (h : allN n f = true) {k : Nat} (hk : k < n) : f k = true := List.all_eq_true.mp h k (List.mem_range.mpr hk)
theorem bey_back_b : allN 6 (fun w => allN 6 (fun h => allN 25 (fun c => allN 4 (fun d => decide (2 ≤ w → 2 ≤ h → c < w * h → beyF (w : Int) (h : Int) (c : Int) (d : Int) ≠ -1 → 0 ≤ beyF (w : Int) (h : Int) (c : Int) (d : Int) ∧ beyF (w : Int) (h : Int) (c : Int) (d : Int) < (w : Int) * (h : Int) ∧ beyF (w : Int) (h : Int) (beyF (w : Int) (h : Int) (c : Int) (d : Int)) (((d + 2) % 4 : Nat) : Int) = (c : Int) ∧ (c : Int) + (layDd (nI w) d).toInt = beyF (w : Int) (h : Int) (c : Int) (d : Int)))))) = true := by decide +kernel
theorem bey_back : ∀ w : Nat, w < 6 → ∀ h : Nat, h < 6 → ∀ c : Nat, c < 25 → ∀ d : Nat, d < 4 → 2 ≤ w → 2 ≤ h → c < w * h → beyF (w : Int) (h : Int) (c : Int) (d : Int) ≠ -1 → 0 ≤ beyF (w : Int) (h : Int) (c : Int) (d : Int) ∧ beyF (w : Int) (h : Int) (c : Int) (d : Int) < (w : Int) * (h : Int) ∧ beyF (w : Int) (h : Int) (beyF (w : Int) (h : Int) (c : Int) (d : Int)) (((d + 2) % 4 : Nat) : Int) = (c : Int) ∧ (c : Int) + (layDd (nI w) d).toInt = beyF (w : Int) (h : Int) (c : Int) (d : Int) := fun w hw h hh c hc d hd => of_decide_eq_true (allN_get (allN_get (allN_get (allN_get bey_back_b hw) hh) hc) hd)
/-- streets St and walls Wl of a net of w by h -/
def WR (w h : Nat) (St Wl : Nat → Nat → Prop) : Prop := ∀ c d : Nat, c < w * h → d < 4 → (St c d ↔ (beyF (w : Int) (h : Int) (c : Int) (d : Int) ≠ -1 ∧ ¬ Wl c d)) ∧ (beyF (w : Int) (h : Int) (c : Int) (d : Int) ≠ -1 → (Wl c d ↔ Wl (beyF (w : Int) (h : Int) (c : Int) (d : Int)).toNat ((d + 2) % 4)))
theorem WR.block {w h c d : Nat} {St Wl : Nat → Nat → Prop} (hw : w < 6) (hh : h < 6) (hw2 : 2 ≤ w) (hh2 : 2 ≤ h) (R : WR w h St Wl) (hc : c < w * h) (hd : d < 4) (hn : beyF (w : Int) (h : Int) (c : Int) (d : Int) ≠ -1) {n : Nat} (en : beyF (w : Int) (h : Int) (c : Int) (d : Int) = (n : Int)) :
    WR w h (fun x y => St x y ∧ ¬ ((x = c ∧ y = d) ∨ (x = n ∧ y = (d + 2) % 4))) (fun x y => Wl x y ∨ (x = c ∧ y = d) ∨ (x = n ∧ y = (d + 2) % 4)) := by
  have b25 : w * h ≤ 25 := by
    have : w * h ≤ 5 * 5 := Nat.mul_le_mul (by omega) (by omega)
    omega
  have g := bey_back w hw h hh c (by omega) d hd hw2 hh2 hc hn
  rw [en] at g
  intro x y hx hy
  have r := R x y hx hy
  refine ⟨?_, fun hb => ?_⟩
  · constructor
    · rintro ⟨h1, h2⟩
      exact ⟨(r.1.mp h1).1, fun q => q.elim (r.1.mp h1).2 h2⟩
    · rintro ⟨h1, h2⟩
      exact ⟨r.1.mpr ⟨h1, fun q => h2 (Or.inl q)⟩, fun q => h2 (Or.inr q)⟩
  · have k := bey_back w hw h hh x (by omega) y hy hw2 hh2 hx hb
    have r2 := r.2 hb
    obtain ⟨m, em⟩ : ∃ m : Nat, beyF (w : Int) (h : Int) (x : Int) (y : Int) = (m : Int) := ⟨(beyF (w : Int) (h : Int) (x : Int) (y : Int)).toNat, by omega⟩
    rw [em] at k r2 ⊢
    rw [show ((m : Int)).toNat = m from rfl] at r2 ⊢
    have e1 : (x = c ∧ y = d) ↔ (m = n ∧ (y + 2) % 4 = (d + 2) % 4) := by
      constructor
      · rintro ⟨rfl, rfl⟩; exact ⟨by omega, rfl⟩
      · rintro ⟨q1, q2⟩
        have q3 : y = d := by omega
        subst q3; subst q1
        exact ⟨by omega, rfl⟩
    have e2 : (x = n ∧ y = (d + 2) % 4) ↔ (m = c ∧ (y + 2) % 4 = d) := by
      constructor
      · rintro ⟨q1, q2⟩
        subst q1; subst q2
        exact ⟨by omega, by omega⟩
      · rintro ⟨q1, q2⟩
        have q3 : y = (d + 2) % 4 := by omega
        subst q1
        have k3 := k.2.2.1
        rw [q2] at k3
        exact ⟨by omega, q3⟩
    constructor
    · rintro (q | q | q)
      · exact Or.inl (r2.mp q)
      · exact Or.inr (Or.inr (e1.mp q))
      · exact Or.inr (Or.inl (e2.mp q))
    · rintro (q | q | q)
      · exact Or.inl (r2.mpr q)
      · exact Or.inr (Or.inr (e2.mpr q))
      · exact Or.inr (Or.inl (e1.mpr q))
theorem WR.same {w h : Nat} {St Wl St' Wl' : Nat → Nat → Prop} (R : WR w h St Wl) (h1 : ∀ x y, y < 4 → (St' x y ↔ St x y)) (h2 : ∀ x y, y < 4 → (Wl' x y ↔ Wl x y)) : WR w h St' Wl' := fun x y hx hy => by
  have r := R x y hx hy
  rw [h1 x y hy, h2 x y hy]
  exact ⟨r.1, fun hb => by rw [h2 _ _ (by omega)]; exact r.2 hb⟩
/-- a wall told again changes nothing -/
theorem WR.again {w h c d : Nat} {St Wl : Nat → Nat → Prop} (R : WR w h St Wl) (hc : c < w * h) (hd : d < 4) {n : Nat} (en : beyF (w : Int) (h : Int) (c : Int) (d : Int) = (n : Int)) (hs : ¬ St c d) : WR w h St (fun x y => Wl x y ∨ (x = c ∧ y = d) ∨ (x = n ∧ y = (d + 2) % 4)) := by
  have r := R c d hc hd
  have hb : beyF (w : Int) (h : Int) (c : Int) (d : Int) ≠ -1 := by rw [en]; omega
  have hw : Wl c d := Classical.byContradiction (fun q => hs (r.1.mpr ⟨hb, q⟩))
  have hw2 := (r.2 hb).mp hw
  rw [en] at hw2
  refine R.same (fun _ _ _ => Iff.rfl) (fun x y _ => ⟨?_, Or.inl⟩)
  rintro (q | ⟨rfl, rfl⟩ | ⟨rfl, rfl⟩)
  · exact q
  · exact hw
  · exact hw2
/-! bits -/
theorem nI31 : ∀ j : Nat, j < 32 → ((nI j &&& 31).toBitVec.smod 32).toNat = j := by decide +kernel
theorem bitI_iff (x : Int32) {j : Nat} (hj : j < 32) : bitI x j ↔ x.toBitVec.getLsbD j = true := by
  have e : (x >>> (nI j &&& 31)).toBitVec = x.toBitVec.sshiftRight j := by
    show BitVec.sshiftRight' x.toBitVec ((nI j &&& 31).toBitVec.smod 32) = _
    rw [BitVec.sshiftRight', nI31 j hj]
  have e1 : ∀ y : Int32, (y &&& 1 ≠ 0) ↔ y.toBitVec.getLsbD 0 = true := by
    intro y
    have h1 : (y &&& 1).toBitVec = y.toBitVec &&& 1#32 := rfl
    constructor
    · intro h
      cases hb : y.toBitVec.getLsbD 0 with
      | true => rfl
      | false =>
        exfalso; apply h
        apply Int32.toBitVec_inj.mp
        rw [h1]
        apply BitVec.eq_of_getLsbD_eq
        intro i hi
        rw [BitVec.getLsbD_and]
        by_cases hi0 : i = 0
        · subst hi0; rw [hb]; rfl
        · rw [show (1#32).getLsbD i = false from by rw [BitVec.getLsbD_one]; simp [hi0]]
          rw [Bool.and_false]
          show false = (0#32).getLsbD i
          rw [BitVec.getLsbD_zero]
    · intro h hz
      have h2 : (y &&& 1).toBitVec.getLsbD 0 = true := by rw [h1, BitVec.getLsbD_and, h]; rfl
      rw [hz] at h2
      exact absurd h2 (by decide)
  rw [bitI, e1, e, BitVec.getLsbD_sshiftRight]
  simp [hj]
theorem bit_clr {old v m k1 one neg : Int32} {k j : Nat} (hk : k < 25) (hj : j < 25) (h1 : one = 1 <<< (nI k &&& 31)) (hn : neg = -1) (hm : m = one ^^^ neg) (hv : v = old &&& m) : bitI v j ↔ (bitI old j ∧ j ≠ k) := by
  subst hv; subst hm; subst hn; subst h1
  rw [bitI_iff _ (by omega), bitI_iff _ (by omega)]
  have e : (old &&& ((1 <<< (nI k &&& 31)) ^^^ -1)).toBitVec.getLsbD j = (old.toBitVec.getLsbD j && ((1 <<< (nI k &&& 31) ^^^ -1 : Int32)).toBitVec.getLsbD j) := BitVec.getLsbD_and
  rw [e]
  have t : ∀ k : Nat, k < 25 → ∀ j : Nat, j < 25 → ((1 <<< (nI k &&& 31) ^^^ -1 : Int32)).toBitVec.getLsbD j = decide (j ≠ k) := by decide +kernel
  rw [t k hk j hj]
  simp

theorem ofI_nI : ∀ n : Nat, n < 32 → Int32.ofInt (n : Int) = nI n := by decide +kernel
abbrev bZ (v : Int) (k : Nat) : Prop := bitI (Int32.ofInt v) k
theorem tst_x {v c : Int} (h0 : 0 ≤ c) (h1 : c < 32) : Xiand (Xishr v c) 1 = 0 ↔ ¬ bZ v c.toNat := by
  have e := ofI_nI c.toNat (by omega)
  rw [show ((c.toNat : Nat) : Int) = c by omega] at e
  unfold Xiand Xishr
  rw [Int32.ofInt_toInt, e, show Int32.ofInt 1 = 1 from by decide]
  unfold bZ bitI
  constructor
  · intro h q
    exact q (Int32.toInt_inj.mp (h.trans (by decide)))
  · intro h
    rw [Classical.not_not.mp h]
    decide
theorem clr_x {v c : Int} {j : Nat} (h0 : 0 ≤ c) (h1 : c < 25) (hj : j < 25) : bZ (Xiand v (Xixor (Xishl 1 c) (-1))) j ↔ (bZ v j ∧ j ≠ c.toNat) := by
  have e := ofI_nI c.toNat (by omega)
  rw [show ((c.toNat : Nat) : Int) = c by omega] at e
  unfold Xiand Xixor Xishl bZ
  rw [Int32.ofInt_toInt, Int32.ofInt_toInt, Int32.ofInt_toInt, e]
  exact bit_clr (k1 := 1) (one := Int32.ofInt 1 <<< (nI c.toNat &&& 31)) (neg := Int32.ofInt (-1)) (by omega) hj (by rw [show Int32.ofInt 1 = 1 from by decide]) (by decide) rfl rfl
def colZ (w : Int) : Nat → Int → Int → Int
  | 0, a, _ => a
  | n + 1, a, y => colZ w n (Xior a (Xishl 1 (Ximul y w))) (y + 1)
def layZ (w h : Int) (d : Nat) : Int :=
  if d = 0 then Xiand (Xisub (Xishl 1 (Ximul w h)) 1) (Xixor (Xisub (Xishl 1 w) 1) (-1))
  else if d = 1 then Xiand (Xisub (Xishl 1 (Ximul w h)) 1) (Xixor (Xishl (colZ w h.toNat 0 0) (Xisub w 1)) (-1))
  else if d = 2 then Xishr (Xisub (Xishl 1 (Ximul w h)) 1) w
  else Xiand (Xisub (Xishl 1 (Ximul w h)) 1) (Xixor (colZ w h.toNat 0 0) (-1))
def dirZ (w : Int) (d : Nat) : Int := if d = 0 then -w else if d = 1 then 1 else if d = 2 then w else -1
theorem lay_z_b : allN 6 (fun w => allN 6 (fun h => allN 25 (fun c => allN 4 (fun d => decide (2 ≤ w → 2 ≤ h → c < w * h → (bZ (layZ (w : Int) (h : Int) d) c ↔ beyF (w : Int) (h : Int) (c : Int) (d : Int) ≠ -1)))))) = true := by decide +kernel
theorem lay_z : ∀ w : Nat, w < 6 → ∀ h : Nat, h < 6 → ∀ c : Nat, c < 25 → ∀ d : Nat, d < 4 → 2 ≤ w → 2 ≤ h → c < w * h → (bZ (layZ (w : Int) (h : Int) d) c ↔ beyF (w : Int) (h : Int) (c : Int) (d : Int) ≠ -1) := fun w hw h hh c hc d hd => of_decide_eq_true (allN_get (allN_get (allN_get (allN_get lay_z_b hw) hh) hc) hd)
theorem dir_z_b : allN 6 (fun w => allN 6 (fun h => allN 25 (fun c => allN 4 (fun d => decide (2 ≤ w → 2 ≤ h → c < w * h → beyF (w : Int) (h : Int) (c : Int) (d : Int) ≠ -1 → (c : Int) + dirZ (w : Int) d = beyF (w : Int) (h : Int) (c : Int) (d : Int)))))) = true := by decide +kernel
theorem dir_z : ∀ w : Nat, w < 6 → ∀ h : Nat, h < 6 → ∀ c : Nat, c < 25 → ∀ d : Nat, d < 4 → 2 ≤ w → 2 ≤ h → c < w * h → beyF (w : Int) (h : Int) (c : Int) (d : Int) ≠ -1 → (c : Int) + dirZ (w : Int) d = beyF (w : Int) (h : Int) (c : Int) (d : Int) := fun w hw h hh c hc d hd => of_decide_eq_true (allN_get (allN_get (allN_get (allN_get dir_z_b hw) hh) hc) hd)
theorem wl_or : ∀ v : Nat, v < 16 → ∀ d : Nat, d < 4 → 0 ≤ Xior (v : Int) (Xishl 1 (d : Int)) ∧ Xior (v : Int) (Xishl 1 (d : Int)) < 16 ∧ ∀ e : Nat, e < 4 → ((Xior (v : Int) (Xishl 1 (d : Int))).toNat.testBit e = true ↔ (v.testBit e = true ∨ e = d)) := by decide +kernel
theorem isin_t : ∀ v : Nat, v < 16 → ∀ d : Nat, d < 4 → (Xcmp (Xland (Xlshr (v : Int) (d : Int)) 1) 1 = 0 ↔ v.testBit d = true) := by decide +kernel
theorem d2_t : ∀ d : Nat, d < 4 → Xiand ((d : Int) + 2) 3 = (((d + 2) % 4 : Nat) : Int) := by decide +kernel
theorem rem_t : ∀ w : Nat, w < 6 → 2 ≤ w → ∀ c : Nat, c < 25 → Xirem (c : Int) (w : Int) = (c : Int) % (w : Int) ∧ Xidiv (c : Int) (w : Int) = (c : Int) / (w : Int) := by decide +kernel
theorem add1_t : ∀ x : Nat, x < 25 → Xiadd (x : Int) 1 = (x : Int) + 1 ∧ Xiadd (x : Int) (-1) = (x : Int) + -1 := by decide +kernel
