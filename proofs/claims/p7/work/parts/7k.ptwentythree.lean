/-! sets of crossings: the bits of an int -/
def bz (v : Int) (k : Nat) : Bool := (Int32.ofInt v).toBitVec.getLsbD k
theorem bZ_bz {v : Int} {k : Nat} (h : k < 32) : bZ v k ↔ bz v k = true := bitI_iff _ h
theorem bz_ior (a b : Int) (k : Nat) : bz (Xior a b) k = (bz a k || bz b k) := by
  unfold bz Xior
  rw [Int32.ofInt_toInt]
  exact BitVec.getLsbD_or
theorem bz_iand (a b : Int) (k : Nat) : bz (Xiand a b) k = (bz a k && bz b k) := by
  unfold bz Xiand
  rw [Int32.ofInt_toInt]
  exact BitVec.getLsbD_and
theorem bz_ixor (a b : Int) (k : Nat) : bz (Xixor a b) k = (bz a k ^^ bz b k) := by
  unfold bz Xixor
  rw [Int32.ofInt_toInt]
  exact BitVec.getLsbD_xor
theorem bz_m1 : ∀ k, k < 32 → bz (-1) k = true := by decide +kernel
theorem bz_inv (a : Int) {k : Nat} (h : k < 32) : bz (Xixor a (-1)) k = !bz a k := by
  rw [bz_ixor, bz_m1 k h]
  cases bz a k <;> rfl
theorem bz_0 (k : Nat) : bz 0 k = false := by
  unfold bz
  rw [show (Int32.ofInt 0).toBitVec = 0#32 from by decide]
  exact BitVec.getLsbD_zero
theorem bz_hi {v : Int} {k : Nat} (h : 32 ≤ k) : bz v k = false := BitVec.getLsbD_of_ge _ _ h
theorem bz_shl (v : Int) {n k : Nat} (hn : n < 32) (hk : k < 32) : bz (Xishl v (n : Int)) k = (decide (n ≤ k) && bz v (k - n)) := by
  unfold bz Xishl
  rw [Int32.ofInt_toInt, ofI_nI n hn]
  have e : (Int32.ofInt v <<< (nI n &&& 31)).toBitVec = (Int32.ofInt v).toBitVec <<< n := by
    show (Int32.ofInt v).toBitVec <<< ((nI n &&& 31).toBitVec.smod 32) = _
    rw [BitVec.shiftLeft_eq', nI31 n hn]
  rw [e, BitVec.getLsbD_shiftLeft]
  by_cases q : n ≤ k
  · have q2 : ¬ k < n := by omega
    simp [q, q2, hk]
  · have q2 : k < n := by omega
    simp [q, q2]
theorem bz_shr (v : Int) {n k : Nat} (hn : n < 32) (hk : k < 32) : bz (Xishr v (n : Int)) k = if k + n < 32 then bz v (k + n) else bz v 31 := by
  unfold bz Xishr
  rw [Int32.ofInt_toInt, ofI_nI n hn]
  have e : (Int32.ofInt v >>> (nI n &&& 31)).toBitVec = (Int32.ofInt v).toBitVec.sshiftRight n := by
    show BitVec.sshiftRight' (Int32.ofInt v).toBitVec ((nI n &&& 31).toBitVec.smod 32) = _
    rw [BitVec.sshiftRight', nI31 n hn]
  rw [e, BitVec.getLsbD_sshiftRight]
  have h1 : ¬ 32 ≤ k := by omega
  by_cases q : n + k < 32
  · have q2 : k + n < 32 := by omega
    simp only [h1, decide_false, Bool.not_false, Bool.true_and, if_pos q, if_pos q2, Nat.add_comm]
  · have q2 : ¬ k + n < 32 := by omega
    simp only [h1, decide_false, Bool.not_false, Bool.true_and, if_neg q, if_neg q2]
    rfl
theorem bz_one {c k : Nat} (hc : c < 32) (hk : k < 32) : bz (Xishl 1 (c : Int)) k = decide (k = c) := by
  rw [bz_shl 1 hc hk]
  have t : ∀ j, j < 32 → bz 1 j = decide (j = 0) := by decide +kernel
  by_cases q : c ≤ k
  · rw [t _ (by omega)]
    by_cases r : k = c
    · subst r; simp
    · have r2 : ¬ k - c = 0 := by omega
      simp [q, r, r2]
  · have r : ¬ k = c := by omega
    simp [q, r]
theorem bz_ext {a b : Int} (ha : -2147483648 ≤ a ∧ a ≤ 2147483647) (hb : -2147483648 ≤ b ∧ b ≤ 2147483647) (h : ∀ k, k < 32 → bz a k = bz b k) : a = b := by
  have e : Int32.ofInt a = Int32.ofInt b := Int32.toBitVec_inj.mp (BitVec.eq_of_getLsbD_eq h)
  have e1 := Int32.toInt_ofInt_of_le (n := a) (by omega) (by omega)
  have e2 := Int32.toInt_ofInt_of_le (n := b) (by omega) (by omega)
  rw [← e1, ← e2, e]
theorem rg_i (x : Int32) : -2147483648 ≤ x.toInt ∧ x.toInt ≤ 2147483647 := by
  have h1 := Int32.toInt_lt x
  have h2 := Int32.le_toInt x
  omega
theorem bz_tst {v : Int} {c : Nat} (h : c < 32) : Xiand (Xishr v (c : Int)) 1 = if bz v c = true then 1 else 0 := by
  refine bz_ext (rg_i _) (by split <;> decide) (fun k hk => ?_)
  have t : ∀ j, j < 32 → bz 1 j = decide (j = 0) := by decide +kernel
  rw [bz_iand, t k hk]
  by_cases q : k = 0
  · subst q
    rw [bz_shr v h hk, if_pos (by omega), Nat.zero_add]
    by_cases r : bz v c = true
    · rw [if_pos r, r, t 0 (by omega)]; rfl
    · rw [if_neg r, bz_0]
      simp at r
      rw [r]; rfl
  · simp only [q, decide_false, Bool.and_false]
    split
    · rw [t k hk]; simp [q]
    · rw [bz_0]
theorem bz_ne0 {v : Int} (hv : -2147483648 ≤ v ∧ v ≤ 2147483647) : v ≠ 0 ↔ ∃ k, k < 32 ∧ bz v k = true := by
  constructor
  · intro h
    refine Classical.byContradiction (fun q => h (bz_ext hv (by decide) (fun k hk => ?_)))
    rw [bz_0]
    cases e : bz v k with
    | false => rfl
    | true => exact absurd ⟨k, hk, e⟩ q
  · rintro ⟨k, hk, e⟩ h
    rw [h, bz_0] at e
    cases e
/-! loops that count: the body n times -/
def itr (f : Int → XS → XS) : Nat → Int → XS → XS
  | 0, _, s => s
  | n + 1, x, s => itr f n (x + 1) (f x s)
theorem itr_inv {f : Int → XS → XS} (P : Int → XS → Prop) : ∀ (n : Nat) (x : Int) (s : XS), P x s → (∀ (y : Int) (u : XS), x ≤ y → y < x + n → P y u → P (y + 1) (f y u)) → P (x + n) (itr f n x s)
  | 0, x, s, h, _ => by
    show P (x + 0) s
    rw [Int.add_zero]
    exact h
  | n + 1, x, s, h, g => by
    have q := itr_inv P n (x + 1) (f x s) (g x s (Int.le_refl _) (by omega) h) (fun y u h1 h2 => g y u (by omega) (by omega))
    have e : x + 1 + (n : Int) = x + ((n + 1 : Nat) : Int) := by omega
    rw [e] at q
    exact q
/-- a loop over x below N: its own equation gives the body again and again, then what is behind -/
theorem itr_loop {L : Nat → XS → Int → XR} {f : Int → XS → XS} {E : XS → XR} {N : Int} (h : ∀ n s x, L (n + 1) s x = if x < N then L n (f x s) (x + 1) else E s) : ∀ (n : Nat) (x : Int) (s : XS), x ≤ N → N - x < (n : Int) → L n s x = E (itr f (N - x).toNat x s)
  | 0, x, s, h1, h2 => by omega
  | n + 1, x, s, h1, h2 => by
    rw [h n s x]
    by_cases q : x < N
    · rw [if_pos q, itr_loop h n (x + 1) (f x s) (by omega) (by omega)]
      have e : (N - x).toNat = (N - (x + 1)).toNat + 1 := by omega
      rw [e]
      rfl
    · rw [if_neg q]
      have e : (N - x).toNat = 0 := by omega
      rw [e]
      rfl
/-- the same where the bound and the body's equation lean on what the body keeps -/
theorem itr_loopI {L : Nat → XS → Int → XR} {f : Int → XS → XS} {E : XS → XR} {N : Int} {I : XS → Prop} (h : ∀ n s x, I s → 0 ≤ x → L (n + 1) s x = if x < N then L n (f x s) (x + 1) else E s) (hf : ∀ x s, I s → 0 ≤ x → x < N → I (f x s)) : ∀ (n : Nat) (x : Int) (s : XS), I s → 0 ≤ x → x ≤ N → N - x < (n : Int) → L n s x = E (itr f (N - x).toNat x s)
  | 0, x, s, _, _, h1, h2 => by omega
  | n + 1, x, s, hI, h0, h1, h2 => by
    rw [h n s x hI h0]
    by_cases q : x < N
    · rw [if_pos q, itr_loopI h hf n (x + 1) (f x s) (hf x s hI h0 q) (by omega) (by omega) (by omega)]
      have e : (N - x).toNat = (N - (x + 1)).toNat + 1 := by omega
      rw [e]
      rfl
    · rw [if_neg q]
      have e : (N - x).toNat = 0 := by omega
      rw [e]
      rfl
theorem itr_all {f : Int → XS → XS} (P : Int → XS → Prop) {N x : Int} {s : XS} (hx : x ≤ N) (h : P x s) (g : ∀ (y : Int) (u : XS), x ≤ y → y < N → P y u → P (y + 1) (f y u)) : P N (itr f (N - x).toNat x s) := by
  have q := itr_inv (f := f) P (N - x).toNat x s h (fun y u h1 h2 => g y u h1 (by omega))
  rw [show x + ((N - x).toNat : Int) = N by omega] at q
  exact q
