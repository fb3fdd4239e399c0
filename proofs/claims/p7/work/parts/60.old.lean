/-! the class's reader as functions: a state is its numbers by their places (2 fed, 3 length, 4 kind, 5 start, 6 end, 7 number, 8 fault, 9 place); T is the tape -/
def upI (s : Nat → Int) (k : Nat) (v : Int) : Nat → Int := fun j => if j = k then v else s j
theorem upI_s {s : Nat → Int} {k : Nat} {v : Int} : upI s k v k = v := by unfold upI; rw [if_pos rfl]
theorem upI_n {s : Nat → Int} {k j : Nat} {v : Int} (h : j ≠ k) : upI s k v j = s j := by unfold upI; rw [if_neg h]
abbrev isSm (c : Int) : Prop := 97 ≤ c ∧ c ≤ 122
abbrev isDg (c : Int) : Prop := 48 ≤ c ∧ c ≤ 57
def failS (k : Int) (s : Nat → Int) : Nat → Int := if s 8 = 0 then upI (upI (upI s 8 k) 9 (s 5)) 4 0 else upI s 4 0
theorem upI_up {s : Nat → Int} {k : Nat} {v w : Int} : upI (upI s k v) k w = upI s k w := by
  funext j; unfold upI; split <;> rfl
theorem upI_id {s : Nat → Int} {k : Nat} {v : Int} (h : s k = v) : upI s k v = s := by
  funext j; unfold upI; split
  · rename_i e; rw [e, h]
  · rfl
theorem upI_76 {s : Nat → Int} {a b c d : Int} : upI (upI (upI (upI s 7 a) 6 b) 7 c) 6 d = upI (upI s 7 c) 6 d := by
  funext j; unfold upI; split
  · rfl
  · split
    · rfl
    · rfl
/-- past blanks and line ends -/
def skP (T : Nat → Int) (n : Int) : Nat → Int → Int
  | 0, p => p
  | k + 1, p => if p < n ∧ (T p.toNat = 32 ∨ T p.toNat = 10) then skP T n k (p + 1) else p
def skip (T : Nat → Int) (n p : Int) : Int := skP T n (901 - p).toNat p
theorem skip_s {T : Nat → Int} {n p q : Int} (hp : p ≤ 900) (hq : q = p + 1) (c : p < n ∧ (T p.toNat = 32 ∨ T p.toNat = 10)) : skip T n q = skip T n p := by
  subst hq
  unfold skip
  have e : (901 - p).toNat = (901 - (p + 1)).toNat + 1 := by omega
  rw [e]
  conv => rhs; unfold skP
  rw [if_pos c]
theorem skip_e {T : Nat → Int} {n p : Int} (hp : p ≤ 900) (c : ¬ (p < n ∧ (T p.toNat = 32 ∨ T p.toNat = 10))) : skip T n p = p := by
  unfold skip
  have e : (901 - p).toNat = (900 - p).toNat + 1 := by omega
  rw [e]
  unfold skP
  rw [if_neg c]
/-- to the end of a run of signs from lo to hi -/
def rnP (T : Nat → Int) (n lo hi : Int) : Nat → Int → Int
  | 0, p => p
  | k + 1, p => if p < n ∧ (lo ≤ T p.toNat ∧ T p.toNat ≤ hi) then rnP T n lo hi k (p + 1) else p
def run (T : Nat → Int) (n lo hi p : Int) : Int := rnP T n lo hi (901 - p).toNat p
theorem run_s {T : Nat → Int} {n lo hi p q : Int} (hp : p ≤ 900) (hq : q = p + 1) (c : p < n ∧ (lo ≤ T p.toNat ∧ T p.toNat ≤ hi)) : run T n lo hi q = run T n lo hi p := by
  subst hq
  unfold run
  have e : (901 - p).toNat = (901 - (p + 1)).toNat + 1 := by omega
  rw [e]
  conv => rhs; unfold rnP
  rw [if_pos c]
theorem run_e {T : Nat → Int} {n lo hi p : Int} (hp : p ≤ 900) (c : ¬ (p < n ∧ (lo ≤ T p.toNat ∧ T p.toNat ≤ hi))) : run T n lo hi p = p := by
  unfold run
  have e : (901 - p).toNat = (900 - p).toNat + 1 := by omega
  rw [e]
  unfold rnP
  rw [if_neg c]
/-- the number of a run of digits, as the machine reckons it -/
def nxt (v t : Int) : Int := (Int32.ofInt v * 10 + Int32.ofInt t - 48).toInt
def nuP (T : Nat → Int) (n : Int) : Nat → Int → Int → Int
  | 0, _, v => v
  | k + 1, p, v => if p < n ∧ (48 ≤ T p.toNat ∧ T p.toNat ≤ 57) then nuP T n k (p + 1) (nxt v (T p.toNat)) else v
def num (T : Nat → Int) (n p v : Int) : Int := nuP T n (901 - p).toNat p v
theorem num_st {T : Nat → Int} {n p q v w : Int} (hp : p ≤ 900) (hq : q = p + 1) (hw : w = nxt v (T p.toNat)) (c : p < n ∧ (48 ≤ T p.toNat ∧ T p.toNat ≤ 57)) : num T n q w = num T n p v := by
  subst hq; subst hw
  unfold num
  have e : (901 - p).toNat = (901 - (p + 1)).toNat + 1 := by omega
  rw [e]
  conv => rhs; unfold nuP
  rw [if_pos c]
theorem numR_e {T : Nat → Int} {n p v : Int} (hp : p ≤ 900) (c : ¬ (p < n ∧ (48 ≤ T p.toNat ∧ T p.toNat ≤ 57))) : num T n p v = v := by
  unfold num
  have e : (901 - p).toNat = (900 - p).toNat + 1 := by omega
  rw [e]
  unfold nuP
  rw [if_neg c]
abbrev sgn (c : Int) : Prop := c = 59 ∨ c = 58 ∨ c = 43 ∨ c = 45 ∨ c = 42 ∨ c = 40 ∨ c = 41 ∨ c = 91 ∨ c = 93 ∨ c = 61 ∨ c = 60 ∨ c = 62
def advN (d : Int) (s : Nat → Int) : Nat → Int := if 3 < d then failS 1 s else s
def advT (T : Nat → Int) (n p : Int) (s : Nat → Int) : Nat → Int :=
  if n ≤ p then upI (upI (upI s 5 p) 6 p) 4 0
  else if isSm (T p.toNat) then upI (upI (upI (upI s 5 p) 6 p) 4 1) 6 (run T n 97 122 p)
  else if isDg (T p.toNat) then advN (run T n 48 57 p - p) (upI (upI (upI (upI (upI (upI s 5 p) 6 p) 4 2) 7 0) 7 (num T n p 0)) 6 (run T n 48 57 p))
  else if sgn (T p.toNat) then upI (upI (upI (upI s 5 p) 6 p) 4 (T p.toNat)) 6 (p + 1)
  else failS 1 (upI (upI s 5 p) 6 p)
def advS (T : Nat → Int) (s : Nat → Int) : Nat → Int := if s 8 = 0 then advT T (s 3) (skip T (s 3) (s 6)) s else s
theorem by_id {x : Int32} (h0 : -128 ≤ x.toInt) (h1 : x.toInt ≤ 127) : x.toInt8.toInt32.toInt = x.toInt := by
  rw [Int8.toInt_toInt32, Int32.toInt_toInt8]
  exact Int.bmod_eq_of_le_mul_two (by omega) (by omega)
theorem ch_id {x : Int32} (h0 : 0 ≤ x.toInt) (h1 : x.toInt ≤ 65535) : ((x.toUInt32 % 65536).toInt32).toInt = x.toInt := by
  have e : x.toBitVec.toNat = x.toInt.toNat := by
    have q : x.toInt = x.toBitVec.toInt := rfl
    rw [q] at h0 ⊢
    rw [BitVec.toInt_eq_toNat_cond] at h0 ⊢
    split at h0
    · rename_i c; rw [if_pos c]; omega
    · have := x.toBitVec.isLt; omega
  rw [pk_char, nI_toInt (by omega), e]
  omega
theorem nxt_of {v t z1 z2 z3 a b : Int32} (h1 : z1 = v * a) (ha : a.toInt = 10) (h2 : z2 = z1 + t) (h3 : z3 = z2 - b) (hb : b.toInt = 48) : z3.toInt = nxt v.toInt t.toInt := by
  obtain rfl : a = 10 := Int32.toInt_inj.mp ha
  obtain rfl : b = 48 := Int32.toInt_inj.mp hb
  subst h1; subst h2; subst h3
  unfold nxt
  rw [Int32.ofInt_toInt, Int32.ofInt_toInt]
theorem upI_id2 {s : Nat → Int} {a b : Int} (h7 : s 7 = a) (h6 : s 6 = b) : upI (upI s 7 a) 6 b = s := by
  rw [upI_id h7, upI_id h6]
theorem ix_sgn {r c : Int} (h : (0 ≤ r ∧ ∃ j : Nat, j < strLen.getD 0 0 ∧ (chB 0 j).toInt = c) ∨ (r = -1 ∧ ∀ j : Nat, j < strLen.getD 0 0 → (chB 0 j).toInt ≠ c)) : (0 ≤ r ∧ sgn c) ∨ (r = -1 ∧ ¬ sgn c) := by
  have k : ∀ j : Nat, j < 12 → sgn (chB 0 j).toInt := by decide +kernel
  have k2 : ∀ c : Int, sgn c → ∃ j : Nat, j < 12 ∧ (chB 0 j).toInt = c := by
    intro c hc
    rcases hc with rfl | rfl | rfl | rfl | rfl | rfl | rfl | rfl | rfl | rfl | rfl | rfl
    · exact ⟨0, by decide, by decide +kernel⟩
    · exact ⟨1, by decide, by decide +kernel⟩
    · exact ⟨2, by decide, by decide +kernel⟩
    · exact ⟨3, by decide, by decide +kernel⟩
    · exact ⟨4, by decide, by decide +kernel⟩
    · exact ⟨5, by decide, by decide +kernel⟩
    · exact ⟨6, by decide, by decide +kernel⟩
    · exact ⟨7, by decide, by decide +kernel⟩
    · exact ⟨8, by decide, by decide +kernel⟩
    · exact ⟨9, by decide, by decide +kernel⟩
    · exact ⟨10, by decide, by decide +kernel⟩
    · exact ⟨11, by decide, by decide +kernel⟩
  have e : strLen.getD 0 0 = 12 := by decide +kernel
  rw [e] at h
  rcases h with ⟨h1, j, h2, h3⟩ | ⟨h1, h2⟩
  · exact Or.inl ⟨h1, h3 ▸ k j h2⟩
  · refine Or.inr ⟨h1, fun hc => ?_⟩
    obtain ⟨j, h3, h4⟩ := k2 c hc
    exact h2 j h3 h4
/-! words -/
def isW (T : Nat → Int) (k : Nat) (s : Nat → Int) : Prop := s 4 = 1 ∧ s 6 - s 5 = ((strLen.getD k 0 : Nat) : Int) ∧ ∀ i : Nat, i < strLen.getD k 0 → T (s 5 + i).toNat = (chB k i).toInt
def isWd (T : Nat → Int) (k : Nat) (s : Nat → Int) : Decidable (isW T k s) := by unfold isW; infer_instance
def wI (T : Nat → Int) (k : Nat) (s : Nat → Int) : Int := @ite Int (isW T k s) (isWd T k s) 1 0
theorem wI_1 {T : Nat → Int} {k : Nat} {s : Nat → Int} {r : Int} (hr : r = 1) (h : isW T k s) : r = wI T k s := by unfold wI; rw [if_pos h]; exact hr
theorem wI_0 {T : Nat → Int} {k : Nat} {s : Nat → Int} {r : Int} (hr : r = 0) (h : ¬ isW T k s) : r = wI T k s := by unfold wI; rw [if_neg h]; exact hr
theorem chB_all : strByt.all (fun l => l.all (fun c => decide (0 ≤ c.toInt ∧ c.toInt ≤ 127))) = true := by decide +kernel
theorem chB_bd (k j : Nat) : 0 ≤ (chB k j).toInt ∧ (chB k j).toInt ≤ 127 := by
  have h := List.all_eq_true.mp chB_all
  have hz : 0 ≤ (0 : Int32).toInt ∧ (0 : Int32).toInt ≤ 127 := by decide
  have g : ∀ l : List Int32, (l.all (fun c => decide (0 ≤ c.toInt ∧ c.toInt ≤ 127)) = true) → 0 ≤ (l.getD j 0).toInt ∧ (l.getD j 0).toInt ≤ 127 := fun l hl => by
    rw [List.getD_eq_getElem?_getD]
    cases e : l[j]? with
    | none => exact hz
    | some c => exact of_decide_eq_true (List.all_eq_true.mp hl c (List.mem_of_getElem? e))
  unfold chB
  have e2 : strByt.getD k [] = (strByt[k]?).getD [] := List.getD_eq_getElem?_getD ..
  rw [e2]
  cases e : strByt[k]? with
  | none => exact g [] rfl
  | some l => exact g l (h l (List.mem_of_getElem? e))
theorem and255 {x z m : Int32} (h : z = x &&& m) (hm : m.toInt = 255) (h0 : 0 ≤ x.toInt) (h1 : x.toInt ≤ 255) : z.toInt = x.toInt := by
  obtain rfl : m = 255 := Int32.toInt_inj.mp hm
  obtain ⟨e, hb⟩ := nI_int (n := 256) h0 (by omega)
  subst h
  rw [e]
  generalize x.toInt.toNat = k at hb
  exact (by decide +kernel : ∀ k, k < 256 → ((nI k) &&& 255).toInt = (nI k).toInt) k hb
theorem ch_of {v z m r : Int32} {k j : Nat} (hv : v = chB k j) (hz : z = v &&& m) (hm : m.toInt = 255) (hr : r.toInt = z.toInt) : r.toInt = (chB k j).toInt := by
  have b := chB_bd k j
  subst hv
  rw [hr, and255 hz hm b.1 (by omega)]

/-! words -/
def chK (k : Int) : Int := (chB 22 k.toNat).toInt
def MW (T : Nat → Int) (a b k : Int) : Prop := ∃ i : Nat, chK (k + i) = 32 ∧ a + i = b ∧ ∀ j : Nat, (j : Int) < i → chK (k + j) ≠ 32 ∧ T (a + j).toNat = chK (k + j)
theorem MW_no {T : Nat → Int} {a b k x : Int} (h0 : 0 ≤ x) (hin : ∀ j : Nat, (j : Int) < x → chK (k + j) ≠ 32 ∧ T (a + j).toNat = chK (k + j)) (hx : (chK (k + x) = 32 ∧ a + x ≠ b) ∨ (chK (k + x) ≠ 32 ∧ (b ≤ a + x ∨ T (a + x).toNat ≠ chK (k + x)))) : ¬ MW T a b k := by
  rintro ⟨i, h1, h2, h3⟩
  have e : ((x.toNat : Nat) : Int) = x := by omega
  rcases Int.lt_trichotomy (i : Int) x with q | q | q
  · exact (hin i q).1 h1
  · rw [← q] at hx; rcases hx with ⟨_, g⟩ | ⟨g, _⟩
    · exact g h2
    · exact g h1
  · have w := h3 x.toNat (by omega)
    rw [e] at w
    rcases hx with ⟨g, _⟩ | ⟨_, g | g⟩
    · exact w.1 g
    · omega
    · exact g w.2
theorem MW_yes {T : Nat → Int} {a b k x : Int} (h0 : 0 ≤ x) (hin : ∀ j : Nat, (j : Int) < x → chK (k + j) ≠ 32 ∧ T (a + j).toNat = chK (k + j)) (h1 : chK (k + x) = 32) (h2 : a + x = b) : MW T a b k := by
  have e : ((x.toNat : Nat) : Int) = x := by omega
  exact ⟨x.toNat, by rw [e]; exact h1, by rw [e]; exact h2, fun j hj => hin j (by rw [e] at hj; exact hj)⟩
def nbP : Nat → Int → Int
  | 0, k => k
  | f + 1, k => if chK k = 32 then k else nbP f (k + 1)
def nb (k : Int) : Int := nbP (101 - k).toNat k
theorem nb_s {k q : Int} (hk : k ≤ 100) (hq : q = k + 1) (c : chK k ≠ 32) : nb q = nb k := by
  subst hq
  unfold nb
  rw [show (101 - k).toNat = (101 - (k + 1)).toNat + 1 by omega]
  conv => rhs; unfold nbP
  rw [if_neg c]
theorem nb_e {k : Int} (hk : k ≤ 100) (c : chK k = 32) : nb k = k := by
  unfold nb
  rw [show (101 - k).toNat = (100 - k).toNat + 1 by omega]
  unfold nbP
  rw [if_pos c]
noncomputable def kyP (T : Nat → Int) (a b : Int) : Nat → Int → Int → Int
  | 0, _, _ => 22
  | f + 1, k, n => if k < 101 then (@ite Int (MW T a b k) (Classical.propDecidable _) n (kyP T a b f (nb k + 1) (n + 1))) else 22
noncomputable def kyM (T : Nat → Int) (a b : Int) : Int := kyP T a b 200 1 0
theorem ky_y {T : Nat → Int} {a b k n : Int} (hn : n < 200) (hk : k < 101) (h : MW T a b k) : n = kyP T a b (200 - n).toNat k n := by
  rw [show (200 - n).toNat = (199 - n).toNat + 1 by omega]
  unfold kyP
  rw [if_pos hk, if_pos h]
theorem ky_n {T : Nat → Int} {a b k k' n n' : Int} (hn : n < 200) (hk : k < 101) (h : ¬ MW T a b k) (h1 : k' = nb k + 1) (h2 : n' = n + 1) : kyP T a b (200 - n').toNat k' n' = kyP T a b (200 - n).toNat k n := by
  subst h1; subst h2
  rw [show (200 - n).toNat = (200 - (n + 1)).toNat + 1 by omega]
  conv => rhs; unfold kyP
  rw [if_pos hk, if_neg h]
theorem ky_e {T : Nat → Int} {a b k n : Int} (hk : 101 ≤ k) : (22 : Int) = kyP T a b (200 - n).toNat k n := by
  cases (200 - n).toNat with
  | zero => rfl
  | succ f => unfold kyP; rw [if_neg (by omega)]
/-! the next token -/
def kdP (c : Int) : Nat → Int
  | 0 => 25
  | k + 1 => if c = (chB 0 k).toInt then 30 + (k : Int) else kdP c k
theorem kd_y {c x v : Int} {y : Int} (h0 : 0 ≤ x) (hy : y = x + 1) (hc : c = (chB 0 x.toNat).toInt) (hv : v = 30 + x) : v = kdP c y.toNat := by
  subst hy
  rw [show (x + 1).toNat = x.toNat + 1 by omega]
  unfold kdP
  rw [if_pos hc, hv]
  omega
theorem kd_n {c x v : Int} {y : Int} (h0 : 0 ≤ x) (hy : y = x + 1) (hc : c ≠ (chB 0 x.toNat).toInt) (hv : v = kdP c x.toNat) : v = kdP c y.toNat := by
  subst hy
  rw [show (x + 1).toNat = x.toNat + 1 by omega]
  unfold kdP
  rw [if_neg hc, hv]
def nmP (T : Nat → Int) (n p : Int) : Nat → Int → Int → Int
  | 0, _, v => v
  | k + 1, b, v => if b < n ∧ (48 ≤ T b.toNat ∧ T b.toNat ≤ 57) then nmP T n p k (b + 1) (if b - p < 3 then 10 * v + T b.toNat - 48 else v) else v
def nmM (T : Nat → Int) (n p b v : Int) : Int := nmP T n p (901 - b).toNat b v
theorem nmM_s {T : Nat → Int} {n p b q v w : Int} (hb : b ≤ 900) (hq : q = b + 1) (hw : (b - p < 3 ∧ w = 10 * v + T b.toNat - 48) ∨ (¬ b - p < 3 ∧ w = v)) (c : b < n ∧ (48 ≤ T b.toNat ∧ T b.toNat ≤ 57)) : nmM T n p q w = nmM T n p b v := by
  subst hq
  unfold nmM
  rw [show (901 - b).toNat = (901 - (b + 1)).toNat + 1 by omega]
  conv => rhs; unfold nmP
  rw [if_pos c]
  rcases hw with ⟨h, rfl⟩ | ⟨h, rfl⟩
  · rw [if_pos h]
  · rw [if_neg h]
theorem nmM_e {T : Nat → Int} {n p b v : Int} (hb : b ≤ 900) (c : ¬ (b < n ∧ (48 ≤ T b.toNat ∧ T b.toNat ≤ 57))) : nmM T n p b v = v := by
  unfold nmM
  rw [show (901 - b).toNat = (900 - b).toNat + 1 by omega]
  unfold nmP
  rw [if_neg c]
noncomputable def nxT (T : Nat → Int) (n p : Int) (s : Nat → Int) : Nat → Int :=
  if n ≤ p then upI (upI (upI s 6 p) 7 p) 9 24
  else if isSm (T p.toNat) then upI (upI (upI (upI s 6 p) 7 p) 7 (run T n 97 122 p)) 9 (kyM T p (run T n 97 122 p))
  else if isDg (T p.toNat) then upI (upI (upI (upI (upI (upI s 6 p) 7 p) 10 0) 10 (nmM T n p p 0)) 7 (run T n 48 57 p)) 9 (if 3 < run T n 48 57 p - p then 25 else 23)
  else upI (upI (upI (upI (upI s 6 p) 7 p) 7 (p + 1)) 9 25) 9 (kdP (T p.toNat) 12)
noncomputable def nxM (T : Nat → Int) (s : Nat → Int) : Nat → Int := nxT T (s 8) (skip T (s 8) (s 7)) s
theorem upI_107 {s : Nat → Int} {a b c d : Int} : upI (upI (upI (upI s 10 a) 7 b) 10 c) 7 d = upI (upI s 10 c) 7 d := by
  funext j; unfold upI; split
  · rfl
  · split
    · rfl
    · rfl
theorem upI_id3 {s : Nat → Int} {a b : Int} (h10 : s 10 = a) (h7 : s 7 = b) : upI (upI s 10 a) 7 b = s := by
  rw [upI_id h10, upI_id h7]
theorem ch100 {r k : Int32} (h : r.toInt = (chB 22 k.toInt.toNat).toInt) : k.toInt = 100 → r.toInt = 32 := fun e => by rw [h, e]; decide +kernel
theorem chK_of {r k : Int32} {g : Int} (h : r.toInt = (chB 22 k.toInt.toNat).toInt) (hk : k.toInt = g) : chK g = r.toInt := by subst hk; exact h.symm
noncomputable def failM (k : Int) (s : Nat → Int) : Nat → Int := if s 11 = 0 then upI (upI s 11 (if s 9 = 25 then 1 else k)) 12 (s 6) else s
theorem failM_10 {k : Int} {s : Nat → Int} : failM k s 10 = s 10 := by unfold failM; split <;> rfl
/-! the two readers alike: T the class's tape (bytes with sign), U the reference's -/
abbrev Sb (T U : Nat → Int) : Prop := ∀ j, (0 ≤ U j ∧ U j ≤ 127 ∧ T j = U j) ∨ (128 ≤ U j ∧ U j ≤ 255 ∧ T j = U j - 256)
theorem skP_eq {T U : Nat → Int} (h : Sb T U) {n : Int} : ∀ (k : Nat) (p : Int), skP T n k p = skP U n k p
  | 0, p => rfl
  | k + 1, p => by
    unfold skP
    have g := h p.toNat
    by_cases c : p < n ∧ (T p.toNat = 32 ∨ T p.toNat = 10)
    · rw [if_pos c, if_pos (by omega), skP_eq h]
    · rw [if_neg c, if_neg (by omega)]
theorem skip_eq {T U : Nat → Int} (h : Sb T U) {n p : Int} : skip T n p = skip U n p := skP_eq h _ _
theorem rnP_eq {T U : Nat → Int} (h : Sb T U) {n lo hi : Int} (h0 : 0 ≤ lo) (h1 : hi ≤ 127) : ∀ (k : Nat) (p : Int), rnP T n lo hi k p = rnP U n lo hi k p
  | 0, p => rfl
  | k + 1, p => by
    unfold rnP
    have g := h p.toNat
    by_cases c : p < n ∧ (lo ≤ T p.toNat ∧ T p.toNat ≤ hi)
    · rw [if_pos c, if_pos (by omega), rnP_eq h h0 h1]
    · rw [if_neg c, if_neg (by omega)]
theorem run_eq {T U : Nat → Int} (h : Sb T U) {n lo hi p : Int} (h0 : 0 ≤ lo) (h1 : hi ≤ 127) : run T n lo hi p = run U n lo hi p := rnP_eq h h0 h1 _ _
theorem rn_ge {T : Nat → Int} {n lo hi : Int} : ∀ (k : Nat) (p : Int), p ≤ rnP T n lo hi k p
  | 0, p => Int.le_refl _
  | k + 1, p => by
    unfold rnP
    split
    · exact Int.le_trans (by omega) (rn_ge k (p + 1))
    · exact Int.le_refl _
theorem nxt_small {v t : Int} (h0 : 0 ≤ v) (h1 : v ≤ 99) (h2 : 48 ≤ t) (h3 : t ≤ 57) : nxt v t = 10 * v + t - 48 := by
  have k : ∀ a : Nat, a < 100 → ∀ b : Nat, b < 10 → nxt (a : Int) (48 + (b : Int)) = 10 * (a : Int) + (b : Int) := by decide +kernel
  have e := k v.toNat (by omega) (t - 48).toNat (by omega)
  rw [show ((v.toNat : Nat) : Int) = v by omega, show (((t - 48).toNat : Nat) : Int) = t - 48 by omega, show 48 + (t - 48) = t by omega] at e
  omega
theorem nu_eq {T U : Nat → Int} (h : Sb T U) {n p : Int} : ∀ (f : Nat) (b v : Int), ((b - p = 0 ∧ v = 0) ∨ (b - p = 1 ∧ 0 ≤ v ∧ v ≤ 9) ∨ (b - p = 2 ∧ 0 ≤ v ∧ v ≤ 99) ∨ 3 ≤ b - p) → rnP T n 48 57 f b - p ≤ 3 → nuP T n f b v = nmP U n p f b v
  | 0, b, v, _, _ => rfl
  | f + 1, b, v, hb, hr => by
    unfold nuP nmP
    have g := h b.toNat
    by_cases c : b < n ∧ (48 ≤ T b.toNat ∧ T b.toNat ≤ 57)
    · have r := rn_ge (T := T) (n := n) (lo := 48) (hi := 57) f (b + 1)
      have e : rnP T n 48 57 (f + 1) b = rnP T n 48 57 f (b + 1) := by
        conv => lhs; unfold rnP
        rw [if_pos c]
      rw [e] at hr
      have gt : T b.toNat = U b.toNat := by omega
      rw [if_pos c, if_pos (by omega), if_pos (by omega), nxt_small (by omega) (by omega) c.2.1 c.2.2, ← gt]
      exact nu_eq h f (b + 1) _ (by omega) hr
    · rw [if_neg c, if_neg (by omega)]
theorem num_eq {T U : Nat → Int} (h : Sb T U) {n p : Int} (hr : run T n 48 57 p - p ≤ 3) : num T n p 0 = nmM U n p p 0 := nu_eq h _ p 0 (by omega) hr
/-! the words: which of the class's texts, where in the reference's -/
abbrev cl (m : Nat) : Nat := [1, 2, 3, 4, 9, 10, 11, 18, 5, 6, 7, 8, 21, 20, 19, 12, 13, 14, 15, 16, 17].getD m 0
abbrev ks (m : Nat) : Nat := [1, 6, 11, 16, 23, 29, 35, 41, 45, 51, 56, 62, 67, 70, 74, 78, 80, 82, 87, 91, 96].getD m 0
abbrev ln (m : Nat) : Nat := strLen.getD (cl m) 0
theorem wd_tab : ∀ m : Nat, m < 21 → chK (((ks m : Nat) : Int) + ((ln m : Nat) : Int)) = 32 ∧ ∀ i : Nat, i < ln m → chK (((ks m : Nat) : Int) + (i : Int)) ≠ 32 ∧ chK (((ks m : Nat) : Int) + (i : Int)) = (chB (cl m) i).toInt ∧ 97 ≤ (chB (cl m) i).toInt ∧ (chB (cl m) i).toInt ≤ 122 := by decide +kernel
theorem wd_ne : ∀ m : Nat, m < 21 → ∀ q : Nat, q < 21 → ln m = ln q → (∀ i : Nat, i < ln m → (chB (cl m) i).toInt = (chB (cl q) i).toInt) → m = q := by decide +kernel
def wdm (T : Nat → Int) (a b : Int) (m : Nat) : Prop := b - a = ((ln m : Nat) : Int) ∧ ∀ i : Nat, i < ln m → T (a + i).toNat = (chB (cl m) i).toInt
theorem wd_U {T U : Nat → Int} (h : Sb T U) {a b : Int} {m : Nat} (hm : m < 21) : MW U a b ((ks m : Nat) : Int) ↔ wdm T a b m := by
  obtain ⟨h1, h2⟩ := wd_tab m hm
  constructor
  · rintro ⟨i, g1, g2, g3⟩
    have e : i = ln m := by
      rcases Nat.lt_trichotomy i (ln m) with q | q | q
      · exact absurd g1 (h2 i q).1
      · exact q
      · exact absurd h1 (g3 (ln m) (by omega)).1
    subst e
    refine ⟨by omega, fun i hi => ?_⟩
    have g := g3 i (by omega)
    have k := h2 i hi
    have s := h (a + (i : Int)).toNat
    omega
  · rintro ⟨g1, g2⟩
    refine ⟨ln m, h1, by omega, fun i hi => ?_⟩
    have k := h2 i (by omega)
    have g := g2 i (by omega)
    have s := h (a + (i : Int)).toNat
    exact ⟨k.1, by omega⟩
theorem wdm_ne {T : Nat → Int} {a b : Int} {m q : Nat} (hm : m < 21) (hq : q < 21) (h : wdm T a b m) (g : wdm T a b q) : m = q := by
  refine wd_ne m hm q hq ?_ (fun i hi => ?_)
  · have := h.1; have := g.1; omega
  · have e : ln m = ln q := by have := h.1; have := g.1; omega
    rw [← h.2 i hi, g.2 i (by omega)]
theorem ky_st {U : Nat → Int} {a b k k' n : Int} {f : Nat} (hk : k < 101) (h : nb k + 1 = k') : kyP U a b (f + 1) k n = n ∧ MW U a b k ∨ kyP U a b (f + 1) k n = kyP U a b f k' (n + 1) ∧ ¬ MW U a b k := by
  conv in (occs := 1) (kyP U a b (f + 1) k n) => unfold kyP
  conv in (occs := 1) (kyP U a b (f + 1) k n) => unfold kyP
  rw [if_pos hk, h]
  by_cases c : MW U a b k
  · left; exact ⟨by rw [if_pos c], c⟩
  · right; exact ⟨by rw [if_neg c], c⟩
theorem ks_nb : ∀ m : Nat, m < 21 → ((ks m : Nat) : Int) < 101 ∧ nb ((ks m : Nat) : Int) + 1 = (if m < 20 then ((ks (m + 1) : Nat) : Int) else 101) := by decide +kernel
theorem ky_from {U : Nat → Int} {a b : Int} : ∀ (d m f : Nat), m + d = 20 → d < f → (∃ q : Nat, m ≤ q ∧ q < 21 ∧ kyP U a b f ((ks m : Nat) : Int) (m : Int) = (q : Int) ∧ MW U a b ((ks q : Nat) : Int)) ∨ (kyP U a b f ((ks m : Nat) : Int) (m : Int) = 22 ∧ ∀ q : Nat, m ≤ q → q < 21 → ¬ MW U a b ((ks q : Nat) : Int))
  | 0, m, f + 1, hm, hf => by
    obtain ⟨h1, h2⟩ := ks_nb m (by omega)
    rw [if_neg (by omega)] at h2
    rcases ky_st (U := U) (a := a) (b := b) (n := (m : Int)) (f := f) h1 h2 with ⟨e, c⟩ | ⟨e, c⟩
    · exact Or.inl ⟨m, by omega, by omega, e, c⟩
    · refine Or.inr ⟨?_, fun q h3 h4 => by rw [show q = m by omega]; exact c⟩
      rw [e]
      cases f with
      | zero => rfl
      | succ f => unfold kyP; rw [if_neg (by omega)]
  | d + 1, m, f + 1, hm, hf => by
    obtain ⟨h1, h2⟩ := ks_nb m (by omega)
    rw [if_pos (by omega)] at h2
    rcases ky_st (U := U) (a := a) (b := b) (n := (m : Int)) (f := f) h1 h2 with ⟨e, c⟩ | ⟨e, c⟩
    · exact Or.inl ⟨m, by omega, by omega, e, c⟩
    · rw [e, show (m : Int) + 1 = ((m + 1 : Nat) : Int) by omega]
      rcases ky_from d (m + 1) f (by omega) (by omega) with ⟨q, g1, g2, g3, g4⟩ | ⟨g1, g2⟩
      · exact Or.inl ⟨q, by omega, g2, g3, g4⟩
      · refine Or.inr ⟨g1, fun q h3 h4 => ?_⟩
        by_cases hq : q = m
        · rw [hq]; exact c
        · exact g2 q (by omega) h4
  | d, m, 0, _, hf => absurd hf (by omega)
theorem ky_wd {T U : Nat → Int} (h : Sb T U) {a b : Int} : (0 ≤ kyM U a b ∧ kyM U a b ≤ 22) ∧ ∀ m : Nat, m < 21 → (wdm T a b m ↔ kyM U a b = (m : Int)) := by
  have k := ky_from (U := U) (a := a) (b := b) 20 0 200 (by omega) (by omega)
  have e : kyM U a b = kyP U a b 200 ((ks 0 : Nat) : Int) ((0 : Nat) : Int) := rfl
  rw [← e] at k
  rcases k with ⟨q, _, g2, g3, g4⟩ | ⟨g1, g2⟩
  · have w := (wd_U h g2).mp g4
    refine ⟨by omega, fun m hm => ⟨fun c => ?_, fun c => ?_⟩⟩
    · rw [wdm_ne hm g2 c w]; exact g3
    · have : m = q := by omega
      subst this; exact w
  · refine ⟨by omega, fun m hm => ⟨fun c => ?_, fun c => ?_⟩⟩
    · exact absurd ((wd_U h hm).mpr c) (g2 m (by omega) hm)
    · omega
theorem wI_wd {T : Nat → Int} {s : Nat → Int} {m : Nat} : wI T (cl m) s = 1 ↔ s 4 = 1 ∧ wdm T (s 5) (s 6) m := by
  unfold wI wdm
  by_cases c : isW T (cl m) s
  · rw [if_pos c]; exact ⟨fun _ => ⟨c.1, c.2⟩, fun _ => rfl⟩
  · rw [if_neg c]; exact ⟨fun q => absurd q (by decide), fun q => absurd (⟨q.1, q.2⟩ : isW T (cl m) s) c⟩
/-! signs -/
theorem kd_12 (c : Int) : kdP c 12 = if c = 62 then 41 else if c = 60 then 40 else if c = 61 then 39 else if c = 93 then 38 else if c = 91 then 37 else if c = 41 then 36 else if c = 40 then 35 else if c = 42 then 34 else if c = 45 then 33 else if c = 43 then 32 else if c = 58 then 31 else if c = 59 then 30 else 25 := by
  simp only [kdP, show (chB 0 11).toInt = 62 from by decide +kernel, show (chB 0 10).toInt = 60 from by decide +kernel, show (chB 0 9).toInt = 61 from by decide +kernel, show (chB 0 8).toInt = 93 from by decide +kernel, show (chB 0 7).toInt = 91 from by decide +kernel, show (chB 0 6).toInt = 41 from by decide +kernel, show (chB 0 5).toInt = 40 from by decide +kernel, show (chB 0 4).toInt = 42 from by decide +kernel, show (chB 0 3).toInt = 45 from by decide +kernel, show (chB 0 2).toInt = 43 from by decide +kernel, show (chB 0 1).toInt = 58 from by decide +kernel, show (chB 0 0).toInt = 59 from by decide +kernel]
  rfl
theorem kd_no {c : Int} (h : ¬ sgn c) : kdP c 12 = 25 := by
  rw [kd_12]; (repeat' split) <;> first | rfl | (exfalso; omega)
theorem kd_in {c : Int} (h : sgn c) : (c = 59 ∧ kdP c 12 = 30) ∨ (c = 58 ∧ kdP c 12 = 31) ∨ (c = 43 ∧ kdP c 12 = 32) ∨ (c = 45 ∧ kdP c 12 = 33) ∨ (c = 42 ∧ kdP c 12 = 34) ∨ (c = 40 ∧ kdP c 12 = 35) ∨ (c = 41 ∧ kdP c 12 = 36) ∨ (c = 91 ∧ kdP c 12 = 37) ∨ (c = 93 ∧ kdP c 12 = 38) ∨ (c = 61 ∧ kdP c 12 = 39) ∨ (c = 60 ∧ kdP c 12 = 40) ∨ (c = 62 ∧ kdP c 12 = 41) := by
  rw [kd_12]
  rcases h with rfl | rfl | rfl | rfl | rfl | rfl | rfl | rfl | rfl | rfl | rfl | rfl <;> decide
/-! the relation: w = (lines, width, height, people) of the text so far -/
abbrev WW : Type := Int × Int × Int × Int
def Kk (T : Nat → Int) (s m : Nat → Int) : Prop :=
  (s 4 = 0 ∧ m 9 = 24) ∨ (s 4 = 1 ∧ 0 ≤ m 9 ∧ m 9 ≤ 22 ∧ ∀ q : Nat, q < 21 → (wdm T (s 5) (s 6) q ↔ m 9 = (q : Int))) ∨ (s 4 = 2 ∧ m 9 = 23 ∧ s 7 = m 10) ∨ (sgn (s 4) ∧ m 9 = kdP (s 4) 12)
def Ok (w : WW) (s m : Nat → Int) : Prop := s 8 = 0 ∧ m 11 = 0 ∧ s 3 = m 8 ∧ s 6 = m 7 ∧ m 100 = w.1 ∧ m 101 = w.2.1 ∧ m 102 = w.2.2.1 ∧ m 103 = w.2.2.2 ∧ s 9 = -1
def Dead (s m : Nat → Int) : Prop := s 8 ≠ 0 ∧ s 4 = 0 ∧ ((m 11 = s 8 ∧ m 12 = s 9) ∨ (m 11 = 0 ∧ m 9 = 25 ∧ s 8 = 1 ∧ s 9 = m 6))
def Rk (T : Nat → Int) (w : WW) (s m : Nat → Int) : Prop := (Ok w s m ∧ s 5 = m 6 ∧ Kk T s m) ∨ Dead s m
theorem failS_dead {k : Int} {s : Nat → Int} (h8 : s 8 ≠ 0) (h4 : s 4 = 0) : failS k s = s := by
  unfold failS; rw [if_neg h8, upI_id h4]
theorem failM_dead {k : Int} {m : Nat → Int} (h : m 11 ≠ 0) : failM k m = m := by
  unfold failM; rw [if_neg h]
theorem R_fail {T : Nat → Int} {w : WW} {s m : Nat → Int} {k : Int} (hk : k ≠ 0) (h : Rk T w s m) : Rk T w (failS k s) (failM k m) := by
  rcases h with ⟨⟨h8, h11, _⟩, h5, hK⟩ | ⟨h8, h4, hD⟩
  · right
    have n25 : m 9 ≠ 25 := by
      rcases hK with h | h | h | h
      · omega
      · omega
      · omega
      · rcases kd_in h.1 with q | q | q | q | q | q | q | q | q | q | q | q <;> omega
    have e1 : failS k s = upI (upI (upI s 8 k) 9 (s 5)) 4 0 := by unfold failS; rw [if_pos h8]
    have e2 : failM k m = upI (upI m 11 k) 12 (m 6) := by unfold failM; rw [if_pos h11, if_neg n25]
    rw [e1, e2]
    exact ⟨hk, rfl, Or.inl ⟨rfl, h5.symm⟩⟩
  · right
    rw [failS_dead h8 h4]
    rcases hD with ⟨g1, g2⟩ | ⟨g1, g2, g3, g4⟩
    · rw [failM_dead (by omega)]; exact ⟨h8, h4, Or.inl ⟨g1, g2⟩⟩
    · have e2 : failM k m = upI (upI m 11 1) 12 (m 6) := by unfold failM; rw [if_pos g1, if_pos g2]
      rw [e2]; exact ⟨h8, h4, Or.inl ⟨g3.symm, g4.symm⟩⟩
theorem R_adv0 {T U : Nat → Int} (hT : Sb T U) {w : WW} {s m : Nat → Int} (h : Ok w s m) : Rk T w (advS T s) (nxM U m) := by
  obtain ⟨h8, h11, h3, h6, h100, h101, h102, h103, h9⟩ := h
  have e0 : advS T s = advT T (m 8) (skip U (m 8) (m 7)) s := by unfold advS; rw [if_pos h8, h3, h6, skip_eq hT]
  rw [e0]
  unfold nxM
  generalize skip U (m 8) (m 7) = p
  unfold advT nxT
  have g := hT p.toNat
  by_cases c1 : m 8 ≤ p
  · rw [if_pos c1, if_pos c1]
    exact Or.inl ⟨⟨h8, h11, h3, rfl, h100, h101, h102, h103, h9⟩, rfl, Or.inl ⟨rfl, rfl⟩⟩
  · rw [if_neg c1, if_neg c1]
    by_cases c2 : isSm (T p.toNat)
    · rw [if_pos c2, if_pos (show isSm (U p.toNat) by omega), run_eq hT (by omega) (by omega)]
      have k := ky_wd hT (a := p) (b := run U (m 8) 97 122 p)
      exact Or.inl ⟨⟨h8, h11, h3, rfl, h100, h101, h102, h103, h9⟩, rfl, Or.inr (Or.inl ⟨rfl, k.1.1, k.1.2, k.2⟩)⟩
    · rw [if_neg c2, if_neg (show ¬ isSm (U p.toNat) by omega)]
      by_cases c3 : isDg (T p.toNat)
      · rw [if_pos c3, if_pos (show isDg (U p.toNat) by omega), ← run_eq hT (by omega) (by omega)]
        unfold advN
        by_cases c4 : 3 < run T (m 8) 48 57 p - p
        · rw [if_pos c4, if_pos c4]
          have e1 : ∀ x : Nat → Int, x 8 = 0 → failS 1 x = upI (upI (upI x 8 1) 9 (x 5)) 4 0 := fun x hx => by unfold failS; rw [if_pos hx]
          rw [e1]
          · exact Or.inr ⟨(by decide : (1 : Int) ≠ 0), rfl, Or.inr ⟨h11, rfl, rfl, rfl⟩⟩
          · exact h8
        · rw [if_neg c4, if_neg c4]
          exact Or.inl ⟨⟨h8, h11, h3, rfl, h100, h101, h102, h103, h9⟩, rfl, Or.inr (Or.inr (Or.inl ⟨rfl, rfl, num_eq hT (by omega)⟩))⟩
      · rw [if_neg c3, if_neg (show ¬ isDg (U p.toNat) by omega)]
        by_cases c4 : sgn (T p.toNat)
        · rw [if_pos c4]
          have e : U p.toNat = T p.toNat := by omega
          rw [e]
          exact Or.inl ⟨⟨h8, h11, h3, rfl, h100, h101, h102, h103, h9⟩, rfl, Or.inr (Or.inr (Or.inr ⟨c4, rfl⟩))⟩
        · rw [if_neg c4]
          have e1 : ∀ x : Nat → Int, x 8 = 0 → failS 1 x = upI (upI (upI x 8 1) 9 (x 5)) 4 0 := fun x hx => by unfold failS; rw [if_pos hx]
          rw [e1, kd_no (show ¬ sgn (U p.toNat) by omega)]
          · exact Or.inr ⟨(by decide : (1 : Int) ≠ 0), rfl, Or.inr ⟨h11, rfl, rfl, rfl⟩⟩
          · exact h8
/-! what stands there, alike -/
theorem R_ok {T : Nat → Int} {w : WW} {s m : Nat → Int} (h : Rk T w s m) (h1 : m 11 = 0) (h2 : m 9 ≠ 25) : Ok w s m ∧ s 5 = m 6 ∧ Kk T s m := by
  rcases h with h | ⟨h8, h4, hD⟩
  · exact h
  · exfalso; omega
theorem R_adv {T U : Nat → Int} (hT : Sb T U) {w : WW} {s m : Nat → Int} (h : Rk T w s m) (h1 : m 11 = 0) (h2 : m 9 ≠ 25) : Rk T w (advS T s) (nxM U m) := R_adv0 hT (R_ok h h1 h2).1
theorem R_num {T : Nat → Int} {w : WW} {s m : Nat → Int} (h : Rk T w s m) : s 4 = 2 ↔ (m 11 = 0 ∧ m 9 = 23) := by
  rcases h with ⟨⟨h8, h11, _⟩, _, hK⟩ | ⟨h8, h4, hD⟩
  · rcases hK with h | h | h | h
    · omega
    · have := h.2.2.1; omega
    · omega
    · rcases kd_in h.1 with q | q | q | q | q | q | q | q | q | q | q | q <;> omega
  · omega
theorem R_sgn {T : Nat → Int} {w : WW} {s m : Nat → Int} (h : Rk T w s m) {c k : Int} (hc : (c = 59 ∧ k = 30) ∨ (c = 58 ∧ k = 31) ∨ (c = 43 ∧ k = 32) ∨ (c = 45 ∧ k = 33) ∨ (c = 42 ∧ k = 34) ∨ (c = 40 ∧ k = 35) ∨ (c = 41 ∧ k = 36) ∨ (c = 91 ∧ k = 37) ∨ (c = 93 ∧ k = 38) ∨ (c = 61 ∧ k = 39) ∨ (c = 60 ∧ k = 40) ∨ (c = 62 ∧ k = 41)) : s 4 = c ↔ (m 11 = 0 ∧ m 9 = k) := by
  rcases h with ⟨⟨h8, h11, _⟩, _, hK⟩ | ⟨h8, h4, hD⟩
  · rcases hK with h | h | h | h
    · omega
    · have := h.2.2.1; have := h.2.1; have := h.1; omega
    · omega
    · have e := h.2
      rcases kd_in h.1 with q | q | q | q | q | q | q | q | q | q | q | q <;> omega
  · omega
theorem R_wd {T : Nat → Int} {w : WW} {s m : Nat → Int} (h : Rk T w s m) {q : Nat} (hq : q < 21) : wI T (cl q) s = 1 ↔ (m 11 = 0 ∧ m 9 = (q : Int)) := by
  rw [wI_wd]
  rcases h with ⟨⟨h8, h11, _⟩, _, hK⟩ | ⟨h8, h4, hD⟩
  · rcases hK with h | h | h | h
    · constructor
      · intro g; omega
      · intro g; omega
    · have k := h.2.2.2 q hq
      constructor
      · intro g; exact ⟨h11, k.mp g.2⟩
      · intro g; exact ⟨h.1, k.mpr g.2⟩
    · constructor
      · intro g; omega
      · intro g; omega
    · have e := h.2
      constructor
      · intro g; have := g.1; rcases h.1 with r | r | r | r | r | r | r | r | r | r | r | r <;> omega
      · intro g; have := g.2; rcases kd_in h.1 with r | r | r | r | r | r | r | r | r | r | r | r <;> omega
  · constructor
    · intro g; omega
    · intro g; omega

theorem failM_11 {k : Int} {m : Nat → Int} (hk : k ≠ 0) : failM k m 11 ≠ 0 := by
  unfold failM
  split
  · show (if m 9 = 25 then (1 : Int) else k) ≠ 0
    split
    · decide
    · exact hk
  · assumption
theorem failS_8 {k : Int} {s : Nat → Int} (hk : k ≠ 0) : failS k s 8 ≠ 0 := by
  unfold failS
  split
  · exact hk
  · assumption
theorem wI_0' {T : Nat → Int} {k : Nat} {s : Nat → Int} (h : s 4 ≠ 1) : wI T k s ≠ 1 := by
  unfold wI; rw [if_neg (fun q => h q.1)]; decide
