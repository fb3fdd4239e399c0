variable {tt : QQ}
/-! the class's reader as functions: a state is its numbers by their places (2 fed, 3 length, 4 kind, 5 start, 6 end, 7 number, 8 fault, 9 place); T is the tape -/
def upI (s : Nat → Int) (k : Nat) (v : Int) : Nat → Int := fun j => if j = k then v else s j
theorem upI_s {s : Nat → Int} {k : Nat} {v : Int} : upI s k v k = v := by unfold upI; rw [if_pos rfl]
theorem upI_n {s : Nat → Int} {k j : Nat} {v : Int} (h : j ≠ k) : upI s k v j = s j := by unfold upI; rw [if_neg h]
def aF (c : Nat) (ws : va_W) : Nat → Int := fun k => if k < 10 then (fI ws c k).toInt else 0
theorem aF_at {c k : Nat} {ws : va_W} {v : Int32} (hk : k < 10) (e : fI ws c k = v) : aF c ws k = v.toInt := by unfold aF; rw [if_pos hk, e]
theorem aF_up {c k : Nat} {v : Int32} {ws ws' : va_W} (hk : k < 10) (u : UdF c k v ws ws') : aF c ws' = upI (aF c ws) k v.toInt := by
  funext j
  by_cases e : j = k
  · subst e; rw [upI_s]; unfold aF; rw [if_pos hk, u.2.1]
  · rw [upI_n e]; unfold aF; rw [u.2.2 j e]
theorem aF_ur {c k : Nat} {ws ws' : va_W} (hk : ¬ k < 10) (u : UdR c k ws ws') : aF c ws' = aF c ws := by
  funext j
  unfold aF
  by_cases e : j < 10
  · rw [if_pos e, if_pos e, u.2 j (fun q => hk (q ▸ e))]
  · rw [if_neg e, if_neg e]
theorem aF_ud {c i : Nat} {ws ws' : va_W} (u : Ud i ws ws') (h : c ≠ i) : aF c ws' = aF c ws := by
  funext j; unfold aF; rw [fI_of (u c h)]
theorem aF_fr {S : Sp} {M : List Nat} {c κ : Nat} {ws ws' : va_W} (u : Fr S M ws ws') (hk : Kd S c κ) (hm : κ ∉ M) : aF c ws' = aF c ws := by
  funext j; unfold aF; rw [u.fI hk hm]
/-- the tape -/
def Tp (T : Nat → Int) (ws : va_W) : Prop := ∀ j, j < 900 → (aI ws 78 j).toInt = T j
theorem Tp.fr {T : Nat → Int} {S : Sp} {M : List Nat} {a b : va_W} (h : Tp T a) (u : Fr S M a b) (hk : Kd S 78 17) (hm : 17 ∉ M) : Tp T b := fun j hj => by rw [u.aI hk hm]; exact h j hj
abbrev isSm (c : Int) : Prop := 97 ≤ c ∧ c ≤ 122
abbrev isDg (c : Int) : Prop := 48 ≤ c ∧ c ≤ 57
def failS (k : Int) (s : Nat → Int) : Nat → Int := if s 8 = 0 then upI (upI (upI s 8 k) 9 (s 5)) 4 0 else upI s 4 0
theorem upI_up {s : Nat → Int} {k : Nat} {v w : Int} : upI (upI s k v) k w = upI s k w := by
  funext j; unfold upI; split <;> rfl
theorem upI_id {s : Nat → Int} {k : Nat} {v : Int} (h : s k = v) : upI s k v = s := by
  funext j; unfold upI; split
  · rename_i e; rw [e, h]
  · rfl
theorem upI_76 {s : Nat → Int} {a b c d : Int} : upI (upI (upI (upI s 7 a) 6 b) 7 c) 6 d = upI (upI s 7 c) 6 d := by
  funext j; unfold upI; split
  · rfl
  · split
    · rfl
    · rfl
/-- past blanks and line ends -/
def skP (T : Nat → Int) (n : Int) : Nat → Int → Int
  | 0, p => p
  | k + 1, p => if p < n ∧ (T p.toNat = 32 ∨ T p.toNat = 10) then skP T n k (p + 1) else p
def skip (T : Nat → Int) (n p : Int) : Int := skP T n (901 - p).toNat p
theorem skip_s {T : Nat → Int} {n p q : Int} (hp : p ≤ 900) (hq : q = p + 1) (c : p < n ∧ (T p.toNat = 32 ∨ T p.toNat = 10)) : skip T n q = skip T n p := by
  subst hq
  unfold skip
  have e : (901 - p).toNat = (901 - (p + 1)).toNat + 1 := by omega
  rw [e]
  conv => rhs; unfold skP
  rw [if_pos c]
theorem skip_e {T : Nat → Int} {n p : Int} (hp : p ≤ 900) (c : ¬ (p < n ∧ (T p.toNat = 32 ∨ T p.toNat = 10))) : skip T n p = p := by
  unfold skip
  have e : (901 - p).toNat = (900 - p).toNat + 1 := by omega
  rw [e]
  unfold skP
  rw [if_neg c]
/-- to the end of a run of signs from lo to hi -/
def rnP (T : Nat → Int) (n lo hi : Int) : Nat → Int → Int
  | 0, p => p
  | k + 1, p => if p < n ∧ (lo ≤ T p.toNat ∧ T p.toNat ≤ hi) then rnP T n lo hi k (p + 1) else p
def run (T : Nat → Int) (n lo hi p : Int) : Int := rnP T n lo hi (901 - p).toNat p
theorem run_s {T : Nat → Int} {n lo hi p q : Int} (hp : p ≤ 900) (hq : q = p + 1) (c : p < n ∧ (lo ≤ T p.toNat ∧ T p.toNat ≤ hi)) : run T n lo hi q = run T n lo hi p := by
  subst hq
  unfold run
  have e : (901 - p).toNat = (901 - (p + 1)).toNat + 1 := by omega
  rw [e]
  conv => rhs; unfold rnP
  rw [if_pos c]
theorem run_e {T : Nat → Int} {n lo hi p : Int} (hp : p ≤ 900) (c : ¬ (p < n ∧ (lo ≤ T p.toNat ∧ T p.toNat ≤ hi))) : run T n lo hi p = p := by
  unfold run
  have e : (901 - p).toNat = (900 - p).toNat + 1 := by omega
  rw [e]
  unfold rnP
  rw [if_neg c]
/-- the number of a run of digits, as the machine reckons it -/
def nxt (v t : Int) : Int := (Int32.ofInt v * 10 + Int32.ofInt t - 48).toInt
def nuP (T : Nat → Int) (n : Int) : Nat → Int → Int → Int
  | 0, _, v => v
  | k + 1, p, v => if p < n ∧ (48 ≤ T p.toNat ∧ T p.toNat ≤ 57) then nuP T n k (p + 1) (nxt v (T p.toNat)) else v
def num (T : Nat → Int) (n p v : Int) : Int := nuP T n (901 - p).toNat p v
theorem num_st {T : Nat → Int} {n p q v w : Int} (hp : p ≤ 900) (hq : q = p + 1) (hw : w = nxt v (T p.toNat)) (c : p < n ∧ (48 ≤ T p.toNat ∧ T p.toNat ≤ 57)) : num T n q w = num T n p v := by
  subst hq; subst hw
  unfold num
  have e : (901 - p).toNat = (901 - (p + 1)).toNat + 1 := by omega
  rw [e]
  conv => rhs; unfold nuP
  rw [if_pos c]
theorem numR_e {T : Nat → Int} {n p v : Int} (hp : p ≤ 900) (c : ¬ (p < n ∧ (48 ≤ T p.toNat ∧ T p.toNat ≤ 57))) : num T n p v = v := by
  unfold num
  have e : (901 - p).toNat = (900 - p).toNat + 1 := by omega
  rw [e]
  unfold nuP
  rw [if_neg c]
abbrev sgn (c : Int) : Prop := c = 59 ∨ c = 58 ∨ c = 43 ∨ c = 45 ∨ c = 42 ∨ c = 40 ∨ c = 41 ∨ c = 91 ∨ c = 93 ∨ c = 61 ∨ c = 60 ∨ c = 62
def advN (d : Int) (s : Nat → Int) : Nat → Int := if 3 < d then failS 1 s else s
def advT (T : Nat → Int) (n p : Int) (s : Nat → Int) : Nat → Int :=
  if n ≤ p then upI (upI (upI s 5 p) 6 p) 4 0
  else if isSm (T p.toNat) then upI (upI (upI (upI s 5 p) 6 p) 4 1) 6 (run T n 97 122 p)
  else if isDg (T p.toNat) then advN (run T n 48 57 p - p) (upI (upI (upI (upI (upI (upI s 5 p) 6 p) 4 2) 7 0) 7 (num T n p 0)) 6 (run T n 48 57 p))
  else if sgn (T p.toNat) then upI (upI (upI (upI s 5 p) 6 p) 4 (T p.toNat)) 6 (p + 1)
  else failS 1 (upI (upI s 5 p) 6 p)
def advS (T : Nat → Int) (s : Nat → Int) : Nat → Int := if s 8 = 0 then advT T (s 3) (skip T (s 3) (s 6)) s else s
theorem by_id {x : Int32} (h0 : -128 ≤ x.toInt) (h1 : x.toInt ≤ 127) : x.toInt8.toInt32.toInt = x.toInt := by
  rw [Int8.toInt_toInt32, Int32.toInt_toInt8]
  exact Int.bmod_eq_of_le_mul_two (by omega) (by omega)
theorem ch_id {x : Int32} (h0 : 0 ≤ x.toInt) (h1 : x.toInt ≤ 65535) : ((x.toUInt32 % 65536).toInt32).toInt = x.toInt := by
  have e : x.toBitVec.toNat = x.toInt.toNat := by
    have q : x.toInt = x.toBitVec.toInt := rfl
    rw [q] at h0 ⊢
    rw [BitVec.toInt_eq_toNat_cond] at h0 ⊢
    split at h0
    · rename_i c; rw [if_pos c]; omega
    · have := x.toBitVec.isLt; omega
  rw [pk_char, nI_toInt (by omega), e]
  omega
section EX
variable {p : Program} {l : Launch} {e : Env} {R : Room} {s : State} {m : MethodId} {args : Array Value} {below : List Frame} {meth : Method} {c : Code} {H : Heap} {locs : List Loc} {cells slots : Nat} {Q : State → Prop}
variable {cc : ByteArray} {pc nL : Nat} {ls : Array Slot} {rest : List Value} {own : String} {ret : Option FieldType} {x : Int32}
theorem y_i2bE (C0 : Cx p s m args meth c own cc nL ret) (h0 : -128 ≤ x.toInt) (h1 : x.toInt ≤ 127) (hdg : decode cc pc = .ok (.i2b, 1)) (kk : ∀ z : Int32, z.toInt = x.toInt → W p l e R s m args below meth c H locs cells slots Q (F0 m (pc + 1) ls (.int z :: rest))) : W p l e R s m args below meth c H locs cells slots Q (F0 m pc ls (.int x :: rest)) := lv_i2b C0.1 C0.2.1 hdg rfl (kk _ (by_id h0 h1))
theorem y_i2cE (C0 : Cx p s m args meth c own cc nL ret) (h0 : 0 ≤ x.toInt) (h1 : x.toInt ≤ 65535) (hdg : decode cc pc = .ok (.i2c, 1)) (kk : ∀ z : Int32, z.toInt = x.toInt → W p l e R s m args below meth c H locs cells slots Q (F0 m (pc + 1) ls (.int z :: rest))) : W p l e R s m args below meth c H locs cells slots Q (F0 m pc ls (.int x :: rest)) := lv_i2c C0.1 C0.2.1 hdg rfl (kk _ (ch_id h0 h1))
end EX
theorem nxt_of {v t z1 z2 z3 a b : Int32} (h1 : z1 = v * a) (ha : a.toInt = 10) (h2 : z2 = z1 + t) (h3 : z3 = z2 - b) (hb : b.toInt = 48) : z3.toInt = nxt v.toInt t.toInt := by
  obtain rfl : a = 10 := Int32.toInt_inj.mp ha
  obtain rfl : b = 48 := Int32.toInt_inj.mp hb
  subst h1; subst h2; subst h3
  unfold nxt
  rw [Int32.ofInt_toInt, Int32.ofInt_toInt]
theorem upI_id2 {s : Nat → Int} {a b : Int} (h7 : s 7 = a) (h6 : s 6 = b) : upI (upI s 7 a) 6 b = s := by
  rw [upI_id h7, upI_id h6]
theorem ix_sgn {r c : Int} (h : (0 ≤ r ∧ ∃ j : Nat, j < strLen.getD 0 0 ∧ (chB 0 j).toInt = c) ∨ (r = -1 ∧ ∀ j : Nat, j < strLen.getD 0 0 → (chB 0 j).toInt ≠ c)) : (0 ≤ r ∧ sgn c) ∨ (r = -1 ∧ ¬ sgn c) := by
  have k : ∀ j : Nat, j < 12 → sgn (chB 0 j).toInt := by decide +kernel
  have k2 : ∀ c : Int, sgn c → ∃ j : Nat, j < 12 ∧ (chB 0 j).toInt = c := by
    intro c hc
    rcases hc with rfl | rfl | rfl | rfl | rfl | rfl | rfl | rfl | rfl | rfl | rfl | rfl
    · exact ⟨0, by decide, by decide +kernel⟩
    · exact ⟨1, by decide, by decide +kernel⟩
    · exact ⟨2, by decide, by decide +kernel⟩
    · exact ⟨3, by decide, by decide +kernel⟩
    · exact ⟨4, by decide, by decide +kernel⟩
    · exact ⟨5, by decide, by decide +kernel⟩
    · exact ⟨6, by decide, by decide +kernel⟩
    · exact ⟨7, by decide, by decide +kernel⟩
    · exact ⟨8, by decide, by decide +kernel⟩
    · exact ⟨9, by decide, by decide +kernel⟩
    · exact ⟨10, by decide, by decide +kernel⟩
    · exact ⟨11, by decide, by decide +kernel⟩
  have e : strLen.getD 0 0 = 12 := by decide +kernel
  rw [e] at h
  rcases h with ⟨h1, j, h2, h3⟩ | ⟨h1, h2⟩
  · exact Or.inl ⟨h1, h3 ▸ k j h2⟩
  · refine Or.inr ⟨h1, fun hc => ?_⟩
    obtain ⟨j, h3, h4⟩ := k2 c hc
    exact h2 j h3 h4
/-! words -/
def isW (T : Nat → Int) (k : Nat) (s : Nat → Int) : Prop := s 4 = 1 ∧ s 6 - s 5 = ((strLen.getD k 0 : Nat) : Int) ∧ ∀ i : Nat, i < strLen.getD k 0 → T (s 5 + i).toNat = (chB k i).toInt
def isWd (T : Nat → Int) (k : Nat) (s : Nat → Int) : Decidable (isW T k s) := by unfold isW; infer_instance
def wI (T : Nat → Int) (k : Nat) (s : Nat → Int) : Int := @ite Int (isW T k s) (isWd T k s) 1 0
theorem wI_1 {T : Nat → Int} {k : Nat} {s : Nat → Int} {r : Int} (hr : r = 1) (h : isW T k s) : r = wI T k s := by unfold wI; rw [if_pos h]; exact hr
theorem wI_0 {T : Nat → Int} {k : Nat} {s : Nat → Int} {r : Int} (hr : r = 0) (h : ¬ isW T k s) : r = wI T k s := by unfold wI; rw [if_neg h]; exact hr
theorem chB_all : strByt.all (fun l => l.all (fun c => decide (0 ≤ c.toInt ∧ c.toInt ≤ 127))) = true := by decide +kernel
theorem chB_bd (k j : Nat) : 0 ≤ (chB k j).toInt ∧ (chB k j).toInt ≤ 127 := by
  have h := List.all_eq_true.mp chB_all
  have hz : 0 ≤ (0 : Int32).toInt ∧ (0 : Int32).toInt ≤ 127 := by decide
  have g : ∀ l : List Int32, (l.all (fun c => decide (0 ≤ c.toInt ∧ c.toInt ≤ 127)) = true) → 0 ≤ (l.getD j 0).toInt ∧ (l.getD j 0).toInt ≤ 127 := fun l hl => by
    rw [List.getD_eq_getElem?_getD]
    cases e : l[j]? with
    | none => exact hz
    | some c => exact of_decide_eq_true (List.all_eq_true.mp hl c (List.mem_of_getElem? e))
  unfold chB
  have e2 : strByt.getD k [] = (strByt[k]?).getD [] := List.getD_eq_getElem?_getD ..
  rw [e2]
  cases e : strByt[k]? with
  | none => exact g [] rfl
  | some l => exact g l (h l (List.mem_of_getElem? e))
theorem and255 {x z m : Int32} (h : z = x &&& m) (hm : m.toInt = 255) (h0 : 0 ≤ x.toInt) (h1 : x.toInt ≤ 255) : z.toInt = x.toInt := by
  obtain rfl : m = 255 := Int32.toInt_inj.mp hm
  obtain ⟨e, hb⟩ := nI_int (n := 256) h0 (by omega)
  subst h
  rw [e]
  generalize x.toInt.toNat = k at hb
  exact (by decide +kernel : ∀ k, k < 256 → ((nI k) &&& 255).toInt = (nI k).toInt) k hb
theorem ch_of {v z m r : Int32} {k j : Nat} (hv : v = chB k j) (hz : z = v &&& m) (hm : m.toInt = 255) (hr : r.toInt = z.toInt) : r.toInt = (chB k j).toInt := by
  have b := chB_bd k j
  subst hv
  rw [hr, and255 hz hm b.1 (by omega)]
theorem o61_1 {x0 : Int} (h0 : 1 ≤ x0) (h1 : x0 ≤ 127) (h2 : x0 < 0) : False := by omega
theorem o61_2 {x0 x1 : Int} (h0 : 1 ≤ x0) (h1 : x0 ≤ 127) (h2 : 0 ≤ x0) (h3 : x1 = 255) (h4 : x1 < x0) : False := by omega
theorem o61_3 {x0 : Int} (h0 : x0 = 1) : 1 ≤ x0 := by omega
theorem o61_4 {x0 : Int} (h0 : x0 = 1) : x0 ≤ 1 := by omega
theorem o61_5 {x0 : Int} (h0 : x0 = 1) : 0 ≤ x0 := by omega
theorem o61_6 {x0 : Int} (h0 : 1 ≤ x0) (h1 : x0 ≤ 127) : -128 ≤ x0 := by omega
theorem o61_7 {x0 : Int} (h0 : 1 ≤ x0) (h1 : x0 ≤ 127) : x0 ≤ 127 := by omega
theorem o61_8 {x0 : Int} (h0 : 0 ≤ x0) (h1 : x0 ≤ 102) (h2 : 102 - x0 < 0) : False := by omega
theorem o61_9 {x0 : Int} (h0 : x0 = (-1)) : (-1) ≤ x0 := by omega
theorem o61_10 {x0 : Int} (h0 : x0 = (-1)) : x0 ≤ 102 := by omega
theorem o61_11 {x0 : Int} (h0 : x0 = (-1)) : x0 = -1 := by omega
theorem o61_12 {x0 x2 : Int} {x1 x3 : Nat} (h0 : strLen.getD x1 0 ≤ 102) (h1 : 0 ≤ x2) (h2 : x2 ≤ 102) (h3 : x2 ≤ ((strLen.getD x1 0 : Nat) : Int)) (h4 : 0 ≤ x0) (h5 : x0 ≤ 102) (h6 : 102 - x0 < ((x3 + 1 : Nat) : Int)) (h7 : x0 < x2) : 0 ≤ x0 := by omega
theorem o61_13 {x0 x2 : Int} {x1 x3 : Nat} (h0 : strLen.getD x1 0 ≤ 102) (h1 : 0 ≤ x2) (h2 : x2 ≤ 102) (h3 : x2 ≤ ((strLen.getD x1 0 : Nat) : Int)) (h4 : 0 ≤ x0) (h5 : x0 ≤ 102) (h6 : 102 - x0 < ((x3 + 1 : Nat) : Int)) (h7 : x0 < x2) : x0 < ((strLen.getD x1 0 : Nat) : Int) := by omega
theorem o61_14 {x0 x2 : Int} {x1 x3 : Nat} (h0 : strLen.getD x1 0 ≤ 102) (h1 : 0 ≤ x2) (h2 : x2 ≤ 102) (h3 : x2 ≤ ((strLen.getD x1 0 : Nat) : Int)) (h4 : 0 ≤ x0) (h5 : x0 ≤ 102) (h6 : 102 - x0 < ((x3 + 1 : Nat) : Int)) (h7 : x0 < x2) (h8 : -2147483648 ≤ x0) (h9 : x0 ≤ 2147483647) (h10 : -2147483648 ≤ x2) (h11 : x2 ≤ 2147483647) : -2147483648 ≤ x0 + 1 := by omega
theorem o61_15 {x0 x2 : Int} {x1 x3 : Nat} (h0 : strLen.getD x1 0 ≤ 102) (h1 : 0 ≤ x2) (h2 : x2 ≤ 102) (h3 : x2 ≤ ((strLen.getD x1 0 : Nat) : Int)) (h4 : 0 ≤ x0) (h5 : x0 ≤ 102) (h6 : 102 - x0 < ((x3 + 1 : Nat) : Int)) (h7 : x0 < x2) (h8 : -2147483648 ≤ x0) (h9 : x0 ≤ 2147483647) (h10 : -2147483648 ≤ x2) (h11 : x2 ≤ 2147483647) : x0 + 1 ≤ 2147483647 := by omega
theorem o61_16 {x0 x3 x4 : Int} {x1 x2 : Nat} (h0 : strLen.getD x2 0 ≤ 102) (h1 : 0 ≤ x3) (h2 : x3 ≤ 102) (h3 : x3 ≤ ((strLen.getD x2 0 : Nat) : Int)) (h4 : 0 ≤ x4) (h5 : x4 ≤ 102) (h6 : 102 - x4 < ((x1 + 1 : Nat) : Int)) (h7 : x4 < x3) (h8 : x0 = x4 + 1) : 102 - x0 < (x1 : Int) := by omega
theorem o61_17 {x0 x2 x3 : Int} {x1 x4 : Nat} (h0 : strLen.getD x1 0 ≤ 102) (h1 : 0 ≤ x2) (h2 : x2 ≤ 102) (h3 : x2 ≤ ((strLen.getD x1 0 : Nat) : Int)) (h4 : 0 ≤ x3) (h5 : x3 ≤ 102) (h6 : 102 - x3 < ((x4 + 1 : Nat) : Int)) (h7 : x3 < x2) (h8 : x0 = x3 + 1) : 0 ≤ x0 := by omega
theorem o61_18 {x0 x2 x3 : Int} {x1 x4 : Nat} (h0 : strLen.getD x1 0 ≤ 102) (h1 : 0 ≤ x2) (h2 : x2 ≤ 102) (h3 : x2 ≤ ((strLen.getD x1 0 : Nat) : Int)) (h4 : 0 ≤ x3) (h5 : x3 ≤ 102) (h6 : 102 - x3 < ((x4 + 1 : Nat) : Int)) (h7 : x3 < x2) (h8 : x0 = x3 + 1) : x0 ≤ 102 := by omega
theorem o61_19 {x0 x2 : Int} {x1 x3 : Nat} (h0 : strLen.getD x1 0 ≤ 102) (h1 : 0 ≤ x2) (h2 : x2 ≤ 102) (h3 : x2 ≤ ((strLen.getD x1 0 : Nat) : Int)) (h4 : 0 ≤ x0) (h5 : x0 ≤ 102) (h6 : 102 - x0 < ((x3 + 1 : Nat) : Int)) (h7 : x0 < x2) : (-1) ≤ x0 := by omega
theorem o61_20 {x0 x2 : Int} {x1 x3 : Nat} (h0 : strLen.getD x1 0 ≤ 102) (h1 : 0 ≤ x2) (h2 : x2 ≤ 102) (h3 : x2 ≤ ((strLen.getD x1 0 : Nat) : Int)) (h4 : 0 ≤ x0) (h5 : x0 ≤ 102) (h6 : 102 - x0 < ((x3 + 1 : Nat) : Int)) (h7 : x0 < x2) : x0 ≤ 102 := by omega
theorem o61_21 {x0 : Int} (h0 : 0 ≤ x0) (h1 : x0 ≤ 0) : 102 - x0 < (((102 - x0 + 1).toNat : Nat) : Int) := by omega
theorem o61_22 {x0 : Int} (h0 : 0 ≤ x0) (h1 : x0 ≤ 0) : 0 ≤ x0 := by omega
theorem o61_23 {x0 : Int} (h0 : 0 ≤ x0) (h1 : x0 ≤ 0) : x0 ≤ 102 := by omega
theorem o61_24 {x0 : Int} (h0 : 1 ≤ x0) (h1 : x0 ≤ 127) : 1 ≤ x0 := by omega
theorem o61_25 {x0 : Int} (h0 : 1 ≤ x0) (h1 : x0 ≤ 1) (h2 : x0 = 0) : False := by omega
theorem o61_26 {x0 x2 x3 x4 x5 x6 : Int} {x1 : Nat} (h0 : strLen.getD x1 0 ≤ 102) (h1 : 0 ≤ x2) (h2 : x2 ≤ 0) (h3 : 0 ≤ x3) (h4 : x3 ≤ 102) (h5 : x3 = ((strLen.getD x1 0 : Nat) : Int)) (h6 : x4 = 0) (h7 : (x0 = x2 ∧ x4 ≤ x2) ∨ (x0 = x4 ∧ x2 ≤ x4)) (h8 : x5 = ((strLen.getD x1 0 : Nat) : Int)) (h9 : (x6 = x3 ∧ x3 ≤ x5) ∨ (x6 = x5 ∧ x5 ≤ x3)) (h10 : x0 < x6) : 0 ≤ x0 := by omega
theorem o61_27 {x0 x2 x3 x4 x5 x6 : Int} {x1 : Nat} (h0 : strLen.getD x1 0 ≤ 102) (h1 : 0 ≤ x2) (h2 : x2 ≤ 0) (h3 : 0 ≤ x3) (h4 : x3 ≤ 102) (h5 : x3 = ((strLen.getD x1 0 : Nat) : Int)) (h6 : x4 = 0) (h7 : (x0 = x2 ∧ x4 ≤ x2) ∨ (x0 = x4 ∧ x2 ≤ x4)) (h8 : x5 = ((strLen.getD x1 0 : Nat) : Int)) (h9 : (x6 = x3 ∧ x3 ≤ x5) ∨ (x6 = x5 ∧ x5 ≤ x3)) (h10 : x0 < x6) : x0 ≤ 0 := by omega
theorem o61_28 {x0 x2 x3 x4 x5 x6 : Int} {x1 : Nat} (h0 : strLen.getD x1 0 ≤ 102) (h1 : 0 ≤ x2) (h2 : x2 ≤ 0) (h3 : 0 ≤ x3) (h4 : x3 ≤ 102) (h5 : x3 = ((strLen.getD x1 0 : Nat) : Int)) (h6 : x4 = 0) (h7 : (x5 = x2 ∧ x4 ≤ x2) ∨ (x5 = x4 ∧ x2 ≤ x4)) (h8 : x6 = ((strLen.getD x1 0 : Nat) : Int)) (h9 : (x0 = x3 ∧ x3 ≤ x6) ∨ (x0 = x6 ∧ x6 ≤ x3)) (h10 : x5 < x0) : 0 ≤ x0 := by omega
theorem o61_29 {x0 x2 x3 x4 x5 x6 : Int} {x1 : Nat} (h0 : strLen.getD x1 0 ≤ 102) (h1 : 0 ≤ x2) (h2 : x2 ≤ 0) (h3 : 0 ≤ x3) (h4 : x3 ≤ 102) (h5 : x3 = ((strLen.getD x1 0 : Nat) : Int)) (h6 : x4 = 0) (h7 : (x5 = x2 ∧ x4 ≤ x2) ∨ (x5 = x4 ∧ x2 ≤ x4)) (h8 : x6 = ((strLen.getD x1 0 : Nat) : Int)) (h9 : (x0 = x3 ∧ x3 ≤ x6) ∨ (x0 = x6 ∧ x6 ≤ x3)) (h10 : x5 < x0) : x0 ≤ 102 := by omega
theorem o61_30 {x0 x2 x3 x4 x5 x6 : Int} {x1 : Nat} (h0 : strLen.getD x1 0 ≤ 102) (h1 : 0 ≤ x2) (h2 : x2 ≤ 0) (h3 : 0 ≤ x3) (h4 : x3 ≤ 102) (h5 : x3 = ((strLen.getD x1 0 : Nat) : Int)) (h6 : x4 = 0) (h7 : (x5 = x2 ∧ x4 ≤ x2) ∨ (x5 = x4 ∧ x2 ≤ x4)) (h8 : x6 = ((strLen.getD x1 0 : Nat) : Int)) (h9 : (x0 = x3 ∧ x3 ≤ x6) ∨ (x0 = x6 ∧ x6 ≤ x3)) (h10 : x5 < x0) : x0 ≤ ((strLen.getD x1 0 : Nat) : Int) := by omega
theorem o61_31 {x0 : Int} (h0 : (-1) ≤ x0) (h1 : x0 ≤ 102) : (-1) ≤ x0 := by omega
theorem o61_32 {x0 : Int} (h0 : (-1) ≤ x0) (h1 : x0 ≤ 102) : x0 ≤ 102 := by omega
theorem o61_33 {x0 : Int} (h0 : 0 ≤ x0) (h1 : x0 ≤ 0) : x0 ≤ 0 := by omega
theorem o61_34 {x0 : Int} {x1 : Nat} (h0 : strLen.getD x1 0 ≤ 102) (h1 : 0 ≤ x0) (h2 : x0 ≤ 102) (h3 : x0 = ((strLen.getD x1 0 : Nat) : Int)) : 0 ≤ x0 := by omega
theorem o61_35 {x0 : Int} {x1 : Nat} (h0 : strLen.getD x1 0 ≤ 102) (h1 : 0 ≤ x0) (h2 : x0 ≤ 102) (h3 : x0 = ((strLen.getD x1 0 : Nat) : Int)) : x0 ≤ 102 := by omega
theorem o61_36 {x0 : Int} {x1 : Nat} (h0 : strLen.getD x1 0 ≤ 102) (h1 : 0 ≤ x0) (h2 : x0 ≤ 102) (h3 : x0 = ((strLen.getD x1 0 : Nat) : Int)) : x0 = ((strLen.getD x1 0 : Nat) : Int) := by omega
theorem o61_37 {x0 : Int} (h0 : x0 = 0) : 0 ≤ x0 := by omega
theorem o61_38 {x0 : Int} (h0 : x0 = 0) : x0 ≤ 0 := by omega
theorem o61_39 {x0 : Int} (h0 : x0 = 0) : x0 = 0 := by omega
theorem o61_40 {x0 : Int} (h0 : 0 ≤ x0) (h1 : x0 ≤ 899) : 0 ≤ x0 := by omega
theorem o61_41 {x0 : Int} (h0 : 0 ≤ x0) (h1 : x0 ≤ 899) : x0 < (900 : Nat) := by omega
theorem o61_42 {x0 : Int} (h0 : x0 = 0) : x0 ≤ 1 := by omega
theorem o61_43 {x0 : Int} (h0 : 0 ≤ x0) (h1 : x0 ≤ 899) : (x0).toNat < 900 := by omega
theorem o61_44 {x0 : Int} (h0 : 0 ≤ x0) (h1 : x0 ≤ 900) : 0 ≤ x0 := by omega
theorem o61_45 {x0 : Int} (h0 : 0 ≤ x0) (h1 : x0 ≤ 900) : x0 ≤ 900 := by omega
theorem o61_46 {x0 : Int} (h0 : 0 ≤ x0) (h1 : x0 ≤ 900) (h2 : 900 - x0 < 0) : False := by omega
theorem o61_47 {x0 x1 x3 x4 : Int} {x2 : Nat} (h0 : 0 ≤ x1) (h1 : x1 ≤ 900) (h2 : 900 - x1 < ((x2 + 1 : Nat) : Int)) (h3 : 0 ≤ x3) (h4 : x3 ≤ 900) (h5 : x3 = x1) (h6 : 0 ≤ x4) (h7 : x4 ≤ 900) (h8 : x4 ≤ x3) (h9 : 0 ≤ x0) (h10 : x0 ≤ 900) (h11 : x0 = x1) : 0 ≤ x0 := by omega
theorem o61_48 {x0 x1 x3 x4 : Int} {x2 : Nat} (h0 : 0 ≤ x1) (h1 : x1 ≤ 900) (h2 : 900 - x1 < ((x2 + 1 : Nat) : Int)) (h3 : 0 ≤ x3) (h4 : x3 ≤ 900) (h5 : x3 = x1) (h6 : 0 ≤ x4) (h7 : x4 ≤ 900) (h8 : x4 ≤ x3) (h9 : 0 ≤ x0) (h10 : x0 ≤ 900) (h11 : x0 = x1) : x0 ≤ 900 := by omega
theorem o61_49 {x0 x1 x3 x4 x5 x6 x7 : Int} {x2 : Nat} (h0 : 0 ≤ x1) (h1 : x1 ≤ 900) (h2 : 900 - x1 < ((x2 + 1 : Nat) : Int)) (h3 : 0 ≤ x3) (h4 : x3 ≤ 900) (h5 : x3 = x1) (h6 : 0 ≤ x4) (h7 : x4 ≤ 900) (h8 : x4 ≤ x3) (h9 : 0 ≤ x5) (h10 : x5 ≤ 900) (h11 : x5 = x1) (h12 : 0 ≤ x6) (h13 : x6 ≤ 900) (h14 : x6 = x1) (h15 : 0 ≤ x7) (h16 : x7 ≤ 900) (h17 : x7 = x4) (h18 : x6 < x7) (h19 : 0 ≤ x0) (h20 : x0 ≤ 900) (h21 : x0 = x1) : 0 ≤ x0 := by omega
theorem o61_50 {x0 x1 x3 x4 x5 x6 x7 : Int} {x2 : Nat} (h0 : 0 ≤ x1) (h1 : x1 ≤ 900) (h2 : 900 - x1 < ((x2 + 1 : Nat) : Int)) (h3 : 0 ≤ x3) (h4 : x3 ≤ 900) (h5 : x3 = x1) (h6 : 0 ≤ x4) (h7 : x4 ≤ 900) (h8 : x4 ≤ x3) (h9 : 0 ≤ x5) (h10 : x5 ≤ 900) (h11 : x5 = x1) (h12 : 0 ≤ x6) (h13 : x6 ≤ 900) (h14 : x6 = x1) (h15 : 0 ≤ x7) (h16 : x7 ≤ 900) (h17 : x7 = x4) (h18 : x6 < x7) (h19 : 0 ≤ x0) (h20 : x0 ≤ 900) (h21 : x0 = x1) : x0 ≤ 899 := by omega
theorem o61_51 {x0 x1 x3 x4 x5 x6 x7 x8 : Int} {x2 : Nat} (h0 : 0 ≤ x1) (h1 : x1 ≤ 900) (h2 : 900 - x1 < ((x2 + 1 : Nat) : Int)) (h3 : 0 ≤ x3) (h4 : x3 ≤ 900) (h5 : x3 = x1) (h6 : 0 ≤ x4) (h7 : x4 ≤ 900) (h8 : x4 ≤ x3) (h9 : 0 ≤ x5) (h10 : x5 ≤ 900) (h11 : x5 = x1) (h12 : 0 ≤ x6) (h13 : x6 ≤ 900) (h14 : x6 = x1) (h15 : 0 ≤ x7) (h16 : x7 ≤ 900) (h17 : x7 = x4) (h18 : x6 < x7) (h19 : 0 ≤ x8) (h20 : x8 ≤ 900) (h21 : x8 = x1) (h22 : 0 ≤ x0) (h23 : x0 ≤ 900) (h24 : x0 = x1) : 0 ≤ x0 := by omega
theorem o61_52 {x0 x1 x3 x4 x5 x6 x7 x8 : Int} {x2 : Nat} (h0 : 0 ≤ x1) (h1 : x1 ≤ 900) (h2 : 900 - x1 < ((x2 + 1 : Nat) : Int)) (h3 : 0 ≤ x3) (h4 : x3 ≤ 900) (h5 : x3 = x1) (h6 : 0 ≤ x4) (h7 : x4 ≤ 900) (h8 : x4 ≤ x3) (h9 : 0 ≤ x5) (h10 : x5 ≤ 900) (h11 : x5 = x1) (h12 : 0 ≤ x6) (h13 : x6 ≤ 900) (h14 : x6 = x1) (h15 : 0 ≤ x7) (h16 : x7 ≤ 900) (h17 : x7 = x4) (h18 : x6 < x7) (h19 : 0 ≤ x8) (h20 : x8 ≤ 900) (h21 : x8 = x1) (h22 : 0 ≤ x0) (h23 : x0 ≤ 900) (h24 : x0 = x1) : x0 ≤ 899 := by omega
theorem o61_53 {x0 x1 x3 x4 x5 x6 x7 x8 x9 : Int} {x2 : Nat} (h0 : 0 ≤ x1) (h1 : x1 ≤ 900) (h2 : 900 - x1 < ((x2 + 1 : Nat) : Int)) (h3 : 0 ≤ x3) (h4 : x3 ≤ 900) (h5 : x3 = x1) (h6 : 0 ≤ x4) (h7 : x4 ≤ 900) (h8 : x4 ≤ x3) (h9 : 0 ≤ x5) (h10 : x5 ≤ 900) (h11 : x5 = x1) (h12 : 0 ≤ x6) (h13 : x6 ≤ 900) (h14 : x6 = x1) (h15 : 0 ≤ x7) (h16 : x7 ≤ 900) (h17 : x7 = x4) (h18 : x6 < x7) (h19 : 0 ≤ x8) (h20 : x8 ≤ 900) (h21 : x8 = x1) (h22 : 0 ≤ x9) (h23 : x9 ≤ 900) (h24 : x9 = x1) (h25 : 0 ≤ x0) (h26 : x0 ≤ 900) (h27 : x0 = x1) : 0 ≤ x0 := by omega
theorem o61_54 {x0 x1 x3 x4 x5 x6 x7 x8 x9 : Int} {x2 : Nat} (h0 : 0 ≤ x1) (h1 : x1 ≤ 900) (h2 : 900 - x1 < ((x2 + 1 : Nat) : Int)) (h3 : 0 ≤ x3) (h4 : x3 ≤ 900) (h5 : x3 = x1) (h6 : 0 ≤ x4) (h7 : x4 ≤ 900) (h8 : x4 ≤ x3) (h9 : 0 ≤ x5) (h10 : x5 ≤ 900) (h11 : x5 = x1) (h12 : 0 ≤ x6) (h13 : x6 ≤ 900) (h14 : x6 = x1) (h15 : 0 ≤ x7) (h16 : x7 ≤ 900) (h17 : x7 = x4) (h18 : x6 < x7) (h19 : 0 ≤ x8) (h20 : x8 ≤ 900) (h21 : x8 = x1) (h22 : 0 ≤ x9) (h23 : x9 ≤ 900) (h24 : x9 = x1) (h25 : 0 ≤ x0) (h26 : x0 ≤ 900) (h27 : x0 = x1) : x0 < (900 : Nat) := by omega
theorem o61_55 {x0 x1 x3 x4 x5 x6 x7 x8 x9 : Int} {x2 : Nat} (h0 : 0 ≤ x1) (h1 : x1 ≤ 900) (h2 : 900 - x1 < ((x2 + 1 : Nat) : Int)) (h3 : 0 ≤ x3) (h4 : x3 ≤ 900) (h5 : x3 = x1) (h6 : 0 ≤ x4) (h7 : x4 ≤ 900) (h8 : x4 ≤ x3) (h9 : 0 ≤ x5) (h10 : x5 ≤ 900) (h11 : x5 = x1) (h12 : 0 ≤ x6) (h13 : x6 ≤ 900) (h14 : x6 = x1) (h15 : 0 ≤ x7) (h16 : x7 ≤ 900) (h17 : x7 = x4) (h18 : x6 < x7) (h19 : 0 ≤ x8) (h20 : x8 ≤ 900) (h21 : x8 = x1) (h22 : 0 ≤ x9) (h23 : x9 ≤ 900) (h24 : x9 = x1) (h25 : 0 ≤ x0) (h26 : x0 ≤ 900) (h27 : x0 = x1) : (x0).toNat < 900 := by omega
theorem o61_56 {x0 : Int} (h0 : x0 = 1) : x0 = 1 := by omega
theorem o61_57 {x0 x1 x3 x4 x5 x6 x7 x8 x9 x10 : Int} {x2 : Nat} (h0 : 0 ≤ x1) (h1 : x1 ≤ 900) (h2 : 900 - x1 < ((x2 + 1 : Nat) : Int)) (h3 : 0 ≤ x3) (h4 : x3 ≤ 900) (h5 : x3 = x1) (h6 : 0 ≤ x4) (h7 : x4 ≤ 900) (h8 : x4 ≤ x3) (h9 : 0 ≤ x5) (h10 : x5 ≤ 900) (h11 : x5 = x1) (h12 : 0 ≤ x6) (h13 : x6 ≤ 900) (h14 : x6 = x1) (h15 : 0 ≤ x7) (h16 : x7 ≤ 900) (h17 : x7 = x4) (h18 : x6 < x7) (h19 : 0 ≤ x8) (h20 : x8 ≤ 900) (h21 : x8 = x1) (h22 : 0 ≤ x9) (h23 : x9 ≤ 900) (h24 : x9 = x1) (h25 : 0 ≤ x10) (h26 : x10 ≤ 900) (h27 : x10 = x1) (h28 : 0 ≤ x0) (h29 : x0 ≤ 900) (h30 : x0 = x1) : 0 ≤ x0 := by omega
theorem o61_58 {x0 x1 x3 x4 x5 x6 x7 x8 x9 x10 : Int} {x2 : Nat} (h0 : 0 ≤ x1) (h1 : x1 ≤ 900) (h2 : 900 - x1 < ((x2 + 1 : Nat) : Int)) (h3 : 0 ≤ x3) (h4 : x3 ≤ 900) (h5 : x3 = x1) (h6 : 0 ≤ x4) (h7 : x4 ≤ 900) (h8 : x4 ≤ x3) (h9 : 0 ≤ x5) (h10 : x5 ≤ 900) (h11 : x5 = x1) (h12 : 0 ≤ x6) (h13 : x6 ≤ 900) (h14 : x6 = x1) (h15 : 0 ≤ x7) (h16 : x7 ≤ 900) (h17 : x7 = x4) (h18 : x6 < x7) (h19 : 0 ≤ x8) (h20 : x8 ≤ 900) (h21 : x8 = x1) (h22 : 0 ≤ x9) (h23 : x9 ≤ 900) (h24 : x9 = x1) (h25 : 0 ≤ x10) (h26 : x10 ≤ 900) (h27 : x10 = x1) (h28 : 0 ≤ x0) (h29 : x0 ≤ 900) (h30 : x0 = x1) : x0 < (900 : Nat) := by omega
theorem o61_59 {x0 x1 x3 x4 x5 x6 x7 x8 x9 x10 : Int} {x2 : Nat} (h0 : 0 ≤ x1) (h1 : x1 ≤ 900) (h2 : 900 - x1 < ((x2 + 1 : Nat) : Int)) (h3 : 0 ≤ x3) (h4 : x3 ≤ 900) (h5 : x3 = x1) (h6 : 0 ≤ x4) (h7 : x4 ≤ 900) (h8 : x4 ≤ x3) (h9 : 0 ≤ x5) (h10 : x5 ≤ 900) (h11 : x5 = x1) (h12 : 0 ≤ x6) (h13 : x6 ≤ 900) (h14 : x6 = x1) (h15 : 0 ≤ x7) (h16 : x7 ≤ 900) (h17 : x7 = x4) (h18 : x6 < x7) (h19 : 0 ≤ x8) (h20 : x8 ≤ 900) (h21 : x8 = x1) (h22 : 0 ≤ x9) (h23 : x9 ≤ 900) (h24 : x9 = x1) (h25 : 0 ≤ x0) (h26 : x0 ≤ 900) (h27 : x0 = x1) (h28 : 0 ≤ x10) (h29 : x10 ≤ 900) (h30 : x10 = x1) : (x0).toNat < 900 := by omega
theorem o61_60 {x0 x1 x3 x4 x5 x6 x7 x8 x9 x10 : Int} {x2 : Nat} (h0 : 0 ≤ x1) (h1 : x1 ≤ 900) (h2 : 900 - x1 < ((x2 + 1 : Nat) : Int)) (h3 : 0 ≤ x3) (h4 : x3 ≤ 900) (h5 : x3 = x1) (h6 : 0 ≤ x4) (h7 : x4 ≤ 900) (h8 : x4 ≤ x3) (h9 : 0 ≤ x5) (h10 : x5 ≤ 900) (h11 : x5 = x1) (h12 : 0 ≤ x6) (h13 : x6 ≤ 900) (h14 : x6 = x1) (h15 : 0 ≤ x7) (h16 : x7 ≤ 900) (h17 : x7 = x4) (h18 : x6 < x7) (h19 : 0 ≤ x8) (h20 : x8 ≤ 900) (h21 : x8 = x1) (h22 : 0 ≤ x9) (h23 : x9 ≤ 900) (h24 : x9 = x1) (h25 : 0 ≤ x10) (h26 : x10 ≤ 900) (h27 : x10 = x1) (h28 : 0 ≤ x0) (h29 : x0 ≤ 900) (h30 : x0 = x1) : (x0).toNat < 900 := by omega
theorem o61_61 {x0 : Int} (h0 : (-128) ≤ x0) (h1 : x0 ≤ 127) (h2 : 1 ≤ x0) : 0 ≤ x0 := by omega
theorem o61_62 {x0 : Int} (h0 : (-128) ≤ x0) (h1 : x0 ≤ 127) (h2 : 1 ≤ x0) : x0 ≤ 65535 := by omega
theorem o61_63 {x0 x1 : Int} (h0 : (-128) ≤ x1) (h1 : x1 ≤ 127) (h2 : 1 ≤ x1) (h3 : x0 = x1) : 1 ≤ x0 := by omega
theorem o61_64 {x0 x1 : Int} (h0 : (-128) ≤ x1) (h1 : x1 ≤ 127) (h2 : 1 ≤ x1) (h3 : x0 = x1) : x0 ≤ 127 := by omega
theorem o61_65 {x0 x1 x3 x4 x5 x6 x7 x8 x9 x10 x11 : Int} {x2 : Nat} (h0 : 0 ≤ x1) (h1 : x1 ≤ 900) (h2 : 900 - x1 < ((x2 + 1 : Nat) : Int)) (h3 : 0 ≤ x3) (h4 : x3 ≤ 900) (h5 : x3 = x1) (h6 : 0 ≤ x4) (h7 : x4 ≤ 900) (h8 : x4 ≤ x3) (h9 : 0 ≤ x5) (h10 : x5 ≤ 900) (h11 : x5 = x1) (h12 : 0 ≤ x6) (h13 : x6 ≤ 900) (h14 : x6 = x1) (h15 : 0 ≤ x7) (h16 : x7 ≤ 900) (h17 : x7 = x4) (h18 : x6 < x7) (h19 : 0 ≤ x8) (h20 : x8 ≤ 900) (h21 : x8 = x1) (h22 : 0 ≤ x9) (h23 : x9 ≤ 900) (h24 : x9 = x1) (h25 : 0 ≤ x10) (h26 : x10 ≤ 900) (h27 : x10 = x1) (h28 : 0 ≤ x11) (h29 : x11 ≤ 900) (h30 : x11 = x1) (h31 : 0 ≤ x0) (h32 : x0 ≤ 900) (h33 : x0 = x1) : 0 ≤ x0 := by omega
theorem o61_66 {x0 x1 x3 x4 x5 x6 x7 x8 x9 x10 x11 : Int} {x2 : Nat} (h0 : 0 ≤ x1) (h1 : x1 ≤ 900) (h2 : 900 - x1 < ((x2 + 1 : Nat) : Int)) (h3 : 0 ≤ x3) (h4 : x3 ≤ 900) (h5 : x3 = x1) (h6 : 0 ≤ x4) (h7 : x4 ≤ 900) (h8 : x4 ≤ x3) (h9 : 0 ≤ x5) (h10 : x5 ≤ 900) (h11 : x5 = x1) (h12 : 0 ≤ x6) (h13 : x6 ≤ 900) (h14 : x6 = x1) (h15 : 0 ≤ x7) (h16 : x7 ≤ 900) (h17 : x7 = x4) (h18 : x6 < x7) (h19 : 0 ≤ x8) (h20 : x8 ≤ 900) (h21 : x8 = x1) (h22 : 0 ≤ x9) (h23 : x9 ≤ 900) (h24 : x9 = x1) (h25 : 0 ≤ x10) (h26 : x10 ≤ 900) (h27 : x10 = x1) (h28 : 0 ≤ x11) (h29 : x11 ≤ 900) (h30 : x11 = x1) (h31 : 0 ≤ x0) (h32 : x0 ≤ 900) (h33 : x0 = x1) : x0 < (900 : Nat) := by omega
theorem o61_67 {x0 x1 x2 x4 x5 x6 x7 x8 x9 x10 x11 x12 x13 : Int} {x3 : Nat} (h0 : 0 ≤ x2) (h1 : x2 ≤ 900) (h2 : 900 - x2 < ((x3 + 1 : Nat) : Int)) (h3 : 0 ≤ x4) (h4 : x4 ≤ 900) (h5 : x4 = x2) (h6 : 0 ≤ x5) (h7 : x5 ≤ 900) (h8 : x5 ≤ x4) (h9 : 0 ≤ x6) (h10 : x6 ≤ 900) (h11 : x6 = x2) (h12 : 0 ≤ x7) (h13 : x7 ≤ 900) (h14 : x7 = x2) (h15 : 0 ≤ x8) (h16 : x8 ≤ 900) (h17 : x8 = x5) (h18 : x7 < x8) (h19 : 0 ≤ x9) (h20 : x9 ≤ 900) (h21 : x9 = x2) (h22 : 0 ≤ x10) (h23 : x10 ≤ 900) (h24 : x10 = x2) (h25 : 0 ≤ x11) (h26 : x11 ≤ 900) (h27 : x11 = x2) (h28 : 0 ≤ x12) (h29 : x12 ≤ 900) (h30 : x12 = x2) (h31 : 0 ≤ x13) (h32 : x13 ≤ 900) (h33 : x13 = x2) (h34 : 0 ≤ x0) (h35 : x0 ≤ 900) (h36 : x0 = x6) (h37 : x1 = 1) (h38 : -2147483648 ≤ x0) (h39 : x0 ≤ 2147483647) (h40 : -2147483648 ≤ x1) (h41 : x1 ≤ 2147483647) (h42 : -2147483648 ≤ x2) (h43 : x2 ≤ 2147483647) (h44 : -2147483648 ≤ x4) (h45 : x4 ≤ 2147483647) (h46 : -2147483648 ≤ x5) (h47 : x5 ≤ 2147483647) (h48 : -2147483648 ≤ x6) (h49 : x6 ≤ 2147483647) (h50 : -2147483648 ≤ x7) (h51 : x7 ≤ 2147483647) (h52 : -2147483648 ≤ x8) (h53 : x8 ≤ 2147483647) (h54 : -2147483648 ≤ x9) (h55 : x9 ≤ 2147483647) (h56 : -2147483648 ≤ x10) (h57 : x10 ≤ 2147483647) (h58 : -2147483648 ≤ x11) (h59 : x11 ≤ 2147483647) (h60 : -2147483648 ≤ x12) (h61 : x12 ≤ 2147483647) (h62 : -2147483648 ≤ x13) (h63 : x13 ≤ 2147483647) : -2147483648 ≤ x0 + x1 := by omega
theorem o61_68 {x0 x1 x2 x4 x5 x6 x7 x8 x9 x10 x11 x12 x13 : Int} {x3 : Nat} (h0 : 0 ≤ x2) (h1 : x2 ≤ 900) (h2 : 900 - x2 < ((x3 + 1 : Nat) : Int)) (h3 : 0 ≤ x4) (h4 : x4 ≤ 900) (h5 : x4 = x2) (h6 : 0 ≤ x5) (h7 : x5 ≤ 900) (h8 : x5 ≤ x4) (h9 : 0 ≤ x6) (h10 : x6 ≤ 900) (h11 : x6 = x2) (h12 : 0 ≤ x7) (h13 : x7 ≤ 900) (h14 : x7 = x2) (h15 : 0 ≤ x8) (h16 : x8 ≤ 900) (h17 : x8 = x5) (h18 : x7 < x8) (h19 : 0 ≤ x9) (h20 : x9 ≤ 900) (h21 : x9 = x2) (h22 : 0 ≤ x10) (h23 : x10 ≤ 900) (h24 : x10 = x2) (h25 : 0 ≤ x11) (h26 : x11 ≤ 900) (h27 : x11 = x2) (h28 : 0 ≤ x12) (h29 : x12 ≤ 900) (h30 : x12 = x2) (h31 : 0 ≤ x13) (h32 : x13 ≤ 900) (h33 : x13 = x2) (h34 : 0 ≤ x0) (h35 : x0 ≤ 900) (h36 : x0 = x6) (h37 : x1 = 1) (h38 : -2147483648 ≤ x0) (h39 : x0 ≤ 2147483647) (h40 : -2147483648 ≤ x1) (h41 : x1 ≤ 2147483647) (h42 : -2147483648 ≤ x2) (h43 : x2 ≤ 2147483647) (h44 : -2147483648 ≤ x4) (h45 : x4 ≤ 2147483647) (h46 : -2147483648 ≤ x5) (h47 : x5 ≤ 2147483647) (h48 : -2147483648 ≤ x6) (h49 : x6 ≤ 2147483647) (h50 : -2147483648 ≤ x7) (h51 : x7 ≤ 2147483647) (h52 : -2147483648 ≤ x8) (h53 : x8 ≤ 2147483647) (h54 : -2147483648 ≤ x9) (h55 : x9 ≤ 2147483647) (h56 : -2147483648 ≤ x10) (h57 : x10 ≤ 2147483647) (h58 : -2147483648 ≤ x11) (h59 : x11 ≤ 2147483647) (h60 : -2147483648 ≤ x12) (h61 : x12 ≤ 2147483647) (h62 : -2147483648 ≤ x13) (h63 : x13 ≤ 2147483647) : x0 + x1 ≤ 2147483647 := by omega
theorem o61_69 {x0 x1 x3 x4 x5 x6 x7 x8 x9 x10 x11 x12 x13 x14 : Int} {x2 : Nat} (h0 : 0 ≤ x1) (h1 : x1 ≤ 900) (h2 : 900 - x1 < ((x2 + 1 : Nat) : Int)) (h3 : 0 ≤ x3) (h4 : x3 ≤ 900) (h5 : x3 = x1) (h6 : 0 ≤ x4) (h7 : x4 ≤ 900) (h8 : x4 ≤ x3) (h9 : 0 ≤ x5) (h10 : x5 ≤ 900) (h11 : x5 = x1) (h12 : 0 ≤ x6) (h13 : x6 ≤ 900) (h14 : x6 = x1) (h15 : 0 ≤ x7) (h16 : x7 ≤ 900) (h17 : x7 = x4) (h18 : x6 < x7) (h19 : 0 ≤ x8) (h20 : x8 ≤ 900) (h21 : x8 = x1) (h22 : 0 ≤ x9) (h23 : x9 ≤ 900) (h24 : x9 = x1) (h25 : 0 ≤ x10) (h26 : x10 ≤ 900) (h27 : x10 = x1) (h28 : 0 ≤ x11) (h29 : x11 ≤ 900) (h30 : x11 = x1) (h31 : 0 ≤ x12) (h32 : x12 ≤ 900) (h33 : x12 = x1) (h34 : 0 ≤ x13) (h35 : x13 ≤ 900) (h36 : x13 = x5) (h37 : x14 = 1) (h38 : x0 = x13 + x14) : 0 ≤ x0 := by omega
theorem o61_70 {x0 x1 x3 x4 x5 x6 x7 x8 x9 x10 x11 x12 x13 x14 : Int} {x2 : Nat} (h0 : 0 ≤ x1) (h1 : x1 ≤ 900) (h2 : 900 - x1 < ((x2 + 1 : Nat) : Int)) (h3 : 0 ≤ x3) (h4 : x3 ≤ 900) (h5 : x3 = x1) (h6 : 0 ≤ x4) (h7 : x4 ≤ 900) (h8 : x4 ≤ x3) (h9 : 0 ≤ x5) (h10 : x5 ≤ 900) (h11 : x5 = x1) (h12 : 0 ≤ x6) (h13 : x6 ≤ 900) (h14 : x6 = x1) (h15 : 0 ≤ x7) (h16 : x7 ≤ 900) (h17 : x7 = x4) (h18 : x6 < x7) (h19 : 0 ≤ x8) (h20 : x8 ≤ 900) (h21 : x8 = x1) (h22 : 0 ≤ x9) (h23 : x9 ≤ 900) (h24 : x9 = x1) (h25 : 0 ≤ x10) (h26 : x10 ≤ 900) (h27 : x10 = x1) (h28 : 0 ≤ x11) (h29 : x11 ≤ 900) (h30 : x11 = x1) (h31 : 0 ≤ x12) (h32 : x12 ≤ 900) (h33 : x12 = x1) (h34 : 0 ≤ x13) (h35 : x13 ≤ 900) (h36 : x13 = x5) (h37 : x14 = 1) (h38 : x0 = x13 + x14) : x0 ≤ 900 := by omega
theorem o61_71 {x0 x1 x3 x4 x5 x6 x7 x8 x9 x10 x11 x12 x13 x14 : Int} {x2 : Nat} (h0 : 0 ≤ x1) (h1 : x1 ≤ 900) (h2 : 900 - x1 < ((x2 + 1 : Nat) : Int)) (h3 : 0 ≤ x3) (h4 : x3 ≤ 900) (h5 : x3 = x1) (h6 : 0 ≤ x4) (h7 : x4 ≤ 900) (h8 : x4 ≤ x3) (h9 : 0 ≤ x5) (h10 : x5 ≤ 900) (h11 : x5 = x1) (h12 : 0 ≤ x6) (h13 : x6 ≤ 900) (h14 : x6 = x1) (h15 : 0 ≤ x7) (h16 : x7 ≤ 900) (h17 : x7 = x4) (h18 : x6 < x7) (h19 : 0 ≤ x8) (h20 : x8 ≤ 900) (h21 : x8 = x1) (h22 : 0 ≤ x9) (h23 : x9 ≤ 900) (h24 : x9 = x1) (h25 : 0 ≤ x10) (h26 : x10 ≤ 900) (h27 : x10 = x1) (h28 : 0 ≤ x11) (h29 : x11 ≤ 900) (h30 : x11 = x1) (h31 : 0 ≤ x0) (h32 : x0 ≤ 900) (h33 : x0 = x1) (h34 : 0 ≤ x12) (h35 : x12 ≤ 900) (h36 : x12 = x5) (h37 : x13 = 1) (h38 : x14 = x12 + x13) : (x0).toNat < 900 := by omega
theorem o61_72 {x0 : Int} (h0 : x0 = 2) : x0 = 2 := by omega
theorem o61_73 {x0 x1 x2 x4 x5 : Int} {x3 : Nat} (h0 : 0 ≤ x2) (h1 : x2 ≤ 900) (h2 : 900 - x2 < ((x3 + 1 : Nat) : Int)) (h3 : 0 ≤ x4) (h4 : x4 ≤ 900) (h5 : x4 = x2) (h6 : 0 ≤ x5) (h7 : x5 ≤ 900) (h8 : x5 ≤ x4) (h9 : 0 ≤ x0) (h10 : x0 ≤ 900) (h11 : x0 = x2) (h12 : 0 ≤ x1) (h13 : x1 ≤ 900) (h14 : -2147483648 ≤ x0) (h15 : x0 ≤ 2147483647) (h16 : -2147483648 ≤ x1) (h17 : x1 ≤ 2147483647) (h18 : -2147483648 ≤ x2) (h19 : x2 ≤ 2147483647) (h20 : -2147483648 ≤ x4) (h21 : x4 ≤ 2147483647) (h22 : -2147483648 ≤ x5) (h23 : x5 ≤ 2147483647) : -2147483648 ≤ x0 - x1 := by omega
theorem o61_74 {x0 x1 x2 x4 x5 : Int} {x3 : Nat} (h0 : 0 ≤ x2) (h1 : x2 ≤ 900) (h2 : 900 - x2 < ((x3 + 1 : Nat) : Int)) (h3 : 0 ≤ x4) (h4 : x4 ≤ 900) (h5 : x4 = x2) (h6 : 0 ≤ x5) (h7 : x5 ≤ 900) (h8 : x5 ≤ x4) (h9 : 0 ≤ x0) (h10 : x0 ≤ 900) (h11 : x0 = x2) (h12 : 0 ≤ x1) (h13 : x1 ≤ 900) (h14 : -2147483648 ≤ x0) (h15 : x0 ≤ 2147483647) (h16 : -2147483648 ≤ x1) (h17 : x1 ≤ 2147483647) (h18 : -2147483648 ≤ x2) (h19 : x2 ≤ 2147483647) (h20 : -2147483648 ≤ x4) (h21 : x4 ≤ 2147483647) (h22 : -2147483648 ≤ x5) (h23 : x5 ≤ 2147483647) : x0 - x1 ≤ 2147483647 := by omega
theorem o61_75 {x0 x1 x3 x4 : Int} {x2 : Nat} (h0 : 0 ≤ x1) (h1 : x1 ≤ 900) (h2 : 900 - x1 < ((x2 + 1 : Nat) : Int)) (h3 : 0 ≤ x3) (h4 : x3 ≤ 900) (h5 : x3 = x1) (h6 : 0 ≤ x4) (h7 : x4 ≤ 900) (h8 : x3 < x4) (h9 : 0 ≤ x0) (h10 : x0 ≤ 900) (h11 : x0 = x1) : 0 ≤ x0 := by omega
theorem o61_76 {x0 x1 x3 x4 : Int} {x2 : Nat} (h0 : 0 ≤ x1) (h1 : x1 ≤ 900) (h2 : 900 - x1 < ((x2 + 1 : Nat) : Int)) (h3 : 0 ≤ x3) (h4 : x3 ≤ 900) (h5 : x3 = x1) (h6 : 0 ≤ x4) (h7 : x4 ≤ 900) (h8 : x3 < x4) (h9 : 0 ≤ x0) (h10 : x0 ≤ 900) (h11 : x0 = x1) : x0 ≤ 899 := by omega
theorem o61_77 {x0 x1 x2 x4 x5 x6 : Int} {x3 : Nat} (h0 : 0 ≤ x2) (h1 : x2 ≤ 900) (h2 : 900 - x2 < ((x3 + 1 : Nat) : Int)) (h3 : 0 ≤ x4) (h4 : x4 ≤ 900) (h5 : x4 = x2) (h6 : 0 ≤ x5) (h7 : x5 ≤ 900) (h8 : x4 < x5) (h9 : 0 ≤ x6) (h10 : x6 ≤ 900) (h11 : x6 = x2) (h12 : 0 ≤ x0) (h13 : x0 ≤ 900) (h14 : x0 = x2) (h15 : 0 ≤ x1) (h16 : x1 ≤ 900) (h17 : -2147483648 ≤ x0) (h18 : x0 ≤ 2147483647) (h19 : -2147483648 ≤ x1) (h20 : x1 ≤ 2147483647) (h21 : -2147483648 ≤ x2) (h22 : x2 ≤ 2147483647) (h23 : -2147483648 ≤ x4) (h24 : x4 ≤ 2147483647) (h25 : -2147483648 ≤ x5) (h26 : x5 ≤ 2147483647) (h27 : -2147483648 ≤ x6) (h28 : x6 ≤ 2147483647) : -2147483648 ≤ x0 - x1 := by omega
theorem o61_78 {x0 x1 x2 x4 x5 x6 : Int} {x3 : Nat} (h0 : 0 ≤ x2) (h1 : x2 ≤ 900) (h2 : 900 - x2 < ((x3 + 1 : Nat) : Int)) (h3 : 0 ≤ x4) (h4 : x4 ≤ 900) (h5 : x4 = x2) (h6 : 0 ≤ x5) (h7 : x5 ≤ 900) (h8 : x4 < x5) (h9 : 0 ≤ x6) (h10 : x6 ≤ 900) (h11 : x6 = x2) (h12 : 0 ≤ x0) (h13 : x0 ≤ 900) (h14 : x0 = x2) (h15 : 0 ≤ x1) (h16 : x1 ≤ 900) (h17 : -2147483648 ≤ x0) (h18 : x0 ≤ 2147483647) (h19 : -2147483648 ≤ x1) (h20 : x1 ≤ 2147483647) (h21 : -2147483648 ≤ x2) (h22 : x2 ≤ 2147483647) (h23 : -2147483648 ≤ x4) (h24 : x4 ≤ 2147483647) (h25 : -2147483648 ≤ x5) (h26 : x5 ≤ 2147483647) (h27 : -2147483648 ≤ x6) (h28 : x6 ≤ 2147483647) : x0 - x1 ≤ 2147483647 := by omega
theorem o61_79 {x0 x1 x3 x4 x5 : Int} {x2 : Nat} (h0 : 0 ≤ x1) (h1 : x1 ≤ 900) (h2 : 900 - x1 < ((x2 + 1 : Nat) : Int)) (h3 : 0 ≤ x3) (h4 : x3 ≤ 900) (h5 : x3 = x1) (h6 : 0 ≤ x4) (h7 : x4 ≤ 900) (h8 : x3 < x4) (h9 : 0 ≤ x5) (h10 : x5 ≤ 900) (h11 : x5 = x1) (h12 : 0 ≤ x0) (h13 : x0 ≤ 900) (h14 : x0 = x1) : 0 ≤ x0 := by omega
theorem o61_80 {x0 x1 x3 x4 x5 : Int} {x2 : Nat} (h0 : 0 ≤ x1) (h1 : x1 ≤ 900) (h2 : 900 - x1 < ((x2 + 1 : Nat) : Int)) (h3 : 0 ≤ x3) (h4 : x3 ≤ 900) (h5 : x3 = x1) (h6 : 0 ≤ x4) (h7 : x4 ≤ 900) (h8 : x3 < x4) (h9 : 0 ≤ x5) (h10 : x5 ≤ 900) (h11 : x5 = x1) (h12 : 0 ≤ x0) (h13 : x0 ≤ 900) (h14 : x0 = x1) : x0 < (900 : Nat) := by omega
theorem o61_81 {x0 x1 x2 x4 x5 x6 x7 : Int} {x3 : Nat} (h0 : 0 ≤ x2) (h1 : x2 ≤ 900) (h2 : 900 - x2 < ((x3 + 1 : Nat) : Int)) (h3 : 0 ≤ x4) (h4 : x4 ≤ 900) (h5 : x4 = x2) (h6 : 0 ≤ x5) (h7 : x5 ≤ 900) (h8 : x4 < x5) (h9 : 0 ≤ x6) (h10 : x6 ≤ 900) (h11 : x6 = x2) (h12 : 0 ≤ x7) (h13 : x7 ≤ 900) (h14 : x7 = x2) (h15 : 0 ≤ x0) (h16 : x0 ≤ 900) (h17 : x0 = x2) (h18 : x1 = 1) (h19 : -2147483648 ≤ x0) (h20 : x0 ≤ 2147483647) (h21 : -2147483648 ≤ x1) (h22 : x1 ≤ 2147483647) (h23 : -2147483648 ≤ x2) (h24 : x2 ≤ 2147483647) (h25 : -2147483648 ≤ x4) (h26 : x4 ≤ 2147483647) (h27 : -2147483648 ≤ x5) (h28 : x5 ≤ 2147483647) (h29 : -2147483648 ≤ x6) (h30 : x6 ≤ 2147483647) (h31 : -2147483648 ≤ x7) (h32 : x7 ≤ 2147483647) : -2147483648 ≤ x0 + x1 := by omega
theorem o61_82 {x0 x1 x2 x4 x5 x6 x7 : Int} {x3 : Nat} (h0 : 0 ≤ x2) (h1 : x2 ≤ 900) (h2 : 900 - x2 < ((x3 + 1 : Nat) : Int)) (h3 : 0 ≤ x4) (h4 : x4 ≤ 900) (h5 : x4 = x2) (h6 : 0 ≤ x5) (h7 : x5 ≤ 900) (h8 : x4 < x5) (h9 : 0 ≤ x6) (h10 : x6 ≤ 900) (h11 : x6 = x2) (h12 : 0 ≤ x7) (h13 : x7 ≤ 900) (h14 : x7 = x2) (h15 : 0 ≤ x0) (h16 : x0 ≤ 900) (h17 : x0 = x2) (h18 : x1 = 1) (h19 : -2147483648 ≤ x0) (h20 : x0 ≤ 2147483647) (h21 : -2147483648 ≤ x1) (h22 : x1 ≤ 2147483647) (h23 : -2147483648 ≤ x2) (h24 : x2 ≤ 2147483647) (h25 : -2147483648 ≤ x4) (h26 : x4 ≤ 2147483647) (h27 : -2147483648 ≤ x5) (h28 : x5 ≤ 2147483647) (h29 : -2147483648 ≤ x6) (h30 : x6 ≤ 2147483647) (h31 : -2147483648 ≤ x7) (h32 : x7 ≤ 2147483647) : x0 + x1 ≤ 2147483647 := by omega
theorem o61_83 {x0 x1 x3 x4 x5 x6 x7 x8 : Int} {x2 : Nat} (h0 : 0 ≤ x1) (h1 : x1 ≤ 900) (h2 : 900 - x1 < ((x2 + 1 : Nat) : Int)) (h3 : 0 ≤ x3) (h4 : x3 ≤ 900) (h5 : x3 = x1) (h6 : 0 ≤ x4) (h7 : x4 ≤ 900) (h8 : x3 < x4) (h9 : 0 ≤ x5) (h10 : x5 ≤ 900) (h11 : x5 = x1) (h12 : 0 ≤ x6) (h13 : x6 ≤ 900) (h14 : x6 = x1) (h15 : 0 ≤ x7) (h16 : x7 ≤ 900) (h17 : x7 = x1) (h18 : x8 = 1) (h19 : x0 = x7 + x8) : 0 ≤ x0 := by omega
theorem o61_84 {x0 x1 x3 x4 x5 x6 x7 x8 : Int} {x2 : Nat} (h0 : 0 ≤ x1) (h1 : x1 ≤ 900) (h2 : 900 - x1 < ((x2 + 1 : Nat) : Int)) (h3 : 0 ≤ x3) (h4 : x3 ≤ 900) (h5 : x3 = x1) (h6 : 0 ≤ x4) (h7 : x4 ≤ 900) (h8 : x3 < x4) (h9 : 0 ≤ x5) (h10 : x5 ≤ 900) (h11 : x5 = x1) (h12 : 0 ≤ x6) (h13 : x6 ≤ 900) (h14 : x6 = x1) (h15 : 0 ≤ x7) (h16 : x7 ≤ 900) (h17 : x7 = x1) (h18 : x8 = 1) (h19 : x0 = x7 + x8) : x0 ≤ 900 := by omega
theorem o61_85 {x0 x2 x3 x4 x5 x6 x7 x8 : Int} {x1 : Nat} (h0 : 0 ≤ x2) (h1 : x2 ≤ 900) (h2 : 900 - x2 < ((x1 + 1 : Nat) : Int)) (h3 : 0 ≤ x3) (h4 : x3 ≤ 900) (h5 : x3 = x2) (h6 : 0 ≤ x4) (h7 : x4 ≤ 900) (h8 : x3 < x4) (h9 : 0 ≤ x5) (h10 : x5 ≤ 900) (h11 : x5 = x2) (h12 : 0 ≤ x6) (h13 : x6 ≤ 900) (h14 : x6 = x2) (h15 : 0 ≤ x7) (h16 : x7 ≤ 900) (h17 : x7 = x2) (h18 : x8 = 1) (h19 : x0 = x7 + x8) : 900 - x0 < (x1 : Int) := by omega
theorem o61_86 {x0 x1 x3 x4 x5 x6 x7 x8 : Int} {x2 : Nat} (h0 : 0 ≤ x1) (h1 : x1 ≤ 900) (h2 : 900 - x1 < ((x2 + 1 : Nat) : Int)) (h3 : 0 ≤ x3) (h4 : x3 ≤ 900) (h5 : x3 = x1) (h6 : 0 ≤ x4) (h7 : x4 ≤ 900) (h8 : x3 < x4) (h9 : 0 ≤ x5) (h10 : x5 ≤ 900) (h11 : x5 = x1) (h12 : 0 ≤ x0) (h13 : x0 ≤ 900) (h14 : x0 = x1) (h15 : 0 ≤ x6) (h16 : x6 ≤ 900) (h17 : x6 = x1) (h18 : x7 = 1) (h19 : x8 = x6 + x7) : (x0).toNat < 900 := by omega
theorem o61_87 {x0 : Int} (h0 : x0 = 10) : x0 = 10 := by omega
theorem o61_88 {x0 : Int} (h0 : x0 = 48) : x0 = 48 := by omega
theorem o61_89 {x0 x1 x3 x4 x5 x6 x7 x8 : Int} {x2 : Nat} (h0 : 0 ≤ x1) (h1 : x1 ≤ 900) (h2 : 900 - x1 < ((x2 + 1 : Nat) : Int)) (h3 : 0 ≤ x3) (h4 : x3 ≤ 900) (h5 : x3 = x1) (h6 : 0 ≤ x4) (h7 : x4 ≤ 900) (h8 : x4 ≤ x3) (h9 : 0 ≤ x0) (h10 : x0 ≤ 900) (h11 : x0 = x1) (h12 : 0 ≤ x5) (h13 : x5 ≤ 900) (h14 : x5 = x1) (h15 : 0 ≤ x6) (h16 : x6 ≤ 900) (h17 : x6 = x4) (h18 : x5 < x6) (h19 : 0 ≤ x7) (h20 : x7 ≤ 900) (h21 : x7 = x1) (h22 : 0 ≤ x8) (h23 : x8 ≤ 900) (h24 : x8 = x1) : 900 - x0 < (((900 - x0 + 1).toNat : Nat) : Int) := by omega
theorem o61_90 {x0 x1 x3 x4 x5 x6 x7 x8 : Int} {x2 : Nat} (h0 : 0 ≤ x1) (h1 : x1 ≤ 900) (h2 : 900 - x1 < ((x2 + 1 : Nat) : Int)) (h3 : 0 ≤ x3) (h4 : x3 ≤ 900) (h5 : x3 = x1) (h6 : 0 ≤ x4) (h7 : x4 ≤ 900) (h8 : x4 ≤ x3) (h9 : 0 ≤ x0) (h10 : x0 ≤ 900) (h11 : x0 = x1) (h12 : 0 ≤ x5) (h13 : x5 ≤ 900) (h14 : x5 = x1) (h15 : 0 ≤ x6) (h16 : x6 ≤ 900) (h17 : x6 = x4) (h18 : x5 < x6) (h19 : 0 ≤ x7) (h20 : x7 ≤ 900) (h21 : x7 = x1) (h22 : 0 ≤ x8) (h23 : x8 ≤ 900) (h24 : x8 = x1) : 0 ≤ x0 := by omega
theorem o61_91 {x0 x1 x3 x4 x5 x6 x7 x8 : Int} {x2 : Nat} (h0 : 0 ≤ x1) (h1 : x1 ≤ 900) (h2 : 900 - x1 < ((x2 + 1 : Nat) : Int)) (h3 : 0 ≤ x3) (h4 : x3 ≤ 900) (h5 : x3 = x1) (h6 : 0 ≤ x4) (h7 : x4 ≤ 900) (h8 : x4 ≤ x3) (h9 : 0 ≤ x0) (h10 : x0 ≤ 900) (h11 : x0 = x1) (h12 : 0 ≤ x5) (h13 : x5 ≤ 900) (h14 : x5 = x1) (h15 : 0 ≤ x6) (h16 : x6 ≤ 900) (h17 : x6 = x4) (h18 : x5 < x6) (h19 : 0 ≤ x7) (h20 : x7 ≤ 900) (h21 : x7 = x1) (h22 : 0 ≤ x8) (h23 : x8 ≤ 900) (h24 : x8 = x1) : x0 ≤ 900 := by omega
theorem o61_92 {x0 x1 x2 x4 x5 x6 : Int} {x3 : Nat} (h0 : 0 ≤ x2) (h1 : x2 ≤ 900) (h2 : 900 - x2 < ((x3 + 1 : Nat) : Int)) (h3 : 0 ≤ x4) (h4 : x4 ≤ 900) (h5 : x4 = x2) (h6 : 0 ≤ x5) (h7 : x5 ≤ 900) (h8 : x4 < x5) (h9 : 0 ≤ x6) (h10 : x6 ≤ 900) (h11 : x6 = x2) (h12 : 0 ≤ x0) (h13 : x0 ≤ 900) (h14 : x0 = x2) (h15 : x1 = 1) (h16 : -2147483648 ≤ x0) (h17 : x0 ≤ 2147483647) (h18 : -2147483648 ≤ x1) (h19 : x1 ≤ 2147483647) (h20 : -2147483648 ≤ x2) (h21 : x2 ≤ 2147483647) (h22 : -2147483648 ≤ x4) (h23 : x4 ≤ 2147483647) (h24 : -2147483648 ≤ x5) (h25 : x5 ≤ 2147483647) (h26 : -2147483648 ≤ x6) (h27 : x6 ≤ 2147483647) : -2147483648 ≤ x0 + x1 := by omega
theorem o61_93 {x0 x1 x2 x4 x5 x6 : Int} {x3 : Nat} (h0 : 0 ≤ x2) (h1 : x2 ≤ 900) (h2 : 900 - x2 < ((x3 + 1 : Nat) : Int)) (h3 : 0 ≤ x4) (h4 : x4 ≤ 900) (h5 : x4 = x2) (h6 : 0 ≤ x5) (h7 : x5 ≤ 900) (h8 : x4 < x5) (h9 : 0 ≤ x6) (h10 : x6 ≤ 900) (h11 : x6 = x2) (h12 : 0 ≤ x0) (h13 : x0 ≤ 900) (h14 : x0 = x2) (h15 : x1 = 1) (h16 : -2147483648 ≤ x0) (h17 : x0 ≤ 2147483647) (h18 : -2147483648 ≤ x1) (h19 : x1 ≤ 2147483647) (h20 : -2147483648 ≤ x2) (h21 : x2 ≤ 2147483647) (h22 : -2147483648 ≤ x4) (h23 : x4 ≤ 2147483647) (h24 : -2147483648 ≤ x5) (h25 : x5 ≤ 2147483647) (h26 : -2147483648 ≤ x6) (h27 : x6 ≤ 2147483647) : x0 + x1 ≤ 2147483647 := by omega
theorem o61_94 {x0 x1 x3 x4 x5 x6 x7 : Int} {x2 : Nat} (h0 : 0 ≤ x1) (h1 : x1 ≤ 900) (h2 : 900 - x1 < ((x2 + 1 : Nat) : Int)) (h3 : 0 ≤ x3) (h4 : x3 ≤ 900) (h5 : x3 = x1) (h6 : 0 ≤ x4) (h7 : x4 ≤ 900) (h8 : x3 < x4) (h9 : 0 ≤ x5) (h10 : x5 ≤ 900) (h11 : x5 = x1) (h12 : 0 ≤ x6) (h13 : x6 ≤ 900) (h14 : x6 = x1) (h15 : x7 = 1) (h16 : x0 = x6 + x7) : 0 ≤ x0 := by omega
theorem o61_95 {x0 x1 x3 x4 x5 x6 x7 : Int} {x2 : Nat} (h0 : 0 ≤ x1) (h1 : x1 ≤ 900) (h2 : 900 - x1 < ((x2 + 1 : Nat) : Int)) (h3 : 0 ≤ x3) (h4 : x3 ≤ 900) (h5 : x3 = x1) (h6 : 0 ≤ x4) (h7 : x4 ≤ 900) (h8 : x3 < x4) (h9 : 0 ≤ x5) (h10 : x5 ≤ 900) (h11 : x5 = x1) (h12 : 0 ≤ x6) (h13 : x6 ≤ 900) (h14 : x6 = x1) (h15 : x7 = 1) (h16 : x0 = x6 + x7) : x0 ≤ 900 := by omega
theorem o61_96 {x0 x2 x3 x4 x5 x6 x7 : Int} {x1 : Nat} (h0 : 0 ≤ x2) (h1 : x2 ≤ 900) (h2 : 900 - x2 < ((x1 + 1 : Nat) : Int)) (h3 : 0 ≤ x3) (h4 : x3 ≤ 900) (h5 : x3 = x2) (h6 : 0 ≤ x4) (h7 : x4 ≤ 900) (h8 : x3 < x4) (h9 : 0 ≤ x5) (h10 : x5 ≤ 900) (h11 : x5 = x2) (h12 : 0 ≤ x6) (h13 : x6 ≤ 900) (h14 : x6 = x2) (h15 : x7 = 1) (h16 : x0 = x6 + x7) : 900 - x0 < (x1 : Int) := by omega
theorem o61_97 {x0 x1 x3 x4 x5 x6 x7 : Int} {x2 : Nat} (h0 : 0 ≤ x1) (h1 : x1 ≤ 900) (h2 : 900 - x1 < ((x2 + 1 : Nat) : Int)) (h3 : 0 ≤ x3) (h4 : x3 ≤ 900) (h5 : x3 = x1) (h6 : 0 ≤ x4) (h7 : x4 ≤ 900) (h8 : x4 ≤ x3) (h9 : 0 ≤ x0) (h10 : x0 ≤ 900) (h11 : x0 = x1) (h12 : 0 ≤ x5) (h13 : x5 ≤ 900) (h14 : x5 = x1) (h15 : 0 ≤ x6) (h16 : x6 ≤ 900) (h17 : x6 = x4) (h18 : x5 < x6) (h19 : 0 ≤ x7) (h20 : x7 ≤ 900) (h21 : x7 = x1) : 900 - x0 < (((900 - x0 + 1).toNat : Nat) : Int) := by omega
theorem o61_98 {x0 x1 x3 x4 x5 x6 x7 : Int} {x2 : Nat} (h0 : 0 ≤ x1) (h1 : x1 ≤ 900) (h2 : 900 - x1 < ((x2 + 1 : Nat) : Int)) (h3 : 0 ≤ x3) (h4 : x3 ≤ 900) (h5 : x3 = x1) (h6 : 0 ≤ x4) (h7 : x4 ≤ 900) (h8 : x4 ≤ x3) (h9 : 0 ≤ x0) (h10 : x0 ≤ 900) (h11 : x0 = x1) (h12 : 0 ≤ x5) (h13 : x5 ≤ 900) (h14 : x5 = x1) (h15 : 0 ≤ x6) (h16 : x6 ≤ 900) (h17 : x6 = x4) (h18 : x5 < x6) (h19 : 0 ≤ x7) (h20 : x7 ≤ 900) (h21 : x7 = x1) : 0 ≤ x0 := by omega
theorem o61_99 {x0 x1 x3 x4 x5 x6 x7 : Int} {x2 : Nat} (h0 : 0 ≤ x1) (h1 : x1 ≤ 900) (h2 : 900 - x1 < ((x2 + 1 : Nat) : Int)) (h3 : 0 ≤ x3) (h4 : x3 ≤ 900) (h5 : x3 = x1) (h6 : 0 ≤ x4) (h7 : x4 ≤ 900) (h8 : x4 ≤ x3) (h9 : 0 ≤ x0) (h10 : x0 ≤ 900) (h11 : x0 = x1) (h12 : 0 ≤ x5) (h13 : x5 ≤ 900) (h14 : x5 = x1) (h15 : 0 ≤ x6) (h16 : x6 ≤ 900) (h17 : x6 = x4) (h18 : x5 < x6) (h19 : 0 ≤ x7) (h20 : x7 ≤ 900) (h21 : x7 = x1) : x0 ≤ 900 := by omega
theorem o61_100 {x0 x1 x3 x4 : Int} {x2 : Nat} (h0 : 0 ≤ x1) (h1 : x1 ≤ 900) (h2 : 900 - x1 < ((x2 + 1 : Nat) : Int)) (h3 : 0 ≤ x3) (h4 : x3 ≤ 900) (h5 : x3 = x1) (h6 : 0 ≤ x4) (h7 : x4 ≤ 900) (h8 : x3 < x4) (h9 : 0 ≤ x0) (h10 : x0 ≤ 900) (h11 : x0 = x1) : x0 < (900 : Nat) := by omega
theorem o61_101 {x0 x1 x3 x4 x5 x6 x7 : Int} {x2 : Nat} (h0 : 0 ≤ x1) (h1 : x1 ≤ 900) (h2 : 900 - x1 < ((x2 + 1 : Nat) : Int)) (h3 : 0 ≤ x3) (h4 : x3 ≤ 900) (h5 : x3 = x1) (h6 : 0 ≤ x4) (h7 : x4 ≤ 900) (h8 : x3 < x4) (h9 : 0 ≤ x0) (h10 : x0 ≤ 900) (h11 : x0 = x1) (h12 : 0 ≤ x5) (h13 : x5 ≤ 900) (h14 : x5 = x1) (h15 : x6 = 1) (h16 : x7 = x5 + x6) : (x0).toNat < 900 := by omega
theorem o61_102 {x0 x1 x3 x4 x5 x6 : Int} {x2 : Nat} (h0 : 0 ≤ x1) (h1 : x1 ≤ 900) (h2 : 900 - x1 < ((x2 + 1 : Nat) : Int)) (h3 : 0 ≤ x3) (h4 : x3 ≤ 900) (h5 : x3 = x1) (h6 : 0 ≤ x4) (h7 : x4 ≤ 900) (h8 : x3 < x4) (h9 : 0 ≤ x5) (h10 : x5 ≤ 900) (h11 : x5 = x1) (h12 : 0 ≤ x6) (h13 : x6 ≤ 900) (h14 : x6 = x1) (h15 : 0 ≤ x0) (h16 : x0 ≤ 900) (h17 : x0 = x1) : 0 ≤ x0 := by omega
theorem o61_103 {x0 x1 x3 x4 x5 x6 : Int} {x2 : Nat} (h0 : 0 ≤ x1) (h1 : x1 ≤ 900) (h2 : 900 - x1 < ((x2 + 1 : Nat) : Int)) (h3 : 0 ≤ x3) (h4 : x3 ≤ 900) (h5 : x3 = x1) (h6 : 0 ≤ x4) (h7 : x4 ≤ 900) (h8 : x3 < x4) (h9 : 0 ≤ x5) (h10 : x5 ≤ 900) (h11 : x5 = x1) (h12 : 0 ≤ x6) (h13 : x6 ≤ 900) (h14 : x6 = x1) (h15 : 0 ≤ x0) (h16 : x0 ≤ 900) (h17 : x0 = x1) : x0 ≤ 900 := by omega
theorem o61_104 {x0 x1 x3 x4 x5 x6 x7 x8 x9 : Int} {x2 : Nat} (h0 : 0 ≤ x1) (h1 : x1 ≤ 900) (h2 : 900 - x1 < ((x2 + 1 : Nat) : Int)) (h3 : 0 ≤ x3) (h4 : x3 ≤ 900) (h5 : x3 = x1) (h6 : 0 ≤ x4) (h7 : x4 ≤ 900) (h8 : x3 < x4) (h9 : 0 ≤ x5) (h10 : x5 ≤ 900) (h11 : x5 = x1) (h12 : 0 ≤ x6) (h13 : x6 ≤ 900) (h14 : x6 = x1) (h15 : 0 ≤ x7) (h16 : x7 ≤ 900) (h17 : x7 = x1) (h18 : 0 ≤ x8) (h19 : x8 ≤ 900) (h20 : x8 = x1) (h21 : 0 ≤ x9) (h22 : x9 ≤ 900) (h23 : x9 = x4) (h24 : x8 < x9) (h25 : 0 ≤ x0) (h26 : x0 ≤ 900) (h27 : x0 = x1) : 0 ≤ x0 := by omega
theorem o61_105 {x0 x1 x3 x4 x5 x6 x7 x8 x9 : Int} {x2 : Nat} (h0 : 0 ≤ x1) (h1 : x1 ≤ 900) (h2 : 900 - x1 < ((x2 + 1 : Nat) : Int)) (h3 : 0 ≤ x3) (h4 : x3 ≤ 900) (h5 : x3 = x1) (h6 : 0 ≤ x4) (h7 : x4 ≤ 900) (h8 : x3 < x4) (h9 : 0 ≤ x5) (h10 : x5 ≤ 900) (h11 : x5 = x1) (h12 : 0 ≤ x6) (h13 : x6 ≤ 900) (h14 : x6 = x1) (h15 : 0 ≤ x7) (h16 : x7 ≤ 900) (h17 : x7 = x1) (h18 : 0 ≤ x8) (h19 : x8 ≤ 900) (h20 : x8 = x1) (h21 : 0 ≤ x9) (h22 : x9 ≤ 900) (h23 : x9 = x4) (h24 : x8 < x9) (h25 : 0 ≤ x0) (h26 : x0 ≤ 900) (h27 : x0 = x1) : x0 ≤ 899 := by omega
theorem o61_106 {x0 x1 x3 x4 x5 x6 x7 x8 x9 x10 : Int} {x2 : Nat} (h0 : 0 ≤ x1) (h1 : x1 ≤ 900) (h2 : 900 - x1 < ((x2 + 1 : Nat) : Int)) (h3 : 0 ≤ x3) (h4 : x3 ≤ 900) (h5 : x3 = x1) (h6 : 0 ≤ x4) (h7 : x4 ≤ 900) (h8 : x3 < x4) (h9 : 0 ≤ x5) (h10 : x5 ≤ 900) (h11 : x5 = x1) (h12 : 0 ≤ x6) (h13 : x6 ≤ 900) (h14 : x6 = x1) (h15 : 0 ≤ x7) (h16 : x7 ≤ 900) (h17 : x7 = x1) (h18 : 0 ≤ x8) (h19 : x8 ≤ 900) (h20 : x8 = x1) (h21 : 0 ≤ x9) (h22 : x9 ≤ 900) (h23 : x9 = x4) (h24 : x8 < x9) (h25 : 0 ≤ x10) (h26 : x10 ≤ 900) (h27 : x10 = x1) (h28 : 0 ≤ x0) (h29 : x0 ≤ 900) (h30 : x0 = x1) : 0 ≤ x0 := by omega
theorem o61_107 {x0 x1 x3 x4 x5 x6 x7 x8 x9 x10 : Int} {x2 : Nat} (h0 : 0 ≤ x1) (h1 : x1 ≤ 900) (h2 : 900 - x1 < ((x2 + 1 : Nat) : Int)) (h3 : 0 ≤ x3) (h4 : x3 ≤ 900) (h5 : x3 = x1) (h6 : 0 ≤ x4) (h7 : x4 ≤ 900) (h8 : x3 < x4) (h9 : 0 ≤ x5) (h10 : x5 ≤ 900) (h11 : x5 = x1) (h12 : 0 ≤ x6) (h13 : x6 ≤ 900) (h14 : x6 = x1) (h15 : 0 ≤ x7) (h16 : x7 ≤ 900) (h17 : x7 = x1) (h18 : 0 ≤ x8) (h19 : x8 ≤ 900) (h20 : x8 = x1) (h21 : 0 ≤ x9) (h22 : x9 ≤ 900) (h23 : x9 = x4) (h24 : x8 < x9) (h25 : 0 ≤ x10) (h26 : x10 ≤ 900) (h27 : x10 = x1) (h28 : 0 ≤ x0) (h29 : x0 ≤ 900) (h30 : x0 = x1) : x0 ≤ 899 := by omega
theorem o61_108 {x0 x1 x3 x4 x5 x6 x7 x8 x9 x10 x11 : Int} {x2 : Nat} (h0 : 0 ≤ x1) (h1 : x1 ≤ 900) (h2 : 900 - x1 < ((x2 + 1 : Nat) : Int)) (h3 : 0 ≤ x3) (h4 : x3 ≤ 900) (h5 : x3 = x1) (h6 : 0 ≤ x4) (h7 : x4 ≤ 900) (h8 : x3 < x4) (h9 : 0 ≤ x5) (h10 : x5 ≤ 900) (h11 : x5 = x1) (h12 : 0 ≤ x6) (h13 : x6 ≤ 900) (h14 : x6 = x1) (h15 : 0 ≤ x7) (h16 : x7 ≤ 900) (h17 : x7 = x1) (h18 : 0 ≤ x8) (h19 : x8 ≤ 900) (h20 : x8 = x1) (h21 : 0 ≤ x9) (h22 : x9 ≤ 900) (h23 : x9 = x4) (h24 : x8 < x9) (h25 : 0 ≤ x10) (h26 : x10 ≤ 900) (h27 : x10 = x1) (h28 : 0 ≤ x11) (h29 : x11 ≤ 900) (h30 : x11 = x1) (h31 : 0 ≤ x0) (h32 : x0 ≤ 900) (h33 : x0 = x1) : 0 ≤ x0 := by omega
theorem o61_109 {x0 x1 x3 x4 x5 x6 x7 x8 x9 x10 x11 : Int} {x2 : Nat} (h0 : 0 ≤ x1) (h1 : x1 ≤ 900) (h2 : 900 - x1 < ((x2 + 1 : Nat) : Int)) (h3 : 0 ≤ x3) (h4 : x3 ≤ 900) (h5 : x3 = x1) (h6 : 0 ≤ x4) (h7 : x4 ≤ 900) (h8 : x3 < x4) (h9 : 0 ≤ x5) (h10 : x5 ≤ 900) (h11 : x5 = x1) (h12 : 0 ≤ x6) (h13 : x6 ≤ 900) (h14 : x6 = x1) (h15 : 0 ≤ x7) (h16 : x7 ≤ 900) (h17 : x7 = x1) (h18 : 0 ≤ x8) (h19 : x8 ≤ 900) (h20 : x8 = x1) (h21 : 0 ≤ x9) (h22 : x9 ≤ 900) (h23 : x9 = x4) (h24 : x8 < x9) (h25 : 0 ≤ x10) (h26 : x10 ≤ 900) (h27 : x10 = x1) (h28 : 0 ≤ x11) (h29 : x11 ≤ 900) (h30 : x11 = x1) (h31 : 0 ≤ x0) (h32 : x0 ≤ 900) (h33 : x0 = x1) : x0 < (900 : Nat) := by omega
theorem o61_110 {x0 x1 x3 x4 x5 x6 x7 x8 x9 x10 x11 : Int} {x2 : Nat} (h0 : 0 ≤ x1) (h1 : x1 ≤ 900) (h2 : 900 - x1 < ((x2 + 1 : Nat) : Int)) (h3 : 0 ≤ x3) (h4 : x3 ≤ 900) (h5 : x3 = x1) (h6 : 0 ≤ x4) (h7 : x4 ≤ 900) (h8 : x3 < x4) (h9 : 0 ≤ x0) (h10 : x0 ≤ 900) (h11 : x0 = x1) (h12 : 0 ≤ x5) (h13 : x5 ≤ 900) (h14 : x5 = x1) (h15 : 0 ≤ x6) (h16 : x6 ≤ 900) (h17 : x6 = x1) (h18 : 0 ≤ x7) (h19 : x7 ≤ 900) (h20 : x7 = x1) (h21 : 0 ≤ x8) (h22 : x8 ≤ 900) (h23 : x8 = x4) (h24 : x7 < x8) (h25 : 0 ≤ x9) (h26 : x9 ≤ 900) (h27 : x9 = x1) (h28 : 0 ≤ x10) (h29 : x10 ≤ 900) (h30 : x10 = x1) (h31 : 0 ≤ x11) (h32 : x11 ≤ 900) (h33 : x11 = x1) : (x0).toNat < 900 := by omega
theorem o61_111 {x0 x1 x3 x4 x5 x6 x7 x8 x9 x10 x11 : Int} {x2 : Nat} (h0 : 0 ≤ x1) (h1 : x1 ≤ 900) (h2 : 900 - x1 < ((x2 + 1 : Nat) : Int)) (h3 : 0 ≤ x3) (h4 : x3 ≤ 900) (h5 : x3 = x1) (h6 : 0 ≤ x4) (h7 : x4 ≤ 900) (h8 : x3 < x4) (h9 : 0 ≤ x5) (h10 : x5 ≤ 900) (h11 : x5 = x1) (h12 : 0 ≤ x0) (h13 : x0 ≤ 900) (h14 : x0 = x1) (h15 : 0 ≤ x6) (h16 : x6 ≤ 900) (h17 : x6 = x1) (h18 : 0 ≤ x7) (h19 : x7 ≤ 900) (h20 : x7 = x1) (h21 : 0 ≤ x8) (h22 : x8 ≤ 900) (h23 : x8 = x4) (h24 : x7 < x8) (h25 : 0 ≤ x9) (h26 : x9 ≤ 900) (h27 : x9 = x1) (h28 : 0 ≤ x10) (h29 : x10 ≤ 900) (h30 : x10 = x1) (h31 : 0 ≤ x11) (h32 : x11 ≤ 900) (h33 : x11 = x1) : (x0).toNat < 900 := by omega
theorem o61_112 {x0 x1 x3 x4 x5 x6 x7 x8 x9 x10 x11 : Int} {x2 : Nat} (h0 : 0 ≤ x1) (h1 : x1 ≤ 900) (h2 : 900 - x1 < ((x2 + 1 : Nat) : Int)) (h3 : 0 ≤ x3) (h4 : x3 ≤ 900) (h5 : x3 = x1) (h6 : 0 ≤ x4) (h7 : x4 ≤ 900) (h8 : x3 < x4) (h9 : 0 ≤ x5) (h10 : x5 ≤ 900) (h11 : x5 = x1) (h12 : 0 ≤ x6) (h13 : x6 ≤ 900) (h14 : x6 = x1) (h15 : 0 ≤ x7) (h16 : x7 ≤ 900) (h17 : x7 = x1) (h18 : 0 ≤ x8) (h19 : x8 ≤ 900) (h20 : x8 = x1) (h21 : 0 ≤ x9) (h22 : x9 ≤ 900) (h23 : x9 = x4) (h24 : x8 < x9) (h25 : 0 ≤ x10) (h26 : x10 ≤ 900) (h27 : x10 = x1) (h28 : 0 ≤ x11) (h29 : x11 ≤ 900) (h30 : x11 = x1) (h31 : 0 ≤ x0) (h32 : x0 ≤ 900) (h33 : x0 = x1) : (x0).toNat < 900 := by omega
theorem o61_113 {x0 x1 x3 x4 x5 x6 x7 x8 x9 x10 x11 x12 : Int} {x2 : Nat} (h0 : 0 ≤ x1) (h1 : x1 ≤ 900) (h2 : 900 - x1 < ((x2 + 1 : Nat) : Int)) (h3 : 0 ≤ x3) (h4 : x3 ≤ 900) (h5 : x3 = x1) (h6 : 0 ≤ x4) (h7 : x4 ≤ 900) (h8 : x3 < x4) (h9 : 0 ≤ x5) (h10 : x5 ≤ 900) (h11 : x5 = x1) (h12 : 0 ≤ x6) (h13 : x6 ≤ 900) (h14 : x6 = x1) (h15 : 0 ≤ x7) (h16 : x7 ≤ 900) (h17 : x7 = x1) (h18 : 0 ≤ x8) (h19 : x8 ≤ 900) (h20 : x8 = x1) (h21 : 0 ≤ x9) (h22 : x9 ≤ 900) (h23 : x9 = x4) (h24 : x8 < x9) (h25 : 0 ≤ x10) (h26 : x10 ≤ 900) (h27 : x10 = x1) (h28 : 0 ≤ x11) (h29 : x11 ≤ 900) (h30 : x11 = x1) (h31 : 0 ≤ x12) (h32 : x12 ≤ 900) (h33 : x12 = x1) (h34 : 0 ≤ x0) (h35 : x0 ≤ 900) (h36 : x0 = x1) : 0 ≤ x0 := by omega
theorem o61_114 {x0 x1 x3 x4 x5 x6 x7 x8 x9 x10 x11 x12 : Int} {x2 : Nat} (h0 : 0 ≤ x1) (h1 : x1 ≤ 900) (h2 : 900 - x1 < ((x2 + 1 : Nat) : Int)) (h3 : 0 ≤ x3) (h4 : x3 ≤ 900) (h5 : x3 = x1) (h6 : 0 ≤ x4) (h7 : x4 ≤ 900) (h8 : x3 < x4) (h9 : 0 ≤ x5) (h10 : x5 ≤ 900) (h11 : x5 = x1) (h12 : 0 ≤ x6) (h13 : x6 ≤ 900) (h14 : x6 = x1) (h15 : 0 ≤ x7) (h16 : x7 ≤ 900) (h17 : x7 = x1) (h18 : 0 ≤ x8) (h19 : x8 ≤ 900) (h20 : x8 = x1) (h21 : 0 ≤ x9) (h22 : x9 ≤ 900) (h23 : x9 = x4) (h24 : x8 < x9) (h25 : 0 ≤ x10) (h26 : x10 ≤ 900) (h27 : x10 = x1) (h28 : 0 ≤ x11) (h29 : x11 ≤ 900) (h30 : x11 = x1) (h31 : 0 ≤ x12) (h32 : x12 ≤ 900) (h33 : x12 = x1) (h34 : 0 ≤ x0) (h35 : x0 ≤ 900) (h36 : x0 = x1) : x0 < (900 : Nat) := by omega
theorem o61_115 {x0 x1 x3 x4 x5 x6 x7 x8 x9 x10 x11 x12 : Int} {x2 : Nat} (h0 : 0 ≤ x1) (h1 : x1 ≤ 900) (h2 : 900 - x1 < ((x2 + 1 : Nat) : Int)) (h3 : 0 ≤ x3) (h4 : x3 ≤ 900) (h5 : x3 = x1) (h6 : 0 ≤ x4) (h7 : x4 ≤ 900) (h8 : x3 < x4) (h9 : 0 ≤ x0) (h10 : x0 ≤ 900) (h11 : x0 = x1) (h12 : 0 ≤ x5) (h13 : x5 ≤ 900) (h14 : x5 = x1) (h15 : 0 ≤ x6) (h16 : x6 ≤ 900) (h17 : x6 = x1) (h18 : 0 ≤ x7) (h19 : x7 ≤ 900) (h20 : x7 = x1) (h21 : 0 ≤ x8) (h22 : x8 ≤ 900) (h23 : x8 = x4) (h24 : x7 < x8) (h25 : 0 ≤ x9) (h26 : x9 ≤ 900) (h27 : x9 = x1) (h28 : 0 ≤ x10) (h29 : x10 ≤ 900) (h30 : x10 = x1) (h31 : 0 ≤ x11) (h32 : x11 ≤ 900) (h33 : x11 = x1) (h34 : 0 ≤ x12) (h35 : x12 ≤ 900) (h36 : x12 = x1) : (x0).toNat < 900 := by omega
theorem o61_116 {x0 x1 x3 x4 x5 x6 x7 x8 x9 x10 x11 x12 : Int} {x2 : Nat} (h0 : 0 ≤ x1) (h1 : x1 ≤ 900) (h2 : 900 - x1 < ((x2 + 1 : Nat) : Int)) (h3 : 0 ≤ x3) (h4 : x3 ≤ 900) (h5 : x3 = x1) (h6 : 0 ≤ x4) (h7 : x4 ≤ 900) (h8 : x3 < x4) (h9 : 0 ≤ x5) (h10 : x5 ≤ 900) (h11 : x5 = x1) (h12 : 0 ≤ x0) (h13 : x0 ≤ 900) (h14 : x0 = x1) (h15 : 0 ≤ x6) (h16 : x6 ≤ 900) (h17 : x6 = x1) (h18 : 0 ≤ x7) (h19 : x7 ≤ 900) (h20 : x7 = x1) (h21 : 0 ≤ x8) (h22 : x8 ≤ 900) (h23 : x8 = x4) (h24 : x7 < x8) (h25 : 0 ≤ x9) (h26 : x9 ≤ 900) (h27 : x9 = x1) (h28 : 0 ≤ x10) (h29 : x10 ≤ 900) (h30 : x10 = x1) (h31 : 0 ≤ x11) (h32 : x11 ≤ 900) (h33 : x11 = x1) (h34 : 0 ≤ x12) (h35 : x12 ≤ 900) (h36 : x12 = x1) : (x0).toNat < 900 := by omega
theorem o61_117 {x0 x1 x3 x4 x5 x6 x7 x8 x9 x10 x11 x12 : Int} {x2 : Nat} (h0 : 0 ≤ x1) (h1 : x1 ≤ 900) (h2 : 900 - x1 < ((x2 + 1 : Nat) : Int)) (h3 : 0 ≤ x3) (h4 : x3 ≤ 900) (h5 : x3 = x1) (h6 : 0 ≤ x4) (h7 : x4 ≤ 900) (h8 : x3 < x4) (h9 : 0 ≤ x5) (h10 : x5 ≤ 900) (h11 : x5 = x1) (h12 : 0 ≤ x6) (h13 : x6 ≤ 900) (h14 : x6 = x1) (h15 : 0 ≤ x7) (h16 : x7 ≤ 900) (h17 : x7 = x1) (h18 : 0 ≤ x8) (h19 : x8 ≤ 900) (h20 : x8 = x1) (h21 : 0 ≤ x9) (h22 : x9 ≤ 900) (h23 : x9 = x4) (h24 : x8 < x9) (h25 : 0 ≤ x10) (h26 : x10 ≤ 900) (h27 : x10 = x1) (h28 : 0 ≤ x11) (h29 : x11 ≤ 900) (h30 : x11 = x1) (h31 : 0 ≤ x0) (h32 : x0 ≤ 900) (h33 : x0 = x1) (h34 : 0 ≤ x12) (h35 : x12 ≤ 900) (h36 : x12 = x1) : (x0).toNat < 900 := by omega
theorem o61_118 {x0 x1 x3 x4 x5 x6 x7 x8 x9 x10 x11 x12 : Int} {x2 : Nat} (h0 : 0 ≤ x1) (h1 : x1 ≤ 900) (h2 : 900 - x1 < ((x2 + 1 : Nat) : Int)) (h3 : 0 ≤ x3) (h4 : x3 ≤ 900) (h5 : x3 = x1) (h6 : 0 ≤ x4) (h7 : x4 ≤ 900) (h8 : x3 < x4) (h9 : 0 ≤ x5) (h10 : x5 ≤ 900) (h11 : x5 = x1) (h12 : 0 ≤ x6) (h13 : x6 ≤ 900) (h14 : x6 = x1) (h15 : 0 ≤ x7) (h16 : x7 ≤ 900) (h17 : x7 = x1) (h18 : 0 ≤ x8) (h19 : x8 ≤ 900) (h20 : x8 = x1) (h21 : 0 ≤ x9) (h22 : x9 ≤ 900) (h23 : x9 = x4) (h24 : x8 < x9) (h25 : 0 ≤ x10) (h26 : x10 ≤ 900) (h27 : x10 = x1) (h28 : 0 ≤ x11) (h29 : x11 ≤ 900) (h30 : x11 = x1) (h31 : 0 ≤ x12) (h32 : x12 ≤ 900) (h33 : x12 = x1) (h34 : 0 ≤ x0) (h35 : x0 ≤ 900) (h36 : x0 = x1) : (x0).toNat < 900 := by omega
theorem o61_119 {x0 x1 x3 x4 x5 x6 x7 x8 x9 x10 x11 x12 x13 : Int} {x2 : Nat} (h0 : 0 ≤ x1) (h1 : x1 ≤ 900) (h2 : 900 - x1 < ((x2 + 1 : Nat) : Int)) (h3 : 0 ≤ x3) (h4 : x3 ≤ 900) (h5 : x3 = x1) (h6 : 0 ≤ x4) (h7 : x4 ≤ 900) (h8 : x3 < x4) (h9 : 0 ≤ x5) (h10 : x5 ≤ 900) (h11 : x5 = x1) (h12 : 0 ≤ x6) (h13 : x6 ≤ 900) (h14 : x6 = x1) (h15 : 0 ≤ x7) (h16 : x7 ≤ 900) (h17 : x7 = x1) (h18 : 0 ≤ x8) (h19 : x8 ≤ 900) (h20 : x8 = x1) (h21 : 0 ≤ x9) (h22 : x9 ≤ 900) (h23 : x9 = x4) (h24 : x8 < x9) (h25 : 0 ≤ x10) (h26 : x10 ≤ 900) (h27 : x10 = x1) (h28 : 0 ≤ x11) (h29 : x11 ≤ 900) (h30 : x11 = x1) (h31 : 0 ≤ x12) (h32 : x12 ≤ 900) (h33 : x12 = x1) (h34 : 0 ≤ x13) (h35 : x13 ≤ 900) (h36 : x13 = x1) (h37 : 0 ≤ x0) (h38 : x0 ≤ 900) (h39 : x0 = x1) : 0 ≤ x0 := by omega
theorem o61_120 {x0 x1 x3 x4 x5 x6 x7 x8 x9 x10 x11 x12 x13 : Int} {x2 : Nat} (h0 : 0 ≤ x1) (h1 : x1 ≤ 900) (h2 : 900 - x1 < ((x2 + 1 : Nat) : Int)) (h3 : 0 ≤ x3) (h4 : x3 ≤ 900) (h5 : x3 = x1) (h6 : 0 ≤ x4) (h7 : x4 ≤ 900) (h8 : x3 < x4) (h9 : 0 ≤ x5) (h10 : x5 ≤ 900) (h11 : x5 = x1) (h12 : 0 ≤ x6) (h13 : x6 ≤ 900) (h14 : x6 = x1) (h15 : 0 ≤ x7) (h16 : x7 ≤ 900) (h17 : x7 = x1) (h18 : 0 ≤ x8) (h19 : x8 ≤ 900) (h20 : x8 = x1) (h21 : 0 ≤ x9) (h22 : x9 ≤ 900) (h23 : x9 = x4) (h24 : x8 < x9) (h25 : 0 ≤ x10) (h26 : x10 ≤ 900) (h27 : x10 = x1) (h28 : 0 ≤ x11) (h29 : x11 ≤ 900) (h30 : x11 = x1) (h31 : 0 ≤ x12) (h32 : x12 ≤ 900) (h33 : x12 = x1) (h34 : 0 ≤ x13) (h35 : x13 ≤ 900) (h36 : x13 = x1) (h37 : 0 ≤ x0) (h38 : x0 ≤ 900) (h39 : x0 = x1) : x0 < (900 : Nat) := by omega
theorem o61_121 {x0 x1 x2 x4 x5 x6 x7 x8 x9 x10 x11 x12 x13 x14 x15 : Int} {x3 : Nat} (h0 : 0 ≤ x2) (h1 : x2 ≤ 900) (h2 : 900 - x2 < ((x3 + 1 : Nat) : Int)) (h3 : 0 ≤ x4) (h4 : x4 ≤ 900) (h5 : x4 = x2) (h6 : 0 ≤ x5) (h7 : x5 ≤ 900) (h8 : x4 < x5) (h9 : 0 ≤ x6) (h10 : x6 ≤ 900) (h11 : x6 = x2) (h12 : 0 ≤ x7) (h13 : x7 ≤ 900) (h14 : x7 = x2) (h15 : 0 ≤ x8) (h16 : x8 ≤ 900) (h17 : x8 = x2) (h18 : 0 ≤ x9) (h19 : x9 ≤ 900) (h20 : x9 = x2) (h21 : 0 ≤ x10) (h22 : x10 ≤ 900) (h23 : x10 = x5) (h24 : x9 < x10) (h25 : 0 ≤ x11) (h26 : x11 ≤ 900) (h27 : x11 = x2) (h28 : 0 ≤ x12) (h29 : x12 ≤ 900) (h30 : x12 = x2) (h31 : 0 ≤ x13) (h32 : x13 ≤ 900) (h33 : x13 = x2) (h34 : 0 ≤ x14) (h35 : x14 ≤ 900) (h36 : x14 = x2) (h37 : 0 ≤ x15) (h38 : x15 ≤ 900) (h39 : x15 = x2) (h40 : 0 ≤ x0) (h41 : x0 ≤ 900) (h42 : x0 = x8) (h43 : x1 = 1) (h44 : -2147483648 ≤ x0) (h45 : x0 ≤ 2147483647) (h46 : -2147483648 ≤ x1) (h47 : x1 ≤ 2147483647) (h48 : -2147483648 ≤ x2) (h49 : x2 ≤ 2147483647) (h50 : -2147483648 ≤ x4) (h51 : x4 ≤ 2147483647) (h52 : -2147483648 ≤ x5) (h53 : x5 ≤ 2147483647) (h54 : -2147483648 ≤ x6) (h55 : x6 ≤ 2147483647) (h56 : -2147483648 ≤ x7) (h57 : x7 ≤ 2147483647) (h58 : -2147483648 ≤ x8) (h59 : x8 ≤ 2147483647) (h60 : -2147483648 ≤ x9) (h61 : x9 ≤ 2147483647) (h62 : -2147483648 ≤ x10) (h63 : x10 ≤ 2147483647) (h64 : -2147483648 ≤ x11) (h65 : x11 ≤ 2147483647) (h66 : -2147483648 ≤ x12) (h67 : x12 ≤ 2147483647) (h68 : -2147483648 ≤ x13) (h69 : x13 ≤ 2147483647) (h70 : -2147483648 ≤ x14) (h71 : x14 ≤ 2147483647) (h72 : -2147483648 ≤ x15) (h73 : x15 ≤ 2147483647) : -2147483648 ≤ x0 + x1 := by omega
theorem o61_122 {x0 x1 x2 x4 x5 x6 x7 x8 x9 x10 x11 x12 x13 x14 x15 : Int} {x3 : Nat} (h0 : 0 ≤ x2) (h1 : x2 ≤ 900) (h2 : 900 - x2 < ((x3 + 1 : Nat) : Int)) (h3 : 0 ≤ x4) (h4 : x4 ≤ 900) (h5 : x4 = x2) (h6 : 0 ≤ x5) (h7 : x5 ≤ 900) (h8 : x4 < x5) (h9 : 0 ≤ x6) (h10 : x6 ≤ 900) (h11 : x6 = x2) (h12 : 0 ≤ x7) (h13 : x7 ≤ 900) (h14 : x7 = x2) (h15 : 0 ≤ x8) (h16 : x8 ≤ 900) (h17 : x8 = x2) (h18 : 0 ≤ x9) (h19 : x9 ≤ 900) (h20 : x9 = x2) (h21 : 0 ≤ x10) (h22 : x10 ≤ 900) (h23 : x10 = x5) (h24 : x9 < x10) (h25 : 0 ≤ x11) (h26 : x11 ≤ 900) (h27 : x11 = x2) (h28 : 0 ≤ x12) (h29 : x12 ≤ 900) (h30 : x12 = x2) (h31 : 0 ≤ x13) (h32 : x13 ≤ 900) (h33 : x13 = x2) (h34 : 0 ≤ x14) (h35 : x14 ≤ 900) (h36 : x14 = x2) (h37 : 0 ≤ x15) (h38 : x15 ≤ 900) (h39 : x15 = x2) (h40 : 0 ≤ x0) (h41 : x0 ≤ 900) (h42 : x0 = x8) (h43 : x1 = 1) (h44 : -2147483648 ≤ x0) (h45 : x0 ≤ 2147483647) (h46 : -2147483648 ≤ x1) (h47 : x1 ≤ 2147483647) (h48 : -2147483648 ≤ x2) (h49 : x2 ≤ 2147483647) (h50 : -2147483648 ≤ x4) (h51 : x4 ≤ 2147483647) (h52 : -2147483648 ≤ x5) (h53 : x5 ≤ 2147483647) (h54 : -2147483648 ≤ x6) (h55 : x6 ≤ 2147483647) (h56 : -2147483648 ≤ x7) (h57 : x7 ≤ 2147483647) (h58 : -2147483648 ≤ x8) (h59 : x8 ≤ 2147483647) (h60 : -2147483648 ≤ x9) (h61 : x9 ≤ 2147483647) (h62 : -2147483648 ≤ x10) (h63 : x10 ≤ 2147483647) (h64 : -2147483648 ≤ x11) (h65 : x11 ≤ 2147483647) (h66 : -2147483648 ≤ x12) (h67 : x12 ≤ 2147483647) (h68 : -2147483648 ≤ x13) (h69 : x13 ≤ 2147483647) (h70 : -2147483648 ≤ x14) (h71 : x14 ≤ 2147483647) (h72 : -2147483648 ≤ x15) (h73 : x15 ≤ 2147483647) : x0 + x1 ≤ 2147483647 := by omega
theorem o61_123 {x0 x1 x3 x4 x5 x6 x7 x8 x9 x10 x11 x12 x13 x14 x15 x16 : Int} {x2 : Nat} (h0 : 0 ≤ x1) (h1 : x1 ≤ 900) (h2 : 900 - x1 < ((x2 + 1 : Nat) : Int)) (h3 : 0 ≤ x3) (h4 : x3 ≤ 900) (h5 : x3 = x1) (h6 : 0 ≤ x4) (h7 : x4 ≤ 900) (h8 : x3 < x4) (h9 : 0 ≤ x5) (h10 : x5 ≤ 900) (h11 : x5 = x1) (h12 : 0 ≤ x6) (h13 : x6 ≤ 900) (h14 : x6 = x1) (h15 : 0 ≤ x7) (h16 : x7 ≤ 900) (h17 : x7 = x1) (h18 : 0 ≤ x8) (h19 : x8 ≤ 900) (h20 : x8 = x1) (h21 : 0 ≤ x9) (h22 : x9 ≤ 900) (h23 : x9 = x4) (h24 : x8 < x9) (h25 : 0 ≤ x10) (h26 : x10 ≤ 900) (h27 : x10 = x1) (h28 : 0 ≤ x11) (h29 : x11 ≤ 900) (h30 : x11 = x1) (h31 : 0 ≤ x12) (h32 : x12 ≤ 900) (h33 : x12 = x1) (h34 : 0 ≤ x13) (h35 : x13 ≤ 900) (h36 : x13 = x1) (h37 : 0 ≤ x14) (h38 : x14 ≤ 900) (h39 : x14 = x1) (h40 : 0 ≤ x15) (h41 : x15 ≤ 900) (h42 : x15 = x7) (h43 : x16 = 1) (h44 : x0 = x15 + x16) : 0 ≤ x0 := by omega
theorem o61_124 {x0 x1 x3 x4 x5 x6 x7 x8 x9 x10 x11 x12 x13 x14 x15 x16 : Int} {x2 : Nat} (h0 : 0 ≤ x1) (h1 : x1 ≤ 900) (h2 : 900 - x1 < ((x2 + 1 : Nat) : Int)) (h3 : 0 ≤ x3) (h4 : x3 ≤ 900) (h5 : x3 = x1) (h6 : 0 ≤ x4) (h7 : x4 ≤ 900) (h8 : x3 < x4) (h9 : 0 ≤ x5) (h10 : x5 ≤ 900) (h11 : x5 = x1) (h12 : 0 ≤ x6) (h13 : x6 ≤ 900) (h14 : x6 = x1) (h15 : 0 ≤ x7) (h16 : x7 ≤ 900) (h17 : x7 = x1) (h18 : 0 ≤ x8) (h19 : x8 ≤ 900) (h20 : x8 = x1) (h21 : 0 ≤ x9) (h22 : x9 ≤ 900) (h23 : x9 = x4) (h24 : x8 < x9) (h25 : 0 ≤ x10) (h26 : x10 ≤ 900) (h27 : x10 = x1) (h28 : 0 ≤ x11) (h29 : x11 ≤ 900) (h30 : x11 = x1) (h31 : 0 ≤ x12) (h32 : x12 ≤ 900) (h33 : x12 = x1) (h34 : 0 ≤ x13) (h35 : x13 ≤ 900) (h36 : x13 = x1) (h37 : 0 ≤ x14) (h38 : x14 ≤ 900) (h39 : x14 = x1) (h40 : 0 ≤ x15) (h41 : x15 ≤ 900) (h42 : x15 = x7) (h43 : x16 = 1) (h44 : x0 = x15 + x16) : x0 ≤ 900 := by omega
theorem o61_125 {x0 x1 x3 x4 x5 x6 x7 x8 x9 x10 x11 x12 x13 x14 x15 x16 : Int} {x2 : Nat} (h0 : 0 ≤ x1) (h1 : x1 ≤ 900) (h2 : 900 - x1 < ((x2 + 1 : Nat) : Int)) (h3 : 0 ≤ x3) (h4 : x3 ≤ 900) (h5 : x3 = x1) (h6 : 0 ≤ x4) (h7 : x4 ≤ 900) (h8 : x3 < x4) (h9 : 0 ≤ x5) (h10 : x5 ≤ 900) (h11 : x5 = x1) (h12 : 0 ≤ x6) (h13 : x6 ≤ 900) (h14 : x6 = x1) (h15 : 0 ≤ x7) (h16 : x7 ≤ 900) (h17 : x7 = x1) (h18 : 0 ≤ x8) (h19 : x8 ≤ 900) (h20 : x8 = x1) (h21 : 0 ≤ x9) (h22 : x9 ≤ 900) (h23 : x9 = x4) (h24 : x8 < x9) (h25 : 0 ≤ x10) (h26 : x10 ≤ 900) (h27 : x10 = x1) (h28 : 0 ≤ x11) (h29 : x11 ≤ 900) (h30 : x11 = x1) (h31 : 0 ≤ x12) (h32 : x12 ≤ 900) (h33 : x12 = x1) (h34 : 0 ≤ x13) (h35 : x13 ≤ 900) (h36 : x13 = x1) (h37 : 0 ≤ x0) (h38 : x0 ≤ 900) (h39 : x0 = x1) (h40 : 0 ≤ x14) (h41 : x14 ≤ 900) (h42 : x14 = x7) (h43 : x15 = 1) (h44 : x16 = x14 + x15) : (x0).toNat < 900 := by omega
theorem o61_126 {x0 x1 x3 x4 x5 x6 x7 x8 x9 x10 : Int} {x2 : Nat} (h0 : 0 ≤ x1) (h1 : x1 ≤ 900) (h2 : 900 - x1 < ((x2 + 1 : Nat) : Int)) (h3 : 0 ≤ x3) (h4 : x3 ≤ 900) (h5 : x3 = x1) (h6 : 0 ≤ x4) (h7 : x4 ≤ 900) (h8 : x3 < x4) (h9 : 0 ≤ x0) (h10 : x0 ≤ 900) (h11 : x0 = x1) (h12 : 0 ≤ x5) (h13 : x5 ≤ 900) (h14 : x5 = x1) (h15 : 0 ≤ x6) (h16 : x6 ≤ 900) (h17 : x6 = x1) (h18 : 0 ≤ x7) (h19 : x7 ≤ 900) (h20 : x7 = x1) (h21 : 0 ≤ x8) (h22 : x8 ≤ 900) (h23 : x8 = x4) (h24 : x7 < x8) (h25 : 0 ≤ x9) (h26 : x9 ≤ 900) (h27 : x9 = x1) (h28 : 0 ≤ x10) (h29 : x10 ≤ 900) (h30 : x10 = x1) : (x0).toNat < 900 := by omega
theorem o61_127 {x0 x1 x3 x4 x5 x6 x7 x8 x9 x10 : Int} {x2 : Nat} (h0 : 0 ≤ x1) (h1 : x1 ≤ 900) (h2 : 900 - x1 < ((x2 + 1 : Nat) : Int)) (h3 : 0 ≤ x3) (h4 : x3 ≤ 900) (h5 : x3 = x1) (h6 : 0 ≤ x4) (h7 : x4 ≤ 900) (h8 : x3 < x4) (h9 : 0 ≤ x5) (h10 : x5 ≤ 900) (h11 : x5 = x1) (h12 : 0 ≤ x0) (h13 : x0 ≤ 900) (h14 : x0 = x1) (h15 : 0 ≤ x6) (h16 : x6 ≤ 900) (h17 : x6 = x1) (h18 : 0 ≤ x7) (h19 : x7 ≤ 900) (h20 : x7 = x1) (h21 : 0 ≤ x8) (h22 : x8 ≤ 900) (h23 : x8 = x4) (h24 : x7 < x8) (h25 : 0 ≤ x9) (h26 : x9 ≤ 900) (h27 : x9 = x1) (h28 : 0 ≤ x10) (h29 : x10 ≤ 900) (h30 : x10 = x1) : (x0).toNat < 900 := by omega
theorem o61_128 {x0 x1 x3 x4 x5 x6 x7 x8 x9 x10 : Int} {x2 : Nat} (h0 : 0 ≤ x1) (h1 : x1 ≤ 900) (h2 : 900 - x1 < ((x2 + 1 : Nat) : Int)) (h3 : 0 ≤ x3) (h4 : x3 ≤ 900) (h5 : x3 = x1) (h6 : 0 ≤ x4) (h7 : x4 ≤ 900) (h8 : x3 < x4) (h9 : 0 ≤ x5) (h10 : x5 ≤ 900) (h11 : x5 = x1) (h12 : 0 ≤ x6) (h13 : x6 ≤ 900) (h14 : x6 = x1) (h15 : 0 ≤ x0) (h16 : x0 ≤ 900) (h17 : x0 = x1) (h18 : 0 ≤ x7) (h19 : x7 ≤ 900) (h20 : x7 = x1) (h21 : 0 ≤ x8) (h22 : x8 ≤ 900) (h23 : x8 = x4) (h24 : x7 < x8) (h25 : 0 ≤ x9) (h26 : x9 ≤ 900) (h27 : x9 = x1) (h28 : 0 ≤ x10) (h29 : x10 ≤ 900) (h30 : x10 = x1) : 900 - x0 < (((900 - x0 + 1).toNat : Nat) : Int) := by omega
theorem o61_129 {x0 x1 x3 x4 x5 x6 x7 x8 x9 x10 : Int} {x2 : Nat} (h0 : 0 ≤ x1) (h1 : x1 ≤ 900) (h2 : 900 - x1 < ((x2 + 1 : Nat) : Int)) (h3 : 0 ≤ x3) (h4 : x3 ≤ 900) (h5 : x3 = x1) (h6 : 0 ≤ x4) (h7 : x4 ≤ 900) (h8 : x3 < x4) (h9 : 0 ≤ x5) (h10 : x5 ≤ 900) (h11 : x5 = x1) (h12 : 0 ≤ x6) (h13 : x6 ≤ 900) (h14 : x6 = x1) (h15 : 0 ≤ x0) (h16 : x0 ≤ 900) (h17 : x0 = x1) (h18 : 0 ≤ x7) (h19 : x7 ≤ 900) (h20 : x7 = x1) (h21 : 0 ≤ x8) (h22 : x8 ≤ 900) (h23 : x8 = x4) (h24 : x7 < x8) (h25 : 0 ≤ x9) (h26 : x9 ≤ 900) (h27 : x9 = x1) (h28 : 0 ≤ x10) (h29 : x10 ≤ 900) (h30 : x10 = x1) : 0 ≤ x0 := by omega
theorem o61_130 {x0 x1 x3 x4 x5 x6 x7 x8 x9 x10 : Int} {x2 : Nat} (h0 : 0 ≤ x1) (h1 : x1 ≤ 900) (h2 : 900 - x1 < ((x2 + 1 : Nat) : Int)) (h3 : 0 ≤ x3) (h4 : x3 ≤ 900) (h5 : x3 = x1) (h6 : 0 ≤ x4) (h7 : x4 ≤ 900) (h8 : x3 < x4) (h9 : 0 ≤ x5) (h10 : x5 ≤ 900) (h11 : x5 = x1) (h12 : 0 ≤ x6) (h13 : x6 ≤ 900) (h14 : x6 = x1) (h15 : 0 ≤ x0) (h16 : x0 ≤ 900) (h17 : x0 = x1) (h18 : 0 ≤ x7) (h19 : x7 ≤ 900) (h20 : x7 = x1) (h21 : 0 ≤ x8) (h22 : x8 ≤ 900) (h23 : x8 = x4) (h24 : x7 < x8) (h25 : 0 ≤ x9) (h26 : x9 ≤ 900) (h27 : x9 = x1) (h28 : 0 ≤ x10) (h29 : x10 ≤ 900) (h30 : x10 = x1) : x0 ≤ 900 := by omega
theorem o61_131 {x0 x1 x3 x4 x5 x6 x7 x8 x9 : Int} {x2 : Nat} (h0 : 0 ≤ x1) (h1 : x1 ≤ 900) (h2 : 900 - x1 < ((x2 + 1 : Nat) : Int)) (h3 : 0 ≤ x3) (h4 : x3 ≤ 900) (h5 : x3 = x1) (h6 : 0 ≤ x4) (h7 : x4 ≤ 900) (h8 : x3 < x4) (h9 : 0 ≤ x0) (h10 : x0 ≤ 900) (h11 : x0 = x1) (h12 : 0 ≤ x5) (h13 : x5 ≤ 900) (h14 : x5 = x1) (h15 : 0 ≤ x6) (h16 : x6 ≤ 900) (h17 : x6 = x1) (h18 : 0 ≤ x7) (h19 : x7 ≤ 900) (h20 : x7 = x1) (h21 : 0 ≤ x8) (h22 : x8 ≤ 900) (h23 : x8 = x4) (h24 : x7 < x8) (h25 : 0 ≤ x9) (h26 : x9 ≤ 900) (h27 : x9 = x1) : (x0).toNat < 900 := by omega
theorem o61_132 {x0 x1 x3 x4 x5 x6 x7 x8 x9 : Int} {x2 : Nat} (h0 : 0 ≤ x1) (h1 : x1 ≤ 900) (h2 : 900 - x1 < ((x2 + 1 : Nat) : Int)) (h3 : 0 ≤ x3) (h4 : x3 ≤ 900) (h5 : x3 = x1) (h6 : 0 ≤ x4) (h7 : x4 ≤ 900) (h8 : x3 < x4) (h9 : 0 ≤ x5) (h10 : x5 ≤ 900) (h11 : x5 = x1) (h12 : 0 ≤ x0) (h13 : x0 ≤ 900) (h14 : x0 = x1) (h15 : 0 ≤ x6) (h16 : x6 ≤ 900) (h17 : x6 = x1) (h18 : 0 ≤ x7) (h19 : x7 ≤ 900) (h20 : x7 = x1) (h21 : 0 ≤ x8) (h22 : x8 ≤ 900) (h23 : x8 = x4) (h24 : x7 < x8) (h25 : 0 ≤ x9) (h26 : x9 ≤ 900) (h27 : x9 = x1) : (x0).toNat < 900 := by omega
theorem o61_133 {x0 x1 x3 x4 x5 x6 x7 x8 x9 : Int} {x2 : Nat} (h0 : 0 ≤ x1) (h1 : x1 ≤ 900) (h2 : 900 - x1 < ((x2 + 1 : Nat) : Int)) (h3 : 0 ≤ x3) (h4 : x3 ≤ 900) (h5 : x3 = x1) (h6 : 0 ≤ x4) (h7 : x4 ≤ 900) (h8 : x3 < x4) (h9 : 0 ≤ x5) (h10 : x5 ≤ 900) (h11 : x5 = x1) (h12 : 0 ≤ x6) (h13 : x6 ≤ 900) (h14 : x6 = x1) (h15 : 0 ≤ x0) (h16 : x0 ≤ 900) (h17 : x0 = x1) (h18 : 0 ≤ x7) (h19 : x7 ≤ 900) (h20 : x7 = x1) (h21 : 0 ≤ x8) (h22 : x8 ≤ 900) (h23 : x8 = x4) (h24 : x7 < x8) (h25 : 0 ≤ x9) (h26 : x9 ≤ 900) (h27 : x9 = x1) : 900 - x0 < (((900 - x0 + 1).toNat : Nat) : Int) := by omega
theorem o61_134 {x0 x1 x3 x4 x5 x6 x7 x8 x9 : Int} {x2 : Nat} (h0 : 0 ≤ x1) (h1 : x1 ≤ 900) (h2 : 900 - x1 < ((x2 + 1 : Nat) : Int)) (h3 : 0 ≤ x3) (h4 : x3 ≤ 900) (h5 : x3 = x1) (h6 : 0 ≤ x4) (h7 : x4 ≤ 900) (h8 : x3 < x4) (h9 : 0 ≤ x5) (h10 : x5 ≤ 900) (h11 : x5 = x1) (h12 : 0 ≤ x6) (h13 : x6 ≤ 900) (h14 : x6 = x1) (h15 : 0 ≤ x0) (h16 : x0 ≤ 900) (h17 : x0 = x1) (h18 : 0 ≤ x7) (h19 : x7 ≤ 900) (h20 : x7 = x1) (h21 : 0 ≤ x8) (h22 : x8 ≤ 900) (h23 : x8 = x4) (h24 : x7 < x8) (h25 : 0 ≤ x9) (h26 : x9 ≤ 900) (h27 : x9 = x1) : 0 ≤ x0 := by omega
theorem o61_135 {x0 x1 x3 x4 x5 x6 x7 x8 x9 : Int} {x2 : Nat} (h0 : 0 ≤ x1) (h1 : x1 ≤ 900) (h2 : 900 - x1 < ((x2 + 1 : Nat) : Int)) (h3 : 0 ≤ x3) (h4 : x3 ≤ 900) (h5 : x3 = x1) (h6 : 0 ≤ x4) (h7 : x4 ≤ 900) (h8 : x3 < x4) (h9 : 0 ≤ x5) (h10 : x5 ≤ 900) (h11 : x5 = x1) (h12 : 0 ≤ x6) (h13 : x6 ≤ 900) (h14 : x6 = x1) (h15 : 0 ≤ x0) (h16 : x0 ≤ 900) (h17 : x0 = x1) (h18 : 0 ≤ x7) (h19 : x7 ≤ 900) (h20 : x7 = x1) (h21 : 0 ≤ x8) (h22 : x8 ≤ 900) (h23 : x8 = x4) (h24 : x7 < x8) (h25 : 0 ≤ x9) (h26 : x9 ≤ 900) (h27 : x9 = x1) : x0 ≤ 900 := by omega
theorem o61_136 {x0 x1 x3 x4 x5 x6 x7 x8 : Int} {x2 : Nat} (h0 : 0 ≤ x1) (h1 : x1 ≤ 900) (h2 : 900 - x1 < ((x2 + 1 : Nat) : Int)) (h3 : 0 ≤ x3) (h4 : x3 ≤ 900) (h5 : x3 = x1) (h6 : 0 ≤ x4) (h7 : x4 ≤ 900) (h8 : x3 < x4) (h9 : 0 ≤ x0) (h10 : x0 ≤ 900) (h11 : x0 = x1) (h12 : 0 ≤ x5) (h13 : x5 ≤ 900) (h14 : x5 = x1) (h15 : 0 ≤ x6) (h16 : x6 ≤ 900) (h17 : x6 = x1) (h18 : 0 ≤ x7) (h19 : x7 ≤ 900) (h20 : x7 = x1) (h21 : 0 ≤ x8) (h22 : x8 ≤ 900) (h23 : x8 = x4) (h24 : x8 ≤ x7) : (x0).toNat < 900 := by omega
theorem o61_137 {x0 x1 x3 x4 x5 x6 x7 x8 : Int} {x2 : Nat} (h0 : 0 ≤ x1) (h1 : x1 ≤ 900) (h2 : 900 - x1 < ((x2 + 1 : Nat) : Int)) (h3 : 0 ≤ x3) (h4 : x3 ≤ 900) (h5 : x3 = x1) (h6 : 0 ≤ x4) (h7 : x4 ≤ 900) (h8 : x3 < x4) (h9 : 0 ≤ x5) (h10 : x5 ≤ 900) (h11 : x5 = x1) (h12 : 0 ≤ x0) (h13 : x0 ≤ 900) (h14 : x0 = x1) (h15 : 0 ≤ x6) (h16 : x6 ≤ 900) (h17 : x6 = x1) (h18 : 0 ≤ x7) (h19 : x7 ≤ 900) (h20 : x7 = x1) (h21 : 0 ≤ x8) (h22 : x8 ≤ 900) (h23 : x8 = x4) (h24 : x8 ≤ x7) : (x0).toNat < 900 := by omega
theorem o61_138 {x0 x1 x3 x4 x5 x6 x7 x8 : Int} {x2 : Nat} (h0 : 0 ≤ x1) (h1 : x1 ≤ 900) (h2 : 900 - x1 < ((x2 + 1 : Nat) : Int)) (h3 : 0 ≤ x3) (h4 : x3 ≤ 900) (h5 : x3 = x1) (h6 : 0 ≤ x4) (h7 : x4 ≤ 900) (h8 : x3 < x4) (h9 : 0 ≤ x0) (h10 : x0 ≤ 900) (h11 : x0 = x1) (h12 : 0 ≤ x5) (h13 : x5 ≤ 900) (h14 : x5 = x1) (h15 : 0 ≤ x6) (h16 : x6 ≤ 900) (h17 : x6 = x1) (h18 : x7 = 1) (h19 : x8 = x6 + x7) : (x0).toNat < 900 := by omega
theorem o61_139 {x0 : Int} (h0 : 0 ≤ x0) (h1 : x0 ≤ 900) : 900 - x0 < (((900 - x0 + 1).toNat : Nat) : Int) := by omega
theorem o61_140 {x0 x2 : Int} {x1 : Nat} (h0 : strLen.getD x1 0 ≤ 102) (h1 : 0 ≤ x0) (h2 : x0 < ((strLen.getD x1 0 : Nat) : Int)) (h3 : x2 = ((strLen.getD x1 0 : Nat) : Int)) : 0 ≤ x0 := by omega
theorem o61_141 {x0 x1 : Int} {x2 : Nat} (h0 : strLen.getD x2 0 ≤ 102) (h1 : 0 ≤ x0) (h2 : x0 < ((strLen.getD x2 0 : Nat) : Int)) (h3 : x1 = ((strLen.getD x2 0 : Nat) : Int)) : x0 < x1 := by omega
theorem o61_142 {x0 x2 : Int} {x1 : Nat} (h0 : strLen.getD x1 0 ≤ 102) (h1 : 0 ≤ x0) (h2 : x0 < ((strLen.getD x1 0 : Nat) : Int)) (h3 : x2 = ((strLen.getD x1 0 : Nat) : Int)) : x0 < ((strLen.getD x1 0 : Nat) : Int) := by omega
theorem o61_143 {x0 : Int} (h0 : x0 = 255) : x0 = 255 := by omega
theorem o61_144 {x0 : Int} (h0 : 0 ≤ x0) (h1 : x0 ≤ 255) : 0 ≤ x0 := by omega
theorem o61_145 {x0 : Int} (h0 : 0 ≤ x0) (h1 : x0 ≤ 255) : x0 ≤ 65535 := by omega
theorem o61_146 {x0 x1 : Int} (h0 : 0 ≤ x1) (h1 : x1 ≤ 255) (h2 : x0 = x1) : 0 ≤ x0 := by omega
theorem o61_147 {x0 x1 : Int} (h0 : 0 ≤ x1) (h1 : x1 ≤ 255) (h2 : x0 = x1) : x0 ≤ 255 := by omega
theorem o61_148 {x0 x1 : Int} (h0 : 0 ≤ x1) (h1 : x1 ≤ 255) (h2 : x0 = x1) : x0 = x1 := by omega
theorem o61_149 {x0 x1 : Int} (h0 : 0 ≤ x1) (h1 : x1 ≤ 255) (h2 : x0 = x1) : x0 ≤ 65535 := by omega
theorem o61_150 {x0 : Int} {x1 : Nat} (h0 : strLen.getD x1 0 ≤ 102) (h1 : 0 ≤ x0) (h2 : x0 < ((strLen.getD x1 0 : Nat) : Int)) : 0 ≤ x0 := by omega
theorem o61_151 {x0 : Int} {x1 : Nat} (h0 : strLen.getD x1 0 ≤ 102) (h1 : 0 ≤ x0) (h2 : x0 < ((strLen.getD x1 0 : Nat) : Int)) : x0 < ((strLen.getD x1 0 : Nat) : Int) := by omega
theorem o61_152 {x0 : Int} (h0 : 0 ≤ x0) (h1 : x0 ≤ 255) : x0 ≤ 255 := by omega
theorem o61_153 {x0 x1 : Int} (h0 : 0 ≤ x0) (h1 : x0 ≤ 900) (h2 : 0 ≤ x1) (h3 : x1 ≤ 900) (h4 : -2147483648 ≤ x0) (h5 : x0 ≤ 2147483647) (h6 : -2147483648 ≤ x1) (h7 : x1 ≤ 2147483647) : -2147483648 ≤ x0 - x1 := by omega
theorem o61_154 {x0 x1 : Int} (h0 : 0 ≤ x0) (h1 : x0 ≤ 900) (h2 : 0 ≤ x1) (h3 : x1 ≤ 900) (h4 : -2147483648 ≤ x0) (h5 : x0 ≤ 2147483647) (h6 : -2147483648 ≤ x1) (h7 : x1 ≤ 2147483647) : x0 - x1 ≤ 2147483647 := by omega
theorem o61_155 {x0 x1 x3 x4 x5 x6 x8 : Int} {x2 x7 : Nat} (h0 : strLen.getD x2 0 ≤ 102) (h1 : 0 ≤ x3) (h2 : x3 ≤ 900) (h3 : 0 ≤ x4) (h4 : x4 ≤ 900) (h5 : x5 = x3 - x4) (h6 : 0 ≤ x6) (h7 : x6 ≤ 102) (h8 : x6 = ((strLen.getD x2 0 : Nat) : Int)) (h9 : x5 = x6) (h10 : 0 ≤ x1) (h11 : x1 ≤ 102) (h12 : 102 - x1 < ((x7 + 1 : Nat) : Int)) (h13 : 0 ≤ x8) (h14 : x8 ≤ 102) (h15 : x8 = ((strLen.getD x2 0 : Nat) : Int)) (h16 : x1 < x8) (h17 : 0 ≤ x0) (h18 : x0 ≤ 900) (h19 : x0 = x4) (h20 : -2147483648 ≤ x0) (h21 : x0 ≤ 2147483647) (h22 : -2147483648 ≤ x1) (h23 : x1 ≤ 2147483647) (h24 : -2147483648 ≤ x3) (h25 : x3 ≤ 2147483647) (h26 : -2147483648 ≤ x4) (h27 : x4 ≤ 2147483647) (h28 : -2147483648 ≤ x5) (h29 : x5 ≤ 2147483647) (h30 : -2147483648 ≤ x6) (h31 : x6 ≤ 2147483647) (h32 : -2147483648 ≤ x8) (h33 : x8 ≤ 2147483647) : -2147483648 ≤ x0 + x1 := by omega
theorem o61_156 {x0 x1 x3 x4 x5 x6 x8 : Int} {x2 x7 : Nat} (h0 : strLen.getD x2 0 ≤ 102) (h1 : 0 ≤ x3) (h2 : x3 ≤ 900) (h3 : 0 ≤ x4) (h4 : x4 ≤ 900) (h5 : x5 = x3 - x4) (h6 : 0 ≤ x6) (h7 : x6 ≤ 102) (h8 : x6 = ((strLen.getD x2 0 : Nat) : Int)) (h9 : x5 = x6) (h10 : 0 ≤ x1) (h11 : x1 ≤ 102) (h12 : 102 - x1 < ((x7 + 1 : Nat) : Int)) (h13 : 0 ≤ x8) (h14 : x8 ≤ 102) (h15 : x8 = ((strLen.getD x2 0 : Nat) : Int)) (h16 : x1 < x8) (h17 : 0 ≤ x0) (h18 : x0 ≤ 900) (h19 : x0 = x4) (h20 : -2147483648 ≤ x0) (h21 : x0 ≤ 2147483647) (h22 : -2147483648 ≤ x1) (h23 : x1 ≤ 2147483647) (h24 : -2147483648 ≤ x3) (h25 : x3 ≤ 2147483647) (h26 : -2147483648 ≤ x4) (h27 : x4 ≤ 2147483647) (h28 : -2147483648 ≤ x5) (h29 : x5 ≤ 2147483647) (h30 : -2147483648 ≤ x6) (h31 : x6 ≤ 2147483647) (h32 : -2147483648 ≤ x8) (h33 : x8 ≤ 2147483647) : x0 + x1 ≤ 2147483647 := by omega
theorem o61_157 {x0 x2 x3 x4 x5 x6 x8 x9 : Int} {x1 x7 : Nat} (h0 : strLen.getD x1 0 ≤ 102) (h1 : 0 ≤ x2) (h2 : x2 ≤ 900) (h3 : 0 ≤ x3) (h4 : x3 ≤ 900) (h5 : x4 = x2 - x3) (h6 : 0 ≤ x5) (h7 : x5 ≤ 102) (h8 : x5 = ((strLen.getD x1 0 : Nat) : Int)) (h9 : x4 = x5) (h10 : 0 ≤ x6) (h11 : x6 ≤ 102) (h12 : 102 - x6 < ((x7 + 1 : Nat) : Int)) (h13 : 0 ≤ x8) (h14 : x8 ≤ 102) (h15 : x8 = ((strLen.getD x1 0 : Nat) : Int)) (h16 : x6 < x8) (h17 : 0 ≤ x9) (h18 : x9 ≤ 900) (h19 : x9 = x3) (h20 : x0 = x9 + x6) : 0 ≤ x0 := by omega
theorem o61_158 {x0 x2 x3 x4 x5 x6 x8 x9 : Int} {x1 x7 : Nat} (h0 : strLen.getD x1 0 ≤ 102) (h1 : 0 ≤ x2) (h2 : x2 ≤ 900) (h3 : 0 ≤ x3) (h4 : x3 ≤ 900) (h5 : x4 = x2 - x3) (h6 : 0 ≤ x5) (h7 : x5 ≤ 102) (h8 : x5 = ((strLen.getD x1 0 : Nat) : Int)) (h9 : x4 = x5) (h10 : 0 ≤ x6) (h11 : x6 ≤ 102) (h12 : 102 - x6 < ((x7 + 1 : Nat) : Int)) (h13 : 0 ≤ x8) (h14 : x8 ≤ 102) (h15 : x8 = ((strLen.getD x1 0 : Nat) : Int)) (h16 : x6 < x8) (h17 : 0 ≤ x9) (h18 : x9 ≤ 900) (h19 : x9 = x3) (h20 : x0 = x9 + x6) : x0 < (900 : Nat) := by omega
theorem o61_159 {x0 x2 x3 x4 x5 x7 x8 x9 : Int} {x1 x6 : Nat} (h0 : strLen.getD x1 0 ≤ 102) (h1 : 0 ≤ x2) (h2 : x2 ≤ 900) (h3 : 0 ≤ x3) (h4 : x3 ≤ 900) (h5 : x4 = x2 - x3) (h6 : 0 ≤ x5) (h7 : x5 ≤ 102) (h8 : x5 = ((strLen.getD x1 0 : Nat) : Int)) (h9 : x4 = x5) (h10 : 0 ≤ x0) (h11 : x0 ≤ 102) (h12 : 102 - x0 < ((x6 + 1 : Nat) : Int)) (h13 : 0 ≤ x7) (h14 : x7 ≤ 102) (h15 : x7 = ((strLen.getD x1 0 : Nat) : Int)) (h16 : x0 < x7) (h17 : 0 ≤ x8) (h18 : x8 ≤ 900) (h19 : x8 = x3) (h20 : x9 = x8 + x0) : 0 ≤ x0 := by omega
theorem o61_160 {x0 x2 x3 x4 x5 x7 x8 x9 : Int} {x1 x6 : Nat} (h0 : strLen.getD x1 0 ≤ 102) (h1 : 0 ≤ x2) (h2 : x2 ≤ 900) (h3 : 0 ≤ x3) (h4 : x3 ≤ 900) (h5 : x4 = x2 - x3) (h6 : 0 ≤ x5) (h7 : x5 ≤ 102) (h8 : x5 = ((strLen.getD x1 0 : Nat) : Int)) (h9 : x4 = x5) (h10 : 0 ≤ x0) (h11 : x0 ≤ 102) (h12 : 102 - x0 < ((x6 + 1 : Nat) : Int)) (h13 : 0 ≤ x7) (h14 : x7 ≤ 102) (h15 : x7 = ((strLen.getD x1 0 : Nat) : Int)) (h16 : x0 < x7) (h17 : 0 ≤ x8) (h18 : x8 ≤ 900) (h19 : x8 = x3) (h20 : x9 = x8 + x0) : x0 < ((strLen.getD x1 0 : Nat) : Int) := by omega
theorem o61_161 {x0 x2 x3 x4 x5 x7 x8 x9 : Int} {x1 x6 : Nat} (h0 : strLen.getD x1 0 ≤ 102) (h1 : 0 ≤ x2) (h2 : x2 ≤ 900) (h3 : 0 ≤ x3) (h4 : x3 ≤ 900) (h5 : x4 = x2 - x3) (h6 : 0 ≤ x5) (h7 : x5 ≤ 102) (h8 : x5 = ((strLen.getD x1 0 : Nat) : Int)) (h9 : x4 = x5) (h10 : 0 ≤ x0) (h11 : x0 ≤ 102) (h12 : 102 - x0 < ((x6 + 1 : Nat) : Int)) (h13 : 0 ≤ x7) (h14 : x7 ≤ 102) (h15 : x7 = ((strLen.getD x1 0 : Nat) : Int)) (h16 : x0 < x7) (h17 : 0 ≤ x8) (h18 : x8 ≤ 900) (h19 : x8 = x3) (h20 : x9 = x8 + x0) (h21 : -2147483648 ≤ x0) (h22 : x0 ≤ 2147483647) (h23 : -2147483648 ≤ x2) (h24 : x2 ≤ 2147483647) (h25 : -2147483648 ≤ x3) (h26 : x3 ≤ 2147483647) (h27 : -2147483648 ≤ x4) (h28 : x4 ≤ 2147483647) (h29 : -2147483648 ≤ x5) (h30 : x5 ≤ 2147483647) (h31 : -2147483648 ≤ x7) (h32 : x7 ≤ 2147483647) (h33 : -2147483648 ≤ x8) (h34 : x8 ≤ 2147483647) (h35 : -2147483648 ≤ x9) (h36 : x9 ≤ 2147483647) : -2147483648 ≤ x0 + 1 := by omega
theorem o61_162 {x0 x2 x3 x4 x5 x7 x8 x9 : Int} {x1 x6 : Nat} (h0 : strLen.getD x1 0 ≤ 102) (h1 : 0 ≤ x2) (h2 : x2 ≤ 900) (h3 : 0 ≤ x3) (h4 : x3 ≤ 900) (h5 : x4 = x2 - x3) (h6 : 0 ≤ x5) (h7 : x5 ≤ 102) (h8 : x5 = ((strLen.getD x1 0 : Nat) : Int)) (h9 : x4 = x5) (h10 : 0 ≤ x0) (h11 : x0 ≤ 102) (h12 : 102 - x0 < ((x6 + 1 : Nat) : Int)) (h13 : 0 ≤ x7) (h14 : x7 ≤ 102) (h15 : x7 = ((strLen.getD x1 0 : Nat) : Int)) (h16 : x0 < x7) (h17 : 0 ≤ x8) (h18 : x8 ≤ 900) (h19 : x8 = x3) (h20 : x9 = x8 + x0) (h21 : -2147483648 ≤ x0) (h22 : x0 ≤ 2147483647) (h23 : -2147483648 ≤ x2) (h24 : x2 ≤ 2147483647) (h25 : -2147483648 ≤ x3) (h26 : x3 ≤ 2147483647) (h27 : -2147483648 ≤ x4) (h28 : x4 ≤ 2147483647) (h29 : -2147483648 ≤ x5) (h30 : x5 ≤ 2147483647) (h31 : -2147483648 ≤ x7) (h32 : x7 ≤ 2147483647) (h33 : -2147483648 ≤ x8) (h34 : x8 ≤ 2147483647) (h35 : -2147483648 ≤ x9) (h36 : x9 ≤ 2147483647) : x0 + 1 ≤ 2147483647 := by omega
theorem o61_163 {x0 x3 x4 x5 x6 x7 x8 x9 x10 : Int} {x1 x2 : Nat} (h0 : strLen.getD x2 0 ≤ 102) (h1 : 0 ≤ x3) (h2 : x3 ≤ 900) (h3 : 0 ≤ x4) (h4 : x4 ≤ 900) (h5 : x5 = x3 - x4) (h6 : 0 ≤ x6) (h7 : x6 ≤ 102) (h8 : x6 = ((strLen.getD x2 0 : Nat) : Int)) (h9 : x5 = x6) (h10 : 0 ≤ x7) (h11 : x7 ≤ 102) (h12 : 102 - x7 < ((x1 + 1 : Nat) : Int)) (h13 : 0 ≤ x8) (h14 : x8 ≤ 102) (h15 : x8 = ((strLen.getD x2 0 : Nat) : Int)) (h16 : x7 < x8) (h17 : 0 ≤ x9) (h18 : x9 ≤ 900) (h19 : x9 = x4) (h20 : x10 = x9 + x7) (h21 : x0 = x7 + 1) : 102 - x0 < (x1 : Int) := by omega
theorem o61_164 {x0 x2 x3 x4 x5 x6 x8 x9 x10 : Int} {x1 x7 : Nat} (h0 : strLen.getD x1 0 ≤ 102) (h1 : 0 ≤ x2) (h2 : x2 ≤ 900) (h3 : 0 ≤ x3) (h4 : x3 ≤ 900) (h5 : x4 = x2 - x3) (h6 : 0 ≤ x5) (h7 : x5 ≤ 102) (h8 : x5 = ((strLen.getD x1 0 : Nat) : Int)) (h9 : x4 = x5) (h10 : 0 ≤ x6) (h11 : x6 ≤ 102) (h12 : 102 - x6 < ((x7 + 1 : Nat) : Int)) (h13 : 0 ≤ x8) (h14 : x8 ≤ 102) (h15 : x8 = ((strLen.getD x1 0 : Nat) : Int)) (h16 : x6 < x8) (h17 : 0 ≤ x9) (h18 : x9 ≤ 900) (h19 : x9 = x3) (h20 : x10 = x9 + x6) (h21 : x0 = x6 + 1) : 0 ≤ x0 := by omega
theorem o61_165 {x0 x2 x3 x4 x5 x6 x8 x9 x10 : Int} {x1 x7 : Nat} (h0 : strLen.getD x1 0 ≤ 102) (h1 : 0 ≤ x2) (h2 : x2 ≤ 900) (h3 : 0 ≤ x3) (h4 : x3 ≤ 900) (h5 : x4 = x2 - x3) (h6 : 0 ≤ x5) (h7 : x5 ≤ 102) (h8 : x5 = ((strLen.getD x1 0 : Nat) : Int)) (h9 : x4 = x5) (h10 : 0 ≤ x6) (h11 : x6 ≤ 102) (h12 : 102 - x6 < ((x7 + 1 : Nat) : Int)) (h13 : 0 ≤ x8) (h14 : x8 ≤ 102) (h15 : x8 = ((strLen.getD x1 0 : Nat) : Int)) (h16 : x6 < x8) (h17 : 0 ≤ x9) (h18 : x9 ≤ 900) (h19 : x9 = x3) (h20 : x10 = x9 + x6) (h21 : x0 = x6 + 1) : x0 ≤ 102 := by omega
theorem o61_166 {x0 x2 x3 x4 x5 x6 x8 x9 x10 : Int} {x1 x7 : Nat} (h0 : strLen.getD x1 0 ≤ 102) (h1 : 0 ≤ x2) (h2 : x2 ≤ 900) (h3 : 0 ≤ x3) (h4 : x3 ≤ 900) (h5 : x4 = x2 - x3) (h6 : 0 ≤ x5) (h7 : x5 ≤ 102) (h8 : x5 = ((strLen.getD x1 0 : Nat) : Int)) (h9 : x4 = x5) (h10 : 0 ≤ x6) (h11 : x6 ≤ 102) (h12 : 102 - x6 < ((x7 + 1 : Nat) : Int)) (h13 : 0 ≤ x8) (h14 : x8 ≤ 102) (h15 : x8 = ((strLen.getD x1 0 : Nat) : Int)) (h16 : x6 < x8) (h17 : 0 ≤ x9) (h18 : x9 ≤ 900) (h19 : x9 = x3) (h20 : x0 = x9 + x6) (h21 : x10 = x6 + 1) : (x0).toNat < 900 := by omega
theorem o61_167 {x0 x2 x3 x4 x5 x6 x8 x9 : Int} {x1 x7 : Nat} (h0 : strLen.getD x1 0 ≤ 102) (h1 : 0 ≤ x2) (h2 : x2 ≤ 900) (h3 : 0 ≤ x3) (h4 : x3 ≤ 900) (h5 : x4 = x2 - x3) (h6 : 0 ≤ x5) (h7 : x5 ≤ 102) (h8 : x5 = ((strLen.getD x1 0 : Nat) : Int)) (h9 : x4 = x5) (h10 : 0 ≤ x6) (h11 : x6 ≤ 102) (h12 : 102 - x6 < ((x7 + 1 : Nat) : Int)) (h13 : 0 ≤ x8) (h14 : x8 ≤ 102) (h15 : x8 = ((strLen.getD x1 0 : Nat) : Int)) (h16 : x6 < x8) (h17 : 0 ≤ x9) (h18 : x9 ≤ 900) (h19 : x9 = x3) (h20 : x0 = x9 + x6) : (x0).toNat < 900 := by omega
theorem o61_168 {x0 : Int} (h0 : x0 = 0) : 102 - x0 < (((102 - x0 + 1).toNat : Nat) : Int) := by omega
theorem o61_169 {x0 : Int} (h0 : x0 = 0) : x0 ≤ 102 := by omega
set_option maxHeartbeats 4000000 in
set_option maxRecDepth 100000 in
theorem c_J1_canEncode_9a6adS {S : Sp} (l : Launch) (G : GG) (Z : RZ) (ad : Nat → Nat) (ws0 : va_W) (hT : Ty G S ad ws0) (a0 : Int32) (l0 : 1 ≤ a0.toInt) (u0 : a0.toInt ≤ 127) : Mq l yJ1_canEncode_9a6ad cJ1_canEncode_9a6ad 1 (some .boolean) 1 G Z [.int a0] ws0 (PI G S ad [] ws0 (fun r u => (1 ≤ r.toInt) ∧ (r.toInt ≤ 1))) := by
  refine Mq.start (by decide) (Nat.le_of_ble_eq_true rfl) ?_
  intro p e s m below meth c A ls C0 hZ h hl
  have hl : lv_has ls 1 [(0, .int a0)] := hl
  have h : Wt G S ad A s s.heap [] ws0 := ⟨h, hT⟩
  obtain ⟨args, hargs⟩ : ∃ z, z = ([.int a0] : List Value).toArray := ⟨_, rfl⟩
  rw [← hargs] at C0 ⊢
  have C0 : Cx p s m args meth c RJ1 cJ1_canEncode_9a6ad 1 (some .boolean) := C0
  obtain ⟨Q, hQ⟩ : ∃ z, z = MQ below ((PI G S ad [] ws0 (fun r u => (1 ≤ r.toInt) ∧ (r.toInt ≤ 1))) A) args s 0 0 A := ⟨_, rfl⟩
  rw [← hQ]
  refine lv_iload_n C0.1 C0.2.1 dJ1_canEncode_9a6ad_0 rfl (lv_at hl 0 rfl) ?_
  refine y_if_lt (tgt := 15) C0 dJ1_canEncode_9a6ad_1 (by decide) (fun c_1 => ((o61_1 l0 u0 c_1)).elim) (fun c_1 => ?_)
  refine lv_iload_n C0.1 C0.2.1 dJ1_canEncode_9a6ad_4 rfl (lv_at hl 0 rfl) ?_
  refine y_c3 (n := 255) C0 (by decide) dJ1_canEncode_9a6ad_5 (fun v_2 e_3 => ?_)
  refine y_icmp_gt (tgt := 15) C0 dJ1_canEncode_9a6ad_8 (by decide) (fun c_4 => ((o61_2 l0 u0 c_1 e_3 c_4)).elim) (fun c_4 => ?_)
  refine y_c1 (n := 1) C0 (by decide) dJ1_canEncode_9a6ad_11 (fun v_5 e_6 => ?_)
  refine lv_goto (tgt := 16) C0.1 C0.2.1 dJ1_canEncode_9a6ad_12 (by decide) ?_
  rw [hQ]
  exact y_zret C0 h (o61_5 e_6) (o61_4 e_6) Fr.rf ⟨(o61_3 e_6), (o61_4 e_6)⟩ dJ1_canEncode_9a6ad_16
set_option maxHeartbeats 4000000 in
set_option maxRecDepth 100000 in
theorem c_J1_indexOfChar_4cfefS {S : Sp} (l : Launch) (G : GG) (Z : RZ) (ad : Nat → Nat) (ws0 : va_W) (hT : Ty G S ad ws0) (k0 : Nat) (hsk0 : k0 < 23) (a1 : Int32) (a2 : Int32) (a3 : Int32) (l1 : 1 ≤ a1.toInt) (u1 : a1.toInt ≤ 127) (l2 : 0 ≤ a2.toInt) (u2 : a2.toInt ≤ 0) (l3 : 0 ≤ a3.toInt) (u3 : a3.toInt ≤ 102) (pre0 : a3.toInt ≤ ((strLen.getD k0 0 : Nat) : Int)) : Mq l yJ1_indexOfChar_4cfef cJ1_indexOfChar_4cfef 6 (some .int) 1 G Z [.ref (Z.2.2 k0), .int a1, .int a2, .int a3] ws0 (PI G S ad [] ws0 (fun r u => ((-1) ≤ r.toInt) ∧ (r.toInt ≤ 102) ∧ ((0 ≤ r.toInt ∧ ∃ j : Nat, (j : Int) < a3.toInt ∧ (chB k0 j).toInt = a1.toInt) ∨ (r.toInt = -1 ∧ ∀ j : Nat, (j : Int) < a3.toInt → (chB k0 j).toInt ≠ a1.toInt)))) := by
  refine Mq.start (by decide) (Nat.le_of_ble_eq_true rfl) ?_
  intro p e s m below meth c A ls C0 hZ h hl
  have hl : lv_has ls 6 [(0, .ref (Z.2.2 k0)), (1, .int a1), (2, .int a2), (3, .int a3)] := hl
  have h : Wt G S ad A s s.heap [] ws0 := ⟨h, hT⟩
  obtain ⟨args, hargs⟩ : ∃ z, z = ([.ref (Z.2.2 k0), .int a1, .int a2, .int a3] : List Value).toArray := ⟨_, rfl⟩
  rw [← hargs] at C0 ⊢
  have C0 : Cx p s m args meth c RJ1 cJ1_indexOfChar_4cfef 6 (some .int) := C0
  obtain ⟨Q, hQ⟩ : ∃ z, z = MQ below ((PI G S ad [] ws0 (fun r u => ((-1) ≤ r.toInt) ∧ (r.toInt ≤ 102) ∧ ((0 ≤ r.toInt ∧ ∃ j : Nat, (j : Int) < a3.toInt ∧ (chB k0 j).toInt = a1.toInt) ∨ (r.toInt = -1 ∧ ∀ j : Nat, (j : Int) < a3.toInt → (chB k0 j).toInt ≠ a1.toInt)))) A) args s 0 0 A := ⟨_, rfl⟩
  rw [← hQ]
  refine lv_iload_n C0.1 C0.2.1 dJ1_indexOfChar_4cfef_0 rfl (lv_at hl 1 rfl) ?_
  refine y_i2bE C0 (o61_6 l1 u1) (o61_7 l1 u1) dJ1_indexOfChar_4cfef_1 (fun v_1 e_2 => ?_)
  refine lv_istore (lv' := [(4, .int v_1), (0, .ref (Z.2.2 k0)), (1, .int a1), (2, .int a2), (3, .int a3)]) C0.1 C0.2.1 dJ1_indexOfChar_4cfef_2 hl (by decide) rfl (fun ls hl => ?_)
  refine lv_iload_n C0.1 C0.2.1 dJ1_indexOfChar_4cfef_4 rfl (lv_at hl 3 rfl) ?_
  refine lv_istore (lv' := [(5, .int a2), (4, .int v_1), (0, .ref (Z.2.2 k0)), (1, .int a1), (2, .int a2), (3, .int a3)]) C0.1 C0.2.1 dJ1_indexOfChar_4cfef_5 hl (by decide) rfl (fun ls hl => ?_)
  have lp_6 : ∀ (n_8 : Nat) (x5_3 : Int32) (H : Heap) (locs : List Loc) (ls : Array Slot) (ws_4 : va_W), 102 - x5_3.toInt < (n_8 : Int) → 0 ≤ x5_3.toInt → x5_3.toInt ≤ 102 → (∀ j : Nat, (j : Int) < x5_3.toInt → (chB k0 j).toInt ≠ a1.toInt) → Wt G S ad A s H locs ws_4 → Fr S [] ws0 ws_4 → lv_has ls 6 [(5, .int x5_3), (4, .int v_1), (0, .ref (Z.2.2 k0)), (1, .int a1), (2, .int a2), (3, .int a3)] → W p l e (rmd 1 0 0) s m args below meth c H locs 0 0 Q (F0 m 7 ls []) := by
    intro n_8
    induction n_8 with
    | zero => intro x5_3 H locs ls ws_4 hn_9 b_10 b_11 hNo h hF_5 hl; exact ((o61_8 b_10 b_11 hn_9)).elim
    | succ n_8 ih_7 =>
      intro x5_3 H locs ls ws_4 hn_9 b_10 b_11 hNo h hF_5 hl
      refine lv_iload C0.1 C0.2.1 dJ1_indexOfChar_4cfef_7 (lv_at hl 0 rfl) ?_
      refine lv_iload_n C0.1 C0.2.1 dJ1_indexOfChar_4cfef_9 rfl (lv_at hl 5 rfl) ?_
      refine y_icmp_ge (tgt := 31) C0 dJ1_indexOfChar_4cfef_10 (by decide) (fun c_12 => ?_) (fun c_12 => ?_)
      · -- 10
        refine y_c1 (n := (-1)) C0 (by decide) dJ1_indexOfChar_4cfef_31 (fun v_13 e_14 => ?_)
        rw [hQ]
        exact y_iret C0 h hF_5 ⟨(o61_9 e_14), (o61_10 e_14), (Or.inr ⟨(o61_11 e_14), fun j hj => hNo j (by omega)⟩)⟩ dJ1_indexOfChar_4cfef_32
      · -- 10
        refine lv_aload_n C0.1 C0.2.1 dJ1_indexOfChar_4cfef_13 rfl (lv_at hl 2 rfl) ?_
        refine lv_iload C0.1 C0.2.1 dJ1_indexOfChar_4cfef_14 (lv_at hl 0 rfl) ?_
        refine y_tbld C0 hZ h hsk0 (o61_12 (strLen_le k0) l3 u3 pre0 b_10 b_11 hn_9 c_12) (o61_13 (strLen_le k0) l3 u3 pre0 b_10 b_11 hn_9 c_12) dJ1_indexOfChar_4cfef_16 (fun v_15 e_16 => ?_)
        refine lv_iload C0.1 C0.2.1 dJ1_indexOfChar_4cfef_17 (lv_at hl 1 rfl) ?_
        refine y_icmp_ne (tgt := 25) C0 dJ1_indexOfChar_4cfef_19 (by decide) (fun c_17 => ?_) (fun c_17 => ?_)
        · -- 19
          refine y_inc (kp := 0) (n := 1) (fun v_18 => [(5, .int v_18), (4, .int v_1), (0, .ref (Z.2.2 k0)), (1, .int a1), (2, .int a2), (3, .int a3)]) C0 hl rfl (by decide) (by decide) (fun _ => rfl) (o61_14 (strLen_le k0) l3 u3 pre0 b_10 b_11 hn_9 c_12 (le_min x5_3) (le_max x5_3) (le_min a3) (le_max a3)) (o61_15 (strLen_le k0) l3 u3 pre0 b_10 b_11 hn_9 c_12 (le_min x5_3) (le_max x5_3) (le_min a3) (le_max a3)) dJ1_indexOfChar_4cfef_25 (fun v_18 ls e_19 hl => ?_)
          refine lv_goto (tgt := 7) C0.1 C0.2.1 dJ1_indexOfChar_4cfef_28 (by decide) ?_
          exact ih_7 v_18 _ _ _ _ (o61_16 (strLen_le k0) l3 u3 pre0 b_10 b_11 hn_9 c_12 e_19) (o61_17 (strLen_le k0) l3 u3 pre0 b_10 b_11 hn_9 c_12 e_19) (o61_18 (strLen_le k0) l3 u3 pre0 b_10 b_11 hn_9 c_12 e_19) ((fun j hj => (show (j : Int) < x5_3.toInt ∨ j = x5_3.toInt.toNat by omega).elim (fun q => hNo j q) (fun q => by rw [q, ← e_16]; omega))) h hF_5 (lv_sub hl [0, 1, 2, 3, 4, 5] rfl)
        · -- 19
          refine lv_iload C0.1 C0.2.1 dJ1_indexOfChar_4cfef_22 (lv_at hl 0 rfl) ?_
          rw [hQ]
          exact y_iret C0 h hF_5 ⟨(o61_19 (strLen_le k0) l3 u3 pre0 b_10 b_11 hn_9 c_12), (o61_20 (strLen_le k0) l3 u3 pre0 b_10 b_11 hn_9 c_12), (Or.inl ⟨by omega, x5_3.toInt.toNat, by omega, by rw [← e_16]; omega⟩)⟩ dJ1_indexOfChar_4cfef_24
  exact lp_6 ((102 - a2.toInt + 1).toNat) a2 _ _ _ _ (o61_21 l2 u2) (o61_22 l2 u2) (o61_23 l2 u2) ((fun j hj => absurd hj (by omega))) h Fr.rf (lv_sub hl [0, 1, 2, 3, 4, 5] rfl)
set_option maxHeartbeats 4000000 in
set_option maxRecDepth 100000 in
theorem c_J1_indexOf_4cfefS {S : Sp} (l : Launch) (G : GG) (Z : RZ) (ad : Nat → Nat) (ws0 : va_W) (hT : Ty G S ad ws0) (k0 : Nat) (hsk0 : k0 < 23) (a1 : Int32) (a2 : Int32) (a3 : Int32) (l1 : 1 ≤ a1.toInt) (u1 : a1.toInt ≤ 127) (l2 : 0 ≤ a2.toInt) (u2 : a2.toInt ≤ 0) (l3 : 0 ≤ a3.toInt) (u3 : a3.toInt ≤ 102) (pre0 : a3.toInt = ((strLen.getD k0 0 : Nat) : Int)) : Mq l yJ1_indexOf_4cfef cJ1_indexOf_4cfef 4 (some .int) 2 G Z [.ref (Z.2.2 k0), .int a1, .int a2, .int a3] ws0 (PI G S ad [] ws0 (fun r u => ((-1) ≤ r.toInt) ∧ (r.toInt ≤ 102) ∧ ((0 ≤ r.toInt ∧ ∃ j : Nat, (j : Int) < a3.toInt ∧ (chB k0 j).toInt = a1.toInt) ∨ (r.toInt = -1 ∧ ∀ j : Nat, (j : Int) < a3.toInt → (chB k0 j).toInt ≠ a1.toInt)))) := by
  refine Mq.start (by decide) (Nat.le_of_ble_eq_true rfl) ?_
  intro p e s m below meth c A ls C0 hZ h hl
  have hl : lv_has ls 4 [(0, .ref (Z.2.2 k0)), (1, .int a1), (2, .int a2), (3, .int a3)] := hl
  have h : Wt G S ad A s s.heap [] ws0 := ⟨h, hT⟩
  obtain ⟨args, hargs⟩ : ∃ z, z = ([.ref (Z.2.2 k0), .int a1, .int a2, .int a3] : List Value).toArray := ⟨_, rfl⟩
  rw [← hargs] at C0 ⊢
  have C0 : Cx p s m args meth c RJ1 cJ1_indexOf_4cfef 4 (some .int) := C0
  obtain ⟨Q, hQ⟩ : ∃ z, z = MQ below ((PI G S ad [] ws0 (fun r u => ((-1) ≤ r.toInt) ∧ (r.toInt ≤ 102) ∧ ((0 ≤ r.toInt ∧ ∃ j : Nat, (j : Int) < a3.toInt ∧ (chB k0 j).toInt = a1.toInt) ∨ (r.toInt = -1 ∧ ∀ j : Nat, (j : Int) < a3.toInt → (chB k0 j).toInt ≠ a1.toInt)))) A) args s 0 0 A := ⟨_, rfl⟩
  rw [← hQ]
  refine lv_iload_n C0.1 C0.2.1 dJ1_indexOf_4cfef_0 rfl (lv_at hl 1 rfl) ?_
  refine y_ci h (y_rS (As := [.int a1]) (rest := []) C0 hZ h (c_J1_canEncode_9a6adS l G Z ad _ h.2 a1 (o61_24 l1 u1) (o61_7 l1 u1)) k_J1_canEncode_9a6ad q_657 q_656 hl.1 rfl rfl (Nat.le_of_ble_eq_true rfl) dJ1_indexOf_4cfef_1 ⟨Nat.le_of_ble_eq_true rfl, Nat.le_of_ble_eq_true rfl⟩ ⟨Nat.le_of_ble_eq_true rfl, Nat.le_of_ble_eq_true rfl⟩) (fun r_4 H locs ws_1 h u_2 p_3 => ?_)
  obtain ⟨e_5, e_6⟩ := p_3
  refine y_if_ne (tgt := 9) C0 dJ1_indexOf_4cfef_4 (by decide) (fun c_7 => ?_) (fun c_7 => ((o61_25 e_5 e_6 c_7)).elim)
  refine lv_iload_n C0.1 C0.2.1 dJ1_indexOf_4cfef_9 rfl (lv_at hl 2 rfl) ?_
  refine y_c1 (n := 0) C0 (by decide) dJ1_indexOf_4cfef_10 (fun v_8 e_9 => ?_)
  refine y_max C0 hl.1 q_659 q_660 q_141 q_661 (Nat.le_of_ble_eq_true rfl) (Nat.le_of_ble_eq_true rfl) (Nat.le_of_ble_eq_true rfl) (Nat.le_of_ble_eq_true rfl) dJ1_indexOf_4cfef_11 (fun v_10 e_11 => ?_)
  refine lv_istore_n (lv' := [(2, .int v_10), (0, .ref (Z.2.2 k0)), (1, .int a1), (3, .int a3)]) C0.1 C0.2.1 dJ1_indexOf_4cfef_14 rfl hl (by decide) rfl (fun ls hl => ?_)
  refine lv_iload_n C0.1 C0.2.1 dJ1_indexOf_4cfef_15 rfl (lv_at hl 3 rfl) ?_
  refine lv_aload_n C0.1 C0.2.1 dJ1_indexOf_4cfef_16 rfl (lv_at hl 1 rfl) ?_
  refine y_tlen C0 hZ h hsk0 dJ1_indexOf_4cfef_17 (fun v_12 e_13 => ?_)
  refine y_min C0 hl.1 q_662 q_663 q_141 q_664 (Nat.le_of_ble_eq_true rfl) (Nat.le_of_ble_eq_true rfl) (Nat.le_of_ble_eq_true rfl) (Nat.le_of_ble_eq_true rfl) dJ1_indexOf_4cfef_18 (fun v_14 e_15 => ?_)
  refine lv_istore_n (lv' := [(3, .int v_14), (2, .int v_10), (0, .ref (Z.2.2 k0)), (1, .int a1)]) C0.1 C0.2.1 dJ1_indexOf_4cfef_21 rfl hl (by decide) rfl (fun ls hl => ?_)
  refine lv_iload_n C0.1 C0.2.1 dJ1_indexOf_4cfef_22 rfl (lv_at hl 1 rfl) ?_
  refine lv_iload_n C0.1 C0.2.1 dJ1_indexOf_4cfef_23 rfl (lv_at hl 0 rfl) ?_
  refine y_icmp_lt (tgt := 29) C0 dJ1_indexOf_4cfef_24 (by decide) (fun c_16 => ?_) (fun c_16 => ?_)
  · -- 24
    refine lv_aload_n C0.1 C0.2.1 dJ1_indexOf_4cfef_29 rfl (lv_at hl 2 rfl) ?_
    refine lv_iload_n C0.1 C0.2.1 dJ1_indexOf_4cfef_30 rfl (lv_at hl 3 rfl) ?_
    refine lv_iload_n C0.1 C0.2.1 dJ1_indexOf_4cfef_31 rfl (lv_at hl 1 rfl) ?_
    refine lv_iload_n C0.1 C0.2.1 dJ1_indexOf_4cfef_32 rfl (lv_at hl 0 rfl) ?_
    refine y_ci h (y_rS (As := [.ref (Z.2.2 k0), .int a1, .int v_10, .int v_14]) (rest := []) C0 hZ h (c_J1_indexOfChar_4cfefS l G Z ad _ h.2 k0 hsk0 a1 v_10 v_14 (o61_24 l1 u1) (o61_7 l1 u1) (o61_26 (strLen_le k0) l2 u2 l3 u3 pre0 e_9 e_11 e_13 e_15 c_16) (o61_27 (strLen_le k0) l2 u2 l3 u3 pre0 e_9 e_11 e_13 e_15 c_16) (o61_28 (strLen_le k0) l2 u2 l3 u3 pre0 e_9 e_11 e_13 e_15 c_16) (o61_29 (strLen_le k0) l2 u2 l3 u3 pre0 e_9 e_11 e_13 e_15 c_16) (o61_30 (strLen_le k0) l2 u2 l3 u3 pre0 e_9 e_11 e_13 e_15 c_16)) k_J1_indexOfChar_4cfef q_666 q_665 hl.1 rfl rfl (Nat.le_of_ble_eq_true rfl) dJ1_indexOf_4cfef_33 ⟨Nat.le_of_ble_eq_true rfl, Nat.le_of_ble_eq_true rfl⟩ ⟨Nat.le_of_ble_eq_true rfl, Nat.le_of_ble_eq_true rfl⟩) (fun r_20 H locs ws_17 h u_18 p_19 => ?_)
    obtain ⟨e_21, e_22, e_23⟩ := p_19
    rw [hQ]
    exact y_iret C0 h (Fr.tr u_2 u_18) ⟨(o61_31 e_21 e_22), (o61_32 e_21 e_22), (by rcases e_23 with ⟨qa, j, qb, qc⟩ | ⟨qa, qb⟩; exact Or.inl ⟨qa, j, by omega, qc⟩; exact Or.inr ⟨qa, fun j hj => qb j (by omega)⟩)⟩ dJ1_indexOf_4cfef_36
  · -- 24
    refine y_c1 (n := (-1)) C0 (by decide) dJ1_indexOf_4cfef_27 (fun v_24 e_25 => ?_)
    rw [hQ]
    exact y_iret C0 h u_2 ⟨(o61_9 e_25), (o61_10 e_25), (Or.inr ⟨(o61_11 e_25), fun j hj => absurd hj (by omega)⟩)⟩ dJ1_indexOf_4cfef_28
set_option maxHeartbeats 4000000 in
set_option maxRecDepth 100000 in
theorem c_J0_indexOf_7cf53S {S : Sp} (l : Launch) (G : GG) (Z : RZ) (ad : Nat → Nat) (ws0 : va_W) (hT : Ty G S ad ws0) (k0 : Nat) (hsk0 : k0 < 23) (a1 : Int32) (a2 : Int32) (l1 : 1 ≤ a1.toInt) (u1 : a1.toInt ≤ 127) (l2 : 0 ≤ a2.toInt) (u2 : a2.toInt ≤ 0) : Mq l yJ0_indexOf_7cf53 cJ0_indexOf_7cf53 3 (some .int) 3 G Z [.ref (Z.2.1 k0), .int a1, .int a2] ws0 (PI G S ad [] ws0 (fun r u => ((-1) ≤ r.toInt) ∧ (r.toInt ≤ 102) ∧ ((0 ≤ r.toInt ∧ ∃ j : Nat, j < strLen.getD k0 0 ∧ (chB k0 j).toInt = a1.toInt) ∨ (r.toInt = -1 ∧ ∀ j : Nat, j < strLen.getD k0 0 → (chB k0 j).toInt ≠ a1.toInt)))) := by
  refine Mq.start (by decide) (Nat.le_of_ble_eq_true rfl) ?_
  intro p e s m below meth c A ls C0 hZ h hl
  have hl : lv_has ls 3 [(0, .ref (Z.2.1 k0)), (1, .int a1), (2, .int a2)] := hl
  have h : Wt G S ad A s s.heap [] ws0 := ⟨h, hT⟩
  obtain ⟨args, hargs⟩ : ∃ z, z = ([.ref (Z.2.1 k0), .int a1, .int a2] : List Value).toArray := ⟨_, rfl⟩
  rw [← hargs] at C0 ⊢
  have C0 : Cx p s m args meth c RJ0 cJ0_indexOf_7cf53 3 (some .int) := C0
  obtain ⟨Q, hQ⟩ : ∃ z, z = MQ below ((PI G S ad [] ws0 (fun r u => ((-1) ≤ r.toInt) ∧ (r.toInt ≤ 102) ∧ ((0 ≤ r.toInt ∧ ∃ j : Nat, j < strLen.getD k0 0 ∧ (chB k0 j).toInt = a1.toInt) ∨ (r.toInt = -1 ∧ ∀ j : Nat, j < strLen.getD k0 0 → (chB k0 j).toInt ≠ a1.toInt)))) A) args s 0 0 A := ⟨_, rfl⟩
  rw [← hQ]
  refine lv_aload_n C0.1 C0.2.1 dJ0_indexOf_7cf53_0 rfl (lv_at hl 0 rfl) ?_
  refine y_ci h (y_rT (As := []) (rest := []) C0 hZ h (c_J0_isLatin1_aae02 l G Z ad _ h.2 k0 hsk0) k_J0_isLatin1_aae02 q_640 q_641 q_639 hsk0 rfl hl.1 rfl rfl (Nat.le_of_ble_eq_true rfl) dJ0_indexOf_7cf53_1 ⟨Nat.le_of_ble_eq_true rfl, Nat.le_of_ble_eq_true rfl⟩ ⟨Nat.le_of_ble_eq_true rfl, Nat.le_of_ble_eq_true rfl⟩) (fun r_4 H locs ws_1 h u_2 p_3 => ?_)
  obtain ⟨e_5, e_6⟩ := p_3
  refine y_if_eq (tgt := 23) C0 dJ0_indexOf_7cf53_4 (by decide) (fun c_7 => ((o61_25 e_5 e_6 c_7)).elim) (fun c_7 => ?_)
  refine lv_aload_n C0.1 C0.2.1 dJ0_indexOf_7cf53_7 rfl (lv_at hl 0 rfl) ?_
  refine y_sval C0 hZ h hsk0 q_2071 dJ0_indexOf_7cf53_8 ?_
  refine lv_iload_n C0.1 C0.2.1 dJ0_indexOf_7cf53_11 rfl (lv_at hl 1 rfl) ?_
  refine lv_iload_n C0.1 C0.2.1 dJ0_indexOf_7cf53_12 rfl (lv_at hl 2 rfl) ?_
  refine lv_aload_n C0.1 C0.2.1 dJ0_indexOf_7cf53_13 rfl (lv_at hl 0 rfl) ?_
  refine y_ci h (y_rT (As := []) (rest := [.int a2, .int a1, .ref (Z.2.2 k0)]) C0 hZ h (c_J0_length_8abf5 l G Z ad _ h.2 k0 hsk0) k_J0_length_8abf5 q_646 q_647 q_645 hsk0 rfl hl.1 rfl rfl (Nat.le_of_ble_eq_true rfl) dJ0_indexOf_7cf53_14 ⟨Nat.le_of_ble_eq_true rfl, Nat.le_of_ble_eq_true rfl⟩ ⟨Nat.le_of_ble_eq_true rfl, Nat.le_of_ble_eq_true rfl⟩) (fun r_11 H locs ws_8 h u_9 p_10 => ?_)
  obtain ⟨e_12, e_13, e_14⟩ := p_10
  refine y_ci h (y_rS (As := [.ref (Z.2.2 k0), .int a1, .int a2, .int r_11]) (rest := []) C0 hZ h (c_J1_indexOf_4cfefS l G Z ad _ h.2 k0 hsk0 a1 a2 r_11 (o61_24 l1 u1) (o61_7 l1 u1) (o61_22 l2 u2) (o61_33 l2 u2) (o61_34 (strLen_le k0) e_12 e_13 e_14) (o61_35 (strLen_le k0) e_12 e_13 e_14) (o61_36 (strLen_le k0) e_12 e_13 e_14)) k_J1_indexOf_4cfef q_654 q_653 hl.1 rfl rfl (Nat.le_of_ble_eq_true rfl) dJ0_indexOf_7cf53_17 ⟨Nat.le_of_ble_eq_true rfl, Nat.le_of_ble_eq_true rfl⟩ ⟨Nat.le_of_ble_eq_true rfl, Nat.le_of_ble_eq_true rfl⟩) (fun r_18 H locs ws_15 h u_16 p_17 => ?_)
  obtain ⟨e_19, e_20, e_21⟩ := p_17
  refine lv_goto (tgt := 36) C0.1 C0.2.1 dJ0_indexOf_7cf53_20 (by decide) ?_
  rw [hQ]
  exact y_iret C0 h (Fr.tr (Fr.tr u_2 u_9) u_16) ⟨(o61_31 e_19 e_20), (o61_32 e_19 e_20), (by rcases e_21 with ⟨qa, j, qb, qc⟩ | ⟨qa, qb⟩; exact Or.inl ⟨qa, j, by omega, qc⟩; exact Or.inr ⟨qa, fun j hj => qb j (by omega)⟩)⟩ dJ0_indexOf_7cf53_36
set_option maxHeartbeats 4000000 in
set_option maxRecDepth 100000 in
theorem c_J0_indexOf_0f7a4S {S : Sp} (l : Launch) (G : GG) (Z : RZ) (ad : Nat → Nat) (ws0 : va_W) (hT : Ty G S ad ws0) (k0 : Nat) (hsk0 : k0 < 23) (a1 : Int32) (l1 : 1 ≤ a1.toInt) (u1 : a1.toInt ≤ 127) : Mq l yJ0_indexOf_0f7a4 cJ0_indexOf_0f7a4 2 (some .int) 4 G Z [.ref (Z.2.1 k0), .int a1] ws0 (PI G S ad [] ws0 (fun r u => ((-1) ≤ r.toInt) ∧ (r.toInt ≤ 102) ∧ ((0 ≤ r.toInt ∧ ∃ j : Nat, j < strLen.getD k0 0 ∧ (chB k0 j).toInt = a1.toInt) ∨ (r.toInt = -1 ∧ ∀ j : Nat, j < strLen.getD k0 0 → (chB k0 j).toInt ≠ a1.toInt)))) := by
  refine Mq.start (by decide) (Nat.le_of_ble_eq_true rfl) ?_
  intro p e s m below meth c A ls C0 hZ h hl
  have hl : lv_has ls 2 [(0, .ref (Z.2.1 k0)), (1, .int a1)] := hl
  have h : Wt G S ad A s s.heap [] ws0 := ⟨h, hT⟩
  obtain ⟨args, hargs⟩ : ∃ z, z = ([.ref (Z.2.1 k0), .int a1] : List Value).toArray := ⟨_, rfl⟩
  rw [← hargs] at C0 ⊢
  have C0 : Cx p s m args meth c RJ0 cJ0_indexOf_0f7a4 2 (some .int) := C0
  obtain ⟨Q, hQ⟩ : ∃ z, z = MQ below ((PI G S ad [] ws0 (fun r u => ((-1) ≤ r.toInt) ∧ (r.toInt ≤ 102) ∧ ((0 ≤ r.toInt ∧ ∃ j : Nat, j < strLen.getD k0 0 ∧ (chB k0 j).toInt = a1.toInt) ∨ (r.toInt = -1 ∧ ∀ j : Nat, j < strLen.getD k0 0 → (chB k0 j).toInt ≠ a1.toInt)))) A) args s 0 0 A := ⟨_, rfl⟩
  rw [← hQ]
  refine lv_aload_n C0.1 C0.2.1 dJ0_indexOf_0f7a4_0 rfl (lv_at hl 0 rfl) ?_
  refine lv_iload_n C0.1 C0.2.1 dJ0_indexOf_0f7a4_1 rfl (lv_at hl 1 rfl) ?_
  refine y_c1 (n := 0) C0 (by decide) dJ0_indexOf_0f7a4_2 (fun v_1 e_2 => ?_)
  refine y_ci h (y_rT (As := [.int a1, .int v_1]) (rest := []) C0 hZ h (c_J0_indexOf_7cf53S l G Z ad _ h.2 k0 hsk0 a1 v_1 (o61_24 l1 u1) (o61_7 l1 u1) (o61_37 e_2) (o61_38 e_2)) k_J0_indexOf_7cf53 q_636 q_637 q_635 hsk0 rfl hl.1 rfl rfl (Nat.le_of_ble_eq_true rfl) dJ0_indexOf_0f7a4_3 ⟨Nat.le_of_ble_eq_true rfl, Nat.le_of_ble_eq_true rfl⟩ ⟨Nat.le_of_ble_eq_true rfl, Nat.le_of_ble_eq_true rfl⟩) (fun r_6 H locs ws_3 h u_4 p_5 => ?_)
  obtain ⟨e_7, e_8, e_9⟩ := p_5
  rw [hQ]
  exact y_iret C0 h u_4 ⟨(o61_31 e_7 e_8), (o61_32 e_7 e_8), (by rcases e_9 with ⟨qa, j, qb, qc⟩ | ⟨qa, qb⟩; exact Or.inl ⟨qa, j, by omega, qc⟩; exact Or.inr ⟨qa, fun j hj => qb j (by omega)⟩)⟩ dJ0_indexOf_0f7a4_6
set_option maxHeartbeats 4000000 in
set_option maxRecDepth 100000 in
theorem c_X5_failS (l : Launch) (G : GG) (Z : RZ) (ad : Nat → Nat) (ws0 : va_W) (hT : Ty G (SC tt) ad ws0) (a1 : Int32) : Mq l yX5_fail cX5_fail 2 none 1 G Z [.ref (ad 77), .int a1] ws0 (PV G (SC tt) ad [16] ws0 (fun u => (aF 77 u = failS a1.toInt (aF 77 ws0)))) := by
  refine Mq.start (by decide) (Nat.le_of_ble_eq_true rfl) ?_
  intro p e s m below meth c A ls C0 hZ h hl
  have hl : lv_has ls 2 [(0, .ref (ad 77)), (1, .int a1)] := hl
  have h : Wt G (SC tt) ad A s s.heap [] ws0 := ⟨h, hT⟩
  obtain ⟨args, hargs⟩ : ∃ z, z = ([.ref (ad 77), .int a1] : List Value).toArray := ⟨_, rfl⟩
  rw [← hargs] at C0 ⊢
  have C0 : Cx p s m args meth c RX5 cX5_fail 2 none := C0
  obtain ⟨Q, hQ⟩ : ∃ z, z = MQ below ((PV G (SC tt) ad [16] ws0 (fun u => (aF 77 u = failS a1.toInt (aF 77 ws0)))) A) args s 0 0 A := ⟨_, rfl⟩
  rw [← hQ]
  refine lv_aload_n C0.1 C0.2.1 dX5_fail_0 rfl (lv_at hl 0 rfl) ?_
  refine tg_X5_fault C0 h kSC_77 q_378 dX5_fail_1 (fun v_1 e_2 e_3 e_4 => ?_)
  refine y_if_ne (tgt := 20) C0 dX5_fail_4 (by decide) (fun c_5 => ?_) (fun c_5 => ?_)
  · -- 4
    refine lv_aload_n C0.1 C0.2.1 dX5_fail_20 rfl (lv_at hl 0 rfl) ?_
    refine y_c1 (n := 0) C0 (by decide) dX5_fail_21 (fun v_6 e_7 => ?_)
    refine tp_X5_kind C0 h kSC_77 q_374 (le_min v_6) (le_max v_6) dX5_fail_22 (fun H locs ws_8 h u_9 => ?_)
    have hv_10 : (aF 77 ws0) 8 = v_1.toInt := (aF_at (by decide) e_2)
    have hs_11 : aF 77 ws_8 = (upI (aF 77 ws0) 4 0) := (aF_up (by decide) u_9).trans (by rw [(o61_39 e_7)])
    have hz_12 : (upI (aF 77 ws0) 4 0) = failS a1.toInt (aF 77 ws0) := by unfold failS; repeat (first | rw [if_pos (by omega)] | rw [if_neg (by omega)])
    rw [hQ]
    exact y_vret C0 h (Fr.up u_9.1 kSC_77 (by decide)) (Eq.trans hs_11 hz_12) dX5_fail_25
  · -- 4
    refine lv_aload_n C0.1 C0.2.1 dX5_fail_7 rfl (lv_at hl 0 rfl) ?_
    refine lv_iload_n C0.1 C0.2.1 dX5_fail_8 rfl (lv_at hl 1 rfl) ?_
    refine tp_X5_fault C0 h kSC_77 q_378 (le_min a1) (le_max a1) dX5_fail_9 (fun H locs ws_13 h u_14 => ?_)
    refine lv_aload_n C0.1 C0.2.1 dX5_fail_12 rfl (lv_at hl 0 rfl) ?_
    refine lv_aload_n C0.1 C0.2.1 dX5_fail_13 rfl (lv_at hl 0 rfl) ?_
    refine tg_X5_start C0 h kSC_77 q_375 dX5_fail_14 (fun v_15 e_16 e_17 e_18 => ?_)
    refine tp_X5_place C0 h kSC_77 q_379 (le_min v_15) (le_max v_15) dX5_fail_17 (fun H locs ws_19 h u_20 => ?_)
    refine lv_aload_n C0.1 C0.2.1 dX5_fail_20 rfl (lv_at hl 0 rfl) ?_
    refine y_c1 (n := 0) C0 (by decide) dX5_fail_21 (fun v_21 e_22 => ?_)
    refine tp_X5_kind C0 h kSC_77 q_374 (le_min v_21) (le_max v_21) dX5_fail_22 (fun H locs ws_23 h u_24 => ?_)
    have hv_25 : (aF 77 ws0) 8 = v_1.toInt := (aF_at (by decide) e_2)
    have hs_26 : aF 77 ws_13 = (upI (aF 77 ws0) 8 a1.toInt) := (aF_up (by decide) u_14)
    have hv_27 : (aF 77 ws0) 5 = v_15.toInt := (congrFun hs_26 5).symm.trans (aF_at (by decide) e_16)
    have hs_28 : aF 77 ws_19 = (upI (upI (aF 77 ws0) 8 a1.toInt) 9 ((aF 77 ws0) 5)) := (aF_up (by decide) u_20).trans ((congrArg (fun s => upI s 9 v_15.toInt) hs_26).trans (by rw [hv_27.symm]))
    have hs_29 : aF 77 ws_23 = (upI (upI (upI (aF 77 ws0) 8 a1.toInt) 9 ((aF 77 ws0) 5)) 4 0) := (aF_up (by decide) u_24).trans ((congrArg (fun s => upI s 4 v_21.toInt) hs_28).trans (by rw [(o61_39 e_22)]))
    have hz_30 : (upI (upI (upI (aF 77 ws0) 8 a1.toInt) 9 ((aF 77 ws0) 5)) 4 0) = failS a1.toInt (aF 77 ws0) := by unfold failS; repeat (first | rw [if_pos (by omega)] | rw [if_neg (by omega)])
    rw [hQ]
    exact y_vret C0 h (Fr.tr (Fr.tr (Fr.up u_14.1 kSC_77 (by decide)) (Fr.up u_20.1 kSC_77 (by decide))) (Fr.up u_24.1 kSC_77 (by decide))) (Eq.trans hs_29 hz_30) dX5_fail_25
set_option maxHeartbeats 4000000 in
set_option maxRecDepth 100000 in
theorem c_X5_isSmallS {T : Nat → Int} (l : Launch) (G : GG) (Z : RZ) (ad : Nat → Nat) (ws0 : va_W) (hT : Ty G (SC tt) ad ws0) (a1 : Int32) (l1 : 0 ≤ a1.toInt) (u1 : a1.toInt ≤ 899) (hTp : Tp T ws0) : Mq l yX5_isSmall cX5_isSmall 2 (some .boolean) 1 G Z [.ref (ad 77), .int a1] ws0 (PI G (SC tt) ad [] ws0 (fun r u => (0 ≤ r.toInt) ∧ (r.toInt ≤ 1) ∧ ((r.toInt = 1 ∧ isSm (T a1.toInt.toNat)) ∨ (r.toInt = 0 ∧ ¬ isSm (T a1.toInt.toNat))))) := by
  refine Mq.start (by decide) (Nat.le_of_ble_eq_true rfl) ?_
  intro p e s m below meth c A ls C0 hZ h hl
  have hl : lv_has ls 2 [(0, .ref (ad 77)), (1, .int a1)] := hl
  have h : Wt G (SC tt) ad A s s.heap [] ws0 := ⟨h, hT⟩
  obtain ⟨args, hargs⟩ : ∃ z, z = ([.ref (ad 77), .int a1] : List Value).toArray := ⟨_, rfl⟩
  rw [← hargs] at C0 ⊢
  have C0 : Cx p s m args meth c RX5 cX5_isSmall 2 (some .boolean) := C0
  obtain ⟨Q, hQ⟩ : ∃ z, z = MQ below ((PI G (SC tt) ad [] ws0 (fun r u => (0 ≤ r.toInt) ∧ (r.toInt ≤ 1) ∧ ((r.toInt = 1 ∧ isSm (T a1.toInt.toNat)) ∨ (r.toInt = 0 ∧ ¬ isSm (T a1.toInt.toNat))))) A) args s 0 0 A := ⟨_, rfl⟩
  rw [← hQ]
  refine lv_aload_n C0.1 C0.2.1 dX5_isSmall_0 rfl (lv_at hl 0 rfl) ?_
  refine tg_X5_tape C0 h kSC_77 q_371 dX5_isSmall_1 ?_
  refine lv_iload_n C0.1 C0.2.1 dX5_isSmall_4 rfl (lv_at hl 1 rfl) ?_
  refine y_bald C0 h kSC_78 rfl (by decide) (o61_40 l1 u1) (o61_41 l1 u1) dX5_isSmall_5 (fun v_1 e_2 e_3 e_4 => ?_)
  refine y_c2 (n := 97) C0 (by decide) dX5_isSmall_6 (fun v_5 e_6 => ?_)
  refine y_icmp_lt (tgt := 26) C0 dX5_isSmall_8 (by decide) (fun c_7 => ?_) (fun c_7 => ?_)
  · -- 8
    refine y_c1 (n := 0) C0 (by decide) dX5_isSmall_26 (fun v_8 e_9 => ?_)
    have ht_10 : T (a1.toInt).toNat = v_1.toInt := by have q := hTp a1.toInt.toNat (o61_43 l1 u1); rw [e_2] at q; exact q.symm
    rw [hQ]
    exact y_zret C0 h (o61_37 e_9) (o61_42 e_9) Fr.rf ⟨(o61_37 e_9), (o61_42 e_9), (by omega)⟩ dX5_isSmall_27
  · -- 8
    refine lv_aload_n C0.1 C0.2.1 dX5_isSmall_11 rfl (lv_at hl 0 rfl) ?_
    refine tg_X5_tape C0 h kSC_77 q_371 dX5_isSmall_12 ?_
    refine lv_iload_n C0.1 C0.2.1 dX5_isSmall_15 rfl (lv_at hl 1 rfl) ?_
    refine y_bald C0 h kSC_78 rfl (by decide) (o61_40 l1 u1) (o61_41 l1 u1) dX5_isSmall_16 (fun v_11 e_12 e_13 e_14 => ?_)
    have q_15 : v_11.toInt = v_1.toInt := congrArg Int32.toInt (e_12.symm.trans (Eq.trans rfl e_2))
    refine y_c2 (n := 122) C0 (by decide) dX5_isSmall_17 (fun v_16 e_17 => ?_)
    refine y_icmp_gt (tgt := 26) C0 dX5_isSmall_19 (by decide) (fun c_18 => ?_) (fun c_18 => ?_)
    · -- 19
      refine y_c1 (n := 0) C0 (by decide) dX5_isSmall_26 (fun v_19 e_20 => ?_)
      have ht_21 : T (a1.toInt).toNat = v_1.toInt := by have q := hTp a1.toInt.toNat (o61_43 l1 u1); rw [e_2] at q; exact q.symm
      have ht_22 : T (a1.toInt).toNat = v_11.toInt := by have q := hTp a1.toInt.toNat (o61_43 l1 u1); rw [e_12] at q; exact q.symm
      rw [hQ]
      exact y_zret C0 h (o61_37 e_20) (o61_42 e_20) Fr.rf ⟨(o61_37 e_20), (o61_42 e_20), (by omega)⟩ dX5_isSmall_27
    · -- 19
      refine y_c1 (n := 1) C0 (by decide) dX5_isSmall_22 (fun v_23 e_24 => ?_)
      refine lv_goto (tgt := 27) C0.1 C0.2.1 dX5_isSmall_23 (by decide) ?_
      have ht_25 : T (a1.toInt).toNat = v_1.toInt := by have q := hTp a1.toInt.toNat (o61_43 l1 u1); rw [e_2] at q; exact q.symm
      have ht_26 : T (a1.toInt).toNat = v_11.toInt := by have q := hTp a1.toInt.toNat (o61_43 l1 u1); rw [e_12] at q; exact q.symm
      rw [hQ]
      exact y_zret C0 h (o61_5 e_24) (o61_4 e_24) Fr.rf ⟨(o61_5 e_24), (o61_4 e_24), (by omega)⟩ dX5_isSmall_27
set_option maxHeartbeats 4000000 in
set_option maxRecDepth 100000 in
theorem c_X5_isDigitS {T : Nat → Int} (l : Launch) (G : GG) (Z : RZ) (ad : Nat → Nat) (ws0 : va_W) (hT : Ty G (SC tt) ad ws0) (a1 : Int32) (l1 : 0 ≤ a1.toInt) (u1 : a1.toInt ≤ 899) (hTp : Tp T ws0) : Mq l yX5_isDigit cX5_isDigit 2 (some .boolean) 1 G Z [.ref (ad 77), .int a1] ws0 (PI G (SC tt) ad [] ws0 (fun r u => (0 ≤ r.toInt) ∧ (r.toInt ≤ 1) ∧ ((r.toInt = 1 ∧ isDg (T a1.toInt.toNat)) ∨ (r.toInt = 0 ∧ ¬ isDg (T a1.toInt.toNat))))) := by
  refine Mq.start (by decide) (Nat.le_of_ble_eq_true rfl) ?_
  intro p e s m below meth c A ls C0 hZ h hl
  have hl : lv_has ls 2 [(0, .ref (ad 77)), (1, .int a1)] := hl
  have h : Wt G (SC tt) ad A s s.heap [] ws0 := ⟨h, hT⟩
  obtain ⟨args, hargs⟩ : ∃ z, z = ([.ref (ad 77), .int a1] : List Value).toArray := ⟨_, rfl⟩
  rw [← hargs] at C0 ⊢
  have C0 : Cx p s m args meth c RX5 cX5_isDigit 2 (some .boolean) := C0
  obtain ⟨Q, hQ⟩ : ∃ z, z = MQ below ((PI G (SC tt) ad [] ws0 (fun r u => (0 ≤ r.toInt) ∧ (r.toInt ≤ 1) ∧ ((r.toInt = 1 ∧ isDg (T a1.toInt.toNat)) ∨ (r.toInt = 0 ∧ ¬ isDg (T a1.toInt.toNat))))) A) args s 0 0 A := ⟨_, rfl⟩
  rw [← hQ]
  refine lv_aload_n C0.1 C0.2.1 dX5_isDigit_0 rfl (lv_at hl 0 rfl) ?_
  refine tg_X5_tape C0 h kSC_77 q_371 dX5_isDigit_1 ?_
  refine lv_iload_n C0.1 C0.2.1 dX5_isDigit_4 rfl (lv_at hl 1 rfl) ?_
  refine y_bald C0 h kSC_78 rfl (by decide) (o61_40 l1 u1) (o61_41 l1 u1) dX5_isDigit_5 (fun v_1 e_2 e_3 e_4 => ?_)
  refine y_c2 (n := 48) C0 (by decide) dX5_isDigit_6 (fun v_5 e_6 => ?_)
  refine y_icmp_lt (tgt := 26) C0 dX5_isDigit_8 (by decide) (fun c_7 => ?_) (fun c_7 => ?_)
  · -- 8
    refine y_c1 (n := 0) C0 (by decide) dX5_isDigit_26 (fun v_8 e_9 => ?_)
    have ht_10 : T (a1.toInt).toNat = v_1.toInt := by have q := hTp a1.toInt.toNat (o61_43 l1 u1); rw [e_2] at q; exact q.symm
    rw [hQ]
    exact y_zret C0 h (o61_37 e_9) (o61_42 e_9) Fr.rf ⟨(o61_37 e_9), (o61_42 e_9), (by omega)⟩ dX5_isDigit_27
  · -- 8
    refine lv_aload_n C0.1 C0.2.1 dX5_isDigit_11 rfl (lv_at hl 0 rfl) ?_
    refine tg_X5_tape C0 h kSC_77 q_371 dX5_isDigit_12 ?_
    refine lv_iload_n C0.1 C0.2.1 dX5_isDigit_15 rfl (lv_at hl 1 rfl) ?_
    refine y_bald C0 h kSC_78 rfl (by decide) (o61_40 l1 u1) (o61_41 l1 u1) dX5_isDigit_16 (fun v_11 e_12 e_13 e_14 => ?_)
    have q_15 : v_11.toInt = v_1.toInt := congrArg Int32.toInt (e_12.symm.trans (Eq.trans rfl e_2))
    refine y_c2 (n := 57) C0 (by decide) dX5_isDigit_17 (fun v_16 e_17 => ?_)
    refine y_icmp_gt (tgt := 26) C0 dX5_isDigit_19 (by decide) (fun c_18 => ?_) (fun c_18 => ?_)
    · -- 19
      refine y_c1 (n := 0) C0 (by decide) dX5_isDigit_26 (fun v_19 e_20 => ?_)
      have ht_21 : T (a1.toInt).toNat = v_1.toInt := by have q := hTp a1.toInt.toNat (o61_43 l1 u1); rw [e_2] at q; exact q.symm
      have ht_22 : T (a1.toInt).toNat = v_11.toInt := by have q := hTp a1.toInt.toNat (o61_43 l1 u1); rw [e_12] at q; exact q.symm
      rw [hQ]
      exact y_zret C0 h (o61_37 e_20) (o61_42 e_20) Fr.rf ⟨(o61_37 e_20), (o61_42 e_20), (by omega)⟩ dX5_isDigit_27
    · -- 19
      refine y_c1 (n := 1) C0 (by decide) dX5_isDigit_22 (fun v_23 e_24 => ?_)
      refine lv_goto (tgt := 27) C0.1 C0.2.1 dX5_isDigit_23 (by decide) ?_
      have ht_25 : T (a1.toInt).toNat = v_1.toInt := by have q := hTp a1.toInt.toNat (o61_43 l1 u1); rw [e_2] at q; exact q.symm
      have ht_26 : T (a1.toInt).toNat = v_11.toInt := by have q := hTp a1.toInt.toNat (o61_43 l1 u1); rw [e_12] at q; exact q.symm
      rw [hQ]
      exact y_zret C0 h (o61_5 e_24) (o61_4 e_24) Fr.rf ⟨(o61_5 e_24), (o61_4 e_24), (by omega)⟩ dX5_isDigit_27
set_option maxHeartbeats 4000000 in
set_option maxRecDepth 100000 in
theorem c_X5_advanceS {T : Nat → Int} (l : Launch) (G : GG) (Z : RZ) (ad : Nat → Nat) (ws0 : va_W) (hT : Ty G (SC tt) ad ws0) (hTp : Tp T ws0) : Mq l yX5_advance cX5_advance 1 none 5 G Z [.ref (ad 77)] ws0 (PV G (SC tt) ad [16] ws0 (fun u => (aF 77 u = advS T (aF 77 ws0)))) := by
  refine Mq.start (by decide) (Nat.le_of_ble_eq_true rfl) ?_
  intro p e s m below meth c A ls C0 hZ h hl
  have hl : lv_has ls 1 [(0, .ref (ad 77))] := hl
  have h : Wt G (SC tt) ad A s s.heap [] ws0 := ⟨h, hT⟩
  obtain ⟨args, hargs⟩ : ∃ z, z = ([.ref (ad 77)] : List Value).toArray := ⟨_, rfl⟩
  rw [← hargs] at C0 ⊢
  have C0 : Cx p s m args meth c RX5 cX5_advance 1 none := C0
  obtain ⟨Q, hQ⟩ : ∃ z, z = MQ below ((PV G (SC tt) ad [16] ws0 (fun u => (aF 77 u = advS T (aF 77 ws0)))) A) args s 0 0 A := ⟨_, rfl⟩
  rw [← hQ]
  refine lv_aload_n C0.1 C0.2.1 dX5_advance_0 rfl (lv_at hl 0 rfl) ?_
  refine tg_X5_fault C0 h kSC_77 q_378 dX5_advance_1 (fun v_1 e_2 e_3 e_4 => ?_)
  refine y_if_eq (tgt := 8) C0 dX5_advance_4 (by decide) (fun c_5 => ?_) (fun c_5 => ?_)
  · -- 4
    refine lv_aload_n C0.1 C0.2.1 dX5_advance_8 rfl (lv_at hl 0 rfl) ?_
    refine lv_aload_n C0.1 C0.2.1 dX5_advance_9 rfl (lv_at hl 0 rfl) ?_
    refine tg_X5_end C0 h kSC_77 q_376 dX5_advance_10 (fun v_6 e_7 e_8 e_9 => ?_)
    refine tp_X5_start C0 h kSC_77 q_375 (o61_44 e_8 e_9) (o61_45 e_8 e_9) dX5_advance_13 (fun H locs ws_10 h u_11 => ?_)
    have hv_12 : (aF 77 ws0) 8 = v_1.toInt := (aF_at (by decide) e_2)
    have hv_13 : (aF 77 ws0) 6 = v_6.toInt := (aF_at (by decide) e_7)
    have hs_14 : aF 77 ws_10 = (upI (aF 77 ws0) 5 ((aF 77 ws0) 6)) := (aF_up (by decide) u_11).trans (by rw [hv_13.symm])
    have lp_17 : ∀ (n_19 : Nat) (f_21 : Int32) (H : Heap) (locs : List Loc) (ls : Array Slot) (ws_15 : va_W), 900 - f_21.toInt < (n_19 : Int) → 0 ≤ f_21.toInt → f_21.toInt ≤ 900 → (aF 77 ws_15 = (upI (aF 77 ws0) 5 (f_21.toInt))) → (skip T ((aF 77 ws0) 3) f_21.toInt = skip T ((aF 77 ws0) 3) ((aF 77 ws0) 6)) → fI ws_15 77 5 = f_21 → Wt G (SC tt) ad A s H locs ws_15 → Fr (SC tt) [16] ws_10 ws_15 → lv_has ls 1 [(0, .ref (ad 77))] → W p l e (rmd 5 0 0) s m args below meth c H locs 0 0 Q (F0 m 16 ls []) := by
      intro n_19
      induction n_19 with
      | zero => intro f_21 H locs ls ws_15 hn_20 b_23 b_24 hSp_16 hSq_16 e_22 h hF_16 hl; exact ((o61_46 b_23 b_24 hn_20)).elim
      | succ n_19 ih_18 =>
        intro f_21 H locs ls ws_15 hn_20 b_23 b_24 hSp_16 hSq_16 e_22 h hF_16 hl
        refine lv_aload_n C0.1 C0.2.1 dX5_advance_16 rfl (lv_at hl 0 rfl) ?_
        refine tg_X5_start C0 h kSC_77 q_375 dX5_advance_17 (fun v_25 e_26 e_27 e_28 => ?_)
        have q_29 : v_25.toInt = f_21.toInt := congrArg Int32.toInt (e_26.symm.trans (Eq.trans rfl e_22))
        refine lv_aload_n C0.1 C0.2.1 dX5_advance_20 rfl (lv_at hl 0 rfl) ?_
        refine tg_X5_length C0 h kSC_77 q_373 dX5_advance_21 (fun v_30 e_31 e_32 e_33 => ?_)
        refine y_icmp_ge (tgt := 68) C0 dX5_advance_24 (by decide) (fun c_34 => ?_) (fun c_34 => ?_)
        · -- 24
          refine lv_aload_n C0.1 C0.2.1 dX5_advance_68 rfl (lv_at hl 0 rfl) ?_
          refine lv_aload_n C0.1 C0.2.1 dX5_advance_69 rfl (lv_at hl 0 rfl) ?_
          refine tg_X5_start C0 h kSC_77 q_375 dX5_advance_70 (fun v_35 e_36 e_37 e_38 => ?_)
          have q_39 : v_35.toInt = f_21.toInt := congrArg Int32.toInt (e_36.symm.trans (Eq.trans rfl e_22))
          refine tp_X5_end C0 h kSC_77 q_376 (o61_47 b_23 b_24 hn_20 e_27 e_28 q_29 e_32 e_33 c_34 e_37 e_38 q_39) (o61_48 b_23 b_24 hn_20 e_27 e_28 q_29 e_32 e_33 c_34 e_37 e_38 q_39) dX5_advance_73 (fun H locs ws_40 h u_41 => ?_)
          refine lv_aload_n C0.1 C0.2.1 dX5_advance_76 rfl (lv_at hl 0 rfl) ?_
          refine tg_X5_start C0 h kSC_77 q_375 dX5_advance_77 (fun v_42 e_43 e_44 e_45 => ?_)
          have q_46 : v_42.toInt = f_21.toInt := congrArg Int32.toInt (e_43.symm.trans (Eq.trans (u_41.2.2 5 (by decide)) e_22))
          refine lv_aload_n C0.1 C0.2.1 dX5_advance_80 rfl (lv_at hl 0 rfl) ?_
          refine tg_X5_length C0 h kSC_77 q_373 dX5_advance_81 (fun v_47 e_48 e_49 e_50 => ?_)
          have q_51 : v_47.toInt = v_30.toInt := congrArg Int32.toInt (e_48.symm.trans (Eq.trans (u_41.2.2 3 (by decide)) e_31))
          refine y_icmp_lt (tgt := 95) C0 dX5_advance_84 (by decide) (fun c_52 => ?_) (fun c_52 => ?_)
          · -- 84
            refine lv_aload_n C0.1 C0.2.1 dX5_advance_95 rfl (lv_at hl 0 rfl) ?_
            refine lv_aload_n C0.1 C0.2.1 dX5_advance_96 rfl (lv_at hl 0 rfl) ?_
            refine tg_X5_start C0 h kSC_77 q_375 dX5_advance_97 (fun v_53 e_54 e_55 e_56 => ?_)
            have q_57 : v_53.toInt = f_21.toInt := congrArg Int32.toInt (e_54.symm.trans (Eq.trans (u_41.2.2 5 (by decide)) e_22))
            refine y_ci h (y_rV (As := [.int v_53]) (rest := []) C0 hZ h (c_X5_isSmallS l G Z ad _ h.2 v_53 (o61_49 b_23 b_24 hn_20 e_27 e_28 q_29 e_32 e_33 c_34 e_37 e_38 q_39 e_44 e_45 q_46 e_49 e_50 q_51 c_52 e_55 e_56 q_57) (o61_50 b_23 b_24 hn_20 e_27 e_28 q_29 e_32 e_33 c_34 e_37 e_38 q_39 e_44 e_45 q_46 e_49 e_50 q_51 c_52 e_55 e_56 q_57) ((Tp.fr (M := [16]) hTp (Fr.tr (Fr.tr (Fr.up u_11.1 kSC_77 (by decide)) hF_16) (Fr.up u_41.1 kSC_77 (by decide))) kSC_78 (by decide)))) k_X5_isSmall q_620 q_1 q_618 kSC_77 rfl rfl rfl hl.1 rfl rfl (Nat.le_of_ble_eq_true rfl) dX5_advance_100 ⟨Nat.le_of_ble_eq_true rfl, Nat.le_of_ble_eq_true rfl⟩ ⟨Nat.le_of_ble_eq_true rfl, Nat.le_of_ble_eq_true rfl⟩) (fun r_61 H locs ws_58 h u_59 p_60 => ?_)
            obtain ⟨e_62, e_63, e_64⟩ := p_60
            refine y_if_eq (tgt := 146) C0 dX5_advance_103 (by decide) (fun c_65 => ?_) (fun c_65 => ?_)
            · -- 103
              refine lv_aload_n C0.1 C0.2.1 dX5_advance_146 rfl (lv_at hl 0 rfl) ?_
              refine lv_aload_n C0.1 C0.2.1 dX5_advance_147 rfl (lv_at hl 0 rfl) ?_
              refine tg_X5_start C0 h kSC_77 q_375 dX5_advance_148 (fun v_66 e_67 e_68 e_69 => ?_)
              have q_70 : v_66.toInt = f_21.toInt := congrArg Int32.toInt (e_67.symm.trans (Eq.trans (Eq.trans (Fr.fI u_59 kSC_77 (by decide)) (u_41.2.2 5 (by decide))) e_22))
              refine y_ci h (y_rV (As := [.int v_66]) (rest := []) C0 hZ h (c_X5_isDigitS l G Z ad _ h.2 v_66 (o61_51 b_23 b_24 hn_20 e_27 e_28 q_29 e_32 e_33 c_34 e_37 e_38 q_39 e_44 e_45 q_46 e_49 e_50 q_51 c_52 e_55 e_56 q_57 e_68 e_69 q_70) (o61_52 b_23 b_24 hn_20 e_27 e_28 q_29 e_32 e_33 c_34 e_37 e_38 q_39 e_44 e_45 q_46 e_49 e_50 q_51 c_52 e_55 e_56 q_57 e_68 e_69 q_70) ((Tp.fr (M := [16]) hTp (Fr.tr (Fr.tr (Fr.tr (Fr.up u_11.1 kSC_77 (by decide)) hF_16) (Fr.up u_41.1 kSC_77 (by decide))) (Fr.mono u_59 (by decide))) kSC_78 (by decide)))) k_X5_isDigit q_624 q_2 q_622 kSC_77 rfl rfl rfl hl.1 rfl rfl (Nat.le_of_ble_eq_true rfl) dX5_advance_151 ⟨Nat.le_of_ble_eq_true rfl, Nat.le_of_ble_eq_true rfl⟩ ⟨Nat.le_of_ble_eq_true rfl, Nat.le_of_ble_eq_true rfl⟩) (fun r_74 H locs ws_71 h u_72 p_73 => ?_)
              obtain ⟨e_75, e_76, e_77⟩ := p_73
              refine y_if_eq (tgt := 247) C0 dX5_advance_154 (by decide) (fun c_78 => ?_) (fun c_78 => ?_)
              · -- 154
                refine lv_aload_n C0.1 C0.2.1 dX5_advance_247 rfl (lv_at hl 0 rfl) ?_
                refine tg_X5_tape C0 h kSC_77 q_371 dX5_advance_248 ?_
                refine lv_aload_n C0.1 C0.2.1 dX5_advance_251 rfl (lv_at hl 0 rfl) ?_
                refine tg_X5_start C0 h kSC_77 q_375 dX5_advance_252 (fun v_79 e_80 e_81 e_82 => ?_)
                have q_83 : v_79.toInt = f_21.toInt := congrArg Int32.toInt (e_80.symm.trans (Eq.trans (Eq.trans (Fr.fI u_72 kSC_77 (by decide)) (Eq.trans (Fr.fI u_59 kSC_77 (by decide)) (u_41.2.2 5 (by decide)))) e_22))
                refine y_bald C0 h kSC_78 rfl (by decide) (o61_53 b_23 b_24 hn_20 e_27 e_28 q_29 e_32 e_33 c_34 e_37 e_38 q_39 e_44 e_45 q_46 e_49 e_50 q_51 c_52 e_55 e_56 q_57 e_68 e_69 q_70 e_81 e_82 q_83) (o61_54 b_23 b_24 hn_20 e_27 e_28 q_29 e_32 e_33 c_34 e_37 e_38 q_39 e_44 e_45 q_46 e_49 e_50 q_51 c_52 e_55 e_56 q_57 e_68 e_69 q_70 e_81 e_82 q_83) dX5_advance_255 (fun v_84 e_85 e_86 e_87 => ?_)
                refine y_if_le (tgt := 303) C0 dX5_advance_256 (by decide) (fun c_88 => ?_) (fun c_88 => ?_)
                · -- 256
                  refine lv_aload_n C0.1 C0.2.1 dX5_advance_303 rfl (lv_at hl 0 rfl) ?_
                  refine y_c1 (n := 1) C0 (by decide) dX5_advance_304 (fun v_89 e_90 => ?_)
                  refine y_cv h (y_rV (As := [.int v_89]) (rest := []) C0 hZ h (c_X5_failS l G Z ad _ h.2 v_89) k_X5_fail q_628 q_3 q_626 kSC_77 rfl rfl rfl hl.1 rfl rfl (Nat.le_of_ble_eq_true rfl) dX5_advance_305 ⟨Nat.le_of_ble_eq_true rfl, Nat.le_of_ble_eq_true rfl⟩ ⟨Nat.le_of_ble_eq_true rfl, Nat.le_of_ble_eq_true rfl⟩) (fun H locs ws_91 h u_92 p_93 => ?_)
                  have e_94 := p_93
                  have hv_95 : f_21.toInt = v_25.toInt := (congrFun hSp_16 5).symm.trans (aF_at (by decide) e_26)
                  have hv_96 : (aF 77 ws0) 3 = v_30.toInt := (congrFun hSp_16 3).symm.trans (aF_at (by decide) e_31)
                  have hv_97 : f_21.toInt = v_35.toInt := (congrFun hSp_16 5).symm.trans (aF_at (by decide) e_36)
                  have hs_98 : aF 77 ws_40 = (upI (upI (aF 77 ws0) 5 f_21.toInt) 6 f_21.toInt) := (aF_up (by decide) u_41).trans ((congrArg (fun s => upI s 6 v_35.toInt) hSp_16).trans (by rw [hv_97.symm]))
                  have hv_99 : f_21.toInt = v_42.toInt := (congrFun hs_98 5).symm.trans (aF_at (by decide) e_43)
                  have hv_100 : (aF 77 ws0) 3 = v_47.toInt := (congrFun hs_98 3).symm.trans (aF_at (by decide) e_48)
                  have hv_101 : f_21.toInt = v_53.toInt := (congrFun hs_98 5).symm.trans (aF_at (by decide) e_54)
                  have hq_102 := e_64
                  rw [hv_101.symm] at hq_102
                  have hs_103 : aF 77 ws_58 = (upI (upI (aF 77 ws0) 5 f_21.toInt) 6 f_21.toInt) := (aF_fr u_59 kSC_77 (by decide)).trans hs_98
                  have hv_104 : f_21.toInt = v_66.toInt := (congrFun hs_103 5).symm.trans (aF_at (by decide) e_67)
                  have hq_105 := e_77
                  rw [hv_104.symm] at hq_105
                  have hs_106 : aF 77 ws_71 = (upI (upI (aF 77 ws0) 5 f_21.toInt) 6 f_21.toInt) := (aF_fr u_72 kSC_77 (by decide)).trans hs_103
                  have hv_107 : f_21.toInt = v_79.toInt := (congrFun hs_106 5).symm.trans (aF_at (by decide) e_80)
                  have ht_108 : T (f_21.toInt).toNat = v_84.toInt := by have q := (Tp.fr (M := [16]) hTp (Fr.tr (Fr.tr (Fr.tr (Fr.tr (Fr.up u_11.1 kSC_77 (by decide)) hF_16) (Fr.up u_41.1 kSC_77 (by decide))) (Fr.mono u_59 (by decide))) (Fr.mono u_72 (by decide))) kSC_78 (by decide)) v_79.toInt.toNat (o61_55 b_23 b_24 hn_20 e_27 e_28 q_29 e_32 e_33 c_34 e_37 e_38 q_39 e_44 e_45 q_46 e_49 e_50 q_51 c_52 e_55 e_56 q_57 e_68 e_69 q_70 e_81 e_82 q_83); rw [e_85] at q; rw [← hv_107.symm]; exact q.symm
                  have hs_109 : aF 77 ws_91 = (failS 1 (upI (upI (aF 77 ws0) 5 f_21.toInt) 6 f_21.toInt)) := e_94.trans ((congrArg (fun s => failS v_89.toInt s) hs_106).trans (by rw [(o61_56 e_90)]))
                  have hz_110 : (failS 1 (upI (upI (aF 77 ws0) 5 f_21.toInt) 6 f_21.toInt)) = advS T (aF 77 ws0) := by first | (exfalso; omega) | (unfold advS; rw [if_pos (by omega), ← hSq_16, skip_e (by omega) (by omega)]; unfold advT; first | (rw [if_pos (by omega)]; done) | (rw [if_neg (by omega), if_neg (by omega), if_neg (by omega), if_pos (by omega)]; congr 1; omega) | (rw [if_neg (by omega), if_neg (by omega), if_neg (by omega), if_neg (by omega)]; done))
                  rw [hQ]
                  exact y_vret C0 h (Fr.tr (Fr.tr (Fr.tr (Fr.tr (Fr.tr (Fr.up u_11.1 kSC_77 (by decide)) hF_16) (Fr.up u_41.1 kSC_77 (by decide))) (Fr.mono u_59 (by decide))) (Fr.mono u_72 (by decide))) u_92) (Eq.trans hs_109 hz_110) dX5_advance_308
                · -- 256
                  refine va_ldcS C0.1 C0.2.1 C0.2.2.2.1 (sr_0 hZ) dX5_advance_259 ?_
                  refine lv_aload_n C0.1 C0.2.1 dX5_advance_261 rfl (lv_at hl 0 rfl) ?_
                  refine tg_X5_tape C0 h kSC_77 q_371 dX5_advance_262 ?_
                  refine lv_aload_n C0.1 C0.2.1 dX5_advance_265 rfl (lv_at hl 0 rfl) ?_
                  refine tg_X5_start C0 h kSC_77 q_375 dX5_advance_266 (fun v_111 e_112 e_113 e_114 => ?_)
                  have q_115 : v_111.toInt = f_21.toInt := congrArg Int32.toInt (e_112.symm.trans (Eq.trans (Eq.trans (Fr.fI u_72 kSC_77 (by decide)) (Eq.trans (Fr.fI u_59 kSC_77 (by decide)) (u_41.2.2 5 (by decide)))) e_22))
                  refine y_bald C0 h kSC_78 rfl (by decide) (o61_57 b_23 b_24 hn_20 e_27 e_28 q_29 e_32 e_33 c_34 e_37 e_38 q_39 e_44 e_45 q_46 e_49 e_50 q_51 c_52 e_55 e_56 q_57 e_68 e_69 q_70 e_81 e_82 q_83 e_113 e_114 q_115) (o61_58 b_23 b_24 hn_20 e_27 e_28 q_29 e_32 e_33 c_34 e_37 e_38 q_39 e_44 e_45 q_46 e_49 e_50 q_51 c_52 e_55 e_56 q_57 e_68 e_69 q_70 e_81 e_82 q_83 e_113 e_114 q_115) dX5_advance_269 (fun v_116 e_117 e_118 e_119 => ?_)
                  have hv_120 : f_21.toInt = v_25.toInt := (congrFun hSp_16 5).symm.trans (aF_at (by decide) e_26)
                  have hv_121 : (aF 77 ws0) 3 = v_30.toInt := (congrFun hSp_16 3).symm.trans (aF_at (by decide) e_31)
                  have hv_122 : f_21.toInt = v_35.toInt := (congrFun hSp_16 5).symm.trans (aF_at (by decide) e_36)
                  have hs_123 : aF 77 ws_40 = (upI (upI (aF 77 ws0) 5 f_21.toInt) 6 f_21.toInt) := (aF_up (by decide) u_41).trans ((congrArg (fun s => upI s 6 v_35.toInt) hSp_16).trans (by rw [hv_122.symm]))
                  have hv_124 : f_21.toInt = v_42.toInt := (congrFun hs_123 5).symm.trans (aF_at (by decide) e_43)
                  have hv_125 : (aF 77 ws0) 3 = v_47.toInt := (congrFun hs_123 3).symm.trans (aF_at (by decide) e_48)
                  have hv_126 : f_21.toInt = v_53.toInt := (congrFun hs_123 5).symm.trans (aF_at (by decide) e_54)
                  have hq_127 := e_64
                  rw [hv_126.symm] at hq_127
                  have hs_128 : aF 77 ws_58 = (upI (upI (aF 77 ws0) 5 f_21.toInt) 6 f_21.toInt) := (aF_fr u_59 kSC_77 (by decide)).trans hs_123
                  have hv_129 : f_21.toInt = v_66.toInt := (congrFun hs_128 5).symm.trans (aF_at (by decide) e_67)
                  have hq_130 := e_77
                  rw [hv_129.symm] at hq_130
                  have hs_131 : aF 77 ws_71 = (upI (upI (aF 77 ws0) 5 f_21.toInt) 6 f_21.toInt) := (aF_fr u_72 kSC_77 (by decide)).trans hs_128
                  have hv_132 : f_21.toInt = v_79.toInt := (congrFun hs_131 5).symm.trans (aF_at (by decide) e_80)
                  have hv_133 : f_21.toInt = v_111.toInt := (congrFun hs_131 5).symm.trans (aF_at (by decide) e_112)
                  have ht_134 : T (f_21.toInt).toNat = v_84.toInt := by have q := (Tp.fr (M := [16]) hTp (Fr.tr (Fr.tr (Fr.tr (Fr.tr (Fr.up u_11.1 kSC_77 (by decide)) hF_16) (Fr.up u_41.1 kSC_77 (by decide))) (Fr.mono u_59 (by decide))) (Fr.mono u_72 (by decide))) kSC_78 (by decide)) v_79.toInt.toNat (o61_59 b_23 b_24 hn_20 e_27 e_28 q_29 e_32 e_33 c_34 e_37 e_38 q_39 e_44 e_45 q_46 e_49 e_50 q_51 c_52 e_55 e_56 q_57 e_68 e_69 q_70 e_81 e_82 q_83 e_113 e_114 q_115); rw [e_85] at q; rw [← hv_132.symm]; exact q.symm
                  have ht_135 : T (f_21.toInt).toNat = v_116.toInt := by have q := (Tp.fr (M := [16]) hTp (Fr.tr (Fr.tr (Fr.tr (Fr.tr (Fr.up u_11.1 kSC_77 (by decide)) hF_16) (Fr.up u_41.1 kSC_77 (by decide))) (Fr.mono u_59 (by decide))) (Fr.mono u_72 (by decide))) kSC_78 (by decide)) v_111.toInt.toNat (o61_60 b_23 b_24 hn_20 e_27 e_28 q_29 e_32 e_33 c_34 e_37 e_38 q_39 e_44 e_45 q_46 e_49 e_50 q_51 c_52 e_55 e_56 q_57 e_68 e_69 q_70 e_81 e_82 q_83 e_113 e_114 q_115); rw [e_117] at q; rw [← hv_133.symm]; exact q.symm
                  have g_136 : 1 ≤ v_116.toInt := by omega
                  refine y_i2cE C0 (o61_61 e_118 e_119 g_136) (o61_62 e_118 e_119 g_136) dX5_advance_270 (fun v_137 e_138 => ?_)
                  refine y_ci h (y_rT (As := [.int v_137]) (rest := []) C0 hZ h (c_J0_indexOf_0f7a4S l G Z ad _ h.2 0 (by decide) v_137 (o61_63 e_118 e_119 g_136 e_138) (o61_64 e_118 e_119 g_136 e_138)) k_J0_indexOf_0f7a4 q_632 q_633 q_631 (by decide) rfl hl.1 rfl rfl (Nat.le_of_ble_eq_true rfl) dX5_advance_271 ⟨Nat.le_of_ble_eq_true rfl, Nat.le_of_ble_eq_true rfl⟩ ⟨Nat.le_of_ble_eq_true rfl, Nat.le_of_ble_eq_true rfl⟩) (fun r_142 H locs ws_139 h u_140 p_141 => ?_)
                  obtain ⟨e_143, e_144, e_145⟩ := p_141
                  have hg_146 := ix_sgn e_145
                  refine y_if_lt (tgt := 303) C0 dX5_advance_274 (by decide) (fun c_147 => ?_) (fun c_147 => ?_)
                  · -- 274
                    refine lv_aload_n C0.1 C0.2.1 dX5_advance_303 rfl (lv_at hl 0 rfl) ?_
                    refine y_c1 (n := 1) C0 (by decide) dX5_advance_304 (fun v_148 e_149 => ?_)
                    refine y_cv h (y_rV (As := [.int v_148]) (rest := []) C0 hZ h (c_X5_failS l G Z ad _ h.2 v_148) k_X5_fail q_628 q_3 q_626 kSC_77 rfl rfl rfl hl.1 rfl rfl (Nat.le_of_ble_eq_true rfl) dX5_advance_305 ⟨Nat.le_of_ble_eq_true rfl, Nat.le_of_ble_eq_true rfl⟩ ⟨Nat.le_of_ble_eq_true rfl, Nat.le_of_ble_eq_true rfl⟩) (fun H locs ws_150 h u_151 p_152 => ?_)
                    have e_153 := p_152
                    have hs_154 : aF 77 ws_40 = (upI (upI (aF 77 ws0) 5 f_21.toInt) 6 f_21.toInt) := (aF_up (by decide) u_41).trans ((congrArg (fun s => upI s 6 v_35.toInt) hSp_16).trans (by rw [hv_122.symm]))
                    have hs_155 : aF 77 ws_58 = (upI (upI (aF 77 ws0) 5 f_21.toInt) 6 f_21.toInt) := (aF_fr u_59 kSC_77 (by decide)).trans hs_154
                    have hs_156 : aF 77 ws_71 = (upI (upI (aF 77 ws0) 5 f_21.toInt) 6 f_21.toInt) := (aF_fr u_72 kSC_77 (by decide)).trans hs_155
                    have hq_157 := hg_146
                    have hs_158 : aF 77 ws_139 = (upI (upI (aF 77 ws0) 5 f_21.toInt) 6 f_21.toInt) := (aF_fr u_140 kSC_77 (by decide)).trans hs_156
                    have hs_159 : aF 77 ws_150 = (failS 1 (upI (upI (aF 77 ws0) 5 f_21.toInt) 6 f_21.toInt)) := e_153.trans ((congrArg (fun s => failS v_148.toInt s) hs_158).trans (by rw [(o61_56 e_149)]))
                    have hz_160 : (failS 1 (upI (upI (aF 77 ws0) 5 f_21.toInt) 6 f_21.toInt)) = advS T (aF 77 ws0) := by first | (exfalso; omega) | (unfold advS; rw [if_pos (by omega), ← hSq_16, skip_e (by omega) (by omega)]; unfold advT; first | (rw [if_pos (by omega)]; done) | (rw [if_neg (by omega), if_neg (by omega), if_neg (by omega), if_pos (by omega)]; congr 1; omega) | (rw [if_neg (by omega), if_neg (by omega), if_neg (by omega), if_neg (by omega)]; done))
                    rw [hQ]
                    exact y_vret C0 h (Fr.tr (Fr.tr (Fr.tr (Fr.tr (Fr.tr (Fr.tr (Fr.up u_11.1 kSC_77 (by decide)) hF_16) (Fr.up u_41.1 kSC_77 (by decide))) (Fr.mono u_59 (by decide))) (Fr.mono u_72 (by decide))) (Fr.mono u_140 (by decide))) u_151) (Eq.trans hs_159 hz_160) dX5_advance_308
                  · -- 274
                    refine lv_aload_n C0.1 C0.2.1 dX5_advance_277 rfl (lv_at hl 0 rfl) ?_
                    refine lv_aload_n C0.1 C0.2.1 dX5_advance_278 rfl (lv_at hl 0 rfl) ?_
                    refine tg_X5_tape C0 h kSC_77 q_371 dX5_advance_279 ?_
                    refine lv_aload_n C0.1 C0.2.1 dX5_advance_282 rfl (lv_at hl 0 rfl) ?_
                    refine tg_X5_start C0 h kSC_77 q_375 dX5_advance_283 (fun v_161 e_162 e_163 e_164 => ?_)
                    have q_165 : v_161.toInt = f_21.toInt := congrArg Int32.toInt (e_162.symm.trans (Eq.trans (Eq.trans (Fr.fI u_140 kSC_77 (by decide)) (Eq.trans (Fr.fI u_72 kSC_77 (by decide)) (Eq.trans (Fr.fI u_59 kSC_77 (by decide)) (u_41.2.2 5 (by decide))))) e_22))
                    refine y_bald C0 h kSC_78 rfl (by decide) (o61_65 b_23 b_24 hn_20 e_27 e_28 q_29 e_32 e_33 c_34 e_37 e_38 q_39 e_44 e_45 q_46 e_49 e_50 q_51 c_52 e_55 e_56 q_57 e_68 e_69 q_70 e_81 e_82 q_83 e_113 e_114 q_115 e_163 e_164 q_165) (o61_66 b_23 b_24 hn_20 e_27 e_28 q_29 e_32 e_33 c_34 e_37 e_38 q_39 e_44 e_45 q_46 e_49 e_50 q_51 c_52 e_55 e_56 q_57 e_68 e_69 q_70 e_81 e_82 q_83 e_113 e_114 q_115 e_163 e_164 q_165) dX5_advance_286 (fun v_166 e_167 e_168 e_169 => ?_)
                    refine tp_X5_kind C0 h kSC_77 q_374 (le_min v_166) (le_max v_166) dX5_advance_287 (fun H locs ws_170 h u_171 => ?_)
                    refine lv_aload_n C0.1 C0.2.1 dX5_advance_290 rfl (lv_at hl 0 rfl) ?_
                    refine lv_dup C0.1 C0.2.1 dX5_advance_291 rfl ?_
                    refine tg_X5_end C0 h kSC_77 q_376 dX5_advance_292 (fun v_172 e_173 e_174 e_175 => ?_)
                    have q_176 : v_172.toInt = v_35.toInt := congrArg Int32.toInt (e_173.symm.trans (Eq.trans (Eq.trans (u_171.2.2 6 (by decide)) (Eq.trans (Fr.fI u_140 kSC_77 (by decide)) (Eq.trans (Fr.fI u_72 kSC_77 (by decide)) (Fr.fI u_59 kSC_77 (by decide))))) u_41.2.1))
                    refine y_c1 (n := 1) C0 (by decide) dX5_advance_295 (fun v_177 e_178 => ?_)
                    refine y_add C0 (o61_67 b_23 b_24 hn_20 e_27 e_28 q_29 e_32 e_33 c_34 e_37 e_38 q_39 e_44 e_45 q_46 e_49 e_50 q_51 c_52 e_55 e_56 q_57 e_68 e_69 q_70 e_81 e_82 q_83 e_113 e_114 q_115 e_163 e_164 q_165 e_174 e_175 q_176 e_178 (le_min v_172) (le_max v_172) (le_min v_177) (le_max v_177) (le_min f_21) (le_max f_21) (le_min v_25) (le_max v_25) (le_min v_30) (le_max v_30) (le_min v_35) (le_max v_35) (le_min v_42) (le_max v_42) (le_min v_47) (le_max v_47) (le_min v_53) (le_max v_53) (le_min v_66) (le_max v_66) (le_min v_79) (le_max v_79) (le_min v_111) (le_max v_111) (le_min v_161) (le_max v_161)) (o61_68 b_23 b_24 hn_20 e_27 e_28 q_29 e_32 e_33 c_34 e_37 e_38 q_39 e_44 e_45 q_46 e_49 e_50 q_51 c_52 e_55 e_56 q_57 e_68 e_69 q_70 e_81 e_82 q_83 e_113 e_114 q_115 e_163 e_164 q_165 e_174 e_175 q_176 e_178 (le_min v_172) (le_max v_172) (le_min v_177) (le_max v_177) (le_min f_21) (le_max f_21) (le_min v_25) (le_max v_25) (le_min v_30) (le_max v_30) (le_min v_35) (le_max v_35) (le_min v_42) (le_max v_42) (le_min v_47) (le_max v_47) (le_min v_53) (le_max v_53) (le_min v_66) (le_max v_66) (le_min v_79) (le_max v_79) (le_min v_111) (le_max v_111) (le_min v_161) (le_max v_161)) dX5_advance_296 (fun v_179 e_180 => ?_)
                    refine tp_X5_end C0 h kSC_77 q_376 (o61_69 b_23 b_24 hn_20 e_27 e_28 q_29 e_32 e_33 c_34 e_37 e_38 q_39 e_44 e_45 q_46 e_49 e_50 q_51 c_52 e_55 e_56 q_57 e_68 e_69 q_70 e_81 e_82 q_83 e_113 e_114 q_115 e_163 e_164 q_165 e_174 e_175 q_176 e_178 e_180) (o61_70 b_23 b_24 hn_20 e_27 e_28 q_29 e_32 e_33 c_34 e_37 e_38 q_39 e_44 e_45 q_46 e_49 e_50 q_51 c_52 e_55 e_56 q_57 e_68 e_69 q_70 e_81 e_82 q_83 e_113 e_114 q_115 e_163 e_164 q_165 e_174 e_175 q_176 e_178 e_180) dX5_advance_297 (fun H locs ws_181 h u_182 => ?_)
                    refine lv_goto (tgt := 308) C0.1 C0.2.1 dX5_advance_300 (by decide) ?_
                    have hs_183 : aF 77 ws_40 = (upI (upI (aF 77 ws0) 5 f_21.toInt) 6 f_21.toInt) := (aF_up (by decide) u_41).trans ((congrArg (fun s => upI s 6 v_35.toInt) hSp_16).trans (by rw [hv_122.symm]))
                    have hs_184 : aF 77 ws_58 = (upI (upI (aF 77 ws0) 5 f_21.toInt) 6 f_21.toInt) := (aF_fr u_59 kSC_77 (by decide)).trans hs_183
                    have hs_185 : aF 77 ws_71 = (upI (upI (aF 77 ws0) 5 f_21.toInt) 6 f_21.toInt) := (aF_fr u_72 kSC_77 (by decide)).trans hs_184
                    have hq_186 := hg_146
                    have hs_187 : aF 77 ws_139 = (upI (upI (aF 77 ws0) 5 f_21.toInt) 6 f_21.toInt) := (aF_fr u_140 kSC_77 (by decide)).trans hs_185
                    have hv_188 : f_21.toInt = v_161.toInt := (congrFun hs_187 5).symm.trans (aF_at (by decide) e_162)
                    have ht_189 : T (f_21.toInt).toNat = v_166.toInt := by have q := (Tp.fr (M := [16]) hTp (Fr.tr (Fr.tr (Fr.tr (Fr.tr (Fr.tr (Fr.up u_11.1 kSC_77 (by decide)) hF_16) (Fr.up u_41.1 kSC_77 (by decide))) (Fr.mono u_59 (by decide))) (Fr.mono u_72 (by decide))) (Fr.mono u_140 (by decide))) kSC_78 (by decide)) v_161.toInt.toNat (o61_71 b_23 b_24 hn_20 e_27 e_28 q_29 e_32 e_33 c_34 e_37 e_38 q_39 e_44 e_45 q_46 e_49 e_50 q_51 c_52 e_55 e_56 q_57 e_68 e_69 q_70 e_81 e_82 q_83 e_113 e_114 q_115 e_163 e_164 q_165 e_174 e_175 q_176 e_178 e_180); rw [e_167] at q; rw [← hv_188.symm]; exact q.symm
                    have hs_190 : aF 77 ws_170 = (upI (upI (upI (aF 77 ws0) 5 f_21.toInt) 6 f_21.toInt) 4 (T (f_21.toInt).toNat)) := (aF_up (by decide) u_171).trans ((congrArg (fun s => upI s 4 v_166.toInt) hs_187).trans (by rw [ht_189.symm]))
                    have hv_191 : f_21.toInt = v_172.toInt := (congrFun hs_190 6).symm.trans (aF_at (by decide) e_173)
                    have hs_192 : aF 77 ws_181 = (upI (upI (upI (upI (aF 77 ws0) 5 f_21.toInt) 6 f_21.toInt) 4 (T (f_21.toInt).toNat)) 6 v_179.toInt) := (aF_up (by decide) u_182).trans (congrArg (fun s => upI s 6 v_179.toInt) hs_190)
                    have hz_193 : (upI (upI (upI (upI (aF 77 ws0) 5 f_21.toInt) 6 f_21.toInt) 4 (T (f_21.toInt).toNat)) 6 v_179.toInt) = advS T (aF 77 ws0) := by first | (exfalso; omega) | (unfold advS; rw [if_pos (by omega), ← hSq_16, skip_e (by omega) (by omega)]; unfold advT; first | (rw [if_pos (by omega)]; done) | (rw [if_neg (by omega), if_neg (by omega), if_neg (by omega), if_pos (by omega)]; congr 1; omega) | (rw [if_neg (by omega), if_neg (by omega), if_neg (by omega), if_neg (by omega)]; done))
                    rw [hQ]
                    exact y_vret C0 h (Fr.tr (Fr.tr (Fr.tr (Fr.tr (Fr.tr (Fr.tr (Fr.tr (Fr.up u_11.1 kSC_77 (by decide)) hF_16) (Fr.up u_41.1 kSC_77 (by decide))) (Fr.mono u_59 (by decide))) (Fr.mono u_72 (by decide))) (Fr.mono u_140 (by decide))) (Fr.up u_171.1 kSC_77 (by decide))) (Fr.up u_182.1 kSC_77 (by decide))) (Eq.trans hs_192 hz_193) dX5_advance_308
              · -- 154
                refine lv_aload_n C0.1 C0.2.1 dX5_advance_157 rfl (lv_at hl 0 rfl) ?_
                refine y_c1 (n := 2) C0 (by decide) dX5_advance_158 (fun v_194 e_195 => ?_)
                refine tp_X5_kind C0 h kSC_77 q_374 (le_min v_194) (le_max v_194) dX5_advance_159 (fun H locs ws_196 h u_197 => ?_)
                refine lv_aload_n C0.1 C0.2.1 dX5_advance_162 rfl (lv_at hl 0 rfl) ?_
                refine y_c1 (n := 0) C0 (by decide) dX5_advance_163 (fun v_198 e_199 => ?_)
                refine tp_X5_number C0 h kSC_77 q_377 (le_min v_198) (le_max v_198) dX5_advance_164 (fun H locs ws_200 h u_201 => ?_)
                have hv_202 : f_21.toInt = v_25.toInt := (congrFun hSp_16 5).symm.trans (aF_at (by decide) e_26)
                have hv_203 : (aF 77 ws0) 3 = v_30.toInt := (congrFun hSp_16 3).symm.trans (aF_at (by decide) e_31)
                have hv_204 : f_21.toInt = v_35.toInt := (congrFun hSp_16 5).symm.trans (aF_at (by decide) e_36)
                have hs_205 : aF 77 ws_40 = (upI (upI (aF 77 ws0) 5 f_21.toInt) 6 f_21.toInt) := (aF_up (by decide) u_41).trans ((congrArg (fun s => upI s 6 v_35.toInt) hSp_16).trans (by rw [hv_204.symm]))
                have hv_206 : f_21.toInt = v_42.toInt := (congrFun hs_205 5).symm.trans (aF_at (by decide) e_43)
                have hv_207 : (aF 77 ws0) 3 = v_47.toInt := (congrFun hs_205 3).symm.trans (aF_at (by decide) e_48)
                have hv_208 : f_21.toInt = v_53.toInt := (congrFun hs_205 5).symm.trans (aF_at (by decide) e_54)
                have hq_209 := e_64
                rw [hv_208.symm] at hq_209
                have hs_210 : aF 77 ws_58 = (upI (upI (aF 77 ws0) 5 f_21.toInt) 6 f_21.toInt) := (aF_fr u_59 kSC_77 (by decide)).trans hs_205
                have hv_211 : f_21.toInt = v_66.toInt := (congrFun hs_210 5).symm.trans (aF_at (by decide) e_67)
                have hq_212 := e_77
                rw [hv_211.symm] at hq_212
                have hs_213 : aF 77 ws_71 = (upI (upI (aF 77 ws0) 5 f_21.toInt) 6 f_21.toInt) := (aF_fr u_72 kSC_77 (by decide)).trans hs_210
                have hs_214 : aF 77 ws_196 = (upI (upI (upI (aF 77 ws0) 5 f_21.toInt) 6 f_21.toInt) 4 2) := (aF_up (by decide) u_197).trans ((congrArg (fun s => upI s 4 v_194.toInt) hs_213).trans (by rw [(o61_72 e_195)]))
                have hs_215 : aF 77 ws_200 = (upI (upI (upI (upI (aF 77 ws0) 5 f_21.toInt) 6 f_21.toInt) 4 2) 7 0) := (aF_up (by decide) u_201).trans ((congrArg (fun s => upI s 7 v_198.toInt) hs_214).trans (by rw [(o61_39 e_199)]))
                have lp_218 : ∀ (n_220 : Nat) (f_222 : Int32) (f_226 : Int32) (H : Heap) (locs : List Loc) (ls : Array Slot) (ws_216 : va_W), 900 - f_222.toInt < (n_220 : Int) → 0 ≤ f_222.toInt → f_222.toInt ≤ 900 → (aF 77 ws_216 = (upI (upI (upI (upI (upI (upI (aF 77 ws0) 5 f_21.toInt) 6 f_21.toInt) 4 2) 7 0) 7 (f_226.toInt)) 6 (f_222.toInt))) → (run T ((aF 77 ws0) 3) 48 57 f_222.toInt = run T ((aF 77 ws0) 3) 48 57 f_21.toInt) → (num T ((aF 77 ws0) 3) f_222.toInt f_226.toInt = num T ((aF 77 ws0) 3) f_21.toInt 0) → fI ws_216 77 6 = f_222 → fI ws_216 77 7 = f_226 → Wt G (SC tt) ad A s H locs ws_216 → Fr (SC tt) [16] ws_200 ws_216 → lv_has ls 1 [(0, .ref (ad 77))] → W p l e (rmd 5 0 0) s m args below meth c H locs 0 0 Q (F0 m 167 ls []) := by
                  intro n_220
                  induction n_220 with
                  | zero => intro f_222 f_226 H locs ls ws_216 hn_221 b_224 b_225 hSp_167 hSq_167 hSr_167 e_223 e_227 h hF_217 hl; exact ((o61_46 b_224 b_225 hn_221)).elim
                  | succ n_220 ih_219 =>
                    intro f_222 f_226 H locs ls ws_216 hn_221 b_224 b_225 hSp_167 hSq_167 hSr_167 e_223 e_227 h hF_217 hl
                    refine lv_aload_n C0.1 C0.2.1 dX5_advance_167 rfl (lv_at hl 0 rfl) ?_
                    refine tg_X5_end C0 h kSC_77 q_376 dX5_advance_168 (fun v_228 e_229 e_230 e_231 => ?_)
                    have q_232 : v_228.toInt = f_222.toInt := congrArg Int32.toInt (e_229.symm.trans (Eq.trans rfl e_223))
                    refine lv_aload_n C0.1 C0.2.1 dX5_advance_171 rfl (lv_at hl 0 rfl) ?_
                    refine tg_X5_length C0 h kSC_77 q_373 dX5_advance_172 (fun v_233 e_234 e_235 e_236 => ?_)
                    refine y_icmp_ge (tgt := 226) C0 dX5_advance_175 (by decide) (fun c_237 => ?_) (fun c_237 => ?_)
                    · -- 175
                      refine lv_aload_n C0.1 C0.2.1 dX5_advance_226 rfl (lv_at hl 0 rfl) ?_
                      refine tg_X5_end C0 h kSC_77 q_376 dX5_advance_227 (fun v_238 e_239 e_240 e_241 => ?_)
                      have q_242 : v_238.toInt = f_222.toInt := congrArg Int32.toInt (e_239.symm.trans (Eq.trans rfl e_223))
                      refine lv_aload_n C0.1 C0.2.1 dX5_advance_230 rfl (lv_at hl 0 rfl) ?_
                      refine tg_X5_start C0 h kSC_77 q_375 dX5_advance_231 (fun v_243 e_244 e_245 e_246 => ?_)
                      refine y_sub C0 (o61_73 b_224 b_225 hn_221 e_230 e_231 q_232 e_235 e_236 c_237 e_240 e_241 q_242 e_245 e_246 (le_min v_238) (le_max v_238) (le_min v_243) (le_max v_243) (le_min f_222) (le_max f_222) (le_min v_228) (le_max v_228) (le_min v_233) (le_max v_233)) (o61_74 b_224 b_225 hn_221 e_230 e_231 q_232 e_235 e_236 c_237 e_240 e_241 q_242 e_245 e_246 (le_min v_238) (le_max v_238) (le_min v_243) (le_max v_243) (le_min f_222) (le_max f_222) (le_min v_228) (le_max v_228) (le_min v_233) (le_max v_233)) dX5_advance_234 (fun v_247 e_248 => ?_)
                      refine y_c1 (n := 3) C0 (by decide) dX5_advance_235 (fun v_249 e_250 => ?_)
                      refine y_icmp_le (tgt := 308) C0 dX5_advance_236 (by decide) (fun c_251 => ?_) (fun c_251 => ?_)
                      · -- 236
                        have hv_252 : f_222.toInt = v_228.toInt := (congrFun hSp_167 6).symm.trans (aF_at (by decide) e_229)
                        have hv_253 : (aF 77 ws0) 3 = v_233.toInt := (congrFun hSp_167 3).symm.trans (aF_at (by decide) e_234)
                        have hv_254 : f_222.toInt = v_238.toInt := (congrFun hSp_167 6).symm.trans (aF_at (by decide) e_239)
                        have hv_255 : f_21.toInt = v_243.toInt := (congrFun hSp_167 5).symm.trans (aF_at (by decide) e_244)
                        have hz_256 : (upI (upI (upI (upI (upI (upI (aF 77 ws0) 5 f_21.toInt) 6 f_21.toInt) 4 2) 7 0) 7 f_226.toInt) 6 f_222.toInt) = advS T (aF 77 ws0) := by first | (exfalso; omega) | (unfold advS; rw [if_pos (by omega), ← hSq_16, skip_e (by omega) (by omega)]; unfold advT; rw [if_neg (by omega), if_neg (by omega), if_pos (by omega)]; rw [← hSq_167, run_e (by omega) (by omega), ← hSr_167, numR_e (by omega) (by omega)]; unfold advN; first | rw [if_pos (by omega)] | rw [if_neg (by omega)])
                        rw [hQ]
                        exact y_vret C0 h (Fr.tr (Fr.tr (Fr.tr (Fr.tr (Fr.tr (Fr.tr (Fr.tr (Fr.up u_11.1 kSC_77 (by decide)) hF_16) (Fr.up u_41.1 kSC_77 (by decide))) (Fr.mono u_59 (by decide))) (Fr.mono u_72 (by decide))) (Fr.up u_197.1 kSC_77 (by decide))) (Fr.up u_201.1 kSC_77 (by decide))) hF_217) (Eq.trans hSp_167 hz_256) dX5_advance_308
                      · -- 236
                        refine lv_aload_n C0.1 C0.2.1 dX5_advance_239 rfl (lv_at hl 0 rfl) ?_
                        refine y_c1 (n := 1) C0 (by decide) dX5_advance_240 (fun v_257 e_258 => ?_)
                        refine y_cv h (y_rV (As := [.int v_257]) (rest := []) C0 hZ h (c_X5_failS l G Z ad _ h.2 v_257) k_X5_fail q_628 q_3 q_626 kSC_77 rfl rfl rfl hl.1 rfl rfl (Nat.le_of_ble_eq_true rfl) dX5_advance_241 ⟨Nat.le_of_ble_eq_true rfl, Nat.le_of_ble_eq_true rfl⟩ ⟨Nat.le_of_ble_eq_true rfl, Nat.le_of_ble_eq_true rfl⟩) (fun H locs ws_259 h u_260 p_261 => ?_)
                        have e_262 := p_261
                        refine lv_goto (tgt := 308) C0.1 C0.2.1 dX5_advance_244 (by decide) ?_
                        have hv_263 : f_222.toInt = v_228.toInt := (congrFun hSp_167 6).symm.trans (aF_at (by decide) e_229)
                        have hv_264 : (aF 77 ws0) 3 = v_233.toInt := (congrFun hSp_167 3).symm.trans (aF_at (by decide) e_234)
                        have hv_265 : f_222.toInt = v_238.toInt := (congrFun hSp_167 6).symm.trans (aF_at (by decide) e_239)
                        have hv_266 : f_21.toInt = v_243.toInt := (congrFun hSp_167 5).symm.trans (aF_at (by decide) e_244)
                        have hs_267 : aF 77 ws_259 = (failS 1 (upI (upI (upI (upI (upI (upI (aF 77 ws0) 5 f_21.toInt) 6 f_21.toInt) 4 2) 7 0) 7 f_226.toInt) 6 f_222.toInt)) := e_262.trans ((congrArg (fun s => failS v_257.toInt s) hSp_167).trans (by rw [(o61_56 e_258)]))
                        have hz_268 : (failS 1 (upI (upI (upI (upI (upI (upI (aF 77 ws0) 5 f_21.toInt) 6 f_21.toInt) 4 2) 7 0) 7 f_226.toInt) 6 f_222.toInt)) = advS T (aF 77 ws0) := by first | (exfalso; omega) | (unfold advS; rw [if_pos (by omega), ← hSq_16, skip_e (by omega) (by omega)]; unfold advT; rw [if_neg (by omega), if_neg (by omega), if_pos (by omega)]; rw [← hSq_167, run_e (by omega) (by omega), ← hSr_167, numR_e (by omega) (by omega)]; unfold advN; first | rw [if_pos (by omega)] | rw [if_neg (by omega)])
                        rw [hQ]
                        exact y_vret C0 h (Fr.tr (Fr.tr (Fr.tr (Fr.tr (Fr.tr (Fr.tr (Fr.tr (Fr.tr (Fr.up u_11.1 kSC_77 (by decide)) hF_16) (Fr.up u_41.1 kSC_77 (by decide))) (Fr.mono u_59 (by decide))) (Fr.mono u_72 (by decide))) (Fr.up u_197.1 kSC_77 (by decide))) (Fr.up u_201.1 kSC_77 (by decide))) hF_217) u_260) (Eq.trans hs_267 hz_268) dX5_advance_308
                    · -- 175
                      refine lv_aload_n C0.1 C0.2.1 dX5_advance_178 rfl (lv_at hl 0 rfl) ?_
                      refine lv_aload_n C0.1 C0.2.1 dX5_advance_179 rfl (lv_at hl 0 rfl) ?_
                      refine tg_X5_end C0 h kSC_77 q_376 dX5_advance_180 (fun v_269 e_270 e_271 e_272 => ?_)
                      have q_273 : v_269.toInt = f_222.toInt := congrArg Int32.toInt (e_270.symm.trans (Eq.trans rfl e_223))
                      refine y_ci h (y_rV (As := [.int v_269]) (rest := []) C0 hZ h (c_X5_isDigitS l G Z ad _ h.2 v_269 (o61_75 b_224 b_225 hn_221 e_230 e_231 q_232 e_235 e_236 c_237 e_271 e_272 q_273) (o61_76 b_224 b_225 hn_221 e_230 e_231 q_232 e_235 e_236 c_237 e_271 e_272 q_273) ((Tp.fr (M := [16]) hTp (Fr.tr (Fr.tr (Fr.tr (Fr.tr (Fr.tr (Fr.tr (Fr.tr (Fr.up u_11.1 kSC_77 (by decide)) hF_16) (Fr.up u_41.1 kSC_77 (by decide))) (Fr.mono u_59 (by decide))) (Fr.mono u_72 (by decide))) (Fr.up u_197.1 kSC_77 (by decide))) (Fr.up u_201.1 kSC_77 (by decide))) hF_217) kSC_78 (by decide)))) k_X5_isDigit q_624 q_2 q_622 kSC_77 rfl rfl rfl hl.1 rfl rfl (Nat.le_of_ble_eq_true rfl) dX5_advance_183 ⟨Nat.le_of_ble_eq_true rfl, Nat.le_of_ble_eq_true rfl⟩ ⟨Nat.le_of_ble_eq_true rfl, Nat.le_of_ble_eq_true rfl⟩) (fun r_277 H locs ws_274 h u_275 p_276 => ?_)
                      obtain ⟨e_278, e_279, e_280⟩ := p_276
                      refine y_if_eq (tgt := 226) C0 dX5_advance_186 (by decide) (fun c_281 => ?_) (fun c_281 => ?_)
                      · -- 186
                        refine lv_aload_n C0.1 C0.2.1 dX5_advance_226 rfl (lv_at hl 0 rfl) ?_
                        refine tg_X5_end C0 h kSC_77 q_376 dX5_advance_227 (fun v_282 e_283 e_284 e_285 => ?_)
                        have q_286 : v_282.toInt = f_222.toInt := congrArg Int32.toInt (e_283.symm.trans (Eq.trans (Fr.fI u_275 kSC_77 (by decide)) e_223))
                        refine lv_aload_n C0.1 C0.2.1 dX5_advance_230 rfl (lv_at hl 0 rfl) ?_
                        refine tg_X5_start C0 h kSC_77 q_375 dX5_advance_231 (fun v_287 e_288 e_289 e_290 => ?_)
                        refine y_sub C0 (o61_77 b_224 b_225 hn_221 e_230 e_231 q_232 e_235 e_236 c_237 e_271 e_272 q_273 e_284 e_285 q_286 e_289 e_290 (le_min v_282) (le_max v_282) (le_min v_287) (le_max v_287) (le_min f_222) (le_max f_222) (le_min v_228) (le_max v_228) (le_min v_233) (le_max v_233) (le_min v_269) (le_max v_269)) (o61_78 b_224 b_225 hn_221 e_230 e_231 q_232 e_235 e_236 c_237 e_271 e_272 q_273 e_284 e_285 q_286 e_289 e_290 (le_min v_282) (le_max v_282) (le_min v_287) (le_max v_287) (le_min f_222) (le_max f_222) (le_min v_228) (le_max v_228) (le_min v_233) (le_max v_233) (le_min v_269) (le_max v_269)) dX5_advance_234 (fun v_291 e_292 => ?_)
                        refine y_c1 (n := 3) C0 (by decide) dX5_advance_235 (fun v_293 e_294 => ?_)
                        refine y_icmp_le (tgt := 308) C0 dX5_advance_236 (by decide) (fun c_295 => ?_) (fun c_295 => ?_)
                        · -- 236
                          have hv_296 : f_222.toInt = v_228.toInt := (congrFun hSp_167 6).symm.trans (aF_at (by decide) e_229)
                          have hv_297 : (aF 77 ws0) 3 = v_233.toInt := (congrFun hSp_167 3).symm.trans (aF_at (by decide) e_234)
                          have hv_298 : f_222.toInt = v_269.toInt := (congrFun hSp_167 6).symm.trans (aF_at (by decide) e_270)
                          have hq_299 := e_280
                          rw [hv_298.symm] at hq_299
                          have hs_300 : aF 77 ws_274 = (upI (upI (upI (upI (upI (upI (aF 77 ws0) 5 f_21.toInt) 6 f_21.toInt) 4 2) 7 0) 7 f_226.toInt) 6 f_222.toInt) := (aF_fr u_275 kSC_77 (by decide)).trans hSp_167
                          have hv_301 : f_222.toInt = v_282.toInt := (congrFun hs_300 6).symm.trans (aF_at (by decide) e_283)
                          have hv_302 : f_21.toInt = v_287.toInt := (congrFun hs_300 5).symm.trans (aF_at (by decide) e_288)
                          have hz_303 : (upI (upI (upI (upI (upI (upI (aF 77 ws0) 5 f_21.toInt) 6 f_21.toInt) 4 2) 7 0) 7 f_226.toInt) 6 f_222.toInt) = advS T (aF 77 ws0) := by first | (exfalso; omega) | (unfold advS; rw [if_pos (by omega), ← hSq_16, skip_e (by omega) (by omega)]; unfold advT; rw [if_neg (by omega), if_neg (by omega), if_pos (by omega)]; rw [← hSq_167, run_e (by omega) (by omega), ← hSr_167, numR_e (by omega) (by omega)]; unfold advN; first | rw [if_pos (by omega)] | rw [if_neg (by omega)])
                          rw [hQ]
                          exact y_vret C0 h (Fr.tr (Fr.tr (Fr.tr (Fr.tr (Fr.tr (Fr.tr (Fr.tr (Fr.tr (Fr.up u_11.1 kSC_77 (by decide)) hF_16) (Fr.up u_41.1 kSC_77 (by decide))) (Fr.mono u_59 (by decide))) (Fr.mono u_72 (by decide))) (Fr.up u_197.1 kSC_77 (by decide))) (Fr.up u_201.1 kSC_77 (by decide))) hF_217) (Fr.mono u_275 (by decide))) (Eq.trans hs_300 hz_303) dX5_advance_308
                        · -- 236
                          refine lv_aload_n C0.1 C0.2.1 dX5_advance_239 rfl (lv_at hl 0 rfl) ?_
                          refine y_c1 (n := 1) C0 (by decide) dX5_advance_240 (fun v_304 e_305 => ?_)
                          refine y_cv h (y_rV (As := [.int v_304]) (rest := []) C0 hZ h (c_X5_failS l G Z ad _ h.2 v_304) k_X5_fail q_628 q_3 q_626 kSC_77 rfl rfl rfl hl.1 rfl rfl (Nat.le_of_ble_eq_true rfl) dX5_advance_241 ⟨Nat.le_of_ble_eq_true rfl, Nat.le_of_ble_eq_true rfl⟩ ⟨Nat.le_of_ble_eq_true rfl, Nat.le_of_ble_eq_true rfl⟩) (fun H locs ws_306 h u_307 p_308 => ?_)
                          have e_309 := p_308
                          refine lv_goto (tgt := 308) C0.1 C0.2.1 dX5_advance_244 (by decide) ?_
                          have hv_310 : f_222.toInt = v_228.toInt := (congrFun hSp_167 6).symm.trans (aF_at (by decide) e_229)
                          have hv_311 : (aF 77 ws0) 3 = v_233.toInt := (congrFun hSp_167 3).symm.trans (aF_at (by decide) e_234)
                          have hv_312 : f_222.toInt = v_269.toInt := (congrFun hSp_167 6).symm.trans (aF_at (by decide) e_270)
                          have hq_313 := e_280
                          rw [hv_312.symm] at hq_313
                          have hs_314 : aF 77 ws_274 = (upI (upI (upI (upI (upI (upI (aF 77 ws0) 5 f_21.toInt) 6 f_21.toInt) 4 2) 7 0) 7 f_226.toInt) 6 f_222.toInt) := (aF_fr u_275 kSC_77 (by decide)).trans hSp_167
                          have hv_315 : f_222.toInt = v_282.toInt := (congrFun hs_314 6).symm.trans (aF_at (by decide) e_283)
                          have hv_316 : f_21.toInt = v_287.toInt := (congrFun hs_314 5).symm.trans (aF_at (by decide) e_288)
                          have hs_317 : aF 77 ws_306 = (failS 1 (upI (upI (upI (upI (upI (upI (aF 77 ws0) 5 f_21.toInt) 6 f_21.toInt) 4 2) 7 0) 7 f_226.toInt) 6 f_222.toInt)) := e_309.trans ((congrArg (fun s => failS v_304.toInt s) hs_314).trans (by rw [(o61_56 e_305)]))
                          have hz_318 : (failS 1 (upI (upI (upI (upI (upI (upI (aF 77 ws0) 5 f_21.toInt) 6 f_21.toInt) 4 2) 7 0) 7 f_226.toInt) 6 f_222.toInt)) = advS T (aF 77 ws0) := by first | (exfalso; omega) | (unfold advS; rw [if_pos (by omega), ← hSq_16, skip_e (by omega) (by omega)]; unfold advT; rw [if_neg (by omega), if_neg (by omega), if_pos (by omega)]; rw [← hSq_167, run_e (by omega) (by omega), ← hSr_167, numR_e (by omega) (by omega)]; unfold advN; first | rw [if_pos (by omega)] | rw [if_neg (by omega)])
                          rw [hQ]
                          exact y_vret C0 h (Fr.tr (Fr.tr (Fr.tr (Fr.tr (Fr.tr (Fr.tr (Fr.tr (Fr.tr (Fr.tr (Fr.up u_11.1 kSC_77 (by decide)) hF_16) (Fr.up u_41.1 kSC_77 (by decide))) (Fr.mono u_59 (by decide))) (Fr.mono u_72 (by decide))) (Fr.up u_197.1 kSC_77 (by decide))) (Fr.up u_201.1 kSC_77 (by decide))) hF_217) (Fr.mono u_275 (by decide))) u_307) (Eq.trans hs_317 hz_318) dX5_advance_308
                      · -- 186
                        refine lv_aload_n C0.1 C0.2.1 dX5_advance_189 rfl (lv_at hl 0 rfl) ?_
                        refine lv_aload_n C0.1 C0.2.1 dX5_advance_190 rfl (lv_at hl 0 rfl) ?_
                        refine tg_X5_number C0 h kSC_77 q_377 dX5_advance_191 (fun v_319 e_320 e_321 e_322 => ?_)
                        have q_323 : v_319.toInt = f_226.toInt := congrArg Int32.toInt (e_320.symm.trans (Eq.trans (Fr.fI u_275 kSC_77 (by decide)) e_227))
                        refine y_c2 (n := 10) C0 (by decide) dX5_advance_194 (fun v_324 e_325 => ?_)
                        refine y_imulX C0 dX5_advance_196 (fun v_327 e_326 => ?_)
                        refine lv_aload_n C0.1 C0.2.1 dX5_advance_197 rfl (lv_at hl 0 rfl) ?_
                        refine tg_X5_tape C0 h kSC_77 q_371 dX5_advance_198 ?_
                        refine lv_aload_n C0.1 C0.2.1 dX5_advance_201 rfl (lv_at hl 0 rfl) ?_
                        refine tg_X5_end C0 h kSC_77 q_376 dX5_advance_202 (fun v_328 e_329 e_330 e_331 => ?_)
                        have q_332 : v_328.toInt = f_222.toInt := congrArg Int32.toInt (e_329.symm.trans (Eq.trans (Fr.fI u_275 kSC_77 (by decide)) e_223))
                        refine y_bald C0 h kSC_78 rfl (by decide) (o61_79 b_224 b_225 hn_221 e_230 e_231 q_232 e_235 e_236 c_237 e_271 e_272 q_273 e_330 e_331 q_332) (o61_80 b_224 b_225 hn_221 e_230 e_231 q_232 e_235 e_236 c_237 e_271 e_272 q_273 e_330 e_331 q_332) dX5_advance_205 (fun v_333 e_334 e_335 e_336 => ?_)
                        refine y_iaddX C0 dX5_advance_206 (fun v_338 e_337 => ?_)
                        refine y_c2 (n := 48) C0 (by decide) dX5_advance_207 (fun v_339 e_340 => ?_)
                        refine y_isubX C0 dX5_advance_209 (fun v_342 e_341 => ?_)
                        refine tp_X5_number C0 h kSC_77 q_377 (le_min v_342) (le_max v_342) dX5_advance_210 (fun H locs ws_343 h u_344 => ?_)
                        refine lv_aload_n C0.1 C0.2.1 dX5_advance_213 rfl (lv_at hl 0 rfl) ?_
                        refine lv_dup C0.1 C0.2.1 dX5_advance_214 rfl ?_
                        refine tg_X5_end C0 h kSC_77 q_376 dX5_advance_215 (fun v_345 e_346 e_347 e_348 => ?_)
                        have q_349 : v_345.toInt = f_222.toInt := congrArg Int32.toInt (e_346.symm.trans (Eq.trans (Eq.trans (u_344.2.2 6 (by decide)) (Fr.fI u_275 kSC_77 (by decide))) e_223))
                        refine y_c1 (n := 1) C0 (by decide) dX5_advance_218 (fun v_350 e_351 => ?_)
                        refine y_add C0 (o61_81 b_224 b_225 hn_221 e_230 e_231 q_232 e_235 e_236 c_237 e_271 e_272 q_273 e_330 e_331 q_332 e_347 e_348 q_349 e_351 (le_min v_345) (le_max v_345) (le_min v_350) (le_max v_350) (le_min f_222) (le_max f_222) (le_min v_228) (le_max v_228) (le_min v_233) (le_max v_233) (le_min v_269) (le_max v_269) (le_min v_328) (le_max v_328)) (o61_82 b_224 b_225 hn_221 e_230 e_231 q_232 e_235 e_236 c_237 e_271 e_272 q_273 e_330 e_331 q_332 e_347 e_348 q_349 e_351 (le_min v_345) (le_max v_345) (le_min v_350) (le_max v_350) (le_min f_222) (le_max f_222) (le_min v_228) (le_max v_228) (le_min v_233) (le_max v_233) (le_min v_269) (le_max v_269) (le_min v_328) (le_max v_328)) dX5_advance_219 (fun v_352 e_353 => ?_)
                        refine tp_X5_end C0 h kSC_77 q_376 (o61_83 b_224 b_225 hn_221 e_230 e_231 q_232 e_235 e_236 c_237 e_271 e_272 q_273 e_330 e_331 q_332 e_347 e_348 q_349 e_351 e_353) (o61_84 b_224 b_225 hn_221 e_230 e_231 q_232 e_235 e_236 c_237 e_271 e_272 q_273 e_330 e_331 q_332 e_347 e_348 q_349 e_351 e_353) dX5_advance_220 (fun H locs ws_354 h u_355 => ?_)
                        refine lv_goto (tgt := 167) C0.1 C0.2.1 dX5_advance_223 (by decide) ?_
                        have hv_356 : f_222.toInt = v_228.toInt := (congrFun hSp_167 6).symm.trans (aF_at (by decide) e_229)
                        have hv_357 : (aF 77 ws0) 3 = v_233.toInt := (congrFun hSp_167 3).symm.trans (aF_at (by decide) e_234)
                        have hv_358 : f_222.toInt = v_269.toInt := (congrFun hSp_167 6).symm.trans (aF_at (by decide) e_270)
                        have hq_359 := e_280
                        rw [hv_358.symm] at hq_359
                        have hs_360 : aF 77 ws_274 = (upI (upI (upI (upI (upI (upI (aF 77 ws0) 5 f_21.toInt) 6 f_21.toInt) 4 2) 7 0) 7 f_226.toInt) 6 f_222.toInt) := (aF_fr u_275 kSC_77 (by decide)).trans hSp_167
                        have hv_361 : f_226.toInt = v_319.toInt := (congrFun hs_360 7).symm.trans (aF_at (by decide) e_320)
                        have hv_362 : f_222.toInt = v_328.toInt := (congrFun hs_360 6).symm.trans (aF_at (by decide) e_329)
                        have ht_363 : T (f_222.toInt).toNat = v_333.toInt := by have q := (Tp.fr (M := [16]) hTp (Fr.tr (Fr.tr (Fr.tr (Fr.tr (Fr.tr (Fr.tr (Fr.tr (Fr.tr (Fr.up u_11.1 kSC_77 (by decide)) hF_16) (Fr.up u_41.1 kSC_77 (by decide))) (Fr.mono u_59 (by decide))) (Fr.mono u_72 (by decide))) (Fr.up u_197.1 kSC_77 (by decide))) (Fr.up u_201.1 kSC_77 (by decide))) hF_217) (Fr.mono u_275 (by decide))) kSC_78 (by decide)) v_328.toInt.toNat (o61_86 b_224 b_225 hn_221 e_230 e_231 q_232 e_235 e_236 c_237 e_271 e_272 q_273 e_330 e_331 q_332 e_347 e_348 q_349 e_351 e_353); rw [e_334] at q; rw [← hv_362.symm]; exact q.symm
                        have hs_364 : aF 77 ws_343 = (upI (upI (upI (upI (upI (upI (upI (aF 77 ws0) 5 f_21.toInt) 6 f_21.toInt) 4 2) 7 0) 7 f_226.toInt) 6 f_222.toInt) 7 v_342.toInt) := (aF_up (by decide) u_344).trans (congrArg (fun s => upI s 7 v_342.toInt) hs_360)
                        have hv_365 : f_222.toInt = v_345.toInt := (congrFun hs_364 6).symm.trans (aF_at (by decide) e_346)
                        have hs_366 : aF 77 ws_354 = (upI (upI (upI (upI (upI (upI (upI (upI (aF 77 ws0) 5 f_21.toInt) 6 f_21.toInt) 4 2) 7 0) 7 f_226.toInt) 6 f_222.toInt) 7 v_342.toInt) 6 v_352.toInt) := (aF_up (by decide) u_355).trans (congrArg (fun s => upI s 6 v_352.toInt) hs_364)
                        exact ih_219 v_352 v_342 _ _ _ _ (o61_85 b_224 b_225 hn_221 e_230 e_231 q_232 e_235 e_236 c_237 e_271 e_272 q_273 e_330 e_331 q_332 e_347 e_348 q_349 e_351 e_353) (o61_83 b_224 b_225 hn_221 e_230 e_231 q_232 e_235 e_236 c_237 e_271 e_272 q_273 e_330 e_331 q_332 e_347 e_348 q_349 e_351 e_353) (o61_84 b_224 b_225 hn_221 e_230 e_231 q_232 e_235 e_236 c_237 e_271 e_272 q_273 e_330 e_331 q_332 e_347 e_348 q_349 e_351 e_353) ((hs_366.trans upI_76)) (((run_s (by omega) (by omega) ⟨by omega, by omega⟩).trans hSq_167)) (((num_st (by omega) (by omega) ((nxt_of e_326 (o61_87 e_325) e_337 e_341 (o61_88 e_340)).trans (by rw [ht_363.symm, hv_361.symm])) ⟨by omega, by omega⟩).trans hSr_167)) (Eq.trans rfl u_355.2.1) (Eq.trans (u_355.2.2 7 (by decide)) u_344.2.1) h (Fr.tr (Fr.tr (Fr.tr hF_217 (Fr.mono u_275 (by decide))) (Fr.up u_344.1 kSC_77 (by decide))) (Fr.up u_355.1 kSC_77 (by decide))) (lv_sub hl [0] rfl)
                have hs_367 : aF 77 ws_40 = (upI (upI (aF 77 ws0) 5 f_21.toInt) 6 f_21.toInt) := (aF_up (by decide) u_41).trans ((congrArg (fun s => upI s 6 v_35.toInt) hSp_16).trans (by rw [hv_204.symm]))
                have hs_368 : aF 77 ws_58 = (upI (upI (aF 77 ws0) 5 f_21.toInt) 6 f_21.toInt) := (aF_fr u_59 kSC_77 (by decide)).trans hs_367
                have hs_369 : aF 77 ws_71 = (upI (upI (aF 77 ws0) 5 f_21.toInt) 6 f_21.toInt) := (aF_fr u_72 kSC_77 (by decide)).trans hs_368
                have hs_370 : aF 77 ws_196 = (upI (upI (upI (aF 77 ws0) 5 f_21.toInt) 6 f_21.toInt) 4 2) := (aF_up (by decide) u_197).trans ((congrArg (fun s => upI s 4 v_194.toInt) hs_369).trans (by rw [(o61_72 e_195)]))
                have hs_371 : aF 77 ws_200 = (upI (upI (upI (upI (aF 77 ws0) 5 f_21.toInt) 6 f_21.toInt) 4 2) 7 0) := (aF_up (by decide) u_201).trans ((congrArg (fun s => upI s 7 v_198.toInt) hs_370).trans (by rw [(o61_39 e_199)]))
                exact lp_218 ((900 - v_35.toInt + 1).toNat) v_35 v_198 _ _ _ _ (o61_89 b_23 b_24 hn_20 e_27 e_28 q_29 e_32 e_33 c_34 e_37 e_38 q_39 e_44 e_45 q_46 e_49 e_50 q_51 c_52 e_55 e_56 q_57 e_68 e_69 q_70) (o61_90 b_23 b_24 hn_20 e_27 e_28 q_29 e_32 e_33 c_34 e_37 e_38 q_39 e_44 e_45 q_46 e_49 e_50 q_51 c_52 e_55 e_56 q_57 e_68 e_69 q_70) (o61_91 b_23 b_24 hn_20 e_27 e_28 q_29 e_32 e_33 c_34 e_37 e_38 q_39 e_44 e_45 q_46 e_49 e_50 q_51 c_52 e_55 e_56 q_57 e_68 e_69 q_70) ((hs_371.trans (upI_id2 (show 0 = v_198.toInt by omega) (show f_21.toInt = v_35.toInt by omega)).symm)) ((by rw [show v_35.toInt = f_21.toInt by omega])) ((by rw [show v_35.toInt = f_21.toInt by omega, show v_198.toInt = 0 by omega])) (Eq.trans (Eq.trans (u_201.2.2 6 (by decide)) (Eq.trans (u_197.2.2 6 (by decide)) (Eq.trans (Fr.fI u_72 kSC_77 (by decide)) (Fr.fI u_59 kSC_77 (by decide))))) u_41.2.1) (Eq.trans rfl u_201.2.1) h Fr.rf (lv_sub hl [0] rfl)
            · -- 103
              refine lv_aload_n C0.1 C0.2.1 dX5_advance_106 rfl (lv_at hl 0 rfl) ?_
              refine y_c1 (n := 1) C0 (by decide) dX5_advance_107 (fun v_372 e_373 => ?_)
              refine tp_X5_kind C0 h kSC_77 q_374 (le_min v_372) (le_max v_372) dX5_advance_108 (fun H locs ws_374 h u_375 => ?_)
              have hv_376 : f_21.toInt = v_25.toInt := (congrFun hSp_16 5).symm.trans (aF_at (by decide) e_26)
              have hv_377 : (aF 77 ws0) 3 = v_30.toInt := (congrFun hSp_16 3).symm.trans (aF_at (by decide) e_31)
              have hv_378 : f_21.toInt = v_35.toInt := (congrFun hSp_16 5).symm.trans (aF_at (by decide) e_36)
              have hs_379 : aF 77 ws_40 = (upI (upI (aF 77 ws0) 5 f_21.toInt) 6 f_21.toInt) := (aF_up (by decide) u_41).trans ((congrArg (fun s => upI s 6 v_35.toInt) hSp_16).trans (by rw [hv_378.symm]))
              have hv_380 : f_21.toInt = v_42.toInt := (congrFun hs_379 5).symm.trans (aF_at (by decide) e_43)
              have hv_381 : (aF 77 ws0) 3 = v_47.toInt := (congrFun hs_379 3).symm.trans (aF_at (by decide) e_48)
              have hv_382 : f_21.toInt = v_53.toInt := (congrFun hs_379 5).symm.trans (aF_at (by decide) e_54)
              have hq_383 := e_64
              rw [hv_382.symm] at hq_383
              have hs_384 : aF 77 ws_58 = (upI (upI (aF 77 ws0) 5 f_21.toInt) 6 f_21.toInt) := (aF_fr u_59 kSC_77 (by decide)).trans hs_379
              have hs_385 : aF 77 ws_374 = (upI (upI (upI (aF 77 ws0) 5 f_21.toInt) 6 f_21.toInt) 4 1) := (aF_up (by decide) u_375).trans ((congrArg (fun s => upI s 4 v_372.toInt) hs_384).trans (by rw [(o61_56 e_373)]))
              have lp_388 : ∀ (n_390 : Nat) (f_392 : Int32) (H : Heap) (locs : List Loc) (ls : Array Slot) (ws_386 : va_W), 900 - f_392.toInt < (n_390 : Int) → 0 ≤ f_392.toInt → f_392.toInt ≤ 900 → (aF 77 ws_386 = (upI (upI (upI (upI (aF 77 ws0) 5 f_21.toInt) 6 f_21.toInt) 4 1) 6 (f_392.toInt))) → (run T ((aF 77 ws0) 3) 97 122 f_392.toInt = run T ((aF 77 ws0) 3) 97 122 f_21.toInt) → fI ws_386 77 6 = f_392 → Wt G (SC tt) ad A s H locs ws_386 → Fr (SC tt) [16] ws_374 ws_386 → lv_has ls 1 [(0, .ref (ad 77))] → W p l e (rmd 5 0 0) s m args below meth c H locs 0 0 Q (F0 m 111 ls []) := by
                intro n_390
                induction n_390 with
                | zero => intro f_392 H locs ls ws_386 hn_391 b_394 b_395 hSp_111 hSq_111 e_393 h hF_387 hl; exact ((o61_46 b_394 b_395 hn_391)).elim
                | succ n_390 ih_389 =>
                  intro f_392 H locs ls ws_386 hn_391 b_394 b_395 hSp_111 hSq_111 e_393 h hF_387 hl
                  refine lv_aload_n C0.1 C0.2.1 dX5_advance_111 rfl (lv_at hl 0 rfl) ?_
                  refine tg_X5_end C0 h kSC_77 q_376 dX5_advance_112 (fun v_396 e_397 e_398 e_399 => ?_)
                  have q_400 : v_396.toInt = f_392.toInt := congrArg Int32.toInt (e_397.symm.trans (Eq.trans rfl e_393))
                  refine lv_aload_n C0.1 C0.2.1 dX5_advance_115 rfl (lv_at hl 0 rfl) ?_
                  refine tg_X5_length C0 h kSC_77 q_373 dX5_advance_116 (fun v_401 e_402 e_403 e_404 => ?_)
                  refine y_icmp_ge (tgt := 308) C0 dX5_advance_119 (by decide) (fun c_405 => ?_) (fun c_405 => ?_)
                  · -- 119
                    have hv_406 : f_392.toInt = v_396.toInt := (congrFun hSp_111 6).symm.trans (aF_at (by decide) e_397)
                    have hv_407 : (aF 77 ws0) 3 = v_401.toInt := (congrFun hSp_111 3).symm.trans (aF_at (by decide) e_402)
                    have hz_408 : (upI (upI (upI (upI (aF 77 ws0) 5 f_21.toInt) 6 f_21.toInt) 4 1) 6 f_392.toInt) = advS T (aF 77 ws0) := by first | (exfalso; omega) | (unfold advS; rw [if_pos (by omega), ← hSq_16, skip_e (by omega) (by omega)]; unfold advT; rw [if_neg (by omega), if_pos (by omega)]; rw [← hSq_111, run_e (by omega) (by omega)])
                    rw [hQ]
                    exact y_vret C0 h (Fr.tr (Fr.tr (Fr.tr (Fr.tr (Fr.tr (Fr.up u_11.1 kSC_77 (by decide)) hF_16) (Fr.up u_41.1 kSC_77 (by decide))) (Fr.mono u_59 (by decide))) (Fr.up u_375.1 kSC_77 (by decide))) hF_387) (Eq.trans hSp_111 hz_408) dX5_advance_308
                  · -- 119
                    refine lv_aload_n C0.1 C0.2.1 dX5_advance_122 rfl (lv_at hl 0 rfl) ?_
                    refine lv_aload_n C0.1 C0.2.1 dX5_advance_123 rfl (lv_at hl 0 rfl) ?_
                    refine tg_X5_end C0 h kSC_77 q_376 dX5_advance_124 (fun v_409 e_410 e_411 e_412 => ?_)
                    have q_413 : v_409.toInt = f_392.toInt := congrArg Int32.toInt (e_410.symm.trans (Eq.trans rfl e_393))
                    refine y_ci h (y_rV (As := [.int v_409]) (rest := []) C0 hZ h (c_X5_isSmallS l G Z ad _ h.2 v_409 (o61_75 b_394 b_395 hn_391 e_398 e_399 q_400 e_403 e_404 c_405 e_411 e_412 q_413) (o61_76 b_394 b_395 hn_391 e_398 e_399 q_400 e_403 e_404 c_405 e_411 e_412 q_413) ((Tp.fr (M := [16]) hTp (Fr.tr (Fr.tr (Fr.tr (Fr.tr (Fr.tr (Fr.up u_11.1 kSC_77 (by decide)) hF_16) (Fr.up u_41.1 kSC_77 (by decide))) (Fr.mono u_59 (by decide))) (Fr.up u_375.1 kSC_77 (by decide))) hF_387) kSC_78 (by decide)))) k_X5_isSmall q_620 q_1 q_618 kSC_77 rfl rfl rfl hl.1 rfl rfl (Nat.le_of_ble_eq_true rfl) dX5_advance_127 ⟨Nat.le_of_ble_eq_true rfl, Nat.le_of_ble_eq_true rfl⟩ ⟨Nat.le_of_ble_eq_true rfl, Nat.le_of_ble_eq_true rfl⟩) (fun r_417 H locs ws_414 h u_415 p_416 => ?_)
                    obtain ⟨e_418, e_419, e_420⟩ := p_416
                    refine y_if_eq (tgt := 308) C0 dX5_advance_130 (by decide) (fun c_421 => ?_) (fun c_421 => ?_)
                    · -- 130
                      have hv_422 : f_392.toInt = v_396.toInt := (congrFun hSp_111 6).symm.trans (aF_at (by decide) e_397)
                      have hv_423 : (aF 77 ws0) 3 = v_401.toInt := (congrFun hSp_111 3).symm.trans (aF_at (by decide) e_402)
                      have hv_424 : f_392.toInt = v_409.toInt := (congrFun hSp_111 6).symm.trans (aF_at (by decide) e_410)
                      have hq_425 := e_420
                      rw [hv_424.symm] at hq_425
                      have hs_426 : aF 77 ws_414 = (upI (upI (upI (upI (aF 77 ws0) 5 f_21.toInt) 6 f_21.toInt) 4 1) 6 f_392.toInt) := (aF_fr u_415 kSC_77 (by decide)).trans hSp_111
                      have hz_427 : (upI (upI (upI (upI (aF 77 ws0) 5 f_21.toInt) 6 f_21.toInt) 4 1) 6 f_392.toInt) = advS T (aF 77 ws0) := by first | (exfalso; omega) | (unfold advS; rw [if_pos (by omega), ← hSq_16, skip_e (by omega) (by omega)]; unfold advT; rw [if_neg (by omega), if_pos (by omega)]; rw [← hSq_111, run_e (by omega) (by omega)])
                      rw [hQ]
                      exact y_vret C0 h (Fr.tr (Fr.tr (Fr.tr (Fr.tr (Fr.tr (Fr.tr (Fr.up u_11.1 kSC_77 (by decide)) hF_16) (Fr.up u_41.1 kSC_77 (by decide))) (Fr.mono u_59 (by decide))) (Fr.up u_375.1 kSC_77 (by decide))) hF_387) (Fr.mono u_415 (by decide))) (Eq.trans hs_426 hz_427) dX5_advance_308
                    · -- 130
                      refine lv_aload_n C0.1 C0.2.1 dX5_advance_133 rfl (lv_at hl 0 rfl) ?_
                      refine lv_dup C0.1 C0.2.1 dX5_advance_134 rfl ?_
                      refine tg_X5_end C0 h kSC_77 q_376 dX5_advance_135 (fun v_428 e_429 e_430 e_431 => ?_)
                      have q_432 : v_428.toInt = f_392.toInt := congrArg Int32.toInt (e_429.symm.trans (Eq.trans (Fr.fI u_415 kSC_77 (by decide)) e_393))
                      refine y_c1 (n := 1) C0 (by decide) dX5_advance_138 (fun v_433 e_434 => ?_)
                      refine y_add C0 (o61_92 b_394 b_395 hn_391 e_398 e_399 q_400 e_403 e_404 c_405 e_411 e_412 q_413 e_430 e_431 q_432 e_434 (le_min v_428) (le_max v_428) (le_min v_433) (le_max v_433) (le_min f_392) (le_max f_392) (le_min v_396) (le_max v_396) (le_min v_401) (le_max v_401) (le_min v_409) (le_max v_409)) (o61_93 b_394 b_395 hn_391 e_398 e_399 q_400 e_403 e_404 c_405 e_411 e_412 q_413 e_430 e_431 q_432 e_434 (le_min v_428) (le_max v_428) (le_min v_433) (le_max v_433) (le_min f_392) (le_max f_392) (le_min v_396) (le_max v_396) (le_min v_401) (le_max v_401) (le_min v_409) (le_max v_409)) dX5_advance_139 (fun v_435 e_436 => ?_)
                      refine tp_X5_end C0 h kSC_77 q_376 (o61_94 b_394 b_395 hn_391 e_398 e_399 q_400 e_403 e_404 c_405 e_411 e_412 q_413 e_430 e_431 q_432 e_434 e_436) (o61_95 b_394 b_395 hn_391 e_398 e_399 q_400 e_403 e_404 c_405 e_411 e_412 q_413 e_430 e_431 q_432 e_434 e_436) dX5_advance_140 (fun H locs ws_437 h u_438 => ?_)
                      refine lv_goto (tgt := 111) C0.1 C0.2.1 dX5_advance_143 (by decide) ?_
                      have hv_439 : f_392.toInt = v_396.toInt := (congrFun hSp_111 6).symm.trans (aF_at (by decide) e_397)
                      have hv_440 : (aF 77 ws0) 3 = v_401.toInt := (congrFun hSp_111 3).symm.trans (aF_at (by decide) e_402)
                      have hv_441 : f_392.toInt = v_409.toInt := (congrFun hSp_111 6).symm.trans (aF_at (by decide) e_410)
                      have hq_442 := e_420
                      rw [hv_441.symm] at hq_442
                      have hs_443 : aF 77 ws_414 = (upI (upI (upI (upI (aF 77 ws0) 5 f_21.toInt) 6 f_21.toInt) 4 1) 6 f_392.toInt) := (aF_fr u_415 kSC_77 (by decide)).trans hSp_111
                      have hv_444 : f_392.toInt = v_428.toInt := (congrFun hs_443 6).symm.trans (aF_at (by decide) e_429)
                      have hs_445 : aF 77 ws_437 = (upI (upI (upI (upI (upI (aF 77 ws0) 5 f_21.toInt) 6 f_21.toInt) 4 1) 6 f_392.toInt) 6 v_435.toInt) := (aF_up (by decide) u_438).trans (congrArg (fun s => upI s 6 v_435.toInt) hs_443)
                      exact ih_389 v_435 _ _ _ _ (o61_96 b_394 b_395 hn_391 e_398 e_399 q_400 e_403 e_404 c_405 e_411 e_412 q_413 e_430 e_431 q_432 e_434 e_436) (o61_94 b_394 b_395 hn_391 e_398 e_399 q_400 e_403 e_404 c_405 e_411 e_412 q_413 e_430 e_431 q_432 e_434 e_436) (o61_95 b_394 b_395 hn_391 e_398 e_399 q_400 e_403 e_404 c_405 e_411 e_412 q_413 e_430 e_431 q_432 e_434 e_436) ((hs_445.trans upI_up)) (((run_s (by omega) (by omega) ⟨by omega, by omega⟩).trans hSq_111)) (Eq.trans rfl u_438.2.1) h (Fr.tr (Fr.tr hF_387 (Fr.mono u_415 (by decide))) (Fr.up u_438.1 kSC_77 (by decide))) (lv_sub hl [0] rfl)
              have hs_446 : aF 77 ws_40 = (upI (upI (aF 77 ws0) 5 f_21.toInt) 6 f_21.toInt) := (aF_up (by decide) u_41).trans ((congrArg (fun s => upI s 6 v_35.toInt) hSp_16).trans (by rw [hv_378.symm]))
              have hs_447 : aF 77 ws_58 = (upI (upI (aF 77 ws0) 5 f_21.toInt) 6 f_21.toInt) := (aF_fr u_59 kSC_77 (by decide)).trans hs_446
              have hs_448 : aF 77 ws_374 = (upI (upI (upI (aF 77 ws0) 5 f_21.toInt) 6 f_21.toInt) 4 1) := (aF_up (by decide) u_375).trans ((congrArg (fun s => upI s 4 v_372.toInt) hs_447).trans (by rw [(o61_56 e_373)]))
              exact lp_388 ((900 - v_35.toInt + 1).toNat) v_35 _ _ _ _ (o61_97 b_23 b_24 hn_20 e_27 e_28 q_29 e_32 e_33 c_34 e_37 e_38 q_39 e_44 e_45 q_46 e_49 e_50 q_51 c_52 e_55 e_56 q_57) (o61_98 b_23 b_24 hn_20 e_27 e_28 q_29 e_32 e_33 c_34 e_37 e_38 q_39 e_44 e_45 q_46 e_49 e_50 q_51 c_52 e_55 e_56 q_57) (o61_99 b_23 b_24 hn_20 e_27 e_28 q_29 e_32 e_33 c_34 e_37 e_38 q_39 e_44 e_45 q_46 e_49 e_50 q_51 c_52 e_55 e_56 q_57) ((hs_448.trans (upI_id (show f_21.toInt = v_35.toInt by omega)).symm)) ((by rw [show v_35.toInt = f_21.toInt by omega])) (Eq.trans (Eq.trans (u_375.2.2 6 (by decide)) (Fr.fI u_59 kSC_77 (by decide))) u_41.2.1) h Fr.rf (lv_sub hl [0] rfl)
          · -- 84
            refine lv_aload_n C0.1 C0.2.1 dX5_advance_87 rfl (lv_at hl 0 rfl) ?_
            refine y_c1 (n := 0) C0 (by decide) dX5_advance_88 (fun v_449 e_450 => ?_)
            refine tp_X5_kind C0 h kSC_77 q_374 (le_min v_449) (le_max v_449) dX5_advance_89 (fun H locs ws_451 h u_452 => ?_)
            refine lv_goto (tgt := 308) C0.1 C0.2.1 dX5_advance_92 (by decide) ?_
            have hv_453 : f_21.toInt = v_25.toInt := (congrFun hSp_16 5).symm.trans (aF_at (by decide) e_26)
            have hv_454 : (aF 77 ws0) 3 = v_30.toInt := (congrFun hSp_16 3).symm.trans (aF_at (by decide) e_31)
            have hv_455 : f_21.toInt = v_35.toInt := (congrFun hSp_16 5).symm.trans (aF_at (by decide) e_36)
            have hs_456 : aF 77 ws_40 = (upI (upI (aF 77 ws0) 5 f_21.toInt) 6 f_21.toInt) := (aF_up (by decide) u_41).trans ((congrArg (fun s => upI s 6 v_35.toInt) hSp_16).trans (by rw [hv_455.symm]))
            have hv_457 : f_21.toInt = v_42.toInt := (congrFun hs_456 5).symm.trans (aF_at (by decide) e_43)
            have hv_458 : (aF 77 ws0) 3 = v_47.toInt := (congrFun hs_456 3).symm.trans (aF_at (by decide) e_48)
            have hs_459 : aF 77 ws_451 = (upI (upI (upI (aF 77 ws0) 5 f_21.toInt) 6 f_21.toInt) 4 0) := (aF_up (by decide) u_452).trans ((congrArg (fun s => upI s 4 v_449.toInt) hs_456).trans (by rw [(o61_39 e_450)]))
            have hz_460 : (upI (upI (upI (aF 77 ws0) 5 f_21.toInt) 6 f_21.toInt) 4 0) = advS T (aF 77 ws0) := by first | (exfalso; omega) | (unfold advS; rw [if_pos (by omega), ← hSq_16, skip_e (by omega) (by omega)]; unfold advT; first | (rw [if_pos (by omega)]; done) | (rw [if_neg (by omega), if_neg (by omega), if_neg (by omega), if_pos (by omega)]; congr 1; omega) | (rw [if_neg (by omega), if_neg (by omega), if_neg (by omega), if_neg (by omega)]; done))
            rw [hQ]
            exact y_vret C0 h (Fr.tr (Fr.tr (Fr.tr (Fr.up u_11.1 kSC_77 (by decide)) hF_16) (Fr.up u_41.1 kSC_77 (by decide))) (Fr.up u_452.1 kSC_77 (by decide))) (Eq.trans hs_459 hz_460) dX5_advance_308
        · -- 24
          refine lv_aload_n C0.1 C0.2.1 dX5_advance_27 rfl (lv_at hl 0 rfl) ?_
          refine tg_X5_tape C0 h kSC_77 q_371 dX5_advance_28 ?_
          refine lv_aload_n C0.1 C0.2.1 dX5_advance_31 rfl (lv_at hl 0 rfl) ?_
          refine tg_X5_start C0 h kSC_77 q_375 dX5_advance_32 (fun v_461 e_462 e_463 e_464 => ?_)
          have q_465 : v_461.toInt = f_21.toInt := congrArg Int32.toInt (e_462.symm.trans (Eq.trans rfl e_22))
          refine y_bald C0 h kSC_78 rfl (by decide) (o61_75 b_23 b_24 hn_20 e_27 e_28 q_29 e_32 e_33 c_34 e_463 e_464 q_465) (o61_100 b_23 b_24 hn_20 e_27 e_28 q_29 e_32 e_33 c_34 e_463 e_464 q_465) dX5_advance_35 (fun v_466 e_467 e_468 e_469 => ?_)
          refine y_c2 (n := 32) C0 (by decide) dX5_advance_36 (fun v_470 e_471 => ?_)
          refine y_icmp_eq (tgt := 55) C0 dX5_advance_38 (by decide) (fun c_472 => ?_) (fun c_472 => ?_)
          · -- 38
            refine lv_aload_n C0.1 C0.2.1 dX5_advance_55 rfl (lv_at hl 0 rfl) ?_
            refine lv_dup C0.1 C0.2.1 dX5_advance_56 rfl ?_
            refine tg_X5_start C0 h kSC_77 q_375 dX5_advance_57 (fun v_473 e_474 e_475 e_476 => ?_)
            have q_477 : v_473.toInt = f_21.toInt := congrArg Int32.toInt (e_474.symm.trans (Eq.trans rfl e_22))
            refine y_c1 (n := 1) C0 (by decide) dX5_advance_60 (fun v_478 e_479 => ?_)
            refine y_add C0 (o61_92 b_23 b_24 hn_20 e_27 e_28 q_29 e_32 e_33 c_34 e_463 e_464 q_465 e_475 e_476 q_477 e_479 (le_min v_473) (le_max v_473) (le_min v_478) (le_max v_478) (le_min f_21) (le_max f_21) (le_min v_25) (le_max v_25) (le_min v_30) (le_max v_30) (le_min v_461) (le_max v_461)) (o61_93 b_23 b_24 hn_20 e_27 e_28 q_29 e_32 e_33 c_34 e_463 e_464 q_465 e_475 e_476 q_477 e_479 (le_min v_473) (le_max v_473) (le_min v_478) (le_max v_478) (le_min f_21) (le_max f_21) (le_min v_25) (le_max v_25) (le_min v_30) (le_max v_30) (le_min v_461) (le_max v_461)) dX5_advance_61 (fun v_480 e_481 => ?_)
            refine tp_X5_start C0 h kSC_77 q_375 (o61_94 b_23 b_24 hn_20 e_27 e_28 q_29 e_32 e_33 c_34 e_463 e_464 q_465 e_475 e_476 q_477 e_479 e_481) (o61_95 b_23 b_24 hn_20 e_27 e_28 q_29 e_32 e_33 c_34 e_463 e_464 q_465 e_475 e_476 q_477 e_479 e_481) dX5_advance_62 (fun H locs ws_482 h u_483 => ?_)
            refine lv_goto (tgt := 16) C0.1 C0.2.1 dX5_advance_65 (by decide) ?_
            have hv_484 : f_21.toInt = v_25.toInt := (congrFun hSp_16 5).symm.trans (aF_at (by decide) e_26)
            have hv_485 : (aF 77 ws0) 3 = v_30.toInt := (congrFun hSp_16 3).symm.trans (aF_at (by decide) e_31)
            have hv_486 : f_21.toInt = v_461.toInt := (congrFun hSp_16 5).symm.trans (aF_at (by decide) e_462)
            have hv_487 : f_21.toInt = v_473.toInt := (congrFun hSp_16 5).symm.trans (aF_at (by decide) e_474)
            have ht_488 : T (f_21.toInt).toNat = v_466.toInt := by have q := (Tp.fr (M := [16]) hTp (Fr.tr (Fr.up u_11.1 kSC_77 (by decide)) hF_16) kSC_78 (by decide)) v_461.toInt.toNat (o61_101 b_23 b_24 hn_20 e_27 e_28 q_29 e_32 e_33 c_34 e_463 e_464 q_465 e_475 e_476 q_477 e_479 e_481); rw [e_467] at q; rw [← hv_486.symm]; exact q.symm
            have hs_489 : aF 77 ws_482 = (upI (upI (aF 77 ws0) 5 f_21.toInt) 5 v_480.toInt) := (aF_up (by decide) u_483).trans (congrArg (fun s => upI s 5 v_480.toInt) hSp_16)
            exact ih_18 v_480 _ _ _ _ (o61_96 b_23 b_24 hn_20 e_27 e_28 q_29 e_32 e_33 c_34 e_463 e_464 q_465 e_475 e_476 q_477 e_479 e_481) (o61_94 b_23 b_24 hn_20 e_27 e_28 q_29 e_32 e_33 c_34 e_463 e_464 q_465 e_475 e_476 q_477 e_479 e_481) (o61_95 b_23 b_24 hn_20 e_27 e_28 q_29 e_32 e_33 c_34 e_463 e_464 q_465 e_475 e_476 q_477 e_479 e_481) ((hs_489.trans upI_up)) (((skip_s (by omega) (by omega) ⟨by omega, by omega⟩).trans hSq_16)) (Eq.trans rfl u_483.2.1) h (Fr.tr hF_16 (Fr.up u_483.1 kSC_77 (by decide))) (lv_sub hl [0] rfl)
          · -- 38
            refine lv_aload_n C0.1 C0.2.1 dX5_advance_41 rfl (lv_at hl 0 rfl) ?_
            refine tg_X5_tape C0 h kSC_77 q_371 dX5_advance_42 ?_
            refine lv_aload_n C0.1 C0.2.1 dX5_advance_45 rfl (lv_at hl 0 rfl) ?_
            refine tg_X5_start C0 h kSC_77 q_375 dX5_advance_46 (fun v_490 e_491 e_492 e_493 => ?_)
            have q_494 : v_490.toInt = f_21.toInt := congrArg Int32.toInt (e_491.symm.trans (Eq.trans rfl e_22))
            refine y_bald C0 h kSC_78 rfl (by decide) (o61_79 b_23 b_24 hn_20 e_27 e_28 q_29 e_32 e_33 c_34 e_463 e_464 q_465 e_492 e_493 q_494) (o61_80 b_23 b_24 hn_20 e_27 e_28 q_29 e_32 e_33 c_34 e_463 e_464 q_465 e_492 e_493 q_494) dX5_advance_49 (fun v_495 e_496 e_497 e_498 => ?_)
            refine y_c2 (n := 10) C0 (by decide) dX5_advance_50 (fun v_499 e_500 => ?_)
            refine y_icmp_ne (tgt := 68) C0 dX5_advance_52 (by decide) (fun c_501 => ?_) (fun c_501 => ?_)
            · -- 52
              refine lv_aload_n C0.1 C0.2.1 dX5_advance_68 rfl (lv_at hl 0 rfl) ?_
              refine lv_aload_n C0.1 C0.2.1 dX5_advance_69 rfl (lv_at hl 0 rfl) ?_
              refine tg_X5_start C0 h kSC_77 q_375 dX5_advance_70 (fun v_502 e_503 e_504 e_505 => ?_)
              have q_506 : v_502.toInt = f_21.toInt := congrArg Int32.toInt (e_503.symm.trans (Eq.trans rfl e_22))
              refine tp_X5_end C0 h kSC_77 q_376 (o61_102 b_23 b_24 hn_20 e_27 e_28 q_29 e_32 e_33 c_34 e_463 e_464 q_465 e_492 e_493 q_494 e_504 e_505 q_506) (o61_103 b_23 b_24 hn_20 e_27 e_28 q_29 e_32 e_33 c_34 e_463 e_464 q_465 e_492 e_493 q_494 e_504 e_505 q_506) dX5_advance_73 (fun H locs ws_507 h u_508 => ?_)
              refine lv_aload_n C0.1 C0.2.1 dX5_advance_76 rfl (lv_at hl 0 rfl) ?_
              refine tg_X5_start C0 h kSC_77 q_375 dX5_advance_77 (fun v_509 e_510 e_511 e_512 => ?_)
              have q_513 : v_509.toInt = f_21.toInt := congrArg Int32.toInt (e_510.symm.trans (Eq.trans (u_508.2.2 5 (by decide)) e_22))
              refine lv_aload_n C0.1 C0.2.1 dX5_advance_80 rfl (lv_at hl 0 rfl) ?_
              refine tg_X5_length C0 h kSC_77 q_373 dX5_advance_81 (fun v_514 e_515 e_516 e_517 => ?_)
              have q_518 : v_514.toInt = v_30.toInt := congrArg Int32.toInt (e_515.symm.trans (Eq.trans (u_508.2.2 3 (by decide)) e_31))
              refine y_icmp_lt (tgt := 95) C0 dX5_advance_84 (by decide) (fun c_519 => ?_) (fun c_519 => ?_)
              · -- 84
                refine lv_aload_n C0.1 C0.2.1 dX5_advance_95 rfl (lv_at hl 0 rfl) ?_
                refine lv_aload_n C0.1 C0.2.1 dX5_advance_96 rfl (lv_at hl 0 rfl) ?_
                refine tg_X5_start C0 h kSC_77 q_375 dX5_advance_97 (fun v_520 e_521 e_522 e_523 => ?_)
                have q_524 : v_520.toInt = f_21.toInt := congrArg Int32.toInt (e_521.symm.trans (Eq.trans (u_508.2.2 5 (by decide)) e_22))
                refine y_ci h (y_rV (As := [.int v_520]) (rest := []) C0 hZ h (c_X5_isSmallS l G Z ad _ h.2 v_520 (o61_104 b_23 b_24 hn_20 e_27 e_28 q_29 e_32 e_33 c_34 e_463 e_464 q_465 e_492 e_493 q_494 e_504 e_505 q_506 e_511 e_512 q_513 e_516 e_517 q_518 c_519 e_522 e_523 q_524) (o61_105 b_23 b_24 hn_20 e_27 e_28 q_29 e_32 e_33 c_34 e_463 e_464 q_465 e_492 e_493 q_494 e_504 e_505 q_506 e_511 e_512 q_513 e_516 e_517 q_518 c_519 e_522 e_523 q_524) ((Tp.fr (M := [16]) hTp (Fr.tr (Fr.tr (Fr.up u_11.1 kSC_77 (by decide)) hF_16) (Fr.up u_508.1 kSC_77 (by decide))) kSC_78 (by decide)))) k_X5_isSmall q_620 q_1 q_618 kSC_77 rfl rfl rfl hl.1 rfl rfl (Nat.le_of_ble_eq_true rfl) dX5_advance_100 ⟨Nat.le_of_ble_eq_true rfl, Nat.le_of_ble_eq_true rfl⟩ ⟨Nat.le_of_ble_eq_true rfl, Nat.le_of_ble_eq_true rfl⟩) (fun r_528 H locs ws_525 h u_526 p_527 => ?_)
                obtain ⟨e_529, e_530, e_531⟩ := p_527
                refine y_if_eq (tgt := 146) C0 dX5_advance_103 (by decide) (fun c_532 => ?_) (fun c_532 => ?_)
                · -- 103
                  refine lv_aload_n C0.1 C0.2.1 dX5_advance_146 rfl (lv_at hl 0 rfl) ?_
                  refine lv_aload_n C0.1 C0.2.1 dX5_advance_147 rfl (lv_at hl 0 rfl) ?_
                  refine tg_X5_start C0 h kSC_77 q_375 dX5_advance_148 (fun v_533 e_534 e_535 e_536 => ?_)
                  have q_537 : v_533.toInt = f_21.toInt := congrArg Int32.toInt (e_534.symm.trans (Eq.trans (Eq.trans (Fr.fI u_526 kSC_77 (by decide)) (u_508.2.2 5 (by decide))) e_22))
                  refine y_ci h (y_rV (As := [.int v_533]) (rest := []) C0 hZ h (c_X5_isDigitS l G Z ad _ h.2 v_533 (o61_106 b_23 b_24 hn_20 e_27 e_28 q_29 e_32 e_33 c_34 e_463 e_464 q_465 e_492 e_493 q_494 e_504 e_505 q_506 e_511 e_512 q_513 e_516 e_517 q_518 c_519 e_522 e_523 q_524 e_535 e_536 q_537) (o61_107 b_23 b_24 hn_20 e_27 e_28 q_29 e_32 e_33 c_34 e_463 e_464 q_465 e_492 e_493 q_494 e_504 e_505 q_506 e_511 e_512 q_513 e_516 e_517 q_518 c_519 e_522 e_523 q_524 e_535 e_536 q_537) ((Tp.fr (M := [16]) hTp (Fr.tr (Fr.tr (Fr.tr (Fr.up u_11.1 kSC_77 (by decide)) hF_16) (Fr.up u_508.1 kSC_77 (by decide))) (Fr.mono u_526 (by decide))) kSC_78 (by decide)))) k_X5_isDigit q_624 q_2 q_622 kSC_77 rfl rfl rfl hl.1 rfl rfl (Nat.le_of_ble_eq_true rfl) dX5_advance_151 ⟨Nat.le_of_ble_eq_true rfl, Nat.le_of_ble_eq_true rfl⟩ ⟨Nat.le_of_ble_eq_true rfl, Nat.le_of_ble_eq_true rfl⟩) (fun r_541 H locs ws_538 h u_539 p_540 => ?_)
                  obtain ⟨e_542, e_543, e_544⟩ := p_540
                  refine y_if_eq (tgt := 247) C0 dX5_advance_154 (by decide) (fun c_545 => ?_) (fun c_545 => ?_)
                  · -- 154
                    refine lv_aload_n C0.1 C0.2.1 dX5_advance_247 rfl (lv_at hl 0 rfl) ?_
                    refine tg_X5_tape C0 h kSC_77 q_371 dX5_advance_248 ?_
                    refine lv_aload_n C0.1 C0.2.1 dX5_advance_251 rfl (lv_at hl 0 rfl) ?_
                    refine tg_X5_start C0 h kSC_77 q_375 dX5_advance_252 (fun v_546 e_547 e_548 e_549 => ?_)
                    have q_550 : v_546.toInt = f_21.toInt := congrArg Int32.toInt (e_547.symm.trans (Eq.trans (Eq.trans (Fr.fI u_539 kSC_77 (by decide)) (Eq.trans (Fr.fI u_526 kSC_77 (by decide)) (u_508.2.2 5 (by decide)))) e_22))
                    refine y_bald C0 h kSC_78 rfl (by decide) (o61_108 b_23 b_24 hn_20 e_27 e_28 q_29 e_32 e_33 c_34 e_463 e_464 q_465 e_492 e_493 q_494 e_504 e_505 q_506 e_511 e_512 q_513 e_516 e_517 q_518 c_519 e_522 e_523 q_524 e_535 e_536 q_537 e_548 e_549 q_550) (o61_109 b_23 b_24 hn_20 e_27 e_28 q_29 e_32 e_33 c_34 e_463 e_464 q_465 e_492 e_493 q_494 e_504 e_505 q_506 e_511 e_512 q_513 e_516 e_517 q_518 c_519 e_522 e_523 q_524 e_535 e_536 q_537 e_548 e_549 q_550) dX5_advance_255 (fun v_551 e_552 e_553 e_554 => ?_)
                    refine y_if_le (tgt := 303) C0 dX5_advance_256 (by decide) (fun c_555 => ?_) (fun c_555 => ?_)
                    · -- 256
                      refine lv_aload_n C0.1 C0.2.1 dX5_advance_303 rfl (lv_at hl 0 rfl) ?_
                      refine y_c1 (n := 1) C0 (by decide) dX5_advance_304 (fun v_556 e_557 => ?_)
                      refine y_cv h (y_rV (As := [.int v_556]) (rest := []) C0 hZ h (c_X5_failS l G Z ad _ h.2 v_556) k_X5_fail q_628 q_3 q_626 kSC_77 rfl rfl rfl hl.1 rfl rfl (Nat.le_of_ble_eq_true rfl) dX5_advance_305 ⟨Nat.le_of_ble_eq_true rfl, Nat.le_of_ble_eq_true rfl⟩ ⟨Nat.le_of_ble_eq_true rfl, Nat.le_of_ble_eq_true rfl⟩) (fun H locs ws_558 h u_559 p_560 => ?_)
                      have e_561 := p_560
                      have hv_562 : f_21.toInt = v_25.toInt := (congrFun hSp_16 5).symm.trans (aF_at (by decide) e_26)
                      have hv_563 : (aF 77 ws0) 3 = v_30.toInt := (congrFun hSp_16 3).symm.trans (aF_at (by decide) e_31)
                      have hv_564 : f_21.toInt = v_461.toInt := (congrFun hSp_16 5).symm.trans (aF_at (by decide) e_462)
                      have hv_565 : f_21.toInt = v_490.toInt := (congrFun hSp_16 5).symm.trans (aF_at (by decide) e_491)
                      have hv_566 : f_21.toInt = v_502.toInt := (congrFun hSp_16 5).symm.trans (aF_at (by decide) e_503)
                      have ht_567 : T (f_21.toInt).toNat = v_466.toInt := by have q := (Tp.fr (M := [16]) hTp (Fr.tr (Fr.up u_11.1 kSC_77 (by decide)) hF_16) kSC_78 (by decide)) v_461.toInt.toNat (o61_110 b_23 b_24 hn_20 e_27 e_28 q_29 e_32 e_33 c_34 e_463 e_464 q_465 e_492 e_493 q_494 e_504 e_505 q_506 e_511 e_512 q_513 e_516 e_517 q_518 c_519 e_522 e_523 q_524 e_535 e_536 q_537 e_548 e_549 q_550); rw [e_467] at q; rw [← hv_564.symm]; exact q.symm
                      have ht_568 : T (f_21.toInt).toNat = v_495.toInt := by have q := (Tp.fr (M := [16]) hTp (Fr.tr (Fr.up u_11.1 kSC_77 (by decide)) hF_16) kSC_78 (by decide)) v_490.toInt.toNat (o61_111 b_23 b_24 hn_20 e_27 e_28 q_29 e_32 e_33 c_34 e_463 e_464 q_465 e_492 e_493 q_494 e_504 e_505 q_506 e_511 e_512 q_513 e_516 e_517 q_518 c_519 e_522 e_523 q_524 e_535 e_536 q_537 e_548 e_549 q_550); rw [e_496] at q; rw [← hv_565.symm]; exact q.symm
                      have hs_569 : aF 77 ws_507 = (upI (upI (aF 77 ws0) 5 f_21.toInt) 6 f_21.toInt) := (aF_up (by decide) u_508).trans ((congrArg (fun s => upI s 6 v_502.toInt) hSp_16).trans (by rw [hv_566.symm]))
                      have hv_570 : f_21.toInt = v_509.toInt := (congrFun hs_569 5).symm.trans (aF_at (by decide) e_510)
                      have hv_571 : (aF 77 ws0) 3 = v_514.toInt := (congrFun hs_569 3).symm.trans (aF_at (by decide) e_515)
                      have hv_572 : f_21.toInt = v_520.toInt := (congrFun hs_569 5).symm.trans (aF_at (by decide) e_521)
                      have hq_573 := e_531
                      rw [hv_572.symm] at hq_573
                      have hs_574 : aF 77 ws_525 = (upI (upI (aF 77 ws0) 5 f_21.toInt) 6 f_21.toInt) := (aF_fr u_526 kSC_77 (by decide)).trans hs_569
                      have hv_575 : f_21.toInt = v_533.toInt := (congrFun hs_574 5).symm.trans (aF_at (by decide) e_534)
                      have hq_576 := e_544
                      rw [hv_575.symm] at hq_576
                      have hs_577 : aF 77 ws_538 = (upI (upI (aF 77 ws0) 5 f_21.toInt) 6 f_21.toInt) := (aF_fr u_539 kSC_77 (by decide)).trans hs_574
                      have hv_578 : f_21.toInt = v_546.toInt := (congrFun hs_577 5).symm.trans (aF_at (by decide) e_547)
                      have ht_579 : T (f_21.toInt).toNat = v_551.toInt := by have q := (Tp.fr (M := [16]) hTp (Fr.tr (Fr.tr (Fr.tr (Fr.tr (Fr.up u_11.1 kSC_77 (by decide)) hF_16) (Fr.up u_508.1 kSC_77 (by decide))) (Fr.mono u_526 (by decide))) (Fr.mono u_539 (by decide))) kSC_78 (by decide)) v_546.toInt.toNat (o61_112 b_23 b_24 hn_20 e_27 e_28 q_29 e_32 e_33 c_34 e_463 e_464 q_465 e_492 e_493 q_494 e_504 e_505 q_506 e_511 e_512 q_513 e_516 e_517 q_518 c_519 e_522 e_523 q_524 e_535 e_536 q_537 e_548 e_549 q_550); rw [e_552] at q; rw [← hv_578.symm]; exact q.symm
                      have hs_580 : aF 77 ws_558 = (failS 1 (upI (upI (aF 77 ws0) 5 f_21.toInt) 6 f_21.toInt)) := e_561.trans ((congrArg (fun s => failS v_556.toInt s) hs_577).trans (by rw [(o61_56 e_557)]))
                      have hz_581 : (failS 1 (upI (upI (aF 77 ws0) 5 f_21.toInt) 6 f_21.toInt)) = advS T (aF 77 ws0) := by first | (exfalso; omega) | (unfold advS; rw [if_pos (by omega), ← hSq_16, skip_e (by omega) (by omega)]; unfold advT; first | (rw [if_pos (by omega)]; done) | (rw [if_neg (by omega), if_neg (by omega), if_neg (by omega), if_pos (by omega)]; congr 1; omega) | (rw [if_neg (by omega), if_neg (by omega), if_neg (by omega), if_neg (by omega)]; done))
                      rw [hQ]
                      exact y_vret C0 h (Fr.tr (Fr.tr (Fr.tr (Fr.tr (Fr.tr (Fr.up u_11.1 kSC_77 (by decide)) hF_16) (Fr.up u_508.1 kSC_77 (by decide))) (Fr.mono u_526 (by decide))) (Fr.mono u_539 (by decide))) u_559) (Eq.trans hs_580 hz_581) dX5_advance_308
                    · -- 256
                      refine va_ldcS C0.1 C0.2.1 C0.2.2.2.1 (sr_0 hZ) dX5_advance_259 ?_
                      refine lv_aload_n C0.1 C0.2.1 dX5_advance_261 rfl (lv_at hl 0 rfl) ?_
                      refine tg_X5_tape C0 h kSC_77 q_371 dX5_advance_262 ?_
                      refine lv_aload_n C0.1 C0.2.1 dX5_advance_265 rfl (lv_at hl 0 rfl) ?_
                      refine tg_X5_start C0 h kSC_77 q_375 dX5_advance_266 (fun v_582 e_583 e_584 e_585 => ?_)
                      have q_586 : v_582.toInt = f_21.toInt := congrArg Int32.toInt (e_583.symm.trans (Eq.trans (Eq.trans (Fr.fI u_539 kSC_77 (by decide)) (Eq.trans (Fr.fI u_526 kSC_77 (by decide)) (u_508.2.2 5 (by decide)))) e_22))
                      refine y_bald C0 h kSC_78 rfl (by decide) (o61_113 b_23 b_24 hn_20 e_27 e_28 q_29 e_32 e_33 c_34 e_463 e_464 q_465 e_492 e_493 q_494 e_504 e_505 q_506 e_511 e_512 q_513 e_516 e_517 q_518 c_519 e_522 e_523 q_524 e_535 e_536 q_537 e_548 e_549 q_550 e_584 e_585 q_586) (o61_114 b_23 b_24 hn_20 e_27 e_28 q_29 e_32 e_33 c_34 e_463 e_464 q_465 e_492 e_493 q_494 e_504 e_505 q_506 e_511 e_512 q_513 e_516 e_517 q_518 c_519 e_522 e_523 q_524 e_535 e_536 q_537 e_548 e_549 q_550 e_584 e_585 q_586) dX5_advance_269 (fun v_587 e_588 e_589 e_590 => ?_)
                      have hv_591 : f_21.toInt = v_25.toInt := (congrFun hSp_16 5).symm.trans (aF_at (by decide) e_26)
                      have hv_592 : (aF 77 ws0) 3 = v_30.toInt := (congrFun hSp_16 3).symm.trans (aF_at (by decide) e_31)
                      have hv_593 : f_21.toInt = v_461.toInt := (congrFun hSp_16 5).symm.trans (aF_at (by decide) e_462)
                      have hv_594 : f_21.toInt = v_490.toInt := (congrFun hSp_16 5).symm.trans (aF_at (by decide) e_491)
                      have hv_595 : f_21.toInt = v_502.toInt := (congrFun hSp_16 5).symm.trans (aF_at (by decide) e_503)
                      have ht_596 : T (f_21.toInt).toNat = v_466.toInt := by have q := (Tp.fr (M := [16]) hTp (Fr.tr (Fr.up u_11.1 kSC_77 (by decide)) hF_16) kSC_78 (by decide)) v_461.toInt.toNat (o61_115 b_23 b_24 hn_20 e_27 e_28 q_29 e_32 e_33 c_34 e_463 e_464 q_465 e_492 e_493 q_494 e_504 e_505 q_506 e_511 e_512 q_513 e_516 e_517 q_518 c_519 e_522 e_523 q_524 e_535 e_536 q_537 e_548 e_549 q_550 e_584 e_585 q_586); rw [e_467] at q; rw [← hv_593.symm]; exact q.symm
                      have ht_597 : T (f_21.toInt).toNat = v_495.toInt := by have q := (Tp.fr (M := [16]) hTp (Fr.tr (Fr.up u_11.1 kSC_77 (by decide)) hF_16) kSC_78 (by decide)) v_490.toInt.toNat (o61_116 b_23 b_24 hn_20 e_27 e_28 q_29 e_32 e_33 c_34 e_463 e_464 q_465 e_492 e_493 q_494 e_504 e_505 q_506 e_511 e_512 q_513 e_516 e_517 q_518 c_519 e_522 e_523 q_524 e_535 e_536 q_537 e_548 e_549 q_550 e_584 e_585 q_586); rw [e_496] at q; rw [← hv_594.symm]; exact q.symm
                      have hs_598 : aF 77 ws_507 = (upI (upI (aF 77 ws0) 5 f_21.toInt) 6 f_21.toInt) := (aF_up (by decide) u_508).trans ((congrArg (fun s => upI s 6 v_502.toInt) hSp_16).trans (by rw [hv_595.symm]))
                      have hv_599 : f_21.toInt = v_509.toInt := (congrFun hs_598 5).symm.trans (aF_at (by decide) e_510)
                      have hv_600 : (aF 77 ws0) 3 = v_514.toInt := (congrFun hs_598 3).symm.trans (aF_at (by decide) e_515)
                      have hv_601 : f_21.toInt = v_520.toInt := (congrFun hs_598 5).symm.trans (aF_at (by decide) e_521)
                      have hq_602 := e_531
                      rw [hv_601.symm] at hq_602
                      have hs_603 : aF 77 ws_525 = (upI (upI (aF 77 ws0) 5 f_21.toInt) 6 f_21.toInt) := (aF_fr u_526 kSC_77 (by decide)).trans hs_598
                      have hv_604 : f_21.toInt = v_533.toInt := (congrFun hs_603 5).symm.trans (aF_at (by decide) e_534)
                      have hq_605 := e_544
                      rw [hv_604.symm] at hq_605
                      have hs_606 : aF 77 ws_538 = (upI (upI (aF 77 ws0) 5 f_21.toInt) 6 f_21.toInt) := (aF_fr u_539 kSC_77 (by decide)).trans hs_603
                      have hv_607 : f_21.toInt = v_546.toInt := (congrFun hs_606 5).symm.trans (aF_at (by decide) e_547)
                      have hv_608 : f_21.toInt = v_582.toInt := (congrFun hs_606 5).symm.trans (aF_at (by decide) e_583)
                      have ht_609 : T (f_21.toInt).toNat = v_551.toInt := by have q := (Tp.fr (M := [16]) hTp (Fr.tr (Fr.tr (Fr.tr (Fr.tr (Fr.up u_11.1 kSC_77 (by decide)) hF_16) (Fr.up u_508.1 kSC_77 (by decide))) (Fr.mono u_526 (by decide))) (Fr.mono u_539 (by decide))) kSC_78 (by decide)) v_546.toInt.toNat (o61_117 b_23 b_24 hn_20 e_27 e_28 q_29 e_32 e_33 c_34 e_463 e_464 q_465 e_492 e_493 q_494 e_504 e_505 q_506 e_511 e_512 q_513 e_516 e_517 q_518 c_519 e_522 e_523 q_524 e_535 e_536 q_537 e_548 e_549 q_550 e_584 e_585 q_586); rw [e_552] at q; rw [← hv_607.symm]; exact q.symm
                      have ht_610 : T (f_21.toInt).toNat = v_587.toInt := by have q := (Tp.fr (M := [16]) hTp (Fr.tr (Fr.tr (Fr.tr (Fr.tr (Fr.up u_11.1 kSC_77 (by decide)) hF_16) (Fr.up u_508.1 kSC_77 (by decide))) (Fr.mono u_526 (by decide))) (Fr.mono u_539 (by decide))) kSC_78 (by decide)) v_582.toInt.toNat (o61_118 b_23 b_24 hn_20 e_27 e_28 q_29 e_32 e_33 c_34 e_463 e_464 q_465 e_492 e_493 q_494 e_504 e_505 q_506 e_511 e_512 q_513 e_516 e_517 q_518 c_519 e_522 e_523 q_524 e_535 e_536 q_537 e_548 e_549 q_550 e_584 e_585 q_586); rw [e_588] at q; rw [← hv_608.symm]; exact q.symm
                      have g_611 : 1 ≤ v_587.toInt := by omega
                      refine y_i2cE C0 (o61_61 e_589 e_590 g_611) (o61_62 e_589 e_590 g_611) dX5_advance_270 (fun v_612 e_613 => ?_)
                      refine y_ci h (y_rT (As := [.int v_612]) (rest := []) C0 hZ h (c_J0_indexOf_0f7a4S l G Z ad _ h.2 0 (by decide) v_612 (o61_63 e_589 e_590 g_611 e_613) (o61_64 e_589 e_590 g_611 e_613)) k_J0_indexOf_0f7a4 q_632 q_633 q_631 (by decide) rfl hl.1 rfl rfl (Nat.le_of_ble_eq_true rfl) dX5_advance_271 ⟨Nat.le_of_ble_eq_true rfl, Nat.le_of_ble_eq_true rfl⟩ ⟨Nat.le_of_ble_eq_true rfl, Nat.le_of_ble_eq_true rfl⟩) (fun r_617 H locs ws_614 h u_615 p_616 => ?_)
                      obtain ⟨e_618, e_619, e_620⟩ := p_616
                      have hg_621 := ix_sgn e_620
                      refine y_if_lt (tgt := 303) C0 dX5_advance_274 (by decide) (fun c_622 => ?_) (fun c_622 => ?_)
                      · -- 274
                        refine lv_aload_n C0.1 C0.2.1 dX5_advance_303 rfl (lv_at hl 0 rfl) ?_
                        refine y_c1 (n := 1) C0 (by decide) dX5_advance_304 (fun v_623 e_624 => ?_)
                        refine y_cv h (y_rV (As := [.int v_623]) (rest := []) C0 hZ h (c_X5_failS l G Z ad _ h.2 v_623) k_X5_fail q_628 q_3 q_626 kSC_77 rfl rfl rfl hl.1 rfl rfl (Nat.le_of_ble_eq_true rfl) dX5_advance_305 ⟨Nat.le_of_ble_eq_true rfl, Nat.le_of_ble_eq_true rfl⟩ ⟨Nat.le_of_ble_eq_true rfl, Nat.le_of_ble_eq_true rfl⟩) (fun H locs ws_625 h u_626 p_627 => ?_)
                        have e_628 := p_627
                        have hs_629 : aF 77 ws_507 = (upI (upI (aF 77 ws0) 5 f_21.toInt) 6 f_21.toInt) := (aF_up (by decide) u_508).trans ((congrArg (fun s => upI s 6 v_502.toInt) hSp_16).trans (by rw [hv_595.symm]))
                        have hs_630 : aF 77 ws_525 = (upI (upI (aF 77 ws0) 5 f_21.toInt) 6 f_21.toInt) := (aF_fr u_526 kSC_77 (by decide)).trans hs_629
                        have hs_631 : aF 77 ws_538 = (upI (upI (aF 77 ws0) 5 f_21.toInt) 6 f_21.toInt) := (aF_fr u_539 kSC_77 (by decide)).trans hs_630
                        have hq_632 := hg_621
                        have hs_633 : aF 77 ws_614 = (upI (upI (aF 77 ws0) 5 f_21.toInt) 6 f_21.toInt) := (aF_fr u_615 kSC_77 (by decide)).trans hs_631
                        have hs_634 : aF 77 ws_625 = (failS 1 (upI (upI (aF 77 ws0) 5 f_21.toInt) 6 f_21.toInt)) := e_628.trans ((congrArg (fun s => failS v_623.toInt s) hs_633).trans (by rw [(o61_56 e_624)]))
                        have hz_635 : (failS 1 (upI (upI (aF 77 ws0) 5 f_21.toInt) 6 f_21.toInt)) = advS T (aF 77 ws0) := by first | (exfalso; omega) | (unfold advS; rw [if_pos (by omega), ← hSq_16, skip_e (by omega) (by omega)]; unfold advT; first | (rw [if_pos (by omega)]; done) | (rw [if_neg (by omega), if_neg (by omega), if_neg (by omega), if_pos (by omega)]; congr 1; omega) | (rw [if_neg (by omega), if_neg (by omega), if_neg (by omega), if_neg (by omega)]; done))
                        rw [hQ]
                        exact y_vret C0 h (Fr.tr (Fr.tr (Fr.tr (Fr.tr (Fr.tr (Fr.tr (Fr.up u_11.1 kSC_77 (by decide)) hF_16) (Fr.up u_508.1 kSC_77 (by decide))) (Fr.mono u_526 (by decide))) (Fr.mono u_539 (by decide))) (Fr.mono u_615 (by decide))) u_626) (Eq.trans hs_634 hz_635) dX5_advance_308
                      · -- 274
                        refine lv_aload_n C0.1 C0.2.1 dX5_advance_277 rfl (lv_at hl 0 rfl) ?_
                        refine lv_aload_n C0.1 C0.2.1 dX5_advance_278 rfl (lv_at hl 0 rfl) ?_
                        refine tg_X5_tape C0 h kSC_77 q_371 dX5_advance_279 ?_
                        refine lv_aload_n C0.1 C0.2.1 dX5_advance_282 rfl (lv_at hl 0 rfl) ?_
                        refine tg_X5_start C0 h kSC_77 q_375 dX5_advance_283 (fun v_636 e_637 e_638 e_639 => ?_)
                        have q_640 : v_636.toInt = f_21.toInt := congrArg Int32.toInt (e_637.symm.trans (Eq.trans (Eq.trans (Fr.fI u_615 kSC_77 (by decide)) (Eq.trans (Fr.fI u_539 kSC_77 (by decide)) (Eq.trans (Fr.fI u_526 kSC_77 (by decide)) (u_508.2.2 5 (by decide))))) e_22))
                        refine y_bald C0 h kSC_78 rfl (by decide) (o61_119 b_23 b_24 hn_20 e_27 e_28 q_29 e_32 e_33 c_34 e_463 e_464 q_465 e_492 e_493 q_494 e_504 e_505 q_506 e_511 e_512 q_513 e_516 e_517 q_518 c_519 e_522 e_523 q_524 e_535 e_536 q_537 e_548 e_549 q_550 e_584 e_585 q_586 e_638 e_639 q_640) (o61_120 b_23 b_24 hn_20 e_27 e_28 q_29 e_32 e_33 c_34 e_463 e_464 q_465 e_492 e_493 q_494 e_504 e_505 q_506 e_511 e_512 q_513 e_516 e_517 q_518 c_519 e_522 e_523 q_524 e_535 e_536 q_537 e_548 e_549 q_550 e_584 e_585 q_586 e_638 e_639 q_640) dX5_advance_286 (fun v_641 e_642 e_643 e_644 => ?_)
                        refine tp_X5_kind C0 h kSC_77 q_374 (le_min v_641) (le_max v_641) dX5_advance_287 (fun H locs ws_645 h u_646 => ?_)
                        refine lv_aload_n C0.1 C0.2.1 dX5_advance_290 rfl (lv_at hl 0 rfl) ?_
                        refine lv_dup C0.1 C0.2.1 dX5_advance_291 rfl ?_
                        refine tg_X5_end C0 h kSC_77 q_376 dX5_advance_292 (fun v_647 e_648 e_649 e_650 => ?_)
                        have q_651 : v_647.toInt = v_502.toInt := congrArg Int32.toInt (e_648.symm.trans (Eq.trans (Eq.trans (u_646.2.2 6 (by decide)) (Eq.trans (Fr.fI u_615 kSC_77 (by decide)) (Eq.trans (Fr.fI u_539 kSC_77 (by decide)) (Fr.fI u_526 kSC_77 (by decide))))) u_508.2.1))
                        refine y_c1 (n := 1) C0 (by decide) dX5_advance_295 (fun v_652 e_653 => ?_)
                        refine y_add C0 (o61_121 b_23 b_24 hn_20 e_27 e_28 q_29 e_32 e_33 c_34 e_463 e_464 q_465 e_492 e_493 q_494 e_504 e_505 q_506 e_511 e_512 q_513 e_516 e_517 q_518 c_519 e_522 e_523 q_524 e_535 e_536 q_537 e_548 e_549 q_550 e_584 e_585 q_586 e_638 e_639 q_640 e_649 e_650 q_651 e_653 (le_min v_647) (le_max v_647) (le_min v_652) (le_max v_652) (le_min f_21) (le_max f_21) (le_min v_25) (le_max v_25) (le_min v_30) (le_max v_30) (le_min v_461) (le_max v_461) (le_min v_490) (le_max v_490) (le_min v_502) (le_max v_502) (le_min v_509) (le_max v_509) (le_min v_514) (le_max v_514) (le_min v_520) (le_max v_520) (le_min v_533) (le_max v_533) (le_min v_546) (le_max v_546) (le_min v_582) (le_max v_582) (le_min v_636) (le_max v_636)) (o61_122 b_23 b_24 hn_20 e_27 e_28 q_29 e_32 e_33 c_34 e_463 e_464 q_465 e_492 e_493 q_494 e_504 e_505 q_506 e_511 e_512 q_513 e_516 e_517 q_518 c_519 e_522 e_523 q_524 e_535 e_536 q_537 e_548 e_549 q_550 e_584 e_585 q_586 e_638 e_639 q_640 e_649 e_650 q_651 e_653 (le_min v_647) (le_max v_647) (le_min v_652) (le_max v_652) (le_min f_21) (le_max f_21) (le_min v_25) (le_max v_25) (le_min v_30) (le_max v_30) (le_min v_461) (le_max v_461) (le_min v_490) (le_max v_490) (le_min v_502) (le_max v_502) (le_min v_509) (le_max v_509) (le_min v_514) (le_max v_514) (le_min v_520) (le_max v_520) (le_min v_533) (le_max v_533) (le_min v_546) (le_max v_546) (le_min v_582) (le_max v_582) (le_min v_636) (le_max v_636)) dX5_advance_296 (fun v_654 e_655 => ?_)
                        refine tp_X5_end C0 h kSC_77 q_376 (o61_123 b_23 b_24 hn_20 e_27 e_28 q_29 e_32 e_33 c_34 e_463 e_464 q_465 e_492 e_493 q_494 e_504 e_505 q_506 e_511 e_512 q_513 e_516 e_517 q_518 c_519 e_522 e_523 q_524 e_535 e_536 q_537 e_548 e_549 q_550 e_584 e_585 q_586 e_638 e_639 q_640 e_649 e_650 q_651 e_653 e_655) (o61_124 b_23 b_24 hn_20 e_27 e_28 q_29 e_32 e_33 c_34 e_463 e_464 q_465 e_492 e_493 q_494 e_504 e_505 q_506 e_511 e_512 q_513 e_516 e_517 q_518 c_519 e_522 e_523 q_524 e_535 e_536 q_537 e_548 e_549 q_550 e_584 e_585 q_586 e_638 e_639 q_640 e_649 e_650 q_651 e_653 e_655) dX5_advance_297 (fun H locs ws_656 h u_657 => ?_)
                        refine lv_goto (tgt := 308) C0.1 C0.2.1 dX5_advance_300 (by decide) ?_
                        have hs_658 : aF 77 ws_507 = (upI (upI (aF 77 ws0) 5 f_21.toInt) 6 f_21.toInt) := (aF_up (by decide) u_508).trans ((congrArg (fun s => upI s 6 v_502.toInt) hSp_16).trans (by rw [hv_595.symm]))
                        have hs_659 : aF 77 ws_525 = (upI (upI (aF 77 ws0) 5 f_21.toInt) 6 f_21.toInt) := (aF_fr u_526 kSC_77 (by decide)).trans hs_658
                        have hs_660 : aF 77 ws_538 = (upI (upI (aF 77 ws0) 5 f_21.toInt) 6 f_21.toInt) := (aF_fr u_539 kSC_77 (by decide)).trans hs_659
                        have hq_661 := hg_621
                        have hs_662 : aF 77 ws_614 = (upI (upI (aF 77 ws0) 5 f_21.toInt) 6 f_21.toInt) := (aF_fr u_615 kSC_77 (by decide)).trans hs_660
                        have hv_663 : f_21.toInt = v_636.toInt := (congrFun hs_662 5).symm.trans (aF_at (by decide) e_637)
                        have ht_664 : T (f_21.toInt).toNat = v_641.toInt := by have q := (Tp.fr (M := [16]) hTp (Fr.tr (Fr.tr (Fr.tr (Fr.tr (Fr.tr (Fr.up u_11.1 kSC_77 (by decide)) hF_16) (Fr.up u_508.1 kSC_77 (by decide))) (Fr.mono u_526 (by decide))) (Fr.mono u_539 (by decide))) (Fr.mono u_615 (by decide))) kSC_78 (by decide)) v_636.toInt.toNat (o61_125 b_23 b_24 hn_20 e_27 e_28 q_29 e_32 e_33 c_34 e_463 e_464 q_465 e_492 e_493 q_494 e_504 e_505 q_506 e_511 e_512 q_513 e_516 e_517 q_518 c_519 e_522 e_523 q_524 e_535 e_536 q_537 e_548 e_549 q_550 e_584 e_585 q_586 e_638 e_639 q_640 e_649 e_650 q_651 e_653 e_655); rw [e_642] at q; rw [← hv_663.symm]; exact q.symm
                        have hs_665 : aF 77 ws_645 = (upI (upI (upI (aF 77 ws0) 5 f_21.toInt) 6 f_21.toInt) 4 (T (f_21.toInt).toNat)) := (aF_up (by decide) u_646).trans ((congrArg (fun s => upI s 4 v_641.toInt) hs_662).trans (by rw [ht_664.symm]))
                        have hv_666 : f_21.toInt = v_647.toInt := (congrFun hs_665 6).symm.trans (aF_at (by decide) e_648)
                        have hs_667 : aF 77 ws_656 = (upI (upI (upI (upI (aF 77 ws0) 5 f_21.toInt) 6 f_21.toInt) 4 (T (f_21.toInt).toNat)) 6 v_654.toInt) := (aF_up (by decide) u_657).trans (congrArg (fun s => upI s 6 v_654.toInt) hs_665)
                        have hz_668 : (upI (upI (upI (upI (aF 77 ws0) 5 f_21.toInt) 6 f_21.toInt) 4 (T (f_21.toInt).toNat)) 6 v_654.toInt) = advS T (aF 77 ws0) := by first | (exfalso; omega) | (unfold advS; rw [if_pos (by omega), ← hSq_16, skip_e (by omega) (by omega)]; unfold advT; first | (rw [if_pos (by omega)]; done) | (rw [if_neg (by omega), if_neg (by omega), if_neg (by omega), if_pos (by omega)]; congr 1; omega) | (rw [if_neg (by omega), if_neg (by omega), if_neg (by omega), if_neg (by omega)]; done))
                        rw [hQ]
                        exact y_vret C0 h (Fr.tr (Fr.tr (Fr.tr (Fr.tr (Fr.tr (Fr.tr (Fr.tr (Fr.up u_11.1 kSC_77 (by decide)) hF_16) (Fr.up u_508.1 kSC_77 (by decide))) (Fr.mono u_526 (by decide))) (Fr.mono u_539 (by decide))) (Fr.mono u_615 (by decide))) (Fr.up u_646.1 kSC_77 (by decide))) (Fr.up u_657.1 kSC_77 (by decide))) (Eq.trans hs_667 hz_668) dX5_advance_308
                  · -- 154
                    refine lv_aload_n C0.1 C0.2.1 dX5_advance_157 rfl (lv_at hl 0 rfl) ?_
                    refine y_c1 (n := 2) C0 (by decide) dX5_advance_158 (fun v_669 e_670 => ?_)
                    refine tp_X5_kind C0 h kSC_77 q_374 (le_min v_669) (le_max v_669) dX5_advance_159 (fun H locs ws_671 h u_672 => ?_)
                    refine lv_aload_n C0.1 C0.2.1 dX5_advance_162 rfl (lv_at hl 0 rfl) ?_
                    refine y_c1 (n := 0) C0 (by decide) dX5_advance_163 (fun v_673 e_674 => ?_)
                    refine tp_X5_number C0 h kSC_77 q_377 (le_min v_673) (le_max v_673) dX5_advance_164 (fun H locs ws_675 h u_676 => ?_)
                    have hv_677 : f_21.toInt = v_25.toInt := (congrFun hSp_16 5).symm.trans (aF_at (by decide) e_26)
                    have hv_678 : (aF 77 ws0) 3 = v_30.toInt := (congrFun hSp_16 3).symm.trans (aF_at (by decide) e_31)
                    have hv_679 : f_21.toInt = v_461.toInt := (congrFun hSp_16 5).symm.trans (aF_at (by decide) e_462)
                    have hv_680 : f_21.toInt = v_490.toInt := (congrFun hSp_16 5).symm.trans (aF_at (by decide) e_491)
                    have hv_681 : f_21.toInt = v_502.toInt := (congrFun hSp_16 5).symm.trans (aF_at (by decide) e_503)
                    have ht_682 : T (f_21.toInt).toNat = v_466.toInt := by have q := (Tp.fr (M := [16]) hTp (Fr.tr (Fr.up u_11.1 kSC_77 (by decide)) hF_16) kSC_78 (by decide)) v_461.toInt.toNat (o61_126 b_23 b_24 hn_20 e_27 e_28 q_29 e_32 e_33 c_34 e_463 e_464 q_465 e_492 e_493 q_494 e_504 e_505 q_506 e_511 e_512 q_513 e_516 e_517 q_518 c_519 e_522 e_523 q_524 e_535 e_536 q_537); rw [e_467] at q; rw [← hv_679.symm]; exact q.symm
                    have ht_683 : T (f_21.toInt).toNat = v_495.toInt := by have q := (Tp.fr (M := [16]) hTp (Fr.tr (Fr.up u_11.1 kSC_77 (by decide)) hF_16) kSC_78 (by decide)) v_490.toInt.toNat (o61_127 b_23 b_24 hn_20 e_27 e_28 q_29 e_32 e_33 c_34 e_463 e_464 q_465 e_492 e_493 q_494 e_504 e_505 q_506 e_511 e_512 q_513 e_516 e_517 q_518 c_519 e_522 e_523 q_524 e_535 e_536 q_537); rw [e_496] at q; rw [← hv_680.symm]; exact q.symm
                    have hs_684 : aF 77 ws_507 = (upI (upI (aF 77 ws0) 5 f_21.toInt) 6 f_21.toInt) := (aF_up (by decide) u_508).trans ((congrArg (fun s => upI s 6 v_502.toInt) hSp_16).trans (by rw [hv_681.symm]))
                    have hv_685 : f_21.toInt = v_509.toInt := (congrFun hs_684 5).symm.trans (aF_at (by decide) e_510)
                    have hv_686 : (aF 77 ws0) 3 = v_514.toInt := (congrFun hs_684 3).symm.trans (aF_at (by decide) e_515)
                    have hv_687 : f_21.toInt = v_520.toInt := (congrFun hs_684 5).symm.trans (aF_at (by decide) e_521)
                    have hq_688 := e_531
                    rw [hv_687.symm] at hq_688
                    have hs_689 : aF 77 ws_525 = (upI (upI (aF 77 ws0) 5 f_21.toInt) 6 f_21.toInt) := (aF_fr u_526 kSC_77 (by decide)).trans hs_684
                    have hv_690 : f_21.toInt = v_533.toInt := (congrFun hs_689 5).symm.trans (aF_at (by decide) e_534)
                    have hq_691 := e_544
                    rw [hv_690.symm] at hq_691
                    have hs_692 : aF 77 ws_538 = (upI (upI (aF 77 ws0) 5 f_21.toInt) 6 f_21.toInt) := (aF_fr u_539 kSC_77 (by decide)).trans hs_689
                    have hs_693 : aF 77 ws_671 = (upI (upI (upI (aF 77 ws0) 5 f_21.toInt) 6 f_21.toInt) 4 2) := (aF_up (by decide) u_672).trans ((congrArg (fun s => upI s 4 v_669.toInt) hs_692).trans (by rw [(o61_72 e_670)]))
                    have hs_694 : aF 77 ws_675 = (upI (upI (upI (upI (aF 77 ws0) 5 f_21.toInt) 6 f_21.toInt) 4 2) 7 0) := (aF_up (by decide) u_676).trans ((congrArg (fun s => upI s 7 v_673.toInt) hs_693).trans (by rw [(o61_39 e_674)]))
                    have lp_697 : ∀ (n_699 : Nat) (f_701 : Int32) (f_705 : Int32) (H : Heap) (locs : List Loc) (ls : Array Slot) (ws_695 : va_W), 900 - f_701.toInt < (n_699 : Int) → 0 ≤ f_701.toInt → f_701.toInt ≤ 900 → (aF 77 ws_695 = (upI (upI (upI (upI (upI (upI (aF 77 ws0) 5 f_21.toInt) 6 f_21.toInt) 4 2) 7 0) 7 (f_705.toInt)) 6 (f_701.toInt))) → (run T ((aF 77 ws0) 3) 48 57 f_701.toInt = run T ((aF 77 ws0) 3) 48 57 f_21.toInt) → (num T ((aF 77 ws0) 3) f_701.toInt f_705.toInt = num T ((aF 77 ws0) 3) f_21.toInt 0) → fI ws_695 77 6 = f_701 → fI ws_695 77 7 = f_705 → Wt G (SC tt) ad A s H locs ws_695 → Fr (SC tt) [16] ws_675 ws_695 → lv_has ls 1 [(0, .ref (ad 77))] → W p l e (rmd 5 0 0) s m args below meth c H locs 0 0 Q (F0 m 167 ls []) := by
                      intro n_699
                      induction n_699 with
                      | zero => intro f_701 f_705 H locs ls ws_695 hn_700 b_703 b_704 hSp_167 hSq_167 hSr_167 e_702 e_706 h hF_696 hl; exact ((o61_46 b_703 b_704 hn_700)).elim
                      | succ n_699 ih_698 =>
                        intro f_701 f_705 H locs ls ws_695 hn_700 b_703 b_704 hSp_167 hSq_167 hSr_167 e_702 e_706 h hF_696 hl
                        refine lv_aload_n C0.1 C0.2.1 dX5_advance_167 rfl (lv_at hl 0 rfl) ?_
                        refine tg_X5_end C0 h kSC_77 q_376 dX5_advance_168 (fun v_707 e_708 e_709 e_710 => ?_)
                        have q_711 : v_707.toInt = f_701.toInt := congrArg Int32.toInt (e_708.symm.trans (Eq.trans rfl e_702))
                        refine lv_aload_n C0.1 C0.2.1 dX5_advance_171 rfl (lv_at hl 0 rfl) ?_
                        refine tg_X5_length C0 h kSC_77 q_373 dX5_advance_172 (fun v_712 e_713 e_714 e_715 => ?_)
                        refine y_icmp_ge (tgt := 226) C0 dX5_advance_175 (by decide) (fun c_716 => ?_) (fun c_716 => ?_)
                        · -- 175
                          refine lv_aload_n C0.1 C0.2.1 dX5_advance_226 rfl (lv_at hl 0 rfl) ?_
                          refine tg_X5_end C0 h kSC_77 q_376 dX5_advance_227 (fun v_717 e_718 e_719 e_720 => ?_)
                          have q_721 : v_717.toInt = f_701.toInt := congrArg Int32.toInt (e_718.symm.trans (Eq.trans rfl e_702))
                          refine lv_aload_n C0.1 C0.2.1 dX5_advance_230 rfl (lv_at hl 0 rfl) ?_
                          refine tg_X5_start C0 h kSC_77 q_375 dX5_advance_231 (fun v_722 e_723 e_724 e_725 => ?_)
                          refine y_sub C0 (o61_73 b_703 b_704 hn_700 e_709 e_710 q_711 e_714 e_715 c_716 e_719 e_720 q_721 e_724 e_725 (le_min v_717) (le_max v_717) (le_min v_722) (le_max v_722) (le_min f_701) (le_max f_701) (le_min v_707) (le_max v_707) (le_min v_712) (le_max v_712)) (o61_74 b_703 b_704 hn_700 e_709 e_710 q_711 e_714 e_715 c_716 e_719 e_720 q_721 e_724 e_725 (le_min v_717) (le_max v_717) (le_min v_722) (le_max v_722) (le_min f_701) (le_max f_701) (le_min v_707) (le_max v_707) (le_min v_712) (le_max v_712)) dX5_advance_234 (fun v_726 e_727 => ?_)
                          refine y_c1 (n := 3) C0 (by decide) dX5_advance_235 (fun v_728 e_729 => ?_)
                          refine y_icmp_le (tgt := 308) C0 dX5_advance_236 (by decide) (fun c_730 => ?_) (fun c_730 => ?_)
                          · -- 236
                            have hv_731 : f_701.toInt = v_707.toInt := (congrFun hSp_167 6).symm.trans (aF_at (by decide) e_708)
                            have hv_732 : (aF 77 ws0) 3 = v_712.toInt := (congrFun hSp_167 3).symm.trans (aF_at (by decide) e_713)
                            have hv_733 : f_701.toInt = v_717.toInt := (congrFun hSp_167 6).symm.trans (aF_at (by decide) e_718)
                            have hv_734 : f_21.toInt = v_722.toInt := (congrFun hSp_167 5).symm.trans (aF_at (by decide) e_723)
                            have hz_735 : (upI (upI (upI (upI (upI (upI (aF 77 ws0) 5 f_21.toInt) 6 f_21.toInt) 4 2) 7 0) 7 f_705.toInt) 6 f_701.toInt) = advS T (aF 77 ws0) := by first | (exfalso; omega) | (unfold advS; rw [if_pos (by omega), ← hSq_16, skip_e (by omega) (by omega)]; unfold advT; rw [if_neg (by omega), if_neg (by omega), if_pos (by omega)]; rw [← hSq_167, run_e (by omega) (by omega), ← hSr_167, numR_e (by omega) (by omega)]; unfold advN; first | rw [if_pos (by omega)] | rw [if_neg (by omega)])
                            rw [hQ]
                            exact y_vret C0 h (Fr.tr (Fr.tr (Fr.tr (Fr.tr (Fr.tr (Fr.tr (Fr.tr (Fr.up u_11.1 kSC_77 (by decide)) hF_16) (Fr.up u_508.1 kSC_77 (by decide))) (Fr.mono u_526 (by decide))) (Fr.mono u_539 (by decide))) (Fr.up u_672.1 kSC_77 (by decide))) (Fr.up u_676.1 kSC_77 (by decide))) hF_696) (Eq.trans hSp_167 hz_735) dX5_advance_308
                          · -- 236
                            refine lv_aload_n C0.1 C0.2.1 dX5_advance_239 rfl (lv_at hl 0 rfl) ?_
                            refine y_c1 (n := 1) C0 (by decide) dX5_advance_240 (fun v_736 e_737 => ?_)
                            refine y_cv h (y_rV (As := [.int v_736]) (rest := []) C0 hZ h (c_X5_failS l G Z ad _ h.2 v_736) k_X5_fail q_628 q_3 q_626 kSC_77 rfl rfl rfl hl.1 rfl rfl (Nat.le_of_ble_eq_true rfl) dX5_advance_241 ⟨Nat.le_of_ble_eq_true rfl, Nat.le_of_ble_eq_true rfl⟩ ⟨Nat.le_of_ble_eq_true rfl, Nat.le_of_ble_eq_true rfl⟩) (fun H locs ws_738 h u_739 p_740 => ?_)
                            have e_741 := p_740
                            refine lv_goto (tgt := 308) C0.1 C0.2.1 dX5_advance_244 (by decide) ?_
                            have hv_742 : f_701.toInt = v_707.toInt := (congrFun hSp_167 6).symm.trans (aF_at (by decide) e_708)
                            have hv_743 : (aF 77 ws0) 3 = v_712.toInt := (congrFun hSp_167 3).symm.trans (aF_at (by decide) e_713)
                            have hv_744 : f_701.toInt = v_717.toInt := (congrFun hSp_167 6).symm.trans (aF_at (by decide) e_718)
                            have hv_745 : f_21.toInt = v_722.toInt := (congrFun hSp_167 5).symm.trans (aF_at (by decide) e_723)
                            have hs_746 : aF 77 ws_738 = (failS 1 (upI (upI (upI (upI (upI (upI (aF 77 ws0) 5 f_21.toInt) 6 f_21.toInt) 4 2) 7 0) 7 f_705.toInt) 6 f_701.toInt)) := e_741.trans ((congrArg (fun s => failS v_736.toInt s) hSp_167).trans (by rw [(o61_56 e_737)]))
                            have hz_747 : (failS 1 (upI (upI (upI (upI (upI (upI (aF 77 ws0) 5 f_21.toInt) 6 f_21.toInt) 4 2) 7 0) 7 f_705.toInt) 6 f_701.toInt)) = advS T (aF 77 ws0) := by first | (exfalso; omega) | (unfold advS; rw [if_pos (by omega), ← hSq_16, skip_e (by omega) (by omega)]; unfold advT; rw [if_neg (by omega), if_neg (by omega), if_pos (by omega)]; rw [← hSq_167, run_e (by omega) (by omega), ← hSr_167, numR_e (by omega) (by omega)]; unfold advN; first | rw [if_pos (by omega)] | rw [if_neg (by omega)])
                            rw [hQ]
                            exact y_vret C0 h (Fr.tr (Fr.tr (Fr.tr (Fr.tr (Fr.tr (Fr.tr (Fr.tr (Fr.tr (Fr.up u_11.1 kSC_77 (by decide)) hF_16) (Fr.up u_508.1 kSC_77 (by decide))) (Fr.mono u_526 (by decide))) (Fr.mono u_539 (by decide))) (Fr.up u_672.1 kSC_77 (by decide))) (Fr.up u_676.1 kSC_77 (by decide))) hF_696) u_739) (Eq.trans hs_746 hz_747) dX5_advance_308
                        · -- 175
                          refine lv_aload_n C0.1 C0.2.1 dX5_advance_178 rfl (lv_at hl 0 rfl) ?_
                          refine lv_aload_n C0.1 C0.2.1 dX5_advance_179 rfl (lv_at hl 0 rfl) ?_
                          refine tg_X5_end C0 h kSC_77 q_376 dX5_advance_180 (fun v_748 e_749 e_750 e_751 => ?_)
                          have q_752 : v_748.toInt = f_701.toInt := congrArg Int32.toInt (e_749.symm.trans (Eq.trans rfl e_702))
                          refine y_ci h (y_rV (As := [.int v_748]) (rest := []) C0 hZ h (c_X5_isDigitS l G Z ad _ h.2 v_748 (o61_75 b_703 b_704 hn_700 e_709 e_710 q_711 e_714 e_715 c_716 e_750 e_751 q_752) (o61_76 b_703 b_704 hn_700 e_709 e_710 q_711 e_714 e_715 c_716 e_750 e_751 q_752) ((Tp.fr (M := [16]) hTp (Fr.tr (Fr.tr (Fr.tr (Fr.tr (Fr.tr (Fr.tr (Fr.tr (Fr.up u_11.1 kSC_77 (by decide)) hF_16) (Fr.up u_508.1 kSC_77 (by decide))) (Fr.mono u_526 (by decide))) (Fr.mono u_539 (by decide))) (Fr.up u_672.1 kSC_77 (by decide))) (Fr.up u_676.1 kSC_77 (by decide))) hF_696) kSC_78 (by decide)))) k_X5_isDigit q_624 q_2 q_622 kSC_77 rfl rfl rfl hl.1 rfl rfl (Nat.le_of_ble_eq_true rfl) dX5_advance_183 ⟨Nat.le_of_ble_eq_true rfl, Nat.le_of_ble_eq_true rfl⟩ ⟨Nat.le_of_ble_eq_true rfl, Nat.le_of_ble_eq_true rfl⟩) (fun r_756 H locs ws_753 h u_754 p_755 => ?_)
                          obtain ⟨e_757, e_758, e_759⟩ := p_755
                          refine y_if_eq (tgt := 226) C0 dX5_advance_186 (by decide) (fun c_760 => ?_) (fun c_760 => ?_)
                          · -- 186
                            refine lv_aload_n C0.1 C0.2.1 dX5_advance_226 rfl (lv_at hl 0 rfl) ?_
                            refine tg_X5_end C0 h kSC_77 q_376 dX5_advance_227 (fun v_761 e_762 e_763 e_764 => ?_)
                            have q_765 : v_761.toInt = f_701.toInt := congrArg Int32.toInt (e_762.symm.trans (Eq.trans (Fr.fI u_754 kSC_77 (by decide)) e_702))
                            refine lv_aload_n C0.1 C0.2.1 dX5_advance_230 rfl (lv_at hl 0 rfl) ?_
                            refine tg_X5_start C0 h kSC_77 q_375 dX5_advance_231 (fun v_766 e_767 e_768 e_769 => ?_)
                            refine y_sub C0 (o61_77 b_703 b_704 hn_700 e_709 e_710 q_711 e_714 e_715 c_716 e_750 e_751 q_752 e_763 e_764 q_765 e_768 e_769 (le_min v_761) (le_max v_761) (le_min v_766) (le_max v_766) (le_min f_701) (le_max f_701) (le_min v_707) (le_max v_707) (le_min v_712) (le_max v_712) (le_min v_748) (le_max v_748)) (o61_78 b_703 b_704 hn_700 e_709 e_710 q_711 e_714 e_715 c_716 e_750 e_751 q_752 e_763 e_764 q_765 e_768 e_769 (le_min v_761) (le_max v_761) (le_min v_766) (le_max v_766) (le_min f_701) (le_max f_701) (le_min v_707) (le_max v_707) (le_min v_712) (le_max v_712) (le_min v_748) (le_max v_748)) dX5_advance_234 (fun v_770 e_771 => ?_)
                            refine y_c1 (n := 3) C0 (by decide) dX5_advance_235 (fun v_772 e_773 => ?_)
                            refine y_icmp_le (tgt := 308) C0 dX5_advance_236 (by decide) (fun c_774 => ?_) (fun c_774 => ?_)
                            · -- 236
                              have hv_775 : f_701.toInt = v_707.toInt := (congrFun hSp_167 6).symm.trans (aF_at (by decide) e_708)
                              have hv_776 : (aF 77 ws0) 3 = v_712.toInt := (congrFun hSp_167 3).symm.trans (aF_at (by decide) e_713)
                              have hv_777 : f_701.toInt = v_748.toInt := (congrFun hSp_167 6).symm.trans (aF_at (by decide) e_749)
                              have hq_778 := e_759
                              rw [hv_777.symm] at hq_778
                              have hs_779 : aF 77 ws_753 = (upI (upI (upI (upI (upI (upI (aF 77 ws0) 5 f_21.toInt) 6 f_21.toInt) 4 2) 7 0) 7 f_705.toInt) 6 f_701.toInt) := (aF_fr u_754 kSC_77 (by decide)).trans hSp_167
                              have hv_780 : f_701.toInt = v_761.toInt := (congrFun hs_779 6).symm.trans (aF_at (by decide) e_762)
                              have hv_781 : f_21.toInt = v_766.toInt := (congrFun hs_779 5).symm.trans (aF_at (by decide) e_767)
                              have hz_782 : (upI (upI (upI (upI (upI (upI (aF 77 ws0) 5 f_21.toInt) 6 f_21.toInt) 4 2) 7 0) 7 f_705.toInt) 6 f_701.toInt) = advS T (aF 77 ws0) := by first | (exfalso; omega) | (unfold advS; rw [if_pos (by omega), ← hSq_16, skip_e (by omega) (by omega)]; unfold advT; rw [if_neg (by omega), if_neg (by omega), if_pos (by omega)]; rw [← hSq_167, run_e (by omega) (by omega), ← hSr_167, numR_e (by omega) (by omega)]; unfold advN; first | rw [if_pos (by omega)] | rw [if_neg (by omega)])
                              rw [hQ]
                              exact y_vret C0 h (Fr.tr (Fr.tr (Fr.tr (Fr.tr (Fr.tr (Fr.tr (Fr.tr (Fr.tr (Fr.up u_11.1 kSC_77 (by decide)) hF_16) (Fr.up u_508.1 kSC_77 (by decide))) (Fr.mono u_526 (by decide))) (Fr.mono u_539 (by decide))) (Fr.up u_672.1 kSC_77 (by decide))) (Fr.up u_676.1 kSC_77 (by decide))) hF_696) (Fr.mono u_754 (by decide))) (Eq.trans hs_779 hz_782) dX5_advance_308
                            · -- 236
                              refine lv_aload_n C0.1 C0.2.1 dX5_advance_239 rfl (lv_at hl 0 rfl) ?_
                              refine y_c1 (n := 1) C0 (by decide) dX5_advance_240 (fun v_783 e_784 => ?_)
                              refine y_cv h (y_rV (As := [.int v_783]) (rest := []) C0 hZ h (c_X5_failS l G Z ad _ h.2 v_783) k_X5_fail q_628 q_3 q_626 kSC_77 rfl rfl rfl hl.1 rfl rfl (Nat.le_of_ble_eq_true rfl) dX5_advance_241 ⟨Nat.le_of_ble_eq_true rfl, Nat.le_of_ble_eq_true rfl⟩ ⟨Nat.le_of_ble_eq_true rfl, Nat.le_of_ble_eq_true rfl⟩) (fun H locs ws_785 h u_786 p_787 => ?_)
                              have e_788 := p_787
                              refine lv_goto (tgt := 308) C0.1 C0.2.1 dX5_advance_244 (by decide) ?_
                              have hv_789 : f_701.toInt = v_707.toInt := (congrFun hSp_167 6).symm.trans (aF_at (by decide) e_708)
                              have hv_790 : (aF 77 ws0) 3 = v_712.toInt := (congrFun hSp_167 3).symm.trans (aF_at (by decide) e_713)
                              have hv_791 : f_701.toInt = v_748.toInt := (congrFun hSp_167 6).symm.trans (aF_at (by decide) e_749)
                              have hq_792 := e_759
                              rw [hv_791.symm] at hq_792
                              have hs_793 : aF 77 ws_753 = (upI (upI (upI (upI (upI (upI (aF 77 ws0) 5 f_21.toInt) 6 f_21.toInt) 4 2) 7 0) 7 f_705.toInt) 6 f_701.toInt) := (aF_fr u_754 kSC_77 (by decide)).trans hSp_167
                              have hv_794 : f_701.toInt = v_761.toInt := (congrFun hs_793 6).symm.trans (aF_at (by decide) e_762)
                              have hv_795 : f_21.toInt = v_766.toInt := (congrFun hs_793 5).symm.trans (aF_at (by decide) e_767)
                              have hs_796 : aF 77 ws_785 = (failS 1 (upI (upI (upI (upI (upI (upI (aF 77 ws0) 5 f_21.toInt) 6 f_21.toInt) 4 2) 7 0) 7 f_705.toInt) 6 f_701.toInt)) := e_788.trans ((congrArg (fun s => failS v_783.toInt s) hs_793).trans (by rw [(o61_56 e_784)]))
                              have hz_797 : (failS 1 (upI (upI (upI (upI (upI (upI (aF 77 ws0) 5 f_21.toInt) 6 f_21.toInt) 4 2) 7 0) 7 f_705.toInt) 6 f_701.toInt)) = advS T (aF 77 ws0) := by first | (exfalso; omega) | (unfold advS; rw [if_pos (by omega), ← hSq_16, skip_e (by omega) (by omega)]; unfold advT; rw [if_neg (by omega), if_neg (by omega), if_pos (by omega)]; rw [← hSq_167, run_e (by omega) (by omega), ← hSr_167, numR_e (by omega) (by omega)]; unfold advN; first | rw [if_pos (by omega)] | rw [if_neg (by omega)])
                              rw [hQ]
                              exact y_vret C0 h (Fr.tr (Fr.tr (Fr.tr (Fr.tr (Fr.tr (Fr.tr (Fr.tr (Fr.tr (Fr.tr (Fr.up u_11.1 kSC_77 (by decide)) hF_16) (Fr.up u_508.1 kSC_77 (by decide))) (Fr.mono u_526 (by decide))) (Fr.mono u_539 (by decide))) (Fr.up u_672.1 kSC_77 (by decide))) (Fr.up u_676.1 kSC_77 (by decide))) hF_696) (Fr.mono u_754 (by decide))) u_786) (Eq.trans hs_796 hz_797) dX5_advance_308
                          · -- 186
                            refine lv_aload_n C0.1 C0.2.1 dX5_advance_189 rfl (lv_at hl 0 rfl) ?_
                            refine lv_aload_n C0.1 C0.2.1 dX5_advance_190 rfl (lv_at hl 0 rfl) ?_
                            refine tg_X5_number C0 h kSC_77 q_377 dX5_advance_191 (fun v_798 e_799 e_800 e_801 => ?_)
                            have q_802 : v_798.toInt = f_705.toInt := congrArg Int32.toInt (e_799.symm.trans (Eq.trans (Fr.fI u_754 kSC_77 (by decide)) e_706))
                            refine y_c2 (n := 10) C0 (by decide) dX5_advance_194 (fun v_803 e_804 => ?_)
                            refine y_imulX C0 dX5_advance_196 (fun v_806 e_805 => ?_)
                            refine lv_aload_n C0.1 C0.2.1 dX5_advance_197 rfl (lv_at hl 0 rfl) ?_
                            refine tg_X5_tape C0 h kSC_77 q_371 dX5_advance_198 ?_
                            refine lv_aload_n C0.1 C0.2.1 dX5_advance_201 rfl (lv_at hl 0 rfl) ?_
                            refine tg_X5_end C0 h kSC_77 q_376 dX5_advance_202 (fun v_807 e_808 e_809 e_810 => ?_)
                            have q_811 : v_807.toInt = f_701.toInt := congrArg Int32.toInt (e_808.symm.trans (Eq.trans (Fr.fI u_754 kSC_77 (by decide)) e_702))
                            refine y_bald C0 h kSC_78 rfl (by decide) (o61_79 b_703 b_704 hn_700 e_709 e_710 q_711 e_714 e_715 c_716 e_750 e_751 q_752 e_809 e_810 q_811) (o61_80 b_703 b_704 hn_700 e_709 e_710 q_711 e_714 e_715 c_716 e_750 e_751 q_752 e_809 e_810 q_811) dX5_advance_205 (fun v_812 e_813 e_814 e_815 => ?_)
                            refine y_iaddX C0 dX5_advance_206 (fun v_817 e_816 => ?_)
                            refine y_c2 (n := 48) C0 (by decide) dX5_advance_207 (fun v_818 e_819 => ?_)
                            refine y_isubX C0 dX5_advance_209 (fun v_821 e_820 => ?_)
                            refine tp_X5_number C0 h kSC_77 q_377 (le_min v_821) (le_max v_821) dX5_advance_210 (fun H locs ws_822 h u_823 => ?_)
                            refine lv_aload_n C0.1 C0.2.1 dX5_advance_213 rfl (lv_at hl 0 rfl) ?_
                            refine lv_dup C0.1 C0.2.1 dX5_advance_214 rfl ?_
                            refine tg_X5_end C0 h kSC_77 q_376 dX5_advance_215 (fun v_824 e_825 e_826 e_827 => ?_)
                            have q_828 : v_824.toInt = f_701.toInt := congrArg Int32.toInt (e_825.symm.trans (Eq.trans (Eq.trans (u_823.2.2 6 (by decide)) (Fr.fI u_754 kSC_77 (by decide))) e_702))
                            refine y_c1 (n := 1) C0 (by decide) dX5_advance_218 (fun v_829 e_830 => ?_)
                            refine y_add C0 (o61_81 b_703 b_704 hn_700 e_709 e_710 q_711 e_714 e_715 c_716 e_750 e_751 q_752 e_809 e_810 q_811 e_826 e_827 q_828 e_830 (le_min v_824) (le_max v_824) (le_min v_829) (le_max v_829) (le_min f_701) (le_max f_701) (le_min v_707) (le_max v_707) (le_min v_712) (le_max v_712) (le_min v_748) (le_max v_748) (le_min v_807) (le_max v_807)) (o61_82 b_703 b_704 hn_700 e_709 e_710 q_711 e_714 e_715 c_716 e_750 e_751 q_752 e_809 e_810 q_811 e_826 e_827 q_828 e_830 (le_min v_824) (le_max v_824) (le_min v_829) (le_max v_829) (le_min f_701) (le_max f_701) (le_min v_707) (le_max v_707) (le_min v_712) (le_max v_712) (le_min v_748) (le_max v_748) (le_min v_807) (le_max v_807)) dX5_advance_219 (fun v_831 e_832 => ?_)
                            refine tp_X5_end C0 h kSC_77 q_376 (o61_83 b_703 b_704 hn_700 e_709 e_710 q_711 e_714 e_715 c_716 e_750 e_751 q_752 e_809 e_810 q_811 e_826 e_827 q_828 e_830 e_832) (o61_84 b_703 b_704 hn_700 e_709 e_710 q_711 e_714 e_715 c_716 e_750 e_751 q_752 e_809 e_810 q_811 e_826 e_827 q_828 e_830 e_832) dX5_advance_220 (fun H locs ws_833 h u_834 => ?_)
                            refine lv_goto (tgt := 167) C0.1 C0.2.1 dX5_advance_223 (by decide) ?_
                            have hv_835 : f_701.toInt = v_707.toInt := (congrFun hSp_167 6).symm.trans (aF_at (by decide) e_708)
                            have hv_836 : (aF 77 ws0) 3 = v_712.toInt := (congrFun hSp_167 3).symm.trans (aF_at (by decide) e_713)
                            have hv_837 : f_701.toInt = v_748.toInt := (congrFun hSp_167 6).symm.trans (aF_at (by decide) e_749)
                            have hq_838 := e_759
                            rw [hv_837.symm] at hq_838
                            have hs_839 : aF 77 ws_753 = (upI (upI (upI (upI (upI (upI (aF 77 ws0) 5 f_21.toInt) 6 f_21.toInt) 4 2) 7 0) 7 f_705.toInt) 6 f_701.toInt) := (aF_fr u_754 kSC_77 (by decide)).trans hSp_167
                            have hv_840 : f_705.toInt = v_798.toInt := (congrFun hs_839 7).symm.trans (aF_at (by decide) e_799)
                            have hv_841 : f_701.toInt = v_807.toInt := (congrFun hs_839 6).symm.trans (aF_at (by decide) e_808)
                            have ht_842 : T (f_701.toInt).toNat = v_812.toInt := by have q := (Tp.fr (M := [16]) hTp (Fr.tr (Fr.tr (Fr.tr (Fr.tr (Fr.tr (Fr.tr (Fr.tr (Fr.tr (Fr.up u_11.1 kSC_77 (by decide)) hF_16) (Fr.up u_508.1 kSC_77 (by decide))) (Fr.mono u_526 (by decide))) (Fr.mono u_539 (by decide))) (Fr.up u_672.1 kSC_77 (by decide))) (Fr.up u_676.1 kSC_77 (by decide))) hF_696) (Fr.mono u_754 (by decide))) kSC_78 (by decide)) v_807.toInt.toNat (o61_86 b_703 b_704 hn_700 e_709 e_710 q_711 e_714 e_715 c_716 e_750 e_751 q_752 e_809 e_810 q_811 e_826 e_827 q_828 e_830 e_832); rw [e_813] at q; rw [← hv_841.symm]; exact q.symm
                            have hs_843 : aF 77 ws_822 = (upI (upI (upI (upI (upI (upI (upI (aF 77 ws0) 5 f_21.toInt) 6 f_21.toInt) 4 2) 7 0) 7 f_705.toInt) 6 f_701.toInt) 7 v_821.toInt) := (aF_up (by decide) u_823).trans (congrArg (fun s => upI s 7 v_821.toInt) hs_839)
                            have hv_844 : f_701.toInt = v_824.toInt := (congrFun hs_843 6).symm.trans (aF_at (by decide) e_825)
                            have hs_845 : aF 77 ws_833 = (upI (upI (upI (upI (upI (upI (upI (upI (aF 77 ws0) 5 f_21.toInt) 6 f_21.toInt) 4 2) 7 0) 7 f_705.toInt) 6 f_701.toInt) 7 v_821.toInt) 6 v_831.toInt) := (aF_up (by decide) u_834).trans (congrArg (fun s => upI s 6 v_831.toInt) hs_843)
                            exact ih_698 v_831 v_821 _ _ _ _ (o61_85 b_703 b_704 hn_700 e_709 e_710 q_711 e_714 e_715 c_716 e_750 e_751 q_752 e_809 e_810 q_811 e_826 e_827 q_828 e_830 e_832) (o61_83 b_703 b_704 hn_700 e_709 e_710 q_711 e_714 e_715 c_716 e_750 e_751 q_752 e_809 e_810 q_811 e_826 e_827 q_828 e_830 e_832) (o61_84 b_703 b_704 hn_700 e_709 e_710 q_711 e_714 e_715 c_716 e_750 e_751 q_752 e_809 e_810 q_811 e_826 e_827 q_828 e_830 e_832) ((hs_845.trans upI_76)) (((run_s (by omega) (by omega) ⟨by omega, by omega⟩).trans hSq_167)) (((num_st (by omega) (by omega) ((nxt_of e_805 (o61_87 e_804) e_816 e_820 (o61_88 e_819)).trans (by rw [ht_842.symm, hv_840.symm])) ⟨by omega, by omega⟩).trans hSr_167)) (Eq.trans rfl u_834.2.1) (Eq.trans (u_834.2.2 7 (by decide)) u_823.2.1) h (Fr.tr (Fr.tr (Fr.tr hF_696 (Fr.mono u_754 (by decide))) (Fr.up u_823.1 kSC_77 (by decide))) (Fr.up u_834.1 kSC_77 (by decide))) (lv_sub hl [0] rfl)
                    have hs_846 : aF 77 ws_507 = (upI (upI (aF 77 ws0) 5 f_21.toInt) 6 f_21.toInt) := (aF_up (by decide) u_508).trans ((congrArg (fun s => upI s 6 v_502.toInt) hSp_16).trans (by rw [hv_681.symm]))
                    have hs_847 : aF 77 ws_525 = (upI (upI (aF 77 ws0) 5 f_21.toInt) 6 f_21.toInt) := (aF_fr u_526 kSC_77 (by decide)).trans hs_846
                    have hs_848 : aF 77 ws_538 = (upI (upI (aF 77 ws0) 5 f_21.toInt) 6 f_21.toInt) := (aF_fr u_539 kSC_77 (by decide)).trans hs_847
                    have hs_849 : aF 77 ws_671 = (upI (upI (upI (aF 77 ws0) 5 f_21.toInt) 6 f_21.toInt) 4 2) := (aF_up (by decide) u_672).trans ((congrArg (fun s => upI s 4 v_669.toInt) hs_848).trans (by rw [(o61_72 e_670)]))
                    have hs_850 : aF 77 ws_675 = (upI (upI (upI (upI (aF 77 ws0) 5 f_21.toInt) 6 f_21.toInt) 4 2) 7 0) := (aF_up (by decide) u_676).trans ((congrArg (fun s => upI s 7 v_673.toInt) hs_849).trans (by rw [(o61_39 e_674)]))
                    exact lp_697 ((900 - v_502.toInt + 1).toNat) v_502 v_673 _ _ _ _ (o61_128 b_23 b_24 hn_20 e_27 e_28 q_29 e_32 e_33 c_34 e_463 e_464 q_465 e_492 e_493 q_494 e_504 e_505 q_506 e_511 e_512 q_513 e_516 e_517 q_518 c_519 e_522 e_523 q_524 e_535 e_536 q_537) (o61_129 b_23 b_24 hn_20 e_27 e_28 q_29 e_32 e_33 c_34 e_463 e_464 q_465 e_492 e_493 q_494 e_504 e_505 q_506 e_511 e_512 q_513 e_516 e_517 q_518 c_519 e_522 e_523 q_524 e_535 e_536 q_537) (o61_130 b_23 b_24 hn_20 e_27 e_28 q_29 e_32 e_33 c_34 e_463 e_464 q_465 e_492 e_493 q_494 e_504 e_505 q_506 e_511 e_512 q_513 e_516 e_517 q_518 c_519 e_522 e_523 q_524 e_535 e_536 q_537) ((hs_850.trans (upI_id2 (show 0 = v_673.toInt by omega) (show f_21.toInt = v_502.toInt by omega)).symm)) ((by rw [show v_502.toInt = f_21.toInt by omega])) ((by rw [show v_502.toInt = f_21.toInt by omega, show v_673.toInt = 0 by omega])) (Eq.trans (Eq.trans (u_676.2.2 6 (by decide)) (Eq.trans (u_672.2.2 6 (by decide)) (Eq.trans (Fr.fI u_539 kSC_77 (by decide)) (Fr.fI u_526 kSC_77 (by decide))))) u_508.2.1) (Eq.trans rfl u_676.2.1) h Fr.rf (lv_sub hl [0] rfl)
                · -- 103
                  refine lv_aload_n C0.1 C0.2.1 dX5_advance_106 rfl (lv_at hl 0 rfl) ?_
                  refine y_c1 (n := 1) C0 (by decide) dX5_advance_107 (fun v_851 e_852 => ?_)
                  refine tp_X5_kind C0 h kSC_77 q_374 (le_min v_851) (le_max v_851) dX5_advance_108 (fun H locs ws_853 h u_854 => ?_)
                  have hv_855 : f_21.toInt = v_25.toInt := (congrFun hSp_16 5).symm.trans (aF_at (by decide) e_26)
                  have hv_856 : (aF 77 ws0) 3 = v_30.toInt := (congrFun hSp_16 3).symm.trans (aF_at (by decide) e_31)
                  have hv_857 : f_21.toInt = v_461.toInt := (congrFun hSp_16 5).symm.trans (aF_at (by decide) e_462)
                  have hv_858 : f_21.toInt = v_490.toInt := (congrFun hSp_16 5).symm.trans (aF_at (by decide) e_491)
                  have hv_859 : f_21.toInt = v_502.toInt := (congrFun hSp_16 5).symm.trans (aF_at (by decide) e_503)
                  have ht_860 : T (f_21.toInt).toNat = v_466.toInt := by have q := (Tp.fr (M := [16]) hTp (Fr.tr (Fr.up u_11.1 kSC_77 (by decide)) hF_16) kSC_78 (by decide)) v_461.toInt.toNat (o61_131 b_23 b_24 hn_20 e_27 e_28 q_29 e_32 e_33 c_34 e_463 e_464 q_465 e_492 e_493 q_494 e_504 e_505 q_506 e_511 e_512 q_513 e_516 e_517 q_518 c_519 e_522 e_523 q_524); rw [e_467] at q; rw [← hv_857.symm]; exact q.symm
                  have ht_861 : T (f_21.toInt).toNat = v_495.toInt := by have q := (Tp.fr (M := [16]) hTp (Fr.tr (Fr.up u_11.1 kSC_77 (by decide)) hF_16) kSC_78 (by decide)) v_490.toInt.toNat (o61_132 b_23 b_24 hn_20 e_27 e_28 q_29 e_32 e_33 c_34 e_463 e_464 q_465 e_492 e_493 q_494 e_504 e_505 q_506 e_511 e_512 q_513 e_516 e_517 q_518 c_519 e_522 e_523 q_524); rw [e_496] at q; rw [← hv_858.symm]; exact q.symm
                  have hs_862 : aF 77 ws_507 = (upI (upI (aF 77 ws0) 5 f_21.toInt) 6 f_21.toInt) := (aF_up (by decide) u_508).trans ((congrArg (fun s => upI s 6 v_502.toInt) hSp_16).trans (by rw [hv_859.symm]))
                  have hv_863 : f_21.toInt = v_509.toInt := (congrFun hs_862 5).symm.trans (aF_at (by decide) e_510)
                  have hv_864 : (aF 77 ws0) 3 = v_514.toInt := (congrFun hs_862 3).symm.trans (aF_at (by decide) e_515)
                  have hv_865 : f_21.toInt = v_520.toInt := (congrFun hs_862 5).symm.trans (aF_at (by decide) e_521)
                  have hq_866 := e_531
                  rw [hv_865.symm] at hq_866
                  have hs_867 : aF 77 ws_525 = (upI (upI (aF 77 ws0) 5 f_21.toInt) 6 f_21.toInt) := (aF_fr u_526 kSC_77 (by decide)).trans hs_862
                  have hs_868 : aF 77 ws_853 = (upI (upI (upI (aF 77 ws0) 5 f_21.toInt) 6 f_21.toInt) 4 1) := (aF_up (by decide) u_854).trans ((congrArg (fun s => upI s 4 v_851.toInt) hs_867).trans (by rw [(o61_56 e_852)]))
                  have lp_871 : ∀ (n_873 : Nat) (f_875 : Int32) (H : Heap) (locs : List Loc) (ls : Array Slot) (ws_869 : va_W), 900 - f_875.toInt < (n_873 : Int) → 0 ≤ f_875.toInt → f_875.toInt ≤ 900 → (aF 77 ws_869 = (upI (upI (upI (upI (aF 77 ws0) 5 f_21.toInt) 6 f_21.toInt) 4 1) 6 (f_875.toInt))) → (run T ((aF 77 ws0) 3) 97 122 f_875.toInt = run T ((aF 77 ws0) 3) 97 122 f_21.toInt) → fI ws_869 77 6 = f_875 → Wt G (SC tt) ad A s H locs ws_869 → Fr (SC tt) [16] ws_853 ws_869 → lv_has ls 1 [(0, .ref (ad 77))] → W p l e (rmd 5 0 0) s m args below meth c H locs 0 0 Q (F0 m 111 ls []) := by
                    intro n_873
                    induction n_873 with
                    | zero => intro f_875 H locs ls ws_869 hn_874 b_877 b_878 hSp_111 hSq_111 e_876 h hF_870 hl; exact ((o61_46 b_877 b_878 hn_874)).elim
                    | succ n_873 ih_872 =>
                      intro f_875 H locs ls ws_869 hn_874 b_877 b_878 hSp_111 hSq_111 e_876 h hF_870 hl
                      refine lv_aload_n C0.1 C0.2.1 dX5_advance_111 rfl (lv_at hl 0 rfl) ?_
                      refine tg_X5_end C0 h kSC_77 q_376 dX5_advance_112 (fun v_879 e_880 e_881 e_882 => ?_)
                      have q_883 : v_879.toInt = f_875.toInt := congrArg Int32.toInt (e_880.symm.trans (Eq.trans rfl e_876))
                      refine lv_aload_n C0.1 C0.2.1 dX5_advance_115 rfl (lv_at hl 0 rfl) ?_
                      refine tg_X5_length C0 h kSC_77 q_373 dX5_advance_116 (fun v_884 e_885 e_886 e_887 => ?_)
                      refine y_icmp_ge (tgt := 308) C0 dX5_advance_119 (by decide) (fun c_888 => ?_) (fun c_888 => ?_)
                      · -- 119
                        have hv_889 : f_875.toInt = v_879.toInt := (congrFun hSp_111 6).symm.trans (aF_at (by decide) e_880)
                        have hv_890 : (aF 77 ws0) 3 = v_884.toInt := (congrFun hSp_111 3).symm.trans (aF_at (by decide) e_885)
                        have hz_891 : (upI (upI (upI (upI (aF 77 ws0) 5 f_21.toInt) 6 f_21.toInt) 4 1) 6 f_875.toInt) = advS T (aF 77 ws0) := by first | (exfalso; omega) | (unfold advS; rw [if_pos (by omega), ← hSq_16, skip_e (by omega) (by omega)]; unfold advT; rw [if_neg (by omega), if_pos (by omega)]; rw [← hSq_111, run_e (by omega) (by omega)])
                        rw [hQ]
                        exact y_vret C0 h (Fr.tr (Fr.tr (Fr.tr (Fr.tr (Fr.tr (Fr.up u_11.1 kSC_77 (by decide)) hF_16) (Fr.up u_508.1 kSC_77 (by decide))) (Fr.mono u_526 (by decide))) (Fr.up u_854.1 kSC_77 (by decide))) hF_870) (Eq.trans hSp_111 hz_891) dX5_advance_308
                      · -- 119
                        refine lv_aload_n C0.1 C0.2.1 dX5_advance_122 rfl (lv_at hl 0 rfl) ?_
                        refine lv_aload_n C0.1 C0.2.1 dX5_advance_123 rfl (lv_at hl 0 rfl) ?_
                        refine tg_X5_end C0 h kSC_77 q_376 dX5_advance_124 (fun v_892 e_893 e_894 e_895 => ?_)
                        have q_896 : v_892.toInt = f_875.toInt := congrArg Int32.toInt (e_893.symm.trans (Eq.trans rfl e_876))
                        refine y_ci h (y_rV (As := [.int v_892]) (rest := []) C0 hZ h (c_X5_isSmallS l G Z ad _ h.2 v_892 (o61_75 b_877 b_878 hn_874 e_881 e_882 q_883 e_886 e_887 c_888 e_894 e_895 q_896) (o61_76 b_877 b_878 hn_874 e_881 e_882 q_883 e_886 e_887 c_888 e_894 e_895 q_896) ((Tp.fr (M := [16]) hTp (Fr.tr (Fr.tr (Fr.tr (Fr.tr (Fr.tr (Fr.up u_11.1 kSC_77 (by decide)) hF_16) (Fr.up u_508.1 kSC_77 (by decide))) (Fr.mono u_526 (by decide))) (Fr.up u_854.1 kSC_77 (by decide))) hF_870) kSC_78 (by decide)))) k_X5_isSmall q_620 q_1 q_618 kSC_77 rfl rfl rfl hl.1 rfl rfl (Nat.le_of_ble_eq_true rfl) dX5_advance_127 ⟨Nat.le_of_ble_eq_true rfl, Nat.le_of_ble_eq_true rfl⟩ ⟨Nat.le_of_ble_eq_true rfl, Nat.le_of_ble_eq_true rfl⟩) (fun r_900 H locs ws_897 h u_898 p_899 => ?_)
                        obtain ⟨e_901, e_902, e_903⟩ := p_899
                        refine y_if_eq (tgt := 308) C0 dX5_advance_130 (by decide) (fun c_904 => ?_) (fun c_904 => ?_)
                        · -- 130
                          have hv_905 : f_875.toInt = v_879.toInt := (congrFun hSp_111 6).symm.trans (aF_at (by decide) e_880)
                          have hv_906 : (aF 77 ws0) 3 = v_884.toInt := (congrFun hSp_111 3).symm.trans (aF_at (by decide) e_885)
                          have hv_907 : f_875.toInt = v_892.toInt := (congrFun hSp_111 6).symm.trans (aF_at (by decide) e_893)
                          have hq_908 := e_903
                          rw [hv_907.symm] at hq_908
                          have hs_909 : aF 77 ws_897 = (upI (upI (upI (upI (aF 77 ws0) 5 f_21.toInt) 6 f_21.toInt) 4 1) 6 f_875.toInt) := (aF_fr u_898 kSC_77 (by decide)).trans hSp_111
                          have hz_910 : (upI (upI (upI (upI (aF 77 ws0) 5 f_21.toInt) 6 f_21.toInt) 4 1) 6 f_875.toInt) = advS T (aF 77 ws0) := by first | (exfalso; omega) | (unfold advS; rw [if_pos (by omega), ← hSq_16, skip_e (by omega) (by omega)]; unfold advT; rw [if_neg (by omega), if_pos (by omega)]; rw [← hSq_111, run_e (by omega) (by omega)])
                          rw [hQ]
                          exact y_vret C0 h (Fr.tr (Fr.tr (Fr.tr (Fr.tr (Fr.tr (Fr.tr (Fr.up u_11.1 kSC_77 (by decide)) hF_16) (Fr.up u_508.1 kSC_77 (by decide))) (Fr.mono u_526 (by decide))) (Fr.up u_854.1 kSC_77 (by decide))) hF_870) (Fr.mono u_898 (by decide))) (Eq.trans hs_909 hz_910) dX5_advance_308
                        · -- 130
                          refine lv_aload_n C0.1 C0.2.1 dX5_advance_133 rfl (lv_at hl 0 rfl) ?_
                          refine lv_dup C0.1 C0.2.1 dX5_advance_134 rfl ?_
                          refine tg_X5_end C0 h kSC_77 q_376 dX5_advance_135 (fun v_911 e_912 e_913 e_914 => ?_)
                          have q_915 : v_911.toInt = f_875.toInt := congrArg Int32.toInt (e_912.symm.trans (Eq.trans (Fr.fI u_898 kSC_77 (by decide)) e_876))
                          refine y_c1 (n := 1) C0 (by decide) dX5_advance_138 (fun v_916 e_917 => ?_)
                          refine y_add C0 (o61_92 b_877 b_878 hn_874 e_881 e_882 q_883 e_886 e_887 c_888 e_894 e_895 q_896 e_913 e_914 q_915 e_917 (le_min v_911) (le_max v_911) (le_min v_916) (le_max v_916) (le_min f_875) (le_max f_875) (le_min v_879) (le_max v_879) (le_min v_884) (le_max v_884) (le_min v_892) (le_max v_892)) (o61_93 b_877 b_878 hn_874 e_881 e_882 q_883 e_886 e_887 c_888 e_894 e_895 q_896 e_913 e_914 q_915 e_917 (le_min v_911) (le_max v_911) (le_min v_916) (le_max v_916) (le_min f_875) (le_max f_875) (le_min v_879) (le_max v_879) (le_min v_884) (le_max v_884) (le_min v_892) (le_max v_892)) dX5_advance_139 (fun v_918 e_919 => ?_)
                          refine tp_X5_end C0 h kSC_77 q_376 (o61_94 b_877 b_878 hn_874 e_881 e_882 q_883 e_886 e_887 c_888 e_894 e_895 q_896 e_913 e_914 q_915 e_917 e_919) (o61_95 b_877 b_878 hn_874 e_881 e_882 q_883 e_886 e_887 c_888 e_894 e_895 q_896 e_913 e_914 q_915 e_917 e_919) dX5_advance_140 (fun H locs ws_920 h u_921 => ?_)
                          refine lv_goto (tgt := 111) C0.1 C0.2.1 dX5_advance_143 (by decide) ?_
                          have hv_922 : f_875.toInt = v_879.toInt := (congrFun hSp_111 6).symm.trans (aF_at (by decide) e_880)
                          have hv_923 : (aF 77 ws0) 3 = v_884.toInt := (congrFun hSp_111 3).symm.trans (aF_at (by decide) e_885)
                          have hv_924 : f_875.toInt = v_892.toInt := (congrFun hSp_111 6).symm.trans (aF_at (by decide) e_893)
                          have hq_925 := e_903
                          rw [hv_924.symm] at hq_925
                          have hs_926 : aF 77 ws_897 = (upI (upI (upI (upI (aF 77 ws0) 5 f_21.toInt) 6 f_21.toInt) 4 1) 6 f_875.toInt) := (aF_fr u_898 kSC_77 (by decide)).trans hSp_111
                          have hv_927 : f_875.toInt = v_911.toInt := (congrFun hs_926 6).symm.trans (aF_at (by decide) e_912)
                          have hs_928 : aF 77 ws_920 = (upI (upI (upI (upI (upI (aF 77 ws0) 5 f_21.toInt) 6 f_21.toInt) 4 1) 6 f_875.toInt) 6 v_918.toInt) := (aF_up (by decide) u_921).trans (congrArg (fun s => upI s 6 v_918.toInt) hs_926)
                          exact ih_872 v_918 _ _ _ _ (o61_96 b_877 b_878 hn_874 e_881 e_882 q_883 e_886 e_887 c_888 e_894 e_895 q_896 e_913 e_914 q_915 e_917 e_919) (o61_94 b_877 b_878 hn_874 e_881 e_882 q_883 e_886 e_887 c_888 e_894 e_895 q_896 e_913 e_914 q_915 e_917 e_919) (o61_95 b_877 b_878 hn_874 e_881 e_882 q_883 e_886 e_887 c_888 e_894 e_895 q_896 e_913 e_914 q_915 e_917 e_919) ((hs_928.trans upI_up)) (((run_s (by omega) (by omega) ⟨by omega, by omega⟩).trans hSq_111)) (Eq.trans rfl u_921.2.1) h (Fr.tr (Fr.tr hF_870 (Fr.mono u_898 (by decide))) (Fr.up u_921.1 kSC_77 (by decide))) (lv_sub hl [0] rfl)
                  have hs_929 : aF 77 ws_507 = (upI (upI (aF 77 ws0) 5 f_21.toInt) 6 f_21.toInt) := (aF_up (by decide) u_508).trans ((congrArg (fun s => upI s 6 v_502.toInt) hSp_16).trans (by rw [hv_859.symm]))
                  have hs_930 : aF 77 ws_525 = (upI (upI (aF 77 ws0) 5 f_21.toInt) 6 f_21.toInt) := (aF_fr u_526 kSC_77 (by decide)).trans hs_929
                  have hs_931 : aF 77 ws_853 = (upI (upI (upI (aF 77 ws0) 5 f_21.toInt) 6 f_21.toInt) 4 1) := (aF_up (by decide) u_854).trans ((congrArg (fun s => upI s 4 v_851.toInt) hs_930).trans (by rw [(o61_56 e_852)]))
                  exact lp_871 ((900 - v_502.toInt + 1).toNat) v_502 _ _ _ _ (o61_133 b_23 b_24 hn_20 e_27 e_28 q_29 e_32 e_33 c_34 e_463 e_464 q_465 e_492 e_493 q_494 e_504 e_505 q_506 e_511 e_512 q_513 e_516 e_517 q_518 c_519 e_522 e_523 q_524) (o61_134 b_23 b_24 hn_20 e_27 e_28 q_29 e_32 e_33 c_34 e_463 e_464 q_465 e_492 e_493 q_494 e_504 e_505 q_506 e_511 e_512 q_513 e_516 e_517 q_518 c_519 e_522 e_523 q_524) (o61_135 b_23 b_24 hn_20 e_27 e_28 q_29 e_32 e_33 c_34 e_463 e_464 q_465 e_492 e_493 q_494 e_504 e_505 q_506 e_511 e_512 q_513 e_516 e_517 q_518 c_519 e_522 e_523 q_524) ((hs_931.trans (upI_id (show f_21.toInt = v_502.toInt by omega)).symm)) ((by rw [show v_502.toInt = f_21.toInt by omega])) (Eq.trans (Eq.trans (u_854.2.2 6 (by decide)) (Fr.fI u_526 kSC_77 (by decide))) u_508.2.1) h Fr.rf (lv_sub hl [0] rfl)
              · -- 84
                refine lv_aload_n C0.1 C0.2.1 dX5_advance_87 rfl (lv_at hl 0 rfl) ?_
                refine y_c1 (n := 0) C0 (by decide) dX5_advance_88 (fun v_932 e_933 => ?_)
                refine tp_X5_kind C0 h kSC_77 q_374 (le_min v_932) (le_max v_932) dX5_advance_89 (fun H locs ws_934 h u_935 => ?_)
                refine lv_goto (tgt := 308) C0.1 C0.2.1 dX5_advance_92 (by decide) ?_
                have hv_936 : f_21.toInt = v_25.toInt := (congrFun hSp_16 5).symm.trans (aF_at (by decide) e_26)
                have hv_937 : (aF 77 ws0) 3 = v_30.toInt := (congrFun hSp_16 3).symm.trans (aF_at (by decide) e_31)
                have hv_938 : f_21.toInt = v_461.toInt := (congrFun hSp_16 5).symm.trans (aF_at (by decide) e_462)
                have hv_939 : f_21.toInt = v_490.toInt := (congrFun hSp_16 5).symm.trans (aF_at (by decide) e_491)
                have hv_940 : f_21.toInt = v_502.toInt := (congrFun hSp_16 5).symm.trans (aF_at (by decide) e_503)
                have ht_941 : T (f_21.toInt).toNat = v_466.toInt := by have q := (Tp.fr (M := [16]) hTp (Fr.tr (Fr.up u_11.1 kSC_77 (by decide)) hF_16) kSC_78 (by decide)) v_461.toInt.toNat (o61_136 b_23 b_24 hn_20 e_27 e_28 q_29 e_32 e_33 c_34 e_463 e_464 q_465 e_492 e_493 q_494 e_504 e_505 q_506 e_511 e_512 q_513 e_516 e_517 q_518 c_519); rw [e_467] at q; rw [← hv_938.symm]; exact q.symm
                have ht_942 : T (f_21.toInt).toNat = v_495.toInt := by have q := (Tp.fr (M := [16]) hTp (Fr.tr (Fr.up u_11.1 kSC_77 (by decide)) hF_16) kSC_78 (by decide)) v_490.toInt.toNat (o61_137 b_23 b_24 hn_20 e_27 e_28 q_29 e_32 e_33 c_34 e_463 e_464 q_465 e_492 e_493 q_494 e_504 e_505 q_506 e_511 e_512 q_513 e_516 e_517 q_518 c_519); rw [e_496] at q; rw [← hv_939.symm]; exact q.symm
                have hs_943 : aF 77 ws_507 = (upI (upI (aF 77 ws0) 5 f_21.toInt) 6 f_21.toInt) := (aF_up (by decide) u_508).trans ((congrArg (fun s => upI s 6 v_502.toInt) hSp_16).trans (by rw [hv_940.symm]))
                have hv_944 : f_21.toInt = v_509.toInt := (congrFun hs_943 5).symm.trans (aF_at (by decide) e_510)
                have hv_945 : (aF 77 ws0) 3 = v_514.toInt := (congrFun hs_943 3).symm.trans (aF_at (by decide) e_515)
                have hs_946 : aF 77 ws_934 = (upI (upI (upI (aF 77 ws0) 5 f_21.toInt) 6 f_21.toInt) 4 0) := (aF_up (by decide) u_935).trans ((congrArg (fun s => upI s 4 v_932.toInt) hs_943).trans (by rw [(o61_39 e_933)]))
                have hz_947 : (upI (upI (upI (aF 77 ws0) 5 f_21.toInt) 6 f_21.toInt) 4 0) = advS T (aF 77 ws0) := by first | (exfalso; omega) | (unfold advS; rw [if_pos (by omega), ← hSq_16, skip_e (by omega) (by omega)]; unfold advT; first | (rw [if_pos (by omega)]; done) | (rw [if_neg (by omega), if_neg (by omega), if_neg (by omega), if_pos (by omega)]; congr 1; omega) | (rw [if_neg (by omega), if_neg (by omega), if_neg (by omega), if_neg (by omega)]; done))
                rw [hQ]
                exact y_vret C0 h (Fr.tr (Fr.tr (Fr.tr (Fr.up u_11.1 kSC_77 (by decide)) hF_16) (Fr.up u_508.1 kSC_77 (by decide))) (Fr.up u_935.1 kSC_77 (by decide))) (Eq.trans hs_946 hz_947) dX5_advance_308
            · -- 52
              refine lv_aload_n C0.1 C0.2.1 dX5_advance_55 rfl (lv_at hl 0 rfl) ?_
              refine lv_dup C0.1 C0.2.1 dX5_advance_56 rfl ?_
              refine tg_X5_start C0 h kSC_77 q_375 dX5_advance_57 (fun v_948 e_949 e_950 e_951 => ?_)
              have q_952 : v_948.toInt = f_21.toInt := congrArg Int32.toInt (e_949.symm.trans (Eq.trans rfl e_22))
              refine y_c1 (n := 1) C0 (by decide) dX5_advance_60 (fun v_953 e_954 => ?_)
              refine y_add C0 (o61_81 b_23 b_24 hn_20 e_27 e_28 q_29 e_32 e_33 c_34 e_463 e_464 q_465 e_492 e_493 q_494 e_950 e_951 q_952 e_954 (le_min v_948) (le_max v_948) (le_min v_953) (le_max v_953) (le_min f_21) (le_max f_21) (le_min v_25) (le_max v_25) (le_min v_30) (le_max v_30) (le_min v_461) (le_max v_461) (le_min v_490) (le_max v_490)) (o61_82 b_23 b_24 hn_20 e_27 e_28 q_29 e_32 e_33 c_34 e_463 e_464 q_465 e_492 e_493 q_494 e_950 e_951 q_952 e_954 (le_min v_948) (le_max v_948) (le_min v_953) (le_max v_953) (le_min f_21) (le_max f_21) (le_min v_25) (le_max v_25) (le_min v_30) (le_max v_30) (le_min v_461) (le_max v_461) (le_min v_490) (le_max v_490)) dX5_advance_61 (fun v_955 e_956 => ?_)
              refine tp_X5_start C0 h kSC_77 q_375 (o61_83 b_23 b_24 hn_20 e_27 e_28 q_29 e_32 e_33 c_34 e_463 e_464 q_465 e_492 e_493 q_494 e_950 e_951 q_952 e_954 e_956) (o61_84 b_23 b_24 hn_20 e_27 e_28 q_29 e_32 e_33 c_34 e_463 e_464 q_465 e_492 e_493 q_494 e_950 e_951 q_952 e_954 e_956) dX5_advance_62 (fun H locs ws_957 h u_958 => ?_)
              refine lv_goto (tgt := 16) C0.1 C0.2.1 dX5_advance_65 (by decide) ?_
              have hv_959 : f_21.toInt = v_25.toInt := (congrFun hSp_16 5).symm.trans (aF_at (by decide) e_26)
              have hv_960 : (aF 77 ws0) 3 = v_30.toInt := (congrFun hSp_16 3).symm.trans (aF_at (by decide) e_31)
              have hv_961 : f_21.toInt = v_461.toInt := (congrFun hSp_16 5).symm.trans (aF_at (by decide) e_462)
              have hv_962 : f_21.toInt = v_490.toInt := (congrFun hSp_16 5).symm.trans (aF_at (by decide) e_491)
              have hv_963 : f_21.toInt = v_948.toInt := (congrFun hSp_16 5).symm.trans (aF_at (by decide) e_949)
              have ht_964 : T (f_21.toInt).toNat = v_466.toInt := by have q := (Tp.fr (M := [16]) hTp (Fr.tr (Fr.up u_11.1 kSC_77 (by decide)) hF_16) kSC_78 (by decide)) v_461.toInt.toNat (o61_138 b_23 b_24 hn_20 e_27 e_28 q_29 e_32 e_33 c_34 e_463 e_464 q_465 e_492 e_493 q_494 e_950 e_951 q_952 e_954 e_956); rw [e_467] at q; rw [← hv_961.symm]; exact q.symm
              have ht_965 : T (f_21.toInt).toNat = v_495.toInt := by have q := (Tp.fr (M := [16]) hTp (Fr.tr (Fr.up u_11.1 kSC_77 (by decide)) hF_16) kSC_78 (by decide)) v_490.toInt.toNat (o61_86 b_23 b_24 hn_20 e_27 e_28 q_29 e_32 e_33 c_34 e_463 e_464 q_465 e_492 e_493 q_494 e_950 e_951 q_952 e_954 e_956); rw [e_496] at q; rw [← hv_962.symm]; exact q.symm
              have hs_966 : aF 77 ws_957 = (upI (upI (aF 77 ws0) 5 f_21.toInt) 5 v_955.toInt) := (aF_up (by decide) u_958).trans (congrArg (fun s => upI s 5 v_955.toInt) hSp_16)
              exact ih_18 v_955 _ _ _ _ (o61_85 b_23 b_24 hn_20 e_27 e_28 q_29 e_32 e_33 c_34 e_463 e_464 q_465 e_492 e_493 q_494 e_950 e_951 q_952 e_954 e_956) (o61_83 b_23 b_24 hn_20 e_27 e_28 q_29 e_32 e_33 c_34 e_463 e_464 q_465 e_492 e_493 q_494 e_950 e_951 q_952 e_954 e_956) (o61_84 b_23 b_24 hn_20 e_27 e_28 q_29 e_32 e_33 c_34 e_463 e_464 q_465 e_492 e_493 q_494 e_950 e_951 q_952 e_954 e_956) ((hs_966.trans upI_up)) (((skip_s (by omega) (by omega) ⟨by omega, by omega⟩).trans hSq_16)) (Eq.trans rfl u_958.2.1) h (Fr.tr hF_16 (Fr.up u_958.1 kSC_77 (by decide))) (lv_sub hl [0] rfl)
    have hs_967 : aF 77 ws_10 = (upI (aF 77 ws0) 5 ((aF 77 ws0) 6)) := (aF_up (by decide) u_11).trans (by rw [hv_13.symm])
    exact lp_17 ((900 - v_6.toInt + 1).toNat) v_6 _ _ _ _ (o61_139 e_8 e_9) (o61_44 e_8 e_9) (o61_45 e_8 e_9) ((hs_967.trans (by rw [hv_13.symm]))) ((by rw [hv_13.symm])) (Eq.trans rfl u_11.2.1) h Fr.rf (lv_sub hl [0] rfl)
  · -- 4
    have hv_968 : (aF 77 ws0) 8 = v_1.toInt := (aF_at (by decide) e_2)
    have hz_969 : (aF 77 ws0) = advS T (aF 77 ws0) := by unfold advS; repeat (first | rw [if_pos (by omega)] | rw [if_neg (by omega)])
    rw [hQ]
    exact y_vret C0 h Fr.rf (Eq.trans rfl hz_969) dX5_advance_7
set_option maxHeartbeats 4000000 in
set_option maxRecDepth 100000 in
theorem c_J1_charAt_3b067S {S : Sp} (l : Launch) (G : GG) (Z : RZ) (ad : Nat → Nat) (ws0 : va_W) (hT : Ty G S ad ws0) (k0 : Nat) (hsk0 : k0 < 23) (a1 : Int32) (pre0 : 0 ≤ a1.toInt) (pre1 : a1.toInt < ((strLen.getD k0 0 : Nat) : Int)) : Mq l yJ1_charAt_3b067 cJ1_charAt_3b067 2 (some .char) 3 G Z [.ref (Z.2.2 k0), .int a1] ws0 (PI G S ad [] ws0 (fun r u => (0 ≤ r.toInt) ∧ (r.toInt ≤ 255) ∧ (r.toInt = (chB k0 a1.toInt.toNat).toInt))) := by
  refine Mq.start (by decide) (Nat.le_of_ble_eq_true rfl) ?_
  intro p e s m below meth c A ls C0 hZ h hl
  have hl : lv_has ls 2 [(0, .ref (Z.2.2 k0)), (1, .int a1)] := hl
  have h : Wt G S ad A s s.heap [] ws0 := ⟨h, hT⟩
  obtain ⟨args, hargs⟩ : ∃ z, z = ([.ref (Z.2.2 k0), .int a1] : List Value).toArray := ⟨_, rfl⟩
  rw [← hargs] at C0 ⊢
  have C0 : Cx p s m args meth c RJ1 cJ1_charAt_3b067 2 (some .char) := C0
  obtain ⟨Q, hQ⟩ : ∃ z, z = MQ below ((PI G S ad [] ws0 (fun r u => (0 ≤ r.toInt) ∧ (r.toInt ≤ 255) ∧ (r.toInt = (chB k0 a1.toInt.toNat).toInt))) A) args s 0 0 A := ⟨_, rfl⟩
  rw [← hQ]
  refine lv_iload_n C0.1 C0.2.1 dJ1_charAt_3b067_0 rfl (lv_at hl 1 rfl) ?_
  refine lv_aload_n C0.1 C0.2.1 dJ1_charAt_3b067_1 rfl (lv_at hl 0 rfl) ?_
  refine y_tlen C0 hZ h hsk0 dJ1_charAt_3b067_2 (fun v_1 e_2 => ?_)
  refine y_cv h (y_rS (As := [.int a1, .int v_1]) (rest := []) C0 hZ h (c_J0_checkIndex_df160 l G Z ad _ h.2 a1 v_1 (o61_140 (strLen_le k0) pre0 pre1 e_2) (o61_141 (strLen_le k0) pre0 pre1 e_2)) k_J0_checkIndex_df160 q_735 q_734 hl.1 rfl rfl (Nat.le_of_ble_eq_true rfl) dJ1_charAt_3b067_3 ⟨Nat.le_of_ble_eq_true rfl, Nat.le_of_ble_eq_true rfl⟩ ⟨Nat.le_of_ble_eq_true rfl, Nat.le_of_ble_eq_true rfl⟩) (fun H locs ws_3 h u_4 p_5 => ?_)
  refine lv_aload_n C0.1 C0.2.1 dJ1_charAt_3b067_6 rfl (lv_at hl 0 rfl) ?_
  refine lv_iload_n C0.1 C0.2.1 dJ1_charAt_3b067_7 rfl (lv_at hl 1 rfl) ?_
  refine y_tbld C0 hZ h hsk0 (o61_140 (strLen_le k0) pre0 pre1 e_2) (o61_142 (strLen_le k0) pre0 pre1 e_2) dJ1_charAt_3b067_8 (fun v_6 e_7 => ?_)
  refine y_c3 (n := 255) C0 (by decide) dJ1_charAt_3b067_9 (fun v_8 e_9 => ?_)
  refine y_andX 255 8 (n := 255) C0 (Eq.trans (o61_143 e_9) (by decide)) (by decide) (by decide) (by decide) dJ1_charAt_3b067_12 (fun v_11 e_10 e_12 e_13 => ?_)
  refine y_i2cE C0 (o61_144 e_12 e_13) (o61_145 e_12 e_13) dJ1_charAt_3b067_13 (fun v_14 e_15 => ?_)
  rw [hQ]
  exact y_cret C0 h (o61_146 e_12 e_13 e_15) (o61_149 e_12 e_13 e_15) u_4 ⟨(o61_146 e_12 e_13 e_15), (o61_147 e_12 e_13 e_15), (ch_of e_7 e_10 (o61_143 e_9) (o61_148 e_12 e_13 e_15))⟩ dJ1_charAt_3b067_14
set_option maxHeartbeats 4000000 in
set_option maxRecDepth 100000 in
theorem c_J0_charAt_5068eS {S : Sp} (l : Launch) (G : GG) (Z : RZ) (ad : Nat → Nat) (ws0 : va_W) (hT : Ty G S ad ws0) (k0 : Nat) (hsk0 : k0 < 23) (a1 : Int32) (pre0 : 0 ≤ a1.toInt) (pre1 : a1.toInt < ((strLen.getD k0 0 : Nat) : Int)) : Mq l yJ0_charAt_5068e cJ0_charAt_5068e 2 (some .char) 4 G Z [.ref (Z.2.1 k0), .int a1] ws0 (PI G S ad [] ws0 (fun r u => (0 ≤ r.toInt) ∧ (r.toInt ≤ 255) ∧ (r.toInt = (chB k0 a1.toInt.toNat).toInt))) := by
  refine Mq.start (by decide) (Nat.le_of_ble_eq_true rfl) ?_
  intro p e s m below meth c A ls C0 hZ h hl
  have hl : lv_has ls 2 [(0, .ref (Z.2.1 k0)), (1, .int a1)] := hl
  have h : Wt G S ad A s s.heap [] ws0 := ⟨h, hT⟩
  obtain ⟨args, hargs⟩ : ∃ z, z = ([.ref (Z.2.1 k0), .int a1] : List Value).toArray := ⟨_, rfl⟩
  rw [← hargs] at C0 ⊢
  have C0 : Cx p s m args meth c RJ0 cJ0_charAt_5068e 2 (some .char) := C0
  obtain ⟨Q, hQ⟩ : ∃ z, z = MQ below ((PI G S ad [] ws0 (fun r u => (0 ≤ r.toInt) ∧ (r.toInt ≤ 255) ∧ (r.toInt = (chB k0 a1.toInt.toNat).toInt))) A) args s 0 0 A := ⟨_, rfl⟩
  rw [← hQ]
  refine lv_aload_n C0.1 C0.2.1 dJ0_charAt_5068e_0 rfl (lv_at hl 0 rfl) ?_
  refine y_ci h (y_rT (As := []) (rest := []) C0 hZ h (c_J0_isLatin1_aae02 l G Z ad _ h.2 k0 hsk0) k_J0_isLatin1_aae02 q_640 q_641 q_639 hsk0 rfl hl.1 rfl rfl (Nat.le_of_ble_eq_true rfl) dJ0_charAt_5068e_1 ⟨Nat.le_of_ble_eq_true rfl, Nat.le_of_ble_eq_true rfl⟩ ⟨Nat.le_of_ble_eq_true rfl, Nat.le_of_ble_eq_true rfl⟩) (fun r_4 H locs ws_1 h u_2 p_3 => ?_)
  obtain ⟨e_5, e_6⟩ := p_3
  refine y_if_eq (tgt := 16) C0 dJ0_charAt_5068e_4 (by decide) (fun c_7 => ((o61_25 e_5 e_6 c_7)).elim) (fun c_7 => ?_)
  refine lv_aload_n C0.1 C0.2.1 dJ0_charAt_5068e_7 rfl (lv_at hl 0 rfl) ?_
  refine y_sval C0 hZ h hsk0 q_2071 dJ0_charAt_5068e_8 ?_
  refine lv_iload_n C0.1 C0.2.1 dJ0_charAt_5068e_11 rfl (lv_at hl 1 rfl) ?_
  refine y_ci h (y_rS (As := [.ref (Z.2.2 k0), .int a1]) (rest := []) C0 hZ h (c_J1_charAt_3b067S l G Z ad _ h.2 k0 hsk0 a1 (o61_150 (strLen_le k0) pre0 pre1) (o61_151 (strLen_le k0) pre0 pre1)) k_J1_charAt_3b067 q_732 q_731 hl.1 rfl rfl (Nat.le_of_ble_eq_true rfl) dJ0_charAt_5068e_12 ⟨Nat.le_of_ble_eq_true rfl, Nat.le_of_ble_eq_true rfl⟩ ⟨Nat.le_of_ble_eq_true rfl, Nat.le_of_ble_eq_true rfl⟩) (fun r_11 H locs ws_8 h u_9 p_10 => ?_)
  obtain ⟨e_12, e_13, e_14⟩ := p_10
  rw [hQ]
  exact y_cret C0 h (o61_144 e_12 e_13) (o61_145 e_12 e_13) (Fr.tr u_2 u_9) ⟨(o61_144 e_12 e_13), (o61_152 e_12 e_13), e_14⟩ dJ0_charAt_5068e_15
set_option maxHeartbeats 4000000 in
set_option maxRecDepth 100000 in
theorem c_X5_isWordS {T : Nat → Int} (l : Launch) (G : GG) (Z : RZ) (ad : Nat → Nat) (ws0 : va_W) (hT : Ty G (SC tt) ad ws0) (k1 : Nat) (hsk1 : k1 < 23) (hTp : Tp T ws0) : Mq l yX5_isWord cX5_isWord 3 (some .boolean) 5 G Z [.ref (ad 77), .ref (Z.2.1 k1)] ws0 (PI G (SC tt) ad [] ws0 (fun r u => (0 ≤ r.toInt) ∧ (r.toInt ≤ 1) ∧ (r.toInt = wI T k1 (aF 77 ws0)))) := by
  refine Mq.start (by decide) (Nat.le_of_ble_eq_true rfl) ?_
  intro p e s m below meth c A ls C0 hZ h hl
  have hl : lv_has ls 3 [(0, .ref (ad 77)), (1, .ref (Z.2.1 k1))] := hl
  have h : Wt G (SC tt) ad A s s.heap [] ws0 := ⟨h, hT⟩
  obtain ⟨args, hargs⟩ : ∃ z, z = ([.ref (ad 77), .ref (Z.2.1 k1)] : List Value).toArray := ⟨_, rfl⟩
  rw [← hargs] at C0 ⊢
  have C0 : Cx p s m args meth c RX5 cX5_isWord 3 (some .boolean) := C0
  obtain ⟨Q, hQ⟩ : ∃ z, z = MQ below ((PI G (SC tt) ad [] ws0 (fun r u => (0 ≤ r.toInt) ∧ (r.toInt ≤ 1) ∧ (r.toInt = wI T k1 (aF 77 ws0)))) A) args s 0 0 A := ⟨_, rfl⟩
  rw [← hQ]
  refine lv_aload_n C0.1 C0.2.1 dX5_isWord_0 rfl (lv_at hl 0 rfl) ?_
  refine tg_X5_kind C0 h kSC_77 q_374 dX5_isWord_1 (fun v_1 e_2 e_3 e_4 => ?_)
  refine y_c1 (n := 1) C0 (by decide) dX5_isWord_4 (fun v_5 e_6 => ?_)
  refine y_icmp_ne (tgt := 24) C0 dX5_isWord_5 (by decide) (fun c_7 => ?_) (fun c_7 => ?_)
  · -- 5
    refine y_c1 (n := 0) C0 (by decide) dX5_isWord_24 (fun v_8 e_9 => ?_)
    have hv_10 : (aF 77 ws0) 4 = v_1.toInt := (aF_at (by decide) e_2)
    rw [hQ]
    exact y_zret C0 h (o61_37 e_9) (o61_42 e_9) Fr.rf ⟨(o61_37 e_9), (o61_42 e_9), (wI_0 (o61_39 e_9) (fun hw => by have a := hw.1; have b := hw.2.1; omega))⟩ dX5_isWord_25
  · -- 5
    refine lv_aload_n C0.1 C0.2.1 dX5_isWord_8 rfl (lv_at hl 0 rfl) ?_
    refine tg_X5_end C0 h kSC_77 q_376 dX5_isWord_9 (fun v_11 e_12 e_13 e_14 => ?_)
    refine lv_aload_n C0.1 C0.2.1 dX5_isWord_12 rfl (lv_at hl 0 rfl) ?_
    refine tg_X5_start C0 h kSC_77 q_375 dX5_isWord_13 (fun v_15 e_16 e_17 e_18 => ?_)
    refine y_sub C0 (o61_153 e_13 e_14 e_17 e_18 (le_min v_11) (le_max v_11) (le_min v_15) (le_max v_15)) (o61_154 e_13 e_14 e_17 e_18 (le_min v_11) (le_max v_11) (le_min v_15) (le_max v_15)) dX5_isWord_16 (fun v_19 e_20 => ?_)
    refine lv_aload_n C0.1 C0.2.1 dX5_isWord_17 rfl (lv_at hl 1 rfl) ?_
    refine y_ci h (y_rT (As := []) (rest := [.int v_19]) C0 hZ h (c_J0_length_8abf5 l G Z ad _ h.2 k1 hsk1) k_J0_length_8abf5 q_646 q_647 q_726 hsk1 rfl hl.1 rfl rfl (Nat.le_of_ble_eq_true rfl) dX5_isWord_18 ⟨Nat.le_of_ble_eq_true rfl, Nat.le_of_ble_eq_true rfl⟩ ⟨Nat.le_of_ble_eq_true rfl, Nat.le_of_ble_eq_true rfl⟩) (fun r_24 H locs ws_21 h u_22 p_23 => ?_)
    obtain ⟨e_25, e_26, e_27⟩ := p_23
    refine y_icmp_eq (tgt := 26) C0 dX5_isWord_21 (by decide) (fun c_28 => ?_) (fun c_28 => ?_)
    · -- 21
      refine y_c1 (n := 0) C0 (by decide) dX5_isWord_26 (fun v_29 e_30 => ?_)
      refine lv_istore_n (lv' := [(2, .int v_29), (0, .ref (ad 77)), (1, .ref (Z.2.1 k1))]) C0.1 C0.2.1 dX5_isWord_27 rfl hl (by decide) rfl (fun ls hl => ?_)
      have lp_34 : ∀ (n_36 : Nat) (x2_31 : Int32) (H : Heap) (locs : List Loc) (ls : Array Slot) (ws_32 : va_W), 102 - x2_31.toInt < (n_36 : Int) → 0 ≤ x2_31.toInt → x2_31.toInt ≤ 102 → (∀ j : Nat, (j : Int) < x2_31.toInt → T ((aF 77 ws0) 5 + j).toNat = (chB k1 j).toInt) → Wt G (SC tt) ad A s H locs ws_32 → Fr (SC tt) [] ws_21 ws_32 → lv_has ls 3 [(2, .int x2_31), (0, .ref (ad 77)), (1, .ref (Z.2.1 k1))] → W p l e (rmd 5 0 0) s m args below meth c H locs 0 0 Q (F0 m 28 ls []) := by
        intro n_36
        induction n_36 with
        | zero => intro x2_31 H locs ls ws_32 hn_37 b_38 b_39 hWo h hF_33 hl; exact ((o61_8 b_38 b_39 hn_37)).elim
        | succ n_36 ih_35 =>
          intro x2_31 H locs ls ws_32 hn_37 b_38 b_39 hWo h hF_33 hl
          refine lv_iload_n C0.1 C0.2.1 dX5_isWord_28 rfl (lv_at hl 0 rfl) ?_
          refine lv_aload_n C0.1 C0.2.1 dX5_isWord_29 rfl (lv_at hl 2 rfl) ?_
          refine y_ci h (y_rT (As := []) (rest := [.int x2_31]) C0 hZ h (c_J0_length_8abf5 l G Z ad _ h.2 k1 hsk1) k_J0_length_8abf5 q_646 q_647 q_726 hsk1 rfl hl.1 rfl rfl (Nat.le_of_ble_eq_true rfl) dX5_isWord_30 ⟨Nat.le_of_ble_eq_true rfl, Nat.le_of_ble_eq_true rfl⟩ ⟨Nat.le_of_ble_eq_true rfl, Nat.le_of_ble_eq_true rfl⟩) (fun r_43 H locs ws_40 h u_41 p_42 => ?_)
          obtain ⟨e_44, e_45, e_46⟩ := p_42
          refine y_icmp_ge (tgt := 63) C0 dX5_isWord_33 (by decide) (fun c_47 => ?_) (fun c_47 => ?_)
          · -- 33
            refine y_c1 (n := 1) C0 (by decide) dX5_isWord_63 (fun v_48 e_49 => ?_)
            have hv_50 : (aF 77 ws0) 4 = v_1.toInt := (aF_at (by decide) e_2)
            have hv_51 : (aF 77 ws0) 6 = v_11.toInt := (aF_at (by decide) e_12)
            have hv_52 : (aF 77 ws0) 5 = v_15.toInt := (aF_at (by decide) e_16)
            rw [hQ]
            exact y_zret C0 h (o61_5 e_49) (o61_4 e_49) (Fr.tr (Fr.tr u_22 hF_33) u_41) ⟨(o61_5 e_49), (o61_4 e_49), (wI_1 (o61_56 e_49) ⟨by omega, by omega, fun j hj => hWo j (by omega)⟩)⟩ dX5_isWord_64
          · -- 33
            refine lv_aload_n C0.1 C0.2.1 dX5_isWord_36 rfl (lv_at hl 1 rfl) ?_
            refine tg_X5_tape C0 h kSC_77 q_371 dX5_isWord_37 ?_
            refine lv_aload_n C0.1 C0.2.1 dX5_isWord_40 rfl (lv_at hl 1 rfl) ?_
            refine tg_X5_start C0 h kSC_77 q_375 dX5_isWord_41 (fun v_53 e_54 e_55 e_56 => ?_)
            have q_57 : v_53.toInt = v_15.toInt := congrArg Int32.toInt (e_54.symm.trans (Eq.trans (Eq.trans (Fr.fI u_41 kSC_77 (by decide)) (Eq.trans (Fr.fI hF_33 kSC_77 (by decide)) (Fr.fI u_22 kSC_77 (by decide)))) e_16))
            refine lv_iload_n C0.1 C0.2.1 dX5_isWord_44 rfl (lv_at hl 0 rfl) ?_
            refine y_add C0 (o61_155 (strLen_le k1) e_13 e_14 e_17 e_18 e_20 e_25 e_26 e_27 c_28 b_38 b_39 hn_37 e_44 e_45 e_46 c_47 e_55 e_56 q_57 (le_min v_53) (le_max v_53) (le_min x2_31) (le_max x2_31) (le_min v_11) (le_max v_11) (le_min v_15) (le_max v_15) (le_min v_19) (le_max v_19) (le_min r_24) (le_max r_24) (le_min r_43) (le_max r_43)) (o61_156 (strLen_le k1) e_13 e_14 e_17 e_18 e_20 e_25 e_26 e_27 c_28 b_38 b_39 hn_37 e_44 e_45 e_46 c_47 e_55 e_56 q_57 (le_min v_53) (le_max v_53) (le_min x2_31) (le_max x2_31) (le_min v_11) (le_max v_11) (le_min v_15) (le_max v_15) (le_min v_19) (le_max v_19) (le_min r_24) (le_max r_24) (le_min r_43) (le_max r_43)) dX5_isWord_45 (fun v_58 e_59 => ?_)
            refine y_bald C0 h kSC_78 rfl (by decide) (o61_157 (strLen_le k1) e_13 e_14 e_17 e_18 e_20 e_25 e_26 e_27 c_28 b_38 b_39 hn_37 e_44 e_45 e_46 c_47 e_55 e_56 q_57 e_59) (o61_158 (strLen_le k1) e_13 e_14 e_17 e_18 e_20 e_25 e_26 e_27 c_28 b_38 b_39 hn_37 e_44 e_45 e_46 c_47 e_55 e_56 q_57 e_59) dX5_isWord_46 (fun v_60 e_61 e_62 e_63 => ?_)
            refine lv_aload_n C0.1 C0.2.1 dX5_isWord_47 rfl (lv_at hl 2 rfl) ?_
            refine lv_iload_n C0.1 C0.2.1 dX5_isWord_48 rfl (lv_at hl 0 rfl) ?_
            refine y_ci h (y_rT (As := [.int x2_31]) (rest := [.int v_60]) C0 hZ h (c_J0_charAt_5068eS l G Z ad _ h.2 k1 hsk1 x2_31 (o61_159 (strLen_le k1) e_13 e_14 e_17 e_18 e_20 e_25 e_26 e_27 c_28 b_38 b_39 hn_37 e_44 e_45 e_46 c_47 e_55 e_56 q_57 e_59) (o61_160 (strLen_le k1) e_13 e_14 e_17 e_18 e_20 e_25 e_26 e_27 c_28 b_38 b_39 hn_37 e_44 e_45 e_46 c_47 e_55 e_56 q_57 e_59)) k_J0_charAt_5068e q_728 q_729 q_727 hsk1 rfl hl.1 rfl rfl (Nat.le_of_ble_eq_true rfl) dX5_isWord_49 ⟨Nat.le_of_ble_eq_true rfl, Nat.le_of_ble_eq_true rfl⟩ ⟨Nat.le_of_ble_eq_true rfl, Nat.le_of_ble_eq_true rfl⟩) (fun r_67 H locs ws_64 h u_65 p_66 => ?_)
            obtain ⟨e_68, e_69, e_70⟩ := p_66
            refine y_icmp_eq (tgt := 57) C0 dX5_isWord_52 (by decide) (fun c_71 => ?_) (fun c_71 => ?_)
            · -- 52
              refine y_inc (kp := 0) (n := 1) (fun v_72 => [(2, .int v_72), (0, .ref (ad 77)), (1, .ref (Z.2.1 k1))]) C0 hl rfl (by decide) (by decide) (fun _ => rfl) (o61_161 (strLen_le k1) e_13 e_14 e_17 e_18 e_20 e_25 e_26 e_27 c_28 b_38 b_39 hn_37 e_44 e_45 e_46 c_47 e_55 e_56 q_57 e_59 (le_min x2_31) (le_max x2_31) (le_min v_11) (le_max v_11) (le_min v_15) (le_max v_15) (le_min v_19) (le_max v_19) (le_min r_24) (le_max r_24) (le_min r_43) (le_max r_43) (le_min v_53) (le_max v_53) (le_min v_58) (le_max v_58)) (o61_162 (strLen_le k1) e_13 e_14 e_17 e_18 e_20 e_25 e_26 e_27 c_28 b_38 b_39 hn_37 e_44 e_45 e_46 c_47 e_55 e_56 q_57 e_59 (le_min x2_31) (le_max x2_31) (le_min v_11) (le_max v_11) (le_min v_15) (le_max v_15) (le_min v_19) (le_max v_19) (le_min r_24) (le_max r_24) (le_min r_43) (le_max r_43) (le_min v_53) (le_max v_53) (le_min v_58) (le_max v_58)) dX5_isWord_57 (fun v_72 ls e_73 hl => ?_)
              refine lv_goto (tgt := 28) C0.1 C0.2.1 dX5_isWord_60 (by decide) ?_
              have hv_74 : (aF 77 ws0) 4 = v_1.toInt := (aF_at (by decide) e_2)
              have hv_75 : (aF 77 ws0) 6 = v_11.toInt := (aF_at (by decide) e_12)
              have hv_76 : (aF 77 ws0) 5 = v_15.toInt := (aF_at (by decide) e_16)
              have hv_77 : (aF 77 ws0) 5 = v_53.toInt := (congrFun (aF_fr (M := []) (Fr.tr (Fr.tr u_22 hF_33) u_41) kSC_77 (by decide)) 5).symm.trans (aF_at (by decide) e_54)
              have ht_78 : T ((aF 77 ws0) 5 + x2_31.toInt).toNat = (chB k1 x2_31.toInt.toNat).toInt := by have q := (Tp.fr (M := []) hTp (Fr.tr (Fr.tr u_22 hF_33) u_41) kSC_78 (by decide)) v_58.toInt.toNat (o61_166 (strLen_le k1) e_13 e_14 e_17 e_18 e_20 e_25 e_26 e_27 c_28 b_38 b_39 hn_37 e_44 e_45 e_46 c_47 e_55 e_56 q_57 e_59 e_73); rw [e_61] at q; rw [show (aF 77 ws0) 5 + x2_31.toInt = v_58.toInt by omega, ← q, ← e_70]; omega
              exact ih_35 v_72 _ _ _ _ (o61_163 (strLen_le k1) e_13 e_14 e_17 e_18 e_20 e_25 e_26 e_27 c_28 b_38 b_39 hn_37 e_44 e_45 e_46 c_47 e_55 e_56 q_57 e_59 e_73) (o61_164 (strLen_le k1) e_13 e_14 e_17 e_18 e_20 e_25 e_26 e_27 c_28 b_38 b_39 hn_37 e_44 e_45 e_46 c_47 e_55 e_56 q_57 e_59 e_73) (o61_165 (strLen_le k1) e_13 e_14 e_17 e_18 e_20 e_25 e_26 e_27 c_28 b_38 b_39 hn_37 e_44 e_45 e_46 c_47 e_55 e_56 q_57 e_59 e_73) ((fun j hj => (show (j : Int) < x2_31.toInt ∨ j = x2_31.toInt.toNat by omega).elim (fun q => hWo j q) (fun q => by rw [q, ← ht_78]; congr 2; omega))) h (Fr.tr (Fr.tr hF_33 u_41) u_65) (lv_sub hl [0, 1, 2] rfl)
            · -- 52
              refine y_c1 (n := 0) C0 (by decide) dX5_isWord_55 (fun v_79 e_80 => ?_)
              have hv_81 : (aF 77 ws0) 4 = v_1.toInt := (aF_at (by decide) e_2)
              have hv_82 : (aF 77 ws0) 6 = v_11.toInt := (aF_at (by decide) e_12)
              have hv_83 : (aF 77 ws0) 5 = v_15.toInt := (aF_at (by decide) e_16)
              have hv_84 : (aF 77 ws0) 5 = v_53.toInt := (congrFun (aF_fr (M := []) (Fr.tr (Fr.tr u_22 hF_33) u_41) kSC_77 (by decide)) 5).symm.trans (aF_at (by decide) e_54)
              rw [hQ]
              exact y_zret C0 h (o61_37 e_80) (o61_42 e_80) (Fr.tr (Fr.tr (Fr.tr u_22 hF_33) u_41) u_65) ⟨(o61_37 e_80), (o61_42 e_80), (wI_0 (o61_39 e_80) (fun hw => by have a := hw.2.2 x2_31.toInt.toNat (by omega); have q := (Tp.fr (M := []) hTp (Fr.tr (Fr.tr u_22 hF_33) u_41) kSC_78 (by decide)) v_58.toInt.toNat (o61_167 (strLen_le k1) e_13 e_14 e_17 e_18 e_20 e_25 e_26 e_27 c_28 b_38 b_39 hn_37 e_44 e_45 e_46 c_47 e_55 e_56 q_57 e_59); rw [e_61] at q; rw [show (aF 77 ws0) 5 + ((x2_31.toInt.toNat : Nat) : Int) = v_58.toInt by omega, ← q, ← e_70] at a; omega))⟩ dX5_isWord_56
      exact lp_34 ((102 - v_29.toInt + 1).toNat) v_29 _ _ _ _ (o61_168 e_30) (o61_37 e_30) (o61_169 e_30) ((fun j hj => absurd hj (by omega))) h Fr.rf (lv_sub hl [0, 1, 2] rfl)
    · -- 21
      refine y_c1 (n := 0) C0 (by decide) dX5_isWord_24 (fun v_85 e_86 => ?_)
      have hv_87 : (aF 77 ws0) 4 = v_1.toInt := (aF_at (by decide) e_2)
      have hv_88 : (aF 77 ws0) 6 = v_11.toInt := (aF_at (by decide) e_12)
      have hv_89 : (aF 77 ws0) 5 = v_15.toInt := (aF_at (by decide) e_16)
      rw [hQ]
      exact y_zret C0 h (o61_37 e_86) (o61_42 e_86) u_22 ⟨(o61_37 e_86), (o61_42 e_86), (wI_0 (o61_39 e_86) (fun hw => by have a := hw.1; have b := hw.2.1; omega))⟩ dX5_isWord_25
