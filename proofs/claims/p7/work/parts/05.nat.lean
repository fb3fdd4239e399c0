/-! numbers as nI k: what branches say of them; rows that keep Nats -/
theorem cv_le {a b : Nat} (ha : a < 2 ^ 31) (hb : b < 2 ^ 31) (h : nI a ≤ nI b) : a ≤ b := (nI_leI ha hb).mp h
theorem cv_lt {a b : Nat} (ha : a < 2 ^ 31) (hb : b < 2 ^ 31) (h : nI a < nI b) : a < b := (nI_ltI ha hb).mp h
theorem cv_nle {a b : Nat} (ha : a < 2 ^ 31) (hb : b < 2 ^ 31) (h : ¬ nI a ≤ nI b) : b < a := Nat.lt_of_not_le (fun q => h ((nI_leI ha hb).mpr q))
theorem cv_nlt {a b : Nat} (ha : a < 2 ^ 31) (hb : b < 2 ^ 31) (h : ¬ nI a < nI b) : b ≤ a := Nat.le_of_not_lt (fun q => h ((nI_ltI ha hb).mpr q))
theorem cv_eq {a b : Nat} (ha : a < 2 ^ 31) (hb : b < 2 ^ 31) (h : nI a = nI b) : a = b := (nI_eq ha hb).mp h
theorem cv_ne {a b : Nat} (ha : a < 2 ^ 31) (hb : b < 2 ^ 31) (h : ¬ nI a = nI b) : a ≠ b := fun q => h ((nI_eq ha hb).mpr q)
def updN (f : Nat → Nat) (k v : Nat) : Nat → Nat := fun j => if j = k then v else f j
theorem updN_nI (f : Nat → Nat) (k v : Nat) : upd (fun j => nI (f j)) k (nI v) = (fun j => nI (updN f k v j)) := by
  funext j
  unfold upd updN
  split <;> rfl
theorem mn_min {a b : Nat} (ha : a < 2 ^ 31) (hb : b < 2 ^ 31) : (if nI b < nI a then nI b else nI a) = nI (min a b) := by
  by_cases h : nI b < nI a
  · rw [if_pos h]
    have := cv_lt hb ha h
    congr 1
    omega
  · rw [if_neg h]
    have := cv_nlt hb ha h
    congr 1
    omega
theorem mn_max {a b : Nat} (ha : a < 2 ^ 31) (hb : b < 2 ^ 31) : (if nI a < nI b then nI b else nI a) = nI (max a b) := by
  by_cases h : nI a < nI b
  · rw [if_pos h]
    have := cv_lt ha hb h
    congr 1
    omega
  · rw [if_neg h]
    have := cv_nlt ha hb h
    congr 1
    omega
section MM
variable {p : Program} {l : Launch} {e : Env} {R : Room} {s : State} {m : MethodId} {args : Array Value} {below : List Frame} {meth : Method} {c : Code} {H : Heap} {locs : List Loc} {cells slots : Nat} {Q : State → Prop}
variable {cc : ByteArray} {pc nL : Nat} {ls : Array Slot} {rest st0 : List Value} {G : GG} {A : Nat → Prop} {a : Nat} {ws : va_W} {own : String} {ret : Option FieldType} {index : Nat}
theorem m_mmin (C0 : Cx p s m args meth c own cc nL ret) (hls : ls.size = nL) (hl : Cond.methodLink own index yJ9_min_7cf53 ∈ lw_gd) (hstat : Cond.static yJ9_min_7cf53 ∈ lw_gd) (hini : Cond.initialized RJ9 ∈ lw_gd) (hcode : Cond.code yJ9_min_7cf53 cJ9_min_7cf53 2 (some .int) ∈ lw_gd) (hframes : 1 ≤ R.frames) (hlocals : (rest.map fun v => v.category).sum + 13 ≤ R.locals) (hc : cells ≤ R.cells) (hs : slots ≤ R.slots) {x y : Int32} (hdg : decode cc pc = .ok (.invokestatic index, 3))
    (kk : W p l e R s m args below meth c H locs cells slots Q (F0 m (pc + 3) ls (.int (if y < x then y else x) :: rest))) : W p l e R s m args below meth c H locs cells slots Q (F0 m pc ls (.int y :: .int x :: rest)) :=
  va_mmin C0.1 C0.2.1 (by rw [C0.2.2.1]; exact hls.symm) C0.2.2.2.1 (C0.2.2.2.2.1 _ hl) (C0.2.2.2.2.1 _ hstat) (C0.2.2.2.2.1 _ hini) (C0.2.2.2.2.1 _ hcode) hframes hlocals hc hs hdg kk
theorem m_mmax (C0 : Cx p s m args meth c own cc nL ret) (hls : ls.size = nL) (hl : Cond.methodLink own index yJ9_max_7cf53 ∈ lw_gd) (hstat : Cond.static yJ9_max_7cf53 ∈ lw_gd) (hini : Cond.initialized RJ9 ∈ lw_gd) (hcode : Cond.code yJ9_max_7cf53 cJ9_max_7cf53 2 (some .int) ∈ lw_gd) (hframes : 1 ≤ R.frames) (hlocals : (rest.map fun v => v.category).sum + 13 ≤ R.locals) (hc : cells ≤ R.cells) (hs : slots ≤ R.slots) {x y : Int32} (hdg : decode cc pc = .ok (.invokestatic index, 3))
    (kk : W p l e R s m args below meth c H locs cells slots Q (F0 m (pc + 3) ls (.int (if x < y then y else x) :: rest))) : W p l e R s m args below meth c H locs cells slots Q (F0 m pc ls (.int y :: .int x :: rest)) :=
  va_mmax C0.1 C0.2.1 (by rw [C0.2.2.1]; exact hls.symm) C0.2.2.2.1 (C0.2.2.2.2.1 _ hl) (C0.2.2.2.2.1 _ hstat) (C0.2.2.2.2.1 _ hini) (C0.2.2.2.2.1 _ hcode) hframes hlocals hc hs hdg kk
theorem m_mminL (C0 : Cx p s m args meth c own cc nL ret) (hls : ls.size = nL) (hl : Cond.methodLink own index yJ9_min_f86c9 ∈ lw_gd) (hstat : Cond.static yJ9_min_f86c9 ∈ lw_gd) (hini : Cond.initialized RJ9 ∈ lw_gd) (hcode : Cond.code yJ9_min_f86c9 cJ9_min_f86c9 4 (some .long) ∈ lw_gd) (hframes : 1 ≤ R.frames) (hlocals : (rest.map fun v => v.category).sum + 15 ≤ R.locals) (hc : cells ≤ R.cells) (hs : slots ≤ R.slots) {x y : Int64} (hdg : decode cc pc = .ok (.invokestatic index, 3))
    (kk : ∀ z : Int64, W p l e R s m args below meth c H locs cells slots Q (F0 m (pc + 3) ls (.long z :: rest))) : W p l e R s m args below meth c H locs cells slots Q (F0 m pc ls (.long y :: .long x :: rest)) :=
  va_mmin_long C0.1 C0.2.1 (by rw [C0.2.2.1]; exact hls.symm) C0.2.2.2.1 (C0.2.2.2.2.1 _ hl) (C0.2.2.2.2.1 _ hstat) (C0.2.2.2.2.1 _ hini) (C0.2.2.2.2.1 _ hcode) hframes hlocals hc hs hdg (kk _)
theorem m_mmaxL (C0 : Cx p s m args meth c own cc nL ret) (hls : ls.size = nL) (hl : Cond.methodLink own index yJ9_max_f86c9 ∈ lw_gd) (hstat : Cond.static yJ9_max_f86c9 ∈ lw_gd) (hini : Cond.initialized RJ9 ∈ lw_gd) (hcode : Cond.code yJ9_max_f86c9 cJ9_max_f86c9 4 (some .long) ∈ lw_gd) (hframes : 1 ≤ R.frames) (hlocals : (rest.map fun v => v.category).sum + 15 ≤ R.locals) (hc : cells ≤ R.cells) (hs : slots ≤ R.slots) {x y : Int64} (hdg : decode cc pc = .ok (.invokestatic index, 3))
    (kk : ∀ z : Int64, W p l e R s m args below meth c H locs cells slots Q (F0 m (pc + 3) ls (.long z :: rest))) : W p l e R s m args below meth c H locs cells slots Q (F0 m pc ls (.long y :: .long x :: rest)) :=
  va_mmax_long C0.1 C0.2.1 (by rw [C0.2.2.1]; exact hls.symm) C0.2.2.2.1 (C0.2.2.2.2.1 _ hl) (C0.2.2.2.2.1 _ hstat) (C0.2.2.2.2.1 _ hini) (C0.2.2.2.2.1 _ hcode) hframes hlocals hc hs hdg (kk _)
/-- arraycopy of the first k ints -/
theorem m_copyN (C0 : Cx p s m args meth c own cc nL ret) (h : Wd G A s H locs ws) (hls : ls.size = nL) (q0 q1 k : Nat) {a0 n0 n1 : Nat} {f g : Nat → Int32} {n : Int32} {ws' : va_W} (hlink : Cond.methodLink own index arraycopyName ∈ lw_gd) (hnat : Cond.native arraycopyName ∈ lw_gd) (hstat : Cond.static arraycopyName ∈ lw_gd) (hini : Cond.initialized "java/lang/System" ∈ lw_gd) (ha0 : ws[q0]? = some (a0, .inl (G.2 1, n0, .inl f))) (ha1 : ws[q1]? = some (a, .inl (G.2 1, n1, .inl g))) (hn : n = nI k) (hk : k < 2 ^ 31) (h4 : k ≤ n0) (h5 : k ≤ n1) (hw : ws.set q1 (a, .inl (G.2 1, n1, .inl (va_cpy f g 0 0 k))) = ws') (hframes : 1 ≤ R.frames) (hlocals : (rest.map fun v => v.category).sum + (nativeFrameWords "java/lang/System" "arraycopy" 5 + 11) ≤ R.locals) (hdg : decode cc pc = .ok (.invokestatic index, 3))
    (kk : ∀ (H1 : Heap) (locs1 : List Loc), Wd G A s H1 locs1 ws' → W p l e R s m args below meth c H1 locs1 cells slots Q (F0 m (pc + 3) ls rest)) : W p l e R s m args below meth c H locs cells slots Q (F0 m pc ls (.int n :: .int 0 :: .ref a :: .int 0 :: .ref a0 :: rest)) := by
  subst hn
  have e1 : (nI k).toNatClampNeg = k := nI_clamp hk
  have e0 : (0 : Int32).toNatClampNeg = 0 := by decide
  exact m_copyi C0 h hls q0 q1 hlink hnat hstat hini ha0 ha1 (by decide) (by decide) (nI_pos hk) (by rw [e0, e1]; omega) (by rw [e0, e1]; omega) (by rw [e0, e1]; exact hw) hframes hlocals hdg kk
end MM
