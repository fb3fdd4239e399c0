/-! rows that say what a number is by its whole number -/
theorem t_add {x y : Int32} (h1 : -2147483648 ≤ x.toInt + y.toInt) (h2 : x.toInt + y.toInt ≤ 2147483647) : (x + y).toInt = x.toInt + y.toInt := by
  rw [Int32.toInt_add]; exact Int.bmod_eq_of_le_mul_two (by omega) (by omega)
theorem t_sub {x y : Int32} (h1 : -2147483648 ≤ x.toInt - y.toInt) (h2 : x.toInt - y.toInt ≤ 2147483647) : (x - y).toInt = x.toInt - y.toInt := by
  rw [Int32.toInt_sub]; exact Int.bmod_eq_of_le_mul_two (by omega) (by omega)
theorem t_mul {x y : Int32} (h1 : -2147483648 ≤ x.toInt * y.toInt) (h2 : x.toInt * y.toInt ≤ 2147483647) : (x * y).toInt = x.toInt * y.toInt := by
  rw [Int32.toInt_mul]
  generalize x.toInt * y.toInt = z at h1 h2 ⊢
  exact Int.bmod_eq_of_le_mul_two (by omega) (by omega)
theorem t_neg {x : Int32} (h1 : -2147483648 < x.toInt) : (-x).toInt = -x.toInt := by
  have h2 := Int32.toInt_lt x
  rw [Int32.toInt_neg]; exact Int.bmod_eq_of_le_mul_two (by omega) (by omega)
theorem t_nn {x : Int32} (h : 0 ≤ x.toInt) : x = nI x.toInt.toNat ∧ x.toInt.toNat < 2 ^ 31 := nI_int (n := 2 ^ 31) h (by have := Int32.toInt_lt x; omega)
theorem t_div {x y : Int32} (hx : 0 ≤ x.toInt) (hy : 0 < y.toInt) : (x / y).toInt = x.toInt / y.toInt := by
  obtain ⟨e1, b1⟩ := t_nn hx
  obtain ⟨e2, b2⟩ := t_nn (x := y) (by omega)
  have h : x / y = nI (x.toInt.toNat / y.toInt.toNat) := by
    conv => lhs; rw [e1, e2]
    exact pk_div b1 (by omega) b2
  rw [h, nI_toInt (Nat.lt_of_le_of_lt (Nat.div_le_self _ _) b1)]
  have e3 : x.toInt = ((x.toInt.toNat : Nat) : Int) := by omega
  have e4 : y.toInt = ((y.toInt.toNat : Nat) : Int) := by omega
  rw [e3, e4]
  simp only [Int.toNat_natCast]
  exact Int.natCast_ediv _ _
theorem t_rem {x y : Int32} (hx : 0 ≤ x.toInt) (hy : 0 < y.toInt) : (x - x / y * y).toInt = x.toInt % y.toInt := by
  obtain ⟨e1, b1⟩ := t_nn hx
  obtain ⟨e2, b2⟩ := t_nn (x := y) (by omega)
  have h : x - x / y * y = nI (x.toInt.toNat % y.toInt.toNat) := by
    conv => lhs; rw [e1, e2]
    exact pk_rem b1 (by omega) b2
  rw [h, nI_toInt (Nat.lt_of_le_of_lt (Nat.mod_le _ _) b1)]
  have e3 : x.toInt = ((x.toInt.toNat : Nat) : Int) := by omega
  have e4 : y.toInt = ((y.toInt.toNat : Nat) : Int) := by omega
  rw [e3, e4]
  simp only [Int.toNat_natCast]
  exact Int.natCast_emod _ _
theorem t_and {x y : Int32} (c : Int32) (k : Nat) (hc : y.toInt = c.toInt) (hm : c.toBitVec.toNat = 2 ^ k - 1) (hk : k ≤ 30) : 0 ≤ (x &&& y).toInt ∧ (x &&& y).toInt ≤ 2 ^ k - 1 := by
  obtain rfl : y = c := Int32.toInt_inj.mp hc
  obtain ⟨j, h1, h2⟩ := pk_andE x (m := y) k hm
  have h3 : 2 ^ k ≤ 2 ^ 30 := Nat.pow_le_pow_right (by decide) hk
  have h4 : ((2 : Int) ^ k) = ((2 ^ k : Nat) : Int) := by simp
  rw [h2, nI_toInt (by omega), h4]
  omega
theorem t_shr {x y : Int32} (c : Int32) (k : Nat) (hc : y.toInt = c.toInt) (hm : ((c &&& 31).toBitVec.smod 32).toNat = k) : (x >>> (y &&& 31)).toInt = x.toInt / 2 ^ k := by
  obtain rfl : y = c := Int32.toInt_inj.mp hc
  rw [pk_shr x (y &&& 31) k hm, Int.shiftRight_eq_div_pow]
  simp
theorem t_ushr {x y : Int32} (c : Int32) (k : Nat) (hc : y.toInt = c.toInt) (hm : ((c.toUInt32 &&& Int32.toUInt32 31).toBitVec % 32).toNat = k) (hk : 1 ≤ k) : 0 ≤ ((x.toUInt32 >>> (y.toUInt32 &&& Int32.toUInt32 31)).toInt32).toInt ∧ ((x.toUInt32 >>> (y.toUInt32 &&& Int32.toUInt32 31)).toInt32).toInt ≤ 4294967295 / 2 ^ k := by
  obtain rfl : y = c := Int32.toInt_inj.mp hc
  have h := pk_ushr x y k hm
  generalize (x.toUInt32 >>> (y.toUInt32 &&& Int32.toUInt32 31)).toInt32 = z at h ⊢
  have hx : x.toBitVec.toNat ≤ 4294967295 := by have := x.toBitVec.isLt; omega
  have h2 : x.toBitVec.toNat / 2 ^ k ≤ 4294967295 / 2 ^ k := Nat.div_le_div_right hx
  have h3 : 2 ^ 1 ≤ 2 ^ k := Nat.pow_le_pow_right (by decide) hk
  have h4 : 4294967295 / 2 ^ k ≤ 4294967295 / 2 := Nat.div_le_div_left h3 (by decide)
  have h5 : z.toInt = (z.toBitVec.toNat : Int) := by
    show z.toBitVec.toInt = _
    rw [BitVec.toInt_eq_toNat_of_lt (by omega)]
  have h6 : (4294967295 : Int) / 2 ^ k = ((4294967295 / 2 ^ k : Nat) : Int) := by simp
  rw [h5, h6]
  omega
theorem t_ne0 {y : Int32} (h : y.toInt ≠ 0) : ¬ y = 0 := fun e => h (by rw [e]; decide)
theorem t_lcmp (a b : Int64) : ((lg_cmp a b).toInt = -1 ∧ a.toInt < b.toInt) ∨ ((lg_cmp a b).toInt = 0 ∧ a.toInt = b.toInt) ∨ ((lg_cmp a b).toInt = 1 ∧ b.toInt < a.toInt) := by
  unfold lg_cmp
  by_cases h : a > b
  · rw [if_pos h]
    exact Or.inr (Or.inr ⟨by decide, Int64.lt_iff_toInt_lt.mp h⟩)
  · rw [if_neg h]
    by_cases h2 : a = b
    · rw [if_pos h2]
      exact Or.inr (Or.inl ⟨by decide, by rw [h2]⟩)
    · rw [if_neg h2]
      refine Or.inl ⟨by decide, ?_⟩
      have h3 : ¬ b.toInt < a.toInt := fun q => h (Int64.lt_iff_toInt_lt.mpr q)
      have h4 : ¬ a.toInt = b.toInt := fun q => h2 (Int64.toInt_inj.mp q)
      omega
section OP
variable {p : Program} {l : Launch} {e : Env} {R : Room} {s : State} {m : MethodId} {args : Array Value} {below : List Frame} {meth : Method} {c : Code} {H : Heap} {locs : List Loc} {cells slots : Nat} {Q : State → Prop}
variable {cc : ByteArray} {pc nL : Nat} {ls : Array Slot} {rest st0 : List Value} {G : GG} {A : Nat → Prop} {ws : va_W} {own : String} {ret : Option FieldType} {S : Sp} {ad : Nat → Nat} {Z : RZ} {i κ k ci N index tgt : Nat} {off : Int} {x y : Int32} {a b : Int64}

theorem y_c1 {n : Int} (C0 : Cx p s m args meth c own cc nL ret) (hn : (Int32.ofInt n).toInt = n) (hdg : decode cc pc = .ok (.iconst n, 1)) (kk : ∀ z : Int32, z.toInt = n → W p l e R s m args below meth c H locs cells slots Q (F0 m (pc + 1) ls (.int z :: rest))) : W p l e R s m args below meth c H locs cells slots Q (F0 m pc ls rest) := lv_iconst C0.1 C0.2.1 hdg rfl (kk _ hn)
theorem y_c2 {n : Int} (C0 : Cx p s m args meth c own cc nL ret) (hn : ((Int8.ofInt n).toInt32).toInt = n) (hdg : decode cc pc = .ok (.bipush n, 2)) (kk : ∀ z : Int32, z.toInt = n → W p l e R s m args below meth c H locs cells slots Q (F0 m (pc + 2) ls (.int z :: rest))) : W p l e R s m args below meth c H locs cells slots Q (F0 m pc ls rest) := lv_bipush C0.1 C0.2.1 hdg rfl (kk _ hn)
theorem y_c3 {n : Int} (C0 : Cx p s m args meth c own cc nL ret) (hn : ((Int16.ofInt n).toInt32).toInt = n) (hdg : decode cc pc = .ok (.sipush n, 3)) (kk : ∀ z : Int32, z.toInt = n → W p l e R s m args below meth c H locs cells slots Q (F0 m (pc + 3) ls (.int z :: rest))) : W p l e R s m args below meth c H locs cells slots Q (F0 m pc ls rest) := lv_sipush C0.1 C0.2.1 hdg rfl (kk _ hn)
theorem y_c4 {n : Int} {v : Int32} (C0 : Cx p s m args meth c own cc nL ret) (hq : Cond.constant own index v ∈ lw_gd) (hn : v.toInt = n) (hdg : decode cc pc = .ok (.ldc index, 2)) (kk : ∀ z : Int32, z.toInt = n → W p l e R s m args below meth c H locs cells slots Q (F0 m (pc + 2) ls (.int z :: rest))) : W p l e R s m args below meth c H locs cells slots Q (F0 m pc ls rest) := lv_ldc C0.1 C0.2.1 C0.2.2.2.1 (C0.2.2.2.2.1 _ hq) hdg (kk _ hn)
theorem y_c5 {n : Int} {v : Int32} (C0 : Cx p s m args meth c own cc nL ret) (hq : Cond.constant own index v ∈ lw_gd) (hn : v.toInt = n) (hdg : decode cc pc = .ok (.ldc_w index, 3)) (kk : ∀ z : Int32, z.toInt = n → W p l e R s m args below meth c H locs cells slots Q (F0 m (pc + 3) ls (.int z :: rest))) : W p l e R s m args below meth c H locs cells slots Q (F0 m pc ls rest) := lv_ldcw C0.1 C0.2.1 C0.2.2.2.1 (C0.2.2.2.2.1 _ hq) hdg (kk _ hn)
theorem y_lc {n : Fin 2} {v : Int} (C0 : Cx p s m args meth c own cc nL ret) (hn : (Int64.ofNat (n : Nat)).toInt = v) (hdg : decode cc pc = .ok (.lconst n, 1)) (kk : ∀ z : Int64, z.toInt = v → W p l e R s m args below meth c H locs cells slots Q (F0 m (pc + 1) ls (.long z :: rest))) : W p l e R s m args below meth c H locs cells slots Q (F0 m pc ls rest) := lv_lconst C0.1 C0.2.1 hdg rfl (kk _ hn)
theorem y_lc2 {n : Int} {v : Int64} (C0 : Cx p s m args meth c own cc nL ret) (hq : Cond.constantLong own index v ∈ lw_gd) (hn : v.toInt = n) (hdg : decode cc pc = .ok (.ldc2_w index, 3)) (kk : ∀ z : Int64, z.toInt = n → W p l e R s m args below meth c H locs cells slots Q (F0 m (pc + 3) ls (.long z :: rest))) : W p l e R s m args below meth c H locs cells slots Q (F0 m pc ls rest) := lv_ldc2 C0.1 C0.2.1 C0.2.2.2.1 (C0.2.2.2.2.1 _ hq) hdg (kk _ hn)
theorem y_add (C0 : Cx p s m args meth c own cc nL ret) (h1 : -2147483648 ≤ x.toInt + y.toInt) (h2 : x.toInt + y.toInt ≤ 2147483647) (hdg : decode cc pc = .ok (.iadd, 1)) (kk : ∀ z : Int32, z.toInt = x.toInt + y.toInt → W p l e R s m args below meth c H locs cells slots Q (F0 m (pc + 1) ls (.int z :: rest))) : W p l e R s m args below meth c H locs cells slots Q (F0 m pc ls (.int y :: .int x :: rest)) := lv_iadd C0.1 C0.2.1 hdg (kk _ (t_add h1 h2))
theorem y_sub (C0 : Cx p s m args meth c own cc nL ret) (h1 : -2147483648 ≤ x.toInt - y.toInt) (h2 : x.toInt - y.toInt ≤ 2147483647) (hdg : decode cc pc = .ok (.isub, 1)) (kk : ∀ z : Int32, z.toInt = x.toInt - y.toInt → W p l e R s m args below meth c H locs cells slots Q (F0 m (pc + 1) ls (.int z :: rest))) : W p l e R s m args below meth c H locs cells slots Q (F0 m pc ls (.int y :: .int x :: rest)) := lv_isub C0.1 C0.2.1 hdg (kk _ (t_sub h1 h2))
theorem y_mul (C0 : Cx p s m args meth c own cc nL ret) (h1 : -2147483648 ≤ x.toInt * y.toInt) (h2 : x.toInt * y.toInt ≤ 2147483647) (hdg : decode cc pc = .ok (.imul, 1)) (kk : ∀ z : Int32, z.toInt = x.toInt * y.toInt → W p l e R s m args below meth c H locs cells slots Q (F0 m (pc + 1) ls (.int z :: rest))) : W p l e R s m args below meth c H locs cells slots Q (F0 m pc ls (.int y :: .int x :: rest)) := lv_imul C0.1 C0.2.1 hdg (kk _ (t_mul h1 h2))
theorem y_iaddU (C0 : Cx p s m args meth c own cc nL ret) (hdg : decode cc pc = .ok (.iadd, 1)) (kk : ∀ z : Int32, W p l e R s m args below meth c H locs cells slots Q (F0 m (pc + 1) ls (.int z :: rest))) : W p l e R s m args below meth c H locs cells slots Q (F0 m pc ls (.int y :: .int x :: rest)) := lv_iadd C0.1 C0.2.1 hdg (kk _)
theorem y_isubU (C0 : Cx p s m args meth c own cc nL ret) (hdg : decode cc pc = .ok (.isub, 1)) (kk : ∀ z : Int32, W p l e R s m args below meth c H locs cells slots Q (F0 m (pc + 1) ls (.int z :: rest))) : W p l e R s m args below meth c H locs cells slots Q (F0 m pc ls (.int y :: .int x :: rest)) := lv_isub C0.1 C0.2.1 hdg (kk _)
theorem y_imulU (C0 : Cx p s m args meth c own cc nL ret) (hdg : decode cc pc = .ok (.imul, 1)) (kk : ∀ z : Int32, W p l e R s m args below meth c H locs cells slots Q (F0 m (pc + 1) ls (.int z :: rest))) : W p l e R s m args below meth c H locs cells slots Q (F0 m pc ls (.int y :: .int x :: rest)) := lv_imul C0.1 C0.2.1 hdg (kk _)
theorem y_iandU (C0 : Cx p s m args meth c own cc nL ret) (hdg : decode cc pc = .ok (.iand, 1)) (kk : ∀ z : Int32, W p l e R s m args below meth c H locs cells slots Q (F0 m (pc + 1) ls (.int z :: rest))) : W p l e R s m args below meth c H locs cells slots Q (F0 m pc ls (.int y :: .int x :: rest)) := lv_iand C0.1 C0.2.1 hdg (kk _)
theorem y_iorU (C0 : Cx p s m args meth c own cc nL ret) (hdg : decode cc pc = .ok (.ior, 1)) (kk : ∀ z : Int32, W p l e R s m args below meth c H locs cells slots Q (F0 m (pc + 1) ls (.int z :: rest))) : W p l e R s m args below meth c H locs cells slots Q (F0 m pc ls (.int y :: .int x :: rest)) := lv_ior C0.1 C0.2.1 hdg (kk _)
theorem y_ixorU (C0 : Cx p s m args meth c own cc nL ret) (hdg : decode cc pc = .ok (.ixor, 1)) (kk : ∀ z : Int32, W p l e R s m args below meth c H locs cells slots Q (F0 m (pc + 1) ls (.int z :: rest))) : W p l e R s m args below meth c H locs cells slots Q (F0 m pc ls (.int y :: .int x :: rest)) := lv_ixor C0.1 C0.2.1 hdg (kk _)
theorem y_ishlU (C0 : Cx p s m args meth c own cc nL ret) (hdg : decode cc pc = .ok (.ishl, 1)) (kk : ∀ z : Int32, W p l e R s m args below meth c H locs cells slots Q (F0 m (pc + 1) ls (.int z :: rest))) : W p l e R s m args below meth c H locs cells slots Q (F0 m pc ls (.int y :: .int x :: rest)) := lv_ishl C0.1 C0.2.1 hdg (kk _)
theorem y_ishrU (C0 : Cx p s m args meth c own cc nL ret) (hdg : decode cc pc = .ok (.ishr, 1)) (kk : ∀ z : Int32, W p l e R s m args below meth c H locs cells slots Q (F0 m (pc + 1) ls (.int z :: rest))) : W p l e R s m args below meth c H locs cells slots Q (F0 m pc ls (.int y :: .int x :: rest)) := lv_ishr C0.1 C0.2.1 hdg (kk _)
theorem y_neg (C0 : Cx p s m args meth c own cc nL ret) (h1 : -2147483648 < x.toInt) (hdg : decode cc pc = .ok (.ineg, 1)) (kk : ∀ z : Int32, z.toInt = -x.toInt → W p l e R s m args below meth c H locs cells slots Q (F0 m (pc + 1) ls (.int z :: rest))) : W p l e R s m args below meth c H locs cells slots Q (F0 m pc ls (.int x :: rest)) := lv_ineg C0.1 C0.2.1 hdg (kk _ (t_neg h1))
theorem y_inegU (C0 : Cx p s m args meth c own cc nL ret) (hdg : decode cc pc = .ok (.ineg, 1)) (kk : ∀ z : Int32, W p l e R s m args below meth c H locs cells slots Q (F0 m (pc + 1) ls (.int z :: rest))) : W p l e R s m args below meth c H locs cells slots Q (F0 m pc ls (.int x :: rest)) := lv_ineg C0.1 C0.2.1 hdg (kk _)
theorem y_mulc {n : Int} (C0 : Cx p s m args meth c own cc nL ret) (hy : y.toInt = n) (h1 : -2147483648 ≤ x.toInt * n) (h2 : x.toInt * n ≤ 2147483647) (hdg : decode cc pc = .ok (.imul, 1)) (kk : ∀ z : Int32, z.toInt = x.toInt * n → W p l e R s m args below meth c H locs cells slots Q (F0 m (pc + 1) ls (.int z :: rest))) : W p l e R s m args below meth c H locs cells slots Q (F0 m pc ls (.int y :: .int x :: rest)) := lv_imul C0.1 C0.2.1 hdg (kk _ (by rw [← hy]; exact t_mul (by rw [hy]; exact h1) (by rw [hy]; exact h2)))
theorem y_cmul {n : Int} (C0 : Cx p s m args meth c own cc nL ret) (hx : x.toInt = n) (h1 : -2147483648 ≤ n * y.toInt) (h2 : n * y.toInt ≤ 2147483647) (hdg : decode cc pc = .ok (.imul, 1)) (kk : ∀ z : Int32, z.toInt = n * y.toInt → W p l e R s m args below meth c H locs cells slots Q (F0 m (pc + 1) ls (.int z :: rest))) : W p l e R s m args below meth c H locs cells slots Q (F0 m pc ls (.int y :: .int x :: rest)) := lv_imul C0.1 C0.2.1 hdg (kk _ (by rw [← hx]; exact t_mul (by rw [hx]; exact h1) (by rw [hx]; exact h2)))
theorem mul_bd {a b la ha lb hb : Int} (h1 : 0 ≤ la) (h2 : la ≤ a) (h3 : a ≤ ha) (h4 : 0 ≤ lb) (h5 : lb ≤ b) (h6 : b ≤ hb) : la * lb ≤ a * b ∧ a * b ≤ ha * hb :=
  ⟨Int.mul_le_mul h2 h5 h4 (by omega), Int.mul_le_mul h3 h6 (by omega) (by omega)⟩
theorem y_mulb {la ha lb hb : Int} (C0 : Cx p s m args meth c own cc nL ret) (h1 : 0 ≤ la) (h2 : la ≤ x.toInt) (h3 : x.toInt ≤ ha) (h4 : 0 ≤ lb) (h5 : lb ≤ y.toInt) (h6 : y.toInt ≤ hb) (h7 : ha * hb ≤ 2147483647) (hdg : decode cc pc = .ok (.imul, 1)) (kk : ∀ z : Int32, z.toInt = x.toInt * y.toInt → la * lb ≤ z.toInt → z.toInt ≤ ha * hb → W p l e R s m args below meth c H locs cells slots Q (F0 m (pc + 1) ls (.int z :: rest))) : W p l e R s m args below meth c H locs cells slots Q (F0 m pc ls (.int y :: .int x :: rest)) := lv_imul C0.1 C0.2.1 hdg (by have q := mul_bd h1 h2 h3 h4 h5 h6; have q0 : 0 ≤ la * lb := Int.mul_nonneg h1 h4; have t := t_mul (x := x) (y := y) (by omega) (by omega); exact kk _ t (by rw [t]; exact q.1) (by rw [t]; exact q.2))
theorem y_divc {n : Int} (C0 : Cx p s m args meth c own cc nL ret) (hy : y.toInt = n) (hn : 0 < n) (hx : 0 ≤ x.toInt) (hdg : decode cc pc = .ok (.idiv, 1)) (kk : ∀ z : Int32, z.toInt = x.toInt / n → W p l e R s m args below meth c H locs cells slots Q (F0 m (pc + 1) ls (.int z :: rest))) : W p l e R s m args below meth c H locs cells slots Q (F0 m pc ls (.int y :: .int x :: rest)) := lv_idiv C0.1 C0.2.1 hdg (t_ne0 (by omega)) (kk _ (by rw [← hy]; exact t_div hx (by omega)))
theorem y_remc {n : Int} (C0 : Cx p s m args meth c own cc nL ret) (hy : y.toInt = n) (hn : 0 < n) (hx : 0 ≤ x.toInt) (hdg : decode cc pc = .ok (.irem, 1)) (kk : ∀ z : Int32, z.toInt = x.toInt % n → W p l e R s m args below meth c H locs cells slots Q (F0 m (pc + 1) ls (.int z :: rest))) : W p l e R s m args below meth c H locs cells slots Q (F0 m pc ls (.int y :: .int x :: rest)) := lv_irem C0.1 C0.2.1 hdg (t_ne0 (by omega)) (kk _ (by rw [← hy]; exact t_rem hx (by omega)))
theorem y_div (C0 : Cx p s m args meth c own cc nL ret) (hy : 0 < y.toInt) (hx : 0 ≤ x.toInt) (hdg : decode cc pc = .ok (.idiv, 1)) (kk : ∀ z : Int32, 0 ≤ z.toInt → z.toInt ≤ x.toInt → W p l e R s m args below meth c H locs cells slots Q (F0 m (pc + 1) ls (.int z :: rest))) : W p l e R s m args below meth c H locs cells slots Q (F0 m pc ls (.int y :: .int x :: rest)) := lv_idiv C0.1 C0.2.1 hdg (t_ne0 (by omega)) (kk _ (by rw [t_div hx hy]; exact Int.ediv_nonneg hx (by omega)) (by rw [t_div hx hy]; exact Int.ediv_le_self _ hx))
theorem y_rem (C0 : Cx p s m args meth c own cc nL ret) (hy : 0 < y.toInt) (hx : 0 ≤ x.toInt) (hdg : decode cc pc = .ok (.irem, 1)) (kk : ∀ z : Int32, 0 ≤ z.toInt → z.toInt < y.toInt → W p l e R s m args below meth c H locs cells slots Q (F0 m (pc + 1) ls (.int z :: rest))) : W p l e R s m args below meth c H locs cells slots Q (F0 m pc ls (.int y :: .int x :: rest)) := lv_irem C0.1 C0.2.1 hdg (t_ne0 (by omega)) (kk _ (by rw [t_rem hx hy]; exact Int.emod_nonneg _ (by omega)) (by rw [t_rem hx hy]; exact Int.emod_lt_of_pos _ hy))
theorem y_divU (C0 : Cx p s m args meth c own cc nL ret) (hy : y.toInt ≠ 0) (hdg : decode cc pc = .ok (.idiv, 1)) (kk : ∀ z : Int32, W p l e R s m args below meth c H locs cells slots Q (F0 m (pc + 1) ls (.int z :: rest))) : W p l e R s m args below meth c H locs cells slots Q (F0 m pc ls (.int y :: .int x :: rest)) := lv_idiv C0.1 C0.2.1 hdg (t_ne0 hy) (kk _)
theorem y_remU (C0 : Cx p s m args meth c own cc nL ret) (hy : y.toInt ≠ 0) (hdg : decode cc pc = .ok (.irem, 1)) (kk : ∀ z : Int32, W p l e R s m args below meth c H locs cells slots Q (F0 m (pc + 1) ls (.int z :: rest))) : W p l e R s m args below meth c H locs cells slots Q (F0 m pc ls (.int y :: .int x :: rest)) := lv_irem C0.1 C0.2.1 hdg (t_ne0 hy) (kk _)
theorem y_and (c0 : Int32) (k0 : Nat) {n : Int} (C0 : Cx p s m args meth c own cc nL ret) (hc : y.toInt = c0.toInt) (hm : c0.toBitVec.toNat = 2 ^ k0 - 1) (hk : k0 ≤ 30) (hn : (2 : Int) ^ k0 - 1 = n) (hdg : decode cc pc = .ok (.iand, 1)) (kk : ∀ z : Int32, 0 ≤ z.toInt → z.toInt ≤ n → W p l e R s m args below meth c H locs cells slots Q (F0 m (pc + 1) ls (.int z :: rest))) : W p l e R s m args below meth c H locs cells slots Q (F0 m pc ls (.int y :: .int x :: rest)) := lv_iand C0.1 C0.2.1 hdg (by have q := t_and (x := x) c0 k0 hc hm hk; exact kk _ q.1 (by rw [← hn]; exact q.2))
theorem y_shr (c0 : Int32) (k0 : Nat) {n : Int} (C0 : Cx p s m args meth c own cc nL ret) (hc : y.toInt = c0.toInt) (hm : ((c0 &&& 31).toBitVec.smod 32).toNat = k0) (hn : (2 : Int) ^ k0 = n) (hdg : decode cc pc = .ok (.ishr, 1)) (kk : ∀ z : Int32, z.toInt = x.toInt / n → W p l e R s m args below meth c H locs cells slots Q (F0 m (pc + 1) ls (.int z :: rest))) : W p l e R s m args below meth c H locs cells slots Q (F0 m pc ls (.int y :: .int x :: rest)) := lv_ishr C0.1 C0.2.1 hdg (kk _ (by rw [← hn]; exact t_shr c0 k0 hc hm))
theorem y_ushr (c0 : Int32) (k0 : Nat) {n : Int} (C0 : Cx p s m args meth c own cc nL ret) (hc : y.toInt = c0.toInt) (hm : ((c0.toUInt32 &&& Int32.toUInt32 31).toBitVec % 32).toNat = k0) (hk : 1 ≤ k0) (hn : (4294967295 : Int) / 2 ^ k0 = n) (hdg : decode cc pc = .ok (.iushr, 1)) (kk : ∀ z : Int32, 0 ≤ z.toInt → z.toInt ≤ n → W p l e R s m args below meth c H locs cells slots Q (F0 m (pc + 1) ls (.int z :: rest))) : W p l e R s m args below meth c H locs cells slots Q (F0 m pc ls (.int y :: .int x :: rest)) := lv_iushr C0.1 C0.2.1 hdg rfl (by have q := t_ushr (x := x) c0 k0 hc hm hk; exact kk _ q.1 (by rw [← hn]; exact q.2))
theorem y_iushrU (C0 : Cx p s m args meth c own cc nL ret) (hdg : decode cc pc = .ok (.iushr, 1)) (kk : ∀ z : Int32, W p l e R s m args below meth c H locs cells slots Q (F0 m (pc + 1) ls (.int z :: rest))) : W p l e R s m args below meth c H locs cells slots Q (F0 m pc ls (.int y :: .int x :: rest)) := lv_iushr C0.1 C0.2.1 hdg rfl (kk _)
theorem y_i2b (C0 : Cx p s m args meth c own cc nL ret) (hdg : decode cc pc = .ok (.i2b, 1)) (kk : ∀ z : Int32, -128 ≤ z.toInt → z.toInt ≤ 127 → W p l e R s m args below meth c H locs cells slots Q (F0 m (pc + 1) ls (.int z :: rest))) : W p l e R s m args below meth c H locs cells slots Q (F0 m pc ls (.int x :: rest)) := lv_i2b C0.1 C0.2.1 hdg rfl (by have q := nar_by x; rw [vp_nar_byte] at q; exact kk _ q.1 q.2)
theorem y_i2sU (C0 : Cx p s m args meth c own cc nL ret) (hdg : decode cc pc = .ok (.i2s, 1)) (kk : ∀ z : Int32, W p l e R s m args below meth c H locs cells slots Q (F0 m (pc + 1) ls (.int z :: rest))) : W p l e R s m args below meth c H locs cells slots Q (F0 m pc ls (.int x :: rest)) := lv_i2s C0.1 C0.2.1 hdg rfl (kk _)
theorem y_i2c (C0 : Cx p s m args meth c own cc nL ret) (hdg : decode cc pc = .ok (.i2c, 1)) (kk : ∀ z : Int32, 0 ≤ z.toInt → z.toInt ≤ 65535 → W p l e R s m args below meth c H locs cells slots Q (F0 m (pc + 1) ls (.int z :: rest))) : W p l e R s m args below meth c H locs cells slots Q (F0 m pc ls (.int x :: rest)) := lv_i2c C0.1 C0.2.1 hdg (pk_char x) (kk _ (by rw [nI_toInt (by omega)]; omega) (by rw [nI_toInt (by omega)]; omega))
theorem y_i2l (C0 : Cx p s m args meth c own cc nL ret) (hdg : decode cc pc = .ok (.i2l, 1)) (kk : ∀ z : Int64, z.toInt = x.toInt → W p l e R s m args below meth c H locs cells slots Q (F0 m (pc + 1) ls (.long z :: rest))) : W p l e R s m args below meth c H locs cells slots Q (F0 m pc ls (.int x :: rest)) := lv_i2l C0.1 C0.2.1 hdg rfl (kk _ (Int32.toInt_toInt64 x))
theorem y_l2i (C0 : Cx p s m args meth c own cc nL ret) (h1 : -2147483648 ≤ a.toInt) (h2 : a.toInt ≤ 2147483647) (hdg : decode cc pc = .ok (.l2i, 1)) (kk : ∀ z : Int32, z.toInt = a.toInt → W p l e R s m args below meth c H locs cells slots Q (F0 m (pc + 1) ls (.int z :: rest))) : W p l e R s m args below meth c H locs cells slots Q (F0 m pc ls (.long a :: rest)) := lv_l2i C0.1 C0.2.1 hdg rfl (kk _ (by rw [Int64.toInt_toInt32]; exact Int.bmod_eq_of_le_mul_two (by omega) (by omega)))
theorem y_l2iU (C0 : Cx p s m args meth c own cc nL ret) (hdg : decode cc pc = .ok (.l2i, 1)) (kk : ∀ z : Int32, W p l e R s m args below meth c H locs cells slots Q (F0 m (pc + 1) ls (.int z :: rest))) : W p l e R s m args below meth c H locs cells slots Q (F0 m pc ls (.long a :: rest)) := lv_l2i C0.1 C0.2.1 hdg rfl (kk _)
theorem y_laddU (C0 : Cx p s m args meth c own cc nL ret) (hdg : decode cc pc = .ok (.ladd, 1)) (kk : ∀ z : Int64, W p l e R s m args below meth c H locs cells slots Q (F0 m (pc + 1) ls (.long z :: rest))) : W p l e R s m args below meth c H locs cells slots Q (F0 m pc ls (.long b :: .long a :: rest)) := lv_ladd C0.1 C0.2.1 hdg (kk _)
theorem y_lsubU (C0 : Cx p s m args meth c own cc nL ret) (hdg : decode cc pc = .ok (.lsub, 1)) (kk : ∀ z : Int64, W p l e R s m args below meth c H locs cells slots Q (F0 m (pc + 1) ls (.long z :: rest))) : W p l e R s m args below meth c H locs cells slots Q (F0 m pc ls (.long b :: .long a :: rest)) := lv_lsub C0.1 C0.2.1 hdg (kk _)
theorem y_lmulU (C0 : Cx p s m args meth c own cc nL ret) (hdg : decode cc pc = .ok (.lmul, 1)) (kk : ∀ z : Int64, W p l e R s m args below meth c H locs cells slots Q (F0 m (pc + 1) ls (.long z :: rest))) : W p l e R s m args below meth c H locs cells slots Q (F0 m pc ls (.long b :: .long a :: rest)) := lv_lmul C0.1 C0.2.1 hdg (kk _)
theorem y_landU (C0 : Cx p s m args meth c own cc nL ret) (hdg : decode cc pc = .ok (.land, 1)) (kk : ∀ z : Int64, W p l e R s m args below meth c H locs cells slots Q (F0 m (pc + 1) ls (.long z :: rest))) : W p l e R s m args below meth c H locs cells slots Q (F0 m pc ls (.long b :: .long a :: rest)) := lv_land C0.1 C0.2.1 hdg (kk _)
theorem y_lorU (C0 : Cx p s m args meth c own cc nL ret) (hdg : decode cc pc = .ok (.lor, 1)) (kk : ∀ z : Int64, W p l e R s m args below meth c H locs cells slots Q (F0 m (pc + 1) ls (.long z :: rest))) : W p l e R s m args below meth c H locs cells slots Q (F0 m pc ls (.long b :: .long a :: rest)) := lv_lor C0.1 C0.2.1 hdg (kk _)
theorem y_lxorU (C0 : Cx p s m args meth c own cc nL ret) (hdg : decode cc pc = .ok (.lxor, 1)) (kk : ∀ z : Int64, W p l e R s m args below meth c H locs cells slots Q (F0 m (pc + 1) ls (.long z :: rest))) : W p l e R s m args below meth c H locs cells slots Q (F0 m pc ls (.long b :: .long a :: rest)) := lv_lxor C0.1 C0.2.1 hdg (kk _)
theorem y_lshlU (C0 : Cx p s m args meth c own cc nL ret) (hdg : decode cc pc = .ok (.lshl, 1)) (kk : ∀ z : Int64, W p l e R s m args below meth c H locs cells slots Q (F0 m (pc + 1) ls (.long z :: rest))) : W p l e R s m args below meth c H locs cells slots Q (F0 m pc ls (.int y :: .long a :: rest)) := lv_lshl C0.1 C0.2.1 hdg rfl (kk _)
theorem y_lshrU (C0 : Cx p s m args meth c own cc nL ret) (hdg : decode cc pc = .ok (.lshr, 1)) (kk : ∀ z : Int64, W p l e R s m args below meth c H locs cells slots Q (F0 m (pc + 1) ls (.long z :: rest))) : W p l e R s m args below meth c H locs cells slots Q (F0 m pc ls (.int y :: .long a :: rest)) := lv_lshr C0.1 C0.2.1 hdg rfl (kk _)
theorem y_lushrU (C0 : Cx p s m args meth c own cc nL ret) (hdg : decode cc pc = .ok (.lushr, 1)) (kk : ∀ z : Int64, W p l e R s m args below meth c H locs cells slots Q (F0 m (pc + 1) ls (.long z :: rest))) : W p l e R s m args below meth c H locs cells slots Q (F0 m pc ls (.int y :: .long a :: rest)) := lv_lushr C0.1 C0.2.1 hdg rfl (kk _)
theorem y_lcmp (C0 : Cx p s m args meth c own cc nL ret) (hdg : decode cc pc = .ok (.lcmp, 1)) (kk : ∀ z : Int32, ((z.toInt = -1 ∧ a.toInt < b.toInt) ∨ (z.toInt = 0 ∧ a.toInt = b.toInt) ∨ (z.toInt = 1 ∧ b.toInt < a.toInt)) → W p l e R s m args below meth c H locs cells slots Q (F0 m (pc + 1) ls (.int z :: rest))) : W p l e R s m args below meth c H locs cells slots Q (F0 m pc ls (.long b :: .long a :: rest)) := W.lcmp C0.1 C0.2.1 hdg (kk _ (t_lcmp a b))
theorem y_if_eq (C0 : Cx p s m args meth c own cc nL ret) (hdg : decode cc pc = .ok (.ifCond .eq off, 3)) (ht : (pc : Int) + off = (tgt : Int)) (kt : x.toInt = 0 → W p l e R s m args below meth c H locs cells slots Q (F0 m tgt ls rest)) (kf : ¬ x.toInt = 0 → W p l e R s m args below meth c H locs cells slots Q (F0 m (pc + 3) ls rest)) : W p l e R s m args below meth c H locs cells slots Q (F0 m pc ls (.int x :: rest)) := lv_if_eq C0.1 C0.2.1 hdg ht (fun q => kt (congrArg Int32.toInt q)) (fun q => kf (fun w => q (Int32.toInt_inj.mp w)))
theorem y_icmp_eq (C0 : Cx p s m args meth c own cc nL ret) (hdg : decode cc pc = .ok (.if_icmp .eq off, 3)) (ht : (pc : Int) + off = (tgt : Int)) (kt : x.toInt = y.toInt → W p l e R s m args below meth c H locs cells slots Q (F0 m tgt ls rest)) (kf : ¬ x.toInt = y.toInt → W p l e R s m args below meth c H locs cells slots Q (F0 m (pc + 3) ls rest)) : W p l e R s m args below meth c H locs cells slots Q (F0 m pc ls (.int y :: .int x :: rest)) := lv_icmp_eq C0.1 C0.2.1 hdg ht (fun q => kt (congrArg Int32.toInt q)) (fun q => kf (fun w => q (Int32.toInt_inj.mp w)))
theorem y_if_ne (C0 : Cx p s m args meth c own cc nL ret) (hdg : decode cc pc = .ok (.ifCond .ne off, 3)) (ht : (pc : Int) + off = (tgt : Int)) (kt : ¬ x.toInt = 0 → W p l e R s m args below meth c H locs cells slots Q (F0 m tgt ls rest)) (kf : x.toInt = 0 → W p l e R s m args below meth c H locs cells slots Q (F0 m (pc + 3) ls rest)) : W p l e R s m args below meth c H locs cells slots Q (F0 m pc ls (.int x :: rest)) := lv_if_ne C0.1 C0.2.1 hdg ht (fun q => kt (fun w => q (Int32.toInt_inj.mp w))) (fun q => kf (congrArg Int32.toInt q))
theorem y_icmp_ne (C0 : Cx p s m args meth c own cc nL ret) (hdg : decode cc pc = .ok (.if_icmp .ne off, 3)) (ht : (pc : Int) + off = (tgt : Int)) (kt : ¬ x.toInt = y.toInt → W p l e R s m args below meth c H locs cells slots Q (F0 m tgt ls rest)) (kf : x.toInt = y.toInt → W p l e R s m args below meth c H locs cells slots Q (F0 m (pc + 3) ls rest)) : W p l e R s m args below meth c H locs cells slots Q (F0 m pc ls (.int y :: .int x :: rest)) := lv_icmp_ne C0.1 C0.2.1 hdg ht (fun q => kt (fun w => q (Int32.toInt_inj.mp w))) (fun q => kf (congrArg Int32.toInt q))
theorem y_if_lt (C0 : Cx p s m args meth c own cc nL ret) (hdg : decode cc pc = .ok (.ifCond .lt off, 3)) (ht : (pc : Int) + off = (tgt : Int)) (kt : x.toInt < 0 → W p l e R s m args below meth c H locs cells slots Q (F0 m tgt ls rest)) (kf : 0 ≤ x.toInt → W p l e R s m args below meth c H locs cells slots Q (F0 m (pc + 3) ls rest)) : W p l e R s m args below meth c H locs cells slots Q (F0 m pc ls (.int x :: rest)) := lv_if_lt C0.1 C0.2.1 hdg ht (fun q => kt (Int32.lt_iff_toInt_lt.mp q)) (fun q => kf (Int32.le_iff_toInt_le.mp (Int32.not_lt.mp q)))
theorem y_icmp_lt (C0 : Cx p s m args meth c own cc nL ret) (hdg : decode cc pc = .ok (.if_icmp .lt off, 3)) (ht : (pc : Int) + off = (tgt : Int)) (kt : x.toInt < y.toInt → W p l e R s m args below meth c H locs cells slots Q (F0 m tgt ls rest)) (kf : y.toInt ≤ x.toInt → W p l e R s m args below meth c H locs cells slots Q (F0 m (pc + 3) ls rest)) : W p l e R s m args below meth c H locs cells slots Q (F0 m pc ls (.int y :: .int x :: rest)) := lv_icmp_lt C0.1 C0.2.1 hdg ht (fun q => kt (Int32.lt_iff_toInt_lt.mp q)) (fun q => kf (Int32.le_iff_toInt_le.mp (Int32.not_lt.mp q)))
theorem y_if_ge (C0 : Cx p s m args meth c own cc nL ret) (hdg : decode cc pc = .ok (.ifCond .ge off, 3)) (ht : (pc : Int) + off = (tgt : Int)) (kt : 0 ≤ x.toInt → W p l e R s m args below meth c H locs cells slots Q (F0 m tgt ls rest)) (kf : x.toInt < 0 → W p l e R s m args below meth c H locs cells slots Q (F0 m (pc + 3) ls rest)) : W p l e R s m args below meth c H locs cells slots Q (F0 m pc ls (.int x :: rest)) := lv_if_ge C0.1 C0.2.1 hdg ht (fun q => kt (Int32.le_iff_toInt_le.mp q)) (fun q => kf (Int32.lt_iff_toInt_lt.mp (Int32.not_le.mp q)))
theorem y_icmp_ge (C0 : Cx p s m args meth c own cc nL ret) (hdg : decode cc pc = .ok (.if_icmp .ge off, 3)) (ht : (pc : Int) + off = (tgt : Int)) (kt : y.toInt ≤ x.toInt → W p l e R s m args below meth c H locs cells slots Q (F0 m tgt ls rest)) (kf : x.toInt < y.toInt → W p l e R s m args below meth c H locs cells slots Q (F0 m (pc + 3) ls rest)) : W p l e R s m args below meth c H locs cells slots Q (F0 m pc ls (.int y :: .int x :: rest)) := lv_icmp_ge C0.1 C0.2.1 hdg ht (fun q => kt (Int32.le_iff_toInt_le.mp q)) (fun q => kf (Int32.lt_iff_toInt_lt.mp (Int32.not_le.mp q)))
theorem y_if_gt (C0 : Cx p s m args meth c own cc nL ret) (hdg : decode cc pc = .ok (.ifCond .gt off, 3)) (ht : (pc : Int) + off = (tgt : Int)) (kt : 0 < x.toInt → W p l e R s m args below meth c H locs cells slots Q (F0 m tgt ls rest)) (kf : x.toInt ≤ 0 → W p l e R s m args below meth c H locs cells slots Q (F0 m (pc + 3) ls rest)) : W p l e R s m args below meth c H locs cells slots Q (F0 m pc ls (.int x :: rest)) := lv_if_gt C0.1 C0.2.1 hdg ht (fun q => kt (Int32.lt_iff_toInt_lt.mp q)) (fun q => kf (Int32.le_iff_toInt_le.mp (Int32.not_lt.mp q)))
theorem y_icmp_gt (C0 : Cx p s m args meth c own cc nL ret) (hdg : decode cc pc = .ok (.if_icmp .gt off, 3)) (ht : (pc : Int) + off = (tgt : Int)) (kt : y.toInt < x.toInt → W p l e R s m args below meth c H locs cells slots Q (F0 m tgt ls rest)) (kf : x.toInt ≤ y.toInt → W p l e R s m args below meth c H locs cells slots Q (F0 m (pc + 3) ls rest)) : W p l e R s m args below meth c H locs cells slots Q (F0 m pc ls (.int y :: .int x :: rest)) := lv_icmp_gt C0.1 C0.2.1 hdg ht (fun q => kt (Int32.lt_iff_toInt_lt.mp q)) (fun q => kf (Int32.le_iff_toInt_le.mp (Int32.not_lt.mp q)))
theorem y_if_le (C0 : Cx p s m args meth c own cc nL ret) (hdg : decode cc pc = .ok (.ifCond .le off, 3)) (ht : (pc : Int) + off = (tgt : Int)) (kt : x.toInt ≤ 0 → W p l e R s m args below meth c H locs cells slots Q (F0 m tgt ls rest)) (kf : 0 < x.toInt → W p l e R s m args below meth c H locs cells slots Q (F0 m (pc + 3) ls rest)) : W p l e R s m args below meth c H locs cells slots Q (F0 m pc ls (.int x :: rest)) := lv_if_le C0.1 C0.2.1 hdg ht (fun q => kt (Int32.le_iff_toInt_le.mp q)) (fun q => kf (Int32.lt_iff_toInt_lt.mp (Int32.not_le.mp q)))
theorem y_icmp_le (C0 : Cx p s m args meth c own cc nL ret) (hdg : decode cc pc = .ok (.if_icmp .le off, 3)) (ht : (pc : Int) + off = (tgt : Int)) (kt : x.toInt ≤ y.toInt → W p l e R s m args below meth c H locs cells slots Q (F0 m tgt ls rest)) (kf : y.toInt < x.toInt → W p l e R s m args below meth c H locs cells slots Q (F0 m (pc + 3) ls rest)) : W p l e R s m args below meth c H locs cells slots Q (F0 m pc ls (.int y :: .int x :: rest)) := lv_icmp_le C0.1 C0.2.1 hdg ht (fun q => kt (Int32.le_iff_toInt_le.mp q)) (fun q => kf (Int32.lt_iff_toInt_lt.mp (Int32.not_le.mp q)))
theorem y_inc {j kp : Nat} {n : Int} {lv : List (Nat × Value)} (lv' : Int32 → List (Nat × Value)) (C0 : Cx p s m args meth c own cc nL ret) (h : lv_has ls nL lv) (hk : lv[kp]? = some (j, .int x)) (hn : (Int32.ofInt n).toInt = n) (hi : j < nL) (hl : ∀ z : Int32, (j, Value.int z) :: lv.filter (fun q => !(q.1 == j) && !(q.1 + 1 == j && q.2.category == 2)) = lv' z) (h1 : -2147483648 ≤ x.toInt + n) (h2 : x.toInt + n ≤ 2147483647) (hdg : decode cc pc = .ok (.iinc j n, 3)) (kk : ∀ (z : Int32) (ls' : Array Slot), z.toInt = x.toInt + n → lv_has ls' nL (lv' z) → W p l e R s m args below meth c H locs cells slots Q (F0 m (pc + 3) ls' rest)) : W p l e R s m args below meth c H locs cells slots Q (F0 m pc ls rest) := lv_iinc C0.1 C0.2.1 hdg h hk rfl hi (hl _) (fun ls' h' => kk _ ls' (by have q := t_add (x := x) (y := Int32.ofInt n) (by rw [hn]; exact h1) (by rw [hn]; exact h2); rw [hn] at q; exact q) h')
theorem y_incU {j kp : Nat} {n : Int} {lv : List (Nat × Value)} (lv' : Int32 → List (Nat × Value)) (C0 : Cx p s m args meth c own cc nL ret) (h : lv_has ls nL lv) (hk : lv[kp]? = some (j, .int x)) (hi : j < nL) (hl : ∀ z : Int32, (j, Value.int z) :: lv.filter (fun q => !(q.1 == j) && !(q.1 + 1 == j && q.2.category == 2)) = lv' z) (hdg : decode cc pc = .ok (.iinc j n, 3)) (kk : ∀ (z : Int32) (ls' : Array Slot), lv_has ls' nL (lv' z) → W p l e R s m args below meth c H locs cells slots Q (F0 m (pc + 3) ls' rest)) : W p l e R s m args below meth c H locs cells slots Q (F0 m pc ls rest) := lv_iinc C0.1 C0.2.1 hdg h hk rfl hi (hl _) (fun ls' h' => kk _ ls' h')
/-- TURNED[turn] -/
theorem tT_bd (j : Nat) : 0 ≤ (tTurn j).toInt ∧ (tTurn j).toInt ≤ 3 := by
  match j with
  | 0 => exact ⟨by decide, by decide⟩
  | 1 => exact ⟨by decide, by decide⟩
  | 2 => exact ⟨by decide, by decide⟩
  | j + 3 => exact (⟨by decide, by decide⟩ : 0 ≤ (2 : Int32).toInt ∧ (2 : Int32).toInt ≤ 3)
theorem y_turned (C0 : Cx p s m args meth c own cc nL ret) (hZ : Ro Z A s s.heap) (h : Wt G S ad A s H locs ws) (hl : va_Nw (.fieldLinkNest own index "LeftTurns" "TURNED" "[I" "LeftTurns") s) (hdg : decode cc pc = .ok (.getstatic index, 3))
    (kk : W p l e R s m args below meth c H locs cells slots Q (F0 m (pc + 3) ls (.ref Z.1 :: rest))) : W p l e R s m args below meth c H locs cells slots Q (F0 m pc ls rest) :=
  va_getsN C0.1 C0.2.1 hZ.1.1 h.1.2.2.2.1 C0.2.2.2.1 (va_Nw.use rfl hl) (fun _ h9 => h9) hdg kk
theorem y_tald (C0 : Cx p s m args meth c own cc nL ret) (hZ : Ro Z A s s.heap) (h : Wt G S ad A s H locs ws) (h0 : 0 ≤ x.toInt) (h1 : x.toInt < 4) (hdg : decode cc pc = .ok (.iaload, 1))
    (kk : ∀ v : Int32, v = tTurn x.toInt.toNat → 0 ≤ v.toInt → v.toInt ≤ 3 → W p l e R s m args below meth c H locs cells slots Q (F0 m (pc + 1) ls (.int v :: rest))) : W p l e R s m args below meth c H locs cells slots Q (F0 m pc ls (.int x :: .ref Z.1 :: rest)) := by
  obtain ⟨e1, e2⟩ := nI_int (n := 4) h0 h1
  refine va_sld C0.1 C0.2.1 hZ.1.2.1 hZ.1.2.2.1 hZ.1.2.2.2 h.1.2.2.2.1 (by rw [e1]; exact vp_in_nI e2 (by decide)) hdg ?_
  exact kk (tTurn x.toInt.toNat) rfl (tT_bd _).1 (tT_bd _).2
/-- Math.max, Math.min -/
theorem y_max (C0 : Cx p s m args meth c own cc nL ret) (hls : ls.size = nL) (hl : Cond.methodLink own index yJ9_max_7cf53 ∈ lw_gd) (hstat : Cond.static yJ9_max_7cf53 ∈ lw_gd) (hini : Cond.initialized RJ9 ∈ lw_gd) (hcode : Cond.code yJ9_max_7cf53 cJ9_max_7cf53 2 (some .int) ∈ lw_gd) (hframes : 1 ≤ R.frames) (hlocals : (rest.map fun v => v.category).sum + 13 ≤ R.locals) (hc : cells ≤ R.cells) (hs : slots ≤ R.slots) (hdg : decode cc pc = .ok (.invokestatic index, 3))
    (kk : ∀ z : Int32, ((z.toInt = x.toInt ∧ y.toInt ≤ x.toInt) ∨ (z.toInt = y.toInt ∧ x.toInt ≤ y.toInt)) → W p l e R s m args below meth c H locs cells slots Q (F0 m (pc + 3) ls (.int z :: rest))) : W p l e R s m args below meth c H locs cells slots Q (F0 m pc ls (.int y :: .int x :: rest)) := by
  refine m_mmax C0 hls hl hstat hini hcode hframes hlocals hc hs hdg (kk _ ?_)
  by_cases q : x < y
  · rw [if_pos q]
    exact Or.inr ⟨rfl, Int.le_of_lt (Int32.lt_iff_toInt_lt.mp q)⟩
  · rw [if_neg q]
    exact Or.inl ⟨rfl, Int32.le_iff_toInt_le.mp (Int32.not_lt.mp q)⟩
theorem y_min (C0 : Cx p s m args meth c own cc nL ret) (hls : ls.size = nL) (hl : Cond.methodLink own index yJ9_min_7cf53 ∈ lw_gd) (hstat : Cond.static yJ9_min_7cf53 ∈ lw_gd) (hini : Cond.initialized RJ9 ∈ lw_gd) (hcode : Cond.code yJ9_min_7cf53 cJ9_min_7cf53 2 (some .int) ∈ lw_gd) (hframes : 1 ≤ R.frames) (hlocals : (rest.map fun v => v.category).sum + 13 ≤ R.locals) (hc : cells ≤ R.cells) (hs : slots ≤ R.slots) (hdg : decode cc pc = .ok (.invokestatic index, 3))
    (kk : ∀ z : Int32, ((z.toInt = x.toInt ∧ x.toInt ≤ y.toInt) ∨ (z.toInt = y.toInt ∧ y.toInt ≤ x.toInt)) → W p l e R s m args below meth c H locs cells slots Q (F0 m (pc + 3) ls (.int z :: rest))) : W p l e R s m args below meth c H locs cells slots Q (F0 m pc ls (.int y :: .int x :: rest)) := by
  refine m_mmin C0 hls hl hstat hini hcode hframes hlocals hc hs hdg (kk _ ?_)
  by_cases q : y < x
  · rw [if_pos q]
    exact Or.inr ⟨rfl, Int.le_of_lt (Int32.lt_iff_toInt_lt.mp q)⟩
  · rw [if_neg q]
    exact Or.inl ⟨rfl, Int32.le_iff_toInt_le.mp (Int32.not_lt.mp q)⟩
/-- System.arraycopy(src, 0, dst, 0, n) of ints -/
theorem y_copy {j μ n0 n1 : Nat} {el0 el1 : Nat → Int × Int} {n z0 z1 : Int32} (C0 : Cx p s m args meth c own cc nL ret) (h : Wt G S ad A s H locs ws) (hls : ls.size = nL) (hj : Kd S j μ) (hi : Kd S i κ) (hct0 : S.2.1 μ = .inl (1, n0, el0)) (hct1 : S.2.1 κ = .inl (1, n1, el1)) (hlink : Cond.methodLink own index arraycopyName ∈ lw_gd) (hnat : Cond.native arraycopyName ∈ lw_gd) (hstat : Cond.static arraycopyName ∈ lw_gd) (hini : Cond.initialized "java/lang/System" ∈ lw_gd) (e0 : z0.toInt = 0) (e1 : z1.toInt = 0) (h0 : 0 ≤ n.toInt) (hn0 : n.toInt ≤ n0) (hn1 : n.toInt ≤ n1) (hel : ∀ k : Nat, (k : Int) < n.toInt → (el1 k).1 ≤ (el0 k).1 ∧ (el0 k).2 ≤ (el1 k).2) (hframes : 1 ≤ R.frames) (hlocals : (rest.map fun v => v.category).sum + (nativeFrameWords "java/lang/System" "arraycopy" 5 + 11) ≤ R.locals) (hdg : decode cc pc = .ok (.invokestatic index, 3))
    (kk : ∀ (H1 : Heap) (locs1 : List Loc) (ws1 : va_W), Wt G S ad A s H1 locs1 ws1 → Ud i ws ws1 → (∀ k : Nat, (k : Int) < n.toInt → aI ws1 i k = aI ws j k) → (∀ k : Nat, n.toInt ≤ (k : Int) → aI ws1 i k = aI ws i k) → W p l e R s m args below meth c H1 locs1 cells slots Q (F0 m (pc + 3) ls rest)) : W p l e R s m args below meth c H locs cells slots Q (F0 m pc ls (.int n :: .int z1 :: .ref (ad i) :: .int z0 :: .ref (ad j) :: rest)) := by
  obtain rfl : z0 = 0 := Int32.toInt_inj.mp e0
  obtain rfl : z1 = 0 := Int32.toInt_inj.mp e1
  obtain ⟨f, g1, g2⟩ := h.2.ints hj hct0
  obtain ⟨f', g1', g2'⟩ := h.2.ints hi hct1
  obtain ⟨en, bn⟩ := t_nn h0
  have hlen : i < ws.length := by rw [h.2.1]; exact hi.1
  refine m_copyN C0 h.1 hls j i n.toInt.toNat hlink hnat hstat hini g1 g1' en bn (by omega) (by omega) rfl hframes hlocals hdg (fun H1 locs1 hw => kk H1 locs1 _ ⟨hw, ty_ints h.2 hi hct1 (fun k hk => ?_)⟩ Ud.set (fun k hk => ?_) (fun k hk => ?_))
  · by_cases q : k < n.toInt.toNat
    · rw [pk_cpy_in (Nat.zero_le _) (by omega)]
      have a1 := g2 (0 + (k - 0)) (by omega)
      have a2 := hel (0 + (k - 0)) (by omega)
      have e3 : 0 + (k - 0) = k := by omega
      rw [e3] at a1 a2 ⊢
      omega
    · rw [pk_cpy_out (Or.inr (by omega))]
      exact g2' k hk
  · unfold aI
    rw [List.getElem?_set_self hlen, g1]
    have e3 : 0 + (k - 0) = k := by omega
    show va_cpy f f' 0 0 _ k = f k
    rw [pk_cpy_in (Nat.zero_le _) (by omega), e3]
  · unfold aI
    rw [List.getElem?_set_self hlen, g1']
    show va_cpy f f' 0 0 _ k = f' k
    rw [pk_cpy_out (Or.inr (by omega))]
/-! ends -/
theorem y_fin {mc ms : Nat} {Qc : Array Value → State → Outcome → State → Prop} (hc : cells ≤ mc) (hs : slots ≤ ms) : True := trivial
theorem y_iret {M : List Nat} {post : Int32 → va_W → Prop} {ws0 : va_W} (C0 : Cx p s m args meth c own cc nL (some .int)) (h : Wt G S ad A s H locs ws) (hF : Fr S M ws0 ws) (hp : post x ws) (hdg : decode cc pc = .ok (.ireturn, 1)) :
    W p l e R s m args below meth c H locs 0 0 (MQ below (PI G S ad M ws0 post A) args s 0 0 A) (F0 m pc ls [.int x]) :=
  W.iret C0.1 C0.2.1 C0.2.2.2.2.2.1 (fun t ht hW => ⟨⟨x, ws, rfl, ⟨⟨h.2, hF⟩, hp⟩, by rw [ht]; exact h.1.2.1, h.1.2.2.1⟩, h.1.2.2.2.1.F ht⟩) h.1.2.2.2.1.2.2 hdg C0.2.2.2.2.2.2.1
theorem y_zret {M : List Nat} {post : Int32 → va_W → Prop} {ws0 : va_W} (C0 : Cx p s m args meth c own cc nL (some .boolean)) (h : Wt G S ad A s H locs ws) (h0 : 0 ≤ x.toInt) (h1 : x.toInt ≤ 1) (hF : Fr S M ws0 ws) (hp : post x ws) (hdg : decode cc pc = .ok (.ireturn, 1)) :
    W p l e R s m args below meth c H locs 0 0 (MQ below (PI G S ad M ws0 post A) args s 0 0 A) (F0 m pc ls [.int x]) :=
  W.zret C0.1 C0.2.1 C0.2.2.2.2.2.1 (nar_z h0 h1).2.1 (fun t ht hW => ⟨⟨x, ws, rfl, ⟨⟨h.2, hF⟩, hp⟩, by rw [ht]; exact h.1.2.1, h.1.2.2.1⟩, h.1.2.2.2.1.F ht⟩) h.1.2.2.2.1.2.2 hdg C0.2.2.2.2.2.2.1
theorem y_lret {M : List Nat} {post : Int64 → va_W → Prop} {ws0 : va_W} (C0 : Cx p s m args meth c own cc nL (some .long)) (h : Wt G S ad A s H locs ws) (hF : Fr S M ws0 ws) (hp : post a ws) (hdg : decode cc pc = .ok (.lreturn, 1)) :
    W p l e R s m args below meth c H locs 0 0 (MQ below (PL G S ad M ws0 post A) args s 0 0 A) (F0 m pc ls [.long a]) :=
  W.lret C0.1 C0.2.1 C0.2.2.2.2.2.1 (fun t ht hW => ⟨⟨a, ws, rfl, ⟨⟨h.2, hF⟩, hp⟩, by rw [ht]; exact h.1.2.1, h.1.2.2.1⟩, h.1.2.2.2.1.F ht⟩) h.1.2.2.2.1.2.2 hdg C0.2.2.2.2.2.2.1
theorem y_vret {M : List Nat} {post : va_W → Prop} {ws0 : va_W} (C0 : Cx p s m args meth c own cc nL none) (h : Wt G S ad A s H locs ws) (hF : Fr S M ws0 ws) (hp : post ws) (hdg : decode cc pc = .ok (.return_, 1)) :
    W p l e R s m args below meth c H locs 0 0 (MQ below (PV G S ad M ws0 post A) args s 0 0 A) (F0 m pc ls []) :=
  W.vret C0.1 C0.2.1 C0.2.2.2.2.2.1 (fun t ht hW => ⟨⟨ws, rfl, ⟨⟨h.2, hF⟩, hp⟩, by rw [ht]; exact h.1.2.1, h.1.2.2.1⟩, h.1.2.2.2.1.F ht⟩) h.1.2.2.2.1.2.2 hdg C0.2.2.2.2.2.2.1
/-! calls -/
theorem y_pre {av : List Value} (C0 : Cx p s m args meth c own cc nL ret) (hZ : Ro Z A s s.heap) (h : Wd G A s H locs ws) : ∀ U : State, U.heap = H → s.WarmedH U.vm → Pq G Z av ws H.size av.toArray U := fun U hU hW => by
  have hF : ∀ q, va_A ws H.size q → A q := fun q hq => by
    rcases hq with ⟨k, e, hk⟩ | hq
    · exact h.2.2.1.2 k _ hk
    · exact h.2.2.2.2 q (Nat.le_trans h.2.2.2.1.1 hq)
  refine ⟨rfl, ⟨by rw [hU], by rw [hU]; exact h.2.1, va_K.moved hW.alike h.1, h.2.2.1.weaken (fun _ _ _ _ => trivial), C0.2.2.2.2.2.2.2.moved hW⟩, ?_⟩
  rw [hU]
  exact ((hZ.kept h.2.2.2.1.1 h.2.2.2.1.2.1).warm hW).narrow hF
theorem y_back {H1 : Heap} {locs1 : List Loc} {u : va_W} {t : State} (h : Wd G A s H locs ws) (ht : t.heap = H1) (hB : Bw G (va_A ws H.size) u t) (hS : va_S A s.heap H1 locs1) : Wd G A s H1 locs1 u := by
  have hF : ∀ q, va_A ws H.size q → A q := fun q hq => by
    rcases hq with ⟨k, e, hk⟩ | hq
    · exact h.2.2.1.2 k _ hk
    · exact h.2.2.2.2 q (Nat.le_trans h.2.2.2.1.1 hq)
  obtain ⟨hP, hD⟩ := hB
  rw [ht] at hP
  exact ⟨h.1, hP, hD.weaken (fun k q _ h => hF q.1 h), hS, h.2.2.2.2⟩
theorem y_hf (h : Wd G A s H locs ws) : ∀ q, va_A ws H.size q → A q := fun q hq => by
  rcases hq with ⟨k, e, hk⟩ | hq
  · exact h.2.2.1.2 k _ hk
  · exact h.2.2.2.2 q (Nat.le_trans h.2.2.2.1.1 hq)
theorem y_rV {y : MethodName} {c2 : ByteArray} {n2 n d : Nat} {r2 : Option FieldType} {As : List Value} {Qp : QP} {vc : vw_C} {fts : List FT} (C0 : Cx p s m args meth c own cc nL ret) (hZ : Ro Z A s s.heap) (h : Wt G S ad A s H locs ws) (hM : Mq l y c2 n2 r2 d G Z (.ref (ad i) :: As) ws Qp) (hy : Yk y c2 n2 r2 n) (hin : Cond.instanceMethod y ∈ lw_gd) (hsel : Cond.selects y.cls y y ∈ lw_gd) (hl : Cond.methodLink own index y ∈ lw_gd) (hk : Kd S i κ) (hct : S.2.1 κ = .inr (.inr (.inr (ci, fts)))) (hc : vwCl[ci]? = some vc) (hvc : vc.1 = y.cls) (hls : ls.size = nL) (hn : As.length = n) (hst : st0 = As.reverse ++ .ref (ad i) :: rest) (hrest : (rest.map fun v => v.category).sum ≤ 8) (hdg : decode cc pc = .ok (.invokevirtual index, 3)) (hR : d + 1 ≤ R.frames ∧ 8 + (n2 + 11) + 64 * d ≤ R.locals) (hf : cells ≤ R.cells ∧ slots ≤ R.slots) :
    va_Run p l e R s m args below meth c H locs cells slots 0 0 (F0 m pc ls st0) rest (Qp (va_A ws H.size) (Value.ref (ad i) :: As).toArray) (va_A ws H.size) := by
  obtain ⟨fs, h1, h2, h3⟩ := h.2.obj hk hct
  obtain ⟨cell, r1, r2', r3⟩ := va_recv h.1.1 h.1.2.1 hc h1
  rw [hvc] at r3
  exact va_runV ⟨C0.1, C0.2.1, C0.2.2.1, C0.2.2.2.1, C0.2.2.2.2.1⟩ (hM H.size) ⟨hy.cb C0.2.2.2.2.1 hl hR, C0.2.2.2.2.1 _ hin, C0.2.2.2.2.1 _ hsel⟩ ⟨Pq.blind G Z _ ws H.size, ⟨cell, r1, r2', r3⟩, y_pre C0 hZ h.1⟩ rfl hn hls hst (lv_room hrest) hdg hf
theorem y_rVN {y : MethodName} {c2 : ByteArray} {n2 n d : Nat} {r2 : Option FieldType} {As : List Value} {Qp : QP} {vc : vw_C} {fts : List FT} {host : String} (C0 : Cx p s m args meth c own cc nL ret) (hZ : Ro Z A s s.heap) (h : Wt G S ad A s H locs ws) (hM : Mq l y c2 n2 r2 d G Z (.ref (ad i) :: As) ws Qp) (hy : Yk y c2 n2 r2 n) (hin : Cond.instanceMethod y ∈ lw_gd) (hsel : Cond.selects y.cls y y ∈ lw_gd) (hl : va_Nw (.methodLinkNest own index y host) s) (hk : Kd S i κ) (hct : S.2.1 κ = .inr (.inr (.inr (ci, fts)))) (hc : vwCl[ci]? = some vc) (hvc : vc.1 = y.cls) (hls : ls.size = nL) (hn : As.length = n) (hst : st0 = As.reverse ++ .ref (ad i) :: rest) (hrest : (rest.map fun v => v.category).sum ≤ 8) (hdg : decode cc pc = .ok (.invokevirtual index, 3)) (hR : d + 1 ≤ R.frames ∧ 8 + (n2 + 11) + 64 * d ≤ R.locals) (hf : cells ≤ R.cells ∧ slots ≤ R.slots) :
    va_Run p l e R s m args below meth c H locs cells slots 0 0 (F0 m pc ls st0) rest (Qp (va_A ws H.size) (Value.ref (ad i) :: As).toArray) (va_A ws H.size) := by
  obtain ⟨fs, h1, h2, h3⟩ := h.2.obj hk hct
  obtain ⟨cell, r1, r2', r3⟩ := va_recv h.1.1 h.1.2.1 hc h1
  rw [hvc] at r3
  exact va_runVN ⟨C0.1, C0.2.1, C0.2.2.1, C0.2.2.2.1, C0.2.2.2.2.1⟩ (hM H.size) ⟨hy.cn C0.2.2.2.2.1 hl hR, C0.2.2.2.2.1 _ hin, C0.2.2.2.2.1 _ hsel⟩ ⟨Pq.blind G Z _ ws H.size, ⟨cell, r1, r2', r3⟩, y_pre C0 hZ h.1⟩ rfl hn hls hst (lv_room hrest) hdg hf
theorem y_rS {y : MethodName} {c2 : ByteArray} {n2 n d : Nat} {r2 : Option FieldType} {As : List Value} {Qp : QP} (C0 : Cx p s m args meth c own cc nL ret) (hZ : Ro Z A s s.heap) (h : Wt G S ad A s H locs ws) (hM : Mq l y c2 n2 r2 d G Z As ws Qp) (hy : Yk y c2 n2 r2 n) (hstat : Cond.static y ∈ lw_gd) (hl : Cond.methodLink own index y ∈ lw_gd) (hls : ls.size = nL) (hn : As.length = n) (hst : st0 = As.reverse ++ rest) (hrest : (rest.map fun v => v.category).sum ≤ 8) (hdg : decode cc pc = .ok (.invokestatic index, 3)) (hR : d + 1 ≤ R.frames ∧ 8 + (n2 + 11) + 64 * d ≤ R.locals) (hf : cells ≤ R.cells ∧ slots ≤ R.slots) :
    va_Run p l e R s m args below meth c H locs cells slots 0 0 (F0 m pc ls st0) rest (Qp (va_A ws H.size) As.toArray) (va_A ws H.size) :=
  va_runS ⟨C0.1, C0.2.1, C0.2.2.1, C0.2.2.2.1, C0.2.2.2.2.1⟩ (hM H.size) ⟨hy.cb C0.2.2.2.2.1 hl hR, C0.2.2.2.2.1 _ hstat⟩ ⟨Pq.blind G Z _ ws H.size, y_pre C0 hZ h.1⟩ rfl hn hls hst (lv_room hrest) hdg hf
theorem y_ci {M : List Nat} {post : Int32 → va_W → Prop} {av : Array Value} (h : Wt G S ad A s H locs ws) (hr : va_Run p l e R s m args below meth c H locs cells slots 0 0 (F0 m pc ls st0) rest (PI G S ad M ws post (va_A ws H.size) av) (va_A ws H.size))
    (kk : ∀ (r : Int32) (H1 : Heap) (locs1 : List Loc) (ws1 : va_W), Wt G S ad A s H1 locs1 ws1 → Fr S M ws ws1 → post r ws1 → W p l e R s m args below meth c H1 locs1 cells slots Q (F0 m (pc + 3) ls (.int r :: rest))) : W p l e R s m args below meth c H locs cells slots Q (F0 m pc ls st0) := by
  refine va_calli hr h.1.2.2.2.1 (fun q _ hq => y_hf h.1 q hq) (y_hf h.1) (fun r u t H1 locs1 ht _ hp hB _ hk hS => ?_)
  exact kk r H1 locs1 u ⟨y_back h.1 ht hB hS, hp.1.1⟩ hp.1.2 hp.2
theorem y_cl {M : List Nat} {post : Int64 → va_W → Prop} {av : Array Value} (h : Wt G S ad A s H locs ws) (hr : va_Run p l e R s m args below meth c H locs cells slots 0 0 (F0 m pc ls st0) rest (PL G S ad M ws post (va_A ws H.size) av) (va_A ws H.size))
    (kk : ∀ (r : Int64) (H1 : Heap) (locs1 : List Loc) (ws1 : va_W), Wt G S ad A s H1 locs1 ws1 → Fr S M ws ws1 → post r ws1 → W p l e R s m args below meth c H1 locs1 cells slots Q (F0 m (pc + 3) ls (.long r :: rest))) : W p l e R s m args below meth c H locs cells slots Q (F0 m pc ls st0) := by
  refine va_calll hr h.1.2.2.2.1 (fun q _ hq => y_hf h.1 q hq) (y_hf h.1) (fun r u t H1 locs1 ht _ hp hB _ hk hS => ?_)
  exact kk r H1 locs1 u ⟨y_back h.1 ht hB hS, hp.1.1⟩ hp.1.2 hp.2
theorem y_cv {M : List Nat} {post : va_W → Prop} {av : Array Value} (h : Wt G S ad A s H locs ws) (hr : va_Run p l e R s m args below meth c H locs cells slots 0 0 (F0 m pc ls st0) rest (PV G S ad M ws post (va_A ws H.size) av) (va_A ws H.size))
    (kk : ∀ (H1 : Heap) (locs1 : List Loc) (ws1 : va_W), Wt G S ad A s H1 locs1 ws1 → Fr S M ws ws1 → post ws1 → W p l e R s m args below meth c H1 locs1 cells slots Q (F0 m (pc + 3) ls rest)) : W p l e R s m args below meth c H locs cells slots Q (F0 m pc ls st0) := by
  refine va_callv hr h.1.2.2.2.1 (fun q _ hq => y_hf h.1 q hq) (y_hf h.1) (fun u t H1 locs1 ht _ hp hB _ hk hS => ?_)
  exact kk H1 locs1 u ⟨y_back h.1 ht hB hS, hp.1.1⟩ hp.1.2 hp.2
end OP
