/-! the tapes, as feed writes them -/
def shI (i : Nat) : Int32 := Int32.ofInt (24 - 8 * (i : Int))
def bX (v : Int32) (i : Nat) : Int32 := v >>> (shI i &&& 31)
def bC (v : Int32) (i : Nat) : Int := (bX v i).toInt8.toInt
def bM (v : Int32) (i : Nat) : Int := (bX v i &&& 255).toInt
theorem and255n (x : Int32) : (x &&& 255).toInt = x.toInt % 256 := by
  have h1 : (x &&& 255).toBitVec.toNat = x.toBitVec.toNat % 256 := by
    have e : (x &&& 255).toBitVec = x.toBitVec &&& 255#32 := rfl
    rw [e, BitVec.toNat_and, show (255#32).toNat = 2 ^ 8 - 1 from rfl, Nat.and_two_pow_sub_one_eq_mod]
  have h2 : (x &&& 255).toInt = (x &&& 255).toBitVec.toInt := rfl
  have h3 : x.toInt = x.toBitVec.toInt := rfl
  rw [h2, h3, BitVec.toInt_eq_toNat_cond, BitVec.toInt_eq_toNat_cond, h1]
  have := x.toBitVec.isLt
  split <;> split <;> omega
theorem b_sb (v : Int32) (i : Nat) : (0 ≤ bM v i ∧ bM v i ≤ 127 ∧ bC v i = bM v i) ∨ (128 ≤ bM v i ∧ bM v i ≤ 255 ∧ bC v i = bM v i - 256) := by
  unfold bM bC
  generalize bX v i = x
  rw [and255n, Int32.toInt_toInt8]
  have e : x.toInt.bmod (2 ^ 8) = if x.toInt % 256 < 128 then x.toInt % 256 else x.toInt % 256 - 256 := by
    show x.toInt.bmod 256 = _
    unfold Int.bmod
    rfl
  rw [e]
  split <;> omega
def selF (a b c d e : Int32) (k : Nat) : Int32 := if k < 4 then a else if k < 8 then b else if k < 12 then c else if k < 16 then d else e
def PutK (f0 f1 : Int) (ws u : va_W) (a : Int32) : Prop := ∀ j : Nat, j < 900 → (f0 ≤ (j : Int) → (j : Int) < f1 → (aI u 78 j).toInt = bC a ((j : Int) - f0).toNat) ∧ (((j : Int) < f0 ∨ f1 ≤ (j : Int)) → aI u 78 j = aI ws 78 j)
theorem PutK.rf {f0 : Int} {ws : va_W} {a : Int32} : PutK f0 f0 ws ws a := fun j _ => ⟨fun h1 h2 => by omega, fun _ => rfl⟩
theorem sh_of {x : Int32} {k : Nat} (h : x.toInt = 24 - 8 * (k : Int)) : x = shI k := by
  unfold shI; rw [← h, Int32.ofInt_toInt]
theorem PutK.s {f0 f1 f2 : Int} {ws a b c : va_W} {v x2 z y i w : Int32} (h : PutK f0 f1 ws a v) (u : UdA 78 i.toInt.toNat (vp_nar .byte y) a b) (u2 : UdF 77 2 w b c) (hi : i.toInt = f1) (hz : z = v >>> (x2 &&& 31)) (hy : y = z.toInt8.toInt32) (hx : 8 * f1 + x2.toInt = 8 * f0 + 24) (h0 : f0 ≤ f1) (hn : 0 ≤ f0) (hf : f2 = f1 + 1) : PutK f0 f2 ws c v := by
  intro j hj
  have e : aI c 78 j = aI b 78 j := aI_of (u2.1 78 (by decide))
  rw [e]
  by_cases q : (j : Int) = f1
  · refine ⟨fun h1 h2 => ?_, fun h1 => by omega⟩
    have ej : j = i.toInt.toNat := by omega
    rw [ej, u.2.1, vp_nar_byte]
    have ek : x2 = shI ((j : Int) - f0).toNat := sh_of (by omega)
    rw [← ej]
    unfold bC bX
    rw [← ek, ← hz]
    have hb : y.toInt = z.toInt8.toInt := by rw [hy, Int8.toInt_toInt32]
    have b1 := Int8.le_toInt z.toInt8
    have b2 := Int8.toInt_lt z.toInt8
    rw [by_id (by omega) (by omega), hb]
  · have g := h j hj
    have en : aI b 78 j = aI a 78 j := u.2.2 j (by omega)
    rw [en]
    exact ⟨fun h1 h2 => g.1 h1 (by omega), fun h1 => g.2 (by omega)⟩
theorem PutK.cast {a b a' b' : Int} {ws u : va_W} {v : Int32} (h : PutK a b ws u v) (h1 : a = a') (h2 : b = b') : PutK a' b' ws u v := by subst h1; subst h2; exact h
def FdC (f0 f1 : Int) (ws u : va_W) (a1 a2 a3 a4 a5 : Int32) : Prop := ∀ j : Nat, j < 900 → (f0 ≤ (j : Int) → (j : Int) < f1 → (aI u 78 j).toInt = bC (selF a1 a2 a3 a4 a5 ((j : Int) - f0).toNat) (((j : Int) - f0).toNat % 4)) ∧ (((j : Int) < f0 ∨ f1 ≤ (j : Int)) → aI u 78 j = aI ws 78 j)
theorem FdC.five {f0 : Int} {w1 w2 w3 w4 w5 w6 : va_W} {a1 a2 a3 a4 a5 : Int32} (h1 : PutK f0 (f0 + 4) w1 w2 a1) (h2 : PutK (f0 + 4) (f0 + 8) w2 w3 a2) (h3 : PutK (f0 + 8) (f0 + 12) w3 w4 a3) (h4 : PutK (f0 + 12) (f0 + 16) w4 w5 a4) (h5 : PutK (f0 + 16) (f0 + 20) w5 w6 a5) : FdC f0 (f0 + 20) w1 w6 a1 a2 a3 a4 a5 := by
  intro j hj
  have g1 := h1 j hj
  have g2 := h2 j hj
  have g3 := h3 j hj
  have g4 := h4 j hj
  have g5 := h5 j hj
  refine ⟨fun q1 q2 => ?_, fun q => by rw [g5.2 (by omega), g4.2 (by omega), g3.2 (by omega), g2.2 (by omega), g1.2 (by omega)]⟩
  unfold selF
  by_cases c1 : (j : Int) < f0 + 4
  · rw [g5.2 (by omega), g4.2 (by omega), g3.2 (by omega), g2.2 (by omega), g1.1 (by omega) (by omega), if_pos (by omega)]; congr 1; omega
  · by_cases c2 : (j : Int) < f0 + 8
    · rw [g5.2 (by omega), g4.2 (by omega), g3.2 (by omega), g2.1 (by omega) (by omega), if_neg (by omega), if_pos (by omega)]; congr 1; omega
    · by_cases c3 : (j : Int) < f0 + 12
      · rw [g5.2 (by omega), g4.2 (by omega), g3.1 (by omega) (by omega), if_neg (by omega), if_neg (by omega), if_pos (by omega)]; congr 1; omega
      · by_cases c4 : (j : Int) < f0 + 16
        · rw [g5.2 (by omega), g4.1 (by omega) (by omega), if_neg (by omega), if_neg (by omega), if_neg (by omega), if_pos (by omega)]; congr 1; omega
        · rw [g5.1 (by omega) (by omega), if_neg (by omega), if_neg (by omega), if_neg (by omega), if_neg (by omega)]; congr 1; omega
def FdK (f0 f1 : Int) (ws u : va_W) (a1 a2 a3 a4 a5 : Int32) : Prop := ∀ j : Nat, j < 900 → (f0 ≤ (j : Int) → (j : Int) < f1 → (aI u 3 j).toInt = bM (selF a1 a2 a3 a4 a5 ((j : Int) - f0).toNat) (((j : Int) - f0).toNat % 4)) ∧ (((j : Int) < f0 ∨ f1 ≤ (j : Int)) → aI u 3 j = aI ws 3 j)
theorem FdK.i {f0 f1 : Int} {ws u : va_W} {a1 a2 a3 a4 a5 : Int32} (e : f1 = f0) (h : ∀ j, aI u 3 j = aI ws 3 j) : FdK f0 f1 ws u a1 a2 a3 a4 a5 := fun j _ => ⟨fun h1 h2 => by omega, fun _ => h j⟩
theorem FdK.s {f0 f1 f2 : Int} {ws a b c : va_W} {a1 a2 a3 a4 a5 v z y i w x2 m : Int32} (h : FdK f0 f1 ws a a1 a2 a3 a4 a5) (u : UdA 3 i.toInt.toNat y a b) (u2 : UdF 0 5 w b c) (hi : i.toInt = f1) (hz : z = v >>> (x2 &&& 31)) (hm : m.toInt = 255) (hy : y = z &&& m) (hx : x2.toInt = 24 - 8 * ((f1 - f0) % 4)) (hv : v = selF a1 a2 a3 a4 a5 (f1 - f0).toNat) (h0 : f0 ≤ f1) (hn : 0 ≤ f0) (hf : f2 = f1 + 1) : FdK f0 f2 ws c a1 a2 a3 a4 a5 := by
  intro j hj
  have e : aI c 3 j = aI b 3 j := aI_of (u2.1 3 (by decide))
  rw [e]
  by_cases q : (j : Int) = f1
  · refine ⟨fun h1 h2 => ?_, fun h1 => by omega⟩
    have ej : j = i.toInt.toNat := by omega
    have ek : x2 = shI (((j : Int) - f0).toNat % 4) := sh_of (by omega)
    obtain rfl : m = 255 := Int32.toInt_inj.mp hm
    have e2 : aI b 3 j = y := by rw [ej]; exact u.2.1
    rw [e2, hy, hz, hv, ek]
    unfold bM bX
    rw [← q]
  · have g := h j hj
    have en : aI b 3 j = aI a 3 j := u.2.2 j (by omega)
    rw [en]
    exact ⟨fun h1 h2 => g.1 h1 (by omega), fun h1 => g.2 (by omega)⟩
/-- the tapes alike -/
def Tq (a b : va_W) : Prop := ∀ j : Nat, j < 900 → (0 ≤ (aI b 3 j).toInt ∧ (aI b 3 j).toInt ≤ 127 ∧ (aI a 78 j).toInt = (aI b 3 j).toInt) ∨ (128 ≤ (aI b 3 j).toInt ∧ (aI b 3 j).toInt ≤ 255 ∧ (aI a 78 j).toInt = (aI b 3 j).toInt - 256)
theorem Tq.feed {f0 f1 : Int} {a b c d : va_W} {a1 a2 a3 a4 a5 : Int32} (h : Tq a b) (h1 : FdC f0 f1 a c a1 a2 a3 a4 a5) (h2 : FdK f0 f1 b d a1 a2 a3 a4 a5) : Tq c d := by
  intro j hj
  have g1 := h1 j hj
  have g2 := h2 j hj
  by_cases q : f0 ≤ (j : Int) ∧ (j : Int) < f1
  · rw [g1.1 q.1 q.2, g2.1 q.1 q.2]; exact b_sb _ _
  · rw [g1.2 (by omega), g2.2 (by omega)]; exact h j hj
theorem Tq.same {a b c d : va_W} (h : Tq a b) (h1 : ∀ j, aI c 78 j = aI a 78 j) (h2 : ∀ j, aI d 3 j = aI b 3 j) : Tq c d := fun j hj => by rw [h1, h2]; exact h j hj
def tC (a : va_W) (j : Nat) : Int := if j < 900 then (aI a 78 j).toInt else 0
def tM (b : va_W) (j : Nat) : Int := if j < 900 then (aI b 3 j).toInt else 0
theorem tC_tp (a : va_W) : Tp (tC a) a := fun j hj => by unfold tC; rw [if_pos hj]
theorem tM_tp (b : va_W) : TpM (tM b) b := fun j hj => by unfold tM; rw [if_pos hj]
theorem Tq.sb {a b : va_W} (h : Tq a b) : Sb (tC a) (tM b) := fun j => by
  unfold tC tM
  by_cases q : j < 900
  · rw [if_pos q, if_pos q]; exact h j q
  · rw [if_neg q, if_neg q]; exact Or.inl ⟨by decide, by decide, rfl⟩
section I2B
variable {p : Program} {l : Launch} {e : Env} {R : Room} {s : State} {m : MethodId} {args : Array Value} {below : List Frame} {meth : Method} {c : Code} {H : Heap} {locs : List Loc} {cells slots : Nat} {Q : State → Prop}
variable {cc : ByteArray} {pc nL : Nat} {ls : Array Slot} {rest : List Value} {own : String} {ret : Option FieldType} {x : Int32}
theorem y_i2bX (C0 : Cx p s m args meth c own cc nL ret) (hdg : decode cc pc = .ok (.i2b, 1)) (kk : ∀ z : Int32, z = x.toInt8.toInt32 → W p l e R s m args below meth c H locs cells slots Q (F0 m (pc + 1) ls (.int z :: rest))) : W p l e R s m args below meth c H locs cells slots Q (F0 m pc ls (.int x :: rest)) := lv_i2b C0.1 C0.2.1 hdg rfl (kk _ rfl)
end I2B
