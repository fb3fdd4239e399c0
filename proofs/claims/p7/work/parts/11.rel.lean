/-! a city's streets lead to crossings -/
def Bit (ws : va_W) (i c d : Nat) : Prop := ((aI ws (i + 17) d) >>> (nI c &&& 31)) &&& 1 ≠ 0
def RelC (ws : va_W) (i : Nat) : Prop := ∀ d c : Nat, d < 4 → c < 25 → Bit ws i c d → 0 ≤ (c : Int) + (aI ws (i + 18) d).toInt ∧ (c : Int) + (aI ws (i + 18) d).toInt ≤ 24
def Rel (ws : va_W) : Prop := ∀ i, Kd SC i 1 → RelC ws i
theorem RelC.of {ws ws' : va_W} {i : Nat} (h : RelC ws i) (e1 : ∀ d, aI ws' (i + 17) d = aI ws (i + 17) d) (e2 : ∀ d, aI ws' (i + 18) d = aI ws (i + 18) d) : RelC ws' i := by
  intro d c hd hc hb
  unfold Bit at hb
  rw [e1] at hb
  rw [e2]
  exact h d c hd hc hb
theorem Rel.fr {ws ws' : va_W} {M : List Nat} (h : Rel ws) (hF : Fr SC M ws ws') (h1 : 14 ∉ M) (h2 : 15 ∉ M) : Rel ws' := fun i hi =>
  (h i hi).of (fun _ => hF.aI (rSC_1_17 hi) h1) (fun _ => hF.aI (rSC_1_18 hi) h2)
/-- a person can go by a turn -/
def dirN (ws : va_W) (i p t : Nat) : Nat := ((aI ws (i + 11) p + tTurn t) &&& 3).toInt.toNat
def CanGo (ws : va_W) (i p t : Nat) : Prop := Bit ws i (aI ws (i + 10) p).toInt.toNat (dirN ws i p t)
section OX
variable {p : Program} {l : Launch} {e : Env} {R : Room} {s : State} {m : MethodId} {args : Array Value} {below : List Frame} {meth : Method} {c : Code} {H : Heap} {locs : List Loc} {cells slots : Nat} {Q : State → Prop}
variable {cc : ByteArray} {pc nL : Nat} {ls : Array Slot} {rest st0 : List Value} {own : String} {ret : Option FieldType} {x y : Int32}
theorem y_ishrX (C0 : Cx p s m args meth c own cc nL ret) (hdg : decode cc pc = .ok (.ishr, 1)) (kk : ∀ z : Int32, z = x >>> (y &&& 31) → W p l e R s m args below meth c H locs cells slots Q (F0 m (pc + 1) ls (.int z :: rest))) : W p l e R s m args below meth c H locs cells slots Q (F0 m pc ls (.int y :: .int x :: rest)) := lv_ishr C0.1 C0.2.1 hdg (kk _ rfl)
theorem y_ishlX (C0 : Cx p s m args meth c own cc nL ret) (hdg : decode cc pc = .ok (.ishl, 1)) (kk : ∀ z : Int32, z = x <<< (y &&& 31) → W p l e R s m args below meth c H locs cells slots Q (F0 m (pc + 1) ls (.int z :: rest))) : W p l e R s m args below meth c H locs cells slots Q (F0 m pc ls (.int y :: .int x :: rest)) := lv_ishl C0.1 C0.2.1 hdg (kk _ rfl)
theorem y_iandX (C0 : Cx p s m args meth c own cc nL ret) (hdg : decode cc pc = .ok (.iand, 1)) (kk : ∀ z : Int32, z = x &&& y → W p l e R s m args below meth c H locs cells slots Q (F0 m (pc + 1) ls (.int z :: rest))) : W p l e R s m args below meth c H locs cells slots Q (F0 m pc ls (.int y :: .int x :: rest)) := lv_iand C0.1 C0.2.1 hdg (kk _ rfl)
theorem y_iorX (C0 : Cx p s m args meth c own cc nL ret) (hdg : decode cc pc = .ok (.ior, 1)) (kk : ∀ z : Int32, z = x ||| y → W p l e R s m args below meth c H locs cells slots Q (F0 m (pc + 1) ls (.int z :: rest))) : W p l e R s m args below meth c H locs cells slots Q (F0 m pc ls (.int y :: .int x :: rest)) := lv_ior C0.1 C0.2.1 hdg (kk _ rfl)
theorem y_ixorX (C0 : Cx p s m args meth c own cc nL ret) (hdg : decode cc pc = .ok (.ixor, 1)) (kk : ∀ z : Int32, z = x ^^^ y → W p l e R s m args below meth c H locs cells slots Q (F0 m (pc + 1) ls (.int z :: rest))) : W p l e R s m args below meth c H locs cells slots Q (F0 m pc ls (.int y :: .int x :: rest)) := lv_ixor C0.1 C0.2.1 hdg (kk _ rfl)
end OX
/-- what copying a Folk leaves: all cells but its own -/
def Out (lo n : Nat) (a b : va_W) : Prop := ∀ j, (j < lo ∨ lo + n ≤ j) → b[j]? = a[j]?
theorem Out.rf {lo n : Nat} {a : va_W} : Out lo n a a := fun _ _ => rfl
theorem Out.ud {lo n i : Nat} {a b c : va_W} (h : Out lo n a b) (g : Ud i b c) (h1 : lo ≤ i) (h2 : i < lo + n) : Out lo n a c := fun j hj => (g j (by omega)).trans (h j hj)
