/-! the reference's parser: rows -/
section OC
variable {p : Program} {l : Launch} {e : Env} {R : Room} {s : State} {m : MethodId} {args : Array Value} {below : List Frame} {meth : Method} {c : Code} {H : Heap} {locs : List Loc} {cells slots : Nat} {Q : State → Prop}
variable {cc : ByteArray} {pc nL : Nat} {ls : Array Slot} {rest st0 : List Value} {own : String} {ret : Option FieldType} {x y : Int32}
theorem y_i2cX (C0 : Cx p s m args meth c own cc nL ret) (hdg : decode cc pc = .ok (.i2c, 1)) (kk : ∀ z : Int32, z = (x.toUInt32 % 65536).toInt32 → 0 ≤ z.toInt → z.toInt ≤ 65535 → W p l e R s m args below meth c H locs cells slots Q (F0 m (pc + 1) ls (.int z :: rest))) : W p l e R s m args below meth c H locs cells slots Q (F0 m pc ls (.int x :: rest)) :=
  lv_i2c C0.1 C0.2.1 hdg rfl (kk _ rfl (by rw [pk_char, nI_toInt (by omega)]; omega) (by rw [pk_char, nI_toInt (by omega)]; omega))
end OC
theorem ch101 {k : Nat} {j v m w r : Int32} (e1 : v = chB k j.toInt.toNat) (e2 : m.toInt = 255) (e3 : w = v &&& m) (e4 : r = (w.toUInt32 % 65536).toInt32) : k = 22 → j.toInt = 101 → r.toInt = 32 := by
  intro hk hj
  obtain rfl : m = 255 := Int32.toInt_inj.mp e2
  subst hk
  rw [hj] at e1
  subst e1; subst e3; subst e4
  decide +kernel
/-- the codes that a parser has laid -/
def nC (ws : va_W) : Nat := (aI ws 4 873).toInt.toNat
def gC (ws : va_W) (k : Nat) : Int32 := aI ws 4 (874 + k)
def wr (ws : va_W) : Int := (fI ws 0 11).toInt
def Ext (m : Nat) (a b : va_W) : Prop := wr b = 0 → wr a = 0 ∧ nC a ≤ nC b ∧ (∀ k, k < nC a → gC b k = gC a k) ∧ Wf (fun k => gC b (nC a + k)) (nC b - nC a) ∧ dep (fun k => gC b (nC a + k)) (nC b - nC a) = m
def Cod (a b : va_W) (c : Int32) : Prop := wr b = wr a ∧ (wr a = 0 → nC b = nC a + 1 ∧ gC b (nC a) = c ∧ ∀ k, k ≠ nC a → gC b k = gC a k)
theorem dep_app (f : Nat → Int32) (n : Nat) : ∀ j, Wf (fun k => f (n + k)) j → dep f (n + j) = dep f n + dep (fun k => f (n + k)) j
  | 0, _ => rfl
  | j + 1, h => by
    have ih := dep_app f n j (fun k hk h3 => h k (by omega) h3)
    show dep f (n + j + 1) = _
    unfold dep
    rw [ih]
    by_cases q : (f (n + j)).toInt < 3000
    · rw [if_pos q, if_pos q]; omega
    · rw [if_neg q, if_neg q]
      by_cases q2 : (f (n + j)).toInt = 3008
      · rw [if_pos q2, if_pos q2]
      · rw [if_neg q2, if_neg q2]
        have := (h j (Nat.lt_succ_self j) (by omega)).2 q2
        omega
theorem wf_app (f : Nat → Int32) (n j : Nat) (h1 : Wf f n) (h2 : Wf (fun k => f (n + k)) j) : Wf f (n + j) := by
  intro k hk h3
  by_cases q : k < n
  · exact h1 k q h3
  · obtain ⟨i, rfl⟩ : ∃ i, k = n + i := ⟨k - n, by omega⟩
    have g := h2 i (by omega) h3
    rw [dep_app f n i (fun z hz hz3 => h2 z (by omega) hz3)]
    exact ⟨by omega, fun q2 => by have := g.2 q2; omega⟩
theorem wf_cg {f g : Nat → Int32} {n : Nat} (e : ∀ k, k < n → f k = g k) (h : Wf g n) : Wf f n := fun k hk h3 => by
  rw [dep_cg k (fun j hj => e j (by omega))]
  rw [e k hk] at h3 ⊢
  exact h k hk h3
theorem Ext.tr {m1 m2 : Nat} {a b c : va_W} (h : Ext m1 a b) (g : Ext m2 b c) : Ext (m1 + m2) a c := by
  intro hw
  obtain ⟨g1, g2, g3, g4, g5⟩ := g hw
  obtain ⟨h1, h2, h3, h4, h5⟩ := h g1
  have e1 : nC c - nC a = (nC b - nC a) + (nC c - nC b) := by omega
  have e2 : (fun k => gC c (nC a + ((nC b - nC a) + k))) = fun k => gC c (nC b + k) := funext fun k => by
    have : nC a + ((nC b - nC a) + k) = nC b + k := by omega
    rw [this]
  have e3 : ∀ k, k < nC b - nC a → gC c (nC a + k) = gC b (nC a + k) := fun k hk => g3 _ (by omega)
  refine ⟨h1, by omega, fun k hk => (g3 k (by omega)).trans (h3 k hk), ?_, ?_⟩
  · rw [e1]
    exact wf_app _ _ _ (wf_cg e3 h4) (by rw [e2]; exact g4)
  · rw [e1, dep_app (fun k => gC c (nC a + k)) (nC b - nC a) (nC c - nC b) (by show Wf (fun k => gC c (nC a + ((nC b - nC a) + k))) _; rw [e2]; exact g4), dep_cg _ e3, h5]
    show m1 + dep (fun k => gC c (nC a + ((nC b - nC a) + k))) _ = _
    rw [e2, g5]
theorem Ext.id {a b : va_W} (h : wr b = 0 → wr a = 0) (e : b[4]? = a[4]?) : Ext 0 a b := by
  intro hw
  have en : nC b = nC a := by unfold nC; rw [aI_of e]
  rw [en, Nat.sub_self]
  exact ⟨h hw, Nat.le_refl _, fun k _ => aI_of e, fun k hk => absurd hk (Nat.not_lt_zero k), rfl⟩
theorem Ext.bad {m : Nat} {a b : va_W} (h : ¬ wr b = 0) : Ext m a b := fun hw => absurd hw h
theorem Cod.ext {a b : va_W} {c : Int32} (h : Cod a b c) (m : Nat) (hm : ∀ d, wr a = 0 → True) : True := trivial
theorem ext_code {m n : Nat} {a b c : va_W} {x : Int32} (h : Ext m a b) (g : Cod b c x) (hx : (x.toInt < 3000 ∧ n = m + 1) ∨ (x.toInt = 3008 ∧ 1 ≤ m ∧ n = m) ∨ (3000 ≤ x.toInt ∧ x.toInt ≠ 3008 ∧ 2 ≤ m ∧ n = m - 1)) : Ext n a c := by
  intro hw
  rw [g.1] at hw
  obtain ⟨g1, g2, g3⟩ := g.2 hw
  obtain ⟨h1, h2, h3, h4, h5⟩ := h hw
  have e1 : nC c - nC a = (nC b - nC a) + 1 := by omega
  have e3 : ∀ k, k < nC b - nC a → gC c (nC a + k) = gC b (nC a + k) := fun k hk => g3 _ (by omega)
  have e4 : gC c (nC a + (nC b - nC a)) = x := by
    have : nC a + (nC b - nC a) = nC b := by omega
    rw [this]; exact g2
  have ed := dep_cg (f := fun k => gC c (nC a + k)) (g := fun k => gC b (nC a + k)) (nC b - nC a) e3
  refine ⟨h1, by omega, fun k hk => (g3 k (by omega)).trans (h3 k hk), ?_, ?_⟩
  · rw [e1]
    intro k hk hk3
    by_cases q : k < nC b - nC a
    · exact wf_cg e3 h4 k q hk3
    · have : k = nC b - nC a := by omega
      subst this
      rw [ed, h5]
      simp only [e4] at hk3 ⊢
      omega
  · rw [e1]
    unfold dep
    rw [ed, h5]
    simp only [e4]
    rcases hx with ⟨q1, q2⟩ | ⟨q1, q2, q3⟩ | ⟨q1, q2, q3, q4⟩
    · rw [if_pos q1]; omega
    · rw [if_neg (by omega), if_pos q1]; omega
    · rw [if_neg (by omega), if_neg q2]; omega
theorem cod_bad {a : va_W} {v c : Int32} (e : fI a 0 11 = v) (h : ¬ v.toInt = 0) : Cod a a c := ⟨rfl, fun q => absurd (by unfold wr at q; rw [e] at q; exact q) h⟩
theorem cod_st {a b c : va_W} {x y v n code : Int32} (u1 : UdA 4 x.toInt.toNat code a b) (u2 : UdA 4 y.toInt.toNat v b c) (e : aI a 4 873 = n) (hx : x.toInt = 874 + n.toInt) (hy : y.toInt = 873) (h0 : 0 ≤ n.toInt) (hv : v.toInt = n.toInt + 1) : Cod a c code := by
  have ey : y.toInt.toNat = 873 := by omega
  have ex : x.toInt.toNat = 874 + n.toInt.toNat := by omega
  have en : nC a = n.toInt.toNat := by unfold nC; rw [e]
  have ev := u2.2.1
  rw [ey] at ev
  refine ⟨?_, fun _ => ⟨?_, ?_, fun k hk => ?_⟩⟩
  · unfold wr; rw [fI_of (u2.1 0 (by decide)), fI_of (u1.1 0 (by decide))]
  · rw [en]; unfold nC; rw [ev]; omega
  · unfold gC; rw [en, ← ex, u2.2.2 _ (by omega)]; exact u1.2.1
  · unfold gC
    rw [en] at hk
    rw [u2.2.2 _ (by omega), u1.2.2 _ (by omega)]
