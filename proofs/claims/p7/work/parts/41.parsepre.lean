/-! the reference's parser: rows -/
section OC
variable {p : Program} {l : Launch} {e : Env} {R : Room} {s : State} {m : MethodId} {args : Array Value} {below : List Frame} {meth : Method} {c : Code} {H : Heap} {locs : List Loc} {cells slots : Nat} {Q : State → Prop}
variable {cc : ByteArray} {pc nL : Nat} {ls : Array Slot} {rest st0 : List Value} {own : String} {ret : Option FieldType} {x y : Int32}
theorem y_i2cX (C0 : Cx p s m args meth c own cc nL ret) (hdg : decode cc pc = .ok (.i2c, 1)) (kk : ∀ z : Int32, z = (x.toUInt32 % 65536).toInt32 → 0 ≤ z.toInt → z.toInt ≤ 65535 → W p l e R s m args below meth c H locs cells slots Q (F0 m (pc + 1) ls (.int z :: rest))) : W p l e R s m args below meth c H locs cells slots Q (F0 m pc ls (.int x :: rest)) :=
  lv_i2c C0.1 C0.2.1 hdg rfl (kk _ rfl (by rw [pk_char, nI_toInt (by omega)]; omega) (by rw [pk_char, nI_toInt (by omega)]; omega))
end OC
theorem ch101 {k : Nat} {j v m w r : Int32} (e1 : v = chB k j.toInt.toNat) (e2 : m.toInt = 255) (e3 : w = v &&& m) (e4 : r = (w.toUInt32 % 65536).toInt32) : k = 22 → j.toInt = 100 → r.toInt = 32 := by
  intro hk hj
  obtain rfl : m = 255 := Int32.toInt_inj.mp e2
  subst hk
  rw [hj] at e1
  subst e1; subst e3; subst e4
  decide +kernel
/-- the codes that a parser has laid -/
def nC (ws : va_W) : Nat := (aI ws 4 873).toInt.toNat
def gC (ws : va_W) (k : Nat) : Int32 := aI ws 4 (874 + k)
def wr (ws : va_W) : Int := (fI ws 0 11).toInt
def Ext0 (m : Nat) (a b : va_W) : Prop := wr b = 0 → wr a = 0 ∧ nC a ≤ nC b ∧ (∀ k, k < nC a → gC b k = gC a k) ∧ Wf (fun k => gC b (nC a + k)) (nC b - nC a) ∧ dep (fun k => gC b (nC a + k)) (nC b - nC a) = m
def Cod0 (a b : va_W) (c : Int32) : Prop := wr b = wr a ∧ (wr a = 0 → nC b = nC a + 1 ∧ gC b (nC a) = c ∧ ∀ k, k ≠ nC a → gC b k = gC a k)
theorem dep_s (f : Nat → Int32) (k : Nat) : dep f (k + 1) = if (f k).toInt < 3000 then dep f k + 1 else if (f k).toInt = 3008 then dep f k else dep f k - 1 := rfl
theorem dep_app (f : Nat → Int32) (n : Nat) : ∀ j, Wf (fun k => f (n + k)) j → dep f (n + j) = dep f n + dep (fun k => f (n + k)) j
  | 0, _ => rfl
  | j + 1, h => by
    have ih := dep_app f n j (fun k hk h3 => h k (by omega) h3)
    have hj := h j (Nat.lt_succ_self j)
    simp only at hj
    rw [dep_s, show n + (j + 1) = (n + j) + 1 from rfl, dep_s, ih]
    by_cases q : (f (n + j)).toInt < 3000
    · rw [if_pos q, if_pos q]; omega
    · rw [if_neg q, if_neg q]
      by_cases q2 : (f (n + j)).toInt = 3008
      · rw [if_pos q2, if_pos q2]
      · rw [if_neg q2, if_neg q2]
        have := (hj (by omega)).2 q2
        omega
theorem wf_app (f : Nat → Int32) (n j : Nat) (h1 : Wf f n) (h2 : Wf (fun k => f (n + k)) j) : Wf f (n + j) := by
  intro k hk h3
  by_cases q : k < n
  · exact h1 k q h3
  · obtain ⟨i, rfl⟩ : ∃ i, k = n + i := ⟨k - n, by omega⟩
    have g := h2 i (by omega) h3
    rw [dep_app f n i (fun z hz hz3 => h2 z (by omega) hz3)]
    exact ⟨by omega, fun q2 => by have := g.2 q2; omega⟩
theorem wf_cg {f g : Nat → Int32} {n : Nat} (e : ∀ k, k < n → f k = g k) (h : Wf g n) : Wf f n := fun k hk h3 => by
  rw [dep_cg k (fun j hj => e j (by omega))]
  rw [e k hk] at h3 ⊢
  exact h k hk h3
theorem Ext0.tr {m1 m2 : Nat} {a b c : va_W} (h : Ext0 m1 a b) (g : Ext0 m2 b c) : Ext0 (m1 + m2) a c := by
  intro hw
  obtain ⟨g1, g2, g3, g4, g5⟩ := g hw
  obtain ⟨h1, h2, h3, h4, h5⟩ := h g1
  have e1 : nC c - nC a = (nC b - nC a) + (nC c - nC b) := by omega
  have e2 : (fun k => gC c (nC a + ((nC b - nC a) + k))) = fun k => gC c (nC b + k) := funext fun k => by
    have : nC a + ((nC b - nC a) + k) = nC b + k := by omega
    rw [this]
  have e3 : ∀ k, k < nC b - nC a → gC c (nC a + k) = gC b (nC a + k) := fun k hk => g3 _ (by omega)
  refine ⟨h1, by omega, fun k hk => (g3 k (by omega)).trans (h3 k hk), ?_, ?_⟩
  · rw [e1]
    exact wf_app _ _ _ (wf_cg e3 h4) (by rw [e2]; exact g4)
  · rw [e1, dep_app (fun k => gC c (nC a + k)) (nC b - nC a) (nC c - nC b) (by show Wf (fun k => gC c (nC a + ((nC b - nC a) + k))) _; rw [e2]; exact g4), dep_cg _ e3, h5]
    show m1 + dep (fun k => gC c (nC a + ((nC b - nC a) + k))) _ = _
    rw [e2, g5]
theorem Ext0.id {a b : va_W} (h : wr b = 0 → wr a = 0) (e : b[4]? = a[4]?) : Ext0 0 a b := by
  intro hw
  have en : nC b = nC a := by unfold nC; rw [aI_of e]
  rw [en, Nat.sub_self]
  exact ⟨h hw, Nat.le_refl _, fun k _ => aI_of e, fun k hk => absurd hk (Nat.not_lt_zero k), rfl⟩
theorem Ext0.bad {m : Nat} {a b : va_W} (h : ¬ wr b = 0) : Ext0 m a b := fun hw => absurd hw h
theorem ext_code0 {m n : Nat} {a b c : va_W} {x : Int32} (h : Ext0 m a b) (g : Cod0 b c x) (hx : (x.toInt < 3000 ∧ n = m + 1) ∨ (x.toInt = 3008 ∧ 1 ≤ m ∧ n = m) ∨ (3000 ≤ x.toInt ∧ x.toInt ≠ 3008 ∧ 2 ≤ m ∧ n = m - 1)) : Ext0 n a c := by
  intro hw
  rw [g.1] at hw
  obtain ⟨g1, g2, g3⟩ := g.2 hw
  obtain ⟨h1, h2, h3, h4, h5⟩ := h hw
  have e1 : nC c - nC a = (nC b - nC a) + 1 := by omega
  have e3 : ∀ k, k < nC b - nC a → gC c (nC a + k) = gC b (nC a + k) := fun k hk => g3 _ (by omega)
  have e4 : gC c (nC a + (nC b - nC a)) = x := by
    have : nC a + (nC b - nC a) = nC b := by omega
    rw [this]; exact g2
  have ed := dep_cg (f := fun k => gC c (nC a + k)) (g := fun k => gC b (nC a + k)) (nC b - nC a) e3
  refine ⟨h1, by omega, fun k hk => (g3 k (by omega)).trans (h3 k hk), ?_, ?_⟩
  · rw [e1]
    intro k hk hk3
    by_cases q : k < nC b - nC a
    · exact wf_cg e3 h4 k q hk3
    · have : k = nC b - nC a := by omega
      subst this
      rw [ed, h5]
      simp only [e4] at hk3 ⊢
      omega
  · rw [e1, dep_s, ed, h5]
    simp only [e4]
    rcases hx with ⟨q1, q2⟩ | ⟨q1, q2, q3⟩ | ⟨q1, q2, q3, q4⟩
    · rw [if_pos q1]; omega
    · rw [if_neg (by omega), if_pos q1]; omega
    · rw [if_neg (by omega), if_neg q2]; omega
def Lo4 (a b : va_W) : Prop := ∀ p, p < 873 → aI b 4 p = aI a 4 p
def Ext (m : Nat) (a b : va_W) : Prop := Lo4 a b ∧ Ext0 m a b
def Cod (a b : va_W) (c : Int32) : Prop := Lo4 a b ∧ Cod0 a b c
theorem Ext.tr {m1 m2 : Nat} {a b c : va_W} (h : Ext m1 a b) (g : Ext m2 b c) : Ext (m1 + m2) a c := ⟨fun p hp => (g.1 p hp).trans (h.1 p hp), h.2.tr g.2⟩
theorem Ext.rf {a : va_W} : Ext 0 a a := ⟨fun _ _ => rfl, Ext0.id (fun h => h) rfl⟩
theorem Ext.up {m : Nat} {a b c : va_W} {v w : Int32} {M : List Nat} (h : Ext m a b) (e1 : fI b 0 11 = v) (e2 : fI c 0 11 = w) (hw : w.toInt = 0 → v.toInt = 0) (u : Fr SM M b c) (h4 : 4 ∉ M) : Ext m a c :=
  h.tr ⟨fun _ _ => u.aI kSM_4 h4, Ext0.id (fun q => by unfold wr at q ⊢; rw [e1]; rw [e2] at q; exact hw q) (u 4 4 kSM_4 h4)⟩
theorem Ext.bd {m n : Nat} {a b : va_W} {v : Int32} (h : Ext n a b) (e : fI b 0 11 = v) (hv : ¬ v.toInt = 0) : Ext m a b := ⟨h.1, Ext0.bad (by unfold wr; rw [e]; exact hv)⟩
theorem ext_code {m n : Nat} {a b c : va_W} {x : Int32} (h : Ext m a b) (g : Cod b c x) (hx : (x.toInt < 3000 ∧ n = m + 1) ∨ (x.toInt = 3008 ∧ 1 ≤ m ∧ n = m) ∨ (3000 ≤ x.toInt ∧ x.toInt ≠ 3008 ∧ 2 ≤ m ∧ n = m - 1)) : Ext n a c := ⟨fun p hp => (g.1 p hp).trans (h.1 p hp), ext_code0 h.2 g.2 hx⟩
theorem cod_bad {a : va_W} {v c : Int32} (e : fI a 0 11 = v) (h : ¬ v.toInt = 0) : Cod a a c := ⟨fun _ _ => rfl, rfl, fun q => absurd (by unfold wr at q; rw [e] at q; exact q) h⟩
theorem cod_st {a b c : va_W} {x y v n code : Int32} (u1 : UdA 4 x.toInt.toNat code a b) (u2 : UdA 4 y.toInt.toNat v b c) (e : aI a 4 873 = n) (hx : x.toInt = 874 + n.toInt) (hy : y.toInt = 873) (h0 : 0 ≤ n.toInt) (hv : v.toInt = n.toInt + 1) : Cod a c code := by
  have ey : y.toInt.toNat = 873 := by omega
  have ex : x.toInt.toNat = 874 + n.toInt.toNat := by omega
  have en : nC a = n.toInt.toNat := by unfold nC; rw [e]
  have ev := u2.2.1
  rw [ey] at ev
  refine ⟨fun p hp => ?_, ?_, fun _ => ⟨?_, ?_, fun k hk => ?_⟩⟩
  · rw [u2.2.2 p (by omega), u1.2.2 p (by omega)]
  · unfold wr; rw [fI_of (u2.1 0 (by decide)), fI_of (u1.1 0 (by decide))]
  · rw [en]; unfold nC; rw [ev]; omega
  · unfold gC; rw [en, ← ex, u2.2.2 _ (by omega)]; exact u1.2.1
  · unfold gC
    rw [en] at hk
    rw [u2.2.2 _ (by omega), u1.2.2 _ (by omega)]
/-! the laws of the city that is being read -/
def FL (ws : va_W) (l : Nat) : Prop := (aI ws 4 (4 + l)).toInt ≠ 0 → (aI ws 4 (6 + l)).toInt.toNat + (aI ws 4 (8 + l)).toInt.toNat ≤ nC ws ∧ Wf (fun k => gC ws ((aI ws 4 (6 + l)).toInt.toNat + k)) (aI ws 4 (8 + l)).toInt.toNat
def FLs (ws : va_W) : Prop := wr ws = 0 → FL ws 0 ∧ FL ws 1
/-- all but laws and codes -/
def P4 (a b : va_W) : Prop := ∀ p, (4 ≤ p ∧ p < 10) ∨ 872 < p → aI b 4 p = aI a 4 p
theorem P4.rf {a : va_W} : P4 a a := fun _ _ => rfl
theorem P4.tr {a b c : va_W} (h : P4 a b) (g : P4 b c) : P4 a c := fun p hp => (g p hp).trans (h p hp)
theorem P4.st {a b : va_W} {x v : Int32} (u : UdA 4 x.toInt.toNat v a b) (h : (0 ≤ x.toInt ∧ x.toInt < 4) ∨ (10 ≤ x.toInt ∧ x.toInt ≤ 872)) : P4 a b := fun p hp => u.2.2 p (by omega)
theorem P4.ud {a b : va_W} {i : Nat} (u : Ud i a b) (h : 4 ≠ i) : P4 a b := fun _ _ => aI_of (u 4 h)
theorem P4.fr {a b : va_W} {M : List Nat} (u : Fr SM M a b) (h : 4 ∉ M) : P4 a b := fun _ _ => u.aI kSM_4 h
theorem FL.of {a b : va_W} {l : Nat} (hl : l < 2) (h : FL a l) (e : ∀ p, 4 ≤ p → p < 10 → aI b 4 p = aI a 4 p) (hn : nC a ≤ nC b) (hg : ∀ k, k < nC a → gC b k = gC a k) : FL b l := by
  unfold FL at h ⊢
  rw [e (4 + l) (by omega) (by omega), e (6 + l) (by omega) (by omega), e (8 + l) (by omega) (by omega)]
  intro ht
  obtain ⟨h1, h2⟩ := h ht
  exact ⟨by omega, wf_cg (fun k hk => hg _ (by omega)) h2⟩
theorem FLs.pa {a b : va_W} {v w : Int32} (h : FLs a) (k : P4 a b) (e1 : fI a 0 11 = v) (e2 : fI b 0 11 = w) (hw : w.toInt = 0 → v.toInt = 0) : FLs b := by
  intro q
  unfold wr at q
  rw [e2] at q
  have h := h (by unfold wr; rw [e1]; exact hw q)
  have en : nC b = nC a := by unfold nC; rw [k 873 (Or.inr (by decide))]
  have eg : ∀ j, gC b j = gC a j := fun j => k _ (Or.inr (by omega))
  exact ⟨h.1.of (by decide) (fun p h1 h2 => k p (Or.inl ⟨h1, h2⟩)) (by omega) (fun j _ => eg j), h.2.of (by decide) (fun p h1 h2 => k p (Or.inl ⟨h1, h2⟩)) (by omega) (fun j _ => eg j)⟩
theorem FLs.ext {m : Nat} {a b : va_W} (h : FLs a) (g : Ext m a b) : FLs b := by
  intro q
  obtain ⟨g1, g2, g3, g4, g5⟩ := g.2 q
  have h := h g1
  exact ⟨h.1.of (by decide) (fun p h1 h2 => g.1 p (by omega)) g2 g3, h.2.of (by decide) (fun p h1 h2 => g.1 p (by omega)) g2 g3⟩
/-- a law is told: from and many -/
theorem FLs.law {a b c d f : va_W} {x1 x2 x3 v1 v2 v3 l n : Int32} (h : FLs b) (g : Ext 1 a b) (hw : wr b = 0) (l0 : 0 ≤ l.toInt) (l1 : l.toInt ≤ 1) (en : aI a 4 873 = n) (n0 : 0 ≤ n.toInt) (u1 : UdA 4 x1.toInt.toNat v1 b c) (u2 : UdA 4 x2.toInt.toNat v2 c d) (u3 : UdA 4 x3.toInt.toNat v3 d f) (e1 : x1.toInt = 4 + l.toInt) (e2 : x2.toInt = 6 + l.toInt) (e3 : x3.toInt = 8 + l.toInt) (ev2 : v2.toInt = n.toInt) {m : Int32} (em : aI b 4 873 = m) (ev3 : v3.toInt = m.toInt - n.toInt) : FLs f := by
  intro q
  have E : ∀ p, p ≠ x1.toInt.toNat → p ≠ x2.toInt.toNat → p ≠ x3.toInt.toNat → aI f 4 p = aI b 4 p := fun p h1 h2 h3 => by rw [u3.2.2 p h3, u2.2.2 p h2, u1.2.2 p h1]
  have enf : nC f = nC b := by unfold nC; rw [E 873 (by omega) (by omega) (by omega)]
  have eg : ∀ j, gC f j = gC b j := fun j => E _ (by omega) (by omega) (by omega)
  have hb := h hw
  obtain ⟨g1, g2, g3, g4, g5⟩ := g.2 hw
  have na : nC a = n.toInt.toNat := by unfold nC; rw [en]
  have nb : nC b = m.toInt.toNat := by unfold nC; rw [em]
  have other : ∀ k, k < 2 → k ≠ l.toInt.toNat → FL b k → FL f k := fun k hk hn hF => by
    unfold FL at hF ⊢
    rw [E (4 + k) (by omega) (by omega) (by omega), E (6 + k) (by omega) (by omega) (by omega), E (8 + k) (by omega) (by omega) (by omega), enf]
    intro ht
    obtain ⟨q1, q2⟩ := hF ht
    exact ⟨q1, wf_cg (fun j _ => eg _) q2⟩
  have mine : FL f l.toInt.toNat := by
    unfold FL
    have r2 : aI f 4 (6 + l.toInt.toNat) = v2 := by
      rw [u3.2.2 _ (by omega)]
      have := u2.2.1
      rw [show x2.toInt.toNat = 6 + l.toInt.toNat by omega] at this
      exact this
    have r3 : aI f 4 (8 + l.toInt.toNat) = v3 := by
      have := u3.2.1
      rw [show x3.toInt.toNat = 8 + l.toInt.toNat by omega] at this
      exact this
    rw [r2, r3, enf]
    intro _
    have s2 : v2.toInt.toNat = nC a := by omega
    have s3 : v3.toInt.toNat = nC b - nC a := by omega
    rw [s2, s3]
    exact ⟨by omega, wf_cg (fun j _ => eg _) g4⟩
  have hl : l.toInt.toNat = 0 ∨ l.toInt.toNat = 1 := by omega
  rcases hl with hl | hl
  · rw [hl] at mine other; exact ⟨mine, other 1 (by decide) (by decide) hb.2⟩
  · rw [hl] at mine other; exact ⟨other 0 (by decide) (by decide) hb.1, mine⟩
/-- a plain row -/
def Zf (ws : va_W) : Prop := ∀ p, p < 1774 → aI ws 4 p = 0
theorem zf_0 {ws : va_W} {v : Int32} {p : Nat} (h : Zf ws) (e : aI ws 4 p = v) (hp : p < 1774) : v.toInt = 0 := by rw [← e, h p hp]; rfl
theorem zf_i {ws : va_W} {k : Int32} (h : k.toInt = 0) : ∀ p, p < k.toInt.toNat → aI ws 4 p = 0 := fun p hp => by omega
theorem zf_s {a b : va_W} {k x v k' : Int32} (h : ∀ p, p < k.toInt.toNat → aI a 4 p = 0) (u : UdA 4 x.toInt.toNat v a b) (hx : x.toInt = k.toInt) (hv : v.toInt = 0) (h0 : 0 ≤ k.toInt) (hk : k'.toInt = k.toInt + 1) : ∀ p, p < k'.toInt.toNat → aI b 4 p = 0 := fun p hp => by
  by_cases q : p = x.toInt.toNat
  · subst q; rw [u.2.1]; exact Int32.toInt_inj.mp hv
  · rw [u.2.2 p q]; exact h p (by omega)
theorem zf_e {ws : va_W} {k : Int32} (h : ∀ p, p < k.toInt.toNat → aI ws 4 p = 0) (hk : 1774 ≤ k.toInt) : Zf ws := fun p hp => h p (by omega)
theorem FLs.zf {a : va_W} (h : Zf a) : FLs a := fun _ => ⟨fun q => absurd (by rw [h _ (by decide)]; rfl) q, fun q => absurd (by rw [h _ (by decide)]; rfl) q⟩
/-- the row that was read becomes the city's -/
def C4 (a b : va_W) (k : Nat) : Prop := (∀ p, p < k → aI b 1 p = aI a 4 p) ∧ (∀ p, 1774 ≤ p → aI b 1 p = aI a 1 p)
theorem c4_0 {a : va_W} {k : Int32} (h : k.toInt = 0) : C4 a a k.toInt.toNat := ⟨fun p hp => by omega, fun _ _ => rfl⟩
theorem c4_s {a b c : va_W} {M : List Nat} {k x v k' : Int32} (h : C4 a b k.toInt.toNat) (u : UdA 1 x.toInt.toNat v b c) (f : Fr SM M a b) (h4 : 4 ∉ M) (ev : aI b 4 k.toInt.toNat = v) (hx : x.toInt = k.toInt) (h0 : 0 ≤ k.toInt) (h1 : k.toInt < 1774) (hk : k'.toInt = k.toInt + 1) : C4 a c k'.toInt.toNat := by
  refine ⟨fun p hp => ?_, fun p hp => ?_⟩
  · by_cases q : p = x.toInt.toNat
    · subst q
      rw [u.2.1, ← ev, f.aI kSM_4 h4]
      rw [show k.toInt.toNat = x.toInt.toNat by omega]
    · rw [u.2.2 p q]; exact h.1 p (by omega)
  · rw [u.2.2 p (by omega)]; exact h.2 p hp
theorem J_city {G : GG} {ad : Nat → Nat} {a b : va_W} {w v1 v2 v3 k : Int32} (hT : Ty G SM ad a) (hJ : J a) (h : FLs a) (e : fI a 0 11 = w) (hw : w.toInt = 0) (e1 : aI a 4 1 = v1) (e2 : aI a 4 2 = v2) (e3 : aI a 4 3 = v3) (q1 : v1.toInt = 0 ∨ 1 ≤ v2.toInt) (q2 : v3.toInt = 0 ∨ 1 ≤ v1.toInt) (c : C4 a b k.toInt.toNat) (hk : 1774 ≤ k.toInt) : J b := by
  have t : ∀ p, 6 ≤ p → p < 10 → 0 ≤ (aI a 4 p).toInt := fun p h1 h2 => by
    have := (ty_aI p hT kSM_4 rfl (by omega)).1
    have e : elR p = (0, 900) := by
      unfold elR
      rw [if_neg (by omega), if_neg (by omega), if_neg (by omega), if_pos (by omega)]
    rw [e] at this
    exact this
  have tn : nC a ≤ 900 := by
    have := (ty_aI 873 hT kSM_4 rfl (by decide)).2
    have e : (elR 873).2 = 900 := by decide
    rw [e] at this
    unfold nC
    omega
  have k1 : ∀ q, q < 5322 → 6 ≤ q % 1774 → q % 1774 < 10 → 0 ≤ (aI a 1 q).toInt := fun q hq h6 h10 => by
    have := (ty_aI q hT kSM_1 rfl hq).1
    have e : elAll q = (0, 900) := by
      unfold elAll elR
      rw [if_neg (by omega), if_neg (by omega), if_neg (by omega), if_pos (by omega)]
    rw [e] at this
    exact this
  have hf := h (by unfold wr; rw [e]; exact hw)
  have lw : ∀ l, l < 2 → FL a l → LawOk a 4 0 l := fun l hl hF => by
    unfold FL at hF
    unfold LawOk
    simp only [Nat.zero_add]
    intro ht
    obtain ⟨p1, p2⟩ := hF ht
    have t1 := t (6 + l) (by omega) (by omega)
    have t2 := t (8 + l) (by omega) (by omega)
    refine ⟨by omega, ?_⟩
    refine wf_cg (fun j _ => ?_) p2
    unfold gC
    rw [Nat.add_assoc]
  have j4 : JR a 4 0 := by
    refine ⟨?_, ?_, lw 0 (by decide) hf.1, lw 1 (by decide) hf.2⟩
    · simp only [Nat.zero_add]; rw [e1, e2, e3]; intro; omega
    · simp only [Nat.zero_add]; rw [e1, e2]; omega
  refine ⟨j4.cg (fun p h1 _ => ?_) (fun p _ h2 h3 => ?_), hJ.2.1.cg (fun p h1 _ => c.2 _ (by omega)) (fun q h1 h2 h3 => k1 _ (by omega) (by omega) (by omega)), hJ.2.2.cg (fun p h1 _ => c.2 _ (by omega)) (fun q h1 h2 h3 => k1 _ (by omega) (by omega) (by omega))⟩
  · simp only [Nat.zero_add]; exact c.1 p (by omega)
  · simp only [Nat.zero_add]; exact t p h2 h3
def seeV (ws : va_W) (n k : Int) : Int := if k < n then (aI ws 3 k.toNat).toInt else -1
theorem see_in {ws : va_W} {k r n : Int32} (e : aI ws 3 k.toInt.toNat = r) (e8 : fI ws 0 8 = n) (h : k.toInt < n.toInt) : r.toInt = seeV ws (fI ws 0 8).toInt k.toInt := by unfold seeV; rw [e8, if_pos h, e]
theorem see_out {ws : va_W} {k r n : Int32} (e8 : fI ws 0 8 = n) (h : n.toInt ≤ k.toInt) (hr : r.toInt = -1) : r.toInt = seeV ws (fI ws 0 8).toInt k.toInt := by unfold seeV; rw [e8, if_neg (by omega), hr]
theorem see_to {a b : va_W} {M : List Nat} {r k v : Int32} {n : Int} (u : Fr SM M a b) (h3 : 3 ∉ M) (e : fI b 0 8 = v) (hv : v.toInt = n) (h : r.toInt = seeV b (fI b 0 8).toInt k.toInt) : r.toInt = seeV a n k.toInt := by
  rw [h, e, hv]
  unfold seeV
  rw [u.aI kSM_3 h3]
theorem see_eq {a : va_W} {r1 r2 k1 k2 : Int32} {n : Int} (h1 : r1.toInt = seeV a n k1.toInt) (h2 : r2.toInt = seeV a n k2.toInt) : k2.toInt = k1.toInt → r2.toInt = r1.toInt := fun e => by rw [h1, h2, e]
