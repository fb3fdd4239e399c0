/-! rows for the reference's rows of numbers -/
theorem ix_c {x : Int32} {c : Nat} (h : x.toInt = (c : Int)) : x.toInt.toNat = c := by omega
theorem ty_aI {G : GG} {S : Sp} {ad : Nat → Nat} {ws : va_W} {i κ t0 n : Nat} {el : Nat → Int × Int} (j : Nat) (h : Ty G S ad ws) (hk : Kd S i κ) (hct : S.2.1 κ = .inl (t0, n, el)) (hj : j < n) : (el j).1 ≤ (aI ws i j).toInt ∧ (aI ws i j).toInt ≤ (el j).2 := by
  obtain ⟨f, h1, h2⟩ := h.ints hk hct
  unfold aI
  rw [h1]
  exact h2 j hj
theorem el_lo {e1 e2 : Int × Int} {v : Int} (e : e1 = e2) (h : e2.1 ≤ v) : e1.1 ≤ v := by rw [e]; exact h
theorem el_hi {e1 e2 : Int × Int} {v : Int} (e : e1 = e2) (h : v ≤ e2.2) : v ≤ e1.2 := by rw [e]; exact h
/-- the city's fixed part stays: all but FREE, people and what is kept -/
def Pa (a b : va_W) : Prop := ∀ p, (p < 10 ∨ 872 < p) → aI b 1 p = aI a 1 p
theorem Pa.rf {a : va_W} : Pa a a := fun _ _ => rfl
theorem Pa.tr {a b c : va_W} (h : Pa a b) (g : Pa b c) : Pa a c := fun p hp => (g p hp).trans (h p hp)
theorem Pa.st {a b : va_W} {x v : Int32} (u : UdA 1 x.toInt.toNat v a b) (h1 : 10 ≤ x.toInt) (h2 : x.toInt ≤ 872) : Pa a b := fun p hp => u.2.2 p (by omega)
theorem Pa.ud {a b : va_W} {i : Nat} (u : Ud i a b) (h : 1 ≠ i) : Pa a b := fun _ _ => aI_of (u 1 h)
theorem Pa.fr {a b : va_W} {M : List Nat} (u : Fr SM M a b) (h : 1 ∉ M) : Pa a b := fun _ _ => u.aI kSM_1 h
def Laid (ws : va_W) : Prop := 1 ≤ (aI ws 1 1).toInt ∧ 1 ≤ (aI ws 1 2).toInt
theorem Laid.pa {a b : va_W} (h : Laid a) (p : Pa a b) : Laid b := by
  unfold Laid
  rw [p 1 (by decide), p 2 (by decide)]
  exact h
theorem laid_1 {ws : va_W} {v : Int32} (h : Laid ws) (e : aI ws 1 1 = v) : 1 ≤ v.toInt := by rw [← e]; exact h.1
theorem laid_2 {ws : va_W} {v : Int32} (h : Laid ws) (e : aI ws 1 2 = v) : 1 ≤ v.toInt := by rw [← e]; exact h.2
/-- codes in the order in which a stack takes them -/
def dep (f : Nat → Int32) : Nat → Nat
  | 0 => 0
  | k + 1 => if (f k).toInt < 3000 then dep f k + 1 else if (f k).toInt = 3008 then dep f k else dep f k - 1
def Wf (f : Nat → Int32) (n : Nat) : Prop := ∀ k, k < n → 3000 ≤ (f k).toInt → 1 ≤ dep f k ∧ ((f k).toInt ≠ 3008 → 2 ≤ dep f k)
theorem dep_le (f : Nat → Int32) : ∀ k, dep f k ≤ k
  | 0 => Nat.le_refl _
  | k + 1 => by
    have h := dep_le f k
    unfold dep
    split
    · omega
    · split <;> omega
theorem dep_cg {f g : Nat → Int32} : ∀ k, (∀ j, j < k → f j = g j) → dep f k = dep g k
  | 0, _ => rfl
  | k + 1, h => by
    unfold dep
    rw [h k (Nat.lt_succ_self k), dep_cg k (fun j hj => h j (by omega))]
/-- a law that is told lies within the codes, and is well formed -/
def LawOk (ws : va_W) (i b l : Nat) : Prop := (aI ws i (b + 4 + l)).toInt ≠ 0 → (aI ws i (b + 6 + l)).toInt + (aI ws i (b + 8 + l)).toInt ≤ 900 ∧ Wf (fun k => aI ws i (b + 874 + (aI ws i (b + 6 + l)).toInt.toNat + k)) (aI ws i (b + 8 + l)).toInt.toNat
def JR (ws : va_W) (i b : Nat) : Prop := (1 ≤ (aI ws i (b + 3)).toInt → 1 ≤ (aI ws i (b + 1)).toInt ∧ 1 ≤ (aI ws i (b + 2)).toInt) ∧ ((aI ws i (b + 1)).toInt = 0 ∨ 1 ≤ (aI ws i (b + 2)).toInt) ∧ LawOk ws i b 0 ∧ LawOk ws i b 1
def J (ws : va_W) : Prop := JR ws 1 0 ∧ JR ws 1 1774 ∧ JR ws 1 3548
theorem LawOk.cg {a c : va_W} {i j b d l : Nat} (hl : l < 2) (e : ∀ p, p < 1774 → (p < 10 ∨ 872 < p) → aI c j (d + p) = aI a i (b + p)) (h0 : ∀ p, p < 1774 → 6 ≤ p → p < 10 → 0 ≤ (aI a i (b + p)).toInt) (h : LawOk a i b l) : LawOk c j d l := by
  have e1 : aI c j (d + 4 + l) = aI a i (b + 4 + l) := by have := e (4 + l) (by omega) (by omega); rw [Nat.add_assoc, Nat.add_assoc]; exact this
  have e2 : aI c j (d + 6 + l) = aI a i (b + 6 + l) := by have := e (6 + l) (by omega) (by omega); rw [Nat.add_assoc, Nat.add_assoc]; exact this
  have e3 : aI c j (d + 8 + l) = aI a i (b + 8 + l) := by have := e (8 + l) (by omega) (by omega); rw [Nat.add_assoc, Nat.add_assoc]; exact this
  have g2 : 0 ≤ (aI a i (b + 6 + l)).toInt := by have := h0 (6 + l) (by omega) (by omega) (by omega); rw [Nat.add_assoc]; exact this
  have g3 : 0 ≤ (aI a i (b + 8 + l)).toInt := by have := h0 (8 + l) (by omega) (by omega) (by omega); rw [Nat.add_assoc]; exact this
  unfold LawOk at h ⊢
  rw [e1, e2, e3]
  intro ht
  obtain ⟨q1, q2⟩ := h ht
  refine ⟨q1, ?_⟩
  have ef : ∀ k, k < (aI a i (b + 8 + l)).toInt.toNat → aI c j (d + 874 + (aI a i (b + 6 + l)).toInt.toNat + k) = aI a i (b + 874 + (aI a i (b + 6 + l)).toInt.toNat + k) := fun k hk => by
    have := e (874 + (aI a i (b + 6 + l)).toInt.toNat + k) (by omega) (by omega)
    have r1 : d + 874 + (aI a i (b + 6 + l)).toInt.toNat + k = d + (874 + (aI a i (b + 6 + l)).toInt.toNat + k) := by omega
    have r2 : b + 874 + (aI a i (b + 6 + l)).toInt.toNat + k = b + (874 + (aI a i (b + 6 + l)).toInt.toNat + k) := by omega
    rw [r1, r2]
    exact this
  intro k hk h3
  have hd := dep_cg (f := fun k => aI c j (d + 874 + (aI a i (b + 6 + l)).toInt.toNat + k)) (g := fun k => aI a i (b + 874 + (aI a i (b + 6 + l)).toInt.toNat + k)) k (fun z hz => ef z (by omega))
  rw [hd]
  have h3' := h3
  simp only [ef k hk] at h3' ⊢
  exact q2 k hk h3'
theorem JR.cg {a c : va_W} {i j b d : Nat} (e : ∀ p, p < 1774 → (p < 10 ∨ 872 < p) → aI c j (d + p) = aI a i (b + p)) (h0 : ∀ p, p < 1774 → 6 ≤ p → p < 10 → 0 ≤ (aI a i (b + p)).toInt) (h : JR a i b) : JR c j d := by
  obtain ⟨h1, h2, h3, h4⟩ := h
  refine ⟨?_, ?_, h3.cg (by decide) e h0, h4.cg (by decide) e h0⟩
  · rw [e 3 (by decide) (by decide), e 1 (by decide) (by decide), e 2 (by decide) (by decide)]
    exact h1
  · rw [e 1 (by decide) (by decide), e 2 (by decide) (by decide)]
    exact h2
theorem J.pa {G : GG} {ad : Nat → Nat} {a b : va_W} (hT : Ty G SM ad a) (h : J a) (p : Pa a b) : J b := by
  have k1 : ∀ q, q < 5322 → 6 ≤ q % 1774 → q % 1774 < 10 → 0 ≤ (aI a 1 q).toInt := fun q hq h6 h10 => by
    have := (ty_aI q hT kSM_1 rfl hq).1
    have e : elAll q = (0, 900) := by
      unfold elAll elR
      rw [if_neg (by omega), if_neg (by omega), if_neg (by omega), if_pos (by omega)]
    rw [e] at this
    exact this
  refine ⟨h.1.cg (fun q h1 h2 => p _ (by omega)) (fun q h1 h2 h3 => k1 _ (by omega) (by omega) (by omega)), h.2.1.cg (fun q h1 h2 => p _ (by omega)) (fun q h1 h2 h3 => k1 _ (by omega) (by omega) (by omega)), h.2.2.cg (fun q h1 h2 => p _ (by omega)) (fun q h1 h2 h3 => k1 _ (by omega) (by omega) (by omega))⟩
theorem J.laid {a : va_W} (h : J a) (hp : 1 ≤ (aI a 1 3).toInt) : Laid a := h.1.1 hp
theorem ec_wa {x y : Nat} (h : y = 36 + x) (hx : x < 76) : elW x = elAll y := by subst h; exact (by decide +kernel : ∀ x, x < 76 → elW x = elAll (36 + x)) x hx
theorem ec_nk {n k y : Nat} (h : y = 113 + 76 * n + k) (hn : n < 10) (hk : k < 76) : elAll y = elW k := by subst h; exact (by decide +kernel : ∀ n, n < 10 → ∀ k, k < 76 → elAll (113 + 76 * n + k) = elW k) n hn k hk
theorem ec_sh {k y z : Nat} (h : y = 113 + k) (g : z = 189 + k) (hk : k < 684) : elAll y = elAll z := by subst h; subst g; exact (by decide +kernel : ∀ k, k < 684 → elAll (113 + k) = elAll (189 + k)) k hk
theorem ec_im {x y : Nat} (h : y = x + 1774 ∨ y = x + 3548 ∨ x = y + 1774 ∨ x = y + 3548) : elAll y = elAll x := by
  unfold elAll
  have : y % 1774 = x % 1774 := by omega
  rw [this]
theorem ec_fr {x : Nat} (h : x < 1774) : elAll x = elR x := by unfold elAll; rw [Nat.mod_eq_of_lt h]
theorem laid_mul {ws : va_W} {v1 v2 r : Int32} (e1 : aI ws 1 1 = v1) (e2 : aI ws 1 2 = v2) (h : r.toInt = v1.toInt * v2.toInt) (b1 : 0 ≤ v1.toInt) (b2 : 0 ≤ v2.toInt) : r.toInt = 0 ∨ Laid ws := by
  by_cases q1 : v1.toInt = 0
  · exact Or.inl (by rw [h, q1]; simp)
  · by_cases q2 : v2.toInt = 0
    · exact Or.inl (by rw [h, q2]; simp)
    · exact Or.inr ⟨by rw [e1]; omega, by rw [e2]; omega⟩
/-- the walk of a law: so many numbers are waiting -/
theorem wf_at {ws : va_W} {F k n c : Int32} {l : Nat} {N : Nat} (hW : Wf (fun k => aI ws 1 (874 + F.toInt.toNat + k)) N) (hk0 : 0 ≤ k.toInt) (hk : k.toInt.toNat < N) (hn : n.toInt = (dep (fun k => aI ws 1 (874 + F.toInt.toNat + k)) k.toInt.toNat : Nat)) (hc : aI ws 1 (874 + F.toInt.toNat + k.toInt.toNat) = c) : (c.toInt < 3000 ∨ 1 ≤ n.toInt) ∧ (c.toInt < 3000 ∨ c.toInt = 3008 ∨ 2 ≤ n.toInt) ∧ n.toInt ≤ k.toInt := by
  have h := hW k.toInt.toNat hk
  have hd := dep_le (fun k => aI ws 1 (874 + F.toInt.toNat + k)) k.toInt.toNat
  simp only [hc] at h
  refine ⟨?_, ?_, by omega⟩
  · by_cases q : c.toInt < 3000
    · exact Or.inl q
    · have := (h (by omega)).1; exact Or.inr (by omega)
  · by_cases q : c.toInt < 3000
    · exact Or.inl q
    · by_cases q2 : c.toInt = 3008
      · exact Or.inr (Or.inl q2)
      · have := (h (by omega)).2 q2; exact Or.inr (Or.inr (by omega))
theorem wf_next {ws : va_W} {F k n c k' n' : Int32} (hk0 : 0 ≤ k.toInt) (hn : n.toInt = (dep (fun k => aI ws 1 (874 + F.toInt.toNat + k)) k.toInt.toNat : Nat)) (hc : aI ws 1 (874 + F.toInt.toNat + k.toInt.toNat) = c) (ek : k'.toInt = k.toInt + 1) (h : (c.toInt < 3000 ∧ n'.toInt = n.toInt + 1) ∨ (3000 ≤ c.toInt ∧ c.toInt = 3008 ∧ n'.toInt = n.toInt) ∨ (3000 ≤ c.toInt ∧ c.toInt ≠ 3008 ∧ n'.toInt = n.toInt - 1 ∧ 1 ≤ n.toInt)) : n'.toInt = (dep (fun k => aI ws 1 (874 + F.toInt.toNat + k)) k'.toInt.toNat : Nat) := by
  have e : k'.toInt.toNat = k.toInt.toNat + 1 := by omega
  rw [e]
  unfold dep
  simp only [hc]
  rcases h with ⟨h1, h2⟩ | ⟨h1, h2, h3⟩ | ⟨h1, h2, h3, h4⟩
  · rw [if_pos h1]; omega
  · rw [if_neg (by omega), if_pos h2]; omega
  · rw [if_neg (by omega), if_neg h2]; omega
theorem ne_fb {a v : Int32} (h : a = v) (p : 1 ≤ v.toInt) : a.toInt ≠ 0 := by rw [h]; omega
theorem dep_i {f : Nat → Int32} {n k : Int32} (h : n.toInt = 0) (g : k.toInt = 0) : n.toInt = (dep f k.toInt.toNat : Nat) := by rw [g, h]; rfl
/-! streets of the reference -/
def inB (v : Int64) (k : Int32) : Prop := ((v >>> (k.toInt64 &&& 63)) &&& 1).toInt = 1
def dirI (h t : Int) : Int := (h + (if t = 2 then 3 else if t = 3 then 2 else t)) % 4
def beyF (W H c d : Int) : Int := if 0 ≤ c % W + (if d = 1 then 1 else if d = 3 then -1 else 0) ∧ c % W + (if d = 1 then 1 else if d = 3 then -1 else 0) ≤ W - 1 ∧ 0 ≤ c / W + (if d = 2 then 1 else if d = 0 then -1 else 0) ∧ c / W + (if d = 2 then 1 else if d = 0 then -1 else 0) ≤ H - 1 then W * (c / W + (if d = 2 then 1 else if d = 0 then -1 else 0)) + (c % W + (if d = 1 then 1 else if d = 3 then -1 else 0)) else -1
def SF (ws : va_W) (c d r : Int) : Prop := (inB (aI ws 1 (11 + c.toNat)).toInt64 (nI d.toNat) ∧ r = -1) ∨ (¬ inB (aI ws 1 (11 + c.toNat)).toInt64 (nI d.toNat) ∧ r = beyF (aI ws 1 1).toInt (aI ws 1 2).toInt c d)
def SG (ws : va_W) (c d : Int) : Prop := ∃ q, SF ws c d q ∧ 0 ≤ q
theorem SF.fn {ws : va_W} {c d r q : Int} (h : SF ws c d r) (g : SF ws c d q) : r = q := by
  rcases h with ⟨h1, h2⟩ | ⟨h1, h2⟩ <;> rcases g with ⟨g1, g2⟩ | ⟨g1, g2⟩
  · rw [h2, g2]
  · exact absurd h1 g1
  · exact absurd g1 h1
  · rw [h2, g2]
/-- walls and size stay -/
def Pw (a b : va_W) : Prop := ∀ p, p < 36 → p ≠ 10 → aI b 1 p = aI a 1 p
theorem SF.pw {a b : va_W} {c d r : Int} (hc : c ≤ 24) (p : Pw a b) (h : SF a c d r) : SF b c d r := by
  unfold SF at h ⊢
  rw [p (11 + c.toNat) (by omega) (by omega), p 1 (by decide) (by decide), p 2 (by decide) (by decide)]
  exact h
theorem SG.pw {a b : va_W} {c d : Int} (hc : c ≤ 24) (p : Pw a b) (h : SG a c d) : SG b c d := by
  obtain ⟨q, h1, h2⟩ := h
  exact ⟨q, h1.pw hc p, h2⟩
theorem Pw.rf {a : va_W} : Pw a a := fun _ _ _ => rfl
theorem Pw.tr {a b c : va_W} (h : Pw a b) (g : Pw b c) : Pw a c := fun p h1 h2 => (g p h1 h2).trans (h p h1 h2)
theorem Pw.st {a b : va_W} {x v : Int32} (u : UdA 1 x.toInt.toNat v a b) (h1 : 36 ≤ x.toInt ∨ x.toInt = 10) : Pw a b := fun p h2 h3 => u.2.2 p (by omega)
theorem Pw.ud {a b : va_W} {i : Nat} (u : Ud i a b) (h : 1 ≠ i) : Pw a b := fun _ _ _ => aI_of (u 1 h)
theorem Pw.fr {a b : va_W} {M : List Nat} (u : Fr SM M a b) (h : 1 ∉ M) : Pw a b := fun _ _ _ => u.aI kSM_1 h
theorem sf_ge {a b : va_W} {rc r c1 c2 h1 h2 t1 t2 d2 : Int32} {N : Int} (hp : Pw a b) (hc : rc.toInt = N ∨ SG a c1.toInt (dirI h1.toInt t1.toInt)) (hne : ¬ rc.toInt = N) (e : SF b c2.toInt d2.toInt r.toInt) (ec : c2.toInt = c1.toInt) (l : c1.toInt ≤ 24) (ed : d2.toInt = dirI h2.toInt t2.toInt) (eh : h2.toInt = h1.toInt) (et : t2.toInt = t1.toInt) : 0 ≤ r.toInt := by
  obtain ⟨q, g1, g2⟩ := (hc.resolve_left hne).pw l hp
  rw [ed, eh, et, ec] at e
  rw [e.fn g1]
  exact g2
section OZ
variable {p : Program} {l : Launch} {e : Env} {R : Room} {s : State} {m : MethodId} {args : Array Value} {below : List Frame} {meth : Method} {c : Code} {H : Heap} {locs : List Loc} {cells slots : Nat} {Q : State → Prop}
variable {cc : ByteArray} {pc nL : Nat} {ls : Array Slot} {rest st0 : List Value} {own : String} {ret : Option FieldType} {x y : Int32} {a b : Int64}
theorem y_divX (C0 : Cx p s m args meth c own cc nL ret) (hy : 0 < y.toInt) (hx : 0 ≤ x.toInt) (hdg : decode cc pc = .ok (.idiv, 1)) (kk : ∀ z : Int32, z.toInt = x.toInt / y.toInt → 0 ≤ z.toInt → z.toInt ≤ x.toInt → W p l e R s m args below meth c H locs cells slots Q (F0 m (pc + 1) ls (.int z :: rest))) : W p l e R s m args below meth c H locs cells slots Q (F0 m pc ls (.int y :: .int x :: rest)) := lv_idiv C0.1 C0.2.1 hdg (t_ne0 (by omega)) (kk _ (t_div hx hy) (by rw [t_div hx hy]; exact Int.ediv_nonneg hx (by omega)) (by rw [t_div hx hy]; exact Int.ediv_le_self _ hx))
theorem y_remX (C0 : Cx p s m args meth c own cc nL ret) (hy : 0 < y.toInt) (hx : 0 ≤ x.toInt) (hdg : decode cc pc = .ok (.irem, 1)) (kk : ∀ z : Int32, z.toInt = x.toInt % y.toInt → 0 ≤ z.toInt → z.toInt < y.toInt → W p l e R s m args below meth c H locs cells slots Q (F0 m (pc + 1) ls (.int z :: rest))) : W p l e R s m args below meth c H locs cells slots Q (F0 m pc ls (.int y :: .int x :: rest)) := lv_irem C0.1 C0.2.1 hdg (t_ne0 (by omega)) (kk _ (t_rem hx hy) (by rw [t_rem hx hy]; exact Int.emod_nonneg _ (by omega)) (by rw [t_rem hx hy]; exact Int.emod_lt_of_pos _ hy))
theorem y_lshrX (C0 : Cx p s m args meth c own cc nL ret) (hdg : decode cc pc = .ok (.lshr, 1)) (kk : ∀ z : Int64, z = a >>> (y.toInt64 &&& 63) → W p l e R s m args below meth c H locs cells slots Q (F0 m (pc + 1) ls (.long z :: rest))) : W p l e R s m args below meth c H locs cells slots Q (F0 m pc ls (.int y :: .long a :: rest)) := lv_lshr C0.1 C0.2.1 hdg rfl (kk _ rfl)
theorem y_landX (C0 : Cx p s m args meth c own cc nL ret) (hdg : decode cc pc = .ok (.land, 1)) (kk : ∀ z : Int64, z = a &&& b → W p l e R s m args below meth c H locs cells slots Q (F0 m (pc + 1) ls (.long z :: rest))) : W p l e R s m args below meth c H locs cells slots Q (F0 m pc ls (.long b :: .long a :: rest)) := lv_land C0.1 C0.2.1 hdg (kk _ rfl)
end OZ
theorem inB_of {v z w one : Int64} {k : Int32} (e1 : z = v >>> (k.toInt64 &&& 63)) (e2 : one.toInt = 1) (e3 : w = z &&& one) : inB v k ↔ w.toInt = 1 := by
  obtain rfl : one = 1 := Int64.toInt_inj.mp e2
  unfold inB
  rw [e3, e1]
theorem sf_in {ws : va_W} {c d v r : Int32} {z : Int64} {k : Nat} (hk : k = 11 + c.toInt.toNat) (hd : 0 ≤ d.toInt) (e : aI ws 1 k = v) (ez : z.toInt = v.toInt) (h : inB z d) (hr : r.toInt = -1) : SF ws c.toInt d.toInt r.toInt := by
  refine Or.inl ⟨?_, hr⟩
  rw [← hk, e, ← (t_nn hd).1]
  have : v.toInt64 = z := Int64.toInt_inj.mp (by rw [Int32.toInt_toInt64]; exact ez.symm)
  rw [this]
  exact h
theorem sf_out {ws : va_W} {c d v r : Int32} {z : Int64} {k : Nat} (hk : k = 11 + c.toInt.toNat) (hd : 0 ≤ d.toInt) (e : aI ws 1 k = v) (ez : z.toInt = v.toInt) (h : ¬ inB z d) (hr : r.toInt = beyF (aI ws 1 1).toInt (aI ws 1 2).toInt c.toInt d.toInt) : SF ws c.toInt d.toInt r.toInt := by
  refine Or.inr ⟨?_, hr⟩
  rw [← hk, e, ← (t_nn hd).1]
  have : v.toInt64 = z := Int64.toInt_inj.mp (by rw [Int32.toInt_toInt64]; exact ez.symm)
  rw [this]
  exact h
/-- a crossing is free in so many hours -/
def FB (ws : va_W) (c h : Int32) : Prop := inB (aI ws 1 10).toInt64 c ∨ (aI ws 1 111 + h).toInt < (aI ws 1 (86 + c.toInt.toNat)).toInt
theorem fb_in {ws : va_W} {c v : Int32} {z : Int64} (e : aI ws 1 10 = v) (ez : z.toInt = v.toInt) (h : inB z c) : inB (aI ws 1 10).toInt64 c := by
  have : v.toInt64 = z := Int64.toInt_inj.mp (by rw [Int32.toInt_toInt64]; exact ez.symm)
  rw [e, this]; exact h
theorem fb_un {ws : va_W} {c v : Int32} {z : Int64} (e : aI ws 1 10 = v) (ez : z.toInt = v.toInt) (h : inB (aI ws 1 10).toInt64 c) : inB z c := by
  have : v.toInt64 = z := Int64.toInt_inj.mp (by rw [Int32.toInt_toInt64]; exact ez.symm)
  rw [e, this] at h; exact h
theorem fb_fog {ws : va_W} {c h v g sm : Int32} {k : Nat} (e : aI ws 1 111 = v) (hk : k = 86 + c.toInt.toNat) (eg : aI ws 1 k = g) (es : sm = v + h) : (aI ws 1 111 + h).toInt < (aI ws 1 (86 + c.toInt.toNat)).toInt ↔ sm.toInt < g.toInt := by
  rw [e, ← es, ← hk, eg]
def lefI (t : Int) : Int := if t < 2 then 0 else t - 1
/-- one can go by a turn: there is a street, and the lefts that it takes -/
def CanM (ws : va_W) (p : Nat) (t : Int) : Prop := SG ws (aI ws 1 (36 + p)).toInt (dirI (aI ws 1 (41 + p)).toInt t) ∧ (FB ws (aI ws 1 (36 + p)) 0 ∨ lefI t ≤ (aI ws 1 (46 + p)).toInt)
theorem CanM.fr {a b : va_W} {M : List Nat} {p : Nat} {t : Int} (u : Fr SM M a b) (h : 1 ∉ M) (g : CanM a p t) : CanM b p t := by
  have e : ∀ q, aI b 1 q = aI a 1 q := fun q => u.aI kSM_1 h
  unfold CanM SG SF FB at g ⊢
  simp only [e]
  exact g
theorem CanM.cg {ws : va_W} {p q : Nat} {t u : Int} (h : CanM ws p t) (e1 : q = p) (e2 : u = t) : CanM ws q u := by subst e1; subst e2; exact h
theorem canM_of {ws : va_W} {p k1 k2 k3 : Nat} {cv hv lv d rsf ti z : Int32} {t : Int} (h1 : k1 = 36 + p) (h2 : k2 = 41 + p) (h3 : k3 = 46 + p) (e1 : aI ws 1 k1 = cv) (e2 : aI ws 1 k2 = hv) (e3 : aI ws 1 k3 = lv) (et : ti.toInt = t) (ez : z.toInt = 0) (ed : d.toInt = dirI hv.toInt ti.toInt) (hs : SF ws cv.toInt d.toInt rsf.toInt) (h0 : 0 ≤ rsf.toInt) (hl : FB ws cv z ∨ lefI t ≤ lv.toInt) : CanM ws p t := by
  subst h1; subst h2; subst h3
  obtain rfl : z = 0 := Int32.toInt_inj.mp ez
  unfold CanM
  rw [e1, e2, e3, ← et, ← ed]
  rw [← et] at hl
  exact ⟨⟨_, hs, h0⟩, hl⟩
theorem goes_ge {a b : va_W} {p k1 k2 : Nat} {cv hv d1 d2 r ti : Int32} {t : Int} (hC : CanM a p t) (h1 : k1 = 36 + p) (h2 : k2 = 41 + p) (e1 : aI a 1 k1 = cv) (e2 : aI a 1 k2 = hv) (ed : d1.toInt = dirI hv.toInt ti.toInt) (et : ti.toInt = t) (edd : d2.toInt = d1.toInt) (hp : Pw a b) (hs : SF b cv.toInt d2.toInt r.toInt) (l : cv.toInt ≤ 24) : 0 ≤ r.toInt := by
  subst h1; subst h2
  obtain ⟨⟨q, g1, g2⟩, -⟩ := hC
  rw [e1, e2, ← et, ← ed, ← edd] at g1
  rw [hs.fn (g1.pw l hp)]
  exact g2
theorem goes_lf {a : va_W} {p k1 k3 : Nat} {cv lv z : Int32} {t : Int} (hC : CanM a p t) (h1 : k1 = 36 + p) (h3 : k3 = 46 + p) (e1 : aI a 1 k1 = cv) (e3 : aI a 1 k3 = lv) (ez : z.toInt = 0) (hn : ¬ FB a cv z) : lefI t ≤ lv.toInt := by
  subst h1; subst h3
  obtain rfl : z = 0 := Int32.toInt_inj.mp ez
  obtain ⟨-, h⟩ := hC
  rw [e1, e3] at h
  exact h.resolve_left hn
theorem bey_cg {a b : va_W} {r c d : Int} (hp : Pw a b) (h : r = beyF (aI b 1 1).toInt (aI b 1 2).toInt c d) : r = beyF (aI a 1 1).toInt (aI a 1 2).toInt c d := by
  rw [hp 1 (by decide) (by decide), hp 2 (by decide) (by decide)] at h
  exact h
theorem Pw.sy {a b : va_W} (h : Pw a b) : Pw b a := fun p h1 h2 => (h p h1 h2).symm
theorem fb_fr {a b : va_W} {M : List Nat} {c h : Int32} (u : Fr SM M a b) (hm : 1 ∉ M) (g : FB b c h) : FB a c h := by
  have e : ∀ q, aI b 1 q = aI a 1 q := fun q => u.aI kSM_1 hm
  unfold FB at g ⊢
  simp only [e] at g
  exact g
theorem sg_of {a b : va_W} {c h t d r : Int32} (hc : c.toInt ≤ 24) (hp : Pw b a) (hd : d.toInt = dirI h.toInt t.toInt) (hs : SF b c.toInt d.toInt r.toInt) (h0 : 0 ≤ r.toInt) : SG a c.toInt (dirI h.toInt t.toInt) := by
  rw [← hd]
  exact ⟨_, hs.pw hc hp, h0⟩
/-! the least at a crossing -/
def lA (ws : va_W) (i c : Int) : Nat → Int
  | 0 => 1000000000
  | d + 1 => min (lA ws i c d) (aI ws 8 (100 * i.toNat + 4 * c.toNat + d)).toInt
theorem lA_i {ws : va_W} {i c : Int} {b d : Int32} (h : b.toInt = 1000000000) (g : d.toInt = 0) : b.toInt = lA ws i c d.toInt.toNat := by rw [g, h]; rfl
theorem lA_s {ws : va_W} {i c : Int} {b d r v e : Int32} {k : Nat} (h : b.toInt = lA ws i c d.toInt.toNat) (hk : k = 100 * i.toNat + 4 * c.toNat + d.toInt.toNat) (ev : aI ws 8 k = v) (h0 : 0 ≤ d.toInt) (ed : e.toInt = d.toInt + 1) (hr : (r.toInt = b.toInt ∨ r.toInt = v.toInt) ∧ r.toInt ≤ b.toInt ∧ r.toInt ≤ v.toInt) : r.toInt = lA ws i c e.toInt.toNat := by
  have q : e.toInt.toNat = d.toInt.toNat + 1 := by omega
  rw [q]
  unfold lA
  rw [← hk, ev, ← h]
  omega
theorem lA_e {ws : va_W} {i c : Int} {b d : Int32} (h : b.toInt = lA ws i c d.toInt.toNat) (g : d.toInt = 4) : b.toInt = lA ws i c 4 := by rw [g] at h; exact h
theorem lA_cg {a b : va_W} {M : List Nat} (u : Fr SM M a b) (h : 8 ∉ M) (i c : Int) : ∀ d, lA b i c d = lA a i c d
  | 0 => rfl
  | d + 1 => by
    unfold lA
    rw [lA_cg u h i c d, u.aI kSM_8 h]
theorem lW_i {ws : va_W} {c : Int} {b i : Int32} (h : b.toInt = 1000000000) : b.toInt = 1000000000 ∨ ∃ j : Int, 0 ≤ j ∧ j < i.toInt ∧ lA ws j c 4 ≤ b.toInt := Or.inl h
theorem lW_s {ws : va_W} {c : Int} {b i r v e : Int32} (h : b.toInt = 1000000000 ∨ ∃ j : Int, 0 ≤ j ∧ j < i.toInt ∧ lA ws j c 4 ≤ b.toInt) (ev : v.toInt = lA ws i.toInt c 4) (h0 : 0 ≤ i.toInt) (ee : e.toInt = i.toInt + 1) (hr : r.toInt = b.toInt ∨ r.toInt = v.toInt) : r.toInt = 1000000000 ∨ ∃ j : Int, 0 ≤ j ∧ j < e.toInt ∧ lA ws j c 4 ≤ r.toInt := by
  rcases hr with q | q
  · rcases h with h | ⟨j, h1, h2, h3⟩
    · exact Or.inl (by omega)
    · exact Or.inr ⟨j, h1, by omega, by omega⟩
  · exact Or.inr ⟨i.toInt, h0, by omega, by omega⟩
theorem lW_e {ws : va_W} {c n : Int} {b i : Int32} (h : b.toInt = 1000000000 ∨ ∃ j : Int, 0 ≤ j ∧ j < i.toInt ∧ lA ws j c 4 ≤ b.toInt) (hi : i.toInt ≤ n + 1) : b.toInt = 1000000000 ∨ ∃ j : Int, 0 ≤ j ∧ j ≤ n ∧ lA ws j c 4 ≤ b.toInt := by
  rcases h with h | ⟨j, h1, h2, h3⟩
  · exact Or.inl h
  · exact Or.inr ⟨j, h1, by omega, h3⟩
theorem sB_i {ws : va_W} {c k : Int} {i : Int32} (h : i.toInt = 0) : ∀ j : Int, 0 ≤ j → j < i.toInt → k < lA ws j c 4 := fun j h1 h2 => by omega
theorem sB_s {ws : va_W} {c k : Int} {i e v : Int32} (h : ∀ j : Int, 0 ≤ j → j < i.toInt → k < lA ws j c 4) (ev : v.toInt = lA ws i.toInt c 4) (hk : k < v.toInt) (ee : e.toInt = i.toInt + 1) : ∀ j : Int, 0 ≤ j → j < e.toInt → k < lA ws j c 4 := fun j h1 h2 => by
  by_cases q : j = i.toInt
  · rw [q]; omega
  · exact h j h1 (by omega)
theorem sB_e {ws : va_W} {c k : Int} {i : Int32} (h : ∀ j : Int, 0 ≤ j → j < i.toInt → k < lA ws j c 4) (hi : 60 < i.toInt) : ∀ j : Int, 0 ≤ j → j ≤ 60 → k < lA ws j c 4 := fun j h1 h2 => h j h1 (by omega)
theorem leg_ge {a b : va_W} {M : List Nat} {r1 r2 c : Int32} (u : Fr SM M a b) (h8 : 8 ∉ M) (h1 : r1.toInt = 1000000000 ∨ ∃ j : Int, 0 ≤ j ∧ j ≤ 60 ∧ lA a j c.toInt 4 ≤ r1.toInt) (hn : ¬ r1.toInt = 1000000000) (h2 : 0 ≤ r2.toInt ∨ ∀ j : Int, 0 ≤ j → j ≤ 60 → r1.toInt < lA b j c.toInt 4) : 0 ≤ r2.toInt := by
  rcases h2 with h | h
  · exact h
  · obtain ⟨j, g1, g2, g3⟩ := h1.resolve_left hn
    have := h j g1 g2
    rw [lA_cg u h8] at this
    omega
/-- all but what is sold stays -/
def Ps (a b : va_W) : Prop := ∀ p, (p < 61 ∨ 85 < p) → aI b 1 p = aI a 1 p
theorem Ps.rf {a : va_W} : Ps a a := fun _ _ => rfl
theorem Ps.tr {a b c : va_W} (h : Ps a b) (g : Ps b c) : Ps a c := fun p hp => (g p hp).trans (h p hp)
theorem Ps.st {a b : va_W} {x v : Int32} (u : UdA 1 x.toInt.toNat v a b) (h1 : 61 ≤ x.toInt) (h2 : x.toInt ≤ 85) : Ps a b := fun p hp => u.2.2 p (by omega)
theorem Ps.fr {a b : va_W} {M : List Nat} (u : Fr SM M a b) (h : 1 ∉ M) : Ps a b := fun _ _ => u.aI kSM_1 h
/-- the errands of a tray are crossings -/
def NumOk (ws : va_W) (t : Int32) : Prop := ∀ j : Nat, j < (aI ws 24 t.toInt.toNat).toInt.toNat → 0 ≤ (aL ws 25 (40 * t.toInt.toNat + j)).toInt ∧ (aL ws 25 (40 * t.toInt.toNat + j)).toInt ≤ 24
theorem NumOk.fr {a b : va_W} {M : List Nat} {t : Int32} (h : NumOk a t) (u : Fr SM M a b) (h1 : 24 ∉ M) (h2 : 25 ∉ M) : NumOk b t := by
  unfold NumOk at h ⊢
  rw [u.aI kSM_24 h1]
  intro j hj
  rw [u.aL kSM_25 h2]
  exact h j hj
theorem num_at {ws : va_W} {t r i : Int32} {v : Int64} {k : Nat} (h : NumOk ws t) (er : aI ws 24 t.toInt.toNat = r) (hi : i.toInt.toNat < r.toInt.toNat) (hk : k = 40 * t.toInt.toNat + i.toInt.toNat) (ev : aL ws 25 k = v) : 0 ≤ v.toInt ∧ v.toInt ≤ 24 := by
  have := h i.toInt.toNat (by rw [er]; exact hi)
  rw [← hk, ev] at this
  exact this
theorem num_0 {P : Nat → Prop} {x : Int32} (h : x.toInt = 0) : ∀ j : Nat, (j : Int) < x.toInt → P j := fun j hj => absurd hj (by omega)
theorem num_s {a b : va_W} {M : List Nat} {t i e : Int32} {v : Int64} {k : Nat} (h : ∀ j : Nat, (j : Int) < i.toInt → 0 ≤ (aL a 25 (40 * t.toInt.toNat + j)).toInt ∧ (aL a 25 (40 * t.toInt.toNat + j)).toInt ≤ 24) (u : Fr SM M a b) (h2 : 25 ∉ M) (hk : k = 40 * t.toInt.toNat + i.toInt.toNat) (ev : aL b 25 k = v) (ee : e.toInt = i.toInt + 1) (hv : 0 ≤ i.toInt ∧ 0 ≤ v.toInt ∧ v.toInt ≤ 24) : ∀ j : Nat, (j : Int) < e.toInt → 0 ≤ (aL b 25 (40 * t.toInt.toNat + j)).toInt ∧ (aL b 25 (40 * t.toInt.toNat + j)).toInt ≤ 24 := fun j hj => by
  by_cases q : j = i.toInt.toNat
  · rw [q, ← hk, ev]; exact hv.2
  · rw [u.aL kSM_25 h2]; exact h j (by omega)
theorem num_e {ws : va_W} {t r i : Int32} (h : ∀ j : Nat, (j : Int) < i.toInt → 0 ≤ (aL ws 25 (40 * t.toInt.toNat + j)).toInt ∧ (aL ws 25 (40 * t.toInt.toNat + j)).toInt ≤ 24) (er : aI ws 24 t.toInt.toNat = r) (hr : r.toInt.toNat ≤ i.toInt.toNat) : NumOk ws t := fun j hj => h j (by rw [er] at hj; omega)
/-! images -/
def CpR (a b : va_W) (D S k : Nat) : Prop := (∀ p, p < k → aI b 1 (D + p) = aI a 1 (S + p)) ∧ ∀ p, (p < D ∨ D + k ≤ p) → aI b 1 p = aI a 1 p
theorem cp_0 {a b : va_W} {M : List Nat} {D S : Nat} {x : Int32} (hx : x.toInt = 0) (u : Fr SM M a b) (h : 1 ∉ M) : CpR a b D S x.toInt.toNat := ⟨fun p hp => absurd hp (by omega), fun _ _ => u.aI kSM_1 h⟩
theorem cp_s {a b c : va_W} {D S k1 k2 : Nat} {x y v : Int32} (h : CpR a b D S x.toInt.toNat) (hu : UdA 1 k1 v b c) (hk1 : k1 = D + x.toInt.toNat) (hv : aI b 1 k2 = v) (hk2 : k2 = S + x.toInt.toNat) (hS : S + 1774 ≤ D ∨ D + 1774 ≤ S) (hx : x.toInt < 1774) (h0 : 0 ≤ x.toInt) (ey : y.toInt = x.toInt + 1) : CpR a c D S y.toInt.toNat := by
  have e : y.toInt.toNat = x.toInt.toNat + 1 := by omega
  refine ⟨fun p hp => ?_, fun p hp => ?_⟩
  · by_cases q : p = x.toInt.toNat
    · rw [q, ← hk1, hu.2.1, ← hv, hk2]
      exact h.2 _ (by omega)
    · rw [hu.2.2 _ (by omega)]
      exact h.1 p (by omega)
  · rw [hu.2.2 _ (by omega)]
    exact h.2 p (by omega)
theorem cp_e {a b c : va_W} {M : List Nat} {D S : Nat} {x : Int32} (h : CpR a b D S x.toInt.toNat) (hx : x.toInt = 1774) (u : Fr SM M b c) (hm : 1 ∉ M) : CpR a c D S 1774 := by
  have e : x.toInt.toNat = 1774 := by omega
  rw [e] at h
  exact ⟨fun p hp => (u.aI kSM_1 hm).trans (h.1 p hp), fun p hp => (u.aI kSM_1 hm).trans (h.2 p hp)⟩
theorem J_cp {G : GG} {ad : Nat → Nat} {a b : va_W} {D S : Nat} (hT : Ty G SM ad a) (h : J a) (hc : CpR a b D S 1774) (hD : D = 0 ∨ D = 1774 ∨ D = 3548) (hS : S = 0 ∨ S = 1774 ∨ S = 3548) : J b := by
  have k1 : ∀ q, q < 5322 → 6 ≤ q % 1774 → q % 1774 < 10 → 0 ≤ (aI a 1 q).toInt := fun q hq h6 h10 => by
    have := (ty_aI q hT kSM_1 rfl hq).1
    have e : elAll q = (0, 900) := by
      unfold elAll elR
      rw [if_neg (by omega), if_neg (by omega), if_neg (by omega), if_pos (by omega)]
    rw [e] at this
    exact this
  have same : ∀ B, (B = 0 ∨ B = 1774 ∨ B = 3548) → B ≠ D → JR a 1 B → JR b 1 B := fun B hB hne hj =>
    hj.cg (fun q h1 h2 => hc.2 _ (by omega)) (fun q h1 h2 h3 => k1 _ (by omega) (by omega) (by omega))
  have frS : JR a 1 S := by
    rcases hS with rfl | rfl | rfl
    · exact h.1
    · exact h.2.1
    · exact h.2.2
  have new : JR b 1 D := frS.cg (fun q h1 h2 => hc.1 q h1) (fun q h1 h2 h3 => k1 _ (by omega) (by omega) (by omega))
  refine ⟨?_, ?_, ?_⟩
  · by_cases q : (0 : Nat) = D
    · rw [q]; exact new
    · exact same 0 (by omega) q h.1
  · by_cases q : (1774 : Nat) = D
    · rw [q]; exact new
    · exact same 1774 (by omega) q h.2.1
  · by_cases q : (3548 : Nat) = D
    · rw [q]; exact new
    · exact same 3548 (by omega) q h.2.2
theorem bb_lf {a b c : va_W} {p k1 k2 : Nat} {v w n : Int32} (h1 : k1 = 46 + p) (h2 : k2 = 46 + p) (u : UdA 1 k1 w b c) (e : aI a 1 k2 = v) (ew : w.toInt = v.toInt + n.toInt) (_ : k2 = k2) : (aI c 1 (46 + p)).toInt = (aI a 1 (46 + p)).toInt + n.toInt := by
  subst h1; subst h2
  rw [u.2.1, e, ew]
theorem aff_0 {G : GG} {ad : Nat → Nat} {ws : va_W} {p : Nat} (hT : Ty G SM ad ws) (hp : p < 5) (hn : 99 - (aI ws 1 (46 + p)).toInt < ((0 : Nat) : Int)) : False := by
  have h := (ty_aI (46 + p) hT kSM_1 rfl (by omega)).2
  have e : elAll (46 + p) = (0, 99) := (by decide +kernel : ∀ p, p < 5 → elAll (46 + p) = (0, 99)) p hp
  rw [e] at h
  have h2 : (aI ws 1 (46 + p)).toInt ≤ 99 := h
  omega
theorem aff_s {a b : va_W} {p m : Nat} {r n : Int32} (hn : 99 - (aI a 1 (46 + p)).toInt < ((m + 1 : Nat) : Int)) (hb : r.toInt < 0 ∨ (aI b 1 (46 + p)).toInt = (aI a 1 (46 + p)).toInt + n.toInt) (hr : 0 ≤ r.toInt) (h1 : n.toInt = 1) : 99 - (aI b 1 (46 + p)).toInt < (m : Int) := by
  rcases hb with h | h <;> omega
theorem lA60 {a : va_W} {r b c : Int32} (h : r.toInt = 1000000000 ∨ ∃ j : Int, 0 ≤ j ∧ j ≤ b.toInt ∧ lA a j c.toInt 4 ≤ r.toInt) (hb : b.toInt ≤ 60) : r.toInt = 1000000000 ∨ ∃ j : Int, 0 ≤ j ∧ j ≤ 60 ∧ lA a j c.toInt 4 ≤ r.toInt := h.elim Or.inl fun ⟨j, h1, h2, h3⟩ => Or.inr ⟨j, h1, Int.le_trans h2 hb, h3⟩
