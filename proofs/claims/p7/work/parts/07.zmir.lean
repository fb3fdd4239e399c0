/-! the store that a world holds, and rows that say exactly what is read, written, reckoned -/
/-- tag 0: fields, 1: arrays of ints, 2: arrays of longs, 3: references that are set anew; then the cell, the place -/
abbrev XS : Type := Nat → Nat → Nat → Int
abbrev XR : Type := XS × Int
def xup (s : XS) (t c k : Nat) (v : Int) : XS := fun t' c' k' => if t' = t ∧ c' = c ∧ k' = k then v else s t' c' k'
def xcp (s : XS) (j i : Nat) (n : Int) : XS := fun t c k => if t = 1 ∧ c = i ∧ (k : Int) < n then s 1 j k else s t c k
noncomputable def xrF (S : Sp) (ad : Nat → Nat) (t : Option FT) (v : Option Value) : Nat :=
  match t with
  | none => 0
  | some q => @ite _ (q.1 = 3) (Nat.decEq _ _) (match v with
    | some (.ref a) => Classical.epsilon (fun j => Kd S j q.2.1.toNat ∧ ad j = a)
    | _ => 0) 0
noncomputable def xrI (S : Sp) (ad : Nat → Nat) (ws : va_W) (c k : Nat) : Nat :=
  match S.2.1 (S.1 c) with
  | .inr (.inr (.inr q)) => (match ws[c]? with
    | some (_, .inr (_, fs)) => xrF S ad q.2[k]? fs[k]?
    | _ => 0)
  | _ => 0
noncomputable def xso (S : Sp) (ad : Nat → Nat) (ws : va_W) (t c k : Nat) : Int := if t = 0 then (fI ws c k).toInt else if t = 1 then (aI ws c k).toInt else if t = 2 then (aL ws c k).toInt else if t = 3 then ((xrI S ad ws c k : Nat) : Int) else 0
theorem xso0 {S : Sp} {ad : Nat → Nat} {ws : va_W} {c k : Nat} : xso S ad ws 0 c k = (fI ws c k).toInt := by
  unfold xso; rw [if_pos rfl]
theorem xso1 {S : Sp} {ad : Nat → Nat} {ws : va_W} {c k : Nat} : xso S ad ws 1 c k = (aI ws c k).toInt := by
  unfold xso; rw [if_neg (by decide), if_pos rfl]
theorem xso2 {S : Sp} {ad : Nat → Nat} {ws : va_W} {c k : Nat} : xso S ad ws 2 c k = (aL ws c k).toInt := by
  unfold xso; rw [if_neg (by decide), if_neg (by decide), if_pos rfl]
theorem xso3 {S : Sp} {ad : Nat → Nat} {ws : va_W} {c k : Nat} : xso S ad ws 3 c k = ((xrI S ad ws c k : Nat) : Int) := by
  unfold xso; rw [if_neg (by decide), if_neg (by decide), if_neg (by decide), if_pos rfl]
theorem xso4 {S : Sp} {ad : Nat → Nat} {ws : va_W} {t c k : Nat} (h : 4 ≤ t) : xso S ad ws t c k = 0 := by
  unfold xso; rw [if_neg (by omega), if_neg (by omega), if_neg (by omega), if_neg (by omega)]
theorem xg0 {S : Sp} {ad : Nat → Nat} {ws : va_W} {c k : Nat} {v : Int32} (h : fI ws c k = v) : v.toInt = xso S ad ws 0 c k := by rw [xso0, h]
theorem xg1 {S : Sp} {ad : Nat → Nat} {ws : va_W} {c k : Nat} {v : Int32} (h : aI ws c k = v) : v.toInt = xso S ad ws 1 c k := by rw [xso1, h]
theorem xg2 {S : Sp} {ad : Nat → Nat} {ws : va_W} {c k : Nat} {v : Int64} (h : aL ws c k = v) : v.toInt = xso S ad ws 2 c k := by rw [xso2, h]
theorem xso_of {S : Sp} {ad : Nat → Nat} {a b : va_W} {c : Nat} (h : b[c]? = a[c]?) (t k : Nat) : xso S ad b t c k = xso S ad a t c k := by
  unfold xso xrI
  rw [fI_of h, aI_of h, aL_of h, h]
theorem xrF_n {S : Sp} {ad : Nat → Nat} {q : FT} {v : Option Value} (h : q.1 ≠ 3) : xrF S ad (some q) v = 0 := by
  unfold xrF
  exact if_neg h
theorem xrI_obj {S : Sp} {ad : Nat → Nat} {ws : va_W} {c k a ci cj : Nat} {fts : List FT} {fs : List Value} (hct : S.2.1 (S.1 c) = .inr (.inr (.inr (ci, fts)))) (h1 : ws[c]? = some (a, .inr (cj, fs))) : xrI S ad ws c k = xrF S ad fts[k]? fs[k]? := by
  unfold xrI
  rw [hct, h1]
theorem xrI_ints {S : Sp} {ad : Nat → Nat} {ws : va_W} {c k : Nat} {q : Nat × Nat × (Nat → Int × Int)} (hct : S.2.1 (S.1 c) = .inl q) : xrI S ad ws c k = 0 := by
  unfold xrI
  rw [hct]
theorem xrI_longs {S : Sp} {ad : Nat → Nat} {ws : va_W} {c k n : Nat} (hct : S.2.1 (S.1 c) = .inr (.inl n)) : xrI S ad ws c k = 0 := by
  unfold xrI
  rw [hct]
theorem fI_arr {ws : va_W} {i k a : Nat} {q : ClassId × vp_A} (h : ws[i]? = some (a, .inl q)) : fI ws i k = 0 := by
  unfold fI
  rw [h]
theorem aI_obj {ws : va_W} {i k a : Nat} {q : Nat × List Value} (h : ws[i]? = some (a, .inr q)) : aI ws i k = 0 := by
  unfold aI
  rw [h]
theorem aL_obj {ws : va_W} {i k a : Nat} {q : Nat × List Value} (h : ws[i]? = some (a, .inr q)) : aL ws i k = 0 := by
  unfold aL
  rw [h]
theorem aL_ints {ws : va_W} {i k a n : Nat} {z : ClassId} {f : Nat → Int32} (h : ws[i]? = some (a, .inl (z, n, .inl f))) : aL ws i k = 0 := by
  unfold aL
  rw [h]
theorem aI_longs {ws : va_W} {i k a n : Nat} {z : ClassId} {f : Nat → Int64} (h : ws[i]? = some (a, .inl (z, n, .inr (.inl f)))) : aI ws i k = 0 := by
  unfold aI
  rw [h]
theorem xup_s {s : XS} {t c k : Nat} {v : Int} : xup s t c k v t c k = v := if_pos ⟨rfl, rfl, rfl⟩
theorem xup_t {s : XS} {t c k t' c' k' : Nat} {v : Int} (h : t' ≠ t) : xup s t c k v t' c' k' = s t' c' k' := if_neg (fun q => h q.1)
theorem xup_c {s : XS} {t c k t' c' k' : Nat} {v : Int} (h : c' ≠ c) : xup s t c k v t' c' k' = s t' c' k' := if_neg (fun q => h q.2.1)
theorem xup_k {s : XS} {t c k t' c' k' : Nat} {v : Int} (h : k' ≠ k) : xup s t c k v t' c' k' = s t' c' k' := if_neg (fun q => h q.2.2)
section XT
variable {G : GG} {S : Sp} {ad : Nat → Nat} {a b : va_W} {i κ k j : Nat}
/-- an int array's place is set -/
theorem xso_A {v : Int32} {q : Nat × Nat × (Nat → Int × Int)} (hA : Ty G S ad a) (hB : Ty G S ad b) (hk : Kd S i κ) (hct : S.2.1 κ = .inl q) (u : UdA i j v a b) : xso S ad b = xup (xso S ad a) 1 i j v.toInt := by
  obtain ⟨f, g1, -⟩ := hA.ints hk hct
  obtain ⟨f', g2, -⟩ := hB.ints hk hct
  have hc2 : S.2.1 (S.1 i) = .inl q := by rw [hk.2]; exact hct
  funext t c k
  by_cases e : c = i
  · subst e
    rcases (show t = 0 ∨ t = 1 ∨ t = 2 ∨ t = 3 ∨ 4 ≤ t by omega) with rfl | rfl | rfl | rfl | ht
    · rw [xup_t (by decide), xso0, xso0, fI_arr g2, fI_arr g1]
    · by_cases e2 : k = j
      · subst e2; rw [xup_s, xso1, u.2.1]
      · rw [xup_k e2, xso1, xso1, u.2.2 k e2]
    · rw [xup_t (by decide), xso2, xso2, aL_ints g2, aL_ints g1]
    · rw [xup_t (by decide), xso3, xso3, xrI_ints hc2, xrI_ints hc2]
    · rw [xup_t (by omega), xso4 ht, xso4 ht]
  · rw [xup_c e]; exact xso_of (u.1 c e) t k
theorem xso_L {v : Int64} {n : Nat} (hA : Ty G S ad a) (hB : Ty G S ad b) (hk : Kd S i κ) (hct : S.2.1 κ = .inr (.inl n)) (u : UdL i j v a b) : xso S ad b = xup (xso S ad a) 2 i j v.toInt := by
  obtain ⟨f, g1⟩ := hA.longs hk hct
  obtain ⟨f', g2⟩ := hB.longs hk hct
  have hc2 : S.2.1 (S.1 i) = .inr (.inl n) := by rw [hk.2]; exact hct
  funext t c k
  by_cases e : c = i
  · subst e
    rcases (show t = 0 ∨ t = 1 ∨ t = 2 ∨ t = 3 ∨ 4 ≤ t by omega) with rfl | rfl | rfl | rfl | ht
    · rw [xup_t (by decide), xso0, xso0, fI_arr g2, fI_arr g1]
    · rw [xup_t (by decide), xso1, xso1, aI_longs g2, aI_longs g1]
    · by_cases e2 : k = j
      · subst e2; rw [xup_s, xso2, u.2.1]
      · rw [xup_k e2, xso2, xso2, u.2.2 k e2]
    · rw [xup_t (by decide), xso3, xso3, xrI_longs hc2, xrI_longs hc2]
    · rw [xup_t (by omega), xso4 ht, xso4 ht]
  · rw [xup_c e]; exact xso_of (u.1 c e) t k
theorem xso_C {n : Int} {q : Nat × Nat × (Nat → Int × Int)} (hA : Ty G S ad a) (hB : Ty G S ad b) (hk : Kd S i κ) (hct : S.2.1 κ = .inl q) (u : Ud i a b) (h1 : ∀ k : Nat, (k : Int) < n → aI b i k = aI a j k) (h2 : ∀ k : Nat, n ≤ (k : Int) → aI b i k = aI a i k) : xso S ad b = xcp (xso S ad a) j i n := by
  obtain ⟨f, g1, -⟩ := hA.ints hk hct
  obtain ⟨f', g2, -⟩ := hB.ints hk hct
  have hc2 : S.2.1 (S.1 i) = .inl q := by rw [hk.2]; exact hct
  funext t c k
  unfold xcp
  by_cases e : c = i
  · subst e
    rcases (show t = 0 ∨ t = 1 ∨ t = 2 ∨ t = 3 ∨ 4 ≤ t by omega) with rfl | rfl | rfl | rfl | ht
    · rw [if_neg (fun q => absurd q.1 (by decide)), xso0, xso0, fI_arr g2, fI_arr g1]
    · by_cases e2 : (k : Int) < n
      · rw [if_pos ⟨rfl, rfl, e2⟩, xso1, xso1, h1 k e2]
      · rw [if_neg (fun q => e2 q.2.2), xso1, xso1, h2 k (by omega)]
    · rw [if_neg (fun q => absurd q.1 (by decide)), xso2, xso2, aL_ints g2, aL_ints g1]
    · rw [if_neg (fun q => absurd q.1 (by decide)), xso3, xso3, xrI_ints hc2, xrI_ints hc2]
    · rw [if_neg (fun q => by omega), xso4 ht, xso4 ht]
  · rw [if_neg (fun q => e q.2.1)]; exact xso_of (u c e) t k
/-- a method that changes no cell of the type -/
theorem xso_0 (hA : Ty G S ad a) (hB : Ty G S ad b) (h : Fr S [] a b) : xso S ad b = xso S ad a := by
  funext t c k
  refine xso_of ?_ t k
  by_cases e : c < S.2.2
  · exact h c _ ⟨e, rfl⟩ (fun q => by cases q)
  · rw [List.getElem?_eq_none (by rw [hB.1]; omega), List.getElem?_eq_none (by rw [hA.1]; omega)]
end XT
section XP
variable {p : Program} {l : Launch} {e : Env} {R : Room} {s : State} {m : MethodId} {args : Array Value} {below : List Frame} {meth : Method} {c : Code} {H : Heap} {locs : List Loc} {cells slots : Nat} {Q : State → Prop}
variable {cc : ByteArray} {pc nL : Nat} {ls : Array Slot} {rest st0 : List Value} {G : GG} {A : Nat → Prop} {ws : va_W} {own : String} {ret : Option FieldType} {S : Sp} {ad : Nat → Nat} {Z : RZ} {i κ k ci N index : Nat} {fts : List FT} {C : String} {T : u_T}
theorem xso_put {lo hi : Int} {v : Int32} {fs : List Value} (hlen : i < ws.length) (hct : S.2.1 (S.1 i) = .inr (.inr (.inr (ci, fts)))) (h1 : ws[i]? = some (ad i, .inr (ci, fs))) (hl : k < fs.length) (hf : fts[k]? = some (0, lo, hi)) : xso S ad (ws.set i (ad i, .inr (ci, fs.set k (.int v)))) = xup (xso S ad ws) 0 i k v.toInt := by
  have g2 : (ws.set i (ad i, .inr (ci, fs.set k (.int v))))[i]? = some (ad i, .inr (ci, fs.set k (.int v))) := List.getElem?_set_self hlen
  funext t c k'
  by_cases e : c = i
  · subst e
    rcases (show t = 0 ∨ t = 1 ∨ t = 2 ∨ t = 3 ∨ 4 ≤ t by omega) with rfl | rfl | rfl | rfl | ht
    · rw [xso0]
      by_cases e2 : k' = k
      · subst e2
        rw [xup_s]
        unfold fI
        rw [g2]
        simp only [List.getElem?_set_self hl]
      · rw [xup_k e2, xso0]
        unfold fI
        rw [g2, h1]
        simp only [List.getElem?_set_ne (fun q => e2 q.symm)]
    · rw [xup_t (by decide), xso1, xso1, aI_obj g2, aI_obj h1]
    · rw [xup_t (by decide), xso2, xso2, aL_obj g2, aL_obj h1]
    · rw [xup_t (by decide), xso3, xso3, xrI_obj hct g2, xrI_obj hct h1]
      by_cases e2 : k' = k
      · subst e2
        rw [hf, xrF_n (by show (0 : Nat) ≠ 3; decide), xrF_n (by show (0 : Nat) ≠ 3; decide)]
      · rw [List.getElem?_set_ne (fun q => e2 q.symm)]
    · rw [xup_t (by omega), xso4 ht, xso4 ht]
  · rw [xup_c e]
    exact xso_of (List.getElem?_set_ne (fun q => e q.symm)) t k'
theorem y_putIx {lo hi : Int} {v : Int32} (ty0 : Nat → FieldType) (hty : ∀ k, k < N → parseFieldDescriptor (T k).2.2.1 = some (ty0 k)) (hnm : ∀ a, a < N → ∀ b, b < N → a ≠ b → (T a).2.1 ≠ (T b).2.1) (hfin : (T k).2.2.2 = false) (hn : narrow (ty0 k) (.int v) = .int v) (hfit : fits (ty0 k) (.int v) = true) (C0 : Cx p s m args meth c own cc nL ret) (h : Wt G S ad A s H locs ws) (hk : Kd S i κ) (hct : S.2.1 κ = .inr (.inr (.inr (ci, fts)))) (hf : fts[k]? = some (0, lo, hi)) (hc : vwCl[ci]? = some (C, T, N)) (hin : ∀ w ∈ u_ws C T N, w ∈ lw_gd) (hN : k < N) (hlink : Cond.fieldLink own index (T k).1 (T k).2.1 (T k).2.2.1 ∈ lw_gd) (hlo : lo ≤ v.toInt) (hhi : v.toInt ≤ hi) (hdg : decode cc pc = .ok (.putfield index, 3))
    (kk : ∀ (H1 : Heap) (locs1 : List Loc) (ws1 : va_W), Wt G S ad A s H1 locs1 ws1 → UdF i k v ws ws1 → xso S ad ws1 = xup (xso S ad ws) 0 i k v.toInt → W p l e R s m args below meth c H1 locs1 cells slots Q (F0 m (pc + 3) ls rest)) : W p l e R s m args below meth c H locs cells slots Q (F0 m pc ls (.int v :: .ref (ad i) :: rest)) := by
  obtain ⟨fs, h1, h2, h3⟩ := h.2.obj hk hct
  have hl : k < fs.length := by rw [h2]; exact (List.getElem?_eq_some_iff.mp hf).1
  have hlen : i < ws.length := by rw [h.2.1]; exact hk.1
  refine m_put C0 h.1 i ty0 hty hnm hc hin hN hlink hfin h1 hl hn hfit rfl hdg (fun H1 locs1 hw => kk H1 locs1 _ ⟨hw, h.2.set hk.1 ?_⟩ ⟨Ud.set, ?_, ?_⟩ (xso_put hlen (by rw [hk.2]; exact hct) h1 hl hf))
  · rw [hk.2, hct]
    obtain ⟨g1, g2⟩ := fts_set h2 h3 (v := .int v) hf ⟨v, rfl, hlo, hhi⟩
    exact ⟨_, rfl, g1, g2⟩
  · unfold fI
    rw [List.getElem?_set_self hlen]
    simp only [List.getElem?_set_self hl]
  · intro k' hk'
    unfold fI
    rw [List.getElem?_set_self hlen, h1]
    simp only [List.getElem?_set_ne (fun e => hk' e.symm)]
theorem ad_inj {j j' : Nat} (h : Wt G S ad A s H locs ws) (hj : j < S.2.2) (hj' : j' < S.2.2) (e : ad j = ad j') : j = j' := by
  obtain ⟨e1, q1, -⟩ := h.2.2 j hj
  obtain ⟨e2, q2, -⟩ := h.2.2 j' hj'
  exact h.1.2.2.1.1 j j' _ _ q1 q2 e
theorem xrF_ref {j : Nat} {μ z : Int} (h : Wt G S ad A s H locs ws) (hj : Kd S j μ.toNat) : xrF S ad (some (3, μ, z)) (some (.ref (ad j))) = j := by
  unfold xrF
  show @ite _ ((3 : Nat) = 3) _ (Classical.epsilon (fun j' => Kd S j' μ.toNat ∧ ad j' = ad j)) 0 = j
  rw [if_pos rfl]
  have q := Classical.epsilon_spec (p := fun j' => Kd S j' μ.toNat ∧ ad j' = ad j) ⟨j, hj, rfl⟩
  exact ad_inj h q.1.1 hj.1 q.2
theorem y_get3x {μ z : Int} (C0 : Cx p s m args meth c own cc nL ret) (h : Wt G S ad A s H locs ws) (hk : Kd S i κ) (hct : S.2.1 κ = .inr (.inr (.inr (ci, fts)))) (hf : fts[k]? = some (3, μ, z)) (hc : vwCl[ci]? = some (C, T, N)) (hin : ∀ w ∈ u_ws C T N, w ∈ lw_gd) (hN : k < N) (hlink : Cond.fieldLink own index (T k).1 (T k).2.1 (T k).2.2.1 ∈ lw_gd) (hdg : decode cc pc = .ok (.getfield index, 3))
    (kk : ∀ j : Nat, Kd S j μ.toNat → j = Int.toNat (xso S ad ws 3 i k) → W p l e R s m args below meth c H locs cells slots Q (F0 m (pc + 3) ls (.ref (ad j) :: rest))) : W p l e R s m args below meth c H locs cells slots Q (F0 m pc ls (.ref (ad i) :: rest)) := by
  obtain ⟨fs, h1, h2, h3⟩ := h.2.obj hk hct
  obtain ⟨v, h4, j, h5, h6, h7⟩ := h3 k _ hf
  cases h7
  refine m_get C0 h.1 i h1 hc hin hN hlink h4 hdg (kk j ⟨h5, h6⟩ ?_)
  rw [xso3, xrI_obj (by rw [hk.2]; exact hct) h1, hf, h4, xrF_ref h ⟨h5, h6⟩]
  rfl
theorem y_put3x {μ z : Int} {j : Nat} (ty0 : Nat → FieldType) (hty : ∀ k, k < N → parseFieldDescriptor (T k).2.2.1 = some (ty0 k)) (hnm : ∀ a, a < N → ∀ b, b < N → a ≠ b → (T a).2.1 ≠ (T b).2.1) (hfin : (T k).2.2.2 = false) (hn : narrow (ty0 k) (.ref (ad j)) = .ref (ad j)) (hfit : fits (ty0 k) (.ref (ad j)) = true) (C0 : Cx p s m args meth c own cc nL ret) (h : Wt G S ad A s H locs ws) (hk : Kd S i κ) (hct : S.2.1 κ = .inr (.inr (.inr (ci, fts)))) (hf : fts[k]? = some (3, μ, z)) (hc : vwCl[ci]? = some (C, T, N)) (hin : ∀ w ∈ u_ws C T N, w ∈ lw_gd) (hN : k < N) (hlink : Cond.fieldLink own index (T k).1 (T k).2.1 (T k).2.2.1 ∈ lw_gd) (hj : Kd S j μ.toNat) (hdg : decode cc pc = .ok (.putfield index, 3))
    (kk : ∀ (H1 : Heap) (locs1 : List Loc) (ws1 : va_W), Wt G S ad A s H1 locs1 ws1 → UdR i k ws ws1 → xso S ad ws1 = xup (xso S ad ws) 3 i k ((j : Nat) : Int) → W p l e R s m args below meth c H1 locs1 cells slots Q (F0 m (pc + 3) ls rest)) : W p l e R s m args below meth c H locs cells slots Q (F0 m pc ls (.ref (ad j) :: .ref (ad i) :: rest)) := by
  obtain ⟨fs, h1, h2, h3⟩ := h.2.obj hk hct
  have hl : k < fs.length := by rw [h2]; exact (List.getElem?_eq_some_iff.mp hf).1
  have hlen : i < ws.length := by rw [h.2.1]; exact hk.1
  have hct2 : S.2.1 (S.1 i) = .inr (.inr (.inr (ci, fts))) := by rw [hk.2]; exact hct
  have g2 : (ws.set i (ad i, .inr (ci, fs.set k (.ref (ad j)))))[i]? = some (ad i, .inr (ci, fs.set k (.ref (ad j)))) := List.getElem?_set_self hlen
  refine m_put C0 h.1 i ty0 hty hnm hc hin hN hlink hfin h1 hl hn hfit rfl hdg (fun H1 locs1 hw => kk H1 locs1 _ ⟨hw, h.2.set hk.1 ?_⟩ ⟨Ud.set, ?_⟩ ?_)
  · rw [hk.2, hct]
    obtain ⟨g1, g2⟩ := fts_set h2 h3 (v := .ref (ad j)) hf ⟨j, hj.1, hj.2, rfl⟩
    exact ⟨_, rfl, g1, g2⟩
  · intro k' hk'
    unfold fI
    rw [List.getElem?_set_self hlen, h1]
    simp only [List.getElem?_set_ne (fun e => hk' e.symm)]
  · funext t c k'
    by_cases e : c = i
    · subst e
      rcases (show t = 0 ∨ t = 1 ∨ t = 2 ∨ t = 3 ∨ 4 ≤ t by omega) with rfl | rfl | rfl | rfl | ht
      · rw [xup_t (by decide), xso0, xso0]
        by_cases e2 : k' = k
        · subst e2
          obtain ⟨v, h4, j0, h5, h6, h7⟩ := h3 k' _ hf
          unfold fI
          rw [g2, h1]
          simp only [List.getElem?_set_self hl, h4, h7]
        · unfold fI
          rw [g2, h1]
          simp only [List.getElem?_set_ne (fun q => e2 q.symm)]
      · rw [xup_t (by decide), xso1, xso1, aI_obj g2, aI_obj h1]
      · rw [xup_t (by decide), xso2, xso2, aL_obj g2, aL_obj h1]
      · by_cases e2 : k' = k
        · subst e2
          rw [xup_s, xso3, xrI_obj hct2 g2, hf, List.getElem?_set_self hl, xrF_ref h hj]
        · rw [xup_k e2, xso3, xso3, xrI_obj hct2 g2, xrI_obj hct2 h1, List.getElem?_set_ne (fun q => e2 q.symm)]
      · rw [xup_t (by omega), xso4 ht, xso4 ht]
    · rw [xup_c e]
      exact xso_of (List.getElem?_set_ne (fun q => e q.symm)) t k'
end XP
def Xiadd (a b : Int) : Int := ((Int32.ofInt a) + (Int32.ofInt b)).toInt
theorem ix_iadd {z x y : Int32} (h : z = x + y) : z.toInt = Xiadd x.toInt y.toInt := by subst h; unfold Xiadd; rw [Int32.ofInt_toInt, Int32.ofInt_toInt]
def Xisub (a b : Int) : Int := ((Int32.ofInt a) - (Int32.ofInt b)).toInt
theorem ix_isub {z x y : Int32} (h : z = x - y) : z.toInt = Xisub x.toInt y.toInt := by subst h; unfold Xisub; rw [Int32.ofInt_toInt, Int32.ofInt_toInt]
def Ximul (a b : Int) : Int := ((Int32.ofInt a) * (Int32.ofInt b)).toInt
theorem ix_imul {z x y : Int32} (h : z = x * y) : z.toInt = Ximul x.toInt y.toInt := by subst h; unfold Ximul; rw [Int32.ofInt_toInt, Int32.ofInt_toInt]
def Xiand (a b : Int) : Int := ((Int32.ofInt a) &&& (Int32.ofInt b)).toInt
theorem ix_iand {z x y : Int32} (h : z = x &&& y) : z.toInt = Xiand x.toInt y.toInt := by subst h; unfold Xiand; rw [Int32.ofInt_toInt, Int32.ofInt_toInt]
def Xior (a b : Int) : Int := ((Int32.ofInt a) ||| (Int32.ofInt b)).toInt
theorem ix_ior {z x y : Int32} (h : z = x ||| y) : z.toInt = Xior x.toInt y.toInt := by subst h; unfold Xior; rw [Int32.ofInt_toInt, Int32.ofInt_toInt]
def Xixor (a b : Int) : Int := ((Int32.ofInt a) ^^^ (Int32.ofInt b)).toInt
theorem ix_ixor {z x y : Int32} (h : z = x ^^^ y) : z.toInt = Xixor x.toInt y.toInt := by subst h; unfold Xixor; rw [Int32.ofInt_toInt, Int32.ofInt_toInt]
def Xishl (a b : Int) : Int := ((Int32.ofInt a) <<< ((Int32.ofInt b) &&& 31)).toInt
theorem ix_ishl {z x y : Int32} (h : z = x <<< (y &&& 31)) : z.toInt = Xishl x.toInt y.toInt := by subst h; unfold Xishl; rw [Int32.ofInt_toInt, Int32.ofInt_toInt]
def Xishr (a b : Int) : Int := ((Int32.ofInt a) >>> ((Int32.ofInt b) &&& 31)).toInt
theorem ix_ishr {z x y : Int32} (h : z = x >>> (y &&& 31)) : z.toInt = Xishr x.toInt y.toInt := by subst h; unfold Xishr; rw [Int32.ofInt_toInt, Int32.ofInt_toInt]
def Xiushr (a b : Int) : Int := (((Int32.ofInt a).toUInt32 >>> ((Int32.ofInt b).toUInt32 &&& Int32.toUInt32 31)).toInt32).toInt
theorem ix_iushr {z x y : Int32} (h : z = (x.toUInt32 >>> (y.toUInt32 &&& Int32.toUInt32 31)).toInt32) : z.toInt = Xiushr x.toInt y.toInt := by subst h; unfold Xiushr; rw [Int32.ofInt_toInt, Int32.ofInt_toInt]
def Xineg (a : Int) : Int := (-(Int32.ofInt a)).toInt
theorem ix_ineg {z x : Int32} (h : z = -x) : z.toInt = Xineg x.toInt := by subst h; unfold Xineg; rw [Int32.ofInt_toInt]
def Xladd (a b : Int) : Int := ((Int64.ofInt a) + (Int64.ofInt b)).toInt
theorem ix_ladd {z x y : Int64} (h : z = x + y) : z.toInt = Xladd x.toInt y.toInt := by subst h; unfold Xladd; rw [Int64.ofInt_toInt, Int64.ofInt_toInt]
def Xlsub (a b : Int) : Int := ((Int64.ofInt a) - (Int64.ofInt b)).toInt
theorem ix_lsub {z x y : Int64} (h : z = x - y) : z.toInt = Xlsub x.toInt y.toInt := by subst h; unfold Xlsub; rw [Int64.ofInt_toInt, Int64.ofInt_toInt]
def Xlmul (a b : Int) : Int := ((Int64.ofInt a) * (Int64.ofInt b)).toInt
theorem ix_lmul {z x y : Int64} (h : z = x * y) : z.toInt = Xlmul x.toInt y.toInt := by subst h; unfold Xlmul; rw [Int64.ofInt_toInt, Int64.ofInt_toInt]
def Xland (a b : Int) : Int := ((Int64.ofInt a) &&& (Int64.ofInt b)).toInt
theorem ix_land {z x y : Int64} (h : z = x &&& y) : z.toInt = Xland x.toInt y.toInt := by subst h; unfold Xland; rw [Int64.ofInt_toInt, Int64.ofInt_toInt]
def Xlor (a b : Int) : Int := ((Int64.ofInt a) ||| (Int64.ofInt b)).toInt
theorem ix_lor {z x y : Int64} (h : z = x ||| y) : z.toInt = Xlor x.toInt y.toInt := by subst h; unfold Xlor; rw [Int64.ofInt_toInt, Int64.ofInt_toInt]
def Xlshr (a b : Int) : Int := ((Int64.ofInt a) >>> ((Int32.ofInt b).toInt64 &&& 63)).toInt
theorem ix_lshr {z x : Int64} {y : Int32} (h : z = x >>> (y.toInt64 &&& 63)) : z.toInt = Xlshr x.toInt y.toInt := by subst h; unfold Xlshr; rw [Int64.ofInt_toInt, Int32.ofInt_toInt]
def Xi2b (a : Int) : Int := ((Int32.ofInt a).toInt8.toInt32).toInt
theorem ix_i2b {z : Int32} {x : Int32} (h : z = (x).toInt8.toInt32) : z.toInt = Xi2b x.toInt := by subst h; unfold Xi2b; rw [Int32.ofInt_toInt]
def Xi2s (a : Int) : Int := ((Int32.ofInt a).toInt16.toInt32).toInt
theorem ix_i2s {z : Int32} {x : Int32} (h : z = (x).toInt16.toInt32) : z.toInt = Xi2s x.toInt := by subst h; unfold Xi2s; rw [Int32.ofInt_toInt]
def Xi2c (a : Int) : Int := (((Int32.ofInt a).toUInt32 % 65536).toInt32).toInt
theorem ix_i2c {z : Int32} {x : Int32} (h : z = ((x).toUInt32 % 65536).toInt32) : z.toInt = Xi2c x.toInt := by subst h; unfold Xi2c; rw [Int32.ofInt_toInt]
def Xl2i (a : Int) : Int := ((Int64.ofInt a).toInt32).toInt
theorem ix_l2i {z : Int32} {x : Int64} (h : z = (x).toInt32) : z.toInt = Xl2i x.toInt := by subst h; unfold Xl2i; rw [Int64.ofInt_toInt]
def Xidiv (a b : Int) : Int := (Int32.ofInt a / Int32.ofInt b).toInt
theorem ix_idiv {z x y : Int32} (h : z = x / y) : z.toInt = Xidiv x.toInt y.toInt := by subst h; unfold Xidiv; rw [Int32.ofInt_toInt, Int32.ofInt_toInt]
def Xirem (a b : Int) : Int := (Int32.ofInt a - Int32.ofInt a / Int32.ofInt b * Int32.ofInt b).toInt
theorem ix_irem {z x y : Int32} (h : z = x - x / y * y) : z.toInt = Xirem x.toInt y.toInt := by subst h; unfold Xirem; rw [Int32.ofInt_toInt, Int32.ofInt_toInt]
def Xcmp (a b : Int) : Int := if b < a then 1 else if a = b then 0 else -1
theorem ix_cmp {z a b : Int} (h : (z = -1 ∧ a < b) ∨ (z = 0 ∧ a = b) ∨ (z = 1 ∧ b < a)) : z = Xcmp a b := by
  unfold Xcmp
  (repeat' split) <;> omega
theorem ix_max {z a b : Int} (h : (z = a ∧ b ≤ a) ∨ (z = b ∧ a ≤ b)) : z = max a b := by omega
theorem ix_min {z a b : Int} (h : (z = a ∧ a ≤ b) ∨ (z = b ∧ b ≤ a)) : z = min a b := by omega

section XO
variable {p : Program} {l : Launch} {e : Env} {R : Room} {s : State} {m : MethodId} {args : Array Value} {below : List Frame} {meth : Method} {c : Code} {H : Heap} {locs : List Loc} {cells slots : Nat} {Q : State → Prop}
variable {cc : ByteArray} {pc nL : Nat} {ls : Array Slot} {rest st0 : List Value} {own : String} {ret : Option FieldType} {index : Nat} {x y : Int32} {a b : Int64}

theorem xr_iadd (C0 : Cx p s m args meth c own cc nL ret) (hdg : decode cc pc = .ok (.iadd, 1)) (kk : ∀ z : Int32, z.toInt = Xiadd x.toInt y.toInt → W p l e R s m args below meth c H locs cells slots Q (F0 m (pc + 1) ls (.int z :: rest))) : W p l e R s m args below meth c H locs cells slots Q (F0 m pc ls (.int y :: .int x :: rest)) := lv_iadd C0.1 C0.2.1 hdg (kk _ (ix_iadd rfl))
theorem xr_isub (C0 : Cx p s m args meth c own cc nL ret) (hdg : decode cc pc = .ok (.isub, 1)) (kk : ∀ z : Int32, z.toInt = Xisub x.toInt y.toInt → W p l e R s m args below meth c H locs cells slots Q (F0 m (pc + 1) ls (.int z :: rest))) : W p l e R s m args below meth c H locs cells slots Q (F0 m pc ls (.int y :: .int x :: rest)) := lv_isub C0.1 C0.2.1 hdg (kk _ (ix_isub rfl))
theorem xr_imul (C0 : Cx p s m args meth c own cc nL ret) (hdg : decode cc pc = .ok (.imul, 1)) (kk : ∀ z : Int32, z.toInt = Ximul x.toInt y.toInt → W p l e R s m args below meth c H locs cells slots Q (F0 m (pc + 1) ls (.int z :: rest))) : W p l e R s m args below meth c H locs cells slots Q (F0 m pc ls (.int y :: .int x :: rest)) := lv_imul C0.1 C0.2.1 hdg (kk _ (ix_imul rfl))
theorem xr_iand (C0 : Cx p s m args meth c own cc nL ret) (hdg : decode cc pc = .ok (.iand, 1)) (kk : ∀ z : Int32, z.toInt = Xiand x.toInt y.toInt → W p l e R s m args below meth c H locs cells slots Q (F0 m (pc + 1) ls (.int z :: rest))) : W p l e R s m args below meth c H locs cells slots Q (F0 m pc ls (.int y :: .int x :: rest)) := lv_iand C0.1 C0.2.1 hdg (kk _ (ix_iand rfl))
theorem xr_ior (C0 : Cx p s m args meth c own cc nL ret) (hdg : decode cc pc = .ok (.ior, 1)) (kk : ∀ z : Int32, z.toInt = Xior x.toInt y.toInt → W p l e R s m args below meth c H locs cells slots Q (F0 m (pc + 1) ls (.int z :: rest))) : W p l e R s m args below meth c H locs cells slots Q (F0 m pc ls (.int y :: .int x :: rest)) := lv_ior C0.1 C0.2.1 hdg (kk _ (ix_ior rfl))
theorem xr_ixor (C0 : Cx p s m args meth c own cc nL ret) (hdg : decode cc pc = .ok (.ixor, 1)) (kk : ∀ z : Int32, z.toInt = Xixor x.toInt y.toInt → W p l e R s m args below meth c H locs cells slots Q (F0 m (pc + 1) ls (.int z :: rest))) : W p l e R s m args below meth c H locs cells slots Q (F0 m pc ls (.int y :: .int x :: rest)) := lv_ixor C0.1 C0.2.1 hdg (kk _ (ix_ixor rfl))
theorem xr_ishl (C0 : Cx p s m args meth c own cc nL ret) (hdg : decode cc pc = .ok (.ishl, 1)) (kk : ∀ z : Int32, z.toInt = Xishl x.toInt y.toInt → W p l e R s m args below meth c H locs cells slots Q (F0 m (pc + 1) ls (.int z :: rest))) : W p l e R s m args below meth c H locs cells slots Q (F0 m pc ls (.int y :: .int x :: rest)) := lv_ishl C0.1 C0.2.1 hdg (kk _ (ix_ishl rfl))
theorem xr_ishr (C0 : Cx p s m args meth c own cc nL ret) (hdg : decode cc pc = .ok (.ishr, 1)) (kk : ∀ z : Int32, z.toInt = Xishr x.toInt y.toInt → W p l e R s m args below meth c H locs cells slots Q (F0 m (pc + 1) ls (.int z :: rest))) : W p l e R s m args below meth c H locs cells slots Q (F0 m pc ls (.int y :: .int x :: rest)) := lv_ishr C0.1 C0.2.1 hdg (kk _ (ix_ishr rfl))
theorem xr_iushr (C0 : Cx p s m args meth c own cc nL ret) (hdg : decode cc pc = .ok (.iushr, 1)) (kk : ∀ z : Int32, z.toInt = Xiushr x.toInt y.toInt → W p l e R s m args below meth c H locs cells slots Q (F0 m (pc + 1) ls (.int z :: rest))) : W p l e R s m args below meth c H locs cells slots Q (F0 m pc ls (.int y :: .int x :: rest)) := lv_iushr C0.1 C0.2.1 hdg rfl (kk _ (ix_iushr rfl))
theorem xr_ineg (C0 : Cx p s m args meth c own cc nL ret) (hdg : decode cc pc = .ok (.ineg, 1)) (kk : ∀ z : Int32, z.toInt = Xineg x.toInt → W p l e R s m args below meth c H locs cells slots Q (F0 m (pc + 1) ls (.int z :: rest))) : W p l e R s m args below meth c H locs cells slots Q (F0 m pc ls (.int x :: rest)) := lv_ineg C0.1 C0.2.1 hdg (kk _ (ix_ineg rfl))
theorem xr_ladd (C0 : Cx p s m args meth c own cc nL ret) (hdg : decode cc pc = .ok (.ladd, 1)) (kk : ∀ z : Int64, z.toInt = Xladd a.toInt b.toInt → W p l e R s m args below meth c H locs cells slots Q (F0 m (pc + 1) ls (.long z :: rest))) : W p l e R s m args below meth c H locs cells slots Q (F0 m pc ls (.long b :: .long a :: rest)) := lv_ladd C0.1 C0.2.1 hdg (kk _ (ix_ladd rfl))
theorem xr_lsub (C0 : Cx p s m args meth c own cc nL ret) (hdg : decode cc pc = .ok (.lsub, 1)) (kk : ∀ z : Int64, z.toInt = Xlsub a.toInt b.toInt → W p l e R s m args below meth c H locs cells slots Q (F0 m (pc + 1) ls (.long z :: rest))) : W p l e R s m args below meth c H locs cells slots Q (F0 m pc ls (.long b :: .long a :: rest)) := lv_lsub C0.1 C0.2.1 hdg (kk _ (ix_lsub rfl))
theorem xr_lmul (C0 : Cx p s m args meth c own cc nL ret) (hdg : decode cc pc = .ok (.lmul, 1)) (kk : ∀ z : Int64, z.toInt = Xlmul a.toInt b.toInt → W p l e R s m args below meth c H locs cells slots Q (F0 m (pc + 1) ls (.long z :: rest))) : W p l e R s m args below meth c H locs cells slots Q (F0 m pc ls (.long b :: .long a :: rest)) := lv_lmul C0.1 C0.2.1 hdg (kk _ (ix_lmul rfl))
theorem xr_land (C0 : Cx p s m args meth c own cc nL ret) (hdg : decode cc pc = .ok (.land, 1)) (kk : ∀ z : Int64, z.toInt = Xland a.toInt b.toInt → W p l e R s m args below meth c H locs cells slots Q (F0 m (pc + 1) ls (.long z :: rest))) : W p l e R s m args below meth c H locs cells slots Q (F0 m pc ls (.long b :: .long a :: rest)) := lv_land C0.1 C0.2.1 hdg (kk _ (ix_land rfl))
theorem xr_lor (C0 : Cx p s m args meth c own cc nL ret) (hdg : decode cc pc = .ok (.lor, 1)) (kk : ∀ z : Int64, z.toInt = Xlor a.toInt b.toInt → W p l e R s m args below meth c H locs cells slots Q (F0 m (pc + 1) ls (.long z :: rest))) : W p l e R s m args below meth c H locs cells slots Q (F0 m pc ls (.long b :: .long a :: rest)) := lv_lor C0.1 C0.2.1 hdg (kk _ (ix_lor rfl))
theorem xr_lshr (C0 : Cx p s m args meth c own cc nL ret) (hdg : decode cc pc = .ok (.lshr, 1)) (kk : ∀ z : Int64, z.toInt = Xlshr a.toInt y.toInt → W p l e R s m args below meth c H locs cells slots Q (F0 m (pc + 1) ls (.long z :: rest))) : W p l e R s m args below meth c H locs cells slots Q (F0 m pc ls (.int y :: .long a :: rest)) := lv_lshr C0.1 C0.2.1 hdg rfl (kk _ (ix_lshr rfl))
theorem xr_i2b (C0 : Cx p s m args meth c own cc nL ret) (hdg : decode cc pc = .ok (.i2b, 1)) (kk : ∀ z : Int32, z.toInt = Xi2b x.toInt → W p l e R s m args below meth c H locs cells slots Q (F0 m (pc + 1) ls (.int z :: rest))) : W p l e R s m args below meth c H locs cells slots Q (F0 m pc ls (.int x :: rest)) := lv_i2b C0.1 C0.2.1 hdg rfl (kk _ (ix_i2b rfl))
theorem xr_i2s (C0 : Cx p s m args meth c own cc nL ret) (hdg : decode cc pc = .ok (.i2s, 1)) (kk : ∀ z : Int32, z.toInt = Xi2s x.toInt → W p l e R s m args below meth c H locs cells slots Q (F0 m (pc + 1) ls (.int z :: rest))) : W p l e R s m args below meth c H locs cells slots Q (F0 m pc ls (.int x :: rest)) := lv_i2s C0.1 C0.2.1 hdg rfl (kk _ (ix_i2s rfl))
theorem xr_i2c (C0 : Cx p s m args meth c own cc nL ret) (hdg : decode cc pc = .ok (.i2c, 1)) (kk : ∀ z : Int32, z.toInt = Xi2c x.toInt → W p l e R s m args below meth c H locs cells slots Q (F0 m (pc + 1) ls (.int z :: rest))) : W p l e R s m args below meth c H locs cells slots Q (F0 m pc ls (.int x :: rest)) := lv_i2c C0.1 C0.2.1 hdg rfl (kk _ (ix_i2c rfl))
theorem xr_l2i (C0 : Cx p s m args meth c own cc nL ret) (hdg : decode cc pc = .ok (.l2i, 1)) (kk : ∀ z : Int32, z.toInt = Xl2i a.toInt → W p l e R s m args below meth c H locs cells slots Q (F0 m (pc + 1) ls (.int z :: rest))) : W p l e R s m args below meth c H locs cells slots Q (F0 m pc ls (.long a :: rest)) := lv_l2i C0.1 C0.2.1 hdg rfl (kk _ (ix_l2i rfl))
theorem xr_idiv (C0 : Cx p s m args meth c own cc nL ret) (hy : y.toInt ≠ 0) (hdg : decode cc pc = .ok (.idiv, 1)) (kk : ∀ z : Int32, z.toInt = Xidiv x.toInt y.toInt → W p l e R s m args below meth c H locs cells slots Q (F0 m (pc + 1) ls (.int z :: rest))) : W p l e R s m args below meth c H locs cells slots Q (F0 m pc ls (.int y :: .int x :: rest)) := lv_idiv C0.1 C0.2.1 hdg (t_ne0 hy) (kk _ (ix_idiv rfl))
theorem xr_irem (C0 : Cx p s m args meth c own cc nL ret) (hy : y.toInt ≠ 0) (hdg : decode cc pc = .ok (.irem, 1)) (kk : ∀ z : Int32, z.toInt = Xirem x.toInt y.toInt → W p l e R s m args below meth c H locs cells slots Q (F0 m (pc + 1) ls (.int z :: rest))) : W p l e R s m args below meth c H locs cells slots Q (F0 m pc ls (.int y :: .int x :: rest)) := lv_irem C0.1 C0.2.1 hdg (t_ne0 hy) (kk _ (ix_irem rfl))
theorem xr_inc {j kp : Nat} {n : Int} {lv : List (Nat × Value)} (lv' : Int32 → List (Nat × Value)) (C0 : Cx p s m args meth c own cc nL ret) (h : lv_has ls nL lv) (hk : lv[kp]? = some (j, .int x)) (hi : j < nL) (hl : ∀ z : Int32, (j, Value.int z) :: lv.filter (fun q => !(q.1 == j) && !(q.1 + 1 == j && q.2.category == 2)) = lv' z) (hdg : decode cc pc = .ok (.iinc j n, 3)) (kk : ∀ (z : Int32) (ls' : Array Slot), z.toInt = Xiadd x.toInt n → lv_has ls' nL (lv' z) → W p l e R s m args below meth c H locs cells slots Q (F0 m (pc + 3) ls' rest)) : W p l e R s m args below meth c H locs cells slots Q (F0 m pc ls rest) := lv_iinc C0.1 C0.2.1 hdg h hk rfl hi (hl _) (fun ls' h' => kk _ ls' (by unfold Xiadd; rw [Int32.ofInt_toInt]) h')
theorem y_divXm (C0 : Cx p s m args meth c own cc nL ret) (hy : 0 < y.toInt) (hx : 0 ≤ x.toInt) (hdg : decode cc pc = .ok (.idiv, 1)) (kk : ∀ z : Int32, z.toInt = x.toInt / y.toInt → 0 ≤ z.toInt → z.toInt ≤ x.toInt → W p l e R s m args below meth c H locs cells slots Q (F0 m (pc + 1) ls (.int z :: rest))) : W p l e R s m args below meth c H locs cells slots Q (F0 m pc ls (.int y :: .int x :: rest)) := lv_idiv C0.1 C0.2.1 hdg (t_ne0 (by omega)) (kk _ (t_div hx hy) (by rw [t_div hx hy]; exact Int.ediv_nonneg hx (by omega)) (by rw [t_div hx hy]; exact Int.ediv_le_self _ hx))
theorem y_remXm (C0 : Cx p s m args meth c own cc nL ret) (hy : 0 < y.toInt) (hx : 0 ≤ x.toInt) (hdg : decode cc pc = .ok (.irem, 1)) (kk : ∀ z : Int32, z.toInt = x.toInt % y.toInt → 0 ≤ z.toInt → z.toInt < y.toInt → W p l e R s m args below meth c H locs cells slots Q (F0 m (pc + 1) ls (.int z :: rest))) : W p l e R s m args below meth c H locs cells slots Q (F0 m pc ls (.int y :: .int x :: rest)) := lv_irem C0.1 C0.2.1 hdg (t_ne0 (by omega)) (kk _ (t_rem hx hy) (by rw [t_rem hx hy]; exact Int.emod_nonneg _ (by omega)) (by rw [t_rem hx hy]; exact Int.emod_lt_of_pos _ hy))
theorem xb_i2b {z x : Int32} (h : z.toInt = Xi2b x.toInt) : -128 ≤ z.toInt ∧ z.toInt ≤ 127 := by
  have q := nar_by x
  rw [vp_nar_byte] at q
  rw [h]
  unfold Xi2b
  rw [Int32.ofInt_toInt]
  exact q
theorem xb_i2c {z x : Int32} (h : z.toInt = Xi2c x.toInt) : 0 ≤ z.toInt ∧ z.toInt ≤ 65535 := by
  rw [h]
  unfold Xi2c
  rw [Int32.ofInt_toInt, pk_char, nI_toInt (by omega)]
  omega
theorem xb_ushr {z x y : Int32} {n : Int} (c : Int32) (k : Nat) (h : z.toInt = Xiushr x.toInt y.toInt) (hc : y.toInt = c.toInt) (hm : ((c.toUInt32 &&& Int32.toUInt32 31).toBitVec % 32).toNat = k) (hk : 1 ≤ k) (hn : (4294967295 : Int) / 2 ^ k = n) : 0 ≤ z.toInt ∧ z.toInt ≤ n := by
  have q := t_ushr (x := x) c k hc hm hk
  rw [h, ← hn]
  unfold Xiushr
  rw [Int32.ofInt_toInt, Int32.ofInt_toInt]
  exact q
theorem xb_and {z x y : Int32} {n : Int} (c : Int32) (k : Nat) (h : z.toInt = Xiand x.toInt y.toInt) (hc : y.toInt = c.toInt) (hm : c.toBitVec.toNat = 2 ^ k - 1) (hk : k ≤ 30) (hn : (2 : Int) ^ k - 1 = n) : 0 ≤ z.toInt ∧ z.toInt ≤ n := by
  have q := t_and (x := x) c k hc hm hk
  rw [h, ← hn]
  unfold Xiand
  rw [Int32.ofInt_toInt, Int32.ofInt_toInt]
  exact q
theorem nar_x (v : Int32) : (vp_nar .byte v).toInt = Xi2b v.toInt := by
  rw [vp_nar_byte]
  unfold Xi2b
  rw [Int32.ofInt_toInt]
theorem xr_mminL (C0 : Cx p s m args meth c own cc nL ret) (hls : ls.size = nL) (hl : Cond.methodLink own index yJ9_min_f86c9 ∈ lw_gd) (hstat : Cond.static yJ9_min_f86c9 ∈ lw_gd) (hini : Cond.initialized RJ9 ∈ lw_gd) (hcode : Cond.code yJ9_min_f86c9 cJ9_min_f86c9 4 (some .long) ∈ lw_gd) (hframes : 1 ≤ R.frames) (hlocals : (rest.map fun v => v.category).sum + 15 ≤ R.locals) (hc : cells ≤ R.cells) (hs : slots ≤ R.slots) {x y : Int64} (hdg : decode cc pc = .ok (.invokestatic index, 3)) (kk : ∀ z : Int64, z.toInt = min x.toInt y.toInt → W p l e R s m args below meth c H locs cells slots Q (F0 m (pc + 3) ls (.long z :: rest))) : W p l e R s m args below meth c H locs cells slots Q (F0 m pc ls (.long y :: .long x :: rest)) := by
  refine va_mmin_long C0.1 C0.2.1 (by rw [C0.2.2.1]; exact hls.symm) C0.2.2.2.1 (C0.2.2.2.2.1 _ hl) (C0.2.2.2.2.1 _ hstat) (C0.2.2.2.2.1 _ hini) (C0.2.2.2.2.1 _ hcode) hframes hlocals hc hs hdg (kk _ ?_)
  by_cases q : y < x
  · have q2 := Int64.lt_iff_toInt_lt.mp q
    rw [if_pos q]; omega
  · have q2 : ¬ y.toInt < x.toInt := fun z => q (Int64.lt_iff_toInt_lt.mpr z)
    rw [if_neg q]; omega
theorem xr_mmaxL (C0 : Cx p s m args meth c own cc nL ret) (hls : ls.size = nL) (hl : Cond.methodLink own index yJ9_max_f86c9 ∈ lw_gd) (hstat : Cond.static yJ9_max_f86c9 ∈ lw_gd) (hini : Cond.initialized RJ9 ∈ lw_gd) (hcode : Cond.code yJ9_max_f86c9 cJ9_max_f86c9 4 (some .long) ∈ lw_gd) (hframes : 1 ≤ R.frames) (hlocals : (rest.map fun v => v.category).sum + 15 ≤ R.locals) (hc : cells ≤ R.cells) (hs : slots ≤ R.slots) {x y : Int64} (hdg : decode cc pc = .ok (.invokestatic index, 3)) (kk : ∀ z : Int64, z.toInt = max x.toInt y.toInt → W p l e R s m args below meth c H locs cells slots Q (F0 m (pc + 3) ls (.long z :: rest))) : W p l e R s m args below meth c H locs cells slots Q (F0 m pc ls (.long y :: .long x :: rest)) := by
  refine va_mmax_long C0.1 C0.2.1 (by rw [C0.2.2.1]; exact hls.symm) C0.2.2.2.1 (C0.2.2.2.2.1 _ hl) (C0.2.2.2.2.1 _ hstat) (C0.2.2.2.2.1 _ hini) (C0.2.2.2.2.1 _ hcode) hframes hlocals hc hs hdg (kk _ ?_)
  by_cases q : y < x
  · have q2 := Int64.lt_iff_toInt_lt.mp q
    rw [if_pos q]; omega
  · have q2 : ¬ y.toInt < x.toInt := fun z => q (Int64.lt_iff_toInt_lt.mpr z)
    rw [if_neg q]; omega
end XO
