/-! typed worlds: read-only surroundings; cells by kinds; contracts over any world of the type -/
def strTx : List String := [";:+-*()[]=<>", "city", "wall", "free", "person", "north", "east", "south", "west", "lefts", "coins", "price", "x", "y", "hour", "day", "sold", "head", "may", "not", "and", "or", " city wall free person lefts coins price may north east south west or and not x y hour day sold head "]
def strLen : List Nat := [12, 4, 4, 4, 6, 5, 4, 5, 4, 5, 5, 5, 1, 1, 4, 3, 4, 4, 3, 3, 3, 2, 101]
def strByt : List (List Int32) := [[59, 58, 43, 45, 42, 40, 41, 91, 93, 61, 60, 62], [99, 105, 116, 121], [119, 97, 108, 108], [102, 114, 101, 101], [112, 101, 114, 115, 111, 110], [110, 111, 114, 116, 104], [101, 97, 115, 116], [115, 111, 117, 116, 104], [119, 101, 115, 116], [108, 101, 102, 116, 115], [99, 111, 105, 110, 115], [112, 114, 105, 99, 101], [120], [121], [104, 111, 117, 114], [100, 97, 121], [115, 111, 108, 100], [104, 101, 97, 100], [109, 97, 121], [110, 111, 116], [97, 110, 100], [111, 114], [32, 99, 105, 116, 121, 32, 119, 97, 108, 108, 32, 102, 114, 101, 101, 32, 112, 101, 114, 115, 111, 110, 32, 108, 101, 102, 116, 115, 32, 99, 111, 105, 110, 115, 32, 112, 114, 105, 99, 101, 32, 109, 97, 121, 32, 110, 111, 114, 116, 104, 32, 101, 97, 115, 116, 32, 115, 111, 117, 116, 104, 32, 119, 101, 115, 116, 32, 111, 114, 32, 97, 110, 100, 32, 110, 111, 116, 32, 120, 32, 121, 32, 104, 111, 117, 114, 32, 100, 97, 121, 32, 115, 111, 108, 100, 32, 104, 101, 97, 100, 32]]
def strPool : List (String × Nat × Nat) := [("LeftTurns$Reader", 80, 0), ("LeftTurns$Reader", 95, 1), ("LeftTurns$Reader", 103, 2), ("LeftTurns$Reader", 108, 3), ("LeftTurns$Reader", 113, 4), ("LeftTurns$Reader", 183, 5), ("LeftTurns$Reader", 185, 6), ("LeftTurns$Reader", 187, 7), ("LeftTurns$Reader", 189, 8), ("LeftTurns$Reader", 175, 9), ("LeftTurns$Reader", 177, 10), ("LeftTurns$Reader", 118, 11), ("LeftTurns$Reader", 218, 12), ("LeftTurns$Reader", 220, 13), ("LeftTurns$Reader", 135, 14), ("LeftTurns$Reader", 222, 15), ("LeftTurns$Reader", 224, 16), ("LeftTurns$Reader", 226, 17), ("LeftTurns$Reader", 127, 18), ("LeftTurns$Reader", 207, 19), ("LeftTurns$Reader", 205, 20), ("LeftTurns$Reader", 197, 21), ("LeftTurnsModel", 105, 22), ("LeftTurnsModel", 143, 0)]
abbrev RZ : Type := Nat × (Nat → Nat) × (Nat → Nat)
def tTurn : Nat → Int32
  | 0 => 0
  | 1 => 1
  | 2 => 3
  | _ => 2
/-- what is read and never written: TURNED, the text constants, two statics of the library -/
def Ro (Z : RZ) (A : Nat → Prop) (U : State) (H : Heap) : Prop :=
  (va_Z "LeftTurns" "TURNED" "[I" (.ref Z.1) A U H ∧ va_X Z.1 4 tTurn U H ∧ Z.1 < H.size ∧ ¬ A Z.1) ∧
  vk_S 23 strLen strByt Z.2.1 Z.2.2 A U H ∧
  va_Z "java/lang/String" "COMPACT_STRINGS" "Z" (.int 1) A U H ∧
  va_Zq "jdk/internal/util/Preconditions" "SIOOBE_FORMATTER" "Ljava/util/function/BiFunction;" A U H ∧
  (∀ (k : Nat) (q : String × Nat × Nat), strPool[k]? = some q → vk_R q.1 q.2.1 (strTx.getD q.2.2 "") (Z.2.1 q.2.2) U) ∧
  va_Nw (.fieldLinkNest "LeftTurns$City" 75 "LeftTurns" "TURNED" "[I" "LeftTurns") U ∧
  va_Nw (.fieldLinkNest "LeftTurns$Spread" 44 "LeftTurns" "TURNED" "[I" "LeftTurns") U ∧
  va_Nw (.fieldLinkNest "LeftTurns$Forecast" 74 "LeftTurns" "TURNED" "[I" "LeftTurns") U
theorem Ro.narrow {Z : RZ} {A B : Nat → Prop} {U : State} {H : Heap} (h : Ro Z A U H) (hAB : ∀ q, B q → A q) : Ro Z B U H := by
  obtain ⟨⟨h1, h2, h3, h4⟩, h5, h6, h7, h8⟩ := h
  exact ⟨⟨h1.narrow hAB, h2, h3, fun q => h4 (hAB _ q)⟩, h5.narrow hAB, h6.narrow hAB, h7.narrow hAB, h8⟩
theorem Ro.warm {Z : RZ} {A : Nat → Prop} {s U : State} {H : Heap} (hW : s.WarmedH U.vm) (h : Ro Z A s H) : Ro Z A U H := by
  obtain ⟨⟨h1, h2, h3, h4⟩, h5, h6, h7, h8, h9, h10, h11⟩ := h
  exact ⟨⟨h1.moved hW.alike, h2.moved hW.alike, h3, h4⟩, h5.moved hW.alike, h6.moved hW.alike, h7.moved hW.alike, fun k q hq => (h8 k q hq).warm hW, h9.warmF hW, h10.warmF hW, h11.warmF hW⟩
theorem Ro.same {Z : RZ} {A : Nat → Prop} {u U : State} {H : Heap} (e : u.vm = U.vm) (h : Ro Z A u H) : Ro Z A U H := by
  obtain ⟨⟨h1, h2, h3, h4⟩, h5, h6, h7, h8, h9, h10, h11⟩ := h
  have al : u.vm.Alike U.vm := by rw [e]; exact Vm.Alike.refl _
  exact ⟨⟨h1.moved al, h2.moved al, h3, h4⟩, h5.moved al, h6.moved al, h7.moved al, fun k q hq => (h8 k q hq).same e.symm, h9.same rfl e, h10.same rfl e, h11.same rfl e⟩
theorem Ro.kept {Z : RZ} {A : Nat → Prop} {U : State} {H H1 : Heap} (h : Ro Z A U H) (hz : H.size ≤ H1.size) (hq : ∀ a : Nat, a < H.size → ¬ A a → H1[a]? = H[a]?) : Ro Z A U H1 := by
  obtain ⟨⟨h1, h2, h3, h4⟩, h5, h6, h7, h8⟩ := h
  exact ⟨⟨h1.kept hq, h2.kept (hq _ h3 h4), Nat.lt_of_lt_of_le h3 hz, h4⟩, h5.kept hq, h6.kept hq, h7.kept hq, h8⟩
/-! types of cells: an object's fields (0: an int within bounds, 1: the cell so far behind, 2: that cell, 3: a cell of that kind); arrays -/
abbrev FT : Type := Nat × Int × Int
abbrev CT : Type := (Nat × Nat × (Nat → Int × Int)) ⊕ (Nat ⊕ ((Nat × Nat × (Nat → Nat)) ⊕ (Nat × List FT)))
abbrev Sp : Type := (Nat → Nat) × (Nat → CT) × Nat
def ftOk (S : Sp) (ad : Nat → Nat) (i : Nat) (t : FT) (v : Value) : Prop :=
  match t.1 with
  | 0 => ∃ x : Int32, v = .int x ∧ t.2.1 ≤ x.toInt ∧ x.toInt ≤ t.2.2
  | 1 => v = .ref (ad (i + t.2.1.toNat))
  | 2 => v = .ref (ad t.2.1.toNat)
  | _ => ∃ j : Nat, j < S.2.2 ∧ S.1 j = t.2.1.toNat ∧ v = .ref (ad j)
def ctOk (G : GG) (S : Sp) (ad : Nat → Nat) (i : Nat) (c : CT) (e : va_E) : Prop :=
  match c with
  | .inl q => ∃ f : Nat → Int32, e = .inl (G.2 q.1, q.2.1, .inl f) ∧ ∀ j, j < q.2.1 → (q.2.2 j).1 ≤ (f j).toInt ∧ (f j).toInt ≤ (q.2.2 j).2
  | .inr (.inl n) => ∃ f : Nat → Int64, e = .inl (G.2 2, n, .inr (.inl f))
  | .inr (.inr (.inl q)) => ∃ f : Nat → Option Nat, e = .inl (G.2 q.1, q.2.1, .inr (.inr (.inr (.inr f)))) ∧ ∀ j, j < q.2.1 → f j = some (ad (q.2.2 j))
  | .inr (.inr (.inr q)) => ∃ fs : List Value, e = .inr (q.1, fs) ∧ fs.length = q.2.length ∧ ∀ (k : Nat) (t : FT), q.2[k]? = some t → ∃ v : Value, fs[k]? = some v ∧ ftOk S ad i t v
def Ty (G : GG) (S : Sp) (ad : Nat → Nat) (ws : va_W) : Prop := ws.length = S.2.2 ∧ ∀ i, i < S.2.2 → ∃ e : va_E, ws[i]? = some (ad i, e) ∧ ctOk G S ad i (S.2.1 (S.1 i)) e
/-- a cell's kind -/
def Kd (S : Sp) (i κ : Nat) : Prop := i < S.2.2 ∧ S.1 i = κ
def fI (ws : va_W) (i k : Nat) : Int32 := match ws[i]? with
  | some (_, .inr (_, fs)) => match fs[k]? with
    | some (.int x) => x
    | _ => 0
  | _ => 0
def aI (ws : va_W) (i j : Nat) : Int32 := match ws[i]? with
  | some (_, .inl (_, _, .inl f)) => f j
  | _ => 0
def aL (ws : va_W) (i j : Nat) : Int64 := match ws[i]? with
  | some (_, .inl (_, _, .inr (.inl f))) => f j
  | _ => 0
/-- cells of other kinds are as they were -/
def Fr (S : Sp) (M : List Nat) (ws ws' : va_W) : Prop := ∀ i κ, Kd S i κ → κ ∉ M → ws'[i]? = ws[i]?
def Ud (i : Nat) (ws ws' : va_W) : Prop := ∀ j, j ≠ i → ws'[j]? = ws[j]?
theorem Fr.rf {S : Sp} {M : List Nat} {ws : va_W} : Fr S M ws ws := fun _ _ _ _ => rfl
theorem Fr.tr {S : Sp} {M : List Nat} {a b c : va_W} (h : Fr S M a b) (g : Fr S M b c) : Fr S M a c := fun i κ hi hm => (g i κ hi hm).trans (h i κ hi hm)
theorem Fr.mono {S : Sp} {M N : List Nat} {a b : va_W} (h : Fr S M a b) (hs : ∀ κ ∈ M, κ ∈ N) : Fr S N a b := fun i κ hi hm => h i κ hi (fun q => hm (hs κ q))
theorem Fr.up {S : Sp} {M : List Nat} {a b : va_W} {i κ : Nat} (h : Ud i a b) (hk : Kd S i κ) (hm : κ ∈ M) : Fr S M a b := fun j κ' hj hn => h j (fun e => by subst e; exact hn (hj.2.symm.trans hk.2 ▸ hm))
theorem fI_of {a b : va_W} {i k : Nat} (h : b[i]? = a[i]?) : fI b i k = fI a i k := by unfold fI; rw [h]
theorem aI_of {a b : va_W} {i k : Nat} (h : b[i]? = a[i]?) : aI b i k = aI a i k := by unfold aI; rw [h]
theorem aL_of {a b : va_W} {i k : Nat} (h : b[i]? = a[i]?) : aL b i k = aL a i k := by unfold aL; rw [h]
theorem Fr.fI {S : Sp} {M : List Nat} {a b : va_W} {i κ k : Nat} (h : Fr S M a b) (hk : Kd S i κ) (hm : κ ∉ M) : fI b i k = fI a i k := fI_of (h i κ hk hm)
theorem Fr.aI {S : Sp} {M : List Nat} {a b : va_W} {i κ k : Nat} (h : Fr S M a b) (hk : Kd S i κ) (hm : κ ∉ M) : aI b i k = aI a i k := aI_of (h i κ hk hm)
theorem Fr.aL {S : Sp} {M : List Nat} {a b : va_W} {i κ k : Nat} (h : Fr S M a b) (hk : Kd S i κ) (hm : κ ∉ M) : aL b i k = aL a i k := aL_of (h i κ hk hm)
/-- one field, one place is new -/
def UdF (i k : Nat) (v : Int32) (ws ws' : va_W) : Prop := Ud i ws ws' ∧ fI ws' i k = v ∧ ∀ k', k' ≠ k → fI ws' i k' = fI ws i k'
def UdR (i k : Nat) (ws ws' : va_W) : Prop := Ud i ws ws' ∧ ∀ k', k' ≠ k → fI ws' i k' = fI ws i k'
def UdA (i j : Nat) (v : Int32) (ws ws' : va_W) : Prop := Ud i ws ws' ∧ aI ws' i j = v ∧ ∀ j', j' ≠ j → aI ws' i j' = aI ws i j'
def UdL (i j : Nat) (v : Int64) (ws ws' : va_W) : Prop := Ud i ws ws' ∧ aL ws' i j = v ∧ ∀ j', j' ≠ j → aL ws' i j' = aL ws i j'
theorem kd_ne {S : Sp} {i j κ μ : Nat} (h : Kd S i κ) (g : Kd S j μ) (n : κ ≠ μ) : i ≠ j := fun e => by subst e; exact n (h.2.symm.trans g.2)
theorem Ty.ints {G : GG} {S : Sp} {ad : Nat → Nat} {ws : va_W} {i κ t0 n : Nat} {el : Nat → Int × Int} (h : Ty G S ad ws) (hk : Kd S i κ) (hc : S.2.1 κ = .inl (t0, n, el)) : ∃ f : Nat → Int32, ws[i]? = some (ad i, .inl (G.2 t0, n, .inl f)) ∧ ∀ j, j < n → (el j).1 ≤ (f j).toInt ∧ (f j).toInt ≤ (el j).2 := by
  obtain ⟨e, h1, h2⟩ := h.2 i hk.1
  rw [hk.2, hc] at h2
  obtain ⟨f, rfl, h3⟩ := h2
  exact ⟨f, h1, h3⟩
theorem Ty.longs {G : GG} {S : Sp} {ad : Nat → Nat} {ws : va_W} {i κ n : Nat} (h : Ty G S ad ws) (hk : Kd S i κ) (hc : S.2.1 κ = .inr (.inl n)) : ∃ f : Nat → Int64, ws[i]? = some (ad i, .inl (G.2 2, n, .inr (.inl f))) := by
  obtain ⟨e, h1, h2⟩ := h.2 i hk.1
  rw [hk.2, hc] at h2
  obtain ⟨f, rfl⟩ := h2
  exact ⟨f, h1⟩
theorem Ty.refs {G : GG} {S : Sp} {ad : Nat → Nat} {ws : va_W} {i κ t0 n : Nat} {tg : Nat → Nat} (h : Ty G S ad ws) (hk : Kd S i κ) (hc : S.2.1 κ = .inr (.inr (.inl (t0, n, tg)))) : ∃ f : Nat → Option Nat, ws[i]? = some (ad i, .inl (G.2 t0, n, .inr (.inr (.inr (.inr f))))) ∧ ∀ j, j < n → f j = some (ad (tg j)) := by
  obtain ⟨e, h1, h2⟩ := h.2 i hk.1
  rw [hk.2, hc] at h2
  obtain ⟨f, rfl, h3⟩ := h2
  exact ⟨f, h1, h3⟩
theorem Ty.obj {G : GG} {S : Sp} {ad : Nat → Nat} {ws : va_W} {i κ ci : Nat} {fts : List FT} (h : Ty G S ad ws) (hk : Kd S i κ) (hc : S.2.1 κ = .inr (.inr (.inr (ci, fts)))) : ∃ fs : List Value, ws[i]? = some (ad i, .inr (ci, fs)) ∧ fs.length = fts.length ∧ ∀ (k : Nat) (t : FT), fts[k]? = some t → ∃ v : Value, fs[k]? = some v ∧ ftOk S ad i t v := by
  obtain ⟨e, h1, h2⟩ := h.2 i hk.1
  rw [hk.2, hc] at h2
  obtain ⟨fs, rfl, h3⟩ := h2
  exact ⟨fs, h1, h3⟩
theorem Ty.set {G : GG} {S : Sp} {ad : Nat → Nat} {ws : va_W} {i : Nat} {e : va_E} (h : Ty G S ad ws) (hi : i < S.2.2) (hc : ctOk G S ad i (S.2.1 (S.1 i)) e) : Ty G S ad (ws.set i (ad i, e)) := by
  refine ⟨by rw [List.length_set]; exact h.1, fun j hj => ?_⟩
  by_cases e1 : i = j
  · subst e1
    exact ⟨e, by rw [List.getElem?_set_self (by rw [h.1]; exact hj)], hc⟩
  · obtain ⟨e2, h1, h2⟩ := h.2 j hj
    exact ⟨e2, by rw [List.getElem?_set_ne e1]; exact h1, h2⟩
theorem Ud.set {i : Nat} {x : Nat × va_E} {ws : va_W} : Ud i ws (ws.set i x) := fun j hj => by rw [List.getElem?_set_ne (fun e => hj e.symm)]
/-- a world at work, of a type -/
def Wt (G : GG) (S : Sp) (ad : Nat → Nat) (A : Nat → Prop) (s : State) (H : Heap) (locs : List Loc) (ws : va_W) : Prop := Wd G A s H locs ws ∧ Ty G S ad ws
/-! contracts -/
def Pq (G : GG) (Z : RZ) (av : List Value) (ws : va_W) (sz : Nat) : Array Value → State → Prop := va_Pc av (fun U => (U.heap.size = sz ∧ va_P G.1 vwCl ws U.heap ∧ va_K G.1 vwCl (tysG G) U ∧ va_D (fun _ => True) ws ∧ Nx U) ∧ Ro Z (va_A ws sz) U U.heap)
theorem Pq.blind (G : GG) (Z : RZ) (av : List Value) (ws : va_W) (sz : Nat) : FrameBlind (Pq G Z av ws sz) := fun a U g mk q => by
  obtain ⟨q0, ⟨q1, qP, qK, qD, qN⟩, qR⟩ := q
  exact ⟨q0, ⟨q1, qP, va_K.moved (u := U) (U := U.calling g mk a) (Vm.Alike.refl U.vm) qK, qD, qN.same rfl⟩, qR.same rfl⟩
def Mq (l : Launch) (y : MethodName) (cc : ByteArray) (nL : Nat) (ret : Option FieldType) (d : Nat) (G : GG) (Z : RZ) (av : List Value) (ws : va_W) (Qp : QP) : Prop :=
  ∀ sz : Nat, Met l y (.code y cc nL ret :: lw_gd) (rmd d 0 0) (Pq G Z av ws sz) (Qp (va_A ws sz)) 0 0 (va_A ws sz)
theorem Mq.start {l : Launch} {y : MethodName} {cc : ByteArray} {nL : Nat} {ret : Option FieldType} {d : Nat} {G : GG} {Z : RZ} {av : List Value} {ws : va_W} {Qp : QP} (hy : plainName y.cls = true) (hL : (lg_sl av).length ≤ nL)
    (body : ∀ (p : Program) (e : Env) (s : State) (m : MethodId) (below : List Frame) (meth : Method) (c : Code) (A : Nat → Prop) (ls : Array Slot), Cx p s m av.toArray meth c y.cls cc nL ret → Ro Z A s s.heap → Wd G A s s.heap [] ws → lv_has ls nL (lv_args 0 av) →
      W p l e (rmd d 0 0) s m av.toArray below meth c s.heap [] 0 0 (MQ below (Qp A) av.toArray s 0 0 A) (F0 m 0 ls [])) : Mq l y cc nL ret d G Z av ws Qp := by
  intro sz
  refine Met.ofW (cc := cc) (maxL := nL) (ret := ret) hy rfl ?_
  intro p e s m args below meth c s₁ B hml hv
  obtain ⟨rfl, ⟨hsz, hP, hK, hD0, hN⟩, hR⟩ := hv
  have hts := atoms_spec (ws := .code y cc nL ret :: lw_gd) B.pre
  have hown : s.vm.findClass y.cls = some m.cls := findClass_of_methodNamed B.named
  subst hsz
  have hD := hD0.self (sz := s.heap.size)
  have hA : ∀ q : Nat, s.heap.size ≤ q → va_A ws s.heap.size q := fun q h => Or.inr h
  generalize va_A ws s.heap.size = A at hD hA hR ⊢
  have hl := lv_entry av (n := nL) hL
  rw [lg_entry_eq]
  generalize (lg_sl av ++ List.replicate (nL - (lg_sl av).length) Slot.unset).toArray = ls at hl ⊢
  exact body p e s m below meth c A ls ⟨B.exec, B.bytes, hml, hown, fun w h => hts w (List.mem_cons_of_mem _ h), B.returns, B.notSynchronized, hN⟩ hR ⟨hK, hP, hD, va_S.rf, hA⟩ hl
abbrev PI (G : GG) (S : Sp) (ad : Nat → Nat) (M : List Nat) (ws : va_W) (post : Int32 → va_W → Prop) : QP := Ri (S := va_W) G (fun r u => (Ty G S ad u ∧ Fr S M ws u) ∧ post r u) (fun u => u)
abbrev PL (G : GG) (S : Sp) (ad : Nat → Nat) (M : List Nat) (ws : va_W) (post : Int64 → va_W → Prop) : QP := Rl (S := va_W) G (fun r u => (Ty G S ad u ∧ Fr S M ws u) ∧ post r u) (fun u => u)
abbrev PV (G : GG) (S : Sp) (ad : Nat → Nat) (M : List Nat) (ws : va_W) (post : va_W → Prop) : QP := Rv (S := va_W) G (fun u => (Ty G S ad u ∧ Fr S M ws u) ∧ post u) (fun u => u)
section TY
variable {p : Program} {l : Launch} {e : Env} {R : Room} {s : State} {m : MethodId} {args : Array Value} {below : List Frame} {meth : Method} {c : Code} {H : Heap} {locs : List Loc} {cells slots : Nat} {Q : State → Prop}
variable {cc : ByteArray} {pc nL : Nat} {ls : Array Slot} {rest st0 : List Value} {G : GG} {A : Nat → Prop} {ws : va_W} {own : String} {ret : Option FieldType} {S : Sp} {ad : Nat → Nat} {Z : RZ} {i κ k ci N index : Nat} {fts : List FT} {C : String} {T : u_T}
/-- getfield: an int, a reference -/
theorem y_getI {lo hi : Int} (C0 : Cx p s m args meth c own cc nL ret) (h : Wt G S ad A s H locs ws) (hk : Kd S i κ) (hct : S.2.1 κ = .inr (.inr (.inr (ci, fts)))) (hf : fts[k]? = some (0, lo, hi)) (hc : vwCl[ci]? = some (C, T, N)) (hin : ∀ w ∈ u_ws C T N, w ∈ lw_gd) (hN : k < N) (hlink : Cond.fieldLink own index (T k).1 (T k).2.1 (T k).2.2.1 ∈ lw_gd) (hdg : decode cc pc = .ok (.getfield index, 3))
    (kk : ∀ v : Int32, fI ws i k = v → lo ≤ v.toInt → v.toInt ≤ hi → W p l e R s m args below meth c H locs cells slots Q (F0 m (pc + 3) ls (.int v :: rest))) : W p l e R s m args below meth c H locs cells slots Q (F0 m pc ls (.ref (ad i) :: rest)) := by
  obtain ⟨fs, h1, h2, h3⟩ := h.2.obj hk hct
  obtain ⟨v, h4, x, rfl, h5, h6⟩ := h3 k _ hf
  refine m_get C0 h.1 i h1 hc hin hN hlink h4 hdg (kk x ?_ h5 h6)
  unfold fI
  rw [h1]
  simp only [h4]
theorem y_get1 {δ z : Int} (C0 : Cx p s m args meth c own cc nL ret) (h : Wt G S ad A s H locs ws) (hk : Kd S i κ) (hct : S.2.1 κ = .inr (.inr (.inr (ci, fts)))) (hf : fts[k]? = some (1, δ, z)) (hc : vwCl[ci]? = some (C, T, N)) (hin : ∀ w ∈ u_ws C T N, w ∈ lw_gd) (hN : k < N) (hlink : Cond.fieldLink own index (T k).1 (T k).2.1 (T k).2.2.1 ∈ lw_gd) (hdg : decode cc pc = .ok (.getfield index, 3))
    (kk : W p l e R s m args below meth c H locs cells slots Q (F0 m (pc + 3) ls (.ref (ad (i + δ.toNat)) :: rest))) : W p l e R s m args below meth c H locs cells slots Q (F0 m pc ls (.ref (ad i) :: rest)) := by
  obtain ⟨fs, h1, h2, h3⟩ := h.2.obj hk hct
  obtain ⟨v, h4, h5⟩ := h3 k _ hf
  cases h5
  exact m_get C0 h.1 i h1 hc hin hN hlink h4 hdg kk
theorem y_get2 {j z : Int} (C0 : Cx p s m args meth c own cc nL ret) (h : Wt G S ad A s H locs ws) (hk : Kd S i κ) (hct : S.2.1 κ = .inr (.inr (.inr (ci, fts)))) (hf : fts[k]? = some (2, j, z)) (hc : vwCl[ci]? = some (C, T, N)) (hin : ∀ w ∈ u_ws C T N, w ∈ lw_gd) (hN : k < N) (hlink : Cond.fieldLink own index (T k).1 (T k).2.1 (T k).2.2.1 ∈ lw_gd) (hdg : decode cc pc = .ok (.getfield index, 3))
    (kk : W p l e R s m args below meth c H locs cells slots Q (F0 m (pc + 3) ls (.ref (ad j.toNat) :: rest))) : W p l e R s m args below meth c H locs cells slots Q (F0 m pc ls (.ref (ad i) :: rest)) := by
  obtain ⟨fs, h1, h2, h3⟩ := h.2.obj hk hct
  obtain ⟨v, h4, h5⟩ := h3 k _ hf
  cases h5
  exact m_get C0 h.1 i h1 hc hin hN hlink h4 hdg kk
theorem y_get3 {μ z : Int} (C0 : Cx p s m args meth c own cc nL ret) (h : Wt G S ad A s H locs ws) (hk : Kd S i κ) (hct : S.2.1 κ = .inr (.inr (.inr (ci, fts)))) (hf : fts[k]? = some (3, μ, z)) (hc : vwCl[ci]? = some (C, T, N)) (hin : ∀ w ∈ u_ws C T N, w ∈ lw_gd) (hN : k < N) (hlink : Cond.fieldLink own index (T k).1 (T k).2.1 (T k).2.2.1 ∈ lw_gd) (hdg : decode cc pc = .ok (.getfield index, 3))
    (kk : ∀ j : Nat, Kd S j μ.toNat → W p l e R s m args below meth c H locs cells slots Q (F0 m (pc + 3) ls (.ref (ad j) :: rest))) : W p l e R s m args below meth c H locs cells slots Q (F0 m pc ls (.ref (ad i) :: rest)) := by
  obtain ⟨fs, h1, h2, h3⟩ := h.2.obj hk hct
  obtain ⟨v, h4, j, h5, h6, h7⟩ := h3 k _ hf
  cases h7
  exact m_get C0 h.1 i h1 hc hin hN hlink h4 hdg (kk j ⟨h5, h6⟩)
theorem fts_set {fs : List Value} (h2 : fs.length = fts.length) (h3 : ∀ (k : Nat) (t : FT), fts[k]? = some t → ∃ v : Value, fs[k]? = some v ∧ ftOk S ad i t v) {v : Value} {t : FT} (hf : fts[k]? = some t) (hv : ftOk S ad i t v) : (fs.set k v).length = fts.length ∧ ∀ (k' : Nat) (t : FT), fts[k']? = some t → ∃ v' : Value, (fs.set k v)[k']? = some v' ∧ ftOk S ad i t v' := by
  refine ⟨by rw [List.length_set]; exact h2, fun k' t' ht => ?_⟩
  by_cases e1 : k = k'
  · subst e1
    have hl : k < fs.length := by rw [h2]; exact (List.getElem?_eq_some_iff.mp hf).1
    rw [hf] at ht
    cases ht
    exact ⟨v, List.getElem?_set_self hl, hv⟩
  · obtain ⟨v', h4, h5⟩ := h3 k' t' ht
    exact ⟨v', by rw [List.getElem?_set_ne e1]; exact h4, h5⟩
/-- putfield: an int, a boolean, a reference to a cell of a kind -/
theorem y_putI {lo hi : Int} {v : Int32} (ty0 : Nat → FieldType) (hty : ∀ k, k < N → parseFieldDescriptor (T k).2.2.1 = some (ty0 k)) (hnm : ∀ a, a < N → ∀ b, b < N → a ≠ b → (T a).2.1 ≠ (T b).2.1) (hfin : (T k).2.2.2 = false) (hn : narrow (ty0 k) (.int v) = .int v) (hfit : fits (ty0 k) (.int v) = true) (C0 : Cx p s m args meth c own cc nL ret) (h : Wt G S ad A s H locs ws) (hk : Kd S i κ) (hct : S.2.1 κ = .inr (.inr (.inr (ci, fts)))) (hf : fts[k]? = some (0, lo, hi)) (hc : vwCl[ci]? = some (C, T, N)) (hin : ∀ w ∈ u_ws C T N, w ∈ lw_gd) (hN : k < N) (hlink : Cond.fieldLink own index (T k).1 (T k).2.1 (T k).2.2.1 ∈ lw_gd) (hlo : lo ≤ v.toInt) (hhi : v.toInt ≤ hi) (hdg : decode cc pc = .ok (.putfield index, 3))
    (kk : ∀ (H1 : Heap) (locs1 : List Loc) (ws1 : va_W), Wt G S ad A s H1 locs1 ws1 → UdF i k v ws ws1 → W p l e R s m args below meth c H1 locs1 cells slots Q (F0 m (pc + 3) ls rest)) : W p l e R s m args below meth c H locs cells slots Q (F0 m pc ls (.int v :: .ref (ad i) :: rest)) := by
  obtain ⟨fs, h1, h2, h3⟩ := h.2.obj hk hct
  have hl : k < fs.length := by rw [h2]; exact (List.getElem?_eq_some_iff.mp hf).1
  have hlen : i < ws.length := by rw [h.2.1]; exact hk.1
  refine m_put C0 h.1 i ty0 hty hnm hc hin hN hlink hfin h1 hl hn hfit rfl hdg (fun H1 locs1 hw => kk H1 locs1 _ ⟨hw, h.2.set hk.1 ?_⟩ ⟨Ud.set, ?_, ?_⟩)
  · rw [hk.2, hct]
    obtain ⟨g1, g2⟩ := fts_set h2 h3 (v := .int v) hf ⟨v, rfl, hlo, hhi⟩
    exact ⟨_, rfl, g1, g2⟩
  · unfold fI
    rw [List.getElem?_set_self hlen]
    simp only [List.getElem?_set_self hl]
  · intro k' hk'
    unfold fI
    rw [List.getElem?_set_self hlen, h1]
    simp only [List.getElem?_set_ne (fun e => hk' e.symm)]
theorem y_put3 {μ z : Int} {j : Nat} (ty0 : Nat → FieldType) (hty : ∀ k, k < N → parseFieldDescriptor (T k).2.2.1 = some (ty0 k)) (hnm : ∀ a, a < N → ∀ b, b < N → a ≠ b → (T a).2.1 ≠ (T b).2.1) (hfin : (T k).2.2.2 = false) (hn : narrow (ty0 k) (.ref (ad j)) = .ref (ad j)) (hfit : fits (ty0 k) (.ref (ad j)) = true) (C0 : Cx p s m args meth c own cc nL ret) (h : Wt G S ad A s H locs ws) (hk : Kd S i κ) (hct : S.2.1 κ = .inr (.inr (.inr (ci, fts)))) (hf : fts[k]? = some (3, μ, z)) (hc : vwCl[ci]? = some (C, T, N)) (hin : ∀ w ∈ u_ws C T N, w ∈ lw_gd) (hN : k < N) (hlink : Cond.fieldLink own index (T k).1 (T k).2.1 (T k).2.2.1 ∈ lw_gd) (hj : Kd S j μ.toNat) (hdg : decode cc pc = .ok (.putfield index, 3))
    (kk : ∀ (H1 : Heap) (locs1 : List Loc) (ws1 : va_W), Wt G S ad A s H1 locs1 ws1 → UdR i k ws ws1 → W p l e R s m args below meth c H1 locs1 cells slots Q (F0 m (pc + 3) ls rest)) : W p l e R s m args below meth c H locs cells slots Q (F0 m pc ls (.ref (ad j) :: .ref (ad i) :: rest)) := by
  obtain ⟨fs, h1, h2, h3⟩ := h.2.obj hk hct
  have hl : k < fs.length := by rw [h2]; exact (List.getElem?_eq_some_iff.mp hf).1
  have hlen : i < ws.length := by rw [h.2.1]; exact hk.1
  refine m_put C0 h.1 i ty0 hty hnm hc hin hN hlink hfin h1 hl hn hfit rfl hdg (fun H1 locs1 hw => kk H1 locs1 _ ⟨hw, h.2.set hk.1 ?_⟩ ⟨Ud.set, ?_⟩)
  · rw [hk.2, hct]
    obtain ⟨g1, g2⟩ := fts_set h2 h3 (v := .ref (ad j)) hf ⟨j, hj.1, hj.2, rfl⟩
    exact ⟨_, rfl, g1, g2⟩
  · intro k' hk'
    unfold fI
    rw [List.getElem?_set_self hlen, h1]
    simp only [List.getElem?_set_ne (fun e => hk' e.symm)]
theorem nI_int {x : Int32} {n : Nat} (h0 : 0 ≤ x.toInt) (h1 : x.toInt < n) : x = nI x.toInt.toNat ∧ x.toInt.toNat < n := by
  refine ⟨?_, by omega⟩
  have e : x.toInt = ((x.toInt.toNat : Nat) : Int) := by omega
  apply Int32.toInt_inj.mp
  have hb : x.toInt < 2147483648 := by have := Int32.toInt_lt x; omega
  rw [nI_toInt (by omega)]
  exact e
/-- arrays of ints, bytes, booleans -/
theorem y_iald {n : Nat} {el : Nat → Int × Int} {x : Int32} (C0 : Cx p s m args meth c own cc nL ret) (h : Wt G S ad A s H locs ws) (hk : Kd S i κ) (hct : S.2.1 κ = .inl (1, n, el)) (hn : n < 2147483648) (h0 : 0 ≤ x.toInt) (h1 : x.toInt < n) (hdg : decode cc pc = .ok (.iaload, 1))
    (kk : ∀ v : Int32, aI ws i x.toInt.toNat = v → (el x.toInt.toNat).1 ≤ v.toInt → v.toInt ≤ (el x.toInt.toNat).2 → W p l e R s m args below meth c H locs cells slots Q (F0 m (pc + 1) ls (.int v :: rest))) : W p l e R s m args below meth c H locs cells slots Q (F0 m pc ls (.int x :: .ref (ad i) :: rest)) := by
  obtain ⟨f, g1, g2⟩ := h.2.ints hk hct
  obtain ⟨e1, e2⟩ := nI_int h0 h1
  refine m_iald C0 h.1 i _ g1 e1 e2 hn hdg (kk _ ?_ (g2 _ e2).1 (g2 _ e2).2)
  unfold aI
  rw [g1]
theorem y_bald {n : Nat} {el : Nat → Int × Int} {x : Int32} (C0 : Cx p s m args meth c own cc nL ret) (h : Wt G S ad A s H locs ws) (hk : Kd S i κ) (hct : S.2.1 κ = .inl (0, n, el)) (hn : n < 2147483648) (h0 : 0 ≤ x.toInt) (h1 : x.toInt < n) (hdg : decode cc pc = .ok (.baload, 1))
    (kk : ∀ v : Int32, aI ws i x.toInt.toNat = v → (el x.toInt.toNat).1 ≤ v.toInt → v.toInt ≤ (el x.toInt.toNat).2 → W p l e R s m args below meth c H locs cells slots Q (F0 m (pc + 1) ls (.int v :: rest))) : W p l e R s m args below meth c H locs cells slots Q (F0 m pc ls (.int x :: .ref (ad i) :: rest)) := by
  obtain ⟨f, g1, g2⟩ := h.2.ints hk hct
  obtain ⟨e1, e2⟩ := nI_int h0 h1
  refine m_bald C0 h.1 i _ g1 e1 e2 hn hdg (kk _ ?_ (g2 _ e2).1 (g2 _ e2).2)
  unfold aI
  rw [g1]
theorem y_zald {n : Nat} {el : Nat → Int × Int} {x : Int32} (C0 : Cx p s m args meth c own cc nL ret) (h : Wt G S ad A s H locs ws) (hk : Kd S i κ) (hct : S.2.1 κ = .inl (3, n, el)) (hn : n < 2147483648) (h0 : 0 ≤ x.toInt) (h1 : x.toInt < n) (hdg : decode cc pc = .ok (.baload, 1))
    (kk : ∀ v : Int32, aI ws i x.toInt.toNat = v → (el x.toInt.toNat).1 ≤ v.toInt → v.toInt ≤ (el x.toInt.toNat).2 → W p l e R s m args below meth c H locs cells slots Q (F0 m (pc + 1) ls (.int v :: rest))) : W p l e R s m args below meth c H locs cells slots Q (F0 m pc ls (.int x :: .ref (ad i) :: rest)) := by
  obtain ⟨f, g1, g2⟩ := h.2.ints hk hct
  obtain ⟨e1, e2⟩ := nI_int h0 h1
  refine m_zald C0 h.1 i _ g1 e1 e2 hn hdg (kk _ ?_ (g2 _ e2).1 (g2 _ e2).2)
  unfold aI
  rw [g1]
theorem y_lald {n : Nat} {x : Int32} (C0 : Cx p s m args meth c own cc nL ret) (h : Wt G S ad A s H locs ws) (hk : Kd S i κ) (hct : S.2.1 κ = .inr (.inl n)) (hn : n < 2147483648) (h0 : 0 ≤ x.toInt) (h1 : x.toInt < n) (hdg : decode cc pc = .ok (.laload, 1))
    (kk : ∀ v : Int64, aL ws i x.toInt.toNat = v → W p l e R s m args below meth c H locs cells slots Q (F0 m (pc + 1) ls (.long v :: rest))) : W p l e R s m args below meth c H locs cells slots Q (F0 m pc ls (.int x :: .ref (ad i) :: rest)) := by
  obtain ⟨f, g1⟩ := h.2.longs hk hct
  obtain ⟨e1, e2⟩ := nI_int h0 h1
  refine m_lald C0 h.1 i _ g1 e1 e2 hn hdg (kk _ ?_)
  unfold aL
  rw [g1]
theorem y_aald {t0 n : Nat} {tg : Nat → Nat} {x : Int32} {C : String} (C0 : Cx p s m args meth c own cc nL ret) (h : Wt G S ad A s H locs ws) (hk : Kd S i κ) (hct : S.2.1 κ = .inr (.inr (.inl (t0, n, tg)))) (ht : (tysG G)[t0]? = some (G.2 t0, .object C)) (hn : n < 2147483648) (h0 : 0 ≤ x.toInt) (h1 : x.toInt < n) (hdg : decode cc pc = .ok (.aaload, 1))
    (kk : W p l e R s m args below meth c H locs cells slots Q (F0 m (pc + 1) ls (.ref (ad (tg x.toInt.toNat)) :: rest))) : W p l e R s m args below meth c H locs cells slots Q (F0 m pc ls (.int x :: .ref (ad i) :: rest)) := by
  obtain ⟨f, g1, g2⟩ := h.2.refs hk hct
  obtain ⟨e1, e2⟩ := nI_int h0 h1
  refine m_aald C0 h.1 i t0 _ g1 ht e1 e2 hn hdg ?_
  rw [g2 _ e2]
  exact kk
theorem y_aaldA {t0 n : Nat} {tg : Nat → Nat} {x : Int32} {ty : FieldType} (C0 : Cx p s m args meth c own cc nL ret) (h : Wt G S ad A s H locs ws) (hk : Kd S i κ) (hct : S.2.1 κ = .inr (.inr (.inl (t0, n, tg)))) (ht : (tysG G)[t0]? = some (G.2 t0, .array ty)) (hn : n < 2147483648) (h0 : 0 ≤ x.toInt) (h1 : x.toInt < n) (hdg : decode cc pc = .ok (.aaload, 1))
    (kk : W p l e R s m args below meth c H locs cells slots Q (F0 m (pc + 1) ls (.ref (ad (tg x.toInt.toNat)) :: rest))) : W p l e R s m args below meth c H locs cells slots Q (F0 m pc ls (.int x :: .ref (ad i) :: rest)) := by
  obtain ⟨f, g1, g2⟩ := h.2.refs hk hct
  obtain ⟨e1, e2⟩ := nI_int h0 h1
  have hin : vp_in x n := by rw [e1]; exact vp_in_nI e2 (by omega)
  have e3 : x.toNatClampNeg = x.toInt.toNat := rfl
  refine W.aald (v := va_rf (f x.toNatClampNeg)) (ty := .array ty) C0.1 C0.2.1 (h.1.2.1 i _ g1) ((h.1.1.2 t0 _ ht).1 n (fun j => va_rf (f j))) rfl (fun q => by cases q) (by show ¬ (x < 0 ∨ (arrV _ _ _).slots.size ≤ _); rw [arrV_size]; exact hin) (by show (arrV _ _ _).slots[_]? = _; rw [arrV_read _ _ (by rw [e3]; exact e2)]) rfl rfl hdg ?_
  rw [e3, g2 _ e2]
  exact kk
theorem ty_ints {t0 n : Nat} {el : Nat → Int × Int} (h : Ty G S ad ws) (hk : Kd S i κ) (hct : S.2.1 κ = .inl (t0, n, el)) {f : Nat → Int32} (hf : ∀ j, j < n → (el j).1 ≤ (f j).toInt ∧ (f j).toInt ≤ (el j).2) : Ty G S ad (ws.set i (ad i, .inl (G.2 t0, n, .inl f))) := h.set hk.1 (by rw [hk.2, hct]; exact ⟨f, rfl, hf⟩)
theorem uda_set {t0 n j : Nat} {f : Nat → Int32} {v : Int32} (hlen : i < ws.length) (g1 : ws[i]? = some (ad i, .inl (G.2 t0, n, .inl f))) : UdA i j v ws (ws.set i (ad i, .inl (G.2 t0, n, .inl (upd f j v)))) := by
  refine ⟨Ud.set, ?_, fun j' hj => ?_⟩
  · unfold aI
    rw [List.getElem?_set_self hlen]
    exact pk_us
  · unfold aI
    rw [List.getElem?_set_self hlen, g1]
    exact pk_un hj
theorem y_iast {n : Nat} {el : Nat → Int × Int} {x v : Int32} (C0 : Cx p s m args meth c own cc nL ret) (h : Wt G S ad A s H locs ws) (hk : Kd S i κ) (hct : S.2.1 κ = .inl (1, n, el)) (hn : n < 2147483648) (h0 : 0 ≤ x.toInt) (h1 : x.toInt < n) (hlo : (el x.toInt.toNat).1 ≤ v.toInt) (hhi : v.toInt ≤ (el x.toInt.toNat).2) (hdg : decode cc pc = .ok (.iastore, 1))
    (kk : ∀ (H1 : Heap) (locs1 : List Loc) (ws1 : va_W), Wt G S ad A s H1 locs1 ws1 → UdA i x.toInt.toNat v ws ws1 → W p l e R s m args below meth c H1 locs1 cells slots Q (F0 m (pc + 1) ls rest)) : W p l e R s m args below meth c H locs cells slots Q (F0 m pc ls (.int v :: .int x :: .ref (ad i) :: rest)) := by
  obtain ⟨f, g1, g2⟩ := h.2.ints hk hct
  obtain ⟨e1, e2⟩ := nI_int h0 h1
  have hlen : i < ws.length := by rw [h.2.1]; exact hk.1
  refine m_iast C0 h.1 i _ g1 e1 e2 hn rfl hdg (fun H1 locs1 hw => kk H1 locs1 _ ⟨hw, ty_ints h.2 hk hct (fun j hj => ?_)⟩ (uda_set hlen g1))
  unfold upd
  split
  · rename_i e3; subst e3; exact ⟨hlo, hhi⟩
  · exact g2 j hj
theorem nar_by (v : Int32) : -128 ≤ (vp_nar .byte v).toInt ∧ (vp_nar .byte v).toInt ≤ 127 := by
  rw [vp_nar_byte]
  have e : v.toInt8.toInt32.toInt = v.toInt8.toInt := Int8.toInt_toInt32 _
  have a := Int8.le_toInt v.toInt8
  have b := Int8.toInt_lt v.toInt8
  rw [e]
  omega
theorem y_bast {n : Nat} {el : Nat → Int × Int} {x v : Int32} (C0 : Cx p s m args meth c own cc nL ret) (h : Wt G S ad A s H locs ws) (hk : Kd S i κ) (hct : S.2.1 κ = .inl (0, n, el)) (hn : n < 2147483648) (h0 : 0 ≤ x.toInt) (h1 : x.toInt < n) (hlo : (el x.toInt.toNat).1 ≤ -128) (hhi : 127 ≤ (el x.toInt.toNat).2) (hdg : decode cc pc = .ok (.bastore, 1))
    (kk : ∀ (H1 : Heap) (locs1 : List Loc) (ws1 : va_W), Wt G S ad A s H1 locs1 ws1 → UdA i x.toInt.toNat (vp_nar .byte v) ws ws1 → W p l e R s m args below meth c H1 locs1 cells slots Q (F0 m (pc + 1) ls rest)) : W p l e R s m args below meth c H locs cells slots Q (F0 m pc ls (.int v :: .int x :: .ref (ad i) :: rest)) := by
  obtain ⟨f, g1, g2⟩ := h.2.ints hk hct
  obtain ⟨e1, e2⟩ := nI_int h0 h1
  have hlen : i < ws.length := by rw [h.2.1]; exact hk.1
  refine m_bast C0 h.1 i _ g1 e1 e2 hn rfl hdg (fun H1 locs1 hw => kk H1 locs1 _ ⟨hw, ty_ints h.2 hk hct (fun j hj => ?_)⟩ (uda_set hlen g1))
  unfold upd
  split
  · rename_i e3; subst e3; have := nar_by v; omega
  · exact g2 j hj
theorem nar_z {v : Int32} (h0 : 0 ≤ v.toInt) (h1 : v.toInt ≤ 1) : vp_nar .boolean v = v ∧ narrow .boolean (.int v) = .int v ∧ fits .boolean (.int v) = true := by
  have : v = 0 ∨ v = 1 := by
    have : v.toInt = 0 ∨ v.toInt = 1 := by omega
    rcases this with e | e
    · exact Or.inl (Int32.toInt_inj.mp e)
    · exact Or.inr (Int32.toInt_inj.mp e)
  rcases this with rfl | rfl <;> exact ⟨by decide, by decide, by decide⟩
theorem y_zast {n : Nat} {el : Nat → Int × Int} {x v : Int32} (C0 : Cx p s m args meth c own cc nL ret) (h : Wt G S ad A s H locs ws) (hk : Kd S i κ) (hct : S.2.1 κ = .inl (3, n, el)) (hn : n < 2147483648) (h0 : 0 ≤ x.toInt) (h1 : x.toInt < n) (hv0 : 0 ≤ v.toInt) (hv1 : v.toInt ≤ 1) (hlo : (el x.toInt.toNat).1 ≤ v.toInt) (hhi : v.toInt ≤ (el x.toInt.toNat).2) (hdg : decode cc pc = .ok (.bastore, 1))
    (kk : ∀ (H1 : Heap) (locs1 : List Loc) (ws1 : va_W), Wt G S ad A s H1 locs1 ws1 → UdA i x.toInt.toNat v ws ws1 → W p l e R s m args below meth c H1 locs1 cells slots Q (F0 m (pc + 1) ls rest)) : W p l e R s m args below meth c H locs cells slots Q (F0 m pc ls (.int v :: .int x :: .ref (ad i) :: rest)) := by
  obtain ⟨f, g1, g2⟩ := h.2.ints hk hct
  obtain ⟨e1, e2⟩ := nI_int h0 h1
  have hlen : i < ws.length := by rw [h.2.1]; exact hk.1
  refine m_zast C0 h.1 i _ g1 e1 e2 hn (by rw [(nar_z hv0 hv1).1]) hdg (fun H1 locs1 hw => kk H1 locs1 _ ⟨hw, ty_ints h.2 hk hct (fun j hj => ?_)⟩ (uda_set hlen g1))
  unfold upd
  split
  · rename_i e3; subst e3; exact ⟨hlo, hhi⟩
  · exact g2 j hj
theorem y_last {n : Nat} {x : Int32} {v : Int64} (C0 : Cx p s m args meth c own cc nL ret) (h : Wt G S ad A s H locs ws) (hk : Kd S i κ) (hct : S.2.1 κ = .inr (.inl n)) (hn : n < 2147483648) (h0 : 0 ≤ x.toInt) (h1 : x.toInt < n) (hdg : decode cc pc = .ok (.lastore, 1))
    (kk : ∀ (H1 : Heap) (locs1 : List Loc) (ws1 : va_W), Wt G S ad A s H1 locs1 ws1 → UdL i x.toInt.toNat v ws ws1 → W p l e R s m args below meth c H1 locs1 cells slots Q (F0 m (pc + 1) ls rest)) : W p l e R s m args below meth c H locs cells slots Q (F0 m pc ls (.long v :: .int x :: .ref (ad i) :: rest)) := by
  obtain ⟨f, g1⟩ := h.2.longs hk hct
  obtain ⟨e1, e2⟩ := nI_int h0 h1
  have hlen : i < ws.length := by rw [h.2.1]; exact hk.1
  refine m_last C0 h.1 i _ g1 e1 e2 hn rfl hdg (fun H1 locs1 hw => kk H1 locs1 _ ⟨hw, h.2.set hk.1 (by rw [hk.2, hct]; exact ⟨_, rfl⟩)⟩ ⟨Ud.set, ?_, fun j' hj => ?_⟩)
  · unfold aL
    rw [List.getElem?_set_self hlen]
    exact pk_uLs
  · unfold aL
    rw [List.getElem?_set_self hlen, g1]
    exact pk_uLn hj
/-- arraylength -/
theorem y_alenI {t0 n : Nat} {el : Nat → Int × Int} {cA : ClassId} {ty : FieldType} (C0 : Cx p s m args meth c own cc nL ret) (h : Wt G S ad A s H locs ws) (hk : Kd S i κ) (hct : S.2.1 κ = .inl (t0, n, el)) (ht : (tysG G)[t0]? = some (G.2 t0, ty)) (hn : n < 2147483648) (hdg : decode cc pc = .ok (.arraylength, 1))
    (kk : ∀ v : Int32, v.toInt = n → W p l e R s m args below meth c H locs cells slots Q (F0 m (pc + 1) ls (.int v :: rest))) : W p l e R s m args below meth c H locs cells slots Q (F0 m pc ls (.ref (ad i) :: rest)) := by
  obtain ⟨f, g1, g2⟩ := h.2.ints hk hct
  exact m_alen C0 h.1 i t0 g1 ht rfl hdg (kk _ (nI_toInt hn))
theorem y_alenL {n : Nat} (C0 : Cx p s m args meth c own cc nL ret) (h : Wt G S ad A s H locs ws) (hk : Kd S i κ) (hct : S.2.1 κ = .inr (.inl n)) (hn : n < 2147483648) (hdg : decode cc pc = .ok (.arraylength, 1))
    (kk : ∀ v : Int32, v.toInt = n → W p l e R s m args below meth c H locs cells slots Q (F0 m (pc + 1) ls (.int v :: rest))) : W p l e R s m args below meth c H locs cells slots Q (F0 m pc ls (.ref (ad i) :: rest)) := by
  obtain ⟨f, g1⟩ := h.2.longs hk hct
  exact m_alen C0 h.1 i 2 g1 rfl rfl hdg (kk _ (nI_toInt hn))
end TY
