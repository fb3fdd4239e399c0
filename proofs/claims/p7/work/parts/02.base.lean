/-! base: the good words of the tables, nest facts, a method's context, its world, contracts and the rows that use them -/
def lw_gd : List Cond := lw_tbl.filter goodWord
theorem gd_of {w : Cond} (i : Nat) (h : lw_tbl[i]? = some w) (g : goodWord w = true) : w ∈ lw_gd := List.mem_filter.mpr ⟨List.mem_of_getElem? h, g⟩
theorem gd_1 {w : Cond} (i : Nat) (h : tables_1_1[i]? = some w) (g : goodWord w = true) : w ∈ lw_gd := List.mem_filter.mpr ⟨by have h := List.mem_of_getElem? h; exact (List.mem_append_right _ (List.mem_append_left _ h) : w ∈ k2_sels lw_privs ++ tables_1), g⟩
theorem gd_2 {w : Cond} (i : Nat) (h : tables_1_2[i]? = some w) (g : goodWord w = true) : w ∈ lw_gd := List.mem_filter.mpr ⟨by have h := List.mem_of_getElem? h; exact (List.mem_append_right _ (List.mem_append_right _ (List.mem_append_left _ h)) : w ∈ k2_sels lw_privs ++ tables_1), g⟩
theorem gd_3 {w : Cond} (i : Nat) (h : tables_1_3[i]? = some w) (g : goodWord w = true) : w ∈ lw_gd := List.mem_filter.mpr ⟨by have h := List.mem_of_getElem? h; exact (List.mem_append_right _ (List.mem_append_right _ (List.mem_append_right _ (List.mem_append_left _ h))) : w ∈ k2_sels lw_privs ++ tables_1), g⟩
theorem gd_4 {w : Cond} (i : Nat) (h : tables_1_4[i]? = some w) (g : goodWord w = true) : w ∈ lw_gd := List.mem_filter.mpr ⟨by have h := List.mem_of_getElem? h; exact (List.mem_append_right _ (List.mem_append_right _ (List.mem_append_right _ (List.mem_append_right _ (List.mem_append_left _ h)))) : w ∈ k2_sels lw_privs ++ tables_1), g⟩
theorem gd_5 {w : Cond} (i : Nat) (h : tables_1_5[i]? = some w) (g : goodWord w = true) : w ∈ lw_gd := List.mem_filter.mpr ⟨by have h := List.mem_of_getElem? h; exact (List.mem_append_right _ (List.mem_append_right _ (List.mem_append_right _ (List.mem_append_right _ (List.mem_append_right _ (List.mem_append_left _ h))))) : w ∈ k2_sels lw_privs ++ tables_1), g⟩
theorem gd_6 {w : Cond} (i : Nat) (h : tables_1_6[i]? = some w) (g : goodWord w = true) : w ∈ lw_gd := List.mem_filter.mpr ⟨by have h := List.mem_of_getElem? h; exact (List.mem_append_right _ (List.mem_append_right _ (List.mem_append_right _ (List.mem_append_right _ (List.mem_append_right _ (List.mem_append_right _ (List.mem_append_left _ h)))))) : w ∈ k2_sels lw_privs ++ tables_1), g⟩
theorem gd_7 {w : Cond} (i : Nat) (h : tables_1_7[i]? = some w) (g : goodWord w = true) : w ∈ lw_gd := List.mem_filter.mpr ⟨by have h := List.mem_of_getElem? h; exact (List.mem_append_right _ (List.mem_append_right _ (List.mem_append_right _ (List.mem_append_right _ (List.mem_append_right _ (List.mem_append_right _ (List.mem_append_right _ (List.mem_append_left _ h))))))) : w ∈ k2_sels lw_privs ++ tables_1), g⟩
theorem gd_8 {w : Cond} (i : Nat) (h : tables_1_8[i]? = some w) (g : goodWord w = true) : w ∈ lw_gd := List.mem_filter.mpr ⟨by have h := List.mem_of_getElem? h; exact (List.mem_append_right _ (List.mem_append_right _ (List.mem_append_right _ (List.mem_append_right _ (List.mem_append_right _ (List.mem_append_right _ (List.mem_append_right _ (List.mem_append_right _ (List.mem_append_left _ h)))))))) : w ∈ k2_sels lw_privs ++ tables_1), g⟩
theorem gd_9 {w : Cond} (i : Nat) (h : tables_1_9[i]? = some w) (g : goodWord w = true) : w ∈ lw_gd := List.mem_filter.mpr ⟨by have h := List.mem_of_getElem? h; exact (List.mem_append_right _ (List.mem_append_right _ (List.mem_append_right _ (List.mem_append_right _ (List.mem_append_right _ (List.mem_append_right _ (List.mem_append_right _ (List.mem_append_right _ (List.mem_append_right _ (h))))))))) : w ∈ k2_sels lw_privs ++ tables_1), g⟩
theorem gd_s {w : Cond} (i : Nat) (h : (k2_sels lw_privs)[i]? = some w) (g : goodWord w = true) : w ∈ lw_gd := List.mem_filter.mpr ⟨List.mem_append_left _ (List.mem_of_getElem? h), g⟩
theorem gd_us {C : String} {T : u_T} {N : Nat} (h : ∀ k, k < N → u_lay C T k ∈ lw_gd) : ∀ w ∈ u_ws C T N, w ∈ lw_gd := fun w hw => by
  obtain ⟨k, hk, rfl⟩ := List.mem_map.mp hw
  exact h k (List.mem_range.mp hk)
theorem gd_sub {w : Cond} (h : w ∈ lw_gd) : w ∈ lw_tbl := (List.mem_filter.mp h).1
theorem gd_good {k : Cond} (hk : k ∈ lw_gd) : GoodIn lw_gd (k :: lw_gd) := fun w h => by
  have hm : w ∈ lw_gd := by
    rcases List.mem_cons.mp h with h | h
    · rw [h]; exact hk
    · exact h
  exact ⟨hm, good_of_word (List.mem_filter.mp hm).2⟩
abbrev GG : Type := va_G × (Nat → ClassId)
abbrev tysG (G : GG) : List (ClassId × FieldType) := [(G.2 0, .byte), (G.2 1, .int), (G.2 2, .long), (G.2 3, .boolean), (G.2 4, .object "LeftTurns$City"), (G.2 5, .object "LeftTurns$Folk"), (G.2 6, .object "LeftTurns$Tray"), (G.2 7, .array .int), (G.2 8, .array .long)]
/-- an array of arrays can be made -/
def nx_A (ty : FieldType) (U : State) : Prop := (Cond.arrayOver (.array ty)).before #[] U = true
theorem nx_A.moved {ty : FieldType} {s U : State} (h : s.vm.Alike U.vm) (hZ : nx_A ty s) : nx_A ty U := by
  have e := Cond.arrayOver_setVmC (args := #[]) (s := s) (vm' := U.vm) h (.array ty)
  have e2 : (Cond.arrayOver (.array ty)).before #[] (s.setVm U.vm) = true := e.trans hZ
  exact e2
/-- what a state must know beside the good words: private members of nest mates, arrays of references -/
def Nx (U : State) : Prop :=
  va_Nw (.methodLinkNest "LeftTurns" 11 ⟨"LeftTurns$City", "<init>", "()V"⟩ "LeftTurns") U ∧
  va_Nw (.methodLinkNest "LeftTurns$City" 11 ⟨"LeftTurns$Law", "<init>", "()V"⟩ "LeftTurns") U ∧
  va_Nw (.methodLinkNest "LeftTurns$City" 23 ⟨"LeftTurns$Folk", "<init>", "()V"⟩ "LeftTurns") U ∧
  va_Nw (.methodLinkNest "LeftTurns" 82 ⟨"LeftTurns$Tray", "<init>", "()V"⟩ "LeftTurns") U ∧
  va_Nw (.methodLinkNest "LeftTurns" 97 ⟨"LeftTurns$Folk", "<init>", "()V"⟩ "LeftTurns") U ∧
  va_Nw (.methodLinkNest "LeftTurns" 297 ⟨"LeftTurns$Rounds", "tour", "(IIII)V"⟩ "LeftTurns") U ∧
  va_AO "LeftTurns$City" U ∧ va_AO "LeftTurns$Folk" U ∧ va_AO "LeftTurns$Tray" U ∧ nx_A .int U ∧ nx_A .long U
theorem Nx.moved {s U : State} (hW : s.WarmedH U.vm) (h : Nx s) : Nx U := by
  obtain ⟨h1, h2, h3, h4, h5, h6, h7, h8, h9, h10, h11⟩ := h
  exact ⟨h1.warmM hW, h2.warmM hW, h3.warmM hW, h4.warmM hW, h5.warmM hW, h6.warmM hW, h7.moved hW.alike, h8.moved hW.alike, h9.moved hW.alike, h10.moved hW.alike, h11.moved hW.alike⟩
theorem Nx.same {u U : State} (e : u.vm = U.vm) (h : Nx u) : Nx U := by
  obtain ⟨h1, h2, h3, h4, h5, h6, h7, h8, h9, h10, h11⟩ := h
  have al : u.vm.Alike U.vm := by rw [e]; exact Vm.Alike.refl _
  exact ⟨h1.same rfl e, h2.same rfl e, h3.same rfl e, h4.same rfl e, h5.same rfl e, h6.same rfl e, h7.moved al, h8.moved al, h9.moved al, h10.moved al, h11.moved al⟩
/-- a method's context -/
def Cx (p : Program) (s : State) (m : MethodId) (args : Array Value) (meth : Method) (c : Code) (own : String) (cc : ByteArray) (nL : Nat) (ret : Option FieldType) : Prop :=
  p.tables.exec = Jvm.exec ∧ c.code = cc ∧ c.maxLocals = nL ∧ s.vm.findClass own = some m.cls ∧ (∀ w ∈ lw_gd, w.before args s = true) ∧ meth.sig.returnType = ret ∧ meth.locks = false ∧ Nx s
/-- the world of a method at work: the cells ws -/
def Wd (G : GG) (A : Nat → Prop) (s : State) (H : Heap) (locs : List Loc) (ws : va_W) : Prop :=
  va_K G.1 vwCl (tysG G) s ∧ va_P G.1 vwCl ws H ∧ va_D A ws ∧ va_S A s.heap H locs ∧ ∀ q : Nat, s.heap.size ≤ q → A q
theorem Wd.eq {G : GG} {A : Nat → Prop} {s : State} {H : Heap} {locs : List Loc} {ws ws' : va_W} (h : Wd G A s H locs ws) (e : ws = ws') : Wd G A s H locs ws' := e ▸ h
theorem fm_of {ws ws' : va_W} : ∀ is : List Nat, ∀ ws' : va_W, is.map (fun i => ws[i]?) = ws'.map some → is.filterMap (fun i => ws[i]?) = ws'
  | [], ws', h => by
    cases ws' with
    | nil => rfl
    | cons a l => simp at h
  | i :: is, ws', h => by
    cases ws' with
    | nil => simp at h
    | cons a l =>
      simp only [List.map_cons, List.cons.injEq] at h
      rw [List.filterMap_cons, h.1]
      simp only
      rw [fm_of (ws := ws) (ws' := ws) is l h.2]
theorem Wd.sub {G : GG} {A : Nat → Prop} {s : State} {H : Heap} {locs : List Loc} {ws ws' : va_W} (h : Wd G A s H locs ws) (is : List Nat) (hn : va_nd is = true) (hs : is.map (fun i => ws[i]?) = ws'.map some) : Wd G A s H locs ws' :=
  ⟨h.1, h.2.1.sub is (fm_of (ws := ws) (ws' := ws) is ws' hs), h.2.2.1.sub is hn hs, h.2.2.2⟩
/-- a contract's start -/
def Pr (G : GG) (av : List Value) (ws : va_W) (sz : Nat) : Array Value → State → Prop := va_Pc av (fun U => U.heap.size = sz ∧ va_P G.1 vwCl ws U.heap ∧ va_K G.1 vwCl (tysG G) U ∧ va_D (fun _ => True) ws ∧ Nx U)
theorem Pr.blind (G : GG) (av : List Value) (ws : va_W) (sz : Nat) : FrameBlind (Pr G av ws sz) := fun a U g mk q => by
  obtain ⟨q0, q1, qP, qK, qD, qN⟩ := q
  exact ⟨q0, q1, qP, va_K.moved (u := U) (U := U.calling g mk a) (Vm.Alike.refl U.vm) qK, qD, qN.same rfl⟩
def Bw (G : GG) (A : Nat → Prop) (ws : va_W) (t : State) : Prop := va_P G.1 vwCl ws t.heap ∧ va_D A ws
abbrev QP : Type := (Nat → Prop) → Array Value → State → Outcome → State → Prop
abbrev Ri {S : Type} (G : GG) (post : Int32 → S → Prop) (ws' : S → va_W) : QP := fun A => va_Qi post (fun u t => Bw G A (ws' u) t) A
abbrev Rl {S : Type} (G : GG) (post : Int64 → S → Prop) (ws' : S → va_W) : QP := fun A => va_Ql post (fun u t => Bw G A (ws' u) t) A
abbrev Rv {S : Type} (G : GG) (post : S → Prop) (ws' : S → va_W) : QP := fun A => va_Qv post (fun u t => Bw G A (ws' u) t) A
abbrev rmd (d mc ms : Nat) : Room := { frames := d, cells := mc, slots := ms, locals := 64 * d }
/-- a method's contract: depth d, at most mc cells of ms slots are made -/
def Mt (l : Launch) (y : MethodName) (cc : ByteArray) (nL : Nat) (ret : Option FieldType) (d mc ms : Nat) (G : GG) (av : List Value) (ws : va_W) (Qp : QP) : Prop :=
  ∀ sz : Nat, Met l y (.code y cc nL ret :: lw_gd) (rmd d mc ms) (Pr G av ws sz) (Qp (va_A ws sz)) mc ms (va_A ws sz)
theorem Mt.start {l : Launch} {y : MethodName} {cc : ByteArray} {nL : Nat} {ret : Option FieldType} {d mc ms : Nat} {G : GG} {av : List Value} {ws : va_W} {Qp : QP} (hy : plainName y.cls = true) (hL : (lg_sl av).length ≤ nL)
    (body : ∀ (p : Program) (e : Env) (s : State) (m : MethodId) (below : List Frame) (meth : Method) (c : Code) (A : Nat → Prop) (ls : Array Slot), Cx p s m av.toArray meth c y.cls cc nL ret → meth.name = y.name → Wd G A s s.heap [] ws → lv_has ls nL (lv_args 0 av) →
      W p l e (rmd d mc ms) s m av.toArray below meth c s.heap [] 0 0 (MQ below (Qp A) av.toArray s mc ms A) (F0 m 0 ls [])) : Mt l y cc nL ret d mc ms G av ws Qp := by
  intro sz
  refine Met.ofW (cc := cc) (maxL := nL) (ret := ret) hy rfl ?_
  intro p e s m args below meth c s₁ B hml hv
  obtain ⟨rfl, hsz, hP, hK, hD0, hN⟩ := hv
  have hts := atoms_spec (ws := .code y cc nL ret :: lw_gd) B.pre
  have hown : s.vm.findClass y.cls = some m.cls := findClass_of_methodNamed B.named
  have hin : meth.name = y.name := (name_of_methodNamed B.named B.method).1
  subst hsz
  have hD := hD0.self (sz := s.heap.size)
  have hA : ∀ q : Nat, s.heap.size ≤ q → va_A ws s.heap.size q := fun q h => Or.inr h
  generalize va_A ws s.heap.size = A at hD hA ⊢
  have hl := lv_entry av (n := nL) hL
  rw [lg_entry_eq]
  generalize (lg_sl av ++ List.replicate (nL - (lg_sl av).length) Slot.unset).toArray = ls at hl ⊢
  exact body p e s m below meth c A ls ⟨B.exec, B.bytes, hml, hown, fun w h => hts w (List.mem_cons_of_mem _ h), B.returns, B.notSynchronized, hN⟩ hin ⟨hK, hP, hD, va_S.rf, hA⟩ hl
section MY
variable {p : Program} {l : Launch} {e : Env} {R : Room} {s : State} {m : MethodId} {args : Array Value} {below : List Frame} {meth : Method} {c : Code} {H : Heap} {locs : List Loc} {cells slots : Nat} {Q : State → Prop}
variable {cc : ByteArray} {pc nL : Nat} {ls : Array Slot} {rest st0 : List Value} {G : GG} {A : Nat → Prop} {a : Nat} {ws : va_W} {own : String} {ret : Option FieldType}
/-- getfield -/
theorem m_get (C0 : Cx p s m args meth c own cc nL ret) (h : Wd G A s H locs ws) (q0 : Nat) {ci k N index : Nat} {C : String} {T : u_T} {fs : List Value} {v : Value} (he : ws[q0]? = some (a, .inr (ci, fs))) (hc : vwCl[ci]? = some (C, T, N)) (hin : ∀ w ∈ u_ws C T N, w ∈ lw_gd) (hk : k < N) (hlink : Cond.fieldLink own index (T k).1 (T k).2.1 (T k).2.2.1 ∈ lw_gd) (hv : fs[k]? = some v) (hdg : decode cc pc = .ok (.getfield index, 3))
    (kk : W p l e R s m args below meth c H locs cells slots Q (F0 m (pc + 3) ls (v :: rest))) : W p l e R s m args below meth c H locs cells slots Q (F0 m pc ls (.ref a :: rest)) :=
  va_get C0.1 C0.2.1 C0.2.2.2.2.1 hin C0.2.2.2.1 h.1 h.2.1 q0 he hc k hk (C0.2.2.2.2.1 _ hlink) (fun _ h9 => h9) hv hdg kk
/-- putfield, a field that isn't final -/
theorem m_put (C0 : Cx p s m args meth c own cc nL ret) (h : Wd G A s H locs ws) (q0 : Nat) {ci k N index : Nat} {C : String} {T : u_T} {fs : List Value} {v : Value} {ws' : va_W} (ty0 : Nat → FieldType) (hty : ∀ k, k < N → parseFieldDescriptor (T k).2.2.1 = some (ty0 k)) (hnm : ∀ a, a < N → ∀ b, b < N → a ≠ b → (T a).2.1 ≠ (T b).2.1) (hc : vwCl[ci]? = some (C, T, N)) (hin : ∀ w ∈ u_ws C T N, w ∈ lw_gd) (hk : k < N) (hlink : Cond.fieldLink own index (T k).1 (T k).2.1 (T k).2.2.1 ∈ lw_gd) (hfin : (T k).2.2.2 = false) (he : ws[q0]? = some (a, .inr (ci, fs))) (hl : k < fs.length) (hn : narrow (ty0 k) v = v) (hfit : fits (ty0 k) v = true) (hw : ws.set q0 (a, .inr (ci, fs.set k v)) = ws')
    (hdg : decode cc pc = .ok (.putfield index, 3)) (kk : ∀ (H1 : Heap) (locs1 : List Loc), Wd G A s H1 locs1 ws' → W p l e R s m args below meth c H1 locs1 cells slots Q (F0 m (pc + 3) ls rest)) : W p l e R s m args below meth c H locs cells slots Q (F0 m pc ls (v :: .ref a :: rest)) :=
  va_put C0.1 C0.2.1 C0.2.2.2.2.1 hin ty0 hty hnm C0.2.2.2.1 h.1 h.2.1 h.2.2.1 h.2.2.2.1 q0 he hc k hk (C0.2.2.2.2.1 _ hlink) (fun _ h9 => h9) hfin (hty k hk) hn hfit hl hdg (fun H1 locs1 hP hD hS => kk H1 locs1 (hw ▸ ⟨h.1, hP, hD, hS, h.2.2.2.2⟩))
/-- putfield of a final field, in a constructor -/
theorem m_putF (C0 : Cx p s m args meth c own cc nL ret) (h : Wd G A s H locs ws) (hini : meth.name = "<init>") (q0 : Nat) {ci k N index : Nat} {C : String} {T : u_T} {fs : List Value} {v : Value} {ws' : va_W} (ty0 : Nat → FieldType) (hty : ∀ k, k < N → parseFieldDescriptor (T k).2.2.1 = some (ty0 k)) (hnm : ∀ a, a < N → ∀ b, b < N → a ≠ b → (T a).2.1 ≠ (T b).2.1) (hc : vwCl[ci]? = some (C, T, N)) (hin : ∀ w ∈ u_ws C T N, w ∈ lw_gd) (hk : k < N) (hlink : Cond.fieldLink own index (T k).1 (T k).2.1 (T k).2.2.1 ∈ lw_gd) (hfin : (T k).2.2.2 = true) (hdecl : (T k).1 = own) (he : ws[q0]? = some (a, .inr (ci, fs))) (hl : k < fs.length) (hn : narrow (ty0 k) v = v) (hfit : fits (ty0 k) v = true) (hw : ws.set q0 (a, .inr (ci, fs.set k v)) = ws')
    (hdg : decode cc pc = .ok (.putfield index, 3)) (kk : ∀ (H1 : Heap) (locs1 : List Loc), Wd G A s H1 locs1 ws' → W p l e R s m args below meth c H1 locs1 cells slots Q (F0 m (pc + 3) ls rest)) : W p l e R s m args below meth c H locs cells slots Q (F0 m pc ls (v :: .ref a :: rest)) :=
  va_putF C0.1 C0.2.1 C0.2.2.2.2.1 hin ty0 hty hnm C0.2.2.2.1 h.1 h.2.1 h.2.2.1 h.2.2.2.1 q0 he hc k hk (C0.2.2.2.2.1 _ hlink) (fun _ h9 => h9) hfin hini hdecl (hty k hk) hn hfit hl hdg (fun H1 locs1 hP hD hS => kk H1 locs1 (hw ▸ ⟨h.1, hP, hD, hS, h.2.2.2.2⟩))
theorem nI_cl {i : Int32} {k n : Nat} (hi : i = nI k) (hk : k < n) (hn : n < 2 ^ 31) : vp_in i n ∧ i.toNatClampNeg = k := by
  subst hi
  exact ⟨vp_in_nI hk hn, nI_clamp (Nat.lt_trans hk hn)⟩
/-- int arrays -/
theorem m_iald (C0 : Cx p s m args meth c own cc nL ret) (h : Wd G A s H locs ws) (q0 k : Nat) {n : Nat} {f : Nat → Int32} {i : Int32} (ha : ws[q0]? = some (a, .inl (G.2 1, n, .inl f))) (hi : i = nI k) (hk : k < n) (hn : n < 2 ^ 31) (hdg : decode cc pc = .ok (.iaload, 1))
    (kk : W p l e R s m args below meth c H locs cells slots Q (F0 m (pc + 1) ls (.int (f k) :: rest))) : W p l e R s m args below meth c H locs cells slots Q (F0 m pc ls (.int i :: .ref a :: rest)) := by
  obtain ⟨h1, h2⟩ := nI_cl hi hk hn
  refine va_iald C0.1 C0.2.1 h.1 h.2.1 q0 1 ha rfl h1 hdg ?_
  rw [h2]
  exact kk
theorem m_iast (C0 : Cx p s m args meth c own cc nL ret) (h : Wd G A s H locs ws) (q0 k : Nat) {n : Nat} {f : Nat → Int32} {i x : Int32} {ws' : va_W} (ha : ws[q0]? = some (a, .inl (G.2 1, n, .inl f))) (hi : i = nI k) (hk : k < n) (hn : n < 2 ^ 31) (hw : ws.set q0 (a, .inl (G.2 1, n, .inl (upd f k x))) = ws') (hdg : decode cc pc = .ok (.iastore, 1))
    (kk : ∀ (H1 : Heap) (locs1 : List Loc), Wd G A s H1 locs1 ws' → W p l e R s m args below meth c H1 locs1 cells slots Q (F0 m (pc + 1) ls rest)) : W p l e R s m args below meth c H locs cells slots Q (F0 m pc ls (.int x :: .int i :: .ref a :: rest)) := by
  obtain ⟨h1, h2⟩ := nI_cl hi hk hn
  refine va_iast C0.1 C0.2.1 h.1 h.2.1 h.2.2.1 h.2.2.2.1 q0 1 ha rfl h1 hdg (fun H1 locs1 hP hD hS => ?_)
  rw [h2] at hP hD
  exact kk H1 locs1 (hw ▸ ⟨h.1, hP, hD, hS, h.2.2.2.2⟩)
theorem m_lald (C0 : Cx p s m args meth c own cc nL ret) (h : Wd G A s H locs ws) (q0 k : Nat) {n : Nat} {f : Nat → Int64} {i : Int32} (ha : ws[q0]? = some (a, .inl (G.2 2, n, .inr (.inl f)))) (hi : i = nI k) (hk : k < n) (hn : n < 2 ^ 31) (hdg : decode cc pc = .ok (.laload, 1))
    (kk : W p l e R s m args below meth c H locs cells slots Q (F0 m (pc + 1) ls (.long (f k) :: rest))) : W p l e R s m args below meth c H locs cells slots Q (F0 m pc ls (.int i :: .ref a :: rest)) := by
  obtain ⟨h1, h2⟩ := nI_cl hi hk hn
  refine va_lald C0.1 C0.2.1 h.1 h.2.1 q0 2 ha rfl h1 hdg ?_
  rw [h2]
  exact kk
theorem m_last (C0 : Cx p s m args meth c own cc nL ret) (h : Wd G A s H locs ws) (q0 k : Nat) {n : Nat} {f : Nat → Int64} {i : Int32} {x : Int64} {ws' : va_W} (ha : ws[q0]? = some (a, .inl (G.2 2, n, .inr (.inl f)))) (hi : i = nI k) (hk : k < n) (hn : n < 2 ^ 31) (hw : ws.set q0 (a, .inl (G.2 2, n, .inr (.inl (vp_updL f k x)))) = ws') (hdg : decode cc pc = .ok (.lastore, 1))
    (kk : ∀ (H1 : Heap) (locs1 : List Loc), Wd G A s H1 locs1 ws' → W p l e R s m args below meth c H1 locs1 cells slots Q (F0 m (pc + 1) ls rest)) : W p l e R s m args below meth c H locs cells slots Q (F0 m pc ls (.long x :: .int i :: .ref a :: rest)) := by
  obtain ⟨h1, h2⟩ := nI_cl hi hk hn
  refine va_last C0.1 C0.2.1 h.1 h.2.1 h.2.2.1 h.2.2.2.1 q0 2 ha rfl h1 hdg (fun H1 locs1 hP hD hS => ?_)
  rw [h2] at hP hD
  exact kk H1 locs1 (hw ▸ ⟨h.1, hP, hD, hS, h.2.2.2.2⟩)
theorem m_bald (C0 : Cx p s m args meth c own cc nL ret) (h : Wd G A s H locs ws) (q0 k : Nat) {n : Nat} {f : Nat → Int32} {i : Int32} (ha : ws[q0]? = some (a, .inl (G.2 0, n, .inl f))) (hi : i = nI k) (hk : k < n) (hn : n < 2 ^ 31) (hdg : decode cc pc = .ok (.baload, 1))
    (kk : W p l e R s m args below meth c H locs cells slots Q (F0 m (pc + 1) ls (.int (f k) :: rest))) : W p l e R s m args below meth c H locs cells slots Q (F0 m pc ls (.int i :: .ref a :: rest)) := by
  obtain ⟨h1, h2⟩ := nI_cl hi hk hn
  refine va_bald C0.1 C0.2.1 h.1 h.2.1 q0 0 ha rfl h1 hdg ?_
  rw [h2]
  exact kk
theorem m_bast (C0 : Cx p s m args meth c own cc nL ret) (h : Wd G A s H locs ws) (q0 k : Nat) {n : Nat} {f : Nat → Int32} {i x : Int32} {ws' : va_W} (ha : ws[q0]? = some (a, .inl (G.2 0, n, .inl f))) (hi : i = nI k) (hk : k < n) (hn : n < 2 ^ 31) (hw : ws.set q0 (a, .inl (G.2 0, n, .inl (upd f k (vp_nar .byte x)))) = ws') (hdg : decode cc pc = .ok (.bastore, 1))
    (kk : ∀ (H1 : Heap) (locs1 : List Loc), Wd G A s H1 locs1 ws' → W p l e R s m args below meth c H1 locs1 cells slots Q (F0 m (pc + 1) ls rest)) : W p l e R s m args below meth c H locs cells slots Q (F0 m pc ls (.int x :: .int i :: .ref a :: rest)) := by
  obtain ⟨h1, h2⟩ := nI_cl hi hk hn
  refine va_bast C0.1 C0.2.1 h.1 h.2.1 h.2.2.1 h.2.2.2.1 q0 0 ha rfl h1 hdg (fun H1 locs1 hP hD hS => ?_)
  rw [h2] at hP hD
  exact kk H1 locs1 (hw ▸ ⟨h.1, hP, hD, hS, h.2.2.2.2⟩)
theorem m_zald (C0 : Cx p s m args meth c own cc nL ret) (h : Wd G A s H locs ws) (q0 k : Nat) {n : Nat} {f : Nat → Int32} {i : Int32} (ha : ws[q0]? = some (a, .inl (G.2 3, n, .inl f))) (hi : i = nI k) (hk : k < n) (hn : n < 2 ^ 31) (hdg : decode cc pc = .ok (.baload, 1))
    (kk : W p l e R s m args below meth c H locs cells slots Q (F0 m (pc + 1) ls (.int (f k) :: rest))) : W p l e R s m args below meth c H locs cells slots Q (F0 m pc ls (.int i :: .ref a :: rest)) := by
  obtain ⟨h1, h2⟩ := nI_cl hi hk hn
  refine va_zald C0.1 C0.2.1 h.1 h.2.1 q0 3 ha rfl h1 hdg ?_
  rw [h2]
  exact kk
theorem m_zast (C0 : Cx p s m args meth c own cc nL ret) (h : Wd G A s H locs ws) (q0 k : Nat) {n : Nat} {f : Nat → Int32} {i x : Int32} {ws' : va_W} (ha : ws[q0]? = some (a, .inl (G.2 3, n, .inl f))) (hi : i = nI k) (hk : k < n) (hn : n < 2 ^ 31) (hw : ws.set q0 (a, .inl (G.2 3, n, .inl (upd f k (vp_nar .boolean x)))) = ws') (hdg : decode cc pc = .ok (.bastore, 1))
    (kk : ∀ (H1 : Heap) (locs1 : List Loc), Wd G A s H1 locs1 ws' → W p l e R s m args below meth c H1 locs1 cells slots Q (F0 m (pc + 1) ls rest)) : W p l e R s m args below meth c H locs cells slots Q (F0 m pc ls (.int x :: .int i :: .ref a :: rest)) := by
  obtain ⟨h1, h2⟩ := nI_cl hi hk hn
  refine va_zast C0.1 C0.2.1 h.1 h.2.1 h.2.2.1 h.2.2.2.1 q0 3 ha rfl h1 hdg (fun H1 locs1 hP hD hS => ?_)
  rw [h2] at hP hD
  exact kk H1 locs1 (hw ▸ ⟨h.1, hP, hD, hS, h.2.2.2.2⟩)
/-- an array's length: t0 its type's place in tysG -/
theorem m_alen (C0 : Cx p s m args meth c own cc nL ret) (h : Wd G A s H locs ws) (q0 t0 : Nat) {cA : ClassId} {x : vp_A} {ty : FieldType} {v : Int32} (ha : ws[q0]? = some (a, .inl (cA, x))) (ht : (tysG G)[t0]? = some (cA, ty)) (hv : Int32.ofNat x.1 = v) (hdg : decode cc pc = .ok (.arraylength, 1))
    (kk : W p l e R s m args below meth c H locs cells slots Q (F0 m (pc + 1) ls (.int v :: rest))) : W p l e R s m args below meth c H locs cells slots Q (F0 m pc ls (.ref a :: rest)) :=
  va_alen C0.1 C0.2.1 h.1 h.2.1 q0 t0 ha ht hv hdg kk
/-- arrays of objects -/
theorem m_aald (C0 : Cx p s m args meth c own cc nL ret) (h : Wd G A s H locs ws) (q0 t0 k : Nat) {cA : ClassId} {C : String} {n : Nat} {f : Nat → Option Nat} {i : Int32} (ha : ws[q0]? = some (a, .inl (cA, n, .inr (.inr (.inr (.inr f)))))) (ht : (tysG G)[t0]? = some (cA, .object C)) (hi : i = nI k) (hk : k < n) (hn : n < 2 ^ 31) (hdg : decode cc pc = .ok (.aaload, 1))
    (kk : W p l e R s m args below meth c H locs cells slots Q (F0 m (pc + 1) ls (va_rf (f k) :: rest))) : W p l e R s m args below meth c H locs cells slots Q (F0 m pc ls (.int i :: .ref a :: rest)) := by
  obtain ⟨h1, h2⟩ := nI_cl hi hk hn
  refine va_aldq C0.1 C0.2.1 h.1 h.2.1 q0 t0 ha ht h1 hdg ?_
  rw [h2]
  exact kk
theorem m_aast (C0 : Cx p s m args meth c own cc nL ret) (h : Wd G A s H locs ws) (q0 t0 qk ci k : Nat) {cA : ClassId} {r : vw_C} {n v : Nat} {vs : List Value} {f : Nat → Option Nat} {i : Int32} {ws' : va_W} (ha : ws[q0]? = some (a, .inl (cA, n, .inr (.inr (.inr (.inr f)))))) (ht : (tysG G)[t0]? = some (cA, .object r.1)) (hv : ws[qk]? = some (v, .inr (ci, vs))) (hc : vwCl[ci]? = some r) (hi : i = nI k) (hk : k < n) (hn : n < 2 ^ 31) (hw : ws.set q0 (a, .inl (cA, n, .inr (.inr (.inr (.inr (va_up f k (some v))))))) = ws') (hdg : decode cc pc = .ok (.aastore, 1))
    (kk : ∀ (H1 : Heap) (locs1 : List Loc), Wd G A s H1 locs1 ws' → W p l e R s m args below meth c H1 locs1 cells slots Q (F0 m (pc + 1) ls rest)) : W p l e R s m args below meth c H locs cells slots Q (F0 m pc ls (.ref v :: .int i :: .ref a :: rest)) := by
  obtain ⟨h1, h2⟩ := nI_cl hi hk hn
  refine va_astq C0.1 C0.2.1 h.1 h.2.1 h.2.2.1 h.2.2.2.1 q0 t0 qk ci ha ht hv hc h1 hdg (fun H1 locs1 hP hD hS => ?_)
  rw [h2] at hP hD
  exact kk H1 locs1 (hw ▸ ⟨h.1, hP, hD, hS, h.2.2.2.2⟩)
/-- new of an object -/
theorem m_new (C0 : Cx p s m args meth c own cc nL ret) (h : Wd G A s H locs ws) {ci N index : Nat} {C : String} {T : u_T} {fs : List Value} (ty0 : Nat → FieldType) (hty : ∀ k, k < N → parseFieldDescriptor (T k).2.2.1 = some (ty0 k)) (hc : vwCl[ci]? = some (C, T, N)) (hin : ∀ w ∈ u_ws C T N, w ∈ lw_gd) (hcl : Cond.classLink own index C ∈ lw_gd) (hinst : Cond.instantiable C N ∈ lw_gd) (hini : Cond.initialized C ∈ lw_gd) (hfs : ∀ j, j < N → defaultValue (ty0 j) = vp_V fs j) (hcells : cells + 1 ≤ R.cells) (hslots : slots + N ≤ R.slots) (hdg : decode cc pc = .ok (.new index, 3))
    (kk : ∀ (q : Nat) (H1 : Heap), Wd G A s H1 locs (ws ++ [(q, .inr (ci, fs))]) → W p l e R s m args below meth c H1 locs (cells + 1) (slots + N) Q (F0 m (pc + 3) ls (.ref q :: rest))) : W p l e R s m args below meth c H locs cells slots Q (F0 m pc ls rest) :=
  va_new C0.1 C0.2.1 C0.2.2.2.2.1 hin ty0 hty C0.2.2.2.1 (C0.2.2.2.2.1 _ hcl) (C0.2.2.2.2.1 _ hinst) (C0.2.2.2.2.1 _ hini) h.1 h.2.1 h.2.2.1 h.2.2.2.1 h.2.2.2.2 hc hfs hcells hslots hdg (fun q H1 hP hD hS => kk q H1 ⟨h.1, hP, hD, hS, h.2.2.2.2⟩)
theorem tys_prim {k : Nat} {ty : FieldType} {cA cB : ClassId} {tys : List (ClassId × FieldType)} (hp : refKind ty = false) (h1 : va_K G.1 vwCl tys s) (hk : tys[k]? = some (cA, ty)) (h2 : va_K G.1 vwCl (tys ++ [(cB, ty)]) s) : cB = cA := by
  have a1 := (h1.2 k _ hk).2
  have a2 := (h2.2 tys.length (cB, ty) (by simp)).2
  cases ty <;> first | (simp [refKind] at hp; done) | (have e := a1.symm.trans a2; exact (Option.some.inj e).symm)
/-- new of an array of numbers: t0 its type's place in tysG -/
theorem m_newa (C0 : Cx p s m args meth c own cc nL ret) (h : Wd G A s H locs ws) (t0 : Nat) {atype : ArrayType} {ty : FieldType} {cA : ClassId} {n : Int32} {N : Nat} {a0 : vp_A} (hty : newarray.typeOf atype = ty) (hp : refKind ty = false) (ht : (tysG G)[t0]? = some (cA, ty)) (harr : Cond.arrayClass (newarray.typeOf atype) ∈ lw_gd) (ha : ∀ cA : ClassId, vp_cell cA a0 = arrV cA N (fun _ => defaultValue ty)) (hn : ¬ n < 0) (hN : n.toNatClampNeg = N) (hbytes : N * componentBytes ty ≤ 536870912) (hcells : cells + 1 ≤ R.cells) (hslots : slots + N ≤ R.slots) (hdg : decode cc pc = .ok (.newarray atype, 2))
    (kk : ∀ (q : Nat) (H1 : Heap), Wd G A s H1 locs (ws ++ [(q, .inl (cA, a0))]) → W p l e R s m args below meth c H1 locs (cells + 1) (slots + N) Q (F0 m (pc + 2) ls (.ref q :: rest))) : W p l e R s m args below meth c H locs cells slots Q (F0 m pc ls (.int n :: rest)) := by
  refine va_newa C0.1 C0.2.1 (C0.2.2.2.2.1 _ harr) hty h.1 h.2.1 h.2.2.1 h.2.2.2.1 h.2.2.2.2 ha hn hN hbytes hcells hslots hdg (fun q cB H1 hK hP hD hS => ?_)
  have e := tys_prim hp h.1 ht hK
  subst e
  exact kk q H1 ⟨h.1, hP, hD, hS, h.2.2.2.2⟩
theorem tys_obj {k : Nat} {C : String} {cA cB : ClassId} {tys : List (ClassId × FieldType)} (h1 : va_K G.1 vwCl tys s) (hk : tys[k]? = some (cA, .object C)) (h2 : va_K G.1 vwCl (tys ++ [(cB, .object C)]) s) : cB = cA := by
  obtain ⟨_, _, _, _, _, a1⟩ := (h1.2 k _ hk).2
  obtain ⟨_, _, _, _, _, a2⟩ := (h2.2 tys.length (cB, .object C) (by simp)).2
  exact (Option.some.inj (a1.symm.trans a2)).symm
/-- new of an array of objects -/
theorem m_newq (C0 : Cx p s m args meth c own cc nL ret) (h : Wd G A s H locs ws) (t0 : Nat) {C : String} {index : Nat} {cA : ClassId} {n : Int32} {N : Nat} (ht : (tysG G)[t0]? = some (cA, .object C)) (hclink : Cond.classLink own index C ∈ lw_gd) (hover : va_AO C s) (hn : ¬ n < 0) (hN : n.toNatClampNeg = N) (hbytes : N * 4 ≤ 536870912) (hcells : cells + 1 ≤ R.cells) (hslots : slots + N ≤ R.slots) (hdg : decode cc pc = .ok (.anewarray index, 3))
    (kk : ∀ (q : Nat) (H1 : Heap), Wd G A s H1 locs (ws ++ [(q, .inl (cA, N, .inr (.inr (.inr (.inr (fun _ => none))))))]) → W p l e R s m args below meth c H1 locs (cells + 1) (slots + N) Q (F0 m (pc + 3) ls (.ref q :: rest))) : W p l e R s m args below meth c H locs cells slots Q (F0 m pc ls (.int n :: rest)) := by
  refine va_newq C0.1 C0.2.1 C0.2.2.2.1 (C0.2.2.2.2.1 _ hclink) hover h.1 h.2.1 h.2.2.1 h.2.2.2.1 h.2.2.2.2 hn hN hbytes hcells hslots hdg (fun q cB H1 hK hP hD hS => ?_)
  have e := tys_obj h.1 ht hK
  subst e
  exact kk q H1 ⟨h.1, hP, hD, hS, h.2.2.2.2⟩
/-- Object.<init> -/
theorem m_objInit (C0 : Cx p s m args meth c own cc nL ret) (hl : ls.size = nL) {idx : Nat} (hlink : Cond.methodLink own idx Lib.objectInit ∈ lw_gd) (hinst : Cond.instanceMethod Lib.objectInit ∈ lw_gd) (hcode : Cond.code Lib.objectInit ⟨#[0xb1]⟩ 1 none ∈ lw_gd) (hd : decode cc pc = .ok (.invokespecial idx, 3)) (hframes : 1 ≤ R.frames) (hlocals : (rest.map fun v => v.category).sum + 12 ≤ R.locals)
    (kk : W p l e R s m args below meth c H locs cells slots Q (F0 m (pc + 3) ls rest)) : W p l e R s m args below meth c H locs cells slots Q (F0 m pc ls (.ref a :: rest)) := by
  refine W.objInit C0.1 C0.2.1 C0.2.2.2.1 (C0.2.2.2.2.1 _ hlink) (C0.2.2.2.2.1 _ hinst) (C0.2.2.2.2.1 _ hcode) rfl (by rw [C0.2.2.1]; exact hl) rfl hd hframes ?_ kk
  have e : (F0 m pc ls (Value.ref a :: rest)).monitorRoom = 0 := rfl
  rw [e]
  omega
/-- System.arraycopy of ints -/
theorem m_copyi (C0 : Cx p s m args meth c own cc nL ret) (h : Wd G A s H locs ws) (hls : ls.size = nL) (q0 q1 : Nat) {index a0 n0 n1 : Nat} {f g : Nat → Int32} {sp dp n : Int32} {ws' : va_W} (hlink : Cond.methodLink own index arraycopyName ∈ lw_gd) (hnat : Cond.native arraycopyName ∈ lw_gd) (hstat : Cond.static arraycopyName ∈ lw_gd) (hini : Cond.initialized "java/lang/System" ∈ lw_gd) (ha0 : ws[q0]? = some (a0, .inl (G.2 1, n0, .inl f))) (ha1 : ws[q1]? = some (a, .inl (G.2 1, n1, .inl g))) (h1 : ¬ sp < 0) (h2 : ¬ dp < 0) (h3 : ¬ n < 0) (h4 : sp.toNatClampNeg + n.toNatClampNeg ≤ n0) (h5 : dp.toNatClampNeg + n.toNatClampNeg ≤ n1) (hw : ws.set q1 (a, .inl (G.2 1, n1, .inl (va_cpy f g sp.toNatClampNeg dp.toNatClampNeg n.toNatClampNeg))) = ws') (hframes : 1 ≤ R.frames) (hlocals : (rest.map fun v => v.category).sum + (nativeFrameWords "java/lang/System" "arraycopy" 5 + 11) ≤ R.locals) (hdg : decode cc pc = .ok (.invokestatic index, 3))
    (kk : ∀ (H1 : Heap) (locs1 : List Loc), Wd G A s H1 locs1 ws' → W p l e R s m args below meth c H1 locs1 cells slots Q (F0 m (pc + 3) ls rest)) : W p l e R s m args below meth c H locs cells slots Q (F0 m pc ls (.int n :: .int dp :: .ref a :: .int sp :: .ref a0 :: rest)) :=
  va_copyi C0.1 C0.2.1 (by rw [C0.2.2.1]; exact hls.symm) C0.2.2.2.1 (C0.2.2.2.2.1 _ hlink) (C0.2.2.2.2.1 _ hnat) (C0.2.2.2.2.1 _ hstat) (C0.2.2.2.2.1 _ hini) h.1 h.2.1 h.2.2.1 h.2.2.2.1 q0 q1 1 1 ha0 ha1 rfl rfl rfl h1 h2 h3 h4 h5 (fun _ _ => rfl) hframes hlocals hdg (fun H1 locs1 hP hD hS => kk H1 locs1 (hw ▸ ⟨h.1, hP, hD, hS, h.2.2.2.2⟩))
/-- the words of a callee -/
def Yk (y : MethodName) (cc : ByteArray) (nL : Nat) (ret : Option FieldType) (n : Nat) : Prop :=
  Cond.code y cc nL ret ∈ lw_gd ∧ Cond.initialized y.cls ∈ lw_gd ∧ y.cls ≠ "java/lang/invoke/MethodHandle" ∧ y.cls ≠ "java/lang/invoke/VarHandle" ∧ (parseMethodDescriptor y.desc).map (fun d => d.parameters.length) = some n
theorem Yk.cb {own : String} {y : MethodName} {cc : ByteArray} {nL n index d mc ms : Nat} {ret : Option FieldType} (hy : Yk y cc nL ret n) (hts : ∀ w ∈ lw_gd, w.before args s = true) (hl : Cond.methodLink own index y ∈ lw_gd) (hR : d + 1 ≤ R.frames ∧ 8 + (nL + 11) + 64 * d ≤ R.locals) : CallB R s args own index y cc nL ret (.code y cc nL ret :: lw_gd) (rmd d mc ms) mc ms n :=
  callB_of n hts (gd_good hy.1) rfl rfl rfl (hts _ hy.2.1) (hts _ hl) hy.2.2 hR
theorem Yk.cn {own host : String} {y : MethodName} {cc : ByteArray} {nL n index d mc ms : Nat} {ret : Option FieldType} (hy : Yk y cc nL ret n) (hts : ∀ w ∈ lw_gd, w.before args s = true) (hl : va_Nw (.methodLinkNest own index y host) s) (hR : d + 1 ≤ R.frames ∧ 8 + (nL + 11) + 64 * d ≤ R.locals) : va_CN R s args own index y host cc nL ret (.code y cc nL ret :: lw_gd) (rmd d mc ms) mc ms n :=
  va_cnB n hts (gd_good hy.1) rfl rfl rfl hl (hts _ hy.2.1) hy.2.2 hR
/-- the callee's start, out of the caller's world -/
theorem Pr.ofW (C0 : Cx p s m args meth c own cc nL ret) (h : Wd G A s H locs ws) {av : List Value} {wc : va_W} (isC : List Nat) (hn : va_nd isC = true) (hC : isC.map (fun i => ws[i]?) = wc.map some) : ∀ U : State, U.heap = H → s.WarmedH U.vm → Pr G av wc H.size av.toArray U := fun U hU hW =>
  ⟨rfl, by rw [hU], by rw [hU]; exact h.2.1.sub isC (fm_of (ws := ws) (ws' := ws) isC wc hC), va_K.moved hW.alike h.1, (h.2.2.1.sub isC hn hC).weaken (fun _ _ _ _ => trivial), C0.2.2.2.2.2.2.2.moved hW⟩
theorem Wd.back {wc wr w1 : va_W} {H1 : Heap} {locs1 : List Loc} (h : Wd G A s H locs ws) (isC isR : List Nat) (hC : isC.map (fun i => ws[i]?) = wc.map some) (hR : isR.map (fun i => ws[i]?) = wr.map some) (hn : va_nd isR = true) (hdis : ∀ i ∈ isR, i ∉ isC)
    (hk : ∀ q : Nat, q < H.size → ¬ va_A wc H.size q → H1[q]? = H[q]?) (hB : va_P G.1 vwCl w1 H1 ∧ va_D (va_A wc H.size) w1) (hS : va_S A s.heap H1 locs1) : Wd G A s H1 locs1 (wr ++ w1) := by
  obtain ⟨hP, hD⟩ := va_join h.2.1 h.2.2.1 isC isR hC hR hn hdis hk (va_free h.2.2.1 h.2.2.2.1 h.2.2.2.2 isC hC) hB.1 hB.2
  exact ⟨h.1, hP, hD, hS, h.2.2.2.2⟩
/-- a call's run goes on with its answer -/
theorem m_cli {S : Type} {post : Int32 → S → Prop} {ws' : S → va_W} {wc wr : va_W} {av : Array Value} {mc ms : Nat} (h : Wd G A s H locs ws) (hr : va_Run p l e R s m args below meth c H locs cells slots mc ms (F0 m pc ls st0) rest (Ri G post ws' (va_A wc H.size) av) (va_A wc H.size)) (isC isR : List Nat) (hC : isC.map (fun i => ws[i]?) = wc.map some) (hR : isR.map (fun i => ws[i]?) = wr.map some) (hn : va_nd isR = true) (hdis : ∀ i ∈ isR, i ∉ isC)
    (kk : ∀ (r : Int32) (u : S) (H1 : Heap) (locs1 : List Loc), post r u → Wd G A s H1 locs1 (wr ++ ws' u) → W p l e R s m args below meth c H1 locs1 (cells + mc) (slots + ms) Q (F0 m (pc + 3) ls (.int r :: rest))) : W p l e R s m args below meth c H locs cells slots Q (F0 m pc ls st0) := by
  have hF := va_free h.2.2.1 h.2.2.2.1 h.2.2.2.2 isC hC
  refine va_calli hr h.2.2.2.1 (fun q _ hq => hF q hq) hF (fun r u t H1 locs1 ht _ hp hB _ hk hS => ?_)
  unfold Bw at hB
  rw [ht] at hB
  exact kk r u H1 locs1 hp (h.back isC isR hC hR hn hdis hk hB hS)
theorem m_cll {S : Type} {post : Int64 → S → Prop} {ws' : S → va_W} {wc wr : va_W} {av : Array Value} {mc ms : Nat} (h : Wd G A s H locs ws) (hr : va_Run p l e R s m args below meth c H locs cells slots mc ms (F0 m pc ls st0) rest (Rl G post ws' (va_A wc H.size) av) (va_A wc H.size)) (isC isR : List Nat) (hC : isC.map (fun i => ws[i]?) = wc.map some) (hR : isR.map (fun i => ws[i]?) = wr.map some) (hn : va_nd isR = true) (hdis : ∀ i ∈ isR, i ∉ isC)
    (kk : ∀ (r : Int64) (u : S) (H1 : Heap) (locs1 : List Loc), post r u → Wd G A s H1 locs1 (wr ++ ws' u) → W p l e R s m args below meth c H1 locs1 (cells + mc) (slots + ms) Q (F0 m (pc + 3) ls (.long r :: rest))) : W p l e R s m args below meth c H locs cells slots Q (F0 m pc ls st0) := by
  have hF := va_free h.2.2.1 h.2.2.2.1 h.2.2.2.2 isC hC
  refine va_calll hr h.2.2.2.1 (fun q _ hq => hF q hq) hF (fun r u t H1 locs1 ht _ hp hB _ hk hS => ?_)
  unfold Bw at hB
  rw [ht] at hB
  exact kk r u H1 locs1 hp (h.back isC isR hC hR hn hdis hk hB hS)
theorem m_clv {S : Type} {post : S → Prop} {ws' : S → va_W} {wc wr : va_W} {av : Array Value} {mc ms : Nat} (h : Wd G A s H locs ws) (hr : va_Run p l e R s m args below meth c H locs cells slots mc ms (F0 m pc ls st0) rest (Rv G post ws' (va_A wc H.size) av) (va_A wc H.size)) (isC isR : List Nat) (hC : isC.map (fun i => ws[i]?) = wc.map some) (hR : isR.map (fun i => ws[i]?) = wr.map some) (hn : va_nd isR = true) (hdis : ∀ i ∈ isR, i ∉ isC)
    (kk : ∀ (u : S) (H1 : Heap) (locs1 : List Loc), post u → Wd G A s H1 locs1 (wr ++ ws' u) → W p l e R s m args below meth c H1 locs1 (cells + mc) (slots + ms) Q (F0 m (pc + 3) ls rest)) : W p l e R s m args below meth c H locs cells slots Q (F0 m pc ls st0) := by
  have hF := va_free h.2.2.1 h.2.2.2.1 h.2.2.2.2 isC hC
  refine va_callv hr h.2.2.2.1 (fun q _ hq => hF q hq) hF (fun u t H1 locs1 ht _ hp hB _ hk hS => ?_)
  unfold Bw at hB
  rw [ht] at hB
  exact kk u H1 locs1 hp (h.back isC isR hC hR hn hdis hk hB hS)
/-- the runs: virtual, static, constructors, of nest mates -/
theorem m_rV {y : MethodName} {c2 : ByteArray} {n2 index n d mc ms ci q0 : Nat} {r2 : Option FieldType} {b : Nat} {As : List Value} {wc : va_W} {Qp : QP} {vc : vw_C} {fs : List Value} (C0 : Cx p s m args meth c own cc nL ret) (h : Wd G A s H locs ws) (hM : Mt l y c2 n2 r2 d mc ms G (.ref b :: As) wc Qp) (hy : Yk y c2 n2 r2 n) (hin : Cond.instanceMethod y ∈ lw_gd) (hsel : Cond.selects y.cls y y ∈ lw_gd) (hl : Cond.methodLink own index y ∈ lw_gd) (hc : vwCl[ci]? = some vc) (hvc : vc.1 = y.cls) (he : ws[q0]? = some (b, .inr (ci, fs))) (isC : List Nat) (hnd : va_nd isC = true) (hC : isC.map (fun i => ws[i]?) = wc.map some) (hls : ls.size = nL) (hn : As.length = n) (hst : st0 = As.reverse ++ .ref b :: rest) (hrest : (rest.map fun v => v.category).sum ≤ 8) (hdg : decode cc pc = .ok (.invokevirtual index, 3)) (hR : d + 1 ≤ R.frames ∧ 8 + (n2 + 11) + 64 * d ≤ R.locals) (hf : cells + mc ≤ R.cells ∧ slots + ms ≤ R.slots) :
    va_Run p l e R s m args below meth c H locs cells slots mc ms (F0 m pc ls st0) rest (Qp (va_A wc H.size) (Value.ref b :: As).toArray) (va_A wc H.size) := by
  obtain ⟨cell, r1, r2', r3⟩ := va_recv h.1 h.2.1 hc he
  rw [hvc] at r3
  exact va_runV ⟨C0.1, C0.2.1, C0.2.2.1, C0.2.2.2.1, C0.2.2.2.2.1⟩ (hM H.size) ⟨hy.cb C0.2.2.2.2.1 hl hR, C0.2.2.2.2.1 _ hin, C0.2.2.2.2.1 _ hsel⟩ ⟨Pr.blind G _ wc H.size, ⟨cell, r1, r2', r3⟩, Pr.ofW C0 h isC hnd hC⟩ rfl hn hls hst (lv_room hrest) hdg hf
theorem m_rVN {y : MethodName} {c2 : ByteArray} {n2 index n d mc ms ci q0 : Nat} {r2 : Option FieldType} {b : Nat} {As : List Value} {wc : va_W} {Qp : QP} {vc : vw_C} {fs : List Value} {host : String} (C0 : Cx p s m args meth c own cc nL ret) (h : Wd G A s H locs ws) (hM : Mt l y c2 n2 r2 d mc ms G (.ref b :: As) wc Qp) (hy : Yk y c2 n2 r2 n) (hin : Cond.instanceMethod y ∈ lw_gd) (hsel : Cond.selects y.cls y y ∈ lw_gd) (hl : va_Nw (.methodLinkNest own index y host) s) (hc : vwCl[ci]? = some vc) (hvc : vc.1 = y.cls) (he : ws[q0]? = some (b, .inr (ci, fs))) (isC : List Nat) (hnd : va_nd isC = true) (hC : isC.map (fun i => ws[i]?) = wc.map some) (hls : ls.size = nL) (hn : As.length = n) (hst : st0 = As.reverse ++ .ref b :: rest) (hrest : (rest.map fun v => v.category).sum ≤ 8) (hdg : decode cc pc = .ok (.invokevirtual index, 3)) (hR : d + 1 ≤ R.frames ∧ 8 + (n2 + 11) + 64 * d ≤ R.locals) (hf : cells + mc ≤ R.cells ∧ slots + ms ≤ R.slots) :
    va_Run p l e R s m args below meth c H locs cells slots mc ms (F0 m pc ls st0) rest (Qp (va_A wc H.size) (Value.ref b :: As).toArray) (va_A wc H.size) := by
  obtain ⟨cell, r1, r2', r3⟩ := va_recv h.1 h.2.1 hc he
  rw [hvc] at r3
  exact va_runVN ⟨C0.1, C0.2.1, C0.2.2.1, C0.2.2.2.1, C0.2.2.2.2.1⟩ (hM H.size) ⟨hy.cn C0.2.2.2.2.1 hl hR, C0.2.2.2.2.1 _ hin, C0.2.2.2.2.1 _ hsel⟩ ⟨Pr.blind G _ wc H.size, ⟨cell, r1, r2', r3⟩, Pr.ofW C0 h isC hnd hC⟩ rfl hn hls hst (lv_room hrest) hdg hf
theorem m_rS {y : MethodName} {c2 : ByteArray} {n2 index n d mc ms : Nat} {r2 : Option FieldType} {As : List Value} {wc : va_W} {Qp : QP} (C0 : Cx p s m args meth c own cc nL ret) (h : Wd G A s H locs ws) (hM : Mt l y c2 n2 r2 d mc ms G As wc Qp) (hy : Yk y c2 n2 r2 n) (hstat : Cond.static y ∈ lw_gd) (hl : Cond.methodLink own index y ∈ lw_gd) (isC : List Nat) (hnd : va_nd isC = true) (hC : isC.map (fun i => ws[i]?) = wc.map some) (hls : ls.size = nL) (hn : As.length = n) (hst : st0 = As.reverse ++ rest) (hrest : (rest.map fun v => v.category).sum ≤ 8) (hdg : decode cc pc = .ok (.invokestatic index, 3)) (hR : d + 1 ≤ R.frames ∧ 8 + (n2 + 11) + 64 * d ≤ R.locals) (hf : cells + mc ≤ R.cells ∧ slots + ms ≤ R.slots) :
    va_Run p l e R s m args below meth c H locs cells slots mc ms (F0 m pc ls st0) rest (Qp (va_A wc H.size) As.toArray) (va_A wc H.size) :=
  va_runS ⟨C0.1, C0.2.1, C0.2.2.1, C0.2.2.2.1, C0.2.2.2.2.1⟩ (hM H.size) ⟨hy.cb C0.2.2.2.2.1 hl hR, C0.2.2.2.2.1 _ hstat⟩ ⟨Pr.blind G _ wc H.size, Pr.ofW C0 h isC hnd hC⟩ rfl hn hls hst (lv_room hrest) hdg hf
theorem m_rI {y : MethodName} {c2 : ByteArray} {n2 index n d mc ms : Nat} {b : Nat} {As : List Value} {wc : va_W} {Qp : QP} (C0 : Cx p s m args meth c own cc nL ret) (h : Wd G A s H locs ws) (hM : Mt l y c2 n2 none d mc ms G (.ref b :: As) wc Qp) (hy : Yk y c2 n2 none n) (hyi : y.name = "<init>") (hin : Cond.instanceMethod y ∈ lw_gd) (hl : Cond.methodLink own index y ∈ lw_gd) (isC : List Nat) (hnd : va_nd isC = true) (hC : isC.map (fun i => ws[i]?) = wc.map some) (hls : ls.size = nL) (hn : As.length = n) (hst : st0 = As.reverse ++ .ref b :: rest) (hrest : (rest.map fun v => v.category).sum ≤ 8) (hdg : decode cc pc = .ok (.invokespecial index, 3)) (hR : d + 1 ≤ R.frames ∧ 8 + (n2 + 11) + 64 * d ≤ R.locals) (hf : cells + mc ≤ R.cells ∧ slots + ms ≤ R.slots) :
    va_Run p l e R s m args below meth c H locs cells slots mc ms (F0 m pc ls st0) rest (Qp (va_A wc H.size) (Value.ref b :: As).toArray) (va_A wc H.size) :=
  va_runI ⟨C0.1, C0.2.1, C0.2.2.1, C0.2.2.2.1, C0.2.2.2.2.1⟩ (hM H.size) ⟨hy.cb C0.2.2.2.2.1 hl hR, hyi, C0.2.2.2.2.1 _ hin⟩ ⟨Pr.blind G _ wc H.size, Pr.ofW C0 h isC hnd hC⟩ rfl hn hls hst (lv_room hrest) hdg hf
theorem m_rIN {y : MethodName} {c2 : ByteArray} {n2 index n d mc ms : Nat} {b : Nat} {As : List Value} {wc : va_W} {Qp : QP} {host : String} (C0 : Cx p s m args meth c own cc nL ret) (h : Wd G A s H locs ws) (hM : Mt l y c2 n2 none d mc ms G (.ref b :: As) wc Qp) (hy : Yk y c2 n2 none n) (hyi : y.name = "<init>") (hin : Cond.instanceMethod y ∈ lw_gd) (hl : va_Nw (.methodLinkNest own index y host) s) (isC : List Nat) (hnd : va_nd isC = true) (hC : isC.map (fun i => ws[i]?) = wc.map some) (hls : ls.size = nL) (hn : As.length = n) (hst : st0 = As.reverse ++ .ref b :: rest) (hrest : (rest.map fun v => v.category).sum ≤ 8) (hdg : decode cc pc = .ok (.invokespecial index, 3)) (hR : d + 1 ≤ R.frames ∧ 8 + (n2 + 11) + 64 * d ≤ R.locals) (hf : cells + mc ≤ R.cells ∧ slots + ms ≤ R.slots) :
    va_Run p l e R s m args below meth c H locs cells slots mc ms (F0 m pc ls st0) rest (Qp (va_A wc H.size) (Value.ref b :: As).toArray) (va_A wc H.size) :=
  va_runIN ⟨C0.1, C0.2.1, C0.2.2.1, C0.2.2.2.1, C0.2.2.2.2.1⟩ (hM H.size) ⟨hy.cn C0.2.2.2.2.1 hl hR, hyi, C0.2.2.2.2.1 _ hin⟩ ⟨Pr.blind G _ wc H.size, Pr.ofW C0 h isC hnd hC⟩ rfl hn hls hst (lv_room hrest) hdg hf
/-- a method's end -/
theorem m_iret {S : Type} {post : Int32 → S → Prop} {ws' : S → va_W} {mc ms : Nat} {v : Int32} (u : S) (C0 : Cx p s m args meth c own cc nL (some .int)) (h : Wd G A s H locs ws) (is : List Nat) (hn : va_nd is = true) (hs : is.map (fun i => ws[i]?) = (ws' u).map some) (hp : post v u) (hc : cells ≤ mc) (hsl : slots ≤ ms) (hdg : decode cc pc = .ok (.ireturn, 1)) :
    W p l e R s m args below meth c H locs cells slots (MQ below (Ri G post ws' A) args s mc ms A) (F0 m pc ls [.int v]) := by
  have h2 := h.sub is hn hs
  refine W.widen (k := mc) (n := ms) hc hsl ?_
  exact W.iret C0.1 C0.2.1 C0.2.2.2.2.2.1 (fun t ht hW => ⟨⟨v, u, rfl, hp, by rw [ht]; exact h2.2.1, h2.2.2.1⟩, h2.2.2.2.1.F ht⟩) h2.2.2.2.1.2.2 hdg C0.2.2.2.2.2.2.1
theorem m_zret {S : Type} {post : Int32 → S → Prop} {ws' : S → va_W} {mc ms : Nat} {v : Int32} (u : S) (C0 : Cx p s m args meth c own cc nL (some .boolean)) (h : Wd G A s H locs ws) (hv : narrow .boolean (.int v) = .int v) (is : List Nat) (hn : va_nd is = true) (hs : is.map (fun i => ws[i]?) = (ws' u).map some) (hp : post v u) (hc : cells ≤ mc) (hsl : slots ≤ ms) (hdg : decode cc pc = .ok (.ireturn, 1)) :
    W p l e R s m args below meth c H locs cells slots (MQ below (Ri G post ws' A) args s mc ms A) (F0 m pc ls [.int v]) := by
  have h2 := h.sub is hn hs
  refine W.widen (k := mc) (n := ms) hc hsl ?_
  exact W.zret C0.1 C0.2.1 C0.2.2.2.2.2.1 hv (fun t ht hW => ⟨⟨v, u, rfl, hp, by rw [ht]; exact h2.2.1, h2.2.2.1⟩, h2.2.2.2.1.F ht⟩) h2.2.2.2.1.2.2 hdg C0.2.2.2.2.2.2.1
theorem m_lret {S : Type} {post : Int64 → S → Prop} {ws' : S → va_W} {mc ms : Nat} {v : Int64} (u : S) (C0 : Cx p s m args meth c own cc nL (some .long)) (h : Wd G A s H locs ws) (is : List Nat) (hn : va_nd is = true) (hs : is.map (fun i => ws[i]?) = (ws' u).map some) (hp : post v u) (hc : cells ≤ mc) (hsl : slots ≤ ms) (hdg : decode cc pc = .ok (.lreturn, 1)) :
    W p l e R s m args below meth c H locs cells slots (MQ below (Rl G post ws' A) args s mc ms A) (F0 m pc ls [.long v]) := by
  have h2 := h.sub is hn hs
  refine W.widen (k := mc) (n := ms) hc hsl ?_
  exact W.lret C0.1 C0.2.1 C0.2.2.2.2.2.1 (fun t ht hW => ⟨⟨v, u, rfl, hp, by rw [ht]; exact h2.2.1, h2.2.2.1⟩, h2.2.2.2.1.F ht⟩) h2.2.2.2.1.2.2 hdg C0.2.2.2.2.2.2.1
theorem m_vret {S : Type} {post : S → Prop} {ws' : S → va_W} {mc ms : Nat} (u : S) (C0 : Cx p s m args meth c own cc nL none) (h : Wd G A s H locs ws) (is : List Nat) (hn : va_nd is = true) (hs : is.map (fun i => ws[i]?) = (ws' u).map some) (hp : post u) (hc : cells ≤ mc) (hsl : slots ≤ ms) (hdg : decode cc pc = .ok (.return_, 1)) :
    W p l e R s m args below meth c H locs cells slots (MQ below (Rv G post ws' A) args s mc ms A) (F0 m pc ls []) := by
  have h2 := h.sub is hn hs
  refine W.widen (k := mc) (n := ms) hc hsl ?_
  exact W.vret C0.1 C0.2.1 C0.2.2.2.2.2.1 (fun t ht hW => ⟨⟨u, rfl, hp, by rw [ht]; exact h2.2.1, h2.2.2.1⟩, h2.2.2.2.1.F ht⟩) h2.2.2.2.1.2.2 hdg C0.2.2.2.2.2.2.1
end MY
