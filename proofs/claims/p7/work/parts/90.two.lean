/-! two worlds side by side: a call over the first, the other stays -/
theorem ap_C (a b : va_W) : (List.range a.length).map (fun i => (a ++ b)[i]?) = a.map some := by
  apply List.ext_getElem?
  intro i
  simp only [List.getElem?_map]
  by_cases h : i < a.length
  · rw [List.getElem?_range h]
    simp only [Option.map_some]
    rw [List.getElem?_append_left h, List.getElem?_eq_getElem h]
    rfl
  · rw [List.getElem?_eq_none (by simpa using h), List.getElem?_eq_none (by omega)]
    rfl
theorem ap_R (a b : va_W) : ((List.range b.length).map (fun i => a.length + i)).map (fun i => (a ++ b)[i]?) = b.map some := by
  apply List.ext_getElem?
  intro i
  simp only [List.getElem?_map]
  by_cases h : i < b.length
  · rw [List.getElem?_range h]
    simp only [Option.map_some]
    rw [List.getElem?_append_right (by omega), Nat.add_sub_cancel_left, List.getElem?_eq_getElem h]
    rfl
  · rw [List.getElem?_eq_none (by simpa using h), List.getElem?_eq_none (by omega)]
    rfl
theorem nd_of : ∀ (l : List Nat), l.Nodup → va_nd l = true
  | [], _ => rfl
  | a :: l, h => by
    have h := List.nodup_cons.mp h
    simp only [va_nd, Bool.and_eq_true, decide_eq_true_eq]
    exact ⟨h.1, nd_of l h.2⟩
theorem nd_C (n : Nat) : va_nd (List.range n) = true := nd_of _ List.nodup_range
theorem nd_R (n k : Nat) : va_nd ((List.range n).map (fun i => k + i)) = true := nd_of _ (by
  rw [List.nodup_iff_pairwise_ne, List.pairwise_map]
  exact (List.nodup_iff_pairwise_ne.mp List.nodup_range).imp (fun h e => h (by omega)))
theorem di_R (n k : Nat) : ∀ i ∈ (List.range n).map (fun i => k + i), i ∉ List.range k := fun i hi hk => by
  obtain ⟨j, -, rfl⟩ := List.mem_map.mp hi
  have := List.mem_range.mp hk
  omega
section TWO
variable {p : Program} {l : Launch} {e : Env} {R : Room} {s : State} {m : MethodId} {args : Array Value} {below : List Frame} {meth : Method} {c : Code} {H : Heap} {locs : List Loc} {cells slots : Nat} {Q : State → Prop}
variable {cc : ByteArray} {pc nL : Nat} {ls : Array Slot} {rest st0 : List Value} {G : GG} {A : Nat → Prop} {wc wr : va_W} {own : String} {ret : Option FieldType} {S : Sp} {ad : Nat → Nat} {Z : RZ} {i κ ci index : Nat}
theorem Wd.swap (h : Wd G A s H locs (wc ++ wr)) : Wd G A s H locs (wr ++ wc) := by
  refine h.sub ((List.range wr.length).map (fun i => wc.length + i) ++ List.range wc.length) ?_ ?_
  · apply nd_of
    rw [List.nodup_append]
    refine ⟨?_, List.nodup_range, ?_⟩
    · rw [List.nodup_iff_pairwise_ne, List.pairwise_map]
      exact (List.nodup_iff_pairwise_ne.mp List.nodup_range).imp (fun h e => h (by omega))
    · intro a ha b hb e
      subst e
      exact di_R _ _ a ha hb
  · rw [List.map_append, ap_R, ap_C, List.map_append]
/-- the callee's start, out of the first world -/
theorem z_pre {av : List Value} (C0 : Cx p s m args meth c own cc nL ret) (hZ : Ro Z A s s.heap) (h : Wd G A s H locs (wc ++ wr)) : ∀ U : State, U.heap = H → s.WarmedH U.vm → Pq G Z av wc H.size av.toArray U := fun U hU hW => by
  have hF := va_free h.2.2.1 h.2.2.2.1 h.2.2.2.2 _ (ap_C wc wr)
  have h2 := h.sub _ (nd_C wc.length) (ap_C wc wr)
  refine ⟨rfl, ⟨by rw [hU], by rw [hU]; exact h2.2.1, va_K.moved hW.alike h.1, h2.2.2.1.weaken (fun _ _ _ _ => trivial), C0.2.2.2.2.2.2.2.moved hW⟩, ?_⟩
  rw [hU]
  exact ((hZ.kept h.2.2.2.1.1 h.2.2.2.1.2.1).warm hW).narrow hF
theorem z_rV {y : MethodName} {c2 : ByteArray} {n2 n d : Nat} {r2 : Option FieldType} {As : List Value} {Qp : QP} {vc : vw_C} {fts : List FT} (C0 : Cx p s m args meth c own cc nL ret) (hZ : Ro Z A s s.heap) (h : Wd G A s H locs (wc ++ wr)) (hT : Ty G S ad wc) (hM : Mq l y c2 n2 r2 d G Z (.ref (ad i) :: As) wc Qp) (hy : Yk y c2 n2 r2 n) (hin : Cond.instanceMethod y ∈ lw_gd) (hsel : Cond.selects y.cls y y ∈ lw_gd) (hl : Cond.methodLink own index y ∈ lw_gd) (hk : Kd S i κ) (hct : S.2.1 κ = .inr (.inr (.inr (ci, fts)))) (hc : vwCl[ci]? = some vc) (hvc : vc.1 = y.cls) (hls : ls.size = nL) (hn : As.length = n) (hst : st0 = As.reverse ++ .ref (ad i) :: rest) (hrest : (rest.map fun v => v.category).sum ≤ 8) (hdg : decode cc pc = .ok (.invokevirtual index, 3)) (hR : d + 1 ≤ R.frames ∧ 8 + (n2 + 11) + 64 * d ≤ R.locals) (hf : cells ≤ R.cells ∧ slots ≤ R.slots) :
    va_Run p l e R s m args below meth c H locs cells slots 0 0 (F0 m pc ls st0) rest (Qp (va_A wc H.size) (Value.ref (ad i) :: As).toArray) (va_A wc H.size) := by
  have h2 := h.sub _ (nd_C wc.length) (ap_C wc wr)
  obtain ⟨fs, h1, -, -⟩ := hT.obj hk hct
  obtain ⟨cell, r1, r2', r3⟩ := va_recv h2.1 h2.2.1 hc h1
  rw [hvc] at r3
  exact va_runV ⟨C0.1, C0.2.1, C0.2.2.1, C0.2.2.2.1, C0.2.2.2.2.1⟩ (hM H.size) ⟨hy.cb C0.2.2.2.2.1 hl hR, C0.2.2.2.2.1 _ hin, C0.2.2.2.2.1 _ hsel⟩ ⟨Pq.blind G Z _ wc H.size, ⟨cell, r1, r2', r3⟩, z_pre C0 hZ h⟩ rfl hn hls hst (lv_room hrest) hdg hf
theorem z_ci {M : List Nat} {post : Int32 → va_W → Prop} {av : Array Value} (h : Wd G A s H locs (wc ++ wr)) (hr : va_Run p l e R s m args below meth c H locs cells slots 0 0 (F0 m pc ls st0) rest (PI G S ad M wc post (va_A wc H.size) av) (va_A wc H.size))
    (kk : ∀ (r : Int32) (H1 : Heap) (locs1 : List Loc) (u : va_W), Wd G A s H1 locs1 (u ++ wr) → Ty G S ad u → Fr S M wc u → post r u → W p l e R s m args below meth c H1 locs1 cells slots Q (F0 m (pc + 3) ls (.int r :: rest))) : W p l e R s m args below meth c H locs cells slots Q (F0 m pc ls st0) :=
  m_cli h hr _ _ (ap_C wc wr) (ap_R wc wr) (nd_R _ _) (di_R _ _) (fun r u H1 locs1 hp hw => kk r H1 locs1 u hw.swap hp.1.1 hp.1.2 hp.2)
theorem z_cl {M : List Nat} {post : Int64 → va_W → Prop} {av : Array Value} (h : Wd G A s H locs (wc ++ wr)) (hr : va_Run p l e R s m args below meth c H locs cells slots 0 0 (F0 m pc ls st0) rest (PL G S ad M wc post (va_A wc H.size) av) (va_A wc H.size))
    (kk : ∀ (r : Int64) (H1 : Heap) (locs1 : List Loc) (u : va_W), Wd G A s H1 locs1 (u ++ wr) → Ty G S ad u → Fr S M wc u → post r u → W p l e R s m args below meth c H1 locs1 cells slots Q (F0 m (pc + 3) ls (.long r :: rest))) : W p l e R s m args below meth c H locs cells slots Q (F0 m pc ls st0) :=
  m_cll h hr _ _ (ap_C wc wr) (ap_R wc wr) (nd_R _ _) (di_R _ _) (fun r u H1 locs1 hp hw => kk r H1 locs1 u hw.swap hp.1.1 hp.1.2 hp.2)
end TWO
/-! a type, cell by cell -/
def TyL (G : GG) (S : Sp) (ad : Nat → Nat) : Nat → va_W → Prop
  | _, [] => True
  | i, q :: ws => (q.1 = ad i ∧ ctOk G S ad i (S.2.1 (S.1 i)) q.2) ∧ TyL G S ad (i + 1) ws
theorem TyL.get {G : GG} {S : Sp} {ad : Nat → Nat} : ∀ (ws : va_W) (b i : Nat), TyL G S ad b ws → i < ws.length → ∃ e : va_E, ws[i]? = some (ad (b + i), e) ∧ ctOk G S ad (b + i) (S.2.1 (S.1 (b + i))) e
  | [], _, _, _, h => absurd h (by simp)
  | q :: ws, b, 0, h, _ => ⟨q.2, by rw [List.getElem?_cons_zero, Nat.add_zero, ← h.1.1], by rw [Nat.add_zero]; exact h.1.2⟩
  | q :: ws, b, i + 1, h, hi => by
    obtain ⟨e, h1, h2⟩ := TyL.get ws (b + 1) i h.2 (by simpa using hi)
    have eq : b + 1 + i = b + (i + 1) := by omega
    rw [eq] at h1 h2
    exact ⟨e, by rw [List.getElem?_cons_succ]; exact h1, h2⟩
theorem TyL.app {G : GG} {S : Sp} {ad : Nat → Nat} {v : va_W} : ∀ (u : va_W) (b n : Nat), TyL G S ad b u → b + u.length = n → TyL G S ad n v → TyL G S ad b (u ++ v)
  | [], b, n, _, e, h2 => by
    have : b = n := by simpa using e
    subst this
    exact h2
  | q :: u, b, n, h, e, h2 => ⟨h.1, TyL.app u (b + 1) n h.2 (by rw [List.length_cons] at e; omega) h2⟩
theorem Ty.ofL {G : GG} {S : Sp} {ad : Nat → Nat} {ws : va_W} (hl : ws.length = S.2.2) (h : TyL G S ad 0 ws) : Ty G S ad ws := ⟨hl, fun i hi => by
  obtain ⟨e, h1, h2⟩ := TyL.get ws 0 i h (by rw [hl]; exact hi)
  rw [Nat.zero_add] at h1 h2
  exact ⟨e, h1, h2⟩⟩
/-- an object's fields, one by one -/
def FtL (S : Sp) (ad : Nat → Nat) (i : Nat) : List FT → List Value → Prop
  | [], [] => True
  | t :: ts, v :: vs => ftOk S ad i t v ∧ FtL S ad i ts vs
  | _, _ => False
theorem FtL.get {S : Sp} {ad : Nat → Nat} {i : Nat} : ∀ (ts : List FT) (vs : List Value), FtL S ad i ts vs → vs.length = ts.length ∧ ∀ (k : Nat) (t : FT), ts[k]? = some t → ∃ v : Value, vs[k]? = some v ∧ ftOk S ad i t v
  | [], [], _ => ⟨rfl, fun k t h => by simp at h⟩
  | t :: ts, v :: vs, h => by
    obtain ⟨h1, h2⟩ := FtL.get ts vs h.2
    refine ⟨by simp [h1], fun k t' hk => ?_⟩
    cases k with
    | zero =>
      rw [List.getElem?_cons_zero] at hk ⊢
      cases hk
      exact ⟨v, rfl, h.1⟩
    | succ k =>
      rw [List.getElem?_cons_succ] at hk ⊢
      exact h2 k t' hk
  | [], _ :: _, h => h.elim
  | _ :: _, [], h => h.elim
theorem ct_obj {G : GG} {S : Sp} {ad : Nat → Nat} {i ci : Nat} {ts : List FT} {vs : List Value} (h : FtL S ad i ts vs) : ctOk G S ad i (.inr (.inr (.inr (ci, ts)))) (.inr (ci, vs)) := ⟨vs, rfl, FtL.get ts vs h⟩
theorem ct_int {G : GG} {S : Sp} {ad : Nat → Nat} {i t0 n : Nat} {el : Nat → Int × Int} {f : Nat → Int32} (h : ∀ j, j < n → (el j).1 ≤ (f j).toInt ∧ (f j).toInt ≤ (el j).2) : ctOk G S ad i (.inl (t0, n, el)) (.inl (G.2 t0, n, .inl f)) := ⟨f, rfl, h⟩
theorem ct_long {G : GG} {S : Sp} {ad : Nat → Nat} {i n : Nat} {f : Nat → Int64} : ctOk G S ad i (.inr (.inl n)) (.inl (G.2 2, n, .inr (.inl f))) := ⟨f, rfl⟩
theorem ct_ref {G : GG} {S : Sp} {ad : Nat → Nat} {i t0 n : Nat} {tg : Nat → Nat} {f : Nat → Option Nat} (h : ∀ j, j < n → f j = some (ad (tg j))) : ctOk G S ad i (.inr (.inr (.inl (t0, n, tg)))) (.inl (G.2 t0, n, .inr (.inr (.inr (.inr f))))) := ⟨f, rfl, h⟩
theorem ct_z {lo hi : Int} (h1 : lo ≤ 0) (h2 : 0 ≤ hi) : lo ≤ (0 : Int32).toInt ∧ (0 : Int32).toInt ≤ hi := ⟨h1, h2⟩
