/-! new T[2][k]: the outer array and its two rows -/
theorem mu_outer (c : ClassId) (h0 : Nat) : Jvm.Free.Multi.outerC c 2 h0 2 = vp_cell c (2, .inr (.inr (.inr (.inr (fun i => if i = 0 then some (h0 + 1) else if i = 1 then some (h0 + 2) else none))))) := by
  rw [vp_cell_q]
  show ((({ cls := c, slots := Array.replicate 2 .null, vm := .none } : Cell).setSlot 0 (.ref (h0 + 1 + 0))).setSlot 1 (.ref (h0 + 1 + 1))) = _
  rw [arrV_new, arrV_store, arrV_store]
  refine congrArg (arrV c 2) (funext fun j => ?_)
  by_cases e1 : j = 1
  · subst e1
    simp [updV, va_rf]
  · by_cases e0 : j = 0
    · subst e0
      simp [updV, va_rf]
    · simp [updV, va_rf, e1, e0]
section MU
variable {p : Program} {l : Launch} {e : Env} {R : Room} {s : State} {m : MethodId} {args : Array Value} {below : List Frame} {meth : Method} {c : Code} {H : Heap} {locs : List Loc} {cells slots : Nat} {Q : State → Prop}
variable {cc : ByteArray} {pc nL : Nat} {ls : Array Slot} {rest st0 : List Value} {G : GG} {A : Nat → Prop} {a : Nat} {ws : va_W} {own : String} {ret : Option FieldType}
theorem m_mna2 (C0 : Cx p s m args meth c own cc nL ret) (h : Wd G A s H locs ws) (t0 t1 : Nat) {index : Nat} {ty : FieldType} {cA cy : ClassId} (ht0 : (tysG G)[t0]? = some (cA, .array ty)) (ht1 : (tysG G)[t1]? = some (cy, ty)) (hcl : ty.toString = ty.toString → s.vm.findClass (FieldType.array ty).toString = some cy) (hclink : Cond.classLink own index ("[" ++ (FieldType.array ty).toString) ∈ lw_gd) (hover : nx_A ty s) (harr : Cond.arrayClass ty ∈ lw_gd) {k : Int32} {K : Nat} {z : vp_A} (hk : ¬ k < 0) (hK : k.toNatClampNeg = K) (hb2 : K * componentBytes ty ≤ 536870912) (hb3 : K ≤ 536870912) (hdf : fits ty (defaultValue ty) = true) (hdd : (defaultValue ty).isDefault = true) (hz : ∀ c : ClassId, Jvm.Free.Multi.innerC c K (defaultValue ty) = vp_cell c z) (hcells : cells + 3 ≤ R.cells) (hslots : slots + (2 + 2 * K) ≤ R.slots) (hdg : decode cc pc = .ok (.multianewarray index 2, 4))
    (kk : ∀ (q0 q1 q2 : Nat) (H1 : Heap), Wd G A s H1 locs (ws ++ [(q0, .inl (cA, 2, .inr (.inr (.inr (.inr (fun i => if i = 0 then some q1 else if i = 1 then some q2 else none)))))), (q1, .inl (cy, z)), (q2, .inl (cy, z))]) → W p l e R s m args below meth c H1 locs (cells + 3) (slots + (2 + 2 * K)) Q (F0 m (pc + 4) ls (.ref q0 :: rest))) : W p l e R s m args below meth c H locs cells slots Q (F0 m pc ls (.int k :: .int 2 :: rest)) := by
  subst hK
  intro T hT X
  have n2 : (2 : Int32).toNatClampNeg = 2 := by decide
  obtain ⟨vm₁, cB, comp, -, fA, fC, -, -, X', step⟩ := X.multianewarray2F C0.1 C0.2.2.2.1 (C0.2.2.2.2.1 _ hclink) hover (C0.2.2.2.2.1 _ harr) (g := F0 m pc ls (.int k :: .int 2 :: rest)) rfl (by rw [C0.2.1]; exact hdg) rfl (by decide) hk (by decide) hb2 hb3 hdf hdd (by rw [n2]; omega) (by rw [n2]; omega)
  rw [n2] at X' step
  have eA : cB = cA := by
    have a1 := (h.1.2 t0 _ ht0).2
    exact Option.some.inj (fA.symm.trans a1)
  have eC : comp = cy := Option.some.inj (fC.symm.trans (hcl rfl))
  subst eA
  subst eC
  generalize hF : Jvm.Free.Multi.fill (T.setVm vm₁) cB comp 2 k.toNatClampNeg (defaultValue ty) 2 = F at X' step
  have hTh : (T.setVm vm₁).heap = H := hT
  obtain ⟨f1, f2, -, -⟩ := Jvm.Free.Multi.fill_facts (T.setVm vm₁) cB comp 2 k.toNatClampNeg (defaultValue ty) 2
  rw [hF, hTh] at f1 f2
  rw [mu_outer] at f2
  have hold : ∀ x : Nat, x < H.size → F.heap[x]? = H[x]? := fun x hx => by
    have := Jvm.Free.Multi.fill_old (T.setVm vm₁) cB comp 2 k.toNatClampNeg (defaultValue ty) (a := x) (by rw [hTh]; exact hx) 2
    rw [hF, hTh] at this
    exact this
  have hrow : ∀ j : Nat, j < 2 → F.heap[H.size + 1 + j]? = some (vp_cell comp z) := fun j hj => by
    have := Jvm.Free.Multi.fill_inner (T.setVm vm₁) cB comp 2 k.toNatClampNeg (defaultValue ty) 2 j hj
    rw [hF, hTh, hz] at this
    exact this
  have hlt : ∀ (k9 : Nat) (x : Nat × va_E), ws[k9]? = some x → x.1 < H.size := fun k9 x hx => (h.2.1 k9 x hx).lt
  have hP1 : va_P G.1 vwCl (ws ++ [(H.size, .inl (cB, 2, .inr (.inr (.inr (.inr (fun i => if i = 0 then some (H.size + 1) else if i = 1 then some (H.size + 2) else none)))))), (H.size + 1, .inl (comp, z)), (H.size + 2, .inl (comp, z))]) F.heap := by
    refine va_P.app (h.2.1.kept (fun k9 x hx => hold x.1 (hlt k9 x hx))) (fun k9 x hx => ?_)
    match k9, hx with
    | 0, hx => cases hx; exact f2
    | 1, hx => cases hx; exact hrow 0 (by decide)
    | 2, hx => cases hx; exact hrow 1 (by decide)
    | k9 + 3, hx => simp at hx
  have hD1 : va_D A (ws ++ [(H.size, .inl (cB, 2, .inr (.inr (.inr (.inr (fun i => if i = 0 then some (H.size + 1) else if i = 1 then some (H.size + 2) else none)))))), (H.size + 1, .inl (comp, z)), (H.size + 2, .inl (comp, z))]) := by
    have hr : ∀ (k9 : Nat) (x : Nat × va_E), ([(H.size, .inl (cB, 2, .inr (.inr (.inr (.inr (fun i => if i = 0 then some (H.size + 1) else if i = 1 then some (H.size + 2) else none)))))), (H.size + 1, .inl (comp, z)), (H.size + 2, .inl (comp, z))] : va_W)[k9]? = some x → x.1 = H.size + k9 := fun k9 x hx => by
      match k9, hx with
      | 0, hx => cases hx; rfl
      | 1, hx => cases hx; rfl
      | 2, hx => cases hx; rfl
      | k9 + 3, hx => simp at hx
    refine ⟨fun i j x y hi hj hxy => ?_, fun k9 x hx => ?_⟩
    · by_cases h1 : i < ws.length <;> by_cases h2 : j < ws.length
      · rw [List.getElem?_append_left h1] at hi
        rw [List.getElem?_append_left h2] at hj
        exact h.2.2.1.1 i j x y hi hj hxy
      · rw [List.getElem?_append_left h1] at hi
        rw [List.getElem?_append_right (by omega)] at hj
        have := hlt _ _ hi
        have := hr _ _ hj
        omega
      · rw [List.getElem?_append_right (by omega)] at hi
        rw [List.getElem?_append_left h2] at hj
        have := hlt _ _ hj
        have := hr _ _ hi
        omega
      · rw [List.getElem?_append_right (by omega)] at hi hj
        have := hr _ _ hi
        have := hr _ _ hj
        omega
    · by_cases h1 : k9 < ws.length
      · rw [List.getElem?_append_left h1] at hx
        exact h.2.2.1.2 k9 x hx
      · rw [List.getElem?_append_right (by omega)] at hx
        have := hr _ _ hx
        exact h.2.2.2.2 _ (by have := h.2.2.2.1.1; omega)
  obtain ⟨t, a1, b1⟩ := kk H.size (H.size + 1) (H.size + 2) F.heap ⟨h.1, hP1, hD1, ⟨by rw [f1]; have := h.2.2.2.1.1; omega, fun x h1 h2 => (hold x (Nat.lt_of_lt_of_le h1 h.2.2.2.1.1)).trans (h.2.2.2.1.2.1 x h1 h2), h.2.2.2.1.2.2⟩, h.2.2.2.2⟩ F rfl (stand_widen X' (by omega) (by omega))
  refine ⟨t, step t ?_, b1⟩
  have e : T.heap.size = H.size := by rw [hT]
  rw [e]
  exact a1
end MU
