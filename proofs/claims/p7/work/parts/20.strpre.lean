/-! text constants -/
theorem strLen_le : ∀ k, strLen.getD k 0 ≤ 102 := by
  intro k
  by_cases h : k < 23
  · exact (by decide +kernel : ∀ k, k < 23 → strLen.getD k 0 ≤ 102) k h
  · show (strLen[k]?).getD 0 ≤ 102
    rw [List.getElem?_eq_none (by show strLen.length ≤ k; have : strLen.length = 23 := (by decide); omega)]
    decide
theorem strLen_I (k : Nat) {v : Int32} (e : v = Int32.ofNat (strLen.getD k 0)) : v.toInt = ((strLen.getD k 0 : Nat) : Int) := by
  have h := strLen_le k
  rw [e]
  exact nI_toInt (by omega)
def chB (k j : Nat) : Int32 := (strByt.getD k []).getD j 0
theorem nar_b {x : Int32} (h0 : -128 ≤ x.toInt) (h1 : x.toInt ≤ 127) : narrow .byte (.int x) = .int x := by
  have e : x.toInt8.toInt32 = x := by
    apply Int32.toInt_inj.mp
    rw [Int8.toInt_toInt32, Int32.toInt_toInt8]
    exact Int.bmod_eq_of_le_mul_two (by omega) (by omega)
  show Value.int x.toInt8.toInt32 = _
  rw [e]
theorem nar_c {x : Int32} (h0 : 0 ≤ x.toInt) (h1 : x.toInt ≤ 65535) : narrow .char (.int x) = .int x := by
  obtain ⟨e, b⟩ := t_nn h0
  rw [e]
  exact (pk_charN (by omega)).1
section ST
variable {p : Program} {l : Launch} {e : Env} {R : Room} {s : State} {m : MethodId} {args : Array Value} {below : List Frame} {meth : Method} {c : Code} {H : Heap} {locs : List Loc} {cells slots : Nat} {Q : State → Prop}
variable {cc : ByteArray} {pc nL : Nat} {ls : Array Slot} {rest st0 : List Value} {G : GG} {A : Nat → Prop} {ws : va_W} {own : String} {ret : Option FieldType} {S : Sp} {ad : Nat → Nat} {Z : RZ} {k index : Nat} {x : Int32}
theorem y_sval (C0 : Cx p s m args meth c own cc nL ret) (hZ : Ro Z A s s.heap) (h : Wt G S ad A s H locs ws) (hk : k < 23) (hl : Cond.fieldLink own index "java/lang/String" "value" "[B" ∈ lw_gd) (hdg : decode cc pc = .ok (.getfield index, 3))
    (kk : W p l e R s m args below meth c H locs cells slots Q (F0 m (pc + 3) ls (.ref (Z.2.2 k) :: rest))) : W p l e R s m args below meth c H locs cells slots Q (F0 m pc ls (.ref (Z.2.1 k) :: rest)) :=
  vk_getf C0.1 C0.2.1 (hZ.2.1.1 k hk).2.2.1 h.1.2.2.2.1 C0.2.2.2.1 (C0.2.2.2.2.1 _ hl) (fun _ h9 => h9) hdg kk
theorem y_scod (C0 : Cx p s m args meth c own cc nL ret) (hZ : Ro Z A s s.heap) (h : Wt G S ad A s H locs ws) (hk : k < 23) (hl : Cond.fieldLink own index "java/lang/String" "coder" "B" ∈ lw_gd) (hdg : decode cc pc = .ok (.getfield index, 3))
    (kk : ∀ v : Int32, v.toInt = 0 → W p l e R s m args below meth c H locs cells slots Q (F0 m (pc + 3) ls (.int v :: rest))) : W p l e R s m args below meth c H locs cells slots Q (F0 m pc ls (.ref (Z.2.1 k) :: rest)) :=
  vk_getf C0.1 C0.2.1 (hZ.2.1.1 k hk).2.1 h.1.2.2.2.1 C0.2.2.2.1 (C0.2.2.2.2.1 _ hl) (fun _ h9 => h9) hdg (kk 0 (by decide))
theorem y_scmp (C0 : Cx p s m args meth c own cc nL ret) (hZ : Ro Z A s s.heap) (h : Wt G S ad A s H locs ws) (hl : Cond.fieldLink own index "java/lang/String" "COMPACT_STRINGS" "Z" ∈ lw_gd) (hdg : decode cc pc = .ok (.getstatic index, 3))
    (kk : ∀ v : Int32, v.toInt = 1 → W p l e R s m args below meth c H locs cells slots Q (F0 m (pc + 3) ls (.int v :: rest))) : W p l e R s m args below meth c H locs cells slots Q (F0 m pc ls rest) :=
  va_gets C0.1 C0.2.1 hZ.2.2.1 h.1.2.2.2.1 C0.2.2.2.1 (C0.2.2.2.2.1 _ hl) (fun _ h9 => h9) hdg (kk 1 (by decide))
theorem y_sfmt (C0 : Cx p s m args meth c own cc nL ret) (hZ : Ro Z A s s.heap) (h : Wt G S ad A s H locs ws) (hl : Cond.fieldLink own index "jdk/internal/util/Preconditions" "SIOOBE_FORMATTER" "Ljava/util/function/BiFunction;" ∈ lw_gd) (hdg : decode cc pc = .ok (.getstatic index, 3))
    (k1 : W p l e R s m args below meth c H locs cells slots Q (F0 m (pc + 3) ls (.null :: rest))) (k2 : ∀ t : Nat, W p l e R s m args below meth c H locs cells slots Q (F0 m (pc + 3) ls (.ref t :: rest))) : W p l e R s m args below meth c H locs cells slots Q (F0 m pc ls rest) := by
  rcases hZ.2.2.2.1 with hq | ⟨t, hq⟩
  · exact va_gets C0.1 C0.2.1 hq h.1.2.2.2.1 C0.2.2.2.1 (C0.2.2.2.2.1 _ hl) (fun _ h9 => h9) hdg k1
  · exact va_gets C0.1 C0.2.1 hq h.1.2.2.2.1 C0.2.2.2.1 (C0.2.2.2.2.1 _ hl) (fun _ h9 => h9) hdg (k2 t)
theorem y_tlen (C0 : Cx p s m args meth c own cc nL ret) (hZ : Ro Z A s s.heap) (h : Wt G S ad A s H locs ws) (hk : k < 23) (hdg : decode cc pc = .ok (.arraylength, 1))
    (kk : ∀ v : Int32, v.toInt = ((strLen.getD k 0 : Nat) : Int) → W p l e R s m args below meth c H locs cells slots Q (F0 m (pc + 1) ls (.int v :: rest))) : W p l e R s m args below meth c H locs cells slots Q (F0 m pc ls (.ref (Z.2.2 k) :: rest)) :=
  va_tlen C0.1 C0.2.1 (hZ.2.1.1 k hk).2.2.2 h.1.2.2.2.1 rfl hdg (kk _ (strLen_I k rfl))
theorem y_tbld (C0 : Cx p s m args meth c own cc nL ret) (hZ : Ro Z A s s.heap) (h : Wt G S ad A s H locs ws) (hk : k < 23) (h0 : 0 ≤ x.toInt) (h1 : x.toInt < ((strLen.getD k 0 : Nat) : Int)) (hdg : decode cc pc = .ok (.baload, 1))
    (kk : ∀ v : Int32, v = chB k x.toInt.toNat → W p l e R s m args below meth c H locs cells slots Q (F0 m (pc + 1) ls (.int v :: rest))) : W p l e R s m args below meth c H locs cells slots Q (F0 m pc ls (.int x :: .ref (Z.2.2 k) :: rest)) :=
  va_tb C0.1 C0.2.1 (hZ.2.1.1 k hk).2.2.2 h.1.2.2.2.1 (vp_in_iff.mpr ⟨h0, h1⟩) rfl hdg (kk _ rfl)
theorem y_rT {y : MethodName} {c2 : ByteArray} {n2 n d : Nat} {r2 : Option FieldType} {As : List Value} {Qp : QP} (C0 : Cx p s m args meth c own cc nL ret) (hZ : Ro Z A s s.heap) (h : Wt G S ad A s H locs ws) (hM : Mq l y c2 n2 r2 d G Z (.ref (Z.2.1 k) :: As) ws Qp) (hy : Yk y c2 n2 r2 n) (hin : Cond.instanceMethod y ∈ lw_gd) (hsel : Cond.selects y.cls y y ∈ lw_gd) (hl : Cond.methodLink own index y ∈ lw_gd) (hk : k < 23) (hyc : y.cls = "java/lang/String") (hls : ls.size = nL) (hn : As.length = n) (hst : st0 = As.reverse ++ .ref (Z.2.1 k) :: rest) (hrest : (rest.map fun v => v.category).sum ≤ 8) (hdg : decode cc pc = .ok (.invokevirtual index, 3)) (hR : d + 1 ≤ R.frames ∧ 8 + (n2 + 11) + 64 * d ≤ R.locals) (hf : cells ≤ R.cells ∧ slots ≤ R.slots) :
    va_Run p l e R s m args below meth c H locs cells slots 0 0 (F0 m pc ls st0) rest (Qp (va_A ws H.size) (Value.ref (Z.2.1 k) :: As).toArray) (va_A ws H.size) := by
  obtain ⟨cell, r1, r2', r3⟩ := vk_recv hZ.2.1 hk h.1.2.2.2.1
  rw [← hyc] at r3
  exact va_runV ⟨C0.1, C0.2.1, C0.2.2.1, C0.2.2.2.1, C0.2.2.2.2.1⟩ (hM H.size) ⟨hy.cb C0.2.2.2.2.1 hl hR, C0.2.2.2.2.1 _ hin, C0.2.2.2.2.1 _ hsel⟩ ⟨Pq.blind G Z _ ws H.size, ⟨cell, r1, r2', r3⟩, y_pre C0 hZ h.1⟩ rfl hn hls hst (lv_room hrest) hdg hf
theorem y_bret {M : List Nat} {post : Int32 → va_W → Prop} {ws0 : va_W} (C0 : Cx p s m args meth c own cc nL (some .byte)) (h : Wt G S ad A s H locs ws) (h0 : -128 ≤ x.toInt) (h1 : x.toInt ≤ 127) (hF : Fr S M ws0 ws) (hp : post x ws) (hdg : decode cc pc = .ok (.ireturn, 1)) :
    W p l e R s m args below meth c H locs 0 0 (MQ below (PI G S ad M ws0 post A) args s 0 0 A) (F0 m pc ls [.int x]) :=
  W.zret C0.1 C0.2.1 C0.2.2.2.2.2.1 (nar_b h0 h1) (fun t ht hW => ⟨⟨x, ws, rfl, ⟨⟨h.2, hF⟩, hp⟩, by rw [ht]; exact h.1.2.1, h.1.2.2.1⟩, h.1.2.2.2.1.F ht⟩) h.1.2.2.2.1.2.2 hdg C0.2.2.2.2.2.2.1
theorem y_cret {M : List Nat} {post : Int32 → va_W → Prop} {ws0 : va_W} (C0 : Cx p s m args meth c own cc nL (some .char)) (h : Wt G S ad A s H locs ws) (h0 : 0 ≤ x.toInt) (h1 : x.toInt ≤ 65535) (hF : Fr S M ws0 ws) (hp : post x ws) (hdg : decode cc pc = .ok (.ireturn, 1)) :
    W p l e R s m args below meth c H locs 0 0 (MQ below (PI G S ad M ws0 post A) args s 0 0 A) (F0 m pc ls [.int x]) :=
  W.zret C0.1 C0.2.1 C0.2.2.2.2.2.1 (nar_c h0 h1) (fun t ht hW => ⟨⟨x, ws, rfl, ⟨⟨h.2, hF⟩, hp⟩, by rw [ht]; exact h.1.2.1, h.1.2.2.1⟩, h.1.2.2.2.1.F ht⟩) h.1.2.2.2.1.2.2 hdg C0.2.2.2.2.2.2.1
end ST
theorem sr_0 {Z : RZ} {A : Nat → Prop} {U : State} {H : Heap} (hZ : Ro Z A U H) : vk_R RX5 80 ";:+-*()[]=<>" (Z.2.1 0) U := hZ.2.2.2.2.1 0 ("LeftTurns$Reader", 80, 0) rfl
theorem sr_1 {Z : RZ} {A : Nat → Prop} {U : State} {H : Heap} (hZ : Ro Z A U H) : vk_R RX5 95 "city" (Z.2.1 1) U := hZ.2.2.2.2.1 1 ("LeftTurns$Reader", 95, 1) rfl
theorem sr_2 {Z : RZ} {A : Nat → Prop} {U : State} {H : Heap} (hZ : Ro Z A U H) : vk_R RX5 103 "wall" (Z.2.1 2) U := hZ.2.2.2.2.1 2 ("LeftTurns$Reader", 103, 2) rfl
theorem sr_3 {Z : RZ} {A : Nat → Prop} {U : State} {H : Heap} (hZ : Ro Z A U H) : vk_R RX5 108 "free" (Z.2.1 3) U := hZ.2.2.2.2.1 3 ("LeftTurns$Reader", 108, 3) rfl
theorem sr_4 {Z : RZ} {A : Nat → Prop} {U : State} {H : Heap} (hZ : Ro Z A U H) : vk_R RX5 113 "person" (Z.2.1 4) U := hZ.2.2.2.2.1 4 ("LeftTurns$Reader", 113, 4) rfl
theorem sr_5 {Z : RZ} {A : Nat → Prop} {U : State} {H : Heap} (hZ : Ro Z A U H) : vk_R RX5 183 "north" (Z.2.1 5) U := hZ.2.2.2.2.1 5 ("LeftTurns$Reader", 183, 5) rfl
theorem sr_6 {Z : RZ} {A : Nat → Prop} {U : State} {H : Heap} (hZ : Ro Z A U H) : vk_R RX5 185 "east" (Z.2.1 6) U := hZ.2.2.2.2.1 6 ("LeftTurns$Reader", 185, 6) rfl
theorem sr_7 {Z : RZ} {A : Nat → Prop} {U : State} {H : Heap} (hZ : Ro Z A U H) : vk_R RX5 187 "south" (Z.2.1 7) U := hZ.2.2.2.2.1 7 ("LeftTurns$Reader", 187, 7) rfl
theorem sr_8 {Z : RZ} {A : Nat → Prop} {U : State} {H : Heap} (hZ : Ro Z A U H) : vk_R RX5 189 "west" (Z.2.1 8) U := hZ.2.2.2.2.1 8 ("LeftTurns$Reader", 189, 8) rfl
theorem sr_9 {Z : RZ} {A : Nat → Prop} {U : State} {H : Heap} (hZ : Ro Z A U H) : vk_R RX5 175 "lefts" (Z.2.1 9) U := hZ.2.2.2.2.1 9 ("LeftTurns$Reader", 175, 9) rfl
theorem sr_10 {Z : RZ} {A : Nat → Prop} {U : State} {H : Heap} (hZ : Ro Z A U H) : vk_R RX5 177 "coins" (Z.2.1 10) U := hZ.2.2.2.2.1 10 ("LeftTurns$Reader", 177, 10) rfl
theorem sr_11 {Z : RZ} {A : Nat → Prop} {U : State} {H : Heap} (hZ : Ro Z A U H) : vk_R RX5 118 "price" (Z.2.1 11) U := hZ.2.2.2.2.1 11 ("LeftTurns$Reader", 118, 11) rfl
theorem sr_12 {Z : RZ} {A : Nat → Prop} {U : State} {H : Heap} (hZ : Ro Z A U H) : vk_R RX5 218 "x" (Z.2.1 12) U := hZ.2.2.2.2.1 12 ("LeftTurns$Reader", 218, 12) rfl
theorem sr_13 {Z : RZ} {A : Nat → Prop} {U : State} {H : Heap} (hZ : Ro Z A U H) : vk_R RX5 220 "y" (Z.2.1 13) U := hZ.2.2.2.2.1 13 ("LeftTurns$Reader", 220, 13) rfl
theorem sr_14 {Z : RZ} {A : Nat → Prop} {U : State} {H : Heap} (hZ : Ro Z A U H) : vk_R RX5 135 "hour" (Z.2.1 14) U := hZ.2.2.2.2.1 14 ("LeftTurns$Reader", 135, 14) rfl
theorem sr_15 {Z : RZ} {A : Nat → Prop} {U : State} {H : Heap} (hZ : Ro Z A U H) : vk_R RX5 222 "day" (Z.2.1 15) U := hZ.2.2.2.2.1 15 ("LeftTurns$Reader", 222, 15) rfl
theorem sr_16 {Z : RZ} {A : Nat → Prop} {U : State} {H : Heap} (hZ : Ro Z A U H) : vk_R RX5 224 "sold" (Z.2.1 16) U := hZ.2.2.2.2.1 16 ("LeftTurns$Reader", 224, 16) rfl
theorem sr_17 {Z : RZ} {A : Nat → Prop} {U : State} {H : Heap} (hZ : Ro Z A U H) : vk_R RX5 226 "head" (Z.2.1 17) U := hZ.2.2.2.2.1 17 ("LeftTurns$Reader", 226, 17) rfl
theorem sr_18 {Z : RZ} {A : Nat → Prop} {U : State} {H : Heap} (hZ : Ro Z A U H) : vk_R RX5 127 "may" (Z.2.1 18) U := hZ.2.2.2.2.1 18 ("LeftTurns$Reader", 127, 18) rfl
theorem sr_19 {Z : RZ} {A : Nat → Prop} {U : State} {H : Heap} (hZ : Ro Z A U H) : vk_R RX5 207 "not" (Z.2.1 19) U := hZ.2.2.2.2.1 19 ("LeftTurns$Reader", 207, 19) rfl
theorem sr_20 {Z : RZ} {A : Nat → Prop} {U : State} {H : Heap} (hZ : Ro Z A U H) : vk_R RX5 205 "and" (Z.2.1 20) U := hZ.2.2.2.2.1 20 ("LeftTurns$Reader", 205, 20) rfl
theorem sr_21 {Z : RZ} {A : Nat → Prop} {U : State} {H : Heap} (hZ : Ro Z A U H) : vk_R RX5 197 "or" (Z.2.1 21) U := hZ.2.2.2.2.1 21 ("LeftTurns$Reader", 197, 21) rfl
theorem sr_22 {Z : RZ} {A : Nat → Prop} {U : State} {H : Heap} (hZ : Ro Z A U H) : vk_R RX12 105 " city wall free person lefts coins price may north east south west or and not x y hour day sold head " (Z.2.1 22) U := hZ.2.2.2.2.1 22 ("LeftTurnsModel", 105, 22) rfl
theorem sr_23 {Z : RZ} {A : Nat → Prop} {U : State} {H : Heap} (hZ : Ro Z A U H) : vk_R RX12 143 ";:+-*()[]=<>" (Z.2.1 0) U := hZ.2.2.2.2.1 23 ("LeftTurnsModel", 143, 0) rfl
