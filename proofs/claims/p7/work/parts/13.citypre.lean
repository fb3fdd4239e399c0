/-! bits of streets: what to(), hindrance(), step(), block(), lay() need -/
theorem bit_of {ws : va_W} {i : Nat} {a1 a2 v5 v7 v8 v9 : Int32} (h0 : 0 ≤ a1.toInt) (e5 : aI ws (i + 17) a2.toInt.toNat = v5) (e7 : v7 = v5 >>> (a1 &&& 31)) (e8 : v8.toInt = 1) (e9 : v9 = v7 &&& v8) : Bit ws i a1.toInt.toNat a2.toInt.toNat ↔ ¬ v9.toInt = 0 := by
  obtain rfl : v8 = 1 := Int32.toInt_inj.mp e8
  unfold Bit
  rw [← (t_nn h0).1, e5, ← e7, ← e9]
  exact ⟨fun h q => h (Int32.toInt_inj.mp q), fun h q => h (by rw [q]; rfl)⟩
theorem to_ok {ws : va_W} {i : Nat} {a1 a2 v5 v7 v8 v9 v19 : Int32} (hR : Rel ws) (hi : Kd SC i 1) (h0 : 0 ≤ a1.toInt) (h1 : a1.toInt ≤ 24) (g0 : 0 ≤ a2.toInt) (g1 : a2.toInt ≤ 3) (e5 : aI ws (i + 17) a2.toInt.toNat = v5) (e7 : v7 = v5 >>> (a1 &&& 31)) (e8 : v8.toInt = 1) (e9 : v9 = v7 &&& v8) (hc : ¬ v9.toInt = 0) (e19 : aI ws (i + 18) a2.toInt.toNat = v19) : 0 ≤ a1.toInt + v19.toInt ∧ a1.toInt + v19.toInt ≤ 24 := by
  have hb := (bit_of h0 e5 e7 e8 e9).mpr hc
  have q := hR i hi a2.toInt.toNat a1.toInt.toNat (by omega) (by omega) hb
  rw [e19] at q
  omega
theorem canGo_of {ws : va_W} {i : Nat} {p t av hd tr sm m3 d : Int32} (e1 : aI ws (i + 10) p.toInt.toNat = av) (e2 : aI ws (i + 11) p.toInt.toNat = hd) (e3 : tr = tTurn t.toInt.toNat) (e4 : sm = hd + tr) (e5 : m3.toInt = 3) (e6 : d = sm &&& m3) : CanGo ws i p.toInt.toNat t.toInt.toNat ↔ Bit ws i av.toInt.toNat d.toInt.toNat := by
  obtain rfl : m3 = 3 := Int32.toInt_inj.mp e5
  unfold CanGo dirN
  rw [e1, e2, ← e3, ← e4, ← e6]
theorem Bit.fr {ws ws' : va_W} {M : List Nat} {i c d : Nat} (hF : Fr SC M ws ws') (hi : Kd SC i 1) (h1 : 14 ∉ M) (h : Bit ws i c d) : Bit ws' i c d := by
  unfold Bit at h ⊢
  rw [hF.aI (rSC_1_17 hi) h1]
  exact h
theorem CanGo.of {ws ws' : va_W} {i p t : Nat} (e1 : ws'[i + 10]? = ws[i + 10]?) (e2 : ws'[i + 11]? = ws[i + 11]?) (e3 : ws'[i + 17]? = ws[i + 17]?) (h : CanGo ws i p t) : CanGo ws' i p t := by
  unfold CanGo dirN Bit at h ⊢
  rw [aI_of e1, aI_of e2, aI_of e3]
  exact h
theorem CanGo.fr {ws ws' : va_W} {M : List Nat} {i p t : Nat} (hF : Fr SC M ws ws') (hi : Kd SC i 1) (h1 : 7 ∉ M) (h2 : 8 ∉ M) (h3 : 14 ∉ M) (h : CanGo ws i p t) : CanGo ws' i p t :=
  h.of (hF _ _ (rSC_6_1 (rSC_1_9 hi)) h1) (hF _ _ (rSC_6_2 (rSC_1_9 hi)) h2) (hF _ _ (rSC_1_17 hi) h3)
theorem city17 {i j : Nat} (hi : Kd SC i 1) (hj : Kd SC j 1) : (i = j ∨ (i + 17 ≠ j + 17 ∧ i + 18 ≠ j + 18)) ∧ i + 17 ≠ j + 18 ∧ i + 18 ≠ j + 17 :=
  ⟨by omega, kd_ne (rSC_1_17 hi) (rSC_1_18 hj) (by decide), kd_ne (rSC_1_18 hi) (rSC_1_17 hj) (by decide)⟩
/-- fewer bits keep it -/
theorem rel_clr {ws ws' : va_W} {i d : Nat} {v old msk : Int32} (hR : Rel ws) (hi : Kd SC i 1) (hu : UdA (i + 17) d v ws ws') (e : aI ws (i + 17) d = old) (ev : v = old &&& msk) : Rel ws' := by
  intro j hj d' c' hd hc hb
  have hne := (city17 hj hi).2.2
  rw [aI_of (hu.1 (j + 18) hne)]
  by_cases hij : j = i
  · subst hij
    by_cases hdd : d' = d
    · subst hdd
      refine hR j hj d' c' hd hc ?_
      unfold Bit at hb ⊢
      rw [hu.2.1, ev, Int32.shiftRight_and] at hb
      rw [e]
      intro q
      apply hb
      rw [Int32.and_assoc, Int32.and_comm (msk >>> _), ← Int32.and_assoc, q]
      exact Int32.zero_and
    · refine hR j hj d' c' hd hc ?_
      unfold Bit at hb ⊢
      rw [hu.2.2 d' hdd] at hb
      exact hb
  · refine hR j hj d' c' hd hc ?_
    unfold Bit at hb ⊢
    rw [aI_of (hu.1 (j + 17) (by omega))] at hb
    exact hb
/-- a city's rows of streets and strides are those of another -/
theorem rel_cp {a b : va_W} {i j : Nat} (hR : Rel a) (hi : Kd SC i 1) (hj : Kd SC j 1) (e1 : ∀ d, d < 4 → aI b (i + 17) d = aI a (j + 17) d) (e2 : ∀ d, d < 4 → aI b (i + 18) d = aI a (j + 18) d) (ho1 : ∀ k, Kd SC k 1 → k ≠ i → b[k + 17]? = a[k + 17]?) (ho2 : ∀ k, Kd SC k 1 → k ≠ i → b[k + 18]? = a[k + 18]?) : Rel b := by
  intro k hk d c hd hc hb
  by_cases hik : k = i
  · subst hik
    unfold Bit at hb
    rw [e1 d hd] at hb
    rw [e2 d hd]
    exact hR j hj d c hd hc hb
  · unfold Bit at hb
    rw [aI_of (ho1 k hk hik)] at hb
    rw [aI_of (ho2 k hk hik)]
    exact hR k hk d c hd hc hb
/-- no streets -/
theorem rel_0 {a b : va_W} {i : Nat} (hR : Rel a) (hi : Kd SC i 1) (e1 : ∀ d, d < 4 → aI b (i + 17) d = 0) (ho1 : ∀ k, Kd SC k 1 → k ≠ i → b[k + 17]? = a[k + 17]?) (ho2 : ∀ k, Kd SC k 1 → k ≠ i → b[k + 18]? = a[k + 18]?) : Rel b := by
  intro k hk d c hd hc hb
  by_cases hik : k = i
  · subst hik
    unfold Bit at hb
    rw [e1 d hd] at hb
    exact absurd (by rw [Int32.zero_shiftRight, Int32.zero_and]) hb
  · unfold Bit at hb
    rw [aI_of (ho1 k hk hik)] at hb
    rw [aI_of (ho2 k hk hik)]
    exact hR k hk d c hd hc hb
/-- the streets that lay() makes -/
def fcol (w : Int32) : Nat → Int32
  | 0 => 0
  | y + 1 => fcol w y ||| ((1 : Int32) <<< ((nI y * w) &&& 31))
def laySt (w h : Int32) (d : Nat) : Int32 :=
  let all := ((1 : Int32) <<< ((w * h) &&& 31)) - 1
  let fc := fcol w h.toInt.toNat
  match d with
  | 0 => all &&& ((((1 : Int32) <<< (w &&& 31)) - 1) ^^^ (-1))
  | 1 => all &&& ((fc <<< ((w - 1) &&& 31)) ^^^ (-1))
  | 2 => all >>> (w &&& 31)
  | _ => all &&& (fc ^^^ (-1))
def layDd (w : Int32) (d : Nat) : Int32 := match d with
  | 0 => -w
  | 1 => 1
  | 2 => w
  | _ => -1
theorem lay_dec : ∀ w ∈ ([2, 3, 4, 5] : List Int32), ∀ h ∈ ([2, 3, 4, 5] : List Int32), ∀ d, d < 4 → ∀ c, c < 25 → ((laySt w h d) >>> (nI c &&& 31)) &&& 1 ≠ 0 → 0 ≤ (c : Int) + (layDd w d).toInt ∧ (c : Int) + (layDd w d).toInt ≤ 24 := by decide +kernel
theorem in25 {x : Int32} (h0 : 2 ≤ x.toInt) (h1 : x.toInt ≤ 5) : x ∈ ([2, 3, 4, 5] : List Int32) := by
  rcases (show x.toInt = 2 ∨ x.toInt = 3 ∨ x.toInt = 4 ∨ x.toInt = 5 by omega) with e | e | e | e
  · obtain rfl : x = 2 := Int32.toInt_inj.mp e; decide
  · obtain rfl : x = 3 := Int32.toInt_inj.mp e; decide
  · obtain rfl : x = 4 := Int32.toInt_inj.mp e; decide
  · obtain rfl : x = 5 := Int32.toInt_inj.mp e; decide
theorem rel_lay {a b : va_W} {i : Nat} {w h : Int32} (hR : Rel a) (hi : Kd SC i 1) (w0 : 2 ≤ w.toInt) (w1 : w.toInt ≤ 5) (h0 : 2 ≤ h.toInt) (h1 : h.toInt ≤ 5) (e1 : ∀ d, d < 4 → aI b (i + 17) d = laySt w h d) (e2 : ∀ d, d < 4 → aI b (i + 18) d = layDd w d) (ho1 : ∀ k, Kd SC k 1 → k ≠ i → b[k + 17]? = a[k + 17]?) (ho2 : ∀ k, Kd SC k 1 → k ≠ i → b[k + 18]? = a[k + 18]?) : Rel b := by
  intro k hk d c hd hc hb
  by_cases hik : k = i
  · subst hik
    unfold Bit at hb
    rw [e1 d hd] at hb
    rw [e2 d hd]
    exact lay_dec w (in25 w0 w1) h (in25 h0 h1) d hd c hc hb
  · unfold Bit at hb
    rw [aI_of (ho1 k hk hik)] at hb
    rw [aI_of (ho2 k hk hik)]
    exact hR k hk d c hd hc hb
section OY
variable {p : Program} {l : Launch} {e : Env} {R : Room} {s : State} {m : MethodId} {args : Array Value} {below : List Frame} {meth : Method} {c : Code} {H : Heap} {locs : List Loc} {cells slots : Nat} {Q : State → Prop}
variable {cc : ByteArray} {pc nL : Nat} {ls : Array Slot} {rest st0 : List Value} {own : String} {ret : Option FieldType} {x y : Int32}
theorem y_iaddX (C0 : Cx p s m args meth c own cc nL ret) (hdg : decode cc pc = .ok (.iadd, 1)) (kk : ∀ z : Int32, z = x + y → W p l e R s m args below meth c H locs cells slots Q (F0 m (pc + 1) ls (.int z :: rest))) : W p l e R s m args below meth c H locs cells slots Q (F0 m pc ls (.int y :: .int x :: rest)) := lv_iadd C0.1 C0.2.1 hdg (kk _ rfl)
theorem y_isubX (C0 : Cx p s m args meth c own cc nL ret) (hdg : decode cc pc = .ok (.isub, 1)) (kk : ∀ z : Int32, z = x - y → W p l e R s m args below meth c H locs cells slots Q (F0 m (pc + 1) ls (.int z :: rest))) : W p l e R s m args below meth c H locs cells slots Q (F0 m pc ls (.int y :: .int x :: rest)) := lv_isub C0.1 C0.2.1 hdg (kk _ rfl)
theorem y_imulX (C0 : Cx p s m args meth c own cc nL ret) (hdg : decode cc pc = .ok (.imul, 1)) (kk : ∀ z : Int32, z = x * y → W p l e R s m args below meth c H locs cells slots Q (F0 m (pc + 1) ls (.int z :: rest))) : W p l e R s m args below meth c H locs cells slots Q (F0 m pc ls (.int y :: .int x :: rest)) := lv_imul C0.1 C0.2.1 hdg (kk _ rfl)
theorem y_inegX (C0 : Cx p s m args meth c own cc nL ret) (hdg : decode cc pc = .ok (.ineg, 1)) (kk : ∀ z : Int32, z = -x → W p l e R s m args below meth c H locs cells slots Q (F0 m (pc + 1) ls (.int z :: rest))) : W p l e R s m args below meth c H locs cells slots Q (F0 m pc ls (.int x :: rest)) := lv_ineg C0.1 C0.2.1 hdg (kk _ rfl)
theorem y_andX (c0 : Int32) (k0 : Nat) {n : Int} (C0 : Cx p s m args meth c own cc nL ret) (hc : y.toInt = c0.toInt) (hm : c0.toBitVec.toNat = 2 ^ k0 - 1) (hk : k0 ≤ 30) (hn : (2 : Int) ^ k0 - 1 = n) (hdg : decode cc pc = .ok (.iand, 1)) (kk : ∀ z : Int32, z = x &&& y → 0 ≤ z.toInt → z.toInt ≤ n → W p l e R s m args below meth c H locs cells slots Q (F0 m (pc + 1) ls (.int z :: rest))) : W p l e R s m args below meth c H locs cells slots Q (F0 m pc ls (.int y :: .int x :: rest)) := lv_iand C0.1 C0.2.1 hdg (by have q := t_and (x := x) c0 k0 hc hm hk; exact kk _ rfl q.1 (by rw [← hn]; exact q.2))
end OY
