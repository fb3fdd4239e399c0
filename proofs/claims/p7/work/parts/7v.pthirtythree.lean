/-! what a law says, in both -/
def clI (v : Int) : Int := max (-1000000) (min 1000000 v)
def jnM (a x y : Int) : Int := if a = 3000 then clI (x + y) else if a = 3001 then clI (x - y) else if a = 3002 then clI (x * y) else if a = 3003 then (if x = y then 1 else 0) else if a = 3004 then (if x < y then 1 else 0) else if a = 3005 then (if y < x then 1 else 0) else if a = 3006 then (if x + y = 2 then 1 else 0) else (if 0 < x + y then 1 else 0)
def evM (N : Int → Int) : List Int → List Int → List Int
  | [], st => st
  | a :: l, st => evM N l (if a < 3000 then (if a < 1000 then a else N (a - 1000)) :: st else if a = 3008 then (match st with | x :: r => (1 - x) :: r | [] => []) else (match st with | y :: x :: r => jnM a x y :: r | q => q))
/-- a row that holds a stack, its top last -/
def StH (T : Nat → Int) : List Int → Prop
  | [] => True
  | x :: r => T r.length = x ∧ StH T r
theorem StH.same {T U : Nat → Int} : ∀ (r : List Int), (∀ k, k < r.length → U k = T k) → StH T r → StH U r
  | [], _, _ => trivial
  | x :: r, h, g => ⟨by rw [h _ (by simp)]; exact g.1, StH.same r (fun k hk => h k (by simp; omega)) g.2⟩
def rgI (x : Int) : Prop := -2147483648 ≤ x ∧ x ≤ 2147483647
def TyS : List Bool → List Int → Prop
  | [], [] => True
  | b :: ts, x :: r => (b = true → x = 0 ∨ x = 1) ∧ rgI x ∧ TyS ts r
  | _, _ => False
theorem TyS.len : ∀ (ts : List Bool) (r : List Int), TyS ts r → ts.length = r.length
  | [], [], _ => rfl
  | b :: ts, x :: r, h => by
    have := TyS.len ts r h.2.2
    simp [this]
  | [], _ :: _, h => h.elim
  | _ :: _, [], h => h.elim
theorem clI_r (v : Int) : -1000000 ≤ clI v ∧ clI v ≤ 1000000 := by unfold clI; omega
theorem lng {v : Int} (h : -9223372036854775808 ≤ v ∧ v ≤ 9223372036854775807) : (Int64.ofInt v).toInt = v := Int64.toInt_ofInt_of_le (by omega) (by omega)
theorem ladd_v {x y : Int} (hx : rgI x) (hy : rgI y) : Xladd x y = x + y := by
  unfold rgI at hx hy
  unfold Xladd
  rw [← Int64.ofInt_add, lng (by omega)]
theorem lsub_v {x y : Int} (hx : rgI x) (hy : rgI y) : Xlsub x y = x - y := by
  unfold rgI at hx hy
  unfold Xlsub
  rw [← Int64.ofInt_sub, lng (by omega)]
theorem mul_b {x y : Int} (hx : rgI x) (hy : rgI y) : -4611686018427387904 ≤ x * y ∧ x * y ≤ 4611686018427387904 := by
  unfold rgI at hx hy
  have hn : (x * y).natAbs = x.natAbs * y.natAbs := Int.natAbs_mul x y
  have h1 : x.natAbs ≤ 2147483648 := by omega
  have h2 : y.natAbs ≤ 2147483648 := by omega
  have h3 : x.natAbs * y.natAbs ≤ 2147483648 * 2147483648 := Nat.mul_le_mul h1 h2
  omega
theorem lmul_v {x y : Int} (hx : rgI x) (hy : rgI y) : Xlmul x y = x * y := by
  have b := mul_b hx hy
  unfold Xlmul
  rw [← Int64.ofInt_mul, lng (by omega)]
theorem l2i_v {v : Int} (h : rgI v) : Xl2i v = v := by
  unfold rgI at h
  unfold Xl2i
  rw [Int64.toInt_toInt32, lng (by omega)]
  unfold Int.bmod
  have e : v % ((2 ^ 32 : Nat) : Int) = if 0 ≤ v then v else v + 4294967296 := by
    split <;> omega
  dsimp only
  split <;> split at e <;> omega
theorem clI_v {v : Int} : Xl2i (max (-1000000) (min 1000000 v)) = clI v := by
  have r := clI_r v
  rw [show max (-1000000) (min 1000000 v) = clI v from rfl, l2i_v ⟨by omega, by omega⟩]
theorem isub_v {x y : Int} (h : rgI (x - y)) : Xisub x y = x - y := by
  unfold rgI at h
  unfold Xisub
  rw [← Int32.ofInt_sub, Int32.toInt_ofInt_of_le (by omega) (by omega)]
theorem iadd_v {x y : Int} (h : rgI (x + y)) : Xiadd x y = x + y := by
  unfold rgI at h
  unfold Xiadd
  rw [← Int32.ofInt_add, Int32.toInt_ofInt_of_le (by omega) (by omega)]
/-! the class -/
def jnC (a x y : Int) : Int := if a < 2000 ∨ 2006 < a then Xl2i (max (-1000000) (min 1000000 (Xlor x y))) else if a = 2000 then Xl2i (max (-1000000) (min 1000000 (Xladd x y))) else if a = 2001 then Xl2i (max (-1000000) (min 1000000 (Xlsub x y))) else if a = 2002 then Xl2i (max (-1000000) (min 1000000 (Xlmul x y))) else if a = 2003 then (if Xcmp x y = 0 then Xl2i (max (-1000000) (min 1000000 1)) else Xl2i (max (-1000000) (min 1000000 0))) else if a = 2004 then (if Xcmp x y < 0 then Xl2i (max (-1000000) (min 1000000 1)) else Xl2i (max (-1000000) (min 1000000 0))) else if a = 2005 then (if 0 < Xcmp x y then Xl2i (max (-1000000) (min 1000000 1)) else Xl2i (max (-1000000) (min 1000000 0))) else if a = 2006 then Xl2i (max (-1000000) (min 1000000 (Xland x y))) else 0
theorem cmp_v (x y : Int) : (Xcmp x y = 0 ↔ x = y) ∧ (Xcmp x y < 0 ↔ x < y) ∧ (0 < Xcmp x y ↔ y < x) := by
  unfold Xcmp
  refine ⟨?_, ?_, ?_⟩ <;> (split <;> (try split)) <;> omega
theorem jn_eq {a x y : Int} (ha : 3000 ≤ a ∧ a ≤ 3007) (hx : rgI x) (hy : rgI y) (hb : 3006 ≤ a → (x = 0 ∨ x = 1) ∧ (y = 0 ∨ y = 1)) : jnC (a - 1000) x y = jnM a x y := by
  have l1 : Xl2i (max (-1000000) (min 1000000 1)) = 1 := by decide +kernel
  have l0 : Xl2i (max (-1000000) (min 1000000 0)) = 0 := by decide +kernel
  obtain ⟨c1, c2, c3⟩ := cmp_v x y
  unfold jnC jnM
  rcases (show a = 3000 ∨ a = 3001 ∨ a = 3002 ∨ a = 3003 ∨ a = 3004 ∨ a = 3005 ∨ a = 3006 ∨ a = 3007 by omega) with rfl | rfl | rfl | rfl | rfl | rfl | rfl | rfl
  · rw [if_neg (by decide), if_pos (by decide), if_pos rfl, ladd_v hx hy, clI_v]
  · rw [if_neg (by decide), if_neg (by decide), if_pos (by decide), if_neg (by decide), if_pos rfl, lsub_v hx hy, clI_v]
  · rw [if_neg (by decide), if_neg (by decide), if_neg (by decide), if_pos (by decide), if_neg (by decide), if_neg (by decide), if_pos rfl, lmul_v hx hy, clI_v]
  · simp only [Int.reduceSub, Int.reduceLT, Int.reduceLE, Int.reduceEq, or_self, or_false, false_or, if_true, if_false, ↓reduceIte]
    rw [l1, l0]
    by_cases q : x = y
    · rw [if_pos (c1.mpr q), if_pos q]
    · rw [if_neg (fun z => q (c1.mp z)), if_neg q]
  · simp only [Int.reduceSub, Int.reduceLT, Int.reduceLE, Int.reduceEq, or_self, or_false, false_or, if_true, if_false, ↓reduceIte]
    rw [l1, l0]
    by_cases q : x < y
    · rw [if_pos (c2.mpr q), if_pos q]
    · rw [if_neg (fun z => q (c2.mp z)), if_neg q]
  · simp only [Int.reduceSub, Int.reduceLT, Int.reduceLE, Int.reduceEq, or_self, or_false, false_or, if_true, if_false, ↓reduceIte]
    rw [l1, l0]
    by_cases q : y < x
    · rw [if_pos (c3.mpr q), if_pos q]
    · rw [if_neg (fun z => q (c3.mp z)), if_neg q]
  · obtain ⟨hx', hy'⟩ := hb (by decide)
    rcases hx' with rfl | rfl <;> rcases hy' with rfl | rfl <;> decide +kernel
  · obtain ⟨hx', hy'⟩ := hb (by decide)
    rcases hx' with rfl | rfl <;> rcases hy' with rfl | rfl <;> decide +kernel
theorem v_end {n : Nat} {s : XS} {L : Nat} {t x : Int} (h : ¬ x < s 0 L 3) : L7_X4_value (n + 1) s L t x = (s, s 1 (L + 2) 0) := by
  show g8l_X4_value (L7_X4_value n) s L t x = _
  simp only [g8l_X4_value, g9b_X4_value, g10_X4_value, if_neg h]
  rfl
theorem v_push {n : Nat} {s : XS} {L : Nat} {t x a : Int} (h : x < s 0 L 3) (ha : s 1 (L + 1) (Int.toNat x) = a) (h2 : a ≤ 1005) (ht : t < 64) : L7_X4_value (n + 1) s L t x = L7_X4_value n (xup s 1 (L + 2) (Int.toNat t) (if a < 1000 then a else s 1 (L + 3) (Int.toNat (a - 1000)))) L (t + 1) (x + 1) := by
  show g8l_X4_value (L7_X4_value n) s L t x = _
  simp only [g8l_X4_value, g9b_X4_value, g11_X4_value, g12b_X4_value, g14_X4_value, g47b_X4_value, g49_X4_value, g50b_X4_value, g51_X4_value, g52_X4_value, g53w_X4_value, g54b_X4_value, g56_X4_value, g58w_X4_value, if_pos h, ha, if_pos ht]
  rw [if_pos (show a < 2000 by omega)]
  by_cases q : a < 1000
  · rw [if_pos q, if_pos q]
  · rw [if_neg q, if_neg q, if_neg (by omega)]
theorem v_join {n : Nat} {s : XS} {L : Nat} {t x a : Int} (h : x < s 0 L 3) (ha : s 1 (L + 1) (Int.toNat x) = a) (h2 : 2000 ≤ a) (ht : 2 ≤ t) : L7_X4_value (n + 1) s L t x = L7_X4_value n (xup s 1 (L + 2) (Int.toNat (t + (-1) - 1)) (jnC a (s 1 (L + 2) (Int.toNat (t + (-1) - 1))) (s 1 (L + 2) (Int.toNat (t + (-1)))))) L (t + (-1)) (x + 1) := by
  show g8l_X4_value (L7_X4_value n) s L t x = _
  simp only [g8l_X4_value, g9b_X4_value, g11_X4_value, g12b_X4_value, g13_X4_value, g15b_X4_value, g16_X4_value, g18s_X4_value, g19_X4_value, g20w_X4_value, g21_X4_value, g22w_X4_value, g23_X4_value, g24w_X4_value, g25_X4_value, g26w_X4_value, g27_X4_value, g28b_X4_value, g29_X4_value, g30_X4_value, g31w_X4_value, g32w_X4_value, g33_X4_value, g34b_X4_value, g35_X4_value, g36_X4_value, g37w_X4_value, g38w_X4_value, g39_X4_value, g40b_X4_value, g41_X4_value, g42_X4_value, g43w_X4_value, g44w_X4_value, g45_X4_value, g46w_X4_value, if_pos h, ha]
  rw [if_neg (show ¬ a < 2000 by omega), if_neg (show ¬ t < 2 by omega)]
  generalize s 1 (L + 2) (Int.toNat (t + (-1) - 1)) = X
  generalize s 1 (L + 2) (Int.toNat (t + (-1))) = Y
  unfold jnC
  by_cases c0 : a < 2000 ∨ 2006 < a
  · rw [if_pos c0, if_pos c0]
  rw [if_neg c0, if_neg c0]
  by_cases c1 : a = 2000
  · rw [if_pos c1, if_pos c1]
  rw [if_neg c1, if_neg c1]
  by_cases c2 : a = 2001
  · rw [if_pos c2, if_pos c2]
  rw [if_neg c2, if_neg c2]
  by_cases c3 : a = 2002
  · rw [if_pos c3, if_pos c3]
  rw [if_neg c3, if_neg c3]
  by_cases c4 : a = 2003
  · rw [if_pos c4, if_pos c4]
    split <;> rfl
  rw [if_neg c4, if_neg c4]
  by_cases c5 : a = 2004
  · rw [if_pos c5, if_pos c5]
    split <;> rfl
  rw [if_neg c5, if_neg c5]
  by_cases c6 : a = 2005
  · rw [if_pos c6, if_pos c6]
    split <;> rfl
  rw [if_neg c6, if_neg c6]
  by_cases c7 : a = 2006
  · rw [if_pos c7, if_pos c7]
  · exfalso; omega
def FrV1 (L : Nat) (u s : XS) : Prop := ∀ t c k, ¬ (t = 1 ∧ c = L + 2) → u t c k = s t c k
theorem FrV1.rf {L : Nat} {s : XS} : FrV1 L s s := fun _ _ _ _ => rfl
theorem FrV1.tr {L : Nat} {a b c : XS} (h : FrV1 L a b) (g : FrV1 L b c) : FrV1 L a c := fun t c' k q => (h t c' k q).trans (g t c' k q)
theorem FrV1.up {L k : Nat} {s : XS} {v : Int} : FrV1 L (xup s 1 (L + 2) k v) s := fun t c k' q => by
  unfold xup
  exact if_neg (fun e => q ⟨e.1, e.2.1⟩)
theorem getD_c {a : Int} {l : List Int} {k : Nat} : (a :: l).getD (k + 1) 0 = l.getD k 0 := rfl
theorem jnM_r {a x y : Int} (ha : 3000 ≤ a ∧ a ≤ 3007) : rgI (jnM a x y) ∧ (3003 ≤ a → jnM a x y = 0 ∨ jnM a x y = 1) := by
  have r : ∀ v, rgI (clI v) := fun v => by have := clI_r v; unfold rgI; omega
  have z : ∀ p : Prop, ∀ [Decidable p], rgI (if p then 1 else 0) ∧ ((if p then (1 : Int) else 0) = 0 ∨ (if p then (1 : Int) else 0) = 1) := fun p _ => by
    unfold rgI
    split
    · exact ⟨by decide, Or.inr rfl⟩
    · exact ⟨by decide, Or.inl rfl⟩
  unfold jnM
  rcases (show a = 3000 ∨ a = 3001 ∨ a = 3002 ∨ a = 3003 ∨ a = 3004 ∨ a = 3005 ∨ a = 3006 ∨ a = 3007 by omega) with rfl | rfl | rfl | rfl | rfl | rfl | rfl | rfl
  · rw [if_pos rfl]; exact ⟨r _, fun q => absurd q (by decide)⟩
  · rw [if_neg (by decide), if_pos rfl]; exact ⟨r _, fun q => absurd q (by decide)⟩
  · rw [if_neg (by decide), if_neg (by decide), if_pos rfl]; exact ⟨r _, fun q => absurd q (by decide)⟩
  · rw [if_neg (by decide), if_neg (by decide), if_neg (by decide), if_pos rfl]; exact ⟨(z _).1, fun _ => (z _).2⟩
  · rw [if_neg (by decide), if_neg (by decide), if_neg (by decide), if_neg (by decide), if_pos rfl]; exact ⟨(z _).1, fun _ => (z _).2⟩
  · rw [if_neg (by decide), if_neg (by decide), if_neg (by decide), if_neg (by decide), if_neg (by decide), if_pos rfl]; exact ⟨(z _).1, fun _ => (z _).2⟩
  · rw [if_neg (by decide), if_neg (by decide), if_neg (by decide), if_neg (by decide), if_neg (by decide), if_neg (by decide), if_pos rfl]; exact ⟨(z _).1, fun _ => (z _).2⟩
  · rw [if_neg (by decide), if_neg (by decide), if_neg (by decide), if_neg (by decide), if_neg (by decide), if_neg (by decide), if_neg (by decide)]; exact ⟨(z _).1, fun _ => (z _).2⟩
/-- one code of a typed law: what it is, what it makes of the types -/
theorem tyf_c {ts ts' : List Bool} {a : Int} (h : tyf ts a = some ts') : (0 ≤ a ∧ a ≤ 1005 ∧ ts' = false :: ts) ∨ (a = 3008 ∧ ∃ r, ts = true :: r ∧ ts' = true :: r) ∨ (3000 ≤ a ∧ a ≤ 3007 ∧ ∃ x y r b, ts = x :: y :: r ∧ ts' = b :: r ∧ (b = true → 3003 ≤ a) ∧ (3006 ≤ a → x = true ∧ y = true)) := by
  unfold tyf at h
  split at h
  · split at h
    · rename_i q
      cases h
      exact Or.inl ⟨q.1, q.2, rfl⟩
    · cases h
  · split at h
    · split at h
      · rename_i r
        cases h
        exact Or.inr (Or.inl ⟨by assumption, r, rfl, rfl⟩)
      · cases h
    · split at h
      · rename_i x y r
        split at h
        · split at h
          · cases h
            exact Or.inr (Or.inr ⟨by omega, by omega, x, y, r, false, rfl, rfl, (fun q => by cases q), fun q => by omega⟩)
          · cases h
        · split at h
          · split at h
            · cases h
              exact Or.inr (Or.inr ⟨by omega, by omega, x, y, r, true, rfl, rfl, fun _ => by omega, fun q => by omega⟩)
            · cases h
          · split at h
            · rename_i q
              cases h
              exact Or.inr (Or.inr ⟨by omega, by omega, x, y, r, true, rfl, rfl, fun _ => by omega, fun _ => q.2⟩)
            · cases h
      · cases h
theorem c_run {N : Int → Int} {L : Nat} (hN : ∀ k, rgI (N k)) : ∀ (l : List Int) (n i : Nat) (s : XS) (st : List Int) (ts ts' : List Bool), (∀ k : Nat, k < (trl l).length → s 1 (L + 1) (i + k) = (trl l).getD k 0) → s 0 L 3 = ((i + (trl l).length : Nat) : Int) → StH (s 1 (L + 2)) st → TyS ts st → tyl l ts = some ts' → hgm l st.length ≤ 64 → (∀ j : Nat, j < 6 → s 1 (L + 3) j = N (j : Int)) → (trl l).length < n → ∃ u, L7_X4_value n s L (st.length : Int) (i : Int) = (u, u 1 (L + 2) 0) ∧ StH (u 1 (L + 2)) (evM N l st) ∧ TyS ts' (evM N l st) ∧ FrV1 L u s
  | [], n, i, s, st, ts, ts', hc, hz, hs, ht, hy, hh, hn, hf => by
    obtain ⟨n, rfl⟩ : ∃ k, n = k + 1 := ⟨n - 1, by omega⟩
    refine ⟨s, v_end (by rw [hz]; show ¬ (i : Int) < ((i + 0 : Nat) : Int); omega), hs, ?_, FrV1.rf⟩
    have e : some ts = some ts' := hy
    cases e
    exact ht
  | a :: l, n, i, s, st, ts, ts', hc, hz, hs, ht, hy, hh, hn, hf => by
    have hy2 : (tyf ts a).bind (tyl l) = some ts' := hy
    obtain ⟨ts1, h1, h2⟩ := Option.bind_eq_some_iff.mp hy2
    have el : trl (a :: l) = tc1 a ++ trl l := rfl
    rcases tyf_c h1 with ⟨a0, a1, rfl⟩ | ⟨rfl, r, rfl, rfl⟩ | ⟨a0, a1, x, y, r, b, rfl, rfl, q1, q2⟩
    · -- a number or a name
      have ec : tc1 a = [a] := by unfold tc1; rw [if_pos (by omega)]
      rw [el, ec] at hc hz hf
      have c0 : s 1 (L + 1) i = a := hc 0 (by simp)
      have hh2 : hgm l (st.length + 1) ≤ 64 := by
        unfold hgm at hh
        rw [if_pos (by omega)] at hh
        exact hh
      have hl := hgm_le l (st.length + 1)
      obtain ⟨n, rfl⟩ : ∃ k, n = k + 1 := ⟨n - 1, by omega⟩
      have ev : evM N (a :: l) st = evM N l ((if a < 1000 then a else N (a - 1000)) :: st) := by
        show evM N l _ = _
        rw [if_pos (by omega)]
      have nm : (if a < 1000 then a else s 1 (L + 3) (Int.toNat (a - 1000))) = (if a < 1000 then a else N (a - 1000)) := by
        by_cases q : a < 1000
        · rw [if_pos q, if_pos q]
        · rw [if_neg q, if_neg q, hn _ (by omega), show ((Int.toNat (a - 1000) : Nat) : Int) = a - 1000 by omega]
      rw [v_push (by rw [hz]; simp; omega) (show s 1 (L + 1) (Int.toNat (i : Int)) = a from c0) (by omega) (by omega), nm, ev, show Int.toNat (st.length : Int) = st.length from rfl]
      generalize hv : (if a < 1000 then a else N (a - 1000)) = v
      have rv : rgI v := by
        rw [← hv]
        split
        · unfold rgI; omega
        · exact hN _
      have ih := c_run hN l n (i + 1) (xup s 1 (L + 2) st.length v) (v :: st) (false :: ts) ts' (fun k hk => by
          rw [xup_c (by omega), show i + 1 + k = i + (k + 1) by omega, hc (k + 1) (by simp; omega)]
          rfl) (by rw [xup_t (by decide), hz]; simp; omega) ⟨xup_s, hs.same st (fun k hk => xup_k (by omega))⟩ ⟨(fun q => by cases q), rv, ht⟩ h2 hh2 (fun j hj => by rw [xup_c (by omega)]; exact hn j hj) (by simp at hf; omega)
      obtain ⟨u, u1, u2, u3, u4⟩ := ih
      refine ⟨u, ?_, u2, u3, u4.tr FrV1.up⟩
      rw [← u1]
      rfl
    · -- not
      cases st with
      | nil => exact ht.elim
      | cons x st =>
        obtain ⟨t1, t2, t3⟩ := ht
        have ec : tc1 3008 = [0, 2003] := rfl
        rw [el, ec] at hc hz hf
        have c0 : s 1 (L + 1) i = 0 := hc 0 (by simp)
        have c1 : s 1 (L + 1) (i + 1) = 2003 := hc 1 (by simp)
        have hh2 : hgm l (st.length + 1) ≤ 64 ∧ st.length + 2 ≤ 64 := by
          unfold hgm at hh
          rw [if_neg (by decide), if_pos rfl] at hh
          simp at hh
          omega
        obtain ⟨n, rfl⟩ : ∃ k, n = k + 1 + 1 := ⟨n - 2, by simp at hf; omega⟩
        have ev : evM N (3008 :: l) (x :: st) = evM N l ((1 - x) :: st) := rfl
        rw [v_push (a := 0) (by rw [hz]; simp; omega) (show s 1 (L + 1) (Int.toNat (i : Int)) = 0 from c0) (by decide) (by simp; omega), if_pos (by decide), ev]
        have el1 : ((x :: st).length : Int) = (st.length : Int) + 1 := by simp
        rw [el1]
        have g1 : xup s 1 (L + 2) (Int.toNat ((st.length : Int) + 1)) 0 1 (L + 1) (Int.toNat ((i : Int) + 1)) = 2003 := by
          rw [xup_c (by omega), show Int.toNat ((i : Int) + 1) = i + 1 by omega]; exact c1
        rw [v_join (by rw [xup_t (by decide), hz]; simp; omega) g1 (by decide) (by omega)]
        have k1 : Int.toNat ((st.length : Int) + 1 + 1 + (-1) - 1) = st.length := by omega
        have k2 : Int.toNat ((st.length : Int) + 1 + 1 + (-1)) = st.length + 1 := by omega
        have k3 : Int.toNat ((st.length : Int) + 1) = st.length + 1 := by omega
        rw [k1, k2, k3]
        have vx : xup s 1 (L + 2) (st.length + 1) 0 1 (L + 2) st.length = x := by rw [xup_k (by omega)]; exact hs.1
        have vz : xup s 1 (L + 2) (st.length + 1) 0 1 (L + 2) (st.length + 1) = 0 := xup_s
        rw [vx, vz]
        have jv : jnC 2003 x 0 = 1 - x := by
          have q := jn_eq (a := 3003) (x := x) (y := 0) (by decide) t2 (by unfold rgI; decide) (fun z => absurd z (by decide))
          rw [show (3003 : Int) - 1000 = 2003 from rfl] at q
          rw [q]
          unfold jnM
          rw [if_neg (by decide), if_neg (by decide), if_neg (by decide), if_pos rfl]
          rcases t1 rfl with rfl | rfl <;> rfl
        rw [jv]
        have rv : rgI (1 - x) := by
          unfold rgI
          rcases t1 rfl with rfl | rfl <;> decide
        have ih := c_run hN l n (i + 2) (xup (xup s 1 (L + 2) (st.length + 1) 0) 1 (L + 2) st.length (1 - x)) ((1 - x) :: st) (true :: r) ts' (fun k hk => by
            rw [xup_c (by omega), xup_c (by omega), show i + 2 + k = i + (k + 1 + 1) by omega, hc (k + 1 + 1) (by simp; omega)]
            rfl) (by rw [xup_t (by decide), xup_t (by decide), hz]; simp; omega) ⟨xup_s, hs.2.same st (fun k hk => by rw [xup_k (by omega), xup_k (by omega)])⟩ ⟨(fun _ => by rcases t1 rfl with e | e <;> omega), rv, t3⟩ h2 hh2.1 (fun j hj => by rw [xup_c (by omega), xup_c (by omega)]; exact hn j hj) (by simp at hf; omega)
        obtain ⟨u, u1, u2, u3, u4⟩ := ih
        refine ⟨u, ?_, u2, u3, u4.tr (FrV1.up.tr FrV1.up)⟩
        rw [← u1]
        have e1 : (((1 - x) :: st).length : Int) = (st.length : Int) + 1 + 1 + (-1) := by simp; omega
        have e2 : ((i + 2 : Nat) : Int) = (i : Int) + 1 + 1 := by omega
        rw [e1, e2]
    · -- two joined
      cases st with
      | nil => exact ht.elim
      | cons yv st =>
        cases st with
        | nil => exact ht.2.2.elim
        | cons xv st =>
          obtain ⟨t1, t2, t3, t4, t5⟩ := ht
          have ec : tc1 a = [a - 1000] := by unfold tc1; rw [if_neg (by omega), if_neg (by omega)]
          rw [el, ec] at hc hz hf
          have c0 : s 1 (L + 1) i = a - 1000 := hc 0 (by simp)
          have hh2 : hgm l (st.length + 1) ≤ 64 := by
            unfold hgm at hh
            rw [if_neg (by omega), if_neg (by omega)] at hh
            simp at hh
            omega
          obtain ⟨n, rfl⟩ : ∃ k, n = k + 1 := ⟨n - 1, by omega⟩
          have ev : evM N (a :: l) (yv :: xv :: st) = evM N l (jnM a xv yv :: st) := by
            show evM N l _ = _
            rw [if_neg (by omega), if_neg (by omega)]
          have el1 : ((yv :: xv :: st).length : Int) = (st.length : Int) + 2 := by simp; omega
          rw [el1, v_join (by rw [hz]; simp; omega) (show s 1 (L + 1) (Int.toNat (i : Int)) = a - 1000 from c0) (by omega) (by omega), ev]
          have k1 : Int.toNat ((st.length : Int) + 2 + (-1) - 1) = st.length := by omega
          have k2 : Int.toNat ((st.length : Int) + 2 + (-1)) = st.length + 1 := by omega
          rw [k1, k2]
          have vx : s 1 (L + 2) st.length = xv := hs.2.1
          have vy : s 1 (L + 2) (st.length + 1) = yv := by have := hs.1; simpa using this
          rw [vx, vy, jn_eq ⟨a0, a1⟩ t4 t2 (fun z => ⟨t3 (q2 z).2, t1 (q2 z).1⟩)]
          obtain ⟨j1, j2⟩ := jnM_r (x := xv) (y := yv) ⟨a0, a1⟩
          have ih := c_run hN l n (i + 1) (xup s 1 (L + 2) st.length (jnM a xv yv)) (jnM a xv yv :: st) (b :: r) ts' (fun k hk => by
              rw [xup_c (by omega), show i + 1 + k = i + (k + 1) by omega, hc (k + 1) (by simp; omega)]
              rfl) (by rw [xup_t (by decide), hz]; simp; omega) ⟨xup_s, hs.2.2.same st (fun k hk => xup_k (by omega))⟩ ⟨fun z => j2 (q1 z), j1, t5⟩ h2 hh2 (fun j hj => by rw [xup_c (by omega)]; exact hn j hj) (by simp at hf; omega)
          obtain ⟨u, u1, u2, u3, u4⟩ := ih
          refine ⟨u, ?_, u2, u3, u4.tr FrV1.up⟩
          rw [← u1]
          have e1 : ((jnM a xv yv :: st).length : Int) = (st.length : Int) + 2 + (-1) := by simp; omega
          have e2 : ((i + 1 : Nat) : Int) = (i : Int) + 1 := by omega
          rw [e1, e2]
/-! the reference -/
theorem btw_x {m : XS} {a x y : Int} (ha : 3000 ≤ a ∧ a ≤ 3007) (hx : rgI x) (hy : rgI y) (hb : 3006 ≤ a → (x = 0 ∨ x = 1) ∧ (y = 0 ∨ y = 1)) : f_X12_between m a x y = (m, jnM a x y) := by
  have cl : ∀ v : Int, -9000000000000000000 ≤ v ∧ v ≤ 9000000000000000000 → (if 0 < Xcmp v 1000000 then (m, (1000000 : Int)) else if Xcmp v (-1000000) < 0 then (m, -1000000) else (m, Xl2i v)) = (m, clI v) := by
    intro v hv
    obtain ⟨-, -, c3⟩ := cmp_v v 1000000
    obtain ⟨-, c2, -⟩ := cmp_v v (-1000000)
    by_cases q : 1000000 < v
    · rw [if_pos (c3.mpr q)]
      unfold clI
      rw [show max (-1000000) (min 1000000 v) = 1000000 by omega]
    · rw [if_neg (fun z => q (c3.mp z))]
      by_cases r : v < -1000000
      · rw [if_pos (c2.mpr r)]
        unfold clI
        rw [show max (-1000000) (min 1000000 v) = -1000000 by omega]
      · rw [if_neg (fun z => r (c2.mp z)), l2i_v ⟨by omega, by omega⟩]
        unfold clI
        rw [show max (-1000000) (min 1000000 v) = v by omega]
  have mb := mul_b hx hy
  have hx' := hx
  have hy' := hy
  unfold rgI at hx' hy'
  have nn : ∀ p q : Prop, True := fun _ _ => trivial
  simp only [f_X12_between, g1b_X12_between, g2_X12_between, g3_X12_between, g4b_X12_between, g5_X12_between, g6_X12_between, g7b_X12_between, g8_X12_between, g9_X12_between, g10b_X12_between, g11_X12_between, g12_X12_between, g13b_X12_between, g14_X12_between, g15_X12_between, g16b_X12_between, g17_X12_between, g18_X12_between, g19b_X12_between, g20_X12_between, g21_X12_between, g22b_X12_between, g23_X12_between, g24_X12_between, g25b_X12_between, g26_X12_between, g27_X12_between, g28b_X12_between, g29_X12_between, g30_X12_between, g31b_X12_between, g32_X12_between, g33_X12_between, g34b_X12_between, g35_X12_between, g36_X12_between, g37b_X12_between, g38_X12_between, g39_X12_between, g40b_X12_between, g41_X12_between, g42_X12_between, g43b_X12_between, g44_X12_between, g45_X12_between, g46b_X12_between, g47_X12_between, g48_X12_between, g49b_X12_between, g50_X12_between, g51_X12_between, g52b_X12_between, g53_X12_between, g54_X12_between, ladd_v hx hy, lsub_v hx hy, lmul_v hx hy]
  unfold jnM
  rcases (show a = 3000 ∨ a = 3001 ∨ a = 3002 ∨ a = 3003 ∨ a = 3004 ∨ a = 3005 ∨ a = 3006 ∨ a = 3007 by omega) with rfl | rfl | rfl | rfl | rfl | rfl | rfl | rfl
  · simp only [Int.reduceSub, Int.reduceLT, Int.reduceLE, Int.reduceEq, or_self, or_false, false_or, if_true, if_false, ↓reduceIte]
    exact cl _ (by omega)
  · simp only [Int.reduceSub, Int.reduceLT, Int.reduceLE, Int.reduceEq, or_self, or_false, false_or, if_true, if_false, ↓reduceIte]
    exact cl _ (by omega)
  · simp only [Int.reduceSub, Int.reduceLT, Int.reduceLE, Int.reduceEq, or_self, or_false, false_or, if_true, if_false, ↓reduceIte]
    exact cl _ (by omega)
  · simp only [Int.reduceSub, Int.reduceLT, Int.reduceLE, Int.reduceEq, or_self, or_false, false_or, if_true, if_false, ↓reduceIte]
    split <;> rfl
  · simp only [Int.reduceSub, Int.reduceLT, Int.reduceLE, Int.reduceEq, or_self, or_false, false_or, if_true, if_false, ↓reduceIte]
    split <;> rfl
  · simp only [Int.reduceSub, Int.reduceLT, Int.reduceLE, Int.reduceEq, or_self, or_false, false_or, if_true, if_false, ↓reduceIte]
    split <;> rfl
  · simp only [Int.reduceSub, Int.reduceLT, Int.reduceLE, Int.reduceEq, or_self, or_false, false_or, if_true, if_false, ↓reduceIte]
    rw [iadd_v (by have q := hb (by decide); unfold rgI; omega)]
    split <;> rfl
  · simp only [Int.reduceSub, Int.reduceLT, Int.reduceLE, Int.reduceEq, or_self, or_false, false_or, if_true, if_false, ↓reduceIte]
    rw [iadd_v (by have q := hb (by decide); unfold rgI; omega)]
    split <;> rfl
def FrV5 (u s : XS) : Prop := ∀ t c k, ¬ (t = 1 ∧ c = 5) → u t c k = s t c k
theorem FrV5.rf {s : XS} : FrV5 s s := fun _ _ _ _ => rfl
theorem FrV5.tr {a b c : XS} (h : FrV5 a b) (g : FrV5 b c) : FrV5 a c := fun t c' k q => (h t c' k q).trans (g t c' k q)
theorem FrV5.up {k : Nat} {s : XS} {v : Int} : FrV5 (xup s 1 5 k v) s := fun t c k' q => by
  unfold xup
  exact if_neg (fun e => q ⟨e.1, e.2.1⟩)
theorem word_f {u m : XS} {k c hr d : Int} (h : FrV5 u m) : (f_X12_wordOf u k c hr d).2 = (f_X12_wordOf m k c hr d).2 := by
  have e : ∀ j, u 1 1 j = m 1 1 j := fun j => h 1 1 j (by omega)
  simp only [f_X12_wordOf, g1s_X12_wordOf, g2_X12_wordOf, g3_X12_wordOf, g4_X12_wordOf, g5_X12_wordOf, g6_X12_wordOf, g7_X12_wordOf, e]
  (repeat' split) <;> rfl
theorem r_end_0 {n : Nat} {m : XS} {c hr d t x : Int} (h : ¬ x < m 1 1 (8 + 0)) : L1_X12_reckons_0 (n + 1) m c hr d t x = (m, m 1 5 0) := by
  show g2l_X12_reckons_0 (L1_X12_reckons_0 n) m c hr d t x = _
  simp only [g2l_X12_reckons_0, g3b_X12_reckons_0, g4_X12_reckons_0, show Int.toNat (8 + 0) = 8 + 0 from rfl, if_neg h]
  rfl
theorem r_push_0 {n : Nat} {m : XS} {c hr d t x a : Int} (h : x < m 1 1 (8 + 0)) (ha : m 1 1 (Int.toNat ((874 + m 1 1 (6 + 0)) + x)) = a) (h2 : a ≤ 1005) : L1_X12_reckons_0 (n + 1) m c hr d t x = L1_X12_reckons_0 n (xup m 1 5 (Int.toNat t) (if a < 1000 then a else (f_X12_wordOf m (a - 1000) c hr d).2)) c hr d (t + 1) (x + 1) := by
  show g2l_X12_reckons_0 (L1_X12_reckons_0 n) m c hr d t x = _
  have ew : (f_X12_wordOf m (a - 1000) c hr d).1 = m := pu_f_X12_wordOf
  simp only [g2l_X12_reckons_0, g3b_X12_reckons_0, g5_X12_reckons_0, g6b_X12_reckons_0, g8_X12_reckons_0, g15b_X12_reckons_0, g16_X12_reckons_0, g17_X12_reckons_0, g18c_X12_reckons_0, g19w_X12_reckons_0, g20w_X12_reckons_0, show Int.toNat (8 + 0) = 8 + 0 from rfl, show Int.toNat (6 + 0) = 6 + 0 from rfl, if_pos h, ha, ew]
  rw [if_pos (show a < 3000 by omega)]
  by_cases q : a < 1000
  · rw [if_pos q, if_pos q]
  · rw [if_neg q, if_neg q]
theorem r_not_0 {n : Nat} {m : XS} {c hr d t x : Int} (h : x < m 1 1 (8 + 0)) (ha : m 1 1 (Int.toNat ((874 + m 1 1 (6 + 0)) + x)) = 3008) : L1_X12_reckons_0 (n + 1) m c hr d t x = L1_X12_reckons_0 n (xup m 1 5 (Int.toNat (t - 1)) (Xisub 1 (m 1 5 (Int.toNat (t - 1))))) c hr d t (x + 1) := by
  show g2l_X12_reckons_0 (L1_X12_reckons_0 n) m c hr d t x = _
  simp only [g2l_X12_reckons_0, g3b_X12_reckons_0, g5_X12_reckons_0, g6b_X12_reckons_0, g7_X12_reckons_0, g9b_X12_reckons_0, g11_X12_reckons_0, g14w_X12_reckons_0, show Int.toNat (8 + 0) = 8 + 0 from rfl, show Int.toNat (6 + 0) = 6 + 0 from rfl, if_pos h, ha]
  rw [if_neg (show ¬ (3008 : Int) < 3000 by decide)]
  first | rfl | rw [if_pos rfl] | exact if_pos trivial
theorem r_join_0 {n : Nat} {m : XS} {c hr d t x a v : Int} (h : x < m 1 1 (8 + 0)) (ha : m 1 1 (Int.toNat ((874 + m 1 1 (6 + 0)) + x)) = a) (h2 : 3000 ≤ a ∧ a ≤ 3007) (hv : f_X12_between m a (m 1 5 (Int.toNat (t + (-1) - 1))) (m 1 5 (Int.toNat (t + (-1)))) = (m, v)) : L1_X12_reckons_0 (n + 1) m c hr d t x = L1_X12_reckons_0 n (xup m 1 5 (Int.toNat (t + (-1) - 1)) v) c hr d (t + (-1)) (x + 1) := by
  show g2l_X12_reckons_0 (L1_X12_reckons_0 n) m c hr d t x = _
  simp only [g2l_X12_reckons_0, g3b_X12_reckons_0, g5_X12_reckons_0, g6b_X12_reckons_0, g7_X12_reckons_0, g9b_X12_reckons_0, g10_X12_reckons_0, g12c_X12_reckons_0, g13w_X12_reckons_0, show Int.toNat (8 + 0) = 8 + 0 from rfl, show Int.toNat (6 + 0) = 6 + 0 from rfl, if_pos h, ha]
  rw [if_neg (show ¬ a < 3000 by omega), if_neg (show ¬ a = 3008 by omega), hv]
theorem m_run_0 {N : Int → Int} {c hr d : Int} (hN : ∀ k, rgI (N k)) : ∀ (l : List Int) (n i : Nat) (m : XS) (st : List Int) (ts ts' : List Bool), (∀ k : Nat, k < l.length → m 1 1 (874 + (m 1 1 (6 + 0)).toNat + (i + k)) = l.getD k 0) → 0 ≤ m 1 1 (6 + 0) → m 1 1 (8 + 0) = ((i + l.length : Nat) : Int) → StH (m 1 5) st → TyS ts st → tyl l ts = some ts' → (∀ j : Nat, j < 6 → (f_X12_wordOf m (j : Int) c hr d).2 = N (j : Int)) → l.length < n → ∃ u, L1_X12_reckons_0 n m c hr d (st.length : Int) (i : Int) = (u, u 1 5 0) ∧ StH (u 1 5) (evM N l st) ∧ FrV5 u m
  | [], n, i, m, st, ts, ts', hc, h6, hz, hs, ht, hy, hw, hf => by
    obtain ⟨n, rfl⟩ : ∃ k, n = k + 1 := ⟨n - 1, by omega⟩
    exact ⟨m, r_end_0 (by rw [hz]; show ¬ (i : Int) < ((i + 0 : Nat) : Int); omega), hs, FrV5.rf⟩
  | a :: l, n, i, m, st, ts, ts', hc, h6, hz, hs, ht, hy, hw, hf => by
    have hy2 : (tyf ts a).bind (tyl l) = some ts' := hy
    obtain ⟨ts1, h1, h2⟩ := Option.bind_eq_some_iff.mp hy2
    have c0 : m 1 1 (Int.toNat ((874 + m 1 1 (6 + 0)) + (i : Int))) = a := by
      rw [show Int.toNat ((874 + m 1 1 (6 + 0)) + (i : Int)) = 874 + (m 1 1 (6 + 0)).toNat + (i + 0) by omega]
      exact hc 0 (by simp)
    have hx : (i : Int) < m 1 1 (8 + 0) := by rw [hz]; simp; omega
    obtain ⟨n, rfl⟩ : ∃ k, n = k + 1 := ⟨n - 1, by omega⟩
    have nxt : ∀ (k : Nat) (v : Int) (st' : List Int) (ts2 : List Bool), StH (xup m 1 5 k v 1 5) st' → TyS ts2 st' → tyl l ts2 = some ts' → ∃ u, L1_X12_reckons_0 n (xup m 1 5 k v) c hr d (st'.length : Int) ((i + 1 : Nat) : Int) = (u, u 1 5 0) ∧ StH (u 1 5) (evM N l st') ∧ FrV5 u m := by
      intro k v st' ts2 g1 g2 g3
      have e1 : ∀ j, xup m 1 5 k v 1 1 j = m 1 1 j := fun j => xup_c (by decide)
      obtain ⟨u, u1, u2, u3⟩ := m_run_0 hN l n (i + 1) (xup m 1 5 k v) st' ts2 ts' (fun j hj => by
        rw [e1, e1, show i + 1 + j = i + (j + 1) by omega, hc (j + 1) (by simp; omega)]
        rfl) (by rw [e1]; exact h6) (by rw [e1, hz]; simp; omega) g1 g2 g3 (fun j hj => by rw [word_f FrV5.up]; exact hw j hj) (by simp at hf; omega)
      exact ⟨u, u1, u2, u3.tr FrV5.up⟩
    rcases tyf_c h1 with ⟨a0, a1, rfl⟩ | ⟨rfl, r, rfl, rfl⟩ | ⟨a0, a1, x, y, r, b, rfl, rfl, q1, q2⟩
    · have ev : evM N (a :: l) st = evM N l ((if a < 1000 then a else N (a - 1000)) :: st) := by
        show evM N l _ = _
        rw [if_pos (by omega)]
      have nm : (if a < 1000 then a else (f_X12_wordOf m (a - 1000) c hr d).2) = (if a < 1000 then a else N (a - 1000)) := by
        by_cases q : a < 1000
        · rw [if_pos q, if_pos q]
        · have w := hw (a - 1000).toNat (by omega)
          rw [show (((a - 1000).toNat : Nat) : Int) = a - 1000 by omega] at w
          rw [if_neg q, if_neg q, w]
      rw [r_push_0 hx c0 (by omega), nm, ev, show Int.toNat (st.length : Int) = st.length from rfl]
      generalize hv : (if a < 1000 then a else N (a - 1000)) = v
      have rv : rgI v := by
        rw [← hv]
        split
        · unfold rgI; omega
        · exact hN _
      obtain ⟨u, u1, u2, u3⟩ := nxt st.length v (v :: st) (false :: ts) ⟨xup_s, hs.same st (fun k hk => xup_k (by omega))⟩ ⟨fun q => (by cases q), rv, ht⟩ h2
      refine ⟨u, ?_, u2, u3⟩
      rw [← u1]
      rfl
    · cases st with
      | nil => exact ht.elim
      | cons x st =>
        obtain ⟨t1, t2, t3⟩ := ht
        have ev : evM N (3008 :: l) (x :: st) = evM N l ((1 - x) :: st) := rfl
        have el1 : ((x :: st).length : Int) = (st.length : Int) + 1 := by simp
        rw [el1, r_not_0 hx c0, ev, show Int.toNat ((st.length : Int) + 1 - 1) = st.length by omega]
        have vx : m 1 5 st.length = x := hs.1
        have rv : rgI (1 - x) := by
          unfold rgI
          rcases t1 rfl with rfl | rfl <;> decide
        rw [vx, isub_v rv]
        obtain ⟨u, u1, u2, u3⟩ := nxt st.length (1 - x) ((1 - x) :: st) (true :: r) ⟨xup_s, hs.2.same st (fun k hk => xup_k (by omega))⟩ ⟨(fun _ => by rcases t1 rfl with e | e <;> omega), rv, t3⟩ h2
        refine ⟨u, ?_, u2, u3⟩
        rw [← u1]
        have e1 : (((1 - x) :: st).length : Int) = (st.length : Int) + 1 := by simp
        have e2 : ((i + 1 : Nat) : Int) = (i : Int) + 1 := by omega
        rw [e1, e2]
    · cases st with
      | nil => exact ht.elim
      | cons yv st =>
        cases st with
        | nil => exact ht.2.2.elim
        | cons xv st =>
          obtain ⟨t1, t2, t3, t4, t5⟩ := ht
          have ev : evM N (a :: l) (yv :: xv :: st) = evM N l (jnM a xv yv :: st) := by
            show evM N l _ = _
            rw [if_neg (by omega), if_neg (by omega)]
          have el1 : ((yv :: xv :: st).length : Int) = (st.length : Int) + 2 := by simp; omega
          have k1 : Int.toNat ((st.length : Int) + 2 + (-1) - 1) = st.length := by omega
          have k2 : Int.toNat ((st.length : Int) + 2 + (-1)) = st.length + 1 := by omega
          have vx : m 1 5 st.length = xv := hs.2.1
          have vy : m 1 5 (st.length + 1) = yv := by have := hs.1; simpa using this
          have bt := btw_x (m := m) (x := xv) (y := yv) ⟨a0, a1⟩ t4 t2 (fun z => ⟨t3 (q2 z).2, t1 (q2 z).1⟩)
          rw [el1, r_join_0 hx c0 ⟨a0, a1⟩ (v := jnM a xv yv) (by rw [k1, k2, vx, vy]; exact bt), ev, k1]
          obtain ⟨j1, j2⟩ := jnM_r (x := xv) (y := yv) ⟨a0, a1⟩
          obtain ⟨u, u1, u2, u3⟩ := nxt st.length (jnM a xv yv) (jnM a xv yv :: st) (b :: r) ⟨xup_s, hs.2.2.same st (fun k hk => xup_k (by omega))⟩ ⟨fun z => j2 (q1 z), j1, t5⟩ h2
          refine ⟨u, ?_, u2, u3⟩
          rw [← u1]
          have e1 : ((jnM a xv yv :: st).length : Int) = (st.length : Int) + 2 + (-1) := by simp; omega
          have e2 : ((i + 1 : Nat) : Int) = (i : Int) + 1 := by omega
          rw [e1, e2]
theorem r_end_1 {n : Nat} {m : XS} {c hr d t x : Int} (h : ¬ x < m 1 1 (8 + 1)) : L1_X12_reckons_1 (n + 1) m c hr d t x = (m, m 1 5 0) := by
  show g2l_X12_reckons_1 (L1_X12_reckons_1 n) m c hr d t x = _
  simp only [g2l_X12_reckons_1, g3b_X12_reckons_1, g4_X12_reckons_1, show Int.toNat (8 + 1) = 8 + 1 from rfl, if_neg h]
  rfl
theorem r_push_1 {n : Nat} {m : XS} {c hr d t x a : Int} (h : x < m 1 1 (8 + 1)) (ha : m 1 1 (Int.toNat ((874 + m 1 1 (6 + 1)) + x)) = a) (h2 : a ≤ 1005) : L1_X12_reckons_1 (n + 1) m c hr d t x = L1_X12_reckons_1 n (xup m 1 5 (Int.toNat t) (if a < 1000 then a else (f_X12_wordOf m (a - 1000) c hr d).2)) c hr d (t + 1) (x + 1) := by
  show g2l_X12_reckons_1 (L1_X12_reckons_1 n) m c hr d t x = _
  have ew : (f_X12_wordOf m (a - 1000) c hr d).1 = m := pu_f_X12_wordOf
  simp only [g2l_X12_reckons_1, g3b_X12_reckons_1, g5_X12_reckons_1, g6b_X12_reckons_1, g8_X12_reckons_1, g15b_X12_reckons_1, g16_X12_reckons_1, g17_X12_reckons_1, g18c_X12_reckons_1, g19w_X12_reckons_1, g20w_X12_reckons_1, show Int.toNat (8 + 1) = 8 + 1 from rfl, show Int.toNat (6 + 1) = 6 + 1 from rfl, if_pos h, ha, ew]
  rw [if_pos (show a < 3000 by omega)]
  by_cases q : a < 1000
  · rw [if_pos q, if_pos q]
  · rw [if_neg q, if_neg q]
theorem r_not_1 {n : Nat} {m : XS} {c hr d t x : Int} (h : x < m 1 1 (8 + 1)) (ha : m 1 1 (Int.toNat ((874 + m 1 1 (6 + 1)) + x)) = 3008) : L1_X12_reckons_1 (n + 1) m c hr d t x = L1_X12_reckons_1 n (xup m 1 5 (Int.toNat (t - 1)) (Xisub 1 (m 1 5 (Int.toNat (t - 1))))) c hr d t (x + 1) := by
  show g2l_X12_reckons_1 (L1_X12_reckons_1 n) m c hr d t x = _
  simp only [g2l_X12_reckons_1, g3b_X12_reckons_1, g5_X12_reckons_1, g6b_X12_reckons_1, g7_X12_reckons_1, g9b_X12_reckons_1, g11_X12_reckons_1, g14w_X12_reckons_1, show Int.toNat (8 + 1) = 8 + 1 from rfl, show Int.toNat (6 + 1) = 6 + 1 from rfl, if_pos h, ha]
  rw [if_neg (show ¬ (3008 : Int) < 3000 by decide)]
  first | rfl | rw [if_pos rfl] | exact if_pos trivial
theorem r_join_1 {n : Nat} {m : XS} {c hr d t x a v : Int} (h : x < m 1 1 (8 + 1)) (ha : m 1 1 (Int.toNat ((874 + m 1 1 (6 + 1)) + x)) = a) (h2 : 3000 ≤ a ∧ a ≤ 3007) (hv : f_X12_between m a (m 1 5 (Int.toNat (t + (-1) - 1))) (m 1 5 (Int.toNat (t + (-1)))) = (m, v)) : L1_X12_reckons_1 (n + 1) m c hr d t x = L1_X12_reckons_1 n (xup m 1 5 (Int.toNat (t + (-1) - 1)) v) c hr d (t + (-1)) (x + 1) := by
  show g2l_X12_reckons_1 (L1_X12_reckons_1 n) m c hr d t x = _
  simp only [g2l_X12_reckons_1, g3b_X12_reckons_1, g5_X12_reckons_1, g6b_X12_reckons_1, g7_X12_reckons_1, g9b_X12_reckons_1, g10_X12_reckons_1, g12c_X12_reckons_1, g13w_X12_reckons_1, show Int.toNat (8 + 1) = 8 + 1 from rfl, show Int.toNat (6 + 1) = 6 + 1 from rfl, if_pos h, ha]
  rw [if_neg (show ¬ a < 3000 by omega), if_neg (show ¬ a = 3008 by omega), hv]
theorem m_run_1 {N : Int → Int} {c hr d : Int} (hN : ∀ k, rgI (N k)) : ∀ (l : List Int) (n i : Nat) (m : XS) (st : List Int) (ts ts' : List Bool), (∀ k : Nat, k < l.length → m 1 1 (874 + (m 1 1 (6 + 1)).toNat + (i + k)) = l.getD k 0) → 0 ≤ m 1 1 (6 + 1) → m 1 1 (8 + 1) = ((i + l.length : Nat) : Int) → StH (m 1 5) st → TyS ts st → tyl l ts = some ts' → (∀ j : Nat, j < 6 → (f_X12_wordOf m (j : Int) c hr d).2 = N (j : Int)) → l.length < n → ∃ u, L1_X12_reckons_1 n m c hr d (st.length : Int) (i : Int) = (u, u 1 5 0) ∧ StH (u 1 5) (evM N l st) ∧ FrV5 u m
  | [], n, i, m, st, ts, ts', hc, h6, hz, hs, ht, hy, hw, hf => by
    obtain ⟨n, rfl⟩ : ∃ k, n = k + 1 := ⟨n - 1, by omega⟩
    exact ⟨m, r_end_1 (by rw [hz]; show ¬ (i : Int) < ((i + 0 : Nat) : Int); omega), hs, FrV5.rf⟩
  | a :: l, n, i, m, st, ts, ts', hc, h6, hz, hs, ht, hy, hw, hf => by
    have hy2 : (tyf ts a).bind (tyl l) = some ts' := hy
    obtain ⟨ts1, h1, h2⟩ := Option.bind_eq_some_iff.mp hy2
    have c0 : m 1 1 (Int.toNat ((874 + m 1 1 (6 + 1)) + (i : Int))) = a := by
      rw [show Int.toNat ((874 + m 1 1 (6 + 1)) + (i : Int)) = 874 + (m 1 1 (6 + 1)).toNat + (i + 0) by omega]
      exact hc 0 (by simp)
    have hx : (i : Int) < m 1 1 (8 + 1) := by rw [hz]; simp; omega
    obtain ⟨n, rfl⟩ : ∃ k, n = k + 1 := ⟨n - 1, by omega⟩
    have nxt : ∀ (k : Nat) (v : Int) (st' : List Int) (ts2 : List Bool), StH (xup m 1 5 k v 1 5) st' → TyS ts2 st' → tyl l ts2 = some ts' → ∃ u, L1_X12_reckons_1 n (xup m 1 5 k v) c hr d (st'.length : Int) ((i + 1 : Nat) : Int) = (u, u 1 5 0) ∧ StH (u 1 5) (evM N l st') ∧ FrV5 u m := by
      intro k v st' ts2 g1 g2 g3
      have e1 : ∀ j, xup m 1 5 k v 1 1 j = m 1 1 j := fun j => xup_c (by decide)
      obtain ⟨u, u1, u2, u3⟩ := m_run_1 hN l n (i + 1) (xup m 1 5 k v) st' ts2 ts' (fun j hj => by
        rw [e1, e1, show i + 1 + j = i + (j + 1) by omega, hc (j + 1) (by simp; omega)]
        rfl) (by rw [e1]; exact h6) (by rw [e1, hz]; simp; omega) g1 g2 g3 (fun j hj => by rw [word_f FrV5.up]; exact hw j hj) (by simp at hf; omega)
      exact ⟨u, u1, u2, u3.tr FrV5.up⟩
    rcases tyf_c h1 with ⟨a0, a1, rfl⟩ | ⟨rfl, r, rfl, rfl⟩ | ⟨a0, a1, x, y, r, b, rfl, rfl, q1, q2⟩
    · have ev : evM N (a :: l) st = evM N l ((if a < 1000 then a else N (a - 1000)) :: st) := by
        show evM N l _ = _
        rw [if_pos (by omega)]
      have nm : (if a < 1000 then a else (f_X12_wordOf m (a - 1000) c hr d).2) = (if a < 1000 then a else N (a - 1000)) := by
        by_cases q : a < 1000
        · rw [if_pos q, if_pos q]
        · have w := hw (a - 1000).toNat (by omega)
          rw [show (((a - 1000).toNat : Nat) : Int) = a - 1000 by omega] at w
          rw [if_neg q, if_neg q, w]
      rw [r_push_1 hx c0 (by omega), nm, ev, show Int.toNat (st.length : Int) = st.length from rfl]
      generalize hv : (if a < 1000 then a else N (a - 1000)) = v
      have rv : rgI v := by
        rw [← hv]
        split
        · unfold rgI; omega
        · exact hN _
      obtain ⟨u, u1, u2, u3⟩ := nxt st.length v (v :: st) (false :: ts) ⟨xup_s, hs.same st (fun k hk => xup_k (by omega))⟩ ⟨fun q => (by cases q), rv, ht⟩ h2
      refine ⟨u, ?_, u2, u3⟩
      rw [← u1]
      rfl
    · cases st with
      | nil => exact ht.elim
      | cons x st =>
        obtain ⟨t1, t2, t3⟩ := ht
        have ev : evM N (3008 :: l) (x :: st) = evM N l ((1 - x) :: st) := rfl
        have el1 : ((x :: st).length : Int) = (st.length : Int) + 1 := by simp
        rw [el1, r_not_1 hx c0, ev, show Int.toNat ((st.length : Int) + 1 - 1) = st.length by omega]
        have vx : m 1 5 st.length = x := hs.1
        have rv : rgI (1 - x) := by
          unfold rgI
          rcases t1 rfl with rfl | rfl <;> decide
        rw [vx, isub_v rv]
        obtain ⟨u, u1, u2, u3⟩ := nxt st.length (1 - x) ((1 - x) :: st) (true :: r) ⟨xup_s, hs.2.same st (fun k hk => xup_k (by omega))⟩ ⟨(fun _ => by rcases t1 rfl with e | e <;> omega), rv, t3⟩ h2
        refine ⟨u, ?_, u2, u3⟩
        rw [← u1]
        have e1 : (((1 - x) :: st).length : Int) = (st.length : Int) + 1 := by simp
        have e2 : ((i + 1 : Nat) : Int) = (i : Int) + 1 := by omega
        rw [e1, e2]
    · cases st with
      | nil => exact ht.elim
      | cons yv st =>
        cases st with
        | nil => exact ht.2.2.elim
        | cons xv st =>
          obtain ⟨t1, t2, t3, t4, t5⟩ := ht
          have ev : evM N (a :: l) (yv :: xv :: st) = evM N l (jnM a xv yv :: st) := by
            show evM N l _ = _
            rw [if_neg (by omega), if_neg (by omega)]
          have el1 : ((yv :: xv :: st).length : Int) = (st.length : Int) + 2 := by simp; omega
          have k1 : Int.toNat ((st.length : Int) + 2 + (-1) - 1) = st.length := by omega
          have k2 : Int.toNat ((st.length : Int) + 2 + (-1)) = st.length + 1 := by omega
          have vx : m 1 5 st.length = xv := hs.2.1
          have vy : m 1 5 (st.length + 1) = yv := by have := hs.1; simpa using this
          have bt := btw_x (m := m) (x := xv) (y := yv) ⟨a0, a1⟩ t4 t2 (fun z => ⟨t3 (q2 z).2, t1 (q2 z).1⟩)
          rw [el1, r_join_1 hx c0 ⟨a0, a1⟩ (v := jnM a xv yv) (by rw [k1, k2, vx, vy]; exact bt), ev, k1]
          obtain ⟨j1, j2⟩ := jnM_r (x := xv) (y := yv) ⟨a0, a1⟩
          obtain ⟨u, u1, u2, u3⟩ := nxt st.length (jnM a xv yv) (jnM a xv yv :: st) (b :: r) ⟨xup_s, hs.2.2.same st (fun k hk => xup_k (by omega))⟩ ⟨fun z => j2 (q1 z), j1, t5⟩ h2
          refine ⟨u, ?_, u2, u3⟩
          rw [← u1]
          have e1 : ((jnM a xv yv :: st).length : Int) = (st.length : Int) + 2 + (-1) := by simp; omega
          have e2 : ((i + 1 : Nat) : Int) = (i : Int) + 1 := by omega
          rw [e1, e2]
