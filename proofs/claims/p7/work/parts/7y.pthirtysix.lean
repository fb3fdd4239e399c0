/-! what a left costs, whether one may turn: both -/
theorem trl_ln : ∀ l : List Int, (trl l).length ≤ 2 * l.length
  | [] => Nat.le_refl _
  | a :: l => by
    have e : trl (a :: l) = tc1 a ++ trl l := rfl
    have h := trl_ln l
    have h1 : (tc1 a).length ≤ 2 := by
      unfold tc1
      split
      · simp
      · split
        · decide
        · simp
    rw [e, List.length_append, List.length_cons]
    omega
/-! numbers of a law stay small -/
def TyB : List Bool → List Int → Prop
  | [], [] => True
  | b :: ts, x :: r => (b = true → x = 0 ∨ x = 1) ∧ (-1000000 ≤ x ∧ x ≤ 1000000) ∧ TyB ts r
  | _, _ => False
def stq (N : Int → Int) (a : Int) (st : List Int) : List Int := if a < 3000 then (if a < 1000 then a else N (a - 1000)) :: st else if a = 3008 then (match st with | x :: r => (1 - x) :: r | [] => []) else (match st with | y :: x :: r => jnM a x y :: r | q => q)
theorem jnM_b (a x y : Int) : (-1000000 ≤ jnM a x y ∧ jnM a x y ≤ 1000000) ∧ (3003 ≤ a → jnM a x y = 0 ∨ jnM a x y = 1) := by
  unfold jnM
  refine ⟨?_, fun k => ?_⟩ <;> (repeat' split) <;> first | exact clI_r _ | omega
theorem stB {N : Int → Int} (hN : ∀ k, 0 ≤ k → k ≤ 5 → -1000000 ≤ N k ∧ N k ≤ 1000000) {ts t2 : List Bool} {a : Int} {st : List Int} (h : TyB ts st) (q : tyf ts a = some t2) : TyB t2 (stq N a st) := by
  unfold tyf at q
  unfold stq
  by_cases c1 : a < 3000
  · rw [if_pos c1] at q ⊢
    by_cases c2 : 0 ≤ a ∧ a ≤ 1005
    · rw [if_pos c2] at q
      rw [← Option.some.inj q]
      refine ⟨(fun k => by cases k), ?_, h⟩
      by_cases c3 : a < 1000
      · rw [if_pos c3]; omega
      · rw [if_neg c3]; exact hN (a - 1000) (by omega) (by omega)
    · rw [if_neg c2] at q; cases q
  · rw [if_neg c1] at q ⊢
    by_cases c2 : a = 3008
    · rw [if_pos c2] at q ⊢
      cases ts with
      | nil => cases q
      | cons b r =>
        cases b with
        | false => cases q
        | true =>
          cases st with
          | nil => exact h.elim
          | cons x r' =>
            have e : (true :: r) = t2 := Option.some.inj q
            rw [← e]
            have h0 : x = 0 ∨ x = 1 := h.1 rfl
            have h1 : TyB r r' := h.2.2
            show (true = true → 1 - x = 0 ∨ 1 - x = 1) ∧ (-1000000 ≤ 1 - x ∧ 1 - x ≤ 1000000) ∧ TyB r r'
            exact ⟨fun _ => by omega, by omega, h1⟩
    · rw [if_neg c2] at q ⊢
      cases ts with
      | nil => cases q
      | cons x ts =>
        cases ts with
        | nil => cases q
        | cons y r =>
          cases st with
          | nil => exact h.elim
          | cons v st =>
            cases st with
            | nil => exact h.2.2.elim
            | cons v2 r' =>
              have h1 : TyB r r' := h.2.2.2.2
              obtain ⟨j1, j2⟩ := jnM_b a v2 v
              have q' : (if a ≤ 3002 then (if x = false ∧ y = false then some (false :: r) else none) else if a ≤ 3005 then (if x = false ∧ y = false then some (true :: r) else none) else if a ≤ 3007 ∧ x = true ∧ y = true then some (true :: r) else none) = some t2 := q
              show TyB t2 (jnM a v2 v :: r')
              by_cases d1 : a ≤ 3002
              · rw [if_pos d1] at q'
                split at q'
                · rw [← Option.some.inj q']
                  exact ⟨(fun k => by cases k), j1, h1⟩
                · cases q'
              · rw [if_neg d1] at q'
                split at q'
                · split at q'
                  · rw [← Option.some.inj q']
                    exact ⟨fun _ => j2 (by omega), j1, h1⟩
                  · cases q'
                · split at q'
                  · rw [← Option.some.inj q']
                    exact ⟨fun _ => j2 (by omega), j1, h1⟩
                  · cases q'
theorem evB {N : Int → Int} (hN : ∀ k, 0 ≤ k → k ≤ 5 → -1000000 ≤ N k ∧ N k ≤ 1000000) : ∀ (l : List Int) (ts ts' : List Bool) (st : List Int), TyB ts st → tyl l ts = some ts' → TyB ts' (evM N l st)
  | [], ts, ts', st, h, e => by
    have q : ts = ts' := Option.some.inj e
    rw [← q]
    exact h
  | a :: l, ts, ts', st, h, e => by
    have e1 : (tyf ts a).bind (tyl l) = some ts' := e
    cases q : tyf ts a with
    | none => rw [q] at e1; cases e1
    | some t2 =>
      rw [q] at e1
      have e2 : tyl l t2 = some ts' := e1
      show TyB ts' (evM N l (stq N a st))
      exact evB hN l t2 ts' _ (stB hN h q) e2
def FrLw (L : Nat) (u s : XS) : Prop := ∀ t c k, ¬ (t = 1 ∧ (c = L + 2 ∨ c = L + 3)) → u t c k = s t c k
theorem FrLw.rf {L : Nat} {s : XS} : FrLw L s s := fun _ _ _ _ => rfl
theorem val_c {s : XS} {L : Nat} {l : List Int} {b : Bool} {N : Int → Int} {x y hr sold hd : Int} (hCL : CL s L (trl l)) (hz : s 0 L 3 ≤ 900) (ht : tyl l [] = some [b]) (hh : hgm l 0 ≤ 20) (hN : ∀ k, rgI (N k)) (n0 : x = N 0) (n1 : y = N 1) (n2 : Xirem hr 24 = N 2) (n3 : Xidiv hr 24 = N 3) (n4 : sold = N 4) (n5 : hd = N 5) : ∃ u v, f_X4_value s L x y hr sold hd = (u, v) ∧ evM N l [] = [v] ∧ (b = true → v = 0 ∨ v = 1) ∧ rgI v ∧ FrLw L u s := by
  obtain ⟨k1, -, k3⟩ := hCL
  have e : f_X4_value s L x y hr sold hd = L7_X4_value (Int.toNat (900 - 0 + 1)) (xup (xup (xup (xup (xup (xup s 1 (L + 3) 0 x) 1 (L + 3) 1 y) 1 (L + 3) 2 (Xirem hr 24)) 1 (L + 3) 3 (Xidiv hr 24)) 1 (L + 3) 4 sold) 1 (L + 3) 5 hd) L 0 0 := rfl
  obtain ⟨s1, hs1⟩ : ∃ s1, s1 = xup (xup (xup (xup (xup (xup s 1 (L + 3) 0 x) 1 (L + 3) 1 y) 1 (L + 3) 2 (Xirem hr 24)) 1 (L + 3) 3 (Xidiv hr 24)) 1 (L + 3) 4 sold) 1 (L + 3) 5 hd := ⟨_, rfl⟩
  rw [← hs1] at e
  have o1 : ∀ t c k, ¬ (t = 1 ∧ c = L + 3) → s1 t c k = s t c k := fun t c k q => by
    rw [hs1]
    unfold xup
    rw [if_neg (fun z => q ⟨z.1, z.2.1⟩), if_neg (fun z => q ⟨z.1, z.2.1⟩), if_neg (fun z => q ⟨z.1, z.2.1⟩), if_neg (fun z => q ⟨z.1, z.2.1⟩), if_neg (fun z => q ⟨z.1, z.2.1⟩), if_neg (fun z => q ⟨z.1, z.2.1⟩)]
  have nm : ∀ j : Nat, j < 6 → s1 1 (L + 3) j = N (j : Int) := by
    intro j hj
    rw [hs1]
    rcases (show j = 0 ∨ j = 1 ∨ j = 2 ∨ j = 3 ∨ j = 4 ∨ j = 5 by omega) with rfl | rfl | rfl | rfl | rfl | rfl
    · rw [xup_k (by decide), xup_k (by decide), xup_k (by decide), xup_k (by decide), xup_k (by decide), xup_s]; exact n0
    · rw [xup_k (by decide), xup_k (by decide), xup_k (by decide), xup_k (by decide), xup_s]; exact n1
    · rw [xup_k (by decide), xup_k (by decide), xup_k (by decide), xup_s]; exact n2
    · rw [xup_k (by decide), xup_k (by decide), xup_s]; exact n3
    · rw [xup_k (by decide), xup_s]; exact n4
    · rw [xup_s]; exact n5
  obtain ⟨u, u1, u2, u3, u4⟩ := c_run (L := L) hN l (Int.toNat (900 - 0 + 1)) 0 s1 [] [] [b] (fun k hk => by rw [o1 _ _ _ (by omega), Nat.zero_add]; exact k3 k hk) (by rw [o1 _ _ _ (by omega), k1]; omega) trivial trivial ht (by show hgm l 0 ≤ 64; omega) nm (by rw [k1] at hz; show (trl l).length < 901; omega)
  have e1 : L7_X4_value (Int.toNat (900 - 0 + 1)) s1 L 0 0 = (u, u 1 (L + 2) 0) := u1
  refine ⟨u, u 1 (L + 2) 0, e.trans e1, ?_⟩
  cases hv : evM N l [] with
  | nil => rw [hv] at u3; exact u3.elim
  | cons v r =>
    cases r with
    | cons w r => rw [hv] at u3; exact u3.2.2.elim
    | nil =>
      rw [hv] at u2 u3
      have ev : u 1 (L + 2) 0 = v := u2.1
      rw [ev]
      exact ⟨rfl, u3.1, u3.2.1, fun t c k q => (u4 t c k (by omega)).trans (o1 t c k (by omega))⟩
theorem val_m0 {m : XS} {l : List Int} {b : Bool} {N : Int → Int} {c hr d : Int} (h8 : m 1 1 8 = (l.length : Int)) (h6 : 0 ≤ m 1 1 6) (h9 : l.length ≤ 900) (hk : ∀ k, k < l.length → m 1 1 (874 + (m 1 1 6).toNat + k) = l.getD k 0) (ht : tyl l [] = some [b]) (hN : ∀ k, rgI (N k)) (hw : ∀ j : Nat, j < 6 → (f_X12_wordOf m (j : Int) c hr d).2 = N (j : Int)) {v : Int} (hv : evM N l [] = [v]) (a1 : Int) : ∃ u, f_X12_reckons_0 m a1 c hr d = (u, v) ∧ FrV5 u m := by
  have e : f_X12_reckons_0 m a1 c hr d = L1_X12_reckons_0 (Int.toNat (900 - 0 + 1)) m c hr d 0 0 := rfl
  obtain ⟨u, u1, u2, u3⟩ := m_run_0 (c := c) (hr := hr) (d := d) hN l (Int.toNat (900 - 0 + 1)) 0 m [] [] [b] (fun k hk' => by rw [Nat.zero_add]; exact hk k hk') h6 (by rw [Nat.zero_add]; exact h8) trivial trivial ht hw (by show l.length < 901; omega)
  have e1 : L1_X12_reckons_0 (Int.toNat (900 - 0 + 1)) m c hr d 0 0 = (u, u 1 5 0) := u1
  rw [hv] at u2
  exact ⟨u, by rw [e, e1, show u 1 5 0 = v from u2.1], u3⟩
theorem val_m1 {m : XS} {l : List Int} {b : Bool} {N : Int → Int} {c hr d : Int} (h8 : m 1 1 9 = (l.length : Int)) (h6 : 0 ≤ m 1 1 7) (h9 : l.length ≤ 900) (hk : ∀ k, k < l.length → m 1 1 (874 + (m 1 1 7).toNat + k) = l.getD k 0) (ht : tyl l [] = some [b]) (hN : ∀ k, rgI (N k)) (hw : ∀ j : Nat, j < 6 → (f_X12_wordOf m (j : Int) c hr d).2 = N (j : Int)) {v : Int} (hv : evM N l [] = [v]) (a1 : Int) : ∃ u, f_X12_reckons_1 m a1 c hr d = (u, v) ∧ FrV5 u m := by
  have e : f_X12_reckons_1 m a1 c hr d = L1_X12_reckons_1 (Int.toNat (900 - 0 + 1)) m c hr d 0 0 := rfl
  obtain ⟨u, u1, u2, u3⟩ := m_run_1 (c := c) (hr := hr) (d := d) hN l (Int.toNat (900 - 0 + 1)) 0 m [] [] [b] (fun k hk' => by rw [Nat.zero_add]; exact hk k hk') h6 (by rw [Nat.zero_add]; exact h8) trivial trivial ht hw (by show l.length < 901; omega)
  have e1 : L1_X12_reckons_1 (Int.toNat (900 - 0 + 1)) m c hr d 0 0 = (u, u 1 5 0) := u1
  rw [hv] at u2
  exact ⟨u, by rw [e, e1, show u 1 5 0 = v from u2.1], u3⟩
/-- the names of a law, as the reference has them -/
def nmV (A : Nat → Int) (c hr d : Int) (k : Int) : Int := if k = 0 then c % A 1 else if k = 1 then c / A 1 else if k = 2 then Xirem (Xiadd (A 111) hr) 24 else if k = 3 then Xidiv (Xiadd (A 111) hr) 24 else if k = 4 then A (61 + c.toNat) else d
theorem word_x' (m : XS) (c hr d : Int) (hc : 0 ≤ c) : ∀ j : Nat, j < 6 → (f_X12_wordOf m (j : Int) c hr d).2 = nmV (m 1 1) c hr d (j : Int) := by
  intro j hj
  simp only [f_X12_wordOf, g1s_X12_wordOf, g2_X12_wordOf, g3_X12_wordOf, g4_X12_wordOf, g5_X12_wordOf, g6_X12_wordOf, g7_X12_wordOf, show Int.toNat 1 = 1 from rfl, show Int.toNat 111 = 111 from rfl, show Int.toNat (61 + c) = 61 + c.toNat by omega]
  unfold nmV
  rcases (show j = 0 ∨ j = 1 ∨ j = 2 ∨ j = 3 ∨ j = 4 ∨ j = 5 by omega) with rfl | rfl | rfl | rfl | rfl | rfl
  · rw [if_neg (by decide), if_pos (by decide), if_pos (by decide)]
  · rw [if_neg (by decide), if_neg (by decide), if_pos (by decide), if_neg (by decide), if_pos (by decide)]
  · rw [if_neg (by decide), if_neg (by decide), if_neg (by decide), if_pos (by decide), if_neg (by decide), if_neg (by decide), if_pos (by decide)]
  · rw [if_neg (by decide), if_neg (by decide), if_neg (by decide), if_neg (by decide), if_pos (by decide), if_neg (by decide), if_neg (by decide), if_neg (by decide), if_pos (by decide)]
  · rw [if_neg (by decide), if_neg (by decide), if_neg (by decide), if_neg (by decide), if_neg (by decide), if_pos (by decide), if_neg (by decide), if_neg (by decide), if_neg (by decide), if_neg (by decide), if_pos (by decide)]
  · rw [if_pos (by decide), if_neg (by decide), if_neg (by decide), if_neg (by decide), if_neg (by decide), if_neg (by decide)]
theorem nmV_r {A : Nat → Int} {c hr d : Int} (hc : rgI (c % A 1)) (hc2 : rgI (c / A 1)) (hs : rgI (A (61 + c.toNat))) (hd : rgI d) : ∀ k, rgI (nmV A c hr d k) := by
  intro k
  unfold nmV
  split
  · exact hc
  · split
    · exact hc2
    · split
      · exact rg_i _
      · split
        · exact rg_i _
        · split
          · exact hs
          · exact hd
/-- the price, in both: of a city that is laid -/
theorem cost_y {s m : XS} {w h : Nat} (L : Ld s (m 1 1) w h) (h873 : 0 ≤ m 1 1 873) (h900 : m 1 1 873 ≤ 900) (lx : Lx false 2 0 s (m 1 1)) (hz : s 0 2 3 ≤ 900) {c : Nat} (hc : c < w * h) (hs : rgI (m 1 1 (61 + c))) {hr d hC' : Int} (hd : rgI d) (hh : hC' = Xiadd (m 1 1 111) hr) {sold : Int} (hso : sold = m 1 1 (61 + c)) : ∃ u v v', f_X0_cost s 1 (c : Int) hC' sold d = (u, v) ∧ f_X12_priceOf m (c : Int) hr d = (v', v) ∧ 0 ≤ v ∧ v ≤ 2147483647 ∧ FrLw 2 u s ∧ FrV5 v' m ∧ ((∀ k, 0 ≤ k → k ≤ 5 → -1000000 ≤ nmV (m 1 1) (c : Int) hr d k ∧ nmV (m 1 1) (c : Int) hr d k ≤ 1000000) → v ≤ 1000000) := by
  have b25 := L.b25
  have w5 : s 0 1 5 = (w : Int) := L.2.1.1
  have a1 : m 1 1 1 = (w : Int) := L.2.1.2.2.1
  have w2 := L.1.1
  have w6 := L.1.2.1
  have ecc : f_X0_cost s 1 (c : Int) hC' sold d = if s 0 2 3 = 0 ∨ s 0 2 3 < 0 then (s, 1) else ((f_X4_value s 2 ((c : Int) % s 0 1 5) ((c : Int) / s 0 1 5) hC' sold d).1, max 0 (f_X4_value s 2 ((c : Int) % s 0 1 5) ((c : Int) / s 0 1 5) hC' sold d).2) := by
    simp only [f_X0_cost, g1b_X0_cost, g2_X0_cost, g3_X0_cost, g4c_X0_cost, g5b_X0_cost, g6_X0_cost, g7_X0_cost, g8c_X0_cost, f_X4_isTold, g1b_X4_isTold, g2_X4_isTold, g3_X4_isTold, show 1 + 1 = 2 from rfl]
    rw [if_pos (show 0 < s 0 1 5 by rw [w5]; omega)]
    by_cases z : 0 < s 0 2 3
    · rw [if_pos z, if_neg (show ¬ (1 : Int) = 0 by decide), if_neg (show ¬ (s 0 2 3 = 0 ∨ s 0 2 3 < 0) by omega)]
    · rw [if_neg z, if_pos rfl, if_pos (show s 0 2 3 = 0 ∨ s 0 2 3 < 0 by omega)]
  have emm : f_X12_priceOf m (c : Int) hr d = if m 1 1 4 = 0 then (m, 1) else (if (f_X12_reckons_0 m 0 (c : Int) hr d).2 < 0 then ((f_X12_reckons_0 m 0 (c : Int) hr d).1, 0) else ((f_X12_reckons_0 m 0 (c : Int) hr d).1, (f_X12_reckons_0 m 0 (c : Int) hr d).2)) := by
    simp only [f_X12_priceOf, g1b_X12_priceOf, g2_X12_priceOf, g3_X12_priceOf, g4c_X12_priceOf, g5b_X12_priceOf, g6_X12_priceOf, g7_X12_priceOf, show Int.toNat 4 = 4 from rfl]
  rw [ecc, emm]
  rcases lx with ⟨t0, t1⟩ | ⟨t0, l, ⟨ty, hg⟩, t2, t3, t4, t5, t6⟩
  · have t0 : m 1 1 4 = 0 := t0
    have t1 : s 0 2 3 = 0 := t1
    rw [if_pos (Or.inl t1), if_pos t0]
    exact ⟨s, 1, m, rfl, rfl, by decide, by decide, FrLw.rf, FrV5.rf, fun _ => by decide⟩
  · have t0 : m 1 1 4 = 1 := t0
    have t2 : m 1 1 8 = (l.length : Int) := t2
    have t3 : 0 ≤ m 1 1 6 := t3
    have t4 : m 1 1 6 + (l.length : Int) ≤ m 1 1 873 := t4
    have t5 : ∀ k, k < l.length → m 1 1 (874 + (m 1 1 6).toNat + k) = l.getD k 0 := t5
    have t6 : CL s 2 (trl l) := t6
    have z : ¬ (s 0 2 3 = 0 ∨ s 0 2 3 < 0) := by
      have z1 := t6.1
      have z2 : (trl l).length ≠ 0 := by
        cases l with
        | nil => cases ty
        | cons a l =>
          have e : trl (a :: l) = tc1 a ++ trl l := rfl
          have h1 : 1 ≤ (tc1 a).length := by
            unfold tc1
            split
            · simp
            · split
              · decide
              · simp
          rw [e, List.length_append]
          omega
      omega
    have hN : ∀ k, rgI (nmV (m 1 1) (c : Int) hr d k) := nmV_r (by rw [a1]; unfold rgI; have := Int.emod_nonneg (c : Int) (show (w : Int) ≠ 0 by omega); have := Int.emod_lt_of_pos (c : Int) (show (0 : Int) < w by omega); omega) (by rw [a1]; unfold rgI; have q1 := Int.ediv_nonneg (show (0 : Int) ≤ c by omega) (show (0 : Int) ≤ w by omega); have q2 := Int.ediv_le_self (w : Int) (show (0 : Int) ≤ c by omega); omega) (by rw [show ((c : Int)).toNat = c from rfl]; exact hs) hd
    obtain ⟨u, v, e1, e2, e3, e4, e5⟩ := val_c (N := nmV (m 1 1) (c : Int) hr d) (x := (c : Int) % s 0 1 5) (y := (c : Int) / s 0 1 5) (hr := hC') (sold := sold) (hd := d) t6 hz ty hg hN (by rw [w5]; unfold nmV; rw [if_pos rfl, a1]) (by rw [w5]; unfold nmV; rw [if_neg (by decide), if_pos rfl, a1]) (by rw [hh]; unfold nmV; rw [if_neg (by decide), if_neg (by decide), if_pos rfl]) (by rw [hh]; unfold nmV; rw [if_neg (by decide), if_neg (by decide), if_neg (by decide), if_pos rfl]) (by rw [hso]; unfold nmV; rw [if_neg (by decide), if_neg (by decide), if_neg (by decide), if_neg (by decide), if_pos rfl]; rfl) (by unfold nmV; rw [if_neg (by decide), if_neg (by decide), if_neg (by decide), if_neg (by decide), if_neg (by decide)])
    obtain ⟨v', g1, g2⟩ := val_m0 t2 t3 (by omega) t5 ty hN (word_x' m (c : Int) hr d (by omega)) e2 0
    rw [if_neg z, if_neg (show ¬ m 1 1 4 = 0 by omega), e1, g1]
    unfold rgI at e4
    have small : (∀ k, 0 ≤ k → k ≤ 5 → -1000000 ≤ nmV (m 1 1) (c : Int) hr d k ∧ nmV (m 1 1) (c : Int) hr d k ≤ 1000000) → max 0 v ≤ 1000000 := fun hb => by
      have q := evB hb l [] [false] [] trivial ty
      rw [e2] at q
      have q2 : -1000000 ≤ v ∧ v ≤ 1000000 := q.2.1
      omega
    refine ⟨u, max 0 v, v', rfl, ?_, by omega, by omega, e5, g2, small⟩
    show (if v < 0 then (v', (0 : Int)) else (v', v)) = (v', max 0 v)
    by_cases q : v < 0
    · rw [if_pos q, show max 0 v = 0 by omega]
    · rw [if_neg q, show max 0 v = v by omega]
theorem may_x {s m : XS} {w h : Nat} (L : Ld s (m 1 1) w h) (hC : Ci 1 s (m 1 1)) (hz : s 0 6 3 ≤ 900) {c : Nat} (hc : c < w * h) (hs : rgI (m 1 1 (61 + c))) {hr d hC' : Int} (hd : rgI d) (hh : hC' = Xiadd (m 1 1 111) hr) (hso : s 1 16 c = m 1 1 (61 + c)) : ∃ u v v', f_X0_allows s 1 (c : Int) hC' d = (u, v) ∧ f_X12_mayTurn m (c : Int) hr d = (v', v) ∧ (v = 0 ∨ v = 1) ∧ FrLw 6 u s ∧ FrV5 v' m := by
  have b25 := L.b25
  have w5 : s 0 1 5 = (w : Int) := L.2.1.1
  have a1 : m 1 1 1 = (w : Int) := L.2.1.2.2.1
  have w2 := L.1.1
  have w6 := L.1.2.1
  obtain ⟨-, -, -, -, h873, h900, -, lx⟩ := hC
  have ecc : f_X0_allows s 1 (c : Int) hC' d = if s 0 6 3 = 0 ∨ s 0 6 3 < 0 then (s, 1) else (if (f_X4_value s 6 ((c : Int) % s 0 1 5) ((c : Int) / s 0 1 5) hC' (s 1 16 c) d).2 = 0 then ((f_X4_value s 6 ((c : Int) % s 0 1 5) ((c : Int) / s 0 1 5) hC' (s 1 16 c) d).1, 0) else ((f_X4_value s 6 ((c : Int) % s 0 1 5) ((c : Int) / s 0 1 5) hC' (s 1 16 c) d).1, 1)) := by
    simp only [f_X0_allows, g1b_X0_allows, g2_X0_allows, g3_X0_allows, g4c_X0_allows, g5b_X0_allows, g6_X0_allows, g7_X0_allows, g8c_X0_allows, g9b_X0_allows, g10_X0_allows, g11_X0_allows, f_X4_isTold, g1b_X4_isTold, g2_X4_isTold, g3_X4_isTold, show 1 + 5 = 6 from rfl, show 1 + 9 + 6 = 16 from rfl, show Int.toNat (c : Int) = c from rfl]
    rw [if_pos (show 0 < s 0 1 5 by rw [w5]; omega)]
    by_cases z : 0 < s 0 6 3
    · rw [if_pos z, if_neg (show ¬ (1 : Int) = 0 by decide), if_neg (show ¬ (s 0 6 3 = 0 ∨ s 0 6 3 < 0) by omega)]
    · rw [if_neg z, if_pos rfl, if_pos (show s 0 6 3 = 0 ∨ s 0 6 3 < 0 by omega)]
  have emm : f_X12_mayTurn m (c : Int) hr d = if m 1 1 5 = 0 then (m, 1) else (if (f_X12_reckons_1 m 1 (c : Int) hr d).2 = 1 then ((f_X12_reckons_1 m 1 (c : Int) hr d).1, 1) else ((f_X12_reckons_1 m 1 (c : Int) hr d).1, 0)) := by
    simp only [f_X12_mayTurn, g1b_X12_mayTurn, g2_X12_mayTurn, g3_X12_mayTurn, g4c_X12_mayTurn, g5b_X12_mayTurn, g6_X12_mayTurn, g7_X12_mayTurn, show Int.toNat 5 = 5 from rfl]
  rw [ecc, emm]
  rcases lx with ⟨t0, t1⟩ | ⟨t0, l, ⟨ty, hg⟩, t2, t3, t4, t5, t6⟩
  · have t0 : m 1 1 5 = 0 := t0
    have t1 : s 0 6 3 = 0 := t1
    rw [if_pos (Or.inl t1), if_pos t0]
    exact ⟨s, 1, m, rfl, rfl, Or.inr rfl, FrLw.rf, FrV5.rf⟩
  · have t0 : m 1 1 5 = 1 := t0
    have t2 : m 1 1 9 = (l.length : Int) := t2
    have t3 : 0 ≤ m 1 1 7 := t3
    have t4 : m 1 1 7 + (l.length : Int) ≤ m 1 1 873 := t4
    have t5 : ∀ k, k < l.length → m 1 1 (874 + (m 1 1 7).toNat + k) = l.getD k 0 := t5
    have t6 : CL s 6 (trl l) := t6
    have z : ¬ (s 0 6 3 = 0 ∨ s 0 6 3 < 0) := by
      have z1 := t6.1
      have z2 : (trl l).length ≠ 0 := by
        cases l with
        | nil => cases ty
        | cons a l =>
          have e : trl (a :: l) = tc1 a ++ trl l := rfl
          have h1 : 1 ≤ (tc1 a).length := by
            unfold tc1
            split
            · simp
            · split
              · decide
              · simp
          rw [e, List.length_append]
          omega
      omega
    have hN : ∀ k, rgI (nmV (m 1 1) (c : Int) hr d k) := nmV_r (by rw [a1]; unfold rgI; have := Int.emod_nonneg (c : Int) (show (w : Int) ≠ 0 by omega); have := Int.emod_lt_of_pos (c : Int) (show (0 : Int) < w by omega); omega) (by rw [a1]; unfold rgI; have q1 := Int.ediv_nonneg (show (0 : Int) ≤ c by omega) (show (0 : Int) ≤ w by omega); have q2 := Int.ediv_le_self (w : Int) (show (0 : Int) ≤ c by omega); omega) (by rw [show ((c : Int)).toNat = c from rfl]; exact hs) hd
    obtain ⟨u, v, e1, e2, e3, e4, e5⟩ := val_c (N := nmV (m 1 1) (c : Int) hr d) (x := (c : Int) % s 0 1 5) (y := (c : Int) / s 0 1 5) (hr := hC') (sold := s 1 16 c) (hd := d) t6 hz ty hg hN (by rw [w5]; unfold nmV; rw [if_pos rfl, a1]) (by rw [w5]; unfold nmV; rw [if_neg (by decide), if_pos rfl, a1]) (by rw [hh]; unfold nmV; rw [if_neg (by decide), if_neg (by decide), if_pos rfl]) (by rw [hh]; unfold nmV; rw [if_neg (by decide), if_neg (by decide), if_neg (by decide), if_pos rfl]) (by rw [hso]; unfold nmV; rw [if_neg (by decide), if_neg (by decide), if_neg (by decide), if_neg (by decide), if_pos rfl]; rfl) (by unfold nmV; rw [if_neg (by decide), if_neg (by decide), if_neg (by decide), if_neg (by decide), if_neg (by decide)])
    obtain ⟨v', g1, g2⟩ := val_m1 t2 t3 (by omega) t5 ty hN (word_x' m (c : Int) hr d (by omega)) e2 1
    rw [if_neg z, if_neg (show ¬ m 1 1 5 = 0 by omega), e1, g1]
    rcases e3 rfl with rfl | rfl
    · exact ⟨u, 0, v', rfl, rfl, Or.inl rfl, e5, g2⟩
    · exact ⟨u, 1, v', rfl, rfl, Or.inr rfl, e5, g2⟩
/-! free now -/
theorem fb_l {s : XS} {b : Nat} {hr : Int} : ∀ (n : Nat) (r x : Int), 0 ≤ x → x ≤ 25 → 25 - x < (n : Int) → (L1_X0_freeBits n s b hr r x).1 = s ∧ (∀ k, k < 32 → (bz (L1_X0_freeBits n s b hr r x).2 k = true ↔ (bz r k = true ∨ (x ≤ (k : Int) ∧ k < 25 ∧ hr < s 1 (b + 9 + 7) k)))) ∧ (rgI r → rgI (L1_X0_freeBits n s b hr r x).2)
  | 0, r, x, h0, h1, hn => by omega
  | n + 1, r, x, h0, h1, hn => by
    have e : L1_X0_freeBits (n + 1) s b hr r x = if x < 25 then L1_X0_freeBits n s b hr (if hr < s 1 (b + 9 + 7) (Int.toNat x) then Xior r (Xishl 1 x) else r) (x + 1) else (s, r) := by
      show g2l_X0_freeBits (L1_X0_freeBits n) s b hr r x = _
      simp only [g2l_X0_freeBits, g3b_X0_freeBits, g4_X0_freeBits, g5_X0_freeBits, g6b_X0_freeBits, g7_X0_freeBits, g8_X0_freeBits]
      by_cases z : x < 25
      · rw [if_pos z, if_pos z]
        split <;> rfl
      · rw [if_neg z, if_neg z]
    rw [e]
    by_cases z : x < 25
    · rw [if_pos z]
      obtain ⟨i1, i2, i3⟩ := fb_l (s := s) (b := b) (hr := hr) n (if hr < s 1 (b + 9 + 7) (Int.toNat x) then Xior r (Xishl 1 x) else r) (x + 1) (by omega) (by omega) (by omega)
      refine ⟨i1, fun k hk => ?_, fun q => i3 ?_⟩
      · rw [i2 k hk]
        have ex : x = ((x.toNat : Nat) : Int) := by omega
        by_cases y : hr < s 1 (b + 9 + 7) (Int.toNat x)
        · rw [if_pos y, bz_ior, Bool.or_eq_true, ex, bz_one (by omega) hk, decide_eq_true_eq]
          constructor
          · rintro ((q | q) | ⟨q1, q2, q3⟩)
            · exact Or.inl q
            · refine Or.inr ⟨by omega, by omega, ?_⟩
              rw [q]; exact y
            · exact Or.inr ⟨by omega, q2, q3⟩
          · rintro (q | ⟨q1, q2, q3⟩)
            · exact Or.inl (Or.inl q)
            · by_cases c : k = x.toNat
              · exact Or.inl (Or.inr c)
              · exact Or.inr ⟨by omega, q2, q3⟩
        · rw [if_neg y]
          constructor
          · rintro (q | ⟨q1, q2, q3⟩)
            · exact Or.inl q
            · exact Or.inr ⟨by omega, q2, q3⟩
          · rintro (q | ⟨q1, q2, q3⟩)
            · exact Or.inl q
            · refine Or.inr ⟨?_, q2, q3⟩
              by_cases c : (k : Int) = x
              · exfalso
                apply y
                rw [show Int.toNat x = k by omega]
                exact q3
              · omega
      · split
        · exact rg_i _
        · exact q
    · rw [if_neg z]
      refine ⟨rfl, fun k hk => ⟨Or.inl, fun q => q.elim id (fun y => by omega)⟩, id⟩
theorem free_x (s : XS) (b : Nat) (hr : Int) : (f_X0_freeBits s b hr).1 = s ∧ (∀ k, k < 32 → (bz (f_X0_freeBits s b hr).2 k = true ↔ (bz (s 0 b 8) k = true ∨ (k < 25 ∧ hr < s 1 (b + 9 + 7) k)))) ∧ (rgI (s 0 b 8) → rgI (f_X0_freeBits s b hr).2) := by
  have e : f_X0_freeBits s b hr = L1_X0_freeBits (Int.toNat (25 - 0 + 1)) s b hr (s 0 b 8) 0 := rfl
  obtain ⟨i1, i2, i3⟩ := fb_l (s := s) (b := b) (hr := hr) (Int.toNat (25 - 0 + 1)) (s 0 b 8) 0 (by decide) (by decide) (by decide)
  rw [e]
  refine ⟨i1, fun k hk => (i2 k hk).trans ⟨fun q => q.elim Or.inl (fun y => Or.inr y.2), fun q => q.elim Or.inl (fun y => Or.inr ⟨by omega, y⟩)⟩, i3⟩
theorem isin25 (m : XS) {v : Int} (hv : rgI v) {c : Nat} (hc : c < 25) : f_X12_isIn m v (c : Int) = (m, if bz v c = true then 1 else 0) := by
  have e : ∀ v : Int, rgI v → (Xcmp (Xland (Xlshr v (c : Int)) 1) 1 = 0 ↔ bz v c = true) := by
    intro v hv
    unfold rgI at hv
    have ev : (Int64.ofInt v).toBitVec = (BitVec.ofInt 64 v) := rfl
    have el : Xland (Xlshr v (c : Int)) 1 = if bz v c = true then 1 else 0 := by
      unfold Xland Xlshr bz
      rw [Int64.ofInt_toInt]
      have k1 : (Int64.ofInt v >>> ((Int32.ofInt (c : Int)).toInt64 &&& 63)).toBitVec = (BitVec.ofInt 64 v).sshiftRight c := by
        have t : ∀ c : Nat, c < 25 → (((Int32.ofInt (c : Int)).toInt64 &&& 63).toBitVec.smod 64).toNat = c := by decide +kernel
        show BitVec.sshiftRight' (BitVec.ofInt 64 v) (((Int32.ofInt (c : Int)).toInt64 &&& 63).toBitVec.smod 64) = _
        rw [BitVec.sshiftRight', t c hc]
      have k2 : ((Int64.ofInt v >>> ((Int32.ofInt (c : Int)).toInt64 &&& 63)) &&& Int64.ofInt 1).toBitVec = (BitVec.ofInt 64 v).sshiftRight c &&& 1#64 := by
        have h1 : ((Int64.ofInt v >>> ((Int32.ofInt (c : Int)).toInt64 &&& 63)) &&& Int64.ofInt 1).toBitVec = (Int64.ofInt v >>> ((Int32.ofInt (c : Int)).toInt64 &&& 63)).toBitVec &&& (Int64.ofInt 1).toBitVec := rfl
        rw [h1, k1]
        rfl
      have k3 : (BitVec.ofInt 64 v).getLsbD c = (BitVec.ofInt 32 v).getLsbD c := by
        show ((BitVec.ofInt 64 v).toNat).testBit c = ((BitVec.ofInt 32 v).toNat).testBit c
        rw [BitVec.toNat_ofInt, BitVec.toNat_ofInt]
        have e : (v % ((2 ^ 32 : Nat) : Int)).toNat = (v % ((2 ^ 64 : Nat) : Int)).toNat % 2 ^ 32 := by omega
        rw [e, Nat.testBit_mod_two_pow]
        simp [show c < 32 by omega]
      have k4 : (Int32.ofInt v).toBitVec.getLsbD c = (BitVec.ofInt 64 v).getLsbD c := by
        rw [k3]; rfl
      have k5 : (BitVec.ofInt 64 v).sshiftRight c &&& 1#64 = if (BitVec.ofInt 64 v).getLsbD c = true then 1#64 else 0#64 := by
        apply BitVec.eq_of_getLsbD_eq
        intro i hi
        rw [BitVec.getLsbD_and, BitVec.getLsbD_sshiftRight]
        by_cases i0 : i = 0
        · subst i0
          have q1 : ¬ 64 ≤ 0 := by omega
          have q2 : c + 0 < 64 := by omega
          simp only [q1, decide_false, Bool.not_false, Bool.true_and, if_pos q2, Nat.add_zero]
          by_cases y : (BitVec.ofInt 64 v).getLsbD c = true
          · rw [if_pos y, y, if_pos (show c < 64 by omega)]; rfl
          · rw [if_neg y]
            simp at y
            rw [y, if_pos (show c < 64 by omega)]; rfl
        · have q : (1#64).getLsbD i = false := by rw [BitVec.getLsbD_one]; simp [i0]
          rw [q, Bool.and_false]
          split
          · exact q.symm
          · exact BitVec.getLsbD_zero.symm
      show ((Int64.ofInt v >>> ((Int32.ofInt (c : Int)).toInt64 &&& 63)) &&& Int64.ofInt 1).toBitVec.toInt = _
      rw [k2, k5, k4]
      split <;> decide
    rw [el]
    by_cases q : bz v c = true
    · rw [if_pos q]; exact ⟨fun _ => q, fun _ => by decide⟩
    · rw [if_neg q]; exact ⟨fun z => absurd z (by decide), fun z => absurd z q⟩
  simp only [f_X12_isIn, g1b_X12_isIn, g2_X12_isIn, g3_X12_isIn]
  by_cases q : bz v c = true
  · rw [if_pos ((e v hv).mpr q), if_pos q]
  · rw [if_neg (fun z => q ((e v hv).mp z)), if_neg q]
theorem cost_x {s m : XS} {w h : Nat} (L : Ld s (m 1 1) w h) (hC : Ci 1 s (m 1 1)) (hz : s 0 2 3 ≤ 900) {c : Nat} (hc : c < w * h) (hs : rgI (m 1 1 (61 + c))) {hr d hC' : Int} (hd : rgI d) (hh : hC' = Xiadd (m 1 1 111) hr) {sold : Int} (hso : sold = m 1 1 (61 + c)) : ∃ u v v', f_X0_cost s 1 (c : Int) hC' sold d = (u, v) ∧ f_X12_priceOf m (c : Int) hr d = (v', v) ∧ 0 ≤ v ∧ v ≤ 2147483647 ∧ FrLw 2 u s ∧ FrV5 v' m ∧ ((∀ k, 0 ≤ k → k ≤ 5 → -1000000 ≤ nmV (m 1 1) (c : Int) hr d k ∧ nmV (m 1 1) (c : Int) hr d k ≤ 1000000) → v ≤ 1000000) := by
  obtain ⟨-, -, -, -, h873, h900, lx, -⟩ := hC
  exact cost_y L h873 h900 lx hz hc hs hd hh hso
/-- free in so many hours, in both -/
def frQ (A : Nat → Int) (c : Nat) (hr : Int) : Prop := bz (A 10) c = true ∨ A 111 + hr < A (86 + c)
theorem freeM_x {m : XS} {c : Nat} {hr : Int} (hc : c < 25) (h10 : rgI (m 1 1 10)) (hh : rgI (m 1 1 111 + hr)) : f_X12_isFreeIn m (c : Int) hr = (m, @ite Int (frQ (m 1 1) c hr) (Classical.propDecidable _) 1 0) := by
  have i := isin25 m h10 hc
  simp only [f_X12_isFreeIn, g1c_X12_isFreeIn, g2b_X12_isFreeIn, g3_X12_isFreeIn, g4_X12_isFreeIn, g5b_X12_isFreeIn, g6_X12_isFreeIn, g7_X12_isFreeIn, show Int.toNat 10 = 10 from rfl, show Int.toNat 111 = 111 from rfl, show Int.toNat (86 + (c : Int)) = 86 + c by omega, i, iadd_v hh]
  unfold frQ
  by_cases z : bz (m 1 1 10) c = true
  · rw [if_pos z, if_neg (show ¬ (1 : Int) = 0 by decide), if_pos (Or.inl z)]
  · rw [if_neg z, if_pos rfl]
    by_cases y : m 1 1 111 + hr < m 1 1 (86 + c)
    · rw [if_pos y, if_pos (Or.inr y)]
    · rw [if_neg y, if_neg (fun q => q.elim z y)]
