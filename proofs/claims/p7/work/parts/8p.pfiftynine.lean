/-! the first hour and direction for which a law says the same -/
theorem nmf_bz (v a : Int) {j : Nat} (hj : j < 6) : bz (nmf v a) j = true ↔ (bz v j = true ∨ a = 1000 + (j : Int)) := by
  unfold nmf
  by_cases z : 1000 ≤ a ∧ a ≤ 1005
  · rw [if_pos z, bz_ior, Bool.or_eq_true]
    have e : a - 1000 = (((a - 1000).toNat : Nat) : Int) := by omega
    rw [e, bz_one (by omega) (by omega), decide_eq_true_eq]
    constructor
    · rintro (q | q)
      · exact Or.inl q
      · exact Or.inr (by omega)
    · rintro (q | q)
      · exact Or.inl q
      · exact Or.inr (by omega)
  · rw [if_neg z]
    exact ⟨Or.inl, fun q => q.elim id (fun y => by omega)⟩
theorem nms_bz {j : Nat} (hj : j < 6) : ∀ (l : List Int) (v : Int), bz (l.foldl nmf v) j = true ↔ (bz v j = true ∨ (1000 + (j : Int)) ∈ l)
  | [], v => by simp
  | a :: l, v => by
    show bz (l.foldl nmf (nmf v a)) j = true ↔ _
    rw [nms_bz hj l (nmf v a), nmf_bz v a hj]
    simp only [List.mem_cons]
    constructor
    · rintro ((q | q) | q)
      · exact Or.inl q
      · exact Or.inr (Or.inl q.symm)
      · exact Or.inr (Or.inr q)
    · rintro (q | q | q)
      · exact Or.inl (Or.inl q)
      · exact Or.inl (Or.inr q.symm)
      · exact Or.inr q
theorem mem_trl {a : Int} (h : a < 3000) : ∀ l : List Int, a ∈ l → a ∈ trl l
  | [], h' => by cases h'
  | b :: l, h' => by
    have e : trl (b :: l) = tc1 b ++ trl l := rfl
    rw [e, List.mem_append]
    rcases List.mem_cons.mp h' with q | q
    · subst q
      refine Or.inl ?_
      unfold tc1
      rw [if_pos h]
      simp
    · exact Or.inr (mem_trl h l q)
theorem nms_in {l : List Int} {j : Nat} (hj : j < 6) (h : (1000 + (j : Int)) ∈ l) : bz (nms (trl l)) j = true := (nms_bz hj (trl l) 0).mpr (Or.inr (mem_trl (by omega) l h))
theorem tyl_in : ∀ (l : List Int) (ts ts' : List Bool), tyl l ts = some ts' → ∀ a, a ∈ l → a < 3000 → a ≤ 1005
  | [], ts, ts', _, a, h, _ => by cases h
  | b :: l, ts, ts', e, a, h, h3 => by
    have e1 : (tyf ts b).bind (tyl l) = some ts' := e
    cases q : tyf ts b with
    | none => rw [q] at e1; cases e1
    | some t2 =>
      rw [q] at e1
      have e2 : tyl l t2 = some ts' := e1
      rcases List.mem_cons.mp h with y | y
      · subst y
        unfold tyf at q
        rw [if_pos h3] at q
        by_cases z : 0 ≤ a ∧ a ≤ 1005
        · exact z.2
        · rw [if_neg z] at q; cases q
      · exact tyl_in l t2 ts' e2 a y h3
theorem asks_x (s : XS) (L : Nat) {j : Nat} (hj : j < 6) : f_X4_asks s L (1000 + (j : Int)) = (s, if bz (s 0 L 4) j = true then 1 else 0) := by
  have e : Xisub (1000 + (j : Int)) 1000 = (j : Int) := by rw [isub_v (by unfold rgI; omega)]; omega
  have t := bz_tst (v := s 0 L 4) (c := j) (by omega)
  have e0 : f_X4_asks s L (1000 + (j : Int)) = if Xiand (Xishr (s 0 L 4) (Xisub (1000 + (j : Int)) 1000)) 1 = 0 then (s, 0) else (s, 1) := rfl
  rw [e0, e, t]
  by_cases z : bz (s 0 L 4) j = true
  · rw [if_pos z, if_neg (by decide)]
  · rw [if_neg z, if_pos rfl]
theorem fln_x (s : XS) (L : Nat) (t : Int) : f_X4_firstLikeN s L t = (s, if bz (s 0 L 4) 3 = true then t else if bz (s 0 L 4) 2 = true then t % 24 else 0) := by
  have a3 : f_X4_asks s L 1003 = (s, if bz (s 0 L 4) 3 = true then 1 else 0) := asks_x s L (j := 3) (by decide)
  have a2 : f_X4_asks s L 1002 = (s, if bz (s 0 L 4) 2 = true then 1 else 0) := asks_x s L (j := 2) (by decide)
  simp only [f_X4_firstLikeN, g1c_X4_firstLikeN, g2b_X4_firstLikeN, g3_X4_firstLikeN, g4_X4_firstLikeN, g5c_X4_firstLikeN, g6b_X4_firstLikeN, g7_X4_firstLikeN, g8_X4_firstLikeN, a3, a2]
  by_cases z3 : bz (s 0 L 4) 3 = true
  · rw [if_pos z3, if_neg (by decide), if_pos z3]
  · rw [if_neg z3, if_pos rfl, if_neg z3]
    by_cases z2 : bz (s 0 L 4) 2 = true
    · rw [if_pos z2, if_neg (by decide), if_pos z2]
    · rw [if_neg z2, if_pos rfl, if_neg z2]
theorem fhl_x (s : XS) (L : Nat) (d : Int) : f_X4_firstHeadLike s L d = (s, if bz (s 0 L 4) 5 = true then d else 0) := by
  have a5 : f_X4_asks s L 1005 = (s, if bz (s 0 L 4) 5 = true then 1 else 0) := asks_x s L (j := 5) (by decide)
  simp only [f_X4_firstHeadLike, g1c_X4_firstHeadLike, g2b_X4_firstHeadLike, g3_X4_firstHeadLike, g4_X4_firstHeadLike, a5]
  by_cases z : bz (s 0 L 4) 5 = true
  · rw [if_pos z, if_neg (by decide), if_pos z]
  · rw [if_neg z, if_pos rfl, if_neg z]
theorem nmV_i (A : Nat → Int) (c hr d : Int) : nmV A c hr d 0 = c % A 1 ∧ nmV A c hr d 1 = c / A 1 ∧ nmV A c hr d 2 = Xirem (Xiadd (A 111) hr) 24 ∧ nmV A c hr d 3 = Xidiv (Xiadd (A 111) hr) 24 ∧ nmV A c hr d 4 = A (61 + c.toNat) ∧ nmV A c hr d 5 = d := by
  unfold nmV
  refine ⟨if_pos rfl, ?_, ?_, ?_, ?_, ?_⟩
  · rw [if_neg (by decide), if_pos rfl]
  · rw [if_neg (by decide), if_neg (by decide), if_pos rfl]
  · rw [if_neg (by decide), if_neg (by decide), if_neg (by decide), if_pos rfl]
  · rw [if_neg (by decide), if_neg (by decide), if_neg (by decide), if_neg (by decide), if_pos rfl]
  · rw [if_neg (by decide), if_neg (by decide), if_neg (by decide), if_neg (by decide), if_neg (by decide)]
theorem like_q {B : Int} {w h : Nat} {s m : XS} (H : CS B w h s m) (z : 0 < s 0 6 3) {t d : Nat} (ht : t < 240) (hd : d < 4) : ∃ T D : Nat, T ≤ t ∧ D < 4 ∧ f_X4_firstLikeN s 6 (t : Int) = (s, (T : Int)) ∧ f_X4_firstHeadLike s 6 (d : Int) = (s, (D : Int)) ∧ ∀ c : Nat, mayQ (m 1 1) c (t : Int) (d : Int) ↔ mayQ (m 1 1) c (T : Int) (D : Int) := by
  have hB := H.bd.2.2.2.2
  have h111 := H.bd.2.2.2.1
  obtain ⟨-, ⟨-, -, -, -, -, -, -, lx⟩, -⟩ := H
  rcases lx with ⟨-, t1⟩ | ⟨t0, l, ⟨ty, -⟩, t2, -, -, t5, t6⟩
  · have t1 : s 0 6 3 = 0 := t1
    omega
  · have t0 : m 1 1 5 = 1 := t0
    have t2 : m 1 1 9 = (l.length : Int) := t2
    have t5 : ∀ k, k < l.length → m 1 1 (874 + (m 1 1 7).toNat + k) = l.getD k 0 := t5
    have t6 : CL s 6 (trl l) := t6
    have nm : s 0 6 4 = nms (trl l) := t6.2.1
    obtain ⟨T, hT⟩ : ∃ T : Nat, (T : Int) = (if bz (s 0 6 4) 3 = true then (t : Int) else if bz (s 0 6 4) 2 = true then (t : Int) % 24 else 0) := by
      split
      · exact ⟨t, rfl⟩
      · split
        · exact ⟨t % 24, by omega⟩
        · exact ⟨0, rfl⟩
    obtain ⟨D, hD⟩ : ∃ D : Nat, (D : Int) = (if bz (s 0 6 4) 5 = true then (d : Int) else 0) := by
      split
      · exact ⟨d, rfl⟩
      · exact ⟨0, rfl⟩
    have Tt : T ≤ t := by
      split at hT
      · omega
      · split at hT <;> omega
    have Dd : D < 4 := by split at hD <;> omega
    refine ⟨T, D, Tt, Dd, by rw [fln_x, ← hT], by rw [fhl_x, ← hD], fun c => ?_⟩
    have ev : evM (nmV (m 1 1) (c : Int) (t : Int) (d : Int)) l [] = evM (nmV (m 1 1) (c : Int) (T : Int) (D : Int)) l [] := by
      refine ev_same l [] (fun a ha h1 h3 => ?_)
      have a5 := tyl_in l [] [true] ty a ha h3
      obtain ⟨n0, n1, n2, n3, n4, n5⟩ := nmV_i (m 1 1) (c : Int) (t : Int) (d : Int)
      obtain ⟨k0, k1, k2, k3, k4, k5⟩ := nmV_i (m 1 1) (c : Int) (T : Int) (D : Int)
      rcases (show a = 1000 ∨ a = 1001 ∨ a = 1002 ∨ a = 1003 ∨ a = 1004 ∨ a = 1005 by omega) with rfl | rfl | rfl | rfl | rfl | rfl
      · rw [show (1000 : Int) - 1000 = 0 from by decide, n0, k0]
      · rw [show (1001 : Int) - 1000 = 1 from by decide, n1, k1]
      · have b2 := nms_in (j := 2) (by decide) ha
        rw [← nm] at b2
        have eT : (m 1 1 111 + (t : Int)) % 24 = (m 1 1 111 + (T : Int)) % 24 := by
          by_cases b3 : bz (s 0 6 4) 3 = true
          · rw [if_pos b3] at hT
            rw [hT]
          · rw [if_neg b3, if_pos b2] at hT
            omega
        rw [show (1002 : Int) - 1000 = 2 from by decide, n2, k2, iadd_v (show rgI (m 1 1 111 + (t : Int)) by unfold rgI; omega), iadd_v (show rgI (m 1 1 111 + (T : Int)) by unfold rgI; omega), irem24 (by omega), irem24 (by omega), eT]
      · have b3 := nms_in (j := 3) (by decide) ha
        rw [← nm] at b3
        rw [if_pos b3] at hT
        rw [show (1003 : Int) - 1000 = 3 from by decide, n3, k3, hT]
      · rw [show (1004 : Int) - 1000 = 4 from by decide, n4, k4]
      · have b5 := nms_in (j := 5) (by decide) ha
        rw [← nm] at b5
        rw [if_pos b5] at hD
        rw [show (1005 : Int) - 1000 = 5 from by decide, n5, k5, hD]
    unfold mayQ
    constructor
    · rintro (q | ⟨l', q1, q2⟩)
      · exact Or.inl q
      · have el : l' = l := q1.uq ⟨t2, t5⟩
        subst el
        exact Or.inr ⟨l', q1, by rw [← ev]; exact q2⟩
    · rintro (q | ⟨l', q1, q2⟩)
      · exact Or.inl q
      · have el : l' = l := q1.uq ⟨t2, t5⟩
        subst el
        exact Or.inr ⟨l', q1, by rw [ev]; exact q2⟩
/-! what is forecast -/
def FV (N : Nat) (s : XS) (A : Nat → Int) : Prop := ∃ n : Nat, s 0 79 4 = (n : Int) ∧ n ≤ 240 ∧ (∀ t, t < n → ∀ k, k < 32 → (bz (s 1 80 t) k = true ↔ (bz (A 10) k = true ∨ (k < 25 ∧ A 111 + (t : Int) < A (86 + k))))) ∧ ∀ t d, t < n → d < 4 → ∀ c, c < 32 → (bz (s 1 82 (4 * t + d)) c = true → bz (s 1 81 (4 * t + d)) c = true) ∧ (bz (s 1 81 (4 * t + d)) c = true → c < N ∧ (bz (s 1 82 (4 * t + d)) c = true ↔ mayQ A c (t : Int) (d : Int)))
/-- places that only what is forecast and a law's look write -/
def FrF (u s : XS) : Prop := ∀ t c k, ¬ (t = 1 ∧ (c = 8 ∨ c = 9 ∨ c = 80 ∨ c = 81 ∨ c = 82)) → ¬ (t = 0 ∧ c = 79 ∧ k = 4) → u t c k = s t c k
theorem FrF.rf {s : XS} : FrF s s := fun _ _ _ _ _ => rfl
theorem FrF.tr {a b c : XS} (h : FrF a b) (g : FrF b c) : FrF a c := fun t c' k q1 q2 => (h t c' k q1 q2).trans (g t c' k q1 q2)
theorem FrF.cs {B : Int} {w h : Nat} {s m u : XS} (F : FrF u s) (H : CS B w h s m) : CS B w h u m := by
  obtain ⟨c1, c2, c3, c4, c5, c6, c7⟩ := H
  refine ⟨c1.fr (F _ _ _ (by omega) (by omega)) (F _ _ _ (by omega) (by omega)) (funext fun k => F _ _ _ (by omega) (by omega)) (funext fun k => F _ _ _ (by omega) (by omega)), c2.sameV (fun t c k _ _ q => F t c k (by omega) (by omega)), ?_, ?_, c5, c6, c7⟩
  · rw [F _ _ _ (by omega) (by omega)]; exact c3
  · rw [F _ _ _ (by omega) (by omega)]; exact c4
theorem FV.lk {N : Nat} {s u : XS} {A : Nat → Int} (h : FV N s A) (F : FrLw 6 u s) : FV N u A := by
  obtain ⟨n, h1, h2, h3, h4⟩ := h
  refine ⟨n, by rw [F _ _ _ (by omega)]; exact h1, h2, fun t ht k hk => ?_, fun t d ht hd c hc => ?_⟩
  · rw [F 1 80 t (by omega)]; exact h3 t ht k hk
  · rw [F 1 81 (4 * t + d) (by omega), F 1 82 (4 * t + d) (by omega)]; exact h4 t d ht hd c hc
/-- one hour more is begun -/
theorem bu_1 {B : Int} {w h : Nat} {s m : XS} (H : CS B w h s m) (V : FV (w * h) s (m 1 1)) {n : Nat} (hn : s 0 79 4 = (n : Int)) (n240 : n < 240) {R : XS → Int → XR} {a1 : Int} : ∃ u, g5_X2_beginUpTo R s a1 = R u a1 ∧ u 0 79 4 = ((n + 1 : Nat) : Int) ∧ FV (w * h) u (m 1 1) ∧ FrF u s := by
  have b25 := H.1.b25
  obtain ⟨p1, p2, p3, p4, p5, p6, p7, p8⟩ := H.pl
  obtain ⟨b1, b2, b3, b4, b5⟩ := H.bd
  obtain ⟨f1, f2, -⟩ := free_x s 1 (m 1 1 111 + (n : Int))
  obtain ⟨r, hr⟩ : ∃ r, r = (f_X0_freeBits s 1 (m 1 1 111 + (n : Int))).2 := ⟨_, rfl⟩
  rw [← hr] at f2
  obtain ⟨s1, hs1⟩ : ∃ s1, s1 = xup s 1 80 n r := ⟨_, rfl⟩
  have s179 : s1 0 79 4 = (n : Int) := by rw [hs1, xup_t (by decide)]; exact hn
  -- four rows are laid bare
  have lp : ∀ (k d : Nat) (v : XS), v 0 79 4 = (n : Int) → d ≤ 4 → 4 < d + k → ∃ u, L8_X2_beginUpTo R k v a1 (d : Int) = R u a1 ∧ u 0 79 4 = ((n + 1 : Nat) : Int) ∧ ∀ t c j, ¬ (t = 0 ∧ c = 79 ∧ j = 4) → u t c j = if t = 1 ∧ (c = 81 ∨ c = 82) ∧ 4 * n + d ≤ j ∧ j < 4 * n + 4 then 0 else v t c j := by
    intro k
    induction k with
    | zero => intro d v h1 h2 h3; omega
    | succ k ih =>
      intro d v h1 h2 h3
      have e1 : ∀ x, xup v 1 81 x 0 0 79 4 = (n : Int) := fun x => by rw [xup_t (by decide)]; exact h1
      have e : L8_X2_beginUpTo R (k + 1) v a1 (d : Int) = if (d : Int) < 4 then L8_X2_beginUpTo R k (xup (xup v 1 81 (4 * n + d) 0) 1 82 (4 * n + d) 0) a1 ((d : Int) + 1) else R (xup v 0 79 4 ((n : Int) + 1)) a1 := by
        show g9l_X2_beginUpTo R (L8_X2_beginUpTo R k) v a1 (d : Int) = _
        simp only [g9l_X2_beginUpTo, g10b_X2_beginUpTo, g11_X2_beginUpTo, g12_X2_beginUpTo, g13w_X2_beginUpTo, g14w_X2_beginUpTo, g15w_X2_beginUpTo, h1, e1, show Int.toNat (4 * (n : Int) + (d : Int)) = 4 * n + d by omega]
      rw [e]
      by_cases z : d < 4
      · rw [if_pos (by omega)]
        obtain ⟨u, u1, u2, u3⟩ := ih (d + 1) (xup (xup v 1 81 (4 * n + d) 0) 1 82 (4 * n + d) 0) (by rw [xup_t (by decide), xup_t (by decide)]; exact h1) (by omega) (by omega)
        refine ⟨u, u1, u2, fun t c j q => ?_⟩
        rw [u3 t c j q]
        unfold xup
        (repeat' split) <;> first | rfl | (exfalso; omega)
      · rw [if_neg (by omega)]
        refine ⟨_, rfl, ?_, fun t c j q => ?_⟩
        · rw [xup_s]; omega
        · rw [if_neg (fun y => by omega)]
          unfold xup
          exact if_neg q
  obtain ⟨u, u1, u2, u3⟩ := lp 5 0 s1 s179 (by decide) (by decide)
  have e : g5_X2_beginUpTo R s a1 = L8_X2_beginUpTo R 5 s1 a1 0 := by
    simp only [g5_X2_beginUpTo, g6c_X2_beginUpTo, g7w_X2_beginUpTo, hn, ← p4]
    rw [iadd_v (show rgI (m 1 1 111 + (n : Int)) by unfold rgI; omega), f1, ← hr, show Int.toNat (n : Int) = n from rfl, ← hs1]
    rfl
  have uo : ∀ t c j, ¬ (t = 0 ∧ c = 79 ∧ j = 4) → ¬ (t = 1 ∧ c = 80 ∧ j = n) → ¬ (t = 1 ∧ (c = 81 ∨ c = 82) ∧ 4 * n ≤ j ∧ j < 4 * n + 4) → u t c j = s t c j := fun t c j q1 q2 q3 => by
    rw [u3 t c j q1, if_neg (fun y => q3 ⟨y.1, y.2.1, by omega, by omega⟩), hs1]
    unfold xup
    exact if_neg q2
  refine ⟨u, by rw [e]; exact u1, u2, ?_, fun t c k q1 q2 => uo t c k q2 (by omega) (by omega)⟩
  obtain ⟨n', h1, h2, h3, h4⟩ := V
  have nn : n' = n := by rw [hn] at h1; omega
  subst nn
  refine ⟨n' + 1, u2, by omega, fun t ht k hk => ?_, fun t d ht hd c hc => ?_⟩
  · by_cases z : t = n'
    · subst z
      have e80 : u 1 80 t = r := by rw [u3 _ _ _ (by omega), if_neg (by omega), hs1, xup_s]
      rw [e80, f2 k hk, p8]
      constructor
      · rintro (q | ⟨q1, q2⟩)
        · exact Or.inl q
        · refine Or.inr ⟨q1, ?_⟩
          rw [← (p7 k q1).2]; exact q2
      · rintro (q | ⟨q1, q2⟩)
        · exact Or.inl q
        · refine Or.inr ⟨q1, ?_⟩
          rw [← (p7 k q1).2] at q2; exact q2
    · rw [uo 1 80 t (by omega) (by omega) (by omega)]
      exact h3 t (by omega) k hk
  · by_cases z : t = n'
    · subst z
      have e81 : u 1 81 (4 * t + d) = 0 := by rw [u3 _ _ _ (by omega), if_pos ⟨rfl, Or.inl rfl, by omega, by omega⟩]
      have e82 : u 1 82 (4 * t + d) = 0 := by rw [u3 _ _ _ (by omega), if_pos ⟨rfl, Or.inr rfl, by omega, by omega⟩]
      rw [e81, e82, bz_0]
      exact ⟨id, fun q => by cases q⟩
    · rw [uo 1 81 (4 * t + d) (by omega) (by omega) (by omega), uo 1 82 (4 * t + d) (by omega) (by omega) (by omega)]
      exact h4 t d (by omega) hd c hc
theorem bu_l {B : Int} {w h : Nat} {m : XS} {a1 : Nat} (ha : a1 < 240) : ∀ (k n : Nat) (s : XS), CS B w h s m → FV (w * h) s (m 1 1) → s 0 79 4 = (n : Int) → (a1 : Int) - (n : Int) + 1 < (k : Int) → 1 ≤ k → ∃ u, ∃ n' : Nat, L1_X2_beginUpTo k s (a1 : Int) = (u, 0) ∧ FV (w * h) u (m 1 1) ∧ FrF u s ∧ u 0 79 4 = (n' : Int) ∧ a1 < n'
  | 0, n, s, _, _, _, _, h2 => by omega
  | k + 1, n, s, H, V, hn, hk, h2 => by
    have e : L1_X2_beginUpTo (k + 1) s (a1 : Int) = if (a1 : Int) < (n : Int) then (s, 0) else g5_X2_beginUpTo (L1_X2_beginUpTo k) s (a1 : Int) := by
      show g2l_X2_beginUpTo (L1_X2_beginUpTo k) s (a1 : Int) = _
      simp only [g2l_X2_beginUpTo, g3b_X2_beginUpTo, g4_X2_beginUpTo, hn]
    rw [e]
    by_cases z : a1 < n
    · rw [if_pos (by omega)]
      exact ⟨s, n, rfl, V, FrF.rf, hn, z⟩
    · rw [if_neg (by omega)]
      obtain ⟨u, u1, u2, u3, u4⟩ := bu_1 H V hn (by omega) (R := L1_X2_beginUpTo k) (a1 := (a1 : Int))
      obtain ⟨v, n', v1, v2, v3, v4, v5⟩ := bu_l ha k (n + 1) u (u4.cs H) u3 u2 (by omega) (by omega)
      rw [u1]
      exact ⟨v, n', v1, v2, v3.tr u4, v4, v5⟩
theorem bu_x {B : Int} {w h : Nat} {s m : XS} (H : CS B w h s m) (V : FV (w * h) s (m 1 1)) {a1 : Nat} (ha : a1 < 240) : ∃ u, ∃ n' : Nat, f_X2_beginUpTo s (a1 : Int) = (u, 0) ∧ FV (w * h) u (m 1 1) ∧ FrF u s ∧ u 0 79 4 = (n' : Int) ∧ a1 < n' := by
  obtain ⟨n, h1, h2, -⟩ := id V
  have e : f_X2_beginUpTo s (a1 : Int) = L1_X2_beginUpTo (Int.toNat (240 - (n : Int) + 1)) s (a1 : Int) := by
    have e0 : f_X2_beginUpTo s (a1 : Int) = L1_X2_beginUpTo (Int.toNat (240 - (s 0 79 4) + 1)) s (a1 : Int) := rfl
    rw [e0, h1]
  rw [e]
  exact bu_l ha _ n s H V h1 (by omega) (by omega)
theorem freeAt_x {B : Int} {w h : Nat} {s m : XS} (H : CS B w h s m) (V : FV (w * h) s (m 1 1)) {a1 : Nat} (ha : a1 < 240) : ∃ u r, f_X2_freeAt s (a1 : Int) = (u, r) ∧ FV (w * h) u (m 1 1) ∧ FrF u s ∧ ∀ c, c < w * h → (bz r c = true ↔ frQ (m 1 1) c (a1 : Int)) := by
  have b25 := H.1.b25
  obtain ⟨u, n', u1, u2, u3, u4, u5⟩ := bu_x H V ha
  refine ⟨u, u 1 80 a1, ?_, u2, u3, fun c hc => ?_⟩
  · have e0 : f_X2_freeAt s (a1 : Int) = ((f_X2_beginUpTo s (a1 : Int)).1, (f_X2_beginUpTo s (a1 : Int)).1 1 80 (Int.toNat (a1 : Int))) := rfl
    rw [e0, u1]
    rfl
  · obtain ⟨n, h1, -, h3, -⟩ := u2
    have nn : n = n' := by rw [h1] at u4; omega
    rw [h3 a1 (by omega) c (by omega)]
    unfold frQ
    exact ⟨fun q => q.elim Or.inl (fun y => Or.inr y.2), fun q => q.elim Or.inl (fun y => Or.inr ⟨by omega, y⟩)⟩
