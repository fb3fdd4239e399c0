/-! looking back, the whole of it -/
theorem lb_j {B : Int} {w h : Nat} {s m : XS} (H : CS B w h s m) (L : Ld s (m 1 1) w h) (V : FV (w * h) s (m 1 1)) {t0 len cc K j J : Nat} (hJ : J = j + 1) (el : s 0 87 5 = (len : Int)) (h240 : t0 + len ≤ 240) (h60 : len ≤ 60) (hjl : J < len) (Bj : ∀ i, i ≤ j → BL (m 1 1) (w * h) (t0 + len) cc K i s) {R28 : XS → Int → Int → Int → XR} : ∃ u, g10_X7_lookBack R28 s (t0 : Int) (K : Int) (J : Int) = R28 u (t0 : Int) (K : Int) ((J + 1 : Nat) : Int) ∧ FV (w * h) u (m 1 1) ∧ FrRb u s ∧ ∀ i, i ≤ J → BL (m 1 1) (w * h) (t0 + len) cc K i u := by
  have b25 := L.b25
  obtain ⟨b, hb⟩ : ∃ b, b = 4 * (j * j) := ⟨_, rfl⟩
  obtain ⟨b1, hb1⟩ : ∃ b1, b1 = 4 * (J * J) := ⟨_, rfl⟩
  have bb : b1 = b + 8 * j + 4 := by rw [hb1, hJ, lv_s, hb]; omega
  have mx : (J + 1) * (J + 1) ≤ 60 * 60 := Nat.mul_le_mul (by omega) (by omega)
  rw [lv_s] at mx
  obtain ⟨s1, e1, f1⟩ := lb_c (R28 := R28) (a1 := (t0 : Int)) (a3 := (K : Int)) hb1 (Int.toNat (14400 - (b1 : Int) + 1)) s b1 (by omega) (by omega)
  have g0 : GB w h b1 J m s s1 (Qd (m 1 1) (w * h) (t0 + len) cc j 0 0) := ⟨V.fr (by rw [f1, if_neg (by omega)]) (fun c k q => by rw [f1, if_neg (by omega)]), fun T c k q1 q2 => by rw [f1, if_neg (by omega)], fun x hx => by rw [f1, if_neg (by omega)], fun L' h' c q1 q2 q3 => by
    rw [f1, if_pos ⟨rfl, rfl, by omega, by omega⟩, bz_0]
    exact ⟨(fun k => by cases k), fun ⟨l, d', p, _⟩ => by omega⟩⟩
  obtain ⟨u, le, u1, u2, u3, u4, u5, u6⟩ := lb_l H L hJ hb hb1 el h240 hjl (Bj j (Nat.le_refl _)) (R28 := R28) (Int.toNat (117 - 0 + 1)) 0 s1 g0 (by omega) (by show 2 * j + 1 < 0 + 118; omega)
  obtain ⟨y, y1, y2, y3, y4⟩ := thin_b (j := J) (by omega) u
  rw [← hb1] at y3 y4
  refine ⟨y, ?_, u3.fr (y2 _ _ _ (by omega)) (fun c k q => y2 _ _ _ (by omega)), fun T c k q1 q2 => (y2 T c k (by omega)).trans (u4 T c k q1 q2), fun i hi => ?_⟩
  · have e0 : g10_X7_lookBack R28 s (t0 : Int) (K : Int) (J : Int) = g14_X7_lookBack R28 s1 (t0 : Int) (K : Int) (J : Int) := by
      rw [← e1]
      simp only [g10_X7_lookBack, lv_b, ← hb1]
    rw [e0]
    simp only [g14_X7_lookBack, show (J : Int) - 1 = (j : Int) by omega, lv_b, ← hb]
    have u1' : L16_X7_lookBack R28 (Int.toNat (117 - 0 + 1)) s1 (t0 : Int) (K : Int) (J : Int) (b : Int) 0 = R28 (f_X7_thin u (J : Int)).1 (t0 : Int) (K : Int) ((J + 1 : Nat) : Int) := u1
    rw [u1', y1]
  · by_cases z : i = J
    · rw [z]
      intro l d c h1 h2 h3 h4
      rw [← hb1, y4 d h3 l h1 c h4]
      -- what the level holds before it is thinned out
      have full : ∀ l, l ≤ 2 * J → l ≤ K → (bz (u 1 88 (b1 + (4 * l + d))) c = true ↔ ∃ l0 d', d' < 4 ∧ CtB (m 1 1) (w * h) (t0 + len) cc j l0 d' l d c) := fun l q1 q2 => by
        rw [u6 l d c q1 h3 h4]
        constructor
        · rintro ⟨l0, d', p1, p2, p3⟩
          exact ⟨l0, d', p2, p3⟩
        · rintro ⟨l0, d', p2, p3⟩
          refine ⟨l0, d', Or.inl ?_, p2, p3⟩
          obtain ⟨-, q, k, p4, p5, p6⟩ := p3
          have := Bk.le j k d' l0 p5.1
          omega
      have fB : ∀ l, l ≤ 2 * J → l ≤ K → bz (u 1 88 (b1 + (4 * l + d))) c = true → c < w * h ∧ Bk (m 1 1) (t0 + len) cc J c d l := fun l q1 q2 q => by
        obtain ⟨l0, d', p2, p0, q, k, p4, p5, p6⟩ := (full l q1 q2).mp q
        rw [hJ]
        exact ⟨p0, k, d', l0, q, p4, p5.1, by omega⟩
      have Bf : ∀ l, l ≤ 2 * J → l ≤ K → c < w * h → Bk (m 1 1) (t0 + len) cc J c d l → ∃ l', l' ≤ l ∧ bz (u 1 88 (b1 + (4 * l' + d))) c = true := fun l q1 q2 q0 q => by
        rw [hJ] at q
        obtain ⟨k, e, l', q', p1, p2, p3⟩ := q
        obtain ⟨l0, p4, p5⟩ := MinB.ex l' p2
        have e4 : e < 4 := by
          obtain ⟨T, t1, t2, -⟩ := p1
          rw [← t2]
          exact tdr_lt d T
        exact ⟨q' + l0, by omega, (full _ (by omega) (by omega)).mpr ⟨l0, e, e4, q0, q', k, p1, p5, by omega⟩⟩
      constructor
      · rintro ⟨q1, q2⟩
        obtain ⟨p1, p2⟩ := fB l h1 h2 q1
        refine ⟨p1, p2, fun l' r1 r2 => ?_⟩
        obtain ⟨l'', r3, r4⟩ := Bf l' (by omega) (by omega) p1 r2
        exact q2 l'' (by omega) r4
      · rintro ⟨q0, q1, q2⟩
        obtain ⟨l', r1, r2⟩ := Bf l h1 h2 q0 q1
        have r3 := fB l' (by omega) (by omega) r2
        have ll : l' = l := by
          by_cases z' : l' < l
          · exact absurd r3.2 (q2 l' z')
          · omega
        subst ll
        exact ⟨r2, fun l'' r4 r5 => q2 l'' r4 (fB l'' (by omega) (by omega) r5).2⟩
    · intro l d c h1 h2 h3 h4
      have ii : (i + 1) * (i + 1) ≤ J * J := Nat.mul_le_mul (by omega) (by omega)
      rw [lv_s] at ii
      rw [y3 _ (by omega), u5 _ (by omega)]
      exact Bj i (by omega) l d c h1 h2 h3 h4
theorem lb_0 {a1 a2 a3 : Int} : ∀ (n x : Nat) (s : XS), x ≤ 4 → 4 < x + n → ∃ u, L1_X7_lookBack n s a1 a2 a3 (x : Int) = g4_X7_lookBack u a1 a3 ∧ ∀ T c k, u T c k = if T = 1 ∧ c = 88 ∧ x ≤ k ∧ k < 4 then Xishl 1 a2 else s T c k := by
  intro n
  induction n with
  | zero => intro x s h1 h2; omega
  | succ n ih =>
    intro x s h1 h2
    have e : L1_X7_lookBack (n + 1) s a1 a2 a3 (x : Int) = if x < 4 then L1_X7_lookBack n (xup s 1 88 x (Xishl 1 a2)) a1 a2 a3 ((x + 1 : Nat) : Int) else g4_X7_lookBack s a1 a3 := by
      show g2l_X7_lookBack (L1_X7_lookBack n) s a1 a2 a3 (x : Int) = _
      simp only [g2l_X7_lookBack, g3b_X7_lookBack, g5_X7_lookBack, g37w_X7_lookBack, Int.toNat_natCast]
      by_cases z : x < 4
      · rw [if_pos z, if_pos (by omega)]
        rfl
      · rw [if_neg z, if_neg (by omega)]
    rw [e]
    by_cases z : x < 4
    · rw [if_pos z]
      obtain ⟨u, u1, u2⟩ := ih (x + 1) (xup s 1 88 x (Xishl 1 a2)) (by omega) (by omega)
      refine ⟨u, u1, fun T c k => ?_⟩
      rw [u2]
      unfold xup
      (repeat' split) <;> first | rfl | (exfalso; omega)
    · rw [if_neg z]
      exact ⟨s, rfl, fun T c k => by rw [if_neg (fun q => by omega)]⟩
theorem look_x {B : Int} {w h : Nat} {s m : XS} (H : CS B w h s m) (L : Ld s (m 1 1) w h) (V : FV (w * h) s (m 1 1)) {t0 len cc K : Nat} (el : s 0 87 5 = (len : Int)) (h240 : t0 + len ≤ 240) (h60 : len ≤ 60) (hc : cc < w * h) : ∃ u, f_X7_lookBack s (t0 : Int) (cc : Int) (K : Int) = (u, 0) ∧ FV (w * h) u (m 1 1) ∧ FrRb u s ∧ ∀ i, i < len → BL (m 1 1) (w * h) (t0 + len) cc K i u := by
  have b25 := L.b25
  obtain ⟨s1, e1, f1⟩ := lb_0 (a1 := (t0 : Int)) (a2 := (cc : Int)) (a3 := (K : Int)) 5 0 s (by decide) (by decide)
  have e0 : f_X7_lookBack s (t0 : Int) (cc : Int) (K : Int) = g4_X7_lookBack s1 (t0 : Int) (K : Int) := e1
  rw [e0]
  have F1 : FrRb s1 s := fun T c k q1 q2 => by rw [f1, if_neg (by omega)]
  have V1 : FV (w * h) s1 (m 1 1) := V.fr (by rw [f1, if_neg (by omega)]) (fun c k q => by rw [f1, if_neg (by omega)])
  have key : ∀ (n j : Nat) (v : XS), FV (w * h) v (m 1 1) → FrRb v s → (∀ i, i ≤ j → BL (m 1 1) (w * h) (t0 + len) cc K i v) → len ≤ j + n → ∃ u, L6_X7_lookBack n v (t0 : Int) (K : Int) ((j + 1 : Nat) : Int) = (u, 0) ∧ FV (w * h) u (m 1 1) ∧ FrRb u s ∧ ∀ i, i < len → BL (m 1 1) (w * h) (t0 + len) cc K i u := by
    intro n
    induction n with
    | zero => intro j v v1 v2 v3 h1; exact ⟨v, rfl, v1, v2, fun i hi => v3 i (by omega)⟩
    | succ n ih =>
      intro j v v1 v2 v3 h1
      have ev : v 0 87 5 = (len : Int) := by rw [v2 _ _ _ (by omega) (by omega)]; exact el
      have e : L6_X7_lookBack (n + 1) v (t0 : Int) (K : Int) ((j + 1 : Nat) : Int) = if j + 1 < len then g10_X7_lookBack (L6_X7_lookBack n) v (t0 : Int) (K : Int) ((j + 1 : Nat) : Int) else (v, 0) := by
        show g7l_X7_lookBack (L6_X7_lookBack n) v (t0 : Int) (K : Int) ((j + 1 : Nat) : Int) = _
        simp only [g7l_X7_lookBack, g8b_X7_lookBack, g9_X7_lookBack, ev]
        by_cases z : j + 1 < len
        · rw [if_pos z, if_pos (by omega)]
        · rw [if_neg z, if_neg (by omega)]
      rw [e]
      by_cases z : j + 1 < len
      · rw [if_pos z]
        obtain ⟨u, u1, u2, u3, u4⟩ := lb_j (v2.cs H) (v2.ld L) v1 rfl ev h240 h60 z v3 (R28 := L6_X7_lookBack n)
        rw [u1]
        exact ih (j + 1) u u2 (u3.tr v2) u4 (by omega)
      · rw [if_neg z]
        exact ⟨v, rfl, v1, v2, fun i hi => v3 i (by omega)⟩
  refine key (Int.toNat (60 - 1 + 1)) 0 s1 V1 F1 (fun i hi => ?_) (by show len ≤ 0 + 60; omega)
  have i0 : i = 0 := by omega
  subst i0
  intro l d c h1 h2 h3 h4
  have l0 : l = 0 := by omega
  subst l0
  rw [f1, if_pos ⟨rfl, rfl, by omega, by omega⟩, bz_one (by omega) h4, decide_eq_true_eq]
  constructor
  · intro q
    exact ⟨by omega, ⟨q, rfl⟩, fun l' r => absurd r (by omega)⟩
  · rintro ⟨-, ⟨q, -⟩, -⟩
    exact q
