/-! one level more behind -/
def CtB (A : Nat → Int) (N tE cc j l d L h' c : Nat) : Prop := c < N ∧ ∃ q k, SW A noM (tE - (j + 1)) c h' k d q ∧ MinB A tE cc j k d l ∧ L = l + q
def BL (A : Nat → Int) (N tE cc K j : Nat) (s : XS) : Prop := ∀ l d c, l ≤ 2 * j → l ≤ K → d < 4 → c < 32 → (bz (s 1 88 (4 * (j * j) + (4 * l + d))) c = true ↔ (c < N ∧ MinB A tE cc j c d l))
def GB (w h b1 J : Nat) (m s v : XS) (Q : Nat → Nat → Nat → Prop) : Prop := FV (w * h) v (m 1 1) ∧ FrRb v s ∧ (∀ x, ¬ (b1 ≤ x ∧ x < b1 + 8 * J + 4) → v 1 88 x = s 1 88 x) ∧ ∀ L h' c, L ≤ 2 * J → h' < 4 → c < 32 → (bz (v 1 88 (b1 + (4 * L + h'))) c = true ↔ Q L h' c)
theorem GB.iff {w h b1 J : Nat} {m s v : XS} {Q Q' : Nat → Nat → Nat → Prop} (g : GB w h b1 J m s v Q) (e : ∀ L h' c, L ≤ 2 * J → h' < 4 → c < 32 → (Q L h' c ↔ Q' L h' c)) : GB w h b1 J m s v Q' := ⟨g.1, g.2.1, g.2.2.1, fun L h' c q1 q2 q3 => (g.2.2.2 L h' c q1 q2 q3).trans (e L h' c q1 q2 q3)⟩
def Qd (A : Nat → Int) (N tE cc j l0 d : Nat) (L h' c : Nat) : Prop := ∃ l d', (l < l0 ∨ (l = l0 ∧ d' < d)) ∧ d' < 4 ∧ CtB A N tE cc j l d' L h' c
theorem Qd.s {A : Nat → Int} {N tE cc j l0 d L h' c : Nat} (hd : d < 4) : Qd A N tE cc j l0 (d + 1) L h' c ↔ (Qd A N tE cc j l0 d L h' c ∨ CtB A N tE cc j l0 d L h' c) := by
  constructor
  · rintro ⟨l, d', q1, q2, q3⟩
    by_cases z : l = l0 ∧ d' = d
    · rw [z.1, z.2] at q3
      exact Or.inr q3
    · exact Or.inl ⟨l, d', by omega, q2, q3⟩
  · rintro (⟨l, d', q1, q2, q3⟩ | q3)
    · exact ⟨l, d', by omega, q2, q3⟩
    · exact ⟨l0, d, by omega, hd, q3⟩
theorem Qd.n {A : Nat → Int} {N tE cc j l0 L h' c : Nat} : Qd A N tE cc j l0 4 L h' c ↔ Qd A N tE cc j (l0 + 1) 0 L h' c := by
  constructor
  · rintro ⟨l, d', q1, q2, q3⟩
    exact ⟨l, d', by omega, q2, q3⟩
  · rintro ⟨l, d', q1, q2, q3⟩
    exact ⟨l, d', by omega, q2, q3⟩
theorem lb_d {B : Int} {w h : Nat} {s m : XS} (H : CS B w h s m) (L : Ld s (m 1 1) w h) {t0 len cc K j l0 J b b1 : Nat} (hJ : J = j + 1) (hb : b = 4 * (j * j)) (hb1 : b1 = 4 * (J * J)) (el : s 0 87 5 = (len : Int)) (h240 : t0 + len ≤ 240) (hjl : J < len) (hl : l0 ≤ 2 * j) (hK : l0 ≤ K) (Bj : BL (m 1 1) (w * h) (t0 + len) cc K j s) {R28 : XS → Int → Int → Int → XR} {R92 : XS → Int → Int → Int → Int → Int → XR} : ∀ (n d : Nat) (v : XS), GB w h b1 J m s v (Qd (m 1 1) (w * h) (t0 + len) cc j l0 d) → d ≤ 4 → 4 < d + n → ∃ u, L26_X7_lookBack R28 R92 n v (t0 : Int) (K : Int) (J : Int) (b : Int) (l0 : Int) (d : Int) = R92 u (t0 : Int) (K : Int) (J : Int) (b : Int) ((l0 + 1 : Nat) : Int) ∧ GB w h b1 J m s u (Qd (m 1 1) (w * h) (t0 + len) cc j (l0 + 1) 0) := by
  have bb : b1 = b + 8 * j + 4 := by rw [hb1, hJ, lv_s, hb]; omega
  have b25 := L.b25
  intro n
  induction n with
  | zero => intro d v _ h1 h2; omega
  | succ n ih =>
    intro d v g h1 h2
    obtain ⟨g1, g2, g3, g4⟩ := g
    have Lv := g2.ld L
    by_cases z : d < 4
    · obtain ⟨x, hx⟩ : ∃ x, x = v 1 88 (b + (4 * l0 + d)) := ⟨_, rfl⟩
      have xs : x = s 1 88 (b + (4 * l0 + d)) := by rw [hx]; exact g3 _ (by omega)
      obtain ⟨v1, v2⟩ := mvb_x Lv (v := x) z
      obtain ⟨fr, hfr⟩ : ∃ fr, (f_X0_movedBack v 1 x (d : Int)).2 = fr := ⟨_, rfl⟩
      rw [hfr] at v2
      have f4 : ∀ c, c < 32 → (bz fr c = true ↔ (c < w * h ∧ ∃ k : Nat, sF (m 1 1) c d = (k : Int) ∧ MinB (m 1 1) (t0 + len) cc j k d l0)) := fun c hc => by
        rw [v2 c hc, Bool.and_eq_true, decide_eq_true_eq]
        constructor
        · rintro ⟨⟨q1, q2⟩, q3⟩
          have sk := L.2.2.2.1 c d q1 z q2
          obtain ⟨k, hk⟩ : ∃ k : Nat, sF (m 1 1) c d = (k : Int) := ⟨(sF (m 1 1) c d).toNat, by omega⟩
          rw [hk, Int.toNat_natCast, xs, hb, Bj l0 d k hl hK z (by omega)] at q3
          exact ⟨q1, k, hk, q3.2⟩
        · rintro ⟨q1, k, hk, q3⟩
          have sk := L.2.2.2.1 c d q1 z (by omega)
          refine ⟨⟨q1, by omega⟩, ?_⟩
          rw [hk, Int.toNat_natCast, xs, hb, Bj l0 d k hl hK z (by omega)]
          exact ⟨by omega, q3⟩
      have cf : ∀ L' h' c, h' < 4 → c < 32 → (CtB (m 1 1) (w * h) (t0 + len) cc j l0 d L' h' c ↔ (l0 ≤ L' ∧ L' ≤ l0 + 2 ∧ bz fr c = true ∧ ∃ T, T < 4 ∧ tdr h' T = d ∧ tcW (m 1 1) noM (t0 + len - J) c d T (L' - l0))) := fun L' h' c hh hc => by
        rw [f4 c hc, hJ]
        constructor
        · rintro ⟨q1, q, k, q2, q3, q4⟩
          have q22 := q2.q2
          obtain ⟨T, t1, t2, t3, t4⟩ := q2
          refine ⟨by omega, by omega, ⟨q1, k, t3, q3⟩, T, t1, t2, ?_⟩
          rw [show L' - l0 = q by omega]
          exact t4
        · rintro ⟨p1, p2, ⟨q1, k, q2, q3⟩, T, t1, t2, t3⟩
          exact ⟨q1, L' - l0, k, ⟨T, t1, t2, q2, t3⟩, q3, by omega⟩
      have e : L26_X7_lookBack R28 R92 (n + 1) v (t0 : Int) (K : Int) (J : Int) (b : Int) (l0 : Int) (d : Int) = if fr = 0 then L26_X7_lookBack R28 R92 n v (t0 : Int) (K : Int) (J : Int) (b : Int) (l0 : Int) ((d + 1 : Nat) : Int) else L26_X7_lookBack R28 R92 n (f_X7_comeFrom v ((t0 + len - J : Nat) : Int) fr (d : Int) ((b1 + 4 * l0 : Nat) : Int)).1 (t0 : Int) (K : Int) (J : Int) (b : Int) (l0 : Int) ((d + 1 : Nat) : Int) := by
        show g27l_X7_lookBack R28 R92 (L26_X7_lookBack R28 R92 n) v (t0 : Int) (K : Int) (J : Int) (b : Int) (l0 : Int) (d : Int) = _
        have ev : v 0 87 5 = (len : Int) := by rw [g2 _ _ _ (by omega) (by omega)]; exact el
        simp only [g27l_X7_lookBack, g28b_X7_lookBack, g30_X7_lookBack, g31c_X7_lookBack, g32b_X7_lookBack, g33_X7_lookBack, g34_X7_lookBack, g35c_X7_lookBack, show Int.toNat (((b : Int) + 4 * (l0 : Int)) + (d : Int)) = b + (4 * l0 + d) by omega, ← hx, hfr, v1, ev, lv_b, ← hb1, show ((t0 : Int) + (len : Int)) - (J : Int) = ((t0 + len - J : Nat) : Int) by omega, show (b1 : Int) + 4 * (l0 : Int) = ((b1 + 4 * l0 : Nat) : Int) by omega]
        rw [if_pos (by omega)]
        rfl
      rw [e]
      by_cases y : fr = 0
      · rw [if_pos y]
        refine ih (d + 1) v ⟨g1, g2, g3, fun L' h' c q1 q2 q3 => ?_⟩ (by omega) (by omega)
        rw [g4 L' h' c q1 q2 q3, Qd.s z, cf L' h' c q2 q3, y, bz_0]
        exact ⟨Or.inl, fun k => k.elim id (fun k' => absurd k'.2.2.1 (by decide))⟩
      · rw [if_neg y]
        obtain ⟨u, u1, u2, u3, u4, u5⟩ := come_x (g2.cs H) g1 (t := t0 + len - J) (d := d) (R := b1 + 4 * l0) (by omega) z (fr := fr) (fun c hc q => ((f4 c hc).mp q).1)
        rw [u1]
        refine ih (d + 1) u ⟨u2, u3.tr g2, fun x' hx' => ?_, fun L' h' c q1 q2 q3 => ?_⟩ (by omega) (by omega)
        · rw [u4 x' (by omega)]
          exact g3 x' hx'
        · rw [Qd.s z, cf L' h' c q2 q3]
          by_cases r : l0 ≤ L' ∧ L' ≤ l0 + 2
          · have ei : b1 + (4 * L' + h') = b1 + 4 * l0 + (4 * (L' - l0) + h') := by omega
            have u6 := u5 (L' - l0) h' (by omega) q2 c q3
            rw [← ei, g4 L' h' c q1 q2 q3] at u6
            rw [u6]
            exact ⟨fun k => k.imp id (fun k' => ⟨r.1, r.2, k'⟩), fun k => k.imp id (fun k' => k'.2.2)⟩
          · rw [u4 _ (by omega), g4 L' h' c q1 q2 q3]
            exact ⟨Or.inl, fun k => k.elim id (fun k' => absurd ⟨k'.1, k'.2.1⟩ r)⟩
    · have d4 : d = 4 := by omega
      subst d4
      refine ⟨v, ?_, GB.iff ⟨g1, g2, g3, g4⟩ (fun L' h' c q1 q2 q3 => Qd.n)⟩
      show g27l_X7_lookBack R28 R92 (L26_X7_lookBack R28 R92 n) v (t0 : Int) (K : Int) (J : Int) (b : Int) (l0 : Int) ((4 : Nat) : Int) = _
      simp only [g27l_X7_lookBack, g28b_X7_lookBack, g29_X7_lookBack]
      rw [if_neg (by decide)]
      rfl
theorem lb_l {B : Int} {w h : Nat} {s m : XS} (H : CS B w h s m) (L : Ld s (m 1 1) w h) {t0 len cc K j J b b1 : Nat} (hJ : J = j + 1) (hb : b = 4 * (j * j)) (hb1 : b1 = 4 * (J * J)) (el : s 0 87 5 = (len : Int)) (h240 : t0 + len ≤ 240) (hjl : J < len) (Bj : BL (m 1 1) (w * h) (t0 + len) cc K j s) {R28 : XS → Int → Int → Int → XR} : ∀ (n l0 : Nat) (v : XS), GB w h b1 J m s v (Qd (m 1 1) (w * h) (t0 + len) cc j l0 0) → l0 ≤ 2 * j + 1 → 2 * j + 1 < l0 + n → ∃ u, ∃ le : Nat, L16_X7_lookBack R28 n v (t0 : Int) (K : Int) (J : Int) (b : Int) (l0 : Int) = R28 (f_X7_thin u (J : Int)).1 (t0 : Int) (K : Int) ((J + 1 : Nat) : Int) ∧ (2 * j < le ∨ K < le) ∧ GB w h b1 J m s u (Qd (m 1 1) (w * h) (t0 + len) cc j le 0) := by
  intro n
  induction n with
  | zero => intro l0 v _ h1 h2; omega
  | succ n ih =>
    intro l0 v g h1 h2
    have e : L16_X7_lookBack R28 (n + 1) v (t0 : Int) (K : Int) (J : Int) (b : Int) (l0 : Int) = if 2 * j < l0 then R28 (f_X7_thin v (J : Int)).1 (t0 : Int) (K : Int) ((J + 1 : Nat) : Int) else if K < l0 then R28 (f_X7_thin v (J : Int)).1 (t0 : Int) (K : Int) ((J + 1 : Nat) : Int) else L26_X7_lookBack R28 (L16_X7_lookBack R28 n) 5 v (t0 : Int) (K : Int) (J : Int) (b : Int) (l0 : Int) ((0 : Nat) : Int) := by
      show g17l_X7_lookBack R28 (L16_X7_lookBack R28 n) v (t0 : Int) (K : Int) (J : Int) (b : Int) (l0 : Int) = _
      simp only [g17l_X7_lookBack, g18b_X7_lookBack, g19_X7_lookBack, g20_X7_lookBack, g21c_X7_lookBack, g22b_X7_lookBack, g23_X7_lookBack, g24_X7_lookBack, g25c_X7_lookBack]
      by_cases z : 2 * j < l0
      · rw [if_pos z, if_pos (by omega)]
        rfl
      · rw [if_neg z, if_neg (by omega)]
        by_cases y : K < l0
        · rw [if_pos y, if_pos (by omega)]
          rfl
        · rw [if_neg y, if_neg (by omega)]
          rfl
    rw [e]
    by_cases z : 2 * j < l0
    · rw [if_pos z]
      exact ⟨v, l0, rfl, Or.inl z, g⟩
    · rw [if_neg z]
      by_cases y : K < l0
      · rw [if_pos y]
        exact ⟨v, l0, rfl, Or.inr y, g⟩
      · rw [if_neg y]
        obtain ⟨u, u1, u2⟩ := lb_d H L hJ hb hb1 el h240 hjl (by omega) (by omega) Bj (R28 := R28) (R92 := L16_X7_lookBack R28 n) 5 0 v g (by decide) (by decide)
        rw [u1]
        exact ih (l0 + 1) u u2 (by omega) (by omega)
