/-! a street on: the rows are right again -/
theorem go_l {B : Int} {a b tp w h most : Nat} {s m : XS} (H : CS B w h s m) (L : Ld s (m 1 1) w h) (S : SB a b tp s) {t : Nat} (ht : t < 240) {F : Int} {mo : Nat → Prop} (hF : ∀ c, c < w * h → (bz F c = true ↔ (frQ (m 1 1) c (t : Int) ∨ mo c))) : ∀ (n l : Nat) (v : XS), GI b w h most m s v (fun l' e k => ∃ l0 c d q, l0 < l ∧ d < 4 ∧ c < w * h ∧ bz (s 1 a (4 * l0 + d)) c = true ∧ SW (m 1 1) mo t c d k e q ∧ l' = l0 + q) → l ≤ tp + 1 → tp + 1 < l + n → ∃ u, ∃ le : Nat, L2_X8_goOn n v (t : Int) (most : Int) F (l : Int) = ((f_X8_thin (f_X8_change u (min ((tp : Int) + 2) (most : Int))).1).1, 0) ∧ (tp < le ∨ most < le) ∧ GI b w h most m s u (fun l' e k => ∃ l0 c d q, l0 < le ∧ d < 4 ∧ c < w * h ∧ bz (s 1 a (4 * l0 + d)) c = true ∧ SW (m 1 1) mo t c d k e q ∧ l' = l0 + q) := by
  intro n
  induction n with
  | zero => intro l v _ h1 h2; omega
  | succ n ih =>
    intro l v g h1 h2
    have hab := S.1
    have top : v 0 83 4 = (tp : Int) := by rw [g.2.1 _ _ _ (by omega) (by omega)]; exact S.2.2.2.1
    rw [l2_e, top]
    by_cases z : tp < l
    · rw [if_pos (by omega)]
      exact ⟨v, l, rfl, Or.inl z, g⟩
    · rw [if_neg (by omega)]
      by_cases y : most < l
      · rw [if_pos (by omega)]
        exact ⟨v, l, rfl, Or.inr y, g⟩
      · rw [if_neg (by omega)]
        obtain ⟨u, u1, u2⟩ := go_b H L S g ht hF (l0 := l) (R := L2_X8_goOn n)
        rw [u1]
        refine ih (l + 1) u (u2.iff (fun l' e k q1 q2 q3 => ?_)) (by omega) (by omega)
        constructor
        · rintro (⟨l0, c, d, q, p1, p2⟩ | ⟨c, d, q, p2, p3, p4, p5, p6⟩)
          · exact ⟨l0, c, d, q, by omega, p2⟩
          · exact ⟨l, c, d, q, by omega, p2, p3, p4, p5, p6⟩
        · rintro ⟨l0, c, d, q, p1, p2, p3, p4, p5, p6⟩
          by_cases e0 : l0 = l
          · subst e0
            exact Or.inr ⟨c, d, q, p2, p3, p4, p5, p6⟩
          · exact Or.inl ⟨l0, c, d, q, by omega, p2, p3, p4, p5, p6⟩
theorem goOn_s {B : Int} {w h : Nat} {s m : XS} (H : CS B w h s m) (L : Ld s (m 1 1) w h) (V : FV (w * h) s (m 1 1)) {t0 c0 d0 i K most : Nat} (hc0 : c0 < w * h) (hd0 : d0 < 4) {mo : Nat → Prop} (T : RT (m 1 1) mo t0 c0 d0 (w * h) i K s) (ht : t0 + i < 240) (hm : most ≤ K) (h120 : most ≤ 120) {more : Int} (hmo : ∀ c, c < w * h → (bz more c = true ↔ mo c)) : ∃ u, f_X8_goOn s ((t0 + i : Nat) : Int) more (most : Int) = (u, 0) ∧ FV (w * h) u (m 1 1) ∧ FrG u s ∧ RT (m 1 1) mo t0 c0 d0 (w * h) (i + 1) most u := by
  have b25 := L.b25
  obtain ⟨Sq, a, ea, Ta⟩ := T
  obtain ⟨a', b, tp, S, Sb, Sa⟩ := Sq.ex
  have aa : a' = a := by have := S.2.1; omega
  subst aa
  have hab := S.1
  have t120 := S.2.2.2.2
  obtain ⟨v, fr, v1, v2, v3, v4⟩ := freeAt_x H V ht
  have Hv := v3.cs H
  have Lv : Ld v (m 1 1) w h := v3.g.ld L
  have Sv : SB a' b tp v := S.fr (v3 _ _ _ (by omega) (by omega)) (v3 _ _ _ (by omega) (by omega)) (v3 _ _ _ (by omega) (by omega))
  have va : ∀ j, v 1 a' j = s 1 a' j := fun j => v3 _ _ _ (by omega) (by omega)
  have vb : ∀ j, v 1 b j = 0 := fun j => by rw [v3 _ _ _ (by omega) (by omega)]; exact Sb j (by omega)
  have hF : ∀ c, c < w * h → (bz (Xior fr more) c = true ↔ (frQ (m 1 1) c ((t0 + i : Nat) : Int) ∨ mo c)) := fun c hc => by
    rw [bz_ior, Bool.or_eq_true, v4 c hc, hmo c hc]
  have g0 : GI b w h most m v v (fun l' e k => ∃ l0 c d q, l0 < 0 ∧ d < 4 ∧ c < w * h ∧ bz (v 1 a' (4 * l0 + d)) c = true ∧ SW (m 1 1) mo (t0 + i) c d k e q ∧ l' = l0 + q) := ⟨v2, FrO.rf, fun l e k h1 h2 h3 => by
    rw [vb, bz_0]
    exact ⟨(fun q => by cases q), fun ⟨l0, c, d, q, p, _⟩ => absurd p (by omega)⟩⟩
  obtain ⟨u, le, u1, u2, u3, u4, u5⟩ := go_l (most := most) Hv Lv Sv ht hF (Int.toNat (121 - 0 + 1)) 0 v g0 (by omega) (by show tp + 1 < 0 + 122; omega)
  have e : f_X8_goOn s ((t0 + i : Nat) : Int) more (most : Int) = ((f_X8_thin (f_X8_change u (min ((tp : Int) + 2) (most : Int))).1).1, 0) := by
    have e0 : f_X8_goOn s ((t0 + i : Nat) : Int) more (most : Int) = L2_X8_goOn (Int.toNat (121 - 0 + 1)) (f_X2_freeAt s ((t0 + i : Nat) : Int)).1 ((t0 + i : Nat) : Int) (most : Int) (Xior (f_X2_freeAt s ((t0 + i : Nat) : Int)).2 more) 0 := rfl
    rw [e0, v1]
    exact u1
  rw [e]
  obtain ⟨X, hX⟩ : ∃ X, X = min (tp + 2) most := ⟨_, rfl⟩
  rw [show min ((tp : Int) + 2) (most : Int) = (X : Int) by omega]
  have Su : SB a' b tp u := u4.sb (by omega) Sv
  have ua : ∀ j, u 1 a' j = s 1 a' j := fun j => (u4 _ _ _ (by omega) (by omega)).trans (va j)
  -- the rows change places
  obtain ⟨x, x1, x2, x3, x4, x5⟩ := change_x Su (fun j hj => by rw [ua]; exact Sa j hj) (T := X) (by omega)
  rw [x1]
  dsimp only
  -- the clean invariant
  have goq := goOn_q (s := s) (a1 := ((t0 + i : Nat) : Int)) (a2 := more) (a3 := (most : Int)) (by omega) Sq
  rw [e, show min ((tp : Int) + 2) (most : Int) = (X : Int) by omega, x1] at goq
  obtain ⟨y, y1, y2, y3, y4⟩ := thin_s x2
  rw [y1] at goq ⊢
  dsimp only at goq ⊢
  -- what the new rows hold
  have full : ∀ l e k, l ≤ most → e < 4 → k < 32 → (bz (x 1 b (4 * l + e)) k = true ↔ ∃ l0 c d q, d < 4 ∧ c < w * h ∧ bz (s 1 a' (4 * l0 + d)) c = true ∧ SW (m 1 1) mo (t0 + i) c d k e q ∧ l = l0 + q) := fun l e k h1 h2 h3 => by
    rw [x4, u5 l e k h1 h2 h3]
    constructor
    · rintro ⟨l0, c, d, q, p1, p2, p3, p4, p5, p6⟩
      rw [va] at p4
      exact ⟨l0, c, d, q, p2, p3, p4, p5, p6⟩
    · rintro ⟨l0, c, d, q, p2, p3, p4, p5, p6⟩
      refine ⟨l0, c, d, q, ?_, p2, p3, by rw [va]; exact p4, p5, p6⟩
      by_cases z : l0 ≤ tp
      · omega
      · rw [Sa _ (by omega), bz_0] at p4
        cases p4
  have hi : ∀ l e k, X < l → l ≤ most → e < 4 → k < 32 → ¬ bz (x 1 b (4 * l + e)) k = true := fun l e k h0 h1 h2 h3 q => by
    obtain ⟨l0, c, d, q', p2, p3, p4, ⟨T', t1, t2, t3, t4⟩, p6⟩ := (full l e k h1 h2 h3).mp q
    have q2 : q' ≤ 2 := by
      rcases t4 with ⟨-, t4⟩ | ⟨-, -, ⟨-, t4⟩ | ⟨-, t4⟩⟩ <;> omega
    by_cases z : l0 ≤ tp
    · omega
    · rw [Sa _ (by omega), bz_0] at p4
      cases p4
  have fW : ∀ l e k, l ≤ most → e < 4 → k < 32 → bz (x 1 b (4 * l + e)) k = true → Wy (m 1 1) mo t0 c0 d0 (i + 1) k e l := fun l e k h1 h2 h3 q => by
    obtain ⟨l0, c, d, q', p2, p3, p4, p5, p6⟩ := (full l e k h1 h2 h3).mp q
    have mw := ((Ta l0 d c (by omega) p2 (by omega)).mp p4).2
    exact ⟨c, d, l0, q', mw.1, p5, p6⟩
  have Wf : ∀ l e k, l ≤ most → e < 4 → k < 32 → Wy (m 1 1) mo t0 c0 d0 (i + 1) k e l → ∃ l', l' ≤ l ∧ bz (x 1 b (4 * l' + e)) k = true := fun l e k h1 h2 h3 q => by
    obtain ⟨c, d, l', q', p1, p2, p3⟩ := q
    obtain ⟨l0, p4, p5⟩ := MinW.ex l' p1
    obtain ⟨p6, p7⟩ := Wy.lt L hc0 hd0 i c d l' p1
    refine ⟨l0 + q', by omega, (full _ e k (by omega) h2 h3).mpr ⟨l0, c, d, q', p7, p6, (Ta l0 d c (by omega) p7 (by omega)).mpr ⟨p6, p5⟩, p2, rfl⟩⟩
  have yS : SB b a' X x := x2
  refine ⟨y, rfl, ?_, fun t c k q1 q2 q3 => ?_, goq, b, ?_, fun l e k h1 h2 h3 => ?_⟩
  · refine (u3.fr (s := u) ?_ (fun c k q => ?_))
    · rw [y2 _ _ _ (by omega) (by omega)]
      exact x5 _ _ _ (by omega) (by omega)
    · rw [y2 _ _ _ (by omega) (by omega)]
      exact x5 _ _ _ (by omega) (by omega)
  · rw [y2 t c k (by omega) (by omega), x5 t c k (by omega) q3, u4 t c k (by omega) q2]
    exact v3 t c k (by omega) q2
  · rw [y2 _ _ _ (by omega) (by omega)]
    exact x2.2.1
  · have ey : bz (y 1 b (4 * l + e)) k = true ↔ (bz (x 1 b (4 * l + e)) k = true ∧ ∀ l'', l'' < l → ¬ bz (x 1 b (4 * l'' + e)) k = true) := by
      by_cases z : l ≤ X
      · exact y4 e h2 l z k h3
      · rw [y3 _ (by omega)]
        exact ⟨fun q => absurd q (hi l e k (by omega) h1 h2 h3), fun q => q.1⟩
    rw [ey]
    constructor
    · rintro ⟨q1, q2⟩
      have W := fW l e k h1 h2 h3 q1
      refine ⟨(Wy.lt L hc0 hd0 (i + 1) k e l W).1, W, fun l' r1 r2 => ?_⟩
      obtain ⟨l'', r3, r4⟩ := Wf l' e k (by omega) h2 h3 r2
      exact q2 l'' (by omega) r4
    · rintro ⟨-, W, mn⟩
      obtain ⟨l', r1, r2⟩ := Wf l e k h1 h2 h3 W
      have r3 := fW l' e k (by omega) h2 h3 r2
      have ll : l' = l := by
        by_cases z : l' < l
        · exact absurd r3 (mn l' z)
        · omega
      subst ll
      refine ⟨r2, fun l'' r4 r5 => mn l'' r4 (fW l'' e k (by omega) h2 h3 r5)⟩
