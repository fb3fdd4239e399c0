/-! a street on, all turns: the class's rows -/
theorem FV.fr {N : Nat} {s u : XS} {A : Nat → Int} (h : FV N s A) (e79 : u 0 79 4 = s 0 79 4) (e : ∀ c k, c = 80 ∨ c = 81 ∨ c = 82 → u 1 c k = s 1 c k) : FV N u A := by
  obtain ⟨n, h1, h2, h3, h4⟩ := h
  refine ⟨n, e79.trans h1, h2, fun t ht k hk => ?_, fun t d ht hd c hc => ?_⟩
  · rw [e 80 t (by omega)]; exact h3 t ht k hk
  · rw [e 81 _ (by omega), e 82 _ (by omega)]; exact h4 t d ht hd c hc
/-- half way: the other rows hold what has been found -/
def GI (b w h most : Nat) (m s v : XS) (G : Nat → Nat → Nat → Prop) : Prop := FV (w * h) v (m 1 1) ∧ FrO b v s ∧ ∀ l e k, l ≤ most → e < 4 → k < 32 → (bz (v 1 b (4 * l + e)) k = true ↔ G l e k)
theorem GI.iff {b w h most : Nat} {m s v : XS} {G G' : Nat → Nat → Nat → Prop} (g : GI b w h most m s v G) (e : ∀ l e k, l ≤ most → e < 4 → k < 32 → (G l e k ↔ G' l e k)) : GI b w h most m s v G' := ⟨g.1, g.2.1, fun l e' k h1 h2 h3 => (g.2.2 l e' k h1 h2 h3).trans (e l e' k h1 h2 h3)⟩
theorem opl {B : Int} {a b tp w h most : Nat} {s m v : XS} {G : Nat → Nat → Nat → Prop} (H : CS B w h s m) (L : Ld s (m 1 1) w h) (S : SB a b tp s) (g : GI b w h most m s v G) {t T l0 lq : Nat} (ht : t < 240) (hT : 2 ≤ T ∧ T < 4) {C : Int} : ∃ u, f_X8_goByLeft v (t : Int) (T : Int) ((4 * l0 : Nat) : Int) C ((4 * lq : Nat) : Int) = (u, 0) ∧ GI b w h most m s u (fun l e k => G l e k ∨ (l = lq ∧ ∃ c d, d < 4 ∧ tdr d T = e ∧ c < w * h ∧ sF (m 1 1) c e = (k : Int) ∧ bz (s 1 a (4 * l0 + d)) c = true ∧ bz C c = true ∧ mayQ (m 1 1) c (t : Int) (e : Int))) := by
  have hab := S.1
  obtain ⟨g1, g2, g3⟩ := g
  have Lv : Ld v (m 1 1) w h := L.fr (g2 _ _ _ (by omega) (by omega)) (g2 _ _ _ (by omega) (by omega)) (funext fun k => g2 _ _ _ (by omega) (by omega)) (funext fun k => g2 _ _ _ (by omega) (by omega))
  obtain ⟨u, u1, u2, u3, u4, u5⟩ := gls_x (g2.cs (by omega) H) Lv g1 (g2.sb (by omega) S) (R := 4 * l0) (Q := 4 * lq) ht hT (C := C)
  refine ⟨u, u1, u2, u3.tr g2, fun l e k h1 h2 h3 => ?_⟩
  have va : ∀ d, v 1 a (4 * l0 + d) = s 1 a (4 * l0 + d) := fun d => g2 _ _ _ (by omega) (by omega)
  by_cases z : l = lq
  · subst z
    rw [u5 e h2 k h3, g3 l e k h1 h2 h3]
    constructor
    · rintro (q | ⟨c, d, q1, q2, q3, q4, q5, q6⟩)
      · exact Or.inl q
      · rw [va] at q5
        exact Or.inr ⟨rfl, c, d, q1, q2, q3, q4, q5, q6⟩
    · rintro (q | ⟨-, c, d, q1, q2, q3, q4, q5, q6⟩)
      · exact Or.inl q
      · rw [← va] at q5
        exact Or.inr ⟨c, d, q1, q2, q3, q4, q5, q6⟩
  · rw [u4 _ (by omega), g3 l e k h1 h2 h3]
    exact ⟨Or.inl, fun q => q.elim id (fun y => absurd y.1 z)⟩
theorem opr {B : Int} {a b tp w h most : Nat} {s m v : XS} {G : Nat → Nat → Nat → Prop} (H : CS B w h s m) (L : Ld s (m 1 1) w h) (S : SB a b tp s) (g : GI b w h most m s v G) {l0 : Nat} : ∃ u, f_X8_goByRights v ((4 * l0 : Nat) : Int) = (u, 0) ∧ GI b w h most m s u (fun l e k => G l e k ∨ (l = l0 ∧ ∃ c d T, d < 4 ∧ T < 2 ∧ tdr d T = e ∧ c < w * h ∧ sF (m 1 1) c e = (k : Int) ∧ bz (s 1 a (4 * l0 + d)) c = true)) := by
  have hab := S.1
  obtain ⟨g1, g2, g3⟩ := g
  have Lv : Ld v (m 1 1) w h := L.fr (g2 _ _ _ (by omega) (by omega)) (g2 _ _ _ (by omega) (by omega)) (funext fun k => g2 _ _ _ (by omega) (by omega)) (funext fun k => g2 _ _ _ (by omega) (by omega))
  obtain ⟨u, u1, u2, u3⟩ := gr_x (g2.sb (by omega) S) Lv (R := 4 * l0)
  have uo : ∀ T c k, ¬ (T = 1 ∧ c = b) → u T c k = v T c k := fun T c k q => u2 T c k (fun y => q ⟨y.1, y.2.1⟩)
  refine ⟨u, u1, g1.fr (uo _ _ _ (by omega)) (fun c k q => uo _ _ _ (by omega)), fun t c k q1 q2 => (uo t c k (fun y => q1 ⟨y.1, by omega⟩)).trans (g2 t c k q1 q2), fun l e k h1 h2 h3 => ?_⟩
  have va : ∀ d, v 1 a (4 * l0 + d) = s 1 a (4 * l0 + d) := fun d => g2 _ _ _ (by omega) (by omega)
  by_cases z : l = l0
  · subst z
    rw [u3 e h2 k h3, g3 l e k h1 h2 h3]
    constructor
    · rintro (q | ⟨c, d, T, q1, q2, q3, q4, q5, q6⟩)
      · exact Or.inl q
      · rw [va] at q6
        exact Or.inr ⟨rfl, c, d, T, q1, q2, (tdr_01 q1 q2).trans q3, q4, q5, q6⟩
    · rintro (q | ⟨-, c, d, T, q1, q2, q3, q4, q5, q6⟩)
      · exact Or.inl q
      · rw [← va] at q6
        exact Or.inr ⟨c, d, T, q1, q2, (tdr_01 q1 q2).symm.trans q3, q4, q5, q6⟩
  · rw [u2 1 b (4 * l + e) (by omega), g3 l e k h1 h2 h3]
    exact ⟨Or.inl, fun q => q.elim id (fun y => absurd y.1 z)⟩
theorem l15_e {R : XS → Int → Int → Int → Int → XR} {a1 a3 v7 : Int} {n : Nat} {s : XS} {l x : Nat} (hx : 1 ≤ x) : L15_X8_goOn R (n + 1) s a1 a3 v7 (l : Int) ((4 * l : Nat) : Int) (x : Int) = if x < 4 then (if a3 < ((l + x - 1 : Nat) : Int) then L15_X8_goOn R n (f_X8_goByLeft s a1 (x : Int) ((4 * l : Nat) : Int) v7 ((4 * l : Nat) : Int)).1 a1 a3 v7 (l : Int) ((4 * l : Nat) : Int) ((x + 1 : Nat) : Int) else L15_X8_goOn R n (f_X8_goByLeft (f_X8_goByLeft s a1 (x : Int) ((4 * l : Nat) : Int) v7 ((4 * l : Nat) : Int)).1 a1 (x : Int) ((4 * l : Nat) : Int) (Xixor v7 (-1)) ((4 * (l + (x - 1)) : Nat) : Int)).1 a1 a3 v7 (l : Int) ((4 * l : Nat) : Int) ((x + 1 : Nat) : Int)) else R s a1 a3 v7 ((l + 1 : Nat) : Int) := by
  have e1 : ((l : Int) + (x : Int)) - 1 = ((l + x - 1 : Nat) : Int) := by omega
  have e2 : ((4 * l : Nat) : Int) + (4 * ((x : Int) - 1)) = ((4 * (l + (x - 1)) : Nat) : Int) := by omega
  show g16l_X8_goOn R (L15_X8_goOn R n) s a1 a3 v7 (l : Int) ((4 * l : Nat) : Int) (x : Int) = _
  simp only [g16l_X8_goOn, g17b_X8_goOn, g18_X8_goOn, g19_X8_goOn, g20c_X8_goOn, g21b_X8_goOn, g22_X8_goOn, g23_X8_goOn, g24c_X8_goOn, e1, e2]
  by_cases z : x < 4
  · rw [if_pos z, if_pos (by omega)]
    rfl
  · rw [if_neg z, if_neg (by omega)]
    rfl
/-- all turns with so many lefts so far -/
theorem go_b {B : Int} {a b tp w h most : Nat} {s m v : XS} {G : Nat → Nat → Nat → Prop} (H : CS B w h s m) (L : Ld s (m 1 1) w h) (S : SB a b tp s) (g : GI b w h most m s v G) {t l0 : Nat} (ht : t < 240) {F : Int} {mo : Nat → Prop} (hF : ∀ c, c < w * h → (bz F c = true ↔ (frQ (m 1 1) c (t : Int) ∨ mo c))) {R : XS → Int → Int → Int → Int → XR} : ∃ u, L15_X8_goOn R (Int.toNat (4 - 2 + 1)) (f_X8_goByRights v ((4 * l0 : Nat) : Int)).1 (t : Int) (most : Int) F (l0 : Int) ((4 * l0 : Nat) : Int) 2 = R u (t : Int) (most : Int) F ((l0 + 1 : Nat) : Int) ∧ GI b w h most m s u (fun l e k => G l e k ∨ ∃ c d q, d < 4 ∧ c < w * h ∧ bz (s 1 a (4 * l0 + d)) c = true ∧ SW (m 1 1) mo t c d k e q ∧ l = l0 + q) := by
  have b25 := L.b25
  obtain ⟨u1, r1, g1⟩ := opr H L S g (l0 := l0)
  rw [r1]
  dsimp only
  have hF' : ∀ c, c < w * h → (bz (Xixor F (-1)) c = true ↔ ¬ (frQ (m 1 1) c (t : Int) ∨ mo c)) := fun c hc => by
    rw [bz_inv F (by omega), Bool.not_eq_true', ← hF c hc]
    cases bz F c <;> simp
  -- one turn of the two
  have one : ∀ (T : Nat) (G1 : Nat → Nat → Nat → Prop) (x : XS) (n : Nat), 2 ≤ T ∧ T < 4 → GI b w h most m s x G1 → ∃ y, L15_X8_goOn R (n + 1) x (t : Int) (most : Int) F (l0 : Int) ((4 * l0 : Nat) : Int) (T : Int) = L15_X8_goOn R n y (t : Int) (most : Int) F (l0 : Int) ((4 * l0 : Nat) : Int) ((T + 1 : Nat) : Int) ∧ GI b w h most m s y (fun l e k => G1 l e k ∨ ∃ c d q, d < 4 ∧ c < w * h ∧ bz (s 1 a (4 * l0 + d)) c = true ∧ tdr d T = e ∧ sF (m 1 1) c e = (k : Int) ∧ mayQ (m 1 1) c (t : Int) (e : Int) ∧ (((frQ (m 1 1) c (t : Int) ∨ mo c) ∧ q = 0) ∨ (¬ (frQ (m 1 1) c (t : Int) ∨ mo c) ∧ q = T - 1)) ∧ l = l0 + q) := by
    intro T G1 x n hT gx
    obtain ⟨y1, q1, q2⟩ := opl H L S gx (l0 := l0) (lq := l0) ht hT (C := F)
    rw [l15_e (by omega), if_pos hT.2, q1]
    dsimp only
    by_cases z : (most : Int) < ((l0 + T - 1 : Nat) : Int)
    · rw [if_pos z]
      refine ⟨y1, rfl, q2.iff (fun l e k h1 h2 h3 => ?_)⟩
      constructor
      · rintro (p | ⟨p1, c, d, p2, p3, p4, p5, p6, p7, p8⟩)
        · exact Or.inl p
        · exact Or.inr ⟨c, d, 0, p2, p4, p6, p3, p5, p8, Or.inl ⟨(hF c p4).mp p7, rfl⟩, by omega⟩
      · rintro (p | ⟨c, d, q, p2, p4, p6, p3, p5, p8, p9, p10⟩)
        · exact Or.inl p
        · rcases p9 with ⟨p9, rfl⟩ | ⟨-, p9⟩
          · exact Or.inr ⟨by omega, c, d, p2, p3, p4, p5, p6, (hF c p4).mpr p9, p8⟩
          · omega
    · rw [if_neg z]
      obtain ⟨y2, q3, q4⟩ := opl H L S q2 (l0 := l0) (lq := l0 + (T - 1)) ht hT (C := Xixor F (-1))
      rw [q3]
      refine ⟨y2, rfl, q4.iff (fun l e k h1 h2 h3 => ?_)⟩
      constructor
      · rintro ((p | ⟨p1, c, d, p2, p3, p4, p5, p6, p7, p8⟩) | ⟨p1, c, d, p2, p3, p4, p5, p6, p7, p8⟩)
        · exact Or.inl p
        · exact Or.inr ⟨c, d, 0, p2, p4, p6, p3, p5, p8, Or.inl ⟨(hF c p4).mp p7, rfl⟩, by omega⟩
        · exact Or.inr ⟨c, d, T - 1, p2, p4, p6, p3, p5, p8, Or.inr ⟨(hF' c p4).mp p7, rfl⟩, p1⟩
      · rintro (p | ⟨c, d, q, p2, p4, p6, p3, p5, p8, p9, p10⟩)
        · exact Or.inl (Or.inl p)
        · rcases p9 with ⟨p9, rfl⟩ | ⟨p9, rfl⟩
          · exact Or.inl (Or.inr ⟨by omega, c, d, p2, p3, p4, p5, p6, (hF c p4).mpr p9, p8⟩)
          · exact Or.inr ⟨p10, c, d, p2, p3, p4, p5, p6, (hF' c p4).mpr p9, p8⟩
  obtain ⟨u2, r2, g2⟩ := one 2 _ u1 2 ⟨by decide, by decide⟩ g1
  obtain ⟨u3, r3, g3⟩ := one 3 _ u2 1 ⟨by decide, by decide⟩ g2
  refine ⟨u3, ?_, g3.iff (fun l e k h1 h2 h3 => ?_)⟩
  · have r2' : L15_X8_goOn R (Int.toNat (4 - 2 + 1)) u1 (t : Int) (most : Int) F (l0 : Int) ((4 * l0 : Nat) : Int) 2 = L15_X8_goOn R 2 u2 (t : Int) (most : Int) F (l0 : Int) ((4 * l0 : Nat) : Int) ((2 + 1 : Nat) : Int) := r2
    rw [r2', r3, l15_e (by decide), if_neg (by decide)]
  · constructor
    · rintro (((p | ⟨p1, c, d, T, p2, p3, p4, p5, p6, p7⟩) | ⟨c, d, q, p2, p4, p6, p3, p5, p8, p9, p10⟩) | ⟨c, d, q, p2, p4, p6, p3, p5, p8, p9, p10⟩)
      · exact Or.inl p
      · exact Or.inr ⟨c, d, 0, p2, p5, p7, ⟨T, by omega, p4, p6, Or.inl ⟨p3, rfl⟩⟩, by omega⟩
      · exact Or.inr ⟨c, d, q, p2, p4, p6, ⟨2, by decide, p3, p5, Or.inr ⟨by decide, p8, p9⟩⟩, p10⟩
      · exact Or.inr ⟨c, d, q, p2, p4, p6, ⟨3, by decide, p3, p5, Or.inr ⟨by decide, p8, p9⟩⟩, p10⟩
    · rintro (p | ⟨c, d, q, p2, p4, p6, ⟨T, t1, t2, t3, t4⟩, p10⟩)
      · exact Or.inl (Or.inl (Or.inl p))
      · rcases t4 with ⟨t4, t5⟩ | ⟨t4, t5, t6⟩
        · exact Or.inl (Or.inl (Or.inr ⟨by omega, c, d, T, p2, t4, t2, p4, t3, p6⟩))
        · rcases (show T = 2 ∨ T = 3 by omega) with rfl | rfl
          · exact Or.inl (Or.inr ⟨c, d, q, p2, p4, p6, t2, t3, t5, t6, p10⟩)
          · exact Or.inr ⟨c, d, q, p2, p4, p6, t2, t3, t5, t6, p10⟩
