/-! where one comes at all, the class -/
def FrQ (u s : XS) : Prop := ∀ t c k, ¬ (t = 1 ∧ (c = 8 ∨ c = 9)) → ¬ (79 ≤ c ∧ c ≤ 103) → u t c k = s t c k
theorem FrQ.rf {s : XS} : FrQ s s := fun _ _ _ _ _ => rfl
theorem FrQ.tr {x y z : XS} (h : FrQ x y) (g : FrQ y z) : FrQ x z := fun t c k q1 q2 => (h t c k q1 q2).trans (g t c k q1 q2)
theorem FrG.q {u s : XS} (h : FrG u s) : FrQ u s := fun t c k q1 q2 => h t c k (by omega) (by omega) (by omega)
theorem FrQ.up {s : XS} {t c k : Nat} {v : Int} (h : 79 ≤ c ∧ c ≤ 103) : FrQ (xup s t c k v) s := fun t' c' k' _ q => if_neg (fun y => q (by rw [y.2.1]; exact h))
theorem FrQ.cs {B : Int} {w h : Nat} {s m u : XS} (F : FrQ u s) (H : CS B w h s m) : CS B w h u m := by
  obtain ⟨c1, c2, c3, c4, c5, c6, c7⟩ := H
  refine ⟨c1.fr (F _ _ _ (by omega) (by omega)) (F _ _ _ (by omega) (by omega)) (funext fun k => F _ _ _ (by omega) (by omega)) (funext fun k => F _ _ _ (by omega) (by omega)), c2.sameV (fun t c k _ _ q => F t c k (by omega) (by omega)), ?_, ?_, c5, c6, c7⟩
  · rw [F _ _ _ (by omega) (by omega)]; exact c3
  · rw [F _ _ _ (by omega) (by omega)]; exact c4
theorem FrQ.ld {A : Nat → Int} {w h : Nat} {s u : XS} (F : FrQ u s) (L : Ld s A w h) : Ld u A w h := L.fr (F _ _ _ (by omega) (by omega)) (F _ _ _ (by omega) (by omega)) (funext fun k => F _ _ _ (by omega) (by omega)) (funext fun k => F _ _ _ (by omega) (by omega))
theorem FrQ.w {u s : XS} (h : FrQ u s) : FrW u s := fun t c k q1 q2 _ _ => h t c k (by omega) q2
theorem RT.fr {A : Nat → Int} {mo : Nat → Prop} {t0 c0 d0 N i K : Nat} {s u : XS} (h : RT A mo t0 c0 d0 N i K s) (F : ∀ t c k, 83 ≤ c → c ≤ 85 → u t c k = s t c k) : RT A mo t0 c0 d0 N i K u := by
  obtain ⟨h1, a, h2, h3⟩ := h
  have ha : a = 84 ∨ a = 85 := by
    obtain ⟨a', b', q1, q2, -⟩ := h1
    rw [q2] at h2
    omega
  refine ⟨h1.of8 F, a, (F _ _ _ (by omega) (by omega)).trans h2, fun l d c q1 q2 q3 => ?_⟩
  rw [F _ _ _ (by omega) (by omega)]
  exact h3 l d c q1 q2 q3
theorem fil24z {b : Nat} : ∀ (n x : Nat) (s : XS), x ≤ 121 → 121 < x + n → ∃ u, L1_J7_fill_53178_24 n s b 0 (x : Int) = (u, 0) ∧ ∀ T c k, u T c k = if T = 1 ∧ c = b ∧ x ≤ k ∧ k < 121 then 0 else s T c k := by
  intro n
  induction n with
  | zero => intro x s h1 h2; omega
  | succ n ih =>
    intro x s h1 h2
    have e : L1_J7_fill_53178_24 (n + 1) s b 0 (x : Int) = if x < 121 then L1_J7_fill_53178_24 n (xup s 1 b x 0) b 0 ((x + 1 : Nat) : Int) else (s, 0) := by
      show g2l_J7_fill_53178_24 (L1_J7_fill_53178_24 n) s b 0 (x : Int) = _
      simp only [g2l_J7_fill_53178_24, g3b_J7_fill_53178_24, g4_J7_fill_53178_24, g5_J7_fill_53178_24, g6w_J7_fill_53178_24, Int.toNat_natCast]
      by_cases z : x < 121
      · rw [if_pos z, if_pos (by omega)]
        rfl
      · rw [if_neg z, if_neg (by omega)]
    rw [e]
    by_cases z : x < 121
    · rw [if_pos z]
      obtain ⟨u, u1, u2⟩ := ih (x + 1) (xup s 1 b x 0) (by omega) (by omega)
      refine ⟨u, u1, fun T c k => ?_⟩
      rw [u2]
      unfold xup
      (repeat' split) <;> first | rfl | (exfalso; omega)
    · rw [if_neg z]
      exact ⟨s, rfl, fun T c k => by rw [if_neg (fun q => by omega)]⟩
theorem sv_in {A : Nat → Int} {mo : Nat → Prop} {c0 d0 N K i : Nat} {R : XS → Int → Int → XR} {base : Nat → Nat → Prop} : ∀ (n x : Nat) (s : XS), RT A mo 0 c0 d0 N i K s → (∀ l, l ≤ K → ∀ c, c < 32 → (bz (s 1 86 l) c = true ↔ (base l c ∨ (l < x ∧ c < N ∧ ∃ d, d < 4 ∧ MinW A mo 0 c0 d0 i c d l)))) → x ≤ 121 → 121 < x + n → ∃ u, L8_X8_survey R n s (K : Int) (i : Int) (x : Int) = g11_X8_survey R u (K : Int) (i : Int) ∧ RT A mo 0 c0 d0 N i K u ∧ (∀ t c k, ¬ (t = 1 ∧ c = 86) → u t c k = s t c k) ∧ ∀ l, l ≤ K → ∀ c, c < 32 → (bz (u 1 86 l) c = true ↔ (base l c ∨ (c < N ∧ ∃ d, d < 4 ∧ MinW A mo 0 c0 d0 i c d l))) := by
  intro n
  induction n with
  | zero => intro x s _ _ h1 h2; omega
  | succ n ih =>
    intro x s T hb h1 h2
    obtain ⟨Sq, a, ha, hr⟩ := T
    obtain ⟨a', b', t, S, Sb, Sa⟩ := Sq.ex
    have eaa : a' = a := by
      have q := S.2.1
      rw [ha] at q
      omega
    rw [eaa] at S Sa
    have ts := S.ts
    have t4 : s 0 83 4 = (t : Int) := S.2.2.2.1
    have t120 := S.2.2.2.2
    have hab := S.1
    have e : L8_X8_survey R (n + 1) s (K : Int) (i : Int) (x : Int) = if t < x then g11_X8_survey R s (K : Int) (i : Int) else L8_X8_survey R n (xup s 1 86 x (Xior (s 1 86 x) (Xior (Xior (Xior (s 1 a (4 * x)) (s 1 a (4 * x + 1))) (s 1 a (4 * x + 2))) (s 1 a (4 * x + 3))))) (K : Int) (i : Int) ((x + 1 : Nat) : Int) := by
      show g9l_X8_survey R (L8_X8_survey R n) s (K : Int) (i : Int) (x : Int) = _
      simp only [g9l_X8_survey, g10b_X8_survey, g12_X8_survey, g17c_X8_survey, g18w_X8_survey, f_X8_anyHeading, ts, t4, Int.toNat_natCast, show Int.toNat (4 * (x : Int)) = 4 * x by omega, show Int.toNat (4 * (x : Int) + 1) = 4 * x + 1 by omega, show Int.toNat (4 * (x : Int) + 2) = 4 * x + 2 by omega, show Int.toNat (4 * (x : Int) + 3) = 4 * x + 3 by omega]
      by_cases z : t < x
      · rw [if_pos z, if_pos (show (t : Int) < (x : Int) by omega)]
      · rw [if_neg z, if_neg (show ¬ (t : Int) < (x : Int) by omega)]
        rfl
    rw [e]
    by_cases z : t < x
    · rw [if_pos z]
      refine ⟨s, rfl, ⟨Sq, a, ha, hr⟩, fun _ _ _ _ => rfl, fun l hl c hc => ?_⟩
      rw [hb l hl c hc]
      constructor
      · rintro (q | ⟨-, q⟩)
        · exact Or.inl q
        · exact Or.inr q
      · rintro (q | ⟨q1, d, q2, q3⟩)
        · exact Or.inl q
        · by_cases lx : l < x
          · exact Or.inr ⟨lx, q1, d, q2, q3⟩
          · exfalso
            have y := (hr l d c hl q2 hc).mpr ⟨q1, q3⟩
            rw [Sa _ (by omega), bz_0] at y
            cases y
    · rw [if_neg z]
      obtain ⟨u, u1, u2, u3, u4⟩ := ih (x + 1) (xup s 1 86 x (Xior (s 1 86 x) (Xior (Xior (Xior (s 1 a (4 * x)) (s 1 a (4 * x + 1))) (s 1 a (4 * x + 2))) (s 1 a (4 * x + 3))))) ((show RT A mo 0 c0 d0 N i K s from ⟨Sq, a, ha, hr⟩).fr (fun t c k q1 q2 => xup_c (by omega))) (fun l hl c hc => by
        by_cases lx : l = x
        · subst lx
          rw [xup_s, bz_ior, bz_ior, bz_ior, bz_ior, Bool.or_eq_true, Bool.or_eq_true, Bool.or_eq_true, Bool.or_eq_true, hb l hl c hc, show 4 * l = 4 * l + 0 from rfl, hr l 0 c hl (by decide) hc, hr l 1 c hl (by decide) hc, hr l 2 c hl (by decide) hc, hr l 3 c hl (by decide) hc]
          constructor
          · rintro ((q | ⟨q, -⟩) | (((⟨q1, q2⟩ | ⟨q1, q2⟩) | ⟨q1, q2⟩) | ⟨q1, q2⟩))
            · exact Or.inl q
            · omega
            · exact Or.inr ⟨by omega, q1, 0, by decide, q2⟩
            · exact Or.inr ⟨by omega, q1, 1, by decide, q2⟩
            · exact Or.inr ⟨by omega, q1, 2, by decide, q2⟩
            · exact Or.inr ⟨by omega, q1, 3, by decide, q2⟩
          · rintro (q | ⟨-, q1, d, q2, q3⟩)
            · exact Or.inl (Or.inl q)
            · refine Or.inr ?_
              rcases (show d = 0 ∨ d = 1 ∨ d = 2 ∨ d = 3 by omega) with rfl | rfl | rfl | rfl
              · exact Or.inl (Or.inl (Or.inl ⟨q1, q3⟩))
              · exact Or.inl (Or.inl (Or.inr ⟨q1, q3⟩))
              · exact Or.inl (Or.inr ⟨q1, q3⟩)
              · exact Or.inr ⟨q1, q3⟩
        · rw [xup_k lx, hb l hl c hc]
          constructor
          · rintro (q | ⟨q1, q⟩)
            · exact Or.inl q
            · exact Or.inr ⟨by omega, q⟩
          · rintro (q | ⟨q1, q⟩)
            · exact Or.inl q
            · exact Or.inr ⟨by omega, q⟩) (by omega) (by omega)
      exact ⟨u, u1, u2, fun t c k q => (u3 t c k q).trans (if_neg (fun y => q ⟨y.1, y.2.1⟩)), u4⟩
theorem sv_out {B : Int} {w h : Nat} {m : XS} {c0 d0 K : Nat} (hc0 : c0 < w * h) (hd0 : d0 < 4) (hK : K ≤ 120) : ∀ (n i : Nat) (s : XS), CS B w h s m → Ld s (m 1 1) w h → FV (w * h) s (m 1 1) → SQ 0 s → (i ≤ 60 → RT (m 1 1) noM 0 c0 d0 (w * h) i K s) → (∀ l, l ≤ K → ∀ c, c < 32 → (bz (s 1 86 l) c = true ↔ (c < w * h ∧ ∃ i' d, i' < i ∧ d < 4 ∧ MinW (m 1 1) noM 0 c0 d0 i' c d l))) → i ≤ 61 → 61 < i + n → ∃ u, L3_X8_survey n s (K : Int) (i : Int) = (u, 0) ∧ FV (w * h) u (m 1 1) ∧ FrQ u s ∧ SQ 0 u ∧ ∀ l, l ≤ K → ∀ c, c < 32 → (bz (u 1 86 l) c = true ↔ (c < w * h ∧ ∃ i' d, i' ≤ 60 ∧ d < 4 ∧ MinW (m 1 1) noM 0 c0 d0 i' c d l)) := by
  intro n
  induction n with
  | zero => intro i s _ _ _ _ _ _ h1 h2; omega
  | succ n ih =>
    intro i s H L V Sq T hb h1 h2
    have b25 := L.b25
    have e : L3_X8_survey (n + 1) s (K : Int) (i : Int) = if 60 < i then (s, 0) else L8_X8_survey (L3_X8_survey n) (Int.toNat (121 - 0 + 1)) s (K : Int) (i : Int) 0 := by
      show g4l_X8_survey (L3_X8_survey n) s (K : Int) (i : Int) = _
      simp only [g4l_X8_survey, g5b_X8_survey, g6_X8_survey, g7_X8_survey]
      by_cases z : 60 < i
      · rw [if_pos z, if_pos (show (60 : Int) < (i : Int) by omega)]
      · rw [if_neg z, if_neg (show ¬ (60 : Int) < (i : Int) by omega)]
    rw [e]
    by_cases z : 60 < i
    · rw [if_pos z]
      refine ⟨s, rfl, V, FrQ.rf, Sq, fun l hl c hc => ?_⟩
      rw [hb l hl c hc]
      constructor
      · rintro ⟨q1, i', d, q2, q3⟩
        exact ⟨q1, i', d, by omega, q3⟩
      · rintro ⟨q1, i', d, q2, q3⟩
        exact ⟨q1, i', d, by omega, q3⟩
    · rw [if_neg z]
      obtain ⟨u, u1, u2, u3, u4⟩ := sv_in (R := L3_X8_survey n) (base := fun l c => c < w * h ∧ ∃ i' d, i' < i ∧ d < 4 ∧ MinW (m 1 1) noM 0 c0 d0 i' c d l) (Int.toNat (121 - 0 + 1)) 0 s (T (by omega)) (fun l hl c hc => by
        rw [hb l hl c hc]
        exact ⟨Or.inl, fun q => q.elim id (fun y => absurd y.1 (Nat.not_lt_zero _))⟩) (by decide) (by decide)
      have u1' : L8_X8_survey (L3_X8_survey n) (Int.toNat (121 - 0 + 1)) s (K : Int) (i : Int) 0 = g11_X8_survey (L3_X8_survey n) u (K : Int) (i : Int) := u1
      rw [u1']
      have uQ : FrQ u s := fun t c k q1 q2 => u3 t c k (by omega)
      have Vu : FV (w * h) u (m 1 1) := V.fr (u3 _ _ _ (by omega)) (fun c k q => u3 _ _ _ (by omega))
      have hb' : ∀ l, l ≤ K → ∀ c, c < 32 → (bz (u 1 86 l) c = true ↔ (c < w * h ∧ ∃ i' d, i' < i + 1 ∧ d < 4 ∧ MinW (m 1 1) noM 0 c0 d0 i' c d l)) := fun l hl c hc => by
        rw [u4 l hl c hc]
        constructor
        · rintro (⟨q1, i', d, q2, q3⟩ | ⟨q1, d, q3⟩)
          · exact ⟨q1, i', d, by omega, q3⟩
          · exact ⟨q1, i, d, by omega, q3⟩
        · rintro ⟨q1, i', d, q2, q3⟩
          by_cases ix : i' = i
          · subst ix
            exact Or.inr ⟨q1, d, q3⟩
          · exact Or.inl ⟨q1, i', d, by omega, q3⟩
      have eg : g11_X8_survey (L3_X8_survey n) u (K : Int) (i : Int) = if i < 60 then L3_X8_survey n (f_X8_goOn u (i : Int) 0 (K : Int)).1 (K : Int) ((i + 1 : Nat) : Int) else L3_X8_survey n u (K : Int) ((61 : Nat) : Int) := by
        simp only [g11_X8_survey, g13b_X8_survey, g14_X8_survey, g15_X8_survey, g16c_X8_survey]
        by_cases y : i < 60
        · rw [if_pos y, if_pos (show (i : Int) < 60 by omega)]
          rfl
        · rw [if_neg y, if_neg (show ¬ (i : Int) < 60 by omega)]
          rfl
      rw [eg]
      by_cases y : i < 60
      · rw [if_pos y]
        obtain ⟨v, v1, v2, v3, v4⟩ := goOn_s (uQ.cs H) (uQ.ld L) Vu (t0 := 0) (i := i) (K := K) (most := K) hc0 hd0 u2 (by omega) (Nat.le_refl _) hK (more := 0) (fun c' _ => by rw [bz_0]; exact ⟨(fun q => by cases q), fun q => q.elim⟩)
        rw [Nat.zero_add] at v1
        rw [v1]
        obtain ⟨x, x1, x2, x3, x4, x5⟩ := ih (i + 1) v (v3.cs (uQ.cs H)) (v3.ld (uQ.ld L)) v2 v4.1 (fun _ => v4) (fun l hl c hc => by rw [v3 _ _ _ (by omega) (by omega) (by omega)]; exact hb' l hl c hc) (by omega) (by omega)
        exact ⟨x, x1, x2, (x3.tr v3.q).tr uQ, x4, x5⟩
      · rw [if_neg y]
        have i60 : i = 60 := by omega
        subst i60
        obtain ⟨x, x1, x2, x3, x4, x5⟩ := ih 61 u (uQ.cs H) (uQ.ld L) Vu u2.1 (fun q => absurd q (by decide)) hb' (by decide) (by omega)
        exact ⟨x, x1, x2, x3.tr uQ, x4, x5⟩
theorem survey_s {B : Int} {w h : Nat} {s m : XS} (H : CS B w h s m) (L : Ld s (m 1 1) w h) (V : FV (w * h) s (m 1 1)) (Sq : SQ 0 s) {c0 d0 K : Nat} (hc0 : c0 < w * h) (hd0 : d0 < 4) (hK : K ≤ 120) : ∃ u, f_X8_survey s ((4 * c0 + d0 : Nat) : Int) (K : Int) = (u, 0) ∧ FV (w * h) u (m 1 1) ∧ FrQ u s ∧ SQ 0 u ∧ ∀ l, l ≤ K → ∀ c, c < 32 → (bz (u 1 86 l) c = true ↔ (c < w * h ∧ ∃ i' d, i' ≤ 60 ∧ d < 4 ∧ MinW (m 1 1) noM 0 c0 d0 i' c d l)) := by
  have b25 := L.b25
  obtain ⟨f, f1, f2⟩ := fil24z (b := 86) (Int.toNat (121 - 0 + 1)) 0 s (by decide) (by decide)
  have fo : ∀ t c k, ¬ (t = 1 ∧ c = 86) → f t c k = s t c k := fun t c k q => by rw [f2, if_neg (fun y => q ⟨y.1, y.2.1⟩)]
  have fQ : FrQ f s := fun t c k q1 q2 => fo t c k (by omega)
  have Sf : SQ 0 f := Sq.of8 (fun t c k q1 q2 => fo t c k (by omega))
  have Vf : FV (w * h) f (m 1 1) := V.fr (fo _ _ _ (by omega)) (fun c k q => fo _ _ _ (by omega))
  obtain ⟨v, v1, v2, v3⟩ := begin_s (A := m 1 1) (mo := noM) (t0 := 0) (K := K) Sf hd0 hc0 b25
  have Vv := begin_v (c0 := c0) (d0 := d0) Sf hd0 (by omega) Vf
  rw [v1] at Vv
  have e : f_X8_survey s ((4 * c0 + d0 : Nat) : Int) (K : Int) = L3_X8_survey (Int.toNat (61 - 0 + 1)) (f_X8_begin (L1_J7_fill_53178_24 (Int.toNat (121 - 0 + 1)) s 86 0 0).1 ((4 * c0 + d0 : Nat) : Int)).1 (K : Int) 0 := rfl
  have f1' : L1_J7_fill_53178_24 (Int.toNat (121 - 0 + 1)) s 86 0 0 = (f, 0) := f1
  rw [e, f1', v1]
  obtain ⟨u, u1, u2, u3, u4, u5⟩ := sv_out (m := m) hc0 hd0 hK (Int.toNat (61 - 0 + 1)) 0 v (v2.cs (fQ.cs H)) (v2.ld (fQ.ld L)) Vv v3.1 (fun _ => v3) (fun l hl c hc => by
    rw [v2 _ _ _ (by omega) (by omega) (by omega), f2, if_pos ⟨rfl, rfl, by omega, by omega⟩, bz_0]
    constructor
    · intro q; cases q
    · rintro ⟨-, i', d, q, -⟩; omega) (by decide) (by decide)
  exact ⟨u, u1, u2, (u3.tr v2.q).tr fQ, u4, u5⟩
/-- the reference's crossings -/
theorem crM_x (m : XS) : f_X12_crossings m = (m, m 1 1 1 * m 1 1 2) := by
  simp only [f_X12_crossings, show Int.toNat 1 = 1 from rfl, show Int.toNat 2 = 2 from rfl]
