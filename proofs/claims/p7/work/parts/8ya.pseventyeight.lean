/-! both go the same way -/
def FrTr (u s : XS) : Prop := ∀ t c k, ¬ (t = 1 ∧ (c = 8 ∨ c = 9 ∨ c = 80 ∨ c = 81 ∨ c = 82 ∨ c = 89)) → ¬ (t = 0 ∧ c = 79 ∧ k = 4) → ¬ (t = 0 ∧ c = 87 ∧ k = 6) → u t c k = s t c k
theorem FrTr.rf {s : XS} : FrTr s s := fun _ _ _ _ _ _ => rfl
theorem FrTr.tr {x y z : XS} (h : FrTr x y) (g : FrTr y z) : FrTr x z := fun t c k q1 q2 q3 => (h t c k q1 q2 q3).trans (g t c k q1 q2 q3)
theorem FrF.t {u s : XS} (h : FrF u s) : FrTr u s := fun t c k q1 q2 _ => h t c k (by omega) q2
theorem FrTr.cs {B : Int} {w h : Nat} {s m u : XS} (F : FrTr u s) (H : CS B w h s m) : CS B w h u m := by
  obtain ⟨c1, c2, c3, c4, c5, c6, c7⟩ := H
  refine ⟨c1.fr (F _ _ _ (by omega) (by omega) (by omega)) (F _ _ _ (by omega) (by omega) (by omega)) (funext fun k => F _ _ _ (by omega) (by omega) (by omega)) (funext fun k => F _ _ _ (by omega) (by omega) (by omega)), c2.sameV (fun t c k _ _ q => F t c k (by omega) (by omega) (by omega)), ?_, ?_, c5, c6, c7⟩
  · rw [F _ _ _ (by omega) (by omega) (by omega)]; exact c3
  · rw [F _ _ _ (by omega) (by omega) (by omega)]; exact c4
theorem FrTr.ld {A : Nat → Int} {w h : Nat} {s u : XS} (F : FrTr u s) (L : Ld s A w h) : Ld u A w h := L.fr (F _ _ _ (by omega) (by omega) (by omega)) (F _ _ _ (by omega) (by omega) (by omega)) (funext fun k => F _ _ _ (by omega) (by omega) (by omega)) (funext fun k => F _ _ _ (by omega) (by omega) (by omega))
def FrTu (u m : XS) : Prop := ∀ t c k, ¬ (t = 1 ∧ c = 13) → ¬ (t = 0 ∧ c = 0 ∧ k = 28) → u t c k = m t c k
theorem FrTu.rf {s : XS} : FrTu s s := fun _ _ _ _ _ => rfl
theorem FrTu.tr {x y z : XS} (h : FrTu x y) (g : FrTu y z) : FrTu x z := fun t c k q1 q2 => (h t c k q1 q2).trans (g t c k q1 q2)
theorem FrTu.ll {v m : XS} (F : FrTu v m) {A : Nat → Int} {mo : Nat → Prop} {N H0 hh : Nat} (W : LLo A mo N H0 hh m) : LLo A mo N H0 hh v := fun i hi c hc => by
  obtain ⟨q1, q2⟩ := W i hi c hc
  refine ⟨by rw [F _ _ _ (by omega) (by omega)]; exact q1, fun d hd => by rw [F _ _ _ (by omega) (by omega)]; exact q2 d hd⟩
theorem fo_jt {B : Int} {w h : Nat} {s m0 m : XS} (H : CS B w h s m0) (L : Ld s (m0 1 1) w h) (hA : m 1 1 = m0 1 1) {t0 hh len cc K : Nat} (el : s 0 87 5 = (len : Int)) (h240 : t0 + len ≤ 240) (h60 : len ≤ 60) (h1000 : K ≤ 1000) (Bj : ∀ j, j < len → BL (m0 1 1) (w * h) (t0 + len) cc K j s) (W : LLo (m0 1 1) noM (w * h) t0 hh m) (hl : len ≤ hh) (R : ∀ i, i ≤ len → ∀ y, y < 4 * (w * h) → StV (m0 1 1) (t0 + len) cc (len - i) y (m 1 9 (100 * i + y))) : ∀ (n i c d left : Nat) (v y : XS), FV (w * h) v (m0 1 1) → FrTr v s → v 0 87 6 = ((4 * c + d : Nat) : Int) → FrTu y m → (∀ x, x < i → v 1 89 x = y 1 13 x ∧ 0 ≤ y 1 13 x ∧ y 1 13 x ≤ 3) → c < w * h → d < 4 → left ≤ K → (∃ l, l ≤ left ∧ Bk (m0 1 1) (t0 + len) cc (len - i) c d l) → i ≤ len → len < i + n → ∃ u z, L2_X7_follow n v (t0 : Int) (left : Int) (i : Int) = (u, 0) ∧ L2_X12_laysTurns n y (len : Int) ((4 * c + d : Nat) : Int) (left : Int) (i : Int) = (z, 0) ∧ FV (w * h) u (m0 1 1) ∧ FrTr u s ∧ FrTu z m ∧ (∀ x, x < len → u 1 89 x = z 1 13 x ∧ 0 ≤ z 1 13 x ∧ z 1 13 x ≤ 3) ∧ u 0 87 6 = z 0 0 28 := by
  intro n
  induction n with
  | zero => intro i c d left v y _ _ _ _ _ _ _ _ _ h1 h2; omega
  | succ n ih =>
    intro i c d left v y Vv Fv e6 Fy eq hc hd hK ex h1 h2
    have e5 : v 0 87 5 = (len : Int) := by rw [Fv _ _ _ (by omega) (by omega) (by omega)]; exact el
    have ec : L2_X7_follow (n + 1) v (t0 : Int) (left : Int) (i : Int) = if i < len then L7_X7_follow (L2_X7_follow n) 5 v (t0 : Int) (left : Int) (i : Int) ((0 : Nat) : Int) else (v, 0) := by
      show g3l_X7_follow (L2_X7_follow n) v (t0 : Int) (left : Int) (i : Int) = _
      simp only [g3l_X7_follow, g4b_X7_follow, g5_X7_follow, g6_X7_follow, e5]
      by_cases z : i < len
      · rw [if_pos z, if_pos (by omega)]
        rfl
      · rw [if_neg z, if_neg (by omega)]
    have er : L2_X12_laysTurns (n + 1) y (len : Int) ((4 * c + d : Nat) : Int) (left : Int) (i : Int) = if i < len then L8_X12_laysTurns (L2_X12_laysTurns n) 5 y (len : Int) ((4 * c + d : Nat) : Int) (left : Int) (i : Int) ((0 : Nat) : Int) else (xup y 0 0 28 ((4 * c + d : Nat) : Int), 0) := by
      show g3l_X12_laysTurns (L2_X12_laysTurns n) y (len : Int) ((4 * c + d : Nat) : Int) (left : Int) (i : Int) = _
      simp only [g3l_X12_laysTurns, g4b_X12_laysTurns, g5_X12_laysTurns, g6_X12_laysTurns, g7w_X12_laysTurns]
      by_cases z : i < len
      · rw [if_pos z, if_pos (by omega)]
        rfl
      · rw [if_neg z, if_neg (by omega)]
    rw [ec, er]
    by_cases z : i < len
    · rw [if_pos z, if_pos z]
      have yr : y 1 1 = m0 1 1 := by rw [← hA]; exact funext fun k => Fy _ _ _ (by omega) (by omega)
      obtain ⟨l, l1, l2⟩ := ex
      have gx := GoT.ex L z hc l2 l1
      obtain ⟨u, T1, k1, q1, a1, a2, a3, a4, a5, a6, a7, a8, a9, a10⟩ := fo_in (Fv.cs H) (Fv.ld L) (K := K) e5 e6 h240 h60 z hc hd hK h1000 ((Bj (len - i - 1) (by omega)).fr (funext fun x => Fv _ _ _ (by omega) (by omega) (by omega))) (R11 := L2_X7_follow n) 5 0 v Vv FrF.rf (fun T' q => absurd q (by omega)) gx (by decide) (by decide)
      have tu := tu_in (m := y) (by rw [yr]; exact L) (t0 := t0) (hh := hh) (cc := cc) (left := left) (by rw [yr]; exact Fy.ll W) hl h60 z hc hd (by omega) (fun x hx => by
        rw [yr, Fy _ _ _ (by omega) (by omega)]
        exact R (i + 1) (by omega) x hx) (R21 := L2_X12_laysTurns n) 5 0 (fun T' q => absurd q (by omega)) (by rw [yr]; exact gx) (by decide) (by decide)
      rw [yr] at tu
      obtain ⟨T2, k2, q2, b1, b2, b3, b4, b5, b6, b7⟩ := tu
      have TT : T2 = T1 := GoT.un b2 a2 b3 a3
      subst TT
      have kk : k2 = k1 := by omega
      have qq : q2 = q1 := by omega
      subst kk
      subst qq
      rw [a10, b7]
      obtain ⟨k', q', l', c1, c2, c3, c4, c5⟩ := a2
      have k3 : k' = k2 := by omega
      rw [k3] at c4
      refine ih (i + 1) k2 (tdr d T2) (left - q2) _ _ ?_ ?_ ?_ ?_ ?_ a5 (tdr_lt d T2) (by omega) ⟨l', by omega, by rw [show len - (i + 1) = len - i - 1 by omega]; exact c4⟩ (by omega) (by omega)
      · exact a8.fr (by rw [xup_k (by decide), xup_t (by decide)]) (fun c' k' q => by rw [xup_t (by decide), xup_c (by omega)])
      · intro t c' k' p1 p2 p3
        have f1 : xup (xup u 1 89 i (T2 : Int)) 0 87 6 ((4 * k2 + tdr d T2 : Nat) : Int) t c' k' = u t c' k' := by
          unfold xup
          rw [if_neg (by omega), if_neg (by omega)]
        rw [f1, a9 t c' k' (by omega) p2]
        exact Fv t c' k' p1 p2 p3
      · rw [xup_s]
      · intro t c' k' p1 p2
        have f1 : xup y 1 13 i (T2 : Int) t c' k' = y t c' k' := if_neg (by omega)
        rw [f1]
        exact Fy t c' k' p1 p2
      · intro x hx
        rw [xup_t (by decide)]
        by_cases xi : x = i
        · rw [xi, xup_s, xup_s]
          exact ⟨rfl, by omega, by omega⟩
        · rw [xup_k xi, xup_k xi, a9 _ _ _ (by omega) (by omega)]
          exact eq x (by omega)
    · rw [if_neg z, if_neg z]
      have il : i = len := by omega
      subst il
      refine ⟨v, _, rfl, rfl, Vv, Fv, ?_, fun x hx => ?_, ?_⟩
      · intro t c' k' p1 p2
        have f1 : xup y 0 0 28 ((4 * c + d : Nat) : Int) t c' k' = y t c' k' := if_neg (by omega)
        rw [f1]
        exact Fy t c' k' p1 p2
      · rw [xup_t (by decide)]
        exact eq x hx
      · rw [xup_s]
        exact e6
