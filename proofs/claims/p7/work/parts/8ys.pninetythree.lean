/-! the fewest lefts, the class -/
def AnyW (A : Nat → Int) (mo : Nat → Prop) (t0 c0 d0 c n l : Nat) : Prop := ∃ i d, i ≤ n ∧ d < 4 ∧ Wy A mo t0 c0 d0 i c d l
def LfW (A : Nat → Int) (mo : Nat → Prop) (t0 c0 d0 c n : Nat) (r : Int) : Prop := (r = -1 ∧ ∀ l, ¬ AnyW A mo t0 c0 d0 c n l) ∨ ∃ l : Nat, r = (l : Int) ∧ AnyW A mo t0 c0 d0 c n l ∧ ∀ l', l' < l → ¬ AnyW A mo t0 c0 d0 c n l'
theorem LfW.uq {A : Nat → Int} {mo : Nat → Prop} {t0 c0 d0 c n : Nat} {r r' : Int} (h : LfW A mo t0 c0 d0 c n r) (g : LfW A mo t0 c0 d0 c n r') : r = r' := by
  rcases h with ⟨h1, h2⟩ | ⟨l, h1, h2, h3⟩
  · rcases g with ⟨g1, g2⟩ | ⟨k, g1, g2, g3⟩
    · rw [h1, g1]
    · exact absurd g2 (h2 k)
  · rcases g with ⟨g1, g2⟩ | ⟨k, g1, g2, g3⟩
    · exact absurd h2 (g2 l)
    · by_cases z : l < k
      · exact absurd h2 (g3 l z)
      · by_cases y : k < l
        · exact absurd g2 (h3 k y)
        · rw [h1, g1]; omega
theorem SQ.u5 {N : Nat} {s : XS} {v : Int} (h : SQ N s) : SQ N (xup s 0 83 5 v) := by
  obtain ⟨a, b, h1, h2, h3, h4, t, h5, h6, h7⟩ := h
  exact ⟨a, b, h1, (xup_t (by decide)).trans h2, (xup_t (by decide)).trans h3, fun j hj => (xup_t (by decide)).trans (h4 j hj), t, (xup_k (by decide)).trans h5, h6, fun j hj => (xup_t (by decide)).trans (h7 j hj)⟩
theorem RT.u5 {A : Nat → Int} {mo : Nat → Prop} {t0 c0 d0 N i K : Nat} {s : XS} {v : Int} (h : RT A mo t0 c0 d0 N i K s) : RT A mo t0 c0 d0 N i K (xup s 0 83 5 v) := by
  obtain ⟨h1, a, h2, h3⟩ := h
  refine ⟨h1.u5, a, (xup_t (by decide)).trans h2, fun l d c q1 q2 q3 => ?_⟩
  rw [xup_t (by decide)]
  exact h3 l d c q1 q2 q3
theorem FrG.u5 {s : XS} {v : Int} : FrG (xup s 0 83 5 v) s := fun t c k _ _ q => if_neg (fun y => q y.2.1)
/-- what has been found ahead of street x -/
def FlI (A : Nat → Int) (mo : Nat → Prop) (t0 c0 d0 c x : Nat) (best most : Int) : Prop := (best = -1 ∧ most = 120 ∧ ∀ i d l, i < x → d < 4 → ¬ Wy A mo t0 c0 d0 i c d l) ∨ ∃ l : Nat, best = (l : Int) ∧ l ≤ 120 ∧ most = (l : Int) - 1 ∧ (∃ i d, i < x ∧ d < 4 ∧ Wy A mo t0 c0 d0 i c d l) ∧ ∀ i d l', i < x → d < 4 → l' < l → ¬ Wy A mo t0 c0 d0 i c d l'
theorem FlI.end {A : Nat → Int} {mo : Nat → Prop} {t0 c0 d0 c n x : Nat} {best most : Int} (h : FlI A mo t0 c0 d0 c x best most) (hx : x ≤ n + 1) (q : n < x ∨ most < 0) : LfW A mo t0 c0 d0 c n best := by
  rcases h with ⟨h1, h2, h3⟩ | ⟨l, h1, h2, h3, ⟨i, d, h4, h5, h6⟩, h7⟩
  · refine Or.inl ⟨h1, fun l hl => ?_⟩
    obtain ⟨i, d, q1, q2, q3⟩ := hl
    exact h3 i d l (by omega) q2 q3
  · refine Or.inr ⟨l, h1, ⟨i, d, by omega, h5, h6⟩, fun l' hl' hl => ?_⟩
    obtain ⟨i', d', q1, q2, q3⟩ := hl
    exact h7 i' d' l' (by omega) q2 hl' q3
theorem fl_l {B : Int} {w h : Nat} {m : XS} {t0 c0 d0 c n' : Nat} (hc0 : c0 < w * h) (hd0 : d0 < 4) (hc : c < w * h) (hn : n' ≤ 60) (ht : t0 + n' ≤ 240) {mo : Nat → Prop} {more : Int} (hmo : ∀ c, c < w * h → (bz more c = true ↔ mo c)) : ∀ (n x : Nat) (best most : Int) (s : XS), CS B w h s m → Ld s (m 1 1) w h → FV (w * h) s (m 1 1) → x ≤ n' + 1 → n' + 1 < x + n → SQ 0 s → FlI (m 1 1) mo t0 c0 d0 c x best most → (x ≤ n' → 0 ≤ most → RT (m 1 1) mo t0 c0 d0 (w * h) x most.toNat s) → (∀ l : Nat, best = (l : Int) → ∃ i d : Nat, i ≤ n' ∧ s 0 83 5 = (i : Int) ∧ d < 4 ∧ Wy (m 1 1) mo t0 c0 d0 i c d l) → ∃ u r, L2_X8_fewestLefts n s (t0 : Int) (c : Int) (n' : Int) more best most (x : Int) = (u, r) ∧ FV (w * h) u (m 1 1) ∧ FrG u s ∧ SQ 0 u ∧ LfW (m 1 1) mo t0 c0 d0 c n' r ∧ (∀ l : Nat, r = (l : Int) → ∃ i d : Nat, i ≤ n' ∧ u 0 83 5 = (i : Int) ∧ d < 4 ∧ Wy (m 1 1) mo t0 c0 d0 i c d l) := by
  intro n
  induction n with
  | zero => intro x best most s _ _ _ h1 h2; omega
  | succ n ih =>
    intro x best most s H L V h1 h2 Sq I T S5
    have b25 := L.b25
    have e0 : (f_X8_lowest s (c : Int) most).1 = s := (low_q s _ _).1
    have e : L2_X8_fewestLefts (n + 1) s (t0 : Int) (c : Int) (n' : Int) more best most (x : Int) = if n' < x then (s, best) else if most < 0 then (s, best) else if (f_X8_lowest s (c : Int) most).2 < 0 then (if x < n' then L2_X8_fewestLefts n (f_X8_goOn s ((t0 + x : Nat) : Int) more most).1 (t0 : Int) (c : Int) (n' : Int) more best most ((x + 1 : Nat) : Int) else L2_X8_fewestLefts n s (t0 : Int) (c : Int) (n' : Int) more best most ((x + 1 : Nat) : Int)) else (if x < n' then (if (f_X8_lowest s (c : Int) most).2 - 1 < 0 then L2_X8_fewestLefts n (xup s 0 83 5 (x : Int)) (t0 : Int) (c : Int) (n' : Int) more 0 (-1) ((x + 1 : Nat) : Int) else L2_X8_fewestLefts n (f_X8_goOn (xup s 0 83 5 (x : Int)) ((t0 + x : Nat) : Int) more ((f_X8_lowest s (c : Int) most).2 - 1)).1 (t0 : Int) (c : Int) (n' : Int) more (f_X8_lowest s (c : Int) most).2 ((f_X8_lowest s (c : Int) most).2 - 1) ((x + 1 : Nat) : Int)) else L2_X8_fewestLefts n (xup s 0 83 5 (x : Int)) (t0 : Int) (c : Int) (n' : Int) more (f_X8_lowest s (c : Int) most).2 ((f_X8_lowest s (c : Int) most).2 - 1) ((x + 1 : Nat) : Int)) := by
      show g3l_X8_fewestLefts (L2_X8_fewestLefts n) s (t0 : Int) (c : Int) (n' : Int) more best most (x : Int) = _
      simp only [f_X8_fewestLefts, g1c_X8_fewestLefts, g3l_X8_fewestLefts, g4b_X8_fewestLefts, g5_X8_fewestLefts, g6_X8_fewestLefts, g7b_X8_fewestLefts, g8_X8_fewestLefts, g9_X8_fewestLefts, g10c_X8_fewestLefts, g11b_X8_fewestLefts, g12_X8_fewestLefts, g13_X8_fewestLefts, g14b_X8_fewestLefts, g15_X8_fewestLefts, g16_X8_fewestLefts, g17c_X8_fewestLefts, g18w_X8_fewestLefts, g19b_X8_fewestLefts, g20_X8_fewestLefts, g21_X8_fewestLefts, g22b_X8_fewestLefts, g23_X8_fewestLefts, g24_X8_fewestLefts, g25c_X8_fewestLefts, e0]
      by_cases z : n' < x
      · rw [if_pos z, if_pos (show (n' : Int) < (x : Int) by omega)]
      · rw [if_neg z, if_neg (show ¬ (n' : Int) < (x : Int) by omega)]
        by_cases y : x < n'
        · rw [if_pos y, if_pos y, if_pos (show (x : Int) < (n' : Int) by omega), if_pos (show (x : Int) < (n' : Int) by omega)]
          rfl
        · rw [if_neg y, if_neg y, if_neg (show ¬ (x : Int) < (n' : Int) by omega), if_neg (show ¬ (x : Int) < (n' : Int) by omega)]
          rfl
    rw [e]
    by_cases z : n' < x
    · rw [if_pos z]
      exact ⟨s, best, rfl, V, FrG.rf, Sq, I.end h1 (Or.inl z), S5⟩
    rw [if_neg z]
    by_cases y0 : most < 0
    · rw [if_pos y0]
      exact ⟨s, best, rfl, V, FrG.rf, Sq, I.end h1 (Or.inr y0), S5⟩
    rw [if_neg y0]
    obtain ⟨M, rfl⟩ : ∃ M : Nat, most = (M : Int) := ⟨most.toNat, by omega⟩
    have Tx : RT (m 1 1) mo t0 c0 d0 (w * h) x M s := T (by omega) (by omega)
    have M120 : M ≤ 120 := by
      rcases I with ⟨-, q, -⟩ | ⟨l, -, q1, q2, -⟩
      · omega
      · omega
    obtain ⟨r, r1, r2⟩ := low_s Tx (c := c) (most := M) hc b25 (Nat.le_refl _)
    rw [r1]
    dsimp only
    rcases r2 with ⟨q1, q2⟩ | ⟨l, q1, q2, ⟨d, q3, q4⟩, q5⟩
    · rw [if_pos (by omega)]
      have I' : FlI (m 1 1) mo t0 c0 d0 c (x + 1) best (M : Int) := by
        rcases I with ⟨i1, i2, i3⟩ | ⟨l, i1, i2, i3, ⟨i, d, i4, i5, i6⟩, i7⟩
        · refine Or.inl ⟨i1, i2, fun i d l hi hd hw => ?_⟩
          by_cases ix : i = x
          · subst ix
            have := Wy.le i c d l hw
            exact q2 l d (by omega) hd hw
          · exact i3 i d l (by omega) hd hw
        · refine Or.inr ⟨l, i1, i2, i3, ⟨i, d, by omega, i5, i6⟩, fun i d l' hi hd hl hw => ?_⟩
          by_cases ix : i = x
          · subst ix
            exact q2 l' d (by omega) hd hw
          · exact i7 i d l' (by omega) hd hl hw
      by_cases y : x < n'
      · rw [if_pos y]
        obtain ⟨u, u1, u2, u3, u4⟩ := goOn_s H L V (t0 := t0) (i := x) (K := M) (most := M) hc0 hd0 Tx (by omega) (Nat.le_refl _) M120 hmo
        rw [u1]
        obtain ⟨v, r', v1, v2, v3, v4, v5, v6⟩ := ih (x + 1) best (M : Int) u (u3.cs H) (u3.ld L) u2 (by omega) (by omega) u4.1 I' (fun _ _ => u4) (fun l q => by
          obtain ⟨i, d, i1, i2, i3⟩ := S5 l q
          refine ⟨i, d, i1, ?_, i3⟩
          have k := k85_f_X8_goOn (s := s) (a1 := ((t0 + x : Nat) : Int)) (a2 := more) (a3 := (M : Int)) 0 83 5 ⟨rfl, rfl, rfl⟩
          rw [u1] at k
          exact k.trans i2)
        exact ⟨v, r', v1, v2, v3.tr u3, v4, v5, v6⟩
      · rw [if_neg y]
        exact ih (x + 1) best (M : Int) s H L V (by omega) (by omega) Sq I' (fun q => absurd q (by omega)) S5
    · rw [if_neg (by omega), q2]
      have I' : FlI (m 1 1) mo t0 c0 d0 c (x + 1) (l : Int) ((l : Int) - 1) := by
        refine Or.inr ⟨l, rfl, by omega, rfl, ⟨x, d, by omega, q3, q4⟩, fun i d l' hi hd hl hw => ?_⟩
        by_cases ix : i = x
        · subst ix
          exact q5 l' hl d hd hw
        · rcases I with ⟨i1, i2, i3⟩ | ⟨l0, i1, i2, i3, -, i7⟩
          · exact i3 i d l' (by omega) hd hw
          · exact i7 i d l' (by omega) hd (by omega) hw
      have H5 : CS B w h (xup s 0 83 5 (x : Int)) m := FrG.cs FrG.u5 H
      have L5 : Ld (xup s 0 83 5 (x : Int)) (m 1 1) w h := FrG.ld FrG.u5 L
      have V5 : FV (w * h) (xup s 0 83 5 (x : Int)) (m 1 1) := V.fr (xup_c (by decide)) (fun c k q => xup_t (by decide))
      have five : ∀ l' : Nat, (l : Int) = (l' : Int) → ∃ i d : Nat, i ≤ n' ∧ xup s 0 83 5 (x : Int) 0 83 5 = (i : Int) ∧ d < 4 ∧ Wy (m 1 1) mo t0 c0 d0 i c d l' := fun l' e => ⟨x, d, by omega, xup_s, q3, by rw [show l' = l by omega]; exact q4⟩
      by_cases y : x < n'
      · rw [if_pos y]
        by_cases yl : (l : Int) - 1 < 0
        · rw [if_pos yl]
          have l0 : l = 0 := by omega
          subst l0
          have e2 : ((0 : Nat) : Int) - 1 = -1 := rfl
          have e1 : ((0 : Nat) : Int) = 0 := rfl
          rw [e2, e1] at I'
          obtain ⟨v, r', v1, v2, v3, v4, v5, v6⟩ := ih (x + 1) 0 (-1) _ H5 L5 V5 (by omega) (by omega) Sq.u5 I' (fun _ q => absurd q (by decide)) (fun l' e => five l' (by omega))
          exact ⟨v, r', v1, v2, v3.tr FrG.u5, v4, v5, v6⟩
        · rw [if_neg yl]
          obtain ⟨l1, rfl⟩ : ∃ l1, l = l1 + 1 := ⟨l - 1, by omega⟩
          have el : ((l1 + 1 : Nat) : Int) - 1 = (l1 : Int) := by omega
          rw [el] at I' ⊢
          obtain ⟨u, u1, u2, u3, u4⟩ := goOn_s H5 L5 V5 (t0 := t0) (i := x) (K := M) (most := l1) hc0 hd0 Tx.u5 (by omega) (by omega) (by omega) hmo
          rw [u1]
          obtain ⟨v, r', v1, v2, v3, v4, v5, v6⟩ := ih (x + 1) ((l1 + 1 : Nat) : Int) (l1 : Int) u (u3.cs H5) (u3.ld L5) u2 (by omega) (by omega) u4.1 I' (fun _ _ => u4) (fun l' q => by
            obtain ⟨i, d, i1, i2, i3⟩ := five l' q
            refine ⟨i, d, i1, ?_, i3⟩
            have k := k85_f_X8_goOn (s := xup s 0 83 5 (x : Int)) (a1 := ((t0 + x : Nat) : Int)) (a2 := more) (a3 := (l1 : Int)) 0 83 5 ⟨rfl, rfl, rfl⟩
            rw [u1] at k
            exact k.trans i2)
          exact ⟨v, r', v1, v2, (v3.tr u3).tr FrG.u5, v4, v5, v6⟩
      · rw [if_neg y]
        obtain ⟨v, r', v1, v2, v3, v4, v5, v6⟩ := ih (x + 1) (l : Int) ((l : Int) - 1) _ H5 L5 V5 (by omega) (by omega) Sq.u5 I' (fun q => absurd q (by omega)) five
        exact ⟨v, r', v1, v2, v3.tr FrG.u5, v4, v5, v6⟩
theorem begin_v {N : Nat} {s : XS} {A : Nat → Int} {c0 d0 : Nat} (Sq : SQ 0 s) (hd : d0 < 4) (hc : 4 * c0 + d0 < 1000) (V : FV N s A) : FV N (f_X8_begin s ((4 * c0 + d0 : Nat) : Int)).1 A := by
  obtain ⟨a, b, tp, S, Sb, Sa⟩ := Sq.ex
  have hab := S.1
  obtain ⟨u, u1, -, -, u4⟩ := begin_x S (fun j hj => Sa j hj) (c := c0) (d := d0) hd hc
  rw [u1]
  exact V.fr (u4 _ _ _ (by omega) (by omega)) (fun c k q => u4 _ _ _ (by omega) (by omega))
theorem fewestLefts_s {B : Int} {w h : Nat} {s m : XS} (H : CS B w h s m) (L : Ld s (m 1 1) w h) (V : FV (w * h) s (m 1 1)) (Sq : SQ 0 s) {t0 c0 d0 c n' : Nat} (hc0 : c0 < w * h) (hd0 : d0 < 4) (hc : c < w * h) (hn : n' ≤ 60) (ht : t0 + n' ≤ 240) {mo : Nat → Prop} {more : Int} (hmo : ∀ c, c < w * h → (bz more c = true ↔ mo c)) : ∃ u r, f_X8_fewestLefts s ((4 * c0 + d0 : Nat) : Int) (t0 : Int) (c : Int) (n' : Int) more = (u, r) ∧ FV (w * h) u (m 1 1) ∧ FrG u s ∧ SQ 0 u ∧ LfW (m 1 1) mo t0 c0 d0 c n' r ∧ (∀ l : Nat, r = (l : Int) → ∃ i d : Nat, i ≤ n' ∧ u 0 83 5 = (i : Int) ∧ d < 4 ∧ Wy (m 1 1) mo t0 c0 d0 i c d l) := by
  have b25 := L.b25
  obtain ⟨v, v1, v2, v3⟩ := begin_s (A := m 1 1) (mo := mo) (t0 := t0) (K := 120) Sq hd0 hc0 b25
  have Vv := begin_v (c0 := c0) (d0 := d0) Sq hd0 (by omega) V
  rw [v1] at Vv
  have e : f_X8_fewestLefts s ((4 * c0 + d0 : Nat) : Int) (t0 : Int) (c : Int) (n' : Int) more = L2_X8_fewestLefts (Int.toNat (61 - 0 + 1)) (f_X8_begin s ((4 * c0 + d0 : Nat) : Int)).1 (t0 : Int) (c : Int) (n' : Int) more (-1) 120 0 := rfl
  rw [e, v1]
  obtain ⟨u, r, u1, u2, u3, u4, u5, u6⟩ := fl_l (n' := n') hc0 hd0 hc hn ht hmo (Int.toNat (61 - 0 + 1)) 0 (-1) 120 v (v2.cs H) (v2.ld L) Vv (by omega) (by show n' + 1 < 0 + 62; omega) v3.1 (Or.inl ⟨rfl, rfl, fun i d l hi => absurd hi (by omega)⟩) (fun _ _ => v3) (fun l q => absurd q (by omega))
  exact ⟨u, r, u1, u2, u3.tr v2, u4, u5, u6⟩
/-- the reference: the least of all hours -/
theorem LsV.mi {P Q : Nat → Prop} {a b : Int} (h : LsV P a) (g : LsV Q b) : LsV (fun l => P l ∨ Q l) (min a b) := by
  rcases h with ⟨h1, h2⟩ | ⟨l, h0, h1, h2, h3⟩
  · rcases g with ⟨g1, g2⟩ | ⟨k, g0, g1, g2, g3⟩
    · exact Or.inl ⟨by omega, fun l q => q.elim (h2 l) (g2 l)⟩
    · exact Or.inr ⟨k, g0, by omega, Or.inr g2, fun l' hl q => q.elim (h2 l') (g3 l' hl)⟩
  · rcases g with ⟨g1, g2⟩ | ⟨k, g0, g1, g2, g3⟩
    · exact Or.inr ⟨l, h0, by omega, Or.inl h2, fun l' hl q => q.elim (h3 l' hl) (g2 l')⟩
    · by_cases z : l ≤ k
      · exact Or.inr ⟨l, h0, by omega, Or.inl h2, fun l' hl q => q.elim (h3 l' hl) (g3 l' (by omega))⟩
      · exact Or.inr ⟨k, g0, by omega, Or.inr g2, fun l' hl q => q.elim (h3 l' (by omega)) (g3 l' hl)⟩
theorem lw_l {m : XS} {A : Nat → Int} {mo : Nat → Prop} {H0 c0 d0 c n' : Nat} (D : ∀ i, i ≤ n' → ∀ y, y < 100 → DV A mo H0 c0 d0 i y (m 1 8 (100 * i + y))) (hc : c < 25) : ∀ (n x : Nat) (best : Int), x ≤ n' + 1 → n' + 1 < x + n → LsV (fun l => ∃ i d, i < x ∧ d < 4 ∧ Wy A mo H0 c0 d0 i c d l) best → ∃ v, L1_X12_leastWithin n m (c : Int) (n' : Int) best (x : Int) = (m, v) ∧ LsV (AnyW A mo H0 c0 d0 c n') v := by
  intro n
  induction n with
  | zero => intro x best h1 h2; omega
  | succ n ih =>
    intro x best h1 h2 P
    have e : L1_X12_leastWithin (n + 1) m (c : Int) (n' : Int) best (x : Int) = if n' < x then (m, best) else L1_X12_leastWithin n (f_X12_leastAt m (x : Int) (c : Int)).1 (c : Int) (n' : Int) (min best (f_X12_leastAt m (x : Int) (c : Int)).2) ((x + 1 : Nat) : Int) := by
      show g2l_X12_leastWithin (L1_X12_leastWithin n) m (c : Int) (n' : Int) best (x : Int) = _
      simp only [g2l_X12_leastWithin, g3b_X12_leastWithin, g4_X12_leastWithin, g5_X12_leastWithin, g6c_X12_leastWithin, g7c_X12_leastWithin, lesser_x]
      by_cases z : n' < x
      · rw [if_pos z, if_pos (show (n' : Int) < (x : Int) by omega)]
      · rw [if_neg z, if_neg (show ¬ (n' : Int) < (x : Int) by omega)]
        rfl
    rw [e]
    by_cases z : n' < x
    · rw [if_pos z]
      refine ⟨best, rfl, P.iff (fun l => ?_)⟩
      constructor
      · rintro ⟨i, d, q1, q2, q3⟩
        exact ⟨i, d, by omega, q2, q3⟩
      · rintro ⟨i, d, q1, q2, q3⟩
        exact ⟨i, d, by omega, q2, q3⟩
    · rw [if_neg z]
      obtain ⟨v, v1, v2⟩ := least_x (D x (by omega)) hc
      rw [v1]
      dsimp only
      refine ih (x + 1) (min best v) (by omega) (by omega) ((P.mi v2).iff (fun l => ?_))
      constructor
      · rintro (⟨i, d, q1, q2, q3⟩ | ⟨d, q2, q3⟩)
        · exact ⟨i, d, by omega, q2, q3⟩
        · exact ⟨x, d, by omega, q2, q3⟩
      · rintro ⟨i, d, q1, q2, q3⟩
        by_cases ix : i = x
        · subst ix
          exact Or.inr ⟨d, q2, q3⟩
        · exact Or.inl ⟨i, d, by omega, q2, q3⟩
theorem within_l {m : XS} {A : Nat → Int} {mo : Nat → Prop} {H0 c0 d0 c n' : Nat} (hn : n' ≤ 60) (D : ∀ i, i ≤ n' → ∀ y, y < 100 → DV A mo H0 c0 d0 i y (m 1 8 (100 * i + y))) (hc : c < 25) : ∃ v, f_X12_leastWithin m (c : Int) (n' : Int) = (m, v) ∧ LsV (AnyW A mo H0 c0 d0 c n') v :=
  lw_l D hc (Int.toNat (61 - 0 + 1)) 0 1000000000 (by omega) (by show n' + 1 < 0 + 62; omega) (Or.inl ⟨rfl, fun l => by rintro ⟨i, d, q, -⟩; omega⟩)
theorem LsV.lf {A : Nat → Int} {mo : Nat → Prop} {t0 c0 d0 c n : Nat} {v : Int} (h : LsV (AnyW A mo t0 c0 d0 c n) v) : LfW A mo t0 c0 d0 c n (if v = 1000000000 then -1 else v) := by
  rcases h with ⟨h1, h2⟩ | ⟨l, h0, h1, h2, h3⟩
  · rw [if_pos h1]; exact Or.inl ⟨rfl, h2⟩
  · rw [if_neg (by omega)]; exact Or.inr ⟨l, h1, h2, h3⟩
theorem laysFor_x {B : Int} {w h : Nat} {s m : XS} (H : CS B w h s m) (L : Ld s (m 1 1) w h) {p c0 d0 n' : Nat} (hp0 : m 1 1 (36 + p) = (c0 : Int)) (hp1 : m 1 1 (41 + p) = (d0 : Int)) (hc0 : c0 < w * h) (hd0 : d0 < 4) (hn : n' ≤ 60) : ∃ v, f_X12_laysFor m (p : Int) (n' : Int) 0 = (v, 0) ∧ FrWo v m ∧ LLo (m 1 1) noM (w * h) 0 n' v ∧ ∀ i, i ≤ n' → ∀ y, y < 100 → DV (m 1 1) noM 0 c0 d0 i y (v 1 8 (100 * i + y)) := by
  obtain ⟨m1, hm1⟩ : ∃ m1, m1 = xup m 0 0 26 0 := ⟨_, rfl⟩
  have r1 : m1 1 1 = m 1 1 := funext fun x => by rw [hm1, xup_t (by decide)]
  obtain ⟨m2, a1, a2, a3⟩ := laws_x (H.fr FrA.rf r1) (H0 := 0) (hh := n') (by rw [hm1, xup_s]; rfl) hn (by omega)
  have r2 : m2 1 1 = m 1 1 := a2.row.trans r1
  rw [r1] at a3
  obtain ⟨m3, b1, b2, b3⟩ := sofar_x (s := s) (m := m2) (w := w) (h := h) (by rw [r2]; exact L) (mo := noM) (H0 := 0) (hh := n') (by rw [r2]; exact a3.o) hn (by omega) hc0 hd0
  rw [r2] at b3
  refine ⟨m3, ?_, fun t c' k' q1 q2 => ?_, b2.ll a3.o, b3⟩
  · have e36 : m2 1 1 (Int.toNat (36 + (p : Int))) = (c0 : Int) := by rw [r2, show Int.toNat (36 + (p : Int)) = 36 + p by omega]; exact hp0
    have e41 : m2 1 1 (Int.toNat (41 + (p : Int))) = (d0 : Int) := by rw [r2, show Int.toNat (41 + (p : Int)) = 41 + p by omega]; exact hp1
    simp only [f_X12_laysFor, g1w_X12_laysFor, g2c_X12_laysFor, g3c_X12_laysFor, ← hm1, a1, e36, e41, b1]
  · rw [b2 t c' k' (by omega), a2 t c' k' (by omega), hm1]
    exact if_neg q2
theorem few_ec (s : XS) (a1 a2 a3 : Int) : f_X11_fewest s a1 a2 a3 = if 0 ≤ a1 ∧ a1 < s 0 10 7 then (if 0 ≤ a2 ∧ a2 < s 0 1 5 * s 0 1 6 then (if a3 < 0 then (s, -3) else if 60 < a3 then (s, -3) else f_X8_fewestLefts s (4 * s 1 11 a1.toNat + s 1 12 a1.toNat) 0 a2 a3 0) else (s, -2)) else (s, -2) := by
  simp only [f_X11_fewest, g1c_X11_fewest, g2b_X11_fewest, g3_X11_fewest, g4_X11_fewest, g5c_X11_fewest, g6b_X11_fewest, g7_X11_fewest, g8_X11_fewest, g9b_X11_fewest, g10_X11_fewest, g11_X11_fewest, g12b_X11_fewest, g13_X11_fewest, g14_X11_fewest, g15c_X11_fewest, g16c_X11_fewest, ispC_x, iscC_x, f_X1_stand]
  by_cases z : 0 ≤ a1 ∧ a1 < s 0 10 7
  · rw [if_pos z, if_neg (show ¬ (1 : Int) = 0 by decide), if_pos z]
    by_cases y : 0 ≤ a2 ∧ a2 < s 0 1 5 * s 0 1 6
    · rw [if_pos y, if_neg (show ¬ (1 : Int) = 0 by decide), if_pos y]
    · rw [if_neg y, if_pos rfl, if_neg y]
  · rw [if_neg z, if_pos rfl, if_neg z]
theorem few_em (m : XS) (a1 a2 a3 : Int) : f_X12_fewest m a1 a2 a3 = if (0 ≤ a1 ∧ a1 < m 1 1 3) ∧ (0 ≤ a2 ∧ a2 ≤ m 1 1 1 * m 1 1 2 - 1) then (if 0 ≤ a3 ∧ a3 ≤ 60 then g8_X12_fewest (xup m 0 0 0 0) a1 a2 a3 else (xup m 0 0 0 0, -3)) else (xup m 0 0 0 0, -2) := by
  have f3 : ∀ k, (xup m 0 0 0 0) 1 1 k = m 1 1 k := fun k => xup_t (by decide)
  simp only [f_X12_fewest, g1w_X12_fewest, g2c_X12_fewest, g3b_X12_fewest, g4_X12_fewest, g5_X12_fewest, g6c_X12_fewest, g7b_X12_fewest, g9_X12_fewest, athM_x, within_x, f3]
  by_cases z : 0 ≤ a1 ∧ a1 < m 1 1 3
  · by_cases y : 0 ≤ a2 ∧ a2 ≤ m 1 1 1 * m 1 1 2 - 1
    · rw [if_pos z, if_pos y, if_neg (show ¬ (1 : Int) = 0 by decide), if_pos (show (0 ≤ a1 ∧ a1 < m 1 1 3) ∧ (0 ≤ a2 ∧ a2 ≤ m 1 1 1 * m 1 1 2 - 1) from ⟨z, y⟩)]
      by_cases x : 0 ≤ a3 ∧ a3 ≤ 60
      · rw [if_pos x, if_neg (show ¬ (1 : Int) = 0 by decide), if_pos x]
      · rw [if_neg x, if_pos rfl, if_neg x]
    · rw [if_pos z, if_neg y, if_pos rfl, if_neg (show ¬ ((0 ≤ a1 ∧ a1 < m 1 1 3) ∧ (0 ≤ a2 ∧ a2 ≤ m 1 1 1 * m 1 1 2 - 1)) from fun q => y q.2)]
  · rw [if_neg z, if_pos rfl, if_neg (show ¬ ((0 ≤ a1 ∧ a1 < m 1 1 3) ∧ (0 ≤ a2 ∧ a2 ≤ m 1 1 1 * m 1 1 2 - 1)) from fun q => z q.1)]
theorem FrG.sh {u s : XS} (h : FrG u s) : FrSh u s := fun t c k q1 q2 q3 q4 => h t c k (by omega) q2 q4
theorem FrWo.mh {v m : XS} (h : FrWo v (xup m 0 0 0 0)) : FrMh v m := fun t c k q1 q2 => (h t c k (by omega) (by omega)).trans (FrMh.thr t c k q1 q2)
theorem fewest_x {B : Int} {w h : Nat} {s m : XS} (H : CS B w h s m) (V : FV (w * h) s (m 1 1)) (Sq : SQ 0 s) {a1 a2 a3 : Int} : (f_X11_fewest s a1 a2 a3).2 = (f_X12_fewest m a1 a2 a3).2 ∧ FV (w * h) (f_X11_fewest s a1 a2 a3).1 (m 1 1) ∧ SQ 0 (f_X11_fewest s a1 a2 a3).1 ∧ FrSh (f_X11_fewest s a1 a2 a3).1 s ∧ FrMh (f_X12_fewest m a1 a2 a3).1 m := by
  obtain ⟨n1, n2⟩ := H.who
  have b25 := H.1.b25
  rw [few_ec, few_em, n1, n2, ← H.pl.1]
  have none : ∀ x : Int, ((s, x) : XR).2 = ((xup m 0 0 0 0, x) : XR).2 ∧ FV (w * h) s (m 1 1) ∧ SQ 0 s ∧ FrSh s s ∧ FrMh (xup m 0 0 0 0) m := fun x => ⟨rfl, V, Sq, fun _ _ _ _ _ _ _ => rfl, FrMh.thr⟩
  by_cases z : 0 ≤ a1 ∧ a1 < m 1 1 3
  · rw [if_pos z]
    by_cases y : 0 ≤ a2 ∧ a2 < ((w * h : Nat) : Int)
    · rw [if_pos y, if_pos (show (0 ≤ a1 ∧ a1 < m 1 1 3) ∧ (0 ≤ a2 ∧ a2 ≤ ((w * h : Nat) : Int) - 1) from ⟨z, y.1, by omega⟩)]
      by_cases x : 0 ≤ a3 ∧ a3 ≤ 60
      · rw [if_neg (show ¬ a3 < 0 by omega), if_neg (show ¬ 60 < a3 by omega), if_pos x]
        obtain ⟨p, rfl⟩ : ∃ p : Nat, a1 = (p : Int) := ⟨a1.toNat, by omega⟩
        obtain ⟨c, rfl⟩ : ∃ c : Nat, a2 = (c : Int) := ⟨a2.toNat, by omega⟩
        obtain ⟨k, rfl⟩ : ∃ k : Nat, a3 = (k : Int) := ⟨a3.toNat, by omega⟩
        obtain ⟨⟨b1, b2⟩, ⟨b3, b4⟩, -⟩ := H.bd.1 p z.2
        obtain ⟨p1, p2, -⟩ := H.pl.2.2.2.2.1 p z.2
        obtain ⟨c0, h0⟩ : ∃ c0 : Nat, m 1 1 (36 + p) = (c0 : Int) := ⟨(m 1 1 (36 + p)).toNat, by omega⟩
        obtain ⟨d0, h1⟩ : ∃ d0 : Nat, m 1 1 (41 + p) = (d0 : Int) := ⟨(m 1 1 (41 + p)).toNat, by omega⟩
        have L := H.ld (show 0 < w * h by omega)
        rw [show (p : Int).toNat = p from rfl, p1, p2, h0, h1, show 4 * (c0 : Int) + (d0 : Int) = ((4 * c0 + d0 : Nat) : Int) by omega]
        obtain ⟨u, r, u1, u2, u3, u4, u5, -⟩ := fewestLefts_s H L V Sq (t0 := 0) (c0 := c0) (d0 := d0) (c := c) (n' := k) (by omega) (by omega) (by omega) (by omega) (by omega) (mo := noM) (more := 0) (fun c' _ => by rw [bz_0]; exact ⟨(fun q => by cases q), fun q => q.elim⟩)
        have u1' : f_X8_fewestLefts s ((4 * c0 + d0 : Nat) : Int) 0 (c : Int) (k : Int) 0 = (u, r) := u1
        have m0r : (xup m 0 0 0 0) 1 1 = m 1 1 := funext fun x => xup_t (by decide)
        obtain ⟨v, v1, v2, -, v3⟩ := laysFor_x (m := xup m 0 0 0 0) (H.fr FrA.rf m0r) (by rw [m0r]; exact L) (p := p) (c0 := c0) (d0 := d0) (n' := k) (by rw [m0r]; exact h0) (by rw [m0r]; exact h1) (by omega) (by omega) (by omega)
        rw [m0r] at v3
        obtain ⟨r', w1, w2⟩ := within_l (by omega) v3 (show c < 25 by omega)
        have em : g8_X12_fewest (xup m 0 0 0 0) (p : Int) (c : Int) (k : Int) = (v, if r' = 1000000000 then -1 else r') := by
          simp only [g8_X12_fewest, g10c_X12_fewest, g11c_X12_fewest, g12c_X12_fewest, v1, w1, f_X12_orNone, g1b_X12_orNone, g2_X12_orNone, g3_X12_orNone]
          split <;> rfl
        rw [u1', em]
        exact ⟨u5.uq w2.lf, u2, u4, u3.sh, v2.mh⟩
      · rw [if_neg x]
        by_cases x1 : a3 < 0
        · rw [if_pos x1]
          exact none _
        · rw [if_neg x1, if_pos (show 60 < a3 by omega)]
          exact none _
    · rw [if_neg y, if_neg (fun q => y ⟨q.2.1, by have := q.2.2; omega⟩)]
      exact none _
  · rw [if_neg z, if_neg (fun q => z q.1)]
    exact none _
theorem RA_fewest {N : Int} (h0 : 1000 ≤ N ∧ N ≤ 800000) {s m : XS} {a1 a2 a3 : Int} (h : RA N s m) : (f_X11_fewest s a1 a2 a3).2 = (f_X12_fewest m a1 a2 a3).2 ∧ RA (N + 120) (f_X11_fewest s a1 a2 a3).1 (f_X12_fewest m a1 a2 a3).1 := by
  obtain ⟨w, hh, H⟩ := h
  obtain ⟨e, V, S, F, G⟩ := fewest_x H.2.1 H.2.2.2.2.2.1 H.1.2 (a1 := a1) (a2 := a2) (a3 := a3)
  exact ⟨e, w, hh, (H.way F.ls.w G.lm.w S V (fun t ht => (H.2.2.2.2.1 t ht).sh ht F G)).le (by omega) (by omega)⟩
