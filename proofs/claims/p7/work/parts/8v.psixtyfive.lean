/-! the fewest streets with so many lefts: the class -/
def NoW (A : Nat → Int) (mo : Nat → Prop) (t0 c0 d0 K c i : Nat) : Prop := ∀ l d, l ≤ K → d < 4 → ¬ Wy A mo t0 c0 d0 i c d l
theorem begin_s {s : XS} {A : Nat → Int} {mo : Nat → Prop} {t0 c0 d0 N K : Nat} (Sq : SQ 0 s) (hd : d0 < 4) (hc : c0 < N) (hN : N ≤ 25) : ∃ u, f_X8_begin s ((4 * c0 + d0 : Nat) : Int) = (u, 0) ∧ FrG u s ∧ RT A mo t0 c0 d0 N 0 K u := by
  have bq := begin_q (a1 := ((4 * c0 + d0 : Nat) : Int)) Sq
  obtain ⟨a, b, tp, S, Sb, Sa⟩ := Sq.ex
  have hab := S.1
  obtain ⟨u, u1, u2, u3, u4⟩ := begin_x S (fun j hj => Sa j hj) (c := c0) (d := d0) hd (by omega)
  rw [u1] at bq
  refine ⟨u, u1, fun t c k q1 q2 q3 => u4 t c k (by omega) (by omega), bq, a, u2.2.1, fun l d c h1 h2 h3 => ?_⟩
  rw [u3]
  by_cases z : 4 * l + d = d0
  · rw [if_pos z, bz_one (by omega) h3, decide_eq_true_eq]
    constructor
    · intro q
      exact ⟨by omega, ⟨q, by omega, by omega⟩, fun l' q' => by omega⟩
    · rintro ⟨-, ⟨q, -, -⟩, -⟩
      exact q
  · rw [if_neg z, bz_0]
    constructor
    · intro q; cases q
    · rintro ⟨-, ⟨-, q1, q2⟩, -⟩
      omega
theorem low_s {s : XS} {A : Nat → Int} {mo : Nat → Prop} {t0 c0 d0 N i K : Nat} (T : RT A mo t0 c0 d0 N i K s) {c most : Nat} (hc : c < N) (hN : N ≤ 25) (hm : most ≤ K) : ∃ r, f_X8_lowest s (c : Int) (most : Int) = (s, r) ∧ ((r = -1 ∧ NoW A mo t0 c0 d0 most c i) ∨ ∃ l : Nat, l ≤ most ∧ r = (l : Int) ∧ (∃ d, d < 4 ∧ Wy A mo t0 c0 d0 i c d l) ∧ ∀ l', l' < l → ∀ d, d < 4 → ¬ Wy A mo t0 c0 d0 i c d l') := by
  obtain ⟨Sq, a, ea, Ta⟩ := T
  obtain ⟨a', b, tp, S, Sb, Sa⟩ := Sq.ex
  have aa : a' = a := by have := S.2.1; omega
  subst aa
  have any : ∀ l : Nat, ∃ v, f_X8_anyHeading s (l : Int) = (s, v) ∧ (bz v c = true ↔ ∃ d, d < 4 ∧ bz (s 1 a' (4 * l + d)) c = true) := fun l => by
    have e : f_X8_anyHeading s (l : Int) = (s, (Xior (Xior (Xior (s 1 (Int.toNat (s 3 83 2)) (Int.toNat (4 * (l : Int)))) (s 1 (Int.toNat (s 3 83 2)) (Int.toNat ((4 * (l : Int)) + 1)))) (s 1 (Int.toNat (s 3 83 2)) (Int.toNat ((4 * (l : Int)) + 2)))) (s 1 (Int.toNat (s 3 83 2)) (Int.toNat ((4 * (l : Int)) + 3))))) := rfl
    rw [S.ts, show Int.toNat (4 * (l : Int)) = 4 * l + 0 by omega, show Int.toNat ((4 * (l : Int)) + 1) = 4 * l + 1 by omega, show Int.toNat ((4 * (l : Int)) + 2) = 4 * l + 2 by omega, show Int.toNat ((4 * (l : Int)) + 3) = 4 * l + 3 by omega] at e
    refine ⟨_, e, ?_⟩
    rw [bz_ior, bz_ior, bz_ior, Bool.or_eq_true, Bool.or_eq_true, Bool.or_eq_true]
    constructor
    · rintro (((y | y) | y) | y)
      · exact ⟨0, by decide, y⟩
      · exact ⟨1, by decide, y⟩
      · exact ⟨2, by decide, y⟩
      · exact ⟨3, by decide, y⟩
    · rintro ⟨d, y1, y2⟩
      rcases (show d = 0 ∨ d = 1 ∨ d = 2 ∨ d = 3 by omega) with rfl | rfl | rfl | rfl
      · exact Or.inl (Or.inl (Or.inl y2))
      · exact Or.inl (Or.inl (Or.inr y2))
      · exact Or.inl (Or.inr y2)
      · exact Or.inr y2
  have noRow : ∀ l, l ≤ most → (∀ d, d < 4 → ¬ bz (s 1 a' (4 * l + d)) c = true) → ∀ d, d < 4 → ¬ MinW A mo t0 c0 d0 i c d l := fun l h1 h2 d h3 q => h2 d h3 ((Ta l d c (by omega) h3 (by omega)).mpr ⟨hc, q⟩)
  have key : ∀ (n x : Nat), (∀ l, l < x → l ≤ most → ∀ d, d < 4 → ¬ MinW A mo t0 c0 d0 i c d l) → x ≤ 121 → 121 < x + n → ∃ r, L1_X8_lowest n s (c : Int) (most : Int) (x : Int) = (s, r) ∧ ((r = -1 ∧ ∀ l, l ≤ most → ∀ d, d < 4 → ¬ MinW A mo t0 c0 d0 i c d l) ∨ ∃ l : Nat, l ≤ most ∧ r = (l : Int) ∧ (∃ d, d < 4 ∧ MinW A mo t0 c0 d0 i c d l) ∧ ∀ l', l' < l → ∀ d, d < 4 → ¬ MinW A mo t0 c0 d0 i c d l') := by
    intro n
    induction n with
    | zero => intro x _ h1 h2; omega
    | succ n ih =>
      intro x hx h1 h2
      obtain ⟨v, v1, v2⟩ := any x
      have t120 := S.2.2.2.2
      have e : L1_X8_lowest (n + 1) s (c : Int) (most : Int) (x : Int) = if tp < x then (s, -1) else if most < x then (s, -1) else if (if bz v c = true then (1 : Int) else 0) = 0 then L1_X8_lowest n s (c : Int) (most : Int) ((x + 1 : Nat) : Int) else (s, (x : Int)) := by
        show g2l_X8_lowest (L1_X8_lowest n) s (c : Int) (most : Int) (x : Int) = _
        simp only [g2l_X8_lowest, g3b_X8_lowest, g4_X8_lowest, g5_X8_lowest, g6b_X8_lowest, g7_X8_lowest, g8_X8_lowest, g9c_X8_lowest, g10b_X8_lowest, g11_X8_lowest, g12_X8_lowest, v1, bz_tst (show c < 32 by omega), S.2.2.2.1]
        by_cases z : tp < x
        · rw [if_pos z, if_pos (by omega)]
        · rw [if_neg z, if_neg (by omega)]
          by_cases y : most < x
          · rw [if_pos y, if_pos (by omega)]
          · rw [if_neg y, if_neg (by omega)]
            rfl
      rw [e]
      by_cases z : tp < x
      · rw [if_pos z]
        refine ⟨-1, rfl, Or.inl ⟨rfl, fun l q1 d q2 => ?_⟩⟩
        by_cases y : l < x
        · exact hx l y q1 d q2
        · refine noRow l q1 (fun d' q3 q4 => ?_) d q2
          rw [Sa _ (by omega), bz_0] at q4
          cases q4
      · rw [if_neg z]
        by_cases y : most < x
        · rw [if_pos y]
          exact ⟨-1, rfl, Or.inl ⟨rfl, fun l q1 d q2 => hx l (by omega) q1 d q2⟩⟩
        · rw [if_neg y]
          by_cases o : bz v c = true
          · rw [if_pos o, if_neg (by decide)]
            obtain ⟨d, d1, d2⟩ := v2.mp o
            exact ⟨(x : Int), rfl, Or.inr ⟨x, by omega, rfl, ⟨d, d1, ((Ta x d c (by omega) d1 (by omega)).mp d2).2⟩, fun l' q1 d' q2 => hx l' q1 (by omega) d' q2⟩⟩
          · rw [if_neg o, if_pos rfl]
            refine ih (x + 1) (fun l q1 q2 d q3 => ?_) (by omega) (by omega)
            by_cases w : l = x
            · subst w
              exact noRow l q2 (fun d' q4 q5 => o (v2.mpr ⟨d', q4, q5⟩)) d q3
            · exact hx l (by omega) q2 d q3
  obtain ⟨r, r1, r2⟩ := key (Int.toNat (121 - 0 + 1)) 0 (fun l q => absurd q (by omega)) (by decide) (by decide)
  refine ⟨r, r1, ?_⟩
  rcases r2 with ⟨q1, q2⟩ | ⟨l, q1, q2, ⟨d, q3, q4⟩, q5⟩
  · refine Or.inl ⟨q1, fun l d h1 h2 W => ?_⟩
    obtain ⟨l0, y1, y2⟩ := MinW.ex l W
    exact q2 l0 (by omega) d h2 y2
  · refine Or.inr ⟨l, q1, q2, ⟨d, q3, q4.1⟩, fun l' h1 d' h2 W => ?_⟩
    obtain ⟨l0, y1, y2⟩ := MinW.ex l' W
    exact q5 l0 (by omega) d' h2 y2
/-- the first number of streets, up to n, with which it can be -/
def FstW (A : Nat → Int) (mo : Nat → Prop) (t0 c0 d0 K c n : Nat) (r : Int) : Prop := (r = -1 ∧ ∀ i, i ≤ n → NoW A mo t0 c0 d0 K c i) ∨ ∃ i : Nat, i ≤ n ∧ r = (i : Int) ∧ ¬ NoW A mo t0 c0 d0 K c i ∧ ∀ i', i' < i → NoW A mo t0 c0 d0 K c i'
theorem FstW.uq {A : Nat → Int} {mo : Nat → Prop} {t0 c0 d0 K c n : Nat} {r r' : Int} (h : FstW A mo t0 c0 d0 K c n r) (g : FstW A mo t0 c0 d0 K c n r') : r = r' := by
  rcases h with ⟨h1, h2⟩ | ⟨i, h1, h2, h3, h4⟩
  · rcases g with ⟨g1, g2⟩ | ⟨j, g1, g2, g3, g4⟩
    · rw [h1, g1]
    · exact absurd (h2 j g1) g3
  · rcases g with ⟨g1, g2⟩ | ⟨j, g1, g2, g3, g4⟩
    · exact absurd (g2 i h1) h3
    · by_cases z : i < j
      · exact absurd (g4 i z) h3
      · by_cases y : j < i
        · exact absurd (h4 j y) g3
        · rw [h2, g2]; omega
theorem fs_l {B : Int} {w h : Nat} {m : XS} {c0 d0 k c n' : Nat} (hc0 : c0 < w * h) (hd0 : d0 < 4) (hk : k ≤ 120) (hc : c < w * h) (hn : n' ≤ 60) {mo : Nat → Prop} {more : Int} (hmo : ∀ c, c < w * h → (bz more c = true ↔ mo c)) : ∀ (n x : Nat) (s : XS), CS B w h s m → Ld s (m 1 1) w h → FV (w * h) s (m 1 1) → x ≤ n' + 1 → n' + 1 < x + n → (x ≤ n' → RT (m 1 1) mo 0 c0 d0 (w * h) x k s) → SQ 0 s → (∀ i, i < x → NoW (m 1 1) mo 0 c0 d0 k c i) → ∃ u r, L2_X8_fewestStreets n s (c : Int) (k : Int) (n' : Int) more (x : Int) = (u, r) ∧ FV (w * h) u (m 1 1) ∧ FrG u s ∧ SQ 0 u ∧ FstW (m 1 1) mo 0 c0 d0 k c n' r := by
  intro n
  induction n with
  | zero => intro x s _ _ _ h1 h2; omega
  | succ n ih =>
    intro x s H L V h1 h2 T Sq hno
    have b25 := L.b25
    have e0 : (f_X8_lowest s (c : Int) (k : Int)).1 = s := (low_q s _ _).1
    have e : L2_X8_fewestStreets (n + 1) s (c : Int) (k : Int) (n' : Int) more (x : Int) = if n' < x then (s, -1) else if (f_X8_lowest s (c : Int) (k : Int)).2 < 0 then (if x < n' then L2_X8_fewestStreets n (f_X8_goOn s (x : Int) more (k : Int)).1 (c : Int) (k : Int) (n' : Int) more ((x + 1 : Nat) : Int) else L2_X8_fewestStreets n s (c : Int) (k : Int) (n' : Int) more ((x + 1 : Nat) : Int)) else (s, (x : Int)) := by
      show g3l_X8_fewestStreets (L2_X8_fewestStreets n) s (c : Int) (k : Int) (n' : Int) more (x : Int) = _
      simp only [g3l_X8_fewestStreets, g4b_X8_fewestStreets, g5_X8_fewestStreets, g6_X8_fewestStreets, g7c_X8_fewestStreets, g8b_X8_fewestStreets, g9_X8_fewestStreets, g10_X8_fewestStreets, g11b_X8_fewestStreets, g12_X8_fewestStreets, g13_X8_fewestStreets, g14c_X8_fewestStreets, e0]
      by_cases z : n' < x
      · rw [if_pos z, if_pos (by omega)]
      · rw [if_neg z, if_neg (by omega)]
        by_cases y : x < n'
        · rw [if_pos y, if_pos (show (x : Int) < (n' : Int) by omega)]
          rfl
        · rw [if_neg y, if_neg (show ¬ (x : Int) < (n' : Int) by omega)]
          rfl
    rw [e]
    by_cases z : n' < x
    · rw [if_pos z]
      exact ⟨s, -1, rfl, V, FrG.rf, Sq, Or.inl ⟨rfl, fun i hi => hno i (by omega)⟩⟩
    · rw [if_neg z]
      have Tx := T (by omega)
      obtain ⟨r, r1, r2⟩ := low_s Tx (c := c) (most := k) hc b25 (Nat.le_refl _)
      rw [r1]
      dsimp only
      rcases r2 with ⟨q1, q2⟩ | ⟨l, q1, q2, ⟨d, q3, q4⟩, q5⟩
      · rw [if_pos (by omega)]
        have hno' : ∀ i, i < x + 1 → NoW (m 1 1) mo 0 c0 d0 k c i := fun i hi => by
          by_cases ix : i = x
          · rw [ix]; exact q2
          · exact hno i (by omega)
        by_cases y : x < n'
        · rw [if_pos y]
          obtain ⟨u, u1, u2, u3, u4⟩ := goOn_s H L V (t0 := 0) (i := x) (K := k) (most := k) hc0 hd0 Tx (by omega) (Nat.le_refl _) hk hmo
          rw [Nat.zero_add] at u1
          rw [u1]
          obtain ⟨v, r', v1, v2, v3, v4, v5⟩ := ih (x + 1) u (u3.cs H) (u3.ld L) u2 (by omega) (by omega) (fun _ => u4) u4.1 hno'
          exact ⟨v, r', v1, v2, v3.tr u3, v4, v5⟩
        · rw [if_neg y]
          exact ih (x + 1) s H L V (by omega) (by omega) (fun q => absurd q (by omega)) Sq hno'
      · rw [if_neg (by omega)]
        exact ⟨s, (x : Int), rfl, V, FrG.rf, Sq, Or.inr ⟨x, by omega, rfl, fun q => q l d q1 q3 q4, hno⟩⟩
theorem fewestStreets_s {B : Int} {w h : Nat} {s m : XS} (H : CS B w h s m) (L : Ld s (m 1 1) w h) (V : FV (w * h) s (m 1 1)) (Sq : SQ 0 s) {c0 d0 k c n' : Nat} (hc0 : c0 < w * h) (hd0 : d0 < 4) (hk : k ≤ 120) (hc : c < w * h) (hn : n' ≤ 60) {mo : Nat → Prop} {more : Int} (hmo : ∀ c, c < w * h → (bz more c = true ↔ mo c)) : ∃ u r, f_X8_fewestStreets s ((4 * c0 + d0 : Nat) : Int) (c : Int) (k : Int) (n' : Int) more = (u, r) ∧ FV (w * h) u (m 1 1) ∧ FrG u s ∧ SQ 0 u ∧ FstW (m 1 1) mo 0 c0 d0 k c n' r := by
  have b25 := L.b25
  obtain ⟨v, v1, v2, v3⟩ := begin_s (A := m 1 1) (mo := mo) (t0 := 0) (K := k) Sq hd0 hc0 b25
  have Vv : FV (w * h) v (m 1 1) := V.fr (by
    obtain ⟨a, b, tp, S, Sb, Sa⟩ := Sq.ex
    obtain ⟨u, u1, -, -, u4⟩ := begin_x S (fun j hj => Sa j hj) (c := c0) (d := d0) hd0 (by omega)
    rw [u1] at v1
    have e : u = v := congrArg Prod.fst v1
    rw [← e]
    exact u4 _ _ _ (by omega) (by omega)) (fun c k q => by
    obtain ⟨a, b, tp, S, Sb, Sa⟩ := Sq.ex
    have hab := S.1
    obtain ⟨u, u1, -, -, u4⟩ := begin_x S (fun j hj => Sa j hj) (c := c0) (d := d0) hd0 (by omega)
    rw [u1] at v1
    have e : u = v := congrArg Prod.fst v1
    rw [← e]
    exact u4 _ _ _ (by omega) (by omega))
  have e : f_X8_fewestStreets s ((4 * c0 + d0 : Nat) : Int) (c : Int) (k : Int) (n' : Int) more = L2_X8_fewestStreets (Int.toNat (61 - 0 + 1)) (f_X8_begin s ((4 * c0 + d0 : Nat) : Int)).1 (c : Int) (k : Int) (n' : Int) more 0 := rfl
  rw [e, v1]
  obtain ⟨u, r, u1, u2, u3, u4, u5⟩ := fs_l (n' := n') hc0 hd0 hk hc hn hmo (Int.toNat (61 - 0 + 1)) 0 v (v2.cs H) (v2.ld L) Vv (by omega) (by show n' + 1 < 0 + 62; omega) (fun _ => v3) v3.1 (fun i hi => absurd hi (by omega))
  exact ⟨u, r, u1, u2, u3.tr v2, u4, u5⟩
