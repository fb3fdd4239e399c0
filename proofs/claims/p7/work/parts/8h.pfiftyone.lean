/-! lefts bought: both -/
/-- the row behind so many lefts bought for so much -/
def bR (R : Nat → Int) (P c : Nat) (n S : Int) : Nat → Int := up1 (up1 (up1 R (15 + P) (R (15 + P) - S)) (10 + P) (R (10 + P) + n)) (25 + c) (R (25 + c) + n)
theorem cst_r {B : Int} {w h : Nat} {s m u : XS} (H : CS B w h s m) (F : FrLw 2 u s) : CS B w h u m := H.fr F.a2 rfl
theorem by_l {B : Int} {w h : Nat} {s m : XS} (H : CS B w h s m) (hB : B ≤ 900000) {P c a2 : Nat} (hP : (P : Int) < m 1 1 3) (hc : m 1 1 (36 + P) = (c : Int)) (ha : a2 ≤ 20) : ∀ (n j : Nat) (u v : XS) (S : Int), FrLw 2 u s → (∀ k, k ≠ 61 + c → v 1 1 k = m 1 1 k) → v 1 1 (61 + c) = m 1 1 (61 + c) + (j : Int) → (∀ t c' k, ¬ (t = 1 ∧ (c' = 1 ∨ c' = 5)) → v t c' k = m t c' k) → 0 ≤ S → S ≤ (j : Int) * 1000000 → j ≤ a2 → a2 < j + n → ∃ u' v' S', L11_X11_buy n u (P : Int) (a2 : Int) S (j : Int) = g14_X11_buy u' (P : Int) (a2 : Int) S' ∧ L1_X12_buys n v (P : Int) (a2 : Int) S (j : Int) = (v', S') ∧ FrLw 2 u' s ∧ (∀ k, k ≠ 61 + c → v' 1 1 k = m 1 1 k) ∧ v' 1 1 (61 + c) = m 1 1 (61 + c) + (a2 : Int) ∧ (∀ t c' k, ¬ (t = 1 ∧ (c' = 1 ∨ c' = 5)) → v' t c' k = m t c' k) ∧ 0 ≤ S' ∧ S' ≤ 20000000 ∧ (a2 = j → u' = u ∧ S' = S) ∧ (a2 = j + 1 → u' = (f_X0_costTo u 1 (P : Int) (j : Int)).1 ∧ S' = S + (f_X0_costTo u 1 (P : Int) (j : Int)).2) := by
  intro n
  induction n with
  | zero =>
    intro j u v S _ _ _ _ _ _ h1 h2
    exact absurd (show a2 < j from h2) (Nat.not_lt.mpr h1)
  | succ n ih =>
    intro j u v S F V1 V2 V3 S0 S1 h1 h2
    have b25 := H.1.b25
    have P5 : P < 5 := by have := H.pl.2.2.1; omega
    obtain ⟨⟨r1, r2⟩, -⟩ := H.bd.1 P hP
    rw [hc] at r2
    have c25 : c < 25 := by omega
    have so := (H.bd.2.2.1 c c25).1
    have v36 : v 1 1 (36 + P) = (c : Int) := (V1 _ (by omega)).trans hc
    have v41 : v 1 1 (41 + P) = m 1 1 (41 + P) := V1 _ (by omega)
    by_cases z : j < a2
    · obtain ⟨u1, x, v1, e1, e2, e3, e4, e5, e6⟩ := ct_x (cst_r H F) hB (m' := v) (j := j) hP hc (by omega) V1 V2
      have eu : L11_X11_buy (n + 1) u (P : Int) (a2 : Int) S (j : Int) = L11_X11_buy n u1 (P : Int) (a2 : Int) (S + x) ((j + 1 : Nat) : Int) := by
        show g12l_X11_buy (L11_X11_buy n) u (P : Int) (a2 : Int) S (j : Int) = _
        simp only [g12l_X11_buy, g13b_X11_buy, g15_X11_buy, g27c_X11_buy, e1]
        rw [if_pos (by omega), iadd_v (by unfold rgI; omega)]
        rfl
      obtain ⟨v2, hv2⟩ : ∃ v2, v2 = xup v1 1 1 (61 + c) (m 1 1 (61 + c) + ((j + 1 : Nat) : Int)) := ⟨_, rfl⟩
      have v1r : v1 1 1 = v 1 1 := e6.row
      have ev : L1_X12_buys (n + 1) v (P : Int) (a2 : Int) S (j : Int) = L1_X12_buys n v2 (P : Int) (a2 : Int) (S + x) ((j + 1 : Nat) : Int) := by
        show g2l_X12_buys (L1_X12_buys n) v (P : Int) (a2 : Int) S (j : Int) = _
        simp only [g2l_X12_buys, g3b_X12_buys, g5_X12_buys, g6c_X12_buys, g7w_X12_buys, show Int.toNat (36 + (P : Int)) = 36 + P by omega, show Int.toNat (41 + (P : Int)) = 41 + P by omega, v36, v41, e2, v1r, show Int.toNat (61 + (c : Int)) = 61 + c by omega, V2]
        rw [if_pos (by omega), ladd_v (by unfold rgI; omega) (by unfold rgI; omega), iadd_v (by unfold rgI; omega), show m 1 1 (61 + c) + (j : Int) + 1 = m 1 1 (61 + c) + ((j + 1 : Nat) : Int) by omega, ← hv2]
        rfl
      rw [eu, ev]
      have W1 : ∀ k, k ≠ 61 + c → v2 1 1 k = m 1 1 k := fun k hk => by rw [hv2, xup_k hk, v1r]; exact V1 k hk
      have W2 : v2 1 1 (61 + c) = m 1 1 (61 + c) + ((j + 1 : Nat) : Int) := by rw [hv2, xup_s]
      have W3 : ∀ t c' k, ¬ (t = 1 ∧ (c' = 1 ∨ c' = 5)) → v2 t c' k = m t c' k := fun t c' k q => by
        rw [hv2]
        have q1 : ¬ (t = 1 ∧ c' = 5) := fun y => q ⟨y.1, Or.inr y.2⟩
        have q2 : xup v1 1 1 (61 + c) (m 1 1 (61 + c) + ((j + 1 : Nat) : Int)) t c' k = v1 t c' k := by
          unfold xup
          exact if_neg (fun y => q ⟨y.1, Or.inl y.2.1⟩)
        rw [q2, e6 t c' k q1]
        exact V3 t c' k q
      obtain ⟨u', v', S', i1, i2, i3, i4, i5, i6, i7, i8, i9, -⟩ := ih (j + 1) u1 v2 (S + x) (fun t c' k q => (e5 t c' k q).trans (F t c' k q)) W1 W2 W3 (by omega) (by omega) (by omega) (by omega)
      refine ⟨u', v', S', i1, i2, i3, i4, i5, i6, i7, i8, fun q => by omega, fun q => ?_⟩
      rw [e1]
      exact i9 q
    · have ja : j = a2 := by omega
      subst ja
      refine ⟨u, v, S, ?_, ?_, F, V1, V2, V3, S0, by omega, fun _ => ⟨rfl, rfl⟩, fun q => by omega⟩
      · show g12l_X11_buy (L11_X11_buy n) u (P : Int) (j : Int) S (j : Int) = _
        simp only [g12l_X11_buy, g13b_X11_buy]
        rw [if_neg (by omega)]
      · show g2l_X12_buys (L1_X12_buys n) v (P : Int) (j : Int) S (j : Int) = _
        simp only [g2l_X12_buys, g3b_X12_buys, g4_X12_buys]
        rw [if_neg (by omega)]
/-- the reference buys, or all is again as it was; what it costs, in both -/
theorem bb_x {B : Int} {w h : Nat} {s m : XS} (H : CS B w h s m) (hB : B ≤ 900000) {P c a2 : Nat} (hP : (P : Int) < m 1 1 3) (hc : m 1 1 (36 + P) = (c : Int)) (ha : 1 ≤ a2 ∧ a2 ≤ 20) : ∃ u v S, L11_X11_buy 21 s (P : Int) (a2 : Int) 0 0 = g14_X11_buy u (P : Int) (a2 : Int) S ∧ FrLw 2 u s ∧ 0 ≤ S ∧ S ≤ 20000000 ∧ f_X12_boughtBy m (P : Int) (a2 : Int) = (v, if m 1 1 (51 + P) < S then -5 else if 99 < m 1 1 (46 + P) + (a2 : Int) then -4 else S) ∧ (∀ k, k < 76 → v 1 6 k = m 1 1 (36 + k)) ∧ (∀ t c k, ¬ (t = 1 ∧ c = 1 ∧ 36 ≤ k ∧ k ≤ 111) → ¬ (t = 1 ∧ (c = 5 ∨ c = 6)) → v t c k = m t c k) ∧ (∀ k, k < 76 → v 1 1 (36 + k) = if m 1 1 (51 + P) < S ∨ 99 < m 1 1 (46 + P) + (a2 : Int) then m 1 1 (36 + k) else bR (rA (m 1 1)) P c (a2 : Int) S k) ∧ (a2 = 1 → u = (f_X0_costTo s 1 (P : Int) 0).1 ∧ S = (f_X0_costTo s 1 (P : Int) 0).2) := by
  have b25 := H.1.b25
  have P5 : P < 5 := by have := H.pl.2.2.1; omega
  obtain ⟨⟨r1, r2⟩, -, ⟨r3, r4⟩, ⟨r5, r6⟩⟩ := H.bd.1 P hP
  rw [hc] at r2
  have c25 : c < 25 := by omega
  have k1 := keeps_x m
  obtain ⟨mk, hmk⟩ : ∃ mk, mk = (f_X12_keeps m).1 := ⟨_, rfl⟩
  rw [← hmk] at k1
  have mkr : mk 1 1 = m 1 1 := funext fun j => by rw [k1, if_neg (by omega)]
  have Hk : CS B w h s mk := H.fr FrA.rf mkr
  obtain ⟨u, v, S, e1, e2, e3, e4, e5, e6, e7, e8, -, e10⟩ := by_l Hk hB (P := P) (c := c) (a2 := a2) (by rw [mkr]; exact hP) (by rw [mkr]; exact hc) ha.2 21 0 s mk 0 FrLw.rf (fun _ _ => rfl) (by omega) (fun _ _ _ _ => rfl) (by decide) (by decide) (by omega) (by omega)
  rw [mkr] at e4 e5
  have e9 : a2 = 1 → u = (f_X0_costTo s 1 (P : Int) 0).1 ∧ S = (f_X0_costTo s 1 (P : Int) 0).2 := fun q => by
    obtain ⟨y1, y2⟩ := e10 q
    refine ⟨y1, y2.trans ?_⟩
    exact Int.zero_add _
  have v6 : ∀ k, v 1 6 k = mk 1 6 k := fun k => e6 _ _ _ (by omega)
  have v51 : v 1 1 (51 + P) = m 1 1 (51 + P) := e4 _ (by omega)
  have v46 : v 1 1 (46 + P) = m 1 1 (46 + P) := e4 _ (by omega)
  have g1 := again_x v
  obtain ⟨y, hy⟩ : ∃ y, y = (f_X12_isAgain v).1 := ⟨_, rfl⟩
  rw [← hy] at g1
  obtain ⟨x, hx⟩ : ∃ x, x = xup (xup v 1 1 (51 + P) (m 1 1 (51 + P) - S)) 1 1 (46 + P) (m 1 1 (46 + P) + (a2 : Int)) := ⟨_, rfl⟩
  have cmp := cmp_v S (m 1 1 (51 + P))
  have em : f_X12_boughtBy m (P : Int) (a2 : Int) = (if m 1 1 (51 + P) < S then (y, -5) else if 99 < m 1 1 (46 + P) + (a2 : Int) then (y, -4) else (x, S)) := by
    have e0 : f_X12_buys mk (P : Int) (a2 : Int) = (v, S) := e2
    simp only [f_X12_boughtBy, g1c_X12_boughtBy, g2c_X12_boughtBy, g3b_X12_boughtBy, g4_X12_boughtBy, g5_X12_boughtBy, g6b_X12_boughtBy, g7_X12_boughtBy, g8_X12_boughtBy, g9c_X12_boughtBy, g10c_X12_boughtBy, g11b_X12_boughtBy, g12_X12_boughtBy, g13_X12_boughtBy, g14b_X12_boughtBy, g15_X12_boughtBy, g16_X12_boughtBy, g17c_X12_boughtBy, g18c_X12_boughtBy, g19w_X12_boughtBy, g20w_X12_boughtBy, ← hmk, e0, show Int.toNat (51 + (P : Int)) = 51 + P by omega, show Int.toNat (46 + (P : Int)) = 46 + P by omega, v51, v46, ← hy]
    by_cases z1 : m 1 1 (51 + P) < S
    · rw [if_pos (cmp.2.2.mpr z1), if_pos (cmp.2.2.mpr z1), if_pos z1]
    · have z1' : ¬ 0 < Xcmp S (m 1 1 (51 + P)) := fun q => z1 (cmp.2.2.mp q)
      rw [if_neg z1', if_neg z1]
      by_cases z2 : 99 < m 1 1 (46 + P) + (a2 : Int)
      · rw [if_pos z2, if_neg z1', if_pos z2]
      · rw [if_neg z2, if_neg z2, l2i_v (by unfold rgI; omega), isub_v (by unfold rgI; omega), xup_k (show 46 + P ≠ 51 + P by omega), v46, ← hx]
  have yo : ∀ t c k, ¬ (t = 1 ∧ c = 1 ∧ 36 ≤ k ∧ k ≤ 111) → ¬ (t = 1 ∧ (c = 5 ∨ c = 6)) → v t c k = m t c k := fun t c' k q1 q2 => by
    by_cases z : t = 1 ∧ c' = 1
    · obtain ⟨rfl, rfl⟩ := z
      exact e4 k (by omega)
    · rw [e6 t c' k (by omega), k1, if_neg (by omega)]
  have k6 : ∀ k, k < 76 → mk 1 6 k = m 1 1 (36 + k) := fun k hk => by rw [k1, if_pos ⟨rfl, rfl, hk⟩]
  have yr : ∀ k, k < 76 → y 1 1 (36 + k) = m 1 1 (36 + k) := fun k hk => by
    rw [g1, if_pos ⟨rfl, rfl, by omega, by omega⟩, show 36 + k - 36 = k by omega, v6, k6 k hk]
  have yf : ∀ t c k, ¬ (t = 1 ∧ c = 1 ∧ 36 ≤ k ∧ k ≤ 111) → ¬ (t = 1 ∧ (c = 5 ∨ c = 6)) → y t c k = m t c k := fun t c' k q1 q2 => by
    rw [g1, if_neg (by omega)]
    exact yo t c' k q1 q2
  have y6 : ∀ k, k < 76 → y 1 6 k = m 1 1 (36 + k) := fun k hk => by
    rw [g1, if_neg (by omega), v6, k6 k hk]
  by_cases z1 : m 1 1 (51 + P) < S
  · refine ⟨u, y, S, e1, e3, e7, e8, ?_, y6, yf, fun k hk => ?_, e9⟩
    · rw [em, if_pos z1, if_pos z1]
    · rw [if_pos (Or.inl z1)]; exact yr k hk
  · by_cases z2 : 99 < m 1 1 (46 + P) + (a2 : Int)
    · refine ⟨u, y, S, e1, e3, e7, e8, ?_, y6, yf, fun k hk => ?_, e9⟩
      · rw [em, if_neg z1, if_pos z2, if_neg z1, if_pos z2]
      · rw [if_pos (Or.inr z2)]; exact yr k hk
    · have xo : ∀ t c k, ¬ (t = 1 ∧ c = 1 ∧ 36 ≤ k ∧ k ≤ 111) → x t c k = v t c k := fun t c' k q => by
        rw [hx]
        unfold xup
        rw [if_neg (fun z => q ⟨z.1, z.2.1, by omega, by omega⟩), if_neg (fun z => q ⟨z.1, z.2.1, by omega, by omega⟩)]
      refine ⟨u, x, S, e1, e3, e7, e8, ?_, fun k hk => ?_, fun t c' k q1 q2 => (xo t c' k q1).trans (yo t c' k q1 q2), fun k hk => ?_, e9⟩
      · rw [em, if_neg z1, if_neg z2, if_neg z1, if_neg z2]
      · rw [xo _ _ _ (by omega), v6, k6 k hk]
      · rw [if_neg (fun q => q.elim z1 z2), hx]
        unfold bR up1 xup rA
        rw [show 36 + (15 + P) = 51 + P by omega, show 36 + (10 + P) = 46 + P by omega, show 36 + (25 + c) = 61 + c by omega]
        by_cases q1 : k = 25 + c
        · subst q1
          rw [if_neg (by omega), if_neg (by omega), if_pos rfl, show 36 + (25 + c) = 61 + c by omega]
          exact e5
        · rw [if_neg q1]
          by_cases q2 : k = 10 + P
          · subst q2
            rw [if_pos ⟨rfl, rfl, by omega⟩, if_pos rfl]
          · rw [if_neg (by omega), if_neg q2]
            by_cases q3 : k = 15 + P
            · subst q3
              rw [if_pos ⟨rfl, rfl, by omega⟩, if_pos rfl]
            · rw [if_neg (by omega), if_neg q3]
              exact e4 _ (by omega)
