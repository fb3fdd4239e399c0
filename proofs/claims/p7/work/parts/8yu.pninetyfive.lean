/-! where one comes at all, and with how many for all: both -/
theorem ior_r (a b : Int) : -2147483648 ≤ Xior a b ∧ Xior a b ≤ 2147483647 := rg_i _
theorem iand_r (a b : Int) : -2147483648 ≤ Xiand a b ∧ Xiand a b ≤ 2147483647 := rg_i _
def LeO (A : Nat → Int) (c0 d0 c l : Nat) : Prop := AnyW A noM 0 c0 d0 c 60 l ∧ ∀ l', l' < l → ¬ AnyW A noM 0 c0 d0 c 60 l'
theorem any_min {A : Nat → Int} {c0 d0 c l : Nat} (h : AnyW A noM 0 c0 d0 c 60 l) : ∃ l0, l0 ≤ l ∧ ∃ i d, i ≤ 60 ∧ d < 4 ∧ MinW A noM 0 c0 d0 i c d l0 := by
  obtain ⟨i, d, q1, q2, q3⟩ := h
  obtain ⟨l0, r1, r2⟩ := MinW.ex l q3
  exact ⟨l0, r1, i, d, q1, q2, r2⟩
theorem re_s {m u : XS} {N c0 d0 K : Nat} (hK : K ≤ 120) (hu : ∀ l, l ≤ K → ∀ c, c < 32 → (bz (u 1 86 l) c = true ↔ (c < N ∧ ∃ i' d, i' ≤ 60 ∧ d < 4 ∧ MinW (m 1 1) noM 0 c0 d0 i' c d l))) : ∀ (n x : Nat) (set : Int), rgI set → (∀ c, c < 32 → (bz set c = true ↔ (c < N ∧ ∃ l, l < x ∧ ∃ i' d, i' ≤ 60 ∧ d < 4 ∧ MinW (m 1 1) noM 0 c0 d0 i' c d l))) → x ≤ K + 1 → K + 1 < x + n → ∃ r, L2_X8_reachable n u (K : Int) set (x : Int) = (u, r) ∧ rgI r ∧ ∀ c, c < 32 → (bz r c = true ↔ (c < N ∧ ∃ l, l ≤ K ∧ AnyW (m 1 1) noM 0 c0 d0 c 60 l)) := by
  intro n
  induction n with
  | zero => intro x set _ _ h1 h2; omega
  | succ n ih =>
    intro x set hr hb h1 h2
    have e : L2_X8_reachable (n + 1) u (K : Int) set (x : Int) = if K < x then (u, set) else L2_X8_reachable n u (K : Int) (Xior set (u 1 86 x)) ((x + 1 : Nat) : Int) := by
      show g3l_X8_reachable (L2_X8_reachable n) u (K : Int) set (x : Int) = _
      simp only [g3l_X8_reachable, g4b_X8_reachable, g5_X8_reachable, g6_X8_reachable, Int.toNat_natCast]
      by_cases z : K < x
      · rw [if_pos z, if_pos (show (K : Int) < (x : Int) by omega)]
      · rw [if_neg z, if_neg (show ¬ (K : Int) < (x : Int) by omega)]
        rfl
    rw [e]
    by_cases z : K < x
    · rw [if_pos z]
      refine ⟨set, rfl, hr, fun c hc => ?_⟩
      rw [hb c hc]
      constructor
      · rintro ⟨q1, l, q2, i, d, q3, q4, q5⟩
        exact ⟨q1, l, by omega, i, d, q3, q4, q5.1⟩
      · rintro ⟨q1, l, q2, q3⟩
        obtain ⟨l0, r1, i, d, r2, r3, r4⟩ := any_min q3
        exact ⟨q1, l0, by omega, i, d, r2, r3, r4⟩
    · rw [if_neg z]
      refine ih (x + 1) _ (ior_r _ _) (fun c hc => ?_) (by omega) (by omega)
      rw [bz_ior, Bool.or_eq_true, hb c hc, hu x (by omega) c hc]
      constructor
      · rintro (⟨q1, l, q2, q3⟩ | ⟨q1, q3⟩)
        · exact ⟨q1, l, by omega, q3⟩
        · exact ⟨q1, x, by omega, q3⟩
      · rintro ⟨q1, l, q2, q3⟩
        by_cases lx : l = x
        · subst lx
          exact Or.inr ⟨q1, q3⟩
        · exact Or.inl ⟨q1, l, by omega, q3⟩
theorem re_m {m v : XS} {N c0 d0 K : Nat} (hN : N ≤ 25) (eN : v 1 1 1 * v 1 1 2 = (N : Int)) (hK : K ≤ 120) (D : ∀ i, i ≤ 60 → ∀ y, y < 100 → DV (m 1 1) noM 0 c0 d0 i y (v 1 8 (100 * i + y))) : ∀ (n x : Nat) (set : Int), rgI set → (∀ c, c < 32 → (bz set c = true ↔ (c < x ∧ ∃ l, l ≤ K ∧ AnyW (m 1 1) noM 0 c0 d0 c 60 l))) → x ≤ N → N < x + n → ∃ r, L11_X12_reach n v (K : Int) set (x : Int) = (v, r) ∧ rgI r ∧ ∀ c, c < 32 → (bz r c = true ↔ (c < N ∧ ∃ l, l ≤ K ∧ AnyW (m 1 1) noM 0 c0 d0 c 60 l)) := by
  intro n
  induction n with
  | zero => intro x set _ _ h1 h2; omega
  | succ n ih =>
    intro x set hr hb h1 h2
    have e : L11_X12_reach (n + 1) v (K : Int) set (x : Int) = if x < N then (if (K : Int) < (f_X12_leastWithin v (x : Int) 60).2 then L11_X12_reach n (f_X12_leastWithin v (x : Int) 60).1 (K : Int) set ((x + 1 : Nat) : Int) else L11_X12_reach n (f_X12_leastWithin v (x : Int) 60).1 (K : Int) (Xior set (Xishl 1 (x : Int))) ((x + 1 : Nat) : Int)) else (v, set) := by
      show g12l_X12_reach (L11_X12_reach n) v (K : Int) set (x : Int) = _
      simp only [g12l_X12_reach, g13c_X12_reach, g14b_X12_reach, g15_X12_reach, g16_X12_reach, g17c_X12_reach, g18b_X12_reach, g19_X12_reach, g20_X12_reach, crM_x, eN]
      by_cases z : x < N
      · rw [if_pos z, if_pos (show (x : Int) < (N : Int) by omega)]
        rfl
      · rw [if_neg z, if_neg (show ¬ (x : Int) < (N : Int) by omega)]
    rw [e]
    by_cases z : x < N
    · rw [if_pos z]
      obtain ⟨r, r1, r2⟩ := within_l (n' := 60) (by decide) D (show x < 25 by omega)
      have r1' : f_X12_leastWithin v (x : Int) 60 = (v, r) := r1
      rw [r1']
      dsimp only
      by_cases y : (K : Int) < r
      · rw [if_pos y]
        refine ih (x + 1) set hr (fun c hc => ?_) (by omega) (by omega)
        rw [hb c hc]
        constructor
        · rintro ⟨q1, q2⟩; exact ⟨by omega, q2⟩
        · rintro ⟨q1, l, q2, q3⟩
          by_cases cx : c = x
          · subst cx
            exfalso
            rcases r2 with ⟨-, a2⟩ | ⟨l0, a0, a1, -, a3⟩
            · exact a2 l q3
            · exact a3 l (by omega) q3
          · exact ⟨by omega, l, q2, q3⟩
      · rw [if_neg y]
        refine ih (x + 1) _ (ior_r _ _) (fun c hc => ?_) (by omega) (by omega)
        rw [bz_ior, Bool.or_eq_true, hb c hc, bz_one (show x < 32 by omega) hc, decide_eq_true_iff]
        constructor
        · rintro (⟨q1, q2⟩ | q)
          · exact ⟨by omega, q2⟩
          · subst q
            rcases r2 with ⟨a1, -⟩ | ⟨l0, a0, a1, a2, -⟩
            · omega
            · exact ⟨by omega, l0, by omega, a2⟩
        · rintro ⟨q1, q2⟩
          by_cases cx : c = x
          · exact Or.inr cx
          · exact Or.inl ⟨by omega, q2⟩
    · rw [if_neg z]
      refine ⟨set, rfl, hr, fun c hc => ?_⟩
      rw [hb c hc, show x = N by omega]
theorem reach_x {B : Int} {w h : Nat} {s m : XS} (H : CS B w h s m) (V : FV (w * h) s (m 1 1)) (Sq : SQ 0 s) {a1 a2 : Int} : (f_X11_reach s a1 a2).2 = (f_X12_reach m a1 a2).2 ∧ FV (w * h) (f_X11_reach s a1 a2).1 (m 1 1) ∧ SQ 0 (f_X11_reach s a1 a2).1 ∧ FrQ (f_X11_reach s a1 a2).1 s ∧ FrMh (f_X12_reach m a1 a2).1 m := by
  obtain ⟨n1, n2⟩ := H.who
  have b25 := H.1.b25
  have f3 : ∀ k, (xup m 0 0 0 0) 1 1 k = m 1 1 k := fun k => xup_t (by decide)
  have m0r : (xup m 0 0 0 0) 1 1 = m 1 1 := funext f3
  have none : ∀ x : Int, ((s, x) : XR).2 = ((xup m 0 0 0 0, x) : XR).2 ∧ FV (w * h) s (m 1 1) ∧ SQ 0 s ∧ FrQ s s ∧ FrMh (xup m 0 0 0 0) m := fun x => ⟨rfl, V, Sq, FrQ.rf, FrMh.thr⟩
  have ec : f_X11_reach s a1 a2 = if 0 ≤ a1 ∧ a1 < s 0 10 7 then (if a2 < 0 then (s, -3) else if 120 < a2 then (s, -3) else f_X8_reachable s (4 * s 1 11 a1.toNat + s 1 12 a1.toNat) a2) else (s, -2) := by
    simp only [f_X11_reach, g1c_X11_reach, g2b_X11_reach, g3_X11_reach, g4_X11_reach, g5b_X11_reach, g6_X11_reach, g7_X11_reach, g8b_X11_reach, g9_X11_reach, g10_X11_reach, g11c_X11_reach, g12c_X11_reach, ispC_x, f_X1_stand]
    by_cases z : 0 ≤ a1 ∧ a1 < s 0 10 7
    · rw [if_pos z, if_neg (show ¬ (1 : Int) = 0 by decide), if_pos z]
    · rw [if_neg z, if_pos rfl, if_neg z]
  have em : f_X12_reach m a1 a2 = if 0 ≤ a1 ∧ a1 < m 1 1 3 then (if 0 ≤ a2 ∧ a2 ≤ 120 then g8_X12_reach (xup m 0 0 0 0) a1 a2 else (xup m 0 0 0 0, -3)) else (xup m 0 0 0 0, -2) := by
    simp only [f_X12_reach, g1w_X12_reach, g2c_X12_reach, g3b_X12_reach, g4_X12_reach, g5_X12_reach, g6c_X12_reach, g7b_X12_reach, g9_X12_reach, ispM_x, within_x, f3]
    by_cases z : 0 ≤ a1 ∧ a1 < m 1 1 3
    · rw [if_pos z, if_neg (show ¬ (1 : Int) = 0 by decide), if_pos z]
      by_cases x : 0 ≤ a2 ∧ a2 ≤ 120
      · rw [if_pos x, if_neg (show ¬ (1 : Int) = 0 by decide), if_pos x]
      · rw [if_neg x, if_pos rfl, if_neg x]
    · rw [if_neg z, if_pos rfl, if_neg z]
  rw [ec, em, ← H.pl.1]
  by_cases z : 0 ≤ a1 ∧ a1 < m 1 1 3
  · rw [if_pos z, if_pos z]
    by_cases x : 0 ≤ a2 ∧ a2 ≤ 120
    · rw [if_neg (show ¬ a2 < 0 by omega), if_neg (show ¬ 120 < a2 by omega), if_pos x]
      obtain ⟨p, rfl⟩ : ∃ p : Nat, a1 = (p : Int) := ⟨a1.toNat, by omega⟩
      obtain ⟨k, rfl⟩ : ∃ k : Nat, a2 = (k : Int) := ⟨a2.toNat, by omega⟩
      obtain ⟨⟨b1, b2⟩, ⟨b3, b4⟩, -⟩ := H.bd.1 p z.2
      obtain ⟨p1, p2, -⟩ := H.pl.2.2.2.2.1 p z.2
      obtain ⟨c0, h0⟩ : ∃ c0 : Nat, m 1 1 (36 + p) = (c0 : Int) := ⟨(m 1 1 (36 + p)).toNat, by omega⟩
      obtain ⟨d0, h1⟩ : ∃ d0 : Nat, m 1 1 (41 + p) = (d0 : Int) := ⟨(m 1 1 (41 + p)).toNat, by omega⟩
      have L := H.ld (show 0 < w * h by omega)
      rw [show (p : Int).toNat = p from rfl, p1, p2, h0, h1, show 4 * (c0 : Int) + (d0 : Int) = ((4 * c0 + d0 : Nat) : Int) by omega]
      obtain ⟨u, u1, u2, u3, u4, u5⟩ := survey_s H L V Sq (c0 := c0) (d0 := d0) (K := k) (by omega) (by omega) (by omega)
      obtain ⟨r, r1, r2, r3⟩ := re_s (m := m) (N := w * h) (c0 := c0) (d0 := d0) (K := k) (by omega) u5 (Int.toNat (121 - 0 + 1)) 0 0 (by unfold rgI; omega) (fun c hc => by
        rw [bz_0]
        constructor
        · intro q; cases q
        · rintro ⟨-, l, q, -⟩; omega) (by omega) (by show k + 1 < 0 + 122; omega)
      have ec2 : f_X8_reachable s ((4 * c0 + d0 : Nat) : Int) (k : Int) = (u, r) := by
        have e : f_X8_reachable s ((4 * c0 + d0 : Nat) : Int) (k : Int) = L2_X8_reachable (Int.toNat (121 - 0 + 1)) (f_X8_survey s ((4 * c0 + d0 : Nat) : Int) (k : Int)).1 (k : Int) 0 0 := rfl
        rw [e, u1]
        exact r1
      obtain ⟨v, v1, v2, -, v3⟩ := laysFor_x (m := xup m 0 0 0 0) (H.fr FrA.rf m0r) (by rw [m0r]; exact L) (p := p) (c0 := c0) (d0 := d0) (n' := 60) (by rw [m0r]; exact h0) (by rw [m0r]; exact h1) (by omega) (by omega) (by omega)
      rw [m0r] at v3
      have vr : v 1 1 = m 1 1 := by rw [← m0r]; exact funext fun k => v2 1 1 k (by omega) (by omega)
      obtain ⟨r', w1, w2, w3⟩ := re_m (m := m) (v := v) (N := w * h) (K := k) b25 (by rw [vr]; exact n2) (by omega) v3 (Int.toNat (25 - 0 + 1)) 0 0 (by unfold rgI; omega) (fun c hc => by
        rw [bz_0]
        constructor
        · intro q; cases q
        · rintro ⟨q, -⟩; omega) (by omega) (by show w * h < 0 + 26; omega)
      have v1' : f_X12_laysFor (xup m 0 0 0 0) (p : Int) 60 0 = (v, 0) := v1
      have em2 : g8_X12_reach (xup m 0 0 0 0) (p : Int) (k : Int) = (v, r') := by
        have e : g8_X12_reach (xup m 0 0 0 0) (p : Int) (k : Int) = L11_X12_reach (Int.toNat (25 - 0 + 1)) (f_X12_laysFor (xup m 0 0 0 0) (p : Int) 60 0).1 (k : Int) 0 0 := rfl
        rw [e, v1']
        exact w1
      rw [ec2, em2]
      exact ⟨bz_ext r2 w2 (fun c hc => Bool.eq_iff_iff.mpr ((r3 c hc).trans (w3 c hc).symm)), u2, u4, u3, v2.mh⟩
    · rw [if_neg x]
      by_cases x1 : a2 < 0
      · rw [if_pos x1]; exact none _
      · rw [if_neg x1, if_pos (show 120 < a2 by omega)]; exact none _
  · rw [if_neg z, if_neg z]; exact none _
/-- with how many for all -/
theorem en_s {m u : XS} {N c0 d0 : Nat} (hN : N ≤ 25) (hu : ∀ l, l ≤ 120 → ∀ c, c < 32 → (bz (u 1 86 l) c = true ↔ (c < N ∧ ∃ i' d, i' ≤ 60 ∧ d < 4 ∧ MinW (m 1 1) noM 0 c0 d0 i' c d l))) : ∀ (n x : Nat) (set : Int) (le : Nat), (∀ c, c < 32 → (bz set c = true ↔ (c < N ∧ ∃ l, l < x ∧ AnyW (m 1 1) noM 0 c0 d0 c 60 l))) → (le = 0 ∨ ∃ c, c < N ∧ LeO (m 1 1) c0 d0 c le) → (∀ c l, c < N → l < x → LeO (m 1 1) c0 d0 c l → l ≤ le) → le ≤ x → x ≤ 121 → 121 < x + n → ∃ r : Nat, L2_X8_leastForAll n u set (le : Int) (x : Int) = (u, (r : Int)) ∧ (r = 0 ∨ ∃ c, c < N ∧ LeO (m 1 1) c0 d0 c r) ∧ ∀ c l, c < N → LeO (m 1 1) c0 d0 c l → l ≤ r := by
  intro n
  induction n with
  | zero => intro x set le _ _ _ _ h1 h2; omega
  | succ n ih =>
    intro x set le hb i1 i2 i3 h1 h2
    have e : L2_X8_leastForAll (n + 1) u set (le : Int) (x : Int) = if 120 < x then (u, (le : Int)) else if Xiand (u 1 86 x) (Xixor set (-1)) = 0 then L2_X8_leastForAll n u set (le : Int) ((x + 1 : Nat) : Int) else L2_X8_leastForAll n u (Xior set (u 1 86 x)) (x : Int) ((x + 1 : Nat) : Int) := by
      show g3l_X8_leastForAll (L2_X8_leastForAll n) u set (le : Int) (x : Int) = _
      simp only [g3l_X8_leastForAll, g4b_X8_leastForAll, g5_X8_leastForAll, g6_X8_leastForAll, g7b_X8_leastForAll, g8_X8_leastForAll, g9_X8_leastForAll, Int.toNat_natCast]
      by_cases z : 120 < x
      · rw [if_pos z, if_pos (show (120 : Int) < (x : Int) by omega)]
      · rw [if_neg z, if_neg (show ¬ (120 : Int) < (x : Int) by omega)]
        rfl
    rw [e]
    have le120 : ∀ c l, LeO (m 1 1) c0 d0 c l → l ≤ 120 := fun c l q => by
      obtain ⟨⟨i, d, q1, q2, q3⟩, -⟩ := q
      have := Wy.le i c d l q3
      omega
    by_cases z : 120 < x
    · rw [if_pos z]
      exact ⟨le, rfl, i1, fun c l hc q => i2 c l hc (by have := le120 c l q; omega) q⟩
    · rw [if_neg z]
      have new : Xiand (u 1 86 x) (Xixor set (-1)) ≠ 0 ↔ ∃ c, c < N ∧ LeO (m 1 1) c0 d0 c x := by
        rw [bz_ne0 (iand_r _ _)]
        constructor
        · rintro ⟨k, k1, k2⟩
          rw [bz_iand, bz_inv _ k1, Bool.and_eq_true, hu x (by omega) k k1, Bool.not_eq_true'] at k2
          obtain ⟨⟨q1, i, d, q2, q3, q4⟩, q5⟩ := k2
          refine ⟨k, q1, ⟨i, d, q2, q3, q4.1⟩, fun l' hl hw => ?_⟩
          have y := (hb k k1).mpr ⟨q1, l', hl, hw⟩
          rw [q5] at y
          cases y
        · rintro ⟨c, q1, q2, q3⟩
          obtain ⟨l0, r1, i, d, r2, r3, r4⟩ := any_min q2
          have el : l0 = x := by
            by_cases y : l0 < x
            · exact absurd ⟨i, d, r2, r3, r4.1⟩ (q3 l0 y)
            · omega
          rw [el] at r4
          refine ⟨c, by omega, ?_⟩
          rw [bz_iand, bz_inv _ (show c < 32 by omega), Bool.and_eq_true, hu x (by omega) c (by omega), Bool.not_eq_true']
          refine ⟨⟨q1, i, d, r2, r3, r4⟩, ?_⟩
          cases hbz : bz set c with
          | false => rfl
          | true =>
            obtain ⟨-, l, y1, y2⟩ := (hb c (by omega)).mp hbz
            exact absurd y2 (q3 l y1)
      by_cases y : Xiand (u 1 86 x) (Xixor set (-1)) = 0
      · rw [if_pos y]
        have no : ∀ c, c < N → ¬ LeO (m 1 1) c0 d0 c x := fun c hc q => (new.mpr ⟨c, hc, q⟩) y
        refine ih (x + 1) set le (fun c hc => ?_) i1 (fun c l hc hl q => ?_) (by omega) (by omega) (by omega)
        · rw [hb c hc]
          constructor
          · rintro ⟨q1, l, q2, q3⟩
            exact ⟨q1, l, by omega, q3⟩
          · rintro ⟨q1, l, q2, q3⟩
            by_cases lx : l = x
            · subst lx
              by_cases ex : ∃ l', l' < l ∧ AnyW (m 1 1) noM 0 c0 d0 c 60 l'
              · obtain ⟨l', y1, y2⟩ := ex
                exact ⟨q1, l', y1, y2⟩
              · exact absurd ⟨q3, fun l' hl hw => ex ⟨l', hl, hw⟩⟩ (no c q1)
            · exact ⟨q1, l, by omega, q3⟩
        · by_cases lx : l = x
          · subst lx
            exact absurd q (no c hc)
          · exact i2 c l hc (by omega) q
      · rw [if_neg y]
        obtain ⟨c, c1, c2⟩ := new.mp y
        refine ih (x + 1) _ x (fun c hc => ?_) (Or.inr ⟨c, c1, c2⟩) (fun c l hc hl q => by omega) (by omega) (by omega) (by omega)
        rw [bz_ior, Bool.or_eq_true, hb c hc, hu x (by omega) c hc]
        constructor
        · rintro (⟨q1, l, q2, q3⟩ | ⟨q1, i, d, q2, q3, q4⟩)
          · exact ⟨q1, l, by omega, q3⟩
          · exact ⟨q1, x, by omega, i, d, q2, q3, q4.1⟩
        · rintro ⟨q1, l, q2, q3⟩
          by_cases lx : l < x
          · exact Or.inl ⟨q1, l, lx, q3⟩
          · have lx : l = x := by omega
            subst lx
            obtain ⟨l0, r1, i, d, r2, r3, r4⟩ := any_min q3
            by_cases y0 : l0 < l
            · exact Or.inl ⟨q1, l0, y0, i, d, r2, r3, r4.1⟩
            · rw [show l0 = l by omega] at r4
              exact Or.inr ⟨q1, i, d, r2, r3, r4⟩
theorem en_m {m v : XS} {N c0 d0 : Nat} (hN : N ≤ 25) (eN : v 1 1 1 * v 1 1 2 = (N : Int)) (D : ∀ i, i ≤ 60 → ∀ y, y < 100 → DV (m 1 1) noM 0 c0 d0 i y (v 1 8 (100 * i + y))) : ∀ (n x mo : Nat), (mo = 0 ∨ ∃ c, c < N ∧ LeO (m 1 1) c0 d0 c mo) → (∀ c l, c < x → LeO (m 1 1) c0 d0 c l → l ≤ mo) → x ≤ N → N < x + n → ∃ r : Nat, L7_X12_enough n v (mo : Int) (x : Int) = (v, (r : Int)) ∧ (r = 0 ∨ ∃ c, c < N ∧ LeO (m 1 1) c0 d0 c r) ∧ ∀ c l, c < N → LeO (m 1 1) c0 d0 c l → l ≤ r := by
  intro n
  induction n with
  | zero => intro x mo _ _ h1 h2; omega
  | succ n ih =>
    intro x mo i1 i2 h1 h2
    have e : L7_X12_enough (n + 1) v (mo : Int) (x : Int) = if x < N then (if (f_X12_leastWithin v (x : Int) 60).2 = 1000000000 then L7_X12_enough n (f_X12_leastWithin v (x : Int) 60).1 (mo : Int) ((x + 1 : Nat) : Int) else if (mo : Int) < (f_X12_leastWithin v (x : Int) 60).2 then L7_X12_enough n (f_X12_leastWithin v (x : Int) 60).1 (f_X12_leastWithin v (x : Int) 60).2 ((x + 1 : Nat) : Int) else L7_X12_enough n (f_X12_leastWithin v (x : Int) 60).1 (mo : Int) ((x + 1 : Nat) : Int)) else (v, (mo : Int)) := by
      show g8l_X12_enough (L7_X12_enough n) v (mo : Int) (x : Int) = _
      simp only [g8l_X12_enough, g9c_X12_enough, g10b_X12_enough, g11_X12_enough, g12_X12_enough, g13c_X12_enough, g14b_X12_enough, g15_X12_enough, g16_X12_enough, g17b_X12_enough, g18_X12_enough, g19_X12_enough, crM_x, eN]
      by_cases z : x < N
      · rw [if_pos z, if_pos (show (x : Int) < (N : Int) by omega)]
        rfl
      · rw [if_neg z, if_neg (show ¬ (x : Int) < (N : Int) by omega)]
    rw [e]
    by_cases z : x < N
    · rw [if_pos z]
      obtain ⟨r, r1, r2⟩ := within_l (n' := 60) (by decide) D (show x < 25 by omega)
      have r1' : f_X12_leastWithin v (x : Int) 60 = (v, r) := r1
      rw [r1']
      dsimp only
      rcases r2 with ⟨a1, a2⟩ | ⟨l0, a0, a1, a2, a3⟩
      · rw [if_pos a1]
        refine ih (x + 1) mo i1 (fun c l hc q => ?_) (by omega) (by omega)
        by_cases cx : c = x
        · subst cx
          exact absurd q.1 (a2 l)
        · exact i2 c l (by omega) q
      · rw [if_neg (by omega)]
        have uq : ∀ l, LeO (m 1 1) c0 d0 x l → l = l0 := fun l q => by
          by_cases y1 : l < l0
          · exact absurd q.1 (a3 l y1)
          · by_cases y2 : l0 < l
            · exact absurd a2 (q.2 l0 y2)
            · omega
        by_cases y : (mo : Int) < r
        · rw [if_pos y, a1]
          refine ih (x + 1) l0 (Or.inr ⟨x, z, a2, a3⟩) (fun c l hc q => ?_) (by omega) (by omega)
          by_cases cx : c = x
          · subst cx
            have := uq l q
            omega
          · have := i2 c l (by omega) q
            omega
        · rw [if_neg y]
          refine ih (x + 1) mo i1 (fun c l hc q => ?_) (by omega) (by omega)
          by_cases cx : c = x
          · subst cx
            have := uq l q
            omega
          · exact i2 c l (by omega) q
    · rw [if_neg z]
      exact ⟨mo, rfl, i1, fun c l hc q => i2 c l (by omega) q⟩
theorem enough_x {B : Int} {w h : Nat} {s m : XS} (H : CS B w h s m) (V : FV (w * h) s (m 1 1)) (Sq : SQ 0 s) {a1 : Int} : (f_X11_enough s a1).2 = (f_X12_enough m a1).2 ∧ FV (w * h) (f_X11_enough s a1).1 (m 1 1) ∧ SQ 0 (f_X11_enough s a1).1 ∧ FrQ (f_X11_enough s a1).1 s ∧ FrMh (f_X12_enough m a1).1 m := by
  obtain ⟨n1, n2⟩ := H.who
  have b25 := H.1.b25
  have f3 : ∀ k, (xup m 0 0 0 0) 1 1 k = m 1 1 k := fun k => xup_t (by decide)
  have m0r : (xup m 0 0 0 0) 1 1 = m 1 1 := funext f3
  have ec : f_X11_enough s a1 = if 0 ≤ a1 ∧ a1 < s 0 10 7 then f_X8_leastForAll s (4 * s 1 11 a1.toNat + s 1 12 a1.toNat) else (s, -2) := by
    simp only [f_X11_enough, g1c_X11_enough, g2b_X11_enough, g3_X11_enough, g4_X11_enough, g5c_X11_enough, g6c_X11_enough, ispC_x, f_X1_stand]
    by_cases z : 0 ≤ a1 ∧ a1 < s 0 10 7
    · rw [if_pos z, if_neg (show ¬ (1 : Int) = 0 by decide), if_pos z]
    · rw [if_neg z, if_pos rfl, if_neg z]
  have em : f_X12_enough m a1 = if 0 ≤ a1 ∧ a1 < m 1 1 3 then g4_X12_enough (xup m 0 0 0 0) a1 else (xup m 0 0 0 0, -2) := by
    simp only [f_X12_enough, g1w_X12_enough, g2c_X12_enough, g3b_X12_enough, g5_X12_enough, ispM_x, f3]
    by_cases z : 0 ≤ a1 ∧ a1 < m 1 1 3
    · rw [if_pos z, if_neg (show ¬ (1 : Int) = 0 by decide), if_pos z]
    · rw [if_neg z, if_pos rfl, if_neg z]
  rw [ec, em, ← H.pl.1]
  by_cases z : 0 ≤ a1 ∧ a1 < m 1 1 3
  · rw [if_pos z, if_pos z]
    obtain ⟨p, rfl⟩ : ∃ p : Nat, a1 = (p : Int) := ⟨a1.toNat, by omega⟩
    obtain ⟨⟨b1, b2⟩, ⟨b3, b4⟩, -⟩ := H.bd.1 p z.2
    obtain ⟨p1, p2, -⟩ := H.pl.2.2.2.2.1 p z.2
    obtain ⟨c0, h0⟩ : ∃ c0 : Nat, m 1 1 (36 + p) = (c0 : Int) := ⟨(m 1 1 (36 + p)).toNat, by omega⟩
    obtain ⟨d0, h1⟩ : ∃ d0 : Nat, m 1 1 (41 + p) = (d0 : Int) := ⟨(m 1 1 (41 + p)).toNat, by omega⟩
    have L := H.ld (show 0 < w * h by omega)
    rw [show (p : Int).toNat = p from rfl, p1, p2, h0, h1, show 4 * (c0 : Int) + (d0 : Int) = ((4 * c0 + d0 : Nat) : Int) by omega]
    obtain ⟨u, u1, u2, u3, u4, u5⟩ := survey_s H L V Sq (c0 := c0) (d0 := d0) (K := 120) (by omega) (by omega) (by omega)
    obtain ⟨r, r1, r2, r3⟩ := en_s (m := m) (N := w * h) (c0 := c0) (d0 := d0) b25 u5 (Int.toNat (121 - 0 + 1)) 0 0 0 (fun c hc => by
      rw [bz_0]
      constructor
      · intro q; cases q
      · rintro ⟨-, l, q, -⟩; omega) (Or.inl rfl) (fun c l _ q => absurd q (Nat.not_lt_zero _)) (by omega) (by decide) (by decide)
    have u1' : f_X8_survey s ((4 * c0 + d0 : Nat) : Int) 120 = (u, 0) := u1
    have ec2 : f_X8_leastForAll s ((4 * c0 + d0 : Nat) : Int) = (u, (r : Int)) := by
      have e : f_X8_leastForAll s ((4 * c0 + d0 : Nat) : Int) = L2_X8_leastForAll (Int.toNat (121 - 0 + 1)) (f_X8_survey s ((4 * c0 + d0 : Nat) : Int) 120).1 0 0 0 := rfl
      rw [e, u1']
      exact r1
    obtain ⟨v, v1, v2, -, v3⟩ := laysFor_x (m := xup m 0 0 0 0) (H.fr FrA.rf m0r) (by rw [m0r]; exact L) (p := p) (c0 := c0) (d0 := d0) (n' := 60) (by rw [m0r]; exact h0) (by rw [m0r]; exact h1) (by omega) (by omega) (by omega)
    rw [m0r] at v3
    have vr : v 1 1 = m 1 1 := by rw [← m0r]; exact funext fun k => v2 1 1 k (by omega) (by omega)
    obtain ⟨r', w1, w2, w3⟩ := en_m (m := m) (v := v) (N := w * h) b25 (by rw [vr]; exact n2) v3 (Int.toNat (25 - 0 + 1)) 0 0 (Or.inl rfl) (fun c l q => absurd q (Nat.not_lt_zero _)) (by omega) (by show w * h < 0 + 26; omega)
    have v1' : f_X12_laysFor (xup m 0 0 0 0) (p : Int) 60 0 = (v, 0) := v1
    have em2 : g4_X12_enough (xup m 0 0 0 0) (p : Int) = (v, (r' : Int)) := by
      have e : g4_X12_enough (xup m 0 0 0 0) (p : Int) = L7_X12_enough (Int.toNat (25 - 0 + 1)) (f_X12_laysFor (xup m 0 0 0 0) (p : Int) 60 0).1 0 0 := rfl
      rw [e, v1']
      exact w1
    rw [ec2, em2]
    refine ⟨?_, u2, u4, u3, v2.mh⟩
    have q1 : r ≤ r' := by
      rcases r2 with q | ⟨c, q1, q2⟩
      · omega
      · exact w3 c r q1 q2
    have q2 : r' ≤ r := by
      rcases w2 with q | ⟨c, q1, q2⟩
      · omega
      · exact r3 c r' q1 q2
    show (r : Int) = (r' : Int)
    omega
  · rw [if_neg z, if_neg z]
    exact ⟨rfl, V, Sq, FrQ.rf, FrMh.thr⟩
theorem FrQ.tr8 {s m u v : XS} {t : Nat} (h : Tr s m t) (ht : t < 4) (F : FrQ u s) (G : FrMh v m) : Tr u v t := h.fr ht (fun T c k q1 q2 => F _ _ _ (by omega) (by omega)) (fun k => G _ _ _ (by omega) (by omega)) (fun k => G _ _ _ (by omega) (by omega)) (fun k => G _ _ _ (by omega) (by omega))
theorem RA_reach {N : Int} (h0 : 1000 ≤ N ∧ N ≤ 800000) {s m : XS} {a1 a2 : Int} (h : RA N s m) : (f_X11_reach s a1 a2).2 = (f_X12_reach m a1 a2).2 ∧ RA (N + 120) (f_X11_reach s a1 a2).1 (f_X12_reach m a1 a2).1 := by
  obtain ⟨w, hh, H⟩ := h
  obtain ⟨e, V, S, F, G⟩ := reach_x H.2.1 H.2.2.2.2.2.1 H.1.2 (a1 := a1) (a2 := a2)
  exact ⟨e, w, hh, (H.way F.w G.lm.w S V (fun t ht => (H.2.2.2.2.1 t ht).fr ht (fun T c k q1 q2 => F _ _ _ (by omega) (by omega)) (fun k => G _ _ _ (by omega) (by omega)) (fun k => G _ _ _ (by omega) (by omega)) (fun k => G _ _ _ (by omega) (by omega)))).le (by omega) (by omega)⟩
theorem RA_enough {N : Int} (h0 : 1000 ≤ N ∧ N ≤ 800000) {s m : XS} {a1 : Int} (h : RA N s m) : (f_X11_enough s a1).2 = (f_X12_enough m a1).2 ∧ RA (N + 120) (f_X11_enough s a1).1 (f_X12_enough m a1).1 := by
  obtain ⟨w, hh, H⟩ := h
  obtain ⟨e, V, S, F, G⟩ := enough_x H.2.1 H.2.2.2.2.2.1 H.1.2 (a1 := a1)
  exact ⟨e, w, hh, (H.way F.w G.lm.w S V (fun t ht => (H.2.2.2.2.1 t ht).fr ht (fun T c k q1 q2 => F _ _ _ (by omega) (by omega)) (fun k => G _ _ _ (by omega) (by omega)) (fun k => G _ _ _ (by omega) (by omega)) (fun k => G _ _ _ (by omega) (by omega)))).le (by omega) (by omega)⟩
