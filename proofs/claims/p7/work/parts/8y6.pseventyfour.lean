/-! the first turn that does: the class -/
theorem BL.fr {A : Nat → Int} {N tE cc K j : Nat} {s u : XS} (h : BL A N tE cc K j s) (e : u 1 88 = s 1 88) : BL A N tE cc K j u := fun l d c q1 q2 q3 q4 => by
  rw [e]
  exact h l d c q1 q2 q3 q4
/-- a turn after which one comes with what is left -/
def GoT (A : Nat → Int) (t tE cc j c d left T : Nat) : Prop := ∃ k q l : Nat, sF A c (tdr d T) = (k : Int) ∧ csV A noM t c d T = (q : Int) ∧ q ≤ 2 ∧ Bk A tE cc j k (tdr d T) l ∧ q + l ≤ left
theorem fo_in {B : Int} {w h : Nat} {s m : XS} (H : CS B w h s m) (L : Ld s (m 1 1) w h) {t0 len i cc K left c d : Nat} (el : s 0 87 5 = (len : Int)) (ela : s 0 87 6 = ((4 * c + d : Nat) : Int)) (h240 : t0 + len ≤ 240) (h60 : len ≤ 60) (hi : i < len) (hc : c < w * h) (hd : d < 4) (hK : left ≤ K) (h1000 : K ≤ 1000) (Bj : BL (m 1 1) (w * h) (t0 + len) cc K (len - i - 1) s) {R11 : XS → Int → Int → Int → XR} : ∀ (n T : Nat) (v : XS), FV (w * h) v (m 1 1) → FrF v s → (∀ T', T' < T → ¬ GoT (m 1 1) (t0 + i) (t0 + len) cc (len - i - 1) c d left T') → (∃ T', T' < 4 ∧ GoT (m 1 1) (t0 + i) (t0 + len) cc (len - i - 1) c d left T') → T ≤ 4 → 4 < T + n → ∃ u, ∃ T0 k q : Nat, T0 < 4 ∧ GoT (m 1 1) (t0 + i) (t0 + len) cc (len - i - 1) c d left T0 ∧ (∀ T', T' < T0 → ¬ GoT (m 1 1) (t0 + i) (t0 + len) cc (len - i - 1) c d left T') ∧ sF (m 1 1) c (tdr d T0) = (k : Int) ∧ k < w * h ∧ csV (m 1 1) noM (t0 + i) c d T0 = (q : Int) ∧ q ≤ left ∧ FV (w * h) u (m 1 1) ∧ FrF u s ∧ L7_X7_follow R11 n v (t0 : Int) (left : Int) (i : Int) (T : Int) = R11 (xup (xup u 1 89 i (T0 : Int)) 0 87 6 ((4 * k + tdr d T0 : Nat) : Int)) (t0 : Int) ((left - q : Nat) : Int) ((i + 1 : Nat) : Int) := by
  have b25 := L.b25
  intro n
  induction n with
  | zero => intro T v _ _ _ _ h1 h2; omega
  | succ n ih =>
    intro T v Vv Fv no ex h1 h2
    by_cases z : T < 4
    · have Lv : Ld v (m 1 1) w h := Fv.g.ld L
      have Hv := Fv.cs H
      have td := tdr_lt d T
      have e5 : v 0 87 5 = (len : Int) := by rw [Fv _ _ _ (by omega) (by omega)]; exact el
      have e6 : v 0 87 6 = ((4 * c + d : Nat) : Int) := by rw [Fv _ _ _ (by omega) (by omega)]; exact ela
      have st := sta_x Lv (t := T) hc hd z
      by_cases y : sF (m 1 1) c (tdr d T) = -1
      · rw [if_pos y] at st
        have e : L7_X7_follow R11 (n + 1) v (t0 : Int) (left : Int) (i : Int) (T : Int) = L7_X7_follow R11 n v (t0 : Int) (left : Int) (i : Int) ((T + 1 : Nat) : Int) := by
          show g8l_X7_follow R11 (L7_X7_follow R11 n) v (t0 : Int) (left : Int) (i : Int) (T : Int) = _
          simp only [g8l_X7_follow, g9b_X7_follow, g11_X7_follow, g12c_X7_follow, g13b_X7_follow, g15_X7_follow, e6, st]
          rw [if_pos (by omega), if_pos (by decide)]
          rfl
        rw [e]
        refine ih (T + 1) v Vv Fv (fun T' q => ?_) ex (by omega) (by omega)
        by_cases k : T' = T
        · rw [k]
          rintro ⟨k', q', l', p1, -⟩
          omega
        · exact no T' (by omega)
      · have sk := L.2.2.2.1 c _ hc td y
        obtain ⟨k, hk⟩ : ∃ k : Nat, sF (m 1 1) c (tdr d T) = (k : Int) := ⟨(sF (m 1 1) c (tdr d T)).toNat, by omega⟩
        have kN : k < w * h := by omega
        rw [if_neg y, hk, show 4 * (k : Int) + ((tdr d T : Nat) : Int) = ((4 * k + tdr d T : Nat) : Int) by omega] at st
        obtain ⟨u, r, u1, u2, u3, u4⟩ := lf_x Hv Vv (t := t0 + i) (c := c) (d := d) (T := T) (by omega) hc hd z y
        have Fu : FrF u s := u3.tr Fv
        have e5' : u 0 87 5 = (len : Int) := by rw [Fu _ _ _ (by omega) (by omega)]; exact el
        rcases u4 with ⟨r1, r2⟩ | ⟨r1, r2, r3⟩
        · have e : L7_X7_follow R11 (n + 1) v (t0 : Int) (left : Int) (i : Int) (T : Int) = L7_X7_follow R11 n u (t0 : Int) (left : Int) (i : Int) ((T + 1 : Nat) : Int) := by
            show g8l_X7_follow R11 (L7_X7_follow R11 n) v (t0 : Int) (left : Int) (i : Int) (T : Int) = _
            simp only [g8l_X7_follow, g9b_X7_follow, g11_X7_follow, g12c_X7_follow, g13b_X7_follow, g14_X7_follow, g16c_X7_follow, g17b_X7_follow, g18_X7_follow, e6, st, show (t0 : Int) + (i : Int) = ((t0 + i : Nat) : Int) by omega, u1]
            rw [if_pos (by omega), if_neg (by omega), if_pos (by omega)]
            rfl
          rw [e]
          refine ih (T + 1) u u2 Fu (fun T' q => ?_) ex (by omega) (by omega)
          by_cases k' : T' = T
          · rw [k']
            rintro ⟨k2, q', l', p1, p2, p3, -⟩
            omega
          · exact no T' (by omega)
        · have BLu : BL (m 1 1) (w * h) (t0 + len) cc K (len - i - 1) u := Bj.fr (funext fun x => Fu _ _ _ (by omega) (by omega))
          obtain ⟨g, g1, g2⟩ := comes_x BLu (by omega) (c := k) (d := tdr d T) (by omega) td (a3 := (left : Int) - r) (by omega)
          have sub : Xisub (left : Int) r = (left : Int) - r := isub_v (by unfold rgI; omega)
          have e : L7_X7_follow R11 (n + 1) v (t0 : Int) (left : Int) (i : Int) (T : Int) = if g = 0 then L7_X7_follow R11 n u (t0 : Int) (left : Int) (i : Int) ((T + 1 : Nat) : Int) else R11 (xup (xup u 1 89 i (T : Int)) 0 87 6 ((4 * k + tdr d T : Nat) : Int)) (t0 : Int) ((left : Int) - r) ((i + 1 : Nat) : Int) := by
            show g8l_X7_follow R11 (L7_X7_follow R11 n) v (t0 : Int) (left : Int) (i : Int) (T : Int) = _
            simp only [g8l_X7_follow, g9b_X7_follow, g11_X7_follow, g12c_X7_follow, g13b_X7_follow, g14_X7_follow, g16c_X7_follow, g17b_X7_follow, g19_X7_follow, g20c_X7_follow, g21b_X7_follow, g22_X7_follow, g23_X7_follow, g24w_X7_follow, g25w_X7_follow, e6, st, show (t0 : Int) + (i : Int) = ((t0 + i : Nat) : Int) by omega, u1, e5', sub, show ((len : Int) - (i : Int)) - 1 = ((len - i - 1 : Nat) : Int) by omega, g1, Int.toNat_natCast]
            rw [if_pos (by omega), if_neg (by omega), if_neg (by omega)]
            rfl
          rw [e]
          rcases g2 with ⟨g2, g3, l, g4, g5⟩ | ⟨g2, g3⟩
          · rw [if_neg (by omega)]
            obtain ⟨q, hq⟩ : ∃ q : Nat, r = (q : Int) := ⟨r.toNat, by omega⟩
            refine ⟨u, T, k, q, z, ⟨k, q, l, hk, by omega, by omega, g5, by omega⟩, no, hk, kN, by omega, by omega, u2, Fu, ?_⟩
            rw [hq, show (left : Int) - (q : Int) = ((left - q : Nat) : Int) by omega]
          · rw [if_pos g2]
            refine ih (T + 1) u u2 Fu (fun T' q => ?_) ex (by omega) (by omega)
            by_cases k' : T' = T
            · rw [k']
              rintro ⟨k2, q', l', p1, p2, p3, p4, p5⟩
              have kk : k2 = k := by omega
              rw [kk] at p4
              exact g3 ⟨kN, l', by omega, p4⟩
            · exact no T' (by omega)
    · obtain ⟨T', p1, p2⟩ := ex
      exact absurd p2 (no T' (by omega))
