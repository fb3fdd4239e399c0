/-! what one still needs: the reference -/
theorem LsV.mn {P Q : Nat → Prop} {x v : Int} {q : Nat} (h : LsV P x) (g : LsV Q v) (hq : q ≤ 2) (b : ∀ l, Q l → l ≤ 200) : LsV (fun l => P l ∨ ∃ l', Q l' ∧ l = q + l') (min x ((q : Int) + v)) := by
  rcases g with ⟨g1, g2⟩ | ⟨l1, g0, g1, g2, g3⟩
  · have e : min x ((q : Int) + v) = x := by
      rcases h with ⟨h1, -⟩ | ⟨l, h0, h1, -⟩ <;> omega
    rw [e]
    refine h.iff (fun l => ⟨Or.inl, fun k => k.elim id (fun ⟨l', k1, _⟩ => absurd k1 (g2 l'))⟩)
  · have bl := b l1 g2
    rcases h with ⟨h1, h2⟩ | ⟨l, h0, h1, h2, h3⟩
    · refine Or.inr ⟨q + l1, by omega, by omega, Or.inr ⟨l1, g2, rfl⟩, fun l' k1 k2 => ?_⟩
      rcases k2 with k2 | ⟨l2, k2, k3⟩
      · exact h2 l' k2
      · exact g3 l2 (by omega) k2
    · by_cases z : l ≤ q + l1
      · refine Or.inr ⟨l, h0, by omega, Or.inl h2, fun l' k1 k2 => ?_⟩
        rcases k2 with k2 | ⟨l2, k2, k3⟩
        · exact h3 l' k1 k2
        · exact g3 l2 (by omega) k2
      · refine Or.inr ⟨q + l1, by omega, by omega, Or.inr ⟨l1, g2, rfl⟩, fun l' k1 k2 => ?_⟩
        rcases k2 with k2 | ⟨l2, k2, k3⟩
        · exact h3 l' (by omega) k2
        · exact g3 l2 (by omega) k2
/-- what one still needs from a stand when so many streets are left -/
def StV (A : Nat → Int) (tE cc j y : Nat) (v : Int) : Prop := LsV (fun l => Bk A tE cc j (y / 4) (y % 4) l) v
theorem sb_x {s m : XS} {w h : Nat} (L : Ld s (m 1 1) w h) {t0 hh i j tE cc : Nat} (W : LLo (m 1 1) noM (w * h) t0 hh m) (hi : i ≤ hh) (ht : tE - (j + 1) = t0 + i) (h60 : j < 60) (R : ∀ y, y < 4 * (w * h) → StV (m 1 1) tE cc j y (m 1 9 (100 * (i + 1) + y))) {x : Nat} (hx : x < 4 * (w * h)) : ∃ v, f_X12_stillBy m (i : Int) (x : Int) = (m, v) ∧ StV (m 1 1) tE cc (j + 1) x v := by
  have b25 := L.b25
  have hc : x / 4 < w * h := by omega
  have hd : x % 4 < 4 := by omega
  have e1 : (x : Int) / 4 = ((x / 4 : Nat) : Int) := by omega
  have e2 : (x : Int) % 4 = ((x % 4 : Nat) : Int) := by omega
  have key : ∀ (n T : Nat) (v : Int), LsV (fun l => ∃ U k q l', U < T ∧ sF (m 1 1) (x / 4) (tdr (x % 4) U) = ((k : Nat) : Int) ∧ csV (m 1 1) noM (t0 + i) (x / 4) (x % 4) U = ((q : Nat) : Int) ∧ q ≤ 2 ∧ Bk (m 1 1) tE cc j k (tdr (x % 4) U) l' ∧ l = q + l') v → T ≤ 4 → 4 < T + n → ∃ r, L1_X12_stillBy n m (i : Int) (x : Int) v (T : Int) = (m, r) ∧ StV (m 1 1) tE cc (j + 1) x r := by
    intro n
    induction n with
    | zero => intro T v _ h1 h2; omega
    | succ n ih =>
      intro T v Lv h1 h2
      by_cases z : T < 4
      · have cx := cost0_x L W (i := i) (c := x / 4) (d := x % 4) (T := T) hi hc hd z (a5 := 0)
        have td := tdr_lt (x % 4) T
        have db := dirby_x m hd z
        have sx := stF_x L hc td
        have e : L1_X12_stillBy (n + 1) m (i : Int) (x : Int) v (T : Int) = if csV (m 1 1) noM (t0 + i) (x / 4) (x % 4) T = 1000000000 then L1_X12_stillBy n m (i : Int) (x : Int) v ((T + 1 : Nat) : Int) else L1_X12_stillBy n m (i : Int) (x : Int) (min v (Xiadd (csV (m 1 1) noM (t0 + i) (x / 4) (x % 4) T) (m 1 9 (Int.toNat (((100 * ((i : Int) + 1)) + (4 * sF (m 1 1) (x / 4) (tdr (x % 4) T))) + ((tdr (x % 4) T : Nat) : Int)))))) ((T + 1 : Nat) : Int) := by
          show g2l_X12_stillBy (L1_X12_stillBy n) m (i : Int) (x : Int) v (T : Int) = _
          simp only [g2l_X12_stillBy, g3b_X12_stillBy, g5_X12_stillBy, g6c_X12_stillBy, g7b_X12_stillBy, g8_X12_stillBy, g9_X12_stillBy, g10c_X12_stillBy, g11c_X12_stillBy, g12c_X12_stillBy, g13c_X12_stillBy, e1, e2, cx, db, sx, lesser_x]
          rw [if_pos (by omega)]
          rfl
        rw [e]
        have skip : (∀ q : Nat, q ≤ 2 → csV (m 1 1) noM (t0 + i) (x / 4) (x % 4) T ≠ (q : Int)) → LsV (fun l => ∃ U k q l', U < T + 1 ∧ sF (m 1 1) (x / 4) (tdr (x % 4) U) = ((k : Nat) : Int) ∧ csV (m 1 1) noM (t0 + i) (x / 4) (x % 4) U = ((q : Nat) : Int) ∧ q ≤ 2 ∧ Bk (m 1 1) tE cc j k (tdr (x % 4) U) l' ∧ l = q + l') v := fun no => Lv.iff (fun l => by
          constructor
          · rintro ⟨U, k, q, l', p1, p2⟩
            exact ⟨U, k, q, l', by omega, p2⟩
          · rintro ⟨U, k, q, l', p1, p2, p3, p4, p5⟩
            by_cases y : U = T
            · rw [y] at p3
              exact absurd p3 (no q p4)
            · exact ⟨U, k, q, l', by omega, p2, p3, p4, p5⟩)
        by_cases y : csV (m 1 1) noM (t0 + i) (x / 4) (x % 4) T = 1000000000
        · rw [if_pos y]
          exact ih (T + 1) v (skip (fun q q1 => by omega)) (by omega) (by omega)
        · rw [if_neg y]
          have cr := (csV_r (A := m 1 1) (mo := noM) (t := t0 + i) (c := x / 4) (d := x % 4) z).resolve_left y
          obtain ⟨q, hq⟩ : ∃ q : Nat, csV (m 1 1) noM (t0 + i) (x / 4) (x % 4) T = (q : Int) := ⟨(csV (m 1 1) noM (t0 + i) (x / 4) (x % 4) T).toNat, by omega⟩
          have s1 : sF (m 1 1) (x / 4) (tdr (x % 4) T) ≠ -1 := fun k => by
            apply y
            unfold csV
            rw [if_pos k]
          have sk := L.2.2.2.1 (x / 4) _ hc td s1
          obtain ⟨k, hk⟩ : ∃ k : Nat, sF (m 1 1) (x / 4) (tdr (x % 4) T) = (k : Int) := ⟨(sF (m 1 1) (x / 4) (tdr (x % 4) T)).toNat, by omega⟩
          have kN : k < w * h := by omega
          have Rk := R (4 * k + tdr (x % 4) T) (by omega)
          unfold StV at Rk
          rw [show (4 * k + tdr (x % 4) T) / 4 = k by omega, show (4 * k + tdr (x % 4) T) % 4 = tdr (x % 4) T by omega] at Rk
          have bk : ∀ l, Bk (m 1 1) tE cc j k (tdr (x % 4) T) l → l ≤ 200 := fun l p => by
            have := Bk.le j _ _ l p
            omega
          have rb : rgI ((q : Int) + m 1 9 (100 * (i + 1) + (4 * k + tdr (x % 4) T))) := by
            unfold rgI
            rcases Rk with ⟨a1, -⟩ | ⟨l, a0, a1, -⟩ <;> omega
          rw [hq, hk, show Int.toNat (((100 * ((i : Int) + 1)) + (4 * (k : Int))) + ((tdr (x % 4) T : Nat) : Int)) = 100 * (i + 1) + (4 * k + tdr (x % 4) T) by omega, iadd_v rb]
          refine ih (T + 1) _ ((Lv.mn Rk (by omega) bk).iff (fun l => ?_)) (by omega) (by omega)
          constructor
          · rintro (⟨U, k', q', l', p1, p2⟩ | ⟨l', p1, p2⟩)
            · exact ⟨U, k', q', l', by omega, p2⟩
            · exact ⟨T, k, q, l', by omega, hk, hq, by omega, p1, p2⟩
          · rintro ⟨U, k', q', l', p1, p2, p3, p4, p5, p6⟩
            by_cases y' : U = T
            · rw [y'] at p2 p3 p5
              have kk : k' = k := by omega
              rw [kk] at p5
              exact Or.inr ⟨l', p5, by omega⟩
            · exact Or.inl ⟨U, k', q', l', by omega, p2, p3, p4, p5, p6⟩
      · have T4 : T = 4 := by omega
        subst T4
        refine ⟨v, ?_, Lv.iff (fun l => ?_)⟩
        · show g2l_X12_stillBy (L1_X12_stillBy n) m (i : Int) (x : Int) v ((4 : Nat) : Int) = _
          simp only [g2l_X12_stillBy, g3b_X12_stillBy, g4_X12_stillBy]
          rw [if_neg (by decide)]
        · constructor
          · rintro ⟨U, k, q, l', p1, p2, p3, p4, p5, p6⟩
            exact ⟨k, tdr (x % 4) U, l', q, (csV_sw L hc).mpr ⟨U, p1, rfl, p2, by rw [ht]; exact p3, p4⟩, p5, p6⟩
          · rintro ⟨k, e', l', q, p1, p2, p3⟩
            obtain ⟨U, u1, u2, u3, u4, u5⟩ := (csV_sw L hc).mp p1
            rw [ht] at u4
            rw [← u2] at u3 p2
            exact ⟨U, k, q, l', u1, u3, u4, u5, p2, p3⟩
  exact key 5 0 1000000000 (Or.inl ⟨rfl, fun l ⟨U, _, _, _, p, _⟩ => absurd p (by omega)⟩) (by decide) (by decide)
