/-! the first turn that does: the reference -/
theorem tu_in {s m : XS} {w h : Nat} (L : Ld s (m 1 1) w h) {t0 hh len i cc left c d : Nat} (W : LLo (m 1 1) noM (w * h) t0 hh m) (hl : len ≤ hh) (h60 : len ≤ 60) (hi : i < len) (hc : c < w * h) (hd : d < 4) (h1000 : left ≤ 1000) (R : ∀ y, y < 4 * (w * h) → StV (m 1 1) (t0 + len) cc (len - (i + 1)) y (m 1 9 (100 * (i + 1) + y))) {R21 : XS → Int → Int → Int → Int → XR} : ∀ (n T : Nat), (∀ T', T' < T → ¬ GoT (m 1 1) (t0 + i) (t0 + len) cc (len - i - 1) c d left T') → (∃ T', T' < 4 ∧ GoT (m 1 1) (t0 + i) (t0 + len) cc (len - i - 1) c d left T') → T ≤ 4 → 4 < T + n → ∃ T0 k q : Nat, T0 < 4 ∧ GoT (m 1 1) (t0 + i) (t0 + len) cc (len - i - 1) c d left T0 ∧ (∀ T', T' < T0 → ¬ GoT (m 1 1) (t0 + i) (t0 + len) cc (len - i - 1) c d left T') ∧ sF (m 1 1) c (tdr d T0) = (k : Int) ∧ csV (m 1 1) noM (t0 + i) c d T0 = (q : Int) ∧ q ≤ left ∧ L8_X12_laysTurns R21 n m (len : Int) ((4 * c + d : Nat) : Int) (left : Int) (i : Int) (T : Int) = R21 (xup m 1 13 i (T0 : Int)) (len : Int) ((4 * k + tdr d T0 : Nat) : Int) ((left - q : Nat) : Int) ((i + 1 : Nat) : Int) := by
  have b25 := L.b25
  have c4 : ((4 * c + d : Nat) : Int) / 4 = (c : Int) := by omega
  have d4 : ((4 * c + d : Nat) : Int) % 4 = (d : Int) := by omega
  intro n
  induction n with
  | zero => intro T _ _ h1 h2; omega
  | succ n ih =>
    intro T no ex h1 h2
    by_cases z : T < 4
    · have td := tdr_lt d T
      have cx := cost0_x L W (i := i) (c := c) (d := d) (T := T) (by omega) hc hd z (a5 := 0)
      have db := dirby_x m hd z
      have sx := stF_x L hc td
      have e : L8_X12_laysTurns R21 (n + 1) m (len : Int) ((4 * c + d : Nat) : Int) (left : Int) (i : Int) (T : Int) = if csV (m 1 1) noM (t0 + i) c d T = 1000000000 then L8_X12_laysTurns R21 n m (len : Int) ((4 * c + d : Nat) : Int) (left : Int) (i : Int) ((T + 1 : Nat) : Int) else if (left : Int) < Xiadd (csV (m 1 1) noM (t0 + i) c d T) (m 1 9 (Int.toNat ((100 * ((i : Int) + 1)) + ((4 * sF (m 1 1) c (tdr d T)) + ((tdr d T : Nat) : Int))))) then L8_X12_laysTurns R21 n m (len : Int) ((4 * c + d : Nat) : Int) (left : Int) (i : Int) ((T + 1 : Nat) : Int) else R21 (xup m 1 13 i (T : Int)) (len : Int) (4 * sF (m 1 1) c (tdr d T) + ((tdr d T : Nat) : Int)) (Xisub (left : Int) (csV (m 1 1) noM (t0 + i) c d T)) ((i + 1 : Nat) : Int) := by
        show g9l_X12_laysTurns R21 (L8_X12_laysTurns R21 n) m (len : Int) ((4 * c + d : Nat) : Int) (left : Int) (i : Int) (T : Int) = _
        simp only [g9l_X12_laysTurns, g10b_X12_laysTurns, g12_X12_laysTurns, g13c_X12_laysTurns, g14b_X12_laysTurns, g15_X12_laysTurns, g16_X12_laysTurns, g17c_X12_laysTurns, g18c_X12_laysTurns, g19b_X12_laysTurns, g20_X12_laysTurns, g21_X12_laysTurns, g22w_X12_laysTurns, c4, d4, cx, db, sx, Int.toNat_natCast]
        rw [if_pos (by omega)]
        rfl
      rw [e]
      have nx : ¬ GoT (m 1 1) (t0 + i) (t0 + len) cc (len - i - 1) c d left T → ∀ T', T' < T + 1 → ¬ GoT (m 1 1) (t0 + i) (t0 + len) cc (len - i - 1) c d left T' := fun q T' p => by
        by_cases k : T' = T
        · rw [k]; exact q
        · exact no T' (by omega)
      by_cases y : csV (m 1 1) noM (t0 + i) c d T = 1000000000
      · rw [if_pos y]
        exact ih (T + 1) (nx (fun ⟨k, q, l, p1, p2, p3, _⟩ => by omega)) ex (by omega) (by omega)
      · rw [if_neg y]
        have cr := (csV_r (A := m 1 1) (mo := noM) (t := t0 + i) (c := c) (d := d) z).resolve_left y
        obtain ⟨q, hq⟩ : ∃ q : Nat, csV (m 1 1) noM (t0 + i) c d T = (q : Int) := ⟨(csV (m 1 1) noM (t0 + i) c d T).toNat, by omega⟩
        have s1 : sF (m 1 1) c (tdr d T) ≠ -1 := fun k => by
          apply y
          unfold csV
          rw [if_pos k]
        have sk := L.2.2.2.1 c _ hc td s1
        obtain ⟨k, hk⟩ : ∃ k : Nat, sF (m 1 1) c (tdr d T) = (k : Int) := ⟨(sF (m 1 1) c (tdr d T)).toNat, by omega⟩
        have kN : k < w * h := by omega
        have Rk := R (4 * k + tdr d T) (by omega)
        unfold StV at Rk
        rw [show (4 * k + tdr d T) / 4 = k by omega, show (4 * k + tdr d T) % 4 = tdr d T by omega, show len - (i + 1) = len - i - 1 by omega] at Rk
        have rb : rgI ((q : Int) + m 1 9 (100 * (i + 1) + (4 * k + tdr d T))) := by
          unfold rgI
          rcases Rk with ⟨a1, -⟩ | ⟨l, a0, a1, -⟩ <;> omega
        rw [hq, hk, show Int.toNat ((100 * ((i : Int) + 1)) + ((4 * (k : Int)) + ((tdr d T : Nat) : Int))) = 100 * (i + 1) + (4 * k + tdr d T) by omega, iadd_v rb]
        rcases Rk with ⟨a1, a2⟩ | ⟨l, a0, a1, a2, a3⟩
        · rw [if_pos (by omega)]
          refine ih (T + 1) (nx ?_) ex (by omega) (by omega)
          rintro ⟨k', q', l', p1, p2, p3, p4, p5⟩
          have kk : k' = k := by omega
          rw [kk] at p4
          exact a2 l' p4
        · by_cases le : left < q + l
          · rw [if_pos (by omega)]
            refine ih (T + 1) (nx ?_) ex (by omega) (by omega)
            rintro ⟨k', q', l', p1, p2, p3, p4, p5⟩
            have kk : k' = k := by omega
            rw [kk] at p4
            exact a3 l' (by omega) p4
          · rw [if_neg (by omega)]
            refine ⟨T, k, q, z, ⟨k, q, l, hk, hq, by omega, a2, by omega⟩, no, hk, hq, by omega, ?_⟩
            rw [isub_v (by unfold rgI; omega), show (left : Int) - (q : Int) = ((left - q : Nat) : Int) by omega, show 4 * (k : Int) + ((tdr d T : Nat) : Int) = ((4 * k + tdr d T : Nat) : Int) by omega]
    · obtain ⟨T', p1, p2⟩ := ex
      exact absurd p2 (no T' (by omega))
theorem GoT.un {A : Nat → Int} {t tE cc j c d left T T' : Nat} (h : GoT A t tE cc j c d left T) (h' : GoT A t tE cc j c d left T') (m : ∀ U, U < T → ¬ GoT A t tE cc j c d left U) (m' : ∀ U, U < T' → ¬ GoT A t tE cc j c d left U) : T = T' := by
  by_cases z : T < T'
  · exact absurd h (m' T z)
  · by_cases y : T' < T
    · exact absurd h' (m T' y)
    · omega
/-- there is a turn that does, as long as one can come in time -/
theorem GoT.ex {s : XS} {A : Nat → Int} {w h : Nat} (L : Ld s A w h) {t0 len i cc left c d l : Nat} (hi : i < len) (hc : c < w * h) (b : Bk A (t0 + len) cc (len - i) c d l) (hl : l ≤ left) : ∃ T, T < 4 ∧ GoT A (t0 + i) (t0 + len) cc (len - i - 1) c d left T := by
  rw [show len - i = (len - i - 1) + 1 by omega] at b
  obtain ⟨k, e, l', q, p1, p2, p3⟩ := b
  rw [show t0 + len - (len - i - 1 + 1) = t0 + i by omega] at p1
  obtain ⟨T, u1, u2, u3, u4, u5⟩ := (csV_sw L hc).mp p1
  rw [← u2] at u3 p2
  exact ⟨T, u1, k, q, l', u3, u4, u5, p2, by omega⟩
/-- ways on from where ways lead -/
theorem Wy.bk {A : Nat → Int} {t0 len cc c0 d0 : Nat} : ∀ (i c d l l2 : Nat), i ≤ len → Wy A noM t0 c0 d0 i c d l → Bk A (t0 + len) cc (len - i) c d l2 → Bk A (t0 + len) cc len c0 d0 (l + l2)
  | 0, c, d, l, l2, _, q, b => by
    rw [q.1, q.2.1] at b
    rw [q.2.2, Nat.zero_add]
    exact b
  | i + 1, k, e, l, l2, hi, q, b => by
    obtain ⟨c, d, l', q', q1, q2, q3⟩ := q
    have b' : Bk A (t0 + len) cc (len - i) c d (q' + l2) := by
      rw [show len - i = (len - (i + 1)) + 1 by omega]
      refine ⟨k, e, l2, q', ?_, b, rfl⟩
      rw [show t0 + len - (len - (i + 1) + 1) = t0 + i by omega]
      exact q2
    have := Wy.bk i c d l' (q' + l2) (by omega) q1 b'
    rw [show l + l2 = l' + (q' + l2) by omega]
    exact this
