/-! a person -/
noncomputable def pC (W H : Int) (s : XS) : XS := (f_X1_settle (oC 10 999 (oC 9 99 (f_X5_heading (crW W H (f_X5_advance s).1).1).1).1).1 29 (crW W H (f_X5_advance s).1).2 (f_X5_heading (crW W H (f_X5_advance s).1).1).2 (oC 9 99 (f_X5_heading (crW W H (f_X5_advance s).1).1).1).2 (oC 10 999 (oC 9 99 (f_X5_heading (crW W H (f_X5_advance s).1).1).1).1).2).1
theorem person_c {w : WW} {s m : XS} {W H : Int} (E : Sb (s 1 78) (m 1 3)) (h : Tk w (s 1 78) (s 0 77) (m 0 0)) (h4 : s 0 77 4 ≠ 0) (e1 : s 0 20 5 = W) (e2 : s 0 20 6 = H) (w0 : 0 < W) : (f_X5_personLine s).1 = if s 0 29 7 < 5 then pC W H s else (f_X5_fail s 4).1 := by
  simp only [f_X5_personLine, g1b_X5_personLine, g2_X5_personLine, g3_X5_personLine, g4c_X5_personLine, g5c_X5_personLine, g6c_X5_personLine, g7b_X5_personLine, g8_X5_personLine, g9_X5_personLine, g10c_X5_personLine, g11b_X5_personLine, g12_X5_personLine, g13_X5_personLine, g14c_X5_personLine, g15c_X5_personLine, g16c_X5_personLine, g17c_X5_personLine, g18c_X5_personLine, g19c_X5_personLine, g20c_X5_personLine, g21b_X5_personLine, g22_X5_personLine, g23_X5_personLine, g24c_X5_personLine, g25c_X5_personLine, g26c_X5_personLine, g27c_X5_personLine, g28b_X5_personLine, g29_X5_personLine, g30_X5_personLine, g31c_X5_personLine, g32c_X5_personLine, g33c_X5_personLine, g34b_X5_personLine, g35_X5_personLine, g36_X5_personLine, g37c_X5_personLine, g38b_X5_personLine, g39_X5_personLine, g40_X5_personLine, g41c_X5_personLine, g42c_X5_personLine, g43c_X5_personLine, g44c_X5_personLine, g45c_X5_personLine, g46c_X5_personLine, g47c_X5_personLine, g48b_X5_personLine, g49_X5_personLine, g50_X5_personLine, g51c_X5_personLine, g52c_X5_personLine, g53c_X5_personLine, g54c_X5_personLine, g55c_X5_personLine, told_x E h h4 e1 e2 w0, word_x, bnd_d, bnd_e, e1]
  rw [if_pos w0]
  by_cases c : s 0 29 7 < 5
  · rw [if_pos c, if_pos c]
    unfold pC oC
    rcases wI01 ((f_X5_heading (crW W H (f_X5_advance s).1).1).1 1 78) 9 ((f_X5_heading (crW W H (f_X5_advance s).1).1).1 0 77) with z | z
    · rw [z]
      simp only [show ¬ (0 : Int) = 1 by decide, if_true, if_false]
      rcases wI01 ((f_X5_heading (crW W H (f_X5_advance s).1).1).1 1 78) 10 ((f_X5_heading (crW W H (f_X5_advance s).1).1).1 0 77) with z2 | z2
      · rw [z2]
        simp only [show ¬ (0 : Int) = 1 by decide, if_true, if_false]
      · rw [z2]
        simp only [show ¬ (1 : Int) = 0 by decide, if_true, if_false]
    · rw [z]
      simp only [show ¬ (1 : Int) = 0 by decide, if_true, if_false]
      rcases wI01 ((bF 0 99 (f_X5_advance (f_X5_heading (crW W H (f_X5_advance s).1).1).1).1).1 1 78) 10 ((bF 0 99 (f_X5_advance (f_X5_heading (crW W H (f_X5_advance s).1).1).1).1).1 0 77) with z2 | z2
      · rw [z2]
        simp only [show ¬ (0 : Int) = 1 by decide, if_true, if_false]
      · rw [z2]
        simp only [show ¬ (1 : Int) = 0 by decide, if_true, if_false]
  · rw [if_neg c, if_neg c]
noncomputable def qM (m : XS) (p c h l k : Int) (v : XS) : XS := if v 0 0 11 = 0 then xup (xup (xup (xup (xup v 1 4 (Int.toNat (36 + p)) c) 1 4 (Int.toNat (41 + p)) h) 1 4 (Int.toNat (46 + p)) l) 1 4 (Int.toNat (51 + p)) k) 1 4 3 ((xup (xup (xup (xup v 1 4 (Int.toNat (36 + p)) c) 1 4 (Int.toNat (41 + p)) h) 1 4 (Int.toNat (46 + p)) l) 1 4 (Int.toNat (51 + p)) k) 1 4 3 + 1) else v
noncomputable def pM (m : XS) : XS := qM m (m 1 4 3) (f_X12_takesCrossing (f_X12_next m).1).2 (hM (f_X12_takesCrossing (f_X12_next m).1).1).2 (oM 4 99 (hM (f_X12_takesCrossing (f_X12_next m).1).1).1).2 (oM 5 999 (oM 4 99 (hM (f_X12_takesCrossing (f_X12_next m).1).1).1).1).2 (oM 5 999 (oM 4 99 (hM (f_X12_takesCrossing (f_X12_next m).1).1).1).1).1
theorem person_m {m : XS} (h11 : m 0 0 11 = 0) : (f_X12_readPerson m).1 = if m 1 4 3 = 5 then (f_X12_fails m 4).1 else pM m := by
  simp only [f_X12_readPerson, g1b_X12_readPerson, g2_X12_readPerson, g3_X12_readPerson, g4b_X12_readPerson, g5_X12_readPerson, g6_X12_readPerson, g7c_X12_readPerson, g8c_X12_readPerson, g9b_X12_readPerson, g10_X12_readPerson, g11_X12_readPerson, g12c_X12_readPerson, g13c_X12_readPerson, g14c_X12_readPerson, g15b_X12_readPerson, g16_X12_readPerson, g17_X12_readPerson, g18c_X12_readPerson, g19c_X12_readPerson, g20b_X12_readPerson, g21_X12_readPerson, g22_X12_readPerson, g23c_X12_readPerson, g24b_X12_readPerson, g25_X12_readPerson, g26_X12_readPerson, g27b_X12_readPerson, g28_X12_readPerson, g29_X12_readPerson, g30w_X12_readPerson, g31w_X12_readPerson, g32w_X12_readPerson, g33w_X12_readPerson, g34w_X12_readPerson, g35c_X12_readPerson, g36b_X12_readPerson, g37_X12_readPerson, g38_X12_readPerson, g39w_X12_readPerson, g40w_X12_readPerson, g41w_X12_readPerson, g42w_X12_readPerson, g43w_X12_readPerson, g44c_X12_readPerson, g45c_X12_readPerson, g46b_X12_readPerson, g47_X12_readPerson, g48_X12_readPerson, g49b_X12_readPerson, g50_X12_readPerson, g51_X12_readPerson, g52w_X12_readPerson, g53w_X12_readPerson, g54w_X12_readPerson, g55w_X12_readPerson, g56w_X12_readPerson, g57c_X12_readPerson, g58b_X12_readPerson, g59_X12_readPerson, g60_X12_readPerson, g61w_X12_readPerson, g62w_X12_readPerson, g63w_X12_readPerson, g64w_X12_readPerson, g65w_X12_readPerson, g66c_X12_readPerson, g67c_X12_readPerson, g68c_X12_readPerson, g69c_X12_readPerson, within_x, eats_x, show Int.toNat 3 = 3 from rfl]
  by_cases c : m 1 4 3 = 5
  · rw [if_pos c, if_pos c]
  · rw [if_neg c, if_neg c]
    simp only [if_pos h11]
    unfold pM
    generalize (f_X12_takesCrossing (f_X12_next m).1).2 = a
    generalize (f_X12_takesCrossing (f_X12_next m).1).1 = u
    generalize m 1 4 3 = p
    by_cases d : u 0 0 11 = 0
    · by_cases e : 8 ≤ u 0 0 9 ∧ u 0 0 9 ≤ 11
      · have eh : hM u = ((f_X12_next u).1, u 0 0 9 - 8) := by
          unfold hM
          rw [if_pos ⟨d, e⟩]
        rw [eh]
        simp only [if_pos d, if_pos e, n10, if_false]
        generalize (f_X12_next u).1 = v
        by_cases f : v 0 0 11 = 0 ∧ v 0 0 9 = 4
        · have eo : oM 4 99 v = f_X12_takes (f_X12_next v).1 0 99 := by
            unfold oM
            rw [if_pos f]
          rw [eo]
          simp only [if_pos f, n10, if_false]
          generalize (f_X12_takes (f_X12_next v).1 0 99).2 = l
          generalize (f_X12_takes (f_X12_next v).1 0 99).1 = v'
          by_cases g : v' 0 0 11 = 0 ∧ v' 0 0 9 = 5
          · have eo : oM 5 999 v' = f_X12_takes (f_X12_next v').1 0 999 := by
              unfold oM
              rw [if_pos g]
            rw [eo]
            simp only [if_pos g, n10, if_false]
            unfold qM
            split <;> rfl
          · have eo : oM 5 999 v' = (v', 0) := by
              unfold oM
              rw [if_neg g]
            rw [eo]
            simp only [if_neg g, if_true]
            unfold qM
            split <;> rfl
        · have eo : oM 4 99 v = (v, 0) := by
            unfold oM
            rw [if_neg f]
          rw [eo]
          simp only [if_neg f, if_true]
          by_cases g : v 0 0 11 = 0 ∧ v 0 0 9 = 5
          · have eo : oM 5 999 v = f_X12_takes (f_X12_next v).1 0 999 := by
              unfold oM
              rw [if_pos g]
            rw [eo]
            simp only [if_pos g, n10, if_false]
            unfold qM
            split <;> rfl
          · have eo : oM 5 999 v = (v, 0) := by
              unfold oM
              rw [if_neg g]
            rw [eo]
            simp only [if_neg g, if_true]
            unfold qM
            split <;> rfl
      · have f11 := fails_11 (m := u) (k := 2) (by decide)
        have eh : hM u = ((f_X12_fails u 2).1, 0) := by
          unfold hM
          rw [if_neg (fun q => e q.2)]
        rw [eh]
        simp only [if_pos d, if_neg e, if_true]
        generalize (f_X12_fails u 2).1 = v at *
        have n4 : ¬ (v 0 0 11 = 0 ∧ v 0 0 9 = 4) := fun q => f11 q.1
        have n5 : ¬ (v 0 0 11 = 0 ∧ v 0 0 9 = 5) := fun q => f11 q.1
        have o4 : oM 4 99 v = (v, 0) := by
          unfold oM
          rw [if_neg n4]
        have o5 : oM 5 999 v = (v, 0) := by
          unfold oM
          rw [if_neg n5]
        rw [o4]
        dsimp only
        rw [o5]
        unfold qM
        simp only [if_neg n4, if_neg n5, if_neg f11]
    · have eh : hM u = (u, 0) := by
        unfold hM
        rw [if_neg (fun q => d q.1), fails_d d]
      have n4 : ¬ (u 0 0 11 = 0 ∧ u 0 0 9 = 4) := fun q => d q.1
      have n5 : ¬ (u 0 0 11 = 0 ∧ u 0 0 9 = 5) := fun q => d q.1
      have o4 : oM 4 99 u = (u, 0) := by
        unfold oM
        rw [if_neg n4]
      have o5 : oM 5 999 u = (u, 0) := by
        unfold oM
        rw [if_neg n5]
      rw [eh]
      dsimp only
      rw [o4]
      dsimp only
      rw [o5]
      unfold qM
      simp only [if_neg n4, if_neg n5, if_neg d]
theorem X_person {w : WW} {s m : XS} (E : Sb (s 1 78) (m 1 3)) (h : Tk w (s 1 78) (s 0 77) (m 0 0)) (h4 : s 0 77 4 ≠ 0) (hC : Ct s m) (hl : 0 < s 0 20 5) : Gl w 1 s m (f_X5_personLine s).1 (f_X12_readPerson m).1 := by
  obtain ⟨W, H, e1, e2, e3, e4, w2, w5, h2, h5⟩ := hC.laid hl
  have fk := hC.1.2.2.2.1
  have f1 : m 1 4 3 = s 0 29 7 := fk.1
  have f2 : 0 ≤ s 0 29 7 := fk.2.1
  have f3 : s 0 29 7 ≤ 5 := fk.2.2.1
  rw [person_c E h h4 e1 e2 (by omega), person_m h.1.2.1]
  by_cases c : s 0 29 7 < 5
  · rw [if_pos c, if_neg (by omega)]
    obtain ⟨P, hP⟩ : ∃ P : Nat, s 0 29 7 = (P : Int) := ⟨(s 0 29 7).toNat, by omega⟩
    have g1 := T_next E h h4
    have E1 := g1.env E
    have g2 := T_cross (W := W) (H := H) E1 g1.rt w2 w5 ((g1.cs.2 1 4 1 (by decide)).trans e3) ((g1.cs.2 1 4 2 (by decide)).trans e4)
    have E2 := g2.env E1
    have g3 := T_head E2 g2.rt
    have E3 := g3.env E2
    have g4 := T_opt (q := 4) (hi := 99) (by decide) (by decide) E3 g3.rt
    have E4 := g4.env E3
    have g5 := T_opt (q := 5) (hi := 999) (by decide) (by decide) E4 g4.rt
    have g := (((g1.tr g2).tr g3).tr g4).tr g5
    unfold pC pM
    rw [f1, hP]
    rw [show oC (cl 4) 99 = oC 9 99 from rfl, show oM ((4 : Nat) : Int) 99 = oM 4 99 from rfl, show oC (cl 5) 999 = oC 10 999 from rfl, show oM ((5 : Nat) : Int) 999 = oM 5 999 from rfl] at g
    generalize (oC 10 999 (oC 9 99 (f_X5_heading (crW (W : Int) (H : Int) (f_X5_advance s).1).1).1).1).2 = a4 at *
    generalize (oC 10 999 (oC 9 99 (f_X5_heading (crW (W : Int) (H : Int) (f_X5_advance s).1).1).1).1).1 = u at *
    generalize (oM 5 999 (oM 4 99 (hM (f_X12_takesCrossing (f_X12_next m).1).1).1).1).2 = b4 at *
    generalize (oM 5 999 (oM 4 99 (hM (f_X12_takesCrossing (f_X12_next m).1).1).1).1).1 = v at *
    generalize (oC 9 99 (f_X5_heading (crW (W : Int) (H : Int) (f_X5_advance s).1).1).1).2 = a3 at *
    generalize (oM 4 99 (hM (f_X12_takesCrossing (f_X12_next m).1).1).1).2 = b3 at *
    generalize (f_X5_heading (crW (W : Int) (H : Int) (f_X5_advance s).1).1).2 = a2 at *
    generalize (hM (f_X12_takesCrossing (f_X12_next m).1).1).2 = b2 at *
    generalize (crW (W : Int) (H : Int) (f_X5_advance s).1).2 = a1 at *
    generalize (f_X12_takesCrossing (f_X12_next m).1).2 = b1 at *
    obtain ⟨c1, c2⟩ := g.cs
    have fu : ∀ t c k, ¬ (20 ≤ c ∧ c ≤ 38) → (f_X1_settle u 29 a1 a2 a3 a4).1 t c k = u t c k := by
      intro t c k hk
      simp only [f_X1_settle, g1b_X1_settle, g2_X1_settle, g3_X1_settle, g4w_X1_settle, g5w_X1_settle, g6w_X1_settle, g7w_X1_settle, g8w_X1_settle]
      split
      · dsimp only
        rw [xup_c (by omega), xup_c (by omega), xup_c (by omega), xup_c (by omega), xup_c (by omega)]
      · rfl
    refine g.gl (by decide) fu (fun t c k hk => ?_) (fun q h11 hs => ?_)
    · unfold qM
      split
      · unfold xup; repeat rw [if_neg (fun q => hk ⟨q.1, q.2.1⟩)]
      · rfl
    · obtain ⟨⟨⟨⟨-, q1, -⟩, q2, -⟩, q3, -⟩, q4, -⟩ := q
      have i1 : Int.toNat (36 + (P : Int)) = 36 + P := by omega
      have i2 : Int.toNat (41 + (P : Int)) = 41 + P := by omega
      have i3 : Int.toNat (46 + (P : Int)) = 46 + P := by omega
      have i4 : Int.toNat (51 + (P : Int)) = 51 + P := by omega
      have P5 : P < 5 := by omega
      unfold qM
      rw [if_pos h11, ← q1, ← q2, ← q3, ← q4, i1, i2, i3, i4]
      have hA : ∀ j, j ≠ 3 → j ≠ 36 + P → j ≠ 41 + P → j ≠ 46 + P → j ≠ 51 + P → xup (xup (xup (xup (xup v 1 4 (36 + P) a1) 1 4 (41 + P) a2) 1 4 (46 + P) a3) 1 4 (51 + P) a4) 1 4 3 ((xup (xup (xup (xup v 1 4 (36 + P) a1) 1 4 (41 + P) a2) 1 4 (46 + P) a3) 1 4 (51 + P) a4) 1 4 3 + 1) 1 4 j = m 1 4 j := fun j z1 z2 z3 z4 z5 => by rw [xup_k z1, xup_k z5, xup_k z4, xup_k z3, xup_k z2]; exact c2 1 4 j (by decide)
      refine ⟨Ci_settle (P := P) hC.1 hP P5 (fun t c k z1 z2 => c1 t c k (by omega)) hA ?_ ?_ ?_ ?_ ?_, ?_⟩
      · rw [xup_s, xup_k (by omega), xup_k (by omega), xup_k (by omega), xup_k (by omega), c2 1 4 3 (by decide)]
      · rw [xup_k (by omega), xup_k (by omega), xup_k (by omega), xup_k (by omega), xup_s]
      · rw [xup_k (by omega), xup_k (by omega), xup_k (by omega), xup_s]
      · rw [xup_k (by omega), xup_k (by omega), xup_s]
      · rw [xup_k (by omega), xup_s]
      · rw [hA 873 (by omega) (by omega) (by omega) (by omega) (by omega), fu 0 77 5 (by omega)]
        have := hC.2
        omega
  · rw [if_neg c, if_pos (by omega)]
    exact (T_fail (by decide) (Or.inl h)).gl0 (by decide)
/-! a law -/
theorem tc1_len (a : Int) : 1 ≤ (tc1 a).length := by
  unfold tc1
  (repeat' split) <;> exact Nat.succ_le_succ (Nat.zero_le _)
theorem trl_len : ∀ l : List Int, l.length ≤ (trl l).length
  | [] => Nat.le_refl _
  | a :: l => by
    show l.length + 1 ≤ (tc1 a ++ trl l).length
    rw [List.length_append]
    have := tc1_len a
    have := trl_len l
    omega
/-- told in the row: from F on, so many -/
def wrL (t : Nat) (F : Int) (v : XS) : XS := if v 0 0 11 = 0 then xup (xup (xup v 1 4 (4 + t) 1) 1 4 (6 + t) F) 1 4 (8 + t) ((xup (xup v 1 4 (4 + t) 1) 1 4 (6 + t) F) 1 4 873 - F) else v
noncomputable def coM (m : XS) : XS := if m 0 0 11 = 0 ∧ m 0 0 9 = 31 then (f_X12_next m).1 else (f_X12_fails m 2).1
theorem law_m0 {m : XS} : (f_X12_readLaw m 0).1 = wrL 0 (coM (f_X12_next m).1 1 4 873) (f_X12_readSum_0 (coM (f_X12_next m).1) 0).1 := by
  simp only [f_X12_readLaw, g1c_X12_readLaw, g2c_X12_readLaw, g3b_X12_readLaw, g4_X12_readLaw, g5_X12_readLaw, g6b_X12_readLaw, g7_X12_readLaw, g8_X12_readLaw, g9c_X12_readLaw, g10b_X12_readLaw, g11_X12_readLaw, g12_X12_readLaw, g13w_X12_readLaw, g14w_X12_readLaw, g15w_X12_readLaw, g16c_X12_readLaw, g17b_X12_readLaw, g18_X12_readLaw, g19_X12_readLaw, g20w_X12_readLaw, g21w_X12_readLaw, g22w_X12_readLaw, g23c_X12_readLaw, g24b_X12_readLaw, g25_X12_readLaw, g26_X12_readLaw, g27c_X12_readLaw, g28c_X12_readLaw, eats_x]
  unfold coM
  generalize (f_X12_next m).1 = u
  by_cases c : u 0 0 11 = 0 ∧ u 0 0 9 = 31
  · simp only [if_pos c, n10, if_true, if_false]
    unfold wrL
    split <;> rfl
  · have f := fails_11 (m := u) (k := 2) (by decide)
    simp only [if_neg c, if_true, D_sum_0 0 f]
    unfold wrL
    rw [if_neg f]
theorem law_m1 {m : XS} : (f_X12_readLaw m 1).1 = wrL 1 (coM (f_X12_next m).1 1 4 873) (f_X12_readTruth_0 (coM (f_X12_next m).1) 0).1 := by
  simp only [f_X12_readLaw, g1c_X12_readLaw, g2c_X12_readLaw, g3b_X12_readLaw, g4_X12_readLaw, g5_X12_readLaw, g6b_X12_readLaw, g7_X12_readLaw, g8_X12_readLaw, g9c_X12_readLaw, g10b_X12_readLaw, g11_X12_readLaw, g12_X12_readLaw, g13w_X12_readLaw, g14w_X12_readLaw, g15w_X12_readLaw, g16c_X12_readLaw, g17b_X12_readLaw, g18_X12_readLaw, g19_X12_readLaw, g20w_X12_readLaw, g21w_X12_readLaw, g22w_X12_readLaw, g23c_X12_readLaw, g24b_X12_readLaw, g25_X12_readLaw, g26_X12_readLaw, g27c_X12_readLaw, g28c_X12_readLaw, eats_x]
  unfold coM
  generalize (f_X12_next m).1 = u
  by_cases c : u 0 0 11 = 0 ∧ u 0 0 9 = 31
  · simp only [if_pos c, n10, if_true, if_false]
    unfold wrL
    split <;> rfl
  · have f := fails_11 (m := u) (k := 2) (by decide)
    simp only [if_neg c, n10, if_true, if_false, D_truth_0 0 f]
    unfold wrL
    rw [if_neg f]
theorem X_law {w : WW} {s m : XS} {L t : Nat} {b : Bool} {H : Nat} {f g : XS → XS} (hH : H ≤ 20) (hL : (L = 21 ∧ t = 0 ∧ b = false) ∨ (L = 25 ∧ t = 1 ∧ b = true)) (hS : SimL (Num b H) f g) (E : Sb (s 1 78) (m 1 3)) (h : Tk w (s 1 78) (s 0 77) (m 0 0)) (h4 : s 0 77 4 ≠ 0) (hC : Ct s m) : Gl w 1 s m (f (f_X5_beginLaw s L).1) (wrL t (coM (f_X12_next m).1 1 4 873) (g (coM (f_X12_next m).1))) := by
  obtain ⟨s2, hs2⟩ : ∃ s2, s2 = xup (xup (xup s 3 77 10 (L : Int)) 0 L 3 0) 0 L 4 0 := ⟨_, rfl⟩
  have eb : (f_X5_beginLaw s L).1 = (f_X5_sign (f_X5_advance s2).1 58).1 := by
    simp only [f_X5_beginLaw, g1w_X5_beginLaw, g2c_X5_beginLaw, g3c_X5_beginLaw, g4c_X5_beginLaw, f_X4_clear, g1w_X4_clear, g2w_X4_clear]
    rw [xup_s, show Int.toNat (L : Int) = L from rfl, hs2]
  rw [eb]
  have z77 : s2 0 77 = s 0 77 := funext fun k => by rw [hs2, xup_c (by omega), xup_c (by omega), xup_t (by decide)]
  have z78 : s2 1 78 = s 1 78 := funext fun k => by rw [hs2, xup_t (by decide), xup_t (by decide), xup_t (by decide)]
  have E0 : Sb (s2 1 78) (m 1 3) := by rw [z78]; exact E
  have h0 : Tk w (s2 1 78) (s2 0 77) (m 0 0) := by rw [z78, z77]; exact h
  have g1 := T_next E0 h0 (by rw [z77]; exact h4)
  have E1 := g1.env E0
  have g2 : Gt w (f_X5_advance s2).1 (f_X12_next m).1 (f_X5_sign (f_X5_advance s2).1 58).1 (coM (f_X12_next m).1) 1 True := T_sign (c := 58) (k := 31) (Or.inr ⟨rfl, rfl⟩) E1 g1.rt
  have gg := g1.tr g2
  have E2 := g2.env E1
  generalize (f_X5_sign (f_X5_advance s2).1 58).1 = s4 at *
  generalize coM (f_X12_next m).1 = m4 at *
  obtain ⟨c1, c2⟩ := gg.cs
  have eF : m4 1 4 873 = m 1 4 873 := c2 1 4 873 (by decide)
  rw [eF]
  obtain ⟨F, hF⟩ : ∃ F, F = m 1 4 873 := ⟨_, rfl⟩
  rw [← hF]
  have F0 : 0 ≤ F := by rw [hF]; exact hC.1.2.2.2.2.1
  have Fs : F ≤ s 0 77 5 := by rw [hF]; exact hC.2
  have ev : Ev L F s4 m4 := by
    refine ⟨E2, ?_, by omega, by rw [eF, hF]; exact Int.le_refl _, F0⟩
    obtain ⟨x, y, e1, e2, -⟩ := gg
    rw [e1, put_3, hs2, xup_t (by decide), xup_t (by decide), xup_s]
  have rx : Rx w L F [] F s4 m4 := by
    rcases gg.rt with ⟨r1, r2, r3, r4⟩ | r
    · refine Or.inl ⟨r1, r2, r3, r4, ⟨?_, ?_, fun k hk => absurd hk (Nat.not_lt_zero _)⟩, ⟨by rw [eF, hF]; show m 1 4 873 = m 1 4 873 + ((0 : Nat) : Int); omega, F0, fun k hk => absurd hk (Nat.not_lt_zero _)⟩, ?_⟩
      · rw [c1 0 L 3 (by omega), hs2, xup_k (by decide), xup_s]; rfl
      · rw [c1 0 L 4 (by omega), hs2, xup_s]; rfl
      · show (((trl []).length : Nat) : Int) + F ≤ s4 0 77 5
        obtain ⟨x, y, rfl, rfl, fx, fy, q⟩ := gg
        rw [put_at] at r1 ⊢
        rw [put_at] at r1
        rcases q with ⟨-, -, q3, -⟩ | q
        · rw [z77] at q3
          show ((0 : Nat) : Int) + F ≤ x 5
          omega
        · exact absurd r1.1 q.1
    · exact Or.inr r
  obtain ⟨u1, u2, u3, u4⟩ := hS w L F [] F s4 m4 ev rx F0
  generalize f s4 = u at *
  generalize g m4 = v at *
  have fw : ∀ t' c k, ¬ (t' = 1 ∧ c = 4) → wrL t F v t' c k = v t' c k := by
    intro t' c k hk
    unfold wrL
    split
    · unfold xup; repeat rw [if_neg (fun q => hk ⟨q.1, q.2.1⟩)]
    · rfl
  have fL : FrL s u := by
    intro t' c k q1 q2 q3
    rw [u1 t' c k q1 (by omega) (by omega)]
    have fr := gg.fr.1 t' c k q1 q2 q3
    rw [fr, hs2]
    unfold xup
    rw [if_neg (fun q => q3 (by omega)), if_neg (fun q => q3 (by omega)), if_neg (fun q => q2 q)]
  have fN : FrN m (wrL t F v) := by
    intro t' c k q1 q2
    rw [fw t' c k q2, u2 t' c k q1 (fun q => q2 ⟨q.1, q.2.1⟩)]
    exact gg.fr.2 t' c k q1 q2
  refine ⟨fL, fN, ?_⟩
  have e00 : wrL t F v 0 0 = v 0 0 := funext fun k => fw 0 0 k (by omega)
  rw [e00]
  rcases u4 with ⟨d, d1, ⟨k1, k2, k3, k4, k5, k6, k7⟩, d3⟩ | u4
  · have k5 : CL u L (trl d) := k5
    have k6 : CM v F d := k6
    have k7 : (((trl d).length : Nat) : Int) + F ≤ u 0 77 5 := k7
    have e78 : u 1 78 = s 1 78 := funext fun k => fL 1 78 k (by omega) (by omega) (by omega)
    have e78' : s4 1 78 = s 1 78 := by rw [← z78]; exact funext fun k => c1 1 78 k (by decide)
    have tl := trl_len d
    have b900 : u 0 77 5 ≤ 900 := by have := k4; unfold Bd at this; omega
    have s45 : s 0 77 5 + 1 ≤ u 0 77 5 := by
      obtain ⟨x, y, e1, e2, fx, fy, q⟩ := gg
      rw [e1, put_at] at d3
      have z := fx.2
      rw [z77] at z
      omega
    refine Or.inl ⟨⟨k1, k2, by rw [← e78]; exact k3, k4⟩, ?_, s45⟩
    have v11 : v 0 0 11 = 0 := k1.2.1
    obtain ⟨A', hA'⟩ : ∃ A', A' = wrL t F v 1 4 := ⟨_, rfl⟩
    have w1 : A' (4 + t) = 1 := by rw [hA']; unfold wrL; rw [if_pos v11, xup_k (by omega), xup_k (by omega), xup_s]
    have w2 : A' (6 + t) = F := by rw [hA']; unfold wrL; rw [if_pos v11, xup_k (by omega), xup_s]
    have w3 : A' (8 + t) = ((d.length : Nat) : Int) := by rw [hA']; unfold wrL; rw [if_pos v11, xup_s, xup_k (by omega), xup_k (by omega), k6.1]; omega
    have w4 : ∀ k, k ≠ 4 + t → k ≠ 6 + t → k ≠ 8 + t → A' k = v 1 4 k := fun k z1 z2 z3 => by rw [hA']; unfold wrL; rw [if_pos v11, xup_k z3, xup_k z2, xup_k z1]
    have w5 : ∀ k, k ≠ 4 + t → k ≠ 6 + t → k ≠ 8 + t → k ≠ 873 → (k : Int) < 874 + F → A' k = m 1 4 k := fun k z1 z2 z3 z4 z5 => by
      rw [w4 k z1 z2 z3, u2 1 4 k (by omega) (by omega)]
      exact c2 1 4 k (by decide)
    have w6 : A' 873 = F + ((d.length : Nat) : Int) := by rw [w4 873 (by omega) (by omega) (by omega)]; exact k6.1
    have us : ∀ t' c k, 20 ≤ c → c ≤ 38 → c ≠ L → c ≠ L + 1 → u t' c k = s t' c k := by
      intro t' c k z1 z2 z3 z4
      rw [u1 t' c k (by omega) z3 z4, c1 t' c k (by omega), hs2, xup_c z3, xup_c z3, xup_c (by omega)]
    obtain ⟨a1, a2, a3, a4, a5, a6, a7, a8⟩ := hC.1
    have new : Lx b L t u A' := by
      refine Or.inr ⟨w1, d, ?_, w3, by rw [w2]; exact F0, by rw [w2, w6]; exact Int.le_refl _, fun k hk => ?_, k5⟩
      · exact ⟨(d1 []).1, by have q := (d1 []).2; simp only [List.length_nil] at q; omega⟩
      · rw [w2, w4 _ (by omega) (by omega) (by omega)]
        exact k6.2.2 k hk
    have N' : m 1 4 873 ≤ A' 873 := by rw [w6, ← hF]; omega
    have old : ∀ (b' : Bool) (L' t' : Nat), 20 ≤ L' → L' + 1 ≤ 38 → L' + 1 < L ∨ L + 1 < L' → t' < 2 → t' ≠ t → Lx b' L' t' s (m 1 4) → Lx b' L' t' u A' := by
      intro b' L' t' z1 z2 z3 z4 z5 hx
      exact hx.same z4 (fun k => us 0 L' k (by omega) (by omega) (by omega) (by omega)) (fun k => us 1 (L' + 1) k (by omega) (by omega) (by omega) (by omega)) (fun k hk => w5 k (by omega) (by omega) (by omega) (by omega) (by omega)) N'
    refine ⟨?_, ?_⟩
    · rw [← hA']
      refine ⟨by rw [w5 0 (by omega) (by omega) (by omega) (by omega) (by omega), us 0 20 7 (by omega) (by omega) (by omega) (by omega)]; exact a1, by rw [w5 10 (by omega) (by omega) (by omega) (by omega) (by omega), us 0 20 8 (by omega) (by omega) (by omega) (by omega)]; exact a2, a3.same (us 0 20 5 (by omega) (by omega) (by omega) (by omega)) (us 0 20 6 (by omega) (by omega) (by omega) (by omega)) (fun d => us 1 37 d (by omega) (by omega) (by omega) (by omega)) (fun d => us 1 38 d (by omega) (by omega) (by omega) (by omega)) (fun k hk => w5 k (by omega) (by omega) (by omega) (by omega) (by omega)), a4.same (fun k => us 0 29 k (by omega) (by omega) (by omega) (by omega)) (fun j k _ _ => us 1 (20 + j) k (by omega) (by omega) (by omega) (by omega)) (fun k hk => w5 k (by omega) (by omega) (by omega) (by omega) (by omega)), by rw [w6]; omega, by rw [w6]; omega, ?_, ?_⟩
      · rcases hL with ⟨rfl, rfl, rfl⟩ | ⟨rfl, rfl, rfl⟩
        · exact new
        · exact old false 21 0 (by decide) (by decide) (Or.inl (by decide)) (by decide) (by decide) a7
      · rcases hL with ⟨rfl, rfl, rfl⟩ | ⟨rfl, rfl, rfl⟩
        · exact old true 25 1 (by decide) (by decide) (Or.inr (by decide)) (by decide) (by decide) a8
        · exact new
    · rw [← hA', w6]
      omega
  · exact Or.inr u4
