/-! whether one comes from there; what a turn takes: the class -/
theorem comes_x {A : Nat → Int} {N tE cc K j : Nat} {s : XS} (Bj : BL A N tE cc K j s) (hj : j < 60) {c d : Nat} (hc : c < 32) (hd : d < 4) {a3 : Int} (h3 : a3 ≤ (K : Int)) : ∃ r, f_X7_comes s (j : Int) ((4 * c + d : Nat) : Int) a3 = (s, r) ∧ ((r = 1 ∧ c < N ∧ ∃ l : Nat, (l : Int) ≤ a3 ∧ Bk A tE cc j c d l) ∨ (r = 0 ∧ ¬ (c < N ∧ ∃ l : Nat, (l : Int) ≤ a3 ∧ Bk A tE cc j c d l))) := by
  have a34 : Xiand ((4 * c + d : Nat) : Int) 3 = (d : Int) := by rw [and3_x (by omega) (by omega)]; omega
  have c4 : ((4 * c + d : Nat) : Int) / 4 = (c : Int) := by omega
  have stop : ∀ x : Nat, (2 * j < x ∨ a3 < (x : Int)) → (∀ l, l < x → l ≤ 2 * j → ¬ bz (s 1 88 (4 * (j * j) + (4 * l + d))) c = true) → (∀ l : Nat, l < x → (l : Int) ≤ a3) → ¬ (c < N ∧ ∃ l : Nat, (l : Int) ≤ a3 ∧ Bk A tE cc j c d l) := by
    rintro x hx no - ⟨q0, l, q1, q2⟩
    obtain ⟨l0, p1, p2⟩ := MinB.ex l q2
    have p3 := Bk.le j c d l0 p2.1
    exact no l0 (by omega) p3 ((Bj l0 d c p3 (by omega) hd hc).mpr ⟨q0, p2⟩)
  have key : ∀ (n x : Nat), (∀ l, l < x → l ≤ 2 * j → ¬ bz (s 1 88 (4 * (j * j) + (4 * l + d))) c = true) → (∀ l : Nat, l < x → (l : Int) ≤ a3) → x ≤ 2 * j + 1 → 2 * j + 1 < x + n → ∃ r, L1_X7_comes n s (j : Int) ((4 * c + d : Nat) : Int) a3 (x : Int) = (s, r) ∧ ((r = 1 ∧ c < N ∧ ∃ l : Nat, (l : Int) ≤ a3 ∧ Bk A tE cc j c d l) ∨ (r = 0 ∧ ¬ (c < N ∧ ∃ l : Nat, (l : Int) ≤ a3 ∧ Bk A tE cc j c d l))) := by
    intro n
    induction n with
    | zero => intro x _ _ h1 h2; omega
    | succ n ih =>
      intro x no le h1 h2
      have jj : ((j * j : Nat) : Int) = (j : Int) * (j : Int) := Int.natCast_mul _ _
      have ix : Int.toNat ((4 * (((j : Int) * (j : Int)) + (x : Int))) + (d : Int)) = 4 * (j * j) + (4 * x + d) := by rw [← jj]; omega
      have e : L1_X7_comes (n + 1) s (j : Int) ((4 * c + d : Nat) : Int) a3 (x : Int) = if 2 * j < x then (s, 0) else if a3 < (x : Int) then (s, 0) else if (if bz (s 1 88 (4 * (j * j) + (4 * x + d))) c = true then (1 : Int) else 0) = 0 then L1_X7_comes n s (j : Int) ((4 * c + d : Nat) : Int) a3 ((x + 1 : Nat) : Int) else (s, 1) := by
        show g2l_X7_comes (L1_X7_comes n) s (j : Int) ((4 * c + d : Nat) : Int) a3 (x : Int) = _
        simp only [g2l_X7_comes, g3b_X7_comes, g4_X7_comes, g5_X7_comes, g6b_X7_comes, g7_X7_comes, g8_X7_comes, g9b_X7_comes, g10_X7_comes, g11_X7_comes, a34, c4, ix, bz_tst hc]
        by_cases z : 2 * j < x
        · rw [if_pos z, if_pos (by omega)]
        · rw [if_neg z, if_neg (by omega)]
          rfl
      rw [e]
      by_cases z : 2 * j < x
      · rw [if_pos z]
        exact ⟨0, rfl, Or.inr ⟨rfl, stop x (Or.inl z) no le⟩⟩
      · rw [if_neg z]
        by_cases y : a3 < (x : Int)
        · rw [if_pos y]
          exact ⟨0, rfl, Or.inr ⟨rfl, stop x (Or.inr y) no le⟩⟩
        · rw [if_neg y]
          by_cases b : bz (s 1 88 (4 * (j * j) + (4 * x + d))) c = true
          · rw [if_pos b, if_neg (by decide)]
            obtain ⟨q1, q2⟩ := (Bj x d c (by omega) (by omega) hd hc).mp b
            exact ⟨1, rfl, Or.inl ⟨rfl, q1, x, by omega, q2.1⟩⟩
          · rw [if_neg b, if_pos rfl]
            refine ih (x + 1) (fun l q1 q2 => ?_) (fun l q1 => ?_) (by omega) (by omega)
            · by_cases k : l = x
              · rw [k]; exact b
              · exact no l (by omega) q2
            · by_cases k : l = x
              · omega
              · exact le l (by omega)
  exact key (Int.toNat (119 - 0 + 1)) 0 (fun l q => absurd q (by omega)) (fun l q => absurd q (by omega)) (by omega) (by show 2 * j + 1 < 0 + 120; omega)
def rgJ (v : Int) : Prop := -2147483648 ≤ v ∧ v ≤ 2147483647
theorem al_rg {s : XS} {a1 a2 a3 : Int} (h3 : rgJ a3) : rgJ (f_X2_allowing s a1 a2 a3).2 := by
  have LL : ∀ (n : Nat) (s : XS) (v39 v49 x : Int), rgJ (L11_X2_allowing n s a1 a2 a3 v39 v49 x).2 := by
    intro n
    induction n with
    | zero =>
      intro s v39 v49 x
      show rgJ 0
      exact ⟨by decide, by decide⟩
    | succ n ih =>
      intro s v39 v49 x
      show rgJ (g12l_X2_allowing (L11_X2_allowing n) s a1 a2 a3 v39 v49 x).2
      unfold g12l_X2_allowing g13b_X2_allowing
      split
      · unfold g15_X2_allowing g17b_X2_allowing
        split
        · exact rg_i _
        · unfold g19_X2_allowing g21b_X2_allowing
          split
          · exact ih _ _ _ _
          · unfold g23_X2_allowing g24c_X2_allowing g25b_X2_allowing
            split
            · exact ih _ _ _ _
            · exact ih _ _ _ _
      · exact rg_i _
  unfold f_X2_allowing g1c_X2_allowing g2b_X2_allowing
  split
  · exact h3
  · unfold g4_X2_allowing g5b_X2_allowing
    split
    · unfold g6_X2_allowing g8c_X2_allowing g9c_X2_allowing g10c_X2_allowing
      exact LL _ _ _ _ _
    · exact h3
theorem lf_x {B : Int} {w h : Nat} {s m : XS} (H : CS B w h s m) (V : FV (w * h) s (m 1 1)) {t c d T : Nat} (ht : t < 240) (hc : c < w * h) (hd : d < 4) (hT : T < 4) (hs : sF (m 1 1) c (tdr d T) ≠ -1) : ∃ u r, f_X2_lefts s (t : Int) ((4 * c + d : Nat) : Int) (T : Int) = (u, r) ∧ FV (w * h) u (m 1 1) ∧ FrF u s ∧ ((r = -1 ∧ csV (m 1 1) noM t c d T = 1000000000) ∨ (r = csV (m 1 1) noM t c d T ∧ 0 ≤ r ∧ r ≤ 2)) := by
  have b25 := H.1.b25
  have td := tdr_lt d T
  have e1 : Xiand (((4 * c + d : Nat) : Int) + (tTurn (Int.toNat (T : Int))).toInt) 3 = ((tdr d T : Nat) : Int) := by
    rw [show Int.toNat (T : Int) = T from rfl, tTurn_v hT, ← Int.natCast_add, and3_x (by omega) (by split <;> (try split) <;> omega)]
    unfold tdr
    omega
  have e2 : ((4 * c + d : Nat) : Int) / 4 = (c : Int) := by omega
  by_cases z : T < 2
  · refine ⟨s, 0, ?_, V, FrF.rf, Or.inr ?_⟩
    · simp only [f_X2_lefts, g1b_X2_lefts, g3_X2_lefts]
      rw [if_pos (by omega)]
    · unfold csV
      rw [if_neg hs, if_pos z]
      exact ⟨rfl, by decide, by decide⟩
  · obtain ⟨u1, r1, a1, a2, a3, a4⟩ := allow_x H V ht td (set := Xishl 1 (c : Int)) (fun k hk q => by
      rw [bz_one (by omega) hk, decide_eq_true_eq] at q
      omega)
    have rr : rgJ r1 := by
      have q := al_rg (s := s) (a1 := (t : Int)) (a2 := ((tdr d T : Nat) : Int)) (a3 := Xishl 1 (c : Int)) (rg_i _)
      rw [a1] at q
      exact q
    have rz : r1 ≠ 0 ↔ mayQ (m 1 1) c (t : Int) ((tdr d T : Nat) : Int) := by
      rw [bz_ne0 rr]
      constructor
      · rintro ⟨k, hk, q⟩
        obtain ⟨q1, q2⟩ := (a4 k hk).mp q
        rw [bz_one (by omega) hk, decide_eq_true_eq] at q1
        rw [← q1]
        exact q2
      · intro q
        exact ⟨c, by omega, (a4 c (by omega)).mpr ⟨by rw [bz_one (by omega) (by omega), decide_eq_true_eq], q⟩⟩
    obtain ⟨u2, fb, b1, b2, b3, b4⟩ := freeAt_x (a3.cs H) a2 ht
    have e : f_X2_lefts s (t : Int) ((4 * c + d : Nat) : Int) (T : Int) = if r1 = 0 then (u1, -1) else if (if bz fb c = true then (1 : Int) else 0) = 0 then (u2, (T : Int) - 1) else (u2, 0) := by
      simp only [f_X2_lefts, g1b_X2_lefts, g2_X2_lefts, g4c_X2_lefts, g5b_X2_lefts, g6_X2_lefts, g7_X2_lefts, g8c_X2_lefts, g9b_X2_lefts, g10_X2_lefts, g11_X2_lefts, e1, e2, a1, b1, bz_tst (show c < 32 by omega)]
      rw [if_neg (by omega)]
    rw [e]
    by_cases y : r1 = 0
    · rw [if_pos y]
      refine ⟨u1, -1, rfl, a2, a3, Or.inl ⟨rfl, ?_⟩⟩
      have nm : ¬ mayQ (m 1 1) c (t : Int) ((tdr d T : Nat) : Int) := fun q => (rz.mpr q) y
      unfold csV
      rw [if_neg hs, if_neg z, if_neg nm]
    · rw [if_neg y]
      have mq := rz.mp y
      have fq := b4 c hc
      by_cases f : bz fb c = true
      · rw [if_pos f, if_neg (by decide)]
        refine ⟨u2, 0, rfl, b2, b3.tr a3, Or.inr ?_⟩
        unfold csV
        rw [if_neg hs, if_neg z, if_pos mq, if_pos (Or.inl (fq.mp f))]
        exact ⟨rfl, by decide, by decide⟩
      · rw [if_neg f, if_pos rfl]
        refine ⟨u2, (T : Int) - 1, rfl, b2, b3.tr a3, Or.inr ?_⟩
        unfold csV
        rw [if_neg hs, if_neg z, if_pos mq, if_neg (fun q => q.elim (fun q' => f (fq.mpr q')) id)]
        exact ⟨rfl, by omega, by omega⟩
