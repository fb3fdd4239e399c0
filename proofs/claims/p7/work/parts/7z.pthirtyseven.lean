/-! a laid city with people, in both: what deeds lean on -/
/-- bounds of the row that deeds change -/
def BB (B : Int) (N : Nat) (P : Int) (R : Nat → Int) : Prop := (∀ p : Nat, (p : Int) < P → (0 ≤ R p ∧ (R p).toNat < N) ∧ (0 ≤ R (5 + p) ∧ R (5 + p) < 4) ∧ (0 ≤ R (10 + p) ∧ R (10 + p) ≤ 99) ∧ (0 ≤ R (15 + p) ∧ R (15 + p) ≤ 9999)) ∧ (∀ p, p < 5 → 0 ≤ R (20 + p) ∧ R (20 + p) ≤ 999) ∧ (∀ c, c < 25 → (0 ≤ R (25 + c) ∧ R (25 + c) ≤ B) ∧ (0 ≤ R (50 + c) ∧ R (50 + c) ≤ B + 99) ∧ (N ≤ c → R (50 + c) = 0)) ∧ (0 ≤ R 75 ∧ R 75 ≤ B)
theorem BB.le {B B' : Int} {N : Nat} {P : Int} {R : Nat → Int} (h : BB B N P R) (hB : B ≤ B') : BB B' N P R := by
  obtain ⟨h1, h2, h3, h4⟩ := h
  exact ⟨h1, h2, fun c hc => ⟨by have := (h3 c hc).1; omega, by have := (h3 c hc).2.1; omega, (h3 c hc).2.2⟩, by omega⟩
theorem BB.same {B : Int} {N : Nat} {P : Int} {R Q : Nat → Int} (h : BB B N P R) (e : ∀ k, lvP P k → Q k = R k) (hP : P ≤ 5) : BB B N P Q := by
  obtain ⟨h1, h2, h3, h4⟩ := h
  refine ⟨fun p hp => ?_, fun p hp => ?_, fun c hc => ?_, ?_⟩
  · rw [e p ⟨by omega, fun _ => by omega⟩, e (5 + p) ⟨by omega, fun _ => by omega⟩, e (10 + p) ⟨by omega, fun _ => by omega⟩, e (15 + p) ⟨by omega, fun _ => by omega⟩]
    exact h1 p hp
  · rw [e (20 + p) ⟨by omega, fun q => by omega⟩]
    exact h2 p hp
  · rw [e (25 + c) ⟨by omega, fun q => by omega⟩, e (50 + c) ⟨by omega, fun q => by omega⟩]
    exact h3 c hc
  · rw [e 75 ⟨by omega, fun q => by omega⟩]
    exact h4
/-- a net that is laid, or none -/
def LdO (s : XS) (A : Nat → Int) (w h : Nat) : Prop := (w = 0 ∧ h = 0 ∧ s 0 1 5 = 0 ∧ s 0 1 6 = 0 ∧ A 1 = 0 ∧ A 2 = 0) ∨ Ld s A w h
theorem LdO.b25 {s : XS} {A : Nat → Int} {w h : Nat} (L : LdO s A w h) : w * h ≤ 25 := by
  rcases L with ⟨q1, -⟩ | L
  · rw [q1, Nat.zero_mul]; omega
  · exact L.b25
theorem LdO.ld {s : XS} {A : Nat → Int} {w h c : Nat} (L : LdO s A w h) (hc : c < w * h) : Ld s A w h := by
  rcases L with ⟨q1, -⟩ | L
  · rw [q1, Nat.zero_mul] at hc
    exact absurd hc (Nat.not_lt_zero _)
  · exact L
theorem LdO.fr {s u : XS} {A : Nat → Int} {w h : Nat} (e5 : u 0 1 5 = s 0 1 5) (e6 : u 0 1 6 = s 0 1 6) (e18 : u 1 18 = s 1 18) (e19 : u 1 19 = s 1 19) (L : LdO s A w h) : LdO u A w h := by
  rcases L with ⟨q1, q2, q3, q4, q5, q6⟩ | L
  · exact Or.inl ⟨q1, q2, e5.trans q3, e6.trans q4, q5, q6⟩
  · exact Or.inr (L.fr e5 e6 e18 e19)
def rA (A : Nat → Int) (k : Nat) : Int := A (36 + k)
def CS (B : Int) (w h : Nat) (s m : XS) : Prop := LdO s (m 1 1) w h ∧ Ci 1 s (m 1 1) ∧ s 0 2 3 ≤ 900 ∧ s 0 6 3 ≤ 900 ∧ BB B (w * h) (m 1 1 3) (rA (m 1 1)) ∧ rgI (m 1 1 10) ∧ B ≤ 1000000
/-- the class's city but for its laws' own stacks and names; the reference's but for what it reckons -/
theorem Ci.sameV {s s' : XS} {A : Nat → Int} (hs : ∀ t c k, 1 ≤ c → c ≤ 19 → ¬ (t = 1 ∧ (c = 4 ∨ c = 5 ∨ c = 8 ∨ c = 9)) → s' t c k = s t c k) (h : Ci 1 s A) : Ci 1 s' A := by
  obtain ⟨a1, a2, a3, a4, a5, a6, a7, a8⟩ := h
  refine ⟨by rw [hs 0 1 7 (by omega) (by omega) (by omega)]; exact a1, by rw [hs 0 1 8 (by omega) (by omega) (by omega)]; exact a2, a3.same (hs 0 1 5 (by omega) (by omega) (by omega)) (hs 0 1 6 (by omega) (by omega) (by omega)) (fun d => hs 1 18 d (by omega) (by omega) (by omega)) (fun d => hs 1 19 d (by omega) (by omega) (by omega)) (fun _ _ => rfl), a4.same (fun k => hs 0 10 k (by omega) (by omega) (by omega)) (fun j k _ _ => hs 1 (1 + j) k (by omega) (by omega) (by omega)) (fun _ _ => rfl), a5, a6, a7.same (by omega) (fun k => hs 0 2 k (by omega) (by omega) (by omega)) (fun k => hs 1 3 k (by omega) (by omega) (by omega)) (fun _ _ => rfl) (Int.le_refl _), a8.same (by omega) (fun k => hs 0 6 k (by omega) (by omega) (by omega)) (fun k => hs 1 7 k (by omega) (by omega) (by omega)) (fun _ _ => rfl) (Int.le_refl _)⟩
/-- frames of a look: the laws' stacks and names; what is reckoned -/
def FrA (u s : XS) : Prop := ∀ t c k, ¬ (t = 1 ∧ (c = 4 ∨ c = 5 ∨ c = 8 ∨ c = 9)) → u t c k = s t c k
theorem FrA.rf {s : XS} : FrA s s := fun _ _ _ _ => rfl
theorem FrA.tr {a b c : XS} (h : FrA a b) (g : FrA b c) : FrA a c := fun t c' k q => (h t c' k q).trans (g t c' k q)
theorem FrLw.a2 {u s : XS} (h : FrLw 2 u s) : FrA u s := fun t c k q => h t c k (by omega)
theorem FrLw.a6 {u s : XS} (h : FrLw 6 u s) : FrA u s := fun t c k q => h t c k (by omega)
theorem FrV5.row {v m : XS} (h : FrV5 v m) : v 1 1 = m 1 1 := funext fun k => h 1 1 k (by omega)
theorem CS.fr {B : Int} {w h : Nat} {s m u v : XS} (hs : FrA u s) (hm : v 1 1 = m 1 1) (H : CS B w h s m) : CS B w h u v := by
  obtain ⟨c1, c2, c3, c4, c5, c6, c7⟩ := H
  unfold CS
  rw [hm, hs 0 2 3 (by omega), hs 0 6 3 (by omega)]
  exact ⟨c1.fr (hs _ _ _ (by omega)) (hs _ _ _ (by omega)) (funext fun k => hs _ _ _ (by omega)) (funext fun k => hs _ _ _ (by omega)), c2.sameV (fun t c k _ _ q => hs t c k q), c3, c4, c5, c6, c7⟩
/-- places of both, one by one -/
theorem CS.pl {B : Int} {w h : Nat} {s m : XS} (H : CS B w h s m) : m 1 1 3 = s 0 10 7 ∧ 0 ≤ m 1 1 3 ∧ m 1 1 3 ≤ 5 ∧ m 1 1 111 = s 0 10 8 ∧ (∀ p : Nat, (p : Int) < m 1 1 3 → s 1 11 p = m 1 1 (36 + p) ∧ s 1 12 p = m 1 1 (41 + p) ∧ s 1 13 p = m 1 1 (46 + p) ∧ s 1 14 p = m 1 1 (51 + p)) ∧ (∀ p, p < 5 → s 1 15 p = m 1 1 (56 + p)) ∧ (∀ c, c < 25 → s 1 16 c = m 1 1 (61 + c) ∧ s 1 17 c = m 1 1 (86 + c)) ∧ s 0 1 8 = m 1 1 10 := by
  obtain ⟨-, ⟨-, q2, -, ⟨a1, a2, a3, a4, a5, a6, a7⟩, -⟩, -⟩ := H
  refine ⟨a1, by rw [a1]; exact a2, by rw [a1]; exact a3, a4, fun p hp => ?_, fun p hp => (a6 p hp).symm, fun c hc => ⟨(a7 c hc).1.symm, (a7 c hc).2.symm⟩, q2.symm⟩
  rw [a1] at hp
  obtain ⟨b1, b2, b3, b4⟩ := a5 p hp
  exact ⟨b1.symm, b2.symm, b3.symm, b4.symm⟩
theorem CS.bd {B : Int} {w h : Nat} {s m : XS} (H : CS B w h s m) : (∀ p : Nat, (p : Int) < m 1 1 3 → (0 ≤ m 1 1 (36 + p) ∧ (m 1 1 (36 + p)).toNat < w * h) ∧ (0 ≤ m 1 1 (41 + p) ∧ m 1 1 (41 + p) < 4) ∧ (0 ≤ m 1 1 (46 + p) ∧ m 1 1 (46 + p) ≤ 99) ∧ (0 ≤ m 1 1 (51 + p) ∧ m 1 1 (51 + p) ≤ 9999)) ∧ (∀ p, p < 5 → 0 ≤ m 1 1 (56 + p) ∧ m 1 1 (56 + p) ≤ 999) ∧ (∀ c, c < 25 → (0 ≤ m 1 1 (61 + c) ∧ m 1 1 (61 + c) ≤ B) ∧ (0 ≤ m 1 1 (86 + c) ∧ m 1 1 (86 + c) ≤ B + 99)) ∧ (0 ≤ m 1 1 111 ∧ m 1 1 111 ≤ B) ∧ B ≤ 1000000 := by
  obtain ⟨-, -, -, -, ⟨h1, h2, h3, h4⟩, -, h5⟩ := H
  unfold rA at h1 h2 h3 h4
  refine ⟨fun p hp => ?_, fun p hp => ?_, fun c hc => ?_, h4, h5⟩
  · have q := h1 p hp
    rw [show 36 + (5 + p) = 41 + p by omega, show 36 + (10 + p) = 46 + p by omega, show 36 + (15 + p) = 51 + p by omega] at q
    exact q
  · have q := h2 p hp
    rw [show 36 + (20 + p) = 56 + p by omega] at q
    exact q
  · have q := h3 c hc
    rw [show 36 + (25 + c) = 61 + c by omega, show 36 + (50 + c) = 86 + c by omega] at q
    exact ⟨q.1, q.2.1⟩
/-- the lefts that a turn takes now -/
theorem lt_x {B : Int} {w h : Nat} {s m : XS} (H : CS B w h s m) {c : Nat} (hc : c < w * h) {t : Int} : f_X0_leftsTaken s 1 (c : Int) t = (s, if t < 2 then 0 else @ite Int (frQ (m 1 1) c 0) (Classical.propDecidable _) 0 (t - 1)) := by
  have b25 := H.1.b25
  obtain ⟨-, -, -, p4, -, -, p7, p8⟩ := H.pl
  obtain ⟨f1, f2, -⟩ := free_x s 1 (s 0 10 8)
  have bc := f2 c (by omega)
  simp only [f_X0_leftsTaken, g1b_X0_leftsTaken, g2_X0_leftsTaken, g3_X0_leftsTaken, g4c_X0_leftsTaken, g5b_X0_leftsTaken, g6_X0_leftsTaken, g7_X0_leftsTaken, show 1 + 9 = 10 from rfl, f1]
  by_cases z : t < 2
  · rw [if_pos z, if_pos z]
  · rw [if_neg z, if_neg z, bz_tst (by omega)]
    have e : bz (f_X0_freeBits s 1 (s 0 10 8)).2 c = true ↔ frQ (m 1 1) c 0 := by
      rw [bc]
      unfold frQ
      rw [p8, ← p4, show 1 + 9 + 7 = 17 from rfl, (p7 c (by omega)).2, Int.add_zero]
      exact ⟨fun q => q.elim Or.inl (fun y => Or.inr y.2), fun q => q.elim Or.inl (fun y => Or.inr ⟨by omega, y⟩)⟩
    by_cases y : frQ (m 1 1) c 0
    · rw [if_pos (e.mpr y), if_neg (by decide), if_pos y]
    · rw [if_neg (fun q => y (e.mp q)), if_pos rfl, if_neg y]
theorem xadd0 {x : Int} (h : rgI x) : Xiadd x 0 = x := by rw [iadd_v (by rw [Int.add_zero]; exact h), Int.add_zero]
/-- why a person can't go, in both -/
theorem hind_x {B : Int} {w h : Nat} {s m : XS} (H : CS B w h s m) {p q t r : Int} (hp : (0 ≤ q ∧ q < m 1 1 3 → p = q) ∧ (¬ (0 ≤ q ∧ q < m 1 1 3) → ¬ (0 ≤ p ∧ p < m 1 1 3))) (ht : (0 ≤ r ∧ r ≤ 3 → t = r) ∧ (¬ (0 ≤ r ∧ r ≤ 3) → ¬ (0 ≤ t ∧ t ≤ 3))) : ∃ u v v', f_X0_hindrance s 1 p t = (u, v) ∧ f_X12_whyNot m q r = (v', v) ∧ FrA u s ∧ FrV5 v' m ∧ (v = 0 → ∃ P T : Nat, p = (P : Int) ∧ q = (P : Int) ∧ (P : Int) < m 1 1 3 ∧ t = (T : Int) ∧ r = (T : Int) ∧ T < 4 ∧ sF (m 1 1) (m 1 1 (36 + P)).toNat (tdr (m 1 1 (41 + P)).toNat T) ≠ -1 ∧ (2 ≤ T → ¬ frQ (m 1 1) (m 1 1 (36 + P)).toNat 0 → (T : Int) - 1 ≤ m 1 1 (46 + P))) := by
  have b25 := H.1.b25
  obtain ⟨p1, p2, p3, p4, p5, p6, p7, p8⟩ := H.pl
  obtain ⟨b1, b2, b3, b4, b5⟩ := H.bd
  have ec : f_X0_hindrance s 1 p t = if ¬ (0 ≤ p ∧ p < m 1 1 3) ∨ ¬ (0 ≤ t ∧ t ≤ 3) then (s, 1) else g11_X0_hindrance s 1 p t := by
    have e0 : f_X0_hindrance s 1 p t = if p < 0 then (s, 1) else if p < s 0 10 7 then (if t < 0 then (s, 1) else if 3 < t then (s, 1) else g11_X0_hindrance s 1 p t) else (s, 1) := rfl
    rw [e0, ← p1]
    by_cases z1 : p < 0
    · rw [if_pos z1, if_pos (Or.inl (fun y => by omega))]
    · rw [if_neg z1]
      by_cases z2 : p < m 1 1 3
      · rw [if_pos z2]
        by_cases z3 : t < 0
        · rw [if_pos z3, if_pos (Or.inr (fun y => by omega))]
        · rw [if_neg z3]
          by_cases z4 : 3 < t
          · rw [if_pos z4, if_pos (Or.inr (fun y => by omega))]
          · rw [if_neg z4, if_neg (fun y => y.elim (fun k => k ⟨by omega, z2⟩) (fun k => k ⟨by omega, by omega⟩))]
      · rw [if_neg z2, if_pos (Or.inl (fun y => z2 y.2))]
  have em : f_X12_whyNot m q r = if ¬ (0 ≤ q ∧ q < m 1 1 3) ∨ ¬ (0 ≤ r ∧ r ≤ 3) then (m, 1) else g7_X12_whyNot m q r := by
    simp only [f_X12_whyNot, g1c_X12_whyNot, g2b_X12_whyNot, g3_X12_whyNot, g4_X12_whyNot, g5c_X12_whyNot, g6b_X12_whyNot, g8_X12_whyNot, f_X12_isPerson, g1c_X12_isPerson, within_x, show Int.toNat 3 = 3 from rfl]
    by_cases z1 : 0 ≤ q ∧ q < m 1 1 3
    · rw [if_pos (show 0 ≤ q ∧ q ≤ m 1 1 3 - 1 by omega), if_neg (show ¬ (1 : Int) = 0 by decide)]
      by_cases z2 : 0 ≤ r ∧ r ≤ 3
      · rw [if_pos z2, if_neg (show ¬ (1 : Int) = 0 by decide), if_neg (fun y => y.elim (fun k => k z1) (fun k => k z2))]
      · rw [if_neg z2, if_pos rfl, if_pos (Or.inr z2)]
    · rw [if_neg (show ¬ (0 ≤ q ∧ q ≤ m 1 1 3 - 1) by omega), if_pos rfl, if_pos (Or.inl z1)]
  rw [ec, em]
  by_cases z1 : 0 ≤ q ∧ q < m 1 1 3
  · by_cases z2 : 0 ≤ r ∧ r ≤ 3
    · have ep := hp.1 z1
      have et := ht.1 z2
      subst ep
      subst et
      rw [if_neg (fun y => y.elim (fun k => k z1) (fun k => k z2)), if_neg (fun y => y.elim (fun k => k z1) (fun k => k z2))]
      obtain ⟨P, rfl⟩ : ∃ P : Nat, p = (P : Int) := ⟨p.toNat, by omega⟩
      obtain ⟨T, rfl⟩ : ∃ T : Nat, t = (T : Int) := ⟨t.toNat, by omega⟩
      obtain ⟨q1, q2, q3, q4⟩ := p5 P z1.2
      obtain ⟨⟨r1, r2⟩, ⟨r3, r4⟩, ⟨r5, r6⟩, -⟩ := b1 P z1.2
      obtain ⟨c, hc⟩ : ∃ c : Nat, c = (m 1 1 (36 + P)).toNat := ⟨_, rfl⟩
      obtain ⟨d, hd⟩ : ∃ d : Nat, d = (m 1 1 (41 + P)).toNat := ⟨_, rfl⟩
      have ac : m 1 1 (36 + P) = (c : Int) := by omega
      have ad : m 1 1 (41 + P) = (d : Int) := by omega
      suffices hh : ∃ u v v', g11_X0_hindrance s 1 (P : Int) (T : Int) = (u, v) ∧ g7_X12_whyNot m (P : Int) (T : Int) = (v', v) ∧ FrA u s ∧ FrV5 v' m ∧ (v = 0 → sF (m 1 1) c (tdr d T) ≠ -1 ∧ (2 ≤ T → ¬ frQ (m 1 1) c 0 → (T : Int) - 1 ≤ m 1 1 (46 + P))) by
        obtain ⟨u, v, v', h1, h2, h3, h4, h5⟩ := hh
        exact ⟨u, v, v', h1, h2, h3, h4, fun k => ⟨P, T, rfl, rfl, z1.2, rfl, rfl, by omega, by rw [← hc, ← hd]; exact (h5 k).1, by rw [← hc]; exact (h5 k).2⟩⟩
      have cw : c < w * h := by rw [hc]; exact r2
      have d4 : d < 4 := by omega
      have T4 : T < 4 := by omega
      have td := tdr_lt d T
      have eT : Xiand (Xiadd (d : Int) ((tTurn (Int.toNat (T : Int))).toInt)) 3 = ((tdr d T : Nat) : Int) := by
        rw [show Int.toNat (T : Int) = T from rfl, tTurn_v T4, iadd_v (by unfold rgI; split <;> (try split) <;> omega), ← Int.natCast_add, and3_x (by omega) (by split <;> (try split) <;> omega)]
        unfold tdr
        omega
      have to := to_v (H.1.ld cw) cw td
      have ec2 : g11_X0_hindrance s 1 (P : Int) (T : Int) = if sF (m 1 1) c (tdr d T) < 0 then (s, 2) else (if (T : Int) < 2 then g18_X0_hindrance s 1 (P : Int) (T : Int) (c : Int) else g19_X0_hindrance s 1 (P : Int) (T : Int) (c : Int) ((tdr d T : Nat) : Int)) := by
        simp only [g11_X0_hindrance, g13c_X0_hindrance, g14b_X0_hindrance, g15_X0_hindrance, g16_X0_hindrance, g17b_X0_hindrance, show Int.toNat (P : Int) = P from rfl, show 1 + 9 + 1 = 11 from rfl, show 1 + 9 + 2 = 12 from rfl, q1, q2, ac, ad, eT, to]
      have st := stF_x (H.1.ld cw) cw td
      have db := dirby_x m d4 T4
      have em2 : g7_X12_whyNot m (P : Int) (T : Int) = if sF (m 1 1) c (tdr d T) = -1 then (m, 2) else (if Xcmp (T : Int) 2 < 0 then (m, 0) else g15_X12_whyNot m (P : Int) (T : Int) (c : Int) ((tdr d T : Nat) : Int)) := by
        simp only [g7_X12_whyNot, g9c_X12_whyNot, g10c_X12_whyNot, g11b_X12_whyNot, g12_X12_whyNot, g13_X12_whyNot, g14b_X12_whyNot, g16_X12_whyNot, show Int.toNat (41 + (P : Int)) = 41 + P by omega, show Int.toNat (36 + (P : Int)) = 36 + P by omega, ac, ad, db, st]
      rw [ec2, em2]
      by_cases y1 : sF (m 1 1) c (tdr d T) = -1
      · rw [if_pos (show sF (m 1 1) c (tdr d T) < 0 by omega), if_pos y1]
        exact ⟨s, 2, m, rfl, rfl, FrA.rf, FrV5.rf, fun k => absurd k (by decide)⟩
      · have y2 := ((H.1.ld cw).2.2.2.1 c _ cw td y1).2.1
        rw [if_neg (show ¬ sF (m 1 1) c (tdr d T) < 0 by omega), if_neg y1]
        by_cases y3 : (T : Int) < 2
        · rw [if_pos y3, if_pos ((cmp_v _ _).2.1.mpr y3)]
          have e18 : g18_X0_hindrance s 1 (P : Int) (T : Int) (c : Int) = (s, 0) := by
            simp only [g18_X0_hindrance, g20c_X0_hindrance, g21b_X0_hindrance, g22_X0_hindrance, g23_X0_hindrance, lt_x H cw, if_pos y3, show 1 + 9 + 3 = 13 from rfl, show Int.toNat (P : Int) = P from rfl, q3]
            rw [if_neg (by omega)]
          rw [e18]
          exact ⟨s, 0, m, rfl, rfl, FrA.rf, FrV5.rf, fun _ => ⟨y1, fun k => by omega⟩⟩
        · rw [if_neg y3, if_neg (fun k => y3 ((cmp_v _ _).2.1.mp k))]
          have B6 := H.2.2.2.1
          obtain ⟨u, a, v', m1, m2, m3, m4, m5⟩ := may_x (H.1.ld cw) H.2.1 B6 cw (by have := b3 c (by omega); unfold rgI; omega) (hr := 0) (d := ((tdr d T : Nat) : Int)) (hC' := s 0 10 8) (by unfold rgI; omega) (by rw [xadd0 (by unfold rgI; omega)]; exact p4.symm) (p7 c (by omega)).1
          have Hu : CS B w h u v' := H.fr m4.a6 m5.row
          have pu := Hu.pl
          have rowE := m5.row
          have e19 : g19_X0_hindrance s 1 (P : Int) (T : Int) (c : Int) ((tdr d T : Nat) : Int) = if a = 0 then (u, 3) else (if m 1 1 (46 + P) < (@ite Int (frQ (m 1 1) c 0) (Classical.propDecidable _) 0 ((T : Int) - 1)) then (u, 4) else (u, 0)) := by
            have lt := lt_x Hu cw (t := (T : Int))
            rw [rowE, if_neg y3] at lt
            have q13 := (pu.2.2.2.2.1 P (by rw [rowE]; exact z1.2)).2.2.1
            rw [rowE] at q13
            simp only [g19_X0_hindrance, g24c_X0_hindrance, g25b_X0_hindrance, g26_X0_hindrance, g27_X0_hindrance, g28c_X0_hindrance, g29b_X0_hindrance, g30_X0_hindrance, g31_X0_hindrance, show 1 + 9 = 10 from rfl, show 10 + 3 = 13 from rfl, show Int.toNat (P : Int) = P from rfl, m1, lt, q13]
          have e15 : g15_X12_whyNot m (P : Int) (T : Int) (c : Int) ((tdr d T : Nat) : Int) = if a = 0 then (v', 3) else (if @ite Int (frQ (m 1 1) c 0) (Classical.propDecidable _) 1 0 = 0 then (if m 1 1 (46 + P) < (T : Int) - 1 then (v', 4) else (v', 0)) else (v', 0)) := by
            have fr := freeM_x (m := v') (c := c) (hr := 0) (by omega) (by rw [rowE]; exact H.2.2.2.2.2.1) (by rw [rowE]; unfold rgI; omega)
            rw [rowE] at fr
            have lo : f_X12_leftsOf v' (T : Int) = (v', (T : Int) - 1) := by
              simp only [f_X12_leftsOf, g1b_X12_leftsOf, g2_X12_leftsOf, g3_X12_leftsOf]
              rw [if_neg y3]
            simp only [g15_X12_whyNot, g17c_X12_whyNot, g18b_X12_whyNot, g19_X12_whyNot, g20_X12_whyNot, g21c_X12_whyNot, g22b_X12_whyNot, g23_X12_whyNot, g24_X12_whyNot, g25c_X12_whyNot, g26b_X12_whyNot, g27_X12_whyNot, g28_X12_whyNot, show Int.toNat (46 + (P : Int)) = 46 + P by omega, m2, fr, lo, rowE]
          rw [e19, e15]
          by_cases k0 : a = 0
          · rw [if_pos k0, if_pos k0]
            exact ⟨u, 3, v', rfl, rfl, m4.a6, m5, fun k => absurd k (by decide)⟩
          · rw [if_neg k0, if_neg k0]
            by_cases k1 : frQ (m 1 1) c 0
            · rw [if_pos k1, if_pos k1, if_neg (by omega), if_neg (by decide)]
              exact ⟨u, 0, v', rfl, rfl, m4.a6, m5, fun _ => ⟨y1, fun _ k => absurd k1 k⟩⟩
            · rw [if_neg k1, if_neg k1, if_pos rfl]
              by_cases k2 : m 1 1 (46 + P) < (T : Int) - 1
              · rw [if_pos k2, if_pos k2]
                exact ⟨u, 4, v', rfl, rfl, m4.a6, m5, fun k => absurd k (by decide)⟩
              · rw [if_neg k2, if_neg k2]
                exact ⟨u, 0, v', rfl, rfl, m4.a6, m5, fun _ => ⟨y1, fun _ _ => by omega⟩⟩
    · rw [if_pos (Or.inr (ht.2 z2)), if_pos (Or.inr z2)]
      exact ⟨s, 1, m, rfl, rfl, FrA.rf, FrV5.rf, fun k => absurd k (by decide)⟩
  · rw [if_pos (Or.inl (hp.2 z1)), if_pos (Or.inl z1)]
    exact ⟨s, 1, m, rfl, rfl, FrA.rf, FrV5.rf, fun k => absurd k (by decide)⟩
