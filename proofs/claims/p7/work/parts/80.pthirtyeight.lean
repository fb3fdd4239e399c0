/-! deeds on the row, in both -/
def up1 (R : Nat → Int) (j : Nat) (v : Int) : Nat → Int := fun k => if k = j then v else R k
theorem up1_s {R : Nat → Int} {j : Nat} {v : Int} : up1 R j v j = v := if_pos rfl
theorem up1_n {R : Nat → Int} {j k : Nat} {v : Int} (h : k ≠ j) : up1 R j v k = R k := if_neg h
theorem Fw.up {P : Int} {R Q : Nat → Int} {j : Nat} {v : Int} (h : Fw P R Q) : Fw P (up1 R j v) (up1 Q j v) := fun k hk => by
  unfold up1
  split
  · rfl
  · exact h k hk
theorem rwC_u1 {s : XS} {b p : Nat} {v : Int} (hp : p < 5) : ∀ k, k < 76 → rwC (xup s 1 (b + 1) p v) b k = up1 (rwC s b) (p) v k := by
  intro k hk
  unfold up1 rwC xup
  (repeat' split) <;> first | rfl | (exfalso; omega)
theorem rwC_u2 {s : XS} {b p : Nat} {v : Int} (hp : p < 5) : ∀ k, k < 76 → rwC (xup s 1 (b + 2) p v) b k = up1 (rwC s b) (5 + p) v k := by
  intro k hk
  unfold up1 rwC xup
  (repeat' split) <;> first | rfl | (exfalso; omega)
theorem rwC_u3 {s : XS} {b p : Nat} {v : Int} (hp : p < 5) : ∀ k, k < 76 → rwC (xup s 1 (b + 3) p v) b k = up1 (rwC s b) (10 + p) v k := by
  intro k hk
  unfold up1 rwC xup
  (repeat' split) <;> first | rfl | (exfalso; omega)
theorem rwC_u4 {s : XS} {b p : Nat} {v : Int} (hp : p < 5) : ∀ k, k < 76 → rwC (xup s 1 (b + 4) p v) b k = up1 (rwC s b) (15 + p) v k := by
  intro k hk
  unfold up1 rwC xup
  (repeat' split) <;> first | rfl | (exfalso; omega)
theorem rwC_u5 {s : XS} {b p : Nat} {v : Int} (hp : p < 5) : ∀ k, k < 76 → rwC (xup s 1 (b + 5) p v) b k = up1 (rwC s b) (20 + p) v k := by
  intro k hk
  unfold up1 rwC xup
  (repeat' split) <;> first | rfl | (exfalso; omega)
theorem rwC_u6 {s : XS} {b p : Nat} {v : Int} (hp : p < 25) : ∀ k, k < 76 → rwC (xup s 1 (b + 6) p v) b k = up1 (rwC s b) (25 + p) v k := by
  intro k hk
  unfold up1 rwC xup
  (repeat' split) <;> first | rfl | (exfalso; omega)
theorem rwC_u7 {s : XS} {b p : Nat} {v : Int} (hp : p < 25) : ∀ k, k < 76 → rwC (xup s 1 (b + 7) p v) b k = up1 (rwC s b) (50 + p) v k := by
  intro k hk
  unfold up1 rwC xup
  (repeat' split) <;> first | rfl | (exfalso; omega)
theorem rwC_u8 {s : XS} {b : Nat} {v : Int} : ∀ k, k < 76 → rwC (xup s 0 b 8 v) b k = up1 (rwC s b) 75 v k := by
  intro k hk
  unfold up1 rwC xup
  (repeat' split) <;> first | rfl | (exfalso; omega)
theorem rA_up {m : XS} {j : Nat} {v : Int} : rA (xup m 1 1 (36 + j) v 1 1) = up1 (rA (m 1 1)) j v := by
  funext k
  unfold rA up1 xup
  (repeat' split) <;> first | rfl | (exfalso; omega)
theorem up1_c {R Q : Nat → Int} {j : Nat} {v : Int} (h : ∀ k, k < 76 → R k = Q k) : ∀ k, k < 76 → up1 R j v k = up1 Q j v k := fun k hk => by
  unfold up1
  split
  · rfl
  · exact h k hk
theorem Ld.row {s : XS} {A A' : Nat → Int} {w h : Nat} (h1 : A' 1 = A 1) (h2 : A' 2 = A 2) (hw : ∀ c, c < 25 → A' (11 + c) = A (11 + c)) (L : Ld s A w h) : Ld s A' w h := by
  have b25 := L.b25
  obtain ⟨l1, ⟨l2, l3, l4, l5⟩, l6, l7, l8, l9, l10⟩ := L
  have e : ∀ c d, c < w * h → sF A' c d = sF A c d := fun c d hc => sF_same h1 h2 hw (by omega)
  refine ⟨l1, ⟨l2, l3, h1.trans l4, h2.trans l5⟩, fun c d hc hd => by rw [e c d hc]; exact l6 c d hc hd, fun c d hc hd => by rw [e c d hc]; exact l7 c d hc hd, l8, l9, fun c hc => by rw [hw c hc]; exact l10 c hc⟩
theorem LdO.row {s : XS} {A A' : Nat → Int} {w h : Nat} (h1 : A' 1 = A 1) (h2 : A' 2 = A 2) (hw : ∀ c, c < 25 → A' (11 + c) = A (11 + c)) (L : LdO s A w h) : LdO s A' w h := by
  rcases L with ⟨q1, q2, q3, q4, q5, q6⟩ | L
  · exact Or.inl ⟨q1, q2, q3, q4, h1.trans q5, h2.trans q6⟩
  · exact Or.inr (L.row h1 h2 hw)
/-- the city behind a deed -/
theorem CS.mk {B B' : Int} {w h : Nat} {s m u v : XS} (H : CS B w h s m) (hs : ∀ t c k, 1 ≤ c → c ≤ 19 → ¬ (t = 1 ∧ (c = 4 ∨ c = 5 ∨ c = 8 ∨ c = 9)) → ¬ (t = 1 ∧ 11 ≤ c ∧ c ≤ 17) → ¬ (t = 0 ∧ c = 10 ∧ k = 8) → u t c k = s t c k) (hm : ∀ k, (k < 36 ∨ 112 ≤ k) → v 1 1 k = m 1 1 k) (hF : Fw (m 1 1 3) (rwC u 10) (rA (v 1 1))) (hB : BB B' (w * h) (m 1 1 3) (rA (v 1 1))) (hB' : B' ≤ 1000000) : CS B' w h u v := by
  obtain ⟨c1, ⟨a1, a2, a3, a4, a5, a6, a7, a8⟩, c3, c4, c5, c6, c7⟩ := H
  have s5 := hs 0 1 5 (by omega) (by omega) (by omega) (by omega) (by omega)
  have s6 := hs 0 1 6 (by omega) (by omega) (by omega) (by omega) (by omega)
  have s18 : ∀ k, u 1 18 k = s 1 18 k := fun k => hs 1 18 k (by omega) (by omega) (by omega) (by omega) (by omega)
  have s19 : ∀ k, u 1 19 k = s 1 19 k := fun k => hs 1 19 k (by omega) (by omega) (by omega) (by omega) (by omega)
  have e3 : v 1 1 3 = m 1 1 3 := hm 3 (by omega)
  have s107 : u 0 10 7 = s 0 10 7 := hs 0 10 7 (by omega) (by omega) (by omega) (by omega) (by omega)
  refine ⟨(c1.fr s5 s6 (funext s18) (funext s19)).row (hm 1 (by omega)) (hm 2 (by omega)) (fun c hc => hm _ (by omega)), ⟨?_, ?_, ?_, ?_, ?_, ?_, ?_, ?_⟩, ?_, ?_, ?_, ?_, hB'⟩
  · rw [hm 0 (by omega), hs 0 1 7 (by omega) (by omega) (by omega) (by omega) (by omega)]; exact a1
  · rw [hm 10 (by omega), hs 0 1 8 (by omega) (by omega) (by omega) (by omega) (by omega)]; exact a2
  · exact a3.same s5 s6 s18 s19 (fun k hk => hm k (by omega))
  · have q := (Fk_rw (b := 1)).mp a4
    have q1 : m 1 1 3 = s 0 10 7 := q.1
    refine (Fk_rw (b := 1)).mpr ⟨?_, ?_, ?_, ?_⟩
    · show v 1 1 3 = u 0 10 7
      rw [e3, s107]; exact q1
    · show 0 ≤ u 0 10 7
      rw [s107]; exact q.2.1
    · show u 0 10 7 ≤ 5
      rw [s107]; exact q.2.2.1
    · show Fw (u 0 10 7) (rwC u 10) (rA (v 1 1))
      rw [s107, ← q1]; exact hF
  · rw [hm 873 (by omega)]; exact a5
  · rw [hm 873 (by omega)]; exact a6
  · exact a7.same (by omega) (fun k => hs 0 2 k (by omega) (by omega) (by omega) (by omega) (by omega)) (fun k => hs 1 3 k (by omega) (by omega) (by omega) (by omega) (by omega)) (fun k hk => hm k (by omega)) (by rw [hm 873 (by omega)]; exact Int.le_refl _)
  · exact a8.same (by omega) (fun k => hs 0 6 k (by omega) (by omega) (by omega) (by omega) (by omega)) (fun k => hs 1 7 k (by omega) (by omega) (by omega) (by omega) (by omega)) (fun k hk => hm k (by omega)) (by rw [hm 873 (by omega)]; exact Int.le_refl _)
  · rw [hs 0 2 3 (by omega) (by omega) (by omega) (by omega) (by omega)]; exact c3
  · rw [hs 0 6 3 (by omega) (by omega) (by omega) (by omega) (by omega)]; exact c4
  · rw [e3]; exact hB
  · rw [hm 10 (by omega)]; exact c6
theorem CS.fw {B : Int} {w h : Nat} {s m : XS} (H : CS B w h s m) : Fw (m 1 1 3) (rwC s 10) (rA (m 1 1)) := by
  obtain ⟨-, ⟨-, -, -, a4, -⟩, -⟩ := H
  have q := (Fk_rw (b := 1)).mp a4
  have q1 : m 1 1 3 = s 0 10 7 := q.1
  rw [q1]
  exact q.2.2.2
theorem lesser_x (m : XS) (a b : Int) : f_X12_lesser m a b = (m, min a b) := by
  simp only [f_X12_lesser, g1b_X12_lesser, g2_X12_lesser, g3_X12_lesser]
  split
  · rw [show min a b = a by omega]
  · rw [show min a b = b by omega]
/-- what a turn takes -/
noncomputable def tkn (A : Nat → Int) (c T : Nat) : Int := if (T : Int) < 2 then 0 else @ite Int (frQ A c 0) (Classical.propDecidable _) 0 ((T : Int) - 1)
theorem tkn_r {A : Nat → Int} {c T : Nat} (hT : T < 4) : 0 ≤ tkn A c T ∧ tkn A c T ≤ 2 := by
  unfold tkn
  split
  · omega
  · split <;> omega
/-- one goes, in both -/
theorem goes_x {B : Int} {w h : Nat} {s m : XS} (H : CS B w h s m) {P T c d : Nat} (hP : (P : Int) < m 1 1 3) (hT : T < 4) (ec : m 1 1 (36 + P) = (c : Int)) (ed : m 1 1 (41 + P) = (d : Int)) (hs : sF (m 1 1) c (tdr d T) ≠ -1) (hB : B < 1000000) (hl : tkn (m 1 1) c T ≤ m 1 1 (46 + P)) : ∃ u v, f_X0_step s 1 (P : Int) (T : Int) = (u, tkn (m 1 1) c T) ∧ f_X12_goes m (P : Int) (T : Int) = (v, tkn (m 1 1) c T) ∧ CS (B + 1) w h u v ∧ (∀ t c k, ¬ (t = 1 ∧ (c = 11 ∨ c = 12 ∨ c = 13 ∨ c = 15)) → ¬ (t = 0 ∧ c = 10 ∧ k = 8) → u t c k = s t c k) ∧ (∀ t c k, ¬ (t = 1 ∧ c = 1 ∧ 36 ≤ k ∧ k ≤ 111) → v t c k = m t c k) ∧ v 1 1 (36 + P) = sF (m 1 1) c (tdr d T) := by
  have b25 := H.1.b25
  obtain ⟨p1, p2, p3, p4, p5, p6, p7, p8⟩ := H.pl
  obtain ⟨b1, b2, b3, b4, b5⟩ := H.bd
  obtain ⟨q1, q2, q3, q4⟩ := p5 P hP
  obtain ⟨⟨r1, r2⟩, ⟨r3, r4⟩, ⟨r5, r6⟩, -⟩ := b1 P hP
  have P5 : P < 5 := by omega
  have cw : c < w * h := by rw [ec] at r2; exact r2
  have d4 : d < 4 := by rw [ed] at r4; omega
  have td := tdr_lt d T
  have u20 := b2 P P5
  have q15 := p6 P P5
  obtain ⟨D, hD⟩ : ∃ D : Nat, D = tdr d T := ⟨_, rfl⟩
  rw [← hD] at hs td ⊢
  obtain ⟨k, hk⟩ : ∃ k : Int, k = tkn (m 1 1) c T := ⟨_, rfl⟩
  have kr := tkn_r (A := m 1 1) (c := c) hT
  rw [← hk] at kr hl ⊢
  have tor := ((H.1.ld cw).2.2.2.1 c D cw td hs).2
  -- the class
  obtain ⟨s2, hs2⟩ : ∃ s2, s2 = xup (xup s 1 13 P (m 1 1 (46 + P) - k)) 1 15 P (min 999 (m 1 1 (56 + P) + k)) := ⟨_, rfl⟩
  obtain ⟨u, hu⟩ : ∃ u, u = xup (xup (xup s2 1 11 P (sF (m 1 1) c D)) 1 12 P (D : Int)) 0 10 8 (m 1 1 111 + 1) := ⟨_, rfl⟩
  have s2o : ∀ t c k, ¬ (t = 1 ∧ (c = 13 ∨ c = 15)) → s2 t c k = s t c k := fun t c k q => by
    rw [hs2]
    unfold xup
    rw [if_neg (fun z => q ⟨z.1, by omega⟩), if_neg (fun z => q ⟨z.1, by omega⟩)]
  have L2 : Ld s2 (m 1 1) w h := (H.1.ld cw).fr (s2o _ _ _ (by omega)) (s2o _ _ _ (by omega)) (funext fun k => s2o _ _ _ (by omega)) (funext fun k => s2o _ _ _ (by omega))
  have to := to_v L2 cw td
  have eT : Xiand (Xiadd (d : Int) ((tTurn (Int.toNat (T : Int))).toInt)) 3 = (D : Int) := by
    rw [show Int.toNat (T : Int) = T from rfl, tTurn_v hT, iadd_v (by unfold rgI; split <;> (try split) <;> omega), ← Int.natCast_add, and3_x (by omega) (by split <;> (try split) <;> omega), hD]
    unfold tdr
    omega
  have lt := lt_x H cw (t := (T : Int))
  have ltk : f_X0_leftsTaken s 1 (c : Int) (T : Int) = (s, k) := by rw [lt, hk]; rfl
  have eC : f_X0_step s 1 (P : Int) (T : Int) = (u, k) := by
    have x1 : xup s 1 13 P (m 1 1 (46 + P) - k) 1 15 P = m 1 1 (56 + P) := by rw [xup_c (by decide)]; exact q15
    have x2 : Xisub (m 1 1 (46 + P)) k = m 1 1 (46 + P) - k := isub_v (by unfold rgI; omega)
    have x3 : Xiadd (m 1 1 (56 + P)) k = m 1 1 (56 + P) + k := iadd_v (by unfold rgI; omega)
    have x4 : xup (xup s2 1 11 P (sF (m 1 1) c D)) 1 12 P (D : Int) 0 10 8 = m 1 1 111 := by rw [xup_t (by decide), xup_t (by decide), s2o _ _ _ (by omega)]; exact p4.symm
    have x5 : Xiadd (m 1 1 111) 1 = m 1 1 111 + 1 := iadd_v (by unfold rgI; omega)
    simp only [f_X0_step, g1c_X0_step, g2w_X0_step, g3w_X0_step, g4c_X0_step, g5w_X0_step, g6w_X0_step, g7w_X0_step, show Int.toNat (P : Int) = P from rfl, show 1 + 9 = 10 from rfl, show 10 + 1 = 11 from rfl, show 10 + 2 = 12 from rfl, show 10 + 3 = 13 from rfl, show 10 + 5 = 15 from rfl, q1, q2, q3, ec, ed, ltk, eT, x1, x2, x3, ← hs2, to, x4, x5, ← hu]
  -- the reference
  obtain ⟨m1, hm1⟩ : ∃ m1, m1 = xup m 1 1 (41 + P) (D : Int) := ⟨_, rfl⟩
  obtain ⟨v, hv⟩ : ∃ v, v = xup (xup (xup (xup m1 1 1 (36 + P) (sF (m 1 1) c D)) 1 1 (46 + P) (m 1 1 (46 + P) - k)) 1 1 (56 + P) (min 999 (m 1 1 (56 + P) + k))) 1 1 111 (m 1 1 111 + 1) := ⟨_, rfl⟩
  have m1o : ∀ j, j ≠ 41 + P → m1 1 1 j = m 1 1 j := fun j q => by rw [hm1, xup_k q]
  have LM : Ld s (m1 1 1) w h := (H.1.ld cw).row (m1o _ (by omega)) (m1o _ (by omega)) (fun c hc => m1o _ (by omega))
  have st := stF_x LM cw td
  have sfe : sF (m1 1 1) c D = sF (m 1 1) c D := sF_same (m1o _ (by omega)) (m1o _ (by omega)) (fun c hc => m1o _ (by omega)) (by omega)
  rw [sfe] at st
  have db := dirby_x m d4 hT
  rw [← hD] at db
  have m41 : m1 1 1 (41 + P) = (D : Int) := by rw [hm1, xup_s]
  have fr := freeM_x (m := m) (c := c) (hr := 0) (by omega) H.2.2.2.2.2.1 (by unfold rgI; omega)
  have eM : f_X12_goes m (P : Int) (T : Int) = (v, k) := by
    have i36 : Int.toNat (36 + (P : Int)) = 36 + P := by omega
    have i41 : Int.toNat (41 + (P : Int)) = 41 + P := by omega
    have i46 : Int.toNat (46 + (P : Int)) = 46 + P := by omega
    have i56 : Int.toNat (56 + (P : Int)) = 56 + P := by omega
    have y1 : xup m1 1 1 (36 + P) (sF (m 1 1) c D) 1 1 (46 + P) = m 1 1 (46 + P) := by rw [xup_k (by omega), m1o _ (by omega)]
    have y2 : ∀ x, xup (xup m1 1 1 (36 + P) (sF (m 1 1) c D)) 1 1 (46 + P) x 1 1 (56 + P) = m 1 1 (56 + P) := fun x => by rw [xup_k (by omega), xup_k (by omega), m1o _ (by omega)]
    have y3 : ∀ x y, xup (xup (xup m1 1 1 (36 + P) (sF (m 1 1) c D)) 1 1 (46 + P) x) 1 1 (56 + P) y 1 1 111 = m 1 1 111 := fun x y => by rw [xup_k (by omega), xup_k (by omega), xup_k (by omega), m1o _ (by omega)]
    have x5 : Xiadd (m 1 1 111) 1 = m 1 1 111 + 1 := iadd_v (by unfold rgI; omega)
    by_cases z : frQ (m 1 1) c 0
    · have k0 : k = 0 := by
        rw [hk]
        unfold tkn
        split
        · rfl
        · first | rfl | rw [if_pos z]
      rw [if_pos z] at fr
      simp only [f_X12_goes, g1c_X12_goes, g2b_X12_goes, i36, ec, fr]
      rw [if_neg (show ¬ (1 : Int) = 0 by decide)]
      simp only [g4_X12_goes, g14c_X12_goes, g15w_X12_goes, g16c_X12_goes, g17w_X12_goes, g18w_X12_goes, g19c_X12_goes, g20w_X12_goes, g21w_X12_goes, i36, i41, i46, i56, ed, db, ← hm1, m41, st, y1, y2, y3, lesser_x, show Int.toNat 111 = 111 from rfl, x5]
      rw [hv, k0]
    · rw [if_neg z] at fr
      have lo : f_X12_leftsOf m (T : Int) = (m, k) := by
        simp only [f_X12_leftsOf, g1b_X12_leftsOf, g2_X12_leftsOf, g3_X12_leftsOf]
        rw [hk]
        unfold tkn
        by_cases z2 : (T : Int) < 2
        · rw [if_pos z2, if_pos z2]
        · rw [if_neg z2, if_neg z2, if_neg z]
      have x3 : Xiadd (m 1 1 (56 + P)) k = m 1 1 (56 + P) + k := iadd_v (by unfold rgI; omega)
      simp only [f_X12_goes, g1c_X12_goes, g2b_X12_goes, i36, ec, fr]
      rw [if_pos trivial]
      simp only [g3_X12_goes, g5c_X12_goes, g6c_X12_goes, g7w_X12_goes, g8c_X12_goes, g9w_X12_goes, g10w_X12_goes, g11c_X12_goes, g12w_X12_goes, g13w_X12_goes, i36, i41, i46, i56, ed, lo, db, ← hm1, m41, st, y1, y2, y3, lesser_x, show Int.toNat 111 = 111 from rfl, x5, x3]
      rw [hv]
  have uo : ∀ t c k, ¬ (t = 1 ∧ (c = 11 ∨ c = 12 ∨ c = 13 ∨ c = 15)) → ¬ (t = 0 ∧ c = 10 ∧ k = 8) → u t c k = s t c k := fun t c k z1 z2 => by
    rw [hu]
    unfold xup
    rw [if_neg z2, if_neg (fun z => z1 ⟨z.1, by omega⟩), if_neg (fun z => z1 ⟨z.1, by omega⟩)]
    exact s2o t c k (fun z => z1 ⟨z.1, by omega⟩)
  have vo : ∀ t c k, ¬ (t = 1 ∧ c = 1 ∧ 36 ≤ k ∧ k ≤ 111) → v t c k = m t c k := fun t c k z => by
    rw [hv, hm1]
    unfold xup
    rw [if_neg (fun y => z ⟨y.1, y.2.1, by omega, by omega⟩), if_neg (fun y => z ⟨y.1, y.2.1, by omega, by omega⟩), if_neg (fun y => z ⟨y.1, y.2.1, by omega, by omega⟩), if_neg (fun y => z ⟨y.1, y.2.1, by omega, by omega⟩), if_neg (fun y => z ⟨y.1, y.2.1, by omega, by omega⟩)]
  -- the rows
  have rm : rA (v 1 1) = up1 (up1 (up1 (up1 (up1 (rA (m 1 1)) (5 + P) (D : Int)) P (sF (m 1 1) c D)) (10 + P) (m 1 1 (46 + P) - k)) (20 + P) (min 999 (m 1 1 (56 + P) + k))) 75 (m 1 1 111 + 1) := by
    rw [hv, show (111 : Nat) = 36 + 75 from rfl, rA_up, show 56 + P = 36 + (20 + P) by omega, rA_up, show 46 + P = 36 + (10 + P) by omega, rA_up, rA_up, hm1, show 41 + P = 36 + (5 + P) by omega, rA_up]
  have rc : ∀ j, j < 76 → rwC u 10 j = up1 (up1 (up1 (up1 (up1 (rwC s 10) (10 + P) (m 1 1 (46 + P) - k)) (20 + P) (min 999 (m 1 1 (56 + P) + k))) P (sF (m 1 1) c D)) (5 + P) (D : Int)) 75 (m 1 1 111 + 1) j := by
    intro j hj
    rw [hu, rwC_u8 j hj]
    refine up1_c (fun j hj => ?_) j hj
    rw [show (12 : Nat) = 10 + 2 from rfl, rwC_u2 P5 j hj]
    refine up1_c (fun j hj => ?_) j hj
    rw [show (11 : Nat) = 10 + 1 from rfl, rwC_u1 P5 j hj]
    refine up1_c (fun j hj => ?_) j hj
    rw [hs2, show (15 : Nat) = 10 + 5 from rfl, rwC_u5 P5 j hj]
    refine up1_c (fun j hj => ?_) j hj
    rw [show (13 : Nat) = 10 + 3 from rfl, rwC_u3 P5 j hj]
  have F0 := H.fw
  have F : Fw (m 1 1 3) (rwC u 10) (rA (v 1 1)) := by
    intro j hj
    rw [rc j hj.1, rm]
    unfold up1
    by_cases j1 : j = 75
    · rw [if_pos j1, if_pos j1]
    rw [if_neg j1, if_neg j1]
    by_cases j2 : j = 5 + P
    · rw [if_pos j2, if_neg (by omega), if_neg (by omega), if_neg (by omega), if_pos j2]
    by_cases j3 : j = P
    · rw [if_neg j2, if_pos j3, if_neg (by omega), if_neg (by omega), if_pos j3]
    by_cases j4 : j = 20 + P
    · rw [if_neg j2, if_neg j3, if_pos j4, if_pos j4]
    by_cases j5 : j = 10 + P
    · rw [if_neg j2, if_neg j3, if_neg j4, if_pos j5, if_neg j4, if_pos j5]
    · rw [if_neg j2, if_neg j3, if_neg j4, if_neg j5, if_neg j4, if_neg j5, if_neg j3, if_neg j2]
      exact F0 j hj
  have BBv : BB (B + 1) (w * h) (m 1 1 3) (rA (v 1 1)) := by
    rw [rm]
    have hb := H.2.2.2.2.1
    obtain ⟨h1, h2, h3, h4⟩ := hb
    refine ⟨fun p hp => ?_, fun p hp => ?_, fun c' hc => ?_, ?_⟩
    · obtain ⟨g1, g2, g3, g4⟩ := h1 p hp
      have p5' : p < 5 := by omega
      by_cases e : p = P
      · subst e
        rw [up1_n (by omega), up1_n (by omega), up1_n (by omega), up1_s, up1_n (by omega), up1_n (by omega), up1_n (by omega), up1_n (by omega), up1_s, up1_n (by omega), up1_n (by omega), up1_s, up1_n (by omega), up1_n (by omega), up1_n (by omega), up1_n (by omega), up1_n (by omega)]
        refine ⟨⟨tor.1, tor.2⟩, by omega, by omega, g4⟩
      · rw [up1_n (by omega), up1_n (by omega), up1_n (by omega), up1_n (by omega), up1_n (by omega), up1_n (by omega), up1_n (by omega), up1_n (by omega), up1_n (by omega), up1_n (by omega), up1_n (by omega), up1_n (by omega), up1_n (by omega), up1_n (by omega), up1_n (by omega), up1_n (by omega), up1_n (by omega), up1_n (by omega), up1_n (by omega), up1_n (by omega)]
        exact ⟨g1, g2, g3, g4⟩
    · have g := h2 p hp
      by_cases e : p = P
      · subst e
        rw [up1_n (by omega), up1_s]
        omega
      · rw [up1_n (by omega), up1_n (by omega), up1_n (by omega), up1_n (by omega), up1_n (by omega)]
        exact g
    · have g := h3 c' hc
      rw [up1_n (by omega), up1_n (by omega), up1_n (by omega), up1_n (by omega), up1_n (by omega), up1_n (by omega), up1_n (by omega), up1_n (by omega), up1_n (by omega), up1_n (by omega)]
      exact ⟨by omega, by omega, g.2.2⟩
    · rw [up1_s]; omega
  refine ⟨u, v, eC, eM, H.mk (fun t c k _ _ z1 z2 z3 => uo t c k (by omega) z3) (fun k hk => vo 1 1 k (by omega)) F BBv (by omega), uo, vo, ?_⟩
  rw [hv, xup_k (by omega), xup_k (by omega), xup_k (by omega), xup_s]
