/-! handing over: both; what deeds share -/
/-- what was forecast holds on, or is forgotten -/
def KF (u s v m : XS) : Prop := u 0 79 4 = 0 ∨ (u 0 79 4 = s 0 79 4 ∧ ∀ k, 25 ≤ k → k < 76 → v 1 1 (36 + k) = m 1 1 (36 + k))
theorem KF.tr {u s v m x y : XS} (h : KF x u y v) (g : KF u s v m) : KF x s y m := by
  rcases h with h | ⟨h1, h2⟩
  · exact Or.inl h
  · rcases g with g | ⟨g1, g2⟩
    · exact Or.inl (h1.trans g)
    · exact Or.inr ⟨h1.trans g1, fun k k1 k2 => (h2 k k1 k2).trans (g2 k k1 k2)⟩
/-- the class keeps its folk ahead of a deed, the reference notes behind it -/
theorem kn_x {B : Int} {w h : Nat} {s m y : XS} (H : CS B w h s m) (R : Rg s m) (y3 : y 1 1 3 = m 1 1 3) (yr : ∀ k, 112 ≤ k → k ≤ 872 → y 1 1 k = m 1 1 k) (y6 : ∀ k, k < 76 → y 1 6 k = m 1 1 (36 + k)) : Rg (f_X11_keep s 10).1 (f_X12_notes y).1 ∧ (∀ t c k, ¬ (t = 0 ∧ c = 0 ∧ (k = 16 ∨ k = 17)) → ¬ (119 ≤ c ∧ c ≤ 198) → (f_X11_keep s 10).1 t c k = s t c k) ∧ (∀ t c k, ¬ (t = 1 ∧ c = 1 ∧ 112 ≤ k ∧ k ≤ 872) → (f_X12_notes y).1 t c k = y t c k) ∧ (RB B (w * h) m → RB B (w * h) (f_X12_notes y).1) := by
  have R1 : Rg s y := R.same rfl rfl (fun _ _ _ _ _ => rfl) y3 (fun k q1 q2 => yr k q1 q2)
  obtain ⟨q1, q2, q3⟩ := keep_x (e := 10) (Or.inl ⟨by decide, by decide⟩) R1 (by rw [y3]; exact H.pl.1.symm) (fun j hj => by
    rw [y3] at hj
    rw [y6 j hj.1]
    exact H.fw j hj)
  refine ⟨q1, q2, q3, fun hr => ?_⟩
  obtain ⟨f, n, -, -, -, a4, a5, -⟩ := R
  refine notes_rb (n := n) ((yr 112 (by omega) (by omega)).trans a5) a4 (by rw [y3]; exact H.pl.2.2.1) (hr.same y3 H.pl.2.2.1 yr (by rw [a5]; omega)) ?_
  rw [y3]
  exact H.2.2.2.2.1.same (fun k hk => y6 k hk.1) H.pl.2.2.1
theorem BB.up {B B' : Int} {N : Nat} {P : Int} {R R' : Nat → Int} (h : BB B N P R) (hP : P ≤ 5) (hB : B ≤ B') (e : ∀ k, k < 10 ∨ (50 ≤ k ∧ k < 76) → R' k = R k) (l : ∀ p : Nat, (p : Int) < P → (0 ≤ R' (10 + p) ∧ R' (10 + p) ≤ 99) ∧ (0 ≤ R' (15 + p) ∧ R' (15 + p) ≤ 9999)) (us : ∀ p, p < 5 → 0 ≤ R' (20 + p) ∧ R' (20 + p) ≤ 999) (so : ∀ c, c < 25 → 0 ≤ R' (25 + c) ∧ R' (25 + c) ≤ B') : BB B' N P R' := by
  obtain ⟨h1, h2, h3, h4⟩ := h
  refine ⟨fun p hp => ?_, us, fun c hc => ⟨so c hc, ?_⟩, ?_⟩
  · obtain ⟨g1, g2, -, -⟩ := h1 p hp
    rw [e p (by omega), e (5 + p) (by omega)]
    exact ⟨g1, g2, l p hp⟩
  · rw [e (50 + c) (by omega)]
    have := (h3 c hc).2.1
    exact ⟨by omega, (h3 c hc).2.2⟩
  · rw [e 75 (by omega)]
    omega
theorem hand_x {B : Int} {w h : Nat} {s m : XS} (H : CS B w h s m) (R : Rg s m) {a1 a2 a3 : Int} : (f_X11_hand s a1 a2 a3).2 = (f_X12_hand m a1 a2 a3).2 ∧ CS B w h (f_X11_hand s a1 a2 a3).1 (f_X12_hand m a1 a2 a3).1 ∧ Rg (f_X11_hand s a1 a2 a3).1 (f_X12_hand m a1 a2 a3).1 ∧ FdC (f_X11_hand s a1 a2 a3).1 s ∧ FdM (f_X12_hand m a1 a2 a3).1 m ∧ KF (f_X11_hand s a1 a2 a3).1 s (f_X12_hand m a1 a2 a3).1 m ∧ (RB B (w * h) m → RB B (w * h) (f_X12_hand m a1 a2 a3).1) := by
  obtain ⟨m0, hm0⟩ : ∃ m0, m0 = xup m 0 0 0 0 := ⟨_, rfl⟩
  have m0o : ∀ t c k, ¬ (t = 0 ∧ c = 0 ∧ k = 0) → m0 t c k = m t c k := fun t c k q => by rw [hm0]; exact thr_f q
  have m0r : m0 1 1 = m 1 1 := funext fun k => m0o 1 1 k (by omega)
  have fm0 : FdM m0 m := by rw [hm0]; exact FdM.thr
  have H0 : CS B w h s m0 := H.fr FrA.rf m0r
  have R0 : Rg s m0 := R.same rfl rfl (fun _ _ _ _ _ => rfl) (by rw [m0r]) (fun k _ _ => by rw [m0r])
  obtain ⟨p1, p2, p3, p4, p5, p6, p7, p8⟩ := H.pl
  obtain ⟨b1, b2, b3, b4, b5⟩ := H.bd
  have one : ¬ (1 : Int) = 0 := by decide
  have none : ∀ x : Int, ((s, x) : XR).2 = ((m0, x) : XR).2 ∧ CS B w h s m0 ∧ Rg s m0 ∧ FdC s s ∧ FdM m0 m ∧ KF s s m0 m ∧ (RB B (w * h) m → RB B (w * h) m0) := fun x => ⟨rfl, H0, R0, FdC.rf, fm0, Or.inr ⟨rfl, fun k _ _ => by rw [m0r]⟩, fun hr => hr.row m0r⟩
  have ec : f_X11_hand s a1 a2 a3 = if 0 ≤ a1 ∧ a1 < m 1 1 3 then (if 0 ≤ a2 ∧ a2 < m 1 1 3 then (if a1 = a2 then (s, -2) else if a3 < 1 then (s, -3) else if 99 < a3 then (s, -3) else if s 1 11 a1.toNat = s 1 11 a2.toNat then (if s 1 13 a1.toNat < a3 then (s, -5) else if 99 < Xiadd (s 1 13 a2.toNat) a3 then (s, -4) else g25_X11_hand s a1 a2 a3) else (s, -5)) else (s, -2)) else (s, -2) := by
    simp only [f_X11_hand, g1c_X11_hand, g2b_X11_hand, g3_X11_hand, g4_X11_hand, g5c_X11_hand, g6b_X11_hand, g7_X11_hand, g8_X11_hand, g9b_X11_hand, g10_X11_hand, g11_X11_hand, g12b_X11_hand, g13_X11_hand, g14_X11_hand, g15b_X11_hand, g16_X11_hand, g17_X11_hand, g18b_X11_hand, g19_X11_hand, g20_X11_hand, g21b_X11_hand, g22_X11_hand, g23_X11_hand, g24b_X11_hand, g26_X11_hand, ispC_x, ← p1]
    by_cases z1 : 0 ≤ a1 ∧ a1 < m 1 1 3
    · rw [if_pos z1, if_neg one, if_pos z1]
      by_cases z2 : 0 ≤ a2 ∧ a2 < m 1 1 3
      · rw [if_pos z2, if_neg one, if_pos z2]
      · rw [if_neg z2, if_pos rfl, if_neg z2]
    · rw [if_neg z1, if_pos rfl, if_neg z1]
  have em : f_X12_hand m a1 a2 a3 = if 0 ≤ a1 ∧ a1 < m 1 1 3 then (if 0 ≤ a2 ∧ a2 < m 1 1 3 then (if a1 = a2 then (m0, -2) else if 1 ≤ a3 ∧ a3 ≤ 99 then (if m 1 1 (Int.toNat (36 + a1)) = m 1 1 (Int.toNat (36 + a2)) then (if m 1 1 (Int.toNat (46 + a1)) < a3 then (m0, -5) else if 99 < m 1 1 (Int.toNat (46 + a2)) + a3 then (m0, -4) else g24_X12_hand m0 a1 a2 a3) else (m0, -5)) else (m0, -3)) else (m0, -2)) else (m0, -2) := by
    simp only [f_X12_hand, g1w_X12_hand, g2c_X12_hand, g3b_X12_hand, g4_X12_hand, g5_X12_hand, g6c_X12_hand, g7b_X12_hand, g8_X12_hand, g9_X12_hand, g10b_X12_hand, g11_X12_hand, g12_X12_hand, g13c_X12_hand, g14b_X12_hand, g15_X12_hand, g16_X12_hand, g17b_X12_hand, g18_X12_hand, g19_X12_hand, g20b_X12_hand, g21_X12_hand, g22_X12_hand, g23b_X12_hand, g25_X12_hand, ispM_x, within_x, ← hm0, m0r]
    by_cases z1 : 0 ≤ a1 ∧ a1 < m 1 1 3
    · rw [if_pos z1, if_neg one, if_pos z1]
      by_cases z2 : 0 ≤ a2 ∧ a2 < m 1 1 3
      · rw [if_pos z2, if_neg one, if_pos z2]
        by_cases z3 : 1 ≤ a3 ∧ a3 ≤ 99
        · rw [if_pos z3, if_neg one, if_pos z3]
        · rw [if_neg z3, if_pos rfl, if_neg z3]
      · rw [if_neg z2, if_pos rfl, if_neg z2]
    · rw [if_neg z1, if_pos rfl, if_neg z1]
  rw [ec, em]
  by_cases z1 : 0 ≤ a1 ∧ a1 < m 1 1 3
  · rw [if_pos z1, if_pos z1]
    by_cases z2 : 0 ≤ a2 ∧ a2 < m 1 1 3
    · rw [if_pos z2, if_pos z2]
      by_cases z3 : a1 = a2
      · rw [if_pos z3, if_pos z3]; exact none _
      rw [if_neg z3, if_neg z3]
      by_cases z4 : a3 < 1
      · rw [if_pos z4, if_neg (show ¬ (1 ≤ a3 ∧ a3 ≤ 99) by omega)]; exact none _
      rw [if_neg z4]
      by_cases z5 : 99 < a3
      · rw [if_pos z5, if_neg (show ¬ (1 ≤ a3 ∧ a3 ≤ 99) by omega)]; exact none _
      rw [if_neg z5, if_pos (show 1 ≤ a3 ∧ a3 ≤ 99 by omega)]
      obtain ⟨P, rfl⟩ : ∃ P : Nat, a1 = (P : Int) := ⟨a1.toNat, by omega⟩
      obtain ⟨Q, rfl⟩ : ∃ Q : Nat, a2 = (Q : Int) := ⟨a2.toNat, by omega⟩
      obtain ⟨c1, -, c3, -⟩ := p5 P z1.2
      obtain ⟨d1, -, d3, -⟩ := p5 Q z2.2
      obtain ⟨-, -, ⟨r1, r2⟩, -⟩ := b1 P z1.2
      obtain ⟨-, -, ⟨r3, r4⟩, -⟩ := b1 Q z2.2
      have P5 : P < 5 := by omega
      have Q5 : Q < 5 := by omega
      have PQ : P ≠ Q := fun e => z3 (by rw [e])
      rw [show ((P : Int)).toNat = P from rfl, show ((Q : Int)).toNat = Q from rfl, c1, d1, c3, d3, show Int.toNat (36 + (P : Int)) = 36 + P by omega, show Int.toNat (36 + (Q : Int)) = 36 + Q by omega, show Int.toNat (46 + (P : Int)) = 46 + P by omega, show Int.toNat (46 + (Q : Int)) = 46 + Q by omega, iadd_v (show rgI (m 1 1 (46 + Q) + a3) by unfold rgI; omega)]
      by_cases z6 : m 1 1 (36 + P) = m 1 1 (36 + Q)
      · rw [if_pos z6, if_pos z6]
        by_cases z7 : m 1 1 (46 + P) < a3
        · rw [if_pos z7, if_pos z7]; exact none _
        rw [if_neg z7, if_neg z7]
        by_cases z8 : 99 < m 1 1 (46 + Q) + a3
        · rw [if_pos z8, if_pos z8]; exact none _
        rw [if_neg z8, if_neg z8]
        -- it is done
        have k1 := keeps_x m0
        obtain ⟨mk, hmk⟩ : ∃ mk, mk = (f_X12_keeps m0).1 := ⟨_, rfl⟩
        rw [← hmk] at k1
        have mkr : ∀ j, mk 1 1 j = m 1 1 j := fun j => by rw [k1, if_neg (by omega), m0r]
        obtain ⟨y, hy⟩ : ∃ y, y = xup (xup mk 1 1 (46 + P) (m 1 1 (46 + P) - a3)) 1 1 (46 + Q) (m 1 1 (46 + Q) + a3) := ⟨_, rfl⟩
        have yo : ∀ t c k, ¬ (t = 1 ∧ c = 1 ∧ 46 ≤ k ∧ k ≤ 50) → y t c k = mk t c k := fun t c k q => by
          rw [hy]
          unfold xup
          rw [if_neg (fun z => q ⟨z.1, z.2.1, by omega, by omega⟩), if_neg (fun z => q ⟨z.1, z.2.1, by omega, by omega⟩)]
        obtain ⟨n1, n2, n3, n4⟩ := kn_x (y := y) H R (by rw [yo _ _ _ (by omega), mkr]) (fun k q1 q2 => by rw [yo _ _ _ (by omega), mkr]) (fun k hk => by rw [yo _ _ _ (by omega), k1, if_pos ⟨rfl, rfl, hk⟩, m0r])
        obtain ⟨s2, hs2⟩ : ∃ s2, s2 = (f_X11_keep s 10).1 := ⟨_, rfl⟩
        rw [← hs2] at n1 n2
        have s2c : ∀ t c k, 1 ≤ c → c ≤ 19 → s2 t c k = s t c k := fun t c k q1 q2 => n2 t c k (by omega) (by omega)
        obtain ⟨x, hx⟩ : ∃ x, x = xup (xup s2 1 13 P (m 1 1 (46 + P) - a3)) 1 13 Q (m 1 1 (46 + Q) + a3) := ⟨_, rfl⟩
        have xo : ∀ t c k, ¬ (t = 1 ∧ c = 13) → x t c k = s2 t c k := fun t c k q => by
          rw [hx]
          unfold xup
          rw [if_neg (fun z => q ⟨z.1, z.2.1⟩), if_neg (fun z => q ⟨z.1, z.2.1⟩)]
        have eg : g25_X11_hand s (P : Int) (Q : Int) a3 = (x, m 1 1 (46 + Q) + a3) := by
          simp only [g25_X11_hand, g27c_X11_hand, g28w_X11_hand, g29w_X11_hand, ← hs2, show Int.toNat (P : Int) = P from rfl, show Int.toNat (Q : Int) = Q from rfl]
          rw [xup_k (show Q ≠ P from fun e => PQ e.symm), s2c 1 13 P (by decide) (by decide), s2c 1 13 Q (by decide) (by decide), c3, d3, isub_v (show rgI (m 1 1 (46 + P) - a3) by unfold rgI; omega), iadd_v (show rgI (m 1 1 (46 + Q) + a3) by unfold rgI; omega), ← hx]
          have e : x 1 13 Q = m 1 1 (46 + Q) + a3 := by rw [hx, xup_s]
          rw [e]
        have eh : g24_X12_hand m0 (P : Int) (Q : Int) a3 = ((f_X12_notes y).1, m 1 1 (46 + Q) + a3) := by
          simp only [g24_X12_hand, g26c_X12_hand, g27w_X12_hand, g28w_X12_hand, g29c_X12_hand, ← hmk, show Int.toNat (46 + (P : Int)) = 46 + P by omega, show Int.toNat (46 + (Q : Int)) = 46 + Q by omega]
          rw [xup_k (show 46 + Q ≠ 46 + P by omega), mkr, mkr, ← hy, n3 _ _ _ (by omega)]
          have e : y 1 1 (46 + Q) = m 1 1 (46 + Q) + a3 := by rw [hy, xup_s]
          rw [e]
        rw [eg, eh]
        generalize (f_X12_notes y).1 = nt at *
        have nr : ∀ k, k < 112 → nt 1 1 k = y 1 1 k := fun k hk => n3 _ _ _ (by omega)
        -- rows
        have rx : ∀ k, k < 76 → rwC x 10 k = up1 (up1 (rwC s 10) (10 + P) (m 1 1 (46 + P) - a3)) (10 + Q) (m 1 1 (46 + Q) + a3) k := fun k hk => by
          rw [hx, rwC_u3 (b := 10) Q5 k hk]
          refine up1_c (fun j hj => ?_) k hk
          rw [rwC_u3 (b := 10) P5 j hj]
          exact up1_c (fun i hi => by rw [rwC_same (s := s) (b := 10) (fun t c k q1 q2 => s2c t c k (by omega) (by omega))]) j hj
        have ry : ∀ k, k < 76 → y 1 1 (36 + k) = up1 (up1 (rA (m 1 1)) (10 + P) (m 1 1 (46 + P) - a3)) (10 + Q) (m 1 1 (46 + Q) + a3) k := fun k hk => by
          rw [hy]
          unfold up1 xup rA
          (repeat' split) <;> first | rfl | exact mkr _ | (exfalso; omega)
        have Cy : CS B w h x y := by
          refine H.mk (fun t c k q1 q2 q3 q4 q5 => (xo t c k (by omega)).trans (s2c t c k q1 q2)) (fun k hk => (yo _ _ _ (by omega)).trans (mkr _)) (fun k hk => ?_) ?_ b5
          · rw [rx k hk.1]
            refine Eq.trans ?_ (ry k hk.1).symm
            exact (H.fw.up.up) k hk
          · obtain ⟨-, -, -, -, g, -⟩ := H
            have o : ∀ k, k < 76 → k ≠ 10 + P → k ≠ 10 + Q → rA (y 1 1) k = rA (m 1 1) k := fun k q1 q2 q3 => by
              have q := ry k q1
              rw [up1_n q3, up1_n q2] at q
              exact q
            refine g.up p3 (Int.le_refl _) (fun k hk => o k (by omega) (by omega) (by omega)) (fun p hp => ⟨?_, ?_⟩) (fun p hp => ?_) (fun c hc => ?_)
            · by_cases e1 : p = Q
              · have q := ry (10 + p) (by omega)
                rw [e1, up1_s] at q
                show 0 ≤ y 1 1 (36 + (10 + p)) ∧ y 1 1 (36 + (10 + p)) ≤ 99
                rw [e1, q]; omega
              · by_cases e2 : p = P
                · have q := ry (10 + p) (by omega)
                  rw [up1_n (show 10 + p ≠ 10 + Q by omega), e2, up1_s] at q
                  show 0 ≤ y 1 1 (36 + (10 + p)) ∧ y 1 1 (36 + (10 + p)) ≤ 99
                  rw [e2, q]; omega
                · rw [o (10 + p) (by omega) (by omega) (by omega)]
                  exact (g.1 p hp).2.2.1
            · rw [o (15 + p) (by omega) (by omega) (by omega)]
              exact (g.1 p hp).2.2.2
            · rw [o (20 + p) (by omega) (by omega) (by omega)]
              exact g.2.1 p hp
            · rw [o (25 + c) (by omega) (by omega) (by omega)]
              exact (g.2.2.1 c hc).1
        refine ⟨rfl, Cy.row (fun k hk => n3 _ _ _ (by omega)), ?_, fun t c k q1 q2 q3 q4 q5 q6 => ?_, fun t c k q1 q2 q3 => ?_, Or.inr ⟨?_, fun k q1 q2 => ?_⟩, n4⟩
        · exact n1.same (xo _ _ _ (by omega)) (xo _ _ _ (by omega)) (fun t c k q1 q2 => xo t c k (by omega)) rfl (fun _ _ _ => rfl)
        · show x t c k = s t c k
          rw [xo t c k (by omega)]
          exact n2 t c k q3 (by omega)
        · show nt t c k = m t c k
          rw [n3 t c k (by omega), yo t c k (by omega), k1, if_neg (by omega)]
          exact fm0 t c k q1 q2 q3
        · exact (xo _ _ _ (by omega)).trans (n2 _ _ _ (by omega) (by omega))
        · rw [nr _ (by omega), ry k q2, up1_n (by omega), up1_n (by omega)]
          rfl
      · rw [if_neg z6, if_neg z6]; exact none _
    · rw [if_neg z2, if_neg z2]; exact none _
  · rw [if_neg z1, if_neg z1]; exact none _
