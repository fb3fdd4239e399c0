/-! hours go by: both -/
theorem hours_x {B : Int} {w h : Nat} {s m : XS} (H : CS B w h s m) (hB : B ≤ 900000) (R : Rg s m) {a1 : Int} : (f_X11_hours s a1).2 = (f_X12_hours m a1).2 ∧ (∃ B', B ≤ B' ∧ B' ≤ B + 99 ∧ CS B' w h (f_X11_hours s a1).1 (f_X12_hours m a1).1) ∧ Rg (f_X11_hours s a1).1 (f_X12_hours m a1).1 ∧ FdC (f_X11_hours s a1).1 s ∧ FdM (f_X12_hours m a1).1 m ∧ KF (f_X11_hours s a1).1 s (f_X12_hours m a1).1 m ∧ (RB B (w * h) m → RB B (w * h) (f_X12_hours m a1).1) := by
  obtain ⟨m0, hm0⟩ : ∃ m0, m0 = xup m 0 0 0 0 := ⟨_, rfl⟩
  have m0o : ∀ t c k, ¬ (t = 0 ∧ c = 0 ∧ k = 0) → m0 t c k = m t c k := fun t c k q => by rw [hm0]; exact thr_f q
  have m0r : m0 1 1 = m 1 1 := funext fun k => m0o 1 1 k (by omega)
  have fm0 : FdM m0 m := by rw [hm0]; exact FdM.thr
  have H0 : CS B w h s m0 := H.fr FrA.rf m0r
  have R0 : Rg s m0 := R.same rfl rfl (fun _ _ _ _ _ => rfl) (by rw [m0r]) (fun k _ _ => by rw [m0r])
  obtain ⟨p1, p2, p3, p4, p5, p6, p7, p8⟩ := H.pl
  obtain ⟨b1, b2, b3, b4, b5⟩ := H.bd
  have one : ¬ (1 : Int) = 0 := by decide
  have none : ∀ x : Int, ((s, x) : XR).2 = ((m0, x) : XR).2 ∧ (∃ B', B ≤ B' ∧ B' ≤ B + 99 ∧ CS B' w h s m0) ∧ Rg s m0 ∧ FdC s s ∧ FdM m0 m ∧ KF s s m0 m ∧ (RB B (w * h) m → RB B (w * h) m0) := fun x => ⟨rfl, ⟨B, by omega, by omega, H0⟩, R0, FdC.rf, fm0, Or.inr ⟨rfl, fun k _ _ => by rw [m0r]⟩, fun hr => hr.row m0r⟩
  have ec : f_X11_hours s a1 = if a1 < 1 then (s, -3) else if 99 < a1 then (s, -3) else g5_X11_hours s a1 := by
    simp only [f_X11_hours, g1b_X11_hours, g2_X11_hours, g3_X11_hours, g4b_X11_hours, g6_X11_hours]
  have em : f_X12_hours m a1 = if 1 ≤ a1 ∧ a1 ≤ 99 then g4_X12_hours m0 a1 else (m0, -3) := by
    simp only [f_X12_hours, g1w_X12_hours, g2c_X12_hours, g3b_X12_hours, g5_X12_hours, within_x, ← hm0]
    by_cases z1 : 1 ≤ a1 ∧ a1 ≤ 99
    · rw [if_pos z1, if_neg one, if_pos z1]
    · rw [if_neg z1, if_pos rfl, if_neg z1]
  rw [ec, em]
  by_cases z4 : a1 < 1
  · rw [if_pos z4, if_neg (show ¬ (1 ≤ a1 ∧ a1 ≤ 99) by omega)]; exact none _
  rw [if_neg z4]
  by_cases z5 : 99 < a1
  · rw [if_pos z5, if_neg (show ¬ (1 ≤ a1 ∧ a1 ≤ 99) by omega)]; exact none _
  rw [if_neg z5, if_pos (show 1 ≤ a1 ∧ a1 ≤ 99 by omega)]
  have k1 := keeps_x m0
  obtain ⟨mk, hmk⟩ : ∃ mk, mk = (f_X12_keeps m0).1 := ⟨_, rfl⟩
  rw [← hmk] at k1
  have mkr : ∀ j, mk 1 1 j = m 1 1 j := fun j => by rw [k1, if_neg (by omega), m0r]
  obtain ⟨y, hy⟩ : ∃ y, y = xup mk 1 1 111 (m 1 1 111 + a1) := ⟨_, rfl⟩
  have yo : ∀ t c k, ¬ (t = 1 ∧ c = 1 ∧ k = 111) → y t c k = mk t c k := fun t c k q => by
    rw [hy]
    unfold xup
    rw [if_neg q]
  obtain ⟨n1, n2, n3, n4⟩ := kn_x (y := y) H R (by rw [yo _ _ _ (by omega), mkr]) (fun k q1 q2 => by rw [yo _ _ _ (by omega), mkr]) (fun k hk => by rw [yo _ _ _ (by omega), k1, if_pos ⟨rfl, rfl, hk⟩, m0r])
  obtain ⟨s2, hs2⟩ : ∃ s2, s2 = (f_X11_keep s 10).1 := ⟨_, rfl⟩
  rw [← hs2] at n1 n2
  have s2c : ∀ t c k, 1 ≤ c → c ≤ 19 → s2 t c k = s t c k := fun t c k q1 q2 => n2 t c k (by omega) (by omega)
  obtain ⟨x, hx⟩ : ∃ x, x = xup (xup s2 0 10 8 (m 1 1 111 + a1)) 0 79 4 0 := ⟨_, rfl⟩
  have xo : ∀ t c k, ¬ (t = 0 ∧ c = 10 ∧ k = 8) → ¬ (t = 0 ∧ c = 79 ∧ k = 4) → x t c k = s2 t c k := fun t c k q1 q2 => by
    rw [hx]
    unfold xup
    rw [if_neg q2, if_neg q1]
  have i1 : Xiadd (m 1 1 111) a1 = m 1 1 111 + a1 := iadd_v (by unfold rgI; omega)
  have eg : g5_X11_hours s a1 = (x, m 1 1 111 + a1) := by
    simp only [g5_X11_hours, g7c_X11_hours, g8w_X11_hours, g9c_X11_hours, ← hs2, forg_x]
    rw [s2c 0 10 8 (by decide) (by decide), ← p4, i1, ← hx]
    have e : x 0 10 8 = m 1 1 111 + a1 := by rw [hx, xup_c (by decide), xup_s]
    rw [e]
  have eh : g4_X12_hours m0 a1 = ((f_X12_notes y).1, m 1 1 111 + a1) := by
    simp only [g4_X12_hours, g6c_X12_hours, g7w_X12_hours, g8c_X12_hours, ← hmk, show Int.toNat 111 = 111 from rfl]
    rw [mkr, i1, ← hy, n3 _ _ _ (by omega)]
    have e : y 1 1 111 = m 1 1 111 + a1 := by rw [hy, xup_s]
    rw [e]
  rw [eg, eh]
  generalize (f_X12_notes y).1 = nt at *
  have rx : ∀ k, k < 76 → rwC x 10 k = up1 (rwC s 10) 75 (m 1 1 111 + a1) k := fun k hk => by
    rw [hx, rwC_same (s := xup s2 0 10 8 (m 1 1 111 + a1)) (b := 10) (fun t c k q1 q2 => xup_c (by omega)), rwC_u8 (b := 10) k hk]
    exact up1_c (fun i hi => by rw [rwC_same (s := s) (b := 10) (fun t c k q1 q2 => s2c t c k (by omega) (by omega))]) k hk
  have ry : ∀ k, k < 76 → y 1 1 (36 + k) = up1 (rA (m 1 1)) 75 (m 1 1 111 + a1) k := fun k hk => by
    rw [hy]
    unfold up1 xup rA
    (repeat' split) <;> first | rfl | exact mkr _ | (exfalso; omega)
  have Cy : CS (B + 99) w h x y := by
    refine H.mk (fun t c k q1 q2 q3 q4 q5 => (xo t c k (by omega) (by omega)).trans (s2c t c k q1 q2)) (fun k hk => (yo _ _ _ (by omega)).trans (mkr _)) (fun k hk => ?_) ?_ (by omega)
    · rw [rx k hk.1]
      refine Eq.trans ?_ (ry k hk.1).symm
      exact H.fw.up k hk
    · obtain ⟨-, -, -, -, ⟨g1, g2, g3, g4⟩, -⟩ := H
      have o : ∀ k, k < 75 → rA (y 1 1) k = rA (m 1 1) k := fun k q1 => by
        have q := ry k (by omega)
        rw [up1_n (by omega)] at q
        exact q
      refine ⟨fun p hp => ?_, fun p hp => ?_, fun c hc => ?_, ?_⟩
      · rw [o p (by omega), o (5 + p) (by omega), o (10 + p) (by omega), o (15 + p) (by omega)]
        exact g1 p hp
      · rw [o (20 + p) (by omega)]
        exact g2 p hp
      · rw [o (25 + c) (by omega), o (50 + c) (by omega)]
        have := g3 c hc
        exact ⟨by omega, by omega, this.2.2⟩
      · have q := ry 75 (by omega)
        rw [up1_s] at q
        show 0 ≤ y 1 1 (36 + 75) ∧ y 1 1 (36 + 75) ≤ B + 99
        rw [q]
        omega
  refine ⟨rfl, ⟨B + 99, by omega, by omega, Cy.row (fun k hk => n3 _ _ _ (by omega))⟩, ?_, fun t c k q1 q2 q3 q4 q5 q6 => ?_, fun t c k q1 q2 q3 => ?_, Or.inl ?_, n4⟩
  · exact n1.same (xo _ _ _ (by omega) (by omega)) (xo _ _ _ (by omega) (by omega)) (fun t c k q1 q2 => xo t c k (by omega) (by omega)) rfl (fun _ _ _ => rfl)
  · show x t c k = s t c k
    rw [xo t c k q2 q5]
    exact n2 t c k q3 (by omega)
  · show nt t c k = m t c k
    rw [n3 t c k (by omega), yo t c k (by omega), k1, if_neg (by omega)]
    exact fm0 t c k q1 q2 q3
  · show x 0 79 4 = 0
    rw [hx, xup_s]
