/-! prices where a person is; selling: both -/
theorem idiv24 {x : Int} (h : 0 ≤ x ∧ x ≤ 2000000) : Xidiv x 24 = x / 24 := by
  unfold Xidiv
  rw [Int32.toInt_div, Int32.toInt_ofInt_of_le (by omega) (by omega), Int32.toInt_ofInt_of_le (by decide) (by decide), Int.tdiv_eq_ediv_of_nonneg h.1]
  unfold Int.bmod
  dsimp only
  split <;> omega
theorem irem24 {x : Int} (h : 0 ≤ x ∧ x ≤ 2000000) : Xirem x 24 = x % 24 := by
  have e : Int32.ofInt x / Int32.ofInt 24 = Int32.ofInt (x / 24) := by
    apply Int32.toInt_inj.mp
    rw [show (Int32.ofInt x / Int32.ofInt 24).toInt = x / 24 from idiv24 h, Int32.toInt_ofInt_of_le (by omega) (by omega)]
  unfold Xirem
  rw [e, ← Int32.ofInt_mul, ← Int32.ofInt_sub, Int32.toInt_ofInt_of_le (by omega) (by omega)]
  omega
theorem nmV_b {A : Nat → Int} {w c : Nat} {hr d : Int} (hw : A 1 = (w : Int)) (w2 : 2 ≤ w) (w6 : w < 6) (hc : c < 25) (h0 : 0 ≤ A 111 + hr ∧ A 111 + hr ≤ 2000000) (hs : 0 ≤ A (61 + c) ∧ A (61 + c) ≤ 1000000) (hd : 0 ≤ d ∧ d ≤ 3) : ∀ k, 0 ≤ k → k ≤ 5 → -1000000 ≤ nmV A (c : Int) hr d k ∧ nmV A (c : Int) hr d k ≤ 1000000 := by
  intro k k0 k5
  have e1 := Int.emod_nonneg (c : Int) (show (w : Int) ≠ 0 by omega)
  have e2 := Int.emod_lt_of_pos (c : Int) (show (0 : Int) < w by omega)
  have e3 := Int.ediv_nonneg (show (0 : Int) ≤ c by omega) (show (0 : Int) ≤ w by omega)
  have e4 := Int.ediv_le_self (w : Int) (show (0 : Int) ≤ c by omega)
  unfold nmV
  rw [hw, iadd_v (show rgI (A 111 + hr) by unfold rgI; omega), irem24 h0, idiv24 h0, show ((c : Int)).toNat = c from rfl]
  (repeat' split) <;> omega
/-- a left's price where one stands, some more of them sold there -/
theorem ct_x {B : Int} {w h : Nat} {s m m' : XS} (H : CS B w h s m) (hB : B ≤ 900000) {P c j : Nat} (hP : (P : Int) < m 1 1 3) (hc : m 1 1 (36 + P) = (c : Int)) (hj : j ≤ 20) (hm : ∀ k, k ≠ 61 + c → m' 1 1 k = m 1 1 k) (h61 : m' 1 1 (61 + c) = m 1 1 (61 + c) + (j : Int)) : ∃ u v v', f_X0_costTo s 1 (P : Int) (j : Int) = (u, v) ∧ f_X12_priceOf m' (c : Int) 0 (m 1 1 (41 + P)) = (v', v) ∧ 0 ≤ v ∧ v ≤ 1000000 ∧ FrLw 2 u s ∧ FrV5 v' m' := by
  have b25 := H.1.b25
  obtain ⟨p1, p2, p3, p4, p5, p6, p7, p8⟩ := H.pl
  obtain ⟨b1, b2, b3, b4, b5⟩ := H.bd
  obtain ⟨q1, q2, -, -⟩ := p5 P hP
  obtain ⟨⟨r1, r2⟩, ⟨r3, r4⟩, -, -⟩ := b1 P hP
  rw [hc] at r2
  have cw : c < w * h := r2
  have c25 : c < 25 := by omega
  have so := (b3 c c25).1
  have L := H.1.ld cw
  obtain ⟨-, ⟨-, -, -, -, h873, h900, lx, -⟩, hz, -, -, -, -⟩ := H
  have L' : Ld s (m' 1 1) w h := L.row (hm 1 (by omega)) (hm 2 (by omega)) (fun k hk => hm _ (by omega))
  have w5 : m' 1 1 1 = (w : Int) := L'.2.1.2.2.1
  have w2 := L'.1.1
  have w6 : w < 6 := L'.1.2.1
  have lx' : Lx false 2 0 s (m' 1 1) := lx.same (by omega) (fun _ => rfl) (fun _ => rfl) (fun k hk => hm k (by omega)) (by rw [hm 873 (by omega)]; exact Int.le_refl _)
  have m111 : m' 1 1 111 = m 1 1 111 := hm 111 (by omega)
  obtain ⟨u, v, v', e1, e2, e3, -, e5, e6, e7⟩ := cost_y L' (by rw [hm 873 (by omega)]; exact h873) (by rw [hm 873 (by omega)]; exact h900) lx' hz cw (by rw [h61]; unfold rgI; omega) (hr := 0) (d := m 1 1 (41 + P)) (hC' := s 0 10 8) (by unfold rgI; omega) (by rw [m111, xadd0 (by unfold rgI; omega)]; exact p4.symm) (sold := Xiadd (s 1 16 c) (j : Int)) (by rw [h61, (p7 c c25).1, iadd_v (by unfold rgI; omega)])
  refine ⟨u, v, v', ?_, e2, e3, e7 (nmV_b w5 w2 w6 c25 (by rw [m111, Int.add_zero]; omega) (by rw [h61]; omega) (by omega)), e5, e6⟩
  have e0 : f_X0_costTo s 1 (P : Int) (j : Int) = f_X0_cost s 1 (s 1 11 P) (s 0 10 8) (Xiadd (s 1 16 (Int.toNat (s 1 11 P))) (j : Int)) (s 1 12 P) := rfl
  rw [e0, q1, q2, hc, show Int.toNat (c : Int) = c from rfl]
  exact e1
theorem sell_x {B : Int} {w h : Nat} {s m : XS} (H : CS B w h s m) (hB : B ≤ 900000) (R : Rg s m) {a1 : Int} : (f_X11_sell s a1).2 = (f_X12_sell m a1).2 ∧ CS B w h (f_X11_sell s a1).1 (f_X12_sell m a1).1 ∧ Rg (f_X11_sell s a1).1 (f_X12_sell m a1).1 ∧ FdC (f_X11_sell s a1).1 s ∧ FdM (f_X12_sell m a1).1 m ∧ KF (f_X11_sell s a1).1 s (f_X12_sell m a1).1 m ∧ (RB B (w * h) m → RB B (w * h) (f_X12_sell m a1).1) := by
  obtain ⟨m0, hm0⟩ : ∃ m0, m0 = xup m 0 0 0 0 := ⟨_, rfl⟩
  have m0o : ∀ t c k, ¬ (t = 0 ∧ c = 0 ∧ k = 0) → m0 t c k = m t c k := fun t c k q => by rw [hm0]; exact thr_f q
  have m0r : m0 1 1 = m 1 1 := funext fun k => m0o 1 1 k (by omega)
  have fm0 : FdM m0 m := by rw [hm0]; exact FdM.thr
  have H0 : CS B w h s m0 := H.fr FrA.rf m0r
  have R0 : Rg s m0 := R.same rfl rfl (fun _ _ _ _ _ => rfl) (by rw [m0r]) (fun k _ _ => by rw [m0r])
  obtain ⟨p1, p2, p3, p4, p5, p6, p7, p8⟩ := H.pl
  obtain ⟨b1, b2, b3, b4, b5⟩ := H.bd
  have one : ¬ (1 : Int) = 0 := by decide
  have none : ∀ x : Int, ((s, x) : XR).2 = ((m0, x) : XR).2 ∧ CS B w h s m0 ∧ Rg s m0 ∧ FdC s s ∧ FdM m0 m ∧ KF s s m0 m ∧ (RB B (w * h) m → RB B (w * h) m0) := fun x => ⟨rfl, H0, R0, FdC.rf, fm0, Or.inr ⟨rfl, fun k _ _ => by rw [m0r]⟩, fun hr => hr.row m0r⟩
  have ec : f_X11_sell s a1 = if 0 ≤ a1 ∧ a1 < m 1 1 3 then (if s 1 15 a1.toNat = 0 then (s, -5) else g6_X11_sell s a1) else (s, -2) := by
    simp only [f_X11_sell, g1c_X11_sell, g2b_X11_sell, g3_X11_sell, g4_X11_sell, g5b_X11_sell, g7_X11_sell, ispC_x, ← p1]
    by_cases z1 : 0 ≤ a1 ∧ a1 < m 1 1 3
    · rw [if_pos z1, if_neg one, if_pos z1]
    · rw [if_neg z1, if_pos rfl, if_neg z1]
  have em : f_X12_sell m a1 = if 0 ≤ a1 ∧ a1 < m 1 1 3 then (if m 1 1 (Int.toNat (56 + a1)) = 0 then (m0, -5) else g7_X12_sell m0 a1) else (m0, -2) := by
    simp only [f_X12_sell, g1w_X12_sell, g2c_X12_sell, g3b_X12_sell, g4_X12_sell, g5_X12_sell, g6b_X12_sell, g8_X12_sell, ispM_x, ← hm0, m0r]
    by_cases z1 : 0 ≤ a1 ∧ a1 < m 1 1 3
    · rw [if_pos z1, if_neg one, if_pos z1]
    · rw [if_neg z1, if_pos rfl, if_neg z1]
  rw [ec, em]
  by_cases z1 : 0 ≤ a1 ∧ a1 < m 1 1 3
  · rw [if_pos z1, if_pos z1]
    obtain ⟨P, rfl⟩ : ∃ P : Nat, a1 = (P : Int) := ⟨a1.toNat, by omega⟩
    have P5 : P < 5 := by omega
    obtain ⟨c1, c2, -, c4⟩ := p5 P z1.2
    obtain ⟨⟨r1, r2⟩, ⟨r3, r4⟩, -, ⟨r5, r6⟩⟩ := b1 P z1.2
    have us := b2 P P5
    rw [show ((P : Int)).toNat = P from rfl, p6 P P5, show Int.toNat (56 + (P : Int)) = 56 + P by omega]
    by_cases z2 : m 1 1 (56 + P) = 0
    · rw [if_pos z2, if_pos z2]; exact none _
    rw [if_neg z2, if_neg z2]
    have k1 := keeps_x m0
    obtain ⟨mk, hmk⟩ : ∃ mk, mk = (f_X12_keeps m0).1 := ⟨_, rfl⟩
    rw [← hmk] at k1
    have mkr : ∀ j, mk 1 1 j = m 1 1 j := fun j => by rw [k1, if_neg (by omega), m0r]
    obtain ⟨s2, hs2⟩ : ∃ s2, s2 = (f_X11_keep s 10).1 := ⟨_, rfl⟩
    obtain ⟨-, n20, -⟩ := kn_x (y := mk) H R (mkr 3) (fun k _ _ => mkr k) (fun k hk => by rw [k1, if_pos ⟨rfl, rfl, hk⟩, m0r])
    rw [← hs2] at n20
    have s2c : ∀ t c k, 1 ≤ c → c ≤ 19 → s2 t c k = s t c k := fun t c k q1 q2 => n20 t c k (by omega) (by omega)
    have H2 : CS B w h s2 m := H.cls s2c
    obtain ⟨c, hc⟩ : ∃ c : Nat, m 1 1 (36 + P) = (c : Int) := ⟨(m 1 1 (36 + P)).toNat, by omega⟩
    obtain ⟨u, v, v', e1, e2, e3, e4, e5, e6⟩ := ct_x H2 hB (m' := mk) (j := 0) z1.2 hc (by decide) (fun k _ => mkr k) (by rw [mkr]; omega)
    have tb : 0 ≤ m 1 1 (56 + P) * (v / 3) ∧ m 1 1 (56 + P) * (v / 3) ≤ 999 * 333333 := by
      have q1 : 0 ≤ v / 3 := by omega
      have q2 : v / 3 ≤ 333333 := by omega
      exact ⟨Int.mul_nonneg us.1 q1, Int.mul_le_mul us.2 q2 q1 (by decide)⟩
    obtain ⟨T, hT⟩ : ∃ T, T = m 1 1 (56 + P) * (v / 3) := ⟨_, rfl⟩
    rw [← hT] at tb
    have em1 : Ximul (m 1 1 (56 + P)) (v / 3) = T := by
      unfold Ximul
      rw [← Int32.ofInt_mul, ← hT, Int32.toInt_ofInt_of_le (by omega) (by omega)]
    obtain ⟨C, hC⟩ : ∃ C, C = min 9999 (m 1 1 (51 + P) + T) := ⟨_, rfl⟩
    obtain ⟨x, hx⟩ : ∃ x, x = xup (xup u 1 14 P C) 1 15 P 0 := ⟨_, rfl⟩
    obtain ⟨y, hy⟩ : ∃ y, y = xup (xup v' 1 1 (56 + P) 0) 1 1 (51 + P) C := ⟨_, rfl⟩
    have xo : ∀ t c k, ¬ (t = 1 ∧ (c = 4 ∨ c = 5 ∨ c = 14 ∨ c = 15)) → x t c k = s2 t c k := fun t c k q => by
      rw [hx]
      unfold xup
      rw [if_neg (fun z => q ⟨z.1, by omega⟩), if_neg (fun z => q ⟨z.1, by omega⟩)]
      exact e5 t c k (by omega)
    have v'r : v' 1 1 = m 1 1 := e6.row.trans (funext mkr)
    have yo : ∀ t c k, ¬ (t = 1 ∧ c = 1 ∧ 51 ≤ k ∧ k ≤ 60) → y t c k = v' t c k := fun t c k q => by
      rw [hy]
      unfold xup
      rw [if_neg (fun z => q ⟨z.1, z.2.1, by omega, by omega⟩), if_neg (fun z => q ⟨z.1, z.2.1, by omega, by omega⟩)]
    obtain ⟨n1, n2, n3, n4⟩ := kn_x (y := y) H R (by rw [yo _ _ _ (by omega), v'r]) (fun k q1 q2 => by rw [yo _ _ _ (by omega), v'r]) (fun k hk => by rw [yo _ _ _ (by omega), e6 _ _ _ (by omega), k1, if_pos ⟨rfl, rfl, hk⟩, m0r])
    rw [← hs2] at n1 n2
    have eg : g6_X11_sell s (P : Int) = (x, T) := by
      simp only [g6_X11_sell, g8c_X11_sell, g9c_X11_sell, g10w_X11_sell, g11w_X11_sell, ← hs2, show Int.toNat (P : Int) = P from rfl]
      have e1' : f_X0_costTo s2 1 (P : Int) 0 = (u, v) := e1
      rw [e1', s2c 1 15 P (by decide) (by decide), p6 P P5]
      show ((xup (xup u 1 14 P (min 9999 (Xiadd (u 1 14 P) (Ximul (m 1 1 (56 + P)) (v / 3))))) 1 15 P 0, Ximul (m 1 1 (56 + P)) (v / 3)) : XR) = _
      rw [em1, e5 _ _ _ (by omega), s2c 1 14 P (by decide) (by decide), c4, iadd_v (show rgI (m 1 1 (51 + P) + T) by unfold rgI; omega), ← hC, ← hx]
    have eh : g7_X12_sell m0 (P : Int) = ((f_X12_notes y).1, T) := by
      simp only [g7_X12_sell, g9c_X12_sell, g10c_X12_sell, g11w_X12_sell, g12b_X12_sell, g13_X12_sell, g14_X12_sell, g15w_X12_sell, g16c_X12_sell, g17w_X12_sell, g18c_X12_sell, ← hmk, show Int.toNat (36 + (P : Int)) = 36 + P by omega, show Int.toNat (41 + (P : Int)) = 41 + P by omega, show Int.toNat (51 + (P : Int)) = 51 + P by omega, show Int.toNat (56 + (P : Int)) = 56 + P by omega]
      rw [mkr, mkr, mkr, hc, e2]
      show (if 9999 < Xiadd (xup v' 1 1 (56 + P) 0 1 1 (51 + P)) (Ximul (m 1 1 (56 + P)) (v / 3)) then (((f_X12_notes (xup (xup v' 1 1 (56 + P) 0) 1 1 (51 + P) 9999)).1, Ximul (m 1 1 (56 + P)) (v / 3)) : XR) else ((f_X12_notes (xup (xup v' 1 1 (56 + P) 0) 1 1 (51 + P) (Xiadd (xup v' 1 1 (56 + P) 0 1 1 (51 + P)) (Ximul (m 1 1 (56 + P)) (v / 3))))).1, Ximul (m 1 1 (56 + P)) (v / 3))) = _
      rw [xup_k (show 51 + P ≠ 56 + P by omega), em1, v'r, iadd_v (show rgI (m 1 1 (51 + P) + T) by unfold rgI; omega)]
      by_cases z : 9999 < m 1 1 (51 + P) + T
      · rw [if_pos z, hy, show C = 9999 by omega]
      · rw [if_neg z, hy, show C = m 1 1 (51 + P) + T by omega]
    rw [eg, eh]
    generalize (f_X12_notes y).1 = nt at *
    have rx : ∀ k, k < 76 → rwC x 10 k = up1 (up1 (rwC s 10) (15 + P) C) (20 + P) 0 k := fun k hk => by
      rw [hx, rwC_u5 (b := 10) P5 k hk]
      refine up1_c (fun j hj => ?_) k hk
      rw [rwC_u4 (b := 10) P5 j hj]
      exact up1_c (fun i hi => by rw [rwC_same (s := s) (b := 10) (fun t c k q1 q2 => (e5 t c k (by omega)).trans (s2c t c k (by omega) (by omega)))]) j hj
    have ry : ∀ k, k < 76 → y 1 1 (36 + k) = up1 (up1 (rA (m 1 1)) (15 + P) C) (20 + P) 0 k := fun k hk => by
      rw [hy]
      unfold up1 xup rA
      rw [v'r]
      (repeat' split) <;> first | rfl | (exfalso; omega)
    have Cy : CS B w h x y := by
      refine H.mk (fun t c k q1 q2 q3 q4 q5 => (xo t c k (by omega)).trans (s2c t c k q1 q2)) (fun k hk => (yo _ _ _ (by omega)).trans (by rw [v'r])) (fun k hk => ?_) ?_ b5
      · rw [rx k hk.1]
        refine Eq.trans ?_ (ry k hk.1).symm
        exact (H.fw.up.up) k hk
      · obtain ⟨-, -, -, -, g, -⟩ := H
        have o : ∀ k, k < 76 → k ≠ 15 + P → k ≠ 20 + P → rA (y 1 1) k = rA (m 1 1) k := fun k q1 q2 q3 => by
          have q := ry k q1
          rw [up1_n q3, up1_n q2] at q
          exact q
        refine g.up p3 (Int.le_refl _) (fun k hk => o k (by omega) (by omega) (by omega)) (fun p hp => ⟨?_, ?_⟩) (fun p hp => ?_) (fun c hc => ?_)
        · rw [o (10 + p) (by omega) (by omega) (by omega)]
          exact (g.1 p hp).2.2.1
        · by_cases e : p = P
          · have q := ry (15 + p) (by omega)
            rw [up1_n (show 15 + p ≠ 20 + P by omega), e, up1_s] at q
            show 0 ≤ y 1 1 (36 + (15 + p)) ∧ y 1 1 (36 + (15 + p)) ≤ 9999
            rw [e, q]; omega
          · rw [o (15 + p) (by omega) (by omega) (by omega)]
            exact (g.1 p hp).2.2.2
        · by_cases e : p = P
          · have q := ry (20 + p) (by omega)
            rw [e, up1_s] at q
            show 0 ≤ y 1 1 (36 + (20 + p)) ∧ y 1 1 (36 + (20 + p)) ≤ 999
            rw [e, q]; omega
          · rw [o (20 + p) (by omega) (by omega) (by omega)]
            exact g.2.1 p hp
        · rw [o (25 + c) (by omega) (by omega) (by omega)]
          exact (g.2.2.1 c hc).1
    refine ⟨rfl, Cy.row (fun k hk => n3 _ _ _ (by omega)), ?_, fun t c k q1 q2 q3 q4 q5 q6 => ?_, fun t c k q1 q2 q3 => ?_, Or.inr ⟨?_, fun k q1 q2 => ?_⟩, n4⟩
    · exact n1.same (xo _ _ _ (by omega)) (xo _ _ _ (by omega)) (fun t c k q1 q2 => xo t c k (by omega)) rfl (fun _ _ _ => rfl)
    · show x t c k = s t c k
      rw [xo t c k (by omega)]
      exact n2 t c k q3 (by omega)
    · show nt t c k = m t c k
      rw [n3 t c k (by omega), yo t c k (by omega), e6 t c k (by omega), k1, if_neg (by omega)]
      exact fm0 t c k q1 q2 q3
    · exact (xo _ _ _ (by omega)).trans (n2 _ _ _ (by omega) (by omega))
    · rw [n3 _ _ _ (by omega), ry k q2, up1_n (by omega), up1_n (by omega)]
      rfl
  · rw [if_neg z1, if_neg z1]; exact none _
