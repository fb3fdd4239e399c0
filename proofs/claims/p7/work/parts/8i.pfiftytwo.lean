/-! buy: both -/
theorem bR_n {R : Nat → Int} {P c : Nat} {n S : Int} {k : Nat} (h1 : k ≠ 15 + P) (h2 : k ≠ 10 + P) (h3 : k ≠ 25 + c) : bR R P c n S k = R k := by
  unfold bR
  rw [up1_n h3, up1_n h2, up1_n h1]
theorem bR_bb {B : Int} {N : Nat} {Pm : Int} {R : Nat → Int} (hb : BB B N Pm R) (h5 : Pm ≤ 5) {P c : Nat} {n S : Int} (hP : (P : Int) < Pm) (hc : c < 25) (hn : 0 ≤ n ∧ n ≤ 20) (h0 : 0 ≤ S) (hs : S ≤ R (15 + P)) (hl : R (10 + P) + n ≤ 99) : BB (B + 20) N Pm (bR R P c n S) := by
  have g := hb
  obtain ⟨h1, h2, h3, h4⟩ := hb
  obtain ⟨-, -, ⟨l1, l2⟩, ⟨l3, l4⟩⟩ := h1 P hP
  have P5 : P < 5 := by omega
  refine g.up h5 (by omega) (fun k hk => bR_n (by omega) (by omega) (by omega)) (fun p hp => ⟨?_, ?_⟩) (fun p hp => ?_) (fun c' hc' => ?_)
  · by_cases e : p = P
    · have q : bR R P c n S (10 + p) = R (10 + P) + n := by
        rw [e]; unfold bR; rw [up1_n (by omega), up1_s]
      rw [q]; omega
    · rw [bR_n (by omega) (by omega) (by omega)]
      exact (h1 p hp).2.2.1
  · by_cases e : p = P
    · have q : bR R P c n S (15 + p) = R (15 + P) - S := by
        rw [e]; unfold bR; rw [up1_n (by omega), up1_n (by omega), up1_s]
      rw [q]; omega
    · rw [bR_n (by omega) (by omega) (by omega)]
      exact (h1 p hp).2.2.2
  · rw [bR_n (by omega) (by omega) (by omega)]
    exact h2 p hp
  · have q0 := (h3 c' hc').1
    by_cases e : c' = c
    · have q : bR R P c n S (25 + c') = R (25 + c) + n := by
        rw [e]; unfold bR; rw [up1_s]
      rw [q]
      have := (h3 c hc).1
      omega
    · rw [bR_n (by omega) (by omega) (by omega)]
      omega
theorem bR_fw {P5 : Int} {R Q : Nat → Int} {P c : Nat} {n S : Int} (h : Fw P5 R Q) (hP : (P : Int) < P5) (h5 : P5 ≤ 5) (hc : c < 25) : Fw P5 (bR R P c n S) (bR Q P c n S) := by
  have e1 := h (15 + P) ⟨by omega, fun _ => by omega⟩
  have e2 := h (10 + P) ⟨by omega, fun _ => by omega⟩
  have e3 := h (25 + c) ⟨by omega, fun y => by omega⟩
  unfold bR
  rw [e1, e2, e3]
  exact h.up.up.up
theorem buy_x {B : Int} {w h : Nat} {s m : XS} (H : CS B w h s m) (hB : B ≤ 900000) (R : Rg s m) {a1 a2 : Int} : (f_X11_buy s a1 a2).2 = (f_X12_buy m a1 a2).2 ∧ CS (B + 20) w h (f_X11_buy s a1 a2).1 (f_X12_buy m a1 a2).1 ∧ Rg (f_X11_buy s a1 a2).1 (f_X12_buy m a1 a2).1 ∧ FdC (f_X11_buy s a1 a2).1 s ∧ FdM (f_X12_buy m a1 a2).1 m ∧ KF (f_X11_buy s a1 a2).1 s (f_X12_buy m a1 a2).1 m ∧ (RB B (w * h) m → RB B (w * h) (f_X12_buy m a1 a2).1) := by
  obtain ⟨m0, hm0⟩ : ∃ m0, m0 = xup m 0 0 0 0 := ⟨_, rfl⟩
  have m0o : ∀ t c k, ¬ (t = 0 ∧ c = 0 ∧ k = 0) → m0 t c k = m t c k := fun t c k q => by rw [hm0]; exact thr_f q
  have m0r : m0 1 1 = m 1 1 := funext fun k => m0o 1 1 k (by omega)
  have fm0 : FdM m0 m := by rw [hm0]; exact FdM.thr
  have H0 : CS B w h s m0 := H.fr FrA.rf m0r
  have R0 : Rg s m0 := R.same rfl rfl (fun _ _ _ _ _ => rfl) (by rw [m0r]) (fun k _ _ => by rw [m0r])
  obtain ⟨p1, p2, p3, p4, p5, p6, p7, p8⟩ := H.pl
  obtain ⟨b1, b2, b3, b4, b5⟩ := H.bd
  have one : ¬ (1 : Int) = 0 := by decide
  have none : ∀ x : Int, ((s, x) : XR).2 = ((m0, x) : XR).2 ∧ CS (B + 20) w h s m0 ∧ Rg s m0 ∧ FdC s s ∧ FdM m0 m ∧ KF s s m0 m ∧ (RB B (w * h) m → RB B (w * h) m0) := fun x => ⟨rfl, H0.le (by omega) (by omega), R0, FdC.rf, fm0, Or.inr ⟨rfl, fun k _ _ => by rw [m0r]⟩, fun hr => hr.row m0r⟩
  have ec : f_X11_buy s a1 a2 = if 0 ≤ a1 ∧ a1 < m 1 1 3 then (if 1 ≤ a2 ∧ a2 ≤ 20 then L11_X11_buy 21 s a1 a2 0 0 else (s, -3)) else (s, -2) := by
    simp only [f_X11_buy, g1c_X11_buy, g2b_X11_buy, g3_X11_buy, g4_X11_buy, g5b_X11_buy, g6_X11_buy, g7_X11_buy, g8b_X11_buy, g9_X11_buy, g10_X11_buy, ispC_x, ← p1]
    by_cases z1 : 0 ≤ a1 ∧ a1 < m 1 1 3
    · rw [if_pos z1, if_neg one, if_pos z1]
      by_cases z2 : a2 < 1
      · rw [if_pos z2, if_neg (fun q => by omega)]
      · rw [if_neg z2]
        by_cases z3 : 20 < a2
        · rw [if_pos z3, if_neg (fun q => by omega)]
        · rw [if_neg z3, if_pos (show 1 ≤ a2 ∧ a2 ≤ 20 by omega)]
          rfl
    · rw [if_neg z1, if_pos rfl, if_neg z1]
  have em : f_X12_buy m a1 a2 = if 0 ≤ a1 ∧ a1 < m 1 1 3 then (if 1 ≤ a2 ∧ a2 ≤ 20 then g8_X12_buy m0 a1 a2 else (m0, -3)) else (m0, -2) := by
    simp only [f_X12_buy, g1w_X12_buy, g2c_X12_buy, g3b_X12_buy, g4_X12_buy, g5_X12_buy, g6c_X12_buy, g7b_X12_buy, g9_X12_buy, ispM_x, within_x, ← hm0, m0r]
    by_cases z1 : 0 ≤ a1 ∧ a1 < m 1 1 3
    · rw [if_pos z1, if_neg one, if_pos z1]
      by_cases z2 : 1 ≤ a2 ∧ a2 ≤ 20
      · rw [if_pos z2, if_neg one, if_pos z2]
      · rw [if_neg z2, if_pos rfl, if_neg z2]
    · rw [if_neg z1, if_pos rfl, if_neg z1]
  rw [ec, em]
  by_cases z1 : 0 ≤ a1 ∧ a1 < m 1 1 3
  · rw [if_pos z1, if_pos z1]
    by_cases z2 : 1 ≤ a2 ∧ a2 ≤ 20
    · rw [if_pos z2, if_pos z2]
      obtain ⟨P, rfl⟩ : ∃ P : Nat, a1 = (P : Int) := ⟨a1.toNat, by omega⟩
      obtain ⟨n, rfl⟩ : ∃ n : Nat, a2 = (n : Int) := ⟨a2.toNat, by omega⟩
      have P5 : P < 5 := by omega
      obtain ⟨c1, c2, c3, c4⟩ := p5 P z1.2
      obtain ⟨⟨r1, r2⟩, ⟨r3, r4⟩, ⟨r7, r8⟩, ⟨r5, r6⟩⟩ := b1 P z1.2
      obtain ⟨c, hc⟩ : ∃ c : Nat, m 1 1 (36 + P) = (c : Int) := ⟨(m 1 1 (36 + P)).toNat, by omega⟩
      have cw : c < w * h := by rw [hc] at r2; exact r2
      have b25 := H.1.b25
      have c25 : c < 25 := by omega
      obtain ⟨u, v, S, e1, e2, e3, e4, e5, e6, e7, e8, -⟩ := bb_x H0 hB (P := P) (c := c) (a2 := n) (by rw [m0r]; exact z1.2) (by rw [m0r]; exact hc) ⟨by omega, by omega⟩
      rw [m0r] at e5 e6 e8
      have Hu : CS B w h u m := H.fr e2.a2 rfl
      have Ru : Rg u v := R0.same (e2 _ _ _ (by omega)) (e2 _ _ _ (by omega)) (fun t c k _ _ => e2 t c k (by omega)) (e7 _ _ _ (by omega) (by omega)) (fun k _ _ => e7 _ _ _ (by omega) (by omega))
      have u13 : u 1 13 P = m 1 1 (46 + P) := by rw [e2 _ _ _ (by omega)]; exact c3
      have u14 : u 1 14 P = m 1 1 (51 + P) := by rw [e2 _ _ _ (by omega)]; exact c4
      have u11 : u 1 11 P = (c : Int) := by rw [e2 _ _ _ (by omega), c1]; exact hc
      have eg : g14_X11_buy u (P : Int) (n : Int) S = if m 1 1 (51 + P) < S then (u, -5) else if 99 < m 1 1 (46 + P) + (n : Int) then (u, -4) else g20_X11_buy u (P : Int) (n : Int) S := by
        simp only [g14_X11_buy, g16b_X11_buy, g17_X11_buy, g18_X11_buy, g19b_X11_buy, g21_X11_buy, show Int.toNat (P : Int) = P from rfl, u13, u14]
        rw [iadd_v (by unfold rgI; omega)]
      have vo : ∀ t c k, ¬ (t = 1 ∧ c = 1 ∧ 36 ≤ k ∧ k ≤ 111) → ¬ (t = 1 ∧ (c = 5 ∨ c = 6)) → ¬ (t = 0 ∧ c = 0 ∧ k = 0) → v t c k = m t c k := fun t c k q1 q2 q3 => (e7 t c k q1 q2).trans (m0o t c k q3)
      rw [e1, eg]
      -- it can't be: nothing has changed
      have no : ∀ x : Int, (∀ k, k < 76 → v 1 1 (36 + k) = m 1 1 (36 + k)) → (((u, x) : XR).2 = ((v, x) : XR).2 ∧ CS (B + 20) w h u v ∧ Rg u v ∧ FdC u s ∧ FdM v m ∧ KF u s v m ∧ (RB B (w * h) m → RB B (w * h) v)) := fun x hr => by
        have rowv : v 1 1 = m 1 1 := funext fun k => by
          by_cases q : 36 ≤ k ∧ k ≤ 111
          · have := hr (k - 36) (by omega)
            rw [show 36 + (k - 36) = k by omega] at this
            exact this
          · exact vo _ _ _ (by omega) (by omega) (by omega)
        exact ⟨rfl, (H.fr e2.a2 rowv).le (by omega) (by omega), Ru, fun t c k q1 _ _ _ _ _ => e2 t c k (by omega), fun t c k q1 q2 q3 => vo t c k (by omega) (by omega) (by omega), Or.inr ⟨e2 _ _ _ (by omega), fun k q1 q2 => hr k q2⟩, fun hr => hr.row rowv⟩
      have en : ∀ x : Int, x < 0 → g10c_X12_buy v x = (v, x) := fun x hx => by
        simp only [g10c_X12_buy, g11b_X12_buy, g12_X12_buy]
        rw [if_pos hx]
      have e8m : g8_X12_buy m0 (P : Int) (n : Int) = g10c_X12_buy v (if m 1 1 (51 + P) < S then -5 else if 99 < m 1 1 (46 + P) + (n : Int) then -4 else S) := by
        simp only [g8_X12_buy, e5]
      rw [e8m]
      by_cases y1 : m 1 1 (51 + P) < S
      · rw [if_pos y1, if_pos y1, en _ (by decide)]
        exact no _ (fun k hk => by rw [e8 k hk, if_pos (Or.inl y1)])
      · rw [if_neg y1, if_neg y1]
        by_cases y2 : 99 < m 1 1 (46 + P) + (n : Int)
        · rw [if_pos y2, if_pos y2, en _ (by decide)]
          exact no _ (fun k hk => by rw [e8 k hk, if_pos (Or.inr y2)])
        · rw [if_neg y2, if_neg y2]
          have vr : ∀ k, k < 76 → v 1 1 (36 + k) = bR (rA (m 1 1)) P c (n : Int) S k := fun k hk => by
            rw [e8 k hk, if_neg (fun q => q.elim y1 y2)]
          have v3 : v 1 1 3 = m 1 1 3 := vo _ _ _ (by omega) (by omega) (by omega)
          obtain ⟨n1, n2, n3, n4⟩ := kn_x (y := v) Hu (R.same (e2 _ _ _ (by omega)) (e2 _ _ _ (by omega)) (fun t c k _ _ => e2 t c k (by omega)) rfl (fun _ _ _ => rfl)) v3 (fun k q1 q2 => vo _ _ _ (by omega) (by omega) (by omega)) e6
          obtain ⟨s2, hs2⟩ : ∃ s2, s2 = (f_X11_keep u 10).1 := ⟨_, rfl⟩
          rw [← hs2] at n1 n2
          have s2c : ∀ t c k, 1 ≤ c → c ≤ 19 → s2 t c k = u t c k := fun t c k q1 q2 => n2 t c k (by omega) (by omega)
          obtain ⟨x, hx⟩ : ∃ x, x = xup (xup (xup (xup s2 1 14 P (m 1 1 (51 + P) - S)) 1 13 P (m 1 1 (46 + P) + (n : Int))) 1 16 c (m 1 1 (61 + c) + (n : Int))) 0 79 4 0 := ⟨_, rfl⟩
          have so := (b3 c c25).1
          have u16 : u 1 16 c = m 1 1 (61 + c) := by rw [e2 _ _ _ (by omega)]; exact (p7 c c25).1
          have eg2 : g20_X11_buy u (P : Int) (n : Int) S = (x, S) := by
            have f1 : ∀ a, xup s2 1 14 P a 1 13 P = m 1 1 (46 + P) := fun a => by rw [xup_c (by decide), s2c _ _ _ (by decide) (by decide)]; exact u13
            have f2 : ∀ a b, xup (xup s2 1 14 P a) 1 13 P b 1 11 P = (c : Int) := fun a b => by rw [xup_c (by decide), xup_c (by decide), s2c _ _ _ (by decide) (by decide)]; exact u11
            have f3 : ∀ a b, xup (xup s2 1 14 P a) 1 13 P b 1 16 c = m 1 1 (61 + c) := fun a b => by rw [xup_c (by decide), xup_c (by decide), s2c _ _ _ (by decide) (by decide)]; exact u16
            simp only [g20_X11_buy, g22c_X11_buy, g23w_X11_buy, g24w_X11_buy, g25w_X11_buy, g26c_X11_buy, ← hs2, forg_x, show Int.toNat (P : Int) = P from rfl, f1, f2, f3, show Int.toNat (c : Int) = c from rfl, s2c 1 14 P (by decide) (by decide), u14]
            rw [isub_v (by unfold rgI; omega), iadd_v (show rgI (m 1 1 (46 + P) + (n : Int)) by unfold rgI; omega), iadd_v (show rgI (m 1 1 (61 + c) + (n : Int)) by unfold rgI; omega), ← hx]
          have eh : g10c_X12_buy v S = ((f_X12_notes v).1, S) := by
            simp only [g10c_X12_buy, g11b_X12_buy, g13_X12_buy, g14c_X12_buy]
            rw [if_neg (by omega)]
          rw [eg2, eh]
          generalize (f_X12_notes v).1 = nt at *
          have xo : ∀ t c' k, ¬ (t = 1 ∧ (c' = 13 ∨ c' = 14 ∨ c' = 16)) → ¬ (t = 0 ∧ c' = 79 ∧ k = 4) → x t c' k = s2 t c' k := fun t c' k q1 q2 => by
            rw [hx]
            unfold xup
            rw [if_neg q2, if_neg (fun z => q1 ⟨z.1, by omega⟩), if_neg (fun z => q1 ⟨z.1, by omega⟩), if_neg (fun z => q1 ⟨z.1, by omega⟩)]
          have F0 := H.fw
          have e15 := F0 (15 + P) ⟨by omega, fun _ => by omega⟩
          have e10 := F0 (10 + P) ⟨by omega, fun _ => by omega⟩
          have e25 := F0 (25 + c) ⟨by omega, fun y => by omega⟩
          have rx : ∀ k, k < 76 → rwC x 10 k = bR (rwC s 10) P c (n : Int) S k := fun k hk => by
            rw [hx, rwC_same (s := xup (xup (xup s2 1 14 P (m 1 1 (51 + P) - S)) 1 13 P (m 1 1 (46 + P) + (n : Int))) 1 16 c (m 1 1 (61 + c) + (n : Int))) (b := 10) (fun t c' k q1 q2 => xup_c (by omega))]
            unfold bR
            rw [e15, e10, e25]
            unfold rA
            rw [show 36 + (15 + P) = 51 + P by omega, show 36 + (10 + P) = 46 + P by omega, show 36 + (25 + c) = 61 + c by omega, rwC_u6 (b := 10) c25 k hk]
            refine up1_c (fun j hj => ?_) k hk
            rw [rwC_u3 (b := 10) P5 j hj]
            refine up1_c (fun i hi => ?_) j hj
            rw [rwC_u4 (b := 10) P5 i hi]
            exact up1_c (fun l hl => by rw [rwC_same (s := s) (b := 10) (fun t c' k q1 q2 => (s2c t c' k (by omega) (by omega)).trans (e2 t c' k (by omega)))]) i hi
          have Cy : CS (B + 20) w h x v := by
            refine H.mk (fun t c' k q1 q2 q3 q4 q5 => ?_) (fun k hk => vo _ _ _ (by omega) (by omega) (by omega)) (fun k hk => ?_) ?_ (by omega)
            · rw [xo t c' k (by omega) (by omega), s2c t c' k q1 q2]
              exact e2 t c' k (by omega)
            · rw [rx k hk.1]
              refine Eq.trans ?_ (vr k hk.1).symm
              exact bR_fw H.fw z1.2 p3 c25 k hk
            · refine (bR_bb H.2.2.2.2.1 p3 (P := P) (c := c) (n := (n : Int)) (S := S) z1.2 c25 (by omega) e3 ?_ ?_).same (fun k hk => vr k hk.1) p3
              · show S ≤ m 1 1 (36 + (15 + P))
                rw [show 36 + (15 + P) = 51 + P by omega]; omega
              · show m 1 1 (36 + (10 + P)) + (n : Int) ≤ 99
                rw [show 36 + (10 + P) = 46 + P by omega]; omega
          refine ⟨rfl, Cy.row (fun k hk => n3 _ _ _ (by omega)), ?_, fun t c' k q1 q2 q3 q4 q5 q6 => ?_, fun t c' k q1 q2 q3 => ?_, Or.inl ?_, n4⟩
          · exact n1.same (xo _ _ _ (by omega) (by omega)) (xo _ _ _ (by omega) (by omega)) (fun t c' k q1 q2 => xo t c' k (by omega) (by omega)) rfl (fun _ _ _ => rfl)
          · show x t c' k = s t c' k
            rw [xo t c' k (by omega) (by omega), n2 t c' k q3 (by omega)]
            exact e2 t c' k (by omega)
          · show nt t c' k = m t c' k
            rw [n3 t c' k (by omega)]
            exact vo t c' k (by omega) (by omega) (by omega)
          · show x 0 79 4 = 0
            rw [hx, xup_s]
    · rw [if_neg z2, if_neg z2]; exact none _
  · rw [if_neg z1, if_neg z1]; exact none _
theorem bR_b1 {B : Int} {N : Nat} {Pm : Int} {R : Nat → Int} (hb : BB B N Pm R) (h5 : Pm ≤ 5) {P c : Nat} {S : Int} (hP : (P : Int) < Pm) (hc : c < 25) (h0 : 0 ≤ S) (hs : S ≤ R (15 + P)) (hl : R (10 + P) + 1 ≤ 99) : BB (B + 1) N Pm (bR R P c 1 S) := by
  obtain ⟨g1, g2, g3, g4⟩ := bR_bb hb h5 (c := c) (n := 1) hP hc (by decide) h0 hs hl
  obtain ⟨h1, h2, h3, h4⟩ := hb
  have P5 : P < 5 := by omega
  refine ⟨g1, g2, fun c' hc' => ?_, ?_⟩
  · obtain ⟨q1, q2, q3⟩ := g3 c' hc'
    obtain ⟨y1, y2, y3⟩ := h3 c' hc'
    have f : bR R P c 1 S (50 + c') = R (50 + c') := bR_n (by omega) (by omega) (by omega)
    refine ⟨⟨q1.1, ?_⟩, ⟨q2.1, by rw [f]; omega⟩, q3⟩
    by_cases e : c' = c
    · have q : bR R P c 1 S (25 + c') = R (25 + c) + 1 := by
        rw [e]; unfold bR; rw [up1_s]
      rw [q]
      have := (h3 c hc).1
      omega
    · rw [bR_n (by omega) (by omega) (by omega)]
      omega
  · rw [bR_n (by omega) (by omega) (by omega)]
    omega
