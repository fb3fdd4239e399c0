/-! weeks by draws: both -/
def FvC (u s : XS) : Prop := ∀ t c k, ¬ (t = 1 ∧ (c = 4 ∨ c = 5 ∨ c = 8 ∨ c = 9 ∨ (11 ≤ c ∧ c ≤ 17))) → ¬ (t = 0 ∧ c = 10 ∧ k = 8) → ¬ (t = 0 ∧ c = 0 ∧ k = 18) → u t c k = s t c k
def FvM (v m : XS) : Prop := ∀ t c k, ¬ (t = 1 ∧ c = 1 ∧ 36 ≤ k ∧ k ≤ 111) → ¬ (t = 1 ∧ (c = 5 ∨ c = 6)) → ¬ (t = 0 ∧ c = 0 ∧ k = 19) → v t c k = m t c k
theorem FvC.tr {a b c : XS} (h : FvC a b) (g : FvC b c) : FvC a c := fun t c' k q1 q2 q3 => (h t c' k q1 q2 q3).trans (g t c' k q1 q2 q3)
theorem FvM.tr {a b c : XS} (h : FvM a b) (g : FvM b c) : FvM a c := fun t c' k q1 q2 q3 => (h t c' k q1 q2 q3).trans (g t c' k q1 q2 q3)
/-- the next draw -/
def nxD (x : Int) : Int := Xiadd (Ximul 1103515245 x) 12345
def drC (s : XS) : XS := xup s 0 0 18 (nxD (s 0 0 18))
def drM (m : XS) : XS := xup m 0 0 19 (nxD (m 0 0 19))
theorem drC_x (s : XS) : f_X11_draw s = (drC s, Xiushr (nxD (s 0 0 18)) 16) := by
  have e : xup s 0 0 18 (nxD (s 0 0 18)) 0 0 18 = nxD (s 0 0 18) := xup_s
  have e0 : f_X11_draw s = (xup s 0 0 18 (nxD (s 0 0 18)), Xiushr (xup s 0 0 18 (nxD (s 0 0 18)) 0 0 18) 16) := rfl
  rw [e0, e]
  rfl
theorem drM_x (m : XS) (b : Int) : f_X12_draw m b = (drM m, (Xiushr (nxD (m 0 0 19)) 16) % b) := by
  have e : xup m 0 0 19 (nxD (m 0 0 19)) 0 0 19 = nxD (m 0 0 19) := xup_s
  have e0 : f_X12_draw m b = (xup m 0 0 19 (nxD (m 0 0 19)), (Xiushr (xup m 0 0 19 (nxD (m 0 0 19)) 0 0 19) 16) % b) := rfl
  rw [e0, e]
  rfl
theorem drC_f {s : XS} : FvC (drC s) s := fun t c k _ _ q => if_neg q
theorem drM_f {m : XS} : FvM (drM m) m := fun t c k _ _ q => if_neg q
theorem dr_st {B : Int} {w h : Nat} {s m : XS} (H : CS B w h s m) (e : s 0 0 18 = m 0 0 19) : CS B w h (drC s) (drM m) ∧ drC s 0 0 18 = drM m 0 0 19 := by
  refine ⟨(H.cls (fun t c k q1 q2 => ?_)).fr FrA.rf (funext fun k => xup_t (by decide)), ?_⟩
  · exact xup_c (by omega)
  · have a1 : drC s 0 0 18 = nxD (s 0 0 18) := xup_s
    have a2 : drM m 0 0 19 = nxD (m 0 0 19) := xup_s
    rw [a1, a2, e]
/-- one deed that is drawn -/
def LvR (B : Int) (w h : Nat) (s m u v : XS) (r : Int) : Prop := (r = 0 ∨ r = 1) ∧ CS (B + 1) w h u v ∧ u 0 0 18 = v 0 0 19 ∧ FvC u s ∧ FvM v m ∧ (r = 0 → ∀ k, k < 76 → v 1 1 (36 + k) = m 1 1 (36 + k))
theorem LvR.tr {B : Int} {w h : Nat} {s m s' m' u v : XS} {r : Int} (H : LvR B w h s' m' u v r) (F : FvC s' s) (G : FvM m' m) (e : ∀ k, k < 76 → m' 1 1 (36 + k) = m 1 1 (36 + k)) : LvR B w h s m u v r := by
  obtain ⟨h1, h2, h3, h4, h5, h6⟩ := H
  exact ⟨h1, h2, h3, h4.tr F, h5.tr G, fun q k hk => (h6 q k hk).trans (e k hk)⟩
/-- an hour goes by -/
theorem lvh_x {B : Int} {w h : Nat} {s m : XS} (H : CS B w h s m) (hB : B < 900000) (e : s 0 0 18 = m 0 0 19) : LvR B w h s m (xup s 0 10 8 (Xiadd (s 0 10 8) 1)) (xup m 1 1 111 (Xiadd (m 1 1 111) 1)) 1 := by
  obtain ⟨p1, p2, p3, p4, p5, p6, p7, p8⟩ := H.pl
  obtain ⟨b1, b2, b3, b4, b5⟩ := H.bd
  rw [← p4, iadd_v (by unfold rgI; omega)]
  have ry : rA ((xup m 1 1 111 (m 1 1 111 + 1)) 1 1) = up1 (rA (m 1 1)) 75 (m 1 1 111 + 1) := by
    rw [show (111 : Nat) = 36 + 75 from rfl, rA_up]
  refine ⟨Or.inr rfl, H.mk (fun t c k q1 q2 q3 q4 q5 => ?_) (fun k hk => xup_k (by omega)) (fun k hk => ?_) ?_ (by omega), ?_, fun t c k q1 q2 q3 => if_neg q2, fun t c k q1 q2 q3 => ?_, fun q => absurd q (by decide)⟩
  · exact if_neg q5
  · rw [rwC_u8 (b := 10) k hk.1, ry]
    exact H.fw.up k hk
  · rw [ry]
    obtain ⟨-, -, -, -, ⟨g1, g2, g3, g4⟩, -⟩ := H
    refine ⟨fun p hp => ?_, fun p hp => ?_, fun c hc => ?_, ?_⟩
    · rw [up1_n (by omega), up1_n (by omega), up1_n (by omega), up1_n (by omega)]
      exact g1 p hp
    · rw [up1_n (by omega)]
      exact g2 p hp
    · rw [up1_n (by omega), up1_n (by omega)]
      have := g3 c hc
      exact ⟨by omega, by omega, this.2.2⟩
    · rw [up1_s]
      omega
  · rw [xup_c (by decide), xup_t (by decide)]
    exact e
  · unfold xup
    exact if_neg (fun z => q1 ⟨z.1, z.2.1, by omega, by omega⟩)
/-- one goes, if one can -/
theorem lvg_x {B : Int} {w h : Nat} {s m : XS} (H : CS B w h s m) (hB : B < 900000) (e : s 0 0 18 = m 0 0 19) {p t : Int} (hp : 0 ≤ p ∧ p < m 1 1 3) (ht : 0 ≤ t ∧ t < 4) : ∃ u v r, (if (f_X0_hindrance s 1 p t).2 = 0 then (((f_X0_step (f_X0_hindrance s 1 p t).1 1 p t).1, 1) : XR) else ((f_X0_hindrance s 1 p t).1, 0)) = (u, r) ∧ (if (f_X12_whyNot m p t).2 = 0 then (((f_X12_goes (f_X12_whyNot m p t).1 p t).1, 1) : XR) else ((f_X12_whyNot m p t).1, 0)) = (v, r) ∧ LvR B w h s m u v r := by
  obtain ⟨u, x, v, e1, e2, f1, f2, f3⟩ := hind_x H (p := p) (q := p) (t := t) (r := t) ⟨fun _ => rfl, id⟩ ⟨fun _ => rfl, id⟩
  rw [e1, e2]
  dsimp only
  have H1 : CS B w h u v := H.fr f1 f2.row
  have F1 : FvC u s := fun t c k q1 _ _ => f1 t c k (by omega)
  have G1 : FvM v m := fun t c k _ q2 _ => f2 t c k (by omega)
  by_cases z : x = 0
  · rw [if_pos z, if_pos z]
    obtain ⟨P, T, g1, -, g2, g3, -, g4, g5, g6⟩ := f3 z
    subst g1
    subst g3
    obtain ⟨⟨r1, r2⟩, ⟨r3, r4⟩, r5, -⟩ := H.bd.1 P g2
    obtain ⟨y, y', x1, x2, x3, x4, x5, -⟩ := goes_x H1 (P := P) (T := T) (c := (m 1 1 (36 + P)).toNat) (d := (m 1 1 (41 + P)).toNat) (by rw [f2.row]; exact g2) g4 (by rw [f2.row]; omega) (by rw [f2.row]; omega) (by rw [f2.row]; exact g5) (by omega) (by
      rw [f2.row]
      unfold tkn
      split
      · omega
      · split
        · omega
        · rename_i y1 y2
          exact g6 (by omega) y2)
    rw [x1, x2]
    refine ⟨y, y', 1, rfl, rfl, Or.inr rfl, x3, ?_, fun t c k q1 q2 q3 => ?_, fun t c k q1 q2 q3 => ?_, fun q => absurd q (by decide)⟩
    · rw [x4 _ _ _ (by omega) (by omega), x5 _ _ _ (by omega), f1 _ _ _ (by omega), f2 _ _ _ (by omega)]
      exact e
    · rw [x4 t c k (by omega) q2]
      exact F1 t c k q1 q2 q3
    · rw [x5 t c k q1]
      exact G1 t c k q1 q2 q3
  · rw [if_neg z, if_neg z]
    refine ⟨u, v, 0, rfl, rfl, Or.inl rfl, H1.le (by omega) (by have := H.bd.2.2.2.2; omega), ?_, F1, G1, fun _ k hk => by rw [f2.row]⟩
    rw [f1 _ _ _ (by omega), f2 _ _ _ (by omega)]
    exact e
/-- one left is bought, if it can be -/
theorem lvb_x {B : Int} {w h : Nat} {s m : XS} (H : CS B w h s m) (hB : B < 900000) (e : s 0 0 18 = m 0 0 19) {P : Nat} (hP : (P : Int) < m 1 1 3) : ∃ u v r, f_X0_buysOne s 1 (P : Int) = (u, r) ∧ (if (f_X12_boughtBy m (P : Int) 1).2 < 0 then (((f_X12_boughtBy m (P : Int) 1).1, 0) : XR) else ((f_X12_boughtBy m (P : Int) 1).1, 1)) = (v, r) ∧ LvR B w h s m u v r := by
  obtain ⟨p1, p2, p3, p4, p5, p6, p7, p8⟩ := H.pl
  obtain ⟨b1, b2, b3, b4, b5⟩ := H.bd
  have b25 := H.1.b25
  have P5 : P < 5 := by omega
  obtain ⟨c1, c2, c3, c4⟩ := p5 P hP
  obtain ⟨⟨r1, r2⟩, ⟨r3, r4⟩, ⟨r7, r8⟩, ⟨r5, r6⟩⟩ := b1 P hP
  obtain ⟨c, hc⟩ : ∃ c : Nat, m 1 1 (36 + P) = (c : Int) := ⟨(m 1 1 (36 + P)).toNat, by omega⟩
  have cw : c < w * h := by rw [hc] at r2; exact r2
  have c25 : c < 25 := by omega
  obtain ⟨u, v, S, -, e2, e3, e4, e5, -, e7, e8, e9⟩ := bb_x H (by omega) (P := P) (c := c) (a2 := 1) hP hc ⟨by decide, by decide⟩
  obtain ⟨q1, q2⟩ := e9 rfl
  have e5' : f_X12_boughtBy m (P : Int) 1 = (v, if m 1 1 (51 + P) < S then -5 else if 99 < m 1 1 (46 + P) + 1 then -4 else S) := e5
  have e8' : ∀ k, k < 76 → v 1 1 (36 + k) = if m 1 1 (51 + P) < S ∨ 99 < m 1 1 (46 + P) + 1 then m 1 1 (36 + k) else bR (rA (m 1 1)) P c 1 S k := e8
  have u13 : u 1 13 P = m 1 1 (46 + P) := by rw [e2 _ _ _ (by omega)]; exact c3
  have u14 : u 1 14 P = m 1 1 (51 + P) := by rw [e2 _ _ _ (by omega)]; exact c4
  have u11 : u 1 11 P = (c : Int) := by rw [e2 _ _ _ (by omega), c1]; exact hc
  have so := (b3 c c25).1
  have u16 : u 1 16 c = m 1 1 (61 + c) := by rw [e2 _ _ _ (by omega)]; exact (p7 c c25).1
  obtain ⟨x, hx⟩ : ∃ x, x = xup (xup (xup u 1 14 P (m 1 1 (51 + P) - S)) 1 13 P (m 1 1 (46 + P) + 1)) 1 16 c (m 1 1 (61 + c) + 1) := ⟨_, rfl⟩
  have ec : f_X0_buysOne s 1 (P : Int) = if m 1 1 (51 + P) < S then (u, 0) else if m 1 1 (46 + P) < 99 then (x, 1) else (u, 0) := by
    have f1 : ∀ a, xup u 1 14 P a 1 13 P = m 1 1 (46 + P) := fun a => by rw [xup_c (by decide)]; exact u13
    have f2 : ∀ a b, xup (xup u 1 14 P a) 1 13 P b 1 11 P = (c : Int) := fun a b => by rw [xup_c (by decide), xup_c (by decide)]; exact u11
    have f3 : ∀ a b, xup (xup u 1 14 P a) 1 13 P b 1 16 c = m 1 1 (61 + c) := fun a b => by rw [xup_c (by decide), xup_c (by decide)]; exact u16
    simp only [f_X0_buysOne, g1c_X0_buysOne, g2b_X0_buysOne, g3_X0_buysOne, g4_X0_buysOne, g5b_X0_buysOne, g6_X0_buysOne, g7_X0_buysOne, g8w_X0_buysOne, g9w_X0_buysOne, g10w_X0_buysOne, show 1 + 9 + 4 = 14 from rfl, show 1 + 9 + 3 = 13 from rfl, show 1 + 9 + 6 = 16 from rfl, show 1 + 9 + 1 = 11 from rfl, show Int.toNat (P : Int) = P from rfl, ← q1, ← q2, u13, u14, f1, f2, f3, show Int.toNat (c : Int) = c from rfl]
    rw [iadd_v (show rgI (m 1 1 (61 + c) + 1) by unfold rgI; omega), ← hx]
  have F1 : FvC u s := fun t c k q1 _ _ => e2 t c k (by omega)
  have G1 : FvM v m := fun t c k q1 q2 _ => e7 t c k q1 q2
  have no : (∀ k, k < 76 → v 1 1 (36 + k) = m 1 1 (36 + k)) → LvR B w h s m u v 0 := fun hr => by
    have rowv : v 1 1 = m 1 1 := funext fun k => by
      by_cases q : 36 ≤ k ∧ k ≤ 111
      · have := hr (k - 36) (by omega)
        rw [show 36 + (k - 36) = k by omega] at this
        exact this
      · exact e7 _ _ _ (by omega) (by omega)
    refine ⟨Or.inl rfl, (H.fr e2.a2 rowv).le (by omega) (by omega), ?_, F1, G1, fun _ => hr⟩
    rw [e2 _ _ _ (by omega), e7 _ _ _ (by omega) (by omega)]
    exact e
  rw [ec, e5']
  dsimp only
  by_cases y1 : m 1 1 (51 + P) < S
  · rw [if_pos y1, if_pos y1]
    exact ⟨u, v, 0, rfl, if_pos (by decide), no (fun k hk => by rw [e8' k hk, if_pos (Or.inl y1)])⟩
  · rw [if_neg y1, if_neg y1]
    by_cases y2 : 99 < m 1 1 (46 + P) + 1
    · rw [if_neg (show ¬ m 1 1 (46 + P) < 99 by omega), if_pos y2]
      exact ⟨u, v, 0, rfl, if_pos (by decide), no (fun k hk => by rw [e8' k hk, if_pos (Or.inr y2)])⟩
    · rw [if_pos (show m 1 1 (46 + P) < 99 by omega), if_neg y2]
      have vr : ∀ k, k < 76 → v 1 1 (36 + k) = bR (rA (m 1 1)) P c 1 S k := fun k hk => by
        rw [e8' k hk, if_neg (fun q => q.elim y1 y2)]
      have F0 := H.fw
      have e15 := F0 (15 + P) ⟨by omega, fun _ => by omega⟩
      have e10 := F0 (10 + P) ⟨by omega, fun _ => by omega⟩
      have e25 := F0 (25 + c) ⟨by omega, fun y => by omega⟩
      have xo : ∀ t c' k, ¬ (t = 1 ∧ (c' = 13 ∨ c' = 14 ∨ c' = 16)) → x t c' k = u t c' k := fun t c' k q1 => by
        rw [hx]
        unfold xup
        rw [if_neg (fun z => q1 ⟨z.1, by omega⟩), if_neg (fun z => q1 ⟨z.1, by omega⟩), if_neg (fun z => q1 ⟨z.1, by omega⟩)]
      have rx : ∀ k, k < 76 → rwC x 10 k = bR (rwC s 10) P c 1 S k := fun k hk => by
        rw [hx]
        unfold bR
        rw [e15, e10, e25]
        unfold rA
        rw [show 36 + (15 + P) = 51 + P by omega, show 36 + (10 + P) = 46 + P by omega, show 36 + (25 + c) = 61 + c by omega, rwC_u6 (b := 10) c25 k hk]
        refine up1_c (fun j hj => ?_) k hk
        rw [rwC_u3 (b := 10) P5 j hj]
        refine up1_c (fun i hi => ?_) j hj
        rw [rwC_u4 (b := 10) P5 i hi]
        exact up1_c (fun l hl => by rw [rwC_same (s := s) (b := 10) (fun t c' k q1 q2 => e2 t c' k (by omega))]) i hi
      -- the bound is one more, not twenty
      have Cy : CS (B + 1) w h x v := by
        refine H.mk (fun t c' k q1 q2 q3 q4 q5 => ?_) (fun k hk => e7 _ _ _ (by omega) (by omega)) (fun k hk => ?_) ?_ (by omega)
        · rw [xo t c' k (by omega)]
          exact e2 t c' k (by omega)
        · rw [rx k hk.1]
          refine Eq.trans ?_ (vr k hk.1).symm
          exact bR_fw H.fw hP p3 c25 k hk
        · refine (bR_b1 H.2.2.2.2.1 p3 (P := P) (c := c) (S := S) hP c25 e3 ?_ ?_).same (fun k hk => vr k hk.1) p3
          · show S ≤ m 1 1 (36 + (15 + P))
            rw [show 36 + (15 + P) = 51 + P by omega]; omega
          · show m 1 1 (36 + (10 + P)) + 1 ≤ 99
            rw [show 36 + (10 + P) = 46 + P by omega]; omega
      refine ⟨x, v, 1, rfl, if_neg (by omega), Or.inr rfl, Cy, ?_, fun t c' k q1 q2 q3 => ?_, G1, fun q => absurd q (by decide)⟩
      · rw [xo _ _ _ (by omega), e2 _ _ _ (by omega), e7 _ _ _ (by omega) (by omega)]
        exact e
      · rw [xo t c' k (by omega)]
        exact F1 t c' k q1 q2 q3
theorem lv_x {B : Int} {w h : Nat} {s m : XS} (H : CS B w h s m) (hB : B < 900000) (e : s 0 0 18 = m 0 0 19) (h0 : 0 < m 1 1 3) : ∃ u v r, f_X11_liveOnce s = (u, r) ∧ f_X12_isDrawn m = (v, r) ∧ LvR B w h s m u v r := by
  have p1 := H.pl.1
  obtain ⟨x, hx⟩ : ∃ x, x = Xiushr (nxD (s 0 0 18)) 16 := ⟨_, rfl⟩
  have hx' : x = Xiushr (nxD (m 0 0 19)) 16 := by rw [← e]; exact hx
  have d1 := drC_x s
  have d1' := drM_x m 4
  rw [← hx] at d1
  rw [← hx'] at d1'
  obtain ⟨H1, E1⟩ := dr_st H e
  have F1 := drC_f (s := s)
  have G1 := drM_f (m := m)
  have row1 : drM m 1 1 = m 1 1 := funext fun k => xup_t (by decide)
  have c107 : drC s 0 10 7 = m 1 1 3 := by rw [F1 _ _ _ (by omega) (by omega) (by omega)]; exact p1.symm
  generalize drC s = s1 at *
  generalize drM m = m1 at *
  have tr1 : ∀ {u v : XS} {r : Int}, LvR B w h s1 m1 u v r → LvR B w h s m u v r := fun L => L.tr F1 G1 (fun k _ => by rw [row1])
  have m111 : m1 1 1 111 = m 1 1 111 := by rw [row1]
  have ec : f_X11_liveOnce s = if x % 4 = 3 then (xup s1 0 10 8 (Xiadd (s1 0 10 8) 1), 1) else g3_X11_liveOnce s1 (x % 4) := by
    simp only [f_X11_liveOnce, g1c_X11_liveOnce, g2b_X11_liveOnce, g4_X11_liveOnce, g29w_X11_liveOnce, d1]
  have em : f_X12_isDrawn m = if x % 4 = 3 then (xup m1 1 1 111 (Xiadd (m1 1 1 111) 1), 1) else g3_X12_isDrawn m1 (x % 4) := by
    simp only [f_X12_isDrawn, g1c_X12_isDrawn, g2b_X12_isDrawn, g4_X12_isDrawn, g19w_X12_isDrawn, d1', show Int.toNat 111 = 111 from rfl]
  rw [ec, em]
  by_cases z3 : x % 4 = 3
  · rw [if_pos z3, if_pos z3]
    exact ⟨_, _, 1, rfl, rfl, tr1 (lvh_x H1 hB E1)⟩
  · rw [if_neg z3, if_neg z3]
    obtain ⟨y, hy⟩ : ∃ y, y = Xiushr (nxD (s1 0 0 18)) 16 := ⟨_, rfl⟩
    have hy' : y = Xiushr (nxD (m1 0 0 19)) 16 := by rw [← E1]; exact hy
    have d2 := drC_x s1
    have d2' := drM_x m1 (m 1 1 3)
    rw [← hy] at d2
    rw [← hy'] at d2'
    obtain ⟨H2, E2⟩ := dr_st H1 E1
    have F2 := drC_f (s := s1)
    have G2 := drM_f (m := m1)
    have row2 : drM m1 1 1 = m1 1 1 := funext fun k => xup_t (by decide)
    generalize drC s1 = s2 at *
    generalize drM m1 = m2 at *
    have row2m : m2 1 1 = m 1 1 := row2.trans row1
    have tr2 : ∀ {u v : XS} {r : Int}, LvR B w h s2 m2 u v r → LvR B w h s m u v r := fun L => tr1 (L.tr F2 G2 (fun k _ => by rw [row2]))
    have pr1 := Int.emod_nonneg y (show m 1 1 3 ≠ 0 by omega)
    have pr2 := Int.emod_lt_of_pos y h0
    have ec2 : g3_X11_liveOnce s1 (x % 4) = if x % 4 = 2 then f_X0_buysOne s2 1 (y % m 1 1 3) else g20_X11_liveOnce s2 (y % m 1 1 3) := by
      simp only [g3_X11_liveOnce, g5b_X11_liveOnce, g7_X11_liveOnce, g18c_X11_liveOnce, g19b_X11_liveOnce, g21_X11_liveOnce, g28c_X11_liveOnce, c107, d2]
      rw [if_pos h0]
    have em2 : g3_X12_isDrawn m1 (x % 4) = if x % 4 = 2 then (if (f_X12_boughtBy m2 (y % m 1 1 3) 1).2 < 0 then ((f_X12_boughtBy m2 (y % m 1 1 3) 1).1, 0) else ((f_X12_boughtBy m2 (y % m 1 1 3) 1).1, 1)) else g7_X12_isDrawn m2 (y % m 1 1 3) := by
      simp only [g3_X12_isDrawn, g5c_X12_isDrawn, g6b_X12_isDrawn, g8_X12_isDrawn, g15c_X12_isDrawn, g16b_X12_isDrawn, g17_X12_isDrawn, g18_X12_isDrawn, show Int.toNat 3 = 3 from rfl, row1, d2']
    rw [ec2, em2]
    by_cases z2 : x % 4 = 2
    · rw [if_pos z2, if_pos z2]
      obtain ⟨P, hP⟩ : ∃ P : Nat, y % m 1 1 3 = (P : Int) := ⟨(y % m 1 1 3).toNat, by omega⟩
      rw [hP]
      obtain ⟨u, v, r, l1, l2, l3⟩ := lvb_x H2 hB E2 (P := P) (by rw [row2m]; omega)
      exact ⟨u, v, r, l1, l2, tr2 l3⟩
    · rw [if_neg z2, if_neg z2]
      obtain ⟨t, ht⟩ : ∃ t, t = Xiushr (nxD (s2 0 0 18)) 16 := ⟨_, rfl⟩
      have ht' : t = Xiushr (nxD (m2 0 0 19)) 16 := by rw [← E2]; exact ht
      have d3 := drC_x s2
      have d3' := drM_x m2 4
      rw [← ht] at d3
      rw [← ht'] at d3'
      obtain ⟨H3, E3⟩ := dr_st H2 E2
      have F3 := drC_f (s := s2)
      have G3 := drM_f (m := m2)
      have row3 : drM m2 1 1 = m2 1 1 := funext fun k => xup_t (by decide)
      generalize drC s2 = s3 at *
      generalize drM m2 = m3 at *
      have row3m : m3 1 1 = m 1 1 := row3.trans row2m
      have pr3 := Int.emod_nonneg t (show (4 : Int) ≠ 0 by decide)
      have pr4 := Int.emod_lt_of_pos t (show (0 : Int) < 4 by decide)
      obtain ⟨u, v, r, l1, l2, l3⟩ := lvg_x H3 hB E3 (p := y % m 1 1 3) (t := t % 4) (by rw [row3m]; omega) ⟨pr3, pr4⟩
      refine ⟨u, v, r, ?_, ?_, tr2 (l3.tr F3 G3 (fun k _ => by rw [row3]))⟩
      · rw [← l1]
        simp only [g20_X11_liveOnce, g22c_X11_liveOnce, g23c_X11_liveOnce, g24b_X11_liveOnce, g25_X11_liveOnce, g26_X11_liveOnce, g27c_X11_liveOnce, d3]
      · rw [← l2]
        simp only [g7_X12_isDrawn, g9c_X12_isDrawn, g10c_X12_isDrawn, g11b_X12_isDrawn, g12_X12_isDrawn, g13_X12_isDrawn, g14c_X12_isDrawn, d3']
