/-! a person, why not, a price, a crossing: both -/
def FmT (v m : XS) : Prop := ∀ t c k, ¬ (t = 1 ∧ c = 5) → ¬ (t = 0 ∧ c = 0 ∧ k = 0) → v t c k = m t c k
theorem FmT.thr {m : XS} : FmT (xup m 0 0 0 0) m := fun t c k _ q => thr_f q
theorem FmT.v5 {v m : XS} (h : FrV5 v (xup m 0 0 0 0)) : FmT v m := fun t c k q1 q2 => (h t c k q1).trans (thr_f q2)
theorem person_x {B : Int} {w h : Nat} {s m : XS} (H : CS B w h s m) {a1 a2 : Int} : (f_X11_person s a1 a2).2 = (f_X12_person m a1 a2).2 ∧ FrA (f_X11_person s a1 a2).1 s ∧ FmT (f_X12_person m a1 a2).1 m := by
  obtain ⟨p1, p2, p3, p4, p5, p6, p7, p8⟩ := H.pl
  have f3 : ∀ k, (xup m 0 0 0 0) 1 1 k = m 1 1 k := fun k => xup_t (by decide)
  have none : ∀ x : Int, ((s, x) : XR).2 = ((xup m 0 0 0 0, x) : XR).2 ∧ FrA s s ∧ FmT (xup m 0 0 0 0) m := fun x => ⟨rfl, FrA.rf, FmT.thr⟩
  have ec : f_X11_person s a1 a2 = if 0 ≤ a1 ∧ a1 < m 1 1 3 then g5s_X11_person s a2 a1 else (s, -8) := by
    simp only [f_X11_person, g1c_X11_person, g2b_X11_person, g3_X11_person, g4_X11_person, ispC_x, ← p1]
    by_cases z : 0 ≤ a1 ∧ a1 < m 1 1 3
    · rw [if_pos z, if_neg (show ¬ (1 : Int) = 0 by decide), if_pos z]
    · rw [if_neg z, if_pos rfl, if_neg z]
  have em : f_X12_person m a1 a2 = if 0 ≤ a1 ∧ a1 < m 1 1 3 then g6s_X12_person (xup m 0 0 0 0) a2 a1 else (xup m 0 0 0 0, -8) := by
    simp only [f_X12_person, g1w_X12_person, g2c_X12_person, g3b_X12_person, g4_X12_person, g5_X12_person, ispM_x, f3]
    by_cases z : 0 ≤ a1 ∧ a1 < m 1 1 3
    · rw [if_pos z, if_neg (show ¬ (1 : Int) = 0 by decide), if_pos z]
    · rw [if_neg z, if_pos rfl, if_neg z]
  rw [ec, em]
  by_cases z : 0 ≤ a1 ∧ a1 < m 1 1 3
  · rw [if_pos z, if_pos z]
    obtain ⟨P, rfl⟩ : ∃ P : Nat, a1 = (P : Int) := ⟨a1.toNat, by omega⟩
    obtain ⟨q1, q2, q3, q4⟩ := p5 P z.2
    have q5 := p6 P (by omega)
    by_cases y : a2 < 0 ∨ 4 < a2
    · have e1 : g5s_X11_person s a2 (P : Int) = (s, -8) := by unfold g5s_X11_person; rw [if_pos y]; rfl
      have e2 : g6s_X12_person (xup m 0 0 0 0) a2 (P : Int) = (xup m 0 0 0 0, -8) := by unfold g6s_X12_person; rw [if_pos y]; rfl
      rw [e1, e2]; exact none _
    · have fin : ∀ (x x' : Int), x = x' → g5s_X11_person s a2 (P : Int) = (s, x) → g6s_X12_person (xup m 0 0 0 0) a2 (P : Int) = (xup m 0 0 0 0, x') → (g5s_X11_person s a2 (P : Int)).2 = (g6s_X12_person (xup m 0 0 0 0) a2 (P : Int)).2 ∧ FrA (g5s_X11_person s a2 (P : Int)).1 s ∧ FmT (g6s_X12_person (xup m 0 0 0 0) a2 (P : Int)).1 m := fun x x' e e1 e2 => by
        rw [e1, e2, e]; exact none _
      rcases (show a2 = 0 ∨ a2 = 1 ∨ a2 = 2 ∨ a2 = 3 ∨ a2 = 4 by omega) with rfl | rfl | rfl | rfl | rfl
      · exact fin _ _ q1 rfl rfl
      · exact fin _ _ q2 rfl rfl
      · exact fin _ _ q3 rfl rfl
      · exact fin _ _ q4 rfl rfl
      · exact fin _ _ q5 rfl rfl
  · rw [if_neg z, if_neg z]; exact none _
theorem why_x {B : Int} {w h : Nat} {s m : XS} (H : CS B w h s m) {a1 a2 : Int} : (f_X11_why s a1 a2).2 = (f_X12_why m a1 a2).2 ∧ FrA (f_X11_why s a1 a2).1 s ∧ FmT (f_X12_why m a1 a2).1 m := by
  have m0r : (xup m 0 0 0 0) 1 1 = m 1 1 := funext fun x => xup_t (by decide)
  obtain ⟨u, v, v', h1, h2, h3, h4, -⟩ := hind_x (m := xup m 0 0 0 0) (H.fr FrA.rf m0r) (p := a1) (q := a1) (t := a2) (r := a2) ⟨fun _ => rfl, fun q => by rw [m0r] at q ⊢; exact q⟩ ⟨fun _ => rfl, fun q => q⟩
  simp only [f_X11_why, g1c_X11_why, f_X12_why, g1w_X12_why, g2c_X12_why, h1, h2]
  exact ⟨trivial, h3, FmT.v5 h4⟩
theorem price_x {B : Int} {w h : Nat} {s m : XS} (H : CS B w h s m) {a1 a2 a3 : Int} : (f_X11_price s a1 a2 a3).2 = (f_X12_price m a1 a2 a3).2 ∧ FrA (f_X11_price s a1 a2 a3).1 s ∧ FmT (f_X12_price m a1 a2 a3).1 m := by
  obtain ⟨p1, p2, p3, p4, p5, p6, p7, p8⟩ := H.pl
  obtain ⟨b1, b2, b3, b4, b5⟩ := H.bd
  obtain ⟨n1, n2⟩ := H.who
  have b25 := H.1.b25
  have m0r : (xup m 0 0 0 0) 1 1 = m 1 1 := funext fun x => xup_t (by decide)
  have f3 : ∀ k, (xup m 0 0 0 0) 1 1 k = m 1 1 k := fun k => xup_t (by decide)
  have none : ∀ x : Int, ((s, x) : XR).2 = ((xup m 0 0 0 0, x) : XR).2 ∧ FrA s s ∧ FmT (xup m 0 0 0 0) m := fun x => ⟨rfl, FrA.rf, FmT.thr⟩
  have ec : f_X11_price s a1 a2 a3 = if (0 ≤ a1 ∧ a1 < s 0 1 5 * s 0 1 6) ∧ (0 ≤ a2 ∧ a2 < 4) then (if a3 < 0 then (s, -3) else if 999 < a3 then (s, -3) else g9_X11_price s a1 a2 a3) else (s, -2) := by
    simp only [f_X11_price, g1c_X11_price, g2b_X11_price, g3_X11_price, g4_X11_price, g5b_X11_price, g6_X11_price, g7_X11_price, g8b_X11_price, g10_X11_price, issC_x]
    by_cases z : (0 ≤ a1 ∧ a1 < s 0 1 5 * s 0 1 6) ∧ (0 ≤ a2 ∧ a2 < 4)
    · rw [if_pos z, if_neg (show ¬ (1 : Int) = 0 by decide), if_pos z]
    · rw [if_neg z, if_pos rfl, if_neg z]
  have em : f_X12_price m a1 a2 a3 = if (0 ≤ a1 ∧ a1 ≤ m 1 1 1 * m 1 1 2 - 1) ∧ (0 ≤ a2 ∧ a2 ≤ 3) then (if 0 ≤ a3 ∧ a3 ≤ 999 then g13_X12_price (xup m 0 0 0 0) a1 a2 a3 else (xup m 0 0 0 0, -3)) else (xup m 0 0 0 0, -2) := by
    simp only [f_X12_price, g1w_X12_price, g2c_X12_price, g3b_X12_price, g4_X12_price, g5_X12_price, g6c_X12_price, g7b_X12_price, g8_X12_price, g9_X12_price, g10c_X12_price, g11b_X12_price, g12_X12_price, iscM_x, isdM_x, within_x, f3]
    by_cases z1 : 0 ≤ a1 ∧ a1 ≤ m 1 1 1 * m 1 1 2 - 1
    · rw [if_pos z1, if_neg (show ¬ (1 : Int) = 0 by decide)]
      by_cases z2 : 0 ≤ a2 ∧ a2 ≤ 3
      · rw [if_pos z2, if_neg (show ¬ (1 : Int) = 0 by decide), if_pos (show (0 ≤ a1 ∧ a1 ≤ m 1 1 1 * m 1 1 2 - 1) ∧ (0 ≤ a2 ∧ a2 ≤ 3) from ⟨z1, z2⟩)]
        by_cases x : 0 ≤ a3 ∧ a3 ≤ 999
        · rw [if_pos x, if_neg (show ¬ (1 : Int) = 0 by decide), if_pos x]
        · rw [if_neg x, if_pos rfl, if_neg x]
      · rw [if_neg z2, if_pos rfl, if_neg (show ¬ ((0 ≤ a1 ∧ a1 ≤ m 1 1 1 * m 1 1 2 - 1) ∧ (0 ≤ a2 ∧ a2 ≤ 3)) from fun q => z2 q.2)]
    · rw [if_neg z1, if_pos rfl, if_neg (show ¬ ((0 ≤ a1 ∧ a1 ≤ m 1 1 1 * m 1 1 2 - 1) ∧ (0 ≤ a2 ∧ a2 ≤ 3)) from fun q => z1 q.1)]
  rw [ec, em, n1, n2]
  by_cases z : (0 ≤ a1 ∧ a1 < ((w * h : Nat) : Int)) ∧ (0 ≤ a2 ∧ a2 < 4)
  · rw [if_pos z, if_pos (show (0 ≤ a1 ∧ a1 ≤ ((w * h : Nat) : Int) - 1) ∧ (0 ≤ a2 ∧ a2 ≤ 3) from ⟨⟨z.1.1, by have := z.1.2; omega⟩, z.2.1, by have := z.2.2; omega⟩)]
    by_cases x : 0 ≤ a3 ∧ a3 ≤ 999
    · rw [if_neg (show ¬ a3 < 0 by omega), if_neg (show ¬ 999 < a3 by omega), if_pos x]
      obtain ⟨c, rfl⟩ : ∃ c : Nat, a1 = (c : Int) := ⟨a1.toNat, by omega⟩
      have L := H.ld (show 0 < w * h by omega)
      have hs := (b3 c (by omega)).1
      obtain ⟨u, v, v', e1, e2, -, -, e5, e6, -⟩ := cost_x (m := xup m 0 0 0 0) (s := s) (w := w) (h := h) (by rw [m0r]; exact L) (by rw [m0r]; exact H.2.1) H.2.2.1 (c := c) (by omega) (by rw [f3]; unfold rgI; omega) (hr := a3) (d := a2) (hC' := Xiadd (s 0 10 8) a3) (sold := s 1 16 c) (by unfold rgI; omega) (by rw [f3, p4]) (by rw [f3]; exact (p7 c (by omega)).1)
      simp only [g9_X11_price, g11c_X11_price, g13_X12_price, g14c_X12_price, Int.toNat_natCast, e1, e2]
      exact ⟨trivial, e5.a2, FmT.v5 e6⟩
    · rw [if_neg x]
      by_cases x1 : a3 < 0
      · rw [if_pos x1]; exact none _
      · rw [if_neg x1, if_pos (show 999 < a3 by omega)]; exact none _
  · rw [if_neg z, if_neg (fun q => z ⟨⟨q.1.1, by have := q.1.2; omega⟩, q.2.1, by have := q.2.2; omega⟩)]; exact none _
/-- how many streets go from a crossing, both -/
def stN (A : Nat → Int) (c d : Nat) : Int := if sF A c d = -1 then 0 else 1
theorem sfC_x {s : XS} {A : Nat → Int} {w h : Nat} (L : Ld s A w h) {c : Nat} (hc : c < w * h) : f_X0_streetsFrom s 1 (c : Int) = (s, stN A c 0 + stN A c 1 + stN A c 2 + stN A c 3) := by
  have b25 := L.b25
  have bit : ∀ d, d < 4 → Xiand (Xishr (s 1 18 d) (c : Int)) 1 = stN A c d := fun d hd => by
    rw [bz_tst (by omega)]
    unfold stN
    by_cases z : sF A c d = -1
    · rw [if_pos z, if_neg (fun q => (L.2.2.1 c d hc hd).mp q z)]
    · rw [if_neg z, if_pos ((L.2.2.1 c d hc hd).mpr z)]
  have r : ∀ d, stN A c d = 0 ∨ stN A c d = 1 := fun d => by
    unfold stN
    by_cases z : sF A c d = -1
    · rw [if_pos z]; exact Or.inl rfl
    · rw [if_neg z]; exact Or.inr rfl
  have r0 := r 0
  have r1 := r 1
  have r2 := r 2
  have r3 := r 3
  have go : ∀ (n x : Nat) (v : Int), x < 4 → L1_X0_streetsFrom (n + 1) s 1 (c : Int) v (x : Int) = L1_X0_streetsFrom n s 1 (c : Int) (Xiadd v (stN A c x)) ((x + 1 : Nat) : Int) := fun n x v hx => by
    show g2l_X0_streetsFrom (L1_X0_streetsFrom n) s 1 (c : Int) v (x : Int) = _
    simp only [g2l_X0_streetsFrom, g3b_X0_streetsFrom, g5_X0_streetsFrom, Int.toNat_natCast, show 1 + 17 = 18 from rfl, bit x hx]
    rw [if_pos (show (x : Int) < 4 by omega)]
    rfl
  have ad : ∀ x y : Int, 0 ≤ x → x ≤ 3 → (y = 0 ∨ y = 1) → Xiadd x y = x + y := fun x y h1 h2 h3 => iadd_v (by unfold rgI; omega)
  show L1_X0_streetsFrom (4 + 1) s 1 (c : Int) 0 ((0 : Nat) : Int) = _
  rw [go 4 0 _ (by decide), ad _ _ (by omega) (by omega) r0, go 3 1 _ (by decide), ad _ _ (by omega) (by omega) r1, go 2 2 _ (by decide), ad _ _ (by omega) (by omega) r2, go 1 3 _ (by decide), ad _ _ (by omega) (by omega) r3]
  show g2l_X0_streetsFrom (L1_X0_streetsFrom 0) s 1 (c : Int) _ ((4 : Nat) : Int) = _
  simp only [g2l_X0_streetsFrom, g3b_X0_streetsFrom, g4_X0_streetsFrom]
  rw [if_neg (by decide), Int.zero_add]
theorem sfM_x {s m : XS} {w h : Nat} (L : Ld s (m 1 1) w h) {c : Nat} (hc : c < w * h) : f_X12_streetsFrom m (c : Int) = (m, stN (m 1 1) c 0 + stN (m 1 1) c 1 + stN (m 1 1) c 2 + stN (m 1 1) c 3) := by
  have r : ∀ d, stN (m 1 1) c d = 0 ∨ stN (m 1 1) c d = 1 := fun d => by
    unfold stN
    by_cases z : sF (m 1 1) c d = -1
    · rw [if_pos z]; exact Or.inl rfl
    · rw [if_neg z]; exact Or.inr rfl
  have r0 := r 0
  have r1 := r 1
  have r2 := r 2
  have r3 := r 3
  have go : ∀ (n x : Nat) (v : Int), x < 4 → 0 ≤ v → v ≤ 3 → L1_X12_streetsFrom (n + 1) m (c : Int) v (x : Int) = L1_X12_streetsFrom n m (c : Int) (v + stN (m 1 1) c x) ((x + 1 : Nat) : Int) := fun n x v hx h1 h2 => by
    show g2l_X12_streetsFrom (L1_X12_streetsFrom n) m (c : Int) v (x : Int) = _
    simp only [g2l_X12_streetsFrom, g3b_X12_streetsFrom, g5_X12_streetsFrom, g6c_X12_streetsFrom, g7b_X12_streetsFrom, g8_X12_streetsFrom, g9_X12_streetsFrom, stF_x L hc hx]
    rw [if_pos (show (x : Int) < 4 by omega)]
    unfold stN
    by_cases z : sF (m 1 1) c x = -1
    · rw [if_pos z, if_pos z]; rfl
    · rw [if_neg z, if_neg z, iadd_v (by unfold rgI; omega)]; rfl
  show L1_X12_streetsFrom (4 + 1) m (c : Int) 0 ((0 : Nat) : Int) = _
  rw [go 4 0 _ (by decide) (by omega) (by omega), go 3 1 _ (by decide) (by omega) (by omega), go 2 2 _ (by decide) (by omega) (by omega), go 1 3 _ (by decide) (by omega) (by omega)]
  show g2l_X12_streetsFrom (L1_X12_streetsFrom 0) m (c : Int) _ ((4 : Nat) : Int) = _
  simp only [g2l_X12_streetsFrom, g3b_X12_streetsFrom, g4_X12_streetsFrom]
  rw [if_neg (by decide), Int.zero_add]
theorem crossing_x {B : Int} {w h : Nat} {s m : XS} (H : CS B w h s m) {a1 a2 : Int} : (f_X11_crossing s a1 a2).2 = (f_X12_crossing m a1 a2).2 ∧ FrA (f_X11_crossing s a1 a2).1 s ∧ FmT (f_X12_crossing m a1 a2).1 m := by
  obtain ⟨p1, p2, p3, p4, p5, p6, p7, p8⟩ := H.pl
  obtain ⟨b1, b2, b3, b4, b5⟩ := H.bd
  obtain ⟨n1, n2⟩ := H.who
  have b25 := H.1.b25
  have r10 := H.2.2.2.2.2.1
  obtain ⟨m0, hm0⟩ : ∃ m0, m0 = xup m 0 0 0 0 := ⟨_, rfl⟩
  have m0r : m0 1 1 = m 1 1 := by rw [hm0]; exact funext fun x => xup_t (by decide)
  have f3 : ∀ k, m0 1 1 k = m 1 1 k := fun k => by rw [m0r]
  have fth : FmT m0 m := by rw [hm0]; exact FmT.thr
  have fv5 : ∀ v, FrV5 v m0 → FmT v m := fun v q => FmT.v5 (by rw [← hm0]; exact q)
  have none : ∀ x : Int, ((s, x) : XR).2 = ((m0, x) : XR).2 ∧ FrA s s ∧ FmT m0 m := fun x => ⟨rfl, FrA.rf, fth⟩
  have ec : f_X11_crossing s a1 a2 = if 0 ≤ a1 ∧ a1 < s 0 1 5 * s 0 1 6 then g5s_X11_crossing s a2 a1 else (s, -2) := by
    simp only [f_X11_crossing, g1c_X11_crossing, g2b_X11_crossing, g3_X11_crossing, g4_X11_crossing, iscC_x]
    by_cases z : 0 ≤ a1 ∧ a1 < s 0 1 5 * s 0 1 6
    · rw [if_pos z, if_neg (show ¬ (1 : Int) = 0 by decide), if_pos z]
    · rw [if_neg z, if_pos rfl, if_neg z]
  have em : f_X12_crossing m a1 a2 = if 0 ≤ a1 ∧ a1 ≤ m 1 1 1 * m 1 1 2 - 1 then g6s_X12_crossing m0 a2 a1 else (m0, -2) := by
    simp only [f_X12_crossing, g1w_X12_crossing, g2c_X12_crossing, g3b_X12_crossing, g4_X12_crossing, g5_X12_crossing, iscM_x, ← hm0, f3]
    by_cases z : 0 ≤ a1 ∧ a1 ≤ m 1 1 1 * m 1 1 2 - 1
    · rw [if_pos z, if_neg (show ¬ (1 : Int) = 0 by decide), if_pos z]
    · rw [if_neg z, if_pos rfl, if_neg z]
  rw [ec, em, n1, n2]
  by_cases z : 0 ≤ a1 ∧ a1 < ((w * h : Nat) : Int)
  · rw [if_pos z, if_pos (show 0 ≤ a1 ∧ a1 ≤ ((w * h : Nat) : Int) - 1 by omega)]
    obtain ⟨c, rfl⟩ : ∃ c : Nat, a1 = (c : Int) := ⟨a1.toNat, by omega⟩
    have L := H.ld (show 0 < w * h by omega)
    have hs := (b3 c (by omega)).1
    have hf := (b3 c (by omega)).2
    obtain ⟨k1, k2⟩ := p7 c (by omega)
    by_cases y : a2 < 0 ∨ 4 < a2
    · have e1 : g5s_X11_crossing s a2 (c : Int) = (s, -2) := by unfold g5s_X11_crossing; rw [if_pos y]; rfl
      have e2 : g6s_X12_crossing m0 a2 (c : Int) = (m0, -2) := by unfold g6s_X12_crossing; rw [if_pos y]; rfl
      rw [e1, e2]; exact none _
    · have fin : ∀ (u v : XS) (x x' : Int), x = x' → FrA u s → FmT v m → g5s_X11_crossing s a2 (c : Int) = (u, x) → g6s_X12_crossing m0 a2 (c : Int) = (v, x') → (g5s_X11_crossing s a2 (c : Int)).2 = (g6s_X12_crossing m0 a2 (c : Int)).2 ∧ FrA (g5s_X11_crossing s a2 (c : Int)).1 s ∧ FmT (g6s_X12_crossing m0 a2 (c : Int)).1 m := fun u v x x' e q1 q2 e1 e2 => by
        rw [e1, e2, e]; exact ⟨rfl, q1, q2⟩
      rcases (show a2 = 0 ∨ a2 = 1 ∨ a2 = 2 ∨ a2 = 3 ∨ a2 = 4 by omega) with rfl | rfl | rfl | rfl | rfl
      · obtain ⟨u, v, v', e1, e2, -, -, e5, e6, -⟩ := cost_x (m := m0) (s := s) (w := w) (h := h) (by rw [m0r]; exact L) (by rw [m0r]; exact H.2.1) H.2.2.1 (c := c) (by omega) (by rw [f3]; unfold rgI; omega) (hr := 0) (d := 0) (hC' := s 0 10 8) (sold := s 1 16 c) (by unfold rgI; omega) (by rw [f3, xadd0 (by unfold rgI; omega), p4]) (by rw [f3]; exact k1)
        refine fin u v' v v rfl e5.a2 (fv5 _ e6) ?_ ?_
        · show g7_X11_crossing s (c : Int) = _
          simp only [g7_X11_crossing, g8c_X11_crossing, Int.toNat_natCast, e1]
        · show g8_X12_crossing m0 (c : Int) = _
          simp only [g8_X12_crossing, g9c_X12_crossing, e2]
      · refine fin s m0 (s 1 16 c) (m 1 1 (61 + c)) k1 FrA.rf fth rfl ?_
        show (m0, m0 1 1 (Int.toNat (61 + (c : Int)))) = _
        rw [f3, show Int.toNat (61 + (c : Int)) = 61 + c by omega]
      · obtain ⟨f1, f2, -⟩ := free_x s 1 (s 0 10 8)
        have bc := f2 c (by omega)
        have e : bz (f_X0_freeBits s 1 (s 0 10 8)).2 c = true ↔ frQ (m 1 1) c 0 := by
          rw [bc]
          unfold frQ
          rw [p8, ← p4, show 1 + 9 + 7 = 17 from rfl, k2, Int.add_zero]
          exact ⟨fun q => q.elim Or.inl (fun y => Or.inr y.2), fun q => q.elim Or.inl (fun y => Or.inr ⟨by omega, y⟩)⟩
        refine fin s m0 (@ite Int (frQ (m 1 1) c 0) (Classical.propDecidable _) 1 0) (@ite Int (frQ (m 1 1) c 0) (Classical.propDecidable _) 1 0) rfl FrA.rf fth ?_ ?_
        · show g10_X11_crossing s (c : Int) = _
          simp only [g10_X11_crossing, g11c_X11_crossing, f1, bz_tst (show c < 32 by omega)]
          by_cases q : frQ (m 1 1) c 0
          · rw [if_pos (e.mpr q), if_pos q]
          · rw [if_neg (fun x => q (e.mp x)), if_neg q]
        · show g11_X12_crossing m0 (c : Int) = _
          have fm := freeM_x (m := m0) (c := c) (hr := 0) (by omega) (by rw [f3]; exact r10) (by rw [f3]; unfold rgI; omega)
          rw [m0r] at fm
          simp only [g11_X12_crossing, g12c_X12_crossing, g13b_X12_crossing, g14_X12_crossing, g15_X12_crossing, fm]
          by_cases q : frQ (m 1 1) c 0
          · rw [if_pos q, if_neg (show ¬ (1 : Int) = 0 by decide)]
          · rw [if_neg q, if_pos rfl]
      · refine fin s m0 (max 0 (Xisub (s 1 17 c) (s 0 10 8))) (if m 1 1 111 < m 1 1 (86 + c) then Xisub (m 1 1 (86 + c)) (m 1 1 111) else 0) ?_ FrA.rf fth rfl ?_
        · rw [k2, ← p4, isub_v (by unfold rgI; omega)]
          by_cases q : m 1 1 111 < m 1 1 (86 + c)
          · rw [if_pos q]; omega
          · rw [if_neg q]; omega
        · show g16_X12_crossing m0 (c : Int) = _
          simp only [g16_X12_crossing, g17b_X12_crossing, g18_X12_crossing, g19_X12_crossing, f3, show Int.toNat (86 + (c : Int)) = 86 + c by omega, show Int.toNat 111 = 111 from rfl]
          by_cases q : m 1 1 111 < m 1 1 (86 + c)
          · rw [if_pos q, if_pos q]
          · rw [if_neg q, if_neg q]
      · have Lm : Ld s (m0 1 1) w h := by rw [m0r]; exact L
        have sm := sfM_x (m := m0) Lm (c := c) (by omega)
        rw [m0r] at sm
        refine fin s m0 (stN (m 1 1) c 0 + stN (m 1 1) c 1 + stN (m 1 1) c 2 + stN (m 1 1) c 3) (stN (m 1 1) c 0 + stN (m 1 1) c 1 + stN (m 1 1) c 2 + stN (m 1 1) c 3) rfl FrA.rf fth ?_ ?_
        · show g13_X11_crossing s (c : Int) = _
          simp only [g13_X11_crossing, g14c_X11_crossing, sfC_x L (show c < w * h by omega)]
        · show g20_X12_crossing m0 (c : Int) = _
          simp only [g20_X12_crossing, g21c_X12_crossing, sm]
  · rw [if_neg z, if_neg (show ¬ (0 ≤ a1 ∧ a1 ≤ ((w * h : Nat) : Int) - 1) by omega)]; exact none _
