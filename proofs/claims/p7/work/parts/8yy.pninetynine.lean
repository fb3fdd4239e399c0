/-! corners, envelopes: the class leaves all right; the reference's corner -/
theorem VS.streets {B : Int} {w h : Nat} {m s0 s : XS} {c0 d0 k c n' : Nat} {more : Int} (H : VS B w h m s0 s) (hc0 : c0 < w * h) (hd0 : d0 < 4) (hk : k ≤ 120) (hc : c < w * h) (hn : n' ≤ 60) : VS B w h m s0 (f_X8_fewestStreets s ((4 * c0 + d0 : Nat) : Int) (c : Int) (k : Int) (n' : Int) more).1 := by
  obtain ⟨⟨C, V, F⟩, Sq⟩ := H
  obtain ⟨u, r, u1, u2, u3, u4, -⟩ := fewestStreets_s C (C.ld (show 0 < w * h by omega)) V Sq hc0 hd0 hk hc hn (mo := fun c => bz more c = true) (more := more) (fun _ _ => Iff.rfl)
  rw [u1]
  exact ⟨⟨u3.cs C, u2, u3.q.p.tr F⟩, u4⟩
theorem VS.lfts {B : Int} {w h : Nat} {m s0 s : XS} {c0 d0 c n' : Nat} {more : Int} (H : VS B w h m s0 s) (hc0 : c0 < w * h) (hd0 : d0 < 4) (hc : c < w * h) (hn : n' ≤ 60) : VS B w h m s0 (f_X8_fewestLefts s ((4 * c0 + d0 : Nat) : Int) 0 (c : Int) (n' : Int) more).1 := by
  obtain ⟨⟨C, V, F⟩, Sq⟩ := H
  obtain ⟨u, r, u1, u2, u3, u4, -⟩ := fewestLefts_s C (C.ld (show 0 < w * h by omega)) V Sq (t0 := 0) hc0 hd0 hc hn (by omega) (mo := fun c => bz more c = true) (more := more) (fun _ _ => Iff.rfl)
  have u1' : f_X8_fewestLefts s ((4 * c0 + d0 : Nat) : Int) 0 (c : Int) (n' : Int) more = (u, r) := u1
  rw [u1']
  exact ⟨⟨u3.cs C, u2, u3.q.p.tr F⟩, u4⟩
theorem VS.corners {B : Int} {w h : Nat} {m s0 s : XS} {c0 d0 c n' : Nat} (H : VS B w h m s0 s) (hc0 : c0 < w * h) (hd0 : d0 < 4) (hc : c < w * h) (hn : n' ≤ 60) : VS B w h m s0 (f_X8_cornersToFree s ((4 * c0 + d0 : Nat) : Int) (c : Int) (n' : Int)).1 := by
  have st : ∀ (s : XS) (more : Int), VS B w h m s0 s → VS B w h m s0 (f_X8_fewestStreets s ((4 * c0 + d0 : Nat) : Int) (c : Int) 0 (n' : Int) more).1 := fun s more H => H.streets (k := 0) hc0 hd0 (by decide) hc hn
  have l15 : ∀ (n : Nat) (s : XS) (r x : Int), VS B w h m s0 s → VS B w h m s0 (L15_X8_cornersToFree n s ((4 * c0 + d0 : Nat) : Int) (c : Int) (n' : Int) r x).1 := by
    intro n
    induction n with
    | zero => intro s r x H; exact H
    | succ n ih =>
      have l20 : ∀ (k : Nat) (s : XS) (r x y : Int), VS B w h m s0 s → VS B w h m s0 (L20_X8_cornersToFree (L15_X8_cornersToFree n) k s ((4 * c0 + d0 : Nat) : Int) (c : Int) (n' : Int) r x y).1 := by
        intro k
        induction k with
        | zero => intro s r x y H; exact H
        | succ k ih2 =>
          intro s r x y H
          show VS B w h m s0 (g21l_X8_cornersToFree (L15_X8_cornersToFree n) (L20_X8_cornersToFree (L15_X8_cornersToFree n) k) s ((4 * c0 + d0 : Nat) : Int) (c : Int) (n' : Int) r x y).1
          simp only [g21l_X8_cornersToFree, g22b_X8_cornersToFree, g23_X8_cornersToFree, g24_X8_cornersToFree, g25c_X8_cornersToFree, g26b_X8_cornersToFree, g27_X8_cornersToFree, g28_X8_cornersToFree]
          exact ite_v (fun _ => ite_v (fun _ => ih2 _ _ _ _ (st _ _ H)) (fun _ => st _ _ H)) (fun _ => ih _ _ _ H)
      intro s r x H
      show VS B w h m s0 (g16l_X8_cornersToFree (L15_X8_cornersToFree n) s ((4 * c0 + d0 : Nat) : Int) (c : Int) (n' : Int) r x).1
      simp only [g16l_X8_cornersToFree, g17b_X8_cornersToFree, g18_X8_cornersToFree, g19_X8_cornersToFree]
      exact ite_v (fun _ => l20 _ _ _ _ _ H) (fun _ => H)
  have l10 : ∀ (n : Nat) (s : XS) (r x : Int), VS B w h m s0 s → VS B w h m s0 (L10_X8_cornersToFree n s ((4 * c0 + d0 : Nat) : Int) (c : Int) (n' : Int) r x).1 := by
    intro n
    induction n with
    | zero => intro s r x H; exact H
    | succ n ih =>
      intro s r x H
      show VS B w h m s0 (g11l_X8_cornersToFree (L10_X8_cornersToFree n) s ((4 * c0 + d0 : Nat) : Int) (c : Int) (n' : Int) r x).1
      simp only [g11l_X8_cornersToFree, g12b_X8_cornersToFree, g13_X8_cornersToFree, g14_X8_cornersToFree, g29c_X8_cornersToFree, g30b_X8_cornersToFree, g31_X8_cornersToFree, g32_X8_cornersToFree]
      exact ite_v (fun _ => ite_v (fun _ => ih _ _ _ (st _ _ H)) (fun _ => st _ _ H)) (fun _ => l15 _ _ _ _ H)
  simp only [f_X8_cornersToFree, g1c_X8_cornersToFree, g2c_X8_cornersToFree, g3b_X8_cornersToFree, g4_X8_cornersToFree, g5_X8_cornersToFree, g6c_X8_cornersToFree, g7b_X8_cornersToFree, g8_X8_cornersToFree, g9_X8_cornersToFree, crC_x H.1.1]
  exact ite_v (fun _ => ite_v (fun _ => st _ _ (st _ _ H)) (fun _ => l10 _ _ _ _ (st _ _ (st _ _ H)))) (fun _ => st _ _ H)
theorem VS.makeFree {B : Int} {w h : Nat} {m s0 s : XS} {a1 a2 a3 a4 : Int} (H : VS B w h m s0 s) : VS B w h m s0 (f_X11_makeFree s a1 a2 a3 a4).1 := by
  by_cases z : 0 ≤ a1 ∧ a1 < s 0 10 7
  · by_cases y : 0 ≤ a2 ∧ a2 < s 0 1 5 * s 0 1 6
    · obtain ⟨c0, d0, c1, d1, est⟩ := H.1.1.sta z
      have y' := y
      rw [H.1.1.who.1] at y'
      obtain ⟨c, rfl⟩ : ∃ c : Nat, a2 = (c : Int) := ⟨a2.toNat, by omega⟩
      simp only [f_X11_makeFree, g1c_X11_makeFree, g2b_X11_makeFree, g3_X11_makeFree, g4_X11_makeFree, g5c_X11_makeFree, g6b_X11_makeFree, g7_X11_makeFree, g8_X11_makeFree, g9b_X11_makeFree, g10_X11_makeFree, g11_X11_makeFree, g12b_X11_makeFree, g13_X11_makeFree, g14_X11_makeFree, g15b_X11_makeFree, g16_X11_makeFree, g17_X11_makeFree, g18b_X11_makeFree, g19_X11_makeFree, g20_X11_makeFree, g21c_X11_makeFree, g22c_X11_makeFree, g23b_X11_makeFree, g24_X11_makeFree, g25_X11_makeFree, g26b_X11_makeFree, g27_X11_makeFree, g28_X11_makeFree, g29c_X11_makeFree, ispC_x, iscC_x, if_pos z, if_pos y, n10, if_false, f_X1_stand, est, bc_p]
      have fin : ¬ a3 < 0 → ¬ 20 < a3 → VS B w h m s0 (f_X8_cornersToFree s ((4 * c0 + d0 : Nat) : Int) (c : Int) a3).1 := fun q1 q2 => by
        obtain ⟨k, rfl⟩ : ∃ k : Nat, a3 = (k : Int) := ⟨a3.toNat, by omega⟩
        exact H.corners c1 d1 (by omega) (by omega)
      exact ite_v (fun _ => H) (fun _ => ite_v (fun _ => H) (fun _ => ite_v (fun _ => H) (fun q1 => ite_v (fun _ => H) (fun q2 => ite_v (fun _ => fin q1 q2) (fun _ => ite_v (fun _ => fin q1 q2) (fun _ => fin q1 q2))))))
    · simp only [f_X11_makeFree, g1c_X11_makeFree, g2b_X11_makeFree, g3_X11_makeFree, g4_X11_makeFree, g5c_X11_makeFree, g6b_X11_makeFree, g7_X11_makeFree, g8_X11_makeFree, g9b_X11_makeFree, g10_X11_makeFree, g11_X11_makeFree, g12b_X11_makeFree, g13_X11_makeFree, g14_X11_makeFree, g15b_X11_makeFree, g16_X11_makeFree, g17_X11_makeFree, g18b_X11_makeFree, g19_X11_makeFree, g20_X11_makeFree, g21c_X11_makeFree, g22c_X11_makeFree, g23b_X11_makeFree, g24_X11_makeFree, g25_X11_makeFree, g26b_X11_makeFree, g27_X11_makeFree, g28_X11_makeFree, g29c_X11_makeFree, ispC_x, iscC_x, if_pos z, if_neg y, n10, if_false, if_true]
      exact H
  · simp only [f_X11_makeFree, g1c_X11_makeFree, g2b_X11_makeFree, g3_X11_makeFree, g4_X11_makeFree, g5c_X11_makeFree, g6b_X11_makeFree, g7_X11_makeFree, g8_X11_makeFree, g9b_X11_makeFree, g10_X11_makeFree, g11_X11_makeFree, g12b_X11_makeFree, g13_X11_makeFree, g14_X11_makeFree, g15b_X11_makeFree, g16_X11_makeFree, g17_X11_makeFree, g18b_X11_makeFree, g19_X11_makeFree, g20_X11_makeFree, g21c_X11_makeFree, g22c_X11_makeFree, g23b_X11_makeFree, g24_X11_makeFree, g25_X11_makeFree, g26b_X11_makeFree, g27_X11_makeFree, g28_X11_makeFree, g29c_X11_makeFree, ispC_x, if_neg z, if_true]
    exact H
theorem RK_makeFree {N : Int} (h0 : 1000 ≤ N ∧ N ≤ 800000) {s m : XS} {a1 a2 a3 a4 : Int} (h : RA N s m) : RA (N + 120) (f_X11_makeFree s a1 a2 a3 a4).1 (f_X12_makeFree m a1 a2 a3 a4).1 := by
  obtain ⟨w, hh, H⟩ := h
  have V : VS N w hh m s (f_X11_makeFree s a1 a2 a3 a4).1 := VS.makeFree ⟨VQ.st H.2.1 H.2.2.2.2.2.1, H.1.2⟩
  have G : KP PM9 (f_X12_makeFree m a1 a2 a3 a4).1 m := m9_f_X12_makeFree
  exact ⟨w, hh, (H.way V.1.2.2.w (fun t c k q => G t c k (by unfold PM9; omega)) V.2 V.1.2.1 (fun t ht => (H.2.2.2.2.1 t ht).fr ht (fun T c k _ _ => V.1.2.2 _ _ _ (by omega) (by omega)) (fun k => G _ _ _ (by unfold PM9; omega)) (fun k => G _ _ _ (by unfold PM9; omega)) (fun k => G _ _ _ (by unfold PM9; omega)))).le (by omega) (by omega)⟩
/-- the best corner -/
theorem VS.best {B : Int} {w h : Nat} {m s0 s : XS} {a1 a2 a3 : Int} (H : VS B w h m s0 s) : VS B w h m s0 (f_X11_bestCorner s a1 a2 a3).1 := by
  by_cases z : 0 ≤ a1 ∧ a1 < s 0 10 7
  · by_cases y : 0 ≤ a2 ∧ a2 < s 0 1 5 * s 0 1 6
    · obtain ⟨c0, d0, c1, d1, est⟩ := H.1.1.sta z
      have y' := y
      rw [H.1.1.who.1] at y'
      obtain ⟨c, rfl⟩ : ∃ c : Nat, a2 = (c : Int) := ⟨a2.toNat, by omega⟩
      have fin : ¬ a3 < 0 → ¬ 30 < a3 → VS B w h m s0 (g15c_X11_bestCorner s ((4 * c0 + d0 : Nat) : Int) (c : Int) a3).1 := fun q1 q2 => by
        obtain ⟨k, rfl⟩ : ∃ k : Nat, a3 = (k : Int) := ⟨a3.toNat, by omega⟩
        have st : ∀ (s : XS) (more : Int), VS B w h m s0 s → VS B w h m s0 (f_X8_fewestLefts s ((4 * c0 + d0 : Nat) : Int) 0 (c : Int) (k : Int) more).1 := fun s more H => H.lfts c1 d1 (by omega) (by omega)
        have l17 : ∀ (n : Nat) (s : XS) (x5 x6 x7 : Int), VS B w h m s0 s → VS B w h m s0 (L17_X11_bestCorner n s (c : Int) (k : Int) ((4 * c0 + d0 : Nat) : Int) x5 x6 x7).1 := by
          intro n
          induction n with
          | zero => intro s x5 x6 x7 H; exact H
          | succ n ih =>
            intro s x5 x6 x7 H
            show VS B w h m s0 (g18l_X11_bestCorner (L17_X11_bestCorner n) s (c : Int) (k : Int) ((4 * c0 + d0 : Nat) : Int) x5 x6 x7).1
            simp only [g18l_X11_bestCorner, g19c_X11_bestCorner, g20b_X11_bestCorner, g21_X11_bestCorner, g22_X11_bestCorner, g23b_X11_bestCorner, g24_X11_bestCorner, g25_X11_bestCorner, g26c_X11_bestCorner, g27b_X11_bestCorner, g28_X11_bestCorner, g29_X11_bestCorner, crC_x H.1.1]
            exact ite_v (fun _ => ite_v (fun _ => ite_v (fun _ => ih _ _ _ _ (st _ _ H)) (fun _ => ih _ _ _ _ (st _ _ H))) (fun _ => H)) (fun _ => H)
        simp only [g15c_X11_bestCorner, g16c_X11_bestCorner]
        exact l17 _ _ _ _ _ (st _ _ H)
      simp only [f_X11_bestCorner, g1c_X11_bestCorner, g2b_X11_bestCorner, g3_X11_bestCorner, g4_X11_bestCorner, g5c_X11_bestCorner, g6b_X11_bestCorner, g7_X11_bestCorner, g8_X11_bestCorner, g9b_X11_bestCorner, g10_X11_bestCorner, g11_X11_bestCorner, g12b_X11_bestCorner, g13_X11_bestCorner, g14_X11_bestCorner, ispC_x, iscC_x, if_pos z, if_pos y, n10, if_false, f_X1_stand, est]
      exact ite_v (fun _ => H) (fun q1 => ite_v (fun _ => H) (fun q2 => fin q1 q2))
    · simp only [f_X11_bestCorner, g1c_X11_bestCorner, g2b_X11_bestCorner, g3_X11_bestCorner, g4_X11_bestCorner, g5c_X11_bestCorner, g6b_X11_bestCorner, g7_X11_bestCorner, g8_X11_bestCorner, g9b_X11_bestCorner, g10_X11_bestCorner, g11_X11_bestCorner, g12b_X11_bestCorner, g13_X11_bestCorner, g14_X11_bestCorner, g15c_X11_bestCorner, g16c_X11_bestCorner, g18l_X11_bestCorner, g19c_X11_bestCorner, g20b_X11_bestCorner, g21_X11_bestCorner, g22_X11_bestCorner, g23b_X11_bestCorner, g24_X11_bestCorner, g25_X11_bestCorner, g26c_X11_bestCorner, g27b_X11_bestCorner, g28_X11_bestCorner, g29_X11_bestCorner, ispC_x, iscC_x, if_pos z, if_neg y, n10, if_false, if_true]
      exact H
  · simp only [f_X11_bestCorner, g1c_X11_bestCorner, g2b_X11_bestCorner, g3_X11_bestCorner, g4_X11_bestCorner, g5c_X11_bestCorner, g6b_X11_bestCorner, g7_X11_bestCorner, g8_X11_bestCorner, g9b_X11_bestCorner, g10_X11_bestCorner, g11_X11_bestCorner, g12b_X11_bestCorner, g13_X11_bestCorner, g14_X11_bestCorner, g15c_X11_bestCorner, g16c_X11_bestCorner, g18l_X11_bestCorner, g19c_X11_bestCorner, g20b_X11_bestCorner, g21_X11_bestCorner, g22_X11_bestCorner, g23b_X11_bestCorner, g24_X11_bestCorner, g25_X11_bestCorner, g26c_X11_bestCorner, g27b_X11_bestCorner, g28_X11_bestCorner, g29_X11_bestCorner, ispC_x, if_neg z, if_true]
    exact H
theorem bc_l {m : XS} {a1 a2 a3 : Int} {N : Nat} (eN : m 1 1 1 * m 1 1 2 = (N : Int)) : ∀ (n x : Nat) (x4 x5 : Int) (u : XS), (∀ t c k, PM9 t c k → ¬ (t = 1 ∧ c = 1 ∧ k = 10) → u t c k = m t c k) → x ≤ N → N < x + n → KP PM9 (L15_X12_bestCorner n u a1 a2 a3 x4 x5 (m 1 1 10) (x : Int)).1 m := by
  intro n
  induction n with
  | zero => intro x x4 x5 u _ h1 h2; omega
  | succ n ih =>
    intro x x4 x5 u F h1 h2
    have e1 : u 1 1 1 * u 1 1 2 = (N : Int) := by rw [F 1 1 1 (by unfold PM9; omega) (by omega), F 1 1 2 (by unfold PM9; omega) (by omega)]; exact eN
    show KP PM9 (g16l_X12_bestCorner (L15_X12_bestCorner n) u a1 a2 a3 x4 x5 (m 1 1 10) (x : Int)).1 m
    simp only [g16l_X12_bestCorner, g17c_X12_bestCorner, g18b_X12_bestCorner, crM_x, e1]
    refine ite_v (Q := fun y => KP PM9 y m) (fun q => ?_) (fun _ => ?_)
    · have G : KP PM9 (f_X12_leastWithin (f_X12_laysFor (xup u 1 1 10 (Xior (m 1 1 10) (Xishl 1 (x : Int)))) a1 a3 0).1 a2 a3).1 (xup u 1 1 10 (Xior (m 1 1 10) (Xishl 1 (x : Int)))) := (KP.pu pu_f_X12_leastWithin).tr m9_f_X12_laysFor
      have F2 : ∀ t c k, PM9 t c k → ¬ (t = 1 ∧ c = 1 ∧ k = 10) → (f_X12_leastWithin (f_X12_laysFor (xup u 1 1 10 (Xior (m 1 1 10) (Xishl 1 (x : Int)))) a1 a3 0).1 a2 a3).1 t c k = m t c k := fun t c k q1 q2 => ((G t c k q1).trans (if_neg q2)).trans (F t c k q1 q2)
      simp only [g20_X12_bestCorner, g22w_X12_bestCorner, g23c_X12_bestCorner, g24c_X12_bestCorner, g25b_X12_bestCorner, g26_X12_bestCorner, g27_X12_bestCorner, show Int.toNat 10 = 10 from rfl]
      exact ite_v (Q := fun y => KP PM9 y m) (fun _ => ih (x + 1) _ _ _ F2 (by omega) (by omega)) (fun _ => ih (x + 1) _ _ _ F2 (by omega) (by omega))
    · simp only [g19_X12_bestCorner, g21w_X12_bestCorner, show Int.toNat 10 = 10 from rfl]
      intro t c k q
      by_cases y : t = 1 ∧ c = 1 ∧ k = 10
      · obtain ⟨rfl, rfl, rfl⟩ := y
        exact xup_s
      · exact (if_neg y).trans (F t c k q y)
theorem best_m {B : Int} {w h : Nat} {s m : XS} (H : CS B w h s m) {a1 a2 a3 : Int} : KP PM9 (f_X12_bestCorner m a1 a2 a3).1 m := by
  have b25 := H.1.b25
  have T : KP PM9 (xup m 0 0 0 0) m := KP.up (by unfold PM9; omega)
  have G : KP PM9 (f_X12_leastWithin (f_X12_laysFor (xup m 0 0 0 0) a1 a3 0).1 a2 a3).1 m := (KP.pu pu_f_X12_leastWithin).tr (m9_f_X12_laysFor.tr T)
  have fin : KP PM9 (L15_X12_bestCorner (Int.toNat (25 - 0 + 1)) (f_X12_leastWithin (f_X12_laysFor (xup m 0 0 0 0) a1 a3 0).1 a2 a3).1 a1 a2 a3 (f_X12_leastWithin (f_X12_laysFor (xup m 0 0 0 0) a1 a3 0).1 a2 a3).2 (-1) ((f_X12_leastWithin (f_X12_laysFor (xup m 0 0 0 0) a1 a3 0).1 a2 a3).1 1 1 10) 0).1 m := by
    rw [G 1 1 10 (by unfold PM9; omega)]
    exact bc_l H.who.2 _ 0 _ _ _ (fun t c k q _ => G t c k q) (by omega) (by show w * h < 0 + 26; omega)
  simp only [f_X12_bestCorner, g1w_X12_bestCorner, g2c_X12_bestCorner, g3b_X12_bestCorner, g4_X12_bestCorner, g5_X12_bestCorner, g6c_X12_bestCorner, g7b_X12_bestCorner, g8_X12_bestCorner, g9_X12_bestCorner, g10c_X12_bestCorner, g11c_X12_bestCorner, g12b_X12_bestCorner, g13_X12_bestCorner, g14_X12_bestCorner, athM_x, within_x, show Int.toNat 10 = 10 from rfl]
  exact ite_v (Q := fun y => KP PM9 y m) (fun _ => T) (fun _ => ite_v (Q := fun y => KP PM9 y m) (fun _ => T) (fun _ => ite_v (Q := fun y => KP PM9 y m) (fun _ => G) (fun _ => fin)))
theorem RK_bestCorner {N : Int} (h0 : 1000 ≤ N ∧ N ≤ 800000) {s m : XS} {a1 a2 a3 : Int} (h : RA N s m) : RA (N + 120) (f_X11_bestCorner s a1 a2 a3).1 (f_X12_bestCorner m a1 a2 a3).1 := by
  obtain ⟨w, hh, H⟩ := h
  have V : VS N w hh m s (f_X11_bestCorner s a1 a2 a3).1 := VS.best ⟨VQ.st H.2.1 H.2.2.2.2.2.1, H.1.2⟩
  have G : KP PM9 (f_X12_bestCorner m a1 a2 a3).1 m := best_m H.2.1
  exact ⟨w, hh, (H.way V.1.2.2.w (fun t c k q => G t c k (by unfold PM9; omega)) V.2 V.1.2.1 (fun t ht => (H.2.2.2.2.1 t ht).fr ht (fun T c k _ _ => V.1.2.2 _ _ _ (by omega) (by omega)) (fun k => G _ _ _ (by unfold PM9; omega)) (fun k => G _ _ _ (by unfold PM9; omega)) (fun k => G _ _ _ (by unfold PM9; omega)))).le (by omega) (by omega)⟩
/-- envelopes -/
theorem FrO.p {b : Nat} (hb : b = 84 ∨ b = 85) {u s : XS} (h : FrO b u s) : FrP u s := fun t c k q1 q2 => h t c k (by omega) (by omega)
theorem gl_v {B : Int} {a b tp w h t T R Q : Nat} {m s0 s : XS} {C : Int} (H : VQ B w h m s0 s) (hn : 0 < w * h) (S : SB a b tp s) (ht : t < 240) (hT : 2 ≤ T ∧ T < 4) : VQ B w h m s0 (f_X8_goByLeft s (t : Int) (T : Int) (R : Int) C (Q : Int)).1 := by
  have hab := S.1
  obtain ⟨u, u1, u2, u3, -⟩ := gls_x H.1 (H.1.ld hn) H.2.1 S (t := t) (T := T) (R := R) (Q := Q) (C := C) ht hT
  rw [u1]
  exact H.mv (u3.p (by omega)) u2
theorem gr_v {B : Int} {a b tp w h R : Nat} {m s0 s : XS} (H : VQ B w h m s0 s) (hn : 0 < w * h) (S : SB a b tp s) : VQ B w h m s0 (f_X8_goByRights s (R : Int)).1 := by
  have hab := S.1
  obtain ⟨u, u1, u2, -⟩ := gr_x S (H.1.ld hn) (R := R)
  rw [u1]
  exact H.mv (fun t c k q1 q2 => u2 t c k (by omega)) (H.2.1.fr (u2 _ _ _ (by omega)) (fun c k q => u2 _ _ _ (by omega)))
theorem leav_v {B : Int} {a b tp w h t l i2 : Nat} {z : Int} {M : Nat} {m s0 s : XS} {a3 : Int} (H : VQ B w h m s0 s) (hn : 0 < w * h) (E : IE a b tp M i2 z s) (hi : 107 ≤ i2) (hl : l ≤ tp) (hM : M = min (tp + 2) z.toNat) (ht : t < 240) : VQ B w h m s0 (f_X8_goLeaving s (t : Int) (l : Int) a3 i2).1 := by
  have r1 := asm_r s i2 (l : Int)
  obtain ⟨r4, hr4⟩ : ∃ r4, r4 = (f_X10_asSmall s i2 (l : Int)).2 := ⟨_, rfl⟩
  rw [← hr4] at r1
  obtain ⟨v, hv⟩ : ∃ v, v = Xiand (Xishl 1 r4) (Xixor a3 (-1)) := ⟨_, rfl⟩
  obtain ⟨s1, hs1⟩ : ∃ s1, s1 = (f_X8_goByLeft s (t : Int) 2 (4 * (l : Int)) v ((4 * (l : Int)) + 4)).1 := ⟨_, rfl⟩
  have r2 := asm_r s1 i2 ((l : Int) + 1)
  have e : f_X8_goLeaving s (t : Int) (l : Int) a3 i2 = if r4 < 0 then (s, 0) else if (f_X10_asSmall s1 i2 ((l : Int) + 1)).2 = r4 then ((f_X8_goByLeft s1 (t : Int) 3 (4 * (l : Int)) v ((4 * (l : Int)) + 8)).1, 0) else (s1, 0) := by
    simp only [f_X8_goLeaving, g1c_X8_goLeaving, g2b_X8_goLeaving, g3_X8_goLeaving, g4_X8_goLeaving, g5c_X8_goLeaving, g6c_X8_goLeaving, g7b_X8_goLeaving, g8_X8_goLeaving, g9_X8_goLeaving, g10c_X8_goLeaving, r1.1, ← hr4, ← hv, ← hs1, r2.1]
  rw [e]
  by_cases y : r4 < 0
  · rw [if_pos y]; exact H
  · rw [if_neg y]
    have b1 := r1.2 (by omega)
    rw [E.2] at b1
    have e4 : (4 * (l : Int)) = ((4 * l : Nat) : Int) := by omega
    have e44 : (4 * (l : Int)) + 4 = ((4 * l + 4 : Nat) : Int) := by omega
    have e48 : (4 * (l : Int)) + 8 = ((4 * l + 8 : Nat) : Int) := by omega
    have F1 := gl_q (a1 := (t : Int)) (a2 := 2) (a3 := 4 * (l : Int)) (a4 := v) (lo := (4 * (l : Int)) + 4) E.1.1 (by omega)
    rw [← hs1, show (4 * (l : Int)) + 4 = 4 * ((l + 1 : Nat) : Int) by omega] at F1
    have E1 := E.fl hi F1 (by omega)
    have V1 : VQ B w h m s0 s1 := by
      rw [hs1, e44, e4]
      exact gl_v (T := 2) H hn E.1.1 ht (by decide)
    by_cases y2 : (f_X10_asSmall s1 i2 ((l : Int) + 1)).2 = r4
    · rw [if_pos y2]
      dsimp only
      rw [e48, e4]
      exact gl_v (T := 3) V1 hn E1.1.1 ht (by decide)
    · rw [if_neg y2]; exact V1
theorem wv12 {B : Int} {w h a b t M i2 t0 : Nat} {m s0 : XS} {z a3 r : Int} {R : XS → Nat → Int → Int → Int → XR} (hn : 0 < w * h) (ht0 : t0 < 240) (hi : 107 ≤ i2) (hz : 0 ≤ z ∧ z ≤ 10) (ht : (t : Int) ≤ z) (hM : M = min (t + 2) z.toNat) (hR : ∀ u, VQ B w h m s0 u → SQ 0 u → u 0 i2 2 = z → u 0 83 4 ≤ z → VQ B w h m s0 (R u i2 a3 z ((t0 : Int) + 1)).1) : ∀ (n : Nat) (l : Nat) (s : XS), VQ B w h m s0 s → IE a b t M i2 z s → l ≤ t + 1 → t + 1 < l + n → VQ B w h m s0 (L12_X8_whereByEnvelopes R n s i2 a3 z (t0 : Int) r (l : Int)).1
  | 0, l, s, _, _, h1, h2 => by omega
  | n + 1, l, s, V, H, h1, h2 => by
    have e : L12_X8_whereByEnvelopes R (n + 1) s i2 a3 z (t0 : Int) r (l : Int) = if (t : Int) < (l : Int) then R (f_X8_change s (min ((t : Int) + 2) z)).1 i2 a3 z ((t0 : Int) + 1) else L12_X8_whereByEnvelopes R n (f_X8_goLeaving (f_X8_goByLeft (f_X8_goByLeft (f_X8_goByRights s (4 * (l : Int))).1 (t0 : Int) 2 (4 * (l : Int)) r (4 * (l : Int))).1 (t0 : Int) 3 (4 * (l : Int)) r (4 * (l : Int))).1 (t0 : Int) (l : Int) r i2).1 i2 a3 z (t0 : Int) r ((l : Int) + 1) := by
      show g13l_X8_whereByEnvelopes R (L12_X8_whereByEnvelopes R n) s i2 a3 z (t0 : Int) r (l : Int) = _
      simp only [g13l_X8_whereByEnvelopes, g14b_X8_whereByEnvelopes, g15_X8_whereByEnvelopes, g16_X8_whereByEnvelopes, g17c_X8_whereByEnvelopes, g18c_X8_whereByEnvelopes, g19c_X8_whereByEnvelopes, g20c_X8_whereByEnvelopes, g21c_X8_whereByEnvelopes, H.1.1.2.2.2.1]
    rw [e]
    by_cases q : t < l
    · rw [if_pos (by omega)]
      rw [show min ((t : Int) + 2) z = (M : Int) by omega]
      obtain ⟨u, u1, u2, u3, u4, u5⟩ := change_x H.1.1 H.1.2.2 (T := M) (by omega)
      have hab := H.1.1.1
      have S := H.1.end (T := M) (by omega) (Nat.le_refl _)
      rw [u1] at S ⊢
      refine hR _ (V.mv (fun T c k q1 q2 => u5 _ _ _ (by omega) (by omega)) (V.2.1.fr (u5 _ _ _ (by omega) (by omega)) (fun c k q => u5 _ _ _ (by omega) (by omega)))) S ((u5 _ _ _ (by omega) (by omega)).trans H.2) ?_
      show u 0 83 4 ≤ z
      rw [u2.2.2.2.1]
      omega
    · rw [if_neg (by omega)]
      have lM : l ≤ M := by omega
      have H1 := H.fl hi (gr_q (row := 4 * (l : Int)) H.1.1 (by omega)) lM
      have H2 := H1.fl hi (gl_q (a1 := (t0 : Int)) (a2 := 2) (a3 := 4 * (l : Int)) (a4 := r) (lo := 4 * (l : Int)) H1.1.1 (by omega)) lM
      have H3 := H2.fl hi (gl_q (a1 := (t0 : Int)) (a2 := 3) (a3 := 4 * (l : Int)) (a4 := r) (lo := 4 * (l : Int)) H2.1.1 (by omega)) lM
      have H4 := leav_q (l := l) (a1 := (t0 : Int)) (a3 := r) H3 hi (by omega) hM
      have e4 : (4 * (l : Int)) = ((4 * l : Nat) : Int) := by omega
      have V1 : VQ B w h m s0 (f_X8_goByRights s (4 * (l : Int))).1 := by rw [e4]; exact gr_v V hn H.1.1
      have V2 : VQ B w h m s0 (f_X8_goByLeft (f_X8_goByRights s (4 * (l : Int))).1 (t0 : Int) 2 (4 * (l : Int)) r (4 * (l : Int))).1 := by
        rw [e4] at V1 H1 ⊢
        exact gl_v (T := 2) V1 hn H1.1.1 ht0 (by decide)
      have V3 : VQ B w h m s0 (f_X8_goByLeft (f_X8_goByLeft (f_X8_goByRights s (4 * (l : Int))).1 (t0 : Int) 2 (4 * (l : Int)) r (4 * (l : Int))).1 (t0 : Int) 3 (4 * (l : Int)) r (4 * (l : Int))).1 := by
        rw [e4] at V2 H2 ⊢
        exact gl_v (T := 3) V2 hn H2.1.1 ht0 (by decide)
      exact wv12 hn ht0 hi hz ht hM hR n (l + 1) _ (leav_v V3 hn H3 hi (by omega) hM ht0) H4 (by omega) (by omega)
theorem wv2 {B : Int} {w h i2 n' : Nat} {m s0 : XS} {z : Int} (hn : 0 < w * h) (hn' : n' ≤ 30) (hi : 107 ≤ i2) (hz : 0 ≤ z ∧ z ≤ 10) : ∀ (n x : Nat) (s : XS), VQ B w h m s0 s → SQ 0 s → s 0 i2 2 = z → s 0 83 4 ≤ z → VQ B w h m s0 (L2_X8_whereByEnvelopes n s i2 (n' : Int) z (x : Int)).1
  | 0, x, s, V, S, _, _ => V
  | n + 1, x, s, V, S, h1, h2 => by
    have e : L2_X8_whereByEnvelopes (n + 1) s i2 (n' : Int) z (x : Int) = if (x : Int) < (n' : Int) then L12_X8_whereByEnvelopes (L2_X8_whereByEnvelopes n) (Int.toNat (11 - 0 + 1)) (f_X2_freeAt s (x : Int)).1 i2 (n' : Int) z (x : Int) (f_X2_freeAt s (x : Int)).2 0 else if s 0 83 4 = z then (s, (f_X8_anyHeading s z).2) else (s, 0) := by
      show g3l_X8_whereByEnvelopes (L2_X8_whereByEnvelopes n) s i2 (n' : Int) z (x : Int) = _
      simp only [g3l_X8_whereByEnvelopes, g4b_X8_whereByEnvelopes, g5_X8_whereByEnvelopes, g6_X8_whereByEnvelopes, g7b_X8_whereByEnvelopes, g8_X8_whereByEnvelopes, g9_X8_whereByEnvelopes, g10c_X8_whereByEnvelopes, g11c_X8_whereByEnvelopes, f_X8_anyHeading]
    rw [e]
    by_cases q : (x : Int) < (n' : Int)
    · rw [if_pos q]
      obtain ⟨f, r, f1, f2, f3, -⟩ := freeAt_x V.1 V.2.1 (a1 := x) (by omega)
      rw [f1]
      dsimp only
      have S1 : SQ 0 f := S.of8 (fun t c k' q1 q2 => f3 _ _ _ (by omega) (by omega))
      have u1 : f 0 i2 2 = z := (f3 _ _ _ (by omega) (by omega)).trans h1
      have u2 : f 0 83 4 ≤ z := by rw [f3 0 83 4 (by omega) (by omega)]; exact h2
      obtain ⟨a, b, t, H, Sb, Sa⟩ := S1.ex
      rw [H.2.2.2.1] at u2
      exact wv12 (M := min (t + 2) z.toNat) hn (by omega) hi hz u2 rfl (fun v v0 v1 v2 v3 => wv2 hn hn' hi hz n (x + 1) v v0 v1 v2 v3) (Int.toNat (11 - 0 + 1)) 0 f (V.mv f3.p f2) ⟨⟨H, fun j _ => Sb j (by omega), Sa⟩, u1⟩ (by omega) (by show t + 1 < 0 + 12; omega)
    · rw [if_neg q]
      exact ite_v (fun _ => V) (fun _ => V)
theorem VS.found {B : Int} {w h : Nat} {m s0 s : XS} {a1 a2 a3 : Int} (H : VS B w h m s0 s) : VS B w h m s0 (f_X11_found s a1 a2 a3).1 := by
  refine ⟨?_, found_q H.2⟩
  by_cases z : 0 ≤ a1 ∧ a1 < s 0 10 7
  · by_cases y : 0 ≤ a2 ∧ a2 ≤ 3
    · obtain ⟨c0, d0, c1, d1, est⟩ := H.1.1.sta z
      have b25 := H.1.1.1.b25
      have fin : ¬ s 0 (107 + 2 * Int.toNat a2) 2 < 0 → ¬ 10 < s 0 (107 + 2 * Int.toNat a2) 2 → ¬ a3 < 0 → ¬ 30 < a3 → VQ B w h m s0 (f_X8_whereByEnvelopes s ((4 * c0 + d0 : Nat) : Int) (107 + 2 * Int.toNat a2) a3).1 := fun q1 q2 q3 q4 => by
        obtain ⟨k, rfl⟩ : ∃ k : Nat, a3 = (k : Int) := ⟨a3.toNat, by omega⟩
        obtain ⟨x1, x2⟩ := begin_i (a1 := ((4 * c0 + d0 : Nat) : Int)) H.2
        obtain ⟨v, v1, v2, v3⟩ := begin_s (A := m 1 1) (mo := noM) (t0 := 0) (K := 0) H.2 d1 c1 b25
        have Vv := begin_v (c0 := c0) (d0 := d0) H.2 d1 (by omega) H.1.2.1
        have e : f_X8_whereByEnvelopes s ((4 * c0 + d0 : Nat) : Int) (107 + 2 * Int.toNat a2) (k : Int) = L2_X8_whereByEnvelopes (Int.toNat (30 - 0 + 1)) (f_X8_begin s ((4 * c0 + d0 : Nat) : Int)).1 (107 + 2 * Int.toNat a2) (k : Int) (s 0 (107 + 2 * Int.toNat a2) 2) 0 := rfl
        rw [e]
        rw [v1] at x1 x2 Vv ⊢
        exact wv2 (by omega) (by omega) (by omega) (by omega) _ 0 v (H.1.mv v2.q.p Vv) v3.1 (x2 _ (by omega)) (by have x3 : v 0 83 4 = 0 := x1; omega)
      simp only [f_X11_found, g1c_X11_found, g2b_X11_found, g3_X11_found, g4_X11_found, g5c_X11_found, g6b_X11_found, g7_X11_found, g8_X11_found, g9b_X11_found, g10_X11_found, g11_X11_found, g12b_X11_found, g13_X11_found, g14_X11_found, g15c_X11_found, g16c_X11_found, g17b_X11_found, g18_X11_found, g19_X11_found, g20b_X11_found, g21_X11_found, g22_X11_found, g23b_X11_found, g24_X11_found, g25_X11_found, g26c_X11_found, g27c_X11_found, ispC_x, istC_x, if_pos z, if_pos y, n10, if_false, f_X1_stand, est, alb_p, crs_p]
      exact ite_v (fun _ => H.1) (fun q1 => ite_v (fun _ => H.1) (fun q2 => ite_v (fun _ => H.1) (fun _ => ite_v (fun _ => H.1) (fun q3 => ite_v (fun _ => H.1) (fun q4 => fin q1 q2 q3 q4)))))
    · simp only [f_X11_found, g1c_X11_found, g2b_X11_found, g3_X11_found, g4_X11_found, g5c_X11_found, g6b_X11_found, g7_X11_found, g8_X11_found, g9b_X11_found, g10_X11_found, g11_X11_found, g12b_X11_found, g13_X11_found, g14_X11_found, g15c_X11_found, g16c_X11_found, g17b_X11_found, g18_X11_found, g19_X11_found, g20b_X11_found, g21_X11_found, g22_X11_found, g23b_X11_found, g24_X11_found, g25_X11_found, g26c_X11_found, g27c_X11_found, ispC_x, istC_x, if_pos z, if_neg y, n10, if_false, if_true]
      exact H.1
  · simp only [f_X11_found, g1c_X11_found, g2b_X11_found, g3_X11_found, g4_X11_found, g5c_X11_found, g6b_X11_found, g7_X11_found, g8_X11_found, g9b_X11_found, g10_X11_found, g11_X11_found, g12b_X11_found, g13_X11_found, g14_X11_found, g15c_X11_found, g16c_X11_found, g17b_X11_found, g18_X11_found, g19_X11_found, g20b_X11_found, g21_X11_found, g22_X11_found, g23b_X11_found, g24_X11_found, g25_X11_found, g26c_X11_found, g27c_X11_found, ispC_x, if_neg z, if_true]
    exact H.1
theorem RK_found {N : Int} (h0 : 1000 ≤ N ∧ N ≤ 800000) {s m : XS} {a1 a2 a3 : Int} (h : RA N s m) : RA (N + 120) (f_X11_found s a1 a2 a3).1 (f_X12_found m a1 a2 a3).1 := by
  obtain ⟨w, hh, H⟩ := h
  have V : VS N w hh m s (f_X11_found s a1 a2 a3).1 := VS.found ⟨VQ.st H.2.1 H.2.2.2.2.2.1, H.1.2⟩
  have G : KP PM9 (f_X12_found m a1 a2 a3).1 m := m9_f_X12_found
  exact ⟨w, hh, (H.way V.1.2.2.w (fun t c k q => G t c k (by unfold PM9; omega)) V.2 V.1.2.1 (fun t ht => (H.2.2.2.2.1 t ht).fr ht (fun T c k _ _ => V.1.2.2 _ _ _ (by omega) (by omega)) (fun k => G _ _ _ (by unfold PM9; omega)) (fun k => G _ _ _ (by unfold PM9; omega)) (fun k => G _ _ _ (by unfold PM9; omega)))).le (by omega) (by omega)⟩
