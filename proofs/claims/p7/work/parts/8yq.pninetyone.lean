/-! the big relation -/
def IB (N : Int) (i b : Nat) (s m : XS) : Prop := m 1 2 i ≠ 0 → Ci b s (fun k => m 1 1 (k + 1774 * (i + 1))) ∧ BB N (NN (fun k => m 1 1 (k + 1774 * (i + 1)))) (m 1 1 (3 + 1774 * (i + 1))) (rA (fun k => m 1 1 (k + 1774 * (i + 1))))
def RAw (N : Int) (w h : Nat) (s m : XS) : Prop := RS s m ∧ CS N w h s m ∧ Rg s m ∧ RB N (w * h) m ∧ (∀ t, t < 4 → Tr s m t) ∧ FV (w * h) s (m 1 1) ∧ IB N 0 39 s m ∧ IB N 1 58 s m
def RA (N : Int) (s m : XS) : Prop := ∃ w h, RAw N w h s m
theorem IB.fr {N N' : Int} {i b : Nat} {s m u v : XS} (hN : N ≤ N') (e1 : v 1 2 i = m 1 2 i) (e2 : ∀ t c k, b ≤ c → c ≤ b + 18 → u t c k = s t c k) (e3 : ∀ k, 1774 ≤ k → v 1 1 k = m 1 1 k) (h : IB N i b s m) : IB N' i b u v := by
  intro q
  rw [e1] at q
  obtain ⟨h1, h2⟩ := h q
  have er : (fun k => v 1 1 (k + 1774 * (i + 1))) = (fun k => m 1 1 (k + 1774 * (i + 1))) := funext fun k => e3 _ (by omega)
  rw [er, e3 _ (by omega)]
  exact ⟨h1.same (fun t j k hj => e2 t (b + j) k (by omega) (by omega)), h2.le hN⟩
/-- places that ways, hunts, trays and what is read leave alone -/
def FrK (u s : XS) : Prop := ∀ t c k, ¬ (t = 1 ∧ (c = 4 ∨ c = 5 ∨ c = 8 ∨ c = 9)) → ¬ (20 ≤ c ∧ c ≤ 38) → ¬ (77 ≤ c ∧ c ≤ 114) → ¬ (t = 1 ∧ 207 ≤ c) → u t c k = s t c k
theorem FrK.rf {s : XS} : FrK s s := fun _ _ _ _ _ _ _ => rfl
theorem CS.k {B : Int} {w h : Nat} {s m u v : XS} (F : FrK u s) (hm : v 1 1 = m 1 1) (H : CS B w h s m) : CS B w h u v := by
  obtain ⟨c1, c2, c3, c4, c5, c6, c7⟩ := H
  unfold CS
  rw [hm]
  refine ⟨c1.fr (F _ _ _ (by omega) (by omega) (by omega) (by omega)) (F _ _ _ (by omega) (by omega) (by omega) (by omega)) (funext fun k => F _ _ _ (by omega) (by omega) (by omega) (by omega)) (funext fun k => F _ _ _ (by omega) (by omega) (by omega) (by omega)), c2.sameV (fun t c k _ _ q => F t c k (by omega) (by omega) (by omega) (by omega)), ?_, ?_, c5, c6, c7⟩
  · rw [F _ _ _ (by omega) (by omega) (by omega) (by omega)]; exact c3
  · rw [F _ _ _ (by omega) (by omega) (by omega) (by omega)]; exact c4
theorem Tr.fr {s m u v : XS} {t : Nat} (h : Tr s m t) (ht : t < 4) (F : ∀ T c k, 107 ≤ c → c ≤ 114 → u T c k = s T c k) (e1 : ∀ k, v 1 23 k = m 1 23 k) (e2 : ∀ k, v 1 24 k = m 1 24 k) (e3 : ∀ k, v 2 25 k = m 2 25 k) : Tr u v t := by
  unfold Tr
  rw [e1, e2, F 0 (107 + 2 * t) 1 (by omega) (by omega), F 0 (107 + 2 * t) 2 (by omega) (by omega)]
  rcases h with h | ⟨h0, h1, h2, h3, h4, h5, h6, h7⟩
  · exact Or.inl h
  · exact Or.inr ⟨h0, h1, h2, h3, h4, h5, h6, fun i hi => by rw [F 2 (108 + 2 * t) i (by omega) (by omega), e3]; exact h7 i hi⟩
theorem RAw.keep {N : Int} {w h : Nat} {s m u v : XS} (H : RAw N w h s m) (S : RS u v) (F : FrK u s) (e1 : v 1 1 = m 1 1) (e2 : ∀ k, v 1 2 k = m 1 2 k) (V : FV (w * h) u (m 1 1)) (T : ∀ t, t < 4 → Tr u v t) : RAw N w h u v := by
  obtain ⟨h1, h2, h3, h4, h5, h6, h7, h8⟩ := H
  refine ⟨S, h2.k F e1, h3.same (F _ _ _ (by omega) (by omega) (by omega) (by omega)) (F _ _ _ (by omega) (by omega) (by omega) (by omega)) (fun t c k q1 q2 => F _ _ _ (by omega) (by omega) (by omega) (by omega)) (by rw [e1]) (fun k _ _ => by rw [e1]), h4.row e1, T, by rw [e1]; exact V, ?_, ?_⟩
  · exact h7.fr (Int.le_refl _) (e2 0) (fun t c k q1 q2 => F _ _ _ (by omega) (by omega) (by omega) (by omega)) (fun k _ => by rw [e1])
  · exact h8.fr (Int.le_refl _) (e2 1) (fun t c k q1 q2 => F _ _ _ (by omega) (by omega) (by omega) (by omega)) (fun k _ => by rw [e1])
/-- what ways leave alone in both -/
def FrW (u s : XS) : Prop := ∀ t c k, ¬ (t = 1 ∧ (c = 4 ∨ c = 5 ∨ c = 8 ∨ c = 9)) → ¬ (79 ≤ c ∧ c ≤ 103) → ¬ (107 ≤ c ∧ c ≤ 114) → ¬ (t = 1 ∧ 207 ≤ c) → u t c k = s t c k
def FmW (v m : XS) : Prop := ∀ t c k, ((t = 1 ∧ (c = 1 ∨ c = 2 ∨ c = 3)) ∨ (t = 0 ∧ c = 0 ∧ (k = 5 ∨ k = 13 ∨ k = 14))) → v t c k = m t c k
theorem FrW.k {u s : XS} (h : FrW u s) : FrK u s := fun t c k q1 _ q3 q4 => h t c k q1 (by omega) (by omega) q4
theorem FmW.row {v m : XS} (h : FmW v m) : v 1 1 = m 1 1 := funext fun k => h 1 1 k (by omega)
theorem FmW.im {v m : XS} (h : FmW v m) : ∀ k, v 1 2 k = m 1 2 k := fun k => h 1 2 k (by omega)
theorem RS.w {s m u v : XS} (h : RS s m) (F : FrW u s) (G : FmW v m) (S : SQ 0 u) : RS u v := ⟨h.1.same (fun t c k q => F t c k (by unfold phC pnC at q; omega) (by unfold phC pnC at q; omega) (by unfold phC pnC at q; omega) (by unfold phC pnC at q; omega)) (fun k => F _ _ _ (by omega) (by omega) (by omega) (by omega)) (fun k => F _ _ _ (by omega) (by omega) (by omega) (by omega)) (fun t c k q => G t c k (by unfold pnM at q; omega)), S⟩
theorem RAw.way {N : Int} {w h : Nat} {s m u v : XS} (H : RAw N w h s m) (F : FrW u s) (G : FmW v m) (S : SQ 0 u) (V : FV (w * h) u (m 1 1)) (T : ∀ t, t < 4 → Tr u v t) : RAw N w h u v := H.keep (H.1.w F G S) F.k G.row G.im V T
/-- what a look leaves alone -/
theorem RAw.look {N : Int} {w h : Nat} {s m u v : XS} (H : RAw N w h s m) (F : ∀ t c k, ¬ (t = 1 ∧ (c = 4 ∨ c = 5 ∨ c = 8 ∨ c = 9 ∨ 207 ≤ c)) → u t c k = s t c k) (G : FmW v m) (g1 : ∀ k, v 1 23 k = m 1 23 k) (g2 : ∀ k, v 1 24 k = m 1 24 k) (g3 : ∀ k, v 2 25 k = m 2 25 k) : RAw N w h u v :=
  H.way (fun t c k q1 q2 q3 q4 => F t c k (by omega)) G (H.1.2.of8 (fun t c k _ _ => F t c k (by omega))) (H.2.2.2.2.2.1.fr (F _ _ _ (by omega)) (fun c k q => F _ _ _ (by omega))) (fun t ht => (H.2.2.2.2.1 t ht).fr ht (fun T c k _ _ => F T c k (by omega)) g1 g2 g3)
theorem FmT.w {v m : XS} (h : FmT v m) : FmW v m := fun t c k q => h t c k (by omega) (by omega)
theorem RAw.lk {N : Int} {w h : Nat} {s m u v : XS} (H : RAw N w h s m) (F : FrA u s) (G : FmT v m) : RAw N w h u v := H.look (fun t c k q => F t c k (by omega)) G.w (fun k => G _ _ _ (by omega) (by omega)) (fun k => G _ _ _ (by omega) (by omega)) (fun k => G _ _ _ (by omega) (by omega))
theorem RAw.le {N N' : Int} {w h : Nat} {s m : XS} (H : RAw N w h s m) (h1 : N ≤ N') (h2 : N' ≤ 1000000) : RAw N' w h s m := by
  obtain ⟨a1, a2, a3, a4, a5, a6, a7, a8⟩ := H
  exact ⟨a1, a2.le h1 h2, a3, a4.le h1, a5, a6, a7.fr h1 rfl (fun _ _ _ _ _ => rfl) (fun _ _ => rfl), a8.fr h1 rfl (fun _ _ _ _ _ => rfl) (fun _ _ => rfl)⟩
/-- a deed -/
def FdX (u s : XS) : Prop := ∀ t c k, ¬ (t = 1 ∧ (c = 4 ∨ c = 5 ∨ c = 8 ∨ c = 9 ∨ (11 ≤ c ∧ c ≤ 17))) → ¬ (t = 0 ∧ c = 10 ∧ k = 8) → ¬ (t = 0 ∧ c = 0) → ¬ (119 ≤ c ∧ c ≤ 206) → ¬ (t = 0 ∧ c = 79 ∧ k = 4) → ¬ (t = 1 ∧ c = 207) → u t c k = s t c k
theorem FdC.x {u s : XS} (h : FdC u s) : FdX u s := fun t c k q1 q2 q3 q4 q5 q6 => h t c k q1 q2 (by omega) q4 q5 q6
theorem RS.dd {s m u v : XS} (h : RS s m) (F : FdX u s) (G : FdM v m) : RS u v :=
  ⟨h.1.same (fun t c k q => F t c k (by unfold phC pnC at q; omega) (by unfold phC pnC at q; omega) (by unfold phC pnC at q; omega) (by unfold phC pnC at q; omega) (by unfold phC pnC at q; omega) (by unfold phC pnC at q; omega)) (fun k => F _ _ _ (by omega) (by omega) (by omega) (by omega) (by omega) (by omega)) (fun k => F _ _ _ (by omega) (by omega) (by omega) (by omega) (by omega) (by omega)) (fun t c k q => G t c k (by unfold pnM at q; omega) (by unfold pnM at q; omega) (by unfold pnM at q; omega)), h.2.of8 (fun t c k q1 q2 => F _ _ _ (by omega) (by omega) (by omega) (by omega) (by omega) (by omega))⟩
theorem RAw.deed {N N' : Int} {w h : Nat} {s m u v : XS} (H : RAw N w h s m) (hN : N ≤ N') (F : FdX u s) (G : FdM v m) (C : CS N' w h u v) (R : Rg u v) (hB : RB N' (w * h) v) (K : KF u s v m) : RAw N' w h u v := by
  obtain ⟨h1, h2, h3, h4, h5, h6, h7, h8⟩ := H
  have b25 := h2.1.b25
  refine ⟨h1.dd F G, C, R, hB, fun t ht => (h5 t ht).fr ht (fun T c k _ _ => F _ _ _ (by omega) (by omega) (by omega) (by omega) (by omega) (by omega)) (fun k => G _ _ _ (by omega) (by omega) (by omega)) (fun k => G _ _ _ (by omega) (by omega) (by omega)) (fun k => G _ _ _ (by omega) (by omega) (by omega)), ?_, ?_, ?_⟩
  · rcases K with k0 | ⟨k1, k2⟩
    · exact ⟨0, k0, by decide, fun t ht => absurd ht (Nat.not_lt_zero _), fun t d ht => absurd ht (Nat.not_lt_zero _)⟩
    · refine (h6.fr k1 (fun c k q => F _ _ _ (by omega) (by omega) (by omega) (by omega) (by omega) (by omega))).row (G _ _ _ (by omega) (by omega) (by omega)) (G _ _ _ (by omega) (by omega) (by omega)) (G _ _ _ (by omega) (by omega) (by omega)) (G _ _ _ (by omega) (by omega) (by omega)) (fun k q => G _ _ _ (by omega) (by omega) (by omega)) (G _ _ _ (by omega) (by omega) (by omega)) k2 b25
  · exact h7.fr hN (G _ _ _ (by omega) (by omega) (by omega)) (fun t c k q1 q2 => F _ _ _ (by omega) (by omega) (by omega) (by omega) (by omega) (by omega)) (fun k q => G _ _ _ (by omega) (by omega) (by omega))
  · exact h8.fr hN (G _ _ _ (by omega) (by omega) (by omega)) (fun t c k q1 q2 => F _ _ _ (by omega) (by omega) (by omega) (by omega) (by omega) (by omega)) (fun k q => G _ _ _ (by omega) (by omega) (by omega))
theorem KF.a {N N' : Int} {w h : Nat} {s m u v : XS} (H : CS N w h s m) (C : CS N' w h u v) (F : FrA u s) : KF u s v m := by
  obtain ⟨-, -, -, p4, -, -, p7, -⟩ := H.pl
  obtain ⟨-, -, -, r4, -, -, r7, -⟩ := C.pl
  refine Or.inr ⟨F _ _ _ (by omega), fun k k1 k2 => ?_⟩
  rcases (show k < 50 ∨ (50 ≤ k ∧ k < 75) ∨ k = 75 by omega) with q | q | q
  · obtain ⟨c, rfl⟩ : ∃ c, k = 25 + c := ⟨k - 25, by omega⟩
    rw [show 36 + (25 + c) = 61 + c by omega, ← (p7 c (by omega)).1, ← (r7 c (by omega)).1]
    exact F _ _ _ (by omega)
  · obtain ⟨c, rfl⟩ : ∃ c, k = 50 + c := ⟨k - 50, by omega⟩
    rw [show 36 + (50 + c) = 86 + c by omega, ← (p7 c (by omega)).2, ← (r7 c (by omega)).2]
    exact F _ _ _ (by omega)
  · subst q
    show v 1 1 111 = m 1 1 111
    rw [p4, r4]
    exact F _ _ _ (by omega)
/-- the deeds, and what only looks -/
theorem RA_go {N : Int} (h0 : 1000 ≤ N ∧ N ≤ 800000) {s m : XS} {a1 a2 : Int} (h : RA N s m) : (f_X11_go s a1 a2).2 = (f_X12_go m a1 a2).2 ∧ RA (N + 120) (f_X11_go s a1 a2).1 (f_X12_go m a1 a2).1 := by
  obtain ⟨w, hh, H⟩ := h
  obtain ⟨e, C, R, F, G, K, B⟩ := go_x H.2.1 H.2.2.1 (by omega) (a1 := a1) (a2 := a2)
  have K' : KF (f_X11_go s a1 a2).1 s (f_X12_go m a1 a2).1 m := K.elim Or.inl (fun q => KF.a H.2.1 C q)
  exact ⟨e, w, hh, H.deed (by omega) F.x G (C.le (by omega) (by omega)) R ((B H.2.2.2.1).le (by omega)) K'⟩
theorem RA_judge {N : Int} (h0 : 1000 ≤ N ∧ N ≤ 800000) {s m : XS} {a1 a2 : Int} (h : RA N s m) : (f_X11_judge s a1 a2).2 = (f_X12_judge m a1 a2).2 ∧ RA (N + 120) (f_X11_judge s a1 a2).1 (f_X12_judge m a1 a2).1 := by
  obtain ⟨w, hh, H⟩ := h
  obtain ⟨e, C, R, F, G, -, K1, K2, B⟩ := judge_x H.2.1 (by omega) H.2.2.1 H.2.2.2.2.1 (a1 := a1) (a2 := a2)
  exact ⟨e, w, hh, H.deed (by omega) F.x G (C.le (by omega) (by omega)) R ((B H.2.2.2.1).le (by omega)) (Or.inr ⟨K1, fun k _ k2 => K2 k k2⟩)⟩
theorem RA_walk {N : Int} (h0 : 1000 ≤ N ∧ N ≤ 800000) {s m : XS} {a1 : Int} (h : RA N s m) : (f_X11_walk s a1).2 = (f_X12_walk m a1).2 ∧ RA (N + 120) (f_X11_walk s a1).1 (f_X12_walk m a1).1 := by
  obtain ⟨w, hh, H⟩ := h
  obtain ⟨e, ⟨B', b1, b2, C⟩, R, F, G, K, B⟩ := walk_x H.2.1 (by omega) H.2.2.1 H.2.2.2.2.1 (a1 := a1)
  have K' : KF (f_X11_walk s a1).1 s (f_X12_walk m a1).1 m := K.elim Or.inl (fun q => Or.inr ⟨q.1, fun k _ _ => congrFun q.2 k⟩)
  exact ⟨e, w, hh, H.deed (by omega) F.x G (C.le (by omega) (by omega)) R ((B H.2.2.2.1).le (by omega)) K'⟩
theorem RA_buy {N : Int} (h0 : 1000 ≤ N ∧ N ≤ 800000) {s m : XS} {a1 a2 : Int} (h : RA N s m) : (f_X11_buy s a1 a2).2 = (f_X12_buy m a1 a2).2 ∧ RA (N + 120) (f_X11_buy s a1 a2).1 (f_X12_buy m a1 a2).1 := by
  obtain ⟨w, hh, H⟩ := h
  obtain ⟨e, C, R, F, G, K, B⟩ := buy_x H.2.1 (by omega) H.2.2.1 (a1 := a1) (a2 := a2)
  exact ⟨e, w, hh, H.deed (by omega) F.x G (C.le (by omega) (by omega)) R ((B H.2.2.2.1).le (by omega)) K⟩
theorem RA_sell {N : Int} (h0 : 1000 ≤ N ∧ N ≤ 800000) {s m : XS} {a1 : Int} (h : RA N s m) : (f_X11_sell s a1).2 = (f_X12_sell m a1).2 ∧ RA (N + 120) (f_X11_sell s a1).1 (f_X12_sell m a1).1 := by
  obtain ⟨w, hh, H⟩ := h
  obtain ⟨e, C, R, F, G, K, B⟩ := sell_x H.2.1 (by omega) H.2.2.1 (a1 := a1)
  exact ⟨e, w, hh, H.deed (by omega) F.x G (C.le (by omega) (by omega)) R ((B H.2.2.2.1).le (by omega)) K⟩
theorem RA_hand {N : Int} (h0 : 1000 ≤ N ∧ N ≤ 800000) {s m : XS} {a1 a2 a3 : Int} (h : RA N s m) : (f_X11_hand s a1 a2 a3).2 = (f_X12_hand m a1 a2 a3).2 ∧ RA (N + 120) (f_X11_hand s a1 a2 a3).1 (f_X12_hand m a1 a2 a3).1 := by
  obtain ⟨w, hh, H⟩ := h
  obtain ⟨e, C, R, F, G, K, B⟩ := hand_x H.2.1 H.2.2.1 (a1 := a1) (a2 := a2) (a3 := a3)
  exact ⟨e, w, hh, H.deed (by omega) F.x G (C.le (by omega) (by omega)) R ((B H.2.2.2.1).le (by omega)) K⟩
theorem RK_fog {N : Int} (h0 : 1000 ≤ N ∧ N ≤ 800000) {s m : XS} {a1 a2 : Int} (h : RA N s m) : RA (N + 120) (f_X11_fog s a1 a2).1 (f_X12_fog m a1 a2).1 := by
  obtain ⟨w, hh, H⟩ := h
  obtain ⟨C, R, F, G, K, B, -⟩ := fog_s H.2.1 (by omega) H.2.2.1 (a1 := a1) (a2 := a2)
  exact ⟨w, hh, H.deed (by omega) F.x G (C.le (by omega) (by omega)) R ((B H.2.2.2.1).le (by omega)) K⟩
theorem RA_hours {N : Int} (h0 : 1000 ≤ N ∧ N ≤ 800000) {s m : XS} {a1 : Int} (h : RA N s m) : (f_X11_hours s a1).2 = (f_X12_hours m a1).2 ∧ RA (N + 120) (f_X11_hours s a1).1 (f_X12_hours m a1).1 := by
  obtain ⟨w, hh, H⟩ := h
  obtain ⟨e, ⟨B', b1, b2, C⟩, R, F, G, K, B⟩ := hours_x H.2.1 (by omega) H.2.2.1 (a1 := a1)
  exact ⟨e, w, hh, H.deed (by omega) F.x G (C.le (by omega) (by omega)) R ((B H.2.2.2.1).le (by omega)) K⟩
theorem RA_undo {N : Int} (h0 : 1000 ≤ N ∧ N ≤ 800000) {s m : XS} {a1 : Int} (h : RA N s m) : (f_X11_undo s a1).2 = (f_X12_undo m a1).2 ∧ RA (N + 120) (f_X11_undo s a1).1 (f_X12_undo m a1).1 := by
  obtain ⟨w, hh, H⟩ := h
  obtain ⟨e, C, R, F, G, K, B⟩ := undo_y H.2.1 H.2.2.1 H.2.2.2.1 (a1 := a1)
  exact ⟨e, w, hh, H.deed (by omega) F.x G (C.le (by omega) (by omega)) R (B.le (by omega)) K⟩
theorem RA_week {N : Int} (h0 : 1000 ≤ N ∧ N ≤ 800000) {s m : XS} {a1 a2 : Int} (h : RA N s m) : (f_X11_week s a1 a2).2 = (f_X12_week m a1 a2).2 ∧ RA (N + 120) (f_X11_week s a1 a2).1 (f_X12_week m a1 a2).1 := by
  obtain ⟨w, hh, H⟩ := h
  obtain ⟨e, C, R, F, G, K, B⟩ := week_x H.2.1 (by omega) H.2.2.1 (a1 := a1) (a2 := a2)
  exact ⟨e, w, hh, H.deed (by omega) (fun t c k q1 q2 q3 q4 q5 q6 => (F t c k q1 q2 (by omega) q4 q5 q6).trans (if_neg (fun y => q3 ⟨y.1, y.2.1⟩))) G (C.le (by omega) (by omega)) R ((B H.2.2.2.1).le (by omega)) K⟩
theorem RA_person {N : Int} (h0 : 1000 ≤ N ∧ N ≤ 800000) {s m : XS} {a1 a2 : Int} (h : RA N s m) : (f_X11_person s a1 a2).2 = (f_X12_person m a1 a2).2 ∧ RA (N + 120) (f_X11_person s a1 a2).1 (f_X12_person m a1 a2).1 := by
  obtain ⟨w, hh, H⟩ := h
  obtain ⟨e, F, G⟩ := person_x H.2.1 (a1 := a1) (a2 := a2)
  exact ⟨e, w, hh, (H.lk F G).le (by omega) (by omega)⟩
theorem RA_why {N : Int} (h0 : 1000 ≤ N ∧ N ≤ 800000) {s m : XS} {a1 a2 : Int} (h : RA N s m) : (f_X11_why s a1 a2).2 = (f_X12_why m a1 a2).2 ∧ RA (N + 120) (f_X11_why s a1 a2).1 (f_X12_why m a1 a2).1 := by
  obtain ⟨w, hh, H⟩ := h
  obtain ⟨e, F, G⟩ := why_x H.2.1 (a1 := a1) (a2 := a2)
  exact ⟨e, w, hh, (H.lk F G).le (by omega) (by omega)⟩
theorem RA_price {N : Int} (h0 : 1000 ≤ N ∧ N ≤ 800000) {s m : XS} {a1 a2 a3 : Int} (h : RA N s m) : (f_X11_price s a1 a2 a3).2 = (f_X12_price m a1 a2 a3).2 ∧ RA (N + 120) (f_X11_price s a1 a2 a3).1 (f_X12_price m a1 a2 a3).1 := by
  obtain ⟨w, hh, H⟩ := h
  obtain ⟨e, F, G⟩ := price_x H.2.1 (a1 := a1) (a2 := a2) (a3 := a3)
  exact ⟨e, w, hh, (H.lk F G).le (by omega) (by omega)⟩
theorem RA_crossing {N : Int} (h0 : 1000 ≤ N ∧ N ≤ 800000) {s m : XS} {a1 a2 : Int} (h : RA N s m) : (f_X11_crossing s a1 a2).2 = (f_X12_crossing m a1 a2).2 ∧ RA (N + 120) (f_X11_crossing s a1 a2).1 (f_X12_crossing m a1 a2).1 := by
  obtain ⟨w, hh, H⟩ := h
  obtain ⟨e, F, G⟩ := crossing_x H.2.1 (a1 := a1) (a2 := a2)
  exact ⟨e, w, hh, (H.lk F G).le (by omega) (by omega)⟩
theorem RA_street {N : Int} (h0 : 1000 ≤ N ∧ N ≤ 800000) {s m : XS} {a1 a2 : Int} (h : RA N s m) : (f_X11_street s a1 a2).2 = (f_X12_street m a1 a2).2 ∧ RA (N + 120) (f_X11_street s a1 a2).1 (f_X12_street m a1 a2).1 := by
  obtain ⟨w, hh, H⟩ := h
  obtain ⟨a, b, e⟩ := Street_x (c := a1) (d := a2) H.1.1.1.2.2.2.2.1
  refine ⟨e, w, hh, ?_⟩
  rw [a, b]
  exact (H.lk FrA.rf FmT.thr).le (by omega) (by omega)
/-- ways, lists, trays -/
theorem FrLs.w {u s : XS} (h : FrLs u s) : FrW u s := fun t c k q1 q2 q3 q4 => h t c k (by omega) (by omega) (by omega) (by omega) (by omega)
theorem FrLm.w {v m : XS} (h : FrLm v m) : FmW v m := fun t c k q => h t c k (by omega) (by omega) (by omega)
theorem FrSh.ls {u s : XS} (h : FrSh u s) : FrLs u s := fun t c k q1 q2 q3 q4 _ => h t c k q1 q2 q3 q4
theorem FrMh.lm {v m : XS} (h : FrMh v m) : FrLm v m := fun t c k q1 q2 _ => h t c k q1 q2
theorem RA_way {N : Int} (h0 : 1000 ≤ N ∧ N ≤ 800000) {s m : XS} {a1 a2 a3 : Int} (h : RA N s m) : (f_X11_way s a1 a2 a3).2 = (f_X12_way m a1 a2 a3).2 ∧ RA (N + 120) (f_X11_way s a1 a2 a3).1 (f_X12_way m a1 a2 a3).1 := by
  obtain ⟨w, hh, H⟩ := h
  obtain ⟨e, V, S, F, G⟩ := way_x H.2.1 H.2.2.2.2.2.1 H.1.2 (a1 := a1) (a2 := a2) (a3 := a3)
  exact ⟨e, w, hh, (H.way F.ls.w G.lm.w S V (fun t ht => (H.2.2.2.2.1 t ht).sh ht F G)).le (by omega) (by omega)⟩
theorem RA_turn {N : Int} (h0 : 1000 ≤ N ∧ N ≤ 800000) {s m : XS} {a1 a2 a3 a4 : Int} (h : RA N s m) : (f_X11_turn s a1 a2 a3 a4).2 = (f_X12_turn m a1 a2 a3 a4).2 ∧ RA (N + 120) (f_X11_turn s a1 a2 a3 a4).1 (f_X12_turn m a1 a2 a3 a4).1 := by
  obtain ⟨w, hh, H⟩ := h
  obtain ⟨e, V, S, F, G⟩ := turn_x H.2.1 H.2.2.2.2.2.1 H.1.2 (a1 := a1) (a2 := a2) (a3 := a3) (a4 := a4)
  exact ⟨e, w, hh, (H.way F.ls.w G.lm.w S V (fun t ht => (H.2.2.2.2.1 t ht).sh ht F G)).le (by omega) (by omega)⟩
theorem RA_lists {N : Int} (h0 : 1000 ≤ N ∧ N ≤ 800000) {s m : XS} {a1 a2 a3 a4 : Int} (h : RA N s m) : (f_X11_lists s a1 a2 a3 a4).2 = (f_X12_lists m a1 a2 a3 a4).2 ∧ RA (N + 120) (f_X11_lists s a1 a2 a3 a4).1 (f_X12_lists m a1 a2 a3 a4).1 := by
  obtain ⟨w, hh, H⟩ := h
  obtain ⟨e, V, S, F, G, T⟩ := lists_x H.2.1 H.2.2.2.2.2.1 H.1.2 H.2.2.2.2.1 (a1 := a1) (a2 := a2) (a3 := a3) (a4 := a4)
  exact ⟨e, w, hh, (H.way F.w G.w S V T).le (by omega) (by omega)⟩
theorem RA_write {N : Int} (h0 : 1000 ≤ N ∧ N ≤ 800000) {s m : XS} {a1 a2 a3 : Int} (h : RA N s m) : (f_X11_write s a1 a2 a3).2 = (f_X12_write m a1 a2 a3).2 ∧ RA (N + 120) (f_X11_write s a1 a2 a3).1 (f_X12_write m a1 a2 a3).1 := by
  obtain ⟨w, hh, H⟩ := h
  obtain ⟨e, F, F2, G, T⟩ := write_x H.2.2.2.2.1 (a1 := a1) (a2 := a2) (a3 := a3)
  exact ⟨e, w, hh, (H.way F.w G.w (H.1.2.of8 (fun t c k q1 q2 => F2 _ _ _ (by omega))) (H.2.2.2.2.2.1.fr (F2 _ _ _ (by omega)) (fun c k q => F2 _ _ _ (by omega))) T).le (by omega) (by omega)⟩
theorem RA_numbers {N : Int} (h0 : 1000 ≤ N ∧ N ≤ 800000) {s m : XS} {a1 a2 a3 : Int} (h : RA N s m) : (f_X11_numbers s a1 a2 a3).2 = (fm_X12_numbers m a1 a2 a3).2 ∧ RA (N + 120) (f_X11_numbers s a1 a2 a3).1 (fm_X12_numbers m a1 a2 a3).1 := by
  obtain ⟨w, hh, H⟩ := h
  obtain ⟨e, F, G, T⟩ := numbers_x H.2.2.2.2.1 (a1 := a1) (a2 := a2) (a3 := a3)
  exact ⟨e, w, hh, (H.way (fun t c k q1 q2 q3 q4 => F _ _ _ (by omega) (by omega)) (fun t c k q => G _ _ _ (by omega) (by omega) (by omega)) (H.1.2.of8 (fun t c k q1 q2 => F _ _ _ (by omega) (by omega))) (H.2.2.2.2.2.1.fr (F _ _ _ (by omega) (by omega)) (fun c k q => F _ _ _ (by omega) (by omega))) T).le (by omega) (by omega)⟩
theorem RA_feed {N : Int} (h0 : 1000 ≤ N ∧ N ≤ 800000) {s m : XS} {a1 a2 a3 a4 a5 : Int} (h : RA N s m) (hb : (f_X11_feed s a1 a2 a3 a4 a5).1 0 77 2 ≤ 900) : (f_X11_feed s a1 a2 a3 a4 a5).2 = (f_X12_feed m a1 a2 a3 a4 a5).2 ∧ RA (N + 120) (f_X11_feed s a1 a2 a3 a4 a5).1 (f_X12_feed m a1 a2 a3 a4 a5).1 := by
  obtain ⟨w, hh, H⟩ := h
  obtain ⟨e, S⟩ := RH_feed (a1 := a1) (a2 := a2) (a3 := a3) (a4 := a4) (a5 := a5) H.1.1 hb
  have F : ∀ t c k, ¬ (c = 77 ∨ c = 78) → (f_X11_feed s a1 a2 a3 a4 a5).1 t c k = s t c k := fun t c k q => feedc_f (by omega) (by omega)
  have G : ∀ t c k, ¬ (t = 0 ∧ c = 0) → ¬ (t = 1 ∧ c = 3) → (f_X12_feed m a1 a2 a3 a4 a5).1 t c k = m t c k := fun t c k q1 q2 => feedm_f (by omega) q2
  exact ⟨e, w, hh, (H.keep ⟨S, H.1.2.of8 (fun t c k q1 q2 => F _ _ _ (by omega))⟩ (fun t c k q1 q2 q3 q4 => F _ _ _ (by omega)) (funext fun k => G _ _ _ (by omega) (by omega)) (fun k => G _ _ _ (by omega) (by omega)) (H.2.2.2.2.2.1.fr (F _ _ _ (by omega)) (fun c k q => F _ _ _ (by omega))) (fun t ht => (H.2.2.2.2.1 t ht).fr ht (fun T c k _ _ => F _ _ _ (by omega)) (fun k => G _ _ _ (by omega) (by omega)) (fun k => G _ _ _ (by omega) (by omega)) (fun k => G _ _ _ (by omega) (by omega)))).le (by omega) (by omega)⟩
