/-! go, walks: both -/
theorem CS.row {B : Int} {w h : Nat} {s m v : XS} (H : CS B w h s m) (hm : ∀ k, k < 112 ∨ 873 ≤ k → v 1 1 k = m 1 1 k) : CS B w h s v := by
  have p3 := H.pl.2.2.1
  obtain ⟨c1, ⟨a1, a2, a3, a4, a5, a6, a7, a8⟩, c3, c4, c5, c6, c7⟩ := H
  have e3 : v 1 1 3 = m 1 1 3 := hm 3 (by omega)
  refine ⟨c1.row (hm 1 (by omega)) (hm 2 (by omega)) (fun c hc => hm _ (by omega)), ⟨?_, ?_, ?_, ?_, ?_, ?_, ?_, ?_⟩, c3, c4, ?_, ?_, c7⟩
  · rw [hm 0 (by omega)]; exact a1
  · rw [hm 10 (by omega)]; exact a2
  · exact a3.same rfl rfl (fun _ => rfl) (fun _ => rfl) (fun k hk => hm k (by omega))
  · exact a4.same (fun _ => rfl) (fun _ _ _ _ => rfl) (fun k hk => hm k (by omega))
  · rw [hm 873 (by omega)]; exact a5
  · rw [hm 873 (by omega)]; exact a6
  · exact a7.same (by omega) (fun _ => rfl) (fun _ => rfl) (fun k hk => hm k (by omega)) (by rw [hm 873 (by omega)]; exact Int.le_refl _)
  · exact a8.same (by omega) (fun _ => rfl) (fun _ => rfl) (fun k hk => hm k (by omega)) (by rw [hm 873 (by omega)]; exact Int.le_refl _)
  · rw [e3]
    exact c5.same (fun k hk => hm (36 + k) (by have := hk.1; omega)) p3
  · rw [hm 10 (by omega)]; exact c6
/-- the class elsewhere than in its city -/
theorem CS.cls {B : Int} {w h : Nat} {s m u : XS} (H : CS B w h s m) (hs : ∀ t c k, 1 ≤ c → c ≤ 19 → u t c k = s t c k) : CS B w h u m := by
  obtain ⟨c1, c2, c3, c4, c5, c6, c7⟩ := H
  refine ⟨c1.fr (hs _ _ _ (by omega) (by omega)) (hs _ _ _ (by omega) (by omega)) (funext fun k => hs _ _ _ (by omega) (by omega)) (funext fun k => hs _ _ _ (by omega) (by omega)), c2.sameV (fun t c k q1 q2 _ => hs t c k q1 q2), ?_, ?_, c5, c6, c7⟩
  · rw [hs 0 2 3 (by omega) (by omega)]; exact c3
  · rw [hs 0 6 3 (by omega) (by omega)]; exact c4
theorem CS.le {B B' : Int} {w h : Nat} {s m : XS} (H : CS B w h s m) (h1 : B ≤ B') (h2 : B' ≤ 1000000) : CS B' w h s m := by
  obtain ⟨c1, c2, c3, c4, c5, c6, c7⟩ := H
  exact ⟨c1, c2, c3, c4, c5.le h1, c6, h2⟩
/-- places that a deed of either leaves alone -/
def FdC (u s : XS) : Prop := ∀ t c k, ¬ (t = 1 ∧ (c = 4 ∨ c = 5 ∨ c = 8 ∨ c = 9 ∨ (11 ≤ c ∧ c ≤ 17))) → ¬ (t = 0 ∧ c = 10 ∧ k = 8) → ¬ (t = 0 ∧ c = 0 ∧ (k = 16 ∨ k = 17)) → ¬ (119 ≤ c ∧ c ≤ 206) → ¬ (t = 0 ∧ c = 79 ∧ k = 4) → ¬ (t = 1 ∧ c = 207) → u t c k = s t c k
def FdM (v m : XS) : Prop := ∀ t c k, ¬ (t = 1 ∧ c = 1 ∧ ((36 ≤ k ∧ k ≤ 872))) → ¬ (t = 1 ∧ (c = 5 ∨ c = 6 ∨ c = 7)) → ¬ (t = 0 ∧ c = 0 ∧ k ≠ 5 ∧ k ≠ 13 ∧ k ≠ 14) → v t c k = m t c k
theorem FdC.rf {s : XS} : FdC s s := fun _ _ _ _ _ _ _ _ _ => rfl
theorem FdM.rf {s : XS} : FdM s s := fun _ _ _ _ _ _ => rfl
theorem FdC.tr {a b c : XS} (h : FdC a b) (g : FdC b c) : FdC a c := fun t c' k q1 q2 q3 q4 q5 q6 => (h t c' k q1 q2 q3 q4 q5 q6).trans (g t c' k q1 q2 q3 q4 q5 q6)
theorem FdM.tr {a b c : XS} (h : FdM a b) (g : FdM b c) : FdM a c := fun t c' k q1 q2 q3 => (h t c' k q1 q2 q3).trans (g t c' k q1 q2 q3)
theorem FrA.fd {u s : XS} (h : FrA u s) : FdC u s := fun t c k q1 _ _ _ _ _ => h t c k (by omega)
theorem FrV5.fd {u s : XS} (h : FrV5 u s) : FdM u s := fun t c k _ q2 _ => h t c k (by omega)
theorem FdM.thr {m : XS} {v : Int} : FdM (xup m 0 0 0 v) m := fun t c k _ _ q3 => thr_f (by omega)
/-- go: both. Behind it the city is right, and what was is noted -/
theorem go_x {B : Int} {w h : Nat} {s m : XS} (H : CS B w h s m) (R : Rg s m) (hB : B < 1000000) {a1 a2 : Int} : (f_X11_go s a1 a2).2 = (f_X12_go m a1 a2).2 ∧ CS (B + 1) w h (f_X11_go s a1 a2).1 (f_X12_go m a1 a2).1 ∧ Rg (f_X11_go s a1 a2).1 (f_X12_go m a1 a2).1 ∧ FdC (f_X11_go s a1 a2).1 s ∧ FdM (f_X12_go m a1 a2).1 m ∧ ((f_X11_go s a1 a2).1 0 79 4 = 0 ∨ FrA (f_X11_go s a1 a2).1 s) ∧ (RB B (w * h) m → RB B (w * h) (f_X12_go m a1 a2).1) := by
  obtain ⟨m0, hm0⟩ : ∃ m0, m0 = xup m 0 0 0 0 := ⟨_, rfl⟩
  have m0r : m0 1 1 = m 1 1 := funext fun k => by rw [hm0, xup_t (by decide)]
  have H0 : CS B w h s m0 := H.fr FrA.rf m0r
  have fm0 : FdM m0 m := by rw [hm0]; exact FdM.thr
  obtain ⟨u, v, v', e1, e2, f1, f2, f3⟩ := hind_x H0 (p := a1) (q := a1) (t := a2) (r := a2) ⟨fun _ => rfl, id⟩ ⟨fun _ => rfl, id⟩
  have H1 : CS B w h u v' := H0.fr f1 f2.row
  have R0 : Rg s m0 := R.same rfl rfl (fun _ _ _ _ _ => rfl) (by rw [m0r]) (fun k _ _ => by rw [m0r])
  have R1 : Rg u v' := R0.same (f1 _ _ _ (by omega)) (f1 _ _ _ (by omega)) (fun t c k _ _ => f1 t c k (by omega)) (f2 _ _ _ (by omega)) (fun k _ _ => f2 _ _ _ (by omega))
  have ec : f_X11_go s a1 a2 = if v = 0 then g3_X11_go u a1 a2 else (u, (-10) - v) := by
    simp only [f_X11_go, g1c_X11_go, g2b_X11_go, g4_X11_go, e1]
  have em : f_X12_go m a1 a2 = if v = 0 then g4_X12_go v' a1 a2 else (v', (-10) - v) := by
    simp only [f_X12_go, g1w_X12_go, g2c_X12_go, g3b_X12_go, g5_X12_go, ← hm0, e2]
  rw [ec, em]
  by_cases z : v = 0
  · rw [if_pos z, if_pos z]
    obtain ⟨P, T, g1, g1', g2, g3, g3', g4, g5, g6⟩ := f3 z
    subst g1
    subst g3
    rw [m0r] at g2 g5 g6
    -- the class keeps
    have k1 := keeps_x v'
    obtain ⟨mk, hmk⟩ : ∃ mk, mk = (f_X12_keeps v').1 := ⟨_, rfl⟩
    rw [← hmk] at k1
    have mkr : ∀ j, mk 1 1 j = v' 1 1 j := fun j => by rw [k1, if_neg (by omega)]
    have vr : v' 1 1 = m 1 1 := f2.row.trans m0r
    have mk6 : Fw (mk 1 1 3) (rwC u 10) (mk 1 6) := fun j hj => by
      have q := H1.fw j (by rw [mkr] at hj; exact hj)
      rw [q, k1, if_pos ⟨rfl, rfl, hj.1⟩]
      rfl
    obtain ⟨u2, hu2⟩ : ∃ u2, u2 = (f_X11_keep u 10).1 := ⟨_, rfl⟩
    have H2 : CS B w h u mk := H1.fr FrA.rf (funext mkr)
    -- the step, of the city that is kept
    have pl := H1.pl
    obtain ⟨⟨r1, r2⟩, ⟨r3, r4⟩, r5, -⟩ := H1.bd.1 P (by rw [vr]; exact g2)
    have R2 : Rg u mk := R1.same rfl rfl (fun _ _ _ _ _ => rfl) (mkr 3) (fun k _ _ => mkr k)
    -- the class's keep leaves the city alone; the reference goes first
    have kq := keep_x (e := 10) (Or.inl ⟨by decide, by decide⟩) R2 (by rw [mkr]; exact pl.1.symm) mk6
    rw [← hu2] at kq
    have u2c : ∀ t c k, 1 ≤ c → c ≤ 19 → u2 t c k = u t c k := fun t c k y1 y2 => kq.2.1 t c k (by omega) (by omega)
    have H3 : CS B w h u2 mk := H2.cls u2c
    have ekr : mk 1 1 = m 1 1 := (funext mkr).trans vr
    have gx := goes_x H3 (P := P) (T := T) (c := (m 1 1 (36 + P)).toNat) (d := (m 1 1 (41 + P)).toNat) (by rw [ekr]; exact g2) g4 (by rw [ekr]; rw [vr] at r1; omega) (by rw [ekr]; rw [vr] at r3; omega) (by rw [ekr]; exact g5) hB (by
      rw [ekr]
      unfold tkn
      rw [vr] at r5
      split
      · omega
      · split
        · omega
        · rename_i y1 y2
          exact g6 (by omega) y2)
    obtain ⟨x, y, x1, x2, x3, x4, x5, x6⟩ := gx
    have eg : g3_X11_go u (P : Int) (T : Int) = (xup x 0 79 4 0, xup x 0 79 4 0 1 11 P) := by
      simp only [g3_X11_go, g5c_X11_go, g6c_X11_go, g7c_X11_go, ← hu2, x1, forg_x]
      rfl
    have eh : g4_X12_go v' (P : Int) (T : Int) = ((f_X12_notes y).1, (f_X12_notes y).1 1 1 (36 + P)) := by
      simp only [g4_X12_go, g6c_X12_go, g7c_X12_go, g8c_X12_go, ← hmk, x2, show Int.toNat (36 + (P : Int)) = 36 + P by omega]
    rw [eg, eh]
    -- what is noted: the same as the class kept
    have yk : ∀ t c k, ¬ (t = 1 ∧ c = 1 ∧ 36 ≤ k ∧ k ≤ 111) → y t c k = mk t c k := x5
    have Ry : Rg u y := R2.same rfl rfl (fun _ _ _ _ _ => rfl) (yk _ _ _ (by omega)) (fun k _ _ => yk _ _ _ (by omega))
    have kq2 := keep_x (e := 10) (Or.inl ⟨by decide, by decide⟩) Ry (by rw [yk _ _ _ (by omega), mkr]; exact pl.1.symm) (by
      rw [yk _ _ _ (by omega)]
      intro j hj
      rw [yk _ _ _ (by omega)]
      exact mk6 j hj)
    rw [← hu2] at kq2
    obtain ⟨n1, n2, n3⟩ := kq2
    have rbn : RB B (w * h) m → RB B (w * h) (f_X12_notes y).1 := fun hr => by
      obtain ⟨f, n, -, -, -, a4, a5, -⟩ := R
      have yr : ∀ k, k < 36 ∨ 112 ≤ k → y 1 1 k = m 1 1 k := fun k q => by rw [yk _ _ _ (by omega), mkr, vr]
      refine notes_rb (n := n) ((yr 112 (by omega)).trans a5) a4 (by rw [yr 3 (by omega)]; exact H.pl.2.2.1) (hr.same (yr 3 (by omega)) H.pl.2.2.1 (fun k q1 q2 => yr k (by omega)) (by rw [a5]; omega)) ?_
      rw [yr 3 (by omega)]
      refine H.2.2.2.2.1.same (fun k hk => ?_) H.pl.2.2.1
      rw [yk _ _ _ (by omega), k1, if_pos ⟨rfl, rfl, hk.1⟩, vr]
      rfl
    generalize (f_X12_notes y).1 = nt at *
    have xo : ∀ t c k, ¬ (t = 0 ∧ c = 79 ∧ k = 4) → xup x 0 79 4 0 t c k = x t c k := fun t c k q => by
      unfold xup
      exact if_neg q
    refine ⟨?_, ?_, ?_, fun t c k q1 q2 q3 q4 q5 q6 => ?_, fun t c k q1 q2 q3 => ?_, Or.inl ?_, rbn⟩
    · show xup x 0 79 4 0 1 11 P = nt 1 1 (36 + P)
      have c1 := x3.pl.2.2.2.2.1 P (by rw [yk _ _ _ (by omega), mkr, vr]; exact g2)
      rw [xo _ _ _ (by omega), n3 _ _ _ (by have := H.pl.2.2.1; omega)]
      exact c1.1
    · show CS (B + 1) w h (xup x 0 79 4 0) nt
      exact (x3.cls (fun t c k y1 y2 => xo t c k (by omega))).row (fun k hk => n3 _ _ _ (by omega))
    · show Rg (xup x 0 79 4 0) nt
      exact n1.same ((xo _ _ _ (by omega)).trans (x4 _ _ _ (by omega) (by omega))) ((xo _ _ _ (by omega)).trans (x4 _ _ _ (by omega) (by omega))) (fun t c k y1 y2 => (xo t c k (by omega)).trans (x4 t c k (by omega) (by omega))) rfl (fun _ _ _ => rfl)
    · show xup x 0 79 4 0 t c k = s t c k
      rw [xo t c k q5, x4 t c k (by omega) q2, hu2]
      have := kq.2.1 t c k q3 (by omega)
      rw [hu2] at this
      rw [this]
      exact f1 t c k (by omega)
    · show nt t c k = m t c k
      rw [n3 t c k (by omega), yk t c k (by omega), k1, if_neg (by omega), f2 t c k (by omega)]
      exact fm0 t c k q1 q2 q3
    · show xup x 0 79 4 0 0 79 4 = 0
      exact xup_s
  · rw [if_neg z, if_neg z]
    exact ⟨rfl, H1.le (by omega) (by omega), R1, f1.fd, f2.fd.tr fm0, Or.inr f1, fun hr => hr.row (f2.row.trans m0r)⟩
