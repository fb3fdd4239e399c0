/-! the whole of a trace -/
def FrTt (u s : XS) : Prop := ∀ t c k, ¬ (t = 1 ∧ (c = 8 ∨ c = 9 ∨ c = 80 ∨ c = 81 ∨ c = 82 ∨ c = 88 ∨ c = 89)) → ¬ (t = 0 ∧ c = 79 ∧ k = 4) → ¬ (t = 0 ∧ c = 87 ∧ (k = 5 ∨ k = 6)) → u t c k = s t c k
theorem FrTt.rf {s : XS} : FrTt s s := fun _ _ _ _ _ _ => rfl
theorem FrTt.tr {x y z : XS} (h : FrTt x y) (g : FrTt y z) : FrTt x z := fun t c k q1 q2 q3 => (h t c k q1 q2 q3).trans (g t c k q1 q2 q3)
theorem FrTr.tt {u s : XS} (h : FrTr u s) : FrTt u s := fun t c k q1 q2 q3 => h t c k (by omega) q2 (by omega)
theorem FrRb.tt {u s : XS} (h : FrRb u s) : FrTt u s := fun t c k q1 q2 _ => h t c k (by omega) q2
theorem FrTt.up {k : Nat} {v : Int} {s : XS} (hk : k = 5 ∨ k = 6) : FrTt (xup s 0 87 k v) s := fun t c j _ _ q => if_neg (fun z => q ⟨z.1, z.2.1, by omega⟩)
theorem FrTt.cs {B : Int} {w h : Nat} {s m u : XS} (F : FrTt u s) (H : CS B w h s m) : CS B w h u m := by
  obtain ⟨c1, c2, c3, c4, c5, c6, c7⟩ := H
  refine ⟨c1.fr (F _ _ _ (by omega) (by omega) (by omega)) (F _ _ _ (by omega) (by omega) (by omega)) (funext fun k => F _ _ _ (by omega) (by omega) (by omega)) (funext fun k => F _ _ _ (by omega) (by omega) (by omega)), c2.sameV (fun t c k _ _ q => F t c k (by omega) (by omega) (by omega)), ?_, ?_, c5, c6, c7⟩
  · rw [F _ _ _ (by omega) (by omega) (by omega)]; exact c3
  · rw [F _ _ _ (by omega) (by omega) (by omega)]; exact c4
theorem FrTt.ld {A : Nat → Int} {w h : Nat} {s u : XS} (F : FrTt u s) (L : Ld s A w h) : Ld u A w h := L.fr (F _ _ _ (by omega) (by omega) (by omega)) (F _ _ _ (by omega) (by omega) (by omega)) (funext fun k => F _ _ _ (by omega) (by omega) (by omega)) (funext fun k => F _ _ _ (by omega) (by omega) (by omega))
def FrTz (u m : XS) : Prop := ∀ t c k, ¬ (t = 1 ∧ (c = 9 ∨ c = 13)) → ¬ (t = 0 ∧ c = 0 ∧ k = 28) → u t c k = m t c k
theorem tr_x {B : Int} {w h : Nat} {s m0 m : XS} (H : CS B w h s m0) (L : Ld s (m0 1 1) w h) (V : FV (w * h) s (m0 1 1)) (hA : m 1 1 = m0 1 1) {t0 hh len cc k c0 d0 : Nat} (W : LLo (m0 1 1) noM (w * h) t0 hh m) (hl : len ≤ hh) (h60 : len ≤ 60) (h240 : t0 + len ≤ 240) (hc0 : c0 < w * h) (hd0 : d0 < 4) (hcc : cc < w * h) (hk : k ≤ 1000) (ex : ∃ l, l ≤ k ∧ Bk (m0 1 1) (t0 + len) cc len c0 d0 l) : ∃ u z, f_X7_trace s ((4 * c0 + d0 : Nat) : Int) (t0 : Int) (cc : Int) (k : Int) (len : Int) = (u, 0) ∧ f_X12_laysTurns m (c0 : Int) (d0 : Int) (cc : Int) (len : Int) (k : Int) = (z, 0) ∧ FV (w * h) u (m0 1 1) ∧ FrTt u s ∧ FrTz z m ∧ u 0 87 5 = (len : Int) ∧ (∀ x, x < len → u 1 89 x = z 1 13 x ∧ 0 ≤ z 1 13 x ∧ z 1 13 x ≤ 3) ∧ u 0 87 6 = z 0 0 28 := by
  obtain ⟨s1, hs1⟩ : ∃ s1, s1 = xup s 0 87 5 (len : Int) := ⟨_, rfl⟩
  have F1 : FrTt s1 s := by rw [hs1]; exact FrTt.up (Or.inl rfl)
  have e1 : s1 0 87 5 = (len : Int) := by rw [hs1, xup_s]
  have V1 : FV (w * h) s1 (m0 1 1) := V.fr (by rw [hs1, xup_c (by decide)]) (fun c k' q => by rw [hs1, xup_t (by decide)])
  obtain ⟨s2, a1, V2, F2, a4⟩ := look_x (F1.cs H) (F1.ld L) V1 (t0 := t0) (K := k) e1 h240 h60 hcc
  obtain ⟨s3, hs3⟩ : ∃ s3, s3 = xup s2 0 87 6 ((4 * c0 + d0 : Nat) : Int) := ⟨_, rfl⟩
  have F3 : FrTt s3 s := by rw [hs3]; exact (FrTt.up (Or.inr rfl)).tr (F2.tt.tr F1)
  have e3 : s3 0 87 5 = (len : Int) := by rw [hs3, xup_k (by decide), F2 _ _ _ (by omega) (by omega)]; exact e1
  have e36 : s3 0 87 6 = ((4 * c0 + d0 : Nat) : Int) := by rw [hs3, xup_s]
  have V3 : FV (w * h) s3 (m0 1 1) := V2.fr (by rw [hs3, xup_c (by decide)]) (fun c k' q => by rw [hs3, xup_t (by decide)])
  have B3 : ∀ j, j < len → BL (m0 1 1) (w * h) (t0 + len) cc k j s3 := fun j hj => (a4 j hj).fr (funext fun x => by rw [hs3, xup_t (by decide)])
  obtain ⟨m1, b1, b2, b3⟩ := still_x (m := m) (by rw [hA]; exact L) (t0 := t0) (hh := hh) (cc := cc) (by rw [hA]; exact W) hl h60
  rw [hA] at b3
  have hA1 : m1 1 1 = m0 1 1 := by rw [← hA]; exact funext fun x => b2 _ _ _ (by omega)
  obtain ⟨u, z, u1, u2, u3, u4, u5, u6, u7⟩ := fo_jt (F3.cs H) (F3.ld L) hA1 e3 h240 h60 hk B3 (b2.ll W) hl b3 61 0 c0 d0 k s3 m1 V3 FrTr.rf e36 FrTu.rf (fun x hx => absurd hx (by omega)) hc0 hd0 (Nat.le_refl _) ex (by omega) (by omega)
  refine ⟨u, z, ?_, ?_, u3, u4.tt.tr F3, fun t c k' q1 q2 => (u5 t c k' (by omega) q2).trans (b2 t c k' (by omega)), ?_, u6, u7⟩
  · have u1' : L2_X7_follow (Int.toNat (60 - 0 + 1)) s3 (t0 : Int) (k : Int) 0 = (u, 0) := u1
    simp only [f_X7_trace, g1w_X7_trace, g2c_X7_trace, g3c_X7_trace, f_X7_follow, g1w_X7_follow, ← hs1, a1, ← hs3, u1']
  · have u2' : L2_X12_laysTurns (Int.toNat (60 - 0 + 1)) m1 (len : Int) ((4 * c0 + d0 : Nat) : Int) (k : Int) 0 = (z, 0) := u2
    simp only [f_X12_laysTurns, g1c_X12_laysTurns, b1, show (4 * (c0 : Int)) + (d0 : Int) = ((4 * c0 + d0 : Nat) : Int) by omega, u2']
  · rw [u4 _ _ _ (by omega) (by omega) (by omega)]
    exact e3
