/-! watch and thief: what is known is kept -/
theorem like_l {u : XS} {w h : Nat} (h5 : u 0 1 5 = (w : Int)) (h6 : u 0 1 6 = (h : Int)) {a : Int} : ∀ (n : Nat) (x : Int), 0 ≤ x → x ≤ a + ((16 * (w * h) : Nat) : Int) → a + ((16 * (w * h) : Nat) : Int) - x < (n : Int) → (((L1_X3_isLikeTheLast n u a x).2 = 1 ∨ (L1_X3_isLikeTheLast n u a x).2 = 0) ∧ ((L1_X3_isLikeTheLast n u a x).2 = 1 ↔ ∀ k : Nat, x ≤ (k : Int) → (k : Int) < a + ((16 * (w * h) : Nat) : Int) → u 1 105 k = u 1 105 (k - 400)))
  | 0, x, _, q1, q2 => by omega
  | n + 1, x, q0, q1, q2 => by
    have e : L1_X3_isLikeTheLast (n + 1) u a x = if x < a + ((16 * (w * h) : Nat) : Int) then (if u 1 105 (Int.toNat x) = u 1 105 (Int.toNat (x - 400)) then L1_X3_isLikeTheLast n u a (x + 1) else (u, 0)) else (u, 1) := by
      show g2l_X3_isLikeTheLast (L1_X3_isLikeTheLast n) u a x = _
      have ec : f_X0_crossings u 1 = (u, (w : Int) * (h : Int)) := by
        rw [← h5, ← h6]; rfl
      have e4 : 16 * ((w : Int) * (h : Int)) = ((16 * (w * h) : Nat) : Int) := by
        rw [Int.natCast_mul, Int.natCast_mul]; rfl
      simp only [g2l_X3_isLikeTheLast, g3c_X3_isLikeTheLast, g4b_X3_isLikeTheLast, g5_X3_isLikeTheLast, g6_X3_isLikeTheLast, g7b_X3_isLikeTheLast, g8_X3_isLikeTheLast, g9_X3_isLikeTheLast, ec, e4]
    rw [e]
    by_cases z : x < a + ((16 * (w * h) : Nat) : Int)
    · rw [if_pos z]
      by_cases y : u 1 105 (Int.toNat x) = u 1 105 (Int.toNat (x - 400))
      · rw [if_pos y]
        obtain ⟨i1, i2⟩ := like_l (a := a) h5 h6 n (x + 1) (by omega) (by omega) (by omega)
        refine ⟨i1, i2.trans ⟨fun q k k1 k2 => ?_, fun q k k1 k2 => q k (by omega) k2⟩⟩
        by_cases c : (k : Int) = x
        · have c1 : Int.toNat x = k := by omega
          have c2 : Int.toNat (x - 400) = k - 400 := by omega
          rw [c1, c2] at y
          exact y
        · exact q k (by omega) k2
      · rw [if_neg y]
        refine ⟨Or.inr rfl, ⟨fun q => absurd q (by show ¬ (0 : Int) = 1; decide), fun q => ?_⟩⟩
        have t := q x.toNat (by omega) (by omega)
        rw [show x.toNat - 400 = Int.toNat (x - 400) by omega] at t
        exact absurd t y
    · rw [if_neg z]
      exact ⟨Or.inl rfl, ⟨fun _ k k1 k2 => by omega, fun _ => rfl⟩⟩
theorem like_x {u : XS} {w h : Nat} (h5 : u 0 1 5 = (w : Int)) (h6 : u 0 1 6 = (h : Int)) (b25 : w * h ≤ 25) {g : Nat} (hg : g ≤ 30) : ((f_X3_isLikeTheLast u ((g : Int) * 400)).2 = 1 ∨ (f_X3_isLikeTheLast u ((g : Int) * 400)).2 = 0) ∧ ((f_X3_isLikeTheLast u ((g : Int) * 400)).2 = 1 ↔ ∀ k : Nat, 400 * g ≤ k → k < 400 * g + 16 * (w * h) → u 1 105 k = u 1 105 (k - 400)) := by
  have q := like_l h5 h6 (a := (g : Int) * 400) (Int.toNat (12400 - (g : Int) * 400 + 1)) ((g : Int) * 400) (by omega) (by omega) (by omega)
  refine ⟨q.1, q.2.trans ⟨fun z k k1 k2 => z k (by omega) (by omega), fun z k k1 k2 => z k (by omega) (by omega)⟩⟩
theorem CC.stab {s : XS} {A : Nat → Int} {w h k : Nat} (L : Ld s A w h) (H : ∀ t v, t < 4 * (w * h) → v < 4 * (w * h) → CC A (k + 1) t v → CC A k t v) : ∀ (j t v : Nat), t < 4 * (w * h) → v < 4 * (w * h) → CC A (k + j) t v → CC A k t v
  | 0, t, v, _, _, q => q
  | j + 1, t, v, ht, hv, q => by
    refine H t v ht hv ?_
    have q2 : CC A ((k + j) + 1) t v := q
    unfold CC at q2 ⊢
    rcases q2 with q2 | q2
    · exact Or.inl q2
    · refine Or.inr (fun i hi => ?_)
      by_cases z : gOn A t i = -1
      · exact Or.inl z
      · rcases q2 i hi with y | y | ⟨l, y1, y2, y3⟩
        · exact Or.inl y
        · exact Or.inr (Or.inl y)
        · exact Or.inr (Or.inr ⟨l, y1, y2, CC.stab L H j _ _ (gon_r L ht z).2 (gon_r L hv y2).2 y3⟩)
/-- what the class knows of the chase -/
def HV (s : XS) (A : Nat → Int) (N : Nat) : Prop := ∃ k : Nat, s 0 104 3 = (k : Int) ∧ k ≤ 31 ∧ (∀ g, g < k → KT A (s 1 105) N g) ∧ (∀ k, -2147483648 ≤ s 1 105 k ∧ s 1 105 k ≤ 2147483647) ∧ (s 0 104 4 = 0 ∨ (s 0 104 4 = 1 ∧ 2 ≤ k ∧ ∀ t v, t < 4 * N → v < 4 * N → CC A (k - 1) t v → CC A (k - 2) t v))
theorem KT.same {A T : Nat → Int} {N g : Nat} {a b : Nat} (Ka : KT A T N a) (Kb : KT A T N b) (hb : N ≤ 25) (e : ∀ t hd, t < 4 * N → hd < 4 → T (400 * a + 4 * t + hd) = T (400 * b + 4 * t + hd)) : ∀ t v, t < 4 * N → v < 4 * N → CC A a t v → CC A b t v := by
  intro t v ht hv q
  have k1 := (Ka t (v % 4) (v / 4) ht (by omega) (by omega)).mpr ⟨by omega, by rw [show 4 * (v / 4) + v % 4 = v by omega]; exact q⟩
  rw [e t (v % 4) ht (by omega)] at k1
  have k2 := (Kb t (v % 4) (v / 4) ht (by omega) (by omega)).mp k1
  rw [show 4 * (v / 4) + v % 4 = v by omega] at k2
  exact k2.2
def FC (u s : XS) : Prop := ∀ t c k, ¬ (t = 1 ∧ (c = 105 ∨ c = 106)) → ¬ (t = 0 ∧ c = 104 ∧ (k = 3 ∨ k = 4)) → u t c k = s t c k
theorem FC.rf {s : XS} : FC s s := fun _ _ _ _ _ => rfl
theorem FC.tr {a b c : XS} (h : FC a b) (g : FC b c) : FC a c := fun t c' k q r => (h t c' k q r).trans (g t c' k q r)
theorem FH.fc {u s : XS} (h : FH u s) : FC u s := fun t c k q _ => h t c k q
theorem FC.up {s : XS} {k : Nat} {v : Int} (h : k = 3 ∨ k = 4) : FC (xup s 0 104 k v) s := fun t c' k' _ q => by
  unfold xup
  exact if_neg (fun e => q ⟨e.1, e.2.1, by omega⟩)
theorem FC.ld {u s : XS} {A : Nat → Int} {w h : Nat} (F : FC u s) (L : Ld s A w h) : Ld u A w h := L.fr (F _ _ _ (by decide) (by decide)) (F _ _ _ (by decide) (by decide)) (funext fun k => F _ _ _ (by decide) (by omega)) (funext fun k => F _ _ _ (by decide) (by omega))
theorem cat_s {n : Nat} {s : XS} {a1 a2 a3 : Int} : L1_X3_catching (n + 1) s a1 a2 a3 = if a3 < s 0 104 3 ∨ s 0 104 4 ≠ 0 then (s, s 1 105 (Int.toNat ((((min a3 ((s 0 104 3) - 1)) * 400) + (4 * a1)) + a2))) else L1_X3_catching n (xup (xup (f_X3_workOut s (s 0 104 3)).1 0 104 4 (if 0 < (f_X3_workOut s (s 0 104 3)).1 0 104 3 ∧ (f_X3_isLikeTheLast (f_X3_workOut s (s 0 104 3)).1 (((f_X3_workOut s (s 0 104 3)).1 0 104 3) * 400)).2 ≠ 0 then 1 else 0)) 0 104 3 ((f_X3_workOut s (s 0 104 3)).1 0 104 3 + 1)) a1 a2 a3 := by
  show g2l_X3_catching (L1_X3_catching n) s a1 a2 a3 = _
  have es : ∀ v a, (f_X3_isLikeTheLast v a).1 = v := fun v a => pu_f_X3_isLikeTheLast
  simp only [g2l_X3_catching, g3b_X3_catching, g4_X3_catching, g5_X3_catching, g6b_X3_catching, g7_X3_catching, g8_X3_catching, g9c_X3_catching, g10b_X3_catching, g11_X3_catching, g12_X3_catching, g13w_X3_catching, g14w_X3_catching, g15c_X3_catching, g16b_X3_catching, g17_X3_catching, g18_X3_catching, g19w_X3_catching, g20w_X3_catching, g21w_X3_catching, g22w_X3_catching, es]
  by_cases z : a3 < s 0 104 3
  · rw [if_pos z, if_pos (Or.inl z)]
  · rw [if_neg z]
    by_cases y : s 0 104 4 = 0
    · rw [if_pos y, if_neg (show ¬ (a3 < s 0 104 3 ∨ s 0 104 4 ≠ 0) from fun q => q.elim z (fun r => r y))]
      generalize (f_X3_workOut s (s 0 104 3)).1 = v
      have e3 : ∀ x, xup v 0 104 4 x 0 104 3 = v 0 104 3 := fun x => xup_k (by decide)
      by_cases c : 0 < v 0 104 3
      · rw [if_pos c]
        by_cases d : (f_X3_isLikeTheLast v (v 0 104 3 * 400)).2 = 0
        · rw [if_pos d, if_neg (show ¬ (0 < v 0 104 3 ∧ (f_X3_isLikeTheLast v (v 0 104 3 * 400)).2 ≠ 0) from fun q => q.2 d), e3]
        · rw [if_neg d, if_pos (show 0 < v 0 104 3 ∧ (f_X3_isLikeTheLast v (v 0 104 3 * 400)).2 ≠ 0 from ⟨c, d⟩), e3]
      · rw [if_neg c, if_neg (show ¬ (0 < v 0 104 3 ∧ (f_X3_isLikeTheLast v (v 0 104 3 * 400)).2 ≠ 0) from fun q => c q.1), e3]
    · rw [if_neg y, if_pos (Or.inr y)]
theorem cat_l {A : Nat → Int} {w h : Nat} {t hd g : Nat} (ht : t < 4 * (w * h)) (hh : hd < 4) (hg : g ≤ 30) : ∀ (n : Nat) (s : XS), Ld s A w h → HV s A (w * h) → 31 - s 0 104 3 < (n : Int) → HV (L1_X3_catching n s (t : Int) (hd : Int) (g : Int)).1 A (w * h) ∧ FC (L1_X3_catching n s (t : Int) (hd : Int) (g : Int)).1 s ∧ (-2147483648 ≤ (L1_X3_catching n s (t : Int) (hd : Int) (g : Int)).2 ∧ (L1_X3_catching n s (t : Int) (hd : Int) (g : Int)).2 ≤ 2147483647) ∧ ∀ c, c < 32 → (bz (L1_X3_catching n s (t : Int) (hd : Int) (g : Int)).2 c = true ↔ (c < w * h ∧ CC A g t (4 * c + hd)))
  | 0, s, L, H, q => by
    obtain ⟨k, k1, k2, -⟩ := H
    omega
  | n + 1, s, L, H, q => by
    have b25 := L.b25
    rw [cat_s]
    obtain ⟨k, k1, k2, k3, k4, k5⟩ := id H
    by_cases z : (g : Int) < s 0 104 3 ∨ s 0 104 4 ≠ 0
    · rw [if_pos z]
      refine ⟨H, FC.rf, k4 _, fun c hc => ?_⟩
      show bz (s 1 105 (Int.toNat ((((min (g : Int) ((s 0 104 3) - 1)) * 400) + (4 * (t : Int))) + (hd : Int)))) c = true ↔ _
      rw [k1]
      by_cases y : g < k
      · rw [show Int.toNat ((((min (g : Int) ((k : Int) - 1)) * 400) + (4 * (t : Int))) + (hd : Int)) = 400 * g + 4 * t + hd by omega]
        exact k3 g y t hd c ht hh hc
      · obtain ⟨c1, c2, c3⟩ : s 0 104 4 = 1 ∧ 2 ≤ k ∧ ∀ t v, t < 4 * (w * h) → v < 4 * (w * h) → CC A (k - 1) t v → CC A (k - 2) t v := by
          rcases k5 with q | q
          · exfalso
            rcases z with z | z
            · omega
            · exact z q
          · exact q
        rw [show Int.toNat ((((min (g : Int) ((k : Int) - 1)) * 400) + (4 * (t : Int))) + (hd : Int)) = 400 * (k - 1) + 4 * t + hd by omega, k3 (k - 1) (by omega) t hd c ht hh hc]
        constructor
        · rintro ⟨r1, r2⟩
          exact ⟨r1, r2.le (by omega)⟩
        · rintro ⟨r1, r2⟩
          have r3 := CC.stab L (k := k - 2) (by rw [show k - 2 + 1 = k - 1 by omega]; exact c3) (g - (k - 2)) t (4 * c + hd) ht (by omega) (by rw [show k - 2 + (g - (k - 2)) = g by omega]; exact r2)
          exact ⟨r1, r3.le (by omega)⟩
    · rw [if_neg z]
      have z1 : ¬ (g : Int) < s 0 104 3 := fun y => z (Or.inl y)
      have z2 : s 0 104 4 = 0 := Classical.byContradiction (fun y => z (Or.inr y))
      rw [k1] at z1 q
      rw [k1]
      obtain ⟨w1, w2, w3, w4⟩ := work_x (g := k) L (fun y => k3 (k - 1) (by omega))
      generalize (f_X3_workOut s (k : Int)).1 = v at *
      have v3 : v 0 104 3 = (k : Int) := (w1 _ _ _ (by decide)).trans k1
      rw [v3]
      have Lv := w1.ld L
      have lk := like_x Lv.2.1.1 Lv.2.1.2.1 b25 (g := k) (by omega)
      obtain ⟨b, hb⟩ : ∃ b : Int, b = (if 0 < (k : Int) ∧ (f_X3_isLikeTheLast v ((k : Int) * 400)).2 ≠ 0 then 1 else 0) := ⟨_, rfl⟩
      rw [← hb]
      have u3 : xup (xup v 0 104 4 b) 0 104 3 ((k : Int) + 1) 0 104 3 = (k : Int) + 1 := xup_s
      have u4 : xup (xup v 0 104 4 b) 0 104 3 ((k : Int) + 1) 0 104 4 = b := by rw [xup_k (by decide), xup_s]
      have u5 : xup (xup v 0 104 4 b) 0 104 3 ((k : Int) + 1) 1 105 = v 1 105 := funext fun j => by rw [xup_t (by decide), xup_t (by decide)]
      have fc : FC (xup (xup v 0 104 4 b) 0 104 3 ((k : Int) + 1)) s := (FC.up (Or.inl rfl)).tr ((FC.up (Or.inr rfl)).tr w1.fc)
      have nH : HV (xup (xup v 0 104 4 b) 0 104 3 ((k : Int) + 1)) A (w * h) := by
        refine ⟨k + 1, by rw [u3]; omega, by omega, fun j hj => ?_, by rw [u5]; exact w3 k4, ?_⟩
        · rw [u5]
          by_cases e : j = k
          · rw [e]; exact w4
          · intro t' h' c' q1 q2 q3
            rw [w2 _ (Or.inl (by omega))]
            exact k3 j (by omega) t' h' c' q1 q2 q3
        · rw [u4, hb]
          by_cases e : 0 < (k : Int) ∧ (f_X3_isLikeTheLast v ((k : Int) * 400)).2 ≠ 0
          · rw [if_pos e]
            refine Or.inr ⟨rfl, by omega, ?_⟩
            rw [show k + 1 - 1 = k by omega, show k + 1 - 2 = k - 1 by omega]
            have y := lk.2.mp (lk.1.resolve_right e.2)
            have Kb : KT A (v 1 105) (w * h) (k - 1) := fun t' h' c' q1 q2 q3 => by
              rw [w2 _ (Or.inl (by omega))]
              exact k3 (k - 1) (by omega) t' h' c' q1 q2 q3
            refine KT.same (g := 0) w4 Kb b25 (fun t' h' q1 q2 => ?_)
            rw [y (400 * k + 4 * t' + h') (by omega) (by omega), show 400 * k + 4 * t' + h' - 400 = 400 * (k - 1) + 4 * t' + h' by omega]
          · rw [if_neg e]; exact Or.inl rfl
      obtain ⟨i1, i2, i3, i4⟩ := cat_l ht hh hg n _ (fc.ld L) nH (by rw [u3]; omega)
      exact ⟨i1, i2.tr fc, i3, i4⟩
theorem cat_x {A : Nat → Int} {w h : Nat} {t hd g : Nat} {s : XS} (ht : t < 4 * (w * h)) (hh : hd < 4) (hg : g ≤ 30) (L : Ld s A w h) (H : HV s A (w * h)) : HV (fm_X3_catching s (t : Int) (hd : Int) (g : Int)).1 A (w * h) ∧ FC (fm_X3_catching s (t : Int) (hd : Int) (g : Int)).1 s ∧ (-2147483648 ≤ (fm_X3_catching s (t : Int) (hd : Int) (g : Int)).2 ∧ (fm_X3_catching s (t : Int) (hd : Int) (g : Int)).2 ≤ 2147483647) ∧ ∀ c, c < 32 → (bz (fm_X3_catching s (t : Int) (hd : Int) (g : Int)).2 c = true ↔ (c < w * h ∧ CC A g t (4 * c + hd))) := by
  have e : fm_X3_catching s (t : Int) (hd : Int) (g : Int) = L1_X3_catching (Int.toNat (31 - (s 0 104 3) + 1)) s (t : Int) (hd : Int) (g : Int) := rfl
  rw [e]
  obtain ⟨k, k1, k2, -⟩ := id H
  exact cat_l ht hh hg _ s L H (by rw [k1]; omega)
/-! chase, posts: the class -/
theorem ch_l {A : Nat → Int} {w h : Nat} {t c hd a1 a2 : Nat} (et : 4 * a1 + a2 = t) (ht : t < 4 * (w * h)) (hc : c < w * h) (hh : hd < 4) (b25 : w * h ≤ 25) : ∀ (n : Nat) (s : XS) (x : Nat), x ≤ 31 → (31 : Int) - x < (n : Int) → Ld s A w h → HV s A (w * h) → (∀ j, j < x → ¬ CC A j t (4 * c + hd)) → HV (L9_X11_chase n s (a1 : Int) (a2 : Int) (c : Int) (hd : Int) (x : Int)).1 A (w * h) ∧ FC (L9_X11_chase n s (a1 : Int) (a2 : Int) (c : Int) (hd : Int) (x : Int)).1 s ∧ TV A 31 (L9_X11_chase n s (a1 : Int) (a2 : Int) (c : Int) (hd : Int) (x : Int)).2 t (4 * c + hd)
  | 0, s, x, q1, q2, _, _, _ => by omega
  | n + 1, s, x, q1, q2, L, H, Q => by
    have e : L9_X11_chase (n + 1) s (a1 : Int) (a2 : Int) (c : Int) (hd : Int) (x : Int) = if 30 < (x : Int) then (s, -1) else (if Xiand (Xishr (fm_X3_catching s ((4 * (a1 : Int)) + (a2 : Int)) (hd : Int) (x : Int)).2 (c : Int)) 1 = 0 then L9_X11_chase n (fm_X3_catching s ((4 * (a1 : Int)) + (a2 : Int)) (hd : Int) (x : Int)).1 (a1 : Int) (a2 : Int) (c : Int) (hd : Int) ((x : Int) + 1) else ((fm_X3_catching s ((4 * (a1 : Int)) + (a2 : Int)) (hd : Int) (x : Int)).1, (x : Int))) := by
      show g10l_X11_chase (L9_X11_chase n) s _ _ _ _ _ = _
      simp only [g10l_X11_chase, g11b_X11_chase, g12_X11_chase, g13_X11_chase, g14c_X11_chase, g15b_X11_chase, g16_X11_chase, g17_X11_chase]
    rw [e, show (4 * (a1 : Int)) + (a2 : Int) = (t : Int) by omega]
    by_cases z : 30 < (x : Int)
    · rw [if_pos z]
      exact ⟨H, FC.rf, Or.inl ⟨rfl, fun k hk => Q k (by omega)⟩⟩
    · rw [if_neg z]
      obtain ⟨c1, c2, -, c4⟩ := cat_x ht hh (g := x) (by omega) L H
      have y := c4 c (by omega)
      rw [bz_tst (by omega)]
      generalize fm_X3_catching s (t : Int) (hd : Int) (x : Int) = r at *
      by_cases d : bz r.2 c = true
      · rw [if_pos d, if_neg (by decide)]
        exact ⟨c1, c2, Or.inr ⟨x, by omega, rfl, (y.mp d).2, Q⟩⟩
      · rw [if_neg d, if_pos rfl]
        obtain ⟨i1, i2, i3⟩ := ch_l et ht hc hh b25 n r.1 (x + 1) (by omega) (by omega) (c2.ld L) c1 (fun j hj => by
          by_cases k : j = x
          · rw [k]; exact fun u => d (y.mpr ⟨hc, u⟩)
          · exact Q j (by omega))
        rw [show ((x + 1 : Nat) : Int) = (x : Int) + 1 by omega] at i1 i2 i3
        exact ⟨i1, i2.tr c2, i3⟩
theorem TV.eq {A : Nat → Int} {p : Nat} {v v' : Int} {t w : Nat} (h : TV A p v t w) (g : TV A p v' t w) : v = v' := by
  rcases h with ⟨h1, h2⟩ | ⟨k, h1, h2, h3, h4⟩ <;> rcases g with ⟨g1, g2⟩ | ⟨j, g1, g2, g3, g4⟩
  · rw [h1, g1]
  · exact absurd g3 (h2 j g1)
  · exact absurd h3 (g2 k h1)
  · have a1 : ¬ j < k := fun q => h4 j q g3
    have a2 : ¬ k < j := fun q => g4 k q h3
    omega
theorem TV.ne {A : Nat → Int} {n : Nat} {v : Int} {t w : Nat} (h : TV A (n + 1) v t w) : v ≠ -1 ↔ CC A n t w := by
  have q := h.lo (Nat.le_refl (n + 1))
  rcases h with ⟨h1, h2⟩ | ⟨k, h1, h2, h3, h4⟩
  · exact ⟨fun z => absurd h1 z, fun z => absurd z (h2 n (by omega))⟩
  · exact ⟨fun _ => h3.le (by omega), fun _ => by omega⟩
