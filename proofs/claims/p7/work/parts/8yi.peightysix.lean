/-! lists: the answer, the trays behind -/
def FrLs (u s : XS) : Prop := ∀ t c k, ¬ (t = 1 ∧ (c = 8 ∨ c = 9 ∨ c = 80 ∨ c = 81 ∨ c = 82 ∨ c = 84 ∨ c = 85 ∨ c = 88 ∨ c = 89)) → ¬ (t = 0 ∧ c = 79 ∧ k = 4) → ¬ (t = 0 ∧ c = 87 ∧ (k = 5 ∨ k = 6)) → ¬ (c = 83) → ¬ (t = 2 ∧ 108 ≤ c ∧ c ≤ 114) → u t c k = s t c k
def FrLm (v m : XS) : Prop := ∀ t c k, ¬ (t = 1 ∧ (c = 5 ∨ c = 8 ∨ c = 9 ∨ c = 10 ∨ c = 11 ∨ c = 12 ∨ c = 13)) → ¬ (t = 0 ∧ c = 0 ∧ (k = 0 ∨ k = 26 ∨ k = 28)) → ¬ (t = 2 ∧ c = 25) → v t c k = m t c k
theorem FrLm.thr {m : XS} : FrLm (xup m 0 0 0 0) m := fun t c k q1 q2 _ => FrMh.thr t c k q1 q2
theorem Tr.sh {s m u v : XS} {t : Nat} (h : Tr s m t) (ht : t < 4) (F : FrSh u s) (G : FrMh v m) : Tr u v t := by
  have e1 : v 1 23 t = m 1 23 t := G _ _ _ (by omega) (by omega)
  have e2 : v 1 24 t = m 1 24 t := G _ _ _ (by omega) (by omega)
  have e3 : u 0 (107 + 2 * t) 2 = s 0 (107 + 2 * t) 2 := F _ _ _ (by omega) (by omega) (by omega) (by omega)
  have e4 : u 0 (107 + 2 * t) 1 = s 0 (107 + 2 * t) 1 := F _ _ _ (by omega) (by omega) (by omega) (by omega)
  unfold Tr
  rw [e1, e2, e3, e4]
  refine h.imp id (fun q => ⟨q.1, q.2.1, q.2.2.1, q.2.2.2.1, q.2.2.2.2.1, q.2.2.2.2.2.1, q.2.2.2.2.2.2.1, fun i hi => ?_⟩)
  rw [F _ _ _ (by omega) (by omega) (by omega) (by omega), G _ _ _ (by omega) (by omega)]
  exact q.2.2.2.2.2.2.2 i hi
theorem lists_x {B : Int} {w h : Nat} {s m : XS} (H : CS B w h s m) (V : FV (w * h) s (m 1 1)) (Sq : SQ 0 s) (hT : ∀ t, t < 4 → Tr s m t) {a1 a2 a3 a4 : Int} : (f_X11_lists s a1 a2 a3 a4).2 = (f_X12_lists m a1 a2 a3 a4).2 ∧ FV (w * h) (f_X11_lists s a1 a2 a3 a4).1 (m 1 1) ∧ SQ 0 (f_X11_lists s a1 a2 a3 a4).1 ∧ FrLs (f_X11_lists s a1 a2 a3 a4).1 s ∧ FrLm (f_X12_lists m a1 a2 a3 a4).1 m ∧ ∀ t, t < 4 → Tr (f_X11_lists s a1 a2 a3 a4).1 (f_X12_lists m a1 a2 a3 a4).1 t := by
  obtain ⟨n1, n2⟩ := H.who
  rw [lists_ec, lists_em, n1, n2, ← H.pl.1]
  have none : ∀ x : Int, ((s, x) : XR).2 = ((xup m 0 0 0 0, x) : XR).2 ∧ FV (w * h) s (m 1 1) ∧ SQ 0 s ∧ FrLs s s ∧ FrLm (xup m 0 0 0 0) m ∧ ∀ t, t < 4 → Tr s (xup m 0 0 0 0) t := fun x => ⟨rfl, V, Sq, fun _ _ _ _ _ _ _ _ => rfl, FrLm.thr, fun t ht => (hT t ht).sh ht (fun _ _ _ _ _ _ _ => rfl) FrMh.thr⟩
  by_cases tt : 0 ≤ a1 ∧ a1 ≤ 3
  · rw [if_pos tt, if_pos tt]
    obtain ⟨t, rfl⟩ : ∃ t : Nat, a1 = (t : Int) := ⟨a1.toNat, by omega⟩
    rw [show (t : Int).toNat = t from rfl]
    by_cases z : 0 ≤ a2 ∧ a2 < m 1 1 3
    · rw [if_pos z]
      by_cases y : 0 ≤ a3 ∧ a3 < ((w * h : Nat) : Int)
      · rw [if_pos y, if_pos (show (0 ≤ a2 ∧ a2 < m 1 1 3) ∧ (0 ≤ a3 ∧ a3 ≤ ((w * h : Nat) : Int) - 1) from ⟨z, y.1, by omega⟩)]
        rcases hT t (by omega) with ⟨t1, t2⟩ | ⟨t1, -, -, -, t3, t4, t5, t6⟩
        · rw [if_pos (show s 0 (107 + 2 * t) 2 < 0 by omega), if_pos t1]
          exact none _
        rw [if_neg (show ¬ s 0 (107 + 2 * t) 2 < 0 by omega), if_neg t1]
        by_cases x : 0 ≤ a4 ∧ a4 ≤ 120
        · rw [if_neg (show ¬ a4 < 0 by omega), if_neg (show ¬ 120 < a4 by omega), if_pos x]
          obtain ⟨p, rfl⟩ : ∃ p : Nat, a2 = (p : Int) := ⟨a2.toNat, by omega⟩
          obtain ⟨c, rfl⟩ : ∃ c : Nat, a3 = (c : Int) := ⟨a3.toNat, by omega⟩
          obtain ⟨k, rfl⟩ : ∃ k : Nat, a4 = (k : Int) := ⟨a4.toNat, by omega⟩
          obtain ⟨Z, hZ⟩ : ∃ Z : Nat, m 1 24 t = (Z : Int) := ⟨(m 1 24 t).toNat, by omega⟩
          have p5 := H.pl.2.2.1
          obtain ⟨⟨b1, b2⟩, ⟨b3, b4⟩, -⟩ := H.bd.1 p z.2
          obtain ⟨p1, p2, -⟩ := H.pl.2.2.2.2.1 p z.2
          obtain ⟨c0, h0⟩ : ∃ c0 : Nat, m 1 1 (36 + p) = (c0 : Int) := ⟨(m 1 1 (36 + p)).toNat, by omega⟩
          obtain ⟨d0, h1⟩ : ∃ d0 : Nat, m 1 1 (41 + p) = (d0 : Int) := ⟨(m 1 1 (41 + p)).toNat, by omega⟩
          have L := H.ld (show 0 < w * h by omega)
          rw [show (p : Int).toNat = p from rfl, p1, p2, h0, h1, show 4 * (c0 : Int) + (d0 : Int) = ((4 * c0 + d0 : Nat) : Int) by omega]
          have m0r : (xup m 0 0 0 0) 1 1 = m 1 1 := funext fun x => xup_t (by decide)
          obtain ⟨u, v, r, u1, u2, u3, u4, u5, u6, u7⟩ := sh_x (m := xup m 0 0 0 0) (H.fr FrA.rf m0r) (by rw [m0r]; exact L) (by rw [m0r]; exact V) Sq (p := p) (c0 := c0) (d0 := d0) (c := c) (k := k) (by rw [m0r]; exact h0) (by rw [m0r]; exact h1) (by omega) (by omega) (by omega) (by omega)
          rw [m0r] at u3
          have fr : FrMh v m := fun t c' k' q1 q2 => (u6 t c' k' q1 (by omega)).trans (FrMh.thr t c' k' q1 q2)
          have fu : FrSh u s := u5
          have v24 : v 1 24 t = (Z : Int) := (fr _ _ _ (by omega) (by omega)).trans hZ
          have uZ : u 0 (107 + 2 * t) 2 = (Z : Int) := by rw [fu _ _ _ (by omega) (by omega) (by omega) (by omega), t3]; exact hZ
          rw [u1, u2]
          show (g23c_X11_lists u (if r < 0 then 0 else 1) (p : Int) (107 + 2 * t)).2 = (g18c_X12_lists v r (t : Int) (p : Int)).2 ∧ FV (w * h) (g23c_X11_lists u (if r < 0 then 0 else 1) (p : Int) (107 + 2 * t)).1 (m 1 1) ∧ SQ 0 (g23c_X11_lists u (if r < 0 then 0 else 1) (p : Int) (107 + 2 * t)).1 ∧ FrLs (g23c_X11_lists u (if r < 0 then 0 else 1) (p : Int) (107 + 2 * t)).1 s ∧ FrLm (g18c_X12_lists v r (t : Int) (p : Int)).1 m ∧ ∀ t', t' < 4 → Tr (g23c_X11_lists u (if r < 0 then 0 else 1) (p : Int) (107 + 2 * t)).1 (g18c_X12_lists v r (t : Int) (p : Int)).1 t'
          rcases u7 with q | ⟨len, q1, q2, q3, q4, -⟩
          · have ec : g23c_X11_lists u (if r < 0 then 0 else 1) (p : Int) (107 + 2 * t) = (u, -5) := by
              rw [if_pos (show r < 0 by omega)]
              simp only [g23c_X11_lists, g24b_X11_lists, g26_X11_lists]
              rw [if_pos trivial]
            have em : g18c_X12_lists v r (t : Int) (p : Int) = (v, -5) := by
              simp only [g18c_X12_lists, g19b_X12_lists, g21_X12_lists]
              rw [if_pos q]
            rw [ec, em]
            exact ⟨rfl, u3, u4, fun t c' k' q1 q2 q3 q4 _ => fu t c' k' q1 q2 q3 q4, fun t c' k' q1 q2 _ => fr t c' k' q1 q2, fun t' ht => (hT t' ht).sh ht fu fr⟩
          · obtain ⟨W, hW⟩ : ∃ W, W = min Z (1 + len) := ⟨_, rfl⟩
            obtain ⟨a, a1, a2, a3⟩ := li_c (b := 107 + 2 * t) (p := (p : Int)) (f := fun x => v 1 13 x) (len := len) (W := W) (by omega) (by omega) (fun x hx => (q4 x hx).2) q3 (fun x hx => (q4 x hx).1) 41 0 u (fun _ _ _ _ => rfl) (fun j => by rw [if_neg (by omega)]) (by omega) (by omega)
            have ec : g23c_X11_lists u (if r < 0 then 0 else 1) (p : Int) (107 + 2 * t) = (a, (W : Int)) := by
              rw [if_neg (show ¬ r < 0 by omega)]
              simp only [g23c_X11_lists, g24b_X11_lists, g25_X11_lists, g27c_X11_lists, f_X7_length, q3, uZ, show min (Z : Int) (1 + (len : Int)) = (W : Int) by omega]
              rw [if_neg (show ¬ (1 : Int) = 0 by decide)]
              exact a1
            have em : ∃ b, g18c_X12_lists v r (t : Int) (p : Int) = (b, (W : Int)) ∧ (∀ T c k, ¬ (T = 2 ∧ c = 25) → b T c k = v T c k) ∧ (∀ j, b 2 25 j = if 40 * t ≤ j ∧ j < 40 * t + W then wyA (p : Int) (fun x => v 1 13 x) (j - 40 * t) else v 2 25 j) := by
              have e0 : g18c_X12_lists v r (t : Int) (p : Int) = if (len : Int) + 1 < (Z : Int) then L35_X12_lists 40 v (t : Int) (p : Int) ((len : Int) + 1) 0 else L25_X12_lists 41 v (t : Int) (p : Int) (Z : Int) 0 := by
                simp only [g18c_X12_lists, g19b_X12_lists, g20_X12_lists, g22b_X12_lists, g23_X12_lists, g24_X12_lists, Int.toNat_natCast, v24, q2]
                rw [if_neg (by omega)]
                rfl
              rw [e0]
              by_cases k' : (len : Int) + 1 < (Z : Int)
              · rw [if_pos k']
                obtain ⟨b, i1, i2, i3, i4⟩ := li_b (t := t) (p := (p : Int)) (f := fun x => v 1 13 x) (len := len) (W := W) (by omega) (m := v) (fun _ _ => rfl) 40 0 v (fun _ _ _ _ => rfl) (fun j => by rw [if_neg (by omega)]) (by omega) (by omega)
                refine ⟨b, ?_, i3, i4⟩
                rw [show (len : Int) + 1 = (W : Int) by omega]
                exact i2
              · rw [if_neg k']
                obtain ⟨b, i1, i2, i3, i4⟩ := li_b (t := t) (p := (p : Int)) (f := fun x => v 1 13 x) (len := len) (W := W) (by omega) (m := v) (fun _ _ => rfl) 41 0 v (fun _ _ _ _ => rfl) (fun j => by rw [if_neg (by omega)]) (by omega) (by omega)
                refine ⟨b, ?_, i3, i4⟩
                rw [show (Z : Int) = (W : Int) by omega]
                exact i1
            obtain ⟨b, e1, e2, e3⟩ := em
            rw [ec, e1]
            refine ⟨rfl, u3.fr (a2 _ _ _ (by omega)) (fun c' k' _ => a2 _ _ _ (by omega)), u4.of8 (fun t' c' k' _ _ => a2 _ _ _ (by omega)), fun t' c' k' q1 q2 q3 q4 q5 => (a2 _ _ _ (by omega)).trans (fu t' c' k' q1 q2 q3 q4), fun t' c' k' q1 q2 q3 => (e2 _ _ _ q3).trans (fr t' c' k' q1 q2), fun t' ht => ?_⟩
            have T0 := (hT t' ht).sh ht fu fr
            show Tr a b t'
            have g1 : b 1 23 t' = v 1 23 t' := e2 _ _ _ (by omega)
            have g2 : b 1 24 t' = v 1 24 t' := e2 _ _ _ (by omega)
            have g3 : a 0 (107 + 2 * t') 2 = u 0 (107 + 2 * t') 2 := a2 _ _ _ (by omega)
            have g4 : a 0 (107 + 2 * t') 1 = u 0 (107 + 2 * t') 1 := a2 _ _ _ (by omega)
            unfold Tr at T0 ⊢
            rw [g1, g2, g3, g4]
            refine T0.imp id (fun q => ⟨q.1, q.2.1, q.2.2.1, q.2.2.2.1, q.2.2.2.2.1, q.2.2.2.2.2.1, q.2.2.2.2.2.2.1, fun i hi => ?_⟩)
            have i40 : i < 40 := by have := q.2.2.2.2.2.2.1; omega
            have q8 := q.2.2.2.2.2.2.2 i hi
            rw [e3]
            by_cases te : t' = t
            · subst te
              have a3' : a 2 (108 + 2 * t') i = if i < W then wyA (p : Int) (fun x => v 1 13 x) i else u 2 (108 + 2 * t') i := by
                have := a3 i
                rw [show 107 + 2 * t' + 1 = 108 + 2 * t' by omega] at this
                exact this
              rw [a3']
              by_cases iw : i < W
              · rw [if_pos iw, if_pos (by omega), show 40 * t' + i - 40 * t' = i by omega]
              · rw [if_neg iw, if_neg (by omega)]
                exact q8
            · rw [a2 _ _ _ (by omega), if_neg (by omega)]
              exact q8
        · rw [if_neg x]
          by_cases x1 : a4 < 0
          · rw [if_pos x1]
            exact none _
          · rw [if_neg x1, if_pos (show 120 < a4 by omega)]
            exact none _
      · rw [if_neg y, if_neg (fun q => y ⟨q.2.1, by have := q.2.2; omega⟩)]
        exact none _
    · rw [if_neg z, if_neg (fun q => z q.1)]
      exact none _
  · rw [if_neg tt, if_neg tt]
    exact none _
