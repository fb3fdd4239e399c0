/-! those whom the law allows to turn -/
theorem FV.row {N : Nat} {s : XS} {A A' : Nat → Int} (h : FV N s A) (h1 : A' 1 = A 1) (h5 : A' 5 = A 5) (h7 : A' 7 = A 7) (h9 : A' 9 = A 9) (hk : ∀ k, 874 ≤ k → A' k = A k) (h10 : A' 10 = A 10) (hr : ∀ k, 25 ≤ k → k < 76 → A' (36 + k) = A (36 + k)) (hN : N ≤ 25) : FV N s A' := by
  obtain ⟨n, a1, a2, a3, a4⟩ := h
  have e111 : A' 111 = A 111 := hr 75 (by decide) (by decide)
  refine ⟨n, a1, a2, fun t ht k hk' => ?_, fun t d ht hd c hc => ⟨(a4 t d ht hd c hc).1, fun q => ?_⟩⟩
  · rw [a3 t ht k hk', h10, e111]
    constructor
    · rintro (y | ⟨y1, y2⟩)
      · exact Or.inl y
      · refine Or.inr ⟨y1, ?_⟩
        have e := hr (50 + k) (by omega) (by omega)
        rw [show 36 + (50 + k) = 86 + k by omega] at e
        rw [e]; exact y2
    · rintro (y | ⟨y1, y2⟩)
      · exact Or.inl y
      · refine Or.inr ⟨y1, ?_⟩
        have e := hr (50 + k) (by omega) (by omega)
        rw [show 36 + (50 + k) = 86 + k by omega] at e
        rw [e] at y2; exact y2
  · obtain ⟨y1, y2⟩ := (a4 t d ht hd c hc).2 q
    refine ⟨y1, y2.trans ?_⟩
    have e61 : A' (61 + c) = A (61 + c) := by
      have e := hr (25 + c) (by omega) (by omega)
      rw [show 36 + (25 + c) = 61 + c by omega] at e
      exact e
    exact (mayQ_row h1 h5 h7 h9 hk e61 e111).symm
theorem al_l {B : Int} {w h : Nat} {m : XS} {t d T D : Nat} {set opn : Int} (hd : d < 4) (hT : T ≤ t) (hD : D < 4) (ht : t < 240) (like : ∀ c : Nat, mayQ (m 1 1) c (t : Int) (d : Int) ↔ mayQ (m 1 1) c (T : Int) (D : Int)) (hset : ∀ c, c < 32 → bz set c = true → c < w * h) {AS AL : Int} (hopn : opn = Xiand set (Xixor AS (-1))) : ∀ (n c : Nat) (s : XS), CS B w h s m → 0 < s 0 6 3 → s 1 81 (4 * T + D) = AS → (∀ k, k < 32 → (bz (s 1 82 (4 * T + D)) k = true ↔ (bz AL k = true ∨ (k < c ∧ bz opn k = true ∧ mayQ (m 1 1) k (T : Int) (D : Int))))) → c ≤ 25 → 25 < c + n → ∃ u, ∃ v : Int, L11_X2_allowing n s (t : Int) (d : Int) set ((4 * (T : Int)) + (D : Int)) opn (c : Int) = (u, Xiand set v) ∧ u 1 81 (4 * T + D) = Xior AS set ∧ u 1 82 (4 * T + D) = v ∧ (∀ k, k < 32 → (bz v k = true ↔ (bz AL k = true ∨ (bz opn k = true ∧ mayQ (m 1 1) k (T : Int) (D : Int))))) ∧ (∀ t' c' k, ¬ (t' = 1 ∧ (c' = 8 ∨ c' = 9)) → ¬ (t' = 1 ∧ (c' = 81 ∨ c' = 82) ∧ k = 4 * T + D) → u t' c' k = s t' c' k) := by
  intro n
  induction n with
  | zero => intro c s _ _ _ _ h1 h2; omega
  | succ n ih =>
    intro c s H told e81 e82 h1 h2
    have b25 := H.1.b25
    have i1 : Int.toNat ((4 * (T : Int)) + (D : Int)) = 4 * T + D := by omega
    have op31 : ∀ k, k < 32 → bz opn k = true → k < w * h := fun k hk q => by
      rw [hopn, bz_iand, Bool.and_eq_true] at q
      exact hset k hk q.1
    have fin : (∀ k, c ≤ k → k < 32 → ¬ bz opn k = true) → L11_X2_allowing (n + 1) s (t : Int) (d : Int) set ((4 * (T : Int)) + (D : Int)) opn (c : Int) = (xup s 1 81 (4 * T + D) (Xior AS set), Xiand set (s 1 82 (4 * T + D))) → ∃ u, ∃ v : Int, L11_X2_allowing (n + 1) s (t : Int) (d : Int) set ((4 * (T : Int)) + (D : Int)) opn (c : Int) = (u, Xiand set v) ∧ u 1 81 (4 * T + D) = Xior AS set ∧ u 1 82 (4 * T + D) = v ∧ (∀ k, k < 32 → (bz v k = true ↔ (bz AL k = true ∨ (bz opn k = true ∧ mayQ (m 1 1) k (T : Int) (D : Int))))) ∧ (∀ t' c' k, ¬ (t' = 1 ∧ (c' = 8 ∨ c' = 9)) → ¬ (t' = 1 ∧ (c' = 81 ∨ c' = 82) ∧ k = 4 * T + D) → u t' c' k = s t' c' k) := fun none e => by
      refine ⟨_, _, e, xup_s, xup_c (by decide), fun k hk => ?_, fun t' c' k q1 q2 => if_neg (fun y => q2 ⟨y.1, Or.inl y.2.1, y.2.2⟩)⟩
      rw [e82 k hk]
      constructor
      · rintro (y | ⟨y1, y2, y3⟩)
        · exact Or.inl y
        · exact Or.inr ⟨y2, y3⟩
      · rintro (y | ⟨y2, y3⟩)
        · exact Or.inl y
        · by_cases z : k < c
          · exact Or.inr ⟨z, y2, y3⟩
          · exact absurd y2 (none k (by omega) hk)
    by_cases z : c < 25
    · have e0 : L11_X2_allowing (n + 1) s (t : Int) (d : Int) set ((4 * (T : Int)) + (D : Int)) opn (c : Int) = if Xishr opn (c : Int) = 0 then (xup s 1 81 (4 * T + D) (Xior AS set), Xiand set (s 1 82 (4 * T + D))) else if (if bz opn c = true then (1 : Int) else 0) = 0 then L11_X2_allowing n s (t : Int) (d : Int) set ((4 * (T : Int)) + (D : Int)) opn ((c : Int) + 1) else g23_X2_allowing (L11_X2_allowing n) s (t : Int) (d : Int) set ((4 * (T : Int)) + (D : Int)) opn (c : Int) := by
        show g12l_X2_allowing (L11_X2_allowing n) s (t : Int) (d : Int) set ((4 * (T : Int)) + (D : Int)) opn (c : Int) = _
        have x82 : xup s 1 81 (4 * T + D) (Xior AS set) 1 82 (4 * T + D) = s 1 82 (4 * T + D) := xup_c (by decide)
        simp only [g12l_X2_allowing, g13b_X2_allowing, g15_X2_allowing, g17b_X2_allowing, g18_X2_allowing, g19_X2_allowing, g20w_X2_allowing, g21b_X2_allowing, g22_X2_allowing, i1, e81, x82, bz_tst (show c < 32 by omega)]
        rw [if_pos (by omega)]
      by_cases y : Xishr opn (c : Int) = 0
      · refine fin (fun k k1 k2 q => ?_) (by rw [e0, if_pos y])
        have b := bz_shr opn (n := c) (k := k - c) (by omega) (by omega)
        rw [y, bz_0, if_pos (by omega), show k - c + c = k by omega, q] at b
        cases b
      · rw [if_neg y] at e0
        by_cases o : bz opn c = true
        · rw [if_pos o, if_neg (by decide)] at e0
          have cN := op31 c (by omega) o
          obtain ⟨v', -, -, -, q4⟩ := mq_x H cN (hr := (t : Int)) (d := (d : Int)) (hC' := Xiadd (s 0 10 8) (t : Int)) (by unfold rgI; omega) (by rw [H.pl.2.2.2.1])
          obtain ⟨u, u1, u2⟩ := q4 told
          have H1 : CS B w h u m := H.fr u2.a6 rfl
          have u81 : ∀ k, u 1 81 k = s 1 81 k := fun k => u2 _ _ _ (by omega)
          have u82 : ∀ k, u 1 82 k = s 1 82 k := fun k => u2 _ _ _ (by omega)
          have e1 : g23_X2_allowing (L11_X2_allowing n) s (t : Int) (d : Int) set ((4 * (T : Int)) + (D : Int)) opn (c : Int) = if (@ite Int (mayQ (m 1 1) c (t : Int) (d : Int)) (Classical.propDecidable _) 1 0) = 0 then L11_X2_allowing n u (t : Int) (d : Int) set ((4 * (T : Int)) + (D : Int)) opn ((c : Int) + 1) else L11_X2_allowing n (xup u 1 82 (4 * T + D) (Xior (s 1 82 (4 * T + D)) (Xishl 1 (c : Int)))) (t : Int) (d : Int) set ((4 * (T : Int)) + (D : Int)) opn ((c : Int) + 1) := by
            simp only [g23_X2_allowing, g24c_X2_allowing, g25b_X2_allowing, g26_X2_allowing, g27_X2_allowing, g28w_X2_allowing, show Int.toNat (c : Int) = c from rfl, u1, i1, u82]
          by_cases mq : mayQ (m 1 1) c (t : Int) (d : Int)
          · rw [if_pos mq, if_neg (by decide)] at e1
            obtain ⟨x, v, x1, x2, x3, x4, x5⟩ := ih (c + 1) (xup u 1 82 (4 * T + D) (Xior (s 1 82 (4 * T + D)) (Xishl 1 (c : Int)))) (H1.cls (fun _ _ _ _ _ => xup_c (by omega))) (by rw [xup_t (by decide), u2 _ _ _ (by omega)]; exact told) (by rw [xup_c (by decide), u81]; exact e81) (fun k hk => by
              rw [xup_s, bz_ior, Bool.or_eq_true, e82 k hk, bz_one (by omega) hk, decide_eq_true_eq]
              constructor
              · rintro ((q | ⟨q1, q2, q3⟩) | q)
                · exact Or.inl q
                · exact Or.inr ⟨by omega, q2, q3⟩
                · refine Or.inr ⟨by omega, by rw [q]; exact o, ?_⟩
                  rw [q]
                  exact (like c).mp mq
              · rintro (q | ⟨q1, q2, q3⟩)
                · exact Or.inl (Or.inl q)
                · by_cases kc : k = c
                  · exact Or.inr kc
                  · exact Or.inl (Or.inr ⟨by omega, q2, q3⟩)) (by omega) (by omega)
            refine ⟨x, v, by rw [e0, e1]; exact x1, x2, x3, x4, fun t' c' k q1 q2 => ?_⟩
            rw [x5 t' c' k q1 q2]
            have q3 : xup u 1 82 (4 * T + D) (Xior (s 1 82 (4 * T + D)) (Xishl 1 (c : Int))) t' c' k = u t' c' k := if_neg (fun y => q2 ⟨y.1, Or.inr y.2.1, y.2.2⟩)
            rw [q3]
            exact u2 t' c' k (by omega)
          · rw [if_neg mq, if_pos rfl] at e1
            obtain ⟨x, v, x1, x2, x3, x4, x5⟩ := ih (c + 1) u H1 (by rw [u2 _ _ _ (by omega)]; exact told) (by rw [u81]; exact e81) (fun k hk => by
              rw [u82, e82 k hk]
              constructor
              · rintro (q | ⟨q1, q2, q3⟩)
                · exact Or.inl q
                · exact Or.inr ⟨by omega, q2, q3⟩
              · rintro (q | ⟨q1, q2, q3⟩)
                · exact Or.inl q
                · by_cases kc : k = c
                  · exfalso
                    rw [kc] at q3
                    exact mq ((like c).mpr q3)
                  · exact Or.inr ⟨by omega, q2, q3⟩) (by omega) (by omega)
            refine ⟨x, v, by rw [e0, e1]; exact x1, x2, x3, x4, fun t' c' k q1 q2 => (x5 t' c' k q1 q2).trans (u2 t' c' k (by omega))⟩
        · rw [if_neg o, if_pos rfl] at e0
          obtain ⟨x, v, x1, x2, x3, x4, x5⟩ := ih (c + 1) s H told e81 (fun k hk => by
            rw [e82 k hk]
            constructor
            · rintro (q | ⟨q1, q2, q3⟩)
              · exact Or.inl q
              · exact Or.inr ⟨by omega, q2, q3⟩
            · rintro (q | ⟨q1, q2, q3⟩)
              · exact Or.inl q
              · by_cases kc : k = c
                · exfalso
                  rw [kc] at q2
                  exact o q2
                · exact Or.inr ⟨by omega, q2, q3⟩) (by omega) (by omega)
          exact ⟨x, v, by rw [e0]; exact x1, x2, x3, x4, x5⟩
    · refine fin (fun k k1 k2 q => by have := op31 k k2 q; omega) ?_
      show g12l_X2_allowing (L11_X2_allowing n) s (t : Int) (d : Int) set ((4 * (T : Int)) + (D : Int)) opn (c : Int) = _
      have x82 : xup s 1 81 (4 * T + D) (Xior AS set) 1 82 (4 * T + D) = s 1 82 (4 * T + D) := xup_c (by decide)
      simp only [g12l_X2_allowing, g13b_X2_allowing, g14_X2_allowing, g16w_X2_allowing, i1, e81, x82]
      rw [if_neg (by omega)]
theorem allow_x {B : Int} {w h : Nat} {s m : XS} (H : CS B w h s m) (V : FV (w * h) s (m 1 1)) {t d : Nat} (ht : t < 240) (hd : d < 4) {set : Int} (hset : ∀ c, c < 32 → bz set c = true → c < w * h) : ∃ u r, f_X2_allowing s (t : Int) (d : Int) set = (u, r) ∧ FV (w * h) u (m 1 1) ∧ FrF u s ∧ ∀ c, c < 32 → (bz r c = true ↔ (bz set c = true ∧ mayQ (m 1 1) c (t : Int) (d : Int))) := by
  have b25 := H.1.b25
  have e : f_X2_allowing s (t : Int) (d : Int) set = if 0 < s 0 6 3 then (if 0 < s 0 1 5 then g6_X2_allowing s (t : Int) (d : Int) set else (s, set)) else (s, set) := by
    have it : f_X4_isTold s 6 = (s, if 0 < s 0 6 3 then 1 else 0) := by
      have e0 : f_X4_isTold s 6 = if 0 < s 0 6 3 then (s, 1) else (s, 0) := rfl
      rw [e0]
      split <;> rfl
    simp only [f_X2_allowing, g1c_X2_allowing, g2b_X2_allowing, g3_X2_allowing, g4_X2_allowing, g5b_X2_allowing, g7_X2_allowing, it]
    by_cases z : 0 < s 0 6 3
    · rw [if_pos z, if_neg (show ¬ (1 : Int) = 0 by decide), if_pos z]
    · rw [if_neg z, if_pos rfl, if_neg z]
  rw [e]
  by_cases told : 0 < s 0 6 3
  · rw [if_pos told]
    by_cases wd : 0 < s 0 1 5
    · rw [if_pos wd]
      obtain ⟨s1, n', u1, u2, u3, u4, u5⟩ := bu_x H V ht
      have H1 := u3.cs H
      have told1 : 0 < s1 0 6 3 := by rw [u3 _ _ _ (by omega) (by omega)]; exact told
      obtain ⟨T, D, T1, D1, l1, l2, l3⟩ := like_q H1 told1 ht hd
      obtain ⟨n, h1, h2, h3, h4⟩ := u2
      have nn : n = n' := by rw [h1] at u4; omega
      have i1 : Int.toNat ((4 * (T : Int)) + (D : Int)) = 4 * T + D := by omega
      have eg : g6_X2_allowing s (t : Int) (d : Int) set = L11_X2_allowing (Int.toNat (25 - 0 + 1)) s1 (t : Int) (d : Int) set ((4 * (T : Int)) + (D : Int)) (Xiand set (Xixor (s1 1 81 (4 * T + D)) (-1))) 0 := by
        simp only [g6_X2_allowing, g8c_X2_allowing, g9c_X2_allowing, g10c_X2_allowing, u1, l1, l2, i1]
      obtain ⟨x, v, x1, x2, x3, x4, x5⟩ := al_l (B := B) (w := w) (h := h) (m := m) (t := t) (d := d) (T := T) (D := D) (set := set) hd T1 D1 ht l3 hset (AS := s1 1 81 (4 * T + D)) (AL := s1 1 82 (4 * T + D)) rfl (Int.toNat (25 - 0 + 1)) 0 s1 H1 told1 rfl (fun k hk => ⟨Or.inl, fun q => q.elim id (fun y => absurd y.1 (by omega))⟩) (by omega) (by decide)
      have x1' : L11_X2_allowing (Int.toNat (25 - 0 + 1)) s1 (t : Int) (d : Int) set ((4 * (T : Int)) + (D : Int)) (Xiand set (Xixor (s1 1 81 (4 * T + D)) (-1))) 0 = (x, Xiand set v) := x1
      have vq : ∀ c, c < 32 → bz set c = true → (bz v c = true ↔ mayQ (m 1 1) c (T : Int) (D : Int)) := fun c hc q => by
        have k4 := h4 T D (by omega) D1 c hc
        rw [x4 c hc, bz_iand, Bool.and_eq_true, bz_inv _ hc]
        by_cases a : bz (s1 1 81 (4 * T + D)) c = true
        · rw [a]
          constructor
          · rintro (p | ⟨⟨-, p⟩, -⟩)
            · exact (k4.2 a).2.mp p
            · cases p
          · intro p
            exact Or.inl ((k4.2 a).2.mpr p)
        · constructor
          · rintro (p | ⟨-, p⟩)
            · exact absurd (k4.1 p) a
            · exact p
          · intro p
            simp only [Bool.not_eq_true] at a
            rw [a]
            exact Or.inr ⟨⟨q, rfl⟩, p⟩
      refine ⟨x, Xiand set v, by rw [eg]; exact x1', ?_, fun t' c' k q1 q2 => (x5 t' c' k (by omega) (by omega)).trans (u3 t' c' k q1 q2), fun c hc => ?_⟩
      · refine ⟨n, by rw [x5 _ _ _ (by omega) (by omega)]; exact h1, h2, fun t' ht' k hk => ?_, fun t' d' ht' hd' c hc => ?_⟩
        · rw [x5 1 80 t' (by omega) (by omega)]
          exact h3 t' ht' k hk
        · by_cases z : 4 * t' + d' = 4 * T + D
          · have zT : t' = T := by omega
            have zD : d' = D := by omega
            subst zT
            subst zD
            have k4 := h4 t' d' (by omega) D1 c hc
            rw [x2, x3, bz_ior, Bool.or_eq_true]
            refine ⟨fun p => ?_, fun p => ?_⟩
            · rcases (x4 c hc).mp p with y | y
              · exact Or.inl (k4.1 y)
              · have y1 := y.1
                rw [bz_iand, Bool.and_eq_true] at y1
                exact Or.inr y1.1
            · by_cases q : bz set c = true
              · exact ⟨hset c hc q, vq c hc q⟩
              · have a := p.resolve_right q
                refine ⟨(k4.2 a).1, ?_⟩
                rw [x4 c hc, bz_iand, Bool.and_eq_true]
                exact ⟨fun y => y.elim (k4.2 a).2.mp (fun k => absurd k.1.1 q), fun y => Or.inl ((k4.2 a).2.mpr y)⟩
          · rw [x5 1 81 (4 * t' + d') (by omega) (by omega), x5 1 82 (4 * t' + d') (by omega) (by omega)]
            exact h4 t' d' ht' hd' c hc
      · rw [bz_iand, Bool.and_eq_true]
        constructor
        · rintro ⟨q1, q2⟩
          exact ⟨q1, (l3 c).mpr ((vq c hc q1).mp q2)⟩
        · rintro ⟨q1, q2⟩
          exact ⟨q1, (vq c hc q1).mpr ((l3 c).mp q2)⟩
    · rw [if_neg wd]
      refine ⟨s, set, rfl, V, FrF.rf, fun c hc => ⟨fun q => ?_, fun q => q.1⟩⟩
      exfalso
      have cN := hset c hc q
      have L := H.1.ld cN
      rw [L.2.1.1] at wd
      have := L.1.1
      omega
  · rw [if_neg told]
    refine ⟨s, set, rfl, V, FrF.rf, fun c hc => ⟨fun q => ⟨q, ?_⟩, fun q => q.1⟩⟩
    have cN := hset c hc q
    obtain ⟨v', -, -, q3, -⟩ := mq_x H cN (hr := (t : Int)) (d := (d : Int)) (hC' := Xiadd (s 0 10 8) (t : Int)) (by unfold rgI; omega) (by rw [H.pl.2.2.2.1])
    exact q3 (by omega)
