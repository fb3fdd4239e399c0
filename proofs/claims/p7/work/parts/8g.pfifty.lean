/-! clean rows: who could have been where, and the methods ahead of them -/
theorem asm_r (s : XS) (b : Nat) (i : Int) : (f_X10_asSmall s b i).1 = s ∧ (0 ≤ (f_X10_asSmall s b i).2 → 0 ≤ i ∧ i < s 0 b 2) := by
  have e : f_X10_asSmall s b i = if i < 0 then (s, -1) else if i < s 0 b 2 then (if Xl2i (s 2 (b + 1) i.toNat) < 0 then (s, -1) else if Xcmp (Xl2i (s 2 (b + 1) i.toNat)) (s 2 (b + 1) i.toNat) = 0 then (s, Xl2i (s 2 (b + 1) i.toNat)) else (s, -1)) else (s, -1) := rfl
  rw [e]
  by_cases z1 : i < 0
  · rw [if_pos z1]
    exact ⟨rfl, fun q => absurd (show (0 : Int) ≤ -1 from q) (by decide)⟩
  · rw [if_neg z1]
    by_cases z2 : i < s 0 b 2
    · rw [if_pos z2]
      refine ⟨?_, fun _ => ⟨by omega, z2⟩⟩
      split
      · rfl
      · split <;> rfl
    · rw [if_neg z2]
      exact ⟨rfl, fun q => absurd (show (0 : Int) ≤ -1 from q) (by decide)⟩
def IE (a b t M : Nat) (i2 : Nat) (z : Int) (s : XS) : Prop := IG a b t M s ∧ s 0 i2 2 = z
theorem IE.fl {a b t M l i2 : Nat} {z : Int} {u s : XS} (h : IE a b t M i2 z s) (hi : 107 ≤ i2) (F : FLw8 b (4 * (l : Int)) u s) (hl : l ≤ M) : IE a b t M i2 z u := by
  have hab := h.1.1.1
  exact ⟨h.1.fl F hl, (F _ _ _ (by omega) (by omega)).trans h.2⟩
theorem leav_q {a b t M i2 l : Nat} {z : Int} {s : XS} {a1 a3 : Int} (h : IE a b t M i2 z s) (hi : 107 ≤ i2) (hl : l ≤ t) (hM : M = min (t + 2) z.toNat) : IE a b t M i2 z (f_X8_goLeaving s a1 (l : Int) a3 i2).1 := by
  have r1 := asm_r s i2 (l : Int)
  obtain ⟨r4, hr4⟩ : ∃ r4, r4 = (f_X10_asSmall s i2 (l : Int)).2 := ⟨_, rfl⟩
  rw [← hr4] at r1
  obtain ⟨v, hv⟩ : ∃ v, v = Xiand (Xishl 1 r4) (Xixor a3 (-1)) := ⟨_, rfl⟩
  obtain ⟨s1, hs1⟩ : ∃ s1, s1 = (f_X8_goByLeft s a1 2 (4 * (l : Int)) v ((4 * (l : Int)) + 4)).1 := ⟨_, rfl⟩
  have r2 := asm_r s1 i2 ((l : Int) + 1)
  have e : f_X8_goLeaving s a1 (l : Int) a3 i2 = if r4 < 0 then (s, 0) else if (f_X10_asSmall s1 i2 ((l : Int) + 1)).2 = r4 then ((f_X8_goByLeft s1 a1 3 (4 * (l : Int)) v ((4 * (l : Int)) + 8)).1, 0) else (s1, 0) := by
    simp only [f_X8_goLeaving, g1c_X8_goLeaving, g2b_X8_goLeaving, g3_X8_goLeaving, g4_X8_goLeaving, g5c_X8_goLeaving, g6c_X8_goLeaving, g7b_X8_goLeaving, g8_X8_goLeaving, g9_X8_goLeaving, g10c_X8_goLeaving, r1.1, ← hr4, ← hv, ← hs1, r2.1]
  rw [e]
  by_cases y : r4 < 0
  · rw [if_pos y]
    exact h
  · rw [if_neg y]
    have b1 := r1.2 (by omega)
    rw [h.2] at b1
    have F1 := gl_q (a1 := a1) (a2 := 2) (a3 := 4 * (l : Int)) (a4 := v) (lo := (4 * (l : Int)) + 4) h.1.1 (by omega)
    rw [← hs1, show (4 * (l : Int)) + 4 = 4 * ((l + 1 : Nat) : Int) by omega] at F1
    have H1 := h.fl hi F1 (by omega)
    by_cases y2 : (f_X10_asSmall s1 i2 ((l : Int) + 1)).2 = r4
    · rw [if_pos y2]
      have b2 := r2.2 (by omega)
      rw [H1.2] at b2
      have F2 := gl_q (a1 := a1) (a2 := 3) (a3 := 4 * (l : Int)) (a4 := v) (lo := (4 * (l : Int)) + 8) H1.1.1 (by omega)
      rw [show (4 * (l : Int)) + 8 = 4 * ((l + 2 : Nat) : Int) by omega] at F2
      exact H1.fl hi F2 (by omega)
    · rw [if_neg y2]
      exact H1
theorem wh12 {a b t M i2 : Nat} {z a3 x5 r : Int} {R : XS → Nat → Int → Int → Int → XR} (hi : 107 ≤ i2) (hz : 0 ≤ z ∧ z ≤ 10) (ht : (t : Int) ≤ z) (hM : M = min (t + 2) z.toNat) (hR : ∀ u, SQ 0 u → u 0 i2 2 = z → u 0 83 4 ≤ z → SQ 0 (R u i2 a3 z (x5 + 1)).1) : ∀ (n : Nat) (l : Nat) (s : XS), IE a b t M i2 z s → l ≤ t + 1 → t + 1 < l + n → SQ 0 (L12_X8_whereByEnvelopes R n s i2 a3 z x5 r (l : Int)).1
  | 0, l, s, _, h1, h2 => by omega
  | n + 1, l, s, H, h1, h2 => by
    have e : L12_X8_whereByEnvelopes R (n + 1) s i2 a3 z x5 r (l : Int) = if (t : Int) < (l : Int) then R (f_X8_change s (min ((t : Int) + 2) z)).1 i2 a3 z (x5 + 1) else L12_X8_whereByEnvelopes R n (f_X8_goLeaving (f_X8_goByLeft (f_X8_goByLeft (f_X8_goByRights s (4 * (l : Int))).1 x5 2 (4 * (l : Int)) r (4 * (l : Int))).1 x5 3 (4 * (l : Int)) r (4 * (l : Int))).1 x5 (l : Int) r i2).1 i2 a3 z x5 r ((l : Int) + 1) := by
      show g13l_X8_whereByEnvelopes R (L12_X8_whereByEnvelopes R n) s i2 a3 z x5 r (l : Int) = _
      simp only [g13l_X8_whereByEnvelopes, g14b_X8_whereByEnvelopes, g15_X8_whereByEnvelopes, g16_X8_whereByEnvelopes, g17c_X8_whereByEnvelopes, g18c_X8_whereByEnvelopes, g19c_X8_whereByEnvelopes, g20c_X8_whereByEnvelopes, g21c_X8_whereByEnvelopes, H.1.1.2.2.2.1]
    rw [e]
    by_cases q : t < l
    · rw [if_pos (by omega)]
      rw [show min ((t : Int) + 2) z = (M : Int) by omega]
      obtain ⟨u, u1, u2, u3, u4, u5⟩ := change_x H.1.1 H.1.2.2 (T := M) (by omega)
      have hab := H.1.1.1
      have S := H.1.end (T := M) (by omega) (Nat.le_refl _)
      rw [u1] at S ⊢
      refine hR _ S ((u5 _ _ _ (by omega) (by omega)).trans H.2) ?_
      show u 0 83 4 ≤ z
      rw [u2.2.2.2.1]
      omega
    · rw [if_neg (by omega)]
      have lM : l ≤ M := by omega
      have H1 := H.fl hi (gr_q (row := 4 * (l : Int)) H.1.1 (by omega)) lM
      have H2 := H1.fl hi (gl_q (a1 := x5) (a2 := 2) (a3 := 4 * (l : Int)) (a4 := r) (lo := 4 * (l : Int)) H1.1.1 (by omega)) lM
      have H3 := H2.fl hi (gl_q (a1 := x5) (a2 := 3) (a3 := 4 * (l : Int)) (a4 := r) (lo := 4 * (l : Int)) H2.1.1 (by omega)) lM
      exact wh12 hi hz ht hM hR n (l + 1) _ (leav_q (a1 := x5) (a3 := r) H3 hi (by omega) hM) (by omega) (by omega)
theorem wh2 {i2 : Nat} {z a3 : Int} (hi : 107 ≤ i2) (hz : 0 ≤ z ∧ z ≤ 10) : ∀ (n : Nat) (s : XS) (x : Int), SQ 0 s → s 0 i2 2 = z → s 0 83 4 ≤ z → SQ 0 (L2_X8_whereByEnvelopes n s i2 a3 z x).1
  | 0, s, x, S, _, _ => S
  | n + 1, s, x, S, h1, h2 => by
    have e : L2_X8_whereByEnvelopes (n + 1) s i2 a3 z x = if x < a3 then L12_X8_whereByEnvelopes (L2_X8_whereByEnvelopes n) (Int.toNat (11 - 0 + 1)) (f_X2_freeAt s x).1 i2 a3 z x (f_X2_freeAt s x).2 0 else if s 0 83 4 = z then (s, (f_X8_anyHeading s z).2) else (s, 0) := by
      show g3l_X8_whereByEnvelopes (L2_X8_whereByEnvelopes n) s i2 a3 z x = _
      simp only [g3l_X8_whereByEnvelopes, g4b_X8_whereByEnvelopes, g5_X8_whereByEnvelopes, g6_X8_whereByEnvelopes, g7b_X8_whereByEnvelopes, g8_X8_whereByEnvelopes, g9_X8_whereByEnvelopes, g10c_X8_whereByEnvelopes, g11c_X8_whereByEnvelopes, f_X8_anyHeading]
    rw [e]
    by_cases q : x < a3
    · rw [if_pos q]
      have k : KP P8 (f_X2_freeAt s x).1 s := k8_f_X2_freeAt
      generalize (f_X2_freeAt s x).1 = u at *
      have S1 : SQ 0 u := S.of8 (fun t c k' q1 q2 => k t c k' (Or.inl ⟨q1, q2⟩))
      have u1 : u 0 i2 2 = z := (k _ _ _ (Or.inr hi)).trans h1
      have u2 : u 0 83 4 ≤ z := by rw [k 0 83 4 (Or.inl ⟨by decide, by decide⟩)]; exact h2
      obtain ⟨a, b, t, H, Sb, Sa⟩ := S1.ex
      rw [H.2.2.2.1] at u2
      exact wh12 (M := min (t + 2) z.toNat) hi hz u2 rfl (fun v v1 v2 v3 => wh2 hi hz n v (x + 1) v1 v2 v3) (Int.toNat (11 - 0 + 1)) 0 u ⟨⟨H, fun j _ => Sb j (by omega), Sa⟩, u1⟩ (by omega) (by show t + 1 < 0 + 12; omega)
    · rw [if_neg q]
      split
      · exact S
      · exact S
theorem begin_i {s : XS} {a1 : Int} (S : SQ 0 s) : (f_X8_begin s a1).1 0 83 4 = 0 ∧ ∀ i, 107 ≤ i → (f_X8_begin s a1).1 0 i 2 = s 0 i 2 := by
  obtain ⟨a, b, t, h, Sb, Sa⟩ := S.ex
  have e : f_X8_begin s a1 = L1_X8_begin (Int.toNat (484 - 0 + 1)) s a1 0 := rfl
  have t120 := h.2.2.2.2
  have hab := h.1
  obtain ⟨u, u1, u2⟩ := bg_l (a1 := a1) (Int.toNat (484 - 0 + 1)) s 0 h (by decide) (by omega) (by show 4 * (t : Int) + 4 - 0 < (485 : Int); omega)
  rw [e, u1]
  refine ⟨?_, fun i hi => ?_⟩
  · dsimp only
    rw [xup_t (by decide), xup_s]
  · dsimp only
    rw [xup_t (by decide), xup_c (by omega), u2, if_neg (by omega)]
theorem wh_q {s : XS} {a1 a3 : Int} {i2 : Nat} (hi : 107 ≤ i2) (hz : 0 ≤ s 0 i2 2 ∧ s 0 i2 2 ≤ 10) (S : SQ 0 s) : SQ 0 (f_X8_whereByEnvelopes s a1 i2 a3).1 := by
  obtain ⟨b1, b2⟩ := begin_i (a1 := a1) S
  exact wh2 hi hz _ _ 0 (begin_q S) (b2 i2 hi) (by rw [b1]; exact hz.1)
/-! the class's methods -/
theorem ite_q {p : Prop} [Decidable p] {a b : XR} (h : p → SQ 0 a.1) (g : ¬ p → SQ 0 b.1) : SQ 0 (if p then a else b).1 := by
  split
  · exact h (by assumption)
  · exact g (by assumption)
theorem isp_p (s : XS) (a : Int) : (f_X11_isPerson s a).1 = s := pu_f_X11_isPerson
theorem isc_p (s : XS) (a : Int) : (f_X11_isCrossing s a).1 = s := pu_f_X11_isCrossing
theorem ist_p (s : XS) (a : Int) : (f_X11_isTray s a).1 = s := pu_f_X11_isTray
theorem std_p (s : XS) (i : Nat) (a : Int) : (f_X1_stand s i a).1 = s := rfl
theorem alb_p (s : XS) (i : Nat) (a : Int) : (f_X10_allBelow s i a).1 = s := pu_f_X10_allBelow
theorem crs_p (s : XS) (i : Nat) : (f_X0_crossings s i).1 = s := pu_f_X0_crossings
theorem sh_q {s : XS} {a1 a2 a3 : Int} (h3 : 0 ≤ a3 ∧ a3 ≤ 120) (S : SQ 0 s) : SQ 0 (f_X7_shortest s a1 a2 a3).1 := by
  have S1 : SQ 0 (f_X8_fewestStreets s a1 a2 a3 60 0).1 := fs_q h3 S
  simp only [f_X7_shortest, g1c_X7_shortest, g2b_X7_shortest, g3_X7_shortest, g4_X7_shortest, g5c_X7_shortest]
  exact ite_q (fun _ => S1) (fun _ => sk_f_X7_trace S1)
theorem way_q {s : XS} {a1 a2 a3 : Int} (S : SQ 0 s) : SQ 0 (f_X11_way s a1 a2 a3).1 := by
  simp only [f_X11_way, g1c_X11_way, g2b_X11_way, g3_X11_way, g4_X11_way, g5c_X11_way, g6b_X11_way, g7_X11_way, g8_X11_way, g9b_X11_way, g10_X11_way, g11_X11_way, g12b_X11_way, g13_X11_way, g14_X11_way, g15c_X11_way, g16c_X11_way, isp_p, isc_p, std_p]
  exact ite_q (fun _ => S) (fun _ => ite_q (fun _ => S) (fun _ => ite_q (fun _ => S) (fun q => ite_q (fun _ => S) (fun q2 => fs_q (by omega) S))))
theorem turn_q {s : XS} {a1 a2 a3 a4 : Int} (S : SQ 0 s) : SQ 0 (f_X11_turn s a1 a2 a3 a4).1 := by
  have ta : ∀ (u : XS) (x : Int), (f_X7_turnAt u x).1 = u := fun _ _ => pu_f_X7_turnAt
  simp only [f_X11_turn, g1c_X11_turn, g2b_X11_turn, g3_X11_turn, g4_X11_turn, g5c_X11_turn, g6b_X11_turn, g7_X11_turn, g8_X11_turn, g9b_X11_turn, g10_X11_turn, g11_X11_turn, g12b_X11_turn, g13_X11_turn, g14_X11_turn, g15b_X11_turn, g16_X11_turn, g17_X11_turn, g18c_X11_turn, g19c_X11_turn, g20b_X11_turn, g21_X11_turn, g22_X11_turn, g23c_X11_turn, isp_p, isc_p, std_p, ta]
  exact ite_q (fun _ => S) (fun _ => ite_q (fun _ => S) (fun _ => ite_q (fun _ => S) (fun q => ite_q (fun _ => S) (fun q2 => ite_q (fun _ => S) (fun _ => ite_q (fun _ => sh_q (by omega) S) (fun _ => sh_q (by omega) S))))))
theorem reach_q {s : XS} {a1 a2 : Int} (S : SQ 0 s) : SQ 0 (f_X11_reach s a1 a2).1 := by
  simp only [f_X11_reach, g1c_X11_reach, g2b_X11_reach, g3_X11_reach, g4_X11_reach, g5b_X11_reach, g6_X11_reach, g7_X11_reach, g8b_X11_reach, g9_X11_reach, g10_X11_reach, g11c_X11_reach, g12c_X11_reach, isp_p, std_p]
  exact ite_q (fun _ => S) (fun _ => ite_q (fun _ => S) (fun q => ite_q (fun _ => S) (fun q2 => re_q (by omega) S)))
theorem found_q {s : XS} {a1 a2 a3 : Int} (S : SQ 0 s) : SQ 0 (f_X11_found s a1 a2 a3).1 := by
  simp only [f_X11_found, g1c_X11_found, g2b_X11_found, g3_X11_found, g4_X11_found, g5c_X11_found, g6b_X11_found, g7_X11_found, g8_X11_found, g9b_X11_found, g10_X11_found, g11_X11_found, g12b_X11_found, g13_X11_found, g14_X11_found, g15c_X11_found, g16c_X11_found, g17b_X11_found, g18_X11_found, g19_X11_found, g20b_X11_found, g21_X11_found, g22_X11_found, g23b_X11_found, g24_X11_found, g25_X11_found, g26c_X11_found, g27c_X11_found, isp_p, ist_p, std_p, alb_p, crs_p]
  exact ite_q (fun _ => S) (fun _ => ite_q (fun _ => S) (fun _ => ite_q (fun _ => S) (fun q => ite_q (fun _ => S) (fun q2 => ite_q (fun _ => S) (fun _ => ite_q (fun _ => S) (fun _ => ite_q (fun _ => S) (fun _ => wh_q (by omega) (by omega) S)))))))
theorem put_q {s : XS} {i : Nat} {a1 a2 : Int} (hi : 107 ≤ i) (S : SQ 0 s) : SQ 0 (f_X10_put s i a1 a2).1 := by
  have S1 : ∀ (k : Nat) (v : Int), SQ 0 (xup s 2 (i + 1) k v) := fun k v => S.of8 (fun t c j q1 q2 => xup_c (by omega))
  simp only [f_X10_put, g1b_X10_put, g2_X10_put, g3_X10_put, g4b_X10_put, g5_X10_put, g6_X10_put, g7b_X10_put, g8_X10_put, g9_X10_put, g10w_X10_put, g11w_X10_put, g12w_X10_put, g13w_X10_put]
  exact ite_q (fun _ => S1 _ _) (fun _ => ite_q (fun _ => S1 _ _) (fun _ => ite_q (fun _ => S1 _ _) (fun _ => S1 _ _)))
theorem li_l {i : Nat} {a2 v : Int} (hi : 107 ≤ i) : ∀ (n : Nat) (s : XS) (x : Int), SQ 0 s → SQ 0 (L28_X11_lists n s a2 i v x).1
  | 0, s, x, S => S
  | n + 1, s, x, S => by
    have ta : ∀ (u : XS) (x : Int), (f_X7_turnAt u x).1 = u := fun _ _ => pu_f_X7_turnAt
    have e : L28_X11_lists (n + 1) s a2 i v x = if x < v then (if x = 0 then L28_X11_lists n (f_X10_put s i 0 a2).1 a2 i v (0 + 1) else L28_X11_lists n (f_X10_put s i x (f_X7_turnAt s (x - 1)).2).1 a2 i v (x + 1)) else (s, v) := by
      show g29l_X11_lists (L28_X11_lists n) s a2 i v x = _
      simp only [g29l_X11_lists, g30b_X11_lists, g31_X11_lists, g32_X11_lists, g33b_X11_lists, g34_X11_lists, g35_X11_lists, g36c_X11_lists, g37c_X11_lists, g38c_X11_lists, ta]
    rw [e]
    split
    · split
      · exact li_l hi n _ _ (put_q hi S)
      · exact li_l hi n _ _ (put_q hi S)
    · exact S
theorem lists_q {s : XS} {a1 a2 a3 a4 : Int} (S : SQ 0 s) : SQ 0 (f_X11_lists s a1 a2 a3 a4).1 := by
  have le : ∀ u : XS, (f_X7_length u).1 = u := fun _ => pu_f_X7_length
  simp only [f_X11_lists, g1c_X11_lists, g2b_X11_lists, g3_X11_lists, g4_X11_lists, g5c_X11_lists, g6b_X11_lists, g7_X11_lists, g8_X11_lists, g9c_X11_lists, g10b_X11_lists, g11_X11_lists, g12_X11_lists, g13b_X11_lists, g14_X11_lists, g15_X11_lists, g16b_X11_lists, g17_X11_lists, g18_X11_lists, g19b_X11_lists, g20_X11_lists, g21_X11_lists, g22c_X11_lists, g23c_X11_lists, g24b_X11_lists, g25_X11_lists, g26_X11_lists, g27c_X11_lists, g29l_X11_lists, g30b_X11_lists, g31_X11_lists, g32_X11_lists, g33b_X11_lists, g34_X11_lists, g35_X11_lists, g36c_X11_lists, g37c_X11_lists, g38c_X11_lists, isp_p, isc_p, ist_p, std_p, le]
  exact ite_q (fun _ => S) (fun _ => ite_q (fun _ => S) (fun _ => ite_q (fun _ => S) (fun _ => ite_q (fun _ => S) (fun _ => ite_q (fun _ => S) (fun q => ite_q (fun _ => S) (fun q2 => ite_q (fun _ => sh_q (by omega) S) (fun _ => li_l (by omega) _ _ _ (sh_q (by omega) S))))))))
/-! by rights: the relation -/
def RS (s m : XS) : Prop := RH s m ∧ SQ 0 s
theorem rightsM_x (m : XS) (a1 a2 : Int) : f_X12_byRights m a1 a2 = if (0 ≤ a1 ∧ a1 ≤ m 1 1 1 * m 1 1 2 - 1) ∧ (0 ≤ a2 ∧ a2 ≤ 3) then g8_X12_byRights (xup m 0 0 0 0) a1 a2 else (xup m 0 0 0 0, -2) := by
  obtain ⟨M, hM⟩ : ∃ M, M = xup m 0 0 0 0 := ⟨_, rfl⟩
  have e1 : m 1 1 1 = M 1 1 1 := by rw [hM, xup_t (by decide)]
  have e2 : m 1 1 2 = M 1 1 2 := by rw [hM, xup_t (by decide)]
  rw [e1, e2]
  simp only [f_X12_byRights, g1w_X12_byRights, g2c_X12_byRights, g3b_X12_byRights, g4_X12_byRights, g5_X12_byRights, g6c_X12_byRights, g7b_X12_byRights, g9_X12_byRights, iscM_x, isdM_x, ← hM]
  by_cases z1 : 0 ≤ a1 ∧ a1 ≤ M 1 1 1 * M 1 1 2 - 1
  · rw [if_pos z1, if_neg (show ¬ (1 : Int) = 0 by decide)]
    by_cases z2 : 0 ≤ a2 ∧ a2 ≤ 3
    · rw [if_pos z2, if_neg (show ¬ (1 : Int) = 0 by decide), if_pos ⟨z1, z2⟩]
    · rw [if_neg z2, if_pos rfl, if_neg (fun q => z2 q.2)]
  · rw [if_neg z1, if_pos rfl, if_neg (fun q => z1 q.1)]
theorem rightsC_x (s : XS) (a1 a2 : Int) : f_X11_byRights s a1 a2 = if (0 ≤ a1 ∧ a1 < s 0 1 5 * s 0 1 6) ∧ (0 ≤ a2 ∧ a2 < 4) then f_X8_leftByRights s ((4 * a1) + a2) else (s, -2) := by
  simp only [f_X11_byRights, g1c_X11_byRights, g2b_X11_byRights, g3_X11_byRights, g4_X11_byRights, g5c_X11_byRights, issC_x]
  by_cases z1 : (0 ≤ a1 ∧ a1 < s 0 1 5 * s 0 1 6) ∧ (0 ≤ a2 ∧ a2 < 4)
  · rw [if_pos z1, if_neg (show ¬ (1 : Int) = 0 by decide), if_pos z1]
  · rw [if_neg z1, if_pos rfl, if_neg z1]
theorem RS_byRights {s m : XS} {a1 a2 : Int} (h : RS s m) : (f_X11_byRights s a1 a2).2 = (f_X12_byRights m a1 a2).2 ∧ RS (f_X11_byRights s a1 a2).1 (f_X12_byRights m a1 a2).1 := by
  obtain ⟨h, S⟩ := h
  have hN := h.1.2.2.2.2.1
  rw [rightsC_x, rightsM_x]
  have e1 : m 1 1 1 = s 0 1 5 := hN.1
  have e2 : m 1 1 2 = s 0 1 6 := hN.2.1
  rw [e1, e2]
  by_cases z : (0 ≤ a1 ∧ a1 < s 0 1 5 * s 0 1 6) ∧ (0 ≤ a2 ∧ a2 < 4)
  · rw [if_pos z, if_pos (show (0 ≤ a1 ∧ a1 ≤ s 0 1 5 * s 0 1 6 - 1) ∧ (0 ≤ a2 ∧ a2 ≤ 3) from ⟨⟨z.1.1, by have := z.1.2; omega⟩, z.2.1, by have := z.2.2; omega⟩)]
    rcases Ld_of hN h.2.2.1 with ⟨q1, q2, -, -⟩ | ⟨w, hh, L⟩
    · exfalso
      have := z.1
      rw [q1, q2] at this
      omega
    · have ewh : s 0 1 5 * s 0 1 6 = ((w * hh : Nat) : Int) := by rw [L.2.1.1, L.2.1.2.1, Int.natCast_mul]
      rw [ewh] at z
      obtain ⟨c, rfl⟩ : ∃ c : Nat, a1 = (c : Int) := ⟨a1.toNat, by omega⟩
      obtain ⟨d, rfl⟩ : ∃ d : Nat, a2 = (d : Int) := ⟨a2.toNat, by omega⟩
      have m11 : (xup m 0 0 0 0) 1 1 = m 1 1 := funext fun k => xup_t (by decide)
      have LM : Ld s ((xup m 0 0 0 0) 1 1) w hh := by rw [m11]; exact L
      obtain ⟨u, v, r, r1, r2, r3, r4, r5⟩ := byRights_x LM S (c := c) (d := d) (by omega) (by omega)
      rw [show (4 * (c : Int)) + (d : Int) = ((4 * c + d : Nat) : Int) by omega, r1, r2]
      refine ⟨rfl, h.same (fun t c k q => r4 t c k (by unfold phC pnC at q; omega) (by unfold phC pnC at q; omega)) (fun k => r4 _ _ _ (by omega) (by omega)) (fun k => r4 _ _ _ (by omega) (by omega)) (fun t c k q => (r5 t c k (by unfold pnM at q; omega)).trans (thr_f (by unfold pnM at q; omega))), r3⟩
  · rw [if_neg z, if_neg (fun q => z ⟨⟨q.1.1, by have := q.1.2; omega⟩, q.2.1, by have := q.2.2; omega⟩)]
    exact ⟨rfl, RH_thr h, S⟩
