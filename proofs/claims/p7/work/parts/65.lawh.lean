/-! the reference's parts on a store that has failed -/
theorem is_d {m : XS} {k : Int} (h : m 0 0 11 ≠ 0) : f_X12_is m k = (m, 0) := by rw [is_x, if_neg (fun q => h q.1)]
theorem fails_d {m : XS} {k : Int} (h : m 0 0 11 ≠ 0) : f_X12_fails m k = (m, 0) := by rw [fails_x, failM_dead h, put_id]
theorem eats_d {m : XS} {k : Int} (h : m 0 0 11 ≠ 0) : f_X12_eats m k = (m, 0) := by rw [eats_x, if_neg (fun q => h q.1)]
theorem codes_d {m : XS} {k : Int} (h : m 0 0 11 ≠ 0) : f_X12_codes m k = (m, 0) := by
  simp only [f_X12_codes, g1b_X12_codes, g2_X12_codes, g3_X12_codes, g4w_X12_codes, g5w_X12_codes]
  rw [if_neg h]
theorem n10 : ((1 : Int) = 0) = False := eq_false (by decide)
theorem wI01 (T : Nat → Int) (k : Nat) (x : Nat → Int) : wI T k x = 0 ∨ wI T k x = 1 := by
  unfold wI; split
  · exact Or.inr rfl
  · exact Or.inl rfl
theorem wI_n {T : Nat → Int} {k : Nat} {x : Nat → Int} (h : ¬ wI T k x = 1) : wI T k x = 0 := (wI01 T k x).resolve_right h
theorem nx_ok {w : WW} {L : Nat} {F : Int} {l : List Int} {p : Int} {s m : XS} (h : Okc w L F l p s m) : (f_X12_next m).1 0 0 11 = 0 := by
  obtain ⟨k1, k2, k3, ⟨b1, b2, b3, b4, b5, b6⟩, -⟩ := h
  have k8 := k1.2.2.1
  have k9 := k1.2.2.2.1
  rw [nxt_m m (by omega) ⟨by omega, by omega⟩]
  show pO 0 m (nxM (m 1 3) (m 0 0)) 0 0 11 = 0
  rw [put_at, nx_11]
  exact k1.2.1
theorem goesIn_x {w : WW} {L : Nat} {F : Int} {l : List Int} {p : Int} {s m : XS} (h : Okc w L F l p s m) (a : Int) : f_X12_goesIn m a = ((f_X12_next m).1, 1) := by
  have h0 := h.1.2.1
  simp only [f_X12_goesIn, g1b_X12_goesIn, g2_X12_goesIn, g3_X12_goesIn, g4b_X12_goesIn, g5_X12_goesIn, g6_X12_goesIn, g7c_X12_goesIn, g8b_X12_goesIn, g9_X12_goesIn, g10_X12_goesIn]
  rw [if_pos h0, if_pos (nx_ok h)]
/-- a turned truth -/
theorem X_not {w : WW} {L : Nat} {F : Int} {l : List Int} {p : Int} {s m : XS} {H H' : Nat} {f g : XS → XS} (hH : H ≤ H') (h2 : 2 ≤ H') (hf : SimL (Num true H) f g) (E : Ev L F s m) (h : Okc w L F l p s m) (h0 : 0 ≤ p) (h3 : s 0 77 5 + 3 ≤ s 0 77 6) :
    Go w L F l p 1 (Num true H') s m (f_X4_add (f_X4_add (f (f_X5_advance s).1) (Int.toNat (f (f_X5_advance s).1 3 77 10)) 0).1 (Int.toNat ((f_X4_add (f (f_X5_advance s).1) (Int.toNat (f (f_X5_advance s).1 3 77 10)) 0).1 3 77 10)) 2003).1 (f_X12_codes (g (f_X12_next m).1) 3008).1 := by
  have h7 := h.2.2.2.2.2.2
  obtain ⟨a1, a2, a3, a4, a5⟩ := X_adv (q := p + 3) E h (by omega)
  have E2 := E.fr a1 a2 a3
  obtain ⟨g1, g2, g3, g4⟩ := hf w L F l (p + 3) _ _ E2 a4 (by omega)
  have E3 := E2.fr g1 g2 g3
  generalize f (f_X5_advance s).1 = s3 at *
  generalize g (f_X12_next m).1 = m3 at *
  have eL : Int.toNat (s3 3 77 10) = L := by have := E3.2.1; omega
  have hL := E3.2.2.1
  rw [eL]
  have q1 := add_fr s3 L 0
  have eL2 : Int.toNat ((f_X4_add s3 L 0).1 3 77 10) = L := by rw [q1 3 77 10 (by omega) (by omega)]; exact eL
  rw [eL2]
  have q2 := add_fr (f_X4_add s3 L 0).1 L 2003
  have fr : ∀ t c k, c ≠ L → c ≠ L + 1 → (f_X4_add (f_X4_add s3 L 0).1 L 2003).1 t c k = s3 t c k := fun t c k z1 z2 => (q2 t c k z1 z2).trans (q1 t c k z1 z2)
  have e77 : (f_X4_add (f_X4_add s3 L 0).1 L 2003).1 0 77 = s3 0 77 := funext fun k => fr 0 77 k (by omega) (by omega)
  have e78 : (f_X4_add (f_X4_add s3 L 0).1 L 2003).1 1 78 = s3 1 78 := funext fun k => fr 1 78 k (by omega) (by omega)
  have fc := codes_fr F E3.2.2.2.2 m3 3008 g3
  refine ⟨(a1.tr g1).tr (fun t c k _ z2 z3 => fr t c k z2 z3), (a2.tr g2).tr fc.1, fc.2.1, ?_⟩
  rcases g4 with ⟨d, d1, d2, d3⟩ | g4
  · refine Or.inl ⟨d ++ [3008], fun st => ⟨?_, ?_⟩, ?_, by rw [e77]; omega⟩
    · rw [tyl_app, (d1 st).1]; rfl
    · have q := hgm_app d [3008] st (true :: st) (d1 st).1
      have q1 := (d1 st).2
      have q2 : hgm [3008] (true :: st).length = st.length + 2 := by
        unfold hgm
        rw [if_neg (by decide), if_pos rfl]
        unfold hgm
        simp only [List.length_cons]
        omega
      omega
    · have z := d2.at900
      obtain ⟨k1, k2, k3, k4, k5, k6, k7⟩ := d2
      have e : trl (l ++ (d ++ [3008])) = (trl (l ++ d) ++ [0]) ++ [2003] := by
        rw [← List.append_assoc, tr_app, List.append_assoc]
        rfl
      unfold Okc
      rw [e77, e78, fc.2.2, e]
      refine ⟨k1, k2, k3, k4, add_x (add_x k5 0 (by omega)) 2003 (by rw [List.length_append]; show (((trl (l ++ d)).length + 1 : Nat) : Int) < 900; omega), by rw [← List.append_assoc]; exact codes_x k6 3008 k1.2.1, ?_⟩
      rw [List.length_append, List.length_append]
      show (((trl (l ++ d)).length + 1 + 1 : Nat) : Int) + p ≤ s3 0 77 5
      omega
  · refine Or.inr ?_
    rw [e77, fc.2.2]
    exact g4
/-- what stands within brackets -/
theorem X_par {w : WW} {L : Nat} {F : Int} {l : List Int} {p : Int} {s m : XS} {P : List Int → Prop} {f g : XS → XS} {c k : Int} (hc : (c = 59 ∧ k = 30) ∨ (c = 58 ∧ k = 31) ∨ (c = 43 ∧ k = 32) ∨ (c = 45 ∧ k = 33) ∨ (c = 42 ∧ k = 34) ∨ (c = 40 ∧ k = 35) ∨ (c = 41 ∧ k = 36) ∨ (c = 91 ∧ k = 37) ∨ (c = 93 ∧ k = 38) ∨ (c = 61 ∧ k = 39) ∨ (c = 60 ∧ k = 40) ∨ (c = 62 ∧ k = 41)) (hf : SimL P f g) (E : Ev L F s m) (h : Okc w L F l p s m) (h0 : 0 ≤ p) :
    Go w L F l p 1 P s m (f_X5_sign (f (f_X5_advance s).1) c).1 (if (f_X12_eats (g (f_X12_next m).1) k).2 = 0 then (f_X12_fails (f_X12_eats (g (f_X12_next m).1) k).1 2).1 else (f_X12_eats (g (f_X12_next m).1) k).1) := by
  have h7 := h.2.2.2.2.2.2
  have b1 := h.2.2.2.1
  obtain ⟨a1, a2, a3, a4, a5⟩ := X_adv (q := p) E h (by have := b1.2.1; omega)
  have E2 := E.fr a1 a2 a3
  obtain ⟨g1, g2, g3, g4⟩ := hf w L F l p _ _ E2 a4 h0
  have E3 := E2.fr g1 g2 g3
  generalize f (f_X5_advance s).1 = s3 at *
  generalize g (f_X12_next m).1 = m3 at *
  have ev : (if (f_X12_eats m3 k).2 = 0 then (f_X12_fails (f_X12_eats m3 k).1 2).1 else (f_X12_eats m3 k).1) = if m3 0 0 11 = 0 ∧ m3 0 0 9 = k then (f_X12_next m3).1 else (f_X12_fails m3 2).1 := by
    rw [eats_x]
    by_cases z : m3 0 0 11 = 0 ∧ m3 0 0 9 = k
    · rw [if_pos z, if_pos z]
      exact if_neg (show ¬ (1 : Int) = 0 by decide)
    · rw [if_neg z, if_neg z, if_pos rfl]
  rw [ev]
  have b12 : s 0 77 5 ≤ s 0 77 6 := b1.2.1
  rcases g4 with ⟨d, d1, d2, d3⟩ | g4
  · obtain ⟨r1, r2⟩ := X_need hc E3 (Or.inl d2)
    obtain ⟨r2, r3, r4, r5⟩ := r2 _ rfl
    refine ⟨(a1.tr g1).tr r1, (a2.tr g2).tr r2, r3, ?_⟩
    rcases r4 with r4 | r4
    · exact Or.inl ⟨d, d1, r4, by have := (r5 r4).2; omega⟩
    · exact Or.inr r4
  · obtain ⟨r1, r2⟩ := X_need (w := w) (F := F) (l := l) (p := p) hc E3 (Or.inr g4)
    obtain ⟨r2, r3, r4, r5⟩ := r2 _ rfl
    refine ⟨(a1.tr g1).tr r1, (a2.tr g2).tr r2, r3, ?_⟩
    rcases r4 with r4 | r4
    · exact absurd (r5 r4).1.1.1 g4.1
    · exact Or.inr r4
/-- a code, then its token is behind -/
theorem X_cadv {w : WW} {L : Nat} {F : Int} {l : List Int} {p : Int} {b : Bool} {H : Nat} {s m : XS} {a c : Int} (hc : tc1 a = [c]) (hty : ∀ st, tyf st a = some (b :: st)) (ha : a < 3000) (hH : 1 ≤ H) (E : Ev L F s m) (h : Okc w L F l p s m) (h0 : 0 ≤ p) (h4 : s 0 77 4 ≠ 0) :
    Go w L F l p 1 (Num b H) s m (f_X5_advance (f_X4_add s (Int.toNat (s 3 77 10)) c).1).1 (f_X12_next (f_X12_codes m a).1).1 := by
  have z := h.at900
  have h7 := h.2.2.2.2.2.2
  have b1 := h.2.2.2.1.2.2.2.2.1 h4
  obtain ⟨r1, r2, r3, r4, r5⟩ := X_code (q := p - 1) E hc (Or.inl h) (fun _ => by have := z.2.2.2 h4; omega) (by omega)
  have E2 := E.fr r1 r2 r3
  rcases r4 with r4 | r4
  · have h8 := r4.2.2.2.2.2.2
    obtain ⟨a1, a2, a3, a4, a5⟩ := X_adv (q := p) E2 r4 (by rw [r5] at h8 ⊢; omega)
    refine ⟨r1.tr a1, r2.tr a2, a3, ?_⟩
    rcases a4 with a4 | a4
    · refine Or.inl ⟨[a], fun st => ⟨?_, ?_⟩, a4, by rw [r5] at a5; omega⟩
      · show (tyf st a).bind (tyl []) = _
        rw [hty st]; rfl
      · unfold hgm
        rw [if_pos ha]
        unfold hgm
        omega
    · exact Or.inr a4
  · exfalso
    have := r4.1
    rw [r5] at this
    exact this h.1.1
theorem within_x (m : XS) (a lo hi : Int) : f_X12_within m a lo hi = (m, if lo ≤ a ∧ a ≤ hi then 1 else 0) := by
  simp only [f_X12_within, g1b_X12_within, g2_X12_within, g3_X12_within, g4b_X12_within, g5_X12_within, g6_X12_within]
  have q : ∀ a b : Int, (Xcmp a b < 0 ↔ a < b) ∧ (0 < Xcmp a b ↔ b < a) := by
    intro a b
    unfold Xcmp
    constructor <;> (repeat' split) <;> omega
  have q1 := q a lo
  have q2 := q a hi
  (repeat' split) <;> first | rfl | (exfalso; omega)
