/-! laws: the two readers in step -/
def SimL (P : List Int → Prop) (f g : XS → XS) : Prop := ∀ (w : WW) (L : Nat) (F : Int) (l : List Int) (p : Int) (s m : XS), Ev L F s m → Rx w L F l p s m → 0 ≤ p → Go w L F l p 1 P s m (f s) (g m)
theorem Go.weak {w : WW} {L : Nat} {F : Int} {l : List Int} {p k k' : Int} {P Q : List Int → Prop} {s m u v : XS} (h : Go w L F l p k P s m u v) (hk : k' ≤ k) (hP : ∀ d, P d → Q d) : Go w L F l p k' Q s m u v := by
  obtain ⟨h1, h2, h3, h4⟩ := h
  refine ⟨h1, h2, h3, ?_⟩
  rcases h4 with ⟨d, g1, g2, g3⟩ | h4
  · exact Or.inl ⟨d, hP d g1, g2, by omega⟩
  · exact Or.inr h4
theorem Okc.at900 {w : WW} {L : Nat} {F : Int} {l : List Int} {p : Int} {s m : XS} (h : Okc w L F l p s m) : 0 ≤ s 0 77 5 ∧ s 0 77 5 ≤ 900 ∧ m 0 0 6 = s 0 77 5 ∧ (s 0 77 4 ≠ 0 → s 0 77 5 < 900) := by
  obtain ⟨-, k2, -, ⟨b1, b2, b3, b4, b5, -⟩, -, -, -⟩ := h
  exact ⟨b1, by omega, k2.symm, fun q => by have := b5 q; omega⟩
/-- a loop of both: while a token stands there, on -/
theorem X_loop {w : WW} {L : Nat} {F : Int} {p : Int} {b : Bool} {H : Nat} {LC : Nat → XS → Int → XR} {LM : Nat → XS → XR} {cC cM : XS → Prop} {bC bM : XS → XS}
    (hCz : ∀ s i, LC 0 s i = (s, 0)) (hC1 : ∀ n s i, i < 900 → cC s → LC (n + 1) s i = LC n (bC s) (i + 1)) (hC0 : ∀ n s i, ¬ cC s → LC (n + 1) s i = (s, 0))
    (hMz : ∀ m, LM 0 m = (m, 0)) (hM1 : ∀ n m, cM m → LM (n + 1) m = LM n (bM m)) (hM0 : ∀ n m, ¬ cM m → LM (n + 1) m = (m, 0))
    (hc : ∀ l s m, Ev L F s m → Rx w L F l p s m → (cC s ↔ cM m)) (hd : ∀ m, cM m → m 0 0 11 = 0 ∧ m 0 0 9 ≠ 25) (hk : ∀ s, cC s → s 0 77 4 ≠ 0)
    (hs : ∀ l s m, Ev L F s m → Okc w L F l p s m → cM m → Go w L F l p 1 (Bin b H) s m (bC s) (bM m)) :
    ∀ (nM nC : Nat) (i : Int) (l : List Int) (s m : XS), Ev L F s m → (Dead (s 0 77) (m 0 0) → LC nC s i = (s, 0) ∧ LM nM m = (m, 0)) ∧ (Okc w L F l p s m → 900 - s 0 77 5 < (nM : Int) → (nC : Int) = 901 - i → i ≤ s 0 77 5 → Go w L F l p 0 (Bin b H) s m (LC nC s i).1 (LM nM m).1) := by
  have dead : ∀ (nM nC : Nat) (i : Int) (l : List Int) (s m : XS), Ev L F s m → Dead (s 0 77) (m 0 0) → LC nC s i = (s, 0) ∧ LM nM m = (m, 0) := by
    intro nM nC i l s m E h
    have n1 : ¬ cM m := fun q => by
      have z := hd m q
      obtain ⟨h8, -, ⟨g1, g2⟩ | ⟨g1, g2, -⟩⟩ := h
      · exact h8 (g1.symm.trans z.1)
      · exact z.2 g2
    have n2 : ¬ cC s := fun q => n1 ((hc l s m E (Or.inr h)).mp q)
    have e1 : LC nC s i = (s, 0) := by
      cases nC with
      | zero => exact hCz s i
      | succ n => exact hC0 n s i n2
    have e2 : LM nM m = (m, 0) := by
      cases nM with
      | zero => exact hMz m
      | succ n => exact hM0 n m n1
    exact ⟨e1, e2⟩
  intro nM
  induction nM with
  | zero =>
    intro nC i l s m E
    refine ⟨fun h => dead 0 nC i l s m E h, fun h q1 q2 q3 => ?_⟩
    have a := h.at900
    exfalso; omega
  | succ nM ih =>
    intro nC i l s m E
    refine ⟨fun h => dead (nM + 1) nC i l s m E h, fun h q1 q2 q3 => ?_⟩
    have a := h.at900
    obtain ⟨n, rfl⟩ : ∃ n, nC = n + 1 := ⟨nC - 1, by omega⟩
    by_cases c : cM m
    · have cs := (hc l s m E (Or.inl h)).mpr c
      have i9 : i < 900 := by have := a.2.2.2 (hk s cs); omega
      rw [hC1 n s i i9 cs, hM1 nM m c]
      obtain ⟨g1, g2, g3, g4⟩ := hs l s m E h c
      have E2 := E.fr g1 g2 g3
      rcases g4 with ⟨d, d1, d2, d3⟩ | g4
      · have a2 := d2.at900
        obtain ⟨r1, r2, r3, r4⟩ := (ih n (i + 1) (l ++ d) (bC s) (bM m) E2).2 d2 (by omega) (by omega) (by omega)
        refine ⟨g1.tr r1, g2.tr r2, r3, ?_⟩
        rcases r4 with ⟨d', t1, t2, t3⟩ | r4
        · refine Or.inl ⟨d ++ d', fun st => ⟨?_, ?_⟩, by rw [← List.append_assoc]; exact t2, by omega⟩
          · rw [tyl_app, (d1 st).1]
            exact (t1 st).1
          · have q := hgm_app d d' (b :: st) (b :: st) (d1 st).1
            have q1 := (d1 st).2
            have q2 := (t1 st).2
            simp only [List.length_cons] at q
            omega
        · exact Or.inr r4
      · obtain ⟨e1, e2⟩ := dead nM n (i + 1) l (bC s) (bM m) E2 g4
        rw [e1, e2]
        exact ⟨g1, g2, g3, Or.inr g4⟩
    · have n2 : ¬ cC s := fun q => c ((hc l s m E (Or.inl h)).mp q)
      rw [hC0 n s i n2, hM0 nM m c]
      exact ⟨FrC.rf, FrM.rf, E.2.2.2.1, Or.inl ⟨[], fun st => ⟨rfl, by show st.length + 1 ≤ _; omega⟩, by rw [List.append_nil]; exact h, by show s 0 77 5 + 0 ≤ s 0 77 5; omega⟩⟩
/-- the reference's eats, goesIn; a number or word behind which one goes on -/
theorem eats_x (m : XS) (k : Int) : f_X12_eats m k = if m 0 0 11 = 0 ∧ m 0 0 9 = k then ((f_X12_next m).1, 1) else (m, 0) := by
  simp only [f_X12_eats, g1c_X12_eats, g2b_X12_eats, g3_X12_eats, g4_X12_eats, g5c_X12_eats, is_x]
  by_cases c : m 0 0 11 = 0 ∧ m 0 0 9 = k
  · rw [if_pos c, if_pos c, if_neg (by decide)]
  · rw [if_neg c, if_neg c, if_pos rfl]
theorem nx_11 {U x : Nat → Int} : nxM U x 11 = x 11 := by
  unfold nxM nxT
  (repeat' split) <;> rfl
/-- an operand behind an operator, then its code -/
theorem X_bin {w : WW} {L : Nat} {F : Int} {l : List Int} {p : Int} {s m : XS} {b0 b : Bool} {H : Nat} {a c : Int} {f g : XS → XS} (hty : ∀ st, tyf (b0 :: b0 :: st) a = some (b :: st)) (hc : tc1 a = [c]) (ha : 3000 ≤ a ∧ a ≤ 3007) (hH : 1 ≤ H) (hf : SimL (Num b0 H) f g) (E : Ev L F s m) (h : Okc w L F l p s m) (h0 : 0 ≤ p) (h4 : s 0 77 4 ≠ 0) :
    Go w L F l p 1 (fun d => ∀ st, tyl d (b0 :: st) = some (b :: st) ∧ hgm d (st.length + 1) ≤ st.length + 1 + H) s m (f_X4_add (f (f_X5_advance s).1) (Int.toNat (f (f_X5_advance s).1 3 77 10)) c).1 (f_X12_codes (g (f_X12_next m).1) a).1 := by
  have b1 := h.2.2.2.1.2.2.2.2.1 h4
  have h7 := h.2.2.2.2.2.2
  obtain ⟨a1, a2, a3, a4, a5⟩ := X_adv (q := p + 1) E h (by omega)
  have E2 := E.fr a1 a2 a3
  obtain ⟨g1, g2, g3, g4⟩ := hf w L F l (p + 1) _ _ E2 a4 (by omega)
  have E3 := E2.fr g1 g2 g3
  rcases g4 with ⟨d, d1, d2, d3⟩ | g4
  · obtain ⟨r1, r2, r3, r4, r5⟩ := X_code (q := p) E3 hc (Or.inl d2) (fun z => by have := z.at900; have := z.2.2.2.2.2.2; omega) (by omega)
    refine ⟨(a1.tr g1).tr r1, (a2.tr g2).tr r2, r3, ?_⟩
    rcases r4 with r4 | r4
    · refine Or.inl ⟨d ++ [a], fun st => ⟨?_, ?_⟩, by rw [← List.append_assoc]; exact r4, by rw [r5]; omega⟩
      · rw [tyl_app, (d1 (b0 :: st)).1]
        show (tyf (b0 :: b0 :: st) a).bind (tyl []) = _
        rw [hty st]
        rfl
      · have q := hgm_app d [a] (b0 :: st) (b0 :: b0 :: st) (d1 (b0 :: st)).1
        have q1 := (d1 (b0 :: st)).2
        have q2 : hgm [a] (b0 :: b0 :: st).length ≤ st.length + 2 := by
          unfold hgm
          rw [if_neg (by omega), if_neg (by omega)]
          unfold hgm
          simp only [List.length_cons]
          omega
        simp only [List.length_cons] at q q1 q2 ⊢
        omega
    · exact Or.inr r4
  · obtain ⟨r1, r2, r3, r4, r5⟩ := X_code (w := w) (F := F) (l := l) (p := p + 1) (q := p) E3 hc (Or.inr g4) (fun z => absurd z.1.1 (g4.1)) (by omega)
    refine ⟨(a1.tr g1).tr r1, (a2.tr g2).tr r2, r3, Or.inr ?_⟩
    rcases r4 with r4 | r4
    · exfalso
      have := r4.1.1
      rw [r5] at this
      exact g4.1 this
    · exact r4
/-- a sign that must stand there -/
theorem X_need {w : WW} {L : Nat} {F : Int} {l : List Int} {p : Int} {s m : XS} {c k : Int} (hc : (c = 59 ∧ k = 30) ∨ (c = 58 ∧ k = 31) ∨ (c = 43 ∧ k = 32) ∨ (c = 45 ∧ k = 33) ∨ (c = 42 ∧ k = 34) ∨ (c = 40 ∧ k = 35) ∨ (c = 41 ∧ k = 36) ∨ (c = 91 ∧ k = 37) ∨ (c = 93 ∧ k = 38) ∨ (c = 61 ∧ k = 39) ∨ (c = 60 ∧ k = 40) ∨ (c = 62 ∧ k = 41)) (E : Ev L F s m) (h : Rx w L F l p s m) :
    FrC L s (f_X5_sign s c).1 ∧ (∀ v, (v = if m 0 0 11 = 0 ∧ m 0 0 9 = k then (f_X12_next m).1 else (f_X12_fails m 2).1) → FrM F m v ∧ F ≤ v 1 4 873 ∧ Rx w L F l p (f_X5_sign s c).1 v ∧ (Okc w L F l p (f_X5_sign s c).1 v → Okc w L F l p s m ∧ s 0 77 5 + 1 ≤ (f_X5_sign s c).1 0 77 5)) := by
  have q := R_sgn h.rk hc
  have e : (f_X5_sign s c).1 = if s 0 77 4 = c then (f_X5_advance s).1 else (f_X5_fail s 2).1 := by
    simp only [f_X5_sign, g1b_X5_sign, g2_X5_sign, g3_X5_sign, g4c_X5_sign, g5c_X5_sign]
    split <;> rfl
  by_cases z : m 0 0 11 = 0 ∧ m 0 0 9 = k
  · have ok := h.ok z.1 (by omega)
    rw [e, if_pos (q.mpr z)]
    obtain ⟨a1, a2, a3, a4, a5⟩ := X_adv (q := p) E ok (by have := ok.2.2.2.2.2.2; have := ok.2.2.2.1.2.1; omega)
    refine ⟨a1, fun v hv => ?_⟩
    rw [if_pos z] at hv
    subst hv
    have b1 := ok.2.2.2.1.2.2.2.2.1 (by rw [q.mpr z]; omega)
    exact ⟨a2, a3, a4, fun _ => ⟨ok, by omega⟩⟩
  · rw [e, if_neg (fun x => z (q.mp x))]
    have r := X_fail (k := 2) (kk := 0) (P := fun _ => False) (by decide) E h
    obtain ⟨r1, r2, r3, r4⟩ := r
    refine ⟨r1, fun v hv => ?_⟩
    rw [if_neg z] at hv
    subst hv
    rcases r4 with ⟨d, d1, -⟩ | r4
    · exact d1.elim
    · exact ⟨r2, r3, Or.inr r4, fun ok => absurd ok.1.1 r4.1⟩
/-- an operand, then the loop behind it -/
theorem X_seq {w : WW} {L : Nat} {F : Int} {l : List Int} {p : Int} {b : Bool} {H : Nat} {s m u v : XS} {LC : Nat → XS → Int → XR} {LM : Nat → XS → XR} (E : Ev L F s m) (g : Go w L F l p 1 (Num b H) s m u v) (lp : ∀ (nM nC : Nat) (i : Int) (l : List Int) (s m : XS), Ev L F s m → (Dead (s 0 77) (m 0 0) → LC nC s i = (s, 0) ∧ LM nM m = (m, 0)) ∧ (Okc w L F l p s m → 900 - s 0 77 5 < (nM : Int) → (nC : Int) = 901 - i → i ≤ s 0 77 5 → Go w L F l p 0 (Bin b H) s m (LC nC s i).1 (LM nM m).1)) :
    Go w L F l p 1 (Num b (H + 1)) s m (LC ((900 - 0 + 1 : Int)).toNat u 0).1 (LM ((900 - v 0 0 6 + 1)).toNat v).1 := by
  obtain ⟨g1, g2, g3, g4⟩ := g
  have E2 := E.fr g1 g2 g3
  rcases g4 with ⟨d, d1, d2, d3⟩ | g4
  · have a2 := d2.at900
    obtain ⟨r1, r2, r3, r4⟩ := (lp ((900 - v 0 0 6 + 1)).toNat ((900 - 0 + 1 : Int)).toNat 0 (l ++ d) u v E2).2 d2 (by omega) (by omega) (by omega)
    refine ⟨g1.tr r1, g2.tr r2, r3, ?_⟩
    rcases r4 with ⟨d', t1, t2, t3⟩ | r4
    · refine Or.inl ⟨d ++ d', fun st => ⟨?_, ?_⟩, by rw [← List.append_assoc]; exact t2, by omega⟩
      · rw [tyl_app, (d1 st).1]
        exact (t1 st).1
      · have q := hgm_app d d' st (b :: st) (d1 st).1
        have q1 := (d1 st).2
        have q2 := (t1 st).2
        simp only [List.length_cons] at q
        omega
    · exact Or.inr r4
  · obtain ⟨e1, e2⟩ := (lp ((900 - v 0 0 6 + 1)).toNat ((900 - 0 + 1 : Int)).toNat 0 l u v E2).1 g4
    rw [e1, e2]
    exact ⟨g1, g2, g3, Or.inr g4⟩
