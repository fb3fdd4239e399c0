/-! the two readers alike: T the class's tape (bytes with sign), U the reference's -/
abbrev Sb (T U : Nat → Int) : Prop := ∀ j, (0 ≤ U j ∧ U j ≤ 127 ∧ T j = U j) ∨ (128 ≤ U j ∧ U j ≤ 255 ∧ T j = U j - 256)
theorem skP_eq {T U : Nat → Int} (h : Sb T U) {n : Int} : ∀ (k : Nat) (p : Int), skP T n k p = skP U n k p
  | 0, p => rfl
  | k + 1, p => by
    unfold skP
    have g := h p.toNat
    by_cases c : p < n ∧ (T p.toNat = 32 ∨ T p.toNat = 10)
    · rw [if_pos c, if_pos (by omega), skP_eq h]
    · rw [if_neg c, if_neg (by omega)]
theorem skip_eq {T U : Nat → Int} (h : Sb T U) {n p : Int} : skip T n p = skip U n p := skP_eq h _ _
theorem rnP_eq {T U : Nat → Int} (h : Sb T U) {n lo hi : Int} (h0 : 0 ≤ lo) (h1 : hi ≤ 127) : ∀ (k : Nat) (p : Int), rnP T n lo hi k p = rnP U n lo hi k p
  | 0, p => rfl
  | k + 1, p => by
    unfold rnP
    have g := h p.toNat
    by_cases c : p < n ∧ (lo ≤ T p.toNat ∧ T p.toNat ≤ hi)
    · rw [if_pos c, if_pos (by omega), rnP_eq h h0 h1]
    · rw [if_neg c, if_neg (by omega)]
theorem run_eq {T U : Nat → Int} (h : Sb T U) {n lo hi p : Int} (h0 : 0 ≤ lo) (h1 : hi ≤ 127) : run T n lo hi p = run U n lo hi p := rnP_eq h h0 h1 _ _
theorem rn_ge {T : Nat → Int} {n lo hi : Int} : ∀ (k : Nat) (p : Int), p ≤ rnP T n lo hi k p
  | 0, p => Int.le_refl _
  | k + 1, p => by
    unfold rnP
    split
    · exact Int.le_trans (by omega) (rn_ge k (p + 1))
    · exact Int.le_refl _
theorem nxt_small {v t : Int} (h0 : 0 ≤ v) (h1 : v ≤ 99) (h2 : 48 ≤ t) (h3 : t ≤ 57) : nxt v t = 10 * v + t - 48 := by
  have k : ∀ a : Nat, a < 100 → ∀ b : Nat, b < 10 → nxt (a : Int) (48 + (b : Int)) = 10 * (a : Int) + (b : Int) := by decide +kernel
  have e := k v.toNat (by omega) (t - 48).toNat (by omega)
  rw [show ((v.toNat : Nat) : Int) = v by omega, show (((t - 48).toNat : Nat) : Int) = t - 48 by omega, show 48 + (t - 48) = t by omega] at e
  omega
theorem nu_eq {T U : Nat → Int} (h : Sb T U) {n p : Int} : ∀ (f : Nat) (b v : Int), ((b - p = 0 ∧ v = 0) ∨ (b - p = 1 ∧ 0 ≤ v ∧ v ≤ 9) ∨ (b - p = 2 ∧ 0 ≤ v ∧ v ≤ 99) ∨ 3 ≤ b - p) → rnP T n 48 57 f b - p ≤ 3 → nuP T n f b v = nmP U n p f b v
  | 0, b, v, _, _ => rfl
  | f + 1, b, v, hb, hr => by
    unfold nuP nmP
    have g := h b.toNat
    by_cases c : b < n ∧ (48 ≤ T b.toNat ∧ T b.toNat ≤ 57)
    · have r := rn_ge (T := T) (n := n) (lo := 48) (hi := 57) f (b + 1)
      have e : rnP T n 48 57 (f + 1) b = rnP T n 48 57 f (b + 1) := by
        conv => lhs; unfold rnP
        rw [if_pos c]
      rw [e] at hr
      have gt : T b.toNat = U b.toNat := by omega
      rw [if_pos c, if_pos (by omega), if_pos (by omega), nxt_small (by omega) (by omega) c.2.1 c.2.2, ← gt]
      exact nu_eq h f (b + 1) _ (by omega) hr
    · rw [if_neg c, if_neg (by omega)]
theorem num_eq {T U : Nat → Int} (h : Sb T U) {n p : Int} (hr : run T n 48 57 p - p ≤ 3) : num T n p 0 = nmM U n p p 0 := nu_eq h _ p 0 (by omega) hr
/-! the words: which of the class's texts, where in the reference's -/
abbrev cl (m : Nat) : Nat := [1, 2, 3, 4, 9, 10, 11, 18, 5, 6, 7, 8, 21, 20, 19, 12, 13, 14, 15, 16, 17].getD m 0
abbrev ks (m : Nat) : Nat := [1, 6, 11, 16, 23, 29, 35, 41, 45, 51, 56, 62, 67, 70, 74, 78, 80, 82, 87, 91, 96].getD m 0
abbrev ln (m : Nat) : Nat := strLen.getD (cl m) 0
theorem wd_tab : ∀ m : Nat, m < 21 → chK (((ks m : Nat) : Int) + ((ln m : Nat) : Int)) = 32 ∧ ∀ i : Nat, i < ln m → chK (((ks m : Nat) : Int) + (i : Int)) ≠ 32 ∧ chK (((ks m : Nat) : Int) + (i : Int)) = (chB (cl m) i).toInt ∧ 97 ≤ (chB (cl m) i).toInt ∧ (chB (cl m) i).toInt ≤ 122 := by decide +kernel
theorem wd_ne : ∀ m : Nat, m < 21 → ∀ q : Nat, q < 21 → ln m = ln q → (∀ i : Nat, i < ln m → (chB (cl m) i).toInt = (chB (cl q) i).toInt) → m = q := by decide +kernel
def wdm (T : Nat → Int) (a b : Int) (m : Nat) : Prop := b - a = ((ln m : Nat) : Int) ∧ ∀ i : Nat, i < ln m → T (a + i).toNat = (chB (cl m) i).toInt
theorem wd_U {T U : Nat → Int} (h : Sb T U) {a b : Int} {m : Nat} (hm : m < 21) : MW U a b ((ks m : Nat) : Int) ↔ wdm T a b m := by
  obtain ⟨h1, h2⟩ := wd_tab m hm
  constructor
  · rintro ⟨i, g1, g2, g3⟩
    have e : i = ln m := by
      rcases Nat.lt_trichotomy i (ln m) with q | q | q
      · exact absurd g1 (h2 i q).1
      · exact q
      · exact absurd h1 (g3 (ln m) (by omega)).1
    subst e
    refine ⟨by omega, fun i hi => ?_⟩
    have g := g3 i (by omega)
    have k := h2 i hi
    have s := h (a + (i : Int)).toNat
    omega
  · rintro ⟨g1, g2⟩
    refine ⟨ln m, h1, by omega, fun i hi => ?_⟩
    have k := h2 i (by omega)
    have g := g2 i (by omega)
    have s := h (a + (i : Int)).toNat
    exact ⟨k.1, by omega⟩
theorem wdm_ne {T : Nat → Int} {a b : Int} {m q : Nat} (hm : m < 21) (hq : q < 21) (h : wdm T a b m) (g : wdm T a b q) : m = q := by
  refine wd_ne m hm q hq ?_ (fun i hi => ?_)
  · have := h.1; have := g.1; omega
  · have e : ln m = ln q := by have := h.1; have := g.1; omega
    rw [← h.2 i hi, g.2 i (by omega)]
theorem ky_st {U : Nat → Int} {a b k k' n : Int} {f : Nat} (hk : k < 101) (h : nb k + 1 = k') : kyP U a b (f + 1) k n = n ∧ MW U a b k ∨ kyP U a b (f + 1) k n = kyP U a b f k' (n + 1) ∧ ¬ MW U a b k := by
  conv in (occs := 1) (kyP U a b (f + 1) k n) => unfold kyP
  conv in (occs := 1) (kyP U a b (f + 1) k n) => unfold kyP
  rw [if_pos hk, h]
  by_cases c : MW U a b k
  · left; exact ⟨by rw [if_pos c], c⟩
  · right; exact ⟨by rw [if_neg c], c⟩
theorem ks_nb : ∀ m : Nat, m < 21 → ((ks m : Nat) : Int) < 101 ∧ nb ((ks m : Nat) : Int) + 1 = (if m < 20 then ((ks (m + 1) : Nat) : Int) else 101) := by decide +kernel
theorem ky_from {U : Nat → Int} {a b : Int} : ∀ (d m f : Nat), m + d = 20 → d < f → (∃ q : Nat, m ≤ q ∧ q < 21 ∧ kyP U a b f ((ks m : Nat) : Int) (m : Int) = (q : Int) ∧ MW U a b ((ks q : Nat) : Int)) ∨ (kyP U a b f ((ks m : Nat) : Int) (m : Int) = 22 ∧ ∀ q : Nat, m ≤ q → q < 21 → ¬ MW U a b ((ks q : Nat) : Int))
  | 0, m, f + 1, hm, hf => by
    obtain ⟨h1, h2⟩ := ks_nb m (by omega)
    rw [if_neg (by omega)] at h2
    rcases ky_st (U := U) (a := a) (b := b) (n := (m : Int)) (f := f) h1 h2 with ⟨e, c⟩ | ⟨e, c⟩
    · exact Or.inl ⟨m, by omega, by omega, e, c⟩
    · refine Or.inr ⟨?_, fun q h3 h4 => by rw [show q = m by omega]; exact c⟩
      rw [e]
      cases f with
      | zero => rfl
      | succ f => unfold kyP; rw [if_neg (by omega)]
  | d + 1, m, f + 1, hm, hf => by
    obtain ⟨h1, h2⟩ := ks_nb m (by omega)
    rw [if_pos (by omega)] at h2
    rcases ky_st (U := U) (a := a) (b := b) (n := (m : Int)) (f := f) h1 h2 with ⟨e, c⟩ | ⟨e, c⟩
    · exact Or.inl ⟨m, by omega, by omega, e, c⟩
    · rw [e, show (m : Int) + 1 = ((m + 1 : Nat) : Int) by omega]
      rcases ky_from d (m + 1) f (by omega) (by omega) with ⟨q, g1, g2, g3, g4⟩ | ⟨g1, g2⟩
      · exact Or.inl ⟨q, by omega, g2, g3, g4⟩
      · refine Or.inr ⟨g1, fun q h3 h4 => ?_⟩
        by_cases hq : q = m
        · rw [hq]; exact c
        · exact g2 q (by omega) h4
  | d, m, 0, _, hf => absurd hf (by omega)
theorem ky_wd {T U : Nat → Int} (h : Sb T U) {a b : Int} : (0 ≤ kyM U a b ∧ kyM U a b ≤ 22) ∧ ∀ m : Nat, m < 21 → (wdm T a b m ↔ kyM U a b = (m : Int)) := by
  have k := ky_from (U := U) (a := a) (b := b) 20 0 200 (by omega) (by omega)
  have e : kyM U a b = kyP U a b 200 ((ks 0 : Nat) : Int) ((0 : Nat) : Int) := rfl
  rw [← e] at k
  rcases k with ⟨q, _, g2, g3, g4⟩ | ⟨g1, g2⟩
  · have w := (wd_U h g2).mp g4
    refine ⟨by omega, fun m hm => ⟨fun c => ?_, fun c => ?_⟩⟩
    · rw [wdm_ne hm g2 c w]; exact g3
    · have : m = q := by omega
      subst this; exact w
  · refine ⟨by omega, fun m hm => ⟨fun c => ?_, fun c => ?_⟩⟩
    · exact absurd ((wd_U h hm).mpr c) (g2 m (by omega) hm)
    · omega
theorem wI_wd {T : Nat → Int} {s : Nat → Int} {m : Nat} : wI T (cl m) s = 1 ↔ s 4 = 1 ∧ wdm T (s 5) (s 6) m := by
  unfold wI wdm
  by_cases c : isW T (cl m) s
  · rw [if_pos c]; exact ⟨fun _ => ⟨c.1, c.2⟩, fun _ => rfl⟩
  · rw [if_neg c]; exact ⟨fun q => absurd q (by decide), fun q => absurd (⟨q.1, q.2⟩ : isW T (cl m) s) c⟩
/-! signs -/
theorem kd_12 (c : Int) : kdP c 12 = if c = 62 then 41 else if c = 60 then 40 else if c = 61 then 39 else if c = 93 then 38 else if c = 91 then 37 else if c = 41 then 36 else if c = 40 then 35 else if c = 42 then 34 else if c = 45 then 33 else if c = 43 then 32 else if c = 58 then 31 else if c = 59 then 30 else 25 := by
  simp only [kdP, show (chB 0 11).toInt = 62 from by decide +kernel, show (chB 0 10).toInt = 60 from by decide +kernel, show (chB 0 9).toInt = 61 from by decide +kernel, show (chB 0 8).toInt = 93 from by decide +kernel, show (chB 0 7).toInt = 91 from by decide +kernel, show (chB 0 6).toInt = 41 from by decide +kernel, show (chB 0 5).toInt = 40 from by decide +kernel, show (chB 0 4).toInt = 42 from by decide +kernel, show (chB 0 3).toInt = 45 from by decide +kernel, show (chB 0 2).toInt = 43 from by decide +kernel, show (chB 0 1).toInt = 58 from by decide +kernel, show (chB 0 0).toInt = 59 from by decide +kernel]
  rfl
theorem kd_no {c : Int} (h : ¬ sgn c) : kdP c 12 = 25 := by
  rw [kd_12]; (repeat' split) <;> first | rfl | (exfalso; omega)
theorem kd_in {c : Int} (h : sgn c) : (c = 59 ∧ kdP c 12 = 30) ∨ (c = 58 ∧ kdP c 12 = 31) ∨ (c = 43 ∧ kdP c 12 = 32) ∨ (c = 45 ∧ kdP c 12 = 33) ∨ (c = 42 ∧ kdP c 12 = 34) ∨ (c = 40 ∧ kdP c 12 = 35) ∨ (c = 41 ∧ kdP c 12 = 36) ∨ (c = 91 ∧ kdP c 12 = 37) ∨ (c = 93 ∧ kdP c 12 = 38) ∨ (c = 61 ∧ kdP c 12 = 39) ∨ (c = 60 ∧ kdP c 12 = 40) ∨ (c = 62 ∧ kdP c 12 = 41) := by
  rw [kd_12]
  rcases h with rfl | rfl | rfl | rfl | rfl | rfl | rfl | rfl | rfl | rfl | rfl | rfl <;> decide
/-! the relation: w = (lines, width, height, people) of the text so far -/
abbrev WW : Type := Int × Int × Int × Int
def Kk (T : Nat → Int) (s m : Nat → Int) : Prop :=
  (s 4 = 0 ∧ m 9 = 24) ∨ (s 4 = 1 ∧ 0 ≤ m 9 ∧ m 9 ≤ 22 ∧ ∀ q : Nat, q < 21 → (wdm T (s 5) (s 6) q ↔ m 9 = (q : Int))) ∨ (s 4 = 2 ∧ m 9 = 23 ∧ s 7 = m 10) ∨ (sgn (s 4) ∧ m 9 = kdP (s 4) 12)
def Ok (w : WW) (s m : Nat → Int) : Prop := s 8 = 0 ∧ m 11 = 0 ∧ s 3 = m 8 ∧ s 6 = m 7 ∧ m 100 = w.1 ∧ m 101 = w.2.1 ∧ m 102 = w.2.2.1 ∧ m 103 = w.2.2.2 ∧ s 9 = -1
def Dead (s m : Nat → Int) : Prop := s 8 ≠ 0 ∧ s 4 = 0 ∧ ((m 11 = s 8 ∧ m 12 = s 9) ∨ (m 11 = 0 ∧ m 9 = 25 ∧ s 8 = 1 ∧ s 9 = m 6))
def Rk (T : Nat → Int) (w : WW) (s m : Nat → Int) : Prop := (Ok w s m ∧ s 5 = m 6 ∧ Kk T s m) ∨ Dead s m
theorem failS_dead {k : Int} {s : Nat → Int} (h8 : s 8 ≠ 0) (h4 : s 4 = 0) : failS k s = s := by
  unfold failS; rw [if_neg h8, upI_id h4]
theorem failM_dead {k : Int} {m : Nat → Int} (h : m 11 ≠ 0) : failM k m = m := by
  unfold failM; rw [if_neg h]
theorem R_fail {T : Nat → Int} {w : WW} {s m : Nat → Int} {k : Int} (hk : k ≠ 0) (h : Rk T w s m) : Rk T w (failS k s) (failM k m) := by
  rcases h with ⟨⟨h8, h11, _⟩, h5, hK⟩ | ⟨h8, h4, hD⟩
  · right
    have n25 : m 9 ≠ 25 := by
      rcases hK with h | h | h | h
      · omega
      · omega
      · omega
      · rcases kd_in h.1 with q | q | q | q | q | q | q | q | q | q | q | q <;> omega
    have e1 : failS k s = upI (upI (upI s 8 k) 9 (s 5)) 4 0 := by unfold failS; rw [if_pos h8]
    have e2 : failM k m = upI (upI m 11 k) 12 (m 6) := by unfold failM; rw [if_pos h11, if_neg n25]
    rw [e1, e2]
    exact ⟨hk, rfl, Or.inl ⟨rfl, h5.symm⟩⟩
  · right
    rw [failS_dead h8 h4]
    rcases hD with ⟨g1, g2⟩ | ⟨g1, g2, g3, g4⟩
    · rw [failM_dead (by omega)]; exact ⟨h8, h4, Or.inl ⟨g1, g2⟩⟩
    · have e2 : failM k m = upI (upI m 11 1) 12 (m 6) := by unfold failM; rw [if_pos g1, if_pos g2]
      rw [e2]; exact ⟨h8, h4, Or.inl ⟨g3.symm, g4.symm⟩⟩
theorem R_adv0 {T U : Nat → Int} (hT : Sb T U) {w : WW} {s m : Nat → Int} (h : Ok w s m) : Rk T w (advS T s) (nxM U m) := by
  obtain ⟨h8, h11, h3, h6, h100, h101, h102, h103, h9⟩ := h
  have e0 : advS T s = advT T (m 8) (skip U (m 8) (m 7)) s := by unfold advS; rw [if_pos h8, h3, h6, skip_eq hT]
  rw [e0]
  unfold nxM
  generalize skip U (m 8) (m 7) = p
  unfold advT nxT
  have g := hT p.toNat
  by_cases c1 : m 8 ≤ p
  · rw [if_pos c1, if_pos c1]
    exact Or.inl ⟨⟨h8, h11, h3, rfl, h100, h101, h102, h103, h9⟩, rfl, Or.inl ⟨rfl, rfl⟩⟩
  · rw [if_neg c1, if_neg c1]
    by_cases c2 : isSm (T p.toNat)
    · rw [if_pos c2, if_pos (show isSm (U p.toNat) by omega), run_eq hT (by omega) (by omega)]
      have k := ky_wd hT (a := p) (b := run U (m 8) 97 122 p)
      exact Or.inl ⟨⟨h8, h11, h3, rfl, h100, h101, h102, h103, h9⟩, rfl, Or.inr (Or.inl ⟨rfl, k.1.1, k.1.2, k.2⟩)⟩
    · rw [if_neg c2, if_neg (show ¬ isSm (U p.toNat) by omega)]
      by_cases c3 : isDg (T p.toNat)
      · rw [if_pos c3, if_pos (show isDg (U p.toNat) by omega), ← run_eq hT (by omega) (by omega)]
        unfold advN
        by_cases c4 : 3 < run T (m 8) 48 57 p - p
        · rw [if_pos c4, if_pos c4]
          have e1 : ∀ x : Nat → Int, x 8 = 0 → failS 1 x = upI (upI (upI x 8 1) 9 (x 5)) 4 0 := fun x hx => by unfold failS; rw [if_pos hx]
          rw [e1]
          · exact Or.inr ⟨(by decide : (1 : Int) ≠ 0), rfl, Or.inr ⟨h11, rfl, rfl, rfl⟩⟩
          · exact h8
        · rw [if_neg c4, if_neg c4]
          exact Or.inl ⟨⟨h8, h11, h3, rfl, h100, h101, h102, h103, h9⟩, rfl, Or.inr (Or.inr (Or.inl ⟨rfl, rfl, num_eq hT (by omega)⟩))⟩
      · rw [if_neg c3, if_neg (show ¬ isDg (U p.toNat) by omega)]
        by_cases c4 : sgn (T p.toNat)
        · rw [if_pos c4]
          have e : U p.toNat = T p.toNat := by omega
          rw [e]
          exact Or.inl ⟨⟨h8, h11, h3, rfl, h100, h101, h102, h103, h9⟩, rfl, Or.inr (Or.inr (Or.inr ⟨c4, rfl⟩))⟩
        · rw [if_neg c4]
          have e1 : ∀ x : Nat → Int, x 8 = 0 → failS 1 x = upI (upI (upI x 8 1) 9 (x 5)) 4 0 := fun x hx => by unfold failS; rw [if_pos hx]
          rw [e1, kd_no (show ¬ sgn (U p.toNat) by omega)]
          · exact Or.inr ⟨(by decide : (1 : Int) ≠ 0), rfl, Or.inr ⟨h11, rfl, rfl, rfl⟩⟩
          · exact h8
/-! what stands there, alike -/
theorem R_ok {T : Nat → Int} {w : WW} {s m : Nat → Int} (h : Rk T w s m) (h1 : m 11 = 0) (h2 : m 9 ≠ 25) : Ok w s m ∧ s 5 = m 6 ∧ Kk T s m := by
  rcases h with h | ⟨h8, h4, hD⟩
  · exact h
  · exfalso; omega
theorem R_adv {T U : Nat → Int} (hT : Sb T U) {w : WW} {s m : Nat → Int} (h : Rk T w s m) (h1 : m 11 = 0) (h2 : m 9 ≠ 25) : Rk T w (advS T s) (nxM U m) := R_adv0 hT (R_ok h h1 h2).1
theorem R_num {T : Nat → Int} {w : WW} {s m : Nat → Int} (h : Rk T w s m) : s 4 = 2 ↔ (m 11 = 0 ∧ m 9 = 23) := by
  rcases h with ⟨⟨h8, h11, _⟩, _, hK⟩ | ⟨h8, h4, hD⟩
  · rcases hK with h | h | h | h
    · omega
    · have := h.2.2.1; omega
    · omega
    · rcases kd_in h.1 with q | q | q | q | q | q | q | q | q | q | q | q <;> omega
  · omega
theorem R_sgn {T : Nat → Int} {w : WW} {s m : Nat → Int} (h : Rk T w s m) {c k : Int} (hc : (c = 59 ∧ k = 30) ∨ (c = 58 ∧ k = 31) ∨ (c = 43 ∧ k = 32) ∨ (c = 45 ∧ k = 33) ∨ (c = 42 ∧ k = 34) ∨ (c = 40 ∧ k = 35) ∨ (c = 41 ∧ k = 36) ∨ (c = 91 ∧ k = 37) ∨ (c = 93 ∧ k = 38) ∨ (c = 61 ∧ k = 39) ∨ (c = 60 ∧ k = 40) ∨ (c = 62 ∧ k = 41)) : s 4 = c ↔ (m 11 = 0 ∧ m 9 = k) := by
  rcases h with ⟨⟨h8, h11, _⟩, _, hK⟩ | ⟨h8, h4, hD⟩
  · rcases hK with h | h | h | h
    · omega
    · have := h.2.2.1; have := h.2.1; have := h.1; omega
    · omega
    · have e := h.2
      rcases kd_in h.1 with q | q | q | q | q | q | q | q | q | q | q | q <;> omega
  · omega
theorem R_wd {T : Nat → Int} {w : WW} {s m : Nat → Int} (h : Rk T w s m) {q : Nat} (hq : q < 21) : wI T (cl q) s = 1 ↔ (m 11 = 0 ∧ m 9 = (q : Int)) := by
  rw [wI_wd]
  rcases h with ⟨⟨h8, h11, _⟩, _, hK⟩ | ⟨h8, h4, hD⟩
  · rcases hK with h | h | h | h
    · constructor
      · intro g; omega
      · intro g; omega
    · have k := h.2.2.2 q hq
      constructor
      · intro g; exact ⟨h11, k.mp g.2⟩
      · intro g; exact ⟨h.1, k.mpr g.2⟩
    · constructor
      · intro g; omega
      · intro g; omega
    · have e := h.2
      constructor
      · intro g; have := g.1; rcases h.1 with r | r | r | r | r | r | r | r | r | r | r | r <;> omega
      · intro g; have := g.2; rcases kd_in h.1 with r | r | r | r | r | r | r | r | r | r | r | r <;> omega
  · constructor
    · intro g; omega
    · intro g; omega
/-! the parts -/
abbrev Sim (T : Nat → Int) (f g : (Nat → Int) → Nat → Int) : Prop := ∀ (w : WW) (s m : Nat → Int), Rk T w s m → Rk T w (f s) (g m)
theorem R_if {T : Nat → Int} {w : WW} {a b c d : Nat → Int} {p q : Prop} [Decidable p] [Decidable q] (hpq : p ↔ q) (h1 : q → Rk T w a c) (h2 : ¬ q → Rk T w b d) : Rk T w (if p then a else b) (if q then c else d) := by
  by_cases k : q
  · rw [if_pos (hpq.mpr k), if_pos k]; exact h1 k
  · rw [if_neg (fun x => k (hpq.mp x)), if_neg k]; exact h2 k
theorem R_need {T U : Nat → Int} (hT : Sb T U) {c k : Int} (hc : (c = 59 ∧ k = 30) ∨ (c = 58 ∧ k = 31) ∨ (c = 43 ∧ k = 32) ∨ (c = 45 ∧ k = 33) ∨ (c = 42 ∧ k = 34) ∨ (c = 40 ∧ k = 35) ∨ (c = 41 ∧ k = 36) ∨ (c = 91 ∧ k = 37) ∨ (c = 93 ∧ k = 38) ∨ (c = 61 ∧ k = 39) ∨ (c = 60 ∧ k = 40) ∨ (c = 62 ∧ k = 41)) : Sim T (signS T c) (needM U k) := by
  intro w s m h
  unfold signS needM
  exact R_if (R_sgn h hc) (fun q => R_adv hT h q.1 (by omega)) (fun _ => R_fail (by decide) h)
theorem R_tak {T U : Nat → Int} (hT : Sb T U) {lo hi hi' : Int} {w : WW} {s m : Nat → Int} (h : Rk T w s m) (hh : m 11 = 0 ∧ m 9 = 23 → hi = hi') : Rk T w (bndS T lo hi s) (takM U lo hi' m) := by
  unfold bndS takM
  refine R_if (R_num h) (fun q => ?_) (fun _ => R_fail (by decide) h)
  have k := R_ok h q.1 (by omega)
  have e : s 7 = m 10 := by
    rcases k.2.2 with r | r | r | r
    · omega
    · have := r.2.2.1; omega
    · exact r.2.2
    · rcases kd_in r.1 with t | t | t | t | t | t | t | t | t | t | t | t <;> omega
  rw [e, hh q]
  exact R_if Iff.rfl (fun _ => R_fail (by decide) h) (fun _ => R_adv hT h q.1 (by omega))
theorem R_lp {T : Nat → Int} {w : WW} {c d : (Nat → Int) → Prop} [DecidablePred c] [DecidablePred d] {f g : (Nat → Int) → Nat → Int} (hc : ∀ s m, Rk T w s m → (c s ↔ d m)) (hb : ∀ s m, Rk T w s m → d m → Rk T w (f s) (g m)) : ∀ (k : Nat) (s m : Nat → Int), Rk T w s m → Rk T w (lpS c f k s) (lpS d g k m)
  | 0, s, m, h => h
  | k + 1, s, m, h => by
    unfold lpS
    exact R_if (hc s m h) (fun q => R_lp hc hb k _ _ (hb s m h q)) (fun _ => h)
theorem R_term {T U : Nat → Int} (hT : Sb T U) {a b : (Nat → Int) → Nat → Int} (h : Sim T a b) : Sim T (termL T a) (termM U b) := fun w s m r =>
  R_lp (fun _ _ q => R_sgn q (by omega)) (fun _ _ q c => h w _ _ (R_adv hT q c.1 (by omega))) 900 _ _ (h w s m r)
theorem R_sum {T U : Nat → Int} (hT : Sb T U) {a b : (Nat → Int) → Nat → Int} (h : Sim T a b) : Sim T (sumL T a) (sumM U b) := fun w s m r =>
  R_lp (fun _ _ q => by have k1 := R_sgn q (c := 43) (k := 32) (by omega); have k2 := R_sgn q (c := 45) (k := 33) (by omega); rw [k1, k2]; omega) (fun _ _ q c => R_term hT h w _ _ (R_adv hT q c.1 (by omega))) 900 _ _ (R_term hT h w s m r)
theorem R_both {T U : Nat → Int} (hT : Sb T U) {a b : (Nat → Int) → Nat → Int} (h : Sim T a b) : Sim T (bothL T a) (bothM U b) := fun w s m r =>
  R_lp (fun _ _ q => R_wd q (q := 13) (by omega)) (fun _ _ q c => h w _ _ (R_adv hT q c.1 (by omega))) 900 _ _ (h w s m r)
theorem R_truth {T U : Nat → Int} (hT : Sb T U) {a b : (Nat → Int) → Nat → Int} (h : Sim T a b) : Sim T (truthL T a) (truthM U b) := fun w s m r =>
  R_lp (fun _ _ q => R_wd q (q := 12) (by omega)) (fun _ _ q c => R_both hT h w _ _ (R_adv hT q c.1 (by omega))) 900 _ _ (R_both hT h w s m r)
theorem R_go {T U : Nat → Int} (hT : Sb T U) {w : WW} {s m : Nat → Int} (h : Rk T w s m) (h1 : m 11 = 0) (h2 : m 9 ≠ 25) : Rk T w (advS T s) (goM U m) := by
  unfold goM; rw [if_pos h1]; exact R_adv hT h h1 h2
theorem R_atomF {T U : Nat → Int} (hT : Sb T U) {a b : (Nat → Int) → Nat → Int} (h : ∀ w s m, Rk T w s m → m 11 = 0 → m 9 ≠ 25 → Rk T w (a s) (b m)) : Sim T (atomF T a) (atomM U b) := by
  intro w s m r
  unfold atomF atomM
  refine R_if (R_num r) (fun q => R_adv hT r q.1 (by omega)) (fun n1 => ?_)
  have k := R_sgn r (c := 40) (k := 35) (by omega)
  have w12 := R_wd r (q := 15) (by omega)
  have w13 := R_wd r (q := 16) (by omega)
  have w14 := R_wd r (q := 17) (by omega)
  have w15 := R_wd r (q := 18) (by omega)
  have w16 := R_wd r (q := 19) (by omega)
  have w17 := R_wd r (q := 20) (by omega)
  by_cases c : m 11 = 0 ∧ m 9 = 35
  · rw [if_pos (k.mpr c), if_neg (by omega), if_pos c]; exact h w s m r c.1 (by omega)
  · rw [if_neg (fun x => c (k.mp x))]
    refine R_if ?_ (fun q => R_adv hT r q.1 (by omega)) (fun _ => by rw [if_neg c]; exact R_fail (by decide) r)
    show (wI T (cl 15) s = 1 ∨ wI T (cl 16) s = 1 ∨ wI T (cl 17) s = 1 ∨ wI T (cl 18) s = 1 ∨ wI T (cl 19) s = 1 ∨ wI T (cl 20) s = 1) ↔ _
    rw [w12, w13, w14, w15, w16, w17]
    omega
theorem R_atom {T U : Nat → Int} (hT : Sb T U) : ∀ k : Nat, Sim T (atomD T k) (atomE U k)
  | 0 => R_atomF hT (fun w s m r _ _ => R_fail (by decide) r)
  | k + 1 => R_atomF hT (fun w s m r h1 h2 => R_need hT (by omega) w _ _ (R_sum hT (R_atom hT k) w _ _ (R_go hT r h1 h2)))
/-! a dead reader stays as it is -/
theorem dM_atom {U : Nat → Int} {b : (Nat → Int) → Nat → Int} {m : Nat → Int} (h : m 11 ≠ 0) : atomM U b m = m := by
  unfold atomM; rw [if_neg (by omega), if_neg (by omega), if_neg (by omega), failM_dead h]
theorem dM_atomE {U : Nat → Int} {m : Nat → Int} (h : m 11 ≠ 0) : ∀ k : Nat, atomE U k m = m
  | 0 => dM_atom h
  | k + 1 => dM_atom h
theorem dM_term {U : Nat → Int} {b : (Nat → Int) → Nat → Int} {m : Nat → Int} (h : m 11 ≠ 0) (hb : b m = m) : termM U b m = m := by
  unfold termM; rw [hb]; exact lq_e (by omega)
theorem dM_sum {U : Nat → Int} {b : (Nat → Int) → Nat → Int} {m : Nat → Int} (h : m 11 ≠ 0) (hb : b m = m) : sumM U b m = m := by
  unfold sumM; rw [dM_term h hb]; exact lq_e (by omega)
theorem failM_11 {k : Int} {m : Nat → Int} (hk : k ≠ 0) : failM k m 11 ≠ 0 := by
  unfold failM
  split
  · show (if m 9 = 25 then (1 : Int) else k) ≠ 0
    split
    · decide
    · exact hk
  · assumption
theorem R_unitF {T U : Nat → Int} (hT : Sb T U) {a b c d e f : (Nat → Int) → Nat → Int} (h1 : ∀ w s m, Rk T w s m → m 11 = 0 → m 9 ≠ 25 → Rk T w (a s) (b m)) (h2 : ∀ w s m, Rk T w s m → m 11 = 0 → m 9 ≠ 25 → Rk T w (c s) (d m)) (h3 : Sim T e f) (hf : ∀ m, m 11 ≠ 0 → f m = m) : Sim T (unitF T a c e) (unitM U b d f) := by
  intro w s m r
  unfold unitF unitM
  refine R_if (R_wd r (q := 14) (by omega)) (fun q => h1 w s m r q.1 (by omega)) (fun _ => ?_)
  refine R_if (R_sgn r (by omega)) (fun q => h2 w s m r q.1 (by omega)) (fun _ => ?_)
  have r2 := h3 w s m r
  have k1 := R_sgn r2 (c := 61) (k := 39) (by omega)
  have k2 := R_sgn r2 (c := 60) (k := 40) (by omega)
  have k3 := R_sgn r2 (c := 62) (k := 41) (by omega)
  unfold rlM
  by_cases q : f m 11 = 0 ∧ (f m 9 = 39 ∨ f m 9 = 40 ∨ f m 9 = 41)
  · rw [if_pos q, if_pos (by rw [k1, k2, k3]; omega)]
    exact h3 w _ _ (R_adv hT r2 q.1 (by omega))
  · rw [if_neg q, if_neg (by rw [k1, k2, k3]; omega), hf _ (failM_11 (by decide))]
    exact R_fail (by decide) r2
theorem R_unit {T U : Nat → Int} (hT : Sb T U) : ∀ k : Nat, Sim T (unitD T k) (unitE U k)
  | 0 => R_unitF hT (fun w s m r _ _ => R_fail (by decide) r) (fun w s m r _ _ => R_fail (by decide) r) (R_sum hT (R_atom hT 0)) (fun m h => dM_sum h (dM_atomE h 0))
  | k + 1 => R_unitF hT (fun w s m r h1 h2 => R_unit hT k w _ _ (R_go hT r h1 h2)) (fun w s m r h1 h2 => R_need hT (by omega) w _ _ (R_truth hT (R_unit hT k) w _ _ (R_go hT r h1 h2))) (R_sum hT (R_atom hT (k + 1))) (fun m h => dM_sum h (dM_atomE h (k + 1)))
/-! lines -/
theorem failS_8 {k : Int} {s : Nat → Int} (hk : k ≠ 0) : failS k s 8 ≠ 0 := by
  unfold failS
  split
  · exact hk
  · assumption
theorem R_any {T : Nat → Int} {w w' : WW} {s m : Nat → Int} (h : Rk T w s m) (h1 : m 11 ≠ 0) : Rk T w' s m := by
  rcases h with ⟨⟨_, h11, _⟩, _⟩ | h
  · exact absurd h11 h1
  · exact Or.inr h
theorem R_failw {T : Nat → Int} {w w' : WW} {s m : Nat → Int} {k : Int} (hk : k ≠ 0) (h : Rk T w s m) : Rk T w' (failS k s) (failM k m) := R_any (R_fail hk h) (failM_11 hk)
theorem bnd_ok {T : Nat → Int} {lo hi : Int} {s : Nat → Int} (h : bndS T lo hi s 8 = 0) : s 4 = 2 ∧ bndV lo hi s = s 7 := by
  unfold bndS at h
  unfold bndV
  split at h
  · rename_i c
    split at h
    · exact absurd h (failS_8 (by decide))
    · rename_i c2; rw [if_pos c, if_neg c2]; exact ⟨c, rfl⟩
  · exact absurd h (failS_8 (by decide))
theorem R_7 {T : Nat → Int} {w : WW} {s m : Nat → Int} (h : Rk T w s m) (h4 : s 4 = 2) : s 7 = m 10 := by
  have q := (R_num h).mp h4
  have k := R_ok h q.1 (by omega)
  rcases k.2.2 with r | r | r | r
  · omega
  · have := r.1; omega
  · exact r.2.2
  · rcases r.1 with t | t | t | t | t | t | t | t | t | t | t | t <;> omega
theorem wI_0' {T : Nat → Int} {k : Nat} {s : Nat → Int} (h : s 4 ≠ 1) : wI T k s ≠ 1 := by
  unfold wI; rw [if_neg (fun q => h q.1)]; decide
theorem bnd_dead {T : Nat → Int} {lo hi : Int} {s : Nat → Int} (h8 : s 8 ≠ 0) (h4 : s 4 = 0) : bndS T lo hi s = s := by
  unfold bndS; rw [if_neg (by omega), failS_dead h8 h4]
theorem failS_4 {k : Int} {s : Nat → Int} : failS k s 4 = 0 := by unfold failS; split <;> rfl
theorem R_cr {T U : Nat → Int} (hT : Sb T U) {w : WW} {s m : Nat → Int} (h : Rk T w s m) (h1 : m 11 = 0) (h2 : m 9 ≠ 25) (hW : 0 < w.2.1) : Rk T w (crS T w.2.1 w.2.2.1 s) (crM U (nxM U m)) := by
  unfold crS crM crB crA
  rw [if_neg (by omega)]
  have r1 := R_adv hT h h1 h2
  have r2 : Rk T w (bndS T 0 (w.2.1 - 1) (advS T s)) (takM U 0 (nxM U m 101 - 1) (nxM U m)) := R_tak hT r1 (fun q => by rw [(R_ok r1 q.1 (by omega)).1.2.2.2.2.2.1])
  exact R_tak hT r2 (fun q => by rw [(R_ok r2 q.1 (by omega)).1.2.2.2.2.2.2.1])
theorem R_hd {T U : Nat → Int} (hT : Sb T U) : Sim T (hdS T) (hdM U) := by
  intro w s m r
  have w8 : wI T 5 s = 1 ↔ (m 11 = 0 ∧ m 9 = 8) := R_wd r (q := 8) (by omega)
  have w9 : wI T 6 s = 1 ↔ (m 11 = 0 ∧ m 9 = 9) := R_wd r (q := 9) (by omega)
  have w10 : wI T 7 s = 1 ↔ (m 11 = 0 ∧ m 9 = 10) := R_wd r (q := 10) (by omega)
  have w11 : wI T 8 s = 1 ↔ (m 11 = 0 ∧ m 9 = 11) := R_wd r (q := 11) (by omega)
  unfold hdS hdM
  by_cases c : m 11 = 0 ∧ (8 ≤ m 9 ∧ m 9 ≤ 11)
  · rw [if_pos (by rw [w8, w9, w10, w11]; omega), if_neg (by omega)]
    exact R_go hT r c.1 (by omega)
  · rw [if_neg (by rw [w8, w9, w10, w11]; omega)]
    have e : goM U (if m 11 = 0 ∧ ¬ (8 ≤ m 9 ∧ m 9 ≤ 11) then failM 2 m else m) = failM 2 m := by
      by_cases z : m 11 = 0
      · rw [if_pos (by omega)]; unfold goM; rw [if_neg (failM_11 (by decide))]
      · rw [if_neg (by omega), failM_dead z]; unfold goM; rw [if_neg z]
    rw [e]
    exact R_fail (by decide) r
theorem R_opt {T U : Nat → Int} (hT : Sb T U) {q : Nat} {hi : Int} (hq : q < 21) : Sim T (optS T (cl q) hi) (optM U (q : Int) hi) := by
  intro w s m r
  unfold optS optM
  exact R_if (R_wd r hq) (fun c => R_tak hT (R_adv hT r c.1 (by omega)) (fun _ => rfl)) (fun _ => r)
theorem hd_dead {T : Nat → Int} {s : Nat → Int} (h8 : s 8 ≠ 0) (h4 : s 4 = 0) : hdS T s = s := by
  unfold hdS
  rw [if_neg (by have a := wI_0' (T := T) (k := 5) (s := s) (by omega); have b := wI_0' (T := T) (k := 6) (s := s) (by omega); have c := wI_0' (T := T) (k := 7) (s := s) (by omega); have d := wI_0' (T := T) (k := 8) (s := s) (by omega); omega), failS_dead h8 h4]
theorem opt_dead {T : Nat → Int} {k : Nat} {hi : Int} {s : Nat → Int} (h4 : s 4 = 0) : optS T k hi s = s := by
  unfold optS; rw [if_neg (wI_0' (by omega))]
theorem R_prE {T : Nat → Int} {L W H P : Int} {s m : Nat → Int} (h : Rk T (L, W, H, P) s m) : Rk T (L, W, H, P + 1) s (prE m) := by
  unfold prE
  by_cases z : m 11 = 0
  · rw [if_pos z]
    rcases h with ⟨⟨h8, h11, h3, h6, a, b, c, d, e⟩, h5, hK⟩ | h
    · refine Or.inl ⟨⟨h8, h11, h3, h6, a, b, c, ?_, e⟩, h5, hK⟩
      show m 103 + 1 = P + 1
      rw [d]
    · exact Or.inr h
  · rw [if_neg z]; exact R_any h z
theorem R_ct {T U : Nat → Int} (hT : Sb T U) {L W H P : Int} {s m : Nat → Int} (h : Rk T (L, W, H, P) s m) (h1 : m 11 = 0) (h2 : m 9 ≠ 25) : Rk T (L, bndV 2 5 (advS T s), bndV 2 5 (bndS T 2 5 (advS T s)), P) (bndS T 2 5 (bndS T 2 5 (advS T s))) (ctM U m) := by
  have r1 := R_adv hT h h1 h2
  have r2 : Rk T (L, W, H, P) (bndS T 2 5 (advS T s)) (takM U 2 5 (nxM U m)) := R_tak hT r1 (fun _ => rfl)
  have r3 : Rk T (L, W, H, P) (bndS T 2 5 (bndS T 2 5 (advS T s))) (takM U 2 5 (takM U 2 5 (nxM U m))) := R_tak hT r2 (fun _ => rfl)
  unfold ctM
  by_cases z : takM U 2 5 (takM U 2 5 (nxM U m)) 11 = 0
  · rw [if_pos z]
    rcases r3 with ⟨⟨h8, h11, h3, h6, a, b, c, d, e⟩, h5, hK⟩ | r3
    · have k2 := bnd_ok h8
      have k1 : bndS T 2 5 (advS T s) 8 = 0 := (R_ok r2 ((R_num r2).mp k2.1).1 (by have := ((R_num r2).mp k2.1).2; omega)).1.1
      have k1 := bnd_ok k1
      refine Or.inl ⟨⟨h8, h11, h3, h6, a, ?_, ?_, d, e⟩, h5, hK⟩
      · show nxM U m 10 = bndV 2 5 (advS T s)
        rw [k1.2, R_7 r1 k1.1]
      · show takM U 2 5 (nxM U m) 10 = bndV 2 5 (bndS T 2 5 (advS T s))
        rw [k2.2, R_7 r2 k2.1]
    · exact Or.inr r3
  · rw [if_neg z]; exact R_any r3 z
theorem Rl_law {T U : Nat → Int} (hT : Sb T U) {w : WW} {s m : Nat → Int} (h : Rk T w s m) (h1 : m 11 = 0) (h2 : m 9 ≠ 25) : Rk T w (bgS T s) (needM U 31 (nxM U m)) := R_need hT (by omega) w _ _ (R_adv hT h h1 h2)
theorem R_line {T U : Nat → Int} (hT : Sb T U) {L W H P : Int} (hP : P ≤ 5) {s m : Nat → Int} (r : Rk T (L, W, H, P) s m) : Rk T (L, lineW T W s, lineH T W H s, lineP T W P s) (lineS T W H P s) (lineM U m) := by
  have w1 : wI T 1 s = 1 ↔ (m 11 = 0 ∧ m 9 = 0) := R_wd r (q := 0) (by omega)
  have w2 : wI T 2 s = 1 ↔ (m 11 = 0 ∧ m 9 = 1) := R_wd r (q := 1) (by omega)
  have w3 : wI T 3 s = 1 ↔ (m 11 = 0 ∧ m 9 = 2) := R_wd r (q := 2) (by omega)
  have w4 : wI T 4 s = 1 ↔ (m 11 = 0 ∧ m 9 = 3) := R_wd r (q := 3) (by omega)
  have w11 : wI T 11 s = 1 ↔ (m 11 = 0 ∧ m 9 = 6) := R_wd r (q := 6) (by omega)
  have w18 : wI T 18 s = 1 ↔ (m 11 = 0 ∧ m 9 = 7) := R_wd r (q := 7) (by omega)
  have w14 : wI T 14 s = 1 ↔ (m 11 = 0 ∧ m 9 = 17) := R_wd r (q := 17) (by omega)
  have hf : ∀ w', Rk T w' (failS 2 s) (failM 2 m) := fun w' => R_failw (by decide) r
  unfold lineW lineH lineP lineS lineM
  by_cases z : m 11 = 0 ∧ m 9 ≠ 25
  · have k := R_ok r z.1 z.2
    have eW : m 101 = W := k.1.2.2.2.2.2.1
    have eP : m 103 = P := k.1.2.2.2.2.2.2.2.1
    have z1 := z.1
    rw [eW]
    by_cases c0 : m 9 = 0
    · rw [if_pos (w1.mpr ⟨z1, c0⟩), if_pos (w1.mpr ⟨z1, c0⟩), if_pos (w1.mpr ⟨z1, c0⟩), if_pos (w1.mpr ⟨z1, c0⟩)]
      unfold ctS
      by_cases hW : 0 < W
      · rw [if_pos hW, if_pos hW, if_pos hW, if_neg (show ¬ (m 11 = 0 ∧ m 9 = 0 ∧ ¬ 0 < W) by omega), if_neg (show ¬ (m 11 = 0 ∧ m 9 = 1 ∧ 0 < W) by omega), if_neg (show ¬ (m 11 = 0 ∧ m 9 = 2 ∧ 0 < W) by omega), if_neg (show ¬ (m 11 = 0 ∧ m 9 = 3 ∧ 0 < W) by omega), if_neg (show ¬ (m 11 = 0 ∧ (m 9 = 6 ∨ m 9 = 7)) by omega), if_neg (show ¬ (m 11 = 0 ∧ m 9 = 17) by omega)]
        exact hf _
      · rw [if_neg hW, if_neg hW, if_neg hW, if_pos (show m 11 = 0 ∧ m 9 = 0 ∧ ¬ 0 < W from ⟨z1, c0, hW⟩)]
        exact R_ct hT r z1 z.2
    · have n1 : wI T 1 s ≠ 1 := fun q => c0 (w1.mp q).2
      rw [if_neg n1, if_neg n1, if_neg n1, if_neg n1, if_neg (show ¬ (m 11 = 0 ∧ m 9 = 0 ∧ ¬ 0 < W) by omega)]
      by_cases c1 : m 9 = 1
      · rw [if_pos (w2.mpr ⟨z1, c1⟩), if_pos (w2.mpr ⟨z1, c1⟩)]
        by_cases hW : 0 < W
        · rw [if_pos (show m 11 = 0 ∧ m 9 = 1 ∧ 0 < W from ⟨z1, c1, hW⟩)]
          exact R_tak hT (R_cr hT r z1 z.2 hW) (fun _ => rfl)
        · rw [if_neg (show ¬ (m 11 = 0 ∧ m 9 = 1 ∧ 0 < W) by omega), if_neg (show ¬ (m 11 = 0 ∧ m 9 = 2 ∧ 0 < W) by omega), if_neg (show ¬ (m 11 = 0 ∧ m 9 = 3 ∧ 0 < W) by omega), if_neg (show ¬ (m 11 = 0 ∧ (m 9 = 6 ∨ m 9 = 7)) by omega), if_neg (show ¬ (m 11 = 0 ∧ m 9 = 17) by omega)]
          have e : crS T W H s = failS 2 s := by unfold crS; rw [if_pos (by omega)]
          rw [e, bnd_dead (failS_8 (by decide)) failS_4]
          exact hf _
      · have n2 : wI T 2 s ≠ 1 := fun q => c1 (w2.mp q).2
        rw [if_neg n2, if_neg n2, if_neg (show ¬ (m 11 = 0 ∧ m 9 = 1 ∧ 0 < W) by omega)]
        by_cases c2 : m 9 = 2
        · rw [if_pos (w3.mpr ⟨z1, c2⟩), if_pos (w3.mpr ⟨z1, c2⟩)]
          by_cases hW : 0 < W
          · rw [if_pos (show m 11 = 0 ∧ m 9 = 2 ∧ 0 < W from ⟨z1, c2, hW⟩)]
            exact R_cr hT r z1 z.2 hW
          · rw [if_neg (show ¬ (m 11 = 0 ∧ m 9 = 2 ∧ 0 < W) by omega), if_neg (show ¬ (m 11 = 0 ∧ m 9 = 3 ∧ 0 < W) by omega), if_neg (show ¬ (m 11 = 0 ∧ (m 9 = 6 ∨ m 9 = 7)) by omega), if_neg (show ¬ (m 11 = 0 ∧ m 9 = 17) by omega)]
            have e : crS T W H s = failS 2 s := by unfold crS; rw [if_pos (by omega)]
            rw [e]
            exact hf _
        · have n3 : wI T 3 s ≠ 1 := fun q => c2 (w3.mp q).2
          rw [if_neg n3, if_neg n3, if_neg (show ¬ (m 11 = 0 ∧ m 9 = 2 ∧ 0 < W) by omega)]
          by_cases c3 : m 9 = 3
          · rw [if_pos (w4.mpr ⟨z1, c3⟩), if_pos (w4.mpr ⟨z1, c3⟩)]
            unfold prS
            by_cases hW : 0 < W
            · rw [if_pos (show m 11 = 0 ∧ m 9 = 3 ∧ 0 < W from ⟨z1, c3, hW⟩)]
              unfold prM
              by_cases h5 : 5 ≤ P
              · rw [if_pos (show 0 < W ∧ 5 ≤ P from ⟨hW, h5⟩), if_pos (show 0 < W ∧ 5 ≤ P from ⟨hW, h5⟩), if_pos (show m 103 = 5 by omega)]
                have e : prA U (failM 4 m) = failM 4 m := by unfold prA; rw [if_neg (failM_11 (by decide))]
                rw [e]
                exact R_failw (by decide) r
              · rw [if_neg (show ¬ (0 < W ∧ 5 ≤ P) by omega), if_neg (show ¬ (0 < W ∧ 5 ≤ P) by omega), if_neg (show ¬ m 103 = 5 by omega), if_pos (show P < 5 by omega)]
                unfold prA
                rw [if_pos z1]
                exact R_prE (R_opt hT (q := 5) (by omega) _ _ _ (R_opt hT (q := 4) (by omega) _ _ _ (R_hd hT _ _ _ (R_cr hT r z1 z.2 hW))))
            · rw [if_neg (show ¬ (m 11 = 0 ∧ m 9 = 3 ∧ 0 < W) by omega), if_neg (show ¬ (m 11 = 0 ∧ (m 9 = 6 ∨ m 9 = 7)) by omega), if_neg (show ¬ (m 11 = 0 ∧ m 9 = 17) by omega)]
              have e : crS T W H s = failS 2 s := by unfold crS; rw [if_pos (by omega)]
              rw [if_neg (show ¬ (0 < W ∧ 5 ≤ P) by omega), if_neg (show ¬ (0 < W ∧ 5 ≤ P) by omega), e, hd_dead (failS_8 (by decide)) failS_4, opt_dead failS_4, opt_dead failS_4]
              exact hf _
          · have n4 : wI T 4 s ≠ 1 := fun q => c3 (w4.mp q).2
            rw [if_neg n4, if_neg n4, if_neg (show ¬ (m 11 = 0 ∧ m 9 = 3 ∧ 0 < W) by omega)]
            by_cases c6 : m 9 = 6
            · rw [if_pos (w11.mpr ⟨z1, c6⟩), if_pos (show m 11 = 0 ∧ (m 9 = 6 ∨ m 9 = 7) from ⟨z1, Or.inl c6⟩)]
              unfold lawM
              rw [if_pos (show m 9 - 6 = 0 by omega)]
              exact R_sum hT (R_atom hT 6) _ _ _ (Rl_law hT r z1 z.2)
            · rw [if_neg (fun q => c6 (w11.mp q).2)]
              by_cases c7 : m 9 = 7
              · rw [if_pos (w18.mpr ⟨z1, c7⟩), if_pos (show m 11 = 0 ∧ (m 9 = 6 ∨ m 9 = 7) from ⟨z1, Or.inr c7⟩)]
                unfold lawM
                rw [if_neg (show ¬ m 9 - 6 = 0 by omega)]
                exact R_truth hT (R_unit hT 6) _ _ _ (Rl_law hT r z1 z.2)
              · rw [if_neg (fun q => c7 (w18.mp q).2), if_neg (show ¬ (m 11 = 0 ∧ (m 9 = 6 ∨ m 9 = 7)) by omega)]
                exact R_if w14 (fun q => R_tak hT (R_adv hT r q.1 (by omega)) (fun _ => rfl)) (fun _ => hf _)
  · rw [if_neg (show ¬ wI T 1 s = 1 from fun q => z ⟨(w1.mp q).1, by have := (w1.mp q).2; omega⟩), if_neg (show ¬ wI T 1 s = 1 from fun q => z ⟨(w1.mp q).1, by have := (w1.mp q).2; omega⟩), if_neg (show ¬ wI T 1 s = 1 from fun q => z ⟨(w1.mp q).1, by have := (w1.mp q).2; omega⟩), if_neg (show ¬ wI T 1 s = 1 from fun q => z ⟨(w1.mp q).1, by have := (w1.mp q).2; omega⟩)]
    rw [if_neg (show ¬ wI T 2 s = 1 from fun q => z ⟨(w2.mp q).1, by have := (w2.mp q).2; omega⟩), if_neg (show ¬ wI T 2 s = 1 from fun q => z ⟨(w2.mp q).1, by have := (w2.mp q).2; omega⟩)]
    rw [if_neg (show ¬ wI T 3 s = 1 from fun q => z ⟨(w3.mp q).1, by have := (w3.mp q).2; omega⟩), if_neg (show ¬ wI T 3 s = 1 from fun q => z ⟨(w3.mp q).1, by have := (w3.mp q).2; omega⟩)]
    rw [if_neg (show ¬ wI T 4 s = 1 from fun q => z ⟨(w4.mp q).1, by have := (w4.mp q).2; omega⟩), if_neg (show ¬ wI T 4 s = 1 from fun q => z ⟨(w4.mp q).1, by have := (w4.mp q).2; omega⟩)]
    rw [if_neg (show ¬ wI T 11 s = 1 from fun q => z ⟨(w11.mp q).1, by have := (w11.mp q).2; omega⟩), if_neg (show ¬ wI T 18 s = 1 from fun q => z ⟨(w18.mp q).1, by have := (w18.mp q).2; omega⟩), if_neg (show ¬ wI T 14 s = 1 from fun q => z ⟨(w14.mp q).1, by have := (w14.mp q).2; omega⟩)]
    rw [if_neg (show ¬ (m 11 = 0 ∧ m 9 = 0 ∧ ¬ 0 < m 101) by omega), if_neg (show ¬ (m 11 = 0 ∧ m 9 = 1 ∧ 0 < m 101) by omega), if_neg (show ¬ (m 11 = 0 ∧ m 9 = 2 ∧ 0 < m 101) by omega), if_neg (show ¬ (m 11 = 0 ∧ m 9 = 3 ∧ 0 < m 101) by omega), if_neg (show ¬ (m 11 = 0 ∧ (m 9 = 6 ∨ m 9 = 7)) by omega), if_neg (show ¬ (m 11 = 0 ∧ m 9 = 17) by omega)]
    exact hf _
/-! the whole text -/
def RQ (T : Nat → Int) (q : RS) (m : Nat → Int) : Prop := Rk T (q.2.2.2.2, q.2.1, q.2.2.1, q.2.2.2.1) q.1 m ∧ q.2.2.2.1 ≤ 5
theorem inc_small {v : Int} (h0 : 0 ≤ v) (h1 : v ≤ 900) : inc v = v + 1 := by
  have k : ∀ a : Nat, a < 901 → inc (a : Int) = (a : Int) + 1 := by decide +kernel
  have e := k v.toNat (by omega)
  rw [show ((v.toNat : Nat) : Int) = v by omega] at e
  exact e
theorem R_cnt {T : Nat → Int} {L : Int} {v : Int × Int × Int} {s m : Nat → Int} (h : Rk T (L, v) s m) (h0 : 0 ≤ L) (h1 : L ≤ 900) : Rk T (L + 1, v) s (upI m 100 (inc (m 100))) := by
  rcases h with ⟨⟨h8, h11, h3, h6, a, b, c, d, e⟩, h5, hK⟩ | h
  · refine Or.inl ⟨⟨h8, h11, h3, h6, ?_, b, c, d, e⟩, h5, hK⟩
    show inc (m 100) = L + 1
    rw [a]
    exact inc_small h0 h1
  · exact Or.inr h
theorem lineP_le {T s : Nat → Int} {W P : Int} (h : P ≤ 5) : lineP T W P s ≤ 5 := by
  unfold lineP; (repeat' split) <;> omega
theorem R_bd {T U : Nat → Int} (hT : Sb T U) {q : RS} {m : Nat → Int} (h : RQ T q m) (h0 : 0 ≤ q.2.2.2.2) (h1 : q.2.2.2.2 ≤ 900) : RQ T (rdB T q) (bdM U m) := by
  obtain ⟨s, W, H, P, L⟩ := q
  refine ⟨?_, lineP_le h.2⟩
  exact R_cnt (R_need hT (by omega) _ _ _ (R_line hT h.2 h.1)) h0 h1
theorem line_dead {T s : Nat → Int} {W H P : Int} (h8 : s 8 ≠ 0) (h4 : s 4 = 0) : lineS T W H P s = s := by
  have n : ∀ k, ¬ wI T k s = 1 := fun k => wI_0' (by omega)
  unfold lineS
  rw [if_neg (n 1), if_neg (n 2), if_neg (n 3), if_neg (n 4), if_neg (n 11), if_neg (n 18), if_neg (n 14), failS_dead h8 h4]
theorem lg_n {α : Type} {c : α → Prop} [DecidablePred c] {b : α → α} {k : Nat} {s : α} (hc : ¬ c s) : lpG c b k s = s := by
  cases k with
  | zero => rfl
  | succ k => unfold lpG; rw [if_neg hc]
theorem R_read {T U : Nat → Int} (hT : Sb T U) : ∀ (k : Nat) (q : RS) (m : Nat → Int), RQ T q m → 0 ≤ q.2.2.2.2 → q.2.2.2.2 + (k : Int) ≤ 900 → RQ T (rdL T k q) (lpS (fun s => s 11 = 0 ∧ ¬ s 9 = 24) (bdM U) k m)
  | 0, q, m, h, _, _ => h
  | k + 1, q, m, h, hl, hu => by
    obtain ⟨s, W, H, P, L⟩ := q
    have hl : 0 ≤ L := hl
    have hu : L + ((k + 1 : Nat) : Int) ≤ 900 := hu
    by_cases c : m 11 = 0 ∧ m 9 ≠ 25
    · have o := R_ok h.1 c.1 c.2
      have e : s 4 = 0 ↔ m 9 = 24 := by
        rcases o.2.2 with r | r | r | r
        · have a := r.1; have b := r.2; constructor <;> intro <;> assumption
        · have a := r.1; have b := r.2.2.1; constructor <;> intro g
          · exact absurd (g.symm.trans a) (by decide)
          · omega
        · have a := r.1; have b := r.2.1; constructor <;> intro g
          · exact absurd (g.symm.trans a) (by decide)
          · omega
        · have a := r.1; have b := r.2
          constructor <;> intro g
          · exfalso; have g2 : s 4 = 0 := g; rcases a with t | t | t | t | t | t | t | t | t | t | t | t <;> exact absurd (g2.symm.trans t) (by decide)
          · exfalso; rcases kd_in a with t | t | t | t | t | t | t | t | t | t | t | t <;> omega
      by_cases d : s 4 = 0
      · have e1 : rdL T (k + 1) (s, W, H, P, L) = (s, W, H, P, L) := lg_n (fun q => q d)
        rw [e1, lq_e (fun q => q.2 (e.mp d))]
        exact h
      · have e1 : rdL T (k + 1) (s, W, H, P, L) = rdL T k (rdB T (s, W, H, P, L)) := by
          conv => lhs; unfold rdL lpG
          rw [if_pos d]
        have e2 : lpS (fun s => s 11 = 0 ∧ ¬ s 9 = 24) (bdM U) (k + 1) m = lpS (fun s => s 11 = 0 ∧ ¬ s 9 = 24) (bdM U) k (bdM U m) := by
          conv => lhs; unfold lpS
          rw [if_pos ⟨c.1, fun q => d (e.mpr q)⟩]
        rw [e1, e2]
        exact R_read hT k _ _ (R_bd hT h hl (show L ≤ 900 by omega)) (show 0 ≤ L + 1 by omega) (show L + 1 + (k : Int) ≤ 900 by omega)
    · have hd : Dead s m := by
        rcases h.1 with ⟨⟨_, h11, _⟩, _, hK⟩ | hd
        · exfalso
          refine c ⟨h11, fun q => ?_⟩
          rcases hK with r | r | r | r
          · omega
          · omega
          · omega
          · rcases kd_in r.1 with t | t | t | t | t | t | t | t | t | t | t | t <;> omega
        · exact hd
      have e1 : ∀ k, rdL T k (s, W, H, P, L) = (s, W, H, P, L) := fun k => lg_n (fun q => q hd.2.1)
      rw [e1]
      by_cases z : m 11 = 0
      · have e2 : lpS (fun s => s 11 = 0 ∧ ¬ s 9 = 24) (bdM U) (k + 1) m = lpS (fun s => s 11 = 0 ∧ ¬ s 9 = 24) (bdM U) k (bdM U m) := by
          conv => lhs; unfold lpS
          rw [if_pos ⟨z, by omega⟩]
        rw [e2]
        have b := R_bd hT h hl (show L ≤ 900 by omega)
        have e3 : (rdB T (s, W, H, P, L)).1 = s := by
          show signS T 59 (lineS T W H P s) = s
          rw [line_dead hd.1 hd.2.1]
          unfold signS
          rw [if_neg (by have := hd.2.1; omega), failS_dead hd.1 hd.2.1]
        have e4 : Rk T ((rdB T (s, W, H, P, L)).2.2.2.2, (rdB T (s, W, H, P, L)).2.1, (rdB T (s, W, H, P, L)).2.2.1, (rdB T (s, W, H, P, L)).2.2.2.1) s (bdM U m) := by have b1 := b.1; rw [e3] at b1; exact b1
        have b2 : RQ T (s, W, H, P, L) (bdM U m) := ⟨by
          rcases e4 with ⟨⟨h8, _⟩, _⟩ | e4
          · exact absurd h8 hd.1
          · exact Or.inr e4, h.2⟩
        have r := R_read hT k _ _ b2 hl (show L + (k : Int) ≤ 900 by omega)
        rw [e1] at r
        exact r
      · rw [lq_e (fun q => z q.1)]
        exact h
theorem city_eq {T U : Nat → Int} (hT : Sb T U) {n : Int} {s m : Nat → Int} (hx : ¬ (ctL U n m 11 = 0 ∧ ¬ ctL U n m 9 = 24)) : (rdS T n s).1 8 = ctL U n m 11 ∧ (ctL U n m 11 = 0 → (rdS T n s).1 9 = -1 ∧ (rdS T n s).2.2.2.2 = ctL U n m 100) ∧ (ctL U n m 11 ≠ 0 → (rdS T n s).1 9 = ctL U n m 12) := by
  have h0 : RQ T (advS T (rd0 n s), 0, 0, 0, 0) (nxM U (pl0 (ct0 n m))) := ⟨R_adv0 (w := (0, 0, 0, 0)) (s := rd0 n s) (m := pl0 (ct0 n m)) hT ⟨rfl, rfl, rfl, rfl, rfl, rfl, rfl, rfl, rfl⟩, by show (0 : Int) ≤ 5; decide⟩
  have r : RQ T (rdS T n s) (ctL U n m) := R_read hT 900 _ _ h0 (by show (0 : Int) ≤ 0; decide) (by show (0 : Int) + ((900 : Nat) : Int) ≤ 900; decide)
  rcases r.1 with ⟨⟨h8, h11, _, _, a, _, _, _, e⟩, _⟩ | ⟨h8, h4, ⟨g1, g2⟩ | ⟨g1, g2, _⟩⟩
  · exact ⟨h8.trans h11.symm, fun _ => ⟨e, a.symm⟩, fun q => absurd h11 q⟩
  · exact ⟨g1.symm, fun q => absurd (g1.symm.trans q) h8, fun _ => g2.symm⟩
  · exact absurd ⟨g1, by omega⟩ hx
