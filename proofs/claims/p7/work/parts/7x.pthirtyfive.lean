/-! the ring of what can be undone -/
def Rg (s m : XS) : Prop := ∃ f n : Nat, s 0 0 16 = (f : Int) ∧ s 0 0 17 = (n : Int) ∧ f ≤ 9 ∧ n ≤ 10 ∧ m 1 1 112 = (n : Int) ∧ ∀ j, j < n → s 0 (119 + 8 * ((f + j) % 10)) 7 = m 1 1 3 ∧ Fw (m 1 1 3) (rwC s (119 + 8 * ((f + j) % 10))) (fun k => m 1 1 (113 + 76 * j + k))
theorem Rg.same {s m u v : XS} (h1 : u 0 0 16 = s 0 0 16) (h2 : u 0 0 17 = s 0 0 17) (h3 : ∀ t c k, 119 ≤ c → c ≤ 198 → u t c k = s t c k) (h4 : v 1 1 3 = m 1 1 3) (h5 : ∀ k, 112 ≤ k → k ≤ 872 → v 1 1 k = m 1 1 k) (h : Rg s m) : Rg u v := by
  obtain ⟨f, n, a1, a2, a3, a4, a5, a6⟩ := h
  refine ⟨f, n, by rw [h1]; exact a1, by rw [h2]; exact a2, a3, a4, by rw [h5 112 (by omega) (by omega)]; exact a5, fun j hj => ?_⟩
  obtain ⟨b1, b2⟩ := a6 j hj
  rw [h4, h3 0 _ 7 (by omega) (by omega)]
  refine ⟨b1, fun k hk => ?_⟩
  rw [rwC_same (s := s) (fun t c k q1 q2 => h3 t c k (by omega) (by omega))]
  show _ = v 1 1 (113 + 76 * j + k)
  rw [h5 _ (by omega) (by have := hk.1; omega)]
  exact b2 k hk
theorem keep_x {s m : XS} {e : Nat} (he : (1 ≤ e ∧ e + 7 < 119) ∨ 198 < e) (h : Rg s m) (hp : s 0 e 7 = m 1 1 3) (hw : Fw (m 1 1 3) (rwC s e) (m 1 6)) : Rg (f_X11_keep s e).1 (f_X12_notes m).1 ∧ (∀ t c k, ¬ (t = 0 ∧ c = 0 ∧ (k = 16 ∨ k = 17)) → ¬ (119 ≤ c ∧ c ≤ 198) → (f_X11_keep s e).1 t c k = s t c k) ∧ (∀ t c k, ¬ (t = 1 ∧ c = 1 ∧ 112 ≤ k ∧ k ≤ 872) → (f_X12_notes m).1 t c k = m t c k) := by
  obtain ⟨f, n, a1, a2, a3, a4, a5, a6⟩ := h
  have nx := notes_x a5 a4
  have nf : ∀ t c k, ¬ (t = 1 ∧ c = 1 ∧ 112 ≤ k ∧ k ≤ 872) → (f_X12_notes m).1 t c k = m t c k := by
    intro t c k q
    rw [nx, if_neg (fun y => q ⟨y.1, y.2.1, by omega, by omega⟩), if_neg (fun y => q ⟨y.1, y.2.1, by have := y.2.2.1; split at this <;> omega, by have := y.2.2.2; split at this <;> omega⟩), if_neg (fun y => q ⟨y.1, y.2.1, by omega, by omega⟩)]
  have n3 : (f_X12_notes m).1 1 1 3 = m 1 1 3 := nf _ _ _ (by omega)
  generalize (f_X12_notes m).1 = v at *
  by_cases h10 : n = 10
  · subst h10
    simp only [if_true] at nx
    obtain ⟨f', hf'⟩ : ∃ f', f' = (f + 1) % 10 := ⟨_, rfl⟩
    obtain ⟨s1, hs1⟩ : ∃ s1, s1 = xup (xup s 0 0 16 (f' : Int)) 0 0 17 9 := ⟨_, rfl⟩
    have g16 : s1 0 0 16 = (f' : Int) := by rw [hs1, xup_k (by decide), xup_s]
    have g17 : s1 0 0 17 = 9 := by rw [hs1, xup_s]
    have g0 : ∀ t c k, ¬ (t = 0 ∧ c = 0 ∧ (k = 16 ∨ k = 17)) → s1 t c k = s t c k := fun t c k q => by
      rw [hs1]
      unfold xup
      rw [if_neg (fun y => q ⟨y.1, y.2.1, by omega⟩), if_neg (fun y => q ⟨y.1, y.2.1, by omega⟩)]
    obtain ⟨q, hq⟩ : ∃ q, q = (f' + 9) % 10 := ⟨_, rfl⟩
    have ek : f_X11_keep s e = (xup (f_X1_copy s1 (119 + 8 * q) e).1 0 0 17 ((f_X1_copy s1 (119 + 8 * q) e).1 0 0 17 + 1), 0) := by
      simp only [f_X11_keep, g1b_X11_keep, g2_X11_keep, g3_X11_keep, g4c_X11_keep, g5w_X11_keep, g6w_X11_keep, g7w_X11_keep, g8c_X11_keep, g9w_X11_keep]
      have e1 : (s 0 0 16 + 1) % 10 = (f' : Int) := by rw [a1, hf']; omega
      have e2 : xup s 0 0 16 (f' : Int) 0 0 17 - 1 = 9 := by rw [xup_k (by decide), a2]; rfl
      rw [if_pos (by rw [a2]; rfl), e1, e2, ← hs1, g16, g17]
      have e3 : Int.toNat (((f' : Int) + 9) % 10) = q := by rw [hq]; omega
      rw [e3]
    obtain ⟨c1, c2, c3⟩ := fcopy_x s1 (d := 119 + 8 * q) (e := e) (by omega)
    rw [ek]
    generalize (f_X1_copy s1 (119 + 8 * q) e).1 = w at *
    have w17 : w 0 0 17 = 9 := by rw [c3 0 0 17 (by unfold inF; omega)]; exact g17
    rw [w17]
    show Rg (xup w 0 0 17 (9 + 1)) v ∧ (∀ t c k, _ → _ → xup w 0 0 17 (9 + 1) t c k = s t c k) ∧ _
    have xo : ∀ t c k, ¬ (t = 0 ∧ c = 0 ∧ k = 17) → xup w 0 0 17 (9 + 1) t c k = w t c k := fun t c k y => by
      unfold xup
      exact if_neg y
    refine ⟨⟨f', 10, by rw [xo _ _ _ (by omega), c3 0 0 16 (by unfold inF; omega)]; exact g16, by rw [xup_s]; rfl, by omega, by omega, by rw [nx, if_pos ⟨rfl, rfl, rfl⟩], fun j hj => ?_⟩, fun t c k y1 y2 => ?_, nf⟩
    · rw [n3, xo _ _ _ (by omega), rwC_same (s := w) (fun t c k y1 y2 => xo t c k (by omega))]
      by_cases hj9 : j = 9
      · subst hj9
        rw [show (f' + 9) % 10 = q from hq.symm, c1, g0 _ _ _ (by omega)]
        refine ⟨hp, fun k hk => ?_⟩
        have hk1 := hk.1
        rw [c2 k hk1, rwC_same (s := s) (fun t c k y1 y2 => g0 t c k (by omega)), hw k hk]
        show _ = v 1 1 (113 + 76 * 9 + k)
        rw [nx, if_neg (by omega), if_pos ⟨rfl, rfl, by omega, by omega⟩, show 113 + 76 * 9 + k - (113 + 76 * 9) = k by omega]
      · have ej : (f' + j) % 10 = (f + (j + 1)) % 10 := by omega
        have dj : (f' + j) % 10 ≠ q := by omega
        have o1 : ∀ t c k, 119 + 8 * ((f' + j) % 10) ≤ c → c ≤ 119 + 8 * ((f' + j) % 10) + 7 → w t c k = s t c k := fun t c k y1 y2 => (c3 t c k (by unfold inF; omega)).trans (g0 t c k (by omega))
        obtain ⟨b1, b2⟩ := a6 (j + 1) (by omega)
        rw [o1 _ _ _ (by omega) (by omega), rwC_same (s := s) o1, ej]
        refine ⟨b1, fun k hk => ?_⟩
        have hk1 := hk.1
        rw [b2 k hk]
        show m 1 1 (113 + 76 * (j + 1) + k) = v 1 1 (113 + 76 * j + k)
        rw [nx, if_neg (by omega), if_neg (by omega), if_pos ⟨rfl, rfl, trivial, by omega, by omega⟩, show 113 + 76 * j + k + 76 = 113 + 76 * (j + 1) + k by omega]
    · rw [xo _ _ _ (fun z => y1 ⟨z.1, z.2.1, Or.inr z.2.2⟩), c3 t c k (by unfold inF; omega), g0 t c k y1]
  · simp only [if_neg h10] at nx
    obtain ⟨q, hq⟩ : ∃ q, q = (f + n) % 10 := ⟨_, rfl⟩
    have ek : f_X11_keep s e = (xup (f_X1_copy s (119 + 8 * q) e).1 0 0 17 ((f_X1_copy s (119 + 8 * q) e).1 0 0 17 + 1), 0) := by
      simp only [f_X11_keep, g1b_X11_keep, g2_X11_keep, g3_X11_keep, g4c_X11_keep, g5w_X11_keep, g6w_X11_keep, g7w_X11_keep, g8c_X11_keep, g9w_X11_keep]
      have e3 : Int.toNat ((s 0 0 16 + s 0 0 17) % 10) = q := by rw [a1, a2, hq]; omega
      rw [if_neg (by rw [a2]; omega), e3]
    obtain ⟨c1, c2, c3⟩ := fcopy_x s (d := 119 + 8 * q) (e := e) (by omega)
    rw [ek]
    generalize (f_X1_copy s (119 + 8 * q) e).1 = w at *
    have w17 : w 0 0 17 = (n : Int) := by rw [c3 0 0 17 (by unfold inF; omega)]; exact a2
    rw [w17]
    show Rg (xup w 0 0 17 ((n : Int) + 1)) v ∧ (∀ t c k, _ → _ → xup w 0 0 17 ((n : Int) + 1) t c k = s t c k) ∧ _
    have xo : ∀ t c k, ¬ (t = 0 ∧ c = 0 ∧ k = 17) → xup w 0 0 17 ((n : Int) + 1) t c k = w t c k := fun t c k y => by
      unfold xup
      exact if_neg y
    refine ⟨⟨f, n + 1, by rw [xo _ _ _ (by omega), c3 0 0 16 (by unfold inF; omega)]; exact a1, by rw [xup_s]; omega, a3, by omega, by rw [nx, if_pos ⟨rfl, rfl, rfl⟩], fun j hj => ?_⟩, fun t c k y1 y2 => ?_, nf⟩
    · rw [n3, xo _ _ _ (by omega), rwC_same (s := w) (fun t c k y1 y2 => xo t c k (by omega))]
      by_cases hjn : j = n
      · subst hjn
        rw [show (f + j) % 10 = q from hq.symm, c1]
        refine ⟨hp, fun k hk => ?_⟩
        have hk1 := hk.1
        rw [c2 k hk1, hw k hk]
        show _ = v 1 1 (113 + 76 * j + k)
        rw [nx, if_neg (by omega), if_pos ⟨rfl, rfl, by omega, by omega⟩, show 113 + 76 * j + k - (113 + 76 * j) = k by omega]
      · have dj : (f + j) % 10 ≠ q := by omega
        have o1 : ∀ t c k, 119 + 8 * ((f + j) % 10) ≤ c → c ≤ 119 + 8 * ((f + j) % 10) + 7 → w t c k = s t c k := fun t c k y1 y2 => c3 t c k (by unfold inF; omega)
        obtain ⟨b1, b2⟩ := a6 j (by omega)
        rw [o1 _ _ _ (by omega) (by omega), rwC_same (s := s) o1]
        refine ⟨b1, fun k hk => ?_⟩
        have hk1 := hk.1
        rw [b2 k hk]
        show m 1 1 (113 + 76 * j + k) = v 1 1 (113 + 76 * j + k)
        rw [nx, if_neg (by omega), if_neg (by omega), if_neg (fun y => h10 y.2.2.1)]
    · rw [xo _ _ _ (fun z => y1 ⟨z.1, z.2.1, Or.inr z.2.2⟩), c3 t c k (by unfold inF; omega)]
/-! undo -/
theorem un_l {t c k : Nat} {N : Nat} : ∀ (n : Nat) (m : XS) (x : Int), m 1 1 112 = (N : Int) → 0 ≤ x → x ≤ 76 → 76 - x < (n : Int) → (L10_X12_undo n m x).2 = (N : Int) ∧ (L10_X12_undo n m x).1 t c k = if t = 1 ∧ c = 1 ∧ 36 + x ≤ (k : Int) ∧ (k : Int) < 112 then m 1 1 (113 + 76 * N + (k - 36)) else m t c k
  | 0, m, x, hm, h0, h1, hn => by omega
  | n + 1, m, x, hm, h0, h1, hn => by
    have e : L10_X12_undo (n + 1) m x = if x < 76 then L10_X12_undo n (xup m 1 1 (Int.toNat (36 + x)) (m 1 1 (Int.toNat ((113 + 76 * (N : Int)) + x)))) (x + 1) else (m, (N : Int)) := by
      show g11l_X12_undo (L10_X12_undo n) m x = _
      simp only [g11l_X12_undo, g12b_X12_undo, g13_X12_undo, g14_X12_undo, g15w_X12_undo, show Int.toNat 112 = 112 from rfl, hm]
    rw [e]
    by_cases z : x < 76
    · rw [if_pos z]
      obtain ⟨i1, i2⟩ := un_l (t := t) (c := c) (k := k) n (xup m 1 1 (Int.toNat (36 + x)) (m 1 1 (Int.toNat ((113 + 76 * (N : Int)) + x)))) (x + 1) (by rw [xup_k (by omega)]; exact hm) (by omega) (by omega) (by omega)
      refine ⟨i1, ?_⟩
      rw [i2]
      by_cases q : t = 1 ∧ c = 1 ∧ 36 + x ≤ (k : Int) ∧ (k : Int) < 112
      · rw [if_pos q]
        obtain ⟨rfl, rfl, q3, q4⟩ := q
        by_cases r : (k : Int) = 36 + x
        · rw [if_neg (by omega), show Int.toNat (36 + x) = k by omega, xup_s, show Int.toNat ((113 + 76 * (N : Int)) + x) = 113 + 76 * N + (k - 36) by omega]
        · rw [if_pos ⟨rfl, rfl, by omega, q4⟩, xup_k (by omega)]
      · rw [if_neg q, if_neg (fun r => q ⟨r.1, r.2.1, by omega, r.2.2.2⟩)]
        unfold xup
        rw [if_neg (fun r => q ⟨r.1, r.2.1, by omega, by omega⟩)]
    · rw [if_neg z]
      exact ⟨rfl, by rw [if_neg (fun q => by omega)]⟩
theorem undoM_x {m : XS} {N : Nat} {a : Int} (hm : m 1 1 112 = (N : Int)) (hN : N ≤ 10) (ha : 1 ≤ a ∧ a ≤ (N : Int)) : (f_X12_undo m a).2 = (N : Int) - a ∧ ∀ t c k, (f_X12_undo m a).1 t c k = if t = 1 ∧ c = 1 ∧ 36 ≤ k ∧ k < 112 then m 1 1 (113 + 76 * (N - a.toNat) + (k - 36)) else if t = 1 ∧ c = 1 ∧ k = 112 then (N : Int) - a else if t = 0 ∧ c = 0 ∧ k = 0 then 0 else m t c k := by
  have e5 : xup m 0 0 0 0 1 1 112 = (N : Int) := by rw [xup_t (by decide)]; exact hm
  have e : f_X12_undo m a = L10_X12_undo (Int.toNat (76 - 0 + 1)) (xup (xup m 0 0 0 0) 1 1 112 ((N : Int) - a)) 0 := by
    simp only [f_X12_undo, g1w_X12_undo, g2c_X12_undo, g3b_X12_undo, g5_X12_undo, g6b_X12_undo, g7_X12_undo, g9w_X12_undo, within_x, show Int.toNat 112 = 112 from rfl, e5]
    rw [if_pos (show 1 ≤ a ∧ a ≤ 10 by omega), if_neg (show ¬ (1 : Int) = 0 by decide), if_neg (by omega)]
  rw [e]
  have lp := fun t c k => un_l (t := t) (c := c) (k := k) (N := N - a.toNat) (Int.toNat (76 - 0 + 1)) (xup (xup m 0 0 0 0) 1 1 112 ((N : Int) - a)) 0 (by rw [xup_s]; omega) (by decide) (by decide) (by decide)
  refine ⟨(lp 0 0 0).1.trans (by omega), fun t c k => ?_⟩
  rw [(lp t c k).2]
  by_cases q : t = 1 ∧ c = 1 ∧ 36 ≤ k ∧ k < 112
  · rw [if_pos q, if_pos ⟨q.1, q.2.1, by omega, by omega⟩, xup_k (by omega), xup_t (by decide)]
  · rw [if_neg q, if_neg (fun r => q ⟨r.1, r.2.1, by omega, by omega⟩)]
    rfl
theorem undoM_n {m : XS} {N : Nat} {a : Int} (hm : m 1 1 112 = (N : Int)) (hN : N ≤ 10) (ha : ¬ (1 ≤ a ∧ a ≤ (N : Int))) : f_X12_undo m a = (xup m 0 0 0 0, -3) := by
  have e5 : xup m 0 0 0 0 1 1 112 = (N : Int) := by rw [xup_t (by decide)]; exact hm
  simp only [f_X12_undo, g1w_X12_undo, g2c_X12_undo, g3b_X12_undo, g4_X12_undo, g5_X12_undo, g6b_X12_undo, g8_X12_undo, within_x, show Int.toNat 112 = 112 from rfl, e5]
  by_cases z : 1 ≤ a ∧ a ≤ 10
  · rw [if_pos z, if_neg (show ¬ (1 : Int) = 0 by decide), if_pos (by omega)]
  · rw [if_neg z, if_pos rfl]
theorem undoC_n {s : XS} {n : Nat} {a : Int} (h17 : s 0 0 17 = (n : Int)) (ha : ¬ (1 ≤ a ∧ a ≤ (n : Int))) : f_X11_undo s a = (s, -3) := by
  have e : f_X11_undo s a = if a < 1 then (s, -3) else if s 0 0 17 < a then (s, -3) else g5_X11_undo s a := rfl
  rw [e, h17]
  by_cases z : a < 1
  · rw [if_pos z]
  · rw [if_neg z, if_pos (by omega)]
/-- the class's forecast is forgotten -/
theorem forg_x (s : XS) : f_X2_forget s = (xup s 0 79 4 0, 0) := rfl
theorem undo_x {s m : XS} {a : Int} (h : Rg s m) : (f_X11_undo s a).2 = (f_X12_undo m a).2 ∧ ((f_X11_undo s a = (s, -3) ∧ f_X12_undo m a = (xup m 0 0 0 0, -3)) ∨ (Rg (f_X11_undo s a).1 (f_X12_undo m a).1 ∧ (f_X11_undo s a).1 0 10 7 = m 1 1 3 ∧ Fw (m 1 1 3) (rwC (f_X11_undo s a).1 10) (fun k => (f_X12_undo m a).1 1 1 (36 + k)) ∧ (∃ j c : Nat, j < 10 ∧ c < 10 ∧ rwC (f_X11_undo s a).1 10 = rwC s (119 + 8 * c) ∧ ∀ k, k < 76 → (f_X12_undo m a).1 1 1 (36 + k) = m 1 1 (113 + 76 * j + k)) ∧ (f_X11_undo s a).1 0 79 4 = 0 ∧ (∀ t c k, ¬ (t = 0 ∧ c = 0 ∧ k = 17) → ¬ inF 10 c → ¬ (t = 0 ∧ c = 79 ∧ k = 4) → (f_X11_undo s a).1 t c k = s t c k) ∧ (∀ t c k, ¬ (t = 1 ∧ c = 1 ∧ 36 ≤ k ∧ k ≤ 112) → ¬ (t = 0 ∧ c = 0 ∧ k = 0) → (f_X12_undo m a).1 t c k = m t c k))) := by
  obtain ⟨f, n, a1, a2, a3, a4, a5, a6⟩ := h
  by_cases ha : 1 ≤ a ∧ a ≤ (n : Int)
  · obtain ⟨m1, m2⟩ := undoM_x a5 a4 ha
    obtain ⟨j, hj⟩ : ∃ j, j = n - a.toNat := ⟨_, rfl⟩
    obtain ⟨q, hq⟩ : ∃ q, q = (f + j) % 10 := ⟨_, rfl⟩
    obtain ⟨s1, hs1⟩ : ∃ s1, s1 = xup s 0 0 17 (j : Int) := ⟨_, rfl⟩
    have eu : f_X11_undo s a = (xup (f_X1_copy s1 10 (119 + 8 * q)).1 0 79 4 0, xup (f_X1_copy s1 10 (119 + 8 * q)).1 0 79 4 0 0 0 17) := by
      have e : f_X11_undo s a = if a < 1 then (s, -3) else if s 0 0 17 < a then (s, -3) else g5_X11_undo s a := rfl
      rw [e, if_neg (by omega), if_neg (by rw [a2]; omega)]
      simp only [g5_X11_undo, g7w_X11_undo, g8c_X11_undo, g9c_X11_undo, forg_x]
      rw [show s 0 0 17 - a = (j : Int) by rw [a2]; omega, ← hs1]
      have e3 : Int.toNat ((s1 0 0 16 + s1 0 0 17) % 10) = q := by
        rw [hs1, xup_k (by decide), xup_s, a1, hq]; omega
      rw [e3]
    obtain ⟨c1, c2, c3⟩ := fcopy_x s1 (d := 10) (e := 119 + 8 * q) (by omega)
    have s1o : ∀ t c k, ¬ (t = 0 ∧ c = 0 ∧ k = 17) → s1 t c k = s t c k := fun t c k y => by
      rw [hs1]
      unfold xup
      exact if_neg y
    have s17 : s1 0 0 17 = (j : Int) := by rw [hs1, xup_s]
    have rs1 : rwC s1 (119 + 8 * q) = rwC s (119 + 8 * q) := rwC_same (fun t c k y1 y2 => s1o t c k (by omega))
    obtain ⟨b1, b2⟩ := a6 j (by omega)
    rw [← hq] at b1 b2
    rw [eu]
    generalize (f_X1_copy s1 10 (119 + 8 * q)).1 = w at *
    generalize (f_X12_undo m a).1 = v at *
    have w17 : w 0 0 17 = (j : Int) := (c3 0 0 17 (by unfold inF; omega)).trans s17
    have xo : ∀ t c k, ¬ (t = 0 ∧ c = 79 ∧ k = 4) → xup w 0 79 4 0 t c k = w t c k := fun t c k y => by
      unfold xup
      exact if_neg y
    have v36 : ∀ k, k < 76 → v 1 1 (36 + k) = m 1 1 (113 + 76 * j + k) := fun k hk => by
      rw [m2, if_pos ⟨rfl, rfl, by omega, by omega⟩, show 36 + k - 36 = k by omega, ← hj]
    have v3 : v 1 1 3 = m 1 1 3 := by rw [m2, if_neg (by omega), if_neg (by omega), if_neg (by omega)]
    have rw10 : rwC (xup w 0 79 4 0) 10 = rwC w 10 := rwC_same (fun t c k y1 y2 => xo t c k (by omega))
    have full : rwC w 10 = rwC s (119 + 8 * q) := by
      funext k
      by_cases hk : k < 76
      · rw [c2 k hk, rs1]
      · have e1 : ∀ (x : XS) (b : Nat), rwC x b k = x 0 b 8 := fun x b => by
          unfold rwC
          rw [if_neg (by omega), if_neg (by omega), if_neg (by omega), if_neg (by omega), if_neg (by omega), if_neg (by omega), if_neg (by omega)]
        rw [e1, e1]
        have q75 := c2 75 (by decide)
        rw [rw_hr, rs1, rw_hr] at q75
        exact q75
    refine ⟨?_, Or.inr ⟨⟨f, j, ?_, ?_, a3, by omega, ?_, fun i hi => ?_⟩, ?_, ?_, ⟨j, q, by omega, by omega, ?_, v36⟩, ?_, fun t c k y1 y2 y3 => ?_, fun t c k y1 y2 => ?_⟩⟩
    · show xup w 0 79 4 0 0 0 17 = _
      rw [xo _ _ _ (by omega), w17, m1]; omega
    · show xup w 0 79 4 0 0 0 16 = _
      rw [xo _ _ _ (by omega), c3 0 0 16 (by unfold inF; omega), s1o _ _ _ (by omega)]; exact a1
    · show xup w 0 79 4 0 0 0 17 = _
      rw [xo _ _ _ (by omega), w17]
    · rw [m2, if_neg (by omega), if_pos ⟨rfl, rfl, rfl⟩]; omega
    · obtain ⟨d1, d2⟩ := a6 i (by omega)
      have o1 : ∀ t c k, 119 + 8 * ((f + i) % 10) ≤ c → c ≤ 119 + 8 * ((f + i) % 10) + 7 → xup w 0 79 4 0 t c k = s t c k := fun t c k y1 y2 => (xo t c k (by omega)).trans ((c3 t c k (by unfold inF; omega)).trans (s1o t c k (by omega)))
      show xup w 0 79 4 0 0 (119 + 8 * ((f + i) % 10)) 7 = v 1 1 3 ∧ Fw (v 1 1 3) (rwC (xup w 0 79 4 0) (119 + 8 * ((f + i) % 10))) _
      rw [v3, o1 _ _ _ (by omega) (by omega), rwC_same (s := s) o1]
      refine ⟨d1, fun k hk => ?_⟩
      have hk1 := hk.1
      rw [d2 k hk]
      show m 1 1 (113 + 76 * i + k) = v 1 1 (113 + 76 * i + k)
      rw [m2, if_neg (by omega), if_neg (by omega), if_neg (by omega)]
    · show xup w 0 79 4 0 0 10 7 = _
      rw [xo _ _ _ (by omega), c1, s1o _ _ _ (by omega)]; exact b1
    · show Fw (m 1 1 3) (rwC (xup w 0 79 4 0) 10) _
      intro k hk
      have hk1 := hk.1
      rw [rw10, full, b2 k hk]
      show m 1 1 (113 + 76 * j + k) = v 1 1 (36 + k)
      rw [v36 k hk1]
    · show rwC (xup w 0 79 4 0) 10 = _
      rw [rw10, full]
    · show xup w 0 79 4 0 0 79 4 = 0
      exact xup_s
    · show xup w 0 79 4 0 t c k = _
      rw [xo t c k y3, c3 t c k y2, s1o t c k y1]
    · rw [m2, if_neg (fun z => y1 ⟨z.1, z.2.1, z.2.2.1, by omega⟩), if_neg (fun z => y1 ⟨z.1, z.2.1, by omega, by omega⟩), if_neg y2]
  · have e1 := undoC_n a2 ha
    have e2 := undoM_n a5 a4 ha
    rw [e1, e2]
    exact ⟨rfl, Or.inl ⟨rfl, rfl⟩⟩
