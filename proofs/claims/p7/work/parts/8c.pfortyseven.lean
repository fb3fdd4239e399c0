/-! sets that go on street by street: the class's rows are clean behind every way -/
def SQ (N : Nat) (s : XS) : Prop := ∃ a b : Nat, ((a = 84 ∧ b = 85) ∨ (a = 85 ∧ b = 84)) ∧ s 3 83 2 = (a : Int) ∧ s 3 83 3 = (b : Int) ∧ (∀ j, N ≤ j → s 1 b j = 0) ∧ ∃ t : Nat, s 0 83 4 = (t : Int) ∧ t ≤ 120 ∧ ∀ j, 4 * t + 4 ≤ j → s 1 a j = 0
/-- the same with its parts named -/
def SB (a b t : Nat) (s : XS) : Prop := ((a = 84 ∧ b = 85) ∨ (a = 85 ∧ b = 84)) ∧ s 3 83 2 = (a : Int) ∧ s 3 83 3 = (b : Int) ∧ s 0 83 4 = (t : Int) ∧ t ≤ 120
theorem SQ_of {N a b t : Nat} {s : XS} (h : SB a b t s) (h1 : ∀ j, N ≤ j → s 1 b j = 0) (h2 : ∀ j, 4 * t + 4 ≤ j → s 1 a j = 0) : SQ N s := ⟨a, b, h.1, h.2.1, h.2.2.1, h1, t, h.2.2.2.1, h.2.2.2.2, h2⟩
theorem SQ.ex {N : Nat} {s : XS} (h : SQ N s) : ∃ a b t, SB a b t s ∧ (∀ j, N ≤ j → s 1 b j = 0) ∧ ∀ j, 4 * t + 4 ≤ j → s 1 a j = 0 := by
  obtain ⟨a, b, h1, h2, h3, h4, t, h5, h6, h7⟩ := h
  exact ⟨a, b, t, ⟨h1, h2, h3, h5, h6⟩, h4, h7⟩
theorem SB.ts {a b t : Nat} {s : XS} (h : SB a b t s) : Int.toNat (s 3 83 2) = a := by rw [h.2.1]; rfl
theorem SB.tn {a b t : Nat} {s : XS} (h : SB a b t s) : Int.toNat (s 3 83 3) = b := by rw [h.2.2.1]; rfl
theorem SB.fr {a b t : Nat} {s u : XS} (h : SB a b t s) (h2 : u 3 83 2 = s 3 83 2) (h3 : u 3 83 3 = s 3 83 3) (h4 : u 0 83 4 = s 0 83 4) : SB a b t u := ⟨h.1, h2.trans h.2.1, h3.trans h.2.2.1, h4.trans h.2.2.2.1, h.2.2.2.2⟩
theorem SB.up {a b t c k : Nat} {v : Int} {s : XS} (h : SB a b t s) : SB a b t (xup s 1 c k v) := h.fr (xup_t (by decide)) (xup_t (by decide)) (xup_t (by decide))
theorem bg_l {a b t : Nat} {a1 : Int} : ∀ (n : Nat) (s : XS) (x : Int), SB a b t s → 0 ≤ x → x ≤ 4 * (t : Int) + 4 → 4 * (t : Int) + 4 - x < (n : Int) → ∃ u, L1_X8_begin n s a1 x = (xup (xup u 0 83 4 0) 1 a (Int.toNat (Xiand a1 3)) (Xishl 1 (a1 / 4)), 0) ∧ ∀ T c k, u T c k = if T = 1 ∧ c = a ∧ x ≤ (k : Int) ∧ (k : Int) < 4 * (t : Int) + 4 then 0 else s T c k
  | 0, s, x, _, h0, h1, hn => by omega
  | n + 1, s, x, h, h0, h1, hn => by
    have e : L1_X8_begin (n + 1) s a1 x = if x < 4 * (t : Int) + 4 then L1_X8_begin n (xup s 1 a (Int.toNat x) 0) a1 (x + 1) else (xup (xup s 0 83 4 0) 1 a (Int.toNat (Xiand a1 3)) (Xishl 1 (a1 / 4)), 0) := by
      show g2l_X8_begin (L1_X8_begin n) s a1 x = _
      have e3 : xup s 0 83 4 0 3 83 2 = s 3 83 2 := xup_t (by decide)
      simp only [g2l_X8_begin, g3b_X8_begin, g4_X8_begin, g5_X8_begin, g6w_X8_begin, g7w_X8_begin, g8w_X8_begin, e3, h.ts, h.2.2.2.1]
    rw [e]
    by_cases z : x < 4 * (t : Int) + 4
    · rw [if_pos z]
      obtain ⟨u, u1, u2⟩ := bg_l n (xup s 1 a (Int.toNat x) 0) (x + 1) h.up (by omega) (by omega) (by omega)
      refine ⟨u, u1, fun T c k => ?_⟩
      rw [u2]
      unfold xup
      (repeat' split) <;> first | rfl | (exfalso; omega)
    · rw [if_neg z]
      refine ⟨s, rfl, fun T c k => ?_⟩
      rw [if_neg (fun q => by omega)]
theorem begin_x {a b t : Nat} {s : XS} (h : SB a b t s) (ht : ∀ j, 4 * t + 4 ≤ j → s 1 a j = 0) {c d : Nat} (hd : d < 4) (hc : 4 * c + d < 1000) : ∃ u, f_X8_begin s ((4 * c + d : Nat) : Int) = (u, 0) ∧ SB a b 0 u ∧ (∀ j, u 1 a j = if j = d then Xishl 1 (c : Int) else 0) ∧ ∀ T c' k, ¬ (T = 1 ∧ c' = a) → ¬ (T = 0 ∧ c' = 83 ∧ k = 4) → u T c' k = s T c' k := by
  have e : f_X8_begin s ((4 * c + d : Nat) : Int) = L1_X8_begin (Int.toNat (484 - 0 + 1)) s ((4 * c + d : Nat) : Int) 0 := rfl
  have t120 := h.2.2.2.2
  obtain ⟨u, u1, u2⟩ := bg_l (a1 := ((4 * c + d : Nat) : Int)) (Int.toNat (484 - 0 + 1)) s 0 h (by decide) (by omega) (by show 4 * (t : Int) + 4 - 0 < (485 : Int); omega)
  rw [e, u1, and3_x (by omega) (by omega), show Int.toNat (((4 * c + d : Nat) : Int) % 4) = d by omega, show ((4 * c + d : Nat) : Int) / 4 = (c : Int) by omega]
  refine ⟨_, rfl, ⟨h.1, ?_, ?_, ?_, by decide⟩, fun j => ?_, fun T c' k q1 q2 => ?_⟩
  · rw [xup_t (by decide), xup_t (by decide), u2, if_neg (by omega)]; exact h.2.1
  · rw [xup_t (by decide), xup_t (by decide), u2, if_neg (by omega)]; exact h.2.2.1
  · rw [xup_t (by decide), xup_s]; rfl
  · by_cases z : j = d
    · rw [if_pos z, z, xup_s]
    · rw [if_neg z, xup_k z, xup_t (by decide), u2]
      by_cases y : j < 4 * t + 4
      · rw [if_pos ⟨rfl, rfl, by omega, by omega⟩]
      · rw [if_neg (fun q => by omega)]
        exact ht j (by omega)
  · have y1 : xup (xup u 0 83 4 0) 1 a d (Xishl 1 (c : Int)) T c' k = u T c' k := by
      unfold xup
      rw [if_neg (fun z => q1 ⟨z.1, z.2.1⟩), if_neg q2]
    rw [y1, u2, if_neg (fun z => q1 ⟨z.1, z.2.1⟩)]
/-- where the class's streets are read -/
def FrS (b : Nat) (u s : XS) : Prop := ∀ T c k, ¬ (T = 1 ∧ c = b) → u T c k = s T c k
theorem FrS.rf {b : Nat} {s : XS} : FrS b s s := fun _ _ _ _ => rfl
theorem FrS.tr {b : Nat} {x y z : XS} (h : FrS b x y) (g : FrS b y z) : FrS b x z := fun T c k q => (h T c k q).trans (g T c k q)
theorem FrS.up {b k : Nat} {v : Int} {s : XS} : FrS b (xup s 1 b k v) s := fun T c j q => if_neg (fun z => q ⟨z.1, z.2.1⟩)
theorem FrS.ld {b : Nat} {u s : XS} {A : Nat → Int} {w h : Nat} (F : FrS b u s) (hb : b = 84 ∨ b = 85) (L : Ld s A w h) : Ld u A w h := L.fr (F _ _ _ (by omega)) (F _ _ _ (by omega)) (funext fun k => F _ _ _ (by omega)) (funext fun k => F _ _ _ (by omega))
theorem FrS.sb {a b b' t : Nat} {u s : XS} (F : FrS b' u s) (h : SB a b t s) : SB a b t u := h.fr (F _ _ _ (by omega)) (F _ _ _ (by omega)) (F _ _ _ (by omega))
/-- what one heading brings: straight and right -/
theorem gr_1 {a b t : Nat} {s : XS} {A : Nat → Int} {w h : Nat} (H : SB a b t s) (L : Ld s A w h) {R x : Nat} (hx : x < 4) {n : Nat} : ∃ u, L1_X8_goByRights (n + 1) s (R : Int) (x : Int) = L1_X8_goByRights n u (R : Int) ((x + 1 : Nat) : Int) ∧ (∀ T c k, ¬ (T = 1 ∧ c = b ∧ R ≤ k ∧ k < R + 4) → u T c k = s T c k) ∧ ∀ e, e < 4 → ∀ k, k < 32 → (bz (u 1 b (R + e)) k = true ↔ (bz (s 1 b (R + e)) k = true ∨ ∃ c t', t' < 2 ∧ (x + t') % 4 = e ∧ c < w * h ∧ sF A c e = (k : Int) ∧ bz (s 1 a (R + x)) c = true)) := by
  have b25 := L.b25
  have hab := H.1
  have e0 : L1_X8_goByRights (n + 1) s (R : Int) (x : Int) = g5_X8_goByRights (L1_X8_goByRights n) s (R : Int) (x : Int) := by
    show g2l_X8_goByRights (L1_X8_goByRights n) s (R : Int) (x : Int) = _
    simp only [g2l_X8_goByRights, g3b_X8_goByRights]
    rw [if_pos (by omega)]
  rw [e0]
  have i1 : Int.toNat ((R : Int) + (x : Int)) = R + x := by omega
  by_cases z : s 1 a (R + x) = 0
  · refine ⟨s, ?_, fun _ _ _ _ => rfl, fun e he k hk => ?_⟩
    · simp only [g5_X8_goByRights, g6b_X8_goByRights, g7_X8_goByRights, H.ts, i1]
      rw [if_pos z]
      rfl
    · constructor
      · exact Or.inl
      · rintro (q | ⟨c, t', q1, q2, q3, q4, q5⟩)
        · exact q
        · rw [z, bz_0] at q5
          cases q5
  · obtain ⟨X, hX⟩ : ∃ X : Nat, X = (x + 1) % 4 := ⟨_, rfl⟩
    have X4 : X < 4 := by omega
    have m1 := mov_x L (v := s 1 a (R + x)) hx
    obtain ⟨r1, hr1⟩ : ∃ r1, r1 = (f_X0_moved s 1 (s 1 a (R + x)) (x : Int)).2 := ⟨_, rfl⟩
    obtain ⟨s1, hs1⟩ : ∃ s1, s1 = xup s 1 b (R + x) (Xior (s 1 b (R + x)) r1) := ⟨_, rfl⟩
    have F1 : FrS b s1 s := by rw [hs1]; exact FrS.up
    have L1 := F1.ld (by omega) L
    have m2 := mov_x L1 (v := s 1 a (R + x)) X4
    obtain ⟨r2, hr2⟩ : ∃ r2, r2 = (f_X0_moved s1 1 (s 1 a (R + x)) (X : Int)).2 := ⟨_, rfl⟩
    have H1 := F1.sb H
    refine ⟨xup s1 1 b (R + X) (Xior (s1 1 b (R + X)) r2), ?_, fun T c k q => ?_, fun e he k hk => ?_⟩
    · have ex : Xiand ((x : Int) + 1) 3 = (X : Int) := by
        rw [and3_x (by omega) (by omega)]
        omega
      simp only [g5_X8_goByRights, g6b_X8_goByRights, H.ts, i1]
      rw [if_neg z]
      have i2 : Int.toNat ((R : Int) + (X : Int)) = R + X := by omega
      simp only [g8_X8_goByRights, g9c_X8_goByRights, g10w_X8_goByRights, g11c_X8_goByRights, g12w_X8_goByRights, H.tn, i1, ex, m1.1, ← hr1, ← hs1, H1.tn, i2, m2.1, ← hr2]
      rfl
    · unfold xup
      rw [if_neg (fun y => q ⟨y.1, y.2.1, by omega, by omega⟩), hs1]
      unfold xup
      rw [if_neg (fun y => q ⟨y.1, y.2.1, by omega, by omega⟩)]
    · have k1 := m1.2 k hk
      have k2 := m2.2 k hk
      rw [← hr1] at k1
      rw [← hr2] at k2
      have w1 : ∀ j, s1 1 b j = if j = R + x then Xior (s 1 b (R + x)) r1 else s 1 b j := fun j => by
        rw [hs1]
        by_cases y : j = R + x
        · rw [y, xup_s, if_pos rfl]
        · rw [xup_k y, if_neg y]
      have w2 : xup s1 1 b (R + X) (Xior (s1 1 b (R + X)) r2) 1 b (R + e) = if e = X then Xior (s 1 b (R + X)) r2 else if e = x then Xior (s 1 b (R + x)) r1 else s 1 b (R + e) := by
        by_cases y : e = X
        · rw [y, xup_s, if_pos rfl, w1, if_neg (by omega)]
        · rw [xup_k (by omega), if_neg y, w1]
          by_cases y2 : e = x
          · rw [if_pos (by omega), if_pos y2]
          · rw [if_neg (by omega), if_neg y2]
      rw [w2]
      by_cases y : e = X
      · subst y
        rw [if_pos rfl, bz_ior, Bool.or_eq_true, k2]
        constructor
        · rintro (q | ⟨c, q1, q2, q3⟩)
          · exact Or.inl q
          · exact Or.inr ⟨c, 1, by decide, hX.symm, q1, q2, q3⟩
        · rintro (q | ⟨c, t', -, -, q1, q2, q3⟩)
          · exact Or.inl q
          · exact Or.inr ⟨c, q1, q2, q3⟩
      · rw [if_neg y]
        by_cases y2 : e = x
        · subst y2
          rw [if_pos rfl, bz_ior, Bool.or_eq_true, k1]
          constructor
          · rintro (q | ⟨c, q1, q2, q3⟩)
            · exact Or.inl q
            · exact Or.inr ⟨c, 0, by decide, by omega, q1, q2, q3⟩
          · rintro (q | ⟨c, t', -, -, q1, q2, q3⟩)
            · exact Or.inl q
            · exact Or.inr ⟨c, q1, q2, q3⟩
        · rw [if_neg y2]
          constructor
          · exact Or.inl
          · rintro (q | ⟨c, t', q0, q1, -⟩)
            · exact q
            · exfalso
              rcases (show t' = 0 ∨ t' = 1 by omega) with rfl | rfl <;> omega
theorem gr_x {a b t : Nat} {s : XS} {A : Nat → Int} {w h : Nat} (H : SB a b t s) (L : Ld s A w h) {R : Nat} : ∃ u, f_X8_goByRights s (R : Int) = (u, 0) ∧ (∀ T c k, ¬ (T = 1 ∧ c = b ∧ R ≤ k ∧ k < R + 4) → u T c k = s T c k) ∧ ∀ e, e < 4 → ∀ k, k < 32 → (bz (u 1 b (R + e)) k = true ↔ (bz (s 1 b (R + e)) k = true ∨ ∃ c d t', d < 4 ∧ t' < 2 ∧ (d + t') % 4 = e ∧ c < w * h ∧ sF A c e = (k : Int) ∧ bz (s 1 a (R + d)) c = true)) := by
  have hab := H.1
  have key : ∀ (n x : Nat) (v : XS), x ≤ 4 → 4 < x + n → (∀ T c k, ¬ (T = 1 ∧ c = b ∧ R ≤ k ∧ k < R + 4) → v T c k = s T c k) → (∀ e, e < 4 → ∀ k, k < 32 → (bz (v 1 b (R + e)) k = true ↔ (bz (s 1 b (R + e)) k = true ∨ ∃ c d t', d < x ∧ t' < 2 ∧ (d + t') % 4 = e ∧ c < w * h ∧ sF A c e = (k : Int) ∧ bz (s 1 a (R + d)) c = true))) → ∃ u, L1_X8_goByRights n v (R : Int) (x : Int) = (u, 0) ∧ (∀ T c k, ¬ (T = 1 ∧ c = b ∧ R ≤ k ∧ k < R + 4) → u T c k = s T c k) ∧ ∀ e, e < 4 → ∀ k, k < 32 → (bz (u 1 b (R + e)) k = true ↔ (bz (s 1 b (R + e)) k = true ∨ ∃ c d t', d < 4 ∧ t' < 2 ∧ (d + t') % 4 = e ∧ c < w * h ∧ sF A c e = (k : Int) ∧ bz (s 1 a (R + d)) c = true)) := by
    intro n
    induction n with
    | zero => intro x v h1 h2; omega
    | succ n ih =>
      intro x v h1 h2 F B
      by_cases z : x < 4
      · have Fv : FrS b v s := fun T c k q => F T c k (fun y => q ⟨y.1, y.2.1⟩)
        obtain ⟨u, u1, u2, u3⟩ := gr_1 (n := n) (Fv.sb H) (Fv.ld (by omega) L) (R := R) z
        rw [u1]
        refine ih (x + 1) u (by omega) (by omega) (fun T c k q => (u2 T c k q).trans (F T c k q)) (fun e he k hk => ?_)
        rw [u3 e he k hk, B e he k hk]
        have ea : v 1 a (R + x) = s 1 a (R + x) := F _ _ _ (by omega)
        rw [ea]
        constructor
        · rintro ((q | ⟨c, d, t', q1, q2⟩) | ⟨c, t', q1, q2, q3, q4, q5⟩)
          · exact Or.inl q
          · exact Or.inr ⟨c, d, t', by omega, q2⟩
          · exact Or.inr ⟨c, x, t', by omega, q1, q2, q3, q4, q5⟩
        · rintro (q | ⟨c, d, t', q1, q2, q3, q4, q5, q6⟩)
          · exact Or.inl (Or.inl q)
          · by_cases y : d = x
            · subst y
              exact Or.inr ⟨c, t', q2, q3, q4, q5, q6⟩
            · exact Or.inl (Or.inr ⟨c, d, t', by omega, q2, q3, q4, q5, q6⟩)
      · have x4 : x = 4 := by omega
        subst x4
        refine ⟨v, ?_, F, B⟩
        show g2l_X8_goByRights (L1_X8_goByRights n) v (R : Int) ((4 : Nat) : Int) = _
        simp only [g2l_X8_goByRights, g3b_X8_goByRights, g4_X8_goByRights]
        rw [if_neg (by decide)]
  refine key 5 0 s (by decide) (by decide) (fun _ _ _ _ => rfl) (fun e he k hk => ⟨Or.inl, ?_⟩)
  rintro (q | ⟨c, d, t', q1, -⟩)
  · exact q
  · omega
/-! rows change places -/
theorem chg_l {a b t : Nat} {a1 : Int} : ∀ (n : Nat) (s : XS) (x : Int), SB b a t s → 0 ≤ x → x ≤ 4 * (t : Int) + 4 → 4 * (t : Int) + 4 - x < (n : Int) → ∃ u, L3_X8_change n s a1 x = (xup u 0 83 4 a1, 0) ∧ ∀ T c k, u T c k = if T = 1 ∧ c = a ∧ x ≤ (k : Int) ∧ (k : Int) < 4 * (t : Int) + 4 then 0 else s T c k
  | 0, s, x, _, h0, h1, hn => by omega
  | n + 1, s, x, h, h0, h1, hn => by
    have e : L3_X8_change (n + 1) s a1 x = if x < 4 * (t : Int) + 4 then L3_X8_change n (xup s 1 a (Int.toNat x) 0) a1 (x + 1) else (xup s 0 83 4 a1, 0) := by
      show g4l_X8_change (L3_X8_change n) s a1 x = _
      simp only [g4l_X8_change, g5b_X8_change, g6_X8_change, g7_X8_change, g8w_X8_change, g9w_X8_change, h.tn, h.2.2.2.1]
    rw [e]
    by_cases z : x < 4 * (t : Int) + 4
    · rw [if_pos z]
      obtain ⟨u, u1, u2⟩ := chg_l n (xup s 1 a (Int.toNat x) 0) (x + 1) h.up (by omega) (by omega) (by omega)
      refine ⟨u, u1, fun T c k => ?_⟩
      rw [u2]
      unfold xup
      (repeat' split) <;> first | rfl | (exfalso; omega)
    · rw [if_neg z]
      refine ⟨s, rfl, fun T c k => ?_⟩
      rw [if_neg (fun q => by omega)]
theorem change_x {a b t : Nat} {s : XS} (h : SB a b t s) (ht : ∀ j, 4 * t + 4 ≤ j → s 1 a j = 0) {T : Nat} (hT : T ≤ 120) : ∃ u, f_X8_change s (T : Int) = (u, 0) ∧ SB b a T u ∧ (∀ j, u 1 a j = 0) ∧ (∀ j, u 1 b j = s 1 b j) ∧ ∀ T' c' k, ¬ (T' = 1 ∧ c' = a) → ¬ (c' = 83) → u T' c' k = s T' c' k := by
  obtain ⟨s1, hs1⟩ : ∃ s1, s1 = xup (xup s 3 83 2 (b : Int)) 3 83 3 (a : Int) := ⟨_, rfl⟩
  have e : f_X8_change s (T : Int) = L3_X8_change (Int.toNat (484 - 0 + 1)) s1 (T : Int) 0 := by
    simp only [f_X8_change, g1w_X8_change, g2w_X8_change, h.ts, h.tn, ← hs1]
  have hab := h.1
  have t120 := h.2.2.2.2
  have s1o : ∀ T' c' k, ¬ (c' = 83) → s1 T' c' k = s T' c' k := fun T' c' k q => by
    rw [hs1, xup_c q, xup_c q]
  have H1 : SB b a t s1 := ⟨by omega, by rw [hs1, xup_k (by decide), xup_s], by rw [hs1, xup_s], by rw [hs1, xup_t (by decide), xup_t (by decide)]; exact h.2.2.2.1, t120⟩
  obtain ⟨u, u1, u2⟩ := chg_l (a1 := (T : Int)) (Int.toNat (484 - 0 + 1)) s1 0 H1 (by decide) (by omega) (by show 4 * (t : Int) + 4 - 0 < (485 : Int); omega)
  rw [e, u1]
  refine ⟨_, rfl, ⟨by omega, ?_, ?_, xup_s, hT⟩, fun j => ?_, fun j => ?_, fun T' c' k q1 q2 => ?_⟩
  · rw [xup_t (by decide), u2, if_neg (by omega)]; exact H1.2.1
  · rw [xup_t (by decide), u2, if_neg (by omega)]; exact H1.2.2.1
  · rw [xup_t (by decide), u2]
    by_cases y : j < 4 * t + 4
    · rw [if_pos ⟨rfl, rfl, by omega, by omega⟩]
    · rw [if_neg (fun q => by omega), s1o _ _ _ (by omega)]
      exact ht j (by omega)
  · rw [xup_t (by decide), u2, if_neg (by omega), s1o _ _ _ (by omega)]
  · rw [xup_c q2, u2, if_neg (fun y => q1 ⟨y.1, y.2.1⟩), s1o _ _ _ q2]
