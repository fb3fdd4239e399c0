/-! the levels behind: thinning one -/
theorem lv_e {j : Nat} : (4 * ((j : Int) + 1)) * ((j : Int) + 1) = ((4 * (j * j) + 8 * j + 4 : Nat) : Int) := by
  rw [Int.mul_assoc, Int.add_mul (j : Int) 1, Int.mul_add (j : Int) (j : Int) 1, Int.mul_one, Int.one_mul]
  have : ((j * j : Nat) : Int) = (j : Int) * (j : Int) := Int.natCast_mul _ _
  omega
theorem lv_b {j : Nat} : (4 * (j : Int)) * (j : Int) = ((4 * (j * j) : Nat) : Int) := by
  rw [Int.mul_assoc]
  have : ((j * j : Nat) : Int) = (j : Int) * (j : Int) := Int.natCast_mul _ _
  omega
theorem lv_s {j : Nat} : (j + 1) * (j + 1) = j * j + 2 * j + 1 := by
  rw [Nat.add_mul, Nat.mul_add, Nat.mul_one, Nat.one_mul]
  omega
theorem tb6 {j h b : Nat} (hb : b = 4 * (j * j)) (hh : h < 4) {R2 : XS → Int → Int → XR} {s0 : XS} : ∀ (n l : Nat) (s : XS) (see : Int), (∀ T c k, ¬ (T = 1 ∧ c = 88) → s T c k = s0 T c k) → (∀ x, ¬ (b ≤ x ∧ (x - b) % 4 = h ∧ x < b + 4 * l) → s 1 88 x = s0 1 88 x) → (∀ l', l' < l → ∀ c, c < 32 → (bz (s 1 88 (b + (4 * l' + h))) c = true ↔ (bz (s0 1 88 (b + (4 * l' + h))) c = true ∧ ∀ l'', l'' < l' → ¬ bz (s0 1 88 (b + (4 * l'' + h))) c = true))) → (∀ c, c < 32 → (bz see c = true ↔ ∃ l', l' < l ∧ bz (s0 1 88 (b + (4 * l' + h))) c = true)) → l ≤ 2 * j + 1 → 2 * j + 1 < l + n → ∃ u, L6_X7_thin R2 n s (j : Int) (h : Int) see ((b + (4 * l + h) : Nat) : Int) = R2 u (j : Int) ((h + 1 : Nat) : Int) ∧ (∀ T c k, ¬ (T = 1 ∧ c = 88) → u T c k = s0 T c k) ∧ (∀ x, ¬ (b ≤ x ∧ (x - b) % 4 = h ∧ x < b + 4 * (2 * j + 1)) → u 1 88 x = s0 1 88 x) ∧ (∀ l', l' ≤ 2 * j → ∀ c, c < 32 → (bz (u 1 88 (b + (4 * l' + h))) c = true ↔ (bz (s0 1 88 (b + (4 * l' + h))) c = true ∧ ∀ l'', l'' < l' → ¬ bz (s0 1 88 (b + (4 * l'' + h))) c = true))) := by
  intro n
  induction n with
  | zero => intro l s see _ _ _ _ h1 h2; omega
  | succ n ih =>
    intro l s see F Fa Bt Sb h1 h2
    obtain ⟨v, hv⟩ : ∃ v, v = Xiand (s 1 88 (b + (4 * l + h))) (Xixor see (-1)) := ⟨_, rfl⟩
    obtain ⟨s', hs'⟩ : ∃ s', s' = xup s 1 88 (b + (4 * l + h)) v := ⟨_, rfl⟩
    have ev : s' 1 88 (b + (4 * l + h)) = v := by rw [hs', xup_s]
    have e : L6_X7_thin R2 (n + 1) s (j : Int) (h : Int) see ((b + (4 * l + h) : Nat) : Int) = if l < 2 * j + 1 then L6_X7_thin R2 n s' (j : Int) (h : Int) (Xior see v) ((b + (4 * (l + 1) + h) : Nat) : Int) else R2 s (j : Int) ((h + 1 : Nat) : Int) := by
      show g7l_X7_thin R2 (L6_X7_thin R2 n) s (j : Int) (h : Int) see ((b + (4 * l + h) : Nat) : Int) = _
      simp only [g7l_X7_thin, g8b_X7_thin, g9_X7_thin, g10_X7_thin, g11w_X7_thin, Int.toNat_natCast, ← hv, ← hs', ev, lv_e]
      by_cases z : l < 2 * j + 1
      · rw [if_pos z, if_pos (by omega), show ((b + (4 * l + h) : Nat) : Int) + 4 = ((b + (4 * (l + 1) + h) : Nat) : Int) by omega]
      · rw [if_neg z, if_neg (by omega)]
        rfl
    rw [e]
    by_cases z : l < 2 * j + 1
    · rw [if_pos z]
      have el : s 1 88 (b + (4 * l + h)) = s0 1 88 (b + (4 * l + h)) := Fa _ (by omega)
      have vb : ∀ c, c < 32 → (bz v c = true ↔ (bz (s0 1 88 (b + (4 * l + h))) c = true ∧ ¬ bz see c = true)) := fun c hc => by
        rw [hv, bz_and_inv hc, el]
      refine ih (l + 1) s' (Xior see v) (fun T c k q => ?_) (fun x q => ?_) (fun l' q c hc => ?_) (fun c hc => ?_) (by omega) (by omega)
      · rw [← F T c k q, hs']
        exact if_neg (fun y => q ⟨y.1, y.2.1⟩)
      · rw [hs', xup_k (by omega)]
        exact Fa x (by omega)
      · by_cases y : l' = l
        · subst y
          rw [ev, vb c hc, Sb c hc]
          exact ⟨fun p => ⟨p.1, fun l'' r1 r2 => p.2 ⟨l'', r1, r2⟩⟩, fun p => ⟨p.1, fun ⟨l'', r1, r2⟩ => p.2 l'' r1 r2⟩⟩
        · rw [hs', xup_k (by omega)]
          exact Bt l' (by omega) c hc
      · rw [bz_ior, Bool.or_eq_true, vb c hc, Sb c hc]
        constructor
        · rintro (⟨l', r1, r2⟩ | ⟨r1, -⟩)
          · exact ⟨l', by omega, r2⟩
          · exact ⟨l, by omega, r1⟩
        · rintro ⟨l', r1, r2⟩
          by_cases w : l' = l
          · subst w
            by_cases p : ∃ l'', l'' < l' ∧ bz (s0 1 88 (b + (4 * l'' + h))) c = true
            · exact Or.inl p
            · exact Or.inr ⟨r2, p⟩
          · exact Or.inl ⟨l', by omega, r2⟩
    · rw [if_neg z]
      have lt : l = 2 * j + 1 := by omega
      subst lt
      exact ⟨s, rfl, F, Fa, fun l' q => Bt l' (by omega)⟩
theorem tb1 {j b : Nat} (hb : b = 4 * (j * j)) (hj : j < 60) {s0 : XS} : ∀ (n h : Nat) (s : XS), (∀ T c k, ¬ (T = 1 ∧ c = 88) → s T c k = s0 T c k) → (∀ x, ¬ (b ≤ x ∧ (x - b) % 4 < h ∧ x < b + 4 * (2 * j + 1)) → s 1 88 x = s0 1 88 x) → (∀ h', h' < h → ∀ l', l' ≤ 2 * j → ∀ c, c < 32 → (bz (s 1 88 (b + (4 * l' + h'))) c = true ↔ (bz (s0 1 88 (b + (4 * l' + h'))) c = true ∧ ∀ l'', l'' < l' → ¬ bz (s0 1 88 (b + (4 * l'' + h'))) c = true))) → h ≤ 4 → 4 < h + n → ∃ u, L1_X7_thin n s (j : Int) (h : Int) = (u, 0) ∧ (∀ T c k, ¬ (T = 1 ∧ c = 88) → u T c k = s0 T c k) ∧ (∀ x, ¬ (b ≤ x ∧ x < b + 4 * (2 * j + 1)) → u 1 88 x = s0 1 88 x) ∧ (∀ h', h' < 4 → ∀ l', l' ≤ 2 * j → ∀ c, c < 32 → (bz (u 1 88 (b + (4 * l' + h'))) c = true ↔ (bz (s0 1 88 (b + (4 * l' + h'))) c = true ∧ ∀ l'', l'' < l' → ¬ bz (s0 1 88 (b + (4 * l'' + h'))) c = true))) := by
  intro n
  induction n with
  | zero => intro h s _ _ _ h1 h2; omega
  | succ n ih =>
    intro h s F Fa Bt h1 h2
    have jj : j * j ≤ 59 * 59 := Nat.mul_le_mul (by omega) (by omega)
    have e : L1_X7_thin (n + 1) s (j : Int) (h : Int) = if h < 4 then L6_X7_thin (L1_X7_thin n) (Int.toNat (14403 - ((b : Int) + (h : Int)) + 1)) s (j : Int) (h : Int) 0 ((b + (4 * 0 + h) : Nat) : Int) else (s, 0) := by
      show g2l_X7_thin (L1_X7_thin n) s (j : Int) (h : Int) = _
      simp only [g2l_X7_thin, g3b_X7_thin, g4_X7_thin, g5_X7_thin, lv_b, ← hb]
      by_cases z : h < 4
      · rw [if_pos z, if_pos (by omega), show ((b : Int) + (h : Int)) = ((b + (4 * 0 + h) : Nat) : Int) by omega]
      · rw [if_neg z, if_neg (by omega)]
    rw [e]
    by_cases z : h < 4
    · rw [if_pos z]
      obtain ⟨u, u1, u2, u3, u4⟩ := tb6 hb z (R2 := L1_X7_thin n) (s0 := s) (Int.toNat (14403 - ((b : Int) + (h : Int)) + 1)) 0 s 0 (fun _ _ _ _ => rfl) (fun _ _ => rfl) (fun l' q => absurd q (by omega)) (fun c hc => ⟨(fun q => by rw [bz_0] at q; cases q), fun ⟨l', r1, _⟩ => absurd r1 (by omega)⟩) (by omega) (by omega)
      rw [u1]
      refine ih (h + 1) u (fun T c k q => (u2 T c k q).trans (F T c k q)) (fun x q => ?_) (fun h' q l' hl c hc => ?_) (by omega) (by omega)
      · rw [u3 x (by omega)]
        exact Fa x (by omega)
      · by_cases y : h' = h
        · subst y
          have e0 : ∀ l'', s 1 88 (b + (4 * l'' + h')) = s0 1 88 (b + (4 * l'' + h')) := fun l'' => Fa _ (by omega)
          rw [u4 l' hl c hc, e0]
          simp only [e0]
        · rw [u3 _ (by omega)]
          exact Bt h' (by omega) l' hl c hc
    · rw [if_neg z]
      have h4 : h = 4 := by omega
      subst h4
      exact ⟨s, rfl, F, fun x q => Fa x (by omega), Bt⟩
theorem thin_b {j : Nat} (hj : j < 60) (s : XS) : ∃ u, f_X7_thin s (j : Int) = (u, 0) ∧ (∀ T c k, ¬ (T = 1 ∧ c = 88) → u T c k = s T c k) ∧ (∀ x, ¬ (4 * (j * j) ≤ x ∧ x < 4 * (j * j) + 4 * (2 * j + 1)) → u 1 88 x = s 1 88 x) ∧ (∀ h', h' < 4 → ∀ l', l' ≤ 2 * j → ∀ c, c < 32 → (bz (u 1 88 (4 * (j * j) + (4 * l' + h'))) c = true ↔ (bz (s 1 88 (4 * (j * j) + (4 * l' + h'))) c = true ∧ ∀ l'', l'' < l' → ¬ bz (s 1 88 (4 * (j * j) + (4 * l'' + h'))) c = true))) :=
  tb1 rfl hj 5 0 s (fun _ _ _ _ => rfl) (fun _ _ => rfl) (fun h' q => absurd q (by omega)) (by decide) (by decide)
/-- a level is laid empty first -/
theorem lb_c {j b : Nat} (hb : b = 4 * (j * j)) {R28 : XS → Int → Int → Int → XR} {a1 a3 : Int} : ∀ (n : Nat) (s : XS) (x : Nat), x ≤ b + 8 * j + 4 → b + 8 * j + 4 < x + n → ∃ u, L11_X7_lookBack R28 n s a1 a3 (j : Int) (x : Int) = g14_X7_lookBack R28 u a1 a3 (j : Int) ∧ ∀ T c k, u T c k = if T = 1 ∧ c = 88 ∧ x ≤ k ∧ k < b + 8 * j + 4 then 0 else s T c k := by
  intro n
  induction n with
  | zero => intro s x h1 h2; omega
  | succ n ih =>
    intro s x h1 h2
    have e : L11_X7_lookBack R28 (n + 1) s a1 a3 (j : Int) (x : Int) = if x < b + 8 * j + 4 then L11_X7_lookBack R28 n (xup s 1 88 x 0) a1 a3 (j : Int) ((x + 1 : Nat) : Int) else g14_X7_lookBack R28 s a1 a3 (j : Int) := by
      show g12l_X7_lookBack R28 (L11_X7_lookBack R28 n) s a1 a3 (j : Int) (x : Int) = _
      simp only [g12l_X7_lookBack, g13b_X7_lookBack, g15_X7_lookBack, g36w_X7_lookBack, lv_e, Int.toNat_natCast]
      by_cases z : x < b + 8 * j + 4
      · rw [if_pos z, if_pos (by omega)]
        rfl
      · rw [if_neg z, if_neg (by omega)]
    rw [e]
    by_cases z : x < b + 8 * j + 4
    · rw [if_pos z]
      obtain ⟨u, u1, u2⟩ := ih (xup s 1 88 x 0) (x + 1) (by omega) (by omega)
      refine ⟨u, u1, fun T c k => ?_⟩
      rw [u2]
      unfold xup
      (repeat' split) <;> first | rfl | (exfalso; omega)
    · rw [if_neg z]
      exact ⟨s, rfl, fun T c k => by rw [if_neg (fun q => by omega)]⟩
