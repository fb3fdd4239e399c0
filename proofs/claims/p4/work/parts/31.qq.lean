variable {tt : QQ}
theorem ctSM_ne (a b : QQ) : ∀ κ : Nat, κ ≠ 0 → ctSM a κ = ctSM b κ
  | 0, h => absurd rfl h
  | 1, _ => rfl
  | 2, _ => rfl
  | 3, _ => rfl
  | 4, _ => rfl
  | 5, _ => rfl
  | 6, _ => rfl
  | 7, _ => rfl
  | 8, _ => rfl
  | 9, _ => rfl
  | 10, _ => rfl
  | 11, _ => rfl
  | 12, _ => rfl
  | 13, _ => rfl
  | 14, _ => rfl
  | 15, _ => rfl
  | 16, _ => rfl
  | 17, _ => rfl
  | 18, _ => rfl
  | 19, _ => rfl
  | 20, _ => rfl
  | 21, _ => rfl
  | 22, _ => rfl
  | 23, _ => rfl
  | 24, _ => rfl
  | 25, _ => rfl
  | n + 26, _ => rfl
theorem ft_re3 {P P' : Nat → FT → Value → Prop} {f f' : List FT} {fs : List Value} (hl : f'.length = f.length) (he : ∀ k, (k ≠ 5 ∧ k ≠ 13 ∧ k ≠ 14) → f'[k]? = f[k]?) (hP : ∀ k t v, P k t v → P' k t v) (h5 : ∀ t t' v, f[5]? = some t → f'[5]? = some t' → fs[5]? = some v → P 5 t v → P' 5 t' v) (h13 : ∀ t t' v, f[13]? = some t → f'[13]? = some t' → fs[13]? = some v → P 13 t v → P' 13 t' v) (h14 : ∀ t t' v, f[14]? = some t → f'[14]? = some t' → fs[14]? = some v → P 14 t v → P' 14 t' v) (h : fs.length = f.length ∧ ∀ (k : Nat) (t : FT), f[k]? = some t → ∃ v : Value, fs[k]? = some v ∧ P k t v) : fs.length = f'.length ∧ ∀ (k : Nat) (t : FT), f'[k]? = some t → ∃ v : Value, fs[k]? = some v ∧ P' k t v := by
  refine ⟨by rw [hl]; exact h.1, fun k t hk => ?_⟩
  have hlt : k < f.length := by rw [← hl]; exact (List.getElem?_eq_some_iff.mp hk).1
  obtain ⟨v, g1, g2⟩ := h.2 k _ (List.getElem?_eq_getElem hlt)
  by_cases e5 : k = 5
  · subst e5; exact ⟨v, g1, h5 _ t v (List.getElem?_eq_getElem hlt) hk g1 g2⟩
  · by_cases e13 : k = 13
    · subst e13; exact ⟨v, g1, h13 _ t v (List.getElem?_eq_getElem hlt) hk g1 g2⟩
    · by_cases e14 : k = 14
      · subst e14; exact ⟨v, g1, h14 _ t v (List.getElem?_eq_getElem hlt) hk g1 g2⟩
      · rw [he k ⟨e5, e13, e14⟩] at hk
        obtain ⟨v, g1, g2⟩ := h.2 k t hk
        exact ⟨v, g1, hP k t v g2⟩
theorem SM_re {G : GG} {a b : QQ} {ad : Nat → Nat} {ws : va_W} (h5 : ∀ x : Int32, fI ws 0 5 = x → a.1.1.1 ≤ x.toInt → x.toInt ≤ a.1.1.2 → b.1.1.1 ≤ x.toInt ∧ x.toInt ≤ b.1.1.2) (h13 : ∀ x : Int32, fI ws 0 13 = x → a.1.2.1.1 ≤ x.toInt → x.toInt ≤ a.1.2.1.2 → b.1.2.1.1 ≤ x.toInt ∧ x.toInt ≤ b.1.2.1.2) (h14 : ∀ x : Int32, fI ws 0 14 = x → a.1.2.2.1 ≤ x.toInt → x.toInt ≤ a.1.2.2.2 → b.1.2.2.1 ≤ x.toInt ∧ x.toInt ≤ b.1.2.2.2) (h : Ty G (SM a) ad ws) : Ty G (SM b) ad ws := by
  refine Ty.re (S := SM a) (S' := SM b) rfl (fun i e hi hw hc => ?_) h
  by_cases hk : (SM a).1 i = 0
  · have hi2 : i = 0 := (by decide +kernel : ∀ i, i < 26 → kdSM.getD i 999 = 0 → i = 0) i hi hk
    have e1 : (SM a).2.1 ((SM a).1 i) = .inr (.inr (.inr (12, ftsSM_0 a))) := by rw [hk]; rfl
    have e2 : (SM b).2.1 ((SM b).1 i) = .inr (.inr (.inr (12, ftsSM_0 b))) := by rw [show (SM b).1 i = 0 from hk]; rfl
    rw [e1] at hc
    rw [e2]
    obtain ⟨fs, rfl, hf⟩ := hc
    subst hi2
    refine ⟨fs, rfl, ft_re3 (P := fun _ t v => ftOk (SM a) ad 0 t v) (P' := fun _ t v => ftOk (SM b) ad 0 t v) (f := ftsSM_0 a) (f' := ftsSM_0 b) rfl ?_ (fun _ _ _ h => h) ?_ ?_ ?_ hf⟩
    · intro k hk
      match k, hk with
      | 0, hk => rfl
      | 1, hk => rfl
      | 2, hk => rfl
      | 3, hk => rfl
      | 4, hk => rfl
      | 5, hk => exact absurd rfl hk.1
      | 6, hk => rfl
      | 7, hk => rfl
      | 8, hk => rfl
      | 9, hk => rfl
      | 10, hk => rfl
      | 11, hk => rfl
      | 12, hk => rfl
      | 13, hk => exact absurd rfl hk.2.1
      | 14, hk => exact absurd rfl hk.2.2
      | 15, hk => rfl
      | 16, hk => rfl
      | 17, hk => rfl
      | 18, hk => rfl
      | 19, hk => rfl
      | 20, hk => rfl
      | 21, hk => rfl
      | 22, hk => rfl
      | 23, hk => rfl
      | 24, hk => rfl
      | 25, hk => rfl
      | 26, hk => rfl
      | 27, hk => rfl
      | 28, hk => rfl
      | 29, hk => rfl
      | 30, hk => rfl
      | 31, hk => rfl
      | 32, hk => rfl
      | 33, hk => rfl
      | 34, hk => rfl
      | 35, hk => rfl
      | 36, hk => rfl
      | 37, hk => rfl
      | 38, hk => rfl
      | 39, hk => rfl
      | 40, hk => rfl
      | 41, hk => rfl
      | 42, hk => rfl
      | 43, hk => rfl
      | k + 44, _ => rfl
    · intro t t' v ht ht' hv hp
      cases ht
      cases ht'
      obtain ⟨x, rfl, g1, g2⟩ := hp
      have hx : fI ws 0 5 = x := by unfold fI; rw [hw]; simp only [hv]
      exact ⟨x, rfl, (h5 x hx g1 g2).1, (h5 x hx g1 g2).2⟩
    · intro t t' v ht ht' hv hp
      cases ht
      cases ht'
      obtain ⟨x, rfl, g1, g2⟩ := hp
      have hx : fI ws 0 13 = x := by unfold fI; rw [hw]; simp only [hv]
      exact ⟨x, rfl, (h13 x hx g1 g2).1, (h13 x hx g1 g2).2⟩
    · intro t t' v ht ht' hv hp
      cases ht
      cases ht'
      obtain ⟨x, rfl, g1, g2⟩ := hp
      have hx : fI ws 0 14 = x := by unfold fI; rw [hw]; simp only [hv]
      exact ⟨x, rfl, (h14 x hx g1 g2).1, (h14 x hx g1 g2).2⟩
  · have e : (SM b).2.1 ((SM b).1 i) = (SM a).2.1 ((SM a).1 i) := ctSM_ne b a _ hk
    rw [e]
    exact hc
theorem SM_q0 {G : GG} {a : QQ} {ad : Nat → Nat} {ws : va_W} (h : Ty G (SM a) ad ws) : Ty G (SM q0) ad ws := SM_re (fun x _ h1 h2 => ⟨Int.le_trans a.2.1.1 h1, Int.le_trans h2 a.2.1.2⟩) (fun x _ h1 h2 => ⟨Int.le_trans a.2.2.1.1 h1, Int.le_trans h2 a.2.2.1.2⟩) (fun x _ h1 h2 => ⟨Int.le_trans a.2.2.2.1 h1, Int.le_trans h2 a.2.2.2.2⟩) h
theorem SM_qf {G : GG} {a : QQ} {ad : Nat → Nat} {ws : va_W} (h : Ty G (SM a) ad ws) : Ty G (SM (qf a)) ad ws := SM_re (fun x _ h1 h2 => ⟨Int.le_trans a.2.1.1 h1, Int.le_trans h2 a.2.1.2⟩) (fun x _ h1 h2 => ⟨h1, h2⟩) (fun x _ h1 h2 => ⟨h1, h2⟩) h
theorem SM_at {G : GG} {a : QQ} {ad : Nat → Nat} {ws : va_W} (e : a.1.1.1 = (fI ws 0 5).toInt ∧ a.1.1.2 = (fI ws 0 5).toInt) (h : Ty G (SM q0) ad ws) (ew : a.1.2 = q0.1.2 := by rfl) : Ty G (SM a) ad ws := SM_re (fun x hx _ _ => by rw [e.1, e.2, hx]; exact ⟨Int.le_refl _, Int.le_refl _⟩) (fun x _ h1 h2 => by rw [ew]; exact ⟨h1, h2⟩) (fun x _ h1 h2 => by rw [ew]; exact ⟨h1, h2⟩) h
theorem SM_atF {G : GG} {a c : QQ} {ad : Nat → Nat} {ws : va_W} (e : a.1.1.1 = (fI ws 0 5).toInt ∧ a.1.1.2 = (fI ws 0 5).toInt) (ew : a.1.2 = c.1.2) (h : Ty G (SM (qf c)) ad ws) : Ty G (SM a) ad ws := SM_re (fun x hx _ _ => by rw [e.1, e.2, hx]; exact ⟨Int.le_refl _, Int.le_refl _⟩) (fun x _ h1 h2 => by rw [ew]; exact ⟨h1, h2⟩) (fun x _ h1 h2 => by rw [ew]; exact ⟨h1, h2⟩) h
theorem SM_at3 {G : GG} {a : QQ} {ad : Nat → Nat} {ws : va_W} (e5 : a.1.1.1 = (fI ws 0 5).toInt ∧ a.1.1.2 = (fI ws 0 5).toInt) (e13 : a.1.2.1.1 = (fI ws 0 13).toInt ∧ a.1.2.1.2 = (fI ws 0 13).toInt) (e14 : a.1.2.2.1 = (fI ws 0 14).toInt ∧ a.1.2.2.2 = (fI ws 0 14).toInt) (h : Ty G (SM q0) ad ws) : Ty G (SM a) ad ws := SM_re (fun x hx _ _ => by rw [e5.1, e5.2, hx]; exact ⟨Int.le_refl _, Int.le_refl _⟩) (fun x hx _ _ => by rw [e13.1, e13.2, hx]; exact ⟨Int.le_refl _, Int.le_refl _⟩) (fun x hx _ _ => by rw [e14.1, e14.2, hx]; exact ⟨Int.le_refl _, Int.le_refl _⟩) h
theorem SM_is {G : GG} {a : QQ} {ad : Nat → Nat} {ws : va_W} (ha : a.1.1.1 = a.1.1.2) (h : Ty G (SM a) ad ws) : (fI ws 0 5).toInt = a.1.1.1 := by
  have b := ty_fI (k := 5) h kSM_0 rfl rfl
  omega
theorem SM_is13 {G : GG} {a : QQ} {ad : Nat → Nat} {ws : va_W} (ha : a.1.2.1.1 = a.1.2.1.2) (h : Ty G (SM a) ad ws) : (fI ws 0 13).toInt = a.1.2.1.1 := by
  have b := ty_fI (k := 13) h kSM_0 rfl rfl
  omega
theorem SM_is14 {G : GG} {a : QQ} {ad : Nat → Nat} {ws : va_W} (ha : a.1.2.2.1 = a.1.2.2.2) (h : Ty G (SM a) ad ws) : (fI ws 0 14).toInt = a.1.2.2.1 := by
  have b := ty_fI (k := 14) h kSM_0 rfl rfl
  omega
