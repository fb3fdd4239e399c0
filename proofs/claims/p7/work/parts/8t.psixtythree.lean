/-! thinning, by bits -/
theorem th7s {a b t h : Nat} {R : XS → Int → Int → XR} {s0 : XS} (H0 : SB a b t s0) (hh : h < 4) : ∀ (n l : Nat) (s : XS) (hi see : Int), (∀ T c k, ¬ (T = 1 ∧ c = a) → s T c k = s0 T c k) → (∀ j, ¬ (j % 4 = h ∧ j < 4 * l) → s 1 a j = s0 1 a j) → (∀ l', l' < l → ∀ c, c < 32 → (bz (s 1 a (4 * l' + h)) c = true ↔ (bz (s0 1 a (4 * l' + h)) c = true ∧ ∀ l'', l'' < l' → ¬ bz (s0 1 a (4 * l'' + h)) c = true))) → (∀ c, c < 32 → (bz see c = true ↔ ∃ l', l' < l ∧ bz (s0 1 a (4 * l' + h)) c = true)) → l ≤ t + 1 → t + 1 < l + n → ∃ u, ∃ hi' : Int, L7_X8_thin R n s hi (h : Int) see (l : Int) = R u hi' ((h + 1 : Nat) : Int) ∧ (∀ T c k, ¬ (T = 1 ∧ c = a) → u T c k = s0 T c k) ∧ (∀ j, ¬ (j % 4 = h ∧ j < 4 * (t + 1)) → u 1 a j = s0 1 a j) ∧ (∀ l', l' ≤ t → ∀ c, c < 32 → (bz (u 1 a (4 * l' + h)) c = true ↔ (bz (s0 1 a (4 * l' + h)) c = true ∧ ∀ l'', l'' < l' → ¬ bz (s0 1 a (4 * l'' + h)) c = true))) := by
  intro n
  induction n with
  | zero => intro l s hi see _ _ _ _ h1 h2; omega
  | succ n ih =>
    intro l s hi see F Fa Bt Sb h1 h2
    have hab := H0.1
    have Hs : SB a b t s := H0.fr (F _ _ _ (by omega)) (F _ _ _ (by omega)) (F _ _ _ (by omega))
    obtain ⟨v, hv⟩ : ∃ v, v = Xiand (s 1 a (4 * l + h)) (Xixor see (-1)) := ⟨_, rfl⟩
    have i1 : Int.toNat ((4 * (l : Int)) + (h : Int)) = 4 * l + h := by omega
    have e : L7_X8_thin R (n + 1) s hi (h : Int) see (l : Int) = if t < l then R s hi ((h + 1 : Nat) : Int) else (if v = 0 then L7_X8_thin R n (xup s 1 a (4 * l + h) v) hi (h : Int) see ((l + 1 : Nat) : Int) else L7_X8_thin R n (xup s 1 a (4 * l + h) v) (max hi (l : Int)) (h : Int) (Xior see v) ((l + 1 : Nat) : Int)) := by
      show g8l_X8_thin R (L7_X8_thin R n) s hi (h : Int) see (l : Int) = _
      simp only [g8l_X8_thin, g9b_X8_thin, g10_X8_thin, g11_X8_thin, g12w_X8_thin, g13b_X8_thin, g14_X8_thin, g15_X8_thin, Hs.ts, Hs.2.2.2.1, i1, ← hv]
      by_cases z : t < l
      · rw [if_pos z, if_pos (by omega)]
        rfl
      · rw [if_neg z, if_neg (by omega)]
        rfl
    rw [e]
    by_cases z : t < l
    · rw [if_pos z]
      have lt : l = t + 1 := by omega
      subst lt
      exact ⟨s, hi, rfl, F, Fa, fun l' q => Bt l' (by omega)⟩
    · rw [if_neg z]
      have el : s 1 a (4 * l + h) = s0 1 a (4 * l + h) := Fa _ (by omega)
      have vb : ∀ c, c < 32 → (bz v c = true ↔ (bz (s0 1 a (4 * l + h)) c = true ∧ ¬ bz see c = true)) := fun c hc => by
        rw [hv, bz_iand, Bool.and_eq_true, bz_inv see hc, Bool.not_eq_true', el]
        cases bz see c <;> simp
      have F' : ∀ T c k, ¬ (T = 1 ∧ c = a) → xup s 1 a (4 * l + h) v T c k = s0 T c k := fun T c k q => by
        rw [← F T c k q]
        exact if_neg (fun y => q ⟨y.1, y.2.1⟩)
      have Fa' : ∀ j, ¬ (j % 4 = h ∧ j < 4 * (l + 1)) → xup s 1 a (4 * l + h) v 1 a j = s0 1 a j := fun j q => by
        rw [xup_k (by omega)]
        exact Fa j (by omega)
      have Bt' : ∀ l', l' < l + 1 → ∀ c, c < 32 → (bz (xup s 1 a (4 * l + h) v 1 a (4 * l' + h)) c = true ↔ (bz (s0 1 a (4 * l' + h)) c = true ∧ ∀ l'', l'' < l' → ¬ bz (s0 1 a (4 * l'' + h)) c = true)) := fun l' q c hc => by
        by_cases y : l' = l
        · subst y
          rw [xup_s, vb c hc, Sb c hc]
          exact ⟨fun p => ⟨p.1, fun l'' r1 r2 => p.2 ⟨l'', r1, r2⟩⟩, fun p => ⟨p.1, fun ⟨l'', r1, r2⟩ => p.2 l'' r1 r2⟩⟩
        · rw [xup_k (by omega)]
          exact Bt l' (by omega) c hc
      by_cases y : v = 0
      · rw [if_pos y]
        refine ih (l + 1) _ hi see F' Fa' Bt' (fun c hc => ?_) (by omega) (by omega)
        rw [Sb c hc]
        constructor
        · rintro ⟨l', r1, r2⟩
          exact ⟨l', by omega, r2⟩
        · rintro ⟨l', r1, r2⟩
          by_cases w : l' = l
          · subst w
            refine Classical.byContradiction (fun p => ?_)
            have q := (vb c hc).mpr ⟨r2, fun k => p ((Sb c hc).mp k)⟩
            rw [y, bz_0] at q
            cases q
          · exact ⟨l', by omega, r2⟩
      · rw [if_neg y]
        refine ih (l + 1) _ _ _ F' Fa' Bt' (fun c hc => ?_) (by omega) (by omega)
        rw [bz_ior, Bool.or_eq_true, vb c hc, Sb c hc]
        constructor
        · rintro (⟨l', r1, r2⟩ | ⟨r1, -⟩)
          · exact ⟨l', by omega, r2⟩
          · exact ⟨l, by omega, r1⟩
        · rintro ⟨l', r1, r2⟩
          by_cases w : l' = l
          · subst w
            by_cases p : ∃ l'', l'' < l' ∧ bz (s0 1 a (4 * l'' + h)) c = true
            · exact Or.inl p
            · exact Or.inr ⟨r2, p⟩
          · exact Or.inl ⟨l', by omega, r2⟩
theorem th1s {a b t : Nat} {s0 : XS} (H0 : SB a b t s0) : ∀ (n h : Nat) (s : XS) (hi : Int), (∀ T c k, ¬ (T = 1 ∧ c = a) → s T c k = s0 T c k) → (∀ j, ¬ (j % 4 < h ∧ j < 4 * (t + 1)) → s 1 a j = s0 1 a j) → (∀ h', h' < h → ∀ l', l' ≤ t → ∀ c, c < 32 → (bz (s 1 a (4 * l' + h')) c = true ↔ (bz (s0 1 a (4 * l' + h')) c = true ∧ ∀ l'', l'' < l' → ¬ bz (s0 1 a (4 * l'' + h')) c = true))) → h ≤ 4 → 4 < h + n → ∃ u, L1_X8_thin n s hi (h : Int) = (u, 0) ∧ (∀ T c k, ¬ (T = 1 ∧ c = a) → ¬ (T = 0 ∧ c = 83 ∧ k = 4) → u T c k = s0 T c k) ∧ (∀ j, 4 * (t + 1) ≤ j → u 1 a j = s0 1 a j) ∧ (∀ h', h' < 4 → ∀ l', l' ≤ t → ∀ c, c < 32 → (bz (u 1 a (4 * l' + h')) c = true ↔ (bz (s0 1 a (4 * l' + h')) c = true ∧ ∀ l'', l'' < l' → ¬ bz (s0 1 a (4 * l'' + h')) c = true))) := by
  intro n
  induction n with
  | zero => intro h s hi _ _ _ h1 h2; omega
  | succ n ih =>
    intro h s hi F Fa Bt h1 h2
    have hab := H0.1
    have t120 := H0.2.2.2.2
    have e : L1_X8_thin (n + 1) s hi (h : Int) = if h < 4 then L7_X8_thin (L1_X8_thin n) (Int.toNat (121 - 0 + 1)) s hi (h : Int) 0 0 else (xup s 0 83 4 hi, 0) := by
      show g2l_X8_thin (L1_X8_thin n) s hi (h : Int) = _
      simp only [g2l_X8_thin, g3b_X8_thin, g4_X8_thin, g5_X8_thin, g6w_X8_thin]
      by_cases z : h < 4
      · rw [if_pos z, if_pos (by omega)]
      · rw [if_neg z, if_neg (by omega)]
    rw [e]
    by_cases z : h < 4
    · rw [if_pos z]
      have Hs : SB a b t s := H0.fr (F _ _ _ (by omega)) (F _ _ _ (by omega)) (F _ _ _ (by omega))
      obtain ⟨u, hi', u1, u2, u3, u4⟩ := th7s (R := L1_X8_thin n) Hs z (Int.toNat (121 - 0 + 1)) 0 s hi 0 (fun _ _ _ _ => rfl) (fun _ _ => rfl) (fun l' q => absurd q (by omega)) (fun c hc => ⟨(fun q => by rw [bz_0] at q; cases q), fun ⟨l', r1, _⟩ => absurd r1 (by omega)⟩) (by omega) (by show t + 1 < 0 + 122; omega)
      have u1' : L7_X8_thin (L1_X8_thin n) (Int.toNat (121 - 0 + 1)) s hi (h : Int) 0 0 = L1_X8_thin n u hi' ((h + 1 : Nat) : Int) := u1
      rw [u1']
      refine ih (h + 1) u hi' (fun T c k q => (u2 T c k q).trans (F T c k q)) (fun j q => ?_) (fun h' q l' hl c hc => ?_) (by omega) (by omega)
      · rw [u3 j (by omega)]
        exact Fa j (by omega)
      · by_cases y : h' = h
        · subst y
          have e0 : ∀ l'', s 1 a (4 * l'' + h') = s0 1 a (4 * l'' + h') := fun l'' => Fa _ (by omega)
          rw [u4 l' hl c hc, e0]
          simp only [e0]
        · rw [u3 _ (by omega)]
          exact Bt h' (by omega) l' hl c hc
    · rw [if_neg z]
      have h4 : h = 4 := by omega
      subst h4
      refine ⟨_, rfl, fun T c k q1 q2 => ?_, fun j q => ?_, fun h' q l' hl c hc => ?_⟩
      · rw [← F T c k q1]
        exact if_neg q2
      · rw [xup_t (by decide)]
        exact Fa j (by omega)
      · rw [xup_t (by decide)]
        exact Bt h' q l' hl c hc
theorem thin_s {a b t : Nat} {s : XS} (H : SB a b t s) : ∃ u, f_X8_thin s = (u, 0) ∧ (∀ T c k, ¬ (T = 1 ∧ c = a) → ¬ (T = 0 ∧ c = 83 ∧ k = 4) → u T c k = s T c k) ∧ (∀ j, 4 * (t + 1) ≤ j → u 1 a j = s 1 a j) ∧ (∀ h', h' < 4 → ∀ l', l' ≤ t → ∀ c, c < 32 → (bz (u 1 a (4 * l' + h')) c = true ↔ (bz (s 1 a (4 * l' + h')) c = true ∧ ∀ l'', l'' < l' → ¬ bz (s 1 a (4 * l'' + h')) c = true))) :=
  th1s H 5 0 s 0 (fun _ _ _ _ => rfl) (fun _ _ => rfl) (fun h' q => absurd q (by omega)) (by decide) (by decide)
/-! ways of so many streets for so many lefts -/
def Wy (A : Nat → Int) (mo : Nat → Prop) (t0 c0 d0 : Nat) : Nat → Nat → Nat → Nat → Prop
  | 0, c, d, l => c = c0 ∧ d = d0 ∧ l = 0
  | i + 1, k, e, l => ∃ c d l' q, Wy A mo t0 c0 d0 i c d l' ∧ SW A mo (t0 + i) c d k e q ∧ l = l' + q
theorem Wy.lt {s : XS} {A : Nat → Int} {w h : Nat} (L : Ld s A w h) {mo : Nat → Prop} {t0 c0 d0 : Nat} (hc : c0 < w * h) (hd : d0 < 4) : ∀ (i c d l : Nat), Wy A mo t0 c0 d0 i c d l → c < w * h ∧ d < 4
  | 0, c, d, l, q => by rw [q.1, q.2.1]; exact ⟨hc, hd⟩
  | i + 1, k, e, l, q => by
    obtain ⟨c, d, l', q', q1, ⟨T, t1, t2, t3, -⟩, -⟩ := q
    have ih := Wy.lt L hc hd i c d l' q1
    have e4 : e < 4 := by rw [← t2]; exact tdr_lt d T
    have sk := (L.2.2.2.1 c e ih.1 e4 (by omega)).2
    exact ⟨by omega, e4⟩
def MinW (A : Nat → Int) (mo : Nat → Prop) (t0 c0 d0 i c d l : Nat) : Prop := Wy A mo t0 c0 d0 i c d l ∧ ∀ l', l' < l → ¬ Wy A mo t0 c0 d0 i c d l'
theorem MinW.ex {A : Nat → Int} {mo : Nat → Prop} {t0 c0 d0 i c d : Nat} : ∀ l, Wy A mo t0 c0 d0 i c d l → ∃ l0, l0 ≤ l ∧ MinW A mo t0 c0 d0 i c d l0 := by
  intro l
  induction l using Nat.strongRecOn with
  | _ l ih =>
    intro q
    by_cases z : ∃ l', l' < l ∧ Wy A mo t0 c0 d0 i c d l'
    · obtain ⟨l', z1, z2⟩ := z
      obtain ⟨l0, y1, y2⟩ := ih l' z1 z2
      exact ⟨l0, by omega, y2⟩
    · exact ⟨l, Nat.le_refl _, q, fun l' h1 h2 => z ⟨l', h1, h2⟩⟩
/-- the rows are right behind so many streets, up to so many lefts -/
def RT (A : Nat → Int) (mo : Nat → Prop) (t0 c0 d0 N i K : Nat) (s : XS) : Prop := SQ 0 s ∧ ∃ a : Nat, s 3 83 2 = (a : Int) ∧ ∀ l d c, l ≤ K → d < 4 → c < 32 → (bz (s 1 a (4 * l + d)) c = true ↔ (c < N ∧ MinW A mo t0 c0 d0 i c d l))
theorem RT.le {A : Nat → Int} {mo : Nat → Prop} {t0 c0 d0 N i K K' : Nat} {s : XS} (h : RT A mo t0 c0 d0 N i K s) (hK : K' ≤ K) : RT A mo t0 c0 d0 N i K' s := by
  obtain ⟨h1, a, h2, h3⟩ := h
  exact ⟨h1, a, h2, fun l d c q => h3 l d c (by omega)⟩
/-- what going on writes, all of it -/
def FrG (u s : XS) : Prop := ∀ t c k, ¬ (t = 1 ∧ (c = 8 ∨ c = 9 ∨ c = 80 ∨ c = 81 ∨ c = 82 ∨ c = 84 ∨ c = 85)) → ¬ (t = 0 ∧ c = 79 ∧ k = 4) → ¬ (c = 83) → u t c k = s t c k
theorem FrG.rf {s : XS} : FrG s s := fun _ _ _ _ _ _ => rfl
theorem FrG.tr {x y z : XS} (h : FrG x y) (g : FrG y z) : FrG x z := fun t c k q1 q2 q3 => (h t c k q1 q2 q3).trans (g t c k q1 q2 q3)
theorem FrO.g {b : Nat} {u s : XS} (hb : b = 84 ∨ b = 85) (h : FrO b u s) : FrG u s := fun t c k q1 q2 _ => h t c k (by omega) q2
theorem FrF.g {u s : XS} (h : FrF u s) : FrG u s := fun t c k q1 q2 _ => h t c k (by omega) q2
theorem FrG.cs {B : Int} {w h : Nat} {s m u : XS} (F : FrG u s) (H : CS B w h s m) : CS B w h u m := by
  obtain ⟨c1, c2, c3, c4, c5, c6, c7⟩ := H
  refine ⟨c1.fr (F _ _ _ (by omega) (by omega) (by omega)) (F _ _ _ (by omega) (by omega) (by omega)) (funext fun k => F _ _ _ (by omega) (by omega) (by omega)) (funext fun k => F _ _ _ (by omega) (by omega) (by omega)), c2.sameV (fun t c k _ _ q => F t c k (by omega) (by omega) (by omega)), ?_, ?_, c5, c6, c7⟩
  · rw [F _ _ _ (by omega) (by omega) (by omega)]; exact c3
  · rw [F _ _ _ (by omega) (by omega) (by omega)]; exact c4
theorem FrG.ld {A : Nat → Int} {w h : Nat} {s u : XS} (F : FrG u s) (L : Ld s A w h) : Ld u A w h := L.fr (F _ _ _ (by omega) (by omega) (by omega)) (F _ _ _ (by omega) (by omega) (by omega)) (funext fun k => F _ _ _ (by omega) (by omega) (by omega)) (funext fun k => F _ _ _ (by omega) (by omega) (by omega))
theorem l2_e {n : Nat} {s : XS} {a1 a3 v7 : Int} {l : Nat} : L2_X8_goOn (n + 1) s a1 a3 v7 (l : Int) = if s 0 83 4 < (l : Int) then ((f_X8_thin (f_X8_change s (min ((s 0 83 4) + 2) a3)).1).1, 0) else if a3 < (l : Int) then ((f_X8_thin (f_X8_change s (min ((s 0 83 4) + 2) a3)).1).1, 0) else L15_X8_goOn (L2_X8_goOn n) (Int.toNat (4 - 2 + 1)) (f_X8_goByRights s ((4 * l : Nat) : Int)).1 a1 a3 v7 (l : Int) ((4 * l : Nat) : Int) 2 := by
  have e : (4 * (l : Int)) = ((4 * l : Nat) : Int) := by omega
  show g3l_X8_goOn (L2_X8_goOn n) s a1 a3 v7 (l : Int) = _
  simp only [f_X8_goOn, g1c_X8_goOn, g3l_X8_goOn, g4b_X8_goOn, g5_X8_goOn, g6_X8_goOn, g7c_X8_goOn, g8c_X8_goOn, g9b_X8_goOn, g10_X8_goOn, g11_X8_goOn, g12c_X8_goOn, g13c_X8_goOn, g14c_X8_goOn, g16l_X8_goOn, g17b_X8_goOn, g18_X8_goOn, g19_X8_goOn, g20c_X8_goOn, g21b_X8_goOn, g22_X8_goOn, g23_X8_goOn, g24c_X8_goOn, e]
