/-! a street on by lefts and backs: the class's rows -/
/-- what a turn into a direction costs in an hour -/
def tcW (A : Nat → Int) (mo : Nat → Prop) (t c e T q : Nat) : Prop := (T < 2 ∧ q = 0) ∨ (2 ≤ T ∧ mayQ A c (t : Int) (e : Int) ∧ (((frQ A c (t : Int) ∨ mo c) ∧ q = 0) ∨ (¬ (frQ A c (t : Int) ∨ mo c) ∧ q = T - 1)))
/-- one street on, for so many lefts -/
def SW (A : Nat → Int) (mo : Nat → Prop) (t c d k e q : Nat) : Prop := ∃ T, T < 4 ∧ tdr d T = e ∧ sF A c e = (k : Int) ∧ tcW A mo t c e T q
/-- what going on writes, its rows aside -/
def FrO (b : Nat) (u s : XS) : Prop := ∀ t c k, ¬ (t = 1 ∧ (c = 8 ∨ c = 9 ∨ c = 80 ∨ c = 81 ∨ c = 82 ∨ c = b)) → ¬ (t = 0 ∧ c = 79 ∧ k = 4) → u t c k = s t c k
theorem FrO.rf {b : Nat} {s : XS} : FrO b s s := fun _ _ _ _ _ => rfl
theorem FrO.tr {b : Nat} {x y z : XS} (h : FrO b x y) (g : FrO b y z) : FrO b x z := fun t c k q1 q2 => (h t c k q1 q2).trans (g t c k q1 q2)
theorem FrF.o {b : Nat} {u s : XS} (h : FrF u s) : FrO b u s := fun t c k q1 q2 => h t c k (by omega) q2
theorem FrO.up {b k : Nat} {v : Int} {s : XS} : FrO b (xup s 1 b k v) s := fun t c j q _ => if_neg (fun z => q ⟨z.1, by omega⟩)
theorem FrO.cs {B : Int} {b w h : Nat} {s m u : XS} (F : FrO b u s) (hb : b = 84 ∨ b = 85) (H : CS B w h s m) : CS B w h u m := by
  obtain ⟨c1, c2, c3, c4, c5, c6, c7⟩ := H
  refine ⟨c1.fr (F _ _ _ (by omega) (by omega)) (F _ _ _ (by omega) (by omega)) (funext fun k => F _ _ _ (by omega) (by omega)) (funext fun k => F _ _ _ (by omega) (by omega)), c2.sameV (fun t c k _ _ q => F t c k (by omega) (by omega)), ?_, ?_, c5, c6, c7⟩
  · rw [F _ _ _ (by omega) (by omega)]; exact c3
  · rw [F _ _ _ (by omega) (by omega)]; exact c4
theorem FrO.sb {a b b' t : Nat} {u s : XS} (F : FrO b' u s) (hb : b' = 84 ∨ b' = 85) (h : SB a b t s) : SB a b t u := h.fr (F _ _ _ (by omega) (by omega)) (F _ _ _ (by omega) (by omega)) (F _ _ _ (by omega) (by omega))
theorem FV.up {N b k : Nat} {v : Int} {s : XS} {A : Nat → Int} (h : FV N s A) (hb : b = 84 ∨ b = 85) : FV N (xup s 1 b k v) A := by
  obtain ⟨n, h1, h2, h3, h4⟩ := h
  refine ⟨n, by rw [xup_t (by decide)]; exact h1, h2, fun t ht k' hk => ?_, fun t d ht hd c hc => ?_⟩
  · rw [xup_c (by omega)]; exact h3 t ht k' hk
  · rw [xup_c (by omega), xup_c (by omega)]; exact h4 t d ht hd c hc
/-- streets that are there, as bits -/
theorem Ld.st {s : XS} {A : Nat → Int} {w h : Nat} (L : Ld s A w h) {d : Nat} (hd : d < 4) {c : Nat} (hc : c < 32) : bz (s 1 18 d) c = true ↔ (c < w * h ∧ sF A c d ≠ -1) := by
  obtain ⟨-, -, l2, -, -, l5, -⟩ := L
  constructor
  · intro q
    have := l5 d hd c hc q
    exact ⟨this, (l2 c d this hd).mp q⟩
  · intro y
    exact (l2 c d y.1 hd).mpr y.2
/-- one heading's lefts (or backs) -/
theorem glh_x {B : Int} {a b tp w h : Nat} {s m : XS} (H : CS B w h s m) (L : Ld s (m 1 1) w h) (V : FV (w * h) s (m 1 1)) (S : SB a b tp s) {t T R Q x : Nat} (ht : t < 240) (hT : 2 ≤ T ∧ T < 4) (hx : x < 4) {C : Int} {n : Nat} : ∃ u, L1_X8_goByLeft (n + 1) s (t : Int) (T : Int) (R : Int) C (Q : Int) (x : Int) = L1_X8_goByLeft n u (t : Int) (T : Int) (R : Int) C (Q : Int) ((x + 1 : Nat) : Int) ∧ FV (w * h) u (m 1 1) ∧ FrO b u s ∧ (∀ j, j ≠ Q + tdr x T → u 1 b j = s 1 b j) ∧ ∀ k, k < 32 → (bz (u 1 b (Q + tdr x T)) k = true ↔ (bz (s 1 b (Q + tdr x T)) k = true ∨ ∃ c, c < w * h ∧ sF (m 1 1) c (tdr x T) = (k : Int) ∧ bz (s 1 a (R + x)) c = true ∧ bz C c = true ∧ mayQ (m 1 1) c (t : Int) ((tdr x T : Nat) : Int))) := by
  have b25 := L.b25
  have hab := S.1
  obtain ⟨e, he⟩ : ∃ e, e = tdr x T := ⟨_, rfl⟩
  have e4 : e < 4 := by rw [he]; exact tdr_lt x T
  rw [← he]
  have ed : Xiand ((x : Int) + ((tTurn (Int.toNat (T : Int))).toInt)) 3 = (e : Int) := by
    rw [show Int.toNat (T : Int) = T from rfl, tTurn_v hT.2, ← Int.natCast_add, and3_x (by omega) (by split <;> (try split) <;> omega), he]
    unfold tdr
    omega
  obtain ⟨set, hset⟩ : ∃ set, set = Xiand (Xiand (s 1 a (R + x)) C) (s 1 18 e) := ⟨_, rfl⟩
  have sb : ∀ c, c < 32 → (bz set c = true ↔ (bz (s 1 a (R + x)) c = true ∧ bz C c = true ∧ c < w * h ∧ sF (m 1 1) c e ≠ -1)) := fun c hc => by
    rw [hset, bz_iand, bz_iand, Bool.and_eq_true, Bool.and_eq_true, L.st e4 hc]
    exact ⟨fun q => ⟨q.1.1, q.1.2, q.2⟩, fun q => ⟨⟨q.1, q.2.1⟩, q.2.2⟩⟩
  have ie : Int.toNat ((R : Int) + (x : Int)) = R + x := by omega
  have iq : Int.toNat ((Q : Int) + (e : Int)) = Q + e := by omega
  have e0 : L1_X8_goByLeft (n + 1) s (t : Int) (T : Int) (R : Int) C (Q : Int) (x : Int) = if set = 0 then L1_X8_goByLeft n s (t : Int) (T : Int) (R : Int) C (Q : Int) ((x + 1 : Nat) : Int) else g8_X8_goByLeft (L1_X8_goByLeft n) s (t : Int) (T : Int) (R : Int) C (Q : Int) (x : Int) (e : Int) set := by
    show g2l_X8_goByLeft (L1_X8_goByLeft n) s (t : Int) (T : Int) (R : Int) C (Q : Int) (x : Int) = _
    simp only [g2l_X8_goByLeft, g3b_X8_goByLeft, g5_X8_goByLeft, g6b_X8_goByLeft, g7_X8_goByLeft, S.ts, ie, ed, show Int.toNat (e : Int) = e from rfl, ← hset]
    rw [if_pos (by omega)]
    rfl
  rw [e0]
  by_cases z : set = 0
  · rw [if_pos z]
    refine ⟨s, rfl, V, FrO.rf, fun _ _ => rfl, fun k hk => ⟨Or.inl, ?_⟩⟩
    rintro (q | ⟨c, q1, q2, q3, q4, -⟩)
    · exact q
    · exfalso
      have y := (sb c (by omega)).mpr ⟨q3, q4, q1, by omega⟩
      rw [z, bz_0] at y
      cases y
  · rw [if_neg z]
    obtain ⟨s1, r, r1, r2, r3, r4⟩ := allow_x H V ht e4 (set := set) (fun c hc q => ((sb c hc).mp q).2.2.1)
    have L1 : Ld s1 (m 1 1) w h := L.fr (r3 _ _ _ (by omega) (by omega)) (r3 _ _ _ (by omega) (by omega)) (funext fun k => r3 _ _ _ (by omega) (by omega)) (funext fun k => r3 _ _ _ (by omega) (by omega))
    have mv := mov_x L1 (v := r) e4
    obtain ⟨y, hy⟩ : ∃ y, y = (f_X0_moved s1 1 r (e : Int)).2 := ⟨_, rfl⟩
    have s1b : ∀ j, s1 1 b j = s 1 b j := fun j => r3 _ _ _ (by omega) (by omega)
    refine ⟨xup s1 1 b (Q + e) (Xior (s 1 b (Q + e)) y), ?_, r2.up (by omega), FrO.up.tr r3.o, fun j hj => ?_, fun k hk => ?_⟩
    · simp only [g8_X8_goByLeft, g9c_X8_goByLeft, g10c_X8_goByLeft, g11w_X8_goByLeft, S.tn, iq, r1, mv.1, ← hy]
      rfl
    · rw [xup_k hj]; exact s1b j
    · have k2 := mv.2 k hk
      rw [← hy] at k2
      rw [xup_s, bz_ior, Bool.or_eq_true, k2]
      constructor
      · rintro (q | ⟨c, q1, q2, q3⟩)
        · exact Or.inl q
        · have p := (r4 c (by omega)).mp q3
          have p2 := (sb c (by omega)).mp p.1
          exact Or.inr ⟨c, q1, q2, p2.1, p2.2.1, p.2⟩
      · rintro (q | ⟨c, q1, q2, q3, q4, q5⟩)
        · exact Or.inl q
        · exact Or.inr ⟨c, q1, q2, (r4 c (by omega)).mpr ⟨(sb c (by omega)).mpr ⟨q3, q4, q1, by omega⟩, q5⟩⟩
theorem gls_x {B : Int} {a b tp w h : Nat} {s m : XS} (H : CS B w h s m) (L : Ld s (m 1 1) w h) (V : FV (w * h) s (m 1 1)) (S : SB a b tp s) {t T R Q : Nat} (ht : t < 240) (hT : 2 ≤ T ∧ T < 4) {C : Int} : ∃ u, f_X8_goByLeft s (t : Int) (T : Int) (R : Int) C (Q : Int) = (u, 0) ∧ FV (w * h) u (m 1 1) ∧ FrO b u s ∧ (∀ j, ¬ (Q ≤ j ∧ j < Q + 4) → u 1 b j = s 1 b j) ∧ ∀ e, e < 4 → ∀ k, k < 32 → (bz (u 1 b (Q + e)) k = true ↔ (bz (s 1 b (Q + e)) k = true ∨ ∃ c d, d < 4 ∧ tdr d T = e ∧ c < w * h ∧ sF (m 1 1) c e = (k : Int) ∧ bz (s 1 a (R + d)) c = true ∧ bz C c = true ∧ mayQ (m 1 1) c (t : Int) (e : Int))) := by
  have hab := S.1
  have inj : ∀ d d', d < 4 → d' < 4 → tdr d T = tdr d' T → d = d' := by
    intro d d' h1 h2 q
    unfold tdr at q
    rcases (show T = 2 ∨ T = 3 by omega) with rfl | rfl
    · simp at q; omega
    · simp at q; omega
  have key : ∀ (n x : Nat) (v : XS), x ≤ 4 → 4 < x + n → FV (w * h) v (m 1 1) → FrO b v s → (∀ j, ¬ (Q ≤ j ∧ j < Q + 4) → v 1 b j = s 1 b j) → (∀ e, e < 4 → ∀ k, k < 32 → (bz (v 1 b (Q + e)) k = true ↔ (bz (s 1 b (Q + e)) k = true ∨ ∃ c d, d < x ∧ tdr d T = e ∧ c < w * h ∧ sF (m 1 1) c e = (k : Int) ∧ bz (s 1 a (R + d)) c = true ∧ bz C c = true ∧ mayQ (m 1 1) c (t : Int) (e : Int)))) → ∃ u, L1_X8_goByLeft n v (t : Int) (T : Int) (R : Int) C (Q : Int) (x : Int) = (u, 0) ∧ FV (w * h) u (m 1 1) ∧ FrO b u s ∧ (∀ j, ¬ (Q ≤ j ∧ j < Q + 4) → u 1 b j = s 1 b j) ∧ ∀ e, e < 4 → ∀ k, k < 32 → (bz (u 1 b (Q + e)) k = true ↔ (bz (s 1 b (Q + e)) k = true ∨ ∃ c d, d < 4 ∧ tdr d T = e ∧ c < w * h ∧ sF (m 1 1) c e = (k : Int) ∧ bz (s 1 a (R + d)) c = true ∧ bz C c = true ∧ mayQ (m 1 1) c (t : Int) (e : Int))) := by
    intro n
    induction n with
    | zero => intro x v h1 h2; omega
    | succ n ih =>
      intro x v h1 h2 FVv F Fb Bt
      by_cases z : x < 4
      · have Lv : Ld v (m 1 1) w h := L.fr (F _ _ _ (by omega) (by omega)) (F _ _ _ (by omega) (by omega)) (funext fun k => F _ _ _ (by omega) (by omega)) (funext fun k => F _ _ _ (by omega) (by omega))
        obtain ⟨u, u1, u2, u3, u4, u5⟩ := glh_x (F.cs (by omega) H) Lv FVv (F.sb (by omega) S) (R := R) (Q := Q) (C := C) (n := n) ht hT z
        have td := tdr_lt x T
        rw [u1]
        refine ih (x + 1) u (by omega) (by omega) u2 (u3.tr F) (fun j hj => (u4 j (by omega)).trans (Fb j hj)) (fun e he k hk => ?_)
        have va : v 1 a (R + x) = s 1 a (R + x) := F _ _ _ (by omega) (by omega)
        by_cases y : e = tdr x T
        · rw [y, u5 k hk, Bt (tdr x T) td k hk, va]
          constructor
          · rintro ((q | ⟨c, d, q1, q2⟩) | ⟨c, q2, q3, q4, q5, q6⟩)
            · exact Or.inl q
            · exact Or.inr ⟨c, d, by omega, q2⟩
            · exact Or.inr ⟨c, x, by omega, rfl, q2, q3, q4, q5, q6⟩
          · rintro (q | ⟨c, d, q1, q2, q3, q4, q5, q6, q7⟩)
            · exact Or.inl (Or.inl q)
            · by_cases dx : d = x
              · subst dx
                exact Or.inr ⟨c, q3, q4, q5, q6, q7⟩
              · exact absurd (inj d x (by omega) z q2) dx
        · rw [u4 _ (by omega), Bt e he k hk]
          constructor
          · rintro (q | ⟨c, d, q1, q2⟩)
            · exact Or.inl q
            · exact Or.inr ⟨c, d, by omega, q2⟩
          · rintro (q | ⟨c, d, q1, q2, q3⟩)
            · exact Or.inl q
            · by_cases dx : d = x
              · subst dx
                exact absurd q2.symm y
              · exact Or.inr ⟨c, d, by omega, q2, q3⟩
      · have x4 : x = 4 := by omega
        subst x4
        refine ⟨v, ?_, FVv, F, Fb, Bt⟩
        show g2l_X8_goByLeft (L1_X8_goByLeft n) v (t : Int) (T : Int) (R : Int) C (Q : Int) ((4 : Nat) : Int) = _
        simp only [g2l_X8_goByLeft, g3b_X8_goByLeft, g4_X8_goByLeft]
        rw [if_neg (by decide)]
  refine key 5 0 s (by decide) (by decide) V FrO.rf (fun _ _ => rfl) (fun e he k hk => ⟨Or.inl, ?_⟩)
  rintro (q | ⟨c, d, q1, -⟩)
  · exact q
  · omega
