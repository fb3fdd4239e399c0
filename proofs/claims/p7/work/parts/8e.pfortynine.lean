/-! clean rows: begin, going on, thinning, and all that is made of them -/
theorem SQ.of8 {N : Nat} {s u : XS} (h : SQ N s) (e : ∀ t c k, 83 ≤ c → c ≤ 85 → u t c k = s t c k) : SQ N u := by
  obtain ⟨a, b, h1, h2, h3, h4, t, h5, h6, h7⟩ := h
  refine ⟨a, b, h1, (e _ _ _ (by decide) (by decide)).trans h2, (e _ _ _ (by decide) (by decide)).trans h3, fun j hj => (e _ _ _ (by omega) (by omega)).trans (h4 j hj), t, (e _ _ _ (by decide) (by decide)).trans h5, h6, fun j hj => (e _ _ _ (by omega) (by omega)).trans (h7 j hj)⟩
theorem and3_r (y : Int) : 0 ≤ Xiand y 3 ∧ Xiand y 3 < 4 := by
  unfold Xiand
  rw [show Int32.ofInt 3 = nI (2 ^ 2 - 1) by decide]
  have h2 : (Int32.ofInt y &&& nI (2 ^ 2 - 1)).toBitVec.toNat = (Int32.ofInt y).toBitVec.toNat % 2 ^ 2 := by
    have e : (Int32.ofInt y &&& nI (2 ^ 2 - 1)).toBitVec = (Int32.ofInt y).toBitVec &&& (nI (2 ^ 2 - 1)).toBitVec := rfl
    rw [e, BitVec.toNat_and, show (nI (2 ^ 2 - 1)).toBitVec.toNat = 2 ^ 2 - 1 by decide, Nat.and_two_pow_sub_one_eq_mod]
  have h3 : (Int32.ofInt y &&& nI (2 ^ 2 - 1)).toInt = (Int32.ofInt y &&& nI (2 ^ 2 - 1)).toBitVec.toInt := rfl
  have l2 := Nat.mod_lt (Int32.ofInt y).toBitVec.toNat (show 0 < 2 ^ 2 by decide)
  rw [h3, BitVec.toInt_eq_toNat_cond, h2, if_pos (by omega)]
  omega
theorem begin_q {s : XS} {a1 : Int} (S : SQ 0 s) : SQ 0 (f_X8_begin s a1).1 := by
  obtain ⟨a, b, t, h, Sb, Sa⟩ := S.ex
  have e : f_X8_begin s a1 = L1_X8_begin (Int.toNat (484 - 0 + 1)) s a1 0 := rfl
  have t120 := h.2.2.2.2
  have hab := h.1
  have r3 := and3_r a1
  obtain ⟨u, u1, u2⟩ := bg_l (a1 := a1) (Int.toNat (484 - 0 + 1)) s 0 h (by decide) (by omega) (by show 4 * (t : Int) + 4 - 0 < (485 : Int); omega)
  rw [e, u1]
  refine SQ_of (a := a) (b := b) (t := 0) ⟨h.1, ?_, ?_, ?_, by decide⟩ (fun j hj => ?_) (fun j hj => ?_)
  · dsimp only
    rw [xup_t (by decide), xup_t (by decide), u2, if_neg (by omega)]; exact h.2.1
  · dsimp only
    rw [xup_t (by decide), xup_t (by decide), u2, if_neg (by omega)]; exact h.2.2.1
  · dsimp only
    rw [xup_t (by decide), xup_s]; rfl
  · dsimp only
    rw [xup_c (by omega), xup_t (by decide), u2, if_neg (by omega)]
    exact Sb j hj
  · dsimp only
    rw [xup_k (by omega), xup_t (by decide), u2]
    by_cases y : j < 4 * t + 4
    · rw [if_pos ⟨rfl, rfl, by omega, by omega⟩]
    · rw [if_neg (fun q => by omega)]
      exact Sa j (by omega)
/-- a row of those who go on is written, and no other -/
def FLw8 (b : Nat) (lo : Int) (u s : XS) : Prop := ∀ (T c k : Nat), ((83 ≤ c ∧ c ≤ 85) ∨ 107 ≤ c) → ¬ (T = 1 ∧ c = b ∧ lo ≤ (k : Int) ∧ (k : Int) < lo + 4) → u T c k = s T c k
theorem FLw8.rf {b : Nat} {lo : Int} {s : XS} : FLw8 b lo s s := fun _ _ _ _ _ => rfl
theorem FLw8.tr {b : Nat} {lo : Int} {x y z : XS} (h : FLw8 b lo x y) (g : FLw8 b lo y z) : FLw8 b lo x z := fun T c k q1 q2 => (h T c k q1 q2).trans (g T c k q1 q2)
theorem FLw8.up {b : Nat} {lo : Int} {i : Nat} {v : Int} {s : XS} (h : lo ≤ (i : Int) ∧ (i : Int) < lo + 4) : FLw8 b lo (xup s 1 b i v) s := fun T c k _ q => if_neg (fun e => q ⟨e.1, e.2.1, by rw [e.2.2]; exact h.1, by rw [e.2.2]; exact h.2⟩)
theorem FLw8.sb {a b b' t : Nat} {lo : Int} {u s : XS} (F : FLw8 b' lo u s) (h : SB a b t s) : SB a b t u := h.fr (F _ _ _ (by omega) (by omega)) (F _ _ _ (by omega) (by omega)) (F _ _ _ (by omega) (by omega))
theorem gq_l {a b t : Nat} {row : Int} (h0 : 0 ≤ row) : ∀ (n : Nat) (s : XS) (x : Int), SB a b t s → 0 ≤ x → FLw8 b row (L1_X8_goByRights n s row x).1 s
  | 0, s, x, _, _ => FLw8.rf
  | n + 1, s, x, h, hx => by
    have pm : ∀ (u : XS) (v d : Int), (f_X0_moved u 1 v d).1 = u := fun _ _ _ => pu_f_X0_moved
    have x3 : ∀ (i : Nat) (v : Int), xup s 1 b i v 3 83 3 = s 3 83 3 := fun _ _ => xup_t (by decide)
    have e : ∃ v w, L1_X8_goByRights (n + 1) s row x = if x < 4 then (if s 1 a (Int.toNat (row + x)) = 0 then L1_X8_goByRights n s row (x + 1) else L1_X8_goByRights n (xup (xup s 1 b (Int.toNat (row + x)) v) 1 b (Int.toNat (row + Xiand (x + 1) 3)) w) row (x + 1)) else (s, 0) := by
      refine ⟨Xior (s 1 b (Int.toNat (row + x))) (f_X0_moved s 1 (s 1 a (Int.toNat (row + x))) x).2, Xior (xup s 1 b (Int.toNat (row + x)) (Xior (s 1 b (Int.toNat (row + x))) (f_X0_moved s 1 (s 1 a (Int.toNat (row + x))) x).2) 1 b (Int.toNat (row + Xiand (x + 1) 3))) (f_X0_moved (xup s 1 b (Int.toNat (row + x)) (Xior (s 1 b (Int.toNat (row + x))) (f_X0_moved s 1 (s 1 a (Int.toNat (row + x))) x).2)) 1 (s 1 a (Int.toNat (row + x))) (Xiand (x + 1) 3)).2, ?_⟩
      show g2l_X8_goByRights (L1_X8_goByRights n) s row x = _
      simp only [g2l_X8_goByRights, g3b_X8_goByRights, g4_X8_goByRights, g5_X8_goByRights, g6b_X8_goByRights, g7_X8_goByRights, g8_X8_goByRights, g9c_X8_goByRights, g10w_X8_goByRights, g11c_X8_goByRights, g12w_X8_goByRights, h.ts, h.tn, pm, x3]
    obtain ⟨v, w, e⟩ := e
    rw [e]
    have r3 := and3_r (x + 1)
    split
    · split
      · exact gq_l h0 n s (x + 1) h (by omega)
      · have F : FLw8 b row (xup (xup s 1 b (Int.toNat (row + x)) v) 1 b (Int.toNat (row + Xiand (x + 1) 3)) w) s := (FLw8.up (by omega)).tr (FLw8.up (by omega))
        exact (gq_l h0 n _ (x + 1) (F.sb h) (by omega)).tr F
    · exact FLw8.rf
theorem gr_q {a b t : Nat} {s : XS} {row : Int} (h : SB a b t s) (h0 : 0 ≤ row) : FLw8 b row (f_X8_goByRights s row).1 s := gq_l h0 _ s 0 h (by decide)
theorem glq_l {a b t : Nat} {a1 a2 a3 a4 lo : Int} (h0 : 0 ≤ lo) : ∀ (n : Nat) (s : XS) (x : Int), SB a b t s → FLw8 b lo (L1_X8_goByLeft n s a1 a2 a3 a4 lo x).1 s
  | 0, s, x, _ => FLw8.rf
  | n + 1, s, x, h => by
    have pm : ∀ (u : XS) (v d : Int), (f_X0_moved u 1 v d).1 = u := fun _ _ _ => pu_f_X0_moved
    obtain ⟨d, hd⟩ : ∃ d, d = Xiand (x + ((tTurn (Int.toNat a2)).toInt)) 3 := ⟨_, rfl⟩
    have r3 := and3_r (x + ((tTurn (Int.toNat a2)).toInt))
    rw [← hd] at r3
    obtain ⟨set, hset⟩ : ∃ set, set = Xiand (Xiand (s 1 a (Int.toNat (a3 + x))) a4) (s 1 18 (Int.toNat d)) := ⟨_, rfl⟩
    have e : ∃ v, L1_X8_goByLeft (n + 1) s a1 a2 a3 a4 lo x = if x < 4 then (if set = 0 then L1_X8_goByLeft n s a1 a2 a3 a4 lo (x + 1) else L1_X8_goByLeft n (xup (f_X2_allowing s a1 d set).1 1 b (Int.toNat (lo + d)) v) a1 a2 a3 a4 lo (x + 1)) else (s, 0) := by
      refine ⟨Xior (s 1 b (Int.toNat (lo + d))) (f_X0_moved (f_X2_allowing s a1 d set).1 1 (f_X2_allowing s a1 d set).2 d).2, ?_⟩
      show g2l_X8_goByLeft (L1_X8_goByLeft n) s a1 a2 a3 a4 lo x = _
      simp only [g2l_X8_goByLeft, g3b_X8_goByLeft, g4_X8_goByLeft, g5_X8_goByLeft, g6b_X8_goByLeft, g7_X8_goByLeft, g8_X8_goByLeft, g9c_X8_goByLeft, g10c_X8_goByLeft, g11w_X8_goByLeft, h.ts, h.tn, pm, ← hd, ← hset]
    obtain ⟨v, e⟩ := e
    rw [e]
    split
    · split
      · exact glq_l h0 n s (x + 1) h
      · have F0 : FLw8 b lo (f_X2_allowing s a1 d set).1 s := fun T c k q1 _ => k8_f_X2_allowing T c k q1
        have F : FLw8 b lo (xup (f_X2_allowing s a1 d set).1 1 b (Int.toNat (lo + d)) v) s := (FLw8.up (by omega)).tr F0
        exact (glq_l h0 n _ (x + 1) (F.sb h)).tr F
    · exact FLw8.rf
theorem gl_q {a b t : Nat} {s : XS} {a1 a2 a3 a4 lo : Int} (h : SB a b t s) (h0 : 0 ≤ lo) : FLw8 b lo (f_X8_goByLeft s a1 a2 a3 a4 lo).1 s := glq_l h0 _ s 0 h
/-- a street on, half way: rows up to M are written -/
def IG (a b t M : Nat) (s : XS) : Prop := SB a b t s ∧ (∀ j, 4 * M + 4 ≤ j → s 1 b j = 0) ∧ ∀ j, 4 * t + 4 ≤ j → s 1 a j = 0
theorem IG.fl {a b t M l : Nat} {u s : XS} (h : IG a b t M s) (F : FLw8 b (4 * (l : Int)) u s) (hl : l ≤ M) : IG a b t M u := by
  obtain ⟨h1, h2, h3⟩ := h
  have hab := h1.1
  refine ⟨F.sb h1, fun j hj => ?_, fun j hj => ?_⟩
  · rw [F _ _ _ (by omega) (by omega)]; exact h2 j hj
  · rw [F _ _ _ (by omega) (by omega)]; exact h3 j hj
theorem IG.sq {a b t : Nat} {s : XS} (h : IG a b t 0 s) (h0 : ∀ j, s 1 b j = 0) : SQ 0 s := SQ_of h.1 (fun j _ => h0 j) h.2.2
/-- thinning -/
theorem th7 {a b t : Nat} {R : XS → Int → Int → XR} {h : Nat} (hh : h < 4) : ∀ (n : Nat) (l : Nat) (s : XS) (hi : Nat) (see : Int), SB a b t s → (∀ j, s 1 b j = 0) → (∀ j, 4 * t + 4 ≤ j → s 1 a j = 0) → hi ≤ t → (∀ h' l', h' < 4 → l' ≤ t → (h' < h ∨ (h' = h ∧ l' < l)) → s 1 a (4 * l' + h') ≠ 0 → l' ≤ hi) → l ≤ t + 1 → t + 1 < l + n → ∃ u, ∃ hi' : Nat, L7_X8_thin R n s (hi : Int) (h : Int) see (l : Int) = R u (hi' : Int) ((h + 1 : Nat) : Int) ∧ SB a b t u ∧ (∀ j, u 1 b j = 0) ∧ (∀ j, 4 * t + 4 ≤ j → u 1 a j = 0) ∧ hi' ≤ t ∧ ∀ h' l', h' < 4 → l' ≤ t → h' < h + 1 → u 1 a (4 * l' + h') ≠ 0 → l' ≤ hi'
  | 0, l, s, hi, see, _, _, _, _, _, h1, h2 => by omega
  | n + 1, l, s, hi, see, H, Hb, Ha, h3, h4, h1, h2 => by
    have hab := H.1
    obtain ⟨v, hv⟩ : ∃ v, v = Xiand (s 1 a (4 * l + h)) (Xixor see (-1)) := ⟨_, rfl⟩
    have i1 : Int.toNat ((4 * (l : Int)) + (h : Int)) = 4 * l + h := by omega
    have e : L7_X8_thin R (n + 1) s (hi : Int) (h : Int) see (l : Int) = if (t : Int) < (l : Int) then R s (hi : Int) ((h : Int) + 1) else (if v = 0 then L7_X8_thin R n (xup s 1 a (4 * l + h) v) (hi : Int) (h : Int) see ((l : Int) + 1) else L7_X8_thin R n (xup s 1 a (4 * l + h) v) (max (hi : Int) (l : Int)) (h : Int) (Xior see v) ((l : Int) + 1)) := by
      show g8l_X8_thin R (L7_X8_thin R n) s (hi : Int) (h : Int) see (l : Int) = _
      simp only [g8l_X8_thin, g9b_X8_thin, g10_X8_thin, g11_X8_thin, g12w_X8_thin, g13b_X8_thin, g14_X8_thin, g15_X8_thin, H.ts, H.2.2.2.1, i1, ← hv]
    rw [e]
    by_cases z : t < l
    · rw [if_pos (by omega)]
      exact ⟨s, hi, rfl, H, Hb, Ha, h3, fun h' l' q1 q2 q3 q4 => h4 h' l' q1 q2 (by omega) q4⟩
    · rw [if_neg (by omega)]
      have Hb' : ∀ j, xup s 1 a (4 * l + h) v 1 b j = 0 := fun j => by rw [xup_c (by omega)]; exact Hb j
      have Ha' : ∀ j, 4 * t + 4 ≤ j → xup s 1 a (4 * l + h) v 1 a j = 0 := fun j hj => by rw [xup_k (by omega)]; exact Ha j hj
      by_cases y : v = 0
      · rw [if_pos y]
        refine th7 hh n (l + 1) _ hi see H.up Hb' Ha' h3 (fun h' l' q1 q2 q3 q4 => ?_) (by omega) (by omega)
        by_cases w : 4 * l' + h' = 4 * l + h
        · rw [w, xup_s] at q4
          exact absurd y q4
        · rw [xup_k w] at q4
          exact h4 h' l' q1 q2 (by omega) q4
      · rw [if_neg y, show max (hi : Int) (l : Int) = ((max hi l : Nat) : Int) by omega]
        refine th7 hh n (l + 1) _ (max hi l) _ H.up Hb' Ha' (by omega) (fun h' l' q1 q2 q3 q4 => ?_) (by omega) (by omega)
        by_cases w : 4 * l' + h' = 4 * l + h
        · omega
        · rw [xup_k w] at q4
          have := h4 h' l' q1 q2 (by omega) q4
          omega
theorem th1 {a b t : Nat} : ∀ (n : Nat) (h : Nat) (s : XS) (hi : Nat), SB a b t s → (∀ j, s 1 b j = 0) → (∀ j, 4 * t + 4 ≤ j → s 1 a j = 0) → hi ≤ t → (∀ h' l', h' < 4 → l' ≤ t → h' < h → s 1 a (4 * l' + h') ≠ 0 → l' ≤ hi) → h ≤ 4 → 4 < h + n → SQ 0 (L1_X8_thin n s (hi : Int) (h : Int)).1
  | 0, h, s, hi, _, _, _, _, _, h1, h2 => by omega
  | n + 1, h, s, hi, H, Hb, Ha, h3, h4, h1, h2 => by
    have hab := H.1
    have t120 := H.2.2.2.2
    have e : L1_X8_thin (n + 1) s (hi : Int) (h : Int) = if (h : Int) < 4 then L7_X8_thin (L1_X8_thin n) (Int.toNat (121 - 0 + 1)) s (hi : Int) (h : Int) 0 0 else (xup s 0 83 4 (hi : Int), 0) := by
      show g2l_X8_thin (L1_X8_thin n) s (hi : Int) (h : Int) = _
      simp only [g2l_X8_thin, g3b_X8_thin, g4_X8_thin, g5_X8_thin, g6w_X8_thin]
    rw [e]
    by_cases z : h < 4
    · rw [if_pos (by omega)]
      obtain ⟨u, hi', u1, u2, u3, u4, u5, u6⟩ := th7 (R := L1_X8_thin n) z (Int.toNat (121 - 0 + 1)) 0 s hi 0 H Hb Ha h3 (fun h' l' q1 q2 q3 q4 => h4 h' l' q1 q2 (by omega) q4) (by omega) (by show t + 1 < 0 + 122; omega)
      have u1' : L7_X8_thin (L1_X8_thin n) (Int.toNat (121 - 0 + 1)) s (hi : Int) (h : Int) 0 0 = L1_X8_thin n u (hi' : Int) ((h + 1 : Nat) : Int) := u1
      rw [u1']
      exact th1 n (h + 1) u hi' u2 u3 u4 u5 u6 (by omega) (by omega)
    · rw [if_neg (by omega)]
      refine SQ_of (a := a) (b := b) (t := hi) ⟨H.1, ?_, ?_, ?_, by omega⟩ (fun j _ => ?_) (fun j hj => ?_)
      · dsimp only
        rw [xup_t (by decide)]; exact H.2.1
      · dsimp only
        rw [xup_t (by decide)]; exact H.2.2.1
      · dsimp only
        rw [xup_s]
      · dsimp only
        rw [xup_t (by decide)]; exact Hb j
      · dsimp only
        rw [xup_t (by decide)]
        refine Classical.byContradiction (fun q => ?_)
        by_cases y : j < 4 * t + 4
        · have := h4 (j % 4) (j / 4) (by omega) (by omega) (by omega) (by rw [show 4 * (j / 4) + j % 4 = j by omega]; exact q)
          omega
        · exact q (Ha j (by omega))
theorem thin_q {s : XS} (S : SQ 0 s) : SQ 0 (f_X8_thin s).1 := by
  obtain ⟨a, b, t, H, Sb, Sa⟩ := S.ex
  exact th1 (Int.toNat (4 - 0 + 1)) 0 s 0 H (fun j => Sb j (by omega)) Sa (by omega) (fun h' l' q1 q2 q3 q4 => by omega) (by decide) (by decide)
/-- a street on -/
theorem IG.end {a b t M : Nat} {s : XS} (h : IG a b t M s) {T : Nat} (hT : T ≤ 120) (hM : M ≤ T) : SQ 0 (f_X8_change s (T : Int)).1 := by
  obtain ⟨h1, h2, h3⟩ := h
  obtain ⟨u, u1, u2, u3, u4, -⟩ := change_x h1 h3 hT
  rw [u1]
  exact SQ_of u2 (fun j _ => u3 j) (fun j hj => (u4 j).trans (h2 j (by omega)))
theorem go15 {a b t M : Nat} {R : XS → Int → Int → Int → Int → XR} {a1 a3 v7 : Int} {l : Nat} (hl : l ≤ t) (hl3 : (l : Int) ≤ a3) (hM : M = min (t + 2) a3.toNat) : ∀ (n : Nat) (s : XS) (x : Nat), IG a b t M s → 2 ≤ x → x ≤ 4 → 4 < x + n → ∃ u, L15_X8_goOn R n s a1 a3 v7 (l : Int) (4 * (l : Int)) (x : Int) = R u a1 a3 v7 ((l + 1 : Nat) : Int) ∧ IG a b t M u
  | 0, s, x, _, _, h1, h2 => by omega
  | n + 1, s, x, H, h0, h1, h2 => by
    have e : L15_X8_goOn R (n + 1) s a1 a3 v7 (l : Int) (4 * (l : Int)) (x : Int) = if (x : Int) < 4 then (if a3 < ((l : Int) + (x : Int)) - 1 then L15_X8_goOn R n (f_X8_goByLeft s a1 (x : Int) (4 * (l : Int)) v7 (4 * (l : Int))).1 a1 a3 v7 (l : Int) (4 * (l : Int)) ((x : Int) + 1) else L15_X8_goOn R n (f_X8_goByLeft (f_X8_goByLeft s a1 (x : Int) (4 * (l : Int)) v7 (4 * (l : Int))).1 a1 (x : Int) (4 * (l : Int)) (Xixor v7 (-1)) ((4 * (l : Int)) + (4 * ((x : Int) - 1)))).1 a1 a3 v7 (l : Int) (4 * (l : Int)) ((x : Int) + 1)) else R s a1 a3 v7 ((l : Int) + 1) := by
      show g16l_X8_goOn R (L15_X8_goOn R n) s a1 a3 v7 (l : Int) (4 * (l : Int)) (x : Int) = _
      simp only [g16l_X8_goOn, g17b_X8_goOn, g18_X8_goOn, g19_X8_goOn, g20c_X8_goOn, g21b_X8_goOn, g22_X8_goOn, g23_X8_goOn, g24c_X8_goOn]
    rw [e]
    by_cases z : x < 4
    · rw [if_pos (by omega)]
      have F1 := gl_q (a1 := a1) (a2 := (x : Int)) (a3 := 4 * (l : Int)) (a4 := v7) (lo := 4 * (l : Int)) H.1 (by omega)
      have H1 := H.fl F1 (by omega)
      by_cases y : a3 < ((l : Int) + (x : Int)) - 1
      · rw [if_pos y]
        exact go15 hl hl3 hM n _ (x + 1) H1 (by omega) (by omega) (by omega)
      · rw [if_neg y]
        have F2 := gl_q (a1 := a1) (a2 := (x : Int)) (a3 := 4 * (l : Int)) (a4 := Xixor v7 (-1)) (lo := (4 * (l : Int)) + (4 * ((x : Int) - 1))) H1.1 (by omega)
        have e2 : (4 * (l : Int)) + (4 * ((x : Int) - 1)) = 4 * ((l + x - 1 : Nat) : Int) := by omega
        have H2 := H1.fl (l := l + x - 1) (by rw [← e2]; exact F2) (by omega)
        exact go15 hl hl3 hM n _ (x + 1) H2 (by omega) (by omega) (by omega)
    · rw [if_neg (by omega)]
      exact ⟨s, rfl, H⟩
theorem go2 {a b t M : Nat} {a1 a3 v7 : Int} (h3 : 0 ≤ a3 ∧ a3 ≤ 120) (hM : M = min (t + 2) a3.toNat) : ∀ (n : Nat) (l : Nat) (s : XS), IG a b t M s → l ≤ t + 1 → t + 1 < l + n → SQ 0 (L2_X8_goOn n s a1 a3 v7 (l : Int)).1
  | 0, l, s, _, h1, h2 => by omega
  | n + 1, l, s, H, h1, h2 => by
    have fin : SQ 0 (f_X8_thin (f_X8_change s (min ((s 0 83 4) + 2) a3)).1).1 := by
      rw [H.1.2.2.2.1, show min ((t : Int) + 2) a3 = (M : Int) by omega]
      exact thin_q (H.end (by omega) (Nat.le_refl _))
    have e : L2_X8_goOn (n + 1) s a1 a3 v7 (l : Int) = if (t : Int) < (l : Int) then ((f_X8_thin (f_X8_change s (min ((s 0 83 4) + 2) a3)).1).1, 0) else if a3 < (l : Int) then ((f_X8_thin (f_X8_change s (min ((s 0 83 4) + 2) a3)).1).1, 0) else L15_X8_goOn (L2_X8_goOn n) (Int.toNat (4 - 2 + 1)) (f_X8_goByRights s (4 * (l : Int))).1 a1 a3 v7 (l : Int) (4 * (l : Int)) 2 := by
      show g3l_X8_goOn (L2_X8_goOn n) s a1 a3 v7 (l : Int) = _
      simp only [f_X8_goOn, g1c_X8_goOn, g3l_X8_goOn, g4b_X8_goOn, g5_X8_goOn, g6_X8_goOn, g7c_X8_goOn, g8c_X8_goOn, g9b_X8_goOn, g10_X8_goOn, g11_X8_goOn, g12c_X8_goOn, g13c_X8_goOn, g14c_X8_goOn, g16l_X8_goOn, g17b_X8_goOn, g18_X8_goOn, g19_X8_goOn, g20c_X8_goOn, g21b_X8_goOn, g22_X8_goOn, g23_X8_goOn, g24c_X8_goOn, H.1.2.2.2.1]
    rw [e]
    by_cases z : t < l
    · rw [if_pos (by omega)]
      exact fin
    · rw [if_neg (by omega)]
      by_cases y : a3 < (l : Int)
      · rw [if_pos y]
        exact fin
      · rw [if_neg y]
        have H1 := H.fl (gr_q (row := 4 * (l : Int)) H.1 (by omega)) (l := l) (by omega)
        obtain ⟨u, u1, u2⟩ := go15 (R := L2_X8_goOn n) (a1 := a1) (v7 := v7) (l := l) (by omega) (by omega) hM (Int.toNat (4 - 2 + 1)) _ 2 H1 (by decide) (by decide) (by decide)
        have u1' : L15_X8_goOn (L2_X8_goOn n) (Int.toNat (4 - 2 + 1)) (f_X8_goByRights s (4 * (l : Int))).1 a1 a3 v7 (l : Int) (4 * (l : Int)) 2 = L2_X8_goOn n u a1 a3 v7 ((l + 1 : Nat) : Int) := u1
        rw [u1']
        exact go2 h3 hM n (l + 1) u u2 (by omega) (by omega)
theorem goOn_q {s : XS} {a1 a2 a3 : Int} (h3 : 0 ≤ a3 ∧ a3 ≤ 120) (S : SQ 0 s) : SQ 0 (f_X8_goOn s a1 a2 a3).1 := by
  have S1 : SQ 0 (f_X2_freeAt s a1).1 := S.of8 (fun t c k q1 q2 => k8_f_X2_freeAt t c k (Or.inl ⟨q1, q2⟩))
  obtain ⟨a, b, t, H, Sb, Sa⟩ := S1.ex
  have t120 := H.2.2.2.2
  exact go2 h3 rfl (Int.toNat (121 - 0 + 1)) 0 _ ⟨H, fun j _ => Sb j (by omega), Sa⟩ (by omega) (by show t + 1 < 0 + 122; omega)
/-! ways of so many lefts -/
theorem low_l {a1 a2 : Int} : ∀ (n : Nat) (s : XS) (x : Int), (L1_X8_lowest n s a1 a2 x).1 = s ∧ ((L1_X8_lowest n s a1 a2 x).2 ≤ a2 ∨ (L1_X8_lowest n s a1 a2 x).2 ≤ 0)
  | 0, s, x => ⟨rfl, Or.inr (Int.le_refl _)⟩
  | n + 1, s, x => by
    have ah : (f_X8_anyHeading s x).1 = s := rfl
    have e : ∃ v : Int, L1_X8_lowest (n + 1) s a1 a2 x = if s 0 83 4 < x then (s, -1) else if a2 < x then (s, -1) else if v = 0 then L1_X8_lowest n s a1 a2 (x + 1) else (s, x) := by
      refine ⟨Xiand (Xishr (f_X8_anyHeading s x).2 a1) 1, ?_⟩
      show g2l_X8_lowest (L1_X8_lowest n) s a1 a2 x = _
      simp only [g2l_X8_lowest, g3b_X8_lowest, g4_X8_lowest, g5_X8_lowest, g6b_X8_lowest, g7_X8_lowest, g8_X8_lowest, g9c_X8_lowest, g10b_X8_lowest, g11_X8_lowest, g12_X8_lowest, ah]
    obtain ⟨v, e⟩ := e
    rw [e]
    split
    · exact ⟨rfl, Or.inr (show (-1 : Int) ≤ 0 by decide)⟩
    · split
      · exact ⟨rfl, Or.inr (show (-1 : Int) ≤ 0 by decide)⟩
      · split
        · exact low_l n s (x + 1)
        · exact ⟨rfl, Or.inl (by omega)⟩
theorem low_q (s : XS) (a1 a2 : Int) : (f_X8_lowest s a1 a2).1 = s ∧ ((f_X8_lowest s a1 a2).2 ≤ a2 ∨ (f_X8_lowest s a1 a2).2 ≤ 0) := low_l _ s 0
theorem fs2 {a2 a3 a4 a5 : Int} (h3 : 0 ≤ a3 ∧ a3 ≤ 120) : ∀ (n : Nat) (s : XS) (x : Int), SQ 0 s → SQ 0 (L2_X8_fewestStreets n s a2 a3 a4 a5 x).1
  | 0, s, x, S => S
  | n + 1, s, x, S => by
    have e : L2_X8_fewestStreets (n + 1) s a2 a3 a4 a5 x = if a4 < x then (s, -1) else if (f_X8_lowest s a2 a3).2 < 0 then (if x < a4 then L2_X8_fewestStreets n (f_X8_goOn s x a5 a3).1 a2 a3 a4 a5 (x + 1) else L2_X8_fewestStreets n s a2 a3 a4 a5 (x + 1)) else (s, x) := by
      show g3l_X8_fewestStreets (L2_X8_fewestStreets n) s a2 a3 a4 a5 x = _
      simp only [f_X8_fewestStreets, g1c_X8_fewestStreets, g3l_X8_fewestStreets, g4b_X8_fewestStreets, g5_X8_fewestStreets, g6_X8_fewestStreets, g7c_X8_fewestStreets, g8b_X8_fewestStreets, g9_X8_fewestStreets, g10_X8_fewestStreets, g11b_X8_fewestStreets, g12_X8_fewestStreets, g13_X8_fewestStreets, g14c_X8_fewestStreets, (low_q s a2 a3).1]
    rw [e]
    split
    · exact S
    · split
      · split
        · exact fs2 h3 n _ (x + 1) (goOn_q h3 S)
        · exact fs2 h3 n s (x + 1) S
      · exact S
theorem fs_q {s : XS} {a1 a2 a3 a4 a5 : Int} (h3 : 0 ≤ a3 ∧ a3 ≤ 120) (S : SQ 0 s) : SQ 0 (f_X8_fewestStreets s a1 a2 a3 a4 a5).1 := fs2 h3 _ _ 0 (begin_q S)
theorem fl2 {a2 a3 a4 a5 : Int} : ∀ (n : Nat) (s : XS) (x6 x7 x8 : Int), x7 ≤ 120 → SQ 0 s → SQ 0 (L2_X8_fewestLefts n s a2 a3 a4 a5 x6 x7 x8).1
  | 0, s, x6, x7, x8, _, S => S
  | n + 1, s, x6, x7, x8, h7, S => by
    obtain ⟨r, hr⟩ : ∃ r, r = (f_X8_lowest s a3 x7).2 := ⟨_, rfl⟩
    have rl := (low_q s a3 x7).2
    rw [← hr] at rl
    have e : L2_X8_fewestLefts (n + 1) s a2 a3 a4 a5 x6 x7 x8 = if a4 < x8 then (s, x6) else if x7 < 0 then (s, x6) else if r < 0 then (if x8 < a4 then L2_X8_fewestLefts n (f_X8_goOn s (a2 + x8) a5 x7).1 a2 a3 a4 a5 x6 x7 (x8 + 1) else L2_X8_fewestLefts n s a2 a3 a4 a5 x6 x7 (x8 + 1)) else (if x8 < a4 then (if r - 1 < 0 then L2_X8_fewestLefts n (xup s 0 83 5 x8) a2 a3 a4 a5 0 (-1) (x8 + 1) else L2_X8_fewestLefts n (f_X8_goOn (xup s 0 83 5 x8) (a2 + x8) a5 (r - 1)).1 a2 a3 a4 a5 r (r - 1) (x8 + 1)) else L2_X8_fewestLefts n (xup s 0 83 5 x8) a2 a3 a4 a5 r (r - 1) (x8 + 1)) := by
      show g3l_X8_fewestLefts (L2_X8_fewestLefts n) s a2 a3 a4 a5 x6 x7 x8 = _
      simp only [f_X8_fewestLefts, g1c_X8_fewestLefts, g3l_X8_fewestLefts, g4b_X8_fewestLefts, g5_X8_fewestLefts, g6_X8_fewestLefts, g7b_X8_fewestLefts, g8_X8_fewestLefts, g9_X8_fewestLefts, g10c_X8_fewestLefts, g11b_X8_fewestLefts, g12_X8_fewestLefts, g13_X8_fewestLefts, g14b_X8_fewestLefts, g15_X8_fewestLefts, g16_X8_fewestLefts, g17c_X8_fewestLefts, g18w_X8_fewestLefts, g19b_X8_fewestLefts, g20_X8_fewestLefts, g21_X8_fewestLefts, g22b_X8_fewestLefts, g23_X8_fewestLefts, g24_X8_fewestLefts, g25c_X8_fewestLefts, (low_q s a3 x7).1, ← hr]
    have S5 : SQ 0 (xup s 0 83 5 x8) := by
      obtain ⟨a, b, t, H, Sb, Sa⟩ := S.ex
      exact SQ_of (H.fr (xup_t (by decide)) (xup_t (by decide)) (xup_k (by decide))) (fun j hj => by rw [xup_t (by decide)]; exact Sb j hj) (fun j hj => by rw [xup_t (by decide)]; exact Sa j hj)
    rw [e]
    split
    · exact S
    · split
      · exact S
      · split
        · split
          · exact fl2 n _ _ _ _ h7 (goOn_q (by omega) S)
          · exact fl2 n _ _ _ _ h7 S
        · split
          · split
            · exact fl2 n _ _ _ _ (by decide) S5
            · exact fl2 n _ _ _ _ (by omega) (goOn_q (by omega) S5)
          · exact fl2 n _ _ _ _ (by omega) S5
theorem fl_q {s : XS} {a1 a2 a3 a4 a5 : Int} (S : SQ 0 s) : SQ 0 (f_X8_fewestLefts s a1 a2 a3 a4 a5).1 := fl2 _ _ _ _ _ (by decide) (begin_q S)
theorem fill24 {i0 : Nat} {a1 : Int} : ∀ (n : Nat) (s : XS) (x : Int) (T c k : Nat), c ≠ i0 → (L1_J7_fill_53178_24 n s i0 a1 x).1 T c k = s T c k
  | 0, s, x, T, c, k, _ => rfl
  | n + 1, s, x, T, c, k, h => by
    have e : L1_J7_fill_53178_24 (n + 1) s i0 a1 x = if x < 121 then L1_J7_fill_53178_24 n (xup s 1 i0 (Int.toNat x) a1) i0 a1 (x + 1) else (s, 0) := by
      show g2l_J7_fill_53178_24 (L1_J7_fill_53178_24 n) s i0 a1 x = _
      simp only [g2l_J7_fill_53178_24, g3b_J7_fill_53178_24, g4_J7_fill_53178_24, g5_J7_fill_53178_24, g6w_J7_fill_53178_24]
    rw [e]
    split
    · rw [fill24 n _ (x + 1) T c k h, xup_c h]
    · rfl
theorem sv8 {R : XS → Int → Int → XR} {a2 x3 : Int} (hR : ∀ s, SQ 0 s → SQ 0 (R s a2 (x3 + 1)).1) (hR' : ∀ s, SQ 0 s → SQ 0 (R s a2 61).1) (h2 : 0 ≤ a2 ∧ a2 ≤ 120) : ∀ (n : Nat) (s : XS) (x : Int), SQ 0 s → SQ 0 (L8_X8_survey R n s a2 x3 x).1
  | 0, s, x, S => S
  | n + 1, s, x, S => by
    have e : ∃ v, L8_X8_survey R (n + 1) s a2 x3 x = if s 0 83 4 < x then (if x3 < 60 then R (f_X8_goOn s x3 0 a2).1 a2 (x3 + 1) else R s a2 (60 + 1)) else L8_X8_survey R n (xup s 1 86 (Int.toNat x) v) a2 x3 (x + 1) := by
      refine ⟨Xior (s 1 86 (Int.toNat x)) (f_X8_anyHeading s x).2, ?_⟩
      show g9l_X8_survey R (L8_X8_survey R n) s a2 x3 x = _
      simp only [g9l_X8_survey, g10b_X8_survey, g11_X8_survey, g12_X8_survey, g13b_X8_survey, g14_X8_survey, g15_X8_survey, g16c_X8_survey, g17c_X8_survey, g18w_X8_survey, f_X8_anyHeading]
    obtain ⟨v, e⟩ := e
    rw [e]
    split
    · split
      · exact hR _ (goOn_q h2 S)
      · exact hR' _ S
    · exact sv8 hR hR' h2 n _ (x + 1) (S.of8 (fun t c k q1 q2 => xup_c (by omega)))
theorem sv3 {a2 : Int} (h2 : 0 ≤ a2 ∧ a2 ≤ 120) : ∀ (n : Nat) (s : XS) (x : Int), SQ 0 s → SQ 0 (L3_X8_survey n s a2 x).1
  | 0, s, x, S => S
  | n + 1, s, x, S => by
    have e : L3_X8_survey (n + 1) s a2 x = if 60 < x then (s, 0) else L8_X8_survey (L3_X8_survey n) (Int.toNat (121 - 0 + 1)) s a2 x 0 := by
      show g4l_X8_survey (L3_X8_survey n) s a2 x = _
      simp only [g4l_X8_survey, g5b_X8_survey, g6_X8_survey, g7_X8_survey]
    rw [e]
    split
    · exact S
    · exact sv8 (fun u hu => sv3 h2 n u _ hu) (fun u hu => sv3 h2 n u _ hu) h2 _ s 0 S
theorem sv_q {s : XS} {a1 a2 : Int} (h2 : 0 ≤ a2 ∧ a2 ≤ 120) (S : SQ 0 s) : SQ 0 (f_X8_survey s a1 a2).1 := by
  have e1 : f_J7_fill_53178_24 s 86 0 = L1_J7_fill_53178_24 (Int.toNat (121 - 0 + 1)) s 86 0 0 := rfl
  have S1 : SQ 0 (f_J7_fill_53178_24 s 86 0).1 := by
    rw [e1]
    exact S.of8 (fun t c k q1 q2 => fill24 (Int.toNat (121 - 0 + 1)) s 0 t c k (by omega))
  have e : f_X8_survey s a1 a2 = L3_X8_survey (Int.toNat (61 - 0 + 1)) (f_X8_begin (f_J7_fill_53178_24 s 86 0).1 a1).1 a2 0 := rfl
  rw [e]
  exact sv3 h2 (Int.toNat (61 - 0 + 1)) _ 0 (begin_q S1)
theorem re_ll {a2 : Int} : ∀ (n : Nat) (s : XS) (x3 x4 : Int), (L2_X8_reachable n s a2 x3 x4).1 = s
  | 0, s, x3, x4 => rfl
  | n + 1, s, x3, x4 => by
    have e : L2_X8_reachable (n + 1) s a2 x3 x4 = if a2 < x4 then (s, x3) else L2_X8_reachable n s a2 (Xior x3 (s 1 86 (Int.toNat x4))) (x4 + 1) := by
      show g3l_X8_reachable (L2_X8_reachable n) s a2 x3 x4 = _
      simp only [g3l_X8_reachable, g4b_X8_reachable, g5_X8_reachable, g6_X8_reachable]
    rw [e]
    split
    · rfl
    · exact re_ll n s _ _
theorem re_q {s : XS} {a1 a2 : Int} (h2 : 0 ≤ a2 ∧ a2 ≤ 120) (S : SQ 0 s) : SQ 0 (f_X8_reachable s a1 a2).1 := by
  have e : f_X8_reachable s a1 a2 = L2_X8_reachable (Int.toNat (121 - 0 + 1)) (f_X8_survey s a1 a2).1 a2 0 0 := rfl
  rw [e, re_ll]
  exact sv_q h2 S
