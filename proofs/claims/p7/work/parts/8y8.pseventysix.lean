/-! what one still needs, all rows: the reference -/
def FrSb (u m : XS) : Prop := ∀ t c k, ¬ (t = 1 ∧ c = 9) → u t c k = m t c k
theorem FrSb.rf {m : XS} : FrSb m m := fun _ _ _ _ => rfl
theorem FrSb.tr {x y z : XS} (h : FrSb x y) (g : FrSb y z) : FrSb x z := fun t c k q => (h t c k q).trans (g t c k q)
theorem FrSb.up {m : XS} {k : Nat} {v : Int} : FrSb (xup m 1 9 k v) m := fun t c' k' q => if_neg (fun y => q ⟨y.1, y.2.1⟩)
theorem FrSb.ll {v m : XS} (F : FrSb v m) {A : Nat → Int} {mo : Nat → Prop} {N H0 hh : Nat} (W : LLo A mo N H0 hh m) : LLo A mo N H0 hh v := fun i hi c hc => by
  obtain ⟨q1, q2⟩ := W i hi c hc
  refine ⟨by rw [F _ _ _ (by omega)]; exact q1, fun d hd => by rw [F _ _ _ (by omega)]; exact q2 d hd⟩
theorem st_1 {s m : XS} {w h : Nat} (L : Ld s (m 1 1) w h) {cc len : Nat} : ∀ (n x : Nat) (v : XS), FrSb v m → (∀ y, y < x → v 1 9 (100 * len + y) = if y / 4 = cc then 0 else 1000000000) → x ≤ 4 * (w * h) → 4 * (w * h) < x + n → ∃ u, L1_X12_laysStill n v (cc : Int) (len : Int) (x : Int) = g5_X12_laysStill u (len : Int) ∧ FrSb u m ∧ ∀ y, y < 4 * (w * h) → u 1 9 (100 * len + y) = if y / 4 = cc then 0 else 1000000000 := by
  intro n
  induction n with
  | zero => intro x v _ _ h1 h2; omega
  | succ n ih =>
    intro x v F V h1 h2
    have vr : v 1 1 = m 1 1 := funext fun k => F _ _ _ (by omega)
    have ewh : v 1 1 1 * v 1 1 2 = ((w * h : Nat) : Int) := by rw [vr, L.2.1.2.2.1, L.2.1.2.2.2, Int.natCast_mul]
    have e : L1_X12_laysStill (n + 1) v (cc : Int) (len : Int) (x : Int) = if x < 4 * (w * h) then L1_X12_laysStill n (xup v 1 9 (100 * len + x) (if x / 4 = cc then 0 else 1000000000)) (cc : Int) (len : Int) ((x + 1 : Nat) : Int) else g5_X12_laysStill v (len : Int) := by
      show g2l_X12_laysStill (L1_X12_laysStill n) v (cc : Int) (len : Int) (x : Int) = _
      simp only [g2l_X12_laysStill, g3c_X12_laysStill, g4b_X12_laysStill, g6_X12_laysStill, g20b_X12_laysStill, g21_X12_laysStill, g22_X12_laysStill, g23w_X12_laysStill, g24w_X12_laysStill, f_X12_crossings, show Int.toNat 1 = 1 from rfl, show Int.toNat 2 = 2 from rfl, ewh, show Int.toNat ((100 * (len : Int)) + (x : Int)) = 100 * len + x by omega]
      by_cases z : x < 4 * (w * h)
      · rw [if_pos z, if_pos (by omega)]
        by_cases y : x / 4 = cc
        · rw [if_pos y, if_pos (by omega)]
          rfl
        · rw [if_neg y, if_neg (by omega)]
          rfl
      · rw [if_neg z, if_neg (by omega)]
    rw [e]
    by_cases z : x < 4 * (w * h)
    · rw [if_pos z]
      refine ih (x + 1) _ (FrSb.up.tr F) (fun y hy => ?_) (by omega) (by omega)
      by_cases q : y = x
      · rw [q, xup_s]
      · rw [xup_k (by omega)]
        exact V y (by omega)
    · rw [if_neg z]
      exact ⟨v, rfl, F, fun y hy => V y (by omega)⟩
theorem st_r {s m : XS} {w h : Nat} (L : Ld s (m 1 1) w h) {t0 hh i j tE cc : Nat} (W : LLo (m 1 1) noM (w * h) t0 hh m) (hi : i ≤ hh) (ht : tE - (j + 1) = t0 + i) (h60 : j < 60) {R47 : XS → Int → XR} : ∀ (n x : Nat) (v : XS), FrSb v m → (∀ y, y < 4 * (w * h) → StV (m 1 1) tE cc j y (v 1 9 (100 * (i + 1) + y))) → (∀ y, y < x → StV (m 1 1) tE cc (j + 1) y (v 1 9 (100 * i + y))) → x ≤ 4 * (w * h) → 4 * (w * h) < x + n → ∃ u, L12_X12_laysStill R47 n v (i : Int) (x : Int) = R47 u ((i : Int) + -1) ∧ FrSb u m ∧ (∀ y, y < 4 * (w * h) → StV (m 1 1) tE cc (j + 1) y (u 1 9 (100 * i + y))) ∧ ∀ k, ¬ (100 * i ≤ k ∧ k < 100 * i + 100) → u 1 9 k = v 1 9 k := by
  have b25 := L.b25
  intro n
  induction n with
  | zero => intro x v _ _ _ h1 h2; omega
  | succ n ih =>
    intro x v F V1 V2 h1 h2
    have vr : v 1 1 = m 1 1 := funext fun k => F _ _ _ (by omega)
    have ewh : v 1 1 1 * v 1 1 2 = ((w * h : Nat) : Int) := by rw [vr, L.2.1.2.2.1, L.2.1.2.2.2, Int.natCast_mul]
    by_cases z : x < 4 * (w * h)
    · obtain ⟨r, r1, r2⟩ := sb_x (m := v) (by rw [vr]; exact L) (by rw [vr]; exact F.ll W) hi ht h60 (by rw [vr]; exact V1) z
      rw [vr] at r2
      have e : L12_X12_laysStill R47 (n + 1) v (i : Int) (x : Int) = L12_X12_laysStill R47 n (xup v 1 9 (100 * i + x) r) (i : Int) ((x + 1 : Nat) : Int) := by
        show g13l_X12_laysStill R47 (L12_X12_laysStill R47 n) v (i : Int) (x : Int) = _
        simp only [g13l_X12_laysStill, g14c_X12_laysStill, g15b_X12_laysStill, g17_X12_laysStill, g18c_X12_laysStill, g19w_X12_laysStill, f_X12_crossings, show Int.toNat 1 = 1 from rfl, show Int.toNat 2 = 2 from rfl, ewh, r1, show Int.toNat ((100 * (i : Int)) + (x : Int)) = 100 * i + x by omega]
        rw [if_pos (by omega)]
        rfl
      rw [e]
      obtain ⟨u, u1, u2, u3, u4⟩ := ih (x + 1) (xup v 1 9 (100 * i + x) r) (FrSb.up.tr F) (fun y hy => by rw [xup_k (by omega)]; exact V1 y hy) (fun y hy => by
        by_cases q : y = x
        · rw [q, xup_s]; exact r2
        · rw [xup_k (by omega)]; exact V2 y (by omega)) (by omega) (by omega)
      exact ⟨u, u1, u2, u3, fun k hk => by rw [u4 k hk, xup_k (by omega)]⟩
    · refine ⟨v, ?_, F, fun y hy => V2 y (by omega), fun _ _ => rfl⟩
      show g13l_X12_laysStill R47 (L12_X12_laysStill R47 n) v (i : Int) (x : Int) = _
      simp only [g13l_X12_laysStill, g14c_X12_laysStill, g15b_X12_laysStill, g16_X12_laysStill, f_X12_crossings, show Int.toNat 1 = 1 from rfl, show Int.toNat 2 = 2 from rfl, ewh]
      rw [if_neg (by omega)]
theorem still_x {s m : XS} {w h : Nat} (L : Ld s (m 1 1) w h) {t0 hh len cc : Nat} (W : LLo (m 1 1) noM (w * h) t0 hh m) (hl : len ≤ hh) (h60 : len ≤ 60) : ∃ u, f_X12_laysStill m (cc : Int) (len : Int) = (u, 0) ∧ FrSb u m ∧ ∀ i, i ≤ len → ∀ y, y < 4 * (w * h) → StV (m 1 1) (t0 + len) cc (len - i) y (u 1 9 (100 * i + y)) := by
  have b25 := L.b25
  obtain ⟨v, v1, v2, v3⟩ := st_1 L (cc := cc) (len := len) (Int.toNat (100 - 0 + 1)) 0 m FrSb.rf (fun y hy => absurd hy (by omega)) (by omega) (by show 4 * (w * h) < 0 + 101; omega)
  have e0 : f_X12_laysStill m (cc : Int) (len : Int) = g5_X12_laysStill v (len : Int) := v1
  rw [e0]
  have key : ∀ (n p : Nat) (x3 : Int) (y : XS), x3 = (p : Int) - 1 → FrSb y m → p ≤ len → p < n → (∀ i, p ≤ i → i ≤ len → ∀ z, z < 4 * (w * h) → StV (m 1 1) (t0 + len) cc (len - i) z (y 1 9 (100 * i + z))) → ∃ u, L7_X12_laysStill n y x3 = (u, 0) ∧ FrSb u m ∧ ∀ i, i ≤ len → ∀ z, z < 4 * (w * h) → StV (m 1 1) (t0 + len) cc (len - i) z (u 1 9 (100 * i + z)) := by
    intro n
    induction n with
    | zero => intro p x3 y _ _ h1 h2; omega
    | succ n ih =>
      intro p x3 y hx F h1 h2 D
      have e : L7_X12_laysStill (n + 1) y x3 = if x3 < 0 then (y, 0) else L12_X12_laysStill (L7_X12_laysStill n) (Int.toNat (100 - 0 + 1)) y x3 0 := by
        show g8l_X12_laysStill (L7_X12_laysStill n) y x3 = _
        simp only [g8l_X12_laysStill, g9b_X12_laysStill, g10_X12_laysStill, g11_X12_laysStill]
      rw [e]
      by_cases z : p = 0
      · rw [if_pos (by omega)]
        exact ⟨y, rfl, F, fun i hi => D i (by omega) hi⟩
      · rw [if_neg (by omega)]
        obtain ⟨i, hi⟩ : ∃ i, p = i + 1 := ⟨p - 1, by omega⟩
        have ex : x3 = (i : Int) := by omega
        rw [ex]
        obtain ⟨u, u1, u2, u3, u4⟩ := st_r L W (i := i) (j := len - (i + 1)) (tE := t0 + len) (cc := cc) (by omega) (by omega) (by omega) (R47 := L7_X12_laysStill n) (Int.toNat (100 - 0 + 1)) 0 y F (fun z' hz => D (i + 1) (by omega) (by omega) z' hz) (fun z' hz => absurd hz (by omega)) (by omega) (by show 4 * (w * h) < 0 + 101; omega)
        have u1' : L12_X12_laysStill (L7_X12_laysStill n) (Int.toNat (100 - 0 + 1)) y (i : Int) 0 = L7_X12_laysStill n u ((i : Int) + -1) := u1
        rw [u1']
        refine ih i _ u (by omega) u2 (by omega) (by omega) (fun i' h3 h4 z' hz => ?_)
        by_cases q : i' = i
        · have := u3 z' hz
          rw [show len - (i + 1) + 1 = len - i by omega] at this
          rw [q]
          exact this
        · rw [u4 _ (by omega)]
          exact D i' (by omega) h4 z' hz
  refine key (Int.toNat (((len : Int) - 1) - (-1) + 1)) len ((len : Int) - 1) v rfl v2 (Nat.le_refl _) (by omega) (fun i h1 h2 z hz => ?_)
  have il : i = len := by omega
  rw [il, v3 z hz, Nat.sub_self]
  unfold StV
  by_cases q : z / 4 = cc
  · rw [if_pos q]
    exact Or.inr ⟨0, by decide, rfl, ⟨q, rfl⟩, fun l' r => absurd r (by omega)⟩
  · rw [if_neg q]
    exact Or.inl ⟨rfl, fun l p => q p.1⟩
