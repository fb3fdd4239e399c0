/-! by rights: the reference's sets -/
def stP (A : Nat → Int) (N : Nat) (P : Nat → Prop) (j : Nat) : Prop := ∃ x t, x < 4 * N ∧ t < 2 ∧ P x ∧ sF A (x / 4) (tdr (x % 4) t) ≠ -1 ∧ (j : Int) = 4 * sF A (x / 4) (tdr (x % 4) t) + ((tdr (x % 4) t : Nat) : Int)
def FrB (v m : XS) : Prop := ∀ T c k, ¬ (T = 1 ∧ (c = 16 ∨ c = 17)) → v T c k = m T c k
theorem FrB.rf {m : XS} : FrB m m := fun _ _ _ _ => rfl
theorem FrB.tr {x y z : XS} (h : FrB x y) (g : FrB y z) : FrB x z := fun T c k q => (h T c k q).trans (g T c k q)
theorem FrB.row {v m : XS} (h : FrB v m) : v 1 1 = m 1 1 := funext fun k => h _ _ _ (by omega)
theorem b25_l {R : XS → Int → Int → XR} {r x4 : Int} : ∀ (n : Nat) (m : XS) (x : Int), 0 ≤ x → x ≤ 100 → 100 - x < (n : Int) → ∃ v, L25_X12_byRights R n m r x4 x = g28_X12_byRights R v r x4 ∧ ∀ T c k, v T c k = if T = 1 ∧ c = 17 ∧ x ≤ (k : Int) ∧ (k : Int) < 100 then 0 else m T c k
  | 0, m, x, h0, h1, hn => by omega
  | n + 1, m, x, h0, h1, hn => by
    have e : L25_X12_byRights R (n + 1) m r x4 x = if x < 100 then L25_X12_byRights R n (xup m 1 17 (Int.toNat x) 0) r x4 (x + 1) else g28_X12_byRights R m r x4 := by
      show g26l_X12_byRights R (L25_X12_byRights R n) m r x4 x = _
      simp only [g26l_X12_byRights, g27b_X12_byRights, g29_X12_byRights, g64w_X12_byRights]
    rw [e]
    by_cases z : x < 100
    · rw [if_pos z]
      obtain ⟨v, v1, v2⟩ := b25_l (R := R) (r := r) (x4 := x4) n (xup m 1 17 (Int.toNat x) 0) (x + 1) (by omega) (by omega) (by omega)
      refine ⟨v, v1, fun T c k => ?_⟩
      rw [v2]
      unfold xup
      (repeat' split) <;> first | rfl | (exfalso; omega)
    · rw [if_neg z]
      exact ⟨m, rfl, fun T c k => by rw [if_neg (fun q => by omega)]⟩
theorem b36_l {R : XS → Int → Int → XR} {r x4 : Int} : ∀ (n : Nat) (m : XS) (x : Int), 0 ≤ x → x ≤ 100 → 100 - x < (n : Int) → ∃ v, L36_X12_byRights R n m r x4 x = g39_X12_byRights R v r x4 ∧ ∀ T c k, v T c k = if T = 1 ∧ c = 16 ∧ x ≤ (k : Int) ∧ (k : Int) < 100 then m 1 17 k else m T c k
  | 0, m, x, h0, h1, hn => by omega
  | n + 1, m, x, h0, h1, hn => by
    have e : L36_X12_byRights R (n + 1) m r x4 x = if x < 100 then L36_X12_byRights R n (xup m 1 16 (Int.toNat x) (m 1 17 (Int.toNat x))) r x4 (x + 1) else g39_X12_byRights R m r x4 := by
      show g37l_X12_byRights R (L36_X12_byRights R n) m r x4 x = _
      simp only [g37l_X12_byRights, g38b_X12_byRights, g40_X12_byRights, g49w_X12_byRights]
    rw [e]
    by_cases z : x < 100
    · rw [if_pos z]
      obtain ⟨v, v1, v2⟩ := b36_l (R := R) (r := r) (x4 := x4) n (xup m 1 16 (Int.toNat x) (m 1 17 (Int.toNat x))) (x + 1) (by omega) (by omega) (by omega)
      refine ⟨v, v1, fun T c k => ?_⟩
      rw [v2]
      by_cases q : T = 1 ∧ c = 16 ∧ x ≤ (k : Int) ∧ (k : Int) < 100
      · rw [if_pos q]
        obtain ⟨rfl, rfl, q3, q4⟩ := q
        by_cases y : (k : Int) = x
        · rw [if_neg (by omega), show Int.toNat x = k by omega, xup_s]
        · rw [if_pos ⟨rfl, rfl, by omega, q4⟩, xup_c (by decide)]
      · rw [if_neg q, if_neg (fun y => q ⟨y.1, y.2.1, by omega, y.2.2.2⟩)]
        unfold xup
        exact if_neg (fun y => q ⟨y.1, y.2.1, by omega, by omega⟩)
    · rw [if_neg z]
      exact ⟨m, rfl, fun T c k => by rw [if_neg (fun q => by omega)]⟩
theorem b41_x {R : XS → Int → Int → XR} {m : XS} {to : Nat} {x4 : Int} (h01 : ∀ d, d < 4 → m 1 16 (4 * to + d) = 0 ∨ m 1 16 (4 * to + d) = 1) : g39_X12_byRights R m (to : Int) x4 = @ite XR (∃ d, d < 4 ∧ m 1 16 (4 * to + d) = 1) (Classical.propDecidable _) (m, x4) (R m (to : Int) (x4 + 1)) := by
  have st : ∀ (n d : Nat), d < 4 → L41_X12_byRights R (n + 1) m (to : Int) x4 (d : Int) = if m 1 16 (4 * to + d) = 0 then L41_X12_byRights R n m (to : Int) x4 ((d + 1 : Nat) : Int) else (m, x4) := fun n d hd => by
    show g42l_X12_byRights R (L41_X12_byRights R n) m (to : Int) x4 (d : Int) = _
    simp only [g42l_X12_byRights, g43b_X12_byRights, g45_X12_byRights, g46b_X12_byRights, g47_X12_byRights, g48_X12_byRights, show Int.toNat (4 * (to : Int) + (d : Int)) = 4 * to + d by omega]
    rw [if_pos (by omega)]
    rfl
  have fin : ∀ n, L41_X12_byRights R (n + 1) m (to : Int) x4 ((4 : Nat) : Int) = R m (to : Int) (x4 + 1) := fun n => by
    show g42l_X12_byRights R (L41_X12_byRights R n) m (to : Int) x4 ((4 : Nat) : Int) = _
    simp only [g42l_X12_byRights, g43b_X12_byRights, g44_X12_byRights]
    rw [if_neg (by decide)]
  have key : ∀ (n d : Nat), d ≤ 4 → 4 < d + n → (∀ e, e < d → m 1 16 (4 * to + e) = 0) → L41_X12_byRights R n m (to : Int) x4 (d : Int) = @ite XR (∃ d, d < 4 ∧ m 1 16 (4 * to + d) = 1) (Classical.propDecidable _) (m, x4) (R m (to : Int) (x4 + 1)) := by
    intro n
    induction n with
    | zero => intro d h1 h2; omega
    | succ n ih =>
      intro d h1 h2 h3
      by_cases z : d < 4
      · rw [st n d z]
        by_cases y : m 1 16 (4 * to + d) = 0
        · rw [if_pos y]
          refine ih (d + 1) (by omega) (by omega) (fun e he => ?_)
          by_cases ee : e = d
          · rw [ee]; exact y
          · exact h3 e (by omega)
        · rw [if_neg y, if_pos ⟨d, z, (h01 d z).resolve_left y⟩]
      · have d4 : d = 4 := by omega
        subst d4
        rw [fin, if_neg (fun q => by
          obtain ⟨e, e1, e2⟩ := q
          rw [h3 e e1] at e2
          cases e2)]
  exact key 5 0 (by decide) (by decide) (fun e he => by omega)
/-- one crossing and heading goes on -/
theorem b50_x {R : XS → Int → Int → XR} {Q : XS → Int → Int → Int → XR} {s m : XS} {w h : Nat} (L : Ld s (m 1 1) w h) {r x4 : Int} {x : Nat} (hx : x < 4 * (w * h)) : ∃ v, g35_X12_byRights R Q m r x4 (x : Int) = Q v r x4 ((x + 1 : Nat) : Int) ∧ (∀ T c k, ¬ (T = 1 ∧ c = 17) → v T c k = m T c k) ∧ ∀ k, v 1 17 k = @ite Int (m 1 16 x ≠ 0 ∧ ∃ t, t < 2 ∧ sF (m 1 1) (x / 4) (tdr (x % 4) t) ≠ -1 ∧ (k : Int) = 4 * sF (m 1 1) (x / 4) (tdr (x % 4) t) + ((tdr (x % 4) t : Nat) : Int)) (Classical.propDecidable _) 1 (m 1 17 k) := by
  have b25 := L.b25
  have e1 : (x : Int) % 4 = ((x % 4 : Nat) : Int) := by omega
  have e2 : (x : Int) / 4 = ((x / 4 : Nat) : Int) := by omega
  have hc : x / 4 < w * h := by omega
  have st : ∀ (n t : Nat) (v : XS), t < 2 → (∀ T c k, ¬ (T = 1 ∧ c = 17) → v T c k = m T c k) → L50_X12_byRights R Q (n + 1) v r x4 (x : Int) (t : Int) = if m 1 16 x = 0 then Q v r x4 ((x + 1 : Nat) : Int) else if sF (m 1 1) (x / 4) (tdr (x % 4) t) = -1 then L50_X12_byRights R Q n v r x4 (x : Int) ((t + 1 : Nat) : Int) else L50_X12_byRights R Q n (xup v 1 17 (Int.toNat (4 * sF (m 1 1) (x / 4) (tdr (x % 4) t) + ((tdr (x % 4) t : Nat) : Int))) 1) r x4 (x : Int) ((t + 1 : Nat) : Int) := fun n t v ht F => by
    have vr : v 1 1 = m 1 1 := funext fun k => F _ _ _ (by omega)
    have d1 := dirby_x v (h := x % 4) (t := t) (by omega) (by omega)
    have s1 := stF_x (m := v) (s := s) (w := w) (h := h) (by rw [vr]; exact L) hc (tdr_lt (x % 4) t)
    show g51l_X12_byRights R Q (L50_X12_byRights R Q n) v r x4 (x : Int) (t : Int) = _
    simp only [g51l_X12_byRights, g52b_X12_byRights, g54_X12_byRights, g55b_X12_byRights, g56_X12_byRights, g57_X12_byRights, g58c_X12_byRights, g59c_X12_byRights, g60b_X12_byRights, g61_X12_byRights, g62_X12_byRights, g63w_X12_byRights, e1, e2, d1, s1, vr, show Int.toNat (x : Int) = x from rfl, F 1 16 x (by omega)]
    rw [if_pos (by omega)]
    rfl
  have fin : ∀ n (v : XS), L50_X12_byRights R Q (n + 1) v r x4 (x : Int) ((2 : Nat) : Int) = Q v r x4 ((x + 1 : Nat) : Int) := fun n v => by
    show g51l_X12_byRights R Q (L50_X12_byRights R Q n) v r x4 (x : Int) ((2 : Nat) : Int) = _
    simp only [g51l_X12_byRights, g52b_X12_byRights, g53_X12_byRights]
    rw [if_neg (by decide)]
    rfl
  have e0 : g35_X12_byRights R Q m r x4 (x : Int) = L50_X12_byRights R Q 3 m r x4 (x : Int) ((0 : Nat) : Int) := rfl
  rw [e0, st 2 0 m (by decide) (fun _ _ _ _ => rfl)]
  by_cases z : m 1 16 x = 0
  · rw [if_pos z]
    exact ⟨m, rfl, fun _ _ _ _ => rfl, fun k => by rw [if_neg (fun q => q.1 z)]⟩
  · rw [if_neg z]
    have one : ∀ (n t : Nat) (v : XS), t < 2 → (∀ T c k, ¬ (T = 1 ∧ c = 17) → v T c k = m T c k) → ∃ u, L50_X12_byRights R Q (n + 1) v r x4 (x : Int) (t : Int) = L50_X12_byRights R Q n u r x4 (x : Int) ((t + 1 : Nat) : Int) ∧ (∀ T c k, ¬ (T = 1 ∧ c = 17) → u T c k = m T c k) ∧ ∀ k, u 1 17 k = @ite Int (sF (m 1 1) (x / 4) (tdr (x % 4) t) ≠ -1 ∧ (k : Int) = 4 * sF (m 1 1) (x / 4) (tdr (x % 4) t) + ((tdr (x % 4) t : Nat) : Int)) (Classical.propDecidable _) 1 (v 1 17 k) := fun n t v ht F => by
      rw [st n t v ht F, if_neg z]
      by_cases y : sF (m 1 1) (x / 4) (tdr (x % 4) t) = -1
      · rw [if_pos y]
        exact ⟨v, rfl, F, fun k => by rw [if_neg (fun q => q.1 y)]⟩
      · rw [if_neg y]
        refine ⟨_, rfl, fun T c k q => ?_, fun k => ?_⟩
        · rw [← F T c k q]
          unfold xup
          exact if_neg (fun p => q ⟨p.1, p.2.1⟩)
        · have b := (L.2.2.2.1 _ _ hc (tdr_lt (x % 4) t) y).2.1
          by_cases q : (k : Int) = 4 * sF (m 1 1) (x / 4) (tdr (x % 4) t) + ((tdr (x % 4) t : Nat) : Int)
          · rw [if_pos ⟨y, q⟩, ← q]
            exact xup_s
          · rw [if_neg (fun p => q p.2)]
            exact xup_k (fun p => q (by omega))
    have o0 := one 2 0 m (by decide) (fun _ _ _ _ => rfl)
    rw [st 2 0 m (by decide) (fun _ _ _ _ => rfl), if_neg z] at o0
    obtain ⟨u, u1, u2, u3⟩ := o0
    obtain ⟨v, v1, v2, v3⟩ := one 1 1 u (by decide) u2
    rw [u1, v1]
    refine ⟨v, fin 0 v, v2, fun k => ?_⟩
    rw [v3, u3]
    by_cases y1 : sF (m 1 1) (x / 4) (tdr (x % 4) 1) ≠ -1 ∧ (k : Int) = 4 * sF (m 1 1) (x / 4) (tdr (x % 4) 1) + ((tdr (x % 4) 1 : Nat) : Int)
    · rw [if_pos y1, if_pos ⟨z, 1, by decide, y1⟩]
    · rw [if_neg y1]
      by_cases y0 : sF (m 1 1) (x / 4) (tdr (x % 4) 0) ≠ -1 ∧ (k : Int) = 4 * sF (m 1 1) (x / 4) (tdr (x % 4) 0) + ((tdr (x % 4) 0 : Nat) : Int)
      · rw [if_pos y0, if_pos ⟨z, 0, by decide, y0⟩]
      · rw [if_neg y0, if_neg (fun q => by
          obtain ⟨-, t, t1, t2⟩ := q
          rcases (show t = 0 ∨ t = 1 by omega) with rfl | rfl
          · exact y0 t2
          · exact y1 t2)]
theorem b30_l {R : XS → Int → Int → XR} {s m : XS} {w h : Nat} (L : Ld s (m 1 1) w h) {r x4 : Int} {P : Nat → Prop} (hP : ∀ j, j < 100 → (m 1 16 j ≠ 0 ↔ P j)) : ∀ (n x : Nat) (v : XS), x ≤ 4 * (w * h) → 4 * (w * h) < x + n → (∀ T c k, ¬ (T = 1 ∧ c = 17) → v T c k = m T c k) → (∀ k, k < 100 → v 1 17 k = @ite Int (∃ y t, y < x ∧ t < 2 ∧ P y ∧ sF (m 1 1) (y / 4) (tdr (y % 4) t) ≠ -1 ∧ (k : Int) = 4 * sF (m 1 1) (y / 4) (tdr (y % 4) t) + ((tdr (y % 4) t : Nat) : Int)) (Classical.propDecidable _) 1 0) → ∃ u, L30_X12_byRights R n v r x4 (x : Int) = g34_X12_byRights R u r x4 ∧ (∀ T c k, ¬ (T = 1 ∧ c = 17) → u T c k = m T c k) ∧ ∀ k, k < 100 → u 1 17 k = @ite Int (stP (m 1 1) (w * h) P k) (Classical.propDecidable _) 1 0
  | 0, x, v, h1, h2, _, _ => by omega
  | n + 1, x, v, h1, h2, F, B => by
    have b25 := L.b25
    have vr : v 1 1 = m 1 1 := funext fun k => F _ _ _ (by omega)
    have Lv : Ld s (v 1 1) w h := by rw [vr]; exact L
    have ecr : v 1 1 1 * v 1 1 2 = ((w * h : Nat) : Int) := by rw [Lv.2.1.2.2.1, Lv.2.1.2.2.2, Int.natCast_mul]
    have e : L30_X12_byRights R (n + 1) v r x4 (x : Int) = if (x : Int) < 4 * (v 1 1 1 * v 1 1 2) then g35_X12_byRights R (L30_X12_byRights R n) v r x4 (x : Int) else g34_X12_byRights R v r x4 := rfl
    rw [e, ecr]
    by_cases z : x < 4 * (w * h)
    · rw [if_pos (by omega)]
      obtain ⟨u, u1, u2, u3⟩ := b50_x (R := R) (Q := L30_X12_byRights R n) (r := r) (x4 := x4) Lv z
      rw [u1]
      refine b30_l L hP n (x + 1) u (by omega) (by omega) (fun T c k q => (u2 T c k q).trans (F T c k q)) (fun k hk => ?_)
      have v16 : v 1 16 x = m 1 16 x := F _ _ _ (by omega)
      rw [u3, B k hk, vr, v16]
      have pe := hP x (by omega)
      by_cases q1 : m 1 16 x ≠ 0 ∧ ∃ t, t < 2 ∧ sF (m 1 1) (x / 4) (tdr (x % 4) t) ≠ -1 ∧ (k : Int) = 4 * sF (m 1 1) (x / 4) (tdr (x % 4) t) + ((tdr (x % 4) t : Nat) : Int)
      · obtain ⟨g0, t, g1, g2⟩ := q1
        rw [if_pos ⟨g0, t, g1, g2⟩, if_pos ⟨x, t, by omega, g1, pe.mp g0, g2⟩]
      · rw [if_neg q1]
        by_cases q2 : ∃ y t, y < x ∧ t < 2 ∧ P y ∧ sF (m 1 1) (y / 4) (tdr (y % 4) t) ≠ -1 ∧ (k : Int) = 4 * sF (m 1 1) (y / 4) (tdr (y % 4) t) + ((tdr (y % 4) t : Nat) : Int)
        · obtain ⟨y, t, g1, g2⟩ := q2
          rw [if_pos ⟨y, t, g1, g2⟩, if_pos ⟨y, t, by omega, g2⟩]
        · rw [if_neg q2, if_neg (fun q => by
            obtain ⟨y, t, g1, g2, g3, g4⟩ := q
            by_cases yx : y = x
            · subst yx
              exact q1 ⟨pe.mpr g3, t, g2, g4⟩
            · exact q2 ⟨y, t, by omega, g2, g3, g4⟩)]
    · rw [if_neg (by omega)]
      have xe : x = 4 * (w * h) := by omega
      refine ⟨v, rfl, F, fun k hk => ?_⟩
      rw [B k hk, xe]
      rfl
/-- a street on in the reference -/
theorem b20_x {s m : XS} {w h : Nat} (L : Ld s (m 1 1) w h) {to : Nat} (hto : to < w * h) {P : Nat → Prop} (hP : ∀ j, j < 100 → (m 1 16 j ≠ 0 ↔ P j)) {n x : Nat} (hx : x ≤ 60) : ∃ v, L20_X12_byRights (n + 1) m (to : Int) (x : Int) = @ite XR (∃ d, d < 4 ∧ stP (m 1 1) (w * h) P (4 * to + d)) (Classical.propDecidable _) (v, (x : Int)) (L20_X12_byRights n v (to : Int) ((x + 1 : Nat) : Int)) ∧ FrB v m ∧ ∀ j, j < 100 → v 1 16 j = @ite Int (stP (m 1 1) (w * h) P j) (Classical.propDecidable _) 1 0 := by
  have b25 := L.b25
  have e : L20_X12_byRights (n + 1) m (to : Int) (x : Int) = L25_X12_byRights (L20_X12_byRights n) (Int.toNat (100 - 0 + 1)) m (to : Int) (x : Int) 0 := by
    show g21l_X12_byRights (L20_X12_byRights n) m (to : Int) (x : Int) = _
    simp only [g21l_X12_byRights, g22b_X12_byRights, g24_X12_byRights]
    rw [if_neg (by omega)]
  obtain ⟨v1, a1, a2⟩ := b25_l (R := L20_X12_byRights n) (r := (to : Int)) (x4 := (x : Int)) (Int.toNat (100 - 0 + 1)) m 0 (by decide) (by decide) (by decide)
  rw [e, a1]
  have r1 : v1 1 1 = m 1 1 := funext fun k => by rw [a2, if_neg (by omega)]
  have a16 : ∀ j, v1 1 16 j = m 1 16 j := fun j => by rw [a2, if_neg (by omega)]
  have LS1 : Ld s (v1 1 1) w h := by rw [r1]; exact L
  have e2 : g28_X12_byRights (L20_X12_byRights n) v1 (to : Int) (x : Int) = L30_X12_byRights (L20_X12_byRights n) 101 v1 (to : Int) (x : Int) ((0 : Nat) : Int) := rfl
  rw [e2]
  obtain ⟨v2, c1, c2, c3⟩ := b30_l (R := L20_X12_byRights n) (r := (to : Int)) (x4 := (x : Int)) LS1 (P := P) (fun j hj => by rw [a16]; exact hP j hj) 101 0 v1 (by omega) (by omega) (fun _ _ _ _ => rfl) (fun k hk => by
    rw [a2, if_pos ⟨rfl, rfl, by omega, by omega⟩, if_neg (fun q => by
      obtain ⟨y, t, g1, -⟩ := q
      omega)])
  rw [c1]
  rw [r1] at c3
  have e3 : g34_X12_byRights (L20_X12_byRights n) v2 (to : Int) (x : Int) = L36_X12_byRights (L20_X12_byRights n) (Int.toNat (100 - 0 + 1)) v2 (to : Int) (x : Int) 0 := rfl
  obtain ⟨v3, d1, d2⟩ := b36_l (R := L20_X12_byRights n) (r := (to : Int)) (x4 := (x : Int)) (Int.toNat (100 - 0 + 1)) v2 0 (by decide) (by decide) (by decide)
  rw [e3, d1]
  have d16 : ∀ j, j < 100 → v3 1 16 j = @ite Int (stP (m 1 1) (w * h) P j) (Classical.propDecidable _) 1 0 := fun j hj => by
    rw [d2, if_pos ⟨rfl, rfl, by omega, by omega⟩, c3 j hj]
  have w1 : ∀ d, d < 4 → (v3 1 16 (4 * to + d) = 1 ↔ stP (m 1 1) (w * h) P (4 * to + d)) := fun d hd => by
    rw [d16 _ (by omega)]
    by_cases q : stP (m 1 1) (w * h) P (4 * to + d)
    · rw [if_pos q]
      exact ⟨fun _ => q, fun _ => rfl⟩
    · rw [if_neg q]
      exact ⟨fun y => absurd y (by decide), fun y => absurd y q⟩
  have w2 : ∀ d, d < 4 → v3 1 16 (4 * to + d) = 0 ∨ v3 1 16 (4 * to + d) = 1 := fun d hd => by
    rw [d16 _ (by omega)]
    by_cases q : stP (m 1 1) (w * h) P (4 * to + d)
    · rw [if_pos q]; exact Or.inr rfl
    · rw [if_neg q]; exact Or.inl rfl
  rw [b41_x w2]
  refine ⟨v3, ?_, fun T c k q => ?_, d16⟩
  · by_cases q : ∃ d, d < 4 ∧ stP (m 1 1) (w * h) P (4 * to + d)
    · obtain ⟨d, q1, q2⟩ := q
      rw [if_pos ⟨d, q1, (w1 d q1).mpr q2⟩, if_pos ⟨d, q1, q2⟩]
    · rw [if_neg (fun y => by
        obtain ⟨d, q1, q2⟩ := y
        exact q ⟨d, q1, (w1 d q1).mp q2⟩), if_neg q]
      rfl
  · rw [d2, if_neg (fun y => q ⟨y.1, Or.inl y.2.1⟩), c2 T c k (fun y => q ⟨y.1, Or.inr y.2⟩), a2, if_neg (fun y => q ⟨y.1, Or.inr y.2.1⟩)]
/-! by rights: both -/
/-- the class's sets: whoever is somewhere -/
def SP (a : Nat) (N : Nat) (P : Nat → Prop) (s : XS) : Prop := ∀ d, d < 4 → ∀ c, c < 32 → (bz (s 1 a d) c = true ↔ (c < N ∧ P (4 * c + d)))
theorem tdr_01 {d t : Nat} (hd : d < 4) (ht : t < 2) : tdr d t = (d + t) % 4 := by
  unfold tdr
  rcases (show t = 0 ∨ t = 1 by omega) with rfl | rfl <;> rfl
theorem l6_x {a b : Nat} {s : XS} {A : Nat → Int} {w h : Nat} (H : SB a b 0 s) (ha : ∀ j, 4 ≤ j → s 1 a j = 0) (hb : ∀ j, s 1 b j = 0) (L : Ld s A w h) {to : Nat} (hto : to < w * h) {P : Nat → Prop} (hP : SP a (w * h) P s) {n x : Nat} (hx : x ≤ 60) : ∃ u, L6_X8_leftByRights (n + 1) s (to : Int) (x : Int) = @ite XR (∃ d, d < 4 ∧ stP A (w * h) P (4 * to + d)) (Classical.propDecidable _) (u, (x : Int)) (L6_X8_leftByRights n u (to : Int) ((x + 1 : Nat) : Int)) ∧ SB b a 0 u ∧ (∀ j, 4 ≤ j → u 1 b j = 0) ∧ (∀ j, u 1 a j = 0) ∧ SP b (w * h) (stP A (w * h) P) u ∧ ∀ T c k, ¬ (T = 1 ∧ (c = 84 ∨ c = 85)) → ¬ (c = 83) → u T c k = s T c k := by
  have b25 := L.b25
  have hab := H.1
  obtain ⟨v, v1, v2, v3⟩ := gr_x H L (R := 0)
  have Fv : FrS b v s := fun T c k q => v2 T c k (fun y => q ⟨y.1, y.2.1⟩)
  have Hv := Fv.sb H
  obtain ⟨u, u1, u2, u3, u4, u5⟩ := change_x Hv (fun j hj => by rw [Fv _ _ _ (by omega)]; exact ha j (by omega)) (T := 0) (by decide)
  have any : f_X8_anyHeading u 0 = (u, Xior (Xior (Xior (u 1 b 0) (u 1 b 1)) (u 1 b 2)) (u 1 b 3)) := by
    have e : f_X8_anyHeading u 0 = (u, (Xior (Xior (Xior (u 1 (Int.toNat (u 3 83 2)) 0) (u 1 (Int.toNat (u 3 83 2)) 1)) (u 1 (Int.toNat (u 3 83 2)) 2)) (u 1 (Int.toNat (u 3 83 2)) 3))) := rfl
    rw [e, u2.ts]
  have S : SP b (w * h) (stP A (w * h) P) u := by
    intro e he k hk
    have q := v3 e he k hk
    rw [Nat.zero_add] at q
    rw [u4, q, hb, bz_0]
    constructor
    · rintro (y | ⟨c, d, t', g1, g2, g3, g4, g5, g6⟩)
      · cases y
      · rw [Nat.zero_add] at g6
        have p := (hP d g1 c (by omega)).mp g6
        have td : tdr d t' = e := (tdr_01 g1 g2).trans g3
        have sk := (L.2.2.2.1 c e g4 he (by omega)).2
        refine ⟨by omega, 4 * c + d, t', by omega, g2, p.2, ?_, ?_⟩
        · rw [show (4 * c + d) / 4 = c by omega, show (4 * c + d) % 4 = d by omega, td]
          omega
        · rw [show (4 * c + d) / 4 = c by omega, show (4 * c + d) % 4 = d by omega, td]
          omega
    · rintro ⟨y0, x, t', g1, g2, g3, g4, g5⟩
      have tl := tdr_lt (x % 4) t'
      have eq : tdr (x % 4) t' = e := by omega
      rw [eq] at g4 g5
      refine Or.inr ⟨x / 4, x % 4, t', by omega, g2, ?_, by omega, by omega, ?_⟩
      · rw [← tdr_01 (by omega) g2]; exact eq
      · rw [Nat.zero_add]
        refine (hP _ (by omega) _ (by omega)).mpr ⟨by omega, ?_⟩
        rw [show 4 * (x / 4) + x % 4 = x by omega]
        exact g3
  have tst : bz (Xior (Xior (Xior (u 1 b 0) (u 1 b 1)) (u 1 b 2)) (u 1 b 3)) to = true ↔ ∃ d, d < 4 ∧ stP A (w * h) P (4 * to + d) := by
    have t4 : ∀ d, d < 4 → (bz (u 1 b d) to = true ↔ stP A (w * h) P (4 * to + d)) := fun d hd => by
      rw [S d hd to (by omega)]
      exact ⟨fun y => y.2, fun y => ⟨hto, y⟩⟩
    rw [bz_ior, bz_ior, bz_ior, Bool.or_eq_true, Bool.or_eq_true, Bool.or_eq_true, t4 0 (by decide), t4 1 (by decide), t4 2 (by decide), t4 3 (by decide)]
    constructor
    · rintro (((y | y) | y) | y)
      · exact ⟨0, by decide, y⟩
      · exact ⟨1, by decide, y⟩
      · exact ⟨2, by decide, y⟩
      · exact ⟨3, by decide, y⟩
    · rintro ⟨d, y1, y2⟩
      rcases (show d = 0 ∨ d = 1 ∨ d = 2 ∨ d = 3 by omega) with rfl | rfl | rfl | rfl
      · exact Or.inl (Or.inl (Or.inl y2))
      · exact Or.inl (Or.inl (Or.inr y2))
      · exact Or.inl (Or.inr y2)
      · exact Or.inr y2
  have e : L6_X8_leftByRights (n + 1) s (to : Int) (x : Int) = if (if bz (Xior (Xior (Xior (u 1 b 0) (u 1 b 1)) (u 1 b 2)) (u 1 b 3)) to = true then (1 : Int) else 0) = 0 then L6_X8_leftByRights n u (to : Int) ((x : Int) + 1) else (u, (x : Int)) := by
    show g7l_X8_leftByRights (L6_X8_leftByRights n) s (to : Int) (x : Int) = _
    have v1' : f_X8_goByRights s 0 = (v, 0) := v1
    have u1' : f_X8_change v 0 = (u, 0) := u1
    simp only [g7l_X8_leftByRights, g8b_X8_leftByRights, g10_X8_leftByRights, g11c_X8_leftByRights, g12c_X8_leftByRights, g13c_X8_leftByRights, g14b_X8_leftByRights, g15_X8_leftByRights, g16_X8_leftByRights, v1', u1', any, bz_tst (show to < 32 by omega)]
    rw [if_neg (by omega)]
  refine ⟨u, ?_, u2, fun j hj => ?_, u3, S, fun T c k q1 q2 => ?_⟩
  · rw [e]
    by_cases q : ∃ d, d < 4 ∧ stP A (w * h) P (4 * to + d)
    · rw [if_pos (tst.mpr q), if_neg (by decide), if_pos q]
    · rw [if_neg (fun y => q (tst.mp y)), if_pos rfl, if_neg q]
      rfl
  · rw [u4, v2 _ _ _ (by omega)]
    exact hb j
  · have z1 : ¬ (T = 1 ∧ c = a) := fun y => q1 ⟨y.1, by rw [y.2]; exact hab.elim (fun z => Or.inl z.1) (fun z => Or.inr z.1)⟩
    have z2 : ¬ (T = 1 ∧ c = b ∧ 0 ≤ k ∧ k < 0 + 4) := fun y => q1 ⟨y.1, by rw [y.2.1]; exact hab.elim (fun z => Or.inr z.2) (fun z => Or.inl z.2)⟩
    exact (u5 T c k z1 q2).trans (v2 T c k z2)
theorem br_l {w h to : Nat} : ∀ (n x : Nat) (s m : XS) (a b : Nat) (P : Nat → Prop), SB a b 0 s → (∀ j, 4 ≤ j → s 1 a j = 0) → (∀ j, s 1 b j = 0) → Ld s (m 1 1) w h → to < w * h → SP a (w * h) P s → (∀ j, P j → j < 4 * (w * h)) → (∀ j, j < 100 → (m 1 16 j ≠ 0 ↔ P j)) → x ≤ 61 → 61 < x + n → ∃ u v r, L6_X8_leftByRights n s (to : Int) (x : Int) = (u, r) ∧ L20_X12_byRights n m (to : Int) (x : Int) = (v, r) ∧ SQ 0 u ∧ (∀ T c k, ¬ (T = 1 ∧ (c = 84 ∨ c = 85)) → ¬ (c = 83) → u T c k = s T c k) ∧ FrB v m
  | 0, x, s, m, a, b, P, _, _, _, _, _, _, _, _, h1, h2 => by omega
  | n + 1, x, s, m, a, b, P, H, ha, hb, L, hto, hP, hN, hM, h1, h2 => by
    by_cases z : x ≤ 60
    · obtain ⟨u, u1, u2, u3, u4, u5, u6⟩ := l6_x (n := n) H ha hb L hto hP z
      obtain ⟨v, v1, v2, v3⟩ := b20_x (n := n) L hto hM z
      rw [u1, v1]
      by_cases q : ∃ d, d < 4 ∧ stP (m 1 1) (w * h) P (4 * to + d)
      · rw [if_pos q, if_pos q]
        exact ⟨u, v, _, rfl, rfl, SQ_of u2 (fun j _ => u4 j) (fun j hj => u3 j (by omega)), u6, v2⟩
      · rw [if_neg q, if_neg q]
        have vr := v2.row
        have Lu : Ld u (v 1 1) w h := by
          rw [vr]
          exact L.fr (u6 _ _ _ (by omega) (by omega)) (u6 _ _ _ (by omega) (by omega)) (funext fun k => u6 _ _ _ (by omega) (by omega)) (funext fun k => u6 _ _ _ (by omega) (by omega))
        obtain ⟨y, y', r, i1, i2, i3, i4, i5⟩ := br_l n (x + 1) u v b a (stP (m 1 1) (w * h) P) u2 u3 u4 Lu hto u5 (fun j hj => by
          obtain ⟨x', t, g1, g2, g3, g4, g5⟩ := hj
          have tl := tdr_lt (x' % 4) t
          have sk := (L.2.2.2.1 (x' / 4) _ (by omega) tl g4).2
          omega) (fun j hj => by
          rw [v3 j hj]
          by_cases p : stP (m 1 1) (w * h) P j
          · rw [if_pos p]
            exact ⟨fun _ => p, fun _ => by decide⟩
          · rw [if_neg p]
            exact ⟨fun y => absurd rfl y, fun y => absurd y p⟩) (by omega) (by omega)
        exact ⟨y, y', r, i1, i2, i3, fun T c k q1 q2 => (i4 T c k q1 q2).trans (u6 T c k q1 q2), i5.tr v2⟩
    · have x61 : x = 61 := by omega
      subst x61
      have e1 : L6_X8_leftByRights (n + 1) s (to : Int) ((61 : Nat) : Int) = (s, -1) := by
        show g7l_X8_leftByRights (L6_X8_leftByRights n) s (to : Int) ((61 : Nat) : Int) = _
        simp only [g7l_X8_leftByRights, g8b_X8_leftByRights, g9_X8_leftByRights]
        rw [if_pos (by decide)]
      have e2 : L20_X12_byRights (n + 1) m (to : Int) ((61 : Nat) : Int) = (m, -1) := by
        show g21l_X12_byRights (L20_X12_byRights n) m (to : Int) ((61 : Nat) : Int) = _
        simp only [g21l_X12_byRights, g22b_X12_byRights, g23_X12_byRights]
        rw [if_pos (by decide)]
      exact ⟨s, m, -1, e1, e2, SQ_of H (fun j _ => hb j) (fun j hj => ha j (by omega)), fun _ _ _ _ _ => rfl, FrB.rf⟩
/-- the reference's start: one crossing and heading -/
theorem b15_l {a1 a2 r : Int} : ∀ (n : Nat) (m : XS) (x : Int), 0 ≤ x → x ≤ 100 → 100 - x < (n : Int) → ∃ v, L15_X12_byRights n m a1 a2 r x = g18_X12_byRights v r ∧ ∀ T c k, v T c k = if T = 1 ∧ c = 16 ∧ x ≤ (k : Int) ∧ (k : Int) < 100 then (if (k : Int) = 4 * a1 + a2 then 1 else 0) else m T c k
  | 0, m, x, h0, h1, hn => by omega
  | n + 1, m, x, h0, h1, hn => by
    have e : L15_X12_byRights (n + 1) m a1 a2 r x = if x < 100 then L15_X12_byRights n (xup m 1 16 (Int.toNat x) (if x = 4 * a1 + a2 then 1 else 0)) a1 a2 r (x + 1) else g18_X12_byRights m r := by
      show g16l_X12_byRights (L15_X12_byRights n) m a1 a2 r x = _
      simp only [g16l_X12_byRights, g17b_X12_byRights, g19_X12_byRights, g65b_X12_byRights, g66_X12_byRights, g67_X12_byRights, g68w_X12_byRights, g69w_X12_byRights]
      by_cases z : x < 100
      · rw [if_pos z, if_pos z]
        by_cases y : x = 4 * a1 + a2
        · rw [if_pos y, if_pos y]
        · rw [if_neg y, if_neg y]
      · rw [if_neg z, if_neg z]
    rw [e]
    by_cases z : x < 100
    · rw [if_pos z]
      obtain ⟨v, v1, v2⟩ := b15_l (a1 := a1) (a2 := a2) (r := r) n (xup m 1 16 (Int.toNat x) (if x = 4 * a1 + a2 then 1 else 0)) (x + 1) (by omega) (by omega) (by omega)
      refine ⟨v, v1, fun T c k => ?_⟩
      rw [v2]
      by_cases q : T = 1 ∧ c = 16 ∧ x ≤ (k : Int) ∧ (k : Int) < 100
      · rw [if_pos q]
        obtain ⟨rfl, rfl, q3, q4⟩ := q
        by_cases y : (k : Int) = x
        · rw [if_neg (by omega), show Int.toNat x = k by omega, xup_s, y]
        · rw [if_pos ⟨rfl, rfl, by omega, q4⟩]
      · rw [if_neg q, if_neg (fun y => q ⟨y.1, y.2.1, by omega, y.2.2.2⟩)]
        unfold xup
        exact if_neg (fun y => q ⟨y.1, y.2.1, by omega, by omega⟩)
    · rw [if_neg z]
      exact ⟨m, rfl, fun T c k => by rw [if_neg (fun q => by omega)]⟩
theorem byRights_x {s m : XS} {w h : Nat} (L : Ld s (m 1 1) w h) (S : SQ 0 s) {c d : Nat} (hc : c < w * h) (hd : d < 4) : ∃ u v r, f_X8_leftByRights s ((4 * c + d : Nat) : Int) = (u, r) ∧ g8_X12_byRights m (c : Int) (d : Int) = (v, r) ∧ SQ 0 u ∧ (∀ T c k, ¬ (T = 1 ∧ (c = 84 ∨ c = 85)) → ¬ (c = 83) → u T c k = s T c k) ∧ FrB v m := by
  have b25 := L.b25
  obtain ⟨a, b, t, H, Sb, Sa⟩ := S.ex
  have td := tdr_lt d 2
  have e1 : Xiand (((4 * c + d : Nat) : Int) + 3) 3 = ((tdr d 2 : Nat) : Int) := by
    rw [and3_x (by omega) (by omega)]
    unfold tdr
    rw [if_pos rfl]
    omega
  have e2 : ((4 * c + d : Nat) : Int) / 4 = (c : Int) := by omega
  have to := to_v L hc td
  have ec : f_X8_leftByRights s ((4 * c + d : Nat) : Int) = if sF (m 1 1) c (tdr d 2) < 0 then (s, -1) else L6_X8_leftByRights (Int.toNat (61 - 1 + 1)) (f_X8_begin s ((4 * c + d : Nat) : Int)).1 (sF (m 1 1) c (tdr d 2)) 1 := by
    simp only [f_X8_leftByRights, g1c_X8_leftByRights, g2b_X8_leftByRights, g3_X8_leftByRights, g4_X8_leftByRights, g5c_X8_leftByRights, e1, e2, to]
  have db := dirby_x m (h := d) (t := 2) hd (by decide)
  have st := stF_x L hc td
  have em : g8_X12_byRights m (c : Int) (d : Int) = if sF (m 1 1) c (tdr d 2) = -1 then (m, -1) else L15_X12_byRights (Int.toNat (100 - 0 + 1)) m (c : Int) (d : Int) (sF (m 1 1) c (tdr d 2)) 0 := by
    have db' : f_X12_directionBy m (d : Int) 2 = (m, (tdr d 2 : Int)) := db
    simp only [g8_X12_byRights, g10c_X12_byRights, g11c_X12_byRights, g12b_X12_byRights, g13_X12_byRights, g14_X12_byRights, db', st]
  rw [ec, em]
  by_cases z : sF (m 1 1) c (tdr d 2) = -1
  · rw [if_pos (by omega), if_pos z]
    exact ⟨s, m, -1, rfl, rfl, S, fun _ _ _ _ _ => rfl, FrB.rf⟩
  · obtain ⟨-, t0, t1⟩ := L.2.2.2.1 c _ hc td z
    rw [if_neg (by omega), if_neg z]
    obtain ⟨to', hto'⟩ : ∃ to' : Nat, to' = (sF (m 1 1) c (tdr d 2)).toNat := ⟨_, rfl⟩
    rw [show sF (m 1 1) c (tdr d 2) = (to' : Int) by omega]
    obtain ⟨u, u1, u2, u3, u4⟩ := begin_x H (fun j hj => Sa j hj) (c := c) (d := d) hd (by omega)
    rw [u1]
    obtain ⟨v, v1, v2⟩ := b15_l (a1 := (c : Int)) (a2 := (d : Int)) (r := (to' : Int)) (Int.toNat (100 - 0 + 1)) m 0 (by decide) (by decide) (by decide)
    rw [v1]
    have hab := H.1
    have F0 : FrB v m := fun T c k q => by rw [v2, if_neg (fun y => q ⟨y.1, Or.inl y.2.1⟩)]
    have Lu : Ld u (v 1 1) w h := by
      rw [F0.row]
      exact L.fr (u4 _ _ _ (by omega) (by omega)) (u4 _ _ _ (by omega) (by omega)) (funext fun k => u4 _ _ _ (by omega) (by omega)) (funext fun k => u4 _ _ _ (by omega) (by omega))
    obtain ⟨x, y, r, i1, i2, i3, i4, i5⟩ := br_l (w := w) (h := h) (to := to') 61 1 u v a b (fun j => j = 4 * c + d) u2 (fun j hj => by rw [u3, if_neg (by omega)]) (fun j => by rw [u4 _ _ _ (by omega) (by omega)]; exact Sb j (by omega)) Lu (by omega) (fun e he k hk => by
      rw [u3]
      by_cases q : e = d
      · rw [if_pos q, bz_one (by omega) hk, decide_eq_true_eq]
        constructor
        · intro y; omega
        · intro y; omega
      · rw [if_neg q, bz_0]
        constructor
        · intro y; cases y
        · intro y; omega) (fun j hj => by omega) (fun j hj => by
      rw [v2, if_pos ⟨rfl, rfl, by omega, by omega⟩]
      by_cases q : j = 4 * c + d
      · rw [if_pos (by omega)]
        exact ⟨fun _ => q, fun _ => by decide⟩
      · rw [if_neg (by omega)]
        exact ⟨fun y => absurd rfl y, fun y => absurd y q⟩) (by decide) (by decide)
    exact ⟨x, y, r, i1, i2, i3, fun T c k q1 q2 => (i4 T c k q1 q2).trans (u4 T c k (by omega) (by omega)), i5.tr F0⟩
