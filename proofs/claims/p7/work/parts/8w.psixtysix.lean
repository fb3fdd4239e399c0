/-! the reference: laws by the hour -/
/-- what is laid of the laws up to an hour -/
def LLw (A : Nat → Int) (N H0 hh : Nat) (m : XS) : Prop := ∀ i, i ≤ hh → ∀ c, c < N → m 1 12 (25 * i + c) = @ite Int (frQ A c ((H0 + i : Nat) : Int)) (Classical.propDecidable _) 1 0 ∧ ∀ d, d < 4 → m 1 11 (100 * i + 4 * c + d) = @ite Int (mayQ A c ((H0 + i : Nat) : Int) (d : Int)) (Classical.propDecidable _) 1 0
def FrLy (v m : XS) : Prop := ∀ t c k, ¬ (t = 1 ∧ (c = 5 ∨ c = 10 ∨ c = 11 ∨ c = 12)) → v t c k = m t c k
theorem FrLy.rf {m : XS} : FrLy m m := fun _ _ _ _ => rfl
theorem FrLy.tr {x y z : XS} (h : FrLy x y) (g : FrLy y z) : FrLy x z := fun t c k q => (h t c k q).trans (g t c k q)
theorem FrLy.row {v m : XS} (h : FrLy v m) : v 1 1 = m 1 1 := funext fun k => h _ _ _ (by omega)
theorem FrV5.l {v m : XS} (h : FrV5 v m) : FrLy v m := fun t c k q => h t c k (by omega)
theorem FrLy.up {m : XS} {c k : Nat} {v : Int} (h : c = 10 ∨ c = 11 ∨ c = 12) : FrLy (xup m 1 c k v) m := fun t c' k' q => if_neg (fun y => q ⟨y.1, by omega⟩)
theorem pr_f {B : Int} {w h : Nat} {s m : XS} (H : CS B w h s m) {c : Nat} (hc : c < w * h) {t d : Nat} (ht : t < 240) (hd : d < 4) : ∃ v x, f_X12_priceOf m (c : Int) (t : Int) (d : Int) = (v, x) ∧ FrV5 v m := by
  have b25 := H.1.b25
  have hB := H.bd.2.2.2.2
  have so := (H.bd.2.2.1 c (by omega)).1
  obtain ⟨-, x, v, -, e, -, -, -, f, -⟩ := cost_x (s := s) (H.1.ld hc) H.2.1 H.2.2.1 hc (by unfold rgI; omega) (hr := (t : Int)) (d := (d : Int)) (by unfold rgI; omega) rfl (sold := m 1 1 (61 + c)) rfl
  exact ⟨v, x, e, f⟩
theorem ll_d {B : Int} {w h : Nat} {s m : XS} (H : CS B w h s m) {H0 i c : Nat} (hc : c < w * h) (h26 : m 0 0 26 = (H0 : Int)) (h240 : H0 + i < 240) {R2 : XS → Int → Int → XR} {R9 : XS → Int → Int → Int → XR} {a1 : Int} : ∀ (n d : Nat) (v : XS), FrLy v m → d ≤ 4 → 4 < d + n → (∀ e, e < d → v 1 11 (100 * i + 4 * c + e) = @ite Int (mayQ (m 1 1) c ((H0 + i : Nat) : Int) (e : Int)) (Classical.propDecidable _) 1 0) → ∃ u, L14_X12_laysLaws R2 R9 n v a1 (i : Int) (c : Int) (d : Int) = R9 u a1 (i : Int) ((c + 1 : Nat) : Int) ∧ FrLy u m ∧ (∀ e, e < 4 → u 1 11 (100 * i + 4 * c + e) = @ite Int (mayQ (m 1 1) c ((H0 + i : Nat) : Int) (e : Int)) (Classical.propDecidable _) 1 0) ∧ (∀ j, ¬ (100 * i + 4 * c ≤ j ∧ j < 100 * i + 4 * c + 4) → u 1 11 j = v 1 11 j) ∧ ∀ j, u 1 12 j = v 1 12 j := by
  intro n
  induction n with
  | zero => intro d v _ h1 h2; omega
  | succ n ih =>
    intro d v F h1 h2 Bt
    by_cases z : d < 4
    · have Hv : CS B w h s v := H.fr FrA.rf F.row
      have vr := F.row
      have v26 : v 0 0 26 = (H0 : Int) := by rw [F _ _ _ (by omega)]; exact h26
      have hx : Xiadd (H0 : Int) (i : Int) = ((H0 + i : Nat) : Int) := by rw [iadd_v (by unfold rgI; omega)]; omega
      obtain ⟨v1, e1, f1, -, -⟩ := mq_x Hv hc (hr := ((H0 + i : Nat) : Int)) (d := (d : Int)) (hC' := Xiadd (v 1 1 111) ((H0 + i : Nat) : Int)) (by unfold rgI; omega) rfl
      rw [vr] at e1
      obtain ⟨x, hx2⟩ : ∃ x, x = @ite Int (mayQ (m 1 1) c ((H0 + i : Nat) : Int) (d : Int)) (Classical.propDecidable _) 1 0 := ⟨_, rfl⟩
      rw [← hx2] at e1
      obtain ⟨v2, hv2⟩ : ∃ v2, v2 = xup v1 1 11 (100 * i + 4 * c + d) x := ⟨_, rfl⟩
      have F2 : FrLy v2 v := by rw [hv2]; exact (FrLy.up (by omega)).tr f1.l
      have v226 : v2 0 0 26 = (H0 : Int) := by rw [F2 _ _ _ (by omega)]; exact v26
      obtain ⟨v3, p, e3, f3⟩ := pr_f (Hv.fr FrA.rf F2.row) hc (t := H0 + i) (d := d) h240 z
      obtain ⟨v4, hv4⟩ : ∃ v4, v4 = xup v3 1 10 (100 * i + 4 * c + d) p := ⟨_, rfl⟩
      have F4 : FrLy v4 v2 := by rw [hv4]; exact (FrLy.up (by omega)).tr f3.l
      have e : L14_X12_laysLaws R2 R9 (n + 1) v a1 (i : Int) (c : Int) (d : Int) = L14_X12_laysLaws R2 R9 n v4 a1 (i : Int) (c : Int) ((d + 1 : Nat) : Int) := by
        have ix : Int.toNat (((100 * (i : Int)) + (4 * (c : Int))) + (d : Int)) = 100 * i + 4 * c + d := by omega
        show g15l_X12_laysLaws R2 R9 (L14_X12_laysLaws R2 R9 n) v a1 (i : Int) (c : Int) (d : Int) = _
        simp only [g15l_X12_laysLaws, g16b_X12_laysLaws, g18_X12_laysLaws, g19c_X12_laysLaws, g20w_X12_laysLaws, g21c_X12_laysLaws, g22w_X12_laysLaws, v26, hx, e1, ix, ← hv2, v226, e3, ← hv4]
        rw [if_pos (by omega)]
        rfl
      rw [e]
      have w11 : ∀ j, v4 1 11 j = if j = 100 * i + 4 * c + d then x else v 1 11 j := fun j => by
        have a1' : v4 1 11 j = v2 1 11 j := by rw [hv4, xup_c (by decide)]; exact f3 _ _ _ (by omega)
        rw [a1', hv2]
        by_cases y : j = 100 * i + 4 * c + d
        · rw [y, xup_s, if_pos rfl]
        · rw [xup_k y, if_neg y]
          exact f1 _ _ _ (by omega)
      have w12 : ∀ j, v4 1 12 j = v 1 12 j := fun j => by
        rw [hv4, xup_c (by decide), f3 _ _ _ (by omega), hv2, xup_c (by decide)]
        exact f1 _ _ _ (by omega)
      obtain ⟨u, u1, u2, u3, u4, u5⟩ := ih (d + 1) v4 ((F4.tr F2).tr F) (by omega) (by omega) (fun e' he => by
        rw [w11]
        by_cases y : e' = d
        · subst y
          rw [if_pos rfl]
          exact hx2
        · rw [if_neg (by omega)]
          exact Bt e' (by omega))
      refine ⟨u, u1, u2, u3, fun j hj => ?_, fun j => (u5 j).trans (w12 j)⟩
      rw [u4 j hj, w11, if_neg (by omega)]
    · have d4 : d = 4 := by omega
      subst d4
      refine ⟨v, ?_, F, Bt, fun _ _ => rfl, fun _ => rfl⟩
      show g15l_X12_laysLaws R2 R9 (L14_X12_laysLaws R2 R9 n) v a1 (i : Int) (c : Int) ((4 : Nat) : Int) = _
      simp only [g15l_X12_laysLaws, g16b_X12_laysLaws, g17_X12_laysLaws]
      rw [if_neg (by decide)]
      rfl
/-- one hour's laws -/
def LL1 (A : Nat → Int) (H0 i c : Nat) (m : XS) : Prop := m 1 12 (25 * i + c) = @ite Int (frQ A c ((H0 + i : Nat) : Int)) (Classical.propDecidable _) 1 0 ∧ ∀ d, d < 4 → m 1 11 (100 * i + 4 * c + d) = @ite Int (mayQ A c ((H0 + i : Nat) : Int) (d : Int)) (Classical.propDecidable _) 1 0
theorem ll_c {B : Int} {w h : Nat} {s m : XS} (H : CS B w h s m) {H0 i : Nat} (h26 : m 0 0 26 = (H0 : Int)) (h240 : H0 + i < 240) {R2 : XS → Int → Int → XR} {a1 : Int} : ∀ (n c : Nat) (v : XS), FrLy v m → c ≤ w * h → w * h < c + n → (∀ c', c' < c → LL1 (m 1 1) H0 i c' v) → ∃ u, L6_X12_laysLaws R2 n v a1 (i : Int) (c : Int) = R2 u a1 ((i + 1 : Nat) : Int) ∧ FrLy u m ∧ (∀ c', c' < w * h → LL1 (m 1 1) H0 i c' u) ∧ (∀ j, j < 100 * i → u 1 11 j = v 1 11 j) ∧ ∀ j, j < 25 * i → u 1 12 j = v 1 12 j := by
  intro n
  induction n with
  | zero => intro c v _ h1 h2; omega
  | succ n ih =>
    intro c v F h1 h2 Bt
    have b25 := H.1.b25
    have Hv : CS B w h s v := H.fr FrA.rf F.row
    have vr := F.row
    have ewh : v 1 1 1 * v 1 1 2 = ((w * h : Nat) : Int) := by
      rcases Hv.1 with ⟨q1, q2, -, -, q5, q6⟩ | L
      · rw [q1, q2, q5, q6]; decide
      · rw [L.2.1.2.2.1, L.2.1.2.2.2, Int.natCast_mul]
    have v26 : v 0 0 26 = (H0 : Int) := by rw [F _ _ _ (by omega)]; exact h26
    have hx : Xiadd (H0 : Int) (i : Int) = ((H0 + i : Nat) : Int) := by rw [iadd_v (by unfold rgI; omega)]; omega
    by_cases z : c < w * h
    · have fr := freeM_x (m := v) (c := c) (hr := ((H0 + i : Nat) : Int)) (by omega) Hv.2.2.2.2.2.1 (by have := Hv.bd.2.2.2; unfold rgI; omega)
      rw [vr] at fr
      obtain ⟨x, hx2⟩ : ∃ x, x = @ite Int (frQ (m 1 1) c ((H0 + i : Nat) : Int)) (Classical.propDecidable _) 1 0 := ⟨_, rfl⟩
      rw [← hx2] at fr
      obtain ⟨v1, hv1⟩ : ∃ v1, v1 = xup v 1 12 (25 * i + c) x := ⟨_, rfl⟩
      have F1 : FrLy v1 v := by rw [hv1]; exact FrLy.up (by omega)
      obtain ⟨u, u1, u2, u3, u4, u5⟩ := ll_d H z h26 h240 (R2 := R2) (R9 := L6_X12_laysLaws R2 n) (a1 := a1) 5 0 v1 (F1.tr F) (by decide) (by decide) (fun e he => absurd he (by omega))
      have e : L6_X12_laysLaws R2 (n + 1) v a1 (i : Int) (c : Int) = L14_X12_laysLaws R2 (L6_X12_laysLaws R2 n) 5 v1 a1 (i : Int) (c : Int) 0 := by
        have ix : Int.toNat ((25 * (i : Int)) + (c : Int)) = 25 * i + c := by omega
        show g7l_X12_laysLaws R2 (L6_X12_laysLaws R2 n) v a1 (i : Int) (c : Int) = _
        simp only [g7l_X12_laysLaws, g8c_X12_laysLaws, g9b_X12_laysLaws, g11_X12_laysLaws, g12c_X12_laysLaws, g13w_X12_laysLaws, f_X12_crossings, show Int.toNat 1 = 1 from rfl, show Int.toNat 2 = 2 from rfl, ewh, v26, hx, fr, ix, ← hv1]
        rw [if_pos (by omega)]
        rfl
      have u1' : L14_X12_laysLaws R2 (L6_X12_laysLaws R2 n) 5 v1 a1 (i : Int) (c : Int) 0 = L6_X12_laysLaws R2 n u a1 (i : Int) ((c + 1 : Nat) : Int) := u1
      rw [e, u1']
      have w11 : ∀ j, ¬ (100 * i + 4 * c ≤ j ∧ j < 100 * i + 4 * c + 4) → u 1 11 j = v 1 11 j := fun j q => by
        rw [u4 j q, hv1, xup_c (by decide)]
      have w12 : ∀ j, j ≠ 25 * i + c → u 1 12 j = v 1 12 j := fun j q => by
        rw [u5 j, hv1, xup_k q]
      obtain ⟨y, y1, y2, y3, y4, y5⟩ := ih (c + 1) u u2 (by omega) (by omega) (fun c' hc' => by
        by_cases q : c' = c
        · subst q
          refine ⟨?_, u3⟩
          rw [u5 _, hv1, xup_s]
          exact hx2
        · obtain ⟨b1, b2⟩ := Bt c' (by omega)
          refine ⟨by rw [w12 _ (by omega)]; exact b1, fun d hd => ?_⟩
          rw [w11 _ (by omega)]
          exact b2 d hd)
      exact ⟨y, y1, y2, y3, fun j hj => (y4 j hj).trans (w11 j (by omega)), fun j hj => (y5 j hj).trans (w12 j (by omega))⟩
    · have cN : c = w * h := by omega
      subst cN
      refine ⟨v, ?_, F, Bt, fun _ _ => rfl, fun _ _ => rfl⟩
      show g7l_X12_laysLaws R2 (L6_X12_laysLaws R2 n) v a1 (i : Int) ((w * h : Nat) : Int) = _
      simp only [g7l_X12_laysLaws, g8c_X12_laysLaws, g9b_X12_laysLaws, g10_X12_laysLaws, f_X12_crossings, show Int.toNat 1 = 1 from rfl, show Int.toNat 2 = 2 from rfl, ewh]
      rw [if_neg (by omega)]
      rfl
theorem laws_x {B : Int} {w h : Nat} {s m : XS} (H : CS B w h s m) {H0 hh : Nat} (h26 : m 0 0 26 = (H0 : Int)) (h60 : hh ≤ 60) (h240 : H0 + hh < 240) : ∃ u, f_X12_laysLaws m (hh : Int) = (u, 0) ∧ FrLy u m ∧ LLw (m 1 1) (w * h) H0 hh u := by
  have b25 := H.1.b25
  have key : ∀ (n i : Nat) (v : XS), FrLy v m → i ≤ hh + 1 → hh + 1 < i + n → (∀ i', i' < i → ∀ c, c < w * h → LL1 (m 1 1) H0 i' c v) → ∃ u, L1_X12_laysLaws n v (hh : Int) (i : Int) = (u, 0) ∧ FrLy u m ∧ ∀ i', i' ≤ hh → ∀ c, c < w * h → LL1 (m 1 1) H0 i' c u := by
    intro n
    induction n with
    | zero => intro i v _ h1 h2; omega
    | succ n ih =>
      intro i v F h1 h2 Bt
      have e : L1_X12_laysLaws (n + 1) v (hh : Int) (i : Int) = if hh < i then (v, 0) else L6_X12_laysLaws (L1_X12_laysLaws n) (Int.toNat (25 - 0 + 1)) v (hh : Int) (i : Int) 0 := by
        show g2l_X12_laysLaws (L1_X12_laysLaws n) v (hh : Int) (i : Int) = _
        simp only [g2l_X12_laysLaws, g3b_X12_laysLaws, g4_X12_laysLaws, g5_X12_laysLaws]
        by_cases z : hh < i
        · rw [if_pos z, if_pos (by omega)]
        · rw [if_neg z, if_neg (by omega)]
      rw [e]
      by_cases z : hh < i
      · rw [if_pos z]
        exact ⟨v, rfl, F, fun i' hi => Bt i' (by omega)⟩
      · rw [if_neg z]
        obtain ⟨u, u1, u2, u3, u4, u5⟩ := ll_c H h26 (i := i) (by omega) (R2 := L1_X12_laysLaws n) (a1 := (hh : Int)) (Int.toNat (25 - 0 + 1)) 0 v F (by omega) (by show w * h < 0 + 26; omega) (fun c' hc' => absurd hc' (by omega))
        have u1' : L6_X12_laysLaws (L1_X12_laysLaws n) (Int.toNat (25 - 0 + 1)) v (hh : Int) (i : Int) 0 = L1_X12_laysLaws n u (hh : Int) ((i + 1 : Nat) : Int) := u1
        rw [u1']
        refine ih (i + 1) u u2 (by omega) (by omega) (fun i' hi c hc => ?_)
        by_cases q : i' = i
        · subst q
          exact u3 c hc
        · obtain ⟨b1, b2⟩ := Bt i' (by omega) c hc
          refine ⟨by rw [u5 _ (by omega)]; exact b1, fun d hd => ?_⟩
          rw [u4 _ (by omega)]
          exact b2 d hd
  obtain ⟨u, u1, u2, u3⟩ := key (Int.toNat (61 - 0 + 1)) 0 m FrLy.rf (by omega) (by show hh + 1 < 0 + 62; omega) (fun i' hi => absurd hi (by omega))
  exact ⟨u, u1, u2, fun i hi c hc => u3 i hi c hc⟩
