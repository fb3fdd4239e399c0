/-! what a turn costs, the least so far: the reference -/
def LLo (A : Nat → Int) (mo : Nat → Prop) (N H0 hh : Nat) (m : XS) : Prop := ∀ i, i ≤ hh → ∀ c, c < N → m 1 12 (25 * i + c) = @ite Int (frQ A c ((H0 + i : Nat) : Int) ∨ mo c) (Classical.propDecidable _) 1 0 ∧ ∀ d, d < 4 → m 1 11 (100 * i + 4 * c + d) = @ite Int (mayQ A c ((H0 + i : Nat) : Int) (d : Int)) (Classical.propDecidable _) 1 0
theorem LLw.o {A : Nat → Int} {N H0 hh : Nat} {m : XS} (h : LLw A N H0 hh m) : LLo A (fun _ => False) N H0 hh m := fun i hi c hc => by
  obtain ⟨q1, q2⟩ := h i hi c hc
  refine ⟨?_, q2⟩
  rw [q1]
  by_cases z : frQ A c ((H0 + i : Nat) : Int)
  · rw [if_pos z, if_pos (Or.inl z)]
  · rw [if_neg z, if_neg (fun y => y.elim z id)]
noncomputable def csV (A : Nat → Int) (mo : Nat → Prop) (t c d T : Nat) : Int := if sF A c (tdr d T) = -1 then 1000000000 else if T < 2 then 0 else @ite Int (mayQ A c (t : Int) ((tdr d T : Nat) : Int)) (Classical.propDecidable _) (@ite Int (frQ A c (t : Int) ∨ mo c) (Classical.propDecidable _) 0 ((T : Int) - 1)) 1000000000
theorem csV_r {A : Nat → Int} {mo : Nat → Prop} {t c d T : Nat} (hT : T < 4) : csV A mo t c d T = 1000000000 ∨ (0 ≤ csV A mo t c d T ∧ csV A mo t c d T ≤ 2) := by
  unfold csV
  split
  · exact Or.inl rfl
  · split
    · exact Or.inr ⟨by decide, by decide⟩
    · split
      · split
        · exact Or.inr ⟨by decide, by decide⟩
        · exact Or.inr ⟨by omega, by omega⟩
      · exact Or.inl rfl
theorem csV_sw {s : XS} {A : Nat → Int} {w h : Nat} (L : Ld s A w h) {mo : Nat → Prop} {t c d k e q : Nat} (hc : c < w * h) : SW A mo t c d k e q ↔ ∃ T, T < 4 ∧ tdr d T = e ∧ sF A c e = (k : Int) ∧ csV A mo t c d T = (q : Int) ∧ q ≤ 2 := by
  constructor
  · rintro ⟨T, t1, t2, t3, t4⟩
    refine ⟨T, t1, t2, t3, ?_⟩
    unfold csV
    rw [t2, if_neg (by omega)]
    rcases t4 with ⟨a1, a2⟩ | ⟨a1, a2, a3⟩
    · rw [if_pos a1]
      exact ⟨by omega, by omega⟩
    · rw [if_neg (by omega), if_pos a2]
      rcases a3 with ⟨a3, a4⟩ | ⟨a3, a4⟩
      · rw [if_pos a3]
        exact ⟨by omega, by omega⟩
      · rw [if_neg a3]
        exact ⟨by omega, by omega⟩
  · rintro ⟨T, t1, t2, t3, t4, t5⟩
    refine ⟨T, t1, t2, t3, ?_⟩
    unfold csV at t4
    rw [t2, if_neg (by omega)] at t4
    by_cases a1 : T < 2
    · rw [if_pos a1] at t4
      exact Or.inl ⟨a1, by omega⟩
    · rw [if_neg a1] at t4
      by_cases a2 : mayQ A c (t : Int) (e : Int)
      · rw [if_pos a2] at t4
        by_cases a3 : frQ A c (t : Int) ∨ mo c
        · rw [if_pos a3] at t4
          exact Or.inr ⟨by omega, a2, Or.inl ⟨a3, by omega⟩⟩
        · rw [if_neg a3] at t4
          exact Or.inr ⟨by omega, a2, Or.inr ⟨a3, by omega⟩⟩
      · rw [if_neg a2] at t4
        omega
theorem lefts_x (m : XS) {T : Nat} (hT : 2 ≤ T) : f_X12_leftsOf m (T : Int) = (m, (T : Int) - 1) := by
  simp only [f_X12_leftsOf, g1b_X12_leftsOf, g2_X12_leftsOf, g3_X12_leftsOf]
  rw [if_neg (by omega)]
theorem cost0_x {s m : XS} {w h : Nat} (L : Ld s (m 1 1) w h) {mo : Nat → Prop} {H0 hh : Nat} (W : LLo (m 1 1) mo (w * h) H0 hh m) {i c d T : Nat} (hi : i ≤ hh) (hc : c < w * h) (hd : d < 4) (hT : T < 4) {a5 : Int} : f_X12_costOf_0 m (i : Int) (c : Int) (d : Int) (T : Int) a5 = (m, csV (m 1 1) mo (H0 + i) c d T) := by
  have td := tdr_lt d T
  have db := dirby_x m hd hT
  have st := stF_x L hc td
  obtain ⟨w1, w2⟩ := W i hi c hc
  have w3 := w2 (tdr d T) td
  unfold csV
  simp only [f_X12_costOf_0, g1c_X12_costOf_0, g2c_X12_costOf_0, g3b_X12_costOf_0, g4_X12_costOf_0, g5_X12_costOf_0, g6b_X12_costOf_0, g7_X12_costOf_0, g8_X12_costOf_0, g9b_X12_costOf_0, g10_X12_costOf_0, g11_X12_costOf_0, g12b_X12_costOf_0, g13_X12_costOf_0, g14_X12_costOf_0, g15c_X12_costOf_0, db, st, show Int.toNat ((25 * (i : Int)) + (c : Int)) = 25 * i + c by omega, show Int.toNat (((100 * (i : Int)) + (4 * (c : Int))) + ((tdr d T : Nat) : Int)) = 100 * i + 4 * c + tdr d T by omega, w1, w3]
  by_cases z : sF (m 1 1) c (tdr d T) = -1
  · rw [if_pos z, if_pos z]
  · rw [if_neg z, if_neg z]
    by_cases y : T < 2
    · rw [if_neg (by omega), if_pos y]
    · rw [if_pos (by omega), if_neg y, lefts_x m (by omega)]
      by_cases a : mayQ (m 1 1) c ((H0 + i : Nat) : Int) ((tdr d T : Nat) : Int)
      · rw [if_pos a, if_neg (by decide), if_pos a]
        by_cases f : frQ (m 1 1) c ((H0 + i : Nat) : Int) ∨ mo c
        · rw [if_pos f, if_neg (by decide), if_pos f]
        · rw [if_neg f, if_pos rfl, if_neg f, Int.mul_one]
      · rw [if_neg a, if_pos rfl, if_neg a]
theorem cost1_x {s m : XS} {w h : Nat} (L : Ld s (m 1 1) w h) {mo : Nat → Prop} {H0 hh : Nat} (W : LLo (m 1 1) mo (w * h) H0 hh m) {i c d T : Nat} (hi : i ≤ hh) (hc : c < w * h) (hd : d < 4) (hT : T < 4) : f_X12_costOf_1 m (i : Int) (c : Int) (d : Int) (T : Int) 0 = (m, csV (m 1 1) mo (H0 + i) c d T) := by
  have td := tdr_lt d T
  have db := dirby_x m hd hT
  have st := stF_x L hc td
  obtain ⟨w1, w2⟩ := W i hi c hc
  have w3 := w2 (tdr d T) td
  unfold csV
  simp only [f_X12_costOf_1, g1c_X12_costOf_1, g2c_X12_costOf_1, g3b_X12_costOf_1, g4_X12_costOf_1, g5_X12_costOf_1, g6b_X12_costOf_1, g7_X12_costOf_1, g8_X12_costOf_1, g9b_X12_costOf_1, g10_X12_costOf_1, g11_X12_costOf_1, g12b_X12_costOf_1, g13_X12_costOf_1, g14_X12_costOf_1, g15c_X12_costOf_1, g16b_X12_costOf_1, g17_X12_costOf_1, db, st, show Int.toNat ((25 * (i : Int)) + (c : Int)) = 25 * i + c by omega, show Int.toNat (((100 * (i : Int)) + (4 * (c : Int))) + ((tdr d T : Nat) : Int)) = 100 * i + 4 * c + tdr d T by omega, w1, w3]
  by_cases z : sF (m 1 1) c (tdr d T) = -1
  · rw [if_pos z, if_pos z]
  · rw [if_neg z, if_neg z]
    by_cases y : T < 2
    · rw [if_neg (by omega), if_pos y]
    · rw [if_pos (by omega), if_neg y, lefts_x m (by omega)]
      by_cases a : mayQ (m 1 1) c ((H0 + i : Nat) : Int) ((tdr d T : Nat) : Int)
      · rw [if_pos a, if_neg (by decide), if_pos a]
        by_cases f : frQ (m 1 1) c ((H0 + i : Nat) : Int) ∨ mo c
        · rw [if_pos f, if_neg (by decide), if_pos f]
        · rw [if_neg f, if_pos rfl, if_neg f]
          dsimp only
          rw [if_pos trivial, Int.mul_one]
      · rw [if_neg a, if_pos rfl, if_neg a]
/-- a number is the least of some, or never -/
def LsV (P : Nat → Prop) (v : Int) : Prop := (v = 1000000000 ∧ ∀ l, ¬ P l) ∨ ∃ l : Nat, l ≤ 1000 ∧ v = (l : Int) ∧ P l ∧ ∀ l', l' < l → ¬ P l'
theorem LsV.add {P : Nat → Prop} {v : Int} {q : Nat} (h : LsV P v) (hq : q ≤ 1000) : LsV (fun l => P l ∨ l = q) (min v (q : Int)) := by
  rcases h with ⟨h1, h2⟩ | ⟨l, h0, h1, h2, h3⟩
  · refine Or.inr ⟨q, hq, by omega, Or.inr rfl, fun l' q1 q2 => q2.elim (h2 l') (fun y => by omega)⟩
  · by_cases z : l ≤ q
    · exact Or.inr ⟨l, h0, by omega, Or.inl h2, fun l' q1 q2 => q2.elim (h3 l' q1) (fun y => by omega)⟩
    · exact Or.inr ⟨q, hq, by omega, Or.inr rfl, fun l' q1 q2 => q2.elim (h3 l' (by omega)) (fun y => by omega)⟩
theorem LsV.iff {P Q : Nat → Prop} {v : Int} (h : LsV P v) (e : ∀ l, P l ↔ Q l) : LsV Q v := by
  rcases h with ⟨h1, h2⟩ | ⟨l, h0, h1, h2, h3⟩
  · exact Or.inl ⟨h1, fun l q => h2 l ((e l).mpr q)⟩
  · exact Or.inr ⟨l, h0, h1, (e l).mp h2, fun l' q1 q2 => h3 l' q1 ((e l').mpr q2)⟩
def FrE (v m : XS) : Prop := ∀ t c k, ¬ (t = 1 ∧ c = 8) → v t c k = m t c k
theorem FrE.rf {m : XS} : FrE m m := fun _ _ _ _ => rfl
theorem FrE.tr {x y z : XS} (h : FrE x y) (g : FrE y z) : FrE x z := fun t c k q => (h t c k q).trans (g t c k q)
theorem FrE.up {m : XS} {k : Nat} {v : Int} : FrE (xup m 1 8 k v) m := fun t c' k' q => if_neg (fun y => q ⟨y.1, y.2.1⟩)
theorem FrE.ll {v m : XS} (F : FrE v m) {A : Nat → Int} {mo : Nat → Prop} {N H0 hh : Nat} (W : LLo A mo N H0 hh m) : LLo A mo N H0 hh v := fun i hi c hc => by
  obtain ⟨q1, q2⟩ := W i hi c hc
  refine ⟨by rw [F _ _ _ (by omega)]; exact q1, fun d hd => by rw [F _ _ _ (by omega)]; exact q2 d hd⟩
/-- who comes to a stand from those gone through so far -/
def CdP (A : Nat → Int) (mo : Nat → Prop) (t : Nat) (r : Nat → Int) (x T y l : Nat) : Prop := ∃ z U, (z < x ∨ (z = x ∧ U < T)) ∧ U < 4 ∧ sF A (z / 4) (tdr (z % 4) U) ≠ -1 ∧ (y : Int) = 4 * sF A (z / 4) (tdr (z % 4) U) + ((tdr (z % 4) U : Nat) : Int) ∧ csV A mo t (z / 4) (z % 4) U ≠ 1000000000 ∧ r z ≠ 1000000000 ∧ (l : Int) = r z + csV A mo t (z / 4) (z % 4) U
theorem sf_T {s m : XS} {w h : Nat} (L : Ld s (m 1 1) w h) {mo : Nat → Prop} {H0 hh i : Nat} (W : LLo (m 1 1) mo (w * h) H0 hh m) (hi : i < hh) (h60 : hh ≤ 60) {r : Nat → Int} {x : Nat} (hx : x < 4 * (w * h)) (hr : 0 ≤ r x ∧ r x ≤ 500) {R44 : XS → Int → Int → Int → XR} {R53 : XS → Int → Int → Int → Int → XR} : ∀ (n T : Nat) (v : XS), FrE v m → (∀ z, z < 100 → v 1 8 (100 * i + z) = r z) → (∀ y, y < 100 → LsV (CdP (m 1 1) mo (H0 + i) r x T y) (v 1 8 (100 * (i + 1) + y))) → T ≤ 4 → 4 < T + n → ∃ u, L21_X12_laysSofar R44 R53 n v (hh : Int) 0 (i : Int) (x : Int) (T : Int) = R53 u (hh : Int) 0 (i : Int) ((x + 1 : Nat) : Int) ∧ FrE u m ∧ (∀ y, y < 100 → LsV (CdP (m 1 1) mo (H0 + i) r x 4 y) (u 1 8 (100 * (i + 1) + y))) ∧ ∀ j, ¬ (100 * (i + 1) ≤ j ∧ j < 100 * (i + 1) + 100) → u 1 8 j = v 1 8 j := by
  intro n
  induction n with
  | zero => intro T v _ _ _ h1 h2; omega
  | succ n ih =>
    intro T v F Vr Bt h1 h2
    have b25 := L.b25
    have hc : x / 4 < w * h := by omega
    have hd : x % 4 < 4 := by omega
    have e1 : (x : Int) / 4 = ((x / 4 : Nat) : Int) := by omega
    have e2 : (x : Int) % 4 = ((x % 4 : Nat) : Int) := by omega
    have vr : v 1 1 = m 1 1 := funext fun k => F _ _ _ (by omega)
    by_cases z : T < 4
    · have Lv : Ld s (v 1 1) w h := by rw [vr]; exact L
      have cx := cost1_x Lv (mo := mo) (H0 := H0) (hh := hh) (by rw [vr]; exact F.ll W) (i := i) (c := x / 4) (d := x % 4) (T := T) (by omega) hc hd z
      rw [vr] at cx
      have td := tdr_lt (x % 4) T
      have db := dirby_x v hd z
      have st := stF_x Lv hc td
      rw [vr] at st
      obtain ⟨q, hq⟩ : ∃ q, q = csV (m 1 1) mo (H0 + i) (x / 4) (x % 4) T := ⟨_, rfl⟩
      rw [← hq] at cx
      have qr := csV_r (A := m 1 1) (mo := mo) (t := H0 + i) (c := x / 4) (d := x % 4) z
      rw [← hq] at qr
      by_cases nv : q = 1000000000
      · have e : L21_X12_laysSofar R44 R53 (n + 1) v (hh : Int) 0 (i : Int) (x : Int) (T : Int) = L21_X12_laysSofar R44 R53 n v (hh : Int) 0 (i : Int) (x : Int) ((T + 1 : Nat) : Int) := by
          show g22l_X12_laysSofar R44 R53 (L21_X12_laysSofar R44 R53 n) v (hh : Int) 0 (i : Int) (x : Int) (T : Int) = _
          simp only [g22l_X12_laysSofar, g23b_X12_laysSofar, g25_X12_laysSofar, g26c_X12_laysSofar, g27b_X12_laysSofar, g29_X12_laysSofar, e1, e2, cx]
          rw [if_pos (by omega), if_pos nv]
          rfl
        rw [e]
        refine ih (T + 1) v F Vr (fun y hy => (Bt y hy).iff (fun l => ?_)) (by omega) (by omega)
        constructor
        · rintro ⟨z', U, p1, p2⟩
          exact ⟨z', U, by omega, p2⟩
        · rintro ⟨z', U, p1, p2, p3, p4, p5, p6⟩
          by_cases q0 : z' = x ∧ U = T
          · obtain ⟨rfl, rfl⟩ := q0
            exact absurd (hq.symm.trans nv) p5
          · exact ⟨z', U, by omega, p2, p3, p4, p5, p6⟩
      · have sn : sF (m 1 1) (x / 4) (tdr (x % 4) T) ≠ -1 := fun y => nv (by rw [hq]; unfold csV; rw [if_pos y])
        have sk := (L.2.2.2.1 _ _ hc td sn).2
        obtain ⟨y0, hy0⟩ : ∃ y0 : Nat, (y0 : Int) = 4 * sF (m 1 1) (x / 4) (tdr (x % 4) T) + ((tdr (x % 4) T : Nat) : Int) ∧ y0 < 100 := ⟨(4 * sF (m 1 1) (x / 4) (tdr (x % 4) T) + ((tdr (x % 4) T : Nat) : Int)).toNat, by omega⟩
        have ix : Int.toNat ((100 * ((i : Int) + 1) + (4 * sF (m 1 1) (x / 4) (tdr (x % 4) T))) + ((tdr (x % 4) T : Nat) : Int)) = 100 * (i + 1) + y0 := by omega
        have ir : Int.toNat ((100 * (i : Int)) + (x : Int)) = 100 * i + x := by omega
        obtain ⟨Q, hQ⟩ : ∃ Q : Nat, (Q : Int) = r x + q ∧ Q ≤ 1000 := ⟨(r x + q).toNat, by omega⟩
        have e : L21_X12_laysSofar R44 R53 (n + 1) v (hh : Int) 0 (i : Int) (x : Int) (T : Int) = L21_X12_laysSofar R44 R53 n (xup v 1 8 (100 * (i + 1) + y0) (min (v 1 8 (100 * (i + 1) + y0)) (Q : Int))) (hh : Int) 0 (i : Int) (x : Int) ((T + 1 : Nat) : Int) := by
          show g22l_X12_laysSofar R44 R53 (L21_X12_laysSofar R44 R53 n) v (hh : Int) 0 (i : Int) (x : Int) (T : Int) = _
          simp only [g22l_X12_laysSofar, g23b_X12_laysSofar, g25_X12_laysSofar, g26c_X12_laysSofar, g27b_X12_laysSofar, g28_X12_laysSofar, g30c_X12_laysSofar, g31c_X12_laysSofar, g32c_X12_laysSofar, g33w_X12_laysSofar, e1, e2, cx, db, st, ix, ir, lesser_x, Vr x (by omega)]
          rw [if_pos (by omega), if_neg nv, iadd_v (by unfold rgI; omega), ← hQ.1]
          rfl
        rw [e]
        obtain ⟨u, u1, u2, u3, u4⟩ := ih (T + 1) (xup v 1 8 (100 * (i + 1) + y0) (min (v 1 8 (100 * (i + 1) + y0)) (Q : Int))) (FrE.up.tr F) (fun z' hz => by rw [xup_k (by omega)]; exact Vr z' hz) (fun y hy => by
          by_cases yy : y = y0
          · subst yy
            rw [xup_s]
            refine ((Bt y hy).add hQ.2).iff (fun l => ?_)
            constructor
            · rintro (⟨z', U, p1, p2⟩ | p)
              · exact ⟨z', U, by omega, p2⟩
              · refine ⟨x, T, Or.inr ⟨rfl, by omega⟩, z, sn, hy0.1, ?_, by omega, ?_⟩
                · rw [← hq]; exact nv
                · rw [p, hQ.1, hq]
            · rintro ⟨z', U, p1, p2, p3, p4, p5, p6, p7⟩
              by_cases q0 : z' = x ∧ U = T
              · obtain ⟨rfl, rfl⟩ := q0
                rw [← hq] at p7
                exact Or.inr (by omega)
              · exact Or.inl ⟨z', U, by omega, p2, p3, p4, p5, p6, p7⟩
          · rw [xup_k (by omega)]
            refine (Bt y hy).iff (fun l => ?_)
            constructor
            · rintro ⟨z', U, p1, p2⟩
              exact ⟨z', U, by omega, p2⟩
            · rintro ⟨z', U, p1, p2, p3, p4, p5, p6⟩
              by_cases q0 : z' = x ∧ U = T
              · obtain ⟨rfl, rfl⟩ := q0
                exact absurd (by omega) yy
              · exact ⟨z', U, by omega, p2, p3, p4, p5, p6⟩) (by omega) (by omega)
        exact ⟨u, u1, u2, u3, fun j hj => by rw [u4 j hj, xup_k (by omega)]⟩
    · have T4 : T = 4 := by omega
      subst T4
      refine ⟨v, ?_, F, Bt, fun _ _ => rfl⟩
      show g22l_X12_laysSofar R44 R53 (L21_X12_laysSofar R44 R53 n) v (hh : Int) 0 (i : Int) (x : Int) ((4 : Nat) : Int) = _
      simp only [g22l_X12_laysSofar, g23b_X12_laysSofar, g24_X12_laysSofar]
      rw [if_neg (by decide)]
      rfl
