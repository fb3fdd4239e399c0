/-! whether one may turn, by what a law says; what it leans on -/
def lwO (A : Nat → Int) (l : List Int) : Prop := A 9 = (l.length : Int) ∧ ∀ k, k < l.length → A (874 + (A 7).toNat + k) = l.getD k 0
theorem lwO.uq {A : Nat → Int} {l l' : List Int} (h : lwO A l) (g : lwO A l') : l = l' := by
  have e : l.length = l'.length := by have h1 := h.1; have g1 := g.1; omega
  refine List.ext_getElem e (fun k k1 k2 => ?_)
  have a := h.2 k k1
  have b := g.2 k k2
  rw [List.getD_eq_getElem?_getD, List.getElem?_eq_getElem k1] at a
  rw [List.getD_eq_getElem?_getD, List.getElem?_eq_getElem k2] at b
  exact a.symm.trans b
def mayQ (A : Nat → Int) (c : Nat) (t d : Int) : Prop := A 5 = 0 ∨ ∃ l, lwO A l ∧ evM (nmV A (c : Int) t d) l [] = [1]
theorem mayQ_row {A A' : Nat → Int} {c : Nat} {t d : Int} (h1 : A' 1 = A 1) (h5 : A' 5 = A 5) (h7 : A' 7 = A 7) (h9 : A' 9 = A 9) (hk : ∀ k, 874 ≤ k → A' k = A k) (h61 : A' (61 + c) = A (61 + c)) (h111 : A' 111 = A 111) : mayQ A' c t d ↔ mayQ A c t d := by
  have en : nmV A' (c : Int) t d = nmV A (c : Int) t d := by
    funext k
    unfold nmV
    rw [h1, h111, show ((c : Int)).toNat = c from rfl, h61]
  have el : ∀ l, lwO A' l ↔ lwO A l := fun l => by
    unfold lwO
    rw [h9, h7]
    constructor
    · rintro ⟨q1, q2⟩
      exact ⟨q1, fun k hk' => by rw [← hk _ (by omega)]; exact q2 k hk'⟩
    · rintro ⟨q1, q2⟩
      exact ⟨q1, fun k hk' => by rw [hk _ (by omega)]; exact q2 k hk'⟩
  unfold mayQ
  rw [h5, en]
  constructor
  · rintro (q | ⟨l, q1, q2⟩)
    · exact Or.inl q
    · exact Or.inr ⟨l, (el l).mp q1, q2⟩
  · rintro (q | ⟨l, q1, q2⟩)
    · exact Or.inl q
    · exact Or.inr ⟨l, (el l).mpr q1, q2⟩
/-- may one turn there: the class's value, the reference's answer, what the law says -/
theorem mq_x {B : Int} {w h : Nat} {s m : XS} (H : CS B w h s m) {c : Nat} (hc : c < w * h) {hr d hC' : Int} (hd : rgI d) (hh : hC' = Xiadd (m 1 1 111) hr) : ∃ v', f_X12_mayTurn m (c : Int) hr d = (v', @ite Int (mayQ (m 1 1) c hr d) (Classical.propDecidable _) 1 0) ∧ FrV5 v' m ∧ (s 0 6 3 ≤ 0 → mayQ (m 1 1) c hr d) ∧ (0 < s 0 6 3 → ∃ u, f_X4_value s 6 ((c : Int) % s 0 1 5) ((c : Int) / s 0 1 5) hC' (s 1 16 c) d = (u, @ite Int (mayQ (m 1 1) c hr d) (Classical.propDecidable _) 1 0) ∧ FrLw 6 u s) := by
  have L := H.1.ld hc
  have b25 := L.b25
  have c25 : c < 25 := by omega
  have so := (H.bd.2.2.1 c c25).1
  have hB := H.bd.2.2.2.2
  have hs : rgI (m 1 1 (61 + c)) := by unfold rgI; omega
  have hso : s 1 16 c = m 1 1 (61 + c) := (H.pl.2.2.2.2.2.2.1 c c25).1
  have w5 : s 0 1 5 = (w : Int) := L.2.1.1
  have a1 : m 1 1 1 = (w : Int) := L.2.1.2.2.1
  have w2 := L.1.1
  have w6 := L.1.2.1
  have hz := H.2.2.2.1
  obtain ⟨-, ⟨-, -, -, -, h873, h900, -, lx⟩, -⟩ := H
  have emm : f_X12_mayTurn m (c : Int) hr d = if m 1 1 5 = 0 then (m, 1) else (if (f_X12_reckons_1 m 1 (c : Int) hr d).2 = 1 then ((f_X12_reckons_1 m 1 (c : Int) hr d).1, 1) else ((f_X12_reckons_1 m 1 (c : Int) hr d).1, 0)) := by
    simp only [f_X12_mayTurn, g1b_X12_mayTurn, g2_X12_mayTurn, g3_X12_mayTurn, g4c_X12_mayTurn, g5b_X12_mayTurn, g6_X12_mayTurn, g7_X12_mayTurn, show Int.toNat 5 = 5 from rfl]
  rw [emm]
  rcases lx with ⟨t0, t1⟩ | ⟨t0, l, ⟨ty, hg⟩, t2, t3, t4, t5, t6⟩
  · have t0 : m 1 1 5 = 0 := t0
    have t1 : s 0 6 3 = 0 := t1
    have q : mayQ (m 1 1) c hr d := Or.inl t0
    rw [if_pos t0, if_pos q]
    exact ⟨m, rfl, FrV5.rf, fun _ => q, fun y => by omega⟩
  · have t0 : m 1 1 5 = 1 := t0
    have t2 : m 1 1 9 = (l.length : Int) := t2
    have t3 : 0 ≤ m 1 1 7 := t3
    have t4 : m 1 1 7 + (l.length : Int) ≤ m 1 1 873 := t4
    have t5 : ∀ k, k < l.length → m 1 1 (874 + (m 1 1 7).toNat + k) = l.getD k 0 := t5
    have t6 : CL s 6 (trl l) := t6
    have z : 0 < s 0 6 3 := by
      have z1 := t6.1
      have z2 : (trl l).length ≠ 0 := by
        cases l with
        | nil => cases ty
        | cons a l =>
          have e : trl (a :: l) = tc1 a ++ trl l := rfl
          have h1 : 1 ≤ (tc1 a).length := by
            unfold tc1
            split
            · simp
            · split
              · decide
              · simp
          rw [e, List.length_append]
          omega
      omega
    have hN : ∀ k, rgI (nmV (m 1 1) (c : Int) hr d k) := nmV_r (by rw [a1]; unfold rgI; have := Int.emod_nonneg (c : Int) (show (w : Int) ≠ 0 by omega); have := Int.emod_lt_of_pos (c : Int) (show (0 : Int) < w by omega); omega) (by rw [a1]; unfold rgI; have q1 := Int.ediv_nonneg (show (0 : Int) ≤ c by omega) (show (0 : Int) ≤ w by omega); have q2 := Int.ediv_le_self (w : Int) (show (0 : Int) ≤ c by omega); omega) (by rw [show ((c : Int)).toNat = c from rfl]; exact hs) hd
    obtain ⟨u, v, e1, e2, e3, e4, e5⟩ := val_c (N := nmV (m 1 1) (c : Int) hr d) (x := (c : Int) % s 0 1 5) (y := (c : Int) / s 0 1 5) (hr := hC') (sold := s 1 16 c) (hd := d) t6 hz ty hg hN (by rw [w5]; unfold nmV; rw [if_pos rfl, a1]) (by rw [w5]; unfold nmV; rw [if_neg (by decide), if_pos rfl, a1]) (by rw [hh]; unfold nmV; rw [if_neg (by decide), if_neg (by decide), if_pos rfl]) (by rw [hh]; unfold nmV; rw [if_neg (by decide), if_neg (by decide), if_neg (by decide), if_pos rfl]) (by rw [hso]; unfold nmV; rw [if_neg (by decide), if_neg (by decide), if_neg (by decide), if_neg (by decide), if_pos rfl]; rfl) (by unfold nmV; rw [if_neg (by decide), if_neg (by decide), if_neg (by decide), if_neg (by decide), if_neg (by decide)])
    obtain ⟨v', g1, g2⟩ := val_m1 t2 t3 (by omega) t5 ty hN (word_x' m (c : Int) hr d (by omega)) e2 1
    have qi : mayQ (m 1 1) c hr d ↔ v = 1 := by
      constructor
      · rintro (q | ⟨l', q1, q2⟩)
        · rw [t0] at q; exact absurd q (by decide)
        · have el : l' = l := q1.uq ⟨t2, t5⟩
          rw [el, e2] at q2
          exact (List.cons.inj q2).1
      · intro q
        refine Or.inr ⟨l, ⟨t2, t5⟩, ?_⟩
        rw [e2, q]
    rw [if_neg (show ¬ m 1 1 5 = 0 by omega), g1, e1]
    rcases e3 rfl with rfl | rfl
    · have nq : ¬ mayQ (m 1 1) c hr d := fun q => absurd (qi.mp q) (by decide)
      rw [if_neg nq]
      exact ⟨v', rfl, g2, fun y => by omega, fun _ => ⟨u, rfl, e5⟩⟩
    · have q : mayQ (m 1 1) c hr d := qi.mpr rfl
      rw [if_pos q]
      exact ⟨v', rfl, g2, fun y => by omega, fun _ => ⟨u, rfl, e5⟩⟩
/-! a law says the same where all that it asks of is the same -/
theorem ev_same {N N' : Int → Int} : ∀ (l : List Int) (st : List Int), (∀ a, a ∈ l → 1000 ≤ a → a < 3000 → N (a - 1000) = N' (a - 1000)) → evM N l st = evM N' l st
  | [], st, _ => rfl
  | a :: l, st, h => by
    show evM N l (stq N a st) = evM N' l (stq N' a st)
    have e : stq N a st = stq N' a st := by
      unfold stq
      by_cases z : a < 3000
      · rw [if_pos z, if_pos z]
        by_cases y : a < 1000
        · rw [if_pos y, if_pos y]
        · rw [if_neg y, if_neg y, h a (by simp) (by omega) z]
      · rw [if_neg z, if_neg z]
    rw [e]
    exact ev_same l _ (fun b hb => h b (by simp [hb]))
