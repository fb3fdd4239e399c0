/-! the shortest way, both -/
def FrWo (v m : XS) : Prop := ∀ t c k, ¬ (t = 1 ∧ (c = 5 ∨ c = 8 ∨ c = 10 ∨ c = 11 ∨ c = 12)) → ¬ (t = 0 ∧ c = 0 ∧ k = 26) → v t c k = m t c k
theorem wo_x {B : Int} {w h : Nat} {s m : XS} (H : CS B w h s m) (L : Ld s (m 1 1) w h) {p c0 d0 c k : Nat} (hp0 : m 1 1 (36 + p) = (c0 : Int)) (hp1 : m 1 1 (41 + p) = (d0 : Int)) (hc0 : c0 < w * h) (hd0 : d0 < 4) (hc : c < w * h) (hk : k ≤ 120) : ∃ v r, f_X12_wayOf m (p : Int) (c : Int) (k : Int) = (v, r) ∧ FstW (m 1 1) noM 0 c0 d0 k c 60 r ∧ FrWo v m ∧ LLo (m 1 1) noM (w * h) 0 60 v := by
  have b25 := L.b25
  obtain ⟨m1, hm1⟩ : ∃ m1, m1 = xup m 0 0 26 0 := ⟨_, rfl⟩
  have r1 : m1 1 1 = m 1 1 := funext fun x => by rw [hm1, xup_t (by decide)]
  obtain ⟨m2, a1, a2, a3⟩ := laws_x (H.fr FrA.rf r1) (H0 := 0) (hh := 60) (by rw [hm1, xup_s]; rfl) (by decide) (by decide)
  have r2 : m2 1 1 = m 1 1 := a2.row.trans r1
  rw [r1] at a3
  obtain ⟨m3, b1, b2, b3⟩ := sofar_x (s := s) (m := m2) (w := w) (h := h) (by rw [r2]; exact L) (mo := noM) (H0 := 0) (hh := 60) (by rw [r2]; exact a3.o) (by decide) (by decide) hc0 hd0
  rw [r2] at b3
  obtain ⟨r, d1, d2⟩ := soon_x b3 (c := c) (k := k) (by omega) hk
  refine ⟨m3, r, ?_, d2, fun t c' k' q1 q2 => ?_, b2.ll a3.o⟩
  · have a1' : f_X12_laysLaws m1 60 = (m2, 0) := a1
    have b1' : f_X12_laysSofar m2 (c0 : Int) (d0 : Int) 60 0 = (m3, 0) := b1
    have e36 : m2 1 1 (Int.toNat (36 + (p : Int))) = (c0 : Int) := by rw [r2, show Int.toNat (36 + (p : Int)) = 36 + p by omega]; exact hp0
    have e41 : m2 1 1 (Int.toNat (41 + (p : Int))) = (d0 : Int) := by rw [r2, show Int.toNat (41 + (p : Int)) = 41 + p by omega]; exact hp1
    simp only [f_X12_wayOf, g1c_X12_wayOf, g2c_X12_wayOf, f_X12_laysFor, g1w_X12_laysFor, g2c_X12_laysFor, g3c_X12_laysFor, ← hm1, a1', e36, e41, b1', d1]
  · rw [b2 t c' k' (by omega), a2 t c' k' (by omega), hm1]
    exact if_neg q2
/-- a way that is found can be looked back -/
theorem FstW.bk {A : Nat → Int} {c0 d0 k c len : Nat} (hn : ¬ NoW A noM 0 c0 d0 k c len) : ∃ l, l ≤ k ∧ Bk A (0 + len) c len c0 d0 l := by
  refine Classical.byContradiction (fun q => hn (fun l d hl hd W => q ⟨l, hl, ?_⟩))
  have := Wy.bk (t0 := 0) (len := len) (cc := c) len c d l 0 (Nat.le_refl _) W (by rw [Nat.sub_self]; exact ⟨rfl, rfl⟩)
  rw [Nat.add_zero] at this
  exact this
theorem sh_x {B : Int} {w h : Nat} {s m : XS} (H : CS B w h s m) (L : Ld s (m 1 1) w h) (V : FV (w * h) s (m 1 1)) (Sq : SQ 0 s) {p c0 d0 c k : Nat} (hp0 : m 1 1 (36 + p) = (c0 : Int)) (hp1 : m 1 1 (41 + p) = (d0 : Int)) (hc0 : c0 < w * h) (hd0 : d0 < 4) (hc : c < w * h) (hk : k ≤ 120) : ∃ u v r, f_X7_shortest s ((4 * c0 + d0 : Nat) : Int) (c : Int) (k : Int) = (u, if r < 0 then 0 else 1) ∧ f_X12_laysWay m (p : Int) (c : Int) (k : Int) = (v, r) ∧ FV (w * h) u (m 1 1) ∧ SQ 0 u ∧ (∀ t c k, ¬ (t = 1 ∧ (c = 8 ∨ c = 9 ∨ c = 80 ∨ c = 81 ∨ c = 82 ∨ c = 84 ∨ c = 85 ∨ c = 88 ∨ c = 89)) → ¬ (t = 0 ∧ c = 79 ∧ k = 4) → ¬ (t = 0 ∧ c = 87 ∧ (k = 5 ∨ k = 6)) → ¬ (c = 83) → u t c k = s t c k) ∧ (∀ t c k, ¬ (t = 1 ∧ (c = 5 ∨ c = 8 ∨ c = 9 ∨ c = 10 ∨ c = 11 ∨ c = 12 ∨ c = 13)) → ¬ (t = 0 ∧ c = 0 ∧ (k = 26 ∨ k = 28)) → v t c k = m t c k) ∧ (r = -1 ∨ ∃ len : Nat, len ≤ 60 ∧ r = (len : Int) ∧ u 0 87 5 = (len : Int) ∧ (∀ x, x < len → u 1 89 x = v 1 13 x ∧ 0 ≤ v 1 13 x ∧ v 1 13 x ≤ 3) ∧ u 0 87 6 = v 0 0 28) := by
  obtain ⟨u1, r, a1, a2, a3, a4, a5⟩ := fewestStreets_s H L V Sq hc0 hd0 hk hc (n' := 60) (by decide) (mo := noM) (more := 0) (fun c' _ => by rw [bz_0]; exact ⟨(fun q => by cases q), fun q => q.elim⟩)
  have a1' : f_X8_fewestStreets s ((4 * c0 + d0 : Nat) : Int) (c : Int) (k : Int) 60 0 = (u1, r) := a1
  obtain ⟨v1, r', b1, b2, b3, b4⟩ := wo_x H L hp0 hp1 hc0 hd0 hc hk
  have rr : r' = r := b2.uq a5
  subst rr
  have rv : v1 1 1 = m 1 1 := funext fun x => b3 _ _ _ (by omega) (by omega)
  rcases a5 with ⟨n1, n2⟩ | ⟨len, n1, n2, n3, n4⟩
  · refine ⟨u1, v1, r', ?_, ?_, a2, a4, fun t c' k' q1 q2 q3 q4 => a3 t c' k' (by omega) q2 q4, fun t c' k' q1 q2 => b3 t c' k' (by omega) (by omega), Or.inl n1⟩
    · simp only [f_X7_shortest, g1c_X7_shortest, g2b_X7_shortest, g4_X7_shortest, a1']
      rw [if_pos (by omega), if_pos (by omega)]
    · simp only [f_X12_laysWay, g1c_X12_laysWay, g2b_X12_laysWay, g3_X12_laysWay, b1]
      rw [if_pos (by omega), n1]
  · obtain ⟨u, z, c1, c2, c3, c4, c5, c6, c7, c8⟩ := tr_x (a3.cs H) (a3.ld L) a2 rv b4 n1 n1 (by omega) hc0 hd0 hc (by omega) (FstW.bk n3)
    have c1' : f_X7_trace u1 ((4 * c0 + d0 : Nat) : Int) 0 (c : Int) (k : Int) (len : Int) = (u, 0) := c1
    refine ⟨u, z, r', ?_, ?_, c3, a4.of8 (fun t c' k' q1 q2 => c4 t c' k' (by omega) (by omega) (by omega)), fun t c' k' q1 q2 q3 q4 => (c4 t c' k' (by omega) q2 q3).trans (a3 t c' k' (by omega) q2 q4), fun t c' k' q1 q2 => (c5 t c' k' (by omega) (by omega)).trans (b3 t c' k' (by omega) (by omega)), Or.inr ⟨len, n1, n2, c6, c7, c8⟩⟩
    · simp only [f_X7_shortest, g1c_X7_shortest, g2b_X7_shortest, g3_X7_shortest, g5c_X7_shortest, a1', n2, c1']
      rw [if_neg (by omega), if_neg (by omega)]
    · have e36 : v1 1 1 (Int.toNat (36 + (p : Int))) = (c0 : Int) := by rw [rv, show Int.toNat (36 + (p : Int)) = 36 + p by omega]; exact hp0
      have e41 : v1 1 1 (Int.toNat (41 + (p : Int))) = (d0 : Int) := by rw [rv, show Int.toNat (41 + (p : Int)) = 41 + p by omega]; exact hp1
      simp only [f_X12_laysWay, g1c_X12_laysWay, g2b_X12_laysWay, g4_X12_laysWay, g5c_X12_laysWay, b1, e36, e41, n2, c2]
      rw [if_neg (by omega)]
