/-! what the city and the row that is read hold -/
def Sx (s : XS) (b c d : Nat) : Prop := c < 25 ∧ bZ (s 1 (b + 17) d) c
def Wx (A : Nat → Int) (c d : Nat) : Prop := c < 25 ∧ (A (11 + c)).toNat.testBit d = true
def Nt (b : Nat) (s : XS) (A : Nat → Int) : Prop := A 1 = s 0 b 5 ∧ A 2 = s 0 b 6 ∧ (∀ c, c < 25 → 0 ≤ A (11 + c) ∧ A (11 + c) < 16) ∧
  ((s 0 b 5 = 0 ∧ s 0 b 6 = 0 ∧ ∀ c, c < 25 → A (11 + c) = 0) ∨ ∃ w h : Nat, s 0 b 5 = (w : Int) ∧ s 0 b 6 = (h : Int) ∧ 2 ≤ w ∧ w < 6 ∧ 2 ≤ h ∧ h < 6 ∧ (∀ d, d < 4 → s 1 (b + 18) d = dirZ (w : Int) d) ∧ WR w h (Sx s b) (Wx A))
def Fk (b : Nat) (s : XS) (A : Nat → Int) : Prop := A 3 = s 0 (b + 9) 7 ∧ 0 ≤ s 0 (b + 9) 7 ∧ s 0 (b + 9) 7 ≤ 5 ∧ A 111 = s 0 (b + 9) 8 ∧
  (∀ p : Nat, (p : Int) < s 0 (b + 9) 7 → A (36 + p) = s 1 (b + 10) p ∧ A (41 + p) = s 1 (b + 11) p ∧ A (46 + p) = s 1 (b + 12) p ∧ A (51 + p) = s 1 (b + 13) p) ∧
  (∀ p, p < 5 → A (56 + p) = s 1 (b + 14) p) ∧ (∀ c, c < 25 → A (61 + c) = s 1 (b + 15) c ∧ A (86 + c) = s 1 (b + 16) c)
def Lx (b : Bool) (L t : Nat) (s : XS) (A : Nat → Int) : Prop := (A (4 + t) = 0 ∧ s 0 L 3 = 0) ∨ (A (4 + t) = 1 ∧ ∃ l : List Int, (tyl l [] = some [b] ∧ hgm l 0 ≤ 20) ∧ A (8 + t) = (l.length : Int) ∧ 0 ≤ A (6 + t) ∧ A (6 + t) + (l.length : Int) ≤ A 873 ∧ (∀ k, k < l.length → A (874 + (A (6 + t)).toNat + k) = l.getD k 0) ∧ CL s L (trl l))
def Ci (b : Nat) (s : XS) (A : Nat → Int) : Prop := A 0 = s 0 b 7 ∧ A 10 = s 0 b 8 ∧ Nt b s A ∧ Fk b s A ∧ 0 ≤ A 873 ∧ A 873 ≤ 900 ∧ Lx false (b + 1) 0 s A ∧ Lx true (b + 5) 1 s A
theorem Nt.same {b : Nat} {s s' : XS} {A A' : Nat → Int} (h5 : s' 0 b 5 = s 0 b 5) (h6 : s' 0 b 6 = s 0 b 6) (h17 : ∀ d, s' 1 (b + 17) d = s 1 (b + 17) d) (h18 : ∀ d, s' 1 (b + 18) d = s 1 (b + 18) d) (hA : ∀ k, k = 1 ∨ k = 2 ∨ (11 ≤ k ∧ k ≤ 35) → A' k = A k) (h : Nt b s A) : Nt b s' A' := by
  obtain ⟨a1, a2, a3, a4⟩ := h
  unfold Nt
  rw [h5, h6, hA 1 (by omega), hA 2 (by omega)]
  have e : ∀ c, c < 25 → A' (11 + c) = A (11 + c) := fun c hc => hA _ (by omega)
  refine ⟨a1, a2, fun c hc => by rw [e c hc]; exact a3 c hc, ?_⟩
  rcases a4 with ⟨q1, q2, q3⟩ | ⟨w, h, q1, q2, q3, q4, q5, q6, q7, q8⟩
  · exact Or.inl ⟨q1, q2, fun c hc => by rw [e c hc]; exact q3 c hc⟩
  · refine Or.inr ⟨w, h, q1, q2, q3, q4, q5, q6, fun d hd => by rw [h18]; exact q7 d hd, q8.same (fun x y _ => by unfold Sx; rw [h17]) (fun x y _ => ?_)⟩
    unfold Wx
    constructor
    · rintro ⟨z1, z2⟩; rw [e x z1] at z2; exact ⟨z1, z2⟩
    · rintro ⟨z1, z2⟩; rw [← e x z1] at z2; exact ⟨z1, z2⟩
theorem Fk.same {b : Nat} {s s' : XS} {A A' : Nat → Int} (h9 : ∀ k, s' 0 (b + 9) k = s 0 (b + 9) k) (hs : ∀ j k, 10 ≤ j → j ≤ 16 → s' 1 (b + j) k = s 1 (b + j) k) (hA : ∀ k, k = 3 ∨ (36 ≤ k ∧ k ≤ 111) → A' k = A k) (h : Fk b s A) : Fk b s' A' := by
  obtain ⟨a1, a2, a3, a4, a5, a6, a7⟩ := h
  unfold Fk
  rw [h9, h9, hA 3 (by omega), hA 111 (by omega)]
  refine ⟨a1, a2, a3, a4, fun p hp => ?_, fun p hp => ?_, fun c hc => ?_⟩
  · rw [hA (36 + p) (by omega), hA (41 + p) (by omega), hA (46 + p) (by omega), hA (51 + p) (by omega), hs 10 p (by omega) (by omega), hs 11 p (by omega) (by omega), hs 12 p (by omega) (by omega), hs 13 p (by omega) (by omega)]
    exact a5 p hp
  · rw [hA (56 + p) (by omega), hs 14 p (by omega) (by omega)]
    exact a6 p hp
  · rw [hA (61 + c) (by omega), hA (86 + c) (by omega), hs 15 c (by omega) (by omega), hs 16 c (by omega) (by omega)]
    exact a7 c hc
theorem CL.same {L : Nat} {s s' : XS} {l : List Int} (h0 : ∀ k, s' 0 L k = s 0 L k) (h1 : ∀ k, s' 1 (L + 1) k = s 1 (L + 1) k) (h : CL s L l) : CL s' L l := by
  obtain ⟨a1, a2, a3⟩ := h
  exact ⟨by rw [h0]; exact a1, by rw [h0]; exact a2, fun k hk => by rw [h1]; exact a3 k hk⟩
theorem Lx.same {b : Bool} {L t : Nat} {s s' : XS} {A A' : Nat → Int} (ht : t < 2) (h0 : ∀ k, s' 0 L k = s 0 L k) (h1 : ∀ k, s' 1 (L + 1) k = s 1 (L + 1) k) (hA : ∀ k, k = 4 + t ∨ k = 6 + t ∨ k = 8 + t ∨ (874 ≤ k ∧ (k : Int) < 874 + A 873) → A' k = A k) (hN : A 873 ≤ A' 873) (h : Lx b L t s A) : Lx b L t s' A' := by
  unfold Lx
  rw [h0, hA (4 + t) (by omega), hA (6 + t) (by omega), hA (8 + t) (by omega)]
  rcases h with h | ⟨a1, l, a2, a3, a4, a5, a6, a7⟩
  · exact Or.inl h
  · exact Or.inr ⟨a1, l, a2, a3, a4, by omega, fun k hk => by rw [hA _ (by omega)]; exact a6 k hk, a7.same h0 h1⟩
theorem Ci.same {b : Nat} {s s' : XS} {A : Nat → Int} (hs : ∀ t j k, j ≤ 18 → s' t (b + j) k = s t (b + j) k) (h : Ci b s A) : Ci b s' A := by
  have h0 : ∀ t k, s' t b k = s t b k := fun t k => hs t 0 k (by omega)
  obtain ⟨a1, a2, a3, a4, a5, a6, a7, a8⟩ := h
  refine ⟨by rw [h0]; exact a1, by rw [h0]; exact a2, a3.same (h0 0 5) (h0 0 6) (fun d => hs 1 17 d (by omega)) (fun d => hs 1 18 d (by omega)) (fun _ _ => rfl), a4.same (fun k => hs 0 9 k (by omega)) (fun j k _ _ => hs 1 j k (by omega)) (fun _ _ => rfl), a5, a6, a7.same (by omega) (fun k => hs 0 1 k (by omega)) (fun k => hs 1 2 k (by omega)) (fun _ _ => rfl) (Int.le_refl _), a8.same (by omega) (fun k => hs 0 5 k (by omega)) (fun k => hs 1 6 k (by omega)) (fun _ _ => rfl) (Int.le_refl _)⟩
/-! a change of both -/
theorem Ci_lay {s s' : XS} {A A' : Nat → Int} {w h : Int} (hC : Ci 20 s A) (hl : s 0 20 5 = 0) (w2 : 2 ≤ w) (w5 : w ≤ 5) (h2 : 2 ≤ h) (h5 : h ≤ 5) (hs : ∀ t c k, 20 ≤ c → c ≤ 38 → s' t c k = s t c k) (h1 : A' 1 = w) (hh : A' 2 = h) (hA : ∀ k, k ≠ 1 → k ≠ 2 → A' k = A k) : Ci 20 (f_X0_lay s' 20 w h).1 A' := by
  obtain ⟨l1, l2, l3, l4, l5⟩ := lay_x (s := s') (b := 20) (w := w) (h := h) (by omega) h5
  obtain ⟨u, hu⟩ : ∃ u, u = (f_X0_lay s' 20 w h).1 := ⟨_, rfl⟩
  rw [← hu] at l1 l2 l3 l4 l5 ⊢
  have f : ∀ t c k, 20 ≤ c → c ≤ 38 → ¬ (t = 0 ∧ c = 20 ∧ (k = 5 ∨ k = 6)) → ¬ (t = 1 ∧ (c = 37 ∨ c = 38)) → u t c k = s t c k := fun t c k q1 q2 q3 q4 => (l5 t c k q3 q4).trans (hs t c k q1 q2)
  obtain ⟨a1, a2, a3, a4, a5, a6, a7, a8⟩ := hC
  obtain ⟨n1, n2, n3, n4⟩ := a3
  have n0 : ∀ c, c < 25 → A (11 + c) = 0 := by
    rcases n4 with ⟨-, -, q⟩ | ⟨w', h', q1, -, q3, -⟩
    · exact q
    · exfalso; omega
  have e0 : ∀ c, c < 25 → A' (11 + c) = 0 := fun c hc => by rw [hA _ (by omega) (by omega)]; exact n0 c hc
  refine ⟨by rw [hA _ (by omega) (by omega), f 0 20 7 (by omega) (by omega) (by omega) (by omega)]; exact a1, by rw [hA _ (by omega) (by omega), f 0 20 8 (by omega) (by omega) (by omega) (by omega)]; exact a2, ⟨h1.trans l1.symm, hh.trans l2.symm, fun c hc => by rw [e0 c hc]; omega, Or.inr ⟨w.toNat, h.toNat, by rw [l1]; omega, by rw [l2]; omega, by omega, by omega, by omega, by omega, fun d hd => ?_, ?_⟩⟩, a4.same (fun k => f 0 29 k (by omega) (by omega) (by omega) (by omega)) (fun j k _ _ => f 1 (20 + j) k (by omega) (by omega) (by omega) (by omega)) (fun k hk => hA k (by omega) (by omega)), by rw [hA _ (by omega) (by omega)]; exact a5, by rw [hA _ (by omega) (by omega)]; exact a6, a7.same (by omega) (fun k => f 0 21 k (by omega) (by omega) (by omega) (by omega)) (fun k => f 1 22 k (by omega) (by omega) (by omega) (by omega)) (fun k hk => hA k (by omega) (by omega)) (by rw [hA _ (by omega) (by omega)]; exact Int.le_refl _), a8.same (by omega) (fun k => f 0 25 k (by omega) (by omega) (by omega) (by omega)) (fun k => f 1 26 k (by omega) (by omega) (by omega) (by omega)) (fun k hk => hA k (by omega) (by omega)) (by rw [hA _ (by omega) (by omega)]; exact Int.le_refl _)⟩
  · rw [l4 d hd, show ((w.toNat : Nat) : Int) = w by omega]
  · intro c d hc hd
    have b25 : w.toNat * h.toNat ≤ 25 := by
      have : w.toNat * h.toNat ≤ 5 * 5 := Nat.mul_le_mul (by omega) (by omega)
      omega
    have z := lay_z w.toNat (by omega) h.toNat (by omega) c (by omega) d hd (by omega) (by omega) hc
    rw [show ((w.toNat : Nat) : Int) = w by omega, show ((h.toNat : Nat) : Int) = h by omega] at z ⊢
    have nw : ∀ x y, ¬ Wx A' x y := by
      rintro x y ⟨q1, q2⟩
      rw [e0 x q1] at q2
      simp at q2
    refine ⟨?_, fun _ => ⟨fun q => absurd q (nw _ _), fun q => absurd q (nw _ _)⟩⟩
    unfold Sx
    rw [l3 d hd, z]
    exact ⟨fun q => ⟨q.2, nw _ _⟩, fun q => ⟨by omega, q.1⟩⟩
theorem block_x (s : XS) (b : Nat) {c d : Int} (h0 : 0 ≤ c) (h1 : c < 32) : (f_X0_block s b c d).1 = @ite XS (bZ (s 1 (b + 17) d.toNat) c.toNat) (Classical.propDecidable _) (if c + s 1 (b + 18) d.toNat < 0 then s else xup (xup s 1 (b + 17) d.toNat (Xiand (s 1 (b + 17) d.toNat) (Xixor (Xishl 1 c) (-1)))) 1 (b + 17) (Int.toNat (Xiand (d + 2) 3)) (Xiand (xup s 1 (b + 17) d.toNat (Xiand (s 1 (b + 17) d.toNat) (Xixor (Xishl 1 c) (-1))) 1 (b + 17) (Int.toNat (Xiand (d + 2) 3))) (Xixor (Xishl 1 (c + s 1 (b + 18) d.toNat)) (-1)))) s := by
  simp only [f_X0_block, g1c_X0_block, g2b_X0_block, g3_X0_block, g4_X0_block, g5w_X0_block, g6w_X0_block, to_x s b d h0 h1]
  by_cases z : bZ (s 1 (b + 17) d.toNat) c.toNat
  · rw [if_pos z, if_pos z]
    split
    · rfl
    · rfl
  · rw [if_neg z, if_neg z, if_pos (by decide)]
/-- a wall told in both -/
theorem Ci_block {s s' m' : XS} {A : Nat → Int} {w h c d : Nat} (hC : Ci 20 s A) (ew : s 0 20 5 = (w : Int)) (eh : s 0 20 6 = (h : Int)) (w0 : 0 < w) (hc : c < w * h) (hd : d < 4) (hs : ∀ t c k, 20 ≤ c → c ≤ 38 → s' t c k = s t c k) (hm : m' 1 4 = A) :
    Ci 20 (f_X0_block s' 20 (c : Int) (d : Int)).1 ((if (f_X12_beyond4 m' (c : Int) (d : Int)).2 = -1 then (f_X12_beyond4 m' (c : Int) (d : Int)).1 else xup (xup (f_X12_beyond4 m' (c : Int) (d : Int)).1 1 4 (Int.toNat (11 + (c : Int))) (Xior ((f_X12_beyond4 m' (c : Int) (d : Int)).1 1 4 (Int.toNat (11 + (c : Int)))) (Xishl 1 (d : Int)))) 1 4 (Int.toNat (11 + (f_X12_beyond4 m' (c : Int) (d : Int)).2)) (Xior ((xup (f_X12_beyond4 m' (c : Int) (d : Int)).1 1 4 (Int.toNat (11 + (c : Int))) (Xior ((f_X12_beyond4 m' (c : Int) (d : Int)).1 1 4 (Int.toNat (11 + (c : Int)))) (Xishl 1 (d : Int)))) 1 4 (Int.toNat (11 + (f_X12_beyond4 m' (c : Int) (d : Int)).2))) (Xishl 1 (((d : Int) + 2) % 4)))) 1 4) := by
  have hC' : Ci 20 s' A := hC.same (fun t j k hj => hs t (20 + j) k (by omega) (by omega))
  rw [← hs 0 20 5 (by omega) (by omega)] at ew
  rw [← hs 0 20 6 (by omega) (by omega)] at eh
  obtain ⟨a1, a2, ⟨n1, n2, n3, n4⟩, a4, a5, a6, a7, a8⟩ := hC'
  rcases n4 with ⟨q1, -⟩ | ⟨w', h', q1, q2, q3, q4, q5, q6, q7, q8⟩
  · exfalso; omega
  obtain rfl : w' = w := by omega
  obtain rfl : h' = h := by omega
  have b25 : w' * h' ≤ 25 := by
    have : w' * h' ≤ 5 * 5 := Nat.mul_le_mul (by omega) (by omega)
    omega
  have bey := bey4_x (m := m') (w := w') (h := h') (c := c) (d := d) (by rw [hm, n1]; exact q1) (by rw [hm, n2]; exact q2) q4 q3 q6 q5 (by omega) hd
  rw [bey]
  have r := q8 c d hc hd
  by_cases hb : beyF (w' : Int) (h' : Int) (c : Int) (d : Int) = -1
  · rw [if_pos hb, block_x s' 20 (by omega) (by omega), if_neg (show ¬ bZ (s' 1 (20 + 17) ((d : Int)).toNat) ((c : Int)).toNat from fun z => (r.1.mp ⟨by omega, z⟩).1 hb)]
    show Ci 20 s' (m' 1 4)
    rw [hm]
    exact ⟨a1, a2, ⟨n1, n2, n3, Or.inr ⟨w', h', q1, q2, q3, q4, q5, q6, q7, q8⟩⟩, a4, a5, a6, a7, a8⟩
  · have bk := bey_back w' q4 h' q6 c (by omega) d hd q3 q5 hc hb
    obtain ⟨n, en⟩ : ∃ n : Nat, beyF (w' : Int) (h' : Int) (c : Int) (d : Int) = (n : Int) := ⟨(beyF (w' : Int) (h' : Int) (c : Int) (d : Int)).toNat, by omega⟩
    have n25 : n < w' * h' := by have := bk.2.1; rw [en] at this; exact_mod_cast this
    have nc : n ≠ c := by
      intro z
      have q := dir_z w' q4 h' q6 c (by omega) d hd q3 q5 hc hb
      rw [en, z] at q
      unfold dirZ at q
      rcases (show d = 0 ∨ d = 1 ∨ d = 2 ∨ d = 3 by omega) with rfl | rfl | rfl | rfl <;> simp at q <;> omega
    rw [if_neg hb, en]
    -- the row
    obtain ⟨o1, o2, o3⟩ := wl_or (A (11 + c)).toNat (by have := n3 c (by omega); omega) d hd
    have p1 := n3 c (by omega)
    have p2 := n3 n (by omega)
    rw [show (((A (11 + c)).toNat : Nat) : Int) = A (11 + c) by omega] at o1 o2 o3
    obtain ⟨t1, t2, t3⟩ := wl_or (A (11 + n)).toNat (by omega) ((d + 2) % 4) (by omega)
    rw [show (((A (11 + n)).toNat : Nat) : Int) = A (11 + n) by omega] at t1 t2 t3
    have i1 : Int.toNat (11 + (c : Int)) = 11 + c := by omega
    have i2 : Int.toNat (11 + (n : Int)) = 11 + n := by omega
    have e2 : ((d : Int) + 2) % 4 = (((d + 2) % 4 : Nat) : Int) := by omega
    rw [i1, i2, e2]
    obtain ⟨A', hA'⟩ : ∃ A', A' = (xup (xup m' 1 4 (11 + c) (Xior (m' 1 4 (11 + c)) (Xishl 1 (d : Int)))) 1 4 (11 + n) (Xior ((xup m' 1 4 (11 + c) (Xior (m' 1 4 (11 + c)) (Xishl 1 (d : Int)))) 1 4 (11 + n)) (Xishl 1 (((d + 2) % 4 : Nat) : Int)))) 1 4 := ⟨_, rfl⟩
    have v1 : A' (11 + c) = Xior (A (11 + c)) (Xishl 1 (d : Int)) := by rw [hA', xup_k (by omega), xup_s, hm]
    have v2 : A' (11 + n) = Xior (A (11 + n)) (Xishl 1 (((d + 2) % 4 : Nat) : Int)) := by rw [hA', xup_s, xup_k (by omega), hm]
    have v3 : ∀ k, k ≠ 11 + c → k ≠ 11 + n → A' k = A k := fun k h1 h2 => by rw [hA', xup_k h2, xup_k h1, hm]
    show Ci 20 _ _
    rw [← hA']
    have wx : ∀ x y, y < 4 → (Wx A' x y ↔ (Wx A x y ∨ (x = c ∧ y = d) ∨ (x = n ∧ y = (d + 2) % 4))) := by
      intro x y hy
      unfold Wx
      by_cases x1 : x = c
      · subst x1
        rw [v1, o3 y hy]
        constructor
        · rintro ⟨z1, z2 | z2⟩
          · exact Or.inl ⟨z1, z2⟩
          · exact Or.inr (Or.inl ⟨rfl, z2⟩)
        · rintro (⟨z1, z2⟩ | ⟨-, z2⟩ | ⟨z1, z2⟩)
          · exact ⟨z1, Or.inl z2⟩
          · exact ⟨by omega, Or.inr z2⟩
          · exact absurd z1.symm nc
      · by_cases x2 : x = n
        · subst x2
          rw [v2, t3 y hy]
          constructor
          · rintro ⟨z1, z2 | z2⟩
            · exact Or.inl ⟨z1, z2⟩
            · exact Or.inr (Or.inr ⟨rfl, z2⟩)
          · rintro (⟨z1, z2⟩ | ⟨z1, z2⟩ | ⟨-, z2⟩)
            · exact ⟨z1, Or.inl z2⟩
            · exact absurd z1 x1
            · exact ⟨by omega, Or.inr z2⟩
        · rw [v3 _ (by omega) (by omega)]
          constructor
          · exact Or.inl
          · rintro (z | ⟨z, -⟩ | ⟨z, -⟩)
            · exact z
            · exact absurd z x1
            · exact absurd z x2
    have wb : ∀ x, x < 25 → 0 ≤ A' (11 + x) ∧ A' (11 + x) < 16 := by
      intro x hx
      by_cases x1 : x = c
      · rw [x1, v1]; exact ⟨o1, o2⟩
      · by_cases x2 : x = n
        · rw [x2, v2]; exact ⟨t1, t2⟩
        · rw [v3 _ (by omega) (by omega)]; exact n3 x hx
    have rest : ∀ u : XS, (∀ t c k, ¬ (t = 1 ∧ c = 37) → u t c k = s' t c k) → Nt 20 u A' → Ci 20 u A' := by
      intro u hu nt
      refine ⟨by rw [v3 _ (by omega) (by omega), hu _ _ _ (by omega)]; exact a1, by rw [v3 _ (by omega) (by omega), hu _ _ _ (by omega)]; exact a2, nt, a4.same (fun k => hu _ _ _ (by omega)) (fun j k _ _ => hu _ _ _ (by omega)) (fun k hk => v3 k (by omega) (by omega)), by rw [v3 _ (by omega) (by omega)]; exact a5, by rw [v3 _ (by omega) (by omega)]; exact a6, a7.same (by omega) (fun k => hu _ _ _ (by omega)) (fun k => hu _ _ _ (by omega)) (fun k hk => v3 k (by omega) (by omega)) (by rw [v3 _ (by omega) (by omega)]; exact Int.le_refl _), a8.same (by omega) (fun k => hu _ _ _ (by omega)) (fun k => hu _ _ _ (by omega)) (fun k hk => v3 k (by omega) (by omega)) (by rw [v3 _ (by omega) (by omega)]; exact Int.le_refl _)⟩
    have A1 : A' 1 = A 1 := v3 1 (by omega) (by omega)
    have A2 : A' 2 = A 2 := v3 2 (by omega) (by omega)
    rw [block_x s' 20 (by omega) (by omega), show ((d : Int)).toNat = d from rfl, show ((c : Int)).toNat = c from rfl]
    by_cases st : bZ (s' 1 (20 + 17) d) c
    · have dz := dir_z w' q4 h' q6 c (by omega) d hd q3 q5 hc hb
      rw [en] at dz
      rw [if_pos st, q7 d hd, dz, if_neg (by omega), d2_t d hd, show ((((d + 2) % 4 : Nat) : Int)).toNat = (d + 2) % 4 from rfl, show 20 + 17 = 37 from rfl]
      have g := WR.block q4 q6 q3 q5 q8 hc hd hb en
      obtain ⟨u, hu⟩ : ∃ u, u = xup (xup s' 1 37 d (Xiand (s' 1 37 d) (Xixor (Xishl 1 (c : Int)) (-1)))) 1 37 ((d + 2) % 4) (Xiand (xup s' 1 37 d (Xiand (s' 1 37 d) (Xixor (Xishl 1 (c : Int)) (-1))) 1 37 ((d + 2) % 4)) (Xixor (Xishl 1 (n : Int)) (-1))) := ⟨_, rfl⟩
      rw [← hu]
      have un : ∀ t c k, ¬ (t = 1 ∧ c = 37) → u t c k = s' t c k := fun t c k h => by
        rw [hu]
        unfold xup
        rw [if_neg (fun q => h ⟨q.1, q.2.1⟩), if_neg (fun q => h ⟨q.1, q.2.1⟩)]
      have u1 : u 1 37 d = Xiand (s' 1 37 d) (Xixor (Xishl 1 (c : Int)) (-1)) := by rw [hu, xup_k (by omega), xup_s]
      have u2 : u 1 37 ((d + 2) % 4) = Xiand (s' 1 37 ((d + 2) % 4)) (Xixor (Xishl 1 (n : Int)) (-1)) := by rw [hu, xup_s, xup_k (by omega)]
      have u3 : ∀ y, y ≠ d → y ≠ (d + 2) % 4 → u 1 37 y = s' 1 37 y := fun y h1 h2 => by rw [hu, xup_k h2, xup_k h1]
      have su : ∀ x y, y < 4 → (Sx u 20 x y ↔ (Sx s' 20 x y ∧ ¬ ((x = c ∧ y = d) ∨ (x = n ∧ y = (d + 2) % 4)))) := by
        intro x y hy
        unfold Sx
        by_cases y1 : y = d
        · subst y1
          rw [show u 1 (20 + 17) y = _ from u1]
          constructor
          · rintro ⟨z1, z2⟩
            rw [clr_x (by omega) (by omega) z1] at z2
            refine ⟨⟨z1, z2.1⟩, ?_⟩
            rintro (⟨q, -⟩ | ⟨-, q⟩)
            · exact z2.2 q
            · omega
          · rintro ⟨⟨z1, z2⟩, z3⟩
            refine ⟨z1, ?_⟩
            rw [clr_x (by omega) (by omega) z1]
            exact ⟨z2, fun q => z3 (Or.inl ⟨q, rfl⟩)⟩
        · by_cases y2 : y = (d + 2) % 4
          · subst y2
            rw [show u 1 (20 + 17) ((d + 2) % 4) = _ from u2]
            constructor
            · rintro ⟨z1, z2⟩
              rw [clr_x (by omega) (by omega) z1] at z2
              refine ⟨⟨z1, z2.1⟩, ?_⟩
              rintro (⟨-, q⟩ | ⟨q, -⟩)
              · omega
              · exact z2.2 q
            · rintro ⟨⟨z1, z2⟩, z3⟩
              refine ⟨z1, ?_⟩
              rw [clr_x (by omega) (by omega) z1]
              exact ⟨z2, fun q => z3 (Or.inr ⟨q, rfl⟩)⟩
          · rw [show u 1 (20 + 17) y = _ from u3 y y1 y2]
            constructor
            · intro z
              refine ⟨z, ?_⟩
              rintro (⟨-, q⟩ | ⟨-, q⟩)
              · exact y1 q
              · exact y2 q
            · exact fun z => z.1
      exact rest u un ⟨by rw [A1, un _ _ _ (by omega)]; exact n1, by rw [A2, un _ _ _ (by omega)]; exact n2, wb, Or.inr ⟨w', h', by rw [un _ _ _ (by omega)]; exact q1, by rw [un _ _ _ (by omega)]; exact q2, q3, q4, q5, q6, fun d hd => by rw [un _ _ _ (by omega)]; exact q7 d hd, g.same su wx⟩⟩
    · rw [if_neg st]
      have g := WR.again q8 hc hd en (fun q => st q.2)
      exact rest s' (fun _ _ _ _ => rfl) ⟨by rw [A1]; exact n1, by rw [A2]; exact n2, wb, Or.inr ⟨w', h', q1, q2, q3, q4, q5, q6, q7, g.same (fun _ _ _ => Iff.rfl) wx⟩⟩

/-- what else a line tells -/
theorem Ci_free {s s' : XS} {A A' : Nat → Int} {v : Int} (hC : Ci 20 s A) (hs : ∀ t c k, 20 ≤ c → c ≤ 38 → ¬ (t = 0 ∧ c = 20 ∧ k = 8) → s' t c k = s t c k) (h1 : s' 0 20 8 = v) (h2 : A' 10 = v) (hA : ∀ k, k ≠ 10 → A' k = A k) : Ci 20 s' A' := by
  obtain ⟨a1, a2, a3, a4, a5, a6, a7, a8⟩ := hC
  exact ⟨by rw [hA _ (by omega), hs _ _ _ (by omega) (by omega) (by omega)]; exact a1, h2.trans h1.symm, a3.same (hs _ _ _ (by omega) (by omega) (by omega)) (hs _ _ _ (by omega) (by omega) (by omega)) (fun d => hs _ _ _ (by omega) (by omega) (by omega)) (fun d => hs _ _ _ (by omega) (by omega) (by omega)) (fun k hk => hA k (by omega)), a4.same (fun k => hs _ _ _ (by omega) (by omega) (by omega)) (fun j k _ _ => hs _ _ _ (by omega) (by omega) (by omega)) (fun k hk => hA k (by omega)), by rw [hA _ (by omega)]; exact a5, by rw [hA _ (by omega)]; exact a6, a7.same (by omega) (fun k => hs _ _ _ (by omega) (by omega) (by omega)) (fun k => hs _ _ _ (by omega) (by omega) (by omega)) (fun k hk => hA k (by omega)) (by rw [hA _ (by omega)]; exact Int.le_refl _), a8.same (by omega) (fun k => hs _ _ _ (by omega) (by omega) (by omega)) (fun k => hs _ _ _ (by omega) (by omega) (by omega)) (fun k hk => hA k (by omega)) (by rw [hA _ (by omega)]; exact Int.le_refl _)⟩
theorem Ci_lines {s s' : XS} {A A' : Nat → Int} {v : Int} (hC : Ci 20 s A) (hs : ∀ t c k, 20 ≤ c → c ≤ 38 → ¬ (t = 0 ∧ c = 20 ∧ k = 7) → s' t c k = s t c k) (h1 : s' 0 20 7 = v) (h2 : A' 0 = v) (hA : ∀ k, k ≠ 0 → A' k = A k) : Ci 20 s' A' := by
  obtain ⟨a1, a2, a3, a4, a5, a6, a7, a8⟩ := hC
  exact ⟨h2.trans h1.symm, by rw [hA _ (by omega), hs _ _ _ (by omega) (by omega) (by omega)]; exact a2, a3.same (hs _ _ _ (by omega) (by omega) (by omega)) (hs _ _ _ (by omega) (by omega) (by omega)) (fun d => hs _ _ _ (by omega) (by omega) (by omega)) (fun d => hs _ _ _ (by omega) (by omega) (by omega)) (fun k hk => hA k (by omega)), a4.same (fun k => hs _ _ _ (by omega) (by omega) (by omega)) (fun j k _ _ => hs _ _ _ (by omega) (by omega) (by omega)) (fun k hk => hA k (by omega)), by rw [hA _ (by omega)]; exact a5, by rw [hA _ (by omega)]; exact a6, a7.same (by omega) (fun k => hs _ _ _ (by omega) (by omega) (by omega)) (fun k => hs _ _ _ (by omega) (by omega) (by omega)) (fun k hk => hA k (by omega)) (by rw [hA _ (by omega)]; exact Int.le_refl _), a8.same (by omega) (fun k => hs _ _ _ (by omega) (by omega) (by omega)) (fun k => hs _ _ _ (by omega) (by omega) (by omega)) (fun k hk => hA k (by omega)) (by rw [hA _ (by omega)]; exact Int.le_refl _)⟩
theorem Ci_hour {s s' : XS} {A A' : Nat → Int} {v : Int} (hC : Ci 20 s A) (hs : ∀ t c k, 20 ≤ c → c ≤ 38 → ¬ (t = 0 ∧ c = 29 ∧ k = 8) → s' t c k = s t c k) (h1 : s' 0 29 8 = v) (h2 : A' 111 = v) (hA : ∀ k, k ≠ 111 → A' k = A k) : Ci 20 s' A' := by
  obtain ⟨a1, a2, a3, ⟨f1, f2, f3, f4, f5, f6, f7⟩, a5, a6, a7, a8⟩ := hC
  have e7 : s' 0 29 7 = s 0 29 7 := hs _ _ _ (by omega) (by omega) (by omega)
  refine ⟨by rw [hA _ (by omega), hs _ _ _ (by omega) (by omega) (by omega)]; exact a1, by rw [hA _ (by omega), hs _ _ _ (by omega) (by omega) (by omega)]; exact a2, a3.same (hs _ _ _ (by omega) (by omega) (by omega)) (hs _ _ _ (by omega) (by omega) (by omega)) (fun d => hs _ _ _ (by omega) (by omega) (by omega)) (fun d => hs _ _ _ (by omega) (by omega) (by omega)) (fun k hk => hA k (by omega)), ⟨by rw [hA _ (by omega)]; exact f1.trans e7.symm, by show 0 ≤ s' 0 29 7; rw [e7]; exact f2, by show s' 0 29 7 ≤ 5; rw [e7]; exact f3, h2.trans h1.symm, fun p hp => ?_, fun p hp => ?_, fun c hc => ?_⟩, by rw [hA _ (by omega)]; exact a5, by rw [hA _ (by omega)]; exact a6, a7.same (by omega) (fun k => hs _ _ _ (by omega) (by omega) (by omega)) (fun k => hs _ _ _ (by omega) (by omega) (by omega)) (fun k hk => hA k (by omega)) (by rw [hA _ (by omega)]; exact Int.le_refl _), a8.same (by omega) (fun k => hs _ _ _ (by omega) (by omega) (by omega)) (fun k => hs _ _ _ (by omega) (by omega) (by omega)) (fun k hk => hA k (by omega)) (by rw [hA _ (by omega)]; exact Int.le_refl _)⟩
  · have hp : (p : Int) < s 0 29 7 := by rw [← e7]; exact hp
    have f3 : s 0 29 7 ≤ 5 := f3
    rw [hA (36 + p) (by omega), hA (41 + p) (by omega), hA (46 + p) (by omega), hA (51 + p) (by omega), hs 1 (20 + 10) p (by omega) (by omega) (by omega), hs 1 (20 + 11) p (by omega) (by omega) (by omega), hs 1 (20 + 12) p (by omega) (by omega) (by omega), hs 1 (20 + 13) p (by omega) (by omega) (by omega)]
    exact f5 p hp
  · rw [hA (56 + p) (by omega), hs 1 (20 + 14) p (by omega) (by omega) (by omega)]
    exact f6 p hp
  · rw [hA (61 + c) (by omega), hA (86 + c) (by omega), hs 1 (20 + 15) c (by omega) (by omega) (by omega), hs 1 (20 + 16) c (by omega) (by omega) (by omega)]
    exact f7 c hc
/-- one more person -/
theorem Ci_settle {s s' : XS} {A A' : Nat → Int} {c h l k : Int} {P : Nat} (hC : Ci 20 s A) (hP : s 0 29 7 = (P : Int)) (h5 : P < 5) (hs : ∀ t c k, 20 ≤ c → c ≤ 38 → s' t c k = s t c k) (hA : ∀ j, j ≠ 3 → j ≠ 36 + P → j ≠ 41 + P → j ≠ 46 + P → j ≠ 51 + P → A' j = A j) (h3 : A' 3 = A 3 + 1) (ha : A' (36 + P) = c) (hb : A' (41 + P) = h) (hc : A' (46 + P) = l) (hd : A' (51 + P) = k) : Ci 20 (f_X1_settle s' 29 c h l k).1 A' := by
  have e : (f_X1_settle s' 29 c h l k).1 = xup (xup (xup (xup (xup s' 1 30 P c) 1 31 P h) 1 32 P l) 1 33 P k) 0 29 7 ((P : Int) + 1) := by
    have e7 : s' 0 29 7 = (P : Int) := (hs _ _ _ (by omega) (by omega)).trans hP
    simp only [f_X1_settle, g1b_X1_settle, g2_X1_settle, g3_X1_settle, g4w_X1_settle, g5w_X1_settle, g6w_X1_settle, g7w_X1_settle, g8w_X1_settle]
    rw [if_pos (by omega)]
    have xt : ∀ (z : XS) (c' k' : Nat) (v : Int), xup z 1 c' k' v 0 29 7 = z 0 29 7 := fun z c' k' v => xup_t (by decide)
    simp only [xt, e7]
    rfl
  obtain ⟨u, hu⟩ : ∃ u, u = (f_X1_settle s' 29 c h l k).1 := ⟨_, rfl⟩
  rw [← hu] at e ⊢
  have f : ∀ t c' j, 20 ≤ c' → c' ≤ 38 → ¬ (t = 0 ∧ c' = 29 ∧ j = 7) → ¬ (t = 1 ∧ 30 ≤ c' ∧ c' ≤ 33 ∧ j = P) → u t c' j = s t c' j := by
    intro t c' j q1 q2 q3 q4
    rw [e, ← hs t c' j q1 q2]
    unfold xup
    rw [if_neg (fun q => q3 q), if_neg (fun q => q4 ⟨q.1, by omega, by omega, q.2.2⟩), if_neg (fun q => q4 ⟨q.1, by omega, by omega, q.2.2⟩), if_neg (fun q => q4 ⟨q.1, by omega, by omega, q.2.2⟩), if_neg (fun q => q4 ⟨q.1, by omega, by omega, q.2.2⟩)]
  have u7 : u 0 29 7 = (P : Int) + 1 := by rw [e, xup_s]
  have u30 : u 1 30 P = c := by rw [e, xup_t (by decide), xup_c (by decide), xup_c (by decide), xup_c (by decide), xup_s]
  have u31 : u 1 31 P = h := by rw [e, xup_t (by decide), xup_c (by decide), xup_c (by decide), xup_s]
  have u32 : u 1 32 P = l := by rw [e, xup_t (by decide), xup_c (by decide), xup_s]
  have u33 : u 1 33 P = k := by rw [e, xup_t (by decide), xup_s]
  have g : ∀ j, j = 0 ∨ j = 10 ∨ j = 1 ∨ j = 2 ∨ (4 ≤ j ∧ j ≤ 35) ∨ 56 ≤ j → A' j = A j := fun j hj => hA j (by omega) (by omega) (by omega) (by omega) (by omega)
  obtain ⟨a1, a2, a3, ⟨f1, f2, f3, f4, f5, f6, f7⟩, a5, a6, a7, a8⟩ := hC
  refine ⟨by rw [g _ (by omega), f _ _ _ (by omega) (by omega) (by omega) (by omega)]; exact a1, by rw [g _ (by omega), f _ _ _ (by omega) (by omega) (by omega) (by omega)]; exact a2, a3.same (f _ _ _ (by omega) (by omega) (by omega) (by omega)) (f _ _ _ (by omega) (by omega) (by omega) (by omega)) (fun d => f _ _ _ (by omega) (by omega) (by omega) (by omega)) (fun d => f _ _ _ (by omega) (by omega) (by omega) (by omega)) (fun k hk => g k (by omega)), ⟨?_, ?_, ?_, ?_, fun p hp => ?_, fun p hp => ?_, fun c hc => ?_⟩, by rw [g _ (by omega)]; exact a5, by rw [g _ (by omega)]; exact a6, a7.same (by omega) (fun k => f _ _ _ (by omega) (by omega) (by omega) (by omega)) (fun k => f _ _ _ (by omega) (by omega) (by omega) (by omega)) (fun k hk => g k (by omega)) (by rw [g _ (by omega)]; exact Int.le_refl _), a8.same (by omega) (fun k => f _ _ _ (by omega) (by omega) (by omega) (by omega)) (fun k => f _ _ _ (by omega) (by omega) (by omega) (by omega)) (fun k hk => g k (by omega)) (by rw [g _ (by omega)]; exact Int.le_refl _)⟩
  · show A' 3 = u 0 29 7
    rw [h3, u7, f1, ← hP]
  · show 0 ≤ u 0 29 7
    omega
  · show u 0 29 7 ≤ 5
    omega
  · rw [g _ (by omega)]
    show A 111 = u 0 29 8
    rw [f _ _ _ (by omega) (by omega) (by omega) (by omega)]
    exact f4
  · have hp : (p : Int) < u 0 29 7 := hp
    rw [u7] at hp
    show A' (36 + p) = u 1 30 p ∧ A' (41 + p) = u 1 31 p ∧ A' (46 + p) = u 1 32 p ∧ A' (51 + p) = u 1 33 p
    by_cases q : p = P
    · subst q
      exact ⟨ha.trans u30.symm, hb.trans u31.symm, hc.trans u32.symm, hd.trans u33.symm⟩
    · rw [hA (36 + p) (by omega) (by omega) (by omega) (by omega) (by omega), hA (41 + p) (by omega) (by omega) (by omega) (by omega) (by omega), hA (46 + p) (by omega) (by omega) (by omega) (by omega) (by omega), hA (51 + p) (by omega) (by omega) (by omega) (by omega) (by omega), f _ _ _ (by omega) (by omega) (by omega) (by omega), f _ _ _ (by omega) (by omega) (by omega) (by omega), f _ _ _ (by omega) (by omega) (by omega) (by omega), f _ _ _ (by omega) (by omega) (by omega) (by omega)]
      exact f5 p (by show (p : Int) < s 0 29 7; rw [hP]; omega)
  · rw [g (56 + p) (by omega), f _ _ _ (by omega) (by omega) (by omega) (by omega)]
    exact f6 p hp
  · rw [g (61 + c) (by omega), g (86 + c) (by omega), f _ _ _ (by omega) (by omega) (by omega) (by omega), f _ _ _ (by omega) (by omega) (by omega) (by omega)]
    exact f7 c hc
