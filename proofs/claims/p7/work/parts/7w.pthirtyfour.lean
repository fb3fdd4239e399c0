/-! people and all that deeds change, as a row of 76 numbers -/
def rwC (s : XS) (b k : Nat) : Int := if k < 5 then s 1 (b + 1) k else if k < 10 then s 1 (b + 2) (k - 5) else if k < 15 then s 1 (b + 3) (k - 10) else if k < 20 then s 1 (b + 4) (k - 15) else if k < 25 then s 1 (b + 5) (k - 20) else if k < 50 then s 1 (b + 6) (k - 25) else if k < 75 then s 1 (b + 7) (k - 50) else s 0 b 8
/-- places that count: of so many people -/
def lvP (P : Int) (k : Nat) : Prop := k < 76 ∧ (k < 20 → ((k % 5 : Nat) : Int) < P)
def Fw (P : Int) (R Q : Nat → Int) : Prop := ∀ k, lvP P k → R k = Q k
theorem Fw.rf {P : Int} {R : Nat → Int} : Fw P R R := fun _ _ => rfl
theorem Fw.tr {P : Int} {R Q S : Nat → Int} (h : Fw P R Q) (g : Fw P Q S) : Fw P R S := fun k q => (h k q).trans (g k q)
theorem Fw.sy {P : Int} {R Q : Nat → Int} (h : Fw P R Q) : Fw P Q R := fun k q => (h k q).symm
theorem rwC_same {s u : XS} {b : Nat} (h : ∀ t c k, b ≤ c → c ≤ b + 7 → u t c k = s t c k) : rwC u b = rwC s b := by
  funext k
  unfold rwC
  rw [h 1 (b + 1) k (by omega) (by omega), h 1 (b + 2) (k - 5) (by omega) (by omega), h 1 (b + 3) (k - 10) (by omega) (by omega), h 1 (b + 4) (k - 15) (by omega) (by omega), h 1 (b + 5) (k - 20) (by omega) (by omega), h 1 (b + 6) (k - 25) (by omega) (by omega), h 1 (b + 7) (k - 50) (by omega) (by omega), h 0 b 8 (by omega) (by omega)]
theorem rw_at {s : XS} {b p : Nat} (h : p < 5) : rwC s b p = s 1 (b + 1) p := by unfold rwC; rw [if_pos h]
theorem rw_hd {s : XS} {b p : Nat} (h : p < 5) : rwC s b (5 + p) = s 1 (b + 2) p := by
  unfold rwC
  rw [if_neg (by omega), if_pos (by omega), show 5 + p - 5 = p by omega]
theorem rw_lf {s : XS} {b p : Nat} (h : p < 5) : rwC s b (10 + p) = s 1 (b + 3) p := by
  unfold rwC
  rw [if_neg (by omega), if_neg (by omega), if_pos (by omega), show 10 + p - 10 = p by omega]
theorem rw_co {s : XS} {b p : Nat} (h : p < 5) : rwC s b (15 + p) = s 1 (b + 4) p := by
  unfold rwC
  rw [if_neg (by omega), if_neg (by omega), if_neg (by omega), if_pos (by omega), show 15 + p - 15 = p by omega]
theorem rw_us {s : XS} {b p : Nat} (h : p < 5) : rwC s b (20 + p) = s 1 (b + 5) p := by
  unfold rwC
  rw [if_neg (by omega), if_neg (by omega), if_neg (by omega), if_neg (by omega), if_pos (by omega), show 20 + p - 20 = p by omega]
theorem rw_so {s : XS} {b c : Nat} (h : c < 25) : rwC s b (25 + c) = s 1 (b + 6) c := by
  unfold rwC
  rw [if_neg (by omega), if_neg (by omega), if_neg (by omega), if_neg (by omega), if_neg (by omega), if_pos (by omega), show 25 + c - 25 = c by omega]
theorem rw_fo {s : XS} {b c : Nat} (h : c < 25) : rwC s b (50 + c) = s 1 (b + 7) c := by
  unfold rwC
  rw [if_neg (by omega), if_neg (by omega), if_neg (by omega), if_neg (by omega), if_neg (by omega), if_neg (by omega), if_pos (by omega), show 50 + c - 50 = c by omega]
theorem rw_hr {s : XS} {b : Nat} : rwC s b 75 = s 0 b 8 := by unfold rwC; rfl
/-- what Fk says, by rows -/
theorem Fk_rw {b : Nat} {s : XS} {A : Nat → Int} : Fk b s A ↔ (A 3 = s 0 (b + 9) 7 ∧ 0 ≤ s 0 (b + 9) 7 ∧ s 0 (b + 9) 7 ≤ 5 ∧ Fw (s 0 (b + 9) 7) (rwC s (b + 9)) (fun k => A (36 + k))) := by
  unfold Fk
  have e : ∀ j, b + 9 + j = b + (9 + j) := fun j => by omega
  constructor
  · rintro ⟨a1, a2, a3, a4, a5, a6, a7⟩
    refine ⟨a1, a2, a3, fun k hk => ?_⟩
    obtain ⟨k1, k2⟩ := hk
    show rwC s (b + 9) k = A (36 + k)
    by_cases c1 : k < 5
    · have q := (a5 k (by have := k2 (by omega); omega)).1
      rw [rw_at c1, e]; exact q.symm
    by_cases c2 : k < 10
    · obtain ⟨p, rfl⟩ : ∃ p, k = 5 + p := ⟨k - 5, by omega⟩
      have q := (a5 p (by have := k2 (by omega); omega)).2.1
      rw [rw_hd (by omega), e, show 36 + (5 + p) = 41 + p by omega]; exact q.symm
    by_cases c3 : k < 15
    · obtain ⟨p, rfl⟩ : ∃ p, k = 10 + p := ⟨k - 10, by omega⟩
      have q := (a5 p (by have := k2 (by omega); omega)).2.2.1
      rw [rw_lf (by omega), e, show 36 + (10 + p) = 46 + p by omega]; exact q.symm
    by_cases c4 : k < 20
    · obtain ⟨p, rfl⟩ : ∃ p, k = 15 + p := ⟨k - 15, by omega⟩
      have q := (a5 p (by have := k2 (by omega); omega)).2.2.2
      rw [rw_co (by omega), e, show 36 + (15 + p) = 51 + p by omega]; exact q.symm
    by_cases c5 : k < 25
    · obtain ⟨p, rfl⟩ : ∃ p, k = 20 + p := ⟨k - 20, by omega⟩
      rw [rw_us (by omega), e, show 36 + (20 + p) = 56 + p by omega]; exact (a6 p (by omega)).symm
    by_cases c6 : k < 50
    · obtain ⟨p, rfl⟩ : ∃ p, k = 25 + p := ⟨k - 25, by omega⟩
      rw [rw_so (by omega), e, show 36 + (25 + p) = 61 + p by omega]; exact (a7 p (by omega)).1.symm
    by_cases c7 : k < 75
    · obtain ⟨p, rfl⟩ : ∃ p, k = 50 + p := ⟨k - 50, by omega⟩
      rw [rw_fo (by omega), e, show 36 + (50 + p) = 86 + p by omega]; exact (a7 p (by omega)).2.symm
    · obtain rfl : k = 75 := by omega
      rw [rw_hr]; exact a4.symm
  · rintro ⟨a1, a2, a3, a4⟩
    have g : ∀ k, lvP (s 0 (b + 9) 7) k → A (36 + k) = rwC s (b + 9) k := fun k hk => (a4 k hk).symm
    refine ⟨a1, a2, a3, ?_, fun p hp => ⟨?_, ?_, ?_, ?_⟩, fun p hp => ?_, fun c hc => ⟨?_, ?_⟩⟩
    · exact (g 75 ⟨by decide, fun q => absurd q (by decide)⟩).trans rw_hr
    · have q := g p ⟨by omega, fun _ => by omega⟩
      rw [rw_at (by omega), e] at q; exact q
    · have q := g (5 + p) ⟨by omega, fun _ => by omega⟩
      rw [rw_hd (by omega), e, show 36 + (5 + p) = 41 + p by omega] at q; exact q
    · have q := g (10 + p) ⟨by omega, fun _ => by omega⟩
      rw [rw_lf (by omega), e, show 36 + (10 + p) = 46 + p by omega] at q; exact q
    · have q := g (15 + p) ⟨by omega, fun _ => by omega⟩
      rw [rw_co (by omega), e, show 36 + (15 + p) = 51 + p by omega] at q; exact q
    · have q := g (20 + p) ⟨by omega, fun y => by omega⟩
      rw [rw_us (by omega), e, show 36 + (20 + p) = 56 + p by omega] at q; exact q
    · have q := g (25 + c) ⟨by omega, fun y => by omega⟩
      rw [rw_so (by omega), e, show 36 + (25 + c) = 61 + c by omega] at q; exact q
    · have q := g (50 + c) ⟨by omega, fun y => by omega⟩
      rw [rw_fo (by omega), e, show 36 + (50 + c) = 86 + c by omega] at q; exact q
/-! copies of folk -/
def inF (b c : Nat) : Prop := b ≤ c ∧ c ≤ b + 7
theorem fcopy_x (s : XS) {d e : Nat} (h : d + 7 < e ∨ e + 7 < d) : (f_X1_copy s d e).1 0 d 7 = s 0 e 7 ∧ (∀ k, k < 76 → rwC (f_X1_copy s d e).1 d k = rwC s e k) ∧ (∀ t c k, ¬ inF d c → (f_X1_copy s d e).1 t c k = s t c k) := by
  simp only [f_X1_copy, g1w_X1_copy, g2w_X1_copy, g3w_X1_copy, g4w_X1_copy, g5w_X1_copy, g6w_X1_copy, g7w_X1_copy, g8w_X1_copy, g9w_X1_copy]
  refine ⟨?_, fun k hk => ?_, fun t c k hc => ?_⟩
  · rw [xup_k (by decide), xup_s, xcp_t (by decide), xcp_t (by decide), xcp_t (by decide), xcp_t (by decide), xcp_t (by decide), xcp_t (by decide), xcp_t (by decide)]
  · unfold rwC
    by_cases c1 : k < 5
    · rw [if_pos c1, if_pos c1, xup_t (by decide), xup_t (by decide), xcp_c (by omega), xcp_c (by omega), xcp_c (by omega), xcp_c (by omega), xcp_c (by omega), xcp_c (by omega), xcp_s (by omega)]
    rw [if_neg c1, if_neg c1]
    by_cases c2 : k < 10
    · rw [if_pos c2, if_pos c2, xup_t (by decide), xup_t (by decide), xcp_c (by omega), xcp_c (by omega), xcp_c (by omega), xcp_c (by omega), xcp_c (by omega), xcp_s (by omega), xcp_c (by omega)]
    rw [if_neg c2, if_neg c2]
    by_cases c3 : k < 15
    · rw [if_pos c3, if_pos c3, xup_t (by decide), xup_t (by decide), xcp_c (by omega), xcp_c (by omega), xcp_c (by omega), xcp_c (by omega), xcp_s (by omega), xcp_c (by omega), xcp_c (by omega)]
    rw [if_neg c3, if_neg c3]
    by_cases c4 : k < 20
    · rw [if_pos c4, if_pos c4, xup_t (by decide), xup_t (by decide), xcp_c (by omega), xcp_c (by omega), xcp_c (by omega), xcp_s (by omega), xcp_c (by omega), xcp_c (by omega), xcp_c (by omega)]
    rw [if_neg c4, if_neg c4]
    by_cases c5 : k < 25
    · rw [if_pos c5, if_pos c5, xup_t (by decide), xup_t (by decide), xcp_c (by omega), xcp_c (by omega), xcp_s (by omega), xcp_c (by omega), xcp_c (by omega), xcp_c (by omega), xcp_c (by omega)]
    rw [if_neg c5, if_neg c5]
    by_cases c6 : k < 50
    · rw [if_pos c6, if_pos c6, xup_t (by decide), xup_t (by decide), xcp_c (by omega), xcp_s (by omega), xcp_c (by omega), xcp_c (by omega), xcp_c (by omega), xcp_c (by omega), xcp_c (by omega)]
    rw [if_neg c6, if_neg c6]
    by_cases c7 : k < 75
    · rw [if_pos c7, if_pos c7, xup_t (by decide), xup_t (by decide), xcp_s (by omega), xcp_c (by omega), xcp_c (by omega), xcp_c (by omega), xcp_c (by omega), xcp_c (by omega), xcp_c (by omega)]
    · rw [if_neg c7, if_neg c7, xup_s, xup_c (by omega), xcp_t (by decide), xcp_t (by decide), xcp_t (by decide), xcp_t (by decide), xcp_t (by decide), xcp_t (by decide), xcp_t (by decide)]
  · unfold inF at hc
    rw [xup_c (by omega), xup_c (by omega), xcp_c (by omega), xcp_c (by omega), xcp_c (by omega), xcp_c (by omega), xcp_c (by omega), xcp_c (by omega), xcp_c (by omega)]
theorem fcopy_t (s : XS) {d e : Nat} : ∀ t c k, ¬ (t = 1 ∧ d < c ∧ c ≤ d + 7) → ¬ (t = 0 ∧ c = d ∧ (k = 7 ∨ k = 8)) → (f_X1_copy s d e).1 t c k = s t c k := by
  intro t c k q1 q2
  simp only [f_X1_copy, g1w_X1_copy, g2w_X1_copy, g3w_X1_copy, g4w_X1_copy, g5w_X1_copy, g6w_X1_copy, g7w_X1_copy, g8w_X1_copy, g9w_X1_copy]
  have cp : ∀ (x : XS) (j i : Nat) (n : Int), ¬ (t = 1 ∧ c = i) → xcp x j i n t c k = x t c k := fun x j i n y => if_neg (fun z => y ⟨z.1, z.2.1⟩)
  have up : ∀ (x : XS) (j : Nat) (n : Int), (j = 7 ∨ j = 8) → xup x 0 d j n t c k = x t c k := fun x j n y => if_neg (fun z => q2 ⟨z.1, z.2.1, by have := z.2.2; omega⟩)
  rw [up _ _ _ (by decide), up _ _ _ (by decide), cp _ _ _ _ (by omega), cp _ _ _ _ (by omega), cp _ _ _ _ (by omega), cp _ _ _ _ (by omega), cp _ _ _ _ (by omega), cp _ _ _ _ (by omega), cp _ _ _ _ (by omega)]
/-! the reference's copies of the row -/
/-- a place of the reference's row of 76: was (cell 6), or all at 36 -/
theorem kp_l {t c k : Nat} : ∀ (n : Nat) (m : XS) (x : Int), 0 ≤ x → x ≤ 76 → 76 - x < (n : Int) → (L1_X12_keeps n m x).1 t c k = if t = 1 ∧ c = 6 ∧ x ≤ (k : Int) ∧ (k : Int) < 76 then m 1 1 (36 + k) else m t c k
  | 0, m, x, h0, h1, hn => by omega
  | n + 1, m, x, h0, h1, hn => by
    show (g2l_X12_keeps (L1_X12_keeps n) m x).1 t c k = _
    simp only [g2l_X12_keeps, g3b_X12_keeps, g4_X12_keeps, g5_X12_keeps, g6w_X12_keeps]
    by_cases z : x < 76
    · rw [if_pos z, kp_l n _ (x + 1) (by omega) (by omega) (by omega)]
      by_cases q : t = 1 ∧ c = 6 ∧ x ≤ (k : Int) ∧ (k : Int) < 76
      · rw [if_pos q]
        obtain ⟨rfl, rfl, q3, q4⟩ := q
        by_cases r : (k : Int) = x
        · rw [if_neg (by omega), show Int.toNat x = k by omega, xup_s, show Int.toNat (36 + x) = 36 + k by omega]
        · rw [if_pos ⟨rfl, rfl, by omega, q4⟩, xup_c (by decide)]
      · rw [if_neg q, if_neg (fun r => q ⟨r.1, r.2.1, by omega, r.2.2.2⟩)]
        unfold xup
        rw [if_neg (fun r => q ⟨r.1, r.2.1, by omega, by omega⟩)]
    · rw [if_neg z, if_neg (fun q => by omega)]
theorem keeps_x (m : XS) (t c k : Nat) : (f_X12_keeps m).1 t c k = if t = 1 ∧ c = 6 ∧ k < 76 then m 1 1 (36 + k) else m t c k := by
  have e : f_X12_keeps m = L1_X12_keeps (Int.toNat (76 - 0 + 1)) m 0 := rfl
  rw [e, kp_l _ m 0 (by decide) (by decide) (by decide)]
  by_cases q : t = 1 ∧ c = 6 ∧ k < 76
  · rw [if_pos q, if_pos ⟨q.1, q.2.1, by omega, by omega⟩]
  · rw [if_neg q, if_neg (fun r => q ⟨r.1, r.2.1, by omega⟩)]
theorem ag_l {t c k : Nat} : ∀ (n : Nat) (m : XS) (x : Int), 0 ≤ x → x ≤ 76 → 76 - x < (n : Int) → (L1_X12_isAgain n m x).1 t c k = if t = 1 ∧ c = 1 ∧ 36 + x ≤ (k : Int) ∧ (k : Int) < 112 then m 1 6 (k - 36) else m t c k
  | 0, m, x, h0, h1, hn => by omega
  | n + 1, m, x, h0, h1, hn => by
    show (g2l_X12_isAgain (L1_X12_isAgain n) m x).1 t c k = _
    simp only [g2l_X12_isAgain, g3b_X12_isAgain, g4_X12_isAgain, g5_X12_isAgain, g6w_X12_isAgain]
    by_cases z : x < 76
    · rw [if_pos z, ag_l n _ (x + 1) (by omega) (by omega) (by omega)]
      by_cases q : t = 1 ∧ c = 1 ∧ 36 + x ≤ (k : Int) ∧ (k : Int) < 112
      · rw [if_pos q]
        obtain ⟨rfl, rfl, q3, q4⟩ := q
        by_cases r : (k : Int) = 36 + x
        · rw [if_neg (by omega), show Int.toNat (36 + x) = k by omega, xup_s, show Int.toNat x = k - 36 by omega]
        · rw [if_pos ⟨rfl, rfl, by omega, q4⟩, xup_c (by decide)]
      · rw [if_neg q, if_neg (fun r => q ⟨r.1, r.2.1, by omega, r.2.2.2⟩)]
        unfold xup
        rw [if_neg (fun r => q ⟨r.1, r.2.1, by omega, by omega⟩)]
    · rw [if_neg z, if_neg (fun q => by omega)]
theorem again_x (m : XS) (t c k : Nat) : (f_X12_isAgain m).1 t c k = if t = 1 ∧ c = 1 ∧ 36 ≤ k ∧ k < 112 then m 1 6 (k - 36) else m t c k := by
  have e : f_X12_isAgain m = L1_X12_isAgain (Int.toNat (76 - 0 + 1)) m 0 := rfl
  rw [e, ag_l _ m 0 (by decide) (by decide) (by decide)]
  by_cases q : t = 1 ∧ c = 1 ∧ 36 ≤ k ∧ k < 112
  · rw [if_pos q, if_pos ⟨q.1, q.2.1, by omega, by omega⟩]
  · rw [if_neg q, if_neg (fun r => q ⟨r.1, r.2.1, by omega, by omega⟩)]
/-! notes: what was goes behind those that are kept -/
theorem n4_l {t c k : Nat} {N : Nat} (hN : N ≤ 9) : ∀ (n : Nat) (m : XS) (x : Int), m 1 1 112 = (N : Int) → 0 ≤ x → x ≤ 76 → 76 - x < (n : Int) → (L4_X12_notes n m x).1 t c k = if t = 1 ∧ c = 1 ∧ k = 112 then (N : Int) + 1 else if t = 1 ∧ c = 1 ∧ 113 + 76 * (N : Int) + x ≤ (k : Int) ∧ (k : Int) < 113 + 76 * (N : Int) + 76 then m 1 6 (k - (113 + 76 * N)) else m t c k
  | 0, m, x, hm, h0, h1, hn => by omega
  | n + 1, m, x, hm, h0, h1, hn => by
    show (g5l_X12_notes (L4_X12_notes n) m x).1 t c k = _
    simp only [g5l_X12_notes, g6b_X12_notes, g7_X12_notes, g8_X12_notes, g9w_X12_notes, g10w_X12_notes, show Int.toNat 112 = 112 from rfl, hm]
    by_cases z : x < 76
    · have k0 : Int.toNat (113 + 76 * (N : Int) + x) ≠ 112 := by omega
      rw [if_pos z, n4_l hN n _ (x + 1) (by rw [xup_k (by omega)]; exact hm) (by omega) (by omega) (by omega)]
      by_cases p : t = 1 ∧ c = 1 ∧ k = 112
      · rw [if_pos p, if_pos p]
      · rw [if_neg p, if_neg p]
        by_cases q : t = 1 ∧ c = 1 ∧ 113 + 76 * (N : Int) + x ≤ (k : Int) ∧ (k : Int) < 113 + 76 * (N : Int) + 76
        · rw [if_pos q]
          obtain ⟨rfl, rfl, q3, q4⟩ := q
          by_cases r : (k : Int) = 113 + 76 * (N : Int) + x
          · rw [if_neg (by omega), show Int.toNat (113 + 76 * (N : Int) + x) = k by omega, xup_s, show Int.toNat x = k - (113 + 76 * N) by omega]
          · rw [if_pos ⟨rfl, rfl, by omega, q4⟩, xup_c (by decide)]
        · rw [if_neg q, if_neg (fun r => q ⟨r.1, r.2.1, by omega, r.2.2.2⟩)]
          unfold xup
          rw [if_neg (fun r => q ⟨r.1, r.2.1, by omega, by omega⟩)]
    · rw [if_neg z]
      by_cases p : t = 1 ∧ c = 1 ∧ k = 112
      · rw [if_pos p]
        obtain ⟨rfl, rfl, rfl⟩ := p
        show xup m 1 1 112 ((N : Int) + 1) 1 1 112 = _
        exact xup_s
      · rw [if_neg p, if_neg (fun q => by omega)]
        unfold xup
        exact if_neg p
theorem n17_l {t c k : Nat} {N : Nat} (hN : N ≤ 9) : ∀ (n : Nat) (m : XS) (x : Int), m 1 1 112 = (N : Int) → 0 ≤ x → x ≤ 76 → 76 - x < (n : Int) → (L17_X12_notes n m x).1 t c k = if t = 1 ∧ c = 1 ∧ k = 112 then (N : Int) + 1 else if t = 1 ∧ c = 1 ∧ 113 + 76 * (N : Int) + x ≤ (k : Int) ∧ (k : Int) < 113 + 76 * (N : Int) + 76 then m 1 6 (k - (113 + 76 * N)) else m t c k
  | 0, m, x, hm, h0, h1, hn => by omega
  | n + 1, m, x, hm, h0, h1, hn => by
    show (g18l_X12_notes (L17_X12_notes n) m x).1 t c k = _
    simp only [g18l_X12_notes, g19b_X12_notes, g20_X12_notes, g21_X12_notes, g22w_X12_notes, g23w_X12_notes, show Int.toNat 112 = 112 from rfl, hm]
    by_cases z : x < 76
    · have k0 : Int.toNat (113 + 76 * (N : Int) + x) ≠ 112 := by omega
      rw [if_pos z, n17_l hN n _ (x + 1) (by rw [xup_k (by omega)]; exact hm) (by omega) (by omega) (by omega)]
      by_cases p : t = 1 ∧ c = 1 ∧ k = 112
      · rw [if_pos p, if_pos p]
      · rw [if_neg p, if_neg p]
        by_cases q : t = 1 ∧ c = 1 ∧ 113 + 76 * (N : Int) + x ≤ (k : Int) ∧ (k : Int) < 113 + 76 * (N : Int) + 76
        · rw [if_pos q]
          obtain ⟨rfl, rfl, q3, q4⟩ := q
          by_cases r : (k : Int) = 113 + 76 * (N : Int) + x
          · rw [if_neg (by omega), show Int.toNat (113 + 76 * (N : Int) + x) = k by omega, xup_s, show Int.toNat x = k - (113 + 76 * N) by omega]
          · rw [if_pos ⟨rfl, rfl, by omega, q4⟩, xup_c (by decide)]
        · rw [if_neg q, if_neg (fun r => q ⟨r.1, r.2.1, by omega, r.2.2.2⟩)]
          unfold xup
          rw [if_neg (fun r => q ⟨r.1, r.2.1, by omega, by omega⟩)]
    · rw [if_neg z]
      by_cases p : t = 1 ∧ c = 1 ∧ k = 112
      · rw [if_pos p]
        obtain ⟨rfl, rfl, rfl⟩ := p
        show xup m 1 1 112 ((N : Int) + 1) 1 1 112 = _
        exact xup_s
      · rw [if_neg p, if_neg (fun q => by omega)]
        unfold xup
        exact if_neg p
/-- the eldest is dropped: all of them move on by one -/
theorem n11_l : ∀ (n : Nat) (m : XS) (x : Int), 0 ≤ x → x ≤ 684 → 684 - x < (n : Int) → ∃ u : XS, L11_X12_notes n m x = g14_X12_notes u ∧ ∀ t c k, u t c k = if t = 1 ∧ c = 1 ∧ 113 + x ≤ (k : Int) ∧ (k : Int) < 797 then m 1 1 (k + 76) else m t c k
  | 0, m, x, h0, h1, hn => by omega
  | n + 1, m, x, h0, h1, hn => by
    have e : L11_X12_notes (n + 1) m x = if x < 684 then L11_X12_notes n (xup m 1 1 (Int.toNat (113 + x)) (m 1 1 (Int.toNat (189 + x)))) (x + 1) else g14_X12_notes m := by
      show g12l_X12_notes (L11_X12_notes n) m x = _
      simp only [g12l_X12_notes, g13b_X12_notes, g15_X12_notes, g24w_X12_notes]
    rw [e]
    by_cases z : x < 684
    · rw [if_pos z]
      obtain ⟨u, u1, u2⟩ := n11_l n (xup m 1 1 (Int.toNat (113 + x)) (m 1 1 (Int.toNat (189 + x)))) (x + 1) (by omega) (by omega) (by omega)
      refine ⟨u, u1, fun t c k => ?_⟩
      rw [u2]
      by_cases q : t = 1 ∧ c = 1 ∧ 113 + x ≤ (k : Int) ∧ (k : Int) < 797
      · rw [if_pos q]
        obtain ⟨rfl, rfl, q3, q4⟩ := q
        by_cases r : (k : Int) = 113 + x
        · rw [if_neg (by omega), show Int.toNat (113 + x) = k by omega, xup_s, show Int.toNat (189 + x) = k + 76 by omega]
        · rw [if_pos ⟨rfl, rfl, by omega, q4⟩, xup_k (by omega)]
      · rw [if_neg q, if_neg (fun r => q ⟨r.1, r.2.1, by omega, r.2.2.2⟩)]
        unfold xup
        rw [if_neg (fun r => q ⟨r.1, r.2.1, by omega, by omega⟩)]
    · rw [if_neg z]
      exact ⟨m, rfl, fun t c k => by rw [if_neg (fun q => by omega)]⟩
/-- what notes() does: with the eldest dropped where there are ten -/
theorem notes_x {m : XS} {N : Nat} (hm : m 1 1 112 = (N : Int)) (hN : N ≤ 10) : ∀ t c k, (f_X12_notes m).1 t c k = if t = 1 ∧ c = 1 ∧ k = 112 then (((if N = 10 then 10 else N + 1) : Nat) : Int) else if t = 1 ∧ c = 1 ∧ 113 + 76 * (if N = 10 then 9 else N) ≤ k ∧ k < 113 + 76 * (if N = 10 then 9 else N) + 76 then m 1 6 (k - (113 + 76 * (if N = 10 then 9 else N))) else if t = 1 ∧ c = 1 ∧ N = 10 ∧ 113 ≤ k ∧ k < 797 then m 1 1 (k + 76) else m t c k := by
  intro t c k
  have e0 : f_X12_notes m = if m 1 1 112 = 10 then L11_X12_notes (Int.toNat (684 - 0 + 1)) m 0 else L4_X12_notes (Int.toNat (76 - 0 + 1)) m 0 := rfl
  rw [e0, hm]
  by_cases h10 : N = 10
  · subst h10
    rw [if_pos (by decide)]
    obtain ⟨u, u1, u2⟩ := n11_l (Int.toNat (684 - 0 + 1)) m 0 (by decide) (by decide) (by decide)
    have u112 : u 1 1 112 = 10 := by rw [u2, if_neg (by omega)]; exact hm
    have e1 : g14_X12_notes u = L17_X12_notes (Int.toNat (76 - 0 + 1)) (xup u 1 1 112 9) 0 := by
      have e2 : g14_X12_notes u = L17_X12_notes (Int.toNat (76 - 0 + 1)) (xup u 1 1 112 (u 1 1 112 - 1)) 0 := rfl
      rw [e2, u112]
      rfl
    rw [u1, e1, n17_l (N := 9) (by decide) (Int.toNat (76 - 0 + 1)) (xup u 1 1 112 9) 0 xup_s (by decide) (by decide) (by decide)]
    simp only [if_true]
    by_cases p : t = 1 ∧ c = 1 ∧ k = 112
    · rw [if_pos p, if_pos p]; rfl
    rw [if_neg p, if_neg p]
    by_cases q : t = 1 ∧ c = 1 ∧ 113 + 76 * 9 ≤ k ∧ k < 113 + 76 * 9 + 76
    · rw [if_pos q, if_pos ⟨q.1, q.2.1, by omega, by omega⟩, xup_c (by decide), u2, if_neg (by omega)]
    · rw [if_neg q, if_neg (fun r => q ⟨r.1, r.2.1, by omega, by omega⟩)]
      have e3 : xup u 1 1 112 9 t c k = u t c k := by unfold xup; exact if_neg p
      rw [e3, u2]
      by_cases r : t = 1 ∧ c = 1 ∧ 113 ≤ k ∧ k < 797
      · rw [if_pos ⟨r.1, r.2.1, by omega, by omega⟩, if_pos ⟨r.1, r.2.1, trivial, r.2.2⟩]
      · rw [if_neg (fun y => r ⟨y.1, y.2.1, by omega, by omega⟩), if_neg (fun y => r ⟨y.1, y.2.1, y.2.2.2⟩)]
  · rw [if_neg (by omega), n4_l (N := N) (by omega) (Int.toNat (76 - 0 + 1)) m 0 hm (by decide) (by decide) (by decide)]
    simp only [if_neg h10]
    by_cases p : t = 1 ∧ c = 1 ∧ k = 112
    · rw [if_pos p, if_pos p]; omega
    rw [if_neg p, if_neg p]
    by_cases q : t = 1 ∧ c = 1 ∧ 113 + 76 * N ≤ k ∧ k < 113 + 76 * N + 76
    · rw [if_pos q, if_pos ⟨q.1, q.2.1, by omega, by omega⟩]
    · rw [if_neg q, if_neg (fun r => q ⟨r.1, r.2.1, by omega, by omega⟩), if_neg (fun y => h10 y.2.2.1)]
