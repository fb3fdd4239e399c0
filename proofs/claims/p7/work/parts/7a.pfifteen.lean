/-! city: both -/
theorem cp_l {t c k : Nat} : ∀ (n : Nat) (s : XS) (x : Int), 0 ≤ x → x ≤ 1774 → 1774 - x < (n : Int) → ((L24_X12_city n s x).1 t c k = if t = 1 ∧ c = 1 ∧ x ≤ (k : Int) ∧ (k : Int) < 1774 then s 1 4 k else s t c k) ∧ (L24_X12_city n s x).2 = (L24_X12_city n s x).1 1 1 0
  | 0, s, x, h0, h1, hn => by omega
  | n + 1, s, x, h0, h1, hn => by
    show ((g25l_X12_city (L24_X12_city n) s x).1 t c k = _) ∧ (g25l_X12_city (L24_X12_city n) s x).2 = (g25l_X12_city (L24_X12_city n) s x).1 1 1 0
    simp only [g25l_X12_city, g26b_X12_city, g27_X12_city, g28_X12_city, g29w_X12_city]
    by_cases z : x < 1774
    · rw [if_pos z]
      obtain ⟨i1, i2⟩ := cp_l (t := t) (c := c) (k := k) n (xup s 1 1 (Int.toNat x) (s 1 4 (Int.toNat x))) (x + 1) (by omega) (by omega) (by omega)
      refine ⟨?_, i2⟩
      rw [i1, xup_c (show (4 : Nat) ≠ 1 by decide)]
      by_cases q : t = 1 ∧ c = 1 ∧ x ≤ (k : Int) ∧ (k : Int) < 1774
      · rw [if_pos q]
        by_cases r : (k : Int) = x
        · rw [if_neg (by omega)]
          have e : k = Int.toNat x := by omega
          obtain ⟨rfl, rfl, -, -⟩ := q
          rw [e, xup_s]
        · rw [if_pos ⟨q.1, q.2.1, by omega, q.2.2.2⟩]
      · rw [if_neg q, if_neg (fun r => q ⟨r.1, r.2.1, by omega, r.2.2.2⟩)]
        unfold xup
        rw [if_neg (fun r => q ⟨r.1, r.2.1, by omega, by omega⟩)]
    · rw [if_neg z]
      refine ⟨?_, rfl⟩
      rw [if_neg (fun r => by omega)]
theorem g20_x (v : XS) : (∀ t c k, ¬ (t = 0 ∧ c = 0 ∧ (k = 13 ∨ k = 14)) → ¬ (t = 1 ∧ c = 1 ∧ k < 1774) → (g20_X12_city v).1 t c k = v t c k) ∧ (g20_X12_city v).1 0 0 13 = v 0 0 11 ∧ (g20_X12_city v).1 0 0 14 = -1 ∧ (∀ k, k < 1774 → (g20_X12_city v).1 1 1 k = v 1 4 k) ∧ (g20_X12_city v).2 = (g20_X12_city v).1 1 1 0 := by
  have lp := fun t c k => cp_l (t := t) (c := c) (k := k) (Int.toNat (1774 - 0 + 1)) (xup (xup v 0 0 13 (v 0 0 11)) 0 0 14 (-1)) 0 (by decide) (by decide) (by show 1774 - (0 : Int) < ((1775 : Nat) : Int); decide)
  have e : g20_X12_city v = L24_X12_city (Int.toNat (1774 - 0 + 1)) (xup (xup v 0 0 13 (v 0 0 11)) 0 0 14 (-1)) 0 := by
    simp only [g20_X12_city, g22w_X12_city, g23w_X12_city]
  rw [e]
  refine ⟨fun t c k h1 h2 => ?_, ?_, ?_, fun k hk => ?_, (lp 0 0 0).2⟩
  · rw [(lp t c k).1, if_neg (fun q => h2 ⟨q.1, q.2.1, by omega⟩)]
    unfold xup
    rw [if_neg (fun q => h1 ⟨q.1, q.2.1, Or.inr q.2.2⟩), if_neg (fun q => h1 ⟨q.1, q.2.1, Or.inl q.2.2⟩)]
  · rw [(lp 0 0 13).1, if_neg (by decide), xup_k (by decide), xup_s]
  · rw [(lp 0 0 14).1, if_neg (by decide), xup_s]
  · rw [(lp 1 1 k).1, if_pos ⟨rfl, rfl, by omega, by omega⟩, xup_t (by decide), xup_t (by decide)]
theorem new_x (s : XS) (t c k : Nat) (h : ¬ (c = 0 ∨ c = 79 ∨ c = 104)) : (f_X11_startAnew s).1 t c k = s t c k := by
  simp only [f_X11_startAnew, g1w_X11_startAnew, g2c_X11_startAnew, g3c_X11_startAnew, f_X2_forget, g1w_X2_forget, f_X3_forget, g1w_X3_forget, g2w_X3_forget]
  rw [xup_c (by omega), xup_c (by omega), xup_c (by omega), xup_c (by omega)]
def FrU (s u : XS) : Prop := ∀ t c k, ¬ (t = 0 ∧ c = 77 ∧ 2 ≤ k ∧ k ≤ 9) → ¬ (t = 3 ∧ c = 77 ∧ k = 10) → ¬ (c ≤ 38) → c ≠ 79 → c ≠ 104 → u t c k = s t c k
def FrV (m v : XS) : Prop := ∀ t c k, ¬ (t = 0 ∧ c = 0 ∧ (k = 0 ∨ (5 ≤ k ∧ k ≤ 14))) → ¬ (t = 1 ∧ c = 4) → ¬ (t = 1 ∧ c = 1 ∧ k < 1774) → v t c k = m t c k
theorem City_x {s m : XS} {n : Int} (E : Sb (s 1 78) (m 1 3)) (hf : s 0 77 2 = m 0 0 5) (h5 : m 0 0 5 ≤ 900) : (f_X11_city s n).2 = (f_X12_city m n).2 ∧
    ((¬ (0 ≤ n ∧ n ≤ m 0 0 5) ∧ (f_X11_city s n).1 = s ∧ (f_X12_city m n).1 = xup m 0 0 0 0) ∨
     (FrR s (f_X11_city s n).1 ∧ FrV m (f_X12_city m n).1 ∧ (f_X12_city m n).1 1 1 = m 1 1 ∧ (f_X11_city s n).1 0 77 2 = 0 ∧ (f_X12_city m n).1 0 0 5 = 0 ∧ (f_X11_city s n).1 0 77 8 = (f_X12_city m n).1 0 0 13 ∧ (f_X11_city s n).1 0 77 9 = (f_X12_city m n).1 0 0 14) ∨
     (FrU s (f_X11_city s n).1 ∧ FrV m (f_X12_city m n).1 ∧ Ci 1 (f_X11_city s n).1 ((f_X12_city m n).1 1 1) ∧ (f_X11_city s n).1 0 77 2 = 0 ∧ (f_X12_city m n).1 0 0 5 = 0 ∧ (f_X11_city s n).1 0 77 8 = (f_X12_city m n).1 0 0 13 ∧ (f_X11_city s n).1 0 77 9 = (f_X12_city m n).1 0 0 14)) := by
  have e5 : xup m 0 0 0 0 0 0 5 = m 0 0 5 := xup_k (by decide)
  by_cases c : 0 ≤ n ∧ n ≤ m 0 0 5
  · have ec : f_X11_city s n = if (f_X5_read s n).2 = 0 then ((f_X11_startAnew (f_X0_copy (f_X5_read s n).1 1 20).1).1, (f_X11_startAnew (f_X0_copy (f_X5_read s n).1 1 20).1).1 0 1 7) else ((f_X5_read s n).1, Xisub (-30) (f_X5_read s n).2) := by
      have e0 : f_X11_city s n = if n < 0 then (s, -3) else if s 0 77 2 < n then (s, -3) else g6_X11_city s n := rfl
      rw [e0, if_neg (by omega), if_neg (by omega)]
      rfl
    obtain ⟨u, v, r1, f1, f2, u2, v5, r⟩ := Read_x E c.1 c.2 (by omega)
    rw [ec, r1]
    rcases r with ⟨q1, q2, q3, q9, q4⟩ | ⟨q1, q2, q3, q4⟩
    · obtain ⟨w1, w2, w3, w4, w5⟩ := g20_x v
      rw [q4]
      have ei : (if (u, u 0 77 8).2 = 0 then ((f_X11_startAnew (f_X0_copy (u, u 0 77 8).1 1 20).1).1, (f_X11_startAnew (f_X0_copy (u, u 0 77 8).1 1 20).1).1 0 1 7) else ((u, u 0 77 8).1, Xisub (-30) (u, u 0 77 8).2)) = ((f_X11_startAnew (f_X0_copy u 1 20).1).1, (f_X11_startAnew (f_X0_copy u 1 20).1).1 0 1 7) := if_pos q2
      rw [ei]
      obtain ⟨k1, k2⟩ := Ci_copy_1_20 (q1.row (A' := (g20_X12_city v).1 1 1) w4)
      generalize (f_X0_copy u 1 20).1 = y at *
      have nx := new_x y
      generalize (f_X11_startAnew y).1 = z at *
      generalize (g20_X12_city v).1 = V at *
      have ci : Ci 1 z (V 1 1) := k1.same (fun t j k hj => nx t (1 + j) k (by omega))
      have z77 : ∀ k, z 0 77 k = u 0 77 k := fun k => (nx 0 77 k (by omega)).trans (k2 0 77 k (by omega))
      refine ⟨by rw [w5]; exact ci.1.symm, Or.inr (Or.inr ⟨fun t c k a1 a2 a3 a4 a5 => ?_, fun t c k a1 a2 a3 => ?_, ci, by show z 0 77 2 = 0; rw [z77]; exact u2, by rw [w1 0 0 5 (by omega) (by omega)]; exact v5, by show z 0 77 8 = _; rw [z77, w2, q2, q3], by show z 0 77 9 = _; rw [z77, w3, q9]⟩)⟩
      · show z t c k = _
        rw [nx t c k (by omega), k2 t c k (by omega)]
        exact f1 t c k a1 a2 (by omega)
      · rw [w1 t c k (fun q => a1 ⟨q.1, q.2.1, by omega⟩) a3]
        exact f2 t c k (fun q => a1 ⟨q.1, q.2.1, by omega⟩) a2
    · have ei : (if (u, u 0 77 8).2 = 0 then ((f_X11_startAnew (f_X0_copy (u, u 0 77 8).1 1 20).1).1, (f_X11_startAnew (f_X0_copy (u, u 0 77 8).1 1 20).1).1 0 1 7) else ((u, u 0 77 8).1, Xisub (-30) (u, u 0 77 8).2)) = (u, Xisub (-30) (u 0 77 8)) := if_neg q1
      have eg : g15_X12_city v = (xup (xup v 0 0 13 (v 0 0 11)) 0 0 14 (v 0 0 12), Xisub (-30) (v 0 0 11)) := by
        simp only [g15_X12_city, g17w_X12_city, g18w_X12_city]
        rw [xup_k (show (12 : Nat) ≠ 13 by decide), xup_k (show (11 : Nat) ≠ 14 by decide), xup_k (show (11 : Nat) ≠ 13 by decide)]
      rw [ei, q4, eg]
      dsimp only
      refine ⟨by rw [q2], Or.inr (Or.inl ⟨f1, fun t c k a1 a2 a3 => ?_, ?_, u2, ?_, ?_, ?_⟩)⟩
      · show xup (xup v 0 0 13 (v 0 0 11)) 0 0 14 (v 0 0 12) t c k = _
        rw [← f2 t c k (fun q => a1 ⟨q.1, q.2.1, by omega⟩) a2]
        unfold xup
        rw [if_neg (fun q => a1 ⟨q.1, q.2.1, by omega⟩), if_neg (fun q => a1 ⟨q.1, q.2.1, by omega⟩)]
      · funext k
        show xup (xup v 0 0 13 (v 0 0 11)) 0 0 14 (v 0 0 12) 1 1 k = _
        rw [xup_t (by decide), xup_t (by decide)]
        exact f2 1 1 k (by omega) (by omega)
      · show xup (xup v 0 0 13 (v 0 0 11)) 0 0 14 (v 0 0 12) 0 0 5 = 0
        rw [xup_k (by decide), xup_k (by decide)]
        exact v5
      · show u 0 77 8 = xup (xup v 0 0 13 (v 0 0 11)) 0 0 14 (v 0 0 12) 0 0 13
        rw [xup_k (by decide), xup_s, q2]
      · show u 0 77 9 = xup (xup v 0 0 13 (v 0 0 11)) 0 0 14 (v 0 0 12) 0 0 14
        rw [xup_s, q3]
  · have em : f_X12_city m n = (xup m 0 0 0 0, -3) := by
      simp only [f_X12_city, g1w_X12_city, g2c_X12_city, g3b_X12_city, within_x, e5]
      rw [if_neg c, if_pos rfl]
      rfl
    have ec : f_X11_city s n = (s, -3) := by
      have e0 : f_X11_city s n = if n < 0 then (s, -3) else if s 0 77 2 < n then (s, -3) else g6_X11_city s n := rfl
      rw [e0]
      by_cases z : n < 0
      · rw [if_pos z]
      · rw [if_neg z, if_pos (by omega)]
    rw [em, ec]
    exact ⟨rfl, Or.inl ⟨c, rfl, rfl⟩⟩
