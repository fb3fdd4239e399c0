/-! a whole text -/
theorem Bd.adv0 {T : Nat → Int} {x : Nat → Int} (h8 : x 8 = 0) (b2 : 0 ≤ x 6) (b3 : x 6 ≤ x 3) (b4 : x 3 ≤ 900) : Bd (advS T x) ∧ x 6 ≤ advS T x 5 := by
  unfold advS
  rw [if_pos h8]
  have q := skP_bd (T := T) (n := x 3) (901 - x 6).toNat (x 6)
  have e : skP T (x 3) (901 - x 6).toNat (x 6) = skip T (x 3) (x 6) := rfl
  rw [e] at q
  generalize skip T (x 3) (x 6) = p at q ⊢
  unfold advT
  split
  · exact ⟨⟨by show 0 ≤ p; omega, Int.le_refl _, by show p ≤ x 3; omega, b4, fun z => absurd rfl z, fun z => by have z : (0 : Int) = 2 := z; omega⟩, q.1⟩
  · rename_i c0
    split
    · rename_i c1
      have r := rnP_bd (T := T) (n := x 3) (lo := 97) (hi := 122) (901 - (p + 1)).toNat (p + 1)
      have e2 : rnP T (x 3) 97 122 (901 - (p + 1)).toNat (p + 1) = run T (x 3) 97 122 p := run_s (by omega) rfl ⟨by omega, c1⟩
      rw [e2] at r
      exact ⟨⟨by show 0 ≤ p; omega, by show p ≤ run T (x 3) 97 122 p; omega, by show run T (x 3) 97 122 p ≤ x 3; omega, b4, fun _ => by show p < run T (x 3) 97 122 p; omega, fun z => by have z : (1 : Int) = 2 := z; omega⟩, q.1⟩
    · split
      · rename_i c2
        have r := rnP_bd (T := T) (n := x 3) (lo := 48) (hi := 57) (901 - (p + 1)).toNat (p + 1)
        have e2 : rnP T (x 3) 48 57 (901 - (p + 1)).toNat (p + 1) = run T (x 3) 48 57 p := run_s (by omega) rfl ⟨by omega, c2⟩
        rw [e2] at r
        unfold advN
        split
        · obtain ⟨f3, f5, f6, f4⟩ := fail_58 (k := 1) (x := upI (upI (upI (upI (upI (upI x 5 p) 6 p) 4 2) 7 0) 7 (num T (x 3) p 0)) 6 (run T (x 3) 48 57 p))
          unfold Bd
          rw [f3, f5, f6, f4]
          exact ⟨⟨by show 0 ≤ p; omega, by show p ≤ run T (x 3) 48 57 p; omega, by show run T (x 3) 48 57 p ≤ x 3; omega, b4, fun z => absurd rfl z, fun z => by have z : (0 : Int) = 2 := z; omega⟩, q.1⟩
        · exact ⟨⟨by show 0 ≤ p; omega, by show p ≤ run T (x 3) 48 57 p; omega, by show run T (x 3) 48 57 p ≤ x 3; omega, b4, fun _ => by show p < run T (x 3) 48 57 p; omega, fun _ => num_bd (by rename_i c3; omega)⟩, q.1⟩
      · split
        · rename_i c3
          exact ⟨⟨by show 0 ≤ p; omega, by show p ≤ p + 1; omega, by show p + 1 ≤ x 3; omega, b4, fun _ => by show p < p + 1; omega, fun z => by have z : T p.toNat = 2 := z; omega⟩, q.1⟩
        · obtain ⟨f3, f5, f6, f4⟩ := fail_58 (k := 1) (x := upI (upI x 5 p) 6 p)
          unfold Bd
          rw [f3, f5, f6, f4]
          exact ⟨⟨by show 0 ≤ p; omega, Int.le_refl _, by show p ≤ x 3; omega, b4, fun z => absurd rfl z, fun z => by have z : (0 : Int) = 2 := z; omega⟩, q.1⟩
theorem nxM_6 {U x : Nat → Int} : nxM U x 6 = skip U (x 8) (x 7) := by
  unfold nxM nxT
  (repeat' split) <;> rfl
noncomputable def s0C (s : XS) (n : Int) : XS := xup (xup (xup (xup (xup (f_X0_clear s 20).1 0 77 2 0) 0 77 3 n) 0 77 6 0) 0 77 8 0) 0 77 9 (-1)
theorem read_e (s : XS) (n : Int) : f_X5_read s n = L8_X5_read (900 + 1) (f_X5_advance (s0C s n)).1 0 := by
  have e : Int.toNat (900 - 0 + 1) = 900 + 1 := by decide
  rw [← e]
  rfl
noncomputable def m0M (m : XS) (n : Int) : XS := (f_X12_plain4 (xup (xup (xup (xup (xup m 0 0 0 0) 0 0 8 n) 0 0 5 0) 0 0 7 0) 0 0 11 0)).1
noncomputable def fuM (v : XS) : Nat := Int.toNat (2 * (900 - v 0 0 6) + 1 - min 1 (max (v 0 0 11) (-(v 0 0 11))) + 1)
theorem city_e {m : XS} {n : Int} (h0 : 0 ≤ n) (h1 : n ≤ m 0 0 5) : f_X12_city m n = L12_X12_city (fuM (f_X12_next (m0M m n)).1) (f_X12_next (m0M m n)).1 := by
  have e5 : xup m 0 0 0 0 0 0 5 = m 0 0 5 := xup_k (by decide)
  simp only [f_X12_city, g1w_X12_city, g2c_X12_city, g3b_X12_city, within_x, e5]
  rw [if_pos (show 0 ≤ n ∧ n ≤ m 0 0 5 from ⟨h0, h1⟩), if_neg (show ¬ (1 : Int) = 0 by decide)]
  simp only [g4_X12_city, g6w_X12_city, g7w_X12_city, g8w_X12_city, g9w_X12_city, g10c_X12_city, g11c_X12_city, fuM, m0M]
theorem s0C_x (s : XS) (n : Int) : (∀ t c k, ¬ (t = 0 ∧ c = 77 ∧ 2 ≤ k ∧ k ≤ 9) → ¬ (20 ≤ c ∧ c ≤ 38) → s0C s n t c k = s t c k) ∧ s0C s n 0 77 2 = 0 ∧ s0C s n 0 77 3 = n ∧ s0C s n 0 77 6 = 0 ∧ s0C s n 0 77 8 = 0 ∧ s0C s n 0 77 9 = -1 ∧ (∀ t c k, 20 ≤ c → c ≤ 38 → s0C s n t c k = (f_X0_clear s 20).1 t c k) := by
  obtain ⟨c1, -⟩ := clear_x s
  unfold s0C
  refine ⟨fun t c k h1 h2 => ?_, ?_, ?_, ?_, ?_, xup_s, fun t c k h1 h2 => ?_⟩
  · rw [← c1 t c k h2]
    unfold xup
    rw [if_neg (fun q => h1 ⟨q.1, q.2.1, by omega⟩), if_neg (fun q => h1 ⟨q.1, q.2.1, by omega⟩), if_neg (fun q => h1 ⟨q.1, q.2.1, by omega⟩), if_neg (fun q => h1 ⟨q.1, q.2.1, by omega⟩), if_neg (fun q => h1 ⟨q.1, q.2.1, by omega⟩)]
  · rw [xup_k (by decide), xup_k (by decide), xup_k (by decide), xup_k (by decide), xup_s]
  · rw [xup_k (by decide), xup_k (by decide), xup_k (by decide), xup_s]
  · rw [xup_k (by decide), xup_k (by decide), xup_s]
  · rw [xup_k (by decide), xup_s]
  · rw [xup_c (by omega), xup_c (by omega), xup_c (by omega), xup_c (by omega), xup_c (by omega)]
theorem m0M_x (m : XS) (n : Int) : (∀ t c k, ¬ (t = 0 ∧ c = 0 ∧ (k = 0 ∨ (5 ≤ k ∧ k ≤ 12))) → ¬ (t = 1 ∧ c = 4) → m0M m n t c k = m t c k) ∧ m0M m n 0 0 8 = n ∧ m0M m n 0 0 5 = 0 ∧ m0M m n 0 0 7 = 0 ∧ m0M m n 0 0 11 = 0 ∧ (∀ k, k < 1774 → m0M m n 1 4 k = 0) := by
  unfold m0M
  refine ⟨fun t c k h1 h2 => ?_, ?_, ?_, ?_, ?_, fun k hk => ?_⟩
  · rw [plain_x, if_neg (fun q => h2 ⟨q.1, q.2.1⟩)]
    unfold xup
    rw [if_neg (fun q => h1 ⟨q.1, q.2.1, by omega⟩), if_neg (fun q => h1 ⟨q.1, q.2.1, by omega⟩), if_neg (fun q => h1 ⟨q.1, q.2.1, by omega⟩), if_neg (fun q => h1 ⟨q.1, q.2.1, by omega⟩), if_neg (fun q => h1 ⟨q.1, q.2.1, by omega⟩)]
  · rw [plain_x, if_neg (by decide), xup_k (by decide), xup_k (by decide), xup_k (by decide), xup_s]
  · rw [plain_x, if_neg (by decide), xup_k (by decide), xup_k (by decide), xup_s]
  · rw [plain_x, if_neg (by decide), xup_k (by decide), xup_s]
  · rw [plain_x, if_neg (by decide), xup_s]
  · rw [plain_x, if_pos ⟨rfl, rfl, by omega⟩]
/-- what reading a text changes -/
def FrR (s u : XS) : Prop := ∀ t c k, ¬ (t = 0 ∧ c = 77 ∧ 2 ≤ k ∧ k ≤ 9) → ¬ (t = 3 ∧ c = 77 ∧ k = 10) → ¬ (20 ≤ c ∧ c ≤ 38) → u t c k = s t c k
def FrT (m v : XS) : Prop := ∀ t c k, ¬ (t = 0 ∧ c = 0 ∧ (k = 0 ∨ (5 ≤ k ∧ k ≤ 12))) → ¬ (t = 1 ∧ c = 4) → v t c k = m t c k
theorem Read_x {s m : XS} {n : Int} (E : Sb (s 1 78) (m 1 3)) (h0 : 0 ≤ n) (h1 : n ≤ m 0 0 5) (h9 : n ≤ 900) : ∃ u v, f_X5_read s n = (u, u 0 77 8) ∧ FrR s u ∧ FrT m v ∧ u 0 77 2 = 0 ∧ v 0 0 5 = 0 ∧ ((Ci 20 u (v 1 4) ∧ u 0 77 8 = 0 ∧ v 0 0 11 = 0 ∧ u 0 77 9 = -1 ∧ f_X12_city m n = g20_X12_city v) ∨ (u 0 77 8 ≠ 0 ∧ v 0 0 11 = u 0 77 8 ∧ v 0 0 12 = u 0 77 9 ∧ f_X12_city m n = g15_X12_city v)) := by
  obtain ⟨s1, s2, s3, s6, s8, s9, sc⟩ := s0C_x s n
  obtain ⟨m1, m8, m5, m7, m11, mc⟩ := m0M_x m n
  obtain ⟨-, k1, k2, k3, k4, k5, k6, k7, k8⟩ := clear_x s
  rw [read_e, city_e h0 h1]
  have Cs : Ci 20 (s0C s n) (m0M m n 1 4) := Ci_bare (fun k a b => by rw [sc _ _ _ (by omega) (by omega)]; exact k1 k a b) (by rw [sc _ _ _ (by omega) (by omega)]; exact k2) (by rw [sc _ _ _ (by omega) (by omega)]; exact k3) (by rw [sc _ _ _ (by omega) (by omega)]; exact k4) (by rw [sc _ _ _ (by omega) (by omega)]; exact k5) (fun p hp => by rw [sc _ _ _ (by omega) (by omega)]; exact k6 p hp) (fun p hp => by rw [sc _ _ _ (by omega) (by omega)]; exact k7 p hp) (fun p hp => by rw [sc _ _ _ (by omega) (by omega)]; exact k8 p hp) mc
  generalize s0C s n = S at *
  generalize m0M m n = M at *
  have e78 : S 1 78 = s 1 78 := funext fun k => s1 1 78 k (by omega) (by omega)
  have e3 : M 1 3 = m 1 3 := funext fun k => m1 1 3 k (by omega) (by omega)
  have E2 : Sb (S 1 78) (M 1 3) := by rw [e78, e3]; exact E
  obtain ⟨w, hw⟩ : ∃ w : WW, w = (M 0 0 100, M 0 0 101, M 0 0 102, M 0 0 103) := ⟨_, rfl⟩
  have ok : Ok w (S 0 77) (M 0 0) := ⟨s8, m11, by rw [s3, m8], by rw [s6, m7], by rw [hw], by rw [hw], by rw [hw], by rw [hw], s9⟩
  have hT : ∀ j, -128 ≤ S 1 78 j ∧ S 1 78 j ≤ 127 := fun j => by have := E2 j; omega
  have ea := adv_x S (by omega) ⟨by omega, by omega⟩ hT
  have en := nxt_m M (by omega) ⟨by omega, by omega⟩
  have r := R_adv0 E2 ok
  have b := Bd.adv0 (T := S 1 78) (x := S 0 77) s8 (by omega) (by omega) (by omega)
  have a6 : nxM (M 1 3) (M 0 0) 6 ≤ 900 := by
    rw [nxM_6]
    have q := (skP_bd (T := M 1 3) (n := M 0 0 8) (901 - M 0 0 7).toNat (M 0 0 7)).2 (by omega)
    have e : skP (M 1 3) (M 0 0 8) (901 - M 0 0 7).toNat (M 0 0 7) = skip (M 1 3) (M 0 0 8) (M 0 0 7) := rfl
    rw [e] at q
    omega
  have a11 : nxM (M 1 3) (M 0 0) 11 = 0 := nx_11.trans m11
  rw [ea, en]
  show ∃ u v, L8_X5_read (900 + 1) (pO 77 S (advS (S 1 78) (S 0 77))) 0 = (u, u 0 77 8) ∧ _
  obtain ⟨P, hP⟩ : ∃ P, P = pO 77 S (advS (S 1 78) (S 0 77)) := ⟨_, rfl⟩
  obtain ⟨N, hN⟩ : ∃ N, N = pO 0 M (nxM (M 1 3) (M 0 0)) := ⟨_, rfl⟩
  show ∃ u v, L8_X5_read (900 + 1) (pO 77 S (advS (S 1 78) (S 0 77))) 0 = (u, u 0 77 8) ∧ FrR s u ∧ FrT m v ∧ u 0 77 2 = 0 ∧ v 0 0 5 = 0 ∧ ((Ci 20 u (v 1 4) ∧ u 0 77 8 = 0 ∧ v 0 0 11 = 0 ∧ u 0 77 9 = -1 ∧ L12_X12_city (fuM (pO 0 M (nxM (M 1 3) (M 0 0)))) (pO 0 M (nxM (M 1 3) (M 0 0))) = g20_X12_city v) ∨ (u 0 77 8 ≠ 0 ∧ v 0 0 11 = u 0 77 8 ∧ v 0 0 12 = u 0 77 9 ∧ L12_X12_city (fuM (pO 0 M (nxM (M 1 3) (M 0 0)))) (pO 0 M (nxM (M 1 3) (M 0 0))) = g15_X12_city v))
  rw [← hP, ← hN]
  have p77 : P 0 77 = advS (S 1 78) (S 0 77) := by rw [hP, put_at]
  have n00 : N 0 0 = nxM (M 1 3) (M 0 0) := by rw [hN, put_at]
  have p78 : P 1 78 = S 1 78 := by rw [hP, put_1]
  have n13 : N 1 3 = M 1 3 := by rw [hN, put_1]
  have n14 : N 1 4 = M 1 4 := by rw [hN, put_1]
  have pn : ∀ t c k, c ≠ 77 → P t c k = S t c k := fun t c k h => by rw [hP, put_n (fun q => h q.2)]
  have nn : ∀ t c k, c ≠ 0 → N t c k = M t c k := fun t c k h => by rw [hN, put_n (fun q => h q.2)]
  have fu : fuM N = Int.toNat (2 * (900 - N 0 0 6)) + 2 := by
    unfold fuM
    rw [n00, a11]
    omega
  have lp : ∃ u v, L8_X5_read (900 + 1) P 0 = (u, u 0 77 8) ∧ Rdn P N u v (L12_X12_city (fuM N) N) := by
    rcases r with ⟨r1, r2, r3⟩ | r
    · refine Rd_loop (w := w) (fuM N) (900 + 1) 0 P N (by rw [p78, n13]; exact E2) (by rw [p78, p77, n00]; exact ⟨r1, r2, r3, b.1⟩) ⟨?_, ?_⟩ ?_ (by decide) ?_
      · rw [n14]
        exact Cs.same (fun t j k hj => pn t (20 + j) k (by omega))
      · rw [n14, mc 873 (by decide), p77]
        exact b.1.1
      · rw [fu, p77, n00]
        omega
      · rw [p77]
        exact b.1.1
    · rw [fu]
      exact Rd_dead (by rw [p77, n00]; exact r) _ 900 0
  obtain ⟨u, v, g1, g2, g3, g4⟩ := lp
  have f1 : FrR s u := by
    intro t c k q1 q2 q3
    rw [g2 t c k (fun q => q1 ⟨q.1, q.2.1, by omega⟩) q2 q3]
    by_cases e : t = 0 ∧ c = 77
    · obtain ⟨rfl, rfl⟩ := e
      rw [p77, advS_fr k (fun q => q1 ⟨rfl, rfl, by omega⟩)]
      exact s1 0 77 k q1 q3
    · rw [hP, put_n e]
      exact s1 t c k q1 q3
  have f2 : FrT m v := by
    intro t c k q1 q2
    rw [g3 t c k (fun q => q1 ⟨q.1, q.2.1, by omega⟩) q2]
    by_cases e : t = 0 ∧ c = 0
    · obtain ⟨rfl, rfl⟩ := e
      rw [n00, nxM_fr k (fun q => q1 ⟨rfl, rfl, by omega⟩)]
      exact m1 0 0 k q1 q2
    · rw [hN, put_n e]
      exact m1 t c k q1 q2
  have u2 : u 0 77 2 = 0 := by
    rw [g2 0 77 2 (by omega) (by omega) (by omega), p77, advS_fr 2 (by omega)]
    exact s2
  have v5 : v 0 0 5 = 0 := by
    rw [g3 0 0 5 (by omega) (by omega), n00, nxM_fr 5 (by omega)]
    exact m5
  refine ⟨u, v, g1, f1, f2, u2, v5, ?_⟩
  rcases g4 with ⟨q1, q2, q3, q9, q4⟩ | q
  · exact Or.inl ⟨q1.1, q2, q3, q9, q4⟩
  · exact Or.inr q
