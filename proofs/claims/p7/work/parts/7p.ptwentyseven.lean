/-! watch and thief: the reference's loops -/
theorem l17 {R24 : XS → Int → Int → XR} {R31 : XS → Int → Int → Int → XR} {n : Nat} {u : XS} {a1 x2 x3 x4 : Int} {w h : Nat} (h1 : u 1 1 1 = (w : Int)) (h2 : u 1 1 2 = (h : Int)) : L17_X12_laysCatches R24 R31 (n + 1) u a1 x2 x3 x4 = if x4 < ((4 * (w * h) : Nat) : Int) then L17_X12_laysCatches R24 R31 n (fC x2 x3 x4 u) a1 x2 x3 (x4 + 1) else R31 u a1 x2 (x3 + 1) := by
  show g18l_X12_laysCatches R24 R31 (L17_X12_laysCatches R24 R31 n) u a1 x2 x3 x4 = _
  have ec : f_X12_crossings u = (u, (w : Int) * (h : Int)) := by
    rw [← h1, ← h2]; rfl
  have e4 : 4 * ((w : Int) * (h : Int)) = ((4 * (w * h) : Nat) : Int) := by
    rw [Int.natCast_mul, Int.natCast_mul]; rfl
  have es : (f_X12_isSure u x3 x4 x2).1 = u := pu_f_X12_isSure
  simp only [g18l_X12_laysCatches, g19c_X12_laysCatches, g20b_X12_laysCatches, g21_X12_laysCatches, g22_X12_laysCatches, g23b_X12_laysCatches, g24_X12_laysCatches, g25_X12_laysCatches, g26c_X12_laysCatches, g27b_X12_laysCatches, g28_X12_laysCatches, g29_X12_laysCatches, g30w_X12_laysCatches, ec, e4, es]
  unfold fC
  by_cases z : x4 < ((4 * (w * h) : Nat) : Int)
  · rw [if_pos z, if_pos z]
    by_cases y : u 1 22 (Int.toNat (100 * x3 + x4)) = -1
    · rw [if_pos y, if_pos y]
      by_cases q : (f_X12_isSure u x3 x4 x2).2 = 0
      · rw [if_pos q, if_pos q]
      · rw [if_neg q, if_neg q]
    · rw [if_neg y, if_neg y]
  · rw [if_neg z, if_neg z]
theorem fC_f {n t y : Int} {u : XS} : F22 (fC n t y u) u := by
  unfold fC
  split
  · split
    · exact fun _ _ _ _ => rfl
    · exact F22.up (fun _ _ _ _ => rfl)
  · exact fun _ _ _ _ => rfl
theorem F22.tr {a b c : XS} (h : F22 a b) (g : F22 b c) : F22 a c := fun t c' k q => (h t c' k q).trans (g t c' k q)
theorem fR_f {N n t : Int} {u : XS} (hN : 0 ≤ N) : F22 (fR N n t u) u := itr_all (fun _ v => F22 v u) hN (fun _ _ _ _ => rfl) (fun _ _ _ _ h => fC_f.tr h)
theorem l11 {R24 : XS → Int → Int → XR} {n : Nat} {u : XS} {a1 x2 x3 : Int} {w h : Nat} (h1 : u 1 1 1 = (w : Int)) (h2 : u 1 1 2 = (h : Int)) (hN : w * h ≤ 25) : L11_X12_laysCatches R24 (n + 1) u a1 x2 x3 = if x3 < ((4 * (w * h) : Nat) : Int) then L11_X12_laysCatches R24 n (fR ((4 * (w * h) : Nat) : Int) x2 x3 u) a1 x2 (x3 + 1) else R24 u a1 (x2 + 1) := by
  show g12l_X12_laysCatches R24 (L11_X12_laysCatches R24 n) u a1 x2 x3 = _
  have ec : f_X12_crossings u = (u, (w : Int) * (h : Int)) := by
    rw [← h1, ← h2]; rfl
  have e4 : 4 * ((w : Int) * (h : Int)) = ((4 * (w * h) : Nat) : Int) := by
    rw [Int.natCast_mul, Int.natCast_mul]; rfl
  simp only [g12l_X12_laysCatches, g13c_X12_laysCatches, g14b_X12_laysCatches, g15_X12_laysCatches, g16_X12_laysCatches, ec, e4]
  by_cases z : x3 < ((4 * (w * h) : Nat) : Int)
  · rw [if_pos z, if_pos z]
    exact itr_loopI (L := fun n u x4 => L17_X12_laysCatches R24 (L11_X12_laysCatches R24 _) n u a1 x2 x3 x4) (f := fC x2 x3) (E := fun u => L11_X12_laysCatches R24 _ u a1 x2 (x3 + 1)) (I := fun u => u 1 1 1 = (w : Int) ∧ u 1 1 2 = (h : Int)) (fun n s x hI _ => l17 hI.1 hI.2) (fun x s hI _ _ => by rw [fC_f 1 1 1 (by decide), fC_f 1 1 2 (by decide)]; exact hI) _ 0 u ⟨h1, h2⟩ (by decide) (by omega) (by show _ < ((101 : Nat) : Int); omega)
  · rw [if_neg z, if_neg z]
noncomputable def fA (N : Int) (n : Int) (u : XS) : XS := itr (fR N n) (N - 0).toNat 0 u
theorem fA_f {N n : Int} {u : XS} (hN : 0 ≤ N) : F22 (fA N n u) u := itr_all (fun _ v => F22 v u) hN (fun _ _ _ _ => rfl) (fun _ _ _ _ h => (fR_f hN).tr h)
theorem l6 {n : Nat} {u : XS} {a1 x2 : Int} {w h : Nat} (h1 : u 1 1 1 = (w : Int)) (h2 : u 1 1 2 = (h : Int)) (hN : w * h ≤ 25) : L6_X12_laysCatches (n + 1) u a1 x2 = if x2 < a1 + 1 then L6_X12_laysCatches n (fA ((4 * (w * h) : Nat) : Int) x2 u) a1 (x2 + 1) else (u, 0) := by
  show g7l_X12_laysCatches (L6_X12_laysCatches n) u a1 x2 = _
  simp only [g7l_X12_laysCatches, g8b_X12_laysCatches, g9_X12_laysCatches, g10_X12_laysCatches]
  by_cases z : a1 < x2
  · rw [if_pos z, if_neg (by omega)]
  · rw [if_neg z, if_pos (by omega)]
    exact itr_loopI (L := fun n u x3 => L11_X12_laysCatches (L6_X12_laysCatches _) n u a1 x2 x3) (f := fR ((4 * (w * h) : Nat) : Int) x2) (E := fun u => L6_X12_laysCatches _ u a1 (x2 + 1)) (I := fun u => u 1 1 1 = (w : Int) ∧ u 1 1 2 = (h : Int)) (fun n s x hI _ => l11 hI.1 hI.2 hN) (fun x s hI _ _ => by rw [fR_f (by omega) 1 1 1 (by decide), fR_f (by omega) 1 1 2 (by decide)]; exact hI) _ 0 u ⟨h1, h2⟩ (by decide) (by omega) (by show _ < ((101 : Nat) : Int); omega)
noncomputable def fInit (x : Int) (u : XS) : XS := xup u 1 22 (Int.toNat x) (Xi2b (-1))
theorem lays_v {s m : XS} {w h g : Nat} (L : Ld s (m 1 1) w h) (hg : g ≤ 30) : F22 (f_X12_laysCatches m (g : Int)).1 m ∧ ∀ t v, t < 4 * (w * h) → v < 4 * (w * h) → TV (m 1 1) (g + 1) ((f_X12_laysCatches m (g : Int)).1 1 22 (100 * t + v)) t v := by
  have b25 := L.b25
  have e0 : f_X12_laysCatches m (g : Int) = L1_X12_laysCatches (Int.toNat (10000 - 0 + 1)) m (g : Int) 0 := rfl
  have e1 : L1_X12_laysCatches (Int.toNat (10000 - 0 + 1)) m (g : Int) 0 = L6_X12_laysCatches (Int.toNat (31 - 0 + 1)) (itr fInit (10000 - 0 : Int).toNat 0 m) (g : Int) 0 := itr_loop (L := fun n u x => L1_X12_laysCatches n u (g : Int) x) (f := fInit) (E := fun u => L6_X12_laysCatches (Int.toNat (31 - 0 + 1)) u (g : Int) 0) (N := 10000) (fun n s x => by
    show g2l_X12_laysCatches (L1_X12_laysCatches n) s (g : Int) x = _
    simp only [g2l_X12_laysCatches, g3b_X12_laysCatches, g4_X12_laysCatches, g5_X12_laysCatches, g31w_X12_laysCatches]
    rfl) _ 0 m (by decide) (by decide)
  rw [e0, e1]
  have i0 := itr_all (f := fInit) (N := 10000) (x := 0) (s := m) (fun x u => F22 u m ∧ ∀ k : Nat, (k : Int) < x → u 1 22 k = -1) (by decide) ⟨fun _ _ _ _ => rfl, fun k hk => by omega⟩ (fun y u q1 q2 q => by
    refine ⟨q.1.up, fun k hk => ?_⟩
    have em : Xi2b (-1) = -1 := by decide
    unfold fInit
    by_cases z : k = Int.toNat y
    · rw [z, xup_s, em]
    · rw [xup_k z]
      exact q.2 k (by omega))
  generalize itr fInit (10000 - 0 : Int).toNat 0 m = u at *
  have r1 : u 1 1 1 = (w : Int) := by rw [i0.1 1 1 1 (by decide)]; exact L.2.1.2.2.1
  have r2 : u 1 1 2 = (h : Int) := by rw [i0.1 1 1 2 (by decide)]; exact L.2.1.2.2.2
  have e2 : L6_X12_laysCatches (Int.toNat (31 - 0 + 1)) u (g : Int) 0 = (itr (fA ((4 * (w * h) : Nat) : Int)) ((g : Int) + 1 - 0).toNat 0 u, 0) := itr_loopI (L := fun n u x => L6_X12_laysCatches n u (g : Int) x) (f := fA ((4 * (w * h) : Nat) : Int)) (E := fun u => (u, 0)) (N := (g : Int) + 1) (I := fun u => u 1 1 1 = (w : Int) ∧ u 1 1 2 = (h : Int)) (fun n s x hI _ => l6 hI.1 hI.2 b25) (fun x s hI _ _ => by rw [fA_f (by omega) 1 1 1 (by decide), fA_f (by omega) 1 1 2 (by decide)]; exact hI) _ 0 u ⟨r1, r2⟩ (by decide) (by omega) (by show _ < ((32 : Nat) : Int); omega)
  rw [e2]
  have q := itr_all (f := fA ((4 * (w * h) : Nat) : Int)) (N := (g : Int) + 1) (x := 0) (s := u) (fun y u => PC m (w * h) y.toNat 0 0 u) (by omega) ⟨i0.1, fun t v ht hv => ⟨fun z => by omega, fun _ => Or.inl ⟨i0.2 _ (by omega), fun k hk => absurd hk (by omega)⟩⟩⟩ (fun y v h1 h2 hv => by
    obtain ⟨y', rfl⟩ : ∃ y' : Nat, y = (y' : Int) := ⟨y.toNat, by omega⟩
    exact PC.all L (by omega) hv)
  refine ⟨q.1, fun t v ht hv => ?_⟩
  have z := (q.2 t v ht hv).2 (by omega)
  rw [show ((g : Int) + 1).toNat = g + 1 by omega] at z
  exact z
theorem iscM_x (m : XS) (a : Int) : f_X12_isCrossing m a = (m, if 0 ≤ a ∧ a ≤ m 1 1 1 * m 1 1 2 - 1 then 1 else 0) := by
  simp only [f_X12_isCrossing, g1c_X12_isCrossing, g2c_X12_isCrossing, f_X12_crossings, within_x, show Int.toNat 1 = 1 from rfl, show Int.toNat 2 = 2 from rfl]
theorem isdM_x (m : XS) (a : Int) : f_X12_isDirection m a = (m, if 0 ≤ a ∧ a ≤ 3 then 1 else 0) := by
  simp only [f_X12_isDirection, g1c_X12_isDirection, within_x]
theorem iscC_x (s : XS) (c : Int) : f_X11_isCrossing s c = (s, if 0 ≤ c ∧ c < s 0 1 5 * s 0 1 6 then 1 else 0) := by
  have e0 : f_X11_isCrossing s c = if c < 0 then (s, 0) else if c < s 0 1 5 * s 0 1 6 then (s, 1) else (s, 0) := rfl
  rw [e0]
  by_cases y : c < 0
  · rw [if_pos y, if_neg (fun q => by omega)]
  · rw [if_neg y]
    by_cases z : c < s 0 1 5 * s 0 1 6
    · rw [if_pos z, if_pos ⟨by omega, z⟩]
    · rw [if_neg z, if_neg (fun q => z q.2)]
theorem issC_x (s : XS) (c d : Int) : f_X11_isStand s c d = (s, if (0 ≤ c ∧ c < s 0 1 5 * s 0 1 6) ∧ (0 ≤ d ∧ d < 4) then 1 else 0) := by
  simp only [f_X11_isStand, g1c_X11_isStand, g2b_X11_isStand, g3_X11_isStand, g4_X11_isStand, g5b_X11_isStand, g6_X11_isStand, g7_X11_isStand, g8b_X11_isStand, g9_X11_isStand, g10_X11_isStand, iscC_x]
  by_cases z : 0 ≤ c ∧ c < s 0 1 5 * s 0 1 6
  · simp only [if_pos z, n10, if_false]
    by_cases y : d < 0
    · rw [if_pos y, if_neg (fun q => by omega)]
    · rw [if_neg y]
      by_cases x : d < 4
      · rw [if_pos x, if_pos ⟨z, by omega, x⟩]
      · rw [if_neg x, if_neg (fun q => x q.2.2)]
  · simp only [if_neg z, if_true]
    rw [if_neg (fun q => z q.1)]
theorem chaseM_x (m : XS) (a1 a2 a3 a4 : Int) : f_X12_chase m a1 a2 a3 a4 = if (0 ≤ a1 ∧ a1 ≤ m 1 1 1 * m 1 1 2 - 1) ∧ (0 ≤ a2 ∧ a2 ≤ 3) ∧ (0 ≤ a3 ∧ a3 ≤ m 1 1 1 * m 1 1 2 - 1) ∧ (0 ≤ a4 ∧ a4 ≤ 3) then ((f_X12_laysCatches (xup m 0 0 0 0) 30).1, (f_X12_laysCatches (xup m 0 0 0 0) 30).1 1 22 (Int.toNat (((100 * ((4 * a1) + a2)) + (4 * a3)) + a4))) else (xup m 0 0 0 0, -2) := by
  obtain ⟨M, hM⟩ : ∃ M, M = xup m 0 0 0 0 := ⟨_, rfl⟩
  have e1 : m 1 1 1 = M 1 1 1 := by rw [hM, xup_t (by decide)]
  have e2 : m 1 1 2 = M 1 1 2 := by rw [hM, xup_t (by decide)]
  rw [e1, e2]
  simp only [f_X12_chase, g1w_X12_chase, g2c_X12_chase, g3b_X12_chase, g4_X12_chase, g5_X12_chase, g6c_X12_chase, g7b_X12_chase, g8_X12_chase, g9_X12_chase, g10c_X12_chase, g11b_X12_chase, g12_X12_chase, g13_X12_chase, g14c_X12_chase, g15b_X12_chase, g16_X12_chase, g17_X12_chase, g18c_X12_chase, iscM_x, isdM_x, ← hM]
  by_cases z1 : 0 ≤ a1 ∧ a1 ≤ M 1 1 1 * M 1 1 2 - 1
  · rw [if_pos z1, if_neg (show ¬ (1 : Int) = 0 by decide)]
    by_cases z2 : 0 ≤ a2 ∧ a2 ≤ 3
    · rw [if_pos z2, if_neg (show ¬ (1 : Int) = 0 by decide)]
      by_cases z3 : 0 ≤ a3 ∧ a3 ≤ M 1 1 1 * M 1 1 2 - 1
      · rw [if_pos z3, if_neg (show ¬ (1 : Int) = 0 by decide)]
        by_cases z4 : 0 ≤ a4 ∧ a4 ≤ 3
        · rw [if_pos z4, if_neg (show ¬ (1 : Int) = 0 by decide), if_pos ⟨z1, z2, z3, z4⟩]
        · rw [if_neg z4, if_pos rfl, if_neg (fun q => z4 q.2.2.2)]
      · rw [if_neg z3, if_pos rfl, if_neg (fun q => z3 q.2.2.1)]
    · rw [if_neg z2, if_pos rfl, if_neg (fun q => z2 q.2.1)]
  · rw [if_neg z1, if_pos rfl, if_neg (fun q => z1 q.1)]
/-! posts: the loop that gathers -/
def pS (T : Nat → Int) (b : Int) (r : Int) : Nat → Int → Int
  | 0, _ => r
  | n + 1, x => pS T b (if T (Int.toNat (b + 4 * x)) = -1 then r else Xior r (Xishl 1 x)) n (x + 1)
theorem pS_s {T : Nat → Int} {b r x : Int} {n : Nat} : pS T b r (n + 1) x = pS T b (if T (Int.toNat (b + 4 * x)) = -1 then r else Xior r (Xishl 1 x)) n (x + 1) := rfl
theorem l19 {u : XS} {a1 a2 a3 : Int} {w h : Nat} (h1 : u 1 1 1 = (w : Int)) (h2 : u 1 1 2 = (h : Int)) : ∀ (n : Nat) (r x : Int), 0 ≤ x → x ≤ ((w * h : Nat) : Int) → ((w * h : Nat) : Int) - x < (n : Int) → L19_X12_posts n u a1 a2 a3 r x = (u, pS (u 1 22) (100 * (4 * a1 + a2) + a3) r (((w * h : Nat) : Int) - x).toNat x)
  | 0, r, x, _, q1, q2 => by omega
  | n + 1, r, x, q0, q1, q2 => by
    show g20l_X12_posts (L19_X12_posts n) u a1 a2 a3 r x = _
    have ec : f_X12_crossings u = (u, ((w * h : Nat) : Int)) := by
      rw [Int.natCast_mul, ← h1, ← h2]; rfl
    simp only [g20l_X12_posts, g21c_X12_posts, g22b_X12_posts, g23_X12_posts, g24_X12_posts, g25b_X12_posts, g26_X12_posts, g27_X12_posts, ec]
    by_cases z : x < ((w * h : Nat) : Int)
    · rw [if_pos z, l19 h1 h2 n _ (x + 1) (by omega) (by omega) (by omega), l19 h1 h2 n _ (x + 1) (by omega) (by omega) (by omega)]
      have e : (((w * h : Nat) : Int) - x).toNat = (((w * h : Nat) : Int) - (x + 1)).toNat + 1 := by omega
      rw [e, pS_s]
      have ei : 100 * (4 * a1 + a2) + 4 * x + a3 = 100 * (4 * a1 + a2) + a3 + 4 * x := by omega
      rw [ei]
      by_cases y : u 1 22 (Int.toNat (100 * (4 * a1 + a2) + a3 + 4 * x)) = -1
      · rw [if_pos y, if_pos y]
      · rw [if_neg y, if_neg y]
    · rw [if_neg z]
      have e : (((w * h : Nat) : Int) - x).toNat = 0 := by omega
      rw [e]
      rfl
theorem pS_b {T : Nat → Int} {b : Int} : ∀ (n : Nat) (r x : Int), 0 ≤ x → x + n ≤ 32 → ∀ k, k < 32 → (bz (pS T b r n x) k = true ↔ (bz r k = true ∨ (x ≤ (k : Int) ∧ (k : Int) < x + n ∧ T (Int.toNat (b + 4 * (k : Int))) ≠ -1)))
  | 0, r, x, _, _, k, hk => by
    unfold pS
    exact ⟨Or.inl, fun q => q.elim id (fun q => by omega)⟩
  | n + 1, r, x, h0, h1, k, hk => by
    unfold pS
    rw [pS_b n _ (x + 1) (by omega) (by omega) k hk]
    have ob : T (Int.toNat (b + 4 * x)) ≠ -1 → (bz (Xior r (Xishl 1 x)) k = true ↔ (bz r k = true ∨ (k : Int) = x)) := by
      intro _
      have e : x = ((x.toNat : Nat) : Int) := by omega
      rw [bz_ior, e, bz_one (by omega) hk, Bool.or_eq_true, decide_eq_true_eq]
      constructor
      · rintro (q | q)
        · exact Or.inl q
        · exact Or.inr (by omega)
      · rintro (q | q)
        · exact Or.inl q
        · exact Or.inr (by omega)
    by_cases y : T (Int.toNat (b + 4 * x)) = -1
    · rw [if_pos y]
      constructor
      · rintro (q | ⟨q1, q2, q3⟩)
        · exact Or.inl q
        · exact Or.inr ⟨by omega, by omega, q3⟩
      · rintro (q | ⟨q1, q2, q3⟩)
        · exact Or.inl q
        · refine Or.inr ⟨?_, by omega, q3⟩
          by_cases e : (k : Int) = x
          · rw [e] at q3; exact absurd y q3
          · omega
    · rw [if_neg y, ob y]
      constructor
      · rintro ((q | q) | ⟨q1, q2, q3⟩)
        · exact Or.inl q
        · exact Or.inr ⟨by omega, by omega, by rw [q]; exact y⟩
        · exact Or.inr ⟨by omega, by omega, q3⟩
      · rintro (q | ⟨q1, q2, q3⟩)
        · exact Or.inl (Or.inl q)
        · by_cases e : (k : Int) = x
          · exact Or.inl (Or.inr e)
          · exact Or.inr ⟨by omega, by omega, q3⟩
theorem pS_r {T : Nat → Int} {b : Int} : ∀ (n : Nat) (r x : Int), (-2147483648 ≤ r ∧ r ≤ 2147483647) → -2147483648 ≤ pS T b r n x ∧ pS T b r n x ≤ 2147483647
  | 0, r, x, h => h
  | n + 1, r, x, h => by
    unfold pS
    refine pS_r n _ (x + 1) ?_
    split
    · exact h
    · exact rg_i _
theorem postsM_x (m : XS) (a1 a2 a3 a4 : Int) : f_X12_posts m a1 a2 a3 a4 = if (0 ≤ a1 ∧ a1 ≤ m 1 1 1 * m 1 1 2 - 1) ∧ (0 ≤ a2 ∧ a2 ≤ 3) ∧ (0 ≤ a3 ∧ a3 ≤ 3) then (if 0 ≤ a4 ∧ a4 ≤ 30 then L19_X12_posts (Int.toNat (25 - 0 + 1)) (f_X12_laysCatches (xup m 0 0 0 0) a4).1 a1 a2 a3 0 0 else (xup m 0 0 0 0, -3)) else (xup m 0 0 0 0, -2) := by
  obtain ⟨M, hM⟩ : ∃ M, M = xup m 0 0 0 0 := ⟨_, rfl⟩
  have e1 : m 1 1 1 = M 1 1 1 := by rw [hM, xup_t (by decide)]
  have e2 : m 1 1 2 = M 1 1 2 := by rw [hM, xup_t (by decide)]
  rw [e1, e2]
  simp only [f_X12_posts, g1w_X12_posts, g2c_X12_posts, g3b_X12_posts, g4_X12_posts, g5_X12_posts, g6c_X12_posts, g7b_X12_posts, g8_X12_posts, g9_X12_posts, g10c_X12_posts, g11b_X12_posts, g12_X12_posts, g13_X12_posts, g14c_X12_posts, g15b_X12_posts, g16_X12_posts, g17_X12_posts, g18c_X12_posts, iscM_x, isdM_x, within_x, ← hM]
  by_cases z1 : 0 ≤ a1 ∧ a1 ≤ M 1 1 1 * M 1 1 2 - 1
  · rw [if_pos z1, if_neg (show ¬ (1 : Int) = 0 by decide)]
    by_cases z2 : 0 ≤ a2 ∧ a2 ≤ 3
    · rw [if_pos z2, if_neg (show ¬ (1 : Int) = 0 by decide)]
      by_cases z3 : 0 ≤ a3 ∧ a3 ≤ 3
      · rw [if_pos z3, if_neg (show ¬ (1 : Int) = 0 by decide), if_pos (show (0 ≤ a1 ∧ a1 ≤ M 1 1 1 * M 1 1 2 - 1) ∧ (0 ≤ a2 ∧ a2 ≤ 3) ∧ (0 ≤ a3 ∧ a3 ≤ 3) from ⟨z1, z2, z3⟩)]
        by_cases z4 : 0 ≤ a4 ∧ a4 ≤ 30
        · rw [if_pos z4, if_neg (show ¬ (1 : Int) = 0 by decide), if_pos z4]
        · rw [if_neg z4, if_pos rfl, if_neg z4]
      · rw [if_neg z3, if_pos rfl, if_neg (fun q => z3 q.2.2)]
    · rw [if_neg z2, if_pos rfl, if_neg (fun q => z2 q.2.1)]
  · rw [if_neg z1, if_pos rfl, if_neg (fun q => z1 q.1)]
