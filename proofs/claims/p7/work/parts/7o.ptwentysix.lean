/-! watch and thief: the reference's table -/
theorem CC.zero {A : Nat → Int} {n t w : Nat} (h : t / 4 = w / 4) : CC A n t w := by
  cases n with
  | zero => exact Or.inl h
  | succ n => exact Or.inl h
/-- a table that is right up to n rounds, at all places -/
def TP (A : Nat → Int) (T : Nat → Int) (N n : Nat) : Prop := ∀ t v, t < 4 * N → v < 4 * N → ∀ k, k + 1 ≤ n → ((0 ≤ T (100 * t + v) ∧ T (100 * t + v) ≤ (k : Int)) ↔ CC A k t v)
theorem wAns_iff {s : XS} {A T : Nat → Int} {w h : Nat} (L : Ld s A w h) {n to v : Nat} (hT : TP A T (w * h) (n + 1)) (hto : to < 4 * (w * h)) (hv : v < 4 * (w * h)) : wAns A T (n + 1) to v ↔ ∃ j, j < 2 ∧ gOn A v j ≠ -1 ∧ CC A n to (gOn A v j).toNat := by
  constructor
  · rintro ⟨-, j, q1, q2, q3⟩
    have b := (gon_r L hv q2).2
    refine ⟨j, q1, q2, ?_⟩
    rcases q3 with q3 | q3
    · exact CC.zero q3.symm
    · exact (hT to _ hto b n (Nat.le_refl _)).mp ⟨q3.1, by omega⟩
  · rintro ⟨j, q1, q2, q3⟩
    have b := (gon_r L hv q2).2
    have z := (hT to _ hto b n (Nat.le_refl _)).mpr q3
    exact ⟨by omega, j, q1, q2, Or.inr ⟨z.1, by omega⟩⟩
theorem sure_v {s m : XS} {w h : Nat} (L : Ld s (m 1 1) w h) {n t v : Nat} (ht : t < 4 * (w * h)) (hv : v < 4 * (w * h)) (hT : TP (m 1 1) (m 1 22) (w * h) n) : f_X12_isSure m (t : Int) (v : Int) (n : Int) = (m, @ite Int (CC (m 1 1) n t v) (Classical.propDecidable _) 1 0) := by
  have e0 : f_X12_isSure m (t : Int) (v : Int) (n : Int) = if (t : Int) / 4 = (v : Int) / 4 then (m, 1) else L4_X12_isSure 3 m (t : Int) (v : Int) (n : Int) 0 := rfl
  rw [e0]
  by_cases z : t / 4 = v / 4
  · rw [if_pos (by omega), if_pos (CC.zero z)]
  · rw [if_neg (by omega)]
    have g0 : f_X12_goesOn m (t : Int) 0 = (m, gOn (m 1 1) t 0) := gon_x L (t := 0) ht (by decide)
    have g1 : f_X12_goesOn m (t : Int) 1 = (m, gOn (m 1 1) t 1) := gon_x L (t := 1) ht (by decide)
    have r0 := gon_r L (t := 0) ht
    have r1 := gon_r L (t := 1) ht
    -- what a going must meet
    have V : ∀ k, k < 2 → ∀ (R : XS → Int → Int → Int → Int → XR) (x4 : Int), gOn (m 1 1) t k ≠ -1 → L16_X12_isSure R 3 m (t : Int) (v : Int) (n : Int) x4 (gOn (m 1 1) t k) 0 0 = @ite XR (wAns (m 1 1) (m 1 22) n (gOn (m 1 1) t k).toNat v) (Classical.propDecidable _) (R m (t : Int) (v : Int) (n : Int) (x4 + 1)) (m, 0) := by
      intro k hk R x4 q
      have b := gon_r L ht q
      have e : gOn (m 1 1) t k = (((gOn (m 1 1) t k).toNat : Nat) : Int) := by omega
      rw [e]
      exact s16v L hv
    have fin : ∀ k, k < 2 → ((gOn (m 1 1) t k = -1 ∨ (v : Int) / 4 = gOn (m 1 1) t k / 4) ↔ (gOn (m 1 1) t k = -1 ∨ (gOn (m 1 1) t k).toNat / 4 = v / 4)) := by
      intro k hk
      by_cases q : gOn (m 1 1) t k = -1
      · exact ⟨fun _ => Or.inl q, fun _ => Or.inl q⟩
      · have b := gon_r L ht q
        constructor
        · rintro (y | y)
          · exact Or.inl y
          · exact Or.inr (by omega)
        · rintro (y | y)
          · exact Or.inl y
          · exact Or.inr (by omega)
    have CCn : CC (m 1 1) n t v ↔ ∀ k, k < 2 → gOn (m 1 1) t k = -1 ∨ (gOn (m 1 1) t k).toNat / 4 = v / 4 ∨ wAns (m 1 1) (m 1 22) n (gOn (m 1 1) t k).toNat v := by
      cases n with
      | zero =>
        constructor
        · rintro (q | q)
          · exact absurd q z
          · intro k hk
            exact (q k hk).elim Or.inl (fun y => Or.inr (Or.inl y))
        · intro q
          refine Or.inr (fun k hk => ?_)
          rcases q k hk with y | y | y
          · exact Or.inl y
          · exact Or.inr y
          · exact absurd y.1 (by omega)
      | succ n =>
        have W : ∀ k, k < 2 → gOn (m 1 1) t k ≠ -1 → (wAns (m 1 1) (m 1 22) (n + 1) (gOn (m 1 1) t k).toNat v ↔ ∃ j, j < 2 ∧ gOn (m 1 1) v j ≠ -1 ∧ CC (m 1 1) n (gOn (m 1 1) t k).toNat (gOn (m 1 1) v j).toNat) := fun k hk q => wAns_iff L hT (gon_r L ht q).2 hv
        constructor
        · rintro (q | q)
          · exact absurd q z
          · intro k hk
            by_cases y : gOn (m 1 1) t k = -1
            · exact Or.inl y
            · rcases q k hk with u | u | u
              · exact absurd u y
              · exact Or.inr (Or.inl u)
              · exact Or.inr (Or.inr ((W k hk y).mpr u))
        · intro q
          refine Or.inr (fun k hk => ?_)
          by_cases y : gOn (m 1 1) t k = -1
          · exact Or.inl y
          · rcases q k hk with u | u | u
            · exact absurd u y
            · exact Or.inr (Or.inl u)
            · exact Or.inr (Or.inr ((W k hk y).mp u))
    -- the second going
    have S1 : L4_X12_isSure 2 m (t : Int) (v : Int) (n : Int) 1 = (m, @ite Int (gOn (m 1 1) t 1 = -1 ∨ (gOn (m 1 1) t 1).toNat / 4 = v / 4 ∨ wAns (m 1 1) (m 1 22) n (gOn (m 1 1) t 1).toNat v) (Classical.propDecidable _) 1 0) := by
      rw [s4 (n := 1) (x4 := 1) g1 (by decide)]
      by_cases q : gOn (m 1 1) t 1 = -1 ∨ (gOn (m 1 1) t 1).toNat / 4 = v / 4
      · rw [if_pos ((fin 1 (by decide)).mpr q), s4e (n := 0) (by decide), if_pos (q.elim Or.inl (fun y => Or.inr (Or.inl y)))]
      · rw [if_neg (fun y => q ((fin 1 (by decide)).mp y)), V 1 (by decide) _ _ (fun y => q (Or.inl y)), s4e (n := 0) (by decide)]
        by_cases u : wAns (m 1 1) (m 1 22) n (gOn (m 1 1) t 1).toNat v
        · rw [if_pos u, if_pos (Or.inr (Or.inr u))]
        · rw [if_neg u, if_neg (fun y => y.elim (fun y => q (Or.inl y)) (fun y => y.elim (fun y => q (Or.inr y)) u))]
    rw [s4 (n := 2) (x4 := 0) g0 (by decide)]
    by_cases q : gOn (m 1 1) t 0 = -1 ∨ (gOn (m 1 1) t 0).toNat / 4 = v / 4
    · rw [if_pos ((fin 0 (by decide)).mpr q), Int.zero_add, S1]
      by_cases u : gOn (m 1 1) t 1 = -1 ∨ (gOn (m 1 1) t 1).toNat / 4 = v / 4 ∨ wAns (m 1 1) (m 1 22) n (gOn (m 1 1) t 1).toNat v
      · rw [if_pos u, if_pos (CCn.mpr (fun k hk => by
          rcases (show k = 0 ∨ k = 1 by omega) with rfl | rfl
          · exact q.elim Or.inl (fun y => Or.inr (Or.inl y))
          · exact u))]
      · rw [if_neg u, if_neg (fun y => u (CCn.mp y 1 (by decide)))]
    · rw [if_neg (fun y => q ((fin 0 (by decide)).mp y)), V 0 (by decide) _ _ (fun y => q (Or.inl y)), Int.zero_add, S1]
      by_cases a : wAns (m 1 1) (m 1 22) n (gOn (m 1 1) t 0).toNat v
      · rw [if_pos a]
        by_cases u : gOn (m 1 1) t 1 = -1 ∨ (gOn (m 1 1) t 1).toNat / 4 = v / 4 ∨ wAns (m 1 1) (m 1 22) n (gOn (m 1 1) t 1).toNat v
        · rw [if_pos u, if_pos (CCn.mpr (fun k hk => by
            rcases (show k = 0 ∨ k = 1 by omega) with rfl | rfl
            · exact Or.inr (Or.inr a)
            · exact u))]
        · rw [if_neg u, if_neg (fun y => u (CCn.mp y 1 (by decide)))]
      · rw [if_neg a, if_neg (fun y => (CCn.mp y 0 (by decide)).elim (fun y => q (Or.inl y)) (fun y => y.elim (fun y => q (Or.inr y)) a))]
/-! the table is laid -/
noncomputable def fC (n t : Int) (y : Int) (u : XS) : XS := if u 1 22 (Int.toNat (100 * t + y)) = -1 then (if (f_X12_isSure u t y n).2 = 0 then u else xup u 1 22 (Int.toNat (100 * t + y)) (Xi2b (Xi2b n))) else u
theorem i2b_nn : ∀ n : Nat, n < 128 → Xi2b (Xi2b (n : Int)) = (n : Int) := by decide +kernel
def F22 (u m : XS) : Prop := ∀ t c k, ¬ (t = 1 ∧ c = 22) → u t c k = m t c k
theorem F22.up {u m : XS} {k : Nat} {v : Int} (h : F22 u m) : F22 (xup u 1 22 k v) m := fun t c j q => by
  rw [← h t c j q]
  unfold xup
  exact if_neg (fun y => q ⟨y.1, y.2.1⟩)
theorem F22.row {u m : XS} (h : F22 u m) : u 1 1 = m 1 1 := funext fun k => h 1 1 k (by omega)
/-- the table in round n, at a place (t0, y) -/
def PC (m : XS) (N n t0 : Nat) (y : Int) (u : XS) : Prop := F22 u m ∧ ∀ t v, t < 4 * N → v < 4 * N → ((t < t0 ∨ (t = t0 ∧ (v : Int) < y)) → TV (m 1 1) (n + 1) (u 1 22 (100 * t + v)) t v) ∧ (¬ (t < t0 ∨ (t = t0 ∧ (v : Int) < y)) → TV (m 1 1) n (u 1 22 (100 * t + v)) t v)
theorem PC.tp {m u : XS} {N n t0 : Nat} {y : Int} (h : PC m N n t0 y u) : TP (m 1 1) (u 1 22) N n := fun t v ht hv k hk => by
  obtain ⟨a, b⟩ := h.2 t v ht hv
  by_cases q : t < t0 ∨ (t = t0 ∧ (v : Int) < y)
  · exact (a q).lo (by omega)
  · exact (b q).lo (by omega)
theorem PC.st {s m u : XS} {w h n t0 y : Nat} (L : Ld s (m 1 1) w h) (hn : n < 128) (ht0 : t0 < 4 * (w * h)) (hy : y < 4 * (w * h)) (H : PC m (w * h) n t0 (y : Int) u) : PC m (w * h) n t0 ((y : Int) + 1) (fC (n : Int) (t0 : Int) (y : Int) u) := by
  have b25 := L.b25
  have tp := H.tp
  have row := H.1.row
  have L2 : Ld s (u 1 1) w h := by rw [row]; exact L
  have sv := sure_v L2 ht0 hy (n := n) (by rw [row]; exact tp)
  rw [row] at sv
  have ix : Int.toNat (100 * (t0 : Int) + (y : Int)) = 100 * t0 + y := by omega
  have cur := (H.2 t0 y ht0 hy).2 (by omega)
  have other : ∀ u' : XS, F22 u' m → (∀ k, k ≠ 100 * t0 + y → u' 1 22 k = u 1 22 k) → TV (m 1 1) (n + 1) (u' 1 22 (100 * t0 + y)) t0 y → PC m (w * h) n t0 ((y : Int) + 1) u' := by
    intro u' f1 f2 f3
    refine ⟨f1, fun t v ht hv => ?_⟩
    obtain ⟨a, b⟩ := H.2 t v ht hv
    by_cases q : t = t0 ∧ v = y
    · obtain ⟨rfl, rfl⟩ := q
      exact ⟨fun _ => f3, fun z => absurd (Or.inr ⟨rfl, by omega⟩) z⟩
    · rw [f2 _ (by omega)]
      exact ⟨fun z => a (by omega), fun z => b (by omega)⟩
  unfold fC
  rw [ix, sv]
  by_cases e : u 1 22 (100 * t0 + y) = -1
  · rw [if_pos e]
    have none : ∀ k, k < n → ¬ CC (m 1 1) k t0 y := by
      rcases cur with q | ⟨k, -, q, -⟩
      · exact q.2
      · omega
    by_cases c : CC (m 1 1) n t0 y
    · have e1 : ((u, @ite Int (CC (m 1 1) n t0 y) (Classical.propDecidable _) 1 0) : XR).2 = 1 := if_pos c
      rw [e1, if_neg (by decide)]
      refine other _ H.1.up (fun k hk => xup_k hk) ?_
      rw [xup_s, i2b_nn n hn]
      exact Or.inr ⟨n, by omega, rfl, c, none⟩
    · have e1 : ((u, @ite Int (CC (m 1 1) n t0 y) (Classical.propDecidable _) 1 0) : XR).2 = 0 := if_neg c
      rw [e1, if_pos rfl]
      refine other _ H.1 (fun _ _ => rfl) (Or.inl ⟨e, fun k hk => ?_⟩)
      by_cases z : k = n
      · rw [z]; exact c
      · exact none k (by omega)
  · rw [if_neg e]
    refine other _ H.1 (fun _ _ => rfl) ?_
    rcases cur with q | ⟨k, q1, q2, q3, q4⟩
    · exact absurd q.1 e
    · exact Or.inr ⟨k, by omega, q2, q3, q4⟩
theorem PC.row {s m u : XS} {w h n t0 : Nat} (L : Ld s (m 1 1) w h) (hn : n < 128) (ht0 : t0 < 4 * (w * h)) (H : PC m (w * h) n t0 0 u) : PC m (w * h) n (t0 + 1) 0 (itr (fC (n : Int) (t0 : Int)) (((4 * (w * h) : Nat) : Int) - 0).toNat 0 u) := by
  have q := itr_all (f := fC (n : Int) (t0 : Int)) (N := ((4 * (w * h) : Nat) : Int)) (x := 0) (s := u) (fun y u => PC m (w * h) n t0 y u) (by omega) H (fun y u h1 h2 hu => by
    obtain ⟨y', rfl⟩ : ∃ y' : Nat, y = (y' : Int) := ⟨y.toNat, by omega⟩
    exact PC.st L hn ht0 (by omega) hu)
  refine ⟨q.1, fun t v ht hv => ?_⟩
  obtain ⟨a, b⟩ := q.2 t v ht hv
  exact ⟨fun z => a (by omega), fun z => b (by omega)⟩
noncomputable def fR (N : Int) (n : Int) (t : Int) (u : XS) : XS := itr (fC n t) (N - 0).toNat 0 u
theorem PC.all {s m u : XS} {w h n : Nat} (L : Ld s (m 1 1) w h) (hn : n < 128) (H : PC m (w * h) n 0 0 u) : PC m (w * h) (n + 1) 0 0 (itr (fR ((4 * (w * h) : Nat) : Int) (n : Int)) (((4 * (w * h) : Nat) : Int) - 0).toNat 0 u) := by
  have q := itr_all (f := fR ((4 * (w * h) : Nat) : Int) (n : Int)) (N := ((4 * (w * h) : Nat) : Int)) (x := 0) (s := u) (fun y u => PC m (w * h) n y.toNat 0 u) (by omega) H (fun y u h1 h2 hu => by
    obtain ⟨y', rfl⟩ : ∃ y' : Nat, y = (y' : Int) := ⟨y.toNat, by omega⟩
    have z := PC.row L hn (t0 := y') (by omega) hu
    exact z)
  refine ⟨q.1, fun t v ht hv => ?_⟩
  obtain ⟨a, b⟩ := q.2 t v ht hv
  exact ⟨fun z => by omega, fun _ => a (by omega)⟩
