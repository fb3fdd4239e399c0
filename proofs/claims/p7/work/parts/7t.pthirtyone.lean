/-! chase, posts in both; what the law's loop keeps for them -/
theorem NX.map {b b' : Nat} {s s' : XS} (h5 : s' 0 b' 5 = s 0 b 5) (h6 : s' 0 b' 6 = s 0 b 6) (h17 : ∀ d, d < 4 → s' 1 (b' + 17) d = s 1 (b + 17) d) (h : NX b s) : NX b' s' := fun d hd c hc => by
  rw [h17 d hd, h5, h6]
  exact h d hd c hc
set_option maxHeartbeats 4000000 in
theorem NX_copy_1_20 {s : XS} (h : NX 20 s) : NX 1 (f_X0_copy s 1 20).1 := by
  simp only [f_X0_copy, g1c_X0_copy, g2c_X0_copy, g3c_X0_copy, g4w_X0_copy, g5w_X0_copy, g6w_X0_copy, g7w_X0_copy, g8w_X0_copy, g9w_X0_copy, f_X4_copy, g1w_X4_copy, g2w_X4_copy, g3w_X4_copy, f_X1_copy, g1w_X1_copy, g2w_X1_copy, g3w_X1_copy, g4w_X1_copy, g5w_X1_copy, g6w_X1_copy, g7w_X1_copy, g8w_X1_copy, g9w_X1_copy, Nat.reduceAdd]
  refine h.map ?_ ?_ (fun d hd => ?_)
  · simp [xup, xcp]
  · simp [xup, xcp]
  · have : (d : Int) < 4 := by omega
    simp [xup, xcp, this]
set_option maxHeartbeats 4000000 in
theorem NX_copy_39_1 {s : XS} (h : NX 1 s) : NX 39 (f_X0_copy s 39 1).1 := by
  simp only [f_X0_copy, g1c_X0_copy, g2c_X0_copy, g3c_X0_copy, g4w_X0_copy, g5w_X0_copy, g6w_X0_copy, g7w_X0_copy, g8w_X0_copy, g9w_X0_copy, f_X4_copy, g1w_X4_copy, g2w_X4_copy, g3w_X4_copy, f_X1_copy, g1w_X1_copy, g2w_X1_copy, g3w_X1_copy, g4w_X1_copy, g5w_X1_copy, g6w_X1_copy, g7w_X1_copy, g8w_X1_copy, g9w_X1_copy, Nat.reduceAdd]
  refine h.map ?_ ?_ (fun d hd => ?_)
  · simp [xup, xcp]
  · simp [xup, xcp]
  · have : (d : Int) < 4 := by omega
    simp [xup, xcp, this]
set_option maxHeartbeats 4000000 in
theorem NX_copy_58_1 {s : XS} (h : NX 1 s) : NX 58 (f_X0_copy s 58 1).1 := by
  simp only [f_X0_copy, g1c_X0_copy, g2c_X0_copy, g3c_X0_copy, g4w_X0_copy, g5w_X0_copy, g6w_X0_copy, g7w_X0_copy, g8w_X0_copy, g9w_X0_copy, f_X4_copy, g1w_X4_copy, g2w_X4_copy, g3w_X4_copy, f_X1_copy, g1w_X1_copy, g2w_X1_copy, g3w_X1_copy, g4w_X1_copy, g5w_X1_copy, g6w_X1_copy, g7w_X1_copy, g8w_X1_copy, g9w_X1_copy, Nat.reduceAdd]
  refine h.map ?_ ?_ (fun d hd => ?_)
  · simp [xup, xcp]
  · simp [xup, xcp]
  · have : (d : Int) < 4 := by omega
    simp [xup, xcp, this]
set_option maxHeartbeats 4000000 in
theorem NX_copy_1_39 {s : XS} (h : NX 39 s) : NX 1 (f_X0_copy s 1 39).1 := by
  simp only [f_X0_copy, g1c_X0_copy, g2c_X0_copy, g3c_X0_copy, g4w_X0_copy, g5w_X0_copy, g6w_X0_copy, g7w_X0_copy, g8w_X0_copy, g9w_X0_copy, f_X4_copy, g1w_X4_copy, g2w_X4_copy, g3w_X4_copy, f_X1_copy, g1w_X1_copy, g2w_X1_copy, g3w_X1_copy, g4w_X1_copy, g5w_X1_copy, g6w_X1_copy, g7w_X1_copy, g8w_X1_copy, g9w_X1_copy, Nat.reduceAdd]
  refine h.map ?_ ?_ (fun d hd => ?_)
  · simp [xup, xcp]
  · simp [xup, xcp]
  · have : (d : Int) < 4 := by omega
    simp [xup, xcp, this]
set_option maxHeartbeats 4000000 in
theorem NX_copy_1_58 {s : XS} (h : NX 58 s) : NX 1 (f_X0_copy s 1 58).1 := by
  simp only [f_X0_copy, g1c_X0_copy, g2c_X0_copy, g3c_X0_copy, g4w_X0_copy, g5w_X0_copy, g6w_X0_copy, g7w_X0_copy, g8w_X0_copy, g9w_X0_copy, f_X4_copy, g1w_X4_copy, g2w_X4_copy, g3w_X4_copy, f_X1_copy, g1w_X1_copy, g2w_X1_copy, g3w_X1_copy, g4w_X1_copy, g5w_X1_copy, g6w_X1_copy, g7w_X1_copy, g8w_X1_copy, g9w_X1_copy, Nat.reduceAdd]
  refine h.map ?_ ?_ (fun d hd => ?_)
  · simp [xup, xcp]
  · simp [xup, xcp]
  · have : (d : Int) < 4 := by omega
    simp [xup, xcp, this]
theorem sF_same {A A' : Nat → Int} (h1 : A' 1 = A 1) (h2 : A' 2 = A 2) (hw : ∀ c, c < 25 → A' (11 + c) = A (11 + c)) {c d : Nat} (hc : c < 25) : sF A' c d = sF A c d := by
  unfold sF
  rw [h1, h2, hw c hc]
theorem gOn_same {A A' : Nat → Int} (h1 : A' 1 = A 1) (h2 : A' 2 = A 2) (hw : ∀ c, c < 25 → A' (11 + c) = A (11 + c)) {x t : Nat} (hx : x < 100) : gOn A' x t = gOn A x t := by
  unfold gOn
  rw [sF_same h1 h2 hw (show x / 4 < 25 by omega), sF_same h1 h2 hw (show x / 4 < 25 by omega)]
theorem CC.same {s : XS} {A A' : Nat → Int} {w h : Nat} (L : Ld s A w h) (h1 : A' 1 = A 1) (h2 : A' 2 = A 2) (hw : ∀ c, c < 25 → A' (11 + c) = A (11 + c)) : ∀ (n t v : Nat), t < 4 * (w * h) → v < 4 * (w * h) → (CC A' n t v ↔ CC A n t v)
  | 0, t, v, ht, hv => by
    have b25 := L.b25
    have e : ∀ k, gOn A' t k = gOn A t k := fun k => gOn_same h1 h2 hw (by omega)
    unfold CC
    simp only [e]
  | n + 1, t, v, ht, hv => by
    have b25 := L.b25
    have e : ∀ k, gOn A' t k = gOn A t k := fun k => gOn_same h1 h2 hw (by omega)
    have e' : ∀ k, gOn A' v k = gOn A v k := fun k => gOn_same h1 h2 hw (by omega)
    unfold CC
    simp only [e, e']
    have ih := fun k j (q : gOn A t k ≠ -1) (r : gOn A v j ≠ -1) => CC.same L h1 h2 hw n _ _ (gon_r L ht q).2 (gon_r L hv r).2
    constructor
    · rintro (q | q)
      · exact Or.inl q
      · refine Or.inr (fun k hk => ?_)
        by_cases z : gOn A t k = -1
        · exact Or.inl z
        · rcases q k hk with y | y | ⟨j, y1, y2, y3⟩
          · exact Or.inl y
          · exact Or.inr (Or.inl y)
          · exact Or.inr (Or.inr ⟨j, y1, y2, (ih k j z y2).mp y3⟩)
    · rintro (q | q)
      · exact Or.inl q
      · refine Or.inr (fun k hk => ?_)
        by_cases z : gOn A t k = -1
        · exact Or.inl z
        · rcases q k hk with y | y | ⟨j, y1, y2, y3⟩
          · exact Or.inl y
          · exact Or.inr (Or.inl y)
          · exact Or.inr (Or.inr ⟨j, y1, y2, (ih k j z y2).mpr y3⟩)
def NN (A : Nat → Int) : Nat := (A 1 * A 2).toNat
theorem Ld.nn {s : XS} {A : Nat → Int} {w h : Nat} (L : Ld s A w h) : NN A = w * h := by
  unfold NN
  rw [L.2.1.2.2.1, L.2.1.2.2.2, ← Int.natCast_mul]
  rfl
theorem HV.zero {s : XS} {A : Nat → Int} {N : Nat} (h3 : s 0 104 3 = 0) (h4 : s 0 104 4 = 0) (hr : ∀ k, -2147483648 ≤ s 1 105 k ∧ s 1 105 k ≤ 2147483647) : HV s A N := ⟨0, h3, by omega, fun g hg => absurd hg (by omega), hr, Or.inl h4⟩
theorem HV.rg {s : XS} {A : Nat → Int} {N : Nat} (h : HV s A N) : ∀ k, -2147483648 ≤ s 1 105 k ∧ s 1 105 k ≤ 2147483647 := by
  obtain ⟨k, -, -, -, q, -⟩ := h
  exact q
theorem HV.same {s u : XS} {A A' : Nat → Int} (hN : Nt 1 s A) (hX : NX 1 s) (h1 : A' 1 = A 1) (h2 : A' 2 = A 2) (hw : ∀ c, c < 25 → A' (11 + c) = A (11 + c)) (e3 : u 0 104 3 = s 0 104 3) (e4 : u 0 104 4 = s 0 104 4) (e5 : u 1 105 = s 1 105) (H : HV s A (NN A)) : HV u A' (NN A') := by
  have en : NN A' = NN A := by unfold NN; rw [h1, h2]
  obtain ⟨k, k1, k2, k3, k4, k5⟩ := H
  refine ⟨k, by rw [e3]; exact k1, k2, fun g hg => ?_, by rw [e5]; exact k4, ?_⟩
  · rw [en, e5]
    intro t hd c ht hh hc
    rw [k3 g hg t hd c ht hh hc]
    rcases Ld_of hN hX with ⟨-, -, q1, q2⟩ | ⟨w, h, L⟩
    · exfalso
      unfold NN at ht
      rw [q1, q2] at ht
      omega
    · rw [L.nn] at ht ⊢
      constructor
      · rintro ⟨y1, y2⟩
        exact ⟨y1, (CC.same L h1 h2 hw g t _ ht (by omega)).mpr y2⟩
      · rintro ⟨y1, y2⟩
        exact ⟨y1, (CC.same L h1 h2 hw g t _ ht (by omega)).mp y2⟩
  · rw [en, e4]
    rcases k5 with q | ⟨q1, q2, q3⟩
    · exact Or.inl q
    · refine Or.inr ⟨q1, q2, fun t v ht hv => ?_⟩
      rcases Ld_of hN hX with ⟨-, -, q1, q2⟩ | ⟨w, h, L⟩
      · exfalso
        unfold NN at ht
        rw [q1, q2] at ht
        omega
      · have q := q3 t v ht hv
        rw [L.nn] at ht hv
        intro y
        exact (CC.same L h1 h2 hw _ t v ht hv).mpr (q ((CC.same L h1 h2 hw _ t v ht hv).mp y))
def RH (s m : XS) : Prop := RN s m ∧ LW s ∧ NX 1 s ∧ (m 1 2 0 ≠ 0 → NX 39 s) ∧ (m 1 2 1 ≠ 0 → NX 58 s) ∧ HV s (m 1 1) (NN (m 1 1))
def phC (t c k : Nat) : Prop := pnC t c k ∨ (t = 3 ∧ c = 77 ∧ k = 10)
theorem RH.mk' {s m u v : XS} (h : RH s m) (hs : ∀ t c k, phC t c k → u t c k = s t c k) (hm : ∀ t c k, pnM t c k → v t c k = m t c k) (hv : HV u (v 1 1) (NN (v 1 1))) : RH u v := by
  obtain ⟨h1, h2, h3, h4, h5, -⟩ := h
  have hs' : ∀ t c k, pnC t c k → u t c k = s t c k := fun t c k q => hs t c k (Or.inl q)
  refine ⟨h1.same hs' hm, ?_, ?_, ?_, ?_, hv⟩
  · unfold LW
    rw [hs 3 77 10 (Or.inr ⟨rfl, rfl, rfl⟩)]
    exact h2
  · exact h3.same (fun d => hs' _ _ _ (by unfold pnC; omega)) (hs' _ _ _ (by unfold pnC; omega)) (hs' _ _ _ (by unfold pnC; omega))
  · rw [hm 1 2 0 (by unfold pnM; omega)]
    exact fun q => (h4 q).same (fun d => hs' _ _ _ (by unfold pnC; omega)) (hs' _ _ _ (by unfold pnC; omega)) (hs' _ _ _ (by unfold pnC; omega))
  · rw [hm 1 2 1 (by unfold pnM; omega)]
    exact fun q => (h5 q).same (fun d => hs' _ _ _ (by unfold pnC; omega)) (hs' _ _ _ (by unfold pnC; omega)) (hs' _ _ _ (by unfold pnC; omega))
theorem RH.same {s m u v : XS} (hs : ∀ t c k, phC t c k → u t c k = s t c k) (h4 : ∀ k, u 0 104 k = s 0 104 k) (h5 : ∀ k, u 1 105 k = s 1 105 k) (hm : ∀ t c k, pnM t c k → v t c k = m t c k) (h : RH s m) : RH u v := by
  refine h.mk' hs hm ?_
  obtain ⟨h1, h2, h3, -, -, h6⟩ := h
  exact HV.same h1.2.2.2.2.1 h3 (hm _ _ _ (by unfold pnM; omega)) (hm _ _ _ (by unfold pnM; omega)) (fun c hc => hm _ _ _ (by unfold pnM; omega)) (h4 3) (h4 4) (funext h5) h6
theorem RH_thr {s m : XS} (h : RH s m) : RH s (xup m 0 0 0 0) := h.same (fun _ _ _ _ => rfl) (fun _ => rfl) (fun _ => rfl) (fun t c k q => thr_f (by unfold pnM at q; omega))
theorem FC.ph {u s : XS} (F : FC u s) : ∀ t c k, phC t c k → u t c k = s t c k := fun t c k q => F t c k (by unfold phC pnC at q; omega) (by unfold phC pnC at q; omega)
theorem F22.pn {v m : XS} (F : F22 v (xup m 0 0 0 0)) : ∀ t c k, pnM t c k → v t c k = m t c k := fun t c k q => (F t c k (by unfold pnM at q; omega)).trans (thr_f (by unfold pnM at q; omega))
theorem chaseC_x (s : XS) (a1 a2 a3 a4 : Int) : f_X11_chase s a1 a2 a3 a4 = if ((0 ≤ a1 ∧ a1 < s 0 1 5 * s 0 1 6) ∧ (0 ≤ a2 ∧ a2 < 4)) ∧ ((0 ≤ a3 ∧ a3 < s 0 1 5 * s 0 1 6) ∧ (0 ≤ a4 ∧ a4 < 4)) then L9_X11_chase (Int.toNat (31 - 0 + 1)) s a1 a2 a3 a4 0 else (s, -2) := by
  simp only [f_X11_chase, g1c_X11_chase, g2b_X11_chase, g3_X11_chase, g4_X11_chase, g5c_X11_chase, g6b_X11_chase, g7_X11_chase, g8_X11_chase, issC_x]
  by_cases z1 : (0 ≤ a1 ∧ a1 < s 0 1 5 * s 0 1 6) ∧ (0 ≤ a2 ∧ a2 < 4)
  · rw [if_pos z1, if_neg (show ¬ (1 : Int) = 0 by decide)]
    by_cases z2 : (0 ≤ a3 ∧ a3 < s 0 1 5 * s 0 1 6) ∧ (0 ≤ a4 ∧ a4 < 4)
    · rw [if_pos z2, if_neg (show ¬ (1 : Int) = 0 by decide), if_pos ⟨z1, z2⟩]
    · rw [if_neg z2, if_pos rfl, if_neg (fun q => z2 q.2)]
  · rw [if_neg z1, if_pos rfl, if_neg (fun q => z1 q.1)]
theorem RH_chase {s m : XS} {a1 a2 a3 a4 : Int} (h : RH s m) : (f_X11_chase s a1 a2 a3 a4).2 = (f_X12_chase m a1 a2 a3 a4).2 ∧ RH (f_X11_chase s a1 a2 a3 a4).1 (f_X12_chase m a1 a2 a3 a4).1 := by
  have hN := h.1.2.2.2.2.1
  rw [chaseC_x, chaseM_x]
  have e1 : m 1 1 1 = s 0 1 5 := hN.1
  have e2 : m 1 1 2 = s 0 1 6 := hN.2.1
  rw [e1, e2]
  by_cases z : ((0 ≤ a1 ∧ a1 < s 0 1 5 * s 0 1 6) ∧ (0 ≤ a2 ∧ a2 < 4)) ∧ ((0 ≤ a3 ∧ a3 < s 0 1 5 * s 0 1 6) ∧ (0 ≤ a4 ∧ a4 < 4))
  · rw [if_pos z, if_pos (show (0 ≤ a1 ∧ a1 ≤ s 0 1 5 * s 0 1 6 - 1) ∧ (0 ≤ a2 ∧ a2 ≤ 3) ∧ (0 ≤ a3 ∧ a3 ≤ s 0 1 5 * s 0 1 6 - 1) ∧ (0 ≤ a4 ∧ a4 ≤ 3) from ⟨⟨z.1.1.1, by have := z.1.1.2; omega⟩, ⟨z.1.2.1, by have := z.1.2.2; omega⟩, ⟨z.2.1.1, by have := z.2.1.2; omega⟩, ⟨z.2.2.1, by have := z.2.2.2; omega⟩⟩)]
    rcases Ld_of hN h.2.2.1 with ⟨q1, q2, -, -⟩ | ⟨w, hh, L⟩
    · exfalso
      have := z.1.1
      rw [q1, q2] at this
      omega
    · have b25 := L.b25
      have HVs := h.2.2.2.2.2
      rw [L.nn] at HVs
      have ewh : s 0 1 5 * s 0 1 6 = ((w * hh : Nat) : Int) := by rw [L.2.1.1, L.2.1.2.1, Int.natCast_mul]
      rw [ewh] at z
      obtain ⟨c1, rfl⟩ : ∃ c1 : Nat, a1 = (c1 : Int) := ⟨a1.toNat, by omega⟩
      obtain ⟨c2, rfl⟩ : ∃ c2 : Nat, a2 = (c2 : Int) := ⟨a2.toNat, by omega⟩
      obtain ⟨c3, rfl⟩ : ∃ c3 : Nat, a3 = (c3 : Int) := ⟨a3.toNat, by omega⟩
      obtain ⟨c4, rfl⟩ : ∃ c4 : Nat, a4 = (c4 : Int) := ⟨a4.toNat, by omega⟩
      have ht : 4 * c1 + c2 < 4 * (w * hh) := by omega
      have hv : 4 * c3 + c4 < 4 * (w * hh) := by omega
      obtain ⟨k1, k2, k3⟩ := ch_l (a1 := c1) (a2 := c2) (c := c3) (hd := c4) rfl ht (by omega) (by omega) b25 (Int.toNat (31 - 0 + 1)) s 0 (by omega) (by show (31 : Int) - 0 < ((32 : Nat) : Int); decide) L HVs (fun j hj => absurd hj (by omega))
      have m11 : (xup m 0 0 0 0) 1 1 = m 1 1 := funext fun k => xup_t (by decide)
      have LM : Ld s ((xup m 0 0 0 0) 1 1) w hh := by rw [m11]; exact L
      obtain ⟨r1, r2⟩ := lays_v LM (g := 30) (by decide)
      have r3 := r2 _ _ ht hv
      rw [m11] at r3
      rw [show ((0 : Nat) : Int) = 0 from rfl] at k1 k2 k3
      rw [show ((30 : Nat) : Int) = 30 from rfl] at r1 r3
      rw [show 30 + 1 = 31 from rfl] at r3
      clear r2
      generalize L9_X11_chase (Int.toNat (31 - 0 + 1)) s (c1 : Int) (c2 : Int) (c3 : Int) (c4 : Int) 0 = r at *
      generalize (f_X12_laysCatches (xup m 0 0 0 0) 30).1 = v at *
      dsimp only
      rw [show Int.toNat (((100 * ((4 * (c1 : Int)) + (c2 : Int))) + (4 * (c3 : Int))) + (c4 : Int)) = 100 * (4 * c1 + c2) + (4 * c3 + c4) by omega]
      refine ⟨TV.eq k3 r3, RH.mk' h k2.ph r1.pn ?_⟩
      rw [r1.row, m11, L.nn]
      exact k1
  · rw [if_neg z, if_neg (fun q => z ⟨⟨⟨q.1.1, by have := q.1.2; omega⟩, q.2.1.1, by have := q.2.1.2; omega⟩, ⟨q.2.2.1.1, by have := q.2.2.1.2; omega⟩, q.2.2.2.1, by have := q.2.2.2.2; omega⟩)]
    exact ⟨rfl, RH_thr h⟩
theorem postsC_x (s : XS) (a1 a2 a3 a4 : Int) : f_X11_posts s a1 a2 a3 a4 = if ((0 ≤ a1 ∧ a1 < s 0 1 5 * s 0 1 6) ∧ (0 ≤ a2 ∧ a2 < 4)) ∧ (0 ≤ a3 ∧ a3 < 4) then (if 0 ≤ a4 ∧ a4 ≤ 30 then fm_X3_catching s ((4 * a1) + a2) a3 a4 else (s, -3)) else (s, -2) := by
  simp only [f_X11_posts, g1c_X11_posts, g2b_X11_posts, g3_X11_posts, g4_X11_posts, g5b_X11_posts, g6_X11_posts, g7_X11_posts, g8b_X11_posts, g9_X11_posts, g10_X11_posts, g11b_X11_posts, g12_X11_posts, g13_X11_posts, g14b_X11_posts, g15_X11_posts, g16_X11_posts, g17c_X11_posts, issC_x]
  by_cases z1 : (0 ≤ a1 ∧ a1 < s 0 1 5 * s 0 1 6) ∧ (0 ≤ a2 ∧ a2 < 4)
  · rw [if_pos z1, if_neg (show ¬ (1 : Int) = 0 by decide)]
    by_cases z2 : a3 < 0
    · rw [if_pos z2, if_neg (fun q => by have := q.2; omega)]
    · rw [if_neg z2]
      by_cases z3 : 3 < a3
      · rw [if_pos z3, if_neg (fun q => by have := q.2; omega)]
      · rw [if_neg z3, if_pos (show ((0 ≤ a1 ∧ a1 < s 0 1 5 * s 0 1 6) ∧ (0 ≤ a2 ∧ a2 < 4)) ∧ (0 ≤ a3 ∧ a3 < 4) from ⟨z1, by omega, by omega⟩)]
        by_cases z4 : a4 < 0
        · rw [if_pos z4, if_neg (fun q => by omega)]
        · rw [if_neg z4]
          by_cases z5 : 30 < a4
          · rw [if_pos z5, if_neg (fun q => by omega)]
          · rw [if_neg z5, if_pos (show 0 ≤ a4 ∧ a4 ≤ 30 from ⟨by omega, by omega⟩)]
  · rw [if_neg z1, if_pos rfl, if_neg (fun q => z1 q.1)]
theorem RH_posts {s m : XS} {a1 a2 a3 a4 : Int} (h : RH s m) : (f_X11_posts s a1 a2 a3 a4).2 = (f_X12_posts m a1 a2 a3 a4).2 ∧ RH (f_X11_posts s a1 a2 a3 a4).1 (f_X12_posts m a1 a2 a3 a4).1 := by
  have hN := h.1.2.2.2.2.1
  rw [postsC_x, postsM_x]
  have e1 : m 1 1 1 = s 0 1 5 := hN.1
  have e2 : m 1 1 2 = s 0 1 6 := hN.2.1
  rw [e1, e2]
  by_cases z : ((0 ≤ a1 ∧ a1 < s 0 1 5 * s 0 1 6) ∧ (0 ≤ a2 ∧ a2 < 4)) ∧ (0 ≤ a3 ∧ a3 < 4)
  · rw [if_pos z, if_pos (show (0 ≤ a1 ∧ a1 ≤ s 0 1 5 * s 0 1 6 - 1) ∧ (0 ≤ a2 ∧ a2 ≤ 3) ∧ (0 ≤ a3 ∧ a3 ≤ 3) from ⟨⟨z.1.1.1, by have := z.1.1.2; omega⟩, ⟨z.1.2.1, by have := z.1.2.2; omega⟩, ⟨z.2.1, by have := z.2.2; omega⟩⟩)]
    by_cases z4 : 0 ≤ a4 ∧ a4 ≤ 30
    · rw [if_pos z4, if_pos z4]
      rcases Ld_of hN h.2.2.1 with ⟨q1, q2, -, -⟩ | ⟨w, hh, L⟩
      · exfalso
        have := z.1.1
        rw [q1, q2] at this
        omega
      · have b25 := L.b25
        have HVs := h.2.2.2.2.2
        rw [L.nn] at HVs
        have ewh : s 0 1 5 * s 0 1 6 = ((w * hh : Nat) : Int) := by rw [L.2.1.1, L.2.1.2.1, Int.natCast_mul]
        rw [ewh] at z
        obtain ⟨c1, rfl⟩ : ∃ c1 : Nat, a1 = (c1 : Int) := ⟨a1.toNat, by omega⟩
        obtain ⟨c2, rfl⟩ : ∃ c2 : Nat, a2 = (c2 : Int) := ⟨a2.toNat, by omega⟩
        obtain ⟨c3, rfl⟩ : ∃ c3 : Nat, a3 = (c3 : Int) := ⟨a3.toNat, by omega⟩
        obtain ⟨c4, rfl⟩ : ∃ c4 : Nat, a4 = (c4 : Int) := ⟨a4.toNat, by omega⟩
        have ht : 4 * c1 + c2 < 4 * (w * hh) := by omega
        obtain ⟨k1, k2, k3, k4⟩ := cat_x (hd := c3) (g := c4) ht (by omega) (by omega) L HVs
        rw [show (4 * (c1 : Int)) + (c2 : Int) = ((4 * c1 + c2 : Nat) : Int) by omega]
        have m11 : (xup m 0 0 0 0) 1 1 = m 1 1 := funext fun k => xup_t (by decide)
        have LM : Ld s ((xup m 0 0 0 0) 1 1) w hh := by rw [m11]; exact L
        obtain ⟨r1, r2⟩ := lays_v LM (g := c4) (by omega)
        generalize (f_X12_laysCatches (xup m 0 0 0 0) (c4 : Int)).1 = v at *
        generalize fm_X3_catching s ((4 * c1 + c2 : Nat) : Int) (c3 : Int) (c4 : Int) = r at *
        have v1 : v 1 1 1 = (w : Int) := by rw [r1.row, m11]; exact L.2.1.2.2.1
        have v2 : v 1 1 2 = (hh : Int) := by rw [r1.row, m11]; exact L.2.1.2.2.2
        rw [l19 v1 v2 _ 0 0 (by decide) (by omega) (by show _ < ((26 : Nat) : Int); omega)]
        refine ⟨?_, h.mk' k2.ph r1.pn ?_⟩
        · refine bz_ext k3 (pS_r _ _ _ (by decide)) (fun k hk => ?_)
          have p := pS_b (T := v 1 22) (b := 100 * (4 * (c1 : Int) + (c2 : Int)) + (c3 : Int)) (((w * hh : Nat) : Int) - 0).toNat 0 0 (by decide) (by omega) k hk
          have q := k4 k hk
          have pq : bz r.2 k = true ↔ bz (pS (v 1 22) (100 * (4 * (c1 : Int) + (c2 : Int)) + (c3 : Int)) 0 (((w * hh : Nat) : Int) - 0).toNat 0) k = true := by
            rw [p, q, bz_0]
            constructor
            · rintro ⟨y1, y2⟩
              have t := r2 (4 * c1 + c2) (4 * k + c3) ht (by omega)
              rw [m11] at t
              refine Or.inr ⟨by omega, by omega, ?_⟩
              rw [show Int.toNat (100 * (4 * (c1 : Int) + (c2 : Int)) + (c3 : Int) + 4 * (k : Int)) = 100 * (4 * c1 + c2) + (4 * k + c3) by omega]
              exact t.ne.mpr y2
            · rintro (y | ⟨y1, y2, y3⟩)
              · cases y
              · have t := r2 (4 * c1 + c2) (4 * k + c3) ht (by omega)
                rw [m11] at t
                rw [show Int.toNat (100 * (4 * (c1 : Int) + (c2 : Int)) + (c3 : Int) + 4 * (k : Int)) = 100 * (4 * c1 + c2) + (4 * k + c3) by omega] at y3
                exact ⟨by omega, t.ne.mp y3⟩
          cases e1 : bz r.2 k <;> cases e2 : bz (pS (v 1 22) (100 * (4 * (c1 : Int) + (c2 : Int)) + (c3 : Int)) 0 (((w * hh : Nat) : Int) - 0).toNat 0) k <;> simp only [e1, e2] at pq ⊢ <;> simp at pq
        · show HV r.1 (v 1 1) (NN (v 1 1))
          rw [r1.row, m11, L.nn]
          exact k1
    · rw [if_neg z4, if_neg z4]
      exact ⟨rfl, RH_thr h⟩
  · rw [if_neg z, if_neg (fun q => z ⟨⟨⟨q.1.1, by have := q.1.2; omega⟩, q.2.1.1, by have := q.2.1.2; omega⟩, q.2.2.1, by have := q.2.2.2; omega⟩)]
    exact ⟨rfl, RH_thr h⟩
